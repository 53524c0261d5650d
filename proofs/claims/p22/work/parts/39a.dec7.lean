noncomputable def ds39acX11_turn_9 : List UInt8 := 79 :: 132 :: 2 :: 255 :: 167 :: 255 :: 117 :: 42 :: 180 :: 0 :: 63 :: 27 :: 46 :: 172 :: []
noncomputable def ds39acX11_turn_8 : List UInt8 := 132 :: 2 :: 1 :: 167 :: 0 :: 17 :: 42 :: 180 :: 0 :: 63 :: 29 :: 42 :: 29 :: 182 :: 1 :: 5 :: ds39acX11_turn_9
noncomputable def ds39acX11_turn_7 : List UInt8 := 2 :: 160 :: 0 :: 21 :: 42 :: 180 :: 0 :: 60 :: 28 :: 42 :: 180 :: 0 :: 23 :: 29 :: 46 :: 79 :: ds39acX11_turn_8
noncomputable def ds39acX11_turn_6 : List UInt8 := 46 :: 8 :: 160 :: 0 :: 36 :: 42 :: 180 :: 0 :: 63 :: 42 :: 180 :: 0 :: 23 :: 29 :: 46 :: 46 :: ds39acX11_turn_7
noncomputable def ds39acX11_turn_5 : List UInt8 := 70 :: 42 :: 180 :: 0 :: 16 :: 29 :: 46 :: 7 :: 159 :: 0 :: 13 :: 42 :: 180 :: 0 :: 16 :: 29 :: ds39acX11_turn_6
noncomputable def ds39acX11_turn_4 : List UInt8 := 180 :: 0 :: 60 :: 28 :: 42 :: 180 :: 0 :: 20 :: 29 :: 46 :: 79 :: 132 :: 2 :: 1 :: 167 :: 0 :: ds39acX11_turn_5
noncomputable def ds39acX11_turn_3 : List UInt8 := 42 :: 180 :: 0 :: 63 :: 42 :: 180 :: 0 :: 20 :: 29 :: 46 :: 46 :: 2 :: 160 :: 0 :: 21 :: 42 :: ds39acX11_turn_4
noncomputable def ds39acX11_turn_2 : List UInt8 := 132 :: 2 :: 255 :: 167 :: 0 :: 113 :: 42 :: 180 :: 0 :: 16 :: 29 :: 46 :: 6 :: 164 :: 0 :: 36 :: ds39acX11_turn_3
noncomputable def ds39acX11_turn_1 : List UInt8 := 60 :: 28 :: 4 :: 100 :: 46 :: 62 :: 42 :: 180 :: 0 :: 63 :: 29 :: 46 :: 2 :: 159 :: 0 :: 9 :: ds39acX11_turn_2
noncomputable def ds39acX11_turn_0 : List UInt8 := 42 :: 180 :: 0 :: 60 :: 3 :: 27 :: 79 :: 4 :: 61 :: 28 :: 158 :: 0 :: 141 :: 42 :: 180 :: 0 :: ds39acX11_turn_1
theorem dt39acX11_turn_0 : cX11_turn.data.toList.drop 0 = ds39acX11_turn_0 := by decide +kernel
theorem dt39acX11_turn_1 : cX11_turn.data.toList.drop 16 = ds39acX11_turn_1 := dq_suf 16 dt39acX11_turn_0 rfl rfl
theorem dt39acX11_turn_2 : cX11_turn.data.toList.drop 32 = ds39acX11_turn_2 := dq_suf 16 dt39acX11_turn_1 rfl rfl
theorem dt39acX11_turn_3 : cX11_turn.data.toList.drop 48 = ds39acX11_turn_3 := dq_suf 16 dt39acX11_turn_2 rfl rfl
theorem dt39acX11_turn_4 : cX11_turn.data.toList.drop 64 = ds39acX11_turn_4 := dq_suf 16 dt39acX11_turn_3 rfl rfl
theorem dt39acX11_turn_5 : cX11_turn.data.toList.drop 80 = ds39acX11_turn_5 := dq_suf 16 dt39acX11_turn_4 rfl rfl
theorem dt39acX11_turn_6 : cX11_turn.data.toList.drop 96 = ds39acX11_turn_6 := dq_suf 16 dt39acX11_turn_5 rfl rfl
theorem dt39acX11_turn_7 : cX11_turn.data.toList.drop 112 = ds39acX11_turn_7 := dq_suf 16 dt39acX11_turn_6 rfl rfl
theorem dt39acX11_turn_8 : cX11_turn.data.toList.drop 128 = ds39acX11_turn_8 := dq_suf 16 dt39acX11_turn_7 rfl rfl
theorem dt39acX11_turn_9 : cX11_turn.data.toList.drop 144 = ds39acX11_turn_9 := dq_suf 16 dt39acX11_turn_8 rfl rfl
theorem dX11_turn_95 : decode cX11_turn 95 = .ok (.iload_n 3, 1) := dq_29 (dq_suf 15 dt39acX11_turn_5 rfl rfl)
theorem dX11_turn_96 : decode cX11_turn 96 = .ok (.iaload, 1) := dq_46 (dq_suf 0 dt39acX11_turn_6 rfl rfl)
theorem dX11_turn_97 : decode cX11_turn 97 = .ok (.iconst 5, 1) := dq_8 (dq_suf 1 dt39acX11_turn_6 rfl rfl)
theorem dX11_turn_98 : decode cX11_turn 98 = .ok (.if_icmp .ne 36, 3) := dq_160 (dq_suf 2 dt39acX11_turn_6 rfl rfl) (by decide +kernel)
theorem dX11_turn_101 : decode cX11_turn 101 = .ok (.aload_n 0, 1) := dq_42 (dq_suf 5 dt39acX11_turn_6 rfl rfl)
theorem dX11_turn_102 : decode cX11_turn 102 = .ok (.getfield 63, 3) := dq_180 (dq_suf 6 dt39acX11_turn_6 rfl rfl) rfl
theorem dX11_turn_105 : decode cX11_turn 105 = .ok (.aload_n 0, 1) := dq_42 (dq_suf 9 dt39acX11_turn_6 rfl rfl)
theorem dX11_turn_106 : decode cX11_turn 106 = .ok (.getfield 23, 3) := dq_180 (dq_suf 10 dt39acX11_turn_6 rfl rfl) rfl
theorem dX11_turn_109 : decode cX11_turn 109 = .ok (.iload_n 3, 1) := dq_29 (dq_suf 13 dt39acX11_turn_6 rfl rfl)
theorem dX11_turn_110 : decode cX11_turn 110 = .ok (.iaload, 1) := dq_46 (dq_suf 14 dt39acX11_turn_6 rfl rfl)
theorem dX11_turn_111 : decode cX11_turn 111 = .ok (.iaload, 1) := dq_46 (dq_suf 15 dt39acX11_turn_6 rfl rfl)
theorem dX11_turn_112 : decode cX11_turn 112 = .ok (.iconst (-1), 1) := dq_2 (dq_suf 0 dt39acX11_turn_7 rfl rfl)
theorem dX11_turn_113 : decode cX11_turn 113 = .ok (.if_icmp .ne 21, 3) := dq_160 (dq_suf 1 dt39acX11_turn_7 rfl rfl) (by decide +kernel)
theorem dX11_turn_116 : decode cX11_turn 116 = .ok (.aload_n 0, 1) := dq_42 (dq_suf 4 dt39acX11_turn_7 rfl rfl)
theorem dX11_turn_117 : decode cX11_turn 117 = .ok (.getfield 60, 3) := dq_180 (dq_suf 5 dt39acX11_turn_7 rfl rfl) rfl
theorem dX11_turn_120 : decode cX11_turn 120 = .ok (.iload_n 2, 1) := dq_28 (dq_suf 8 dt39acX11_turn_7 rfl rfl)
theorem dX11_turn_121 : decode cX11_turn 121 = .ok (.aload_n 0, 1) := dq_42 (dq_suf 9 dt39acX11_turn_7 rfl rfl)
theorem dX11_turn_122 : decode cX11_turn 122 = .ok (.getfield 23, 3) := dq_180 (dq_suf 10 dt39acX11_turn_7 rfl rfl) rfl
theorem dX11_turn_125 : decode cX11_turn 125 = .ok (.iload_n 3, 1) := dq_29 (dq_suf 13 dt39acX11_turn_7 rfl rfl)
theorem dX11_turn_126 : decode cX11_turn 126 = .ok (.iaload, 1) := dq_46 (dq_suf 14 dt39acX11_turn_7 rfl rfl)
theorem dX11_turn_127 : decode cX11_turn 127 = .ok (.iastore, 1) := dq_79 (dq_suf 15 dt39acX11_turn_7 rfl rfl)
theorem dX11_turn_128 : decode cX11_turn 128 = .ok (.iinc 2 1, 3) := dq_132 (dq_suf 0 dt39acX11_turn_8 rfl rfl) rfl (by decide +kernel)
theorem dX11_turn_131 : decode cX11_turn 131 = .ok (.goto 17, 3) := dq_167 (dq_suf 3 dt39acX11_turn_8 rfl rfl) (by decide +kernel)
theorem dX11_turn_134 : decode cX11_turn 134 = .ok (.aload_n 0, 1) := dq_42 (dq_suf 6 dt39acX11_turn_8 rfl rfl)
theorem dX11_turn_135 : decode cX11_turn 135 = .ok (.getfield 63, 3) := dq_180 (dq_suf 7 dt39acX11_turn_8 rfl rfl) rfl
theorem dX11_turn_138 : decode cX11_turn 138 = .ok (.iload_n 3, 1) := dq_29 (dq_suf 10 dt39acX11_turn_8 rfl rfl)
theorem dX11_turn_139 : decode cX11_turn 139 = .ok (.aload_n 0, 1) := dq_42 (dq_suf 11 dt39acX11_turn_8 rfl rfl)
theorem dX11_turn_140 : decode cX11_turn 140 = .ok (.iload_n 3, 1) := dq_29 (dq_suf 12 dt39acX11_turn_8 rfl rfl)
theorem dX11_turn_141 : decode cX11_turn 141 = .ok (.invokevirtual 261, 3) := dq_182 (dq_suf 13 dt39acX11_turn_8 rfl rfl) rfl
theorem dX11_turn_144 : decode cX11_turn 144 = .ok (.iastore, 1) := dq_79 (dq_suf 0 dt39acX11_turn_9 rfl rfl)
theorem dX11_turn_145 : decode cX11_turn 145 = .ok (.iinc 2 (-1), 3) := dq_132 (dq_suf 1 dt39acX11_turn_9 rfl rfl) rfl (by decide +kernel)
theorem dX11_turn_148 : decode cX11_turn 148 = .ok (.goto (-139), 3) := dq_167 (dq_suf 4 dt39acX11_turn_9 rfl rfl) (by decide +kernel)
theorem dX11_turn_151 : decode cX11_turn 151 = .ok (.aload_n 0, 1) := dq_42 (dq_suf 7 dt39acX11_turn_9 rfl rfl)
theorem dX11_turn_152 : decode cX11_turn 152 = .ok (.getfield 63, 3) := dq_180 (dq_suf 8 dt39acX11_turn_9 rfl rfl) rfl
theorem dX11_turn_155 : decode cX11_turn 155 = .ok (.iload_n 1, 1) := dq_27 (dq_suf 11 dt39acX11_turn_9 rfl rfl)
theorem dX11_turn_156 : decode cX11_turn 156 = .ok (.iaload, 1) := dq_46 (dq_suf 12 dt39acX11_turn_9 rfl rfl)
theorem dX11_turn_157 : decode cX11_turn 157 = .ok (.ireturn, 1) := dq_172 (dq_suf 13 dt39acX11_turn_9 rfl rfl)
noncomputable def ds39acX11_isFormula_0 : List UInt8 := 27 :: 3 :: 42 :: 180 :: 0 :: 26 :: 4 :: 100 :: 184 :: 0 :: 161 :: 172 :: []
theorem dt39acX11_isFormula_0 : cX11_isFormula.data.toList.drop 0 = ds39acX11_isFormula_0 := by decide +kernel
theorem dX11_isFormula_0 : decode cX11_isFormula 0 = .ok (.iload_n 1, 1) := dq_27 (dq_suf 0 dt39acX11_isFormula_0 rfl rfl)
theorem dX11_isFormula_1 : decode cX11_isFormula 1 = .ok (.iconst 0, 1) := dq_3 (dq_suf 1 dt39acX11_isFormula_0 rfl rfl)
theorem dX11_isFormula_2 : decode cX11_isFormula 2 = .ok (.aload_n 0, 1) := dq_42 (dq_suf 2 dt39acX11_isFormula_0 rfl rfl)
theorem dX11_isFormula_3 : decode cX11_isFormula 3 = .ok (.getfield 26, 3) := dq_180 (dq_suf 3 dt39acX11_isFormula_0 rfl rfl) rfl
theorem dX11_isFormula_6 : decode cX11_isFormula 6 = .ok (.iconst 1, 1) := dq_4 (dq_suf 6 dt39acX11_isFormula_0 rfl rfl)
theorem dX11_isFormula_7 : decode cX11_isFormula 7 = .ok (.isub, 1) := dq_100 (dq_suf 7 dt39acX11_isFormula_0 rfl rfl)
theorem dX11_isFormula_8 : decode cX11_isFormula 8 = .ok (.invokestatic 161, 3) := dq_184 (dq_suf 8 dt39acX11_isFormula_0 rfl rfl) rfl
theorem dX11_isFormula_11 : decode cX11_isFormula 11 = .ok (.ireturn, 1) := dq_172 (dq_suf 11 dt39acX11_isFormula_0 rfl rfl)
noncomputable def ds39acX11_set_6 : List UInt8 := 172 :: []
noncomputable def ds39acX11_set_5 : List UInt8 := 180 :: 0 :: 30 :: 27 :: 28 :: 79 :: 42 :: 180 :: 0 :: 33 :: 27 :: 21 :: 4 :: 79 :: 21 :: 4 :: ds39acX11_set_6
noncomputable def ds39acX11_set_4 : List UInt8 := 42 :: 180 :: 0 :: 168 :: 153 :: 0 :: 11 :: 42 :: 29 :: 181 :: 0 :: 26 :: 16 :: 254 :: 172 :: 42 :: ds39acX11_set_5
noncomputable def ds39acX11_set_3 : List UInt8 := 180 :: 0 :: 26 :: 62 :: 42 :: 3 :: 181 :: 0 :: 168 :: 42 :: 28 :: 182 :: 1 :: 11 :: 54 :: 4 :: ds39acX11_set_4
noncomputable def ds39acX11_set_2 : List UInt8 := 0 :: 16 :: 42 :: 180 :: 0 :: 63 :: 29 :: 2 :: 79 :: 132 :: 3 :: 1 :: 167 :: 255 :: 239 :: 42 :: ds39acX11_set_3
noncomputable def ds39acX11_set_1 : List UInt8 := 28 :: 182 :: 1 :: 8 :: 154 :: 0 :: 5 :: 2 :: 172 :: 3 :: 62 :: 29 :: 17 :: 1 :: 44 :: 162 :: ds39acX11_set_2
noncomputable def ds39acX11_set_0 : List UInt8 := 42 :: 3 :: 181 :: 0 :: 151 :: 27 :: 3 :: 16 :: 7 :: 184 :: 0 :: 161 :: 153 :: 0 :: 11 :: 42 :: ds39acX11_set_1
theorem dt39acX11_set_0 : cX11_set.data.toList.drop 0 = ds39acX11_set_0 := by decide +kernel
theorem dt39acX11_set_1 : cX11_set.data.toList.drop 16 = ds39acX11_set_1 := dq_suf 16 dt39acX11_set_0 rfl rfl
theorem dt39acX11_set_2 : cX11_set.data.toList.drop 32 = ds39acX11_set_2 := dq_suf 16 dt39acX11_set_1 rfl rfl
theorem dt39acX11_set_3 : cX11_set.data.toList.drop 48 = ds39acX11_set_3 := dq_suf 16 dt39acX11_set_2 rfl rfl
theorem dt39acX11_set_4 : cX11_set.data.toList.drop 64 = ds39acX11_set_4 := dq_suf 16 dt39acX11_set_3 rfl rfl
theorem dt39acX11_set_5 : cX11_set.data.toList.drop 80 = ds39acX11_set_5 := dq_suf 16 dt39acX11_set_4 rfl rfl
theorem dt39acX11_set_6 : cX11_set.data.toList.drop 96 = ds39acX11_set_6 := dq_suf 16 dt39acX11_set_5 rfl rfl
theorem dX11_set_0 : decode cX11_set 0 = .ok (.aload_n 0, 1) := dq_42 (dq_suf 0 dt39acX11_set_0 rfl rfl)
theorem dX11_set_1 : decode cX11_set 1 = .ok (.iconst 0, 1) := dq_3 (dq_suf 1 dt39acX11_set_0 rfl rfl)
theorem dX11_set_2 : decode cX11_set 2 = .ok (.putfield 151, 3) := dq_181 (dq_suf 2 dt39acX11_set_0 rfl rfl) rfl
theorem dX11_set_5 : decode cX11_set 5 = .ok (.iload_n 1, 1) := dq_27 (dq_suf 5 dt39acX11_set_0 rfl rfl)
theorem dX11_set_6 : decode cX11_set 6 = .ok (.iconst 0, 1) := dq_3 (dq_suf 6 dt39acX11_set_0 rfl rfl)
theorem dX11_set_7 : decode cX11_set 7 = .ok (.bipush 7, 2) := dq_16 (dq_suf 7 dt39acX11_set_0 rfl rfl) (by decide +kernel)
theorem dX11_set_9 : decode cX11_set 9 = .ok (.invokestatic 161, 3) := dq_184 (dq_suf 9 dt39acX11_set_0 rfl rfl) rfl
theorem dX11_set_12 : decode cX11_set 12 = .ok (.ifCond .eq 11, 3) := dq_153 (dq_suf 12 dt39acX11_set_0 rfl rfl) (by decide +kernel)
theorem dX11_set_15 : decode cX11_set 15 = .ok (.aload_n 0, 1) := dq_42 (dq_suf 15 dt39acX11_set_0 rfl rfl)
theorem dX11_set_16 : decode cX11_set 16 = .ok (.iload_n 2, 1) := dq_28 (dq_suf 0 dt39acX11_set_1 rfl rfl)
theorem dX11_set_17 : decode cX11_set 17 = .ok (.invokevirtual 264, 3) := dq_182 (dq_suf 1 dt39acX11_set_1 rfl rfl) rfl
theorem dX11_set_20 : decode cX11_set 20 = .ok (.ifCond .ne 5, 3) := dq_154 (dq_suf 4 dt39acX11_set_1 rfl rfl) (by decide +kernel)
theorem dX11_set_23 : decode cX11_set 23 = .ok (.iconst (-1), 1) := dq_2 (dq_suf 7 dt39acX11_set_1 rfl rfl)
theorem dX11_set_24 : decode cX11_set 24 = .ok (.ireturn, 1) := dq_172 (dq_suf 8 dt39acX11_set_1 rfl rfl)
theorem dX11_set_25 : decode cX11_set 25 = .ok (.iconst 0, 1) := dq_3 (dq_suf 9 dt39acX11_set_1 rfl rfl)
theorem dX11_set_26 : decode cX11_set 26 = .ok (.istore_n 3, 1) := dq_62 (dq_suf 10 dt39acX11_set_1 rfl rfl)
theorem dX11_set_27 : decode cX11_set 27 = .ok (.iload_n 3, 1) := dq_29 (dq_suf 11 dt39acX11_set_1 rfl rfl)
theorem dX11_set_28 : decode cX11_set 28 = .ok (.sipush 300, 3) := dq_17 (dq_suf 12 dt39acX11_set_1 rfl rfl) (by decide +kernel)
theorem dX11_set_31 : decode cX11_set 31 = .ok (.if_icmp .ge 16, 3) := dq_162 (dq_suf 15 dt39acX11_set_1 rfl rfl) (by decide +kernel)
theorem dX11_set_34 : decode cX11_set 34 = .ok (.aload_n 0, 1) := dq_42 (dq_suf 2 dt39acX11_set_2 rfl rfl)
theorem dX11_set_35 : decode cX11_set 35 = .ok (.getfield 63, 3) := dq_180 (dq_suf 3 dt39acX11_set_2 rfl rfl) rfl
theorem dX11_set_38 : decode cX11_set 38 = .ok (.iload_n 3, 1) := dq_29 (dq_suf 6 dt39acX11_set_2 rfl rfl)
theorem dX11_set_39 : decode cX11_set 39 = .ok (.iconst (-1), 1) := dq_2 (dq_suf 7 dt39acX11_set_2 rfl rfl)
theorem dX11_set_40 : decode cX11_set 40 = .ok (.iastore, 1) := dq_79 (dq_suf 8 dt39acX11_set_2 rfl rfl)
theorem dX11_set_41 : decode cX11_set 41 = .ok (.iinc 3 1, 3) := dq_132 (dq_suf 9 dt39acX11_set_2 rfl rfl) rfl (by decide +kernel)
theorem dX11_set_44 : decode cX11_set 44 = .ok (.goto (-17), 3) := dq_167 (dq_suf 12 dt39acX11_set_2 rfl rfl) (by decide +kernel)
theorem dX11_set_47 : decode cX11_set 47 = .ok (.aload_n 0, 1) := dq_42 (dq_suf 15 dt39acX11_set_2 rfl rfl)
theorem dX11_set_48 : decode cX11_set 48 = .ok (.getfield 26, 3) := dq_180 (dq_suf 0 dt39acX11_set_3 rfl rfl) rfl
theorem dX11_set_51 : decode cX11_set 51 = .ok (.istore_n 3, 1) := dq_62 (dq_suf 3 dt39acX11_set_3 rfl rfl)
theorem dX11_set_52 : decode cX11_set 52 = .ok (.aload_n 0, 1) := dq_42 (dq_suf 4 dt39acX11_set_3 rfl rfl)
theorem dX11_set_53 : decode cX11_set 53 = .ok (.iconst 0, 1) := dq_3 (dq_suf 5 dt39acX11_set_3 rfl rfl)
theorem dX11_set_54 : decode cX11_set 54 = .ok (.putfield 168, 3) := dq_181 (dq_suf 6 dt39acX11_set_3 rfl rfl) rfl
theorem dX11_set_57 : decode cX11_set 57 = .ok (.aload_n 0, 1) := dq_42 (dq_suf 9 dt39acX11_set_3 rfl rfl)
theorem dX11_set_58 : decode cX11_set 58 = .ok (.iload_n 2, 1) := dq_28 (dq_suf 10 dt39acX11_set_3 rfl rfl)
theorem dX11_set_59 : decode cX11_set 59 = .ok (.invokevirtual 267, 3) := dq_182 (dq_suf 11 dt39acX11_set_3 rfl rfl) rfl
theorem dX11_set_62 : decode cX11_set 62 = .ok (.istore 4, 2) := dq_54 (dq_suf 14 dt39acX11_set_3 rfl rfl) rfl
theorem dX11_set_64 : decode cX11_set 64 = .ok (.aload_n 0, 1) := dq_42 (dq_suf 0 dt39acX11_set_4 rfl rfl)
theorem dX11_set_65 : decode cX11_set 65 = .ok (.getfield 168, 3) := dq_180 (dq_suf 1 dt39acX11_set_4 rfl rfl) rfl
theorem dX11_set_68 : decode cX11_set 68 = .ok (.ifCond .eq 11, 3) := dq_153 (dq_suf 4 dt39acX11_set_4 rfl rfl) (by decide +kernel)
theorem dX11_set_71 : decode cX11_set 71 = .ok (.aload_n 0, 1) := dq_42 (dq_suf 7 dt39acX11_set_4 rfl rfl)
theorem dX11_set_72 : decode cX11_set 72 = .ok (.iload_n 3, 1) := dq_29 (dq_suf 8 dt39acX11_set_4 rfl rfl)
theorem dX11_set_73 : decode cX11_set 73 = .ok (.putfield 26, 3) := dq_181 (dq_suf 9 dt39acX11_set_4 rfl rfl) rfl
theorem dX11_set_76 : decode cX11_set 76 = .ok (.bipush (-2), 2) := dq_16 (dq_suf 12 dt39acX11_set_4 rfl rfl) (by decide +kernel)
theorem dX11_set_78 : decode cX11_set 78 = .ok (.ireturn, 1) := dq_172 (dq_suf 14 dt39acX11_set_4 rfl rfl)
theorem dX11_set_79 : decode cX11_set 79 = .ok (.aload_n 0, 1) := dq_42 (dq_suf 15 dt39acX11_set_4 rfl rfl)
theorem dX11_set_80 : decode cX11_set 80 = .ok (.getfield 30, 3) := dq_180 (dq_suf 0 dt39acX11_set_5 rfl rfl) rfl
theorem dX11_set_83 : decode cX11_set 83 = .ok (.iload_n 1, 1) := dq_27 (dq_suf 3 dt39acX11_set_5 rfl rfl)
theorem dX11_set_84 : decode cX11_set 84 = .ok (.iload_n 2, 1) := dq_28 (dq_suf 4 dt39acX11_set_5 rfl rfl)
theorem dX11_set_85 : decode cX11_set 85 = .ok (.iastore, 1) := dq_79 (dq_suf 5 dt39acX11_set_5 rfl rfl)
theorem dX11_set_86 : decode cX11_set 86 = .ok (.aload_n 0, 1) := dq_42 (dq_suf 6 dt39acX11_set_5 rfl rfl)
theorem dX11_set_87 : decode cX11_set 87 = .ok (.getfield 33, 3) := dq_180 (dq_suf 7 dt39acX11_set_5 rfl rfl) rfl
theorem dX11_set_90 : decode cX11_set 90 = .ok (.iload_n 1, 1) := dq_27 (dq_suf 10 dt39acX11_set_5 rfl rfl)
theorem dX11_set_91 : decode cX11_set 91 = .ok (.iload 4, 2) := dq_21 (dq_suf 11 dt39acX11_set_5 rfl rfl) rfl
theorem dX11_set_93 : decode cX11_set 93 = .ok (.iastore, 1) := dq_79 (dq_suf 13 dt39acX11_set_5 rfl rfl)
theorem dX11_set_94 : decode cX11_set 94 = .ok (.iload 4, 2) := dq_21 (dq_suf 14 dt39acX11_set_5 rfl rfl) rfl
theorem dX11_set_96 : decode cX11_set 96 = .ok (.ireturn, 1) := dq_172 (dq_suf 0 dt39acX11_set_6 rfl rfl)
noncomputable def ds39acX11_slot_2 : List UInt8 := 28 :: 4 :: 160 :: 0 :: 12 :: 42 :: 180 :: 0 :: 33 :: 27 :: 46 :: 167 :: 0 :: 4 :: 2 :: 172 :: []
noncomputable def ds39acX11_slot_1 : List UInt8 := 167 :: 0 :: 31 :: 28 :: 154 :: 0 :: 12 :: 42 :: 180 :: 0 :: 30 :: 27 :: 46 :: 167 :: 0 :: 18 :: ds39acX11_slot_2
noncomputable def ds39acX11_slot_0 : List UInt8 := 42 :: 3 :: 181 :: 0 :: 151 :: 27 :: 3 :: 16 :: 7 :: 184 :: 0 :: 161 :: 154 :: 0 :: 7 :: 2 :: ds39acX11_slot_1
theorem dt39acX11_slot_0 : cX11_slot.data.toList.drop 0 = ds39acX11_slot_0 := by decide +kernel
theorem dt39acX11_slot_1 : cX11_slot.data.toList.drop 16 = ds39acX11_slot_1 := dq_suf 16 dt39acX11_slot_0 rfl rfl
theorem dt39acX11_slot_2 : cX11_slot.data.toList.drop 32 = ds39acX11_slot_2 := dq_suf 16 dt39acX11_slot_1 rfl rfl
theorem dX11_slot_0 : decode cX11_slot 0 = .ok (.aload_n 0, 1) := dq_42 (dq_suf 0 dt39acX11_slot_0 rfl rfl)
theorem dX11_slot_1 : decode cX11_slot 1 = .ok (.iconst 0, 1) := dq_3 (dq_suf 1 dt39acX11_slot_0 rfl rfl)
theorem dX11_slot_2 : decode cX11_slot 2 = .ok (.putfield 151, 3) := dq_181 (dq_suf 2 dt39acX11_slot_0 rfl rfl) rfl
theorem dX11_slot_5 : decode cX11_slot 5 = .ok (.iload_n 1, 1) := dq_27 (dq_suf 5 dt39acX11_slot_0 rfl rfl)
theorem dX11_slot_6 : decode cX11_slot 6 = .ok (.iconst 0, 1) := dq_3 (dq_suf 6 dt39acX11_slot_0 rfl rfl)
theorem dX11_slot_7 : decode cX11_slot 7 = .ok (.bipush 7, 2) := dq_16 (dq_suf 7 dt39acX11_slot_0 rfl rfl) (by decide +kernel)
theorem dX11_slot_9 : decode cX11_slot 9 = .ok (.invokestatic 161, 3) := dq_184 (dq_suf 9 dt39acX11_slot_0 rfl rfl) rfl
theorem dX11_slot_12 : decode cX11_slot 12 = .ok (.ifCond .ne 7, 3) := dq_154 (dq_suf 12 dt39acX11_slot_0 rfl rfl) (by decide +kernel)
theorem dX11_slot_15 : decode cX11_slot 15 = .ok (.iconst (-1), 1) := dq_2 (dq_suf 15 dt39acX11_slot_0 rfl rfl)
theorem dX11_slot_16 : decode cX11_slot 16 = .ok (.goto 31, 3) := dq_167 (dq_suf 0 dt39acX11_slot_1 rfl rfl) (by decide +kernel)
theorem dX11_slot_19 : decode cX11_slot 19 = .ok (.iload_n 2, 1) := dq_28 (dq_suf 3 dt39acX11_slot_1 rfl rfl)
theorem dX11_slot_20 : decode cX11_slot 20 = .ok (.ifCond .ne 12, 3) := dq_154 (dq_suf 4 dt39acX11_slot_1 rfl rfl) (by decide +kernel)
theorem dX11_slot_23 : decode cX11_slot 23 = .ok (.aload_n 0, 1) := dq_42 (dq_suf 7 dt39acX11_slot_1 rfl rfl)
theorem dX11_slot_24 : decode cX11_slot 24 = .ok (.getfield 30, 3) := dq_180 (dq_suf 8 dt39acX11_slot_1 rfl rfl) rfl
theorem dX11_slot_27 : decode cX11_slot 27 = .ok (.iload_n 1, 1) := dq_27 (dq_suf 11 dt39acX11_slot_1 rfl rfl)
theorem dX11_slot_28 : decode cX11_slot 28 = .ok (.iaload, 1) := dq_46 (dq_suf 12 dt39acX11_slot_1 rfl rfl)
theorem dX11_slot_29 : decode cX11_slot 29 = .ok (.goto 18, 3) := dq_167 (dq_suf 13 dt39acX11_slot_1 rfl rfl) (by decide +kernel)
theorem dX11_slot_32 : decode cX11_slot 32 = .ok (.iload_n 2, 1) := dq_28 (dq_suf 0 dt39acX11_slot_2 rfl rfl)
theorem dX11_slot_33 : decode cX11_slot 33 = .ok (.iconst 1, 1) := dq_4 (dq_suf 1 dt39acX11_slot_2 rfl rfl)
theorem dX11_slot_34 : decode cX11_slot 34 = .ok (.if_icmp .ne 12, 3) := dq_160 (dq_suf 2 dt39acX11_slot_2 rfl rfl) (by decide +kernel)
theorem dX11_slot_37 : decode cX11_slot 37 = .ok (.aload_n 0, 1) := dq_42 (dq_suf 5 dt39acX11_slot_2 rfl rfl)
theorem dX11_slot_38 : decode cX11_slot 38 = .ok (.getfield 33, 3) := dq_180 (dq_suf 6 dt39acX11_slot_2 rfl rfl) rfl
theorem dX11_slot_41 : decode cX11_slot 41 = .ok (.iload_n 1, 1) := dq_27 (dq_suf 9 dt39acX11_slot_2 rfl rfl)
theorem dX11_slot_42 : decode cX11_slot 42 = .ok (.iaload, 1) := dq_46 (dq_suf 10 dt39acX11_slot_2 rfl rfl)
theorem dX11_slot_43 : decode cX11_slot 43 = .ok (.goto 4, 3) := dq_167 (dq_suf 11 dt39acX11_slot_2 rfl rfl) (by decide +kernel)
theorem dX11_slot_46 : decode cX11_slot 46 = .ok (.iconst (-1), 1) := dq_2 (dq_suf 14 dt39acX11_slot_2 rfl rfl)
theorem dX11_slot_47 : decode cX11_slot 47 = .ok (.ireturn, 1) := dq_172 (dq_suf 15 dt39acX11_slot_2 rfl rfl)
noncomputable def ds39acX11_formulas_0 : List UInt8 := 42 :: 3 :: 181 :: 0 :: 151 :: 42 :: 180 :: 0 :: 26 :: 172 :: []
theorem dt39acX11_formulas_0 : cX11_formulas.data.toList.drop 0 = ds39acX11_formulas_0 := by decide +kernel
theorem dX11_formulas_0 : decode cX11_formulas 0 = .ok (.aload_n 0, 1) := dq_42 (dq_suf 0 dt39acX11_formulas_0 rfl rfl)
theorem dX11_formulas_1 : decode cX11_formulas 1 = .ok (.iconst 0, 1) := dq_3 (dq_suf 1 dt39acX11_formulas_0 rfl rfl)
theorem dX11_formulas_2 : decode cX11_formulas 2 = .ok (.putfield 151, 3) := dq_181 (dq_suf 2 dt39acX11_formulas_0 rfl rfl) rfl
theorem dX11_formulas_5 : decode cX11_formulas 5 = .ok (.aload_n 0, 1) := dq_42 (dq_suf 5 dt39acX11_formulas_0 rfl rfl)
theorem dX11_formulas_6 : decode cX11_formulas 6 = .ok (.getfield 26, 3) := dq_180 (dq_suf 6 dt39acX11_formulas_0 rfl rfl) rfl
theorem dX11_formulas_9 : decode cX11_formulas 9 = .ok (.ireturn, 1) := dq_172 (dq_suf 9 dt39acX11_formulas_0 rfl rfl)
noncomputable def ds39acX11_formula_3 : List UInt8 := 12 :: 42 :: 180 :: 0 :: 23 :: 27 :: 46 :: 167 :: 0 :: 4 :: 2 :: 172 :: []
noncomputable def ds39acX11_formula_2 : List UInt8 := 160 :: 0 :: 12 :: 42 :: 180 :: 0 :: 20 :: 27 :: 46 :: 167 :: 0 :: 18 :: 28 :: 5 :: 160 :: 0 :: ds39acX11_formula_3
noncomputable def ds39acX11_formula_1 : List UInt8 := 45 :: 28 :: 154 :: 0 :: 12 :: 42 :: 180 :: 0 :: 16 :: 27 :: 46 :: 167 :: 0 :: 32 :: 28 :: 4 :: ds39acX11_formula_2
noncomputable def ds39acX11_formula_0 : List UInt8 := 42 :: 3 :: 181 :: 0 :: 151 :: 42 :: 27 :: 182 :: 1 :: 8 :: 154 :: 0 :: 7 :: 2 :: 167 :: 0 :: ds39acX11_formula_1
theorem dt39acX11_formula_0 : cX11_formula.data.toList.drop 0 = ds39acX11_formula_0 := by decide +kernel
theorem dt39acX11_formula_1 : cX11_formula.data.toList.drop 16 = ds39acX11_formula_1 := dq_suf 16 dt39acX11_formula_0 rfl rfl
theorem dt39acX11_formula_2 : cX11_formula.data.toList.drop 32 = ds39acX11_formula_2 := dq_suf 16 dt39acX11_formula_1 rfl rfl
theorem dt39acX11_formula_3 : cX11_formula.data.toList.drop 48 = ds39acX11_formula_3 := dq_suf 16 dt39acX11_formula_2 rfl rfl
theorem dX11_formula_0 : decode cX11_formula 0 = .ok (.aload_n 0, 1) := dq_42 (dq_suf 0 dt39acX11_formula_0 rfl rfl)
theorem dX11_formula_1 : decode cX11_formula 1 = .ok (.iconst 0, 1) := dq_3 (dq_suf 1 dt39acX11_formula_0 rfl rfl)
theorem dX11_formula_2 : decode cX11_formula 2 = .ok (.putfield 151, 3) := dq_181 (dq_suf 2 dt39acX11_formula_0 rfl rfl) rfl
theorem dX11_formula_5 : decode cX11_formula 5 = .ok (.aload_n 0, 1) := dq_42 (dq_suf 5 dt39acX11_formula_0 rfl rfl)
theorem dX11_formula_6 : decode cX11_formula 6 = .ok (.iload_n 1, 1) := dq_27 (dq_suf 6 dt39acX11_formula_0 rfl rfl)
theorem dX11_formula_7 : decode cX11_formula 7 = .ok (.invokevirtual 264, 3) := dq_182 (dq_suf 7 dt39acX11_formula_0 rfl rfl) rfl
theorem dX11_formula_10 : decode cX11_formula 10 = .ok (.ifCond .ne 7, 3) := dq_154 (dq_suf 10 dt39acX11_formula_0 rfl rfl) (by decide +kernel)
theorem dX11_formula_13 : decode cX11_formula 13 = .ok (.iconst (-1), 1) := dq_2 (dq_suf 13 dt39acX11_formula_0 rfl rfl)
theorem dX11_formula_14 : decode cX11_formula 14 = .ok (.goto 45, 3) := dq_167 (dq_suf 14 dt39acX11_formula_0 rfl rfl) (by decide +kernel)
theorem dX11_formula_17 : decode cX11_formula 17 = .ok (.iload_n 2, 1) := dq_28 (dq_suf 1 dt39acX11_formula_1 rfl rfl)
theorem dX11_formula_18 : decode cX11_formula 18 = .ok (.ifCond .ne 12, 3) := dq_154 (dq_suf 2 dt39acX11_formula_1 rfl rfl) (by decide +kernel)
theorem dX11_formula_21 : decode cX11_formula 21 = .ok (.aload_n 0, 1) := dq_42 (dq_suf 5 dt39acX11_formula_1 rfl rfl)
theorem dX11_formula_22 : decode cX11_formula 22 = .ok (.getfield 16, 3) := dq_180 (dq_suf 6 dt39acX11_formula_1 rfl rfl) rfl
theorem dX11_formula_25 : decode cX11_formula 25 = .ok (.iload_n 1, 1) := dq_27 (dq_suf 9 dt39acX11_formula_1 rfl rfl)
theorem dX11_formula_26 : decode cX11_formula 26 = .ok (.iaload, 1) := dq_46 (dq_suf 10 dt39acX11_formula_1 rfl rfl)
theorem dX11_formula_27 : decode cX11_formula 27 = .ok (.goto 32, 3) := dq_167 (dq_suf 11 dt39acX11_formula_1 rfl rfl) (by decide +kernel)
theorem dX11_formula_30 : decode cX11_formula 30 = .ok (.iload_n 2, 1) := dq_28 (dq_suf 14 dt39acX11_formula_1 rfl rfl)
theorem dX11_formula_31 : decode cX11_formula 31 = .ok (.iconst 1, 1) := dq_4 (dq_suf 15 dt39acX11_formula_1 rfl rfl)
theorem dX11_formula_32 : decode cX11_formula 32 = .ok (.if_icmp .ne 12, 3) := dq_160 (dq_suf 0 dt39acX11_formula_2 rfl rfl) (by decide +kernel)
theorem dX11_formula_35 : decode cX11_formula 35 = .ok (.aload_n 0, 1) := dq_42 (dq_suf 3 dt39acX11_formula_2 rfl rfl)
theorem dX11_formula_36 : decode cX11_formula 36 = .ok (.getfield 20, 3) := dq_180 (dq_suf 4 dt39acX11_formula_2 rfl rfl) rfl
theorem dX11_formula_39 : decode cX11_formula 39 = .ok (.iload_n 1, 1) := dq_27 (dq_suf 7 dt39acX11_formula_2 rfl rfl)
theorem dX11_formula_40 : decode cX11_formula 40 = .ok (.iaload, 1) := dq_46 (dq_suf 8 dt39acX11_formula_2 rfl rfl)
theorem dX11_formula_41 : decode cX11_formula 41 = .ok (.goto 18, 3) := dq_167 (dq_suf 9 dt39acX11_formula_2 rfl rfl) (by decide +kernel)
theorem dX11_formula_44 : decode cX11_formula 44 = .ok (.iload_n 2, 1) := dq_28 (dq_suf 12 dt39acX11_formula_2 rfl rfl)
theorem dX11_formula_45 : decode cX11_formula 45 = .ok (.iconst 2, 1) := dq_5 (dq_suf 13 dt39acX11_formula_2 rfl rfl)
theorem dX11_formula_46 : decode cX11_formula 46 = .ok (.if_icmp .ne 12, 3) := dq_160 (dq_suf 14 dt39acX11_formula_2 rfl rfl) (by decide +kernel)
theorem dX11_formula_49 : decode cX11_formula 49 = .ok (.aload_n 0, 1) := dq_42 (dq_suf 1 dt39acX11_formula_3 rfl rfl)
theorem dX11_formula_50 : decode cX11_formula 50 = .ok (.getfield 23, 3) := dq_180 (dq_suf 2 dt39acX11_formula_3 rfl rfl) rfl
theorem dX11_formula_53 : decode cX11_formula 53 = .ok (.iload_n 1, 1) := dq_27 (dq_suf 5 dt39acX11_formula_3 rfl rfl)
theorem dX11_formula_54 : decode cX11_formula 54 = .ok (.iaload, 1) := dq_46 (dq_suf 6 dt39acX11_formula_3 rfl rfl)
theorem dX11_formula_55 : decode cX11_formula 55 = .ok (.goto 4, 3) := dq_167 (dq_suf 7 dt39acX11_formula_3 rfl rfl) (by decide +kernel)
theorem dX11_formula_58 : decode cX11_formula 58 = .ok (.iconst (-1), 1) := dq_2 (dq_suf 10 dt39acX11_formula_3 rfl rfl)
theorem dX11_formula_59 : decode cX11_formula 59 = .ok (.ireturn, 1) := dq_172 (dq_suf 11 dt39acX11_formula_3 rfl rfl)
noncomputable def ds39acX11_tell_19 : List UInt8 := 79 :: 132 :: 2 :: 4 :: 167 :: 254 :: 233 :: 42 :: 180 :: 0 :: 165 :: 172 :: []
noncomputable def ds39acX11_tell_18 : List UInt8 := 16 :: 132 :: 79 :: 42 :: 180 :: 0 :: 66 :: 28 :: 6 :: 96 :: 42 :: 180 :: 0 :: 20 :: 29 :: 46 :: ds39acX11_tell_19
noncomputable def ds39acX11_tell_17 : List UInt8 := 96 :: 42 :: 180 :: 0 :: 16 :: 29 :: 46 :: 7 :: 160 :: 0 :: 8 :: 16 :: 218 :: 167 :: 0 :: 5 :: ds39acX11_tell_18
noncomputable def ds39acX11_tell_16 : List UInt8 := 28 :: 4 :: 96 :: 42 :: 180 :: 0 :: 23 :: 29 :: 46 :: 79 :: 42 :: 180 :: 0 :: 66 :: 28 :: 5 :: ds39acX11_tell_17
noncomputable def ds39acX11_tell_15 : List UInt8 := 40 :: 182 :: 1 :: 14 :: 42 :: 180 :: 0 :: 66 :: 28 :: 16 :: 215 :: 79 :: 42 :: 180 :: 0 :: 66 :: ds39acX11_tell_16
noncomputable def ds39acX11_tell_14 : List UInt8 := 28 :: 42 :: 180 :: 0 :: 20 :: 29 :: 46 :: 79 :: 132 :: 2 :: 1 :: 167 :: 0 :: 73 :: 42 :: 16 :: ds39acX11_tell_15
noncomputable def ds39acX11_tell_13 : List UInt8 := 0 :: 8 :: 16 :: 93 :: 167 :: 0 :: 5 :: 16 :: 62 :: 182 :: 1 :: 14 :: 42 :: 180 :: 0 :: 66 :: ds39acX11_tell_14
noncomputable def ds39acX11_tell_12 : List UInt8 := 5 :: 16 :: 60 :: 182 :: 1 :: 14 :: 42 :: 42 :: 180 :: 0 :: 16 :: 29 :: 46 :: 16 :: 6 :: 160 :: ds39acX11_tell_13
noncomputable def ds39acX11_tell_11 : List UInt8 := 42 :: 42 :: 180 :: 0 :: 16 :: 29 :: 46 :: 16 :: 6 :: 160 :: 0 :: 8 :: 16 :: 91 :: 167 :: 0 :: ds39acX11_tell_12
noncomputable def ds39acX11_tell_10 : List UInt8 := 42 :: 16 :: 97 :: 42 :: 180 :: 0 :: 20 :: 29 :: 46 :: 96 :: 182 :: 1 :: 14 :: 167 :: 0 :: 135 :: ds39acX11_tell_11
noncomputable def ds39acX11_tell_9 : List UInt8 := 42 :: 16 :: 97 :: 42 :: 180 :: 0 :: 20 :: 29 :: 46 :: 96 :: 182 :: 1 :: 14 :: 167 :: 0 :: 151 :: ds39acX11_tell_10
noncomputable def ds39acX11_tell_8 : List UInt8 := 182 :: 42 :: 16 :: 70 :: 182 :: 1 :: 14 :: 167 :: 0 :: 173 :: 42 :: 16 :: 33 :: 182 :: 1 :: 14 :: ds39acX11_tell_9
noncomputable def ds39acX11_tell_7 : List UInt8 := 0 :: 0 :: 0 :: 104 :: 0 :: 0 :: 0 :: 104 :: 42 :: 16 :: 84 :: 182 :: 1 :: 14 :: 167 :: 0 :: ds39acX11_tell_8
noncomputable def ds39acX11_tell_6 : List UInt8 := 0 :: 0 :: 0 :: 88 :: 0 :: 0 :: 0 :: 66 :: 0 :: 0 :: 0 :: 166 :: 0 :: 0 :: 0 :: 166 :: ds39acX11_tell_7
noncomputable def ds39acX11_tell_5 : List UInt8 := 0 :: 0 :: 0 :: 0 :: 0 :: 0 :: 0 :: 7 :: 0 :: 0 :: 0 :: 48 :: 0 :: 0 :: 0 :: 57 :: ds39acX11_tell_6
noncomputable def ds39acX11_tell_4 : List UInt8 := 255 :: 222 :: 42 :: 180 :: 0 :: 16 :: 29 :: 46 :: 170 :: 0 :: 0 :: 0 :: 0 :: 0 :: 0 :: 166 :: ds39acX11_tell_5
noncomputable def ds39acX11_tell_3 : List UInt8 := 0 :: 66 :: 28 :: 46 :: 62 :: 29 :: 156 :: 0 :: 12 :: 42 :: 29 :: 116 :: 182 :: 1 :: 14 :: 167 :: ds39acX11_tell_4
noncomputable def ds39acX11_tell_2 : List UInt8 := 25 :: 42 :: 180 :: 0 :: 165 :: 17 :: 1 :: 144 :: 162 :: 1 :: 15 :: 132 :: 2 :: 255 :: 42 :: 180 :: ds39acX11_tell_3
noncomputable def ds39acX11_tell_1 : List UInt8 := 3 :: 181 :: 0 :: 165 :: 42 :: 180 :: 0 :: 66 :: 3 :: 27 :: 79 :: 4 :: 61 :: 28 :: 158 :: 1 :: ds39acX11_tell_2
noncomputable def ds39acX11_tell_0 : List UInt8 := 42 :: 3 :: 181 :: 0 :: 151 :: 42 :: 27 :: 182 :: 1 :: 8 :: 154 :: 0 :: 5 :: 2 :: 172 :: 42 :: ds39acX11_tell_1
theorem dt39acX11_tell_0 : cX11_tell.data.toList.drop 0 = ds39acX11_tell_0 := by decide +kernel
theorem dt39acX11_tell_1 : cX11_tell.data.toList.drop 16 = ds39acX11_tell_1 := dq_suf 16 dt39acX11_tell_0 rfl rfl
theorem dt39acX11_tell_2 : cX11_tell.data.toList.drop 32 = ds39acX11_tell_2 := dq_suf 16 dt39acX11_tell_1 rfl rfl
theorem dt39acX11_tell_3 : cX11_tell.data.toList.drop 48 = ds39acX11_tell_3 := dq_suf 16 dt39acX11_tell_2 rfl rfl
theorem dt39acX11_tell_4 : cX11_tell.data.toList.drop 64 = ds39acX11_tell_4 := dq_suf 16 dt39acX11_tell_3 rfl rfl
theorem dt39acX11_tell_5 : cX11_tell.data.toList.drop 80 = ds39acX11_tell_5 := dq_suf 16 dt39acX11_tell_4 rfl rfl
theorem dt39acX11_tell_6 : cX11_tell.data.toList.drop 96 = ds39acX11_tell_6 := dq_suf 16 dt39acX11_tell_5 rfl rfl
theorem dt39acX11_tell_7 : cX11_tell.data.toList.drop 112 = ds39acX11_tell_7 := dq_suf 16 dt39acX11_tell_6 rfl rfl
theorem dt39acX11_tell_8 : cX11_tell.data.toList.drop 128 = ds39acX11_tell_8 := dq_suf 16 dt39acX11_tell_7 rfl rfl
theorem dt39acX11_tell_9 : cX11_tell.data.toList.drop 144 = ds39acX11_tell_9 := dq_suf 16 dt39acX11_tell_8 rfl rfl
theorem dt39acX11_tell_10 : cX11_tell.data.toList.drop 160 = ds39acX11_tell_10 := dq_suf 16 dt39acX11_tell_9 rfl rfl
theorem dt39acX11_tell_11 : cX11_tell.data.toList.drop 176 = ds39acX11_tell_11 := dq_suf 16 dt39acX11_tell_10 rfl rfl
theorem dt39acX11_tell_12 : cX11_tell.data.toList.drop 192 = ds39acX11_tell_12 := dq_suf 16 dt39acX11_tell_11 rfl rfl
theorem dt39acX11_tell_13 : cX11_tell.data.toList.drop 208 = ds39acX11_tell_13 := dq_suf 16 dt39acX11_tell_12 rfl rfl
theorem dt39acX11_tell_14 : cX11_tell.data.toList.drop 224 = ds39acX11_tell_14 := dq_suf 16 dt39acX11_tell_13 rfl rfl
theorem dt39acX11_tell_15 : cX11_tell.data.toList.drop 240 = ds39acX11_tell_15 := dq_suf 16 dt39acX11_tell_14 rfl rfl
theorem dt39acX11_tell_16 : cX11_tell.data.toList.drop 256 = ds39acX11_tell_16 := dq_suf 16 dt39acX11_tell_15 rfl rfl
theorem dt39acX11_tell_17 : cX11_tell.data.toList.drop 272 = ds39acX11_tell_17 := dq_suf 16 dt39acX11_tell_16 rfl rfl
theorem dt39acX11_tell_18 : cX11_tell.data.toList.drop 288 = ds39acX11_tell_18 := dq_suf 16 dt39acX11_tell_17 rfl rfl
theorem dt39acX11_tell_19 : cX11_tell.data.toList.drop 304 = ds39acX11_tell_19 := dq_suf 16 dt39acX11_tell_18 rfl rfl
theorem dX11_tell_0 : decode cX11_tell 0 = .ok (.aload_n 0, 1) := dq_42 (dq_suf 0 dt39acX11_tell_0 rfl rfl)
theorem dX11_tell_1 : decode cX11_tell 1 = .ok (.iconst 0, 1) := dq_3 (dq_suf 1 dt39acX11_tell_0 rfl rfl)
theorem dX11_tell_2 : decode cX11_tell 2 = .ok (.putfield 151, 3) := dq_181 (dq_suf 2 dt39acX11_tell_0 rfl rfl) rfl
theorem dX11_tell_5 : decode cX11_tell 5 = .ok (.aload_n 0, 1) := dq_42 (dq_suf 5 dt39acX11_tell_0 rfl rfl)
theorem dX11_tell_6 : decode cX11_tell 6 = .ok (.iload_n 1, 1) := dq_27 (dq_suf 6 dt39acX11_tell_0 rfl rfl)
theorem dX11_tell_7 : decode cX11_tell 7 = .ok (.invokevirtual 264, 3) := dq_182 (dq_suf 7 dt39acX11_tell_0 rfl rfl) rfl
theorem dX11_tell_10 : decode cX11_tell 10 = .ok (.ifCond .ne 5, 3) := dq_154 (dq_suf 10 dt39acX11_tell_0 rfl rfl) (by decide +kernel)
theorem dX11_tell_13 : decode cX11_tell 13 = .ok (.iconst (-1), 1) := dq_2 (dq_suf 13 dt39acX11_tell_0 rfl rfl)
theorem dX11_tell_14 : decode cX11_tell 14 = .ok (.ireturn, 1) := dq_172 (dq_suf 14 dt39acX11_tell_0 rfl rfl)
theorem dX11_tell_15 : decode cX11_tell 15 = .ok (.aload_n 0, 1) := dq_42 (dq_suf 15 dt39acX11_tell_0 rfl rfl)
theorem dX11_tell_16 : decode cX11_tell 16 = .ok (.iconst 0, 1) := dq_3 (dq_suf 0 dt39acX11_tell_1 rfl rfl)
theorem dX11_tell_17 : decode cX11_tell 17 = .ok (.putfield 165, 3) := dq_181 (dq_suf 1 dt39acX11_tell_1 rfl rfl) rfl
theorem dX11_tell_20 : decode cX11_tell 20 = .ok (.aload_n 0, 1) := dq_42 (dq_suf 4 dt39acX11_tell_1 rfl rfl)
theorem dX11_tell_21 : decode cX11_tell 21 = .ok (.getfield 66, 3) := dq_180 (dq_suf 5 dt39acX11_tell_1 rfl rfl) rfl
theorem dX11_tell_24 : decode cX11_tell 24 = .ok (.iconst 0, 1) := dq_3 (dq_suf 8 dt39acX11_tell_1 rfl rfl)
theorem dX11_tell_25 : decode cX11_tell 25 = .ok (.iload_n 1, 1) := dq_27 (dq_suf 9 dt39acX11_tell_1 rfl rfl)
theorem dX11_tell_26 : decode cX11_tell 26 = .ok (.iastore, 1) := dq_79 (dq_suf 10 dt39acX11_tell_1 rfl rfl)
theorem dX11_tell_27 : decode cX11_tell 27 = .ok (.iconst 1, 1) := dq_4 (dq_suf 11 dt39acX11_tell_1 rfl rfl)
theorem dX11_tell_28 : decode cX11_tell 28 = .ok (.istore_n 2, 1) := dq_61 (dq_suf 12 dt39acX11_tell_1 rfl rfl)
theorem dX11_tell_29 : decode cX11_tell 29 = .ok (.iload_n 2, 1) := dq_28 (dq_suf 13 dt39acX11_tell_1 rfl rfl)
theorem dX11_tell_30 : decode cX11_tell 30 = .ok (.ifCond .le 281, 3) := dq_158 (dq_suf 14 dt39acX11_tell_1 rfl rfl) (by decide +kernel)
theorem dX11_tell_33 : decode cX11_tell 33 = .ok (.aload_n 0, 1) := dq_42 (dq_suf 1 dt39acX11_tell_2 rfl rfl)
theorem dX11_tell_34 : decode cX11_tell 34 = .ok (.getfield 165, 3) := dq_180 (dq_suf 2 dt39acX11_tell_2 rfl rfl) rfl
theorem dX11_tell_37 : decode cX11_tell 37 = .ok (.sipush 400, 3) := dq_17 (dq_suf 5 dt39acX11_tell_2 rfl rfl) (by decide +kernel)
theorem dX11_tell_40 : decode cX11_tell 40 = .ok (.if_icmp .ge 271, 3) := dq_162 (dq_suf 8 dt39acX11_tell_2 rfl rfl) (by decide +kernel)
theorem dX11_tell_43 : decode cX11_tell 43 = .ok (.iinc 2 (-1), 3) := dq_132 (dq_suf 11 dt39acX11_tell_2 rfl rfl) rfl (by decide +kernel)
theorem dX11_tell_46 : decode cX11_tell 46 = .ok (.aload_n 0, 1) := dq_42 (dq_suf 14 dt39acX11_tell_2 rfl rfl)
theorem dX11_tell_47 : decode cX11_tell 47 = .ok (.getfield 66, 3) := dq_180 (dq_suf 15 dt39acX11_tell_2 rfl rfl) rfl
theorem dX11_tell_50 : decode cX11_tell 50 = .ok (.iload_n 2, 1) := dq_28 (dq_suf 2 dt39acX11_tell_3 rfl rfl)
theorem dX11_tell_51 : decode cX11_tell 51 = .ok (.iaload, 1) := dq_46 (dq_suf 3 dt39acX11_tell_3 rfl rfl)
theorem dX11_tell_52 : decode cX11_tell 52 = .ok (.istore_n 3, 1) := dq_62 (dq_suf 4 dt39acX11_tell_3 rfl rfl)
theorem dX11_tell_53 : decode cX11_tell 53 = .ok (.iload_n 3, 1) := dq_29 (dq_suf 5 dt39acX11_tell_3 rfl rfl)
theorem dX11_tell_54 : decode cX11_tell 54 = .ok (.ifCond .ge 12, 3) := dq_156 (dq_suf 6 dt39acX11_tell_3 rfl rfl) (by decide +kernel)
theorem dX11_tell_57 : decode cX11_tell 57 = .ok (.aload_n 0, 1) := dq_42 (dq_suf 9 dt39acX11_tell_3 rfl rfl)
theorem dX11_tell_58 : decode cX11_tell 58 = .ok (.iload_n 3, 1) := dq_29 (dq_suf 10 dt39acX11_tell_3 rfl rfl)
theorem dX11_tell_59 : decode cX11_tell 59 = .ok (.ineg, 1) := dq_116 (dq_suf 11 dt39acX11_tell_3 rfl rfl)
theorem dX11_tell_60 : decode cX11_tell 60 = .ok (.invokevirtual 270, 3) := dq_182 (dq_suf 12 dt39acX11_tell_3 rfl rfl) rfl
theorem dX11_tell_63 : decode cX11_tell 63 = .ok (.goto (-34), 3) := dq_167 (dq_suf 15 dt39acX11_tell_3 rfl rfl) (by decide +kernel)
theorem dX11_tell_66 : decode cX11_tell 66 = .ok (.aload_n 0, 1) := dq_42 (dq_suf 2 dt39acX11_tell_4 rfl rfl)
theorem dX11_tell_67 : decode cX11_tell 67 = .ok (.getfield 16, 3) := dq_180 (dq_suf 3 dt39acX11_tell_4 rfl rfl) rfl
theorem dX11_tell_70 : decode cX11_tell 70 = .ok (.iload_n 3, 1) := dq_29 (dq_suf 6 dt39acX11_tell_4 rfl rfl)
theorem dX11_tell_71 : decode cX11_tell 71 = .ok (.iaload, 1) := dq_46 (dq_suf 7 dt39acX11_tell_4 rfl rfl)
theorem dX11_tell_72 : decode cX11_tell 72 = .ok (.tableswitch 166 0 7 #[48, 57, 88, 66, 166, 166, 104, 104], 48) := by decide +kernel
theorem dX11_tell_120 : decode cX11_tell 120 = .ok (.aload_n 0, 1) := dq_42 (dq_suf 8 dt39acX11_tell_7 rfl rfl)
theorem dX11_tell_121 : decode cX11_tell 121 = .ok (.bipush 84, 2) := dq_16 (dq_suf 9 dt39acX11_tell_7 rfl rfl) (by decide +kernel)
theorem dX11_tell_123 : decode cX11_tell 123 = .ok (.invokevirtual 270, 3) := dq_182 (dq_suf 11 dt39acX11_tell_7 rfl rfl) rfl
theorem dX11_tell_126 : decode cX11_tell 126 = .ok (.goto 182, 3) := dq_167 (dq_suf 14 dt39acX11_tell_7 rfl rfl) (by decide +kernel)
theorem dX11_tell_129 : decode cX11_tell 129 = .ok (.aload_n 0, 1) := dq_42 (dq_suf 1 dt39acX11_tell_8 rfl rfl)
theorem dX11_tell_130 : decode cX11_tell 130 = .ok (.bipush 70, 2) := dq_16 (dq_suf 2 dt39acX11_tell_8 rfl rfl) (by decide +kernel)
theorem dX11_tell_132 : decode cX11_tell 132 = .ok (.invokevirtual 270, 3) := dq_182 (dq_suf 4 dt39acX11_tell_8 rfl rfl) rfl
theorem dX11_tell_135 : decode cX11_tell 135 = .ok (.goto 173, 3) := dq_167 (dq_suf 7 dt39acX11_tell_8 rfl rfl) (by decide +kernel)
theorem dX11_tell_138 : decode cX11_tell 138 = .ok (.aload_n 0, 1) := dq_42 (dq_suf 10 dt39acX11_tell_8 rfl rfl)
theorem dX11_tell_139 : decode cX11_tell 139 = .ok (.bipush 33, 2) := dq_16 (dq_suf 11 dt39acX11_tell_8 rfl rfl) (by decide +kernel)
theorem dX11_tell_141 : decode cX11_tell 141 = .ok (.invokevirtual 270, 3) := dq_182 (dq_suf 13 dt39acX11_tell_8 rfl rfl) rfl
theorem dX11_tell_144 : decode cX11_tell 144 = .ok (.aload_n 0, 1) := dq_42 (dq_suf 0 dt39acX11_tell_9 rfl rfl)
theorem dX11_tell_145 : decode cX11_tell 145 = .ok (.bipush 97, 2) := dq_16 (dq_suf 1 dt39acX11_tell_9 rfl rfl) (by decide +kernel)
theorem dX11_tell_147 : decode cX11_tell 147 = .ok (.aload_n 0, 1) := dq_42 (dq_suf 3 dt39acX11_tell_9 rfl rfl)
theorem dX11_tell_148 : decode cX11_tell 148 = .ok (.getfield 20, 3) := dq_180 (dq_suf 4 dt39acX11_tell_9 rfl rfl) rfl
theorem dX11_tell_151 : decode cX11_tell 151 = .ok (.iload_n 3, 1) := dq_29 (dq_suf 7 dt39acX11_tell_9 rfl rfl)
theorem dX11_tell_152 : decode cX11_tell 152 = .ok (.iaload, 1) := dq_46 (dq_suf 8 dt39acX11_tell_9 rfl rfl)
theorem dX11_tell_153 : decode cX11_tell 153 = .ok (.iadd, 1) := dq_96 (dq_suf 9 dt39acX11_tell_9 rfl rfl)
theorem dX11_tell_154 : decode cX11_tell 154 = .ok (.invokevirtual 270, 3) := dq_182 (dq_suf 10 dt39acX11_tell_9 rfl rfl) rfl
theorem dX11_tell_157 : decode cX11_tell 157 = .ok (.goto 151, 3) := dq_167 (dq_suf 13 dt39acX11_tell_9 rfl rfl) (by decide +kernel)
theorem dX11_tell_160 : decode cX11_tell 160 = .ok (.aload_n 0, 1) := dq_42 (dq_suf 0 dt39acX11_tell_10 rfl rfl)
theorem dX11_tell_161 : decode cX11_tell 161 = .ok (.bipush 97, 2) := dq_16 (dq_suf 1 dt39acX11_tell_10 rfl rfl) (by decide +kernel)
theorem dX11_tell_163 : decode cX11_tell 163 = .ok (.aload_n 0, 1) := dq_42 (dq_suf 3 dt39acX11_tell_10 rfl rfl)
theorem dX11_tell_164 : decode cX11_tell 164 = .ok (.getfield 20, 3) := dq_180 (dq_suf 4 dt39acX11_tell_10 rfl rfl) rfl
theorem dX11_tell_167 : decode cX11_tell 167 = .ok (.iload_n 3, 1) := dq_29 (dq_suf 7 dt39acX11_tell_10 rfl rfl)
theorem dX11_tell_168 : decode cX11_tell 168 = .ok (.iaload, 1) := dq_46 (dq_suf 8 dt39acX11_tell_10 rfl rfl)
theorem dX11_tell_169 : decode cX11_tell 169 = .ok (.iadd, 1) := dq_96 (dq_suf 9 dt39acX11_tell_10 rfl rfl)
theorem dX11_tell_170 : decode cX11_tell 170 = .ok (.invokevirtual 270, 3) := dq_182 (dq_suf 10 dt39acX11_tell_10 rfl rfl) rfl
theorem dX11_tell_173 : decode cX11_tell 173 = .ok (.goto 135, 3) := dq_167 (dq_suf 13 dt39acX11_tell_10 rfl rfl) (by decide +kernel)
theorem dX11_tell_176 : decode cX11_tell 176 = .ok (.aload_n 0, 1) := dq_42 (dq_suf 0 dt39acX11_tell_11 rfl rfl)
theorem dX11_tell_177 : decode cX11_tell 177 = .ok (.aload_n 0, 1) := dq_42 (dq_suf 1 dt39acX11_tell_11 rfl rfl)
theorem dX11_tell_178 : decode cX11_tell 178 = .ok (.getfield 16, 3) := dq_180 (dq_suf 2 dt39acX11_tell_11 rfl rfl) rfl
theorem dX11_tell_181 : decode cX11_tell 181 = .ok (.iload_n 3, 1) := dq_29 (dq_suf 5 dt39acX11_tell_11 rfl rfl)
theorem dX11_tell_182 : decode cX11_tell 182 = .ok (.iaload, 1) := dq_46 (dq_suf 6 dt39acX11_tell_11 rfl rfl)
theorem dX11_tell_183 : decode cX11_tell 183 = .ok (.bipush 6, 2) := dq_16 (dq_suf 7 dt39acX11_tell_11 rfl rfl) (by decide +kernel)
theorem dX11_tell_185 : decode cX11_tell 185 = .ok (.if_icmp .ne 8, 3) := dq_160 (dq_suf 9 dt39acX11_tell_11 rfl rfl) (by decide +kernel)
theorem dX11_tell_188 : decode cX11_tell 188 = .ok (.bipush 91, 2) := dq_16 (dq_suf 12 dt39acX11_tell_11 rfl rfl) (by decide +kernel)
theorem dX11_tell_190 : decode cX11_tell 190 = .ok (.goto 5, 3) := dq_167 (dq_suf 14 dt39acX11_tell_11 rfl rfl) (by decide +kernel)
theorem dX11_tell_193 : decode cX11_tell 193 = .ok (.bipush 60, 2) := dq_16 (dq_suf 1 dt39acX11_tell_12 rfl rfl) (by decide +kernel)
theorem dX11_tell_195 : decode cX11_tell 195 = .ok (.invokevirtual 270, 3) := dq_182 (dq_suf 3 dt39acX11_tell_12 rfl rfl) rfl
theorem dX11_tell_198 : decode cX11_tell 198 = .ok (.aload_n 0, 1) := dq_42 (dq_suf 6 dt39acX11_tell_12 rfl rfl)
theorem dX11_tell_199 : decode cX11_tell 199 = .ok (.aload_n 0, 1) := dq_42 (dq_suf 7 dt39acX11_tell_12 rfl rfl)
theorem dX11_tell_200 : decode cX11_tell 200 = .ok (.getfield 16, 3) := dq_180 (dq_suf 8 dt39acX11_tell_12 rfl rfl) rfl
theorem dX11_tell_203 : decode cX11_tell 203 = .ok (.iload_n 3, 1) := dq_29 (dq_suf 11 dt39acX11_tell_12 rfl rfl)
theorem dX11_tell_204 : decode cX11_tell 204 = .ok (.iaload, 1) := dq_46 (dq_suf 12 dt39acX11_tell_12 rfl rfl)
theorem dX11_tell_205 : decode cX11_tell 205 = .ok (.bipush 6, 2) := dq_16 (dq_suf 13 dt39acX11_tell_12 rfl rfl) (by decide +kernel)
theorem dX11_tell_207 : decode cX11_tell 207 = .ok (.if_icmp .ne 8, 3) := dq_160 (dq_suf 15 dt39acX11_tell_12 rfl rfl) (by decide +kernel)
theorem dX11_tell_210 : decode cX11_tell 210 = .ok (.bipush 93, 2) := dq_16 (dq_suf 2 dt39acX11_tell_13 rfl rfl) (by decide +kernel)
theorem dX11_tell_212 : decode cX11_tell 212 = .ok (.goto 5, 3) := dq_167 (dq_suf 4 dt39acX11_tell_13 rfl rfl) (by decide +kernel)
theorem dX11_tell_215 : decode cX11_tell 215 = .ok (.bipush 62, 2) := dq_16 (dq_suf 7 dt39acX11_tell_13 rfl rfl) (by decide +kernel)
theorem dX11_tell_217 : decode cX11_tell 217 = .ok (.invokevirtual 270, 3) := dq_182 (dq_suf 9 dt39acX11_tell_13 rfl rfl) rfl
theorem dX11_tell_220 : decode cX11_tell 220 = .ok (.aload_n 0, 1) := dq_42 (dq_suf 12 dt39acX11_tell_13 rfl rfl)
theorem dX11_tell_221 : decode cX11_tell 221 = .ok (.getfield 66, 3) := dq_180 (dq_suf 13 dt39acX11_tell_13 rfl rfl) rfl
theorem dX11_tell_224 : decode cX11_tell 224 = .ok (.iload_n 2, 1) := dq_28 (dq_suf 0 dt39acX11_tell_14 rfl rfl)
theorem dX11_tell_225 : decode cX11_tell 225 = .ok (.aload_n 0, 1) := dq_42 (dq_suf 1 dt39acX11_tell_14 rfl rfl)
theorem dX11_tell_226 : decode cX11_tell 226 = .ok (.getfield 20, 3) := dq_180 (dq_suf 2 dt39acX11_tell_14 rfl rfl) rfl
theorem dX11_tell_229 : decode cX11_tell 229 = .ok (.iload_n 3, 1) := dq_29 (dq_suf 5 dt39acX11_tell_14 rfl rfl)
theorem dX11_tell_230 : decode cX11_tell 230 = .ok (.iaload, 1) := dq_46 (dq_suf 6 dt39acX11_tell_14 rfl rfl)
theorem dX11_tell_231 : decode cX11_tell 231 = .ok (.iastore, 1) := dq_79 (dq_suf 7 dt39acX11_tell_14 rfl rfl)
theorem dX11_tell_232 : decode cX11_tell 232 = .ok (.iinc 2 1, 3) := dq_132 (dq_suf 8 dt39acX11_tell_14 rfl rfl) rfl (by decide +kernel)
theorem dX11_tell_235 : decode cX11_tell 235 = .ok (.goto 73, 3) := dq_167 (dq_suf 11 dt39acX11_tell_14 rfl rfl) (by decide +kernel)
theorem dX11_tell_238 : decode cX11_tell 238 = .ok (.aload_n 0, 1) := dq_42 (dq_suf 14 dt39acX11_tell_14 rfl rfl)
theorem dX11_tell_239 : decode cX11_tell 239 = .ok (.bipush 40, 2) := dq_16 (dq_suf 15 dt39acX11_tell_14 rfl rfl) (by decide +kernel)
theorem dX11_tell_241 : decode cX11_tell 241 = .ok (.invokevirtual 270, 3) := dq_182 (dq_suf 1 dt39acX11_tell_15 rfl rfl) rfl
theorem dX11_tell_244 : decode cX11_tell 244 = .ok (.aload_n 0, 1) := dq_42 (dq_suf 4 dt39acX11_tell_15 rfl rfl)
theorem dX11_tell_245 : decode cX11_tell 245 = .ok (.getfield 66, 3) := dq_180 (dq_suf 5 dt39acX11_tell_15 rfl rfl) rfl
theorem dX11_tell_248 : decode cX11_tell 248 = .ok (.iload_n 2, 1) := dq_28 (dq_suf 8 dt39acX11_tell_15 rfl rfl)
theorem dX11_tell_249 : decode cX11_tell 249 = .ok (.bipush (-41), 2) := dq_16 (dq_suf 9 dt39acX11_tell_15 rfl rfl) (by decide +kernel)
theorem dX11_tell_251 : decode cX11_tell 251 = .ok (.iastore, 1) := dq_79 (dq_suf 11 dt39acX11_tell_15 rfl rfl)
theorem dX11_tell_252 : decode cX11_tell 252 = .ok (.aload_n 0, 1) := dq_42 (dq_suf 12 dt39acX11_tell_15 rfl rfl)
theorem dX11_tell_253 : decode cX11_tell 253 = .ok (.getfield 66, 3) := dq_180 (dq_suf 13 dt39acX11_tell_15 rfl rfl) rfl
theorem dX11_tell_256 : decode cX11_tell 256 = .ok (.iload_n 2, 1) := dq_28 (dq_suf 0 dt39acX11_tell_16 rfl rfl)
theorem dX11_tell_257 : decode cX11_tell 257 = .ok (.iconst 1, 1) := dq_4 (dq_suf 1 dt39acX11_tell_16 rfl rfl)
theorem dX11_tell_258 : decode cX11_tell 258 = .ok (.iadd, 1) := dq_96 (dq_suf 2 dt39acX11_tell_16 rfl rfl)
theorem dX11_tell_259 : decode cX11_tell 259 = .ok (.aload_n 0, 1) := dq_42 (dq_suf 3 dt39acX11_tell_16 rfl rfl)
theorem dX11_tell_260 : decode cX11_tell 260 = .ok (.getfield 23, 3) := dq_180 (dq_suf 4 dt39acX11_tell_16 rfl rfl) rfl
theorem dX11_tell_263 : decode cX11_tell 263 = .ok (.iload_n 3, 1) := dq_29 (dq_suf 7 dt39acX11_tell_16 rfl rfl)
theorem dX11_tell_264 : decode cX11_tell 264 = .ok (.iaload, 1) := dq_46 (dq_suf 8 dt39acX11_tell_16 rfl rfl)
theorem dX11_tell_265 : decode cX11_tell 265 = .ok (.iastore, 1) := dq_79 (dq_suf 9 dt39acX11_tell_16 rfl rfl)
theorem dX11_tell_266 : decode cX11_tell 266 = .ok (.aload_n 0, 1) := dq_42 (dq_suf 10 dt39acX11_tell_16 rfl rfl)
theorem dX11_tell_267 : decode cX11_tell 267 = .ok (.getfield 66, 3) := dq_180 (dq_suf 11 dt39acX11_tell_16 rfl rfl) rfl
theorem dX11_tell_270 : decode cX11_tell 270 = .ok (.iload_n 2, 1) := dq_28 (dq_suf 14 dt39acX11_tell_16 rfl rfl)
theorem dX11_tell_271 : decode cX11_tell 271 = .ok (.iconst 2, 1) := dq_5 (dq_suf 15 dt39acX11_tell_16 rfl rfl)
theorem dX11_tell_272 : decode cX11_tell 272 = .ok (.iadd, 1) := dq_96 (dq_suf 0 dt39acX11_tell_17 rfl rfl)
theorem dX11_tell_273 : decode cX11_tell 273 = .ok (.aload_n 0, 1) := dq_42 (dq_suf 1 dt39acX11_tell_17 rfl rfl)
theorem dX11_tell_274 : decode cX11_tell 274 = .ok (.getfield 16, 3) := dq_180 (dq_suf 2 dt39acX11_tell_17 rfl rfl) rfl
theorem dX11_tell_277 : decode cX11_tell 277 = .ok (.iload_n 3, 1) := dq_29 (dq_suf 5 dt39acX11_tell_17 rfl rfl)
theorem dX11_tell_278 : decode cX11_tell 278 = .ok (.iaload, 1) := dq_46 (dq_suf 6 dt39acX11_tell_17 rfl rfl)
theorem dX11_tell_279 : decode cX11_tell 279 = .ok (.iconst 4, 1) := dq_7 (dq_suf 7 dt39acX11_tell_17 rfl rfl)
theorem dX11_tell_280 : decode cX11_tell 280 = .ok (.if_icmp .ne 8, 3) := dq_160 (dq_suf 8 dt39acX11_tell_17 rfl rfl) (by decide +kernel)
theorem dX11_tell_283 : decode cX11_tell 283 = .ok (.bipush (-38), 2) := dq_16 (dq_suf 11 dt39acX11_tell_17 rfl rfl) (by decide +kernel)
theorem dX11_tell_285 : decode cX11_tell 285 = .ok (.goto 5, 3) := dq_167 (dq_suf 13 dt39acX11_tell_17 rfl rfl) (by decide +kernel)
theorem dX11_tell_288 : decode cX11_tell 288 = .ok (.bipush (-124), 2) := dq_16 (dq_suf 0 dt39acX11_tell_18 rfl rfl) (by decide +kernel)
theorem dX11_tell_290 : decode cX11_tell 290 = .ok (.iastore, 1) := dq_79 (dq_suf 2 dt39acX11_tell_18 rfl rfl)
theorem dX11_tell_291 : decode cX11_tell 291 = .ok (.aload_n 0, 1) := dq_42 (dq_suf 3 dt39acX11_tell_18 rfl rfl)
theorem dX11_tell_292 : decode cX11_tell 292 = .ok (.getfield 66, 3) := dq_180 (dq_suf 4 dt39acX11_tell_18 rfl rfl) rfl
theorem dX11_tell_295 : decode cX11_tell 295 = .ok (.iload_n 2, 1) := dq_28 (dq_suf 7 dt39acX11_tell_18 rfl rfl)
theorem dX11_tell_296 : decode cX11_tell 296 = .ok (.iconst 3, 1) := dq_6 (dq_suf 8 dt39acX11_tell_18 rfl rfl)
theorem dX11_tell_297 : decode cX11_tell 297 = .ok (.iadd, 1) := dq_96 (dq_suf 9 dt39acX11_tell_18 rfl rfl)
theorem dX11_tell_298 : decode cX11_tell 298 = .ok (.aload_n 0, 1) := dq_42 (dq_suf 10 dt39acX11_tell_18 rfl rfl)
theorem dX11_tell_299 : decode cX11_tell 299 = .ok (.getfield 20, 3) := dq_180 (dq_suf 11 dt39acX11_tell_18 rfl rfl) rfl
theorem dX11_tell_302 : decode cX11_tell 302 = .ok (.iload_n 3, 1) := dq_29 (dq_suf 14 dt39acX11_tell_18 rfl rfl)
theorem dX11_tell_303 : decode cX11_tell 303 = .ok (.iaload, 1) := dq_46 (dq_suf 15 dt39acX11_tell_18 rfl rfl)
theorem dX11_tell_304 : decode cX11_tell 304 = .ok (.iastore, 1) := dq_79 (dq_suf 0 dt39acX11_tell_19 rfl rfl)
theorem dX11_tell_305 : decode cX11_tell 305 = .ok (.iinc 2 4, 3) := dq_132 (dq_suf 1 dt39acX11_tell_19 rfl rfl) rfl (by decide +kernel)
theorem dX11_tell_308 : decode cX11_tell 308 = .ok (.goto (-279), 3) := dq_167 (dq_suf 4 dt39acX11_tell_19 rfl rfl) (by decide +kernel)
theorem dX11_tell_311 : decode cX11_tell 311 = .ok (.aload_n 0, 1) := dq_42 (dq_suf 7 dt39acX11_tell_19 rfl rfl)
theorem dX11_tell_312 : decode cX11_tell 312 = .ok (.getfield 165, 3) := dq_180 (dq_suf 8 dt39acX11_tell_19 rfl rfl) rfl
theorem dX11_tell_315 : decode cX11_tell 315 = .ok (.ireturn, 1) := dq_172 (dq_suf 11 dt39acX11_tell_19 rfl rfl)
noncomputable def ds39acX11_tells_1 : List UInt8 := 0 :: 165 :: 27 :: 145 :: 84 :: 42 :: 89 :: 180 :: 0 :: 165 :: 4 :: 96 :: 181 :: 0 :: 165 :: 177 :: []
noncomputable def ds39acX11_tells_0 : List UInt8 := 42 :: 180 :: 0 :: 165 :: 17 :: 1 :: 144 :: 162 :: 0 :: 24 :: 42 :: 180 :: 0 :: 13 :: 42 :: 180 :: ds39acX11_tells_1
theorem dt39acX11_tells_0 : cX11_tells.data.toList.drop 0 = ds39acX11_tells_0 := by decide +kernel
theorem dt39acX11_tells_1 : cX11_tells.data.toList.drop 16 = ds39acX11_tells_1 := dq_suf 16 dt39acX11_tells_0 rfl rfl
theorem dX11_tells_0 : decode cX11_tells 0 = .ok (.aload_n 0, 1) := dq_42 (dq_suf 0 dt39acX11_tells_0 rfl rfl)
theorem dX11_tells_1 : decode cX11_tells 1 = .ok (.getfield 165, 3) := dq_180 (dq_suf 1 dt39acX11_tells_0 rfl rfl) rfl
theorem dX11_tells_4 : decode cX11_tells 4 = .ok (.sipush 400, 3) := dq_17 (dq_suf 4 dt39acX11_tells_0 rfl rfl) (by decide +kernel)
theorem dX11_tells_7 : decode cX11_tells 7 = .ok (.if_icmp .ge 24, 3) := dq_162 (dq_suf 7 dt39acX11_tells_0 rfl rfl) (by decide +kernel)
theorem dX11_tells_10 : decode cX11_tells 10 = .ok (.aload_n 0, 1) := dq_42 (dq_suf 10 dt39acX11_tells_0 rfl rfl)
theorem dX11_tells_11 : decode cX11_tells 11 = .ok (.getfield 13, 3) := dq_180 (dq_suf 11 dt39acX11_tells_0 rfl rfl) rfl
theorem dX11_tells_14 : decode cX11_tells 14 = .ok (.aload_n 0, 1) := dq_42 (dq_suf 14 dt39acX11_tells_0 rfl rfl)
theorem dX11_tells_15 : decode cX11_tells 15 = .ok (.getfield 165, 3) := dq_180 (dq_suf 15 dt39acX11_tells_0 rfl rfl) rfl
theorem dX11_tells_18 : decode cX11_tells 18 = .ok (.iload_n 1, 1) := dq_27 (dq_suf 2 dt39acX11_tells_1 rfl rfl)
theorem dX11_tells_19 : decode cX11_tells 19 = .ok (.i2b, 1) := dq_145 (dq_suf 3 dt39acX11_tells_1 rfl rfl)
theorem dX11_tells_20 : decode cX11_tells 20 = .ok (.bastore, 1) := dq_84 (dq_suf 4 dt39acX11_tells_1 rfl rfl)
theorem dX11_tells_21 : decode cX11_tells 21 = .ok (.aload_n 0, 1) := dq_42 (dq_suf 5 dt39acX11_tells_1 rfl rfl)
theorem dX11_tells_22 : decode cX11_tells 22 = .ok (.dup, 1) := dq_89 (dq_suf 6 dt39acX11_tells_1 rfl rfl)
theorem dX11_tells_23 : decode cX11_tells 23 = .ok (.getfield 165, 3) := dq_180 (dq_suf 7 dt39acX11_tells_1 rfl rfl) rfl
theorem dX11_tells_26 : decode cX11_tells 26 = .ok (.iconst 1, 1) := dq_4 (dq_suf 10 dt39acX11_tells_1 rfl rfl)
theorem dX11_tells_27 : decode cX11_tells 27 = .ok (.iadd, 1) := dq_96 (dq_suf 11 dt39acX11_tells_1 rfl rfl)
theorem dX11_tells_28 : decode cX11_tells 28 = .ok (.putfield 165, 3) := dq_181 (dq_suf 12 dt39acX11_tells_1 rfl rfl) rfl
theorem dX11_tells_31 : decode cX11_tells 31 = .ok (.return_, 1) := dq_177 (dq_suf 15 dt39acX11_tells_1 rfl rfl)
noncomputable def ds39acX11_isIn_1 : List UInt8 := 7 :: 4 :: 167 :: 0 :: 4 :: 3 :: 172 :: []
noncomputable def ds39acX11_isIn_0 : List UInt8 := 42 :: 27 :: 28 :: 8 :: 122 :: 96 :: 46 :: 28 :: 16 :: 31 :: 126 :: 122 :: 4 :: 126 :: 153 :: 0 :: ds39acX11_isIn_1
theorem dt39acX11_isIn_0 : cX11_isIn.data.toList.drop 0 = ds39acX11_isIn_0 := by decide +kernel
theorem dt39acX11_isIn_1 : cX11_isIn.data.toList.drop 16 = ds39acX11_isIn_1 := dq_suf 16 dt39acX11_isIn_0 rfl rfl
theorem dX11_isIn_0 : decode cX11_isIn 0 = .ok (.aload_n 0, 1) := dq_42 (dq_suf 0 dt39acX11_isIn_0 rfl rfl)
theorem dX11_isIn_1 : decode cX11_isIn 1 = .ok (.iload_n 1, 1) := dq_27 (dq_suf 1 dt39acX11_isIn_0 rfl rfl)
theorem dX11_isIn_2 : decode cX11_isIn 2 = .ok (.iload_n 2, 1) := dq_28 (dq_suf 2 dt39acX11_isIn_0 rfl rfl)
theorem dX11_isIn_3 : decode cX11_isIn 3 = .ok (.iconst 5, 1) := dq_8 (dq_suf 3 dt39acX11_isIn_0 rfl rfl)
theorem dX11_isIn_4 : decode cX11_isIn 4 = .ok (.ishr, 1) := dq_122 (dq_suf 4 dt39acX11_isIn_0 rfl rfl)
theorem dX11_isIn_5 : decode cX11_isIn 5 = .ok (.iadd, 1) := dq_96 (dq_suf 5 dt39acX11_isIn_0 rfl rfl)
theorem dX11_isIn_6 : decode cX11_isIn 6 = .ok (.iaload, 1) := dq_46 (dq_suf 6 dt39acX11_isIn_0 rfl rfl)
theorem dX11_isIn_7 : decode cX11_isIn 7 = .ok (.iload_n 2, 1) := dq_28 (dq_suf 7 dt39acX11_isIn_0 rfl rfl)
theorem dX11_isIn_8 : decode cX11_isIn 8 = .ok (.bipush 31, 2) := dq_16 (dq_suf 8 dt39acX11_isIn_0 rfl rfl) (by decide +kernel)
theorem dX11_isIn_10 : decode cX11_isIn 10 = .ok (.iand, 1) := dq_126 (dq_suf 10 dt39acX11_isIn_0 rfl rfl)
theorem dX11_isIn_11 : decode cX11_isIn 11 = .ok (.ishr, 1) := dq_122 (dq_suf 11 dt39acX11_isIn_0 rfl rfl)
theorem dX11_isIn_12 : decode cX11_isIn 12 = .ok (.iconst 1, 1) := dq_4 (dq_suf 12 dt39acX11_isIn_0 rfl rfl)
theorem dX11_isIn_13 : decode cX11_isIn 13 = .ok (.iand, 1) := dq_126 (dq_suf 13 dt39acX11_isIn_0 rfl rfl)
theorem dX11_isIn_14 : decode cX11_isIn 14 = .ok (.ifCond .eq 7, 3) := dq_153 (dq_suf 14 dt39acX11_isIn_0 rfl rfl) (by decide +kernel)
theorem dX11_isIn_17 : decode cX11_isIn 17 = .ok (.iconst 1, 1) := dq_4 (dq_suf 1 dt39acX11_isIn_1 rfl rfl)
theorem dX11_isIn_18 : decode cX11_isIn 18 = .ok (.goto 4, 3) := dq_167 (dq_suf 2 dt39acX11_isIn_1 rfl rfl) (by decide +kernel)
theorem dX11_isIn_21 : decode cX11_isIn 21 = .ok (.iconst 0, 1) := dq_3 (dq_suf 5 dt39acX11_isIn_1 rfl rfl)
theorem dX11_isIn_22 : decode cX11_isIn 22 = .ok (.ireturn, 1) := dq_172 (dq_suf 6 dt39acX11_isIn_1 rfl rfl)
noncomputable def ds39acX11_put_1 : List UInt8 := 177 :: []
noncomputable def ds39acX11_put_0 : List UInt8 := 42 :: 27 :: 28 :: 8 :: 122 :: 96 :: 92 :: 46 :: 4 :: 28 :: 16 :: 31 :: 126 :: 120 :: 128 :: 79 :: ds39acX11_put_1
theorem dt39acX11_put_0 : cX11_put.data.toList.drop 0 = ds39acX11_put_0 := by decide +kernel
theorem dt39acX11_put_1 : cX11_put.data.toList.drop 16 = ds39acX11_put_1 := dq_suf 16 dt39acX11_put_0 rfl rfl
theorem dX11_put_0 : decode cX11_put 0 = .ok (.aload_n 0, 1) := dq_42 (dq_suf 0 dt39acX11_put_0 rfl rfl)
theorem dX11_put_1 : decode cX11_put 1 = .ok (.iload_n 1, 1) := dq_27 (dq_suf 1 dt39acX11_put_0 rfl rfl)
theorem dX11_put_2 : decode cX11_put 2 = .ok (.iload_n 2, 1) := dq_28 (dq_suf 2 dt39acX11_put_0 rfl rfl)
theorem dX11_put_3 : decode cX11_put 3 = .ok (.iconst 5, 1) := dq_8 (dq_suf 3 dt39acX11_put_0 rfl rfl)
theorem dX11_put_4 : decode cX11_put 4 = .ok (.ishr, 1) := dq_122 (dq_suf 4 dt39acX11_put_0 rfl rfl)
theorem dX11_put_5 : decode cX11_put 5 = .ok (.iadd, 1) := dq_96 (dq_suf 5 dt39acX11_put_0 rfl rfl)
theorem dX11_put_6 : decode cX11_put 6 = .ok (.dup2, 1) := dq_92 (dq_suf 6 dt39acX11_put_0 rfl rfl)
theorem dX11_put_7 : decode cX11_put 7 = .ok (.iaload, 1) := dq_46 (dq_suf 7 dt39acX11_put_0 rfl rfl)
theorem dX11_put_8 : decode cX11_put 8 = .ok (.iconst 1, 1) := dq_4 (dq_suf 8 dt39acX11_put_0 rfl rfl)
theorem dX11_put_9 : decode cX11_put 9 = .ok (.iload_n 2, 1) := dq_28 (dq_suf 9 dt39acX11_put_0 rfl rfl)
theorem dX11_put_10 : decode cX11_put 10 = .ok (.bipush 31, 2) := dq_16 (dq_suf 10 dt39acX11_put_0 rfl rfl) (by decide +kernel)
theorem dX11_put_12 : decode cX11_put 12 = .ok (.iand, 1) := dq_126 (dq_suf 12 dt39acX11_put_0 rfl rfl)
theorem dX11_put_13 : decode cX11_put 13 = .ok (.ishl, 1) := dq_120 (dq_suf 13 dt39acX11_put_0 rfl rfl)
theorem dX11_put_14 : decode cX11_put 14 = .ok (.ior, 1) := dq_128 (dq_suf 14 dt39acX11_put_0 rfl rfl)
theorem dX11_put_15 : decode cX11_put 15 = .ok (.iastore, 1) := dq_79 (dq_suf 15 dt39acX11_put_0 rfl rfl)
theorem dX11_put_16 : decode cX11_put 16 = .ok (.return_, 1) := dq_177 (dq_suf 0 dt39acX11_put_1 rfl rfl)
noncomputable def ds39acX11_copy_1 : List UInt8 := 27 :: 21 :: 4 :: 96 :: 46 :: 79 :: 132 :: 4 :: 1 :: 167 :: 255 :: 234 :: 177 :: []
noncomputable def ds39acX11_copy_0 : List UInt8 := 3 :: 54 :: 4 :: 21 :: 4 :: 16 :: 10 :: 162 :: 0 :: 21 :: 44 :: 29 :: 21 :: 4 :: 96 :: 42 :: ds39acX11_copy_1
theorem dt39acX11_copy_0 : cX11_copy.data.toList.drop 0 = ds39acX11_copy_0 := by decide +kernel
theorem dt39acX11_copy_1 : cX11_copy.data.toList.drop 16 = ds39acX11_copy_1 := dq_suf 16 dt39acX11_copy_0 rfl rfl
theorem dX11_copy_0 : decode cX11_copy 0 = .ok (.iconst 0, 1) := dq_3 (dq_suf 0 dt39acX11_copy_0 rfl rfl)
theorem dX11_copy_1 : decode cX11_copy 1 = .ok (.istore 4, 2) := dq_54 (dq_suf 1 dt39acX11_copy_0 rfl rfl) rfl
theorem dX11_copy_3 : decode cX11_copy 3 = .ok (.iload 4, 2) := dq_21 (dq_suf 3 dt39acX11_copy_0 rfl rfl) rfl
theorem dX11_copy_5 : decode cX11_copy 5 = .ok (.bipush 10, 2) := dq_16 (dq_suf 5 dt39acX11_copy_0 rfl rfl) (by decide +kernel)
theorem dX11_copy_7 : decode cX11_copy 7 = .ok (.if_icmp .ge 21, 3) := dq_162 (dq_suf 7 dt39acX11_copy_0 rfl rfl) (by decide +kernel)
theorem dX11_copy_10 : decode cX11_copy 10 = .ok (.aload_n 2, 1) := dq_44 (dq_suf 10 dt39acX11_copy_0 rfl rfl)
theorem dX11_copy_11 : decode cX11_copy 11 = .ok (.iload_n 3, 1) := dq_29 (dq_suf 11 dt39acX11_copy_0 rfl rfl)
theorem dX11_copy_12 : decode cX11_copy 12 = .ok (.iload 4, 2) := dq_21 (dq_suf 12 dt39acX11_copy_0 rfl rfl) rfl
theorem dX11_copy_14 : decode cX11_copy 14 = .ok (.iadd, 1) := dq_96 (dq_suf 14 dt39acX11_copy_0 rfl rfl)
theorem dX11_copy_15 : decode cX11_copy 15 = .ok (.aload_n 0, 1) := dq_42 (dq_suf 15 dt39acX11_copy_0 rfl rfl)
theorem dX11_copy_16 : decode cX11_copy 16 = .ok (.iload_n 1, 1) := dq_27 (dq_suf 0 dt39acX11_copy_1 rfl rfl)
theorem dX11_copy_17 : decode cX11_copy 17 = .ok (.iload 4, 2) := dq_21 (dq_suf 1 dt39acX11_copy_1 rfl rfl) rfl
theorem dX11_copy_19 : decode cX11_copy 19 = .ok (.iadd, 1) := dq_96 (dq_suf 3 dt39acX11_copy_1 rfl rfl)
theorem dX11_copy_20 : decode cX11_copy 20 = .ok (.iaload, 1) := dq_46 (dq_suf 4 dt39acX11_copy_1 rfl rfl)
theorem dX11_copy_21 : decode cX11_copy 21 = .ok (.iastore, 1) := dq_79 (dq_suf 5 dt39acX11_copy_1 rfl rfl)
theorem dX11_copy_22 : decode cX11_copy 22 = .ok (.iinc 4 1, 3) := dq_132 (dq_suf 6 dt39acX11_copy_1 rfl rfl) rfl (by decide +kernel)
theorem dX11_copy_25 : decode cX11_copy 25 = .ok (.goto (-22), 3) := dq_167 (dq_suf 9 dt39acX11_copy_1 rfl rfl) (by decide +kernel)
theorem dX11_copy_28 : decode cX11_copy 28 = .ok (.return_, 1) := dq_177 (dq_suf 12 dt39acX11_copy_1 rfl rfl)
noncomputable def ds39acX11_clash_3 : List UInt8 := 182 :: 1 :: 21 :: 153 :: 0 :: 5 :: 27 :: 172 :: 132 :: 1 :: 1 :: 167 :: 255 :: 213 :: 2 :: 172 :: []
noncomputable def ds39acX11_clash_2 : List UInt8 := 0 :: 25 :: 42 :: 180 :: 0 :: 69 :: 3 :: 27 :: 184 :: 1 :: 17 :: 153 :: 0 :: 13 :: 42 :: 27 :: ds39acX11_clash_3
noncomputable def ds39acX11_clash_1 : List UInt8 := 27 :: 42 :: 180 :: 0 :: 26 :: 162 :: 0 :: 41 :: 42 :: 180 :: 0 :: 16 :: 27 :: 46 :: 5 :: 160 :: ds39acX11_clash_2
noncomputable def ds39acX11_clash_0 : List UInt8 := 42 :: 180 :: 0 :: 69 :: 3 :: 4 :: 184 :: 1 :: 17 :: 153 :: 0 :: 5 :: 4 :: 172 :: 5 :: 60 :: ds39acX11_clash_1
theorem dt39acX11_clash_0 : cX11_clash.data.toList.drop 0 = ds39acX11_clash_0 := by decide +kernel
theorem dt39acX11_clash_1 : cX11_clash.data.toList.drop 16 = ds39acX11_clash_1 := dq_suf 16 dt39acX11_clash_0 rfl rfl
theorem dt39acX11_clash_2 : cX11_clash.data.toList.drop 32 = ds39acX11_clash_2 := dq_suf 16 dt39acX11_clash_1 rfl rfl
theorem dt39acX11_clash_3 : cX11_clash.data.toList.drop 48 = ds39acX11_clash_3 := dq_suf 16 dt39acX11_clash_2 rfl rfl
theorem dX11_clash_0 : decode cX11_clash 0 = .ok (.aload_n 0, 1) := dq_42 (dq_suf 0 dt39acX11_clash_0 rfl rfl)
theorem dX11_clash_1 : decode cX11_clash 1 = .ok (.getfield 69, 3) := dq_180 (dq_suf 1 dt39acX11_clash_0 rfl rfl) rfl
theorem dX11_clash_4 : decode cX11_clash 4 = .ok (.iconst 0, 1) := dq_3 (dq_suf 4 dt39acX11_clash_0 rfl rfl)
theorem dX11_clash_5 : decode cX11_clash 5 = .ok (.iconst 1, 1) := dq_4 (dq_suf 5 dt39acX11_clash_0 rfl rfl)
theorem dX11_clash_6 : decode cX11_clash 6 = .ok (.invokestatic 273, 3) := dq_184 (dq_suf 6 dt39acX11_clash_0 rfl rfl) rfl
theorem dX11_clash_9 : decode cX11_clash 9 = .ok (.ifCond .eq 5, 3) := dq_153 (dq_suf 9 dt39acX11_clash_0 rfl rfl) (by decide +kernel)
theorem dX11_clash_12 : decode cX11_clash 12 = .ok (.iconst 1, 1) := dq_4 (dq_suf 12 dt39acX11_clash_0 rfl rfl)
theorem dX11_clash_13 : decode cX11_clash 13 = .ok (.ireturn, 1) := dq_172 (dq_suf 13 dt39acX11_clash_0 rfl rfl)
theorem dX11_clash_14 : decode cX11_clash 14 = .ok (.iconst 2, 1) := dq_5 (dq_suf 14 dt39acX11_clash_0 rfl rfl)
theorem dX11_clash_15 : decode cX11_clash 15 = .ok (.istore_n 1, 1) := dq_60 (dq_suf 15 dt39acX11_clash_0 rfl rfl)
theorem dX11_clash_16 : decode cX11_clash 16 = .ok (.iload_n 1, 1) := dq_27 (dq_suf 0 dt39acX11_clash_1 rfl rfl)
theorem dX11_clash_17 : decode cX11_clash 17 = .ok (.aload_n 0, 1) := dq_42 (dq_suf 1 dt39acX11_clash_1 rfl rfl)
theorem dX11_clash_18 : decode cX11_clash 18 = .ok (.getfield 26, 3) := dq_180 (dq_suf 2 dt39acX11_clash_1 rfl rfl) rfl
theorem dX11_clash_21 : decode cX11_clash 21 = .ok (.if_icmp .ge 41, 3) := dq_162 (dq_suf 5 dt39acX11_clash_1 rfl rfl) (by decide +kernel)
theorem dX11_clash_24 : decode cX11_clash 24 = .ok (.aload_n 0, 1) := dq_42 (dq_suf 8 dt39acX11_clash_1 rfl rfl)
theorem dX11_clash_25 : decode cX11_clash 25 = .ok (.getfield 16, 3) := dq_180 (dq_suf 9 dt39acX11_clash_1 rfl rfl) rfl
theorem dX11_clash_28 : decode cX11_clash 28 = .ok (.iload_n 1, 1) := dq_27 (dq_suf 12 dt39acX11_clash_1 rfl rfl)
theorem dX11_clash_29 : decode cX11_clash 29 = .ok (.iaload, 1) := dq_46 (dq_suf 13 dt39acX11_clash_1 rfl rfl)
theorem dX11_clash_30 : decode cX11_clash 30 = .ok (.iconst 2, 1) := dq_5 (dq_suf 14 dt39acX11_clash_1 rfl rfl)
theorem dX11_clash_31 : decode cX11_clash 31 = .ok (.if_icmp .ne 25, 3) := dq_160 (dq_suf 15 dt39acX11_clash_1 rfl rfl) (by decide +kernel)
theorem dX11_clash_34 : decode cX11_clash 34 = .ok (.aload_n 0, 1) := dq_42 (dq_suf 2 dt39acX11_clash_2 rfl rfl)
theorem dX11_clash_35 : decode cX11_clash 35 = .ok (.getfield 69, 3) := dq_180 (dq_suf 3 dt39acX11_clash_2 rfl rfl) rfl
theorem dX11_clash_38 : decode cX11_clash 38 = .ok (.iconst 0, 1) := dq_3 (dq_suf 6 dt39acX11_clash_2 rfl rfl)
theorem dX11_clash_39 : decode cX11_clash 39 = .ok (.iload_n 1, 1) := dq_27 (dq_suf 7 dt39acX11_clash_2 rfl rfl)
theorem dX11_clash_40 : decode cX11_clash 40 = .ok (.invokestatic 273, 3) := dq_184 (dq_suf 8 dt39acX11_clash_2 rfl rfl) rfl
theorem dX11_clash_43 : decode cX11_clash 43 = .ok (.ifCond .eq 13, 3) := dq_153 (dq_suf 11 dt39acX11_clash_2 rfl rfl) (by decide +kernel)
theorem dX11_clash_46 : decode cX11_clash 46 = .ok (.aload_n 0, 1) := dq_42 (dq_suf 14 dt39acX11_clash_2 rfl rfl)
theorem dX11_clash_47 : decode cX11_clash 47 = .ok (.iload_n 1, 1) := dq_27 (dq_suf 15 dt39acX11_clash_2 rfl rfl)
theorem dX11_clash_48 : decode cX11_clash 48 = .ok (.invokevirtual 277, 3) := dq_182 (dq_suf 0 dt39acX11_clash_3 rfl rfl) rfl
theorem dX11_clash_51 : decode cX11_clash 51 = .ok (.ifCond .eq 5, 3) := dq_153 (dq_suf 3 dt39acX11_clash_3 rfl rfl) (by decide +kernel)
theorem dX11_clash_54 : decode cX11_clash 54 = .ok (.iload_n 1, 1) := dq_27 (dq_suf 6 dt39acX11_clash_3 rfl rfl)
theorem dX11_clash_55 : decode cX11_clash 55 = .ok (.ireturn, 1) := dq_172 (dq_suf 7 dt39acX11_clash_3 rfl rfl)
theorem dX11_clash_56 : decode cX11_clash 56 = .ok (.iinc 1 1, 3) := dq_132 (dq_suf 8 dt39acX11_clash_3 rfl rfl) rfl (by decide +kernel)
theorem dX11_clash_59 : decode cX11_clash 59 = .ok (.goto (-43), 3) := dq_167 (dq_suf 11 dt39acX11_clash_3 rfl rfl) (by decide +kernel)
theorem dX11_clash_62 : decode cX11_clash 62 = .ok (.iconst (-1), 1) := dq_2 (dq_suf 14 dt39acX11_clash_3 rfl rfl)
theorem dX11_clash_63 : decode cX11_clash 63 = .ok (.ireturn, 1) := dq_172 (dq_suf 15 dt39acX11_clash_3 rfl rfl)
noncomputable def ds39acX11_hasOpposite_3 : List UInt8 := 167 :: 255 :: 210 :: 3 :: 172 :: []
noncomputable def ds39acX11_hasOpposite_2 : List UInt8 := 160 :: 0 :: 13 :: 42 :: 180 :: 0 :: 69 :: 3 :: 28 :: 184 :: 1 :: 17 :: 172 :: 132 :: 2 :: 1 :: ds39acX11_hasOpposite_3
noncomputable def ds39acX11_hasOpposite_1 : List UInt8 := 6 :: 160 :: 0 :: 28 :: 42 :: 180 :: 0 :: 20 :: 28 :: 46 :: 42 :: 180 :: 0 :: 20 :: 27 :: 46 :: ds39acX11_hasOpposite_2
noncomputable def ds39acX11_hasOpposite_0 : List UInt8 := 5 :: 61 :: 28 :: 42 :: 180 :: 0 :: 26 :: 162 :: 0 :: 44 :: 42 :: 180 :: 0 :: 16 :: 28 :: 46 :: ds39acX11_hasOpposite_1
theorem dt39acX11_hasOpposite_0 : cX11_hasOpposite.data.toList.drop 0 = ds39acX11_hasOpposite_0 := by decide +kernel
theorem dt39acX11_hasOpposite_1 : cX11_hasOpposite.data.toList.drop 16 = ds39acX11_hasOpposite_1 := dq_suf 16 dt39acX11_hasOpposite_0 rfl rfl
theorem dt39acX11_hasOpposite_2 : cX11_hasOpposite.data.toList.drop 32 = ds39acX11_hasOpposite_2 := dq_suf 16 dt39acX11_hasOpposite_1 rfl rfl
theorem dt39acX11_hasOpposite_3 : cX11_hasOpposite.data.toList.drop 48 = ds39acX11_hasOpposite_3 := dq_suf 16 dt39acX11_hasOpposite_2 rfl rfl
theorem dX11_hasOpposite_0 : decode cX11_hasOpposite 0 = .ok (.iconst 2, 1) := dq_5 (dq_suf 0 dt39acX11_hasOpposite_0 rfl rfl)
theorem dX11_hasOpposite_1 : decode cX11_hasOpposite 1 = .ok (.istore_n 2, 1) := dq_61 (dq_suf 1 dt39acX11_hasOpposite_0 rfl rfl)
theorem dX11_hasOpposite_2 : decode cX11_hasOpposite 2 = .ok (.iload_n 2, 1) := dq_28 (dq_suf 2 dt39acX11_hasOpposite_0 rfl rfl)
theorem dX11_hasOpposite_3 : decode cX11_hasOpposite 3 = .ok (.aload_n 0, 1) := dq_42 (dq_suf 3 dt39acX11_hasOpposite_0 rfl rfl)
theorem dX11_hasOpposite_4 : decode cX11_hasOpposite 4 = .ok (.getfield 26, 3) := dq_180 (dq_suf 4 dt39acX11_hasOpposite_0 rfl rfl) rfl
theorem dX11_hasOpposite_7 : decode cX11_hasOpposite 7 = .ok (.if_icmp .ge 44, 3) := dq_162 (dq_suf 7 dt39acX11_hasOpposite_0 rfl rfl) (by decide +kernel)
theorem dX11_hasOpposite_10 : decode cX11_hasOpposite 10 = .ok (.aload_n 0, 1) := dq_42 (dq_suf 10 dt39acX11_hasOpposite_0 rfl rfl)
theorem dX11_hasOpposite_11 : decode cX11_hasOpposite 11 = .ok (.getfield 16, 3) := dq_180 (dq_suf 11 dt39acX11_hasOpposite_0 rfl rfl) rfl
theorem dX11_hasOpposite_14 : decode cX11_hasOpposite 14 = .ok (.iload_n 2, 1) := dq_28 (dq_suf 14 dt39acX11_hasOpposite_0 rfl rfl)
theorem dX11_hasOpposite_15 : decode cX11_hasOpposite 15 = .ok (.iaload, 1) := dq_46 (dq_suf 15 dt39acX11_hasOpposite_0 rfl rfl)
theorem dX11_hasOpposite_16 : decode cX11_hasOpposite 16 = .ok (.iconst 3, 1) := dq_6 (dq_suf 0 dt39acX11_hasOpposite_1 rfl rfl)
theorem dX11_hasOpposite_17 : decode cX11_hasOpposite 17 = .ok (.if_icmp .ne 28, 3) := dq_160 (dq_suf 1 dt39acX11_hasOpposite_1 rfl rfl) (by decide +kernel)
theorem dX11_hasOpposite_20 : decode cX11_hasOpposite 20 = .ok (.aload_n 0, 1) := dq_42 (dq_suf 4 dt39acX11_hasOpposite_1 rfl rfl)
theorem dX11_hasOpposite_21 : decode cX11_hasOpposite 21 = .ok (.getfield 20, 3) := dq_180 (dq_suf 5 dt39acX11_hasOpposite_1 rfl rfl) rfl
theorem dX11_hasOpposite_24 : decode cX11_hasOpposite 24 = .ok (.iload_n 2, 1) := dq_28 (dq_suf 8 dt39acX11_hasOpposite_1 rfl rfl)
theorem dX11_hasOpposite_25 : decode cX11_hasOpposite 25 = .ok (.iaload, 1) := dq_46 (dq_suf 9 dt39acX11_hasOpposite_1 rfl rfl)
theorem dX11_hasOpposite_26 : decode cX11_hasOpposite 26 = .ok (.aload_n 0, 1) := dq_42 (dq_suf 10 dt39acX11_hasOpposite_1 rfl rfl)
theorem dX11_hasOpposite_27 : decode cX11_hasOpposite 27 = .ok (.getfield 20, 3) := dq_180 (dq_suf 11 dt39acX11_hasOpposite_1 rfl rfl) rfl
theorem dX11_hasOpposite_30 : decode cX11_hasOpposite 30 = .ok (.iload_n 1, 1) := dq_27 (dq_suf 14 dt39acX11_hasOpposite_1 rfl rfl)
theorem dX11_hasOpposite_31 : decode cX11_hasOpposite 31 = .ok (.iaload, 1) := dq_46 (dq_suf 15 dt39acX11_hasOpposite_1 rfl rfl)
theorem dX11_hasOpposite_32 : decode cX11_hasOpposite 32 = .ok (.if_icmp .ne 13, 3) := dq_160 (dq_suf 0 dt39acX11_hasOpposite_2 rfl rfl) (by decide +kernel)
theorem dX11_hasOpposite_35 : decode cX11_hasOpposite 35 = .ok (.aload_n 0, 1) := dq_42 (dq_suf 3 dt39acX11_hasOpposite_2 rfl rfl)
theorem dX11_hasOpposite_36 : decode cX11_hasOpposite 36 = .ok (.getfield 69, 3) := dq_180 (dq_suf 4 dt39acX11_hasOpposite_2 rfl rfl) rfl
theorem dX11_hasOpposite_39 : decode cX11_hasOpposite 39 = .ok (.iconst 0, 1) := dq_3 (dq_suf 7 dt39acX11_hasOpposite_2 rfl rfl)
theorem dX11_hasOpposite_40 : decode cX11_hasOpposite 40 = .ok (.iload_n 2, 1) := dq_28 (dq_suf 8 dt39acX11_hasOpposite_2 rfl rfl)
theorem dX11_hasOpposite_41 : decode cX11_hasOpposite 41 = .ok (.invokestatic 273, 3) := dq_184 (dq_suf 9 dt39acX11_hasOpposite_2 rfl rfl) rfl
theorem dX11_hasOpposite_44 : decode cX11_hasOpposite 44 = .ok (.ireturn, 1) := dq_172 (dq_suf 12 dt39acX11_hasOpposite_2 rfl rfl)
theorem dX11_hasOpposite_45 : decode cX11_hasOpposite 45 = .ok (.iinc 2 1, 3) := dq_132 (dq_suf 13 dt39acX11_hasOpposite_2 rfl rfl) rfl (by decide +kernel)
theorem dX11_hasOpposite_48 : decode cX11_hasOpposite 48 = .ok (.goto (-46), 3) := dq_167 (dq_suf 0 dt39acX11_hasOpposite_3 rfl rfl) (by decide +kernel)
theorem dX11_hasOpposite_51 : decode cX11_hasOpposite 51 = .ok (.iconst 0, 1) := dq_3 (dq_suf 3 dt39acX11_hasOpposite_3 rfl rfl)
theorem dX11_hasOpposite_52 : decode cX11_hasOpposite 52 = .ok (.ireturn, 1) := dq_172 (dq_suf 4 dt39acX11_hasOpposite_3 rfl rfl)
noncomputable def ds39acX11_firstBoth_4 : List UInt8 := 0 :: 5 :: 27 :: 172 :: 132 :: 1 :: 1 :: 167 :: 255 :: 187 :: 2 :: 172 :: []
noncomputable def ds39acX11_firstBoth_3 : List UInt8 := 20 :: 42 :: 180 :: 0 :: 69 :: 3 :: 42 :: 180 :: 0 :: 23 :: 27 :: 46 :: 184 :: 1 :: 17 :: 154 :: ds39acX11_firstBoth_4
noncomputable def ds39acX11_firstBoth_2 : List UInt8 := 42 :: 180 :: 0 :: 69 :: 3 :: 42 :: 180 :: 0 :: 20 :: 27 :: 46 :: 184 :: 1 :: 17 :: 153 :: 0 :: ds39acX11_firstBoth_3
noncomputable def ds39acX11_firstBoth_1 : List UInt8 := 7 :: 160 :: 0 :: 51 :: 42 :: 180 :: 0 :: 69 :: 3 :: 27 :: 184 :: 1 :: 17 :: 153 :: 0 :: 39 :: ds39acX11_firstBoth_2
noncomputable def ds39acX11_firstBoth_0 : List UInt8 := 5 :: 60 :: 27 :: 42 :: 180 :: 0 :: 26 :: 162 :: 0 :: 67 :: 42 :: 180 :: 0 :: 16 :: 27 :: 46 :: ds39acX11_firstBoth_1
theorem dt39acX11_firstBoth_0 : cX11_firstBoth.data.toList.drop 0 = ds39acX11_firstBoth_0 := by decide +kernel
theorem dt39acX11_firstBoth_1 : cX11_firstBoth.data.toList.drop 16 = ds39acX11_firstBoth_1 := dq_suf 16 dt39acX11_firstBoth_0 rfl rfl
theorem dt39acX11_firstBoth_2 : cX11_firstBoth.data.toList.drop 32 = ds39acX11_firstBoth_2 := dq_suf 16 dt39acX11_firstBoth_1 rfl rfl
theorem dt39acX11_firstBoth_3 : cX11_firstBoth.data.toList.drop 48 = ds39acX11_firstBoth_3 := dq_suf 16 dt39acX11_firstBoth_2 rfl rfl
theorem dt39acX11_firstBoth_4 : cX11_firstBoth.data.toList.drop 64 = ds39acX11_firstBoth_4 := dq_suf 16 dt39acX11_firstBoth_3 rfl rfl
theorem dX11_firstBoth_0 : decode cX11_firstBoth 0 = .ok (.iconst 2, 1) := dq_5 (dq_suf 0 dt39acX11_firstBoth_0 rfl rfl)
theorem dX11_firstBoth_1 : decode cX11_firstBoth 1 = .ok (.istore_n 1, 1) := dq_60 (dq_suf 1 dt39acX11_firstBoth_0 rfl rfl)
theorem dX11_firstBoth_2 : decode cX11_firstBoth 2 = .ok (.iload_n 1, 1) := dq_27 (dq_suf 2 dt39acX11_firstBoth_0 rfl rfl)
theorem dX11_firstBoth_3 : decode cX11_firstBoth 3 = .ok (.aload_n 0, 1) := dq_42 (dq_suf 3 dt39acX11_firstBoth_0 rfl rfl)
theorem dX11_firstBoth_4 : decode cX11_firstBoth 4 = .ok (.getfield 26, 3) := dq_180 (dq_suf 4 dt39acX11_firstBoth_0 rfl rfl) rfl
theorem dX11_firstBoth_7 : decode cX11_firstBoth 7 = .ok (.if_icmp .ge 67, 3) := dq_162 (dq_suf 7 dt39acX11_firstBoth_0 rfl rfl) (by decide +kernel)
theorem dX11_firstBoth_10 : decode cX11_firstBoth 10 = .ok (.aload_n 0, 1) := dq_42 (dq_suf 10 dt39acX11_firstBoth_0 rfl rfl)
theorem dX11_firstBoth_11 : decode cX11_firstBoth 11 = .ok (.getfield 16, 3) := dq_180 (dq_suf 11 dt39acX11_firstBoth_0 rfl rfl) rfl
theorem dX11_firstBoth_14 : decode cX11_firstBoth 14 = .ok (.iload_n 1, 1) := dq_27 (dq_suf 14 dt39acX11_firstBoth_0 rfl rfl)
theorem dX11_firstBoth_15 : decode cX11_firstBoth 15 = .ok (.iaload, 1) := dq_46 (dq_suf 15 dt39acX11_firstBoth_0 rfl rfl)
theorem dX11_firstBoth_16 : decode cX11_firstBoth 16 = .ok (.iconst 4, 1) := dq_7 (dq_suf 0 dt39acX11_firstBoth_1 rfl rfl)
theorem dX11_firstBoth_17 : decode cX11_firstBoth 17 = .ok (.if_icmp .ne 51, 3) := dq_160 (dq_suf 1 dt39acX11_firstBoth_1 rfl rfl) (by decide +kernel)
theorem dX11_firstBoth_20 : decode cX11_firstBoth 20 = .ok (.aload_n 0, 1) := dq_42 (dq_suf 4 dt39acX11_firstBoth_1 rfl rfl)
theorem dX11_firstBoth_21 : decode cX11_firstBoth 21 = .ok (.getfield 69, 3) := dq_180 (dq_suf 5 dt39acX11_firstBoth_1 rfl rfl) rfl
theorem dX11_firstBoth_24 : decode cX11_firstBoth 24 = .ok (.iconst 0, 1) := dq_3 (dq_suf 8 dt39acX11_firstBoth_1 rfl rfl)
theorem dX11_firstBoth_25 : decode cX11_firstBoth 25 = .ok (.iload_n 1, 1) := dq_27 (dq_suf 9 dt39acX11_firstBoth_1 rfl rfl)
theorem dX11_firstBoth_26 : decode cX11_firstBoth 26 = .ok (.invokestatic 273, 3) := dq_184 (dq_suf 10 dt39acX11_firstBoth_1 rfl rfl) rfl
theorem dX11_firstBoth_29 : decode cX11_firstBoth 29 = .ok (.ifCond .eq 39, 3) := dq_153 (dq_suf 13 dt39acX11_firstBoth_1 rfl rfl) (by decide +kernel)
theorem dX11_firstBoth_32 : decode cX11_firstBoth 32 = .ok (.aload_n 0, 1) := dq_42 (dq_suf 0 dt39acX11_firstBoth_2 rfl rfl)
theorem dX11_firstBoth_33 : decode cX11_firstBoth 33 = .ok (.getfield 69, 3) := dq_180 (dq_suf 1 dt39acX11_firstBoth_2 rfl rfl) rfl
theorem dX11_firstBoth_36 : decode cX11_firstBoth 36 = .ok (.iconst 0, 1) := dq_3 (dq_suf 4 dt39acX11_firstBoth_2 rfl rfl)
theorem dX11_firstBoth_37 : decode cX11_firstBoth 37 = .ok (.aload_n 0, 1) := dq_42 (dq_suf 5 dt39acX11_firstBoth_2 rfl rfl)
theorem dX11_firstBoth_38 : decode cX11_firstBoth 38 = .ok (.getfield 20, 3) := dq_180 (dq_suf 6 dt39acX11_firstBoth_2 rfl rfl) rfl
theorem dX11_firstBoth_41 : decode cX11_firstBoth 41 = .ok (.iload_n 1, 1) := dq_27 (dq_suf 9 dt39acX11_firstBoth_2 rfl rfl)
theorem dX11_firstBoth_42 : decode cX11_firstBoth 42 = .ok (.iaload, 1) := dq_46 (dq_suf 10 dt39acX11_firstBoth_2 rfl rfl)
theorem dX11_firstBoth_43 : decode cX11_firstBoth 43 = .ok (.invokestatic 273, 3) := dq_184 (dq_suf 11 dt39acX11_firstBoth_2 rfl rfl) rfl
theorem dX11_firstBoth_46 : decode cX11_firstBoth 46 = .ok (.ifCond .eq 20, 3) := dq_153 (dq_suf 14 dt39acX11_firstBoth_2 rfl rfl) (by decide +kernel)
theorem dX11_firstBoth_49 : decode cX11_firstBoth 49 = .ok (.aload_n 0, 1) := dq_42 (dq_suf 1 dt39acX11_firstBoth_3 rfl rfl)
theorem dX11_firstBoth_50 : decode cX11_firstBoth 50 = .ok (.getfield 69, 3) := dq_180 (dq_suf 2 dt39acX11_firstBoth_3 rfl rfl) rfl
theorem dX11_firstBoth_53 : decode cX11_firstBoth 53 = .ok (.iconst 0, 1) := dq_3 (dq_suf 5 dt39acX11_firstBoth_3 rfl rfl)
theorem dX11_firstBoth_54 : decode cX11_firstBoth 54 = .ok (.aload_n 0, 1) := dq_42 (dq_suf 6 dt39acX11_firstBoth_3 rfl rfl)
theorem dX11_firstBoth_55 : decode cX11_firstBoth 55 = .ok (.getfield 23, 3) := dq_180 (dq_suf 7 dt39acX11_firstBoth_3 rfl rfl) rfl
theorem dX11_firstBoth_58 : decode cX11_firstBoth 58 = .ok (.iload_n 1, 1) := dq_27 (dq_suf 10 dt39acX11_firstBoth_3 rfl rfl)
theorem dX11_firstBoth_59 : decode cX11_firstBoth 59 = .ok (.iaload, 1) := dq_46 (dq_suf 11 dt39acX11_firstBoth_3 rfl rfl)
theorem dX11_firstBoth_60 : decode cX11_firstBoth 60 = .ok (.invokestatic 273, 3) := dq_184 (dq_suf 12 dt39acX11_firstBoth_3 rfl rfl) rfl
theorem dX11_firstBoth_63 : decode cX11_firstBoth 63 = .ok (.ifCond .ne 5, 3) := dq_154 (dq_suf 15 dt39acX11_firstBoth_3 rfl rfl) (by decide +kernel)
theorem dX11_firstBoth_66 : decode cX11_firstBoth 66 = .ok (.iload_n 1, 1) := dq_27 (dq_suf 2 dt39acX11_firstBoth_4 rfl rfl)
theorem dX11_firstBoth_67 : decode cX11_firstBoth 67 = .ok (.ireturn, 1) := dq_172 (dq_suf 3 dt39acX11_firstBoth_4 rfl rfl)
theorem dX11_firstBoth_68 : decode cX11_firstBoth 68 = .ok (.iinc 1 1, 3) := dq_132 (dq_suf 4 dt39acX11_firstBoth_4 rfl rfl) rfl (by decide +kernel)
theorem dX11_firstBoth_71 : decode cX11_firstBoth 71 = .ok (.goto (-69), 3) := dq_167 (dq_suf 7 dt39acX11_firstBoth_4 rfl rfl) (by decide +kernel)
theorem dX11_firstBoth_74 : decode cX11_firstBoth 74 = .ok (.iconst (-1), 1) := dq_2 (dq_suf 10 dt39acX11_firstBoth_4 rfl rfl)
theorem dX11_firstBoth_75 : decode cX11_firstBoth 75 = .ok (.ireturn, 1) := dq_172 (dq_suf 11 dt39acX11_firstBoth_4 rfl rfl)
noncomputable def ds39acX11_firstSelf_3 : List UInt8 := 0 :: 5 :: 27 :: 172 :: 132 :: 1 :: 1 :: 167 :: 255 :: 203 :: 2 :: 172 :: []
noncomputable def ds39acX11_firstSelf_2 : List UInt8 := 22 :: 42 :: 180 :: 0 :: 69 :: 3 :: 42 :: 180 :: 0 :: 20 :: 27 :: 46 :: 184 :: 1 :: 17 :: 154 :: ds39acX11_firstSelf_3
noncomputable def ds39acX11_firstSelf_1 : List UInt8 := 16 :: 6 :: 160 :: 0 :: 34 :: 42 :: 180 :: 0 :: 69 :: 3 :: 27 :: 184 :: 1 :: 17 :: 153 :: 0 :: ds39acX11_firstSelf_2
noncomputable def ds39acX11_firstSelf_0 : List UInt8 := 5 :: 60 :: 27 :: 42 :: 180 :: 0 :: 26 :: 162 :: 0 :: 51 :: 42 :: 180 :: 0 :: 16 :: 27 :: 46 :: ds39acX11_firstSelf_1
theorem dt39acX11_firstSelf_0 : cX11_firstSelf.data.toList.drop 0 = ds39acX11_firstSelf_0 := by decide +kernel
theorem dt39acX11_firstSelf_1 : cX11_firstSelf.data.toList.drop 16 = ds39acX11_firstSelf_1 := dq_suf 16 dt39acX11_firstSelf_0 rfl rfl
theorem dt39acX11_firstSelf_2 : cX11_firstSelf.data.toList.drop 32 = ds39acX11_firstSelf_2 := dq_suf 16 dt39acX11_firstSelf_1 rfl rfl
theorem dt39acX11_firstSelf_3 : cX11_firstSelf.data.toList.drop 48 = ds39acX11_firstSelf_3 := dq_suf 16 dt39acX11_firstSelf_2 rfl rfl
theorem dX11_firstSelf_0 : decode cX11_firstSelf 0 = .ok (.iconst 2, 1) := dq_5 (dq_suf 0 dt39acX11_firstSelf_0 rfl rfl)
theorem dX11_firstSelf_1 : decode cX11_firstSelf 1 = .ok (.istore_n 1, 1) := dq_60 (dq_suf 1 dt39acX11_firstSelf_0 rfl rfl)
theorem dX11_firstSelf_2 : decode cX11_firstSelf 2 = .ok (.iload_n 1, 1) := dq_27 (dq_suf 2 dt39acX11_firstSelf_0 rfl rfl)
theorem dX11_firstSelf_3 : decode cX11_firstSelf 3 = .ok (.aload_n 0, 1) := dq_42 (dq_suf 3 dt39acX11_firstSelf_0 rfl rfl)
theorem dX11_firstSelf_4 : decode cX11_firstSelf 4 = .ok (.getfield 26, 3) := dq_180 (dq_suf 4 dt39acX11_firstSelf_0 rfl rfl) rfl
theorem dX11_firstSelf_7 : decode cX11_firstSelf 7 = .ok (.if_icmp .ge 51, 3) := dq_162 (dq_suf 7 dt39acX11_firstSelf_0 rfl rfl) (by decide +kernel)
theorem dX11_firstSelf_10 : decode cX11_firstSelf 10 = .ok (.aload_n 0, 1) := dq_42 (dq_suf 10 dt39acX11_firstSelf_0 rfl rfl)
theorem dX11_firstSelf_11 : decode cX11_firstSelf 11 = .ok (.getfield 16, 3) := dq_180 (dq_suf 11 dt39acX11_firstSelf_0 rfl rfl) rfl
theorem dX11_firstSelf_14 : decode cX11_firstSelf 14 = .ok (.iload_n 1, 1) := dq_27 (dq_suf 14 dt39acX11_firstSelf_0 rfl rfl)
theorem dX11_firstSelf_15 : decode cX11_firstSelf 15 = .ok (.iaload, 1) := dq_46 (dq_suf 15 dt39acX11_firstSelf_0 rfl rfl)
theorem dX11_firstSelf_16 : decode cX11_firstSelf 16 = .ok (.bipush 6, 2) := dq_16 (dq_suf 0 dt39acX11_firstSelf_1 rfl rfl) (by decide +kernel)
theorem dX11_firstSelf_18 : decode cX11_firstSelf 18 = .ok (.if_icmp .ne 34, 3) := dq_160 (dq_suf 2 dt39acX11_firstSelf_1 rfl rfl) (by decide +kernel)
theorem dX11_firstSelf_21 : decode cX11_firstSelf 21 = .ok (.aload_n 0, 1) := dq_42 (dq_suf 5 dt39acX11_firstSelf_1 rfl rfl)
theorem dX11_firstSelf_22 : decode cX11_firstSelf 22 = .ok (.getfield 69, 3) := dq_180 (dq_suf 6 dt39acX11_firstSelf_1 rfl rfl) rfl
theorem dX11_firstSelf_25 : decode cX11_firstSelf 25 = .ok (.iconst 0, 1) := dq_3 (dq_suf 9 dt39acX11_firstSelf_1 rfl rfl)
theorem dX11_firstSelf_26 : decode cX11_firstSelf 26 = .ok (.iload_n 1, 1) := dq_27 (dq_suf 10 dt39acX11_firstSelf_1 rfl rfl)
theorem dX11_firstSelf_27 : decode cX11_firstSelf 27 = .ok (.invokestatic 273, 3) := dq_184 (dq_suf 11 dt39acX11_firstSelf_1 rfl rfl) rfl
theorem dX11_firstSelf_30 : decode cX11_firstSelf 30 = .ok (.ifCond .eq 22, 3) := dq_153 (dq_suf 14 dt39acX11_firstSelf_1 rfl rfl) (by decide +kernel)
theorem dX11_firstSelf_33 : decode cX11_firstSelf 33 = .ok (.aload_n 0, 1) := dq_42 (dq_suf 1 dt39acX11_firstSelf_2 rfl rfl)
theorem dX11_firstSelf_34 : decode cX11_firstSelf 34 = .ok (.getfield 69, 3) := dq_180 (dq_suf 2 dt39acX11_firstSelf_2 rfl rfl) rfl
theorem dX11_firstSelf_37 : decode cX11_firstSelf 37 = .ok (.iconst 0, 1) := dq_3 (dq_suf 5 dt39acX11_firstSelf_2 rfl rfl)
theorem dX11_firstSelf_38 : decode cX11_firstSelf 38 = .ok (.aload_n 0, 1) := dq_42 (dq_suf 6 dt39acX11_firstSelf_2 rfl rfl)
theorem dX11_firstSelf_39 : decode cX11_firstSelf 39 = .ok (.getfield 20, 3) := dq_180 (dq_suf 7 dt39acX11_firstSelf_2 rfl rfl) rfl
theorem dX11_firstSelf_42 : decode cX11_firstSelf 42 = .ok (.iload_n 1, 1) := dq_27 (dq_suf 10 dt39acX11_firstSelf_2 rfl rfl)
theorem dX11_firstSelf_43 : decode cX11_firstSelf 43 = .ok (.iaload, 1) := dq_46 (dq_suf 11 dt39acX11_firstSelf_2 rfl rfl)
theorem dX11_firstSelf_44 : decode cX11_firstSelf 44 = .ok (.invokestatic 273, 3) := dq_184 (dq_suf 12 dt39acX11_firstSelf_2 rfl rfl) rfl
theorem dX11_firstSelf_47 : decode cX11_firstSelf 47 = .ok (.ifCond .ne 5, 3) := dq_154 (dq_suf 15 dt39acX11_firstSelf_2 rfl rfl) (by decide +kernel)
theorem dX11_firstSelf_50 : decode cX11_firstSelf 50 = .ok (.iload_n 1, 1) := dq_27 (dq_suf 2 dt39acX11_firstSelf_3 rfl rfl)
theorem dX11_firstSelf_51 : decode cX11_firstSelf 51 = .ok (.ireturn, 1) := dq_172 (dq_suf 3 dt39acX11_firstSelf_3 rfl rfl)
theorem dX11_firstSelf_52 : decode cX11_firstSelf 52 = .ok (.iinc 1 1, 3) := dq_132 (dq_suf 4 dt39acX11_firstSelf_3 rfl rfl) rfl (by decide +kernel)
theorem dX11_firstSelf_55 : decode cX11_firstSelf 55 = .ok (.goto (-53), 3) := dq_167 (dq_suf 7 dt39acX11_firstSelf_3 rfl rfl) (by decide +kernel)
theorem dX11_firstSelf_58 : decode cX11_firstSelf 58 = .ok (.iconst (-1), 1) := dq_2 (dq_suf 10 dt39acX11_firstSelf_3 rfl rfl)
theorem dX11_firstSelf_59 : decode cX11_firstSelf 59 = .ok (.ireturn, 1) := dq_172 (dq_suf 11 dt39acX11_firstSelf_3 rfl rfl)
noncomputable def ds39acX11_firstEither_4 : List UInt8 := 0 :: 5 :: 27 :: 172 :: 132 :: 1 :: 1 :: 167 :: 255 :: 187 :: 2 :: 172 :: []
noncomputable def ds39acX11_firstEither_3 : List UInt8 := 22 :: 42 :: 180 :: 0 :: 69 :: 3 :: 42 :: 180 :: 0 :: 23 :: 27 :: 46 :: 184 :: 1 :: 17 :: 154 :: ds39acX11_firstEither_4
noncomputable def ds39acX11_firstEither_2 : List UInt8 := 42 :: 180 :: 0 :: 69 :: 3 :: 42 :: 180 :: 0 :: 20 :: 27 :: 46 :: 184 :: 1 :: 17 :: 154 :: 0 :: ds39acX11_firstEither_3
noncomputable def ds39acX11_firstEither_1 : List UInt8 := 8 :: 160 :: 0 :: 51 :: 42 :: 180 :: 0 :: 69 :: 3 :: 27 :: 184 :: 1 :: 17 :: 153 :: 0 :: 39 :: ds39acX11_firstEither_2
noncomputable def ds39acX11_firstEither_0 : List UInt8 := 5 :: 60 :: 27 :: 42 :: 180 :: 0 :: 26 :: 162 :: 0 :: 67 :: 42 :: 180 :: 0 :: 16 :: 27 :: 46 :: ds39acX11_firstEither_1
theorem dt39acX11_firstEither_0 : cX11_firstEither.data.toList.drop 0 = ds39acX11_firstEither_0 := by decide +kernel
theorem dt39acX11_firstEither_1 : cX11_firstEither.data.toList.drop 16 = ds39acX11_firstEither_1 := dq_suf 16 dt39acX11_firstEither_0 rfl rfl
theorem dt39acX11_firstEither_2 : cX11_firstEither.data.toList.drop 32 = ds39acX11_firstEither_2 := dq_suf 16 dt39acX11_firstEither_1 rfl rfl
theorem dt39acX11_firstEither_3 : cX11_firstEither.data.toList.drop 48 = ds39acX11_firstEither_3 := dq_suf 16 dt39acX11_firstEither_2 rfl rfl
theorem dt39acX11_firstEither_4 : cX11_firstEither.data.toList.drop 64 = ds39acX11_firstEither_4 := dq_suf 16 dt39acX11_firstEither_3 rfl rfl
theorem dX11_firstEither_0 : decode cX11_firstEither 0 = .ok (.iconst 2, 1) := dq_5 (dq_suf 0 dt39acX11_firstEither_0 rfl rfl)
theorem dX11_firstEither_1 : decode cX11_firstEither 1 = .ok (.istore_n 1, 1) := dq_60 (dq_suf 1 dt39acX11_firstEither_0 rfl rfl)
theorem dX11_firstEither_2 : decode cX11_firstEither 2 = .ok (.iload_n 1, 1) := dq_27 (dq_suf 2 dt39acX11_firstEither_0 rfl rfl)
theorem dX11_firstEither_3 : decode cX11_firstEither 3 = .ok (.aload_n 0, 1) := dq_42 (dq_suf 3 dt39acX11_firstEither_0 rfl rfl)
theorem dX11_firstEither_4 : decode cX11_firstEither 4 = .ok (.getfield 26, 3) := dq_180 (dq_suf 4 dt39acX11_firstEither_0 rfl rfl) rfl
theorem dX11_firstEither_7 : decode cX11_firstEither 7 = .ok (.if_icmp .ge 67, 3) := dq_162 (dq_suf 7 dt39acX11_firstEither_0 rfl rfl) (by decide +kernel)
theorem dX11_firstEither_10 : decode cX11_firstEither 10 = .ok (.aload_n 0, 1) := dq_42 (dq_suf 10 dt39acX11_firstEither_0 rfl rfl)
theorem dX11_firstEither_11 : decode cX11_firstEither 11 = .ok (.getfield 16, 3) := dq_180 (dq_suf 11 dt39acX11_firstEither_0 rfl rfl) rfl
theorem dX11_firstEither_14 : decode cX11_firstEither 14 = .ok (.iload_n 1, 1) := dq_27 (dq_suf 14 dt39acX11_firstEither_0 rfl rfl)
theorem dX11_firstEither_15 : decode cX11_firstEither 15 = .ok (.iaload, 1) := dq_46 (dq_suf 15 dt39acX11_firstEither_0 rfl rfl)
theorem dX11_firstEither_16 : decode cX11_firstEither 16 = .ok (.iconst 5, 1) := dq_8 (dq_suf 0 dt39acX11_firstEither_1 rfl rfl)
theorem dX11_firstEither_17 : decode cX11_firstEither 17 = .ok (.if_icmp .ne 51, 3) := dq_160 (dq_suf 1 dt39acX11_firstEither_1 rfl rfl) (by decide +kernel)
theorem dX11_firstEither_20 : decode cX11_firstEither 20 = .ok (.aload_n 0, 1) := dq_42 (dq_suf 4 dt39acX11_firstEither_1 rfl rfl)
theorem dX11_firstEither_21 : decode cX11_firstEither 21 = .ok (.getfield 69, 3) := dq_180 (dq_suf 5 dt39acX11_firstEither_1 rfl rfl) rfl
theorem dX11_firstEither_24 : decode cX11_firstEither 24 = .ok (.iconst 0, 1) := dq_3 (dq_suf 8 dt39acX11_firstEither_1 rfl rfl)
theorem dX11_firstEither_25 : decode cX11_firstEither 25 = .ok (.iload_n 1, 1) := dq_27 (dq_suf 9 dt39acX11_firstEither_1 rfl rfl)
theorem dX11_firstEither_26 : decode cX11_firstEither 26 = .ok (.invokestatic 273, 3) := dq_184 (dq_suf 10 dt39acX11_firstEither_1 rfl rfl) rfl
theorem dX11_firstEither_29 : decode cX11_firstEither 29 = .ok (.ifCond .eq 39, 3) := dq_153 (dq_suf 13 dt39acX11_firstEither_1 rfl rfl) (by decide +kernel)
theorem dX11_firstEither_32 : decode cX11_firstEither 32 = .ok (.aload_n 0, 1) := dq_42 (dq_suf 0 dt39acX11_firstEither_2 rfl rfl)
theorem dX11_firstEither_33 : decode cX11_firstEither 33 = .ok (.getfield 69, 3) := dq_180 (dq_suf 1 dt39acX11_firstEither_2 rfl rfl) rfl
theorem dX11_firstEither_36 : decode cX11_firstEither 36 = .ok (.iconst 0, 1) := dq_3 (dq_suf 4 dt39acX11_firstEither_2 rfl rfl)
theorem dX11_firstEither_37 : decode cX11_firstEither 37 = .ok (.aload_n 0, 1) := dq_42 (dq_suf 5 dt39acX11_firstEither_2 rfl rfl)
theorem dX11_firstEither_38 : decode cX11_firstEither 38 = .ok (.getfield 20, 3) := dq_180 (dq_suf 6 dt39acX11_firstEither_2 rfl rfl) rfl
theorem dX11_firstEither_41 : decode cX11_firstEither 41 = .ok (.iload_n 1, 1) := dq_27 (dq_suf 9 dt39acX11_firstEither_2 rfl rfl)
theorem dX11_firstEither_42 : decode cX11_firstEither 42 = .ok (.iaload, 1) := dq_46 (dq_suf 10 dt39acX11_firstEither_2 rfl rfl)
theorem dX11_firstEither_43 : decode cX11_firstEither 43 = .ok (.invokestatic 273, 3) := dq_184 (dq_suf 11 dt39acX11_firstEither_2 rfl rfl) rfl
theorem dX11_firstEither_46 : decode cX11_firstEither 46 = .ok (.ifCond .ne 22, 3) := dq_154 (dq_suf 14 dt39acX11_firstEither_2 rfl rfl) (by decide +kernel)
theorem dX11_firstEither_49 : decode cX11_firstEither 49 = .ok (.aload_n 0, 1) := dq_42 (dq_suf 1 dt39acX11_firstEither_3 rfl rfl)
theorem dX11_firstEither_50 : decode cX11_firstEither 50 = .ok (.getfield 69, 3) := dq_180 (dq_suf 2 dt39acX11_firstEither_3 rfl rfl) rfl
theorem dX11_firstEither_53 : decode cX11_firstEither 53 = .ok (.iconst 0, 1) := dq_3 (dq_suf 5 dt39acX11_firstEither_3 rfl rfl)
theorem dX11_firstEither_54 : decode cX11_firstEither 54 = .ok (.aload_n 0, 1) := dq_42 (dq_suf 6 dt39acX11_firstEither_3 rfl rfl)
theorem dX11_firstEither_55 : decode cX11_firstEither 55 = .ok (.getfield 23, 3) := dq_180 (dq_suf 7 dt39acX11_firstEither_3 rfl rfl) rfl
theorem dX11_firstEither_58 : decode cX11_firstEither 58 = .ok (.iload_n 1, 1) := dq_27 (dq_suf 10 dt39acX11_firstEither_3 rfl rfl)
theorem dX11_firstEither_59 : decode cX11_firstEither 59 = .ok (.iaload, 1) := dq_46 (dq_suf 11 dt39acX11_firstEither_3 rfl rfl)
theorem dX11_firstEither_60 : decode cX11_firstEither 60 = .ok (.invokestatic 273, 3) := dq_184 (dq_suf 12 dt39acX11_firstEither_3 rfl rfl) rfl
theorem dX11_firstEither_63 : decode cX11_firstEither 63 = .ok (.ifCond .ne 5, 3) := dq_154 (dq_suf 15 dt39acX11_firstEither_3 rfl rfl) (by decide +kernel)
theorem dX11_firstEither_66 : decode cX11_firstEither 66 = .ok (.iload_n 1, 1) := dq_27 (dq_suf 2 dt39acX11_firstEither_4 rfl rfl)
theorem dX11_firstEither_67 : decode cX11_firstEither 67 = .ok (.ireturn, 1) := dq_172 (dq_suf 3 dt39acX11_firstEither_4 rfl rfl)
theorem dX11_firstEither_68 : decode cX11_firstEither 68 = .ok (.iinc 1 1, 3) := dq_132 (dq_suf 4 dt39acX11_firstEither_4 rfl rfl) rfl (by decide +kernel)
theorem dX11_firstEither_71 : decode cX11_firstEither 71 = .ok (.goto (-69), 3) := dq_167 (dq_suf 7 dt39acX11_firstEither_4 rfl rfl) (by decide +kernel)
theorem dX11_firstEither_74 : decode cX11_firstEither 74 = .ok (.iconst (-1), 1) := dq_2 (dq_suf 10 dt39acX11_firstEither_4 rfl rfl)
theorem dX11_firstEither_75 : decode cX11_firstEither 75 = .ok (.ireturn, 1) := dq_172 (dq_suf 11 dt39acX11_firstEither_4 rfl rfl)
noncomputable def ds39acX11_nextMay_3 : List UInt8 := 17 :: 154 :: 0 :: 5 :: 28 :: 172 :: 132 :: 2 :: 1 :: 167 :: 255 :: 203 :: 2 :: 172 :: []
noncomputable def ds39acX11_nextMay_2 : List UInt8 := 153 :: 0 :: 22 :: 42 :: 180 :: 0 :: 69 :: 3 :: 42 :: 180 :: 0 :: 20 :: 28 :: 46 :: 184 :: 1 :: ds39acX11_nextMay_3
noncomputable def ds39acX11_nextMay_1 : List UInt8 := 28 :: 46 :: 16 :: 7 :: 160 :: 0 :: 34 :: 42 :: 180 :: 0 :: 69 :: 3 :: 28 :: 184 :: 1 :: 17 :: ds39acX11_nextMay_2
noncomputable def ds39acX11_nextMay_0 : List UInt8 := 27 :: 4 :: 96 :: 61 :: 28 :: 42 :: 180 :: 0 :: 26 :: 162 :: 0 :: 51 :: 42 :: 180 :: 0 :: 16 :: ds39acX11_nextMay_1
theorem dt39acX11_nextMay_0 : cX11_nextMay.data.toList.drop 0 = ds39acX11_nextMay_0 := by decide +kernel
theorem dt39acX11_nextMay_1 : cX11_nextMay.data.toList.drop 16 = ds39acX11_nextMay_1 := dq_suf 16 dt39acX11_nextMay_0 rfl rfl
theorem dt39acX11_nextMay_2 : cX11_nextMay.data.toList.drop 32 = ds39acX11_nextMay_2 := dq_suf 16 dt39acX11_nextMay_1 rfl rfl
theorem dt39acX11_nextMay_3 : cX11_nextMay.data.toList.drop 48 = ds39acX11_nextMay_3 := dq_suf 16 dt39acX11_nextMay_2 rfl rfl
theorem dX11_nextMay_0 : decode cX11_nextMay 0 = .ok (.iload_n 1, 1) := dq_27 (dq_suf 0 dt39acX11_nextMay_0 rfl rfl)
theorem dX11_nextMay_1 : decode cX11_nextMay 1 = .ok (.iconst 1, 1) := dq_4 (dq_suf 1 dt39acX11_nextMay_0 rfl rfl)
theorem dX11_nextMay_2 : decode cX11_nextMay 2 = .ok (.iadd, 1) := dq_96 (dq_suf 2 dt39acX11_nextMay_0 rfl rfl)
theorem dX11_nextMay_3 : decode cX11_nextMay 3 = .ok (.istore_n 2, 1) := dq_61 (dq_suf 3 dt39acX11_nextMay_0 rfl rfl)
theorem dX11_nextMay_4 : decode cX11_nextMay 4 = .ok (.iload_n 2, 1) := dq_28 (dq_suf 4 dt39acX11_nextMay_0 rfl rfl)
theorem dX11_nextMay_5 : decode cX11_nextMay 5 = .ok (.aload_n 0, 1) := dq_42 (dq_suf 5 dt39acX11_nextMay_0 rfl rfl)
theorem dX11_nextMay_6 : decode cX11_nextMay 6 = .ok (.getfield 26, 3) := dq_180 (dq_suf 6 dt39acX11_nextMay_0 rfl rfl) rfl
theorem dX11_nextMay_9 : decode cX11_nextMay 9 = .ok (.if_icmp .ge 51, 3) := dq_162 (dq_suf 9 dt39acX11_nextMay_0 rfl rfl) (by decide +kernel)
theorem dX11_nextMay_12 : decode cX11_nextMay 12 = .ok (.aload_n 0, 1) := dq_42 (dq_suf 12 dt39acX11_nextMay_0 rfl rfl)
theorem dX11_nextMay_13 : decode cX11_nextMay 13 = .ok (.getfield 16, 3) := dq_180 (dq_suf 13 dt39acX11_nextMay_0 rfl rfl) rfl
theorem dX11_nextMay_16 : decode cX11_nextMay 16 = .ok (.iload_n 2, 1) := dq_28 (dq_suf 0 dt39acX11_nextMay_1 rfl rfl)
theorem dX11_nextMay_17 : decode cX11_nextMay 17 = .ok (.iaload, 1) := dq_46 (dq_suf 1 dt39acX11_nextMay_1 rfl rfl)
theorem dX11_nextMay_18 : decode cX11_nextMay 18 = .ok (.bipush 7, 2) := dq_16 (dq_suf 2 dt39acX11_nextMay_1 rfl rfl) (by decide +kernel)
theorem dX11_nextMay_20 : decode cX11_nextMay 20 = .ok (.if_icmp .ne 34, 3) := dq_160 (dq_suf 4 dt39acX11_nextMay_1 rfl rfl) (by decide +kernel)
theorem dX11_nextMay_23 : decode cX11_nextMay 23 = .ok (.aload_n 0, 1) := dq_42 (dq_suf 7 dt39acX11_nextMay_1 rfl rfl)
theorem dX11_nextMay_24 : decode cX11_nextMay 24 = .ok (.getfield 69, 3) := dq_180 (dq_suf 8 dt39acX11_nextMay_1 rfl rfl) rfl
theorem dX11_nextMay_27 : decode cX11_nextMay 27 = .ok (.iconst 0, 1) := dq_3 (dq_suf 11 dt39acX11_nextMay_1 rfl rfl)
theorem dX11_nextMay_28 : decode cX11_nextMay 28 = .ok (.iload_n 2, 1) := dq_28 (dq_suf 12 dt39acX11_nextMay_1 rfl rfl)
theorem dX11_nextMay_29 : decode cX11_nextMay 29 = .ok (.invokestatic 273, 3) := dq_184 (dq_suf 13 dt39acX11_nextMay_1 rfl rfl) rfl
theorem dX11_nextMay_32 : decode cX11_nextMay 32 = .ok (.ifCond .eq 22, 3) := dq_153 (dq_suf 0 dt39acX11_nextMay_2 rfl rfl) (by decide +kernel)
theorem dX11_nextMay_35 : decode cX11_nextMay 35 = .ok (.aload_n 0, 1) := dq_42 (dq_suf 3 dt39acX11_nextMay_2 rfl rfl)
theorem dX11_nextMay_36 : decode cX11_nextMay 36 = .ok (.getfield 69, 3) := dq_180 (dq_suf 4 dt39acX11_nextMay_2 rfl rfl) rfl
theorem dX11_nextMay_39 : decode cX11_nextMay 39 = .ok (.iconst 0, 1) := dq_3 (dq_suf 7 dt39acX11_nextMay_2 rfl rfl)
theorem dX11_nextMay_40 : decode cX11_nextMay 40 = .ok (.aload_n 0, 1) := dq_42 (dq_suf 8 dt39acX11_nextMay_2 rfl rfl)
theorem dX11_nextMay_41 : decode cX11_nextMay 41 = .ok (.getfield 20, 3) := dq_180 (dq_suf 9 dt39acX11_nextMay_2 rfl rfl) rfl
theorem dX11_nextMay_44 : decode cX11_nextMay 44 = .ok (.iload_n 2, 1) := dq_28 (dq_suf 12 dt39acX11_nextMay_2 rfl rfl)
theorem dX11_nextMay_45 : decode cX11_nextMay 45 = .ok (.iaload, 1) := dq_46 (dq_suf 13 dt39acX11_nextMay_2 rfl rfl)
theorem dX11_nextMay_46 : decode cX11_nextMay 46 = .ok (.invokestatic 273, 3) := dq_184 (dq_suf 14 dt39acX11_nextMay_2 rfl rfl) rfl
theorem dX11_nextMay_49 : decode cX11_nextMay 49 = .ok (.ifCond .ne 5, 3) := dq_154 (dq_suf 1 dt39acX11_nextMay_3 rfl rfl) (by decide +kernel)
theorem dX11_nextMay_52 : decode cX11_nextMay 52 = .ok (.iload_n 2, 1) := dq_28 (dq_suf 4 dt39acX11_nextMay_3 rfl rfl)
theorem dX11_nextMay_53 : decode cX11_nextMay 53 = .ok (.ireturn, 1) := dq_172 (dq_suf 5 dt39acX11_nextMay_3 rfl rfl)
theorem dX11_nextMay_54 : decode cX11_nextMay 54 = .ok (.iinc 2 1, 3) := dq_132 (dq_suf 6 dt39acX11_nextMay_3 rfl rfl) rfl (by decide +kernel)
theorem dX11_nextMay_57 : decode cX11_nextMay 57 = .ok (.goto (-53), 3) := dq_167 (dq_suf 9 dt39acX11_nextMay_3 rfl rfl) (by decide +kernel)
theorem dX11_nextMay_60 : decode cX11_nextMay 60 = .ok (.iconst (-1), 1) := dq_2 (dq_suf 12 dt39acX11_nextMay_3 rfl rfl)
theorem dX11_nextMay_61 : decode cX11_nextMay 61 = .ok (.ireturn, 1) := dq_172 (dq_suf 13 dt39acX11_nextMay_3 rfl rfl)
noncomputable def ds39acX11_step_1 : List UInt8 := 30 :: 3 :: 172 :: 42 :: 89 :: 180 :: 1 :: 24 :: 4 :: 96 :: 181 :: 1 :: 24 :: 4 :: 172 :: []
noncomputable def ds39acX11_step_0 : List UInt8 := 42 :: 180 :: 1 :: 24 :: 42 :: 180 :: 1 :: 27 :: 160 :: 0 :: 11 :: 42 :: 16 :: 253 :: 181 :: 1 :: ds39acX11_step_1
theorem dt39acX11_step_0 : cX11_step.data.toList.drop 0 = ds39acX11_step_0 := by decide +kernel
theorem dt39acX11_step_1 : cX11_step.data.toList.drop 16 = ds39acX11_step_1 := dq_suf 16 dt39acX11_step_0 rfl rfl
theorem dX11_step_0 : decode cX11_step 0 = .ok (.aload_n 0, 1) := dq_42 (dq_suf 0 dt39acX11_step_0 rfl rfl)
theorem dX11_step_1 : decode cX11_step 1 = .ok (.getfield 280, 3) := dq_180 (dq_suf 1 dt39acX11_step_0 rfl rfl) rfl
theorem dX11_step_4 : decode cX11_step 4 = .ok (.aload_n 0, 1) := dq_42 (dq_suf 4 dt39acX11_step_0 rfl rfl)
theorem dX11_step_5 : decode cX11_step 5 = .ok (.getfield 283, 3) := dq_180 (dq_suf 5 dt39acX11_step_0 rfl rfl) rfl
theorem dX11_step_8 : decode cX11_step 8 = .ok (.if_icmp .ne 11, 3) := dq_160 (dq_suf 8 dt39acX11_step_0 rfl rfl) (by decide +kernel)
theorem dX11_step_11 : decode cX11_step 11 = .ok (.aload_n 0, 1) := dq_42 (dq_suf 11 dt39acX11_step_0 rfl rfl)
theorem dX11_step_12 : decode cX11_step 12 = .ok (.bipush (-3), 2) := dq_16 (dq_suf 12 dt39acX11_step_0 rfl rfl) (by decide +kernel)
theorem dX11_step_14 : decode cX11_step 14 = .ok (.putfield 286, 3) := dq_181 (dq_suf 14 dt39acX11_step_0 rfl rfl) rfl
theorem dX11_step_17 : decode cX11_step 17 = .ok (.iconst 0, 1) := dq_3 (dq_suf 1 dt39acX11_step_1 rfl rfl)
theorem dX11_step_18 : decode cX11_step 18 = .ok (.ireturn, 1) := dq_172 (dq_suf 2 dt39acX11_step_1 rfl rfl)
theorem dX11_step_19 : decode cX11_step 19 = .ok (.aload_n 0, 1) := dq_42 (dq_suf 3 dt39acX11_step_1 rfl rfl)
theorem dX11_step_20 : decode cX11_step 20 = .ok (.dup, 1) := dq_89 (dq_suf 4 dt39acX11_step_1 rfl rfl)
theorem dX11_step_21 : decode cX11_step 21 = .ok (.getfield 280, 3) := dq_180 (dq_suf 5 dt39acX11_step_1 rfl rfl) rfl
theorem dX11_step_24 : decode cX11_step 24 = .ok (.iconst 1, 1) := dq_4 (dq_suf 8 dt39acX11_step_1 rfl rfl)
theorem dX11_step_25 : decode cX11_step 25 = .ok (.iadd, 1) := dq_96 (dq_suf 9 dt39acX11_step_1 rfl rfl)
theorem dX11_step_26 : decode cX11_step 26 = .ok (.putfield 280, 3) := dq_181 (dq_suf 10 dt39acX11_step_1 rfl rfl) rfl
theorem dX11_step_29 : decode cX11_step 29 = .ok (.iconst 1, 1) := dq_4 (dq_suf 13 dt39acX11_step_1 rfl rfl)
theorem dX11_step_30 : decode cX11_step 30 = .ok (.ireturn, 1) := dq_172 (dq_suf 14 dt39acX11_step_1 rfl rfl)
noncomputable def ds39acX11_line_3 : List UInt8 := 4 :: 172 :: []
noncomputable def ds39acX11_line_2 : List UInt8 := 42 :: 180 :: 1 :: 33 :: 28 :: 79 :: 42 :: 89 :: 180 :: 1 :: 33 :: 4 :: 96 :: 181 :: 1 :: 33 :: ds39acX11_line_3
noncomputable def ds39acX11_line_1 : List UInt8 := 3 :: 172 :: 42 :: 180 :: 0 :: 88 :: 42 :: 180 :: 1 :: 33 :: 27 :: 79 :: 42 :: 180 :: 0 :: 91 :: ds39acX11_line_2
noncomputable def ds39acX11_line_0 : List UInt8 := 42 :: 180 :: 1 :: 33 :: 17 :: 5 :: 19 :: 160 :: 0 :: 11 :: 42 :: 16 :: 252 :: 181 :: 1 :: 30 :: ds39acX11_line_1
theorem dt39acX11_line_0 : cX11_line.data.toList.drop 0 = ds39acX11_line_0 := by decide +kernel
theorem dt39acX11_line_1 : cX11_line.data.toList.drop 16 = ds39acX11_line_1 := dq_suf 16 dt39acX11_line_0 rfl rfl
theorem dt39acX11_line_2 : cX11_line.data.toList.drop 32 = ds39acX11_line_2 := dq_suf 16 dt39acX11_line_1 rfl rfl
theorem dt39acX11_line_3 : cX11_line.data.toList.drop 48 = ds39acX11_line_3 := dq_suf 16 dt39acX11_line_2 rfl rfl
theorem dX11_line_0 : decode cX11_line 0 = .ok (.aload_n 0, 1) := dq_42 (dq_suf 0 dt39acX11_line_0 rfl rfl)
theorem dX11_line_1 : decode cX11_line 1 = .ok (.getfield 289, 3) := dq_180 (dq_suf 1 dt39acX11_line_0 rfl rfl) rfl
theorem dX11_line_4 : decode cX11_line 4 = .ok (.sipush 1299, 3) := dq_17 (dq_suf 4 dt39acX11_line_0 rfl rfl) (by decide +kernel)
theorem dX11_line_7 : decode cX11_line 7 = .ok (.if_icmp .ne 11, 3) := dq_160 (dq_suf 7 dt39acX11_line_0 rfl rfl) (by decide +kernel)
theorem dX11_line_10 : decode cX11_line 10 = .ok (.aload_n 0, 1) := dq_42 (dq_suf 10 dt39acX11_line_0 rfl rfl)
theorem dX11_line_11 : decode cX11_line 11 = .ok (.bipush (-4), 2) := dq_16 (dq_suf 11 dt39acX11_line_0 rfl rfl) (by decide +kernel)
theorem dX11_line_13 : decode cX11_line 13 = .ok (.putfield 286, 3) := dq_181 (dq_suf 13 dt39acX11_line_0 rfl rfl) rfl
theorem dX11_line_16 : decode cX11_line 16 = .ok (.iconst 0, 1) := dq_3 (dq_suf 0 dt39acX11_line_1 rfl rfl)
theorem dX11_line_17 : decode cX11_line 17 = .ok (.ireturn, 1) := dq_172 (dq_suf 1 dt39acX11_line_1 rfl rfl)
theorem dX11_line_18 : decode cX11_line 18 = .ok (.aload_n 0, 1) := dq_42 (dq_suf 2 dt39acX11_line_1 rfl rfl)
theorem dX11_line_19 : decode cX11_line 19 = .ok (.getfield 88, 3) := dq_180 (dq_suf 3 dt39acX11_line_1 rfl rfl) rfl
theorem dX11_line_22 : decode cX11_line 22 = .ok (.aload_n 0, 1) := dq_42 (dq_suf 6 dt39acX11_line_1 rfl rfl)
theorem dX11_line_23 : decode cX11_line 23 = .ok (.getfield 289, 3) := dq_180 (dq_suf 7 dt39acX11_line_1 rfl rfl) rfl
theorem dX11_line_26 : decode cX11_line 26 = .ok (.iload_n 1, 1) := dq_27 (dq_suf 10 dt39acX11_line_1 rfl rfl)
theorem dX11_line_27 : decode cX11_line 27 = .ok (.iastore, 1) := dq_79 (dq_suf 11 dt39acX11_line_1 rfl rfl)
theorem dX11_line_28 : decode cX11_line 28 = .ok (.aload_n 0, 1) := dq_42 (dq_suf 12 dt39acX11_line_1 rfl rfl)
theorem dX11_line_29 : decode cX11_line 29 = .ok (.getfield 91, 3) := dq_180 (dq_suf 13 dt39acX11_line_1 rfl rfl) rfl
theorem dX11_line_32 : decode cX11_line 32 = .ok (.aload_n 0, 1) := dq_42 (dq_suf 0 dt39acX11_line_2 rfl rfl)
theorem dX11_line_33 : decode cX11_line 33 = .ok (.getfield 289, 3) := dq_180 (dq_suf 1 dt39acX11_line_2 rfl rfl) rfl
theorem dX11_line_36 : decode cX11_line 36 = .ok (.iload_n 2, 1) := dq_28 (dq_suf 4 dt39acX11_line_2 rfl rfl)
theorem dX11_line_37 : decode cX11_line 37 = .ok (.iastore, 1) := dq_79 (dq_suf 5 dt39acX11_line_2 rfl rfl)
theorem dX11_line_38 : decode cX11_line 38 = .ok (.aload_n 0, 1) := dq_42 (dq_suf 6 dt39acX11_line_2 rfl rfl)
theorem dX11_line_39 : decode cX11_line 39 = .ok (.dup, 1) := dq_89 (dq_suf 7 dt39acX11_line_2 rfl rfl)
theorem dX11_line_40 : decode cX11_line 40 = .ok (.getfield 289, 3) := dq_180 (dq_suf 8 dt39acX11_line_2 rfl rfl) rfl
theorem dX11_line_43 : decode cX11_line 43 = .ok (.iconst 1, 1) := dq_4 (dq_suf 11 dt39acX11_line_2 rfl rfl)
theorem dX11_line_44 : decode cX11_line 44 = .ok (.iadd, 1) := dq_96 (dq_suf 12 dt39acX11_line_2 rfl rfl)
theorem dX11_line_45 : decode cX11_line 45 = .ok (.putfield 289, 3) := dq_181 (dq_suf 13 dt39acX11_line_2 rfl rfl) rfl
theorem dX11_line_48 : decode cX11_line 48 = .ok (.iconst 1, 1) := dq_4 (dq_suf 0 dt39acX11_line_3 rfl rfl)
theorem dX11_line_49 : decode cX11_line 49 = .ok (.ireturn, 1) := dq_172 (dq_suf 1 dt39acX11_line_3 rfl rfl)
noncomputable def ds39acX11_waits_5 : List UInt8 := 180 :: 1 :: 36 :: 4 :: 96 :: 181 :: 1 :: 36 :: 177 :: []
noncomputable def ds39acX11_waits_4 : List UInt8 := 42 :: 180 :: 0 :: 109 :: 16 :: 10 :: 42 :: 180 :: 1 :: 36 :: 104 :: 184 :: 1 :: 45 :: 42 :: 89 :: ds39acX11_waits_5
noncomputable def ds39acX11_waits_3 : List UInt8 := 0 :: 106 :: 42 :: 180 :: 1 :: 36 :: 42 :: 180 :: 1 :: 33 :: 79 :: 42 :: 180 :: 0 :: 69 :: 3 :: ds39acX11_waits_4
noncomputable def ds39acX11_waits_2 : List UInt8 := 79 :: 42 :: 180 :: 0 :: 103 :: 42 :: 180 :: 1 :: 36 :: 42 :: 180 :: 1 :: 42 :: 79 :: 42 :: 180 :: ds39acX11_waits_3
noncomputable def ds39acX11_waits_1 : List UInt8 := 1 :: 36 :: 28 :: 79 :: 42 :: 180 :: 0 :: 100 :: 42 :: 180 :: 1 :: 36 :: 42 :: 180 :: 1 :: 39 :: ds39acX11_waits_2
noncomputable def ds39acX11_waits_0 : List UInt8 := 42 :: 180 :: 0 :: 94 :: 42 :: 180 :: 1 :: 36 :: 27 :: 84 :: 42 :: 180 :: 0 :: 97 :: 42 :: 180 :: ds39acX11_waits_1
theorem dt39acX11_waits_0 : cX11_waits.data.toList.drop 0 = ds39acX11_waits_0 := by decide +kernel
theorem dt39acX11_waits_1 : cX11_waits.data.toList.drop 16 = ds39acX11_waits_1 := dq_suf 16 dt39acX11_waits_0 rfl rfl
theorem dt39acX11_waits_2 : cX11_waits.data.toList.drop 32 = ds39acX11_waits_2 := dq_suf 16 dt39acX11_waits_1 rfl rfl
theorem dt39acX11_waits_3 : cX11_waits.data.toList.drop 48 = ds39acX11_waits_3 := dq_suf 16 dt39acX11_waits_2 rfl rfl
theorem dt39acX11_waits_4 : cX11_waits.data.toList.drop 64 = ds39acX11_waits_4 := dq_suf 16 dt39acX11_waits_3 rfl rfl
theorem dt39acX11_waits_5 : cX11_waits.data.toList.drop 80 = ds39acX11_waits_5 := dq_suf 16 dt39acX11_waits_4 rfl rfl
theorem dX11_waits_0 : decode cX11_waits 0 = .ok (.aload_n 0, 1) := dq_42 (dq_suf 0 dt39acX11_waits_0 rfl rfl)
theorem dX11_waits_1 : decode cX11_waits 1 = .ok (.getfield 94, 3) := dq_180 (dq_suf 1 dt39acX11_waits_0 rfl rfl) rfl
theorem dX11_waits_4 : decode cX11_waits 4 = .ok (.aload_n 0, 1) := dq_42 (dq_suf 4 dt39acX11_waits_0 rfl rfl)
theorem dX11_waits_5 : decode cX11_waits 5 = .ok (.getfield 292, 3) := dq_180 (dq_suf 5 dt39acX11_waits_0 rfl rfl) rfl
theorem dX11_waits_8 : decode cX11_waits 8 = .ok (.iload_n 1, 1) := dq_27 (dq_suf 8 dt39acX11_waits_0 rfl rfl)
theorem dX11_waits_9 : decode cX11_waits 9 = .ok (.bastore, 1) := dq_84 (dq_suf 9 dt39acX11_waits_0 rfl rfl)
theorem dX11_waits_10 : decode cX11_waits 10 = .ok (.aload_n 0, 1) := dq_42 (dq_suf 10 dt39acX11_waits_0 rfl rfl)
theorem dX11_waits_11 : decode cX11_waits 11 = .ok (.getfield 97, 3) := dq_180 (dq_suf 11 dt39acX11_waits_0 rfl rfl) rfl
theorem dX11_waits_14 : decode cX11_waits 14 = .ok (.aload_n 0, 1) := dq_42 (dq_suf 14 dt39acX11_waits_0 rfl rfl)
theorem dX11_waits_15 : decode cX11_waits 15 = .ok (.getfield 292, 3) := dq_180 (dq_suf 15 dt39acX11_waits_0 rfl rfl) rfl
theorem dX11_waits_18 : decode cX11_waits 18 = .ok (.iload_n 2, 1) := dq_28 (dq_suf 2 dt39acX11_waits_1 rfl rfl)
theorem dX11_waits_19 : decode cX11_waits 19 = .ok (.iastore, 1) := dq_79 (dq_suf 3 dt39acX11_waits_1 rfl rfl)
theorem dX11_waits_20 : decode cX11_waits 20 = .ok (.aload_n 0, 1) := dq_42 (dq_suf 4 dt39acX11_waits_1 rfl rfl)
theorem dX11_waits_21 : decode cX11_waits 21 = .ok (.getfield 100, 3) := dq_180 (dq_suf 5 dt39acX11_waits_1 rfl rfl) rfl
theorem dX11_waits_24 : decode cX11_waits 24 = .ok (.aload_n 0, 1) := dq_42 (dq_suf 8 dt39acX11_waits_1 rfl rfl)
theorem dX11_waits_25 : decode cX11_waits 25 = .ok (.getfield 292, 3) := dq_180 (dq_suf 9 dt39acX11_waits_1 rfl rfl) rfl
theorem dX11_waits_28 : decode cX11_waits 28 = .ok (.aload_n 0, 1) := dq_42 (dq_suf 12 dt39acX11_waits_1 rfl rfl)
theorem dX11_waits_29 : decode cX11_waits 29 = .ok (.getfield 295, 3) := dq_180 (dq_suf 13 dt39acX11_waits_1 rfl rfl) rfl
theorem dX11_waits_32 : decode cX11_waits 32 = .ok (.iastore, 1) := dq_79 (dq_suf 0 dt39acX11_waits_2 rfl rfl)
theorem dX11_waits_33 : decode cX11_waits 33 = .ok (.aload_n 0, 1) := dq_42 (dq_suf 1 dt39acX11_waits_2 rfl rfl)
theorem dX11_waits_34 : decode cX11_waits 34 = .ok (.getfield 103, 3) := dq_180 (dq_suf 2 dt39acX11_waits_2 rfl rfl) rfl
theorem dX11_waits_37 : decode cX11_waits 37 = .ok (.aload_n 0, 1) := dq_42 (dq_suf 5 dt39acX11_waits_2 rfl rfl)
theorem dX11_waits_38 : decode cX11_waits 38 = .ok (.getfield 292, 3) := dq_180 (dq_suf 6 dt39acX11_waits_2 rfl rfl) rfl
theorem dX11_waits_41 : decode cX11_waits 41 = .ok (.aload_n 0, 1) := dq_42 (dq_suf 9 dt39acX11_waits_2 rfl rfl)
theorem dX11_waits_42 : decode cX11_waits 42 = .ok (.getfield 298, 3) := dq_180 (dq_suf 10 dt39acX11_waits_2 rfl rfl) rfl
theorem dX11_waits_45 : decode cX11_waits 45 = .ok (.iastore, 1) := dq_79 (dq_suf 13 dt39acX11_waits_2 rfl rfl)
theorem dX11_waits_46 : decode cX11_waits 46 = .ok (.aload_n 0, 1) := dq_42 (dq_suf 14 dt39acX11_waits_2 rfl rfl)
theorem dX11_waits_47 : decode cX11_waits 47 = .ok (.getfield 106, 3) := dq_180 (dq_suf 15 dt39acX11_waits_2 rfl rfl) rfl
theorem dX11_waits_50 : decode cX11_waits 50 = .ok (.aload_n 0, 1) := dq_42 (dq_suf 2 dt39acX11_waits_3 rfl rfl)
theorem dX11_waits_51 : decode cX11_waits 51 = .ok (.getfield 292, 3) := dq_180 (dq_suf 3 dt39acX11_waits_3 rfl rfl) rfl
theorem dX11_waits_54 : decode cX11_waits 54 = .ok (.aload_n 0, 1) := dq_42 (dq_suf 6 dt39acX11_waits_3 rfl rfl)
theorem dX11_waits_55 : decode cX11_waits 55 = .ok (.getfield 289, 3) := dq_180 (dq_suf 7 dt39acX11_waits_3 rfl rfl) rfl
theorem dX11_waits_58 : decode cX11_waits 58 = .ok (.iastore, 1) := dq_79 (dq_suf 10 dt39acX11_waits_3 rfl rfl)
theorem dX11_waits_59 : decode cX11_waits 59 = .ok (.aload_n 0, 1) := dq_42 (dq_suf 11 dt39acX11_waits_3 rfl rfl)
theorem dX11_waits_60 : decode cX11_waits 60 = .ok (.getfield 69, 3) := dq_180 (dq_suf 12 dt39acX11_waits_3 rfl rfl) rfl
theorem dX11_waits_63 : decode cX11_waits 63 = .ok (.iconst 0, 1) := dq_3 (dq_suf 15 dt39acX11_waits_3 rfl rfl)
theorem dX11_waits_64 : decode cX11_waits 64 = .ok (.aload_n 0, 1) := dq_42 (dq_suf 0 dt39acX11_waits_4 rfl rfl)
theorem dX11_waits_65 : decode cX11_waits 65 = .ok (.getfield 109, 3) := dq_180 (dq_suf 1 dt39acX11_waits_4 rfl rfl) rfl
theorem dX11_waits_68 : decode cX11_waits 68 = .ok (.bipush 10, 2) := dq_16 (dq_suf 4 dt39acX11_waits_4 rfl rfl) (by decide +kernel)
theorem dX11_waits_70 : decode cX11_waits 70 = .ok (.aload_n 0, 1) := dq_42 (dq_suf 6 dt39acX11_waits_4 rfl rfl)
theorem dX11_waits_71 : decode cX11_waits 71 = .ok (.getfield 292, 3) := dq_180 (dq_suf 7 dt39acX11_waits_4 rfl rfl) rfl
theorem dX11_waits_74 : decode cX11_waits 74 = .ok (.imul, 1) := dq_104 (dq_suf 10 dt39acX11_waits_4 rfl rfl)
theorem dX11_waits_75 : decode cX11_waits 75 = .ok (.invokestatic 301, 3) := dq_184 (dq_suf 11 dt39acX11_waits_4 rfl rfl) rfl
theorem dX11_waits_78 : decode cX11_waits 78 = .ok (.aload_n 0, 1) := dq_42 (dq_suf 14 dt39acX11_waits_4 rfl rfl)
theorem dX11_waits_79 : decode cX11_waits 79 = .ok (.dup, 1) := dq_89 (dq_suf 15 dt39acX11_waits_4 rfl rfl)
theorem dX11_waits_80 : decode cX11_waits 80 = .ok (.getfield 292, 3) := dq_180 (dq_suf 0 dt39acX11_waits_5 rfl rfl) rfl
theorem dX11_waits_83 : decode cX11_waits 83 = .ok (.iconst 1, 1) := dq_4 (dq_suf 3 dt39acX11_waits_5 rfl rfl)
theorem dX11_waits_84 : decode cX11_waits 84 = .ok (.iadd, 1) := dq_96 (dq_suf 4 dt39acX11_waits_5 rfl rfl)
theorem dX11_waits_85 : decode cX11_waits 85 = .ok (.putfield 292, 3) := dq_181 (dq_suf 5 dt39acX11_waits_5 rfl rfl) rfl
theorem dX11_waits_88 : decode cX11_waits 88 = .ok (.return_, 1) := dq_177 (dq_suf 8 dt39acX11_waits_5 rfl rfl)
noncomputable def ds39acX11_begins_6 : List UInt8 := 28 :: 104 :: 184 :: 1 :: 45 :: 42 :: 28 :: 181 :: 1 :: 39 :: 177 :: []
noncomputable def ds39acX11_begins_5 : List UInt8 := 1 :: 52 :: 181 :: 1 :: 52 :: 42 :: 180 :: 0 :: 69 :: 3 :: 42 :: 180 :: 0 :: 72 :: 16 :: 10 :: ds39acX11_begins_6
noncomputable def ds39acX11_begins_4 : List UInt8 := 1 :: 52 :: 164 :: 0 :: 12 :: 42 :: 180 :: 0 :: 81 :: 28 :: 46 :: 167 :: 0 :: 7 :: 42 :: 180 :: ds39acX11_begins_5
noncomputable def ds39acX11_begins_3 : List UInt8 := 0 :: 81 :: 27 :: 46 :: 4 :: 96 :: 79 :: 42 :: 42 :: 180 :: 0 :: 81 :: 28 :: 46 :: 42 :: 180 :: ds39acX11_begins_4
noncomputable def ds39acX11_begins_2 : List UInt8 := 42 :: 180 :: 0 :: 81 :: 28 :: 27 :: 2 :: 160 :: 0 :: 7 :: 4 :: 167 :: 0 :: 11 :: 42 :: 180 :: ds39acX11_begins_3
noncomputable def ds39acX11_begins_1 : List UInt8 := 89 :: 180 :: 1 :: 49 :: 4 :: 96 :: 181 :: 1 :: 49 :: 42 :: 180 :: 0 :: 78 :: 28 :: 27 :: 79 :: ds39acX11_begins_2
noncomputable def ds39acX11_begins_0 : List UInt8 := 42 :: 180 :: 1 :: 42 :: 61 :: 42 :: 89 :: 180 :: 1 :: 42 :: 4 :: 96 :: 181 :: 1 :: 42 :: 42 :: ds39acX11_begins_1
theorem dt39acX11_begins_0 : cX11_begins.data.toList.drop 0 = ds39acX11_begins_0 := by decide +kernel
theorem dt39acX11_begins_1 : cX11_begins.data.toList.drop 16 = ds39acX11_begins_1 := dq_suf 16 dt39acX11_begins_0 rfl rfl
theorem dt39acX11_begins_2 : cX11_begins.data.toList.drop 32 = ds39acX11_begins_2 := dq_suf 16 dt39acX11_begins_1 rfl rfl
theorem dt39acX11_begins_3 : cX11_begins.data.toList.drop 48 = ds39acX11_begins_3 := dq_suf 16 dt39acX11_begins_2 rfl rfl
theorem dt39acX11_begins_4 : cX11_begins.data.toList.drop 64 = ds39acX11_begins_4 := dq_suf 16 dt39acX11_begins_3 rfl rfl
theorem dt39acX11_begins_5 : cX11_begins.data.toList.drop 80 = ds39acX11_begins_5 := dq_suf 16 dt39acX11_begins_4 rfl rfl
theorem dt39acX11_begins_6 : cX11_begins.data.toList.drop 96 = ds39acX11_begins_6 := dq_suf 16 dt39acX11_begins_5 rfl rfl
theorem dX11_begins_0 : decode cX11_begins 0 = .ok (.aload_n 0, 1) := dq_42 (dq_suf 0 dt39acX11_begins_0 rfl rfl)
theorem dX11_begins_1 : decode cX11_begins 1 = .ok (.getfield 298, 3) := dq_180 (dq_suf 1 dt39acX11_begins_0 rfl rfl) rfl
theorem dX11_begins_4 : decode cX11_begins 4 = .ok (.istore_n 2, 1) := dq_61 (dq_suf 4 dt39acX11_begins_0 rfl rfl)
theorem dX11_begins_5 : decode cX11_begins 5 = .ok (.aload_n 0, 1) := dq_42 (dq_suf 5 dt39acX11_begins_0 rfl rfl)
theorem dX11_begins_6 : decode cX11_begins 6 = .ok (.dup, 1) := dq_89 (dq_suf 6 dt39acX11_begins_0 rfl rfl)
theorem dX11_begins_7 : decode cX11_begins 7 = .ok (.getfield 298, 3) := dq_180 (dq_suf 7 dt39acX11_begins_0 rfl rfl) rfl
theorem dX11_begins_10 : decode cX11_begins 10 = .ok (.iconst 1, 1) := dq_4 (dq_suf 10 dt39acX11_begins_0 rfl rfl)
theorem dX11_begins_11 : decode cX11_begins 11 = .ok (.iadd, 1) := dq_96 (dq_suf 11 dt39acX11_begins_0 rfl rfl)
theorem dX11_begins_12 : decode cX11_begins 12 = .ok (.putfield 298, 3) := dq_181 (dq_suf 12 dt39acX11_begins_0 rfl rfl) rfl
theorem dX11_begins_15 : decode cX11_begins 15 = .ok (.aload_n 0, 1) := dq_42 (dq_suf 15 dt39acX11_begins_0 rfl rfl)
theorem dX11_begins_16 : decode cX11_begins 16 = .ok (.dup, 1) := dq_89 (dq_suf 0 dt39acX11_begins_1 rfl rfl)
theorem dX11_begins_17 : decode cX11_begins 17 = .ok (.getfield 305, 3) := dq_180 (dq_suf 1 dt39acX11_begins_1 rfl rfl) rfl
theorem dX11_begins_20 : decode cX11_begins 20 = .ok (.iconst 1, 1) := dq_4 (dq_suf 4 dt39acX11_begins_1 rfl rfl)
theorem dX11_begins_21 : decode cX11_begins 21 = .ok (.iadd, 1) := dq_96 (dq_suf 5 dt39acX11_begins_1 rfl rfl)
theorem dX11_begins_22 : decode cX11_begins 22 = .ok (.putfield 305, 3) := dq_181 (dq_suf 6 dt39acX11_begins_1 rfl rfl) rfl
theorem dX11_begins_25 : decode cX11_begins 25 = .ok (.aload_n 0, 1) := dq_42 (dq_suf 9 dt39acX11_begins_1 rfl rfl)
theorem dX11_begins_26 : decode cX11_begins 26 = .ok (.getfield 78, 3) := dq_180 (dq_suf 10 dt39acX11_begins_1 rfl rfl) rfl
theorem dX11_begins_29 : decode cX11_begins 29 = .ok (.iload_n 2, 1) := dq_28 (dq_suf 13 dt39acX11_begins_1 rfl rfl)
theorem dX11_begins_30 : decode cX11_begins 30 = .ok (.iload_n 1, 1) := dq_27 (dq_suf 14 dt39acX11_begins_1 rfl rfl)
theorem dX11_begins_31 : decode cX11_begins 31 = .ok (.iastore, 1) := dq_79 (dq_suf 15 dt39acX11_begins_1 rfl rfl)
theorem dX11_begins_32 : decode cX11_begins 32 = .ok (.aload_n 0, 1) := dq_42 (dq_suf 0 dt39acX11_begins_2 rfl rfl)
theorem dX11_begins_33 : decode cX11_begins 33 = .ok (.getfield 81, 3) := dq_180 (dq_suf 1 dt39acX11_begins_2 rfl rfl) rfl
theorem dX11_begins_36 : decode cX11_begins 36 = .ok (.iload_n 2, 1) := dq_28 (dq_suf 4 dt39acX11_begins_2 rfl rfl)
theorem dX11_begins_37 : decode cX11_begins 37 = .ok (.iload_n 1, 1) := dq_27 (dq_suf 5 dt39acX11_begins_2 rfl rfl)
theorem dX11_begins_38 : decode cX11_begins 38 = .ok (.iconst (-1), 1) := dq_2 (dq_suf 6 dt39acX11_begins_2 rfl rfl)
theorem dX11_begins_39 : decode cX11_begins 39 = .ok (.if_icmp .ne 7, 3) := dq_160 (dq_suf 7 dt39acX11_begins_2 rfl rfl) (by decide +kernel)
theorem dX11_begins_42 : decode cX11_begins 42 = .ok (.iconst 1, 1) := dq_4 (dq_suf 10 dt39acX11_begins_2 rfl rfl)
theorem dX11_begins_43 : decode cX11_begins 43 = .ok (.goto 11, 3) := dq_167 (dq_suf 11 dt39acX11_begins_2 rfl rfl) (by decide +kernel)
theorem dX11_begins_46 : decode cX11_begins 46 = .ok (.aload_n 0, 1) := dq_42 (dq_suf 14 dt39acX11_begins_2 rfl rfl)
theorem dX11_begins_47 : decode cX11_begins 47 = .ok (.getfield 81, 3) := dq_180 (dq_suf 15 dt39acX11_begins_2 rfl rfl) rfl
theorem dX11_begins_50 : decode cX11_begins 50 = .ok (.iload_n 1, 1) := dq_27 (dq_suf 2 dt39acX11_begins_3 rfl rfl)
theorem dX11_begins_51 : decode cX11_begins 51 = .ok (.iaload, 1) := dq_46 (dq_suf 3 dt39acX11_begins_3 rfl rfl)
theorem dX11_begins_52 : decode cX11_begins 52 = .ok (.iconst 1, 1) := dq_4 (dq_suf 4 dt39acX11_begins_3 rfl rfl)
theorem dX11_begins_53 : decode cX11_begins 53 = .ok (.iadd, 1) := dq_96 (dq_suf 5 dt39acX11_begins_3 rfl rfl)
theorem dX11_begins_54 : decode cX11_begins 54 = .ok (.iastore, 1) := dq_79 (dq_suf 6 dt39acX11_begins_3 rfl rfl)
theorem dX11_begins_55 : decode cX11_begins 55 = .ok (.aload_n 0, 1) := dq_42 (dq_suf 7 dt39acX11_begins_3 rfl rfl)
theorem dX11_begins_56 : decode cX11_begins 56 = .ok (.aload_n 0, 1) := dq_42 (dq_suf 8 dt39acX11_begins_3 rfl rfl)
theorem dX11_begins_57 : decode cX11_begins 57 = .ok (.getfield 81, 3) := dq_180 (dq_suf 9 dt39acX11_begins_3 rfl rfl) rfl
theorem dX11_begins_60 : decode cX11_begins 60 = .ok (.iload_n 2, 1) := dq_28 (dq_suf 12 dt39acX11_begins_3 rfl rfl)
theorem dX11_begins_61 : decode cX11_begins 61 = .ok (.iaload, 1) := dq_46 (dq_suf 13 dt39acX11_begins_3 rfl rfl)
theorem dX11_begins_62 : decode cX11_begins 62 = .ok (.aload_n 0, 1) := dq_42 (dq_suf 14 dt39acX11_begins_3 rfl rfl)
theorem dX11_begins_63 : decode cX11_begins 63 = .ok (.getfield 308, 3) := dq_180 (dq_suf 15 dt39acX11_begins_3 rfl rfl) rfl
theorem dX11_begins_66 : decode cX11_begins 66 = .ok (.if_icmp .le 12, 3) := dq_164 (dq_suf 2 dt39acX11_begins_4 rfl rfl) (by decide +kernel)
theorem dX11_begins_69 : decode cX11_begins 69 = .ok (.aload_n 0, 1) := dq_42 (dq_suf 5 dt39acX11_begins_4 rfl rfl)
theorem dX11_begins_70 : decode cX11_begins 70 = .ok (.getfield 81, 3) := dq_180 (dq_suf 6 dt39acX11_begins_4 rfl rfl) rfl
theorem dX11_begins_73 : decode cX11_begins 73 = .ok (.iload_n 2, 1) := dq_28 (dq_suf 9 dt39acX11_begins_4 rfl rfl)
theorem dX11_begins_74 : decode cX11_begins 74 = .ok (.iaload, 1) := dq_46 (dq_suf 10 dt39acX11_begins_4 rfl rfl)
theorem dX11_begins_75 : decode cX11_begins 75 = .ok (.goto 7, 3) := dq_167 (dq_suf 11 dt39acX11_begins_4 rfl rfl) (by decide +kernel)
theorem dX11_begins_78 : decode cX11_begins 78 = .ok (.aload_n 0, 1) := dq_42 (dq_suf 14 dt39acX11_begins_4 rfl rfl)
theorem dX11_begins_79 : decode cX11_begins 79 = .ok (.getfield 308, 3) := dq_180 (dq_suf 15 dt39acX11_begins_4 rfl rfl) rfl
theorem dX11_begins_82 : decode cX11_begins 82 = .ok (.putfield 308, 3) := dq_181 (dq_suf 2 dt39acX11_begins_5 rfl rfl) rfl
theorem dX11_begins_85 : decode cX11_begins 85 = .ok (.aload_n 0, 1) := dq_42 (dq_suf 5 dt39acX11_begins_5 rfl rfl)
theorem dX11_begins_86 : decode cX11_begins 86 = .ok (.getfield 69, 3) := dq_180 (dq_suf 6 dt39acX11_begins_5 rfl rfl) rfl
theorem dX11_begins_89 : decode cX11_begins 89 = .ok (.iconst 0, 1) := dq_3 (dq_suf 9 dt39acX11_begins_5 rfl rfl)
theorem dX11_begins_90 : decode cX11_begins 90 = .ok (.aload_n 0, 1) := dq_42 (dq_suf 10 dt39acX11_begins_5 rfl rfl)
theorem dX11_begins_91 : decode cX11_begins 91 = .ok (.getfield 72, 3) := dq_180 (dq_suf 11 dt39acX11_begins_5 rfl rfl) rfl
theorem dX11_begins_94 : decode cX11_begins 94 = .ok (.bipush 10, 2) := dq_16 (dq_suf 14 dt39acX11_begins_5 rfl rfl) (by decide +kernel)
theorem dX11_begins_96 : decode cX11_begins 96 = .ok (.iload_n 2, 1) := dq_28 (dq_suf 0 dt39acX11_begins_6 rfl rfl)
theorem dX11_begins_97 : decode cX11_begins 97 = .ok (.imul, 1) := dq_104 (dq_suf 1 dt39acX11_begins_6 rfl rfl)
theorem dX11_begins_98 : decode cX11_begins 98 = .ok (.invokestatic 301, 3) := dq_184 (dq_suf 2 dt39acX11_begins_6 rfl rfl) rfl
theorem dX11_begins_101 : decode cX11_begins 101 = .ok (.aload_n 0, 1) := dq_42 (dq_suf 5 dt39acX11_begins_6 rfl rfl)
theorem dX11_begins_102 : decode cX11_begins 102 = .ok (.iload_n 2, 1) := dq_28 (dq_suf 6 dt39acX11_begins_6 rfl rfl)
theorem dX11_begins_103 : decode cX11_begins 103 = .ok (.putfield 295, 3) := dq_181 (dq_suf 7 dt39acX11_begins_6 rfl rfl) rfl
theorem dX11_begins_106 : decode cX11_begins 106 = .ok (.return_, 1) := dq_177 (dq_suf 10 dt39acX11_begins_6 rfl rfl)
noncomputable def ds39acX11_down_15 : List UInt8 := 172 :: []
noncomputable def ds39acX11_down_14 : List UInt8 := 0 :: 69 :: 3 :: 42 :: 180 :: 0 :: 20 :: 27 :: 46 :: 184 :: 1 :: 68 :: 167 :: 255 :: 20 :: 3 :: ds39acX11_down_15
noncomputable def ds39acX11_down_13 : List UInt8 := 180 :: 1 :: 82 :: 4 :: 96 :: 181 :: 1 :: 82 :: 42 :: 4 :: 27 :: 182 :: 1 :: 78 :: 42 :: 180 :: ds39acX11_down_14
noncomputable def ds39acX11_down_12 : List UInt8 := 1 :: 144 :: 160 :: 0 :: 12 :: 42 :: 16 :: 252 :: 181 :: 1 :: 30 :: 167 :: 0 :: 33 :: 42 :: 89 :: ds39acX11_down_13
noncomputable def ds39acX11_down_11 : List UInt8 := 0 :: 61 :: 42 :: 6 :: 27 :: 182 :: 1 :: 58 :: 153 :: 0 :: 52 :: 42 :: 180 :: 1 :: 82 :: 17 :: ds39acX11_down_12
noncomputable def ds39acX11_down_10 : List UInt8 := 167 :: 255 :: 232 :: 42 :: 3 :: 2 :: 182 :: 1 :: 78 :: 3 :: 172 :: 42 :: 182 :: 1 :: 65 :: 153 :: ds39acX11_down_11
noncomputable def ds39acX11_down_9 : List UInt8 := 0 :: 84 :: 16 :: 60 :: 42 :: 180 :: 1 :: 39 :: 104 :: 28 :: 96 :: 3 :: 84 :: 132 :: 2 :: 1 :: ds39acX11_down_10
noncomputable def ds39acX11_down_8 : List UInt8 := 60 :: 27 :: 2 :: 160 :: 0 :: 40 :: 3 :: 61 :: 28 :: 16 :: 60 :: 162 :: 0 :: 24 :: 42 :: 180 :: ds39acX11_down_9
noncomputable def ds39acX11_down_7 : List UInt8 := 42 :: 180 :: 0 :: 20 :: 27 :: 46 :: 184 :: 1 :: 68 :: 167 :: 255 :: 135 :: 42 :: 182 :: 1 :: 75 :: ds39acX11_down_8
noncomputable def ds39acX11_down_6 : List UInt8 := 255 :: 161 :: 42 :: 5 :: 27 :: 182 :: 1 :: 58 :: 153 :: 255 :: 152 :: 42 :: 180 :: 0 :: 69 :: 3 :: ds39acX11_down_7
noncomputable def ds39acX11_down_5 : List UInt8 := 178 :: 42 :: 182 :: 1 :: 72 :: 60 :: 27 :: 2 :: 159 :: 0 :: 36 :: 42 :: 182 :: 1 :: 65 :: 153 :: ds39acX11_down_6
noncomputable def ds39acX11_down_4 : List UInt8 := 42 :: 180 :: 0 :: 69 :: 3 :: 42 :: 180 :: 0 :: 23 :: 27 :: 46 :: 184 :: 1 :: 68 :: 167 :: 255 :: ds39acX11_down_5
noncomputable def ds39acX11_down_3 : List UInt8 := 255 :: 209 :: 42 :: 180 :: 0 :: 69 :: 3 :: 42 :: 180 :: 0 :: 20 :: 27 :: 46 :: 184 :: 1 :: 68 :: ds39acX11_down_4
noncomputable def ds39acX11_down_2 : List UInt8 := 0 :: 50 :: 42 :: 182 :: 1 :: 65 :: 153 :: 255 :: 218 :: 42 :: 4 :: 27 :: 182 :: 1 :: 58 :: 153 :: ds39acX11_down_3
noncomputable def ds39acX11_down_1 : List UInt8 := 10 :: 42 :: 3 :: 27 :: 182 :: 1 :: 58 :: 172 :: 42 :: 182 :: 1 :: 62 :: 60 :: 27 :: 2 :: 159 :: ds39acX11_down_2
noncomputable def ds39acX11_down_0 : List UInt8 := 42 :: 180 :: 1 :: 30 :: 154 :: 0 :: 235 :: 42 :: 182 :: 1 :: 55 :: 60 :: 27 :: 2 :: 159 :: 0 :: ds39acX11_down_1
theorem dt39acX11_down_0 : cX11_down.data.toList.drop 0 = ds39acX11_down_0 := by decide +kernel
theorem dt39acX11_down_1 : cX11_down.data.toList.drop 16 = ds39acX11_down_1 := dq_suf 16 dt39acX11_down_0 rfl rfl
theorem dt39acX11_down_2 : cX11_down.data.toList.drop 32 = ds39acX11_down_2 := dq_suf 16 dt39acX11_down_1 rfl rfl
theorem dt39acX11_down_3 : cX11_down.data.toList.drop 48 = ds39acX11_down_3 := dq_suf 16 dt39acX11_down_2 rfl rfl
theorem dt39acX11_down_4 : cX11_down.data.toList.drop 64 = ds39acX11_down_4 := dq_suf 16 dt39acX11_down_3 rfl rfl
theorem dt39acX11_down_5 : cX11_down.data.toList.drop 80 = ds39acX11_down_5 := dq_suf 16 dt39acX11_down_4 rfl rfl
theorem dt39acX11_down_6 : cX11_down.data.toList.drop 96 = ds39acX11_down_6 := dq_suf 16 dt39acX11_down_5 rfl rfl
theorem dt39acX11_down_7 : cX11_down.data.toList.drop 112 = ds39acX11_down_7 := dq_suf 16 dt39acX11_down_6 rfl rfl
theorem dt39acX11_down_8 : cX11_down.data.toList.drop 128 = ds39acX11_down_8 := dq_suf 16 dt39acX11_down_7 rfl rfl
theorem dt39acX11_down_9 : cX11_down.data.toList.drop 144 = ds39acX11_down_9 := dq_suf 16 dt39acX11_down_8 rfl rfl
theorem dt39acX11_down_10 : cX11_down.data.toList.drop 160 = ds39acX11_down_10 := dq_suf 16 dt39acX11_down_9 rfl rfl
theorem dt39acX11_down_11 : cX11_down.data.toList.drop 176 = ds39acX11_down_11 := dq_suf 16 dt39acX11_down_10 rfl rfl
theorem dt39acX11_down_12 : cX11_down.data.toList.drop 192 = ds39acX11_down_12 := dq_suf 16 dt39acX11_down_11 rfl rfl
theorem dt39acX11_down_13 : cX11_down.data.toList.drop 208 = ds39acX11_down_13 := dq_suf 16 dt39acX11_down_12 rfl rfl
theorem dt39acX11_down_14 : cX11_down.data.toList.drop 224 = ds39acX11_down_14 := dq_suf 16 dt39acX11_down_13 rfl rfl
theorem dt39acX11_down_15 : cX11_down.data.toList.drop 240 = ds39acX11_down_15 := dq_suf 16 dt39acX11_down_14 rfl rfl
theorem dX11_down_0 : decode cX11_down 0 = .ok (.aload_n 0, 1) := dq_42 (dq_suf 0 dt39acX11_down_0 rfl rfl)
theorem dX11_down_1 : decode cX11_down 1 = .ok (.getfield 286, 3) := dq_180 (dq_suf 1 dt39acX11_down_0 rfl rfl) rfl
theorem dX11_down_4 : decode cX11_down 4 = .ok (.ifCond .ne 235, 3) := dq_154 (dq_suf 4 dt39acX11_down_0 rfl rfl) (by decide +kernel)
theorem dX11_down_7 : decode cX11_down 7 = .ok (.aload_n 0, 1) := dq_42 (dq_suf 7 dt39acX11_down_0 rfl rfl)
theorem dX11_down_8 : decode cX11_down 8 = .ok (.invokevirtual 311, 3) := dq_182 (dq_suf 8 dt39acX11_down_0 rfl rfl) rfl
theorem dX11_down_11 : decode cX11_down 11 = .ok (.istore_n 1, 1) := dq_60 (dq_suf 11 dt39acX11_down_0 rfl rfl)
theorem dX11_down_12 : decode cX11_down 12 = .ok (.iload_n 1, 1) := dq_27 (dq_suf 12 dt39acX11_down_0 rfl rfl)
theorem dX11_down_13 : decode cX11_down 13 = .ok (.iconst (-1), 1) := dq_2 (dq_suf 13 dt39acX11_down_0 rfl rfl)
theorem dX11_down_14 : decode cX11_down 14 = .ok (.if_icmp .eq 10, 3) := dq_159 (dq_suf 14 dt39acX11_down_0 rfl rfl) (by decide +kernel)
theorem dX11_down_17 : decode cX11_down 17 = .ok (.aload_n 0, 1) := dq_42 (dq_suf 1 dt39acX11_down_1 rfl rfl)
theorem dX11_down_18 : decode cX11_down 18 = .ok (.iconst 0, 1) := dq_3 (dq_suf 2 dt39acX11_down_1 rfl rfl)
theorem dX11_down_19 : decode cX11_down 19 = .ok (.iload_n 1, 1) := dq_27 (dq_suf 3 dt39acX11_down_1 rfl rfl)
theorem dX11_down_20 : decode cX11_down 20 = .ok (.invokevirtual 314, 3) := dq_182 (dq_suf 4 dt39acX11_down_1 rfl rfl) rfl
theorem dX11_down_23 : decode cX11_down 23 = .ok (.ireturn, 1) := dq_172 (dq_suf 7 dt39acX11_down_1 rfl rfl)
theorem dX11_down_24 : decode cX11_down 24 = .ok (.aload_n 0, 1) := dq_42 (dq_suf 8 dt39acX11_down_1 rfl rfl)
theorem dX11_down_25 : decode cX11_down 25 = .ok (.invokevirtual 318, 3) := dq_182 (dq_suf 9 dt39acX11_down_1 rfl rfl) rfl
theorem dX11_down_28 : decode cX11_down 28 = .ok (.istore_n 1, 1) := dq_60 (dq_suf 12 dt39acX11_down_1 rfl rfl)
theorem dX11_down_29 : decode cX11_down 29 = .ok (.iload_n 1, 1) := dq_27 (dq_suf 13 dt39acX11_down_1 rfl rfl)
theorem dX11_down_30 : decode cX11_down 30 = .ok (.iconst (-1), 1) := dq_2 (dq_suf 14 dt39acX11_down_1 rfl rfl)
theorem dX11_down_31 : decode cX11_down 31 = .ok (.if_icmp .eq 50, 3) := dq_159 (dq_suf 15 dt39acX11_down_1 rfl rfl) (by decide +kernel)
theorem dX11_down_34 : decode cX11_down 34 = .ok (.aload_n 0, 1) := dq_42 (dq_suf 2 dt39acX11_down_2 rfl rfl)
theorem dX11_down_35 : decode cX11_down 35 = .ok (.invokevirtual 321, 3) := dq_182 (dq_suf 3 dt39acX11_down_2 rfl rfl) rfl
theorem dX11_down_38 : decode cX11_down 38 = .ok (.ifCond .eq (-38), 3) := dq_153 (dq_suf 6 dt39acX11_down_2 rfl rfl) (by decide +kernel)
theorem dX11_down_41 : decode cX11_down 41 = .ok (.aload_n 0, 1) := dq_42 (dq_suf 9 dt39acX11_down_2 rfl rfl)
theorem dX11_down_42 : decode cX11_down 42 = .ok (.iconst 1, 1) := dq_4 (dq_suf 10 dt39acX11_down_2 rfl rfl)
theorem dX11_down_43 : decode cX11_down 43 = .ok (.iload_n 1, 1) := dq_27 (dq_suf 11 dt39acX11_down_2 rfl rfl)
theorem dX11_down_44 : decode cX11_down 44 = .ok (.invokevirtual 314, 3) := dq_182 (dq_suf 12 dt39acX11_down_2 rfl rfl) rfl
theorem dX11_down_47 : decode cX11_down 47 = .ok (.ifCond .eq (-47), 3) := dq_153 (dq_suf 15 dt39acX11_down_2 rfl rfl) (by decide +kernel)
theorem dX11_down_50 : decode cX11_down 50 = .ok (.aload_n 0, 1) := dq_42 (dq_suf 2 dt39acX11_down_3 rfl rfl)
theorem dX11_down_51 : decode cX11_down 51 = .ok (.getfield 69, 3) := dq_180 (dq_suf 3 dt39acX11_down_3 rfl rfl) rfl
theorem dX11_down_54 : decode cX11_down 54 = .ok (.iconst 0, 1) := dq_3 (dq_suf 6 dt39acX11_down_3 rfl rfl)
theorem dX11_down_55 : decode cX11_down 55 = .ok (.aload_n 0, 1) := dq_42 (dq_suf 7 dt39acX11_down_3 rfl rfl)
theorem dX11_down_56 : decode cX11_down 56 = .ok (.getfield 20, 3) := dq_180 (dq_suf 8 dt39acX11_down_3 rfl rfl) rfl
theorem dX11_down_59 : decode cX11_down 59 = .ok (.iload_n 1, 1) := dq_27 (dq_suf 11 dt39acX11_down_3 rfl rfl)
theorem dX11_down_60 : decode cX11_down 60 = .ok (.iaload, 1) := dq_46 (dq_suf 12 dt39acX11_down_3 rfl rfl)
theorem dX11_down_61 : decode cX11_down 61 = .ok (.invokestatic 324, 3) := dq_184 (dq_suf 13 dt39acX11_down_3 rfl rfl) rfl
theorem dX11_down_64 : decode cX11_down 64 = .ok (.aload_n 0, 1) := dq_42 (dq_suf 0 dt39acX11_down_4 rfl rfl)
theorem dX11_down_65 : decode cX11_down 65 = .ok (.getfield 69, 3) := dq_180 (dq_suf 1 dt39acX11_down_4 rfl rfl) rfl
theorem dX11_down_68 : decode cX11_down 68 = .ok (.iconst 0, 1) := dq_3 (dq_suf 4 dt39acX11_down_4 rfl rfl)
theorem dX11_down_69 : decode cX11_down 69 = .ok (.aload_n 0, 1) := dq_42 (dq_suf 5 dt39acX11_down_4 rfl rfl)
theorem dX11_down_70 : decode cX11_down 70 = .ok (.getfield 23, 3) := dq_180 (dq_suf 6 dt39acX11_down_4 rfl rfl) rfl
theorem dX11_down_73 : decode cX11_down 73 = .ok (.iload_n 1, 1) := dq_27 (dq_suf 9 dt39acX11_down_4 rfl rfl)
theorem dX11_down_74 : decode cX11_down 74 = .ok (.iaload, 1) := dq_46 (dq_suf 10 dt39acX11_down_4 rfl rfl)
theorem dX11_down_75 : decode cX11_down 75 = .ok (.invokestatic 324, 3) := dq_184 (dq_suf 11 dt39acX11_down_4 rfl rfl) rfl
theorem dX11_down_78 : decode cX11_down 78 = .ok (.goto (-78), 3) := dq_167 (dq_suf 14 dt39acX11_down_4 rfl rfl) (by decide +kernel)
theorem dX11_down_81 : decode cX11_down 81 = .ok (.aload_n 0, 1) := dq_42 (dq_suf 1 dt39acX11_down_5 rfl rfl)
theorem dX11_down_82 : decode cX11_down 82 = .ok (.invokevirtual 328, 3) := dq_182 (dq_suf 2 dt39acX11_down_5 rfl rfl) rfl
theorem dX11_down_85 : decode cX11_down 85 = .ok (.istore_n 1, 1) := dq_60 (dq_suf 5 dt39acX11_down_5 rfl rfl)
theorem dX11_down_86 : decode cX11_down 86 = .ok (.iload_n 1, 1) := dq_27 (dq_suf 6 dt39acX11_down_5 rfl rfl)
theorem dX11_down_87 : decode cX11_down 87 = .ok (.iconst (-1), 1) := dq_2 (dq_suf 7 dt39acX11_down_5 rfl rfl)
theorem dX11_down_88 : decode cX11_down 88 = .ok (.if_icmp .eq 36, 3) := dq_159 (dq_suf 8 dt39acX11_down_5 rfl rfl) (by decide +kernel)
theorem dX11_down_91 : decode cX11_down 91 = .ok (.aload_n 0, 1) := dq_42 (dq_suf 11 dt39acX11_down_5 rfl rfl)
theorem dX11_down_92 : decode cX11_down 92 = .ok (.invokevirtual 321, 3) := dq_182 (dq_suf 12 dt39acX11_down_5 rfl rfl) rfl
theorem dX11_down_95 : decode cX11_down 95 = .ok (.ifCond .eq (-95), 3) := dq_153 (dq_suf 15 dt39acX11_down_5 rfl rfl) (by decide +kernel)
theorem dX11_down_98 : decode cX11_down 98 = .ok (.aload_n 0, 1) := dq_42 (dq_suf 2 dt39acX11_down_6 rfl rfl)
theorem dX11_down_99 : decode cX11_down 99 = .ok (.iconst 2, 1) := dq_5 (dq_suf 3 dt39acX11_down_6 rfl rfl)
theorem dX11_down_100 : decode cX11_down 100 = .ok (.iload_n 1, 1) := dq_27 (dq_suf 4 dt39acX11_down_6 rfl rfl)
theorem dX11_down_101 : decode cX11_down 101 = .ok (.invokevirtual 314, 3) := dq_182 (dq_suf 5 dt39acX11_down_6 rfl rfl) rfl
theorem dX11_down_104 : decode cX11_down 104 = .ok (.ifCond .eq (-104), 3) := dq_153 (dq_suf 8 dt39acX11_down_6 rfl rfl) (by decide +kernel)
theorem dX11_down_107 : decode cX11_down 107 = .ok (.aload_n 0, 1) := dq_42 (dq_suf 11 dt39acX11_down_6 rfl rfl)
theorem dX11_down_108 : decode cX11_down 108 = .ok (.getfield 69, 3) := dq_180 (dq_suf 12 dt39acX11_down_6 rfl rfl) rfl
theorem dX11_down_111 : decode cX11_down 111 = .ok (.iconst 0, 1) := dq_3 (dq_suf 15 dt39acX11_down_6 rfl rfl)
theorem dX11_down_112 : decode cX11_down 112 = .ok (.aload_n 0, 1) := dq_42 (dq_suf 0 dt39acX11_down_7 rfl rfl)
theorem dX11_down_113 : decode cX11_down 113 = .ok (.getfield 20, 3) := dq_180 (dq_suf 1 dt39acX11_down_7 rfl rfl) rfl
theorem dX11_down_116 : decode cX11_down 116 = .ok (.iload_n 1, 1) := dq_27 (dq_suf 4 dt39acX11_down_7 rfl rfl)
theorem dX11_down_117 : decode cX11_down 117 = .ok (.iaload, 1) := dq_46 (dq_suf 5 dt39acX11_down_7 rfl rfl)
theorem dX11_down_118 : decode cX11_down 118 = .ok (.invokestatic 324, 3) := dq_184 (dq_suf 6 dt39acX11_down_7 rfl rfl) rfl
theorem dX11_down_121 : decode cX11_down 121 = .ok (.goto (-121), 3) := dq_167 (dq_suf 9 dt39acX11_down_7 rfl rfl) (by decide +kernel)
theorem dX11_down_124 : decode cX11_down 124 = .ok (.aload_n 0, 1) := dq_42 (dq_suf 12 dt39acX11_down_7 rfl rfl)
theorem dX11_down_125 : decode cX11_down 125 = .ok (.invokevirtual 331, 3) := dq_182 (dq_suf 13 dt39acX11_down_7 rfl rfl) rfl
theorem dX11_down_128 : decode cX11_down 128 = .ok (.istore_n 1, 1) := dq_60 (dq_suf 0 dt39acX11_down_8 rfl rfl)
theorem dX11_down_129 : decode cX11_down 129 = .ok (.iload_n 1, 1) := dq_27 (dq_suf 1 dt39acX11_down_8 rfl rfl)
theorem dX11_down_130 : decode cX11_down 130 = .ok (.iconst (-1), 1) := dq_2 (dq_suf 2 dt39acX11_down_8 rfl rfl)
theorem dX11_down_131 : decode cX11_down 131 = .ok (.if_icmp .ne 40, 3) := dq_160 (dq_suf 3 dt39acX11_down_8 rfl rfl) (by decide +kernel)
theorem dX11_down_134 : decode cX11_down 134 = .ok (.iconst 0, 1) := dq_3 (dq_suf 6 dt39acX11_down_8 rfl rfl)
theorem dX11_down_135 : decode cX11_down 135 = .ok (.istore_n 2, 1) := dq_61 (dq_suf 7 dt39acX11_down_8 rfl rfl)
theorem dX11_down_136 : decode cX11_down 136 = .ok (.iload_n 2, 1) := dq_28 (dq_suf 8 dt39acX11_down_8 rfl rfl)
theorem dX11_down_137 : decode cX11_down 137 = .ok (.bipush 60, 2) := dq_16 (dq_suf 9 dt39acX11_down_8 rfl rfl) (by decide +kernel)
theorem dX11_down_139 : decode cX11_down 139 = .ok (.if_icmp .ge 24, 3) := dq_162 (dq_suf 11 dt39acX11_down_8 rfl rfl) (by decide +kernel)
theorem dX11_down_142 : decode cX11_down 142 = .ok (.aload_n 0, 1) := dq_42 (dq_suf 14 dt39acX11_down_8 rfl rfl)
theorem dX11_down_143 : decode cX11_down 143 = .ok (.getfield 84, 3) := dq_180 (dq_suf 15 dt39acX11_down_8 rfl rfl) rfl
theorem dX11_down_146 : decode cX11_down 146 = .ok (.bipush 60, 2) := dq_16 (dq_suf 2 dt39acX11_down_9 rfl rfl) (by decide +kernel)
theorem dX11_down_148 : decode cX11_down 148 = .ok (.aload_n 0, 1) := dq_42 (dq_suf 4 dt39acX11_down_9 rfl rfl)
theorem dX11_down_149 : decode cX11_down 149 = .ok (.getfield 295, 3) := dq_180 (dq_suf 5 dt39acX11_down_9 rfl rfl) rfl
theorem dX11_down_152 : decode cX11_down 152 = .ok (.imul, 1) := dq_104 (dq_suf 8 dt39acX11_down_9 rfl rfl)
theorem dX11_down_153 : decode cX11_down 153 = .ok (.iload_n 2, 1) := dq_28 (dq_suf 9 dt39acX11_down_9 rfl rfl)
theorem dX11_down_154 : decode cX11_down 154 = .ok (.iadd, 1) := dq_96 (dq_suf 10 dt39acX11_down_9 rfl rfl)
theorem dX11_down_155 : decode cX11_down 155 = .ok (.iconst 0, 1) := dq_3 (dq_suf 11 dt39acX11_down_9 rfl rfl)
theorem dX11_down_156 : decode cX11_down 156 = .ok (.bastore, 1) := dq_84 (dq_suf 12 dt39acX11_down_9 rfl rfl)
theorem dX11_down_157 : decode cX11_down 157 = .ok (.iinc 2 1, 3) := dq_132 (dq_suf 13 dt39acX11_down_9 rfl rfl) rfl (by decide +kernel)
theorem dX11_down_160 : decode cX11_down 160 = .ok (.goto (-24), 3) := dq_167 (dq_suf 0 dt39acX11_down_10 rfl rfl) (by decide +kernel)
theorem dX11_down_163 : decode cX11_down 163 = .ok (.aload_n 0, 1) := dq_42 (dq_suf 3 dt39acX11_down_10 rfl rfl)
theorem dX11_down_164 : decode cX11_down 164 = .ok (.iconst 0, 1) := dq_3 (dq_suf 4 dt39acX11_down_10 rfl rfl)
theorem dX11_down_165 : decode cX11_down 165 = .ok (.iconst (-1), 1) := dq_2 (dq_suf 5 dt39acX11_down_10 rfl rfl)
theorem dX11_down_166 : decode cX11_down 166 = .ok (.invokevirtual 334, 3) := dq_182 (dq_suf 6 dt39acX11_down_10 rfl rfl) rfl
theorem dX11_down_169 : decode cX11_down 169 = .ok (.iconst 0, 1) := dq_3 (dq_suf 9 dt39acX11_down_10 rfl rfl)
theorem dX11_down_170 : decode cX11_down 170 = .ok (.ireturn, 1) := dq_172 (dq_suf 10 dt39acX11_down_10 rfl rfl)
theorem dX11_down_171 : decode cX11_down 171 = .ok (.aload_n 0, 1) := dq_42 (dq_suf 11 dt39acX11_down_10 rfl rfl)
theorem dX11_down_172 : decode cX11_down 172 = .ok (.invokevirtual 321, 3) := dq_182 (dq_suf 12 dt39acX11_down_10 rfl rfl) rfl
theorem dX11_down_175 : decode cX11_down 175 = .ok (.ifCond .eq 61, 3) := dq_153 (dq_suf 15 dt39acX11_down_10 rfl rfl) (by decide +kernel)
theorem dX11_down_178 : decode cX11_down 178 = .ok (.aload_n 0, 1) := dq_42 (dq_suf 2 dt39acX11_down_11 rfl rfl)
theorem dX11_down_179 : decode cX11_down 179 = .ok (.iconst 3, 1) := dq_6 (dq_suf 3 dt39acX11_down_11 rfl rfl)
theorem dX11_down_180 : decode cX11_down 180 = .ok (.iload_n 1, 1) := dq_27 (dq_suf 4 dt39acX11_down_11 rfl rfl)
theorem dX11_down_181 : decode cX11_down 181 = .ok (.invokevirtual 314, 3) := dq_182 (dq_suf 5 dt39acX11_down_11 rfl rfl) rfl
theorem dX11_down_184 : decode cX11_down 184 = .ok (.ifCond .eq 52, 3) := dq_153 (dq_suf 8 dt39acX11_down_11 rfl rfl) (by decide +kernel)
theorem dX11_down_187 : decode cX11_down 187 = .ok (.aload_n 0, 1) := dq_42 (dq_suf 11 dt39acX11_down_11 rfl rfl)
theorem dX11_down_188 : decode cX11_down 188 = .ok (.getfield 338, 3) := dq_180 (dq_suf 12 dt39acX11_down_11 rfl rfl) rfl
theorem dX11_down_191 : decode cX11_down 191 = .ok (.sipush 400, 3) := dq_17 (dq_suf 15 dt39acX11_down_11 rfl rfl) (by decide +kernel)
theorem dX11_down_194 : decode cX11_down 194 = .ok (.if_icmp .ne 12, 3) := dq_160 (dq_suf 2 dt39acX11_down_12 rfl rfl) (by decide +kernel)
theorem dX11_down_197 : decode cX11_down 197 = .ok (.aload_n 0, 1) := dq_42 (dq_suf 5 dt39acX11_down_12 rfl rfl)
theorem dX11_down_198 : decode cX11_down 198 = .ok (.bipush (-4), 2) := dq_16 (dq_suf 6 dt39acX11_down_12 rfl rfl) (by decide +kernel)
theorem dX11_down_200 : decode cX11_down 200 = .ok (.putfield 286, 3) := dq_181 (dq_suf 8 dt39acX11_down_12 rfl rfl) rfl
theorem dX11_down_203 : decode cX11_down 203 = .ok (.goto 33, 3) := dq_167 (dq_suf 11 dt39acX11_down_12 rfl rfl) (by decide +kernel)
theorem dX11_down_206 : decode cX11_down 206 = .ok (.aload_n 0, 1) := dq_42 (dq_suf 14 dt39acX11_down_12 rfl rfl)
theorem dX11_down_207 : decode cX11_down 207 = .ok (.dup, 1) := dq_89 (dq_suf 15 dt39acX11_down_12 rfl rfl)
theorem dX11_down_208 : decode cX11_down 208 = .ok (.getfield 338, 3) := dq_180 (dq_suf 0 dt39acX11_down_13 rfl rfl) rfl
theorem dX11_down_211 : decode cX11_down 211 = .ok (.iconst 1, 1) := dq_4 (dq_suf 3 dt39acX11_down_13 rfl rfl)
theorem dX11_down_212 : decode cX11_down 212 = .ok (.iadd, 1) := dq_96 (dq_suf 4 dt39acX11_down_13 rfl rfl)
theorem dX11_down_213 : decode cX11_down 213 = .ok (.putfield 338, 3) := dq_181 (dq_suf 5 dt39acX11_down_13 rfl rfl) rfl
theorem dX11_down_216 : decode cX11_down 216 = .ok (.aload_n 0, 1) := dq_42 (dq_suf 8 dt39acX11_down_13 rfl rfl)
theorem dX11_down_217 : decode cX11_down 217 = .ok (.iconst 1, 1) := dq_4 (dq_suf 9 dt39acX11_down_13 rfl rfl)
theorem dX11_down_218 : decode cX11_down 218 = .ok (.iload_n 1, 1) := dq_27 (dq_suf 10 dt39acX11_down_13 rfl rfl)
theorem dX11_down_219 : decode cX11_down 219 = .ok (.invokevirtual 334, 3) := dq_182 (dq_suf 11 dt39acX11_down_13 rfl rfl) rfl
theorem dX11_down_222 : decode cX11_down 222 = .ok (.aload_n 0, 1) := dq_42 (dq_suf 14 dt39acX11_down_13 rfl rfl)
theorem dX11_down_223 : decode cX11_down 223 = .ok (.getfield 69, 3) := dq_180 (dq_suf 15 dt39acX11_down_13 rfl rfl) rfl
theorem dX11_down_226 : decode cX11_down 226 = .ok (.iconst 0, 1) := dq_3 (dq_suf 2 dt39acX11_down_14 rfl rfl)
theorem dX11_down_227 : decode cX11_down 227 = .ok (.aload_n 0, 1) := dq_42 (dq_suf 3 dt39acX11_down_14 rfl rfl)
theorem dX11_down_228 : decode cX11_down 228 = .ok (.getfield 20, 3) := dq_180 (dq_suf 4 dt39acX11_down_14 rfl rfl) rfl
theorem dX11_down_231 : decode cX11_down 231 = .ok (.iload_n 1, 1) := dq_27 (dq_suf 7 dt39acX11_down_14 rfl rfl)
theorem dX11_down_232 : decode cX11_down 232 = .ok (.iaload, 1) := dq_46 (dq_suf 8 dt39acX11_down_14 rfl rfl)
theorem dX11_down_233 : decode cX11_down 233 = .ok (.invokestatic 324, 3) := dq_184 (dq_suf 9 dt39acX11_down_14 rfl rfl) rfl
theorem dX11_down_236 : decode cX11_down 236 = .ok (.goto (-236), 3) := dq_167 (dq_suf 12 dt39acX11_down_14 rfl rfl) (by decide +kernel)
theorem dX11_down_239 : decode cX11_down 239 = .ok (.iconst 0, 1) := dq_3 (dq_suf 15 dt39acX11_down_14 rfl rfl)
theorem dX11_down_240 : decode cX11_down 240 = .ok (.ireturn, 1) := dq_172 (dq_suf 0 dt39acX11_down_15 rfl rfl)
noncomputable def ds39acX11_samePlace_4 : List UInt8 := 0 :: 78 :: 27 :: 46 :: 60 :: 167 :: 255 :: 192 :: 2 :: 172 :: []
noncomputable def ds39acX11_samePlace_3 : List UInt8 := 3 :: 61 :: 132 :: 3 :: 1 :: 167 :: 255 :: 217 :: 28 :: 153 :: 0 :: 5 :: 27 :: 172 :: 42 :: 180 :: ds39acX11_samePlace_4
noncomputable def ds39acX11_samePlace_2 : List UInt8 := 29 :: 96 :: 46 :: 42 :: 180 :: 0 :: 112 :: 29 :: 46 :: 160 :: 0 :: 7 :: 4 :: 167 :: 0 :: 4 :: ds39acX11_samePlace_3
noncomputable def ds39acX11_samePlace_1 : List UInt8 := 10 :: 162 :: 0 :: 39 :: 28 :: 153 :: 0 :: 35 :: 42 :: 180 :: 0 :: 72 :: 16 :: 10 :: 27 :: 104 :: ds39acX11_samePlace_2
noncomputable def ds39acX11_samePlace_0 : List UInt8 := 42 :: 180 :: 1 :: 39 :: 60 :: 27 :: 2 :: 159 :: 0 :: 65 :: 4 :: 61 :: 3 :: 62 :: 29 :: 16 :: ds39acX11_samePlace_1
theorem dt39acX11_samePlace_0 : cX11_samePlace.data.toList.drop 0 = ds39acX11_samePlace_0 := by decide +kernel
theorem dt39acX11_samePlace_1 : cX11_samePlace.data.toList.drop 16 = ds39acX11_samePlace_1 := dq_suf 16 dt39acX11_samePlace_0 rfl rfl
theorem dt39acX11_samePlace_2 : cX11_samePlace.data.toList.drop 32 = ds39acX11_samePlace_2 := dq_suf 16 dt39acX11_samePlace_1 rfl rfl
theorem dt39acX11_samePlace_3 : cX11_samePlace.data.toList.drop 48 = ds39acX11_samePlace_3 := dq_suf 16 dt39acX11_samePlace_2 rfl rfl
theorem dt39acX11_samePlace_4 : cX11_samePlace.data.toList.drop 64 = ds39acX11_samePlace_4 := dq_suf 16 dt39acX11_samePlace_3 rfl rfl
theorem dX11_samePlace_0 : decode cX11_samePlace 0 = .ok (.aload_n 0, 1) := dq_42 (dq_suf 0 dt39acX11_samePlace_0 rfl rfl)
theorem dX11_samePlace_1 : decode cX11_samePlace 1 = .ok (.getfield 295, 3) := dq_180 (dq_suf 1 dt39acX11_samePlace_0 rfl rfl) rfl
theorem dX11_samePlace_4 : decode cX11_samePlace 4 = .ok (.istore_n 1, 1) := dq_60 (dq_suf 4 dt39acX11_samePlace_0 rfl rfl)
theorem dX11_samePlace_5 : decode cX11_samePlace 5 = .ok (.iload_n 1, 1) := dq_27 (dq_suf 5 dt39acX11_samePlace_0 rfl rfl)
theorem dX11_samePlace_6 : decode cX11_samePlace 6 = .ok (.iconst (-1), 1) := dq_2 (dq_suf 6 dt39acX11_samePlace_0 rfl rfl)
theorem dX11_samePlace_7 : decode cX11_samePlace 7 = .ok (.if_icmp .eq 65, 3) := dq_159 (dq_suf 7 dt39acX11_samePlace_0 rfl rfl) (by decide +kernel)
theorem dX11_samePlace_10 : decode cX11_samePlace 10 = .ok (.iconst 1, 1) := dq_4 (dq_suf 10 dt39acX11_samePlace_0 rfl rfl)
theorem dX11_samePlace_11 : decode cX11_samePlace 11 = .ok (.istore_n 2, 1) := dq_61 (dq_suf 11 dt39acX11_samePlace_0 rfl rfl)
theorem dX11_samePlace_12 : decode cX11_samePlace 12 = .ok (.iconst 0, 1) := dq_3 (dq_suf 12 dt39acX11_samePlace_0 rfl rfl)
theorem dX11_samePlace_13 : decode cX11_samePlace 13 = .ok (.istore_n 3, 1) := dq_62 (dq_suf 13 dt39acX11_samePlace_0 rfl rfl)
theorem dX11_samePlace_14 : decode cX11_samePlace 14 = .ok (.iload_n 3, 1) := dq_29 (dq_suf 14 dt39acX11_samePlace_0 rfl rfl)
theorem dX11_samePlace_15 : decode cX11_samePlace 15 = .ok (.bipush 10, 2) := dq_16 (dq_suf 15 dt39acX11_samePlace_0 rfl rfl) (by decide +kernel)
theorem dX11_samePlace_17 : decode cX11_samePlace 17 = .ok (.if_icmp .ge 39, 3) := dq_162 (dq_suf 1 dt39acX11_samePlace_1 rfl rfl) (by decide +kernel)
theorem dX11_samePlace_20 : decode cX11_samePlace 20 = .ok (.iload_n 2, 1) := dq_28 (dq_suf 4 dt39acX11_samePlace_1 rfl rfl)
theorem dX11_samePlace_21 : decode cX11_samePlace 21 = .ok (.ifCond .eq 35, 3) := dq_153 (dq_suf 5 dt39acX11_samePlace_1 rfl rfl) (by decide +kernel)
theorem dX11_samePlace_24 : decode cX11_samePlace 24 = .ok (.aload_n 0, 1) := dq_42 (dq_suf 8 dt39acX11_samePlace_1 rfl rfl)
theorem dX11_samePlace_25 : decode cX11_samePlace 25 = .ok (.getfield 72, 3) := dq_180 (dq_suf 9 dt39acX11_samePlace_1 rfl rfl) rfl
theorem dX11_samePlace_28 : decode cX11_samePlace 28 = .ok (.bipush 10, 2) := dq_16 (dq_suf 12 dt39acX11_samePlace_1 rfl rfl) (by decide +kernel)
theorem dX11_samePlace_30 : decode cX11_samePlace 30 = .ok (.iload_n 1, 1) := dq_27 (dq_suf 14 dt39acX11_samePlace_1 rfl rfl)
theorem dX11_samePlace_31 : decode cX11_samePlace 31 = .ok (.imul, 1) := dq_104 (dq_suf 15 dt39acX11_samePlace_1 rfl rfl)
theorem dX11_samePlace_32 : decode cX11_samePlace 32 = .ok (.iload_n 3, 1) := dq_29 (dq_suf 0 dt39acX11_samePlace_2 rfl rfl)
theorem dX11_samePlace_33 : decode cX11_samePlace 33 = .ok (.iadd, 1) := dq_96 (dq_suf 1 dt39acX11_samePlace_2 rfl rfl)
theorem dX11_samePlace_34 : decode cX11_samePlace 34 = .ok (.iaload, 1) := dq_46 (dq_suf 2 dt39acX11_samePlace_2 rfl rfl)
theorem dX11_samePlace_35 : decode cX11_samePlace 35 = .ok (.aload_n 0, 1) := dq_42 (dq_suf 3 dt39acX11_samePlace_2 rfl rfl)
theorem dX11_samePlace_36 : decode cX11_samePlace 36 = .ok (.getfield 112, 3) := dq_180 (dq_suf 4 dt39acX11_samePlace_2 rfl rfl) rfl
theorem dX11_samePlace_39 : decode cX11_samePlace 39 = .ok (.iload_n 3, 1) := dq_29 (dq_suf 7 dt39acX11_samePlace_2 rfl rfl)
theorem dX11_samePlace_40 : decode cX11_samePlace 40 = .ok (.iaload, 1) := dq_46 (dq_suf 8 dt39acX11_samePlace_2 rfl rfl)
theorem dX11_samePlace_41 : decode cX11_samePlace 41 = .ok (.if_icmp .ne 7, 3) := dq_160 (dq_suf 9 dt39acX11_samePlace_2 rfl rfl) (by decide +kernel)
theorem dX11_samePlace_44 : decode cX11_samePlace 44 = .ok (.iconst 1, 1) := dq_4 (dq_suf 12 dt39acX11_samePlace_2 rfl rfl)
theorem dX11_samePlace_45 : decode cX11_samePlace 45 = .ok (.goto 4, 3) := dq_167 (dq_suf 13 dt39acX11_samePlace_2 rfl rfl) (by decide +kernel)
theorem dX11_samePlace_48 : decode cX11_samePlace 48 = .ok (.iconst 0, 1) := dq_3 (dq_suf 0 dt39acX11_samePlace_3 rfl rfl)
theorem dX11_samePlace_49 : decode cX11_samePlace 49 = .ok (.istore_n 2, 1) := dq_61 (dq_suf 1 dt39acX11_samePlace_3 rfl rfl)
theorem dX11_samePlace_50 : decode cX11_samePlace 50 = .ok (.iinc 3 1, 3) := dq_132 (dq_suf 2 dt39acX11_samePlace_3 rfl rfl) rfl (by decide +kernel)
theorem dX11_samePlace_53 : decode cX11_samePlace 53 = .ok (.goto (-39), 3) := dq_167 (dq_suf 5 dt39acX11_samePlace_3 rfl rfl) (by decide +kernel)
theorem dX11_samePlace_56 : decode cX11_samePlace 56 = .ok (.iload_n 2, 1) := dq_28 (dq_suf 8 dt39acX11_samePlace_3 rfl rfl)
theorem dX11_samePlace_57 : decode cX11_samePlace 57 = .ok (.ifCond .eq 5, 3) := dq_153 (dq_suf 9 dt39acX11_samePlace_3 rfl rfl) (by decide +kernel)
theorem dX11_samePlace_60 : decode cX11_samePlace 60 = .ok (.iload_n 1, 1) := dq_27 (dq_suf 12 dt39acX11_samePlace_3 rfl rfl)
theorem dX11_samePlace_61 : decode cX11_samePlace 61 = .ok (.ireturn, 1) := dq_172 (dq_suf 13 dt39acX11_samePlace_3 rfl rfl)
theorem dX11_samePlace_62 : decode cX11_samePlace 62 = .ok (.aload_n 0, 1) := dq_42 (dq_suf 14 dt39acX11_samePlace_3 rfl rfl)
theorem dX11_samePlace_63 : decode cX11_samePlace 63 = .ok (.getfield 78, 3) := dq_180 (dq_suf 15 dt39acX11_samePlace_3 rfl rfl) rfl
theorem dX11_samePlace_66 : decode cX11_samePlace 66 = .ok (.iload_n 1, 1) := dq_27 (dq_suf 2 dt39acX11_samePlace_4 rfl rfl)
theorem dX11_samePlace_67 : decode cX11_samePlace 67 = .ok (.iaload, 1) := dq_46 (dq_suf 3 dt39acX11_samePlace_4 rfl rfl)
theorem dX11_samePlace_68 : decode cX11_samePlace 68 = .ok (.istore_n 1, 1) := dq_60 (dq_suf 4 dt39acX11_samePlace_4 rfl rfl)
theorem dX11_samePlace_69 : decode cX11_samePlace 69 = .ok (.goto (-64), 3) := dq_167 (dq_suf 5 dt39acX11_samePlace_4 rfl rfl) (by decide +kernel)
theorem dX11_samePlace_72 : decode cX11_samePlace 72 = .ok (.iconst (-1), 1) := dq_2 (dq_suf 8 dt39acX11_samePlace_4 rfl rfl)
theorem dX11_samePlace_73 : decode cX11_samePlace 73 = .ok (.ireturn, 1) := dq_172 (dq_suf 9 dt39acX11_samePlace_4 rfl rfl)
noncomputable def ds39acX11_makeStart_5 : List UInt8 := 167 :: 255 :: 213 :: 177 :: []
noncomputable def ds39acX11_makeStart_4 : List UInt8 := 17 :: 153 :: 0 :: 12 :: 42 :: 180 :: 0 :: 112 :: 3 :: 28 :: 184 :: 1 :: 68 :: 132 :: 2 :: 1 :: ds39acX11_makeStart_5
noncomputable def ds39acX11_makeStart_3 : List UInt8 := 16 :: 28 :: 46 :: 16 :: 6 :: 160 :: 0 :: 24 :: 42 :: 180 :: 0 :: 69 :: 3 :: 28 :: 184 :: 1 :: ds39acX11_makeStart_4
noncomputable def ds39acX11_makeStart_2 : List UInt8 := 184 :: 1 :: 68 :: 5 :: 61 :: 28 :: 42 :: 180 :: 0 :: 26 :: 162 :: 0 :: 41 :: 42 :: 180 :: 0 :: ds39acX11_makeStart_3
noncomputable def ds39acX11_makeStart_1 : List UInt8 := 2 :: 1 :: 167 :: 255 :: 240 :: 42 :: 180 :: 0 :: 112 :: 3 :: 42 :: 180 :: 0 :: 20 :: 27 :: 46 :: ds39acX11_makeStart_2
noncomputable def ds39acX11_makeStart_0 : List UInt8 := 3 :: 61 :: 28 :: 16 :: 10 :: 162 :: 0 :: 16 :: 42 :: 180 :: 0 :: 112 :: 28 :: 3 :: 79 :: 132 :: ds39acX11_makeStart_1
theorem dt39acX11_makeStart_0 : cX11_makeStart.data.toList.drop 0 = ds39acX11_makeStart_0 := by decide +kernel
theorem dt39acX11_makeStart_1 : cX11_makeStart.data.toList.drop 16 = ds39acX11_makeStart_1 := dq_suf 16 dt39acX11_makeStart_0 rfl rfl
theorem dt39acX11_makeStart_2 : cX11_makeStart.data.toList.drop 32 = ds39acX11_makeStart_2 := dq_suf 16 dt39acX11_makeStart_1 rfl rfl
theorem dt39acX11_makeStart_3 : cX11_makeStart.data.toList.drop 48 = ds39acX11_makeStart_3 := dq_suf 16 dt39acX11_makeStart_2 rfl rfl
theorem dt39acX11_makeStart_4 : cX11_makeStart.data.toList.drop 64 = ds39acX11_makeStart_4 := dq_suf 16 dt39acX11_makeStart_3 rfl rfl
theorem dt39acX11_makeStart_5 : cX11_makeStart.data.toList.drop 80 = ds39acX11_makeStart_5 := dq_suf 16 dt39acX11_makeStart_4 rfl rfl
theorem dX11_makeStart_0 : decode cX11_makeStart 0 = .ok (.iconst 0, 1) := dq_3 (dq_suf 0 dt39acX11_makeStart_0 rfl rfl)
theorem dX11_makeStart_1 : decode cX11_makeStart 1 = .ok (.istore_n 2, 1) := dq_61 (dq_suf 1 dt39acX11_makeStart_0 rfl rfl)
theorem dX11_makeStart_2 : decode cX11_makeStart 2 = .ok (.iload_n 2, 1) := dq_28 (dq_suf 2 dt39acX11_makeStart_0 rfl rfl)
theorem dX11_makeStart_3 : decode cX11_makeStart 3 = .ok (.bipush 10, 2) := dq_16 (dq_suf 3 dt39acX11_makeStart_0 rfl rfl) (by decide +kernel)
theorem dX11_makeStart_5 : decode cX11_makeStart 5 = .ok (.if_icmp .ge 16, 3) := dq_162 (dq_suf 5 dt39acX11_makeStart_0 rfl rfl) (by decide +kernel)
theorem dX11_makeStart_8 : decode cX11_makeStart 8 = .ok (.aload_n 0, 1) := dq_42 (dq_suf 8 dt39acX11_makeStart_0 rfl rfl)
theorem dX11_makeStart_9 : decode cX11_makeStart 9 = .ok (.getfield 112, 3) := dq_180 (dq_suf 9 dt39acX11_makeStart_0 rfl rfl) rfl
theorem dX11_makeStart_12 : decode cX11_makeStart 12 = .ok (.iload_n 2, 1) := dq_28 (dq_suf 12 dt39acX11_makeStart_0 rfl rfl)
theorem dX11_makeStart_13 : decode cX11_makeStart 13 = .ok (.iconst 0, 1) := dq_3 (dq_suf 13 dt39acX11_makeStart_0 rfl rfl)
theorem dX11_makeStart_14 : decode cX11_makeStart 14 = .ok (.iastore, 1) := dq_79 (dq_suf 14 dt39acX11_makeStart_0 rfl rfl)
theorem dX11_makeStart_15 : decode cX11_makeStart 15 = .ok (.iinc 2 1, 3) := dq_132 (dq_suf 15 dt39acX11_makeStart_0 rfl rfl) rfl (by decide +kernel)
theorem dX11_makeStart_18 : decode cX11_makeStart 18 = .ok (.goto (-16), 3) := dq_167 (dq_suf 2 dt39acX11_makeStart_1 rfl rfl) (by decide +kernel)
theorem dX11_makeStart_21 : decode cX11_makeStart 21 = .ok (.aload_n 0, 1) := dq_42 (dq_suf 5 dt39acX11_makeStart_1 rfl rfl)
theorem dX11_makeStart_22 : decode cX11_makeStart 22 = .ok (.getfield 112, 3) := dq_180 (dq_suf 6 dt39acX11_makeStart_1 rfl rfl) rfl
theorem dX11_makeStart_25 : decode cX11_makeStart 25 = .ok (.iconst 0, 1) := dq_3 (dq_suf 9 dt39acX11_makeStart_1 rfl rfl)
theorem dX11_makeStart_26 : decode cX11_makeStart 26 = .ok (.aload_n 0, 1) := dq_42 (dq_suf 10 dt39acX11_makeStart_1 rfl rfl)
theorem dX11_makeStart_27 : decode cX11_makeStart 27 = .ok (.getfield 20, 3) := dq_180 (dq_suf 11 dt39acX11_makeStart_1 rfl rfl) rfl
theorem dX11_makeStart_30 : decode cX11_makeStart 30 = .ok (.iload_n 1, 1) := dq_27 (dq_suf 14 dt39acX11_makeStart_1 rfl rfl)
theorem dX11_makeStart_31 : decode cX11_makeStart 31 = .ok (.iaload, 1) := dq_46 (dq_suf 15 dt39acX11_makeStart_1 rfl rfl)
theorem dX11_makeStart_32 : decode cX11_makeStart 32 = .ok (.invokestatic 324, 3) := dq_184 (dq_suf 0 dt39acX11_makeStart_2 rfl rfl) rfl
theorem dX11_makeStart_35 : decode cX11_makeStart 35 = .ok (.iconst 2, 1) := dq_5 (dq_suf 3 dt39acX11_makeStart_2 rfl rfl)
theorem dX11_makeStart_36 : decode cX11_makeStart 36 = .ok (.istore_n 2, 1) := dq_61 (dq_suf 4 dt39acX11_makeStart_2 rfl rfl)
theorem dX11_makeStart_37 : decode cX11_makeStart 37 = .ok (.iload_n 2, 1) := dq_28 (dq_suf 5 dt39acX11_makeStart_2 rfl rfl)
theorem dX11_makeStart_38 : decode cX11_makeStart 38 = .ok (.aload_n 0, 1) := dq_42 (dq_suf 6 dt39acX11_makeStart_2 rfl rfl)
theorem dX11_makeStart_39 : decode cX11_makeStart 39 = .ok (.getfield 26, 3) := dq_180 (dq_suf 7 dt39acX11_makeStart_2 rfl rfl) rfl
theorem dX11_makeStart_42 : decode cX11_makeStart 42 = .ok (.if_icmp .ge 41, 3) := dq_162 (dq_suf 10 dt39acX11_makeStart_2 rfl rfl) (by decide +kernel)
theorem dX11_makeStart_45 : decode cX11_makeStart 45 = .ok (.aload_n 0, 1) := dq_42 (dq_suf 13 dt39acX11_makeStart_2 rfl rfl)
theorem dX11_makeStart_46 : decode cX11_makeStart 46 = .ok (.getfield 16, 3) := dq_180 (dq_suf 14 dt39acX11_makeStart_2 rfl rfl) rfl
theorem dX11_makeStart_49 : decode cX11_makeStart 49 = .ok (.iload_n 2, 1) := dq_28 (dq_suf 1 dt39acX11_makeStart_3 rfl rfl)
theorem dX11_makeStart_50 : decode cX11_makeStart 50 = .ok (.iaload, 1) := dq_46 (dq_suf 2 dt39acX11_makeStart_3 rfl rfl)
theorem dX11_makeStart_51 : decode cX11_makeStart 51 = .ok (.bipush 6, 2) := dq_16 (dq_suf 3 dt39acX11_makeStart_3 rfl rfl) (by decide +kernel)
theorem dX11_makeStart_53 : decode cX11_makeStart 53 = .ok (.if_icmp .ne 24, 3) := dq_160 (dq_suf 5 dt39acX11_makeStart_3 rfl rfl) (by decide +kernel)
theorem dX11_makeStart_56 : decode cX11_makeStart 56 = .ok (.aload_n 0, 1) := dq_42 (dq_suf 8 dt39acX11_makeStart_3 rfl rfl)
theorem dX11_makeStart_57 : decode cX11_makeStart 57 = .ok (.getfield 69, 3) := dq_180 (dq_suf 9 dt39acX11_makeStart_3 rfl rfl) rfl
theorem dX11_makeStart_60 : decode cX11_makeStart 60 = .ok (.iconst 0, 1) := dq_3 (dq_suf 12 dt39acX11_makeStart_3 rfl rfl)
theorem dX11_makeStart_61 : decode cX11_makeStart 61 = .ok (.iload_n 2, 1) := dq_28 (dq_suf 13 dt39acX11_makeStart_3 rfl rfl)
theorem dX11_makeStart_62 : decode cX11_makeStart 62 = .ok (.invokestatic 273, 3) := dq_184 (dq_suf 14 dt39acX11_makeStart_3 rfl rfl) rfl
theorem dX11_makeStart_65 : decode cX11_makeStart 65 = .ok (.ifCond .eq 12, 3) := dq_153 (dq_suf 1 dt39acX11_makeStart_4 rfl rfl) (by decide +kernel)
theorem dX11_makeStart_68 : decode cX11_makeStart 68 = .ok (.aload_n 0, 1) := dq_42 (dq_suf 4 dt39acX11_makeStart_4 rfl rfl)
theorem dX11_makeStart_69 : decode cX11_makeStart 69 = .ok (.getfield 112, 3) := dq_180 (dq_suf 5 dt39acX11_makeStart_4 rfl rfl) rfl
theorem dX11_makeStart_72 : decode cX11_makeStart 72 = .ok (.iconst 0, 1) := dq_3 (dq_suf 8 dt39acX11_makeStart_4 rfl rfl)
theorem dX11_makeStart_73 : decode cX11_makeStart 73 = .ok (.iload_n 2, 1) := dq_28 (dq_suf 9 dt39acX11_makeStart_4 rfl rfl)
theorem dX11_makeStart_74 : decode cX11_makeStart 74 = .ok (.invokestatic 324, 3) := dq_184 (dq_suf 10 dt39acX11_makeStart_4 rfl rfl) rfl
theorem dX11_makeStart_77 : decode cX11_makeStart 77 = .ok (.iinc 2 1, 3) := dq_132 (dq_suf 13 dt39acX11_makeStart_4 rfl rfl) rfl (by decide +kernel)
theorem dX11_makeStart_80 : decode cX11_makeStart 80 = .ok (.goto (-43), 3) := dq_167 (dq_suf 0 dt39acX11_makeStart_5 rfl rfl) (by decide +kernel)
theorem dX11_makeStart_83 : decode cX11_makeStart 83 = .ok (.return_, 1) := dq_177 (dq_suf 3 dt39acX11_makeStart_5 rfl rfl)
noncomputable def ds39acX11_mays_11 : List UInt8 := 172 :: []
noncomputable def ds39acX11_mays_10 : List UInt8 := 39 :: 104 :: 29 :: 96 :: 4 :: 84 :: 42 :: 28 :: 182 :: 1 :: 85 :: 61 :: 167 :: 255 :: 138 :: 3 :: ds39acX11_mays_11
noncomputable def ds39acX11_mays_9 : List UInt8 := 1 :: 97 :: 4 :: 96 :: 181 :: 1 :: 97 :: 42 :: 180 :: 0 :: 84 :: 16 :: 60 :: 42 :: 180 :: 1 :: ds39acX11_mays_10
noncomputable def ds39acX11_mays_8 : List UInt8 := 184 :: 1 :: 45 :: 42 :: 42 :: 180 :: 1 :: 39 :: 182 :: 1 :: 94 :: 4 :: 172 :: 42 :: 89 :: 180 :: ds39acX11_mays_9
noncomputable def ds39acX11_mays_7 : List UInt8 := 252 :: 181 :: 1 :: 30 :: 3 :: 172 :: 42 :: 180 :: 0 :: 112 :: 3 :: 42 :: 180 :: 0 :: 69 :: 3 :: ds39acX11_mays_8
noncomputable def ds39acX11_mays_6 : List UInt8 := 154 :: 0 :: 5 :: 3 :: 172 :: 42 :: 180 :: 1 :: 42 :: 16 :: 60 :: 160 :: 0 :: 11 :: 42 :: 16 :: ds39acX11_mays_7
noncomputable def ds39acX11_mays_5 : List UInt8 := 42 :: 182 :: 1 :: 91 :: 62 :: 29 :: 2 :: 160 :: 0 :: 54 :: 42 :: 7 :: 28 :: 182 :: 1 :: 58 :: ds39acX11_mays_6
noncomputable def ds39acX11_mays_4 : List UInt8 := 28 :: 79 :: 42 :: 182 :: 1 :: 65 :: 154 :: 0 :: 5 :: 3 :: 172 :: 42 :: 28 :: 182 :: 1 :: 88 :: ds39acX11_mays_5
noncomputable def ds39acX11_mays_3 : List UInt8 := 27 :: 46 :: 182 :: 1 :: 85 :: 61 :: 28 :: 2 :: 159 :: 0 :: 119 :: 42 :: 180 :: 0 :: 97 :: 27 :: ds39acX11_mays_4
noncomputable def ds39acX11_mays_2 : List UInt8 := 45 :: 42 :: 42 :: 180 :: 0 :: 106 :: 27 :: 46 :: 181 :: 1 :: 33 :: 42 :: 42 :: 180 :: 0 :: 97 :: ds39acX11_mays_3
noncomputable def ds39acX11_mays_1 : List UInt8 := 39 :: 42 :: 180 :: 0 :: 109 :: 16 :: 10 :: 27 :: 104 :: 42 :: 180 :: 0 :: 69 :: 3 :: 184 :: 1 :: ds39acX11_mays_2
noncomputable def ds39acX11_mays_0 : List UInt8 := 42 :: 180 :: 1 :: 36 :: 4 :: 100 :: 60 :: 42 :: 42 :: 180 :: 0 :: 100 :: 27 :: 46 :: 181 :: 1 :: ds39acX11_mays_1
theorem dt39acX11_mays_0 : cX11_mays.data.toList.drop 0 = ds39acX11_mays_0 := by decide +kernel
theorem dt39acX11_mays_1 : cX11_mays.data.toList.drop 16 = ds39acX11_mays_1 := dq_suf 16 dt39acX11_mays_0 rfl rfl
theorem dt39acX11_mays_2 : cX11_mays.data.toList.drop 32 = ds39acX11_mays_2 := dq_suf 16 dt39acX11_mays_1 rfl rfl
theorem dt39acX11_mays_3 : cX11_mays.data.toList.drop 48 = ds39acX11_mays_3 := dq_suf 16 dt39acX11_mays_2 rfl rfl
theorem dt39acX11_mays_4 : cX11_mays.data.toList.drop 64 = ds39acX11_mays_4 := dq_suf 16 dt39acX11_mays_3 rfl rfl
theorem dt39acX11_mays_5 : cX11_mays.data.toList.drop 80 = ds39acX11_mays_5 := dq_suf 16 dt39acX11_mays_4 rfl rfl
theorem dt39acX11_mays_6 : cX11_mays.data.toList.drop 96 = ds39acX11_mays_6 := dq_suf 16 dt39acX11_mays_5 rfl rfl
theorem dt39acX11_mays_7 : cX11_mays.data.toList.drop 112 = ds39acX11_mays_7 := dq_suf 16 dt39acX11_mays_6 rfl rfl
theorem dt39acX11_mays_8 : cX11_mays.data.toList.drop 128 = ds39acX11_mays_8 := dq_suf 16 dt39acX11_mays_7 rfl rfl
theorem dt39acX11_mays_9 : cX11_mays.data.toList.drop 144 = ds39acX11_mays_9 := dq_suf 16 dt39acX11_mays_8 rfl rfl
theorem dt39acX11_mays_10 : cX11_mays.data.toList.drop 160 = ds39acX11_mays_10 := dq_suf 16 dt39acX11_mays_9 rfl rfl
theorem dt39acX11_mays_11 : cX11_mays.data.toList.drop 176 = ds39acX11_mays_11 := dq_suf 16 dt39acX11_mays_10 rfl rfl
theorem dX11_mays_0 : decode cX11_mays 0 = .ok (.aload_n 0, 1) := dq_42 (dq_suf 0 dt39acX11_mays_0 rfl rfl)
theorem dX11_mays_1 : decode cX11_mays 1 = .ok (.getfield 292, 3) := dq_180 (dq_suf 1 dt39acX11_mays_0 rfl rfl) rfl
theorem dX11_mays_4 : decode cX11_mays 4 = .ok (.iconst 1, 1) := dq_4 (dq_suf 4 dt39acX11_mays_0 rfl rfl)
theorem dX11_mays_5 : decode cX11_mays 5 = .ok (.isub, 1) := dq_100 (dq_suf 5 dt39acX11_mays_0 rfl rfl)
theorem dX11_mays_6 : decode cX11_mays 6 = .ok (.istore_n 1, 1) := dq_60 (dq_suf 6 dt39acX11_mays_0 rfl rfl)
theorem dX11_mays_7 : decode cX11_mays 7 = .ok (.aload_n 0, 1) := dq_42 (dq_suf 7 dt39acX11_mays_0 rfl rfl)
theorem dX11_mays_8 : decode cX11_mays 8 = .ok (.aload_n 0, 1) := dq_42 (dq_suf 8 dt39acX11_mays_0 rfl rfl)
theorem dX11_mays_9 : decode cX11_mays 9 = .ok (.getfield 100, 3) := dq_180 (dq_suf 9 dt39acX11_mays_0 rfl rfl) rfl
theorem dX11_mays_12 : decode cX11_mays 12 = .ok (.iload_n 1, 1) := dq_27 (dq_suf 12 dt39acX11_mays_0 rfl rfl)
theorem dX11_mays_13 : decode cX11_mays 13 = .ok (.iaload, 1) := dq_46 (dq_suf 13 dt39acX11_mays_0 rfl rfl)
theorem dX11_mays_14 : decode cX11_mays 14 = .ok (.putfield 295, 3) := dq_181 (dq_suf 14 dt39acX11_mays_0 rfl rfl) rfl
theorem dX11_mays_17 : decode cX11_mays 17 = .ok (.aload_n 0, 1) := dq_42 (dq_suf 1 dt39acX11_mays_1 rfl rfl)
theorem dX11_mays_18 : decode cX11_mays 18 = .ok (.getfield 109, 3) := dq_180 (dq_suf 2 dt39acX11_mays_1 rfl rfl) rfl
theorem dX11_mays_21 : decode cX11_mays 21 = .ok (.bipush 10, 2) := dq_16 (dq_suf 5 dt39acX11_mays_1 rfl rfl) (by decide +kernel)
theorem dX11_mays_23 : decode cX11_mays 23 = .ok (.iload_n 1, 1) := dq_27 (dq_suf 7 dt39acX11_mays_1 rfl rfl)
theorem dX11_mays_24 : decode cX11_mays 24 = .ok (.imul, 1) := dq_104 (dq_suf 8 dt39acX11_mays_1 rfl rfl)
theorem dX11_mays_25 : decode cX11_mays 25 = .ok (.aload_n 0, 1) := dq_42 (dq_suf 9 dt39acX11_mays_1 rfl rfl)
theorem dX11_mays_26 : decode cX11_mays 26 = .ok (.getfield 69, 3) := dq_180 (dq_suf 10 dt39acX11_mays_1 rfl rfl) rfl
theorem dX11_mays_29 : decode cX11_mays 29 = .ok (.iconst 0, 1) := dq_3 (dq_suf 13 dt39acX11_mays_1 rfl rfl)
theorem dX11_mays_30 : decode cX11_mays 30 = .ok (.invokestatic 301, 3) := dq_184 (dq_suf 14 dt39acX11_mays_1 rfl rfl) rfl
theorem dX11_mays_33 : decode cX11_mays 33 = .ok (.aload_n 0, 1) := dq_42 (dq_suf 1 dt39acX11_mays_2 rfl rfl)
theorem dX11_mays_34 : decode cX11_mays 34 = .ok (.aload_n 0, 1) := dq_42 (dq_suf 2 dt39acX11_mays_2 rfl rfl)
theorem dX11_mays_35 : decode cX11_mays 35 = .ok (.getfield 106, 3) := dq_180 (dq_suf 3 dt39acX11_mays_2 rfl rfl) rfl
theorem dX11_mays_38 : decode cX11_mays 38 = .ok (.iload_n 1, 1) := dq_27 (dq_suf 6 dt39acX11_mays_2 rfl rfl)
theorem dX11_mays_39 : decode cX11_mays 39 = .ok (.iaload, 1) := dq_46 (dq_suf 7 dt39acX11_mays_2 rfl rfl)
theorem dX11_mays_40 : decode cX11_mays 40 = .ok (.putfield 289, 3) := dq_181 (dq_suf 8 dt39acX11_mays_2 rfl rfl) rfl
theorem dX11_mays_43 : decode cX11_mays 43 = .ok (.aload_n 0, 1) := dq_42 (dq_suf 11 dt39acX11_mays_2 rfl rfl)
theorem dX11_mays_44 : decode cX11_mays 44 = .ok (.aload_n 0, 1) := dq_42 (dq_suf 12 dt39acX11_mays_2 rfl rfl)
theorem dX11_mays_45 : decode cX11_mays 45 = .ok (.getfield 97, 3) := dq_180 (dq_suf 13 dt39acX11_mays_2 rfl rfl) rfl
theorem dX11_mays_48 : decode cX11_mays 48 = .ok (.iload_n 1, 1) := dq_27 (dq_suf 0 dt39acX11_mays_3 rfl rfl)
theorem dX11_mays_49 : decode cX11_mays 49 = .ok (.iaload, 1) := dq_46 (dq_suf 1 dt39acX11_mays_3 rfl rfl)
theorem dX11_mays_50 : decode cX11_mays 50 = .ok (.invokevirtual 341, 3) := dq_182 (dq_suf 2 dt39acX11_mays_3 rfl rfl) rfl
theorem dX11_mays_53 : decode cX11_mays 53 = .ok (.istore_n 2, 1) := dq_61 (dq_suf 5 dt39acX11_mays_3 rfl rfl)
theorem dX11_mays_54 : decode cX11_mays 54 = .ok (.iload_n 2, 1) := dq_28 (dq_suf 6 dt39acX11_mays_3 rfl rfl)
theorem dX11_mays_55 : decode cX11_mays 55 = .ok (.iconst (-1), 1) := dq_2 (dq_suf 7 dt39acX11_mays_3 rfl rfl)
theorem dX11_mays_56 : decode cX11_mays 56 = .ok (.if_icmp .eq 119, 3) := dq_159 (dq_suf 8 dt39acX11_mays_3 rfl rfl) (by decide +kernel)
theorem dX11_mays_59 : decode cX11_mays 59 = .ok (.aload_n 0, 1) := dq_42 (dq_suf 11 dt39acX11_mays_3 rfl rfl)
theorem dX11_mays_60 : decode cX11_mays 60 = .ok (.getfield 97, 3) := dq_180 (dq_suf 12 dt39acX11_mays_3 rfl rfl) rfl
theorem dX11_mays_63 : decode cX11_mays 63 = .ok (.iload_n 1, 1) := dq_27 (dq_suf 15 dt39acX11_mays_3 rfl rfl)
theorem dX11_mays_64 : decode cX11_mays 64 = .ok (.iload_n 2, 1) := dq_28 (dq_suf 0 dt39acX11_mays_4 rfl rfl)
theorem dX11_mays_65 : decode cX11_mays 65 = .ok (.iastore, 1) := dq_79 (dq_suf 1 dt39acX11_mays_4 rfl rfl)
theorem dX11_mays_66 : decode cX11_mays 66 = .ok (.aload_n 0, 1) := dq_42 (dq_suf 2 dt39acX11_mays_4 rfl rfl)
theorem dX11_mays_67 : decode cX11_mays 67 = .ok (.invokevirtual 321, 3) := dq_182 (dq_suf 3 dt39acX11_mays_4 rfl rfl) rfl
theorem dX11_mays_70 : decode cX11_mays 70 = .ok (.ifCond .ne 5, 3) := dq_154 (dq_suf 6 dt39acX11_mays_4 rfl rfl) (by decide +kernel)
theorem dX11_mays_73 : decode cX11_mays 73 = .ok (.iconst 0, 1) := dq_3 (dq_suf 9 dt39acX11_mays_4 rfl rfl)
theorem dX11_mays_74 : decode cX11_mays 74 = .ok (.ireturn, 1) := dq_172 (dq_suf 10 dt39acX11_mays_4 rfl rfl)
theorem dX11_mays_75 : decode cX11_mays 75 = .ok (.aload_n 0, 1) := dq_42 (dq_suf 11 dt39acX11_mays_4 rfl rfl)
theorem dX11_mays_76 : decode cX11_mays 76 = .ok (.iload_n 2, 1) := dq_28 (dq_suf 12 dt39acX11_mays_4 rfl rfl)
theorem dX11_mays_77 : decode cX11_mays 77 = .ok (.invokevirtual 344, 3) := dq_182 (dq_suf 13 dt39acX11_mays_4 rfl rfl) rfl
theorem dX11_mays_80 : decode cX11_mays 80 = .ok (.aload_n 0, 1) := dq_42 (dq_suf 0 dt39acX11_mays_5 rfl rfl)
theorem dX11_mays_81 : decode cX11_mays 81 = .ok (.invokevirtual 347, 3) := dq_182 (dq_suf 1 dt39acX11_mays_5 rfl rfl) rfl
theorem dX11_mays_84 : decode cX11_mays 84 = .ok (.istore_n 3, 1) := dq_62 (dq_suf 4 dt39acX11_mays_5 rfl rfl)
theorem dX11_mays_85 : decode cX11_mays 85 = .ok (.iload_n 3, 1) := dq_29 (dq_suf 5 dt39acX11_mays_5 rfl rfl)
theorem dX11_mays_86 : decode cX11_mays 86 = .ok (.iconst (-1), 1) := dq_2 (dq_suf 6 dt39acX11_mays_5 rfl rfl)
theorem dX11_mays_87 : decode cX11_mays 87 = .ok (.if_icmp .ne 54, 3) := dq_160 (dq_suf 7 dt39acX11_mays_5 rfl rfl) (by decide +kernel)
theorem dX11_mays_90 : decode cX11_mays 90 = .ok (.aload_n 0, 1) := dq_42 (dq_suf 10 dt39acX11_mays_5 rfl rfl)
theorem dX11_mays_91 : decode cX11_mays 91 = .ok (.iconst 4, 1) := dq_7 (dq_suf 11 dt39acX11_mays_5 rfl rfl)
theorem dX11_mays_92 : decode cX11_mays 92 = .ok (.iload_n 2, 1) := dq_28 (dq_suf 12 dt39acX11_mays_5 rfl rfl)
theorem dX11_mays_93 : decode cX11_mays 93 = .ok (.invokevirtual 314, 3) := dq_182 (dq_suf 13 dt39acX11_mays_5 rfl rfl) rfl
theorem dX11_mays_96 : decode cX11_mays 96 = .ok (.ifCond .ne 5, 3) := dq_154 (dq_suf 0 dt39acX11_mays_6 rfl rfl) (by decide +kernel)
theorem dX11_mays_99 : decode cX11_mays 99 = .ok (.iconst 0, 1) := dq_3 (dq_suf 3 dt39acX11_mays_6 rfl rfl)
theorem dX11_mays_100 : decode cX11_mays 100 = .ok (.ireturn, 1) := dq_172 (dq_suf 4 dt39acX11_mays_6 rfl rfl)
theorem dX11_mays_101 : decode cX11_mays 101 = .ok (.aload_n 0, 1) := dq_42 (dq_suf 5 dt39acX11_mays_6 rfl rfl)
theorem dX11_mays_102 : decode cX11_mays 102 = .ok (.getfield 298, 3) := dq_180 (dq_suf 6 dt39acX11_mays_6 rfl rfl) rfl
theorem dX11_mays_105 : decode cX11_mays 105 = .ok (.bipush 60, 2) := dq_16 (dq_suf 9 dt39acX11_mays_6 rfl rfl) (by decide +kernel)
theorem dX11_mays_107 : decode cX11_mays 107 = .ok (.if_icmp .ne 11, 3) := dq_160 (dq_suf 11 dt39acX11_mays_6 rfl rfl) (by decide +kernel)
theorem dX11_mays_110 : decode cX11_mays 110 = .ok (.aload_n 0, 1) := dq_42 (dq_suf 14 dt39acX11_mays_6 rfl rfl)
theorem dX11_mays_111 : decode cX11_mays 111 = .ok (.bipush (-4), 2) := dq_16 (dq_suf 15 dt39acX11_mays_6 rfl rfl) (by decide +kernel)
theorem dX11_mays_113 : decode cX11_mays 113 = .ok (.putfield 286, 3) := dq_181 (dq_suf 1 dt39acX11_mays_7 rfl rfl) rfl
theorem dX11_mays_116 : decode cX11_mays 116 = .ok (.iconst 0, 1) := dq_3 (dq_suf 4 dt39acX11_mays_7 rfl rfl)
theorem dX11_mays_117 : decode cX11_mays 117 = .ok (.ireturn, 1) := dq_172 (dq_suf 5 dt39acX11_mays_7 rfl rfl)
theorem dX11_mays_118 : decode cX11_mays 118 = .ok (.aload_n 0, 1) := dq_42 (dq_suf 6 dt39acX11_mays_7 rfl rfl)
theorem dX11_mays_119 : decode cX11_mays 119 = .ok (.getfield 112, 3) := dq_180 (dq_suf 7 dt39acX11_mays_7 rfl rfl) rfl
theorem dX11_mays_122 : decode cX11_mays 122 = .ok (.iconst 0, 1) := dq_3 (dq_suf 10 dt39acX11_mays_7 rfl rfl)
theorem dX11_mays_123 : decode cX11_mays 123 = .ok (.aload_n 0, 1) := dq_42 (dq_suf 11 dt39acX11_mays_7 rfl rfl)
theorem dX11_mays_124 : decode cX11_mays 124 = .ok (.getfield 69, 3) := dq_180 (dq_suf 12 dt39acX11_mays_7 rfl rfl) rfl
theorem dX11_mays_127 : decode cX11_mays 127 = .ok (.iconst 0, 1) := dq_3 (dq_suf 15 dt39acX11_mays_7 rfl rfl)
theorem dX11_mays_128 : decode cX11_mays 128 = .ok (.invokestatic 301, 3) := dq_184 (dq_suf 0 dt39acX11_mays_8 rfl rfl) rfl
theorem dX11_mays_131 : decode cX11_mays 131 = .ok (.aload_n 0, 1) := dq_42 (dq_suf 3 dt39acX11_mays_8 rfl rfl)
theorem dX11_mays_132 : decode cX11_mays 132 = .ok (.aload_n 0, 1) := dq_42 (dq_suf 4 dt39acX11_mays_8 rfl rfl)
theorem dX11_mays_133 : decode cX11_mays 133 = .ok (.getfield 295, 3) := dq_180 (dq_suf 5 dt39acX11_mays_8 rfl rfl) rfl
theorem dX11_mays_136 : decode cX11_mays 136 = .ok (.invokevirtual 350, 3) := dq_182 (dq_suf 8 dt39acX11_mays_8 rfl rfl) rfl
theorem dX11_mays_139 : decode cX11_mays 139 = .ok (.iconst 1, 1) := dq_4 (dq_suf 11 dt39acX11_mays_8 rfl rfl)
theorem dX11_mays_140 : decode cX11_mays 140 = .ok (.ireturn, 1) := dq_172 (dq_suf 12 dt39acX11_mays_8 rfl rfl)
theorem dX11_mays_141 : decode cX11_mays 141 = .ok (.aload_n 0, 1) := dq_42 (dq_suf 13 dt39acX11_mays_8 rfl rfl)
theorem dX11_mays_142 : decode cX11_mays 142 = .ok (.dup, 1) := dq_89 (dq_suf 14 dt39acX11_mays_8 rfl rfl)
theorem dX11_mays_143 : decode cX11_mays 143 = .ok (.getfield 353, 3) := dq_180 (dq_suf 15 dt39acX11_mays_8 rfl rfl) rfl
theorem dX11_mays_146 : decode cX11_mays 146 = .ok (.iconst 1, 1) := dq_4 (dq_suf 2 dt39acX11_mays_9 rfl rfl)
theorem dX11_mays_147 : decode cX11_mays 147 = .ok (.iadd, 1) := dq_96 (dq_suf 3 dt39acX11_mays_9 rfl rfl)
theorem dX11_mays_148 : decode cX11_mays 148 = .ok (.putfield 353, 3) := dq_181 (dq_suf 4 dt39acX11_mays_9 rfl rfl) rfl
theorem dX11_mays_151 : decode cX11_mays 151 = .ok (.aload_n 0, 1) := dq_42 (dq_suf 7 dt39acX11_mays_9 rfl rfl)
theorem dX11_mays_152 : decode cX11_mays 152 = .ok (.getfield 84, 3) := dq_180 (dq_suf 8 dt39acX11_mays_9 rfl rfl) rfl
theorem dX11_mays_155 : decode cX11_mays 155 = .ok (.bipush 60, 2) := dq_16 (dq_suf 11 dt39acX11_mays_9 rfl rfl) (by decide +kernel)
theorem dX11_mays_157 : decode cX11_mays 157 = .ok (.aload_n 0, 1) := dq_42 (dq_suf 13 dt39acX11_mays_9 rfl rfl)
theorem dX11_mays_158 : decode cX11_mays 158 = .ok (.getfield 295, 3) := dq_180 (dq_suf 14 dt39acX11_mays_9 rfl rfl) rfl
theorem dX11_mays_161 : decode cX11_mays 161 = .ok (.imul, 1) := dq_104 (dq_suf 1 dt39acX11_mays_10 rfl rfl)
theorem dX11_mays_162 : decode cX11_mays 162 = .ok (.iload_n 3, 1) := dq_29 (dq_suf 2 dt39acX11_mays_10 rfl rfl)
theorem dX11_mays_163 : decode cX11_mays 163 = .ok (.iadd, 1) := dq_96 (dq_suf 3 dt39acX11_mays_10 rfl rfl)
theorem dX11_mays_164 : decode cX11_mays 164 = .ok (.iconst 1, 1) := dq_4 (dq_suf 4 dt39acX11_mays_10 rfl rfl)
theorem dX11_mays_165 : decode cX11_mays 165 = .ok (.bastore, 1) := dq_84 (dq_suf 5 dt39acX11_mays_10 rfl rfl)
theorem dX11_mays_166 : decode cX11_mays 166 = .ok (.aload_n 0, 1) := dq_42 (dq_suf 6 dt39acX11_mays_10 rfl rfl)
theorem dX11_mays_167 : decode cX11_mays 167 = .ok (.iload_n 2, 1) := dq_28 (dq_suf 7 dt39acX11_mays_10 rfl rfl)
theorem dX11_mays_168 : decode cX11_mays 168 = .ok (.invokevirtual 341, 3) := dq_182 (dq_suf 8 dt39acX11_mays_10 rfl rfl) rfl
theorem dX11_mays_171 : decode cX11_mays 171 = .ok (.istore_n 2, 1) := dq_61 (dq_suf 11 dt39acX11_mays_10 rfl rfl)
theorem dX11_mays_172 : decode cX11_mays 172 = .ok (.goto (-118), 3) := dq_167 (dq_suf 12 dt39acX11_mays_10 rfl rfl) (by decide +kernel)
theorem dX11_mays_175 : decode cX11_mays 175 = .ok (.iconst 0, 1) := dq_3 (dq_suf 15 dt39acX11_mays_10 rfl rfl)
theorem dX11_mays_176 : decode cX11_mays 176 = .ok (.ireturn, 1) := dq_172 (dq_suf 0 dt39acX11_mays_11 rfl rfl)
noncomputable def ds39acX11_closed_7 : List UInt8 := 184 :: 1 :: 68 :: 4 :: 172 :: 3 :: 172 :: []
noncomputable def ds39acX11_closed_6 : List UInt8 := 69 :: 3 :: 42 :: 180 :: 0 :: 23 :: 42 :: 180 :: 0 :: 97 :: 42 :: 180 :: 1 :: 36 :: 46 :: 46 :: ds39acX11_closed_7
noncomputable def ds39acX11_closed_5 : List UInt8 := 3 :: 184 :: 1 :: 45 :: 42 :: 182 :: 1 :: 65 :: 154 :: 0 :: 5 :: 3 :: 172 :: 42 :: 180 :: 0 :: ds39acX11_closed_6
noncomputable def ds39acX11_closed_4 : List UInt8 := 82 :: 42 :: 180 :: 0 :: 109 :: 16 :: 10 :: 42 :: 180 :: 1 :: 36 :: 104 :: 42 :: 180 :: 0 :: 69 :: ds39acX11_closed_5
noncomputable def ds39acX11_closed_3 : List UInt8 := 180 :: 1 :: 36 :: 51 :: 153 :: 255 :: 204 :: 42 :: 89 :: 180 :: 1 :: 82 :: 4 :: 100 :: 181 :: 1 :: ds39acX11_closed_4
noncomputable def ds39acX11_closed_2 : List UInt8 := 180 :: 0 :: 100 :: 42 :: 180 :: 1 :: 36 :: 46 :: 181 :: 1 :: 39 :: 42 :: 180 :: 0 :: 94 :: 42 :: ds39acX11_closed_3
noncomputable def ds39acX11_closed_1 : List UInt8 := 36 :: 42 :: 42 :: 180 :: 0 :: 103 :: 42 :: 180 :: 1 :: 36 :: 46 :: 181 :: 1 :: 42 :: 42 :: 42 :: ds39acX11_closed_2
noncomputable def ds39acX11_closed_0 : List UInt8 := 42 :: 180 :: 1 :: 36 :: 158 :: 0 :: 113 :: 42 :: 89 :: 180 :: 1 :: 36 :: 4 :: 100 :: 181 :: 1 :: ds39acX11_closed_1
theorem dt39acX11_closed_0 : cX11_closed.data.toList.drop 0 = ds39acX11_closed_0 := by decide +kernel
theorem dt39acX11_closed_1 : cX11_closed.data.toList.drop 16 = ds39acX11_closed_1 := dq_suf 16 dt39acX11_closed_0 rfl rfl
theorem dt39acX11_closed_2 : cX11_closed.data.toList.drop 32 = ds39acX11_closed_2 := dq_suf 16 dt39acX11_closed_1 rfl rfl
theorem dt39acX11_closed_3 : cX11_closed.data.toList.drop 48 = ds39acX11_closed_3 := dq_suf 16 dt39acX11_closed_2 rfl rfl
theorem dt39acX11_closed_4 : cX11_closed.data.toList.drop 64 = ds39acX11_closed_4 := dq_suf 16 dt39acX11_closed_3 rfl rfl
theorem dt39acX11_closed_5 : cX11_closed.data.toList.drop 80 = ds39acX11_closed_5 := dq_suf 16 dt39acX11_closed_4 rfl rfl
theorem dt39acX11_closed_6 : cX11_closed.data.toList.drop 96 = ds39acX11_closed_6 := dq_suf 16 dt39acX11_closed_5 rfl rfl
theorem dt39acX11_closed_7 : cX11_closed.data.toList.drop 112 = ds39acX11_closed_7 := dq_suf 16 dt39acX11_closed_6 rfl rfl
theorem dX11_closed_0 : decode cX11_closed 0 = .ok (.aload_n 0, 1) := dq_42 (dq_suf 0 dt39acX11_closed_0 rfl rfl)
theorem dX11_closed_1 : decode cX11_closed 1 = .ok (.getfield 292, 3) := dq_180 (dq_suf 1 dt39acX11_closed_0 rfl rfl) rfl
theorem dX11_closed_4 : decode cX11_closed 4 = .ok (.ifCond .le 113, 3) := dq_158 (dq_suf 4 dt39acX11_closed_0 rfl rfl) (by decide +kernel)
theorem dX11_closed_7 : decode cX11_closed 7 = .ok (.aload_n 0, 1) := dq_42 (dq_suf 7 dt39acX11_closed_0 rfl rfl)
theorem dX11_closed_8 : decode cX11_closed 8 = .ok (.dup, 1) := dq_89 (dq_suf 8 dt39acX11_closed_0 rfl rfl)
theorem dX11_closed_9 : decode cX11_closed 9 = .ok (.getfield 292, 3) := dq_180 (dq_suf 9 dt39acX11_closed_0 rfl rfl) rfl
theorem dX11_closed_12 : decode cX11_closed 12 = .ok (.iconst 1, 1) := dq_4 (dq_suf 12 dt39acX11_closed_0 rfl rfl)
theorem dX11_closed_13 : decode cX11_closed 13 = .ok (.isub, 1) := dq_100 (dq_suf 13 dt39acX11_closed_0 rfl rfl)
theorem dX11_closed_14 : decode cX11_closed 14 = .ok (.putfield 292, 3) := dq_181 (dq_suf 14 dt39acX11_closed_0 rfl rfl) rfl
theorem dX11_closed_17 : decode cX11_closed 17 = .ok (.aload_n 0, 1) := dq_42 (dq_suf 1 dt39acX11_closed_1 rfl rfl)
theorem dX11_closed_18 : decode cX11_closed 18 = .ok (.aload_n 0, 1) := dq_42 (dq_suf 2 dt39acX11_closed_1 rfl rfl)
theorem dX11_closed_19 : decode cX11_closed 19 = .ok (.getfield 103, 3) := dq_180 (dq_suf 3 dt39acX11_closed_1 rfl rfl) rfl
theorem dX11_closed_22 : decode cX11_closed 22 = .ok (.aload_n 0, 1) := dq_42 (dq_suf 6 dt39acX11_closed_1 rfl rfl)
theorem dX11_closed_23 : decode cX11_closed 23 = .ok (.getfield 292, 3) := dq_180 (dq_suf 7 dt39acX11_closed_1 rfl rfl) rfl
theorem dX11_closed_26 : decode cX11_closed 26 = .ok (.iaload, 1) := dq_46 (dq_suf 10 dt39acX11_closed_1 rfl rfl)
theorem dX11_closed_27 : decode cX11_closed 27 = .ok (.putfield 298, 3) := dq_181 (dq_suf 11 dt39acX11_closed_1 rfl rfl) rfl
theorem dX11_closed_30 : decode cX11_closed 30 = .ok (.aload_n 0, 1) := dq_42 (dq_suf 14 dt39acX11_closed_1 rfl rfl)
theorem dX11_closed_31 : decode cX11_closed 31 = .ok (.aload_n 0, 1) := dq_42 (dq_suf 15 dt39acX11_closed_1 rfl rfl)
theorem dX11_closed_32 : decode cX11_closed 32 = .ok (.getfield 100, 3) := dq_180 (dq_suf 0 dt39acX11_closed_2 rfl rfl) rfl
theorem dX11_closed_35 : decode cX11_closed 35 = .ok (.aload_n 0, 1) := dq_42 (dq_suf 3 dt39acX11_closed_2 rfl rfl)
theorem dX11_closed_36 : decode cX11_closed 36 = .ok (.getfield 292, 3) := dq_180 (dq_suf 4 dt39acX11_closed_2 rfl rfl) rfl
theorem dX11_closed_39 : decode cX11_closed 39 = .ok (.iaload, 1) := dq_46 (dq_suf 7 dt39acX11_closed_2 rfl rfl)
theorem dX11_closed_40 : decode cX11_closed 40 = .ok (.putfield 295, 3) := dq_181 (dq_suf 8 dt39acX11_closed_2 rfl rfl) rfl
theorem dX11_closed_43 : decode cX11_closed 43 = .ok (.aload_n 0, 1) := dq_42 (dq_suf 11 dt39acX11_closed_2 rfl rfl)
theorem dX11_closed_44 : decode cX11_closed 44 = .ok (.getfield 94, 3) := dq_180 (dq_suf 12 dt39acX11_closed_2 rfl rfl) rfl
theorem dX11_closed_47 : decode cX11_closed 47 = .ok (.aload_n 0, 1) := dq_42 (dq_suf 15 dt39acX11_closed_2 rfl rfl)
theorem dX11_closed_48 : decode cX11_closed 48 = .ok (.getfield 292, 3) := dq_180 (dq_suf 0 dt39acX11_closed_3 rfl rfl) rfl
theorem dX11_closed_51 : decode cX11_closed 51 = .ok (.baload, 1) := dq_51 (dq_suf 3 dt39acX11_closed_3 rfl rfl)
theorem dX11_closed_52 : decode cX11_closed 52 = .ok (.ifCond .eq (-52), 3) := dq_153 (dq_suf 4 dt39acX11_closed_3 rfl rfl) (by decide +kernel)
theorem dX11_closed_55 : decode cX11_closed 55 = .ok (.aload_n 0, 1) := dq_42 (dq_suf 7 dt39acX11_closed_3 rfl rfl)
theorem dX11_closed_56 : decode cX11_closed 56 = .ok (.dup, 1) := dq_89 (dq_suf 8 dt39acX11_closed_3 rfl rfl)
theorem dX11_closed_57 : decode cX11_closed 57 = .ok (.getfield 338, 3) := dq_180 (dq_suf 9 dt39acX11_closed_3 rfl rfl) rfl
theorem dX11_closed_60 : decode cX11_closed 60 = .ok (.iconst 1, 1) := dq_4 (dq_suf 12 dt39acX11_closed_3 rfl rfl)
theorem dX11_closed_61 : decode cX11_closed 61 = .ok (.isub, 1) := dq_100 (dq_suf 13 dt39acX11_closed_3 rfl rfl)
theorem dX11_closed_62 : decode cX11_closed 62 = .ok (.putfield 338, 3) := dq_181 (dq_suf 14 dt39acX11_closed_3 rfl rfl) rfl
theorem dX11_closed_65 : decode cX11_closed 65 = .ok (.aload_n 0, 1) := dq_42 (dq_suf 1 dt39acX11_closed_4 rfl rfl)
theorem dX11_closed_66 : decode cX11_closed 66 = .ok (.getfield 109, 3) := dq_180 (dq_suf 2 dt39acX11_closed_4 rfl rfl) rfl
theorem dX11_closed_69 : decode cX11_closed 69 = .ok (.bipush 10, 2) := dq_16 (dq_suf 5 dt39acX11_closed_4 rfl rfl) (by decide +kernel)
theorem dX11_closed_71 : decode cX11_closed 71 = .ok (.aload_n 0, 1) := dq_42 (dq_suf 7 dt39acX11_closed_4 rfl rfl)
theorem dX11_closed_72 : decode cX11_closed 72 = .ok (.getfield 292, 3) := dq_180 (dq_suf 8 dt39acX11_closed_4 rfl rfl) rfl
theorem dX11_closed_75 : decode cX11_closed 75 = .ok (.imul, 1) := dq_104 (dq_suf 11 dt39acX11_closed_4 rfl rfl)
theorem dX11_closed_76 : decode cX11_closed 76 = .ok (.aload_n 0, 1) := dq_42 (dq_suf 12 dt39acX11_closed_4 rfl rfl)
theorem dX11_closed_77 : decode cX11_closed 77 = .ok (.getfield 69, 3) := dq_180 (dq_suf 13 dt39acX11_closed_4 rfl rfl) rfl
theorem dX11_closed_80 : decode cX11_closed 80 = .ok (.iconst 0, 1) := dq_3 (dq_suf 0 dt39acX11_closed_5 rfl rfl)
theorem dX11_closed_81 : decode cX11_closed 81 = .ok (.invokestatic 301, 3) := dq_184 (dq_suf 1 dt39acX11_closed_5 rfl rfl) rfl
theorem dX11_closed_84 : decode cX11_closed 84 = .ok (.aload_n 0, 1) := dq_42 (dq_suf 4 dt39acX11_closed_5 rfl rfl)
theorem dX11_closed_85 : decode cX11_closed 85 = .ok (.invokevirtual 321, 3) := dq_182 (dq_suf 5 dt39acX11_closed_5 rfl rfl) rfl
theorem dX11_closed_88 : decode cX11_closed 88 = .ok (.ifCond .ne 5, 3) := dq_154 (dq_suf 8 dt39acX11_closed_5 rfl rfl) (by decide +kernel)
theorem dX11_closed_91 : decode cX11_closed 91 = .ok (.iconst 0, 1) := dq_3 (dq_suf 11 dt39acX11_closed_5 rfl rfl)
theorem dX11_closed_92 : decode cX11_closed 92 = .ok (.ireturn, 1) := dq_172 (dq_suf 12 dt39acX11_closed_5 rfl rfl)
theorem dX11_closed_93 : decode cX11_closed 93 = .ok (.aload_n 0, 1) := dq_42 (dq_suf 13 dt39acX11_closed_5 rfl rfl)
theorem dX11_closed_94 : decode cX11_closed 94 = .ok (.getfield 69, 3) := dq_180 (dq_suf 14 dt39acX11_closed_5 rfl rfl) rfl
theorem dX11_closed_97 : decode cX11_closed 97 = .ok (.iconst 0, 1) := dq_3 (dq_suf 1 dt39acX11_closed_6 rfl rfl)
theorem dX11_closed_98 : decode cX11_closed 98 = .ok (.aload_n 0, 1) := dq_42 (dq_suf 2 dt39acX11_closed_6 rfl rfl)
theorem dX11_closed_99 : decode cX11_closed 99 = .ok (.getfield 23, 3) := dq_180 (dq_suf 3 dt39acX11_closed_6 rfl rfl) rfl
theorem dX11_closed_102 : decode cX11_closed 102 = .ok (.aload_n 0, 1) := dq_42 (dq_suf 6 dt39acX11_closed_6 rfl rfl)
theorem dX11_closed_103 : decode cX11_closed 103 = .ok (.getfield 97, 3) := dq_180 (dq_suf 7 dt39acX11_closed_6 rfl rfl) rfl
theorem dX11_closed_106 : decode cX11_closed 106 = .ok (.aload_n 0, 1) := dq_42 (dq_suf 10 dt39acX11_closed_6 rfl rfl)
theorem dX11_closed_107 : decode cX11_closed 107 = .ok (.getfield 292, 3) := dq_180 (dq_suf 11 dt39acX11_closed_6 rfl rfl) rfl
theorem dX11_closed_110 : decode cX11_closed 110 = .ok (.iaload, 1) := dq_46 (dq_suf 14 dt39acX11_closed_6 rfl rfl)
theorem dX11_closed_111 : decode cX11_closed 111 = .ok (.iaload, 1) := dq_46 (dq_suf 15 dt39acX11_closed_6 rfl rfl)
theorem dX11_closed_112 : decode cX11_closed 112 = .ok (.invokestatic 324, 3) := dq_184 (dq_suf 0 dt39acX11_closed_7 rfl rfl) rfl
theorem dX11_closed_115 : decode cX11_closed 115 = .ok (.iconst 1, 1) := dq_4 (dq_suf 3 dt39acX11_closed_7 rfl rfl)
theorem dX11_closed_116 : decode cX11_closed 116 = .ok (.ireturn, 1) := dq_172 (dq_suf 4 dt39acX11_closed_7 rfl rfl)
theorem dX11_closed_117 : decode cX11_closed 117 = .ok (.iconst 0, 1) := dq_3 (dq_suf 5 dt39acX11_closed_7 rfl rfl)
theorem dX11_closed_118 : decode cX11_closed 118 = .ok (.ireturn, 1) := dq_172 (dq_suf 6 dt39acX11_closed_7 rfl rfl)
noncomputable def ds39acX11_opened_6 : List UInt8 := 1 :: 36 :: 4 :: 100 :: 46 :: 104 :: 27 :: 96 :: 4 :: 84 :: 4 :: 172 :: []
noncomputable def ds39acX11_opened_5 : List UInt8 := 0 :: 5 :: 3 :: 172 :: 42 :: 180 :: 0 :: 84 :: 16 :: 60 :: 42 :: 180 :: 0 :: 100 :: 42 :: 180 :: ds39acX11_opened_6
noncomputable def ds39acX11_opened_4 : List UInt8 := 180 :: 1 :: 82 :: 4 :: 100 :: 181 :: 1 :: 82 :: 167 :: 255 :: 215 :: 42 :: 180 :: 1 :: 36 :: 154 :: ds39acX11_opened_5
noncomputable def ds39acX11_opened_3 : List UInt8 := 51 :: 153 :: 0 :: 26 :: 42 :: 89 :: 180 :: 1 :: 36 :: 4 :: 100 :: 181 :: 1 :: 36 :: 42 :: 89 :: ds39acX11_opened_4
noncomputable def ds39acX11_opened_2 : List UInt8 := 180 :: 1 :: 36 :: 158 :: 0 :: 40 :: 42 :: 180 :: 0 :: 94 :: 42 :: 180 :: 1 :: 36 :: 4 :: 100 :: ds39acX11_opened_3
noncomputable def ds39acX11_opened_1 : List UInt8 := 180 :: 0 :: 69 :: 3 :: 42 :: 180 :: 0 :: 75 :: 16 :: 10 :: 27 :: 104 :: 184 :: 1 :: 45 :: 42 :: ds39acX11_opened_2
noncomputable def ds39acX11_opened_0 : List UInt8 := 42 :: 89 :: 180 :: 1 :: 36 :: 4 :: 100 :: 181 :: 1 :: 36 :: 42 :: 180 :: 1 :: 39 :: 60 :: 42 :: ds39acX11_opened_1
theorem dt39acX11_opened_0 : cX11_opened.data.toList.drop 0 = ds39acX11_opened_0 := by decide +kernel
theorem dt39acX11_opened_1 : cX11_opened.data.toList.drop 16 = ds39acX11_opened_1 := dq_suf 16 dt39acX11_opened_0 rfl rfl
theorem dt39acX11_opened_2 : cX11_opened.data.toList.drop 32 = ds39acX11_opened_2 := dq_suf 16 dt39acX11_opened_1 rfl rfl
theorem dt39acX11_opened_3 : cX11_opened.data.toList.drop 48 = ds39acX11_opened_3 := dq_suf 16 dt39acX11_opened_2 rfl rfl
theorem dt39acX11_opened_4 : cX11_opened.data.toList.drop 64 = ds39acX11_opened_4 := dq_suf 16 dt39acX11_opened_3 rfl rfl
theorem dt39acX11_opened_5 : cX11_opened.data.toList.drop 80 = ds39acX11_opened_5 := dq_suf 16 dt39acX11_opened_4 rfl rfl
theorem dt39acX11_opened_6 : cX11_opened.data.toList.drop 96 = ds39acX11_opened_6 := dq_suf 16 dt39acX11_opened_5 rfl rfl
theorem dX11_opened_0 : decode cX11_opened 0 = .ok (.aload_n 0, 1) := dq_42 (dq_suf 0 dt39acX11_opened_0 rfl rfl)
theorem dX11_opened_1 : decode cX11_opened 1 = .ok (.dup, 1) := dq_89 (dq_suf 1 dt39acX11_opened_0 rfl rfl)
theorem dX11_opened_2 : decode cX11_opened 2 = .ok (.getfield 292, 3) := dq_180 (dq_suf 2 dt39acX11_opened_0 rfl rfl) rfl
theorem dX11_opened_5 : decode cX11_opened 5 = .ok (.iconst 1, 1) := dq_4 (dq_suf 5 dt39acX11_opened_0 rfl rfl)
theorem dX11_opened_6 : decode cX11_opened 6 = .ok (.isub, 1) := dq_100 (dq_suf 6 dt39acX11_opened_0 rfl rfl)
theorem dX11_opened_7 : decode cX11_opened 7 = .ok (.putfield 292, 3) := dq_181 (dq_suf 7 dt39acX11_opened_0 rfl rfl) rfl
theorem dX11_opened_10 : decode cX11_opened 10 = .ok (.aload_n 0, 1) := dq_42 (dq_suf 10 dt39acX11_opened_0 rfl rfl)
theorem dX11_opened_11 : decode cX11_opened 11 = .ok (.getfield 295, 3) := dq_180 (dq_suf 11 dt39acX11_opened_0 rfl rfl) rfl
theorem dX11_opened_14 : decode cX11_opened 14 = .ok (.istore_n 1, 1) := dq_60 (dq_suf 14 dt39acX11_opened_0 rfl rfl)
theorem dX11_opened_15 : decode cX11_opened 15 = .ok (.aload_n 0, 1) := dq_42 (dq_suf 15 dt39acX11_opened_0 rfl rfl)
theorem dX11_opened_16 : decode cX11_opened 16 = .ok (.getfield 69, 3) := dq_180 (dq_suf 0 dt39acX11_opened_1 rfl rfl) rfl
theorem dX11_opened_19 : decode cX11_opened 19 = .ok (.iconst 0, 1) := dq_3 (dq_suf 3 dt39acX11_opened_1 rfl rfl)
theorem dX11_opened_20 : decode cX11_opened 20 = .ok (.aload_n 0, 1) := dq_42 (dq_suf 4 dt39acX11_opened_1 rfl rfl)
theorem dX11_opened_21 : decode cX11_opened 21 = .ok (.getfield 75, 3) := dq_180 (dq_suf 5 dt39acX11_opened_1 rfl rfl) rfl
theorem dX11_opened_24 : decode cX11_opened 24 = .ok (.bipush 10, 2) := dq_16 (dq_suf 8 dt39acX11_opened_1 rfl rfl) (by decide +kernel)
theorem dX11_opened_26 : decode cX11_opened 26 = .ok (.iload_n 1, 1) := dq_27 (dq_suf 10 dt39acX11_opened_1 rfl rfl)
theorem dX11_opened_27 : decode cX11_opened 27 = .ok (.imul, 1) := dq_104 (dq_suf 11 dt39acX11_opened_1 rfl rfl)
theorem dX11_opened_28 : decode cX11_opened 28 = .ok (.invokestatic 301, 3) := dq_184 (dq_suf 12 dt39acX11_opened_1 rfl rfl) rfl
theorem dX11_opened_31 : decode cX11_opened 31 = .ok (.aload_n 0, 1) := dq_42 (dq_suf 15 dt39acX11_opened_1 rfl rfl)
theorem dX11_opened_32 : decode cX11_opened 32 = .ok (.getfield 292, 3) := dq_180 (dq_suf 0 dt39acX11_opened_2 rfl rfl) rfl
theorem dX11_opened_35 : decode cX11_opened 35 = .ok (.ifCond .le 40, 3) := dq_158 (dq_suf 3 dt39acX11_opened_2 rfl rfl) (by decide +kernel)
theorem dX11_opened_38 : decode cX11_opened 38 = .ok (.aload_n 0, 1) := dq_42 (dq_suf 6 dt39acX11_opened_2 rfl rfl)
theorem dX11_opened_39 : decode cX11_opened 39 = .ok (.getfield 94, 3) := dq_180 (dq_suf 7 dt39acX11_opened_2 rfl rfl) rfl
theorem dX11_opened_42 : decode cX11_opened 42 = .ok (.aload_n 0, 1) := dq_42 (dq_suf 10 dt39acX11_opened_2 rfl rfl)
theorem dX11_opened_43 : decode cX11_opened 43 = .ok (.getfield 292, 3) := dq_180 (dq_suf 11 dt39acX11_opened_2 rfl rfl) rfl
theorem dX11_opened_46 : decode cX11_opened 46 = .ok (.iconst 1, 1) := dq_4 (dq_suf 14 dt39acX11_opened_2 rfl rfl)
theorem dX11_opened_47 : decode cX11_opened 47 = .ok (.isub, 1) := dq_100 (dq_suf 15 dt39acX11_opened_2 rfl rfl)
theorem dX11_opened_48 : decode cX11_opened 48 = .ok (.baload, 1) := dq_51 (dq_suf 0 dt39acX11_opened_3 rfl rfl)
theorem dX11_opened_49 : decode cX11_opened 49 = .ok (.ifCond .eq 26, 3) := dq_153 (dq_suf 1 dt39acX11_opened_3 rfl rfl) (by decide +kernel)
theorem dX11_opened_52 : decode cX11_opened 52 = .ok (.aload_n 0, 1) := dq_42 (dq_suf 4 dt39acX11_opened_3 rfl rfl)
theorem dX11_opened_53 : decode cX11_opened 53 = .ok (.dup, 1) := dq_89 (dq_suf 5 dt39acX11_opened_3 rfl rfl)
theorem dX11_opened_54 : decode cX11_opened 54 = .ok (.getfield 292, 3) := dq_180 (dq_suf 6 dt39acX11_opened_3 rfl rfl) rfl
theorem dX11_opened_57 : decode cX11_opened 57 = .ok (.iconst 1, 1) := dq_4 (dq_suf 9 dt39acX11_opened_3 rfl rfl)
theorem dX11_opened_58 : decode cX11_opened 58 = .ok (.isub, 1) := dq_100 (dq_suf 10 dt39acX11_opened_3 rfl rfl)
theorem dX11_opened_59 : decode cX11_opened 59 = .ok (.putfield 292, 3) := dq_181 (dq_suf 11 dt39acX11_opened_3 rfl rfl) rfl
theorem dX11_opened_62 : decode cX11_opened 62 = .ok (.aload_n 0, 1) := dq_42 (dq_suf 14 dt39acX11_opened_3 rfl rfl)
theorem dX11_opened_63 : decode cX11_opened 63 = .ok (.dup, 1) := dq_89 (dq_suf 15 dt39acX11_opened_3 rfl rfl)
theorem dX11_opened_64 : decode cX11_opened 64 = .ok (.getfield 338, 3) := dq_180 (dq_suf 0 dt39acX11_opened_4 rfl rfl) rfl
theorem dX11_opened_67 : decode cX11_opened 67 = .ok (.iconst 1, 1) := dq_4 (dq_suf 3 dt39acX11_opened_4 rfl rfl)
theorem dX11_opened_68 : decode cX11_opened 68 = .ok (.isub, 1) := dq_100 (dq_suf 4 dt39acX11_opened_4 rfl rfl)
theorem dX11_opened_69 : decode cX11_opened 69 = .ok (.putfield 338, 3) := dq_181 (dq_suf 5 dt39acX11_opened_4 rfl rfl) rfl
theorem dX11_opened_72 : decode cX11_opened 72 = .ok (.goto (-41), 3) := dq_167 (dq_suf 8 dt39acX11_opened_4 rfl rfl) (by decide +kernel)
theorem dX11_opened_75 : decode cX11_opened 75 = .ok (.aload_n 0, 1) := dq_42 (dq_suf 11 dt39acX11_opened_4 rfl rfl)
theorem dX11_opened_76 : decode cX11_opened 76 = .ok (.getfield 292, 3) := dq_180 (dq_suf 12 dt39acX11_opened_4 rfl rfl) rfl
theorem dX11_opened_79 : decode cX11_opened 79 = .ok (.ifCond .ne 5, 3) := dq_154 (dq_suf 15 dt39acX11_opened_4 rfl rfl) (by decide +kernel)
theorem dX11_opened_82 : decode cX11_opened 82 = .ok (.iconst 0, 1) := dq_3 (dq_suf 2 dt39acX11_opened_5 rfl rfl)
theorem dX11_opened_83 : decode cX11_opened 83 = .ok (.ireturn, 1) := dq_172 (dq_suf 3 dt39acX11_opened_5 rfl rfl)
theorem dX11_opened_84 : decode cX11_opened 84 = .ok (.aload_n 0, 1) := dq_42 (dq_suf 4 dt39acX11_opened_5 rfl rfl)
theorem dX11_opened_85 : decode cX11_opened 85 = .ok (.getfield 84, 3) := dq_180 (dq_suf 5 dt39acX11_opened_5 rfl rfl) rfl
theorem dX11_opened_88 : decode cX11_opened 88 = .ok (.bipush 60, 2) := dq_16 (dq_suf 8 dt39acX11_opened_5 rfl rfl) (by decide +kernel)
theorem dX11_opened_90 : decode cX11_opened 90 = .ok (.aload_n 0, 1) := dq_42 (dq_suf 10 dt39acX11_opened_5 rfl rfl)
theorem dX11_opened_91 : decode cX11_opened 91 = .ok (.getfield 100, 3) := dq_180 (dq_suf 11 dt39acX11_opened_5 rfl rfl) rfl
theorem dX11_opened_94 : decode cX11_opened 94 = .ok (.aload_n 0, 1) := dq_42 (dq_suf 14 dt39acX11_opened_5 rfl rfl)
theorem dX11_opened_95 : decode cX11_opened 95 = .ok (.getfield 292, 3) := dq_180 (dq_suf 15 dt39acX11_opened_5 rfl rfl) rfl
theorem dX11_opened_98 : decode cX11_opened 98 = .ok (.iconst 1, 1) := dq_4 (dq_suf 2 dt39acX11_opened_6 rfl rfl)
theorem dX11_opened_99 : decode cX11_opened 99 = .ok (.isub, 1) := dq_100 (dq_suf 3 dt39acX11_opened_6 rfl rfl)
theorem dX11_opened_100 : decode cX11_opened 100 = .ok (.iaload, 1) := dq_46 (dq_suf 4 dt39acX11_opened_6 rfl rfl)
theorem dX11_opened_101 : decode cX11_opened 101 = .ok (.imul, 1) := dq_104 (dq_suf 5 dt39acX11_opened_6 rfl rfl)
theorem dX11_opened_102 : decode cX11_opened 102 = .ok (.iload_n 1, 1) := dq_27 (dq_suf 6 dt39acX11_opened_6 rfl rfl)
theorem dX11_opened_103 : decode cX11_opened 103 = .ok (.iadd, 1) := dq_96 (dq_suf 7 dt39acX11_opened_6 rfl rfl)
theorem dX11_opened_104 : decode cX11_opened 104 = .ok (.iconst 1, 1) := dq_4 (dq_suf 8 dt39acX11_opened_6 rfl rfl)
theorem dX11_opened_105 : decode cX11_opened 105 = .ok (.bastore, 1) := dq_84 (dq_suf 9 dt39acX11_opened_6 rfl rfl)
theorem dX11_opened_106 : decode cX11_opened 106 = .ok (.iconst 1, 1) := dq_4 (dq_suf 10 dt39acX11_opened_6 rfl rfl)
theorem dX11_opened_107 : decode cX11_opened 107 = .ok (.ireturn, 1) := dq_172 (dq_suf 11 dt39acX11_opened_6 rfl rfl)
noncomputable def ds39acX11_tableau_9 : List UInt8 := 1 :: 30 :: 172 :: 28 :: 154 :: 255 :: 190 :: 42 :: 182 :: 1 :: 109 :: 154 :: 255 :: 183 :: 3 :: 172 :: []
noncomputable def ds39acX11_tableau_8 : List UInt8 := 4 :: 172 :: 42 :: 182 :: 1 :: 106 :: 61 :: 42 :: 180 :: 1 :: 30 :: 153 :: 0 :: 8 :: 42 :: 180 :: ds39acX11_tableau_9
noncomputable def ds39acX11_tableau_7 : List UInt8 := 42 :: 180 :: 1 :: 30 :: 153 :: 0 :: 8 :: 42 :: 180 :: 1 :: 30 :: 172 :: 28 :: 154 :: 255 :: 213 :: ds39acX11_tableau_8
noncomputable def ds39acX11_tableau_6 : List UInt8 := 0 :: 8 :: 42 :: 180 :: 1 :: 30 :: 172 :: 29 :: 153 :: 0 :: 26 :: 42 :: 182 :: 1 :: 103 :: 61 :: ds39acX11_tableau_7
noncomputable def ds39acX11_tableau_5 : List UInt8 := 4 :: 61 :: 28 :: 153 :: 0 :: 47 :: 42 :: 182 :: 1 :: 100 :: 62 :: 42 :: 180 :: 1 :: 30 :: 153 :: ds39acX11_tableau_6
noncomputable def ds39acX11_tableau_4 : List UInt8 := 255 :: 240 :: 42 :: 180 :: 0 :: 69 :: 3 :: 27 :: 184 :: 1 :: 68 :: 42 :: 2 :: 182 :: 1 :: 94 :: ds39acX11_tableau_5
noncomputable def ds39acX11_tableau_3 : List UInt8 := 16 :: 10 :: 162 :: 0 :: 16 :: 42 :: 180 :: 0 :: 69 :: 28 :: 3 :: 79 :: 132 :: 2 :: 1 :: 167 :: ds39acX11_tableau_4
noncomputable def ds39acX11_tableau_2 : List UInt8 := 181 :: 1 :: 33 :: 42 :: 3 :: 181 :: 1 :: 36 :: 42 :: 3 :: 181 :: 1 :: 82 :: 3 :: 61 :: 28 :: ds39acX11_tableau_3
noncomputable def ds39acX11_tableau_1 : List UInt8 := 3 :: 181 :: 1 :: 52 :: 42 :: 3 :: 181 :: 1 :: 30 :: 42 :: 3 :: 181 :: 1 :: 42 :: 42 :: 3 :: ds39acX11_tableau_2
noncomputable def ds39acX11_tableau_0 : List UInt8 := 42 :: 3 :: 181 :: 1 :: 24 :: 42 :: 3 :: 181 :: 1 :: 49 :: 42 :: 3 :: 181 :: 1 :: 97 :: 42 :: ds39acX11_tableau_1
theorem dt39acX11_tableau_0 : cX11_tableau.data.toList.drop 0 = ds39acX11_tableau_0 := by decide +kernel
theorem dt39acX11_tableau_1 : cX11_tableau.data.toList.drop 16 = ds39acX11_tableau_1 := dq_suf 16 dt39acX11_tableau_0 rfl rfl
theorem dt39acX11_tableau_2 : cX11_tableau.data.toList.drop 32 = ds39acX11_tableau_2 := dq_suf 16 dt39acX11_tableau_1 rfl rfl
theorem dt39acX11_tableau_3 : cX11_tableau.data.toList.drop 48 = ds39acX11_tableau_3 := dq_suf 16 dt39acX11_tableau_2 rfl rfl
theorem dt39acX11_tableau_4 : cX11_tableau.data.toList.drop 64 = ds39acX11_tableau_4 := dq_suf 16 dt39acX11_tableau_3 rfl rfl
theorem dt39acX11_tableau_5 : cX11_tableau.data.toList.drop 80 = ds39acX11_tableau_5 := dq_suf 16 dt39acX11_tableau_4 rfl rfl
theorem dt39acX11_tableau_6 : cX11_tableau.data.toList.drop 96 = ds39acX11_tableau_6 := dq_suf 16 dt39acX11_tableau_5 rfl rfl
theorem dt39acX11_tableau_7 : cX11_tableau.data.toList.drop 112 = ds39acX11_tableau_7 := dq_suf 16 dt39acX11_tableau_6 rfl rfl
theorem dt39acX11_tableau_8 : cX11_tableau.data.toList.drop 128 = ds39acX11_tableau_8 := dq_suf 16 dt39acX11_tableau_7 rfl rfl
theorem dt39acX11_tableau_9 : cX11_tableau.data.toList.drop 144 = ds39acX11_tableau_9 := dq_suf 16 dt39acX11_tableau_8 rfl rfl
theorem dX11_tableau_0 : decode cX11_tableau 0 = .ok (.aload_n 0, 1) := dq_42 (dq_suf 0 dt39acX11_tableau_0 rfl rfl)
theorem dX11_tableau_1 : decode cX11_tableau 1 = .ok (.iconst 0, 1) := dq_3 (dq_suf 1 dt39acX11_tableau_0 rfl rfl)
theorem dX11_tableau_2 : decode cX11_tableau 2 = .ok (.putfield 280, 3) := dq_181 (dq_suf 2 dt39acX11_tableau_0 rfl rfl) rfl
theorem dX11_tableau_5 : decode cX11_tableau 5 = .ok (.aload_n 0, 1) := dq_42 (dq_suf 5 dt39acX11_tableau_0 rfl rfl)
theorem dX11_tableau_6 : decode cX11_tableau 6 = .ok (.iconst 0, 1) := dq_3 (dq_suf 6 dt39acX11_tableau_0 rfl rfl)
theorem dX11_tableau_7 : decode cX11_tableau 7 = .ok (.putfield 305, 3) := dq_181 (dq_suf 7 dt39acX11_tableau_0 rfl rfl) rfl
theorem dX11_tableau_10 : decode cX11_tableau 10 = .ok (.aload_n 0, 1) := dq_42 (dq_suf 10 dt39acX11_tableau_0 rfl rfl)
theorem dX11_tableau_11 : decode cX11_tableau 11 = .ok (.iconst 0, 1) := dq_3 (dq_suf 11 dt39acX11_tableau_0 rfl rfl)
theorem dX11_tableau_12 : decode cX11_tableau 12 = .ok (.putfield 353, 3) := dq_181 (dq_suf 12 dt39acX11_tableau_0 rfl rfl) rfl
theorem dX11_tableau_15 : decode cX11_tableau 15 = .ok (.aload_n 0, 1) := dq_42 (dq_suf 15 dt39acX11_tableau_0 rfl rfl)
theorem dX11_tableau_16 : decode cX11_tableau 16 = .ok (.iconst 0, 1) := dq_3 (dq_suf 0 dt39acX11_tableau_1 rfl rfl)
theorem dX11_tableau_17 : decode cX11_tableau 17 = .ok (.putfield 308, 3) := dq_181 (dq_suf 1 dt39acX11_tableau_1 rfl rfl) rfl
theorem dX11_tableau_20 : decode cX11_tableau 20 = .ok (.aload_n 0, 1) := dq_42 (dq_suf 4 dt39acX11_tableau_1 rfl rfl)
theorem dX11_tableau_21 : decode cX11_tableau 21 = .ok (.iconst 0, 1) := dq_3 (dq_suf 5 dt39acX11_tableau_1 rfl rfl)
theorem dX11_tableau_22 : decode cX11_tableau 22 = .ok (.putfield 286, 3) := dq_181 (dq_suf 6 dt39acX11_tableau_1 rfl rfl) rfl
theorem dX11_tableau_25 : decode cX11_tableau 25 = .ok (.aload_n 0, 1) := dq_42 (dq_suf 9 dt39acX11_tableau_1 rfl rfl)
theorem dX11_tableau_26 : decode cX11_tableau 26 = .ok (.iconst 0, 1) := dq_3 (dq_suf 10 dt39acX11_tableau_1 rfl rfl)
theorem dX11_tableau_27 : decode cX11_tableau 27 = .ok (.putfield 298, 3) := dq_181 (dq_suf 11 dt39acX11_tableau_1 rfl rfl) rfl
theorem dX11_tableau_30 : decode cX11_tableau 30 = .ok (.aload_n 0, 1) := dq_42 (dq_suf 14 dt39acX11_tableau_1 rfl rfl)
theorem dX11_tableau_31 : decode cX11_tableau 31 = .ok (.iconst 0, 1) := dq_3 (dq_suf 15 dt39acX11_tableau_1 rfl rfl)
theorem dX11_tableau_32 : decode cX11_tableau 32 = .ok (.putfield 289, 3) := dq_181 (dq_suf 0 dt39acX11_tableau_2 rfl rfl) rfl
theorem dX11_tableau_35 : decode cX11_tableau 35 = .ok (.aload_n 0, 1) := dq_42 (dq_suf 3 dt39acX11_tableau_2 rfl rfl)
theorem dX11_tableau_36 : decode cX11_tableau 36 = .ok (.iconst 0, 1) := dq_3 (dq_suf 4 dt39acX11_tableau_2 rfl rfl)
theorem dX11_tableau_37 : decode cX11_tableau 37 = .ok (.putfield 292, 3) := dq_181 (dq_suf 5 dt39acX11_tableau_2 rfl rfl) rfl
theorem dX11_tableau_40 : decode cX11_tableau 40 = .ok (.aload_n 0, 1) := dq_42 (dq_suf 8 dt39acX11_tableau_2 rfl rfl)
theorem dX11_tableau_41 : decode cX11_tableau 41 = .ok (.iconst 0, 1) := dq_3 (dq_suf 9 dt39acX11_tableau_2 rfl rfl)
theorem dX11_tableau_42 : decode cX11_tableau 42 = .ok (.putfield 338, 3) := dq_181 (dq_suf 10 dt39acX11_tableau_2 rfl rfl) rfl
theorem dX11_tableau_45 : decode cX11_tableau 45 = .ok (.iconst 0, 1) := dq_3 (dq_suf 13 dt39acX11_tableau_2 rfl rfl)
theorem dX11_tableau_46 : decode cX11_tableau 46 = .ok (.istore_n 2, 1) := dq_61 (dq_suf 14 dt39acX11_tableau_2 rfl rfl)
theorem dX11_tableau_47 : decode cX11_tableau 47 = .ok (.iload_n 2, 1) := dq_28 (dq_suf 15 dt39acX11_tableau_2 rfl rfl)
theorem dX11_tableau_48 : decode cX11_tableau 48 = .ok (.bipush 10, 2) := dq_16 (dq_suf 0 dt39acX11_tableau_3 rfl rfl) (by decide +kernel)
theorem dX11_tableau_50 : decode cX11_tableau 50 = .ok (.if_icmp .ge 16, 3) := dq_162 (dq_suf 2 dt39acX11_tableau_3 rfl rfl) (by decide +kernel)
theorem dX11_tableau_53 : decode cX11_tableau 53 = .ok (.aload_n 0, 1) := dq_42 (dq_suf 5 dt39acX11_tableau_3 rfl rfl)
theorem dX11_tableau_54 : decode cX11_tableau 54 = .ok (.getfield 69, 3) := dq_180 (dq_suf 6 dt39acX11_tableau_3 rfl rfl) rfl
theorem dX11_tableau_57 : decode cX11_tableau 57 = .ok (.iload_n 2, 1) := dq_28 (dq_suf 9 dt39acX11_tableau_3 rfl rfl)
theorem dX11_tableau_58 : decode cX11_tableau 58 = .ok (.iconst 0, 1) := dq_3 (dq_suf 10 dt39acX11_tableau_3 rfl rfl)
theorem dX11_tableau_59 : decode cX11_tableau 59 = .ok (.iastore, 1) := dq_79 (dq_suf 11 dt39acX11_tableau_3 rfl rfl)
theorem dX11_tableau_60 : decode cX11_tableau 60 = .ok (.iinc 2 1, 3) := dq_132 (dq_suf 12 dt39acX11_tableau_3 rfl rfl) rfl (by decide +kernel)
theorem dX11_tableau_63 : decode cX11_tableau 63 = .ok (.goto (-16), 3) := dq_167 (dq_suf 15 dt39acX11_tableau_3 rfl rfl) (by decide +kernel)
theorem dX11_tableau_66 : decode cX11_tableau 66 = .ok (.aload_n 0, 1) := dq_42 (dq_suf 2 dt39acX11_tableau_4 rfl rfl)
theorem dX11_tableau_67 : decode cX11_tableau 67 = .ok (.getfield 69, 3) := dq_180 (dq_suf 3 dt39acX11_tableau_4 rfl rfl) rfl
theorem dX11_tableau_70 : decode cX11_tableau 70 = .ok (.iconst 0, 1) := dq_3 (dq_suf 6 dt39acX11_tableau_4 rfl rfl)
theorem dX11_tableau_71 : decode cX11_tableau 71 = .ok (.iload_n 1, 1) := dq_27 (dq_suf 7 dt39acX11_tableau_4 rfl rfl)
theorem dX11_tableau_72 : decode cX11_tableau 72 = .ok (.invokestatic 324, 3) := dq_184 (dq_suf 8 dt39acX11_tableau_4 rfl rfl) rfl
theorem dX11_tableau_75 : decode cX11_tableau 75 = .ok (.aload_n 0, 1) := dq_42 (dq_suf 11 dt39acX11_tableau_4 rfl rfl)
theorem dX11_tableau_76 : decode cX11_tableau 76 = .ok (.iconst (-1), 1) := dq_2 (dq_suf 12 dt39acX11_tableau_4 rfl rfl)
theorem dX11_tableau_77 : decode cX11_tableau 77 = .ok (.invokevirtual 350, 3) := dq_182 (dq_suf 13 dt39acX11_tableau_4 rfl rfl) rfl
theorem dX11_tableau_80 : decode cX11_tableau 80 = .ok (.iconst 1, 1) := dq_4 (dq_suf 0 dt39acX11_tableau_5 rfl rfl)
theorem dX11_tableau_81 : decode cX11_tableau 81 = .ok (.istore_n 2, 1) := dq_61 (dq_suf 1 dt39acX11_tableau_5 rfl rfl)
theorem dX11_tableau_82 : decode cX11_tableau 82 = .ok (.iload_n 2, 1) := dq_28 (dq_suf 2 dt39acX11_tableau_5 rfl rfl)
theorem dX11_tableau_83 : decode cX11_tableau 83 = .ok (.ifCond .eq 47, 3) := dq_153 (dq_suf 3 dt39acX11_tableau_5 rfl rfl) (by decide +kernel)
theorem dX11_tableau_86 : decode cX11_tableau 86 = .ok (.aload_n 0, 1) := dq_42 (dq_suf 6 dt39acX11_tableau_5 rfl rfl)
theorem dX11_tableau_87 : decode cX11_tableau 87 = .ok (.invokevirtual 356, 3) := dq_182 (dq_suf 7 dt39acX11_tableau_5 rfl rfl) rfl
theorem dX11_tableau_90 : decode cX11_tableau 90 = .ok (.istore_n 3, 1) := dq_62 (dq_suf 10 dt39acX11_tableau_5 rfl rfl)
theorem dX11_tableau_91 : decode cX11_tableau 91 = .ok (.aload_n 0, 1) := dq_42 (dq_suf 11 dt39acX11_tableau_5 rfl rfl)
theorem dX11_tableau_92 : decode cX11_tableau 92 = .ok (.getfield 286, 3) := dq_180 (dq_suf 12 dt39acX11_tableau_5 rfl rfl) rfl
theorem dX11_tableau_95 : decode cX11_tableau 95 = .ok (.ifCond .eq 8, 3) := dq_153 (dq_suf 15 dt39acX11_tableau_5 rfl rfl) (by decide +kernel)
theorem dX11_tableau_98 : decode cX11_tableau 98 = .ok (.aload_n 0, 1) := dq_42 (dq_suf 2 dt39acX11_tableau_6 rfl rfl)
theorem dX11_tableau_99 : decode cX11_tableau 99 = .ok (.getfield 286, 3) := dq_180 (dq_suf 3 dt39acX11_tableau_6 rfl rfl) rfl
theorem dX11_tableau_102 : decode cX11_tableau 102 = .ok (.ireturn, 1) := dq_172 (dq_suf 6 dt39acX11_tableau_6 rfl rfl)
theorem dX11_tableau_103 : decode cX11_tableau 103 = .ok (.iload_n 3, 1) := dq_29 (dq_suf 7 dt39acX11_tableau_6 rfl rfl)
theorem dX11_tableau_104 : decode cX11_tableau 104 = .ok (.ifCond .eq 26, 3) := dq_153 (dq_suf 8 dt39acX11_tableau_6 rfl rfl) (by decide +kernel)
theorem dX11_tableau_107 : decode cX11_tableau 107 = .ok (.aload_n 0, 1) := dq_42 (dq_suf 11 dt39acX11_tableau_6 rfl rfl)
theorem dX11_tableau_108 : decode cX11_tableau 108 = .ok (.invokevirtual 359, 3) := dq_182 (dq_suf 12 dt39acX11_tableau_6 rfl rfl) rfl
theorem dX11_tableau_111 : decode cX11_tableau 111 = .ok (.istore_n 2, 1) := dq_61 (dq_suf 15 dt39acX11_tableau_6 rfl rfl)
theorem dX11_tableau_112 : decode cX11_tableau 112 = .ok (.aload_n 0, 1) := dq_42 (dq_suf 0 dt39acX11_tableau_7 rfl rfl)
theorem dX11_tableau_113 : decode cX11_tableau 113 = .ok (.getfield 286, 3) := dq_180 (dq_suf 1 dt39acX11_tableau_7 rfl rfl) rfl
theorem dX11_tableau_116 : decode cX11_tableau 116 = .ok (.ifCond .eq 8, 3) := dq_153 (dq_suf 4 dt39acX11_tableau_7 rfl rfl) (by decide +kernel)
theorem dX11_tableau_119 : decode cX11_tableau 119 = .ok (.aload_n 0, 1) := dq_42 (dq_suf 7 dt39acX11_tableau_7 rfl rfl)
theorem dX11_tableau_120 : decode cX11_tableau 120 = .ok (.getfield 286, 3) := dq_180 (dq_suf 8 dt39acX11_tableau_7 rfl rfl) rfl
theorem dX11_tableau_123 : decode cX11_tableau 123 = .ok (.ireturn, 1) := dq_172 (dq_suf 11 dt39acX11_tableau_7 rfl rfl)
theorem dX11_tableau_124 : decode cX11_tableau 124 = .ok (.iload_n 2, 1) := dq_28 (dq_suf 12 dt39acX11_tableau_7 rfl rfl)
theorem dX11_tableau_125 : decode cX11_tableau 125 = .ok (.ifCond .ne (-43), 3) := dq_154 (dq_suf 13 dt39acX11_tableau_7 rfl rfl) (by decide +kernel)
theorem dX11_tableau_128 : decode cX11_tableau 128 = .ok (.iconst 1, 1) := dq_4 (dq_suf 0 dt39acX11_tableau_8 rfl rfl)
theorem dX11_tableau_129 : decode cX11_tableau 129 = .ok (.ireturn, 1) := dq_172 (dq_suf 1 dt39acX11_tableau_8 rfl rfl)
theorem dX11_tableau_130 : decode cX11_tableau 130 = .ok (.aload_n 0, 1) := dq_42 (dq_suf 2 dt39acX11_tableau_8 rfl rfl)
theorem dX11_tableau_131 : decode cX11_tableau 131 = .ok (.invokevirtual 362, 3) := dq_182 (dq_suf 3 dt39acX11_tableau_8 rfl rfl) rfl
theorem dX11_tableau_134 : decode cX11_tableau 134 = .ok (.istore_n 2, 1) := dq_61 (dq_suf 6 dt39acX11_tableau_8 rfl rfl)
theorem dX11_tableau_135 : decode cX11_tableau 135 = .ok (.aload_n 0, 1) := dq_42 (dq_suf 7 dt39acX11_tableau_8 rfl rfl)
theorem dX11_tableau_136 : decode cX11_tableau 136 = .ok (.getfield 286, 3) := dq_180 (dq_suf 8 dt39acX11_tableau_8 rfl rfl) rfl
theorem dX11_tableau_139 : decode cX11_tableau 139 = .ok (.ifCond .eq 8, 3) := dq_153 (dq_suf 11 dt39acX11_tableau_8 rfl rfl) (by decide +kernel)
theorem dX11_tableau_142 : decode cX11_tableau 142 = .ok (.aload_n 0, 1) := dq_42 (dq_suf 14 dt39acX11_tableau_8 rfl rfl)
theorem dX11_tableau_143 : decode cX11_tableau 143 = .ok (.getfield 286, 3) := dq_180 (dq_suf 15 dt39acX11_tableau_8 rfl rfl) rfl
theorem dX11_tableau_146 : decode cX11_tableau 146 = .ok (.ireturn, 1) := dq_172 (dq_suf 2 dt39acX11_tableau_9 rfl rfl)
theorem dX11_tableau_147 : decode cX11_tableau 147 = .ok (.iload_n 2, 1) := dq_28 (dq_suf 3 dt39acX11_tableau_9 rfl rfl)
theorem dX11_tableau_148 : decode cX11_tableau 148 = .ok (.ifCond .ne (-66), 3) := dq_154 (dq_suf 4 dt39acX11_tableau_9 rfl rfl) (by decide +kernel)
theorem dX11_tableau_151 : decode cX11_tableau 151 = .ok (.aload_n 0, 1) := dq_42 (dq_suf 7 dt39acX11_tableau_9 rfl rfl)
theorem dX11_tableau_152 : decode cX11_tableau 152 = .ok (.invokevirtual 365, 3) := dq_182 (dq_suf 8 dt39acX11_tableau_9 rfl rfl) rfl
theorem dX11_tableau_155 : decode cX11_tableau 155 = .ok (.ifCond .ne (-73), 3) := dq_154 (dq_suf 11 dt39acX11_tableau_9 rfl rfl) (by decide +kernel)
theorem dX11_tableau_158 : decode cX11_tableau 158 = .ok (.iconst 0, 1) := dq_3 (dq_suf 14 dt39acX11_tableau_9 rfl rfl)
theorem dX11_tableau_159 : decode cX11_tableau 159 = .ok (.ireturn, 1) := dq_172 (dq_suf 15 dt39acX11_tableau_9 rfl rfl)
noncomputable def ds39acX11_prove_8 : List UInt8 := 0 :: 12 :: 42 :: 3 :: 181 :: 1 :: 116 :: 42 :: 182 :: 1 :: 125 :: 29 :: 172 :: []
noncomputable def ds39acX11_prove_7 : List UInt8 := 91 :: 21 :: 4 :: 46 :: 79 :: 132 :: 4 :: 1 :: 167 :: 255 :: 216 :: 167 :: 0 :: 16 :: 29 :: 154 :: ds39acX11_prove_8
noncomputable def ds39acX11_prove_6 : List UInt8 := 180 :: 0 :: 88 :: 21 :: 4 :: 46 :: 79 :: 42 :: 180 :: 0 :: 118 :: 21 :: 4 :: 42 :: 180 :: 0 :: ds39acX11_prove_7
noncomputable def ds39acX11_prove_5 : List UInt8 := 21 :: 4 :: 42 :: 180 :: 1 :: 33 :: 162 :: 0 :: 37 :: 42 :: 180 :: 0 :: 115 :: 21 :: 4 :: 42 :: ds39acX11_prove_6
noncomputable def ds39acX11_prove_4 : List UInt8 := 42 :: 3 :: 181 :: 1 :: 119 :: 42 :: 42 :: 180 :: 1 :: 33 :: 181 :: 1 :: 122 :: 3 :: 54 :: 4 :: ds39acX11_prove_5
noncomputable def ds39acX11_prove_3 : List UInt8 := 27 :: 46 :: 182 :: 1 :: 113 :: 62 :: 29 :: 4 :: 160 :: 0 :: 70 :: 42 :: 4 :: 181 :: 1 :: 116 :: ds39acX11_prove_4
noncomputable def ds39acX11_prove_2 : List UInt8 := 161 :: 154 :: 0 :: 5 :: 2 :: 172 :: 42 :: 28 :: 181 :: 1 :: 27 :: 42 :: 42 :: 180 :: 0 :: 33 :: ds39acX11_prove_3
noncomputable def ds39acX11_prove_1 : List UInt8 := 180 :: 0 :: 30 :: 27 :: 46 :: 2 :: 159 :: 0 :: 14 :: 28 :: 4 :: 19 :: 1 :: 112 :: 184 :: 0 :: ds39acX11_prove_2
noncomputable def ds39acX11_prove_0 : List UInt8 := 42 :: 3 :: 181 :: 0 :: 151 :: 27 :: 3 :: 16 :: 7 :: 184 :: 0 :: 161 :: 153 :: 0 :: 24 :: 42 :: ds39acX11_prove_1
theorem dt39acX11_prove_0 : cX11_prove.data.toList.drop 0 = ds39acX11_prove_0 := by decide +kernel
theorem dt39acX11_prove_1 : cX11_prove.data.toList.drop 16 = ds39acX11_prove_1 := dq_suf 16 dt39acX11_prove_0 rfl rfl
theorem dt39acX11_prove_2 : cX11_prove.data.toList.drop 32 = ds39acX11_prove_2 := dq_suf 16 dt39acX11_prove_1 rfl rfl
theorem dt39acX11_prove_3 : cX11_prove.data.toList.drop 48 = ds39acX11_prove_3 := dq_suf 16 dt39acX11_prove_2 rfl rfl
theorem dt39acX11_prove_4 : cX11_prove.data.toList.drop 64 = ds39acX11_prove_4 := dq_suf 16 dt39acX11_prove_3 rfl rfl
theorem dt39acX11_prove_5 : cX11_prove.data.toList.drop 80 = ds39acX11_prove_5 := dq_suf 16 dt39acX11_prove_4 rfl rfl
theorem dt39acX11_prove_6 : cX11_prove.data.toList.drop 96 = ds39acX11_prove_6 := dq_suf 16 dt39acX11_prove_5 rfl rfl
theorem dt39acX11_prove_7 : cX11_prove.data.toList.drop 112 = ds39acX11_prove_7 := dq_suf 16 dt39acX11_prove_6 rfl rfl
theorem dt39acX11_prove_8 : cX11_prove.data.toList.drop 128 = ds39acX11_prove_8 := dq_suf 16 dt39acX11_prove_7 rfl rfl
theorem dX11_prove_0 : decode cX11_prove 0 = .ok (.aload_n 0, 1) := dq_42 (dq_suf 0 dt39acX11_prove_0 rfl rfl)
theorem dX11_prove_1 : decode cX11_prove 1 = .ok (.iconst 0, 1) := dq_3 (dq_suf 1 dt39acX11_prove_0 rfl rfl)
theorem dX11_prove_2 : decode cX11_prove 2 = .ok (.putfield 151, 3) := dq_181 (dq_suf 2 dt39acX11_prove_0 rfl rfl) rfl
theorem dX11_prove_5 : decode cX11_prove 5 = .ok (.iload_n 1, 1) := dq_27 (dq_suf 5 dt39acX11_prove_0 rfl rfl)
theorem dX11_prove_6 : decode cX11_prove 6 = .ok (.iconst 0, 1) := dq_3 (dq_suf 6 dt39acX11_prove_0 rfl rfl)
theorem dX11_prove_7 : decode cX11_prove 7 = .ok (.bipush 7, 2) := dq_16 (dq_suf 7 dt39acX11_prove_0 rfl rfl) (by decide +kernel)
theorem dX11_prove_9 : decode cX11_prove 9 = .ok (.invokestatic 161, 3) := dq_184 (dq_suf 9 dt39acX11_prove_0 rfl rfl) rfl
theorem dX11_prove_12 : decode cX11_prove 12 = .ok (.ifCond .eq 24, 3) := dq_153 (dq_suf 12 dt39acX11_prove_0 rfl rfl) (by decide +kernel)
theorem dX11_prove_15 : decode cX11_prove 15 = .ok (.aload_n 0, 1) := dq_42 (dq_suf 15 dt39acX11_prove_0 rfl rfl)
theorem dX11_prove_16 : decode cX11_prove 16 = .ok (.getfield 30, 3) := dq_180 (dq_suf 0 dt39acX11_prove_1 rfl rfl) rfl
theorem dX11_prove_19 : decode cX11_prove 19 = .ok (.iload_n 1, 1) := dq_27 (dq_suf 3 dt39acX11_prove_1 rfl rfl)
theorem dX11_prove_20 : decode cX11_prove 20 = .ok (.iaload, 1) := dq_46 (dq_suf 4 dt39acX11_prove_1 rfl rfl)
theorem dX11_prove_21 : decode cX11_prove 21 = .ok (.iconst (-1), 1) := dq_2 (dq_suf 5 dt39acX11_prove_1 rfl rfl)
theorem dX11_prove_22 : decode cX11_prove 22 = .ok (.if_icmp .eq 14, 3) := dq_159 (dq_suf 6 dt39acX11_prove_1 rfl rfl) (by decide +kernel)
theorem dX11_prove_25 : decode cX11_prove 25 = .ok (.iload_n 2, 1) := dq_28 (dq_suf 9 dt39acX11_prove_1 rfl rfl)
theorem dX11_prove_26 : decode cX11_prove 26 = .ok (.iconst 1, 1) := dq_4 (dq_suf 10 dt39acX11_prove_1 rfl rfl)
theorem dX11_prove_27 : decode cX11_prove 27 = .ok (.ldc_w 368, 3) := dq_19 (dq_suf 11 dt39acX11_prove_1 rfl rfl) rfl
theorem dX11_prove_30 : decode cX11_prove 30 = .ok (.invokestatic 161, 3) := dq_184 (dq_suf 14 dt39acX11_prove_1 rfl rfl) rfl
theorem dX11_prove_33 : decode cX11_prove 33 = .ok (.ifCond .ne 5, 3) := dq_154 (dq_suf 1 dt39acX11_prove_2 rfl rfl) (by decide +kernel)
theorem dX11_prove_36 : decode cX11_prove 36 = .ok (.iconst (-1), 1) := dq_2 (dq_suf 4 dt39acX11_prove_2 rfl rfl)
theorem dX11_prove_37 : decode cX11_prove 37 = .ok (.ireturn, 1) := dq_172 (dq_suf 5 dt39acX11_prove_2 rfl rfl)
theorem dX11_prove_38 : decode cX11_prove 38 = .ok (.aload_n 0, 1) := dq_42 (dq_suf 6 dt39acX11_prove_2 rfl rfl)
theorem dX11_prove_39 : decode cX11_prove 39 = .ok (.iload_n 2, 1) := dq_28 (dq_suf 7 dt39acX11_prove_2 rfl rfl)
theorem dX11_prove_40 : decode cX11_prove 40 = .ok (.putfield 283, 3) := dq_181 (dq_suf 8 dt39acX11_prove_2 rfl rfl) rfl
theorem dX11_prove_43 : decode cX11_prove 43 = .ok (.aload_n 0, 1) := dq_42 (dq_suf 11 dt39acX11_prove_2 rfl rfl)
theorem dX11_prove_44 : decode cX11_prove 44 = .ok (.aload_n 0, 1) := dq_42 (dq_suf 12 dt39acX11_prove_2 rfl rfl)
theorem dX11_prove_45 : decode cX11_prove 45 = .ok (.getfield 33, 3) := dq_180 (dq_suf 13 dt39acX11_prove_2 rfl rfl) rfl
theorem dX11_prove_48 : decode cX11_prove 48 = .ok (.iload_n 1, 1) := dq_27 (dq_suf 0 dt39acX11_prove_3 rfl rfl)
theorem dX11_prove_49 : decode cX11_prove 49 = .ok (.iaload, 1) := dq_46 (dq_suf 1 dt39acX11_prove_3 rfl rfl)
theorem dX11_prove_50 : decode cX11_prove 50 = .ok (.invokevirtual 369, 3) := dq_182 (dq_suf 2 dt39acX11_prove_3 rfl rfl) rfl
theorem dX11_prove_53 : decode cX11_prove 53 = .ok (.istore_n 3, 1) := dq_62 (dq_suf 5 dt39acX11_prove_3 rfl rfl)
theorem dX11_prove_54 : decode cX11_prove 54 = .ok (.iload_n 3, 1) := dq_29 (dq_suf 6 dt39acX11_prove_3 rfl rfl)
theorem dX11_prove_55 : decode cX11_prove 55 = .ok (.iconst 1, 1) := dq_4 (dq_suf 7 dt39acX11_prove_3 rfl rfl)
theorem dX11_prove_56 : decode cX11_prove 56 = .ok (.if_icmp .ne 70, 3) := dq_160 (dq_suf 8 dt39acX11_prove_3 rfl rfl) (by decide +kernel)
theorem dX11_prove_59 : decode cX11_prove 59 = .ok (.aload_n 0, 1) := dq_42 (dq_suf 11 dt39acX11_prove_3 rfl rfl)
theorem dX11_prove_60 : decode cX11_prove 60 = .ok (.iconst 1, 1) := dq_4 (dq_suf 12 dt39acX11_prove_3 rfl rfl)
theorem dX11_prove_61 : decode cX11_prove 61 = .ok (.putfield 372, 3) := dq_181 (dq_suf 13 dt39acX11_prove_3 rfl rfl) rfl
theorem dX11_prove_64 : decode cX11_prove 64 = .ok (.aload_n 0, 1) := dq_42 (dq_suf 0 dt39acX11_prove_4 rfl rfl)
theorem dX11_prove_65 : decode cX11_prove 65 = .ok (.iconst 0, 1) := dq_3 (dq_suf 1 dt39acX11_prove_4 rfl rfl)
theorem dX11_prove_66 : decode cX11_prove 66 = .ok (.putfield 375, 3) := dq_181 (dq_suf 2 dt39acX11_prove_4 rfl rfl) rfl
theorem dX11_prove_69 : decode cX11_prove 69 = .ok (.aload_n 0, 1) := dq_42 (dq_suf 5 dt39acX11_prove_4 rfl rfl)
theorem dX11_prove_70 : decode cX11_prove 70 = .ok (.aload_n 0, 1) := dq_42 (dq_suf 6 dt39acX11_prove_4 rfl rfl)
theorem dX11_prove_71 : decode cX11_prove 71 = .ok (.getfield 289, 3) := dq_180 (dq_suf 7 dt39acX11_prove_4 rfl rfl) rfl
theorem dX11_prove_74 : decode cX11_prove 74 = .ok (.putfield 378, 3) := dq_181 (dq_suf 10 dt39acX11_prove_4 rfl rfl) rfl
theorem dX11_prove_77 : decode cX11_prove 77 = .ok (.iconst 0, 1) := dq_3 (dq_suf 13 dt39acX11_prove_4 rfl rfl)
theorem dX11_prove_78 : decode cX11_prove 78 = .ok (.istore 4, 2) := dq_54 (dq_suf 14 dt39acX11_prove_4 rfl rfl) rfl
theorem dX11_prove_80 : decode cX11_prove 80 = .ok (.iload 4, 2) := dq_21 (dq_suf 0 dt39acX11_prove_5 rfl rfl) rfl
theorem dX11_prove_82 : decode cX11_prove 82 = .ok (.aload_n 0, 1) := dq_42 (dq_suf 2 dt39acX11_prove_5 rfl rfl)
theorem dX11_prove_83 : decode cX11_prove 83 = .ok (.getfield 289, 3) := dq_180 (dq_suf 3 dt39acX11_prove_5 rfl rfl) rfl
theorem dX11_prove_86 : decode cX11_prove 86 = .ok (.if_icmp .ge 37, 3) := dq_162 (dq_suf 6 dt39acX11_prove_5 rfl rfl) (by decide +kernel)
theorem dX11_prove_89 : decode cX11_prove 89 = .ok (.aload_n 0, 1) := dq_42 (dq_suf 9 dt39acX11_prove_5 rfl rfl)
theorem dX11_prove_90 : decode cX11_prove 90 = .ok (.getfield 115, 3) := dq_180 (dq_suf 10 dt39acX11_prove_5 rfl rfl) rfl
theorem dX11_prove_93 : decode cX11_prove 93 = .ok (.iload 4, 2) := dq_21 (dq_suf 13 dt39acX11_prove_5 rfl rfl) rfl
theorem dX11_prove_95 : decode cX11_prove 95 = .ok (.aload_n 0, 1) := dq_42 (dq_suf 15 dt39acX11_prove_5 rfl rfl)
theorem dX11_prove_96 : decode cX11_prove 96 = .ok (.getfield 88, 3) := dq_180 (dq_suf 0 dt39acX11_prove_6 rfl rfl) rfl
theorem dX11_prove_99 : decode cX11_prove 99 = .ok (.iload 4, 2) := dq_21 (dq_suf 3 dt39acX11_prove_6 rfl rfl) rfl
theorem dX11_prove_101 : decode cX11_prove 101 = .ok (.iaload, 1) := dq_46 (dq_suf 5 dt39acX11_prove_6 rfl rfl)
theorem dX11_prove_102 : decode cX11_prove 102 = .ok (.iastore, 1) := dq_79 (dq_suf 6 dt39acX11_prove_6 rfl rfl)
theorem dX11_prove_103 : decode cX11_prove 103 = .ok (.aload_n 0, 1) := dq_42 (dq_suf 7 dt39acX11_prove_6 rfl rfl)
theorem dX11_prove_104 : decode cX11_prove 104 = .ok (.getfield 118, 3) := dq_180 (dq_suf 8 dt39acX11_prove_6 rfl rfl) rfl
theorem dX11_prove_107 : decode cX11_prove 107 = .ok (.iload 4, 2) := dq_21 (dq_suf 11 dt39acX11_prove_6 rfl rfl) rfl
theorem dX11_prove_109 : decode cX11_prove 109 = .ok (.aload_n 0, 1) := dq_42 (dq_suf 13 dt39acX11_prove_6 rfl rfl)
theorem dX11_prove_110 : decode cX11_prove 110 = .ok (.getfield 91, 3) := dq_180 (dq_suf 14 dt39acX11_prove_6 rfl rfl) rfl
theorem dX11_prove_113 : decode cX11_prove 113 = .ok (.iload 4, 2) := dq_21 (dq_suf 1 dt39acX11_prove_7 rfl rfl) rfl
theorem dX11_prove_115 : decode cX11_prove 115 = .ok (.iaload, 1) := dq_46 (dq_suf 3 dt39acX11_prove_7 rfl rfl)
theorem dX11_prove_116 : decode cX11_prove 116 = .ok (.iastore, 1) := dq_79 (dq_suf 4 dt39acX11_prove_7 rfl rfl)
theorem dX11_prove_117 : decode cX11_prove 117 = .ok (.iinc 4 1, 3) := dq_132 (dq_suf 5 dt39acX11_prove_7 rfl rfl) rfl (by decide +kernel)
theorem dX11_prove_120 : decode cX11_prove 120 = .ok (.goto (-40), 3) := dq_167 (dq_suf 8 dt39acX11_prove_7 rfl rfl) (by decide +kernel)
theorem dX11_prove_123 : decode cX11_prove 123 = .ok (.goto 16, 3) := dq_167 (dq_suf 11 dt39acX11_prove_7 rfl rfl) (by decide +kernel)
theorem dX11_prove_126 : decode cX11_prove 126 = .ok (.iload_n 3, 1) := dq_29 (dq_suf 14 dt39acX11_prove_7 rfl rfl)
theorem dX11_prove_127 : decode cX11_prove 127 = .ok (.ifCond .ne 12, 3) := dq_154 (dq_suf 15 dt39acX11_prove_7 rfl rfl) (by decide +kernel)
theorem dX11_prove_130 : decode cX11_prove 130 = .ok (.aload_n 0, 1) := dq_42 (dq_suf 2 dt39acX11_prove_8 rfl rfl)
theorem dX11_prove_131 : decode cX11_prove 131 = .ok (.iconst 0, 1) := dq_3 (dq_suf 3 dt39acX11_prove_8 rfl rfl)
theorem dX11_prove_132 : decode cX11_prove 132 = .ok (.putfield 372, 3) := dq_181 (dq_suf 4 dt39acX11_prove_8 rfl rfl) rfl
theorem dX11_prove_135 : decode cX11_prove 135 = .ok (.aload_n 0, 1) := dq_42 (dq_suf 7 dt39acX11_prove_8 rfl rfl)
theorem dX11_prove_136 : decode cX11_prove 136 = .ok (.invokevirtual 381, 3) := dq_182 (dq_suf 8 dt39acX11_prove_8 rfl rfl) rfl
theorem dX11_prove_139 : decode cX11_prove 139 = .ok (.iload_n 3, 1) := dq_29 (dq_suf 11 dt39acX11_prove_8 rfl rfl)
theorem dX11_prove_140 : decode cX11_prove 140 = .ok (.ireturn, 1) := dq_172 (dq_suf 12 dt39acX11_prove_8 rfl rfl)
noncomputable def ds39acX11_takeModel_16 : List UInt8 := 2 :: 1 :: 167 :: 255 :: 171 :: 132 :: 1 :: 1 :: 167 :: 255 :: 155 :: 177 :: []
noncomputable def ds39acX11_takeModel_15 : List UInt8 := 153 :: 0 :: 7 :: 4 :: 167 :: 0 :: 4 :: 3 :: 84 :: 132 :: 3 :: 1 :: 167 :: 255 :: 187 :: 132 :: ds39acX11_takeModel_16
noncomputable def ds39acX11_takeModel_14 : List UInt8 := 96 :: 51 :: 154 :: 0 :: 17 :: 42 :: 180 :: 0 :: 124 :: 16 :: 60 :: 27 :: 104 :: 29 :: 96 :: 51 :: ds39acX11_takeModel_15
noncomputable def ds39acX11_takeModel_13 : List UInt8 := 124 :: 16 :: 60 :: 28 :: 104 :: 29 :: 96 :: 42 :: 180 :: 0 :: 124 :: 16 :: 60 :: 28 :: 104 :: 29 :: ds39acX11_takeModel_14
noncomputable def ds39acX11_takeModel_12 : List UInt8 := 180 :: 0 :: 124 :: 16 :: 60 :: 28 :: 104 :: 27 :: 96 :: 51 :: 153 :: 0 :: 53 :: 42 :: 180 :: 0 :: ds39acX11_takeModel_13
noncomputable def ds39acX11_takeModel_11 : List UInt8 := 1 :: 42 :: 162 :: 0 :: 83 :: 3 :: 62 :: 29 :: 42 :: 180 :: 1 :: 42 :: 162 :: 0 :: 67 :: 42 :: ds39acX11_takeModel_12
noncomputable def ds39acX11_takeModel_10 : List UInt8 := 108 :: 3 :: 60 :: 27 :: 42 :: 180 :: 1 :: 42 :: 162 :: 0 :: 99 :: 3 :: 61 :: 28 :: 42 :: 180 :: ds39acX11_takeModel_11
noncomputable def ds39acX11_takeModel_9 : List UInt8 := 167 :: 0 :: 4 :: 3 :: 84 :: 132 :: 2 :: 1 :: 167 :: 255 :: 210 :: 132 :: 1 :: 1 :: 167 :: 255 :: ds39acX11_takeModel_10
noncomputable def ds39acX11_takeModel_8 : List UInt8 := 17 :: 42 :: 180 :: 0 :: 84 :: 16 :: 60 :: 27 :: 104 :: 28 :: 96 :: 51 :: 153 :: 0 :: 7 :: 4 :: ds39acX11_takeModel_9
noncomputable def ds39acX11_takeModel_7 : List UInt8 := 0 :: 44 :: 42 :: 180 :: 0 :: 124 :: 16 :: 60 :: 27 :: 104 :: 28 :: 96 :: 28 :: 27 :: 159 :: 0 :: ds39acX11_takeModel_8
noncomputable def ds39acX11_takeModel_6 : List UInt8 := 128 :: 79 :: 132 :: 2 :: 1 :: 167 :: 255 :: 189 :: 3 :: 61 :: 28 :: 42 :: 180 :: 1 :: 42 :: 162 :: ds39acX11_takeModel_7
noncomputable def ds39acX11_takeModel_5 : List UInt8 := 5 :: 160 :: 0 :: 14 :: 4 :: 42 :: 180 :: 0 :: 20 :: 28 :: 46 :: 120 :: 167 :: 0 :: 4 :: 3 :: ds39acX11_takeModel_6
noncomputable def ds39acX11_takeModel_4 : List UInt8 := 4 :: 96 :: 79 :: 42 :: 180 :: 0 :: 121 :: 27 :: 92 :: 46 :: 42 :: 180 :: 0 :: 16 :: 28 :: 46 :: ds39acX11_takeModel_5
noncomputable def ds39acX11_takeModel_3 : List UInt8 := 27 :: 104 :: 28 :: 184 :: 1 :: 17 :: 153 :: 0 :: 44 :: 42 :: 180 :: 0 :: 127 :: 27 :: 92 :: 46 :: ds39acX11_takeModel_4
noncomputable def ds39acX11_takeModel_2 : List UInt8 := 3 :: 61 :: 28 :: 42 :: 180 :: 0 :: 26 :: 162 :: 0 :: 65 :: 42 :: 180 :: 0 :: 75 :: 16 :: 10 :: ds39acX11_takeModel_3
noncomputable def ds39acX11_takeModel_1 : List UInt8 := 0 :: 146 :: 42 :: 180 :: 0 :: 121 :: 27 :: 3 :: 79 :: 42 :: 180 :: 0 :: 127 :: 27 :: 3 :: 79 :: ds39acX11_takeModel_2
noncomputable def ds39acX11_takeModel_0 : List UInt8 := 42 :: 42 :: 180 :: 1 :: 42 :: 181 :: 1 :: 119 :: 3 :: 60 :: 27 :: 42 :: 180 :: 1 :: 42 :: 162 :: ds39acX11_takeModel_1
theorem dt39acX11_takeModel_0 : cX11_takeModel.data.toList.drop 0 = ds39acX11_takeModel_0 := by decide +kernel
theorem dt39acX11_takeModel_1 : cX11_takeModel.data.toList.drop 16 = ds39acX11_takeModel_1 := dq_suf 16 dt39acX11_takeModel_0 rfl rfl
theorem dt39acX11_takeModel_2 : cX11_takeModel.data.toList.drop 32 = ds39acX11_takeModel_2 := dq_suf 16 dt39acX11_takeModel_1 rfl rfl
theorem dt39acX11_takeModel_3 : cX11_takeModel.data.toList.drop 48 = ds39acX11_takeModel_3 := dq_suf 16 dt39acX11_takeModel_2 rfl rfl
theorem dt39acX11_takeModel_4 : cX11_takeModel.data.toList.drop 64 = ds39acX11_takeModel_4 := dq_suf 16 dt39acX11_takeModel_3 rfl rfl
theorem dt39acX11_takeModel_5 : cX11_takeModel.data.toList.drop 80 = ds39acX11_takeModel_5 := dq_suf 16 dt39acX11_takeModel_4 rfl rfl
theorem dt39acX11_takeModel_6 : cX11_takeModel.data.toList.drop 96 = ds39acX11_takeModel_6 := dq_suf 16 dt39acX11_takeModel_5 rfl rfl
theorem dt39acX11_takeModel_7 : cX11_takeModel.data.toList.drop 112 = ds39acX11_takeModel_7 := dq_suf 16 dt39acX11_takeModel_6 rfl rfl
theorem dt39acX11_takeModel_8 : cX11_takeModel.data.toList.drop 128 = ds39acX11_takeModel_8 := dq_suf 16 dt39acX11_takeModel_7 rfl rfl
theorem dt39acX11_takeModel_9 : cX11_takeModel.data.toList.drop 144 = ds39acX11_takeModel_9 := dq_suf 16 dt39acX11_takeModel_8 rfl rfl
theorem dt39acX11_takeModel_10 : cX11_takeModel.data.toList.drop 160 = ds39acX11_takeModel_10 := dq_suf 16 dt39acX11_takeModel_9 rfl rfl
theorem dt39acX11_takeModel_11 : cX11_takeModel.data.toList.drop 176 = ds39acX11_takeModel_11 := dq_suf 16 dt39acX11_takeModel_10 rfl rfl
theorem dt39acX11_takeModel_12 : cX11_takeModel.data.toList.drop 192 = ds39acX11_takeModel_12 := dq_suf 16 dt39acX11_takeModel_11 rfl rfl
theorem dt39acX11_takeModel_13 : cX11_takeModel.data.toList.drop 208 = ds39acX11_takeModel_13 := dq_suf 16 dt39acX11_takeModel_12 rfl rfl
theorem dt39acX11_takeModel_14 : cX11_takeModel.data.toList.drop 224 = ds39acX11_takeModel_14 := dq_suf 16 dt39acX11_takeModel_13 rfl rfl
theorem dt39acX11_takeModel_15 : cX11_takeModel.data.toList.drop 240 = ds39acX11_takeModel_15 := dq_suf 16 dt39acX11_takeModel_14 rfl rfl
theorem dt39acX11_takeModel_16 : cX11_takeModel.data.toList.drop 256 = ds39acX11_takeModel_16 := dq_suf 16 dt39acX11_takeModel_15 rfl rfl
theorem dX11_takeModel_0 : decode cX11_takeModel 0 = .ok (.aload_n 0, 1) := dq_42 (dq_suf 0 dt39acX11_takeModel_0 rfl rfl)
theorem dX11_takeModel_1 : decode cX11_takeModel 1 = .ok (.aload_n 0, 1) := dq_42 (dq_suf 1 dt39acX11_takeModel_0 rfl rfl)
theorem dX11_takeModel_2 : decode cX11_takeModel 2 = .ok (.getfield 298, 3) := dq_180 (dq_suf 2 dt39acX11_takeModel_0 rfl rfl) rfl
theorem dX11_takeModel_5 : decode cX11_takeModel 5 = .ok (.putfield 375, 3) := dq_181 (dq_suf 5 dt39acX11_takeModel_0 rfl rfl) rfl
theorem dX11_takeModel_8 : decode cX11_takeModel 8 = .ok (.iconst 0, 1) := dq_3 (dq_suf 8 dt39acX11_takeModel_0 rfl rfl)
theorem dX11_takeModel_9 : decode cX11_takeModel 9 = .ok (.istore_n 1, 1) := dq_60 (dq_suf 9 dt39acX11_takeModel_0 rfl rfl)
theorem dX11_takeModel_10 : decode cX11_takeModel 10 = .ok (.iload_n 1, 1) := dq_27 (dq_suf 10 dt39acX11_takeModel_0 rfl rfl)
theorem dX11_takeModel_11 : decode cX11_takeModel 11 = .ok (.aload_n 0, 1) := dq_42 (dq_suf 11 dt39acX11_takeModel_0 rfl rfl)
theorem dX11_takeModel_12 : decode cX11_takeModel 12 = .ok (.getfield 298, 3) := dq_180 (dq_suf 12 dt39acX11_takeModel_0 rfl rfl) rfl
theorem dX11_takeModel_15 : decode cX11_takeModel 15 = .ok (.if_icmp .ge 146, 3) := dq_162 (dq_suf 15 dt39acX11_takeModel_0 rfl rfl) (by decide +kernel)
theorem dX11_takeModel_18 : decode cX11_takeModel 18 = .ok (.aload_n 0, 1) := dq_42 (dq_suf 2 dt39acX11_takeModel_1 rfl rfl)
theorem dX11_takeModel_19 : decode cX11_takeModel 19 = .ok (.getfield 121, 3) := dq_180 (dq_suf 3 dt39acX11_takeModel_1 rfl rfl) rfl
theorem dX11_takeModel_22 : decode cX11_takeModel 22 = .ok (.iload_n 1, 1) := dq_27 (dq_suf 6 dt39acX11_takeModel_1 rfl rfl)
theorem dX11_takeModel_23 : decode cX11_takeModel 23 = .ok (.iconst 0, 1) := dq_3 (dq_suf 7 dt39acX11_takeModel_1 rfl rfl)
theorem dX11_takeModel_24 : decode cX11_takeModel 24 = .ok (.iastore, 1) := dq_79 (dq_suf 8 dt39acX11_takeModel_1 rfl rfl)
theorem dX11_takeModel_25 : decode cX11_takeModel 25 = .ok (.aload_n 0, 1) := dq_42 (dq_suf 9 dt39acX11_takeModel_1 rfl rfl)
theorem dX11_takeModel_26 : decode cX11_takeModel 26 = .ok (.getfield 127, 3) := dq_180 (dq_suf 10 dt39acX11_takeModel_1 rfl rfl) rfl
theorem dX11_takeModel_29 : decode cX11_takeModel 29 = .ok (.iload_n 1, 1) := dq_27 (dq_suf 13 dt39acX11_takeModel_1 rfl rfl)
theorem dX11_takeModel_30 : decode cX11_takeModel 30 = .ok (.iconst 0, 1) := dq_3 (dq_suf 14 dt39acX11_takeModel_1 rfl rfl)
theorem dX11_takeModel_31 : decode cX11_takeModel 31 = .ok (.iastore, 1) := dq_79 (dq_suf 15 dt39acX11_takeModel_1 rfl rfl)
theorem dX11_takeModel_32 : decode cX11_takeModel 32 = .ok (.iconst 0, 1) := dq_3 (dq_suf 0 dt39acX11_takeModel_2 rfl rfl)
theorem dX11_takeModel_33 : decode cX11_takeModel 33 = .ok (.istore_n 2, 1) := dq_61 (dq_suf 1 dt39acX11_takeModel_2 rfl rfl)
theorem dX11_takeModel_34 : decode cX11_takeModel 34 = .ok (.iload_n 2, 1) := dq_28 (dq_suf 2 dt39acX11_takeModel_2 rfl rfl)
theorem dX11_takeModel_35 : decode cX11_takeModel 35 = .ok (.aload_n 0, 1) := dq_42 (dq_suf 3 dt39acX11_takeModel_2 rfl rfl)
theorem dX11_takeModel_36 : decode cX11_takeModel 36 = .ok (.getfield 26, 3) := dq_180 (dq_suf 4 dt39acX11_takeModel_2 rfl rfl) rfl
theorem dX11_takeModel_39 : decode cX11_takeModel 39 = .ok (.if_icmp .ge 65, 3) := dq_162 (dq_suf 7 dt39acX11_takeModel_2 rfl rfl) (by decide +kernel)
theorem dX11_takeModel_42 : decode cX11_takeModel 42 = .ok (.aload_n 0, 1) := dq_42 (dq_suf 10 dt39acX11_takeModel_2 rfl rfl)
theorem dX11_takeModel_43 : decode cX11_takeModel 43 = .ok (.getfield 75, 3) := dq_180 (dq_suf 11 dt39acX11_takeModel_2 rfl rfl) rfl
theorem dX11_takeModel_46 : decode cX11_takeModel 46 = .ok (.bipush 10, 2) := dq_16 (dq_suf 14 dt39acX11_takeModel_2 rfl rfl) (by decide +kernel)
theorem dX11_takeModel_48 : decode cX11_takeModel 48 = .ok (.iload_n 1, 1) := dq_27 (dq_suf 0 dt39acX11_takeModel_3 rfl rfl)
theorem dX11_takeModel_49 : decode cX11_takeModel 49 = .ok (.imul, 1) := dq_104 (dq_suf 1 dt39acX11_takeModel_3 rfl rfl)
theorem dX11_takeModel_50 : decode cX11_takeModel 50 = .ok (.iload_n 2, 1) := dq_28 (dq_suf 2 dt39acX11_takeModel_3 rfl rfl)
theorem dX11_takeModel_51 : decode cX11_takeModel 51 = .ok (.invokestatic 273, 3) := dq_184 (dq_suf 3 dt39acX11_takeModel_3 rfl rfl) rfl
theorem dX11_takeModel_54 : decode cX11_takeModel 54 = .ok (.ifCond .eq 44, 3) := dq_153 (dq_suf 6 dt39acX11_takeModel_3 rfl rfl) (by decide +kernel)
theorem dX11_takeModel_57 : decode cX11_takeModel 57 = .ok (.aload_n 0, 1) := dq_42 (dq_suf 9 dt39acX11_takeModel_3 rfl rfl)
theorem dX11_takeModel_58 : decode cX11_takeModel 58 = .ok (.getfield 127, 3) := dq_180 (dq_suf 10 dt39acX11_takeModel_3 rfl rfl) rfl
theorem dX11_takeModel_61 : decode cX11_takeModel 61 = .ok (.iload_n 1, 1) := dq_27 (dq_suf 13 dt39acX11_takeModel_3 rfl rfl)
theorem dX11_takeModel_62 : decode cX11_takeModel 62 = .ok (.dup2, 1) := dq_92 (dq_suf 14 dt39acX11_takeModel_3 rfl rfl)
theorem dX11_takeModel_63 : decode cX11_takeModel 63 = .ok (.iaload, 1) := dq_46 (dq_suf 15 dt39acX11_takeModel_3 rfl rfl)
theorem dX11_takeModel_64 : decode cX11_takeModel 64 = .ok (.iconst 1, 1) := dq_4 (dq_suf 0 dt39acX11_takeModel_4 rfl rfl)
theorem dX11_takeModel_65 : decode cX11_takeModel 65 = .ok (.iadd, 1) := dq_96 (dq_suf 1 dt39acX11_takeModel_4 rfl rfl)
theorem dX11_takeModel_66 : decode cX11_takeModel 66 = .ok (.iastore, 1) := dq_79 (dq_suf 2 dt39acX11_takeModel_4 rfl rfl)
theorem dX11_takeModel_67 : decode cX11_takeModel 67 = .ok (.aload_n 0, 1) := dq_42 (dq_suf 3 dt39acX11_takeModel_4 rfl rfl)
theorem dX11_takeModel_68 : decode cX11_takeModel 68 = .ok (.getfield 121, 3) := dq_180 (dq_suf 4 dt39acX11_takeModel_4 rfl rfl) rfl
theorem dX11_takeModel_71 : decode cX11_takeModel 71 = .ok (.iload_n 1, 1) := dq_27 (dq_suf 7 dt39acX11_takeModel_4 rfl rfl)
theorem dX11_takeModel_72 : decode cX11_takeModel 72 = .ok (.dup2, 1) := dq_92 (dq_suf 8 dt39acX11_takeModel_4 rfl rfl)
theorem dX11_takeModel_73 : decode cX11_takeModel 73 = .ok (.iaload, 1) := dq_46 (dq_suf 9 dt39acX11_takeModel_4 rfl rfl)
theorem dX11_takeModel_74 : decode cX11_takeModel 74 = .ok (.aload_n 0, 1) := dq_42 (dq_suf 10 dt39acX11_takeModel_4 rfl rfl)
theorem dX11_takeModel_75 : decode cX11_takeModel 75 = .ok (.getfield 16, 3) := dq_180 (dq_suf 11 dt39acX11_takeModel_4 rfl rfl) rfl
theorem dX11_takeModel_78 : decode cX11_takeModel 78 = .ok (.iload_n 2, 1) := dq_28 (dq_suf 14 dt39acX11_takeModel_4 rfl rfl)
theorem dX11_takeModel_79 : decode cX11_takeModel 79 = .ok (.iaload, 1) := dq_46 (dq_suf 15 dt39acX11_takeModel_4 rfl rfl)
theorem dX11_takeModel_80 : decode cX11_takeModel 80 = .ok (.iconst 2, 1) := dq_5 (dq_suf 0 dt39acX11_takeModel_5 rfl rfl)
theorem dX11_takeModel_81 : decode cX11_takeModel 81 = .ok (.if_icmp .ne 14, 3) := dq_160 (dq_suf 1 dt39acX11_takeModel_5 rfl rfl) (by decide +kernel)
theorem dX11_takeModel_84 : decode cX11_takeModel 84 = .ok (.iconst 1, 1) := dq_4 (dq_suf 4 dt39acX11_takeModel_5 rfl rfl)
theorem dX11_takeModel_85 : decode cX11_takeModel 85 = .ok (.aload_n 0, 1) := dq_42 (dq_suf 5 dt39acX11_takeModel_5 rfl rfl)
theorem dX11_takeModel_86 : decode cX11_takeModel 86 = .ok (.getfield 20, 3) := dq_180 (dq_suf 6 dt39acX11_takeModel_5 rfl rfl) rfl
theorem dX11_takeModel_89 : decode cX11_takeModel 89 = .ok (.iload_n 2, 1) := dq_28 (dq_suf 9 dt39acX11_takeModel_5 rfl rfl)
theorem dX11_takeModel_90 : decode cX11_takeModel 90 = .ok (.iaload, 1) := dq_46 (dq_suf 10 dt39acX11_takeModel_5 rfl rfl)
theorem dX11_takeModel_91 : decode cX11_takeModel 91 = .ok (.ishl, 1) := dq_120 (dq_suf 11 dt39acX11_takeModel_5 rfl rfl)
theorem dX11_takeModel_92 : decode cX11_takeModel 92 = .ok (.goto 4, 3) := dq_167 (dq_suf 12 dt39acX11_takeModel_5 rfl rfl) (by decide +kernel)
theorem dX11_takeModel_95 : decode cX11_takeModel 95 = .ok (.iconst 0, 1) := dq_3 (dq_suf 15 dt39acX11_takeModel_5 rfl rfl)
theorem dX11_takeModel_96 : decode cX11_takeModel 96 = .ok (.ior, 1) := dq_128 (dq_suf 0 dt39acX11_takeModel_6 rfl rfl)
theorem dX11_takeModel_97 : decode cX11_takeModel 97 = .ok (.iastore, 1) := dq_79 (dq_suf 1 dt39acX11_takeModel_6 rfl rfl)
theorem dX11_takeModel_98 : decode cX11_takeModel 98 = .ok (.iinc 2 1, 3) := dq_132 (dq_suf 2 dt39acX11_takeModel_6 rfl rfl) rfl (by decide +kernel)
theorem dX11_takeModel_101 : decode cX11_takeModel 101 = .ok (.goto (-67), 3) := dq_167 (dq_suf 5 dt39acX11_takeModel_6 rfl rfl) (by decide +kernel)
theorem dX11_takeModel_104 : decode cX11_takeModel 104 = .ok (.iconst 0, 1) := dq_3 (dq_suf 8 dt39acX11_takeModel_6 rfl rfl)
theorem dX11_takeModel_105 : decode cX11_takeModel 105 = .ok (.istore_n 2, 1) := dq_61 (dq_suf 9 dt39acX11_takeModel_6 rfl rfl)
theorem dX11_takeModel_106 : decode cX11_takeModel 106 = .ok (.iload_n 2, 1) := dq_28 (dq_suf 10 dt39acX11_takeModel_6 rfl rfl)
theorem dX11_takeModel_107 : decode cX11_takeModel 107 = .ok (.aload_n 0, 1) := dq_42 (dq_suf 11 dt39acX11_takeModel_6 rfl rfl)
theorem dX11_takeModel_108 : decode cX11_takeModel 108 = .ok (.getfield 298, 3) := dq_180 (dq_suf 12 dt39acX11_takeModel_6 rfl rfl) rfl
theorem dX11_takeModel_111 : decode cX11_takeModel 111 = .ok (.if_icmp .ge 44, 3) := dq_162 (dq_suf 15 dt39acX11_takeModel_6 rfl rfl) (by decide +kernel)
theorem dX11_takeModel_114 : decode cX11_takeModel 114 = .ok (.aload_n 0, 1) := dq_42 (dq_suf 2 dt39acX11_takeModel_7 rfl rfl)
theorem dX11_takeModel_115 : decode cX11_takeModel 115 = .ok (.getfield 124, 3) := dq_180 (dq_suf 3 dt39acX11_takeModel_7 rfl rfl) rfl
theorem dX11_takeModel_118 : decode cX11_takeModel 118 = .ok (.bipush 60, 2) := dq_16 (dq_suf 6 dt39acX11_takeModel_7 rfl rfl) (by decide +kernel)
theorem dX11_takeModel_120 : decode cX11_takeModel 120 = .ok (.iload_n 1, 1) := dq_27 (dq_suf 8 dt39acX11_takeModel_7 rfl rfl)
theorem dX11_takeModel_121 : decode cX11_takeModel 121 = .ok (.imul, 1) := dq_104 (dq_suf 9 dt39acX11_takeModel_7 rfl rfl)
theorem dX11_takeModel_122 : decode cX11_takeModel 122 = .ok (.iload_n 2, 1) := dq_28 (dq_suf 10 dt39acX11_takeModel_7 rfl rfl)
theorem dX11_takeModel_123 : decode cX11_takeModel 123 = .ok (.iadd, 1) := dq_96 (dq_suf 11 dt39acX11_takeModel_7 rfl rfl)
theorem dX11_takeModel_124 : decode cX11_takeModel 124 = .ok (.iload_n 2, 1) := dq_28 (dq_suf 12 dt39acX11_takeModel_7 rfl rfl)
theorem dX11_takeModel_125 : decode cX11_takeModel 125 = .ok (.iload_n 1, 1) := dq_27 (dq_suf 13 dt39acX11_takeModel_7 rfl rfl)
theorem dX11_takeModel_126 : decode cX11_takeModel 126 = .ok (.if_icmp .eq 17, 3) := dq_159 (dq_suf 14 dt39acX11_takeModel_7 rfl rfl) (by decide +kernel)
theorem dX11_takeModel_129 : decode cX11_takeModel 129 = .ok (.aload_n 0, 1) := dq_42 (dq_suf 1 dt39acX11_takeModel_8 rfl rfl)
theorem dX11_takeModel_130 : decode cX11_takeModel 130 = .ok (.getfield 84, 3) := dq_180 (dq_suf 2 dt39acX11_takeModel_8 rfl rfl) rfl
theorem dX11_takeModel_133 : decode cX11_takeModel 133 = .ok (.bipush 60, 2) := dq_16 (dq_suf 5 dt39acX11_takeModel_8 rfl rfl) (by decide +kernel)
theorem dX11_takeModel_135 : decode cX11_takeModel 135 = .ok (.iload_n 1, 1) := dq_27 (dq_suf 7 dt39acX11_takeModel_8 rfl rfl)
theorem dX11_takeModel_136 : decode cX11_takeModel 136 = .ok (.imul, 1) := dq_104 (dq_suf 8 dt39acX11_takeModel_8 rfl rfl)
theorem dX11_takeModel_137 : decode cX11_takeModel 137 = .ok (.iload_n 2, 1) := dq_28 (dq_suf 9 dt39acX11_takeModel_8 rfl rfl)
theorem dX11_takeModel_138 : decode cX11_takeModel 138 = .ok (.iadd, 1) := dq_96 (dq_suf 10 dt39acX11_takeModel_8 rfl rfl)
theorem dX11_takeModel_139 : decode cX11_takeModel 139 = .ok (.baload, 1) := dq_51 (dq_suf 11 dt39acX11_takeModel_8 rfl rfl)
theorem dX11_takeModel_140 : decode cX11_takeModel 140 = .ok (.ifCond .eq 7, 3) := dq_153 (dq_suf 12 dt39acX11_takeModel_8 rfl rfl) (by decide +kernel)
theorem dX11_takeModel_143 : decode cX11_takeModel 143 = .ok (.iconst 1, 1) := dq_4 (dq_suf 15 dt39acX11_takeModel_8 rfl rfl)
theorem dX11_takeModel_144 : decode cX11_takeModel 144 = .ok (.goto 4, 3) := dq_167 (dq_suf 0 dt39acX11_takeModel_9 rfl rfl) (by decide +kernel)
theorem dX11_takeModel_147 : decode cX11_takeModel 147 = .ok (.iconst 0, 1) := dq_3 (dq_suf 3 dt39acX11_takeModel_9 rfl rfl)
theorem dX11_takeModel_148 : decode cX11_takeModel 148 = .ok (.bastore, 1) := dq_84 (dq_suf 4 dt39acX11_takeModel_9 rfl rfl)
theorem dX11_takeModel_149 : decode cX11_takeModel 149 = .ok (.iinc 2 1, 3) := dq_132 (dq_suf 5 dt39acX11_takeModel_9 rfl rfl) rfl (by decide +kernel)
theorem dX11_takeModel_152 : decode cX11_takeModel 152 = .ok (.goto (-46), 3) := dq_167 (dq_suf 8 dt39acX11_takeModel_9 rfl rfl) (by decide +kernel)
theorem dX11_takeModel_155 : decode cX11_takeModel 155 = .ok (.iinc 1 1, 3) := dq_132 (dq_suf 11 dt39acX11_takeModel_9 rfl rfl) rfl (by decide +kernel)
theorem dX11_takeModel_158 : decode cX11_takeModel 158 = .ok (.goto (-148), 3) := dq_167 (dq_suf 14 dt39acX11_takeModel_9 rfl rfl) (by decide +kernel)
theorem dX11_takeModel_161 : decode cX11_takeModel 161 = .ok (.iconst 0, 1) := dq_3 (dq_suf 1 dt39acX11_takeModel_10 rfl rfl)
theorem dX11_takeModel_162 : decode cX11_takeModel 162 = .ok (.istore_n 1, 1) := dq_60 (dq_suf 2 dt39acX11_takeModel_10 rfl rfl)
theorem dX11_takeModel_163 : decode cX11_takeModel 163 = .ok (.iload_n 1, 1) := dq_27 (dq_suf 3 dt39acX11_takeModel_10 rfl rfl)
theorem dX11_takeModel_164 : decode cX11_takeModel 164 = .ok (.aload_n 0, 1) := dq_42 (dq_suf 4 dt39acX11_takeModel_10 rfl rfl)
theorem dX11_takeModel_165 : decode cX11_takeModel 165 = .ok (.getfield 298, 3) := dq_180 (dq_suf 5 dt39acX11_takeModel_10 rfl rfl) rfl
theorem dX11_takeModel_168 : decode cX11_takeModel 168 = .ok (.if_icmp .ge 99, 3) := dq_162 (dq_suf 8 dt39acX11_takeModel_10 rfl rfl) (by decide +kernel)
theorem dX11_takeModel_171 : decode cX11_takeModel 171 = .ok (.iconst 0, 1) := dq_3 (dq_suf 11 dt39acX11_takeModel_10 rfl rfl)
theorem dX11_takeModel_172 : decode cX11_takeModel 172 = .ok (.istore_n 2, 1) := dq_61 (dq_suf 12 dt39acX11_takeModel_10 rfl rfl)
theorem dX11_takeModel_173 : decode cX11_takeModel 173 = .ok (.iload_n 2, 1) := dq_28 (dq_suf 13 dt39acX11_takeModel_10 rfl rfl)
theorem dX11_takeModel_174 : decode cX11_takeModel 174 = .ok (.aload_n 0, 1) := dq_42 (dq_suf 14 dt39acX11_takeModel_10 rfl rfl)
theorem dX11_takeModel_175 : decode cX11_takeModel 175 = .ok (.getfield 298, 3) := dq_180 (dq_suf 15 dt39acX11_takeModel_10 rfl rfl) rfl
theorem dX11_takeModel_178 : decode cX11_takeModel 178 = .ok (.if_icmp .ge 83, 3) := dq_162 (dq_suf 2 dt39acX11_takeModel_11 rfl rfl) (by decide +kernel)
theorem dX11_takeModel_181 : decode cX11_takeModel 181 = .ok (.iconst 0, 1) := dq_3 (dq_suf 5 dt39acX11_takeModel_11 rfl rfl)
theorem dX11_takeModel_182 : decode cX11_takeModel 182 = .ok (.istore_n 3, 1) := dq_62 (dq_suf 6 dt39acX11_takeModel_11 rfl rfl)
theorem dX11_takeModel_183 : decode cX11_takeModel 183 = .ok (.iload_n 3, 1) := dq_29 (dq_suf 7 dt39acX11_takeModel_11 rfl rfl)
theorem dX11_takeModel_184 : decode cX11_takeModel 184 = .ok (.aload_n 0, 1) := dq_42 (dq_suf 8 dt39acX11_takeModel_11 rfl rfl)
theorem dX11_takeModel_185 : decode cX11_takeModel 185 = .ok (.getfield 298, 3) := dq_180 (dq_suf 9 dt39acX11_takeModel_11 rfl rfl) rfl
theorem dX11_takeModel_188 : decode cX11_takeModel 188 = .ok (.if_icmp .ge 67, 3) := dq_162 (dq_suf 12 dt39acX11_takeModel_11 rfl rfl) (by decide +kernel)
theorem dX11_takeModel_191 : decode cX11_takeModel 191 = .ok (.aload_n 0, 1) := dq_42 (dq_suf 15 dt39acX11_takeModel_11 rfl rfl)
theorem dX11_takeModel_192 : decode cX11_takeModel 192 = .ok (.getfield 124, 3) := dq_180 (dq_suf 0 dt39acX11_takeModel_12 rfl rfl) rfl
theorem dX11_takeModel_195 : decode cX11_takeModel 195 = .ok (.bipush 60, 2) := dq_16 (dq_suf 3 dt39acX11_takeModel_12 rfl rfl) (by decide +kernel)
theorem dX11_takeModel_197 : decode cX11_takeModel 197 = .ok (.iload_n 2, 1) := dq_28 (dq_suf 5 dt39acX11_takeModel_12 rfl rfl)
theorem dX11_takeModel_198 : decode cX11_takeModel 198 = .ok (.imul, 1) := dq_104 (dq_suf 6 dt39acX11_takeModel_12 rfl rfl)
theorem dX11_takeModel_199 : decode cX11_takeModel 199 = .ok (.iload_n 1, 1) := dq_27 (dq_suf 7 dt39acX11_takeModel_12 rfl rfl)
theorem dX11_takeModel_200 : decode cX11_takeModel 200 = .ok (.iadd, 1) := dq_96 (dq_suf 8 dt39acX11_takeModel_12 rfl rfl)
theorem dX11_takeModel_201 : decode cX11_takeModel 201 = .ok (.baload, 1) := dq_51 (dq_suf 9 dt39acX11_takeModel_12 rfl rfl)
theorem dX11_takeModel_202 : decode cX11_takeModel 202 = .ok (.ifCond .eq 53, 3) := dq_153 (dq_suf 10 dt39acX11_takeModel_12 rfl rfl) (by decide +kernel)
theorem dX11_takeModel_205 : decode cX11_takeModel 205 = .ok (.aload_n 0, 1) := dq_42 (dq_suf 13 dt39acX11_takeModel_12 rfl rfl)
theorem dX11_takeModel_206 : decode cX11_takeModel 206 = .ok (.getfield 124, 3) := dq_180 (dq_suf 14 dt39acX11_takeModel_12 rfl rfl) rfl
theorem dX11_takeModel_209 : decode cX11_takeModel 209 = .ok (.bipush 60, 2) := dq_16 (dq_suf 1 dt39acX11_takeModel_13 rfl rfl) (by decide +kernel)
theorem dX11_takeModel_211 : decode cX11_takeModel 211 = .ok (.iload_n 2, 1) := dq_28 (dq_suf 3 dt39acX11_takeModel_13 rfl rfl)
theorem dX11_takeModel_212 : decode cX11_takeModel 212 = .ok (.imul, 1) := dq_104 (dq_suf 4 dt39acX11_takeModel_13 rfl rfl)
theorem dX11_takeModel_213 : decode cX11_takeModel 213 = .ok (.iload_n 3, 1) := dq_29 (dq_suf 5 dt39acX11_takeModel_13 rfl rfl)
theorem dX11_takeModel_214 : decode cX11_takeModel 214 = .ok (.iadd, 1) := dq_96 (dq_suf 6 dt39acX11_takeModel_13 rfl rfl)
theorem dX11_takeModel_215 : decode cX11_takeModel 215 = .ok (.aload_n 0, 1) := dq_42 (dq_suf 7 dt39acX11_takeModel_13 rfl rfl)
theorem dX11_takeModel_216 : decode cX11_takeModel 216 = .ok (.getfield 124, 3) := dq_180 (dq_suf 8 dt39acX11_takeModel_13 rfl rfl) rfl
theorem dX11_takeModel_219 : decode cX11_takeModel 219 = .ok (.bipush 60, 2) := dq_16 (dq_suf 11 dt39acX11_takeModel_13 rfl rfl) (by decide +kernel)
theorem dX11_takeModel_221 : decode cX11_takeModel 221 = .ok (.iload_n 2, 1) := dq_28 (dq_suf 13 dt39acX11_takeModel_13 rfl rfl)
theorem dX11_takeModel_222 : decode cX11_takeModel 222 = .ok (.imul, 1) := dq_104 (dq_suf 14 dt39acX11_takeModel_13 rfl rfl)
theorem dX11_takeModel_223 : decode cX11_takeModel 223 = .ok (.iload_n 3, 1) := dq_29 (dq_suf 15 dt39acX11_takeModel_13 rfl rfl)
theorem dX11_takeModel_224 : decode cX11_takeModel 224 = .ok (.iadd, 1) := dq_96 (dq_suf 0 dt39acX11_takeModel_14 rfl rfl)
theorem dX11_takeModel_225 : decode cX11_takeModel 225 = .ok (.baload, 1) := dq_51 (dq_suf 1 dt39acX11_takeModel_14 rfl rfl)
theorem dX11_takeModel_226 : decode cX11_takeModel 226 = .ok (.ifCond .ne 17, 3) := dq_154 (dq_suf 2 dt39acX11_takeModel_14 rfl rfl) (by decide +kernel)
theorem dX11_takeModel_229 : decode cX11_takeModel 229 = .ok (.aload_n 0, 1) := dq_42 (dq_suf 5 dt39acX11_takeModel_14 rfl rfl)
theorem dX11_takeModel_230 : decode cX11_takeModel 230 = .ok (.getfield 124, 3) := dq_180 (dq_suf 6 dt39acX11_takeModel_14 rfl rfl) rfl
theorem dX11_takeModel_233 : decode cX11_takeModel 233 = .ok (.bipush 60, 2) := dq_16 (dq_suf 9 dt39acX11_takeModel_14 rfl rfl) (by decide +kernel)
theorem dX11_takeModel_235 : decode cX11_takeModel 235 = .ok (.iload_n 1, 1) := dq_27 (dq_suf 11 dt39acX11_takeModel_14 rfl rfl)
theorem dX11_takeModel_236 : decode cX11_takeModel 236 = .ok (.imul, 1) := dq_104 (dq_suf 12 dt39acX11_takeModel_14 rfl rfl)
theorem dX11_takeModel_237 : decode cX11_takeModel 237 = .ok (.iload_n 3, 1) := dq_29 (dq_suf 13 dt39acX11_takeModel_14 rfl rfl)
theorem dX11_takeModel_238 : decode cX11_takeModel 238 = .ok (.iadd, 1) := dq_96 (dq_suf 14 dt39acX11_takeModel_14 rfl rfl)
theorem dX11_takeModel_239 : decode cX11_takeModel 239 = .ok (.baload, 1) := dq_51 (dq_suf 15 dt39acX11_takeModel_14 rfl rfl)
theorem dX11_takeModel_240 : decode cX11_takeModel 240 = .ok (.ifCond .eq 7, 3) := dq_153 (dq_suf 0 dt39acX11_takeModel_15 rfl rfl) (by decide +kernel)
theorem dX11_takeModel_243 : decode cX11_takeModel 243 = .ok (.iconst 1, 1) := dq_4 (dq_suf 3 dt39acX11_takeModel_15 rfl rfl)
theorem dX11_takeModel_244 : decode cX11_takeModel 244 = .ok (.goto 4, 3) := dq_167 (dq_suf 4 dt39acX11_takeModel_15 rfl rfl) (by decide +kernel)
theorem dX11_takeModel_247 : decode cX11_takeModel 247 = .ok (.iconst 0, 1) := dq_3 (dq_suf 7 dt39acX11_takeModel_15 rfl rfl)
theorem dX11_takeModel_248 : decode cX11_takeModel 248 = .ok (.bastore, 1) := dq_84 (dq_suf 8 dt39acX11_takeModel_15 rfl rfl)
theorem dX11_takeModel_249 : decode cX11_takeModel 249 = .ok (.iinc 3 1, 3) := dq_132 (dq_suf 9 dt39acX11_takeModel_15 rfl rfl) rfl (by decide +kernel)
theorem dX11_takeModel_252 : decode cX11_takeModel 252 = .ok (.goto (-69), 3) := dq_167 (dq_suf 12 dt39acX11_takeModel_15 rfl rfl) (by decide +kernel)
theorem dX11_takeModel_255 : decode cX11_takeModel 255 = .ok (.iinc 2 1, 3) := dq_132 (dq_suf 15 dt39acX11_takeModel_15 rfl rfl) rfl (by decide +kernel)
theorem dX11_takeModel_258 : decode cX11_takeModel 258 = .ok (.goto (-85), 3) := dq_167 (dq_suf 2 dt39acX11_takeModel_16 rfl rfl) (by decide +kernel)
theorem dX11_takeModel_261 : decode cX11_takeModel 261 = .ok (.iinc 1 1, 3) := dq_132 (dq_suf 5 dt39acX11_takeModel_16 rfl rfl) rfl (by decide +kernel)
theorem dX11_takeModel_264 : decode cX11_takeModel 264 = .ok (.goto (-101), 3) := dq_167 (dq_suf 8 dt39acX11_takeModel_16 rfl rfl) (by decide +kernel)
theorem dX11_takeModel_267 : decode cX11_takeModel 267 = .ok (.return_, 1) := dq_177 (dq_suf 11 dt39acX11_takeModel_16 rfl rfl)
noncomputable def ds39acX11_count_3 : List UInt8 := 52 :: 167 :: 0 :: 4 :: 2 :: 172 :: []
noncomputable def ds39acX11_count_2 : List UInt8 := 10 :: 42 :: 180 :: 1 :: 97 :: 167 :: 0 :: 16 :: 27 :: 6 :: 160 :: 0 :: 10 :: 42 :: 180 :: 1 :: ds39acX11_count_3
noncomputable def ds39acX11_count_1 : List UInt8 := 27 :: 4 :: 160 :: 0 :: 10 :: 42 :: 180 :: 1 :: 49 :: 167 :: 0 :: 28 :: 27 :: 5 :: 160 :: 0 :: ds39acX11_count_2
noncomputable def ds39acX11_count_0 : List UInt8 := 42 :: 3 :: 181 :: 0 :: 151 :: 27 :: 154 :: 0 :: 10 :: 42 :: 180 :: 1 :: 24 :: 167 :: 0 :: 40 :: ds39acX11_count_1
theorem dt39acX11_count_0 : cX11_count.data.toList.drop 0 = ds39acX11_count_0 := by decide +kernel
theorem dt39acX11_count_1 : cX11_count.data.toList.drop 16 = ds39acX11_count_1 := dq_suf 16 dt39acX11_count_0 rfl rfl
theorem dt39acX11_count_2 : cX11_count.data.toList.drop 32 = ds39acX11_count_2 := dq_suf 16 dt39acX11_count_1 rfl rfl
theorem dt39acX11_count_3 : cX11_count.data.toList.drop 48 = ds39acX11_count_3 := dq_suf 16 dt39acX11_count_2 rfl rfl
theorem dX11_count_0 : decode cX11_count 0 = .ok (.aload_n 0, 1) := dq_42 (dq_suf 0 dt39acX11_count_0 rfl rfl)
theorem dX11_count_1 : decode cX11_count 1 = .ok (.iconst 0, 1) := dq_3 (dq_suf 1 dt39acX11_count_0 rfl rfl)
theorem dX11_count_2 : decode cX11_count 2 = .ok (.putfield 151, 3) := dq_181 (dq_suf 2 dt39acX11_count_0 rfl rfl) rfl
theorem dX11_count_5 : decode cX11_count 5 = .ok (.iload_n 1, 1) := dq_27 (dq_suf 5 dt39acX11_count_0 rfl rfl)
theorem dX11_count_6 : decode cX11_count 6 = .ok (.ifCond .ne 10, 3) := dq_154 (dq_suf 6 dt39acX11_count_0 rfl rfl) (by decide +kernel)
theorem dX11_count_9 : decode cX11_count 9 = .ok (.aload_n 0, 1) := dq_42 (dq_suf 9 dt39acX11_count_0 rfl rfl)
theorem dX11_count_10 : decode cX11_count 10 = .ok (.getfield 280, 3) := dq_180 (dq_suf 10 dt39acX11_count_0 rfl rfl) rfl
theorem dX11_count_13 : decode cX11_count 13 = .ok (.goto 40, 3) := dq_167 (dq_suf 13 dt39acX11_count_0 rfl rfl) (by decide +kernel)
theorem dX11_count_16 : decode cX11_count 16 = .ok (.iload_n 1, 1) := dq_27 (dq_suf 0 dt39acX11_count_1 rfl rfl)
theorem dX11_count_17 : decode cX11_count 17 = .ok (.iconst 1, 1) := dq_4 (dq_suf 1 dt39acX11_count_1 rfl rfl)
theorem dX11_count_18 : decode cX11_count 18 = .ok (.if_icmp .ne 10, 3) := dq_160 (dq_suf 2 dt39acX11_count_1 rfl rfl) (by decide +kernel)
theorem dX11_count_21 : decode cX11_count 21 = .ok (.aload_n 0, 1) := dq_42 (dq_suf 5 dt39acX11_count_1 rfl rfl)
theorem dX11_count_22 : decode cX11_count 22 = .ok (.getfield 305, 3) := dq_180 (dq_suf 6 dt39acX11_count_1 rfl rfl) rfl
theorem dX11_count_25 : decode cX11_count 25 = .ok (.goto 28, 3) := dq_167 (dq_suf 9 dt39acX11_count_1 rfl rfl) (by decide +kernel)
theorem dX11_count_28 : decode cX11_count 28 = .ok (.iload_n 1, 1) := dq_27 (dq_suf 12 dt39acX11_count_1 rfl rfl)
theorem dX11_count_29 : decode cX11_count 29 = .ok (.iconst 2, 1) := dq_5 (dq_suf 13 dt39acX11_count_1 rfl rfl)
theorem dX11_count_30 : decode cX11_count 30 = .ok (.if_icmp .ne 10, 3) := dq_160 (dq_suf 14 dt39acX11_count_1 rfl rfl) (by decide +kernel)
theorem dX11_count_33 : decode cX11_count 33 = .ok (.aload_n 0, 1) := dq_42 (dq_suf 1 dt39acX11_count_2 rfl rfl)
theorem dX11_count_34 : decode cX11_count 34 = .ok (.getfield 353, 3) := dq_180 (dq_suf 2 dt39acX11_count_2 rfl rfl) rfl
theorem dX11_count_37 : decode cX11_count 37 = .ok (.goto 16, 3) := dq_167 (dq_suf 5 dt39acX11_count_2 rfl rfl) (by decide +kernel)
theorem dX11_count_40 : decode cX11_count 40 = .ok (.iload_n 1, 1) := dq_27 (dq_suf 8 dt39acX11_count_2 rfl rfl)
theorem dX11_count_41 : decode cX11_count 41 = .ok (.iconst 3, 1) := dq_6 (dq_suf 9 dt39acX11_count_2 rfl rfl)
theorem dX11_count_42 : decode cX11_count 42 = .ok (.if_icmp .ne 10, 3) := dq_160 (dq_suf 10 dt39acX11_count_2 rfl rfl) (by decide +kernel)
theorem dX11_count_45 : decode cX11_count 45 = .ok (.aload_n 0, 1) := dq_42 (dq_suf 13 dt39acX11_count_2 rfl rfl)
theorem dX11_count_46 : decode cX11_count 46 = .ok (.getfield 308, 3) := dq_180 (dq_suf 14 dt39acX11_count_2 rfl rfl) rfl
theorem dX11_count_49 : decode cX11_count 49 = .ok (.goto 4, 3) := dq_167 (dq_suf 1 dt39acX11_count_3 rfl rfl) (by decide +kernel)
theorem dX11_count_52 : decode cX11_count 52 = .ok (.iconst (-1), 1) := dq_2 (dq_suf 4 dt39acX11_count_3 rfl rfl)
theorem dX11_count_53 : decode cX11_count 53 = .ok (.ireturn, 1) := dq_172 (dq_suf 5 dt39acX11_count_3 rfl rfl)
noncomputable def ds39acX11_proof_6 : List UInt8 := 172 :: []
noncomputable def ds39acX11_proof_5 : List UInt8 := 255 :: 193 :: 42 :: 6 :: 42 :: 180 :: 1 :: 122 :: 104 :: 181 :: 0 :: 165 :: 42 :: 180 :: 0 :: 165 :: ds39acX11_proof_6
noncomputable def ds39acX11_proof_4 : List UInt8 := 27 :: 104 :: 5 :: 96 :: 42 :: 180 :: 0 :: 118 :: 27 :: 46 :: 145 :: 84 :: 132 :: 1 :: 1 :: 167 :: ds39acX11_proof_5
noncomputable def ds39acX11_proof_3 : List UInt8 := 42 :: 180 :: 0 :: 118 :: 27 :: 46 :: 16 :: 8 :: 122 :: 145 :: 84 :: 42 :: 180 :: 0 :: 13 :: 6 :: ds39acX11_proof_4
noncomputable def ds39acX11_proof_2 : List UInt8 := 180 :: 0 :: 115 :: 27 :: 46 :: 145 :: 84 :: 42 :: 180 :: 0 :: 13 :: 6 :: 27 :: 104 :: 4 :: 96 :: ds39acX11_proof_3
noncomputable def ds39acX11_proof_1 : List UInt8 := 27 :: 42 :: 180 :: 1 :: 122 :: 162 :: 0 :: 61 :: 42 :: 180 :: 0 :: 13 :: 6 :: 27 :: 104 :: 42 :: ds39acX11_proof_2
noncomputable def ds39acX11_proof_0 : List UInt8 := 42 :: 3 :: 181 :: 0 :: 151 :: 42 :: 180 :: 1 :: 116 :: 154 :: 0 :: 5 :: 2 :: 172 :: 3 :: 60 :: ds39acX11_proof_1
theorem dt39acX11_proof_0 : cX11_proof.data.toList.drop 0 = ds39acX11_proof_0 := by decide +kernel
theorem dt39acX11_proof_1 : cX11_proof.data.toList.drop 16 = ds39acX11_proof_1 := dq_suf 16 dt39acX11_proof_0 rfl rfl
theorem dt39acX11_proof_2 : cX11_proof.data.toList.drop 32 = ds39acX11_proof_2 := dq_suf 16 dt39acX11_proof_1 rfl rfl
theorem dt39acX11_proof_3 : cX11_proof.data.toList.drop 48 = ds39acX11_proof_3 := dq_suf 16 dt39acX11_proof_2 rfl rfl
theorem dt39acX11_proof_4 : cX11_proof.data.toList.drop 64 = ds39acX11_proof_4 := dq_suf 16 dt39acX11_proof_3 rfl rfl
theorem dt39acX11_proof_5 : cX11_proof.data.toList.drop 80 = ds39acX11_proof_5 := dq_suf 16 dt39acX11_proof_4 rfl rfl
theorem dt39acX11_proof_6 : cX11_proof.data.toList.drop 96 = ds39acX11_proof_6 := dq_suf 16 dt39acX11_proof_5 rfl rfl
theorem dX11_proof_0 : decode cX11_proof 0 = .ok (.aload_n 0, 1) := dq_42 (dq_suf 0 dt39acX11_proof_0 rfl rfl)
theorem dX11_proof_1 : decode cX11_proof 1 = .ok (.iconst 0, 1) := dq_3 (dq_suf 1 dt39acX11_proof_0 rfl rfl)
theorem dX11_proof_2 : decode cX11_proof 2 = .ok (.putfield 151, 3) := dq_181 (dq_suf 2 dt39acX11_proof_0 rfl rfl) rfl
theorem dX11_proof_5 : decode cX11_proof 5 = .ok (.aload_n 0, 1) := dq_42 (dq_suf 5 dt39acX11_proof_0 rfl rfl)
theorem dX11_proof_6 : decode cX11_proof 6 = .ok (.getfield 372, 3) := dq_180 (dq_suf 6 dt39acX11_proof_0 rfl rfl) rfl
theorem dX11_proof_9 : decode cX11_proof 9 = .ok (.ifCond .ne 5, 3) := dq_154 (dq_suf 9 dt39acX11_proof_0 rfl rfl) (by decide +kernel)
theorem dX11_proof_12 : decode cX11_proof 12 = .ok (.iconst (-1), 1) := dq_2 (dq_suf 12 dt39acX11_proof_0 rfl rfl)
theorem dX11_proof_13 : decode cX11_proof 13 = .ok (.ireturn, 1) := dq_172 (dq_suf 13 dt39acX11_proof_0 rfl rfl)
theorem dX11_proof_14 : decode cX11_proof 14 = .ok (.iconst 0, 1) := dq_3 (dq_suf 14 dt39acX11_proof_0 rfl rfl)
theorem dX11_proof_15 : decode cX11_proof 15 = .ok (.istore_n 1, 1) := dq_60 (dq_suf 15 dt39acX11_proof_0 rfl rfl)
theorem dX11_proof_16 : decode cX11_proof 16 = .ok (.iload_n 1, 1) := dq_27 (dq_suf 0 dt39acX11_proof_1 rfl rfl)
theorem dX11_proof_17 : decode cX11_proof 17 = .ok (.aload_n 0, 1) := dq_42 (dq_suf 1 dt39acX11_proof_1 rfl rfl)
theorem dX11_proof_18 : decode cX11_proof 18 = .ok (.getfield 378, 3) := dq_180 (dq_suf 2 dt39acX11_proof_1 rfl rfl) rfl
theorem dX11_proof_21 : decode cX11_proof 21 = .ok (.if_icmp .ge 61, 3) := dq_162 (dq_suf 5 dt39acX11_proof_1 rfl rfl) (by decide +kernel)
theorem dX11_proof_24 : decode cX11_proof 24 = .ok (.aload_n 0, 1) := dq_42 (dq_suf 8 dt39acX11_proof_1 rfl rfl)
theorem dX11_proof_25 : decode cX11_proof 25 = .ok (.getfield 13, 3) := dq_180 (dq_suf 9 dt39acX11_proof_1 rfl rfl) rfl
theorem dX11_proof_28 : decode cX11_proof 28 = .ok (.iconst 3, 1) := dq_6 (dq_suf 12 dt39acX11_proof_1 rfl rfl)
theorem dX11_proof_29 : decode cX11_proof 29 = .ok (.iload_n 1, 1) := dq_27 (dq_suf 13 dt39acX11_proof_1 rfl rfl)
theorem dX11_proof_30 : decode cX11_proof 30 = .ok (.imul, 1) := dq_104 (dq_suf 14 dt39acX11_proof_1 rfl rfl)
theorem dX11_proof_31 : decode cX11_proof 31 = .ok (.aload_n 0, 1) := dq_42 (dq_suf 15 dt39acX11_proof_1 rfl rfl)
theorem dX11_proof_32 : decode cX11_proof 32 = .ok (.getfield 115, 3) := dq_180 (dq_suf 0 dt39acX11_proof_2 rfl rfl) rfl
theorem dX11_proof_35 : decode cX11_proof 35 = .ok (.iload_n 1, 1) := dq_27 (dq_suf 3 dt39acX11_proof_2 rfl rfl)
theorem dX11_proof_36 : decode cX11_proof 36 = .ok (.iaload, 1) := dq_46 (dq_suf 4 dt39acX11_proof_2 rfl rfl)
theorem dX11_proof_37 : decode cX11_proof 37 = .ok (.i2b, 1) := dq_145 (dq_suf 5 dt39acX11_proof_2 rfl rfl)
theorem dX11_proof_38 : decode cX11_proof 38 = .ok (.bastore, 1) := dq_84 (dq_suf 6 dt39acX11_proof_2 rfl rfl)
theorem dX11_proof_39 : decode cX11_proof 39 = .ok (.aload_n 0, 1) := dq_42 (dq_suf 7 dt39acX11_proof_2 rfl rfl)
theorem dX11_proof_40 : decode cX11_proof 40 = .ok (.getfield 13, 3) := dq_180 (dq_suf 8 dt39acX11_proof_2 rfl rfl) rfl
theorem dX11_proof_43 : decode cX11_proof 43 = .ok (.iconst 3, 1) := dq_6 (dq_suf 11 dt39acX11_proof_2 rfl rfl)
theorem dX11_proof_44 : decode cX11_proof 44 = .ok (.iload_n 1, 1) := dq_27 (dq_suf 12 dt39acX11_proof_2 rfl rfl)
theorem dX11_proof_45 : decode cX11_proof 45 = .ok (.imul, 1) := dq_104 (dq_suf 13 dt39acX11_proof_2 rfl rfl)
theorem dX11_proof_46 : decode cX11_proof 46 = .ok (.iconst 1, 1) := dq_4 (dq_suf 14 dt39acX11_proof_2 rfl rfl)
theorem dX11_proof_47 : decode cX11_proof 47 = .ok (.iadd, 1) := dq_96 (dq_suf 15 dt39acX11_proof_2 rfl rfl)
theorem dX11_proof_48 : decode cX11_proof 48 = .ok (.aload_n 0, 1) := dq_42 (dq_suf 0 dt39acX11_proof_3 rfl rfl)
theorem dX11_proof_49 : decode cX11_proof 49 = .ok (.getfield 118, 3) := dq_180 (dq_suf 1 dt39acX11_proof_3 rfl rfl) rfl
theorem dX11_proof_52 : decode cX11_proof 52 = .ok (.iload_n 1, 1) := dq_27 (dq_suf 4 dt39acX11_proof_3 rfl rfl)
theorem dX11_proof_53 : decode cX11_proof 53 = .ok (.iaload, 1) := dq_46 (dq_suf 5 dt39acX11_proof_3 rfl rfl)
theorem dX11_proof_54 : decode cX11_proof 54 = .ok (.bipush 8, 2) := dq_16 (dq_suf 6 dt39acX11_proof_3 rfl rfl) (by decide +kernel)
theorem dX11_proof_56 : decode cX11_proof 56 = .ok (.ishr, 1) := dq_122 (dq_suf 8 dt39acX11_proof_3 rfl rfl)
theorem dX11_proof_57 : decode cX11_proof 57 = .ok (.i2b, 1) := dq_145 (dq_suf 9 dt39acX11_proof_3 rfl rfl)
theorem dX11_proof_58 : decode cX11_proof 58 = .ok (.bastore, 1) := dq_84 (dq_suf 10 dt39acX11_proof_3 rfl rfl)
theorem dX11_proof_59 : decode cX11_proof 59 = .ok (.aload_n 0, 1) := dq_42 (dq_suf 11 dt39acX11_proof_3 rfl rfl)
theorem dX11_proof_60 : decode cX11_proof 60 = .ok (.getfield 13, 3) := dq_180 (dq_suf 12 dt39acX11_proof_3 rfl rfl) rfl
theorem dX11_proof_63 : decode cX11_proof 63 = .ok (.iconst 3, 1) := dq_6 (dq_suf 15 dt39acX11_proof_3 rfl rfl)
theorem dX11_proof_64 : decode cX11_proof 64 = .ok (.iload_n 1, 1) := dq_27 (dq_suf 0 dt39acX11_proof_4 rfl rfl)
theorem dX11_proof_65 : decode cX11_proof 65 = .ok (.imul, 1) := dq_104 (dq_suf 1 dt39acX11_proof_4 rfl rfl)
theorem dX11_proof_66 : decode cX11_proof 66 = .ok (.iconst 2, 1) := dq_5 (dq_suf 2 dt39acX11_proof_4 rfl rfl)
theorem dX11_proof_67 : decode cX11_proof 67 = .ok (.iadd, 1) := dq_96 (dq_suf 3 dt39acX11_proof_4 rfl rfl)
theorem dX11_proof_68 : decode cX11_proof 68 = .ok (.aload_n 0, 1) := dq_42 (dq_suf 4 dt39acX11_proof_4 rfl rfl)
theorem dX11_proof_69 : decode cX11_proof 69 = .ok (.getfield 118, 3) := dq_180 (dq_suf 5 dt39acX11_proof_4 rfl rfl) rfl
theorem dX11_proof_72 : decode cX11_proof 72 = .ok (.iload_n 1, 1) := dq_27 (dq_suf 8 dt39acX11_proof_4 rfl rfl)
theorem dX11_proof_73 : decode cX11_proof 73 = .ok (.iaload, 1) := dq_46 (dq_suf 9 dt39acX11_proof_4 rfl rfl)
theorem dX11_proof_74 : decode cX11_proof 74 = .ok (.i2b, 1) := dq_145 (dq_suf 10 dt39acX11_proof_4 rfl rfl)
theorem dX11_proof_75 : decode cX11_proof 75 = .ok (.bastore, 1) := dq_84 (dq_suf 11 dt39acX11_proof_4 rfl rfl)
theorem dX11_proof_76 : decode cX11_proof 76 = .ok (.iinc 1 1, 3) := dq_132 (dq_suf 12 dt39acX11_proof_4 rfl rfl) rfl (by decide +kernel)
theorem dX11_proof_79 : decode cX11_proof 79 = .ok (.goto (-63), 3) := dq_167 (dq_suf 15 dt39acX11_proof_4 rfl rfl) (by decide +kernel)
theorem dX11_proof_82 : decode cX11_proof 82 = .ok (.aload_n 0, 1) := dq_42 (dq_suf 2 dt39acX11_proof_5 rfl rfl)
theorem dX11_proof_83 : decode cX11_proof 83 = .ok (.iconst 3, 1) := dq_6 (dq_suf 3 dt39acX11_proof_5 rfl rfl)
theorem dX11_proof_84 : decode cX11_proof 84 = .ok (.aload_n 0, 1) := dq_42 (dq_suf 4 dt39acX11_proof_5 rfl rfl)
theorem dX11_proof_85 : decode cX11_proof 85 = .ok (.getfield 378, 3) := dq_180 (dq_suf 5 dt39acX11_proof_5 rfl rfl) rfl
theorem dX11_proof_88 : decode cX11_proof 88 = .ok (.imul, 1) := dq_104 (dq_suf 8 dt39acX11_proof_5 rfl rfl)
theorem dX11_proof_89 : decode cX11_proof 89 = .ok (.putfield 165, 3) := dq_181 (dq_suf 9 dt39acX11_proof_5 rfl rfl) rfl
theorem dX11_proof_92 : decode cX11_proof 92 = .ok (.aload_n 0, 1) := dq_42 (dq_suf 12 dt39acX11_proof_5 rfl rfl)
theorem dX11_proof_93 : decode cX11_proof 93 = .ok (.getfield 165, 3) := dq_180 (dq_suf 13 dt39acX11_proof_5 rfl rfl) rfl
theorem dX11_proof_96 : decode cX11_proof 96 = .ok (.ireturn, 1) := dq_172 (dq_suf 0 dt39acX11_proof_6 rfl rfl)
noncomputable def ds39acX11_verify_26 : List UInt8 := 4 :: 172 :: []
noncomputable def ds39acX11_verify_25 : List UInt8 := 68 :: 132 :: 5 :: 3 :: 167 :: 254 :: 196 :: 21 :: 4 :: 153 :: 0 :: 7 :: 3 :: 167 :: 0 :: 4 :: ds39acX11_verify_26
noncomputable def ds39acX11_verify_24 : List UInt8 := 0 :: 18 :: 42 :: 180 :: 0 :: 69 :: 3 :: 42 :: 180 :: 0 :: 23 :: 21 :: 7 :: 46 :: 184 :: 1 :: ds39acX11_verify_25
noncomputable def ds39acX11_verify_23 : List UInt8 := 69 :: 3 :: 42 :: 180 :: 0 :: 20 :: 21 :: 7 :: 46 :: 184 :: 1 :: 68 :: 21 :: 6 :: 4 :: 160 :: ds39acX11_verify_24
noncomputable def ds39acX11_verify_22 : List UInt8 := 112 :: 3 :: 42 :: 180 :: 0 :: 69 :: 3 :: 184 :: 1 :: 45 :: 167 :: 0 :: 39 :: 42 :: 180 :: 0 :: ds39acX11_verify_23
noncomputable def ds39acX11_verify_21 : List UInt8 := 1 :: 21 :: 6 :: 7 :: 160 :: 0 :: 25 :: 42 :: 21 :: 7 :: 182 :: 1 :: 88 :: 42 :: 180 :: 0 :: ds39acX11_verify_22
noncomputable def ds39acX11_verify_20 : List UInt8 := 16 :: 10 :: 29 :: 104 :: 42 :: 180 :: 0 :: 23 :: 21 :: 7 :: 46 :: 184 :: 1 :: 68 :: 132 :: 3 :: ds39acX11_verify_21
noncomputable def ds39acX11_verify_19 : List UInt8 := 3 :: 42 :: 180 :: 0 :: 130 :: 16 :: 10 :: 29 :: 104 :: 184 :: 1 :: 45 :: 42 :: 180 :: 0 :: 130 :: ds39acX11_verify_20
noncomputable def ds39acX11_verify_18 : List UInt8 := 7 :: 159 :: 0 :: 5 :: 3 :: 172 :: 21 :: 6 :: 6 :: 160 :: 0 :: 40 :: 42 :: 180 :: 0 :: 69 :: ds39acX11_verify_19
noncomputable def ds39acX11_verify_17 : List UInt8 := 16 :: 6 :: 167 :: 0 :: 15 :: 21 :: 6 :: 6 :: 160 :: 0 :: 7 :: 8 :: 167 :: 0 :: 5 :: 16 :: ds39acX11_verify_18
noncomputable def ds39acX11_verify_16 : List UInt8 := 21 :: 6 :: 4 :: 160 :: 0 :: 7 :: 7 :: 167 :: 0 :: 26 :: 21 :: 6 :: 5 :: 160 :: 0 :: 8 :: ds39acX11_verify_17
noncomputable def ds39acX11_verify_15 : List UInt8 := 6 :: 4 :: 7 :: 184 :: 0 :: 161 :: 153 :: 0 :: 46 :: 42 :: 180 :: 0 :: 16 :: 21 :: 7 :: 46 :: ds39acX11_verify_16
noncomputable def ds39acX11_verify_14 : List UInt8 := 16 :: 10 :: 29 :: 104 :: 42 :: 180 :: 0 :: 69 :: 3 :: 184 :: 1 :: 45 :: 167 :: 0 :: 165 :: 21 :: ds39acX11_verify_15
noncomputable def ds39acX11_verify_13 : List UInt8 := 4 :: 3 :: 54 :: 4 :: 21 :: 4 :: 153 :: 0 :: 187 :: 132 :: 3 :: 255 :: 42 :: 180 :: 0 :: 130 :: ds39acX11_verify_14
noncomputable def ds39acX11_verify_12 : List UInt8 := 7 :: 182 :: 1 :: 21 :: 154 :: 0 :: 5 :: 3 :: 172 :: 29 :: 158 :: 0 :: 7 :: 4 :: 167 :: 0 :: ds39acX11_verify_13
noncomputable def ds39acX11_verify_11 : List UInt8 := 159 :: 0 :: 25 :: 42 :: 180 :: 0 :: 16 :: 21 :: 7 :: 46 :: 5 :: 160 :: 0 :: 12 :: 42 :: 21 :: ds39acX11_verify_12
noncomputable def ds39acX11_verify_10 : List UInt8 := 184 :: 1 :: 17 :: 154 :: 0 :: 5 :: 3 :: 172 :: 21 :: 6 :: 154 :: 0 :: 69 :: 21 :: 7 :: 4 :: ds39acX11_verify_11
noncomputable def ds39acX11_verify_9 : List UInt8 := 42 :: 21 :: 7 :: 182 :: 1 :: 8 :: 153 :: 0 :: 16 :: 42 :: 180 :: 0 :: 69 :: 3 :: 21 :: 7 :: ds39acX11_verify_10
noncomputable def ds39acX11_verify_8 : List UInt8 := 5 :: 5 :: 96 :: 51 :: 17 :: 0 :: 255 :: 126 :: 128 :: 54 :: 7 :: 21 :: 4 :: 153 :: 0 :: 25 :: ds39acX11_verify_9
noncomputable def ds39acX11_verify_7 : List UInt8 := 5 :: 4 :: 96 :: 51 :: 17 :: 0 :: 255 :: 126 :: 16 :: 8 :: 120 :: 42 :: 180 :: 0 :: 7 :: 21 :: ds39acX11_verify_8
noncomputable def ds39acX11_verify_6 : List UInt8 := 0 :: 7 :: 21 :: 5 :: 51 :: 17 :: 0 :: 255 :: 126 :: 54 :: 6 :: 42 :: 180 :: 0 :: 7 :: 21 :: ds39acX11_verify_7
noncomputable def ds39acX11_verify_5 : List UInt8 := 3 :: 62 :: 4 :: 54 :: 4 :: 3 :: 54 :: 5 :: 21 :: 5 :: 28 :: 162 :: 1 :: 60 :: 42 :: 180 :: ds39acX11_verify_6
noncomputable def ds39acX11_verify_4 : List UInt8 := 255 :: 240 :: 42 :: 180 :: 0 :: 69 :: 3 :: 42 :: 180 :: 0 :: 33 :: 27 :: 46 :: 184 :: 1 :: 68 :: ds39acX11_verify_5
noncomputable def ds39acX11_verify_3 : List UInt8 := 16 :: 10 :: 162 :: 0 :: 16 :: 42 :: 180 :: 0 :: 69 :: 29 :: 3 :: 79 :: 132 :: 3 :: 1 :: 167 :: ds39acX11_verify_4
noncomputable def ds39acX11_verify_2 : List UInt8 := 42 :: 3 :: 181 :: 0 :: 154 :: 28 :: 6 :: 112 :: 153 :: 0 :: 5 :: 3 :: 172 :: 3 :: 62 :: 29 :: ds39acX11_verify_3
noncomputable def ds39acX11_verify_1 : List UInt8 := 180 :: 0 :: 30 :: 27 :: 46 :: 2 :: 160 :: 0 :: 5 :: 2 :: 172 :: 42 :: 180 :: 0 :: 154 :: 61 :: ds39acX11_verify_2
noncomputable def ds39acX11_verify_0 : List UInt8 := 42 :: 3 :: 181 :: 0 :: 151 :: 27 :: 3 :: 16 :: 7 :: 184 :: 0 :: 161 :: 153 :: 0 :: 13 :: 42 :: ds39acX11_verify_1
theorem dt39acX11_verify_0 : cX11_verify.data.toList.drop 0 = ds39acX11_verify_0 := by decide +kernel
theorem dt39acX11_verify_1 : cX11_verify.data.toList.drop 16 = ds39acX11_verify_1 := dq_suf 16 dt39acX11_verify_0 rfl rfl
theorem dt39acX11_verify_2 : cX11_verify.data.toList.drop 32 = ds39acX11_verify_2 := dq_suf 16 dt39acX11_verify_1 rfl rfl
theorem dt39acX11_verify_3 : cX11_verify.data.toList.drop 48 = ds39acX11_verify_3 := dq_suf 16 dt39acX11_verify_2 rfl rfl
theorem dt39acX11_verify_4 : cX11_verify.data.toList.drop 64 = ds39acX11_verify_4 := dq_suf 16 dt39acX11_verify_3 rfl rfl
theorem dX11_verify_0 : decode cX11_verify 0 = .ok (.aload_n 0, 1) := dq_42 (dq_suf 0 dt39acX11_verify_0 rfl rfl)
theorem dX11_verify_1 : decode cX11_verify 1 = .ok (.iconst 0, 1) := dq_3 (dq_suf 1 dt39acX11_verify_0 rfl rfl)
theorem dX11_verify_2 : decode cX11_verify 2 = .ok (.putfield 151, 3) := dq_181 (dq_suf 2 dt39acX11_verify_0 rfl rfl) rfl
theorem dX11_verify_5 : decode cX11_verify 5 = .ok (.iload_n 1, 1) := dq_27 (dq_suf 5 dt39acX11_verify_0 rfl rfl)
theorem dX11_verify_6 : decode cX11_verify 6 = .ok (.iconst 0, 1) := dq_3 (dq_suf 6 dt39acX11_verify_0 rfl rfl)
theorem dX11_verify_7 : decode cX11_verify 7 = .ok (.bipush 7, 2) := dq_16 (dq_suf 7 dt39acX11_verify_0 rfl rfl) (by decide +kernel)
theorem dX11_verify_9 : decode cX11_verify 9 = .ok (.invokestatic 161, 3) := dq_184 (dq_suf 9 dt39acX11_verify_0 rfl rfl) rfl
theorem dX11_verify_12 : decode cX11_verify 12 = .ok (.ifCond .eq 13, 3) := dq_153 (dq_suf 12 dt39acX11_verify_0 rfl rfl) (by decide +kernel)
theorem dX11_verify_15 : decode cX11_verify 15 = .ok (.aload_n 0, 1) := dq_42 (dq_suf 15 dt39acX11_verify_0 rfl rfl)
theorem dX11_verify_16 : decode cX11_verify 16 = .ok (.getfield 30, 3) := dq_180 (dq_suf 0 dt39acX11_verify_1 rfl rfl) rfl
theorem dX11_verify_19 : decode cX11_verify 19 = .ok (.iload_n 1, 1) := dq_27 (dq_suf 3 dt39acX11_verify_1 rfl rfl)
theorem dX11_verify_20 : decode cX11_verify 20 = .ok (.iaload, 1) := dq_46 (dq_suf 4 dt39acX11_verify_1 rfl rfl)
theorem dX11_verify_21 : decode cX11_verify 21 = .ok (.iconst (-1), 1) := dq_2 (dq_suf 5 dt39acX11_verify_1 rfl rfl)
theorem dX11_verify_22 : decode cX11_verify 22 = .ok (.if_icmp .ne 5, 3) := dq_160 (dq_suf 6 dt39acX11_verify_1 rfl rfl) (by decide +kernel)
theorem dX11_verify_25 : decode cX11_verify 25 = .ok (.iconst (-1), 1) := dq_2 (dq_suf 9 dt39acX11_verify_1 rfl rfl)
theorem dX11_verify_26 : decode cX11_verify 26 = .ok (.ireturn, 1) := dq_172 (dq_suf 10 dt39acX11_verify_1 rfl rfl)
theorem dX11_verify_27 : decode cX11_verify 27 = .ok (.aload_n 0, 1) := dq_42 (dq_suf 11 dt39acX11_verify_1 rfl rfl)
theorem dX11_verify_28 : decode cX11_verify 28 = .ok (.getfield 154, 3) := dq_180 (dq_suf 12 dt39acX11_verify_1 rfl rfl) rfl
theorem dX11_verify_31 : decode cX11_verify 31 = .ok (.istore_n 2, 1) := dq_61 (dq_suf 15 dt39acX11_verify_1 rfl rfl)
theorem dX11_verify_32 : decode cX11_verify 32 = .ok (.aload_n 0, 1) := dq_42 (dq_suf 0 dt39acX11_verify_2 rfl rfl)
theorem dX11_verify_33 : decode cX11_verify 33 = .ok (.iconst 0, 1) := dq_3 (dq_suf 1 dt39acX11_verify_2 rfl rfl)
theorem dX11_verify_34 : decode cX11_verify 34 = .ok (.putfield 154, 3) := dq_181 (dq_suf 2 dt39acX11_verify_2 rfl rfl) rfl
theorem dX11_verify_37 : decode cX11_verify 37 = .ok (.iload_n 2, 1) := dq_28 (dq_suf 5 dt39acX11_verify_2 rfl rfl)
theorem dX11_verify_38 : decode cX11_verify 38 = .ok (.iconst 3, 1) := dq_6 (dq_suf 6 dt39acX11_verify_2 rfl rfl)
theorem dX11_verify_39 : decode cX11_verify 39 = .ok (.irem, 1) := dq_112 (dq_suf 7 dt39acX11_verify_2 rfl rfl)
theorem dX11_verify_40 : decode cX11_verify 40 = .ok (.ifCond .eq 5, 3) := dq_153 (dq_suf 8 dt39acX11_verify_2 rfl rfl) (by decide +kernel)
theorem dX11_verify_43 : decode cX11_verify 43 = .ok (.iconst 0, 1) := dq_3 (dq_suf 11 dt39acX11_verify_2 rfl rfl)
theorem dX11_verify_44 : decode cX11_verify 44 = .ok (.ireturn, 1) := dq_172 (dq_suf 12 dt39acX11_verify_2 rfl rfl)
theorem dX11_verify_45 : decode cX11_verify 45 = .ok (.iconst 0, 1) := dq_3 (dq_suf 13 dt39acX11_verify_2 rfl rfl)
theorem dX11_verify_46 : decode cX11_verify 46 = .ok (.istore_n 3, 1) := dq_62 (dq_suf 14 dt39acX11_verify_2 rfl rfl)
theorem dX11_verify_47 : decode cX11_verify 47 = .ok (.iload_n 3, 1) := dq_29 (dq_suf 15 dt39acX11_verify_2 rfl rfl)
theorem dX11_verify_48 : decode cX11_verify 48 = .ok (.bipush 10, 2) := dq_16 (dq_suf 0 dt39acX11_verify_3 rfl rfl) (by decide +kernel)
theorem dX11_verify_50 : decode cX11_verify 50 = .ok (.if_icmp .ge 16, 3) := dq_162 (dq_suf 2 dt39acX11_verify_3 rfl rfl) (by decide +kernel)
theorem dX11_verify_53 : decode cX11_verify 53 = .ok (.aload_n 0, 1) := dq_42 (dq_suf 5 dt39acX11_verify_3 rfl rfl)
theorem dX11_verify_54 : decode cX11_verify 54 = .ok (.getfield 69, 3) := dq_180 (dq_suf 6 dt39acX11_verify_3 rfl rfl) rfl
theorem dX11_verify_57 : decode cX11_verify 57 = .ok (.iload_n 3, 1) := dq_29 (dq_suf 9 dt39acX11_verify_3 rfl rfl)
theorem dX11_verify_58 : decode cX11_verify 58 = .ok (.iconst 0, 1) := dq_3 (dq_suf 10 dt39acX11_verify_3 rfl rfl)
theorem dX11_verify_59 : decode cX11_verify 59 = .ok (.iastore, 1) := dq_79 (dq_suf 11 dt39acX11_verify_3 rfl rfl)
theorem dX11_verify_60 : decode cX11_verify 60 = .ok (.iinc 3 1, 3) := dq_132 (dq_suf 12 dt39acX11_verify_3 rfl rfl) rfl (by decide +kernel)
theorem dX11_verify_63 : decode cX11_verify 63 = .ok (.goto (-16), 3) := dq_167 (dq_suf 15 dt39acX11_verify_3 rfl rfl) (by decide +kernel)
theorem dX11_verify_66 : decode cX11_verify 66 = .ok (.aload_n 0, 1) := dq_42 (dq_suf 2 dt39acX11_verify_4 rfl rfl)
theorem dX11_verify_67 : decode cX11_verify 67 = .ok (.getfield 69, 3) := dq_180 (dq_suf 3 dt39acX11_verify_4 rfl rfl) rfl
theorem dX11_verify_70 : decode cX11_verify 70 = .ok (.iconst 0, 1) := dq_3 (dq_suf 6 dt39acX11_verify_4 rfl rfl)
theorem dX11_verify_71 : decode cX11_verify 71 = .ok (.aload_n 0, 1) := dq_42 (dq_suf 7 dt39acX11_verify_4 rfl rfl)
theorem dX11_verify_72 : decode cX11_verify 72 = .ok (.getfield 33, 3) := dq_180 (dq_suf 8 dt39acX11_verify_4 rfl rfl) rfl
