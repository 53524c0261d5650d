noncomputable def ds07cX1_init_1 : List UInt8 := 42 :: 43 :: 181 :: 0 :: 20 :: 42 :: 44 :: 181 :: 0 :: 24 :: 42 :: 45 :: 181 :: 0 :: 28 :: 177 :: []
noncomputable def ds07cX1_init_0 : List UInt8 := 42 :: 183 :: 0 :: 3 :: 42 :: 187 :: 0 :: 9 :: 89 :: 4 :: 183 :: 0 :: 11 :: 181 :: 0 :: 14 :: ds07cX1_init_1
theorem dt07cX1_init_0 : cX1_init.data.toList.drop 0 = ds07cX1_init_0 := by decide +kernel
theorem dt07cX1_init_1 : cX1_init.data.toList.drop 16 = ds07cX1_init_1 := dq_suf 16 dt07cX1_init_0 rfl rfl
theorem dX1_init_0 : decode cX1_init 0 = .ok (.aload_n 0, 1) := dq_42 (dq_suf 0 dt07cX1_init_0 rfl rfl)
theorem dX1_init_1 : decode cX1_init 1 = .ok (.invokespecial 3, 3) := dq_183 (dq_suf 1 dt07cX1_init_0 rfl rfl) rfl
theorem dX1_init_4 : decode cX1_init 4 = .ok (.aload_n 0, 1) := dq_42 (dq_suf 4 dt07cX1_init_0 rfl rfl)
theorem dX1_init_5 : decode cX1_init 5 = .ok (.new 9, 3) := dq_187 (dq_suf 5 dt07cX1_init_0 rfl rfl) rfl
theorem dX1_init_8 : decode cX1_init 8 = .ok (.dup, 1) := dq_89 (dq_suf 8 dt07cX1_init_0 rfl rfl)
theorem dX1_init_9 : decode cX1_init 9 = .ok (.iconst 1, 1) := dq_4 (dq_suf 9 dt07cX1_init_0 rfl rfl)
theorem dX1_init_10 : decode cX1_init 10 = .ok (.invokespecial 11, 3) := dq_183 (dq_suf 10 dt07cX1_init_0 rfl rfl) rfl
theorem dX1_init_13 : decode cX1_init 13 = .ok (.putfield 14, 3) := dq_181 (dq_suf 13 dt07cX1_init_0 rfl rfl) rfl
theorem dX1_init_16 : decode cX1_init 16 = .ok (.aload_n 0, 1) := dq_42 (dq_suf 0 dt07cX1_init_1 rfl rfl)
theorem dX1_init_17 : decode cX1_init 17 = .ok (.aload_n 1, 1) := dq_43 (dq_suf 1 dt07cX1_init_1 rfl rfl)
theorem dX1_init_18 : decode cX1_init 18 = .ok (.putfield 20, 3) := dq_181 (dq_suf 2 dt07cX1_init_1 rfl rfl) rfl
theorem dX1_init_21 : decode cX1_init 21 = .ok (.aload_n 0, 1) := dq_42 (dq_suf 5 dt07cX1_init_1 rfl rfl)
theorem dX1_init_22 : decode cX1_init 22 = .ok (.aload_n 2, 1) := dq_44 (dq_suf 6 dt07cX1_init_1 rfl rfl)
theorem dX1_init_23 : decode cX1_init 23 = .ok (.putfield 24, 3) := dq_181 (dq_suf 7 dt07cX1_init_1 rfl rfl) rfl
theorem dX1_init_26 : decode cX1_init 26 = .ok (.aload_n 0, 1) := dq_42 (dq_suf 10 dt07cX1_init_1 rfl rfl)
theorem dX1_init_27 : decode cX1_init 27 = .ok (.aload_n 3, 1) := dq_45 (dq_suf 11 dt07cX1_init_1 rfl rfl)
theorem dX1_init_28 : decode cX1_init 28 = .ok (.putfield 28, 3) := dq_181 (dq_suf 12 dt07cX1_init_1 rfl rfl) rfl
theorem dX1_init_31 : decode cX1_init 31 = .ok (.return_, 1) := dq_177 (dq_suf 15 dt07cX1_init_1 rfl rfl)
noncomputable def ds07cX1_isRight_12 : List UInt8 := 3 :: 172 :: []
noncomputable def ds07cX1_isRight_11 : List UInt8 := 180 :: 0 :: 28 :: 42 :: 180 :: 0 :: 44 :: 182 :: 0 :: 62 :: 132 :: 3 :: 1 :: 167 :: 255 :: 115 :: ds07cX1_isRight_12
noncomputable def ds07cX1_isRight_10 : List UInt8 := 42 :: 89 :: 180 :: 0 :: 44 :: 4 :: 100 :: 181 :: 0 :: 44 :: 42 :: 180 :: 0 :: 14 :: 3 :: 42 :: ds07cX1_isRight_11
noncomputable def ds07cX1_isRight_9 : List UInt8 := 154 :: 0 :: 16 :: 29 :: 28 :: 4 :: 100 :: 160 :: 0 :: 7 :: 4 :: 167 :: 0 :: 4 :: 3 :: 172 :: ds07cX1_isRight_10
noncomputable def ds07cX1_isRight_8 : List UInt8 := 14 :: 42 :: 21 :: 5 :: 21 :: 6 :: 182 :: 0 :: 59 :: 167 :: 0 :: 49 :: 42 :: 180 :: 0 :: 44 :: ds07cX1_isRight_9
noncomputable def ds07cX1_isRight_7 : List UInt8 := 21 :: 5 :: 21 :: 6 :: 182 :: 0 :: 56 :: 154 :: 0 :: 5 :: 3 :: 172 :: 21 :: 5 :: 153 :: 0 :: ds07cX1_isRight_8
noncomputable def ds07cX1_isRight_6 : List UInt8 := 54 :: 6 :: 42 :: 180 :: 0 :: 14 :: 3 :: 21 :: 6 :: 182 :: 0 :: 52 :: 153 :: 0 :: 14 :: 42 :: ds07cX1_isRight_7
noncomputable def ds07cX1_isRight_5 : List UInt8 := 182 :: 0 :: 48 :: 104 :: 42 :: 180 :: 0 :: 20 :: 21 :: 4 :: 5 :: 96 :: 182 :: 0 :: 48 :: 96 :: ds07cX1_isRight_6
noncomputable def ds07cX1_isRight_4 : List UInt8 := 182 :: 0 :: 48 :: 54 :: 5 :: 17 :: 1 :: 0 :: 42 :: 180 :: 0 :: 20 :: 21 :: 4 :: 4 :: 96 :: ds07cX1_isRight_5
noncomputable def ds07cX1_isRight_3 : List UInt8 := 29 :: 28 :: 162 :: 0 :: 142 :: 6 :: 29 :: 104 :: 54 :: 4 :: 42 :: 180 :: 0 :: 20 :: 21 :: 4 :: ds07cX1_isRight_4
noncomputable def ds07cX1_isRight_2 : List UInt8 := 42 :: 180 :: 0 :: 14 :: 3 :: 27 :: 182 :: 0 :: 40 :: 42 :: 3 :: 181 :: 0 :: 44 :: 3 :: 62 :: ds07cX1_isRight_3
noncomputable def ds07cX1_isRight_1 : List UInt8 := 0 :: 20 :: 182 :: 0 :: 31 :: 6 :: 108 :: 61 :: 42 :: 180 :: 0 :: 14 :: 3 :: 182 :: 0 :: 37 :: ds07cX1_isRight_2
noncomputable def ds07cX1_isRight_0 : List UInt8 := 42 :: 180 :: 0 :: 20 :: 182 :: 0 :: 31 :: 6 :: 112 :: 153 :: 0 :: 5 :: 3 :: 172 :: 42 :: 180 :: ds07cX1_isRight_1
theorem dt07cX1_isRight_0 : cX1_isRight.data.toList.drop 0 = ds07cX1_isRight_0 := by decide +kernel
theorem dt07cX1_isRight_1 : cX1_isRight.data.toList.drop 16 = ds07cX1_isRight_1 := dq_suf 16 dt07cX1_isRight_0 rfl rfl
theorem dt07cX1_isRight_2 : cX1_isRight.data.toList.drop 32 = ds07cX1_isRight_2 := dq_suf 16 dt07cX1_isRight_1 rfl rfl
theorem dt07cX1_isRight_3 : cX1_isRight.data.toList.drop 48 = ds07cX1_isRight_3 := dq_suf 16 dt07cX1_isRight_2 rfl rfl
theorem dt07cX1_isRight_4 : cX1_isRight.data.toList.drop 64 = ds07cX1_isRight_4 := dq_suf 16 dt07cX1_isRight_3 rfl rfl
theorem dt07cX1_isRight_5 : cX1_isRight.data.toList.drop 80 = ds07cX1_isRight_5 := dq_suf 16 dt07cX1_isRight_4 rfl rfl
theorem dt07cX1_isRight_6 : cX1_isRight.data.toList.drop 96 = ds07cX1_isRight_6 := dq_suf 16 dt07cX1_isRight_5 rfl rfl
theorem dt07cX1_isRight_7 : cX1_isRight.data.toList.drop 112 = ds07cX1_isRight_7 := dq_suf 16 dt07cX1_isRight_6 rfl rfl
theorem dt07cX1_isRight_8 : cX1_isRight.data.toList.drop 128 = ds07cX1_isRight_8 := dq_suf 16 dt07cX1_isRight_7 rfl rfl
theorem dt07cX1_isRight_9 : cX1_isRight.data.toList.drop 144 = ds07cX1_isRight_9 := dq_suf 16 dt07cX1_isRight_8 rfl rfl
theorem dt07cX1_isRight_10 : cX1_isRight.data.toList.drop 160 = ds07cX1_isRight_10 := dq_suf 16 dt07cX1_isRight_9 rfl rfl
theorem dt07cX1_isRight_11 : cX1_isRight.data.toList.drop 176 = ds07cX1_isRight_11 := dq_suf 16 dt07cX1_isRight_10 rfl rfl
theorem dt07cX1_isRight_12 : cX1_isRight.data.toList.drop 192 = ds07cX1_isRight_12 := dq_suf 16 dt07cX1_isRight_11 rfl rfl
theorem dX1_isRight_0 : decode cX1_isRight 0 = .ok (.aload_n 0, 1) := dq_42 (dq_suf 0 dt07cX1_isRight_0 rfl rfl)
theorem dX1_isRight_1 : decode cX1_isRight 1 = .ok (.getfield 20, 3) := dq_180 (dq_suf 1 dt07cX1_isRight_0 rfl rfl) rfl
theorem dX1_isRight_4 : decode cX1_isRight 4 = .ok (.invokevirtual 31, 3) := dq_182 (dq_suf 4 dt07cX1_isRight_0 rfl rfl) rfl
theorem dX1_isRight_7 : decode cX1_isRight 7 = .ok (.iconst 3, 1) := dq_6 (dq_suf 7 dt07cX1_isRight_0 rfl rfl)
theorem dX1_isRight_8 : decode cX1_isRight 8 = .ok (.irem, 1) := dq_112 (dq_suf 8 dt07cX1_isRight_0 rfl rfl)
theorem dX1_isRight_9 : decode cX1_isRight 9 = .ok (.ifCond .eq 5, 3) := dq_153 (dq_suf 9 dt07cX1_isRight_0 rfl rfl) (by decide +kernel)
theorem dX1_isRight_12 : decode cX1_isRight 12 = .ok (.iconst 0, 1) := dq_3 (dq_suf 12 dt07cX1_isRight_0 rfl rfl)
theorem dX1_isRight_13 : decode cX1_isRight 13 = .ok (.ireturn, 1) := dq_172 (dq_suf 13 dt07cX1_isRight_0 rfl rfl)
theorem dX1_isRight_14 : decode cX1_isRight 14 = .ok (.aload_n 0, 1) := dq_42 (dq_suf 14 dt07cX1_isRight_0 rfl rfl)
theorem dX1_isRight_15 : decode cX1_isRight 15 = .ok (.getfield 20, 3) := dq_180 (dq_suf 15 dt07cX1_isRight_0 rfl rfl) rfl
theorem dX1_isRight_18 : decode cX1_isRight 18 = .ok (.invokevirtual 31, 3) := dq_182 (dq_suf 2 dt07cX1_isRight_1 rfl rfl) rfl
theorem dX1_isRight_21 : decode cX1_isRight 21 = .ok (.iconst 3, 1) := dq_6 (dq_suf 5 dt07cX1_isRight_1 rfl rfl)
theorem dX1_isRight_22 : decode cX1_isRight 22 = .ok (.idiv, 1) := dq_108 (dq_suf 6 dt07cX1_isRight_1 rfl rfl)
theorem dX1_isRight_23 : decode cX1_isRight 23 = .ok (.istore_n 2, 1) := dq_61 (dq_suf 7 dt07cX1_isRight_1 rfl rfl)
theorem dX1_isRight_24 : decode cX1_isRight 24 = .ok (.aload_n 0, 1) := dq_42 (dq_suf 8 dt07cX1_isRight_1 rfl rfl)
theorem dX1_isRight_25 : decode cX1_isRight 25 = .ok (.getfield 14, 3) := dq_180 (dq_suf 9 dt07cX1_isRight_1 rfl rfl) rfl
theorem dX1_isRight_28 : decode cX1_isRight 28 = .ok (.iconst 0, 1) := dq_3 (dq_suf 12 dt07cX1_isRight_1 rfl rfl)
theorem dX1_isRight_29 : decode cX1_isRight 29 = .ok (.invokevirtual 37, 3) := dq_182 (dq_suf 13 dt07cX1_isRight_1 rfl rfl) rfl
theorem dX1_isRight_32 : decode cX1_isRight 32 = .ok (.aload_n 0, 1) := dq_42 (dq_suf 0 dt07cX1_isRight_2 rfl rfl)
theorem dX1_isRight_33 : decode cX1_isRight 33 = .ok (.getfield 14, 3) := dq_180 (dq_suf 1 dt07cX1_isRight_2 rfl rfl) rfl
theorem dX1_isRight_36 : decode cX1_isRight 36 = .ok (.iconst 0, 1) := dq_3 (dq_suf 4 dt07cX1_isRight_2 rfl rfl)
theorem dX1_isRight_37 : decode cX1_isRight 37 = .ok (.iload_n 1, 1) := dq_27 (dq_suf 5 dt07cX1_isRight_2 rfl rfl)
theorem dX1_isRight_38 : decode cX1_isRight 38 = .ok (.invokevirtual 40, 3) := dq_182 (dq_suf 6 dt07cX1_isRight_2 rfl rfl) rfl
theorem dX1_isRight_41 : decode cX1_isRight 41 = .ok (.aload_n 0, 1) := dq_42 (dq_suf 9 dt07cX1_isRight_2 rfl rfl)
theorem dX1_isRight_42 : decode cX1_isRight 42 = .ok (.iconst 0, 1) := dq_3 (dq_suf 10 dt07cX1_isRight_2 rfl rfl)
theorem dX1_isRight_43 : decode cX1_isRight 43 = .ok (.putfield 44, 3) := dq_181 (dq_suf 11 dt07cX1_isRight_2 rfl rfl) rfl
theorem dX1_isRight_46 : decode cX1_isRight 46 = .ok (.iconst 0, 1) := dq_3 (dq_suf 14 dt07cX1_isRight_2 rfl rfl)
theorem dX1_isRight_47 : decode cX1_isRight 47 = .ok (.istore_n 3, 1) := dq_62 (dq_suf 15 dt07cX1_isRight_2 rfl rfl)
theorem dX1_isRight_48 : decode cX1_isRight 48 = .ok (.iload_n 3, 1) := dq_29 (dq_suf 0 dt07cX1_isRight_3 rfl rfl)
theorem dX1_isRight_49 : decode cX1_isRight 49 = .ok (.iload_n 2, 1) := dq_28 (dq_suf 1 dt07cX1_isRight_3 rfl rfl)
theorem dX1_isRight_50 : decode cX1_isRight 50 = .ok (.if_icmp .ge 142, 3) := dq_162 (dq_suf 2 dt07cX1_isRight_3 rfl rfl) (by decide +kernel)
theorem dX1_isRight_53 : decode cX1_isRight 53 = .ok (.iconst 3, 1) := dq_6 (dq_suf 5 dt07cX1_isRight_3 rfl rfl)
theorem dX1_isRight_54 : decode cX1_isRight 54 = .ok (.iload_n 3, 1) := dq_29 (dq_suf 6 dt07cX1_isRight_3 rfl rfl)
theorem dX1_isRight_55 : decode cX1_isRight 55 = .ok (.imul, 1) := dq_104 (dq_suf 7 dt07cX1_isRight_3 rfl rfl)
theorem dX1_isRight_56 : decode cX1_isRight 56 = .ok (.istore 4, 2) := dq_54 (dq_suf 8 dt07cX1_isRight_3 rfl rfl) rfl
theorem dX1_isRight_58 : decode cX1_isRight 58 = .ok (.aload_n 0, 1) := dq_42 (dq_suf 10 dt07cX1_isRight_3 rfl rfl)
theorem dX1_isRight_59 : decode cX1_isRight 59 = .ok (.getfield 20, 3) := dq_180 (dq_suf 11 dt07cX1_isRight_3 rfl rfl) rfl
theorem dX1_isRight_62 : decode cX1_isRight 62 = .ok (.iload 4, 2) := dq_21 (dq_suf 14 dt07cX1_isRight_3 rfl rfl) rfl
theorem dX1_isRight_64 : decode cX1_isRight 64 = .ok (.invokevirtual 48, 3) := dq_182 (dq_suf 0 dt07cX1_isRight_4 rfl rfl) rfl
theorem dX1_isRight_67 : decode cX1_isRight 67 = .ok (.istore 5, 2) := dq_54 (dq_suf 3 dt07cX1_isRight_4 rfl rfl) rfl
theorem dX1_isRight_69 : decode cX1_isRight 69 = .ok (.sipush 256, 3) := dq_17 (dq_suf 5 dt07cX1_isRight_4 rfl rfl) (by decide +kernel)
theorem dX1_isRight_72 : decode cX1_isRight 72 = .ok (.aload_n 0, 1) := dq_42 (dq_suf 8 dt07cX1_isRight_4 rfl rfl)
theorem dX1_isRight_73 : decode cX1_isRight 73 = .ok (.getfield 20, 3) := dq_180 (dq_suf 9 dt07cX1_isRight_4 rfl rfl) rfl
theorem dX1_isRight_76 : decode cX1_isRight 76 = .ok (.iload 4, 2) := dq_21 (dq_suf 12 dt07cX1_isRight_4 rfl rfl) rfl
theorem dX1_isRight_78 : decode cX1_isRight 78 = .ok (.iconst 1, 1) := dq_4 (dq_suf 14 dt07cX1_isRight_4 rfl rfl)
theorem dX1_isRight_79 : decode cX1_isRight 79 = .ok (.iadd, 1) := dq_96 (dq_suf 15 dt07cX1_isRight_4 rfl rfl)
theorem dX1_isRight_80 : decode cX1_isRight 80 = .ok (.invokevirtual 48, 3) := dq_182 (dq_suf 0 dt07cX1_isRight_5 rfl rfl) rfl
theorem dX1_isRight_83 : decode cX1_isRight 83 = .ok (.imul, 1) := dq_104 (dq_suf 3 dt07cX1_isRight_5 rfl rfl)
theorem dX1_isRight_84 : decode cX1_isRight 84 = .ok (.aload_n 0, 1) := dq_42 (dq_suf 4 dt07cX1_isRight_5 rfl rfl)
theorem dX1_isRight_85 : decode cX1_isRight 85 = .ok (.getfield 20, 3) := dq_180 (dq_suf 5 dt07cX1_isRight_5 rfl rfl) rfl
theorem dX1_isRight_88 : decode cX1_isRight 88 = .ok (.iload 4, 2) := dq_21 (dq_suf 8 dt07cX1_isRight_5 rfl rfl) rfl
theorem dX1_isRight_90 : decode cX1_isRight 90 = .ok (.iconst 2, 1) := dq_5 (dq_suf 10 dt07cX1_isRight_5 rfl rfl)
theorem dX1_isRight_91 : decode cX1_isRight 91 = .ok (.iadd, 1) := dq_96 (dq_suf 11 dt07cX1_isRight_5 rfl rfl)
theorem dX1_isRight_92 : decode cX1_isRight 92 = .ok (.invokevirtual 48, 3) := dq_182 (dq_suf 12 dt07cX1_isRight_5 rfl rfl) rfl
theorem dX1_isRight_95 : decode cX1_isRight 95 = .ok (.iadd, 1) := dq_96 (dq_suf 15 dt07cX1_isRight_5 rfl rfl)
theorem dX1_isRight_96 : decode cX1_isRight 96 = .ok (.istore 6, 2) := dq_54 (dq_suf 0 dt07cX1_isRight_6 rfl rfl) rfl
theorem dX1_isRight_98 : decode cX1_isRight 98 = .ok (.aload_n 0, 1) := dq_42 (dq_suf 2 dt07cX1_isRight_6 rfl rfl)
theorem dX1_isRight_99 : decode cX1_isRight 99 = .ok (.getfield 14, 3) := dq_180 (dq_suf 3 dt07cX1_isRight_6 rfl rfl) rfl
theorem dX1_isRight_102 : decode cX1_isRight 102 = .ok (.iconst 0, 1) := dq_3 (dq_suf 6 dt07cX1_isRight_6 rfl rfl)
theorem dX1_isRight_103 : decode cX1_isRight 103 = .ok (.iload 6, 2) := dq_21 (dq_suf 7 dt07cX1_isRight_6 rfl rfl) rfl
theorem dX1_isRight_105 : decode cX1_isRight 105 = .ok (.invokevirtual 52, 3) := dq_182 (dq_suf 9 dt07cX1_isRight_6 rfl rfl) rfl
theorem dX1_isRight_108 : decode cX1_isRight 108 = .ok (.ifCond .eq 14, 3) := dq_153 (dq_suf 12 dt07cX1_isRight_6 rfl rfl) (by decide +kernel)
theorem dX1_isRight_111 : decode cX1_isRight 111 = .ok (.aload_n 0, 1) := dq_42 (dq_suf 15 dt07cX1_isRight_6 rfl rfl)
theorem dX1_isRight_112 : decode cX1_isRight 112 = .ok (.iload 5, 2) := dq_21 (dq_suf 0 dt07cX1_isRight_7 rfl rfl) rfl
theorem dX1_isRight_114 : decode cX1_isRight 114 = .ok (.iload 6, 2) := dq_21 (dq_suf 2 dt07cX1_isRight_7 rfl rfl) rfl
theorem dX1_isRight_116 : decode cX1_isRight 116 = .ok (.invokevirtual 56, 3) := dq_182 (dq_suf 4 dt07cX1_isRight_7 rfl rfl) rfl
theorem dX1_isRight_119 : decode cX1_isRight 119 = .ok (.ifCond .ne 5, 3) := dq_154 (dq_suf 7 dt07cX1_isRight_7 rfl rfl) (by decide +kernel)
theorem dX1_isRight_122 : decode cX1_isRight 122 = .ok (.iconst 0, 1) := dq_3 (dq_suf 10 dt07cX1_isRight_7 rfl rfl)
theorem dX1_isRight_123 : decode cX1_isRight 123 = .ok (.ireturn, 1) := dq_172 (dq_suf 11 dt07cX1_isRight_7 rfl rfl)
theorem dX1_isRight_124 : decode cX1_isRight 124 = .ok (.iload 5, 2) := dq_21 (dq_suf 12 dt07cX1_isRight_7 rfl rfl) rfl
theorem dX1_isRight_126 : decode cX1_isRight 126 = .ok (.ifCond .eq 14, 3) := dq_153 (dq_suf 14 dt07cX1_isRight_7 rfl rfl) (by decide +kernel)
theorem dX1_isRight_129 : decode cX1_isRight 129 = .ok (.aload_n 0, 1) := dq_42 (dq_suf 1 dt07cX1_isRight_8 rfl rfl)
theorem dX1_isRight_130 : decode cX1_isRight 130 = .ok (.iload 5, 2) := dq_21 (dq_suf 2 dt07cX1_isRight_8 rfl rfl) rfl
theorem dX1_isRight_132 : decode cX1_isRight 132 = .ok (.iload 6, 2) := dq_21 (dq_suf 4 dt07cX1_isRight_8 rfl rfl) rfl
theorem dX1_isRight_134 : decode cX1_isRight 134 = .ok (.invokevirtual 59, 3) := dq_182 (dq_suf 6 dt07cX1_isRight_8 rfl rfl) rfl
theorem dX1_isRight_137 : decode cX1_isRight 137 = .ok (.goto 49, 3) := dq_167 (dq_suf 9 dt07cX1_isRight_8 rfl rfl) (by decide +kernel)
theorem dX1_isRight_140 : decode cX1_isRight 140 = .ok (.aload_n 0, 1) := dq_42 (dq_suf 12 dt07cX1_isRight_8 rfl rfl)
theorem dX1_isRight_141 : decode cX1_isRight 141 = .ok (.getfield 44, 3) := dq_180 (dq_suf 13 dt07cX1_isRight_8 rfl rfl) rfl
theorem dX1_isRight_144 : decode cX1_isRight 144 = .ok (.ifCond .ne 16, 3) := dq_154 (dq_suf 0 dt07cX1_isRight_9 rfl rfl) (by decide +kernel)
theorem dX1_isRight_147 : decode cX1_isRight 147 = .ok (.iload_n 3, 1) := dq_29 (dq_suf 3 dt07cX1_isRight_9 rfl rfl)
theorem dX1_isRight_148 : decode cX1_isRight 148 = .ok (.iload_n 2, 1) := dq_28 (dq_suf 4 dt07cX1_isRight_9 rfl rfl)
theorem dX1_isRight_149 : decode cX1_isRight 149 = .ok (.iconst 1, 1) := dq_4 (dq_suf 5 dt07cX1_isRight_9 rfl rfl)
theorem dX1_isRight_150 : decode cX1_isRight 150 = .ok (.isub, 1) := dq_100 (dq_suf 6 dt07cX1_isRight_9 rfl rfl)
theorem dX1_isRight_151 : decode cX1_isRight 151 = .ok (.if_icmp .ne 7, 3) := dq_160 (dq_suf 7 dt07cX1_isRight_9 rfl rfl) (by decide +kernel)
theorem dX1_isRight_154 : decode cX1_isRight 154 = .ok (.iconst 1, 1) := dq_4 (dq_suf 10 dt07cX1_isRight_9 rfl rfl)
theorem dX1_isRight_155 : decode cX1_isRight 155 = .ok (.goto 4, 3) := dq_167 (dq_suf 11 dt07cX1_isRight_9 rfl rfl) (by decide +kernel)
theorem dX1_isRight_158 : decode cX1_isRight 158 = .ok (.iconst 0, 1) := dq_3 (dq_suf 14 dt07cX1_isRight_9 rfl rfl)
theorem dX1_isRight_159 : decode cX1_isRight 159 = .ok (.ireturn, 1) := dq_172 (dq_suf 15 dt07cX1_isRight_9 rfl rfl)
theorem dX1_isRight_160 : decode cX1_isRight 160 = .ok (.aload_n 0, 1) := dq_42 (dq_suf 0 dt07cX1_isRight_10 rfl rfl)
theorem dX1_isRight_161 : decode cX1_isRight 161 = .ok (.dup, 1) := dq_89 (dq_suf 1 dt07cX1_isRight_10 rfl rfl)
theorem dX1_isRight_162 : decode cX1_isRight 162 = .ok (.getfield 44, 3) := dq_180 (dq_suf 2 dt07cX1_isRight_10 rfl rfl) rfl
theorem dX1_isRight_165 : decode cX1_isRight 165 = .ok (.iconst 1, 1) := dq_4 (dq_suf 5 dt07cX1_isRight_10 rfl rfl)
theorem dX1_isRight_166 : decode cX1_isRight 166 = .ok (.isub, 1) := dq_100 (dq_suf 6 dt07cX1_isRight_10 rfl rfl)
theorem dX1_isRight_167 : decode cX1_isRight 167 = .ok (.putfield 44, 3) := dq_181 (dq_suf 7 dt07cX1_isRight_10 rfl rfl) rfl
theorem dX1_isRight_170 : decode cX1_isRight 170 = .ok (.aload_n 0, 1) := dq_42 (dq_suf 10 dt07cX1_isRight_10 rfl rfl)
theorem dX1_isRight_171 : decode cX1_isRight 171 = .ok (.getfield 14, 3) := dq_180 (dq_suf 11 dt07cX1_isRight_10 rfl rfl) rfl
theorem dX1_isRight_174 : decode cX1_isRight 174 = .ok (.iconst 0, 1) := dq_3 (dq_suf 14 dt07cX1_isRight_10 rfl rfl)
theorem dX1_isRight_175 : decode cX1_isRight 175 = .ok (.aload_n 0, 1) := dq_42 (dq_suf 15 dt07cX1_isRight_10 rfl rfl)
theorem dX1_isRight_176 : decode cX1_isRight 176 = .ok (.getfield 28, 3) := dq_180 (dq_suf 0 dt07cX1_isRight_11 rfl rfl) rfl
theorem dX1_isRight_179 : decode cX1_isRight 179 = .ok (.aload_n 0, 1) := dq_42 (dq_suf 3 dt07cX1_isRight_11 rfl rfl)
theorem dX1_isRight_180 : decode cX1_isRight 180 = .ok (.getfield 44, 3) := dq_180 (dq_suf 4 dt07cX1_isRight_11 rfl rfl) rfl
theorem dX1_isRight_183 : decode cX1_isRight 183 = .ok (.invokevirtual 62, 3) := dq_182 (dq_suf 7 dt07cX1_isRight_11 rfl rfl) rfl
theorem dX1_isRight_186 : decode cX1_isRight 186 = .ok (.iinc 3 1, 3) := dq_132 (dq_suf 10 dt07cX1_isRight_11 rfl rfl) rfl (by decide +kernel)
theorem dX1_isRight_189 : decode cX1_isRight 189 = .ok (.goto (-141), 3) := dq_167 (dq_suf 13 dt07cX1_isRight_11 rfl rfl) (by decide +kernel)
theorem dX1_isRight_192 : decode cX1_isRight 192 = .ok (.iconst 0, 1) := dq_3 (dq_suf 0 dt07cX1_isRight_12 rfl rfl)
theorem dX1_isRight_193 : decode cX1_isRight 193 = .ok (.ireturn, 1) := dq_172 (dq_suf 1 dt07cX1_isRight_12 rfl rfl)
noncomputable def ds07cX1_isAllowed_8 : List UInt8 := 7 :: 4 :: 167 :: 0 :: 4 :: 3 :: 172 :: 3 :: 172 :: []
noncomputable def ds07cX1_isAllowed_7 : List UInt8 := 2 :: 154 :: 162 :: 0 :: 7 :: 4 :: 167 :: 0 :: 4 :: 3 :: 172 :: 29 :: 16 :: 7 :: 160 :: 0 :: ds07cX1_isAllowed_8
noncomputable def ds07cX1_isAllowed_6 : List UInt8 := 4 :: 167 :: 0 :: 4 :: 3 :: 172 :: 29 :: 8 :: 160 :: 0 :: 17 :: 42 :: 180 :: 0 :: 44 :: 17 :: ds07cX1_isAllowed_7
noncomputable def ds07cX1_isAllowed_5 : List UInt8 := 7 :: 160 :: 0 :: 7 :: 4 :: 167 :: 0 :: 4 :: 3 :: 172 :: 29 :: 16 :: 6 :: 160 :: 0 :: 7 :: ds07cX1_isAllowed_6
noncomputable def ds07cX1_isAllowed_4 : List UInt8 := 182 :: 0 :: 71 :: 182 :: 0 :: 52 :: 153 :: 0 :: 7 :: 4 :: 167 :: 0 :: 4 :: 3 :: 172 :: 29 :: ds07cX1_isAllowed_5
noncomputable def ds07cX1_isAllowed_3 : List UInt8 := 27 :: 29 :: 5 :: 160 :: 0 :: 26 :: 42 :: 180 :: 0 :: 14 :: 3 :: 42 :: 180 :: 0 :: 24 :: 28 :: ds07cX1_isAllowed_4
noncomputable def ds07cX1_isAllowed_2 : List UInt8 := 0 :: 0 :: 0 :: 80 :: 0 :: 0 :: 0 :: 92 :: 0 :: 0 :: 0 :: 113 :: 29 :: 4 :: 159 :: 0 :: ds07cX1_isAllowed_3
noncomputable def ds07cX1_isAllowed_1 : List UInt8 := 0 :: 0 :: 0 :: 0 :: 0 :: 0 :: 0 :: 4 :: 0 :: 0 :: 0 :: 34 :: 0 :: 0 :: 0 :: 69 :: ds07cX1_isAllowed_2
noncomputable def ds07cX1_isAllowed_0 : List UInt8 := 42 :: 180 :: 0 :: 24 :: 28 :: 182 :: 0 :: 66 :: 62 :: 27 :: 170 :: 0 :: 0 :: 0 :: 0 :: 125 :: ds07cX1_isAllowed_1
theorem dt07cX1_isAllowed_0 : cX1_isAllowed.data.toList.drop 0 = ds07cX1_isAllowed_0 := by decide +kernel
theorem dt07cX1_isAllowed_1 : cX1_isAllowed.data.toList.drop 16 = ds07cX1_isAllowed_1 := dq_suf 16 dt07cX1_isAllowed_0 rfl rfl
theorem dt07cX1_isAllowed_2 : cX1_isAllowed.data.toList.drop 32 = ds07cX1_isAllowed_2 := dq_suf 16 dt07cX1_isAllowed_1 rfl rfl
theorem dt07cX1_isAllowed_3 : cX1_isAllowed.data.toList.drop 48 = ds07cX1_isAllowed_3 := dq_suf 16 dt07cX1_isAllowed_2 rfl rfl
theorem dt07cX1_isAllowed_4 : cX1_isAllowed.data.toList.drop 64 = ds07cX1_isAllowed_4 := dq_suf 16 dt07cX1_isAllowed_3 rfl rfl
theorem dt07cX1_isAllowed_5 : cX1_isAllowed.data.toList.drop 80 = ds07cX1_isAllowed_5 := dq_suf 16 dt07cX1_isAllowed_4 rfl rfl
theorem dt07cX1_isAllowed_6 : cX1_isAllowed.data.toList.drop 96 = ds07cX1_isAllowed_6 := dq_suf 16 dt07cX1_isAllowed_5 rfl rfl
theorem dt07cX1_isAllowed_7 : cX1_isAllowed.data.toList.drop 112 = ds07cX1_isAllowed_7 := dq_suf 16 dt07cX1_isAllowed_6 rfl rfl
theorem dt07cX1_isAllowed_8 : cX1_isAllowed.data.toList.drop 128 = ds07cX1_isAllowed_8 := dq_suf 16 dt07cX1_isAllowed_7 rfl rfl
theorem dX1_isAllowed_0 : decode cX1_isAllowed 0 = .ok (.aload_n 0, 1) := dq_42 (dq_suf 0 dt07cX1_isAllowed_0 rfl rfl)
theorem dX1_isAllowed_1 : decode cX1_isAllowed 1 = .ok (.getfield 24, 3) := dq_180 (dq_suf 1 dt07cX1_isAllowed_0 rfl rfl) rfl
theorem dX1_isAllowed_4 : decode cX1_isAllowed 4 = .ok (.iload_n 2, 1) := dq_28 (dq_suf 4 dt07cX1_isAllowed_0 rfl rfl)
theorem dX1_isAllowed_5 : decode cX1_isAllowed 5 = .ok (.invokevirtual 66, 3) := dq_182 (dq_suf 5 dt07cX1_isAllowed_0 rfl rfl) rfl
theorem dX1_isAllowed_8 : decode cX1_isAllowed 8 = .ok (.istore_n 3, 1) := dq_62 (dq_suf 8 dt07cX1_isAllowed_0 rfl rfl)
theorem dX1_isAllowed_9 : decode cX1_isAllowed 9 = .ok (.iload_n 1, 1) := dq_27 (dq_suf 9 dt07cX1_isAllowed_0 rfl rfl)
theorem dX1_isAllowed_10 : decode cX1_isAllowed 10 = .ok (.tableswitch 125 0 4 #[34, 69, 80, 92, 113], 34) := by decide +kernel
theorem dX1_isAllowed_44 : decode cX1_isAllowed 44 = .ok (.iload_n 3, 1) := dq_29 (dq_suf 12 dt07cX1_isAllowed_2 rfl rfl)
theorem dX1_isAllowed_45 : decode cX1_isAllowed 45 = .ok (.iconst 1, 1) := dq_4 (dq_suf 13 dt07cX1_isAllowed_2 rfl rfl)
theorem dX1_isAllowed_46 : decode cX1_isAllowed 46 = .ok (.if_icmp .eq 27, 3) := dq_159 (dq_suf 14 dt07cX1_isAllowed_2 rfl rfl) (by decide +kernel)
theorem dX1_isAllowed_49 : decode cX1_isAllowed 49 = .ok (.iload_n 3, 1) := dq_29 (dq_suf 1 dt07cX1_isAllowed_3 rfl rfl)
theorem dX1_isAllowed_50 : decode cX1_isAllowed 50 = .ok (.iconst 2, 1) := dq_5 (dq_suf 2 dt07cX1_isAllowed_3 rfl rfl)
theorem dX1_isAllowed_51 : decode cX1_isAllowed 51 = .ok (.if_icmp .ne 26, 3) := dq_160 (dq_suf 3 dt07cX1_isAllowed_3 rfl rfl) (by decide +kernel)
theorem dX1_isAllowed_54 : decode cX1_isAllowed 54 = .ok (.aload_n 0, 1) := dq_42 (dq_suf 6 dt07cX1_isAllowed_3 rfl rfl)
theorem dX1_isAllowed_55 : decode cX1_isAllowed 55 = .ok (.getfield 14, 3) := dq_180 (dq_suf 7 dt07cX1_isAllowed_3 rfl rfl) rfl
theorem dX1_isAllowed_58 : decode cX1_isAllowed 58 = .ok (.iconst 0, 1) := dq_3 (dq_suf 10 dt07cX1_isAllowed_3 rfl rfl)
theorem dX1_isAllowed_59 : decode cX1_isAllowed 59 = .ok (.aload_n 0, 1) := dq_42 (dq_suf 11 dt07cX1_isAllowed_3 rfl rfl)
theorem dX1_isAllowed_60 : decode cX1_isAllowed 60 = .ok (.getfield 24, 3) := dq_180 (dq_suf 12 dt07cX1_isAllowed_3 rfl rfl) rfl
theorem dX1_isAllowed_63 : decode cX1_isAllowed 63 = .ok (.iload_n 2, 1) := dq_28 (dq_suf 15 dt07cX1_isAllowed_3 rfl rfl)
theorem dX1_isAllowed_64 : decode cX1_isAllowed 64 = .ok (.invokevirtual 71, 3) := dq_182 (dq_suf 0 dt07cX1_isAllowed_4 rfl rfl) rfl
theorem dX1_isAllowed_67 : decode cX1_isAllowed 67 = .ok (.invokevirtual 52, 3) := dq_182 (dq_suf 3 dt07cX1_isAllowed_4 rfl rfl) rfl
theorem dX1_isAllowed_70 : decode cX1_isAllowed 70 = .ok (.ifCond .eq 7, 3) := dq_153 (dq_suf 6 dt07cX1_isAllowed_4 rfl rfl) (by decide +kernel)
theorem dX1_isAllowed_73 : decode cX1_isAllowed 73 = .ok (.iconst 1, 1) := dq_4 (dq_suf 9 dt07cX1_isAllowed_4 rfl rfl)
theorem dX1_isAllowed_74 : decode cX1_isAllowed 74 = .ok (.goto 4, 3) := dq_167 (dq_suf 10 dt07cX1_isAllowed_4 rfl rfl) (by decide +kernel)
theorem dX1_isAllowed_77 : decode cX1_isAllowed 77 = .ok (.iconst 0, 1) := dq_3 (dq_suf 13 dt07cX1_isAllowed_4 rfl rfl)
theorem dX1_isAllowed_78 : decode cX1_isAllowed 78 = .ok (.ireturn, 1) := dq_172 (dq_suf 14 dt07cX1_isAllowed_4 rfl rfl)
theorem dX1_isAllowed_79 : decode cX1_isAllowed 79 = .ok (.iload_n 3, 1) := dq_29 (dq_suf 15 dt07cX1_isAllowed_4 rfl rfl)
theorem dX1_isAllowed_80 : decode cX1_isAllowed 80 = .ok (.iconst 4, 1) := dq_7 (dq_suf 0 dt07cX1_isAllowed_5 rfl rfl)
theorem dX1_isAllowed_81 : decode cX1_isAllowed 81 = .ok (.if_icmp .ne 7, 3) := dq_160 (dq_suf 1 dt07cX1_isAllowed_5 rfl rfl) (by decide +kernel)
theorem dX1_isAllowed_84 : decode cX1_isAllowed 84 = .ok (.iconst 1, 1) := dq_4 (dq_suf 4 dt07cX1_isAllowed_5 rfl rfl)
theorem dX1_isAllowed_85 : decode cX1_isAllowed 85 = .ok (.goto 4, 3) := dq_167 (dq_suf 5 dt07cX1_isAllowed_5 rfl rfl) (by decide +kernel)
theorem dX1_isAllowed_88 : decode cX1_isAllowed 88 = .ok (.iconst 0, 1) := dq_3 (dq_suf 8 dt07cX1_isAllowed_5 rfl rfl)
theorem dX1_isAllowed_89 : decode cX1_isAllowed 89 = .ok (.ireturn, 1) := dq_172 (dq_suf 9 dt07cX1_isAllowed_5 rfl rfl)
theorem dX1_isAllowed_90 : decode cX1_isAllowed 90 = .ok (.iload_n 3, 1) := dq_29 (dq_suf 10 dt07cX1_isAllowed_5 rfl rfl)
theorem dX1_isAllowed_91 : decode cX1_isAllowed 91 = .ok (.bipush 6, 2) := dq_16 (dq_suf 11 dt07cX1_isAllowed_5 rfl rfl) (by decide +kernel)
theorem dX1_isAllowed_93 : decode cX1_isAllowed 93 = .ok (.if_icmp .ne 7, 3) := dq_160 (dq_suf 13 dt07cX1_isAllowed_5 rfl rfl) (by decide +kernel)
theorem dX1_isAllowed_96 : decode cX1_isAllowed 96 = .ok (.iconst 1, 1) := dq_4 (dq_suf 0 dt07cX1_isAllowed_6 rfl rfl)
theorem dX1_isAllowed_97 : decode cX1_isAllowed 97 = .ok (.goto 4, 3) := dq_167 (dq_suf 1 dt07cX1_isAllowed_6 rfl rfl) (by decide +kernel)
theorem dX1_isAllowed_100 : decode cX1_isAllowed 100 = .ok (.iconst 0, 1) := dq_3 (dq_suf 4 dt07cX1_isAllowed_6 rfl rfl)
theorem dX1_isAllowed_101 : decode cX1_isAllowed 101 = .ok (.ireturn, 1) := dq_172 (dq_suf 5 dt07cX1_isAllowed_6 rfl rfl)
theorem dX1_isAllowed_102 : decode cX1_isAllowed 102 = .ok (.iload_n 3, 1) := dq_29 (dq_suf 6 dt07cX1_isAllowed_6 rfl rfl)
theorem dX1_isAllowed_103 : decode cX1_isAllowed 103 = .ok (.iconst 5, 1) := dq_8 (dq_suf 7 dt07cX1_isAllowed_6 rfl rfl)
theorem dX1_isAllowed_104 : decode cX1_isAllowed 104 = .ok (.if_icmp .ne 17, 3) := dq_160 (dq_suf 8 dt07cX1_isAllowed_6 rfl rfl) (by decide +kernel)
theorem dX1_isAllowed_107 : decode cX1_isAllowed 107 = .ok (.aload_n 0, 1) := dq_42 (dq_suf 11 dt07cX1_isAllowed_6 rfl rfl)
theorem dX1_isAllowed_108 : decode cX1_isAllowed 108 = .ok (.getfield 44, 3) := dq_180 (dq_suf 12 dt07cX1_isAllowed_6 rfl rfl) rfl
theorem dX1_isAllowed_111 : decode cX1_isAllowed 111 = .ok (.sipush 666, 3) := dq_17 (dq_suf 15 dt07cX1_isAllowed_6 rfl rfl) (by decide +kernel)
theorem dX1_isAllowed_114 : decode cX1_isAllowed 114 = .ok (.if_icmp .ge 7, 3) := dq_162 (dq_suf 2 dt07cX1_isAllowed_7 rfl rfl) (by decide +kernel)
theorem dX1_isAllowed_117 : decode cX1_isAllowed 117 = .ok (.iconst 1, 1) := dq_4 (dq_suf 5 dt07cX1_isAllowed_7 rfl rfl)
theorem dX1_isAllowed_118 : decode cX1_isAllowed 118 = .ok (.goto 4, 3) := dq_167 (dq_suf 6 dt07cX1_isAllowed_7 rfl rfl) (by decide +kernel)
theorem dX1_isAllowed_121 : decode cX1_isAllowed 121 = .ok (.iconst 0, 1) := dq_3 (dq_suf 9 dt07cX1_isAllowed_7 rfl rfl)
theorem dX1_isAllowed_122 : decode cX1_isAllowed 122 = .ok (.ireturn, 1) := dq_172 (dq_suf 10 dt07cX1_isAllowed_7 rfl rfl)
theorem dX1_isAllowed_123 : decode cX1_isAllowed 123 = .ok (.iload_n 3, 1) := dq_29 (dq_suf 11 dt07cX1_isAllowed_7 rfl rfl)
theorem dX1_isAllowed_124 : decode cX1_isAllowed 124 = .ok (.bipush 7, 2) := dq_16 (dq_suf 12 dt07cX1_isAllowed_7 rfl rfl) (by decide +kernel)
theorem dX1_isAllowed_126 : decode cX1_isAllowed 126 = .ok (.if_icmp .ne 7, 3) := dq_160 (dq_suf 14 dt07cX1_isAllowed_7 rfl rfl) (by decide +kernel)
theorem dX1_isAllowed_129 : decode cX1_isAllowed 129 = .ok (.iconst 1, 1) := dq_4 (dq_suf 1 dt07cX1_isAllowed_8 rfl rfl)
theorem dX1_isAllowed_130 : decode cX1_isAllowed 130 = .ok (.goto 4, 3) := dq_167 (dq_suf 2 dt07cX1_isAllowed_8 rfl rfl) (by decide +kernel)
theorem dX1_isAllowed_133 : decode cX1_isAllowed 133 = .ok (.iconst 0, 1) := dq_3 (dq_suf 5 dt07cX1_isAllowed_8 rfl rfl)
theorem dX1_isAllowed_134 : decode cX1_isAllowed 134 = .ok (.ireturn, 1) := dq_172 (dq_suf 6 dt07cX1_isAllowed_8 rfl rfl)
theorem dX1_isAllowed_135 : decode cX1_isAllowed 135 = .ok (.iconst 0, 1) := dq_3 (dq_suf 7 dt07cX1_isAllowed_8 rfl rfl)
theorem dX1_isAllowed_136 : decode cX1_isAllowed 136 = .ok (.ireturn, 1) := dq_172 (dq_suf 8 dt07cX1_isAllowed_8 rfl rfl)
noncomputable def ds07cX1_apply_6 : List UInt8 := 14 :: 3 :: 42 :: 180 :: 0 :: 24 :: 28 :: 182 :: 0 :: 74 :: 182 :: 0 :: 40 :: 177 :: []
noncomputable def ds07cX1_apply_5 : List UInt8 := 24 :: 28 :: 182 :: 0 :: 84 :: 182 :: 0 :: 40 :: 27 :: 4 :: 160 :: 0 :: 19 :: 42 :: 180 :: 0 :: ds07cX1_apply_6
noncomputable def ds07cX1_apply_4 : List UInt8 := 182 :: 0 :: 77 :: 16 :: 6 :: 182 :: 0 :: 81 :: 42 :: 180 :: 0 :: 14 :: 3 :: 42 :: 180 :: 0 :: ds07cX1_apply_5
noncomputable def ds07cX1_apply_3 : List UInt8 := 0 :: 44 :: 27 :: 7 :: 160 :: 0 :: 20 :: 42 :: 180 :: 0 :: 14 :: 3 :: 42 :: 180 :: 0 :: 24 :: ds07cX1_apply_4
noncomputable def ds07cX1_apply_2 : List UInt8 := 24 :: 28 :: 182 :: 0 :: 74 :: 182 :: 0 :: 40 :: 42 :: 89 :: 180 :: 0 :: 44 :: 4 :: 96 :: 181 :: ds07cX1_apply_3
noncomputable def ds07cX1_apply_1 : List UInt8 := 14 :: 3 :: 182 :: 0 :: 62 :: 42 :: 180 :: 0 :: 28 :: 42 :: 180 :: 0 :: 44 :: 42 :: 180 :: 0 :: ds07cX1_apply_2
noncomputable def ds07cX1_apply_0 : List UInt8 := 27 :: 6 :: 160 :: 0 :: 48 :: 42 :: 180 :: 0 :: 28 :: 42 :: 180 :: 0 :: 44 :: 42 :: 180 :: 0 :: ds07cX1_apply_1
theorem dt07cX1_apply_0 : cX1_apply.data.toList.drop 0 = ds07cX1_apply_0 := by decide +kernel
theorem dt07cX1_apply_1 : cX1_apply.data.toList.drop 16 = ds07cX1_apply_1 := dq_suf 16 dt07cX1_apply_0 rfl rfl
theorem dt07cX1_apply_2 : cX1_apply.data.toList.drop 32 = ds07cX1_apply_2 := dq_suf 16 dt07cX1_apply_1 rfl rfl
theorem dt07cX1_apply_3 : cX1_apply.data.toList.drop 48 = ds07cX1_apply_3 := dq_suf 16 dt07cX1_apply_2 rfl rfl
theorem dt07cX1_apply_4 : cX1_apply.data.toList.drop 64 = ds07cX1_apply_4 := dq_suf 16 dt07cX1_apply_3 rfl rfl
theorem dt07cX1_apply_5 : cX1_apply.data.toList.drop 80 = ds07cX1_apply_5 := dq_suf 16 dt07cX1_apply_4 rfl rfl
theorem dt07cX1_apply_6 : cX1_apply.data.toList.drop 96 = ds07cX1_apply_6 := dq_suf 16 dt07cX1_apply_5 rfl rfl
theorem dX1_apply_0 : decode cX1_apply 0 = .ok (.iload_n 1, 1) := dq_27 (dq_suf 0 dt07cX1_apply_0 rfl rfl)
theorem dX1_apply_1 : decode cX1_apply 1 = .ok (.iconst 3, 1) := dq_6 (dq_suf 1 dt07cX1_apply_0 rfl rfl)
theorem dX1_apply_2 : decode cX1_apply 2 = .ok (.if_icmp .ne 48, 3) := dq_160 (dq_suf 2 dt07cX1_apply_0 rfl rfl) (by decide +kernel)
theorem dX1_apply_5 : decode cX1_apply 5 = .ok (.aload_n 0, 1) := dq_42 (dq_suf 5 dt07cX1_apply_0 rfl rfl)
theorem dX1_apply_6 : decode cX1_apply 6 = .ok (.getfield 28, 3) := dq_180 (dq_suf 6 dt07cX1_apply_0 rfl rfl) rfl
theorem dX1_apply_9 : decode cX1_apply 9 = .ok (.aload_n 0, 1) := dq_42 (dq_suf 9 dt07cX1_apply_0 rfl rfl)
theorem dX1_apply_10 : decode cX1_apply 10 = .ok (.getfield 44, 3) := dq_180 (dq_suf 10 dt07cX1_apply_0 rfl rfl) rfl
theorem dX1_apply_13 : decode cX1_apply 13 = .ok (.aload_n 0, 1) := dq_42 (dq_suf 13 dt07cX1_apply_0 rfl rfl)
theorem dX1_apply_14 : decode cX1_apply 14 = .ok (.getfield 14, 3) := dq_180 (dq_suf 14 dt07cX1_apply_0 rfl rfl) rfl
theorem dX1_apply_17 : decode cX1_apply 17 = .ok (.iconst 0, 1) := dq_3 (dq_suf 1 dt07cX1_apply_1 rfl rfl)
theorem dX1_apply_18 : decode cX1_apply 18 = .ok (.invokevirtual 62, 3) := dq_182 (dq_suf 2 dt07cX1_apply_1 rfl rfl) rfl
theorem dX1_apply_21 : decode cX1_apply 21 = .ok (.aload_n 0, 1) := dq_42 (dq_suf 5 dt07cX1_apply_1 rfl rfl)
theorem dX1_apply_22 : decode cX1_apply 22 = .ok (.getfield 28, 3) := dq_180 (dq_suf 6 dt07cX1_apply_1 rfl rfl) rfl
theorem dX1_apply_25 : decode cX1_apply 25 = .ok (.aload_n 0, 1) := dq_42 (dq_suf 9 dt07cX1_apply_1 rfl rfl)
theorem dX1_apply_26 : decode cX1_apply 26 = .ok (.getfield 44, 3) := dq_180 (dq_suf 10 dt07cX1_apply_1 rfl rfl) rfl
theorem dX1_apply_29 : decode cX1_apply 29 = .ok (.aload_n 0, 1) := dq_42 (dq_suf 13 dt07cX1_apply_1 rfl rfl)
theorem dX1_apply_30 : decode cX1_apply 30 = .ok (.getfield 24, 3) := dq_180 (dq_suf 14 dt07cX1_apply_1 rfl rfl) rfl
theorem dX1_apply_33 : decode cX1_apply 33 = .ok (.iload_n 2, 1) := dq_28 (dq_suf 1 dt07cX1_apply_2 rfl rfl)
theorem dX1_apply_34 : decode cX1_apply 34 = .ok (.invokevirtual 74, 3) := dq_182 (dq_suf 2 dt07cX1_apply_2 rfl rfl) rfl
theorem dX1_apply_37 : decode cX1_apply 37 = .ok (.invokevirtual 40, 3) := dq_182 (dq_suf 5 dt07cX1_apply_2 rfl rfl) rfl
theorem dX1_apply_40 : decode cX1_apply 40 = .ok (.aload_n 0, 1) := dq_42 (dq_suf 8 dt07cX1_apply_2 rfl rfl)
theorem dX1_apply_41 : decode cX1_apply 41 = .ok (.dup, 1) := dq_89 (dq_suf 9 dt07cX1_apply_2 rfl rfl)
theorem dX1_apply_42 : decode cX1_apply 42 = .ok (.getfield 44, 3) := dq_180 (dq_suf 10 dt07cX1_apply_2 rfl rfl) rfl
theorem dX1_apply_45 : decode cX1_apply 45 = .ok (.iconst 1, 1) := dq_4 (dq_suf 13 dt07cX1_apply_2 rfl rfl)
theorem dX1_apply_46 : decode cX1_apply 46 = .ok (.iadd, 1) := dq_96 (dq_suf 14 dt07cX1_apply_2 rfl rfl)
theorem dX1_apply_47 : decode cX1_apply 47 = .ok (.putfield 44, 3) := dq_181 (dq_suf 15 dt07cX1_apply_2 rfl rfl) rfl
theorem dX1_apply_50 : decode cX1_apply 50 = .ok (.iload_n 1, 1) := dq_27 (dq_suf 2 dt07cX1_apply_3 rfl rfl)
theorem dX1_apply_51 : decode cX1_apply 51 = .ok (.iconst 4, 1) := dq_7 (dq_suf 3 dt07cX1_apply_3 rfl rfl)
theorem dX1_apply_52 : decode cX1_apply 52 = .ok (.if_icmp .ne 20, 3) := dq_160 (dq_suf 4 dt07cX1_apply_3 rfl rfl) (by decide +kernel)
theorem dX1_apply_55 : decode cX1_apply 55 = .ok (.aload_n 0, 1) := dq_42 (dq_suf 7 dt07cX1_apply_3 rfl rfl)
theorem dX1_apply_56 : decode cX1_apply 56 = .ok (.getfield 14, 3) := dq_180 (dq_suf 8 dt07cX1_apply_3 rfl rfl) rfl
theorem dX1_apply_59 : decode cX1_apply 59 = .ok (.iconst 0, 1) := dq_3 (dq_suf 11 dt07cX1_apply_3 rfl rfl)
theorem dX1_apply_60 : decode cX1_apply 60 = .ok (.aload_n 0, 1) := dq_42 (dq_suf 12 dt07cX1_apply_3 rfl rfl)
theorem dX1_apply_61 : decode cX1_apply 61 = .ok (.getfield 24, 3) := dq_180 (dq_suf 13 dt07cX1_apply_3 rfl rfl) rfl
theorem dX1_apply_64 : decode cX1_apply 64 = .ok (.invokevirtual 77, 3) := dq_182 (dq_suf 0 dt07cX1_apply_4 rfl rfl) rfl
theorem dX1_apply_67 : decode cX1_apply 67 = .ok (.bipush 6, 2) := dq_16 (dq_suf 3 dt07cX1_apply_4 rfl rfl) (by decide +kernel)
theorem dX1_apply_69 : decode cX1_apply 69 = .ok (.invokevirtual 81, 3) := dq_182 (dq_suf 5 dt07cX1_apply_4 rfl rfl) rfl
theorem dX1_apply_72 : decode cX1_apply 72 = .ok (.aload_n 0, 1) := dq_42 (dq_suf 8 dt07cX1_apply_4 rfl rfl)
theorem dX1_apply_73 : decode cX1_apply 73 = .ok (.getfield 14, 3) := dq_180 (dq_suf 9 dt07cX1_apply_4 rfl rfl) rfl
theorem dX1_apply_76 : decode cX1_apply 76 = .ok (.iconst 0, 1) := dq_3 (dq_suf 12 dt07cX1_apply_4 rfl rfl)
theorem dX1_apply_77 : decode cX1_apply 77 = .ok (.aload_n 0, 1) := dq_42 (dq_suf 13 dt07cX1_apply_4 rfl rfl)
theorem dX1_apply_78 : decode cX1_apply 78 = .ok (.getfield 24, 3) := dq_180 (dq_suf 14 dt07cX1_apply_4 rfl rfl) rfl
theorem dX1_apply_81 : decode cX1_apply 81 = .ok (.iload_n 2, 1) := dq_28 (dq_suf 1 dt07cX1_apply_5 rfl rfl)
theorem dX1_apply_82 : decode cX1_apply 82 = .ok (.invokevirtual 84, 3) := dq_182 (dq_suf 2 dt07cX1_apply_5 rfl rfl) rfl
theorem dX1_apply_85 : decode cX1_apply 85 = .ok (.invokevirtual 40, 3) := dq_182 (dq_suf 5 dt07cX1_apply_5 rfl rfl) rfl
theorem dX1_apply_88 : decode cX1_apply 88 = .ok (.iload_n 1, 1) := dq_27 (dq_suf 8 dt07cX1_apply_5 rfl rfl)
theorem dX1_apply_89 : decode cX1_apply 89 = .ok (.iconst 1, 1) := dq_4 (dq_suf 9 dt07cX1_apply_5 rfl rfl)
theorem dX1_apply_90 : decode cX1_apply 90 = .ok (.if_icmp .ne 19, 3) := dq_160 (dq_suf 10 dt07cX1_apply_5 rfl rfl) (by decide +kernel)
theorem dX1_apply_93 : decode cX1_apply 93 = .ok (.aload_n 0, 1) := dq_42 (dq_suf 13 dt07cX1_apply_5 rfl rfl)
theorem dX1_apply_94 : decode cX1_apply 94 = .ok (.getfield 14, 3) := dq_180 (dq_suf 14 dt07cX1_apply_5 rfl rfl) rfl
theorem dX1_apply_97 : decode cX1_apply 97 = .ok (.iconst 0, 1) := dq_3 (dq_suf 1 dt07cX1_apply_6 rfl rfl)
theorem dX1_apply_98 : decode cX1_apply 98 = .ok (.aload_n 0, 1) := dq_42 (dq_suf 2 dt07cX1_apply_6 rfl rfl)
theorem dX1_apply_99 : decode cX1_apply 99 = .ok (.getfield 24, 3) := dq_180 (dq_suf 3 dt07cX1_apply_6 rfl rfl) rfl
theorem dX1_apply_102 : decode cX1_apply 102 = .ok (.iload_n 2, 1) := dq_28 (dq_suf 6 dt07cX1_apply_6 rfl rfl)
theorem dX1_apply_103 : decode cX1_apply 103 = .ok (.invokevirtual 74, 3) := dq_182 (dq_suf 7 dt07cX1_apply_6 rfl rfl) rfl
theorem dX1_apply_106 : decode cX1_apply 106 = .ok (.invokevirtual 40, 3) := dq_182 (dq_suf 10 dt07cX1_apply_6 rfl rfl) rfl
theorem dX1_apply_109 : decode cX1_apply 109 = .ok (.return_, 1) := dq_177 (dq_suf 13 dt07cX1_apply_6 rfl rfl)
noncomputable def ds07cX8_init_7 : List UInt8 := 181 :: 0 :: 56 :: 42 :: 44 :: 181 :: 0 :: 60 :: 177 :: []
noncomputable def ds07cX8_init_6 : List UInt8 := 89 :: 183 :: 0 :: 48 :: 181 :: 0 :: 49 :: 42 :: 7 :: 188 :: 10 :: 181 :: 0 :: 53 :: 42 :: 43 :: ds07cX8_init_7
noncomputable def ds07cX8_init_5 : List UInt8 := 181 :: 0 :: 39 :: 42 :: 17 :: 1 :: 144 :: 188 :: 10 :: 181 :: 0 :: 43 :: 42 :: 187 :: 0 :: 46 :: ds07cX8_init_6
noncomputable def ds07cX8_init_4 : List UInt8 := 181 :: 0 :: 33 :: 42 :: 16 :: 60 :: 188 :: 10 :: 181 :: 0 :: 36 :: 42 :: 16 :: 60 :: 188 :: 11 :: ds07cX8_init_5
noncomputable def ds07cX8_init_3 : List UInt8 := 181 :: 0 :: 26 :: 42 :: 16 :: 60 :: 188 :: 10 :: 181 :: 0 :: 30 :: 42 :: 16 :: 60 :: 188 :: 10 :: ds07cX8_init_4
noncomputable def ds07cX8_init_2 : List UInt8 := 0 :: 9 :: 89 :: 16 :: 60 :: 183 :: 0 :: 11 :: 181 :: 0 :: 23 :: 42 :: 16 :: 60 :: 188 :: 10 :: ds07cX8_init_3
noncomputable def ds07cX8_init_1 : List UInt8 := 14 :: 42 :: 187 :: 0 :: 9 :: 89 :: 16 :: 60 :: 183 :: 0 :: 11 :: 181 :: 0 :: 20 :: 42 :: 187 :: ds07cX8_init_2
noncomputable def ds07cX8_init_0 : List UInt8 := 42 :: 183 :: 0 :: 3 :: 42 :: 187 :: 0 :: 9 :: 89 :: 16 :: 61 :: 183 :: 0 :: 11 :: 181 :: 0 :: ds07cX8_init_1
theorem dt07cX8_init_0 : cX8_init.data.toList.drop 0 = ds07cX8_init_0 := by decide +kernel
theorem dt07cX8_init_1 : cX8_init.data.toList.drop 16 = ds07cX8_init_1 := dq_suf 16 dt07cX8_init_0 rfl rfl
theorem dt07cX8_init_2 : cX8_init.data.toList.drop 32 = ds07cX8_init_2 := dq_suf 16 dt07cX8_init_1 rfl rfl
theorem dt07cX8_init_3 : cX8_init.data.toList.drop 48 = ds07cX8_init_3 := dq_suf 16 dt07cX8_init_2 rfl rfl
theorem dt07cX8_init_4 : cX8_init.data.toList.drop 64 = ds07cX8_init_4 := dq_suf 16 dt07cX8_init_3 rfl rfl
theorem dt07cX8_init_5 : cX8_init.data.toList.drop 80 = ds07cX8_init_5 := dq_suf 16 dt07cX8_init_4 rfl rfl
theorem dt07cX8_init_6 : cX8_init.data.toList.drop 96 = ds07cX8_init_6 := dq_suf 16 dt07cX8_init_5 rfl rfl
theorem dt07cX8_init_7 : cX8_init.data.toList.drop 112 = ds07cX8_init_7 := dq_suf 16 dt07cX8_init_6 rfl rfl
theorem dX8_init_0 : decode cX8_init 0 = .ok (.aload_n 0, 1) := dq_42 (dq_suf 0 dt07cX8_init_0 rfl rfl)
theorem dX8_init_1 : decode cX8_init 1 = .ok (.invokespecial 3, 3) := dq_183 (dq_suf 1 dt07cX8_init_0 rfl rfl) rfl
theorem dX8_init_4 : decode cX8_init 4 = .ok (.aload_n 0, 1) := dq_42 (dq_suf 4 dt07cX8_init_0 rfl rfl)
theorem dX8_init_5 : decode cX8_init 5 = .ok (.new 9, 3) := dq_187 (dq_suf 5 dt07cX8_init_0 rfl rfl) rfl
theorem dX8_init_8 : decode cX8_init 8 = .ok (.dup, 1) := dq_89 (dq_suf 8 dt07cX8_init_0 rfl rfl)
theorem dX8_init_9 : decode cX8_init 9 = .ok (.bipush 61, 2) := dq_16 (dq_suf 9 dt07cX8_init_0 rfl rfl) (by decide +kernel)
theorem dX8_init_11 : decode cX8_init 11 = .ok (.invokespecial 11, 3) := dq_183 (dq_suf 11 dt07cX8_init_0 rfl rfl) rfl
theorem dX8_init_14 : decode cX8_init 14 = .ok (.putfield 14, 3) := dq_181 (dq_suf 14 dt07cX8_init_0 rfl rfl) rfl
theorem dX8_init_17 : decode cX8_init 17 = .ok (.aload_n 0, 1) := dq_42 (dq_suf 1 dt07cX8_init_1 rfl rfl)
theorem dX8_init_18 : decode cX8_init 18 = .ok (.new 9, 3) := dq_187 (dq_suf 2 dt07cX8_init_1 rfl rfl) rfl
theorem dX8_init_21 : decode cX8_init 21 = .ok (.dup, 1) := dq_89 (dq_suf 5 dt07cX8_init_1 rfl rfl)
theorem dX8_init_22 : decode cX8_init 22 = .ok (.bipush 60, 2) := dq_16 (dq_suf 6 dt07cX8_init_1 rfl rfl) (by decide +kernel)
theorem dX8_init_24 : decode cX8_init 24 = .ok (.invokespecial 11, 3) := dq_183 (dq_suf 8 dt07cX8_init_1 rfl rfl) rfl
theorem dX8_init_27 : decode cX8_init 27 = .ok (.putfield 20, 3) := dq_181 (dq_suf 11 dt07cX8_init_1 rfl rfl) rfl
theorem dX8_init_30 : decode cX8_init 30 = .ok (.aload_n 0, 1) := dq_42 (dq_suf 14 dt07cX8_init_1 rfl rfl)
theorem dX8_init_31 : decode cX8_init 31 = .ok (.new 9, 3) := dq_187 (dq_suf 15 dt07cX8_init_1 rfl rfl) rfl
theorem dX8_init_34 : decode cX8_init 34 = .ok (.dup, 1) := dq_89 (dq_suf 2 dt07cX8_init_2 rfl rfl)
theorem dX8_init_35 : decode cX8_init 35 = .ok (.bipush 60, 2) := dq_16 (dq_suf 3 dt07cX8_init_2 rfl rfl) (by decide +kernel)
theorem dX8_init_37 : decode cX8_init 37 = .ok (.invokespecial 11, 3) := dq_183 (dq_suf 5 dt07cX8_init_2 rfl rfl) rfl
theorem dX8_init_40 : decode cX8_init 40 = .ok (.putfield 23, 3) := dq_181 (dq_suf 8 dt07cX8_init_2 rfl rfl) rfl
theorem dX8_init_43 : decode cX8_init 43 = .ok (.aload_n 0, 1) := dq_42 (dq_suf 11 dt07cX8_init_2 rfl rfl)
theorem dX8_init_44 : decode cX8_init 44 = .ok (.bipush 60, 2) := dq_16 (dq_suf 12 dt07cX8_init_2 rfl rfl) (by decide +kernel)
theorem dX8_init_46 : decode cX8_init 46 = .ok (.newarray .int, 2) := by decide +kernel
theorem dX8_init_48 : decode cX8_init 48 = .ok (.putfield 26, 3) := dq_181 (dq_suf 0 dt07cX8_init_3 rfl rfl) rfl
theorem dX8_init_51 : decode cX8_init 51 = .ok (.aload_n 0, 1) := dq_42 (dq_suf 3 dt07cX8_init_3 rfl rfl)
theorem dX8_init_52 : decode cX8_init 52 = .ok (.bipush 60, 2) := dq_16 (dq_suf 4 dt07cX8_init_3 rfl rfl) (by decide +kernel)
theorem dX8_init_54 : decode cX8_init 54 = .ok (.newarray .int, 2) := by decide +kernel
theorem dX8_init_56 : decode cX8_init 56 = .ok (.putfield 30, 3) := dq_181 (dq_suf 8 dt07cX8_init_3 rfl rfl) rfl
theorem dX8_init_59 : decode cX8_init 59 = .ok (.aload_n 0, 1) := dq_42 (dq_suf 11 dt07cX8_init_3 rfl rfl)
theorem dX8_init_60 : decode cX8_init 60 = .ok (.bipush 60, 2) := dq_16 (dq_suf 12 dt07cX8_init_3 rfl rfl) (by decide +kernel)
theorem dX8_init_62 : decode cX8_init 62 = .ok (.newarray .int, 2) := by decide +kernel
theorem dX8_init_64 : decode cX8_init 64 = .ok (.putfield 33, 3) := dq_181 (dq_suf 0 dt07cX8_init_4 rfl rfl) rfl
theorem dX8_init_67 : decode cX8_init 67 = .ok (.aload_n 0, 1) := dq_42 (dq_suf 3 dt07cX8_init_4 rfl rfl)
theorem dX8_init_68 : decode cX8_init 68 = .ok (.bipush 60, 2) := dq_16 (dq_suf 4 dt07cX8_init_4 rfl rfl) (by decide +kernel)
theorem dX8_init_70 : decode cX8_init 70 = .ok (.newarray .int, 2) := by decide +kernel
theorem dX8_init_72 : decode cX8_init 72 = .ok (.putfield 36, 3) := dq_181 (dq_suf 8 dt07cX8_init_4 rfl rfl) rfl
theorem dX8_init_75 : decode cX8_init 75 = .ok (.aload_n 0, 1) := dq_42 (dq_suf 11 dt07cX8_init_4 rfl rfl)
theorem dX8_init_76 : decode cX8_init 76 = .ok (.bipush 60, 2) := dq_16 (dq_suf 12 dt07cX8_init_4 rfl rfl) (by decide +kernel)
theorem dX8_init_78 : decode cX8_init 78 = .ok (.newarray .long, 2) := by decide +kernel
theorem dX8_init_80 : decode cX8_init 80 = .ok (.putfield 39, 3) := dq_181 (dq_suf 0 dt07cX8_init_5 rfl rfl) rfl
theorem dX8_init_83 : decode cX8_init 83 = .ok (.aload_n 0, 1) := dq_42 (dq_suf 3 dt07cX8_init_5 rfl rfl)
theorem dX8_init_84 : decode cX8_init 84 = .ok (.sipush 400, 3) := dq_17 (dq_suf 4 dt07cX8_init_5 rfl rfl) (by decide +kernel)
theorem dX8_init_87 : decode cX8_init 87 = .ok (.newarray .int, 2) := by decide +kernel
theorem dX8_init_89 : decode cX8_init 89 = .ok (.putfield 43, 3) := dq_181 (dq_suf 9 dt07cX8_init_5 rfl rfl) rfl
theorem dX8_init_92 : decode cX8_init 92 = .ok (.aload_n 0, 1) := dq_42 (dq_suf 12 dt07cX8_init_5 rfl rfl)
theorem dX8_init_93 : decode cX8_init 93 = .ok (.new 46, 3) := dq_187 (dq_suf 13 dt07cX8_init_5 rfl rfl) rfl
theorem dX8_init_96 : decode cX8_init 96 = .ok (.dup, 1) := dq_89 (dq_suf 0 dt07cX8_init_6 rfl rfl)
theorem dX8_init_97 : decode cX8_init 97 = .ok (.invokespecial 48, 3) := dq_183 (dq_suf 1 dt07cX8_init_6 rfl rfl) rfl
theorem dX8_init_100 : decode cX8_init 100 = .ok (.putfield 49, 3) := dq_181 (dq_suf 4 dt07cX8_init_6 rfl rfl) rfl
theorem dX8_init_103 : decode cX8_init 103 = .ok (.aload_n 0, 1) := dq_42 (dq_suf 7 dt07cX8_init_6 rfl rfl)
theorem dX8_init_104 : decode cX8_init 104 = .ok (.iconst 4, 1) := dq_7 (dq_suf 8 dt07cX8_init_6 rfl rfl)
theorem dX8_init_105 : decode cX8_init 105 = .ok (.newarray .int, 2) := by decide +kernel
theorem dX8_init_107 : decode cX8_init 107 = .ok (.putfield 53, 3) := dq_181 (dq_suf 11 dt07cX8_init_6 rfl rfl) rfl
theorem dX8_init_110 : decode cX8_init 110 = .ok (.aload_n 0, 1) := dq_42 (dq_suf 14 dt07cX8_init_6 rfl rfl)
theorem dX8_init_111 : decode cX8_init 111 = .ok (.aload_n 1, 1) := dq_43 (dq_suf 15 dt07cX8_init_6 rfl rfl)
theorem dX8_init_112 : decode cX8_init 112 = .ok (.putfield 56, 3) := dq_181 (dq_suf 0 dt07cX8_init_7 rfl rfl) rfl
theorem dX8_init_115 : decode cX8_init 115 = .ok (.aload_n 0, 1) := dq_42 (dq_suf 3 dt07cX8_init_7 rfl rfl)
theorem dX8_init_116 : decode cX8_init 116 = .ok (.aload_n 2, 1) := dq_44 (dq_suf 4 dt07cX8_init_7 rfl rfl)
theorem dX8_init_117 : decode cX8_init 117 = .ok (.putfield 60, 3) := dq_181 (dq_suf 5 dt07cX8_init_7 rfl rfl) rfl
theorem dX8_init_120 : decode cX8_init 120 = .ok (.return_, 1) := dq_177 (dq_suf 8 dt07cX8_init_7 rfl rfl)
noncomputable def ds07cX8_lines_0 : List UInt8 := 42 :: 180 :: 0 :: 49 :: 176 :: []
theorem dt07cX8_lines_0 : cX8_lines.data.toList.drop 0 = ds07cX8_lines_0 := by decide +kernel
theorem dX8_lines_0 : decode cX8_lines 0 = .ok (.aload_n 0, 1) := dq_42 (dq_suf 0 dt07cX8_lines_0 rfl rfl)
theorem dX8_lines_1 : decode cX8_lines 1 = .ok (.getfield 49, 3) := dq_180 (dq_suf 1 dt07cX8_lines_0 rfl rfl) rfl
theorem dX8_lines_4 : decode cX8_lines 4 = .ok (.areturn, 1) := dq_176 (dq_suf 4 dt07cX8_lines_0 rfl rfl)
noncomputable def ds07cX8_countOf_1 : List UInt8 := 0 :: 4 :: 2 :: 172 :: []
noncomputable def ds07cX8_countOf_0 : List UInt8 := 27 :: 155 :: 0 :: 17 :: 27 :: 7 :: 162 :: 0 :: 12 :: 42 :: 180 :: 0 :: 53 :: 27 :: 46 :: 167 :: ds07cX8_countOf_1
theorem dt07cX8_countOf_0 : cX8_countOf.data.toList.drop 0 = ds07cX8_countOf_0 := by decide +kernel
theorem dt07cX8_countOf_1 : cX8_countOf.data.toList.drop 16 = ds07cX8_countOf_1 := dq_suf 16 dt07cX8_countOf_0 rfl rfl
theorem dX8_countOf_0 : decode cX8_countOf 0 = .ok (.iload_n 1, 1) := dq_27 (dq_suf 0 dt07cX8_countOf_0 rfl rfl)
theorem dX8_countOf_1 : decode cX8_countOf 1 = .ok (.ifCond .lt 17, 3) := dq_155 (dq_suf 1 dt07cX8_countOf_0 rfl rfl) (by decide +kernel)
theorem dX8_countOf_4 : decode cX8_countOf 4 = .ok (.iload_n 1, 1) := dq_27 (dq_suf 4 dt07cX8_countOf_0 rfl rfl)
theorem dX8_countOf_5 : decode cX8_countOf 5 = .ok (.iconst 4, 1) := dq_7 (dq_suf 5 dt07cX8_countOf_0 rfl rfl)
theorem dX8_countOf_6 : decode cX8_countOf 6 = .ok (.if_icmp .ge 12, 3) := dq_162 (dq_suf 6 dt07cX8_countOf_0 rfl rfl) (by decide +kernel)
theorem dX8_countOf_9 : decode cX8_countOf 9 = .ok (.aload_n 0, 1) := dq_42 (dq_suf 9 dt07cX8_countOf_0 rfl rfl)
theorem dX8_countOf_10 : decode cX8_countOf 10 = .ok (.getfield 53, 3) := dq_180 (dq_suf 10 dt07cX8_countOf_0 rfl rfl) rfl
theorem dX8_countOf_13 : decode cX8_countOf 13 = .ok (.iload_n 1, 1) := dq_27 (dq_suf 13 dt07cX8_countOf_0 rfl rfl)
theorem dX8_countOf_14 : decode cX8_countOf 14 = .ok (.iaload, 1) := dq_46 (dq_suf 14 dt07cX8_countOf_0 rfl rfl)
theorem dX8_countOf_15 : decode cX8_countOf 15 = .ok (.goto 4, 3) := dq_167 (dq_suf 15 dt07cX8_countOf_0 rfl rfl) (by decide +kernel)
theorem dX8_countOf_18 : decode cX8_countOf 18 = .ok (.iconst (-1), 1) := dq_2 (dq_suf 2 dt07cX8_countOf_1 rfl rfl)
theorem dX8_countOf_19 : decode cX8_countOf 19 = .ok (.ireturn, 1) := dq_172 (dq_suf 3 dt07cX8_countOf_1 rfl rfl)
noncomputable def ds07cX8_run_6 : List UInt8 := 235 :: 42 :: 180 :: 0 :: 67 :: 172 :: []
noncomputable def ds07cX8_run_5 : List UInt8 := 180 :: 0 :: 67 :: 5 :: 160 :: 0 :: 13 :: 42 :: 182 :: 0 :: 90 :: 132 :: 3 :: 1 :: 167 :: 255 :: ds07cX8_run_6
noncomputable def ds07cX8_run_4 : List UInt8 := 82 :: 42 :: 2 :: 4 :: 182 :: 0 :: 86 :: 3 :: 62 :: 29 :: 18 :: 89 :: 162 :: 0 :: 21 :: 42 :: ds07cX8_run_5
noncomputable def ds07cX8_run_3 : List UInt8 := 42 :: 180 :: 0 :: 14 :: 3 :: 182 :: 0 :: 79 :: 42 :: 180 :: 0 :: 14 :: 3 :: 27 :: 182 :: 0 :: ds07cX8_run_4
noncomputable def ds07cX8_run_2 : List UInt8 := 162 :: 0 :: 16 :: 42 :: 180 :: 0 :: 53 :: 29 :: 3 :: 79 :: 132 :: 3 :: 1 :: 167 :: 255 :: 241 :: ds07cX8_run_3
noncomputable def ds07cX8_run_1 : List UInt8 := 3 :: 181 :: 0 :: 73 :: 42 :: 180 :: 0 :: 49 :: 3 :: 182 :: 0 :: 76 :: 3 :: 62 :: 29 :: 7 :: ds07cX8_run_2
noncomputable def ds07cX8_run_0 : List UInt8 := 42 :: 28 :: 181 :: 0 :: 63 :: 42 :: 5 :: 181 :: 0 :: 67 :: 42 :: 3 :: 181 :: 0 :: 70 :: 42 :: ds07cX8_run_1
theorem dt07cX8_run_0 : cX8_run.data.toList.drop 0 = ds07cX8_run_0 := by decide +kernel
theorem dt07cX8_run_1 : cX8_run.data.toList.drop 16 = ds07cX8_run_1 := dq_suf 16 dt07cX8_run_0 rfl rfl
theorem dt07cX8_run_2 : cX8_run.data.toList.drop 32 = ds07cX8_run_2 := dq_suf 16 dt07cX8_run_1 rfl rfl
theorem dt07cX8_run_3 : cX8_run.data.toList.drop 48 = ds07cX8_run_3 := dq_suf 16 dt07cX8_run_2 rfl rfl
theorem dt07cX8_run_4 : cX8_run.data.toList.drop 64 = ds07cX8_run_4 := dq_suf 16 dt07cX8_run_3 rfl rfl
theorem dt07cX8_run_5 : cX8_run.data.toList.drop 80 = ds07cX8_run_5 := dq_suf 16 dt07cX8_run_4 rfl rfl
theorem dt07cX8_run_6 : cX8_run.data.toList.drop 96 = ds07cX8_run_6 := dq_suf 16 dt07cX8_run_5 rfl rfl
theorem dX8_run_0 : decode cX8_run 0 = .ok (.aload_n 0, 1) := dq_42 (dq_suf 0 dt07cX8_run_0 rfl rfl)
theorem dX8_run_1 : decode cX8_run 1 = .ok (.iload_n 2, 1) := dq_28 (dq_suf 1 dt07cX8_run_0 rfl rfl)
theorem dX8_run_2 : decode cX8_run 2 = .ok (.putfield 63, 3) := dq_181 (dq_suf 2 dt07cX8_run_0 rfl rfl) rfl
theorem dX8_run_5 : decode cX8_run 5 = .ok (.aload_n 0, 1) := dq_42 (dq_suf 5 dt07cX8_run_0 rfl rfl)
theorem dX8_run_6 : decode cX8_run 6 = .ok (.iconst 2, 1) := dq_5 (dq_suf 6 dt07cX8_run_0 rfl rfl)
theorem dX8_run_7 : decode cX8_run 7 = .ok (.putfield 67, 3) := dq_181 (dq_suf 7 dt07cX8_run_0 rfl rfl) rfl
theorem dX8_run_10 : decode cX8_run 10 = .ok (.aload_n 0, 1) := dq_42 (dq_suf 10 dt07cX8_run_0 rfl rfl)
theorem dX8_run_11 : decode cX8_run 11 = .ok (.iconst 0, 1) := dq_3 (dq_suf 11 dt07cX8_run_0 rfl rfl)
theorem dX8_run_12 : decode cX8_run 12 = .ok (.putfield 70, 3) := dq_181 (dq_suf 12 dt07cX8_run_0 rfl rfl) rfl
theorem dX8_run_15 : decode cX8_run 15 = .ok (.aload_n 0, 1) := dq_42 (dq_suf 15 dt07cX8_run_0 rfl rfl)
theorem dX8_run_16 : decode cX8_run 16 = .ok (.iconst 0, 1) := dq_3 (dq_suf 0 dt07cX8_run_1 rfl rfl)
theorem dX8_run_17 : decode cX8_run 17 = .ok (.putfield 73, 3) := dq_181 (dq_suf 1 dt07cX8_run_1 rfl rfl) rfl
theorem dX8_run_20 : decode cX8_run 20 = .ok (.aload_n 0, 1) := dq_42 (dq_suf 4 dt07cX8_run_1 rfl rfl)
theorem dX8_run_21 : decode cX8_run 21 = .ok (.getfield 49, 3) := dq_180 (dq_suf 5 dt07cX8_run_1 rfl rfl) rfl
theorem dX8_run_24 : decode cX8_run 24 = .ok (.iconst 0, 1) := dq_3 (dq_suf 8 dt07cX8_run_1 rfl rfl)
theorem dX8_run_25 : decode cX8_run 25 = .ok (.invokevirtual 76, 3) := dq_182 (dq_suf 9 dt07cX8_run_1 rfl rfl) rfl
theorem dX8_run_28 : decode cX8_run 28 = .ok (.iconst 0, 1) := dq_3 (dq_suf 12 dt07cX8_run_1 rfl rfl)
theorem dX8_run_29 : decode cX8_run 29 = .ok (.istore_n 3, 1) := dq_62 (dq_suf 13 dt07cX8_run_1 rfl rfl)
theorem dX8_run_30 : decode cX8_run 30 = .ok (.iload_n 3, 1) := dq_29 (dq_suf 14 dt07cX8_run_1 rfl rfl)
theorem dX8_run_31 : decode cX8_run 31 = .ok (.iconst 4, 1) := dq_7 (dq_suf 15 dt07cX8_run_1 rfl rfl)
theorem dX8_run_32 : decode cX8_run 32 = .ok (.if_icmp .ge 16, 3) := dq_162 (dq_suf 0 dt07cX8_run_2 rfl rfl) (by decide +kernel)
theorem dX8_run_35 : decode cX8_run 35 = .ok (.aload_n 0, 1) := dq_42 (dq_suf 3 dt07cX8_run_2 rfl rfl)
theorem dX8_run_36 : decode cX8_run 36 = .ok (.getfield 53, 3) := dq_180 (dq_suf 4 dt07cX8_run_2 rfl rfl) rfl
theorem dX8_run_39 : decode cX8_run 39 = .ok (.iload_n 3, 1) := dq_29 (dq_suf 7 dt07cX8_run_2 rfl rfl)
theorem dX8_run_40 : decode cX8_run 40 = .ok (.iconst 0, 1) := dq_3 (dq_suf 8 dt07cX8_run_2 rfl rfl)
theorem dX8_run_41 : decode cX8_run 41 = .ok (.iastore, 1) := dq_79 (dq_suf 9 dt07cX8_run_2 rfl rfl)
theorem dX8_run_42 : decode cX8_run 42 = .ok (.iinc 3 1, 3) := dq_132 (dq_suf 10 dt07cX8_run_2 rfl rfl) rfl (by decide +kernel)
theorem dX8_run_45 : decode cX8_run 45 = .ok (.goto (-15), 3) := dq_167 (dq_suf 13 dt07cX8_run_2 rfl rfl) (by decide +kernel)
theorem dX8_run_48 : decode cX8_run 48 = .ok (.aload_n 0, 1) := dq_42 (dq_suf 0 dt07cX8_run_3 rfl rfl)
theorem dX8_run_49 : decode cX8_run 49 = .ok (.getfield 14, 3) := dq_180 (dq_suf 1 dt07cX8_run_3 rfl rfl) rfl
theorem dX8_run_52 : decode cX8_run 52 = .ok (.iconst 0, 1) := dq_3 (dq_suf 4 dt07cX8_run_3 rfl rfl)
theorem dX8_run_53 : decode cX8_run 53 = .ok (.invokevirtual 79, 3) := dq_182 (dq_suf 5 dt07cX8_run_3 rfl rfl) rfl
theorem dX8_run_56 : decode cX8_run 56 = .ok (.aload_n 0, 1) := dq_42 (dq_suf 8 dt07cX8_run_3 rfl rfl)
theorem dX8_run_57 : decode cX8_run 57 = .ok (.getfield 14, 3) := dq_180 (dq_suf 9 dt07cX8_run_3 rfl rfl) rfl
theorem dX8_run_60 : decode cX8_run 60 = .ok (.iconst 0, 1) := dq_3 (dq_suf 12 dt07cX8_run_3 rfl rfl)
theorem dX8_run_61 : decode cX8_run 61 = .ok (.iload_n 1, 1) := dq_27 (dq_suf 13 dt07cX8_run_3 rfl rfl)
theorem dX8_run_62 : decode cX8_run 62 = .ok (.invokevirtual 82, 3) := dq_182 (dq_suf 14 dt07cX8_run_3 rfl rfl) rfl
theorem dX8_run_65 : decode cX8_run 65 = .ok (.aload_n 0, 1) := dq_42 (dq_suf 1 dt07cX8_run_4 rfl rfl)
theorem dX8_run_66 : decode cX8_run 66 = .ok (.iconst (-1), 1) := dq_2 (dq_suf 2 dt07cX8_run_4 rfl rfl)
theorem dX8_run_67 : decode cX8_run 67 = .ok (.iconst 1, 1) := dq_4 (dq_suf 3 dt07cX8_run_4 rfl rfl)
theorem dX8_run_68 : decode cX8_run 68 = .ok (.invokevirtual 86, 3) := dq_182 (dq_suf 4 dt07cX8_run_4 rfl rfl) rfl
theorem dX8_run_71 : decode cX8_run 71 = .ok (.iconst 0, 1) := dq_3 (dq_suf 7 dt07cX8_run_4 rfl rfl)
theorem dX8_run_72 : decode cX8_run 72 = .ok (.istore_n 3, 1) := dq_62 (dq_suf 8 dt07cX8_run_4 rfl rfl)
theorem dX8_run_73 : decode cX8_run 73 = .ok (.iload_n 3, 1) := dq_29 (dq_suf 9 dt07cX8_run_4 rfl rfl)
theorem dX8_run_74 : decode cX8_run 74 = .ok (.ldc 89, 2) := dq_18 (dq_suf 10 dt07cX8_run_4 rfl rfl) rfl
theorem dX8_run_76 : decode cX8_run 76 = .ok (.if_icmp .ge 21, 3) := dq_162 (dq_suf 12 dt07cX8_run_4 rfl rfl) (by decide +kernel)
theorem dX8_run_79 : decode cX8_run 79 = .ok (.aload_n 0, 1) := dq_42 (dq_suf 15 dt07cX8_run_4 rfl rfl)
theorem dX8_run_80 : decode cX8_run 80 = .ok (.getfield 67, 3) := dq_180 (dq_suf 0 dt07cX8_run_5 rfl rfl) rfl
theorem dX8_run_83 : decode cX8_run 83 = .ok (.iconst 2, 1) := dq_5 (dq_suf 3 dt07cX8_run_5 rfl rfl)
theorem dX8_run_84 : decode cX8_run 84 = .ok (.if_icmp .ne 13, 3) := dq_160 (dq_suf 4 dt07cX8_run_5 rfl rfl) (by decide +kernel)
theorem dX8_run_87 : decode cX8_run 87 = .ok (.aload_n 0, 1) := dq_42 (dq_suf 7 dt07cX8_run_5 rfl rfl)
theorem dX8_run_88 : decode cX8_run 88 = .ok (.invokevirtual 90, 3) := dq_182 (dq_suf 8 dt07cX8_run_5 rfl rfl) rfl
theorem dX8_run_91 : decode cX8_run 91 = .ok (.iinc 3 1, 3) := dq_132 (dq_suf 11 dt07cX8_run_5 rfl rfl) rfl (by decide +kernel)
theorem dX8_run_94 : decode cX8_run 94 = .ok (.goto (-21), 3) := dq_167 (dq_suf 14 dt07cX8_run_5 rfl rfl) (by decide +kernel)
theorem dX8_run_97 : decode cX8_run 97 = .ok (.aload_n 0, 1) := dq_42 (dq_suf 1 dt07cX8_run_6 rfl rfl)
theorem dX8_run_98 : decode cX8_run 98 = .ok (.getfield 67, 3) := dq_180 (dq_suf 2 dt07cX8_run_6 rfl rfl) rfl
theorem dX8_run_101 : decode cX8_run 101 = .ok (.ireturn, 1) := dq_172 (dq_suf 5 dt07cX8_run_6 rfl rfl)
noncomputable def ds07cX8_fillModel_3 : List UInt8 := 216 :: 43 :: 182 :: 0 :: 109 :: 177 :: []
noncomputable def ds07cX8_fillModel_2 : List UInt8 := 42 :: 180 :: 0 :: 20 :: 28 :: 182 :: 0 :: 102 :: 182 :: 0 :: 105 :: 132 :: 2 :: 1 :: 167 :: 255 :: ds07cX8_fillModel_3
noncomputable def ds07cX8_fillModel_1 : List UInt8 := 60 :: 162 :: 0 :: 32 :: 43 :: 42 :: 28 :: 182 :: 0 :: 98 :: 42 :: 180 :: 0 :: 39 :: 28 :: 47 :: ds07cX8_fillModel_2
noncomputable def ds07cX8_fillModel_0 : List UInt8 := 43 :: 182 :: 0 :: 93 :: 3 :: 61 :: 28 :: 42 :: 180 :: 0 :: 73 :: 162 :: 0 :: 38 :: 28 :: 16 :: ds07cX8_fillModel_1
theorem dt07cX8_fillModel_0 : cX8_fillModel.data.toList.drop 0 = ds07cX8_fillModel_0 := by decide +kernel
theorem dt07cX8_fillModel_1 : cX8_fillModel.data.toList.drop 16 = ds07cX8_fillModel_1 := dq_suf 16 dt07cX8_fillModel_0 rfl rfl
theorem dt07cX8_fillModel_2 : cX8_fillModel.data.toList.drop 32 = ds07cX8_fillModel_2 := dq_suf 16 dt07cX8_fillModel_1 rfl rfl
theorem dt07cX8_fillModel_3 : cX8_fillModel.data.toList.drop 48 = ds07cX8_fillModel_3 := dq_suf 16 dt07cX8_fillModel_2 rfl rfl
theorem dX8_fillModel_0 : decode cX8_fillModel 0 = .ok (.aload_n 1, 1) := dq_43 (dq_suf 0 dt07cX8_fillModel_0 rfl rfl)
theorem dX8_fillModel_1 : decode cX8_fillModel 1 = .ok (.invokevirtual 93, 3) := dq_182 (dq_suf 1 dt07cX8_fillModel_0 rfl rfl) rfl
theorem dX8_fillModel_4 : decode cX8_fillModel 4 = .ok (.iconst 0, 1) := dq_3 (dq_suf 4 dt07cX8_fillModel_0 rfl rfl)
theorem dX8_fillModel_5 : decode cX8_fillModel 5 = .ok (.istore_n 2, 1) := dq_61 (dq_suf 5 dt07cX8_fillModel_0 rfl rfl)
theorem dX8_fillModel_6 : decode cX8_fillModel 6 = .ok (.iload_n 2, 1) := dq_28 (dq_suf 6 dt07cX8_fillModel_0 rfl rfl)
theorem dX8_fillModel_7 : decode cX8_fillModel 7 = .ok (.aload_n 0, 1) := dq_42 (dq_suf 7 dt07cX8_fillModel_0 rfl rfl)
theorem dX8_fillModel_8 : decode cX8_fillModel 8 = .ok (.getfield 73, 3) := dq_180 (dq_suf 8 dt07cX8_fillModel_0 rfl rfl) rfl
theorem dX8_fillModel_11 : decode cX8_fillModel 11 = .ok (.if_icmp .ge 38, 3) := dq_162 (dq_suf 11 dt07cX8_fillModel_0 rfl rfl) (by decide +kernel)
theorem dX8_fillModel_14 : decode cX8_fillModel 14 = .ok (.iload_n 2, 1) := dq_28 (dq_suf 14 dt07cX8_fillModel_0 rfl rfl)
theorem dX8_fillModel_15 : decode cX8_fillModel 15 = .ok (.bipush 60, 2) := dq_16 (dq_suf 15 dt07cX8_fillModel_0 rfl rfl) (by decide +kernel)
theorem dX8_fillModel_17 : decode cX8_fillModel 17 = .ok (.if_icmp .ge 32, 3) := dq_162 (dq_suf 1 dt07cX8_fillModel_1 rfl rfl) (by decide +kernel)
theorem dX8_fillModel_20 : decode cX8_fillModel 20 = .ok (.aload_n 1, 1) := dq_43 (dq_suf 4 dt07cX8_fillModel_1 rfl rfl)
theorem dX8_fillModel_21 : decode cX8_fillModel 21 = .ok (.aload_n 0, 1) := dq_42 (dq_suf 5 dt07cX8_fillModel_1 rfl rfl)
theorem dX8_fillModel_22 : decode cX8_fillModel 22 = .ok (.iload_n 2, 1) := dq_28 (dq_suf 6 dt07cX8_fillModel_1 rfl rfl)
theorem dX8_fillModel_23 : decode cX8_fillModel 23 = .ok (.invokevirtual 98, 3) := dq_182 (dq_suf 7 dt07cX8_fillModel_1 rfl rfl) rfl
theorem dX8_fillModel_26 : decode cX8_fillModel 26 = .ok (.aload_n 0, 1) := dq_42 (dq_suf 10 dt07cX8_fillModel_1 rfl rfl)
theorem dX8_fillModel_27 : decode cX8_fillModel 27 = .ok (.getfield 39, 3) := dq_180 (dq_suf 11 dt07cX8_fillModel_1 rfl rfl) rfl
theorem dX8_fillModel_30 : decode cX8_fillModel 30 = .ok (.iload_n 2, 1) := dq_28 (dq_suf 14 dt07cX8_fillModel_1 rfl rfl)
theorem dX8_fillModel_31 : decode cX8_fillModel 31 = .ok (.laload, 1) := dq_47 (dq_suf 15 dt07cX8_fillModel_1 rfl rfl)
theorem dX8_fillModel_32 : decode cX8_fillModel 32 = .ok (.aload_n 0, 1) := dq_42 (dq_suf 0 dt07cX8_fillModel_2 rfl rfl)
theorem dX8_fillModel_33 : decode cX8_fillModel 33 = .ok (.getfield 20, 3) := dq_180 (dq_suf 1 dt07cX8_fillModel_2 rfl rfl) rfl
theorem dX8_fillModel_36 : decode cX8_fillModel 36 = .ok (.iload_n 2, 1) := dq_28 (dq_suf 4 dt07cX8_fillModel_2 rfl rfl)
theorem dX8_fillModel_37 : decode cX8_fillModel 37 = .ok (.invokevirtual 102, 3) := dq_182 (dq_suf 5 dt07cX8_fillModel_2 rfl rfl) rfl
theorem dX8_fillModel_40 : decode cX8_fillModel 40 = .ok (.invokevirtual 105, 3) := dq_182 (dq_suf 8 dt07cX8_fillModel_2 rfl rfl) rfl
theorem dX8_fillModel_43 : decode cX8_fillModel 43 = .ok (.iinc 2 1, 3) := dq_132 (dq_suf 11 dt07cX8_fillModel_2 rfl rfl) rfl (by decide +kernel)
theorem dX8_fillModel_46 : decode cX8_fillModel 46 = .ok (.goto (-40), 3) := dq_167 (dq_suf 14 dt07cX8_fillModel_2 rfl rfl) (by decide +kernel)
theorem dX8_fillModel_49 : decode cX8_fillModel 49 = .ok (.aload_n 1, 1) := dq_43 (dq_suf 1 dt07cX8_fillModel_3 rfl rfl)
theorem dX8_fillModel_50 : decode cX8_fillModel 50 = .ok (.invokevirtual 109, 3) := dq_182 (dq_suf 2 dt07cX8_fillModel_3 rfl rfl) rfl
theorem dX8_fillModel_53 : decode cX8_fillModel 53 = .ok (.return_, 1) := dq_177 (dq_suf 5 dt07cX8_fillModel_3 rfl rfl)
noncomputable def ds07cX8_lettersOf_3 : List UInt8 := 125 :: 120 :: 128 :: 61 :: 132 :: 3 :: 1 :: 167 :: 255 :: 205 :: 28 :: 172 :: []
noncomputable def ds07cX8_lettersOf_2 : List UInt8 := 29 :: 182 :: 0 :: 121 :: 153 :: 0 :: 16 :: 28 :: 4 :: 42 :: 180 :: 0 :: 56 :: 29 :: 182 :: 0 :: ds07cX8_lettersOf_3
noncomputable def ds07cX8_lettersOf_1 : List UInt8 := 180 :: 0 :: 56 :: 29 :: 182 :: 0 :: 118 :: 5 :: 160 :: 0 :: 28 :: 42 :: 180 :: 0 :: 20 :: 27 :: ds07cX8_lettersOf_2
noncomputable def ds07cX8_lettersOf_0 : List UInt8 := 3 :: 61 :: 3 :: 62 :: 29 :: 42 :: 180 :: 0 :: 56 :: 182 :: 0 :: 112 :: 162 :: 0 :: 46 :: 42 :: ds07cX8_lettersOf_1
theorem dt07cX8_lettersOf_0 : cX8_lettersOf.data.toList.drop 0 = ds07cX8_lettersOf_0 := by decide +kernel
theorem dt07cX8_lettersOf_1 : cX8_lettersOf.data.toList.drop 16 = ds07cX8_lettersOf_1 := dq_suf 16 dt07cX8_lettersOf_0 rfl rfl
theorem dt07cX8_lettersOf_2 : cX8_lettersOf.data.toList.drop 32 = ds07cX8_lettersOf_2 := dq_suf 16 dt07cX8_lettersOf_1 rfl rfl
theorem dt07cX8_lettersOf_3 : cX8_lettersOf.data.toList.drop 48 = ds07cX8_lettersOf_3 := dq_suf 16 dt07cX8_lettersOf_2 rfl rfl
theorem dX8_lettersOf_0 : decode cX8_lettersOf 0 = .ok (.iconst 0, 1) := dq_3 (dq_suf 0 dt07cX8_lettersOf_0 rfl rfl)
theorem dX8_lettersOf_1 : decode cX8_lettersOf 1 = .ok (.istore_n 2, 1) := dq_61 (dq_suf 1 dt07cX8_lettersOf_0 rfl rfl)
theorem dX8_lettersOf_2 : decode cX8_lettersOf 2 = .ok (.iconst 0, 1) := dq_3 (dq_suf 2 dt07cX8_lettersOf_0 rfl rfl)
theorem dX8_lettersOf_3 : decode cX8_lettersOf 3 = .ok (.istore_n 3, 1) := dq_62 (dq_suf 3 dt07cX8_lettersOf_0 rfl rfl)
theorem dX8_lettersOf_4 : decode cX8_lettersOf 4 = .ok (.iload_n 3, 1) := dq_29 (dq_suf 4 dt07cX8_lettersOf_0 rfl rfl)
theorem dX8_lettersOf_5 : decode cX8_lettersOf 5 = .ok (.aload_n 0, 1) := dq_42 (dq_suf 5 dt07cX8_lettersOf_0 rfl rfl)
theorem dX8_lettersOf_6 : decode cX8_lettersOf 6 = .ok (.getfield 56, 3) := dq_180 (dq_suf 6 dt07cX8_lettersOf_0 rfl rfl) rfl
theorem dX8_lettersOf_9 : decode cX8_lettersOf 9 = .ok (.invokevirtual 112, 3) := dq_182 (dq_suf 9 dt07cX8_lettersOf_0 rfl rfl) rfl
theorem dX8_lettersOf_12 : decode cX8_lettersOf 12 = .ok (.if_icmp .ge 46, 3) := dq_162 (dq_suf 12 dt07cX8_lettersOf_0 rfl rfl) (by decide +kernel)
theorem dX8_lettersOf_15 : decode cX8_lettersOf 15 = .ok (.aload_n 0, 1) := dq_42 (dq_suf 15 dt07cX8_lettersOf_0 rfl rfl)
theorem dX8_lettersOf_16 : decode cX8_lettersOf 16 = .ok (.getfield 56, 3) := dq_180 (dq_suf 0 dt07cX8_lettersOf_1 rfl rfl) rfl
theorem dX8_lettersOf_19 : decode cX8_lettersOf 19 = .ok (.iload_n 3, 1) := dq_29 (dq_suf 3 dt07cX8_lettersOf_1 rfl rfl)
theorem dX8_lettersOf_20 : decode cX8_lettersOf 20 = .ok (.invokevirtual 118, 3) := dq_182 (dq_suf 4 dt07cX8_lettersOf_1 rfl rfl) rfl
theorem dX8_lettersOf_23 : decode cX8_lettersOf 23 = .ok (.iconst 2, 1) := dq_5 (dq_suf 7 dt07cX8_lettersOf_1 rfl rfl)
theorem dX8_lettersOf_24 : decode cX8_lettersOf 24 = .ok (.if_icmp .ne 28, 3) := dq_160 (dq_suf 8 dt07cX8_lettersOf_1 rfl rfl) (by decide +kernel)
theorem dX8_lettersOf_27 : decode cX8_lettersOf 27 = .ok (.aload_n 0, 1) := dq_42 (dq_suf 11 dt07cX8_lettersOf_1 rfl rfl)
theorem dX8_lettersOf_28 : decode cX8_lettersOf 28 = .ok (.getfield 20, 3) := dq_180 (dq_suf 12 dt07cX8_lettersOf_1 rfl rfl) rfl
theorem dX8_lettersOf_31 : decode cX8_lettersOf 31 = .ok (.iload_n 1, 1) := dq_27 (dq_suf 15 dt07cX8_lettersOf_1 rfl rfl)
theorem dX8_lettersOf_32 : decode cX8_lettersOf 32 = .ok (.iload_n 3, 1) := dq_29 (dq_suf 0 dt07cX8_lettersOf_2 rfl rfl)
theorem dX8_lettersOf_33 : decode cX8_lettersOf 33 = .ok (.invokevirtual 121, 3) := dq_182 (dq_suf 1 dt07cX8_lettersOf_2 rfl rfl) rfl
theorem dX8_lettersOf_36 : decode cX8_lettersOf 36 = .ok (.ifCond .eq 16, 3) := dq_153 (dq_suf 4 dt07cX8_lettersOf_2 rfl rfl) (by decide +kernel)
theorem dX8_lettersOf_39 : decode cX8_lettersOf 39 = .ok (.iload_n 2, 1) := dq_28 (dq_suf 7 dt07cX8_lettersOf_2 rfl rfl)
theorem dX8_lettersOf_40 : decode cX8_lettersOf 40 = .ok (.iconst 1, 1) := dq_4 (dq_suf 8 dt07cX8_lettersOf_2 rfl rfl)
theorem dX8_lettersOf_41 : decode cX8_lettersOf 41 = .ok (.aload_n 0, 1) := dq_42 (dq_suf 9 dt07cX8_lettersOf_2 rfl rfl)
theorem dX8_lettersOf_42 : decode cX8_lettersOf 42 = .ok (.getfield 56, 3) := dq_180 (dq_suf 10 dt07cX8_lettersOf_2 rfl rfl) rfl
theorem dX8_lettersOf_45 : decode cX8_lettersOf 45 = .ok (.iload_n 3, 1) := dq_29 (dq_suf 13 dt07cX8_lettersOf_2 rfl rfl)
theorem dX8_lettersOf_46 : decode cX8_lettersOf 46 = .ok (.invokevirtual 125, 3) := dq_182 (dq_suf 14 dt07cX8_lettersOf_2 rfl rfl) rfl
theorem dX8_lettersOf_49 : decode cX8_lettersOf 49 = .ok (.ishl, 1) := dq_120 (dq_suf 1 dt07cX8_lettersOf_3 rfl rfl)
theorem dX8_lettersOf_50 : decode cX8_lettersOf 50 = .ok (.ior, 1) := dq_128 (dq_suf 2 dt07cX8_lettersOf_3 rfl rfl)
theorem dX8_lettersOf_51 : decode cX8_lettersOf 51 = .ok (.istore_n 2, 1) := dq_61 (dq_suf 3 dt07cX8_lettersOf_3 rfl rfl)
theorem dX8_lettersOf_52 : decode cX8_lettersOf 52 = .ok (.iinc 3 1, 3) := dq_132 (dq_suf 4 dt07cX8_lettersOf_3 rfl rfl) rfl (by decide +kernel)
theorem dX8_lettersOf_55 : decode cX8_lettersOf 55 = .ok (.goto (-51), 3) := dq_167 (dq_suf 7 dt07cX8_lettersOf_3 rfl rfl) (by decide +kernel)
theorem dX8_lettersOf_58 : decode cX8_lettersOf 58 = .ok (.iload_n 2, 1) := dq_28 (dq_suf 10 dt07cX8_lettersOf_3 rfl rfl)
theorem dX8_lettersOf_59 : decode cX8_lettersOf 59 = .ok (.ireturn, 1) := dq_172 (dq_suf 11 dt07cX8_lettersOf_3 rfl rfl)
noncomputable def ds07cX8_goOn_7 : List UInt8 := 153 :: 177 :: []
noncomputable def ds07cX8_goOn_6 : List UInt8 := 2 :: 159 :: 0 :: 12 :: 42 :: 21 :: 4 :: 182 :: 0 :: 150 :: 167 :: 0 :: 7 :: 42 :: 182 :: 0 :: ds07cX8_goOn_7
noncomputable def ds07cX8_goOn_5 : List UInt8 := 42 :: 29 :: 182 :: 0 :: 147 :: 177 :: 42 :: 16 :: 7 :: 182 :: 0 :: 141 :: 54 :: 4 :: 21 :: 4 :: ds07cX8_goOn_6
noncomputable def ds07cX8_goOn_4 : List UInt8 := 28 :: 182 :: 0 :: 144 :: 177 :: 42 :: 8 :: 182 :: 0 :: 141 :: 62 :: 29 :: 2 :: 159 :: 0 :: 9 :: ds07cX8_goOn_5
noncomputable def ds07cX8_goOn_3 : List UInt8 := 144 :: 177 :: 42 :: 16 :: 6 :: 182 :: 0 :: 141 :: 61 :: 28 :: 2 :: 159 :: 0 :: 10 :: 42 :: 5 :: ds07cX8_goOn_4
noncomputable def ds07cX8_goOn_2 : List UInt8 := 42 :: 7 :: 182 :: 0 :: 141 :: 60 :: 27 :: 2 :: 159 :: 0 :: 10 :: 42 :: 4 :: 27 :: 182 :: 0 :: ds07cX8_goOn_3
noncomputable def ds07cX8_goOn_1 : List UInt8 := 131 :: 153 :: 0 :: 14 :: 42 :: 182 :: 0 :: 134 :: 153 :: 0 :: 7 :: 42 :: 182 :: 0 :: 138 :: 177 :: ds07cX8_goOn_2
noncomputable def ds07cX8_goOn_0 : List UInt8 := 42 :: 180 :: 0 :: 128 :: 2 :: 159 :: 0 :: 27 :: 42 :: 3 :: 42 :: 180 :: 0 :: 128 :: 182 :: 0 :: ds07cX8_goOn_1
theorem dt07cX8_goOn_0 : cX8_goOn.data.toList.drop 0 = ds07cX8_goOn_0 := by decide +kernel
theorem dt07cX8_goOn_1 : cX8_goOn.data.toList.drop 16 = ds07cX8_goOn_1 := dq_suf 16 dt07cX8_goOn_0 rfl rfl
theorem dt07cX8_goOn_2 : cX8_goOn.data.toList.drop 32 = ds07cX8_goOn_2 := dq_suf 16 dt07cX8_goOn_1 rfl rfl
theorem dt07cX8_goOn_3 : cX8_goOn.data.toList.drop 48 = ds07cX8_goOn_3 := dq_suf 16 dt07cX8_goOn_2 rfl rfl
theorem dt07cX8_goOn_4 : cX8_goOn.data.toList.drop 64 = ds07cX8_goOn_4 := dq_suf 16 dt07cX8_goOn_3 rfl rfl
theorem dt07cX8_goOn_5 : cX8_goOn.data.toList.drop 80 = ds07cX8_goOn_5 := dq_suf 16 dt07cX8_goOn_4 rfl rfl
theorem dt07cX8_goOn_6 : cX8_goOn.data.toList.drop 96 = ds07cX8_goOn_6 := dq_suf 16 dt07cX8_goOn_5 rfl rfl
theorem dt07cX8_goOn_7 : cX8_goOn.data.toList.drop 112 = ds07cX8_goOn_7 := dq_suf 16 dt07cX8_goOn_6 rfl rfl
theorem dX8_goOn_0 : decode cX8_goOn 0 = .ok (.aload_n 0, 1) := dq_42 (dq_suf 0 dt07cX8_goOn_0 rfl rfl)
theorem dX8_goOn_1 : decode cX8_goOn 1 = .ok (.getfield 128, 3) := dq_180 (dq_suf 1 dt07cX8_goOn_0 rfl rfl) rfl
theorem dX8_goOn_4 : decode cX8_goOn 4 = .ok (.iconst (-1), 1) := dq_2 (dq_suf 4 dt07cX8_goOn_0 rfl rfl)
theorem dX8_goOn_5 : decode cX8_goOn 5 = .ok (.if_icmp .eq 27, 3) := dq_159 (dq_suf 5 dt07cX8_goOn_0 rfl rfl) (by decide +kernel)
theorem dX8_goOn_8 : decode cX8_goOn 8 = .ok (.aload_n 0, 1) := dq_42 (dq_suf 8 dt07cX8_goOn_0 rfl rfl)
theorem dX8_goOn_9 : decode cX8_goOn 9 = .ok (.iconst 0, 1) := dq_3 (dq_suf 9 dt07cX8_goOn_0 rfl rfl)
theorem dX8_goOn_10 : decode cX8_goOn 10 = .ok (.aload_n 0, 1) := dq_42 (dq_suf 10 dt07cX8_goOn_0 rfl rfl)
theorem dX8_goOn_11 : decode cX8_goOn 11 = .ok (.getfield 128, 3) := dq_180 (dq_suf 11 dt07cX8_goOn_0 rfl rfl) rfl
theorem dX8_goOn_14 : decode cX8_goOn 14 = .ok (.invokevirtual 131, 3) := dq_182 (dq_suf 14 dt07cX8_goOn_0 rfl rfl) rfl
theorem dX8_goOn_17 : decode cX8_goOn 17 = .ok (.ifCond .eq 14, 3) := dq_153 (dq_suf 1 dt07cX8_goOn_1 rfl rfl) (by decide +kernel)
theorem dX8_goOn_20 : decode cX8_goOn 20 = .ok (.aload_n 0, 1) := dq_42 (dq_suf 4 dt07cX8_goOn_1 rfl rfl)
theorem dX8_goOn_21 : decode cX8_goOn 21 = .ok (.invokevirtual 134, 3) := dq_182 (dq_suf 5 dt07cX8_goOn_1 rfl rfl) rfl
theorem dX8_goOn_24 : decode cX8_goOn 24 = .ok (.ifCond .eq 7, 3) := dq_153 (dq_suf 8 dt07cX8_goOn_1 rfl rfl) (by decide +kernel)
theorem dX8_goOn_27 : decode cX8_goOn 27 = .ok (.aload_n 0, 1) := dq_42 (dq_suf 11 dt07cX8_goOn_1 rfl rfl)
theorem dX8_goOn_28 : decode cX8_goOn 28 = .ok (.invokevirtual 138, 3) := dq_182 (dq_suf 12 dt07cX8_goOn_1 rfl rfl) rfl
theorem dX8_goOn_31 : decode cX8_goOn 31 = .ok (.return_, 1) := dq_177 (dq_suf 15 dt07cX8_goOn_1 rfl rfl)
theorem dX8_goOn_32 : decode cX8_goOn 32 = .ok (.aload_n 0, 1) := dq_42 (dq_suf 0 dt07cX8_goOn_2 rfl rfl)
theorem dX8_goOn_33 : decode cX8_goOn 33 = .ok (.iconst 4, 1) := dq_7 (dq_suf 1 dt07cX8_goOn_2 rfl rfl)
theorem dX8_goOn_34 : decode cX8_goOn 34 = .ok (.invokevirtual 141, 3) := dq_182 (dq_suf 2 dt07cX8_goOn_2 rfl rfl) rfl
theorem dX8_goOn_37 : decode cX8_goOn 37 = .ok (.istore_n 1, 1) := dq_60 (dq_suf 5 dt07cX8_goOn_2 rfl rfl)
theorem dX8_goOn_38 : decode cX8_goOn 38 = .ok (.iload_n 1, 1) := dq_27 (dq_suf 6 dt07cX8_goOn_2 rfl rfl)
theorem dX8_goOn_39 : decode cX8_goOn 39 = .ok (.iconst (-1), 1) := dq_2 (dq_suf 7 dt07cX8_goOn_2 rfl rfl)
theorem dX8_goOn_40 : decode cX8_goOn 40 = .ok (.if_icmp .eq 10, 3) := dq_159 (dq_suf 8 dt07cX8_goOn_2 rfl rfl) (by decide +kernel)
theorem dX8_goOn_43 : decode cX8_goOn 43 = .ok (.aload_n 0, 1) := dq_42 (dq_suf 11 dt07cX8_goOn_2 rfl rfl)
theorem dX8_goOn_44 : decode cX8_goOn 44 = .ok (.iconst 1, 1) := dq_4 (dq_suf 12 dt07cX8_goOn_2 rfl rfl)
theorem dX8_goOn_45 : decode cX8_goOn 45 = .ok (.iload_n 1, 1) := dq_27 (dq_suf 13 dt07cX8_goOn_2 rfl rfl)
theorem dX8_goOn_46 : decode cX8_goOn 46 = .ok (.invokevirtual 144, 3) := dq_182 (dq_suf 14 dt07cX8_goOn_2 rfl rfl) rfl
theorem dX8_goOn_49 : decode cX8_goOn 49 = .ok (.return_, 1) := dq_177 (dq_suf 1 dt07cX8_goOn_3 rfl rfl)
theorem dX8_goOn_50 : decode cX8_goOn 50 = .ok (.aload_n 0, 1) := dq_42 (dq_suf 2 dt07cX8_goOn_3 rfl rfl)
theorem dX8_goOn_51 : decode cX8_goOn 51 = .ok (.bipush 6, 2) := dq_16 (dq_suf 3 dt07cX8_goOn_3 rfl rfl) (by decide +kernel)
theorem dX8_goOn_53 : decode cX8_goOn 53 = .ok (.invokevirtual 141, 3) := dq_182 (dq_suf 5 dt07cX8_goOn_3 rfl rfl) rfl
theorem dX8_goOn_56 : decode cX8_goOn 56 = .ok (.istore_n 2, 1) := dq_61 (dq_suf 8 dt07cX8_goOn_3 rfl rfl)
theorem dX8_goOn_57 : decode cX8_goOn 57 = .ok (.iload_n 2, 1) := dq_28 (dq_suf 9 dt07cX8_goOn_3 rfl rfl)
theorem dX8_goOn_58 : decode cX8_goOn 58 = .ok (.iconst (-1), 1) := dq_2 (dq_suf 10 dt07cX8_goOn_3 rfl rfl)
theorem dX8_goOn_59 : decode cX8_goOn 59 = .ok (.if_icmp .eq 10, 3) := dq_159 (dq_suf 11 dt07cX8_goOn_3 rfl rfl) (by decide +kernel)
theorem dX8_goOn_62 : decode cX8_goOn 62 = .ok (.aload_n 0, 1) := dq_42 (dq_suf 14 dt07cX8_goOn_3 rfl rfl)
theorem dX8_goOn_63 : decode cX8_goOn 63 = .ok (.iconst 2, 1) := dq_5 (dq_suf 15 dt07cX8_goOn_3 rfl rfl)
theorem dX8_goOn_64 : decode cX8_goOn 64 = .ok (.iload_n 2, 1) := dq_28 (dq_suf 0 dt07cX8_goOn_4 rfl rfl)
theorem dX8_goOn_65 : decode cX8_goOn 65 = .ok (.invokevirtual 144, 3) := dq_182 (dq_suf 1 dt07cX8_goOn_4 rfl rfl) rfl
theorem dX8_goOn_68 : decode cX8_goOn 68 = .ok (.return_, 1) := dq_177 (dq_suf 4 dt07cX8_goOn_4 rfl rfl)
theorem dX8_goOn_69 : decode cX8_goOn 69 = .ok (.aload_n 0, 1) := dq_42 (dq_suf 5 dt07cX8_goOn_4 rfl rfl)
theorem dX8_goOn_70 : decode cX8_goOn 70 = .ok (.iconst 5, 1) := dq_8 (dq_suf 6 dt07cX8_goOn_4 rfl rfl)
theorem dX8_goOn_71 : decode cX8_goOn 71 = .ok (.invokevirtual 141, 3) := dq_182 (dq_suf 7 dt07cX8_goOn_4 rfl rfl) rfl
theorem dX8_goOn_74 : decode cX8_goOn 74 = .ok (.istore_n 3, 1) := dq_62 (dq_suf 10 dt07cX8_goOn_4 rfl rfl)
theorem dX8_goOn_75 : decode cX8_goOn 75 = .ok (.iload_n 3, 1) := dq_29 (dq_suf 11 dt07cX8_goOn_4 rfl rfl)
theorem dX8_goOn_76 : decode cX8_goOn 76 = .ok (.iconst (-1), 1) := dq_2 (dq_suf 12 dt07cX8_goOn_4 rfl rfl)
theorem dX8_goOn_77 : decode cX8_goOn 77 = .ok (.if_icmp .eq 9, 3) := dq_159 (dq_suf 13 dt07cX8_goOn_4 rfl rfl) (by decide +kernel)
theorem dX8_goOn_80 : decode cX8_goOn 80 = .ok (.aload_n 0, 1) := dq_42 (dq_suf 0 dt07cX8_goOn_5 rfl rfl)
theorem dX8_goOn_81 : decode cX8_goOn 81 = .ok (.iload_n 3, 1) := dq_29 (dq_suf 1 dt07cX8_goOn_5 rfl rfl)
theorem dX8_goOn_82 : decode cX8_goOn 82 = .ok (.invokevirtual 147, 3) := dq_182 (dq_suf 2 dt07cX8_goOn_5 rfl rfl) rfl
theorem dX8_goOn_85 : decode cX8_goOn 85 = .ok (.return_, 1) := dq_177 (dq_suf 5 dt07cX8_goOn_5 rfl rfl)
theorem dX8_goOn_86 : decode cX8_goOn 86 = .ok (.aload_n 0, 1) := dq_42 (dq_suf 6 dt07cX8_goOn_5 rfl rfl)
theorem dX8_goOn_87 : decode cX8_goOn 87 = .ok (.bipush 7, 2) := dq_16 (dq_suf 7 dt07cX8_goOn_5 rfl rfl) (by decide +kernel)
theorem dX8_goOn_89 : decode cX8_goOn 89 = .ok (.invokevirtual 141, 3) := dq_182 (dq_suf 9 dt07cX8_goOn_5 rfl rfl) rfl
theorem dX8_goOn_92 : decode cX8_goOn 92 = .ok (.istore 4, 2) := dq_54 (dq_suf 12 dt07cX8_goOn_5 rfl rfl) rfl
theorem dX8_goOn_94 : decode cX8_goOn 94 = .ok (.iload 4, 2) := dq_21 (dq_suf 14 dt07cX8_goOn_5 rfl rfl) rfl
theorem dX8_goOn_96 : decode cX8_goOn 96 = .ok (.iconst (-1), 1) := dq_2 (dq_suf 0 dt07cX8_goOn_6 rfl rfl)
theorem dX8_goOn_97 : decode cX8_goOn 97 = .ok (.if_icmp .eq 12, 3) := dq_159 (dq_suf 1 dt07cX8_goOn_6 rfl rfl) (by decide +kernel)
theorem dX8_goOn_100 : decode cX8_goOn 100 = .ok (.aload_n 0, 1) := dq_42 (dq_suf 4 dt07cX8_goOn_6 rfl rfl)
theorem dX8_goOn_101 : decode cX8_goOn 101 = .ok (.iload 4, 2) := dq_21 (dq_suf 5 dt07cX8_goOn_6 rfl rfl) rfl
theorem dX8_goOn_103 : decode cX8_goOn 103 = .ok (.invokevirtual 150, 3) := dq_182 (dq_suf 7 dt07cX8_goOn_6 rfl rfl) rfl
theorem dX8_goOn_106 : decode cX8_goOn 106 = .ok (.goto 7, 3) := dq_167 (dq_suf 10 dt07cX8_goOn_6 rfl rfl) (by decide +kernel)
theorem dX8_goOn_109 : decode cX8_goOn 109 = .ok (.aload_n 0, 1) := dq_42 (dq_suf 13 dt07cX8_goOn_6 rfl rfl)
theorem dX8_goOn_110 : decode cX8_goOn 110 = .ok (.invokevirtual 153, 3) := dq_182 (dq_suf 14 dt07cX8_goOn_6 rfl rfl) rfl
theorem dX8_goOn_113 : decode cX8_goOn 113 = .ok (.return_, 1) := dq_177 (dq_suf 1 dt07cX8_goOn_7 rfl rfl)
noncomputable def ds07cX8_leastToDo_7 : List UInt8 := 255 :: 167 :: 255 :: 195 :: 132 :: 3 :: 1 :: 167 :: 255 :: 147 :: 2 :: 172 :: []
noncomputable def ds07cX8_leastToDo_6 : List UInt8 := 21 :: 7 :: 182 :: 0 :: 176 :: 22 :: 4 :: 22 :: 4 :: 10 :: 101 :: 127 :: 55 :: 4 :: 132 :: 6 :: ds07cX8_leastToDo_7
noncomputable def ds07cX8_leastToDo_5 : List UInt8 := 0 :: 173 :: 154 :: 0 :: 6 :: 21 :: 7 :: 172 :: 42 :: 180 :: 0 :: 23 :: 42 :: 180 :: 0 :: 160 :: ds07cX8_leastToDo_6
noncomputable def ds07cX8_leastToDo_4 : List UInt8 := 4 :: 117 :: 127 :: 10 :: 101 :: 184 :: 0 :: 167 :: 96 :: 54 :: 7 :: 42 :: 27 :: 21 :: 7 :: 182 :: ds07cX8_leastToDo_5
noncomputable def ds07cX8_leastToDo_3 : List UInt8 := 0 :: 167 :: 54 :: 6 :: 21 :: 6 :: 158 :: 0 :: 62 :: 16 :: 64 :: 29 :: 104 :: 22 :: 4 :: 22 :: ds07cX8_leastToDo_4
noncomputable def ds07cX8_leastToDo_2 : List UInt8 := 29 :: 182 :: 0 :: 163 :: 44 :: 27 :: 29 :: 182 :: 0 :: 163 :: 127 :: 55 :: 4 :: 22 :: 4 :: 184 :: ds07cX8_leastToDo_3
noncomputable def ds07cX8_leastToDo_1 : List UInt8 := 0 :: 56 :: 182 :: 0 :: 112 :: 162 :: 0 :: 101 :: 42 :: 180 :: 0 :: 23 :: 42 :: 180 :: 0 :: 160 :: ds07cX8_leastToDo_2
noncomputable def ds07cX8_leastToDo_0 : List UInt8 := 42 :: 180 :: 0 :: 56 :: 182 :: 0 :: 156 :: 77 :: 3 :: 62 :: 16 :: 64 :: 29 :: 104 :: 42 :: 180 :: ds07cX8_leastToDo_1
theorem dt07cX8_leastToDo_0 : cX8_leastToDo.data.toList.drop 0 = ds07cX8_leastToDo_0 := by decide +kernel
theorem dt07cX8_leastToDo_1 : cX8_leastToDo.data.toList.drop 16 = ds07cX8_leastToDo_1 := dq_suf 16 dt07cX8_leastToDo_0 rfl rfl
theorem dt07cX8_leastToDo_2 : cX8_leastToDo.data.toList.drop 32 = ds07cX8_leastToDo_2 := dq_suf 16 dt07cX8_leastToDo_1 rfl rfl
theorem dt07cX8_leastToDo_3 : cX8_leastToDo.data.toList.drop 48 = ds07cX8_leastToDo_3 := dq_suf 16 dt07cX8_leastToDo_2 rfl rfl
theorem dt07cX8_leastToDo_4 : cX8_leastToDo.data.toList.drop 64 = ds07cX8_leastToDo_4 := dq_suf 16 dt07cX8_leastToDo_3 rfl rfl
theorem dt07cX8_leastToDo_5 : cX8_leastToDo.data.toList.drop 80 = ds07cX8_leastToDo_5 := dq_suf 16 dt07cX8_leastToDo_4 rfl rfl
theorem dt07cX8_leastToDo_6 : cX8_leastToDo.data.toList.drop 96 = ds07cX8_leastToDo_6 := dq_suf 16 dt07cX8_leastToDo_5 rfl rfl
theorem dt07cX8_leastToDo_7 : cX8_leastToDo.data.toList.drop 112 = ds07cX8_leastToDo_7 := dq_suf 16 dt07cX8_leastToDo_6 rfl rfl
theorem dX8_leastToDo_0 : decode cX8_leastToDo 0 = .ok (.aload_n 0, 1) := dq_42 (dq_suf 0 dt07cX8_leastToDo_0 rfl rfl)
theorem dX8_leastToDo_1 : decode cX8_leastToDo 1 = .ok (.getfield 56, 3) := dq_180 (dq_suf 1 dt07cX8_leastToDo_0 rfl rfl) rfl
theorem dX8_leastToDo_4 : decode cX8_leastToDo 4 = .ok (.invokevirtual 156, 3) := dq_182 (dq_suf 4 dt07cX8_leastToDo_0 rfl rfl) rfl
theorem dX8_leastToDo_7 : decode cX8_leastToDo 7 = .ok (.astore_n 2, 1) := dq_77 (dq_suf 7 dt07cX8_leastToDo_0 rfl rfl)
theorem dX8_leastToDo_8 : decode cX8_leastToDo 8 = .ok (.iconst 0, 1) := dq_3 (dq_suf 8 dt07cX8_leastToDo_0 rfl rfl)
theorem dX8_leastToDo_9 : decode cX8_leastToDo 9 = .ok (.istore_n 3, 1) := dq_62 (dq_suf 9 dt07cX8_leastToDo_0 rfl rfl)
theorem dX8_leastToDo_10 : decode cX8_leastToDo 10 = .ok (.bipush 64, 2) := dq_16 (dq_suf 10 dt07cX8_leastToDo_0 rfl rfl) (by decide +kernel)
theorem dX8_leastToDo_12 : decode cX8_leastToDo 12 = .ok (.iload_n 3, 1) := dq_29 (dq_suf 12 dt07cX8_leastToDo_0 rfl rfl)
theorem dX8_leastToDo_13 : decode cX8_leastToDo 13 = .ok (.imul, 1) := dq_104 (dq_suf 13 dt07cX8_leastToDo_0 rfl rfl)
theorem dX8_leastToDo_14 : decode cX8_leastToDo 14 = .ok (.aload_n 0, 1) := dq_42 (dq_suf 14 dt07cX8_leastToDo_0 rfl rfl)
theorem dX8_leastToDo_15 : decode cX8_leastToDo 15 = .ok (.getfield 56, 3) := dq_180 (dq_suf 15 dt07cX8_leastToDo_0 rfl rfl) rfl
theorem dX8_leastToDo_18 : decode cX8_leastToDo 18 = .ok (.invokevirtual 112, 3) := dq_182 (dq_suf 2 dt07cX8_leastToDo_1 rfl rfl) rfl
theorem dX8_leastToDo_21 : decode cX8_leastToDo 21 = .ok (.if_icmp .ge 101, 3) := dq_162 (dq_suf 5 dt07cX8_leastToDo_1 rfl rfl) (by decide +kernel)
theorem dX8_leastToDo_24 : decode cX8_leastToDo 24 = .ok (.aload_n 0, 1) := dq_42 (dq_suf 8 dt07cX8_leastToDo_1 rfl rfl)
theorem dX8_leastToDo_25 : decode cX8_leastToDo 25 = .ok (.getfield 23, 3) := dq_180 (dq_suf 9 dt07cX8_leastToDo_1 rfl rfl) rfl
theorem dX8_leastToDo_28 : decode cX8_leastToDo 28 = .ok (.aload_n 0, 1) := dq_42 (dq_suf 12 dt07cX8_leastToDo_1 rfl rfl)
theorem dX8_leastToDo_29 : decode cX8_leastToDo 29 = .ok (.getfield 160, 3) := dq_180 (dq_suf 13 dt07cX8_leastToDo_1 rfl rfl) rfl
theorem dX8_leastToDo_32 : decode cX8_leastToDo 32 = .ok (.iload_n 3, 1) := dq_29 (dq_suf 0 dt07cX8_leastToDo_2 rfl rfl)
theorem dX8_leastToDo_33 : decode cX8_leastToDo 33 = .ok (.invokevirtual 163, 3) := dq_182 (dq_suf 1 dt07cX8_leastToDo_2 rfl rfl) rfl
theorem dX8_leastToDo_36 : decode cX8_leastToDo 36 = .ok (.aload_n 2, 1) := dq_44 (dq_suf 4 dt07cX8_leastToDo_2 rfl rfl)
theorem dX8_leastToDo_37 : decode cX8_leastToDo 37 = .ok (.iload_n 1, 1) := dq_27 (dq_suf 5 dt07cX8_leastToDo_2 rfl rfl)
theorem dX8_leastToDo_38 : decode cX8_leastToDo 38 = .ok (.iload_n 3, 1) := dq_29 (dq_suf 6 dt07cX8_leastToDo_2 rfl rfl)
theorem dX8_leastToDo_39 : decode cX8_leastToDo 39 = .ok (.invokevirtual 163, 3) := dq_182 (dq_suf 7 dt07cX8_leastToDo_2 rfl rfl) rfl
theorem dX8_leastToDo_42 : decode cX8_leastToDo 42 = .ok (.land, 1) := dq_127 (dq_suf 10 dt07cX8_leastToDo_2 rfl rfl)
theorem dX8_leastToDo_43 : decode cX8_leastToDo 43 = .ok (.lstore 4, 2) := dq_55 (dq_suf 11 dt07cX8_leastToDo_2 rfl rfl) rfl
theorem dX8_leastToDo_45 : decode cX8_leastToDo 45 = .ok (.lload 4, 2) := dq_22 (dq_suf 13 dt07cX8_leastToDo_2 rfl rfl) rfl
theorem dX8_leastToDo_47 : decode cX8_leastToDo 47 = .ok (.invokestatic 167, 3) := dq_184 (dq_suf 15 dt07cX8_leastToDo_2 rfl rfl) rfl
theorem dX8_leastToDo_50 : decode cX8_leastToDo 50 = .ok (.istore 6, 2) := dq_54 (dq_suf 2 dt07cX8_leastToDo_3 rfl rfl) rfl
theorem dX8_leastToDo_52 : decode cX8_leastToDo 52 = .ok (.iload 6, 2) := dq_21 (dq_suf 4 dt07cX8_leastToDo_3 rfl rfl) rfl
theorem dX8_leastToDo_54 : decode cX8_leastToDo 54 = .ok (.ifCond .le 62, 3) := dq_158 (dq_suf 6 dt07cX8_leastToDo_3 rfl rfl) (by decide +kernel)
theorem dX8_leastToDo_57 : decode cX8_leastToDo 57 = .ok (.bipush 64, 2) := dq_16 (dq_suf 9 dt07cX8_leastToDo_3 rfl rfl) (by decide +kernel)
theorem dX8_leastToDo_59 : decode cX8_leastToDo 59 = .ok (.iload_n 3, 1) := dq_29 (dq_suf 11 dt07cX8_leastToDo_3 rfl rfl)
theorem dX8_leastToDo_60 : decode cX8_leastToDo 60 = .ok (.imul, 1) := dq_104 (dq_suf 12 dt07cX8_leastToDo_3 rfl rfl)
theorem dX8_leastToDo_61 : decode cX8_leastToDo 61 = .ok (.lload 4, 2) := dq_22 (dq_suf 13 dt07cX8_leastToDo_3 rfl rfl) rfl
theorem dX8_leastToDo_63 : decode cX8_leastToDo 63 = .ok (.lload 4, 2) := dq_22 (dq_suf 15 dt07cX8_leastToDo_3 rfl rfl) rfl
theorem dX8_leastToDo_65 : decode cX8_leastToDo 65 = .ok (.lneg, 1) := dq_117 (dq_suf 1 dt07cX8_leastToDo_4 rfl rfl)
theorem dX8_leastToDo_66 : decode cX8_leastToDo 66 = .ok (.land, 1) := dq_127 (dq_suf 2 dt07cX8_leastToDo_4 rfl rfl)
theorem dX8_leastToDo_67 : decode cX8_leastToDo 67 = .ok (.lconst 1, 1) := dq_10 (dq_suf 3 dt07cX8_leastToDo_4 rfl rfl)
theorem dX8_leastToDo_68 : decode cX8_leastToDo 68 = .ok (.lsub, 1) := dq_101 (dq_suf 4 dt07cX8_leastToDo_4 rfl rfl)
theorem dX8_leastToDo_69 : decode cX8_leastToDo 69 = .ok (.invokestatic 167, 3) := dq_184 (dq_suf 5 dt07cX8_leastToDo_4 rfl rfl) rfl
theorem dX8_leastToDo_72 : decode cX8_leastToDo 72 = .ok (.iadd, 1) := dq_96 (dq_suf 8 dt07cX8_leastToDo_4 rfl rfl)
theorem dX8_leastToDo_73 : decode cX8_leastToDo 73 = .ok (.istore 7, 2) := dq_54 (dq_suf 9 dt07cX8_leastToDo_4 rfl rfl) rfl
theorem dX8_leastToDo_75 : decode cX8_leastToDo 75 = .ok (.aload_n 0, 1) := dq_42 (dq_suf 11 dt07cX8_leastToDo_4 rfl rfl)
theorem dX8_leastToDo_76 : decode cX8_leastToDo 76 = .ok (.iload_n 1, 1) := dq_27 (dq_suf 12 dt07cX8_leastToDo_4 rfl rfl)
theorem dX8_leastToDo_77 : decode cX8_leastToDo 77 = .ok (.iload 7, 2) := dq_21 (dq_suf 13 dt07cX8_leastToDo_4 rfl rfl) rfl
theorem dX8_leastToDo_79 : decode cX8_leastToDo 79 = .ok (.invokevirtual 173, 3) := dq_182 (dq_suf 15 dt07cX8_leastToDo_4 rfl rfl) rfl
theorem dX8_leastToDo_82 : decode cX8_leastToDo 82 = .ok (.ifCond .ne 6, 3) := dq_154 (dq_suf 2 dt07cX8_leastToDo_5 rfl rfl) (by decide +kernel)
theorem dX8_leastToDo_85 : decode cX8_leastToDo 85 = .ok (.iload 7, 2) := dq_21 (dq_suf 5 dt07cX8_leastToDo_5 rfl rfl) rfl
theorem dX8_leastToDo_87 : decode cX8_leastToDo 87 = .ok (.ireturn, 1) := dq_172 (dq_suf 7 dt07cX8_leastToDo_5 rfl rfl)
theorem dX8_leastToDo_88 : decode cX8_leastToDo 88 = .ok (.aload_n 0, 1) := dq_42 (dq_suf 8 dt07cX8_leastToDo_5 rfl rfl)
theorem dX8_leastToDo_89 : decode cX8_leastToDo 89 = .ok (.getfield 23, 3) := dq_180 (dq_suf 9 dt07cX8_leastToDo_5 rfl rfl) rfl
theorem dX8_leastToDo_92 : decode cX8_leastToDo 92 = .ok (.aload_n 0, 1) := dq_42 (dq_suf 12 dt07cX8_leastToDo_5 rfl rfl)
theorem dX8_leastToDo_93 : decode cX8_leastToDo 93 = .ok (.getfield 160, 3) := dq_180 (dq_suf 13 dt07cX8_leastToDo_5 rfl rfl) rfl
theorem dX8_leastToDo_96 : decode cX8_leastToDo 96 = .ok (.iload 7, 2) := dq_21 (dq_suf 0 dt07cX8_leastToDo_6 rfl rfl) rfl
theorem dX8_leastToDo_98 : decode cX8_leastToDo 98 = .ok (.invokevirtual 176, 3) := dq_182 (dq_suf 2 dt07cX8_leastToDo_6 rfl rfl) rfl
theorem dX8_leastToDo_101 : decode cX8_leastToDo 101 = .ok (.lload 4, 2) := dq_22 (dq_suf 5 dt07cX8_leastToDo_6 rfl rfl) rfl
theorem dX8_leastToDo_103 : decode cX8_leastToDo 103 = .ok (.lload 4, 2) := dq_22 (dq_suf 7 dt07cX8_leastToDo_6 rfl rfl) rfl
theorem dX8_leastToDo_105 : decode cX8_leastToDo 105 = .ok (.lconst 1, 1) := dq_10 (dq_suf 9 dt07cX8_leastToDo_6 rfl rfl)
theorem dX8_leastToDo_106 : decode cX8_leastToDo 106 = .ok (.lsub, 1) := dq_101 (dq_suf 10 dt07cX8_leastToDo_6 rfl rfl)
theorem dX8_leastToDo_107 : decode cX8_leastToDo 107 = .ok (.land, 1) := dq_127 (dq_suf 11 dt07cX8_leastToDo_6 rfl rfl)
theorem dX8_leastToDo_108 : decode cX8_leastToDo 108 = .ok (.lstore 4, 2) := dq_55 (dq_suf 12 dt07cX8_leastToDo_6 rfl rfl) rfl
theorem dX8_leastToDo_110 : decode cX8_leastToDo 110 = .ok (.iinc 6 (-1), 3) := dq_132 (dq_suf 14 dt07cX8_leastToDo_6 rfl rfl) rfl (by decide +kernel)
theorem dX8_leastToDo_113 : decode cX8_leastToDo 113 = .ok (.goto (-61), 3) := dq_167 (dq_suf 1 dt07cX8_leastToDo_7 rfl rfl) (by decide +kernel)
theorem dX8_leastToDo_116 : decode cX8_leastToDo 116 = .ok (.iinc 3 1, 3) := dq_132 (dq_suf 4 dt07cX8_leastToDo_7 rfl rfl) rfl (by decide +kernel)
theorem dX8_leastToDo_119 : decode cX8_leastToDo 119 = .ok (.goto (-109), 3) := dq_167 (dq_suf 7 dt07cX8_leastToDo_7 rfl rfl) (by decide +kernel)
theorem dX8_leastToDo_122 : decode cX8_leastToDo 122 = .ok (.iconst (-1), 1) := dq_2 (dq_suf 10 dt07cX8_leastToDo_7 rfl rfl)
theorem dX8_leastToDo_123 : decode cX8_leastToDo 123 = .ok (.ireturn, 1) := dq_172 (dq_suf 11 dt07cX8_leastToDo_7 rfl rfl)
noncomputable def ds07cX8_isDone_5 : List UInt8 := 0 :: 179 :: 182 :: 0 :: 121 :: 153 :: 0 :: 7 :: 4 :: 167 :: 0 :: 4 :: 3 :: 172 :: []
noncomputable def ds07cX8_isDone_4 : List UInt8 := 0 :: 29 :: 42 :: 180 :: 0 :: 20 :: 42 :: 180 :: 0 :: 160 :: 42 :: 180 :: 0 :: 56 :: 28 :: 182 :: ds07cX8_isDone_5
noncomputable def ds07cX8_isDone_3 : List UInt8 := 153 :: 0 :: 7 :: 4 :: 167 :: 0 :: 4 :: 3 :: 172 :: 29 :: 154 :: 0 :: 30 :: 27 :: 8 :: 160 :: ds07cX8_isDone_4
noncomputable def ds07cX8_isDone_2 : List UInt8 := 20 :: 42 :: 180 :: 0 :: 160 :: 42 :: 180 :: 0 :: 56 :: 28 :: 182 :: 0 :: 179 :: 182 :: 0 :: 121 :: ds07cX8_isDone_3
noncomputable def ds07cX8_isDone_1 : List UInt8 := 182 :: 0 :: 121 :: 62 :: 27 :: 7 :: 160 :: 0 :: 35 :: 29 :: 153 :: 0 :: 29 :: 42 :: 180 :: 0 :: ds07cX8_isDone_2
noncomputable def ds07cX8_isDone_0 : List UInt8 := 42 :: 180 :: 0 :: 20 :: 42 :: 180 :: 0 :: 160 :: 42 :: 180 :: 0 :: 56 :: 28 :: 182 :: 0 :: 125 :: ds07cX8_isDone_1
theorem dt07cX8_isDone_0 : cX8_isDone.data.toList.drop 0 = ds07cX8_isDone_0 := by decide +kernel
theorem dt07cX8_isDone_1 : cX8_isDone.data.toList.drop 16 = ds07cX8_isDone_1 := dq_suf 16 dt07cX8_isDone_0 rfl rfl
theorem dt07cX8_isDone_2 : cX8_isDone.data.toList.drop 32 = ds07cX8_isDone_2 := dq_suf 16 dt07cX8_isDone_1 rfl rfl
theorem dt07cX8_isDone_3 : cX8_isDone.data.toList.drop 48 = ds07cX8_isDone_3 := dq_suf 16 dt07cX8_isDone_2 rfl rfl
theorem dt07cX8_isDone_4 : cX8_isDone.data.toList.drop 64 = ds07cX8_isDone_4 := dq_suf 16 dt07cX8_isDone_3 rfl rfl
theorem dt07cX8_isDone_5 : cX8_isDone.data.toList.drop 80 = ds07cX8_isDone_5 := dq_suf 16 dt07cX8_isDone_4 rfl rfl
theorem dX8_isDone_0 : decode cX8_isDone 0 = .ok (.aload_n 0, 1) := dq_42 (dq_suf 0 dt07cX8_isDone_0 rfl rfl)
theorem dX8_isDone_1 : decode cX8_isDone 1 = .ok (.getfield 20, 3) := dq_180 (dq_suf 1 dt07cX8_isDone_0 rfl rfl) rfl
theorem dX8_isDone_4 : decode cX8_isDone 4 = .ok (.aload_n 0, 1) := dq_42 (dq_suf 4 dt07cX8_isDone_0 rfl rfl)
theorem dX8_isDone_5 : decode cX8_isDone 5 = .ok (.getfield 160, 3) := dq_180 (dq_suf 5 dt07cX8_isDone_0 rfl rfl) rfl
theorem dX8_isDone_8 : decode cX8_isDone 8 = .ok (.aload_n 0, 1) := dq_42 (dq_suf 8 dt07cX8_isDone_0 rfl rfl)
theorem dX8_isDone_9 : decode cX8_isDone 9 = .ok (.getfield 56, 3) := dq_180 (dq_suf 9 dt07cX8_isDone_0 rfl rfl) rfl
theorem dX8_isDone_12 : decode cX8_isDone 12 = .ok (.iload_n 2, 1) := dq_28 (dq_suf 12 dt07cX8_isDone_0 rfl rfl)
theorem dX8_isDone_13 : decode cX8_isDone 13 = .ok (.invokevirtual 125, 3) := dq_182 (dq_suf 13 dt07cX8_isDone_0 rfl rfl) rfl
theorem dX8_isDone_16 : decode cX8_isDone 16 = .ok (.invokevirtual 121, 3) := dq_182 (dq_suf 0 dt07cX8_isDone_1 rfl rfl) rfl
theorem dX8_isDone_19 : decode cX8_isDone 19 = .ok (.istore_n 3, 1) := dq_62 (dq_suf 3 dt07cX8_isDone_1 rfl rfl)
theorem dX8_isDone_20 : decode cX8_isDone 20 = .ok (.iload_n 1, 1) := dq_27 (dq_suf 4 dt07cX8_isDone_1 rfl rfl)
theorem dX8_isDone_21 : decode cX8_isDone 21 = .ok (.iconst 4, 1) := dq_7 (dq_suf 5 dt07cX8_isDone_1 rfl rfl)
theorem dX8_isDone_22 : decode cX8_isDone 22 = .ok (.if_icmp .ne 35, 3) := dq_160 (dq_suf 6 dt07cX8_isDone_1 rfl rfl) (by decide +kernel)
theorem dX8_isDone_25 : decode cX8_isDone 25 = .ok (.iload_n 3, 1) := dq_29 (dq_suf 9 dt07cX8_isDone_1 rfl rfl)
theorem dX8_isDone_26 : decode cX8_isDone 26 = .ok (.ifCond .eq 29, 3) := dq_153 (dq_suf 10 dt07cX8_isDone_1 rfl rfl) (by decide +kernel)
theorem dX8_isDone_29 : decode cX8_isDone 29 = .ok (.aload_n 0, 1) := dq_42 (dq_suf 13 dt07cX8_isDone_1 rfl rfl)
theorem dX8_isDone_30 : decode cX8_isDone 30 = .ok (.getfield 20, 3) := dq_180 (dq_suf 14 dt07cX8_isDone_1 rfl rfl) rfl
theorem dX8_isDone_33 : decode cX8_isDone 33 = .ok (.aload_n 0, 1) := dq_42 (dq_suf 1 dt07cX8_isDone_2 rfl rfl)
theorem dX8_isDone_34 : decode cX8_isDone 34 = .ok (.getfield 160, 3) := dq_180 (dq_suf 2 dt07cX8_isDone_2 rfl rfl) rfl
theorem dX8_isDone_37 : decode cX8_isDone 37 = .ok (.aload_n 0, 1) := dq_42 (dq_suf 5 dt07cX8_isDone_2 rfl rfl)
theorem dX8_isDone_38 : decode cX8_isDone 38 = .ok (.getfield 56, 3) := dq_180 (dq_suf 6 dt07cX8_isDone_2 rfl rfl) rfl
theorem dX8_isDone_41 : decode cX8_isDone 41 = .ok (.iload_n 2, 1) := dq_28 (dq_suf 9 dt07cX8_isDone_2 rfl rfl)
theorem dX8_isDone_42 : decode cX8_isDone 42 = .ok (.invokevirtual 179, 3) := dq_182 (dq_suf 10 dt07cX8_isDone_2 rfl rfl) rfl
theorem dX8_isDone_45 : decode cX8_isDone 45 = .ok (.invokevirtual 121, 3) := dq_182 (dq_suf 13 dt07cX8_isDone_2 rfl rfl) rfl
theorem dX8_isDone_48 : decode cX8_isDone 48 = .ok (.ifCond .eq 7, 3) := dq_153 (dq_suf 0 dt07cX8_isDone_3 rfl rfl) (by decide +kernel)
theorem dX8_isDone_51 : decode cX8_isDone 51 = .ok (.iconst 1, 1) := dq_4 (dq_suf 3 dt07cX8_isDone_3 rfl rfl)
theorem dX8_isDone_52 : decode cX8_isDone 52 = .ok (.goto 4, 3) := dq_167 (dq_suf 4 dt07cX8_isDone_3 rfl rfl) (by decide +kernel)
theorem dX8_isDone_55 : decode cX8_isDone 55 = .ok (.iconst 0, 1) := dq_3 (dq_suf 7 dt07cX8_isDone_3 rfl rfl)
theorem dX8_isDone_56 : decode cX8_isDone 56 = .ok (.ireturn, 1) := dq_172 (dq_suf 8 dt07cX8_isDone_3 rfl rfl)
theorem dX8_isDone_57 : decode cX8_isDone 57 = .ok (.iload_n 3, 1) := dq_29 (dq_suf 9 dt07cX8_isDone_3 rfl rfl)
theorem dX8_isDone_58 : decode cX8_isDone 58 = .ok (.ifCond .ne 30, 3) := dq_154 (dq_suf 10 dt07cX8_isDone_3 rfl rfl) (by decide +kernel)
theorem dX8_isDone_61 : decode cX8_isDone 61 = .ok (.iload_n 1, 1) := dq_27 (dq_suf 13 dt07cX8_isDone_3 rfl rfl)
theorem dX8_isDone_62 : decode cX8_isDone 62 = .ok (.iconst 5, 1) := dq_8 (dq_suf 14 dt07cX8_isDone_3 rfl rfl)
theorem dX8_isDone_63 : decode cX8_isDone 63 = .ok (.if_icmp .ne 29, 3) := dq_160 (dq_suf 15 dt07cX8_isDone_3 rfl rfl) (by decide +kernel)
theorem dX8_isDone_66 : decode cX8_isDone 66 = .ok (.aload_n 0, 1) := dq_42 (dq_suf 2 dt07cX8_isDone_4 rfl rfl)
theorem dX8_isDone_67 : decode cX8_isDone 67 = .ok (.getfield 20, 3) := dq_180 (dq_suf 3 dt07cX8_isDone_4 rfl rfl) rfl
theorem dX8_isDone_70 : decode cX8_isDone 70 = .ok (.aload_n 0, 1) := dq_42 (dq_suf 6 dt07cX8_isDone_4 rfl rfl)
theorem dX8_isDone_71 : decode cX8_isDone 71 = .ok (.getfield 160, 3) := dq_180 (dq_suf 7 dt07cX8_isDone_4 rfl rfl) rfl
theorem dX8_isDone_74 : decode cX8_isDone 74 = .ok (.aload_n 0, 1) := dq_42 (dq_suf 10 dt07cX8_isDone_4 rfl rfl)
theorem dX8_isDone_75 : decode cX8_isDone 75 = .ok (.getfield 56, 3) := dq_180 (dq_suf 11 dt07cX8_isDone_4 rfl rfl) rfl
theorem dX8_isDone_78 : decode cX8_isDone 78 = .ok (.iload_n 2, 1) := dq_28 (dq_suf 14 dt07cX8_isDone_4 rfl rfl)
theorem dX8_isDone_79 : decode cX8_isDone 79 = .ok (.invokevirtual 179, 3) := dq_182 (dq_suf 15 dt07cX8_isDone_4 rfl rfl) rfl
theorem dX8_isDone_82 : decode cX8_isDone 82 = .ok (.invokevirtual 121, 3) := dq_182 (dq_suf 2 dt07cX8_isDone_5 rfl rfl) rfl
theorem dX8_isDone_85 : decode cX8_isDone 85 = .ok (.ifCond .eq 7, 3) := dq_153 (dq_suf 5 dt07cX8_isDone_5 rfl rfl) (by decide +kernel)
theorem dX8_isDone_88 : decode cX8_isDone 88 = .ok (.iconst 1, 1) := dq_4 (dq_suf 8 dt07cX8_isDone_5 rfl rfl)
theorem dX8_isDone_89 : decode cX8_isDone 89 = .ok (.goto 4, 3) := dq_167 (dq_suf 9 dt07cX8_isDone_5 rfl rfl) (by decide +kernel)
theorem dX8_isDone_92 : decode cX8_isDone 92 = .ok (.iconst 0, 1) := dq_3 (dq_suf 12 dt07cX8_isDone_5 rfl rfl)
theorem dX8_isDone_93 : decode cX8_isDone 93 = .ok (.ireturn, 1) := dq_172 (dq_suf 13 dt07cX8_isDone_5 rfl rfl)
noncomputable def ds07cX8_widen_2 : List UInt8 := 56 :: 28 :: 182 :: 0 :: 179 :: 182 :: 0 :: 185 :: 177 :: []
noncomputable def ds07cX8_widen_1 : List UInt8 := 42 :: 42 :: 180 :: 0 :: 56 :: 28 :: 182 :: 0 :: 125 :: 182 :: 0 :: 185 :: 42 :: 42 :: 180 :: 0 :: ds07cX8_widen_2
noncomputable def ds07cX8_widen_0 : List UInt8 := 42 :: 182 :: 0 :: 182 :: 153 :: 0 :: 36 :: 42 :: 27 :: 28 :: 182 :: 0 :: 131 :: 153 :: 0 :: 27 :: ds07cX8_widen_1
theorem dt07cX8_widen_0 : cX8_widen.data.toList.drop 0 = ds07cX8_widen_0 := by decide +kernel
theorem dt07cX8_widen_1 : cX8_widen.data.toList.drop 16 = ds07cX8_widen_1 := dq_suf 16 dt07cX8_widen_0 rfl rfl
theorem dt07cX8_widen_2 : cX8_widen.data.toList.drop 32 = ds07cX8_widen_2 := dq_suf 16 dt07cX8_widen_1 rfl rfl
theorem dX8_widen_0 : decode cX8_widen 0 = .ok (.aload_n 0, 1) := dq_42 (dq_suf 0 dt07cX8_widen_0 rfl rfl)
theorem dX8_widen_1 : decode cX8_widen 1 = .ok (.invokevirtual 182, 3) := dq_182 (dq_suf 1 dt07cX8_widen_0 rfl rfl) rfl
theorem dX8_widen_4 : decode cX8_widen 4 = .ok (.ifCond .eq 36, 3) := dq_153 (dq_suf 4 dt07cX8_widen_0 rfl rfl) (by decide +kernel)
theorem dX8_widen_7 : decode cX8_widen 7 = .ok (.aload_n 0, 1) := dq_42 (dq_suf 7 dt07cX8_widen_0 rfl rfl)
theorem dX8_widen_8 : decode cX8_widen 8 = .ok (.iload_n 1, 1) := dq_27 (dq_suf 8 dt07cX8_widen_0 rfl rfl)
theorem dX8_widen_9 : decode cX8_widen 9 = .ok (.iload_n 2, 1) := dq_28 (dq_suf 9 dt07cX8_widen_0 rfl rfl)
theorem dX8_widen_10 : decode cX8_widen 10 = .ok (.invokevirtual 131, 3) := dq_182 (dq_suf 10 dt07cX8_widen_0 rfl rfl) rfl
theorem dX8_widen_13 : decode cX8_widen 13 = .ok (.ifCond .eq 27, 3) := dq_153 (dq_suf 13 dt07cX8_widen_0 rfl rfl) (by decide +kernel)
theorem dX8_widen_16 : decode cX8_widen 16 = .ok (.aload_n 0, 1) := dq_42 (dq_suf 0 dt07cX8_widen_1 rfl rfl)
theorem dX8_widen_17 : decode cX8_widen 17 = .ok (.aload_n 0, 1) := dq_42 (dq_suf 1 dt07cX8_widen_1 rfl rfl)
theorem dX8_widen_18 : decode cX8_widen 18 = .ok (.getfield 56, 3) := dq_180 (dq_suf 2 dt07cX8_widen_1 rfl rfl) rfl
theorem dX8_widen_21 : decode cX8_widen 21 = .ok (.iload_n 2, 1) := dq_28 (dq_suf 5 dt07cX8_widen_1 rfl rfl)
theorem dX8_widen_22 : decode cX8_widen 22 = .ok (.invokevirtual 125, 3) := dq_182 (dq_suf 6 dt07cX8_widen_1 rfl rfl) rfl
theorem dX8_widen_25 : decode cX8_widen 25 = .ok (.invokevirtual 185, 3) := dq_182 (dq_suf 9 dt07cX8_widen_1 rfl rfl) rfl
theorem dX8_widen_28 : decode cX8_widen 28 = .ok (.aload_n 0, 1) := dq_42 (dq_suf 12 dt07cX8_widen_1 rfl rfl)
theorem dX8_widen_29 : decode cX8_widen 29 = .ok (.aload_n 0, 1) := dq_42 (dq_suf 13 dt07cX8_widen_1 rfl rfl)
theorem dX8_widen_30 : decode cX8_widen 30 = .ok (.getfield 56, 3) := dq_180 (dq_suf 14 dt07cX8_widen_1 rfl rfl) rfl
theorem dX8_widen_33 : decode cX8_widen 33 = .ok (.iload_n 2, 1) := dq_28 (dq_suf 1 dt07cX8_widen_2 rfl rfl)
theorem dX8_widen_34 : decode cX8_widen 34 = .ok (.invokevirtual 179, 3) := dq_182 (dq_suf 2 dt07cX8_widen_2 rfl rfl) rfl
theorem dX8_widen_37 : decode cX8_widen 37 = .ok (.invokevirtual 185, 3) := dq_182 (dq_suf 5 dt07cX8_widen_2 rfl rfl) rfl
theorem dX8_widen_40 : decode cX8_widen 40 = .ok (.return_, 1) := dq_177 (dq_suf 8 dt07cX8_widen_2 rfl rfl)
noncomputable def ds07cX8_tryFirst_5 : List UInt8 := 27 :: 182 :: 0 :: 125 :: 182 :: 0 :: 185 :: 177 :: []
noncomputable def ds07cX8_tryFirst_4 : List UInt8 := 79 :: 42 :: 89 :: 180 :: 0 :: 70 :: 4 :: 96 :: 181 :: 0 :: 70 :: 42 :: 42 :: 180 :: 0 :: 56 :: ds07cX8_tryFirst_5
noncomputable def ds07cX8_tryFirst_3 : List UInt8 := 42 :: 180 :: 0 :: 160 :: 182 :: 0 :: 188 :: 42 :: 180 :: 0 :: 43 :: 42 :: 180 :: 0 :: 70 :: 27 :: ds07cX8_tryFirst_4
noncomputable def ds07cX8_tryFirst_2 : List UInt8 := 131 :: 153 :: 0 :: 54 :: 42 :: 180 :: 0 :: 60 :: 42 :: 180 :: 0 :: 70 :: 42 :: 180 :: 0 :: 20 :: ds07cX8_tryFirst_3
noncomputable def ds07cX8_tryFirst_1 : List UInt8 := 0 :: 12 :: 42 :: 16 :: 252 :: 181 :: 0 :: 67 :: 167 :: 0 :: 63 :: 42 :: 6 :: 27 :: 182 :: 0 :: ds07cX8_tryFirst_2
noncomputable def ds07cX8_tryFirst_0 : List UInt8 := 42 :: 182 :: 0 :: 182 :: 154 :: 0 :: 4 :: 177 :: 42 :: 180 :: 0 :: 70 :: 17 :: 1 :: 144 :: 161 :: ds07cX8_tryFirst_1
theorem dt07cX8_tryFirst_0 : cX8_tryFirst.data.toList.drop 0 = ds07cX8_tryFirst_0 := by decide +kernel
theorem dt07cX8_tryFirst_1 : cX8_tryFirst.data.toList.drop 16 = ds07cX8_tryFirst_1 := dq_suf 16 dt07cX8_tryFirst_0 rfl rfl
theorem dt07cX8_tryFirst_2 : cX8_tryFirst.data.toList.drop 32 = ds07cX8_tryFirst_2 := dq_suf 16 dt07cX8_tryFirst_1 rfl rfl
theorem dt07cX8_tryFirst_3 : cX8_tryFirst.data.toList.drop 48 = ds07cX8_tryFirst_3 := dq_suf 16 dt07cX8_tryFirst_2 rfl rfl
theorem dt07cX8_tryFirst_4 : cX8_tryFirst.data.toList.drop 64 = ds07cX8_tryFirst_4 := dq_suf 16 dt07cX8_tryFirst_3 rfl rfl
theorem dt07cX8_tryFirst_5 : cX8_tryFirst.data.toList.drop 80 = ds07cX8_tryFirst_5 := dq_suf 16 dt07cX8_tryFirst_4 rfl rfl
theorem dX8_tryFirst_0 : decode cX8_tryFirst 0 = .ok (.aload_n 0, 1) := dq_42 (dq_suf 0 dt07cX8_tryFirst_0 rfl rfl)
theorem dX8_tryFirst_1 : decode cX8_tryFirst 1 = .ok (.invokevirtual 182, 3) := dq_182 (dq_suf 1 dt07cX8_tryFirst_0 rfl rfl) rfl
theorem dX8_tryFirst_4 : decode cX8_tryFirst 4 = .ok (.ifCond .ne 4, 3) := dq_154 (dq_suf 4 dt07cX8_tryFirst_0 rfl rfl) (by decide +kernel)
theorem dX8_tryFirst_7 : decode cX8_tryFirst 7 = .ok (.return_, 1) := dq_177 (dq_suf 7 dt07cX8_tryFirst_0 rfl rfl)
theorem dX8_tryFirst_8 : decode cX8_tryFirst 8 = .ok (.aload_n 0, 1) := dq_42 (dq_suf 8 dt07cX8_tryFirst_0 rfl rfl)
theorem dX8_tryFirst_9 : decode cX8_tryFirst 9 = .ok (.getfield 70, 3) := dq_180 (dq_suf 9 dt07cX8_tryFirst_0 rfl rfl) rfl
theorem dX8_tryFirst_12 : decode cX8_tryFirst 12 = .ok (.sipush 400, 3) := dq_17 (dq_suf 12 dt07cX8_tryFirst_0 rfl rfl) (by decide +kernel)
theorem dX8_tryFirst_15 : decode cX8_tryFirst 15 = .ok (.if_icmp .lt 12, 3) := dq_161 (dq_suf 15 dt07cX8_tryFirst_0 rfl rfl) (by decide +kernel)
theorem dX8_tryFirst_18 : decode cX8_tryFirst 18 = .ok (.aload_n 0, 1) := dq_42 (dq_suf 2 dt07cX8_tryFirst_1 rfl rfl)
theorem dX8_tryFirst_19 : decode cX8_tryFirst 19 = .ok (.bipush (-4), 2) := dq_16 (dq_suf 3 dt07cX8_tryFirst_1 rfl rfl) (by decide +kernel)
theorem dX8_tryFirst_21 : decode cX8_tryFirst 21 = .ok (.putfield 67, 3) := dq_181 (dq_suf 5 dt07cX8_tryFirst_1 rfl rfl) rfl
theorem dX8_tryFirst_24 : decode cX8_tryFirst 24 = .ok (.goto 63, 3) := dq_167 (dq_suf 8 dt07cX8_tryFirst_1 rfl rfl) (by decide +kernel)
theorem dX8_tryFirst_27 : decode cX8_tryFirst 27 = .ok (.aload_n 0, 1) := dq_42 (dq_suf 11 dt07cX8_tryFirst_1 rfl rfl)
theorem dX8_tryFirst_28 : decode cX8_tryFirst 28 = .ok (.iconst 3, 1) := dq_6 (dq_suf 12 dt07cX8_tryFirst_1 rfl rfl)
theorem dX8_tryFirst_29 : decode cX8_tryFirst 29 = .ok (.iload_n 1, 1) := dq_27 (dq_suf 13 dt07cX8_tryFirst_1 rfl rfl)
theorem dX8_tryFirst_30 : decode cX8_tryFirst 30 = .ok (.invokevirtual 131, 3) := dq_182 (dq_suf 14 dt07cX8_tryFirst_1 rfl rfl) rfl
theorem dX8_tryFirst_33 : decode cX8_tryFirst 33 = .ok (.ifCond .eq 54, 3) := dq_153 (dq_suf 1 dt07cX8_tryFirst_2 rfl rfl) (by decide +kernel)
theorem dX8_tryFirst_36 : decode cX8_tryFirst 36 = .ok (.aload_n 0, 1) := dq_42 (dq_suf 4 dt07cX8_tryFirst_2 rfl rfl)
theorem dX8_tryFirst_37 : decode cX8_tryFirst 37 = .ok (.getfield 60, 3) := dq_180 (dq_suf 5 dt07cX8_tryFirst_2 rfl rfl) rfl
theorem dX8_tryFirst_40 : decode cX8_tryFirst 40 = .ok (.aload_n 0, 1) := dq_42 (dq_suf 8 dt07cX8_tryFirst_2 rfl rfl)
theorem dX8_tryFirst_41 : decode cX8_tryFirst 41 = .ok (.getfield 70, 3) := dq_180 (dq_suf 9 dt07cX8_tryFirst_2 rfl rfl) rfl
theorem dX8_tryFirst_44 : decode cX8_tryFirst 44 = .ok (.aload_n 0, 1) := dq_42 (dq_suf 12 dt07cX8_tryFirst_2 rfl rfl)
theorem dX8_tryFirst_45 : decode cX8_tryFirst 45 = .ok (.getfield 20, 3) := dq_180 (dq_suf 13 dt07cX8_tryFirst_2 rfl rfl) rfl
theorem dX8_tryFirst_48 : decode cX8_tryFirst 48 = .ok (.aload_n 0, 1) := dq_42 (dq_suf 0 dt07cX8_tryFirst_3 rfl rfl)
theorem dX8_tryFirst_49 : decode cX8_tryFirst 49 = .ok (.getfield 160, 3) := dq_180 (dq_suf 1 dt07cX8_tryFirst_3 rfl rfl) rfl
theorem dX8_tryFirst_52 : decode cX8_tryFirst 52 = .ok (.invokevirtual 188, 3) := dq_182 (dq_suf 4 dt07cX8_tryFirst_3 rfl rfl) rfl
theorem dX8_tryFirst_55 : decode cX8_tryFirst 55 = .ok (.aload_n 0, 1) := dq_42 (dq_suf 7 dt07cX8_tryFirst_3 rfl rfl)
theorem dX8_tryFirst_56 : decode cX8_tryFirst 56 = .ok (.getfield 43, 3) := dq_180 (dq_suf 8 dt07cX8_tryFirst_3 rfl rfl) rfl
theorem dX8_tryFirst_59 : decode cX8_tryFirst 59 = .ok (.aload_n 0, 1) := dq_42 (dq_suf 11 dt07cX8_tryFirst_3 rfl rfl)
theorem dX8_tryFirst_60 : decode cX8_tryFirst 60 = .ok (.getfield 70, 3) := dq_180 (dq_suf 12 dt07cX8_tryFirst_3 rfl rfl) rfl
theorem dX8_tryFirst_63 : decode cX8_tryFirst 63 = .ok (.iload_n 1, 1) := dq_27 (dq_suf 15 dt07cX8_tryFirst_3 rfl rfl)
theorem dX8_tryFirst_64 : decode cX8_tryFirst 64 = .ok (.iastore, 1) := dq_79 (dq_suf 0 dt07cX8_tryFirst_4 rfl rfl)
theorem dX8_tryFirst_65 : decode cX8_tryFirst 65 = .ok (.aload_n 0, 1) := dq_42 (dq_suf 1 dt07cX8_tryFirst_4 rfl rfl)
theorem dX8_tryFirst_66 : decode cX8_tryFirst 66 = .ok (.dup, 1) := dq_89 (dq_suf 2 dt07cX8_tryFirst_4 rfl rfl)
theorem dX8_tryFirst_67 : decode cX8_tryFirst 67 = .ok (.getfield 70, 3) := dq_180 (dq_suf 3 dt07cX8_tryFirst_4 rfl rfl) rfl
theorem dX8_tryFirst_70 : decode cX8_tryFirst 70 = .ok (.iconst 1, 1) := dq_4 (dq_suf 6 dt07cX8_tryFirst_4 rfl rfl)
theorem dX8_tryFirst_71 : decode cX8_tryFirst 71 = .ok (.iadd, 1) := dq_96 (dq_suf 7 dt07cX8_tryFirst_4 rfl rfl)
theorem dX8_tryFirst_72 : decode cX8_tryFirst 72 = .ok (.putfield 70, 3) := dq_181 (dq_suf 8 dt07cX8_tryFirst_4 rfl rfl) rfl
theorem dX8_tryFirst_75 : decode cX8_tryFirst 75 = .ok (.aload_n 0, 1) := dq_42 (dq_suf 11 dt07cX8_tryFirst_4 rfl rfl)
theorem dX8_tryFirst_76 : decode cX8_tryFirst 76 = .ok (.aload_n 0, 1) := dq_42 (dq_suf 12 dt07cX8_tryFirst_4 rfl rfl)
theorem dX8_tryFirst_77 : decode cX8_tryFirst 77 = .ok (.getfield 56, 3) := dq_180 (dq_suf 13 dt07cX8_tryFirst_4 rfl rfl) rfl
theorem dX8_tryFirst_80 : decode cX8_tryFirst 80 = .ok (.iload_n 1, 1) := dq_27 (dq_suf 0 dt07cX8_tryFirst_5 rfl rfl)
theorem dX8_tryFirst_81 : decode cX8_tryFirst 81 = .ok (.invokevirtual 125, 3) := dq_182 (dq_suf 1 dt07cX8_tryFirst_5 rfl rfl) rfl
theorem dX8_tryFirst_84 : decode cX8_tryFirst 84 = .ok (.invokevirtual 185, 3) := dq_182 (dq_suf 4 dt07cX8_tryFirst_5 rfl rfl) rfl
theorem dX8_tryFirst_87 : decode cX8_tryFirst 87 = .ok (.return_, 1) := dq_177 (dq_suf 7 dt07cX8_tryFirst_5 rfl rfl)
noncomputable def ds07cX8_trySecond_6 : List UInt8 := 0 :: 185 :: 177 :: []
noncomputable def ds07cX8_trySecond_5 : List UInt8 := 180 :: 0 :: 56 :: 42 :: 180 :: 0 :: 43 :: 42 :: 180 :: 0 :: 70 :: 46 :: 182 :: 0 :: 179 :: 182 :: ds07cX8_trySecond_6
noncomputable def ds07cX8_trySecond_4 : List UInt8 := 180 :: 0 :: 39 :: 42 :: 180 :: 0 :: 160 :: 9 :: 80 :: 42 :: 2 :: 181 :: 0 :: 128 :: 42 :: 42 :: ds07cX8_trySecond_5
noncomputable def ds07cX8_trySecond_3 : List UInt8 := 42 :: 180 :: 0 :: 160 :: 42 :: 180 :: 0 :: 60 :: 42 :: 180 :: 0 :: 70 :: 182 :: 0 :: 188 :: 42 :: ds07cX8_trySecond_4
noncomputable def ds07cX8_trySecond_2 : List UInt8 := 160 :: 42 :: 180 :: 0 :: 60 :: 42 :: 180 :: 0 :: 70 :: 182 :: 0 :: 188 :: 42 :: 180 :: 0 :: 23 :: ds07cX8_trySecond_3
noncomputable def ds07cX8_trySecond_1 : List UInt8 := 89 :: 180 :: 0 :: 70 :: 4 :: 100 :: 181 :: 0 :: 70 :: 42 :: 180 :: 0 :: 20 :: 42 :: 180 :: 0 :: ds07cX8_trySecond_2
noncomputable def ds07cX8_trySecond_0 : List UInt8 := 42 :: 180 :: 0 :: 70 :: 158 :: 0 :: 10 :: 42 :: 182 :: 0 :: 182 :: 154 :: 0 :: 4 :: 177 :: 42 :: ds07cX8_trySecond_1
theorem dt07cX8_trySecond_0 : cX8_trySecond.data.toList.drop 0 = ds07cX8_trySecond_0 := by decide +kernel
theorem dt07cX8_trySecond_1 : cX8_trySecond.data.toList.drop 16 = ds07cX8_trySecond_1 := dq_suf 16 dt07cX8_trySecond_0 rfl rfl
theorem dt07cX8_trySecond_2 : cX8_trySecond.data.toList.drop 32 = ds07cX8_trySecond_2 := dq_suf 16 dt07cX8_trySecond_1 rfl rfl
theorem dt07cX8_trySecond_3 : cX8_trySecond.data.toList.drop 48 = ds07cX8_trySecond_3 := dq_suf 16 dt07cX8_trySecond_2 rfl rfl
theorem dt07cX8_trySecond_4 : cX8_trySecond.data.toList.drop 64 = ds07cX8_trySecond_4 := dq_suf 16 dt07cX8_trySecond_3 rfl rfl
theorem dt07cX8_trySecond_5 : cX8_trySecond.data.toList.drop 80 = ds07cX8_trySecond_5 := dq_suf 16 dt07cX8_trySecond_4 rfl rfl
theorem dt07cX8_trySecond_6 : cX8_trySecond.data.toList.drop 96 = ds07cX8_trySecond_6 := dq_suf 16 dt07cX8_trySecond_5 rfl rfl
theorem dX8_trySecond_0 : decode cX8_trySecond 0 = .ok (.aload_n 0, 1) := dq_42 (dq_suf 0 dt07cX8_trySecond_0 rfl rfl)
theorem dX8_trySecond_1 : decode cX8_trySecond 1 = .ok (.getfield 70, 3) := dq_180 (dq_suf 1 dt07cX8_trySecond_0 rfl rfl) rfl
theorem dX8_trySecond_4 : decode cX8_trySecond 4 = .ok (.ifCond .le 10, 3) := dq_158 (dq_suf 4 dt07cX8_trySecond_0 rfl rfl) (by decide +kernel)
theorem dX8_trySecond_7 : decode cX8_trySecond 7 = .ok (.aload_n 0, 1) := dq_42 (dq_suf 7 dt07cX8_trySecond_0 rfl rfl)
theorem dX8_trySecond_8 : decode cX8_trySecond 8 = .ok (.invokevirtual 182, 3) := dq_182 (dq_suf 8 dt07cX8_trySecond_0 rfl rfl) rfl
theorem dX8_trySecond_11 : decode cX8_trySecond 11 = .ok (.ifCond .ne 4, 3) := dq_154 (dq_suf 11 dt07cX8_trySecond_0 rfl rfl) (by decide +kernel)
theorem dX8_trySecond_14 : decode cX8_trySecond 14 = .ok (.return_, 1) := dq_177 (dq_suf 14 dt07cX8_trySecond_0 rfl rfl)
theorem dX8_trySecond_15 : decode cX8_trySecond 15 = .ok (.aload_n 0, 1) := dq_42 (dq_suf 15 dt07cX8_trySecond_0 rfl rfl)
theorem dX8_trySecond_16 : decode cX8_trySecond 16 = .ok (.dup, 1) := dq_89 (dq_suf 0 dt07cX8_trySecond_1 rfl rfl)
theorem dX8_trySecond_17 : decode cX8_trySecond 17 = .ok (.getfield 70, 3) := dq_180 (dq_suf 1 dt07cX8_trySecond_1 rfl rfl) rfl
theorem dX8_trySecond_20 : decode cX8_trySecond 20 = .ok (.iconst 1, 1) := dq_4 (dq_suf 4 dt07cX8_trySecond_1 rfl rfl)
theorem dX8_trySecond_21 : decode cX8_trySecond 21 = .ok (.isub, 1) := dq_100 (dq_suf 5 dt07cX8_trySecond_1 rfl rfl)
theorem dX8_trySecond_22 : decode cX8_trySecond 22 = .ok (.putfield 70, 3) := dq_181 (dq_suf 6 dt07cX8_trySecond_1 rfl rfl) rfl
theorem dX8_trySecond_25 : decode cX8_trySecond 25 = .ok (.aload_n 0, 1) := dq_42 (dq_suf 9 dt07cX8_trySecond_1 rfl rfl)
theorem dX8_trySecond_26 : decode cX8_trySecond 26 = .ok (.getfield 20, 3) := dq_180 (dq_suf 10 dt07cX8_trySecond_1 rfl rfl) rfl
theorem dX8_trySecond_29 : decode cX8_trySecond 29 = .ok (.aload_n 0, 1) := dq_42 (dq_suf 13 dt07cX8_trySecond_1 rfl rfl)
theorem dX8_trySecond_30 : decode cX8_trySecond 30 = .ok (.getfield 160, 3) := dq_180 (dq_suf 14 dt07cX8_trySecond_1 rfl rfl) rfl
theorem dX8_trySecond_33 : decode cX8_trySecond 33 = .ok (.aload_n 0, 1) := dq_42 (dq_suf 1 dt07cX8_trySecond_2 rfl rfl)
theorem dX8_trySecond_34 : decode cX8_trySecond 34 = .ok (.getfield 60, 3) := dq_180 (dq_suf 2 dt07cX8_trySecond_2 rfl rfl) rfl
theorem dX8_trySecond_37 : decode cX8_trySecond 37 = .ok (.aload_n 0, 1) := dq_42 (dq_suf 5 dt07cX8_trySecond_2 rfl rfl)
theorem dX8_trySecond_38 : decode cX8_trySecond 38 = .ok (.getfield 70, 3) := dq_180 (dq_suf 6 dt07cX8_trySecond_2 rfl rfl) rfl
theorem dX8_trySecond_41 : decode cX8_trySecond 41 = .ok (.invokevirtual 188, 3) := dq_182 (dq_suf 9 dt07cX8_trySecond_2 rfl rfl) rfl
theorem dX8_trySecond_44 : decode cX8_trySecond 44 = .ok (.aload_n 0, 1) := dq_42 (dq_suf 12 dt07cX8_trySecond_2 rfl rfl)
theorem dX8_trySecond_45 : decode cX8_trySecond 45 = .ok (.getfield 23, 3) := dq_180 (dq_suf 13 dt07cX8_trySecond_2 rfl rfl) rfl
theorem dX8_trySecond_48 : decode cX8_trySecond 48 = .ok (.aload_n 0, 1) := dq_42 (dq_suf 0 dt07cX8_trySecond_3 rfl rfl)
theorem dX8_trySecond_49 : decode cX8_trySecond 49 = .ok (.getfield 160, 3) := dq_180 (dq_suf 1 dt07cX8_trySecond_3 rfl rfl) rfl
theorem dX8_trySecond_52 : decode cX8_trySecond 52 = .ok (.aload_n 0, 1) := dq_42 (dq_suf 4 dt07cX8_trySecond_3 rfl rfl)
theorem dX8_trySecond_53 : decode cX8_trySecond 53 = .ok (.getfield 60, 3) := dq_180 (dq_suf 5 dt07cX8_trySecond_3 rfl rfl) rfl
theorem dX8_trySecond_56 : decode cX8_trySecond 56 = .ok (.aload_n 0, 1) := dq_42 (dq_suf 8 dt07cX8_trySecond_3 rfl rfl)
theorem dX8_trySecond_57 : decode cX8_trySecond 57 = .ok (.getfield 70, 3) := dq_180 (dq_suf 9 dt07cX8_trySecond_3 rfl rfl) rfl
theorem dX8_trySecond_60 : decode cX8_trySecond 60 = .ok (.invokevirtual 188, 3) := dq_182 (dq_suf 12 dt07cX8_trySecond_3 rfl rfl) rfl
theorem dX8_trySecond_63 : decode cX8_trySecond 63 = .ok (.aload_n 0, 1) := dq_42 (dq_suf 15 dt07cX8_trySecond_3 rfl rfl)
theorem dX8_trySecond_64 : decode cX8_trySecond 64 = .ok (.getfield 39, 3) := dq_180 (dq_suf 0 dt07cX8_trySecond_4 rfl rfl) rfl
theorem dX8_trySecond_67 : decode cX8_trySecond 67 = .ok (.aload_n 0, 1) := dq_42 (dq_suf 3 dt07cX8_trySecond_4 rfl rfl)
theorem dX8_trySecond_68 : decode cX8_trySecond 68 = .ok (.getfield 160, 3) := dq_180 (dq_suf 4 dt07cX8_trySecond_4 rfl rfl) rfl
theorem dX8_trySecond_71 : decode cX8_trySecond 71 = .ok (.lconst 0, 1) := dq_9 (dq_suf 7 dt07cX8_trySecond_4 rfl rfl)
theorem dX8_trySecond_72 : decode cX8_trySecond 72 = .ok (.lastore, 1) := dq_80 (dq_suf 8 dt07cX8_trySecond_4 rfl rfl)
theorem dX8_trySecond_73 : decode cX8_trySecond 73 = .ok (.aload_n 0, 1) := dq_42 (dq_suf 9 dt07cX8_trySecond_4 rfl rfl)
theorem dX8_trySecond_74 : decode cX8_trySecond 74 = .ok (.iconst (-1), 1) := dq_2 (dq_suf 10 dt07cX8_trySecond_4 rfl rfl)
theorem dX8_trySecond_75 : decode cX8_trySecond 75 = .ok (.putfield 128, 3) := dq_181 (dq_suf 11 dt07cX8_trySecond_4 rfl rfl) rfl
theorem dX8_trySecond_78 : decode cX8_trySecond 78 = .ok (.aload_n 0, 1) := dq_42 (dq_suf 14 dt07cX8_trySecond_4 rfl rfl)
theorem dX8_trySecond_79 : decode cX8_trySecond 79 = .ok (.aload_n 0, 1) := dq_42 (dq_suf 15 dt07cX8_trySecond_4 rfl rfl)
theorem dX8_trySecond_80 : decode cX8_trySecond 80 = .ok (.getfield 56, 3) := dq_180 (dq_suf 0 dt07cX8_trySecond_5 rfl rfl) rfl
theorem dX8_trySecond_83 : decode cX8_trySecond 83 = .ok (.aload_n 0, 1) := dq_42 (dq_suf 3 dt07cX8_trySecond_5 rfl rfl)
theorem dX8_trySecond_84 : decode cX8_trySecond 84 = .ok (.getfield 43, 3) := dq_180 (dq_suf 4 dt07cX8_trySecond_5 rfl rfl) rfl
theorem dX8_trySecond_87 : decode cX8_trySecond 87 = .ok (.aload_n 0, 1) := dq_42 (dq_suf 7 dt07cX8_trySecond_5 rfl rfl)
theorem dX8_trySecond_88 : decode cX8_trySecond 88 = .ok (.getfield 70, 3) := dq_180 (dq_suf 8 dt07cX8_trySecond_5 rfl rfl) rfl
theorem dX8_trySecond_91 : decode cX8_trySecond 91 = .ok (.iaload, 1) := dq_46 (dq_suf 11 dt07cX8_trySecond_5 rfl rfl)
theorem dX8_trySecond_92 : decode cX8_trySecond 92 = .ok (.invokevirtual 179, 3) := dq_182 (dq_suf 12 dt07cX8_trySecond_5 rfl rfl) rfl
theorem dX8_trySecond_95 : decode cX8_trySecond 95 = .ok (.invokevirtual 185, 3) := dq_182 (dq_suf 15 dt07cX8_trySecond_5 rfl rfl) rfl
theorem dX8_trySecond_98 : decode cX8_trySecond 98 = .ok (.return_, 1) := dq_177 (dq_suf 2 dt07cX8_trySecond_6 rfl rfl)
noncomputable def ds07cX8_lookAtMay_8 : List UInt8 := 0 :: 86 :: 177 :: []
noncomputable def ds07cX8_lookAtMay_7 : List UInt8 := 42 :: 180 :: 0 :: 160 :: 42 :: 180 :: 0 :: 30 :: 42 :: 180 :: 0 :: 160 :: 46 :: 4 :: 96 :: 182 :: ds07cX8_lookAtMay_8
noncomputable def ds07cX8_lookAtMay_6 : List UInt8 := 181 :: 0 :: 67 :: 167 :: 0 :: 31 :: 42 :: 7 :: 27 :: 182 :: 0 :: 131 :: 153 :: 0 :: 22 :: 42 :: ds07cX8_lookAtMay_7
noncomputable def ds07cX8_lookAtMay_5 : List UInt8 := 182 :: 0 :: 198 :: 79 :: 42 :: 180 :: 0 :: 73 :: 16 :: 60 :: 161 :: 0 :: 12 :: 42 :: 16 :: 252 :: ds07cX8_lookAtMay_6
noncomputable def ds07cX8_lookAtMay_4 : List UInt8 := 121 :: 129 :: 80 :: 177 :: 42 :: 180 :: 0 :: 36 :: 42 :: 180 :: 0 :: 160 :: 42 :: 180 :: 0 :: 49 :: ds07cX8_lookAtMay_5
noncomputable def ds07cX8_lookAtMay_3 : List UInt8 := 46 :: 4 :: 96 :: 79 :: 42 :: 180 :: 0 :: 39 :: 42 :: 180 :: 0 :: 160 :: 92 :: 47 :: 10 :: 28 :: ds07cX8_lookAtMay_4
noncomputable def ds07cX8_lookAtMay_2 : List UInt8 := 42 :: 182 :: 0 :: 195 :: 61 :: 28 :: 2 :: 159 :: 0 :: 29 :: 42 :: 180 :: 0 :: 53 :: 5 :: 92 :: ds07cX8_lookAtMay_3
noncomputable def ds07cX8_lookAtMay_1 : List UInt8 := 27 :: 182 :: 0 :: 176 :: 42 :: 42 :: 180 :: 0 :: 56 :: 27 :: 182 :: 0 :: 125 :: 182 :: 0 :: 192 :: ds07cX8_lookAtMay_2
noncomputable def ds07cX8_lookAtMay_0 : List UInt8 := 42 :: 182 :: 0 :: 182 :: 154 :: 0 :: 4 :: 177 :: 42 :: 180 :: 0 :: 23 :: 42 :: 180 :: 0 :: 160 :: ds07cX8_lookAtMay_1
theorem dt07cX8_lookAtMay_0 : cX8_lookAtMay.data.toList.drop 0 = ds07cX8_lookAtMay_0 := by decide +kernel
theorem dt07cX8_lookAtMay_1 : cX8_lookAtMay.data.toList.drop 16 = ds07cX8_lookAtMay_1 := dq_suf 16 dt07cX8_lookAtMay_0 rfl rfl
theorem dt07cX8_lookAtMay_2 : cX8_lookAtMay.data.toList.drop 32 = ds07cX8_lookAtMay_2 := dq_suf 16 dt07cX8_lookAtMay_1 rfl rfl
theorem dt07cX8_lookAtMay_3 : cX8_lookAtMay.data.toList.drop 48 = ds07cX8_lookAtMay_3 := dq_suf 16 dt07cX8_lookAtMay_2 rfl rfl
theorem dt07cX8_lookAtMay_4 : cX8_lookAtMay.data.toList.drop 64 = ds07cX8_lookAtMay_4 := dq_suf 16 dt07cX8_lookAtMay_3 rfl rfl
theorem dt07cX8_lookAtMay_5 : cX8_lookAtMay.data.toList.drop 80 = ds07cX8_lookAtMay_5 := dq_suf 16 dt07cX8_lookAtMay_4 rfl rfl
theorem dt07cX8_lookAtMay_6 : cX8_lookAtMay.data.toList.drop 96 = ds07cX8_lookAtMay_6 := dq_suf 16 dt07cX8_lookAtMay_5 rfl rfl
theorem dt07cX8_lookAtMay_7 : cX8_lookAtMay.data.toList.drop 112 = ds07cX8_lookAtMay_7 := dq_suf 16 dt07cX8_lookAtMay_6 rfl rfl
theorem dt07cX8_lookAtMay_8 : cX8_lookAtMay.data.toList.drop 128 = ds07cX8_lookAtMay_8 := dq_suf 16 dt07cX8_lookAtMay_7 rfl rfl
theorem dX8_lookAtMay_0 : decode cX8_lookAtMay 0 = .ok (.aload_n 0, 1) := dq_42 (dq_suf 0 dt07cX8_lookAtMay_0 rfl rfl)
theorem dX8_lookAtMay_1 : decode cX8_lookAtMay 1 = .ok (.invokevirtual 182, 3) := dq_182 (dq_suf 1 dt07cX8_lookAtMay_0 rfl rfl) rfl
theorem dX8_lookAtMay_4 : decode cX8_lookAtMay 4 = .ok (.ifCond .ne 4, 3) := dq_154 (dq_suf 4 dt07cX8_lookAtMay_0 rfl rfl) (by decide +kernel)
theorem dX8_lookAtMay_7 : decode cX8_lookAtMay 7 = .ok (.return_, 1) := dq_177 (dq_suf 7 dt07cX8_lookAtMay_0 rfl rfl)
theorem dX8_lookAtMay_8 : decode cX8_lookAtMay 8 = .ok (.aload_n 0, 1) := dq_42 (dq_suf 8 dt07cX8_lookAtMay_0 rfl rfl)
theorem dX8_lookAtMay_9 : decode cX8_lookAtMay 9 = .ok (.getfield 23, 3) := dq_180 (dq_suf 9 dt07cX8_lookAtMay_0 rfl rfl) rfl
theorem dX8_lookAtMay_12 : decode cX8_lookAtMay 12 = .ok (.aload_n 0, 1) := dq_42 (dq_suf 12 dt07cX8_lookAtMay_0 rfl rfl)
theorem dX8_lookAtMay_13 : decode cX8_lookAtMay 13 = .ok (.getfield 160, 3) := dq_180 (dq_suf 13 dt07cX8_lookAtMay_0 rfl rfl) rfl
theorem dX8_lookAtMay_16 : decode cX8_lookAtMay 16 = .ok (.iload_n 1, 1) := dq_27 (dq_suf 0 dt07cX8_lookAtMay_1 rfl rfl)
theorem dX8_lookAtMay_17 : decode cX8_lookAtMay 17 = .ok (.invokevirtual 176, 3) := dq_182 (dq_suf 1 dt07cX8_lookAtMay_1 rfl rfl) rfl
theorem dX8_lookAtMay_20 : decode cX8_lookAtMay 20 = .ok (.aload_n 0, 1) := dq_42 (dq_suf 4 dt07cX8_lookAtMay_1 rfl rfl)
theorem dX8_lookAtMay_21 : decode cX8_lookAtMay 21 = .ok (.aload_n 0, 1) := dq_42 (dq_suf 5 dt07cX8_lookAtMay_1 rfl rfl)
theorem dX8_lookAtMay_22 : decode cX8_lookAtMay 22 = .ok (.getfield 56, 3) := dq_180 (dq_suf 6 dt07cX8_lookAtMay_1 rfl rfl) rfl
theorem dX8_lookAtMay_25 : decode cX8_lookAtMay 25 = .ok (.iload_n 1, 1) := dq_27 (dq_suf 9 dt07cX8_lookAtMay_1 rfl rfl)
theorem dX8_lookAtMay_26 : decode cX8_lookAtMay 26 = .ok (.invokevirtual 125, 3) := dq_182 (dq_suf 10 dt07cX8_lookAtMay_1 rfl rfl) rfl
theorem dX8_lookAtMay_29 : decode cX8_lookAtMay 29 = .ok (.invokevirtual 192, 3) := dq_182 (dq_suf 13 dt07cX8_lookAtMay_1 rfl rfl) rfl
theorem dX8_lookAtMay_32 : decode cX8_lookAtMay 32 = .ok (.aload_n 0, 1) := dq_42 (dq_suf 0 dt07cX8_lookAtMay_2 rfl rfl)
theorem dX8_lookAtMay_33 : decode cX8_lookAtMay 33 = .ok (.invokevirtual 195, 3) := dq_182 (dq_suf 1 dt07cX8_lookAtMay_2 rfl rfl) rfl
theorem dX8_lookAtMay_36 : decode cX8_lookAtMay 36 = .ok (.istore_n 2, 1) := dq_61 (dq_suf 4 dt07cX8_lookAtMay_2 rfl rfl)
theorem dX8_lookAtMay_37 : decode cX8_lookAtMay 37 = .ok (.iload_n 2, 1) := dq_28 (dq_suf 5 dt07cX8_lookAtMay_2 rfl rfl)
theorem dX8_lookAtMay_38 : decode cX8_lookAtMay 38 = .ok (.iconst (-1), 1) := dq_2 (dq_suf 6 dt07cX8_lookAtMay_2 rfl rfl)
theorem dX8_lookAtMay_39 : decode cX8_lookAtMay 39 = .ok (.if_icmp .eq 29, 3) := dq_159 (dq_suf 7 dt07cX8_lookAtMay_2 rfl rfl) (by decide +kernel)
theorem dX8_lookAtMay_42 : decode cX8_lookAtMay 42 = .ok (.aload_n 0, 1) := dq_42 (dq_suf 10 dt07cX8_lookAtMay_2 rfl rfl)
theorem dX8_lookAtMay_43 : decode cX8_lookAtMay 43 = .ok (.getfield 53, 3) := dq_180 (dq_suf 11 dt07cX8_lookAtMay_2 rfl rfl) rfl
theorem dX8_lookAtMay_46 : decode cX8_lookAtMay 46 = .ok (.iconst 2, 1) := dq_5 (dq_suf 14 dt07cX8_lookAtMay_2 rfl rfl)
theorem dX8_lookAtMay_47 : decode cX8_lookAtMay 47 = .ok (.dup2, 1) := dq_92 (dq_suf 15 dt07cX8_lookAtMay_2 rfl rfl)
theorem dX8_lookAtMay_48 : decode cX8_lookAtMay 48 = .ok (.iaload, 1) := dq_46 (dq_suf 0 dt07cX8_lookAtMay_3 rfl rfl)
theorem dX8_lookAtMay_49 : decode cX8_lookAtMay 49 = .ok (.iconst 1, 1) := dq_4 (dq_suf 1 dt07cX8_lookAtMay_3 rfl rfl)
theorem dX8_lookAtMay_50 : decode cX8_lookAtMay 50 = .ok (.iadd, 1) := dq_96 (dq_suf 2 dt07cX8_lookAtMay_3 rfl rfl)
theorem dX8_lookAtMay_51 : decode cX8_lookAtMay 51 = .ok (.iastore, 1) := dq_79 (dq_suf 3 dt07cX8_lookAtMay_3 rfl rfl)
theorem dX8_lookAtMay_52 : decode cX8_lookAtMay 52 = .ok (.aload_n 0, 1) := dq_42 (dq_suf 4 dt07cX8_lookAtMay_3 rfl rfl)
theorem dX8_lookAtMay_53 : decode cX8_lookAtMay 53 = .ok (.getfield 39, 3) := dq_180 (dq_suf 5 dt07cX8_lookAtMay_3 rfl rfl) rfl
theorem dX8_lookAtMay_56 : decode cX8_lookAtMay 56 = .ok (.aload_n 0, 1) := dq_42 (dq_suf 8 dt07cX8_lookAtMay_3 rfl rfl)
theorem dX8_lookAtMay_57 : decode cX8_lookAtMay 57 = .ok (.getfield 160, 3) := dq_180 (dq_suf 9 dt07cX8_lookAtMay_3 rfl rfl) rfl
theorem dX8_lookAtMay_60 : decode cX8_lookAtMay 60 = .ok (.dup2, 1) := dq_92 (dq_suf 12 dt07cX8_lookAtMay_3 rfl rfl)
theorem dX8_lookAtMay_61 : decode cX8_lookAtMay 61 = .ok (.laload, 1) := dq_47 (dq_suf 13 dt07cX8_lookAtMay_3 rfl rfl)
theorem dX8_lookAtMay_62 : decode cX8_lookAtMay 62 = .ok (.lconst 1, 1) := dq_10 (dq_suf 14 dt07cX8_lookAtMay_3 rfl rfl)
theorem dX8_lookAtMay_63 : decode cX8_lookAtMay 63 = .ok (.iload_n 2, 1) := dq_28 (dq_suf 15 dt07cX8_lookAtMay_3 rfl rfl)
theorem dX8_lookAtMay_64 : decode cX8_lookAtMay 64 = .ok (.lshl, 1) := dq_121 (dq_suf 0 dt07cX8_lookAtMay_4 rfl rfl)
theorem dX8_lookAtMay_65 : decode cX8_lookAtMay 65 = .ok (.lor, 1) := dq_129 (dq_suf 1 dt07cX8_lookAtMay_4 rfl rfl)
theorem dX8_lookAtMay_66 : decode cX8_lookAtMay 66 = .ok (.lastore, 1) := dq_80 (dq_suf 2 dt07cX8_lookAtMay_4 rfl rfl)
theorem dX8_lookAtMay_67 : decode cX8_lookAtMay 67 = .ok (.return_, 1) := dq_177 (dq_suf 3 dt07cX8_lookAtMay_4 rfl rfl)
theorem dX8_lookAtMay_68 : decode cX8_lookAtMay 68 = .ok (.aload_n 0, 1) := dq_42 (dq_suf 4 dt07cX8_lookAtMay_4 rfl rfl)
theorem dX8_lookAtMay_69 : decode cX8_lookAtMay 69 = .ok (.getfield 36, 3) := dq_180 (dq_suf 5 dt07cX8_lookAtMay_4 rfl rfl) rfl
theorem dX8_lookAtMay_72 : decode cX8_lookAtMay 72 = .ok (.aload_n 0, 1) := dq_42 (dq_suf 8 dt07cX8_lookAtMay_4 rfl rfl)
theorem dX8_lookAtMay_73 : decode cX8_lookAtMay 73 = .ok (.getfield 160, 3) := dq_180 (dq_suf 9 dt07cX8_lookAtMay_4 rfl rfl) rfl
theorem dX8_lookAtMay_76 : decode cX8_lookAtMay 76 = .ok (.aload_n 0, 1) := dq_42 (dq_suf 12 dt07cX8_lookAtMay_4 rfl rfl)
theorem dX8_lookAtMay_77 : decode cX8_lookAtMay 77 = .ok (.getfield 49, 3) := dq_180 (dq_suf 13 dt07cX8_lookAtMay_4 rfl rfl) rfl
theorem dX8_lookAtMay_80 : decode cX8_lookAtMay 80 = .ok (.invokevirtual 198, 3) := dq_182 (dq_suf 0 dt07cX8_lookAtMay_5 rfl rfl) rfl
theorem dX8_lookAtMay_83 : decode cX8_lookAtMay 83 = .ok (.iastore, 1) := dq_79 (dq_suf 3 dt07cX8_lookAtMay_5 rfl rfl)
theorem dX8_lookAtMay_84 : decode cX8_lookAtMay 84 = .ok (.aload_n 0, 1) := dq_42 (dq_suf 4 dt07cX8_lookAtMay_5 rfl rfl)
theorem dX8_lookAtMay_85 : decode cX8_lookAtMay 85 = .ok (.getfield 73, 3) := dq_180 (dq_suf 5 dt07cX8_lookAtMay_5 rfl rfl) rfl
theorem dX8_lookAtMay_88 : decode cX8_lookAtMay 88 = .ok (.bipush 60, 2) := dq_16 (dq_suf 8 dt07cX8_lookAtMay_5 rfl rfl) (by decide +kernel)
theorem dX8_lookAtMay_90 : decode cX8_lookAtMay 90 = .ok (.if_icmp .lt 12, 3) := dq_161 (dq_suf 10 dt07cX8_lookAtMay_5 rfl rfl) (by decide +kernel)
theorem dX8_lookAtMay_93 : decode cX8_lookAtMay 93 = .ok (.aload_n 0, 1) := dq_42 (dq_suf 13 dt07cX8_lookAtMay_5 rfl rfl)
theorem dX8_lookAtMay_94 : decode cX8_lookAtMay 94 = .ok (.bipush (-4), 2) := dq_16 (dq_suf 14 dt07cX8_lookAtMay_5 rfl rfl) (by decide +kernel)
theorem dX8_lookAtMay_96 : decode cX8_lookAtMay 96 = .ok (.putfield 67, 3) := dq_181 (dq_suf 0 dt07cX8_lookAtMay_6 rfl rfl) rfl
theorem dX8_lookAtMay_99 : decode cX8_lookAtMay 99 = .ok (.goto 31, 3) := dq_167 (dq_suf 3 dt07cX8_lookAtMay_6 rfl rfl) (by decide +kernel)
theorem dX8_lookAtMay_102 : decode cX8_lookAtMay 102 = .ok (.aload_n 0, 1) := dq_42 (dq_suf 6 dt07cX8_lookAtMay_6 rfl rfl)
theorem dX8_lookAtMay_103 : decode cX8_lookAtMay 103 = .ok (.iconst 4, 1) := dq_7 (dq_suf 7 dt07cX8_lookAtMay_6 rfl rfl)
theorem dX8_lookAtMay_104 : decode cX8_lookAtMay 104 = .ok (.iload_n 1, 1) := dq_27 (dq_suf 8 dt07cX8_lookAtMay_6 rfl rfl)
theorem dX8_lookAtMay_105 : decode cX8_lookAtMay 105 = .ok (.invokevirtual 131, 3) := dq_182 (dq_suf 9 dt07cX8_lookAtMay_6 rfl rfl) rfl
theorem dX8_lookAtMay_108 : decode cX8_lookAtMay 108 = .ok (.ifCond .eq 22, 3) := dq_153 (dq_suf 12 dt07cX8_lookAtMay_6 rfl rfl) (by decide +kernel)
theorem dX8_lookAtMay_111 : decode cX8_lookAtMay 111 = .ok (.aload_n 0, 1) := dq_42 (dq_suf 15 dt07cX8_lookAtMay_6 rfl rfl)
theorem dX8_lookAtMay_112 : decode cX8_lookAtMay 112 = .ok (.aload_n 0, 1) := dq_42 (dq_suf 0 dt07cX8_lookAtMay_7 rfl rfl)
theorem dX8_lookAtMay_113 : decode cX8_lookAtMay 113 = .ok (.getfield 160, 3) := dq_180 (dq_suf 1 dt07cX8_lookAtMay_7 rfl rfl) rfl
theorem dX8_lookAtMay_116 : decode cX8_lookAtMay 116 = .ok (.aload_n 0, 1) := dq_42 (dq_suf 4 dt07cX8_lookAtMay_7 rfl rfl)
theorem dX8_lookAtMay_117 : decode cX8_lookAtMay 117 = .ok (.getfield 30, 3) := dq_180 (dq_suf 5 dt07cX8_lookAtMay_7 rfl rfl) rfl
theorem dX8_lookAtMay_120 : decode cX8_lookAtMay 120 = .ok (.aload_n 0, 1) := dq_42 (dq_suf 8 dt07cX8_lookAtMay_7 rfl rfl)
theorem dX8_lookAtMay_121 : decode cX8_lookAtMay 121 = .ok (.getfield 160, 3) := dq_180 (dq_suf 9 dt07cX8_lookAtMay_7 rfl rfl) rfl
theorem dX8_lookAtMay_124 : decode cX8_lookAtMay 124 = .ok (.iaload, 1) := dq_46 (dq_suf 12 dt07cX8_lookAtMay_7 rfl rfl)
theorem dX8_lookAtMay_125 : decode cX8_lookAtMay 125 = .ok (.iconst 1, 1) := dq_4 (dq_suf 13 dt07cX8_lookAtMay_7 rfl rfl)
theorem dX8_lookAtMay_126 : decode cX8_lookAtMay 126 = .ok (.iadd, 1) := dq_96 (dq_suf 14 dt07cX8_lookAtMay_7 rfl rfl)
theorem dX8_lookAtMay_127 : decode cX8_lookAtMay 127 = .ok (.invokevirtual 86, 3) := dq_182 (dq_suf 15 dt07cX8_lookAtMay_7 rfl rfl) rfl
theorem dX8_lookAtMay_130 : decode cX8_lookAtMay 130 = .ok (.return_, 1) := dq_177 (dq_suf 2 dt07cX8_lookAtMay_8 rfl rfl)
noncomputable def ds07cX8_drawStart_3 : List UInt8 := 182 :: 0 :: 82 :: 177 :: []
noncomputable def ds07cX8_drawStart_2 : List UInt8 := 0 :: 156 :: 16 :: 6 :: 182 :: 0 :: 199 :: 42 :: 180 :: 0 :: 14 :: 42 :: 180 :: 0 :: 73 :: 27 :: ds07cX8_drawStart_3
noncomputable def ds07cX8_drawStart_1 : List UInt8 := 182 :: 0 :: 188 :: 42 :: 180 :: 0 :: 14 :: 42 :: 180 :: 0 :: 73 :: 42 :: 180 :: 0 :: 56 :: 182 :: ds07cX8_drawStart_2
noncomputable def ds07cX8_drawStart_0 : List UInt8 := 42 :: 180 :: 0 :: 14 :: 42 :: 180 :: 0 :: 73 :: 42 :: 180 :: 0 :: 20 :: 42 :: 180 :: 0 :: 160 :: ds07cX8_drawStart_1
theorem dt07cX8_drawStart_0 : cX8_drawStart.data.toList.drop 0 = ds07cX8_drawStart_0 := by decide +kernel
theorem dt07cX8_drawStart_1 : cX8_drawStart.data.toList.drop 16 = ds07cX8_drawStart_1 := dq_suf 16 dt07cX8_drawStart_0 rfl rfl
theorem dt07cX8_drawStart_2 : cX8_drawStart.data.toList.drop 32 = ds07cX8_drawStart_2 := dq_suf 16 dt07cX8_drawStart_1 rfl rfl
theorem dt07cX8_drawStart_3 : cX8_drawStart.data.toList.drop 48 = ds07cX8_drawStart_3 := dq_suf 16 dt07cX8_drawStart_2 rfl rfl
theorem dX8_drawStart_0 : decode cX8_drawStart 0 = .ok (.aload_n 0, 1) := dq_42 (dq_suf 0 dt07cX8_drawStart_0 rfl rfl)
theorem dX8_drawStart_1 : decode cX8_drawStart 1 = .ok (.getfield 14, 3) := dq_180 (dq_suf 1 dt07cX8_drawStart_0 rfl rfl) rfl
theorem dX8_drawStart_4 : decode cX8_drawStart 4 = .ok (.aload_n 0, 1) := dq_42 (dq_suf 4 dt07cX8_drawStart_0 rfl rfl)
theorem dX8_drawStart_5 : decode cX8_drawStart 5 = .ok (.getfield 73, 3) := dq_180 (dq_suf 5 dt07cX8_drawStart_0 rfl rfl) rfl
theorem dX8_drawStart_8 : decode cX8_drawStart 8 = .ok (.aload_n 0, 1) := dq_42 (dq_suf 8 dt07cX8_drawStart_0 rfl rfl)
theorem dX8_drawStart_9 : decode cX8_drawStart 9 = .ok (.getfield 20, 3) := dq_180 (dq_suf 9 dt07cX8_drawStart_0 rfl rfl) rfl
theorem dX8_drawStart_12 : decode cX8_drawStart 12 = .ok (.aload_n 0, 1) := dq_42 (dq_suf 12 dt07cX8_drawStart_0 rfl rfl)
theorem dX8_drawStart_13 : decode cX8_drawStart 13 = .ok (.getfield 160, 3) := dq_180 (dq_suf 13 dt07cX8_drawStart_0 rfl rfl) rfl
theorem dX8_drawStart_16 : decode cX8_drawStart 16 = .ok (.invokevirtual 188, 3) := dq_182 (dq_suf 0 dt07cX8_drawStart_1 rfl rfl) rfl
theorem dX8_drawStart_19 : decode cX8_drawStart 19 = .ok (.aload_n 0, 1) := dq_42 (dq_suf 3 dt07cX8_drawStart_1 rfl rfl)
theorem dX8_drawStart_20 : decode cX8_drawStart 20 = .ok (.getfield 14, 3) := dq_180 (dq_suf 4 dt07cX8_drawStart_1 rfl rfl) rfl
theorem dX8_drawStart_23 : decode cX8_drawStart 23 = .ok (.aload_n 0, 1) := dq_42 (dq_suf 7 dt07cX8_drawStart_1 rfl rfl)
theorem dX8_drawStart_24 : decode cX8_drawStart 24 = .ok (.getfield 73, 3) := dq_180 (dq_suf 8 dt07cX8_drawStart_1 rfl rfl) rfl
theorem dX8_drawStart_27 : decode cX8_drawStart 27 = .ok (.aload_n 0, 1) := dq_42 (dq_suf 11 dt07cX8_drawStart_1 rfl rfl)
theorem dX8_drawStart_28 : decode cX8_drawStart 28 = .ok (.getfield 56, 3) := dq_180 (dq_suf 12 dt07cX8_drawStart_1 rfl rfl) rfl
theorem dX8_drawStart_31 : decode cX8_drawStart 31 = .ok (.invokevirtual 156, 3) := dq_182 (dq_suf 15 dt07cX8_drawStart_1 rfl rfl) rfl
theorem dX8_drawStart_34 : decode cX8_drawStart 34 = .ok (.bipush 6, 2) := dq_16 (dq_suf 2 dt07cX8_drawStart_2 rfl rfl) (by decide +kernel)
theorem dX8_drawStart_36 : decode cX8_drawStart 36 = .ok (.invokevirtual 199, 3) := dq_182 (dq_suf 4 dt07cX8_drawStart_2 rfl rfl) rfl
theorem dX8_drawStart_39 : decode cX8_drawStart 39 = .ok (.aload_n 0, 1) := dq_42 (dq_suf 7 dt07cX8_drawStart_2 rfl rfl)
theorem dX8_drawStart_40 : decode cX8_drawStart 40 = .ok (.getfield 14, 3) := dq_180 (dq_suf 8 dt07cX8_drawStart_2 rfl rfl) rfl
theorem dX8_drawStart_43 : decode cX8_drawStart 43 = .ok (.aload_n 0, 1) := dq_42 (dq_suf 11 dt07cX8_drawStart_2 rfl rfl)
theorem dX8_drawStart_44 : decode cX8_drawStart 44 = .ok (.getfield 73, 3) := dq_180 (dq_suf 12 dt07cX8_drawStart_2 rfl rfl) rfl
theorem dX8_drawStart_47 : decode cX8_drawStart 47 = .ok (.iload_n 1, 1) := dq_27 (dq_suf 15 dt07cX8_drawStart_2 rfl rfl)
theorem dX8_drawStart_48 : decode cX8_drawStart 48 = .ok (.invokevirtual 82, 3) := dq_182 (dq_suf 0 dt07cX8_drawStart_3 rfl rfl) rfl
theorem dX8_drawStart_51 : decode cX8_drawStart 51 = .ok (.return_, 1) := dq_177 (dq_suf 3 dt07cX8_drawStart_3 rfl rfl)
noncomputable def ds07cX8_worldOfStart_3 : List UInt8 := 172 :: []
noncomputable def ds07cX8_worldOfStart_2 : List UInt8 := 27 :: 172 :: 42 :: 180 :: 0 :: 26 :: 27 :: 46 :: 60 :: 132 :: 2 :: 1 :: 167 :: 255 :: 219 :: 2 :: ds07cX8_worldOfStart_3
noncomputable def ds07cX8_worldOfStart_1 : List UInt8 := 33 :: 42 :: 180 :: 0 :: 14 :: 27 :: 42 :: 180 :: 0 :: 73 :: 182 :: 0 :: 202 :: 153 :: 0 :: 5 :: ds07cX8_worldOfStart_2
noncomputable def ds07cX8_worldOfStart_0 : List UInt8 := 42 :: 180 :: 0 :: 160 :: 60 :: 3 :: 61 :: 28 :: 16 :: 60 :: 162 :: 0 :: 37 :: 27 :: 155 :: 0 :: ds07cX8_worldOfStart_1
theorem dt07cX8_worldOfStart_0 : cX8_worldOfStart.data.toList.drop 0 = ds07cX8_worldOfStart_0 := by decide +kernel
theorem dt07cX8_worldOfStart_1 : cX8_worldOfStart.data.toList.drop 16 = ds07cX8_worldOfStart_1 := dq_suf 16 dt07cX8_worldOfStart_0 rfl rfl
theorem dt07cX8_worldOfStart_2 : cX8_worldOfStart.data.toList.drop 32 = ds07cX8_worldOfStart_2 := dq_suf 16 dt07cX8_worldOfStart_1 rfl rfl
theorem dt07cX8_worldOfStart_3 : cX8_worldOfStart.data.toList.drop 48 = ds07cX8_worldOfStart_3 := dq_suf 16 dt07cX8_worldOfStart_2 rfl rfl
theorem dX8_worldOfStart_0 : decode cX8_worldOfStart 0 = .ok (.aload_n 0, 1) := dq_42 (dq_suf 0 dt07cX8_worldOfStart_0 rfl rfl)
theorem dX8_worldOfStart_1 : decode cX8_worldOfStart 1 = .ok (.getfield 160, 3) := dq_180 (dq_suf 1 dt07cX8_worldOfStart_0 rfl rfl) rfl
theorem dX8_worldOfStart_4 : decode cX8_worldOfStart 4 = .ok (.istore_n 1, 1) := dq_60 (dq_suf 4 dt07cX8_worldOfStart_0 rfl rfl)
theorem dX8_worldOfStart_5 : decode cX8_worldOfStart 5 = .ok (.iconst 0, 1) := dq_3 (dq_suf 5 dt07cX8_worldOfStart_0 rfl rfl)
theorem dX8_worldOfStart_6 : decode cX8_worldOfStart 6 = .ok (.istore_n 2, 1) := dq_61 (dq_suf 6 dt07cX8_worldOfStart_0 rfl rfl)
theorem dX8_worldOfStart_7 : decode cX8_worldOfStart 7 = .ok (.iload_n 2, 1) := dq_28 (dq_suf 7 dt07cX8_worldOfStart_0 rfl rfl)
theorem dX8_worldOfStart_8 : decode cX8_worldOfStart 8 = .ok (.bipush 60, 2) := dq_16 (dq_suf 8 dt07cX8_worldOfStart_0 rfl rfl) (by decide +kernel)
theorem dX8_worldOfStart_10 : decode cX8_worldOfStart 10 = .ok (.if_icmp .ge 37, 3) := dq_162 (dq_suf 10 dt07cX8_worldOfStart_0 rfl rfl) (by decide +kernel)
theorem dX8_worldOfStart_13 : decode cX8_worldOfStart 13 = .ok (.iload_n 1, 1) := dq_27 (dq_suf 13 dt07cX8_worldOfStart_0 rfl rfl)
theorem dX8_worldOfStart_14 : decode cX8_worldOfStart 14 = .ok (.ifCond .lt 33, 3) := dq_155 (dq_suf 14 dt07cX8_worldOfStart_0 rfl rfl) (by decide +kernel)
theorem dX8_worldOfStart_17 : decode cX8_worldOfStart 17 = .ok (.aload_n 0, 1) := dq_42 (dq_suf 1 dt07cX8_worldOfStart_1 rfl rfl)
theorem dX8_worldOfStart_18 : decode cX8_worldOfStart 18 = .ok (.getfield 14, 3) := dq_180 (dq_suf 2 dt07cX8_worldOfStart_1 rfl rfl) rfl
theorem dX8_worldOfStart_21 : decode cX8_worldOfStart 21 = .ok (.iload_n 1, 1) := dq_27 (dq_suf 5 dt07cX8_worldOfStart_1 rfl rfl)
theorem dX8_worldOfStart_22 : decode cX8_worldOfStart 22 = .ok (.aload_n 0, 1) := dq_42 (dq_suf 6 dt07cX8_worldOfStart_1 rfl rfl)
theorem dX8_worldOfStart_23 : decode cX8_worldOfStart 23 = .ok (.getfield 73, 3) := dq_180 (dq_suf 7 dt07cX8_worldOfStart_1 rfl rfl) rfl
theorem dX8_worldOfStart_26 : decode cX8_worldOfStart 26 = .ok (.invokevirtual 202, 3) := dq_182 (dq_suf 10 dt07cX8_worldOfStart_1 rfl rfl) rfl
theorem dX8_worldOfStart_29 : decode cX8_worldOfStart 29 = .ok (.ifCond .eq 5, 3) := dq_153 (dq_suf 13 dt07cX8_worldOfStart_1 rfl rfl) (by decide +kernel)
theorem dX8_worldOfStart_32 : decode cX8_worldOfStart 32 = .ok (.iload_n 1, 1) := dq_27 (dq_suf 0 dt07cX8_worldOfStart_2 rfl rfl)
theorem dX8_worldOfStart_33 : decode cX8_worldOfStart 33 = .ok (.ireturn, 1) := dq_172 (dq_suf 1 dt07cX8_worldOfStart_2 rfl rfl)
theorem dX8_worldOfStart_34 : decode cX8_worldOfStart 34 = .ok (.aload_n 0, 1) := dq_42 (dq_suf 2 dt07cX8_worldOfStart_2 rfl rfl)
theorem dX8_worldOfStart_35 : decode cX8_worldOfStart 35 = .ok (.getfield 26, 3) := dq_180 (dq_suf 3 dt07cX8_worldOfStart_2 rfl rfl) rfl
theorem dX8_worldOfStart_38 : decode cX8_worldOfStart 38 = .ok (.iload_n 1, 1) := dq_27 (dq_suf 6 dt07cX8_worldOfStart_2 rfl rfl)
theorem dX8_worldOfStart_39 : decode cX8_worldOfStart 39 = .ok (.iaload, 1) := dq_46 (dq_suf 7 dt07cX8_worldOfStart_2 rfl rfl)
theorem dX8_worldOfStart_40 : decode cX8_worldOfStart 40 = .ok (.istore_n 1, 1) := dq_60 (dq_suf 8 dt07cX8_worldOfStart_2 rfl rfl)
theorem dX8_worldOfStart_41 : decode cX8_worldOfStart 41 = .ok (.iinc 2 1, 3) := dq_132 (dq_suf 9 dt07cX8_worldOfStart_2 rfl rfl) rfl (by decide +kernel)
theorem dX8_worldOfStart_44 : decode cX8_worldOfStart 44 = .ok (.goto (-37), 3) := dq_167 (dq_suf 12 dt07cX8_worldOfStart_2 rfl rfl) (by decide +kernel)
theorem dX8_worldOfStart_47 : decode cX8_worldOfStart 47 = .ok (.iconst (-1), 1) := dq_2 (dq_suf 15 dt07cX8_worldOfStart_2 rfl rfl)
theorem dX8_worldOfStart_48 : decode cX8_worldOfStart 48 = .ok (.ireturn, 1) := dq_172 (dq_suf 0 dt07cX8_worldOfStart_3 rfl rfl)
noncomputable def ds07cX8_beginWorld_9 : List UInt8 := 4 :: 2 :: 181 :: 0 :: 128 :: 177 :: []
noncomputable def ds07cX8_beginWorld_8 : List UInt8 := 0 :: 20 :: 42 :: 180 :: 0 :: 160 :: 4 :: 182 :: 0 :: 121 :: 153 :: 0 :: 7 :: 4 :: 167 :: 0 :: ds07cX8_beginWorld_9
noncomputable def ds07cX8_beginWorld_7 : List UInt8 := 0 :: 70 :: 79 :: 42 :: 180 :: 0 :: 39 :: 42 :: 180 :: 0 :: 160 :: 9 :: 80 :: 42 :: 42 :: 180 :: ds07cX8_beginWorld_8
noncomputable def ds07cX8_beginWorld_6 : List UInt8 := 42 :: 180 :: 0 :: 160 :: 28 :: 79 :: 42 :: 180 :: 0 :: 33 :: 42 :: 180 :: 0 :: 160 :: 42 :: 180 :: ds07cX8_beginWorld_7
noncomputable def ds07cX8_beginWorld_5 : List UInt8 := 0 :: 188 :: 42 :: 180 :: 0 :: 26 :: 42 :: 180 :: 0 :: 160 :: 27 :: 79 :: 42 :: 180 :: 0 :: 30 :: ds07cX8_beginWorld_6
noncomputable def ds07cX8_beginWorld_4 : List UInt8 := 180 :: 0 :: 23 :: 42 :: 180 :: 0 :: 160 :: 42 :: 180 :: 0 :: 14 :: 42 :: 180 :: 0 :: 160 :: 182 :: ds07cX8_beginWorld_5
noncomputable def ds07cX8_beginWorld_3 : List UInt8 := 42 :: 180 :: 0 :: 160 :: 42 :: 180 :: 0 :: 14 :: 42 :: 180 :: 0 :: 160 :: 182 :: 0 :: 188 :: 42 :: ds07cX8_beginWorld_4
noncomputable def ds07cX8_beginWorld_2 : List UInt8 := 6 :: 42 :: 180 :: 0 :: 53 :: 6 :: 46 :: 28 :: 184 :: 0 :: 205 :: 79 :: 42 :: 180 :: 0 :: 20 :: ds07cX8_beginWorld_3
noncomputable def ds07cX8_beginWorld_1 : List UInt8 := 0 :: 73 :: 42 :: 180 :: 0 :: 53 :: 4 :: 92 :: 46 :: 4 :: 96 :: 79 :: 42 :: 180 :: 0 :: 53 :: ds07cX8_beginWorld_2
noncomputable def ds07cX8_beginWorld_0 : List UInt8 := 42 :: 42 :: 180 :: 0 :: 73 :: 181 :: 0 :: 160 :: 42 :: 89 :: 180 :: 0 :: 73 :: 4 :: 96 :: 181 :: ds07cX8_beginWorld_1
theorem dt07cX8_beginWorld_0 : cX8_beginWorld.data.toList.drop 0 = ds07cX8_beginWorld_0 := by decide +kernel
theorem dt07cX8_beginWorld_1 : cX8_beginWorld.data.toList.drop 16 = ds07cX8_beginWorld_1 := dq_suf 16 dt07cX8_beginWorld_0 rfl rfl
theorem dt07cX8_beginWorld_2 : cX8_beginWorld.data.toList.drop 32 = ds07cX8_beginWorld_2 := dq_suf 16 dt07cX8_beginWorld_1 rfl rfl
theorem dt07cX8_beginWorld_3 : cX8_beginWorld.data.toList.drop 48 = ds07cX8_beginWorld_3 := dq_suf 16 dt07cX8_beginWorld_2 rfl rfl
theorem dt07cX8_beginWorld_4 : cX8_beginWorld.data.toList.drop 64 = ds07cX8_beginWorld_4 := dq_suf 16 dt07cX8_beginWorld_3 rfl rfl
theorem dt07cX8_beginWorld_5 : cX8_beginWorld.data.toList.drop 80 = ds07cX8_beginWorld_5 := dq_suf 16 dt07cX8_beginWorld_4 rfl rfl
theorem dt07cX8_beginWorld_6 : cX8_beginWorld.data.toList.drop 96 = ds07cX8_beginWorld_6 := dq_suf 16 dt07cX8_beginWorld_5 rfl rfl
theorem dt07cX8_beginWorld_7 : cX8_beginWorld.data.toList.drop 112 = ds07cX8_beginWorld_7 := dq_suf 16 dt07cX8_beginWorld_6 rfl rfl
theorem dt07cX8_beginWorld_8 : cX8_beginWorld.data.toList.drop 128 = ds07cX8_beginWorld_8 := dq_suf 16 dt07cX8_beginWorld_7 rfl rfl
theorem dt07cX8_beginWorld_9 : cX8_beginWorld.data.toList.drop 144 = ds07cX8_beginWorld_9 := dq_suf 16 dt07cX8_beginWorld_8 rfl rfl
theorem dX8_beginWorld_0 : decode cX8_beginWorld 0 = .ok (.aload_n 0, 1) := dq_42 (dq_suf 0 dt07cX8_beginWorld_0 rfl rfl)
theorem dX8_beginWorld_1 : decode cX8_beginWorld 1 = .ok (.aload_n 0, 1) := dq_42 (dq_suf 1 dt07cX8_beginWorld_0 rfl rfl)
theorem dX8_beginWorld_2 : decode cX8_beginWorld 2 = .ok (.getfield 73, 3) := dq_180 (dq_suf 2 dt07cX8_beginWorld_0 rfl rfl) rfl
theorem dX8_beginWorld_5 : decode cX8_beginWorld 5 = .ok (.putfield 160, 3) := dq_181 (dq_suf 5 dt07cX8_beginWorld_0 rfl rfl) rfl
theorem dX8_beginWorld_8 : decode cX8_beginWorld 8 = .ok (.aload_n 0, 1) := dq_42 (dq_suf 8 dt07cX8_beginWorld_0 rfl rfl)
theorem dX8_beginWorld_9 : decode cX8_beginWorld 9 = .ok (.dup, 1) := dq_89 (dq_suf 9 dt07cX8_beginWorld_0 rfl rfl)
theorem dX8_beginWorld_10 : decode cX8_beginWorld 10 = .ok (.getfield 73, 3) := dq_180 (dq_suf 10 dt07cX8_beginWorld_0 rfl rfl) rfl
theorem dX8_beginWorld_13 : decode cX8_beginWorld 13 = .ok (.iconst 1, 1) := dq_4 (dq_suf 13 dt07cX8_beginWorld_0 rfl rfl)
theorem dX8_beginWorld_14 : decode cX8_beginWorld 14 = .ok (.iadd, 1) := dq_96 (dq_suf 14 dt07cX8_beginWorld_0 rfl rfl)
theorem dX8_beginWorld_15 : decode cX8_beginWorld 15 = .ok (.putfield 73, 3) := dq_181 (dq_suf 15 dt07cX8_beginWorld_0 rfl rfl) rfl
theorem dX8_beginWorld_18 : decode cX8_beginWorld 18 = .ok (.aload_n 0, 1) := dq_42 (dq_suf 2 dt07cX8_beginWorld_1 rfl rfl)
theorem dX8_beginWorld_19 : decode cX8_beginWorld 19 = .ok (.getfield 53, 3) := dq_180 (dq_suf 3 dt07cX8_beginWorld_1 rfl rfl) rfl
theorem dX8_beginWorld_22 : decode cX8_beginWorld 22 = .ok (.iconst 1, 1) := dq_4 (dq_suf 6 dt07cX8_beginWorld_1 rfl rfl)
theorem dX8_beginWorld_23 : decode cX8_beginWorld 23 = .ok (.dup2, 1) := dq_92 (dq_suf 7 dt07cX8_beginWorld_1 rfl rfl)
theorem dX8_beginWorld_24 : decode cX8_beginWorld 24 = .ok (.iaload, 1) := dq_46 (dq_suf 8 dt07cX8_beginWorld_1 rfl rfl)
theorem dX8_beginWorld_25 : decode cX8_beginWorld 25 = .ok (.iconst 1, 1) := dq_4 (dq_suf 9 dt07cX8_beginWorld_1 rfl rfl)
theorem dX8_beginWorld_26 : decode cX8_beginWorld 26 = .ok (.iadd, 1) := dq_96 (dq_suf 10 dt07cX8_beginWorld_1 rfl rfl)
theorem dX8_beginWorld_27 : decode cX8_beginWorld 27 = .ok (.iastore, 1) := dq_79 (dq_suf 11 dt07cX8_beginWorld_1 rfl rfl)
theorem dX8_beginWorld_28 : decode cX8_beginWorld 28 = .ok (.aload_n 0, 1) := dq_42 (dq_suf 12 dt07cX8_beginWorld_1 rfl rfl)
theorem dX8_beginWorld_29 : decode cX8_beginWorld 29 = .ok (.getfield 53, 3) := dq_180 (dq_suf 13 dt07cX8_beginWorld_1 rfl rfl) rfl
theorem dX8_beginWorld_32 : decode cX8_beginWorld 32 = .ok (.iconst 3, 1) := dq_6 (dq_suf 0 dt07cX8_beginWorld_2 rfl rfl)
theorem dX8_beginWorld_33 : decode cX8_beginWorld 33 = .ok (.aload_n 0, 1) := dq_42 (dq_suf 1 dt07cX8_beginWorld_2 rfl rfl)
theorem dX8_beginWorld_34 : decode cX8_beginWorld 34 = .ok (.getfield 53, 3) := dq_180 (dq_suf 2 dt07cX8_beginWorld_2 rfl rfl) rfl
theorem dX8_beginWorld_37 : decode cX8_beginWorld 37 = .ok (.iconst 3, 1) := dq_6 (dq_suf 5 dt07cX8_beginWorld_2 rfl rfl)
theorem dX8_beginWorld_38 : decode cX8_beginWorld 38 = .ok (.iaload, 1) := dq_46 (dq_suf 6 dt07cX8_beginWorld_2 rfl rfl)
theorem dX8_beginWorld_39 : decode cX8_beginWorld 39 = .ok (.iload_n 2, 1) := dq_28 (dq_suf 7 dt07cX8_beginWorld_2 rfl rfl)
theorem dX8_beginWorld_40 : decode cX8_beginWorld 40 = .ok (.invokestatic 205, 3) := dq_184 (dq_suf 8 dt07cX8_beginWorld_2 rfl rfl) rfl
theorem dX8_beginWorld_43 : decode cX8_beginWorld 43 = .ok (.iastore, 1) := dq_79 (dq_suf 11 dt07cX8_beginWorld_2 rfl rfl)
theorem dX8_beginWorld_44 : decode cX8_beginWorld 44 = .ok (.aload_n 0, 1) := dq_42 (dq_suf 12 dt07cX8_beginWorld_2 rfl rfl)
theorem dX8_beginWorld_45 : decode cX8_beginWorld 45 = .ok (.getfield 20, 3) := dq_180 (dq_suf 13 dt07cX8_beginWorld_2 rfl rfl) rfl
theorem dX8_beginWorld_48 : decode cX8_beginWorld 48 = .ok (.aload_n 0, 1) := dq_42 (dq_suf 0 dt07cX8_beginWorld_3 rfl rfl)
theorem dX8_beginWorld_49 : decode cX8_beginWorld 49 = .ok (.getfield 160, 3) := dq_180 (dq_suf 1 dt07cX8_beginWorld_3 rfl rfl) rfl
theorem dX8_beginWorld_52 : decode cX8_beginWorld 52 = .ok (.aload_n 0, 1) := dq_42 (dq_suf 4 dt07cX8_beginWorld_3 rfl rfl)
theorem dX8_beginWorld_53 : decode cX8_beginWorld 53 = .ok (.getfield 14, 3) := dq_180 (dq_suf 5 dt07cX8_beginWorld_3 rfl rfl) rfl
theorem dX8_beginWorld_56 : decode cX8_beginWorld 56 = .ok (.aload_n 0, 1) := dq_42 (dq_suf 8 dt07cX8_beginWorld_3 rfl rfl)
theorem dX8_beginWorld_57 : decode cX8_beginWorld 57 = .ok (.getfield 160, 3) := dq_180 (dq_suf 9 dt07cX8_beginWorld_3 rfl rfl) rfl
theorem dX8_beginWorld_60 : decode cX8_beginWorld 60 = .ok (.invokevirtual 188, 3) := dq_182 (dq_suf 12 dt07cX8_beginWorld_3 rfl rfl) rfl
theorem dX8_beginWorld_63 : decode cX8_beginWorld 63 = .ok (.aload_n 0, 1) := dq_42 (dq_suf 15 dt07cX8_beginWorld_3 rfl rfl)
theorem dX8_beginWorld_64 : decode cX8_beginWorld 64 = .ok (.getfield 23, 3) := dq_180 (dq_suf 0 dt07cX8_beginWorld_4 rfl rfl) rfl
theorem dX8_beginWorld_67 : decode cX8_beginWorld 67 = .ok (.aload_n 0, 1) := dq_42 (dq_suf 3 dt07cX8_beginWorld_4 rfl rfl)
theorem dX8_beginWorld_68 : decode cX8_beginWorld 68 = .ok (.getfield 160, 3) := dq_180 (dq_suf 4 dt07cX8_beginWorld_4 rfl rfl) rfl
theorem dX8_beginWorld_71 : decode cX8_beginWorld 71 = .ok (.aload_n 0, 1) := dq_42 (dq_suf 7 dt07cX8_beginWorld_4 rfl rfl)
theorem dX8_beginWorld_72 : decode cX8_beginWorld 72 = .ok (.getfield 14, 3) := dq_180 (dq_suf 8 dt07cX8_beginWorld_4 rfl rfl) rfl
theorem dX8_beginWorld_75 : decode cX8_beginWorld 75 = .ok (.aload_n 0, 1) := dq_42 (dq_suf 11 dt07cX8_beginWorld_4 rfl rfl)
theorem dX8_beginWorld_76 : decode cX8_beginWorld 76 = .ok (.getfield 160, 3) := dq_180 (dq_suf 12 dt07cX8_beginWorld_4 rfl rfl) rfl
theorem dX8_beginWorld_79 : decode cX8_beginWorld 79 = .ok (.invokevirtual 188, 3) := dq_182 (dq_suf 15 dt07cX8_beginWorld_4 rfl rfl) rfl
theorem dX8_beginWorld_82 : decode cX8_beginWorld 82 = .ok (.aload_n 0, 1) := dq_42 (dq_suf 2 dt07cX8_beginWorld_5 rfl rfl)
theorem dX8_beginWorld_83 : decode cX8_beginWorld 83 = .ok (.getfield 26, 3) := dq_180 (dq_suf 3 dt07cX8_beginWorld_5 rfl rfl) rfl
theorem dX8_beginWorld_86 : decode cX8_beginWorld 86 = .ok (.aload_n 0, 1) := dq_42 (dq_suf 6 dt07cX8_beginWorld_5 rfl rfl)
theorem dX8_beginWorld_87 : decode cX8_beginWorld 87 = .ok (.getfield 160, 3) := dq_180 (dq_suf 7 dt07cX8_beginWorld_5 rfl rfl) rfl
theorem dX8_beginWorld_90 : decode cX8_beginWorld 90 = .ok (.iload_n 1, 1) := dq_27 (dq_suf 10 dt07cX8_beginWorld_5 rfl rfl)
theorem dX8_beginWorld_91 : decode cX8_beginWorld 91 = .ok (.iastore, 1) := dq_79 (dq_suf 11 dt07cX8_beginWorld_5 rfl rfl)
theorem dX8_beginWorld_92 : decode cX8_beginWorld 92 = .ok (.aload_n 0, 1) := dq_42 (dq_suf 12 dt07cX8_beginWorld_5 rfl rfl)
theorem dX8_beginWorld_93 : decode cX8_beginWorld 93 = .ok (.getfield 30, 3) := dq_180 (dq_suf 13 dt07cX8_beginWorld_5 rfl rfl) rfl
theorem dX8_beginWorld_96 : decode cX8_beginWorld 96 = .ok (.aload_n 0, 1) := dq_42 (dq_suf 0 dt07cX8_beginWorld_6 rfl rfl)
theorem dX8_beginWorld_97 : decode cX8_beginWorld 97 = .ok (.getfield 160, 3) := dq_180 (dq_suf 1 dt07cX8_beginWorld_6 rfl rfl) rfl
theorem dX8_beginWorld_100 : decode cX8_beginWorld 100 = .ok (.iload_n 2, 1) := dq_28 (dq_suf 4 dt07cX8_beginWorld_6 rfl rfl)
theorem dX8_beginWorld_101 : decode cX8_beginWorld 101 = .ok (.iastore, 1) := dq_79 (dq_suf 5 dt07cX8_beginWorld_6 rfl rfl)
theorem dX8_beginWorld_102 : decode cX8_beginWorld 102 = .ok (.aload_n 0, 1) := dq_42 (dq_suf 6 dt07cX8_beginWorld_6 rfl rfl)
theorem dX8_beginWorld_103 : decode cX8_beginWorld 103 = .ok (.getfield 33, 3) := dq_180 (dq_suf 7 dt07cX8_beginWorld_6 rfl rfl) rfl
theorem dX8_beginWorld_106 : decode cX8_beginWorld 106 = .ok (.aload_n 0, 1) := dq_42 (dq_suf 10 dt07cX8_beginWorld_6 rfl rfl)
theorem dX8_beginWorld_107 : decode cX8_beginWorld 107 = .ok (.getfield 160, 3) := dq_180 (dq_suf 11 dt07cX8_beginWorld_6 rfl rfl) rfl
theorem dX8_beginWorld_110 : decode cX8_beginWorld 110 = .ok (.aload_n 0, 1) := dq_42 (dq_suf 14 dt07cX8_beginWorld_6 rfl rfl)
theorem dX8_beginWorld_111 : decode cX8_beginWorld 111 = .ok (.getfield 70, 3) := dq_180 (dq_suf 15 dt07cX8_beginWorld_6 rfl rfl) rfl
theorem dX8_beginWorld_114 : decode cX8_beginWorld 114 = .ok (.iastore, 1) := dq_79 (dq_suf 2 dt07cX8_beginWorld_7 rfl rfl)
theorem dX8_beginWorld_115 : decode cX8_beginWorld 115 = .ok (.aload_n 0, 1) := dq_42 (dq_suf 3 dt07cX8_beginWorld_7 rfl rfl)
theorem dX8_beginWorld_116 : decode cX8_beginWorld 116 = .ok (.getfield 39, 3) := dq_180 (dq_suf 4 dt07cX8_beginWorld_7 rfl rfl) rfl
theorem dX8_beginWorld_119 : decode cX8_beginWorld 119 = .ok (.aload_n 0, 1) := dq_42 (dq_suf 7 dt07cX8_beginWorld_7 rfl rfl)
theorem dX8_beginWorld_120 : decode cX8_beginWorld 120 = .ok (.getfield 160, 3) := dq_180 (dq_suf 8 dt07cX8_beginWorld_7 rfl rfl) rfl
theorem dX8_beginWorld_123 : decode cX8_beginWorld 123 = .ok (.lconst 0, 1) := dq_9 (dq_suf 11 dt07cX8_beginWorld_7 rfl rfl)
theorem dX8_beginWorld_124 : decode cX8_beginWorld 124 = .ok (.lastore, 1) := dq_80 (dq_suf 12 dt07cX8_beginWorld_7 rfl rfl)
theorem dX8_beginWorld_125 : decode cX8_beginWorld 125 = .ok (.aload_n 0, 1) := dq_42 (dq_suf 13 dt07cX8_beginWorld_7 rfl rfl)
theorem dX8_beginWorld_126 : decode cX8_beginWorld 126 = .ok (.aload_n 0, 1) := dq_42 (dq_suf 14 dt07cX8_beginWorld_7 rfl rfl)
theorem dX8_beginWorld_127 : decode cX8_beginWorld 127 = .ok (.getfield 20, 3) := dq_180 (dq_suf 15 dt07cX8_beginWorld_7 rfl rfl) rfl
theorem dX8_beginWorld_130 : decode cX8_beginWorld 130 = .ok (.aload_n 0, 1) := dq_42 (dq_suf 2 dt07cX8_beginWorld_8 rfl rfl)
theorem dX8_beginWorld_131 : decode cX8_beginWorld 131 = .ok (.getfield 160, 3) := dq_180 (dq_suf 3 dt07cX8_beginWorld_8 rfl rfl) rfl
theorem dX8_beginWorld_134 : decode cX8_beginWorld 134 = .ok (.iconst 1, 1) := dq_4 (dq_suf 6 dt07cX8_beginWorld_8 rfl rfl)
theorem dX8_beginWorld_135 : decode cX8_beginWorld 135 = .ok (.invokevirtual 121, 3) := dq_182 (dq_suf 7 dt07cX8_beginWorld_8 rfl rfl) rfl
theorem dX8_beginWorld_138 : decode cX8_beginWorld 138 = .ok (.ifCond .eq 7, 3) := dq_153 (dq_suf 10 dt07cX8_beginWorld_8 rfl rfl) (by decide +kernel)
theorem dX8_beginWorld_141 : decode cX8_beginWorld 141 = .ok (.iconst 1, 1) := dq_4 (dq_suf 13 dt07cX8_beginWorld_8 rfl rfl)
theorem dX8_beginWorld_142 : decode cX8_beginWorld 142 = .ok (.goto 4, 3) := dq_167 (dq_suf 14 dt07cX8_beginWorld_8 rfl rfl) (by decide +kernel)
theorem dX8_beginWorld_145 : decode cX8_beginWorld 145 = .ok (.iconst (-1), 1) := dq_2 (dq_suf 1 dt07cX8_beginWorld_9 rfl rfl)
theorem dX8_beginWorld_146 : decode cX8_beginWorld 146 = .ok (.putfield 128, 3) := dq_181 (dq_suf 2 dt07cX8_beginWorld_9 rfl rfl) rfl
theorem dX8_beginWorld_149 : decode cX8_beginWorld 149 = .ok (.return_, 1) := dq_177 (dq_suf 5 dt07cX8_beginWorld_9 rfl rfl)
noncomputable def ds07cX8_goBack_4 : List UInt8 := 42 :: 180 :: 0 :: 160 :: 4 :: 96 :: 181 :: 0 :: 73 :: 4 :: 172 :: []
noncomputable def ds07cX8_goBack_3 : List UInt8 := 26 :: 42 :: 180 :: 0 :: 160 :: 46 :: 181 :: 0 :: 160 :: 132 :: 1 :: 1 :: 167 :: 255 :: 198 :: 42 :: ds07cX8_goBack_4
noncomputable def ds07cX8_goBack_2 : List UInt8 := 46 :: 2 :: 160 :: 0 :: 10 :: 42 :: 4 :: 181 :: 0 :: 67 :: 3 :: 172 :: 42 :: 42 :: 180 :: 0 :: ds07cX8_goBack_3
noncomputable def ds07cX8_goBack_1 : List UInt8 := 42 :: 180 :: 0 :: 160 :: 46 :: 160 :: 0 :: 42 :: 42 :: 180 :: 0 :: 26 :: 42 :: 180 :: 0 :: 160 :: ds07cX8_goBack_2
noncomputable def ds07cX8_goBack_0 : List UInt8 := 3 :: 60 :: 27 :: 16 :: 60 :: 162 :: 0 :: 58 :: 42 :: 180 :: 0 :: 70 :: 42 :: 180 :: 0 :: 33 :: ds07cX8_goBack_1
theorem dt07cX8_goBack_0 : cX8_goBack.data.toList.drop 0 = ds07cX8_goBack_0 := by decide +kernel
theorem dt07cX8_goBack_1 : cX8_goBack.data.toList.drop 16 = ds07cX8_goBack_1 := dq_suf 16 dt07cX8_goBack_0 rfl rfl
theorem dt07cX8_goBack_2 : cX8_goBack.data.toList.drop 32 = ds07cX8_goBack_2 := dq_suf 16 dt07cX8_goBack_1 rfl rfl
theorem dt07cX8_goBack_3 : cX8_goBack.data.toList.drop 48 = ds07cX8_goBack_3 := dq_suf 16 dt07cX8_goBack_2 rfl rfl
theorem dt07cX8_goBack_4 : cX8_goBack.data.toList.drop 64 = ds07cX8_goBack_4 := dq_suf 16 dt07cX8_goBack_3 rfl rfl
theorem dX8_goBack_0 : decode cX8_goBack 0 = .ok (.iconst 0, 1) := dq_3 (dq_suf 0 dt07cX8_goBack_0 rfl rfl)
theorem dX8_goBack_1 : decode cX8_goBack 1 = .ok (.istore_n 1, 1) := dq_60 (dq_suf 1 dt07cX8_goBack_0 rfl rfl)
theorem dX8_goBack_2 : decode cX8_goBack 2 = .ok (.iload_n 1, 1) := dq_27 (dq_suf 2 dt07cX8_goBack_0 rfl rfl)
theorem dX8_goBack_3 : decode cX8_goBack 3 = .ok (.bipush 60, 2) := dq_16 (dq_suf 3 dt07cX8_goBack_0 rfl rfl) (by decide +kernel)
theorem dX8_goBack_5 : decode cX8_goBack 5 = .ok (.if_icmp .ge 58, 3) := dq_162 (dq_suf 5 dt07cX8_goBack_0 rfl rfl) (by decide +kernel)
theorem dX8_goBack_8 : decode cX8_goBack 8 = .ok (.aload_n 0, 1) := dq_42 (dq_suf 8 dt07cX8_goBack_0 rfl rfl)
theorem dX8_goBack_9 : decode cX8_goBack 9 = .ok (.getfield 70, 3) := dq_180 (dq_suf 9 dt07cX8_goBack_0 rfl rfl) rfl
theorem dX8_goBack_12 : decode cX8_goBack 12 = .ok (.aload_n 0, 1) := dq_42 (dq_suf 12 dt07cX8_goBack_0 rfl rfl)
theorem dX8_goBack_13 : decode cX8_goBack 13 = .ok (.getfield 33, 3) := dq_180 (dq_suf 13 dt07cX8_goBack_0 rfl rfl) rfl
theorem dX8_goBack_16 : decode cX8_goBack 16 = .ok (.aload_n 0, 1) := dq_42 (dq_suf 0 dt07cX8_goBack_1 rfl rfl)
theorem dX8_goBack_17 : decode cX8_goBack 17 = .ok (.getfield 160, 3) := dq_180 (dq_suf 1 dt07cX8_goBack_1 rfl rfl) rfl
theorem dX8_goBack_20 : decode cX8_goBack 20 = .ok (.iaload, 1) := dq_46 (dq_suf 4 dt07cX8_goBack_1 rfl rfl)
theorem dX8_goBack_21 : decode cX8_goBack 21 = .ok (.if_icmp .ne 42, 3) := dq_160 (dq_suf 5 dt07cX8_goBack_1 rfl rfl) (by decide +kernel)
theorem dX8_goBack_24 : decode cX8_goBack 24 = .ok (.aload_n 0, 1) := dq_42 (dq_suf 8 dt07cX8_goBack_1 rfl rfl)
theorem dX8_goBack_25 : decode cX8_goBack 25 = .ok (.getfield 26, 3) := dq_180 (dq_suf 9 dt07cX8_goBack_1 rfl rfl) rfl
theorem dX8_goBack_28 : decode cX8_goBack 28 = .ok (.aload_n 0, 1) := dq_42 (dq_suf 12 dt07cX8_goBack_1 rfl rfl)
theorem dX8_goBack_29 : decode cX8_goBack 29 = .ok (.getfield 160, 3) := dq_180 (dq_suf 13 dt07cX8_goBack_1 rfl rfl) rfl
theorem dX8_goBack_32 : decode cX8_goBack 32 = .ok (.iaload, 1) := dq_46 (dq_suf 0 dt07cX8_goBack_2 rfl rfl)
theorem dX8_goBack_33 : decode cX8_goBack 33 = .ok (.iconst (-1), 1) := dq_2 (dq_suf 1 dt07cX8_goBack_2 rfl rfl)
theorem dX8_goBack_34 : decode cX8_goBack 34 = .ok (.if_icmp .ne 10, 3) := dq_160 (dq_suf 2 dt07cX8_goBack_2 rfl rfl) (by decide +kernel)
theorem dX8_goBack_37 : decode cX8_goBack 37 = .ok (.aload_n 0, 1) := dq_42 (dq_suf 5 dt07cX8_goBack_2 rfl rfl)
theorem dX8_goBack_38 : decode cX8_goBack 38 = .ok (.iconst 1, 1) := dq_4 (dq_suf 6 dt07cX8_goBack_2 rfl rfl)
theorem dX8_goBack_39 : decode cX8_goBack 39 = .ok (.putfield 67, 3) := dq_181 (dq_suf 7 dt07cX8_goBack_2 rfl rfl) rfl
theorem dX8_goBack_42 : decode cX8_goBack 42 = .ok (.iconst 0, 1) := dq_3 (dq_suf 10 dt07cX8_goBack_2 rfl rfl)
theorem dX8_goBack_43 : decode cX8_goBack 43 = .ok (.ireturn, 1) := dq_172 (dq_suf 11 dt07cX8_goBack_2 rfl rfl)
theorem dX8_goBack_44 : decode cX8_goBack 44 = .ok (.aload_n 0, 1) := dq_42 (dq_suf 12 dt07cX8_goBack_2 rfl rfl)
theorem dX8_goBack_45 : decode cX8_goBack 45 = .ok (.aload_n 0, 1) := dq_42 (dq_suf 13 dt07cX8_goBack_2 rfl rfl)
theorem dX8_goBack_46 : decode cX8_goBack 46 = .ok (.getfield 26, 3) := dq_180 (dq_suf 14 dt07cX8_goBack_2 rfl rfl) rfl
theorem dX8_goBack_49 : decode cX8_goBack 49 = .ok (.aload_n 0, 1) := dq_42 (dq_suf 1 dt07cX8_goBack_3 rfl rfl)
theorem dX8_goBack_50 : decode cX8_goBack 50 = .ok (.getfield 160, 3) := dq_180 (dq_suf 2 dt07cX8_goBack_3 rfl rfl) rfl
theorem dX8_goBack_53 : decode cX8_goBack 53 = .ok (.iaload, 1) := dq_46 (dq_suf 5 dt07cX8_goBack_3 rfl rfl)
theorem dX8_goBack_54 : decode cX8_goBack 54 = .ok (.putfield 160, 3) := dq_181 (dq_suf 6 dt07cX8_goBack_3 rfl rfl) rfl
theorem dX8_goBack_57 : decode cX8_goBack 57 = .ok (.iinc 1 1, 3) := dq_132 (dq_suf 9 dt07cX8_goBack_3 rfl rfl) rfl (by decide +kernel)
theorem dX8_goBack_60 : decode cX8_goBack 60 = .ok (.goto (-58), 3) := dq_167 (dq_suf 12 dt07cX8_goBack_3 rfl rfl) (by decide +kernel)
theorem dX8_goBack_63 : decode cX8_goBack 63 = .ok (.aload_n 0, 1) := dq_42 (dq_suf 15 dt07cX8_goBack_3 rfl rfl)
theorem dX8_goBack_64 : decode cX8_goBack 64 = .ok (.aload_n 0, 1) := dq_42 (dq_suf 0 dt07cX8_goBack_4 rfl rfl)
theorem dX8_goBack_65 : decode cX8_goBack 65 = .ok (.getfield 160, 3) := dq_180 (dq_suf 1 dt07cX8_goBack_4 rfl rfl) rfl
theorem dX8_goBack_68 : decode cX8_goBack 68 = .ok (.iconst 1, 1) := dq_4 (dq_suf 4 dt07cX8_goBack_4 rfl rfl)
theorem dX8_goBack_69 : decode cX8_goBack 69 = .ok (.iadd, 1) := dq_96 (dq_suf 5 dt07cX8_goBack_4 rfl rfl)
theorem dX8_goBack_70 : decode cX8_goBack 70 = .ok (.putfield 73, 3) := dq_181 (dq_suf 6 dt07cX8_goBack_4 rfl rfl) rfl
theorem dX8_goBack_73 : decode cX8_goBack 73 = .ok (.iconst 1, 1) := dq_4 (dq_suf 9 dt07cX8_goBack_4 rfl rfl)
theorem dX8_goBack_74 : decode cX8_goBack 74 = .ok (.ireturn, 1) := dq_172 (dq_suf 10 dt07cX8_goBack_4 rfl rfl)
noncomputable def ds07cX8_openWorld_4 : List UInt8 := 181 :: 0 :: 160 :: 177 :: []
noncomputable def ds07cX8_openWorld_3 : List UInt8 := 180 :: 0 :: 39 :: 27 :: 92 :: 47 :: 10 :: 42 :: 180 :: 0 :: 160 :: 121 :: 129 :: 80 :: 42 :: 27 :: ds07cX8_openWorld_4
noncomputable def ds07cX8_openWorld_2 : List UInt8 := 67 :: 177 :: 42 :: 180 :: 0 :: 49 :: 42 :: 180 :: 0 :: 36 :: 27 :: 46 :: 182 :: 0 :: 76 :: 42 :: ds07cX8_openWorld_3
noncomputable def ds07cX8_openWorld_1 : List UInt8 := 26 :: 42 :: 180 :: 0 :: 160 :: 46 :: 60 :: 27 :: 2 :: 160 :: 0 :: 9 :: 42 :: 3 :: 181 :: 0 :: ds07cX8_openWorld_2
noncomputable def ds07cX8_openWorld_0 : List UInt8 := 42 :: 42 :: 180 :: 0 :: 33 :: 42 :: 180 :: 0 :: 160 :: 46 :: 181 :: 0 :: 70 :: 42 :: 180 :: 0 :: ds07cX8_openWorld_1
theorem dt07cX8_openWorld_0 : cX8_openWorld.data.toList.drop 0 = ds07cX8_openWorld_0 := by decide +kernel
theorem dt07cX8_openWorld_1 : cX8_openWorld.data.toList.drop 16 = ds07cX8_openWorld_1 := dq_suf 16 dt07cX8_openWorld_0 rfl rfl
theorem dt07cX8_openWorld_2 : cX8_openWorld.data.toList.drop 32 = ds07cX8_openWorld_2 := dq_suf 16 dt07cX8_openWorld_1 rfl rfl
theorem dt07cX8_openWorld_3 : cX8_openWorld.data.toList.drop 48 = ds07cX8_openWorld_3 := dq_suf 16 dt07cX8_openWorld_2 rfl rfl
theorem dt07cX8_openWorld_4 : cX8_openWorld.data.toList.drop 64 = ds07cX8_openWorld_4 := dq_suf 16 dt07cX8_openWorld_3 rfl rfl
theorem dX8_openWorld_0 : decode cX8_openWorld 0 = .ok (.aload_n 0, 1) := dq_42 (dq_suf 0 dt07cX8_openWorld_0 rfl rfl)
theorem dX8_openWorld_1 : decode cX8_openWorld 1 = .ok (.aload_n 0, 1) := dq_42 (dq_suf 1 dt07cX8_openWorld_0 rfl rfl)
theorem dX8_openWorld_2 : decode cX8_openWorld 2 = .ok (.getfield 33, 3) := dq_180 (dq_suf 2 dt07cX8_openWorld_0 rfl rfl) rfl
theorem dX8_openWorld_5 : decode cX8_openWorld 5 = .ok (.aload_n 0, 1) := dq_42 (dq_suf 5 dt07cX8_openWorld_0 rfl rfl)
theorem dX8_openWorld_6 : decode cX8_openWorld 6 = .ok (.getfield 160, 3) := dq_180 (dq_suf 6 dt07cX8_openWorld_0 rfl rfl) rfl
theorem dX8_openWorld_9 : decode cX8_openWorld 9 = .ok (.iaload, 1) := dq_46 (dq_suf 9 dt07cX8_openWorld_0 rfl rfl)
theorem dX8_openWorld_10 : decode cX8_openWorld 10 = .ok (.putfield 70, 3) := dq_181 (dq_suf 10 dt07cX8_openWorld_0 rfl rfl) rfl
theorem dX8_openWorld_13 : decode cX8_openWorld 13 = .ok (.aload_n 0, 1) := dq_42 (dq_suf 13 dt07cX8_openWorld_0 rfl rfl)
theorem dX8_openWorld_14 : decode cX8_openWorld 14 = .ok (.getfield 26, 3) := dq_180 (dq_suf 14 dt07cX8_openWorld_0 rfl rfl) rfl
theorem dX8_openWorld_17 : decode cX8_openWorld 17 = .ok (.aload_n 0, 1) := dq_42 (dq_suf 1 dt07cX8_openWorld_1 rfl rfl)
theorem dX8_openWorld_18 : decode cX8_openWorld 18 = .ok (.getfield 160, 3) := dq_180 (dq_suf 2 dt07cX8_openWorld_1 rfl rfl) rfl
theorem dX8_openWorld_21 : decode cX8_openWorld 21 = .ok (.iaload, 1) := dq_46 (dq_suf 5 dt07cX8_openWorld_1 rfl rfl)
theorem dX8_openWorld_22 : decode cX8_openWorld 22 = .ok (.istore_n 1, 1) := dq_60 (dq_suf 6 dt07cX8_openWorld_1 rfl rfl)
theorem dX8_openWorld_23 : decode cX8_openWorld 23 = .ok (.iload_n 1, 1) := dq_27 (dq_suf 7 dt07cX8_openWorld_1 rfl rfl)
theorem dX8_openWorld_24 : decode cX8_openWorld 24 = .ok (.iconst (-1), 1) := dq_2 (dq_suf 8 dt07cX8_openWorld_1 rfl rfl)
theorem dX8_openWorld_25 : decode cX8_openWorld 25 = .ok (.if_icmp .ne 9, 3) := dq_160 (dq_suf 9 dt07cX8_openWorld_1 rfl rfl) (by decide +kernel)
theorem dX8_openWorld_28 : decode cX8_openWorld 28 = .ok (.aload_n 0, 1) := dq_42 (dq_suf 12 dt07cX8_openWorld_1 rfl rfl)
theorem dX8_openWorld_29 : decode cX8_openWorld 29 = .ok (.iconst 0, 1) := dq_3 (dq_suf 13 dt07cX8_openWorld_1 rfl rfl)
theorem dX8_openWorld_30 : decode cX8_openWorld 30 = .ok (.putfield 67, 3) := dq_181 (dq_suf 14 dt07cX8_openWorld_1 rfl rfl) rfl
theorem dX8_openWorld_33 : decode cX8_openWorld 33 = .ok (.return_, 1) := dq_177 (dq_suf 1 dt07cX8_openWorld_2 rfl rfl)
theorem dX8_openWorld_34 : decode cX8_openWorld 34 = .ok (.aload_n 0, 1) := dq_42 (dq_suf 2 dt07cX8_openWorld_2 rfl rfl)
theorem dX8_openWorld_35 : decode cX8_openWorld 35 = .ok (.getfield 49, 3) := dq_180 (dq_suf 3 dt07cX8_openWorld_2 rfl rfl) rfl
theorem dX8_openWorld_38 : decode cX8_openWorld 38 = .ok (.aload_n 0, 1) := dq_42 (dq_suf 6 dt07cX8_openWorld_2 rfl rfl)
theorem dX8_openWorld_39 : decode cX8_openWorld 39 = .ok (.getfield 36, 3) := dq_180 (dq_suf 7 dt07cX8_openWorld_2 rfl rfl) rfl
theorem dX8_openWorld_42 : decode cX8_openWorld 42 = .ok (.iload_n 1, 1) := dq_27 (dq_suf 10 dt07cX8_openWorld_2 rfl rfl)
theorem dX8_openWorld_43 : decode cX8_openWorld 43 = .ok (.iaload, 1) := dq_46 (dq_suf 11 dt07cX8_openWorld_2 rfl rfl)
theorem dX8_openWorld_44 : decode cX8_openWorld 44 = .ok (.invokevirtual 76, 3) := dq_182 (dq_suf 12 dt07cX8_openWorld_2 rfl rfl) rfl
theorem dX8_openWorld_47 : decode cX8_openWorld 47 = .ok (.aload_n 0, 1) := dq_42 (dq_suf 15 dt07cX8_openWorld_2 rfl rfl)
theorem dX8_openWorld_48 : decode cX8_openWorld 48 = .ok (.getfield 39, 3) := dq_180 (dq_suf 0 dt07cX8_openWorld_3 rfl rfl) rfl
theorem dX8_openWorld_51 : decode cX8_openWorld 51 = .ok (.iload_n 1, 1) := dq_27 (dq_suf 3 dt07cX8_openWorld_3 rfl rfl)
theorem dX8_openWorld_52 : decode cX8_openWorld 52 = .ok (.dup2, 1) := dq_92 (dq_suf 4 dt07cX8_openWorld_3 rfl rfl)
theorem dX8_openWorld_53 : decode cX8_openWorld 53 = .ok (.laload, 1) := dq_47 (dq_suf 5 dt07cX8_openWorld_3 rfl rfl)
theorem dX8_openWorld_54 : decode cX8_openWorld 54 = .ok (.lconst 1, 1) := dq_10 (dq_suf 6 dt07cX8_openWorld_3 rfl rfl)
theorem dX8_openWorld_55 : decode cX8_openWorld 55 = .ok (.aload_n 0, 1) := dq_42 (dq_suf 7 dt07cX8_openWorld_3 rfl rfl)
theorem dX8_openWorld_56 : decode cX8_openWorld 56 = .ok (.getfield 160, 3) := dq_180 (dq_suf 8 dt07cX8_openWorld_3 rfl rfl) rfl
theorem dX8_openWorld_59 : decode cX8_openWorld 59 = .ok (.lshl, 1) := dq_121 (dq_suf 11 dt07cX8_openWorld_3 rfl rfl)
theorem dX8_openWorld_60 : decode cX8_openWorld 60 = .ok (.lor, 1) := dq_129 (dq_suf 12 dt07cX8_openWorld_3 rfl rfl)
theorem dX8_openWorld_61 : decode cX8_openWorld 61 = .ok (.lastore, 1) := dq_80 (dq_suf 13 dt07cX8_openWorld_3 rfl rfl)
theorem dX8_openWorld_62 : decode cX8_openWorld 62 = .ok (.aload_n 0, 1) := dq_42 (dq_suf 14 dt07cX8_openWorld_3 rfl rfl)
theorem dX8_openWorld_63 : decode cX8_openWorld 63 = .ok (.iload_n 1, 1) := dq_27 (dq_suf 15 dt07cX8_openWorld_3 rfl rfl)
theorem dX8_openWorld_64 : decode cX8_openWorld 64 = .ok (.putfield 160, 3) := dq_181 (dq_suf 0 dt07cX8_openWorld_4 rfl rfl) rfl
theorem dX8_openWorld_67 : decode cX8_openWorld 67 = .ok (.return_, 1) := dq_177 (dq_suf 3 dt07cX8_openWorld_4 rfl rfl)
noncomputable def ds07cX8_add_4 : List UInt8 := 128 :: 177 :: []
noncomputable def ds07cX8_add_3 : List UInt8 := 0 :: 7 :: 28 :: 167 :: 0 :: 11 :: 42 :: 180 :: 0 :: 128 :: 28 :: 184 :: 0 :: 214 :: 181 :: 0 :: ds07cX8_add_4
noncomputable def ds07cX8_add_2 : List UInt8 := 182 :: 0 :: 211 :: 61 :: 28 :: 2 :: 159 :: 0 :: 27 :: 42 :: 42 :: 180 :: 0 :: 128 :: 2 :: 160 :: ds07cX8_add_3
noncomputable def ds07cX8_add_1 : List UInt8 := 0 :: 82 :: 42 :: 180 :: 0 :: 23 :: 42 :: 180 :: 0 :: 160 :: 27 :: 182 :: 0 :: 82 :: 42 :: 27 :: ds07cX8_add_2
noncomputable def ds07cX8_add_0 : List UInt8 := 27 :: 2 :: 160 :: 0 :: 4 :: 177 :: 42 :: 180 :: 0 :: 20 :: 42 :: 180 :: 0 :: 160 :: 27 :: 182 :: ds07cX8_add_1
theorem dt07cX8_add_0 : cX8_add.data.toList.drop 0 = ds07cX8_add_0 := by decide +kernel
theorem dt07cX8_add_1 : cX8_add.data.toList.drop 16 = ds07cX8_add_1 := dq_suf 16 dt07cX8_add_0 rfl rfl
theorem dt07cX8_add_2 : cX8_add.data.toList.drop 32 = ds07cX8_add_2 := dq_suf 16 dt07cX8_add_1 rfl rfl
theorem dt07cX8_add_3 : cX8_add.data.toList.drop 48 = ds07cX8_add_3 := dq_suf 16 dt07cX8_add_2 rfl rfl
theorem dt07cX8_add_4 : cX8_add.data.toList.drop 64 = ds07cX8_add_4 := dq_suf 16 dt07cX8_add_3 rfl rfl
theorem dX8_add_0 : decode cX8_add 0 = .ok (.iload_n 1, 1) := dq_27 (dq_suf 0 dt07cX8_add_0 rfl rfl)
theorem dX8_add_1 : decode cX8_add 1 = .ok (.iconst (-1), 1) := dq_2 (dq_suf 1 dt07cX8_add_0 rfl rfl)
theorem dX8_add_2 : decode cX8_add 2 = .ok (.if_icmp .ne 4, 3) := dq_160 (dq_suf 2 dt07cX8_add_0 rfl rfl) (by decide +kernel)
theorem dX8_add_5 : decode cX8_add 5 = .ok (.return_, 1) := dq_177 (dq_suf 5 dt07cX8_add_0 rfl rfl)
theorem dX8_add_6 : decode cX8_add 6 = .ok (.aload_n 0, 1) := dq_42 (dq_suf 6 dt07cX8_add_0 rfl rfl)
theorem dX8_add_7 : decode cX8_add 7 = .ok (.getfield 20, 3) := dq_180 (dq_suf 7 dt07cX8_add_0 rfl rfl) rfl
theorem dX8_add_10 : decode cX8_add 10 = .ok (.aload_n 0, 1) := dq_42 (dq_suf 10 dt07cX8_add_0 rfl rfl)
theorem dX8_add_11 : decode cX8_add 11 = .ok (.getfield 160, 3) := dq_180 (dq_suf 11 dt07cX8_add_0 rfl rfl) rfl
theorem dX8_add_14 : decode cX8_add 14 = .ok (.iload_n 1, 1) := dq_27 (dq_suf 14 dt07cX8_add_0 rfl rfl)
theorem dX8_add_15 : decode cX8_add 15 = .ok (.invokevirtual 82, 3) := dq_182 (dq_suf 15 dt07cX8_add_0 rfl rfl) rfl
theorem dX8_add_18 : decode cX8_add 18 = .ok (.aload_n 0, 1) := dq_42 (dq_suf 2 dt07cX8_add_1 rfl rfl)
theorem dX8_add_19 : decode cX8_add 19 = .ok (.getfield 23, 3) := dq_180 (dq_suf 3 dt07cX8_add_1 rfl rfl) rfl
theorem dX8_add_22 : decode cX8_add 22 = .ok (.aload_n 0, 1) := dq_42 (dq_suf 6 dt07cX8_add_1 rfl rfl)
theorem dX8_add_23 : decode cX8_add 23 = .ok (.getfield 160, 3) := dq_180 (dq_suf 7 dt07cX8_add_1 rfl rfl) rfl
theorem dX8_add_26 : decode cX8_add 26 = .ok (.iload_n 1, 1) := dq_27 (dq_suf 10 dt07cX8_add_1 rfl rfl)
theorem dX8_add_27 : decode cX8_add 27 = .ok (.invokevirtual 82, 3) := dq_182 (dq_suf 11 dt07cX8_add_1 rfl rfl) rfl
theorem dX8_add_30 : decode cX8_add 30 = .ok (.aload_n 0, 1) := dq_42 (dq_suf 14 dt07cX8_add_1 rfl rfl)
theorem dX8_add_31 : decode cX8_add 31 = .ok (.iload_n 1, 1) := dq_27 (dq_suf 15 dt07cX8_add_1 rfl rfl)
theorem dX8_add_32 : decode cX8_add 32 = .ok (.invokevirtual 211, 3) := dq_182 (dq_suf 0 dt07cX8_add_2 rfl rfl) rfl
theorem dX8_add_35 : decode cX8_add 35 = .ok (.istore_n 2, 1) := dq_61 (dq_suf 3 dt07cX8_add_2 rfl rfl)
theorem dX8_add_36 : decode cX8_add 36 = .ok (.iload_n 2, 1) := dq_28 (dq_suf 4 dt07cX8_add_2 rfl rfl)
theorem dX8_add_37 : decode cX8_add 37 = .ok (.iconst (-1), 1) := dq_2 (dq_suf 5 dt07cX8_add_2 rfl rfl)
theorem dX8_add_38 : decode cX8_add 38 = .ok (.if_icmp .eq 27, 3) := dq_159 (dq_suf 6 dt07cX8_add_2 rfl rfl) (by decide +kernel)
theorem dX8_add_41 : decode cX8_add 41 = .ok (.aload_n 0, 1) := dq_42 (dq_suf 9 dt07cX8_add_2 rfl rfl)
theorem dX8_add_42 : decode cX8_add 42 = .ok (.aload_n 0, 1) := dq_42 (dq_suf 10 dt07cX8_add_2 rfl rfl)
theorem dX8_add_43 : decode cX8_add 43 = .ok (.getfield 128, 3) := dq_180 (dq_suf 11 dt07cX8_add_2 rfl rfl) rfl
theorem dX8_add_46 : decode cX8_add 46 = .ok (.iconst (-1), 1) := dq_2 (dq_suf 14 dt07cX8_add_2 rfl rfl)
theorem dX8_add_47 : decode cX8_add 47 = .ok (.if_icmp .ne 7, 3) := dq_160 (dq_suf 15 dt07cX8_add_2 rfl rfl) (by decide +kernel)
theorem dX8_add_50 : decode cX8_add 50 = .ok (.iload_n 2, 1) := dq_28 (dq_suf 2 dt07cX8_add_3 rfl rfl)
theorem dX8_add_51 : decode cX8_add 51 = .ok (.goto 11, 3) := dq_167 (dq_suf 3 dt07cX8_add_3 rfl rfl) (by decide +kernel)
theorem dX8_add_54 : decode cX8_add 54 = .ok (.aload_n 0, 1) := dq_42 (dq_suf 6 dt07cX8_add_3 rfl rfl)
theorem dX8_add_55 : decode cX8_add 55 = .ok (.getfield 128, 3) := dq_180 (dq_suf 7 dt07cX8_add_3 rfl rfl) rfl
theorem dX8_add_58 : decode cX8_add 58 = .ok (.iload_n 2, 1) := dq_28 (dq_suf 10 dt07cX8_add_3 rfl rfl)
theorem dX8_add_59 : decode cX8_add 59 = .ok (.invokestatic 214, 3) := dq_184 (dq_suf 11 dt07cX8_add_3 rfl rfl) rfl
theorem dX8_add_62 : decode cX8_add 62 = .ok (.putfield 128, 3) := dq_181 (dq_suf 14 dt07cX8_add_3 rfl rfl) rfl
theorem dX8_add_65 : decode cX8_add 65 = .ok (.return_, 1) := dq_177 (dq_suf 1 dt07cX8_add_4 rfl rfl)
noncomputable def ds07cX8_clashWith_4 : List UInt8 := 7 :: 27 :: 167 :: 0 :: 11 :: 42 :: 180 :: 0 :: 56 :: 27 :: 182 :: 0 :: 217 :: 172 :: []
noncomputable def ds07cX8_clashWith_3 : List UInt8 := 27 :: 182 :: 0 :: 217 :: 182 :: 0 :: 121 :: 154 :: 0 :: 5 :: 2 :: 172 :: 28 :: 5 :: 160 :: 0 :: ds07cX8_clashWith_4
noncomputable def ds07cX8_clashWith_2 : List UInt8 := 29 :: 153 :: 0 :: 25 :: 42 :: 180 :: 0 :: 20 :: 42 :: 180 :: 0 :: 160 :: 42 :: 180 :: 0 :: 56 :: ds07cX8_clashWith_3
noncomputable def ds07cX8_clashWith_1 : List UInt8 := 28 :: 5 :: 159 :: 0 :: 8 :: 28 :: 6 :: 160 :: 0 :: 7 :: 4 :: 167 :: 0 :: 4 :: 3 :: 62 :: ds07cX8_clashWith_2
noncomputable def ds07cX8_clashWith_0 : List UInt8 := 42 :: 180 :: 0 :: 56 :: 27 :: 182 :: 0 :: 118 :: 61 :: 28 :: 4 :: 160 :: 0 :: 5 :: 27 :: 172 :: ds07cX8_clashWith_1
theorem dt07cX8_clashWith_0 : cX8_clashWith.data.toList.drop 0 = ds07cX8_clashWith_0 := by decide +kernel
theorem dt07cX8_clashWith_1 : cX8_clashWith.data.toList.drop 16 = ds07cX8_clashWith_1 := dq_suf 16 dt07cX8_clashWith_0 rfl rfl
theorem dt07cX8_clashWith_2 : cX8_clashWith.data.toList.drop 32 = ds07cX8_clashWith_2 := dq_suf 16 dt07cX8_clashWith_1 rfl rfl
theorem dt07cX8_clashWith_3 : cX8_clashWith.data.toList.drop 48 = ds07cX8_clashWith_3 := dq_suf 16 dt07cX8_clashWith_2 rfl rfl
theorem dt07cX8_clashWith_4 : cX8_clashWith.data.toList.drop 64 = ds07cX8_clashWith_4 := dq_suf 16 dt07cX8_clashWith_3 rfl rfl
theorem dX8_clashWith_0 : decode cX8_clashWith 0 = .ok (.aload_n 0, 1) := dq_42 (dq_suf 0 dt07cX8_clashWith_0 rfl rfl)
theorem dX8_clashWith_1 : decode cX8_clashWith 1 = .ok (.getfield 56, 3) := dq_180 (dq_suf 1 dt07cX8_clashWith_0 rfl rfl) rfl
theorem dX8_clashWith_4 : decode cX8_clashWith 4 = .ok (.iload_n 1, 1) := dq_27 (dq_suf 4 dt07cX8_clashWith_0 rfl rfl)
theorem dX8_clashWith_5 : decode cX8_clashWith 5 = .ok (.invokevirtual 118, 3) := dq_182 (dq_suf 5 dt07cX8_clashWith_0 rfl rfl) rfl
theorem dX8_clashWith_8 : decode cX8_clashWith 8 = .ok (.istore_n 2, 1) := dq_61 (dq_suf 8 dt07cX8_clashWith_0 rfl rfl)
theorem dX8_clashWith_9 : decode cX8_clashWith 9 = .ok (.iload_n 2, 1) := dq_28 (dq_suf 9 dt07cX8_clashWith_0 rfl rfl)
theorem dX8_clashWith_10 : decode cX8_clashWith 10 = .ok (.iconst 1, 1) := dq_4 (dq_suf 10 dt07cX8_clashWith_0 rfl rfl)
theorem dX8_clashWith_11 : decode cX8_clashWith 11 = .ok (.if_icmp .ne 5, 3) := dq_160 (dq_suf 11 dt07cX8_clashWith_0 rfl rfl) (by decide +kernel)
theorem dX8_clashWith_14 : decode cX8_clashWith 14 = .ok (.iload_n 1, 1) := dq_27 (dq_suf 14 dt07cX8_clashWith_0 rfl rfl)
theorem dX8_clashWith_15 : decode cX8_clashWith 15 = .ok (.ireturn, 1) := dq_172 (dq_suf 15 dt07cX8_clashWith_0 rfl rfl)
theorem dX8_clashWith_16 : decode cX8_clashWith 16 = .ok (.iload_n 2, 1) := dq_28 (dq_suf 0 dt07cX8_clashWith_1 rfl rfl)
theorem dX8_clashWith_17 : decode cX8_clashWith 17 = .ok (.iconst 2, 1) := dq_5 (dq_suf 1 dt07cX8_clashWith_1 rfl rfl)
theorem dX8_clashWith_18 : decode cX8_clashWith 18 = .ok (.if_icmp .eq 8, 3) := dq_159 (dq_suf 2 dt07cX8_clashWith_1 rfl rfl) (by decide +kernel)
theorem dX8_clashWith_21 : decode cX8_clashWith 21 = .ok (.iload_n 2, 1) := dq_28 (dq_suf 5 dt07cX8_clashWith_1 rfl rfl)
theorem dX8_clashWith_22 : decode cX8_clashWith 22 = .ok (.iconst 3, 1) := dq_6 (dq_suf 6 dt07cX8_clashWith_1 rfl rfl)
theorem dX8_clashWith_23 : decode cX8_clashWith 23 = .ok (.if_icmp .ne 7, 3) := dq_160 (dq_suf 7 dt07cX8_clashWith_1 rfl rfl) (by decide +kernel)
theorem dX8_clashWith_26 : decode cX8_clashWith 26 = .ok (.iconst 1, 1) := dq_4 (dq_suf 10 dt07cX8_clashWith_1 rfl rfl)
theorem dX8_clashWith_27 : decode cX8_clashWith 27 = .ok (.goto 4, 3) := dq_167 (dq_suf 11 dt07cX8_clashWith_1 rfl rfl) (by decide +kernel)
theorem dX8_clashWith_30 : decode cX8_clashWith 30 = .ok (.iconst 0, 1) := dq_3 (dq_suf 14 dt07cX8_clashWith_1 rfl rfl)
theorem dX8_clashWith_31 : decode cX8_clashWith 31 = .ok (.istore_n 3, 1) := dq_62 (dq_suf 15 dt07cX8_clashWith_1 rfl rfl)
theorem dX8_clashWith_32 : decode cX8_clashWith 32 = .ok (.iload_n 3, 1) := dq_29 (dq_suf 0 dt07cX8_clashWith_2 rfl rfl)
theorem dX8_clashWith_33 : decode cX8_clashWith 33 = .ok (.ifCond .eq 25, 3) := dq_153 (dq_suf 1 dt07cX8_clashWith_2 rfl rfl) (by decide +kernel)
theorem dX8_clashWith_36 : decode cX8_clashWith 36 = .ok (.aload_n 0, 1) := dq_42 (dq_suf 4 dt07cX8_clashWith_2 rfl rfl)
theorem dX8_clashWith_37 : decode cX8_clashWith 37 = .ok (.getfield 20, 3) := dq_180 (dq_suf 5 dt07cX8_clashWith_2 rfl rfl) rfl
theorem dX8_clashWith_40 : decode cX8_clashWith 40 = .ok (.aload_n 0, 1) := dq_42 (dq_suf 8 dt07cX8_clashWith_2 rfl rfl)
theorem dX8_clashWith_41 : decode cX8_clashWith 41 = .ok (.getfield 160, 3) := dq_180 (dq_suf 9 dt07cX8_clashWith_2 rfl rfl) rfl
theorem dX8_clashWith_44 : decode cX8_clashWith 44 = .ok (.aload_n 0, 1) := dq_42 (dq_suf 12 dt07cX8_clashWith_2 rfl rfl)
theorem dX8_clashWith_45 : decode cX8_clashWith 45 = .ok (.getfield 56, 3) := dq_180 (dq_suf 13 dt07cX8_clashWith_2 rfl rfl) rfl
theorem dX8_clashWith_48 : decode cX8_clashWith 48 = .ok (.iload_n 1, 1) := dq_27 (dq_suf 0 dt07cX8_clashWith_3 rfl rfl)
theorem dX8_clashWith_49 : decode cX8_clashWith 49 = .ok (.invokevirtual 217, 3) := dq_182 (dq_suf 1 dt07cX8_clashWith_3 rfl rfl) rfl
theorem dX8_clashWith_52 : decode cX8_clashWith 52 = .ok (.invokevirtual 121, 3) := dq_182 (dq_suf 4 dt07cX8_clashWith_3 rfl rfl) rfl
theorem dX8_clashWith_55 : decode cX8_clashWith 55 = .ok (.ifCond .ne 5, 3) := dq_154 (dq_suf 7 dt07cX8_clashWith_3 rfl rfl) (by decide +kernel)
theorem dX8_clashWith_58 : decode cX8_clashWith 58 = .ok (.iconst (-1), 1) := dq_2 (dq_suf 10 dt07cX8_clashWith_3 rfl rfl)
theorem dX8_clashWith_59 : decode cX8_clashWith 59 = .ok (.ireturn, 1) := dq_172 (dq_suf 11 dt07cX8_clashWith_3 rfl rfl)
theorem dX8_clashWith_60 : decode cX8_clashWith 60 = .ok (.iload_n 2, 1) := dq_28 (dq_suf 12 dt07cX8_clashWith_3 rfl rfl)
theorem dX8_clashWith_61 : decode cX8_clashWith 61 = .ok (.iconst 2, 1) := dq_5 (dq_suf 13 dt07cX8_clashWith_3 rfl rfl)
theorem dX8_clashWith_62 : decode cX8_clashWith 62 = .ok (.if_icmp .ne 7, 3) := dq_160 (dq_suf 14 dt07cX8_clashWith_3 rfl rfl) (by decide +kernel)
theorem dX8_clashWith_65 : decode cX8_clashWith 65 = .ok (.iload_n 1, 1) := dq_27 (dq_suf 1 dt07cX8_clashWith_4 rfl rfl)
theorem dX8_clashWith_66 : decode cX8_clashWith 66 = .ok (.goto 11, 3) := dq_167 (dq_suf 2 dt07cX8_clashWith_4 rfl rfl) (by decide +kernel)
theorem dX8_clashWith_69 : decode cX8_clashWith 69 = .ok (.aload_n 0, 1) := dq_42 (dq_suf 5 dt07cX8_clashWith_4 rfl rfl)
theorem dX8_clashWith_70 : decode cX8_clashWith 70 = .ok (.getfield 56, 3) := dq_180 (dq_suf 6 dt07cX8_clashWith_4 rfl rfl) rfl
theorem dX8_clashWith_73 : decode cX8_clashWith 73 = .ok (.iload_n 1, 1) := dq_27 (dq_suf 9 dt07cX8_clashWith_4 rfl rfl)
theorem dX8_clashWith_74 : decode cX8_clashWith 74 = .ok (.invokevirtual 217, 3) := dq_182 (dq_suf 10 dt07cX8_clashWith_4 rfl rfl) rfl
theorem dX8_clashWith_77 : decode cX8_clashWith 77 = .ok (.ireturn, 1) := dq_172 (dq_suf 13 dt07cX8_clashWith_4 rfl rfl)
noncomputable def ds07cX8_step_2 : List UInt8 := 172 :: []
noncomputable def ds07cX8_step_1 : List UInt8 := 181 :: 0 :: 67 :: 3 :: 172 :: 42 :: 180 :: 0 :: 53 :: 3 :: 92 :: 46 :: 4 :: 96 :: 79 :: 4 :: ds07cX8_step_2
noncomputable def ds07cX8_step_0 : List UInt8 := 42 :: 180 :: 0 :: 53 :: 3 :: 46 :: 42 :: 180 :: 0 :: 63 :: 161 :: 0 :: 11 :: 42 :: 16 :: 253 :: ds07cX8_step_1
theorem dt07cX8_step_0 : cX8_step.data.toList.drop 0 = ds07cX8_step_0 := by decide +kernel
theorem dt07cX8_step_1 : cX8_step.data.toList.drop 16 = ds07cX8_step_1 := dq_suf 16 dt07cX8_step_0 rfl rfl
theorem dt07cX8_step_2 : cX8_step.data.toList.drop 32 = ds07cX8_step_2 := dq_suf 16 dt07cX8_step_1 rfl rfl
theorem dX8_step_0 : decode cX8_step 0 = .ok (.aload_n 0, 1) := dq_42 (dq_suf 0 dt07cX8_step_0 rfl rfl)
theorem dX8_step_1 : decode cX8_step 1 = .ok (.getfield 53, 3) := dq_180 (dq_suf 1 dt07cX8_step_0 rfl rfl) rfl
theorem dX8_step_4 : decode cX8_step 4 = .ok (.iconst 0, 1) := dq_3 (dq_suf 4 dt07cX8_step_0 rfl rfl)
theorem dX8_step_5 : decode cX8_step 5 = .ok (.iaload, 1) := dq_46 (dq_suf 5 dt07cX8_step_0 rfl rfl)
theorem dX8_step_6 : decode cX8_step 6 = .ok (.aload_n 0, 1) := dq_42 (dq_suf 6 dt07cX8_step_0 rfl rfl)
theorem dX8_step_7 : decode cX8_step 7 = .ok (.getfield 63, 3) := dq_180 (dq_suf 7 dt07cX8_step_0 rfl rfl) rfl
theorem dX8_step_10 : decode cX8_step 10 = .ok (.if_icmp .lt 11, 3) := dq_161 (dq_suf 10 dt07cX8_step_0 rfl rfl) (by decide +kernel)
theorem dX8_step_13 : decode cX8_step 13 = .ok (.aload_n 0, 1) := dq_42 (dq_suf 13 dt07cX8_step_0 rfl rfl)
theorem dX8_step_14 : decode cX8_step 14 = .ok (.bipush (-3), 2) := dq_16 (dq_suf 14 dt07cX8_step_0 rfl rfl) (by decide +kernel)
theorem dX8_step_16 : decode cX8_step 16 = .ok (.putfield 67, 3) := dq_181 (dq_suf 0 dt07cX8_step_1 rfl rfl) rfl
theorem dX8_step_19 : decode cX8_step 19 = .ok (.iconst 0, 1) := dq_3 (dq_suf 3 dt07cX8_step_1 rfl rfl)
theorem dX8_step_20 : decode cX8_step 20 = .ok (.ireturn, 1) := dq_172 (dq_suf 4 dt07cX8_step_1 rfl rfl)
theorem dX8_step_21 : decode cX8_step 21 = .ok (.aload_n 0, 1) := dq_42 (dq_suf 5 dt07cX8_step_1 rfl rfl)
theorem dX8_step_22 : decode cX8_step 22 = .ok (.getfield 53, 3) := dq_180 (dq_suf 6 dt07cX8_step_1 rfl rfl) rfl
theorem dX8_step_25 : decode cX8_step 25 = .ok (.iconst 0, 1) := dq_3 (dq_suf 9 dt07cX8_step_1 rfl rfl)
theorem dX8_step_26 : decode cX8_step 26 = .ok (.dup2, 1) := dq_92 (dq_suf 10 dt07cX8_step_1 rfl rfl)
theorem dX8_step_27 : decode cX8_step 27 = .ok (.iaload, 1) := dq_46 (dq_suf 11 dt07cX8_step_1 rfl rfl)
theorem dX8_step_28 : decode cX8_step 28 = .ok (.iconst 1, 1) := dq_4 (dq_suf 12 dt07cX8_step_1 rfl rfl)
theorem dX8_step_29 : decode cX8_step 29 = .ok (.iadd, 1) := dq_96 (dq_suf 13 dt07cX8_step_1 rfl rfl)
theorem dX8_step_30 : decode cX8_step 30 = .ok (.iastore, 1) := dq_79 (dq_suf 14 dt07cX8_step_1 rfl rfl)
theorem dX8_step_31 : decode cX8_step 31 = .ok (.iconst 1, 1) := dq_4 (dq_suf 15 dt07cX8_step_1 rfl rfl)
theorem dX8_step_32 : decode cX8_step 32 = .ok (.ireturn, 1) := dq_172 (dq_suf 0 dt07cX8_step_2 rfl rfl)
noncomputable def ds07cX8_note_1 : List UInt8 := 0 :: 67 :: 3 :: 172 :: 4 :: 172 :: []
noncomputable def ds07cX8_note_0 : List UInt8 := 42 :: 180 :: 0 :: 49 :: 27 :: 28 :: 182 :: 0 :: 220 :: 154 :: 0 :: 11 :: 42 :: 16 :: 252 :: 181 :: ds07cX8_note_1
theorem dt07cX8_note_0 : cX8_note.data.toList.drop 0 = ds07cX8_note_0 := by decide +kernel
theorem dt07cX8_note_1 : cX8_note.data.toList.drop 16 = ds07cX8_note_1 := dq_suf 16 dt07cX8_note_0 rfl rfl
theorem dX8_note_0 : decode cX8_note 0 = .ok (.aload_n 0, 1) := dq_42 (dq_suf 0 dt07cX8_note_0 rfl rfl)
theorem dX8_note_1 : decode cX8_note 1 = .ok (.getfield 49, 3) := dq_180 (dq_suf 1 dt07cX8_note_0 rfl rfl) rfl
theorem dX8_note_4 : decode cX8_note 4 = .ok (.iload_n 1, 1) := dq_27 (dq_suf 4 dt07cX8_note_0 rfl rfl)
theorem dX8_note_5 : decode cX8_note 5 = .ok (.iload_n 2, 1) := dq_28 (dq_suf 5 dt07cX8_note_0 rfl rfl)
theorem dX8_note_6 : decode cX8_note 6 = .ok (.invokevirtual 220, 3) := dq_182 (dq_suf 6 dt07cX8_note_0 rfl rfl) rfl
theorem dX8_note_9 : decode cX8_note 9 = .ok (.ifCond .ne 11, 3) := dq_154 (dq_suf 9 dt07cX8_note_0 rfl rfl) (by decide +kernel)
theorem dX8_note_12 : decode cX8_note 12 = .ok (.aload_n 0, 1) := dq_42 (dq_suf 12 dt07cX8_note_0 rfl rfl)
theorem dX8_note_13 : decode cX8_note 13 = .ok (.bipush (-4), 2) := dq_16 (dq_suf 13 dt07cX8_note_0 rfl rfl) (by decide +kernel)
theorem dX8_note_15 : decode cX8_note 15 = .ok (.putfield 67, 3) := dq_181 (dq_suf 15 dt07cX8_note_0 rfl rfl) rfl
theorem dX8_note_18 : decode cX8_note 18 = .ok (.iconst 0, 1) := dq_3 (dq_suf 2 dt07cX8_note_1 rfl rfl)
theorem dX8_note_19 : decode cX8_note 19 = .ok (.ireturn, 1) := dq_172 (dq_suf 3 dt07cX8_note_1 rfl rfl)
theorem dX8_note_20 : decode cX8_note 20 = .ok (.iconst 1, 1) := dq_4 (dq_suf 4 dt07cX8_note_1 rfl rfl)
theorem dX8_note_21 : decode cX8_note 21 = .ok (.ireturn, 1) := dq_172 (dq_suf 5 dt07cX8_note_1 rfl rfl)
noncomputable def ds07cX4_init_4 : List UInt8 := 188 :: 11 :: 181 :: 0 :: 34 :: 42 :: 43 :: 181 :: 0 :: 37 :: 177 :: []
noncomputable def ds07cX4_init_3 : List UInt8 := 10 :: 181 :: 0 :: 28 :: 42 :: 16 :: 60 :: 188 :: 11 :: 181 :: 0 :: 31 :: 42 :: 17 :: 1 :: 44 :: ds07cX4_init_4
noncomputable def ds07cX4_init_2 : List UInt8 := 10 :: 181 :: 0 :: 22 :: 42 :: 16 :: 60 :: 188 :: 10 :: 181 :: 0 :: 25 :: 42 :: 16 :: 60 :: 188 :: ds07cX4_init_3
noncomputable def ds07cX4_init_1 : List UInt8 := 11 :: 181 :: 0 :: 15 :: 42 :: 16 :: 60 :: 188 :: 10 :: 181 :: 0 :: 19 :: 42 :: 16 :: 60 :: 188 :: ds07cX4_init_2
noncomputable def ds07cX4_init_0 : List UInt8 := 42 :: 183 :: 0 :: 3 :: 42 :: 16 :: 60 :: 188 :: 10 :: 181 :: 0 :: 9 :: 42 :: 16 :: 60 :: 188 :: ds07cX4_init_1
theorem dt07cX4_init_0 : cX4_init.data.toList.drop 0 = ds07cX4_init_0 := by decide +kernel
theorem dt07cX4_init_1 : cX4_init.data.toList.drop 16 = ds07cX4_init_1 := dq_suf 16 dt07cX4_init_0 rfl rfl
theorem dt07cX4_init_2 : cX4_init.data.toList.drop 32 = ds07cX4_init_2 := dq_suf 16 dt07cX4_init_1 rfl rfl
theorem dt07cX4_init_3 : cX4_init.data.toList.drop 48 = ds07cX4_init_3 := dq_suf 16 dt07cX4_init_2 rfl rfl
theorem dt07cX4_init_4 : cX4_init.data.toList.drop 64 = ds07cX4_init_4 := dq_suf 16 dt07cX4_init_3 rfl rfl
theorem dX4_init_0 : decode cX4_init 0 = .ok (.aload_n 0, 1) := dq_42 (dq_suf 0 dt07cX4_init_0 rfl rfl)
theorem dX4_init_1 : decode cX4_init 1 = .ok (.invokespecial 3, 3) := dq_183 (dq_suf 1 dt07cX4_init_0 rfl rfl) rfl
theorem dX4_init_4 : decode cX4_init 4 = .ok (.aload_n 0, 1) := dq_42 (dq_suf 4 dt07cX4_init_0 rfl rfl)
theorem dX4_init_5 : decode cX4_init 5 = .ok (.bipush 60, 2) := dq_16 (dq_suf 5 dt07cX4_init_0 rfl rfl) (by decide +kernel)
theorem dX4_init_7 : decode cX4_init 7 = .ok (.newarray .int, 2) := by decide +kernel
theorem dX4_init_9 : decode cX4_init 9 = .ok (.putfield 9, 3) := dq_181 (dq_suf 9 dt07cX4_init_0 rfl rfl) rfl
theorem dX4_init_12 : decode cX4_init 12 = .ok (.aload_n 0, 1) := dq_42 (dq_suf 12 dt07cX4_init_0 rfl rfl)
theorem dX4_init_13 : decode cX4_init 13 = .ok (.bipush 60, 2) := dq_16 (dq_suf 13 dt07cX4_init_0 rfl rfl) (by decide +kernel)
theorem dX4_init_15 : decode cX4_init 15 = .ok (.newarray .long, 2) := by decide +kernel
theorem dX4_init_17 : decode cX4_init 17 = .ok (.putfield 15, 3) := dq_181 (dq_suf 1 dt07cX4_init_1 rfl rfl) rfl
theorem dX4_init_20 : decode cX4_init 20 = .ok (.aload_n 0, 1) := dq_42 (dq_suf 4 dt07cX4_init_1 rfl rfl)
theorem dX4_init_21 : decode cX4_init 21 = .ok (.bipush 60, 2) := dq_16 (dq_suf 5 dt07cX4_init_1 rfl rfl) (by decide +kernel)
theorem dX4_init_23 : decode cX4_init 23 = .ok (.newarray .int, 2) := by decide +kernel
theorem dX4_init_25 : decode cX4_init 25 = .ok (.putfield 19, 3) := dq_181 (dq_suf 9 dt07cX4_init_1 rfl rfl) rfl
theorem dX4_init_28 : decode cX4_init 28 = .ok (.aload_n 0, 1) := dq_42 (dq_suf 12 dt07cX4_init_1 rfl rfl)
theorem dX4_init_29 : decode cX4_init 29 = .ok (.bipush 60, 2) := dq_16 (dq_suf 13 dt07cX4_init_1 rfl rfl) (by decide +kernel)
theorem dX4_init_31 : decode cX4_init 31 = .ok (.newarray .int, 2) := by decide +kernel
theorem dX4_init_33 : decode cX4_init 33 = .ok (.putfield 22, 3) := dq_181 (dq_suf 1 dt07cX4_init_2 rfl rfl) rfl
theorem dX4_init_36 : decode cX4_init 36 = .ok (.aload_n 0, 1) := dq_42 (dq_suf 4 dt07cX4_init_2 rfl rfl)
theorem dX4_init_37 : decode cX4_init 37 = .ok (.bipush 60, 2) := dq_16 (dq_suf 5 dt07cX4_init_2 rfl rfl) (by decide +kernel)
theorem dX4_init_39 : decode cX4_init 39 = .ok (.newarray .int, 2) := by decide +kernel
theorem dX4_init_41 : decode cX4_init 41 = .ok (.putfield 25, 3) := dq_181 (dq_suf 9 dt07cX4_init_2 rfl rfl) rfl
theorem dX4_init_44 : decode cX4_init 44 = .ok (.aload_n 0, 1) := dq_42 (dq_suf 12 dt07cX4_init_2 rfl rfl)
theorem dX4_init_45 : decode cX4_init 45 = .ok (.bipush 60, 2) := dq_16 (dq_suf 13 dt07cX4_init_2 rfl rfl) (by decide +kernel)
theorem dX4_init_47 : decode cX4_init 47 = .ok (.newarray .int, 2) := by decide +kernel
theorem dX4_init_49 : decode cX4_init 49 = .ok (.putfield 28, 3) := dq_181 (dq_suf 1 dt07cX4_init_3 rfl rfl) rfl
theorem dX4_init_52 : decode cX4_init 52 = .ok (.aload_n 0, 1) := dq_42 (dq_suf 4 dt07cX4_init_3 rfl rfl)
theorem dX4_init_53 : decode cX4_init 53 = .ok (.bipush 60, 2) := dq_16 (dq_suf 5 dt07cX4_init_3 rfl rfl) (by decide +kernel)
theorem dX4_init_55 : decode cX4_init 55 = .ok (.newarray .long, 2) := by decide +kernel
theorem dX4_init_57 : decode cX4_init 57 = .ok (.putfield 31, 3) := dq_181 (dq_suf 9 dt07cX4_init_3 rfl rfl) rfl
theorem dX4_init_60 : decode cX4_init 60 = .ok (.aload_n 0, 1) := dq_42 (dq_suf 12 dt07cX4_init_3 rfl rfl)
theorem dX4_init_61 : decode cX4_init 61 = .ok (.sipush 300, 3) := dq_17 (dq_suf 13 dt07cX4_init_3 rfl rfl) (by decide +kernel)
theorem dX4_init_64 : decode cX4_init 64 = .ok (.newarray .long, 2) := by decide +kernel
theorem dX4_init_66 : decode cX4_init 66 = .ok (.putfield 34, 3) := dq_181 (dq_suf 2 dt07cX4_init_4 rfl rfl) rfl
theorem dX4_init_69 : decode cX4_init 69 = .ok (.aload_n 0, 1) := dq_42 (dq_suf 5 dt07cX4_init_4 rfl rfl)
theorem dX4_init_70 : decode cX4_init 70 = .ok (.aload_n 1, 1) := dq_43 (dq_suf 6 dt07cX4_init_4 rfl rfl)
theorem dX4_init_71 : decode cX4_init 71 = .ok (.putfield 37, 3) := dq_181 (dq_suf 7 dt07cX4_init_4 rfl rfl) rfl
theorem dX4_init_74 : decode cX4_init 74 = .ok (.return_, 1) := dq_177 (dq_suf 10 dt07cX4_init_4 rfl rfl)
noncomputable def ds07cX4_size_0 : List UInt8 := 42 :: 180 :: 0 :: 41 :: 172 :: []
theorem dt07cX4_size_0 : cX4_size.data.toList.drop 0 = ds07cX4_size_0 := by decide +kernel
theorem dX4_size_0 : decode cX4_size 0 = .ok (.aload_n 0, 1) := dq_42 (dq_suf 0 dt07cX4_size_0 rfl rfl)
theorem dX4_size_1 : decode cX4_size 1 = .ok (.getfield 41, 3) := dq_180 (dq_suf 1 dt07cX4_size_0 rfl rfl) rfl
theorem dX4_size_4 : decode cX4_size 4 = .ok (.ireturn, 1) := dq_172 (dq_suf 4 dt07cX4_size_0 rfl rfl)
noncomputable def ds07cX4_has_1 : List UInt8 := 3 :: 172 :: []
noncomputable def ds07cX4_has_0 : List UInt8 := 27 :: 155 :: 0 :: 15 :: 27 :: 42 :: 180 :: 0 :: 41 :: 162 :: 0 :: 7 :: 4 :: 167 :: 0 :: 4 :: ds07cX4_has_1
theorem dt07cX4_has_0 : cX4_has.data.toList.drop 0 = ds07cX4_has_0 := by decide +kernel
theorem dt07cX4_has_1 : cX4_has.data.toList.drop 16 = ds07cX4_has_1 := dq_suf 16 dt07cX4_has_0 rfl rfl
theorem dX4_has_0 : decode cX4_has 0 = .ok (.iload_n 1, 1) := dq_27 (dq_suf 0 dt07cX4_has_0 rfl rfl)
theorem dX4_has_1 : decode cX4_has 1 = .ok (.ifCond .lt 15, 3) := dq_155 (dq_suf 1 dt07cX4_has_0 rfl rfl) (by decide +kernel)
theorem dX4_has_4 : decode cX4_has 4 = .ok (.iload_n 1, 1) := dq_27 (dq_suf 4 dt07cX4_has_0 rfl rfl)
theorem dX4_has_5 : decode cX4_has 5 = .ok (.aload_n 0, 1) := dq_42 (dq_suf 5 dt07cX4_has_0 rfl rfl)
theorem dX4_has_6 : decode cX4_has 6 = .ok (.getfield 41, 3) := dq_180 (dq_suf 6 dt07cX4_has_0 rfl rfl) rfl
theorem dX4_has_9 : decode cX4_has 9 = .ok (.if_icmp .ge 7, 3) := dq_162 (dq_suf 9 dt07cX4_has_0 rfl rfl) (by decide +kernel)
theorem dX4_has_12 : decode cX4_has 12 = .ok (.iconst 1, 1) := dq_4 (dq_suf 12 dt07cX4_has_0 rfl rfl)
theorem dX4_has_13 : decode cX4_has 13 = .ok (.goto 4, 3) := dq_167 (dq_suf 13 dt07cX4_has_0 rfl rfl) (by decide +kernel)
theorem dX4_has_16 : decode cX4_has 16 = .ok (.iconst 0, 1) := dq_3 (dq_suf 0 dt07cX4_has_1 rfl rfl)
theorem dX4_has_17 : decode cX4_has 17 = .ok (.ireturn, 1) := dq_172 (dq_suf 1 dt07cX4_has_1 rfl rfl)
noncomputable def ds07cX4_clear_0 : List UInt8 := 42 :: 3 :: 181 :: 0 :: 41 :: 42 :: 3 :: 181 :: 0 :: 45 :: 42 :: 3 :: 181 :: 0 :: 48 :: 177 :: []
theorem dt07cX4_clear_0 : cX4_clear.data.toList.drop 0 = ds07cX4_clear_0 := by decide +kernel
theorem dX4_clear_0 : decode cX4_clear 0 = .ok (.aload_n 0, 1) := dq_42 (dq_suf 0 dt07cX4_clear_0 rfl rfl)
theorem dX4_clear_1 : decode cX4_clear 1 = .ok (.iconst 0, 1) := dq_3 (dq_suf 1 dt07cX4_clear_0 rfl rfl)
theorem dX4_clear_2 : decode cX4_clear 2 = .ok (.putfield 41, 3) := dq_181 (dq_suf 2 dt07cX4_clear_0 rfl rfl) rfl
theorem dX4_clear_5 : decode cX4_clear 5 = .ok (.aload_n 0, 1) := dq_42 (dq_suf 5 dt07cX4_clear_0 rfl rfl)
theorem dX4_clear_6 : decode cX4_clear 6 = .ok (.iconst 0, 1) := dq_3 (dq_suf 6 dt07cX4_clear_0 rfl rfl)
theorem dX4_clear_7 : decode cX4_clear 7 = .ok (.putfield 45, 3) := dq_181 (dq_suf 7 dt07cX4_clear_0 rfl rfl) rfl
theorem dX4_clear_10 : decode cX4_clear 10 = .ok (.aload_n 0, 1) := dq_42 (dq_suf 10 dt07cX4_clear_0 rfl rfl)
theorem dX4_clear_11 : decode cX4_clear 11 = .ok (.iconst 0, 1) := dq_3 (dq_suf 11 dt07cX4_clear_0 rfl rfl)
theorem dX4_clear_12 : decode cX4_clear 12 = .ok (.putfield 48, 3) := dq_181 (dq_suf 12 dt07cX4_clear_0 rfl rfl) rfl
theorem dX4_clear_15 : decode cX4_clear 15 = .ok (.return_, 1) := dq_177 (dq_suf 15 dt07cX4_clear_0 rfl rfl)
noncomputable def ds07cX4_addWorld_3 : List UInt8 := 89 :: 180 :: 0 :: 41 :: 4 :: 96 :: 181 :: 0 :: 41 :: 177 :: []
noncomputable def ds07cX4_addWorld_2 : List UInt8 := 41 :: 121 :: 129 :: 80 :: 42 :: 180 :: 0 :: 22 :: 42 :: 180 :: 0 :: 41 :: 21 :: 4 :: 79 :: 42 :: ds07cX4_addWorld_3
noncomputable def ds07cX4_addWorld_1 : List UInt8 := 41 :: 27 :: 79 :: 42 :: 180 :: 0 :: 15 :: 42 :: 180 :: 0 :: 41 :: 32 :: 10 :: 42 :: 180 :: 0 :: ds07cX4_addWorld_2
noncomputable def ds07cX4_addWorld_0 : List UInt8 := 42 :: 180 :: 0 :: 41 :: 16 :: 60 :: 162 :: 0 :: 51 :: 42 :: 180 :: 0 :: 9 :: 42 :: 180 :: 0 :: ds07cX4_addWorld_1
theorem dt07cX4_addWorld_0 : cX4_addWorld.data.toList.drop 0 = ds07cX4_addWorld_0 := by decide +kernel
theorem dt07cX4_addWorld_1 : cX4_addWorld.data.toList.drop 16 = ds07cX4_addWorld_1 := dq_suf 16 dt07cX4_addWorld_0 rfl rfl
theorem dt07cX4_addWorld_2 : cX4_addWorld.data.toList.drop 32 = ds07cX4_addWorld_2 := dq_suf 16 dt07cX4_addWorld_1 rfl rfl
theorem dt07cX4_addWorld_3 : cX4_addWorld.data.toList.drop 48 = ds07cX4_addWorld_3 := dq_suf 16 dt07cX4_addWorld_2 rfl rfl
theorem dX4_addWorld_0 : decode cX4_addWorld 0 = .ok (.aload_n 0, 1) := dq_42 (dq_suf 0 dt07cX4_addWorld_0 rfl rfl)
theorem dX4_addWorld_1 : decode cX4_addWorld 1 = .ok (.getfield 41, 3) := dq_180 (dq_suf 1 dt07cX4_addWorld_0 rfl rfl) rfl
theorem dX4_addWorld_4 : decode cX4_addWorld 4 = .ok (.bipush 60, 2) := dq_16 (dq_suf 4 dt07cX4_addWorld_0 rfl rfl) (by decide +kernel)
theorem dX4_addWorld_6 : decode cX4_addWorld 6 = .ok (.if_icmp .ge 51, 3) := dq_162 (dq_suf 6 dt07cX4_addWorld_0 rfl rfl) (by decide +kernel)
theorem dX4_addWorld_9 : decode cX4_addWorld 9 = .ok (.aload_n 0, 1) := dq_42 (dq_suf 9 dt07cX4_addWorld_0 rfl rfl)
theorem dX4_addWorld_10 : decode cX4_addWorld 10 = .ok (.getfield 9, 3) := dq_180 (dq_suf 10 dt07cX4_addWorld_0 rfl rfl) rfl
theorem dX4_addWorld_13 : decode cX4_addWorld 13 = .ok (.aload_n 0, 1) := dq_42 (dq_suf 13 dt07cX4_addWorld_0 rfl rfl)
theorem dX4_addWorld_14 : decode cX4_addWorld 14 = .ok (.getfield 41, 3) := dq_180 (dq_suf 14 dt07cX4_addWorld_0 rfl rfl) rfl
theorem dX4_addWorld_17 : decode cX4_addWorld 17 = .ok (.iload_n 1, 1) := dq_27 (dq_suf 1 dt07cX4_addWorld_1 rfl rfl)
theorem dX4_addWorld_18 : decode cX4_addWorld 18 = .ok (.iastore, 1) := dq_79 (dq_suf 2 dt07cX4_addWorld_1 rfl rfl)
theorem dX4_addWorld_19 : decode cX4_addWorld 19 = .ok (.aload_n 0, 1) := dq_42 (dq_suf 3 dt07cX4_addWorld_1 rfl rfl)
theorem dX4_addWorld_20 : decode cX4_addWorld 20 = .ok (.getfield 15, 3) := dq_180 (dq_suf 4 dt07cX4_addWorld_1 rfl rfl) rfl
theorem dX4_addWorld_23 : decode cX4_addWorld 23 = .ok (.aload_n 0, 1) := dq_42 (dq_suf 7 dt07cX4_addWorld_1 rfl rfl)
theorem dX4_addWorld_24 : decode cX4_addWorld 24 = .ok (.getfield 41, 3) := dq_180 (dq_suf 8 dt07cX4_addWorld_1 rfl rfl) rfl
theorem dX4_addWorld_27 : decode cX4_addWorld 27 = .ok (.lload_n 2, 1) := dq_32 (dq_suf 11 dt07cX4_addWorld_1 rfl rfl)
theorem dX4_addWorld_28 : decode cX4_addWorld 28 = .ok (.lconst 1, 1) := dq_10 (dq_suf 12 dt07cX4_addWorld_1 rfl rfl)
theorem dX4_addWorld_29 : decode cX4_addWorld 29 = .ok (.aload_n 0, 1) := dq_42 (dq_suf 13 dt07cX4_addWorld_1 rfl rfl)
theorem dX4_addWorld_30 : decode cX4_addWorld 30 = .ok (.getfield 41, 3) := dq_180 (dq_suf 14 dt07cX4_addWorld_1 rfl rfl) rfl
theorem dX4_addWorld_33 : decode cX4_addWorld 33 = .ok (.lshl, 1) := dq_121 (dq_suf 1 dt07cX4_addWorld_2 rfl rfl)
theorem dX4_addWorld_34 : decode cX4_addWorld 34 = .ok (.lor, 1) := dq_129 (dq_suf 2 dt07cX4_addWorld_2 rfl rfl)
theorem dX4_addWorld_35 : decode cX4_addWorld 35 = .ok (.lastore, 1) := dq_80 (dq_suf 3 dt07cX4_addWorld_2 rfl rfl)
theorem dX4_addWorld_36 : decode cX4_addWorld 36 = .ok (.aload_n 0, 1) := dq_42 (dq_suf 4 dt07cX4_addWorld_2 rfl rfl)
theorem dX4_addWorld_37 : decode cX4_addWorld 37 = .ok (.getfield 22, 3) := dq_180 (dq_suf 5 dt07cX4_addWorld_2 rfl rfl) rfl
theorem dX4_addWorld_40 : decode cX4_addWorld 40 = .ok (.aload_n 0, 1) := dq_42 (dq_suf 8 dt07cX4_addWorld_2 rfl rfl)
theorem dX4_addWorld_41 : decode cX4_addWorld 41 = .ok (.getfield 41, 3) := dq_180 (dq_suf 9 dt07cX4_addWorld_2 rfl rfl) rfl
theorem dX4_addWorld_44 : decode cX4_addWorld 44 = .ok (.iload 4, 2) := dq_21 (dq_suf 12 dt07cX4_addWorld_2 rfl rfl) rfl
theorem dX4_addWorld_46 : decode cX4_addWorld 46 = .ok (.iastore, 1) := dq_79 (dq_suf 14 dt07cX4_addWorld_2 rfl rfl)
theorem dX4_addWorld_47 : decode cX4_addWorld 47 = .ok (.aload_n 0, 1) := dq_42 (dq_suf 15 dt07cX4_addWorld_2 rfl rfl)
theorem dX4_addWorld_48 : decode cX4_addWorld 48 = .ok (.dup, 1) := dq_89 (dq_suf 0 dt07cX4_addWorld_3 rfl rfl)
theorem dX4_addWorld_49 : decode cX4_addWorld 49 = .ok (.getfield 41, 3) := dq_180 (dq_suf 1 dt07cX4_addWorld_3 rfl rfl) rfl
theorem dX4_addWorld_52 : decode cX4_addWorld 52 = .ok (.iconst 1, 1) := dq_4 (dq_suf 4 dt07cX4_addWorld_3 rfl rfl)
theorem dX4_addWorld_53 : decode cX4_addWorld 53 = .ok (.iadd, 1) := dq_96 (dq_suf 5 dt07cX4_addWorld_3 rfl rfl)
theorem dX4_addWorld_54 : decode cX4_addWorld 54 = .ok (.putfield 41, 3) := dq_181 (dq_suf 6 dt07cX4_addWorld_3 rfl rfl) rfl
theorem dX4_addWorld_57 : decode cX4_addWorld 57 = .ok (.return_, 1) := dq_177 (dq_suf 9 dt07cX4_addWorld_3 rfl rfl)
noncomputable def ds07cX4_closeSight_3 : List UInt8 := 255 :: 221 :: 132 :: 1 :: 1 :: 167 :: 255 :: 205 :: 177 :: []
noncomputable def ds07cX4_closeSight_2 : List UInt8 := 15 :: 28 :: 92 :: 47 :: 42 :: 180 :: 0 :: 15 :: 27 :: 47 :: 129 :: 80 :: 132 :: 2 :: 1 :: 167 :: ds07cX4_closeSight_3
noncomputable def ds07cX4_closeSight_1 : List UInt8 := 41 :: 162 :: 0 :: 33 :: 42 :: 28 :: 27 :: 182 :: 0 :: 52 :: 153 :: 0 :: 18 :: 42 :: 180 :: 0 :: ds07cX4_closeSight_2
noncomputable def ds07cX4_closeSight_0 : List UInt8 := 3 :: 60 :: 27 :: 42 :: 180 :: 0 :: 41 :: 162 :: 0 :: 49 :: 3 :: 61 :: 28 :: 42 :: 180 :: 0 :: ds07cX4_closeSight_1
theorem dt07cX4_closeSight_0 : cX4_closeSight.data.toList.drop 0 = ds07cX4_closeSight_0 := by decide +kernel
theorem dt07cX4_closeSight_1 : cX4_closeSight.data.toList.drop 16 = ds07cX4_closeSight_1 := dq_suf 16 dt07cX4_closeSight_0 rfl rfl
theorem dt07cX4_closeSight_2 : cX4_closeSight.data.toList.drop 32 = ds07cX4_closeSight_2 := dq_suf 16 dt07cX4_closeSight_1 rfl rfl
theorem dt07cX4_closeSight_3 : cX4_closeSight.data.toList.drop 48 = ds07cX4_closeSight_3 := dq_suf 16 dt07cX4_closeSight_2 rfl rfl
theorem dX4_closeSight_0 : decode cX4_closeSight 0 = .ok (.iconst 0, 1) := dq_3 (dq_suf 0 dt07cX4_closeSight_0 rfl rfl)
theorem dX4_closeSight_1 : decode cX4_closeSight 1 = .ok (.istore_n 1, 1) := dq_60 (dq_suf 1 dt07cX4_closeSight_0 rfl rfl)
theorem dX4_closeSight_2 : decode cX4_closeSight 2 = .ok (.iload_n 1, 1) := dq_27 (dq_suf 2 dt07cX4_closeSight_0 rfl rfl)
theorem dX4_closeSight_3 : decode cX4_closeSight 3 = .ok (.aload_n 0, 1) := dq_42 (dq_suf 3 dt07cX4_closeSight_0 rfl rfl)
theorem dX4_closeSight_4 : decode cX4_closeSight 4 = .ok (.getfield 41, 3) := dq_180 (dq_suf 4 dt07cX4_closeSight_0 rfl rfl) rfl
theorem dX4_closeSight_7 : decode cX4_closeSight 7 = .ok (.if_icmp .ge 49, 3) := dq_162 (dq_suf 7 dt07cX4_closeSight_0 rfl rfl) (by decide +kernel)
theorem dX4_closeSight_10 : decode cX4_closeSight 10 = .ok (.iconst 0, 1) := dq_3 (dq_suf 10 dt07cX4_closeSight_0 rfl rfl)
theorem dX4_closeSight_11 : decode cX4_closeSight 11 = .ok (.istore_n 2, 1) := dq_61 (dq_suf 11 dt07cX4_closeSight_0 rfl rfl)
theorem dX4_closeSight_12 : decode cX4_closeSight 12 = .ok (.iload_n 2, 1) := dq_28 (dq_suf 12 dt07cX4_closeSight_0 rfl rfl)
theorem dX4_closeSight_13 : decode cX4_closeSight 13 = .ok (.aload_n 0, 1) := dq_42 (dq_suf 13 dt07cX4_closeSight_0 rfl rfl)
theorem dX4_closeSight_14 : decode cX4_closeSight 14 = .ok (.getfield 41, 3) := dq_180 (dq_suf 14 dt07cX4_closeSight_0 rfl rfl) rfl
theorem dX4_closeSight_17 : decode cX4_closeSight 17 = .ok (.if_icmp .ge 33, 3) := dq_162 (dq_suf 1 dt07cX4_closeSight_1 rfl rfl) (by decide +kernel)
theorem dX4_closeSight_20 : decode cX4_closeSight 20 = .ok (.aload_n 0, 1) := dq_42 (dq_suf 4 dt07cX4_closeSight_1 rfl rfl)
theorem dX4_closeSight_21 : decode cX4_closeSight 21 = .ok (.iload_n 2, 1) := dq_28 (dq_suf 5 dt07cX4_closeSight_1 rfl rfl)
theorem dX4_closeSight_22 : decode cX4_closeSight 22 = .ok (.iload_n 1, 1) := dq_27 (dq_suf 6 dt07cX4_closeSight_1 rfl rfl)
theorem dX4_closeSight_23 : decode cX4_closeSight 23 = .ok (.invokevirtual 52, 3) := dq_182 (dq_suf 7 dt07cX4_closeSight_1 rfl rfl) rfl
theorem dX4_closeSight_26 : decode cX4_closeSight 26 = .ok (.ifCond .eq 18, 3) := dq_153 (dq_suf 10 dt07cX4_closeSight_1 rfl rfl) (by decide +kernel)
theorem dX4_closeSight_29 : decode cX4_closeSight 29 = .ok (.aload_n 0, 1) := dq_42 (dq_suf 13 dt07cX4_closeSight_1 rfl rfl)
theorem dX4_closeSight_30 : decode cX4_closeSight 30 = .ok (.getfield 15, 3) := dq_180 (dq_suf 14 dt07cX4_closeSight_1 rfl rfl) rfl
theorem dX4_closeSight_33 : decode cX4_closeSight 33 = .ok (.iload_n 2, 1) := dq_28 (dq_suf 1 dt07cX4_closeSight_2 rfl rfl)
theorem dX4_closeSight_34 : decode cX4_closeSight 34 = .ok (.dup2, 1) := dq_92 (dq_suf 2 dt07cX4_closeSight_2 rfl rfl)
theorem dX4_closeSight_35 : decode cX4_closeSight 35 = .ok (.laload, 1) := dq_47 (dq_suf 3 dt07cX4_closeSight_2 rfl rfl)
theorem dX4_closeSight_36 : decode cX4_closeSight 36 = .ok (.aload_n 0, 1) := dq_42 (dq_suf 4 dt07cX4_closeSight_2 rfl rfl)
theorem dX4_closeSight_37 : decode cX4_closeSight 37 = .ok (.getfield 15, 3) := dq_180 (dq_suf 5 dt07cX4_closeSight_2 rfl rfl) rfl
theorem dX4_closeSight_40 : decode cX4_closeSight 40 = .ok (.iload_n 1, 1) := dq_27 (dq_suf 8 dt07cX4_closeSight_2 rfl rfl)
theorem dX4_closeSight_41 : decode cX4_closeSight 41 = .ok (.laload, 1) := dq_47 (dq_suf 9 dt07cX4_closeSight_2 rfl rfl)
theorem dX4_closeSight_42 : decode cX4_closeSight 42 = .ok (.lor, 1) := dq_129 (dq_suf 10 dt07cX4_closeSight_2 rfl rfl)
theorem dX4_closeSight_43 : decode cX4_closeSight 43 = .ok (.lastore, 1) := dq_80 (dq_suf 11 dt07cX4_closeSight_2 rfl rfl)
theorem dX4_closeSight_44 : decode cX4_closeSight 44 = .ok (.iinc 2 1, 3) := dq_132 (dq_suf 12 dt07cX4_closeSight_2 rfl rfl) rfl (by decide +kernel)
theorem dX4_closeSight_47 : decode cX4_closeSight 47 = .ok (.goto (-35), 3) := dq_167 (dq_suf 15 dt07cX4_closeSight_2 rfl rfl) (by decide +kernel)
theorem dX4_closeSight_50 : decode cX4_closeSight 50 = .ok (.iinc 1 1, 3) := dq_132 (dq_suf 2 dt07cX4_closeSight_3 rfl rfl) rfl (by decide +kernel)
theorem dX4_closeSight_53 : decode cX4_closeSight 53 = .ok (.goto (-51), 3) := dq_167 (dq_suf 5 dt07cX4_closeSight_3 rfl rfl) (by decide +kernel)
theorem dX4_closeSight_56 : decode cX4_closeSight 56 = .ok (.return_, 1) := dq_177 (dq_suf 8 dt07cX4_closeSight_3 rfl rfl)
noncomputable def ds07cX4_isSeen_2 : List UInt8 := 167 :: 0 :: 4 :: 3 :: 172 :: []
noncomputable def ds07cX4_isSeen_1 : List UInt8 := 42 :: 180 :: 0 :: 15 :: 27 :: 47 :: 28 :: 125 :: 10 :: 127 :: 9 :: 148 :: 153 :: 0 :: 7 :: 4 :: ds07cX4_isSeen_2
noncomputable def ds07cX4_isSeen_0 : List UInt8 := 42 :: 27 :: 182 :: 0 :: 56 :: 153 :: 0 :: 30 :: 42 :: 28 :: 182 :: 0 :: 56 :: 153 :: 0 :: 22 :: ds07cX4_isSeen_1
theorem dt07cX4_isSeen_0 : cX4_isSeen.data.toList.drop 0 = ds07cX4_isSeen_0 := by decide +kernel
theorem dt07cX4_isSeen_1 : cX4_isSeen.data.toList.drop 16 = ds07cX4_isSeen_1 := dq_suf 16 dt07cX4_isSeen_0 rfl rfl
theorem dt07cX4_isSeen_2 : cX4_isSeen.data.toList.drop 32 = ds07cX4_isSeen_2 := dq_suf 16 dt07cX4_isSeen_1 rfl rfl
theorem dX4_isSeen_0 : decode cX4_isSeen 0 = .ok (.aload_n 0, 1) := dq_42 (dq_suf 0 dt07cX4_isSeen_0 rfl rfl)
theorem dX4_isSeen_1 : decode cX4_isSeen 1 = .ok (.iload_n 1, 1) := dq_27 (dq_suf 1 dt07cX4_isSeen_0 rfl rfl)
theorem dX4_isSeen_2 : decode cX4_isSeen 2 = .ok (.invokevirtual 56, 3) := dq_182 (dq_suf 2 dt07cX4_isSeen_0 rfl rfl) rfl
theorem dX4_isSeen_5 : decode cX4_isSeen 5 = .ok (.ifCond .eq 30, 3) := dq_153 (dq_suf 5 dt07cX4_isSeen_0 rfl rfl) (by decide +kernel)
theorem dX4_isSeen_8 : decode cX4_isSeen 8 = .ok (.aload_n 0, 1) := dq_42 (dq_suf 8 dt07cX4_isSeen_0 rfl rfl)
theorem dX4_isSeen_9 : decode cX4_isSeen 9 = .ok (.iload_n 2, 1) := dq_28 (dq_suf 9 dt07cX4_isSeen_0 rfl rfl)
theorem dX4_isSeen_10 : decode cX4_isSeen 10 = .ok (.invokevirtual 56, 3) := dq_182 (dq_suf 10 dt07cX4_isSeen_0 rfl rfl) rfl
theorem dX4_isSeen_13 : decode cX4_isSeen 13 = .ok (.ifCond .eq 22, 3) := dq_153 (dq_suf 13 dt07cX4_isSeen_0 rfl rfl) (by decide +kernel)
theorem dX4_isSeen_16 : decode cX4_isSeen 16 = .ok (.aload_n 0, 1) := dq_42 (dq_suf 0 dt07cX4_isSeen_1 rfl rfl)
theorem dX4_isSeen_17 : decode cX4_isSeen 17 = .ok (.getfield 15, 3) := dq_180 (dq_suf 1 dt07cX4_isSeen_1 rfl rfl) rfl
theorem dX4_isSeen_20 : decode cX4_isSeen 20 = .ok (.iload_n 1, 1) := dq_27 (dq_suf 4 dt07cX4_isSeen_1 rfl rfl)
theorem dX4_isSeen_21 : decode cX4_isSeen 21 = .ok (.laload, 1) := dq_47 (dq_suf 5 dt07cX4_isSeen_1 rfl rfl)
theorem dX4_isSeen_22 : decode cX4_isSeen 22 = .ok (.iload_n 2, 1) := dq_28 (dq_suf 6 dt07cX4_isSeen_1 rfl rfl)
theorem dX4_isSeen_23 : decode cX4_isSeen 23 = .ok (.lushr, 1) := dq_125 (dq_suf 7 dt07cX4_isSeen_1 rfl rfl)
theorem dX4_isSeen_24 : decode cX4_isSeen 24 = .ok (.lconst 1, 1) := dq_10 (dq_suf 8 dt07cX4_isSeen_1 rfl rfl)
theorem dX4_isSeen_25 : decode cX4_isSeen 25 = .ok (.land, 1) := dq_127 (dq_suf 9 dt07cX4_isSeen_1 rfl rfl)
theorem dX4_isSeen_26 : decode cX4_isSeen 26 = .ok (.lconst 0, 1) := dq_9 (dq_suf 10 dt07cX4_isSeen_1 rfl rfl)
theorem dX4_isSeen_27 : decode cX4_isSeen 27 = .ok (.lcmp, 1) := dq_148 (dq_suf 11 dt07cX4_isSeen_1 rfl rfl)
theorem dX4_isSeen_28 : decode cX4_isSeen 28 = .ok (.ifCond .eq 7, 3) := dq_153 (dq_suf 12 dt07cX4_isSeen_1 rfl rfl) (by decide +kernel)
theorem dX4_isSeen_31 : decode cX4_isSeen 31 = .ok (.iconst 1, 1) := dq_4 (dq_suf 15 dt07cX4_isSeen_1 rfl rfl)
theorem dX4_isSeen_32 : decode cX4_isSeen 32 = .ok (.goto 4, 3) := dq_167 (dq_suf 0 dt07cX4_isSeen_2 rfl rfl) (by decide +kernel)
theorem dX4_isSeen_35 : decode cX4_isSeen 35 = .ok (.iconst 0, 1) := dq_3 (dq_suf 3 dt07cX4_isSeen_2 rfl rfl)
theorem dX4_isSeen_36 : decode cX4_isSeen 36 = .ok (.ireturn, 1) := dq_172 (dq_suf 4 dt07cX4_isSeen_2 rfl rfl)
noncomputable def ds07cX4_seenFrom_1 : List UInt8 := 60 :: 167 :: 0 :: 4 :: 2 :: 172 :: []
noncomputable def ds07cX4_seenFrom_0 : List UInt8 := 42 :: 27 :: 182 :: 0 :: 56 :: 153 :: 0 :: 15 :: 42 :: 180 :: 0 :: 15 :: 27 :: 47 :: 184 :: 0 :: ds07cX4_seenFrom_1
theorem dt07cX4_seenFrom_0 : cX4_seenFrom.data.toList.drop 0 = ds07cX4_seenFrom_0 := by decide +kernel
theorem dt07cX4_seenFrom_1 : cX4_seenFrom.data.toList.drop 16 = ds07cX4_seenFrom_1 := dq_suf 16 dt07cX4_seenFrom_0 rfl rfl
theorem dX4_seenFrom_0 : decode cX4_seenFrom 0 = .ok (.aload_n 0, 1) := dq_42 (dq_suf 0 dt07cX4_seenFrom_0 rfl rfl)
theorem dX4_seenFrom_1 : decode cX4_seenFrom 1 = .ok (.iload_n 1, 1) := dq_27 (dq_suf 1 dt07cX4_seenFrom_0 rfl rfl)
theorem dX4_seenFrom_2 : decode cX4_seenFrom 2 = .ok (.invokevirtual 56, 3) := dq_182 (dq_suf 2 dt07cX4_seenFrom_0 rfl rfl) rfl
theorem dX4_seenFrom_5 : decode cX4_seenFrom 5 = .ok (.ifCond .eq 15, 3) := dq_153 (dq_suf 5 dt07cX4_seenFrom_0 rfl rfl) (by decide +kernel)
theorem dX4_seenFrom_8 : decode cX4_seenFrom 8 = .ok (.aload_n 0, 1) := dq_42 (dq_suf 8 dt07cX4_seenFrom_0 rfl rfl)
theorem dX4_seenFrom_9 : decode cX4_seenFrom 9 = .ok (.getfield 15, 3) := dq_180 (dq_suf 9 dt07cX4_seenFrom_0 rfl rfl) rfl
theorem dX4_seenFrom_12 : decode cX4_seenFrom 12 = .ok (.iload_n 1, 1) := dq_27 (dq_suf 12 dt07cX4_seenFrom_0 rfl rfl)
theorem dX4_seenFrom_13 : decode cX4_seenFrom 13 = .ok (.laload, 1) := dq_47 (dq_suf 13 dt07cX4_seenFrom_0 rfl rfl)
theorem dX4_seenFrom_14 : decode cX4_seenFrom 14 = .ok (.invokestatic 60, 3) := dq_184 (dq_suf 14 dt07cX4_seenFrom_0 rfl rfl) rfl
theorem dX4_seenFrom_17 : decode cX4_seenFrom 17 = .ok (.goto 4, 3) := dq_167 (dq_suf 1 dt07cX4_seenFrom_1 rfl rfl) (by decide +kernel)
theorem dX4_seenFrom_20 : decode cX4_seenFrom 20 = .ok (.iconst (-1), 1) := dq_2 (dq_suf 4 dt07cX4_seenFrom_1 rfl rfl)
theorem dX4_seenFrom_21 : decode cX4_seenFrom 21 = .ok (.ireturn, 1) := dq_172 (dq_suf 5 dt07cX4_seenFrom_1 rfl rfl)
noncomputable def ds07cX4_setSizeOf_1 : List UInt8 := 180 :: 0 :: 22 :: 27 :: 46 :: 167 :: 0 :: 4 :: 2 :: 172 :: []
noncomputable def ds07cX4_setSizeOf_0 : List UInt8 := 42 :: 27 :: 182 :: 0 :: 56 :: 153 :: 0 :: 19 :: 42 :: 180 :: 0 :: 48 :: 154 :: 0 :: 12 :: 42 :: ds07cX4_setSizeOf_1
theorem dt07cX4_setSizeOf_0 : cX4_setSizeOf.data.toList.drop 0 = ds07cX4_setSizeOf_0 := by decide +kernel
theorem dt07cX4_setSizeOf_1 : cX4_setSizeOf.data.toList.drop 16 = ds07cX4_setSizeOf_1 := dq_suf 16 dt07cX4_setSizeOf_0 rfl rfl
theorem dX4_setSizeOf_0 : decode cX4_setSizeOf 0 = .ok (.aload_n 0, 1) := dq_42 (dq_suf 0 dt07cX4_setSizeOf_0 rfl rfl)
theorem dX4_setSizeOf_1 : decode cX4_setSizeOf 1 = .ok (.iload_n 1, 1) := dq_27 (dq_suf 1 dt07cX4_setSizeOf_0 rfl rfl)
theorem dX4_setSizeOf_2 : decode cX4_setSizeOf 2 = .ok (.invokevirtual 56, 3) := dq_182 (dq_suf 2 dt07cX4_setSizeOf_0 rfl rfl) rfl
theorem dX4_setSizeOf_5 : decode cX4_setSizeOf 5 = .ok (.ifCond .eq 19, 3) := dq_153 (dq_suf 5 dt07cX4_setSizeOf_0 rfl rfl) (by decide +kernel)
theorem dX4_setSizeOf_8 : decode cX4_setSizeOf 8 = .ok (.aload_n 0, 1) := dq_42 (dq_suf 8 dt07cX4_setSizeOf_0 rfl rfl)
theorem dX4_setSizeOf_9 : decode cX4_setSizeOf 9 = .ok (.getfield 48, 3) := dq_180 (dq_suf 9 dt07cX4_setSizeOf_0 rfl rfl) rfl
theorem dX4_setSizeOf_12 : decode cX4_setSizeOf 12 = .ok (.ifCond .ne 12, 3) := dq_154 (dq_suf 12 dt07cX4_setSizeOf_0 rfl rfl) (by decide +kernel)
theorem dX4_setSizeOf_15 : decode cX4_setSizeOf 15 = .ok (.aload_n 0, 1) := dq_42 (dq_suf 15 dt07cX4_setSizeOf_0 rfl rfl)
theorem dX4_setSizeOf_16 : decode cX4_setSizeOf 16 = .ok (.getfield 22, 3) := dq_180 (dq_suf 0 dt07cX4_setSizeOf_1 rfl rfl) rfl
theorem dX4_setSizeOf_19 : decode cX4_setSizeOf 19 = .ok (.iload_n 1, 1) := dq_27 (dq_suf 3 dt07cX4_setSizeOf_1 rfl rfl)
theorem dX4_setSizeOf_20 : decode cX4_setSizeOf 20 = .ok (.iaload, 1) := dq_46 (dq_suf 4 dt07cX4_setSizeOf_1 rfl rfl)
theorem dX4_setSizeOf_21 : decode cX4_setSizeOf 21 = .ok (.goto 4, 3) := dq_167 (dq_suf 5 dt07cX4_setSizeOf_1 rfl rfl) (by decide +kernel)
theorem dX4_setSizeOf_24 : decode cX4_setSizeOf 24 = .ok (.iconst (-1), 1) := dq_2 (dq_suf 8 dt07cX4_setSizeOf_1 rfl rfl)
theorem dX4_setSizeOf_25 : decode cX4_setSizeOf 25 = .ok (.ireturn, 1) := dq_172 (dq_suf 9 dt07cX4_setSizeOf_1 rfl rfl)
noncomputable def ds07cX4_clusterOf_2 : List UInt8 := 96 :: 61 :: 132 :: 3 :: 1 :: 167 :: 255 :: 223 :: 28 :: 172 :: []
noncomputable def ds07cX4_clusterOf_1 : List UInt8 := 0 :: 25 :: 28 :: 42 :: 29 :: 182 :: 0 :: 69 :: 153 :: 0 :: 7 :: 4 :: 167 :: 0 :: 4 :: 3 :: ds07cX4_clusterOf_2
noncomputable def ds07cX4_clusterOf_0 : List UInt8 := 3 :: 61 :: 3 :: 62 :: 29 :: 27 :: 162 :: 0 :: 34 :: 42 :: 29 :: 27 :: 182 :: 0 :: 66 :: 154 :: ds07cX4_clusterOf_1
theorem dt07cX4_clusterOf_0 : cX4_clusterOf.data.toList.drop 0 = ds07cX4_clusterOf_0 := by decide +kernel
theorem dt07cX4_clusterOf_1 : cX4_clusterOf.data.toList.drop 16 = ds07cX4_clusterOf_1 := dq_suf 16 dt07cX4_clusterOf_0 rfl rfl
theorem dt07cX4_clusterOf_2 : cX4_clusterOf.data.toList.drop 32 = ds07cX4_clusterOf_2 := dq_suf 16 dt07cX4_clusterOf_1 rfl rfl
theorem dX4_clusterOf_0 : decode cX4_clusterOf 0 = .ok (.iconst 0, 1) := dq_3 (dq_suf 0 dt07cX4_clusterOf_0 rfl rfl)
theorem dX4_clusterOf_1 : decode cX4_clusterOf 1 = .ok (.istore_n 2, 1) := dq_61 (dq_suf 1 dt07cX4_clusterOf_0 rfl rfl)
theorem dX4_clusterOf_2 : decode cX4_clusterOf 2 = .ok (.iconst 0, 1) := dq_3 (dq_suf 2 dt07cX4_clusterOf_0 rfl rfl)
theorem dX4_clusterOf_3 : decode cX4_clusterOf 3 = .ok (.istore_n 3, 1) := dq_62 (dq_suf 3 dt07cX4_clusterOf_0 rfl rfl)
theorem dX4_clusterOf_4 : decode cX4_clusterOf 4 = .ok (.iload_n 3, 1) := dq_29 (dq_suf 4 dt07cX4_clusterOf_0 rfl rfl)
theorem dX4_clusterOf_5 : decode cX4_clusterOf 5 = .ok (.iload_n 1, 1) := dq_27 (dq_suf 5 dt07cX4_clusterOf_0 rfl rfl)
theorem dX4_clusterOf_6 : decode cX4_clusterOf 6 = .ok (.if_icmp .ge 34, 3) := dq_162 (dq_suf 6 dt07cX4_clusterOf_0 rfl rfl) (by decide +kernel)
theorem dX4_clusterOf_9 : decode cX4_clusterOf 9 = .ok (.aload_n 0, 1) := dq_42 (dq_suf 9 dt07cX4_clusterOf_0 rfl rfl)
theorem dX4_clusterOf_10 : decode cX4_clusterOf 10 = .ok (.iload_n 3, 1) := dq_29 (dq_suf 10 dt07cX4_clusterOf_0 rfl rfl)
theorem dX4_clusterOf_11 : decode cX4_clusterOf 11 = .ok (.iload_n 1, 1) := dq_27 (dq_suf 11 dt07cX4_clusterOf_0 rfl rfl)
theorem dX4_clusterOf_12 : decode cX4_clusterOf 12 = .ok (.invokevirtual 66, 3) := dq_182 (dq_suf 12 dt07cX4_clusterOf_0 rfl rfl) rfl
theorem dX4_clusterOf_15 : decode cX4_clusterOf 15 = .ok (.ifCond .ne 25, 3) := dq_154 (dq_suf 15 dt07cX4_clusterOf_0 rfl rfl) (by decide +kernel)
theorem dX4_clusterOf_18 : decode cX4_clusterOf 18 = .ok (.iload_n 2, 1) := dq_28 (dq_suf 2 dt07cX4_clusterOf_1 rfl rfl)
theorem dX4_clusterOf_19 : decode cX4_clusterOf 19 = .ok (.aload_n 0, 1) := dq_42 (dq_suf 3 dt07cX4_clusterOf_1 rfl rfl)
theorem dX4_clusterOf_20 : decode cX4_clusterOf 20 = .ok (.iload_n 3, 1) := dq_29 (dq_suf 4 dt07cX4_clusterOf_1 rfl rfl)
theorem dX4_clusterOf_21 : decode cX4_clusterOf 21 = .ok (.invokevirtual 69, 3) := dq_182 (dq_suf 5 dt07cX4_clusterOf_1 rfl rfl) rfl
theorem dX4_clusterOf_24 : decode cX4_clusterOf 24 = .ok (.ifCond .eq 7, 3) := dq_153 (dq_suf 8 dt07cX4_clusterOf_1 rfl rfl) (by decide +kernel)
theorem dX4_clusterOf_27 : decode cX4_clusterOf 27 = .ok (.iconst 1, 1) := dq_4 (dq_suf 11 dt07cX4_clusterOf_1 rfl rfl)
theorem dX4_clusterOf_28 : decode cX4_clusterOf 28 = .ok (.goto 4, 3) := dq_167 (dq_suf 12 dt07cX4_clusterOf_1 rfl rfl) (by decide +kernel)
theorem dX4_clusterOf_31 : decode cX4_clusterOf 31 = .ok (.iconst 0, 1) := dq_3 (dq_suf 15 dt07cX4_clusterOf_1 rfl rfl)
theorem dX4_clusterOf_32 : decode cX4_clusterOf 32 = .ok (.iadd, 1) := dq_96 (dq_suf 0 dt07cX4_clusterOf_2 rfl rfl)
theorem dX4_clusterOf_33 : decode cX4_clusterOf 33 = .ok (.istore_n 2, 1) := dq_61 (dq_suf 1 dt07cX4_clusterOf_2 rfl rfl)
theorem dX4_clusterOf_34 : decode cX4_clusterOf 34 = .ok (.iinc 3 1, 3) := dq_132 (dq_suf 2 dt07cX4_clusterOf_2 rfl rfl) rfl (by decide +kernel)
theorem dX4_clusterOf_37 : decode cX4_clusterOf 37 = .ok (.goto (-33), 3) := dq_167 (dq_suf 5 dt07cX4_clusterOf_2 rfl rfl) (by decide +kernel)
theorem dX4_clusterOf_40 : decode cX4_clusterOf 40 = .ok (.iload_n 2, 1) := dq_28 (dq_suf 8 dt07cX4_clusterOf_2 rfl rfl)
theorem dX4_clusterOf_41 : decode cX4_clusterOf 41 = .ok (.ireturn, 1) := dq_172 (dq_suf 9 dt07cX4_clusterOf_2 rfl rfl)
noncomputable def ds07cX4_clusterSizeOf_2 : List UInt8 := 167 :: 255 :: 228 :: 28 :: 172 :: []
noncomputable def ds07cX4_clusterSizeOf_1 : List UInt8 := 182 :: 0 :: 66 :: 153 :: 0 :: 7 :: 4 :: 167 :: 0 :: 4 :: 3 :: 96 :: 61 :: 132 :: 3 :: 1 :: ds07cX4_clusterSizeOf_2
noncomputable def ds07cX4_clusterSizeOf_0 : List UInt8 := 3 :: 61 :: 3 :: 62 :: 29 :: 42 :: 180 :: 0 :: 41 :: 162 :: 0 :: 26 :: 28 :: 42 :: 29 :: 27 :: ds07cX4_clusterSizeOf_1
theorem dt07cX4_clusterSizeOf_0 : cX4_clusterSizeOf.data.toList.drop 0 = ds07cX4_clusterSizeOf_0 := by decide +kernel
theorem dt07cX4_clusterSizeOf_1 : cX4_clusterSizeOf.data.toList.drop 16 = ds07cX4_clusterSizeOf_1 := dq_suf 16 dt07cX4_clusterSizeOf_0 rfl rfl
theorem dt07cX4_clusterSizeOf_2 : cX4_clusterSizeOf.data.toList.drop 32 = ds07cX4_clusterSizeOf_2 := dq_suf 16 dt07cX4_clusterSizeOf_1 rfl rfl
theorem dX4_clusterSizeOf_0 : decode cX4_clusterSizeOf 0 = .ok (.iconst 0, 1) := dq_3 (dq_suf 0 dt07cX4_clusterSizeOf_0 rfl rfl)
theorem dX4_clusterSizeOf_1 : decode cX4_clusterSizeOf 1 = .ok (.istore_n 2, 1) := dq_61 (dq_suf 1 dt07cX4_clusterSizeOf_0 rfl rfl)
theorem dX4_clusterSizeOf_2 : decode cX4_clusterSizeOf 2 = .ok (.iconst 0, 1) := dq_3 (dq_suf 2 dt07cX4_clusterSizeOf_0 rfl rfl)
theorem dX4_clusterSizeOf_3 : decode cX4_clusterSizeOf 3 = .ok (.istore_n 3, 1) := dq_62 (dq_suf 3 dt07cX4_clusterSizeOf_0 rfl rfl)
theorem dX4_clusterSizeOf_4 : decode cX4_clusterSizeOf 4 = .ok (.iload_n 3, 1) := dq_29 (dq_suf 4 dt07cX4_clusterSizeOf_0 rfl rfl)
theorem dX4_clusterSizeOf_5 : decode cX4_clusterSizeOf 5 = .ok (.aload_n 0, 1) := dq_42 (dq_suf 5 dt07cX4_clusterSizeOf_0 rfl rfl)
theorem dX4_clusterSizeOf_6 : decode cX4_clusterSizeOf 6 = .ok (.getfield 41, 3) := dq_180 (dq_suf 6 dt07cX4_clusterSizeOf_0 rfl rfl) rfl
theorem dX4_clusterSizeOf_9 : decode cX4_clusterSizeOf 9 = .ok (.if_icmp .ge 26, 3) := dq_162 (dq_suf 9 dt07cX4_clusterSizeOf_0 rfl rfl) (by decide +kernel)
theorem dX4_clusterSizeOf_12 : decode cX4_clusterSizeOf 12 = .ok (.iload_n 2, 1) := dq_28 (dq_suf 12 dt07cX4_clusterSizeOf_0 rfl rfl)
theorem dX4_clusterSizeOf_13 : decode cX4_clusterSizeOf 13 = .ok (.aload_n 0, 1) := dq_42 (dq_suf 13 dt07cX4_clusterSizeOf_0 rfl rfl)
theorem dX4_clusterSizeOf_14 : decode cX4_clusterSizeOf 14 = .ok (.iload_n 3, 1) := dq_29 (dq_suf 14 dt07cX4_clusterSizeOf_0 rfl rfl)
theorem dX4_clusterSizeOf_15 : decode cX4_clusterSizeOf 15 = .ok (.iload_n 1, 1) := dq_27 (dq_suf 15 dt07cX4_clusterSizeOf_0 rfl rfl)
theorem dX4_clusterSizeOf_16 : decode cX4_clusterSizeOf 16 = .ok (.invokevirtual 66, 3) := dq_182 (dq_suf 0 dt07cX4_clusterSizeOf_1 rfl rfl) rfl
theorem dX4_clusterSizeOf_19 : decode cX4_clusterSizeOf 19 = .ok (.ifCond .eq 7, 3) := dq_153 (dq_suf 3 dt07cX4_clusterSizeOf_1 rfl rfl) (by decide +kernel)
theorem dX4_clusterSizeOf_22 : decode cX4_clusterSizeOf 22 = .ok (.iconst 1, 1) := dq_4 (dq_suf 6 dt07cX4_clusterSizeOf_1 rfl rfl)
theorem dX4_clusterSizeOf_23 : decode cX4_clusterSizeOf 23 = .ok (.goto 4, 3) := dq_167 (dq_suf 7 dt07cX4_clusterSizeOf_1 rfl rfl) (by decide +kernel)
theorem dX4_clusterSizeOf_26 : decode cX4_clusterSizeOf 26 = .ok (.iconst 0, 1) := dq_3 (dq_suf 10 dt07cX4_clusterSizeOf_1 rfl rfl)
theorem dX4_clusterSizeOf_27 : decode cX4_clusterSizeOf 27 = .ok (.iadd, 1) := dq_96 (dq_suf 11 dt07cX4_clusterSizeOf_1 rfl rfl)
theorem dX4_clusterSizeOf_28 : decode cX4_clusterSizeOf 28 = .ok (.istore_n 2, 1) := dq_61 (dq_suf 12 dt07cX4_clusterSizeOf_1 rfl rfl)
theorem dX4_clusterSizeOf_29 : decode cX4_clusterSizeOf 29 = .ok (.iinc 3 1, 3) := dq_132 (dq_suf 13 dt07cX4_clusterSizeOf_1 rfl rfl) rfl (by decide +kernel)
theorem dX4_clusterSizeOf_32 : decode cX4_clusterSizeOf 32 = .ok (.goto (-28), 3) := dq_167 (dq_suf 0 dt07cX4_clusterSizeOf_2 rfl rfl) (by decide +kernel)
theorem dX4_clusterSizeOf_35 : decode cX4_clusterSizeOf 35 = .ok (.iload_n 2, 1) := dq_28 (dq_suf 3 dt07cX4_clusterSizeOf_2 rfl rfl)
theorem dX4_clusterSizeOf_36 : decode cX4_clusterSizeOf 36 = .ok (.ireturn, 1) := dq_172 (dq_suf 4 dt07cX4_clusterSizeOf_2 rfl rfl)
noncomputable def ds07cX4_isTrueAt_4 : List UInt8 := 167 :: 0 :: 4 :: 3 :: 172 :: []
noncomputable def ds07cX4_isTrueAt_3 : List UInt8 := 21 :: 42 :: 28 :: 182 :: 0 :: 76 :: 27 :: 125 :: 10 :: 127 :: 9 :: 148 :: 153 :: 0 :: 7 :: 4 :: ds07cX4_isTrueAt_4
noncomputable def ds07cX4_isTrueAt_2 : List UInt8 := 181 :: 0 :: 45 :: 132 :: 3 :: 1 :: 167 :: 255 :: 223 :: 42 :: 27 :: 182 :: 0 :: 56 :: 153 :: 0 :: ds07cX4_isTrueAt_3
noncomputable def ds07cX4_isTrueAt_1 : List UInt8 := 27 :: 42 :: 180 :: 0 :: 34 :: 29 :: 42 :: 29 :: 182 :: 0 :: 72 :: 80 :: 42 :: 29 :: 4 :: 96 :: ds07cX4_isTrueAt_2
noncomputable def ds07cX4_isTrueAt_0 : List UInt8 := 42 :: 180 :: 0 :: 45 :: 62 :: 29 :: 28 :: 163 :: 0 :: 34 :: 29 :: 17 :: 1 :: 44 :: 162 :: 0 :: ds07cX4_isTrueAt_1
theorem dt07cX4_isTrueAt_0 : cX4_isTrueAt.data.toList.drop 0 = ds07cX4_isTrueAt_0 := by decide +kernel
theorem dt07cX4_isTrueAt_1 : cX4_isTrueAt.data.toList.drop 16 = ds07cX4_isTrueAt_1 := dq_suf 16 dt07cX4_isTrueAt_0 rfl rfl
theorem dt07cX4_isTrueAt_2 : cX4_isTrueAt.data.toList.drop 32 = ds07cX4_isTrueAt_2 := dq_suf 16 dt07cX4_isTrueAt_1 rfl rfl
theorem dt07cX4_isTrueAt_3 : cX4_isTrueAt.data.toList.drop 48 = ds07cX4_isTrueAt_3 := dq_suf 16 dt07cX4_isTrueAt_2 rfl rfl
theorem dt07cX4_isTrueAt_4 : cX4_isTrueAt.data.toList.drop 64 = ds07cX4_isTrueAt_4 := dq_suf 16 dt07cX4_isTrueAt_3 rfl rfl
theorem dX4_isTrueAt_0 : decode cX4_isTrueAt 0 = .ok (.aload_n 0, 1) := dq_42 (dq_suf 0 dt07cX4_isTrueAt_0 rfl rfl)
theorem dX4_isTrueAt_1 : decode cX4_isTrueAt 1 = .ok (.getfield 45, 3) := dq_180 (dq_suf 1 dt07cX4_isTrueAt_0 rfl rfl) rfl
theorem dX4_isTrueAt_4 : decode cX4_isTrueAt 4 = .ok (.istore_n 3, 1) := dq_62 (dq_suf 4 dt07cX4_isTrueAt_0 rfl rfl)
theorem dX4_isTrueAt_5 : decode cX4_isTrueAt 5 = .ok (.iload_n 3, 1) := dq_29 (dq_suf 5 dt07cX4_isTrueAt_0 rfl rfl)
theorem dX4_isTrueAt_6 : decode cX4_isTrueAt 6 = .ok (.iload_n 2, 1) := dq_28 (dq_suf 6 dt07cX4_isTrueAt_0 rfl rfl)
theorem dX4_isTrueAt_7 : decode cX4_isTrueAt 7 = .ok (.if_icmp .gt 34, 3) := dq_163 (dq_suf 7 dt07cX4_isTrueAt_0 rfl rfl) (by decide +kernel)
theorem dX4_isTrueAt_10 : decode cX4_isTrueAt 10 = .ok (.iload_n 3, 1) := dq_29 (dq_suf 10 dt07cX4_isTrueAt_0 rfl rfl)
theorem dX4_isTrueAt_11 : decode cX4_isTrueAt 11 = .ok (.sipush 300, 3) := dq_17 (dq_suf 11 dt07cX4_isTrueAt_0 rfl rfl) (by decide +kernel)
theorem dX4_isTrueAt_14 : decode cX4_isTrueAt 14 = .ok (.if_icmp .ge 27, 3) := dq_162 (dq_suf 14 dt07cX4_isTrueAt_0 rfl rfl) (by decide +kernel)
theorem dX4_isTrueAt_17 : decode cX4_isTrueAt 17 = .ok (.aload_n 0, 1) := dq_42 (dq_suf 1 dt07cX4_isTrueAt_1 rfl rfl)
theorem dX4_isTrueAt_18 : decode cX4_isTrueAt 18 = .ok (.getfield 34, 3) := dq_180 (dq_suf 2 dt07cX4_isTrueAt_1 rfl rfl) rfl
theorem dX4_isTrueAt_21 : decode cX4_isTrueAt 21 = .ok (.iload_n 3, 1) := dq_29 (dq_suf 5 dt07cX4_isTrueAt_1 rfl rfl)
theorem dX4_isTrueAt_22 : decode cX4_isTrueAt 22 = .ok (.aload_n 0, 1) := dq_42 (dq_suf 6 dt07cX4_isTrueAt_1 rfl rfl)
theorem dX4_isTrueAt_23 : decode cX4_isTrueAt 23 = .ok (.iload_n 3, 1) := dq_29 (dq_suf 7 dt07cX4_isTrueAt_1 rfl rfl)
theorem dX4_isTrueAt_24 : decode cX4_isTrueAt 24 = .ok (.invokevirtual 72, 3) := dq_182 (dq_suf 8 dt07cX4_isTrueAt_1 rfl rfl) rfl
theorem dX4_isTrueAt_27 : decode cX4_isTrueAt 27 = .ok (.lastore, 1) := dq_80 (dq_suf 11 dt07cX4_isTrueAt_1 rfl rfl)
theorem dX4_isTrueAt_28 : decode cX4_isTrueAt 28 = .ok (.aload_n 0, 1) := dq_42 (dq_suf 12 dt07cX4_isTrueAt_1 rfl rfl)
theorem dX4_isTrueAt_29 : decode cX4_isTrueAt 29 = .ok (.iload_n 3, 1) := dq_29 (dq_suf 13 dt07cX4_isTrueAt_1 rfl rfl)
theorem dX4_isTrueAt_30 : decode cX4_isTrueAt 30 = .ok (.iconst 1, 1) := dq_4 (dq_suf 14 dt07cX4_isTrueAt_1 rfl rfl)
theorem dX4_isTrueAt_31 : decode cX4_isTrueAt 31 = .ok (.iadd, 1) := dq_96 (dq_suf 15 dt07cX4_isTrueAt_1 rfl rfl)
theorem dX4_isTrueAt_32 : decode cX4_isTrueAt 32 = .ok (.putfield 45, 3) := dq_181 (dq_suf 0 dt07cX4_isTrueAt_2 rfl rfl) rfl
theorem dX4_isTrueAt_35 : decode cX4_isTrueAt 35 = .ok (.iinc 3 1, 3) := dq_132 (dq_suf 3 dt07cX4_isTrueAt_2 rfl rfl) rfl (by decide +kernel)
theorem dX4_isTrueAt_38 : decode cX4_isTrueAt 38 = .ok (.goto (-33), 3) := dq_167 (dq_suf 6 dt07cX4_isTrueAt_2 rfl rfl) (by decide +kernel)
theorem dX4_isTrueAt_41 : decode cX4_isTrueAt 41 = .ok (.aload_n 0, 1) := dq_42 (dq_suf 9 dt07cX4_isTrueAt_2 rfl rfl)
theorem dX4_isTrueAt_42 : decode cX4_isTrueAt 42 = .ok (.iload_n 1, 1) := dq_27 (dq_suf 10 dt07cX4_isTrueAt_2 rfl rfl)
theorem dX4_isTrueAt_43 : decode cX4_isTrueAt 43 = .ok (.invokevirtual 56, 3) := dq_182 (dq_suf 11 dt07cX4_isTrueAt_2 rfl rfl) rfl
theorem dX4_isTrueAt_46 : decode cX4_isTrueAt 46 = .ok (.ifCond .eq 21, 3) := dq_153 (dq_suf 14 dt07cX4_isTrueAt_2 rfl rfl) (by decide +kernel)
theorem dX4_isTrueAt_49 : decode cX4_isTrueAt 49 = .ok (.aload_n 0, 1) := dq_42 (dq_suf 1 dt07cX4_isTrueAt_3 rfl rfl)
theorem dX4_isTrueAt_50 : decode cX4_isTrueAt 50 = .ok (.iload_n 2, 1) := dq_28 (dq_suf 2 dt07cX4_isTrueAt_3 rfl rfl)
theorem dX4_isTrueAt_51 : decode cX4_isTrueAt 51 = .ok (.invokevirtual 76, 3) := dq_182 (dq_suf 3 dt07cX4_isTrueAt_3 rfl rfl) rfl
theorem dX4_isTrueAt_54 : decode cX4_isTrueAt 54 = .ok (.iload_n 1, 1) := dq_27 (dq_suf 6 dt07cX4_isTrueAt_3 rfl rfl)
theorem dX4_isTrueAt_55 : decode cX4_isTrueAt 55 = .ok (.lushr, 1) := dq_125 (dq_suf 7 dt07cX4_isTrueAt_3 rfl rfl)
theorem dX4_isTrueAt_56 : decode cX4_isTrueAt 56 = .ok (.lconst 1, 1) := dq_10 (dq_suf 8 dt07cX4_isTrueAt_3 rfl rfl)
theorem dX4_isTrueAt_57 : decode cX4_isTrueAt 57 = .ok (.land, 1) := dq_127 (dq_suf 9 dt07cX4_isTrueAt_3 rfl rfl)
theorem dX4_isTrueAt_58 : decode cX4_isTrueAt 58 = .ok (.lconst 0, 1) := dq_9 (dq_suf 10 dt07cX4_isTrueAt_3 rfl rfl)
theorem dX4_isTrueAt_59 : decode cX4_isTrueAt 59 = .ok (.lcmp, 1) := dq_148 (dq_suf 11 dt07cX4_isTrueAt_3 rfl rfl)
theorem dX4_isTrueAt_60 : decode cX4_isTrueAt 60 = .ok (.ifCond .eq 7, 3) := dq_153 (dq_suf 12 dt07cX4_isTrueAt_3 rfl rfl) (by decide +kernel)
theorem dX4_isTrueAt_63 : decode cX4_isTrueAt 63 = .ok (.iconst 1, 1) := dq_4 (dq_suf 15 dt07cX4_isTrueAt_3 rfl rfl)
theorem dX4_isTrueAt_64 : decode cX4_isTrueAt 64 = .ok (.goto 4, 3) := dq_167 (dq_suf 0 dt07cX4_isTrueAt_4 rfl rfl) (by decide +kernel)
theorem dX4_isTrueAt_67 : decode cX4_isTrueAt 67 = .ok (.iconst 0, 1) := dq_3 (dq_suf 3 dt07cX4_isTrueAt_4 rfl rfl)
theorem dX4_isTrueAt_68 : decode cX4_isTrueAt 68 = .ok (.ireturn, 1) := dq_172 (dq_suf 4 dt07cX4_isTrueAt_4 rfl rfl)
noncomputable def ds07cX4_foldUp_6 : List UInt8 := 132 :: 2 :: 1 :: 167 :: 255 :: 200 :: 42 :: 27 :: 182 :: 0 :: 87 :: 177 :: []
noncomputable def ds07cX4_foldUp_5 : List UInt8 := 229 :: 42 :: 182 :: 0 :: 79 :: 62 :: 29 :: 27 :: 160 :: 0 :: 6 :: 167 :: 0 :: 11 :: 29 :: 60 :: ds07cX4_foldUp_6
noncomputable def ds07cX4_foldUp_4 : List UInt8 := 42 :: 42 :: 180 :: 0 :: 15 :: 29 :: 47 :: 182 :: 0 :: 83 :: 80 :: 132 :: 3 :: 1 :: 167 :: 255 :: ds07cX4_foldUp_5
noncomputable def ds07cX4_foldUp_3 : List UInt8 := 56 :: 3 :: 62 :: 29 :: 42 :: 180 :: 0 :: 41 :: 162 :: 0 :: 25 :: 42 :: 180 :: 0 :: 31 :: 29 :: ds07cX4_foldUp_4
noncomputable def ds07cX4_foldUp_2 : List UInt8 := 1 :: 167 :: 255 :: 225 :: 42 :: 182 :: 0 :: 79 :: 60 :: 3 :: 61 :: 28 :: 16 :: 60 :: 162 :: 0 :: ds07cX4_foldUp_3
noncomputable def ds07cX4_foldUp_1 : List UInt8 := 79 :: 42 :: 180 :: 0 :: 31 :: 27 :: 42 :: 180 :: 0 :: 9 :: 27 :: 46 :: 133 :: 80 :: 132 :: 1 :: ds07cX4_foldUp_2
noncomputable def ds07cX4_foldUp_0 : List UInt8 := 3 :: 60 :: 27 :: 42 :: 180 :: 0 :: 41 :: 162 :: 0 :: 29 :: 42 :: 180 :: 0 :: 25 :: 27 :: 3 :: ds07cX4_foldUp_1
theorem dt07cX4_foldUp_0 : cX4_foldUp.data.toList.drop 0 = ds07cX4_foldUp_0 := by decide +kernel
theorem dt07cX4_foldUp_1 : cX4_foldUp.data.toList.drop 16 = ds07cX4_foldUp_1 := dq_suf 16 dt07cX4_foldUp_0 rfl rfl
theorem dt07cX4_foldUp_2 : cX4_foldUp.data.toList.drop 32 = ds07cX4_foldUp_2 := dq_suf 16 dt07cX4_foldUp_1 rfl rfl
theorem dt07cX4_foldUp_3 : cX4_foldUp.data.toList.drop 48 = ds07cX4_foldUp_3 := dq_suf 16 dt07cX4_foldUp_2 rfl rfl
theorem dt07cX4_foldUp_4 : cX4_foldUp.data.toList.drop 64 = ds07cX4_foldUp_4 := dq_suf 16 dt07cX4_foldUp_3 rfl rfl
theorem dt07cX4_foldUp_5 : cX4_foldUp.data.toList.drop 80 = ds07cX4_foldUp_5 := dq_suf 16 dt07cX4_foldUp_4 rfl rfl
theorem dt07cX4_foldUp_6 : cX4_foldUp.data.toList.drop 96 = ds07cX4_foldUp_6 := dq_suf 16 dt07cX4_foldUp_5 rfl rfl
theorem dX4_foldUp_0 : decode cX4_foldUp 0 = .ok (.iconst 0, 1) := dq_3 (dq_suf 0 dt07cX4_foldUp_0 rfl rfl)
theorem dX4_foldUp_1 : decode cX4_foldUp 1 = .ok (.istore_n 1, 1) := dq_60 (dq_suf 1 dt07cX4_foldUp_0 rfl rfl)
theorem dX4_foldUp_2 : decode cX4_foldUp 2 = .ok (.iload_n 1, 1) := dq_27 (dq_suf 2 dt07cX4_foldUp_0 rfl rfl)
theorem dX4_foldUp_3 : decode cX4_foldUp 3 = .ok (.aload_n 0, 1) := dq_42 (dq_suf 3 dt07cX4_foldUp_0 rfl rfl)
theorem dX4_foldUp_4 : decode cX4_foldUp 4 = .ok (.getfield 41, 3) := dq_180 (dq_suf 4 dt07cX4_foldUp_0 rfl rfl) rfl
theorem dX4_foldUp_7 : decode cX4_foldUp 7 = .ok (.if_icmp .ge 29, 3) := dq_162 (dq_suf 7 dt07cX4_foldUp_0 rfl rfl) (by decide +kernel)
theorem dX4_foldUp_10 : decode cX4_foldUp 10 = .ok (.aload_n 0, 1) := dq_42 (dq_suf 10 dt07cX4_foldUp_0 rfl rfl)
theorem dX4_foldUp_11 : decode cX4_foldUp 11 = .ok (.getfield 25, 3) := dq_180 (dq_suf 11 dt07cX4_foldUp_0 rfl rfl) rfl
theorem dX4_foldUp_14 : decode cX4_foldUp 14 = .ok (.iload_n 1, 1) := dq_27 (dq_suf 14 dt07cX4_foldUp_0 rfl rfl)
theorem dX4_foldUp_15 : decode cX4_foldUp 15 = .ok (.iconst 0, 1) := dq_3 (dq_suf 15 dt07cX4_foldUp_0 rfl rfl)
theorem dX4_foldUp_16 : decode cX4_foldUp 16 = .ok (.iastore, 1) := dq_79 (dq_suf 0 dt07cX4_foldUp_1 rfl rfl)
theorem dX4_foldUp_17 : decode cX4_foldUp 17 = .ok (.aload_n 0, 1) := dq_42 (dq_suf 1 dt07cX4_foldUp_1 rfl rfl)
theorem dX4_foldUp_18 : decode cX4_foldUp 18 = .ok (.getfield 31, 3) := dq_180 (dq_suf 2 dt07cX4_foldUp_1 rfl rfl) rfl
theorem dX4_foldUp_21 : decode cX4_foldUp 21 = .ok (.iload_n 1, 1) := dq_27 (dq_suf 5 dt07cX4_foldUp_1 rfl rfl)
theorem dX4_foldUp_22 : decode cX4_foldUp 22 = .ok (.aload_n 0, 1) := dq_42 (dq_suf 6 dt07cX4_foldUp_1 rfl rfl)
theorem dX4_foldUp_23 : decode cX4_foldUp 23 = .ok (.getfield 9, 3) := dq_180 (dq_suf 7 dt07cX4_foldUp_1 rfl rfl) rfl
theorem dX4_foldUp_26 : decode cX4_foldUp 26 = .ok (.iload_n 1, 1) := dq_27 (dq_suf 10 dt07cX4_foldUp_1 rfl rfl)
theorem dX4_foldUp_27 : decode cX4_foldUp 27 = .ok (.iaload, 1) := dq_46 (dq_suf 11 dt07cX4_foldUp_1 rfl rfl)
theorem dX4_foldUp_28 : decode cX4_foldUp 28 = .ok (.i2l, 1) := dq_133 (dq_suf 12 dt07cX4_foldUp_1 rfl rfl)
theorem dX4_foldUp_29 : decode cX4_foldUp 29 = .ok (.lastore, 1) := dq_80 (dq_suf 13 dt07cX4_foldUp_1 rfl rfl)
theorem dX4_foldUp_30 : decode cX4_foldUp 30 = .ok (.iinc 1 1, 3) := dq_132 (dq_suf 14 dt07cX4_foldUp_1 rfl rfl) rfl (by decide +kernel)
theorem dX4_foldUp_33 : decode cX4_foldUp 33 = .ok (.goto (-31), 3) := dq_167 (dq_suf 1 dt07cX4_foldUp_2 rfl rfl) (by decide +kernel)
theorem dX4_foldUp_36 : decode cX4_foldUp 36 = .ok (.aload_n 0, 1) := dq_42 (dq_suf 4 dt07cX4_foldUp_2 rfl rfl)
theorem dX4_foldUp_37 : decode cX4_foldUp 37 = .ok (.invokevirtual 79, 3) := dq_182 (dq_suf 5 dt07cX4_foldUp_2 rfl rfl) rfl
theorem dX4_foldUp_40 : decode cX4_foldUp 40 = .ok (.istore_n 1, 1) := dq_60 (dq_suf 8 dt07cX4_foldUp_2 rfl rfl)
theorem dX4_foldUp_41 : decode cX4_foldUp 41 = .ok (.iconst 0, 1) := dq_3 (dq_suf 9 dt07cX4_foldUp_2 rfl rfl)
theorem dX4_foldUp_42 : decode cX4_foldUp 42 = .ok (.istore_n 2, 1) := dq_61 (dq_suf 10 dt07cX4_foldUp_2 rfl rfl)
theorem dX4_foldUp_43 : decode cX4_foldUp 43 = .ok (.iload_n 2, 1) := dq_28 (dq_suf 11 dt07cX4_foldUp_2 rfl rfl)
theorem dX4_foldUp_44 : decode cX4_foldUp 44 = .ok (.bipush 60, 2) := dq_16 (dq_suf 12 dt07cX4_foldUp_2 rfl rfl) (by decide +kernel)
theorem dX4_foldUp_46 : decode cX4_foldUp 46 = .ok (.if_icmp .ge 56, 3) := dq_162 (dq_suf 14 dt07cX4_foldUp_2 rfl rfl) (by decide +kernel)
theorem dX4_foldUp_49 : decode cX4_foldUp 49 = .ok (.iconst 0, 1) := dq_3 (dq_suf 1 dt07cX4_foldUp_3 rfl rfl)
theorem dX4_foldUp_50 : decode cX4_foldUp 50 = .ok (.istore_n 3, 1) := dq_62 (dq_suf 2 dt07cX4_foldUp_3 rfl rfl)
theorem dX4_foldUp_51 : decode cX4_foldUp 51 = .ok (.iload_n 3, 1) := dq_29 (dq_suf 3 dt07cX4_foldUp_3 rfl rfl)
theorem dX4_foldUp_52 : decode cX4_foldUp 52 = .ok (.aload_n 0, 1) := dq_42 (dq_suf 4 dt07cX4_foldUp_3 rfl rfl)
theorem dX4_foldUp_53 : decode cX4_foldUp 53 = .ok (.getfield 41, 3) := dq_180 (dq_suf 5 dt07cX4_foldUp_3 rfl rfl) rfl
theorem dX4_foldUp_56 : decode cX4_foldUp 56 = .ok (.if_icmp .ge 25, 3) := dq_162 (dq_suf 8 dt07cX4_foldUp_3 rfl rfl) (by decide +kernel)
theorem dX4_foldUp_59 : decode cX4_foldUp 59 = .ok (.aload_n 0, 1) := dq_42 (dq_suf 11 dt07cX4_foldUp_3 rfl rfl)
theorem dX4_foldUp_60 : decode cX4_foldUp 60 = .ok (.getfield 31, 3) := dq_180 (dq_suf 12 dt07cX4_foldUp_3 rfl rfl) rfl
theorem dX4_foldUp_63 : decode cX4_foldUp 63 = .ok (.iload_n 3, 1) := dq_29 (dq_suf 15 dt07cX4_foldUp_3 rfl rfl)
theorem dX4_foldUp_64 : decode cX4_foldUp 64 = .ok (.aload_n 0, 1) := dq_42 (dq_suf 0 dt07cX4_foldUp_4 rfl rfl)
theorem dX4_foldUp_65 : decode cX4_foldUp 65 = .ok (.aload_n 0, 1) := dq_42 (dq_suf 1 dt07cX4_foldUp_4 rfl rfl)
theorem dX4_foldUp_66 : decode cX4_foldUp 66 = .ok (.getfield 15, 3) := dq_180 (dq_suf 2 dt07cX4_foldUp_4 rfl rfl) rfl
theorem dX4_foldUp_69 : decode cX4_foldUp 69 = .ok (.iload_n 3, 1) := dq_29 (dq_suf 5 dt07cX4_foldUp_4 rfl rfl)
theorem dX4_foldUp_70 : decode cX4_foldUp 70 = .ok (.laload, 1) := dq_47 (dq_suf 6 dt07cX4_foldUp_4 rfl rfl)
theorem dX4_foldUp_71 : decode cX4_foldUp 71 = .ok (.invokevirtual 83, 3) := dq_182 (dq_suf 7 dt07cX4_foldUp_4 rfl rfl) rfl
theorem dX4_foldUp_74 : decode cX4_foldUp 74 = .ok (.lastore, 1) := dq_80 (dq_suf 10 dt07cX4_foldUp_4 rfl rfl)
theorem dX4_foldUp_75 : decode cX4_foldUp 75 = .ok (.iinc 3 1, 3) := dq_132 (dq_suf 11 dt07cX4_foldUp_4 rfl rfl) rfl (by decide +kernel)
theorem dX4_foldUp_78 : decode cX4_foldUp 78 = .ok (.goto (-27), 3) := dq_167 (dq_suf 14 dt07cX4_foldUp_4 rfl rfl) (by decide +kernel)
theorem dX4_foldUp_81 : decode cX4_foldUp 81 = .ok (.aload_n 0, 1) := dq_42 (dq_suf 1 dt07cX4_foldUp_5 rfl rfl)
theorem dX4_foldUp_82 : decode cX4_foldUp 82 = .ok (.invokevirtual 79, 3) := dq_182 (dq_suf 2 dt07cX4_foldUp_5 rfl rfl) rfl
theorem dX4_foldUp_85 : decode cX4_foldUp 85 = .ok (.istore_n 3, 1) := dq_62 (dq_suf 5 dt07cX4_foldUp_5 rfl rfl)
theorem dX4_foldUp_86 : decode cX4_foldUp 86 = .ok (.iload_n 3, 1) := dq_29 (dq_suf 6 dt07cX4_foldUp_5 rfl rfl)
theorem dX4_foldUp_87 : decode cX4_foldUp 87 = .ok (.iload_n 1, 1) := dq_27 (dq_suf 7 dt07cX4_foldUp_5 rfl rfl)
theorem dX4_foldUp_88 : decode cX4_foldUp 88 = .ok (.if_icmp .ne 6, 3) := dq_160 (dq_suf 8 dt07cX4_foldUp_5 rfl rfl) (by decide +kernel)
theorem dX4_foldUp_91 : decode cX4_foldUp 91 = .ok (.goto 11, 3) := dq_167 (dq_suf 11 dt07cX4_foldUp_5 rfl rfl) (by decide +kernel)
theorem dX4_foldUp_94 : decode cX4_foldUp 94 = .ok (.iload_n 3, 1) := dq_29 (dq_suf 14 dt07cX4_foldUp_5 rfl rfl)
theorem dX4_foldUp_95 : decode cX4_foldUp 95 = .ok (.istore_n 1, 1) := dq_60 (dq_suf 15 dt07cX4_foldUp_5 rfl rfl)
theorem dX4_foldUp_96 : decode cX4_foldUp 96 = .ok (.iinc 2 1, 3) := dq_132 (dq_suf 0 dt07cX4_foldUp_6 rfl rfl) rfl (by decide +kernel)
theorem dX4_foldUp_99 : decode cX4_foldUp 99 = .ok (.goto (-56), 3) := dq_167 (dq_suf 3 dt07cX4_foldUp_6 rfl rfl) (by decide +kernel)
theorem dX4_foldUp_102 : decode cX4_foldUp 102 = .ok (.aload_n 0, 1) := dq_42 (dq_suf 6 dt07cX4_foldUp_6 rfl rfl)
theorem dX4_foldUp_103 : decode cX4_foldUp 103 = .ok (.iload_n 1, 1) := dq_27 (dq_suf 7 dt07cX4_foldUp_6 rfl rfl)
theorem dX4_foldUp_104 : decode cX4_foldUp 104 = .ok (.invokevirtual 87, 3) := dq_182 (dq_suf 8 dt07cX4_foldUp_6 rfl rfl) rfl
theorem dX4_foldUp_107 : decode cX4_foldUp 107 = .ok (.return_, 1) := dq_177 (dq_suf 11 dt07cX4_foldUp_6 rfl rfl)
noncomputable def ds07cX4_cutTo_4 : List UInt8 := 177 :: []
noncomputable def ds07cX4_cutTo_3 : List UInt8 := 28 :: 79 :: 132 :: 2 :: 1 :: 132 :: 3 :: 1 :: 167 :: 255 :: 204 :: 42 :: 28 :: 182 :: 0 :: 87 :: ds07cX4_cutTo_4
noncomputable def ds07cX4_cutTo_2 : List UInt8 := 0 :: 22 :: 42 :: 27 :: 29 :: 182 :: 0 :: 52 :: 153 :: 0 :: 13 :: 42 :: 180 :: 0 :: 25 :: 29 :: ds07cX4_cutTo_3
noncomputable def ds07cX4_cutTo_1 : List UInt8 := 29 :: 2 :: 79 :: 29 :: 27 :: 160 :: 0 :: 13 :: 42 :: 180 :: 0 :: 25 :: 29 :: 3 :: 79 :: 167 :: ds07cX4_cutTo_2
noncomputable def ds07cX4_cutTo_0 : List UInt8 := 4 :: 61 :: 3 :: 62 :: 29 :: 42 :: 180 :: 0 :: 41 :: 162 :: 0 :: 50 :: 42 :: 180 :: 0 :: 25 :: ds07cX4_cutTo_1
theorem dt07cX4_cutTo_0 : cX4_cutTo.data.toList.drop 0 = ds07cX4_cutTo_0 := by decide +kernel
theorem dt07cX4_cutTo_1 : cX4_cutTo.data.toList.drop 16 = ds07cX4_cutTo_1 := dq_suf 16 dt07cX4_cutTo_0 rfl rfl
theorem dt07cX4_cutTo_2 : cX4_cutTo.data.toList.drop 32 = ds07cX4_cutTo_2 := dq_suf 16 dt07cX4_cutTo_1 rfl rfl
theorem dt07cX4_cutTo_3 : cX4_cutTo.data.toList.drop 48 = ds07cX4_cutTo_3 := dq_suf 16 dt07cX4_cutTo_2 rfl rfl
theorem dt07cX4_cutTo_4 : cX4_cutTo.data.toList.drop 64 = ds07cX4_cutTo_4 := dq_suf 16 dt07cX4_cutTo_3 rfl rfl
theorem dX4_cutTo_0 : decode cX4_cutTo 0 = .ok (.iconst 1, 1) := dq_4 (dq_suf 0 dt07cX4_cutTo_0 rfl rfl)
theorem dX4_cutTo_1 : decode cX4_cutTo 1 = .ok (.istore_n 2, 1) := dq_61 (dq_suf 1 dt07cX4_cutTo_0 rfl rfl)
theorem dX4_cutTo_2 : decode cX4_cutTo 2 = .ok (.iconst 0, 1) := dq_3 (dq_suf 2 dt07cX4_cutTo_0 rfl rfl)
theorem dX4_cutTo_3 : decode cX4_cutTo 3 = .ok (.istore_n 3, 1) := dq_62 (dq_suf 3 dt07cX4_cutTo_0 rfl rfl)
theorem dX4_cutTo_4 : decode cX4_cutTo 4 = .ok (.iload_n 3, 1) := dq_29 (dq_suf 4 dt07cX4_cutTo_0 rfl rfl)
theorem dX4_cutTo_5 : decode cX4_cutTo 5 = .ok (.aload_n 0, 1) := dq_42 (dq_suf 5 dt07cX4_cutTo_0 rfl rfl)
theorem dX4_cutTo_6 : decode cX4_cutTo 6 = .ok (.getfield 41, 3) := dq_180 (dq_suf 6 dt07cX4_cutTo_0 rfl rfl) rfl
theorem dX4_cutTo_9 : decode cX4_cutTo 9 = .ok (.if_icmp .ge 50, 3) := dq_162 (dq_suf 9 dt07cX4_cutTo_0 rfl rfl) (by decide +kernel)
theorem dX4_cutTo_12 : decode cX4_cutTo 12 = .ok (.aload_n 0, 1) := dq_42 (dq_suf 12 dt07cX4_cutTo_0 rfl rfl)
theorem dX4_cutTo_13 : decode cX4_cutTo 13 = .ok (.getfield 25, 3) := dq_180 (dq_suf 13 dt07cX4_cutTo_0 rfl rfl) rfl
theorem dX4_cutTo_16 : decode cX4_cutTo 16 = .ok (.iload_n 3, 1) := dq_29 (dq_suf 0 dt07cX4_cutTo_1 rfl rfl)
theorem dX4_cutTo_17 : decode cX4_cutTo 17 = .ok (.iconst (-1), 1) := dq_2 (dq_suf 1 dt07cX4_cutTo_1 rfl rfl)
theorem dX4_cutTo_18 : decode cX4_cutTo 18 = .ok (.iastore, 1) := dq_79 (dq_suf 2 dt07cX4_cutTo_1 rfl rfl)
theorem dX4_cutTo_19 : decode cX4_cutTo 19 = .ok (.iload_n 3, 1) := dq_29 (dq_suf 3 dt07cX4_cutTo_1 rfl rfl)
theorem dX4_cutTo_20 : decode cX4_cutTo 20 = .ok (.iload_n 1, 1) := dq_27 (dq_suf 4 dt07cX4_cutTo_1 rfl rfl)
theorem dX4_cutTo_21 : decode cX4_cutTo 21 = .ok (.if_icmp .ne 13, 3) := dq_160 (dq_suf 5 dt07cX4_cutTo_1 rfl rfl) (by decide +kernel)
theorem dX4_cutTo_24 : decode cX4_cutTo 24 = .ok (.aload_n 0, 1) := dq_42 (dq_suf 8 dt07cX4_cutTo_1 rfl rfl)
theorem dX4_cutTo_25 : decode cX4_cutTo 25 = .ok (.getfield 25, 3) := dq_180 (dq_suf 9 dt07cX4_cutTo_1 rfl rfl) rfl
theorem dX4_cutTo_28 : decode cX4_cutTo 28 = .ok (.iload_n 3, 1) := dq_29 (dq_suf 12 dt07cX4_cutTo_1 rfl rfl)
theorem dX4_cutTo_29 : decode cX4_cutTo 29 = .ok (.iconst 0, 1) := dq_3 (dq_suf 13 dt07cX4_cutTo_1 rfl rfl)
theorem dX4_cutTo_30 : decode cX4_cutTo 30 = .ok (.iastore, 1) := dq_79 (dq_suf 14 dt07cX4_cutTo_1 rfl rfl)
theorem dX4_cutTo_31 : decode cX4_cutTo 31 = .ok (.goto 22, 3) := dq_167 (dq_suf 15 dt07cX4_cutTo_1 rfl rfl) (by decide +kernel)
theorem dX4_cutTo_34 : decode cX4_cutTo 34 = .ok (.aload_n 0, 1) := dq_42 (dq_suf 2 dt07cX4_cutTo_2 rfl rfl)
theorem dX4_cutTo_35 : decode cX4_cutTo 35 = .ok (.iload_n 1, 1) := dq_27 (dq_suf 3 dt07cX4_cutTo_2 rfl rfl)
theorem dX4_cutTo_36 : decode cX4_cutTo 36 = .ok (.iload_n 3, 1) := dq_29 (dq_suf 4 dt07cX4_cutTo_2 rfl rfl)
theorem dX4_cutTo_37 : decode cX4_cutTo 37 = .ok (.invokevirtual 52, 3) := dq_182 (dq_suf 5 dt07cX4_cutTo_2 rfl rfl) rfl
theorem dX4_cutTo_40 : decode cX4_cutTo 40 = .ok (.ifCond .eq 13, 3) := dq_153 (dq_suf 8 dt07cX4_cutTo_2 rfl rfl) (by decide +kernel)
theorem dX4_cutTo_43 : decode cX4_cutTo 43 = .ok (.aload_n 0, 1) := dq_42 (dq_suf 11 dt07cX4_cutTo_2 rfl rfl)
theorem dX4_cutTo_44 : decode cX4_cutTo 44 = .ok (.getfield 25, 3) := dq_180 (dq_suf 12 dt07cX4_cutTo_2 rfl rfl) rfl
theorem dX4_cutTo_47 : decode cX4_cutTo 47 = .ok (.iload_n 3, 1) := dq_29 (dq_suf 15 dt07cX4_cutTo_2 rfl rfl)
theorem dX4_cutTo_48 : decode cX4_cutTo 48 = .ok (.iload_n 2, 1) := dq_28 (dq_suf 0 dt07cX4_cutTo_3 rfl rfl)
theorem dX4_cutTo_49 : decode cX4_cutTo 49 = .ok (.iastore, 1) := dq_79 (dq_suf 1 dt07cX4_cutTo_3 rfl rfl)
theorem dX4_cutTo_50 : decode cX4_cutTo 50 = .ok (.iinc 2 1, 3) := dq_132 (dq_suf 2 dt07cX4_cutTo_3 rfl rfl) rfl (by decide +kernel)
theorem dX4_cutTo_53 : decode cX4_cutTo 53 = .ok (.iinc 3 1, 3) := dq_132 (dq_suf 5 dt07cX4_cutTo_3 rfl rfl) rfl (by decide +kernel)
theorem dX4_cutTo_56 : decode cX4_cutTo 56 = .ok (.goto (-52), 3) := dq_167 (dq_suf 8 dt07cX4_cutTo_3 rfl rfl) (by decide +kernel)
theorem dX4_cutTo_59 : decode cX4_cutTo 59 = .ok (.aload_n 0, 1) := dq_42 (dq_suf 11 dt07cX4_cutTo_3 rfl rfl)
theorem dX4_cutTo_60 : decode cX4_cutTo 60 = .ok (.iload_n 2, 1) := dq_28 (dq_suf 12 dt07cX4_cutTo_3 rfl rfl)
theorem dX4_cutTo_61 : decode cX4_cutTo 61 = .ok (.invokevirtual 87, 3) := dq_182 (dq_suf 13 dt07cX4_cutTo_3 rfl rfl) rfl
theorem dX4_cutTo_64 : decode cX4_cutTo 64 = .ok (.return_, 1) := dq_177 (dq_suf 0 dt07cX4_cutTo_4 rfl rfl)
noncomputable def ds07cX4_isMutual_1 : List UInt8 := 0 :: 7 :: 4 :: 167 :: 0 :: 4 :: 3 :: 172 :: []
noncomputable def ds07cX4_isMutual_0 : List UInt8 := 42 :: 27 :: 28 :: 182 :: 0 :: 52 :: 153 :: 0 :: 16 :: 42 :: 28 :: 27 :: 182 :: 0 :: 52 :: 153 :: ds07cX4_isMutual_1
theorem dt07cX4_isMutual_0 : cX4_isMutual.data.toList.drop 0 = ds07cX4_isMutual_0 := by decide +kernel
theorem dt07cX4_isMutual_1 : cX4_isMutual.data.toList.drop 16 = ds07cX4_isMutual_1 := dq_suf 16 dt07cX4_isMutual_0 rfl rfl
theorem dX4_isMutual_0 : decode cX4_isMutual 0 = .ok (.aload_n 0, 1) := dq_42 (dq_suf 0 dt07cX4_isMutual_0 rfl rfl)
theorem dX4_isMutual_1 : decode cX4_isMutual 1 = .ok (.iload_n 1, 1) := dq_27 (dq_suf 1 dt07cX4_isMutual_0 rfl rfl)
theorem dX4_isMutual_2 : decode cX4_isMutual 2 = .ok (.iload_n 2, 1) := dq_28 (dq_suf 2 dt07cX4_isMutual_0 rfl rfl)
theorem dX4_isMutual_3 : decode cX4_isMutual 3 = .ok (.invokevirtual 52, 3) := dq_182 (dq_suf 3 dt07cX4_isMutual_0 rfl rfl) rfl
theorem dX4_isMutual_6 : decode cX4_isMutual 6 = .ok (.ifCond .eq 16, 3) := dq_153 (dq_suf 6 dt07cX4_isMutual_0 rfl rfl) (by decide +kernel)
theorem dX4_isMutual_9 : decode cX4_isMutual 9 = .ok (.aload_n 0, 1) := dq_42 (dq_suf 9 dt07cX4_isMutual_0 rfl rfl)
theorem dX4_isMutual_10 : decode cX4_isMutual 10 = .ok (.iload_n 2, 1) := dq_28 (dq_suf 10 dt07cX4_isMutual_0 rfl rfl)
theorem dX4_isMutual_11 : decode cX4_isMutual 11 = .ok (.iload_n 1, 1) := dq_27 (dq_suf 11 dt07cX4_isMutual_0 rfl rfl)
theorem dX4_isMutual_12 : decode cX4_isMutual 12 = .ok (.invokevirtual 52, 3) := dq_182 (dq_suf 12 dt07cX4_isMutual_0 rfl rfl) rfl
theorem dX4_isMutual_15 : decode cX4_isMutual 15 = .ok (.ifCond .eq 7, 3) := dq_153 (dq_suf 15 dt07cX4_isMutual_0 rfl rfl) (by decide +kernel)
theorem dX4_isMutual_18 : decode cX4_isMutual 18 = .ok (.iconst 1, 1) := dq_4 (dq_suf 2 dt07cX4_isMutual_1 rfl rfl)
theorem dX4_isMutual_19 : decode cX4_isMutual 19 = .ok (.goto 4, 3) := dq_167 (dq_suf 3 dt07cX4_isMutual_1 rfl rfl) (by decide +kernel)
theorem dX4_isMutual_22 : decode cX4_isMutual 22 = .ok (.iconst 0, 1) := dq_3 (dq_suf 6 dt07cX4_isMutual_1 rfl rfl)
theorem dX4_isMutual_23 : decode cX4_isMutual 23 = .ok (.ireturn, 1) := dq_172 (dq_suf 7 dt07cX4_isMutual_1 rfl rfl)
noncomputable def ds07cX4_isLeastOfCluster_1 : List UInt8 := 3 :: 172 :: 132 :: 2 :: 1 :: 167 :: 255 :: 237 :: 4 :: 172 :: []
noncomputable def ds07cX4_isLeastOfCluster_0 : List UInt8 := 3 :: 61 :: 28 :: 27 :: 162 :: 0 :: 20 :: 42 :: 28 :: 27 :: 182 :: 0 :: 66 :: 153 :: 0 :: 5 :: ds07cX4_isLeastOfCluster_1
theorem dt07cX4_isLeastOfCluster_0 : cX4_isLeastOfCluster.data.toList.drop 0 = ds07cX4_isLeastOfCluster_0 := by decide +kernel
theorem dt07cX4_isLeastOfCluster_1 : cX4_isLeastOfCluster.data.toList.drop 16 = ds07cX4_isLeastOfCluster_1 := dq_suf 16 dt07cX4_isLeastOfCluster_0 rfl rfl
theorem dX4_isLeastOfCluster_0 : decode cX4_isLeastOfCluster 0 = .ok (.iconst 0, 1) := dq_3 (dq_suf 0 dt07cX4_isLeastOfCluster_0 rfl rfl)
theorem dX4_isLeastOfCluster_1 : decode cX4_isLeastOfCluster 1 = .ok (.istore_n 2, 1) := dq_61 (dq_suf 1 dt07cX4_isLeastOfCluster_0 rfl rfl)
theorem dX4_isLeastOfCluster_2 : decode cX4_isLeastOfCluster 2 = .ok (.iload_n 2, 1) := dq_28 (dq_suf 2 dt07cX4_isLeastOfCluster_0 rfl rfl)
theorem dX4_isLeastOfCluster_3 : decode cX4_isLeastOfCluster 3 = .ok (.iload_n 1, 1) := dq_27 (dq_suf 3 dt07cX4_isLeastOfCluster_0 rfl rfl)
theorem dX4_isLeastOfCluster_4 : decode cX4_isLeastOfCluster 4 = .ok (.if_icmp .ge 20, 3) := dq_162 (dq_suf 4 dt07cX4_isLeastOfCluster_0 rfl rfl) (by decide +kernel)
theorem dX4_isLeastOfCluster_7 : decode cX4_isLeastOfCluster 7 = .ok (.aload_n 0, 1) := dq_42 (dq_suf 7 dt07cX4_isLeastOfCluster_0 rfl rfl)
theorem dX4_isLeastOfCluster_8 : decode cX4_isLeastOfCluster 8 = .ok (.iload_n 2, 1) := dq_28 (dq_suf 8 dt07cX4_isLeastOfCluster_0 rfl rfl)
theorem dX4_isLeastOfCluster_9 : decode cX4_isLeastOfCluster 9 = .ok (.iload_n 1, 1) := dq_27 (dq_suf 9 dt07cX4_isLeastOfCluster_0 rfl rfl)
theorem dX4_isLeastOfCluster_10 : decode cX4_isLeastOfCluster 10 = .ok (.invokevirtual 66, 3) := dq_182 (dq_suf 10 dt07cX4_isLeastOfCluster_0 rfl rfl) rfl
theorem dX4_isLeastOfCluster_13 : decode cX4_isLeastOfCluster 13 = .ok (.ifCond .eq 5, 3) := dq_153 (dq_suf 13 dt07cX4_isLeastOfCluster_0 rfl rfl) (by decide +kernel)
theorem dX4_isLeastOfCluster_16 : decode cX4_isLeastOfCluster 16 = .ok (.iconst 0, 1) := dq_3 (dq_suf 0 dt07cX4_isLeastOfCluster_1 rfl rfl)
theorem dX4_isLeastOfCluster_17 : decode cX4_isLeastOfCluster 17 = .ok (.ireturn, 1) := dq_172 (dq_suf 1 dt07cX4_isLeastOfCluster_1 rfl rfl)
theorem dX4_isLeastOfCluster_18 : decode cX4_isLeastOfCluster 18 = .ok (.iinc 2 1, 3) := dq_132 (dq_suf 2 dt07cX4_isLeastOfCluster_1 rfl rfl) rfl (by decide +kernel)
theorem dX4_isLeastOfCluster_21 : decode cX4_isLeastOfCluster 21 = .ok (.goto (-19), 3) := dq_167 (dq_suf 5 dt07cX4_isLeastOfCluster_1 rfl rfl) (by decide +kernel)
theorem dX4_isLeastOfCluster_24 : decode cX4_isLeastOfCluster 24 = .ok (.iconst 1, 1) := dq_4 (dq_suf 8 dt07cX4_isLeastOfCluster_1 rfl rfl)
theorem dX4_isLeastOfCluster_25 : decode cX4_isLeastOfCluster 25 = .ok (.ireturn, 1) := dq_172 (dq_suf 9 dt07cX4_isLeastOfCluster_1 rfl rfl)
noncomputable def ds07cX4_truthOf_1 : List UInt8 := 27 :: 47 :: 167 :: 0 :: 4 :: 9 :: 173 :: []
noncomputable def ds07cX4_truthOf_0 : List UInt8 := 27 :: 155 :: 0 :: 20 :: 27 :: 42 :: 180 :: 0 :: 45 :: 162 :: 0 :: 12 :: 42 :: 180 :: 0 :: 34 :: ds07cX4_truthOf_1
theorem dt07cX4_truthOf_0 : cX4_truthOf.data.toList.drop 0 = ds07cX4_truthOf_0 := by decide +kernel
theorem dt07cX4_truthOf_1 : cX4_truthOf.data.toList.drop 16 = ds07cX4_truthOf_1 := dq_suf 16 dt07cX4_truthOf_0 rfl rfl
theorem dX4_truthOf_0 : decode cX4_truthOf 0 = .ok (.iload_n 1, 1) := dq_27 (dq_suf 0 dt07cX4_truthOf_0 rfl rfl)
theorem dX4_truthOf_1 : decode cX4_truthOf 1 = .ok (.ifCond .lt 20, 3) := dq_155 (dq_suf 1 dt07cX4_truthOf_0 rfl rfl) (by decide +kernel)
theorem dX4_truthOf_4 : decode cX4_truthOf 4 = .ok (.iload_n 1, 1) := dq_27 (dq_suf 4 dt07cX4_truthOf_0 rfl rfl)
theorem dX4_truthOf_5 : decode cX4_truthOf 5 = .ok (.aload_n 0, 1) := dq_42 (dq_suf 5 dt07cX4_truthOf_0 rfl rfl)
theorem dX4_truthOf_6 : decode cX4_truthOf 6 = .ok (.getfield 45, 3) := dq_180 (dq_suf 6 dt07cX4_truthOf_0 rfl rfl) rfl
theorem dX4_truthOf_9 : decode cX4_truthOf 9 = .ok (.if_icmp .ge 12, 3) := dq_162 (dq_suf 9 dt07cX4_truthOf_0 rfl rfl) (by decide +kernel)
theorem dX4_truthOf_12 : decode cX4_truthOf 12 = .ok (.aload_n 0, 1) := dq_42 (dq_suf 12 dt07cX4_truthOf_0 rfl rfl)
theorem dX4_truthOf_13 : decode cX4_truthOf 13 = .ok (.getfield 34, 3) := dq_180 (dq_suf 13 dt07cX4_truthOf_0 rfl rfl) rfl
theorem dX4_truthOf_16 : decode cX4_truthOf 16 = .ok (.iload_n 1, 1) := dq_27 (dq_suf 0 dt07cX4_truthOf_1 rfl rfl)
theorem dX4_truthOf_17 : decode cX4_truthOf 17 = .ok (.laload, 1) := dq_47 (dq_suf 1 dt07cX4_truthOf_1 rfl rfl)
theorem dX4_truthOf_18 : decode cX4_truthOf 18 = .ok (.goto 4, 3) := dq_167 (dq_suf 2 dt07cX4_truthOf_1 rfl rfl) (by decide +kernel)
theorem dX4_truthOf_21 : decode cX4_truthOf 21 = .ok (.lconst 0, 1) := dq_9 (dq_suf 5 dt07cX4_truthOf_1 rfl rfl)
theorem dX4_truthOf_22 : decode cX4_truthOf 22 = .ok (.lreturn, 1) := dq_173 (dq_suf 6 dt07cX4_truthOf_1 rfl rfl)
noncomputable def ds07cX4_worldsOf_10 : List UInt8 := 127 :: 173 :: 42 :: 32 :: 182 :: 0 :: 108 :: 173 :: 9 :: 173 :: []
noncomputable def ds07cX4_worldsOf_9 : List UInt8 := 42 :: 22 :: 4 :: 32 :: 20 :: 0 :: 103 :: 131 :: 127 :: 182 :: 0 :: 108 :: 20 :: 0 :: 103 :: 131 :: ds07cX4_worldsOf_10
noncomputable def ds07cX4_worldsOf_8 : List UInt8 := 42 :: 42 :: 180 :: 0 :: 37 :: 27 :: 182 :: 0 :: 105 :: 182 :: 0 :: 76 :: 129 :: 173 :: 22 :: 4 :: ds07cX4_worldsOf_9
noncomputable def ds07cX4_worldsOf_7 : List UInt8 := 32 :: 42 :: 42 :: 180 :: 0 :: 37 :: 27 :: 182 :: 0 :: 105 :: 182 :: 0 :: 76 :: 127 :: 173 :: 32 :: ds07cX4_worldsOf_8
noncomputable def ds07cX4_worldsOf_6 : List UInt8 := 180 :: 0 :: 37 :: 27 :: 182 :: 0 :: 91 :: 182 :: 0 :: 100 :: 20 :: 0 :: 103 :: 131 :: 127 :: 173 :: ds07cX4_worldsOf_7
noncomputable def ds07cX4_worldsOf_5 : List UInt8 := 42 :: 180 :: 0 :: 37 :: 27 :: 182 :: 0 :: 91 :: 182 :: 0 :: 100 :: 173 :: 22 :: 4 :: 42 :: 42 :: ds07cX4_worldsOf_6
noncomputable def ds07cX4_worldsOf_4 : List UInt8 := 0 :: 0 :: 0 :: 96 :: 0 :: 0 :: 0 :: 111 :: 0 :: 0 :: 0 :: 131 :: 22 :: 4 :: 173 :: 42 :: ds07cX4_worldsOf_5
noncomputable def ds07cX4_worldsOf_3 : List UInt8 := 0 :: 0 :: 0 :: 137 :: 0 :: 0 :: 0 :: 48 :: 0 :: 0 :: 0 :: 61 :: 0 :: 0 :: 0 :: 81 :: ds07cX4_worldsOf_4
noncomputable def ds07cX4_worldsOf_2 : List UInt8 := 0 :: 0 :: 0 :: 137 :: 0 :: 0 :: 0 :: 0 :: 0 :: 0 :: 0 :: 7 :: 0 :: 0 :: 0 :: 45 :: ds07cX4_worldsOf_3
noncomputable def ds07cX4_worldsOf_1 : List UInt8 := 0 :: 41 :: 121 :: 10 :: 101 :: 55 :: 4 :: 42 :: 180 :: 0 :: 37 :: 27 :: 182 :: 0 :: 97 :: 170 :: ds07cX4_worldsOf_2
noncomputable def ds07cX4_worldsOf_0 : List UInt8 := 42 :: 42 :: 180 :: 0 :: 37 :: 27 :: 182 :: 0 :: 91 :: 182 :: 0 :: 76 :: 65 :: 10 :: 42 :: 180 :: ds07cX4_worldsOf_1
theorem dt07cX4_worldsOf_0 : cX4_worldsOf.data.toList.drop 0 = ds07cX4_worldsOf_0 := by decide +kernel
theorem dt07cX4_worldsOf_1 : cX4_worldsOf.data.toList.drop 16 = ds07cX4_worldsOf_1 := dq_suf 16 dt07cX4_worldsOf_0 rfl rfl
theorem dt07cX4_worldsOf_2 : cX4_worldsOf.data.toList.drop 32 = ds07cX4_worldsOf_2 := dq_suf 16 dt07cX4_worldsOf_1 rfl rfl
theorem dt07cX4_worldsOf_3 : cX4_worldsOf.data.toList.drop 48 = ds07cX4_worldsOf_3 := dq_suf 16 dt07cX4_worldsOf_2 rfl rfl
theorem dt07cX4_worldsOf_4 : cX4_worldsOf.data.toList.drop 64 = ds07cX4_worldsOf_4 := dq_suf 16 dt07cX4_worldsOf_3 rfl rfl
theorem dt07cX4_worldsOf_5 : cX4_worldsOf.data.toList.drop 80 = ds07cX4_worldsOf_5 := dq_suf 16 dt07cX4_worldsOf_4 rfl rfl
theorem dt07cX4_worldsOf_6 : cX4_worldsOf.data.toList.drop 96 = ds07cX4_worldsOf_6 := dq_suf 16 dt07cX4_worldsOf_5 rfl rfl
theorem dt07cX4_worldsOf_7 : cX4_worldsOf.data.toList.drop 112 = ds07cX4_worldsOf_7 := dq_suf 16 dt07cX4_worldsOf_6 rfl rfl
theorem dt07cX4_worldsOf_8 : cX4_worldsOf.data.toList.drop 128 = ds07cX4_worldsOf_8 := dq_suf 16 dt07cX4_worldsOf_7 rfl rfl
theorem dt07cX4_worldsOf_9 : cX4_worldsOf.data.toList.drop 144 = ds07cX4_worldsOf_9 := dq_suf 16 dt07cX4_worldsOf_8 rfl rfl
theorem dt07cX4_worldsOf_10 : cX4_worldsOf.data.toList.drop 160 = ds07cX4_worldsOf_10 := dq_suf 16 dt07cX4_worldsOf_9 rfl rfl
theorem dX4_worldsOf_0 : decode cX4_worldsOf 0 = .ok (.aload_n 0, 1) := dq_42 (dq_suf 0 dt07cX4_worldsOf_0 rfl rfl)
theorem dX4_worldsOf_1 : decode cX4_worldsOf 1 = .ok (.aload_n 0, 1) := dq_42 (dq_suf 1 dt07cX4_worldsOf_0 rfl rfl)
theorem dX4_worldsOf_2 : decode cX4_worldsOf 2 = .ok (.getfield 37, 3) := dq_180 (dq_suf 2 dt07cX4_worldsOf_0 rfl rfl) rfl
theorem dX4_worldsOf_5 : decode cX4_worldsOf 5 = .ok (.iload_n 1, 1) := dq_27 (dq_suf 5 dt07cX4_worldsOf_0 rfl rfl)
theorem dX4_worldsOf_6 : decode cX4_worldsOf 6 = .ok (.invokevirtual 91, 3) := dq_182 (dq_suf 6 dt07cX4_worldsOf_0 rfl rfl) rfl
theorem dX4_worldsOf_9 : decode cX4_worldsOf 9 = .ok (.invokevirtual 76, 3) := dq_182 (dq_suf 9 dt07cX4_worldsOf_0 rfl rfl) rfl
theorem dX4_worldsOf_12 : decode cX4_worldsOf 12 = .ok (.lstore_n 2, 1) := dq_65 (dq_suf 12 dt07cX4_worldsOf_0 rfl rfl)
theorem dX4_worldsOf_13 : decode cX4_worldsOf 13 = .ok (.lconst 1, 1) := dq_10 (dq_suf 13 dt07cX4_worldsOf_0 rfl rfl)
theorem dX4_worldsOf_14 : decode cX4_worldsOf 14 = .ok (.aload_n 0, 1) := dq_42 (dq_suf 14 dt07cX4_worldsOf_0 rfl rfl)
theorem dX4_worldsOf_15 : decode cX4_worldsOf 15 = .ok (.getfield 41, 3) := dq_180 (dq_suf 15 dt07cX4_worldsOf_0 rfl rfl) rfl
theorem dX4_worldsOf_18 : decode cX4_worldsOf 18 = .ok (.lshl, 1) := dq_121 (dq_suf 2 dt07cX4_worldsOf_1 rfl rfl)
theorem dX4_worldsOf_19 : decode cX4_worldsOf 19 = .ok (.lconst 1, 1) := dq_10 (dq_suf 3 dt07cX4_worldsOf_1 rfl rfl)
theorem dX4_worldsOf_20 : decode cX4_worldsOf 20 = .ok (.lsub, 1) := dq_101 (dq_suf 4 dt07cX4_worldsOf_1 rfl rfl)
theorem dX4_worldsOf_21 : decode cX4_worldsOf 21 = .ok (.lstore 4, 2) := dq_55 (dq_suf 5 dt07cX4_worldsOf_1 rfl rfl) rfl
theorem dX4_worldsOf_23 : decode cX4_worldsOf 23 = .ok (.aload_n 0, 1) := dq_42 (dq_suf 7 dt07cX4_worldsOf_1 rfl rfl)
theorem dX4_worldsOf_24 : decode cX4_worldsOf 24 = .ok (.getfield 37, 3) := dq_180 (dq_suf 8 dt07cX4_worldsOf_1 rfl rfl) rfl
theorem dX4_worldsOf_27 : decode cX4_worldsOf 27 = .ok (.iload_n 1, 1) := dq_27 (dq_suf 11 dt07cX4_worldsOf_1 rfl rfl)
theorem dX4_worldsOf_28 : decode cX4_worldsOf 28 = .ok (.invokevirtual 97, 3) := dq_182 (dq_suf 12 dt07cX4_worldsOf_1 rfl rfl) rfl
theorem dX4_worldsOf_31 : decode cX4_worldsOf 31 = .ok (.tableswitch 137 0 7 #[45, 137, 48, 61, 81, 96, 111, 131], 45) := by decide +kernel
theorem dX4_worldsOf_76 : decode cX4_worldsOf 76 = .ok (.lload 4, 2) := dq_22 (dq_suf 12 dt07cX4_worldsOf_4 rfl rfl) rfl
theorem dX4_worldsOf_78 : decode cX4_worldsOf 78 = .ok (.lreturn, 1) := dq_173 (dq_suf 14 dt07cX4_worldsOf_4 rfl rfl)
theorem dX4_worldsOf_79 : decode cX4_worldsOf 79 = .ok (.aload_n 0, 1) := dq_42 (dq_suf 15 dt07cX4_worldsOf_4 rfl rfl)
theorem dX4_worldsOf_80 : decode cX4_worldsOf 80 = .ok (.aload_n 0, 1) := dq_42 (dq_suf 0 dt07cX4_worldsOf_5 rfl rfl)
theorem dX4_worldsOf_81 : decode cX4_worldsOf 81 = .ok (.getfield 37, 3) := dq_180 (dq_suf 1 dt07cX4_worldsOf_5 rfl rfl) rfl
theorem dX4_worldsOf_84 : decode cX4_worldsOf 84 = .ok (.iload_n 1, 1) := dq_27 (dq_suf 4 dt07cX4_worldsOf_5 rfl rfl)
theorem dX4_worldsOf_85 : decode cX4_worldsOf 85 = .ok (.invokevirtual 91, 3) := dq_182 (dq_suf 5 dt07cX4_worldsOf_5 rfl rfl) rfl
theorem dX4_worldsOf_88 : decode cX4_worldsOf 88 = .ok (.invokevirtual 100, 3) := dq_182 (dq_suf 8 dt07cX4_worldsOf_5 rfl rfl) rfl
theorem dX4_worldsOf_91 : decode cX4_worldsOf 91 = .ok (.lreturn, 1) := dq_173 (dq_suf 11 dt07cX4_worldsOf_5 rfl rfl)
theorem dX4_worldsOf_92 : decode cX4_worldsOf 92 = .ok (.lload 4, 2) := dq_22 (dq_suf 12 dt07cX4_worldsOf_5 rfl rfl) rfl
theorem dX4_worldsOf_94 : decode cX4_worldsOf 94 = .ok (.aload_n 0, 1) := dq_42 (dq_suf 14 dt07cX4_worldsOf_5 rfl rfl)
theorem dX4_worldsOf_95 : decode cX4_worldsOf 95 = .ok (.aload_n 0, 1) := dq_42 (dq_suf 15 dt07cX4_worldsOf_5 rfl rfl)
theorem dX4_worldsOf_96 : decode cX4_worldsOf 96 = .ok (.getfield 37, 3) := dq_180 (dq_suf 0 dt07cX4_worldsOf_6 rfl rfl) rfl
theorem dX4_worldsOf_99 : decode cX4_worldsOf 99 = .ok (.iload_n 1, 1) := dq_27 (dq_suf 3 dt07cX4_worldsOf_6 rfl rfl)
theorem dX4_worldsOf_100 : decode cX4_worldsOf 100 = .ok (.invokevirtual 91, 3) := dq_182 (dq_suf 4 dt07cX4_worldsOf_6 rfl rfl) rfl
theorem dX4_worldsOf_103 : decode cX4_worldsOf 103 = .ok (.invokevirtual 100, 3) := dq_182 (dq_suf 7 dt07cX4_worldsOf_6 rfl rfl) rfl
theorem dX4_worldsOf_106 : decode cX4_worldsOf 106 = .ok (.ldc2_w 103, 3) := dq_20 (dq_suf 10 dt07cX4_worldsOf_6 rfl rfl) rfl
theorem dX4_worldsOf_109 : decode cX4_worldsOf 109 = .ok (.lxor, 1) := dq_131 (dq_suf 13 dt07cX4_worldsOf_6 rfl rfl)
theorem dX4_worldsOf_110 : decode cX4_worldsOf 110 = .ok (.land, 1) := dq_127 (dq_suf 14 dt07cX4_worldsOf_6 rfl rfl)
theorem dX4_worldsOf_111 : decode cX4_worldsOf 111 = .ok (.lreturn, 1) := dq_173 (dq_suf 15 dt07cX4_worldsOf_6 rfl rfl)
theorem dX4_worldsOf_112 : decode cX4_worldsOf 112 = .ok (.lload_n 2, 1) := dq_32 (dq_suf 0 dt07cX4_worldsOf_7 rfl rfl)
theorem dX4_worldsOf_113 : decode cX4_worldsOf 113 = .ok (.aload_n 0, 1) := dq_42 (dq_suf 1 dt07cX4_worldsOf_7 rfl rfl)
theorem dX4_worldsOf_114 : decode cX4_worldsOf 114 = .ok (.aload_n 0, 1) := dq_42 (dq_suf 2 dt07cX4_worldsOf_7 rfl rfl)
theorem dX4_worldsOf_115 : decode cX4_worldsOf 115 = .ok (.getfield 37, 3) := dq_180 (dq_suf 3 dt07cX4_worldsOf_7 rfl rfl) rfl
theorem dX4_worldsOf_118 : decode cX4_worldsOf 118 = .ok (.iload_n 1, 1) := dq_27 (dq_suf 6 dt07cX4_worldsOf_7 rfl rfl)
theorem dX4_worldsOf_119 : decode cX4_worldsOf 119 = .ok (.invokevirtual 105, 3) := dq_182 (dq_suf 7 dt07cX4_worldsOf_7 rfl rfl) rfl
theorem dX4_worldsOf_122 : decode cX4_worldsOf 122 = .ok (.invokevirtual 76, 3) := dq_182 (dq_suf 10 dt07cX4_worldsOf_7 rfl rfl) rfl
theorem dX4_worldsOf_125 : decode cX4_worldsOf 125 = .ok (.land, 1) := dq_127 (dq_suf 13 dt07cX4_worldsOf_7 rfl rfl)
theorem dX4_worldsOf_126 : decode cX4_worldsOf 126 = .ok (.lreturn, 1) := dq_173 (dq_suf 14 dt07cX4_worldsOf_7 rfl rfl)
theorem dX4_worldsOf_127 : decode cX4_worldsOf 127 = .ok (.lload_n 2, 1) := dq_32 (dq_suf 15 dt07cX4_worldsOf_7 rfl rfl)
theorem dX4_worldsOf_128 : decode cX4_worldsOf 128 = .ok (.aload_n 0, 1) := dq_42 (dq_suf 0 dt07cX4_worldsOf_8 rfl rfl)
theorem dX4_worldsOf_129 : decode cX4_worldsOf 129 = .ok (.aload_n 0, 1) := dq_42 (dq_suf 1 dt07cX4_worldsOf_8 rfl rfl)
theorem dX4_worldsOf_130 : decode cX4_worldsOf 130 = .ok (.getfield 37, 3) := dq_180 (dq_suf 2 dt07cX4_worldsOf_8 rfl rfl) rfl
theorem dX4_worldsOf_133 : decode cX4_worldsOf 133 = .ok (.iload_n 1, 1) := dq_27 (dq_suf 5 dt07cX4_worldsOf_8 rfl rfl)
theorem dX4_worldsOf_134 : decode cX4_worldsOf 134 = .ok (.invokevirtual 105, 3) := dq_182 (dq_suf 6 dt07cX4_worldsOf_8 rfl rfl) rfl
theorem dX4_worldsOf_137 : decode cX4_worldsOf 137 = .ok (.invokevirtual 76, 3) := dq_182 (dq_suf 9 dt07cX4_worldsOf_8 rfl rfl) rfl
theorem dX4_worldsOf_140 : decode cX4_worldsOf 140 = .ok (.lor, 1) := dq_129 (dq_suf 12 dt07cX4_worldsOf_8 rfl rfl)
theorem dX4_worldsOf_141 : decode cX4_worldsOf 141 = .ok (.lreturn, 1) := dq_173 (dq_suf 13 dt07cX4_worldsOf_8 rfl rfl)
theorem dX4_worldsOf_142 : decode cX4_worldsOf 142 = .ok (.lload 4, 2) := dq_22 (dq_suf 14 dt07cX4_worldsOf_8 rfl rfl) rfl
theorem dX4_worldsOf_144 : decode cX4_worldsOf 144 = .ok (.aload_n 0, 1) := dq_42 (dq_suf 0 dt07cX4_worldsOf_9 rfl rfl)
theorem dX4_worldsOf_145 : decode cX4_worldsOf 145 = .ok (.lload 4, 2) := dq_22 (dq_suf 1 dt07cX4_worldsOf_9 rfl rfl) rfl
theorem dX4_worldsOf_147 : decode cX4_worldsOf 147 = .ok (.lload_n 2, 1) := dq_32 (dq_suf 3 dt07cX4_worldsOf_9 rfl rfl)
theorem dX4_worldsOf_148 : decode cX4_worldsOf 148 = .ok (.ldc2_w 103, 3) := dq_20 (dq_suf 4 dt07cX4_worldsOf_9 rfl rfl) rfl
theorem dX4_worldsOf_151 : decode cX4_worldsOf 151 = .ok (.lxor, 1) := dq_131 (dq_suf 7 dt07cX4_worldsOf_9 rfl rfl)
theorem dX4_worldsOf_152 : decode cX4_worldsOf 152 = .ok (.land, 1) := dq_127 (dq_suf 8 dt07cX4_worldsOf_9 rfl rfl)
theorem dX4_worldsOf_153 : decode cX4_worldsOf 153 = .ok (.invokevirtual 108, 3) := dq_182 (dq_suf 9 dt07cX4_worldsOf_9 rfl rfl) rfl
theorem dX4_worldsOf_156 : decode cX4_worldsOf 156 = .ok (.ldc2_w 103, 3) := dq_20 (dq_suf 12 dt07cX4_worldsOf_9 rfl rfl) rfl
theorem dX4_worldsOf_159 : decode cX4_worldsOf 159 = .ok (.lxor, 1) := dq_131 (dq_suf 15 dt07cX4_worldsOf_9 rfl rfl)
theorem dX4_worldsOf_160 : decode cX4_worldsOf 160 = .ok (.land, 1) := dq_127 (dq_suf 0 dt07cX4_worldsOf_10 rfl rfl)
theorem dX4_worldsOf_161 : decode cX4_worldsOf 161 = .ok (.lreturn, 1) := dq_173 (dq_suf 1 dt07cX4_worldsOf_10 rfl rfl)
theorem dX4_worldsOf_162 : decode cX4_worldsOf 162 = .ok (.aload_n 0, 1) := dq_42 (dq_suf 2 dt07cX4_worldsOf_10 rfl rfl)
theorem dX4_worldsOf_163 : decode cX4_worldsOf 163 = .ok (.lload_n 2, 1) := dq_32 (dq_suf 3 dt07cX4_worldsOf_10 rfl rfl)
theorem dX4_worldsOf_164 : decode cX4_worldsOf 164 = .ok (.invokevirtual 108, 3) := dq_182 (dq_suf 4 dt07cX4_worldsOf_10 rfl rfl) rfl
theorem dX4_worldsOf_167 : decode cX4_worldsOf 167 = .ok (.lreturn, 1) := dq_173 (dq_suf 7 dt07cX4_worldsOf_10 rfl rfl)
theorem dX4_worldsOf_168 : decode cX4_worldsOf 168 = .ok (.lconst 0, 1) := dq_9 (dq_suf 8 dt07cX4_worldsOf_10 rfl rfl)
theorem dX4_worldsOf_169 : decode cX4_worldsOf 169 = .ok (.lreturn, 1) := dq_173 (dq_suf 9 dt07cX4_worldsOf_10 rfl rfl)
noncomputable def ds07cX4_worldsOfLetter_2 : List UInt8 := 132 :: 4 :: 1 :: 167 :: 255 :: 226 :: 32 :: 173 :: []
noncomputable def ds07cX4_worldsOfLetter_1 : List UInt8 := 180 :: 0 :: 9 :: 21 :: 4 :: 46 :: 27 :: 124 :: 4 :: 126 :: 133 :: 21 :: 4 :: 121 :: 129 :: 65 :: ds07cX4_worldsOfLetter_2
noncomputable def ds07cX4_worldsOfLetter_0 : List UInt8 := 9 :: 65 :: 3 :: 54 :: 4 :: 21 :: 4 :: 42 :: 180 :: 0 :: 41 :: 162 :: 0 :: 27 :: 32 :: 42 :: ds07cX4_worldsOfLetter_1
theorem dt07cX4_worldsOfLetter_0 : cX4_worldsOfLetter.data.toList.drop 0 = ds07cX4_worldsOfLetter_0 := by decide +kernel
theorem dt07cX4_worldsOfLetter_1 : cX4_worldsOfLetter.data.toList.drop 16 = ds07cX4_worldsOfLetter_1 := dq_suf 16 dt07cX4_worldsOfLetter_0 rfl rfl
theorem dt07cX4_worldsOfLetter_2 : cX4_worldsOfLetter.data.toList.drop 32 = ds07cX4_worldsOfLetter_2 := dq_suf 16 dt07cX4_worldsOfLetter_1 rfl rfl
theorem dX4_worldsOfLetter_0 : decode cX4_worldsOfLetter 0 = .ok (.lconst 0, 1) := dq_9 (dq_suf 0 dt07cX4_worldsOfLetter_0 rfl rfl)
theorem dX4_worldsOfLetter_1 : decode cX4_worldsOfLetter 1 = .ok (.lstore_n 2, 1) := dq_65 (dq_suf 1 dt07cX4_worldsOfLetter_0 rfl rfl)
theorem dX4_worldsOfLetter_2 : decode cX4_worldsOfLetter 2 = .ok (.iconst 0, 1) := dq_3 (dq_suf 2 dt07cX4_worldsOfLetter_0 rfl rfl)
theorem dX4_worldsOfLetter_3 : decode cX4_worldsOfLetter 3 = .ok (.istore 4, 2) := dq_54 (dq_suf 3 dt07cX4_worldsOfLetter_0 rfl rfl) rfl
theorem dX4_worldsOfLetter_5 : decode cX4_worldsOfLetter 5 = .ok (.iload 4, 2) := dq_21 (dq_suf 5 dt07cX4_worldsOfLetter_0 rfl rfl) rfl
theorem dX4_worldsOfLetter_7 : decode cX4_worldsOfLetter 7 = .ok (.aload_n 0, 1) := dq_42 (dq_suf 7 dt07cX4_worldsOfLetter_0 rfl rfl)
theorem dX4_worldsOfLetter_8 : decode cX4_worldsOfLetter 8 = .ok (.getfield 41, 3) := dq_180 (dq_suf 8 dt07cX4_worldsOfLetter_0 rfl rfl) rfl
theorem dX4_worldsOfLetter_11 : decode cX4_worldsOfLetter 11 = .ok (.if_icmp .ge 27, 3) := dq_162 (dq_suf 11 dt07cX4_worldsOfLetter_0 rfl rfl) (by decide +kernel)
theorem dX4_worldsOfLetter_14 : decode cX4_worldsOfLetter 14 = .ok (.lload_n 2, 1) := dq_32 (dq_suf 14 dt07cX4_worldsOfLetter_0 rfl rfl)
theorem dX4_worldsOfLetter_15 : decode cX4_worldsOfLetter 15 = .ok (.aload_n 0, 1) := dq_42 (dq_suf 15 dt07cX4_worldsOfLetter_0 rfl rfl)
theorem dX4_worldsOfLetter_16 : decode cX4_worldsOfLetter 16 = .ok (.getfield 9, 3) := dq_180 (dq_suf 0 dt07cX4_worldsOfLetter_1 rfl rfl) rfl
theorem dX4_worldsOfLetter_19 : decode cX4_worldsOfLetter 19 = .ok (.iload 4, 2) := dq_21 (dq_suf 3 dt07cX4_worldsOfLetter_1 rfl rfl) rfl
theorem dX4_worldsOfLetter_21 : decode cX4_worldsOfLetter 21 = .ok (.iaload, 1) := dq_46 (dq_suf 5 dt07cX4_worldsOfLetter_1 rfl rfl)
theorem dX4_worldsOfLetter_22 : decode cX4_worldsOfLetter 22 = .ok (.iload_n 1, 1) := dq_27 (dq_suf 6 dt07cX4_worldsOfLetter_1 rfl rfl)
theorem dX4_worldsOfLetter_23 : decode cX4_worldsOfLetter 23 = .ok (.iushr, 1) := dq_124 (dq_suf 7 dt07cX4_worldsOfLetter_1 rfl rfl)
theorem dX4_worldsOfLetter_24 : decode cX4_worldsOfLetter 24 = .ok (.iconst 1, 1) := dq_4 (dq_suf 8 dt07cX4_worldsOfLetter_1 rfl rfl)
theorem dX4_worldsOfLetter_25 : decode cX4_worldsOfLetter 25 = .ok (.iand, 1) := dq_126 (dq_suf 9 dt07cX4_worldsOfLetter_1 rfl rfl)
theorem dX4_worldsOfLetter_26 : decode cX4_worldsOfLetter 26 = .ok (.i2l, 1) := dq_133 (dq_suf 10 dt07cX4_worldsOfLetter_1 rfl rfl)
theorem dX4_worldsOfLetter_27 : decode cX4_worldsOfLetter 27 = .ok (.iload 4, 2) := dq_21 (dq_suf 11 dt07cX4_worldsOfLetter_1 rfl rfl) rfl
theorem dX4_worldsOfLetter_29 : decode cX4_worldsOfLetter 29 = .ok (.lshl, 1) := dq_121 (dq_suf 13 dt07cX4_worldsOfLetter_1 rfl rfl)
theorem dX4_worldsOfLetter_30 : decode cX4_worldsOfLetter 30 = .ok (.lor, 1) := dq_129 (dq_suf 14 dt07cX4_worldsOfLetter_1 rfl rfl)
theorem dX4_worldsOfLetter_31 : decode cX4_worldsOfLetter 31 = .ok (.lstore_n 2, 1) := dq_65 (dq_suf 15 dt07cX4_worldsOfLetter_1 rfl rfl)
theorem dX4_worldsOfLetter_32 : decode cX4_worldsOfLetter 32 = .ok (.iinc 4 1, 3) := dq_132 (dq_suf 0 dt07cX4_worldsOfLetter_2 rfl rfl) rfl (by decide +kernel)
theorem dX4_worldsOfLetter_35 : decode cX4_worldsOfLetter 35 = .ok (.goto (-30), 3) := dq_167 (dq_suf 3 dt07cX4_worldsOfLetter_2 rfl rfl) (by decide +kernel)
theorem dX4_worldsOfLetter_38 : decode cX4_worldsOfLetter 38 = .ok (.lload_n 2, 1) := dq_32 (dq_suf 6 dt07cX4_worldsOfLetter_2 rfl rfl)
theorem dX4_worldsOfLetter_39 : decode cX4_worldsOfLetter 39 = .ok (.lreturn, 1) := dq_173 (dq_suf 7 dt07cX4_worldsOfLetter_2 rfl rfl)
noncomputable def ds07cX4_worldsSeeing_2 : List UInt8 := 121 :: 129 :: 66 :: 132 :: 5 :: 1 :: 167 :: 255 :: 223 :: 33 :: 173 :: []
noncomputable def ds07cX4_worldsSeeing_1 : List UInt8 := 0 :: 15 :: 21 :: 5 :: 47 :: 31 :: 127 :: 9 :: 148 :: 153 :: 0 :: 10 :: 33 :: 10 :: 21 :: 5 :: ds07cX4_worldsSeeing_2
noncomputable def ds07cX4_worldsSeeing_0 : List UInt8 := 9 :: 66 :: 3 :: 54 :: 5 :: 21 :: 5 :: 42 :: 180 :: 0 :: 41 :: 162 :: 0 :: 30 :: 42 :: 180 :: ds07cX4_worldsSeeing_1
theorem dt07cX4_worldsSeeing_0 : cX4_worldsSeeing.data.toList.drop 0 = ds07cX4_worldsSeeing_0 := by decide +kernel
theorem dt07cX4_worldsSeeing_1 : cX4_worldsSeeing.data.toList.drop 16 = ds07cX4_worldsSeeing_1 := dq_suf 16 dt07cX4_worldsSeeing_0 rfl rfl
theorem dt07cX4_worldsSeeing_2 : cX4_worldsSeeing.data.toList.drop 32 = ds07cX4_worldsSeeing_2 := dq_suf 16 dt07cX4_worldsSeeing_1 rfl rfl
theorem dX4_worldsSeeing_0 : decode cX4_worldsSeeing 0 = .ok (.lconst 0, 1) := dq_9 (dq_suf 0 dt07cX4_worldsSeeing_0 rfl rfl)
theorem dX4_worldsSeeing_1 : decode cX4_worldsSeeing 1 = .ok (.lstore_n 3, 1) := dq_66 (dq_suf 1 dt07cX4_worldsSeeing_0 rfl rfl)
theorem dX4_worldsSeeing_2 : decode cX4_worldsSeeing 2 = .ok (.iconst 0, 1) := dq_3 (dq_suf 2 dt07cX4_worldsSeeing_0 rfl rfl)
theorem dX4_worldsSeeing_3 : decode cX4_worldsSeeing 3 = .ok (.istore 5, 2) := dq_54 (dq_suf 3 dt07cX4_worldsSeeing_0 rfl rfl) rfl
theorem dX4_worldsSeeing_5 : decode cX4_worldsSeeing 5 = .ok (.iload 5, 2) := dq_21 (dq_suf 5 dt07cX4_worldsSeeing_0 rfl rfl) rfl
theorem dX4_worldsSeeing_7 : decode cX4_worldsSeeing 7 = .ok (.aload_n 0, 1) := dq_42 (dq_suf 7 dt07cX4_worldsSeeing_0 rfl rfl)
theorem dX4_worldsSeeing_8 : decode cX4_worldsSeeing 8 = .ok (.getfield 41, 3) := dq_180 (dq_suf 8 dt07cX4_worldsSeeing_0 rfl rfl) rfl
theorem dX4_worldsSeeing_11 : decode cX4_worldsSeeing 11 = .ok (.if_icmp .ge 30, 3) := dq_162 (dq_suf 11 dt07cX4_worldsSeeing_0 rfl rfl) (by decide +kernel)
theorem dX4_worldsSeeing_14 : decode cX4_worldsSeeing 14 = .ok (.aload_n 0, 1) := dq_42 (dq_suf 14 dt07cX4_worldsSeeing_0 rfl rfl)
theorem dX4_worldsSeeing_15 : decode cX4_worldsSeeing 15 = .ok (.getfield 15, 3) := dq_180 (dq_suf 15 dt07cX4_worldsSeeing_0 rfl rfl) rfl
theorem dX4_worldsSeeing_18 : decode cX4_worldsSeeing 18 = .ok (.iload 5, 2) := dq_21 (dq_suf 2 dt07cX4_worldsSeeing_1 rfl rfl) rfl
theorem dX4_worldsSeeing_20 : decode cX4_worldsSeeing 20 = .ok (.laload, 1) := dq_47 (dq_suf 4 dt07cX4_worldsSeeing_1 rfl rfl)
theorem dX4_worldsSeeing_21 : decode cX4_worldsSeeing 21 = .ok (.lload_n 1, 1) := dq_31 (dq_suf 5 dt07cX4_worldsSeeing_1 rfl rfl)
theorem dX4_worldsSeeing_22 : decode cX4_worldsSeeing 22 = .ok (.land, 1) := dq_127 (dq_suf 6 dt07cX4_worldsSeeing_1 rfl rfl)
theorem dX4_worldsSeeing_23 : decode cX4_worldsSeeing 23 = .ok (.lconst 0, 1) := dq_9 (dq_suf 7 dt07cX4_worldsSeeing_1 rfl rfl)
theorem dX4_worldsSeeing_24 : decode cX4_worldsSeeing 24 = .ok (.lcmp, 1) := dq_148 (dq_suf 8 dt07cX4_worldsSeeing_1 rfl rfl)
theorem dX4_worldsSeeing_25 : decode cX4_worldsSeeing 25 = .ok (.ifCond .eq 10, 3) := dq_153 (dq_suf 9 dt07cX4_worldsSeeing_1 rfl rfl) (by decide +kernel)
theorem dX4_worldsSeeing_28 : decode cX4_worldsSeeing 28 = .ok (.lload_n 3, 1) := dq_33 (dq_suf 12 dt07cX4_worldsSeeing_1 rfl rfl)
theorem dX4_worldsSeeing_29 : decode cX4_worldsSeeing 29 = .ok (.lconst 1, 1) := dq_10 (dq_suf 13 dt07cX4_worldsSeeing_1 rfl rfl)
theorem dX4_worldsSeeing_30 : decode cX4_worldsSeeing 30 = .ok (.iload 5, 2) := dq_21 (dq_suf 14 dt07cX4_worldsSeeing_1 rfl rfl) rfl
theorem dX4_worldsSeeing_32 : decode cX4_worldsSeeing 32 = .ok (.lshl, 1) := dq_121 (dq_suf 0 dt07cX4_worldsSeeing_2 rfl rfl)
theorem dX4_worldsSeeing_33 : decode cX4_worldsSeeing 33 = .ok (.lor, 1) := dq_129 (dq_suf 1 dt07cX4_worldsSeeing_2 rfl rfl)
theorem dX4_worldsSeeing_34 : decode cX4_worldsSeeing 34 = .ok (.lstore_n 3, 1) := dq_66 (dq_suf 2 dt07cX4_worldsSeeing_2 rfl rfl)
theorem dX4_worldsSeeing_35 : decode cX4_worldsSeeing 35 = .ok (.iinc 5 1, 3) := dq_132 (dq_suf 3 dt07cX4_worldsSeeing_2 rfl rfl) rfl (by decide +kernel)
theorem dX4_worldsSeeing_38 : decode cX4_worldsSeeing 38 = .ok (.goto (-33), 3) := dq_167 (dq_suf 6 dt07cX4_worldsSeeing_2 rfl rfl) (by decide +kernel)
theorem dX4_worldsSeeing_41 : decode cX4_worldsSeeing 41 = .ok (.lload_n 3, 1) := dq_33 (dq_suf 9 dt07cX4_worldsSeeing_2 rfl rfl)
theorem dX4_worldsSeeing_42 : decode cX4_worldsSeeing 42 = .ok (.lreturn, 1) := dq_173 (dq_suf 10 dt07cX4_worldsSeeing_2 rfl rfl)
noncomputable def ds07cX4_splitBySigns_5 : List UInt8 := 255 :: 233 :: 27 :: 172 :: []
noncomputable def ds07cX4_splitBySigns_4 : List UInt8 := 42 :: 180 :: 0 :: 25 :: 28 :: 42 :: 180 :: 0 :: 28 :: 28 :: 46 :: 79 :: 132 :: 2 :: 1 :: 167 :: ds07cX4_splitBySigns_5
noncomputable def ds07cX4_splitBySigns_3 : List UInt8 := 132 :: 2 :: 1 :: 167 :: 255 :: 209 :: 3 :: 61 :: 28 :: 42 :: 180 :: 0 :: 41 :: 162 :: 0 :: 21 :: ds07cX4_splitBySigns_4
noncomputable def ds07cX4_splitBySigns_2 : List UInt8 := 1 :: 167 :: 0 :: 15 :: 42 :: 180 :: 0 :: 28 :: 28 :: 42 :: 180 :: 0 :: 28 :: 29 :: 46 :: 79 :: ds07cX4_splitBySigns_3
noncomputable def ds07cX4_splitBySigns_1 : List UInt8 := 111 :: 62 :: 29 :: 28 :: 160 :: 0 :: 16 :: 42 :: 180 :: 0 :: 28 :: 28 :: 27 :: 79 :: 132 :: 1 :: ds07cX4_splitBySigns_2
noncomputable def ds07cX4_splitBySigns_0 : List UInt8 := 3 :: 60 :: 3 :: 61 :: 28 :: 42 :: 180 :: 0 :: 41 :: 162 :: 0 :: 45 :: 42 :: 28 :: 182 :: 0 :: ds07cX4_splitBySigns_1
theorem dt07cX4_splitBySigns_0 : cX4_splitBySigns.data.toList.drop 0 = ds07cX4_splitBySigns_0 := by decide +kernel
theorem dt07cX4_splitBySigns_1 : cX4_splitBySigns.data.toList.drop 16 = ds07cX4_splitBySigns_1 := dq_suf 16 dt07cX4_splitBySigns_0 rfl rfl
theorem dX4_splitBySigns_0 : decode cX4_splitBySigns 0 = .ok (.iconst 0, 1) := dq_3 (dq_suf 0 dt07cX4_splitBySigns_0 rfl rfl)
theorem dX4_splitBySigns_1 : decode cX4_splitBySigns 1 = .ok (.istore_n 1, 1) := dq_60 (dq_suf 1 dt07cX4_splitBySigns_0 rfl rfl)
theorem dX4_splitBySigns_2 : decode cX4_splitBySigns 2 = .ok (.iconst 0, 1) := dq_3 (dq_suf 2 dt07cX4_splitBySigns_0 rfl rfl)
theorem dX4_splitBySigns_3 : decode cX4_splitBySigns 3 = .ok (.istore_n 2, 1) := dq_61 (dq_suf 3 dt07cX4_splitBySigns_0 rfl rfl)
theorem dX4_splitBySigns_4 : decode cX4_splitBySigns 4 = .ok (.iload_n 2, 1) := dq_28 (dq_suf 4 dt07cX4_splitBySigns_0 rfl rfl)
theorem dX4_splitBySigns_5 : decode cX4_splitBySigns 5 = .ok (.aload_n 0, 1) := dq_42 (dq_suf 5 dt07cX4_splitBySigns_0 rfl rfl)
theorem dX4_splitBySigns_6 : decode cX4_splitBySigns 6 = .ok (.getfield 41, 3) := dq_180 (dq_suf 6 dt07cX4_splitBySigns_0 rfl rfl) rfl
theorem dX4_splitBySigns_9 : decode cX4_splitBySigns 9 = .ok (.if_icmp .ge 45, 3) := dq_162 (dq_suf 9 dt07cX4_splitBySigns_0 rfl rfl) (by decide +kernel)
theorem dX4_splitBySigns_12 : decode cX4_splitBySigns 12 = .ok (.aload_n 0, 1) := dq_42 (dq_suf 12 dt07cX4_splitBySigns_0 rfl rfl)
theorem dX4_splitBySigns_13 : decode cX4_splitBySigns 13 = .ok (.iload_n 2, 1) := dq_28 (dq_suf 13 dt07cX4_splitBySigns_0 rfl rfl)
theorem dX4_splitBySigns_14 : decode cX4_splitBySigns 14 = .ok (.invokevirtual 111, 3) := dq_182 (dq_suf 14 dt07cX4_splitBySigns_0 rfl rfl) rfl
theorem dX4_splitBySigns_17 : decode cX4_splitBySigns 17 = .ok (.istore_n 3, 1) := dq_62 (dq_suf 1 dt07cX4_splitBySigns_1 rfl rfl)
theorem dX4_splitBySigns_18 : decode cX4_splitBySigns 18 = .ok (.iload_n 3, 1) := dq_29 (dq_suf 2 dt07cX4_splitBySigns_1 rfl rfl)
theorem dX4_splitBySigns_19 : decode cX4_splitBySigns 19 = .ok (.iload_n 2, 1) := dq_28 (dq_suf 3 dt07cX4_splitBySigns_1 rfl rfl)
theorem dX4_splitBySigns_20 : decode cX4_splitBySigns 20 = .ok (.if_icmp .ne 16, 3) := dq_160 (dq_suf 4 dt07cX4_splitBySigns_1 rfl rfl) (by decide +kernel)
theorem dX4_splitBySigns_23 : decode cX4_splitBySigns 23 = .ok (.aload_n 0, 1) := dq_42 (dq_suf 7 dt07cX4_splitBySigns_1 rfl rfl)
