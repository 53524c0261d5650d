noncomputable def ds06cX2_init_3 : List UInt8 := 24 :: 42 :: 43 :: 181 :: 0 :: 27 :: 177 :: []
noncomputable def ds06cX2_init_2 : List UInt8 := 17 :: 1 :: 44 :: 188 :: 10 :: 181 :: 0 :: 21 :: 42 :: 17 :: 0 :: 150 :: 188 :: 10 :: 181 :: 0 :: ds06cX2_init_3
noncomputable def ds06cX2_init_1 : List UInt8 := 150 :: 188 :: 10 :: 181 :: 0 :: 15 :: 42 :: 17 :: 0 :: 150 :: 188 :: 10 :: 181 :: 0 :: 18 :: 42 :: ds06cX2_init_2
noncomputable def ds06cX2_init_0 : List UInt8 := 42 :: 183 :: 0 :: 3 :: 42 :: 17 :: 0 :: 150 :: 188 :: 10 :: 181 :: 0 :: 11 :: 42 :: 17 :: 0 :: ds06cX2_init_1
theorem dt06cX2_init_0 : cX2_init.data.toList.drop 0 = ds06cX2_init_0 := by decide +kernel
theorem dt06cX2_init_1 : cX2_init.data.toList.drop 16 = ds06cX2_init_1 := dq_suf 16 dt06cX2_init_0 rfl rfl
theorem dt06cX2_init_2 : cX2_init.data.toList.drop 32 = ds06cX2_init_2 := dq_suf 16 dt06cX2_init_1 rfl rfl
theorem dt06cX2_init_3 : cX2_init.data.toList.drop 48 = ds06cX2_init_3 := dq_suf 16 dt06cX2_init_2 rfl rfl
theorem dX2_init_0 : decode cX2_init 0 = .ok (.aload_n 0, 1) := dq_42 (dq_suf 0 dt06cX2_init_0 rfl rfl)
theorem dX2_init_1 : decode cX2_init 1 = .ok (.invokespecial 3, 3) := dq_183 (dq_suf 1 dt06cX2_init_0 rfl rfl) rfl
theorem dX2_init_4 : decode cX2_init 4 = .ok (.aload_n 0, 1) := dq_42 (dq_suf 4 dt06cX2_init_0 rfl rfl)
theorem dX2_init_5 : decode cX2_init 5 = .ok (.sipush 150, 3) := dq_17 (dq_suf 5 dt06cX2_init_0 rfl rfl) (by decide +kernel)
theorem dX2_init_8 : decode cX2_init 8 = .ok (.newarray .int, 2) := by decide +kernel
theorem dX2_init_10 : decode cX2_init 10 = .ok (.putfield 11, 3) := dq_181 (dq_suf 10 dt06cX2_init_0 rfl rfl) rfl
theorem dX2_init_13 : decode cX2_init 13 = .ok (.aload_n 0, 1) := dq_42 (dq_suf 13 dt06cX2_init_0 rfl rfl)
theorem dX2_init_14 : decode cX2_init 14 = .ok (.sipush 150, 3) := dq_17 (dq_suf 14 dt06cX2_init_0 rfl rfl) (by decide +kernel)
theorem dX2_init_17 : decode cX2_init 17 = .ok (.newarray .int, 2) := by decide +kernel
theorem dX2_init_19 : decode cX2_init 19 = .ok (.putfield 15, 3) := dq_181 (dq_suf 3 dt06cX2_init_1 rfl rfl) rfl
theorem dX2_init_22 : decode cX2_init 22 = .ok (.aload_n 0, 1) := dq_42 (dq_suf 6 dt06cX2_init_1 rfl rfl)
theorem dX2_init_23 : decode cX2_init 23 = .ok (.sipush 150, 3) := dq_17 (dq_suf 7 dt06cX2_init_1 rfl rfl) (by decide +kernel)
theorem dX2_init_26 : decode cX2_init 26 = .ok (.newarray .int, 2) := by decide +kernel
theorem dX2_init_28 : decode cX2_init 28 = .ok (.putfield 18, 3) := dq_181 (dq_suf 12 dt06cX2_init_1 rfl rfl) rfl
theorem dX2_init_31 : decode cX2_init 31 = .ok (.aload_n 0, 1) := dq_42 (dq_suf 15 dt06cX2_init_1 rfl rfl)
theorem dX2_init_32 : decode cX2_init 32 = .ok (.sipush 300, 3) := dq_17 (dq_suf 0 dt06cX2_init_2 rfl rfl) (by decide +kernel)
theorem dX2_init_35 : decode cX2_init 35 = .ok (.newarray .int, 2) := by decide +kernel
theorem dX2_init_37 : decode cX2_init 37 = .ok (.putfield 21, 3) := dq_181 (dq_suf 5 dt06cX2_init_2 rfl rfl) rfl
theorem dX2_init_40 : decode cX2_init 40 = .ok (.aload_n 0, 1) := dq_42 (dq_suf 8 dt06cX2_init_2 rfl rfl)
theorem dX2_init_41 : decode cX2_init 41 = .ok (.sipush 150, 3) := dq_17 (dq_suf 9 dt06cX2_init_2 rfl rfl) (by decide +kernel)
theorem dX2_init_44 : decode cX2_init 44 = .ok (.newarray .int, 2) := by decide +kernel
theorem dX2_init_46 : decode cX2_init 46 = .ok (.putfield 24, 3) := dq_181 (dq_suf 14 dt06cX2_init_2 rfl rfl) rfl
theorem dX2_init_49 : decode cX2_init 49 = .ok (.aload_n 0, 1) := dq_42 (dq_suf 1 dt06cX2_init_3 rfl rfl)
theorem dX2_init_50 : decode cX2_init 50 = .ok (.aload_n 1, 1) := dq_43 (dq_suf 2 dt06cX2_init_3 rfl rfl)
theorem dX2_init_51 : decode cX2_init 51 = .ok (.putfield 27, 3) := dq_181 (dq_suf 3 dt06cX2_init_3 rfl rfl) rfl
theorem dX2_init_54 : decode cX2_init 54 = .ok (.return_, 1) := dq_177 (dq_suf 6 dt06cX2_init_3 rfl rfl)
noncomputable def ds06cX2_deny_0 : List UInt8 := 26 :: 4 :: 130 :: 172 :: []
theorem dt06cX2_deny_0 : cX2_deny.data.toList.drop 0 = ds06cX2_deny_0 := by decide +kernel
theorem dX2_deny_0 : decode cX2_deny 0 = .ok (.iload_n 0, 1) := dq_26 (dq_suf 0 dt06cX2_deny_0 rfl rfl)
theorem dX2_deny_1 : decode cX2_deny 1 = .ok (.iconst 1, 1) := dq_4 (dq_suf 1 dt06cX2_deny_0 rfl rfl)
theorem dX2_deny_2 : decode cX2_deny 2 = .ok (.ixor, 1) := dq_130 (dq_suf 2 dt06cX2_deny_0 rfl rfl)
theorem dX2_deny_3 : decode cX2_deny 3 = .ok (.ireturn, 1) := dq_172 (dq_suf 3 dt06cX2_deny_0 rfl rfl)
noncomputable def ds06cX2_clear_1 : List UInt8 := 39 :: 87 :: 177 :: []
noncomputable def ds06cX2_clear_0 : List UInt8 := 42 :: 3 :: 181 :: 0 :: 31 :: 42 :: 3 :: 181 :: 0 :: 35 :: 42 :: 3 :: 2 :: 2 :: 182 :: 0 :: ds06cX2_clear_1
theorem dt06cX2_clear_0 : cX2_clear.data.toList.drop 0 = ds06cX2_clear_0 := by decide +kernel
theorem dt06cX2_clear_1 : cX2_clear.data.toList.drop 16 = ds06cX2_clear_1 := dq_suf 16 dt06cX2_clear_0 rfl rfl
theorem dX2_clear_0 : decode cX2_clear 0 = .ok (.aload_n 0, 1) := dq_42 (dq_suf 0 dt06cX2_clear_0 rfl rfl)
theorem dX2_clear_1 : decode cX2_clear 1 = .ok (.iconst 0, 1) := dq_3 (dq_suf 1 dt06cX2_clear_0 rfl rfl)
theorem dX2_clear_2 : decode cX2_clear 2 = .ok (.putfield 31, 3) := dq_181 (dq_suf 2 dt06cX2_clear_0 rfl rfl) rfl
theorem dX2_clear_5 : decode cX2_clear 5 = .ok (.aload_n 0, 1) := dq_42 (dq_suf 5 dt06cX2_clear_0 rfl rfl)
theorem dX2_clear_6 : decode cX2_clear 6 = .ok (.iconst 0, 1) := dq_3 (dq_suf 6 dt06cX2_clear_0 rfl rfl)
theorem dX2_clear_7 : decode cX2_clear 7 = .ok (.putfield 35, 3) := dq_181 (dq_suf 7 dt06cX2_clear_0 rfl rfl) rfl
theorem dX2_clear_10 : decode cX2_clear 10 = .ok (.aload_n 0, 1) := dq_42 (dq_suf 10 dt06cX2_clear_0 rfl rfl)
theorem dX2_clear_11 : decode cX2_clear 11 = .ok (.iconst 0, 1) := dq_3 (dq_suf 11 dt06cX2_clear_0 rfl rfl)
theorem dX2_clear_12 : decode cX2_clear 12 = .ok (.iconst (-1), 1) := dq_2 (dq_suf 12 dt06cX2_clear_0 rfl rfl)
theorem dX2_clear_13 : decode cX2_clear 13 = .ok (.iconst (-1), 1) := dq_2 (dq_suf 13 dt06cX2_clear_0 rfl rfl)
theorem dX2_clear_14 : decode cX2_clear 14 = .ok (.invokevirtual 39, 3) := dq_182 (dq_suf 14 dt06cX2_clear_0 rfl rfl) rfl
theorem dX2_clear_17 : decode cX2_clear 17 = .ok (.pop, 1) := dq_87 (dq_suf 1 dt06cX2_clear_1 rfl rfl)
theorem dX2_clear_18 : decode cX2_clear 18 = .ok (.return_, 1) := dq_177 (dq_suf 2 dt06cX2_clear_1 rfl rfl)
noncomputable def ds06cX2_isOver_0 : List UInt8 := 42 :: 180 :: 0 :: 35 :: 172 :: []
theorem dt06cX2_isOver_0 : cX2_isOver.data.toList.drop 0 = ds06cX2_isOver_0 := by decide +kernel
theorem dX2_isOver_0 : decode cX2_isOver 0 = .ok (.aload_n 0, 1) := dq_42 (dq_suf 0 dt06cX2_isOver_0 rfl rfl)
theorem dX2_isOver_1 : decode cX2_isOver 1 = .ok (.getfield 35, 3) := dq_180 (dq_suf 1 dt06cX2_isOver_0 rfl rfl) rfl
theorem dX2_isOver_4 : decode cX2_isOver 4 = .ok (.ireturn, 1) := dq_172 (dq_suf 4 dt06cX2_isOver_0 rfl rfl)
noncomputable def ds06cX2_letter_0 : List UInt8 := 42 :: 5 :: 27 :: 2 :: 182 :: 0 :: 39 :: 172 :: []
theorem dt06cX2_letter_0 : cX2_letter.data.toList.drop 0 = ds06cX2_letter_0 := by decide +kernel
theorem dX2_letter_0 : decode cX2_letter 0 = .ok (.aload_n 0, 1) := dq_42 (dq_suf 0 dt06cX2_letter_0 rfl rfl)
theorem dX2_letter_1 : decode cX2_letter 1 = .ok (.iconst 2, 1) := dq_5 (dq_suf 1 dt06cX2_letter_0 rfl rfl)
theorem dX2_letter_2 : decode cX2_letter 2 = .ok (.iload_n 1, 1) := dq_27 (dq_suf 2 dt06cX2_letter_0 rfl rfl)
theorem dX2_letter_3 : decode cX2_letter 3 = .ok (.iconst (-1), 1) := dq_2 (dq_suf 3 dt06cX2_letter_0 rfl rfl)
theorem dX2_letter_4 : decode cX2_letter 4 = .ok (.invokevirtual 39, 3) := dq_182 (dq_suf 4 dt06cX2_letter_0 rfl rfl) rfl
theorem dX2_letter_7 : decode cX2_letter 7 = .ok (.ireturn, 1) := dq_172 (dq_suf 7 dt06cX2_letter_0 rfl rfl)
noncomputable def ds06cX2_both_0 : List UInt8 := 42 :: 7 :: 27 :: 28 :: 182 :: 0 :: 39 :: 172 :: []
theorem dt06cX2_both_0 : cX2_both.data.toList.drop 0 = ds06cX2_both_0 := by decide +kernel
theorem dX2_both_0 : decode cX2_both 0 = .ok (.aload_n 0, 1) := dq_42 (dq_suf 0 dt06cX2_both_0 rfl rfl)
theorem dX2_both_1 : decode cX2_both 1 = .ok (.iconst 4, 1) := dq_7 (dq_suf 1 dt06cX2_both_0 rfl rfl)
theorem dX2_both_2 : decode cX2_both 2 = .ok (.iload_n 1, 1) := dq_27 (dq_suf 2 dt06cX2_both_0 rfl rfl)
theorem dX2_both_3 : decode cX2_both 3 = .ok (.iload_n 2, 1) := dq_28 (dq_suf 3 dt06cX2_both_0 rfl rfl)
theorem dX2_both_4 : decode cX2_both 4 = .ok (.invokevirtual 39, 3) := dq_182 (dq_suf 4 dt06cX2_both_0 rfl rfl) rfl
theorem dX2_both_7 : decode cX2_both 7 = .ok (.ireturn, 1) := dq_172 (dq_suf 7 dt06cX2_both_0 rfl rfl)
noncomputable def ds06cX2_either_1 : List UInt8 := 172 :: []
noncomputable def ds06cX2_either_0 : List UInt8 := 42 :: 7 :: 27 :: 184 :: 0 :: 43 :: 28 :: 184 :: 0 :: 43 :: 182 :: 0 :: 39 :: 184 :: 0 :: 43 :: ds06cX2_either_1
theorem dt06cX2_either_0 : cX2_either.data.toList.drop 0 = ds06cX2_either_0 := by decide +kernel
theorem dt06cX2_either_1 : cX2_either.data.toList.drop 16 = ds06cX2_either_1 := dq_suf 16 dt06cX2_either_0 rfl rfl
theorem dX2_either_0 : decode cX2_either 0 = .ok (.aload_n 0, 1) := dq_42 (dq_suf 0 dt06cX2_either_0 rfl rfl)
theorem dX2_either_1 : decode cX2_either 1 = .ok (.iconst 4, 1) := dq_7 (dq_suf 1 dt06cX2_either_0 rfl rfl)
theorem dX2_either_2 : decode cX2_either 2 = .ok (.iload_n 1, 1) := dq_27 (dq_suf 2 dt06cX2_either_0 rfl rfl)
theorem dX2_either_3 : decode cX2_either 3 = .ok (.invokestatic 43, 3) := dq_184 (dq_suf 3 dt06cX2_either_0 rfl rfl) rfl
theorem dX2_either_6 : decode cX2_either 6 = .ok (.iload_n 2, 1) := dq_28 (dq_suf 6 dt06cX2_either_0 rfl rfl)
theorem dX2_either_7 : decode cX2_either 7 = .ok (.invokestatic 43, 3) := dq_184 (dq_suf 7 dt06cX2_either_0 rfl rfl) rfl
theorem dX2_either_10 : decode cX2_either 10 = .ok (.invokevirtual 39, 3) := dq_182 (dq_suf 10 dt06cX2_either_0 rfl rfl) rfl
theorem dX2_either_13 : decode cX2_either 13 = .ok (.invokestatic 43, 3) := dq_184 (dq_suf 13 dt06cX2_either_0 rfl rfl) rfl
theorem dX2_either_16 : decode cX2_either 16 = .ok (.ireturn, 1) := dq_172 (dq_suf 0 dt06cX2_either_1 rfl rfl)
noncomputable def ds06cX2_need_0 : List UInt8 := 42 :: 16 :: 6 :: 27 :: 2 :: 182 :: 0 :: 39 :: 172 :: []
theorem dt06cX2_need_0 : cX2_need.data.toList.drop 0 = ds06cX2_need_0 := by decide +kernel
theorem dX2_need_0 : decode cX2_need 0 = .ok (.aload_n 0, 1) := dq_42 (dq_suf 0 dt06cX2_need_0 rfl rfl)
theorem dX2_need_1 : decode cX2_need 1 = .ok (.bipush 6, 2) := dq_16 (dq_suf 1 dt06cX2_need_0 rfl rfl) (by decide +kernel)
theorem dX2_need_3 : decode cX2_need 3 = .ok (.iload_n 1, 1) := dq_27 (dq_suf 3 dt06cX2_need_0 rfl rfl)
theorem dX2_need_4 : decode cX2_need 4 = .ok (.iconst (-1), 1) := dq_2 (dq_suf 4 dt06cX2_need_0 rfl rfl)
theorem dX2_need_5 : decode cX2_need 5 = .ok (.invokevirtual 39, 3) := dq_182 (dq_suf 5 dt06cX2_need_0 rfl rfl) rfl
theorem dX2_need_8 : decode cX2_need 8 = .ok (.ireturn, 1) := dq_172 (dq_suf 8 dt06cX2_need_0 rfl rfl)
noncomputable def ds06cX2_may_0 : List UInt8 := 42 :: 16 :: 6 :: 27 :: 184 :: 0 :: 43 :: 2 :: 182 :: 0 :: 39 :: 184 :: 0 :: 43 :: 172 :: []
theorem dt06cX2_may_0 : cX2_may.data.toList.drop 0 = ds06cX2_may_0 := by decide +kernel
theorem dX2_may_0 : decode cX2_may 0 = .ok (.aload_n 0, 1) := dq_42 (dq_suf 0 dt06cX2_may_0 rfl rfl)
theorem dX2_may_1 : decode cX2_may 1 = .ok (.bipush 6, 2) := dq_16 (dq_suf 1 dt06cX2_may_0 rfl rfl) (by decide +kernel)
theorem dX2_may_3 : decode cX2_may 3 = .ok (.iload_n 1, 1) := dq_27 (dq_suf 3 dt06cX2_may_0 rfl rfl)
theorem dX2_may_4 : decode cX2_may 4 = .ok (.invokestatic 43, 3) := dq_184 (dq_suf 4 dt06cX2_may_0 rfl rfl) rfl
theorem dX2_may_7 : decode cX2_may 7 = .ok (.iconst (-1), 1) := dq_2 (dq_suf 7 dt06cX2_may_0 rfl rfl)
theorem dX2_may_8 : decode cX2_may 8 = .ok (.invokevirtual 39, 3) := dq_182 (dq_suf 8 dt06cX2_may_0 rfl rfl) rfl
theorem dX2_may_11 : decode cX2_may 11 = .ok (.invokestatic 43, 3) := dq_184 (dq_suf 11 dt06cX2_may_0 rfl rfl) rfl
theorem dX2_may_14 : decode cX2_may 14 = .ok (.ireturn, 1) := dq_172 (dq_suf 14 dt06cX2_may_0 rfl rfl)
noncomputable def ds06cX2_build_5 : List UInt8 := 3 :: 1 :: 167 :: 255 :: 185 :: 42 :: 27 :: 182 :: 0 :: 59 :: 172 :: []
noncomputable def ds06cX2_build_4 : List UInt8 := 2 :: 255 :: 167 :: 0 :: 13 :: 132 :: 2 :: 1 :: 42 :: 28 :: 21 :: 4 :: 182 :: 0 :: 55 :: 132 :: ds06cX2_build_5
noncomputable def ds06cX2_build_3 : List UInt8 := 42 :: 42 :: 180 :: 0 :: 24 :: 28 :: 46 :: 182 :: 0 :: 51 :: 154 :: 0 :: 5 :: 2 :: 172 :: 132 :: ds06cX2_build_4
noncomputable def ds06cX2_build_2 : List UInt8 := 180 :: 0 :: 24 :: 28 :: 46 :: 182 :: 0 :: 48 :: 54 :: 4 :: 21 :: 4 :: 2 :: 160 :: 0 :: 24 :: ds06cX2_build_3
noncomputable def ds06cX2_build_1 : List UInt8 := 71 :: 28 :: 155 :: 0 :: 67 :: 28 :: 42 :: 180 :: 0 :: 24 :: 190 :: 162 :: 0 :: 58 :: 42 :: 42 :: ds06cX2_build_2
noncomputable def ds06cX2_build_0 : List UInt8 := 3 :: 61 :: 42 :: 180 :: 0 :: 24 :: 28 :: 27 :: 79 :: 3 :: 62 :: 29 :: 18 :: 47 :: 162 :: 0 :: ds06cX2_build_1
theorem dt06cX2_build_0 : cX2_build.data.toList.drop 0 = ds06cX2_build_0 := by decide +kernel
theorem dt06cX2_build_1 : cX2_build.data.toList.drop 16 = ds06cX2_build_1 := dq_suf 16 dt06cX2_build_0 rfl rfl
theorem dt06cX2_build_2 : cX2_build.data.toList.drop 32 = ds06cX2_build_2 := dq_suf 16 dt06cX2_build_1 rfl rfl
theorem dt06cX2_build_3 : cX2_build.data.toList.drop 48 = ds06cX2_build_3 := dq_suf 16 dt06cX2_build_2 rfl rfl
theorem dt06cX2_build_4 : cX2_build.data.toList.drop 64 = ds06cX2_build_4 := dq_suf 16 dt06cX2_build_3 rfl rfl
theorem dt06cX2_build_5 : cX2_build.data.toList.drop 80 = ds06cX2_build_5 := dq_suf 16 dt06cX2_build_4 rfl rfl
theorem dX2_build_0 : decode cX2_build 0 = .ok (.iconst 0, 1) := dq_3 (dq_suf 0 dt06cX2_build_0 rfl rfl)
theorem dX2_build_1 : decode cX2_build 1 = .ok (.istore_n 2, 1) := dq_61 (dq_suf 1 dt06cX2_build_0 rfl rfl)
theorem dX2_build_2 : decode cX2_build 2 = .ok (.aload_n 0, 1) := dq_42 (dq_suf 2 dt06cX2_build_0 rfl rfl)
theorem dX2_build_3 : decode cX2_build 3 = .ok (.getfield 24, 3) := dq_180 (dq_suf 3 dt06cX2_build_0 rfl rfl) rfl
theorem dX2_build_6 : decode cX2_build 6 = .ok (.iload_n 2, 1) := dq_28 (dq_suf 6 dt06cX2_build_0 rfl rfl)
theorem dX2_build_7 : decode cX2_build 7 = .ok (.iload_n 1, 1) := dq_27 (dq_suf 7 dt06cX2_build_0 rfl rfl)
theorem dX2_build_8 : decode cX2_build 8 = .ok (.iastore, 1) := dq_79 (dq_suf 8 dt06cX2_build_0 rfl rfl)
theorem dX2_build_9 : decode cX2_build 9 = .ok (.iconst 0, 1) := dq_3 (dq_suf 9 dt06cX2_build_0 rfl rfl)
theorem dX2_build_10 : decode cX2_build 10 = .ok (.istore_n 3, 1) := dq_62 (dq_suf 10 dt06cX2_build_0 rfl rfl)
theorem dX2_build_11 : decode cX2_build 11 = .ok (.iload_n 3, 1) := dq_29 (dq_suf 11 dt06cX2_build_0 rfl rfl)
theorem dX2_build_12 : decode cX2_build 12 = .ok (.ldc 47, 2) := dq_18 (dq_suf 12 dt06cX2_build_0 rfl rfl) rfl
theorem dX2_build_14 : decode cX2_build 14 = .ok (.if_icmp .ge 71, 3) := dq_162 (dq_suf 14 dt06cX2_build_0 rfl rfl) (by decide +kernel)
theorem dX2_build_17 : decode cX2_build 17 = .ok (.iload_n 2, 1) := dq_28 (dq_suf 1 dt06cX2_build_1 rfl rfl)
theorem dX2_build_18 : decode cX2_build 18 = .ok (.ifCond .lt 67, 3) := dq_155 (dq_suf 2 dt06cX2_build_1 rfl rfl) (by decide +kernel)
theorem dX2_build_21 : decode cX2_build 21 = .ok (.iload_n 2, 1) := dq_28 (dq_suf 5 dt06cX2_build_1 rfl rfl)
theorem dX2_build_22 : decode cX2_build 22 = .ok (.aload_n 0, 1) := dq_42 (dq_suf 6 dt06cX2_build_1 rfl rfl)
theorem dX2_build_23 : decode cX2_build 23 = .ok (.getfield 24, 3) := dq_180 (dq_suf 7 dt06cX2_build_1 rfl rfl) rfl
theorem dX2_build_26 : decode cX2_build 26 = .ok (.arraylength, 1) := dq_190 (dq_suf 10 dt06cX2_build_1 rfl rfl)
theorem dX2_build_27 : decode cX2_build 27 = .ok (.if_icmp .ge 58, 3) := dq_162 (dq_suf 11 dt06cX2_build_1 rfl rfl) (by decide +kernel)
theorem dX2_build_30 : decode cX2_build 30 = .ok (.aload_n 0, 1) := dq_42 (dq_suf 14 dt06cX2_build_1 rfl rfl)
theorem dX2_build_31 : decode cX2_build 31 = .ok (.aload_n 0, 1) := dq_42 (dq_suf 15 dt06cX2_build_1 rfl rfl)
theorem dX2_build_32 : decode cX2_build 32 = .ok (.getfield 24, 3) := dq_180 (dq_suf 0 dt06cX2_build_2 rfl rfl) rfl
theorem dX2_build_35 : decode cX2_build 35 = .ok (.iload_n 2, 1) := dq_28 (dq_suf 3 dt06cX2_build_2 rfl rfl)
theorem dX2_build_36 : decode cX2_build 36 = .ok (.iaload, 1) := dq_46 (dq_suf 4 dt06cX2_build_2 rfl rfl)
theorem dX2_build_37 : decode cX2_build 37 = .ok (.invokevirtual 48, 3) := dq_182 (dq_suf 5 dt06cX2_build_2 rfl rfl) rfl
theorem dX2_build_40 : decode cX2_build 40 = .ok (.istore 4, 2) := dq_54 (dq_suf 8 dt06cX2_build_2 rfl rfl) rfl
theorem dX2_build_42 : decode cX2_build 42 = .ok (.iload 4, 2) := dq_21 (dq_suf 10 dt06cX2_build_2 rfl rfl) rfl
theorem dX2_build_44 : decode cX2_build 44 = .ok (.iconst (-1), 1) := dq_2 (dq_suf 12 dt06cX2_build_2 rfl rfl)
theorem dX2_build_45 : decode cX2_build 45 = .ok (.if_icmp .ne 24, 3) := dq_160 (dq_suf 13 dt06cX2_build_2 rfl rfl) (by decide +kernel)
theorem dX2_build_48 : decode cX2_build 48 = .ok (.aload_n 0, 1) := dq_42 (dq_suf 0 dt06cX2_build_3 rfl rfl)
theorem dX2_build_49 : decode cX2_build 49 = .ok (.aload_n 0, 1) := dq_42 (dq_suf 1 dt06cX2_build_3 rfl rfl)
theorem dX2_build_50 : decode cX2_build 50 = .ok (.getfield 24, 3) := dq_180 (dq_suf 2 dt06cX2_build_3 rfl rfl) rfl
theorem dX2_build_53 : decode cX2_build 53 = .ok (.iload_n 2, 1) := dq_28 (dq_suf 5 dt06cX2_build_3 rfl rfl)
theorem dX2_build_54 : decode cX2_build 54 = .ok (.iaload, 1) := dq_46 (dq_suf 6 dt06cX2_build_3 rfl rfl)
theorem dX2_build_55 : decode cX2_build 55 = .ok (.invokevirtual 51, 3) := dq_182 (dq_suf 7 dt06cX2_build_3 rfl rfl) rfl
theorem dX2_build_58 : decode cX2_build 58 = .ok (.ifCond .ne 5, 3) := dq_154 (dq_suf 10 dt06cX2_build_3 rfl rfl) (by decide +kernel)
theorem dX2_build_61 : decode cX2_build 61 = .ok (.iconst (-1), 1) := dq_2 (dq_suf 13 dt06cX2_build_3 rfl rfl)
theorem dX2_build_62 : decode cX2_build 62 = .ok (.ireturn, 1) := dq_172 (dq_suf 14 dt06cX2_build_3 rfl rfl)
theorem dX2_build_63 : decode cX2_build 63 = .ok (.iinc 2 (-1), 3) := dq_132 (dq_suf 15 dt06cX2_build_3 rfl rfl) rfl (by decide +kernel)
theorem dX2_build_66 : decode cX2_build 66 = .ok (.goto 13, 3) := dq_167 (dq_suf 2 dt06cX2_build_4 rfl rfl) (by decide +kernel)
theorem dX2_build_69 : decode cX2_build 69 = .ok (.iinc 2 1, 3) := dq_132 (dq_suf 5 dt06cX2_build_4 rfl rfl) rfl (by decide +kernel)
theorem dX2_build_72 : decode cX2_build 72 = .ok (.aload_n 0, 1) := dq_42 (dq_suf 8 dt06cX2_build_4 rfl rfl)
theorem dX2_build_73 : decode cX2_build 73 = .ok (.iload_n 2, 1) := dq_28 (dq_suf 9 dt06cX2_build_4 rfl rfl)
theorem dX2_build_74 : decode cX2_build 74 = .ok (.iload 4, 2) := dq_21 (dq_suf 10 dt06cX2_build_4 rfl rfl) rfl
theorem dX2_build_76 : decode cX2_build 76 = .ok (.invokevirtual 55, 3) := dq_182 (dq_suf 12 dt06cX2_build_4 rfl rfl) rfl
theorem dX2_build_79 : decode cX2_build 79 = .ok (.iinc 3 1, 3) := dq_132 (dq_suf 15 dt06cX2_build_4 rfl rfl) rfl (by decide +kernel)
theorem dX2_build_82 : decode cX2_build 82 = .ok (.goto (-71), 3) := dq_167 (dq_suf 2 dt06cX2_build_5 rfl rfl) (by decide +kernel)
theorem dX2_build_85 : decode cX2_build 85 = .ok (.aload_n 0, 1) := dq_42 (dq_suf 5 dt06cX2_build_5 rfl rfl)
theorem dX2_build_86 : decode cX2_build 86 = .ok (.iload_n 1, 1) := dq_27 (dq_suf 6 dt06cX2_build_5 rfl rfl)
theorem dX2_build_87 : decode cX2_build 87 = .ok (.invokevirtual 59, 3) := dq_182 (dq_suf 7 dt06cX2_build_5 rfl rfl) rfl
theorem dX2_build_90 : decode cX2_build 90 = .ok (.ireturn, 1) := dq_172 (dq_suf 10 dt06cX2_build_5 rfl rfl)
noncomputable def ds06cX2_pairAll_2 : List UInt8 := 182 :: 0 :: 62 :: 132 :: 1 :: 1 :: 167 :: 255 :: 220 :: 177 :: []
noncomputable def ds06cX2_pairAll_1 : List UInt8 := 0 :: 21 :: 5 :: 27 :: 104 :: 46 :: 42 :: 180 :: 0 :: 21 :: 5 :: 27 :: 104 :: 4 :: 96 :: 46 :: ds06cX2_pairAll_2
noncomputable def ds06cX2_pairAll_0 : List UInt8 := 3 :: 60 :: 27 :: 42 :: 180 :: 0 :: 31 :: 162 :: 0 :: 34 :: 42 :: 180 :: 0 :: 27 :: 42 :: 180 :: ds06cX2_pairAll_1
theorem dt06cX2_pairAll_0 : cX2_pairAll.data.toList.drop 0 = ds06cX2_pairAll_0 := by decide +kernel
theorem dt06cX2_pairAll_1 : cX2_pairAll.data.toList.drop 16 = ds06cX2_pairAll_1 := dq_suf 16 dt06cX2_pairAll_0 rfl rfl
theorem dt06cX2_pairAll_2 : cX2_pairAll.data.toList.drop 32 = ds06cX2_pairAll_2 := dq_suf 16 dt06cX2_pairAll_1 rfl rfl
theorem dX2_pairAll_0 : decode cX2_pairAll 0 = .ok (.iconst 0, 1) := dq_3 (dq_suf 0 dt06cX2_pairAll_0 rfl rfl)
theorem dX2_pairAll_1 : decode cX2_pairAll 1 = .ok (.istore_n 1, 1) := dq_60 (dq_suf 1 dt06cX2_pairAll_0 rfl rfl)
theorem dX2_pairAll_2 : decode cX2_pairAll 2 = .ok (.iload_n 1, 1) := dq_27 (dq_suf 2 dt06cX2_pairAll_0 rfl rfl)
theorem dX2_pairAll_3 : decode cX2_pairAll 3 = .ok (.aload_n 0, 1) := dq_42 (dq_suf 3 dt06cX2_pairAll_0 rfl rfl)
theorem dX2_pairAll_4 : decode cX2_pairAll 4 = .ok (.getfield 31, 3) := dq_180 (dq_suf 4 dt06cX2_pairAll_0 rfl rfl) rfl
theorem dX2_pairAll_7 : decode cX2_pairAll 7 = .ok (.if_icmp .ge 34, 3) := dq_162 (dq_suf 7 dt06cX2_pairAll_0 rfl rfl) (by decide +kernel)
theorem dX2_pairAll_10 : decode cX2_pairAll 10 = .ok (.aload_n 0, 1) := dq_42 (dq_suf 10 dt06cX2_pairAll_0 rfl rfl)
theorem dX2_pairAll_11 : decode cX2_pairAll 11 = .ok (.getfield 27, 3) := dq_180 (dq_suf 11 dt06cX2_pairAll_0 rfl rfl) rfl
theorem dX2_pairAll_14 : decode cX2_pairAll 14 = .ok (.aload_n 0, 1) := dq_42 (dq_suf 14 dt06cX2_pairAll_0 rfl rfl)
theorem dX2_pairAll_15 : decode cX2_pairAll 15 = .ok (.getfield 21, 3) := dq_180 (dq_suf 15 dt06cX2_pairAll_0 rfl rfl) rfl
theorem dX2_pairAll_18 : decode cX2_pairAll 18 = .ok (.iconst 2, 1) := dq_5 (dq_suf 2 dt06cX2_pairAll_1 rfl rfl)
theorem dX2_pairAll_19 : decode cX2_pairAll 19 = .ok (.iload_n 1, 1) := dq_27 (dq_suf 3 dt06cX2_pairAll_1 rfl rfl)
theorem dX2_pairAll_20 : decode cX2_pairAll 20 = .ok (.imul, 1) := dq_104 (dq_suf 4 dt06cX2_pairAll_1 rfl rfl)
theorem dX2_pairAll_21 : decode cX2_pairAll 21 = .ok (.iaload, 1) := dq_46 (dq_suf 5 dt06cX2_pairAll_1 rfl rfl)
theorem dX2_pairAll_22 : decode cX2_pairAll 22 = .ok (.aload_n 0, 1) := dq_42 (dq_suf 6 dt06cX2_pairAll_1 rfl rfl)
theorem dX2_pairAll_23 : decode cX2_pairAll 23 = .ok (.getfield 21, 3) := dq_180 (dq_suf 7 dt06cX2_pairAll_1 rfl rfl) rfl
theorem dX2_pairAll_26 : decode cX2_pairAll 26 = .ok (.iconst 2, 1) := dq_5 (dq_suf 10 dt06cX2_pairAll_1 rfl rfl)
theorem dX2_pairAll_27 : decode cX2_pairAll 27 = .ok (.iload_n 1, 1) := dq_27 (dq_suf 11 dt06cX2_pairAll_1 rfl rfl)
theorem dX2_pairAll_28 : decode cX2_pairAll 28 = .ok (.imul, 1) := dq_104 (dq_suf 12 dt06cX2_pairAll_1 rfl rfl)
theorem dX2_pairAll_29 : decode cX2_pairAll 29 = .ok (.iconst 1, 1) := dq_4 (dq_suf 13 dt06cX2_pairAll_1 rfl rfl)
theorem dX2_pairAll_30 : decode cX2_pairAll 30 = .ok (.iadd, 1) := dq_96 (dq_suf 14 dt06cX2_pairAll_1 rfl rfl)
theorem dX2_pairAll_31 : decode cX2_pairAll 31 = .ok (.iaload, 1) := dq_46 (dq_suf 15 dt06cX2_pairAll_1 rfl rfl)
theorem dX2_pairAll_32 : decode cX2_pairAll 32 = .ok (.invokevirtual 62, 3) := dq_182 (dq_suf 0 dt06cX2_pairAll_2 rfl rfl) rfl
theorem dX2_pairAll_35 : decode cX2_pairAll 35 = .ok (.iinc 1 1, 3) := dq_132 (dq_suf 3 dt06cX2_pairAll_2 rfl rfl) rfl (by decide +kernel)
theorem dX2_pairAll_38 : decode cX2_pairAll 38 = .ok (.goto (-36), 3) := dq_167 (dq_suf 6 dt06cX2_pairAll_2 rfl rfl) (by decide +kernel)
theorem dX2_pairAll_41 : decode cX2_pairAll 41 = .ok (.return_, 1) := dq_177 (dq_suf 9 dt06cX2_pairAll_2 rfl rfl)
noncomputable def ds06cX2_push_1 : List UInt8 := 24 :: 27 :: 28 :: 79 :: 177 :: []
noncomputable def ds06cX2_push_0 : List UInt8 := 27 :: 155 :: 0 :: 19 :: 27 :: 42 :: 180 :: 0 :: 24 :: 190 :: 162 :: 0 :: 10 :: 42 :: 180 :: 0 :: ds06cX2_push_1
theorem dt06cX2_push_0 : cX2_push.data.toList.drop 0 = ds06cX2_push_0 := by decide +kernel
theorem dt06cX2_push_1 : cX2_push.data.toList.drop 16 = ds06cX2_push_1 := dq_suf 16 dt06cX2_push_0 rfl rfl
theorem dX2_push_0 : decode cX2_push 0 = .ok (.iload_n 1, 1) := dq_27 (dq_suf 0 dt06cX2_push_0 rfl rfl)
theorem dX2_push_1 : decode cX2_push 1 = .ok (.ifCond .lt 19, 3) := dq_155 (dq_suf 1 dt06cX2_push_0 rfl rfl) (by decide +kernel)
theorem dX2_push_4 : decode cX2_push 4 = .ok (.iload_n 1, 1) := dq_27 (dq_suf 4 dt06cX2_push_0 rfl rfl)
theorem dX2_push_5 : decode cX2_push 5 = .ok (.aload_n 0, 1) := dq_42 (dq_suf 5 dt06cX2_push_0 rfl rfl)
theorem dX2_push_6 : decode cX2_push 6 = .ok (.getfield 24, 3) := dq_180 (dq_suf 6 dt06cX2_push_0 rfl rfl) rfl
theorem dX2_push_9 : decode cX2_push 9 = .ok (.arraylength, 1) := dq_190 (dq_suf 9 dt06cX2_push_0 rfl rfl)
theorem dX2_push_10 : decode cX2_push 10 = .ok (.if_icmp .ge 10, 3) := dq_162 (dq_suf 10 dt06cX2_push_0 rfl rfl) (by decide +kernel)
theorem dX2_push_13 : decode cX2_push 13 = .ok (.aload_n 0, 1) := dq_42 (dq_suf 13 dt06cX2_push_0 rfl rfl)
theorem dX2_push_14 : decode cX2_push 14 = .ok (.getfield 24, 3) := dq_180 (dq_suf 14 dt06cX2_push_0 rfl rfl) rfl
theorem dX2_push_17 : decode cX2_push 17 = .ok (.iload_n 1, 1) := dq_27 (dq_suf 1 dt06cX2_push_1 rfl rfl)
theorem dX2_push_18 : decode cX2_push 18 = .ok (.iload_n 2, 1) := dq_28 (dq_suf 2 dt06cX2_push_1 rfl rfl)
theorem dX2_push_19 : decode cX2_push 19 = .ok (.iastore, 1) := dq_79 (dq_suf 3 dt06cX2_push_1 rfl rfl)
theorem dX2_push_20 : decode cX2_push 20 = .ok (.return_, 1) := dq_177 (dq_suf 4 dt06cX2_push_1 rfl rfl)
noncomputable def ds06cX2_node_8 : List UInt8 := 21 :: 4 :: 104 :: 4 :: 96 :: 2 :: 79 :: 5 :: 21 :: 4 :: 104 :: 172 :: []
noncomputable def ds06cX2_node_7 : List UInt8 := 79 :: 42 :: 180 :: 0 :: 21 :: 5 :: 21 :: 4 :: 104 :: 2 :: 79 :: 42 :: 180 :: 0 :: 21 :: 5 :: ds06cX2_node_8
noncomputable def ds06cX2_node_6 : List UInt8 := 79 :: 42 :: 180 :: 0 :: 15 :: 21 :: 4 :: 28 :: 79 :: 42 :: 180 :: 0 :: 18 :: 21 :: 4 :: 29 :: ds06cX2_node_7
noncomputable def ds06cX2_node_5 : List UInt8 := 89 :: 180 :: 0 :: 31 :: 4 :: 96 :: 181 :: 0 :: 31 :: 42 :: 180 :: 0 :: 11 :: 21 :: 4 :: 27 :: ds06cX2_node_6
noncomputable def ds06cX2_node_4 : List UInt8 := 0 :: 10 :: 42 :: 4 :: 181 :: 0 :: 35 :: 3 :: 172 :: 42 :: 180 :: 0 :: 31 :: 54 :: 4 :: 42 :: ds06cX2_node_5
noncomputable def ds06cX2_node_3 : List UInt8 := 104 :: 172 :: 132 :: 4 :: 1 :: 167 :: 255 :: 206 :: 42 :: 180 :: 0 :: 31 :: 17 :: 0 :: 150 :: 161 :: ds06cX2_node_4
noncomputable def ds06cX2_node_2 : List UInt8 := 0 :: 19 :: 42 :: 180 :: 0 :: 18 :: 21 :: 4 :: 46 :: 29 :: 160 :: 0 :: 8 :: 5 :: 21 :: 4 :: ds06cX2_node_3
noncomputable def ds06cX2_node_1 : List UInt8 := 21 :: 4 :: 46 :: 27 :: 160 :: 0 :: 30 :: 42 :: 180 :: 0 :: 15 :: 21 :: 4 :: 46 :: 28 :: 160 :: ds06cX2_node_2
noncomputable def ds06cX2_node_0 : List UInt8 := 3 :: 54 :: 4 :: 21 :: 4 :: 42 :: 180 :: 0 :: 31 :: 162 :: 0 :: 47 :: 42 :: 180 :: 0 :: 11 :: ds06cX2_node_1
theorem dt06cX2_node_0 : cX2_node.data.toList.drop 0 = ds06cX2_node_0 := by decide +kernel
theorem dt06cX2_node_1 : cX2_node.data.toList.drop 16 = ds06cX2_node_1 := dq_suf 16 dt06cX2_node_0 rfl rfl
theorem dt06cX2_node_2 : cX2_node.data.toList.drop 32 = ds06cX2_node_2 := dq_suf 16 dt06cX2_node_1 rfl rfl
theorem dt06cX2_node_3 : cX2_node.data.toList.drop 48 = ds06cX2_node_3 := dq_suf 16 dt06cX2_node_2 rfl rfl
theorem dt06cX2_node_4 : cX2_node.data.toList.drop 64 = ds06cX2_node_4 := dq_suf 16 dt06cX2_node_3 rfl rfl
theorem dt06cX2_node_5 : cX2_node.data.toList.drop 80 = ds06cX2_node_5 := dq_suf 16 dt06cX2_node_4 rfl rfl
theorem dt06cX2_node_6 : cX2_node.data.toList.drop 96 = ds06cX2_node_6 := dq_suf 16 dt06cX2_node_5 rfl rfl
theorem dt06cX2_node_7 : cX2_node.data.toList.drop 112 = ds06cX2_node_7 := dq_suf 16 dt06cX2_node_6 rfl rfl
theorem dt06cX2_node_8 : cX2_node.data.toList.drop 128 = ds06cX2_node_8 := dq_suf 16 dt06cX2_node_7 rfl rfl
theorem dX2_node_0 : decode cX2_node 0 = .ok (.iconst 0, 1) := dq_3 (dq_suf 0 dt06cX2_node_0 rfl rfl)
theorem dX2_node_1 : decode cX2_node 1 = .ok (.istore 4, 2) := dq_54 (dq_suf 1 dt06cX2_node_0 rfl rfl) rfl
theorem dX2_node_3 : decode cX2_node 3 = .ok (.iload 4, 2) := dq_21 (dq_suf 3 dt06cX2_node_0 rfl rfl) rfl
theorem dX2_node_5 : decode cX2_node 5 = .ok (.aload_n 0, 1) := dq_42 (dq_suf 5 dt06cX2_node_0 rfl rfl)
theorem dX2_node_6 : decode cX2_node 6 = .ok (.getfield 31, 3) := dq_180 (dq_suf 6 dt06cX2_node_0 rfl rfl) rfl
theorem dX2_node_9 : decode cX2_node 9 = .ok (.if_icmp .ge 47, 3) := dq_162 (dq_suf 9 dt06cX2_node_0 rfl rfl) (by decide +kernel)
theorem dX2_node_12 : decode cX2_node 12 = .ok (.aload_n 0, 1) := dq_42 (dq_suf 12 dt06cX2_node_0 rfl rfl)
theorem dX2_node_13 : decode cX2_node 13 = .ok (.getfield 11, 3) := dq_180 (dq_suf 13 dt06cX2_node_0 rfl rfl) rfl
theorem dX2_node_16 : decode cX2_node 16 = .ok (.iload 4, 2) := dq_21 (dq_suf 0 dt06cX2_node_1 rfl rfl) rfl
theorem dX2_node_18 : decode cX2_node 18 = .ok (.iaload, 1) := dq_46 (dq_suf 2 dt06cX2_node_1 rfl rfl)
theorem dX2_node_19 : decode cX2_node 19 = .ok (.iload_n 1, 1) := dq_27 (dq_suf 3 dt06cX2_node_1 rfl rfl)
theorem dX2_node_20 : decode cX2_node 20 = .ok (.if_icmp .ne 30, 3) := dq_160 (dq_suf 4 dt06cX2_node_1 rfl rfl) (by decide +kernel)
theorem dX2_node_23 : decode cX2_node 23 = .ok (.aload_n 0, 1) := dq_42 (dq_suf 7 dt06cX2_node_1 rfl rfl)
theorem dX2_node_24 : decode cX2_node 24 = .ok (.getfield 15, 3) := dq_180 (dq_suf 8 dt06cX2_node_1 rfl rfl) rfl
theorem dX2_node_27 : decode cX2_node 27 = .ok (.iload 4, 2) := dq_21 (dq_suf 11 dt06cX2_node_1 rfl rfl) rfl
theorem dX2_node_29 : decode cX2_node 29 = .ok (.iaload, 1) := dq_46 (dq_suf 13 dt06cX2_node_1 rfl rfl)
theorem dX2_node_30 : decode cX2_node 30 = .ok (.iload_n 2, 1) := dq_28 (dq_suf 14 dt06cX2_node_1 rfl rfl)
theorem dX2_node_31 : decode cX2_node 31 = .ok (.if_icmp .ne 19, 3) := dq_160 (dq_suf 15 dt06cX2_node_1 rfl rfl) (by decide +kernel)
theorem dX2_node_34 : decode cX2_node 34 = .ok (.aload_n 0, 1) := dq_42 (dq_suf 2 dt06cX2_node_2 rfl rfl)
theorem dX2_node_35 : decode cX2_node 35 = .ok (.getfield 18, 3) := dq_180 (dq_suf 3 dt06cX2_node_2 rfl rfl) rfl
theorem dX2_node_38 : decode cX2_node 38 = .ok (.iload 4, 2) := dq_21 (dq_suf 6 dt06cX2_node_2 rfl rfl) rfl
theorem dX2_node_40 : decode cX2_node 40 = .ok (.iaload, 1) := dq_46 (dq_suf 8 dt06cX2_node_2 rfl rfl)
theorem dX2_node_41 : decode cX2_node 41 = .ok (.iload_n 3, 1) := dq_29 (dq_suf 9 dt06cX2_node_2 rfl rfl)
theorem dX2_node_42 : decode cX2_node 42 = .ok (.if_icmp .ne 8, 3) := dq_160 (dq_suf 10 dt06cX2_node_2 rfl rfl) (by decide +kernel)
theorem dX2_node_45 : decode cX2_node 45 = .ok (.iconst 2, 1) := dq_5 (dq_suf 13 dt06cX2_node_2 rfl rfl)
theorem dX2_node_46 : decode cX2_node 46 = .ok (.iload 4, 2) := dq_21 (dq_suf 14 dt06cX2_node_2 rfl rfl) rfl
theorem dX2_node_48 : decode cX2_node 48 = .ok (.imul, 1) := dq_104 (dq_suf 0 dt06cX2_node_3 rfl rfl)
theorem dX2_node_49 : decode cX2_node 49 = .ok (.ireturn, 1) := dq_172 (dq_suf 1 dt06cX2_node_3 rfl rfl)
theorem dX2_node_50 : decode cX2_node 50 = .ok (.iinc 4 1, 3) := dq_132 (dq_suf 2 dt06cX2_node_3 rfl rfl) rfl (by decide +kernel)
theorem dX2_node_53 : decode cX2_node 53 = .ok (.goto (-50), 3) := dq_167 (dq_suf 5 dt06cX2_node_3 rfl rfl) (by decide +kernel)
theorem dX2_node_56 : decode cX2_node 56 = .ok (.aload_n 0, 1) := dq_42 (dq_suf 8 dt06cX2_node_3 rfl rfl)
theorem dX2_node_57 : decode cX2_node 57 = .ok (.getfield 31, 3) := dq_180 (dq_suf 9 dt06cX2_node_3 rfl rfl) rfl
theorem dX2_node_60 : decode cX2_node 60 = .ok (.sipush 150, 3) := dq_17 (dq_suf 12 dt06cX2_node_3 rfl rfl) (by decide +kernel)
theorem dX2_node_63 : decode cX2_node 63 = .ok (.if_icmp .lt 10, 3) := dq_161 (dq_suf 15 dt06cX2_node_3 rfl rfl) (by decide +kernel)
theorem dX2_node_66 : decode cX2_node 66 = .ok (.aload_n 0, 1) := dq_42 (dq_suf 2 dt06cX2_node_4 rfl rfl)
theorem dX2_node_67 : decode cX2_node 67 = .ok (.iconst 1, 1) := dq_4 (dq_suf 3 dt06cX2_node_4 rfl rfl)
theorem dX2_node_68 : decode cX2_node 68 = .ok (.putfield 35, 3) := dq_181 (dq_suf 4 dt06cX2_node_4 rfl rfl) rfl
theorem dX2_node_71 : decode cX2_node 71 = .ok (.iconst 0, 1) := dq_3 (dq_suf 7 dt06cX2_node_4 rfl rfl)
theorem dX2_node_72 : decode cX2_node 72 = .ok (.ireturn, 1) := dq_172 (dq_suf 8 dt06cX2_node_4 rfl rfl)
theorem dX2_node_73 : decode cX2_node 73 = .ok (.aload_n 0, 1) := dq_42 (dq_suf 9 dt06cX2_node_4 rfl rfl)
theorem dX2_node_74 : decode cX2_node 74 = .ok (.getfield 31, 3) := dq_180 (dq_suf 10 dt06cX2_node_4 rfl rfl) rfl
theorem dX2_node_77 : decode cX2_node 77 = .ok (.istore 4, 2) := dq_54 (dq_suf 13 dt06cX2_node_4 rfl rfl) rfl
theorem dX2_node_79 : decode cX2_node 79 = .ok (.aload_n 0, 1) := dq_42 (dq_suf 15 dt06cX2_node_4 rfl rfl)
theorem dX2_node_80 : decode cX2_node 80 = .ok (.dup, 1) := dq_89 (dq_suf 0 dt06cX2_node_5 rfl rfl)
theorem dX2_node_81 : decode cX2_node 81 = .ok (.getfield 31, 3) := dq_180 (dq_suf 1 dt06cX2_node_5 rfl rfl) rfl
theorem dX2_node_84 : decode cX2_node 84 = .ok (.iconst 1, 1) := dq_4 (dq_suf 4 dt06cX2_node_5 rfl rfl)
theorem dX2_node_85 : decode cX2_node 85 = .ok (.iadd, 1) := dq_96 (dq_suf 5 dt06cX2_node_5 rfl rfl)
theorem dX2_node_86 : decode cX2_node 86 = .ok (.putfield 31, 3) := dq_181 (dq_suf 6 dt06cX2_node_5 rfl rfl) rfl
theorem dX2_node_89 : decode cX2_node 89 = .ok (.aload_n 0, 1) := dq_42 (dq_suf 9 dt06cX2_node_5 rfl rfl)
theorem dX2_node_90 : decode cX2_node 90 = .ok (.getfield 11, 3) := dq_180 (dq_suf 10 dt06cX2_node_5 rfl rfl) rfl
theorem dX2_node_93 : decode cX2_node 93 = .ok (.iload 4, 2) := dq_21 (dq_suf 13 dt06cX2_node_5 rfl rfl) rfl
theorem dX2_node_95 : decode cX2_node 95 = .ok (.iload_n 1, 1) := dq_27 (dq_suf 15 dt06cX2_node_5 rfl rfl)
theorem dX2_node_96 : decode cX2_node 96 = .ok (.iastore, 1) := dq_79 (dq_suf 0 dt06cX2_node_6 rfl rfl)
theorem dX2_node_97 : decode cX2_node 97 = .ok (.aload_n 0, 1) := dq_42 (dq_suf 1 dt06cX2_node_6 rfl rfl)
theorem dX2_node_98 : decode cX2_node 98 = .ok (.getfield 15, 3) := dq_180 (dq_suf 2 dt06cX2_node_6 rfl rfl) rfl
theorem dX2_node_101 : decode cX2_node 101 = .ok (.iload 4, 2) := dq_21 (dq_suf 5 dt06cX2_node_6 rfl rfl) rfl
theorem dX2_node_103 : decode cX2_node 103 = .ok (.iload_n 2, 1) := dq_28 (dq_suf 7 dt06cX2_node_6 rfl rfl)
theorem dX2_node_104 : decode cX2_node 104 = .ok (.iastore, 1) := dq_79 (dq_suf 8 dt06cX2_node_6 rfl rfl)
theorem dX2_node_105 : decode cX2_node 105 = .ok (.aload_n 0, 1) := dq_42 (dq_suf 9 dt06cX2_node_6 rfl rfl)
theorem dX2_node_106 : decode cX2_node 106 = .ok (.getfield 18, 3) := dq_180 (dq_suf 10 dt06cX2_node_6 rfl rfl) rfl
theorem dX2_node_109 : decode cX2_node 109 = .ok (.iload 4, 2) := dq_21 (dq_suf 13 dt06cX2_node_6 rfl rfl) rfl
theorem dX2_node_111 : decode cX2_node 111 = .ok (.iload_n 3, 1) := dq_29 (dq_suf 15 dt06cX2_node_6 rfl rfl)
theorem dX2_node_112 : decode cX2_node 112 = .ok (.iastore, 1) := dq_79 (dq_suf 0 dt06cX2_node_7 rfl rfl)
theorem dX2_node_113 : decode cX2_node 113 = .ok (.aload_n 0, 1) := dq_42 (dq_suf 1 dt06cX2_node_7 rfl rfl)
theorem dX2_node_114 : decode cX2_node 114 = .ok (.getfield 21, 3) := dq_180 (dq_suf 2 dt06cX2_node_7 rfl rfl) rfl
theorem dX2_node_117 : decode cX2_node 117 = .ok (.iconst 2, 1) := dq_5 (dq_suf 5 dt06cX2_node_7 rfl rfl)
theorem dX2_node_118 : decode cX2_node 118 = .ok (.iload 4, 2) := dq_21 (dq_suf 6 dt06cX2_node_7 rfl rfl) rfl
theorem dX2_node_120 : decode cX2_node 120 = .ok (.imul, 1) := dq_104 (dq_suf 8 dt06cX2_node_7 rfl rfl)
theorem dX2_node_121 : decode cX2_node 121 = .ok (.iconst (-1), 1) := dq_2 (dq_suf 9 dt06cX2_node_7 rfl rfl)
theorem dX2_node_122 : decode cX2_node 122 = .ok (.iastore, 1) := dq_79 (dq_suf 10 dt06cX2_node_7 rfl rfl)
theorem dX2_node_123 : decode cX2_node 123 = .ok (.aload_n 0, 1) := dq_42 (dq_suf 11 dt06cX2_node_7 rfl rfl)
theorem dX2_node_124 : decode cX2_node 124 = .ok (.getfield 21, 3) := dq_180 (dq_suf 12 dt06cX2_node_7 rfl rfl) rfl
theorem dX2_node_127 : decode cX2_node 127 = .ok (.iconst 2, 1) := dq_5 (dq_suf 15 dt06cX2_node_7 rfl rfl)
theorem dX2_node_128 : decode cX2_node 128 = .ok (.iload 4, 2) := dq_21 (dq_suf 0 dt06cX2_node_8 rfl rfl) rfl
theorem dX2_node_130 : decode cX2_node 130 = .ok (.imul, 1) := dq_104 (dq_suf 2 dt06cX2_node_8 rfl rfl)
theorem dX2_node_131 : decode cX2_node 131 = .ok (.iconst 1, 1) := dq_4 (dq_suf 3 dt06cX2_node_8 rfl rfl)
theorem dX2_node_132 : decode cX2_node 132 = .ok (.iadd, 1) := dq_96 (dq_suf 4 dt06cX2_node_8 rfl rfl)
theorem dX2_node_133 : decode cX2_node 133 = .ok (.iconst (-1), 1) := dq_2 (dq_suf 5 dt06cX2_node_8 rfl rfl)
theorem dX2_node_134 : decode cX2_node 134 = .ok (.iastore, 1) := dq_79 (dq_suf 6 dt06cX2_node_8 rfl rfl)
theorem dX2_node_135 : decode cX2_node 135 = .ok (.iconst 2, 1) := dq_5 (dq_suf 7 dt06cX2_node_8 rfl rfl)
theorem dX2_node_136 : decode cX2_node 136 = .ok (.iload 4, 2) := dq_21 (dq_suf 8 dt06cX2_node_8 rfl rfl) rfl
theorem dX2_node_138 : decode cX2_node 138 = .ok (.imul, 1) := dq_104 (dq_suf 10 dt06cX2_node_8 rfl rfl)
theorem dX2_node_139 : decode cX2_node 139 = .ok (.ireturn, 1) := dq_172 (dq_suf 11 dt06cX2_node_8 rfl rfl)
noncomputable def ds06cX2_isMark_1 : List UInt8 := 0 :: 4 :: 3 :: 172 :: []
noncomputable def ds06cX2_isMark_0 : List UInt8 := 27 :: 155 :: 0 :: 17 :: 27 :: 4 :: 122 :: 42 :: 180 :: 0 :: 31 :: 162 :: 0 :: 7 :: 4 :: 167 :: ds06cX2_isMark_1
theorem dt06cX2_isMark_0 : cX2_isMark.data.toList.drop 0 = ds06cX2_isMark_0 := by decide +kernel
theorem dt06cX2_isMark_1 : cX2_isMark.data.toList.drop 16 = ds06cX2_isMark_1 := dq_suf 16 dt06cX2_isMark_0 rfl rfl
theorem dX2_isMark_0 : decode cX2_isMark 0 = .ok (.iload_n 1, 1) := dq_27 (dq_suf 0 dt06cX2_isMark_0 rfl rfl)
theorem dX2_isMark_1 : decode cX2_isMark 1 = .ok (.ifCond .lt 17, 3) := dq_155 (dq_suf 1 dt06cX2_isMark_0 rfl rfl) (by decide +kernel)
theorem dX2_isMark_4 : decode cX2_isMark 4 = .ok (.iload_n 1, 1) := dq_27 (dq_suf 4 dt06cX2_isMark_0 rfl rfl)
theorem dX2_isMark_5 : decode cX2_isMark 5 = .ok (.iconst 1, 1) := dq_4 (dq_suf 5 dt06cX2_isMark_0 rfl rfl)
theorem dX2_isMark_6 : decode cX2_isMark 6 = .ok (.ishr, 1) := dq_122 (dq_suf 6 dt06cX2_isMark_0 rfl rfl)
theorem dX2_isMark_7 : decode cX2_isMark 7 = .ok (.aload_n 0, 1) := dq_42 (dq_suf 7 dt06cX2_isMark_0 rfl rfl)
theorem dX2_isMark_8 : decode cX2_isMark 8 = .ok (.getfield 31, 3) := dq_180 (dq_suf 8 dt06cX2_isMark_0 rfl rfl) rfl
theorem dX2_isMark_11 : decode cX2_isMark 11 = .ok (.if_icmp .ge 7, 3) := dq_162 (dq_suf 11 dt06cX2_isMark_0 rfl rfl) (by decide +kernel)
theorem dX2_isMark_14 : decode cX2_isMark 14 = .ok (.iconst 1, 1) := dq_4 (dq_suf 14 dt06cX2_isMark_0 rfl rfl)
theorem dX2_isMark_15 : decode cX2_isMark 15 = .ok (.goto 4, 3) := dq_167 (dq_suf 15 dt06cX2_isMark_0 rfl rfl) (by decide +kernel)
theorem dX2_isMark_18 : decode cX2_isMark 18 = .ok (.iconst 0, 1) := dq_3 (dq_suf 2 dt06cX2_isMark_1 rfl rfl)
theorem dX2_isMark_19 : decode cX2_isMark 19 = .ok (.ireturn, 1) := dq_172 (dq_suf 3 dt06cX2_isMark_1 rfl rfl)
noncomputable def ds06cX2_numberOf_1 : List UInt8 := 4 :: 2 :: 172 :: []
noncomputable def ds06cX2_numberOf_0 : List UInt8 := 42 :: 27 :: 182 :: 0 :: 67 :: 153 :: 0 :: 12 :: 42 :: 180 :: 0 :: 21 :: 27 :: 46 :: 167 :: 0 :: ds06cX2_numberOf_1
theorem dt06cX2_numberOf_0 : cX2_numberOf.data.toList.drop 0 = ds06cX2_numberOf_0 := by decide +kernel
theorem dt06cX2_numberOf_1 : cX2_numberOf.data.toList.drop 16 = ds06cX2_numberOf_1 := dq_suf 16 dt06cX2_numberOf_0 rfl rfl
theorem dX2_numberOf_0 : decode cX2_numberOf 0 = .ok (.aload_n 0, 1) := dq_42 (dq_suf 0 dt06cX2_numberOf_0 rfl rfl)
theorem dX2_numberOf_1 : decode cX2_numberOf 1 = .ok (.iload_n 1, 1) := dq_27 (dq_suf 1 dt06cX2_numberOf_0 rfl rfl)
theorem dX2_numberOf_2 : decode cX2_numberOf 2 = .ok (.invokevirtual 67, 3) := dq_182 (dq_suf 2 dt06cX2_numberOf_0 rfl rfl) rfl
theorem dX2_numberOf_5 : decode cX2_numberOf 5 = .ok (.ifCond .eq 12, 3) := dq_153 (dq_suf 5 dt06cX2_numberOf_0 rfl rfl) (by decide +kernel)
theorem dX2_numberOf_8 : decode cX2_numberOf 8 = .ok (.aload_n 0, 1) := dq_42 (dq_suf 8 dt06cX2_numberOf_0 rfl rfl)
theorem dX2_numberOf_9 : decode cX2_numberOf 9 = .ok (.getfield 21, 3) := dq_180 (dq_suf 9 dt06cX2_numberOf_0 rfl rfl) rfl
theorem dX2_numberOf_12 : decode cX2_numberOf 12 = .ok (.iload_n 1, 1) := dq_27 (dq_suf 12 dt06cX2_numberOf_0 rfl rfl)
theorem dX2_numberOf_13 : decode cX2_numberOf 13 = .ok (.iaload, 1) := dq_46 (dq_suf 13 dt06cX2_numberOf_0 rfl rfl)
theorem dX2_numberOf_14 : decode cX2_numberOf 14 = .ok (.goto 4, 3) := dq_167 (dq_suf 14 dt06cX2_numberOf_0 rfl rfl) (by decide +kernel)
theorem dX2_numberOf_17 : decode cX2_numberOf 17 = .ok (.iconst (-1), 1) := dq_2 (dq_suf 1 dt06cX2_numberOf_1 rfl rfl)
theorem dX2_numberOf_18 : decode cX2_numberOf 18 = .ok (.ireturn, 1) := dq_172 (dq_suf 2 dt06cX2_numberOf_1 rfl rfl)
noncomputable def ds06cX2_partToMake_2 : List UInt8 := 16 :: 42 :: 29 :: 182 :: 0 :: 59 :: 2 :: 160 :: 0 :: 7 :: 29 :: 167 :: 0 :: 4 :: 2 :: 172 :: []
noncomputable def ds06cX2_partToMake_1 : List UInt8 := 2 :: 160 :: 0 :: 5 :: 28 :: 172 :: 42 :: 27 :: 182 :: 0 :: 73 :: 62 :: 29 :: 2 :: 159 :: 0 :: ds06cX2_partToMake_2
noncomputable def ds06cX2_partToMake_0 : List UInt8 := 42 :: 27 :: 182 :: 0 :: 70 :: 61 :: 28 :: 2 :: 159 :: 0 :: 14 :: 42 :: 28 :: 182 :: 0 :: 59 :: ds06cX2_partToMake_1
theorem dt06cX2_partToMake_0 : cX2_partToMake.data.toList.drop 0 = ds06cX2_partToMake_0 := by decide +kernel
theorem dt06cX2_partToMake_1 : cX2_partToMake.data.toList.drop 16 = ds06cX2_partToMake_1 := dq_suf 16 dt06cX2_partToMake_0 rfl rfl
theorem dt06cX2_partToMake_2 : cX2_partToMake.data.toList.drop 32 = ds06cX2_partToMake_2 := dq_suf 16 dt06cX2_partToMake_1 rfl rfl
theorem dX2_partToMake_0 : decode cX2_partToMake 0 = .ok (.aload_n 0, 1) := dq_42 (dq_suf 0 dt06cX2_partToMake_0 rfl rfl)
theorem dX2_partToMake_1 : decode cX2_partToMake 1 = .ok (.iload_n 1, 1) := dq_27 (dq_suf 1 dt06cX2_partToMake_0 rfl rfl)
theorem dX2_partToMake_2 : decode cX2_partToMake 2 = .ok (.invokevirtual 70, 3) := dq_182 (dq_suf 2 dt06cX2_partToMake_0 rfl rfl) rfl
theorem dX2_partToMake_5 : decode cX2_partToMake 5 = .ok (.istore_n 2, 1) := dq_61 (dq_suf 5 dt06cX2_partToMake_0 rfl rfl)
theorem dX2_partToMake_6 : decode cX2_partToMake 6 = .ok (.iload_n 2, 1) := dq_28 (dq_suf 6 dt06cX2_partToMake_0 rfl rfl)
theorem dX2_partToMake_7 : decode cX2_partToMake 7 = .ok (.iconst (-1), 1) := dq_2 (dq_suf 7 dt06cX2_partToMake_0 rfl rfl)
theorem dX2_partToMake_8 : decode cX2_partToMake 8 = .ok (.if_icmp .eq 14, 3) := dq_159 (dq_suf 8 dt06cX2_partToMake_0 rfl rfl) (by decide +kernel)
theorem dX2_partToMake_11 : decode cX2_partToMake 11 = .ok (.aload_n 0, 1) := dq_42 (dq_suf 11 dt06cX2_partToMake_0 rfl rfl)
theorem dX2_partToMake_12 : decode cX2_partToMake 12 = .ok (.iload_n 2, 1) := dq_28 (dq_suf 12 dt06cX2_partToMake_0 rfl rfl)
theorem dX2_partToMake_13 : decode cX2_partToMake 13 = .ok (.invokevirtual 59, 3) := dq_182 (dq_suf 13 dt06cX2_partToMake_0 rfl rfl) rfl
theorem dX2_partToMake_16 : decode cX2_partToMake 16 = .ok (.iconst (-1), 1) := dq_2 (dq_suf 0 dt06cX2_partToMake_1 rfl rfl)
theorem dX2_partToMake_17 : decode cX2_partToMake 17 = .ok (.if_icmp .ne 5, 3) := dq_160 (dq_suf 1 dt06cX2_partToMake_1 rfl rfl) (by decide +kernel)
theorem dX2_partToMake_20 : decode cX2_partToMake 20 = .ok (.iload_n 2, 1) := dq_28 (dq_suf 4 dt06cX2_partToMake_1 rfl rfl)
theorem dX2_partToMake_21 : decode cX2_partToMake 21 = .ok (.ireturn, 1) := dq_172 (dq_suf 5 dt06cX2_partToMake_1 rfl rfl)
theorem dX2_partToMake_22 : decode cX2_partToMake 22 = .ok (.aload_n 0, 1) := dq_42 (dq_suf 6 dt06cX2_partToMake_1 rfl rfl)
theorem dX2_partToMake_23 : decode cX2_partToMake 23 = .ok (.iload_n 1, 1) := dq_27 (dq_suf 7 dt06cX2_partToMake_1 rfl rfl)
theorem dX2_partToMake_24 : decode cX2_partToMake 24 = .ok (.invokevirtual 73, 3) := dq_182 (dq_suf 8 dt06cX2_partToMake_1 rfl rfl) rfl
theorem dX2_partToMake_27 : decode cX2_partToMake 27 = .ok (.istore_n 3, 1) := dq_62 (dq_suf 11 dt06cX2_partToMake_1 rfl rfl)
theorem dX2_partToMake_28 : decode cX2_partToMake 28 = .ok (.iload_n 3, 1) := dq_29 (dq_suf 12 dt06cX2_partToMake_1 rfl rfl)
theorem dX2_partToMake_29 : decode cX2_partToMake 29 = .ok (.iconst (-1), 1) := dq_2 (dq_suf 13 dt06cX2_partToMake_1 rfl rfl)
theorem dX2_partToMake_30 : decode cX2_partToMake 30 = .ok (.if_icmp .eq 16, 3) := dq_159 (dq_suf 14 dt06cX2_partToMake_1 rfl rfl) (by decide +kernel)
theorem dX2_partToMake_33 : decode cX2_partToMake 33 = .ok (.aload_n 0, 1) := dq_42 (dq_suf 1 dt06cX2_partToMake_2 rfl rfl)
theorem dX2_partToMake_34 : decode cX2_partToMake 34 = .ok (.iload_n 3, 1) := dq_29 (dq_suf 2 dt06cX2_partToMake_2 rfl rfl)
theorem dX2_partToMake_35 : decode cX2_partToMake 35 = .ok (.invokevirtual 59, 3) := dq_182 (dq_suf 3 dt06cX2_partToMake_2 rfl rfl) rfl
theorem dX2_partToMake_38 : decode cX2_partToMake 38 = .ok (.iconst (-1), 1) := dq_2 (dq_suf 6 dt06cX2_partToMake_2 rfl rfl)
theorem dX2_partToMake_39 : decode cX2_partToMake 39 = .ok (.if_icmp .ne 7, 3) := dq_160 (dq_suf 7 dt06cX2_partToMake_2 rfl rfl) (by decide +kernel)
theorem dX2_partToMake_42 : decode cX2_partToMake 42 = .ok (.iload_n 3, 1) := dq_29 (dq_suf 10 dt06cX2_partToMake_2 rfl rfl)
theorem dX2_partToMake_43 : decode cX2_partToMake 43 = .ok (.goto 4, 3) := dq_167 (dq_suf 11 dt06cX2_partToMake_2 rfl rfl) (by decide +kernel)
theorem dX2_partToMake_46 : decode cX2_partToMake 46 = .ok (.iconst (-1), 1) := dq_2 (dq_suf 14 dt06cX2_partToMake_2 rfl rfl)
theorem dX2_partToMake_47 : decode cX2_partToMake 47 = .ok (.ireturn, 1) := dq_172 (dq_suf 15 dt06cX2_partToMake_2 rfl rfl)
noncomputable def ds06cX2_firstPart_2 : List UInt8 := 167 :: 0 :: 4 :: 2 :: 172 :: []
noncomputable def ds06cX2_firstPart_1 : List UInt8 := 7 :: 161 :: 0 :: 18 :: 42 :: 180 :: 0 :: 15 :: 27 :: 4 :: 122 :: 46 :: 27 :: 4 :: 126 :: 130 :: ds06cX2_firstPart_2
noncomputable def ds06cX2_firstPart_0 : List UInt8 := 42 :: 27 :: 182 :: 0 :: 67 :: 153 :: 0 :: 30 :: 42 :: 180 :: 0 :: 11 :: 27 :: 4 :: 122 :: 46 :: ds06cX2_firstPart_1
theorem dt06cX2_firstPart_0 : cX2_firstPart.data.toList.drop 0 = ds06cX2_firstPart_0 := by decide +kernel
theorem dt06cX2_firstPart_1 : cX2_firstPart.data.toList.drop 16 = ds06cX2_firstPart_1 := dq_suf 16 dt06cX2_firstPart_0 rfl rfl
theorem dt06cX2_firstPart_2 : cX2_firstPart.data.toList.drop 32 = ds06cX2_firstPart_2 := dq_suf 16 dt06cX2_firstPart_1 rfl rfl
theorem dX2_firstPart_0 : decode cX2_firstPart 0 = .ok (.aload_n 0, 1) := dq_42 (dq_suf 0 dt06cX2_firstPart_0 rfl rfl)
theorem dX2_firstPart_1 : decode cX2_firstPart 1 = .ok (.iload_n 1, 1) := dq_27 (dq_suf 1 dt06cX2_firstPart_0 rfl rfl)
theorem dX2_firstPart_2 : decode cX2_firstPart 2 = .ok (.invokevirtual 67, 3) := dq_182 (dq_suf 2 dt06cX2_firstPart_0 rfl rfl) rfl
theorem dX2_firstPart_5 : decode cX2_firstPart 5 = .ok (.ifCond .eq 30, 3) := dq_153 (dq_suf 5 dt06cX2_firstPart_0 rfl rfl) (by decide +kernel)
theorem dX2_firstPart_8 : decode cX2_firstPart 8 = .ok (.aload_n 0, 1) := dq_42 (dq_suf 8 dt06cX2_firstPart_0 rfl rfl)
theorem dX2_firstPart_9 : decode cX2_firstPart 9 = .ok (.getfield 11, 3) := dq_180 (dq_suf 9 dt06cX2_firstPart_0 rfl rfl) rfl
theorem dX2_firstPart_12 : decode cX2_firstPart 12 = .ok (.iload_n 1, 1) := dq_27 (dq_suf 12 dt06cX2_firstPart_0 rfl rfl)
theorem dX2_firstPart_13 : decode cX2_firstPart 13 = .ok (.iconst 1, 1) := dq_4 (dq_suf 13 dt06cX2_firstPart_0 rfl rfl)
theorem dX2_firstPart_14 : decode cX2_firstPart 14 = .ok (.ishr, 1) := dq_122 (dq_suf 14 dt06cX2_firstPart_0 rfl rfl)
theorem dX2_firstPart_15 : decode cX2_firstPart 15 = .ok (.iaload, 1) := dq_46 (dq_suf 15 dt06cX2_firstPart_0 rfl rfl)
theorem dX2_firstPart_16 : decode cX2_firstPart 16 = .ok (.iconst 4, 1) := dq_7 (dq_suf 0 dt06cX2_firstPart_1 rfl rfl)
theorem dX2_firstPart_17 : decode cX2_firstPart 17 = .ok (.if_icmp .lt 18, 3) := dq_161 (dq_suf 1 dt06cX2_firstPart_1 rfl rfl) (by decide +kernel)
theorem dX2_firstPart_20 : decode cX2_firstPart 20 = .ok (.aload_n 0, 1) := dq_42 (dq_suf 4 dt06cX2_firstPart_1 rfl rfl)
theorem dX2_firstPart_21 : decode cX2_firstPart 21 = .ok (.getfield 15, 3) := dq_180 (dq_suf 5 dt06cX2_firstPart_1 rfl rfl) rfl
theorem dX2_firstPart_24 : decode cX2_firstPart 24 = .ok (.iload_n 1, 1) := dq_27 (dq_suf 8 dt06cX2_firstPart_1 rfl rfl)
theorem dX2_firstPart_25 : decode cX2_firstPart 25 = .ok (.iconst 1, 1) := dq_4 (dq_suf 9 dt06cX2_firstPart_1 rfl rfl)
theorem dX2_firstPart_26 : decode cX2_firstPart 26 = .ok (.ishr, 1) := dq_122 (dq_suf 10 dt06cX2_firstPart_1 rfl rfl)
theorem dX2_firstPart_27 : decode cX2_firstPart 27 = .ok (.iaload, 1) := dq_46 (dq_suf 11 dt06cX2_firstPart_1 rfl rfl)
theorem dX2_firstPart_28 : decode cX2_firstPart 28 = .ok (.iload_n 1, 1) := dq_27 (dq_suf 12 dt06cX2_firstPart_1 rfl rfl)
theorem dX2_firstPart_29 : decode cX2_firstPart 29 = .ok (.iconst 1, 1) := dq_4 (dq_suf 13 dt06cX2_firstPart_1 rfl rfl)
theorem dX2_firstPart_30 : decode cX2_firstPart 30 = .ok (.iand, 1) := dq_126 (dq_suf 14 dt06cX2_firstPart_1 rfl rfl)
theorem dX2_firstPart_31 : decode cX2_firstPart 31 = .ok (.ixor, 1) := dq_130 (dq_suf 15 dt06cX2_firstPart_1 rfl rfl)
theorem dX2_firstPart_32 : decode cX2_firstPart 32 = .ok (.goto 4, 3) := dq_167 (dq_suf 0 dt06cX2_firstPart_2 rfl rfl) (by decide +kernel)
theorem dX2_firstPart_35 : decode cX2_firstPart 35 = .ok (.iconst (-1), 1) := dq_2 (dq_suf 3 dt06cX2_firstPart_2 rfl rfl)
theorem dX2_firstPart_36 : decode cX2_firstPart 36 = .ok (.ireturn, 1) := dq_172 (dq_suf 4 dt06cX2_firstPart_2 rfl rfl)
noncomputable def ds06cX2_secondPart_2 : List UInt8 := 167 :: 0 :: 4 :: 2 :: 172 :: []
noncomputable def ds06cX2_secondPart_1 : List UInt8 := 7 :: 160 :: 0 :: 18 :: 42 :: 180 :: 0 :: 18 :: 27 :: 4 :: 122 :: 46 :: 27 :: 4 :: 126 :: 130 :: ds06cX2_secondPart_2
noncomputable def ds06cX2_secondPart_0 : List UInt8 := 42 :: 27 :: 182 :: 0 :: 67 :: 153 :: 0 :: 30 :: 42 :: 180 :: 0 :: 11 :: 27 :: 4 :: 122 :: 46 :: ds06cX2_secondPart_1
theorem dt06cX2_secondPart_0 : cX2_secondPart.data.toList.drop 0 = ds06cX2_secondPart_0 := by decide +kernel
theorem dt06cX2_secondPart_1 : cX2_secondPart.data.toList.drop 16 = ds06cX2_secondPart_1 := dq_suf 16 dt06cX2_secondPart_0 rfl rfl
theorem dt06cX2_secondPart_2 : cX2_secondPart.data.toList.drop 32 = ds06cX2_secondPart_2 := dq_suf 16 dt06cX2_secondPart_1 rfl rfl
theorem dX2_secondPart_0 : decode cX2_secondPart 0 = .ok (.aload_n 0, 1) := dq_42 (dq_suf 0 dt06cX2_secondPart_0 rfl rfl)
theorem dX2_secondPart_1 : decode cX2_secondPart 1 = .ok (.iload_n 1, 1) := dq_27 (dq_suf 1 dt06cX2_secondPart_0 rfl rfl)
theorem dX2_secondPart_2 : decode cX2_secondPart 2 = .ok (.invokevirtual 67, 3) := dq_182 (dq_suf 2 dt06cX2_secondPart_0 rfl rfl) rfl
theorem dX2_secondPart_5 : decode cX2_secondPart 5 = .ok (.ifCond .eq 30, 3) := dq_153 (dq_suf 5 dt06cX2_secondPart_0 rfl rfl) (by decide +kernel)
theorem dX2_secondPart_8 : decode cX2_secondPart 8 = .ok (.aload_n 0, 1) := dq_42 (dq_suf 8 dt06cX2_secondPart_0 rfl rfl)
theorem dX2_secondPart_9 : decode cX2_secondPart 9 = .ok (.getfield 11, 3) := dq_180 (dq_suf 9 dt06cX2_secondPart_0 rfl rfl) rfl
theorem dX2_secondPart_12 : decode cX2_secondPart 12 = .ok (.iload_n 1, 1) := dq_27 (dq_suf 12 dt06cX2_secondPart_0 rfl rfl)
theorem dX2_secondPart_13 : decode cX2_secondPart 13 = .ok (.iconst 1, 1) := dq_4 (dq_suf 13 dt06cX2_secondPart_0 rfl rfl)
theorem dX2_secondPart_14 : decode cX2_secondPart 14 = .ok (.ishr, 1) := dq_122 (dq_suf 14 dt06cX2_secondPart_0 rfl rfl)
theorem dX2_secondPart_15 : decode cX2_secondPart 15 = .ok (.iaload, 1) := dq_46 (dq_suf 15 dt06cX2_secondPart_0 rfl rfl)
theorem dX2_secondPart_16 : decode cX2_secondPart 16 = .ok (.iconst 4, 1) := dq_7 (dq_suf 0 dt06cX2_secondPart_1 rfl rfl)
theorem dX2_secondPart_17 : decode cX2_secondPart 17 = .ok (.if_icmp .ne 18, 3) := dq_160 (dq_suf 1 dt06cX2_secondPart_1 rfl rfl) (by decide +kernel)
theorem dX2_secondPart_20 : decode cX2_secondPart 20 = .ok (.aload_n 0, 1) := dq_42 (dq_suf 4 dt06cX2_secondPart_1 rfl rfl)
theorem dX2_secondPart_21 : decode cX2_secondPart 21 = .ok (.getfield 18, 3) := dq_180 (dq_suf 5 dt06cX2_secondPart_1 rfl rfl) rfl
theorem dX2_secondPart_24 : decode cX2_secondPart 24 = .ok (.iload_n 1, 1) := dq_27 (dq_suf 8 dt06cX2_secondPart_1 rfl rfl)
theorem dX2_secondPart_25 : decode cX2_secondPart 25 = .ok (.iconst 1, 1) := dq_4 (dq_suf 9 dt06cX2_secondPart_1 rfl rfl)
theorem dX2_secondPart_26 : decode cX2_secondPart 26 = .ok (.ishr, 1) := dq_122 (dq_suf 10 dt06cX2_secondPart_1 rfl rfl)
theorem dX2_secondPart_27 : decode cX2_secondPart 27 = .ok (.iaload, 1) := dq_46 (dq_suf 11 dt06cX2_secondPart_1 rfl rfl)
theorem dX2_secondPart_28 : decode cX2_secondPart 28 = .ok (.iload_n 1, 1) := dq_27 (dq_suf 12 dt06cX2_secondPart_1 rfl rfl)
theorem dX2_secondPart_29 : decode cX2_secondPart 29 = .ok (.iconst 1, 1) := dq_4 (dq_suf 13 dt06cX2_secondPart_1 rfl rfl)
theorem dX2_secondPart_30 : decode cX2_secondPart 30 = .ok (.iand, 1) := dq_126 (dq_suf 14 dt06cX2_secondPart_1 rfl rfl)
theorem dX2_secondPart_31 : decode cX2_secondPart 31 = .ok (.ixor, 1) := dq_130 (dq_suf 15 dt06cX2_secondPart_1 rfl rfl)
theorem dX2_secondPart_32 : decode cX2_secondPart 32 = .ok (.goto 4, 3) := dq_167 (dq_suf 0 dt06cX2_secondPart_2 rfl rfl) (by decide +kernel)
theorem dX2_secondPart_35 : decode cX2_secondPart 35 = .ok (.iconst (-1), 1) := dq_2 (dq_suf 3 dt06cX2_secondPart_2 rfl rfl)
theorem dX2_secondPart_36 : decode cX2_secondPart 36 = .ok (.ireturn, 1) := dq_172 (dq_suf 4 dt06cX2_secondPart_2 rfl rfl)
noncomputable def ds06cX2_number_6 : List UInt8 := 2 :: 159 :: 0 :: 7 :: 4 :: 167 :: 0 :: 4 :: 3 :: 172 :: []
noncomputable def ds06cX2_number_5 : List UInt8 := 4 :: 126 :: 128 :: 29 :: 21 :: 4 :: 182 :: 0 :: 76 :: 79 :: 42 :: 180 :: 0 :: 21 :: 27 :: 46 :: ds06cX2_number_6
noncomputable def ds06cX2_number_4 : List UInt8 := 42 :: 180 :: 0 :: 21 :: 27 :: 42 :: 180 :: 0 :: 27 :: 42 :: 180 :: 0 :: 11 :: 28 :: 46 :: 27 :: ds06cX2_number_5
noncomputable def ds06cX2_number_3 : List UInt8 := 0 :: 15 :: 28 :: 46 :: 62 :: 42 :: 42 :: 27 :: 182 :: 0 :: 73 :: 182 :: 0 :: 59 :: 54 :: 4 :: ds06cX2_number_4
noncomputable def ds06cX2_number_2 : List UInt8 := 0 :: 15 :: 42 :: 42 :: 27 :: 182 :: 0 :: 70 :: 182 :: 0 :: 59 :: 167 :: 0 :: 9 :: 42 :: 180 :: ds06cX2_number_3
noncomputable def ds06cX2_number_1 : List UInt8 := 2 :: 160 :: 0 :: 73 :: 27 :: 4 :: 122 :: 61 :: 42 :: 180 :: 0 :: 11 :: 28 :: 46 :: 7 :: 161 :: ds06cX2_number_2
noncomputable def ds06cX2_number_0 : List UInt8 := 42 :: 27 :: 182 :: 0 :: 67 :: 154 :: 0 :: 5 :: 3 :: 172 :: 42 :: 180 :: 0 :: 21 :: 27 :: 46 :: ds06cX2_number_1
theorem dt06cX2_number_0 : cX2_number.data.toList.drop 0 = ds06cX2_number_0 := by decide +kernel
theorem dt06cX2_number_1 : cX2_number.data.toList.drop 16 = ds06cX2_number_1 := dq_suf 16 dt06cX2_number_0 rfl rfl
theorem dt06cX2_number_2 : cX2_number.data.toList.drop 32 = ds06cX2_number_2 := dq_suf 16 dt06cX2_number_1 rfl rfl
theorem dt06cX2_number_3 : cX2_number.data.toList.drop 48 = ds06cX2_number_3 := dq_suf 16 dt06cX2_number_2 rfl rfl
theorem dt06cX2_number_4 : cX2_number.data.toList.drop 64 = ds06cX2_number_4 := dq_suf 16 dt06cX2_number_3 rfl rfl
theorem dt06cX2_number_5 : cX2_number.data.toList.drop 80 = ds06cX2_number_5 := dq_suf 16 dt06cX2_number_4 rfl rfl
theorem dt06cX2_number_6 : cX2_number.data.toList.drop 96 = ds06cX2_number_6 := dq_suf 16 dt06cX2_number_5 rfl rfl
theorem dX2_number_0 : decode cX2_number 0 = .ok (.aload_n 0, 1) := dq_42 (dq_suf 0 dt06cX2_number_0 rfl rfl)
theorem dX2_number_1 : decode cX2_number 1 = .ok (.iload_n 1, 1) := dq_27 (dq_suf 1 dt06cX2_number_0 rfl rfl)
theorem dX2_number_2 : decode cX2_number 2 = .ok (.invokevirtual 67, 3) := dq_182 (dq_suf 2 dt06cX2_number_0 rfl rfl) rfl
theorem dX2_number_5 : decode cX2_number 5 = .ok (.ifCond .ne 5, 3) := dq_154 (dq_suf 5 dt06cX2_number_0 rfl rfl) (by decide +kernel)
theorem dX2_number_8 : decode cX2_number 8 = .ok (.iconst 0, 1) := dq_3 (dq_suf 8 dt06cX2_number_0 rfl rfl)
theorem dX2_number_9 : decode cX2_number 9 = .ok (.ireturn, 1) := dq_172 (dq_suf 9 dt06cX2_number_0 rfl rfl)
theorem dX2_number_10 : decode cX2_number 10 = .ok (.aload_n 0, 1) := dq_42 (dq_suf 10 dt06cX2_number_0 rfl rfl)
theorem dX2_number_11 : decode cX2_number 11 = .ok (.getfield 21, 3) := dq_180 (dq_suf 11 dt06cX2_number_0 rfl rfl) rfl
theorem dX2_number_14 : decode cX2_number 14 = .ok (.iload_n 1, 1) := dq_27 (dq_suf 14 dt06cX2_number_0 rfl rfl)
theorem dX2_number_15 : decode cX2_number 15 = .ok (.iaload, 1) := dq_46 (dq_suf 15 dt06cX2_number_0 rfl rfl)
theorem dX2_number_16 : decode cX2_number 16 = .ok (.iconst (-1), 1) := dq_2 (dq_suf 0 dt06cX2_number_1 rfl rfl)
theorem dX2_number_17 : decode cX2_number 17 = .ok (.if_icmp .ne 73, 3) := dq_160 (dq_suf 1 dt06cX2_number_1 rfl rfl) (by decide +kernel)
theorem dX2_number_20 : decode cX2_number 20 = .ok (.iload_n 1, 1) := dq_27 (dq_suf 4 dt06cX2_number_1 rfl rfl)
theorem dX2_number_21 : decode cX2_number 21 = .ok (.iconst 1, 1) := dq_4 (dq_suf 5 dt06cX2_number_1 rfl rfl)
theorem dX2_number_22 : decode cX2_number 22 = .ok (.ishr, 1) := dq_122 (dq_suf 6 dt06cX2_number_1 rfl rfl)
theorem dX2_number_23 : decode cX2_number 23 = .ok (.istore_n 2, 1) := dq_61 (dq_suf 7 dt06cX2_number_1 rfl rfl)
theorem dX2_number_24 : decode cX2_number 24 = .ok (.aload_n 0, 1) := dq_42 (dq_suf 8 dt06cX2_number_1 rfl rfl)
theorem dX2_number_25 : decode cX2_number 25 = .ok (.getfield 11, 3) := dq_180 (dq_suf 9 dt06cX2_number_1 rfl rfl) rfl
theorem dX2_number_28 : decode cX2_number 28 = .ok (.iload_n 2, 1) := dq_28 (dq_suf 12 dt06cX2_number_1 rfl rfl)
theorem dX2_number_29 : decode cX2_number 29 = .ok (.iaload, 1) := dq_46 (dq_suf 13 dt06cX2_number_1 rfl rfl)
theorem dX2_number_30 : decode cX2_number 30 = .ok (.iconst 4, 1) := dq_7 (dq_suf 14 dt06cX2_number_1 rfl rfl)
theorem dX2_number_31 : decode cX2_number 31 = .ok (.if_icmp .lt 15, 3) := dq_161 (dq_suf 15 dt06cX2_number_1 rfl rfl) (by decide +kernel)
theorem dX2_number_34 : decode cX2_number 34 = .ok (.aload_n 0, 1) := dq_42 (dq_suf 2 dt06cX2_number_2 rfl rfl)
theorem dX2_number_35 : decode cX2_number 35 = .ok (.aload_n 0, 1) := dq_42 (dq_suf 3 dt06cX2_number_2 rfl rfl)
theorem dX2_number_36 : decode cX2_number 36 = .ok (.iload_n 1, 1) := dq_27 (dq_suf 4 dt06cX2_number_2 rfl rfl)
theorem dX2_number_37 : decode cX2_number 37 = .ok (.invokevirtual 70, 3) := dq_182 (dq_suf 5 dt06cX2_number_2 rfl rfl) rfl
theorem dX2_number_40 : decode cX2_number 40 = .ok (.invokevirtual 59, 3) := dq_182 (dq_suf 8 dt06cX2_number_2 rfl rfl) rfl
theorem dX2_number_43 : decode cX2_number 43 = .ok (.goto 9, 3) := dq_167 (dq_suf 11 dt06cX2_number_2 rfl rfl) (by decide +kernel)
theorem dX2_number_46 : decode cX2_number 46 = .ok (.aload_n 0, 1) := dq_42 (dq_suf 14 dt06cX2_number_2 rfl rfl)
theorem dX2_number_47 : decode cX2_number 47 = .ok (.getfield 15, 3) := dq_180 (dq_suf 15 dt06cX2_number_2 rfl rfl) rfl
theorem dX2_number_50 : decode cX2_number 50 = .ok (.iload_n 2, 1) := dq_28 (dq_suf 2 dt06cX2_number_3 rfl rfl)
theorem dX2_number_51 : decode cX2_number 51 = .ok (.iaload, 1) := dq_46 (dq_suf 3 dt06cX2_number_3 rfl rfl)
theorem dX2_number_52 : decode cX2_number 52 = .ok (.istore_n 3, 1) := dq_62 (dq_suf 4 dt06cX2_number_3 rfl rfl)
theorem dX2_number_53 : decode cX2_number 53 = .ok (.aload_n 0, 1) := dq_42 (dq_suf 5 dt06cX2_number_3 rfl rfl)
theorem dX2_number_54 : decode cX2_number 54 = .ok (.aload_n 0, 1) := dq_42 (dq_suf 6 dt06cX2_number_3 rfl rfl)
theorem dX2_number_55 : decode cX2_number 55 = .ok (.iload_n 1, 1) := dq_27 (dq_suf 7 dt06cX2_number_3 rfl rfl)
theorem dX2_number_56 : decode cX2_number 56 = .ok (.invokevirtual 73, 3) := dq_182 (dq_suf 8 dt06cX2_number_3 rfl rfl) rfl
theorem dX2_number_59 : decode cX2_number 59 = .ok (.invokevirtual 59, 3) := dq_182 (dq_suf 11 dt06cX2_number_3 rfl rfl) rfl
theorem dX2_number_62 : decode cX2_number 62 = .ok (.istore 4, 2) := dq_54 (dq_suf 14 dt06cX2_number_3 rfl rfl) rfl
theorem dX2_number_64 : decode cX2_number 64 = .ok (.aload_n 0, 1) := dq_42 (dq_suf 0 dt06cX2_number_4 rfl rfl)
theorem dX2_number_65 : decode cX2_number 65 = .ok (.getfield 21, 3) := dq_180 (dq_suf 1 dt06cX2_number_4 rfl rfl) rfl
theorem dX2_number_68 : decode cX2_number 68 = .ok (.iload_n 1, 1) := dq_27 (dq_suf 4 dt06cX2_number_4 rfl rfl)
theorem dX2_number_69 : decode cX2_number 69 = .ok (.aload_n 0, 1) := dq_42 (dq_suf 5 dt06cX2_number_4 rfl rfl)
theorem dX2_number_70 : decode cX2_number 70 = .ok (.getfield 27, 3) := dq_180 (dq_suf 6 dt06cX2_number_4 rfl rfl) rfl
theorem dX2_number_73 : decode cX2_number 73 = .ok (.aload_n 0, 1) := dq_42 (dq_suf 9 dt06cX2_number_4 rfl rfl)
theorem dX2_number_74 : decode cX2_number 74 = .ok (.getfield 11, 3) := dq_180 (dq_suf 10 dt06cX2_number_4 rfl rfl) rfl
theorem dX2_number_77 : decode cX2_number 77 = .ok (.iload_n 2, 1) := dq_28 (dq_suf 13 dt06cX2_number_4 rfl rfl)
theorem dX2_number_78 : decode cX2_number 78 = .ok (.iaload, 1) := dq_46 (dq_suf 14 dt06cX2_number_4 rfl rfl)
theorem dX2_number_79 : decode cX2_number 79 = .ok (.iload_n 1, 1) := dq_27 (dq_suf 15 dt06cX2_number_4 rfl rfl)
theorem dX2_number_80 : decode cX2_number 80 = .ok (.iconst 1, 1) := dq_4 (dq_suf 0 dt06cX2_number_5 rfl rfl)
theorem dX2_number_81 : decode cX2_number 81 = .ok (.iand, 1) := dq_126 (dq_suf 1 dt06cX2_number_5 rfl rfl)
theorem dX2_number_82 : decode cX2_number 82 = .ok (.ior, 1) := dq_128 (dq_suf 2 dt06cX2_number_5 rfl rfl)
theorem dX2_number_83 : decode cX2_number 83 = .ok (.iload_n 3, 1) := dq_29 (dq_suf 3 dt06cX2_number_5 rfl rfl)
theorem dX2_number_84 : decode cX2_number 84 = .ok (.iload 4, 2) := dq_21 (dq_suf 4 dt06cX2_number_5 rfl rfl) rfl
theorem dX2_number_86 : decode cX2_number 86 = .ok (.invokevirtual 76, 3) := dq_182 (dq_suf 6 dt06cX2_number_5 rfl rfl) rfl
theorem dX2_number_89 : decode cX2_number 89 = .ok (.iastore, 1) := dq_79 (dq_suf 9 dt06cX2_number_5 rfl rfl)
theorem dX2_number_90 : decode cX2_number 90 = .ok (.aload_n 0, 1) := dq_42 (dq_suf 10 dt06cX2_number_5 rfl rfl)
theorem dX2_number_91 : decode cX2_number 91 = .ok (.getfield 21, 3) := dq_180 (dq_suf 11 dt06cX2_number_5 rfl rfl) rfl
theorem dX2_number_94 : decode cX2_number 94 = .ok (.iload_n 1, 1) := dq_27 (dq_suf 14 dt06cX2_number_5 rfl rfl)
theorem dX2_number_95 : decode cX2_number 95 = .ok (.iaload, 1) := dq_46 (dq_suf 15 dt06cX2_number_5 rfl rfl)
theorem dX2_number_96 : decode cX2_number 96 = .ok (.iconst (-1), 1) := dq_2 (dq_suf 0 dt06cX2_number_6 rfl rfl)
theorem dX2_number_97 : decode cX2_number 97 = .ok (.if_icmp .eq 7, 3) := dq_159 (dq_suf 1 dt06cX2_number_6 rfl rfl) (by decide +kernel)
theorem dX2_number_100 : decode cX2_number 100 = .ok (.iconst 1, 1) := dq_4 (dq_suf 4 dt06cX2_number_6 rfl rfl)
theorem dX2_number_101 : decode cX2_number 101 = .ok (.goto 4, 3) := dq_167 (dq_suf 5 dt06cX2_number_6 rfl rfl) (by decide +kernel)
theorem dX2_number_104 : decode cX2_number 104 = .ok (.iconst 0, 1) := dq_3 (dq_suf 8 dt06cX2_number_6 rfl rfl)
theorem dX2_number_105 : decode cX2_number 105 = .ok (.ireturn, 1) := dq_172 (dq_suf 9 dt06cX2_number_6 rfl rfl)
noncomputable def ds06cX5_init_2 : List UInt8 := 42 :: 44 :: 181 :: 0 :: 26 :: 177 :: []
noncomputable def ds06cX5_init_1 : List UInt8 := 144 :: 188 :: 10 :: 181 :: 0 :: 15 :: 42 :: 2 :: 181 :: 0 :: 18 :: 42 :: 43 :: 181 :: 0 :: 22 :: ds06cX5_init_2
noncomputable def ds06cX5_init_0 : List UInt8 := 42 :: 183 :: 0 :: 3 :: 42 :: 17 :: 1 :: 144 :: 188 :: 10 :: 181 :: 0 :: 9 :: 42 :: 17 :: 1 :: ds06cX5_init_1
theorem dt06cX5_init_0 : cX5_init.data.toList.drop 0 = ds06cX5_init_0 := by decide +kernel
theorem dt06cX5_init_1 : cX5_init.data.toList.drop 16 = ds06cX5_init_1 := dq_suf 16 dt06cX5_init_0 rfl rfl
theorem dt06cX5_init_2 : cX5_init.data.toList.drop 32 = ds06cX5_init_2 := dq_suf 16 dt06cX5_init_1 rfl rfl
theorem dX5_init_0 : decode cX5_init 0 = .ok (.aload_n 0, 1) := dq_42 (dq_suf 0 dt06cX5_init_0 rfl rfl)
theorem dX5_init_1 : decode cX5_init 1 = .ok (.invokespecial 3, 3) := dq_183 (dq_suf 1 dt06cX5_init_0 rfl rfl) rfl
theorem dX5_init_4 : decode cX5_init 4 = .ok (.aload_n 0, 1) := dq_42 (dq_suf 4 dt06cX5_init_0 rfl rfl)
theorem dX5_init_5 : decode cX5_init 5 = .ok (.sipush 400, 3) := dq_17 (dq_suf 5 dt06cX5_init_0 rfl rfl) (by decide +kernel)
theorem dX5_init_8 : decode cX5_init 8 = .ok (.newarray .int, 2) := by decide +kernel
theorem dX5_init_10 : decode cX5_init 10 = .ok (.putfield 9, 3) := dq_181 (dq_suf 10 dt06cX5_init_0 rfl rfl) rfl
theorem dX5_init_13 : decode cX5_init 13 = .ok (.aload_n 0, 1) := dq_42 (dq_suf 13 dt06cX5_init_0 rfl rfl)
theorem dX5_init_14 : decode cX5_init 14 = .ok (.sipush 400, 3) := dq_17 (dq_suf 14 dt06cX5_init_0 rfl rfl) (by decide +kernel)
theorem dX5_init_17 : decode cX5_init 17 = .ok (.newarray .int, 2) := by decide +kernel
theorem dX5_init_19 : decode cX5_init 19 = .ok (.putfield 15, 3) := dq_181 (dq_suf 3 dt06cX5_init_1 rfl rfl) rfl
theorem dX5_init_22 : decode cX5_init 22 = .ok (.aload_n 0, 1) := dq_42 (dq_suf 6 dt06cX5_init_1 rfl rfl)
theorem dX5_init_23 : decode cX5_init 23 = .ok (.iconst (-1), 1) := dq_2 (dq_suf 7 dt06cX5_init_1 rfl rfl)
theorem dX5_init_24 : decode cX5_init 24 = .ok (.putfield 18, 3) := dq_181 (dq_suf 8 dt06cX5_init_1 rfl rfl) rfl
theorem dX5_init_27 : decode cX5_init 27 = .ok (.aload_n 0, 1) := dq_42 (dq_suf 11 dt06cX5_init_1 rfl rfl)
theorem dX5_init_28 : decode cX5_init 28 = .ok (.aload_n 1, 1) := dq_43 (dq_suf 12 dt06cX5_init_1 rfl rfl)
theorem dX5_init_29 : decode cX5_init 29 = .ok (.putfield 22, 3) := dq_181 (dq_suf 13 dt06cX5_init_1 rfl rfl) rfl
theorem dX5_init_32 : decode cX5_init 32 = .ok (.aload_n 0, 1) := dq_42 (dq_suf 0 dt06cX5_init_2 rfl rfl)
theorem dX5_init_33 : decode cX5_init 33 = .ok (.aload_n 2, 1) := dq_44 (dq_suf 1 dt06cX5_init_2 rfl rfl)
theorem dX5_init_34 : decode cX5_init 34 = .ok (.putfield 26, 3) := dq_181 (dq_suf 2 dt06cX5_init_2 rfl rfl) rfl
theorem dX5_init_37 : decode cX5_init 37 = .ok (.return_, 1) := dq_177 (dq_suf 5 dt06cX5_init_2 rfl rfl)
noncomputable def ds06cX5_faultFound_0 : List UInt8 := 42 :: 180 :: 0 :: 30 :: 172 :: []
theorem dt06cX5_faultFound_0 : cX5_faultFound.data.toList.drop 0 = ds06cX5_faultFound_0 := by decide +kernel
theorem dX5_faultFound_0 : decode cX5_faultFound 0 = .ok (.aload_n 0, 1) := dq_42 (dq_suf 0 dt06cX5_faultFound_0 rfl rfl)
theorem dX5_faultFound_1 : decode cX5_faultFound 1 = .ok (.getfield 30, 3) := dq_180 (dq_suf 1 dt06cX5_faultFound_0 rfl rfl) rfl
theorem dX5_faultFound_4 : decode cX5_faultFound 4 = .ok (.ireturn, 1) := dq_172 (dq_suf 4 dt06cX5_faultFound_0 rfl rfl)
noncomputable def ds06cX5_placeOfFault_0 : List UInt8 := 42 :: 180 :: 0 :: 18 :: 172 :: []
theorem dt06cX5_placeOfFault_0 : cX5_placeOfFault.data.toList.drop 0 = ds06cX5_placeOfFault_0 := by decide +kernel
theorem dX5_placeOfFault_0 : decode cX5_placeOfFault 0 = .ok (.aload_n 0, 1) := dq_42 (dq_suf 0 dt06cX5_placeOfFault_0 rfl rfl)
theorem dX5_placeOfFault_1 : decode cX5_placeOfFault 1 = .ok (.getfield 18, 3) := dq_180 (dq_suf 1 dt06cX5_placeOfFault_0 rfl rfl) rfl
theorem dX5_placeOfFault_4 : decode cX5_placeOfFault 4 = .ok (.ireturn, 1) := dq_172 (dq_suf 4 dt06cX5_placeOfFault_0 rfl rfl)
noncomputable def ds06cX5_fail_0 : List UInt8 := 42 :: 27 :: 181 :: 0 :: 30 :: 42 :: 28 :: 181 :: 0 :: 18 :: 177 :: []
theorem dt06cX5_fail_0 : cX5_fail.data.toList.drop 0 = ds06cX5_fail_0 := by decide +kernel
theorem dX5_fail_0 : decode cX5_fail 0 = .ok (.aload_n 0, 1) := dq_42 (dq_suf 0 dt06cX5_fail_0 rfl rfl)
theorem dX5_fail_1 : decode cX5_fail 1 = .ok (.iload_n 1, 1) := dq_27 (dq_suf 1 dt06cX5_fail_0 rfl rfl)
theorem dX5_fail_2 : decode cX5_fail 2 = .ok (.putfield 30, 3) := dq_181 (dq_suf 2 dt06cX5_fail_0 rfl rfl) rfl
theorem dX5_fail_5 : decode cX5_fail 5 = .ok (.aload_n 0, 1) := dq_42 (dq_suf 5 dt06cX5_fail_0 rfl rfl)
theorem dX5_fail_6 : decode cX5_fail 6 = .ok (.iload_n 2, 1) := dq_28 (dq_suf 6 dt06cX5_fail_0 rfl rfl)
theorem dX5_fail_7 : decode cX5_fail 7 = .ok (.putfield 18, 3) := dq_181 (dq_suf 7 dt06cX5_fail_0 rfl rfl) rfl
theorem dX5_fail_10 : decode cX5_fail 10 = .ok (.return_, 1) := dq_177 (dq_suf 10 dt06cX5_fail_0 rfl rfl)
noncomputable def ds06cX5_draw_6 : List UInt8 := 182 :: 0 :: 60 :: 167 :: 0 :: 4 :: 2 :: 172 :: []
noncomputable def ds06cX5_draw_5 : List UInt8 := 30 :: 154 :: 0 :: 7 :: 42 :: 182 :: 0 :: 57 :: 42 :: 180 :: 0 :: 30 :: 154 :: 0 :: 10 :: 42 :: ds06cX5_draw_6
noncomputable def ds06cX5_draw_4 : List UInt8 := 60 :: 160 :: 0 :: 6 :: 132 :: 3 :: 1 :: 132 :: 3 :: 1 :: 167 :: 255 :: 203 :: 42 :: 180 :: 0 :: ds06cX5_draw_5
noncomputable def ds06cX5_draw_3 : List UInt8 := 21 :: 4 :: 29 :: 182 :: 0 :: 53 :: 21 :: 4 :: 16 :: 91 :: 159 :: 0 :: 10 :: 21 :: 4 :: 16 :: ds06cX5_draw_4
noncomputable def ds06cX5_draw_2 : List UInt8 := 47 :: 42 :: 29 :: 182 :: 0 :: 49 :: 54 :: 4 :: 21 :: 4 :: 16 :: 32 :: 159 :: 0 :: 10 :: 42 :: ds06cX5_draw_3
noncomputable def ds06cX5_draw_1 : List UInt8 := 0 :: 43 :: 61 :: 3 :: 62 :: 29 :: 28 :: 162 :: 0 :: 54 :: 42 :: 180 :: 0 :: 30 :: 154 :: 0 :: ds06cX5_draw_2
noncomputable def ds06cX5_draw_0 : List UInt8 := 42 :: 27 :: 182 :: 0 :: 33 :: 42 :: 180 :: 0 :: 22 :: 182 :: 0 :: 37 :: 17 :: 1 :: 144 :: 184 :: ds06cX5_draw_1
theorem dt06cX5_draw_0 : cX5_draw.data.toList.drop 0 = ds06cX5_draw_0 := by decide +kernel
theorem dt06cX5_draw_1 : cX5_draw.data.toList.drop 16 = ds06cX5_draw_1 := dq_suf 16 dt06cX5_draw_0 rfl rfl
theorem dt06cX5_draw_2 : cX5_draw.data.toList.drop 32 = ds06cX5_draw_2 := dq_suf 16 dt06cX5_draw_1 rfl rfl
theorem dt06cX5_draw_3 : cX5_draw.data.toList.drop 48 = ds06cX5_draw_3 := dq_suf 16 dt06cX5_draw_2 rfl rfl
theorem dt06cX5_draw_4 : cX5_draw.data.toList.drop 64 = ds06cX5_draw_4 := dq_suf 16 dt06cX5_draw_3 rfl rfl
theorem dt06cX5_draw_5 : cX5_draw.data.toList.drop 80 = ds06cX5_draw_5 := dq_suf 16 dt06cX5_draw_4 rfl rfl
theorem dt06cX5_draw_6 : cX5_draw.data.toList.drop 96 = ds06cX5_draw_6 := dq_suf 16 dt06cX5_draw_5 rfl rfl
theorem dX5_draw_0 : decode cX5_draw 0 = .ok (.aload_n 0, 1) := dq_42 (dq_suf 0 dt06cX5_draw_0 rfl rfl)
theorem dX5_draw_1 : decode cX5_draw 1 = .ok (.iload_n 1, 1) := dq_27 (dq_suf 1 dt06cX5_draw_0 rfl rfl)
theorem dX5_draw_2 : decode cX5_draw 2 = .ok (.invokevirtual 33, 3) := dq_182 (dq_suf 2 dt06cX5_draw_0 rfl rfl) rfl
theorem dX5_draw_5 : decode cX5_draw 5 = .ok (.aload_n 0, 1) := dq_42 (dq_suf 5 dt06cX5_draw_0 rfl rfl)
theorem dX5_draw_6 : decode cX5_draw 6 = .ok (.getfield 22, 3) := dq_180 (dq_suf 6 dt06cX5_draw_0 rfl rfl) rfl
theorem dX5_draw_9 : decode cX5_draw 9 = .ok (.invokevirtual 37, 3) := dq_182 (dq_suf 9 dt06cX5_draw_0 rfl rfl) rfl
theorem dX5_draw_12 : decode cX5_draw 12 = .ok (.sipush 400, 3) := dq_17 (dq_suf 12 dt06cX5_draw_0 rfl rfl) (by decide +kernel)
theorem dX5_draw_15 : decode cX5_draw 15 = .ok (.invokestatic 43, 3) := dq_184 (dq_suf 15 dt06cX5_draw_0 rfl rfl) rfl
theorem dX5_draw_18 : decode cX5_draw 18 = .ok (.istore_n 2, 1) := dq_61 (dq_suf 2 dt06cX5_draw_1 rfl rfl)
theorem dX5_draw_19 : decode cX5_draw 19 = .ok (.iconst 0, 1) := dq_3 (dq_suf 3 dt06cX5_draw_1 rfl rfl)
theorem dX5_draw_20 : decode cX5_draw 20 = .ok (.istore_n 3, 1) := dq_62 (dq_suf 4 dt06cX5_draw_1 rfl rfl)
theorem dX5_draw_21 : decode cX5_draw 21 = .ok (.iload_n 3, 1) := dq_29 (dq_suf 5 dt06cX5_draw_1 rfl rfl)
theorem dX5_draw_22 : decode cX5_draw 22 = .ok (.iload_n 2, 1) := dq_28 (dq_suf 6 dt06cX5_draw_1 rfl rfl)
theorem dX5_draw_23 : decode cX5_draw 23 = .ok (.if_icmp .ge 54, 3) := dq_162 (dq_suf 7 dt06cX5_draw_1 rfl rfl) (by decide +kernel)
theorem dX5_draw_26 : decode cX5_draw 26 = .ok (.aload_n 0, 1) := dq_42 (dq_suf 10 dt06cX5_draw_1 rfl rfl)
theorem dX5_draw_27 : decode cX5_draw 27 = .ok (.getfield 30, 3) := dq_180 (dq_suf 11 dt06cX5_draw_1 rfl rfl) rfl
theorem dX5_draw_30 : decode cX5_draw 30 = .ok (.ifCond .ne 47, 3) := dq_154 (dq_suf 14 dt06cX5_draw_1 rfl rfl) (by decide +kernel)
theorem dX5_draw_33 : decode cX5_draw 33 = .ok (.aload_n 0, 1) := dq_42 (dq_suf 1 dt06cX5_draw_2 rfl rfl)
theorem dX5_draw_34 : decode cX5_draw 34 = .ok (.iload_n 3, 1) := dq_29 (dq_suf 2 dt06cX5_draw_2 rfl rfl)
theorem dX5_draw_35 : decode cX5_draw 35 = .ok (.invokevirtual 49, 3) := dq_182 (dq_suf 3 dt06cX5_draw_2 rfl rfl) rfl
theorem dX5_draw_38 : decode cX5_draw 38 = .ok (.istore 4, 2) := dq_54 (dq_suf 6 dt06cX5_draw_2 rfl rfl) rfl
theorem dX5_draw_40 : decode cX5_draw 40 = .ok (.iload 4, 2) := dq_21 (dq_suf 8 dt06cX5_draw_2 rfl rfl) rfl
theorem dX5_draw_42 : decode cX5_draw 42 = .ok (.bipush 32, 2) := dq_16 (dq_suf 10 dt06cX5_draw_2 rfl rfl) (by decide +kernel)
theorem dX5_draw_44 : decode cX5_draw 44 = .ok (.if_icmp .eq 10, 3) := dq_159 (dq_suf 12 dt06cX5_draw_2 rfl rfl) (by decide +kernel)
theorem dX5_draw_47 : decode cX5_draw 47 = .ok (.aload_n 0, 1) := dq_42 (dq_suf 15 dt06cX5_draw_2 rfl rfl)
theorem dX5_draw_48 : decode cX5_draw 48 = .ok (.iload 4, 2) := dq_21 (dq_suf 0 dt06cX5_draw_3 rfl rfl) rfl
theorem dX5_draw_50 : decode cX5_draw 50 = .ok (.iload_n 3, 1) := dq_29 (dq_suf 2 dt06cX5_draw_3 rfl rfl)
theorem dX5_draw_51 : decode cX5_draw 51 = .ok (.invokevirtual 53, 3) := dq_182 (dq_suf 3 dt06cX5_draw_3 rfl rfl) rfl
theorem dX5_draw_54 : decode cX5_draw 54 = .ok (.iload 4, 2) := dq_21 (dq_suf 6 dt06cX5_draw_3 rfl rfl) rfl
theorem dX5_draw_56 : decode cX5_draw 56 = .ok (.bipush 91, 2) := dq_16 (dq_suf 8 dt06cX5_draw_3 rfl rfl) (by decide +kernel)
theorem dX5_draw_58 : decode cX5_draw 58 = .ok (.if_icmp .eq 10, 3) := dq_159 (dq_suf 10 dt06cX5_draw_3 rfl rfl) (by decide +kernel)
theorem dX5_draw_61 : decode cX5_draw 61 = .ok (.iload 4, 2) := dq_21 (dq_suf 13 dt06cX5_draw_3 rfl rfl) rfl
theorem dX5_draw_63 : decode cX5_draw 63 = .ok (.bipush 60, 2) := dq_16 (dq_suf 15 dt06cX5_draw_3 rfl rfl) (by decide +kernel)
theorem dX5_draw_65 : decode cX5_draw 65 = .ok (.if_icmp .ne 6, 3) := dq_160 (dq_suf 1 dt06cX5_draw_4 rfl rfl) (by decide +kernel)
theorem dX5_draw_68 : decode cX5_draw 68 = .ok (.iinc 3 1, 3) := dq_132 (dq_suf 4 dt06cX5_draw_4 rfl rfl) rfl (by decide +kernel)
theorem dX5_draw_71 : decode cX5_draw 71 = .ok (.iinc 3 1, 3) := dq_132 (dq_suf 7 dt06cX5_draw_4 rfl rfl) rfl (by decide +kernel)
theorem dX5_draw_74 : decode cX5_draw 74 = .ok (.goto (-53), 3) := dq_167 (dq_suf 10 dt06cX5_draw_4 rfl rfl) (by decide +kernel)
theorem dX5_draw_77 : decode cX5_draw 77 = .ok (.aload_n 0, 1) := dq_42 (dq_suf 13 dt06cX5_draw_4 rfl rfl)
theorem dX5_draw_78 : decode cX5_draw 78 = .ok (.getfield 30, 3) := dq_180 (dq_suf 14 dt06cX5_draw_4 rfl rfl) rfl
theorem dX5_draw_81 : decode cX5_draw 81 = .ok (.ifCond .ne 7, 3) := dq_154 (dq_suf 1 dt06cX5_draw_5 rfl rfl) (by decide +kernel)
theorem dX5_draw_84 : decode cX5_draw 84 = .ok (.aload_n 0, 1) := dq_42 (dq_suf 4 dt06cX5_draw_5 rfl rfl)
theorem dX5_draw_85 : decode cX5_draw 85 = .ok (.invokevirtual 57, 3) := dq_182 (dq_suf 5 dt06cX5_draw_5 rfl rfl) rfl
theorem dX5_draw_88 : decode cX5_draw 88 = .ok (.aload_n 0, 1) := dq_42 (dq_suf 8 dt06cX5_draw_5 rfl rfl)
theorem dX5_draw_89 : decode cX5_draw 89 = .ok (.getfield 30, 3) := dq_180 (dq_suf 9 dt06cX5_draw_5 rfl rfl) rfl
theorem dX5_draw_92 : decode cX5_draw 92 = .ok (.ifCond .ne 10, 3) := dq_154 (dq_suf 12 dt06cX5_draw_5 rfl rfl) (by decide +kernel)
theorem dX5_draw_95 : decode cX5_draw 95 = .ok (.aload_n 0, 1) := dq_42 (dq_suf 15 dt06cX5_draw_5 rfl rfl)
theorem dX5_draw_96 : decode cX5_draw 96 = .ok (.invokevirtual 60, 3) := dq_182 (dq_suf 0 dt06cX5_draw_6 rfl rfl) rfl
theorem dX5_draw_99 : decode cX5_draw 99 = .ok (.goto 4, 3) := dq_167 (dq_suf 3 dt06cX5_draw_6 rfl rfl) (by decide +kernel)
theorem dX5_draw_102 : decode cX5_draw 102 = .ok (.iconst (-1), 1) := dq_2 (dq_suf 6 dt06cX5_draw_6 rfl rfl)
theorem dX5_draw_103 : decode cX5_draw 103 = .ok (.ireturn, 1) := dq_172 (dq_suf 7 dt06cX5_draw_6 rfl rfl)
noncomputable def ds06cX5_begin_2 : List UInt8 := 42 :: 27 :: 181 :: 0 :: 84 :: 42 :: 3 :: 2 :: 182 :: 0 :: 87 :: 177 :: []
noncomputable def ds06cX5_begin_1 : List UInt8 := 71 :: 42 :: 3 :: 181 :: 0 :: 74 :: 42 :: 3 :: 181 :: 0 :: 77 :: 42 :: 4 :: 181 :: 0 :: 80 :: ds06cX5_begin_2
noncomputable def ds06cX5_begin_0 : List UInt8 := 42 :: 180 :: 0 :: 26 :: 182 :: 0 :: 63 :: 42 :: 3 :: 181 :: 0 :: 68 :: 42 :: 3 :: 181 :: 0 :: ds06cX5_begin_1
theorem dt06cX5_begin_0 : cX5_begin.data.toList.drop 0 = ds06cX5_begin_0 := by decide +kernel
theorem dt06cX5_begin_1 : cX5_begin.data.toList.drop 16 = ds06cX5_begin_1 := dq_suf 16 dt06cX5_begin_0 rfl rfl
theorem dt06cX5_begin_2 : cX5_begin.data.toList.drop 32 = ds06cX5_begin_2 := dq_suf 16 dt06cX5_begin_1 rfl rfl
theorem dX5_begin_0 : decode cX5_begin 0 = .ok (.aload_n 0, 1) := dq_42 (dq_suf 0 dt06cX5_begin_0 rfl rfl)
theorem dX5_begin_1 : decode cX5_begin 1 = .ok (.getfield 26, 3) := dq_180 (dq_suf 1 dt06cX5_begin_0 rfl rfl) rfl
theorem dX5_begin_4 : decode cX5_begin 4 = .ok (.invokevirtual 63, 3) := dq_182 (dq_suf 4 dt06cX5_begin_0 rfl rfl) rfl
theorem dX5_begin_7 : decode cX5_begin 7 = .ok (.aload_n 0, 1) := dq_42 (dq_suf 7 dt06cX5_begin_0 rfl rfl)
theorem dX5_begin_8 : decode cX5_begin 8 = .ok (.iconst 0, 1) := dq_3 (dq_suf 8 dt06cX5_begin_0 rfl rfl)
theorem dX5_begin_9 : decode cX5_begin 9 = .ok (.putfield 68, 3) := dq_181 (dq_suf 9 dt06cX5_begin_0 rfl rfl) rfl
theorem dX5_begin_12 : decode cX5_begin 12 = .ok (.aload_n 0, 1) := dq_42 (dq_suf 12 dt06cX5_begin_0 rfl rfl)
theorem dX5_begin_13 : decode cX5_begin 13 = .ok (.iconst 0, 1) := dq_3 (dq_suf 13 dt06cX5_begin_0 rfl rfl)
theorem dX5_begin_14 : decode cX5_begin 14 = .ok (.putfield 71, 3) := dq_181 (dq_suf 14 dt06cX5_begin_0 rfl rfl) rfl
theorem dX5_begin_17 : decode cX5_begin 17 = .ok (.aload_n 0, 1) := dq_42 (dq_suf 1 dt06cX5_begin_1 rfl rfl)
theorem dX5_begin_18 : decode cX5_begin 18 = .ok (.iconst 0, 1) := dq_3 (dq_suf 2 dt06cX5_begin_1 rfl rfl)
theorem dX5_begin_19 : decode cX5_begin 19 = .ok (.putfield 74, 3) := dq_181 (dq_suf 3 dt06cX5_begin_1 rfl rfl) rfl
theorem dX5_begin_22 : decode cX5_begin 22 = .ok (.aload_n 0, 1) := dq_42 (dq_suf 6 dt06cX5_begin_1 rfl rfl)
theorem dX5_begin_23 : decode cX5_begin 23 = .ok (.iconst 0, 1) := dq_3 (dq_suf 7 dt06cX5_begin_1 rfl rfl)
theorem dX5_begin_24 : decode cX5_begin 24 = .ok (.putfield 77, 3) := dq_181 (dq_suf 8 dt06cX5_begin_1 rfl rfl) rfl
theorem dX5_begin_27 : decode cX5_begin 27 = .ok (.aload_n 0, 1) := dq_42 (dq_suf 11 dt06cX5_begin_1 rfl rfl)
theorem dX5_begin_28 : decode cX5_begin 28 = .ok (.iconst 1, 1) := dq_4 (dq_suf 12 dt06cX5_begin_1 rfl rfl)
theorem dX5_begin_29 : decode cX5_begin 29 = .ok (.putfield 80, 3) := dq_181 (dq_suf 13 dt06cX5_begin_1 rfl rfl) rfl
theorem dX5_begin_32 : decode cX5_begin 32 = .ok (.aload_n 0, 1) := dq_42 (dq_suf 0 dt06cX5_begin_2 rfl rfl)
theorem dX5_begin_33 : decode cX5_begin 33 = .ok (.iload_n 1, 1) := dq_27 (dq_suf 1 dt06cX5_begin_2 rfl rfl)
theorem dX5_begin_34 : decode cX5_begin 34 = .ok (.putfield 84, 3) := dq_181 (dq_suf 2 dt06cX5_begin_2 rfl rfl) rfl
theorem dX5_begin_37 : decode cX5_begin 37 = .ok (.aload_n 0, 1) := dq_42 (dq_suf 5 dt06cX5_begin_2 rfl rfl)
theorem dX5_begin_38 : decode cX5_begin 38 = .ok (.iconst 0, 1) := dq_3 (dq_suf 6 dt06cX5_begin_2 rfl rfl)
theorem dX5_begin_39 : decode cX5_begin 39 = .ok (.iconst (-1), 1) := dq_2 (dq_suf 7 dt06cX5_begin_2 rfl rfl)
theorem dX5_begin_40 : decode cX5_begin 40 = .ok (.invokevirtual 87, 3) := dq_182 (dq_suf 8 dt06cX5_begin_2 rfl rfl) rfl
theorem dX5_begin_43 : decode cX5_begin 43 = .ok (.return_, 1) := dq_177 (dq_suf 11 dt06cX5_begin_2 rfl rfl)
noncomputable def ds06cX5_finish_3 : List UInt8 := 0 :: 87 :: 167 :: 0 :: 8 :: 42 :: 4 :: 182 :: 0 :: 90 :: 177 :: []
noncomputable def ds06cX5_finish_2 : List UInt8 := 180 :: 0 :: 77 :: 158 :: 0 :: 18 :: 42 :: 4 :: 42 :: 180 :: 0 :: 22 :: 182 :: 0 :: 37 :: 182 :: ds06cX5_finish_3
noncomputable def ds06cX5_finish_1 : List UInt8 := 1 :: 144 :: 182 :: 0 :: 87 :: 167 :: 0 :: 37 :: 42 :: 180 :: 0 :: 80 :: 154 :: 0 :: 10 :: 42 :: ds06cX5_finish_2
noncomputable def ds06cX5_finish_0 : List UInt8 := 42 :: 180 :: 0 :: 22 :: 182 :: 0 :: 37 :: 17 :: 1 :: 144 :: 164 :: 0 :: 14 :: 42 :: 4 :: 17 :: ds06cX5_finish_1
theorem dt06cX5_finish_0 : cX5_finish.data.toList.drop 0 = ds06cX5_finish_0 := by decide +kernel
theorem dt06cX5_finish_1 : cX5_finish.data.toList.drop 16 = ds06cX5_finish_1 := dq_suf 16 dt06cX5_finish_0 rfl rfl
theorem dt06cX5_finish_2 : cX5_finish.data.toList.drop 32 = ds06cX5_finish_2 := dq_suf 16 dt06cX5_finish_1 rfl rfl
theorem dt06cX5_finish_3 : cX5_finish.data.toList.drop 48 = ds06cX5_finish_3 := dq_suf 16 dt06cX5_finish_2 rfl rfl
theorem dX5_finish_0 : decode cX5_finish 0 = .ok (.aload_n 0, 1) := dq_42 (dq_suf 0 dt06cX5_finish_0 rfl rfl)
theorem dX5_finish_1 : decode cX5_finish 1 = .ok (.getfield 22, 3) := dq_180 (dq_suf 1 dt06cX5_finish_0 rfl rfl) rfl
theorem dX5_finish_4 : decode cX5_finish 4 = .ok (.invokevirtual 37, 3) := dq_182 (dq_suf 4 dt06cX5_finish_0 rfl rfl) rfl
theorem dX5_finish_7 : decode cX5_finish 7 = .ok (.sipush 400, 3) := dq_17 (dq_suf 7 dt06cX5_finish_0 rfl rfl) (by decide +kernel)
theorem dX5_finish_10 : decode cX5_finish 10 = .ok (.if_icmp .le 14, 3) := dq_164 (dq_suf 10 dt06cX5_finish_0 rfl rfl) (by decide +kernel)
theorem dX5_finish_13 : decode cX5_finish 13 = .ok (.aload_n 0, 1) := dq_42 (dq_suf 13 dt06cX5_finish_0 rfl rfl)
theorem dX5_finish_14 : decode cX5_finish 14 = .ok (.iconst 1, 1) := dq_4 (dq_suf 14 dt06cX5_finish_0 rfl rfl)
theorem dX5_finish_15 : decode cX5_finish 15 = .ok (.sipush 400, 3) := dq_17 (dq_suf 15 dt06cX5_finish_0 rfl rfl) (by decide +kernel)
theorem dX5_finish_18 : decode cX5_finish 18 = .ok (.invokevirtual 87, 3) := dq_182 (dq_suf 2 dt06cX5_finish_1 rfl rfl) rfl
theorem dX5_finish_21 : decode cX5_finish 21 = .ok (.goto 37, 3) := dq_167 (dq_suf 5 dt06cX5_finish_1 rfl rfl) (by decide +kernel)
theorem dX5_finish_24 : decode cX5_finish 24 = .ok (.aload_n 0, 1) := dq_42 (dq_suf 8 dt06cX5_finish_1 rfl rfl)
theorem dX5_finish_25 : decode cX5_finish 25 = .ok (.getfield 80, 3) := dq_180 (dq_suf 9 dt06cX5_finish_1 rfl rfl) rfl
theorem dX5_finish_28 : decode cX5_finish 28 = .ok (.ifCond .ne 10, 3) := dq_154 (dq_suf 12 dt06cX5_finish_1 rfl rfl) (by decide +kernel)
theorem dX5_finish_31 : decode cX5_finish 31 = .ok (.aload_n 0, 1) := dq_42 (dq_suf 15 dt06cX5_finish_1 rfl rfl)
theorem dX5_finish_32 : decode cX5_finish 32 = .ok (.getfield 77, 3) := dq_180 (dq_suf 0 dt06cX5_finish_2 rfl rfl) rfl
theorem dX5_finish_35 : decode cX5_finish 35 = .ok (.ifCond .le 18, 3) := dq_158 (dq_suf 3 dt06cX5_finish_2 rfl rfl) (by decide +kernel)
theorem dX5_finish_38 : decode cX5_finish 38 = .ok (.aload_n 0, 1) := dq_42 (dq_suf 6 dt06cX5_finish_2 rfl rfl)
theorem dX5_finish_39 : decode cX5_finish 39 = .ok (.iconst 1, 1) := dq_4 (dq_suf 7 dt06cX5_finish_2 rfl rfl)
theorem dX5_finish_40 : decode cX5_finish 40 = .ok (.aload_n 0, 1) := dq_42 (dq_suf 8 dt06cX5_finish_2 rfl rfl)
theorem dX5_finish_41 : decode cX5_finish 41 = .ok (.getfield 22, 3) := dq_180 (dq_suf 9 dt06cX5_finish_2 rfl rfl) rfl
theorem dX5_finish_44 : decode cX5_finish 44 = .ok (.invokevirtual 37, 3) := dq_182 (dq_suf 12 dt06cX5_finish_2 rfl rfl) rfl
theorem dX5_finish_47 : decode cX5_finish 47 = .ok (.invokevirtual 87, 3) := dq_182 (dq_suf 15 dt06cX5_finish_2 rfl rfl) rfl
theorem dX5_finish_50 : decode cX5_finish 50 = .ok (.goto 8, 3) := dq_167 (dq_suf 2 dt06cX5_finish_3 rfl rfl) (by decide +kernel)
theorem dX5_finish_53 : decode cX5_finish 53 = .ok (.aload_n 0, 1) := dq_42 (dq_suf 5 dt06cX5_finish_3 rfl rfl)
theorem dX5_finish_54 : decode cX5_finish 54 = .ok (.iconst 1, 1) := dq_4 (dq_suf 6 dt06cX5_finish_3 rfl rfl)
theorem dX5_finish_55 : decode cX5_finish 55 = .ok (.invokevirtual 90, 3) := dq_182 (dq_suf 7 dt06cX5_finish_3 rfl rfl) rfl
theorem dX5_finish_58 : decode cX5_finish 58 = .ok (.return_, 1) := dq_177 (dq_suf 10 dt06cX5_finish_3 rfl rfl)
noncomputable def ds06cX5_signAt_4 : List UInt8 := 0 :: 15 :: 29 :: 16 :: 62 :: 160 :: 0 :: 7 :: 28 :: 167 :: 0 :: 4 :: 3 :: 172 :: 28 :: 172 :: []
noncomputable def ds06cX5_signAt_3 : List UInt8 := 29 :: 16 :: 93 :: 160 :: 0 :: 7 :: 28 :: 167 :: 0 :: 4 :: 3 :: 172 :: 28 :: 16 :: 60 :: 160 :: ds06cX5_signAt_4
noncomputable def ds06cX5_signAt_2 : List UInt8 := 62 :: 28 :: 16 :: 10 :: 160 :: 0 :: 6 :: 16 :: 32 :: 172 :: 28 :: 16 :: 91 :: 160 :: 0 :: 15 :: ds06cX5_signAt_3
noncomputable def ds06cX5_signAt_1 : List UInt8 := 0 :: 16 :: 42 :: 180 :: 0 :: 22 :: 27 :: 4 :: 96 :: 182 :: 0 :: 94 :: 167 :: 0 :: 4 :: 2 :: ds06cX5_signAt_2
noncomputable def ds06cX5_signAt_0 : List UInt8 := 42 :: 180 :: 0 :: 22 :: 27 :: 182 :: 0 :: 94 :: 61 :: 27 :: 4 :: 96 :: 17 :: 1 :: 144 :: 162 :: ds06cX5_signAt_1
theorem dt06cX5_signAt_0 : cX5_signAt.data.toList.drop 0 = ds06cX5_signAt_0 := by decide +kernel
theorem dt06cX5_signAt_1 : cX5_signAt.data.toList.drop 16 = ds06cX5_signAt_1 := dq_suf 16 dt06cX5_signAt_0 rfl rfl
theorem dt06cX5_signAt_2 : cX5_signAt.data.toList.drop 32 = ds06cX5_signAt_2 := dq_suf 16 dt06cX5_signAt_1 rfl rfl
theorem dt06cX5_signAt_3 : cX5_signAt.data.toList.drop 48 = ds06cX5_signAt_3 := dq_suf 16 dt06cX5_signAt_2 rfl rfl
theorem dt06cX5_signAt_4 : cX5_signAt.data.toList.drop 64 = ds06cX5_signAt_4 := dq_suf 16 dt06cX5_signAt_3 rfl rfl
theorem dX5_signAt_0 : decode cX5_signAt 0 = .ok (.aload_n 0, 1) := dq_42 (dq_suf 0 dt06cX5_signAt_0 rfl rfl)
theorem dX5_signAt_1 : decode cX5_signAt 1 = .ok (.getfield 22, 3) := dq_180 (dq_suf 1 dt06cX5_signAt_0 rfl rfl) rfl
theorem dX5_signAt_4 : decode cX5_signAt 4 = .ok (.iload_n 1, 1) := dq_27 (dq_suf 4 dt06cX5_signAt_0 rfl rfl)
theorem dX5_signAt_5 : decode cX5_signAt 5 = .ok (.invokevirtual 94, 3) := dq_182 (dq_suf 5 dt06cX5_signAt_0 rfl rfl) rfl
theorem dX5_signAt_8 : decode cX5_signAt 8 = .ok (.istore_n 2, 1) := dq_61 (dq_suf 8 dt06cX5_signAt_0 rfl rfl)
theorem dX5_signAt_9 : decode cX5_signAt 9 = .ok (.iload_n 1, 1) := dq_27 (dq_suf 9 dt06cX5_signAt_0 rfl rfl)
theorem dX5_signAt_10 : decode cX5_signAt 10 = .ok (.iconst 1, 1) := dq_4 (dq_suf 10 dt06cX5_signAt_0 rfl rfl)
theorem dX5_signAt_11 : decode cX5_signAt 11 = .ok (.iadd, 1) := dq_96 (dq_suf 11 dt06cX5_signAt_0 rfl rfl)
theorem dX5_signAt_12 : decode cX5_signAt 12 = .ok (.sipush 400, 3) := dq_17 (dq_suf 12 dt06cX5_signAt_0 rfl rfl) (by decide +kernel)
theorem dX5_signAt_15 : decode cX5_signAt 15 = .ok (.if_icmp .ge 16, 3) := dq_162 (dq_suf 15 dt06cX5_signAt_0 rfl rfl) (by decide +kernel)
theorem dX5_signAt_18 : decode cX5_signAt 18 = .ok (.aload_n 0, 1) := dq_42 (dq_suf 2 dt06cX5_signAt_1 rfl rfl)
theorem dX5_signAt_19 : decode cX5_signAt 19 = .ok (.getfield 22, 3) := dq_180 (dq_suf 3 dt06cX5_signAt_1 rfl rfl) rfl
theorem dX5_signAt_22 : decode cX5_signAt 22 = .ok (.iload_n 1, 1) := dq_27 (dq_suf 6 dt06cX5_signAt_1 rfl rfl)
theorem dX5_signAt_23 : decode cX5_signAt 23 = .ok (.iconst 1, 1) := dq_4 (dq_suf 7 dt06cX5_signAt_1 rfl rfl)
theorem dX5_signAt_24 : decode cX5_signAt 24 = .ok (.iadd, 1) := dq_96 (dq_suf 8 dt06cX5_signAt_1 rfl rfl)
theorem dX5_signAt_25 : decode cX5_signAt 25 = .ok (.invokevirtual 94, 3) := dq_182 (dq_suf 9 dt06cX5_signAt_1 rfl rfl) rfl
theorem dX5_signAt_28 : decode cX5_signAt 28 = .ok (.goto 4, 3) := dq_167 (dq_suf 12 dt06cX5_signAt_1 rfl rfl) (by decide +kernel)
theorem dX5_signAt_31 : decode cX5_signAt 31 = .ok (.iconst (-1), 1) := dq_2 (dq_suf 15 dt06cX5_signAt_1 rfl rfl)
theorem dX5_signAt_32 : decode cX5_signAt 32 = .ok (.istore_n 3, 1) := dq_62 (dq_suf 0 dt06cX5_signAt_2 rfl rfl)
theorem dX5_signAt_33 : decode cX5_signAt 33 = .ok (.iload_n 2, 1) := dq_28 (dq_suf 1 dt06cX5_signAt_2 rfl rfl)
theorem dX5_signAt_34 : decode cX5_signAt 34 = .ok (.bipush 10, 2) := dq_16 (dq_suf 2 dt06cX5_signAt_2 rfl rfl) (by decide +kernel)
theorem dX5_signAt_36 : decode cX5_signAt 36 = .ok (.if_icmp .ne 6, 3) := dq_160 (dq_suf 4 dt06cX5_signAt_2 rfl rfl) (by decide +kernel)
theorem dX5_signAt_39 : decode cX5_signAt 39 = .ok (.bipush 32, 2) := dq_16 (dq_suf 7 dt06cX5_signAt_2 rfl rfl) (by decide +kernel)
theorem dX5_signAt_41 : decode cX5_signAt 41 = .ok (.ireturn, 1) := dq_172 (dq_suf 9 dt06cX5_signAt_2 rfl rfl)
theorem dX5_signAt_42 : decode cX5_signAt 42 = .ok (.iload_n 2, 1) := dq_28 (dq_suf 10 dt06cX5_signAt_2 rfl rfl)
theorem dX5_signAt_43 : decode cX5_signAt 43 = .ok (.bipush 91, 2) := dq_16 (dq_suf 11 dt06cX5_signAt_2 rfl rfl) (by decide +kernel)
theorem dX5_signAt_45 : decode cX5_signAt 45 = .ok (.if_icmp .ne 15, 3) := dq_160 (dq_suf 13 dt06cX5_signAt_2 rfl rfl) (by decide +kernel)
theorem dX5_signAt_48 : decode cX5_signAt 48 = .ok (.iload_n 3, 1) := dq_29 (dq_suf 0 dt06cX5_signAt_3 rfl rfl)
theorem dX5_signAt_49 : decode cX5_signAt 49 = .ok (.bipush 93, 2) := dq_16 (dq_suf 1 dt06cX5_signAt_3 rfl rfl) (by decide +kernel)
theorem dX5_signAt_51 : decode cX5_signAt 51 = .ok (.if_icmp .ne 7, 3) := dq_160 (dq_suf 3 dt06cX5_signAt_3 rfl rfl) (by decide +kernel)
theorem dX5_signAt_54 : decode cX5_signAt 54 = .ok (.iload_n 2, 1) := dq_28 (dq_suf 6 dt06cX5_signAt_3 rfl rfl)
theorem dX5_signAt_55 : decode cX5_signAt 55 = .ok (.goto 4, 3) := dq_167 (dq_suf 7 dt06cX5_signAt_3 rfl rfl) (by decide +kernel)
theorem dX5_signAt_58 : decode cX5_signAt 58 = .ok (.iconst 0, 1) := dq_3 (dq_suf 10 dt06cX5_signAt_3 rfl rfl)
theorem dX5_signAt_59 : decode cX5_signAt 59 = .ok (.ireturn, 1) := dq_172 (dq_suf 11 dt06cX5_signAt_3 rfl rfl)
theorem dX5_signAt_60 : decode cX5_signAt 60 = .ok (.iload_n 2, 1) := dq_28 (dq_suf 12 dt06cX5_signAt_3 rfl rfl)
theorem dX5_signAt_61 : decode cX5_signAt 61 = .ok (.bipush 60, 2) := dq_16 (dq_suf 13 dt06cX5_signAt_3 rfl rfl) (by decide +kernel)
theorem dX5_signAt_63 : decode cX5_signAt 63 = .ok (.if_icmp .ne 15, 3) := dq_160 (dq_suf 15 dt06cX5_signAt_3 rfl rfl) (by decide +kernel)
theorem dX5_signAt_66 : decode cX5_signAt 66 = .ok (.iload_n 3, 1) := dq_29 (dq_suf 2 dt06cX5_signAt_4 rfl rfl)
theorem dX5_signAt_67 : decode cX5_signAt 67 = .ok (.bipush 62, 2) := dq_16 (dq_suf 3 dt06cX5_signAt_4 rfl rfl) (by decide +kernel)
theorem dX5_signAt_69 : decode cX5_signAt 69 = .ok (.if_icmp .ne 7, 3) := dq_160 (dq_suf 5 dt06cX5_signAt_4 rfl rfl) (by decide +kernel)
theorem dX5_signAt_72 : decode cX5_signAt 72 = .ok (.iload_n 2, 1) := dq_28 (dq_suf 8 dt06cX5_signAt_4 rfl rfl)
theorem dX5_signAt_73 : decode cX5_signAt 73 = .ok (.goto 4, 3) := dq_167 (dq_suf 9 dt06cX5_signAt_4 rfl rfl) (by decide +kernel)
theorem dX5_signAt_76 : decode cX5_signAt 76 = .ok (.iconst 0, 1) := dq_3 (dq_suf 12 dt06cX5_signAt_4 rfl rfl)
theorem dX5_signAt_77 : decode cX5_signAt 77 = .ok (.ireturn, 1) := dq_172 (dq_suf 13 dt06cX5_signAt_4 rfl rfl)
theorem dX5_signAt_78 : decode cX5_signAt 78 = .ok (.iload_n 2, 1) := dq_28 (dq_suf 14 dt06cX5_signAt_4 rfl rfl)
theorem dX5_signAt_79 : decode cX5_signAt 79 = .ok (.ireturn, 1) := dq_172 (dq_suf 15 dt06cX5_signAt_4 rfl rfl)
noncomputable def ds06cX5_accept_6 : List UInt8 := 0 :: 122 :: 182 :: 0 :: 90 :: 42 :: 27 :: 182 :: 0 :: 125 :: 42 :: 4 :: 181 :: 0 :: 80 :: 177 :: []
noncomputable def ds06cX5_accept_5 : List UInt8 := 16 :: 62 :: 160 :: 0 :: 12 :: 27 :: 184 :: 0 :: 122 :: 4 :: 96 :: 167 :: 0 :: 7 :: 27 :: 184 :: ds06cX5_accept_6
noncomputable def ds06cX5_accept_4 : List UInt8 := 182 :: 0 :: 90 :: 42 :: 182 :: 0 :: 119 :: 42 :: 182 :: 0 :: 116 :: 167 :: 0 :: 36 :: 42 :: 27 :: ds06cX5_accept_5
noncomputable def ds06cX5_accept_3 : List UInt8 := 113 :: 42 :: 182 :: 0 :: 116 :: 167 :: 0 :: 58 :: 27 :: 16 :: 41 :: 160 :: 0 :: 19 :: 42 :: 4 :: ds06cX5_accept_4
noncomputable def ds06cX5_accept_2 : List UInt8 := 81 :: 27 :: 184 :: 0 :: 107 :: 153 :: 0 :: 19 :: 42 :: 42 :: 27 :: 182 :: 0 :: 110 :: 182 :: 0 :: ds06cX5_accept_3
noncomputable def ds06cX5_accept_1 : List UInt8 := 97 :: 27 :: 184 :: 0 :: 101 :: 153 :: 0 :: 12 :: 42 :: 27 :: 28 :: 182 :: 0 :: 104 :: 167 :: 0 :: ds06cX5_accept_2
noncomputable def ds06cX5_accept_0 : List UInt8 := 42 :: 27 :: 182 :: 0 :: 97 :: 154 :: 0 :: 12 :: 42 :: 4 :: 28 :: 182 :: 0 :: 87 :: 167 :: 0 :: ds06cX5_accept_1
theorem dt06cX5_accept_0 : cX5_accept.data.toList.drop 0 = ds06cX5_accept_0 := by decide +kernel
theorem dt06cX5_accept_1 : cX5_accept.data.toList.drop 16 = ds06cX5_accept_1 := dq_suf 16 dt06cX5_accept_0 rfl rfl
theorem dt06cX5_accept_2 : cX5_accept.data.toList.drop 32 = ds06cX5_accept_2 := dq_suf 16 dt06cX5_accept_1 rfl rfl
theorem dt06cX5_accept_3 : cX5_accept.data.toList.drop 48 = ds06cX5_accept_3 := dq_suf 16 dt06cX5_accept_2 rfl rfl
theorem dt06cX5_accept_4 : cX5_accept.data.toList.drop 64 = ds06cX5_accept_4 := dq_suf 16 dt06cX5_accept_3 rfl rfl
theorem dt06cX5_accept_5 : cX5_accept.data.toList.drop 80 = ds06cX5_accept_5 := dq_suf 16 dt06cX5_accept_4 rfl rfl
theorem dt06cX5_accept_6 : cX5_accept.data.toList.drop 96 = ds06cX5_accept_6 := dq_suf 16 dt06cX5_accept_5 rfl rfl
theorem dX5_accept_0 : decode cX5_accept 0 = .ok (.aload_n 0, 1) := dq_42 (dq_suf 0 dt06cX5_accept_0 rfl rfl)
theorem dX5_accept_1 : decode cX5_accept 1 = .ok (.iload_n 1, 1) := dq_27 (dq_suf 1 dt06cX5_accept_0 rfl rfl)
theorem dX5_accept_2 : decode cX5_accept 2 = .ok (.invokevirtual 97, 3) := dq_182 (dq_suf 2 dt06cX5_accept_0 rfl rfl) rfl
theorem dX5_accept_5 : decode cX5_accept 5 = .ok (.ifCond .ne 12, 3) := dq_154 (dq_suf 5 dt06cX5_accept_0 rfl rfl) (by decide +kernel)
theorem dX5_accept_8 : decode cX5_accept 8 = .ok (.aload_n 0, 1) := dq_42 (dq_suf 8 dt06cX5_accept_0 rfl rfl)
theorem dX5_accept_9 : decode cX5_accept 9 = .ok (.iconst 1, 1) := dq_4 (dq_suf 9 dt06cX5_accept_0 rfl rfl)
theorem dX5_accept_10 : decode cX5_accept 10 = .ok (.iload_n 2, 1) := dq_28 (dq_suf 10 dt06cX5_accept_0 rfl rfl)
theorem dX5_accept_11 : decode cX5_accept 11 = .ok (.invokevirtual 87, 3) := dq_182 (dq_suf 11 dt06cX5_accept_0 rfl rfl) rfl
theorem dX5_accept_14 : decode cX5_accept 14 = .ok (.goto 97, 3) := dq_167 (dq_suf 14 dt06cX5_accept_0 rfl rfl) (by decide +kernel)
theorem dX5_accept_17 : decode cX5_accept 17 = .ok (.iload_n 1, 1) := dq_27 (dq_suf 1 dt06cX5_accept_1 rfl rfl)
theorem dX5_accept_18 : decode cX5_accept 18 = .ok (.invokestatic 101, 3) := dq_184 (dq_suf 2 dt06cX5_accept_1 rfl rfl) rfl
theorem dX5_accept_21 : decode cX5_accept 21 = .ok (.ifCond .eq 12, 3) := dq_153 (dq_suf 5 dt06cX5_accept_1 rfl rfl) (by decide +kernel)
theorem dX5_accept_24 : decode cX5_accept 24 = .ok (.aload_n 0, 1) := dq_42 (dq_suf 8 dt06cX5_accept_1 rfl rfl)
theorem dX5_accept_25 : decode cX5_accept 25 = .ok (.iload_n 1, 1) := dq_27 (dq_suf 9 dt06cX5_accept_1 rfl rfl)
theorem dX5_accept_26 : decode cX5_accept 26 = .ok (.iload_n 2, 1) := dq_28 (dq_suf 10 dt06cX5_accept_1 rfl rfl)
theorem dX5_accept_27 : decode cX5_accept 27 = .ok (.invokevirtual 104, 3) := dq_182 (dq_suf 11 dt06cX5_accept_1 rfl rfl) rfl
theorem dX5_accept_30 : decode cX5_accept 30 = .ok (.goto 81, 3) := dq_167 (dq_suf 14 dt06cX5_accept_1 rfl rfl) (by decide +kernel)
theorem dX5_accept_33 : decode cX5_accept 33 = .ok (.iload_n 1, 1) := dq_27 (dq_suf 1 dt06cX5_accept_2 rfl rfl)
theorem dX5_accept_34 : decode cX5_accept 34 = .ok (.invokestatic 107, 3) := dq_184 (dq_suf 2 dt06cX5_accept_2 rfl rfl) rfl
theorem dX5_accept_37 : decode cX5_accept 37 = .ok (.ifCond .eq 19, 3) := dq_153 (dq_suf 5 dt06cX5_accept_2 rfl rfl) (by decide +kernel)
theorem dX5_accept_40 : decode cX5_accept 40 = .ok (.aload_n 0, 1) := dq_42 (dq_suf 8 dt06cX5_accept_2 rfl rfl)
theorem dX5_accept_41 : decode cX5_accept 41 = .ok (.aload_n 0, 1) := dq_42 (dq_suf 9 dt06cX5_accept_2 rfl rfl)
theorem dX5_accept_42 : decode cX5_accept 42 = .ok (.iload_n 1, 1) := dq_27 (dq_suf 10 dt06cX5_accept_2 rfl rfl)
theorem dX5_accept_43 : decode cX5_accept 43 = .ok (.invokevirtual 110, 3) := dq_182 (dq_suf 11 dt06cX5_accept_2 rfl rfl) rfl
theorem dX5_accept_46 : decode cX5_accept 46 = .ok (.invokevirtual 113, 3) := dq_182 (dq_suf 14 dt06cX5_accept_2 rfl rfl) rfl
theorem dX5_accept_49 : decode cX5_accept 49 = .ok (.aload_n 0, 1) := dq_42 (dq_suf 1 dt06cX5_accept_3 rfl rfl)
theorem dX5_accept_50 : decode cX5_accept 50 = .ok (.invokevirtual 116, 3) := dq_182 (dq_suf 2 dt06cX5_accept_3 rfl rfl) rfl
theorem dX5_accept_53 : decode cX5_accept 53 = .ok (.goto 58, 3) := dq_167 (dq_suf 5 dt06cX5_accept_3 rfl rfl) (by decide +kernel)
theorem dX5_accept_56 : decode cX5_accept 56 = .ok (.iload_n 1, 1) := dq_27 (dq_suf 8 dt06cX5_accept_3 rfl rfl)
theorem dX5_accept_57 : decode cX5_accept 57 = .ok (.bipush 41, 2) := dq_16 (dq_suf 9 dt06cX5_accept_3 rfl rfl) (by decide +kernel)
theorem dX5_accept_59 : decode cX5_accept 59 = .ok (.if_icmp .ne 19, 3) := dq_160 (dq_suf 11 dt06cX5_accept_3 rfl rfl) (by decide +kernel)
theorem dX5_accept_62 : decode cX5_accept 62 = .ok (.aload_n 0, 1) := dq_42 (dq_suf 14 dt06cX5_accept_3 rfl rfl)
theorem dX5_accept_63 : decode cX5_accept 63 = .ok (.iconst 1, 1) := dq_4 (dq_suf 15 dt06cX5_accept_3 rfl rfl)
theorem dX5_accept_64 : decode cX5_accept 64 = .ok (.invokevirtual 90, 3) := dq_182 (dq_suf 0 dt06cX5_accept_4 rfl rfl) rfl
theorem dX5_accept_67 : decode cX5_accept 67 = .ok (.aload_n 0, 1) := dq_42 (dq_suf 3 dt06cX5_accept_4 rfl rfl)
theorem dX5_accept_68 : decode cX5_accept 68 = .ok (.invokevirtual 119, 3) := dq_182 (dq_suf 4 dt06cX5_accept_4 rfl rfl) rfl
theorem dX5_accept_71 : decode cX5_accept 71 = .ok (.aload_n 0, 1) := dq_42 (dq_suf 7 dt06cX5_accept_4 rfl rfl)
theorem dX5_accept_72 : decode cX5_accept 72 = .ok (.invokevirtual 116, 3) := dq_182 (dq_suf 8 dt06cX5_accept_4 rfl rfl) rfl
theorem dX5_accept_75 : decode cX5_accept 75 = .ok (.goto 36, 3) := dq_167 (dq_suf 11 dt06cX5_accept_4 rfl rfl) (by decide +kernel)
theorem dX5_accept_78 : decode cX5_accept 78 = .ok (.aload_n 0, 1) := dq_42 (dq_suf 14 dt06cX5_accept_4 rfl rfl)
theorem dX5_accept_79 : decode cX5_accept 79 = .ok (.iload_n 1, 1) := dq_27 (dq_suf 15 dt06cX5_accept_4 rfl rfl)
theorem dX5_accept_80 : decode cX5_accept 80 = .ok (.bipush 62, 2) := dq_16 (dq_suf 0 dt06cX5_accept_5 rfl rfl) (by decide +kernel)
theorem dX5_accept_82 : decode cX5_accept 82 = .ok (.if_icmp .ne 12, 3) := dq_160 (dq_suf 2 dt06cX5_accept_5 rfl rfl) (by decide +kernel)
theorem dX5_accept_85 : decode cX5_accept 85 = .ok (.iload_n 1, 1) := dq_27 (dq_suf 5 dt06cX5_accept_5 rfl rfl)
theorem dX5_accept_86 : decode cX5_accept 86 = .ok (.invokestatic 122, 3) := dq_184 (dq_suf 6 dt06cX5_accept_5 rfl rfl) rfl
theorem dX5_accept_89 : decode cX5_accept 89 = .ok (.iconst 1, 1) := dq_4 (dq_suf 9 dt06cX5_accept_5 rfl rfl)
theorem dX5_accept_90 : decode cX5_accept 90 = .ok (.iadd, 1) := dq_96 (dq_suf 10 dt06cX5_accept_5 rfl rfl)
theorem dX5_accept_91 : decode cX5_accept 91 = .ok (.goto 7, 3) := dq_167 (dq_suf 11 dt06cX5_accept_5 rfl rfl) (by decide +kernel)
theorem dX5_accept_94 : decode cX5_accept 94 = .ok (.iload_n 1, 1) := dq_27 (dq_suf 14 dt06cX5_accept_5 rfl rfl)
theorem dX5_accept_95 : decode cX5_accept 95 = .ok (.invokestatic 122, 3) := dq_184 (dq_suf 15 dt06cX5_accept_5 rfl rfl) rfl
theorem dX5_accept_98 : decode cX5_accept 98 = .ok (.invokevirtual 90, 3) := dq_182 (dq_suf 2 dt06cX5_accept_6 rfl rfl) rfl
theorem dX5_accept_101 : decode cX5_accept 101 = .ok (.aload_n 0, 1) := dq_42 (dq_suf 5 dt06cX5_accept_6 rfl rfl)
theorem dX5_accept_102 : decode cX5_accept 102 = .ok (.iload_n 1, 1) := dq_27 (dq_suf 6 dt06cX5_accept_6 rfl rfl)
theorem dX5_accept_103 : decode cX5_accept 103 = .ok (.invokevirtual 125, 3) := dq_182 (dq_suf 7 dt06cX5_accept_6 rfl rfl) rfl
theorem dX5_accept_106 : decode cX5_accept 106 = .ok (.aload_n 0, 1) := dq_42 (dq_suf 10 dt06cX5_accept_6 rfl rfl)
theorem dX5_accept_107 : decode cX5_accept 107 = .ok (.iconst 1, 1) := dq_4 (dq_suf 11 dt06cX5_accept_6 rfl rfl)
theorem dX5_accept_108 : decode cX5_accept 108 = .ok (.putfield 80, 3) := dq_181 (dq_suf 12 dt06cX5_accept_6 rfl rfl) rfl
theorem dX5_accept_111 : decode cX5_accept 111 = .ok (.return_, 1) := dq_177 (dq_suf 15 dt06cX5_accept_6 rfl rfl)
noncomputable def ds06cX5_canStand_3 : List UInt8 := 167 :: 0 :: 4 :: 3 :: 172 :: []
noncomputable def ds06cX5_canStand_2 : List UInt8 := 0 :: 16 :: 27 :: 16 :: 41 :: 160 :: 0 :: 14 :: 42 :: 180 :: 0 :: 77 :: 158 :: 0 :: 7 :: 4 :: ds06cX5_canStand_3
noncomputable def ds06cX5_canStand_1 : List UInt8 := 0 :: 101 :: 153 :: 0 :: 7 :: 4 :: 167 :: 0 :: 4 :: 3 :: 172 :: 27 :: 184 :: 0 :: 122 :: 157 :: ds06cX5_canStand_2
noncomputable def ds06cX5_canStand_0 : List UInt8 := 42 :: 180 :: 0 :: 80 :: 153 :: 0 :: 23 :: 27 :: 184 :: 0 :: 107 :: 154 :: 0 :: 10 :: 27 :: 184 :: ds06cX5_canStand_1
theorem dt06cX5_canStand_0 : cX5_canStand.data.toList.drop 0 = ds06cX5_canStand_0 := by decide +kernel
theorem dt06cX5_canStand_1 : cX5_canStand.data.toList.drop 16 = ds06cX5_canStand_1 := dq_suf 16 dt06cX5_canStand_0 rfl rfl
theorem dt06cX5_canStand_2 : cX5_canStand.data.toList.drop 32 = ds06cX5_canStand_2 := dq_suf 16 dt06cX5_canStand_1 rfl rfl
theorem dt06cX5_canStand_3 : cX5_canStand.data.toList.drop 48 = ds06cX5_canStand_3 := dq_suf 16 dt06cX5_canStand_2 rfl rfl
theorem dX5_canStand_0 : decode cX5_canStand 0 = .ok (.aload_n 0, 1) := dq_42 (dq_suf 0 dt06cX5_canStand_0 rfl rfl)
theorem dX5_canStand_1 : decode cX5_canStand 1 = .ok (.getfield 80, 3) := dq_180 (dq_suf 1 dt06cX5_canStand_0 rfl rfl) rfl
theorem dX5_canStand_4 : decode cX5_canStand 4 = .ok (.ifCond .eq 23, 3) := dq_153 (dq_suf 4 dt06cX5_canStand_0 rfl rfl) (by decide +kernel)
theorem dX5_canStand_7 : decode cX5_canStand 7 = .ok (.iload_n 1, 1) := dq_27 (dq_suf 7 dt06cX5_canStand_0 rfl rfl)
theorem dX5_canStand_8 : decode cX5_canStand 8 = .ok (.invokestatic 107, 3) := dq_184 (dq_suf 8 dt06cX5_canStand_0 rfl rfl) rfl
theorem dX5_canStand_11 : decode cX5_canStand 11 = .ok (.ifCond .ne 10, 3) := dq_154 (dq_suf 11 dt06cX5_canStand_0 rfl rfl) (by decide +kernel)
theorem dX5_canStand_14 : decode cX5_canStand 14 = .ok (.iload_n 1, 1) := dq_27 (dq_suf 14 dt06cX5_canStand_0 rfl rfl)
theorem dX5_canStand_15 : decode cX5_canStand 15 = .ok (.invokestatic 101, 3) := dq_184 (dq_suf 15 dt06cX5_canStand_0 rfl rfl) rfl
theorem dX5_canStand_18 : decode cX5_canStand 18 = .ok (.ifCond .eq 7, 3) := dq_153 (dq_suf 2 dt06cX5_canStand_1 rfl rfl) (by decide +kernel)
theorem dX5_canStand_21 : decode cX5_canStand 21 = .ok (.iconst 1, 1) := dq_4 (dq_suf 5 dt06cX5_canStand_1 rfl rfl)
theorem dX5_canStand_22 : decode cX5_canStand 22 = .ok (.goto 4, 3) := dq_167 (dq_suf 6 dt06cX5_canStand_1 rfl rfl) (by decide +kernel)
theorem dX5_canStand_25 : decode cX5_canStand 25 = .ok (.iconst 0, 1) := dq_3 (dq_suf 9 dt06cX5_canStand_1 rfl rfl)
theorem dX5_canStand_26 : decode cX5_canStand 26 = .ok (.ireturn, 1) := dq_172 (dq_suf 10 dt06cX5_canStand_1 rfl rfl)
theorem dX5_canStand_27 : decode cX5_canStand 27 = .ok (.iload_n 1, 1) := dq_27 (dq_suf 11 dt06cX5_canStand_1 rfl rfl)
theorem dX5_canStand_28 : decode cX5_canStand 28 = .ok (.invokestatic 122, 3) := dq_184 (dq_suf 12 dt06cX5_canStand_1 rfl rfl) rfl
theorem dX5_canStand_31 : decode cX5_canStand 31 = .ok (.ifCond .gt 16, 3) := dq_157 (dq_suf 15 dt06cX5_canStand_1 rfl rfl) (by decide +kernel)
theorem dX5_canStand_34 : decode cX5_canStand 34 = .ok (.iload_n 1, 1) := dq_27 (dq_suf 2 dt06cX5_canStand_2 rfl rfl)
theorem dX5_canStand_35 : decode cX5_canStand 35 = .ok (.bipush 41, 2) := dq_16 (dq_suf 3 dt06cX5_canStand_2 rfl rfl) (by decide +kernel)
theorem dX5_canStand_37 : decode cX5_canStand 37 = .ok (.if_icmp .ne 14, 3) := dq_160 (dq_suf 5 dt06cX5_canStand_2 rfl rfl) (by decide +kernel)
theorem dX5_canStand_40 : decode cX5_canStand 40 = .ok (.aload_n 0, 1) := dq_42 (dq_suf 8 dt06cX5_canStand_2 rfl rfl)
theorem dX5_canStand_41 : decode cX5_canStand 41 = .ok (.getfield 77, 3) := dq_180 (dq_suf 9 dt06cX5_canStand_2 rfl rfl) rfl
theorem dX5_canStand_44 : decode cX5_canStand 44 = .ok (.ifCond .le 7, 3) := dq_158 (dq_suf 12 dt06cX5_canStand_2 rfl rfl) (by decide +kernel)
theorem dX5_canStand_47 : decode cX5_canStand 47 = .ok (.iconst 1, 1) := dq_4 (dq_suf 15 dt06cX5_canStand_2 rfl rfl)
theorem dX5_canStand_48 : decode cX5_canStand 48 = .ok (.goto 4, 3) := dq_167 (dq_suf 0 dt06cX5_canStand_3 rfl rfl) (by decide +kernel)
theorem dX5_canStand_51 : decode cX5_canStand 51 = .ok (.iconst 0, 1) := dq_3 (dq_suf 3 dt06cX5_canStand_3 rfl rfl)
theorem dX5_canStand_52 : decode cX5_canStand 52 = .ok (.ireturn, 1) := dq_172 (dq_suf 4 dt06cX5_canStand_3 rfl rfl)
noncomputable def ds06cX5_acceptOpening_5 : List UInt8 := 77 :: 177 :: []
noncomputable def ds06cX5_acceptOpening_4 : List UInt8 := 0 :: 77 :: 27 :: 16 :: 40 :: 160 :: 0 :: 7 :: 4 :: 167 :: 0 :: 4 :: 3 :: 96 :: 181 :: 0 :: ds06cX5_acceptOpening_5
noncomputable def ds06cX5_acceptOpening_3 : List UInt8 := 182 :: 0 :: 125 :: 42 :: 89 :: 180 :: 0 :: 74 :: 4 :: 96 :: 181 :: 0 :: 74 :: 42 :: 89 :: 180 :: ds06cX5_acceptOpening_4
noncomputable def ds06cX5_acceptOpening_2 : List UInt8 := 16 :: 60 :: 160 :: 0 :: 12 :: 42 :: 6 :: 28 :: 182 :: 0 :: 87 :: 167 :: 0 :: 38 :: 42 :: 27 :: ds06cX5_acceptOpening_3
noncomputable def ds06cX5_acceptOpening_1 : List UInt8 := 0 :: 66 :: 42 :: 180 :: 0 :: 84 :: 153 :: 0 :: 24 :: 27 :: 16 :: 91 :: 159 :: 0 :: 9 :: 27 :: ds06cX5_acceptOpening_2
noncomputable def ds06cX5_acceptOpening_0 : List UInt8 := 42 :: 180 :: 0 :: 74 :: 16 :: 60 :: 161 :: 0 :: 12 :: 42 :: 5 :: 28 :: 182 :: 0 :: 87 :: 167 :: ds06cX5_acceptOpening_1
theorem dt06cX5_acceptOpening_0 : cX5_acceptOpening.data.toList.drop 0 = ds06cX5_acceptOpening_0 := by decide +kernel
theorem dt06cX5_acceptOpening_1 : cX5_acceptOpening.data.toList.drop 16 = ds06cX5_acceptOpening_1 := dq_suf 16 dt06cX5_acceptOpening_0 rfl rfl
theorem dt06cX5_acceptOpening_2 : cX5_acceptOpening.data.toList.drop 32 = ds06cX5_acceptOpening_2 := dq_suf 16 dt06cX5_acceptOpening_1 rfl rfl
theorem dt06cX5_acceptOpening_3 : cX5_acceptOpening.data.toList.drop 48 = ds06cX5_acceptOpening_3 := dq_suf 16 dt06cX5_acceptOpening_2 rfl rfl
theorem dt06cX5_acceptOpening_4 : cX5_acceptOpening.data.toList.drop 64 = ds06cX5_acceptOpening_4 := dq_suf 16 dt06cX5_acceptOpening_3 rfl rfl
theorem dt06cX5_acceptOpening_5 : cX5_acceptOpening.data.toList.drop 80 = ds06cX5_acceptOpening_5 := dq_suf 16 dt06cX5_acceptOpening_4 rfl rfl
theorem dX5_acceptOpening_0 : decode cX5_acceptOpening 0 = .ok (.aload_n 0, 1) := dq_42 (dq_suf 0 dt06cX5_acceptOpening_0 rfl rfl)
theorem dX5_acceptOpening_1 : decode cX5_acceptOpening 1 = .ok (.getfield 74, 3) := dq_180 (dq_suf 1 dt06cX5_acceptOpening_0 rfl rfl) rfl
theorem dX5_acceptOpening_4 : decode cX5_acceptOpening 4 = .ok (.bipush 60, 2) := dq_16 (dq_suf 4 dt06cX5_acceptOpening_0 rfl rfl) (by decide +kernel)
theorem dX5_acceptOpening_6 : decode cX5_acceptOpening 6 = .ok (.if_icmp .lt 12, 3) := dq_161 (dq_suf 6 dt06cX5_acceptOpening_0 rfl rfl) (by decide +kernel)
theorem dX5_acceptOpening_9 : decode cX5_acceptOpening 9 = .ok (.aload_n 0, 1) := dq_42 (dq_suf 9 dt06cX5_acceptOpening_0 rfl rfl)
theorem dX5_acceptOpening_10 : decode cX5_acceptOpening 10 = .ok (.iconst 2, 1) := dq_5 (dq_suf 10 dt06cX5_acceptOpening_0 rfl rfl)
theorem dX5_acceptOpening_11 : decode cX5_acceptOpening 11 = .ok (.iload_n 2, 1) := dq_28 (dq_suf 11 dt06cX5_acceptOpening_0 rfl rfl)
theorem dX5_acceptOpening_12 : decode cX5_acceptOpening 12 = .ok (.invokevirtual 87, 3) := dq_182 (dq_suf 12 dt06cX5_acceptOpening_0 rfl rfl) rfl
theorem dX5_acceptOpening_15 : decode cX5_acceptOpening 15 = .ok (.goto 66, 3) := dq_167 (dq_suf 15 dt06cX5_acceptOpening_0 rfl rfl) (by decide +kernel)
theorem dX5_acceptOpening_18 : decode cX5_acceptOpening 18 = .ok (.aload_n 0, 1) := dq_42 (dq_suf 2 dt06cX5_acceptOpening_1 rfl rfl)
theorem dX5_acceptOpening_19 : decode cX5_acceptOpening 19 = .ok (.getfield 84, 3) := dq_180 (dq_suf 3 dt06cX5_acceptOpening_1 rfl rfl) rfl
theorem dX5_acceptOpening_22 : decode cX5_acceptOpening 22 = .ok (.ifCond .eq 24, 3) := dq_153 (dq_suf 6 dt06cX5_acceptOpening_1 rfl rfl) (by decide +kernel)
theorem dX5_acceptOpening_25 : decode cX5_acceptOpening 25 = .ok (.iload_n 1, 1) := dq_27 (dq_suf 9 dt06cX5_acceptOpening_1 rfl rfl)
theorem dX5_acceptOpening_26 : decode cX5_acceptOpening 26 = .ok (.bipush 91, 2) := dq_16 (dq_suf 10 dt06cX5_acceptOpening_1 rfl rfl) (by decide +kernel)
theorem dX5_acceptOpening_28 : decode cX5_acceptOpening 28 = .ok (.if_icmp .eq 9, 3) := dq_159 (dq_suf 12 dt06cX5_acceptOpening_1 rfl rfl) (by decide +kernel)
theorem dX5_acceptOpening_31 : decode cX5_acceptOpening 31 = .ok (.iload_n 1, 1) := dq_27 (dq_suf 15 dt06cX5_acceptOpening_1 rfl rfl)
theorem dX5_acceptOpening_32 : decode cX5_acceptOpening 32 = .ok (.bipush 60, 2) := dq_16 (dq_suf 0 dt06cX5_acceptOpening_2 rfl rfl) (by decide +kernel)
theorem dX5_acceptOpening_34 : decode cX5_acceptOpening 34 = .ok (.if_icmp .ne 12, 3) := dq_160 (dq_suf 2 dt06cX5_acceptOpening_2 rfl rfl) (by decide +kernel)
theorem dX5_acceptOpening_37 : decode cX5_acceptOpening 37 = .ok (.aload_n 0, 1) := dq_42 (dq_suf 5 dt06cX5_acceptOpening_2 rfl rfl)
theorem dX5_acceptOpening_38 : decode cX5_acceptOpening 38 = .ok (.iconst 3, 1) := dq_6 (dq_suf 6 dt06cX5_acceptOpening_2 rfl rfl)
theorem dX5_acceptOpening_39 : decode cX5_acceptOpening 39 = .ok (.iload_n 2, 1) := dq_28 (dq_suf 7 dt06cX5_acceptOpening_2 rfl rfl)
theorem dX5_acceptOpening_40 : decode cX5_acceptOpening 40 = .ok (.invokevirtual 87, 3) := dq_182 (dq_suf 8 dt06cX5_acceptOpening_2 rfl rfl) rfl
theorem dX5_acceptOpening_43 : decode cX5_acceptOpening 43 = .ok (.goto 38, 3) := dq_167 (dq_suf 11 dt06cX5_acceptOpening_2 rfl rfl) (by decide +kernel)
theorem dX5_acceptOpening_46 : decode cX5_acceptOpening 46 = .ok (.aload_n 0, 1) := dq_42 (dq_suf 14 dt06cX5_acceptOpening_2 rfl rfl)
theorem dX5_acceptOpening_47 : decode cX5_acceptOpening 47 = .ok (.iload_n 1, 1) := dq_27 (dq_suf 15 dt06cX5_acceptOpening_2 rfl rfl)
theorem dX5_acceptOpening_48 : decode cX5_acceptOpening 48 = .ok (.invokevirtual 125, 3) := dq_182 (dq_suf 0 dt06cX5_acceptOpening_3 rfl rfl) rfl
theorem dX5_acceptOpening_51 : decode cX5_acceptOpening 51 = .ok (.aload_n 0, 1) := dq_42 (dq_suf 3 dt06cX5_acceptOpening_3 rfl rfl)
theorem dX5_acceptOpening_52 : decode cX5_acceptOpening 52 = .ok (.dup, 1) := dq_89 (dq_suf 4 dt06cX5_acceptOpening_3 rfl rfl)
theorem dX5_acceptOpening_53 : decode cX5_acceptOpening 53 = .ok (.getfield 74, 3) := dq_180 (dq_suf 5 dt06cX5_acceptOpening_3 rfl rfl) rfl
theorem dX5_acceptOpening_56 : decode cX5_acceptOpening 56 = .ok (.iconst 1, 1) := dq_4 (dq_suf 8 dt06cX5_acceptOpening_3 rfl rfl)
theorem dX5_acceptOpening_57 : decode cX5_acceptOpening 57 = .ok (.iadd, 1) := dq_96 (dq_suf 9 dt06cX5_acceptOpening_3 rfl rfl)
theorem dX5_acceptOpening_58 : decode cX5_acceptOpening 58 = .ok (.putfield 74, 3) := dq_181 (dq_suf 10 dt06cX5_acceptOpening_3 rfl rfl) rfl
theorem dX5_acceptOpening_61 : decode cX5_acceptOpening 61 = .ok (.aload_n 0, 1) := dq_42 (dq_suf 13 dt06cX5_acceptOpening_3 rfl rfl)
theorem dX5_acceptOpening_62 : decode cX5_acceptOpening 62 = .ok (.dup, 1) := dq_89 (dq_suf 14 dt06cX5_acceptOpening_3 rfl rfl)
theorem dX5_acceptOpening_63 : decode cX5_acceptOpening 63 = .ok (.getfield 77, 3) := dq_180 (dq_suf 15 dt06cX5_acceptOpening_3 rfl rfl) rfl
theorem dX5_acceptOpening_66 : decode cX5_acceptOpening 66 = .ok (.iload_n 1, 1) := dq_27 (dq_suf 2 dt06cX5_acceptOpening_4 rfl rfl)
theorem dX5_acceptOpening_67 : decode cX5_acceptOpening 67 = .ok (.bipush 40, 2) := dq_16 (dq_suf 3 dt06cX5_acceptOpening_4 rfl rfl) (by decide +kernel)
theorem dX5_acceptOpening_69 : decode cX5_acceptOpening 69 = .ok (.if_icmp .ne 7, 3) := dq_160 (dq_suf 5 dt06cX5_acceptOpening_4 rfl rfl) (by decide +kernel)
theorem dX5_acceptOpening_72 : decode cX5_acceptOpening 72 = .ok (.iconst 1, 1) := dq_4 (dq_suf 8 dt06cX5_acceptOpening_4 rfl rfl)
theorem dX5_acceptOpening_73 : decode cX5_acceptOpening 73 = .ok (.goto 4, 3) := dq_167 (dq_suf 9 dt06cX5_acceptOpening_4 rfl rfl) (by decide +kernel)
theorem dX5_acceptOpening_76 : decode cX5_acceptOpening 76 = .ok (.iconst 0, 1) := dq_3 (dq_suf 12 dt06cX5_acceptOpening_4 rfl rfl)
theorem dX5_acceptOpening_77 : decode cX5_acceptOpening 77 = .ok (.iadd, 1) := dq_96 (dq_suf 13 dt06cX5_acceptOpening_4 rfl rfl)
theorem dX5_acceptOpening_78 : decode cX5_acceptOpening 78 = .ok (.putfield 77, 3) := dq_181 (dq_suf 14 dt06cX5_acceptOpening_4 rfl rfl) rfl
theorem dX5_acceptOpening_81 : decode cX5_acceptOpening 81 = .ok (.return_, 1) := dq_177 (dq_suf 1 dt06cX5_acceptOpening_5 rfl rfl)
noncomputable def ds06cX5_markOfAtom_3 : List UInt8 := 0 :: 26 :: 28 :: 182 :: 0 :: 134 :: 167 :: 0 :: 4 :: 28 :: 172 :: []
noncomputable def ds06cX5_markOfAtom_2 : List UInt8 := 16 :: 97 :: 100 :: 182 :: 0 :: 131 :: 61 :: 42 :: 180 :: 0 :: 84 :: 153 :: 0 :: 14 :: 42 :: 180 :: ds06cX5_markOfAtom_3
noncomputable def ds06cX5_markOfAtom_1 : List UInt8 := 0 :: 7 :: 3 :: 167 :: 0 :: 7 :: 3 :: 184 :: 0 :: 128 :: 172 :: 42 :: 180 :: 0 :: 26 :: 27 :: ds06cX5_markOfAtom_2
noncomputable def ds06cX5_markOfAtom_0 : List UInt8 := 27 :: 16 :: 84 :: 159 :: 0 :: 9 :: 27 :: 16 :: 70 :: 160 :: 0 :: 18 :: 27 :: 16 :: 84 :: 160 :: ds06cX5_markOfAtom_1
theorem dt06cX5_markOfAtom_0 : cX5_markOfAtom.data.toList.drop 0 = ds06cX5_markOfAtom_0 := by decide +kernel
theorem dt06cX5_markOfAtom_1 : cX5_markOfAtom.data.toList.drop 16 = ds06cX5_markOfAtom_1 := dq_suf 16 dt06cX5_markOfAtom_0 rfl rfl
theorem dt06cX5_markOfAtom_2 : cX5_markOfAtom.data.toList.drop 32 = ds06cX5_markOfAtom_2 := dq_suf 16 dt06cX5_markOfAtom_1 rfl rfl
theorem dt06cX5_markOfAtom_3 : cX5_markOfAtom.data.toList.drop 48 = ds06cX5_markOfAtom_3 := dq_suf 16 dt06cX5_markOfAtom_2 rfl rfl
theorem dX5_markOfAtom_0 : decode cX5_markOfAtom 0 = .ok (.iload_n 1, 1) := dq_27 (dq_suf 0 dt06cX5_markOfAtom_0 rfl rfl)
theorem dX5_markOfAtom_1 : decode cX5_markOfAtom 1 = .ok (.bipush 84, 2) := dq_16 (dq_suf 1 dt06cX5_markOfAtom_0 rfl rfl) (by decide +kernel)
theorem dX5_markOfAtom_3 : decode cX5_markOfAtom 3 = .ok (.if_icmp .eq 9, 3) := dq_159 (dq_suf 3 dt06cX5_markOfAtom_0 rfl rfl) (by decide +kernel)
theorem dX5_markOfAtom_6 : decode cX5_markOfAtom 6 = .ok (.iload_n 1, 1) := dq_27 (dq_suf 6 dt06cX5_markOfAtom_0 rfl rfl)
theorem dX5_markOfAtom_7 : decode cX5_markOfAtom 7 = .ok (.bipush 70, 2) := dq_16 (dq_suf 7 dt06cX5_markOfAtom_0 rfl rfl) (by decide +kernel)
theorem dX5_markOfAtom_9 : decode cX5_markOfAtom 9 = .ok (.if_icmp .ne 18, 3) := dq_160 (dq_suf 9 dt06cX5_markOfAtom_0 rfl rfl) (by decide +kernel)
theorem dX5_markOfAtom_12 : decode cX5_markOfAtom 12 = .ok (.iload_n 1, 1) := dq_27 (dq_suf 12 dt06cX5_markOfAtom_0 rfl rfl)
theorem dX5_markOfAtom_13 : decode cX5_markOfAtom 13 = .ok (.bipush 84, 2) := dq_16 (dq_suf 13 dt06cX5_markOfAtom_0 rfl rfl) (by decide +kernel)
theorem dX5_markOfAtom_15 : decode cX5_markOfAtom 15 = .ok (.if_icmp .ne 7, 3) := dq_160 (dq_suf 15 dt06cX5_markOfAtom_0 rfl rfl) (by decide +kernel)
theorem dX5_markOfAtom_18 : decode cX5_markOfAtom 18 = .ok (.iconst 0, 1) := dq_3 (dq_suf 2 dt06cX5_markOfAtom_1 rfl rfl)
theorem dX5_markOfAtom_19 : decode cX5_markOfAtom 19 = .ok (.goto 7, 3) := dq_167 (dq_suf 3 dt06cX5_markOfAtom_1 rfl rfl) (by decide +kernel)
theorem dX5_markOfAtom_22 : decode cX5_markOfAtom 22 = .ok (.iconst 0, 1) := dq_3 (dq_suf 6 dt06cX5_markOfAtom_1 rfl rfl)
theorem dX5_markOfAtom_23 : decode cX5_markOfAtom 23 = .ok (.invokestatic 128, 3) := dq_184 (dq_suf 7 dt06cX5_markOfAtom_1 rfl rfl) rfl
theorem dX5_markOfAtom_26 : decode cX5_markOfAtom 26 = .ok (.ireturn, 1) := dq_172 (dq_suf 10 dt06cX5_markOfAtom_1 rfl rfl)
theorem dX5_markOfAtom_27 : decode cX5_markOfAtom 27 = .ok (.aload_n 0, 1) := dq_42 (dq_suf 11 dt06cX5_markOfAtom_1 rfl rfl)
theorem dX5_markOfAtom_28 : decode cX5_markOfAtom 28 = .ok (.getfield 26, 3) := dq_180 (dq_suf 12 dt06cX5_markOfAtom_1 rfl rfl) rfl
theorem dX5_markOfAtom_31 : decode cX5_markOfAtom 31 = .ok (.iload_n 1, 1) := dq_27 (dq_suf 15 dt06cX5_markOfAtom_1 rfl rfl)
theorem dX5_markOfAtom_32 : decode cX5_markOfAtom 32 = .ok (.bipush 97, 2) := dq_16 (dq_suf 0 dt06cX5_markOfAtom_2 rfl rfl) (by decide +kernel)
theorem dX5_markOfAtom_34 : decode cX5_markOfAtom 34 = .ok (.isub, 1) := dq_100 (dq_suf 2 dt06cX5_markOfAtom_2 rfl rfl)
theorem dX5_markOfAtom_35 : decode cX5_markOfAtom 35 = .ok (.invokevirtual 131, 3) := dq_182 (dq_suf 3 dt06cX5_markOfAtom_2 rfl rfl) rfl
theorem dX5_markOfAtom_38 : decode cX5_markOfAtom 38 = .ok (.istore_n 2, 1) := dq_61 (dq_suf 6 dt06cX5_markOfAtom_2 rfl rfl)
theorem dX5_markOfAtom_39 : decode cX5_markOfAtom 39 = .ok (.aload_n 0, 1) := dq_42 (dq_suf 7 dt06cX5_markOfAtom_2 rfl rfl)
theorem dX5_markOfAtom_40 : decode cX5_markOfAtom 40 = .ok (.getfield 84, 3) := dq_180 (dq_suf 8 dt06cX5_markOfAtom_2 rfl rfl) rfl
theorem dX5_markOfAtom_43 : decode cX5_markOfAtom 43 = .ok (.ifCond .eq 14, 3) := dq_153 (dq_suf 11 dt06cX5_markOfAtom_2 rfl rfl) (by decide +kernel)
theorem dX5_markOfAtom_46 : decode cX5_markOfAtom 46 = .ok (.aload_n 0, 1) := dq_42 (dq_suf 14 dt06cX5_markOfAtom_2 rfl rfl)
theorem dX5_markOfAtom_47 : decode cX5_markOfAtom 47 = .ok (.getfield 26, 3) := dq_180 (dq_suf 15 dt06cX5_markOfAtom_2 rfl rfl) rfl
theorem dX5_markOfAtom_50 : decode cX5_markOfAtom 50 = .ok (.iload_n 2, 1) := dq_28 (dq_suf 2 dt06cX5_markOfAtom_3 rfl rfl)
theorem dX5_markOfAtom_51 : decode cX5_markOfAtom 51 = .ok (.invokevirtual 134, 3) := dq_182 (dq_suf 3 dt06cX5_markOfAtom_3 rfl rfl) rfl
theorem dX5_markOfAtom_54 : decode cX5_markOfAtom 54 = .ok (.goto 4, 3) := dq_167 (dq_suf 6 dt06cX5_markOfAtom_3 rfl rfl) (by decide +kernel)
theorem dX5_markOfAtom_57 : decode cX5_markOfAtom 57 = .ok (.iload_n 2, 1) := dq_28 (dq_suf 9 dt06cX5_markOfAtom_3 rfl rfl)
theorem dX5_markOfAtom_58 : decode cX5_markOfAtom 58 = .ok (.ireturn, 1) := dq_172 (dq_suf 10 dt06cX5_markOfAtom_3 rfl rfl)
noncomputable def ds06cX5_closeBracket_2 : List UInt8 := 0 :: 77 :: 177 :: []
noncomputable def ds06cX5_closeBracket_1 : List UInt8 := 180 :: 0 :: 74 :: 4 :: 100 :: 181 :: 0 :: 74 :: 42 :: 89 :: 180 :: 0 :: 77 :: 4 :: 100 :: 181 :: ds06cX5_closeBracket_2
noncomputable def ds06cX5_closeBracket_0 : List UInt8 := 42 :: 42 :: 180 :: 0 :: 68 :: 4 :: 100 :: 3 :: 184 :: 0 :: 137 :: 181 :: 0 :: 68 :: 42 :: 89 :: ds06cX5_closeBracket_1
theorem dt06cX5_closeBracket_0 : cX5_closeBracket.data.toList.drop 0 = ds06cX5_closeBracket_0 := by decide +kernel
theorem dt06cX5_closeBracket_1 : cX5_closeBracket.data.toList.drop 16 = ds06cX5_closeBracket_1 := dq_suf 16 dt06cX5_closeBracket_0 rfl rfl
theorem dt06cX5_closeBracket_2 : cX5_closeBracket.data.toList.drop 32 = ds06cX5_closeBracket_2 := dq_suf 16 dt06cX5_closeBracket_1 rfl rfl
theorem dX5_closeBracket_0 : decode cX5_closeBracket 0 = .ok (.aload_n 0, 1) := dq_42 (dq_suf 0 dt06cX5_closeBracket_0 rfl rfl)
theorem dX5_closeBracket_1 : decode cX5_closeBracket 1 = .ok (.aload_n 0, 1) := dq_42 (dq_suf 1 dt06cX5_closeBracket_0 rfl rfl)
theorem dX5_closeBracket_2 : decode cX5_closeBracket 2 = .ok (.getfield 68, 3) := dq_180 (dq_suf 2 dt06cX5_closeBracket_0 rfl rfl) rfl
theorem dX5_closeBracket_5 : decode cX5_closeBracket 5 = .ok (.iconst 1, 1) := dq_4 (dq_suf 5 dt06cX5_closeBracket_0 rfl rfl)
theorem dX5_closeBracket_6 : decode cX5_closeBracket 6 = .ok (.isub, 1) := dq_100 (dq_suf 6 dt06cX5_closeBracket_0 rfl rfl)
theorem dX5_closeBracket_7 : decode cX5_closeBracket 7 = .ok (.iconst 0, 1) := dq_3 (dq_suf 7 dt06cX5_closeBracket_0 rfl rfl)
theorem dX5_closeBracket_8 : decode cX5_closeBracket 8 = .ok (.invokestatic 137, 3) := dq_184 (dq_suf 8 dt06cX5_closeBracket_0 rfl rfl) rfl
theorem dX5_closeBracket_11 : decode cX5_closeBracket 11 = .ok (.putfield 68, 3) := dq_181 (dq_suf 11 dt06cX5_closeBracket_0 rfl rfl) rfl
theorem dX5_closeBracket_14 : decode cX5_closeBracket 14 = .ok (.aload_n 0, 1) := dq_42 (dq_suf 14 dt06cX5_closeBracket_0 rfl rfl)
theorem dX5_closeBracket_15 : decode cX5_closeBracket 15 = .ok (.dup, 1) := dq_89 (dq_suf 15 dt06cX5_closeBracket_0 rfl rfl)
theorem dX5_closeBracket_16 : decode cX5_closeBracket 16 = .ok (.getfield 74, 3) := dq_180 (dq_suf 0 dt06cX5_closeBracket_1 rfl rfl) rfl
theorem dX5_closeBracket_19 : decode cX5_closeBracket 19 = .ok (.iconst 1, 1) := dq_4 (dq_suf 3 dt06cX5_closeBracket_1 rfl rfl)
theorem dX5_closeBracket_20 : decode cX5_closeBracket 20 = .ok (.isub, 1) := dq_100 (dq_suf 4 dt06cX5_closeBracket_1 rfl rfl)
theorem dX5_closeBracket_21 : decode cX5_closeBracket 21 = .ok (.putfield 74, 3) := dq_181 (dq_suf 5 dt06cX5_closeBracket_1 rfl rfl) rfl
theorem dX5_closeBracket_24 : decode cX5_closeBracket 24 = .ok (.aload_n 0, 1) := dq_42 (dq_suf 8 dt06cX5_closeBracket_1 rfl rfl)
theorem dX5_closeBracket_25 : decode cX5_closeBracket 25 = .ok (.dup, 1) := dq_89 (dq_suf 9 dt06cX5_closeBracket_1 rfl rfl)
theorem dX5_closeBracket_26 : decode cX5_closeBracket 26 = .ok (.getfield 77, 3) := dq_180 (dq_suf 10 dt06cX5_closeBracket_1 rfl rfl) rfl
theorem dX5_closeBracket_29 : decode cX5_closeBracket 29 = .ok (.iconst 1, 1) := dq_4 (dq_suf 13 dt06cX5_closeBracket_1 rfl rfl)
theorem dX5_closeBracket_30 : decode cX5_closeBracket 30 = .ok (.isub, 1) := dq_100 (dq_suf 14 dt06cX5_closeBracket_1 rfl rfl)
theorem dX5_closeBracket_31 : decode cX5_closeBracket 31 = .ok (.putfield 77, 3) := dq_181 (dq_suf 15 dt06cX5_closeBracket_1 rfl rfl) rfl
theorem dX5_closeBracket_34 : decode cX5_closeBracket 34 = .ok (.return_, 1) := dq_177 (dq_suf 2 dt06cX5_closeBracket_2 rfl rfl)
noncomputable def ds06cX5_endOperand_4 : List UInt8 := 255 :: 167 :: 255 :: 201 :: 177 :: []
noncomputable def ds06cX5_endOperand_3 : List UInt8 := 74 :: 42 :: 42 :: 28 :: 42 :: 182 :: 0 :: 60 :: 182 :: 0 :: 146 :: 182 :: 0 :: 113 :: 132 :: 1 :: ds06cX5_endOperand_4
noncomputable def ds06cX5_endOperand_2 : List UInt8 := 0 :: 68 :: 4 :: 100 :: 181 :: 0 :: 68 :: 42 :: 89 :: 180 :: 0 :: 74 :: 4 :: 100 :: 181 :: 0 :: ds06cX5_endOperand_3
noncomputable def ds06cX5_endOperand_1 : List UInt8 := 0 :: 140 :: 184 :: 0 :: 143 :: 153 :: 0 :: 47 :: 42 :: 182 :: 0 :: 140 :: 61 :: 42 :: 89 :: 180 :: ds06cX5_endOperand_2
noncomputable def ds06cX5_endOperand_0 : List UInt8 := 42 :: 3 :: 181 :: 0 :: 80 :: 42 :: 180 :: 0 :: 68 :: 60 :: 27 :: 158 :: 0 :: 57 :: 42 :: 182 :: ds06cX5_endOperand_1
theorem dt06cX5_endOperand_0 : cX5_endOperand.data.toList.drop 0 = ds06cX5_endOperand_0 := by decide +kernel
theorem dt06cX5_endOperand_1 : cX5_endOperand.data.toList.drop 16 = ds06cX5_endOperand_1 := dq_suf 16 dt06cX5_endOperand_0 rfl rfl
theorem dt06cX5_endOperand_2 : cX5_endOperand.data.toList.drop 32 = ds06cX5_endOperand_2 := dq_suf 16 dt06cX5_endOperand_1 rfl rfl
theorem dt06cX5_endOperand_3 : cX5_endOperand.data.toList.drop 48 = ds06cX5_endOperand_3 := dq_suf 16 dt06cX5_endOperand_2 rfl rfl
theorem dt06cX5_endOperand_4 : cX5_endOperand.data.toList.drop 64 = ds06cX5_endOperand_4 := dq_suf 16 dt06cX5_endOperand_3 rfl rfl
theorem dX5_endOperand_0 : decode cX5_endOperand 0 = .ok (.aload_n 0, 1) := dq_42 (dq_suf 0 dt06cX5_endOperand_0 rfl rfl)
theorem dX5_endOperand_1 : decode cX5_endOperand 1 = .ok (.iconst 0, 1) := dq_3 (dq_suf 1 dt06cX5_endOperand_0 rfl rfl)
theorem dX5_endOperand_2 : decode cX5_endOperand 2 = .ok (.putfield 80, 3) := dq_181 (dq_suf 2 dt06cX5_endOperand_0 rfl rfl) rfl
theorem dX5_endOperand_5 : decode cX5_endOperand 5 = .ok (.aload_n 0, 1) := dq_42 (dq_suf 5 dt06cX5_endOperand_0 rfl rfl)
theorem dX5_endOperand_6 : decode cX5_endOperand 6 = .ok (.getfield 68, 3) := dq_180 (dq_suf 6 dt06cX5_endOperand_0 rfl rfl) rfl
theorem dX5_endOperand_9 : decode cX5_endOperand 9 = .ok (.istore_n 1, 1) := dq_60 (dq_suf 9 dt06cX5_endOperand_0 rfl rfl)
theorem dX5_endOperand_10 : decode cX5_endOperand 10 = .ok (.iload_n 1, 1) := dq_27 (dq_suf 10 dt06cX5_endOperand_0 rfl rfl)
theorem dX5_endOperand_11 : decode cX5_endOperand 11 = .ok (.ifCond .le 57, 3) := dq_158 (dq_suf 11 dt06cX5_endOperand_0 rfl rfl) (by decide +kernel)
theorem dX5_endOperand_14 : decode cX5_endOperand 14 = .ok (.aload_n 0, 1) := dq_42 (dq_suf 14 dt06cX5_endOperand_0 rfl rfl)
theorem dX5_endOperand_15 : decode cX5_endOperand 15 = .ok (.invokevirtual 140, 3) := dq_182 (dq_suf 15 dt06cX5_endOperand_0 rfl rfl) rfl
theorem dX5_endOperand_18 : decode cX5_endOperand 18 = .ok (.invokestatic 143, 3) := dq_184 (dq_suf 2 dt06cX5_endOperand_1 rfl rfl) rfl
theorem dX5_endOperand_21 : decode cX5_endOperand 21 = .ok (.ifCond .eq 47, 3) := dq_153 (dq_suf 5 dt06cX5_endOperand_1 rfl rfl) (by decide +kernel)
theorem dX5_endOperand_24 : decode cX5_endOperand 24 = .ok (.aload_n 0, 1) := dq_42 (dq_suf 8 dt06cX5_endOperand_1 rfl rfl)
theorem dX5_endOperand_25 : decode cX5_endOperand 25 = .ok (.invokevirtual 140, 3) := dq_182 (dq_suf 9 dt06cX5_endOperand_1 rfl rfl) rfl
theorem dX5_endOperand_28 : decode cX5_endOperand 28 = .ok (.istore_n 2, 1) := dq_61 (dq_suf 12 dt06cX5_endOperand_1 rfl rfl)
theorem dX5_endOperand_29 : decode cX5_endOperand 29 = .ok (.aload_n 0, 1) := dq_42 (dq_suf 13 dt06cX5_endOperand_1 rfl rfl)
theorem dX5_endOperand_30 : decode cX5_endOperand 30 = .ok (.dup, 1) := dq_89 (dq_suf 14 dt06cX5_endOperand_1 rfl rfl)
theorem dX5_endOperand_31 : decode cX5_endOperand 31 = .ok (.getfield 68, 3) := dq_180 (dq_suf 15 dt06cX5_endOperand_1 rfl rfl) rfl
theorem dX5_endOperand_34 : decode cX5_endOperand 34 = .ok (.iconst 1, 1) := dq_4 (dq_suf 2 dt06cX5_endOperand_2 rfl rfl)
theorem dX5_endOperand_35 : decode cX5_endOperand 35 = .ok (.isub, 1) := dq_100 (dq_suf 3 dt06cX5_endOperand_2 rfl rfl)
theorem dX5_endOperand_36 : decode cX5_endOperand 36 = .ok (.putfield 68, 3) := dq_181 (dq_suf 4 dt06cX5_endOperand_2 rfl rfl) rfl
theorem dX5_endOperand_39 : decode cX5_endOperand 39 = .ok (.aload_n 0, 1) := dq_42 (dq_suf 7 dt06cX5_endOperand_2 rfl rfl)
theorem dX5_endOperand_40 : decode cX5_endOperand 40 = .ok (.dup, 1) := dq_89 (dq_suf 8 dt06cX5_endOperand_2 rfl rfl)
theorem dX5_endOperand_41 : decode cX5_endOperand 41 = .ok (.getfield 74, 3) := dq_180 (dq_suf 9 dt06cX5_endOperand_2 rfl rfl) rfl
theorem dX5_endOperand_44 : decode cX5_endOperand 44 = .ok (.iconst 1, 1) := dq_4 (dq_suf 12 dt06cX5_endOperand_2 rfl rfl)
theorem dX5_endOperand_45 : decode cX5_endOperand 45 = .ok (.isub, 1) := dq_100 (dq_suf 13 dt06cX5_endOperand_2 rfl rfl)
theorem dX5_endOperand_46 : decode cX5_endOperand 46 = .ok (.putfield 74, 3) := dq_181 (dq_suf 14 dt06cX5_endOperand_2 rfl rfl) rfl
theorem dX5_endOperand_49 : decode cX5_endOperand 49 = .ok (.aload_n 0, 1) := dq_42 (dq_suf 1 dt06cX5_endOperand_3 rfl rfl)
theorem dX5_endOperand_50 : decode cX5_endOperand 50 = .ok (.aload_n 0, 1) := dq_42 (dq_suf 2 dt06cX5_endOperand_3 rfl rfl)
theorem dX5_endOperand_51 : decode cX5_endOperand 51 = .ok (.iload_n 2, 1) := dq_28 (dq_suf 3 dt06cX5_endOperand_3 rfl rfl)
theorem dX5_endOperand_52 : decode cX5_endOperand 52 = .ok (.aload_n 0, 1) := dq_42 (dq_suf 4 dt06cX5_endOperand_3 rfl rfl)
theorem dX5_endOperand_53 : decode cX5_endOperand 53 = .ok (.invokevirtual 60, 3) := dq_182 (dq_suf 5 dt06cX5_endOperand_3 rfl rfl) rfl
theorem dX5_endOperand_56 : decode cX5_endOperand 56 = .ok (.invokevirtual 146, 3) := dq_182 (dq_suf 8 dt06cX5_endOperand_3 rfl rfl) rfl
theorem dX5_endOperand_59 : decode cX5_endOperand 59 = .ok (.invokevirtual 113, 3) := dq_182 (dq_suf 11 dt06cX5_endOperand_3 rfl rfl) rfl
theorem dX5_endOperand_62 : decode cX5_endOperand 62 = .ok (.iinc 1 (-1), 3) := dq_132 (dq_suf 14 dt06cX5_endOperand_3 rfl rfl) rfl (by decide +kernel)
theorem dX5_endOperand_65 : decode cX5_endOperand 65 = .ok (.goto (-55), 3) := dq_167 (dq_suf 1 dt06cX5_endOperand_4 rfl rfl) (by decide +kernel)
theorem dX5_endOperand_68 : decode cX5_endOperand 68 = .ok (.return_, 1) := dq_177 (dq_suf 4 dt06cX5_endOperand_4 rfl rfl)
noncomputable def ds06cX5_prefixed_3 : List UInt8 := 167 :: 0 :: 7 :: 28 :: 184 :: 0 :: 128 :: 172 :: []
noncomputable def ds06cX5_prefixed_2 : List UInt8 := 0 :: 84 :: 153 :: 0 :: 17 :: 42 :: 180 :: 0 :: 26 :: 28 :: 184 :: 0 :: 128 :: 182 :: 0 :: 134 :: ds06cX5_prefixed_3
noncomputable def ds06cX5_prefixed_1 : List UInt8 := 16 :: 60 :: 160 :: 0 :: 12 :: 42 :: 180 :: 0 :: 26 :: 28 :: 182 :: 0 :: 149 :: 172 :: 42 :: 180 :: ds06cX5_prefixed_2
noncomputable def ds06cX5_prefixed_0 : List UInt8 := 27 :: 16 :: 91 :: 160 :: 0 :: 12 :: 42 :: 180 :: 0 :: 26 :: 28 :: 182 :: 0 :: 134 :: 172 :: 27 :: ds06cX5_prefixed_1
theorem dt06cX5_prefixed_0 : cX5_prefixed.data.toList.drop 0 = ds06cX5_prefixed_0 := by decide +kernel
theorem dt06cX5_prefixed_1 : cX5_prefixed.data.toList.drop 16 = ds06cX5_prefixed_1 := dq_suf 16 dt06cX5_prefixed_0 rfl rfl
theorem dt06cX5_prefixed_2 : cX5_prefixed.data.toList.drop 32 = ds06cX5_prefixed_2 := dq_suf 16 dt06cX5_prefixed_1 rfl rfl
theorem dt06cX5_prefixed_3 : cX5_prefixed.data.toList.drop 48 = ds06cX5_prefixed_3 := dq_suf 16 dt06cX5_prefixed_2 rfl rfl
theorem dX5_prefixed_0 : decode cX5_prefixed 0 = .ok (.iload_n 1, 1) := dq_27 (dq_suf 0 dt06cX5_prefixed_0 rfl rfl)
theorem dX5_prefixed_1 : decode cX5_prefixed 1 = .ok (.bipush 91, 2) := dq_16 (dq_suf 1 dt06cX5_prefixed_0 rfl rfl) (by decide +kernel)
theorem dX5_prefixed_3 : decode cX5_prefixed 3 = .ok (.if_icmp .ne 12, 3) := dq_160 (dq_suf 3 dt06cX5_prefixed_0 rfl rfl) (by decide +kernel)
theorem dX5_prefixed_6 : decode cX5_prefixed 6 = .ok (.aload_n 0, 1) := dq_42 (dq_suf 6 dt06cX5_prefixed_0 rfl rfl)
theorem dX5_prefixed_7 : decode cX5_prefixed 7 = .ok (.getfield 26, 3) := dq_180 (dq_suf 7 dt06cX5_prefixed_0 rfl rfl) rfl
theorem dX5_prefixed_10 : decode cX5_prefixed 10 = .ok (.iload_n 2, 1) := dq_28 (dq_suf 10 dt06cX5_prefixed_0 rfl rfl)
theorem dX5_prefixed_11 : decode cX5_prefixed 11 = .ok (.invokevirtual 134, 3) := dq_182 (dq_suf 11 dt06cX5_prefixed_0 rfl rfl) rfl
theorem dX5_prefixed_14 : decode cX5_prefixed 14 = .ok (.ireturn, 1) := dq_172 (dq_suf 14 dt06cX5_prefixed_0 rfl rfl)
theorem dX5_prefixed_15 : decode cX5_prefixed 15 = .ok (.iload_n 1, 1) := dq_27 (dq_suf 15 dt06cX5_prefixed_0 rfl rfl)
theorem dX5_prefixed_16 : decode cX5_prefixed 16 = .ok (.bipush 60, 2) := dq_16 (dq_suf 0 dt06cX5_prefixed_1 rfl rfl) (by decide +kernel)
theorem dX5_prefixed_18 : decode cX5_prefixed 18 = .ok (.if_icmp .ne 12, 3) := dq_160 (dq_suf 2 dt06cX5_prefixed_1 rfl rfl) (by decide +kernel)
theorem dX5_prefixed_21 : decode cX5_prefixed 21 = .ok (.aload_n 0, 1) := dq_42 (dq_suf 5 dt06cX5_prefixed_1 rfl rfl)
theorem dX5_prefixed_22 : decode cX5_prefixed 22 = .ok (.getfield 26, 3) := dq_180 (dq_suf 6 dt06cX5_prefixed_1 rfl rfl) rfl
theorem dX5_prefixed_25 : decode cX5_prefixed 25 = .ok (.iload_n 2, 1) := dq_28 (dq_suf 9 dt06cX5_prefixed_1 rfl rfl)
theorem dX5_prefixed_26 : decode cX5_prefixed 26 = .ok (.invokevirtual 149, 3) := dq_182 (dq_suf 10 dt06cX5_prefixed_1 rfl rfl) rfl
theorem dX5_prefixed_29 : decode cX5_prefixed 29 = .ok (.ireturn, 1) := dq_172 (dq_suf 13 dt06cX5_prefixed_1 rfl rfl)
theorem dX5_prefixed_30 : decode cX5_prefixed 30 = .ok (.aload_n 0, 1) := dq_42 (dq_suf 14 dt06cX5_prefixed_1 rfl rfl)
theorem dX5_prefixed_31 : decode cX5_prefixed 31 = .ok (.getfield 84, 3) := dq_180 (dq_suf 15 dt06cX5_prefixed_1 rfl rfl) rfl
theorem dX5_prefixed_34 : decode cX5_prefixed 34 = .ok (.ifCond .eq 17, 3) := dq_153 (dq_suf 2 dt06cX5_prefixed_2 rfl rfl) (by decide +kernel)
theorem dX5_prefixed_37 : decode cX5_prefixed 37 = .ok (.aload_n 0, 1) := dq_42 (dq_suf 5 dt06cX5_prefixed_2 rfl rfl)
theorem dX5_prefixed_38 : decode cX5_prefixed 38 = .ok (.getfield 26, 3) := dq_180 (dq_suf 6 dt06cX5_prefixed_2 rfl rfl) rfl
theorem dX5_prefixed_41 : decode cX5_prefixed 41 = .ok (.iload_n 2, 1) := dq_28 (dq_suf 9 dt06cX5_prefixed_2 rfl rfl)
theorem dX5_prefixed_42 : decode cX5_prefixed 42 = .ok (.invokestatic 128, 3) := dq_184 (dq_suf 10 dt06cX5_prefixed_2 rfl rfl) rfl
theorem dX5_prefixed_45 : decode cX5_prefixed 45 = .ok (.invokevirtual 134, 3) := dq_182 (dq_suf 13 dt06cX5_prefixed_2 rfl rfl) rfl
theorem dX5_prefixed_48 : decode cX5_prefixed 48 = .ok (.goto 7, 3) := dq_167 (dq_suf 0 dt06cX5_prefixed_3 rfl rfl) (by decide +kernel)
theorem dX5_prefixed_51 : decode cX5_prefixed 51 = .ok (.iload_n 2, 1) := dq_28 (dq_suf 3 dt06cX5_prefixed_3 rfl rfl)
theorem dX5_prefixed_52 : decode cX5_prefixed 52 = .ok (.invokestatic 128, 3) := dq_184 (dq_suf 4 dt06cX5_prefixed_3 rfl rfl) rfl
theorem dX5_prefixed_55 : decode cX5_prefixed 55 = .ok (.ireturn, 1) := dq_172 (dq_suf 7 dt06cX5_prefixed_3 rfl rfl)
noncomputable def ds06cX5_joinDownTo_4 : List UInt8 := 255 :: 198 :: 177 :: []
noncomputable def ds06cX5_joinDownTo_3 : List UInt8 := 42 :: 29 :: 21 :: 5 :: 21 :: 4 :: 182 :: 0 :: 152 :: 182 :: 0 :: 113 :: 132 :: 2 :: 255 :: 167 :: ds06cX5_joinDownTo_4
noncomputable def ds06cX5_joinDownTo_2 : List UInt8 := 181 :: 0 :: 68 :: 42 :: 182 :: 0 :: 60 :: 54 :: 4 :: 42 :: 182 :: 0 :: 60 :: 54 :: 5 :: 42 :: ds06cX5_joinDownTo_3
noncomputable def ds06cX5_joinDownTo_1 : List UInt8 := 27 :: 161 :: 0 :: 49 :: 42 :: 182 :: 0 :: 140 :: 62 :: 42 :: 89 :: 180 :: 0 :: 68 :: 4 :: 100 :: ds06cX5_joinDownTo_2
noncomputable def ds06cX5_joinDownTo_0 : List UInt8 := 42 :: 180 :: 0 :: 68 :: 61 :: 28 :: 158 :: 0 :: 60 :: 42 :: 182 :: 0 :: 140 :: 184 :: 0 :: 122 :: ds06cX5_joinDownTo_1
theorem dt06cX5_joinDownTo_0 : cX5_joinDownTo.data.toList.drop 0 = ds06cX5_joinDownTo_0 := by decide +kernel
theorem dt06cX5_joinDownTo_1 : cX5_joinDownTo.data.toList.drop 16 = ds06cX5_joinDownTo_1 := dq_suf 16 dt06cX5_joinDownTo_0 rfl rfl
theorem dt06cX5_joinDownTo_2 : cX5_joinDownTo.data.toList.drop 32 = ds06cX5_joinDownTo_2 := dq_suf 16 dt06cX5_joinDownTo_1 rfl rfl
theorem dt06cX5_joinDownTo_3 : cX5_joinDownTo.data.toList.drop 48 = ds06cX5_joinDownTo_3 := dq_suf 16 dt06cX5_joinDownTo_2 rfl rfl
theorem dt06cX5_joinDownTo_4 : cX5_joinDownTo.data.toList.drop 64 = ds06cX5_joinDownTo_4 := dq_suf 16 dt06cX5_joinDownTo_3 rfl rfl
theorem dX5_joinDownTo_0 : decode cX5_joinDownTo 0 = .ok (.aload_n 0, 1) := dq_42 (dq_suf 0 dt06cX5_joinDownTo_0 rfl rfl)
theorem dX5_joinDownTo_1 : decode cX5_joinDownTo 1 = .ok (.getfield 68, 3) := dq_180 (dq_suf 1 dt06cX5_joinDownTo_0 rfl rfl) rfl
theorem dX5_joinDownTo_4 : decode cX5_joinDownTo 4 = .ok (.istore_n 2, 1) := dq_61 (dq_suf 4 dt06cX5_joinDownTo_0 rfl rfl)
theorem dX5_joinDownTo_5 : decode cX5_joinDownTo 5 = .ok (.iload_n 2, 1) := dq_28 (dq_suf 5 dt06cX5_joinDownTo_0 rfl rfl)
theorem dX5_joinDownTo_6 : decode cX5_joinDownTo 6 = .ok (.ifCond .le 60, 3) := dq_158 (dq_suf 6 dt06cX5_joinDownTo_0 rfl rfl) (by decide +kernel)
theorem dX5_joinDownTo_9 : decode cX5_joinDownTo 9 = .ok (.aload_n 0, 1) := dq_42 (dq_suf 9 dt06cX5_joinDownTo_0 rfl rfl)
theorem dX5_joinDownTo_10 : decode cX5_joinDownTo 10 = .ok (.invokevirtual 140, 3) := dq_182 (dq_suf 10 dt06cX5_joinDownTo_0 rfl rfl) rfl
theorem dX5_joinDownTo_13 : decode cX5_joinDownTo 13 = .ok (.invokestatic 122, 3) := dq_184 (dq_suf 13 dt06cX5_joinDownTo_0 rfl rfl) rfl
theorem dX5_joinDownTo_16 : decode cX5_joinDownTo 16 = .ok (.iload_n 1, 1) := dq_27 (dq_suf 0 dt06cX5_joinDownTo_1 rfl rfl)
theorem dX5_joinDownTo_17 : decode cX5_joinDownTo 17 = .ok (.if_icmp .lt 49, 3) := dq_161 (dq_suf 1 dt06cX5_joinDownTo_1 rfl rfl) (by decide +kernel)
theorem dX5_joinDownTo_20 : decode cX5_joinDownTo 20 = .ok (.aload_n 0, 1) := dq_42 (dq_suf 4 dt06cX5_joinDownTo_1 rfl rfl)
theorem dX5_joinDownTo_21 : decode cX5_joinDownTo 21 = .ok (.invokevirtual 140, 3) := dq_182 (dq_suf 5 dt06cX5_joinDownTo_1 rfl rfl) rfl
theorem dX5_joinDownTo_24 : decode cX5_joinDownTo 24 = .ok (.istore_n 3, 1) := dq_62 (dq_suf 8 dt06cX5_joinDownTo_1 rfl rfl)
theorem dX5_joinDownTo_25 : decode cX5_joinDownTo 25 = .ok (.aload_n 0, 1) := dq_42 (dq_suf 9 dt06cX5_joinDownTo_1 rfl rfl)
theorem dX5_joinDownTo_26 : decode cX5_joinDownTo 26 = .ok (.dup, 1) := dq_89 (dq_suf 10 dt06cX5_joinDownTo_1 rfl rfl)
theorem dX5_joinDownTo_27 : decode cX5_joinDownTo 27 = .ok (.getfield 68, 3) := dq_180 (dq_suf 11 dt06cX5_joinDownTo_1 rfl rfl) rfl
theorem dX5_joinDownTo_30 : decode cX5_joinDownTo 30 = .ok (.iconst 1, 1) := dq_4 (dq_suf 14 dt06cX5_joinDownTo_1 rfl rfl)
theorem dX5_joinDownTo_31 : decode cX5_joinDownTo 31 = .ok (.isub, 1) := dq_100 (dq_suf 15 dt06cX5_joinDownTo_1 rfl rfl)
theorem dX5_joinDownTo_32 : decode cX5_joinDownTo 32 = .ok (.putfield 68, 3) := dq_181 (dq_suf 0 dt06cX5_joinDownTo_2 rfl rfl) rfl
theorem dX5_joinDownTo_35 : decode cX5_joinDownTo 35 = .ok (.aload_n 0, 1) := dq_42 (dq_suf 3 dt06cX5_joinDownTo_2 rfl rfl)
theorem dX5_joinDownTo_36 : decode cX5_joinDownTo 36 = .ok (.invokevirtual 60, 3) := dq_182 (dq_suf 4 dt06cX5_joinDownTo_2 rfl rfl) rfl
theorem dX5_joinDownTo_39 : decode cX5_joinDownTo 39 = .ok (.istore 4, 2) := dq_54 (dq_suf 7 dt06cX5_joinDownTo_2 rfl rfl) rfl
theorem dX5_joinDownTo_41 : decode cX5_joinDownTo 41 = .ok (.aload_n 0, 1) := dq_42 (dq_suf 9 dt06cX5_joinDownTo_2 rfl rfl)
theorem dX5_joinDownTo_42 : decode cX5_joinDownTo 42 = .ok (.invokevirtual 60, 3) := dq_182 (dq_suf 10 dt06cX5_joinDownTo_2 rfl rfl) rfl
theorem dX5_joinDownTo_45 : decode cX5_joinDownTo 45 = .ok (.istore 5, 2) := dq_54 (dq_suf 13 dt06cX5_joinDownTo_2 rfl rfl) rfl
theorem dX5_joinDownTo_47 : decode cX5_joinDownTo 47 = .ok (.aload_n 0, 1) := dq_42 (dq_suf 15 dt06cX5_joinDownTo_2 rfl rfl)
theorem dX5_joinDownTo_48 : decode cX5_joinDownTo 48 = .ok (.aload_n 0, 1) := dq_42 (dq_suf 0 dt06cX5_joinDownTo_3 rfl rfl)
theorem dX5_joinDownTo_49 : decode cX5_joinDownTo 49 = .ok (.iload_n 3, 1) := dq_29 (dq_suf 1 dt06cX5_joinDownTo_3 rfl rfl)
theorem dX5_joinDownTo_50 : decode cX5_joinDownTo 50 = .ok (.iload 5, 2) := dq_21 (dq_suf 2 dt06cX5_joinDownTo_3 rfl rfl) rfl
theorem dX5_joinDownTo_52 : decode cX5_joinDownTo 52 = .ok (.iload 4, 2) := dq_21 (dq_suf 4 dt06cX5_joinDownTo_3 rfl rfl) rfl
theorem dX5_joinDownTo_54 : decode cX5_joinDownTo 54 = .ok (.invokevirtual 152, 3) := dq_182 (dq_suf 6 dt06cX5_joinDownTo_3 rfl rfl) rfl
theorem dX5_joinDownTo_57 : decode cX5_joinDownTo 57 = .ok (.invokevirtual 113, 3) := dq_182 (dq_suf 9 dt06cX5_joinDownTo_3 rfl rfl) rfl
theorem dX5_joinDownTo_60 : decode cX5_joinDownTo 60 = .ok (.iinc 2 (-1), 3) := dq_132 (dq_suf 12 dt06cX5_joinDownTo_3 rfl rfl) rfl (by decide +kernel)
theorem dX5_joinDownTo_63 : decode cX5_joinDownTo 63 = .ok (.goto (-58), 3) := dq_167 (dq_suf 15 dt06cX5_joinDownTo_3 rfl rfl) (by decide +kernel)
theorem dX5_joinDownTo_66 : decode cX5_joinDownTo 66 = .ok (.return_, 1) := dq_177 (dq_suf 2 dt06cX5_joinDownTo_4 rfl rfl)
noncomputable def ds06cX5_joined_8 : List UInt8 := 180 :: 0 :: 26 :: 28 :: 29 :: 184 :: 0 :: 128 :: 182 :: 0 :: 159 :: 182 :: 0 :: 156 :: 172 :: []
noncomputable def ds06cX5_joined_7 : List UInt8 := 21 :: 5 :: 182 :: 0 :: 134 :: 182 :: 0 :: 156 :: 172 :: 42 :: 180 :: 0 :: 26 :: 21 :: 4 :: 42 :: ds06cX5_joined_8
noncomputable def ds06cX5_joined_6 : List UInt8 := 180 :: 0 :: 26 :: 42 :: 180 :: 0 :: 26 :: 21 :: 4 :: 182 :: 0 :: 134 :: 42 :: 180 :: 0 :: 26 :: ds06cX5_joined_7
noncomputable def ds06cX5_joined_5 : List UInt8 := 43 :: 42 :: 180 :: 0 :: 26 :: 29 :: 184 :: 0 :: 128 :: 28 :: 182 :: 0 :: 159 :: 54 :: 5 :: 42 :: ds06cX5_joined_6
noncomputable def ds06cX5_joined_4 : List UInt8 := 4 :: 182 :: 0 :: 134 :: 167 :: 0 :: 5 :: 21 :: 4 :: 172 :: 42 :: 180 :: 0 :: 84 :: 153 :: 0 :: ds06cX5_joined_5
noncomputable def ds06cX5_joined_3 : List UInt8 := 62 :: 160 :: 0 :: 25 :: 42 :: 180 :: 0 :: 84 :: 153 :: 0 :: 15 :: 42 :: 180 :: 0 :: 26 :: 21 :: ds06cX5_joined_4
noncomputable def ds06cX5_joined_2 : List UInt8 := 42 :: 180 :: 0 :: 26 :: 28 :: 184 :: 0 :: 128 :: 29 :: 182 :: 0 :: 159 :: 54 :: 4 :: 27 :: 16 :: ds06cX5_joined_3
noncomputable def ds06cX5_joined_1 : List UInt8 := 27 :: 16 :: 124 :: 160 :: 0 :: 13 :: 42 :: 180 :: 0 :: 26 :: 28 :: 29 :: 182 :: 0 :: 159 :: 172 :: ds06cX5_joined_2
noncomputable def ds06cX5_joined_0 : List UInt8 := 27 :: 16 :: 38 :: 160 :: 0 :: 13 :: 42 :: 180 :: 0 :: 26 :: 28 :: 29 :: 182 :: 0 :: 156 :: 172 :: ds06cX5_joined_1
theorem dt06cX5_joined_0 : cX5_joined.data.toList.drop 0 = ds06cX5_joined_0 := by decide +kernel
theorem dt06cX5_joined_1 : cX5_joined.data.toList.drop 16 = ds06cX5_joined_1 := dq_suf 16 dt06cX5_joined_0 rfl rfl
theorem dt06cX5_joined_2 : cX5_joined.data.toList.drop 32 = ds06cX5_joined_2 := dq_suf 16 dt06cX5_joined_1 rfl rfl
theorem dt06cX5_joined_3 : cX5_joined.data.toList.drop 48 = ds06cX5_joined_3 := dq_suf 16 dt06cX5_joined_2 rfl rfl
theorem dt06cX5_joined_4 : cX5_joined.data.toList.drop 64 = ds06cX5_joined_4 := dq_suf 16 dt06cX5_joined_3 rfl rfl
theorem dt06cX5_joined_5 : cX5_joined.data.toList.drop 80 = ds06cX5_joined_5 := dq_suf 16 dt06cX5_joined_4 rfl rfl
theorem dt06cX5_joined_6 : cX5_joined.data.toList.drop 96 = ds06cX5_joined_6 := dq_suf 16 dt06cX5_joined_5 rfl rfl
theorem dt06cX5_joined_7 : cX5_joined.data.toList.drop 112 = ds06cX5_joined_7 := dq_suf 16 dt06cX5_joined_6 rfl rfl
theorem dt06cX5_joined_8 : cX5_joined.data.toList.drop 128 = ds06cX5_joined_8 := dq_suf 16 dt06cX5_joined_7 rfl rfl
theorem dX5_joined_0 : decode cX5_joined 0 = .ok (.iload_n 1, 1) := dq_27 (dq_suf 0 dt06cX5_joined_0 rfl rfl)
theorem dX5_joined_1 : decode cX5_joined 1 = .ok (.bipush 38, 2) := dq_16 (dq_suf 1 dt06cX5_joined_0 rfl rfl) (by decide +kernel)
theorem dX5_joined_3 : decode cX5_joined 3 = .ok (.if_icmp .ne 13, 3) := dq_160 (dq_suf 3 dt06cX5_joined_0 rfl rfl) (by decide +kernel)
theorem dX5_joined_6 : decode cX5_joined 6 = .ok (.aload_n 0, 1) := dq_42 (dq_suf 6 dt06cX5_joined_0 rfl rfl)
theorem dX5_joined_7 : decode cX5_joined 7 = .ok (.getfield 26, 3) := dq_180 (dq_suf 7 dt06cX5_joined_0 rfl rfl) rfl
theorem dX5_joined_10 : decode cX5_joined 10 = .ok (.iload_n 2, 1) := dq_28 (dq_suf 10 dt06cX5_joined_0 rfl rfl)
theorem dX5_joined_11 : decode cX5_joined 11 = .ok (.iload_n 3, 1) := dq_29 (dq_suf 11 dt06cX5_joined_0 rfl rfl)
theorem dX5_joined_12 : decode cX5_joined 12 = .ok (.invokevirtual 156, 3) := dq_182 (dq_suf 12 dt06cX5_joined_0 rfl rfl) rfl
theorem dX5_joined_15 : decode cX5_joined 15 = .ok (.ireturn, 1) := dq_172 (dq_suf 15 dt06cX5_joined_0 rfl rfl)
theorem dX5_joined_16 : decode cX5_joined 16 = .ok (.iload_n 1, 1) := dq_27 (dq_suf 0 dt06cX5_joined_1 rfl rfl)
theorem dX5_joined_17 : decode cX5_joined 17 = .ok (.bipush 124, 2) := dq_16 (dq_suf 1 dt06cX5_joined_1 rfl rfl) (by decide +kernel)
theorem dX5_joined_19 : decode cX5_joined 19 = .ok (.if_icmp .ne 13, 3) := dq_160 (dq_suf 3 dt06cX5_joined_1 rfl rfl) (by decide +kernel)
theorem dX5_joined_22 : decode cX5_joined 22 = .ok (.aload_n 0, 1) := dq_42 (dq_suf 6 dt06cX5_joined_1 rfl rfl)
theorem dX5_joined_23 : decode cX5_joined 23 = .ok (.getfield 26, 3) := dq_180 (dq_suf 7 dt06cX5_joined_1 rfl rfl) rfl
theorem dX5_joined_26 : decode cX5_joined 26 = .ok (.iload_n 2, 1) := dq_28 (dq_suf 10 dt06cX5_joined_1 rfl rfl)
theorem dX5_joined_27 : decode cX5_joined 27 = .ok (.iload_n 3, 1) := dq_29 (dq_suf 11 dt06cX5_joined_1 rfl rfl)
theorem dX5_joined_28 : decode cX5_joined 28 = .ok (.invokevirtual 159, 3) := dq_182 (dq_suf 12 dt06cX5_joined_1 rfl rfl) rfl
theorem dX5_joined_31 : decode cX5_joined 31 = .ok (.ireturn, 1) := dq_172 (dq_suf 15 dt06cX5_joined_1 rfl rfl)
theorem dX5_joined_32 : decode cX5_joined 32 = .ok (.aload_n 0, 1) := dq_42 (dq_suf 0 dt06cX5_joined_2 rfl rfl)
theorem dX5_joined_33 : decode cX5_joined 33 = .ok (.getfield 26, 3) := dq_180 (dq_suf 1 dt06cX5_joined_2 rfl rfl) rfl
theorem dX5_joined_36 : decode cX5_joined 36 = .ok (.iload_n 2, 1) := dq_28 (dq_suf 4 dt06cX5_joined_2 rfl rfl)
theorem dX5_joined_37 : decode cX5_joined 37 = .ok (.invokestatic 128, 3) := dq_184 (dq_suf 5 dt06cX5_joined_2 rfl rfl) rfl
theorem dX5_joined_40 : decode cX5_joined 40 = .ok (.iload_n 3, 1) := dq_29 (dq_suf 8 dt06cX5_joined_2 rfl rfl)
theorem dX5_joined_41 : decode cX5_joined 41 = .ok (.invokevirtual 159, 3) := dq_182 (dq_suf 9 dt06cX5_joined_2 rfl rfl) rfl
theorem dX5_joined_44 : decode cX5_joined 44 = .ok (.istore 4, 2) := dq_54 (dq_suf 12 dt06cX5_joined_2 rfl rfl) rfl
theorem dX5_joined_46 : decode cX5_joined 46 = .ok (.iload_n 1, 1) := dq_27 (dq_suf 14 dt06cX5_joined_2 rfl rfl)
theorem dX5_joined_47 : decode cX5_joined 47 = .ok (.bipush 62, 2) := dq_16 (dq_suf 15 dt06cX5_joined_2 rfl rfl) (by decide +kernel)
theorem dX5_joined_49 : decode cX5_joined 49 = .ok (.if_icmp .ne 25, 3) := dq_160 (dq_suf 1 dt06cX5_joined_3 rfl rfl) (by decide +kernel)
theorem dX5_joined_52 : decode cX5_joined 52 = .ok (.aload_n 0, 1) := dq_42 (dq_suf 4 dt06cX5_joined_3 rfl rfl)
theorem dX5_joined_53 : decode cX5_joined 53 = .ok (.getfield 84, 3) := dq_180 (dq_suf 5 dt06cX5_joined_3 rfl rfl) rfl
theorem dX5_joined_56 : decode cX5_joined 56 = .ok (.ifCond .eq 15, 3) := dq_153 (dq_suf 8 dt06cX5_joined_3 rfl rfl) (by decide +kernel)
theorem dX5_joined_59 : decode cX5_joined 59 = .ok (.aload_n 0, 1) := dq_42 (dq_suf 11 dt06cX5_joined_3 rfl rfl)
theorem dX5_joined_60 : decode cX5_joined 60 = .ok (.getfield 26, 3) := dq_180 (dq_suf 12 dt06cX5_joined_3 rfl rfl) rfl
theorem dX5_joined_63 : decode cX5_joined 63 = .ok (.iload 4, 2) := dq_21 (dq_suf 15 dt06cX5_joined_3 rfl rfl) rfl
theorem dX5_joined_65 : decode cX5_joined 65 = .ok (.invokevirtual 134, 3) := dq_182 (dq_suf 1 dt06cX5_joined_4 rfl rfl) rfl
theorem dX5_joined_68 : decode cX5_joined 68 = .ok (.goto 5, 3) := dq_167 (dq_suf 4 dt06cX5_joined_4 rfl rfl) (by decide +kernel)
theorem dX5_joined_71 : decode cX5_joined 71 = .ok (.iload 4, 2) := dq_21 (dq_suf 7 dt06cX5_joined_4 rfl rfl) rfl
theorem dX5_joined_73 : decode cX5_joined 73 = .ok (.ireturn, 1) := dq_172 (dq_suf 9 dt06cX5_joined_4 rfl rfl)
theorem dX5_joined_74 : decode cX5_joined 74 = .ok (.aload_n 0, 1) := dq_42 (dq_suf 10 dt06cX5_joined_4 rfl rfl)
theorem dX5_joined_75 : decode cX5_joined 75 = .ok (.getfield 84, 3) := dq_180 (dq_suf 11 dt06cX5_joined_4 rfl rfl) rfl
theorem dX5_joined_78 : decode cX5_joined 78 = .ok (.ifCond .eq 43, 3) := dq_153 (dq_suf 14 dt06cX5_joined_4 rfl rfl) (by decide +kernel)
theorem dX5_joined_81 : decode cX5_joined 81 = .ok (.aload_n 0, 1) := dq_42 (dq_suf 1 dt06cX5_joined_5 rfl rfl)
theorem dX5_joined_82 : decode cX5_joined 82 = .ok (.getfield 26, 3) := dq_180 (dq_suf 2 dt06cX5_joined_5 rfl rfl) rfl
theorem dX5_joined_85 : decode cX5_joined 85 = .ok (.iload_n 3, 1) := dq_29 (dq_suf 5 dt06cX5_joined_5 rfl rfl)
theorem dX5_joined_86 : decode cX5_joined 86 = .ok (.invokestatic 128, 3) := dq_184 (dq_suf 6 dt06cX5_joined_5 rfl rfl) rfl
theorem dX5_joined_89 : decode cX5_joined 89 = .ok (.iload_n 2, 1) := dq_28 (dq_suf 9 dt06cX5_joined_5 rfl rfl)
theorem dX5_joined_90 : decode cX5_joined 90 = .ok (.invokevirtual 159, 3) := dq_182 (dq_suf 10 dt06cX5_joined_5 rfl rfl) rfl
theorem dX5_joined_93 : decode cX5_joined 93 = .ok (.istore 5, 2) := dq_54 (dq_suf 13 dt06cX5_joined_5 rfl rfl) rfl
theorem dX5_joined_95 : decode cX5_joined 95 = .ok (.aload_n 0, 1) := dq_42 (dq_suf 15 dt06cX5_joined_5 rfl rfl)
theorem dX5_joined_96 : decode cX5_joined 96 = .ok (.getfield 26, 3) := dq_180 (dq_suf 0 dt06cX5_joined_6 rfl rfl) rfl
theorem dX5_joined_99 : decode cX5_joined 99 = .ok (.aload_n 0, 1) := dq_42 (dq_suf 3 dt06cX5_joined_6 rfl rfl)
theorem dX5_joined_100 : decode cX5_joined 100 = .ok (.getfield 26, 3) := dq_180 (dq_suf 4 dt06cX5_joined_6 rfl rfl) rfl
theorem dX5_joined_103 : decode cX5_joined 103 = .ok (.iload 4, 2) := dq_21 (dq_suf 7 dt06cX5_joined_6 rfl rfl) rfl
theorem dX5_joined_105 : decode cX5_joined 105 = .ok (.invokevirtual 134, 3) := dq_182 (dq_suf 9 dt06cX5_joined_6 rfl rfl) rfl
theorem dX5_joined_108 : decode cX5_joined 108 = .ok (.aload_n 0, 1) := dq_42 (dq_suf 12 dt06cX5_joined_6 rfl rfl)
theorem dX5_joined_109 : decode cX5_joined 109 = .ok (.getfield 26, 3) := dq_180 (dq_suf 13 dt06cX5_joined_6 rfl rfl) rfl
theorem dX5_joined_112 : decode cX5_joined 112 = .ok (.iload 5, 2) := dq_21 (dq_suf 0 dt06cX5_joined_7 rfl rfl) rfl
theorem dX5_joined_114 : decode cX5_joined 114 = .ok (.invokevirtual 134, 3) := dq_182 (dq_suf 2 dt06cX5_joined_7 rfl rfl) rfl
theorem dX5_joined_117 : decode cX5_joined 117 = .ok (.invokevirtual 156, 3) := dq_182 (dq_suf 5 dt06cX5_joined_7 rfl rfl) rfl
theorem dX5_joined_120 : decode cX5_joined 120 = .ok (.ireturn, 1) := dq_172 (dq_suf 8 dt06cX5_joined_7 rfl rfl)
theorem dX5_joined_121 : decode cX5_joined 121 = .ok (.aload_n 0, 1) := dq_42 (dq_suf 9 dt06cX5_joined_7 rfl rfl)
theorem dX5_joined_122 : decode cX5_joined 122 = .ok (.getfield 26, 3) := dq_180 (dq_suf 10 dt06cX5_joined_7 rfl rfl) rfl
theorem dX5_joined_125 : decode cX5_joined 125 = .ok (.iload 4, 2) := dq_21 (dq_suf 13 dt06cX5_joined_7 rfl rfl) rfl
theorem dX5_joined_127 : decode cX5_joined 127 = .ok (.aload_n 0, 1) := dq_42 (dq_suf 15 dt06cX5_joined_7 rfl rfl)
theorem dX5_joined_128 : decode cX5_joined 128 = .ok (.getfield 26, 3) := dq_180 (dq_suf 0 dt06cX5_joined_8 rfl rfl) rfl
theorem dX5_joined_131 : decode cX5_joined 131 = .ok (.iload_n 2, 1) := dq_28 (dq_suf 3 dt06cX5_joined_8 rfl rfl)
theorem dX5_joined_132 : decode cX5_joined 132 = .ok (.iload_n 3, 1) := dq_29 (dq_suf 4 dt06cX5_joined_8 rfl rfl)
theorem dX5_joined_133 : decode cX5_joined 133 = .ok (.invokestatic 128, 3) := dq_184 (dq_suf 5 dt06cX5_joined_8 rfl rfl) rfl
theorem dX5_joined_136 : decode cX5_joined 136 = .ok (.invokevirtual 159, 3) := dq_182 (dq_suf 8 dt06cX5_joined_8 rfl rfl) rfl
theorem dX5_joined_139 : decode cX5_joined 139 = .ok (.invokevirtual 156, 3) := dq_182 (dq_suf 11 dt06cX5_joined_8 rfl rfl) rfl
theorem dX5_joined_142 : decode cX5_joined 142 = .ok (.ireturn, 1) := dq_172 (dq_suf 14 dt06cX5_joined_8 rfl rfl)
noncomputable def ds06cX5_topSign_1 : List UInt8 := 100 :: 46 :: 167 :: 0 :: 4 :: 3 :: 172 :: []
noncomputable def ds06cX5_topSign_0 : List UInt8 := 42 :: 180 :: 0 :: 68 :: 158 :: 0 :: 17 :: 42 :: 180 :: 0 :: 9 :: 42 :: 180 :: 0 :: 68 :: 4 :: ds06cX5_topSign_1
theorem dt06cX5_topSign_0 : cX5_topSign.data.toList.drop 0 = ds06cX5_topSign_0 := by decide +kernel
theorem dt06cX5_topSign_1 : cX5_topSign.data.toList.drop 16 = ds06cX5_topSign_1 := dq_suf 16 dt06cX5_topSign_0 rfl rfl
theorem dX5_topSign_0 : decode cX5_topSign 0 = .ok (.aload_n 0, 1) := dq_42 (dq_suf 0 dt06cX5_topSign_0 rfl rfl)
theorem dX5_topSign_1 : decode cX5_topSign 1 = .ok (.getfield 68, 3) := dq_180 (dq_suf 1 dt06cX5_topSign_0 rfl rfl) rfl
theorem dX5_topSign_4 : decode cX5_topSign 4 = .ok (.ifCond .le 17, 3) := dq_158 (dq_suf 4 dt06cX5_topSign_0 rfl rfl) (by decide +kernel)
theorem dX5_topSign_7 : decode cX5_topSign 7 = .ok (.aload_n 0, 1) := dq_42 (dq_suf 7 dt06cX5_topSign_0 rfl rfl)
theorem dX5_topSign_8 : decode cX5_topSign 8 = .ok (.getfield 9, 3) := dq_180 (dq_suf 8 dt06cX5_topSign_0 rfl rfl) rfl
theorem dX5_topSign_11 : decode cX5_topSign 11 = .ok (.aload_n 0, 1) := dq_42 (dq_suf 11 dt06cX5_topSign_0 rfl rfl)
theorem dX5_topSign_12 : decode cX5_topSign 12 = .ok (.getfield 68, 3) := dq_180 (dq_suf 12 dt06cX5_topSign_0 rfl rfl) rfl
theorem dX5_topSign_15 : decode cX5_topSign 15 = .ok (.iconst 1, 1) := dq_4 (dq_suf 15 dt06cX5_topSign_0 rfl rfl)
theorem dX5_topSign_16 : decode cX5_topSign 16 = .ok (.isub, 1) := dq_100 (dq_suf 0 dt06cX5_topSign_1 rfl rfl)
theorem dX5_topSign_17 : decode cX5_topSign 17 = .ok (.iaload, 1) := dq_46 (dq_suf 1 dt06cX5_topSign_1 rfl rfl)
theorem dX5_topSign_18 : decode cX5_topSign 18 = .ok (.goto 4, 3) := dq_167 (dq_suf 2 dt06cX5_topSign_1 rfl rfl) (by decide +kernel)
theorem dX5_topSign_21 : decode cX5_topSign 21 = .ok (.iconst 0, 1) := dq_3 (dq_suf 5 dt06cX5_topSign_1 rfl rfl)
theorem dX5_topSign_22 : decode cX5_topSign 22 = .ok (.ireturn, 1) := dq_172 (dq_suf 6 dt06cX5_topSign_1 rfl rfl)
noncomputable def ds06cX5_pushSign_2 : List UInt8 := 177 :: []
noncomputable def ds06cX5_pushSign_1 : List UInt8 := 42 :: 180 :: 0 :: 68 :: 27 :: 79 :: 42 :: 89 :: 180 :: 0 :: 68 :: 4 :: 96 :: 181 :: 0 :: 68 :: ds06cX5_pushSign_2
noncomputable def ds06cX5_pushSign_0 : List UInt8 := 42 :: 180 :: 0 :: 68 :: 42 :: 180 :: 0 :: 9 :: 190 :: 162 :: 0 :: 23 :: 42 :: 180 :: 0 :: 9 :: ds06cX5_pushSign_1
theorem dt06cX5_pushSign_0 : cX5_pushSign.data.toList.drop 0 = ds06cX5_pushSign_0 := by decide +kernel
theorem dt06cX5_pushSign_1 : cX5_pushSign.data.toList.drop 16 = ds06cX5_pushSign_1 := dq_suf 16 dt06cX5_pushSign_0 rfl rfl
theorem dt06cX5_pushSign_2 : cX5_pushSign.data.toList.drop 32 = ds06cX5_pushSign_2 := dq_suf 16 dt06cX5_pushSign_1 rfl rfl
theorem dX5_pushSign_0 : decode cX5_pushSign 0 = .ok (.aload_n 0, 1) := dq_42 (dq_suf 0 dt06cX5_pushSign_0 rfl rfl)
theorem dX5_pushSign_1 : decode cX5_pushSign 1 = .ok (.getfield 68, 3) := dq_180 (dq_suf 1 dt06cX5_pushSign_0 rfl rfl) rfl
theorem dX5_pushSign_4 : decode cX5_pushSign 4 = .ok (.aload_n 0, 1) := dq_42 (dq_suf 4 dt06cX5_pushSign_0 rfl rfl)
theorem dX5_pushSign_5 : decode cX5_pushSign 5 = .ok (.getfield 9, 3) := dq_180 (dq_suf 5 dt06cX5_pushSign_0 rfl rfl) rfl
theorem dX5_pushSign_8 : decode cX5_pushSign 8 = .ok (.arraylength, 1) := dq_190 (dq_suf 8 dt06cX5_pushSign_0 rfl rfl)
theorem dX5_pushSign_9 : decode cX5_pushSign 9 = .ok (.if_icmp .ge 23, 3) := dq_162 (dq_suf 9 dt06cX5_pushSign_0 rfl rfl) (by decide +kernel)
theorem dX5_pushSign_12 : decode cX5_pushSign 12 = .ok (.aload_n 0, 1) := dq_42 (dq_suf 12 dt06cX5_pushSign_0 rfl rfl)
theorem dX5_pushSign_13 : decode cX5_pushSign 13 = .ok (.getfield 9, 3) := dq_180 (dq_suf 13 dt06cX5_pushSign_0 rfl rfl) rfl
theorem dX5_pushSign_16 : decode cX5_pushSign 16 = .ok (.aload_n 0, 1) := dq_42 (dq_suf 0 dt06cX5_pushSign_1 rfl rfl)
theorem dX5_pushSign_17 : decode cX5_pushSign 17 = .ok (.getfield 68, 3) := dq_180 (dq_suf 1 dt06cX5_pushSign_1 rfl rfl) rfl
theorem dX5_pushSign_20 : decode cX5_pushSign 20 = .ok (.iload_n 1, 1) := dq_27 (dq_suf 4 dt06cX5_pushSign_1 rfl rfl)
theorem dX5_pushSign_21 : decode cX5_pushSign 21 = .ok (.iastore, 1) := dq_79 (dq_suf 5 dt06cX5_pushSign_1 rfl rfl)
theorem dX5_pushSign_22 : decode cX5_pushSign 22 = .ok (.aload_n 0, 1) := dq_42 (dq_suf 6 dt06cX5_pushSign_1 rfl rfl)
theorem dX5_pushSign_23 : decode cX5_pushSign 23 = .ok (.dup, 1) := dq_89 (dq_suf 7 dt06cX5_pushSign_1 rfl rfl)
theorem dX5_pushSign_24 : decode cX5_pushSign 24 = .ok (.getfield 68, 3) := dq_180 (dq_suf 8 dt06cX5_pushSign_1 rfl rfl) rfl
theorem dX5_pushSign_27 : decode cX5_pushSign 27 = .ok (.iconst 1, 1) := dq_4 (dq_suf 11 dt06cX5_pushSign_1 rfl rfl)
theorem dX5_pushSign_28 : decode cX5_pushSign 28 = .ok (.iadd, 1) := dq_96 (dq_suf 12 dt06cX5_pushSign_1 rfl rfl)
theorem dX5_pushSign_29 : decode cX5_pushSign 29 = .ok (.putfield 68, 3) := dq_181 (dq_suf 13 dt06cX5_pushSign_1 rfl rfl) rfl
theorem dX5_pushSign_32 : decode cX5_pushSign 32 = .ok (.return_, 1) := dq_177 (dq_suf 0 dt06cX5_pushSign_2 rfl rfl)
noncomputable def ds06cX5_pushMark_2 : List UInt8 := 177 :: []
noncomputable def ds06cX5_pushMark_1 : List UInt8 := 42 :: 180 :: 0 :: 71 :: 27 :: 79 :: 42 :: 89 :: 180 :: 0 :: 71 :: 4 :: 96 :: 181 :: 0 :: 71 :: ds06cX5_pushMark_2
noncomputable def ds06cX5_pushMark_0 : List UInt8 := 42 :: 180 :: 0 :: 71 :: 42 :: 180 :: 0 :: 15 :: 190 :: 162 :: 0 :: 23 :: 42 :: 180 :: 0 :: 15 :: ds06cX5_pushMark_1
theorem dt06cX5_pushMark_0 : cX5_pushMark.data.toList.drop 0 = ds06cX5_pushMark_0 := by decide +kernel
theorem dt06cX5_pushMark_1 : cX5_pushMark.data.toList.drop 16 = ds06cX5_pushMark_1 := dq_suf 16 dt06cX5_pushMark_0 rfl rfl
theorem dt06cX5_pushMark_2 : cX5_pushMark.data.toList.drop 32 = ds06cX5_pushMark_2 := dq_suf 16 dt06cX5_pushMark_1 rfl rfl
theorem dX5_pushMark_0 : decode cX5_pushMark 0 = .ok (.aload_n 0, 1) := dq_42 (dq_suf 0 dt06cX5_pushMark_0 rfl rfl)
theorem dX5_pushMark_1 : decode cX5_pushMark 1 = .ok (.getfield 71, 3) := dq_180 (dq_suf 1 dt06cX5_pushMark_0 rfl rfl) rfl
theorem dX5_pushMark_4 : decode cX5_pushMark 4 = .ok (.aload_n 0, 1) := dq_42 (dq_suf 4 dt06cX5_pushMark_0 rfl rfl)
theorem dX5_pushMark_5 : decode cX5_pushMark 5 = .ok (.getfield 15, 3) := dq_180 (dq_suf 5 dt06cX5_pushMark_0 rfl rfl) rfl
theorem dX5_pushMark_8 : decode cX5_pushMark 8 = .ok (.arraylength, 1) := dq_190 (dq_suf 8 dt06cX5_pushMark_0 rfl rfl)
theorem dX5_pushMark_9 : decode cX5_pushMark 9 = .ok (.if_icmp .ge 23, 3) := dq_162 (dq_suf 9 dt06cX5_pushMark_0 rfl rfl) (by decide +kernel)
theorem dX5_pushMark_12 : decode cX5_pushMark 12 = .ok (.aload_n 0, 1) := dq_42 (dq_suf 12 dt06cX5_pushMark_0 rfl rfl)
theorem dX5_pushMark_13 : decode cX5_pushMark 13 = .ok (.getfield 15, 3) := dq_180 (dq_suf 13 dt06cX5_pushMark_0 rfl rfl) rfl
theorem dX5_pushMark_16 : decode cX5_pushMark 16 = .ok (.aload_n 0, 1) := dq_42 (dq_suf 0 dt06cX5_pushMark_1 rfl rfl)
theorem dX5_pushMark_17 : decode cX5_pushMark 17 = .ok (.getfield 71, 3) := dq_180 (dq_suf 1 dt06cX5_pushMark_1 rfl rfl) rfl
theorem dX5_pushMark_20 : decode cX5_pushMark 20 = .ok (.iload_n 1, 1) := dq_27 (dq_suf 4 dt06cX5_pushMark_1 rfl rfl)
theorem dX5_pushMark_21 : decode cX5_pushMark 21 = .ok (.iastore, 1) := dq_79 (dq_suf 5 dt06cX5_pushMark_1 rfl rfl)
theorem dX5_pushMark_22 : decode cX5_pushMark 22 = .ok (.aload_n 0, 1) := dq_42 (dq_suf 6 dt06cX5_pushMark_1 rfl rfl)
theorem dX5_pushMark_23 : decode cX5_pushMark 23 = .ok (.dup, 1) := dq_89 (dq_suf 7 dt06cX5_pushMark_1 rfl rfl)
theorem dX5_pushMark_24 : decode cX5_pushMark 24 = .ok (.getfield 71, 3) := dq_180 (dq_suf 8 dt06cX5_pushMark_1 rfl rfl) rfl
theorem dX5_pushMark_27 : decode cX5_pushMark 27 = .ok (.iconst 1, 1) := dq_4 (dq_suf 11 dt06cX5_pushMark_1 rfl rfl)
theorem dX5_pushMark_28 : decode cX5_pushMark 28 = .ok (.iadd, 1) := dq_96 (dq_suf 12 dt06cX5_pushMark_1 rfl rfl)
theorem dX5_pushMark_29 : decode cX5_pushMark 29 = .ok (.putfield 71, 3) := dq_181 (dq_suf 13 dt06cX5_pushMark_1 rfl rfl) rfl
theorem dX5_pushMark_32 : decode cX5_pushMark 32 = .ok (.return_, 1) := dq_177 (dq_suf 0 dt06cX5_pushMark_2 rfl rfl)
noncomputable def ds06cX5_popMark_1 : List UInt8 := 181 :: 0 :: 71 :: 42 :: 180 :: 0 :: 15 :: 42 :: 180 :: 0 :: 71 :: 46 :: 172 :: []
noncomputable def ds06cX5_popMark_0 : List UInt8 := 42 :: 180 :: 0 :: 71 :: 157 :: 0 :: 5 :: 3 :: 172 :: 42 :: 89 :: 180 :: 0 :: 71 :: 4 :: 100 :: ds06cX5_popMark_1
theorem dt06cX5_popMark_0 : cX5_popMark.data.toList.drop 0 = ds06cX5_popMark_0 := by decide +kernel
theorem dt06cX5_popMark_1 : cX5_popMark.data.toList.drop 16 = ds06cX5_popMark_1 := dq_suf 16 dt06cX5_popMark_0 rfl rfl
theorem dX5_popMark_0 : decode cX5_popMark 0 = .ok (.aload_n 0, 1) := dq_42 (dq_suf 0 dt06cX5_popMark_0 rfl rfl)
theorem dX5_popMark_1 : decode cX5_popMark 1 = .ok (.getfield 71, 3) := dq_180 (dq_suf 1 dt06cX5_popMark_0 rfl rfl) rfl
theorem dX5_popMark_4 : decode cX5_popMark 4 = .ok (.ifCond .gt 5, 3) := dq_157 (dq_suf 4 dt06cX5_popMark_0 rfl rfl) (by decide +kernel)
theorem dX5_popMark_7 : decode cX5_popMark 7 = .ok (.iconst 0, 1) := dq_3 (dq_suf 7 dt06cX5_popMark_0 rfl rfl)
theorem dX5_popMark_8 : decode cX5_popMark 8 = .ok (.ireturn, 1) := dq_172 (dq_suf 8 dt06cX5_popMark_0 rfl rfl)
theorem dX5_popMark_9 : decode cX5_popMark 9 = .ok (.aload_n 0, 1) := dq_42 (dq_suf 9 dt06cX5_popMark_0 rfl rfl)
theorem dX5_popMark_10 : decode cX5_popMark 10 = .ok (.dup, 1) := dq_89 (dq_suf 10 dt06cX5_popMark_0 rfl rfl)
theorem dX5_popMark_11 : decode cX5_popMark 11 = .ok (.getfield 71, 3) := dq_180 (dq_suf 11 dt06cX5_popMark_0 rfl rfl) rfl
theorem dX5_popMark_14 : decode cX5_popMark 14 = .ok (.iconst 1, 1) := dq_4 (dq_suf 14 dt06cX5_popMark_0 rfl rfl)
theorem dX5_popMark_15 : decode cX5_popMark 15 = .ok (.isub, 1) := dq_100 (dq_suf 15 dt06cX5_popMark_0 rfl rfl)
theorem dX5_popMark_16 : decode cX5_popMark 16 = .ok (.putfield 71, 3) := dq_181 (dq_suf 0 dt06cX5_popMark_1 rfl rfl) rfl
theorem dX5_popMark_19 : decode cX5_popMark 19 = .ok (.aload_n 0, 1) := dq_42 (dq_suf 3 dt06cX5_popMark_1 rfl rfl)
theorem dX5_popMark_20 : decode cX5_popMark 20 = .ok (.getfield 15, 3) := dq_180 (dq_suf 4 dt06cX5_popMark_1 rfl rfl) rfl
theorem dX5_popMark_23 : decode cX5_popMark 23 = .ok (.aload_n 0, 1) := dq_42 (dq_suf 7 dt06cX5_popMark_1 rfl rfl)
theorem dX5_popMark_24 : decode cX5_popMark 24 = .ok (.getfield 71, 3) := dq_180 (dq_suf 8 dt06cX5_popMark_1 rfl rfl) rfl
theorem dX5_popMark_27 : decode cX5_popMark 27 = .ok (.iaload, 1) := dq_46 (dq_suf 11 dt06cX5_popMark_1 rfl rfl)
theorem dX5_popMark_28 : decode cX5_popMark 28 = .ok (.ireturn, 1) := dq_172 (dq_suf 12 dt06cX5_popMark_1 rfl rfl)
noncomputable def ds06cX5_isAtom_1 : List UInt8 := 0 :: 9 :: 26 :: 16 :: 70 :: 160 :: 0 :: 7 :: 4 :: 167 :: 0 :: 4 :: 3 :: 172 :: []
noncomputable def ds06cX5_isAtom_0 : List UInt8 := 26 :: 16 :: 97 :: 161 :: 0 :: 9 :: 26 :: 16 :: 122 :: 164 :: 0 :: 15 :: 26 :: 16 :: 84 :: 159 :: ds06cX5_isAtom_1
theorem dt06cX5_isAtom_0 : cX5_isAtom.data.toList.drop 0 = ds06cX5_isAtom_0 := by decide +kernel
theorem dt06cX5_isAtom_1 : cX5_isAtom.data.toList.drop 16 = ds06cX5_isAtom_1 := dq_suf 16 dt06cX5_isAtom_0 rfl rfl
theorem dX5_isAtom_0 : decode cX5_isAtom 0 = .ok (.iload_n 0, 1) := dq_26 (dq_suf 0 dt06cX5_isAtom_0 rfl rfl)
theorem dX5_isAtom_1 : decode cX5_isAtom 1 = .ok (.bipush 97, 2) := dq_16 (dq_suf 1 dt06cX5_isAtom_0 rfl rfl) (by decide +kernel)
theorem dX5_isAtom_3 : decode cX5_isAtom 3 = .ok (.if_icmp .lt 9, 3) := dq_161 (dq_suf 3 dt06cX5_isAtom_0 rfl rfl) (by decide +kernel)
theorem dX5_isAtom_6 : decode cX5_isAtom 6 = .ok (.iload_n 0, 1) := dq_26 (dq_suf 6 dt06cX5_isAtom_0 rfl rfl)
theorem dX5_isAtom_7 : decode cX5_isAtom 7 = .ok (.bipush 122, 2) := dq_16 (dq_suf 7 dt06cX5_isAtom_0 rfl rfl) (by decide +kernel)
theorem dX5_isAtom_9 : decode cX5_isAtom 9 = .ok (.if_icmp .le 15, 3) := dq_164 (dq_suf 9 dt06cX5_isAtom_0 rfl rfl) (by decide +kernel)
theorem dX5_isAtom_12 : decode cX5_isAtom 12 = .ok (.iload_n 0, 1) := dq_26 (dq_suf 12 dt06cX5_isAtom_0 rfl rfl)
theorem dX5_isAtom_13 : decode cX5_isAtom 13 = .ok (.bipush 84, 2) := dq_16 (dq_suf 13 dt06cX5_isAtom_0 rfl rfl) (by decide +kernel)
theorem dX5_isAtom_15 : decode cX5_isAtom 15 = .ok (.if_icmp .eq 9, 3) := dq_159 (dq_suf 15 dt06cX5_isAtom_0 rfl rfl) (by decide +kernel)
theorem dX5_isAtom_18 : decode cX5_isAtom 18 = .ok (.iload_n 0, 1) := dq_26 (dq_suf 2 dt06cX5_isAtom_1 rfl rfl)
theorem dX5_isAtom_19 : decode cX5_isAtom 19 = .ok (.bipush 70, 2) := dq_16 (dq_suf 3 dt06cX5_isAtom_1 rfl rfl) (by decide +kernel)
theorem dX5_isAtom_21 : decode cX5_isAtom 21 = .ok (.if_icmp .ne 7, 3) := dq_160 (dq_suf 5 dt06cX5_isAtom_1 rfl rfl) (by decide +kernel)
theorem dX5_isAtom_24 : decode cX5_isAtom 24 = .ok (.iconst 1, 1) := dq_4 (dq_suf 8 dt06cX5_isAtom_1 rfl rfl)
theorem dX5_isAtom_25 : decode cX5_isAtom 25 = .ok (.goto 4, 3) := dq_167 (dq_suf 9 dt06cX5_isAtom_1 rfl rfl) (by decide +kernel)
theorem dX5_isAtom_28 : decode cX5_isAtom 28 = .ok (.iconst 0, 1) := dq_3 (dq_suf 12 dt06cX5_isAtom_1 rfl rfl)
theorem dX5_isAtom_29 : decode cX5_isAtom 29 = .ok (.ireturn, 1) := dq_172 (dq_suf 13 dt06cX5_isAtom_1 rfl rfl)
noncomputable def ds06cX5_isPrefix_1 : List UInt8 := 0 :: 7 :: 4 :: 167 :: 0 :: 4 :: 3 :: 172 :: []
noncomputable def ds06cX5_isPrefix_0 : List UInt8 := 26 :: 16 :: 33 :: 159 :: 0 :: 15 :: 26 :: 16 :: 91 :: 159 :: 0 :: 9 :: 26 :: 16 :: 60 :: 160 :: ds06cX5_isPrefix_1
theorem dt06cX5_isPrefix_0 : cX5_isPrefix.data.toList.drop 0 = ds06cX5_isPrefix_0 := by decide +kernel
theorem dt06cX5_isPrefix_1 : cX5_isPrefix.data.toList.drop 16 = ds06cX5_isPrefix_1 := dq_suf 16 dt06cX5_isPrefix_0 rfl rfl
theorem dX5_isPrefix_0 : decode cX5_isPrefix 0 = .ok (.iload_n 0, 1) := dq_26 (dq_suf 0 dt06cX5_isPrefix_0 rfl rfl)
theorem dX5_isPrefix_1 : decode cX5_isPrefix 1 = .ok (.bipush 33, 2) := dq_16 (dq_suf 1 dt06cX5_isPrefix_0 rfl rfl) (by decide +kernel)
theorem dX5_isPrefix_3 : decode cX5_isPrefix 3 = .ok (.if_icmp .eq 15, 3) := dq_159 (dq_suf 3 dt06cX5_isPrefix_0 rfl rfl) (by decide +kernel)
theorem dX5_isPrefix_6 : decode cX5_isPrefix 6 = .ok (.iload_n 0, 1) := dq_26 (dq_suf 6 dt06cX5_isPrefix_0 rfl rfl)
theorem dX5_isPrefix_7 : decode cX5_isPrefix 7 = .ok (.bipush 91, 2) := dq_16 (dq_suf 7 dt06cX5_isPrefix_0 rfl rfl) (by decide +kernel)
theorem dX5_isPrefix_9 : decode cX5_isPrefix 9 = .ok (.if_icmp .eq 9, 3) := dq_159 (dq_suf 9 dt06cX5_isPrefix_0 rfl rfl) (by decide +kernel)
theorem dX5_isPrefix_12 : decode cX5_isPrefix 12 = .ok (.iload_n 0, 1) := dq_26 (dq_suf 12 dt06cX5_isPrefix_0 rfl rfl)
theorem dX5_isPrefix_13 : decode cX5_isPrefix 13 = .ok (.bipush 60, 2) := dq_16 (dq_suf 13 dt06cX5_isPrefix_0 rfl rfl) (by decide +kernel)
theorem dX5_isPrefix_15 : decode cX5_isPrefix 15 = .ok (.if_icmp .ne 7, 3) := dq_160 (dq_suf 15 dt06cX5_isPrefix_0 rfl rfl) (by decide +kernel)
theorem dX5_isPrefix_18 : decode cX5_isPrefix 18 = .ok (.iconst 1, 1) := dq_4 (dq_suf 2 dt06cX5_isPrefix_1 rfl rfl)
theorem dX5_isPrefix_19 : decode cX5_isPrefix 19 = .ok (.goto 4, 3) := dq_167 (dq_suf 3 dt06cX5_isPrefix_1 rfl rfl) (by decide +kernel)
theorem dX5_isPrefix_22 : decode cX5_isPrefix 22 = .ok (.iconst 0, 1) := dq_3 (dq_suf 6 dt06cX5_isPrefix_1 rfl rfl)
theorem dX5_isPrefix_23 : decode cX5_isPrefix 23 = .ok (.ireturn, 1) := dq_172 (dq_suf 7 dt06cX5_isPrefix_1 rfl rfl)
noncomputable def ds06cX5_isOpening_1 : List UInt8 := 4 :: 3 :: 172 :: []
noncomputable def ds06cX5_isOpening_0 : List UInt8 := 26 :: 16 :: 40 :: 159 :: 0 :: 10 :: 26 :: 184 :: 0 :: 143 :: 153 :: 0 :: 7 :: 4 :: 167 :: 0 :: ds06cX5_isOpening_1
theorem dt06cX5_isOpening_0 : cX5_isOpening.data.toList.drop 0 = ds06cX5_isOpening_0 := by decide +kernel
theorem dt06cX5_isOpening_1 : cX5_isOpening.data.toList.drop 16 = ds06cX5_isOpening_1 := dq_suf 16 dt06cX5_isOpening_0 rfl rfl
theorem dX5_isOpening_0 : decode cX5_isOpening 0 = .ok (.iload_n 0, 1) := dq_26 (dq_suf 0 dt06cX5_isOpening_0 rfl rfl)
theorem dX5_isOpening_1 : decode cX5_isOpening 1 = .ok (.bipush 40, 2) := dq_16 (dq_suf 1 dt06cX5_isOpening_0 rfl rfl) (by decide +kernel)
theorem dX5_isOpening_3 : decode cX5_isOpening 3 = .ok (.if_icmp .eq 10, 3) := dq_159 (dq_suf 3 dt06cX5_isOpening_0 rfl rfl) (by decide +kernel)
theorem dX5_isOpening_6 : decode cX5_isOpening 6 = .ok (.iload_n 0, 1) := dq_26 (dq_suf 6 dt06cX5_isOpening_0 rfl rfl)
theorem dX5_isOpening_7 : decode cX5_isOpening 7 = .ok (.invokestatic 143, 3) := dq_184 (dq_suf 7 dt06cX5_isOpening_0 rfl rfl) rfl
theorem dX5_isOpening_10 : decode cX5_isOpening 10 = .ok (.ifCond .eq 7, 3) := dq_153 (dq_suf 10 dt06cX5_isOpening_0 rfl rfl) (by decide +kernel)
theorem dX5_isOpening_13 : decode cX5_isOpening 13 = .ok (.iconst 1, 1) := dq_4 (dq_suf 13 dt06cX5_isOpening_0 rfl rfl)
theorem dX5_isOpening_14 : decode cX5_isOpening 14 = .ok (.goto 4, 3) := dq_167 (dq_suf 14 dt06cX5_isOpening_0 rfl rfl) (by decide +kernel)
theorem dX5_isOpening_17 : decode cX5_isOpening 17 = .ok (.iconst 0, 1) := dq_3 (dq_suf 1 dt06cX5_isOpening_1 rfl rfl)
theorem dX5_isOpening_18 : decode cX5_isOpening 18 = .ok (.ireturn, 1) := dq_172 (dq_suf 2 dt06cX5_isOpening_1 rfl rfl)
noncomputable def ds06cX5_rankOf_3 : List UInt8 := 5 :: 172 :: 4 :: 172 :: 3 :: 172 :: []
noncomputable def ds06cX5_rankOf_2 : List UInt8 := 0 :: 0 :: 0 :: 47 :: 0 :: 0 :: 0 :: 124 :: 0 :: 0 :: 0 :: 45 :: 7 :: 172 :: 6 :: 172 :: ds06cX5_rankOf_3
noncomputable def ds06cX5_rankOf_1 : List UInt8 := 0 :: 0 :: 0 :: 43 :: 0 :: 0 :: 0 :: 61 :: 0 :: 0 :: 0 :: 49 :: 0 :: 0 :: 0 :: 62 :: ds06cX5_rankOf_2
noncomputable def ds06cX5_rankOf_0 : List UInt8 := 26 :: 171 :: 0 :: 0 :: 0 :: 0 :: 0 :: 51 :: 0 :: 0 :: 0 :: 4 :: 0 :: 0 :: 0 :: 38 :: ds06cX5_rankOf_1
theorem dt06cX5_rankOf_0 : cX5_rankOf.data.toList.drop 0 = ds06cX5_rankOf_0 := by decide +kernel
theorem dt06cX5_rankOf_1 : cX5_rankOf.data.toList.drop 16 = ds06cX5_rankOf_1 := dq_suf 16 dt06cX5_rankOf_0 rfl rfl
theorem dt06cX5_rankOf_2 : cX5_rankOf.data.toList.drop 32 = ds06cX5_rankOf_2 := dq_suf 16 dt06cX5_rankOf_1 rfl rfl
theorem dt06cX5_rankOf_3 : cX5_rankOf.data.toList.drop 48 = ds06cX5_rankOf_3 := dq_suf 16 dt06cX5_rankOf_2 rfl rfl
theorem dX5_rankOf_0 : decode cX5_rankOf 0 = .ok (.iload_n 0, 1) := dq_26 (dq_suf 0 dt06cX5_rankOf_0 rfl rfl)
theorem dX5_rankOf_1 : decode cX5_rankOf 1 = .ok (.lookupswitch 51 #[(38, 43), (61, 49), (62, 47), (124, 45)], 43) := by decide +kernel
theorem dX5_rankOf_44 : decode cX5_rankOf 44 = .ok (.iconst 4, 1) := dq_7 (dq_suf 12 dt06cX5_rankOf_2 rfl rfl)
theorem dX5_rankOf_45 : decode cX5_rankOf 45 = .ok (.ireturn, 1) := dq_172 (dq_suf 13 dt06cX5_rankOf_2 rfl rfl)
theorem dX5_rankOf_46 : decode cX5_rankOf 46 = .ok (.iconst 3, 1) := dq_6 (dq_suf 14 dt06cX5_rankOf_2 rfl rfl)
theorem dX5_rankOf_47 : decode cX5_rankOf 47 = .ok (.ireturn, 1) := dq_172 (dq_suf 15 dt06cX5_rankOf_2 rfl rfl)
theorem dX5_rankOf_48 : decode cX5_rankOf 48 = .ok (.iconst 2, 1) := dq_5 (dq_suf 0 dt06cX5_rankOf_3 rfl rfl)
theorem dX5_rankOf_49 : decode cX5_rankOf 49 = .ok (.ireturn, 1) := dq_172 (dq_suf 1 dt06cX5_rankOf_3 rfl rfl)
theorem dX5_rankOf_50 : decode cX5_rankOf 50 = .ok (.iconst 1, 1) := dq_4 (dq_suf 2 dt06cX5_rankOf_3 rfl rfl)
theorem dX5_rankOf_51 : decode cX5_rankOf 51 = .ok (.ireturn, 1) := dq_172 (dq_suf 3 dt06cX5_rankOf_3 rfl rfl)
theorem dX5_rankOf_52 : decode cX5_rankOf 52 = .ok (.iconst 0, 1) := dq_3 (dq_suf 4 dt06cX5_rankOf_3 rfl rfl)
theorem dX5_rankOf_53 : decode cX5_rankOf 53 = .ok (.ireturn, 1) := dq_172 (dq_suf 5 dt06cX5_rankOf_3 rfl rfl)
noncomputable def ds06cX9_init_1 : List UInt8 := 0 :: 15 :: 42 :: 44 :: 181 :: 0 :: 19 :: 177 :: []
noncomputable def ds06cX9_init_0 : List UInt8 := 42 :: 183 :: 0 :: 3 :: 42 :: 17 :: 1 :: 44 :: 188 :: 10 :: 181 :: 0 :: 9 :: 42 :: 43 :: 181 :: ds06cX9_init_1
theorem dt06cX9_init_0 : cX9_init.data.toList.drop 0 = ds06cX9_init_0 := by decide +kernel
theorem dt06cX9_init_1 : cX9_init.data.toList.drop 16 = ds06cX9_init_1 := dq_suf 16 dt06cX9_init_0 rfl rfl
theorem dX9_init_0 : decode cX9_init 0 = .ok (.aload_n 0, 1) := dq_42 (dq_suf 0 dt06cX9_init_0 rfl rfl)
theorem dX9_init_1 : decode cX9_init 1 = .ok (.invokespecial 3, 3) := dq_183 (dq_suf 1 dt06cX9_init_0 rfl rfl) rfl
theorem dX9_init_4 : decode cX9_init 4 = .ok (.aload_n 0, 1) := dq_42 (dq_suf 4 dt06cX9_init_0 rfl rfl)
theorem dX9_init_5 : decode cX9_init 5 = .ok (.sipush 300, 3) := dq_17 (dq_suf 5 dt06cX9_init_0 rfl rfl) (by decide +kernel)
theorem dX9_init_8 : decode cX9_init 8 = .ok (.newarray .int, 2) := by decide +kernel
theorem dX9_init_10 : decode cX9_init 10 = .ok (.putfield 9, 3) := dq_181 (dq_suf 10 dt06cX9_init_0 rfl rfl) rfl
theorem dX9_init_13 : decode cX9_init 13 = .ok (.aload_n 0, 1) := dq_42 (dq_suf 13 dt06cX9_init_0 rfl rfl)
theorem dX9_init_14 : decode cX9_init 14 = .ok (.aload_n 1, 1) := dq_43 (dq_suf 14 dt06cX9_init_0 rfl rfl)
theorem dX9_init_15 : decode cX9_init 15 = .ok (.putfield 15, 3) := dq_181 (dq_suf 15 dt06cX9_init_0 rfl rfl) rfl
theorem dX9_init_18 : decode cX9_init 18 = .ok (.aload_n 0, 1) := dq_42 (dq_suf 2 dt06cX9_init_1 rfl rfl)
theorem dX9_init_19 : decode cX9_init 19 = .ok (.aload_n 2, 1) := dq_44 (dq_suf 3 dt06cX9_init_1 rfl rfl)
theorem dX9_init_20 : decode cX9_init 20 = .ok (.putfield 19, 3) := dq_181 (dq_suf 4 dt06cX9_init_1 rfl rfl) rfl
theorem dX9_init_23 : decode cX9_init 23 = .ok (.return_, 1) := dq_177 (dq_suf 7 dt06cX9_init_1 rfl rfl)
noncomputable def ds06cX9_write_5 : List UInt8 := 182 :: 0 :: 42 :: 132 :: 2 :: 1 :: 167 :: 255 :: 191 :: 177 :: []
noncomputable def ds06cX9_write_4 : List UInt8 := 180 :: 0 :: 29 :: 4 :: 100 :: 29 :: 4 :: 96 :: 79 :: 42 :: 29 :: 5 :: 122 :: 29 :: 6 :: 126 :: ds06cX9_write_5
noncomputable def ds06cX9_write_3 : List UInt8 := 180 :: 0 :: 9 :: 42 :: 180 :: 0 :: 29 :: 4 :: 100 :: 46 :: 62 :: 42 :: 180 :: 0 :: 9 :: 42 :: ds06cX9_write_4
noncomputable def ds06cX9_write_2 : List UInt8 := 0 :: 58 :: 42 :: 180 :: 0 :: 15 :: 182 :: 0 :: 38 :: 17 :: 1 :: 144 :: 162 :: 0 :: 45 :: 42 :: ds06cX9_write_3
noncomputable def ds06cX9_write_1 : List UInt8 := 182 :: 0 :: 33 :: 3 :: 61 :: 28 :: 18 :: 37 :: 162 :: 0 :: 65 :: 42 :: 180 :: 0 :: 29 :: 158 :: ds06cX9_write_2
noncomputable def ds06cX9_write_0 : List UInt8 := 42 :: 180 :: 0 :: 15 :: 3 :: 182 :: 0 :: 23 :: 87 :: 42 :: 3 :: 181 :: 0 :: 29 :: 42 :: 27 :: ds06cX9_write_1
theorem dt06cX9_write_0 : cX9_write.data.toList.drop 0 = ds06cX9_write_0 := by decide +kernel
theorem dt06cX9_write_1 : cX9_write.data.toList.drop 16 = ds06cX9_write_1 := dq_suf 16 dt06cX9_write_0 rfl rfl
theorem dt06cX9_write_2 : cX9_write.data.toList.drop 32 = ds06cX9_write_2 := dq_suf 16 dt06cX9_write_1 rfl rfl
theorem dt06cX9_write_3 : cX9_write.data.toList.drop 48 = ds06cX9_write_3 := dq_suf 16 dt06cX9_write_2 rfl rfl
theorem dt06cX9_write_4 : cX9_write.data.toList.drop 64 = ds06cX9_write_4 := dq_suf 16 dt06cX9_write_3 rfl rfl
theorem dt06cX9_write_5 : cX9_write.data.toList.drop 80 = ds06cX9_write_5 := dq_suf 16 dt06cX9_write_4 rfl rfl
theorem dX9_write_0 : decode cX9_write 0 = .ok (.aload_n 0, 1) := dq_42 (dq_suf 0 dt06cX9_write_0 rfl rfl)
theorem dX9_write_1 : decode cX9_write 1 = .ok (.getfield 15, 3) := dq_180 (dq_suf 1 dt06cX9_write_0 rfl rfl) rfl
theorem dX9_write_4 : decode cX9_write 4 = .ok (.iconst 0, 1) := dq_3 (dq_suf 4 dt06cX9_write_0 rfl rfl)
theorem dX9_write_5 : decode cX9_write 5 = .ok (.invokevirtual 23, 3) := dq_182 (dq_suf 5 dt06cX9_write_0 rfl rfl) rfl
theorem dX9_write_8 : decode cX9_write 8 = .ok (.pop, 1) := dq_87 (dq_suf 8 dt06cX9_write_0 rfl rfl)
theorem dX9_write_9 : decode cX9_write 9 = .ok (.aload_n 0, 1) := dq_42 (dq_suf 9 dt06cX9_write_0 rfl rfl)
theorem dX9_write_10 : decode cX9_write 10 = .ok (.iconst 0, 1) := dq_3 (dq_suf 10 dt06cX9_write_0 rfl rfl)
theorem dX9_write_11 : decode cX9_write 11 = .ok (.putfield 29, 3) := dq_181 (dq_suf 11 dt06cX9_write_0 rfl rfl) rfl
theorem dX9_write_14 : decode cX9_write 14 = .ok (.aload_n 0, 1) := dq_42 (dq_suf 14 dt06cX9_write_0 rfl rfl)
theorem dX9_write_15 : decode cX9_write 15 = .ok (.iload_n 1, 1) := dq_27 (dq_suf 15 dt06cX9_write_0 rfl rfl)
theorem dX9_write_16 : decode cX9_write 16 = .ok (.invokevirtual 33, 3) := dq_182 (dq_suf 0 dt06cX9_write_1 rfl rfl) rfl
theorem dX9_write_19 : decode cX9_write 19 = .ok (.iconst 0, 1) := dq_3 (dq_suf 3 dt06cX9_write_1 rfl rfl)
theorem dX9_write_20 : decode cX9_write 20 = .ok (.istore_n 2, 1) := dq_61 (dq_suf 4 dt06cX9_write_1 rfl rfl)
theorem dX9_write_21 : decode cX9_write 21 = .ok (.iload_n 2, 1) := dq_28 (dq_suf 5 dt06cX9_write_1 rfl rfl)
theorem dX9_write_22 : decode cX9_write 22 = .ok (.ldc 37, 2) := dq_18 (dq_suf 6 dt06cX9_write_1 rfl rfl) rfl
theorem dX9_write_24 : decode cX9_write 24 = .ok (.if_icmp .ge 65, 3) := dq_162 (dq_suf 8 dt06cX9_write_1 rfl rfl) (by decide +kernel)
theorem dX9_write_27 : decode cX9_write 27 = .ok (.aload_n 0, 1) := dq_42 (dq_suf 11 dt06cX9_write_1 rfl rfl)
theorem dX9_write_28 : decode cX9_write 28 = .ok (.getfield 29, 3) := dq_180 (dq_suf 12 dt06cX9_write_1 rfl rfl) rfl
theorem dX9_write_31 : decode cX9_write 31 = .ok (.ifCond .le 58, 3) := dq_158 (dq_suf 15 dt06cX9_write_1 rfl rfl) (by decide +kernel)
theorem dX9_write_34 : decode cX9_write 34 = .ok (.aload_n 0, 1) := dq_42 (dq_suf 2 dt06cX9_write_2 rfl rfl)
theorem dX9_write_35 : decode cX9_write 35 = .ok (.getfield 15, 3) := dq_180 (dq_suf 3 dt06cX9_write_2 rfl rfl) rfl
theorem dX9_write_38 : decode cX9_write 38 = .ok (.invokevirtual 38, 3) := dq_182 (dq_suf 6 dt06cX9_write_2 rfl rfl) rfl
theorem dX9_write_41 : decode cX9_write 41 = .ok (.sipush 400, 3) := dq_17 (dq_suf 9 dt06cX9_write_2 rfl rfl) (by decide +kernel)
theorem dX9_write_44 : decode cX9_write 44 = .ok (.if_icmp .ge 45, 3) := dq_162 (dq_suf 12 dt06cX9_write_2 rfl rfl) (by decide +kernel)
theorem dX9_write_47 : decode cX9_write 47 = .ok (.aload_n 0, 1) := dq_42 (dq_suf 15 dt06cX9_write_2 rfl rfl)
theorem dX9_write_48 : decode cX9_write 48 = .ok (.getfield 9, 3) := dq_180 (dq_suf 0 dt06cX9_write_3 rfl rfl) rfl
theorem dX9_write_51 : decode cX9_write 51 = .ok (.aload_n 0, 1) := dq_42 (dq_suf 3 dt06cX9_write_3 rfl rfl)
theorem dX9_write_52 : decode cX9_write 52 = .ok (.getfield 29, 3) := dq_180 (dq_suf 4 dt06cX9_write_3 rfl rfl) rfl
theorem dX9_write_55 : decode cX9_write 55 = .ok (.iconst 1, 1) := dq_4 (dq_suf 7 dt06cX9_write_3 rfl rfl)
theorem dX9_write_56 : decode cX9_write 56 = .ok (.isub, 1) := dq_100 (dq_suf 8 dt06cX9_write_3 rfl rfl)
theorem dX9_write_57 : decode cX9_write 57 = .ok (.iaload, 1) := dq_46 (dq_suf 9 dt06cX9_write_3 rfl rfl)
theorem dX9_write_58 : decode cX9_write 58 = .ok (.istore_n 3, 1) := dq_62 (dq_suf 10 dt06cX9_write_3 rfl rfl)
theorem dX9_write_59 : decode cX9_write 59 = .ok (.aload_n 0, 1) := dq_42 (dq_suf 11 dt06cX9_write_3 rfl rfl)
theorem dX9_write_60 : decode cX9_write 60 = .ok (.getfield 9, 3) := dq_180 (dq_suf 12 dt06cX9_write_3 rfl rfl) rfl
theorem dX9_write_63 : decode cX9_write 63 = .ok (.aload_n 0, 1) := dq_42 (dq_suf 15 dt06cX9_write_3 rfl rfl)
theorem dX9_write_64 : decode cX9_write 64 = .ok (.getfield 29, 3) := dq_180 (dq_suf 0 dt06cX9_write_4 rfl rfl) rfl
theorem dX9_write_67 : decode cX9_write 67 = .ok (.iconst 1, 1) := dq_4 (dq_suf 3 dt06cX9_write_4 rfl rfl)
theorem dX9_write_68 : decode cX9_write 68 = .ok (.isub, 1) := dq_100 (dq_suf 4 dt06cX9_write_4 rfl rfl)
theorem dX9_write_69 : decode cX9_write 69 = .ok (.iload_n 3, 1) := dq_29 (dq_suf 5 dt06cX9_write_4 rfl rfl)
theorem dX9_write_70 : decode cX9_write 70 = .ok (.iconst 1, 1) := dq_4 (dq_suf 6 dt06cX9_write_4 rfl rfl)
theorem dX9_write_71 : decode cX9_write 71 = .ok (.iadd, 1) := dq_96 (dq_suf 7 dt06cX9_write_4 rfl rfl)
theorem dX9_write_72 : decode cX9_write 72 = .ok (.iastore, 1) := dq_79 (dq_suf 8 dt06cX9_write_4 rfl rfl)
theorem dX9_write_73 : decode cX9_write 73 = .ok (.aload_n 0, 1) := dq_42 (dq_suf 9 dt06cX9_write_4 rfl rfl)
theorem dX9_write_74 : decode cX9_write 74 = .ok (.iload_n 3, 1) := dq_29 (dq_suf 10 dt06cX9_write_4 rfl rfl)
theorem dX9_write_75 : decode cX9_write 75 = .ok (.iconst 2, 1) := dq_5 (dq_suf 11 dt06cX9_write_4 rfl rfl)
theorem dX9_write_76 : decode cX9_write 76 = .ok (.ishr, 1) := dq_122 (dq_suf 12 dt06cX9_write_4 rfl rfl)
theorem dX9_write_77 : decode cX9_write 77 = .ok (.iload_n 3, 1) := dq_29 (dq_suf 13 dt06cX9_write_4 rfl rfl)
theorem dX9_write_78 : decode cX9_write 78 = .ok (.iconst 3, 1) := dq_6 (dq_suf 14 dt06cX9_write_4 rfl rfl)
theorem dX9_write_79 : decode cX9_write 79 = .ok (.iand, 1) := dq_126 (dq_suf 15 dt06cX9_write_4 rfl rfl)
theorem dX9_write_80 : decode cX9_write 80 = .ok (.invokevirtual 42, 3) := dq_182 (dq_suf 0 dt06cX9_write_5 rfl rfl) rfl
theorem dX9_write_83 : decode cX9_write 83 = .ok (.iinc 2 1, 3) := dq_132 (dq_suf 3 dt06cX9_write_5 rfl rfl) rfl (by decide +kernel)
theorem dX9_write_86 : decode cX9_write 86 = .ok (.goto (-65), 3) := dq_167 (dq_suf 6 dt06cX9_write_5 rfl rfl) (by decide +kernel)
theorem dX9_write_89 : decode cX9_write 89 = .ok (.return_, 1) := dq_177 (dq_suf 9 dt06cX9_write_5 rfl rfl)
noncomputable def ds06cX9_enter_2 : List UInt8 := 0 :: 29 :: 177 :: []
noncomputable def ds06cX9_enter_1 : List UInt8 := 42 :: 180 :: 0 :: 29 :: 7 :: 27 :: 104 :: 79 :: 42 :: 89 :: 180 :: 0 :: 29 :: 4 :: 96 :: 181 :: ds06cX9_enter_2
noncomputable def ds06cX9_enter_0 : List UInt8 := 42 :: 180 :: 0 :: 29 :: 42 :: 180 :: 0 :: 9 :: 190 :: 162 :: 0 :: 25 :: 42 :: 180 :: 0 :: 9 :: ds06cX9_enter_1
theorem dt06cX9_enter_0 : cX9_enter.data.toList.drop 0 = ds06cX9_enter_0 := by decide +kernel
theorem dt06cX9_enter_1 : cX9_enter.data.toList.drop 16 = ds06cX9_enter_1 := dq_suf 16 dt06cX9_enter_0 rfl rfl
theorem dt06cX9_enter_2 : cX9_enter.data.toList.drop 32 = ds06cX9_enter_2 := dq_suf 16 dt06cX9_enter_1 rfl rfl
theorem dX9_enter_0 : decode cX9_enter 0 = .ok (.aload_n 0, 1) := dq_42 (dq_suf 0 dt06cX9_enter_0 rfl rfl)
theorem dX9_enter_1 : decode cX9_enter 1 = .ok (.getfield 29, 3) := dq_180 (dq_suf 1 dt06cX9_enter_0 rfl rfl) rfl
theorem dX9_enter_4 : decode cX9_enter 4 = .ok (.aload_n 0, 1) := dq_42 (dq_suf 4 dt06cX9_enter_0 rfl rfl)
theorem dX9_enter_5 : decode cX9_enter 5 = .ok (.getfield 9, 3) := dq_180 (dq_suf 5 dt06cX9_enter_0 rfl rfl) rfl
theorem dX9_enter_8 : decode cX9_enter 8 = .ok (.arraylength, 1) := dq_190 (dq_suf 8 dt06cX9_enter_0 rfl rfl)
theorem dX9_enter_9 : decode cX9_enter 9 = .ok (.if_icmp .ge 25, 3) := dq_162 (dq_suf 9 dt06cX9_enter_0 rfl rfl) (by decide +kernel)
theorem dX9_enter_12 : decode cX9_enter 12 = .ok (.aload_n 0, 1) := dq_42 (dq_suf 12 dt06cX9_enter_0 rfl rfl)
theorem dX9_enter_13 : decode cX9_enter 13 = .ok (.getfield 9, 3) := dq_180 (dq_suf 13 dt06cX9_enter_0 rfl rfl) rfl
theorem dX9_enter_16 : decode cX9_enter 16 = .ok (.aload_n 0, 1) := dq_42 (dq_suf 0 dt06cX9_enter_1 rfl rfl)
theorem dX9_enter_17 : decode cX9_enter 17 = .ok (.getfield 29, 3) := dq_180 (dq_suf 1 dt06cX9_enter_1 rfl rfl) rfl
theorem dX9_enter_20 : decode cX9_enter 20 = .ok (.iconst 4, 1) := dq_7 (dq_suf 4 dt06cX9_enter_1 rfl rfl)
theorem dX9_enter_21 : decode cX9_enter 21 = .ok (.iload_n 1, 1) := dq_27 (dq_suf 5 dt06cX9_enter_1 rfl rfl)
theorem dX9_enter_22 : decode cX9_enter 22 = .ok (.imul, 1) := dq_104 (dq_suf 6 dt06cX9_enter_1 rfl rfl)
theorem dX9_enter_23 : decode cX9_enter 23 = .ok (.iastore, 1) := dq_79 (dq_suf 7 dt06cX9_enter_1 rfl rfl)
theorem dX9_enter_24 : decode cX9_enter 24 = .ok (.aload_n 0, 1) := dq_42 (dq_suf 8 dt06cX9_enter_1 rfl rfl)
theorem dX9_enter_25 : decode cX9_enter 25 = .ok (.dup, 1) := dq_89 (dq_suf 9 dt06cX9_enter_1 rfl rfl)
theorem dX9_enter_26 : decode cX9_enter 26 = .ok (.getfield 29, 3) := dq_180 (dq_suf 10 dt06cX9_enter_1 rfl rfl) rfl
theorem dX9_enter_29 : decode cX9_enter 29 = .ok (.iconst 1, 1) := dq_4 (dq_suf 13 dt06cX9_enter_1 rfl rfl)
theorem dX9_enter_30 : decode cX9_enter 30 = .ok (.iadd, 1) := dq_96 (dq_suf 14 dt06cX9_enter_1 rfl rfl)
theorem dX9_enter_31 : decode cX9_enter 31 = .ok (.putfield 29, 3) := dq_181 (dq_suf 15 dt06cX9_enter_1 rfl rfl) rfl
theorem dX9_enter_34 : decode cX9_enter 34 = .ok (.return_, 1) := dq_177 (dq_suf 2 dt06cX9_enter_2 rfl rfl)
noncomputable def ds06cX9_goOn_4 : List UInt8 := 29 :: 28 :: 182 :: 0 :: 62 :: 177 :: []
noncomputable def ds06cX9_goOn_3 : List UInt8 := 7 :: 160 :: 0 :: 13 :: 42 :: 27 :: 29 :: 28 :: 182 :: 0 :: 58 :: 167 :: 0 :: 10 :: 42 :: 27 :: ds06cX9_goOn_4
noncomputable def ds06cX9_goOn_2 : List UInt8 := 4 :: 100 :: 181 :: 0 :: 29 :: 167 :: 0 :: 32 :: 29 :: 16 :: 6 :: 159 :: 0 :: 9 :: 29 :: 16 :: ds06cX9_goOn_3
noncomputable def ds06cX9_goOn_1 : List UInt8 := 42 :: 180 :: 0 :: 19 :: 27 :: 182 :: 0 :: 52 :: 182 :: 0 :: 55 :: 42 :: 89 :: 180 :: 0 :: 29 :: ds06cX9_goOn_2
noncomputable def ds06cX9_goOn_0 : List UInt8 := 42 :: 180 :: 0 :: 19 :: 27 :: 182 :: 0 :: 46 :: 62 :: 29 :: 7 :: 162 :: 0 :: 29 :: 42 :: 29 :: ds06cX9_goOn_1
theorem dt06cX9_goOn_0 : cX9_goOn.data.toList.drop 0 = ds06cX9_goOn_0 := by decide +kernel
theorem dt06cX9_goOn_1 : cX9_goOn.data.toList.drop 16 = ds06cX9_goOn_1 := dq_suf 16 dt06cX9_goOn_0 rfl rfl
theorem dt06cX9_goOn_2 : cX9_goOn.data.toList.drop 32 = ds06cX9_goOn_2 := dq_suf 16 dt06cX9_goOn_1 rfl rfl
theorem dt06cX9_goOn_3 : cX9_goOn.data.toList.drop 48 = ds06cX9_goOn_3 := dq_suf 16 dt06cX9_goOn_2 rfl rfl
theorem dt06cX9_goOn_4 : cX9_goOn.data.toList.drop 64 = ds06cX9_goOn_4 := dq_suf 16 dt06cX9_goOn_3 rfl rfl
theorem dX9_goOn_0 : decode cX9_goOn 0 = .ok (.aload_n 0, 1) := dq_42 (dq_suf 0 dt06cX9_goOn_0 rfl rfl)
theorem dX9_goOn_1 : decode cX9_goOn 1 = .ok (.getfield 19, 3) := dq_180 (dq_suf 1 dt06cX9_goOn_0 rfl rfl) rfl
theorem dX9_goOn_4 : decode cX9_goOn 4 = .ok (.iload_n 1, 1) := dq_27 (dq_suf 4 dt06cX9_goOn_0 rfl rfl)
theorem dX9_goOn_5 : decode cX9_goOn 5 = .ok (.invokevirtual 46, 3) := dq_182 (dq_suf 5 dt06cX9_goOn_0 rfl rfl) rfl
theorem dX9_goOn_8 : decode cX9_goOn 8 = .ok (.istore_n 3, 1) := dq_62 (dq_suf 8 dt06cX9_goOn_0 rfl rfl)
theorem dX9_goOn_9 : decode cX9_goOn 9 = .ok (.iload_n 3, 1) := dq_29 (dq_suf 9 dt06cX9_goOn_0 rfl rfl)
theorem dX9_goOn_10 : decode cX9_goOn 10 = .ok (.iconst 4, 1) := dq_7 (dq_suf 10 dt06cX9_goOn_0 rfl rfl)
theorem dX9_goOn_11 : decode cX9_goOn 11 = .ok (.if_icmp .ge 29, 3) := dq_162 (dq_suf 11 dt06cX9_goOn_0 rfl rfl) (by decide +kernel)
theorem dX9_goOn_14 : decode cX9_goOn 14 = .ok (.aload_n 0, 1) := dq_42 (dq_suf 14 dt06cX9_goOn_0 rfl rfl)
theorem dX9_goOn_15 : decode cX9_goOn 15 = .ok (.iload_n 3, 1) := dq_29 (dq_suf 15 dt06cX9_goOn_0 rfl rfl)
theorem dX9_goOn_16 : decode cX9_goOn 16 = .ok (.aload_n 0, 1) := dq_42 (dq_suf 0 dt06cX9_goOn_1 rfl rfl)
theorem dX9_goOn_17 : decode cX9_goOn 17 = .ok (.getfield 19, 3) := dq_180 (dq_suf 1 dt06cX9_goOn_1 rfl rfl) rfl
theorem dX9_goOn_20 : decode cX9_goOn 20 = .ok (.iload_n 1, 1) := dq_27 (dq_suf 4 dt06cX9_goOn_1 rfl rfl)
theorem dX9_goOn_21 : decode cX9_goOn 21 = .ok (.invokevirtual 52, 3) := dq_182 (dq_suf 5 dt06cX9_goOn_1 rfl rfl) rfl
theorem dX9_goOn_24 : decode cX9_goOn 24 = .ok (.invokevirtual 55, 3) := dq_182 (dq_suf 8 dt06cX9_goOn_1 rfl rfl) rfl
theorem dX9_goOn_27 : decode cX9_goOn 27 = .ok (.aload_n 0, 1) := dq_42 (dq_suf 11 dt06cX9_goOn_1 rfl rfl)
theorem dX9_goOn_28 : decode cX9_goOn 28 = .ok (.dup, 1) := dq_89 (dq_suf 12 dt06cX9_goOn_1 rfl rfl)
theorem dX9_goOn_29 : decode cX9_goOn 29 = .ok (.getfield 29, 3) := dq_180 (dq_suf 13 dt06cX9_goOn_1 rfl rfl) rfl
theorem dX9_goOn_32 : decode cX9_goOn 32 = .ok (.iconst 1, 1) := dq_4 (dq_suf 0 dt06cX9_goOn_2 rfl rfl)
theorem dX9_goOn_33 : decode cX9_goOn 33 = .ok (.isub, 1) := dq_100 (dq_suf 1 dt06cX9_goOn_2 rfl rfl)
theorem dX9_goOn_34 : decode cX9_goOn 34 = .ok (.putfield 29, 3) := dq_181 (dq_suf 2 dt06cX9_goOn_2 rfl rfl) rfl
theorem dX9_goOn_37 : decode cX9_goOn 37 = .ok (.goto 32, 3) := dq_167 (dq_suf 5 dt06cX9_goOn_2 rfl rfl) (by decide +kernel)
theorem dX9_goOn_40 : decode cX9_goOn 40 = .ok (.iload_n 3, 1) := dq_29 (dq_suf 8 dt06cX9_goOn_2 rfl rfl)
theorem dX9_goOn_41 : decode cX9_goOn 41 = .ok (.bipush 6, 2) := dq_16 (dq_suf 9 dt06cX9_goOn_2 rfl rfl) (by decide +kernel)
theorem dX9_goOn_43 : decode cX9_goOn 43 = .ok (.if_icmp .eq 9, 3) := dq_159 (dq_suf 11 dt06cX9_goOn_2 rfl rfl) (by decide +kernel)
theorem dX9_goOn_46 : decode cX9_goOn 46 = .ok (.iload_n 3, 1) := dq_29 (dq_suf 14 dt06cX9_goOn_2 rfl rfl)
theorem dX9_goOn_47 : decode cX9_goOn 47 = .ok (.bipush 7, 2) := dq_16 (dq_suf 15 dt06cX9_goOn_2 rfl rfl) (by decide +kernel)
theorem dX9_goOn_49 : decode cX9_goOn 49 = .ok (.if_icmp .ne 13, 3) := dq_160 (dq_suf 1 dt06cX9_goOn_3 rfl rfl) (by decide +kernel)
theorem dX9_goOn_52 : decode cX9_goOn 52 = .ok (.aload_n 0, 1) := dq_42 (dq_suf 4 dt06cX9_goOn_3 rfl rfl)
theorem dX9_goOn_53 : decode cX9_goOn 53 = .ok (.iload_n 1, 1) := dq_27 (dq_suf 5 dt06cX9_goOn_3 rfl rfl)
theorem dX9_goOn_54 : decode cX9_goOn 54 = .ok (.iload_n 3, 1) := dq_29 (dq_suf 6 dt06cX9_goOn_3 rfl rfl)
theorem dX9_goOn_55 : decode cX9_goOn 55 = .ok (.iload_n 2, 1) := dq_28 (dq_suf 7 dt06cX9_goOn_3 rfl rfl)
theorem dX9_goOn_56 : decode cX9_goOn 56 = .ok (.invokevirtual 58, 3) := dq_182 (dq_suf 8 dt06cX9_goOn_3 rfl rfl) rfl
theorem dX9_goOn_59 : decode cX9_goOn 59 = .ok (.goto 10, 3) := dq_167 (dq_suf 11 dt06cX9_goOn_3 rfl rfl) (by decide +kernel)
theorem dX9_goOn_62 : decode cX9_goOn 62 = .ok (.aload_n 0, 1) := dq_42 (dq_suf 14 dt06cX9_goOn_3 rfl rfl)
theorem dX9_goOn_63 : decode cX9_goOn 63 = .ok (.iload_n 1, 1) := dq_27 (dq_suf 15 dt06cX9_goOn_3 rfl rfl)
theorem dX9_goOn_64 : decode cX9_goOn 64 = .ok (.iload_n 3, 1) := dq_29 (dq_suf 0 dt06cX9_goOn_4 rfl rfl)
theorem dX9_goOn_65 : decode cX9_goOn 65 = .ok (.iload_n 2, 1) := dq_28 (dq_suf 1 dt06cX9_goOn_4 rfl rfl)
theorem dX9_goOn_66 : decode cX9_goOn 66 = .ok (.invokevirtual 62, 3) := dq_182 (dq_suf 2 dt06cX9_goOn_4 rfl rfl) rfl
theorem dX9_goOn_69 : decode cX9_goOn 69 = .ok (.return_, 1) := dq_177 (dq_suf 5 dt06cX9_goOn_4 rfl rfl)
noncomputable def ds06cX9_writeAtom_2 : List UInt8 := 42 :: 16 :: 33 :: 182 :: 0 :: 65 :: 42 :: 16 :: 97 :: 28 :: 96 :: 182 :: 0 :: 65 :: 177 :: []
noncomputable def ds06cX9_writeAtom_1 : List UInt8 := 0 :: 12 :: 42 :: 16 :: 70 :: 182 :: 0 :: 65 :: 167 :: 0 :: 22 :: 27 :: 6 :: 160 :: 0 :: 9 :: ds06cX9_writeAtom_2
noncomputable def ds06cX9_writeAtom_0 : List UInt8 := 27 :: 154 :: 0 :: 12 :: 42 :: 16 :: 84 :: 182 :: 0 :: 65 :: 167 :: 0 :: 36 :: 27 :: 4 :: 160 :: ds06cX9_writeAtom_1
theorem dt06cX9_writeAtom_0 : cX9_writeAtom.data.toList.drop 0 = ds06cX9_writeAtom_0 := by decide +kernel
theorem dt06cX9_writeAtom_1 : cX9_writeAtom.data.toList.drop 16 = ds06cX9_writeAtom_1 := dq_suf 16 dt06cX9_writeAtom_0 rfl rfl
theorem dt06cX9_writeAtom_2 : cX9_writeAtom.data.toList.drop 32 = ds06cX9_writeAtom_2 := dq_suf 16 dt06cX9_writeAtom_1 rfl rfl
theorem dX9_writeAtom_0 : decode cX9_writeAtom 0 = .ok (.iload_n 1, 1) := dq_27 (dq_suf 0 dt06cX9_writeAtom_0 rfl rfl)
theorem dX9_writeAtom_1 : decode cX9_writeAtom 1 = .ok (.ifCond .ne 12, 3) := dq_154 (dq_suf 1 dt06cX9_writeAtom_0 rfl rfl) (by decide +kernel)
theorem dX9_writeAtom_4 : decode cX9_writeAtom 4 = .ok (.aload_n 0, 1) := dq_42 (dq_suf 4 dt06cX9_writeAtom_0 rfl rfl)
theorem dX9_writeAtom_5 : decode cX9_writeAtom 5 = .ok (.bipush 84, 2) := dq_16 (dq_suf 5 dt06cX9_writeAtom_0 rfl rfl) (by decide +kernel)
theorem dX9_writeAtom_7 : decode cX9_writeAtom 7 = .ok (.invokevirtual 65, 3) := dq_182 (dq_suf 7 dt06cX9_writeAtom_0 rfl rfl) rfl
theorem dX9_writeAtom_10 : decode cX9_writeAtom 10 = .ok (.goto 36, 3) := dq_167 (dq_suf 10 dt06cX9_writeAtom_0 rfl rfl) (by decide +kernel)
theorem dX9_writeAtom_13 : decode cX9_writeAtom 13 = .ok (.iload_n 1, 1) := dq_27 (dq_suf 13 dt06cX9_writeAtom_0 rfl rfl)
theorem dX9_writeAtom_14 : decode cX9_writeAtom 14 = .ok (.iconst 1, 1) := dq_4 (dq_suf 14 dt06cX9_writeAtom_0 rfl rfl)
theorem dX9_writeAtom_15 : decode cX9_writeAtom 15 = .ok (.if_icmp .ne 12, 3) := dq_160 (dq_suf 15 dt06cX9_writeAtom_0 rfl rfl) (by decide +kernel)
theorem dX9_writeAtom_18 : decode cX9_writeAtom 18 = .ok (.aload_n 0, 1) := dq_42 (dq_suf 2 dt06cX9_writeAtom_1 rfl rfl)
theorem dX9_writeAtom_19 : decode cX9_writeAtom 19 = .ok (.bipush 70, 2) := dq_16 (dq_suf 3 dt06cX9_writeAtom_1 rfl rfl) (by decide +kernel)
theorem dX9_writeAtom_21 : decode cX9_writeAtom 21 = .ok (.invokevirtual 65, 3) := dq_182 (dq_suf 5 dt06cX9_writeAtom_1 rfl rfl) rfl
theorem dX9_writeAtom_24 : decode cX9_writeAtom 24 = .ok (.goto 22, 3) := dq_167 (dq_suf 8 dt06cX9_writeAtom_1 rfl rfl) (by decide +kernel)
theorem dX9_writeAtom_27 : decode cX9_writeAtom 27 = .ok (.iload_n 1, 1) := dq_27 (dq_suf 11 dt06cX9_writeAtom_1 rfl rfl)
theorem dX9_writeAtom_28 : decode cX9_writeAtom 28 = .ok (.iconst 3, 1) := dq_6 (dq_suf 12 dt06cX9_writeAtom_1 rfl rfl)
theorem dX9_writeAtom_29 : decode cX9_writeAtom 29 = .ok (.if_icmp .ne 9, 3) := dq_160 (dq_suf 13 dt06cX9_writeAtom_1 rfl rfl) (by decide +kernel)
theorem dX9_writeAtom_32 : decode cX9_writeAtom 32 = .ok (.aload_n 0, 1) := dq_42 (dq_suf 0 dt06cX9_writeAtom_2 rfl rfl)
theorem dX9_writeAtom_33 : decode cX9_writeAtom 33 = .ok (.bipush 33, 2) := dq_16 (dq_suf 1 dt06cX9_writeAtom_2 rfl rfl) (by decide +kernel)
theorem dX9_writeAtom_35 : decode cX9_writeAtom 35 = .ok (.invokevirtual 65, 3) := dq_182 (dq_suf 3 dt06cX9_writeAtom_2 rfl rfl) rfl
theorem dX9_writeAtom_38 : decode cX9_writeAtom 38 = .ok (.aload_n 0, 1) := dq_42 (dq_suf 6 dt06cX9_writeAtom_2 rfl rfl)
theorem dX9_writeAtom_39 : decode cX9_writeAtom 39 = .ok (.bipush 97, 2) := dq_16 (dq_suf 7 dt06cX9_writeAtom_2 rfl rfl) (by decide +kernel)
theorem dX9_writeAtom_41 : decode cX9_writeAtom 41 = .ok (.iload_n 2, 1) := dq_28 (dq_suf 9 dt06cX9_writeAtom_2 rfl rfl)
theorem dX9_writeAtom_42 : decode cX9_writeAtom 42 = .ok (.iadd, 1) := dq_96 (dq_suf 10 dt06cX9_writeAtom_2 rfl rfl)
theorem dX9_writeAtom_43 : decode cX9_writeAtom 43 = .ok (.invokevirtual 65, 3) := dq_182 (dq_suf 11 dt06cX9_writeAtom_2 rfl rfl) rfl
theorem dX9_writeAtom_46 : decode cX9_writeAtom 46 = .ok (.return_, 1) := dq_177 (dq_suf 14 dt06cX9_writeAtom_2 rfl rfl)
noncomputable def ds06cX9_goOnWithOne_3 : List UInt8 := 0 :: 33 :: 167 :: 0 :: 13 :: 42 :: 89 :: 180 :: 0 :: 29 :: 4 :: 100 :: 181 :: 0 :: 29 :: 177 :: []
noncomputable def ds06cX9_goOnWithOne_2 : List UInt8 := 5 :: 16 :: 62 :: 182 :: 0 :: 65 :: 42 :: 42 :: 180 :: 0 :: 19 :: 27 :: 182 :: 0 :: 52 :: 182 :: ds06cX9_goOnWithOne_3
noncomputable def ds06cX9_goOnWithOne_1 : List UInt8 := 16 :: 60 :: 182 :: 0 :: 65 :: 42 :: 28 :: 16 :: 6 :: 160 :: 0 :: 8 :: 16 :: 93 :: 167 :: 0 :: ds06cX9_goOnWithOne_2
noncomputable def ds06cX9_goOnWithOne_0 : List UInt8 := 29 :: 154 :: 0 :: 52 :: 42 :: 28 :: 16 :: 6 :: 160 :: 0 :: 8 :: 16 :: 91 :: 167 :: 0 :: 5 :: ds06cX9_goOnWithOne_1
theorem dt06cX9_goOnWithOne_0 : cX9_goOnWithOne.data.toList.drop 0 = ds06cX9_goOnWithOne_0 := by decide +kernel
theorem dt06cX9_goOnWithOne_1 : cX9_goOnWithOne.data.toList.drop 16 = ds06cX9_goOnWithOne_1 := dq_suf 16 dt06cX9_goOnWithOne_0 rfl rfl
theorem dt06cX9_goOnWithOne_2 : cX9_goOnWithOne.data.toList.drop 32 = ds06cX9_goOnWithOne_2 := dq_suf 16 dt06cX9_goOnWithOne_1 rfl rfl
theorem dt06cX9_goOnWithOne_3 : cX9_goOnWithOne.data.toList.drop 48 = ds06cX9_goOnWithOne_3 := dq_suf 16 dt06cX9_goOnWithOne_2 rfl rfl
theorem dX9_goOnWithOne_0 : decode cX9_goOnWithOne 0 = .ok (.iload_n 3, 1) := dq_29 (dq_suf 0 dt06cX9_goOnWithOne_0 rfl rfl)
theorem dX9_goOnWithOne_1 : decode cX9_goOnWithOne 1 = .ok (.ifCond .ne 52, 3) := dq_154 (dq_suf 1 dt06cX9_goOnWithOne_0 rfl rfl) (by decide +kernel)
theorem dX9_goOnWithOne_4 : decode cX9_goOnWithOne 4 = .ok (.aload_n 0, 1) := dq_42 (dq_suf 4 dt06cX9_goOnWithOne_0 rfl rfl)
theorem dX9_goOnWithOne_5 : decode cX9_goOnWithOne 5 = .ok (.iload_n 2, 1) := dq_28 (dq_suf 5 dt06cX9_goOnWithOne_0 rfl rfl)
theorem dX9_goOnWithOne_6 : decode cX9_goOnWithOne 6 = .ok (.bipush 6, 2) := dq_16 (dq_suf 6 dt06cX9_goOnWithOne_0 rfl rfl) (by decide +kernel)
theorem dX9_goOnWithOne_8 : decode cX9_goOnWithOne 8 = .ok (.if_icmp .ne 8, 3) := dq_160 (dq_suf 8 dt06cX9_goOnWithOne_0 rfl rfl) (by decide +kernel)
theorem dX9_goOnWithOne_11 : decode cX9_goOnWithOne 11 = .ok (.bipush 91, 2) := dq_16 (dq_suf 11 dt06cX9_goOnWithOne_0 rfl rfl) (by decide +kernel)
theorem dX9_goOnWithOne_13 : decode cX9_goOnWithOne 13 = .ok (.goto 5, 3) := dq_167 (dq_suf 13 dt06cX9_goOnWithOne_0 rfl rfl) (by decide +kernel)
theorem dX9_goOnWithOne_16 : decode cX9_goOnWithOne 16 = .ok (.bipush 60, 2) := dq_16 (dq_suf 0 dt06cX9_goOnWithOne_1 rfl rfl) (by decide +kernel)
theorem dX9_goOnWithOne_18 : decode cX9_goOnWithOne 18 = .ok (.invokevirtual 65, 3) := dq_182 (dq_suf 2 dt06cX9_goOnWithOne_1 rfl rfl) rfl
theorem dX9_goOnWithOne_21 : decode cX9_goOnWithOne 21 = .ok (.aload_n 0, 1) := dq_42 (dq_suf 5 dt06cX9_goOnWithOne_1 rfl rfl)
theorem dX9_goOnWithOne_22 : decode cX9_goOnWithOne 22 = .ok (.iload_n 2, 1) := dq_28 (dq_suf 6 dt06cX9_goOnWithOne_1 rfl rfl)
theorem dX9_goOnWithOne_23 : decode cX9_goOnWithOne 23 = .ok (.bipush 6, 2) := dq_16 (dq_suf 7 dt06cX9_goOnWithOne_1 rfl rfl) (by decide +kernel)
theorem dX9_goOnWithOne_25 : decode cX9_goOnWithOne 25 = .ok (.if_icmp .ne 8, 3) := dq_160 (dq_suf 9 dt06cX9_goOnWithOne_1 rfl rfl) (by decide +kernel)
theorem dX9_goOnWithOne_28 : decode cX9_goOnWithOne 28 = .ok (.bipush 93, 2) := dq_16 (dq_suf 12 dt06cX9_goOnWithOne_1 rfl rfl) (by decide +kernel)
theorem dX9_goOnWithOne_30 : decode cX9_goOnWithOne 30 = .ok (.goto 5, 3) := dq_167 (dq_suf 14 dt06cX9_goOnWithOne_1 rfl rfl) (by decide +kernel)
theorem dX9_goOnWithOne_33 : decode cX9_goOnWithOne 33 = .ok (.bipush 62, 2) := dq_16 (dq_suf 1 dt06cX9_goOnWithOne_2 rfl rfl) (by decide +kernel)
theorem dX9_goOnWithOne_35 : decode cX9_goOnWithOne 35 = .ok (.invokevirtual 65, 3) := dq_182 (dq_suf 3 dt06cX9_goOnWithOne_2 rfl rfl) rfl
theorem dX9_goOnWithOne_38 : decode cX9_goOnWithOne 38 = .ok (.aload_n 0, 1) := dq_42 (dq_suf 6 dt06cX9_goOnWithOne_2 rfl rfl)
theorem dX9_goOnWithOne_39 : decode cX9_goOnWithOne 39 = .ok (.aload_n 0, 1) := dq_42 (dq_suf 7 dt06cX9_goOnWithOne_2 rfl rfl)
theorem dX9_goOnWithOne_40 : decode cX9_goOnWithOne 40 = .ok (.getfield 19, 3) := dq_180 (dq_suf 8 dt06cX9_goOnWithOne_2 rfl rfl) rfl
theorem dX9_goOnWithOne_43 : decode cX9_goOnWithOne 43 = .ok (.iload_n 1, 1) := dq_27 (dq_suf 11 dt06cX9_goOnWithOne_2 rfl rfl)
theorem dX9_goOnWithOne_44 : decode cX9_goOnWithOne 44 = .ok (.invokevirtual 52, 3) := dq_182 (dq_suf 12 dt06cX9_goOnWithOne_2 rfl rfl) rfl
theorem dX9_goOnWithOne_47 : decode cX9_goOnWithOne 47 = .ok (.invokevirtual 33, 3) := dq_182 (dq_suf 15 dt06cX9_goOnWithOne_2 rfl rfl) rfl
theorem dX9_goOnWithOne_50 : decode cX9_goOnWithOne 50 = .ok (.goto 13, 3) := dq_167 (dq_suf 2 dt06cX9_goOnWithOne_3 rfl rfl) (by decide +kernel)
theorem dX9_goOnWithOne_53 : decode cX9_goOnWithOne 53 = .ok (.aload_n 0, 1) := dq_42 (dq_suf 5 dt06cX9_goOnWithOne_3 rfl rfl)
theorem dX9_goOnWithOne_54 : decode cX9_goOnWithOne 54 = .ok (.dup, 1) := dq_89 (dq_suf 6 dt06cX9_goOnWithOne_3 rfl rfl)
theorem dX9_goOnWithOne_55 : decode cX9_goOnWithOne 55 = .ok (.getfield 29, 3) := dq_180 (dq_suf 7 dt06cX9_goOnWithOne_3 rfl rfl) rfl
theorem dX9_goOnWithOne_58 : decode cX9_goOnWithOne 58 = .ok (.iconst 1, 1) := dq_4 (dq_suf 10 dt06cX9_goOnWithOne_3 rfl rfl)
theorem dX9_goOnWithOne_59 : decode cX9_goOnWithOne 59 = .ok (.isub, 1) := dq_100 (dq_suf 11 dt06cX9_goOnWithOne_3 rfl rfl)
theorem dX9_goOnWithOne_60 : decode cX9_goOnWithOne 60 = .ok (.putfield 29, 3) := dq_181 (dq_suf 12 dt06cX9_goOnWithOne_3 rfl rfl) rfl
theorem dX9_goOnWithOne_63 : decode cX9_goOnWithOne 63 = .ok (.return_, 1) := dq_177 (dq_suf 15 dt06cX9_goOnWithOne_3 rfl rfl)
noncomputable def ds06cX9_goOnWithTwo_4 : List UInt8 := 182 :: 0 :: 65 :: 42 :: 89 :: 180 :: 0 :: 29 :: 4 :: 100 :: 181 :: 0 :: 29 :: 177 :: []
noncomputable def ds06cX9_goOnWithTwo_3 : List UInt8 := 180 :: 0 :: 19 :: 27 :: 182 :: 0 :: 68 :: 182 :: 0 :: 33 :: 167 :: 0 :: 19 :: 42 :: 16 :: 41 :: ds06cX9_goOnWithTwo_4
noncomputable def ds06cX9_goOnWithTwo_2 : List UInt8 := 7 :: 160 :: 0 :: 8 :: 16 :: 38 :: 167 :: 0 :: 5 :: 16 :: 124 :: 182 :: 0 :: 65 :: 42 :: 42 :: ds06cX9_goOnWithTwo_3
noncomputable def ds06cX9_goOnWithTwo_1 : List UInt8 := 182 :: 0 :: 52 :: 182 :: 0 :: 33 :: 167 :: 0 :: 55 :: 29 :: 4 :: 160 :: 0 :: 34 :: 42 :: 28 :: ds06cX9_goOnWithTwo_2
noncomputable def ds06cX9_goOnWithTwo_0 : List UInt8 := 29 :: 154 :: 0 :: 24 :: 42 :: 16 :: 40 :: 182 :: 0 :: 65 :: 42 :: 42 :: 180 :: 0 :: 19 :: 27 :: ds06cX9_goOnWithTwo_1
theorem dt06cX9_goOnWithTwo_0 : cX9_goOnWithTwo.data.toList.drop 0 = ds06cX9_goOnWithTwo_0 := by decide +kernel
theorem dt06cX9_goOnWithTwo_1 : cX9_goOnWithTwo.data.toList.drop 16 = ds06cX9_goOnWithTwo_1 := dq_suf 16 dt06cX9_goOnWithTwo_0 rfl rfl
theorem dt06cX9_goOnWithTwo_2 : cX9_goOnWithTwo.data.toList.drop 32 = ds06cX9_goOnWithTwo_2 := dq_suf 16 dt06cX9_goOnWithTwo_1 rfl rfl
theorem dt06cX9_goOnWithTwo_3 : cX9_goOnWithTwo.data.toList.drop 48 = ds06cX9_goOnWithTwo_3 := dq_suf 16 dt06cX9_goOnWithTwo_2 rfl rfl
theorem dt06cX9_goOnWithTwo_4 : cX9_goOnWithTwo.data.toList.drop 64 = ds06cX9_goOnWithTwo_4 := dq_suf 16 dt06cX9_goOnWithTwo_3 rfl rfl
theorem dX9_goOnWithTwo_0 : decode cX9_goOnWithTwo 0 = .ok (.iload_n 3, 1) := dq_29 (dq_suf 0 dt06cX9_goOnWithTwo_0 rfl rfl)
theorem dX9_goOnWithTwo_1 : decode cX9_goOnWithTwo 1 = .ok (.ifCond .ne 24, 3) := dq_154 (dq_suf 1 dt06cX9_goOnWithTwo_0 rfl rfl) (by decide +kernel)
theorem dX9_goOnWithTwo_4 : decode cX9_goOnWithTwo 4 = .ok (.aload_n 0, 1) := dq_42 (dq_suf 4 dt06cX9_goOnWithTwo_0 rfl rfl)
theorem dX9_goOnWithTwo_5 : decode cX9_goOnWithTwo 5 = .ok (.bipush 40, 2) := dq_16 (dq_suf 5 dt06cX9_goOnWithTwo_0 rfl rfl) (by decide +kernel)
theorem dX9_goOnWithTwo_7 : decode cX9_goOnWithTwo 7 = .ok (.invokevirtual 65, 3) := dq_182 (dq_suf 7 dt06cX9_goOnWithTwo_0 rfl rfl) rfl
theorem dX9_goOnWithTwo_10 : decode cX9_goOnWithTwo 10 = .ok (.aload_n 0, 1) := dq_42 (dq_suf 10 dt06cX9_goOnWithTwo_0 rfl rfl)
theorem dX9_goOnWithTwo_11 : decode cX9_goOnWithTwo 11 = .ok (.aload_n 0, 1) := dq_42 (dq_suf 11 dt06cX9_goOnWithTwo_0 rfl rfl)
theorem dX9_goOnWithTwo_12 : decode cX9_goOnWithTwo 12 = .ok (.getfield 19, 3) := dq_180 (dq_suf 12 dt06cX9_goOnWithTwo_0 rfl rfl) rfl
theorem dX9_goOnWithTwo_15 : decode cX9_goOnWithTwo 15 = .ok (.iload_n 1, 1) := dq_27 (dq_suf 15 dt06cX9_goOnWithTwo_0 rfl rfl)
theorem dX9_goOnWithTwo_16 : decode cX9_goOnWithTwo 16 = .ok (.invokevirtual 52, 3) := dq_182 (dq_suf 0 dt06cX9_goOnWithTwo_1 rfl rfl) rfl
theorem dX9_goOnWithTwo_19 : decode cX9_goOnWithTwo 19 = .ok (.invokevirtual 33, 3) := dq_182 (dq_suf 3 dt06cX9_goOnWithTwo_1 rfl rfl) rfl
theorem dX9_goOnWithTwo_22 : decode cX9_goOnWithTwo 22 = .ok (.goto 55, 3) := dq_167 (dq_suf 6 dt06cX9_goOnWithTwo_1 rfl rfl) (by decide +kernel)
theorem dX9_goOnWithTwo_25 : decode cX9_goOnWithTwo 25 = .ok (.iload_n 3, 1) := dq_29 (dq_suf 9 dt06cX9_goOnWithTwo_1 rfl rfl)
theorem dX9_goOnWithTwo_26 : decode cX9_goOnWithTwo 26 = .ok (.iconst 1, 1) := dq_4 (dq_suf 10 dt06cX9_goOnWithTwo_1 rfl rfl)
theorem dX9_goOnWithTwo_27 : decode cX9_goOnWithTwo 27 = .ok (.if_icmp .ne 34, 3) := dq_160 (dq_suf 11 dt06cX9_goOnWithTwo_1 rfl rfl) (by decide +kernel)
theorem dX9_goOnWithTwo_30 : decode cX9_goOnWithTwo 30 = .ok (.aload_n 0, 1) := dq_42 (dq_suf 14 dt06cX9_goOnWithTwo_1 rfl rfl)
theorem dX9_goOnWithTwo_31 : decode cX9_goOnWithTwo 31 = .ok (.iload_n 2, 1) := dq_28 (dq_suf 15 dt06cX9_goOnWithTwo_1 rfl rfl)
theorem dX9_goOnWithTwo_32 : decode cX9_goOnWithTwo 32 = .ok (.iconst 4, 1) := dq_7 (dq_suf 0 dt06cX9_goOnWithTwo_2 rfl rfl)
theorem dX9_goOnWithTwo_33 : decode cX9_goOnWithTwo 33 = .ok (.if_icmp .ne 8, 3) := dq_160 (dq_suf 1 dt06cX9_goOnWithTwo_2 rfl rfl) (by decide +kernel)
theorem dX9_goOnWithTwo_36 : decode cX9_goOnWithTwo 36 = .ok (.bipush 38, 2) := dq_16 (dq_suf 4 dt06cX9_goOnWithTwo_2 rfl rfl) (by decide +kernel)
theorem dX9_goOnWithTwo_38 : decode cX9_goOnWithTwo 38 = .ok (.goto 5, 3) := dq_167 (dq_suf 6 dt06cX9_goOnWithTwo_2 rfl rfl) (by decide +kernel)
theorem dX9_goOnWithTwo_41 : decode cX9_goOnWithTwo 41 = .ok (.bipush 124, 2) := dq_16 (dq_suf 9 dt06cX9_goOnWithTwo_2 rfl rfl) (by decide +kernel)
theorem dX9_goOnWithTwo_43 : decode cX9_goOnWithTwo 43 = .ok (.invokevirtual 65, 3) := dq_182 (dq_suf 11 dt06cX9_goOnWithTwo_2 rfl rfl) rfl
theorem dX9_goOnWithTwo_46 : decode cX9_goOnWithTwo 46 = .ok (.aload_n 0, 1) := dq_42 (dq_suf 14 dt06cX9_goOnWithTwo_2 rfl rfl)
theorem dX9_goOnWithTwo_47 : decode cX9_goOnWithTwo 47 = .ok (.aload_n 0, 1) := dq_42 (dq_suf 15 dt06cX9_goOnWithTwo_2 rfl rfl)
theorem dX9_goOnWithTwo_48 : decode cX9_goOnWithTwo 48 = .ok (.getfield 19, 3) := dq_180 (dq_suf 0 dt06cX9_goOnWithTwo_3 rfl rfl) rfl
theorem dX9_goOnWithTwo_51 : decode cX9_goOnWithTwo 51 = .ok (.iload_n 1, 1) := dq_27 (dq_suf 3 dt06cX9_goOnWithTwo_3 rfl rfl)
theorem dX9_goOnWithTwo_52 : decode cX9_goOnWithTwo 52 = .ok (.invokevirtual 68, 3) := dq_182 (dq_suf 4 dt06cX9_goOnWithTwo_3 rfl rfl) rfl
theorem dX9_goOnWithTwo_55 : decode cX9_goOnWithTwo 55 = .ok (.invokevirtual 33, 3) := dq_182 (dq_suf 7 dt06cX9_goOnWithTwo_3 rfl rfl) rfl
theorem dX9_goOnWithTwo_58 : decode cX9_goOnWithTwo 58 = .ok (.goto 19, 3) := dq_167 (dq_suf 10 dt06cX9_goOnWithTwo_3 rfl rfl) (by decide +kernel)
theorem dX9_goOnWithTwo_61 : decode cX9_goOnWithTwo 61 = .ok (.aload_n 0, 1) := dq_42 (dq_suf 13 dt06cX9_goOnWithTwo_3 rfl rfl)
theorem dX9_goOnWithTwo_62 : decode cX9_goOnWithTwo 62 = .ok (.bipush 41, 2) := dq_16 (dq_suf 14 dt06cX9_goOnWithTwo_3 rfl rfl) (by decide +kernel)
theorem dX9_goOnWithTwo_64 : decode cX9_goOnWithTwo 64 = .ok (.invokevirtual 65, 3) := dq_182 (dq_suf 0 dt06cX9_goOnWithTwo_4 rfl rfl) rfl
theorem dX9_goOnWithTwo_67 : decode cX9_goOnWithTwo 67 = .ok (.aload_n 0, 1) := dq_42 (dq_suf 3 dt06cX9_goOnWithTwo_4 rfl rfl)
theorem dX9_goOnWithTwo_68 : decode cX9_goOnWithTwo 68 = .ok (.dup, 1) := dq_89 (dq_suf 4 dt06cX9_goOnWithTwo_4 rfl rfl)
theorem dX9_goOnWithTwo_69 : decode cX9_goOnWithTwo 69 = .ok (.getfield 29, 3) := dq_180 (dq_suf 5 dt06cX9_goOnWithTwo_4 rfl rfl) rfl
theorem dX9_goOnWithTwo_72 : decode cX9_goOnWithTwo 72 = .ok (.iconst 1, 1) := dq_4 (dq_suf 8 dt06cX9_goOnWithTwo_4 rfl rfl)
theorem dX9_goOnWithTwo_73 : decode cX9_goOnWithTwo 73 = .ok (.isub, 1) := dq_100 (dq_suf 9 dt06cX9_goOnWithTwo_4 rfl rfl)
theorem dX9_goOnWithTwo_74 : decode cX9_goOnWithTwo 74 = .ok (.putfield 29, 3) := dq_181 (dq_suf 10 dt06cX9_goOnWithTwo_4 rfl rfl) rfl
theorem dX9_goOnWithTwo_77 : decode cX9_goOnWithTwo 77 = .ok (.return_, 1) := dq_177 (dq_suf 13 dt06cX9_goOnWithTwo_4 rfl rfl)
noncomputable def ds06cX9_emit_1 : List UInt8 := 15 :: 27 :: 182 :: 0 :: 71 :: 177 :: []
noncomputable def ds06cX9_emit_0 : List UInt8 := 42 :: 180 :: 0 :: 15 :: 182 :: 0 :: 38 :: 17 :: 1 :: 144 :: 162 :: 0 :: 11 :: 42 :: 180 :: 0 :: ds06cX9_emit_1
theorem dt06cX9_emit_0 : cX9_emit.data.toList.drop 0 = ds06cX9_emit_0 := by decide +kernel
theorem dt06cX9_emit_1 : cX9_emit.data.toList.drop 16 = ds06cX9_emit_1 := dq_suf 16 dt06cX9_emit_0 rfl rfl
theorem dX9_emit_0 : decode cX9_emit 0 = .ok (.aload_n 0, 1) := dq_42 (dq_suf 0 dt06cX9_emit_0 rfl rfl)
theorem dX9_emit_1 : decode cX9_emit 1 = .ok (.getfield 15, 3) := dq_180 (dq_suf 1 dt06cX9_emit_0 rfl rfl) rfl
theorem dX9_emit_4 : decode cX9_emit 4 = .ok (.invokevirtual 38, 3) := dq_182 (dq_suf 4 dt06cX9_emit_0 rfl rfl) rfl
theorem dX9_emit_7 : decode cX9_emit 7 = .ok (.sipush 400, 3) := dq_17 (dq_suf 7 dt06cX9_emit_0 rfl rfl) (by decide +kernel)
theorem dX9_emit_10 : decode cX9_emit 10 = .ok (.if_icmp .ge 11, 3) := dq_162 (dq_suf 10 dt06cX9_emit_0 rfl rfl) (by decide +kernel)
theorem dX9_emit_13 : decode cX9_emit 13 = .ok (.aload_n 0, 1) := dq_42 (dq_suf 13 dt06cX9_emit_0 rfl rfl)
theorem dX9_emit_14 : decode cX9_emit 14 = .ok (.getfield 15, 3) := dq_180 (dq_suf 14 dt06cX9_emit_0 rfl rfl) rfl
theorem dX9_emit_17 : decode cX9_emit 17 = .ok (.iload_n 1, 1) := dq_27 (dq_suf 1 dt06cX9_emit_1 rfl rfl)
theorem dX9_emit_18 : decode cX9_emit 18 = .ok (.invokevirtual 71, 3) := dq_182 (dq_suf 2 dt06cX9_emit_1 rfl rfl) rfl
theorem dX9_emit_21 : decode cX9_emit 21 = .ok (.return_, 1) := dq_177 (dq_suf 5 dt06cX9_emit_1 rfl rfl)
