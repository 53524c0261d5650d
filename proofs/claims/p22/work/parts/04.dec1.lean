noncomputable def ds04cX0_init_0 : List UInt8 := 42 :: 183 :: 0 :: 3 :: 42 :: 17 :: 3 :: 232 :: 188 :: 10 :: 181 :: 0 :: 9 :: 177 :: []
theorem dt04cX0_init_0 : cX0_init.data.toList.drop 0 = ds04cX0_init_0 := by decide +kernel
theorem dX0_init_0 : decode cX0_init 0 = .ok (.aload_n 0, 1) := dq_42 (dq_suf 0 dt04cX0_init_0 rfl rfl)
theorem dX0_init_1 : decode cX0_init 1 = .ok (.invokespecial 3, 3) := dq_183 (dq_suf 1 dt04cX0_init_0 rfl rfl) rfl
theorem dX0_init_4 : decode cX0_init 4 = .ok (.aload_n 0, 1) := dq_42 (dq_suf 4 dt04cX0_init_0 rfl rfl)
theorem dX0_init_5 : decode cX0_init 5 = .ok (.sipush 1000, 3) := dq_17 (dq_suf 5 dt04cX0_init_0 rfl rfl) (by decide +kernel)
theorem dX0_init_8 : decode cX0_init 8 = .ok (.newarray .int, 2) := by decide +kernel
theorem dX0_init_10 : decode cX0_init 10 = .ok (.putfield 9, 3) := dq_181 (dq_suf 10 dt04cX0_init_0 rfl rfl) rfl
theorem dX0_init_13 : decode cX0_init 13 = .ok (.return_, 1) := dq_177 (dq_suf 13 dt04cX0_init_0 rfl rfl)
noncomputable def ds04cX0_size_0 : List UInt8 := 42 :: 180 :: 0 :: 15 :: 172 :: []
theorem dt04cX0_size_0 : cX0_size.data.toList.drop 0 = ds04cX0_size_0 := by decide +kernel
theorem dX0_size_0 : decode cX0_size 0 = .ok (.aload_n 0, 1) := dq_42 (dq_suf 0 dt04cX0_size_0 rfl rfl)
theorem dX0_size_1 : decode cX0_size 1 = .ok (.getfield 15, 3) := dq_180 (dq_suf 1 dt04cX0_size_0 rfl rfl) rfl
theorem dX0_size_4 : decode cX0_size 4 = .ok (.ireturn, 1) := dq_172 (dq_suf 4 dt04cX0_size_0 rfl rfl)
noncomputable def ds04cX0_at_2 : List UInt8 := 17 :: 0 :: 255 :: 126 :: 172 :: []
noncomputable def ds04cX0_at_1 : List UInt8 := 0 :: 9 :: 27 :: 5 :: 122 :: 46 :: 16 :: 24 :: 16 :: 8 :: 27 :: 6 :: 126 :: 104 :: 100 :: 124 :: ds04cX0_at_2
noncomputable def ds04cX0_at_0 : List UInt8 := 27 :: 155 :: 0 :: 11 :: 27 :: 42 :: 180 :: 0 :: 15 :: 161 :: 0 :: 5 :: 2 :: 172 :: 42 :: 180 :: ds04cX0_at_1
theorem dt04cX0_at_0 : cX0_at.data.toList.drop 0 = ds04cX0_at_0 := by decide +kernel
theorem dt04cX0_at_1 : cX0_at.data.toList.drop 16 = ds04cX0_at_1 := dq_suf 16 dt04cX0_at_0 rfl rfl
theorem dt04cX0_at_2 : cX0_at.data.toList.drop 32 = ds04cX0_at_2 := dq_suf 16 dt04cX0_at_1 rfl rfl
theorem dX0_at_0 : decode cX0_at 0 = .ok (.iload_n 1, 1) := dq_27 (dq_suf 0 dt04cX0_at_0 rfl rfl)
theorem dX0_at_1 : decode cX0_at 1 = .ok (.ifCond .lt 11, 3) := dq_155 (dq_suf 1 dt04cX0_at_0 rfl rfl) (by decide +kernel)
theorem dX0_at_4 : decode cX0_at 4 = .ok (.iload_n 1, 1) := dq_27 (dq_suf 4 dt04cX0_at_0 rfl rfl)
theorem dX0_at_5 : decode cX0_at 5 = .ok (.aload_n 0, 1) := dq_42 (dq_suf 5 dt04cX0_at_0 rfl rfl)
theorem dX0_at_6 : decode cX0_at 6 = .ok (.getfield 15, 3) := dq_180 (dq_suf 6 dt04cX0_at_0 rfl rfl) rfl
theorem dX0_at_9 : decode cX0_at 9 = .ok (.if_icmp .lt 5, 3) := dq_161 (dq_suf 9 dt04cX0_at_0 rfl rfl) (by decide +kernel)
theorem dX0_at_12 : decode cX0_at 12 = .ok (.iconst (-1), 1) := dq_2 (dq_suf 12 dt04cX0_at_0 rfl rfl)
theorem dX0_at_13 : decode cX0_at 13 = .ok (.ireturn, 1) := dq_172 (dq_suf 13 dt04cX0_at_0 rfl rfl)
theorem dX0_at_14 : decode cX0_at 14 = .ok (.aload_n 0, 1) := dq_42 (dq_suf 14 dt04cX0_at_0 rfl rfl)
theorem dX0_at_15 : decode cX0_at 15 = .ok (.getfield 9, 3) := dq_180 (dq_suf 15 dt04cX0_at_0 rfl rfl) rfl
theorem dX0_at_18 : decode cX0_at 18 = .ok (.iload_n 1, 1) := dq_27 (dq_suf 2 dt04cX0_at_1 rfl rfl)
theorem dX0_at_19 : decode cX0_at 19 = .ok (.iconst 2, 1) := dq_5 (dq_suf 3 dt04cX0_at_1 rfl rfl)
theorem dX0_at_20 : decode cX0_at 20 = .ok (.ishr, 1) := dq_122 (dq_suf 4 dt04cX0_at_1 rfl rfl)
theorem dX0_at_21 : decode cX0_at 21 = .ok (.iaload, 1) := dq_46 (dq_suf 5 dt04cX0_at_1 rfl rfl)
theorem dX0_at_22 : decode cX0_at 22 = .ok (.bipush 24, 2) := dq_16 (dq_suf 6 dt04cX0_at_1 rfl rfl) (by decide +kernel)
theorem dX0_at_24 : decode cX0_at 24 = .ok (.bipush 8, 2) := dq_16 (dq_suf 8 dt04cX0_at_1 rfl rfl) (by decide +kernel)
theorem dX0_at_26 : decode cX0_at 26 = .ok (.iload_n 1, 1) := dq_27 (dq_suf 10 dt04cX0_at_1 rfl rfl)
theorem dX0_at_27 : decode cX0_at 27 = .ok (.iconst 3, 1) := dq_6 (dq_suf 11 dt04cX0_at_1 rfl rfl)
theorem dX0_at_28 : decode cX0_at 28 = .ok (.iand, 1) := dq_126 (dq_suf 12 dt04cX0_at_1 rfl rfl)
theorem dX0_at_29 : decode cX0_at 29 = .ok (.imul, 1) := dq_104 (dq_suf 13 dt04cX0_at_1 rfl rfl)
theorem dX0_at_30 : decode cX0_at 30 = .ok (.isub, 1) := dq_100 (dq_suf 14 dt04cX0_at_1 rfl rfl)
theorem dX0_at_31 : decode cX0_at 31 = .ok (.iushr, 1) := dq_124 (dq_suf 15 dt04cX0_at_1 rfl rfl)
theorem dX0_at_32 : decode cX0_at 32 = .ok (.sipush 255, 3) := dq_17 (dq_suf 0 dt04cX0_at_2 rfl rfl) (by decide +kernel)
theorem dX0_at_35 : decode cX0_at 35 = .ok (.iand, 1) := dq_126 (dq_suf 3 dt04cX0_at_2 rfl rfl)
theorem dX0_at_36 : decode cX0_at 36 = .ok (.ireturn, 1) := dq_172 (dq_suf 4 dt04cX0_at_2 rfl rfl)
noncomputable def ds04cX0_put_3 : List UInt8 := 17 :: 0 :: 255 :: 126 :: 29 :: 120 :: 128 :: 79 :: 4 :: 172 :: []
noncomputable def ds04cX0_put_2 : List UInt8 := 180 :: 0 :: 9 :: 27 :: 5 :: 122 :: 46 :: 17 :: 0 :: 255 :: 29 :: 120 :: 2 :: 130 :: 126 :: 28 :: ds04cX0_put_3
noncomputable def ds04cX0_put_1 : List UInt8 := 16 :: 8 :: 27 :: 6 :: 126 :: 104 :: 100 :: 62 :: 42 :: 180 :: 0 :: 9 :: 27 :: 5 :: 122 :: 42 :: ds04cX0_put_2
noncomputable def ds04cX0_put_0 : List UInt8 := 27 :: 155 :: 0 :: 11 :: 27 :: 42 :: 180 :: 0 :: 15 :: 161 :: 0 :: 5 :: 3 :: 172 :: 16 :: 24 :: ds04cX0_put_1
theorem dt04cX0_put_0 : cX0_put.data.toList.drop 0 = ds04cX0_put_0 := by decide +kernel
theorem dt04cX0_put_1 : cX0_put.data.toList.drop 16 = ds04cX0_put_1 := dq_suf 16 dt04cX0_put_0 rfl rfl
theorem dt04cX0_put_2 : cX0_put.data.toList.drop 32 = ds04cX0_put_2 := dq_suf 16 dt04cX0_put_1 rfl rfl
theorem dt04cX0_put_3 : cX0_put.data.toList.drop 48 = ds04cX0_put_3 := dq_suf 16 dt04cX0_put_2 rfl rfl
theorem dX0_put_0 : decode cX0_put 0 = .ok (.iload_n 1, 1) := dq_27 (dq_suf 0 dt04cX0_put_0 rfl rfl)
theorem dX0_put_1 : decode cX0_put 1 = .ok (.ifCond .lt 11, 3) := dq_155 (dq_suf 1 dt04cX0_put_0 rfl rfl) (by decide +kernel)
theorem dX0_put_4 : decode cX0_put 4 = .ok (.iload_n 1, 1) := dq_27 (dq_suf 4 dt04cX0_put_0 rfl rfl)
theorem dX0_put_5 : decode cX0_put 5 = .ok (.aload_n 0, 1) := dq_42 (dq_suf 5 dt04cX0_put_0 rfl rfl)
theorem dX0_put_6 : decode cX0_put 6 = .ok (.getfield 15, 3) := dq_180 (dq_suf 6 dt04cX0_put_0 rfl rfl) rfl
theorem dX0_put_9 : decode cX0_put 9 = .ok (.if_icmp .lt 5, 3) := dq_161 (dq_suf 9 dt04cX0_put_0 rfl rfl) (by decide +kernel)
theorem dX0_put_12 : decode cX0_put 12 = .ok (.iconst 0, 1) := dq_3 (dq_suf 12 dt04cX0_put_0 rfl rfl)
theorem dX0_put_13 : decode cX0_put 13 = .ok (.ireturn, 1) := dq_172 (dq_suf 13 dt04cX0_put_0 rfl rfl)
theorem dX0_put_14 : decode cX0_put 14 = .ok (.bipush 24, 2) := dq_16 (dq_suf 14 dt04cX0_put_0 rfl rfl) (by decide +kernel)
theorem dX0_put_16 : decode cX0_put 16 = .ok (.bipush 8, 2) := dq_16 (dq_suf 0 dt04cX0_put_1 rfl rfl) (by decide +kernel)
theorem dX0_put_18 : decode cX0_put 18 = .ok (.iload_n 1, 1) := dq_27 (dq_suf 2 dt04cX0_put_1 rfl rfl)
theorem dX0_put_19 : decode cX0_put 19 = .ok (.iconst 3, 1) := dq_6 (dq_suf 3 dt04cX0_put_1 rfl rfl)
theorem dX0_put_20 : decode cX0_put 20 = .ok (.iand, 1) := dq_126 (dq_suf 4 dt04cX0_put_1 rfl rfl)
theorem dX0_put_21 : decode cX0_put 21 = .ok (.imul, 1) := dq_104 (dq_suf 5 dt04cX0_put_1 rfl rfl)
theorem dX0_put_22 : decode cX0_put 22 = .ok (.isub, 1) := dq_100 (dq_suf 6 dt04cX0_put_1 rfl rfl)
theorem dX0_put_23 : decode cX0_put 23 = .ok (.istore_n 3, 1) := dq_62 (dq_suf 7 dt04cX0_put_1 rfl rfl)
theorem dX0_put_24 : decode cX0_put 24 = .ok (.aload_n 0, 1) := dq_42 (dq_suf 8 dt04cX0_put_1 rfl rfl)
theorem dX0_put_25 : decode cX0_put 25 = .ok (.getfield 9, 3) := dq_180 (dq_suf 9 dt04cX0_put_1 rfl rfl) rfl
theorem dX0_put_28 : decode cX0_put 28 = .ok (.iload_n 1, 1) := dq_27 (dq_suf 12 dt04cX0_put_1 rfl rfl)
theorem dX0_put_29 : decode cX0_put 29 = .ok (.iconst 2, 1) := dq_5 (dq_suf 13 dt04cX0_put_1 rfl rfl)
theorem dX0_put_30 : decode cX0_put 30 = .ok (.ishr, 1) := dq_122 (dq_suf 14 dt04cX0_put_1 rfl rfl)
theorem dX0_put_31 : decode cX0_put 31 = .ok (.aload_n 0, 1) := dq_42 (dq_suf 15 dt04cX0_put_1 rfl rfl)
theorem dX0_put_32 : decode cX0_put 32 = .ok (.getfield 9, 3) := dq_180 (dq_suf 0 dt04cX0_put_2 rfl rfl) rfl
theorem dX0_put_35 : decode cX0_put 35 = .ok (.iload_n 1, 1) := dq_27 (dq_suf 3 dt04cX0_put_2 rfl rfl)
theorem dX0_put_36 : decode cX0_put 36 = .ok (.iconst 2, 1) := dq_5 (dq_suf 4 dt04cX0_put_2 rfl rfl)
theorem dX0_put_37 : decode cX0_put 37 = .ok (.ishr, 1) := dq_122 (dq_suf 5 dt04cX0_put_2 rfl rfl)
theorem dX0_put_38 : decode cX0_put 38 = .ok (.iaload, 1) := dq_46 (dq_suf 6 dt04cX0_put_2 rfl rfl)
theorem dX0_put_39 : decode cX0_put 39 = .ok (.sipush 255, 3) := dq_17 (dq_suf 7 dt04cX0_put_2 rfl rfl) (by decide +kernel)
theorem dX0_put_42 : decode cX0_put 42 = .ok (.iload_n 3, 1) := dq_29 (dq_suf 10 dt04cX0_put_2 rfl rfl)
theorem dX0_put_43 : decode cX0_put 43 = .ok (.ishl, 1) := dq_120 (dq_suf 11 dt04cX0_put_2 rfl rfl)
theorem dX0_put_44 : decode cX0_put 44 = .ok (.iconst (-1), 1) := dq_2 (dq_suf 12 dt04cX0_put_2 rfl rfl)
theorem dX0_put_45 : decode cX0_put 45 = .ok (.ixor, 1) := dq_130 (dq_suf 13 dt04cX0_put_2 rfl rfl)
theorem dX0_put_46 : decode cX0_put 46 = .ok (.iand, 1) := dq_126 (dq_suf 14 dt04cX0_put_2 rfl rfl)
theorem dX0_put_47 : decode cX0_put 47 = .ok (.iload_n 2, 1) := dq_28 (dq_suf 15 dt04cX0_put_2 rfl rfl)
theorem dX0_put_48 : decode cX0_put 48 = .ok (.sipush 255, 3) := dq_17 (dq_suf 0 dt04cX0_put_3 rfl rfl) (by decide +kernel)
theorem dX0_put_51 : decode cX0_put 51 = .ok (.iand, 1) := dq_126 (dq_suf 3 dt04cX0_put_3 rfl rfl)
theorem dX0_put_52 : decode cX0_put 52 = .ok (.iload_n 3, 1) := dq_29 (dq_suf 4 dt04cX0_put_3 rfl rfl)
theorem dX0_put_53 : decode cX0_put 53 = .ok (.ishl, 1) := dq_120 (dq_suf 5 dt04cX0_put_3 rfl rfl)
theorem dX0_put_54 : decode cX0_put 54 = .ok (.ior, 1) := dq_128 (dq_suf 6 dt04cX0_put_3 rfl rfl)
theorem dX0_put_55 : decode cX0_put 55 = .ok (.iastore, 1) := dq_79 (dq_suf 7 dt04cX0_put_3 rfl rfl)
theorem dX0_put_56 : decode cX0_put 56 = .ok (.iconst 1, 1) := dq_4 (dq_suf 8 dt04cX0_put_3 rfl rfl)
theorem dX0_put_57 : decode cX0_put 57 = .ok (.ireturn, 1) := dq_172 (dq_suf 9 dt04cX0_put_3 rfl rfl)
noncomputable def ds04cX0_push_2 : List UInt8 := 177 :: []
noncomputable def ds04cX0_push_1 : List UInt8 := 96 :: 181 :: 0 :: 15 :: 42 :: 42 :: 180 :: 0 :: 15 :: 4 :: 100 :: 27 :: 182 :: 0 :: 19 :: 87 :: ds04cX0_push_2
noncomputable def ds04cX0_push_0 : List UInt8 := 42 :: 180 :: 0 :: 15 :: 17 :: 15 :: 160 :: 162 :: 0 :: 25 :: 42 :: 89 :: 180 :: 0 :: 15 :: 4 :: ds04cX0_push_1
theorem dt04cX0_push_0 : cX0_push.data.toList.drop 0 = ds04cX0_push_0 := by decide +kernel
theorem dt04cX0_push_1 : cX0_push.data.toList.drop 16 = ds04cX0_push_1 := dq_suf 16 dt04cX0_push_0 rfl rfl
theorem dt04cX0_push_2 : cX0_push.data.toList.drop 32 = ds04cX0_push_2 := dq_suf 16 dt04cX0_push_1 rfl rfl
theorem dX0_push_0 : decode cX0_push 0 = .ok (.aload_n 0, 1) := dq_42 (dq_suf 0 dt04cX0_push_0 rfl rfl)
theorem dX0_push_1 : decode cX0_push 1 = .ok (.getfield 15, 3) := dq_180 (dq_suf 1 dt04cX0_push_0 rfl rfl) rfl
theorem dX0_push_4 : decode cX0_push 4 = .ok (.sipush 4000, 3) := dq_17 (dq_suf 4 dt04cX0_push_0 rfl rfl) (by decide +kernel)
theorem dX0_push_7 : decode cX0_push 7 = .ok (.if_icmp .ge 25, 3) := dq_162 (dq_suf 7 dt04cX0_push_0 rfl rfl) (by decide +kernel)
theorem dX0_push_10 : decode cX0_push 10 = .ok (.aload_n 0, 1) := dq_42 (dq_suf 10 dt04cX0_push_0 rfl rfl)
theorem dX0_push_11 : decode cX0_push 11 = .ok (.dup, 1) := dq_89 (dq_suf 11 dt04cX0_push_0 rfl rfl)
theorem dX0_push_12 : decode cX0_push 12 = .ok (.getfield 15, 3) := dq_180 (dq_suf 12 dt04cX0_push_0 rfl rfl) rfl
theorem dX0_push_15 : decode cX0_push 15 = .ok (.iconst 1, 1) := dq_4 (dq_suf 15 dt04cX0_push_0 rfl rfl)
theorem dX0_push_16 : decode cX0_push 16 = .ok (.iadd, 1) := dq_96 (dq_suf 0 dt04cX0_push_1 rfl rfl)
theorem dX0_push_17 : decode cX0_push 17 = .ok (.putfield 15, 3) := dq_181 (dq_suf 1 dt04cX0_push_1 rfl rfl) rfl
theorem dX0_push_20 : decode cX0_push 20 = .ok (.aload_n 0, 1) := dq_42 (dq_suf 4 dt04cX0_push_1 rfl rfl)
theorem dX0_push_21 : decode cX0_push 21 = .ok (.aload_n 0, 1) := dq_42 (dq_suf 5 dt04cX0_push_1 rfl rfl)
theorem dX0_push_22 : decode cX0_push 22 = .ok (.getfield 15, 3) := dq_180 (dq_suf 6 dt04cX0_push_1 rfl rfl) rfl
theorem dX0_push_25 : decode cX0_push 25 = .ok (.iconst 1, 1) := dq_4 (dq_suf 9 dt04cX0_push_1 rfl rfl)
theorem dX0_push_26 : decode cX0_push 26 = .ok (.isub, 1) := dq_100 (dq_suf 10 dt04cX0_push_1 rfl rfl)
theorem dX0_push_27 : decode cX0_push 27 = .ok (.iload_n 1, 1) := dq_27 (dq_suf 11 dt04cX0_push_1 rfl rfl)
theorem dX0_push_28 : decode cX0_push 28 = .ok (.invokevirtual 19, 3) := dq_182 (dq_suf 12 dt04cX0_push_1 rfl rfl) rfl
theorem dX0_push_31 : decode cX0_push 31 = .ok (.pop, 1) := dq_87 (dq_suf 15 dt04cX0_push_1 rfl rfl)
theorem dX0_push_32 : decode cX0_push 32 = .ok (.return_, 1) := dq_177 (dq_suf 0 dt04cX0_push_2 rfl rfl)
noncomputable def ds04cX0_pushNumber_1 : List UInt8 := 42 :: 27 :: 16 :: 8 :: 124 :: 182 :: 0 :: 23 :: 42 :: 27 :: 182 :: 0 :: 23 :: 177 :: []
noncomputable def ds04cX0_pushNumber_0 : List UInt8 := 42 :: 27 :: 16 :: 24 :: 124 :: 182 :: 0 :: 23 :: 42 :: 27 :: 16 :: 16 :: 124 :: 182 :: 0 :: 23 :: ds04cX0_pushNumber_1
theorem dt04cX0_pushNumber_0 : cX0_pushNumber.data.toList.drop 0 = ds04cX0_pushNumber_0 := by decide +kernel
theorem dt04cX0_pushNumber_1 : cX0_pushNumber.data.toList.drop 16 = ds04cX0_pushNumber_1 := dq_suf 16 dt04cX0_pushNumber_0 rfl rfl
theorem dX0_pushNumber_0 : decode cX0_pushNumber 0 = .ok (.aload_n 0, 1) := dq_42 (dq_suf 0 dt04cX0_pushNumber_0 rfl rfl)
theorem dX0_pushNumber_1 : decode cX0_pushNumber 1 = .ok (.iload_n 1, 1) := dq_27 (dq_suf 1 dt04cX0_pushNumber_0 rfl rfl)
theorem dX0_pushNumber_2 : decode cX0_pushNumber 2 = .ok (.bipush 24, 2) := dq_16 (dq_suf 2 dt04cX0_pushNumber_0 rfl rfl) (by decide +kernel)
theorem dX0_pushNumber_4 : decode cX0_pushNumber 4 = .ok (.iushr, 1) := dq_124 (dq_suf 4 dt04cX0_pushNumber_0 rfl rfl)
theorem dX0_pushNumber_5 : decode cX0_pushNumber 5 = .ok (.invokevirtual 23, 3) := dq_182 (dq_suf 5 dt04cX0_pushNumber_0 rfl rfl) rfl
theorem dX0_pushNumber_8 : decode cX0_pushNumber 8 = .ok (.aload_n 0, 1) := dq_42 (dq_suf 8 dt04cX0_pushNumber_0 rfl rfl)
theorem dX0_pushNumber_9 : decode cX0_pushNumber 9 = .ok (.iload_n 1, 1) := dq_27 (dq_suf 9 dt04cX0_pushNumber_0 rfl rfl)
theorem dX0_pushNumber_10 : decode cX0_pushNumber 10 = .ok (.bipush 16, 2) := dq_16 (dq_suf 10 dt04cX0_pushNumber_0 rfl rfl) (by decide +kernel)
theorem dX0_pushNumber_12 : decode cX0_pushNumber 12 = .ok (.iushr, 1) := dq_124 (dq_suf 12 dt04cX0_pushNumber_0 rfl rfl)
theorem dX0_pushNumber_13 : decode cX0_pushNumber 13 = .ok (.invokevirtual 23, 3) := dq_182 (dq_suf 13 dt04cX0_pushNumber_0 rfl rfl) rfl
theorem dX0_pushNumber_16 : decode cX0_pushNumber 16 = .ok (.aload_n 0, 1) := dq_42 (dq_suf 0 dt04cX0_pushNumber_1 rfl rfl)
theorem dX0_pushNumber_17 : decode cX0_pushNumber 17 = .ok (.iload_n 1, 1) := dq_27 (dq_suf 1 dt04cX0_pushNumber_1 rfl rfl)
theorem dX0_pushNumber_18 : decode cX0_pushNumber 18 = .ok (.bipush 8, 2) := dq_16 (dq_suf 2 dt04cX0_pushNumber_1 rfl rfl) (by decide +kernel)
theorem dX0_pushNumber_20 : decode cX0_pushNumber 20 = .ok (.iushr, 1) := dq_124 (dq_suf 4 dt04cX0_pushNumber_1 rfl rfl)
theorem dX0_pushNumber_21 : decode cX0_pushNumber 21 = .ok (.invokevirtual 23, 3) := dq_182 (dq_suf 5 dt04cX0_pushNumber_1 rfl rfl) rfl
theorem dX0_pushNumber_24 : decode cX0_pushNumber 24 = .ok (.aload_n 0, 1) := dq_42 (dq_suf 8 dt04cX0_pushNumber_1 rfl rfl)
theorem dX0_pushNumber_25 : decode cX0_pushNumber 25 = .ok (.iload_n 1, 1) := dq_27 (dq_suf 9 dt04cX0_pushNumber_1 rfl rfl)
theorem dX0_pushNumber_26 : decode cX0_pushNumber 26 = .ok (.invokevirtual 23, 3) := dq_182 (dq_suf 10 dt04cX0_pushNumber_1 rfl rfl) rfl
theorem dX0_pushNumber_29 : decode cX0_pushNumber 29 = .ok (.return_, 1) := dq_177 (dq_suf 13 dt04cX0_pushNumber_1 rfl rfl)
noncomputable def ds04cX0_keep_1 : List UInt8 := 181 :: 0 :: 15 :: 4 :: 172 :: []
noncomputable def ds04cX0_keep_0 : List UInt8 := 27 :: 155 :: 0 :: 11 :: 27 :: 42 :: 180 :: 0 :: 15 :: 164 :: 0 :: 5 :: 3 :: 172 :: 42 :: 27 :: ds04cX0_keep_1
theorem dt04cX0_keep_0 : cX0_keep.data.toList.drop 0 = ds04cX0_keep_0 := by decide +kernel
theorem dt04cX0_keep_1 : cX0_keep.data.toList.drop 16 = ds04cX0_keep_1 := dq_suf 16 dt04cX0_keep_0 rfl rfl
theorem dX0_keep_0 : decode cX0_keep 0 = .ok (.iload_n 1, 1) := dq_27 (dq_suf 0 dt04cX0_keep_0 rfl rfl)
theorem dX0_keep_1 : decode cX0_keep 1 = .ok (.ifCond .lt 11, 3) := dq_155 (dq_suf 1 dt04cX0_keep_0 rfl rfl) (by decide +kernel)
theorem dX0_keep_4 : decode cX0_keep 4 = .ok (.iload_n 1, 1) := dq_27 (dq_suf 4 dt04cX0_keep_0 rfl rfl)
theorem dX0_keep_5 : decode cX0_keep 5 = .ok (.aload_n 0, 1) := dq_42 (dq_suf 5 dt04cX0_keep_0 rfl rfl)
theorem dX0_keep_6 : decode cX0_keep 6 = .ok (.getfield 15, 3) := dq_180 (dq_suf 6 dt04cX0_keep_0 rfl rfl) rfl
theorem dX0_keep_9 : decode cX0_keep 9 = .ok (.if_icmp .le 5, 3) := dq_164 (dq_suf 9 dt04cX0_keep_0 rfl rfl) (by decide +kernel)
theorem dX0_keep_12 : decode cX0_keep 12 = .ok (.iconst 0, 1) := dq_3 (dq_suf 12 dt04cX0_keep_0 rfl rfl)
theorem dX0_keep_13 : decode cX0_keep 13 = .ok (.ireturn, 1) := dq_172 (dq_suf 13 dt04cX0_keep_0 rfl rfl)
theorem dX0_keep_14 : decode cX0_keep 14 = .ok (.aload_n 0, 1) := dq_42 (dq_suf 14 dt04cX0_keep_0 rfl rfl)
theorem dX0_keep_15 : decode cX0_keep 15 = .ok (.iload_n 1, 1) := dq_27 (dq_suf 15 dt04cX0_keep_0 rfl rfl)
theorem dX0_keep_16 : decode cX0_keep 16 = .ok (.putfield 15, 3) := dq_181 (dq_suf 0 dt04cX0_keep_1 rfl rfl) rfl
theorem dX0_keep_19 : decode cX0_keep 19 = .ok (.iconst 1, 1) := dq_4 (dq_suf 3 dt04cX0_keep_1 rfl rfl)
theorem dX0_keep_20 : decode cX0_keep 20 = .ok (.ireturn, 1) := dq_172 (dq_suf 4 dt04cX0_keep_1 rfl rfl)
noncomputable def ds04cX0_copy_2 : List UInt8 := 9 :: 28 :: 43 :: 180 :: 0 :: 9 :: 28 :: 46 :: 79 :: 132 :: 2 :: 1 :: 167 :: 255 :: 222 :: 177 :: []
noncomputable def ds04cX0_copy_1 : List UInt8 := 15 :: 162 :: 0 :: 30 :: 28 :: 42 :: 180 :: 0 :: 9 :: 190 :: 162 :: 0 :: 21 :: 42 :: 180 :: 0 :: ds04cX0_copy_2
noncomputable def ds04cX0_copy_0 : List UInt8 := 42 :: 43 :: 180 :: 0 :: 15 :: 181 :: 0 :: 15 :: 3 :: 61 :: 7 :: 28 :: 104 :: 42 :: 180 :: 0 :: ds04cX0_copy_1
theorem dt04cX0_copy_0 : cX0_copy.data.toList.drop 0 = ds04cX0_copy_0 := by decide +kernel
theorem dt04cX0_copy_1 : cX0_copy.data.toList.drop 16 = ds04cX0_copy_1 := dq_suf 16 dt04cX0_copy_0 rfl rfl
theorem dt04cX0_copy_2 : cX0_copy.data.toList.drop 32 = ds04cX0_copy_2 := dq_suf 16 dt04cX0_copy_1 rfl rfl
theorem dX0_copy_0 : decode cX0_copy 0 = .ok (.aload_n 0, 1) := dq_42 (dq_suf 0 dt04cX0_copy_0 rfl rfl)
theorem dX0_copy_1 : decode cX0_copy 1 = .ok (.aload_n 1, 1) := dq_43 (dq_suf 1 dt04cX0_copy_0 rfl rfl)
theorem dX0_copy_2 : decode cX0_copy 2 = .ok (.getfield 15, 3) := dq_180 (dq_suf 2 dt04cX0_copy_0 rfl rfl) rfl
theorem dX0_copy_5 : decode cX0_copy 5 = .ok (.putfield 15, 3) := dq_181 (dq_suf 5 dt04cX0_copy_0 rfl rfl) rfl
theorem dX0_copy_8 : decode cX0_copy 8 = .ok (.iconst 0, 1) := dq_3 (dq_suf 8 dt04cX0_copy_0 rfl rfl)
theorem dX0_copy_9 : decode cX0_copy 9 = .ok (.istore_n 2, 1) := dq_61 (dq_suf 9 dt04cX0_copy_0 rfl rfl)
theorem dX0_copy_10 : decode cX0_copy 10 = .ok (.iconst 4, 1) := dq_7 (dq_suf 10 dt04cX0_copy_0 rfl rfl)
theorem dX0_copy_11 : decode cX0_copy 11 = .ok (.iload_n 2, 1) := dq_28 (dq_suf 11 dt04cX0_copy_0 rfl rfl)
theorem dX0_copy_12 : decode cX0_copy 12 = .ok (.imul, 1) := dq_104 (dq_suf 12 dt04cX0_copy_0 rfl rfl)
theorem dX0_copy_13 : decode cX0_copy 13 = .ok (.aload_n 0, 1) := dq_42 (dq_suf 13 dt04cX0_copy_0 rfl rfl)
theorem dX0_copy_14 : decode cX0_copy 14 = .ok (.getfield 15, 3) := dq_180 (dq_suf 14 dt04cX0_copy_0 rfl rfl) rfl
theorem dX0_copy_17 : decode cX0_copy 17 = .ok (.if_icmp .ge 30, 3) := dq_162 (dq_suf 1 dt04cX0_copy_1 rfl rfl) (by decide +kernel)
theorem dX0_copy_20 : decode cX0_copy 20 = .ok (.iload_n 2, 1) := dq_28 (dq_suf 4 dt04cX0_copy_1 rfl rfl)
theorem dX0_copy_21 : decode cX0_copy 21 = .ok (.aload_n 0, 1) := dq_42 (dq_suf 5 dt04cX0_copy_1 rfl rfl)
theorem dX0_copy_22 : decode cX0_copy 22 = .ok (.getfield 9, 3) := dq_180 (dq_suf 6 dt04cX0_copy_1 rfl rfl) rfl
theorem dX0_copy_25 : decode cX0_copy 25 = .ok (.arraylength, 1) := dq_190 (dq_suf 9 dt04cX0_copy_1 rfl rfl)
theorem dX0_copy_26 : decode cX0_copy 26 = .ok (.if_icmp .ge 21, 3) := dq_162 (dq_suf 10 dt04cX0_copy_1 rfl rfl) (by decide +kernel)
theorem dX0_copy_29 : decode cX0_copy 29 = .ok (.aload_n 0, 1) := dq_42 (dq_suf 13 dt04cX0_copy_1 rfl rfl)
theorem dX0_copy_30 : decode cX0_copy 30 = .ok (.getfield 9, 3) := dq_180 (dq_suf 14 dt04cX0_copy_1 rfl rfl) rfl
theorem dX0_copy_33 : decode cX0_copy 33 = .ok (.iload_n 2, 1) := dq_28 (dq_suf 1 dt04cX0_copy_2 rfl rfl)
theorem dX0_copy_34 : decode cX0_copy 34 = .ok (.aload_n 1, 1) := dq_43 (dq_suf 2 dt04cX0_copy_2 rfl rfl)
theorem dX0_copy_35 : decode cX0_copy 35 = .ok (.getfield 9, 3) := dq_180 (dq_suf 3 dt04cX0_copy_2 rfl rfl) rfl
theorem dX0_copy_38 : decode cX0_copy 38 = .ok (.iload_n 2, 1) := dq_28 (dq_suf 6 dt04cX0_copy_2 rfl rfl)
theorem dX0_copy_39 : decode cX0_copy 39 = .ok (.iaload, 1) := dq_46 (dq_suf 7 dt04cX0_copy_2 rfl rfl)
theorem dX0_copy_40 : decode cX0_copy 40 = .ok (.iastore, 1) := dq_79 (dq_suf 8 dt04cX0_copy_2 rfl rfl)
theorem dX0_copy_41 : decode cX0_copy 41 = .ok (.iinc 2 1, 3) := dq_132 (dq_suf 9 dt04cX0_copy_2 rfl rfl) rfl (by decide +kernel)
theorem dX0_copy_44 : decode cX0_copy 44 = .ok (.goto (-34), 3) := dq_167 (dq_suf 12 dt04cX0_copy_2 rfl rfl) (by decide +kernel)
theorem dX0_copy_47 : decode cX0_copy 47 = .ok (.return_, 1) := dq_177 (dq_suf 15 dt04cX0_copy_2 rfl rfl)
noncomputable def ds04cX3_init_0 : List UInt8 := 42 :: 183 :: 0 :: 3 :: 42 :: 17 :: 5 :: 19 :: 188 :: 10 :: 181 :: 0 :: 9 :: 177 :: []
theorem dt04cX3_init_0 : cX3_init.data.toList.drop 0 = ds04cX3_init_0 := by decide +kernel
theorem dX3_init_0 : decode cX3_init 0 = .ok (.aload_n 0, 1) := dq_42 (dq_suf 0 dt04cX3_init_0 rfl rfl)
theorem dX3_init_1 : decode cX3_init 1 = .ok (.invokespecial 3, 3) := dq_183 (dq_suf 1 dt04cX3_init_0 rfl rfl) rfl
theorem dX3_init_4 : decode cX3_init 4 = .ok (.aload_n 0, 1) := dq_42 (dq_suf 4 dt04cX3_init_0 rfl rfl)
theorem dX3_init_5 : decode cX3_init 5 = .ok (.sipush 1299, 3) := dq_17 (dq_suf 5 dt04cX3_init_0 rfl rfl) (by decide +kernel)
theorem dX3_init_8 : decode cX3_init 8 = .ok (.newarray .int, 2) := by decide +kernel
theorem dX3_init_10 : decode cX3_init 10 = .ok (.putfield 9, 3) := dq_181 (dq_suf 10 dt04cX3_init_0 rfl rfl) rfl
theorem dX3_init_13 : decode cX3_init 13 = .ok (.return_, 1) := dq_177 (dq_suf 13 dt04cX3_init_0 rfl rfl)
noncomputable def ds04cX3_size_0 : List UInt8 := 42 :: 180 :: 0 :: 15 :: 172 :: []
theorem dt04cX3_size_0 : cX3_size.data.toList.drop 0 = ds04cX3_size_0 := by decide +kernel
theorem dX3_size_0 : decode cX3_size 0 = .ok (.aload_n 0, 1) := dq_42 (dq_suf 0 dt04cX3_size_0 rfl rfl)
theorem dX3_size_1 : decode cX3_size 1 = .ok (.getfield 15, 3) := dq_180 (dq_suf 1 dt04cX3_size_0 rfl rfl) rfl
theorem dX3_size_4 : decode cX3_size 4 = .ok (.ireturn, 1) := dq_172 (dq_suf 4 dt04cX3_size_0 rfl rfl)
noncomputable def ds04cX3_push_2 : List UInt8 := 0 :: 15 :: 4 :: 96 :: 181 :: 0 :: 15 :: 4 :: 172 :: []
noncomputable def ds04cX3_push_1 : List UInt8 := 0 :: 9 :: 42 :: 180 :: 0 :: 15 :: 27 :: 16 :: 16 :: 120 :: 28 :: 128 :: 79 :: 42 :: 89 :: 180 :: ds04cX3_push_2
noncomputable def ds04cX3_push_0 : List UInt8 := 42 :: 180 :: 0 :: 15 :: 42 :: 180 :: 0 :: 9 :: 190 :: 161 :: 0 :: 5 :: 3 :: 172 :: 42 :: 180 :: ds04cX3_push_1
theorem dt04cX3_push_0 : cX3_push.data.toList.drop 0 = ds04cX3_push_0 := by decide +kernel
theorem dt04cX3_push_1 : cX3_push.data.toList.drop 16 = ds04cX3_push_1 := dq_suf 16 dt04cX3_push_0 rfl rfl
theorem dt04cX3_push_2 : cX3_push.data.toList.drop 32 = ds04cX3_push_2 := dq_suf 16 dt04cX3_push_1 rfl rfl
theorem dX3_push_0 : decode cX3_push 0 = .ok (.aload_n 0, 1) := dq_42 (dq_suf 0 dt04cX3_push_0 rfl rfl)
theorem dX3_push_1 : decode cX3_push 1 = .ok (.getfield 15, 3) := dq_180 (dq_suf 1 dt04cX3_push_0 rfl rfl) rfl
theorem dX3_push_4 : decode cX3_push 4 = .ok (.aload_n 0, 1) := dq_42 (dq_suf 4 dt04cX3_push_0 rfl rfl)
theorem dX3_push_5 : decode cX3_push 5 = .ok (.getfield 9, 3) := dq_180 (dq_suf 5 dt04cX3_push_0 rfl rfl) rfl
theorem dX3_push_8 : decode cX3_push 8 = .ok (.arraylength, 1) := dq_190 (dq_suf 8 dt04cX3_push_0 rfl rfl)
theorem dX3_push_9 : decode cX3_push 9 = .ok (.if_icmp .lt 5, 3) := dq_161 (dq_suf 9 dt04cX3_push_0 rfl rfl) (by decide +kernel)
theorem dX3_push_12 : decode cX3_push 12 = .ok (.iconst 0, 1) := dq_3 (dq_suf 12 dt04cX3_push_0 rfl rfl)
theorem dX3_push_13 : decode cX3_push 13 = .ok (.ireturn, 1) := dq_172 (dq_suf 13 dt04cX3_push_0 rfl rfl)
theorem dX3_push_14 : decode cX3_push 14 = .ok (.aload_n 0, 1) := dq_42 (dq_suf 14 dt04cX3_push_0 rfl rfl)
theorem dX3_push_15 : decode cX3_push 15 = .ok (.getfield 9, 3) := dq_180 (dq_suf 15 dt04cX3_push_0 rfl rfl) rfl
theorem dX3_push_18 : decode cX3_push 18 = .ok (.aload_n 0, 1) := dq_42 (dq_suf 2 dt04cX3_push_1 rfl rfl)
theorem dX3_push_19 : decode cX3_push 19 = .ok (.getfield 15, 3) := dq_180 (dq_suf 3 dt04cX3_push_1 rfl rfl) rfl
theorem dX3_push_22 : decode cX3_push 22 = .ok (.iload_n 1, 1) := dq_27 (dq_suf 6 dt04cX3_push_1 rfl rfl)
theorem dX3_push_23 : decode cX3_push 23 = .ok (.bipush 16, 2) := dq_16 (dq_suf 7 dt04cX3_push_1 rfl rfl) (by decide +kernel)
theorem dX3_push_25 : decode cX3_push 25 = .ok (.ishl, 1) := dq_120 (dq_suf 9 dt04cX3_push_1 rfl rfl)
theorem dX3_push_26 : decode cX3_push 26 = .ok (.iload_n 2, 1) := dq_28 (dq_suf 10 dt04cX3_push_1 rfl rfl)
theorem dX3_push_27 : decode cX3_push 27 = .ok (.ior, 1) := dq_128 (dq_suf 11 dt04cX3_push_1 rfl rfl)
theorem dX3_push_28 : decode cX3_push 28 = .ok (.iastore, 1) := dq_79 (dq_suf 12 dt04cX3_push_1 rfl rfl)
theorem dX3_push_29 : decode cX3_push 29 = .ok (.aload_n 0, 1) := dq_42 (dq_suf 13 dt04cX3_push_1 rfl rfl)
theorem dX3_push_30 : decode cX3_push 30 = .ok (.dup, 1) := dq_89 (dq_suf 14 dt04cX3_push_1 rfl rfl)
theorem dX3_push_31 : decode cX3_push 31 = .ok (.getfield 15, 3) := dq_180 (dq_suf 15 dt04cX3_push_1 rfl rfl) rfl
theorem dX3_push_34 : decode cX3_push 34 = .ok (.iconst 1, 1) := dq_4 (dq_suf 2 dt04cX3_push_2 rfl rfl)
theorem dX3_push_35 : decode cX3_push 35 = .ok (.iadd, 1) := dq_96 (dq_suf 3 dt04cX3_push_2 rfl rfl)
theorem dX3_push_36 : decode cX3_push 36 = .ok (.putfield 15, 3) := dq_181 (dq_suf 4 dt04cX3_push_2 rfl rfl) rfl
theorem dX3_push_39 : decode cX3_push 39 = .ok (.iconst 1, 1) := dq_4 (dq_suf 7 dt04cX3_push_2 rfl rfl)
theorem dX3_push_40 : decode cX3_push 40 = .ok (.ireturn, 1) := dq_172 (dq_suf 8 dt04cX3_push_2 rfl rfl)
noncomputable def ds04cX3_shorten_1 : List UInt8 := 15 :: 177 :: []
noncomputable def ds04cX3_shorten_0 : List UInt8 := 27 :: 155 :: 0 :: 16 :: 27 :: 42 :: 180 :: 0 :: 15 :: 162 :: 0 :: 8 :: 42 :: 27 :: 181 :: 0 :: ds04cX3_shorten_1
theorem dt04cX3_shorten_0 : cX3_shorten.data.toList.drop 0 = ds04cX3_shorten_0 := by decide +kernel
theorem dt04cX3_shorten_1 : cX3_shorten.data.toList.drop 16 = ds04cX3_shorten_1 := dq_suf 16 dt04cX3_shorten_0 rfl rfl
theorem dX3_shorten_0 : decode cX3_shorten 0 = .ok (.iload_n 1, 1) := dq_27 (dq_suf 0 dt04cX3_shorten_0 rfl rfl)
theorem dX3_shorten_1 : decode cX3_shorten 1 = .ok (.ifCond .lt 16, 3) := dq_155 (dq_suf 1 dt04cX3_shorten_0 rfl rfl) (by decide +kernel)
theorem dX3_shorten_4 : decode cX3_shorten 4 = .ok (.iload_n 1, 1) := dq_27 (dq_suf 4 dt04cX3_shorten_0 rfl rfl)
theorem dX3_shorten_5 : decode cX3_shorten 5 = .ok (.aload_n 0, 1) := dq_42 (dq_suf 5 dt04cX3_shorten_0 rfl rfl)
theorem dX3_shorten_6 : decode cX3_shorten 6 = .ok (.getfield 15, 3) := dq_180 (dq_suf 6 dt04cX3_shorten_0 rfl rfl) rfl
theorem dX3_shorten_9 : decode cX3_shorten 9 = .ok (.if_icmp .ge 8, 3) := dq_162 (dq_suf 9 dt04cX3_shorten_0 rfl rfl) (by decide +kernel)
theorem dX3_shorten_12 : decode cX3_shorten 12 = .ok (.aload_n 0, 1) := dq_42 (dq_suf 12 dt04cX3_shorten_0 rfl rfl)
theorem dX3_shorten_13 : decode cX3_shorten 13 = .ok (.iload_n 1, 1) := dq_27 (dq_suf 13 dt04cX3_shorten_0 rfl rfl)
theorem dX3_shorten_14 : decode cX3_shorten 14 = .ok (.putfield 15, 3) := dq_181 (dq_suf 14 dt04cX3_shorten_0 rfl rfl) rfl
theorem dX3_shorten_17 : decode cX3_shorten 17 = .ok (.return_, 1) := dq_177 (dq_suf 1 dt04cX3_shorten_1 rfl rfl)
noncomputable def ds04cX3_copy_2 : List UInt8 := 43 :: 180 :: 0 :: 9 :: 28 :: 46 :: 79 :: 132 :: 2 :: 1 :: 167 :: 255 :: 224 :: 177 :: []
noncomputable def ds04cX3_copy_1 : List UInt8 := 0 :: 30 :: 28 :: 42 :: 180 :: 0 :: 9 :: 190 :: 162 :: 0 :: 21 :: 42 :: 180 :: 0 :: 9 :: 28 :: ds04cX3_copy_2
noncomputable def ds04cX3_copy_0 : List UInt8 := 42 :: 43 :: 180 :: 0 :: 15 :: 181 :: 0 :: 15 :: 3 :: 61 :: 28 :: 42 :: 180 :: 0 :: 15 :: 162 :: ds04cX3_copy_1
theorem dt04cX3_copy_0 : cX3_copy.data.toList.drop 0 = ds04cX3_copy_0 := by decide +kernel
theorem dt04cX3_copy_1 : cX3_copy.data.toList.drop 16 = ds04cX3_copy_1 := dq_suf 16 dt04cX3_copy_0 rfl rfl
theorem dt04cX3_copy_2 : cX3_copy.data.toList.drop 32 = ds04cX3_copy_2 := dq_suf 16 dt04cX3_copy_1 rfl rfl
theorem dX3_copy_0 : decode cX3_copy 0 = .ok (.aload_n 0, 1) := dq_42 (dq_suf 0 dt04cX3_copy_0 rfl rfl)
theorem dX3_copy_1 : decode cX3_copy 1 = .ok (.aload_n 1, 1) := dq_43 (dq_suf 1 dt04cX3_copy_0 rfl rfl)
theorem dX3_copy_2 : decode cX3_copy 2 = .ok (.getfield 15, 3) := dq_180 (dq_suf 2 dt04cX3_copy_0 rfl rfl) rfl
theorem dX3_copy_5 : decode cX3_copy 5 = .ok (.putfield 15, 3) := dq_181 (dq_suf 5 dt04cX3_copy_0 rfl rfl) rfl
theorem dX3_copy_8 : decode cX3_copy 8 = .ok (.iconst 0, 1) := dq_3 (dq_suf 8 dt04cX3_copy_0 rfl rfl)
theorem dX3_copy_9 : decode cX3_copy 9 = .ok (.istore_n 2, 1) := dq_61 (dq_suf 9 dt04cX3_copy_0 rfl rfl)
theorem dX3_copy_10 : decode cX3_copy 10 = .ok (.iload_n 2, 1) := dq_28 (dq_suf 10 dt04cX3_copy_0 rfl rfl)
theorem dX3_copy_11 : decode cX3_copy 11 = .ok (.aload_n 0, 1) := dq_42 (dq_suf 11 dt04cX3_copy_0 rfl rfl)
theorem dX3_copy_12 : decode cX3_copy 12 = .ok (.getfield 15, 3) := dq_180 (dq_suf 12 dt04cX3_copy_0 rfl rfl) rfl
theorem dX3_copy_15 : decode cX3_copy 15 = .ok (.if_icmp .ge 30, 3) := dq_162 (dq_suf 15 dt04cX3_copy_0 rfl rfl) (by decide +kernel)
theorem dX3_copy_18 : decode cX3_copy 18 = .ok (.iload_n 2, 1) := dq_28 (dq_suf 2 dt04cX3_copy_1 rfl rfl)
theorem dX3_copy_19 : decode cX3_copy 19 = .ok (.aload_n 0, 1) := dq_42 (dq_suf 3 dt04cX3_copy_1 rfl rfl)
theorem dX3_copy_20 : decode cX3_copy 20 = .ok (.getfield 9, 3) := dq_180 (dq_suf 4 dt04cX3_copy_1 rfl rfl) rfl
theorem dX3_copy_23 : decode cX3_copy 23 = .ok (.arraylength, 1) := dq_190 (dq_suf 7 dt04cX3_copy_1 rfl rfl)
theorem dX3_copy_24 : decode cX3_copy 24 = .ok (.if_icmp .ge 21, 3) := dq_162 (dq_suf 8 dt04cX3_copy_1 rfl rfl) (by decide +kernel)
theorem dX3_copy_27 : decode cX3_copy 27 = .ok (.aload_n 0, 1) := dq_42 (dq_suf 11 dt04cX3_copy_1 rfl rfl)
theorem dX3_copy_28 : decode cX3_copy 28 = .ok (.getfield 9, 3) := dq_180 (dq_suf 12 dt04cX3_copy_1 rfl rfl) rfl
theorem dX3_copy_31 : decode cX3_copy 31 = .ok (.iload_n 2, 1) := dq_28 (dq_suf 15 dt04cX3_copy_1 rfl rfl)
theorem dX3_copy_32 : decode cX3_copy 32 = .ok (.aload_n 1, 1) := dq_43 (dq_suf 0 dt04cX3_copy_2 rfl rfl)
theorem dX3_copy_33 : decode cX3_copy 33 = .ok (.getfield 9, 3) := dq_180 (dq_suf 1 dt04cX3_copy_2 rfl rfl) rfl
theorem dX3_copy_36 : decode cX3_copy 36 = .ok (.iload_n 2, 1) := dq_28 (dq_suf 4 dt04cX3_copy_2 rfl rfl)
theorem dX3_copy_37 : decode cX3_copy 37 = .ok (.iaload, 1) := dq_46 (dq_suf 5 dt04cX3_copy_2 rfl rfl)
theorem dX3_copy_38 : decode cX3_copy 38 = .ok (.iastore, 1) := dq_79 (dq_suf 6 dt04cX3_copy_2 rfl rfl)
theorem dX3_copy_39 : decode cX3_copy 39 = .ok (.iinc 2 1, 3) := dq_132 (dq_suf 7 dt04cX3_copy_2 rfl rfl) rfl (by decide +kernel)
theorem dX3_copy_42 : decode cX3_copy 42 = .ok (.goto (-32), 3) := dq_167 (dq_suf 10 dt04cX3_copy_2 rfl rfl) (by decide +kernel)
theorem dX3_copy_45 : decode cX3_copy 45 = .ok (.return_, 1) := dq_177 (dq_suf 13 dt04cX3_copy_2 rfl rfl)
noncomputable def ds04cX3_writeTo_4 : List UInt8 := 167 :: 255 :: 200 :: 177 :: []
noncomputable def ds04cX3_writeTo_3 : List UInt8 := 182 :: 0 :: 25 :: 43 :: 42 :: 180 :: 0 :: 9 :: 28 :: 46 :: 182 :: 0 :: 25 :: 132 :: 2 :: 1 :: ds04cX3_writeTo_4
noncomputable def ds04cX3_writeTo_2 : List UInt8 := 16 :: 16 :: 124 :: 182 :: 0 :: 25 :: 43 :: 42 :: 180 :: 0 :: 9 :: 28 :: 46 :: 16 :: 8 :: 124 :: ds04cX3_writeTo_3
noncomputable def ds04cX3_writeTo_1 : List UInt8 := 28 :: 42 :: 180 :: 0 :: 9 :: 190 :: 162 :: 0 :: 45 :: 43 :: 42 :: 180 :: 0 :: 9 :: 28 :: 46 :: ds04cX3_writeTo_2
noncomputable def ds04cX3_writeTo_0 : List UInt8 := 43 :: 3 :: 182 :: 0 :: 19 :: 87 :: 3 :: 61 :: 28 :: 42 :: 180 :: 0 :: 15 :: 162 :: 0 :: 54 :: ds04cX3_writeTo_1
theorem dt04cX3_writeTo_0 : cX3_writeTo.data.toList.drop 0 = ds04cX3_writeTo_0 := by decide +kernel
theorem dt04cX3_writeTo_1 : cX3_writeTo.data.toList.drop 16 = ds04cX3_writeTo_1 := dq_suf 16 dt04cX3_writeTo_0 rfl rfl
theorem dt04cX3_writeTo_2 : cX3_writeTo.data.toList.drop 32 = ds04cX3_writeTo_2 := dq_suf 16 dt04cX3_writeTo_1 rfl rfl
theorem dt04cX3_writeTo_3 : cX3_writeTo.data.toList.drop 48 = ds04cX3_writeTo_3 := dq_suf 16 dt04cX3_writeTo_2 rfl rfl
theorem dt04cX3_writeTo_4 : cX3_writeTo.data.toList.drop 64 = ds04cX3_writeTo_4 := dq_suf 16 dt04cX3_writeTo_3 rfl rfl
theorem dX3_writeTo_0 : decode cX3_writeTo 0 = .ok (.aload_n 1, 1) := dq_43 (dq_suf 0 dt04cX3_writeTo_0 rfl rfl)
theorem dX3_writeTo_1 : decode cX3_writeTo 1 = .ok (.iconst 0, 1) := dq_3 (dq_suf 1 dt04cX3_writeTo_0 rfl rfl)
theorem dX3_writeTo_2 : decode cX3_writeTo 2 = .ok (.invokevirtual 19, 3) := dq_182 (dq_suf 2 dt04cX3_writeTo_0 rfl rfl) rfl
theorem dX3_writeTo_5 : decode cX3_writeTo 5 = .ok (.pop, 1) := dq_87 (dq_suf 5 dt04cX3_writeTo_0 rfl rfl)
theorem dX3_writeTo_6 : decode cX3_writeTo 6 = .ok (.iconst 0, 1) := dq_3 (dq_suf 6 dt04cX3_writeTo_0 rfl rfl)
theorem dX3_writeTo_7 : decode cX3_writeTo 7 = .ok (.istore_n 2, 1) := dq_61 (dq_suf 7 dt04cX3_writeTo_0 rfl rfl)
theorem dX3_writeTo_8 : decode cX3_writeTo 8 = .ok (.iload_n 2, 1) := dq_28 (dq_suf 8 dt04cX3_writeTo_0 rfl rfl)
theorem dX3_writeTo_9 : decode cX3_writeTo 9 = .ok (.aload_n 0, 1) := dq_42 (dq_suf 9 dt04cX3_writeTo_0 rfl rfl)
theorem dX3_writeTo_10 : decode cX3_writeTo 10 = .ok (.getfield 15, 3) := dq_180 (dq_suf 10 dt04cX3_writeTo_0 rfl rfl) rfl
theorem dX3_writeTo_13 : decode cX3_writeTo 13 = .ok (.if_icmp .ge 54, 3) := dq_162 (dq_suf 13 dt04cX3_writeTo_0 rfl rfl) (by decide +kernel)
theorem dX3_writeTo_16 : decode cX3_writeTo 16 = .ok (.iload_n 2, 1) := dq_28 (dq_suf 0 dt04cX3_writeTo_1 rfl rfl)
theorem dX3_writeTo_17 : decode cX3_writeTo 17 = .ok (.aload_n 0, 1) := dq_42 (dq_suf 1 dt04cX3_writeTo_1 rfl rfl)
theorem dX3_writeTo_18 : decode cX3_writeTo 18 = .ok (.getfield 9, 3) := dq_180 (dq_suf 2 dt04cX3_writeTo_1 rfl rfl) rfl
theorem dX3_writeTo_21 : decode cX3_writeTo 21 = .ok (.arraylength, 1) := dq_190 (dq_suf 5 dt04cX3_writeTo_1 rfl rfl)
theorem dX3_writeTo_22 : decode cX3_writeTo 22 = .ok (.if_icmp .ge 45, 3) := dq_162 (dq_suf 6 dt04cX3_writeTo_1 rfl rfl) (by decide +kernel)
theorem dX3_writeTo_25 : decode cX3_writeTo 25 = .ok (.aload_n 1, 1) := dq_43 (dq_suf 9 dt04cX3_writeTo_1 rfl rfl)
theorem dX3_writeTo_26 : decode cX3_writeTo 26 = .ok (.aload_n 0, 1) := dq_42 (dq_suf 10 dt04cX3_writeTo_1 rfl rfl)
theorem dX3_writeTo_27 : decode cX3_writeTo 27 = .ok (.getfield 9, 3) := dq_180 (dq_suf 11 dt04cX3_writeTo_1 rfl rfl) rfl
theorem dX3_writeTo_30 : decode cX3_writeTo 30 = .ok (.iload_n 2, 1) := dq_28 (dq_suf 14 dt04cX3_writeTo_1 rfl rfl)
theorem dX3_writeTo_31 : decode cX3_writeTo 31 = .ok (.iaload, 1) := dq_46 (dq_suf 15 dt04cX3_writeTo_1 rfl rfl)
theorem dX3_writeTo_32 : decode cX3_writeTo 32 = .ok (.bipush 16, 2) := dq_16 (dq_suf 0 dt04cX3_writeTo_2 rfl rfl) (by decide +kernel)
theorem dX3_writeTo_34 : decode cX3_writeTo 34 = .ok (.iushr, 1) := dq_124 (dq_suf 2 dt04cX3_writeTo_2 rfl rfl)
theorem dX3_writeTo_35 : decode cX3_writeTo 35 = .ok (.invokevirtual 25, 3) := dq_182 (dq_suf 3 dt04cX3_writeTo_2 rfl rfl) rfl
theorem dX3_writeTo_38 : decode cX3_writeTo 38 = .ok (.aload_n 1, 1) := dq_43 (dq_suf 6 dt04cX3_writeTo_2 rfl rfl)
theorem dX3_writeTo_39 : decode cX3_writeTo 39 = .ok (.aload_n 0, 1) := dq_42 (dq_suf 7 dt04cX3_writeTo_2 rfl rfl)
theorem dX3_writeTo_40 : decode cX3_writeTo 40 = .ok (.getfield 9, 3) := dq_180 (dq_suf 8 dt04cX3_writeTo_2 rfl rfl) rfl
theorem dX3_writeTo_43 : decode cX3_writeTo 43 = .ok (.iload_n 2, 1) := dq_28 (dq_suf 11 dt04cX3_writeTo_2 rfl rfl)
theorem dX3_writeTo_44 : decode cX3_writeTo 44 = .ok (.iaload, 1) := dq_46 (dq_suf 12 dt04cX3_writeTo_2 rfl rfl)
theorem dX3_writeTo_45 : decode cX3_writeTo 45 = .ok (.bipush 8, 2) := dq_16 (dq_suf 13 dt04cX3_writeTo_2 rfl rfl) (by decide +kernel)
theorem dX3_writeTo_47 : decode cX3_writeTo 47 = .ok (.iushr, 1) := dq_124 (dq_suf 15 dt04cX3_writeTo_2 rfl rfl)
theorem dX3_writeTo_48 : decode cX3_writeTo 48 = .ok (.invokevirtual 25, 3) := dq_182 (dq_suf 0 dt04cX3_writeTo_3 rfl rfl) rfl
theorem dX3_writeTo_51 : decode cX3_writeTo 51 = .ok (.aload_n 1, 1) := dq_43 (dq_suf 3 dt04cX3_writeTo_3 rfl rfl)
theorem dX3_writeTo_52 : decode cX3_writeTo 52 = .ok (.aload_n 0, 1) := dq_42 (dq_suf 4 dt04cX3_writeTo_3 rfl rfl)
theorem dX3_writeTo_53 : decode cX3_writeTo 53 = .ok (.getfield 9, 3) := dq_180 (dq_suf 5 dt04cX3_writeTo_3 rfl rfl) rfl
theorem dX3_writeTo_56 : decode cX3_writeTo 56 = .ok (.iload_n 2, 1) := dq_28 (dq_suf 8 dt04cX3_writeTo_3 rfl rfl)
theorem dX3_writeTo_57 : decode cX3_writeTo 57 = .ok (.iaload, 1) := dq_46 (dq_suf 9 dt04cX3_writeTo_3 rfl rfl)
theorem dX3_writeTo_58 : decode cX3_writeTo 58 = .ok (.invokevirtual 25, 3) := dq_182 (dq_suf 10 dt04cX3_writeTo_3 rfl rfl) rfl
theorem dX3_writeTo_61 : decode cX3_writeTo 61 = .ok (.iinc 2 1, 3) := dq_132 (dq_suf 13 dt04cX3_writeTo_3 rfl rfl) rfl (by decide +kernel)
theorem dX3_writeTo_64 : decode cX3_writeTo 64 = .ok (.goto (-56), 3) := dq_167 (dq_suf 0 dt04cX3_writeTo_4 rfl rfl) (by decide +kernel)
theorem dX3_writeTo_67 : decode cX3_writeTo 67 = .ok (.return_, 1) := dq_177 (dq_suf 3 dt04cX3_writeTo_4 rfl rfl)
noncomputable def ds04cX6_init_1 : List UInt8 := 17 :: 177 :: []
noncomputable def ds04cX6_init_0 : List UInt8 := 42 :: 183 :: 0 :: 3 :: 42 :: 27 :: 3 :: 184 :: 0 :: 9 :: 8 :: 104 :: 188 :: 11 :: 181 :: 0 :: ds04cX6_init_1
theorem dt04cX6_init_0 : cX6_init.data.toList.drop 0 = ds04cX6_init_0 := by decide +kernel
theorem dt04cX6_init_1 : cX6_init.data.toList.drop 16 = ds04cX6_init_1 := dq_suf 16 dt04cX6_init_0 rfl rfl
theorem dX6_init_0 : decode cX6_init 0 = .ok (.aload_n 0, 1) := dq_42 (dq_suf 0 dt04cX6_init_0 rfl rfl)
theorem dX6_init_1 : decode cX6_init 1 = .ok (.invokespecial 3, 3) := dq_183 (dq_suf 1 dt04cX6_init_0 rfl rfl) rfl
theorem dX6_init_4 : decode cX6_init 4 = .ok (.aload_n 0, 1) := dq_42 (dq_suf 4 dt04cX6_init_0 rfl rfl)
theorem dX6_init_5 : decode cX6_init 5 = .ok (.iload_n 1, 1) := dq_27 (dq_suf 5 dt04cX6_init_0 rfl rfl)
theorem dX6_init_6 : decode cX6_init 6 = .ok (.iconst 0, 1) := dq_3 (dq_suf 6 dt04cX6_init_0 rfl rfl)
theorem dX6_init_7 : decode cX6_init 7 = .ok (.invokestatic 9, 3) := dq_184 (dq_suf 7 dt04cX6_init_0 rfl rfl) rfl
theorem dX6_init_10 : decode cX6_init 10 = .ok (.iconst 5, 1) := dq_8 (dq_suf 10 dt04cX6_init_0 rfl rfl)
theorem dX6_init_11 : decode cX6_init 11 = .ok (.imul, 1) := dq_104 (dq_suf 11 dt04cX6_init_0 rfl rfl)
theorem dX6_init_12 : decode cX6_init 12 = .ok (.newarray .long, 2) := by decide +kernel
theorem dX6_init_14 : decode cX6_init 14 = .ok (.putfield 17, 3) := dq_181 (dq_suf 14 dt04cX6_init_0 rfl rfl) rfl
theorem dX6_init_17 : decode cX6_init 17 = .ok (.return_, 1) := dq_177 (dq_suf 1 dt04cX6_init_1 rfl rfl)
noncomputable def ds04cX6_has_2 : List UInt8 := 0 :: 7 :: 4 :: 167 :: 0 :: 4 :: 3 :: 172 :: []
noncomputable def ds04cX6_has_1 : List UInt8 := 28 :: 16 :: 6 :: 122 :: 96 :: 47 :: 28 :: 16 :: 63 :: 126 :: 125 :: 10 :: 127 :: 9 :: 148 :: 153 :: ds04cX6_has_2
noncomputable def ds04cX6_has_0 : List UInt8 := 42 :: 27 :: 28 :: 182 :: 0 :: 21 :: 153 :: 0 :: 32 :: 42 :: 180 :: 0 :: 17 :: 27 :: 8 :: 104 :: ds04cX6_has_1
theorem dt04cX6_has_0 : cX6_has.data.toList.drop 0 = ds04cX6_has_0 := by decide +kernel
theorem dt04cX6_has_1 : cX6_has.data.toList.drop 16 = ds04cX6_has_1 := dq_suf 16 dt04cX6_has_0 rfl rfl
theorem dt04cX6_has_2 : cX6_has.data.toList.drop 32 = ds04cX6_has_2 := dq_suf 16 dt04cX6_has_1 rfl rfl
theorem dX6_has_0 : decode cX6_has 0 = .ok (.aload_n 0, 1) := dq_42 (dq_suf 0 dt04cX6_has_0 rfl rfl)
theorem dX6_has_1 : decode cX6_has 1 = .ok (.iload_n 1, 1) := dq_27 (dq_suf 1 dt04cX6_has_0 rfl rfl)
theorem dX6_has_2 : decode cX6_has 2 = .ok (.iload_n 2, 1) := dq_28 (dq_suf 2 dt04cX6_has_0 rfl rfl)
theorem dX6_has_3 : decode cX6_has 3 = .ok (.invokevirtual 21, 3) := dq_182 (dq_suf 3 dt04cX6_has_0 rfl rfl) rfl
theorem dX6_has_6 : decode cX6_has 6 = .ok (.ifCond .eq 32, 3) := dq_153 (dq_suf 6 dt04cX6_has_0 rfl rfl) (by decide +kernel)
theorem dX6_has_9 : decode cX6_has 9 = .ok (.aload_n 0, 1) := dq_42 (dq_suf 9 dt04cX6_has_0 rfl rfl)
theorem dX6_has_10 : decode cX6_has 10 = .ok (.getfield 17, 3) := dq_180 (dq_suf 10 dt04cX6_has_0 rfl rfl) rfl
theorem dX6_has_13 : decode cX6_has 13 = .ok (.iload_n 1, 1) := dq_27 (dq_suf 13 dt04cX6_has_0 rfl rfl)
theorem dX6_has_14 : decode cX6_has 14 = .ok (.iconst 5, 1) := dq_8 (dq_suf 14 dt04cX6_has_0 rfl rfl)
theorem dX6_has_15 : decode cX6_has 15 = .ok (.imul, 1) := dq_104 (dq_suf 15 dt04cX6_has_0 rfl rfl)
theorem dX6_has_16 : decode cX6_has 16 = .ok (.iload_n 2, 1) := dq_28 (dq_suf 0 dt04cX6_has_1 rfl rfl)
theorem dX6_has_17 : decode cX6_has 17 = .ok (.bipush 6, 2) := dq_16 (dq_suf 1 dt04cX6_has_1 rfl rfl) (by decide +kernel)
theorem dX6_has_19 : decode cX6_has 19 = .ok (.ishr, 1) := dq_122 (dq_suf 3 dt04cX6_has_1 rfl rfl)
theorem dX6_has_20 : decode cX6_has 20 = .ok (.iadd, 1) := dq_96 (dq_suf 4 dt04cX6_has_1 rfl rfl)
theorem dX6_has_21 : decode cX6_has 21 = .ok (.laload, 1) := dq_47 (dq_suf 5 dt04cX6_has_1 rfl rfl)
theorem dX6_has_22 : decode cX6_has 22 = .ok (.iload_n 2, 1) := dq_28 (dq_suf 6 dt04cX6_has_1 rfl rfl)
theorem dX6_has_23 : decode cX6_has 23 = .ok (.bipush 63, 2) := dq_16 (dq_suf 7 dt04cX6_has_1 rfl rfl) (by decide +kernel)
theorem dX6_has_25 : decode cX6_has 25 = .ok (.iand, 1) := dq_126 (dq_suf 9 dt04cX6_has_1 rfl rfl)
theorem dX6_has_26 : decode cX6_has 26 = .ok (.lushr, 1) := dq_125 (dq_suf 10 dt04cX6_has_1 rfl rfl)
theorem dX6_has_27 : decode cX6_has 27 = .ok (.lconst 1, 1) := dq_10 (dq_suf 11 dt04cX6_has_1 rfl rfl)
theorem dX6_has_28 : decode cX6_has 28 = .ok (.land, 1) := dq_127 (dq_suf 12 dt04cX6_has_1 rfl rfl)
theorem dX6_has_29 : decode cX6_has 29 = .ok (.lconst 0, 1) := dq_9 (dq_suf 13 dt04cX6_has_1 rfl rfl)
theorem dX6_has_30 : decode cX6_has 30 = .ok (.lcmp, 1) := dq_148 (dq_suf 14 dt04cX6_has_1 rfl rfl)
theorem dX6_has_31 : decode cX6_has 31 = .ok (.ifCond .eq 7, 3) := dq_153 (dq_suf 15 dt04cX6_has_1 rfl rfl) (by decide +kernel)
theorem dX6_has_34 : decode cX6_has 34 = .ok (.iconst 1, 1) := dq_4 (dq_suf 2 dt04cX6_has_2 rfl rfl)
theorem dX6_has_35 : decode cX6_has 35 = .ok (.goto 4, 3) := dq_167 (dq_suf 3 dt04cX6_has_2 rfl rfl) (by decide +kernel)
theorem dX6_has_38 : decode cX6_has 38 = .ok (.iconst 0, 1) := dq_3 (dq_suf 6 dt04cX6_has_2 rfl rfl)
theorem dX6_has_39 : decode cX6_has 39 = .ok (.ireturn, 1) := dq_172 (dq_suf 7 dt04cX6_has_2 rfl rfl)
noncomputable def ds04cX6_put_1 : List UInt8 := 28 :: 16 :: 6 :: 122 :: 96 :: 92 :: 47 :: 10 :: 28 :: 16 :: 63 :: 126 :: 121 :: 129 :: 80 :: 177 :: []
noncomputable def ds04cX6_put_0 : List UInt8 := 42 :: 27 :: 28 :: 182 :: 0 :: 21 :: 153 :: 0 :: 25 :: 42 :: 180 :: 0 :: 17 :: 27 :: 8 :: 104 :: ds04cX6_put_1
theorem dt04cX6_put_0 : cX6_put.data.toList.drop 0 = ds04cX6_put_0 := by decide +kernel
theorem dt04cX6_put_1 : cX6_put.data.toList.drop 16 = ds04cX6_put_1 := dq_suf 16 dt04cX6_put_0 rfl rfl
theorem dX6_put_0 : decode cX6_put 0 = .ok (.aload_n 0, 1) := dq_42 (dq_suf 0 dt04cX6_put_0 rfl rfl)
theorem dX6_put_1 : decode cX6_put 1 = .ok (.iload_n 1, 1) := dq_27 (dq_suf 1 dt04cX6_put_0 rfl rfl)
theorem dX6_put_2 : decode cX6_put 2 = .ok (.iload_n 2, 1) := dq_28 (dq_suf 2 dt04cX6_put_0 rfl rfl)
theorem dX6_put_3 : decode cX6_put 3 = .ok (.invokevirtual 21, 3) := dq_182 (dq_suf 3 dt04cX6_put_0 rfl rfl) rfl
theorem dX6_put_6 : decode cX6_put 6 = .ok (.ifCond .eq 25, 3) := dq_153 (dq_suf 6 dt04cX6_put_0 rfl rfl) (by decide +kernel)
theorem dX6_put_9 : decode cX6_put 9 = .ok (.aload_n 0, 1) := dq_42 (dq_suf 9 dt04cX6_put_0 rfl rfl)
theorem dX6_put_10 : decode cX6_put 10 = .ok (.getfield 17, 3) := dq_180 (dq_suf 10 dt04cX6_put_0 rfl rfl) rfl
theorem dX6_put_13 : decode cX6_put 13 = .ok (.iload_n 1, 1) := dq_27 (dq_suf 13 dt04cX6_put_0 rfl rfl)
theorem dX6_put_14 : decode cX6_put 14 = .ok (.iconst 5, 1) := dq_8 (dq_suf 14 dt04cX6_put_0 rfl rfl)
theorem dX6_put_15 : decode cX6_put 15 = .ok (.imul, 1) := dq_104 (dq_suf 15 dt04cX6_put_0 rfl rfl)
theorem dX6_put_16 : decode cX6_put 16 = .ok (.iload_n 2, 1) := dq_28 (dq_suf 0 dt04cX6_put_1 rfl rfl)
theorem dX6_put_17 : decode cX6_put 17 = .ok (.bipush 6, 2) := dq_16 (dq_suf 1 dt04cX6_put_1 rfl rfl) (by decide +kernel)
theorem dX6_put_19 : decode cX6_put 19 = .ok (.ishr, 1) := dq_122 (dq_suf 3 dt04cX6_put_1 rfl rfl)
theorem dX6_put_20 : decode cX6_put 20 = .ok (.iadd, 1) := dq_96 (dq_suf 4 dt04cX6_put_1 rfl rfl)
theorem dX6_put_21 : decode cX6_put 21 = .ok (.dup2, 1) := dq_92 (dq_suf 5 dt04cX6_put_1 rfl rfl)
theorem dX6_put_22 : decode cX6_put 22 = .ok (.laload, 1) := dq_47 (dq_suf 6 dt04cX6_put_1 rfl rfl)
theorem dX6_put_23 : decode cX6_put 23 = .ok (.lconst 1, 1) := dq_10 (dq_suf 7 dt04cX6_put_1 rfl rfl)
theorem dX6_put_24 : decode cX6_put 24 = .ok (.iload_n 2, 1) := dq_28 (dq_suf 8 dt04cX6_put_1 rfl rfl)
theorem dX6_put_25 : decode cX6_put 25 = .ok (.bipush 63, 2) := dq_16 (dq_suf 9 dt04cX6_put_1 rfl rfl) (by decide +kernel)
theorem dX6_put_27 : decode cX6_put 27 = .ok (.iand, 1) := dq_126 (dq_suf 11 dt04cX6_put_1 rfl rfl)
theorem dX6_put_28 : decode cX6_put 28 = .ok (.lshl, 1) := dq_121 (dq_suf 12 dt04cX6_put_1 rfl rfl)
theorem dX6_put_29 : decode cX6_put 29 = .ok (.lor, 1) := dq_129 (dq_suf 13 dt04cX6_put_1 rfl rfl)
theorem dX6_put_30 : decode cX6_put 30 = .ok (.lastore, 1) := dq_80 (dq_suf 14 dt04cX6_put_1 rfl rfl)
theorem dX6_put_31 : decode cX6_put 31 = .ok (.return_, 1) := dq_177 (dq_suf 15 dt04cX6_put_1 rfl rfl)
noncomputable def ds04cX6_drop_2 : List UInt8 := 131 :: 127 :: 80 :: 177 :: []
noncomputable def ds04cX6_drop_1 : List UInt8 := 28 :: 16 :: 6 :: 122 :: 96 :: 92 :: 47 :: 10 :: 28 :: 16 :: 63 :: 126 :: 121 :: 20 :: 0 :: 25 :: ds04cX6_drop_2
noncomputable def ds04cX6_drop_0 : List UInt8 := 42 :: 27 :: 28 :: 182 :: 0 :: 21 :: 153 :: 0 :: 29 :: 42 :: 180 :: 0 :: 17 :: 27 :: 8 :: 104 :: ds04cX6_drop_1
theorem dt04cX6_drop_0 : cX6_drop.data.toList.drop 0 = ds04cX6_drop_0 := by decide +kernel
theorem dt04cX6_drop_1 : cX6_drop.data.toList.drop 16 = ds04cX6_drop_1 := dq_suf 16 dt04cX6_drop_0 rfl rfl
theorem dt04cX6_drop_2 : cX6_drop.data.toList.drop 32 = ds04cX6_drop_2 := dq_suf 16 dt04cX6_drop_1 rfl rfl
theorem dX6_drop_0 : decode cX6_drop 0 = .ok (.aload_n 0, 1) := dq_42 (dq_suf 0 dt04cX6_drop_0 rfl rfl)
theorem dX6_drop_1 : decode cX6_drop 1 = .ok (.iload_n 1, 1) := dq_27 (dq_suf 1 dt04cX6_drop_0 rfl rfl)
theorem dX6_drop_2 : decode cX6_drop 2 = .ok (.iload_n 2, 1) := dq_28 (dq_suf 2 dt04cX6_drop_0 rfl rfl)
theorem dX6_drop_3 : decode cX6_drop 3 = .ok (.invokevirtual 21, 3) := dq_182 (dq_suf 3 dt04cX6_drop_0 rfl rfl) rfl
theorem dX6_drop_6 : decode cX6_drop 6 = .ok (.ifCond .eq 29, 3) := dq_153 (dq_suf 6 dt04cX6_drop_0 rfl rfl) (by decide +kernel)
theorem dX6_drop_9 : decode cX6_drop 9 = .ok (.aload_n 0, 1) := dq_42 (dq_suf 9 dt04cX6_drop_0 rfl rfl)
theorem dX6_drop_10 : decode cX6_drop 10 = .ok (.getfield 17, 3) := dq_180 (dq_suf 10 dt04cX6_drop_0 rfl rfl) rfl
theorem dX6_drop_13 : decode cX6_drop 13 = .ok (.iload_n 1, 1) := dq_27 (dq_suf 13 dt04cX6_drop_0 rfl rfl)
theorem dX6_drop_14 : decode cX6_drop 14 = .ok (.iconst 5, 1) := dq_8 (dq_suf 14 dt04cX6_drop_0 rfl rfl)
theorem dX6_drop_15 : decode cX6_drop 15 = .ok (.imul, 1) := dq_104 (dq_suf 15 dt04cX6_drop_0 rfl rfl)
theorem dX6_drop_16 : decode cX6_drop 16 = .ok (.iload_n 2, 1) := dq_28 (dq_suf 0 dt04cX6_drop_1 rfl rfl)
theorem dX6_drop_17 : decode cX6_drop 17 = .ok (.bipush 6, 2) := dq_16 (dq_suf 1 dt04cX6_drop_1 rfl rfl) (by decide +kernel)
theorem dX6_drop_19 : decode cX6_drop 19 = .ok (.ishr, 1) := dq_122 (dq_suf 3 dt04cX6_drop_1 rfl rfl)
theorem dX6_drop_20 : decode cX6_drop 20 = .ok (.iadd, 1) := dq_96 (dq_suf 4 dt04cX6_drop_1 rfl rfl)
theorem dX6_drop_21 : decode cX6_drop 21 = .ok (.dup2, 1) := dq_92 (dq_suf 5 dt04cX6_drop_1 rfl rfl)
theorem dX6_drop_22 : decode cX6_drop 22 = .ok (.laload, 1) := dq_47 (dq_suf 6 dt04cX6_drop_1 rfl rfl)
theorem dX6_drop_23 : decode cX6_drop 23 = .ok (.lconst 1, 1) := dq_10 (dq_suf 7 dt04cX6_drop_1 rfl rfl)
theorem dX6_drop_24 : decode cX6_drop 24 = .ok (.iload_n 2, 1) := dq_28 (dq_suf 8 dt04cX6_drop_1 rfl rfl)
theorem dX6_drop_25 : decode cX6_drop 25 = .ok (.bipush 63, 2) := dq_16 (dq_suf 9 dt04cX6_drop_1 rfl rfl) (by decide +kernel)
theorem dX6_drop_27 : decode cX6_drop 27 = .ok (.iand, 1) := dq_126 (dq_suf 11 dt04cX6_drop_1 rfl rfl)
theorem dX6_drop_28 : decode cX6_drop 28 = .ok (.lshl, 1) := dq_121 (dq_suf 12 dt04cX6_drop_1 rfl rfl)
theorem dX6_drop_29 : decode cX6_drop 29 = .ok (.ldc2_w 25, 3) := dq_20 (dq_suf 13 dt04cX6_drop_1 rfl rfl) rfl
theorem dX6_drop_32 : decode cX6_drop 32 = .ok (.lxor, 1) := dq_131 (dq_suf 0 dt04cX6_drop_2 rfl rfl)
theorem dX6_drop_33 : decode cX6_drop 33 = .ok (.land, 1) := dq_127 (dq_suf 1 dt04cX6_drop_2 rfl rfl)
theorem dX6_drop_34 : decode cX6_drop 34 = .ok (.lastore, 1) := dq_80 (dq_suf 2 dt04cX6_drop_2 rfl rfl)
theorem dX6_drop_35 : decode cX6_drop 35 = .ok (.return_, 1) := dq_177 (dq_suf 3 dt04cX6_drop_2 rfl rfl)
noncomputable def ds04cX6_bits_1 : List UInt8 := 27 :: 8 :: 104 :: 28 :: 96 :: 47 :: 167 :: 0 :: 4 :: 9 :: 173 :: []
noncomputable def ds04cX6_bits_0 : List UInt8 := 42 :: 27 :: 16 :: 64 :: 28 :: 104 :: 182 :: 0 :: 21 :: 153 :: 0 :: 16 :: 42 :: 180 :: 0 :: 17 :: ds04cX6_bits_1
theorem dt04cX6_bits_0 : cX6_bits.data.toList.drop 0 = ds04cX6_bits_0 := by decide +kernel
theorem dt04cX6_bits_1 : cX6_bits.data.toList.drop 16 = ds04cX6_bits_1 := dq_suf 16 dt04cX6_bits_0 rfl rfl
theorem dX6_bits_0 : decode cX6_bits 0 = .ok (.aload_n 0, 1) := dq_42 (dq_suf 0 dt04cX6_bits_0 rfl rfl)
theorem dX6_bits_1 : decode cX6_bits 1 = .ok (.iload_n 1, 1) := dq_27 (dq_suf 1 dt04cX6_bits_0 rfl rfl)
theorem dX6_bits_2 : decode cX6_bits 2 = .ok (.bipush 64, 2) := dq_16 (dq_suf 2 dt04cX6_bits_0 rfl rfl) (by decide +kernel)
theorem dX6_bits_4 : decode cX6_bits 4 = .ok (.iload_n 2, 1) := dq_28 (dq_suf 4 dt04cX6_bits_0 rfl rfl)
theorem dX6_bits_5 : decode cX6_bits 5 = .ok (.imul, 1) := dq_104 (dq_suf 5 dt04cX6_bits_0 rfl rfl)
theorem dX6_bits_6 : decode cX6_bits 6 = .ok (.invokevirtual 21, 3) := dq_182 (dq_suf 6 dt04cX6_bits_0 rfl rfl) rfl
theorem dX6_bits_9 : decode cX6_bits 9 = .ok (.ifCond .eq 16, 3) := dq_153 (dq_suf 9 dt04cX6_bits_0 rfl rfl) (by decide +kernel)
theorem dX6_bits_12 : decode cX6_bits 12 = .ok (.aload_n 0, 1) := dq_42 (dq_suf 12 dt04cX6_bits_0 rfl rfl)
theorem dX6_bits_13 : decode cX6_bits 13 = .ok (.getfield 17, 3) := dq_180 (dq_suf 13 dt04cX6_bits_0 rfl rfl) rfl
theorem dX6_bits_16 : decode cX6_bits 16 = .ok (.iload_n 1, 1) := dq_27 (dq_suf 0 dt04cX6_bits_1 rfl rfl)
theorem dX6_bits_17 : decode cX6_bits 17 = .ok (.iconst 5, 1) := dq_8 (dq_suf 1 dt04cX6_bits_1 rfl rfl)
theorem dX6_bits_18 : decode cX6_bits 18 = .ok (.imul, 1) := dq_104 (dq_suf 2 dt04cX6_bits_1 rfl rfl)
theorem dX6_bits_19 : decode cX6_bits 19 = .ok (.iload_n 2, 1) := dq_28 (dq_suf 3 dt04cX6_bits_1 rfl rfl)
theorem dX6_bits_20 : decode cX6_bits 20 = .ok (.iadd, 1) := dq_96 (dq_suf 4 dt04cX6_bits_1 rfl rfl)
theorem dX6_bits_21 : decode cX6_bits 21 = .ok (.laload, 1) := dq_47 (dq_suf 5 dt04cX6_bits_1 rfl rfl)
theorem dX6_bits_22 : decode cX6_bits 22 = .ok (.goto 4, 3) := dq_167 (dq_suf 6 dt04cX6_bits_1 rfl rfl) (by decide +kernel)
theorem dX6_bits_25 : decode cX6_bits 25 = .ok (.lconst 0, 1) := dq_9 (dq_suf 9 dt04cX6_bits_1 rfl rfl)
theorem dX6_bits_26 : decode cX6_bits 26 = .ok (.lreturn, 1) := dq_173 (dq_suf 10 dt04cX6_bits_1 rfl rfl)
noncomputable def ds04cX6_empty_2 : List UInt8 := 228 :: 177 :: []
noncomputable def ds04cX6_empty_1 : List UInt8 := 42 :: 180 :: 0 :: 17 :: 27 :: 8 :: 104 :: 28 :: 96 :: 9 :: 80 :: 132 :: 2 :: 1 :: 167 :: 255 :: ds04cX6_empty_2
noncomputable def ds04cX6_empty_0 : List UInt8 := 3 :: 61 :: 28 :: 8 :: 162 :: 0 :: 29 :: 42 :: 27 :: 3 :: 182 :: 0 :: 21 :: 153 :: 0 :: 20 :: ds04cX6_empty_1
theorem dt04cX6_empty_0 : cX6_empty.data.toList.drop 0 = ds04cX6_empty_0 := by decide +kernel
theorem dt04cX6_empty_1 : cX6_empty.data.toList.drop 16 = ds04cX6_empty_1 := dq_suf 16 dt04cX6_empty_0 rfl rfl
theorem dt04cX6_empty_2 : cX6_empty.data.toList.drop 32 = ds04cX6_empty_2 := dq_suf 16 dt04cX6_empty_1 rfl rfl
theorem dX6_empty_0 : decode cX6_empty 0 = .ok (.iconst 0, 1) := dq_3 (dq_suf 0 dt04cX6_empty_0 rfl rfl)
theorem dX6_empty_1 : decode cX6_empty 1 = .ok (.istore_n 2, 1) := dq_61 (dq_suf 1 dt04cX6_empty_0 rfl rfl)
theorem dX6_empty_2 : decode cX6_empty 2 = .ok (.iload_n 2, 1) := dq_28 (dq_suf 2 dt04cX6_empty_0 rfl rfl)
theorem dX6_empty_3 : decode cX6_empty 3 = .ok (.iconst 5, 1) := dq_8 (dq_suf 3 dt04cX6_empty_0 rfl rfl)
theorem dX6_empty_4 : decode cX6_empty 4 = .ok (.if_icmp .ge 29, 3) := dq_162 (dq_suf 4 dt04cX6_empty_0 rfl rfl) (by decide +kernel)
theorem dX6_empty_7 : decode cX6_empty 7 = .ok (.aload_n 0, 1) := dq_42 (dq_suf 7 dt04cX6_empty_0 rfl rfl)
theorem dX6_empty_8 : decode cX6_empty 8 = .ok (.iload_n 1, 1) := dq_27 (dq_suf 8 dt04cX6_empty_0 rfl rfl)
theorem dX6_empty_9 : decode cX6_empty 9 = .ok (.iconst 0, 1) := dq_3 (dq_suf 9 dt04cX6_empty_0 rfl rfl)
theorem dX6_empty_10 : decode cX6_empty 10 = .ok (.invokevirtual 21, 3) := dq_182 (dq_suf 10 dt04cX6_empty_0 rfl rfl) rfl
theorem dX6_empty_13 : decode cX6_empty 13 = .ok (.ifCond .eq 20, 3) := dq_153 (dq_suf 13 dt04cX6_empty_0 rfl rfl) (by decide +kernel)
theorem dX6_empty_16 : decode cX6_empty 16 = .ok (.aload_n 0, 1) := dq_42 (dq_suf 0 dt04cX6_empty_1 rfl rfl)
theorem dX6_empty_17 : decode cX6_empty 17 = .ok (.getfield 17, 3) := dq_180 (dq_suf 1 dt04cX6_empty_1 rfl rfl) rfl
theorem dX6_empty_20 : decode cX6_empty 20 = .ok (.iload_n 1, 1) := dq_27 (dq_suf 4 dt04cX6_empty_1 rfl rfl)
theorem dX6_empty_21 : decode cX6_empty 21 = .ok (.iconst 5, 1) := dq_8 (dq_suf 5 dt04cX6_empty_1 rfl rfl)
theorem dX6_empty_22 : decode cX6_empty 22 = .ok (.imul, 1) := dq_104 (dq_suf 6 dt04cX6_empty_1 rfl rfl)
theorem dX6_empty_23 : decode cX6_empty 23 = .ok (.iload_n 2, 1) := dq_28 (dq_suf 7 dt04cX6_empty_1 rfl rfl)
theorem dX6_empty_24 : decode cX6_empty 24 = .ok (.iadd, 1) := dq_96 (dq_suf 8 dt04cX6_empty_1 rfl rfl)
theorem dX6_empty_25 : decode cX6_empty 25 = .ok (.lconst 0, 1) := dq_9 (dq_suf 9 dt04cX6_empty_1 rfl rfl)
theorem dX6_empty_26 : decode cX6_empty 26 = .ok (.lastore, 1) := dq_80 (dq_suf 10 dt04cX6_empty_1 rfl rfl)
theorem dX6_empty_27 : decode cX6_empty 27 = .ok (.iinc 2 1, 3) := dq_132 (dq_suf 11 dt04cX6_empty_1 rfl rfl) rfl (by decide +kernel)
theorem dX6_empty_30 : decode cX6_empty 30 = .ok (.goto (-28), 3) := dq_167 (dq_suf 14 dt04cX6_empty_1 rfl rfl) (by decide +kernel)
theorem dX6_empty_33 : decode cX6_empty 33 = .ok (.return_, 1) := dq_177 (dq_suf 1 dt04cX6_empty_2 rfl rfl)
noncomputable def ds04cX6_copy_4 : List UInt8 := 167 :: 255 :: 220 :: 177 :: []
noncomputable def ds04cX6_copy_3 : List UInt8 := 96 :: 44 :: 180 :: 0 :: 17 :: 29 :: 8 :: 104 :: 21 :: 5 :: 96 :: 47 :: 80 :: 132 :: 5 :: 1 :: ds04cX6_copy_4
noncomputable def ds04cX6_copy_2 : List UInt8 := 0 :: 36 :: 21 :: 4 :: 153 :: 0 :: 31 :: 42 :: 180 :: 0 :: 17 :: 27 :: 8 :: 104 :: 21 :: 5 :: ds04cX6_copy_3
noncomputable def ds04cX6_copy_1 : List UInt8 := 0 :: 7 :: 4 :: 167 :: 0 :: 4 :: 3 :: 54 :: 4 :: 3 :: 54 :: 5 :: 21 :: 5 :: 8 :: 162 :: ds04cX6_copy_2
noncomputable def ds04cX6_copy_0 : List UInt8 := 42 :: 27 :: 3 :: 182 :: 0 :: 21 :: 153 :: 0 :: 16 :: 44 :: 29 :: 3 :: 182 :: 0 :: 21 :: 153 :: ds04cX6_copy_1
theorem dt04cX6_copy_0 : cX6_copy.data.toList.drop 0 = ds04cX6_copy_0 := by decide +kernel
theorem dt04cX6_copy_1 : cX6_copy.data.toList.drop 16 = ds04cX6_copy_1 := dq_suf 16 dt04cX6_copy_0 rfl rfl
theorem dt04cX6_copy_2 : cX6_copy.data.toList.drop 32 = ds04cX6_copy_2 := dq_suf 16 dt04cX6_copy_1 rfl rfl
theorem dt04cX6_copy_3 : cX6_copy.data.toList.drop 48 = ds04cX6_copy_3 := dq_suf 16 dt04cX6_copy_2 rfl rfl
theorem dt04cX6_copy_4 : cX6_copy.data.toList.drop 64 = ds04cX6_copy_4 := dq_suf 16 dt04cX6_copy_3 rfl rfl
theorem dX6_copy_0 : decode cX6_copy 0 = .ok (.aload_n 0, 1) := dq_42 (dq_suf 0 dt04cX6_copy_0 rfl rfl)
theorem dX6_copy_1 : decode cX6_copy 1 = .ok (.iload_n 1, 1) := dq_27 (dq_suf 1 dt04cX6_copy_0 rfl rfl)
theorem dX6_copy_2 : decode cX6_copy 2 = .ok (.iconst 0, 1) := dq_3 (dq_suf 2 dt04cX6_copy_0 rfl rfl)
theorem dX6_copy_3 : decode cX6_copy 3 = .ok (.invokevirtual 21, 3) := dq_182 (dq_suf 3 dt04cX6_copy_0 rfl rfl) rfl
theorem dX6_copy_6 : decode cX6_copy 6 = .ok (.ifCond .eq 16, 3) := dq_153 (dq_suf 6 dt04cX6_copy_0 rfl rfl) (by decide +kernel)
theorem dX6_copy_9 : decode cX6_copy 9 = .ok (.aload_n 2, 1) := dq_44 (dq_suf 9 dt04cX6_copy_0 rfl rfl)
theorem dX6_copy_10 : decode cX6_copy 10 = .ok (.iload_n 3, 1) := dq_29 (dq_suf 10 dt04cX6_copy_0 rfl rfl)
theorem dX6_copy_11 : decode cX6_copy 11 = .ok (.iconst 0, 1) := dq_3 (dq_suf 11 dt04cX6_copy_0 rfl rfl)
theorem dX6_copy_12 : decode cX6_copy 12 = .ok (.invokevirtual 21, 3) := dq_182 (dq_suf 12 dt04cX6_copy_0 rfl rfl) rfl
theorem dX6_copy_15 : decode cX6_copy 15 = .ok (.ifCond .eq 7, 3) := dq_153 (dq_suf 15 dt04cX6_copy_0 rfl rfl) (by decide +kernel)
theorem dX6_copy_18 : decode cX6_copy 18 = .ok (.iconst 1, 1) := dq_4 (dq_suf 2 dt04cX6_copy_1 rfl rfl)
theorem dX6_copy_19 : decode cX6_copy 19 = .ok (.goto 4, 3) := dq_167 (dq_suf 3 dt04cX6_copy_1 rfl rfl) (by decide +kernel)
theorem dX6_copy_22 : decode cX6_copy 22 = .ok (.iconst 0, 1) := dq_3 (dq_suf 6 dt04cX6_copy_1 rfl rfl)
theorem dX6_copy_23 : decode cX6_copy 23 = .ok (.istore 4, 2) := dq_54 (dq_suf 7 dt04cX6_copy_1 rfl rfl) rfl
theorem dX6_copy_25 : decode cX6_copy 25 = .ok (.iconst 0, 1) := dq_3 (dq_suf 9 dt04cX6_copy_1 rfl rfl)
theorem dX6_copy_26 : decode cX6_copy 26 = .ok (.istore 5, 2) := dq_54 (dq_suf 10 dt04cX6_copy_1 rfl rfl) rfl
theorem dX6_copy_28 : decode cX6_copy 28 = .ok (.iload 5, 2) := dq_21 (dq_suf 12 dt04cX6_copy_1 rfl rfl) rfl
theorem dX6_copy_30 : decode cX6_copy 30 = .ok (.iconst 5, 1) := dq_8 (dq_suf 14 dt04cX6_copy_1 rfl rfl)
theorem dX6_copy_31 : decode cX6_copy 31 = .ok (.if_icmp .ge 36, 3) := dq_162 (dq_suf 15 dt04cX6_copy_1 rfl rfl) (by decide +kernel)
theorem dX6_copy_34 : decode cX6_copy 34 = .ok (.iload 4, 2) := dq_21 (dq_suf 2 dt04cX6_copy_2 rfl rfl) rfl
theorem dX6_copy_36 : decode cX6_copy 36 = .ok (.ifCond .eq 31, 3) := dq_153 (dq_suf 4 dt04cX6_copy_2 rfl rfl) (by decide +kernel)
theorem dX6_copy_39 : decode cX6_copy 39 = .ok (.aload_n 0, 1) := dq_42 (dq_suf 7 dt04cX6_copy_2 rfl rfl)
theorem dX6_copy_40 : decode cX6_copy 40 = .ok (.getfield 17, 3) := dq_180 (dq_suf 8 dt04cX6_copy_2 rfl rfl) rfl
theorem dX6_copy_43 : decode cX6_copy 43 = .ok (.iload_n 1, 1) := dq_27 (dq_suf 11 dt04cX6_copy_2 rfl rfl)
theorem dX6_copy_44 : decode cX6_copy 44 = .ok (.iconst 5, 1) := dq_8 (dq_suf 12 dt04cX6_copy_2 rfl rfl)
theorem dX6_copy_45 : decode cX6_copy 45 = .ok (.imul, 1) := dq_104 (dq_suf 13 dt04cX6_copy_2 rfl rfl)
theorem dX6_copy_46 : decode cX6_copy 46 = .ok (.iload 5, 2) := dq_21 (dq_suf 14 dt04cX6_copy_2 rfl rfl) rfl
theorem dX6_copy_48 : decode cX6_copy 48 = .ok (.iadd, 1) := dq_96 (dq_suf 0 dt04cX6_copy_3 rfl rfl)
theorem dX6_copy_49 : decode cX6_copy 49 = .ok (.aload_n 2, 1) := dq_44 (dq_suf 1 dt04cX6_copy_3 rfl rfl)
theorem dX6_copy_50 : decode cX6_copy 50 = .ok (.getfield 17, 3) := dq_180 (dq_suf 2 dt04cX6_copy_3 rfl rfl) rfl
theorem dX6_copy_53 : decode cX6_copy 53 = .ok (.iload_n 3, 1) := dq_29 (dq_suf 5 dt04cX6_copy_3 rfl rfl)
theorem dX6_copy_54 : decode cX6_copy 54 = .ok (.iconst 5, 1) := dq_8 (dq_suf 6 dt04cX6_copy_3 rfl rfl)
theorem dX6_copy_55 : decode cX6_copy 55 = .ok (.imul, 1) := dq_104 (dq_suf 7 dt04cX6_copy_3 rfl rfl)
theorem dX6_copy_56 : decode cX6_copy 56 = .ok (.iload 5, 2) := dq_21 (dq_suf 8 dt04cX6_copy_3 rfl rfl) rfl
theorem dX6_copy_58 : decode cX6_copy 58 = .ok (.iadd, 1) := dq_96 (dq_suf 10 dt04cX6_copy_3 rfl rfl)
theorem dX6_copy_59 : decode cX6_copy 59 = .ok (.laload, 1) := dq_47 (dq_suf 11 dt04cX6_copy_3 rfl rfl)
theorem dX6_copy_60 : decode cX6_copy 60 = .ok (.lastore, 1) := dq_80 (dq_suf 12 dt04cX6_copy_3 rfl rfl)
theorem dX6_copy_61 : decode cX6_copy 61 = .ok (.iinc 5 1, 3) := dq_132 (dq_suf 13 dt04cX6_copy_3 rfl rfl) rfl (by decide +kernel)
theorem dX6_copy_64 : decode cX6_copy 64 = .ok (.goto (-36), 3) := dq_167 (dq_suf 0 dt04cX6_copy_4 rfl rfl) (by decide +kernel)
theorem dX6_copy_67 : decode cX6_copy 67 = .ok (.return_, 1) := dq_177 (dq_suf 3 dt04cX6_copy_4 rfl rfl)
noncomputable def ds04cX6_meet_4 : List UInt8 := 132 :: 5 :: 1 :: 167 :: 255 :: 217 :: 177 :: []
noncomputable def ds04cX6_meet_3 : List UInt8 := 96 :: 92 :: 47 :: 44 :: 180 :: 0 :: 17 :: 29 :: 8 :: 104 :: 21 :: 5 :: 96 :: 47 :: 127 :: 80 :: ds04cX6_meet_4
noncomputable def ds04cX6_meet_2 : List UInt8 := 0 :: 39 :: 21 :: 4 :: 153 :: 0 :: 34 :: 42 :: 180 :: 0 :: 17 :: 27 :: 8 :: 104 :: 21 :: 5 :: ds04cX6_meet_3
noncomputable def ds04cX6_meet_1 : List UInt8 := 0 :: 7 :: 4 :: 167 :: 0 :: 4 :: 3 :: 54 :: 4 :: 3 :: 54 :: 5 :: 21 :: 5 :: 8 :: 162 :: ds04cX6_meet_2
noncomputable def ds04cX6_meet_0 : List UInt8 := 42 :: 27 :: 3 :: 182 :: 0 :: 21 :: 153 :: 0 :: 16 :: 44 :: 29 :: 3 :: 182 :: 0 :: 21 :: 153 :: ds04cX6_meet_1
theorem dt04cX6_meet_0 : cX6_meet.data.toList.drop 0 = ds04cX6_meet_0 := by decide +kernel
theorem dt04cX6_meet_1 : cX6_meet.data.toList.drop 16 = ds04cX6_meet_1 := dq_suf 16 dt04cX6_meet_0 rfl rfl
theorem dt04cX6_meet_2 : cX6_meet.data.toList.drop 32 = ds04cX6_meet_2 := dq_suf 16 dt04cX6_meet_1 rfl rfl
theorem dt04cX6_meet_3 : cX6_meet.data.toList.drop 48 = ds04cX6_meet_3 := dq_suf 16 dt04cX6_meet_2 rfl rfl
theorem dt04cX6_meet_4 : cX6_meet.data.toList.drop 64 = ds04cX6_meet_4 := dq_suf 16 dt04cX6_meet_3 rfl rfl
theorem dX6_meet_0 : decode cX6_meet 0 = .ok (.aload_n 0, 1) := dq_42 (dq_suf 0 dt04cX6_meet_0 rfl rfl)
theorem dX6_meet_1 : decode cX6_meet 1 = .ok (.iload_n 1, 1) := dq_27 (dq_suf 1 dt04cX6_meet_0 rfl rfl)
theorem dX6_meet_2 : decode cX6_meet 2 = .ok (.iconst 0, 1) := dq_3 (dq_suf 2 dt04cX6_meet_0 rfl rfl)
theorem dX6_meet_3 : decode cX6_meet 3 = .ok (.invokevirtual 21, 3) := dq_182 (dq_suf 3 dt04cX6_meet_0 rfl rfl) rfl
theorem dX6_meet_6 : decode cX6_meet 6 = .ok (.ifCond .eq 16, 3) := dq_153 (dq_suf 6 dt04cX6_meet_0 rfl rfl) (by decide +kernel)
theorem dX6_meet_9 : decode cX6_meet 9 = .ok (.aload_n 2, 1) := dq_44 (dq_suf 9 dt04cX6_meet_0 rfl rfl)
theorem dX6_meet_10 : decode cX6_meet 10 = .ok (.iload_n 3, 1) := dq_29 (dq_suf 10 dt04cX6_meet_0 rfl rfl)
theorem dX6_meet_11 : decode cX6_meet 11 = .ok (.iconst 0, 1) := dq_3 (dq_suf 11 dt04cX6_meet_0 rfl rfl)
theorem dX6_meet_12 : decode cX6_meet 12 = .ok (.invokevirtual 21, 3) := dq_182 (dq_suf 12 dt04cX6_meet_0 rfl rfl) rfl
theorem dX6_meet_15 : decode cX6_meet 15 = .ok (.ifCond .eq 7, 3) := dq_153 (dq_suf 15 dt04cX6_meet_0 rfl rfl) (by decide +kernel)
theorem dX6_meet_18 : decode cX6_meet 18 = .ok (.iconst 1, 1) := dq_4 (dq_suf 2 dt04cX6_meet_1 rfl rfl)
theorem dX6_meet_19 : decode cX6_meet 19 = .ok (.goto 4, 3) := dq_167 (dq_suf 3 dt04cX6_meet_1 rfl rfl) (by decide +kernel)
theorem dX6_meet_22 : decode cX6_meet 22 = .ok (.iconst 0, 1) := dq_3 (dq_suf 6 dt04cX6_meet_1 rfl rfl)
theorem dX6_meet_23 : decode cX6_meet 23 = .ok (.istore 4, 2) := dq_54 (dq_suf 7 dt04cX6_meet_1 rfl rfl) rfl
theorem dX6_meet_25 : decode cX6_meet 25 = .ok (.iconst 0, 1) := dq_3 (dq_suf 9 dt04cX6_meet_1 rfl rfl)
theorem dX6_meet_26 : decode cX6_meet 26 = .ok (.istore 5, 2) := dq_54 (dq_suf 10 dt04cX6_meet_1 rfl rfl) rfl
theorem dX6_meet_28 : decode cX6_meet 28 = .ok (.iload 5, 2) := dq_21 (dq_suf 12 dt04cX6_meet_1 rfl rfl) rfl
theorem dX6_meet_30 : decode cX6_meet 30 = .ok (.iconst 5, 1) := dq_8 (dq_suf 14 dt04cX6_meet_1 rfl rfl)
theorem dX6_meet_31 : decode cX6_meet 31 = .ok (.if_icmp .ge 39, 3) := dq_162 (dq_suf 15 dt04cX6_meet_1 rfl rfl) (by decide +kernel)
theorem dX6_meet_34 : decode cX6_meet 34 = .ok (.iload 4, 2) := dq_21 (dq_suf 2 dt04cX6_meet_2 rfl rfl) rfl
theorem dX6_meet_36 : decode cX6_meet 36 = .ok (.ifCond .eq 34, 3) := dq_153 (dq_suf 4 dt04cX6_meet_2 rfl rfl) (by decide +kernel)
theorem dX6_meet_39 : decode cX6_meet 39 = .ok (.aload_n 0, 1) := dq_42 (dq_suf 7 dt04cX6_meet_2 rfl rfl)
theorem dX6_meet_40 : decode cX6_meet 40 = .ok (.getfield 17, 3) := dq_180 (dq_suf 8 dt04cX6_meet_2 rfl rfl) rfl
theorem dX6_meet_43 : decode cX6_meet 43 = .ok (.iload_n 1, 1) := dq_27 (dq_suf 11 dt04cX6_meet_2 rfl rfl)
theorem dX6_meet_44 : decode cX6_meet 44 = .ok (.iconst 5, 1) := dq_8 (dq_suf 12 dt04cX6_meet_2 rfl rfl)
theorem dX6_meet_45 : decode cX6_meet 45 = .ok (.imul, 1) := dq_104 (dq_suf 13 dt04cX6_meet_2 rfl rfl)
theorem dX6_meet_46 : decode cX6_meet 46 = .ok (.iload 5, 2) := dq_21 (dq_suf 14 dt04cX6_meet_2 rfl rfl) rfl
theorem dX6_meet_48 : decode cX6_meet 48 = .ok (.iadd, 1) := dq_96 (dq_suf 0 dt04cX6_meet_3 rfl rfl)
theorem dX6_meet_49 : decode cX6_meet 49 = .ok (.dup2, 1) := dq_92 (dq_suf 1 dt04cX6_meet_3 rfl rfl)
theorem dX6_meet_50 : decode cX6_meet 50 = .ok (.laload, 1) := dq_47 (dq_suf 2 dt04cX6_meet_3 rfl rfl)
theorem dX6_meet_51 : decode cX6_meet 51 = .ok (.aload_n 2, 1) := dq_44 (dq_suf 3 dt04cX6_meet_3 rfl rfl)
theorem dX6_meet_52 : decode cX6_meet 52 = .ok (.getfield 17, 3) := dq_180 (dq_suf 4 dt04cX6_meet_3 rfl rfl) rfl
theorem dX6_meet_55 : decode cX6_meet 55 = .ok (.iload_n 3, 1) := dq_29 (dq_suf 7 dt04cX6_meet_3 rfl rfl)
theorem dX6_meet_56 : decode cX6_meet 56 = .ok (.iconst 5, 1) := dq_8 (dq_suf 8 dt04cX6_meet_3 rfl rfl)
theorem dX6_meet_57 : decode cX6_meet 57 = .ok (.imul, 1) := dq_104 (dq_suf 9 dt04cX6_meet_3 rfl rfl)
theorem dX6_meet_58 : decode cX6_meet 58 = .ok (.iload 5, 2) := dq_21 (dq_suf 10 dt04cX6_meet_3 rfl rfl) rfl
theorem dX6_meet_60 : decode cX6_meet 60 = .ok (.iadd, 1) := dq_96 (dq_suf 12 dt04cX6_meet_3 rfl rfl)
theorem dX6_meet_61 : decode cX6_meet 61 = .ok (.laload, 1) := dq_47 (dq_suf 13 dt04cX6_meet_3 rfl rfl)
theorem dX6_meet_62 : decode cX6_meet 62 = .ok (.land, 1) := dq_127 (dq_suf 14 dt04cX6_meet_3 rfl rfl)
theorem dX6_meet_63 : decode cX6_meet 63 = .ok (.lastore, 1) := dq_80 (dq_suf 15 dt04cX6_meet_3 rfl rfl)
theorem dX6_meet_64 : decode cX6_meet 64 = .ok (.iinc 5 1, 3) := dq_132 (dq_suf 0 dt04cX6_meet_4 rfl rfl) rfl (by decide +kernel)
theorem dX6_meet_67 : decode cX6_meet 67 = .ok (.goto (-39), 3) := dq_167 (dq_suf 3 dt04cX6_meet_4 rfl rfl) (by decide +kernel)
theorem dX6_meet_70 : decode cX6_meet 70 = .ok (.return_, 1) := dq_177 (dq_suf 6 dt04cX6_meet_4 rfl rfl)
noncomputable def ds04cX6_isSame_4 : List UInt8 := 167 :: 0 :: 4 :: 3 :: 62 :: 132 :: 4 :: 1 :: 167 :: 255 :: 211 :: 29 :: 172 :: []
noncomputable def ds04cX6_isSame_3 : List UInt8 := 42 :: 180 :: 0 :: 17 :: 28 :: 8 :: 104 :: 21 :: 4 :: 96 :: 47 :: 148 :: 154 :: 0 :: 7 :: 4 :: ds04cX6_isSame_4
noncomputable def ds04cX6_isSame_2 : List UInt8 := 45 :: 29 :: 153 :: 0 :: 41 :: 42 :: 180 :: 0 :: 17 :: 27 :: 8 :: 104 :: 21 :: 4 :: 96 :: 47 :: ds04cX6_isSame_3
noncomputable def ds04cX6_isSame_1 : List UInt8 := 0 :: 7 :: 4 :: 167 :: 0 :: 4 :: 3 :: 62 :: 3 :: 54 :: 4 :: 21 :: 4 :: 8 :: 162 :: 0 :: ds04cX6_isSame_2
noncomputable def ds04cX6_isSame_0 : List UInt8 := 42 :: 27 :: 3 :: 182 :: 0 :: 21 :: 153 :: 0 :: 16 :: 42 :: 28 :: 3 :: 182 :: 0 :: 21 :: 153 :: ds04cX6_isSame_1
theorem dt04cX6_isSame_0 : cX6_isSame.data.toList.drop 0 = ds04cX6_isSame_0 := by decide +kernel
theorem dt04cX6_isSame_1 : cX6_isSame.data.toList.drop 16 = ds04cX6_isSame_1 := dq_suf 16 dt04cX6_isSame_0 rfl rfl
theorem dt04cX6_isSame_2 : cX6_isSame.data.toList.drop 32 = ds04cX6_isSame_2 := dq_suf 16 dt04cX6_isSame_1 rfl rfl
theorem dt04cX6_isSame_3 : cX6_isSame.data.toList.drop 48 = ds04cX6_isSame_3 := dq_suf 16 dt04cX6_isSame_2 rfl rfl
theorem dt04cX6_isSame_4 : cX6_isSame.data.toList.drop 64 = ds04cX6_isSame_4 := dq_suf 16 dt04cX6_isSame_3 rfl rfl
theorem dX6_isSame_0 : decode cX6_isSame 0 = .ok (.aload_n 0, 1) := dq_42 (dq_suf 0 dt04cX6_isSame_0 rfl rfl)
theorem dX6_isSame_1 : decode cX6_isSame 1 = .ok (.iload_n 1, 1) := dq_27 (dq_suf 1 dt04cX6_isSame_0 rfl rfl)
theorem dX6_isSame_2 : decode cX6_isSame 2 = .ok (.iconst 0, 1) := dq_3 (dq_suf 2 dt04cX6_isSame_0 rfl rfl)
theorem dX6_isSame_3 : decode cX6_isSame 3 = .ok (.invokevirtual 21, 3) := dq_182 (dq_suf 3 dt04cX6_isSame_0 rfl rfl) rfl
theorem dX6_isSame_6 : decode cX6_isSame 6 = .ok (.ifCond .eq 16, 3) := dq_153 (dq_suf 6 dt04cX6_isSame_0 rfl rfl) (by decide +kernel)
theorem dX6_isSame_9 : decode cX6_isSame 9 = .ok (.aload_n 0, 1) := dq_42 (dq_suf 9 dt04cX6_isSame_0 rfl rfl)
theorem dX6_isSame_10 : decode cX6_isSame 10 = .ok (.iload_n 2, 1) := dq_28 (dq_suf 10 dt04cX6_isSame_0 rfl rfl)
theorem dX6_isSame_11 : decode cX6_isSame 11 = .ok (.iconst 0, 1) := dq_3 (dq_suf 11 dt04cX6_isSame_0 rfl rfl)
theorem dX6_isSame_12 : decode cX6_isSame 12 = .ok (.invokevirtual 21, 3) := dq_182 (dq_suf 12 dt04cX6_isSame_0 rfl rfl) rfl
theorem dX6_isSame_15 : decode cX6_isSame 15 = .ok (.ifCond .eq 7, 3) := dq_153 (dq_suf 15 dt04cX6_isSame_0 rfl rfl) (by decide +kernel)
theorem dX6_isSame_18 : decode cX6_isSame 18 = .ok (.iconst 1, 1) := dq_4 (dq_suf 2 dt04cX6_isSame_1 rfl rfl)
theorem dX6_isSame_19 : decode cX6_isSame 19 = .ok (.goto 4, 3) := dq_167 (dq_suf 3 dt04cX6_isSame_1 rfl rfl) (by decide +kernel)
theorem dX6_isSame_22 : decode cX6_isSame 22 = .ok (.iconst 0, 1) := dq_3 (dq_suf 6 dt04cX6_isSame_1 rfl rfl)
theorem dX6_isSame_23 : decode cX6_isSame 23 = .ok (.istore_n 3, 1) := dq_62 (dq_suf 7 dt04cX6_isSame_1 rfl rfl)
theorem dX6_isSame_24 : decode cX6_isSame 24 = .ok (.iconst 0, 1) := dq_3 (dq_suf 8 dt04cX6_isSame_1 rfl rfl)
theorem dX6_isSame_25 : decode cX6_isSame 25 = .ok (.istore 4, 2) := dq_54 (dq_suf 9 dt04cX6_isSame_1 rfl rfl) rfl
theorem dX6_isSame_27 : decode cX6_isSame 27 = .ok (.iload 4, 2) := dq_21 (dq_suf 11 dt04cX6_isSame_1 rfl rfl) rfl
theorem dX6_isSame_29 : decode cX6_isSame 29 = .ok (.iconst 5, 1) := dq_8 (dq_suf 13 dt04cX6_isSame_1 rfl rfl)
theorem dX6_isSame_30 : decode cX6_isSame 30 = .ok (.if_icmp .ge 45, 3) := dq_162 (dq_suf 14 dt04cX6_isSame_1 rfl rfl) (by decide +kernel)
theorem dX6_isSame_33 : decode cX6_isSame 33 = .ok (.iload_n 3, 1) := dq_29 (dq_suf 1 dt04cX6_isSame_2 rfl rfl)
theorem dX6_isSame_34 : decode cX6_isSame 34 = .ok (.ifCond .eq 41, 3) := dq_153 (dq_suf 2 dt04cX6_isSame_2 rfl rfl) (by decide +kernel)
theorem dX6_isSame_37 : decode cX6_isSame 37 = .ok (.aload_n 0, 1) := dq_42 (dq_suf 5 dt04cX6_isSame_2 rfl rfl)
theorem dX6_isSame_38 : decode cX6_isSame 38 = .ok (.getfield 17, 3) := dq_180 (dq_suf 6 dt04cX6_isSame_2 rfl rfl) rfl
theorem dX6_isSame_41 : decode cX6_isSame 41 = .ok (.iload_n 1, 1) := dq_27 (dq_suf 9 dt04cX6_isSame_2 rfl rfl)
theorem dX6_isSame_42 : decode cX6_isSame 42 = .ok (.iconst 5, 1) := dq_8 (dq_suf 10 dt04cX6_isSame_2 rfl rfl)
theorem dX6_isSame_43 : decode cX6_isSame 43 = .ok (.imul, 1) := dq_104 (dq_suf 11 dt04cX6_isSame_2 rfl rfl)
theorem dX6_isSame_44 : decode cX6_isSame 44 = .ok (.iload 4, 2) := dq_21 (dq_suf 12 dt04cX6_isSame_2 rfl rfl) rfl
theorem dX6_isSame_46 : decode cX6_isSame 46 = .ok (.iadd, 1) := dq_96 (dq_suf 14 dt04cX6_isSame_2 rfl rfl)
theorem dX6_isSame_47 : decode cX6_isSame 47 = .ok (.laload, 1) := dq_47 (dq_suf 15 dt04cX6_isSame_2 rfl rfl)
theorem dX6_isSame_48 : decode cX6_isSame 48 = .ok (.aload_n 0, 1) := dq_42 (dq_suf 0 dt04cX6_isSame_3 rfl rfl)
theorem dX6_isSame_49 : decode cX6_isSame 49 = .ok (.getfield 17, 3) := dq_180 (dq_suf 1 dt04cX6_isSame_3 rfl rfl) rfl
theorem dX6_isSame_52 : decode cX6_isSame 52 = .ok (.iload_n 2, 1) := dq_28 (dq_suf 4 dt04cX6_isSame_3 rfl rfl)
theorem dX6_isSame_53 : decode cX6_isSame 53 = .ok (.iconst 5, 1) := dq_8 (dq_suf 5 dt04cX6_isSame_3 rfl rfl)
theorem dX6_isSame_54 : decode cX6_isSame 54 = .ok (.imul, 1) := dq_104 (dq_suf 6 dt04cX6_isSame_3 rfl rfl)
theorem dX6_isSame_55 : decode cX6_isSame 55 = .ok (.iload 4, 2) := dq_21 (dq_suf 7 dt04cX6_isSame_3 rfl rfl) rfl
theorem dX6_isSame_57 : decode cX6_isSame 57 = .ok (.iadd, 1) := dq_96 (dq_suf 9 dt04cX6_isSame_3 rfl rfl)
theorem dX6_isSame_58 : decode cX6_isSame 58 = .ok (.laload, 1) := dq_47 (dq_suf 10 dt04cX6_isSame_3 rfl rfl)
theorem dX6_isSame_59 : decode cX6_isSame 59 = .ok (.lcmp, 1) := dq_148 (dq_suf 11 dt04cX6_isSame_3 rfl rfl)
theorem dX6_isSame_60 : decode cX6_isSame 60 = .ok (.ifCond .ne 7, 3) := dq_154 (dq_suf 12 dt04cX6_isSame_3 rfl rfl) (by decide +kernel)
theorem dX6_isSame_63 : decode cX6_isSame 63 = .ok (.iconst 1, 1) := dq_4 (dq_suf 15 dt04cX6_isSame_3 rfl rfl)
theorem dX6_isSame_64 : decode cX6_isSame 64 = .ok (.goto 4, 3) := dq_167 (dq_suf 0 dt04cX6_isSame_4 rfl rfl) (by decide +kernel)
theorem dX6_isSame_67 : decode cX6_isSame 67 = .ok (.iconst 0, 1) := dq_3 (dq_suf 3 dt04cX6_isSame_4 rfl rfl)
theorem dX6_isSame_68 : decode cX6_isSame 68 = .ok (.istore_n 3, 1) := dq_62 (dq_suf 4 dt04cX6_isSame_4 rfl rfl)
theorem dX6_isSame_69 : decode cX6_isSame 69 = .ok (.iinc 4 1, 3) := dq_132 (dq_suf 5 dt04cX6_isSame_4 rfl rfl) rfl (by decide +kernel)
theorem dX6_isSame_72 : decode cX6_isSame 72 = .ok (.goto (-45), 3) := dq_167 (dq_suf 8 dt04cX6_isSame_4 rfl rfl) (by decide +kernel)
theorem dX6_isSame_75 : decode cX6_isSame 75 = .ok (.iload_n 3, 1) := dq_29 (dq_suf 11 dt04cX6_isSame_4 rfl rfl)
theorem dX6_isSame_76 : decode cX6_isSame 76 = .ok (.ireturn, 1) := dq_172 (dq_suf 12 dt04cX6_isSame_4 rfl rfl)
noncomputable def ds04cX6_sizeOf_1 : List UInt8 := 184 :: 0 :: 31 :: 96 :: 61 :: 132 :: 3 :: 1 :: 167 :: 255 :: 236 :: 28 :: 172 :: []
noncomputable def ds04cX6_sizeOf_0 : List UInt8 := 3 :: 61 :: 3 :: 62 :: 29 :: 8 :: 162 :: 0 :: 21 :: 28 :: 42 :: 27 :: 29 :: 182 :: 0 :: 27 :: ds04cX6_sizeOf_1
theorem dt04cX6_sizeOf_0 : cX6_sizeOf.data.toList.drop 0 = ds04cX6_sizeOf_0 := by decide +kernel
theorem dt04cX6_sizeOf_1 : cX6_sizeOf.data.toList.drop 16 = ds04cX6_sizeOf_1 := dq_suf 16 dt04cX6_sizeOf_0 rfl rfl
theorem dX6_sizeOf_0 : decode cX6_sizeOf 0 = .ok (.iconst 0, 1) := dq_3 (dq_suf 0 dt04cX6_sizeOf_0 rfl rfl)
theorem dX6_sizeOf_1 : decode cX6_sizeOf 1 = .ok (.istore_n 2, 1) := dq_61 (dq_suf 1 dt04cX6_sizeOf_0 rfl rfl)
theorem dX6_sizeOf_2 : decode cX6_sizeOf 2 = .ok (.iconst 0, 1) := dq_3 (dq_suf 2 dt04cX6_sizeOf_0 rfl rfl)
theorem dX6_sizeOf_3 : decode cX6_sizeOf 3 = .ok (.istore_n 3, 1) := dq_62 (dq_suf 3 dt04cX6_sizeOf_0 rfl rfl)
theorem dX6_sizeOf_4 : decode cX6_sizeOf 4 = .ok (.iload_n 3, 1) := dq_29 (dq_suf 4 dt04cX6_sizeOf_0 rfl rfl)
theorem dX6_sizeOf_5 : decode cX6_sizeOf 5 = .ok (.iconst 5, 1) := dq_8 (dq_suf 5 dt04cX6_sizeOf_0 rfl rfl)
theorem dX6_sizeOf_6 : decode cX6_sizeOf 6 = .ok (.if_icmp .ge 21, 3) := dq_162 (dq_suf 6 dt04cX6_sizeOf_0 rfl rfl) (by decide +kernel)
theorem dX6_sizeOf_9 : decode cX6_sizeOf 9 = .ok (.iload_n 2, 1) := dq_28 (dq_suf 9 dt04cX6_sizeOf_0 rfl rfl)
theorem dX6_sizeOf_10 : decode cX6_sizeOf 10 = .ok (.aload_n 0, 1) := dq_42 (dq_suf 10 dt04cX6_sizeOf_0 rfl rfl)
theorem dX6_sizeOf_11 : decode cX6_sizeOf 11 = .ok (.iload_n 1, 1) := dq_27 (dq_suf 11 dt04cX6_sizeOf_0 rfl rfl)
theorem dX6_sizeOf_12 : decode cX6_sizeOf 12 = .ok (.iload_n 3, 1) := dq_29 (dq_suf 12 dt04cX6_sizeOf_0 rfl rfl)
theorem dX6_sizeOf_13 : decode cX6_sizeOf 13 = .ok (.invokevirtual 27, 3) := dq_182 (dq_suf 13 dt04cX6_sizeOf_0 rfl rfl) rfl
theorem dX6_sizeOf_16 : decode cX6_sizeOf 16 = .ok (.invokestatic 31, 3) := dq_184 (dq_suf 0 dt04cX6_sizeOf_1 rfl rfl) rfl
theorem dX6_sizeOf_19 : decode cX6_sizeOf 19 = .ok (.iadd, 1) := dq_96 (dq_suf 3 dt04cX6_sizeOf_1 rfl rfl)
theorem dX6_sizeOf_20 : decode cX6_sizeOf 20 = .ok (.istore_n 2, 1) := dq_61 (dq_suf 4 dt04cX6_sizeOf_1 rfl rfl)
theorem dX6_sizeOf_21 : decode cX6_sizeOf 21 = .ok (.iinc 3 1, 3) := dq_132 (dq_suf 5 dt04cX6_sizeOf_1 rfl rfl) rfl (by decide +kernel)
theorem dX6_sizeOf_24 : decode cX6_sizeOf 24 = .ok (.goto (-20), 3) := dq_167 (dq_suf 8 dt04cX6_sizeOf_1 rfl rfl) (by decide +kernel)
theorem dX6_sizeOf_27 : decode cX6_sizeOf 27 = .ok (.iload_n 2, 1) := dq_28 (dq_suf 11 dt04cX6_sizeOf_1 rfl rfl)
theorem dX6_sizeOf_28 : decode cX6_sizeOf 28 = .ok (.ireturn, 1) := dq_172 (dq_suf 12 dt04cX6_sizeOf_1 rfl rfl)
noncomputable def ds04cX6_isPlace_1 : List UInt8 := 42 :: 180 :: 0 :: 17 :: 190 :: 8 :: 108 :: 162 :: 0 :: 7 :: 4 :: 167 :: 0 :: 4 :: 3 :: 172 :: []
noncomputable def ds04cX6_isPlace_0 : List UInt8 := 28 :: 155 :: 0 :: 29 :: 28 :: 17 :: 1 :: 64 :: 162 :: 0 :: 22 :: 27 :: 155 :: 0 :: 18 :: 27 :: ds04cX6_isPlace_1
theorem dt04cX6_isPlace_0 : cX6_isPlace.data.toList.drop 0 = ds04cX6_isPlace_0 := by decide +kernel
theorem dt04cX6_isPlace_1 : cX6_isPlace.data.toList.drop 16 = ds04cX6_isPlace_1 := dq_suf 16 dt04cX6_isPlace_0 rfl rfl
theorem dX6_isPlace_0 : decode cX6_isPlace 0 = .ok (.iload_n 2, 1) := dq_28 (dq_suf 0 dt04cX6_isPlace_0 rfl rfl)
theorem dX6_isPlace_1 : decode cX6_isPlace 1 = .ok (.ifCond .lt 29, 3) := dq_155 (dq_suf 1 dt04cX6_isPlace_0 rfl rfl) (by decide +kernel)
theorem dX6_isPlace_4 : decode cX6_isPlace 4 = .ok (.iload_n 2, 1) := dq_28 (dq_suf 4 dt04cX6_isPlace_0 rfl rfl)
theorem dX6_isPlace_5 : decode cX6_isPlace 5 = .ok (.sipush 320, 3) := dq_17 (dq_suf 5 dt04cX6_isPlace_0 rfl rfl) (by decide +kernel)
theorem dX6_isPlace_8 : decode cX6_isPlace 8 = .ok (.if_icmp .ge 22, 3) := dq_162 (dq_suf 8 dt04cX6_isPlace_0 rfl rfl) (by decide +kernel)
theorem dX6_isPlace_11 : decode cX6_isPlace 11 = .ok (.iload_n 1, 1) := dq_27 (dq_suf 11 dt04cX6_isPlace_0 rfl rfl)
theorem dX6_isPlace_12 : decode cX6_isPlace 12 = .ok (.ifCond .lt 18, 3) := dq_155 (dq_suf 12 dt04cX6_isPlace_0 rfl rfl) (by decide +kernel)
theorem dX6_isPlace_15 : decode cX6_isPlace 15 = .ok (.iload_n 1, 1) := dq_27 (dq_suf 15 dt04cX6_isPlace_0 rfl rfl)
theorem dX6_isPlace_16 : decode cX6_isPlace 16 = .ok (.aload_n 0, 1) := dq_42 (dq_suf 0 dt04cX6_isPlace_1 rfl rfl)
theorem dX6_isPlace_17 : decode cX6_isPlace 17 = .ok (.getfield 17, 3) := dq_180 (dq_suf 1 dt04cX6_isPlace_1 rfl rfl) rfl
theorem dX6_isPlace_20 : decode cX6_isPlace 20 = .ok (.arraylength, 1) := dq_190 (dq_suf 4 dt04cX6_isPlace_1 rfl rfl)
theorem dX6_isPlace_21 : decode cX6_isPlace 21 = .ok (.iconst 5, 1) := dq_8 (dq_suf 5 dt04cX6_isPlace_1 rfl rfl)
theorem dX6_isPlace_22 : decode cX6_isPlace 22 = .ok (.idiv, 1) := dq_108 (dq_suf 6 dt04cX6_isPlace_1 rfl rfl)
theorem dX6_isPlace_23 : decode cX6_isPlace 23 = .ok (.if_icmp .ge 7, 3) := dq_162 (dq_suf 7 dt04cX6_isPlace_1 rfl rfl) (by decide +kernel)
theorem dX6_isPlace_26 : decode cX6_isPlace 26 = .ok (.iconst 1, 1) := dq_4 (dq_suf 10 dt04cX6_isPlace_1 rfl rfl)
theorem dX6_isPlace_27 : decode cX6_isPlace 27 = .ok (.goto 4, 3) := dq_167 (dq_suf 11 dt04cX6_isPlace_1 rfl rfl) (by decide +kernel)
theorem dX6_isPlace_30 : decode cX6_isPlace 30 = .ok (.iconst 0, 1) := dq_3 (dq_suf 14 dt04cX6_isPlace_1 rfl rfl)
theorem dX6_isPlace_31 : decode cX6_isPlace 31 = .ok (.ireturn, 1) := dq_172 (dq_suf 15 dt04cX6_isPlace_1 rfl rfl)
noncomputable def ds04cX7_init_4 : List UInt8 := 2 :: 182 :: 0 :: 33 :: 182 :: 0 :: 37 :: 177 :: []
noncomputable def ds04cX7_init_3 : List UInt8 := 0 :: 26 :: 181 :: 0 :: 29 :: 42 :: 42 :: 3 :: 2 :: 2 :: 182 :: 0 :: 33 :: 42 :: 4 :: 2 :: ds04cX7_init_4
noncomputable def ds04cX7_init_2 : List UInt8 := 17 :: 1 :: 44 :: 188 :: 10 :: 181 :: 0 :: 21 :: 42 :: 187 :: 0 :: 24 :: 89 :: 16 :: 8 :: 183 :: ds04cX7_init_3
noncomputable def ds04cX7_init_1 : List UInt8 := 44 :: 188 :: 10 :: 181 :: 0 :: 15 :: 42 :: 17 :: 1 :: 44 :: 188 :: 10 :: 181 :: 0 :: 18 :: 42 :: ds04cX7_init_2
noncomputable def ds04cX7_init_0 : List UInt8 := 42 :: 183 :: 0 :: 3 :: 42 :: 17 :: 1 :: 44 :: 188 :: 10 :: 181 :: 0 :: 9 :: 42 :: 17 :: 1 :: ds04cX7_init_1
theorem dt04cX7_init_0 : cX7_init.data.toList.drop 0 = ds04cX7_init_0 := by decide +kernel
theorem dt04cX7_init_1 : cX7_init.data.toList.drop 16 = ds04cX7_init_1 := dq_suf 16 dt04cX7_init_0 rfl rfl
theorem dt04cX7_init_2 : cX7_init.data.toList.drop 32 = ds04cX7_init_2 := dq_suf 16 dt04cX7_init_1 rfl rfl
theorem dt04cX7_init_3 : cX7_init.data.toList.drop 48 = ds04cX7_init_3 := dq_suf 16 dt04cX7_init_2 rfl rfl
theorem dt04cX7_init_4 : cX7_init.data.toList.drop 64 = ds04cX7_init_4 := dq_suf 16 dt04cX7_init_3 rfl rfl
theorem dX7_init_0 : decode cX7_init 0 = .ok (.aload_n 0, 1) := dq_42 (dq_suf 0 dt04cX7_init_0 rfl rfl)
theorem dX7_init_1 : decode cX7_init 1 = .ok (.invokespecial 3, 3) := dq_183 (dq_suf 1 dt04cX7_init_0 rfl rfl) rfl
theorem dX7_init_4 : decode cX7_init 4 = .ok (.aload_n 0, 1) := dq_42 (dq_suf 4 dt04cX7_init_0 rfl rfl)
theorem dX7_init_5 : decode cX7_init 5 = .ok (.sipush 300, 3) := dq_17 (dq_suf 5 dt04cX7_init_0 rfl rfl) (by decide +kernel)
theorem dX7_init_8 : decode cX7_init 8 = .ok (.newarray .int, 2) := by decide +kernel
theorem dX7_init_10 : decode cX7_init 10 = .ok (.putfield 9, 3) := dq_181 (dq_suf 10 dt04cX7_init_0 rfl rfl) rfl
theorem dX7_init_13 : decode cX7_init 13 = .ok (.aload_n 0, 1) := dq_42 (dq_suf 13 dt04cX7_init_0 rfl rfl)
theorem dX7_init_14 : decode cX7_init 14 = .ok (.sipush 300, 3) := dq_17 (dq_suf 14 dt04cX7_init_0 rfl rfl) (by decide +kernel)
theorem dX7_init_17 : decode cX7_init 17 = .ok (.newarray .int, 2) := by decide +kernel
theorem dX7_init_19 : decode cX7_init 19 = .ok (.putfield 15, 3) := dq_181 (dq_suf 3 dt04cX7_init_1 rfl rfl) rfl
theorem dX7_init_22 : decode cX7_init 22 = .ok (.aload_n 0, 1) := dq_42 (dq_suf 6 dt04cX7_init_1 rfl rfl)
theorem dX7_init_23 : decode cX7_init 23 = .ok (.sipush 300, 3) := dq_17 (dq_suf 7 dt04cX7_init_1 rfl rfl) (by decide +kernel)
theorem dX7_init_26 : decode cX7_init 26 = .ok (.newarray .int, 2) := by decide +kernel
theorem dX7_init_28 : decode cX7_init 28 = .ok (.putfield 18, 3) := dq_181 (dq_suf 12 dt04cX7_init_1 rfl rfl) rfl
theorem dX7_init_31 : decode cX7_init 31 = .ok (.aload_n 0, 1) := dq_42 (dq_suf 15 dt04cX7_init_1 rfl rfl)
theorem dX7_init_32 : decode cX7_init 32 = .ok (.sipush 300, 3) := dq_17 (dq_suf 0 dt04cX7_init_2 rfl rfl) (by decide +kernel)
theorem dX7_init_35 : decode cX7_init 35 = .ok (.newarray .int, 2) := by decide +kernel
theorem dX7_init_37 : decode cX7_init 37 = .ok (.putfield 21, 3) := dq_181 (dq_suf 5 dt04cX7_init_2 rfl rfl) rfl
theorem dX7_init_40 : decode cX7_init 40 = .ok (.aload_n 0, 1) := dq_42 (dq_suf 8 dt04cX7_init_2 rfl rfl)
theorem dX7_init_41 : decode cX7_init 41 = .ok (.new 24, 3) := dq_187 (dq_suf 9 dt04cX7_init_2 rfl rfl) rfl
theorem dX7_init_44 : decode cX7_init 44 = .ok (.dup, 1) := dq_89 (dq_suf 12 dt04cX7_init_2 rfl rfl)
theorem dX7_init_45 : decode cX7_init 45 = .ok (.bipush 8, 2) := dq_16 (dq_suf 13 dt04cX7_init_2 rfl rfl) (by decide +kernel)
theorem dX7_init_47 : decode cX7_init 47 = .ok (.invokespecial 26, 3) := dq_183 (dq_suf 15 dt04cX7_init_2 rfl rfl) rfl
theorem dX7_init_50 : decode cX7_init 50 = .ok (.putfield 29, 3) := dq_181 (dq_suf 2 dt04cX7_init_3 rfl rfl) rfl
theorem dX7_init_53 : decode cX7_init 53 = .ok (.aload_n 0, 1) := dq_42 (dq_suf 5 dt04cX7_init_3 rfl rfl)
theorem dX7_init_54 : decode cX7_init 54 = .ok (.aload_n 0, 1) := dq_42 (dq_suf 6 dt04cX7_init_3 rfl rfl)
theorem dX7_init_55 : decode cX7_init 55 = .ok (.iconst 0, 1) := dq_3 (dq_suf 7 dt04cX7_init_3 rfl rfl)
theorem dX7_init_56 : decode cX7_init 56 = .ok (.iconst (-1), 1) := dq_2 (dq_suf 8 dt04cX7_init_3 rfl rfl)
theorem dX7_init_57 : decode cX7_init 57 = .ok (.iconst (-1), 1) := dq_2 (dq_suf 9 dt04cX7_init_3 rfl rfl)
theorem dX7_init_58 : decode cX7_init 58 = .ok (.invokevirtual 33, 3) := dq_182 (dq_suf 10 dt04cX7_init_3 rfl rfl) rfl
theorem dX7_init_61 : decode cX7_init 61 = .ok (.aload_n 0, 1) := dq_42 (dq_suf 13 dt04cX7_init_3 rfl rfl)
theorem dX7_init_62 : decode cX7_init 62 = .ok (.iconst 1, 1) := dq_4 (dq_suf 14 dt04cX7_init_3 rfl rfl)
theorem dX7_init_63 : decode cX7_init 63 = .ok (.iconst (-1), 1) := dq_2 (dq_suf 15 dt04cX7_init_3 rfl rfl)
theorem dX7_init_64 : decode cX7_init 64 = .ok (.iconst (-1), 1) := dq_2 (dq_suf 0 dt04cX7_init_4 rfl rfl)
theorem dX7_init_65 : decode cX7_init 65 = .ok (.invokevirtual 33, 3) := dq_182 (dq_suf 1 dt04cX7_init_4 rfl rfl) rfl
theorem dX7_init_68 : decode cX7_init 68 = .ok (.invokevirtual 37, 3) := dq_182 (dq_suf 4 dt04cX7_init_4 rfl rfl) rfl
theorem dX7_init_71 : decode cX7_init 71 = .ok (.return_, 1) := dq_177 (dq_suf 7 dt04cX7_init_4 rfl rfl)
noncomputable def ds04cX7_size_0 : List UInt8 := 42 :: 180 :: 0 :: 41 :: 172 :: []
theorem dt04cX7_size_0 : cX7_size.data.toList.drop 0 = ds04cX7_size_0 := by decide +kernel
theorem dX7_size_0 : decode cX7_size 0 = .ok (.aload_n 0, 1) := dq_42 (dq_suf 0 dt04cX7_size_0 rfl rfl)
theorem dX7_size_1 : decode cX7_size 1 = .ok (.getfield 41, 3) := dq_180 (dq_suf 1 dt04cX7_size_0 rfl rfl) rfl
theorem dX7_size_4 : decode cX7_size 4 = .ok (.ireturn, 1) := dq_172 (dq_suf 4 dt04cX7_size_0 rfl rfl)
noncomputable def ds04cX7_has_1 : List UInt8 := 3 :: 172 :: []
noncomputable def ds04cX7_has_0 : List UInt8 := 27 :: 155 :: 0 :: 15 :: 27 :: 42 :: 180 :: 0 :: 41 :: 162 :: 0 :: 7 :: 4 :: 167 :: 0 :: 4 :: ds04cX7_has_1
theorem dt04cX7_has_0 : cX7_has.data.toList.drop 0 = ds04cX7_has_0 := by decide +kernel
theorem dt04cX7_has_1 : cX7_has.data.toList.drop 16 = ds04cX7_has_1 := dq_suf 16 dt04cX7_has_0 rfl rfl
theorem dX7_has_0 : decode cX7_has 0 = .ok (.iload_n 1, 1) := dq_27 (dq_suf 0 dt04cX7_has_0 rfl rfl)
theorem dX7_has_1 : decode cX7_has 1 = .ok (.ifCond .lt 15, 3) := dq_155 (dq_suf 1 dt04cX7_has_0 rfl rfl) (by decide +kernel)
theorem dX7_has_4 : decode cX7_has 4 = .ok (.iload_n 1, 1) := dq_27 (dq_suf 4 dt04cX7_has_0 rfl rfl)
theorem dX7_has_5 : decode cX7_has 5 = .ok (.aload_n 0, 1) := dq_42 (dq_suf 5 dt04cX7_has_0 rfl rfl)
theorem dX7_has_6 : decode cX7_has 6 = .ok (.getfield 41, 3) := dq_180 (dq_suf 6 dt04cX7_has_0 rfl rfl) rfl
theorem dX7_has_9 : decode cX7_has 9 = .ok (.if_icmp .ge 7, 3) := dq_162 (dq_suf 9 dt04cX7_has_0 rfl rfl) (by decide +kernel)
theorem dX7_has_12 : decode cX7_has 12 = .ok (.iconst 1, 1) := dq_4 (dq_suf 12 dt04cX7_has_0 rfl rfl)
theorem dX7_has_13 : decode cX7_has 13 = .ok (.goto 4, 3) := dq_167 (dq_suf 13 dt04cX7_has_0 rfl rfl) (by decide +kernel)
theorem dX7_has_16 : decode cX7_has 16 = .ok (.iconst 0, 1) := dq_3 (dq_suf 0 dt04cX7_has_1 rfl rfl)
theorem dX7_has_17 : decode cX7_has 17 = .ok (.ireturn, 1) := dq_172 (dq_suf 1 dt04cX7_has_1 rfl rfl)
noncomputable def ds04cX7_sortOf_1 : List UInt8 := 4 :: 2 :: 172 :: []
noncomputable def ds04cX7_sortOf_0 : List UInt8 := 42 :: 27 :: 182 :: 0 :: 45 :: 153 :: 0 :: 12 :: 42 :: 180 :: 0 :: 9 :: 27 :: 46 :: 167 :: 0 :: ds04cX7_sortOf_1
theorem dt04cX7_sortOf_0 : cX7_sortOf.data.toList.drop 0 = ds04cX7_sortOf_0 := by decide +kernel
theorem dt04cX7_sortOf_1 : cX7_sortOf.data.toList.drop 16 = ds04cX7_sortOf_1 := dq_suf 16 dt04cX7_sortOf_0 rfl rfl
theorem dX7_sortOf_0 : decode cX7_sortOf 0 = .ok (.aload_n 0, 1) := dq_42 (dq_suf 0 dt04cX7_sortOf_0 rfl rfl)
theorem dX7_sortOf_1 : decode cX7_sortOf 1 = .ok (.iload_n 1, 1) := dq_27 (dq_suf 1 dt04cX7_sortOf_0 rfl rfl)
theorem dX7_sortOf_2 : decode cX7_sortOf 2 = .ok (.invokevirtual 45, 3) := dq_182 (dq_suf 2 dt04cX7_sortOf_0 rfl rfl) rfl
theorem dX7_sortOf_5 : decode cX7_sortOf 5 = .ok (.ifCond .eq 12, 3) := dq_153 (dq_suf 5 dt04cX7_sortOf_0 rfl rfl) (by decide +kernel)
theorem dX7_sortOf_8 : decode cX7_sortOf 8 = .ok (.aload_n 0, 1) := dq_42 (dq_suf 8 dt04cX7_sortOf_0 rfl rfl)
theorem dX7_sortOf_9 : decode cX7_sortOf 9 = .ok (.getfield 9, 3) := dq_180 (dq_suf 9 dt04cX7_sortOf_0 rfl rfl) rfl
theorem dX7_sortOf_12 : decode cX7_sortOf 12 = .ok (.iload_n 1, 1) := dq_27 (dq_suf 12 dt04cX7_sortOf_0 rfl rfl)
theorem dX7_sortOf_13 : decode cX7_sortOf 13 = .ok (.iaload, 1) := dq_46 (dq_suf 13 dt04cX7_sortOf_0 rfl rfl)
theorem dX7_sortOf_14 : decode cX7_sortOf 14 = .ok (.goto 4, 3) := dq_167 (dq_suf 14 dt04cX7_sortOf_0 rfl rfl) (by decide +kernel)
theorem dX7_sortOf_17 : decode cX7_sortOf 17 = .ok (.iconst (-1), 1) := dq_2 (dq_suf 1 dt04cX7_sortOf_1 rfl rfl)
theorem dX7_sortOf_18 : decode cX7_sortOf 18 = .ok (.ireturn, 1) := dq_172 (dq_suf 2 dt04cX7_sortOf_1 rfl rfl)
noncomputable def ds04cX7_firstOf_1 : List UInt8 := 4 :: 2 :: 172 :: []
noncomputable def ds04cX7_firstOf_0 : List UInt8 := 42 :: 27 :: 182 :: 0 :: 45 :: 153 :: 0 :: 12 :: 42 :: 180 :: 0 :: 15 :: 27 :: 46 :: 167 :: 0 :: ds04cX7_firstOf_1
theorem dt04cX7_firstOf_0 : cX7_firstOf.data.toList.drop 0 = ds04cX7_firstOf_0 := by decide +kernel
theorem dt04cX7_firstOf_1 : cX7_firstOf.data.toList.drop 16 = ds04cX7_firstOf_1 := dq_suf 16 dt04cX7_firstOf_0 rfl rfl
theorem dX7_firstOf_0 : decode cX7_firstOf 0 = .ok (.aload_n 0, 1) := dq_42 (dq_suf 0 dt04cX7_firstOf_0 rfl rfl)
theorem dX7_firstOf_1 : decode cX7_firstOf 1 = .ok (.iload_n 1, 1) := dq_27 (dq_suf 1 dt04cX7_firstOf_0 rfl rfl)
theorem dX7_firstOf_2 : decode cX7_firstOf 2 = .ok (.invokevirtual 45, 3) := dq_182 (dq_suf 2 dt04cX7_firstOf_0 rfl rfl) rfl
theorem dX7_firstOf_5 : decode cX7_firstOf 5 = .ok (.ifCond .eq 12, 3) := dq_153 (dq_suf 5 dt04cX7_firstOf_0 rfl rfl) (by decide +kernel)
theorem dX7_firstOf_8 : decode cX7_firstOf 8 = .ok (.aload_n 0, 1) := dq_42 (dq_suf 8 dt04cX7_firstOf_0 rfl rfl)
theorem dX7_firstOf_9 : decode cX7_firstOf 9 = .ok (.getfield 15, 3) := dq_180 (dq_suf 9 dt04cX7_firstOf_0 rfl rfl) rfl
theorem dX7_firstOf_12 : decode cX7_firstOf 12 = .ok (.iload_n 1, 1) := dq_27 (dq_suf 12 dt04cX7_firstOf_0 rfl rfl)
theorem dX7_firstOf_13 : decode cX7_firstOf 13 = .ok (.iaload, 1) := dq_46 (dq_suf 13 dt04cX7_firstOf_0 rfl rfl)
theorem dX7_firstOf_14 : decode cX7_firstOf 14 = .ok (.goto 4, 3) := dq_167 (dq_suf 14 dt04cX7_firstOf_0 rfl rfl) (by decide +kernel)
theorem dX7_firstOf_17 : decode cX7_firstOf 17 = .ok (.iconst (-1), 1) := dq_2 (dq_suf 1 dt04cX7_firstOf_1 rfl rfl)
theorem dX7_firstOf_18 : decode cX7_firstOf 18 = .ok (.ireturn, 1) := dq_172 (dq_suf 2 dt04cX7_firstOf_1 rfl rfl)
noncomputable def ds04cX7_secondOf_1 : List UInt8 := 4 :: 2 :: 172 :: []
noncomputable def ds04cX7_secondOf_0 : List UInt8 := 42 :: 27 :: 182 :: 0 :: 45 :: 153 :: 0 :: 12 :: 42 :: 180 :: 0 :: 18 :: 27 :: 46 :: 167 :: 0 :: ds04cX7_secondOf_1
theorem dt04cX7_secondOf_0 : cX7_secondOf.data.toList.drop 0 = ds04cX7_secondOf_0 := by decide +kernel
theorem dt04cX7_secondOf_1 : cX7_secondOf.data.toList.drop 16 = ds04cX7_secondOf_1 := dq_suf 16 dt04cX7_secondOf_0 rfl rfl
theorem dX7_secondOf_0 : decode cX7_secondOf 0 = .ok (.aload_n 0, 1) := dq_42 (dq_suf 0 dt04cX7_secondOf_0 rfl rfl)
theorem dX7_secondOf_1 : decode cX7_secondOf 1 = .ok (.iload_n 1, 1) := dq_27 (dq_suf 1 dt04cX7_secondOf_0 rfl rfl)
theorem dX7_secondOf_2 : decode cX7_secondOf 2 = .ok (.invokevirtual 45, 3) := dq_182 (dq_suf 2 dt04cX7_secondOf_0 rfl rfl) rfl
theorem dX7_secondOf_5 : decode cX7_secondOf 5 = .ok (.ifCond .eq 12, 3) := dq_153 (dq_suf 5 dt04cX7_secondOf_0 rfl rfl) (by decide +kernel)
theorem dX7_secondOf_8 : decode cX7_secondOf 8 = .ok (.aload_n 0, 1) := dq_42 (dq_suf 8 dt04cX7_secondOf_0 rfl rfl)
theorem dX7_secondOf_9 : decode cX7_secondOf 9 = .ok (.getfield 18, 3) := dq_180 (dq_suf 9 dt04cX7_secondOf_0 rfl rfl) rfl
theorem dX7_secondOf_12 : decode cX7_secondOf 12 = .ok (.iload_n 1, 1) := dq_27 (dq_suf 12 dt04cX7_secondOf_0 rfl rfl)
theorem dX7_secondOf_13 : decode cX7_secondOf 13 = .ok (.iaload, 1) := dq_46 (dq_suf 13 dt04cX7_secondOf_0 rfl rfl)
theorem dX7_secondOf_14 : decode cX7_secondOf 14 = .ok (.goto 4, 3) := dq_167 (dq_suf 14 dt04cX7_secondOf_0 rfl rfl) (by decide +kernel)
theorem dX7_secondOf_17 : decode cX7_secondOf 17 = .ok (.iconst (-1), 1) := dq_2 (dq_suf 1 dt04cX7_secondOf_1 rfl rfl)
theorem dX7_secondOf_18 : decode cX7_secondOf 18 = .ok (.ireturn, 1) := dq_172 (dq_suf 2 dt04cX7_secondOf_1 rfl rfl)
noncomputable def ds04cX7_denialOf_1 : List UInt8 := 4 :: 2 :: 172 :: []
noncomputable def ds04cX7_denialOf_0 : List UInt8 := 42 :: 27 :: 182 :: 0 :: 45 :: 153 :: 0 :: 12 :: 42 :: 180 :: 0 :: 21 :: 27 :: 46 :: 167 :: 0 :: ds04cX7_denialOf_1
theorem dt04cX7_denialOf_0 : cX7_denialOf.data.toList.drop 0 = ds04cX7_denialOf_0 := by decide +kernel
theorem dt04cX7_denialOf_1 : cX7_denialOf.data.toList.drop 16 = ds04cX7_denialOf_1 := dq_suf 16 dt04cX7_denialOf_0 rfl rfl
theorem dX7_denialOf_0 : decode cX7_denialOf 0 = .ok (.aload_n 0, 1) := dq_42 (dq_suf 0 dt04cX7_denialOf_0 rfl rfl)
theorem dX7_denialOf_1 : decode cX7_denialOf 1 = .ok (.iload_n 1, 1) := dq_27 (dq_suf 1 dt04cX7_denialOf_0 rfl rfl)
theorem dX7_denialOf_2 : decode cX7_denialOf 2 = .ok (.invokevirtual 45, 3) := dq_182 (dq_suf 2 dt04cX7_denialOf_0 rfl rfl) rfl
theorem dX7_denialOf_5 : decode cX7_denialOf 5 = .ok (.ifCond .eq 12, 3) := dq_153 (dq_suf 5 dt04cX7_denialOf_0 rfl rfl) (by decide +kernel)
theorem dX7_denialOf_8 : decode cX7_denialOf 8 = .ok (.aload_n 0, 1) := dq_42 (dq_suf 8 dt04cX7_denialOf_0 rfl rfl)
theorem dX7_denialOf_9 : decode cX7_denialOf 9 = .ok (.getfield 21, 3) := dq_180 (dq_suf 9 dt04cX7_denialOf_0 rfl rfl) rfl
theorem dX7_denialOf_12 : decode cX7_denialOf 12 = .ok (.iload_n 1, 1) := dq_27 (dq_suf 12 dt04cX7_denialOf_0 rfl rfl)
theorem dX7_denialOf_13 : decode cX7_denialOf 13 = .ok (.iaload, 1) := dq_46 (dq_suf 13 dt04cX7_denialOf_0 rfl rfl)
theorem dX7_denialOf_14 : decode cX7_denialOf 14 = .ok (.goto 4, 3) := dq_167 (dq_suf 14 dt04cX7_denialOf_0 rfl rfl) (by decide +kernel)
theorem dX7_denialOf_17 : decode cX7_denialOf 17 = .ok (.iconst (-1), 1) := dq_2 (dq_suf 1 dt04cX7_denialOf_1 rfl rfl)
theorem dX7_denialOf_18 : decode cX7_denialOf 18 = .ok (.ireturn, 1) := dq_172 (dq_suf 2 dt04cX7_denialOf_1 rfl rfl)
noncomputable def ds04cX7_bySort_0 : List UInt8 := 42 :: 180 :: 0 :: 29 :: 176 :: []
theorem dt04cX7_bySort_0 : cX7_bySort.data.toList.drop 0 = ds04cX7_bySort_0 := by decide +kernel
theorem dX7_bySort_0 : decode cX7_bySort 0 = .ok (.aload_n 0, 1) := dq_42 (dq_suf 0 dt04cX7_bySort_0 rfl rfl)
theorem dX7_bySort_1 : decode cX7_bySort 1 = .ok (.getfield 29, 3) := dq_180 (dq_suf 1 dt04cX7_bySort_0 rfl rfl) rfl
theorem dX7_bySort_4 : decode cX7_bySort 4 = .ok (.areturn, 1) := dq_176 (dq_suf 4 dt04cX7_bySort_0 rfl rfl)
noncomputable def ds04cX7_make_1 : List UInt8 := 4 :: 167 :: 0 :: 10 :: 42 :: 27 :: 28 :: 29 :: 182 :: 0 :: 33 :: 172 :: []
noncomputable def ds04cX7_make_0 : List UInt8 := 42 :: 27 :: 28 :: 29 :: 182 :: 0 :: 49 :: 54 :: 4 :: 21 :: 4 :: 2 :: 159 :: 0 :: 8 :: 21 :: ds04cX7_make_1
theorem dt04cX7_make_0 : cX7_make.data.toList.drop 0 = ds04cX7_make_0 := by decide +kernel
theorem dt04cX7_make_1 : cX7_make.data.toList.drop 16 = ds04cX7_make_1 := dq_suf 16 dt04cX7_make_0 rfl rfl
theorem dX7_make_0 : decode cX7_make 0 = .ok (.aload_n 0, 1) := dq_42 (dq_suf 0 dt04cX7_make_0 rfl rfl)
theorem dX7_make_1 : decode cX7_make 1 = .ok (.iload_n 1, 1) := dq_27 (dq_suf 1 dt04cX7_make_0 rfl rfl)
theorem dX7_make_2 : decode cX7_make 2 = .ok (.iload_n 2, 1) := dq_28 (dq_suf 2 dt04cX7_make_0 rfl rfl)
theorem dX7_make_3 : decode cX7_make 3 = .ok (.iload_n 3, 1) := dq_29 (dq_suf 3 dt04cX7_make_0 rfl rfl)
theorem dX7_make_4 : decode cX7_make 4 = .ok (.invokevirtual 49, 3) := dq_182 (dq_suf 4 dt04cX7_make_0 rfl rfl) rfl
theorem dX7_make_7 : decode cX7_make 7 = .ok (.istore 4, 2) := dq_54 (dq_suf 7 dt04cX7_make_0 rfl rfl) rfl
theorem dX7_make_9 : decode cX7_make 9 = .ok (.iload 4, 2) := dq_21 (dq_suf 9 dt04cX7_make_0 rfl rfl) rfl
theorem dX7_make_11 : decode cX7_make 11 = .ok (.iconst (-1), 1) := dq_2 (dq_suf 11 dt04cX7_make_0 rfl rfl)
theorem dX7_make_12 : decode cX7_make 12 = .ok (.if_icmp .eq 8, 3) := dq_159 (dq_suf 12 dt04cX7_make_0 rfl rfl) (by decide +kernel)
theorem dX7_make_15 : decode cX7_make 15 = .ok (.iload 4, 2) := dq_21 (dq_suf 15 dt04cX7_make_0 rfl rfl) rfl
theorem dX7_make_17 : decode cX7_make 17 = .ok (.goto 10, 3) := dq_167 (dq_suf 1 dt04cX7_make_1 rfl rfl) (by decide +kernel)
theorem dX7_make_20 : decode cX7_make 20 = .ok (.aload_n 0, 1) := dq_42 (dq_suf 4 dt04cX7_make_1 rfl rfl)
theorem dX7_make_21 : decode cX7_make 21 = .ok (.iload_n 1, 1) := dq_27 (dq_suf 5 dt04cX7_make_1 rfl rfl)
theorem dX7_make_22 : decode cX7_make 22 = .ok (.iload_n 2, 1) := dq_28 (dq_suf 6 dt04cX7_make_1 rfl rfl)
theorem dX7_make_23 : decode cX7_make 23 = .ok (.iload_n 3, 1) := dq_29 (dq_suf 7 dt04cX7_make_1 rfl rfl)
theorem dX7_make_24 : decode cX7_make 24 = .ok (.invokevirtual 33, 3) := dq_182 (dq_suf 8 dt04cX7_make_1 rfl rfl) rfl
theorem dX7_make_27 : decode cX7_make 27 = .ok (.ireturn, 1) := dq_172 (dq_suf 11 dt04cX7_make_1 rfl rfl)
noncomputable def ds04cX7_pair_1 : List UInt8 := 42 :: 180 :: 0 :: 21 :: 27 :: 28 :: 79 :: 42 :: 180 :: 0 :: 21 :: 28 :: 27 :: 79 :: 177 :: []
noncomputable def ds04cX7_pair_0 : List UInt8 := 42 :: 27 :: 182 :: 0 :: 45 :: 153 :: 0 :: 25 :: 42 :: 28 :: 182 :: 0 :: 45 :: 153 :: 0 :: 17 :: ds04cX7_pair_1
theorem dt04cX7_pair_0 : cX7_pair.data.toList.drop 0 = ds04cX7_pair_0 := by decide +kernel
theorem dt04cX7_pair_1 : cX7_pair.data.toList.drop 16 = ds04cX7_pair_1 := dq_suf 16 dt04cX7_pair_0 rfl rfl
theorem dX7_pair_0 : decode cX7_pair 0 = .ok (.aload_n 0, 1) := dq_42 (dq_suf 0 dt04cX7_pair_0 rfl rfl)
theorem dX7_pair_1 : decode cX7_pair 1 = .ok (.iload_n 1, 1) := dq_27 (dq_suf 1 dt04cX7_pair_0 rfl rfl)
theorem dX7_pair_2 : decode cX7_pair 2 = .ok (.invokevirtual 45, 3) := dq_182 (dq_suf 2 dt04cX7_pair_0 rfl rfl) rfl
theorem dX7_pair_5 : decode cX7_pair 5 = .ok (.ifCond .eq 25, 3) := dq_153 (dq_suf 5 dt04cX7_pair_0 rfl rfl) (by decide +kernel)
theorem dX7_pair_8 : decode cX7_pair 8 = .ok (.aload_n 0, 1) := dq_42 (dq_suf 8 dt04cX7_pair_0 rfl rfl)
theorem dX7_pair_9 : decode cX7_pair 9 = .ok (.iload_n 2, 1) := dq_28 (dq_suf 9 dt04cX7_pair_0 rfl rfl)
theorem dX7_pair_10 : decode cX7_pair 10 = .ok (.invokevirtual 45, 3) := dq_182 (dq_suf 10 dt04cX7_pair_0 rfl rfl) rfl
theorem dX7_pair_13 : decode cX7_pair 13 = .ok (.ifCond .eq 17, 3) := dq_153 (dq_suf 13 dt04cX7_pair_0 rfl rfl) (by decide +kernel)
theorem dX7_pair_16 : decode cX7_pair 16 = .ok (.aload_n 0, 1) := dq_42 (dq_suf 0 dt04cX7_pair_1 rfl rfl)
theorem dX7_pair_17 : decode cX7_pair 17 = .ok (.getfield 21, 3) := dq_180 (dq_suf 1 dt04cX7_pair_1 rfl rfl) rfl
theorem dX7_pair_20 : decode cX7_pair 20 = .ok (.iload_n 1, 1) := dq_27 (dq_suf 4 dt04cX7_pair_1 rfl rfl)
theorem dX7_pair_21 : decode cX7_pair 21 = .ok (.iload_n 2, 1) := dq_28 (dq_suf 5 dt04cX7_pair_1 rfl rfl)
theorem dX7_pair_22 : decode cX7_pair 22 = .ok (.iastore, 1) := dq_79 (dq_suf 6 dt04cX7_pair_1 rfl rfl)
theorem dX7_pair_23 : decode cX7_pair 23 = .ok (.aload_n 0, 1) := dq_42 (dq_suf 7 dt04cX7_pair_1 rfl rfl)
theorem dX7_pair_24 : decode cX7_pair 24 = .ok (.getfield 21, 3) := dq_180 (dq_suf 8 dt04cX7_pair_1 rfl rfl) rfl
theorem dX7_pair_27 : decode cX7_pair 27 = .ok (.iload_n 2, 1) := dq_28 (dq_suf 11 dt04cX7_pair_1 rfl rfl)
theorem dX7_pair_28 : decode cX7_pair 28 = .ok (.iload_n 1, 1) := dq_27 (dq_suf 12 dt04cX7_pair_1 rfl rfl)
theorem dX7_pair_29 : decode cX7_pair 29 = .ok (.iastore, 1) := dq_79 (dq_suf 13 dt04cX7_pair_1 rfl rfl)
theorem dX7_pair_30 : decode cX7_pair 30 = .ok (.return_, 1) := dq_177 (dq_suf 14 dt04cX7_pair_1 rfl rfl)
noncomputable def ds04cX7_dropTo_2 : List UInt8 := 181 :: 0 :: 41 :: 132 :: 2 :: 255 :: 167 :: 255 :: 225 :: 177 :: []
noncomputable def ds04cX7_dropTo_1 : List UInt8 := 42 :: 180 :: 0 :: 29 :: 42 :: 180 :: 0 :: 9 :: 28 :: 46 :: 28 :: 182 :: 0 :: 52 :: 42 :: 28 :: ds04cX7_dropTo_2
noncomputable def ds04cX7_dropTo_0 : List UInt8 := 42 :: 180 :: 0 :: 41 :: 4 :: 100 :: 61 :: 28 :: 27 :: 161 :: 0 :: 32 :: 28 :: 155 :: 0 :: 28 :: ds04cX7_dropTo_1
theorem dt04cX7_dropTo_0 : cX7_dropTo.data.toList.drop 0 = ds04cX7_dropTo_0 := by decide +kernel
theorem dt04cX7_dropTo_1 : cX7_dropTo.data.toList.drop 16 = ds04cX7_dropTo_1 := dq_suf 16 dt04cX7_dropTo_0 rfl rfl
theorem dt04cX7_dropTo_2 : cX7_dropTo.data.toList.drop 32 = ds04cX7_dropTo_2 := dq_suf 16 dt04cX7_dropTo_1 rfl rfl
theorem dX7_dropTo_0 : decode cX7_dropTo 0 = .ok (.aload_n 0, 1) := dq_42 (dq_suf 0 dt04cX7_dropTo_0 rfl rfl)
theorem dX7_dropTo_1 : decode cX7_dropTo 1 = .ok (.getfield 41, 3) := dq_180 (dq_suf 1 dt04cX7_dropTo_0 rfl rfl) rfl
theorem dX7_dropTo_4 : decode cX7_dropTo 4 = .ok (.iconst 1, 1) := dq_4 (dq_suf 4 dt04cX7_dropTo_0 rfl rfl)
theorem dX7_dropTo_5 : decode cX7_dropTo 5 = .ok (.isub, 1) := dq_100 (dq_suf 5 dt04cX7_dropTo_0 rfl rfl)
theorem dX7_dropTo_6 : decode cX7_dropTo 6 = .ok (.istore_n 2, 1) := dq_61 (dq_suf 6 dt04cX7_dropTo_0 rfl rfl)
theorem dX7_dropTo_7 : decode cX7_dropTo 7 = .ok (.iload_n 2, 1) := dq_28 (dq_suf 7 dt04cX7_dropTo_0 rfl rfl)
theorem dX7_dropTo_8 : decode cX7_dropTo 8 = .ok (.iload_n 1, 1) := dq_27 (dq_suf 8 dt04cX7_dropTo_0 rfl rfl)
theorem dX7_dropTo_9 : decode cX7_dropTo 9 = .ok (.if_icmp .lt 32, 3) := dq_161 (dq_suf 9 dt04cX7_dropTo_0 rfl rfl) (by decide +kernel)
theorem dX7_dropTo_12 : decode cX7_dropTo 12 = .ok (.iload_n 2, 1) := dq_28 (dq_suf 12 dt04cX7_dropTo_0 rfl rfl)
theorem dX7_dropTo_13 : decode cX7_dropTo 13 = .ok (.ifCond .lt 28, 3) := dq_155 (dq_suf 13 dt04cX7_dropTo_0 rfl rfl) (by decide +kernel)
theorem dX7_dropTo_16 : decode cX7_dropTo 16 = .ok (.aload_n 0, 1) := dq_42 (dq_suf 0 dt04cX7_dropTo_1 rfl rfl)
theorem dX7_dropTo_17 : decode cX7_dropTo 17 = .ok (.getfield 29, 3) := dq_180 (dq_suf 1 dt04cX7_dropTo_1 rfl rfl) rfl
theorem dX7_dropTo_20 : decode cX7_dropTo 20 = .ok (.aload_n 0, 1) := dq_42 (dq_suf 4 dt04cX7_dropTo_1 rfl rfl)
theorem dX7_dropTo_21 : decode cX7_dropTo 21 = .ok (.getfield 9, 3) := dq_180 (dq_suf 5 dt04cX7_dropTo_1 rfl rfl) rfl
theorem dX7_dropTo_24 : decode cX7_dropTo 24 = .ok (.iload_n 2, 1) := dq_28 (dq_suf 8 dt04cX7_dropTo_1 rfl rfl)
theorem dX7_dropTo_25 : decode cX7_dropTo 25 = .ok (.iaload, 1) := dq_46 (dq_suf 9 dt04cX7_dropTo_1 rfl rfl)
theorem dX7_dropTo_26 : decode cX7_dropTo 26 = .ok (.iload_n 2, 1) := dq_28 (dq_suf 10 dt04cX7_dropTo_1 rfl rfl)
theorem dX7_dropTo_27 : decode cX7_dropTo 27 = .ok (.invokevirtual 52, 3) := dq_182 (dq_suf 11 dt04cX7_dropTo_1 rfl rfl) rfl
theorem dX7_dropTo_30 : decode cX7_dropTo 30 = .ok (.aload_n 0, 1) := dq_42 (dq_suf 14 dt04cX7_dropTo_1 rfl rfl)
theorem dX7_dropTo_31 : decode cX7_dropTo 31 = .ok (.iload_n 2, 1) := dq_28 (dq_suf 15 dt04cX7_dropTo_1 rfl rfl)
theorem dX7_dropTo_32 : decode cX7_dropTo 32 = .ok (.putfield 41, 3) := dq_181 (dq_suf 0 dt04cX7_dropTo_2 rfl rfl) rfl
theorem dX7_dropTo_35 : decode cX7_dropTo 35 = .ok (.iinc 2 (-1), 3) := dq_132 (dq_suf 3 dt04cX7_dropTo_2 rfl rfl) rfl (by decide +kernel)
theorem dX7_dropTo_38 : decode cX7_dropTo 38 = .ok (.goto (-31), 3) := dq_167 (dq_suf 6 dt04cX7_dropTo_2 rfl rfl) (by decide +kernel)
theorem dX7_dropTo_41 : decode cX7_dropTo 41 = .ok (.return_, 1) := dq_177 (dq_suf 9 dt04cX7_dropTo_2 rfl rfl)
noncomputable def ds04cX7_find_3 : List UInt8 := 132 :: 4 :: 1 :: 167 :: 255 :: 208 :: 2 :: 172 :: []
noncomputable def ds04cX7_find_2 : List UInt8 := 0 :: 17 :: 42 :: 180 :: 0 :: 18 :: 21 :: 4 :: 46 :: 29 :: 160 :: 0 :: 6 :: 21 :: 4 :: 172 :: ds04cX7_find_3
noncomputable def ds04cX7_find_1 : List UInt8 := 21 :: 4 :: 46 :: 27 :: 160 :: 0 :: 28 :: 42 :: 180 :: 0 :: 15 :: 21 :: 4 :: 46 :: 28 :: 160 :: ds04cX7_find_2
noncomputable def ds04cX7_find_0 : List UInt8 := 3 :: 54 :: 4 :: 21 :: 4 :: 42 :: 180 :: 0 :: 41 :: 162 :: 0 :: 45 :: 42 :: 180 :: 0 :: 9 :: ds04cX7_find_1
theorem dt04cX7_find_0 : cX7_find.data.toList.drop 0 = ds04cX7_find_0 := by decide +kernel
theorem dt04cX7_find_1 : cX7_find.data.toList.drop 16 = ds04cX7_find_1 := dq_suf 16 dt04cX7_find_0 rfl rfl
theorem dt04cX7_find_2 : cX7_find.data.toList.drop 32 = ds04cX7_find_2 := dq_suf 16 dt04cX7_find_1 rfl rfl
theorem dt04cX7_find_3 : cX7_find.data.toList.drop 48 = ds04cX7_find_3 := dq_suf 16 dt04cX7_find_2 rfl rfl
theorem dX7_find_0 : decode cX7_find 0 = .ok (.iconst 0, 1) := dq_3 (dq_suf 0 dt04cX7_find_0 rfl rfl)
theorem dX7_find_1 : decode cX7_find 1 = .ok (.istore 4, 2) := dq_54 (dq_suf 1 dt04cX7_find_0 rfl rfl) rfl
theorem dX7_find_3 : decode cX7_find 3 = .ok (.iload 4, 2) := dq_21 (dq_suf 3 dt04cX7_find_0 rfl rfl) rfl
theorem dX7_find_5 : decode cX7_find 5 = .ok (.aload_n 0, 1) := dq_42 (dq_suf 5 dt04cX7_find_0 rfl rfl)
theorem dX7_find_6 : decode cX7_find 6 = .ok (.getfield 41, 3) := dq_180 (dq_suf 6 dt04cX7_find_0 rfl rfl) rfl
theorem dX7_find_9 : decode cX7_find 9 = .ok (.if_icmp .ge 45, 3) := dq_162 (dq_suf 9 dt04cX7_find_0 rfl rfl) (by decide +kernel)
theorem dX7_find_12 : decode cX7_find 12 = .ok (.aload_n 0, 1) := dq_42 (dq_suf 12 dt04cX7_find_0 rfl rfl)
theorem dX7_find_13 : decode cX7_find 13 = .ok (.getfield 9, 3) := dq_180 (dq_suf 13 dt04cX7_find_0 rfl rfl) rfl
theorem dX7_find_16 : decode cX7_find 16 = .ok (.iload 4, 2) := dq_21 (dq_suf 0 dt04cX7_find_1 rfl rfl) rfl
theorem dX7_find_18 : decode cX7_find 18 = .ok (.iaload, 1) := dq_46 (dq_suf 2 dt04cX7_find_1 rfl rfl)
theorem dX7_find_19 : decode cX7_find 19 = .ok (.iload_n 1, 1) := dq_27 (dq_suf 3 dt04cX7_find_1 rfl rfl)
theorem dX7_find_20 : decode cX7_find 20 = .ok (.if_icmp .ne 28, 3) := dq_160 (dq_suf 4 dt04cX7_find_1 rfl rfl) (by decide +kernel)
theorem dX7_find_23 : decode cX7_find 23 = .ok (.aload_n 0, 1) := dq_42 (dq_suf 7 dt04cX7_find_1 rfl rfl)
theorem dX7_find_24 : decode cX7_find 24 = .ok (.getfield 15, 3) := dq_180 (dq_suf 8 dt04cX7_find_1 rfl rfl) rfl
theorem dX7_find_27 : decode cX7_find 27 = .ok (.iload 4, 2) := dq_21 (dq_suf 11 dt04cX7_find_1 rfl rfl) rfl
theorem dX7_find_29 : decode cX7_find 29 = .ok (.iaload, 1) := dq_46 (dq_suf 13 dt04cX7_find_1 rfl rfl)
theorem dX7_find_30 : decode cX7_find 30 = .ok (.iload_n 2, 1) := dq_28 (dq_suf 14 dt04cX7_find_1 rfl rfl)
theorem dX7_find_31 : decode cX7_find 31 = .ok (.if_icmp .ne 17, 3) := dq_160 (dq_suf 15 dt04cX7_find_1 rfl rfl) (by decide +kernel)
theorem dX7_find_34 : decode cX7_find 34 = .ok (.aload_n 0, 1) := dq_42 (dq_suf 2 dt04cX7_find_2 rfl rfl)
theorem dX7_find_35 : decode cX7_find 35 = .ok (.getfield 18, 3) := dq_180 (dq_suf 3 dt04cX7_find_2 rfl rfl) rfl
theorem dX7_find_38 : decode cX7_find 38 = .ok (.iload 4, 2) := dq_21 (dq_suf 6 dt04cX7_find_2 rfl rfl) rfl
theorem dX7_find_40 : decode cX7_find 40 = .ok (.iaload, 1) := dq_46 (dq_suf 8 dt04cX7_find_2 rfl rfl)
theorem dX7_find_41 : decode cX7_find 41 = .ok (.iload_n 3, 1) := dq_29 (dq_suf 9 dt04cX7_find_2 rfl rfl)
theorem dX7_find_42 : decode cX7_find 42 = .ok (.if_icmp .ne 6, 3) := dq_160 (dq_suf 10 dt04cX7_find_2 rfl rfl) (by decide +kernel)
theorem dX7_find_45 : decode cX7_find 45 = .ok (.iload 4, 2) := dq_21 (dq_suf 13 dt04cX7_find_2 rfl rfl) rfl
theorem dX7_find_47 : decode cX7_find 47 = .ok (.ireturn, 1) := dq_172 (dq_suf 15 dt04cX7_find_2 rfl rfl)
theorem dX7_find_48 : decode cX7_find 48 = .ok (.iinc 4 1, 3) := dq_132 (dq_suf 0 dt04cX7_find_3 rfl rfl) rfl (by decide +kernel)
theorem dX7_find_51 : decode cX7_find 51 = .ok (.goto (-48), 3) := dq_167 (dq_suf 3 dt04cX7_find_3 rfl rfl) (by decide +kernel)
theorem dX7_find_54 : decode cX7_find 54 = .ok (.iconst (-1), 1) := dq_2 (dq_suf 6 dt04cX7_find_3 rfl rfl)
theorem dX7_find_55 : decode cX7_find 55 = .ok (.ireturn, 1) := dq_172 (dq_suf 7 dt04cX7_find_3 rfl rfl)
noncomputable def ds04cX7_append_4 : List UInt8 := 27 :: 21 :: 4 :: 182 :: 0 :: 55 :: 21 :: 4 :: 172 :: []
noncomputable def ds04cX7_append_3 : List UInt8 := 21 :: 4 :: 29 :: 79 :: 42 :: 180 :: 0 :: 21 :: 21 :: 4 :: 2 :: 79 :: 42 :: 180 :: 0 :: 29 :: ds04cX7_append_4
noncomputable def ds04cX7_append_2 : List UInt8 := 21 :: 4 :: 27 :: 79 :: 42 :: 180 :: 0 :: 15 :: 21 :: 4 :: 28 :: 79 :: 42 :: 180 :: 0 :: 18 :: ds04cX7_append_3
noncomputable def ds04cX7_append_1 : List UInt8 := 54 :: 4 :: 42 :: 89 :: 180 :: 0 :: 41 :: 4 :: 96 :: 181 :: 0 :: 41 :: 42 :: 180 :: 0 :: 9 :: ds04cX7_append_2
noncomputable def ds04cX7_append_0 : List UInt8 := 42 :: 180 :: 0 :: 41 :: 17 :: 1 :: 44 :: 161 :: 0 :: 5 :: 2 :: 172 :: 42 :: 180 :: 0 :: 41 :: ds04cX7_append_1
theorem dt04cX7_append_0 : cX7_append.data.toList.drop 0 = ds04cX7_append_0 := by decide +kernel
theorem dt04cX7_append_1 : cX7_append.data.toList.drop 16 = ds04cX7_append_1 := dq_suf 16 dt04cX7_append_0 rfl rfl
theorem dt04cX7_append_2 : cX7_append.data.toList.drop 32 = ds04cX7_append_2 := dq_suf 16 dt04cX7_append_1 rfl rfl
theorem dt04cX7_append_3 : cX7_append.data.toList.drop 48 = ds04cX7_append_3 := dq_suf 16 dt04cX7_append_2 rfl rfl
theorem dt04cX7_append_4 : cX7_append.data.toList.drop 64 = ds04cX7_append_4 := dq_suf 16 dt04cX7_append_3 rfl rfl
theorem dX7_append_0 : decode cX7_append 0 = .ok (.aload_n 0, 1) := dq_42 (dq_suf 0 dt04cX7_append_0 rfl rfl)
theorem dX7_append_1 : decode cX7_append 1 = .ok (.getfield 41, 3) := dq_180 (dq_suf 1 dt04cX7_append_0 rfl rfl) rfl
theorem dX7_append_4 : decode cX7_append 4 = .ok (.sipush 300, 3) := dq_17 (dq_suf 4 dt04cX7_append_0 rfl rfl) (by decide +kernel)
theorem dX7_append_7 : decode cX7_append 7 = .ok (.if_icmp .lt 5, 3) := dq_161 (dq_suf 7 dt04cX7_append_0 rfl rfl) (by decide +kernel)
theorem dX7_append_10 : decode cX7_append 10 = .ok (.iconst (-1), 1) := dq_2 (dq_suf 10 dt04cX7_append_0 rfl rfl)
theorem dX7_append_11 : decode cX7_append 11 = .ok (.ireturn, 1) := dq_172 (dq_suf 11 dt04cX7_append_0 rfl rfl)
theorem dX7_append_12 : decode cX7_append 12 = .ok (.aload_n 0, 1) := dq_42 (dq_suf 12 dt04cX7_append_0 rfl rfl)
theorem dX7_append_13 : decode cX7_append 13 = .ok (.getfield 41, 3) := dq_180 (dq_suf 13 dt04cX7_append_0 rfl rfl) rfl
theorem dX7_append_16 : decode cX7_append 16 = .ok (.istore 4, 2) := dq_54 (dq_suf 0 dt04cX7_append_1 rfl rfl) rfl
theorem dX7_append_18 : decode cX7_append 18 = .ok (.aload_n 0, 1) := dq_42 (dq_suf 2 dt04cX7_append_1 rfl rfl)
theorem dX7_append_19 : decode cX7_append 19 = .ok (.dup, 1) := dq_89 (dq_suf 3 dt04cX7_append_1 rfl rfl)
theorem dX7_append_20 : decode cX7_append 20 = .ok (.getfield 41, 3) := dq_180 (dq_suf 4 dt04cX7_append_1 rfl rfl) rfl
theorem dX7_append_23 : decode cX7_append 23 = .ok (.iconst 1, 1) := dq_4 (dq_suf 7 dt04cX7_append_1 rfl rfl)
theorem dX7_append_24 : decode cX7_append 24 = .ok (.iadd, 1) := dq_96 (dq_suf 8 dt04cX7_append_1 rfl rfl)
theorem dX7_append_25 : decode cX7_append 25 = .ok (.putfield 41, 3) := dq_181 (dq_suf 9 dt04cX7_append_1 rfl rfl) rfl
theorem dX7_append_28 : decode cX7_append 28 = .ok (.aload_n 0, 1) := dq_42 (dq_suf 12 dt04cX7_append_1 rfl rfl)
theorem dX7_append_29 : decode cX7_append 29 = .ok (.getfield 9, 3) := dq_180 (dq_suf 13 dt04cX7_append_1 rfl rfl) rfl
theorem dX7_append_32 : decode cX7_append 32 = .ok (.iload 4, 2) := dq_21 (dq_suf 0 dt04cX7_append_2 rfl rfl) rfl
theorem dX7_append_34 : decode cX7_append 34 = .ok (.iload_n 1, 1) := dq_27 (dq_suf 2 dt04cX7_append_2 rfl rfl)
theorem dX7_append_35 : decode cX7_append 35 = .ok (.iastore, 1) := dq_79 (dq_suf 3 dt04cX7_append_2 rfl rfl)
theorem dX7_append_36 : decode cX7_append 36 = .ok (.aload_n 0, 1) := dq_42 (dq_suf 4 dt04cX7_append_2 rfl rfl)
theorem dX7_append_37 : decode cX7_append 37 = .ok (.getfield 15, 3) := dq_180 (dq_suf 5 dt04cX7_append_2 rfl rfl) rfl
theorem dX7_append_40 : decode cX7_append 40 = .ok (.iload 4, 2) := dq_21 (dq_suf 8 dt04cX7_append_2 rfl rfl) rfl
theorem dX7_append_42 : decode cX7_append 42 = .ok (.iload_n 2, 1) := dq_28 (dq_suf 10 dt04cX7_append_2 rfl rfl)
theorem dX7_append_43 : decode cX7_append 43 = .ok (.iastore, 1) := dq_79 (dq_suf 11 dt04cX7_append_2 rfl rfl)
theorem dX7_append_44 : decode cX7_append 44 = .ok (.aload_n 0, 1) := dq_42 (dq_suf 12 dt04cX7_append_2 rfl rfl)
theorem dX7_append_45 : decode cX7_append 45 = .ok (.getfield 18, 3) := dq_180 (dq_suf 13 dt04cX7_append_2 rfl rfl) rfl
theorem dX7_append_48 : decode cX7_append 48 = .ok (.iload 4, 2) := dq_21 (dq_suf 0 dt04cX7_append_3 rfl rfl) rfl
theorem dX7_append_50 : decode cX7_append 50 = .ok (.iload_n 3, 1) := dq_29 (dq_suf 2 dt04cX7_append_3 rfl rfl)
theorem dX7_append_51 : decode cX7_append 51 = .ok (.iastore, 1) := dq_79 (dq_suf 3 dt04cX7_append_3 rfl rfl)
theorem dX7_append_52 : decode cX7_append 52 = .ok (.aload_n 0, 1) := dq_42 (dq_suf 4 dt04cX7_append_3 rfl rfl)
theorem dX7_append_53 : decode cX7_append 53 = .ok (.getfield 21, 3) := dq_180 (dq_suf 5 dt04cX7_append_3 rfl rfl) rfl
theorem dX7_append_56 : decode cX7_append 56 = .ok (.iload 4, 2) := dq_21 (dq_suf 8 dt04cX7_append_3 rfl rfl) rfl
theorem dX7_append_58 : decode cX7_append 58 = .ok (.iconst (-1), 1) := dq_2 (dq_suf 10 dt04cX7_append_3 rfl rfl)
theorem dX7_append_59 : decode cX7_append 59 = .ok (.iastore, 1) := dq_79 (dq_suf 11 dt04cX7_append_3 rfl rfl)
theorem dX7_append_60 : decode cX7_append 60 = .ok (.aload_n 0, 1) := dq_42 (dq_suf 12 dt04cX7_append_3 rfl rfl)
theorem dX7_append_61 : decode cX7_append 61 = .ok (.getfield 29, 3) := dq_180 (dq_suf 13 dt04cX7_append_3 rfl rfl) rfl
theorem dX7_append_64 : decode cX7_append 64 = .ok (.iload_n 1, 1) := dq_27 (dq_suf 0 dt04cX7_append_4 rfl rfl)
theorem dX7_append_65 : decode cX7_append 65 = .ok (.iload 4, 2) := dq_21 (dq_suf 1 dt04cX7_append_4 rfl rfl) rfl
theorem dX7_append_67 : decode cX7_append 67 = .ok (.invokevirtual 55, 3) := dq_182 (dq_suf 3 dt04cX7_append_4 rfl rfl) rfl
theorem dX7_append_70 : decode cX7_append 70 = .ok (.iload 4, 2) := dq_21 (dq_suf 6 dt04cX7_append_4 rfl rfl) rfl
theorem dX7_append_72 : decode cX7_append 72 = .ok (.ireturn, 1) := dq_172 (dq_suf 8 dt04cX7_append_4 rfl rfl)
noncomputable def ds04cJ13_bitCount_95d88_3 : List UInt8 := 30 :: 30 :: 16 :: 32 :: 125 :: 97 :: 63 :: 30 :: 136 :: 16 :: 127 :: 126 :: 172 :: []
noncomputable def ds04cJ13_bitCount_95d88_2 : List UInt8 := 127 :: 63 :: 30 :: 30 :: 16 :: 8 :: 125 :: 97 :: 63 :: 30 :: 30 :: 16 :: 16 :: 125 :: 97 :: 63 :: ds04cJ13_bitCount_95d88_3
noncomputable def ds04cJ13_bitCount_95d88_1 : List UInt8 := 5 :: 125 :: 20 :: 1 :: 60 :: 127 :: 97 :: 63 :: 30 :: 30 :: 7 :: 125 :: 97 :: 20 :: 1 :: 62 :: ds04cJ13_bitCount_95d88_2
noncomputable def ds04cJ13_bitCount_95d88_0 : List UInt8 := 30 :: 30 :: 4 :: 125 :: 20 :: 1 :: 58 :: 127 :: 101 :: 63 :: 30 :: 20 :: 1 :: 60 :: 127 :: 30 :: ds04cJ13_bitCount_95d88_1
theorem dt04cJ13_bitCount_95d88_0 : cJ13_bitCount_95d88.data.toList.drop 0 = ds04cJ13_bitCount_95d88_0 := by decide +kernel
theorem dt04cJ13_bitCount_95d88_1 : cJ13_bitCount_95d88.data.toList.drop 16 = ds04cJ13_bitCount_95d88_1 := dq_suf 16 dt04cJ13_bitCount_95d88_0 rfl rfl
theorem dt04cJ13_bitCount_95d88_2 : cJ13_bitCount_95d88.data.toList.drop 32 = ds04cJ13_bitCount_95d88_2 := dq_suf 16 dt04cJ13_bitCount_95d88_1 rfl rfl
theorem dt04cJ13_bitCount_95d88_3 : cJ13_bitCount_95d88.data.toList.drop 48 = ds04cJ13_bitCount_95d88_3 := dq_suf 16 dt04cJ13_bitCount_95d88_2 rfl rfl
theorem dJ13_bitCount_95d88_0 : decode cJ13_bitCount_95d88 0 = .ok (.lload_n 0, 1) := dq_30 (dq_suf 0 dt04cJ13_bitCount_95d88_0 rfl rfl)
theorem dJ13_bitCount_95d88_1 : decode cJ13_bitCount_95d88 1 = .ok (.lload_n 0, 1) := dq_30 (dq_suf 1 dt04cJ13_bitCount_95d88_0 rfl rfl)
theorem dJ13_bitCount_95d88_2 : decode cJ13_bitCount_95d88 2 = .ok (.iconst 1, 1) := dq_4 (dq_suf 2 dt04cJ13_bitCount_95d88_0 rfl rfl)
theorem dJ13_bitCount_95d88_3 : decode cJ13_bitCount_95d88 3 = .ok (.lushr, 1) := dq_125 (dq_suf 3 dt04cJ13_bitCount_95d88_0 rfl rfl)
theorem dJ13_bitCount_95d88_4 : decode cJ13_bitCount_95d88 4 = .ok (.ldc2_w 314, 3) := dq_20 (dq_suf 4 dt04cJ13_bitCount_95d88_0 rfl rfl) rfl
theorem dJ13_bitCount_95d88_7 : decode cJ13_bitCount_95d88 7 = .ok (.land, 1) := dq_127 (dq_suf 7 dt04cJ13_bitCount_95d88_0 rfl rfl)
theorem dJ13_bitCount_95d88_8 : decode cJ13_bitCount_95d88 8 = .ok (.lsub, 1) := dq_101 (dq_suf 8 dt04cJ13_bitCount_95d88_0 rfl rfl)
theorem dJ13_bitCount_95d88_9 : decode cJ13_bitCount_95d88 9 = .ok (.lstore_n 0, 1) := dq_63 (dq_suf 9 dt04cJ13_bitCount_95d88_0 rfl rfl)
theorem dJ13_bitCount_95d88_10 : decode cJ13_bitCount_95d88 10 = .ok (.lload_n 0, 1) := dq_30 (dq_suf 10 dt04cJ13_bitCount_95d88_0 rfl rfl)
theorem dJ13_bitCount_95d88_11 : decode cJ13_bitCount_95d88 11 = .ok (.ldc2_w 316, 3) := dq_20 (dq_suf 11 dt04cJ13_bitCount_95d88_0 rfl rfl) rfl
theorem dJ13_bitCount_95d88_14 : decode cJ13_bitCount_95d88 14 = .ok (.land, 1) := dq_127 (dq_suf 14 dt04cJ13_bitCount_95d88_0 rfl rfl)
theorem dJ13_bitCount_95d88_15 : decode cJ13_bitCount_95d88 15 = .ok (.lload_n 0, 1) := dq_30 (dq_suf 15 dt04cJ13_bitCount_95d88_0 rfl rfl)
theorem dJ13_bitCount_95d88_16 : decode cJ13_bitCount_95d88 16 = .ok (.iconst 2, 1) := dq_5 (dq_suf 0 dt04cJ13_bitCount_95d88_1 rfl rfl)
theorem dJ13_bitCount_95d88_17 : decode cJ13_bitCount_95d88 17 = .ok (.lushr, 1) := dq_125 (dq_suf 1 dt04cJ13_bitCount_95d88_1 rfl rfl)
theorem dJ13_bitCount_95d88_18 : decode cJ13_bitCount_95d88 18 = .ok (.ldc2_w 316, 3) := dq_20 (dq_suf 2 dt04cJ13_bitCount_95d88_1 rfl rfl) rfl
theorem dJ13_bitCount_95d88_21 : decode cJ13_bitCount_95d88 21 = .ok (.land, 1) := dq_127 (dq_suf 5 dt04cJ13_bitCount_95d88_1 rfl rfl)
theorem dJ13_bitCount_95d88_22 : decode cJ13_bitCount_95d88 22 = .ok (.ladd, 1) := dq_97 (dq_suf 6 dt04cJ13_bitCount_95d88_1 rfl rfl)
theorem dJ13_bitCount_95d88_23 : decode cJ13_bitCount_95d88 23 = .ok (.lstore_n 0, 1) := dq_63 (dq_suf 7 dt04cJ13_bitCount_95d88_1 rfl rfl)
theorem dJ13_bitCount_95d88_24 : decode cJ13_bitCount_95d88 24 = .ok (.lload_n 0, 1) := dq_30 (dq_suf 8 dt04cJ13_bitCount_95d88_1 rfl rfl)
theorem dJ13_bitCount_95d88_25 : decode cJ13_bitCount_95d88 25 = .ok (.lload_n 0, 1) := dq_30 (dq_suf 9 dt04cJ13_bitCount_95d88_1 rfl rfl)
theorem dJ13_bitCount_95d88_26 : decode cJ13_bitCount_95d88 26 = .ok (.iconst 4, 1) := dq_7 (dq_suf 10 dt04cJ13_bitCount_95d88_1 rfl rfl)
theorem dJ13_bitCount_95d88_27 : decode cJ13_bitCount_95d88 27 = .ok (.lushr, 1) := dq_125 (dq_suf 11 dt04cJ13_bitCount_95d88_1 rfl rfl)
theorem dJ13_bitCount_95d88_28 : decode cJ13_bitCount_95d88 28 = .ok (.ladd, 1) := dq_97 (dq_suf 12 dt04cJ13_bitCount_95d88_1 rfl rfl)
theorem dJ13_bitCount_95d88_29 : decode cJ13_bitCount_95d88 29 = .ok (.ldc2_w 318, 3) := dq_20 (dq_suf 13 dt04cJ13_bitCount_95d88_1 rfl rfl) rfl
theorem dJ13_bitCount_95d88_32 : decode cJ13_bitCount_95d88 32 = .ok (.land, 1) := dq_127 (dq_suf 0 dt04cJ13_bitCount_95d88_2 rfl rfl)
theorem dJ13_bitCount_95d88_33 : decode cJ13_bitCount_95d88 33 = .ok (.lstore_n 0, 1) := dq_63 (dq_suf 1 dt04cJ13_bitCount_95d88_2 rfl rfl)
theorem dJ13_bitCount_95d88_34 : decode cJ13_bitCount_95d88 34 = .ok (.lload_n 0, 1) := dq_30 (dq_suf 2 dt04cJ13_bitCount_95d88_2 rfl rfl)
theorem dJ13_bitCount_95d88_35 : decode cJ13_bitCount_95d88 35 = .ok (.lload_n 0, 1) := dq_30 (dq_suf 3 dt04cJ13_bitCount_95d88_2 rfl rfl)
theorem dJ13_bitCount_95d88_36 : decode cJ13_bitCount_95d88 36 = .ok (.bipush 8, 2) := dq_16 (dq_suf 4 dt04cJ13_bitCount_95d88_2 rfl rfl) (by decide +kernel)
theorem dJ13_bitCount_95d88_38 : decode cJ13_bitCount_95d88 38 = .ok (.lushr, 1) := dq_125 (dq_suf 6 dt04cJ13_bitCount_95d88_2 rfl rfl)
theorem dJ13_bitCount_95d88_39 : decode cJ13_bitCount_95d88 39 = .ok (.ladd, 1) := dq_97 (dq_suf 7 dt04cJ13_bitCount_95d88_2 rfl rfl)
theorem dJ13_bitCount_95d88_40 : decode cJ13_bitCount_95d88 40 = .ok (.lstore_n 0, 1) := dq_63 (dq_suf 8 dt04cJ13_bitCount_95d88_2 rfl rfl)
theorem dJ13_bitCount_95d88_41 : decode cJ13_bitCount_95d88 41 = .ok (.lload_n 0, 1) := dq_30 (dq_suf 9 dt04cJ13_bitCount_95d88_2 rfl rfl)
theorem dJ13_bitCount_95d88_42 : decode cJ13_bitCount_95d88 42 = .ok (.lload_n 0, 1) := dq_30 (dq_suf 10 dt04cJ13_bitCount_95d88_2 rfl rfl)
theorem dJ13_bitCount_95d88_43 : decode cJ13_bitCount_95d88 43 = .ok (.bipush 16, 2) := dq_16 (dq_suf 11 dt04cJ13_bitCount_95d88_2 rfl rfl) (by decide +kernel)
theorem dJ13_bitCount_95d88_45 : decode cJ13_bitCount_95d88 45 = .ok (.lushr, 1) := dq_125 (dq_suf 13 dt04cJ13_bitCount_95d88_2 rfl rfl)
theorem dJ13_bitCount_95d88_46 : decode cJ13_bitCount_95d88 46 = .ok (.ladd, 1) := dq_97 (dq_suf 14 dt04cJ13_bitCount_95d88_2 rfl rfl)
theorem dJ13_bitCount_95d88_47 : decode cJ13_bitCount_95d88 47 = .ok (.lstore_n 0, 1) := dq_63 (dq_suf 15 dt04cJ13_bitCount_95d88_2 rfl rfl)
theorem dJ13_bitCount_95d88_48 : decode cJ13_bitCount_95d88 48 = .ok (.lload_n 0, 1) := dq_30 (dq_suf 0 dt04cJ13_bitCount_95d88_3 rfl rfl)
theorem dJ13_bitCount_95d88_49 : decode cJ13_bitCount_95d88 49 = .ok (.lload_n 0, 1) := dq_30 (dq_suf 1 dt04cJ13_bitCount_95d88_3 rfl rfl)
theorem dJ13_bitCount_95d88_50 : decode cJ13_bitCount_95d88 50 = .ok (.bipush 32, 2) := dq_16 (dq_suf 2 dt04cJ13_bitCount_95d88_3 rfl rfl) (by decide +kernel)
theorem dJ13_bitCount_95d88_52 : decode cJ13_bitCount_95d88 52 = .ok (.lushr, 1) := dq_125 (dq_suf 4 dt04cJ13_bitCount_95d88_3 rfl rfl)
theorem dJ13_bitCount_95d88_53 : decode cJ13_bitCount_95d88 53 = .ok (.ladd, 1) := dq_97 (dq_suf 5 dt04cJ13_bitCount_95d88_3 rfl rfl)
theorem dJ13_bitCount_95d88_54 : decode cJ13_bitCount_95d88 54 = .ok (.lstore_n 0, 1) := dq_63 (dq_suf 6 dt04cJ13_bitCount_95d88_3 rfl rfl)
theorem dJ13_bitCount_95d88_55 : decode cJ13_bitCount_95d88 55 = .ok (.lload_n 0, 1) := dq_30 (dq_suf 7 dt04cJ13_bitCount_95d88_3 rfl rfl)
theorem dJ13_bitCount_95d88_56 : decode cJ13_bitCount_95d88 56 = .ok (.l2i, 1) := dq_136 (dq_suf 8 dt04cJ13_bitCount_95d88_3 rfl rfl)
theorem dJ13_bitCount_95d88_57 : decode cJ13_bitCount_95d88 57 = .ok (.bipush 127, 2) := dq_16 (dq_suf 9 dt04cJ13_bitCount_95d88_3 rfl rfl) (by decide +kernel)
theorem dJ13_bitCount_95d88_59 : decode cJ13_bitCount_95d88 59 = .ok (.iand, 1) := dq_126 (dq_suf 11 dt04cJ13_bitCount_95d88_3 rfl rfl)
theorem dJ13_bitCount_95d88_60 : decode cJ13_bitCount_95d88 60 = .ok (.ireturn, 1) := dq_172 (dq_suf 12 dt04cJ13_bitCount_95d88_3 rfl rfl)
