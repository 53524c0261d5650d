noncomputable def ds08cX4_splitBySigns_5 : List UInt8 := 255 :: 233 :: 27 :: 172 :: []
noncomputable def ds08cX4_splitBySigns_4 : List UInt8 := 42 :: 180 :: 0 :: 25 :: 28 :: 42 :: 180 :: 0 :: 28 :: 28 :: 46 :: 79 :: 132 :: 2 :: 1 :: 167 :: ds08cX4_splitBySigns_5
noncomputable def ds08cX4_splitBySigns_3 : List UInt8 := 132 :: 2 :: 1 :: 167 :: 255 :: 209 :: 3 :: 61 :: 28 :: 42 :: 180 :: 0 :: 41 :: 162 :: 0 :: 21 :: ds08cX4_splitBySigns_4
noncomputable def ds08cX4_splitBySigns_2 : List UInt8 := 1 :: 167 :: 0 :: 15 :: 42 :: 180 :: 0 :: 28 :: 28 :: 42 :: 180 :: 0 :: 28 :: 29 :: 46 :: 79 :: ds08cX4_splitBySigns_3
noncomputable def ds08cX4_splitBySigns_1 : List UInt8 := 111 :: 62 :: 29 :: 28 :: 160 :: 0 :: 16 :: 42 :: 180 :: 0 :: 28 :: 28 :: 27 :: 79 :: 132 :: 1 :: ds08cX4_splitBySigns_2
noncomputable def ds08cX4_splitBySigns_0 : List UInt8 := 3 :: 60 :: 3 :: 61 :: 28 :: 42 :: 180 :: 0 :: 41 :: 162 :: 0 :: 45 :: 42 :: 28 :: 182 :: 0 :: ds08cX4_splitBySigns_1
theorem dt08cX4_splitBySigns_0 : cX4_splitBySigns.data.toList.drop 0 = ds08cX4_splitBySigns_0 := by decide +kernel
theorem dt08cX4_splitBySigns_1 : cX4_splitBySigns.data.toList.drop 16 = ds08cX4_splitBySigns_1 := dq_suf 16 dt08cX4_splitBySigns_0 rfl rfl
theorem dt08cX4_splitBySigns_2 : cX4_splitBySigns.data.toList.drop 32 = ds08cX4_splitBySigns_2 := dq_suf 16 dt08cX4_splitBySigns_1 rfl rfl
theorem dt08cX4_splitBySigns_3 : cX4_splitBySigns.data.toList.drop 48 = ds08cX4_splitBySigns_3 := dq_suf 16 dt08cX4_splitBySigns_2 rfl rfl
theorem dt08cX4_splitBySigns_4 : cX4_splitBySigns.data.toList.drop 64 = ds08cX4_splitBySigns_4 := dq_suf 16 dt08cX4_splitBySigns_3 rfl rfl
theorem dt08cX4_splitBySigns_5 : cX4_splitBySigns.data.toList.drop 80 = ds08cX4_splitBySigns_5 := dq_suf 16 dt08cX4_splitBySigns_4 rfl rfl
theorem dX4_splitBySigns_24 : decode cX4_splitBySigns 24 = .ok (.getfield 28, 3) := dq_180 (dq_suf 8 dt08cX4_splitBySigns_1 rfl rfl) rfl
theorem dX4_splitBySigns_27 : decode cX4_splitBySigns 27 = .ok (.iload_n 2, 1) := dq_28 (dq_suf 11 dt08cX4_splitBySigns_1 rfl rfl)
theorem dX4_splitBySigns_28 : decode cX4_splitBySigns 28 = .ok (.iload_n 1, 1) := dq_27 (dq_suf 12 dt08cX4_splitBySigns_1 rfl rfl)
theorem dX4_splitBySigns_29 : decode cX4_splitBySigns 29 = .ok (.iastore, 1) := dq_79 (dq_suf 13 dt08cX4_splitBySigns_1 rfl rfl)
theorem dX4_splitBySigns_30 : decode cX4_splitBySigns 30 = .ok (.iinc 1 1, 3) := dq_132 (dq_suf 14 dt08cX4_splitBySigns_1 rfl rfl) rfl (by decide +kernel)
theorem dX4_splitBySigns_33 : decode cX4_splitBySigns 33 = .ok (.goto 15, 3) := dq_167 (dq_suf 1 dt08cX4_splitBySigns_2 rfl rfl) (by decide +kernel)
theorem dX4_splitBySigns_36 : decode cX4_splitBySigns 36 = .ok (.aload_n 0, 1) := dq_42 (dq_suf 4 dt08cX4_splitBySigns_2 rfl rfl)
theorem dX4_splitBySigns_37 : decode cX4_splitBySigns 37 = .ok (.getfield 28, 3) := dq_180 (dq_suf 5 dt08cX4_splitBySigns_2 rfl rfl) rfl
theorem dX4_splitBySigns_40 : decode cX4_splitBySigns 40 = .ok (.iload_n 2, 1) := dq_28 (dq_suf 8 dt08cX4_splitBySigns_2 rfl rfl)
theorem dX4_splitBySigns_41 : decode cX4_splitBySigns 41 = .ok (.aload_n 0, 1) := dq_42 (dq_suf 9 dt08cX4_splitBySigns_2 rfl rfl)
theorem dX4_splitBySigns_42 : decode cX4_splitBySigns 42 = .ok (.getfield 28, 3) := dq_180 (dq_suf 10 dt08cX4_splitBySigns_2 rfl rfl) rfl
theorem dX4_splitBySigns_45 : decode cX4_splitBySigns 45 = .ok (.iload_n 3, 1) := dq_29 (dq_suf 13 dt08cX4_splitBySigns_2 rfl rfl)
theorem dX4_splitBySigns_46 : decode cX4_splitBySigns 46 = .ok (.iaload, 1) := dq_46 (dq_suf 14 dt08cX4_splitBySigns_2 rfl rfl)
theorem dX4_splitBySigns_47 : decode cX4_splitBySigns 47 = .ok (.iastore, 1) := dq_79 (dq_suf 15 dt08cX4_splitBySigns_2 rfl rfl)
theorem dX4_splitBySigns_48 : decode cX4_splitBySigns 48 = .ok (.iinc 2 1, 3) := dq_132 (dq_suf 0 dt08cX4_splitBySigns_3 rfl rfl) rfl (by decide +kernel)
theorem dX4_splitBySigns_51 : decode cX4_splitBySigns 51 = .ok (.goto (-47), 3) := dq_167 (dq_suf 3 dt08cX4_splitBySigns_3 rfl rfl) (by decide +kernel)
theorem dX4_splitBySigns_54 : decode cX4_splitBySigns 54 = .ok (.iconst 0, 1) := dq_3 (dq_suf 6 dt08cX4_splitBySigns_3 rfl rfl)
theorem dX4_splitBySigns_55 : decode cX4_splitBySigns 55 = .ok (.istore_n 2, 1) := dq_61 (dq_suf 7 dt08cX4_splitBySigns_3 rfl rfl)
theorem dX4_splitBySigns_56 : decode cX4_splitBySigns 56 = .ok (.iload_n 2, 1) := dq_28 (dq_suf 8 dt08cX4_splitBySigns_3 rfl rfl)
theorem dX4_splitBySigns_57 : decode cX4_splitBySigns 57 = .ok (.aload_n 0, 1) := dq_42 (dq_suf 9 dt08cX4_splitBySigns_3 rfl rfl)
theorem dX4_splitBySigns_58 : decode cX4_splitBySigns 58 = .ok (.getfield 41, 3) := dq_180 (dq_suf 10 dt08cX4_splitBySigns_3 rfl rfl) rfl
theorem dX4_splitBySigns_61 : decode cX4_splitBySigns 61 = .ok (.if_icmp .ge 21, 3) := dq_162 (dq_suf 13 dt08cX4_splitBySigns_3 rfl rfl) (by decide +kernel)
theorem dX4_splitBySigns_64 : decode cX4_splitBySigns 64 = .ok (.aload_n 0, 1) := dq_42 (dq_suf 0 dt08cX4_splitBySigns_4 rfl rfl)
theorem dX4_splitBySigns_65 : decode cX4_splitBySigns 65 = .ok (.getfield 25, 3) := dq_180 (dq_suf 1 dt08cX4_splitBySigns_4 rfl rfl) rfl
theorem dX4_splitBySigns_68 : decode cX4_splitBySigns 68 = .ok (.iload_n 2, 1) := dq_28 (dq_suf 4 dt08cX4_splitBySigns_4 rfl rfl)
theorem dX4_splitBySigns_69 : decode cX4_splitBySigns 69 = .ok (.aload_n 0, 1) := dq_42 (dq_suf 5 dt08cX4_splitBySigns_4 rfl rfl)
theorem dX4_splitBySigns_70 : decode cX4_splitBySigns 70 = .ok (.getfield 28, 3) := dq_180 (dq_suf 6 dt08cX4_splitBySigns_4 rfl rfl) rfl
theorem dX4_splitBySigns_73 : decode cX4_splitBySigns 73 = .ok (.iload_n 2, 1) := dq_28 (dq_suf 9 dt08cX4_splitBySigns_4 rfl rfl)
theorem dX4_splitBySigns_74 : decode cX4_splitBySigns 74 = .ok (.iaload, 1) := dq_46 (dq_suf 10 dt08cX4_splitBySigns_4 rfl rfl)
theorem dX4_splitBySigns_75 : decode cX4_splitBySigns 75 = .ok (.iastore, 1) := dq_79 (dq_suf 11 dt08cX4_splitBySigns_4 rfl rfl)
theorem dX4_splitBySigns_76 : decode cX4_splitBySigns 76 = .ok (.iinc 2 1, 3) := dq_132 (dq_suf 12 dt08cX4_splitBySigns_4 rfl rfl) rfl (by decide +kernel)
theorem dX4_splitBySigns_79 : decode cX4_splitBySigns 79 = .ok (.goto (-23), 3) := dq_167 (dq_suf 15 dt08cX4_splitBySigns_4 rfl rfl) (by decide +kernel)
theorem dX4_splitBySigns_82 : decode cX4_splitBySigns 82 = .ok (.iload_n 1, 1) := dq_27 (dq_suf 2 dt08cX4_splitBySigns_5 rfl rfl)
theorem dX4_splitBySigns_83 : decode cX4_splitBySigns 83 = .ok (.ireturn, 1) := dq_172 (dq_suf 3 dt08cX4_splitBySigns_5 rfl rfl)
noncomputable def ds08cX4_leastLike_2 : List UInt8 := 27 :: 47 :: 148 :: 154 :: 0 :: 5 :: 28 :: 172 :: 132 :: 2 :: 1 :: 167 :: 255 :: 215 :: 27 :: 172 :: []
noncomputable def ds08cX4_leastLike_1 : List UInt8 := 25 :: 27 :: 46 :: 160 :: 0 :: 21 :: 42 :: 180 :: 0 :: 31 :: 28 :: 47 :: 42 :: 180 :: 0 :: 31 :: ds08cX4_leastLike_2
noncomputable def ds08cX4_leastLike_0 : List UInt8 := 3 :: 61 :: 28 :: 27 :: 162 :: 0 :: 42 :: 42 :: 180 :: 0 :: 25 :: 28 :: 46 :: 42 :: 180 :: 0 :: ds08cX4_leastLike_1
theorem dt08cX4_leastLike_0 : cX4_leastLike.data.toList.drop 0 = ds08cX4_leastLike_0 := by decide +kernel
theorem dt08cX4_leastLike_1 : cX4_leastLike.data.toList.drop 16 = ds08cX4_leastLike_1 := dq_suf 16 dt08cX4_leastLike_0 rfl rfl
theorem dt08cX4_leastLike_2 : cX4_leastLike.data.toList.drop 32 = ds08cX4_leastLike_2 := dq_suf 16 dt08cX4_leastLike_1 rfl rfl
theorem dX4_leastLike_0 : decode cX4_leastLike 0 = .ok (.iconst 0, 1) := dq_3 (dq_suf 0 dt08cX4_leastLike_0 rfl rfl)
theorem dX4_leastLike_1 : decode cX4_leastLike 1 = .ok (.istore_n 2, 1) := dq_61 (dq_suf 1 dt08cX4_leastLike_0 rfl rfl)
theorem dX4_leastLike_2 : decode cX4_leastLike 2 = .ok (.iload_n 2, 1) := dq_28 (dq_suf 2 dt08cX4_leastLike_0 rfl rfl)
theorem dX4_leastLike_3 : decode cX4_leastLike 3 = .ok (.iload_n 1, 1) := dq_27 (dq_suf 3 dt08cX4_leastLike_0 rfl rfl)
theorem dX4_leastLike_4 : decode cX4_leastLike 4 = .ok (.if_icmp .ge 42, 3) := dq_162 (dq_suf 4 dt08cX4_leastLike_0 rfl rfl) (by decide +kernel)
theorem dX4_leastLike_7 : decode cX4_leastLike 7 = .ok (.aload_n 0, 1) := dq_42 (dq_suf 7 dt08cX4_leastLike_0 rfl rfl)
theorem dX4_leastLike_8 : decode cX4_leastLike 8 = .ok (.getfield 25, 3) := dq_180 (dq_suf 8 dt08cX4_leastLike_0 rfl rfl) rfl
theorem dX4_leastLike_11 : decode cX4_leastLike 11 = .ok (.iload_n 2, 1) := dq_28 (dq_suf 11 dt08cX4_leastLike_0 rfl rfl)
theorem dX4_leastLike_12 : decode cX4_leastLike 12 = .ok (.iaload, 1) := dq_46 (dq_suf 12 dt08cX4_leastLike_0 rfl rfl)
theorem dX4_leastLike_13 : decode cX4_leastLike 13 = .ok (.aload_n 0, 1) := dq_42 (dq_suf 13 dt08cX4_leastLike_0 rfl rfl)
theorem dX4_leastLike_14 : decode cX4_leastLike 14 = .ok (.getfield 25, 3) := dq_180 (dq_suf 14 dt08cX4_leastLike_0 rfl rfl) rfl
theorem dX4_leastLike_17 : decode cX4_leastLike 17 = .ok (.iload_n 1, 1) := dq_27 (dq_suf 1 dt08cX4_leastLike_1 rfl rfl)
theorem dX4_leastLike_18 : decode cX4_leastLike 18 = .ok (.iaload, 1) := dq_46 (dq_suf 2 dt08cX4_leastLike_1 rfl rfl)
theorem dX4_leastLike_19 : decode cX4_leastLike 19 = .ok (.if_icmp .ne 21, 3) := dq_160 (dq_suf 3 dt08cX4_leastLike_1 rfl rfl) (by decide +kernel)
theorem dX4_leastLike_22 : decode cX4_leastLike 22 = .ok (.aload_n 0, 1) := dq_42 (dq_suf 6 dt08cX4_leastLike_1 rfl rfl)
theorem dX4_leastLike_23 : decode cX4_leastLike 23 = .ok (.getfield 31, 3) := dq_180 (dq_suf 7 dt08cX4_leastLike_1 rfl rfl) rfl
theorem dX4_leastLike_26 : decode cX4_leastLike 26 = .ok (.iload_n 2, 1) := dq_28 (dq_suf 10 dt08cX4_leastLike_1 rfl rfl)
theorem dX4_leastLike_27 : decode cX4_leastLike 27 = .ok (.laload, 1) := dq_47 (dq_suf 11 dt08cX4_leastLike_1 rfl rfl)
theorem dX4_leastLike_28 : decode cX4_leastLike 28 = .ok (.aload_n 0, 1) := dq_42 (dq_suf 12 dt08cX4_leastLike_1 rfl rfl)
theorem dX4_leastLike_29 : decode cX4_leastLike 29 = .ok (.getfield 31, 3) := dq_180 (dq_suf 13 dt08cX4_leastLike_1 rfl rfl) rfl
theorem dX4_leastLike_32 : decode cX4_leastLike 32 = .ok (.iload_n 1, 1) := dq_27 (dq_suf 0 dt08cX4_leastLike_2 rfl rfl)
theorem dX4_leastLike_33 : decode cX4_leastLike 33 = .ok (.laload, 1) := dq_47 (dq_suf 1 dt08cX4_leastLike_2 rfl rfl)
theorem dX4_leastLike_34 : decode cX4_leastLike 34 = .ok (.lcmp, 1) := dq_148 (dq_suf 2 dt08cX4_leastLike_2 rfl rfl)
theorem dX4_leastLike_35 : decode cX4_leastLike 35 = .ok (.ifCond .ne 5, 3) := dq_154 (dq_suf 3 dt08cX4_leastLike_2 rfl rfl) (by decide +kernel)
theorem dX4_leastLike_38 : decode cX4_leastLike 38 = .ok (.iload_n 2, 1) := dq_28 (dq_suf 6 dt08cX4_leastLike_2 rfl rfl)
theorem dX4_leastLike_39 : decode cX4_leastLike 39 = .ok (.ireturn, 1) := dq_172 (dq_suf 7 dt08cX4_leastLike_2 rfl rfl)
theorem dX4_leastLike_40 : decode cX4_leastLike 40 = .ok (.iinc 2 1, 3) := dq_132 (dq_suf 8 dt08cX4_leastLike_2 rfl rfl) rfl (by decide +kernel)
theorem dX4_leastLike_43 : decode cX4_leastLike 43 = .ok (.goto (-41), 3) := dq_167 (dq_suf 11 dt08cX4_leastLike_2 rfl rfl) (by decide +kernel)
theorem dX4_leastLike_46 : decode cX4_leastLike 46 = .ok (.iload_n 1, 1) := dq_27 (dq_suf 14 dt08cX4_leastLike_2 rfl rfl)
theorem dX4_leastLike_47 : decode cX4_leastLike 47 = .ok (.ireturn, 1) := dq_172 (dq_suf 15 dt08cX4_leastLike_2 rfl rfl)
noncomputable def ds08cX4_moved_3 : List UInt8 := 132 :: 5 :: 1 :: 167 :: 255 :: 210 :: 33 :: 173 :: []
noncomputable def ds08cX4_moved_2 : List UInt8 := 2 :: 159 :: 0 :: 15 :: 33 :: 10 :: 42 :: 180 :: 0 :: 25 :: 21 :: 5 :: 46 :: 121 :: 129 :: 66 :: ds08cX4_moved_3
noncomputable def ds08cX4_moved_1 : List UInt8 := 5 :: 125 :: 10 :: 127 :: 9 :: 148 :: 153 :: 0 :: 26 :: 42 :: 180 :: 0 :: 25 :: 21 :: 5 :: 46 :: ds08cX4_moved_2
noncomputable def ds08cX4_moved_0 : List UInt8 := 9 :: 66 :: 3 :: 54 :: 5 :: 21 :: 5 :: 42 :: 180 :: 0 :: 41 :: 162 :: 0 :: 43 :: 31 :: 21 :: ds08cX4_moved_1
theorem dt08cX4_moved_0 : cX4_moved.data.toList.drop 0 = ds08cX4_moved_0 := by decide +kernel
theorem dt08cX4_moved_1 : cX4_moved.data.toList.drop 16 = ds08cX4_moved_1 := dq_suf 16 dt08cX4_moved_0 rfl rfl
theorem dt08cX4_moved_2 : cX4_moved.data.toList.drop 32 = ds08cX4_moved_2 := dq_suf 16 dt08cX4_moved_1 rfl rfl
theorem dt08cX4_moved_3 : cX4_moved.data.toList.drop 48 = ds08cX4_moved_3 := dq_suf 16 dt08cX4_moved_2 rfl rfl
theorem dX4_moved_0 : decode cX4_moved 0 = .ok (.lconst 0, 1) := dq_9 (dq_suf 0 dt08cX4_moved_0 rfl rfl)
theorem dX4_moved_1 : decode cX4_moved 1 = .ok (.lstore_n 3, 1) := dq_66 (dq_suf 1 dt08cX4_moved_0 rfl rfl)
theorem dX4_moved_2 : decode cX4_moved 2 = .ok (.iconst 0, 1) := dq_3 (dq_suf 2 dt08cX4_moved_0 rfl rfl)
theorem dX4_moved_3 : decode cX4_moved 3 = .ok (.istore 5, 2) := dq_54 (dq_suf 3 dt08cX4_moved_0 rfl rfl) rfl
theorem dX4_moved_5 : decode cX4_moved 5 = .ok (.iload 5, 2) := dq_21 (dq_suf 5 dt08cX4_moved_0 rfl rfl) rfl
theorem dX4_moved_7 : decode cX4_moved 7 = .ok (.aload_n 0, 1) := dq_42 (dq_suf 7 dt08cX4_moved_0 rfl rfl)
theorem dX4_moved_8 : decode cX4_moved 8 = .ok (.getfield 41, 3) := dq_180 (dq_suf 8 dt08cX4_moved_0 rfl rfl) rfl
theorem dX4_moved_11 : decode cX4_moved 11 = .ok (.if_icmp .ge 43, 3) := dq_162 (dq_suf 11 dt08cX4_moved_0 rfl rfl) (by decide +kernel)
theorem dX4_moved_14 : decode cX4_moved 14 = .ok (.lload_n 1, 1) := dq_31 (dq_suf 14 dt08cX4_moved_0 rfl rfl)
theorem dX4_moved_15 : decode cX4_moved 15 = .ok (.iload 5, 2) := dq_21 (dq_suf 15 dt08cX4_moved_0 rfl rfl) rfl
theorem dX4_moved_17 : decode cX4_moved 17 = .ok (.lushr, 1) := dq_125 (dq_suf 1 dt08cX4_moved_1 rfl rfl)
theorem dX4_moved_18 : decode cX4_moved 18 = .ok (.lconst 1, 1) := dq_10 (dq_suf 2 dt08cX4_moved_1 rfl rfl)
theorem dX4_moved_19 : decode cX4_moved 19 = .ok (.land, 1) := dq_127 (dq_suf 3 dt08cX4_moved_1 rfl rfl)
theorem dX4_moved_20 : decode cX4_moved 20 = .ok (.lconst 0, 1) := dq_9 (dq_suf 4 dt08cX4_moved_1 rfl rfl)
theorem dX4_moved_21 : decode cX4_moved 21 = .ok (.lcmp, 1) := dq_148 (dq_suf 5 dt08cX4_moved_1 rfl rfl)
theorem dX4_moved_22 : decode cX4_moved 22 = .ok (.ifCond .eq 26, 3) := dq_153 (dq_suf 6 dt08cX4_moved_1 rfl rfl) (by decide +kernel)
theorem dX4_moved_25 : decode cX4_moved 25 = .ok (.aload_n 0, 1) := dq_42 (dq_suf 9 dt08cX4_moved_1 rfl rfl)
theorem dX4_moved_26 : decode cX4_moved 26 = .ok (.getfield 25, 3) := dq_180 (dq_suf 10 dt08cX4_moved_1 rfl rfl) rfl
theorem dX4_moved_29 : decode cX4_moved 29 = .ok (.iload 5, 2) := dq_21 (dq_suf 13 dt08cX4_moved_1 rfl rfl) rfl
theorem dX4_moved_31 : decode cX4_moved 31 = .ok (.iaload, 1) := dq_46 (dq_suf 15 dt08cX4_moved_1 rfl rfl)
theorem dX4_moved_32 : decode cX4_moved 32 = .ok (.iconst (-1), 1) := dq_2 (dq_suf 0 dt08cX4_moved_2 rfl rfl)
theorem dX4_moved_33 : decode cX4_moved 33 = .ok (.if_icmp .eq 15, 3) := dq_159 (dq_suf 1 dt08cX4_moved_2 rfl rfl) (by decide +kernel)
theorem dX4_moved_36 : decode cX4_moved 36 = .ok (.lload_n 3, 1) := dq_33 (dq_suf 4 dt08cX4_moved_2 rfl rfl)
theorem dX4_moved_37 : decode cX4_moved 37 = .ok (.lconst 1, 1) := dq_10 (dq_suf 5 dt08cX4_moved_2 rfl rfl)
theorem dX4_moved_38 : decode cX4_moved 38 = .ok (.aload_n 0, 1) := dq_42 (dq_suf 6 dt08cX4_moved_2 rfl rfl)
theorem dX4_moved_39 : decode cX4_moved 39 = .ok (.getfield 25, 3) := dq_180 (dq_suf 7 dt08cX4_moved_2 rfl rfl) rfl
theorem dX4_moved_42 : decode cX4_moved 42 = .ok (.iload 5, 2) := dq_21 (dq_suf 10 dt08cX4_moved_2 rfl rfl) rfl
theorem dX4_moved_44 : decode cX4_moved 44 = .ok (.iaload, 1) := dq_46 (dq_suf 12 dt08cX4_moved_2 rfl rfl)
theorem dX4_moved_45 : decode cX4_moved 45 = .ok (.lshl, 1) := dq_121 (dq_suf 13 dt08cX4_moved_2 rfl rfl)
theorem dX4_moved_46 : decode cX4_moved 46 = .ok (.lor, 1) := dq_129 (dq_suf 14 dt08cX4_moved_2 rfl rfl)
theorem dX4_moved_47 : decode cX4_moved 47 = .ok (.lstore_n 3, 1) := dq_66 (dq_suf 15 dt08cX4_moved_2 rfl rfl)
theorem dX4_moved_48 : decode cX4_moved 48 = .ok (.iinc 5 1, 3) := dq_132 (dq_suf 0 dt08cX4_moved_3 rfl rfl) rfl (by decide +kernel)
theorem dX4_moved_51 : decode cX4_moved 51 = .ok (.goto (-46), 3) := dq_167 (dq_suf 3 dt08cX4_moved_3 rfl rfl) (by decide +kernel)
theorem dX4_moved_54 : decode cX4_moved 54 = .ok (.lload_n 3, 1) := dq_33 (dq_suf 6 dt08cX4_moved_3 rfl rfl)
theorem dX4_moved_55 : decode cX4_moved 55 = .ok (.lreturn, 1) := dq_173 (dq_suf 7 dt08cX4_moved_3 rfl rfl)
noncomputable def ds08cX4_rebuild_10 : List UInt8 := 181 :: 0 :: 48 :: 177 :: []
noncomputable def ds08cX4_rebuild_9 : List UInt8 := 180 :: 0 :: 41 :: 184 :: 0 :: 114 :: 181 :: 0 :: 41 :: 42 :: 3 :: 181 :: 0 :: 45 :: 42 :: 4 :: ds08cX4_rebuild_10
noncomputable def ds08cX4_rebuild_8 : List UInt8 := 42 :: 180 :: 0 :: 31 :: 29 :: 47 :: 80 :: 132 :: 2 :: 1 :: 167 :: 255 :: 197 :: 42 :: 27 :: 42 :: ds08cX4_rebuild_9
noncomputable def ds08cX4_rebuild_7 : List UInt8 := 180 :: 0 :: 9 :: 28 :: 42 :: 180 :: 0 :: 19 :: 29 :: 46 :: 79 :: 42 :: 180 :: 0 :: 15 :: 28 :: ds08cX4_rebuild_8
noncomputable def ds08cX4_rebuild_6 : List UInt8 := 28 :: 46 :: 62 :: 29 :: 155 :: 0 :: 35 :: 29 :: 42 :: 180 :: 0 :: 41 :: 162 :: 0 :: 27 :: 42 :: ds08cX4_rebuild_7
noncomputable def ds08cX4_rebuild_5 : List UInt8 := 27 :: 162 :: 0 :: 60 :: 28 :: 42 :: 180 :: 0 :: 41 :: 162 :: 0 :: 52 :: 42 :: 180 :: 0 :: 28 :: ds08cX4_rebuild_6
noncomputable def ds08cX4_rebuild_4 : List UInt8 := 180 :: 0 :: 25 :: 28 :: 46 :: 28 :: 79 :: 132 :: 2 :: 255 :: 167 :: 255 :: 189 :: 3 :: 61 :: 28 :: ds08cX4_rebuild_5
noncomputable def ds08cX4_rebuild_3 : List UInt8 := 42 :: 180 :: 0 :: 25 :: 28 :: 46 :: 16 :: 60 :: 162 :: 0 :: 15 :: 42 :: 180 :: 0 :: 28 :: 42 :: ds08cX4_rebuild_4
noncomputable def ds08cX4_rebuild_2 : List UInt8 := 42 :: 180 :: 0 :: 9 :: 28 :: 46 :: 79 :: 42 :: 180 :: 0 :: 25 :: 28 :: 46 :: 155 :: 0 :: 26 :: ds08cX4_rebuild_3
noncomputable def ds08cX4_rebuild_1 : List UInt8 := 42 :: 42 :: 180 :: 0 :: 15 :: 28 :: 47 :: 182 :: 0 :: 83 :: 80 :: 42 :: 180 :: 0 :: 19 :: 28 :: ds08cX4_rebuild_2
noncomputable def ds08cX4_rebuild_0 : List UInt8 := 42 :: 180 :: 0 :: 41 :: 4 :: 100 :: 61 :: 28 :: 155 :: 0 :: 69 :: 42 :: 180 :: 0 :: 31 :: 28 :: ds08cX4_rebuild_1
theorem dt08cX4_rebuild_0 : cX4_rebuild.data.toList.drop 0 = ds08cX4_rebuild_0 := by decide +kernel
theorem dt08cX4_rebuild_1 : cX4_rebuild.data.toList.drop 16 = ds08cX4_rebuild_1 := dq_suf 16 dt08cX4_rebuild_0 rfl rfl
theorem dt08cX4_rebuild_2 : cX4_rebuild.data.toList.drop 32 = ds08cX4_rebuild_2 := dq_suf 16 dt08cX4_rebuild_1 rfl rfl
theorem dt08cX4_rebuild_3 : cX4_rebuild.data.toList.drop 48 = ds08cX4_rebuild_3 := dq_suf 16 dt08cX4_rebuild_2 rfl rfl
theorem dt08cX4_rebuild_4 : cX4_rebuild.data.toList.drop 64 = ds08cX4_rebuild_4 := dq_suf 16 dt08cX4_rebuild_3 rfl rfl
theorem dt08cX4_rebuild_5 : cX4_rebuild.data.toList.drop 80 = ds08cX4_rebuild_5 := dq_suf 16 dt08cX4_rebuild_4 rfl rfl
theorem dt08cX4_rebuild_6 : cX4_rebuild.data.toList.drop 96 = ds08cX4_rebuild_6 := dq_suf 16 dt08cX4_rebuild_5 rfl rfl
theorem dt08cX4_rebuild_7 : cX4_rebuild.data.toList.drop 112 = ds08cX4_rebuild_7 := dq_suf 16 dt08cX4_rebuild_6 rfl rfl
theorem dt08cX4_rebuild_8 : cX4_rebuild.data.toList.drop 128 = ds08cX4_rebuild_8 := dq_suf 16 dt08cX4_rebuild_7 rfl rfl
theorem dt08cX4_rebuild_9 : cX4_rebuild.data.toList.drop 144 = ds08cX4_rebuild_9 := dq_suf 16 dt08cX4_rebuild_8 rfl rfl
theorem dt08cX4_rebuild_10 : cX4_rebuild.data.toList.drop 160 = ds08cX4_rebuild_10 := dq_suf 16 dt08cX4_rebuild_9 rfl rfl
theorem dX4_rebuild_0 : decode cX4_rebuild 0 = .ok (.aload_n 0, 1) := dq_42 (dq_suf 0 dt08cX4_rebuild_0 rfl rfl)
theorem dX4_rebuild_1 : decode cX4_rebuild 1 = .ok (.getfield 41, 3) := dq_180 (dq_suf 1 dt08cX4_rebuild_0 rfl rfl) rfl
theorem dX4_rebuild_4 : decode cX4_rebuild 4 = .ok (.iconst 1, 1) := dq_4 (dq_suf 4 dt08cX4_rebuild_0 rfl rfl)
theorem dX4_rebuild_5 : decode cX4_rebuild 5 = .ok (.isub, 1) := dq_100 (dq_suf 5 dt08cX4_rebuild_0 rfl rfl)
theorem dX4_rebuild_6 : decode cX4_rebuild 6 = .ok (.istore_n 2, 1) := dq_61 (dq_suf 6 dt08cX4_rebuild_0 rfl rfl)
theorem dX4_rebuild_7 : decode cX4_rebuild 7 = .ok (.iload_n 2, 1) := dq_28 (dq_suf 7 dt08cX4_rebuild_0 rfl rfl)
theorem dX4_rebuild_8 : decode cX4_rebuild 8 = .ok (.ifCond .lt 69, 3) := dq_155 (dq_suf 8 dt08cX4_rebuild_0 rfl rfl) (by decide +kernel)
theorem dX4_rebuild_11 : decode cX4_rebuild 11 = .ok (.aload_n 0, 1) := dq_42 (dq_suf 11 dt08cX4_rebuild_0 rfl rfl)
theorem dX4_rebuild_12 : decode cX4_rebuild 12 = .ok (.getfield 31, 3) := dq_180 (dq_suf 12 dt08cX4_rebuild_0 rfl rfl) rfl
theorem dX4_rebuild_15 : decode cX4_rebuild 15 = .ok (.iload_n 2, 1) := dq_28 (dq_suf 15 dt08cX4_rebuild_0 rfl rfl)
theorem dX4_rebuild_16 : decode cX4_rebuild 16 = .ok (.aload_n 0, 1) := dq_42 (dq_suf 0 dt08cX4_rebuild_1 rfl rfl)
theorem dX4_rebuild_17 : decode cX4_rebuild 17 = .ok (.aload_n 0, 1) := dq_42 (dq_suf 1 dt08cX4_rebuild_1 rfl rfl)
theorem dX4_rebuild_18 : decode cX4_rebuild 18 = .ok (.getfield 15, 3) := dq_180 (dq_suf 2 dt08cX4_rebuild_1 rfl rfl) rfl
theorem dX4_rebuild_21 : decode cX4_rebuild 21 = .ok (.iload_n 2, 1) := dq_28 (dq_suf 5 dt08cX4_rebuild_1 rfl rfl)
theorem dX4_rebuild_22 : decode cX4_rebuild 22 = .ok (.laload, 1) := dq_47 (dq_suf 6 dt08cX4_rebuild_1 rfl rfl)
theorem dX4_rebuild_23 : decode cX4_rebuild 23 = .ok (.invokevirtual 83, 3) := dq_182 (dq_suf 7 dt08cX4_rebuild_1 rfl rfl) rfl
theorem dX4_rebuild_26 : decode cX4_rebuild 26 = .ok (.lastore, 1) := dq_80 (dq_suf 10 dt08cX4_rebuild_1 rfl rfl)
theorem dX4_rebuild_27 : decode cX4_rebuild 27 = .ok (.aload_n 0, 1) := dq_42 (dq_suf 11 dt08cX4_rebuild_1 rfl rfl)
theorem dX4_rebuild_28 : decode cX4_rebuild 28 = .ok (.getfield 19, 3) := dq_180 (dq_suf 12 dt08cX4_rebuild_1 rfl rfl) rfl
theorem dX4_rebuild_31 : decode cX4_rebuild 31 = .ok (.iload_n 2, 1) := dq_28 (dq_suf 15 dt08cX4_rebuild_1 rfl rfl)
theorem dX4_rebuild_32 : decode cX4_rebuild 32 = .ok (.aload_n 0, 1) := dq_42 (dq_suf 0 dt08cX4_rebuild_2 rfl rfl)
theorem dX4_rebuild_33 : decode cX4_rebuild 33 = .ok (.getfield 9, 3) := dq_180 (dq_suf 1 dt08cX4_rebuild_2 rfl rfl) rfl
theorem dX4_rebuild_36 : decode cX4_rebuild 36 = .ok (.iload_n 2, 1) := dq_28 (dq_suf 4 dt08cX4_rebuild_2 rfl rfl)
theorem dX4_rebuild_37 : decode cX4_rebuild 37 = .ok (.iaload, 1) := dq_46 (dq_suf 5 dt08cX4_rebuild_2 rfl rfl)
theorem dX4_rebuild_38 : decode cX4_rebuild 38 = .ok (.iastore, 1) := dq_79 (dq_suf 6 dt08cX4_rebuild_2 rfl rfl)
theorem dX4_rebuild_39 : decode cX4_rebuild 39 = .ok (.aload_n 0, 1) := dq_42 (dq_suf 7 dt08cX4_rebuild_2 rfl rfl)
theorem dX4_rebuild_40 : decode cX4_rebuild 40 = .ok (.getfield 25, 3) := dq_180 (dq_suf 8 dt08cX4_rebuild_2 rfl rfl) rfl
theorem dX4_rebuild_43 : decode cX4_rebuild 43 = .ok (.iload_n 2, 1) := dq_28 (dq_suf 11 dt08cX4_rebuild_2 rfl rfl)
theorem dX4_rebuild_44 : decode cX4_rebuild 44 = .ok (.iaload, 1) := dq_46 (dq_suf 12 dt08cX4_rebuild_2 rfl rfl)
theorem dX4_rebuild_45 : decode cX4_rebuild 45 = .ok (.ifCond .lt 26, 3) := dq_155 (dq_suf 13 dt08cX4_rebuild_2 rfl rfl) (by decide +kernel)
theorem dX4_rebuild_48 : decode cX4_rebuild 48 = .ok (.aload_n 0, 1) := dq_42 (dq_suf 0 dt08cX4_rebuild_3 rfl rfl)
theorem dX4_rebuild_49 : decode cX4_rebuild 49 = .ok (.getfield 25, 3) := dq_180 (dq_suf 1 dt08cX4_rebuild_3 rfl rfl) rfl
theorem dX4_rebuild_52 : decode cX4_rebuild 52 = .ok (.iload_n 2, 1) := dq_28 (dq_suf 4 dt08cX4_rebuild_3 rfl rfl)
theorem dX4_rebuild_53 : decode cX4_rebuild 53 = .ok (.iaload, 1) := dq_46 (dq_suf 5 dt08cX4_rebuild_3 rfl rfl)
theorem dX4_rebuild_54 : decode cX4_rebuild 54 = .ok (.bipush 60, 2) := dq_16 (dq_suf 6 dt08cX4_rebuild_3 rfl rfl) (by decide +kernel)
theorem dX4_rebuild_56 : decode cX4_rebuild 56 = .ok (.if_icmp .ge 15, 3) := dq_162 (dq_suf 8 dt08cX4_rebuild_3 rfl rfl) (by decide +kernel)
theorem dX4_rebuild_59 : decode cX4_rebuild 59 = .ok (.aload_n 0, 1) := dq_42 (dq_suf 11 dt08cX4_rebuild_3 rfl rfl)
theorem dX4_rebuild_60 : decode cX4_rebuild 60 = .ok (.getfield 28, 3) := dq_180 (dq_suf 12 dt08cX4_rebuild_3 rfl rfl) rfl
theorem dX4_rebuild_63 : decode cX4_rebuild 63 = .ok (.aload_n 0, 1) := dq_42 (dq_suf 15 dt08cX4_rebuild_3 rfl rfl)
theorem dX4_rebuild_64 : decode cX4_rebuild 64 = .ok (.getfield 25, 3) := dq_180 (dq_suf 0 dt08cX4_rebuild_4 rfl rfl) rfl
theorem dX4_rebuild_67 : decode cX4_rebuild 67 = .ok (.iload_n 2, 1) := dq_28 (dq_suf 3 dt08cX4_rebuild_4 rfl rfl)
theorem dX4_rebuild_68 : decode cX4_rebuild 68 = .ok (.iaload, 1) := dq_46 (dq_suf 4 dt08cX4_rebuild_4 rfl rfl)
theorem dX4_rebuild_69 : decode cX4_rebuild 69 = .ok (.iload_n 2, 1) := dq_28 (dq_suf 5 dt08cX4_rebuild_4 rfl rfl)
theorem dX4_rebuild_70 : decode cX4_rebuild 70 = .ok (.iastore, 1) := dq_79 (dq_suf 6 dt08cX4_rebuild_4 rfl rfl)
theorem dX4_rebuild_71 : decode cX4_rebuild 71 = .ok (.iinc 2 (-1), 3) := dq_132 (dq_suf 7 dt08cX4_rebuild_4 rfl rfl) rfl (by decide +kernel)
theorem dX4_rebuild_74 : decode cX4_rebuild 74 = .ok (.goto (-67), 3) := dq_167 (dq_suf 10 dt08cX4_rebuild_4 rfl rfl) (by decide +kernel)
theorem dX4_rebuild_77 : decode cX4_rebuild 77 = .ok (.iconst 0, 1) := dq_3 (dq_suf 13 dt08cX4_rebuild_4 rfl rfl)
theorem dX4_rebuild_78 : decode cX4_rebuild 78 = .ok (.istore_n 2, 1) := dq_61 (dq_suf 14 dt08cX4_rebuild_4 rfl rfl)
theorem dX4_rebuild_79 : decode cX4_rebuild 79 = .ok (.iload_n 2, 1) := dq_28 (dq_suf 15 dt08cX4_rebuild_4 rfl rfl)
theorem dX4_rebuild_80 : decode cX4_rebuild 80 = .ok (.iload_n 1, 1) := dq_27 (dq_suf 0 dt08cX4_rebuild_5 rfl rfl)
theorem dX4_rebuild_81 : decode cX4_rebuild 81 = .ok (.if_icmp .ge 60, 3) := dq_162 (dq_suf 1 dt08cX4_rebuild_5 rfl rfl) (by decide +kernel)
theorem dX4_rebuild_84 : decode cX4_rebuild 84 = .ok (.iload_n 2, 1) := dq_28 (dq_suf 4 dt08cX4_rebuild_5 rfl rfl)
theorem dX4_rebuild_85 : decode cX4_rebuild 85 = .ok (.aload_n 0, 1) := dq_42 (dq_suf 5 dt08cX4_rebuild_5 rfl rfl)
theorem dX4_rebuild_86 : decode cX4_rebuild 86 = .ok (.getfield 41, 3) := dq_180 (dq_suf 6 dt08cX4_rebuild_5 rfl rfl) rfl
theorem dX4_rebuild_89 : decode cX4_rebuild 89 = .ok (.if_icmp .ge 52, 3) := dq_162 (dq_suf 9 dt08cX4_rebuild_5 rfl rfl) (by decide +kernel)
theorem dX4_rebuild_92 : decode cX4_rebuild 92 = .ok (.aload_n 0, 1) := dq_42 (dq_suf 12 dt08cX4_rebuild_5 rfl rfl)
theorem dX4_rebuild_93 : decode cX4_rebuild 93 = .ok (.getfield 28, 3) := dq_180 (dq_suf 13 dt08cX4_rebuild_5 rfl rfl) rfl
theorem dX4_rebuild_96 : decode cX4_rebuild 96 = .ok (.iload_n 2, 1) := dq_28 (dq_suf 0 dt08cX4_rebuild_6 rfl rfl)
theorem dX4_rebuild_97 : decode cX4_rebuild 97 = .ok (.iaload, 1) := dq_46 (dq_suf 1 dt08cX4_rebuild_6 rfl rfl)
theorem dX4_rebuild_98 : decode cX4_rebuild 98 = .ok (.istore_n 3, 1) := dq_62 (dq_suf 2 dt08cX4_rebuild_6 rfl rfl)
theorem dX4_rebuild_99 : decode cX4_rebuild 99 = .ok (.iload_n 3, 1) := dq_29 (dq_suf 3 dt08cX4_rebuild_6 rfl rfl)
theorem dX4_rebuild_100 : decode cX4_rebuild 100 = .ok (.ifCond .lt 35, 3) := dq_155 (dq_suf 4 dt08cX4_rebuild_6 rfl rfl) (by decide +kernel)
theorem dX4_rebuild_103 : decode cX4_rebuild 103 = .ok (.iload_n 3, 1) := dq_29 (dq_suf 7 dt08cX4_rebuild_6 rfl rfl)
theorem dX4_rebuild_104 : decode cX4_rebuild 104 = .ok (.aload_n 0, 1) := dq_42 (dq_suf 8 dt08cX4_rebuild_6 rfl rfl)
theorem dX4_rebuild_105 : decode cX4_rebuild 105 = .ok (.getfield 41, 3) := dq_180 (dq_suf 9 dt08cX4_rebuild_6 rfl rfl) rfl
theorem dX4_rebuild_108 : decode cX4_rebuild 108 = .ok (.if_icmp .ge 27, 3) := dq_162 (dq_suf 12 dt08cX4_rebuild_6 rfl rfl) (by decide +kernel)
theorem dX4_rebuild_111 : decode cX4_rebuild 111 = .ok (.aload_n 0, 1) := dq_42 (dq_suf 15 dt08cX4_rebuild_6 rfl rfl)
theorem dX4_rebuild_112 : decode cX4_rebuild 112 = .ok (.getfield 9, 3) := dq_180 (dq_suf 0 dt08cX4_rebuild_7 rfl rfl) rfl
theorem dX4_rebuild_115 : decode cX4_rebuild 115 = .ok (.iload_n 2, 1) := dq_28 (dq_suf 3 dt08cX4_rebuild_7 rfl rfl)
theorem dX4_rebuild_116 : decode cX4_rebuild 116 = .ok (.aload_n 0, 1) := dq_42 (dq_suf 4 dt08cX4_rebuild_7 rfl rfl)
theorem dX4_rebuild_117 : decode cX4_rebuild 117 = .ok (.getfield 19, 3) := dq_180 (dq_suf 5 dt08cX4_rebuild_7 rfl rfl) rfl
theorem dX4_rebuild_120 : decode cX4_rebuild 120 = .ok (.iload_n 3, 1) := dq_29 (dq_suf 8 dt08cX4_rebuild_7 rfl rfl)
theorem dX4_rebuild_121 : decode cX4_rebuild 121 = .ok (.iaload, 1) := dq_46 (dq_suf 9 dt08cX4_rebuild_7 rfl rfl)
theorem dX4_rebuild_122 : decode cX4_rebuild 122 = .ok (.iastore, 1) := dq_79 (dq_suf 10 dt08cX4_rebuild_7 rfl rfl)
theorem dX4_rebuild_123 : decode cX4_rebuild 123 = .ok (.aload_n 0, 1) := dq_42 (dq_suf 11 dt08cX4_rebuild_7 rfl rfl)
theorem dX4_rebuild_124 : decode cX4_rebuild 124 = .ok (.getfield 15, 3) := dq_180 (dq_suf 12 dt08cX4_rebuild_7 rfl rfl) rfl
theorem dX4_rebuild_127 : decode cX4_rebuild 127 = .ok (.iload_n 2, 1) := dq_28 (dq_suf 15 dt08cX4_rebuild_7 rfl rfl)
theorem dX4_rebuild_128 : decode cX4_rebuild 128 = .ok (.aload_n 0, 1) := dq_42 (dq_suf 0 dt08cX4_rebuild_8 rfl rfl)
theorem dX4_rebuild_129 : decode cX4_rebuild 129 = .ok (.getfield 31, 3) := dq_180 (dq_suf 1 dt08cX4_rebuild_8 rfl rfl) rfl
theorem dX4_rebuild_132 : decode cX4_rebuild 132 = .ok (.iload_n 3, 1) := dq_29 (dq_suf 4 dt08cX4_rebuild_8 rfl rfl)
theorem dX4_rebuild_133 : decode cX4_rebuild 133 = .ok (.laload, 1) := dq_47 (dq_suf 5 dt08cX4_rebuild_8 rfl rfl)
theorem dX4_rebuild_134 : decode cX4_rebuild 134 = .ok (.lastore, 1) := dq_80 (dq_suf 6 dt08cX4_rebuild_8 rfl rfl)
theorem dX4_rebuild_135 : decode cX4_rebuild 135 = .ok (.iinc 2 1, 3) := dq_132 (dq_suf 7 dt08cX4_rebuild_8 rfl rfl) rfl (by decide +kernel)
theorem dX4_rebuild_138 : decode cX4_rebuild 138 = .ok (.goto (-59), 3) := dq_167 (dq_suf 10 dt08cX4_rebuild_8 rfl rfl) (by decide +kernel)
theorem dX4_rebuild_141 : decode cX4_rebuild 141 = .ok (.aload_n 0, 1) := dq_42 (dq_suf 13 dt08cX4_rebuild_8 rfl rfl)
theorem dX4_rebuild_142 : decode cX4_rebuild 142 = .ok (.iload_n 1, 1) := dq_27 (dq_suf 14 dt08cX4_rebuild_8 rfl rfl)
theorem dX4_rebuild_143 : decode cX4_rebuild 143 = .ok (.aload_n 0, 1) := dq_42 (dq_suf 15 dt08cX4_rebuild_8 rfl rfl)
theorem dX4_rebuild_144 : decode cX4_rebuild 144 = .ok (.getfield 41, 3) := dq_180 (dq_suf 0 dt08cX4_rebuild_9 rfl rfl) rfl
theorem dX4_rebuild_147 : decode cX4_rebuild 147 = .ok (.invokestatic 114, 3) := dq_184 (dq_suf 3 dt08cX4_rebuild_9 rfl rfl) rfl
theorem dX4_rebuild_150 : decode cX4_rebuild 150 = .ok (.putfield 41, 3) := dq_181 (dq_suf 6 dt08cX4_rebuild_9 rfl rfl) rfl
theorem dX4_rebuild_153 : decode cX4_rebuild 153 = .ok (.aload_n 0, 1) := dq_42 (dq_suf 9 dt08cX4_rebuild_9 rfl rfl)
theorem dX4_rebuild_154 : decode cX4_rebuild 154 = .ok (.iconst 0, 1) := dq_3 (dq_suf 10 dt08cX4_rebuild_9 rfl rfl)
theorem dX4_rebuild_155 : decode cX4_rebuild 155 = .ok (.putfield 45, 3) := dq_181 (dq_suf 11 dt08cX4_rebuild_9 rfl rfl) rfl
theorem dX4_rebuild_158 : decode cX4_rebuild 158 = .ok (.aload_n 0, 1) := dq_42 (dq_suf 14 dt08cX4_rebuild_9 rfl rfl)
theorem dX4_rebuild_159 : decode cX4_rebuild 159 = .ok (.iconst 1, 1) := dq_4 (dq_suf 15 dt08cX4_rebuild_9 rfl rfl)
theorem dX4_rebuild_160 : decode cX4_rebuild 160 = .ok (.putfield 48, 3) := dq_181 (dq_suf 0 dt08cX4_rebuild_10 rfl rfl) rfl
theorem dX4_rebuild_163 : decode cX4_rebuild 163 = .ok (.return_, 1) := dq_177 (dq_suf 3 dt08cX4_rebuild_10 rfl rfl)
