theorem dX4_splitBySigns_24_g : (decode cX4_splitBySigns 24 = .ok (.getfield 28, 3)) ∧ (decode cX4_splitBySigns 27 = .ok (.iload_n 2, 1)) ∧ (decode cX4_splitBySigns 28 = .ok (.iload_n 1, 1)) ∧ (decode cX4_splitBySigns 29 = .ok (.iastore, 1)) ∧ (decode cX4_splitBySigns 30 = .ok (.iinc 1 1, 3)) ∧ (decode cX4_splitBySigns 33 = .ok (.goto 15, 3)) ∧ (decode cX4_splitBySigns 36 = .ok (.aload_n 0, 1)) ∧ (decode cX4_splitBySigns 37 = .ok (.getfield 28, 3)) ∧ (decode cX4_splitBySigns 40 = .ok (.iload_n 2, 1)) ∧ (decode cX4_splitBySigns 41 = .ok (.aload_n 0, 1)) ∧ (decode cX4_splitBySigns 42 = .ok (.getfield 28, 3)) ∧ (decode cX4_splitBySigns 45 = .ok (.iload_n 3, 1)) ∧ (decode cX4_splitBySigns 46 = .ok (.iaload, 1)) ∧ (decode cX4_splitBySigns 47 = .ok (.iastore, 1)) ∧ (decode cX4_splitBySigns 48 = .ok (.iinc 2 1, 3)) ∧ (decode cX4_splitBySigns 51 = .ok (.goto (-47), 3)) := by decide +kernel
theorem dX4_splitBySigns_24 : decode cX4_splitBySigns 24 = .ok (.getfield 28, 3) := dX4_splitBySigns_24_g.1
theorem dX4_splitBySigns_27 : decode cX4_splitBySigns 27 = .ok (.iload_n 2, 1) := dX4_splitBySigns_24_g.2.1
theorem dX4_splitBySigns_28 : decode cX4_splitBySigns 28 = .ok (.iload_n 1, 1) := dX4_splitBySigns_24_g.2.2.1
theorem dX4_splitBySigns_29 : decode cX4_splitBySigns 29 = .ok (.iastore, 1) := dX4_splitBySigns_24_g.2.2.2.1
theorem dX4_splitBySigns_30 : decode cX4_splitBySigns 30 = .ok (.iinc 1 1, 3) := dX4_splitBySigns_24_g.2.2.2.2.1
theorem dX4_splitBySigns_33 : decode cX4_splitBySigns 33 = .ok (.goto 15, 3) := dX4_splitBySigns_24_g.2.2.2.2.2.1
theorem dX4_splitBySigns_36 : decode cX4_splitBySigns 36 = .ok (.aload_n 0, 1) := dX4_splitBySigns_24_g.2.2.2.2.2.2.1
theorem dX4_splitBySigns_37 : decode cX4_splitBySigns 37 = .ok (.getfield 28, 3) := dX4_splitBySigns_24_g.2.2.2.2.2.2.2.1
theorem dX4_splitBySigns_40 : decode cX4_splitBySigns 40 = .ok (.iload_n 2, 1) := dX4_splitBySigns_24_g.2.2.2.2.2.2.2.2.1
theorem dX4_splitBySigns_41 : decode cX4_splitBySigns 41 = .ok (.aload_n 0, 1) := dX4_splitBySigns_24_g.2.2.2.2.2.2.2.2.2.1
theorem dX4_splitBySigns_42 : decode cX4_splitBySigns 42 = .ok (.getfield 28, 3) := dX4_splitBySigns_24_g.2.2.2.2.2.2.2.2.2.2.1
theorem dX4_splitBySigns_45 : decode cX4_splitBySigns 45 = .ok (.iload_n 3, 1) := dX4_splitBySigns_24_g.2.2.2.2.2.2.2.2.2.2.2.1
theorem dX4_splitBySigns_46 : decode cX4_splitBySigns 46 = .ok (.iaload, 1) := dX4_splitBySigns_24_g.2.2.2.2.2.2.2.2.2.2.2.2.1
theorem dX4_splitBySigns_47 : decode cX4_splitBySigns 47 = .ok (.iastore, 1) := dX4_splitBySigns_24_g.2.2.2.2.2.2.2.2.2.2.2.2.2.1
theorem dX4_splitBySigns_48 : decode cX4_splitBySigns 48 = .ok (.iinc 2 1, 3) := dX4_splitBySigns_24_g.2.2.2.2.2.2.2.2.2.2.2.2.2.2.1
theorem dX4_splitBySigns_51 : decode cX4_splitBySigns 51 = .ok (.goto (-47), 3) := dX4_splitBySigns_24_g.2.2.2.2.2.2.2.2.2.2.2.2.2.2.2
theorem dX4_splitBySigns_54_g : (decode cX4_splitBySigns 54 = .ok (.iconst 0, 1)) ∧ (decode cX4_splitBySigns 55 = .ok (.istore_n 2, 1)) ∧ (decode cX4_splitBySigns 56 = .ok (.iload_n 2, 1)) ∧ (decode cX4_splitBySigns 57 = .ok (.aload_n 0, 1)) ∧ (decode cX4_splitBySigns 58 = .ok (.getfield 41, 3)) ∧ (decode cX4_splitBySigns 61 = .ok (.if_icmp .ge 21, 3)) ∧ (decode cX4_splitBySigns 64 = .ok (.aload_n 0, 1)) ∧ (decode cX4_splitBySigns 65 = .ok (.getfield 25, 3)) ∧ (decode cX4_splitBySigns 68 = .ok (.iload_n 2, 1)) ∧ (decode cX4_splitBySigns 69 = .ok (.aload_n 0, 1)) ∧ (decode cX4_splitBySigns 70 = .ok (.getfield 28, 3)) ∧ (decode cX4_splitBySigns 73 = .ok (.iload_n 2, 1)) ∧ (decode cX4_splitBySigns 74 = .ok (.iaload, 1)) ∧ (decode cX4_splitBySigns 75 = .ok (.iastore, 1)) ∧ (decode cX4_splitBySigns 76 = .ok (.iinc 2 1, 3)) ∧ (decode cX4_splitBySigns 79 = .ok (.goto (-23), 3)) := by decide +kernel
theorem dX4_splitBySigns_54 : decode cX4_splitBySigns 54 = .ok (.iconst 0, 1) := dX4_splitBySigns_54_g.1
theorem dX4_splitBySigns_55 : decode cX4_splitBySigns 55 = .ok (.istore_n 2, 1) := dX4_splitBySigns_54_g.2.1
theorem dX4_splitBySigns_56 : decode cX4_splitBySigns 56 = .ok (.iload_n 2, 1) := dX4_splitBySigns_54_g.2.2.1
theorem dX4_splitBySigns_57 : decode cX4_splitBySigns 57 = .ok (.aload_n 0, 1) := dX4_splitBySigns_54_g.2.2.2.1
theorem dX4_splitBySigns_58 : decode cX4_splitBySigns 58 = .ok (.getfield 41, 3) := dX4_splitBySigns_54_g.2.2.2.2.1
theorem dX4_splitBySigns_61 : decode cX4_splitBySigns 61 = .ok (.if_icmp .ge 21, 3) := dX4_splitBySigns_54_g.2.2.2.2.2.1
theorem dX4_splitBySigns_64 : decode cX4_splitBySigns 64 = .ok (.aload_n 0, 1) := dX4_splitBySigns_54_g.2.2.2.2.2.2.1
theorem dX4_splitBySigns_65 : decode cX4_splitBySigns 65 = .ok (.getfield 25, 3) := dX4_splitBySigns_54_g.2.2.2.2.2.2.2.1
theorem dX4_splitBySigns_68 : decode cX4_splitBySigns 68 = .ok (.iload_n 2, 1) := dX4_splitBySigns_54_g.2.2.2.2.2.2.2.2.1
theorem dX4_splitBySigns_69 : decode cX4_splitBySigns 69 = .ok (.aload_n 0, 1) := dX4_splitBySigns_54_g.2.2.2.2.2.2.2.2.2.1
theorem dX4_splitBySigns_70 : decode cX4_splitBySigns 70 = .ok (.getfield 28, 3) := dX4_splitBySigns_54_g.2.2.2.2.2.2.2.2.2.2.1
theorem dX4_splitBySigns_73 : decode cX4_splitBySigns 73 = .ok (.iload_n 2, 1) := dX4_splitBySigns_54_g.2.2.2.2.2.2.2.2.2.2.2.1
theorem dX4_splitBySigns_74 : decode cX4_splitBySigns 74 = .ok (.iaload, 1) := dX4_splitBySigns_54_g.2.2.2.2.2.2.2.2.2.2.2.2.1
theorem dX4_splitBySigns_75 : decode cX4_splitBySigns 75 = .ok (.iastore, 1) := dX4_splitBySigns_54_g.2.2.2.2.2.2.2.2.2.2.2.2.2.1
theorem dX4_splitBySigns_76 : decode cX4_splitBySigns 76 = .ok (.iinc 2 1, 3) := dX4_splitBySigns_54_g.2.2.2.2.2.2.2.2.2.2.2.2.2.2.1
theorem dX4_splitBySigns_79 : decode cX4_splitBySigns 79 = .ok (.goto (-23), 3) := dX4_splitBySigns_54_g.2.2.2.2.2.2.2.2.2.2.2.2.2.2.2
theorem dX4_splitBySigns_82_g : (decode cX4_splitBySigns 82 = .ok (.iload_n 1, 1)) ∧ (decode cX4_splitBySigns 83 = .ok (.ireturn, 1)) := by decide +kernel
theorem dX4_splitBySigns_82 : decode cX4_splitBySigns 82 = .ok (.iload_n 1, 1) := dX4_splitBySigns_82_g.1
theorem dX4_splitBySigns_83 : decode cX4_splitBySigns 83 = .ok (.ireturn, 1) := dX4_splitBySigns_82_g.2
theorem dX4_leastLike_0_g : (decode cX4_leastLike 0 = .ok (.iconst 0, 1)) ∧ (decode cX4_leastLike 1 = .ok (.istore_n 2, 1)) ∧ (decode cX4_leastLike 2 = .ok (.iload_n 2, 1)) ∧ (decode cX4_leastLike 3 = .ok (.iload_n 1, 1)) ∧ (decode cX4_leastLike 4 = .ok (.if_icmp .ge 42, 3)) ∧ (decode cX4_leastLike 7 = .ok (.aload_n 0, 1)) ∧ (decode cX4_leastLike 8 = .ok (.getfield 25, 3)) ∧ (decode cX4_leastLike 11 = .ok (.iload_n 2, 1)) ∧ (decode cX4_leastLike 12 = .ok (.iaload, 1)) ∧ (decode cX4_leastLike 13 = .ok (.aload_n 0, 1)) ∧ (decode cX4_leastLike 14 = .ok (.getfield 25, 3)) ∧ (decode cX4_leastLike 17 = .ok (.iload_n 1, 1)) ∧ (decode cX4_leastLike 18 = .ok (.iaload, 1)) ∧ (decode cX4_leastLike 19 = .ok (.if_icmp .ne 21, 3)) ∧ (decode cX4_leastLike 22 = .ok (.aload_n 0, 1)) ∧ (decode cX4_leastLike 23 = .ok (.getfield 31, 3)) := by decide +kernel
theorem dX4_leastLike_0 : decode cX4_leastLike 0 = .ok (.iconst 0, 1) := dX4_leastLike_0_g.1
theorem dX4_leastLike_1 : decode cX4_leastLike 1 = .ok (.istore_n 2, 1) := dX4_leastLike_0_g.2.1
theorem dX4_leastLike_2 : decode cX4_leastLike 2 = .ok (.iload_n 2, 1) := dX4_leastLike_0_g.2.2.1
theorem dX4_leastLike_3 : decode cX4_leastLike 3 = .ok (.iload_n 1, 1) := dX4_leastLike_0_g.2.2.2.1
theorem dX4_leastLike_4 : decode cX4_leastLike 4 = .ok (.if_icmp .ge 42, 3) := dX4_leastLike_0_g.2.2.2.2.1
theorem dX4_leastLike_7 : decode cX4_leastLike 7 = .ok (.aload_n 0, 1) := dX4_leastLike_0_g.2.2.2.2.2.1
theorem dX4_leastLike_8 : decode cX4_leastLike 8 = .ok (.getfield 25, 3) := dX4_leastLike_0_g.2.2.2.2.2.2.1
theorem dX4_leastLike_11 : decode cX4_leastLike 11 = .ok (.iload_n 2, 1) := dX4_leastLike_0_g.2.2.2.2.2.2.2.1
theorem dX4_leastLike_12 : decode cX4_leastLike 12 = .ok (.iaload, 1) := dX4_leastLike_0_g.2.2.2.2.2.2.2.2.1
theorem dX4_leastLike_13 : decode cX4_leastLike 13 = .ok (.aload_n 0, 1) := dX4_leastLike_0_g.2.2.2.2.2.2.2.2.2.1
theorem dX4_leastLike_14 : decode cX4_leastLike 14 = .ok (.getfield 25, 3) := dX4_leastLike_0_g.2.2.2.2.2.2.2.2.2.2.1
theorem dX4_leastLike_17 : decode cX4_leastLike 17 = .ok (.iload_n 1, 1) := dX4_leastLike_0_g.2.2.2.2.2.2.2.2.2.2.2.1
theorem dX4_leastLike_18 : decode cX4_leastLike 18 = .ok (.iaload, 1) := dX4_leastLike_0_g.2.2.2.2.2.2.2.2.2.2.2.2.1
theorem dX4_leastLike_19 : decode cX4_leastLike 19 = .ok (.if_icmp .ne 21, 3) := dX4_leastLike_0_g.2.2.2.2.2.2.2.2.2.2.2.2.2.1
theorem dX4_leastLike_22 : decode cX4_leastLike 22 = .ok (.aload_n 0, 1) := dX4_leastLike_0_g.2.2.2.2.2.2.2.2.2.2.2.2.2.2.1
theorem dX4_leastLike_23 : decode cX4_leastLike 23 = .ok (.getfield 31, 3) := dX4_leastLike_0_g.2.2.2.2.2.2.2.2.2.2.2.2.2.2.2
theorem dX4_leastLike_26_g : (decode cX4_leastLike 26 = .ok (.iload_n 2, 1)) ∧ (decode cX4_leastLike 27 = .ok (.laload, 1)) ∧ (decode cX4_leastLike 28 = .ok (.aload_n 0, 1)) ∧ (decode cX4_leastLike 29 = .ok (.getfield 31, 3)) ∧ (decode cX4_leastLike 32 = .ok (.iload_n 1, 1)) ∧ (decode cX4_leastLike 33 = .ok (.laload, 1)) ∧ (decode cX4_leastLike 34 = .ok (.lcmp, 1)) ∧ (decode cX4_leastLike 35 = .ok (.ifCond .ne 5, 3)) ∧ (decode cX4_leastLike 38 = .ok (.iload_n 2, 1)) ∧ (decode cX4_leastLike 39 = .ok (.ireturn, 1)) ∧ (decode cX4_leastLike 40 = .ok (.iinc 2 1, 3)) ∧ (decode cX4_leastLike 43 = .ok (.goto (-41), 3)) ∧ (decode cX4_leastLike 46 = .ok (.iload_n 1, 1)) ∧ (decode cX4_leastLike 47 = .ok (.ireturn, 1)) := by decide +kernel
theorem dX4_leastLike_26 : decode cX4_leastLike 26 = .ok (.iload_n 2, 1) := dX4_leastLike_26_g.1
theorem dX4_leastLike_27 : decode cX4_leastLike 27 = .ok (.laload, 1) := dX4_leastLike_26_g.2.1
theorem dX4_leastLike_28 : decode cX4_leastLike 28 = .ok (.aload_n 0, 1) := dX4_leastLike_26_g.2.2.1
theorem dX4_leastLike_29 : decode cX4_leastLike 29 = .ok (.getfield 31, 3) := dX4_leastLike_26_g.2.2.2.1
theorem dX4_leastLike_32 : decode cX4_leastLike 32 = .ok (.iload_n 1, 1) := dX4_leastLike_26_g.2.2.2.2.1
theorem dX4_leastLike_33 : decode cX4_leastLike 33 = .ok (.laload, 1) := dX4_leastLike_26_g.2.2.2.2.2.1
theorem dX4_leastLike_34 : decode cX4_leastLike 34 = .ok (.lcmp, 1) := dX4_leastLike_26_g.2.2.2.2.2.2.1
theorem dX4_leastLike_35 : decode cX4_leastLike 35 = .ok (.ifCond .ne 5, 3) := dX4_leastLike_26_g.2.2.2.2.2.2.2.1
theorem dX4_leastLike_38 : decode cX4_leastLike 38 = .ok (.iload_n 2, 1) := dX4_leastLike_26_g.2.2.2.2.2.2.2.2.1
theorem dX4_leastLike_39 : decode cX4_leastLike 39 = .ok (.ireturn, 1) := dX4_leastLike_26_g.2.2.2.2.2.2.2.2.2.1
theorem dX4_leastLike_40 : decode cX4_leastLike 40 = .ok (.iinc 2 1, 3) := dX4_leastLike_26_g.2.2.2.2.2.2.2.2.2.2.1
theorem dX4_leastLike_43 : decode cX4_leastLike 43 = .ok (.goto (-41), 3) := dX4_leastLike_26_g.2.2.2.2.2.2.2.2.2.2.2.1
theorem dX4_leastLike_46 : decode cX4_leastLike 46 = .ok (.iload_n 1, 1) := dX4_leastLike_26_g.2.2.2.2.2.2.2.2.2.2.2.2.1
theorem dX4_leastLike_47 : decode cX4_leastLike 47 = .ok (.ireturn, 1) := dX4_leastLike_26_g.2.2.2.2.2.2.2.2.2.2.2.2.2
theorem dX4_moved_0_g : (decode cX4_moved 0 = .ok (.lconst 0, 1)) ∧ (decode cX4_moved 1 = .ok (.lstore_n 3, 1)) ∧ (decode cX4_moved 2 = .ok (.iconst 0, 1)) ∧ (decode cX4_moved 3 = .ok (.istore 5, 2)) ∧ (decode cX4_moved 5 = .ok (.iload 5, 2)) ∧ (decode cX4_moved 7 = .ok (.aload_n 0, 1)) ∧ (decode cX4_moved 8 = .ok (.getfield 41, 3)) ∧ (decode cX4_moved 11 = .ok (.if_icmp .ge 43, 3)) ∧ (decode cX4_moved 14 = .ok (.lload_n 1, 1)) ∧ (decode cX4_moved 15 = .ok (.iload 5, 2)) ∧ (decode cX4_moved 17 = .ok (.lushr, 1)) ∧ (decode cX4_moved 18 = .ok (.lconst 1, 1)) ∧ (decode cX4_moved 19 = .ok (.land, 1)) ∧ (decode cX4_moved 20 = .ok (.lconst 0, 1)) ∧ (decode cX4_moved 21 = .ok (.lcmp, 1)) ∧ (decode cX4_moved 22 = .ok (.ifCond .eq 26, 3)) := by decide +kernel
theorem dX4_moved_0 : decode cX4_moved 0 = .ok (.lconst 0, 1) := dX4_moved_0_g.1
theorem dX4_moved_1 : decode cX4_moved 1 = .ok (.lstore_n 3, 1) := dX4_moved_0_g.2.1
theorem dX4_moved_2 : decode cX4_moved 2 = .ok (.iconst 0, 1) := dX4_moved_0_g.2.2.1
theorem dX4_moved_3 : decode cX4_moved 3 = .ok (.istore 5, 2) := dX4_moved_0_g.2.2.2.1
theorem dX4_moved_5 : decode cX4_moved 5 = .ok (.iload 5, 2) := dX4_moved_0_g.2.2.2.2.1
theorem dX4_moved_7 : decode cX4_moved 7 = .ok (.aload_n 0, 1) := dX4_moved_0_g.2.2.2.2.2.1
theorem dX4_moved_8 : decode cX4_moved 8 = .ok (.getfield 41, 3) := dX4_moved_0_g.2.2.2.2.2.2.1
theorem dX4_moved_11 : decode cX4_moved 11 = .ok (.if_icmp .ge 43, 3) := dX4_moved_0_g.2.2.2.2.2.2.2.1
theorem dX4_moved_14 : decode cX4_moved 14 = .ok (.lload_n 1, 1) := dX4_moved_0_g.2.2.2.2.2.2.2.2.1
theorem dX4_moved_15 : decode cX4_moved 15 = .ok (.iload 5, 2) := dX4_moved_0_g.2.2.2.2.2.2.2.2.2.1
theorem dX4_moved_17 : decode cX4_moved 17 = .ok (.lushr, 1) := dX4_moved_0_g.2.2.2.2.2.2.2.2.2.2.1
theorem dX4_moved_18 : decode cX4_moved 18 = .ok (.lconst 1, 1) := dX4_moved_0_g.2.2.2.2.2.2.2.2.2.2.2.1
theorem dX4_moved_19 : decode cX4_moved 19 = .ok (.land, 1) := dX4_moved_0_g.2.2.2.2.2.2.2.2.2.2.2.2.1
theorem dX4_moved_20 : decode cX4_moved 20 = .ok (.lconst 0, 1) := dX4_moved_0_g.2.2.2.2.2.2.2.2.2.2.2.2.2.1
theorem dX4_moved_21 : decode cX4_moved 21 = .ok (.lcmp, 1) := dX4_moved_0_g.2.2.2.2.2.2.2.2.2.2.2.2.2.2.1
theorem dX4_moved_22 : decode cX4_moved 22 = .ok (.ifCond .eq 26, 3) := dX4_moved_0_g.2.2.2.2.2.2.2.2.2.2.2.2.2.2.2
theorem dX4_moved_25_g : (decode cX4_moved 25 = .ok (.aload_n 0, 1)) ∧ (decode cX4_moved 26 = .ok (.getfield 25, 3)) ∧ (decode cX4_moved 29 = .ok (.iload 5, 2)) ∧ (decode cX4_moved 31 = .ok (.iaload, 1)) ∧ (decode cX4_moved 32 = .ok (.iconst (-1), 1)) ∧ (decode cX4_moved 33 = .ok (.if_icmp .eq 15, 3)) ∧ (decode cX4_moved 36 = .ok (.lload_n 3, 1)) ∧ (decode cX4_moved 37 = .ok (.lconst 1, 1)) ∧ (decode cX4_moved 38 = .ok (.aload_n 0, 1)) ∧ (decode cX4_moved 39 = .ok (.getfield 25, 3)) ∧ (decode cX4_moved 42 = .ok (.iload 5, 2)) ∧ (decode cX4_moved 44 = .ok (.iaload, 1)) ∧ (decode cX4_moved 45 = .ok (.lshl, 1)) ∧ (decode cX4_moved 46 = .ok (.lor, 1)) ∧ (decode cX4_moved 47 = .ok (.lstore_n 3, 1)) ∧ (decode cX4_moved 48 = .ok (.iinc 5 1, 3)) := by decide +kernel
theorem dX4_moved_25 : decode cX4_moved 25 = .ok (.aload_n 0, 1) := dX4_moved_25_g.1
theorem dX4_moved_26 : decode cX4_moved 26 = .ok (.getfield 25, 3) := dX4_moved_25_g.2.1
theorem dX4_moved_29 : decode cX4_moved 29 = .ok (.iload 5, 2) := dX4_moved_25_g.2.2.1
theorem dX4_moved_31 : decode cX4_moved 31 = .ok (.iaload, 1) := dX4_moved_25_g.2.2.2.1
theorem dX4_moved_32 : decode cX4_moved 32 = .ok (.iconst (-1), 1) := dX4_moved_25_g.2.2.2.2.1
theorem dX4_moved_33 : decode cX4_moved 33 = .ok (.if_icmp .eq 15, 3) := dX4_moved_25_g.2.2.2.2.2.1
theorem dX4_moved_36 : decode cX4_moved 36 = .ok (.lload_n 3, 1) := dX4_moved_25_g.2.2.2.2.2.2.1
theorem dX4_moved_37 : decode cX4_moved 37 = .ok (.lconst 1, 1) := dX4_moved_25_g.2.2.2.2.2.2.2.1
theorem dX4_moved_38 : decode cX4_moved 38 = .ok (.aload_n 0, 1) := dX4_moved_25_g.2.2.2.2.2.2.2.2.1
theorem dX4_moved_39 : decode cX4_moved 39 = .ok (.getfield 25, 3) := dX4_moved_25_g.2.2.2.2.2.2.2.2.2.1
theorem dX4_moved_42 : decode cX4_moved 42 = .ok (.iload 5, 2) := dX4_moved_25_g.2.2.2.2.2.2.2.2.2.2.1
theorem dX4_moved_44 : decode cX4_moved 44 = .ok (.iaload, 1) := dX4_moved_25_g.2.2.2.2.2.2.2.2.2.2.2.1
theorem dX4_moved_45 : decode cX4_moved 45 = .ok (.lshl, 1) := dX4_moved_25_g.2.2.2.2.2.2.2.2.2.2.2.2.1
theorem dX4_moved_46 : decode cX4_moved 46 = .ok (.lor, 1) := dX4_moved_25_g.2.2.2.2.2.2.2.2.2.2.2.2.2.1
theorem dX4_moved_47 : decode cX4_moved 47 = .ok (.lstore_n 3, 1) := dX4_moved_25_g.2.2.2.2.2.2.2.2.2.2.2.2.2.2.1
theorem dX4_moved_48 : decode cX4_moved 48 = .ok (.iinc 5 1, 3) := dX4_moved_25_g.2.2.2.2.2.2.2.2.2.2.2.2.2.2.2
theorem dX4_moved_51_g : (decode cX4_moved 51 = .ok (.goto (-46), 3)) ∧ (decode cX4_moved 54 = .ok (.lload_n 3, 1)) ∧ (decode cX4_moved 55 = .ok (.lreturn, 1)) := by decide +kernel
theorem dX4_moved_51 : decode cX4_moved 51 = .ok (.goto (-46), 3) := dX4_moved_51_g.1
theorem dX4_moved_54 : decode cX4_moved 54 = .ok (.lload_n 3, 1) := dX4_moved_51_g.2.1
theorem dX4_moved_55 : decode cX4_moved 55 = .ok (.lreturn, 1) := dX4_moved_51_g.2.2
theorem dX4_rebuild_0_g : (decode cX4_rebuild 0 = .ok (.aload_n 0, 1)) ∧ (decode cX4_rebuild 1 = .ok (.getfield 41, 3)) ∧ (decode cX4_rebuild 4 = .ok (.iconst 1, 1)) ∧ (decode cX4_rebuild 5 = .ok (.isub, 1)) ∧ (decode cX4_rebuild 6 = .ok (.istore_n 2, 1)) ∧ (decode cX4_rebuild 7 = .ok (.iload_n 2, 1)) ∧ (decode cX4_rebuild 8 = .ok (.ifCond .lt 69, 3)) ∧ (decode cX4_rebuild 11 = .ok (.aload_n 0, 1)) ∧ (decode cX4_rebuild 12 = .ok (.getfield 31, 3)) ∧ (decode cX4_rebuild 15 = .ok (.iload_n 2, 1)) ∧ (decode cX4_rebuild 16 = .ok (.aload_n 0, 1)) ∧ (decode cX4_rebuild 17 = .ok (.aload_n 0, 1)) ∧ (decode cX4_rebuild 18 = .ok (.getfield 15, 3)) ∧ (decode cX4_rebuild 21 = .ok (.iload_n 2, 1)) ∧ (decode cX4_rebuild 22 = .ok (.laload, 1)) ∧ (decode cX4_rebuild 23 = .ok (.invokevirtual 83, 3)) := by decide +kernel
theorem dX4_rebuild_0 : decode cX4_rebuild 0 = .ok (.aload_n 0, 1) := dX4_rebuild_0_g.1
theorem dX4_rebuild_1 : decode cX4_rebuild 1 = .ok (.getfield 41, 3) := dX4_rebuild_0_g.2.1
theorem dX4_rebuild_4 : decode cX4_rebuild 4 = .ok (.iconst 1, 1) := dX4_rebuild_0_g.2.2.1
theorem dX4_rebuild_5 : decode cX4_rebuild 5 = .ok (.isub, 1) := dX4_rebuild_0_g.2.2.2.1
theorem dX4_rebuild_6 : decode cX4_rebuild 6 = .ok (.istore_n 2, 1) := dX4_rebuild_0_g.2.2.2.2.1
theorem dX4_rebuild_7 : decode cX4_rebuild 7 = .ok (.iload_n 2, 1) := dX4_rebuild_0_g.2.2.2.2.2.1
theorem dX4_rebuild_8 : decode cX4_rebuild 8 = .ok (.ifCond .lt 69, 3) := dX4_rebuild_0_g.2.2.2.2.2.2.1
theorem dX4_rebuild_11 : decode cX4_rebuild 11 = .ok (.aload_n 0, 1) := dX4_rebuild_0_g.2.2.2.2.2.2.2.1
theorem dX4_rebuild_12 : decode cX4_rebuild 12 = .ok (.getfield 31, 3) := dX4_rebuild_0_g.2.2.2.2.2.2.2.2.1
theorem dX4_rebuild_15 : decode cX4_rebuild 15 = .ok (.iload_n 2, 1) := dX4_rebuild_0_g.2.2.2.2.2.2.2.2.2.1
theorem dX4_rebuild_16 : decode cX4_rebuild 16 = .ok (.aload_n 0, 1) := dX4_rebuild_0_g.2.2.2.2.2.2.2.2.2.2.1
theorem dX4_rebuild_17 : decode cX4_rebuild 17 = .ok (.aload_n 0, 1) := dX4_rebuild_0_g.2.2.2.2.2.2.2.2.2.2.2.1
theorem dX4_rebuild_18 : decode cX4_rebuild 18 = .ok (.getfield 15, 3) := dX4_rebuild_0_g.2.2.2.2.2.2.2.2.2.2.2.2.1
theorem dX4_rebuild_21 : decode cX4_rebuild 21 = .ok (.iload_n 2, 1) := dX4_rebuild_0_g.2.2.2.2.2.2.2.2.2.2.2.2.2.1
theorem dX4_rebuild_22 : decode cX4_rebuild 22 = .ok (.laload, 1) := dX4_rebuild_0_g.2.2.2.2.2.2.2.2.2.2.2.2.2.2.1
theorem dX4_rebuild_23 : decode cX4_rebuild 23 = .ok (.invokevirtual 83, 3) := dX4_rebuild_0_g.2.2.2.2.2.2.2.2.2.2.2.2.2.2.2
theorem dX4_rebuild_26_g : (decode cX4_rebuild 26 = .ok (.lastore, 1)) ∧ (decode cX4_rebuild 27 = .ok (.aload_n 0, 1)) ∧ (decode cX4_rebuild 28 = .ok (.getfield 19, 3)) ∧ (decode cX4_rebuild 31 = .ok (.iload_n 2, 1)) ∧ (decode cX4_rebuild 32 = .ok (.aload_n 0, 1)) ∧ (decode cX4_rebuild 33 = .ok (.getfield 9, 3)) ∧ (decode cX4_rebuild 36 = .ok (.iload_n 2, 1)) ∧ (decode cX4_rebuild 37 = .ok (.iaload, 1)) ∧ (decode cX4_rebuild 38 = .ok (.iastore, 1)) ∧ (decode cX4_rebuild 39 = .ok (.aload_n 0, 1)) ∧ (decode cX4_rebuild 40 = .ok (.getfield 25, 3)) ∧ (decode cX4_rebuild 43 = .ok (.iload_n 2, 1)) ∧ (decode cX4_rebuild 44 = .ok (.iaload, 1)) ∧ (decode cX4_rebuild 45 = .ok (.ifCond .lt 26, 3)) ∧ (decode cX4_rebuild 48 = .ok (.aload_n 0, 1)) ∧ (decode cX4_rebuild 49 = .ok (.getfield 25, 3)) := by decide +kernel
theorem dX4_rebuild_26 : decode cX4_rebuild 26 = .ok (.lastore, 1) := dX4_rebuild_26_g.1
theorem dX4_rebuild_27 : decode cX4_rebuild 27 = .ok (.aload_n 0, 1) := dX4_rebuild_26_g.2.1
theorem dX4_rebuild_28 : decode cX4_rebuild 28 = .ok (.getfield 19, 3) := dX4_rebuild_26_g.2.2.1
theorem dX4_rebuild_31 : decode cX4_rebuild 31 = .ok (.iload_n 2, 1) := dX4_rebuild_26_g.2.2.2.1
theorem dX4_rebuild_32 : decode cX4_rebuild 32 = .ok (.aload_n 0, 1) := dX4_rebuild_26_g.2.2.2.2.1
theorem dX4_rebuild_33 : decode cX4_rebuild 33 = .ok (.getfield 9, 3) := dX4_rebuild_26_g.2.2.2.2.2.1
theorem dX4_rebuild_36 : decode cX4_rebuild 36 = .ok (.iload_n 2, 1) := dX4_rebuild_26_g.2.2.2.2.2.2.1
theorem dX4_rebuild_37 : decode cX4_rebuild 37 = .ok (.iaload, 1) := dX4_rebuild_26_g.2.2.2.2.2.2.2.1
theorem dX4_rebuild_38 : decode cX4_rebuild 38 = .ok (.iastore, 1) := dX4_rebuild_26_g.2.2.2.2.2.2.2.2.1
theorem dX4_rebuild_39 : decode cX4_rebuild 39 = .ok (.aload_n 0, 1) := dX4_rebuild_26_g.2.2.2.2.2.2.2.2.2.1
theorem dX4_rebuild_40 : decode cX4_rebuild 40 = .ok (.getfield 25, 3) := dX4_rebuild_26_g.2.2.2.2.2.2.2.2.2.2.1
theorem dX4_rebuild_43 : decode cX4_rebuild 43 = .ok (.iload_n 2, 1) := dX4_rebuild_26_g.2.2.2.2.2.2.2.2.2.2.2.1
theorem dX4_rebuild_44 : decode cX4_rebuild 44 = .ok (.iaload, 1) := dX4_rebuild_26_g.2.2.2.2.2.2.2.2.2.2.2.2.1
theorem dX4_rebuild_45 : decode cX4_rebuild 45 = .ok (.ifCond .lt 26, 3) := dX4_rebuild_26_g.2.2.2.2.2.2.2.2.2.2.2.2.2.1
theorem dX4_rebuild_48 : decode cX4_rebuild 48 = .ok (.aload_n 0, 1) := dX4_rebuild_26_g.2.2.2.2.2.2.2.2.2.2.2.2.2.2.1
theorem dX4_rebuild_49 : decode cX4_rebuild 49 = .ok (.getfield 25, 3) := dX4_rebuild_26_g.2.2.2.2.2.2.2.2.2.2.2.2.2.2.2
theorem dX4_rebuild_52_g : (decode cX4_rebuild 52 = .ok (.iload_n 2, 1)) ∧ (decode cX4_rebuild 53 = .ok (.iaload, 1)) ∧ (decode cX4_rebuild 54 = .ok (.bipush 60, 2)) ∧ (decode cX4_rebuild 56 = .ok (.if_icmp .ge 15, 3)) ∧ (decode cX4_rebuild 59 = .ok (.aload_n 0, 1)) ∧ (decode cX4_rebuild 60 = .ok (.getfield 28, 3)) ∧ (decode cX4_rebuild 63 = .ok (.aload_n 0, 1)) ∧ (decode cX4_rebuild 64 = .ok (.getfield 25, 3)) ∧ (decode cX4_rebuild 67 = .ok (.iload_n 2, 1)) ∧ (decode cX4_rebuild 68 = .ok (.iaload, 1)) ∧ (decode cX4_rebuild 69 = .ok (.iload_n 2, 1)) ∧ (decode cX4_rebuild 70 = .ok (.iastore, 1)) ∧ (decode cX4_rebuild 71 = .ok (.iinc 2 (-1), 3)) ∧ (decode cX4_rebuild 74 = .ok (.goto (-67), 3)) ∧ (decode cX4_rebuild 77 = .ok (.iconst 0, 1)) ∧ (decode cX4_rebuild 78 = .ok (.istore_n 2, 1)) := by decide +kernel
theorem dX4_rebuild_52 : decode cX4_rebuild 52 = .ok (.iload_n 2, 1) := dX4_rebuild_52_g.1
theorem dX4_rebuild_53 : decode cX4_rebuild 53 = .ok (.iaload, 1) := dX4_rebuild_52_g.2.1
theorem dX4_rebuild_54 : decode cX4_rebuild 54 = .ok (.bipush 60, 2) := dX4_rebuild_52_g.2.2.1
theorem dX4_rebuild_56 : decode cX4_rebuild 56 = .ok (.if_icmp .ge 15, 3) := dX4_rebuild_52_g.2.2.2.1
theorem dX4_rebuild_59 : decode cX4_rebuild 59 = .ok (.aload_n 0, 1) := dX4_rebuild_52_g.2.2.2.2.1
theorem dX4_rebuild_60 : decode cX4_rebuild 60 = .ok (.getfield 28, 3) := dX4_rebuild_52_g.2.2.2.2.2.1
theorem dX4_rebuild_63 : decode cX4_rebuild 63 = .ok (.aload_n 0, 1) := dX4_rebuild_52_g.2.2.2.2.2.2.1
theorem dX4_rebuild_64 : decode cX4_rebuild 64 = .ok (.getfield 25, 3) := dX4_rebuild_52_g.2.2.2.2.2.2.2.1
theorem dX4_rebuild_67 : decode cX4_rebuild 67 = .ok (.iload_n 2, 1) := dX4_rebuild_52_g.2.2.2.2.2.2.2.2.1
theorem dX4_rebuild_68 : decode cX4_rebuild 68 = .ok (.iaload, 1) := dX4_rebuild_52_g.2.2.2.2.2.2.2.2.2.1
theorem dX4_rebuild_69 : decode cX4_rebuild 69 = .ok (.iload_n 2, 1) := dX4_rebuild_52_g.2.2.2.2.2.2.2.2.2.2.1
theorem dX4_rebuild_70 : decode cX4_rebuild 70 = .ok (.iastore, 1) := dX4_rebuild_52_g.2.2.2.2.2.2.2.2.2.2.2.1
theorem dX4_rebuild_71 : decode cX4_rebuild 71 = .ok (.iinc 2 (-1), 3) := dX4_rebuild_52_g.2.2.2.2.2.2.2.2.2.2.2.2.1
theorem dX4_rebuild_74 : decode cX4_rebuild 74 = .ok (.goto (-67), 3) := dX4_rebuild_52_g.2.2.2.2.2.2.2.2.2.2.2.2.2.1
theorem dX4_rebuild_77 : decode cX4_rebuild 77 = .ok (.iconst 0, 1) := dX4_rebuild_52_g.2.2.2.2.2.2.2.2.2.2.2.2.2.2.1
theorem dX4_rebuild_78 : decode cX4_rebuild 78 = .ok (.istore_n 2, 1) := dX4_rebuild_52_g.2.2.2.2.2.2.2.2.2.2.2.2.2.2.2
theorem dX4_rebuild_79_g : (decode cX4_rebuild 79 = .ok (.iload_n 2, 1)) ∧ (decode cX4_rebuild 80 = .ok (.iload_n 1, 1)) ∧ (decode cX4_rebuild 81 = .ok (.if_icmp .ge 60, 3)) ∧ (decode cX4_rebuild 84 = .ok (.iload_n 2, 1)) ∧ (decode cX4_rebuild 85 = .ok (.aload_n 0, 1)) ∧ (decode cX4_rebuild 86 = .ok (.getfield 41, 3)) ∧ (decode cX4_rebuild 89 = .ok (.if_icmp .ge 52, 3)) ∧ (decode cX4_rebuild 92 = .ok (.aload_n 0, 1)) ∧ (decode cX4_rebuild 93 = .ok (.getfield 28, 3)) ∧ (decode cX4_rebuild 96 = .ok (.iload_n 2, 1)) ∧ (decode cX4_rebuild 97 = .ok (.iaload, 1)) ∧ (decode cX4_rebuild 98 = .ok (.istore_n 3, 1)) ∧ (decode cX4_rebuild 99 = .ok (.iload_n 3, 1)) ∧ (decode cX4_rebuild 100 = .ok (.ifCond .lt 35, 3)) ∧ (decode cX4_rebuild 103 = .ok (.iload_n 3, 1)) ∧ (decode cX4_rebuild 104 = .ok (.aload_n 0, 1)) := by decide +kernel
theorem dX4_rebuild_79 : decode cX4_rebuild 79 = .ok (.iload_n 2, 1) := dX4_rebuild_79_g.1
theorem dX4_rebuild_80 : decode cX4_rebuild 80 = .ok (.iload_n 1, 1) := dX4_rebuild_79_g.2.1
theorem dX4_rebuild_81 : decode cX4_rebuild 81 = .ok (.if_icmp .ge 60, 3) := dX4_rebuild_79_g.2.2.1
theorem dX4_rebuild_84 : decode cX4_rebuild 84 = .ok (.iload_n 2, 1) := dX4_rebuild_79_g.2.2.2.1
theorem dX4_rebuild_85 : decode cX4_rebuild 85 = .ok (.aload_n 0, 1) := dX4_rebuild_79_g.2.2.2.2.1
theorem dX4_rebuild_86 : decode cX4_rebuild 86 = .ok (.getfield 41, 3) := dX4_rebuild_79_g.2.2.2.2.2.1
theorem dX4_rebuild_89 : decode cX4_rebuild 89 = .ok (.if_icmp .ge 52, 3) := dX4_rebuild_79_g.2.2.2.2.2.2.1
theorem dX4_rebuild_92 : decode cX4_rebuild 92 = .ok (.aload_n 0, 1) := dX4_rebuild_79_g.2.2.2.2.2.2.2.1
theorem dX4_rebuild_93 : decode cX4_rebuild 93 = .ok (.getfield 28, 3) := dX4_rebuild_79_g.2.2.2.2.2.2.2.2.1
theorem dX4_rebuild_96 : decode cX4_rebuild 96 = .ok (.iload_n 2, 1) := dX4_rebuild_79_g.2.2.2.2.2.2.2.2.2.1
theorem dX4_rebuild_97 : decode cX4_rebuild 97 = .ok (.iaload, 1) := dX4_rebuild_79_g.2.2.2.2.2.2.2.2.2.2.1
theorem dX4_rebuild_98 : decode cX4_rebuild 98 = .ok (.istore_n 3, 1) := dX4_rebuild_79_g.2.2.2.2.2.2.2.2.2.2.2.1
theorem dX4_rebuild_99 : decode cX4_rebuild 99 = .ok (.iload_n 3, 1) := dX4_rebuild_79_g.2.2.2.2.2.2.2.2.2.2.2.2.1
theorem dX4_rebuild_100 : decode cX4_rebuild 100 = .ok (.ifCond .lt 35, 3) := dX4_rebuild_79_g.2.2.2.2.2.2.2.2.2.2.2.2.2.1
theorem dX4_rebuild_103 : decode cX4_rebuild 103 = .ok (.iload_n 3, 1) := dX4_rebuild_79_g.2.2.2.2.2.2.2.2.2.2.2.2.2.2.1
theorem dX4_rebuild_104 : decode cX4_rebuild 104 = .ok (.aload_n 0, 1) := dX4_rebuild_79_g.2.2.2.2.2.2.2.2.2.2.2.2.2.2.2
theorem dX4_rebuild_105_g : (decode cX4_rebuild 105 = .ok (.getfield 41, 3)) ∧ (decode cX4_rebuild 108 = .ok (.if_icmp .ge 27, 3)) ∧ (decode cX4_rebuild 111 = .ok (.aload_n 0, 1)) ∧ (decode cX4_rebuild 112 = .ok (.getfield 9, 3)) ∧ (decode cX4_rebuild 115 = .ok (.iload_n 2, 1)) ∧ (decode cX4_rebuild 116 = .ok (.aload_n 0, 1)) ∧ (decode cX4_rebuild 117 = .ok (.getfield 19, 3)) ∧ (decode cX4_rebuild 120 = .ok (.iload_n 3, 1)) ∧ (decode cX4_rebuild 121 = .ok (.iaload, 1)) ∧ (decode cX4_rebuild 122 = .ok (.iastore, 1)) ∧ (decode cX4_rebuild 123 = .ok (.aload_n 0, 1)) ∧ (decode cX4_rebuild 124 = .ok (.getfield 15, 3)) ∧ (decode cX4_rebuild 127 = .ok (.iload_n 2, 1)) ∧ (decode cX4_rebuild 128 = .ok (.aload_n 0, 1)) ∧ (decode cX4_rebuild 129 = .ok (.getfield 31, 3)) ∧ (decode cX4_rebuild 132 = .ok (.iload_n 3, 1)) := by decide +kernel
theorem dX4_rebuild_105 : decode cX4_rebuild 105 = .ok (.getfield 41, 3) := dX4_rebuild_105_g.1
theorem dX4_rebuild_108 : decode cX4_rebuild 108 = .ok (.if_icmp .ge 27, 3) := dX4_rebuild_105_g.2.1
theorem dX4_rebuild_111 : decode cX4_rebuild 111 = .ok (.aload_n 0, 1) := dX4_rebuild_105_g.2.2.1
theorem dX4_rebuild_112 : decode cX4_rebuild 112 = .ok (.getfield 9, 3) := dX4_rebuild_105_g.2.2.2.1
theorem dX4_rebuild_115 : decode cX4_rebuild 115 = .ok (.iload_n 2, 1) := dX4_rebuild_105_g.2.2.2.2.1
theorem dX4_rebuild_116 : decode cX4_rebuild 116 = .ok (.aload_n 0, 1) := dX4_rebuild_105_g.2.2.2.2.2.1
theorem dX4_rebuild_117 : decode cX4_rebuild 117 = .ok (.getfield 19, 3) := dX4_rebuild_105_g.2.2.2.2.2.2.1
theorem dX4_rebuild_120 : decode cX4_rebuild 120 = .ok (.iload_n 3, 1) := dX4_rebuild_105_g.2.2.2.2.2.2.2.1
theorem dX4_rebuild_121 : decode cX4_rebuild 121 = .ok (.iaload, 1) := dX4_rebuild_105_g.2.2.2.2.2.2.2.2.1
theorem dX4_rebuild_122 : decode cX4_rebuild 122 = .ok (.iastore, 1) := dX4_rebuild_105_g.2.2.2.2.2.2.2.2.2.1
theorem dX4_rebuild_123 : decode cX4_rebuild 123 = .ok (.aload_n 0, 1) := dX4_rebuild_105_g.2.2.2.2.2.2.2.2.2.2.1
theorem dX4_rebuild_124 : decode cX4_rebuild 124 = .ok (.getfield 15, 3) := dX4_rebuild_105_g.2.2.2.2.2.2.2.2.2.2.2.1
theorem dX4_rebuild_127 : decode cX4_rebuild 127 = .ok (.iload_n 2, 1) := dX4_rebuild_105_g.2.2.2.2.2.2.2.2.2.2.2.2.1
theorem dX4_rebuild_128 : decode cX4_rebuild 128 = .ok (.aload_n 0, 1) := dX4_rebuild_105_g.2.2.2.2.2.2.2.2.2.2.2.2.2.1
theorem dX4_rebuild_129 : decode cX4_rebuild 129 = .ok (.getfield 31, 3) := dX4_rebuild_105_g.2.2.2.2.2.2.2.2.2.2.2.2.2.2.1
theorem dX4_rebuild_132 : decode cX4_rebuild 132 = .ok (.iload_n 3, 1) := dX4_rebuild_105_g.2.2.2.2.2.2.2.2.2.2.2.2.2.2.2
theorem dX4_rebuild_133_g : (decode cX4_rebuild 133 = .ok (.laload, 1)) ∧ (decode cX4_rebuild 134 = .ok (.lastore, 1)) ∧ (decode cX4_rebuild 135 = .ok (.iinc 2 1, 3)) ∧ (decode cX4_rebuild 138 = .ok (.goto (-59), 3)) ∧ (decode cX4_rebuild 141 = .ok (.aload_n 0, 1)) ∧ (decode cX4_rebuild 142 = .ok (.iload_n 1, 1)) ∧ (decode cX4_rebuild 143 = .ok (.aload_n 0, 1)) ∧ (decode cX4_rebuild 144 = .ok (.getfield 41, 3)) ∧ (decode cX4_rebuild 147 = .ok (.invokestatic 114, 3)) ∧ (decode cX4_rebuild 150 = .ok (.putfield 41, 3)) ∧ (decode cX4_rebuild 153 = .ok (.aload_n 0, 1)) ∧ (decode cX4_rebuild 154 = .ok (.iconst 0, 1)) ∧ (decode cX4_rebuild 155 = .ok (.putfield 45, 3)) ∧ (decode cX4_rebuild 158 = .ok (.aload_n 0, 1)) ∧ (decode cX4_rebuild 159 = .ok (.iconst 1, 1)) ∧ (decode cX4_rebuild 160 = .ok (.putfield 48, 3)) := by decide +kernel
theorem dX4_rebuild_133 : decode cX4_rebuild 133 = .ok (.laload, 1) := dX4_rebuild_133_g.1
theorem dX4_rebuild_134 : decode cX4_rebuild 134 = .ok (.lastore, 1) := dX4_rebuild_133_g.2.1
theorem dX4_rebuild_135 : decode cX4_rebuild 135 = .ok (.iinc 2 1, 3) := dX4_rebuild_133_g.2.2.1
theorem dX4_rebuild_138 : decode cX4_rebuild 138 = .ok (.goto (-59), 3) := dX4_rebuild_133_g.2.2.2.1
theorem dX4_rebuild_141 : decode cX4_rebuild 141 = .ok (.aload_n 0, 1) := dX4_rebuild_133_g.2.2.2.2.1
theorem dX4_rebuild_142 : decode cX4_rebuild 142 = .ok (.iload_n 1, 1) := dX4_rebuild_133_g.2.2.2.2.2.1
theorem dX4_rebuild_143 : decode cX4_rebuild 143 = .ok (.aload_n 0, 1) := dX4_rebuild_133_g.2.2.2.2.2.2.1
theorem dX4_rebuild_144 : decode cX4_rebuild 144 = .ok (.getfield 41, 3) := dX4_rebuild_133_g.2.2.2.2.2.2.2.1
theorem dX4_rebuild_147 : decode cX4_rebuild 147 = .ok (.invokestatic 114, 3) := dX4_rebuild_133_g.2.2.2.2.2.2.2.2.1
theorem dX4_rebuild_150 : decode cX4_rebuild 150 = .ok (.putfield 41, 3) := dX4_rebuild_133_g.2.2.2.2.2.2.2.2.2.1
theorem dX4_rebuild_153 : decode cX4_rebuild 153 = .ok (.aload_n 0, 1) := dX4_rebuild_133_g.2.2.2.2.2.2.2.2.2.2.1
theorem dX4_rebuild_154 : decode cX4_rebuild 154 = .ok (.iconst 0, 1) := dX4_rebuild_133_g.2.2.2.2.2.2.2.2.2.2.2.1
theorem dX4_rebuild_155 : decode cX4_rebuild 155 = .ok (.putfield 45, 3) := dX4_rebuild_133_g.2.2.2.2.2.2.2.2.2.2.2.2.1
theorem dX4_rebuild_158 : decode cX4_rebuild 158 = .ok (.aload_n 0, 1) := dX4_rebuild_133_g.2.2.2.2.2.2.2.2.2.2.2.2.2.1
theorem dX4_rebuild_159 : decode cX4_rebuild 159 = .ok (.iconst 1, 1) := dX4_rebuild_133_g.2.2.2.2.2.2.2.2.2.2.2.2.2.2.1
theorem dX4_rebuild_160 : decode cX4_rebuild 160 = .ok (.putfield 48, 3) := dX4_rebuild_133_g.2.2.2.2.2.2.2.2.2.2.2.2.2.2.2
theorem dX4_rebuild_163 : decode cX4_rebuild 163 = .ok (.return_, 1) := by decide +kernel
