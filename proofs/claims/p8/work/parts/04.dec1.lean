theorem dX0_init_0_g : (decode cX0_init 0 = .ok (.aload_n 0, 1)) ∧ (decode cX0_init 1 = .ok (.invokespecial 3, 3)) ∧ (decode cX0_init 4 = .ok (.aload_n 0, 1)) ∧ (decode cX0_init 5 = .ok (.sipush 1000, 3)) ∧ (decode cX0_init 8 = .ok (.newarray .int, 2)) ∧ (decode cX0_init 10 = .ok (.putfield 9, 3)) ∧ (decode cX0_init 13 = .ok (.return_, 1)) := by decide +kernel
theorem dX0_init_0 : decode cX0_init 0 = .ok (.aload_n 0, 1) := dX0_init_0_g.1
theorem dX0_init_1 : decode cX0_init 1 = .ok (.invokespecial 3, 3) := dX0_init_0_g.2.1
theorem dX0_init_4 : decode cX0_init 4 = .ok (.aload_n 0, 1) := dX0_init_0_g.2.2.1
theorem dX0_init_5 : decode cX0_init 5 = .ok (.sipush 1000, 3) := dX0_init_0_g.2.2.2.1
theorem dX0_init_8 : decode cX0_init 8 = .ok (.newarray .int, 2) := dX0_init_0_g.2.2.2.2.1
theorem dX0_init_10 : decode cX0_init 10 = .ok (.putfield 9, 3) := dX0_init_0_g.2.2.2.2.2.1
theorem dX0_init_13 : decode cX0_init 13 = .ok (.return_, 1) := dX0_init_0_g.2.2.2.2.2.2
theorem dX0_size_0_g : (decode cX0_size 0 = .ok (.aload_n 0, 1)) ∧ (decode cX0_size 1 = .ok (.getfield 15, 3)) ∧ (decode cX0_size 4 = .ok (.ireturn, 1)) := by decide +kernel
theorem dX0_size_0 : decode cX0_size 0 = .ok (.aload_n 0, 1) := dX0_size_0_g.1
theorem dX0_size_1 : decode cX0_size 1 = .ok (.getfield 15, 3) := dX0_size_0_g.2.1
theorem dX0_size_4 : decode cX0_size 4 = .ok (.ireturn, 1) := dX0_size_0_g.2.2
theorem dX0_at_0_g : (decode cX0_at 0 = .ok (.iload_n 1, 1)) ∧ (decode cX0_at 1 = .ok (.ifCond .lt 11, 3)) ∧ (decode cX0_at 4 = .ok (.iload_n 1, 1)) ∧ (decode cX0_at 5 = .ok (.aload_n 0, 1)) ∧ (decode cX0_at 6 = .ok (.getfield 15, 3)) ∧ (decode cX0_at 9 = .ok (.if_icmp .lt 5, 3)) ∧ (decode cX0_at 12 = .ok (.iconst (-1), 1)) ∧ (decode cX0_at 13 = .ok (.ireturn, 1)) ∧ (decode cX0_at 14 = .ok (.aload_n 0, 1)) ∧ (decode cX0_at 15 = .ok (.getfield 9, 3)) ∧ (decode cX0_at 18 = .ok (.iload_n 1, 1)) ∧ (decode cX0_at 19 = .ok (.iconst 2, 1)) ∧ (decode cX0_at 20 = .ok (.ishr, 1)) ∧ (decode cX0_at 21 = .ok (.iaload, 1)) ∧ (decode cX0_at 22 = .ok (.bipush 24, 2)) ∧ (decode cX0_at 24 = .ok (.bipush 8, 2)) := by decide +kernel
theorem dX0_at_0 : decode cX0_at 0 = .ok (.iload_n 1, 1) := dX0_at_0_g.1
theorem dX0_at_1 : decode cX0_at 1 = .ok (.ifCond .lt 11, 3) := dX0_at_0_g.2.1
theorem dX0_at_4 : decode cX0_at 4 = .ok (.iload_n 1, 1) := dX0_at_0_g.2.2.1
theorem dX0_at_5 : decode cX0_at 5 = .ok (.aload_n 0, 1) := dX0_at_0_g.2.2.2.1
theorem dX0_at_6 : decode cX0_at 6 = .ok (.getfield 15, 3) := dX0_at_0_g.2.2.2.2.1
theorem dX0_at_9 : decode cX0_at 9 = .ok (.if_icmp .lt 5, 3) := dX0_at_0_g.2.2.2.2.2.1
theorem dX0_at_12 : decode cX0_at 12 = .ok (.iconst (-1), 1) := dX0_at_0_g.2.2.2.2.2.2.1
theorem dX0_at_13 : decode cX0_at 13 = .ok (.ireturn, 1) := dX0_at_0_g.2.2.2.2.2.2.2.1
theorem dX0_at_14 : decode cX0_at 14 = .ok (.aload_n 0, 1) := dX0_at_0_g.2.2.2.2.2.2.2.2.1
theorem dX0_at_15 : decode cX0_at 15 = .ok (.getfield 9, 3) := dX0_at_0_g.2.2.2.2.2.2.2.2.2.1
theorem dX0_at_18 : decode cX0_at 18 = .ok (.iload_n 1, 1) := dX0_at_0_g.2.2.2.2.2.2.2.2.2.2.1
theorem dX0_at_19 : decode cX0_at 19 = .ok (.iconst 2, 1) := dX0_at_0_g.2.2.2.2.2.2.2.2.2.2.2.1
theorem dX0_at_20 : decode cX0_at 20 = .ok (.ishr, 1) := dX0_at_0_g.2.2.2.2.2.2.2.2.2.2.2.2.1
theorem dX0_at_21 : decode cX0_at 21 = .ok (.iaload, 1) := dX0_at_0_g.2.2.2.2.2.2.2.2.2.2.2.2.2.1
theorem dX0_at_22 : decode cX0_at 22 = .ok (.bipush 24, 2) := dX0_at_0_g.2.2.2.2.2.2.2.2.2.2.2.2.2.2.1
theorem dX0_at_24 : decode cX0_at 24 = .ok (.bipush 8, 2) := dX0_at_0_g.2.2.2.2.2.2.2.2.2.2.2.2.2.2.2
theorem dX0_at_26_g : (decode cX0_at 26 = .ok (.iload_n 1, 1)) ∧ (decode cX0_at 27 = .ok (.iconst 3, 1)) ∧ (decode cX0_at 28 = .ok (.iand, 1)) ∧ (decode cX0_at 29 = .ok (.imul, 1)) ∧ (decode cX0_at 30 = .ok (.isub, 1)) ∧ (decode cX0_at 31 = .ok (.iushr, 1)) ∧ (decode cX0_at 32 = .ok (.sipush 255, 3)) ∧ (decode cX0_at 35 = .ok (.iand, 1)) ∧ (decode cX0_at 36 = .ok (.ireturn, 1)) := by decide +kernel
theorem dX0_at_26 : decode cX0_at 26 = .ok (.iload_n 1, 1) := dX0_at_26_g.1
theorem dX0_at_27 : decode cX0_at 27 = .ok (.iconst 3, 1) := dX0_at_26_g.2.1
theorem dX0_at_28 : decode cX0_at 28 = .ok (.iand, 1) := dX0_at_26_g.2.2.1
theorem dX0_at_29 : decode cX0_at 29 = .ok (.imul, 1) := dX0_at_26_g.2.2.2.1
theorem dX0_at_30 : decode cX0_at 30 = .ok (.isub, 1) := dX0_at_26_g.2.2.2.2.1
theorem dX0_at_31 : decode cX0_at 31 = .ok (.iushr, 1) := dX0_at_26_g.2.2.2.2.2.1
theorem dX0_at_32 : decode cX0_at 32 = .ok (.sipush 255, 3) := dX0_at_26_g.2.2.2.2.2.2.1
theorem dX0_at_35 : decode cX0_at 35 = .ok (.iand, 1) := dX0_at_26_g.2.2.2.2.2.2.2.1
theorem dX0_at_36 : decode cX0_at 36 = .ok (.ireturn, 1) := dX0_at_26_g.2.2.2.2.2.2.2.2
theorem dX0_put_0_g : (decode cX0_put 0 = .ok (.iload_n 1, 1)) ∧ (decode cX0_put 1 = .ok (.ifCond .lt 11, 3)) ∧ (decode cX0_put 4 = .ok (.iload_n 1, 1)) ∧ (decode cX0_put 5 = .ok (.aload_n 0, 1)) ∧ (decode cX0_put 6 = .ok (.getfield 15, 3)) ∧ (decode cX0_put 9 = .ok (.if_icmp .lt 5, 3)) ∧ (decode cX0_put 12 = .ok (.iconst 0, 1)) ∧ (decode cX0_put 13 = .ok (.ireturn, 1)) ∧ (decode cX0_put 14 = .ok (.bipush 24, 2)) ∧ (decode cX0_put 16 = .ok (.bipush 8, 2)) ∧ (decode cX0_put 18 = .ok (.iload_n 1, 1)) ∧ (decode cX0_put 19 = .ok (.iconst 3, 1)) ∧ (decode cX0_put 20 = .ok (.iand, 1)) ∧ (decode cX0_put 21 = .ok (.imul, 1)) ∧ (decode cX0_put 22 = .ok (.isub, 1)) ∧ (decode cX0_put 23 = .ok (.istore_n 3, 1)) := by decide +kernel
theorem dX0_put_0 : decode cX0_put 0 = .ok (.iload_n 1, 1) := dX0_put_0_g.1
theorem dX0_put_1 : decode cX0_put 1 = .ok (.ifCond .lt 11, 3) := dX0_put_0_g.2.1
theorem dX0_put_4 : decode cX0_put 4 = .ok (.iload_n 1, 1) := dX0_put_0_g.2.2.1
theorem dX0_put_5 : decode cX0_put 5 = .ok (.aload_n 0, 1) := dX0_put_0_g.2.2.2.1
theorem dX0_put_6 : decode cX0_put 6 = .ok (.getfield 15, 3) := dX0_put_0_g.2.2.2.2.1
theorem dX0_put_9 : decode cX0_put 9 = .ok (.if_icmp .lt 5, 3) := dX0_put_0_g.2.2.2.2.2.1
theorem dX0_put_12 : decode cX0_put 12 = .ok (.iconst 0, 1) := dX0_put_0_g.2.2.2.2.2.2.1
theorem dX0_put_13 : decode cX0_put 13 = .ok (.ireturn, 1) := dX0_put_0_g.2.2.2.2.2.2.2.1
theorem dX0_put_14 : decode cX0_put 14 = .ok (.bipush 24, 2) := dX0_put_0_g.2.2.2.2.2.2.2.2.1
theorem dX0_put_16 : decode cX0_put 16 = .ok (.bipush 8, 2) := dX0_put_0_g.2.2.2.2.2.2.2.2.2.1
theorem dX0_put_18 : decode cX0_put 18 = .ok (.iload_n 1, 1) := dX0_put_0_g.2.2.2.2.2.2.2.2.2.2.1
theorem dX0_put_19 : decode cX0_put 19 = .ok (.iconst 3, 1) := dX0_put_0_g.2.2.2.2.2.2.2.2.2.2.2.1
theorem dX0_put_20 : decode cX0_put 20 = .ok (.iand, 1) := dX0_put_0_g.2.2.2.2.2.2.2.2.2.2.2.2.1
theorem dX0_put_21 : decode cX0_put 21 = .ok (.imul, 1) := dX0_put_0_g.2.2.2.2.2.2.2.2.2.2.2.2.2.1
theorem dX0_put_22 : decode cX0_put 22 = .ok (.isub, 1) := dX0_put_0_g.2.2.2.2.2.2.2.2.2.2.2.2.2.2.1
theorem dX0_put_23 : decode cX0_put 23 = .ok (.istore_n 3, 1) := dX0_put_0_g.2.2.2.2.2.2.2.2.2.2.2.2.2.2.2
theorem dX0_put_24_g : (decode cX0_put 24 = .ok (.aload_n 0, 1)) ∧ (decode cX0_put 25 = .ok (.getfield 9, 3)) ∧ (decode cX0_put 28 = .ok (.iload_n 1, 1)) ∧ (decode cX0_put 29 = .ok (.iconst 2, 1)) ∧ (decode cX0_put 30 = .ok (.ishr, 1)) ∧ (decode cX0_put 31 = .ok (.aload_n 0, 1)) ∧ (decode cX0_put 32 = .ok (.getfield 9, 3)) ∧ (decode cX0_put 35 = .ok (.iload_n 1, 1)) ∧ (decode cX0_put 36 = .ok (.iconst 2, 1)) ∧ (decode cX0_put 37 = .ok (.ishr, 1)) ∧ (decode cX0_put 38 = .ok (.iaload, 1)) ∧ (decode cX0_put 39 = .ok (.sipush 255, 3)) ∧ (decode cX0_put 42 = .ok (.iload_n 3, 1)) ∧ (decode cX0_put 43 = .ok (.ishl, 1)) ∧ (decode cX0_put 44 = .ok (.iconst (-1), 1)) ∧ (decode cX0_put 45 = .ok (.ixor, 1)) := by decide +kernel
theorem dX0_put_24 : decode cX0_put 24 = .ok (.aload_n 0, 1) := dX0_put_24_g.1
theorem dX0_put_25 : decode cX0_put 25 = .ok (.getfield 9, 3) := dX0_put_24_g.2.1
theorem dX0_put_28 : decode cX0_put 28 = .ok (.iload_n 1, 1) := dX0_put_24_g.2.2.1
theorem dX0_put_29 : decode cX0_put 29 = .ok (.iconst 2, 1) := dX0_put_24_g.2.2.2.1
theorem dX0_put_30 : decode cX0_put 30 = .ok (.ishr, 1) := dX0_put_24_g.2.2.2.2.1
theorem dX0_put_31 : decode cX0_put 31 = .ok (.aload_n 0, 1) := dX0_put_24_g.2.2.2.2.2.1
theorem dX0_put_32 : decode cX0_put 32 = .ok (.getfield 9, 3) := dX0_put_24_g.2.2.2.2.2.2.1
theorem dX0_put_35 : decode cX0_put 35 = .ok (.iload_n 1, 1) := dX0_put_24_g.2.2.2.2.2.2.2.1
theorem dX0_put_36 : decode cX0_put 36 = .ok (.iconst 2, 1) := dX0_put_24_g.2.2.2.2.2.2.2.2.1
theorem dX0_put_37 : decode cX0_put 37 = .ok (.ishr, 1) := dX0_put_24_g.2.2.2.2.2.2.2.2.2.1
theorem dX0_put_38 : decode cX0_put 38 = .ok (.iaload, 1) := dX0_put_24_g.2.2.2.2.2.2.2.2.2.2.1
theorem dX0_put_39 : decode cX0_put 39 = .ok (.sipush 255, 3) := dX0_put_24_g.2.2.2.2.2.2.2.2.2.2.2.1
theorem dX0_put_42 : decode cX0_put 42 = .ok (.iload_n 3, 1) := dX0_put_24_g.2.2.2.2.2.2.2.2.2.2.2.2.1
theorem dX0_put_43 : decode cX0_put 43 = .ok (.ishl, 1) := dX0_put_24_g.2.2.2.2.2.2.2.2.2.2.2.2.2.1
theorem dX0_put_44 : decode cX0_put 44 = .ok (.iconst (-1), 1) := dX0_put_24_g.2.2.2.2.2.2.2.2.2.2.2.2.2.2.1
theorem dX0_put_45 : decode cX0_put 45 = .ok (.ixor, 1) := dX0_put_24_g.2.2.2.2.2.2.2.2.2.2.2.2.2.2.2
theorem dX0_put_46_g : (decode cX0_put 46 = .ok (.iand, 1)) ∧ (decode cX0_put 47 = .ok (.iload_n 2, 1)) ∧ (decode cX0_put 48 = .ok (.sipush 255, 3)) ∧ (decode cX0_put 51 = .ok (.iand, 1)) ∧ (decode cX0_put 52 = .ok (.iload_n 3, 1)) ∧ (decode cX0_put 53 = .ok (.ishl, 1)) ∧ (decode cX0_put 54 = .ok (.ior, 1)) ∧ (decode cX0_put 55 = .ok (.iastore, 1)) ∧ (decode cX0_put 56 = .ok (.iconst 1, 1)) ∧ (decode cX0_put 57 = .ok (.ireturn, 1)) := by decide +kernel
theorem dX0_put_46 : decode cX0_put 46 = .ok (.iand, 1) := dX0_put_46_g.1
theorem dX0_put_47 : decode cX0_put 47 = .ok (.iload_n 2, 1) := dX0_put_46_g.2.1
theorem dX0_put_48 : decode cX0_put 48 = .ok (.sipush 255, 3) := dX0_put_46_g.2.2.1
theorem dX0_put_51 : decode cX0_put 51 = .ok (.iand, 1) := dX0_put_46_g.2.2.2.1
theorem dX0_put_52 : decode cX0_put 52 = .ok (.iload_n 3, 1) := dX0_put_46_g.2.2.2.2.1
theorem dX0_put_53 : decode cX0_put 53 = .ok (.ishl, 1) := dX0_put_46_g.2.2.2.2.2.1
theorem dX0_put_54 : decode cX0_put 54 = .ok (.ior, 1) := dX0_put_46_g.2.2.2.2.2.2.1
theorem dX0_put_55 : decode cX0_put 55 = .ok (.iastore, 1) := dX0_put_46_g.2.2.2.2.2.2.2.1
theorem dX0_put_56 : decode cX0_put 56 = .ok (.iconst 1, 1) := dX0_put_46_g.2.2.2.2.2.2.2.2.1
theorem dX0_put_57 : decode cX0_put 57 = .ok (.ireturn, 1) := dX0_put_46_g.2.2.2.2.2.2.2.2.2
theorem dX0_push_0_g : (decode cX0_push 0 = .ok (.aload_n 0, 1)) ∧ (decode cX0_push 1 = .ok (.getfield 15, 3)) ∧ (decode cX0_push 4 = .ok (.sipush 4000, 3)) ∧ (decode cX0_push 7 = .ok (.if_icmp .ge 25, 3)) ∧ (decode cX0_push 10 = .ok (.aload_n 0, 1)) ∧ (decode cX0_push 11 = .ok (.dup, 1)) ∧ (decode cX0_push 12 = .ok (.getfield 15, 3)) ∧ (decode cX0_push 15 = .ok (.iconst 1, 1)) ∧ (decode cX0_push 16 = .ok (.iadd, 1)) ∧ (decode cX0_push 17 = .ok (.putfield 15, 3)) ∧ (decode cX0_push 20 = .ok (.aload_n 0, 1)) ∧ (decode cX0_push 21 = .ok (.aload_n 0, 1)) ∧ (decode cX0_push 22 = .ok (.getfield 15, 3)) ∧ (decode cX0_push 25 = .ok (.iconst 1, 1)) ∧ (decode cX0_push 26 = .ok (.isub, 1)) ∧ (decode cX0_push 27 = .ok (.iload_n 1, 1)) := by decide +kernel
theorem dX0_push_0 : decode cX0_push 0 = .ok (.aload_n 0, 1) := dX0_push_0_g.1
theorem dX0_push_1 : decode cX0_push 1 = .ok (.getfield 15, 3) := dX0_push_0_g.2.1
theorem dX0_push_4 : decode cX0_push 4 = .ok (.sipush 4000, 3) := dX0_push_0_g.2.2.1
theorem dX0_push_7 : decode cX0_push 7 = .ok (.if_icmp .ge 25, 3) := dX0_push_0_g.2.2.2.1
theorem dX0_push_10 : decode cX0_push 10 = .ok (.aload_n 0, 1) := dX0_push_0_g.2.2.2.2.1
theorem dX0_push_11 : decode cX0_push 11 = .ok (.dup, 1) := dX0_push_0_g.2.2.2.2.2.1
theorem dX0_push_12 : decode cX0_push 12 = .ok (.getfield 15, 3) := dX0_push_0_g.2.2.2.2.2.2.1
theorem dX0_push_15 : decode cX0_push 15 = .ok (.iconst 1, 1) := dX0_push_0_g.2.2.2.2.2.2.2.1
theorem dX0_push_16 : decode cX0_push 16 = .ok (.iadd, 1) := dX0_push_0_g.2.2.2.2.2.2.2.2.1
theorem dX0_push_17 : decode cX0_push 17 = .ok (.putfield 15, 3) := dX0_push_0_g.2.2.2.2.2.2.2.2.2.1
theorem dX0_push_20 : decode cX0_push 20 = .ok (.aload_n 0, 1) := dX0_push_0_g.2.2.2.2.2.2.2.2.2.2.1
theorem dX0_push_21 : decode cX0_push 21 = .ok (.aload_n 0, 1) := dX0_push_0_g.2.2.2.2.2.2.2.2.2.2.2.1
theorem dX0_push_22 : decode cX0_push 22 = .ok (.getfield 15, 3) := dX0_push_0_g.2.2.2.2.2.2.2.2.2.2.2.2.1
theorem dX0_push_25 : decode cX0_push 25 = .ok (.iconst 1, 1) := dX0_push_0_g.2.2.2.2.2.2.2.2.2.2.2.2.2.1
theorem dX0_push_26 : decode cX0_push 26 = .ok (.isub, 1) := dX0_push_0_g.2.2.2.2.2.2.2.2.2.2.2.2.2.2.1
theorem dX0_push_27 : decode cX0_push 27 = .ok (.iload_n 1, 1) := dX0_push_0_g.2.2.2.2.2.2.2.2.2.2.2.2.2.2.2
theorem dX0_push_28_g : (decode cX0_push 28 = .ok (.invokevirtual 19, 3)) ∧ (decode cX0_push 31 = .ok (.pop, 1)) ∧ (decode cX0_push 32 = .ok (.return_, 1)) := by decide +kernel
theorem dX0_push_28 : decode cX0_push 28 = .ok (.invokevirtual 19, 3) := dX0_push_28_g.1
theorem dX0_push_31 : decode cX0_push 31 = .ok (.pop, 1) := dX0_push_28_g.2.1
theorem dX0_push_32 : decode cX0_push 32 = .ok (.return_, 1) := dX0_push_28_g.2.2
theorem dX0_pushNumber_0_g : (decode cX0_pushNumber 0 = .ok (.aload_n 0, 1)) ∧ (decode cX0_pushNumber 1 = .ok (.iload_n 1, 1)) ∧ (decode cX0_pushNumber 2 = .ok (.bipush 24, 2)) ∧ (decode cX0_pushNumber 4 = .ok (.iushr, 1)) ∧ (decode cX0_pushNumber 5 = .ok (.invokevirtual 23, 3)) ∧ (decode cX0_pushNumber 8 = .ok (.aload_n 0, 1)) ∧ (decode cX0_pushNumber 9 = .ok (.iload_n 1, 1)) ∧ (decode cX0_pushNumber 10 = .ok (.bipush 16, 2)) ∧ (decode cX0_pushNumber 12 = .ok (.iushr, 1)) ∧ (decode cX0_pushNumber 13 = .ok (.invokevirtual 23, 3)) ∧ (decode cX0_pushNumber 16 = .ok (.aload_n 0, 1)) ∧ (decode cX0_pushNumber 17 = .ok (.iload_n 1, 1)) ∧ (decode cX0_pushNumber 18 = .ok (.bipush 8, 2)) ∧ (decode cX0_pushNumber 20 = .ok (.iushr, 1)) ∧ (decode cX0_pushNumber 21 = .ok (.invokevirtual 23, 3)) ∧ (decode cX0_pushNumber 24 = .ok (.aload_n 0, 1)) := by decide +kernel
theorem dX0_pushNumber_0 : decode cX0_pushNumber 0 = .ok (.aload_n 0, 1) := dX0_pushNumber_0_g.1
theorem dX0_pushNumber_1 : decode cX0_pushNumber 1 = .ok (.iload_n 1, 1) := dX0_pushNumber_0_g.2.1
theorem dX0_pushNumber_2 : decode cX0_pushNumber 2 = .ok (.bipush 24, 2) := dX0_pushNumber_0_g.2.2.1
theorem dX0_pushNumber_4 : decode cX0_pushNumber 4 = .ok (.iushr, 1) := dX0_pushNumber_0_g.2.2.2.1
theorem dX0_pushNumber_5 : decode cX0_pushNumber 5 = .ok (.invokevirtual 23, 3) := dX0_pushNumber_0_g.2.2.2.2.1
theorem dX0_pushNumber_8 : decode cX0_pushNumber 8 = .ok (.aload_n 0, 1) := dX0_pushNumber_0_g.2.2.2.2.2.1
theorem dX0_pushNumber_9 : decode cX0_pushNumber 9 = .ok (.iload_n 1, 1) := dX0_pushNumber_0_g.2.2.2.2.2.2.1
theorem dX0_pushNumber_10 : decode cX0_pushNumber 10 = .ok (.bipush 16, 2) := dX0_pushNumber_0_g.2.2.2.2.2.2.2.1
theorem dX0_pushNumber_12 : decode cX0_pushNumber 12 = .ok (.iushr, 1) := dX0_pushNumber_0_g.2.2.2.2.2.2.2.2.1
theorem dX0_pushNumber_13 : decode cX0_pushNumber 13 = .ok (.invokevirtual 23, 3) := dX0_pushNumber_0_g.2.2.2.2.2.2.2.2.2.1
theorem dX0_pushNumber_16 : decode cX0_pushNumber 16 = .ok (.aload_n 0, 1) := dX0_pushNumber_0_g.2.2.2.2.2.2.2.2.2.2.1
theorem dX0_pushNumber_17 : decode cX0_pushNumber 17 = .ok (.iload_n 1, 1) := dX0_pushNumber_0_g.2.2.2.2.2.2.2.2.2.2.2.1
theorem dX0_pushNumber_18 : decode cX0_pushNumber 18 = .ok (.bipush 8, 2) := dX0_pushNumber_0_g.2.2.2.2.2.2.2.2.2.2.2.2.1
theorem dX0_pushNumber_20 : decode cX0_pushNumber 20 = .ok (.iushr, 1) := dX0_pushNumber_0_g.2.2.2.2.2.2.2.2.2.2.2.2.2.1
theorem dX0_pushNumber_21 : decode cX0_pushNumber 21 = .ok (.invokevirtual 23, 3) := dX0_pushNumber_0_g.2.2.2.2.2.2.2.2.2.2.2.2.2.2.1
theorem dX0_pushNumber_24 : decode cX0_pushNumber 24 = .ok (.aload_n 0, 1) := dX0_pushNumber_0_g.2.2.2.2.2.2.2.2.2.2.2.2.2.2.2
theorem dX0_pushNumber_25_g : (decode cX0_pushNumber 25 = .ok (.iload_n 1, 1)) ∧ (decode cX0_pushNumber 26 = .ok (.invokevirtual 23, 3)) ∧ (decode cX0_pushNumber 29 = .ok (.return_, 1)) := by decide +kernel
theorem dX0_pushNumber_25 : decode cX0_pushNumber 25 = .ok (.iload_n 1, 1) := dX0_pushNumber_25_g.1
theorem dX0_pushNumber_26 : decode cX0_pushNumber 26 = .ok (.invokevirtual 23, 3) := dX0_pushNumber_25_g.2.1
theorem dX0_pushNumber_29 : decode cX0_pushNumber 29 = .ok (.return_, 1) := dX0_pushNumber_25_g.2.2
theorem dX0_keep_0_g : (decode cX0_keep 0 = .ok (.iload_n 1, 1)) ∧ (decode cX0_keep 1 = .ok (.ifCond .lt 11, 3)) ∧ (decode cX0_keep 4 = .ok (.iload_n 1, 1)) ∧ (decode cX0_keep 5 = .ok (.aload_n 0, 1)) ∧ (decode cX0_keep 6 = .ok (.getfield 15, 3)) ∧ (decode cX0_keep 9 = .ok (.if_icmp .le 5, 3)) ∧ (decode cX0_keep 12 = .ok (.iconst 0, 1)) ∧ (decode cX0_keep 13 = .ok (.ireturn, 1)) ∧ (decode cX0_keep 14 = .ok (.aload_n 0, 1)) ∧ (decode cX0_keep 15 = .ok (.iload_n 1, 1)) ∧ (decode cX0_keep 16 = .ok (.putfield 15, 3)) ∧ (decode cX0_keep 19 = .ok (.iconst 1, 1)) ∧ (decode cX0_keep 20 = .ok (.ireturn, 1)) := by decide +kernel
theorem dX0_keep_0 : decode cX0_keep 0 = .ok (.iload_n 1, 1) := dX0_keep_0_g.1
theorem dX0_keep_1 : decode cX0_keep 1 = .ok (.ifCond .lt 11, 3) := dX0_keep_0_g.2.1
theorem dX0_keep_4 : decode cX0_keep 4 = .ok (.iload_n 1, 1) := dX0_keep_0_g.2.2.1
theorem dX0_keep_5 : decode cX0_keep 5 = .ok (.aload_n 0, 1) := dX0_keep_0_g.2.2.2.1
theorem dX0_keep_6 : decode cX0_keep 6 = .ok (.getfield 15, 3) := dX0_keep_0_g.2.2.2.2.1
theorem dX0_keep_9 : decode cX0_keep 9 = .ok (.if_icmp .le 5, 3) := dX0_keep_0_g.2.2.2.2.2.1
theorem dX0_keep_12 : decode cX0_keep 12 = .ok (.iconst 0, 1) := dX0_keep_0_g.2.2.2.2.2.2.1
theorem dX0_keep_13 : decode cX0_keep 13 = .ok (.ireturn, 1) := dX0_keep_0_g.2.2.2.2.2.2.2.1
theorem dX0_keep_14 : decode cX0_keep 14 = .ok (.aload_n 0, 1) := dX0_keep_0_g.2.2.2.2.2.2.2.2.1
theorem dX0_keep_15 : decode cX0_keep 15 = .ok (.iload_n 1, 1) := dX0_keep_0_g.2.2.2.2.2.2.2.2.2.1
theorem dX0_keep_16 : decode cX0_keep 16 = .ok (.putfield 15, 3) := dX0_keep_0_g.2.2.2.2.2.2.2.2.2.2.1
theorem dX0_keep_19 : decode cX0_keep 19 = .ok (.iconst 1, 1) := dX0_keep_0_g.2.2.2.2.2.2.2.2.2.2.2.1
theorem dX0_keep_20 : decode cX0_keep 20 = .ok (.ireturn, 1) := dX0_keep_0_g.2.2.2.2.2.2.2.2.2.2.2.2
theorem dX0_copy_0_g : (decode cX0_copy 0 = .ok (.aload_n 0, 1)) ∧ (decode cX0_copy 1 = .ok (.aload_n 1, 1)) ∧ (decode cX0_copy 2 = .ok (.getfield 15, 3)) ∧ (decode cX0_copy 5 = .ok (.putfield 15, 3)) ∧ (decode cX0_copy 8 = .ok (.iconst 0, 1)) ∧ (decode cX0_copy 9 = .ok (.istore_n 2, 1)) ∧ (decode cX0_copy 10 = .ok (.iconst 4, 1)) ∧ (decode cX0_copy 11 = .ok (.iload_n 2, 1)) ∧ (decode cX0_copy 12 = .ok (.imul, 1)) ∧ (decode cX0_copy 13 = .ok (.aload_n 0, 1)) ∧ (decode cX0_copy 14 = .ok (.getfield 15, 3)) ∧ (decode cX0_copy 17 = .ok (.if_icmp .ge 30, 3)) ∧ (decode cX0_copy 20 = .ok (.iload_n 2, 1)) ∧ (decode cX0_copy 21 = .ok (.aload_n 0, 1)) ∧ (decode cX0_copy 22 = .ok (.getfield 9, 3)) ∧ (decode cX0_copy 25 = .ok (.arraylength, 1)) := by decide +kernel
theorem dX0_copy_0 : decode cX0_copy 0 = .ok (.aload_n 0, 1) := dX0_copy_0_g.1
theorem dX0_copy_1 : decode cX0_copy 1 = .ok (.aload_n 1, 1) := dX0_copy_0_g.2.1
theorem dX0_copy_2 : decode cX0_copy 2 = .ok (.getfield 15, 3) := dX0_copy_0_g.2.2.1
theorem dX0_copy_5 : decode cX0_copy 5 = .ok (.putfield 15, 3) := dX0_copy_0_g.2.2.2.1
theorem dX0_copy_8 : decode cX0_copy 8 = .ok (.iconst 0, 1) := dX0_copy_0_g.2.2.2.2.1
theorem dX0_copy_9 : decode cX0_copy 9 = .ok (.istore_n 2, 1) := dX0_copy_0_g.2.2.2.2.2.1
theorem dX0_copy_10 : decode cX0_copy 10 = .ok (.iconst 4, 1) := dX0_copy_0_g.2.2.2.2.2.2.1
theorem dX0_copy_11 : decode cX0_copy 11 = .ok (.iload_n 2, 1) := dX0_copy_0_g.2.2.2.2.2.2.2.1
theorem dX0_copy_12 : decode cX0_copy 12 = .ok (.imul, 1) := dX0_copy_0_g.2.2.2.2.2.2.2.2.1
theorem dX0_copy_13 : decode cX0_copy 13 = .ok (.aload_n 0, 1) := dX0_copy_0_g.2.2.2.2.2.2.2.2.2.1
theorem dX0_copy_14 : decode cX0_copy 14 = .ok (.getfield 15, 3) := dX0_copy_0_g.2.2.2.2.2.2.2.2.2.2.1
theorem dX0_copy_17 : decode cX0_copy 17 = .ok (.if_icmp .ge 30, 3) := dX0_copy_0_g.2.2.2.2.2.2.2.2.2.2.2.1
theorem dX0_copy_20 : decode cX0_copy 20 = .ok (.iload_n 2, 1) := dX0_copy_0_g.2.2.2.2.2.2.2.2.2.2.2.2.1
theorem dX0_copy_21 : decode cX0_copy 21 = .ok (.aload_n 0, 1) := dX0_copy_0_g.2.2.2.2.2.2.2.2.2.2.2.2.2.1
theorem dX0_copy_22 : decode cX0_copy 22 = .ok (.getfield 9, 3) := dX0_copy_0_g.2.2.2.2.2.2.2.2.2.2.2.2.2.2.1
theorem dX0_copy_25 : decode cX0_copy 25 = .ok (.arraylength, 1) := dX0_copy_0_g.2.2.2.2.2.2.2.2.2.2.2.2.2.2.2
theorem dX0_copy_26_g : (decode cX0_copy 26 = .ok (.if_icmp .ge 21, 3)) ∧ (decode cX0_copy 29 = .ok (.aload_n 0, 1)) ∧ (decode cX0_copy 30 = .ok (.getfield 9, 3)) ∧ (decode cX0_copy 33 = .ok (.iload_n 2, 1)) ∧ (decode cX0_copy 34 = .ok (.aload_n 1, 1)) ∧ (decode cX0_copy 35 = .ok (.getfield 9, 3)) ∧ (decode cX0_copy 38 = .ok (.iload_n 2, 1)) ∧ (decode cX0_copy 39 = .ok (.iaload, 1)) ∧ (decode cX0_copy 40 = .ok (.iastore, 1)) ∧ (decode cX0_copy 41 = .ok (.iinc 2 1, 3)) ∧ (decode cX0_copy 44 = .ok (.goto (-34), 3)) ∧ (decode cX0_copy 47 = .ok (.return_, 1)) := by decide +kernel
theorem dX0_copy_26 : decode cX0_copy 26 = .ok (.if_icmp .ge 21, 3) := dX0_copy_26_g.1
theorem dX0_copy_29 : decode cX0_copy 29 = .ok (.aload_n 0, 1) := dX0_copy_26_g.2.1
theorem dX0_copy_30 : decode cX0_copy 30 = .ok (.getfield 9, 3) := dX0_copy_26_g.2.2.1
theorem dX0_copy_33 : decode cX0_copy 33 = .ok (.iload_n 2, 1) := dX0_copy_26_g.2.2.2.1
theorem dX0_copy_34 : decode cX0_copy 34 = .ok (.aload_n 1, 1) := dX0_copy_26_g.2.2.2.2.1
theorem dX0_copy_35 : decode cX0_copy 35 = .ok (.getfield 9, 3) := dX0_copy_26_g.2.2.2.2.2.1
theorem dX0_copy_38 : decode cX0_copy 38 = .ok (.iload_n 2, 1) := dX0_copy_26_g.2.2.2.2.2.2.1
theorem dX0_copy_39 : decode cX0_copy 39 = .ok (.iaload, 1) := dX0_copy_26_g.2.2.2.2.2.2.2.1
theorem dX0_copy_40 : decode cX0_copy 40 = .ok (.iastore, 1) := dX0_copy_26_g.2.2.2.2.2.2.2.2.1
theorem dX0_copy_41 : decode cX0_copy 41 = .ok (.iinc 2 1, 3) := dX0_copy_26_g.2.2.2.2.2.2.2.2.2.1
theorem dX0_copy_44 : decode cX0_copy 44 = .ok (.goto (-34), 3) := dX0_copy_26_g.2.2.2.2.2.2.2.2.2.2.1
theorem dX0_copy_47 : decode cX0_copy 47 = .ok (.return_, 1) := dX0_copy_26_g.2.2.2.2.2.2.2.2.2.2.2
theorem dX3_init_0_g : (decode cX3_init 0 = .ok (.aload_n 0, 1)) ∧ (decode cX3_init 1 = .ok (.invokespecial 3, 3)) ∧ (decode cX3_init 4 = .ok (.aload_n 0, 1)) ∧ (decode cX3_init 5 = .ok (.sipush 1299, 3)) ∧ (decode cX3_init 8 = .ok (.newarray .int, 2)) ∧ (decode cX3_init 10 = .ok (.putfield 9, 3)) ∧ (decode cX3_init 13 = .ok (.return_, 1)) := by decide +kernel
theorem dX3_init_0 : decode cX3_init 0 = .ok (.aload_n 0, 1) := dX3_init_0_g.1
theorem dX3_init_1 : decode cX3_init 1 = .ok (.invokespecial 3, 3) := dX3_init_0_g.2.1
theorem dX3_init_4 : decode cX3_init 4 = .ok (.aload_n 0, 1) := dX3_init_0_g.2.2.1
theorem dX3_init_5 : decode cX3_init 5 = .ok (.sipush 1299, 3) := dX3_init_0_g.2.2.2.1
theorem dX3_init_8 : decode cX3_init 8 = .ok (.newarray .int, 2) := dX3_init_0_g.2.2.2.2.1
theorem dX3_init_10 : decode cX3_init 10 = .ok (.putfield 9, 3) := dX3_init_0_g.2.2.2.2.2.1
theorem dX3_init_13 : decode cX3_init 13 = .ok (.return_, 1) := dX3_init_0_g.2.2.2.2.2.2
theorem dX3_size_0_g : (decode cX3_size 0 = .ok (.aload_n 0, 1)) ∧ (decode cX3_size 1 = .ok (.getfield 15, 3)) ∧ (decode cX3_size 4 = .ok (.ireturn, 1)) := by decide +kernel
theorem dX3_size_0 : decode cX3_size 0 = .ok (.aload_n 0, 1) := dX3_size_0_g.1
theorem dX3_size_1 : decode cX3_size 1 = .ok (.getfield 15, 3) := dX3_size_0_g.2.1
theorem dX3_size_4 : decode cX3_size 4 = .ok (.ireturn, 1) := dX3_size_0_g.2.2
theorem dX3_push_0_g : (decode cX3_push 0 = .ok (.aload_n 0, 1)) ∧ (decode cX3_push 1 = .ok (.getfield 15, 3)) ∧ (decode cX3_push 4 = .ok (.aload_n 0, 1)) ∧ (decode cX3_push 5 = .ok (.getfield 9, 3)) ∧ (decode cX3_push 8 = .ok (.arraylength, 1)) ∧ (decode cX3_push 9 = .ok (.if_icmp .lt 5, 3)) ∧ (decode cX3_push 12 = .ok (.iconst 0, 1)) ∧ (decode cX3_push 13 = .ok (.ireturn, 1)) ∧ (decode cX3_push 14 = .ok (.aload_n 0, 1)) ∧ (decode cX3_push 15 = .ok (.getfield 9, 3)) ∧ (decode cX3_push 18 = .ok (.aload_n 0, 1)) ∧ (decode cX3_push 19 = .ok (.getfield 15, 3)) ∧ (decode cX3_push 22 = .ok (.iload_n 1, 1)) ∧ (decode cX3_push 23 = .ok (.bipush 16, 2)) ∧ (decode cX3_push 25 = .ok (.ishl, 1)) ∧ (decode cX3_push 26 = .ok (.iload_n 2, 1)) := by decide +kernel
theorem dX3_push_0 : decode cX3_push 0 = .ok (.aload_n 0, 1) := dX3_push_0_g.1
theorem dX3_push_1 : decode cX3_push 1 = .ok (.getfield 15, 3) := dX3_push_0_g.2.1
theorem dX3_push_4 : decode cX3_push 4 = .ok (.aload_n 0, 1) := dX3_push_0_g.2.2.1
theorem dX3_push_5 : decode cX3_push 5 = .ok (.getfield 9, 3) := dX3_push_0_g.2.2.2.1
theorem dX3_push_8 : decode cX3_push 8 = .ok (.arraylength, 1) := dX3_push_0_g.2.2.2.2.1
theorem dX3_push_9 : decode cX3_push 9 = .ok (.if_icmp .lt 5, 3) := dX3_push_0_g.2.2.2.2.2.1
theorem dX3_push_12 : decode cX3_push 12 = .ok (.iconst 0, 1) := dX3_push_0_g.2.2.2.2.2.2.1
theorem dX3_push_13 : decode cX3_push 13 = .ok (.ireturn, 1) := dX3_push_0_g.2.2.2.2.2.2.2.1
theorem dX3_push_14 : decode cX3_push 14 = .ok (.aload_n 0, 1) := dX3_push_0_g.2.2.2.2.2.2.2.2.1
theorem dX3_push_15 : decode cX3_push 15 = .ok (.getfield 9, 3) := dX3_push_0_g.2.2.2.2.2.2.2.2.2.1
theorem dX3_push_18 : decode cX3_push 18 = .ok (.aload_n 0, 1) := dX3_push_0_g.2.2.2.2.2.2.2.2.2.2.1
theorem dX3_push_19 : decode cX3_push 19 = .ok (.getfield 15, 3) := dX3_push_0_g.2.2.2.2.2.2.2.2.2.2.2.1
theorem dX3_push_22 : decode cX3_push 22 = .ok (.iload_n 1, 1) := dX3_push_0_g.2.2.2.2.2.2.2.2.2.2.2.2.1
theorem dX3_push_23 : decode cX3_push 23 = .ok (.bipush 16, 2) := dX3_push_0_g.2.2.2.2.2.2.2.2.2.2.2.2.2.1
theorem dX3_push_25 : decode cX3_push 25 = .ok (.ishl, 1) := dX3_push_0_g.2.2.2.2.2.2.2.2.2.2.2.2.2.2.1
theorem dX3_push_26 : decode cX3_push 26 = .ok (.iload_n 2, 1) := dX3_push_0_g.2.2.2.2.2.2.2.2.2.2.2.2.2.2.2
theorem dX3_push_27_g : (decode cX3_push 27 = .ok (.ior, 1)) ∧ (decode cX3_push 28 = .ok (.iastore, 1)) ∧ (decode cX3_push 29 = .ok (.aload_n 0, 1)) ∧ (decode cX3_push 30 = .ok (.dup, 1)) ∧ (decode cX3_push 31 = .ok (.getfield 15, 3)) ∧ (decode cX3_push 34 = .ok (.iconst 1, 1)) ∧ (decode cX3_push 35 = .ok (.iadd, 1)) ∧ (decode cX3_push 36 = .ok (.putfield 15, 3)) ∧ (decode cX3_push 39 = .ok (.iconst 1, 1)) ∧ (decode cX3_push 40 = .ok (.ireturn, 1)) := by decide +kernel
theorem dX3_push_27 : decode cX3_push 27 = .ok (.ior, 1) := dX3_push_27_g.1
theorem dX3_push_28 : decode cX3_push 28 = .ok (.iastore, 1) := dX3_push_27_g.2.1
theorem dX3_push_29 : decode cX3_push 29 = .ok (.aload_n 0, 1) := dX3_push_27_g.2.2.1
theorem dX3_push_30 : decode cX3_push 30 = .ok (.dup, 1) := dX3_push_27_g.2.2.2.1
theorem dX3_push_31 : decode cX3_push 31 = .ok (.getfield 15, 3) := dX3_push_27_g.2.2.2.2.1
theorem dX3_push_34 : decode cX3_push 34 = .ok (.iconst 1, 1) := dX3_push_27_g.2.2.2.2.2.1
theorem dX3_push_35 : decode cX3_push 35 = .ok (.iadd, 1) := dX3_push_27_g.2.2.2.2.2.2.1
theorem dX3_push_36 : decode cX3_push 36 = .ok (.putfield 15, 3) := dX3_push_27_g.2.2.2.2.2.2.2.1
theorem dX3_push_39 : decode cX3_push 39 = .ok (.iconst 1, 1) := dX3_push_27_g.2.2.2.2.2.2.2.2.1
theorem dX3_push_40 : decode cX3_push 40 = .ok (.ireturn, 1) := dX3_push_27_g.2.2.2.2.2.2.2.2.2
theorem dX3_shorten_0_g : (decode cX3_shorten 0 = .ok (.iload_n 1, 1)) ∧ (decode cX3_shorten 1 = .ok (.ifCond .lt 16, 3)) ∧ (decode cX3_shorten 4 = .ok (.iload_n 1, 1)) ∧ (decode cX3_shorten 5 = .ok (.aload_n 0, 1)) ∧ (decode cX3_shorten 6 = .ok (.getfield 15, 3)) ∧ (decode cX3_shorten 9 = .ok (.if_icmp .ge 8, 3)) ∧ (decode cX3_shorten 12 = .ok (.aload_n 0, 1)) ∧ (decode cX3_shorten 13 = .ok (.iload_n 1, 1)) ∧ (decode cX3_shorten 14 = .ok (.putfield 15, 3)) ∧ (decode cX3_shorten 17 = .ok (.return_, 1)) := by decide +kernel
theorem dX3_shorten_0 : decode cX3_shorten 0 = .ok (.iload_n 1, 1) := dX3_shorten_0_g.1
theorem dX3_shorten_1 : decode cX3_shorten 1 = .ok (.ifCond .lt 16, 3) := dX3_shorten_0_g.2.1
theorem dX3_shorten_4 : decode cX3_shorten 4 = .ok (.iload_n 1, 1) := dX3_shorten_0_g.2.2.1
theorem dX3_shorten_5 : decode cX3_shorten 5 = .ok (.aload_n 0, 1) := dX3_shorten_0_g.2.2.2.1
theorem dX3_shorten_6 : decode cX3_shorten 6 = .ok (.getfield 15, 3) := dX3_shorten_0_g.2.2.2.2.1
theorem dX3_shorten_9 : decode cX3_shorten 9 = .ok (.if_icmp .ge 8, 3) := dX3_shorten_0_g.2.2.2.2.2.1
theorem dX3_shorten_12 : decode cX3_shorten 12 = .ok (.aload_n 0, 1) := dX3_shorten_0_g.2.2.2.2.2.2.1
theorem dX3_shorten_13 : decode cX3_shorten 13 = .ok (.iload_n 1, 1) := dX3_shorten_0_g.2.2.2.2.2.2.2.1
theorem dX3_shorten_14 : decode cX3_shorten 14 = .ok (.putfield 15, 3) := dX3_shorten_0_g.2.2.2.2.2.2.2.2.1
theorem dX3_shorten_17 : decode cX3_shorten 17 = .ok (.return_, 1) := dX3_shorten_0_g.2.2.2.2.2.2.2.2.2
theorem dX3_copy_0_g : (decode cX3_copy 0 = .ok (.aload_n 0, 1)) ∧ (decode cX3_copy 1 = .ok (.aload_n 1, 1)) ∧ (decode cX3_copy 2 = .ok (.getfield 15, 3)) ∧ (decode cX3_copy 5 = .ok (.putfield 15, 3)) ∧ (decode cX3_copy 8 = .ok (.iconst 0, 1)) ∧ (decode cX3_copy 9 = .ok (.istore_n 2, 1)) ∧ (decode cX3_copy 10 = .ok (.iload_n 2, 1)) ∧ (decode cX3_copy 11 = .ok (.aload_n 0, 1)) ∧ (decode cX3_copy 12 = .ok (.getfield 15, 3)) ∧ (decode cX3_copy 15 = .ok (.if_icmp .ge 30, 3)) ∧ (decode cX3_copy 18 = .ok (.iload_n 2, 1)) ∧ (decode cX3_copy 19 = .ok (.aload_n 0, 1)) ∧ (decode cX3_copy 20 = .ok (.getfield 9, 3)) ∧ (decode cX3_copy 23 = .ok (.arraylength, 1)) ∧ (decode cX3_copy 24 = .ok (.if_icmp .ge 21, 3)) ∧ (decode cX3_copy 27 = .ok (.aload_n 0, 1)) := by decide +kernel
theorem dX3_copy_0 : decode cX3_copy 0 = .ok (.aload_n 0, 1) := dX3_copy_0_g.1
theorem dX3_copy_1 : decode cX3_copy 1 = .ok (.aload_n 1, 1) := dX3_copy_0_g.2.1
theorem dX3_copy_2 : decode cX3_copy 2 = .ok (.getfield 15, 3) := dX3_copy_0_g.2.2.1
theorem dX3_copy_5 : decode cX3_copy 5 = .ok (.putfield 15, 3) := dX3_copy_0_g.2.2.2.1
theorem dX3_copy_8 : decode cX3_copy 8 = .ok (.iconst 0, 1) := dX3_copy_0_g.2.2.2.2.1
theorem dX3_copy_9 : decode cX3_copy 9 = .ok (.istore_n 2, 1) := dX3_copy_0_g.2.2.2.2.2.1
theorem dX3_copy_10 : decode cX3_copy 10 = .ok (.iload_n 2, 1) := dX3_copy_0_g.2.2.2.2.2.2.1
theorem dX3_copy_11 : decode cX3_copy 11 = .ok (.aload_n 0, 1) := dX3_copy_0_g.2.2.2.2.2.2.2.1
theorem dX3_copy_12 : decode cX3_copy 12 = .ok (.getfield 15, 3) := dX3_copy_0_g.2.2.2.2.2.2.2.2.1
theorem dX3_copy_15 : decode cX3_copy 15 = .ok (.if_icmp .ge 30, 3) := dX3_copy_0_g.2.2.2.2.2.2.2.2.2.1
theorem dX3_copy_18 : decode cX3_copy 18 = .ok (.iload_n 2, 1) := dX3_copy_0_g.2.2.2.2.2.2.2.2.2.2.1
theorem dX3_copy_19 : decode cX3_copy 19 = .ok (.aload_n 0, 1) := dX3_copy_0_g.2.2.2.2.2.2.2.2.2.2.2.1
theorem dX3_copy_20 : decode cX3_copy 20 = .ok (.getfield 9, 3) := dX3_copy_0_g.2.2.2.2.2.2.2.2.2.2.2.2.1
theorem dX3_copy_23 : decode cX3_copy 23 = .ok (.arraylength, 1) := dX3_copy_0_g.2.2.2.2.2.2.2.2.2.2.2.2.2.1
theorem dX3_copy_24 : decode cX3_copy 24 = .ok (.if_icmp .ge 21, 3) := dX3_copy_0_g.2.2.2.2.2.2.2.2.2.2.2.2.2.2.1
theorem dX3_copy_27 : decode cX3_copy 27 = .ok (.aload_n 0, 1) := dX3_copy_0_g.2.2.2.2.2.2.2.2.2.2.2.2.2.2.2
theorem dX3_copy_28_g : (decode cX3_copy 28 = .ok (.getfield 9, 3)) ∧ (decode cX3_copy 31 = .ok (.iload_n 2, 1)) ∧ (decode cX3_copy 32 = .ok (.aload_n 1, 1)) ∧ (decode cX3_copy 33 = .ok (.getfield 9, 3)) ∧ (decode cX3_copy 36 = .ok (.iload_n 2, 1)) ∧ (decode cX3_copy 37 = .ok (.iaload, 1)) ∧ (decode cX3_copy 38 = .ok (.iastore, 1)) ∧ (decode cX3_copy 39 = .ok (.iinc 2 1, 3)) ∧ (decode cX3_copy 42 = .ok (.goto (-32), 3)) ∧ (decode cX3_copy 45 = .ok (.return_, 1)) := by decide +kernel
theorem dX3_copy_28 : decode cX3_copy 28 = .ok (.getfield 9, 3) := dX3_copy_28_g.1
theorem dX3_copy_31 : decode cX3_copy 31 = .ok (.iload_n 2, 1) := dX3_copy_28_g.2.1
theorem dX3_copy_32 : decode cX3_copy 32 = .ok (.aload_n 1, 1) := dX3_copy_28_g.2.2.1
theorem dX3_copy_33 : decode cX3_copy 33 = .ok (.getfield 9, 3) := dX3_copy_28_g.2.2.2.1
theorem dX3_copy_36 : decode cX3_copy 36 = .ok (.iload_n 2, 1) := dX3_copy_28_g.2.2.2.2.1
theorem dX3_copy_37 : decode cX3_copy 37 = .ok (.iaload, 1) := dX3_copy_28_g.2.2.2.2.2.1
theorem dX3_copy_38 : decode cX3_copy 38 = .ok (.iastore, 1) := dX3_copy_28_g.2.2.2.2.2.2.1
theorem dX3_copy_39 : decode cX3_copy 39 = .ok (.iinc 2 1, 3) := dX3_copy_28_g.2.2.2.2.2.2.2.1
theorem dX3_copy_42 : decode cX3_copy 42 = .ok (.goto (-32), 3) := dX3_copy_28_g.2.2.2.2.2.2.2.2.1
theorem dX3_copy_45 : decode cX3_copy 45 = .ok (.return_, 1) := dX3_copy_28_g.2.2.2.2.2.2.2.2.2
theorem dX3_writeTo_0_g : (decode cX3_writeTo 0 = .ok (.aload_n 1, 1)) ∧ (decode cX3_writeTo 1 = .ok (.iconst 0, 1)) ∧ (decode cX3_writeTo 2 = .ok (.invokevirtual 19, 3)) ∧ (decode cX3_writeTo 5 = .ok (.pop, 1)) ∧ (decode cX3_writeTo 6 = .ok (.iconst 0, 1)) ∧ (decode cX3_writeTo 7 = .ok (.istore_n 2, 1)) ∧ (decode cX3_writeTo 8 = .ok (.iload_n 2, 1)) ∧ (decode cX3_writeTo 9 = .ok (.aload_n 0, 1)) ∧ (decode cX3_writeTo 10 = .ok (.getfield 15, 3)) ∧ (decode cX3_writeTo 13 = .ok (.if_icmp .ge 54, 3)) ∧ (decode cX3_writeTo 16 = .ok (.iload_n 2, 1)) ∧ (decode cX3_writeTo 17 = .ok (.aload_n 0, 1)) ∧ (decode cX3_writeTo 18 = .ok (.getfield 9, 3)) ∧ (decode cX3_writeTo 21 = .ok (.arraylength, 1)) ∧ (decode cX3_writeTo 22 = .ok (.if_icmp .ge 45, 3)) ∧ (decode cX3_writeTo 25 = .ok (.aload_n 1, 1)) := by decide +kernel
theorem dX3_writeTo_0 : decode cX3_writeTo 0 = .ok (.aload_n 1, 1) := dX3_writeTo_0_g.1
theorem dX3_writeTo_1 : decode cX3_writeTo 1 = .ok (.iconst 0, 1) := dX3_writeTo_0_g.2.1
theorem dX3_writeTo_2 : decode cX3_writeTo 2 = .ok (.invokevirtual 19, 3) := dX3_writeTo_0_g.2.2.1
theorem dX3_writeTo_5 : decode cX3_writeTo 5 = .ok (.pop, 1) := dX3_writeTo_0_g.2.2.2.1
theorem dX3_writeTo_6 : decode cX3_writeTo 6 = .ok (.iconst 0, 1) := dX3_writeTo_0_g.2.2.2.2.1
theorem dX3_writeTo_7 : decode cX3_writeTo 7 = .ok (.istore_n 2, 1) := dX3_writeTo_0_g.2.2.2.2.2.1
theorem dX3_writeTo_8 : decode cX3_writeTo 8 = .ok (.iload_n 2, 1) := dX3_writeTo_0_g.2.2.2.2.2.2.1
theorem dX3_writeTo_9 : decode cX3_writeTo 9 = .ok (.aload_n 0, 1) := dX3_writeTo_0_g.2.2.2.2.2.2.2.1
theorem dX3_writeTo_10 : decode cX3_writeTo 10 = .ok (.getfield 15, 3) := dX3_writeTo_0_g.2.2.2.2.2.2.2.2.1
theorem dX3_writeTo_13 : decode cX3_writeTo 13 = .ok (.if_icmp .ge 54, 3) := dX3_writeTo_0_g.2.2.2.2.2.2.2.2.2.1
theorem dX3_writeTo_16 : decode cX3_writeTo 16 = .ok (.iload_n 2, 1) := dX3_writeTo_0_g.2.2.2.2.2.2.2.2.2.2.1
theorem dX3_writeTo_17 : decode cX3_writeTo 17 = .ok (.aload_n 0, 1) := dX3_writeTo_0_g.2.2.2.2.2.2.2.2.2.2.2.1
theorem dX3_writeTo_18 : decode cX3_writeTo 18 = .ok (.getfield 9, 3) := dX3_writeTo_0_g.2.2.2.2.2.2.2.2.2.2.2.2.1
theorem dX3_writeTo_21 : decode cX3_writeTo 21 = .ok (.arraylength, 1) := dX3_writeTo_0_g.2.2.2.2.2.2.2.2.2.2.2.2.2.1
theorem dX3_writeTo_22 : decode cX3_writeTo 22 = .ok (.if_icmp .ge 45, 3) := dX3_writeTo_0_g.2.2.2.2.2.2.2.2.2.2.2.2.2.2.1
theorem dX3_writeTo_25 : decode cX3_writeTo 25 = .ok (.aload_n 1, 1) := dX3_writeTo_0_g.2.2.2.2.2.2.2.2.2.2.2.2.2.2.2
theorem dX3_writeTo_26_g : (decode cX3_writeTo 26 = .ok (.aload_n 0, 1)) ∧ (decode cX3_writeTo 27 = .ok (.getfield 9, 3)) ∧ (decode cX3_writeTo 30 = .ok (.iload_n 2, 1)) ∧ (decode cX3_writeTo 31 = .ok (.iaload, 1)) ∧ (decode cX3_writeTo 32 = .ok (.bipush 16, 2)) ∧ (decode cX3_writeTo 34 = .ok (.iushr, 1)) ∧ (decode cX3_writeTo 35 = .ok (.invokevirtual 25, 3)) ∧ (decode cX3_writeTo 38 = .ok (.aload_n 1, 1)) ∧ (decode cX3_writeTo 39 = .ok (.aload_n 0, 1)) ∧ (decode cX3_writeTo 40 = .ok (.getfield 9, 3)) ∧ (decode cX3_writeTo 43 = .ok (.iload_n 2, 1)) ∧ (decode cX3_writeTo 44 = .ok (.iaload, 1)) ∧ (decode cX3_writeTo 45 = .ok (.bipush 8, 2)) ∧ (decode cX3_writeTo 47 = .ok (.iushr, 1)) ∧ (decode cX3_writeTo 48 = .ok (.invokevirtual 25, 3)) ∧ (decode cX3_writeTo 51 = .ok (.aload_n 1, 1)) := by decide +kernel
theorem dX3_writeTo_26 : decode cX3_writeTo 26 = .ok (.aload_n 0, 1) := dX3_writeTo_26_g.1
theorem dX3_writeTo_27 : decode cX3_writeTo 27 = .ok (.getfield 9, 3) := dX3_writeTo_26_g.2.1
theorem dX3_writeTo_30 : decode cX3_writeTo 30 = .ok (.iload_n 2, 1) := dX3_writeTo_26_g.2.2.1
theorem dX3_writeTo_31 : decode cX3_writeTo 31 = .ok (.iaload, 1) := dX3_writeTo_26_g.2.2.2.1
theorem dX3_writeTo_32 : decode cX3_writeTo 32 = .ok (.bipush 16, 2) := dX3_writeTo_26_g.2.2.2.2.1
theorem dX3_writeTo_34 : decode cX3_writeTo 34 = .ok (.iushr, 1) := dX3_writeTo_26_g.2.2.2.2.2.1
theorem dX3_writeTo_35 : decode cX3_writeTo 35 = .ok (.invokevirtual 25, 3) := dX3_writeTo_26_g.2.2.2.2.2.2.1
theorem dX3_writeTo_38 : decode cX3_writeTo 38 = .ok (.aload_n 1, 1) := dX3_writeTo_26_g.2.2.2.2.2.2.2.1
theorem dX3_writeTo_39 : decode cX3_writeTo 39 = .ok (.aload_n 0, 1) := dX3_writeTo_26_g.2.2.2.2.2.2.2.2.1
theorem dX3_writeTo_40 : decode cX3_writeTo 40 = .ok (.getfield 9, 3) := dX3_writeTo_26_g.2.2.2.2.2.2.2.2.2.1
theorem dX3_writeTo_43 : decode cX3_writeTo 43 = .ok (.iload_n 2, 1) := dX3_writeTo_26_g.2.2.2.2.2.2.2.2.2.2.1
theorem dX3_writeTo_44 : decode cX3_writeTo 44 = .ok (.iaload, 1) := dX3_writeTo_26_g.2.2.2.2.2.2.2.2.2.2.2.1
theorem dX3_writeTo_45 : decode cX3_writeTo 45 = .ok (.bipush 8, 2) := dX3_writeTo_26_g.2.2.2.2.2.2.2.2.2.2.2.2.1
theorem dX3_writeTo_47 : decode cX3_writeTo 47 = .ok (.iushr, 1) := dX3_writeTo_26_g.2.2.2.2.2.2.2.2.2.2.2.2.2.1
theorem dX3_writeTo_48 : decode cX3_writeTo 48 = .ok (.invokevirtual 25, 3) := dX3_writeTo_26_g.2.2.2.2.2.2.2.2.2.2.2.2.2.2.1
theorem dX3_writeTo_51 : decode cX3_writeTo 51 = .ok (.aload_n 1, 1) := dX3_writeTo_26_g.2.2.2.2.2.2.2.2.2.2.2.2.2.2.2
theorem dX3_writeTo_52_g : (decode cX3_writeTo 52 = .ok (.aload_n 0, 1)) ∧ (decode cX3_writeTo 53 = .ok (.getfield 9, 3)) ∧ (decode cX3_writeTo 56 = .ok (.iload_n 2, 1)) ∧ (decode cX3_writeTo 57 = .ok (.iaload, 1)) ∧ (decode cX3_writeTo 58 = .ok (.invokevirtual 25, 3)) ∧ (decode cX3_writeTo 61 = .ok (.iinc 2 1, 3)) ∧ (decode cX3_writeTo 64 = .ok (.goto (-56), 3)) ∧ (decode cX3_writeTo 67 = .ok (.return_, 1)) := by decide +kernel
theorem dX3_writeTo_52 : decode cX3_writeTo 52 = .ok (.aload_n 0, 1) := dX3_writeTo_52_g.1
theorem dX3_writeTo_53 : decode cX3_writeTo 53 = .ok (.getfield 9, 3) := dX3_writeTo_52_g.2.1
theorem dX3_writeTo_56 : decode cX3_writeTo 56 = .ok (.iload_n 2, 1) := dX3_writeTo_52_g.2.2.1
theorem dX3_writeTo_57 : decode cX3_writeTo 57 = .ok (.iaload, 1) := dX3_writeTo_52_g.2.2.2.1
theorem dX3_writeTo_58 : decode cX3_writeTo 58 = .ok (.invokevirtual 25, 3) := dX3_writeTo_52_g.2.2.2.2.1
theorem dX3_writeTo_61 : decode cX3_writeTo 61 = .ok (.iinc 2 1, 3) := dX3_writeTo_52_g.2.2.2.2.2.1
theorem dX3_writeTo_64 : decode cX3_writeTo 64 = .ok (.goto (-56), 3) := dX3_writeTo_52_g.2.2.2.2.2.2.1
theorem dX3_writeTo_67 : decode cX3_writeTo 67 = .ok (.return_, 1) := dX3_writeTo_52_g.2.2.2.2.2.2.2
theorem dX6_init_0_g : (decode cX6_init 0 = .ok (.aload_n 0, 1)) ∧ (decode cX6_init 1 = .ok (.invokespecial 3, 3)) ∧ (decode cX6_init 4 = .ok (.aload_n 0, 1)) ∧ (decode cX6_init 5 = .ok (.iload_n 1, 1)) ∧ (decode cX6_init 6 = .ok (.iconst 0, 1)) ∧ (decode cX6_init 7 = .ok (.invokestatic 9, 3)) ∧ (decode cX6_init 10 = .ok (.iconst 5, 1)) ∧ (decode cX6_init 11 = .ok (.imul, 1)) ∧ (decode cX6_init 12 = .ok (.newarray .long, 2)) ∧ (decode cX6_init 14 = .ok (.putfield 17, 3)) ∧ (decode cX6_init 17 = .ok (.return_, 1)) := by decide +kernel
theorem dX6_init_0 : decode cX6_init 0 = .ok (.aload_n 0, 1) := dX6_init_0_g.1
theorem dX6_init_1 : decode cX6_init 1 = .ok (.invokespecial 3, 3) := dX6_init_0_g.2.1
theorem dX6_init_4 : decode cX6_init 4 = .ok (.aload_n 0, 1) := dX6_init_0_g.2.2.1
theorem dX6_init_5 : decode cX6_init 5 = .ok (.iload_n 1, 1) := dX6_init_0_g.2.2.2.1
theorem dX6_init_6 : decode cX6_init 6 = .ok (.iconst 0, 1) := dX6_init_0_g.2.2.2.2.1
theorem dX6_init_7 : decode cX6_init 7 = .ok (.invokestatic 9, 3) := dX6_init_0_g.2.2.2.2.2.1
theorem dX6_init_10 : decode cX6_init 10 = .ok (.iconst 5, 1) := dX6_init_0_g.2.2.2.2.2.2.1
theorem dX6_init_11 : decode cX6_init 11 = .ok (.imul, 1) := dX6_init_0_g.2.2.2.2.2.2.2.1
theorem dX6_init_12 : decode cX6_init 12 = .ok (.newarray .long, 2) := dX6_init_0_g.2.2.2.2.2.2.2.2.1
theorem dX6_init_14 : decode cX6_init 14 = .ok (.putfield 17, 3) := dX6_init_0_g.2.2.2.2.2.2.2.2.2.1
theorem dX6_init_17 : decode cX6_init 17 = .ok (.return_, 1) := dX6_init_0_g.2.2.2.2.2.2.2.2.2.2
theorem dX6_has_0_g : (decode cX6_has 0 = .ok (.aload_n 0, 1)) ∧ (decode cX6_has 1 = .ok (.iload_n 1, 1)) ∧ (decode cX6_has 2 = .ok (.iload_n 2, 1)) ∧ (decode cX6_has 3 = .ok (.invokevirtual 21, 3)) ∧ (decode cX6_has 6 = .ok (.ifCond .eq 32, 3)) ∧ (decode cX6_has 9 = .ok (.aload_n 0, 1)) ∧ (decode cX6_has 10 = .ok (.getfield 17, 3)) ∧ (decode cX6_has 13 = .ok (.iload_n 1, 1)) ∧ (decode cX6_has 14 = .ok (.iconst 5, 1)) ∧ (decode cX6_has 15 = .ok (.imul, 1)) ∧ (decode cX6_has 16 = .ok (.iload_n 2, 1)) ∧ (decode cX6_has 17 = .ok (.bipush 6, 2)) ∧ (decode cX6_has 19 = .ok (.ishr, 1)) ∧ (decode cX6_has 20 = .ok (.iadd, 1)) ∧ (decode cX6_has 21 = .ok (.laload, 1)) ∧ (decode cX6_has 22 = .ok (.iload_n 2, 1)) := by decide +kernel
theorem dX6_has_0 : decode cX6_has 0 = .ok (.aload_n 0, 1) := dX6_has_0_g.1
theorem dX6_has_1 : decode cX6_has 1 = .ok (.iload_n 1, 1) := dX6_has_0_g.2.1
theorem dX6_has_2 : decode cX6_has 2 = .ok (.iload_n 2, 1) := dX6_has_0_g.2.2.1
theorem dX6_has_3 : decode cX6_has 3 = .ok (.invokevirtual 21, 3) := dX6_has_0_g.2.2.2.1
theorem dX6_has_6 : decode cX6_has 6 = .ok (.ifCond .eq 32, 3) := dX6_has_0_g.2.2.2.2.1
theorem dX6_has_9 : decode cX6_has 9 = .ok (.aload_n 0, 1) := dX6_has_0_g.2.2.2.2.2.1
theorem dX6_has_10 : decode cX6_has 10 = .ok (.getfield 17, 3) := dX6_has_0_g.2.2.2.2.2.2.1
theorem dX6_has_13 : decode cX6_has 13 = .ok (.iload_n 1, 1) := dX6_has_0_g.2.2.2.2.2.2.2.1
theorem dX6_has_14 : decode cX6_has 14 = .ok (.iconst 5, 1) := dX6_has_0_g.2.2.2.2.2.2.2.2.1
theorem dX6_has_15 : decode cX6_has 15 = .ok (.imul, 1) := dX6_has_0_g.2.2.2.2.2.2.2.2.2.1
theorem dX6_has_16 : decode cX6_has 16 = .ok (.iload_n 2, 1) := dX6_has_0_g.2.2.2.2.2.2.2.2.2.2.1
theorem dX6_has_17 : decode cX6_has 17 = .ok (.bipush 6, 2) := dX6_has_0_g.2.2.2.2.2.2.2.2.2.2.2.1
theorem dX6_has_19 : decode cX6_has 19 = .ok (.ishr, 1) := dX6_has_0_g.2.2.2.2.2.2.2.2.2.2.2.2.1
theorem dX6_has_20 : decode cX6_has 20 = .ok (.iadd, 1) := dX6_has_0_g.2.2.2.2.2.2.2.2.2.2.2.2.2.1
theorem dX6_has_21 : decode cX6_has 21 = .ok (.laload, 1) := dX6_has_0_g.2.2.2.2.2.2.2.2.2.2.2.2.2.2.1
theorem dX6_has_22 : decode cX6_has 22 = .ok (.iload_n 2, 1) := dX6_has_0_g.2.2.2.2.2.2.2.2.2.2.2.2.2.2.2
theorem dX6_has_23_g : (decode cX6_has 23 = .ok (.bipush 63, 2)) ∧ (decode cX6_has 25 = .ok (.iand, 1)) ∧ (decode cX6_has 26 = .ok (.lushr, 1)) ∧ (decode cX6_has 27 = .ok (.lconst 1, 1)) ∧ (decode cX6_has 28 = .ok (.land, 1)) ∧ (decode cX6_has 29 = .ok (.lconst 0, 1)) ∧ (decode cX6_has 30 = .ok (.lcmp, 1)) ∧ (decode cX6_has 31 = .ok (.ifCond .eq 7, 3)) ∧ (decode cX6_has 34 = .ok (.iconst 1, 1)) ∧ (decode cX6_has 35 = .ok (.goto 4, 3)) ∧ (decode cX6_has 38 = .ok (.iconst 0, 1)) ∧ (decode cX6_has 39 = .ok (.ireturn, 1)) := by decide +kernel
theorem dX6_has_23 : decode cX6_has 23 = .ok (.bipush 63, 2) := dX6_has_23_g.1
theorem dX6_has_25 : decode cX6_has 25 = .ok (.iand, 1) := dX6_has_23_g.2.1
theorem dX6_has_26 : decode cX6_has 26 = .ok (.lushr, 1) := dX6_has_23_g.2.2.1
theorem dX6_has_27 : decode cX6_has 27 = .ok (.lconst 1, 1) := dX6_has_23_g.2.2.2.1
theorem dX6_has_28 : decode cX6_has 28 = .ok (.land, 1) := dX6_has_23_g.2.2.2.2.1
theorem dX6_has_29 : decode cX6_has 29 = .ok (.lconst 0, 1) := dX6_has_23_g.2.2.2.2.2.1
theorem dX6_has_30 : decode cX6_has 30 = .ok (.lcmp, 1) := dX6_has_23_g.2.2.2.2.2.2.1
theorem dX6_has_31 : decode cX6_has 31 = .ok (.ifCond .eq 7, 3) := dX6_has_23_g.2.2.2.2.2.2.2.1
theorem dX6_has_34 : decode cX6_has 34 = .ok (.iconst 1, 1) := dX6_has_23_g.2.2.2.2.2.2.2.2.1
theorem dX6_has_35 : decode cX6_has 35 = .ok (.goto 4, 3) := dX6_has_23_g.2.2.2.2.2.2.2.2.2.1
theorem dX6_has_38 : decode cX6_has 38 = .ok (.iconst 0, 1) := dX6_has_23_g.2.2.2.2.2.2.2.2.2.2.1
theorem dX6_has_39 : decode cX6_has 39 = .ok (.ireturn, 1) := dX6_has_23_g.2.2.2.2.2.2.2.2.2.2.2
theorem dX6_put_0_g : (decode cX6_put 0 = .ok (.aload_n 0, 1)) ∧ (decode cX6_put 1 = .ok (.iload_n 1, 1)) ∧ (decode cX6_put 2 = .ok (.iload_n 2, 1)) ∧ (decode cX6_put 3 = .ok (.invokevirtual 21, 3)) ∧ (decode cX6_put 6 = .ok (.ifCond .eq 25, 3)) ∧ (decode cX6_put 9 = .ok (.aload_n 0, 1)) ∧ (decode cX6_put 10 = .ok (.getfield 17, 3)) ∧ (decode cX6_put 13 = .ok (.iload_n 1, 1)) ∧ (decode cX6_put 14 = .ok (.iconst 5, 1)) ∧ (decode cX6_put 15 = .ok (.imul, 1)) ∧ (decode cX6_put 16 = .ok (.iload_n 2, 1)) ∧ (decode cX6_put 17 = .ok (.bipush 6, 2)) ∧ (decode cX6_put 19 = .ok (.ishr, 1)) ∧ (decode cX6_put 20 = .ok (.iadd, 1)) ∧ (decode cX6_put 21 = .ok (.dup2, 1)) ∧ (decode cX6_put 22 = .ok (.laload, 1)) := by decide +kernel
theorem dX6_put_0 : decode cX6_put 0 = .ok (.aload_n 0, 1) := dX6_put_0_g.1
theorem dX6_put_1 : decode cX6_put 1 = .ok (.iload_n 1, 1) := dX6_put_0_g.2.1
theorem dX6_put_2 : decode cX6_put 2 = .ok (.iload_n 2, 1) := dX6_put_0_g.2.2.1
theorem dX6_put_3 : decode cX6_put 3 = .ok (.invokevirtual 21, 3) := dX6_put_0_g.2.2.2.1
theorem dX6_put_6 : decode cX6_put 6 = .ok (.ifCond .eq 25, 3) := dX6_put_0_g.2.2.2.2.1
theorem dX6_put_9 : decode cX6_put 9 = .ok (.aload_n 0, 1) := dX6_put_0_g.2.2.2.2.2.1
theorem dX6_put_10 : decode cX6_put 10 = .ok (.getfield 17, 3) := dX6_put_0_g.2.2.2.2.2.2.1
theorem dX6_put_13 : decode cX6_put 13 = .ok (.iload_n 1, 1) := dX6_put_0_g.2.2.2.2.2.2.2.1
theorem dX6_put_14 : decode cX6_put 14 = .ok (.iconst 5, 1) := dX6_put_0_g.2.2.2.2.2.2.2.2.1
theorem dX6_put_15 : decode cX6_put 15 = .ok (.imul, 1) := dX6_put_0_g.2.2.2.2.2.2.2.2.2.1
theorem dX6_put_16 : decode cX6_put 16 = .ok (.iload_n 2, 1) := dX6_put_0_g.2.2.2.2.2.2.2.2.2.2.1
theorem dX6_put_17 : decode cX6_put 17 = .ok (.bipush 6, 2) := dX6_put_0_g.2.2.2.2.2.2.2.2.2.2.2.1
theorem dX6_put_19 : decode cX6_put 19 = .ok (.ishr, 1) := dX6_put_0_g.2.2.2.2.2.2.2.2.2.2.2.2.1
theorem dX6_put_20 : decode cX6_put 20 = .ok (.iadd, 1) := dX6_put_0_g.2.2.2.2.2.2.2.2.2.2.2.2.2.1
theorem dX6_put_21 : decode cX6_put 21 = .ok (.dup2, 1) := dX6_put_0_g.2.2.2.2.2.2.2.2.2.2.2.2.2.2.1
theorem dX6_put_22 : decode cX6_put 22 = .ok (.laload, 1) := dX6_put_0_g.2.2.2.2.2.2.2.2.2.2.2.2.2.2.2
theorem dX6_put_23_g : (decode cX6_put 23 = .ok (.lconst 1, 1)) ∧ (decode cX6_put 24 = .ok (.iload_n 2, 1)) ∧ (decode cX6_put 25 = .ok (.bipush 63, 2)) ∧ (decode cX6_put 27 = .ok (.iand, 1)) ∧ (decode cX6_put 28 = .ok (.lshl, 1)) ∧ (decode cX6_put 29 = .ok (.lor, 1)) ∧ (decode cX6_put 30 = .ok (.lastore, 1)) ∧ (decode cX6_put 31 = .ok (.return_, 1)) := by decide +kernel
theorem dX6_put_23 : decode cX6_put 23 = .ok (.lconst 1, 1) := dX6_put_23_g.1
theorem dX6_put_24 : decode cX6_put 24 = .ok (.iload_n 2, 1) := dX6_put_23_g.2.1
theorem dX6_put_25 : decode cX6_put 25 = .ok (.bipush 63, 2) := dX6_put_23_g.2.2.1
theorem dX6_put_27 : decode cX6_put 27 = .ok (.iand, 1) := dX6_put_23_g.2.2.2.1
theorem dX6_put_28 : decode cX6_put 28 = .ok (.lshl, 1) := dX6_put_23_g.2.2.2.2.1
theorem dX6_put_29 : decode cX6_put 29 = .ok (.lor, 1) := dX6_put_23_g.2.2.2.2.2.1
theorem dX6_put_30 : decode cX6_put 30 = .ok (.lastore, 1) := dX6_put_23_g.2.2.2.2.2.2.1
theorem dX6_put_31 : decode cX6_put 31 = .ok (.return_, 1) := dX6_put_23_g.2.2.2.2.2.2.2
theorem dX6_drop_0_g : (decode cX6_drop 0 = .ok (.aload_n 0, 1)) ∧ (decode cX6_drop 1 = .ok (.iload_n 1, 1)) ∧ (decode cX6_drop 2 = .ok (.iload_n 2, 1)) ∧ (decode cX6_drop 3 = .ok (.invokevirtual 21, 3)) ∧ (decode cX6_drop 6 = .ok (.ifCond .eq 29, 3)) ∧ (decode cX6_drop 9 = .ok (.aload_n 0, 1)) ∧ (decode cX6_drop 10 = .ok (.getfield 17, 3)) ∧ (decode cX6_drop 13 = .ok (.iload_n 1, 1)) ∧ (decode cX6_drop 14 = .ok (.iconst 5, 1)) ∧ (decode cX6_drop 15 = .ok (.imul, 1)) ∧ (decode cX6_drop 16 = .ok (.iload_n 2, 1)) ∧ (decode cX6_drop 17 = .ok (.bipush 6, 2)) ∧ (decode cX6_drop 19 = .ok (.ishr, 1)) ∧ (decode cX6_drop 20 = .ok (.iadd, 1)) ∧ (decode cX6_drop 21 = .ok (.dup2, 1)) ∧ (decode cX6_drop 22 = .ok (.laload, 1)) := by decide +kernel
theorem dX6_drop_0 : decode cX6_drop 0 = .ok (.aload_n 0, 1) := dX6_drop_0_g.1
theorem dX6_drop_1 : decode cX6_drop 1 = .ok (.iload_n 1, 1) := dX6_drop_0_g.2.1
theorem dX6_drop_2 : decode cX6_drop 2 = .ok (.iload_n 2, 1) := dX6_drop_0_g.2.2.1
theorem dX6_drop_3 : decode cX6_drop 3 = .ok (.invokevirtual 21, 3) := dX6_drop_0_g.2.2.2.1
theorem dX6_drop_6 : decode cX6_drop 6 = .ok (.ifCond .eq 29, 3) := dX6_drop_0_g.2.2.2.2.1
theorem dX6_drop_9 : decode cX6_drop 9 = .ok (.aload_n 0, 1) := dX6_drop_0_g.2.2.2.2.2.1
theorem dX6_drop_10 : decode cX6_drop 10 = .ok (.getfield 17, 3) := dX6_drop_0_g.2.2.2.2.2.2.1
theorem dX6_drop_13 : decode cX6_drop 13 = .ok (.iload_n 1, 1) := dX6_drop_0_g.2.2.2.2.2.2.2.1
theorem dX6_drop_14 : decode cX6_drop 14 = .ok (.iconst 5, 1) := dX6_drop_0_g.2.2.2.2.2.2.2.2.1
theorem dX6_drop_15 : decode cX6_drop 15 = .ok (.imul, 1) := dX6_drop_0_g.2.2.2.2.2.2.2.2.2.1
theorem dX6_drop_16 : decode cX6_drop 16 = .ok (.iload_n 2, 1) := dX6_drop_0_g.2.2.2.2.2.2.2.2.2.2.1
theorem dX6_drop_17 : decode cX6_drop 17 = .ok (.bipush 6, 2) := dX6_drop_0_g.2.2.2.2.2.2.2.2.2.2.2.1
theorem dX6_drop_19 : decode cX6_drop 19 = .ok (.ishr, 1) := dX6_drop_0_g.2.2.2.2.2.2.2.2.2.2.2.2.1
theorem dX6_drop_20 : decode cX6_drop 20 = .ok (.iadd, 1) := dX6_drop_0_g.2.2.2.2.2.2.2.2.2.2.2.2.2.1
theorem dX6_drop_21 : decode cX6_drop 21 = .ok (.dup2, 1) := dX6_drop_0_g.2.2.2.2.2.2.2.2.2.2.2.2.2.2.1
theorem dX6_drop_22 : decode cX6_drop 22 = .ok (.laload, 1) := dX6_drop_0_g.2.2.2.2.2.2.2.2.2.2.2.2.2.2.2
theorem dX6_drop_23_g : (decode cX6_drop 23 = .ok (.lconst 1, 1)) ∧ (decode cX6_drop 24 = .ok (.iload_n 2, 1)) ∧ (decode cX6_drop 25 = .ok (.bipush 63, 2)) ∧ (decode cX6_drop 27 = .ok (.iand, 1)) ∧ (decode cX6_drop 28 = .ok (.lshl, 1)) ∧ (decode cX6_drop 29 = .ok (.ldc2_w 25, 3)) ∧ (decode cX6_drop 32 = .ok (.lxor, 1)) ∧ (decode cX6_drop 33 = .ok (.land, 1)) ∧ (decode cX6_drop 34 = .ok (.lastore, 1)) ∧ (decode cX6_drop 35 = .ok (.return_, 1)) := by decide +kernel
theorem dX6_drop_23 : decode cX6_drop 23 = .ok (.lconst 1, 1) := dX6_drop_23_g.1
theorem dX6_drop_24 : decode cX6_drop 24 = .ok (.iload_n 2, 1) := dX6_drop_23_g.2.1
theorem dX6_drop_25 : decode cX6_drop 25 = .ok (.bipush 63, 2) := dX6_drop_23_g.2.2.1
theorem dX6_drop_27 : decode cX6_drop 27 = .ok (.iand, 1) := dX6_drop_23_g.2.2.2.1
theorem dX6_drop_28 : decode cX6_drop 28 = .ok (.lshl, 1) := dX6_drop_23_g.2.2.2.2.1
theorem dX6_drop_29 : decode cX6_drop 29 = .ok (.ldc2_w 25, 3) := dX6_drop_23_g.2.2.2.2.2.1
theorem dX6_drop_32 : decode cX6_drop 32 = .ok (.lxor, 1) := dX6_drop_23_g.2.2.2.2.2.2.1
theorem dX6_drop_33 : decode cX6_drop 33 = .ok (.land, 1) := dX6_drop_23_g.2.2.2.2.2.2.2.1
theorem dX6_drop_34 : decode cX6_drop 34 = .ok (.lastore, 1) := dX6_drop_23_g.2.2.2.2.2.2.2.2.1
theorem dX6_drop_35 : decode cX6_drop 35 = .ok (.return_, 1) := dX6_drop_23_g.2.2.2.2.2.2.2.2.2
theorem dX6_bits_0_g : (decode cX6_bits 0 = .ok (.aload_n 0, 1)) ∧ (decode cX6_bits 1 = .ok (.iload_n 1, 1)) ∧ (decode cX6_bits 2 = .ok (.bipush 64, 2)) ∧ (decode cX6_bits 4 = .ok (.iload_n 2, 1)) ∧ (decode cX6_bits 5 = .ok (.imul, 1)) ∧ (decode cX6_bits 6 = .ok (.invokevirtual 21, 3)) ∧ (decode cX6_bits 9 = .ok (.ifCond .eq 16, 3)) ∧ (decode cX6_bits 12 = .ok (.aload_n 0, 1)) ∧ (decode cX6_bits 13 = .ok (.getfield 17, 3)) ∧ (decode cX6_bits 16 = .ok (.iload_n 1, 1)) ∧ (decode cX6_bits 17 = .ok (.iconst 5, 1)) ∧ (decode cX6_bits 18 = .ok (.imul, 1)) ∧ (decode cX6_bits 19 = .ok (.iload_n 2, 1)) ∧ (decode cX6_bits 20 = .ok (.iadd, 1)) ∧ (decode cX6_bits 21 = .ok (.laload, 1)) ∧ (decode cX6_bits 22 = .ok (.goto 4, 3)) := by decide +kernel
theorem dX6_bits_0 : decode cX6_bits 0 = .ok (.aload_n 0, 1) := dX6_bits_0_g.1
theorem dX6_bits_1 : decode cX6_bits 1 = .ok (.iload_n 1, 1) := dX6_bits_0_g.2.1
theorem dX6_bits_2 : decode cX6_bits 2 = .ok (.bipush 64, 2) := dX6_bits_0_g.2.2.1
theorem dX6_bits_4 : decode cX6_bits 4 = .ok (.iload_n 2, 1) := dX6_bits_0_g.2.2.2.1
theorem dX6_bits_5 : decode cX6_bits 5 = .ok (.imul, 1) := dX6_bits_0_g.2.2.2.2.1
theorem dX6_bits_6 : decode cX6_bits 6 = .ok (.invokevirtual 21, 3) := dX6_bits_0_g.2.2.2.2.2.1
theorem dX6_bits_9 : decode cX6_bits 9 = .ok (.ifCond .eq 16, 3) := dX6_bits_0_g.2.2.2.2.2.2.1
theorem dX6_bits_12 : decode cX6_bits 12 = .ok (.aload_n 0, 1) := dX6_bits_0_g.2.2.2.2.2.2.2.1
theorem dX6_bits_13 : decode cX6_bits 13 = .ok (.getfield 17, 3) := dX6_bits_0_g.2.2.2.2.2.2.2.2.1
theorem dX6_bits_16 : decode cX6_bits 16 = .ok (.iload_n 1, 1) := dX6_bits_0_g.2.2.2.2.2.2.2.2.2.1
theorem dX6_bits_17 : decode cX6_bits 17 = .ok (.iconst 5, 1) := dX6_bits_0_g.2.2.2.2.2.2.2.2.2.2.1
theorem dX6_bits_18 : decode cX6_bits 18 = .ok (.imul, 1) := dX6_bits_0_g.2.2.2.2.2.2.2.2.2.2.2.1
theorem dX6_bits_19 : decode cX6_bits 19 = .ok (.iload_n 2, 1) := dX6_bits_0_g.2.2.2.2.2.2.2.2.2.2.2.2.1
theorem dX6_bits_20 : decode cX6_bits 20 = .ok (.iadd, 1) := dX6_bits_0_g.2.2.2.2.2.2.2.2.2.2.2.2.2.1
theorem dX6_bits_21 : decode cX6_bits 21 = .ok (.laload, 1) := dX6_bits_0_g.2.2.2.2.2.2.2.2.2.2.2.2.2.2.1
theorem dX6_bits_22 : decode cX6_bits 22 = .ok (.goto 4, 3) := dX6_bits_0_g.2.2.2.2.2.2.2.2.2.2.2.2.2.2.2
theorem dX6_bits_25_g : (decode cX6_bits 25 = .ok (.lconst 0, 1)) ∧ (decode cX6_bits 26 = .ok (.lreturn, 1)) := by decide +kernel
theorem dX6_bits_25 : decode cX6_bits 25 = .ok (.lconst 0, 1) := dX6_bits_25_g.1
theorem dX6_bits_26 : decode cX6_bits 26 = .ok (.lreturn, 1) := dX6_bits_25_g.2
theorem dX6_empty_0_g : (decode cX6_empty 0 = .ok (.iconst 0, 1)) ∧ (decode cX6_empty 1 = .ok (.istore_n 2, 1)) ∧ (decode cX6_empty 2 = .ok (.iload_n 2, 1)) ∧ (decode cX6_empty 3 = .ok (.iconst 5, 1)) ∧ (decode cX6_empty 4 = .ok (.if_icmp .ge 29, 3)) ∧ (decode cX6_empty 7 = .ok (.aload_n 0, 1)) ∧ (decode cX6_empty 8 = .ok (.iload_n 1, 1)) ∧ (decode cX6_empty 9 = .ok (.iconst 0, 1)) ∧ (decode cX6_empty 10 = .ok (.invokevirtual 21, 3)) ∧ (decode cX6_empty 13 = .ok (.ifCond .eq 20, 3)) ∧ (decode cX6_empty 16 = .ok (.aload_n 0, 1)) ∧ (decode cX6_empty 17 = .ok (.getfield 17, 3)) ∧ (decode cX6_empty 20 = .ok (.iload_n 1, 1)) ∧ (decode cX6_empty 21 = .ok (.iconst 5, 1)) ∧ (decode cX6_empty 22 = .ok (.imul, 1)) ∧ (decode cX6_empty 23 = .ok (.iload_n 2, 1)) := by decide +kernel
theorem dX6_empty_0 : decode cX6_empty 0 = .ok (.iconst 0, 1) := dX6_empty_0_g.1
theorem dX6_empty_1 : decode cX6_empty 1 = .ok (.istore_n 2, 1) := dX6_empty_0_g.2.1
theorem dX6_empty_2 : decode cX6_empty 2 = .ok (.iload_n 2, 1) := dX6_empty_0_g.2.2.1
theorem dX6_empty_3 : decode cX6_empty 3 = .ok (.iconst 5, 1) := dX6_empty_0_g.2.2.2.1
theorem dX6_empty_4 : decode cX6_empty 4 = .ok (.if_icmp .ge 29, 3) := dX6_empty_0_g.2.2.2.2.1
theorem dX6_empty_7 : decode cX6_empty 7 = .ok (.aload_n 0, 1) := dX6_empty_0_g.2.2.2.2.2.1
theorem dX6_empty_8 : decode cX6_empty 8 = .ok (.iload_n 1, 1) := dX6_empty_0_g.2.2.2.2.2.2.1
theorem dX6_empty_9 : decode cX6_empty 9 = .ok (.iconst 0, 1) := dX6_empty_0_g.2.2.2.2.2.2.2.1
theorem dX6_empty_10 : decode cX6_empty 10 = .ok (.invokevirtual 21, 3) := dX6_empty_0_g.2.2.2.2.2.2.2.2.1
theorem dX6_empty_13 : decode cX6_empty 13 = .ok (.ifCond .eq 20, 3) := dX6_empty_0_g.2.2.2.2.2.2.2.2.2.1
theorem dX6_empty_16 : decode cX6_empty 16 = .ok (.aload_n 0, 1) := dX6_empty_0_g.2.2.2.2.2.2.2.2.2.2.1
theorem dX6_empty_17 : decode cX6_empty 17 = .ok (.getfield 17, 3) := dX6_empty_0_g.2.2.2.2.2.2.2.2.2.2.2.1
theorem dX6_empty_20 : decode cX6_empty 20 = .ok (.iload_n 1, 1) := dX6_empty_0_g.2.2.2.2.2.2.2.2.2.2.2.2.1
theorem dX6_empty_21 : decode cX6_empty 21 = .ok (.iconst 5, 1) := dX6_empty_0_g.2.2.2.2.2.2.2.2.2.2.2.2.2.1
theorem dX6_empty_22 : decode cX6_empty 22 = .ok (.imul, 1) := dX6_empty_0_g.2.2.2.2.2.2.2.2.2.2.2.2.2.2.1
theorem dX6_empty_23 : decode cX6_empty 23 = .ok (.iload_n 2, 1) := dX6_empty_0_g.2.2.2.2.2.2.2.2.2.2.2.2.2.2.2
theorem dX6_empty_24_g : (decode cX6_empty 24 = .ok (.iadd, 1)) ∧ (decode cX6_empty 25 = .ok (.lconst 0, 1)) ∧ (decode cX6_empty 26 = .ok (.lastore, 1)) ∧ (decode cX6_empty 27 = .ok (.iinc 2 1, 3)) ∧ (decode cX6_empty 30 = .ok (.goto (-28), 3)) ∧ (decode cX6_empty 33 = .ok (.return_, 1)) := by decide +kernel
theorem dX6_empty_24 : decode cX6_empty 24 = .ok (.iadd, 1) := dX6_empty_24_g.1
theorem dX6_empty_25 : decode cX6_empty 25 = .ok (.lconst 0, 1) := dX6_empty_24_g.2.1
theorem dX6_empty_26 : decode cX6_empty 26 = .ok (.lastore, 1) := dX6_empty_24_g.2.2.1
theorem dX6_empty_27 : decode cX6_empty 27 = .ok (.iinc 2 1, 3) := dX6_empty_24_g.2.2.2.1
theorem dX6_empty_30 : decode cX6_empty 30 = .ok (.goto (-28), 3) := dX6_empty_24_g.2.2.2.2.1
theorem dX6_empty_33 : decode cX6_empty 33 = .ok (.return_, 1) := dX6_empty_24_g.2.2.2.2.2
theorem dX6_copy_0_g : (decode cX6_copy 0 = .ok (.aload_n 0, 1)) ∧ (decode cX6_copy 1 = .ok (.iload_n 1, 1)) ∧ (decode cX6_copy 2 = .ok (.iconst 0, 1)) ∧ (decode cX6_copy 3 = .ok (.invokevirtual 21, 3)) ∧ (decode cX6_copy 6 = .ok (.ifCond .eq 16, 3)) ∧ (decode cX6_copy 9 = .ok (.aload_n 2, 1)) ∧ (decode cX6_copy 10 = .ok (.iload_n 3, 1)) ∧ (decode cX6_copy 11 = .ok (.iconst 0, 1)) ∧ (decode cX6_copy 12 = .ok (.invokevirtual 21, 3)) ∧ (decode cX6_copy 15 = .ok (.ifCond .eq 7, 3)) ∧ (decode cX6_copy 18 = .ok (.iconst 1, 1)) ∧ (decode cX6_copy 19 = .ok (.goto 4, 3)) ∧ (decode cX6_copy 22 = .ok (.iconst 0, 1)) ∧ (decode cX6_copy 23 = .ok (.istore 4, 2)) ∧ (decode cX6_copy 25 = .ok (.iconst 0, 1)) ∧ (decode cX6_copy 26 = .ok (.istore 5, 2)) := by decide +kernel
theorem dX6_copy_0 : decode cX6_copy 0 = .ok (.aload_n 0, 1) := dX6_copy_0_g.1
theorem dX6_copy_1 : decode cX6_copy 1 = .ok (.iload_n 1, 1) := dX6_copy_0_g.2.1
theorem dX6_copy_2 : decode cX6_copy 2 = .ok (.iconst 0, 1) := dX6_copy_0_g.2.2.1
theorem dX6_copy_3 : decode cX6_copy 3 = .ok (.invokevirtual 21, 3) := dX6_copy_0_g.2.2.2.1
theorem dX6_copy_6 : decode cX6_copy 6 = .ok (.ifCond .eq 16, 3) := dX6_copy_0_g.2.2.2.2.1
theorem dX6_copy_9 : decode cX6_copy 9 = .ok (.aload_n 2, 1) := dX6_copy_0_g.2.2.2.2.2.1
theorem dX6_copy_10 : decode cX6_copy 10 = .ok (.iload_n 3, 1) := dX6_copy_0_g.2.2.2.2.2.2.1
theorem dX6_copy_11 : decode cX6_copy 11 = .ok (.iconst 0, 1) := dX6_copy_0_g.2.2.2.2.2.2.2.1
theorem dX6_copy_12 : decode cX6_copy 12 = .ok (.invokevirtual 21, 3) := dX6_copy_0_g.2.2.2.2.2.2.2.2.1
theorem dX6_copy_15 : decode cX6_copy 15 = .ok (.ifCond .eq 7, 3) := dX6_copy_0_g.2.2.2.2.2.2.2.2.2.1
theorem dX6_copy_18 : decode cX6_copy 18 = .ok (.iconst 1, 1) := dX6_copy_0_g.2.2.2.2.2.2.2.2.2.2.1
theorem dX6_copy_19 : decode cX6_copy 19 = .ok (.goto 4, 3) := dX6_copy_0_g.2.2.2.2.2.2.2.2.2.2.2.1
theorem dX6_copy_22 : decode cX6_copy 22 = .ok (.iconst 0, 1) := dX6_copy_0_g.2.2.2.2.2.2.2.2.2.2.2.2.1
theorem dX6_copy_23 : decode cX6_copy 23 = .ok (.istore 4, 2) := dX6_copy_0_g.2.2.2.2.2.2.2.2.2.2.2.2.2.1
theorem dX6_copy_25 : decode cX6_copy 25 = .ok (.iconst 0, 1) := dX6_copy_0_g.2.2.2.2.2.2.2.2.2.2.2.2.2.2.1
theorem dX6_copy_26 : decode cX6_copy 26 = .ok (.istore 5, 2) := dX6_copy_0_g.2.2.2.2.2.2.2.2.2.2.2.2.2.2.2
theorem dX6_copy_28_g : (decode cX6_copy 28 = .ok (.iload 5, 2)) ∧ (decode cX6_copy 30 = .ok (.iconst 5, 1)) ∧ (decode cX6_copy 31 = .ok (.if_icmp .ge 36, 3)) ∧ (decode cX6_copy 34 = .ok (.iload 4, 2)) ∧ (decode cX6_copy 36 = .ok (.ifCond .eq 31, 3)) ∧ (decode cX6_copy 39 = .ok (.aload_n 0, 1)) ∧ (decode cX6_copy 40 = .ok (.getfield 17, 3)) ∧ (decode cX6_copy 43 = .ok (.iload_n 1, 1)) ∧ (decode cX6_copy 44 = .ok (.iconst 5, 1)) ∧ (decode cX6_copy 45 = .ok (.imul, 1)) ∧ (decode cX6_copy 46 = .ok (.iload 5, 2)) ∧ (decode cX6_copy 48 = .ok (.iadd, 1)) ∧ (decode cX6_copy 49 = .ok (.aload_n 2, 1)) ∧ (decode cX6_copy 50 = .ok (.getfield 17, 3)) ∧ (decode cX6_copy 53 = .ok (.iload_n 3, 1)) ∧ (decode cX6_copy 54 = .ok (.iconst 5, 1)) := by decide +kernel
theorem dX6_copy_28 : decode cX6_copy 28 = .ok (.iload 5, 2) := dX6_copy_28_g.1
theorem dX6_copy_30 : decode cX6_copy 30 = .ok (.iconst 5, 1) := dX6_copy_28_g.2.1
theorem dX6_copy_31 : decode cX6_copy 31 = .ok (.if_icmp .ge 36, 3) := dX6_copy_28_g.2.2.1
theorem dX6_copy_34 : decode cX6_copy 34 = .ok (.iload 4, 2) := dX6_copy_28_g.2.2.2.1
theorem dX6_copy_36 : decode cX6_copy 36 = .ok (.ifCond .eq 31, 3) := dX6_copy_28_g.2.2.2.2.1
theorem dX6_copy_39 : decode cX6_copy 39 = .ok (.aload_n 0, 1) := dX6_copy_28_g.2.2.2.2.2.1
theorem dX6_copy_40 : decode cX6_copy 40 = .ok (.getfield 17, 3) := dX6_copy_28_g.2.2.2.2.2.2.1
theorem dX6_copy_43 : decode cX6_copy 43 = .ok (.iload_n 1, 1) := dX6_copy_28_g.2.2.2.2.2.2.2.1
theorem dX6_copy_44 : decode cX6_copy 44 = .ok (.iconst 5, 1) := dX6_copy_28_g.2.2.2.2.2.2.2.2.1
theorem dX6_copy_45 : decode cX6_copy 45 = .ok (.imul, 1) := dX6_copy_28_g.2.2.2.2.2.2.2.2.2.1
theorem dX6_copy_46 : decode cX6_copy 46 = .ok (.iload 5, 2) := dX6_copy_28_g.2.2.2.2.2.2.2.2.2.2.1
theorem dX6_copy_48 : decode cX6_copy 48 = .ok (.iadd, 1) := dX6_copy_28_g.2.2.2.2.2.2.2.2.2.2.2.1
theorem dX6_copy_49 : decode cX6_copy 49 = .ok (.aload_n 2, 1) := dX6_copy_28_g.2.2.2.2.2.2.2.2.2.2.2.2.1
theorem dX6_copy_50 : decode cX6_copy 50 = .ok (.getfield 17, 3) := dX6_copy_28_g.2.2.2.2.2.2.2.2.2.2.2.2.2.1
theorem dX6_copy_53 : decode cX6_copy 53 = .ok (.iload_n 3, 1) := dX6_copy_28_g.2.2.2.2.2.2.2.2.2.2.2.2.2.2.1
theorem dX6_copy_54 : decode cX6_copy 54 = .ok (.iconst 5, 1) := dX6_copy_28_g.2.2.2.2.2.2.2.2.2.2.2.2.2.2.2
theorem dX6_copy_55_g : (decode cX6_copy 55 = .ok (.imul, 1)) ∧ (decode cX6_copy 56 = .ok (.iload 5, 2)) ∧ (decode cX6_copy 58 = .ok (.iadd, 1)) ∧ (decode cX6_copy 59 = .ok (.laload, 1)) ∧ (decode cX6_copy 60 = .ok (.lastore, 1)) ∧ (decode cX6_copy 61 = .ok (.iinc 5 1, 3)) ∧ (decode cX6_copy 64 = .ok (.goto (-36), 3)) ∧ (decode cX6_copy 67 = .ok (.return_, 1)) := by decide +kernel
theorem dX6_copy_55 : decode cX6_copy 55 = .ok (.imul, 1) := dX6_copy_55_g.1
theorem dX6_copy_56 : decode cX6_copy 56 = .ok (.iload 5, 2) := dX6_copy_55_g.2.1
theorem dX6_copy_58 : decode cX6_copy 58 = .ok (.iadd, 1) := dX6_copy_55_g.2.2.1
theorem dX6_copy_59 : decode cX6_copy 59 = .ok (.laload, 1) := dX6_copy_55_g.2.2.2.1
theorem dX6_copy_60 : decode cX6_copy 60 = .ok (.lastore, 1) := dX6_copy_55_g.2.2.2.2.1
theorem dX6_copy_61 : decode cX6_copy 61 = .ok (.iinc 5 1, 3) := dX6_copy_55_g.2.2.2.2.2.1
theorem dX6_copy_64 : decode cX6_copy 64 = .ok (.goto (-36), 3) := dX6_copy_55_g.2.2.2.2.2.2.1
theorem dX6_copy_67 : decode cX6_copy 67 = .ok (.return_, 1) := dX6_copy_55_g.2.2.2.2.2.2.2
theorem dX6_meet_0_g : (decode cX6_meet 0 = .ok (.aload_n 0, 1)) ∧ (decode cX6_meet 1 = .ok (.iload_n 1, 1)) ∧ (decode cX6_meet 2 = .ok (.iconst 0, 1)) ∧ (decode cX6_meet 3 = .ok (.invokevirtual 21, 3)) ∧ (decode cX6_meet 6 = .ok (.ifCond .eq 16, 3)) ∧ (decode cX6_meet 9 = .ok (.aload_n 2, 1)) ∧ (decode cX6_meet 10 = .ok (.iload_n 3, 1)) ∧ (decode cX6_meet 11 = .ok (.iconst 0, 1)) ∧ (decode cX6_meet 12 = .ok (.invokevirtual 21, 3)) ∧ (decode cX6_meet 15 = .ok (.ifCond .eq 7, 3)) ∧ (decode cX6_meet 18 = .ok (.iconst 1, 1)) ∧ (decode cX6_meet 19 = .ok (.goto 4, 3)) ∧ (decode cX6_meet 22 = .ok (.iconst 0, 1)) ∧ (decode cX6_meet 23 = .ok (.istore 4, 2)) ∧ (decode cX6_meet 25 = .ok (.iconst 0, 1)) ∧ (decode cX6_meet 26 = .ok (.istore 5, 2)) := by decide +kernel
theorem dX6_meet_0 : decode cX6_meet 0 = .ok (.aload_n 0, 1) := dX6_meet_0_g.1
theorem dX6_meet_1 : decode cX6_meet 1 = .ok (.iload_n 1, 1) := dX6_meet_0_g.2.1
theorem dX6_meet_2 : decode cX6_meet 2 = .ok (.iconst 0, 1) := dX6_meet_0_g.2.2.1
theorem dX6_meet_3 : decode cX6_meet 3 = .ok (.invokevirtual 21, 3) := dX6_meet_0_g.2.2.2.1
theorem dX6_meet_6 : decode cX6_meet 6 = .ok (.ifCond .eq 16, 3) := dX6_meet_0_g.2.2.2.2.1
theorem dX6_meet_9 : decode cX6_meet 9 = .ok (.aload_n 2, 1) := dX6_meet_0_g.2.2.2.2.2.1
theorem dX6_meet_10 : decode cX6_meet 10 = .ok (.iload_n 3, 1) := dX6_meet_0_g.2.2.2.2.2.2.1
theorem dX6_meet_11 : decode cX6_meet 11 = .ok (.iconst 0, 1) := dX6_meet_0_g.2.2.2.2.2.2.2.1
theorem dX6_meet_12 : decode cX6_meet 12 = .ok (.invokevirtual 21, 3) := dX6_meet_0_g.2.2.2.2.2.2.2.2.1
theorem dX6_meet_15 : decode cX6_meet 15 = .ok (.ifCond .eq 7, 3) := dX6_meet_0_g.2.2.2.2.2.2.2.2.2.1
theorem dX6_meet_18 : decode cX6_meet 18 = .ok (.iconst 1, 1) := dX6_meet_0_g.2.2.2.2.2.2.2.2.2.2.1
theorem dX6_meet_19 : decode cX6_meet 19 = .ok (.goto 4, 3) := dX6_meet_0_g.2.2.2.2.2.2.2.2.2.2.2.1
theorem dX6_meet_22 : decode cX6_meet 22 = .ok (.iconst 0, 1) := dX6_meet_0_g.2.2.2.2.2.2.2.2.2.2.2.2.1
theorem dX6_meet_23 : decode cX6_meet 23 = .ok (.istore 4, 2) := dX6_meet_0_g.2.2.2.2.2.2.2.2.2.2.2.2.2.1
theorem dX6_meet_25 : decode cX6_meet 25 = .ok (.iconst 0, 1) := dX6_meet_0_g.2.2.2.2.2.2.2.2.2.2.2.2.2.2.1
theorem dX6_meet_26 : decode cX6_meet 26 = .ok (.istore 5, 2) := dX6_meet_0_g.2.2.2.2.2.2.2.2.2.2.2.2.2.2.2
theorem dX6_meet_28_g : (decode cX6_meet 28 = .ok (.iload 5, 2)) ∧ (decode cX6_meet 30 = .ok (.iconst 5, 1)) ∧ (decode cX6_meet 31 = .ok (.if_icmp .ge 39, 3)) ∧ (decode cX6_meet 34 = .ok (.iload 4, 2)) ∧ (decode cX6_meet 36 = .ok (.ifCond .eq 34, 3)) ∧ (decode cX6_meet 39 = .ok (.aload_n 0, 1)) ∧ (decode cX6_meet 40 = .ok (.getfield 17, 3)) ∧ (decode cX6_meet 43 = .ok (.iload_n 1, 1)) ∧ (decode cX6_meet 44 = .ok (.iconst 5, 1)) ∧ (decode cX6_meet 45 = .ok (.imul, 1)) ∧ (decode cX6_meet 46 = .ok (.iload 5, 2)) ∧ (decode cX6_meet 48 = .ok (.iadd, 1)) ∧ (decode cX6_meet 49 = .ok (.dup2, 1)) ∧ (decode cX6_meet 50 = .ok (.laload, 1)) ∧ (decode cX6_meet 51 = .ok (.aload_n 2, 1)) ∧ (decode cX6_meet 52 = .ok (.getfield 17, 3)) := by decide +kernel
theorem dX6_meet_28 : decode cX6_meet 28 = .ok (.iload 5, 2) := dX6_meet_28_g.1
theorem dX6_meet_30 : decode cX6_meet 30 = .ok (.iconst 5, 1) := dX6_meet_28_g.2.1
theorem dX6_meet_31 : decode cX6_meet 31 = .ok (.if_icmp .ge 39, 3) := dX6_meet_28_g.2.2.1
theorem dX6_meet_34 : decode cX6_meet 34 = .ok (.iload 4, 2) := dX6_meet_28_g.2.2.2.1
theorem dX6_meet_36 : decode cX6_meet 36 = .ok (.ifCond .eq 34, 3) := dX6_meet_28_g.2.2.2.2.1
theorem dX6_meet_39 : decode cX6_meet 39 = .ok (.aload_n 0, 1) := dX6_meet_28_g.2.2.2.2.2.1
theorem dX6_meet_40 : decode cX6_meet 40 = .ok (.getfield 17, 3) := dX6_meet_28_g.2.2.2.2.2.2.1
theorem dX6_meet_43 : decode cX6_meet 43 = .ok (.iload_n 1, 1) := dX6_meet_28_g.2.2.2.2.2.2.2.1
theorem dX6_meet_44 : decode cX6_meet 44 = .ok (.iconst 5, 1) := dX6_meet_28_g.2.2.2.2.2.2.2.2.1
theorem dX6_meet_45 : decode cX6_meet 45 = .ok (.imul, 1) := dX6_meet_28_g.2.2.2.2.2.2.2.2.2.1
theorem dX6_meet_46 : decode cX6_meet 46 = .ok (.iload 5, 2) := dX6_meet_28_g.2.2.2.2.2.2.2.2.2.2.1
theorem dX6_meet_48 : decode cX6_meet 48 = .ok (.iadd, 1) := dX6_meet_28_g.2.2.2.2.2.2.2.2.2.2.2.1
theorem dX6_meet_49 : decode cX6_meet 49 = .ok (.dup2, 1) := dX6_meet_28_g.2.2.2.2.2.2.2.2.2.2.2.2.1
theorem dX6_meet_50 : decode cX6_meet 50 = .ok (.laload, 1) := dX6_meet_28_g.2.2.2.2.2.2.2.2.2.2.2.2.2.1
theorem dX6_meet_51 : decode cX6_meet 51 = .ok (.aload_n 2, 1) := dX6_meet_28_g.2.2.2.2.2.2.2.2.2.2.2.2.2.2.1
theorem dX6_meet_52 : decode cX6_meet 52 = .ok (.getfield 17, 3) := dX6_meet_28_g.2.2.2.2.2.2.2.2.2.2.2.2.2.2.2
theorem dX6_meet_55_g : (decode cX6_meet 55 = .ok (.iload_n 3, 1)) ∧ (decode cX6_meet 56 = .ok (.iconst 5, 1)) ∧ (decode cX6_meet 57 = .ok (.imul, 1)) ∧ (decode cX6_meet 58 = .ok (.iload 5, 2)) ∧ (decode cX6_meet 60 = .ok (.iadd, 1)) ∧ (decode cX6_meet 61 = .ok (.laload, 1)) ∧ (decode cX6_meet 62 = .ok (.land, 1)) ∧ (decode cX6_meet 63 = .ok (.lastore, 1)) ∧ (decode cX6_meet 64 = .ok (.iinc 5 1, 3)) ∧ (decode cX6_meet 67 = .ok (.goto (-39), 3)) ∧ (decode cX6_meet 70 = .ok (.return_, 1)) := by decide +kernel
theorem dX6_meet_55 : decode cX6_meet 55 = .ok (.iload_n 3, 1) := dX6_meet_55_g.1
theorem dX6_meet_56 : decode cX6_meet 56 = .ok (.iconst 5, 1) := dX6_meet_55_g.2.1
theorem dX6_meet_57 : decode cX6_meet 57 = .ok (.imul, 1) := dX6_meet_55_g.2.2.1
theorem dX6_meet_58 : decode cX6_meet 58 = .ok (.iload 5, 2) := dX6_meet_55_g.2.2.2.1
theorem dX6_meet_60 : decode cX6_meet 60 = .ok (.iadd, 1) := dX6_meet_55_g.2.2.2.2.1
theorem dX6_meet_61 : decode cX6_meet 61 = .ok (.laload, 1) := dX6_meet_55_g.2.2.2.2.2.1
theorem dX6_meet_62 : decode cX6_meet 62 = .ok (.land, 1) := dX6_meet_55_g.2.2.2.2.2.2.1
theorem dX6_meet_63 : decode cX6_meet 63 = .ok (.lastore, 1) := dX6_meet_55_g.2.2.2.2.2.2.2.1
theorem dX6_meet_64 : decode cX6_meet 64 = .ok (.iinc 5 1, 3) := dX6_meet_55_g.2.2.2.2.2.2.2.2.1
theorem dX6_meet_67 : decode cX6_meet 67 = .ok (.goto (-39), 3) := dX6_meet_55_g.2.2.2.2.2.2.2.2.2.1
theorem dX6_meet_70 : decode cX6_meet 70 = .ok (.return_, 1) := dX6_meet_55_g.2.2.2.2.2.2.2.2.2.2
theorem dX6_isSame_0_g : (decode cX6_isSame 0 = .ok (.aload_n 0, 1)) ∧ (decode cX6_isSame 1 = .ok (.iload_n 1, 1)) ∧ (decode cX6_isSame 2 = .ok (.iconst 0, 1)) ∧ (decode cX6_isSame 3 = .ok (.invokevirtual 21, 3)) ∧ (decode cX6_isSame 6 = .ok (.ifCond .eq 16, 3)) ∧ (decode cX6_isSame 9 = .ok (.aload_n 0, 1)) ∧ (decode cX6_isSame 10 = .ok (.iload_n 2, 1)) ∧ (decode cX6_isSame 11 = .ok (.iconst 0, 1)) ∧ (decode cX6_isSame 12 = .ok (.invokevirtual 21, 3)) ∧ (decode cX6_isSame 15 = .ok (.ifCond .eq 7, 3)) ∧ (decode cX6_isSame 18 = .ok (.iconst 1, 1)) ∧ (decode cX6_isSame 19 = .ok (.goto 4, 3)) ∧ (decode cX6_isSame 22 = .ok (.iconst 0, 1)) ∧ (decode cX6_isSame 23 = .ok (.istore_n 3, 1)) ∧ (decode cX6_isSame 24 = .ok (.iconst 0, 1)) ∧ (decode cX6_isSame 25 = .ok (.istore 4, 2)) := by decide +kernel
theorem dX6_isSame_0 : decode cX6_isSame 0 = .ok (.aload_n 0, 1) := dX6_isSame_0_g.1
theorem dX6_isSame_1 : decode cX6_isSame 1 = .ok (.iload_n 1, 1) := dX6_isSame_0_g.2.1
theorem dX6_isSame_2 : decode cX6_isSame 2 = .ok (.iconst 0, 1) := dX6_isSame_0_g.2.2.1
theorem dX6_isSame_3 : decode cX6_isSame 3 = .ok (.invokevirtual 21, 3) := dX6_isSame_0_g.2.2.2.1
theorem dX6_isSame_6 : decode cX6_isSame 6 = .ok (.ifCond .eq 16, 3) := dX6_isSame_0_g.2.2.2.2.1
theorem dX6_isSame_9 : decode cX6_isSame 9 = .ok (.aload_n 0, 1) := dX6_isSame_0_g.2.2.2.2.2.1
theorem dX6_isSame_10 : decode cX6_isSame 10 = .ok (.iload_n 2, 1) := dX6_isSame_0_g.2.2.2.2.2.2.1
theorem dX6_isSame_11 : decode cX6_isSame 11 = .ok (.iconst 0, 1) := dX6_isSame_0_g.2.2.2.2.2.2.2.1
theorem dX6_isSame_12 : decode cX6_isSame 12 = .ok (.invokevirtual 21, 3) := dX6_isSame_0_g.2.2.2.2.2.2.2.2.1
theorem dX6_isSame_15 : decode cX6_isSame 15 = .ok (.ifCond .eq 7, 3) := dX6_isSame_0_g.2.2.2.2.2.2.2.2.2.1
theorem dX6_isSame_18 : decode cX6_isSame 18 = .ok (.iconst 1, 1) := dX6_isSame_0_g.2.2.2.2.2.2.2.2.2.2.1
theorem dX6_isSame_19 : decode cX6_isSame 19 = .ok (.goto 4, 3) := dX6_isSame_0_g.2.2.2.2.2.2.2.2.2.2.2.1
theorem dX6_isSame_22 : decode cX6_isSame 22 = .ok (.iconst 0, 1) := dX6_isSame_0_g.2.2.2.2.2.2.2.2.2.2.2.2.1
theorem dX6_isSame_23 : decode cX6_isSame 23 = .ok (.istore_n 3, 1) := dX6_isSame_0_g.2.2.2.2.2.2.2.2.2.2.2.2.2.1
theorem dX6_isSame_24 : decode cX6_isSame 24 = .ok (.iconst 0, 1) := dX6_isSame_0_g.2.2.2.2.2.2.2.2.2.2.2.2.2.2.1
theorem dX6_isSame_25 : decode cX6_isSame 25 = .ok (.istore 4, 2) := dX6_isSame_0_g.2.2.2.2.2.2.2.2.2.2.2.2.2.2.2
theorem dX6_isSame_27_g : (decode cX6_isSame 27 = .ok (.iload 4, 2)) ∧ (decode cX6_isSame 29 = .ok (.iconst 5, 1)) ∧ (decode cX6_isSame 30 = .ok (.if_icmp .ge 45, 3)) ∧ (decode cX6_isSame 33 = .ok (.iload_n 3, 1)) ∧ (decode cX6_isSame 34 = .ok (.ifCond .eq 41, 3)) ∧ (decode cX6_isSame 37 = .ok (.aload_n 0, 1)) ∧ (decode cX6_isSame 38 = .ok (.getfield 17, 3)) ∧ (decode cX6_isSame 41 = .ok (.iload_n 1, 1)) ∧ (decode cX6_isSame 42 = .ok (.iconst 5, 1)) ∧ (decode cX6_isSame 43 = .ok (.imul, 1)) ∧ (decode cX6_isSame 44 = .ok (.iload 4, 2)) ∧ (decode cX6_isSame 46 = .ok (.iadd, 1)) ∧ (decode cX6_isSame 47 = .ok (.laload, 1)) ∧ (decode cX6_isSame 48 = .ok (.aload_n 0, 1)) ∧ (decode cX6_isSame 49 = .ok (.getfield 17, 3)) ∧ (decode cX6_isSame 52 = .ok (.iload_n 2, 1)) := by decide +kernel
theorem dX6_isSame_27 : decode cX6_isSame 27 = .ok (.iload 4, 2) := dX6_isSame_27_g.1
theorem dX6_isSame_29 : decode cX6_isSame 29 = .ok (.iconst 5, 1) := dX6_isSame_27_g.2.1
theorem dX6_isSame_30 : decode cX6_isSame 30 = .ok (.if_icmp .ge 45, 3) := dX6_isSame_27_g.2.2.1
theorem dX6_isSame_33 : decode cX6_isSame 33 = .ok (.iload_n 3, 1) := dX6_isSame_27_g.2.2.2.1
theorem dX6_isSame_34 : decode cX6_isSame 34 = .ok (.ifCond .eq 41, 3) := dX6_isSame_27_g.2.2.2.2.1
theorem dX6_isSame_37 : decode cX6_isSame 37 = .ok (.aload_n 0, 1) := dX6_isSame_27_g.2.2.2.2.2.1
theorem dX6_isSame_38 : decode cX6_isSame 38 = .ok (.getfield 17, 3) := dX6_isSame_27_g.2.2.2.2.2.2.1
theorem dX6_isSame_41 : decode cX6_isSame 41 = .ok (.iload_n 1, 1) := dX6_isSame_27_g.2.2.2.2.2.2.2.1
theorem dX6_isSame_42 : decode cX6_isSame 42 = .ok (.iconst 5, 1) := dX6_isSame_27_g.2.2.2.2.2.2.2.2.1
theorem dX6_isSame_43 : decode cX6_isSame 43 = .ok (.imul, 1) := dX6_isSame_27_g.2.2.2.2.2.2.2.2.2.1
theorem dX6_isSame_44 : decode cX6_isSame 44 = .ok (.iload 4, 2) := dX6_isSame_27_g.2.2.2.2.2.2.2.2.2.2.1
theorem dX6_isSame_46 : decode cX6_isSame 46 = .ok (.iadd, 1) := dX6_isSame_27_g.2.2.2.2.2.2.2.2.2.2.2.1
theorem dX6_isSame_47 : decode cX6_isSame 47 = .ok (.laload, 1) := dX6_isSame_27_g.2.2.2.2.2.2.2.2.2.2.2.2.1
theorem dX6_isSame_48 : decode cX6_isSame 48 = .ok (.aload_n 0, 1) := dX6_isSame_27_g.2.2.2.2.2.2.2.2.2.2.2.2.2.1
theorem dX6_isSame_49 : decode cX6_isSame 49 = .ok (.getfield 17, 3) := dX6_isSame_27_g.2.2.2.2.2.2.2.2.2.2.2.2.2.2.1
theorem dX6_isSame_52 : decode cX6_isSame 52 = .ok (.iload_n 2, 1) := dX6_isSame_27_g.2.2.2.2.2.2.2.2.2.2.2.2.2.2.2
theorem dX6_isSame_53_g : (decode cX6_isSame 53 = .ok (.iconst 5, 1)) ∧ (decode cX6_isSame 54 = .ok (.imul, 1)) ∧ (decode cX6_isSame 55 = .ok (.iload 4, 2)) ∧ (decode cX6_isSame 57 = .ok (.iadd, 1)) ∧ (decode cX6_isSame 58 = .ok (.laload, 1)) ∧ (decode cX6_isSame 59 = .ok (.lcmp, 1)) ∧ (decode cX6_isSame 60 = .ok (.ifCond .ne 7, 3)) ∧ (decode cX6_isSame 63 = .ok (.iconst 1, 1)) ∧ (decode cX6_isSame 64 = .ok (.goto 4, 3)) ∧ (decode cX6_isSame 67 = .ok (.iconst 0, 1)) ∧ (decode cX6_isSame 68 = .ok (.istore_n 3, 1)) ∧ (decode cX6_isSame 69 = .ok (.iinc 4 1, 3)) ∧ (decode cX6_isSame 72 = .ok (.goto (-45), 3)) ∧ (decode cX6_isSame 75 = .ok (.iload_n 3, 1)) ∧ (decode cX6_isSame 76 = .ok (.ireturn, 1)) := by decide +kernel
theorem dX6_isSame_53 : decode cX6_isSame 53 = .ok (.iconst 5, 1) := dX6_isSame_53_g.1
theorem dX6_isSame_54 : decode cX6_isSame 54 = .ok (.imul, 1) := dX6_isSame_53_g.2.1
theorem dX6_isSame_55 : decode cX6_isSame 55 = .ok (.iload 4, 2) := dX6_isSame_53_g.2.2.1
theorem dX6_isSame_57 : decode cX6_isSame 57 = .ok (.iadd, 1) := dX6_isSame_53_g.2.2.2.1
theorem dX6_isSame_58 : decode cX6_isSame 58 = .ok (.laload, 1) := dX6_isSame_53_g.2.2.2.2.1
theorem dX6_isSame_59 : decode cX6_isSame 59 = .ok (.lcmp, 1) := dX6_isSame_53_g.2.2.2.2.2.1
theorem dX6_isSame_60 : decode cX6_isSame 60 = .ok (.ifCond .ne 7, 3) := dX6_isSame_53_g.2.2.2.2.2.2.1
theorem dX6_isSame_63 : decode cX6_isSame 63 = .ok (.iconst 1, 1) := dX6_isSame_53_g.2.2.2.2.2.2.2.1
theorem dX6_isSame_64 : decode cX6_isSame 64 = .ok (.goto 4, 3) := dX6_isSame_53_g.2.2.2.2.2.2.2.2.1
theorem dX6_isSame_67 : decode cX6_isSame 67 = .ok (.iconst 0, 1) := dX6_isSame_53_g.2.2.2.2.2.2.2.2.2.1
theorem dX6_isSame_68 : decode cX6_isSame 68 = .ok (.istore_n 3, 1) := dX6_isSame_53_g.2.2.2.2.2.2.2.2.2.2.1
theorem dX6_isSame_69 : decode cX6_isSame 69 = .ok (.iinc 4 1, 3) := dX6_isSame_53_g.2.2.2.2.2.2.2.2.2.2.2.1
theorem dX6_isSame_72 : decode cX6_isSame 72 = .ok (.goto (-45), 3) := dX6_isSame_53_g.2.2.2.2.2.2.2.2.2.2.2.2.1
theorem dX6_isSame_75 : decode cX6_isSame 75 = .ok (.iload_n 3, 1) := dX6_isSame_53_g.2.2.2.2.2.2.2.2.2.2.2.2.2.1
theorem dX6_isSame_76 : decode cX6_isSame 76 = .ok (.ireturn, 1) := dX6_isSame_53_g.2.2.2.2.2.2.2.2.2.2.2.2.2.2
theorem dX6_sizeOf_0_g : (decode cX6_sizeOf 0 = .ok (.iconst 0, 1)) ∧ (decode cX6_sizeOf 1 = .ok (.istore_n 2, 1)) ∧ (decode cX6_sizeOf 2 = .ok (.iconst 0, 1)) ∧ (decode cX6_sizeOf 3 = .ok (.istore_n 3, 1)) ∧ (decode cX6_sizeOf 4 = .ok (.iload_n 3, 1)) ∧ (decode cX6_sizeOf 5 = .ok (.iconst 5, 1)) ∧ (decode cX6_sizeOf 6 = .ok (.if_icmp .ge 21, 3)) ∧ (decode cX6_sizeOf 9 = .ok (.iload_n 2, 1)) ∧ (decode cX6_sizeOf 10 = .ok (.aload_n 0, 1)) ∧ (decode cX6_sizeOf 11 = .ok (.iload_n 1, 1)) ∧ (decode cX6_sizeOf 12 = .ok (.iload_n 3, 1)) ∧ (decode cX6_sizeOf 13 = .ok (.invokevirtual 27, 3)) ∧ (decode cX6_sizeOf 16 = .ok (.invokestatic 31, 3)) ∧ (decode cX6_sizeOf 19 = .ok (.iadd, 1)) ∧ (decode cX6_sizeOf 20 = .ok (.istore_n 2, 1)) ∧ (decode cX6_sizeOf 21 = .ok (.iinc 3 1, 3)) := by decide +kernel
theorem dX6_sizeOf_0 : decode cX6_sizeOf 0 = .ok (.iconst 0, 1) := dX6_sizeOf_0_g.1
theorem dX6_sizeOf_1 : decode cX6_sizeOf 1 = .ok (.istore_n 2, 1) := dX6_sizeOf_0_g.2.1
theorem dX6_sizeOf_2 : decode cX6_sizeOf 2 = .ok (.iconst 0, 1) := dX6_sizeOf_0_g.2.2.1
theorem dX6_sizeOf_3 : decode cX6_sizeOf 3 = .ok (.istore_n 3, 1) := dX6_sizeOf_0_g.2.2.2.1
theorem dX6_sizeOf_4 : decode cX6_sizeOf 4 = .ok (.iload_n 3, 1) := dX6_sizeOf_0_g.2.2.2.2.1
theorem dX6_sizeOf_5 : decode cX6_sizeOf 5 = .ok (.iconst 5, 1) := dX6_sizeOf_0_g.2.2.2.2.2.1
theorem dX6_sizeOf_6 : decode cX6_sizeOf 6 = .ok (.if_icmp .ge 21, 3) := dX6_sizeOf_0_g.2.2.2.2.2.2.1
theorem dX6_sizeOf_9 : decode cX6_sizeOf 9 = .ok (.iload_n 2, 1) := dX6_sizeOf_0_g.2.2.2.2.2.2.2.1
theorem dX6_sizeOf_10 : decode cX6_sizeOf 10 = .ok (.aload_n 0, 1) := dX6_sizeOf_0_g.2.2.2.2.2.2.2.2.1
theorem dX6_sizeOf_11 : decode cX6_sizeOf 11 = .ok (.iload_n 1, 1) := dX6_sizeOf_0_g.2.2.2.2.2.2.2.2.2.1
theorem dX6_sizeOf_12 : decode cX6_sizeOf 12 = .ok (.iload_n 3, 1) := dX6_sizeOf_0_g.2.2.2.2.2.2.2.2.2.2.1
theorem dX6_sizeOf_13 : decode cX6_sizeOf 13 = .ok (.invokevirtual 27, 3) := dX6_sizeOf_0_g.2.2.2.2.2.2.2.2.2.2.2.1
theorem dX6_sizeOf_16 : decode cX6_sizeOf 16 = .ok (.invokestatic 31, 3) := dX6_sizeOf_0_g.2.2.2.2.2.2.2.2.2.2.2.2.1
theorem dX6_sizeOf_19 : decode cX6_sizeOf 19 = .ok (.iadd, 1) := dX6_sizeOf_0_g.2.2.2.2.2.2.2.2.2.2.2.2.2.1
theorem dX6_sizeOf_20 : decode cX6_sizeOf 20 = .ok (.istore_n 2, 1) := dX6_sizeOf_0_g.2.2.2.2.2.2.2.2.2.2.2.2.2.2.1
theorem dX6_sizeOf_21 : decode cX6_sizeOf 21 = .ok (.iinc 3 1, 3) := dX6_sizeOf_0_g.2.2.2.2.2.2.2.2.2.2.2.2.2.2.2
theorem dX6_sizeOf_24_g : (decode cX6_sizeOf 24 = .ok (.goto (-20), 3)) ∧ (decode cX6_sizeOf 27 = .ok (.iload_n 2, 1)) ∧ (decode cX6_sizeOf 28 = .ok (.ireturn, 1)) := by decide +kernel
theorem dX6_sizeOf_24 : decode cX6_sizeOf 24 = .ok (.goto (-20), 3) := dX6_sizeOf_24_g.1
theorem dX6_sizeOf_27 : decode cX6_sizeOf 27 = .ok (.iload_n 2, 1) := dX6_sizeOf_24_g.2.1
theorem dX6_sizeOf_28 : decode cX6_sizeOf 28 = .ok (.ireturn, 1) := dX6_sizeOf_24_g.2.2
theorem dX6_isPlace_0_g : (decode cX6_isPlace 0 = .ok (.iload_n 2, 1)) ∧ (decode cX6_isPlace 1 = .ok (.ifCond .lt 29, 3)) ∧ (decode cX6_isPlace 4 = .ok (.iload_n 2, 1)) ∧ (decode cX6_isPlace 5 = .ok (.sipush 320, 3)) ∧ (decode cX6_isPlace 8 = .ok (.if_icmp .ge 22, 3)) ∧ (decode cX6_isPlace 11 = .ok (.iload_n 1, 1)) ∧ (decode cX6_isPlace 12 = .ok (.ifCond .lt 18, 3)) ∧ (decode cX6_isPlace 15 = .ok (.iload_n 1, 1)) ∧ (decode cX6_isPlace 16 = .ok (.aload_n 0, 1)) ∧ (decode cX6_isPlace 17 = .ok (.getfield 17, 3)) ∧ (decode cX6_isPlace 20 = .ok (.arraylength, 1)) ∧ (decode cX6_isPlace 21 = .ok (.iconst 5, 1)) ∧ (decode cX6_isPlace 22 = .ok (.idiv, 1)) ∧ (decode cX6_isPlace 23 = .ok (.if_icmp .ge 7, 3)) ∧ (decode cX6_isPlace 26 = .ok (.iconst 1, 1)) ∧ (decode cX6_isPlace 27 = .ok (.goto 4, 3)) := by decide +kernel
theorem dX6_isPlace_0 : decode cX6_isPlace 0 = .ok (.iload_n 2, 1) := dX6_isPlace_0_g.1
theorem dX6_isPlace_1 : decode cX6_isPlace 1 = .ok (.ifCond .lt 29, 3) := dX6_isPlace_0_g.2.1
theorem dX6_isPlace_4 : decode cX6_isPlace 4 = .ok (.iload_n 2, 1) := dX6_isPlace_0_g.2.2.1
theorem dX6_isPlace_5 : decode cX6_isPlace 5 = .ok (.sipush 320, 3) := dX6_isPlace_0_g.2.2.2.1
theorem dX6_isPlace_8 : decode cX6_isPlace 8 = .ok (.if_icmp .ge 22, 3) := dX6_isPlace_0_g.2.2.2.2.1
theorem dX6_isPlace_11 : decode cX6_isPlace 11 = .ok (.iload_n 1, 1) := dX6_isPlace_0_g.2.2.2.2.2.1
theorem dX6_isPlace_12 : decode cX6_isPlace 12 = .ok (.ifCond .lt 18, 3) := dX6_isPlace_0_g.2.2.2.2.2.2.1
theorem dX6_isPlace_15 : decode cX6_isPlace 15 = .ok (.iload_n 1, 1) := dX6_isPlace_0_g.2.2.2.2.2.2.2.1
theorem dX6_isPlace_16 : decode cX6_isPlace 16 = .ok (.aload_n 0, 1) := dX6_isPlace_0_g.2.2.2.2.2.2.2.2.1
theorem dX6_isPlace_17 : decode cX6_isPlace 17 = .ok (.getfield 17, 3) := dX6_isPlace_0_g.2.2.2.2.2.2.2.2.2.1
theorem dX6_isPlace_20 : decode cX6_isPlace 20 = .ok (.arraylength, 1) := dX6_isPlace_0_g.2.2.2.2.2.2.2.2.2.2.1
theorem dX6_isPlace_21 : decode cX6_isPlace 21 = .ok (.iconst 5, 1) := dX6_isPlace_0_g.2.2.2.2.2.2.2.2.2.2.2.1
theorem dX6_isPlace_22 : decode cX6_isPlace 22 = .ok (.idiv, 1) := dX6_isPlace_0_g.2.2.2.2.2.2.2.2.2.2.2.2.1
theorem dX6_isPlace_23 : decode cX6_isPlace 23 = .ok (.if_icmp .ge 7, 3) := dX6_isPlace_0_g.2.2.2.2.2.2.2.2.2.2.2.2.2.1
theorem dX6_isPlace_26 : decode cX6_isPlace 26 = .ok (.iconst 1, 1) := dX6_isPlace_0_g.2.2.2.2.2.2.2.2.2.2.2.2.2.2.1
theorem dX6_isPlace_27 : decode cX6_isPlace 27 = .ok (.goto 4, 3) := dX6_isPlace_0_g.2.2.2.2.2.2.2.2.2.2.2.2.2.2.2
theorem dX6_isPlace_30_g : (decode cX6_isPlace 30 = .ok (.iconst 0, 1)) ∧ (decode cX6_isPlace 31 = .ok (.ireturn, 1)) := by decide +kernel
theorem dX6_isPlace_30 : decode cX6_isPlace 30 = .ok (.iconst 0, 1) := dX6_isPlace_30_g.1
theorem dX6_isPlace_31 : decode cX6_isPlace 31 = .ok (.ireturn, 1) := dX6_isPlace_30_g.2
theorem dX7_init_0_g : (decode cX7_init 0 = .ok (.aload_n 0, 1)) ∧ (decode cX7_init 1 = .ok (.invokespecial 3, 3)) ∧ (decode cX7_init 4 = .ok (.aload_n 0, 1)) ∧ (decode cX7_init 5 = .ok (.sipush 300, 3)) ∧ (decode cX7_init 8 = .ok (.newarray .int, 2)) ∧ (decode cX7_init 10 = .ok (.putfield 9, 3)) ∧ (decode cX7_init 13 = .ok (.aload_n 0, 1)) ∧ (decode cX7_init 14 = .ok (.sipush 300, 3)) ∧ (decode cX7_init 17 = .ok (.newarray .int, 2)) ∧ (decode cX7_init 19 = .ok (.putfield 15, 3)) ∧ (decode cX7_init 22 = .ok (.aload_n 0, 1)) ∧ (decode cX7_init 23 = .ok (.sipush 300, 3)) ∧ (decode cX7_init 26 = .ok (.newarray .int, 2)) ∧ (decode cX7_init 28 = .ok (.putfield 18, 3)) ∧ (decode cX7_init 31 = .ok (.aload_n 0, 1)) ∧ (decode cX7_init 32 = .ok (.sipush 300, 3)) := by decide +kernel
theorem dX7_init_0 : decode cX7_init 0 = .ok (.aload_n 0, 1) := dX7_init_0_g.1
theorem dX7_init_1 : decode cX7_init 1 = .ok (.invokespecial 3, 3) := dX7_init_0_g.2.1
theorem dX7_init_4 : decode cX7_init 4 = .ok (.aload_n 0, 1) := dX7_init_0_g.2.2.1
theorem dX7_init_5 : decode cX7_init 5 = .ok (.sipush 300, 3) := dX7_init_0_g.2.2.2.1
theorem dX7_init_8 : decode cX7_init 8 = .ok (.newarray .int, 2) := dX7_init_0_g.2.2.2.2.1
theorem dX7_init_10 : decode cX7_init 10 = .ok (.putfield 9, 3) := dX7_init_0_g.2.2.2.2.2.1
theorem dX7_init_13 : decode cX7_init 13 = .ok (.aload_n 0, 1) := dX7_init_0_g.2.2.2.2.2.2.1
theorem dX7_init_14 : decode cX7_init 14 = .ok (.sipush 300, 3) := dX7_init_0_g.2.2.2.2.2.2.2.1
theorem dX7_init_17 : decode cX7_init 17 = .ok (.newarray .int, 2) := dX7_init_0_g.2.2.2.2.2.2.2.2.1
theorem dX7_init_19 : decode cX7_init 19 = .ok (.putfield 15, 3) := dX7_init_0_g.2.2.2.2.2.2.2.2.2.1
theorem dX7_init_22 : decode cX7_init 22 = .ok (.aload_n 0, 1) := dX7_init_0_g.2.2.2.2.2.2.2.2.2.2.1
theorem dX7_init_23 : decode cX7_init 23 = .ok (.sipush 300, 3) := dX7_init_0_g.2.2.2.2.2.2.2.2.2.2.2.1
theorem dX7_init_26 : decode cX7_init 26 = .ok (.newarray .int, 2) := dX7_init_0_g.2.2.2.2.2.2.2.2.2.2.2.2.1
theorem dX7_init_28 : decode cX7_init 28 = .ok (.putfield 18, 3) := dX7_init_0_g.2.2.2.2.2.2.2.2.2.2.2.2.2.1
theorem dX7_init_31 : decode cX7_init 31 = .ok (.aload_n 0, 1) := dX7_init_0_g.2.2.2.2.2.2.2.2.2.2.2.2.2.2.1
theorem dX7_init_32 : decode cX7_init 32 = .ok (.sipush 300, 3) := dX7_init_0_g.2.2.2.2.2.2.2.2.2.2.2.2.2.2.2
theorem dX7_init_35_g : (decode cX7_init 35 = .ok (.newarray .int, 2)) ∧ (decode cX7_init 37 = .ok (.putfield 21, 3)) ∧ (decode cX7_init 40 = .ok (.aload_n 0, 1)) ∧ (decode cX7_init 41 = .ok (.new 24, 3)) ∧ (decode cX7_init 44 = .ok (.dup, 1)) ∧ (decode cX7_init 45 = .ok (.bipush 8, 2)) ∧ (decode cX7_init 47 = .ok (.invokespecial 26, 3)) ∧ (decode cX7_init 50 = .ok (.putfield 29, 3)) ∧ (decode cX7_init 53 = .ok (.aload_n 0, 1)) ∧ (decode cX7_init 54 = .ok (.aload_n 0, 1)) ∧ (decode cX7_init 55 = .ok (.iconst 0, 1)) ∧ (decode cX7_init 56 = .ok (.iconst (-1), 1)) ∧ (decode cX7_init 57 = .ok (.iconst (-1), 1)) ∧ (decode cX7_init 58 = .ok (.invokevirtual 33, 3)) ∧ (decode cX7_init 61 = .ok (.aload_n 0, 1)) ∧ (decode cX7_init 62 = .ok (.iconst 1, 1)) := by decide +kernel
theorem dX7_init_35 : decode cX7_init 35 = .ok (.newarray .int, 2) := dX7_init_35_g.1
theorem dX7_init_37 : decode cX7_init 37 = .ok (.putfield 21, 3) := dX7_init_35_g.2.1
theorem dX7_init_40 : decode cX7_init 40 = .ok (.aload_n 0, 1) := dX7_init_35_g.2.2.1
theorem dX7_init_41 : decode cX7_init 41 = .ok (.new 24, 3) := dX7_init_35_g.2.2.2.1
theorem dX7_init_44 : decode cX7_init 44 = .ok (.dup, 1) := dX7_init_35_g.2.2.2.2.1
theorem dX7_init_45 : decode cX7_init 45 = .ok (.bipush 8, 2) := dX7_init_35_g.2.2.2.2.2.1
theorem dX7_init_47 : decode cX7_init 47 = .ok (.invokespecial 26, 3) := dX7_init_35_g.2.2.2.2.2.2.1
theorem dX7_init_50 : decode cX7_init 50 = .ok (.putfield 29, 3) := dX7_init_35_g.2.2.2.2.2.2.2.1
theorem dX7_init_53 : decode cX7_init 53 = .ok (.aload_n 0, 1) := dX7_init_35_g.2.2.2.2.2.2.2.2.1
theorem dX7_init_54 : decode cX7_init 54 = .ok (.aload_n 0, 1) := dX7_init_35_g.2.2.2.2.2.2.2.2.2.1
theorem dX7_init_55 : decode cX7_init 55 = .ok (.iconst 0, 1) := dX7_init_35_g.2.2.2.2.2.2.2.2.2.2.1
theorem dX7_init_56 : decode cX7_init 56 = .ok (.iconst (-1), 1) := dX7_init_35_g.2.2.2.2.2.2.2.2.2.2.2.1
theorem dX7_init_57 : decode cX7_init 57 = .ok (.iconst (-1), 1) := dX7_init_35_g.2.2.2.2.2.2.2.2.2.2.2.2.1
theorem dX7_init_58 : decode cX7_init 58 = .ok (.invokevirtual 33, 3) := dX7_init_35_g.2.2.2.2.2.2.2.2.2.2.2.2.2.1
theorem dX7_init_61 : decode cX7_init 61 = .ok (.aload_n 0, 1) := dX7_init_35_g.2.2.2.2.2.2.2.2.2.2.2.2.2.2.1
theorem dX7_init_62 : decode cX7_init 62 = .ok (.iconst 1, 1) := dX7_init_35_g.2.2.2.2.2.2.2.2.2.2.2.2.2.2.2
theorem dX7_init_63_g : (decode cX7_init 63 = .ok (.iconst (-1), 1)) ∧ (decode cX7_init 64 = .ok (.iconst (-1), 1)) ∧ (decode cX7_init 65 = .ok (.invokevirtual 33, 3)) ∧ (decode cX7_init 68 = .ok (.invokevirtual 37, 3)) ∧ (decode cX7_init 71 = .ok (.return_, 1)) := by decide +kernel
theorem dX7_init_63 : decode cX7_init 63 = .ok (.iconst (-1), 1) := dX7_init_63_g.1
theorem dX7_init_64 : decode cX7_init 64 = .ok (.iconst (-1), 1) := dX7_init_63_g.2.1
theorem dX7_init_65 : decode cX7_init 65 = .ok (.invokevirtual 33, 3) := dX7_init_63_g.2.2.1
theorem dX7_init_68 : decode cX7_init 68 = .ok (.invokevirtual 37, 3) := dX7_init_63_g.2.2.2.1
theorem dX7_init_71 : decode cX7_init 71 = .ok (.return_, 1) := dX7_init_63_g.2.2.2.2
theorem dX7_size_0_g : (decode cX7_size 0 = .ok (.aload_n 0, 1)) ∧ (decode cX7_size 1 = .ok (.getfield 41, 3)) ∧ (decode cX7_size 4 = .ok (.ireturn, 1)) := by decide +kernel
theorem dX7_size_0 : decode cX7_size 0 = .ok (.aload_n 0, 1) := dX7_size_0_g.1
theorem dX7_size_1 : decode cX7_size 1 = .ok (.getfield 41, 3) := dX7_size_0_g.2.1
theorem dX7_size_4 : decode cX7_size 4 = .ok (.ireturn, 1) := dX7_size_0_g.2.2
theorem dX7_has_0_g : (decode cX7_has 0 = .ok (.iload_n 1, 1)) ∧ (decode cX7_has 1 = .ok (.ifCond .lt 15, 3)) ∧ (decode cX7_has 4 = .ok (.iload_n 1, 1)) ∧ (decode cX7_has 5 = .ok (.aload_n 0, 1)) ∧ (decode cX7_has 6 = .ok (.getfield 41, 3)) ∧ (decode cX7_has 9 = .ok (.if_icmp .ge 7, 3)) ∧ (decode cX7_has 12 = .ok (.iconst 1, 1)) ∧ (decode cX7_has 13 = .ok (.goto 4, 3)) ∧ (decode cX7_has 16 = .ok (.iconst 0, 1)) ∧ (decode cX7_has 17 = .ok (.ireturn, 1)) := by decide +kernel
theorem dX7_has_0 : decode cX7_has 0 = .ok (.iload_n 1, 1) := dX7_has_0_g.1
theorem dX7_has_1 : decode cX7_has 1 = .ok (.ifCond .lt 15, 3) := dX7_has_0_g.2.1
theorem dX7_has_4 : decode cX7_has 4 = .ok (.iload_n 1, 1) := dX7_has_0_g.2.2.1
theorem dX7_has_5 : decode cX7_has 5 = .ok (.aload_n 0, 1) := dX7_has_0_g.2.2.2.1
theorem dX7_has_6 : decode cX7_has 6 = .ok (.getfield 41, 3) := dX7_has_0_g.2.2.2.2.1
theorem dX7_has_9 : decode cX7_has 9 = .ok (.if_icmp .ge 7, 3) := dX7_has_0_g.2.2.2.2.2.1
theorem dX7_has_12 : decode cX7_has 12 = .ok (.iconst 1, 1) := dX7_has_0_g.2.2.2.2.2.2.1
theorem dX7_has_13 : decode cX7_has 13 = .ok (.goto 4, 3) := dX7_has_0_g.2.2.2.2.2.2.2.1
theorem dX7_has_16 : decode cX7_has 16 = .ok (.iconst 0, 1) := dX7_has_0_g.2.2.2.2.2.2.2.2.1
theorem dX7_has_17 : decode cX7_has 17 = .ok (.ireturn, 1) := dX7_has_0_g.2.2.2.2.2.2.2.2.2
theorem dX7_sortOf_0_g : (decode cX7_sortOf 0 = .ok (.aload_n 0, 1)) ∧ (decode cX7_sortOf 1 = .ok (.iload_n 1, 1)) ∧ (decode cX7_sortOf 2 = .ok (.invokevirtual 45, 3)) ∧ (decode cX7_sortOf 5 = .ok (.ifCond .eq 12, 3)) ∧ (decode cX7_sortOf 8 = .ok (.aload_n 0, 1)) ∧ (decode cX7_sortOf 9 = .ok (.getfield 9, 3)) ∧ (decode cX7_sortOf 12 = .ok (.iload_n 1, 1)) ∧ (decode cX7_sortOf 13 = .ok (.iaload, 1)) ∧ (decode cX7_sortOf 14 = .ok (.goto 4, 3)) ∧ (decode cX7_sortOf 17 = .ok (.iconst (-1), 1)) ∧ (decode cX7_sortOf 18 = .ok (.ireturn, 1)) := by decide +kernel
theorem dX7_sortOf_0 : decode cX7_sortOf 0 = .ok (.aload_n 0, 1) := dX7_sortOf_0_g.1
theorem dX7_sortOf_1 : decode cX7_sortOf 1 = .ok (.iload_n 1, 1) := dX7_sortOf_0_g.2.1
theorem dX7_sortOf_2 : decode cX7_sortOf 2 = .ok (.invokevirtual 45, 3) := dX7_sortOf_0_g.2.2.1
theorem dX7_sortOf_5 : decode cX7_sortOf 5 = .ok (.ifCond .eq 12, 3) := dX7_sortOf_0_g.2.2.2.1
theorem dX7_sortOf_8 : decode cX7_sortOf 8 = .ok (.aload_n 0, 1) := dX7_sortOf_0_g.2.2.2.2.1
theorem dX7_sortOf_9 : decode cX7_sortOf 9 = .ok (.getfield 9, 3) := dX7_sortOf_0_g.2.2.2.2.2.1
theorem dX7_sortOf_12 : decode cX7_sortOf 12 = .ok (.iload_n 1, 1) := dX7_sortOf_0_g.2.2.2.2.2.2.1
theorem dX7_sortOf_13 : decode cX7_sortOf 13 = .ok (.iaload, 1) := dX7_sortOf_0_g.2.2.2.2.2.2.2.1
theorem dX7_sortOf_14 : decode cX7_sortOf 14 = .ok (.goto 4, 3) := dX7_sortOf_0_g.2.2.2.2.2.2.2.2.1
theorem dX7_sortOf_17 : decode cX7_sortOf 17 = .ok (.iconst (-1), 1) := dX7_sortOf_0_g.2.2.2.2.2.2.2.2.2.1
theorem dX7_sortOf_18 : decode cX7_sortOf 18 = .ok (.ireturn, 1) := dX7_sortOf_0_g.2.2.2.2.2.2.2.2.2.2
theorem dX7_firstOf_0_g : (decode cX7_firstOf 0 = .ok (.aload_n 0, 1)) ∧ (decode cX7_firstOf 1 = .ok (.iload_n 1, 1)) ∧ (decode cX7_firstOf 2 = .ok (.invokevirtual 45, 3)) ∧ (decode cX7_firstOf 5 = .ok (.ifCond .eq 12, 3)) ∧ (decode cX7_firstOf 8 = .ok (.aload_n 0, 1)) ∧ (decode cX7_firstOf 9 = .ok (.getfield 15, 3)) ∧ (decode cX7_firstOf 12 = .ok (.iload_n 1, 1)) ∧ (decode cX7_firstOf 13 = .ok (.iaload, 1)) ∧ (decode cX7_firstOf 14 = .ok (.goto 4, 3)) ∧ (decode cX7_firstOf 17 = .ok (.iconst (-1), 1)) ∧ (decode cX7_firstOf 18 = .ok (.ireturn, 1)) := by decide +kernel
theorem dX7_firstOf_0 : decode cX7_firstOf 0 = .ok (.aload_n 0, 1) := dX7_firstOf_0_g.1
theorem dX7_firstOf_1 : decode cX7_firstOf 1 = .ok (.iload_n 1, 1) := dX7_firstOf_0_g.2.1
theorem dX7_firstOf_2 : decode cX7_firstOf 2 = .ok (.invokevirtual 45, 3) := dX7_firstOf_0_g.2.2.1
theorem dX7_firstOf_5 : decode cX7_firstOf 5 = .ok (.ifCond .eq 12, 3) := dX7_firstOf_0_g.2.2.2.1
theorem dX7_firstOf_8 : decode cX7_firstOf 8 = .ok (.aload_n 0, 1) := dX7_firstOf_0_g.2.2.2.2.1
theorem dX7_firstOf_9 : decode cX7_firstOf 9 = .ok (.getfield 15, 3) := dX7_firstOf_0_g.2.2.2.2.2.1
theorem dX7_firstOf_12 : decode cX7_firstOf 12 = .ok (.iload_n 1, 1) := dX7_firstOf_0_g.2.2.2.2.2.2.1
theorem dX7_firstOf_13 : decode cX7_firstOf 13 = .ok (.iaload, 1) := dX7_firstOf_0_g.2.2.2.2.2.2.2.1
theorem dX7_firstOf_14 : decode cX7_firstOf 14 = .ok (.goto 4, 3) := dX7_firstOf_0_g.2.2.2.2.2.2.2.2.1
theorem dX7_firstOf_17 : decode cX7_firstOf 17 = .ok (.iconst (-1), 1) := dX7_firstOf_0_g.2.2.2.2.2.2.2.2.2.1
theorem dX7_firstOf_18 : decode cX7_firstOf 18 = .ok (.ireturn, 1) := dX7_firstOf_0_g.2.2.2.2.2.2.2.2.2.2
theorem dX7_secondOf_0_g : (decode cX7_secondOf 0 = .ok (.aload_n 0, 1)) ∧ (decode cX7_secondOf 1 = .ok (.iload_n 1, 1)) ∧ (decode cX7_secondOf 2 = .ok (.invokevirtual 45, 3)) ∧ (decode cX7_secondOf 5 = .ok (.ifCond .eq 12, 3)) ∧ (decode cX7_secondOf 8 = .ok (.aload_n 0, 1)) ∧ (decode cX7_secondOf 9 = .ok (.getfield 18, 3)) ∧ (decode cX7_secondOf 12 = .ok (.iload_n 1, 1)) ∧ (decode cX7_secondOf 13 = .ok (.iaload, 1)) ∧ (decode cX7_secondOf 14 = .ok (.goto 4, 3)) ∧ (decode cX7_secondOf 17 = .ok (.iconst (-1), 1)) ∧ (decode cX7_secondOf 18 = .ok (.ireturn, 1)) := by decide +kernel
theorem dX7_secondOf_0 : decode cX7_secondOf 0 = .ok (.aload_n 0, 1) := dX7_secondOf_0_g.1
theorem dX7_secondOf_1 : decode cX7_secondOf 1 = .ok (.iload_n 1, 1) := dX7_secondOf_0_g.2.1
theorem dX7_secondOf_2 : decode cX7_secondOf 2 = .ok (.invokevirtual 45, 3) := dX7_secondOf_0_g.2.2.1
theorem dX7_secondOf_5 : decode cX7_secondOf 5 = .ok (.ifCond .eq 12, 3) := dX7_secondOf_0_g.2.2.2.1
theorem dX7_secondOf_8 : decode cX7_secondOf 8 = .ok (.aload_n 0, 1) := dX7_secondOf_0_g.2.2.2.2.1
theorem dX7_secondOf_9 : decode cX7_secondOf 9 = .ok (.getfield 18, 3) := dX7_secondOf_0_g.2.2.2.2.2.1
theorem dX7_secondOf_12 : decode cX7_secondOf 12 = .ok (.iload_n 1, 1) := dX7_secondOf_0_g.2.2.2.2.2.2.1
theorem dX7_secondOf_13 : decode cX7_secondOf 13 = .ok (.iaload, 1) := dX7_secondOf_0_g.2.2.2.2.2.2.2.1
theorem dX7_secondOf_14 : decode cX7_secondOf 14 = .ok (.goto 4, 3) := dX7_secondOf_0_g.2.2.2.2.2.2.2.2.1
theorem dX7_secondOf_17 : decode cX7_secondOf 17 = .ok (.iconst (-1), 1) := dX7_secondOf_0_g.2.2.2.2.2.2.2.2.2.1
theorem dX7_secondOf_18 : decode cX7_secondOf 18 = .ok (.ireturn, 1) := dX7_secondOf_0_g.2.2.2.2.2.2.2.2.2.2
theorem dX7_denialOf_0_g : (decode cX7_denialOf 0 = .ok (.aload_n 0, 1)) ∧ (decode cX7_denialOf 1 = .ok (.iload_n 1, 1)) ∧ (decode cX7_denialOf 2 = .ok (.invokevirtual 45, 3)) ∧ (decode cX7_denialOf 5 = .ok (.ifCond .eq 12, 3)) ∧ (decode cX7_denialOf 8 = .ok (.aload_n 0, 1)) ∧ (decode cX7_denialOf 9 = .ok (.getfield 21, 3)) ∧ (decode cX7_denialOf 12 = .ok (.iload_n 1, 1)) ∧ (decode cX7_denialOf 13 = .ok (.iaload, 1)) ∧ (decode cX7_denialOf 14 = .ok (.goto 4, 3)) ∧ (decode cX7_denialOf 17 = .ok (.iconst (-1), 1)) ∧ (decode cX7_denialOf 18 = .ok (.ireturn, 1)) := by decide +kernel
theorem dX7_denialOf_0 : decode cX7_denialOf 0 = .ok (.aload_n 0, 1) := dX7_denialOf_0_g.1
theorem dX7_denialOf_1 : decode cX7_denialOf 1 = .ok (.iload_n 1, 1) := dX7_denialOf_0_g.2.1
theorem dX7_denialOf_2 : decode cX7_denialOf 2 = .ok (.invokevirtual 45, 3) := dX7_denialOf_0_g.2.2.1
theorem dX7_denialOf_5 : decode cX7_denialOf 5 = .ok (.ifCond .eq 12, 3) := dX7_denialOf_0_g.2.2.2.1
theorem dX7_denialOf_8 : decode cX7_denialOf 8 = .ok (.aload_n 0, 1) := dX7_denialOf_0_g.2.2.2.2.1
theorem dX7_denialOf_9 : decode cX7_denialOf 9 = .ok (.getfield 21, 3) := dX7_denialOf_0_g.2.2.2.2.2.1
theorem dX7_denialOf_12 : decode cX7_denialOf 12 = .ok (.iload_n 1, 1) := dX7_denialOf_0_g.2.2.2.2.2.2.1
theorem dX7_denialOf_13 : decode cX7_denialOf 13 = .ok (.iaload, 1) := dX7_denialOf_0_g.2.2.2.2.2.2.2.1
theorem dX7_denialOf_14 : decode cX7_denialOf 14 = .ok (.goto 4, 3) := dX7_denialOf_0_g.2.2.2.2.2.2.2.2.1
theorem dX7_denialOf_17 : decode cX7_denialOf 17 = .ok (.iconst (-1), 1) := dX7_denialOf_0_g.2.2.2.2.2.2.2.2.2.1
theorem dX7_denialOf_18 : decode cX7_denialOf 18 = .ok (.ireturn, 1) := dX7_denialOf_0_g.2.2.2.2.2.2.2.2.2.2
theorem dX7_bySort_0_g : (decode cX7_bySort 0 = .ok (.aload_n 0, 1)) ∧ (decode cX7_bySort 1 = .ok (.getfield 29, 3)) ∧ (decode cX7_bySort 4 = .ok (.areturn, 1)) := by decide +kernel
theorem dX7_bySort_0 : decode cX7_bySort 0 = .ok (.aload_n 0, 1) := dX7_bySort_0_g.1
theorem dX7_bySort_1 : decode cX7_bySort 1 = .ok (.getfield 29, 3) := dX7_bySort_0_g.2.1
theorem dX7_bySort_4 : decode cX7_bySort 4 = .ok (.areturn, 1) := dX7_bySort_0_g.2.2
theorem dX7_make_0_g : (decode cX7_make 0 = .ok (.aload_n 0, 1)) ∧ (decode cX7_make 1 = .ok (.iload_n 1, 1)) ∧ (decode cX7_make 2 = .ok (.iload_n 2, 1)) ∧ (decode cX7_make 3 = .ok (.iload_n 3, 1)) ∧ (decode cX7_make 4 = .ok (.invokevirtual 49, 3)) ∧ (decode cX7_make 7 = .ok (.istore 4, 2)) ∧ (decode cX7_make 9 = .ok (.iload 4, 2)) ∧ (decode cX7_make 11 = .ok (.iconst (-1), 1)) ∧ (decode cX7_make 12 = .ok (.if_icmp .eq 8, 3)) ∧ (decode cX7_make 15 = .ok (.iload 4, 2)) ∧ (decode cX7_make 17 = .ok (.goto 10, 3)) ∧ (decode cX7_make 20 = .ok (.aload_n 0, 1)) ∧ (decode cX7_make 21 = .ok (.iload_n 1, 1)) ∧ (decode cX7_make 22 = .ok (.iload_n 2, 1)) ∧ (decode cX7_make 23 = .ok (.iload_n 3, 1)) ∧ (decode cX7_make 24 = .ok (.invokevirtual 33, 3)) := by decide +kernel
theorem dX7_make_0 : decode cX7_make 0 = .ok (.aload_n 0, 1) := dX7_make_0_g.1
theorem dX7_make_1 : decode cX7_make 1 = .ok (.iload_n 1, 1) := dX7_make_0_g.2.1
theorem dX7_make_2 : decode cX7_make 2 = .ok (.iload_n 2, 1) := dX7_make_0_g.2.2.1
theorem dX7_make_3 : decode cX7_make 3 = .ok (.iload_n 3, 1) := dX7_make_0_g.2.2.2.1
theorem dX7_make_4 : decode cX7_make 4 = .ok (.invokevirtual 49, 3) := dX7_make_0_g.2.2.2.2.1
theorem dX7_make_7 : decode cX7_make 7 = .ok (.istore 4, 2) := dX7_make_0_g.2.2.2.2.2.1
theorem dX7_make_9 : decode cX7_make 9 = .ok (.iload 4, 2) := dX7_make_0_g.2.2.2.2.2.2.1
theorem dX7_make_11 : decode cX7_make 11 = .ok (.iconst (-1), 1) := dX7_make_0_g.2.2.2.2.2.2.2.1
theorem dX7_make_12 : decode cX7_make 12 = .ok (.if_icmp .eq 8, 3) := dX7_make_0_g.2.2.2.2.2.2.2.2.1
theorem dX7_make_15 : decode cX7_make 15 = .ok (.iload 4, 2) := dX7_make_0_g.2.2.2.2.2.2.2.2.2.1
theorem dX7_make_17 : decode cX7_make 17 = .ok (.goto 10, 3) := dX7_make_0_g.2.2.2.2.2.2.2.2.2.2.1
theorem dX7_make_20 : decode cX7_make 20 = .ok (.aload_n 0, 1) := dX7_make_0_g.2.2.2.2.2.2.2.2.2.2.2.1
theorem dX7_make_21 : decode cX7_make 21 = .ok (.iload_n 1, 1) := dX7_make_0_g.2.2.2.2.2.2.2.2.2.2.2.2.1
theorem dX7_make_22 : decode cX7_make 22 = .ok (.iload_n 2, 1) := dX7_make_0_g.2.2.2.2.2.2.2.2.2.2.2.2.2.1
theorem dX7_make_23 : decode cX7_make 23 = .ok (.iload_n 3, 1) := dX7_make_0_g.2.2.2.2.2.2.2.2.2.2.2.2.2.2.1
theorem dX7_make_24 : decode cX7_make 24 = .ok (.invokevirtual 33, 3) := dX7_make_0_g.2.2.2.2.2.2.2.2.2.2.2.2.2.2.2
theorem dX7_make_27 : decode cX7_make 27 = .ok (.ireturn, 1) := by decide +kernel
theorem dX7_pair_0_g : (decode cX7_pair 0 = .ok (.aload_n 0, 1)) ∧ (decode cX7_pair 1 = .ok (.iload_n 1, 1)) ∧ (decode cX7_pair 2 = .ok (.invokevirtual 45, 3)) ∧ (decode cX7_pair 5 = .ok (.ifCond .eq 25, 3)) ∧ (decode cX7_pair 8 = .ok (.aload_n 0, 1)) ∧ (decode cX7_pair 9 = .ok (.iload_n 2, 1)) ∧ (decode cX7_pair 10 = .ok (.invokevirtual 45, 3)) ∧ (decode cX7_pair 13 = .ok (.ifCond .eq 17, 3)) ∧ (decode cX7_pair 16 = .ok (.aload_n 0, 1)) ∧ (decode cX7_pair 17 = .ok (.getfield 21, 3)) ∧ (decode cX7_pair 20 = .ok (.iload_n 1, 1)) ∧ (decode cX7_pair 21 = .ok (.iload_n 2, 1)) ∧ (decode cX7_pair 22 = .ok (.iastore, 1)) ∧ (decode cX7_pair 23 = .ok (.aload_n 0, 1)) ∧ (decode cX7_pair 24 = .ok (.getfield 21, 3)) ∧ (decode cX7_pair 27 = .ok (.iload_n 2, 1)) := by decide +kernel
theorem dX7_pair_0 : decode cX7_pair 0 = .ok (.aload_n 0, 1) := dX7_pair_0_g.1
theorem dX7_pair_1 : decode cX7_pair 1 = .ok (.iload_n 1, 1) := dX7_pair_0_g.2.1
theorem dX7_pair_2 : decode cX7_pair 2 = .ok (.invokevirtual 45, 3) := dX7_pair_0_g.2.2.1
theorem dX7_pair_5 : decode cX7_pair 5 = .ok (.ifCond .eq 25, 3) := dX7_pair_0_g.2.2.2.1
theorem dX7_pair_8 : decode cX7_pair 8 = .ok (.aload_n 0, 1) := dX7_pair_0_g.2.2.2.2.1
theorem dX7_pair_9 : decode cX7_pair 9 = .ok (.iload_n 2, 1) := dX7_pair_0_g.2.2.2.2.2.1
theorem dX7_pair_10 : decode cX7_pair 10 = .ok (.invokevirtual 45, 3) := dX7_pair_0_g.2.2.2.2.2.2.1
theorem dX7_pair_13 : decode cX7_pair 13 = .ok (.ifCond .eq 17, 3) := dX7_pair_0_g.2.2.2.2.2.2.2.1
theorem dX7_pair_16 : decode cX7_pair 16 = .ok (.aload_n 0, 1) := dX7_pair_0_g.2.2.2.2.2.2.2.2.1
theorem dX7_pair_17 : decode cX7_pair 17 = .ok (.getfield 21, 3) := dX7_pair_0_g.2.2.2.2.2.2.2.2.2.1
theorem dX7_pair_20 : decode cX7_pair 20 = .ok (.iload_n 1, 1) := dX7_pair_0_g.2.2.2.2.2.2.2.2.2.2.1
theorem dX7_pair_21 : decode cX7_pair 21 = .ok (.iload_n 2, 1) := dX7_pair_0_g.2.2.2.2.2.2.2.2.2.2.2.1
theorem dX7_pair_22 : decode cX7_pair 22 = .ok (.iastore, 1) := dX7_pair_0_g.2.2.2.2.2.2.2.2.2.2.2.2.1
theorem dX7_pair_23 : decode cX7_pair 23 = .ok (.aload_n 0, 1) := dX7_pair_0_g.2.2.2.2.2.2.2.2.2.2.2.2.2.1
theorem dX7_pair_24 : decode cX7_pair 24 = .ok (.getfield 21, 3) := dX7_pair_0_g.2.2.2.2.2.2.2.2.2.2.2.2.2.2.1
theorem dX7_pair_27 : decode cX7_pair 27 = .ok (.iload_n 2, 1) := dX7_pair_0_g.2.2.2.2.2.2.2.2.2.2.2.2.2.2.2
theorem dX7_pair_28_g : (decode cX7_pair 28 = .ok (.iload_n 1, 1)) ∧ (decode cX7_pair 29 = .ok (.iastore, 1)) ∧ (decode cX7_pair 30 = .ok (.return_, 1)) := by decide +kernel
theorem dX7_pair_28 : decode cX7_pair 28 = .ok (.iload_n 1, 1) := dX7_pair_28_g.1
theorem dX7_pair_29 : decode cX7_pair 29 = .ok (.iastore, 1) := dX7_pair_28_g.2.1
theorem dX7_pair_30 : decode cX7_pair 30 = .ok (.return_, 1) := dX7_pair_28_g.2.2
theorem dX7_dropTo_0_g : (decode cX7_dropTo 0 = .ok (.aload_n 0, 1)) ∧ (decode cX7_dropTo 1 = .ok (.getfield 41, 3)) ∧ (decode cX7_dropTo 4 = .ok (.iconst 1, 1)) ∧ (decode cX7_dropTo 5 = .ok (.isub, 1)) ∧ (decode cX7_dropTo 6 = .ok (.istore_n 2, 1)) ∧ (decode cX7_dropTo 7 = .ok (.iload_n 2, 1)) ∧ (decode cX7_dropTo 8 = .ok (.iload_n 1, 1)) ∧ (decode cX7_dropTo 9 = .ok (.if_icmp .lt 32, 3)) ∧ (decode cX7_dropTo 12 = .ok (.iload_n 2, 1)) ∧ (decode cX7_dropTo 13 = .ok (.ifCond .lt 28, 3)) ∧ (decode cX7_dropTo 16 = .ok (.aload_n 0, 1)) ∧ (decode cX7_dropTo 17 = .ok (.getfield 29, 3)) ∧ (decode cX7_dropTo 20 = .ok (.aload_n 0, 1)) ∧ (decode cX7_dropTo 21 = .ok (.getfield 9, 3)) ∧ (decode cX7_dropTo 24 = .ok (.iload_n 2, 1)) ∧ (decode cX7_dropTo 25 = .ok (.iaload, 1)) := by decide +kernel
theorem dX7_dropTo_0 : decode cX7_dropTo 0 = .ok (.aload_n 0, 1) := dX7_dropTo_0_g.1
theorem dX7_dropTo_1 : decode cX7_dropTo 1 = .ok (.getfield 41, 3) := dX7_dropTo_0_g.2.1
theorem dX7_dropTo_4 : decode cX7_dropTo 4 = .ok (.iconst 1, 1) := dX7_dropTo_0_g.2.2.1
theorem dX7_dropTo_5 : decode cX7_dropTo 5 = .ok (.isub, 1) := dX7_dropTo_0_g.2.2.2.1
theorem dX7_dropTo_6 : decode cX7_dropTo 6 = .ok (.istore_n 2, 1) := dX7_dropTo_0_g.2.2.2.2.1
theorem dX7_dropTo_7 : decode cX7_dropTo 7 = .ok (.iload_n 2, 1) := dX7_dropTo_0_g.2.2.2.2.2.1
theorem dX7_dropTo_8 : decode cX7_dropTo 8 = .ok (.iload_n 1, 1) := dX7_dropTo_0_g.2.2.2.2.2.2.1
theorem dX7_dropTo_9 : decode cX7_dropTo 9 = .ok (.if_icmp .lt 32, 3) := dX7_dropTo_0_g.2.2.2.2.2.2.2.1
theorem dX7_dropTo_12 : decode cX7_dropTo 12 = .ok (.iload_n 2, 1) := dX7_dropTo_0_g.2.2.2.2.2.2.2.2.1
theorem dX7_dropTo_13 : decode cX7_dropTo 13 = .ok (.ifCond .lt 28, 3) := dX7_dropTo_0_g.2.2.2.2.2.2.2.2.2.1
theorem dX7_dropTo_16 : decode cX7_dropTo 16 = .ok (.aload_n 0, 1) := dX7_dropTo_0_g.2.2.2.2.2.2.2.2.2.2.1
theorem dX7_dropTo_17 : decode cX7_dropTo 17 = .ok (.getfield 29, 3) := dX7_dropTo_0_g.2.2.2.2.2.2.2.2.2.2.2.1
theorem dX7_dropTo_20 : decode cX7_dropTo 20 = .ok (.aload_n 0, 1) := dX7_dropTo_0_g.2.2.2.2.2.2.2.2.2.2.2.2.1
theorem dX7_dropTo_21 : decode cX7_dropTo 21 = .ok (.getfield 9, 3) := dX7_dropTo_0_g.2.2.2.2.2.2.2.2.2.2.2.2.2.1
theorem dX7_dropTo_24 : decode cX7_dropTo 24 = .ok (.iload_n 2, 1) := dX7_dropTo_0_g.2.2.2.2.2.2.2.2.2.2.2.2.2.2.1
theorem dX7_dropTo_25 : decode cX7_dropTo 25 = .ok (.iaload, 1) := dX7_dropTo_0_g.2.2.2.2.2.2.2.2.2.2.2.2.2.2.2
theorem dX7_dropTo_26_g : (decode cX7_dropTo 26 = .ok (.iload_n 2, 1)) ∧ (decode cX7_dropTo 27 = .ok (.invokevirtual 52, 3)) ∧ (decode cX7_dropTo 30 = .ok (.aload_n 0, 1)) ∧ (decode cX7_dropTo 31 = .ok (.iload_n 2, 1)) ∧ (decode cX7_dropTo 32 = .ok (.putfield 41, 3)) ∧ (decode cX7_dropTo 35 = .ok (.iinc 2 (-1), 3)) ∧ (decode cX7_dropTo 38 = .ok (.goto (-31), 3)) ∧ (decode cX7_dropTo 41 = .ok (.return_, 1)) := by decide +kernel
theorem dX7_dropTo_26 : decode cX7_dropTo 26 = .ok (.iload_n 2, 1) := dX7_dropTo_26_g.1
theorem dX7_dropTo_27 : decode cX7_dropTo 27 = .ok (.invokevirtual 52, 3) := dX7_dropTo_26_g.2.1
theorem dX7_dropTo_30 : decode cX7_dropTo 30 = .ok (.aload_n 0, 1) := dX7_dropTo_26_g.2.2.1
theorem dX7_dropTo_31 : decode cX7_dropTo 31 = .ok (.iload_n 2, 1) := dX7_dropTo_26_g.2.2.2.1
theorem dX7_dropTo_32 : decode cX7_dropTo 32 = .ok (.putfield 41, 3) := dX7_dropTo_26_g.2.2.2.2.1
theorem dX7_dropTo_35 : decode cX7_dropTo 35 = .ok (.iinc 2 (-1), 3) := dX7_dropTo_26_g.2.2.2.2.2.1
theorem dX7_dropTo_38 : decode cX7_dropTo 38 = .ok (.goto (-31), 3) := dX7_dropTo_26_g.2.2.2.2.2.2.1
theorem dX7_dropTo_41 : decode cX7_dropTo 41 = .ok (.return_, 1) := dX7_dropTo_26_g.2.2.2.2.2.2.2
theorem dX7_find_0_g : (decode cX7_find 0 = .ok (.iconst 0, 1)) ∧ (decode cX7_find 1 = .ok (.istore 4, 2)) ∧ (decode cX7_find 3 = .ok (.iload 4, 2)) ∧ (decode cX7_find 5 = .ok (.aload_n 0, 1)) ∧ (decode cX7_find 6 = .ok (.getfield 41, 3)) ∧ (decode cX7_find 9 = .ok (.if_icmp .ge 45, 3)) ∧ (decode cX7_find 12 = .ok (.aload_n 0, 1)) ∧ (decode cX7_find 13 = .ok (.getfield 9, 3)) ∧ (decode cX7_find 16 = .ok (.iload 4, 2)) ∧ (decode cX7_find 18 = .ok (.iaload, 1)) ∧ (decode cX7_find 19 = .ok (.iload_n 1, 1)) ∧ (decode cX7_find 20 = .ok (.if_icmp .ne 28, 3)) ∧ (decode cX7_find 23 = .ok (.aload_n 0, 1)) ∧ (decode cX7_find 24 = .ok (.getfield 15, 3)) ∧ (decode cX7_find 27 = .ok (.iload 4, 2)) ∧ (decode cX7_find 29 = .ok (.iaload, 1)) := by decide +kernel
theorem dX7_find_0 : decode cX7_find 0 = .ok (.iconst 0, 1) := dX7_find_0_g.1
theorem dX7_find_1 : decode cX7_find 1 = .ok (.istore 4, 2) := dX7_find_0_g.2.1
theorem dX7_find_3 : decode cX7_find 3 = .ok (.iload 4, 2) := dX7_find_0_g.2.2.1
theorem dX7_find_5 : decode cX7_find 5 = .ok (.aload_n 0, 1) := dX7_find_0_g.2.2.2.1
theorem dX7_find_6 : decode cX7_find 6 = .ok (.getfield 41, 3) := dX7_find_0_g.2.2.2.2.1
theorem dX7_find_9 : decode cX7_find 9 = .ok (.if_icmp .ge 45, 3) := dX7_find_0_g.2.2.2.2.2.1
theorem dX7_find_12 : decode cX7_find 12 = .ok (.aload_n 0, 1) := dX7_find_0_g.2.2.2.2.2.2.1
theorem dX7_find_13 : decode cX7_find 13 = .ok (.getfield 9, 3) := dX7_find_0_g.2.2.2.2.2.2.2.1
theorem dX7_find_16 : decode cX7_find 16 = .ok (.iload 4, 2) := dX7_find_0_g.2.2.2.2.2.2.2.2.1
theorem dX7_find_18 : decode cX7_find 18 = .ok (.iaload, 1) := dX7_find_0_g.2.2.2.2.2.2.2.2.2.1
theorem dX7_find_19 : decode cX7_find 19 = .ok (.iload_n 1, 1) := dX7_find_0_g.2.2.2.2.2.2.2.2.2.2.1
theorem dX7_find_20 : decode cX7_find 20 = .ok (.if_icmp .ne 28, 3) := dX7_find_0_g.2.2.2.2.2.2.2.2.2.2.2.1
theorem dX7_find_23 : decode cX7_find 23 = .ok (.aload_n 0, 1) := dX7_find_0_g.2.2.2.2.2.2.2.2.2.2.2.2.1
theorem dX7_find_24 : decode cX7_find 24 = .ok (.getfield 15, 3) := dX7_find_0_g.2.2.2.2.2.2.2.2.2.2.2.2.2.1
theorem dX7_find_27 : decode cX7_find 27 = .ok (.iload 4, 2) := dX7_find_0_g.2.2.2.2.2.2.2.2.2.2.2.2.2.2.1
theorem dX7_find_29 : decode cX7_find 29 = .ok (.iaload, 1) := dX7_find_0_g.2.2.2.2.2.2.2.2.2.2.2.2.2.2.2
theorem dX7_find_30_g : (decode cX7_find 30 = .ok (.iload_n 2, 1)) ∧ (decode cX7_find 31 = .ok (.if_icmp .ne 17, 3)) ∧ (decode cX7_find 34 = .ok (.aload_n 0, 1)) ∧ (decode cX7_find 35 = .ok (.getfield 18, 3)) ∧ (decode cX7_find 38 = .ok (.iload 4, 2)) ∧ (decode cX7_find 40 = .ok (.iaload, 1)) ∧ (decode cX7_find 41 = .ok (.iload_n 3, 1)) ∧ (decode cX7_find 42 = .ok (.if_icmp .ne 6, 3)) ∧ (decode cX7_find 45 = .ok (.iload 4, 2)) ∧ (decode cX7_find 47 = .ok (.ireturn, 1)) ∧ (decode cX7_find 48 = .ok (.iinc 4 1, 3)) ∧ (decode cX7_find 51 = .ok (.goto (-48), 3)) ∧ (decode cX7_find 54 = .ok (.iconst (-1), 1)) ∧ (decode cX7_find 55 = .ok (.ireturn, 1)) := by decide +kernel
theorem dX7_find_30 : decode cX7_find 30 = .ok (.iload_n 2, 1) := dX7_find_30_g.1
theorem dX7_find_31 : decode cX7_find 31 = .ok (.if_icmp .ne 17, 3) := dX7_find_30_g.2.1
theorem dX7_find_34 : decode cX7_find 34 = .ok (.aload_n 0, 1) := dX7_find_30_g.2.2.1
theorem dX7_find_35 : decode cX7_find 35 = .ok (.getfield 18, 3) := dX7_find_30_g.2.2.2.1
theorem dX7_find_38 : decode cX7_find 38 = .ok (.iload 4, 2) := dX7_find_30_g.2.2.2.2.1
theorem dX7_find_40 : decode cX7_find 40 = .ok (.iaload, 1) := dX7_find_30_g.2.2.2.2.2.1
theorem dX7_find_41 : decode cX7_find 41 = .ok (.iload_n 3, 1) := dX7_find_30_g.2.2.2.2.2.2.1
theorem dX7_find_42 : decode cX7_find 42 = .ok (.if_icmp .ne 6, 3) := dX7_find_30_g.2.2.2.2.2.2.2.1
theorem dX7_find_45 : decode cX7_find 45 = .ok (.iload 4, 2) := dX7_find_30_g.2.2.2.2.2.2.2.2.1
theorem dX7_find_47 : decode cX7_find 47 = .ok (.ireturn, 1) := dX7_find_30_g.2.2.2.2.2.2.2.2.2.1
theorem dX7_find_48 : decode cX7_find 48 = .ok (.iinc 4 1, 3) := dX7_find_30_g.2.2.2.2.2.2.2.2.2.2.1
theorem dX7_find_51 : decode cX7_find 51 = .ok (.goto (-48), 3) := dX7_find_30_g.2.2.2.2.2.2.2.2.2.2.2.1
theorem dX7_find_54 : decode cX7_find 54 = .ok (.iconst (-1), 1) := dX7_find_30_g.2.2.2.2.2.2.2.2.2.2.2.2.1
theorem dX7_find_55 : decode cX7_find 55 = .ok (.ireturn, 1) := dX7_find_30_g.2.2.2.2.2.2.2.2.2.2.2.2.2
theorem dX7_append_0_g : (decode cX7_append 0 = .ok (.aload_n 0, 1)) ∧ (decode cX7_append 1 = .ok (.getfield 41, 3)) ∧ (decode cX7_append 4 = .ok (.sipush 300, 3)) ∧ (decode cX7_append 7 = .ok (.if_icmp .lt 5, 3)) ∧ (decode cX7_append 10 = .ok (.iconst (-1), 1)) ∧ (decode cX7_append 11 = .ok (.ireturn, 1)) ∧ (decode cX7_append 12 = .ok (.aload_n 0, 1)) ∧ (decode cX7_append 13 = .ok (.getfield 41, 3)) ∧ (decode cX7_append 16 = .ok (.istore 4, 2)) ∧ (decode cX7_append 18 = .ok (.aload_n 0, 1)) ∧ (decode cX7_append 19 = .ok (.dup, 1)) ∧ (decode cX7_append 20 = .ok (.getfield 41, 3)) ∧ (decode cX7_append 23 = .ok (.iconst 1, 1)) ∧ (decode cX7_append 24 = .ok (.iadd, 1)) ∧ (decode cX7_append 25 = .ok (.putfield 41, 3)) ∧ (decode cX7_append 28 = .ok (.aload_n 0, 1)) := by decide +kernel
theorem dX7_append_0 : decode cX7_append 0 = .ok (.aload_n 0, 1) := dX7_append_0_g.1
theorem dX7_append_1 : decode cX7_append 1 = .ok (.getfield 41, 3) := dX7_append_0_g.2.1
theorem dX7_append_4 : decode cX7_append 4 = .ok (.sipush 300, 3) := dX7_append_0_g.2.2.1
theorem dX7_append_7 : decode cX7_append 7 = .ok (.if_icmp .lt 5, 3) := dX7_append_0_g.2.2.2.1
theorem dX7_append_10 : decode cX7_append 10 = .ok (.iconst (-1), 1) := dX7_append_0_g.2.2.2.2.1
theorem dX7_append_11 : decode cX7_append 11 = .ok (.ireturn, 1) := dX7_append_0_g.2.2.2.2.2.1
theorem dX7_append_12 : decode cX7_append 12 = .ok (.aload_n 0, 1) := dX7_append_0_g.2.2.2.2.2.2.1
theorem dX7_append_13 : decode cX7_append 13 = .ok (.getfield 41, 3) := dX7_append_0_g.2.2.2.2.2.2.2.1
theorem dX7_append_16 : decode cX7_append 16 = .ok (.istore 4, 2) := dX7_append_0_g.2.2.2.2.2.2.2.2.1
theorem dX7_append_18 : decode cX7_append 18 = .ok (.aload_n 0, 1) := dX7_append_0_g.2.2.2.2.2.2.2.2.2.1
theorem dX7_append_19 : decode cX7_append 19 = .ok (.dup, 1) := dX7_append_0_g.2.2.2.2.2.2.2.2.2.2.1
theorem dX7_append_20 : decode cX7_append 20 = .ok (.getfield 41, 3) := dX7_append_0_g.2.2.2.2.2.2.2.2.2.2.2.1
theorem dX7_append_23 : decode cX7_append 23 = .ok (.iconst 1, 1) := dX7_append_0_g.2.2.2.2.2.2.2.2.2.2.2.2.1
theorem dX7_append_24 : decode cX7_append 24 = .ok (.iadd, 1) := dX7_append_0_g.2.2.2.2.2.2.2.2.2.2.2.2.2.1
theorem dX7_append_25 : decode cX7_append 25 = .ok (.putfield 41, 3) := dX7_append_0_g.2.2.2.2.2.2.2.2.2.2.2.2.2.2.1
theorem dX7_append_28 : decode cX7_append 28 = .ok (.aload_n 0, 1) := dX7_append_0_g.2.2.2.2.2.2.2.2.2.2.2.2.2.2.2
theorem dX7_append_29_g : (decode cX7_append 29 = .ok (.getfield 9, 3)) ∧ (decode cX7_append 32 = .ok (.iload 4, 2)) ∧ (decode cX7_append 34 = .ok (.iload_n 1, 1)) ∧ (decode cX7_append 35 = .ok (.iastore, 1)) ∧ (decode cX7_append 36 = .ok (.aload_n 0, 1)) ∧ (decode cX7_append 37 = .ok (.getfield 15, 3)) ∧ (decode cX7_append 40 = .ok (.iload 4, 2)) ∧ (decode cX7_append 42 = .ok (.iload_n 2, 1)) ∧ (decode cX7_append 43 = .ok (.iastore, 1)) ∧ (decode cX7_append 44 = .ok (.aload_n 0, 1)) ∧ (decode cX7_append 45 = .ok (.getfield 18, 3)) ∧ (decode cX7_append 48 = .ok (.iload 4, 2)) ∧ (decode cX7_append 50 = .ok (.iload_n 3, 1)) ∧ (decode cX7_append 51 = .ok (.iastore, 1)) ∧ (decode cX7_append 52 = .ok (.aload_n 0, 1)) ∧ (decode cX7_append 53 = .ok (.getfield 21, 3)) := by decide +kernel
theorem dX7_append_29 : decode cX7_append 29 = .ok (.getfield 9, 3) := dX7_append_29_g.1
theorem dX7_append_32 : decode cX7_append 32 = .ok (.iload 4, 2) := dX7_append_29_g.2.1
theorem dX7_append_34 : decode cX7_append 34 = .ok (.iload_n 1, 1) := dX7_append_29_g.2.2.1
theorem dX7_append_35 : decode cX7_append 35 = .ok (.iastore, 1) := dX7_append_29_g.2.2.2.1
theorem dX7_append_36 : decode cX7_append 36 = .ok (.aload_n 0, 1) := dX7_append_29_g.2.2.2.2.1
theorem dX7_append_37 : decode cX7_append 37 = .ok (.getfield 15, 3) := dX7_append_29_g.2.2.2.2.2.1
theorem dX7_append_40 : decode cX7_append 40 = .ok (.iload 4, 2) := dX7_append_29_g.2.2.2.2.2.2.1
theorem dX7_append_42 : decode cX7_append 42 = .ok (.iload_n 2, 1) := dX7_append_29_g.2.2.2.2.2.2.2.1
theorem dX7_append_43 : decode cX7_append 43 = .ok (.iastore, 1) := dX7_append_29_g.2.2.2.2.2.2.2.2.1
theorem dX7_append_44 : decode cX7_append 44 = .ok (.aload_n 0, 1) := dX7_append_29_g.2.2.2.2.2.2.2.2.2.1
theorem dX7_append_45 : decode cX7_append 45 = .ok (.getfield 18, 3) := dX7_append_29_g.2.2.2.2.2.2.2.2.2.2.1
theorem dX7_append_48 : decode cX7_append 48 = .ok (.iload 4, 2) := dX7_append_29_g.2.2.2.2.2.2.2.2.2.2.2.1
theorem dX7_append_50 : decode cX7_append 50 = .ok (.iload_n 3, 1) := dX7_append_29_g.2.2.2.2.2.2.2.2.2.2.2.2.1
theorem dX7_append_51 : decode cX7_append 51 = .ok (.iastore, 1) := dX7_append_29_g.2.2.2.2.2.2.2.2.2.2.2.2.2.1
theorem dX7_append_52 : decode cX7_append 52 = .ok (.aload_n 0, 1) := dX7_append_29_g.2.2.2.2.2.2.2.2.2.2.2.2.2.2.1
theorem dX7_append_53 : decode cX7_append 53 = .ok (.getfield 21, 3) := dX7_append_29_g.2.2.2.2.2.2.2.2.2.2.2.2.2.2.2
theorem dX7_append_56_g : (decode cX7_append 56 = .ok (.iload 4, 2)) ∧ (decode cX7_append 58 = .ok (.iconst (-1), 1)) ∧ (decode cX7_append 59 = .ok (.iastore, 1)) ∧ (decode cX7_append 60 = .ok (.aload_n 0, 1)) ∧ (decode cX7_append 61 = .ok (.getfield 29, 3)) ∧ (decode cX7_append 64 = .ok (.iload_n 1, 1)) ∧ (decode cX7_append 65 = .ok (.iload 4, 2)) ∧ (decode cX7_append 67 = .ok (.invokevirtual 55, 3)) ∧ (decode cX7_append 70 = .ok (.iload 4, 2)) ∧ (decode cX7_append 72 = .ok (.ireturn, 1)) := by decide +kernel
theorem dX7_append_56 : decode cX7_append 56 = .ok (.iload 4, 2) := dX7_append_56_g.1
theorem dX7_append_58 : decode cX7_append 58 = .ok (.iconst (-1), 1) := dX7_append_56_g.2.1
theorem dX7_append_59 : decode cX7_append 59 = .ok (.iastore, 1) := dX7_append_56_g.2.2.1
theorem dX7_append_60 : decode cX7_append 60 = .ok (.aload_n 0, 1) := dX7_append_56_g.2.2.2.1
theorem dX7_append_61 : decode cX7_append 61 = .ok (.getfield 29, 3) := dX7_append_56_g.2.2.2.2.1
theorem dX7_append_64 : decode cX7_append 64 = .ok (.iload_n 1, 1) := dX7_append_56_g.2.2.2.2.2.1
theorem dX7_append_65 : decode cX7_append 65 = .ok (.iload 4, 2) := dX7_append_56_g.2.2.2.2.2.2.1
theorem dX7_append_67 : decode cX7_append 67 = .ok (.invokevirtual 55, 3) := dX7_append_56_g.2.2.2.2.2.2.2.1
theorem dX7_append_70 : decode cX7_append 70 = .ok (.iload 4, 2) := dX7_append_56_g.2.2.2.2.2.2.2.2.1
theorem dX7_append_72 : decode cX7_append 72 = .ok (.ireturn, 1) := dX7_append_56_g.2.2.2.2.2.2.2.2.2
theorem dJ13_bitCount_95d88_0_g : (decode cJ13_bitCount_95d88 0 = .ok (.lload_n 0, 1)) ∧ (decode cJ13_bitCount_95d88 1 = .ok (.lload_n 0, 1)) ∧ (decode cJ13_bitCount_95d88 2 = .ok (.iconst 1, 1)) ∧ (decode cJ13_bitCount_95d88 3 = .ok (.lushr, 1)) ∧ (decode cJ13_bitCount_95d88 4 = .ok (.ldc2_w 314, 3)) ∧ (decode cJ13_bitCount_95d88 7 = .ok (.land, 1)) ∧ (decode cJ13_bitCount_95d88 8 = .ok (.lsub, 1)) ∧ (decode cJ13_bitCount_95d88 9 = .ok (.lstore_n 0, 1)) ∧ (decode cJ13_bitCount_95d88 10 = .ok (.lload_n 0, 1)) ∧ (decode cJ13_bitCount_95d88 11 = .ok (.ldc2_w 316, 3)) ∧ (decode cJ13_bitCount_95d88 14 = .ok (.land, 1)) ∧ (decode cJ13_bitCount_95d88 15 = .ok (.lload_n 0, 1)) ∧ (decode cJ13_bitCount_95d88 16 = .ok (.iconst 2, 1)) ∧ (decode cJ13_bitCount_95d88 17 = .ok (.lushr, 1)) ∧ (decode cJ13_bitCount_95d88 18 = .ok (.ldc2_w 316, 3)) ∧ (decode cJ13_bitCount_95d88 21 = .ok (.land, 1)) := by decide +kernel
theorem dJ13_bitCount_95d88_0 : decode cJ13_bitCount_95d88 0 = .ok (.lload_n 0, 1) := dJ13_bitCount_95d88_0_g.1
theorem dJ13_bitCount_95d88_1 : decode cJ13_bitCount_95d88 1 = .ok (.lload_n 0, 1) := dJ13_bitCount_95d88_0_g.2.1
theorem dJ13_bitCount_95d88_2 : decode cJ13_bitCount_95d88 2 = .ok (.iconst 1, 1) := dJ13_bitCount_95d88_0_g.2.2.1
theorem dJ13_bitCount_95d88_3 : decode cJ13_bitCount_95d88 3 = .ok (.lushr, 1) := dJ13_bitCount_95d88_0_g.2.2.2.1
theorem dJ13_bitCount_95d88_4 : decode cJ13_bitCount_95d88 4 = .ok (.ldc2_w 314, 3) := dJ13_bitCount_95d88_0_g.2.2.2.2.1
theorem dJ13_bitCount_95d88_7 : decode cJ13_bitCount_95d88 7 = .ok (.land, 1) := dJ13_bitCount_95d88_0_g.2.2.2.2.2.1
theorem dJ13_bitCount_95d88_8 : decode cJ13_bitCount_95d88 8 = .ok (.lsub, 1) := dJ13_bitCount_95d88_0_g.2.2.2.2.2.2.1
theorem dJ13_bitCount_95d88_9 : decode cJ13_bitCount_95d88 9 = .ok (.lstore_n 0, 1) := dJ13_bitCount_95d88_0_g.2.2.2.2.2.2.2.1
theorem dJ13_bitCount_95d88_10 : decode cJ13_bitCount_95d88 10 = .ok (.lload_n 0, 1) := dJ13_bitCount_95d88_0_g.2.2.2.2.2.2.2.2.1
theorem dJ13_bitCount_95d88_11 : decode cJ13_bitCount_95d88 11 = .ok (.ldc2_w 316, 3) := dJ13_bitCount_95d88_0_g.2.2.2.2.2.2.2.2.2.1
theorem dJ13_bitCount_95d88_14 : decode cJ13_bitCount_95d88 14 = .ok (.land, 1) := dJ13_bitCount_95d88_0_g.2.2.2.2.2.2.2.2.2.2.1
theorem dJ13_bitCount_95d88_15 : decode cJ13_bitCount_95d88 15 = .ok (.lload_n 0, 1) := dJ13_bitCount_95d88_0_g.2.2.2.2.2.2.2.2.2.2.2.1
theorem dJ13_bitCount_95d88_16 : decode cJ13_bitCount_95d88 16 = .ok (.iconst 2, 1) := dJ13_bitCount_95d88_0_g.2.2.2.2.2.2.2.2.2.2.2.2.1
theorem dJ13_bitCount_95d88_17 : decode cJ13_bitCount_95d88 17 = .ok (.lushr, 1) := dJ13_bitCount_95d88_0_g.2.2.2.2.2.2.2.2.2.2.2.2.2.1
theorem dJ13_bitCount_95d88_18 : decode cJ13_bitCount_95d88 18 = .ok (.ldc2_w 316, 3) := dJ13_bitCount_95d88_0_g.2.2.2.2.2.2.2.2.2.2.2.2.2.2.1
theorem dJ13_bitCount_95d88_21 : decode cJ13_bitCount_95d88 21 = .ok (.land, 1) := dJ13_bitCount_95d88_0_g.2.2.2.2.2.2.2.2.2.2.2.2.2.2.2
theorem dJ13_bitCount_95d88_22_g : (decode cJ13_bitCount_95d88 22 = .ok (.ladd, 1)) ∧ (decode cJ13_bitCount_95d88 23 = .ok (.lstore_n 0, 1)) ∧ (decode cJ13_bitCount_95d88 24 = .ok (.lload_n 0, 1)) ∧ (decode cJ13_bitCount_95d88 25 = .ok (.lload_n 0, 1)) ∧ (decode cJ13_bitCount_95d88 26 = .ok (.iconst 4, 1)) ∧ (decode cJ13_bitCount_95d88 27 = .ok (.lushr, 1)) ∧ (decode cJ13_bitCount_95d88 28 = .ok (.ladd, 1)) ∧ (decode cJ13_bitCount_95d88 29 = .ok (.ldc2_w 318, 3)) ∧ (decode cJ13_bitCount_95d88 32 = .ok (.land, 1)) ∧ (decode cJ13_bitCount_95d88 33 = .ok (.lstore_n 0, 1)) ∧ (decode cJ13_bitCount_95d88 34 = .ok (.lload_n 0, 1)) ∧ (decode cJ13_bitCount_95d88 35 = .ok (.lload_n 0, 1)) ∧ (decode cJ13_bitCount_95d88 36 = .ok (.bipush 8, 2)) ∧ (decode cJ13_bitCount_95d88 38 = .ok (.lushr, 1)) ∧ (decode cJ13_bitCount_95d88 39 = .ok (.ladd, 1)) ∧ (decode cJ13_bitCount_95d88 40 = .ok (.lstore_n 0, 1)) := by decide +kernel
theorem dJ13_bitCount_95d88_22 : decode cJ13_bitCount_95d88 22 = .ok (.ladd, 1) := dJ13_bitCount_95d88_22_g.1
theorem dJ13_bitCount_95d88_23 : decode cJ13_bitCount_95d88 23 = .ok (.lstore_n 0, 1) := dJ13_bitCount_95d88_22_g.2.1
theorem dJ13_bitCount_95d88_24 : decode cJ13_bitCount_95d88 24 = .ok (.lload_n 0, 1) := dJ13_bitCount_95d88_22_g.2.2.1
theorem dJ13_bitCount_95d88_25 : decode cJ13_bitCount_95d88 25 = .ok (.lload_n 0, 1) := dJ13_bitCount_95d88_22_g.2.2.2.1
theorem dJ13_bitCount_95d88_26 : decode cJ13_bitCount_95d88 26 = .ok (.iconst 4, 1) := dJ13_bitCount_95d88_22_g.2.2.2.2.1
theorem dJ13_bitCount_95d88_27 : decode cJ13_bitCount_95d88 27 = .ok (.lushr, 1) := dJ13_bitCount_95d88_22_g.2.2.2.2.2.1
theorem dJ13_bitCount_95d88_28 : decode cJ13_bitCount_95d88 28 = .ok (.ladd, 1) := dJ13_bitCount_95d88_22_g.2.2.2.2.2.2.1
theorem dJ13_bitCount_95d88_29 : decode cJ13_bitCount_95d88 29 = .ok (.ldc2_w 318, 3) := dJ13_bitCount_95d88_22_g.2.2.2.2.2.2.2.1
theorem dJ13_bitCount_95d88_32 : decode cJ13_bitCount_95d88 32 = .ok (.land, 1) := dJ13_bitCount_95d88_22_g.2.2.2.2.2.2.2.2.1
theorem dJ13_bitCount_95d88_33 : decode cJ13_bitCount_95d88 33 = .ok (.lstore_n 0, 1) := dJ13_bitCount_95d88_22_g.2.2.2.2.2.2.2.2.2.1
theorem dJ13_bitCount_95d88_34 : decode cJ13_bitCount_95d88 34 = .ok (.lload_n 0, 1) := dJ13_bitCount_95d88_22_g.2.2.2.2.2.2.2.2.2.2.1
theorem dJ13_bitCount_95d88_35 : decode cJ13_bitCount_95d88 35 = .ok (.lload_n 0, 1) := dJ13_bitCount_95d88_22_g.2.2.2.2.2.2.2.2.2.2.2.1
theorem dJ13_bitCount_95d88_36 : decode cJ13_bitCount_95d88 36 = .ok (.bipush 8, 2) := dJ13_bitCount_95d88_22_g.2.2.2.2.2.2.2.2.2.2.2.2.1
theorem dJ13_bitCount_95d88_38 : decode cJ13_bitCount_95d88 38 = .ok (.lushr, 1) := dJ13_bitCount_95d88_22_g.2.2.2.2.2.2.2.2.2.2.2.2.2.1
theorem dJ13_bitCount_95d88_39 : decode cJ13_bitCount_95d88 39 = .ok (.ladd, 1) := dJ13_bitCount_95d88_22_g.2.2.2.2.2.2.2.2.2.2.2.2.2.2.1
theorem dJ13_bitCount_95d88_40 : decode cJ13_bitCount_95d88 40 = .ok (.lstore_n 0, 1) := dJ13_bitCount_95d88_22_g.2.2.2.2.2.2.2.2.2.2.2.2.2.2.2
theorem dJ13_bitCount_95d88_41_g : (decode cJ13_bitCount_95d88 41 = .ok (.lload_n 0, 1)) ∧ (decode cJ13_bitCount_95d88 42 = .ok (.lload_n 0, 1)) ∧ (decode cJ13_bitCount_95d88 43 = .ok (.bipush 16, 2)) ∧ (decode cJ13_bitCount_95d88 45 = .ok (.lushr, 1)) ∧ (decode cJ13_bitCount_95d88 46 = .ok (.ladd, 1)) ∧ (decode cJ13_bitCount_95d88 47 = .ok (.lstore_n 0, 1)) ∧ (decode cJ13_bitCount_95d88 48 = .ok (.lload_n 0, 1)) ∧ (decode cJ13_bitCount_95d88 49 = .ok (.lload_n 0, 1)) ∧ (decode cJ13_bitCount_95d88 50 = .ok (.bipush 32, 2)) ∧ (decode cJ13_bitCount_95d88 52 = .ok (.lushr, 1)) ∧ (decode cJ13_bitCount_95d88 53 = .ok (.ladd, 1)) ∧ (decode cJ13_bitCount_95d88 54 = .ok (.lstore_n 0, 1)) ∧ (decode cJ13_bitCount_95d88 55 = .ok (.lload_n 0, 1)) ∧ (decode cJ13_bitCount_95d88 56 = .ok (.l2i, 1)) ∧ (decode cJ13_bitCount_95d88 57 = .ok (.bipush 127, 2)) ∧ (decode cJ13_bitCount_95d88 59 = .ok (.iand, 1)) := by decide +kernel
theorem dJ13_bitCount_95d88_41 : decode cJ13_bitCount_95d88 41 = .ok (.lload_n 0, 1) := dJ13_bitCount_95d88_41_g.1
theorem dJ13_bitCount_95d88_42 : decode cJ13_bitCount_95d88 42 = .ok (.lload_n 0, 1) := dJ13_bitCount_95d88_41_g.2.1
theorem dJ13_bitCount_95d88_43 : decode cJ13_bitCount_95d88 43 = .ok (.bipush 16, 2) := dJ13_bitCount_95d88_41_g.2.2.1
theorem dJ13_bitCount_95d88_45 : decode cJ13_bitCount_95d88 45 = .ok (.lushr, 1) := dJ13_bitCount_95d88_41_g.2.2.2.1
theorem dJ13_bitCount_95d88_46 : decode cJ13_bitCount_95d88 46 = .ok (.ladd, 1) := dJ13_bitCount_95d88_41_g.2.2.2.2.1
theorem dJ13_bitCount_95d88_47 : decode cJ13_bitCount_95d88 47 = .ok (.lstore_n 0, 1) := dJ13_bitCount_95d88_41_g.2.2.2.2.2.1
theorem dJ13_bitCount_95d88_48 : decode cJ13_bitCount_95d88 48 = .ok (.lload_n 0, 1) := dJ13_bitCount_95d88_41_g.2.2.2.2.2.2.1
theorem dJ13_bitCount_95d88_49 : decode cJ13_bitCount_95d88 49 = .ok (.lload_n 0, 1) := dJ13_bitCount_95d88_41_g.2.2.2.2.2.2.2.1
theorem dJ13_bitCount_95d88_50 : decode cJ13_bitCount_95d88 50 = .ok (.bipush 32, 2) := dJ13_bitCount_95d88_41_g.2.2.2.2.2.2.2.2.1
theorem dJ13_bitCount_95d88_52 : decode cJ13_bitCount_95d88 52 = .ok (.lushr, 1) := dJ13_bitCount_95d88_41_g.2.2.2.2.2.2.2.2.2.1
theorem dJ13_bitCount_95d88_53 : decode cJ13_bitCount_95d88 53 = .ok (.ladd, 1) := dJ13_bitCount_95d88_41_g.2.2.2.2.2.2.2.2.2.2.1
theorem dJ13_bitCount_95d88_54 : decode cJ13_bitCount_95d88 54 = .ok (.lstore_n 0, 1) := dJ13_bitCount_95d88_41_g.2.2.2.2.2.2.2.2.2.2.2.1
theorem dJ13_bitCount_95d88_55 : decode cJ13_bitCount_95d88 55 = .ok (.lload_n 0, 1) := dJ13_bitCount_95d88_41_g.2.2.2.2.2.2.2.2.2.2.2.2.1
theorem dJ13_bitCount_95d88_56 : decode cJ13_bitCount_95d88 56 = .ok (.l2i, 1) := dJ13_bitCount_95d88_41_g.2.2.2.2.2.2.2.2.2.2.2.2.2.1
theorem dJ13_bitCount_95d88_57 : decode cJ13_bitCount_95d88 57 = .ok (.bipush 127, 2) := dJ13_bitCount_95d88_41_g.2.2.2.2.2.2.2.2.2.2.2.2.2.2.1
theorem dJ13_bitCount_95d88_59 : decode cJ13_bitCount_95d88 59 = .ok (.iand, 1) := dJ13_bitCount_95d88_41_g.2.2.2.2.2.2.2.2.2.2.2.2.2.2.2
theorem dJ13_bitCount_95d88_60 : decode cJ13_bitCount_95d88 60 = .ok (.ireturn, 1) := by decide +kernel
theorem dJ9_max_7cf53_0_g : (decode cJ9_max_7cf53 0 = .ok (.iload_n 0, 1)) ∧ (decode cJ9_max_7cf53 1 = .ok (.iload_n 1, 1)) ∧ (decode cJ9_max_7cf53 2 = .ok (.if_icmp .lt 7, 3)) ∧ (decode cJ9_max_7cf53 5 = .ok (.iload_n 0, 1)) ∧ (decode cJ9_max_7cf53 6 = .ok (.goto 4, 3)) ∧ (decode cJ9_max_7cf53 9 = .ok (.iload_n 1, 1)) ∧ (decode cJ9_max_7cf53 10 = .ok (.ireturn, 1)) := by decide +kernel
theorem dJ9_max_7cf53_0 : decode cJ9_max_7cf53 0 = .ok (.iload_n 0, 1) := dJ9_max_7cf53_0_g.1
theorem dJ9_max_7cf53_1 : decode cJ9_max_7cf53 1 = .ok (.iload_n 1, 1) := dJ9_max_7cf53_0_g.2.1
theorem dJ9_max_7cf53_2 : decode cJ9_max_7cf53 2 = .ok (.if_icmp .lt 7, 3) := dJ9_max_7cf53_0_g.2.2.1
theorem dJ9_max_7cf53_5 : decode cJ9_max_7cf53 5 = .ok (.iload_n 0, 1) := dJ9_max_7cf53_0_g.2.2.2.1
theorem dJ9_max_7cf53_6 : decode cJ9_max_7cf53 6 = .ok (.goto 4, 3) := dJ9_max_7cf53_0_g.2.2.2.2.1
theorem dJ9_max_7cf53_9 : decode cJ9_max_7cf53 9 = .ok (.iload_n 1, 1) := dJ9_max_7cf53_0_g.2.2.2.2.2.1
theorem dJ9_max_7cf53_10 : decode cJ9_max_7cf53 10 = .ok (.ireturn, 1) := dJ9_max_7cf53_0_g.2.2.2.2.2.2
theorem dJ9_min_7cf53_0_g : (decode cJ9_min_7cf53 0 = .ok (.iload_n 0, 1)) ∧ (decode cJ9_min_7cf53 1 = .ok (.iload_n 1, 1)) ∧ (decode cJ9_min_7cf53 2 = .ok (.if_icmp .gt 7, 3)) ∧ (decode cJ9_min_7cf53 5 = .ok (.iload_n 0, 1)) ∧ (decode cJ9_min_7cf53 6 = .ok (.goto 4, 3)) ∧ (decode cJ9_min_7cf53 9 = .ok (.iload_n 1, 1)) ∧ (decode cJ9_min_7cf53 10 = .ok (.ireturn, 1)) := by decide +kernel
theorem dJ9_min_7cf53_0 : decode cJ9_min_7cf53 0 = .ok (.iload_n 0, 1) := dJ9_min_7cf53_0_g.1
theorem dJ9_min_7cf53_1 : decode cJ9_min_7cf53 1 = .ok (.iload_n 1, 1) := dJ9_min_7cf53_0_g.2.1
theorem dJ9_min_7cf53_2 : decode cJ9_min_7cf53 2 = .ok (.if_icmp .gt 7, 3) := dJ9_min_7cf53_0_g.2.2.1
theorem dJ9_min_7cf53_5 : decode cJ9_min_7cf53 5 = .ok (.iload_n 0, 1) := dJ9_min_7cf53_0_g.2.2.2.1
theorem dJ9_min_7cf53_6 : decode cJ9_min_7cf53 6 = .ok (.goto 4, 3) := dJ9_min_7cf53_0_g.2.2.2.2.1
theorem dJ9_min_7cf53_9 : decode cJ9_min_7cf53 9 = .ok (.iload_n 1, 1) := dJ9_min_7cf53_0_g.2.2.2.2.2.1
theorem dJ9_min_7cf53_10 : decode cJ9_min_7cf53 10 = .ok (.ireturn, 1) := dJ9_min_7cf53_0_g.2.2.2.2.2.2
