def wd_0 (a : Nat → Nat) (cI cL cB cZ : ClassId) (z : Nat → Nat) (S : mq_St) : va_W := []
theorem zt_k_J13_314 : Cond.constantLong RJ13 314 ((6148914691236517205 : Int64)) ∈ mq_T := mq_T_mem (mq_t4 (List.mem_of_getElem? (i := 79) rfl)) rfl
theorem zt_k_J13_316 : Cond.constantLong RJ13 316 ((3689348814741910323 : Int64)) ∈ mq_T := mq_T_mem (mq_t4 (List.mem_of_getElem? (i := 80) rfl)) rfl
theorem zt_k_J13_318 : Cond.constantLong RJ13 318 ((1085102592571150095 : Int64)) ∈ mq_T := mq_T_mem (mq_t4 (List.mem_of_getElem? (i := 81) rfl)) rfl
/-! java/lang/Long.bitCount(J)I -/
def zr_J13_bitCount_95d88 : Room := { frames := 0, cells := 0, slots := 0, locals := 0 }
def zc_J13_bitCount_95d88 : Cond := .code yJ13_bitCount_95d88 cJ13_bitCount_95d88 2 (some .int)
def zf_J13_bitCount_95d88 (N : Nat) (z : Nat → Nat) (v0 : Int64) (S : mq_St) : Option (Int32) := (mq_nL ((v0 - ((mq_lushr v0 (1 : Int32)) &&& (6148914691236517205 : Int64)))) (fun x1 => (mq_nL (((x1 &&& (3689348814741910323 : Int64)) + ((mq_lushr x1 (2 : Int32)) &&& (3689348814741910323 : Int64)))) (fun x2 => (mq_nL (((x2 + (mq_lushr x2 (4 : Int32))) &&& (1085102592571150095 : Int64))) (fun x3 => (mq_nL ((x3 + (mq_lushr x3 (8 : Int32)))) (fun x4 => (mq_nL ((x4 + (mq_lushr x4 (16 : Int32)))) (fun x5 => (mq_nL ((x5 + (mq_lushr x5 (32 : Int32)))) (fun x6 => (some ((((x6).toInt32) &&& (127 : Int32))))))))))))))))
set_option maxHeartbeats 4000000 in
set_option maxRecDepth 100000 in
theorem zw_J13_bitCount_95d88_0 {p : Program} {l : Launch} {e : Env} {s : State} {m : MethodId} {args : Array Value} {below : List Frame} {meth : Method} {c : Code} {A : Nat → Prop} {D : va_G} {a z : Nat → Nat} {cI cL cB cZ : ClassId} {Q : State → Prop} {N : Nat} {S : mq_St} {res : Int32} (C : mq_C p s m args c A D cI cL cB cZ cJ13_bitCount_95d88 2 RJ13 zc_J13_bitCount_95d88) (hret : ∀ (H : Heap) (locs : List Loc) (ls : Array Slot) (pc : Nat), decode cJ13_bitCount_95d88 pc = .ok (.ireturn, 1) → va_P D vwCl (wd_0 a cI cL cB cZ z S) H → va_D A (wd_0 a cI cL cB cZ z S) → va_S A s.heap H locs → W p l e zr_J13_bitCount_95d88 s m args below meth c H locs 0 0 Q (F0 m pc ls [.int res])) (v0 : Int64) (H : Heap) (locs : List Loc) (ls : Array Slot) (h : zf_J13_bitCount_95d88 N z v0 S = some res) (hl : lv_has ls 2 [(0, .long (v0))]) (hP : va_P D vwCl (wd_0 a cI cL cB cZ z S) H) (hD : va_D A (wd_0 a cI cL cB cZ z S)) (hS : va_S A s.heap H locs) : W p l e zr_J13_bitCount_95d88 s m args below meth c H locs 0 0 Q (F0 m 0 ls []) := by
  obtain ⟨hx, hb, hml, hown, hts, hK, hA⟩ := id C
  unfold zf_J13_bitCount_95d88 at h
  refine lv_lload_n hx hb dJ13_bitCount_95d88_0 rfl (lv_at hl 0 rfl) ?_
  refine lv_lload_n hx hb dJ13_bitCount_95d88_1 rfl (lv_at hl 0 rfl) ?_
  refine lv_iconst (v := (1 : Int32)) hx hb dJ13_bitCount_95d88_2 (by decide) ?_
  refine lv_lushr (v := (mq_lushr v0 (1 : Int32))) hx hb dJ13_bitCount_95d88_3 rfl ?_
  refine lv_ldc2 (v := (6148914691236517205 : Int64)) hx hb hown (hts _ (List.mem_cons_of_mem _ zt_k_J13_314)) dJ13_bitCount_95d88_4 ?_
  refine lv_land hx hb dJ13_bitCount_95d88_7 ?_
  refine lv_lsub hx hb dJ13_bitCount_95d88_8 ?_
  refine lv_topl (fun x1 ex1 => ?_)
  replace h := mq_nL_go ex1 h
  refine lv_lstore_n (lv' := [(0, .long (x1))]) hx hb dJ13_bitCount_95d88_9 rfl hl (by decide) rfl (fun ls hl => ?_)
  refine lv_lload_n hx hb dJ13_bitCount_95d88_10 rfl (lv_at hl 0 rfl) ?_
  refine lv_ldc2 (v := (3689348814741910323 : Int64)) hx hb hown (hts _ (List.mem_cons_of_mem _ zt_k_J13_316)) dJ13_bitCount_95d88_11 ?_
  refine lv_land hx hb dJ13_bitCount_95d88_14 ?_
  refine lv_lload_n hx hb dJ13_bitCount_95d88_15 rfl (lv_at hl 0 rfl) ?_
  refine lv_iconst (v := (2 : Int32)) hx hb dJ13_bitCount_95d88_16 (by decide) ?_
  refine lv_lushr (v := (mq_lushr x1 (2 : Int32))) hx hb dJ13_bitCount_95d88_17 rfl ?_
  refine lv_ldc2 (v := (3689348814741910323 : Int64)) hx hb hown (hts _ (List.mem_cons_of_mem _ zt_k_J13_316)) dJ13_bitCount_95d88_18 ?_
  refine lv_land hx hb dJ13_bitCount_95d88_21 ?_
  refine lv_ladd hx hb dJ13_bitCount_95d88_22 ?_
  refine lv_topl (fun x2 ex2 => ?_)
  replace h := mq_nL_go ex2 h
  refine lv_lstore_n (lv' := [(0, .long (x2))]) hx hb dJ13_bitCount_95d88_23 rfl hl (by decide) rfl (fun ls hl => ?_)
  refine lv_lload_n hx hb dJ13_bitCount_95d88_24 rfl (lv_at hl 0 rfl) ?_
  refine lv_lload_n hx hb dJ13_bitCount_95d88_25 rfl (lv_at hl 0 rfl) ?_
  refine lv_iconst (v := (4 : Int32)) hx hb dJ13_bitCount_95d88_26 (by decide) ?_
  refine lv_lushr (v := (mq_lushr x2 (4 : Int32))) hx hb dJ13_bitCount_95d88_27 rfl ?_
  refine lv_ladd hx hb dJ13_bitCount_95d88_28 ?_
  refine lv_ldc2 (v := (1085102592571150095 : Int64)) hx hb hown (hts _ (List.mem_cons_of_mem _ zt_k_J13_318)) dJ13_bitCount_95d88_29 ?_
  refine lv_land hx hb dJ13_bitCount_95d88_32 ?_
  refine lv_topl (fun x3 ex3 => ?_)
  replace h := mq_nL_go ex3 h
  refine lv_lstore_n (lv' := [(0, .long (x3))]) hx hb dJ13_bitCount_95d88_33 rfl hl (by decide) rfl (fun ls hl => ?_)
  refine lv_lload_n hx hb dJ13_bitCount_95d88_34 rfl (lv_at hl 0 rfl) ?_
  refine lv_lload_n hx hb dJ13_bitCount_95d88_35 rfl (lv_at hl 0 rfl) ?_
  refine lv_bipush (v := (8 : Int32)) hx hb dJ13_bitCount_95d88_36 (by decide) ?_
  refine lv_lushr (v := (mq_lushr x3 (8 : Int32))) hx hb dJ13_bitCount_95d88_38 rfl ?_
  refine lv_ladd hx hb dJ13_bitCount_95d88_39 ?_
  refine lv_topl (fun x4 ex4 => ?_)
  replace h := mq_nL_go ex4 h
  refine lv_lstore_n (lv' := [(0, .long (x4))]) hx hb dJ13_bitCount_95d88_40 rfl hl (by decide) rfl (fun ls hl => ?_)
  refine lv_lload_n hx hb dJ13_bitCount_95d88_41 rfl (lv_at hl 0 rfl) ?_
  refine lv_lload_n hx hb dJ13_bitCount_95d88_42 rfl (lv_at hl 0 rfl) ?_
  refine lv_bipush (v := (16 : Int32)) hx hb dJ13_bitCount_95d88_43 (by decide) ?_
  refine lv_lushr (v := (mq_lushr x4 (16 : Int32))) hx hb dJ13_bitCount_95d88_45 rfl ?_
  refine lv_ladd hx hb dJ13_bitCount_95d88_46 ?_
  refine lv_topl (fun x5 ex5 => ?_)
  replace h := mq_nL_go ex5 h
  refine lv_lstore_n (lv' := [(0, .long (x5))]) hx hb dJ13_bitCount_95d88_47 rfl hl (by decide) rfl (fun ls hl => ?_)
  refine lv_lload_n hx hb dJ13_bitCount_95d88_48 rfl (lv_at hl 0 rfl) ?_
  refine lv_lload_n hx hb dJ13_bitCount_95d88_49 rfl (lv_at hl 0 rfl) ?_
  refine lv_bipush (v := (32 : Int32)) hx hb dJ13_bitCount_95d88_50 (by decide) ?_
  refine lv_lushr (v := (mq_lushr x5 (32 : Int32))) hx hb dJ13_bitCount_95d88_52 rfl ?_
  refine lv_ladd hx hb dJ13_bitCount_95d88_53 ?_
  refine lv_topl (fun x6 ex6 => ?_)
  replace h := mq_nL_go ex6 h
  refine lv_lstore_n (lv' := [(0, .long (x6))]) hx hb dJ13_bitCount_95d88_54 rfl hl (by decide) rfl (fun ls hl => ?_)
  refine lv_lload_n hx hb dJ13_bitCount_95d88_55 rfl (lv_at hl 0 rfl) ?_
  refine lv_l2i (v := (x6).toInt32) hx hb dJ13_bitCount_95d88_56 rfl ?_
  refine lv_bipush (v := (127 : Int32)) hx hb dJ13_bitCount_95d88_57 (by decide) ?_
  refine lv_iand hx hb dJ13_bitCount_95d88_59 ?_
  cases h
  exact hret H locs ls 60 dJ13_bitCount_95d88_60 hP hD hS
set_option maxHeartbeats 4000000 in
set_option maxRecDepth 100000 in
theorem zm_J13_bitCount_95d88 (l : Launch) (D : va_G) (a z : Nat → Nat) (cI cL cB cZ : ClassId) (sz N : Nat) (v0 : Int64) (S : mq_St) (res : Int32) (h : zf_J13_bitCount_95d88 N z v0 S = some res) : Met l yJ13_bitCount_95d88 (zc_J13_bitCount_95d88 :: mq_T) zr_J13_bitCount_95d88 (va_Pc [.long (v0)] (fun U => U.heap.size = sz ∧ va_P D vwCl (wd_0 a cI cL cB cZ z S) U.heap ∧ va_K D vwCl (mq_tys cI cL cB cZ) U ∧ va_D (fun _ => True) (wd_0 a cI cL cB cZ z S))) (va_Qi (fun (r : Int32) (u : mq_St) => r = res ∧ u = S) (fun u t => va_P D vwCl (wd_0 a cI cL cB cZ z u) t.heap ∧ va_K D vwCl (mq_tys cI cL cB cZ) t ∧ va_D (va_A (wd_0 a cI cL cB cZ z S) sz) (wd_0 a cI cL cB cZ z u)) (va_A (wd_0 a cI cL cB cZ z S) sz)) 0 0 (va_A (wd_0 a cI cL cB cZ z S) sz) := by
  refine Met.ofW (cc := cJ13_bitCount_95d88) (maxL := 2) (ret := (some .int)) (by decide) rfl ?_
  intro p e s m args below meth c s₁ B hml hv
  obtain ⟨rfl, hsz, hP, hK, hD0⟩ := hv
  have hr := B.returns
  have hlocks := B.notSynchronized
  have hts := atoms_spec (ws := zc_J13_bitCount_95d88 :: mq_T) B.pre
  have hown : s.vm.findClass RJ13 = some m.cls := findClass_of_methodNamed B.named
  subst hsz
  have hD := hD0.self (sz := s.heap.size)
  generalize hAe : va_A (wd_0 a cI cL cB cZ z S) s.heap.size = A at hD ⊢
  have hA : ∀ q : Nat, s.heap.size ≤ q → A q := fun q h => by rw [← hAe]; exact Or.inr h
  have hl := lv_entry ([.long (v0)]) (n := 2) (Nat.le_of_ble_eq_true rfl)
  rw [lg_entry_eq]
  generalize (lg_sl ([.long (v0)]) ++ List.replicate (2 - (lg_sl ([.long (v0)])).length) Slot.unset).toArray = ls at hl ⊢
  have hl : lv_has ls 2 [(0, .long (v0))] := hl
  refine zw_J13_bitCount_95d88_0 (A := A) ⟨B.exec, B.bytes, hml, hown, hts, hK, hA⟩ (fun H locs ls pc dg hP hD hS => ?_) v0 s.heap [] ls h hl hP hD va_S.rf
  exact W.iret B.exec B.bytes hr (fun t ht hW => ⟨⟨_, _, rfl, ⟨rfl, rfl⟩, by rw [ht]; exact hP, va_K.moved hW.alike hK, hD⟩, hS.F ht⟩) hS.2.2 dg
theorem zt_J13_bitCount_95d88_c : zc_J13_bitCount_95d88 ∈ mq_T := mq_T_mem (mq_t4 (List.mem_of_getElem? (i := 78) rfl)) rfl
theorem zt_J13_bitCount_95d88_s : Cond.static yJ13_bitCount_95d88 ∈ mq_T := mq_T_mem (mq_t4 (List.mem_of_getElem? (i := 77) rfl)) rfl
theorem zt_ini_J13 : Cond.initialized RJ13 ∈ mq_T := mq_T_mem (mq_t1 (List.mem_of_getElem? (i := 14) rfl)) rfl
set_option maxHeartbeats 4000000 in
theorem zv_J13_bitCount_95d88 {p : Program} {l : Launch} {e : Env} {R : Room} {s : State} {m : MethodId} {args : Array Value} {below : List Frame} {meth : Method} {c : Code} {A : Nat → Prop} {D : va_G} {a z : Nat → Nat} {cI cL cB cZ : ClassId} {Q : State → Prop} {cc : ByteArray} {nL idx pc N : Nat} {own : String} {c1 : Cond} {H : Heap} {locs : List Loc} {ls : Array Slot} {rest : List Value} {S : mq_St} {res : Int32} {v0 : Int64} {ws : va_W} (is : List Nat) (C : mq_C p s m args c A D cI cL cB cZ cc nL own c1) (hlk : Cond.methodLink own idx yJ13_bitCount_95d88 ∈ mq_T) (hR : zr_J13_bitCount_95d88.frames + 1 ≤ R.frames ∧ 8 + (2 + 11) + zr_J13_bitCount_95d88.locals ≤ R.locals) (h : zf_J13_bitCount_95d88 N z v0 S = some res) (hC : is.map (fun i => ws[i]?) = (wd_0 a cI cL cB cZ z S).map some) (hnd : va_nd is = true) (hP : va_P D vwCl ws H) (hD : va_D A ws) (hS : va_S A s.heap H locs) (hls : ls.size = nL) (hrest : (rest.map fun v => v.category).sum ≤ 8) (hdg : decode cc pc = .ok (.invokestatic idx, 3)) (kk : ∀ (H1 : Heap) (locs1 : List Loc), va_P D vwCl ws H1 → va_D A ws → va_S A s.heap H1 locs1 → W p l e R s m args below meth c H1 locs1 0 0 Q (F0 m (pc + 3) ls (.int res :: rest))) : W p l e R s m args below meth c H locs 0 0 Q (F0 m pc ls (.long (v0) :: rest)) := by
  obtain ⟨hx, hb, hml, hown, hts, hK, hA⟩ := C
  have hPc := mq_subP hP is hC
  have hDc := hD.sub is hnd hC
  have hFc := va_free hD hS hA is hC
  refine va_calli (va_runS (As := [.long (v0)]) (rest := rest) ⟨hx, hb, hml, hown, hts⟩ (zm_J13_bitCount_95d88 l D a z cI cL cB cZ H.size N v0 S res h) (va_cwS 1 hts (mq_goodL (mq_wsS hlk zt_J13_bitCount_95d88_s zt_ini_J13 zt_J13_bitCount_95d88_c)) rfl rfl rfl (by decide +kernel) hR) ⟨fun a U g mk q => ⟨q.1, q.2.1, q.2.2.1, va_K.moved (u := U) (U := U.calling g mk a) (Vm.Alike.refl U.vm) q.2.2.2.1, q.2.2.2.2⟩, fun U hU hW => ⟨rfl, by rw [hU], by rw [hU]; exact hPc, va_K.moved hW.alike hK, hDc.weaken (fun _ _ _ _ => trivial)⟩⟩ rfl rfl hls rfl (lv_room hrest) hdg ⟨Nat.zero_le _, Nat.zero_le _⟩) hS (fun q _ h => hFc q h) hFc (fun r u t H1 locs ht hvm hw1 hB hz1 hk1 hS => ?_)
  obtain ⟨rfl, rfl⟩ := hw1
  obtain ⟨hP1, hK1, hD1⟩ := hB
  rw [ht] at hP1
  obtain ⟨hP2, hD2⟩ := mq_join hP hD is hC rfl hk1 hP1
  rw [mq_setM_same is _ ws hC] at hP2 hD2
  exact kk H1 locs hP2 hD2 hS
def wd_B (a : Nat → Nat) (cI cL cB cZ : ClassId) (z : Nat → Nat) (S : mq_St) : va_W := [(a 0, .inr (0, [.ref (a 1), .int (S.1 0)])), (a 1, .inl (cI, 1000, .inl (S.2.1 0)))]
theorem zt_f_X0_15 : Cond.fieldLink RX0 15 "ModalDesk$ByteRow" "size" "I" ∈ mq_T := mq_T_mem (mq_t1 (List.mem_of_getElem? (i := 34) rfl)) rfl
theorem zi_X0 (c1 : Cond) : ∀ w ∈ u_ws RX0 TX0 2, w ∈ c1 :: mq_T := fun w h => List.mem_cons_of_mem _ (mq_T_mem (mq_inl [(1, 35), (1, 37)] (by decide +kernel) w h) ((by decide +kernel : ∀ w ∈ u_ws RX0 TX0 2, goodWord w = true) w h))
/-! ModalDesk$ByteRow.size()I -/
def zr_X0_size : Room := { frames := 0, cells := 0, slots := 0, locals := 0 }
def zc_X0_size : Cond := .code yX0_size cX0_size 1 (some .int)
def zf_X0_size (N : Nat) (z : Nat → Nat) (S : mq_St) : Option (Int32) := (some ((S.1 0)))
set_option maxHeartbeats 4000000 in
set_option maxRecDepth 100000 in
theorem zw_X0_size_0 {p : Program} {l : Launch} {e : Env} {s : State} {m : MethodId} {args : Array Value} {below : List Frame} {meth : Method} {c : Code} {A : Nat → Prop} {D : va_G} {a z : Nat → Nat} {cI cL cB cZ : ClassId} {Q : State → Prop} {N : Nat} {S : mq_St} {res : Int32} (C : mq_C p s m args c A D cI cL cB cZ cX0_size 1 RX0 zc_X0_size) (hret : ∀ (H : Heap) (locs : List Loc) (ls : Array Slot) (pc : Nat), decode cX0_size pc = .ok (.ireturn, 1) → va_P D vwCl (wd_B a cI cL cB cZ z S) H → va_D A (wd_B a cI cL cB cZ z S) → va_S A s.heap H locs → W p l e zr_X0_size s m args below meth c H locs 0 0 Q (F0 m pc ls [.int res])) (H : Heap) (locs : List Loc) (ls : Array Slot) (h : zf_X0_size N z S = some res) (hl : lv_has ls 1 [(0, .ref (a 0))]) (hP : va_P D vwCl (wd_B a cI cL cB cZ z S) H) (hD : va_D A (wd_B a cI cL cB cZ z S)) (hS : va_S A s.heap H locs) : W p l e zr_X0_size s m args below meth c H locs 0 0 Q (F0 m 0 ls []) := by
  obtain ⟨hx, hb, hml, hown, hts, hK, hA⟩ := id C
  unfold zf_X0_size at h
  refine lv_aload_n hx hb dX0_size_0 rfl (lv_at hl 0 rfl) ?_
  refine va_get (D := D) (ci := 0) (v := .int ((S.1 0))) (C := RX0) (T := TX0) (N := 2) hx hb hts (zi_X0 _) hown hK hP 0 rfl rfl 1 (by decide) (hts _ (List.mem_cons_of_mem _ zt_f_X0_15)) (fun _ h9 => h9) rfl dX0_size_1 ?_
  cases h
  exact hret H locs ls 4 dX0_size_4 hP hD hS
set_option maxHeartbeats 4000000 in
set_option maxRecDepth 100000 in
theorem zm_X0_size (l : Launch) (D : va_G) (a z : Nat → Nat) (cI cL cB cZ : ClassId) (sz N : Nat) (S : mq_St) (res : Int32) (h : zf_X0_size N z S = some res) : Met l yX0_size (zc_X0_size :: mq_T) zr_X0_size (va_Pc [.ref (a 0)] (fun U => U.heap.size = sz ∧ va_P D vwCl (wd_B a cI cL cB cZ z S) U.heap ∧ va_K D vwCl (mq_tys cI cL cB cZ) U ∧ va_D (fun _ => True) (wd_B a cI cL cB cZ z S))) (va_Qi (fun (r : Int32) (u : mq_St) => r = res ∧ u = S) (fun u t => va_P D vwCl (wd_B a cI cL cB cZ z u) t.heap ∧ va_K D vwCl (mq_tys cI cL cB cZ) t ∧ va_D (va_A (wd_B a cI cL cB cZ z S) sz) (wd_B a cI cL cB cZ z u)) (va_A (wd_B a cI cL cB cZ z S) sz)) 0 0 (va_A (wd_B a cI cL cB cZ z S) sz) := by
  refine Met.ofW (cc := cX0_size) (maxL := 1) (ret := (some .int)) (by decide) rfl ?_
  intro p e s m args below meth c s₁ B hml hv
  obtain ⟨rfl, hsz, hP, hK, hD0⟩ := hv
  have hr := B.returns
  have hlocks := B.notSynchronized
  have hts := atoms_spec (ws := zc_X0_size :: mq_T) B.pre
  have hown : s.vm.findClass RX0 = some m.cls := findClass_of_methodNamed B.named
  subst hsz
  have hD := hD0.self (sz := s.heap.size)
  generalize hAe : va_A (wd_B a cI cL cB cZ z S) s.heap.size = A at hD ⊢
  have hA : ∀ q : Nat, s.heap.size ≤ q → A q := fun q h => by rw [← hAe]; exact Or.inr h
  have hl := lv_entry ([.ref (a 0)]) (n := 1) (Nat.le_of_ble_eq_true rfl)
  rw [lg_entry_eq]
  generalize (lg_sl ([.ref (a 0)]) ++ List.replicate (1 - (lg_sl ([.ref (a 0)])).length) Slot.unset).toArray = ls at hl ⊢
  have hl : lv_has ls 1 [(0, .ref (a 0))] := hl
  refine zw_X0_size_0 (A := A) ⟨B.exec, B.bytes, hml, hown, hts, hK, hA⟩ (fun H locs ls pc dg hP hD hS => ?_) s.heap [] ls h hl hP hD va_S.rf
  exact W.iret B.exec B.bytes hr (fun t ht hW => ⟨⟨_, _, rfl, ⟨rfl, rfl⟩, by rw [ht]; exact hP, va_K.moved hW.alike hK, hD⟩, hS.F ht⟩) hS.2.2 dg
theorem zt_X0_size_c : zc_X0_size ∈ mq_T := mq_T_mem (mq_t2 (List.mem_of_getElem? (i := 147) rfl)) rfl
theorem zt_X0_size_i : Cond.instanceMethod yX0_size ∈ mq_T := mq_T_mem (mq_t2 (List.mem_of_getElem? (i := 145) rfl)) rfl
theorem zt_X0_size_s : Cond.selects RX0 yX0_size yX0_size ∈ mq_T := mq_T_mem (mq_t2 (List.mem_of_getElem? (i := 146) rfl)) rfl
theorem zt_ini_X0 : Cond.initialized RX0 ∈ mq_T := mq_T_mem (mq_t1 (List.mem_of_getElem? (i := 2) rfl)) rfl
set_option maxHeartbeats 4000000 in
theorem zv_X0_size {p : Program} {l : Launch} {e : Env} {R : Room} {s : State} {m : MethodId} {args : Array Value} {below : List Frame} {meth : Method} {c : Code} {A : Nat → Prop} {D : va_G} {a z : Nat → Nat} {cI cL cB cZ : ClassId} {Q : State → Prop} {cc : ByteArray} {nL idx pc N : Nat} {own : String} {c1 : Cond} {H : Heap} {locs : List Loc} {ls : Array Slot} {rest : List Value} {S : mq_St} {res : Int32} {ws : va_W} (is : List Nat) (C : mq_C p s m args c A D cI cL cB cZ cc nL own c1) (hlk : Cond.methodLink own idx yX0_size ∈ mq_T) (hR : zr_X0_size.frames + 1 ≤ R.frames ∧ 8 + (1 + 11) + zr_X0_size.locals ≤ R.locals) (h : zf_X0_size N z S = some res) (hC : is.map (fun i => ws[i]?) = (wd_B a cI cL cB cZ z S).map some) (hnd : va_nd is = true) (hP : va_P D vwCl ws H) (hD : va_D A ws) (hS : va_S A s.heap H locs) (hls : ls.size = nL) (hrest : (rest.map fun v => v.category).sum ≤ 8) (hdg : decode cc pc = .ok (.invokevirtual idx, 3)) (kk : ∀ (H1 : Heap) (locs1 : List Loc), va_P D vwCl ws H1 → va_D A ws → va_S A s.heap H1 locs1 → W p l e R s m args below meth c H1 locs1 0 0 Q (F0 m (pc + 3) ls (.int res :: rest))) : W p l e R s m args below meth c H locs 0 0 Q (F0 m pc ls (.ref (a 0) :: rest)) := by
  obtain ⟨hx, hb, hml, hown, hts, hK, hA⟩ := C
  have hPc := mq_subP hP is hC
  have hDc := hD.sub is hnd hC
  have hFc := va_free hD hS hA is hC
  refine va_calli (va_runV (As := []) (rest := rest) ⟨hx, hb, hml, hown, hts⟩ (zm_X0_size l D a z cI cL cB cZ H.size N S res h) (cwV 0 hts (mq_goodL (mq_wsV hlk zt_X0_size_i zt_X0_size_s zt_ini_X0 zt_X0_size_c)) rfl rfl rfl (by decide +kernel) hR) ⟨fun a U g mk q => ⟨q.1, q.2.1, q.2.2.1, va_K.moved (u := U) (U := U.calling g mk a) (Vm.Alike.refl U.vm) q.2.2.2.1, q.2.2.2.2⟩, va_recv hK hPc (ci := 0) (q0 := 0) rfl rfl, fun U hU hW => ⟨rfl, by rw [hU], by rw [hU]; exact hPc, va_K.moved hW.alike hK, hDc.weaken (fun _ _ _ _ => trivial)⟩⟩ rfl rfl hls rfl (lv_room hrest) hdg ⟨Nat.zero_le _, Nat.zero_le _⟩) hS (fun q _ h => hFc q h) hFc (fun r u t H1 locs ht hvm hw1 hB hz1 hk1 hS => ?_)
  obtain ⟨rfl, rfl⟩ := hw1
  obtain ⟨hP1, hK1, hD1⟩ := hB
  rw [ht] at hP1
  obtain ⟨hP2, hD2⟩ := mq_join hP hD is hC rfl hk1 hP1
  rw [mq_setM_same is _ ws hC] at hP2 hD2
  exact kk H1 locs hP2 hD2 hS
theorem zt_f_X0_9 : Cond.fieldLink RX0 9 "ModalDesk$ByteRow" "words" "[I" ∈ mq_T := mq_T_mem (mq_t1 (List.mem_of_getElem? (i := 33) rfl)) rfl
/-! ModalDesk$ByteRow.at(I)I -/
def zr_X0_at : Room := { frames := 0, cells := 0, slots := 0, locals := 0 }
def zc_X0_at : Cond := .code yX0_at cX0_at 2 (some .int)
def zf_X0_at (N : Nat) (z : Nat → Nat) (v1 : Int32) (S : mq_St) : Option (Int32) := (if v1 < (0 : Int32) then (some ((-1 : Int32))) else (if v1 < (S.1 0) then (mq_ck ((v1 >>> ((2 : Int32) &&& (31 : Int32)))) 1000 (some (((mq_iushr (S.2.1 0 ((v1 >>> ((2 : Int32) &&& (31 : Int32)))).toNatClampNeg) ((24 : Int32) - ((8 : Int32) * (v1 &&& (3 : Int32))))) &&& (255 : Int32))))) else (some ((-1 : Int32)))))
set_option maxHeartbeats 4000000 in
set_option maxRecDepth 100000 in
theorem zw_X0_at_0 {p : Program} {l : Launch} {e : Env} {s : State} {m : MethodId} {args : Array Value} {below : List Frame} {meth : Method} {c : Code} {A : Nat → Prop} {D : va_G} {a z : Nat → Nat} {cI cL cB cZ : ClassId} {Q : State → Prop} {N : Nat} {S : mq_St} {res : Int32} (C : mq_C p s m args c A D cI cL cB cZ cX0_at 2 RX0 zc_X0_at) (hret : ∀ (H : Heap) (locs : List Loc) (ls : Array Slot) (pc : Nat), decode cX0_at pc = .ok (.ireturn, 1) → va_P D vwCl (wd_B a cI cL cB cZ z S) H → va_D A (wd_B a cI cL cB cZ z S) → va_S A s.heap H locs → W p l e zr_X0_at s m args below meth c H locs 0 0 Q (F0 m pc ls [.int res])) (v1 : Int32) (H : Heap) (locs : List Loc) (ls : Array Slot) (h : zf_X0_at N z v1 S = some res) (hl : lv_has ls 2 [(0, .ref (a 0)), (1, .int (v1))]) (hP : va_P D vwCl (wd_B a cI cL cB cZ z S) H) (hD : va_D A (wd_B a cI cL cB cZ z S)) (hS : va_S A s.heap H locs) : W p l e zr_X0_at s m args below meth c H locs 0 0 Q (F0 m 0 ls []) := by
  obtain ⟨hx, hb, hml, hown, hts, hK, hA⟩ := id C
  unfold zf_X0_at at h
  refine lv_iload_n hx hb dX0_at_0 rfl (lv_at hl 1 rfl) ?_
  refine lv_if_lt (tgt := 12) hx hb dX0_at_1 (by decide) (fun c3 => ?_) (fun c3 => ?_)
  · replace h := mq_it c3 h
    refine lv_iconst (v := (-1 : Int32)) hx hb dX0_at_12 (by decide) ?_
    cases h
    exact hret H locs ls 13 dX0_at_13 hP hD hS
  · replace h := mq_if c3 h
    refine lv_iload_n hx hb dX0_at_4 rfl (lv_at hl 1 rfl) ?_
    refine lv_aload_n hx hb dX0_at_5 rfl (lv_at hl 0 rfl) ?_
    refine va_get (D := D) (ci := 0) (v := .int ((S.1 0))) (C := RX0) (T := TX0) (N := 2) hx hb hts (zi_X0 _) hown hK hP 0 rfl rfl 1 (by decide) (hts _ (List.mem_cons_of_mem _ zt_f_X0_15)) (fun _ h9 => h9) rfl dX0_at_6 ?_
    refine lv_icmp_lt (tgt := 14) hx hb dX0_at_9 (by decide) (fun c2 => ?_) (fun c2 => ?_)
    · replace h := mq_it c2 h
      refine lv_aload_n hx hb dX0_at_14 rfl (lv_at hl 0 rfl) ?_
      refine va_get (D := D) (ci := 0) (v := .ref (a 1)) (C := RX0) (T := TX0) (N := 2) hx hb hts (zi_X0 _) hown hK hP 0 rfl rfl 0 (by decide) (hts _ (List.mem_cons_of_mem _ zt_f_X0_9)) (fun _ h9 => h9) rfl dX0_at_15 ?_
      refine lv_iload_n hx hb dX0_at_18 rfl (lv_at hl 1 rfl) ?_
      refine lv_iconst (v := (2 : Int32)) hx hb dX0_at_19 (by decide) ?_
      refine lv_ishr hx hb dX0_at_20 ?_
      have hi1 := mq_ck_in h
      replace h := mq_ck_go h
      refine va_iald (f := S.2.1 0) hx hb hK hP 1 0 rfl rfl hi1 dX0_at_21 ?_
      refine lv_bipush (v := (24 : Int32)) hx hb dX0_at_22 (by decide) ?_
      refine lv_bipush (v := (8 : Int32)) hx hb dX0_at_24 (by decide) ?_
      refine lv_iload_n hx hb dX0_at_26 rfl (lv_at hl 1 rfl) ?_
      refine lv_iconst (v := (3 : Int32)) hx hb dX0_at_27 (by decide) ?_
      refine lv_iand hx hb dX0_at_28 ?_
      refine lv_imul hx hb dX0_at_29 ?_
      refine lv_isub hx hb dX0_at_30 ?_
      refine lv_iushr (v := (mq_iushr (S.2.1 0 ((v1 >>> ((2 : Int32) &&& (31 : Int32)))).toNatClampNeg) ((24 : Int32) - ((8 : Int32) * (v1 &&& (3 : Int32)))))) hx hb dX0_at_31 rfl ?_
      refine lv_sipush (v := (255 : Int32)) hx hb dX0_at_32 (by decide) ?_
      refine lv_iand hx hb dX0_at_35 ?_
      cases h
      exact hret H locs ls 36 dX0_at_36 hP hD hS
    · replace h := mq_if c2 h
      refine lv_iconst (v := (-1 : Int32)) hx hb dX0_at_12 (by decide) ?_
      cases h
      exact hret H locs ls 13 dX0_at_13 hP hD hS
set_option maxHeartbeats 4000000 in
set_option maxRecDepth 100000 in
theorem zm_X0_at (l : Launch) (D : va_G) (a z : Nat → Nat) (cI cL cB cZ : ClassId) (sz N : Nat) (v1 : Int32) (S : mq_St) (res : Int32) (h : zf_X0_at N z v1 S = some res) : Met l yX0_at (zc_X0_at :: mq_T) zr_X0_at (va_Pc [.ref (a 0), .int (v1)] (fun U => U.heap.size = sz ∧ va_P D vwCl (wd_B a cI cL cB cZ z S) U.heap ∧ va_K D vwCl (mq_tys cI cL cB cZ) U ∧ va_D (fun _ => True) (wd_B a cI cL cB cZ z S))) (va_Qi (fun (r : Int32) (u : mq_St) => r = res ∧ u = S) (fun u t => va_P D vwCl (wd_B a cI cL cB cZ z u) t.heap ∧ va_K D vwCl (mq_tys cI cL cB cZ) t ∧ va_D (va_A (wd_B a cI cL cB cZ z S) sz) (wd_B a cI cL cB cZ z u)) (va_A (wd_B a cI cL cB cZ z S) sz)) 0 0 (va_A (wd_B a cI cL cB cZ z S) sz) := by
  refine Met.ofW (cc := cX0_at) (maxL := 2) (ret := (some .int)) (by decide) rfl ?_
  intro p e s m args below meth c s₁ B hml hv
  obtain ⟨rfl, hsz, hP, hK, hD0⟩ := hv
  have hr := B.returns
  have hlocks := B.notSynchronized
  have hts := atoms_spec (ws := zc_X0_at :: mq_T) B.pre
  have hown : s.vm.findClass RX0 = some m.cls := findClass_of_methodNamed B.named
  subst hsz
  have hD := hD0.self (sz := s.heap.size)
  generalize hAe : va_A (wd_B a cI cL cB cZ z S) s.heap.size = A at hD ⊢
  have hA : ∀ q : Nat, s.heap.size ≤ q → A q := fun q h => by rw [← hAe]; exact Or.inr h
  have hl := lv_entry ([.ref (a 0), .int (v1)]) (n := 2) (Nat.le_of_ble_eq_true rfl)
  rw [lg_entry_eq]
  generalize (lg_sl ([.ref (a 0), .int (v1)]) ++ List.replicate (2 - (lg_sl ([.ref (a 0), .int (v1)])).length) Slot.unset).toArray = ls at hl ⊢
  have hl : lv_has ls 2 [(0, .ref (a 0)), (1, .int (v1))] := hl
  refine zw_X0_at_0 (A := A) ⟨B.exec, B.bytes, hml, hown, hts, hK, hA⟩ (fun H locs ls pc dg hP hD hS => ?_) v1 s.heap [] ls h hl hP hD va_S.rf
  exact W.iret B.exec B.bytes hr (fun t ht hW => ⟨⟨_, _, rfl, ⟨rfl, rfl⟩, by rw [ht]; exact hP, va_K.moved hW.alike hK, hD⟩, hS.F ht⟩) hS.2.2 dg
theorem zt_X0_at_c : zc_X0_at ∈ mq_T := mq_T_mem (mq_t2 (List.mem_of_getElem? (i := 188) rfl)) rfl
theorem zt_X0_at_i : Cond.instanceMethod yX0_at ∈ mq_T := mq_T_mem (mq_t2 (List.mem_of_getElem? (i := 186) rfl)) rfl
theorem zt_X0_at_s : Cond.selects RX0 yX0_at yX0_at ∈ mq_T := mq_T_mem (mq_t2 (List.mem_of_getElem? (i := 187) rfl)) rfl
set_option maxHeartbeats 4000000 in
theorem zv_X0_at {p : Program} {l : Launch} {e : Env} {R : Room} {s : State} {m : MethodId} {args : Array Value} {below : List Frame} {meth : Method} {c : Code} {A : Nat → Prop} {D : va_G} {a z : Nat → Nat} {cI cL cB cZ : ClassId} {Q : State → Prop} {cc : ByteArray} {nL idx pc N : Nat} {own : String} {c1 : Cond} {H : Heap} {locs : List Loc} {ls : Array Slot} {rest : List Value} {S : mq_St} {res : Int32} {v1 : Int32} {ws : va_W} (is : List Nat) (C : mq_C p s m args c A D cI cL cB cZ cc nL own c1) (hlk : Cond.methodLink own idx yX0_at ∈ mq_T) (hR : zr_X0_at.frames + 1 ≤ R.frames ∧ 8 + (2 + 11) + zr_X0_at.locals ≤ R.locals) (h : zf_X0_at N z v1 S = some res) (hC : is.map (fun i => ws[i]?) = (wd_B a cI cL cB cZ z S).map some) (hnd : va_nd is = true) (hP : va_P D vwCl ws H) (hD : va_D A ws) (hS : va_S A s.heap H locs) (hls : ls.size = nL) (hrest : (rest.map fun v => v.category).sum ≤ 8) (hdg : decode cc pc = .ok (.invokevirtual idx, 3)) (kk : ∀ (H1 : Heap) (locs1 : List Loc), va_P D vwCl ws H1 → va_D A ws → va_S A s.heap H1 locs1 → W p l e R s m args below meth c H1 locs1 0 0 Q (F0 m (pc + 3) ls (.int res :: rest))) : W p l e R s m args below meth c H locs 0 0 Q (F0 m pc ls (.int (v1) :: .ref (a 0) :: rest)) := by
  obtain ⟨hx, hb, hml, hown, hts, hK, hA⟩ := C
  have hPc := mq_subP hP is hC
  have hDc := hD.sub is hnd hC
  have hFc := va_free hD hS hA is hC
  refine va_calli (va_runV (As := [.int (v1)]) (rest := rest) ⟨hx, hb, hml, hown, hts⟩ (zm_X0_at l D a z cI cL cB cZ H.size N v1 S res h) (cwV 1 hts (mq_goodL (mq_wsV hlk zt_X0_at_i zt_X0_at_s zt_ini_X0 zt_X0_at_c)) rfl rfl rfl (by decide +kernel) hR) ⟨fun a U g mk q => ⟨q.1, q.2.1, q.2.2.1, va_K.moved (u := U) (U := U.calling g mk a) (Vm.Alike.refl U.vm) q.2.2.2.1, q.2.2.2.2⟩, va_recv hK hPc (ci := 0) (q0 := 0) rfl rfl, fun U hU hW => ⟨rfl, by rw [hU], by rw [hU]; exact hPc, va_K.moved hW.alike hK, hDc.weaken (fun _ _ _ _ => trivial)⟩⟩ rfl rfl hls rfl (lv_room hrest) hdg ⟨Nat.zero_le _, Nat.zero_le _⟩) hS (fun q _ h => hFc q h) hFc (fun r u t H1 locs ht hvm hw1 hB hz1 hk1 hS => ?_)
  obtain ⟨rfl, rfl⟩ := hw1
  obtain ⟨hP1, hK1, hD1⟩ := hB
  rw [ht] at hP1
  obtain ⟨hP2, hD2⟩ := mq_join hP hD is hC rfl hk1 hP1
  rw [mq_setM_same is _ ws hC] at hP2 hD2
  exact kk H1 locs hP2 hD2 hS
/-! ModalDesk$ByteRow.put(II)Z -/
def zr_X0_put : Room := { frames := 0, cells := 0, slots := 0, locals := 0 }
def zc_X0_put : Cond := .code yX0_put cX0_put 4 (some .boolean)
def zf_X0_put (N : Nat) (z : Nat → Nat) (v1 : Int32) (v2 : Int32) (S : mq_St) : Option (Int32 × mq_St) := (if v1 < (0 : Int32) then (mq_cz ((0 : Int32)) (some ((0 : Int32), S))) else (if v1 < (S.1 0) then (mq_nI (((24 : Int32) - ((8 : Int32) * (v1 &&& (3 : Int32))))) (fun x2 => (mq_ck ((v1 >>> ((2 : Int32) &&& (31 : Int32)))) 1000 (mq_ck ((v1 >>> ((2 : Int32) &&& (31 : Int32)))) 1000 (mq_nS (mq_sa S 0 (upd (S.2.1 0) ((v1 >>> ((2 : Int32) &&& (31 : Int32)))).toNatClampNeg ((((S.2.1 0 ((v1 >>> ((2 : Int32) &&& (31 : Int32)))).toNatClampNeg) &&& (((255 : Int32) <<< (x2 &&& (31 : Int32))) ^^^ (-1 : Int32))) ||| ((v2 &&& (255 : Int32)) <<< (x2 &&& (31 : Int32))))))) (fun S5 => (mq_cz ((1 : Int32)) (some ((1 : Int32), S5))))))))) else (mq_cz ((0 : Int32)) (some ((0 : Int32), S)))))
set_option maxHeartbeats 4000000 in
set_option maxRecDepth 100000 in
theorem zw_X0_put_0 {p : Program} {l : Launch} {e : Env} {s : State} {m : MethodId} {args : Array Value} {below : List Frame} {meth : Method} {c : Code} {A : Nat → Prop} {D : va_G} {a z : Nat → Nat} {cI cL cB cZ : ClassId} {Q : State → Prop} {N : Nat} {res : Int32 × mq_St} (C : mq_C p s m args c A D cI cL cB cZ cX0_put 4 RX0 zc_X0_put) (hret : ∀ (H : Heap) (locs : List Loc) (ls : Array Slot) (pc : Nat), decode cX0_put pc = .ok (.ireturn, 1) → narrow .boolean (.int res.1) = .int res.1 → va_P D vwCl (wd_B a cI cL cB cZ z res.2) H → va_D A (wd_B a cI cL cB cZ z res.2) → va_S A s.heap H locs → W p l e zr_X0_put s m args below meth c H locs 0 0 Q (F0 m pc ls [.int res.1])) (v1 : Int32) (v2 : Int32) (S : mq_St) (H : Heap) (locs : List Loc) (ls : Array Slot) (h : zf_X0_put N z v1 v2 S = some res) (hl : lv_has ls 4 [(0, .ref (a 0)), (1, .int (v1)), (2, .int (v2))]) (hP : va_P D vwCl (wd_B a cI cL cB cZ z S) H) (hD : va_D A (wd_B a cI cL cB cZ z S)) (hS : va_S A s.heap H locs) : W p l e zr_X0_put s m args below meth c H locs 0 0 Q (F0 m 0 ls []) := by
  obtain ⟨hx, hb, hml, hown, hts, hK, hA⟩ := id C
  unfold zf_X0_put at h
  refine lv_iload_n hx hb dX0_put_0 rfl (lv_at hl 1 rfl) ?_
  refine lv_if_lt (tgt := 12) hx hb dX0_put_1 (by decide) (fun c9 => ?_) (fun c9 => ?_)
  · replace h := mq_it c9 h
    refine lv_iconst (v := (0 : Int32)) hx hb dX0_put_12 (by decide) ?_
    have hz1 := mq_cz_in h
    replace h := mq_cz_go h
    cases h
    exact hret H locs ls 13 dX0_put_13 hz1.1 hP hD hS
  · replace h := mq_if c9 h
    refine lv_iload_n hx hb dX0_put_4 rfl (lv_at hl 1 rfl) ?_
    refine lv_aload_n hx hb dX0_put_5 rfl (lv_at hl 0 rfl) ?_
    refine va_get (D := D) (ci := 0) (v := .int ((S.1 0))) (C := RX0) (T := TX0) (N := 2) hx hb hts (zi_X0 _) hown hK hP 0 rfl rfl 1 (by decide) (hts _ (List.mem_cons_of_mem _ zt_f_X0_15)) (fun _ h9 => h9) rfl dX0_put_6 ?_
    refine lv_icmp_lt (tgt := 14) hx hb dX0_put_9 (by decide) (fun c8 => ?_) (fun c8 => ?_)
    · replace h := mq_it c8 h
      refine lv_bipush (v := (24 : Int32)) hx hb dX0_put_14 (by decide) ?_
      refine lv_bipush (v := (8 : Int32)) hx hb dX0_put_16 (by decide) ?_
      refine lv_iload_n hx hb dX0_put_18 rfl (lv_at hl 1 rfl) ?_
      refine lv_iconst (v := (3 : Int32)) hx hb dX0_put_19 (by decide) ?_
      refine lv_iand hx hb dX0_put_20 ?_
      refine lv_imul hx hb dX0_put_21 ?_
      refine lv_isub hx hb dX0_put_22 ?_
      refine lv_topi (fun x2 ex2 => ?_)
      replace h := mq_nI_go ex2 h
      refine lv_istore_n (lv' := [(3, .int (x2)), (0, .ref (a 0)), (1, .int (v1)), (2, .int (v2))]) hx hb dX0_put_23 rfl hl (by decide) rfl (fun ls hl => ?_)
      refine lv_aload_n hx hb dX0_put_24 rfl (lv_at hl 1 rfl) ?_
      refine va_get (D := D) (ci := 0) (v := .ref (a 1)) (C := RX0) (T := TX0) (N := 2) hx hb hts (zi_X0 _) hown hK hP 0 rfl rfl 0 (by decide) (hts _ (List.mem_cons_of_mem _ zt_f_X0_9)) (fun _ h9 => h9) rfl dX0_put_25 ?_
      refine lv_iload_n hx hb dX0_put_28 rfl (lv_at hl 2 rfl) ?_
      refine lv_iconst (v := (2 : Int32)) hx hb dX0_put_29 (by decide) ?_
      refine lv_ishr hx hb dX0_put_30 ?_
      refine lv_aload_n hx hb dX0_put_31 rfl (lv_at hl 1 rfl) ?_
      refine va_get (D := D) (ci := 0) (v := .ref (a 1)) (C := RX0) (T := TX0) (N := 2) hx hb hts (zi_X0 _) hown hK hP 0 rfl rfl 0 (by decide) (hts _ (List.mem_cons_of_mem _ zt_f_X0_9)) (fun _ h9 => h9) rfl dX0_put_32 ?_
      refine lv_iload_n hx hb dX0_put_35 rfl (lv_at hl 2 rfl) ?_
      refine lv_iconst (v := (2 : Int32)) hx hb dX0_put_36 (by decide) ?_
      refine lv_ishr hx hb dX0_put_37 ?_
      have hi3 := mq_ck_in h
      replace h := mq_ck_go h
      refine va_iald (f := S.2.1 0) hx hb hK hP 1 0 rfl rfl hi3 dX0_put_38 ?_
      refine lv_sipush (v := (255 : Int32)) hx hb dX0_put_39 (by decide) ?_
      refine lv_iload_n hx hb dX0_put_42 rfl (lv_at hl 0 rfl) ?_
      refine lv_ishl hx hb dX0_put_43 ?_
      refine lv_iconst (v := (-1 : Int32)) hx hb dX0_put_44 (by decide) ?_
      refine lv_ixor hx hb dX0_put_45 ?_
      refine lv_iand hx hb dX0_put_46 ?_
      refine lv_iload_n hx hb dX0_put_47 rfl (lv_at hl 3 rfl) ?_
      refine lv_sipush (v := (255 : Int32)) hx hb dX0_put_48 (by decide) ?_
      refine lv_iand hx hb dX0_put_51 ?_
      refine lv_iload_n hx hb dX0_put_52 rfl (lv_at hl 0 rfl) ?_
      refine lv_ishl hx hb dX0_put_53 ?_
      refine lv_ior hx hb dX0_put_54 ?_
      have hi4 := mq_ck_in h
      replace h := mq_ck_go h
      refine mq_iast (w := wd_B a cI cL cB cZ z) (S := S) (f := S.2.1 0) hx hb hK hP hD hS 1 0 rfl rfl hi4 dX0_put_55 0 rfl (fun S5 eS5 H locs hP hD hS => ?_)
      replace h := mq_nS_go eS5 h
      refine lv_iconst (v := (1 : Int32)) hx hb dX0_put_56 (by decide) ?_
      have hz6 := mq_cz_in h
      replace h := mq_cz_go h
      cases h
      exact hret H locs ls 57 dX0_put_57 hz6.1 hP hD hS
    · replace h := mq_if c8 h
      refine lv_iconst (v := (0 : Int32)) hx hb dX0_put_12 (by decide) ?_
      have hz7 := mq_cz_in h
      replace h := mq_cz_go h
      cases h
      exact hret H locs ls 13 dX0_put_13 hz7.1 hP hD hS
set_option maxHeartbeats 4000000 in
set_option maxRecDepth 100000 in
theorem zm_X0_put (l : Launch) (D : va_G) (a z : Nat → Nat) (cI cL cB cZ : ClassId) (sz N : Nat) (v1 : Int32) (v2 : Int32) (S : mq_St) (res : Int32 × mq_St) (h : zf_X0_put N z v1 v2 S = some res) : Met l yX0_put (zc_X0_put :: mq_T) zr_X0_put (va_Pc [.ref (a 0), .int (v1), .int (v2)] (fun U => U.heap.size = sz ∧ va_P D vwCl (wd_B a cI cL cB cZ z S) U.heap ∧ va_K D vwCl (mq_tys cI cL cB cZ) U ∧ va_D (fun _ => True) (wd_B a cI cL cB cZ z S))) (va_Qi (fun (r : Int32) (u : mq_St) => r = res.1 ∧ u = res.2) (fun u t => va_P D vwCl (wd_B a cI cL cB cZ z u) t.heap ∧ va_K D vwCl (mq_tys cI cL cB cZ) t ∧ va_D (va_A (wd_B a cI cL cB cZ z S) sz) (wd_B a cI cL cB cZ z u)) (va_A (wd_B a cI cL cB cZ z S) sz)) 0 0 (va_A (wd_B a cI cL cB cZ z S) sz) := by
  refine Met.ofW (cc := cX0_put) (maxL := 4) (ret := (some .boolean)) (by decide) rfl ?_
  intro p e s m args below meth c s₁ B hml hv
  obtain ⟨rfl, hsz, hP, hK, hD0⟩ := hv
  have hr := B.returns
  have hlocks := B.notSynchronized
  have hts := atoms_spec (ws := zc_X0_put :: mq_T) B.pre
  have hown : s.vm.findClass RX0 = some m.cls := findClass_of_methodNamed B.named
  subst hsz
  have hD := hD0.self (sz := s.heap.size)
  generalize hAe : va_A (wd_B a cI cL cB cZ z S) s.heap.size = A at hD ⊢
  have hA : ∀ q : Nat, s.heap.size ≤ q → A q := fun q h => by rw [← hAe]; exact Or.inr h
  have hl := lv_entry ([.ref (a 0), .int (v1), .int (v2)]) (n := 4) (Nat.le_of_ble_eq_true rfl)
  rw [lg_entry_eq]
  generalize (lg_sl ([.ref (a 0), .int (v1), .int (v2)]) ++ List.replicate (4 - (lg_sl ([.ref (a 0), .int (v1), .int (v2)])).length) Slot.unset).toArray = ls at hl ⊢
  have hl : lv_has ls 4 [(0, .ref (a 0)), (1, .int (v1)), (2, .int (v2))] := hl
  refine zw_X0_put_0 (A := A) ⟨B.exec, B.bytes, hml, hown, hts, hK, hA⟩ (fun H locs ls pc dg hz hP hD hS => ?_) v1 v2 S s.heap [] ls h hl hP hD va_S.rf
  exact W.zret B.exec B.bytes hr hz (fun t ht hW => ⟨⟨_, _, rfl, ⟨rfl, rfl⟩, by rw [ht]; exact hP, va_K.moved hW.alike hK, hD⟩, hS.F ht⟩) hS.2.2 dg
theorem zt_X0_put_c : zc_X0_put ∈ mq_T := mq_T_mem (mq_t2 (List.mem_of_getElem? (i := 159) rfl)) rfl
theorem zt_X0_put_i : Cond.instanceMethod yX0_put ∈ mq_T := mq_T_mem (mq_t2 (List.mem_of_getElem? (i := 157) rfl)) rfl
theorem zt_X0_put_s : Cond.selects RX0 yX0_put yX0_put ∈ mq_T := mq_T_mem (mq_t2 (List.mem_of_getElem? (i := 158) rfl)) rfl
set_option maxHeartbeats 4000000 in
theorem zk_X0_put {p : Program} {l : Launch} {e : Env} {R : Room} {s : State} {m : MethodId} {args : Array Value} {below : List Frame} {meth : Method} {c : Code} {A : Nat → Prop} {D : va_G} {a z : Nat → Nat} {cI cL cB cZ : ClassId} {Q : State → Prop} {cc : ByteArray} {nL idx pc N : Nat} {own : String} {c1 : Cond} {H : Heap} {locs : List Loc} {ls : Array Slot} {rest : List Value} {S : mq_St} {res : Int32 × mq_St} {v1 : Int32} {v2 : Int32} (C : mq_C p s m args c A D cI cL cB cZ cc nL own c1) (hlk : Cond.methodLink own idx yX0_put ∈ mq_T) (hR : zr_X0_put.frames + 1 ≤ R.frames ∧ 8 + (4 + 11) + zr_X0_put.locals ≤ R.locals) (h : zf_X0_put N z v1 v2 S = some res) (hP : va_P D vwCl (wd_B a cI cL cB cZ z S) H) (hD : va_D A (wd_B a cI cL cB cZ z S)) (hS : va_S A s.heap H locs) (hls : ls.size = nL) (hrest : (rest.map fun v => v.category).sum ≤ 8) (hdg : decode cc pc = .ok (.invokevirtual idx, 3)) (kk : ∀ (H1 : Heap) (locs1 : List Loc), va_P D vwCl (wd_B a cI cL cB cZ z res.2) H1 → va_D A (wd_B a cI cL cB cZ z res.2) → va_S A s.heap H1 locs1 → W p l e R s m args below meth c H1 locs1 0 0 Q (F0 m (pc + 3) ls (.int res.1 :: rest))) : W p l e R s m args below meth c H locs 0 0 Q (F0 m pc ls (.int (v2) :: .int (v1) :: .ref (a 0) :: rest)) := by
  obtain ⟨hx, hb, hml, hown, hts, hK, hA⟩ := C
  have hFc := mq_freeI hD hS hA
  refine va_calli (va_runV (As := [.int (v1), .int (v2)]) (rest := rest) ⟨hx, hb, hml, hown, hts⟩ (zm_X0_put l D a z cI cL cB cZ H.size N v1 v2 S res h) (cwV 2 hts (mq_goodL (mq_wsV hlk zt_X0_put_i zt_X0_put_s zt_ini_X0 zt_X0_put_c)) rfl rfl rfl (by decide +kernel) hR) ⟨fun a U g mk q => ⟨q.1, q.2.1, q.2.2.1, va_K.moved (u := U) (U := U.calling g mk a) (Vm.Alike.refl U.vm) q.2.2.2.1, q.2.2.2.2⟩, va_recv hK hP (ci := 0) (q0 := 0) rfl rfl, fun U hU hW => ⟨rfl, by rw [hU], by rw [hU]; exact hP, va_K.moved hW.alike hK, hD.weaken (fun _ _ _ _ => trivial)⟩⟩ rfl rfl hls rfl (lv_room hrest) hdg ⟨Nat.zero_le _, Nat.zero_le _⟩) hS (fun q _ h => hFc q h) hFc (fun r u t H1 locs ht hvm hw hB hz1 hk1 hS => ?_)
  obtain ⟨rfl, rfl⟩ := hw
  obtain ⟨hP1, hK1, hD1⟩ := hB
  rw [ht] at hP1
  exact kk H1 locs hP1 (hD1.weaken (fun _ _ _ h => hFc _ h)) hS
set_option maxHeartbeats 4000000 in
theorem zv_X0_put {p : Program} {l : Launch} {e : Env} {R : Room} {s : State} {m : MethodId} {args : Array Value} {below : List Frame} {meth : Method} {c : Code} {A : Nat → Prop} {D : va_G} {a z : Nat → Nat} {cI cL cB cZ : ClassId} {Q : State → Prop} {cc : ByteArray} {nL idx pc N : Nat} {own : String} {c1 : Cond} {H : Heap} {locs : List Loc} {ls : Array Slot} {rest : List Value} {S : mq_St} {res : Int32 × mq_St} {v1 : Int32} {v2 : Int32} {ws : va_W} (is : List Nat) (C : mq_C p s m args c A D cI cL cB cZ cc nL own c1) (hlk : Cond.methodLink own idx yX0_put ∈ mq_T) (hR : zr_X0_put.frames + 1 ≤ R.frames ∧ 8 + (4 + 11) + zr_X0_put.locals ≤ R.locals) (h : zf_X0_put N z v1 v2 S = some res) (hC : is.map (fun i => ws[i]?) = (wd_B a cI cL cB cZ z S).map some) (hnd : va_nd is = true) {ws' : va_W} (hw : mq_setM ws is (wd_B a cI cL cB cZ z res.2) = ws') (hP : va_P D vwCl ws H) (hD : va_D A ws) (hS : va_S A s.heap H locs) (hls : ls.size = nL) (hrest : (rest.map fun v => v.category).sum ≤ 8) (hdg : decode cc pc = .ok (.invokevirtual idx, 3)) (kk : ∀ (H1 : Heap) (locs1 : List Loc), va_P D vwCl ws' H1 → va_D A ws' → va_S A s.heap H1 locs1 → W p l e R s m args below meth c H1 locs1 0 0 Q (F0 m (pc + 3) ls (.int res.1 :: rest))) : W p l e R s m args below meth c H locs 0 0 Q (F0 m pc ls (.int (v2) :: .int (v1) :: .ref (a 0) :: rest)) := by
  obtain ⟨hx, hb, hml, hown, hts, hK, hA⟩ := C
  have hPc := mq_subP hP is hC
  have hDc := hD.sub is hnd hC
  have hFc := va_free hD hS hA is hC
  refine va_calli (va_runV (As := [.int (v1), .int (v2)]) (rest := rest) ⟨hx, hb, hml, hown, hts⟩ (zm_X0_put l D a z cI cL cB cZ H.size N v1 v2 S res h) (cwV 2 hts (mq_goodL (mq_wsV hlk zt_X0_put_i zt_X0_put_s zt_ini_X0 zt_X0_put_c)) rfl rfl rfl (by decide +kernel) hR) ⟨fun a U g mk q => ⟨q.1, q.2.1, q.2.2.1, va_K.moved (u := U) (U := U.calling g mk a) (Vm.Alike.refl U.vm) q.2.2.2.1, q.2.2.2.2⟩, va_recv hK hPc (ci := 0) (q0 := 0) rfl rfl, fun U hU hW => ⟨rfl, by rw [hU], by rw [hU]; exact hPc, va_K.moved hW.alike hK, hDc.weaken (fun _ _ _ _ => trivial)⟩⟩ rfl rfl hls rfl (lv_room hrest) hdg ⟨Nat.zero_le _, Nat.zero_le _⟩) hS (fun q _ h => hFc q h) hFc (fun r u t H1 locs ht hvm hw1 hB hz1 hk1 hS => ?_)
  obtain ⟨rfl, rfl⟩ := hw1
  obtain ⟨hP1, hK1, hD1⟩ := hB
  rw [ht] at hP1
  obtain ⟨hP2, hD2⟩ := mq_join (w1 := (wd_B a cI cL cB cZ z res.2)) hP hD is hC rfl hk1 hP1
  rw [hw] at hP2 hD2
  exact kk H1 locs hP2 hD2 hS
theorem zt_m_X0_19 : Cond.methodLink RX0 19 yX0_put ∈ mq_T := mq_T_mem (mq_t2 (List.mem_of_getElem? (i := 156) rfl)) rfl
/-! ModalDesk$ByteRow.push(I)V -/
def zr_X0_push : Room := { frames := 1, cells := 0, slots := 0, locals := 23 }
def zc_X0_push : Cond := .code yX0_push cX0_push 2 none
def zf_X0_push (N : Nat) (z : Nat → Nat) (v1 : Int32) (S : mq_St) : Option (Unit × mq_St) := (if (4000 : Int32) ≤ (S.1 0) then (some ((), S)) else (mq_nS (mq_si S 0 (((S.1 0) + (1 : Int32)))) (fun S1 => (mq_cl (zf_X0_put N z (((S1.1 0) - (1 : Int32))) (v1) S1) (fun q2v S4 => (some ((), S4)))))))
set_option maxHeartbeats 4000000 in
set_option maxRecDepth 100000 in
theorem zw_X0_push_0 {p : Program} {l : Launch} {e : Env} {s : State} {m : MethodId} {args : Array Value} {below : List Frame} {meth : Method} {c : Code} {A : Nat → Prop} {D : va_G} {a z : Nat → Nat} {cI cL cB cZ : ClassId} {Q : State → Prop} {N : Nat} {res : Unit × mq_St} (C : mq_C p s m args c A D cI cL cB cZ cX0_push 2 RX0 zc_X0_push) (hret : ∀ (H : Heap) (locs : List Loc) (ls : Array Slot) (pc : Nat), decode cX0_push pc = .ok (.return_, 1) → va_P D vwCl (wd_B a cI cL cB cZ z res.2) H → va_D A (wd_B a cI cL cB cZ z res.2) → va_S A s.heap H locs → W p l e zr_X0_push s m args below meth c H locs 0 0 Q (F0 m pc ls [])) (v1 : Int32) (S : mq_St) (H : Heap) (locs : List Loc) (ls : Array Slot) (h : zf_X0_push N z v1 S = some res) (hl : lv_has ls 2 [(0, .ref (a 0)), (1, .int (v1))]) (hP : va_P D vwCl (wd_B a cI cL cB cZ z S) H) (hD : va_D A (wd_B a cI cL cB cZ z S)) (hS : va_S A s.heap H locs) : W p l e zr_X0_push s m args below meth c H locs 0 0 Q (F0 m 0 ls []) := by
  obtain ⟨hx, hb, hml, hown, hts, hK, hA⟩ := id C
  unfold zf_X0_push at h
  refine lv_aload_n hx hb dX0_push_0 rfl (lv_at hl 0 rfl) ?_
  refine va_get (D := D) (ci := 0) (v := .int ((S.1 0))) (C := RX0) (T := TX0) (N := 2) hx hb hts (zi_X0 _) hown hK hP 0 rfl rfl 1 (by decide) (hts _ (List.mem_cons_of_mem _ zt_f_X0_15)) (fun _ h9 => h9) rfl dX0_push_1 ?_
  refine lv_sipush (v := (4000 : Int32)) hx hb dX0_push_4 (by decide) ?_
  refine lv_icmp_ge (tgt := 32) hx hb dX0_push_7 (by decide) (fun c5 => ?_) (fun c5 => ?_)
  · replace h := mq_it c5 h
    cases h
    exact hret H locs ls 32 dX0_push_32 hP hD hS
  · replace h := mq_if c5 h
    refine lv_aload_n hx hb dX0_push_10 rfl (lv_at hl 0 rfl) ?_
    refine lv_dup hx hb dX0_push_11 rfl ?_
    refine va_get (D := D) (ci := 0) (v := .int ((S.1 0))) (C := RX0) (T := TX0) (N := 2) hx hb hts (zi_X0 _) hown hK hP 0 rfl rfl 1 (by decide) (hts _ (List.mem_cons_of_mem _ zt_f_X0_15)) (fun _ h9 => h9) rfl dX0_push_12 ?_
    refine lv_iconst (v := (1 : Int32)) hx hb dX0_push_15 (by decide) ?_
    refine lv_iadd hx hb dX0_push_16 ?_
    refine mq_put (w := wd_B a cI cL cB cZ z) (S := S) (D := D) (ci := 0) (v := ((S.1 0) + (1 : Int32))) (ty := .int) (C := RX0) (T := TX0) (N := 2) hx hb hts (zi_X0 _) tyX0 tyX0_ok nmX0 hown hK hP hD hS 0 rfl rfl 1 (by decide) (hts _ (List.mem_cons_of_mem _ zt_f_X0_15)) (fun _ h9 => h9) rfl (by decide +kernel) rfl rfl (Nat.le_of_ble_eq_true rfl) dX0_push_17 0 rfl (fun S1 eS1 H locs hP hD hS => ?_)
    replace h := mq_nS_go eS1 h
    refine lv_aload_n hx hb dX0_push_20 rfl (lv_at hl 0 rfl) ?_
    refine lv_aload_n hx hb dX0_push_21 rfl (lv_at hl 0 rfl) ?_
    refine va_get (D := D) (ci := 0) (v := .int ((S1.1 0))) (C := RX0) (T := TX0) (N := 2) hx hb hts (zi_X0 _) hown hK hP 0 rfl rfl 1 (by decide) (hts _ (List.mem_cons_of_mem _ zt_f_X0_15)) (fun _ h9 => h9) rfl dX0_push_22 ?_
    refine lv_iconst (v := (1 : Int32)) hx hb dX0_push_25 (by decide) ?_
    refine lv_isub hx hb dX0_push_26 ?_
    refine lv_iload_n hx hb dX0_push_27 rfl (lv_at hl 1 rfl) ?_
    obtain ⟨q2, hc3, h⟩ := mq_cl_go h
    refine zk_X0_put C zt_m_X0_19 ⟨by decide, by decide⟩ hc3 hP hD hS hl.1 (Nat.le_of_ble_eq_true rfl) dX0_push_28 (fun H locs hP hD hS => ?_)
    obtain ⟨S4, eS4⟩ : ∃ y, y = q2.2 := ⟨_, rfl⟩
    rw [← eS4] at hP hD h
    refine lv_pop hx hb dX0_push_31 rfl ?_
    cases h
    exact hret H locs ls 32 dX0_push_32 hP hD hS
set_option maxHeartbeats 4000000 in
set_option maxRecDepth 100000 in
theorem zm_X0_push (l : Launch) (D : va_G) (a z : Nat → Nat) (cI cL cB cZ : ClassId) (sz N : Nat) (v1 : Int32) (S : mq_St) (res : Unit × mq_St) (h : zf_X0_push N z v1 S = some res) : Met l yX0_push (zc_X0_push :: mq_T) zr_X0_push (va_Pc [.ref (a 0), .int (v1)] (fun U => U.heap.size = sz ∧ va_P D vwCl (wd_B a cI cL cB cZ z S) U.heap ∧ va_K D vwCl (mq_tys cI cL cB cZ) U ∧ va_D (fun _ => True) (wd_B a cI cL cB cZ z S))) (va_Qv (fun u : mq_St => u = res.2) (fun u t => va_P D vwCl (wd_B a cI cL cB cZ z u) t.heap ∧ va_K D vwCl (mq_tys cI cL cB cZ) t ∧ va_D (va_A (wd_B a cI cL cB cZ z S) sz) (wd_B a cI cL cB cZ z u)) (va_A (wd_B a cI cL cB cZ z S) sz)) 0 0 (va_A (wd_B a cI cL cB cZ z S) sz) := by
  refine Met.ofW (cc := cX0_push) (maxL := 2) (ret := none) (by decide) rfl ?_
  intro p e s m args below meth c s₁ B hml hv
  obtain ⟨rfl, hsz, hP, hK, hD0⟩ := hv
  have hr := B.returns
  have hlocks := B.notSynchronized
  have hts := atoms_spec (ws := zc_X0_push :: mq_T) B.pre
  have hown : s.vm.findClass RX0 = some m.cls := findClass_of_methodNamed B.named
  subst hsz
  have hD := hD0.self (sz := s.heap.size)
  generalize hAe : va_A (wd_B a cI cL cB cZ z S) s.heap.size = A at hD ⊢
  have hA : ∀ q : Nat, s.heap.size ≤ q → A q := fun q h => by rw [← hAe]; exact Or.inr h
  have hl := lv_entry ([.ref (a 0), .int (v1)]) (n := 2) (Nat.le_of_ble_eq_true rfl)
  rw [lg_entry_eq]
  generalize (lg_sl ([.ref (a 0), .int (v1)]) ++ List.replicate (2 - (lg_sl ([.ref (a 0), .int (v1)])).length) Slot.unset).toArray = ls at hl ⊢
  have hl : lv_has ls 2 [(0, .ref (a 0)), (1, .int (v1))] := hl
  refine zw_X0_push_0 (A := A) ⟨B.exec, B.bytes, hml, hown, hts, hK, hA⟩ (fun H locs ls pc dg hP hD hS => ?_) v1 S s.heap [] ls h hl hP hD va_S.rf
  exact W.vret B.exec B.bytes hr (fun t ht hW => ⟨⟨_, rfl, rfl, by rw [ht]; exact hP, va_K.moved hW.alike hK, hD⟩, hS.F ht⟩) hS.2.2 dg
theorem zt_X0_push_c : zc_X0_push ∈ mq_T := mq_T_mem (mq_t2 (List.mem_of_getElem? (i := 155) rfl)) rfl
theorem zt_X0_push_i : Cond.instanceMethod yX0_push ∈ mq_T := mq_T_mem (mq_t2 (List.mem_of_getElem? (i := 153) rfl)) rfl
theorem zt_X0_push_s : Cond.selects RX0 yX0_push yX0_push ∈ mq_T := mq_T_mem (mq_t2 (List.mem_of_getElem? (i := 154) rfl)) rfl
set_option maxHeartbeats 4000000 in
theorem zk_X0_push {p : Program} {l : Launch} {e : Env} {R : Room} {s : State} {m : MethodId} {args : Array Value} {below : List Frame} {meth : Method} {c : Code} {A : Nat → Prop} {D : va_G} {a z : Nat → Nat} {cI cL cB cZ : ClassId} {Q : State → Prop} {cc : ByteArray} {nL idx pc N : Nat} {own : String} {c1 : Cond} {H : Heap} {locs : List Loc} {ls : Array Slot} {rest : List Value} {S : mq_St} {res : Unit × mq_St} {v1 : Int32} (C : mq_C p s m args c A D cI cL cB cZ cc nL own c1) (hlk : Cond.methodLink own idx yX0_push ∈ mq_T) (hR : zr_X0_push.frames + 1 ≤ R.frames ∧ 8 + (2 + 11) + zr_X0_push.locals ≤ R.locals) (h : zf_X0_push N z v1 S = some res) (hP : va_P D vwCl (wd_B a cI cL cB cZ z S) H) (hD : va_D A (wd_B a cI cL cB cZ z S)) (hS : va_S A s.heap H locs) (hls : ls.size = nL) (hrest : (rest.map fun v => v.category).sum ≤ 8) (hdg : decode cc pc = .ok (.invokevirtual idx, 3)) (kk : ∀ (H1 : Heap) (locs1 : List Loc), va_P D vwCl (wd_B a cI cL cB cZ z res.2) H1 → va_D A (wd_B a cI cL cB cZ z res.2) → va_S A s.heap H1 locs1 → W p l e R s m args below meth c H1 locs1 0 0 Q (F0 m (pc + 3) ls rest)) : W p l e R s m args below meth c H locs 0 0 Q (F0 m pc ls (.int (v1) :: .ref (a 0) :: rest)) := by
  obtain ⟨hx, hb, hml, hown, hts, hK, hA⟩ := C
  have hFc := mq_freeI hD hS hA
  refine va_callv (va_runV (As := [.int (v1)]) (rest := rest) ⟨hx, hb, hml, hown, hts⟩ (zm_X0_push l D a z cI cL cB cZ H.size N v1 S res h) (cwV 1 hts (mq_goodL (mq_wsV hlk zt_X0_push_i zt_X0_push_s zt_ini_X0 zt_X0_push_c)) rfl rfl rfl (by decide +kernel) hR) ⟨fun a U g mk q => ⟨q.1, q.2.1, q.2.2.1, va_K.moved (u := U) (U := U.calling g mk a) (Vm.Alike.refl U.vm) q.2.2.2.1, q.2.2.2.2⟩, va_recv hK hP (ci := 0) (q0 := 0) rfl rfl, fun U hU hW => ⟨rfl, by rw [hU], by rw [hU]; exact hP, va_K.moved hW.alike hK, hD.weaken (fun _ _ _ _ => trivial)⟩⟩ rfl rfl hls rfl (lv_room hrest) hdg ⟨Nat.zero_le _, Nat.zero_le _⟩) hS (fun q _ h => hFc q h) hFc (fun u t H1 locs ht hvm hw hB hz1 hk1 hS => ?_)
  subst hw
  obtain ⟨hP1, hK1, hD1⟩ := hB
  rw [ht] at hP1
  exact kk H1 locs hP1 (hD1.weaken (fun _ _ _ h => hFc _ h)) hS
set_option maxHeartbeats 4000000 in
theorem zv_X0_push {p : Program} {l : Launch} {e : Env} {R : Room} {s : State} {m : MethodId} {args : Array Value} {below : List Frame} {meth : Method} {c : Code} {A : Nat → Prop} {D : va_G} {a z : Nat → Nat} {cI cL cB cZ : ClassId} {Q : State → Prop} {cc : ByteArray} {nL idx pc N : Nat} {own : String} {c1 : Cond} {H : Heap} {locs : List Loc} {ls : Array Slot} {rest : List Value} {S : mq_St} {res : Unit × mq_St} {v1 : Int32} {ws : va_W} (is : List Nat) (C : mq_C p s m args c A D cI cL cB cZ cc nL own c1) (hlk : Cond.methodLink own idx yX0_push ∈ mq_T) (hR : zr_X0_push.frames + 1 ≤ R.frames ∧ 8 + (2 + 11) + zr_X0_push.locals ≤ R.locals) (h : zf_X0_push N z v1 S = some res) (hC : is.map (fun i => ws[i]?) = (wd_B a cI cL cB cZ z S).map some) (hnd : va_nd is = true) {ws' : va_W} (hw : mq_setM ws is (wd_B a cI cL cB cZ z res.2) = ws') (hP : va_P D vwCl ws H) (hD : va_D A ws) (hS : va_S A s.heap H locs) (hls : ls.size = nL) (hrest : (rest.map fun v => v.category).sum ≤ 8) (hdg : decode cc pc = .ok (.invokevirtual idx, 3)) (kk : ∀ (H1 : Heap) (locs1 : List Loc), va_P D vwCl ws' H1 → va_D A ws' → va_S A s.heap H1 locs1 → W p l e R s m args below meth c H1 locs1 0 0 Q (F0 m (pc + 3) ls rest)) : W p l e R s m args below meth c H locs 0 0 Q (F0 m pc ls (.int (v1) :: .ref (a 0) :: rest)) := by
  obtain ⟨hx, hb, hml, hown, hts, hK, hA⟩ := C
  have hPc := mq_subP hP is hC
  have hDc := hD.sub is hnd hC
  have hFc := va_free hD hS hA is hC
  refine va_callv (va_runV (As := [.int (v1)]) (rest := rest) ⟨hx, hb, hml, hown, hts⟩ (zm_X0_push l D a z cI cL cB cZ H.size N v1 S res h) (cwV 1 hts (mq_goodL (mq_wsV hlk zt_X0_push_i zt_X0_push_s zt_ini_X0 zt_X0_push_c)) rfl rfl rfl (by decide +kernel) hR) ⟨fun a U g mk q => ⟨q.1, q.2.1, q.2.2.1, va_K.moved (u := U) (U := U.calling g mk a) (Vm.Alike.refl U.vm) q.2.2.2.1, q.2.2.2.2⟩, va_recv hK hPc (ci := 0) (q0 := 0) rfl rfl, fun U hU hW => ⟨rfl, by rw [hU], by rw [hU]; exact hPc, va_K.moved hW.alike hK, hDc.weaken (fun _ _ _ _ => trivial)⟩⟩ rfl rfl hls rfl (lv_room hrest) hdg ⟨Nat.zero_le _, Nat.zero_le _⟩) hS (fun q _ h => hFc q h) hFc (fun u t H1 locs ht hvm hw1 hB hz1 hk1 hS => ?_)
  subst hw1
  obtain ⟨hP1, hK1, hD1⟩ := hB
  rw [ht] at hP1
  obtain ⟨hP2, hD2⟩ := mq_join (w1 := (wd_B a cI cL cB cZ z res.2)) hP hD is hC rfl hk1 hP1
  rw [hw] at hP2 hD2
  exact kk H1 locs hP2 hD2 hS
theorem zt_m_X0_23 : Cond.methodLink RX0 23 yX0_push ∈ mq_T := mq_T_mem (mq_t2 (List.mem_of_getElem? (i := 152) rfl)) rfl
/-! ModalDesk$ByteRow.pushNumber(I)V -/
def zr_X0_pushNumber : Room := { frames := 2, cells := 0, slots := 0, locals := 44 }
def zc_X0_pushNumber : Cond := .code yX0_pushNumber cX0_pushNumber 2 none
def zf_X0_pushNumber (N : Nat) (z : Nat → Nat) (v1 : Int32) (S : mq_St) : Option (Unit × mq_St) := (mq_cl (zf_X0_push N z ((mq_iushr v1 (24 : Int32))) S) (fun q1v S3 => (mq_cl (zf_X0_push N z ((mq_iushr v1 (16 : Int32))) S3) (fun q4v S6 => (mq_cl (zf_X0_push N z ((mq_iushr v1 (8 : Int32))) S6) (fun q7v S9 => (mq_cl (zf_X0_push N z (v1) S9) (fun q10v S12 => (some ((), S12))))))))))
set_option maxHeartbeats 4000000 in
set_option maxRecDepth 100000 in
theorem zw_X0_pushNumber_0 {p : Program} {l : Launch} {e : Env} {s : State} {m : MethodId} {args : Array Value} {below : List Frame} {meth : Method} {c : Code} {A : Nat → Prop} {D : va_G} {a z : Nat → Nat} {cI cL cB cZ : ClassId} {Q : State → Prop} {N : Nat} {res : Unit × mq_St} (C : mq_C p s m args c A D cI cL cB cZ cX0_pushNumber 2 RX0 zc_X0_pushNumber) (hret : ∀ (H : Heap) (locs : List Loc) (ls : Array Slot) (pc : Nat), decode cX0_pushNumber pc = .ok (.return_, 1) → va_P D vwCl (wd_B a cI cL cB cZ z res.2) H → va_D A (wd_B a cI cL cB cZ z res.2) → va_S A s.heap H locs → W p l e zr_X0_pushNumber s m args below meth c H locs 0 0 Q (F0 m pc ls [])) (v1 : Int32) (S : mq_St) (H : Heap) (locs : List Loc) (ls : Array Slot) (h : zf_X0_pushNumber N z v1 S = some res) (hl : lv_has ls 2 [(0, .ref (a 0)), (1, .int (v1))]) (hP : va_P D vwCl (wd_B a cI cL cB cZ z S) H) (hD : va_D A (wd_B a cI cL cB cZ z S)) (hS : va_S A s.heap H locs) : W p l e zr_X0_pushNumber s m args below meth c H locs 0 0 Q (F0 m 0 ls []) := by
  obtain ⟨hx, hb, hml, hown, hts, hK, hA⟩ := id C
  unfold zf_X0_pushNumber at h
  refine lv_aload_n hx hb dX0_pushNumber_0 rfl (lv_at hl 0 rfl) ?_
  refine lv_iload_n hx hb dX0_pushNumber_1 rfl (lv_at hl 1 rfl) ?_
  refine lv_bipush (v := (24 : Int32)) hx hb dX0_pushNumber_2 (by decide) ?_
  refine lv_iushr (v := (mq_iushr v1 (24 : Int32))) hx hb dX0_pushNumber_4 rfl ?_
  obtain ⟨q1, hc2, h⟩ := mq_cl_go h
  refine zk_X0_push C zt_m_X0_23 ⟨by decide, by decide⟩ hc2 hP hD hS hl.1 (Nat.le_of_ble_eq_true rfl) dX0_pushNumber_5 (fun H locs hP hD hS => ?_)
  obtain ⟨S3, eS3⟩ : ∃ y, y = q1.2 := ⟨_, rfl⟩
  rw [← eS3] at hP hD h
  refine lv_aload_n hx hb dX0_pushNumber_8 rfl (lv_at hl 0 rfl) ?_
  refine lv_iload_n hx hb dX0_pushNumber_9 rfl (lv_at hl 1 rfl) ?_
  refine lv_bipush (v := (16 : Int32)) hx hb dX0_pushNumber_10 (by decide) ?_
  refine lv_iushr (v := (mq_iushr v1 (16 : Int32))) hx hb dX0_pushNumber_12 rfl ?_
  obtain ⟨q4, hc5, h⟩ := mq_cl_go h
  refine zk_X0_push C zt_m_X0_23 ⟨by decide, by decide⟩ hc5 hP hD hS hl.1 (Nat.le_of_ble_eq_true rfl) dX0_pushNumber_13 (fun H locs hP hD hS => ?_)
  obtain ⟨S6, eS6⟩ : ∃ y, y = q4.2 := ⟨_, rfl⟩
  rw [← eS6] at hP hD h
  refine lv_aload_n hx hb dX0_pushNumber_16 rfl (lv_at hl 0 rfl) ?_
  refine lv_iload_n hx hb dX0_pushNumber_17 rfl (lv_at hl 1 rfl) ?_
  refine lv_bipush (v := (8 : Int32)) hx hb dX0_pushNumber_18 (by decide) ?_
  refine lv_iushr (v := (mq_iushr v1 (8 : Int32))) hx hb dX0_pushNumber_20 rfl ?_
  obtain ⟨q7, hc8, h⟩ := mq_cl_go h
  refine zk_X0_push C zt_m_X0_23 ⟨by decide, by decide⟩ hc8 hP hD hS hl.1 (Nat.le_of_ble_eq_true rfl) dX0_pushNumber_21 (fun H locs hP hD hS => ?_)
  obtain ⟨S9, eS9⟩ : ∃ y, y = q7.2 := ⟨_, rfl⟩
  rw [← eS9] at hP hD h
  refine lv_aload_n hx hb dX0_pushNumber_24 rfl (lv_at hl 0 rfl) ?_
  refine lv_iload_n hx hb dX0_pushNumber_25 rfl (lv_at hl 1 rfl) ?_
  obtain ⟨q10, hc11, h⟩ := mq_cl_go h
  refine zk_X0_push C zt_m_X0_23 ⟨by decide, by decide⟩ hc11 hP hD hS hl.1 (Nat.le_of_ble_eq_true rfl) dX0_pushNumber_26 (fun H locs hP hD hS => ?_)
  obtain ⟨S12, eS12⟩ : ∃ y, y = q10.2 := ⟨_, rfl⟩
  rw [← eS12] at hP hD h
  cases h
  exact hret H locs ls 29 dX0_pushNumber_29 hP hD hS
set_option maxHeartbeats 4000000 in
set_option maxRecDepth 100000 in
theorem zm_X0_pushNumber (l : Launch) (D : va_G) (a z : Nat → Nat) (cI cL cB cZ : ClassId) (sz N : Nat) (v1 : Int32) (S : mq_St) (res : Unit × mq_St) (h : zf_X0_pushNumber N z v1 S = some res) : Met l yX0_pushNumber (zc_X0_pushNumber :: mq_T) zr_X0_pushNumber (va_Pc [.ref (a 0), .int (v1)] (fun U => U.heap.size = sz ∧ va_P D vwCl (wd_B a cI cL cB cZ z S) U.heap ∧ va_K D vwCl (mq_tys cI cL cB cZ) U ∧ va_D (fun _ => True) (wd_B a cI cL cB cZ z S))) (va_Qv (fun u : mq_St => u = res.2) (fun u t => va_P D vwCl (wd_B a cI cL cB cZ z u) t.heap ∧ va_K D vwCl (mq_tys cI cL cB cZ) t ∧ va_D (va_A (wd_B a cI cL cB cZ z S) sz) (wd_B a cI cL cB cZ z u)) (va_A (wd_B a cI cL cB cZ z S) sz)) 0 0 (va_A (wd_B a cI cL cB cZ z S) sz) := by
  refine Met.ofW (cc := cX0_pushNumber) (maxL := 2) (ret := none) (by decide) rfl ?_
  intro p e s m args below meth c s₁ B hml hv
  obtain ⟨rfl, hsz, hP, hK, hD0⟩ := hv
  have hr := B.returns
  have hlocks := B.notSynchronized
  have hts := atoms_spec (ws := zc_X0_pushNumber :: mq_T) B.pre
  have hown : s.vm.findClass RX0 = some m.cls := findClass_of_methodNamed B.named
  subst hsz
  have hD := hD0.self (sz := s.heap.size)
  generalize hAe : va_A (wd_B a cI cL cB cZ z S) s.heap.size = A at hD ⊢
  have hA : ∀ q : Nat, s.heap.size ≤ q → A q := fun q h => by rw [← hAe]; exact Or.inr h
  have hl := lv_entry ([.ref (a 0), .int (v1)]) (n := 2) (Nat.le_of_ble_eq_true rfl)
  rw [lg_entry_eq]
  generalize (lg_sl ([.ref (a 0), .int (v1)]) ++ List.replicate (2 - (lg_sl ([.ref (a 0), .int (v1)])).length) Slot.unset).toArray = ls at hl ⊢
  have hl : lv_has ls 2 [(0, .ref (a 0)), (1, .int (v1))] := hl
  refine zw_X0_pushNumber_0 (A := A) ⟨B.exec, B.bytes, hml, hown, hts, hK, hA⟩ (fun H locs ls pc dg hP hD hS => ?_) v1 S s.heap [] ls h hl hP hD va_S.rf
  exact W.vret B.exec B.bytes hr (fun t ht hW => ⟨⟨_, rfl, rfl, by rw [ht]; exact hP, va_K.moved hW.alike hK, hD⟩, hS.F ht⟩) hS.2.2 dg
theorem zt_X0_pushNumber_c : zc_X0_pushNumber ∈ mq_T := mq_T_mem (mq_t2 (List.mem_of_getElem? (i := 151) rfl)) rfl
theorem zt_X0_pushNumber_i : Cond.instanceMethod yX0_pushNumber ∈ mq_T := mq_T_mem (mq_t2 (List.mem_of_getElem? (i := 149) rfl)) rfl
theorem zt_X0_pushNumber_s : Cond.selects RX0 yX0_pushNumber yX0_pushNumber ∈ mq_T := mq_T_mem (mq_t2 (List.mem_of_getElem? (i := 150) rfl)) rfl
set_option maxHeartbeats 4000000 in
theorem zv_X0_pushNumber {p : Program} {l : Launch} {e : Env} {R : Room} {s : State} {m : MethodId} {args : Array Value} {below : List Frame} {meth : Method} {c : Code} {A : Nat → Prop} {D : va_G} {a z : Nat → Nat} {cI cL cB cZ : ClassId} {Q : State → Prop} {cc : ByteArray} {nL idx pc N : Nat} {own : String} {c1 : Cond} {H : Heap} {locs : List Loc} {ls : Array Slot} {rest : List Value} {S : mq_St} {res : Unit × mq_St} {v1 : Int32} {ws : va_W} (is : List Nat) (C : mq_C p s m args c A D cI cL cB cZ cc nL own c1) (hlk : Cond.methodLink own idx yX0_pushNumber ∈ mq_T) (hR : zr_X0_pushNumber.frames + 1 ≤ R.frames ∧ 8 + (2 + 11) + zr_X0_pushNumber.locals ≤ R.locals) (h : zf_X0_pushNumber N z v1 S = some res) (hC : is.map (fun i => ws[i]?) = (wd_B a cI cL cB cZ z S).map some) (hnd : va_nd is = true) {ws' : va_W} (hw : mq_setM ws is (wd_B a cI cL cB cZ z res.2) = ws') (hP : va_P D vwCl ws H) (hD : va_D A ws) (hS : va_S A s.heap H locs) (hls : ls.size = nL) (hrest : (rest.map fun v => v.category).sum ≤ 8) (hdg : decode cc pc = .ok (.invokevirtual idx, 3)) (kk : ∀ (H1 : Heap) (locs1 : List Loc), va_P D vwCl ws' H1 → va_D A ws' → va_S A s.heap H1 locs1 → W p l e R s m args below meth c H1 locs1 0 0 Q (F0 m (pc + 3) ls rest)) : W p l e R s m args below meth c H locs 0 0 Q (F0 m pc ls (.int (v1) :: .ref (a 0) :: rest)) := by
  obtain ⟨hx, hb, hml, hown, hts, hK, hA⟩ := C
  have hPc := mq_subP hP is hC
  have hDc := hD.sub is hnd hC
  have hFc := va_free hD hS hA is hC
  refine va_callv (va_runV (As := [.int (v1)]) (rest := rest) ⟨hx, hb, hml, hown, hts⟩ (zm_X0_pushNumber l D a z cI cL cB cZ H.size N v1 S res h) (cwV 1 hts (mq_goodL (mq_wsV hlk zt_X0_pushNumber_i zt_X0_pushNumber_s zt_ini_X0 zt_X0_pushNumber_c)) rfl rfl rfl (by decide +kernel) hR) ⟨fun a U g mk q => ⟨q.1, q.2.1, q.2.2.1, va_K.moved (u := U) (U := U.calling g mk a) (Vm.Alike.refl U.vm) q.2.2.2.1, q.2.2.2.2⟩, va_recv hK hPc (ci := 0) (q0 := 0) rfl rfl, fun U hU hW => ⟨rfl, by rw [hU], by rw [hU]; exact hPc, va_K.moved hW.alike hK, hDc.weaken (fun _ _ _ _ => trivial)⟩⟩ rfl rfl hls rfl (lv_room hrest) hdg ⟨Nat.zero_le _, Nat.zero_le _⟩) hS (fun q _ h => hFc q h) hFc (fun u t H1 locs ht hvm hw1 hB hz1 hk1 hS => ?_)
  subst hw1
  obtain ⟨hP1, hK1, hD1⟩ := hB
  rw [ht] at hP1
  obtain ⟨hP2, hD2⟩ := mq_join (w1 := (wd_B a cI cL cB cZ z res.2)) hP hD is hC rfl hk1 hP1
  rw [hw] at hP2 hD2
  exact kk H1 locs hP2 hD2 hS
/-! ModalDesk$ByteRow.keep(I)Z -/
def zr_X0_keep : Room := { frames := 0, cells := 0, slots := 0, locals := 0 }
def zc_X0_keep : Cond := .code yX0_keep cX0_keep 2 (some .boolean)
def zf_X0_keep (N : Nat) (z : Nat → Nat) (v1 : Int32) (S : mq_St) : Option (Int32 × mq_St) := (if v1 < (0 : Int32) then (mq_cz ((0 : Int32)) (some ((0 : Int32), S))) else (if v1 ≤ (S.1 0) then (mq_nS (mq_si S 0 (v1)) (fun S2 => (mq_cz ((1 : Int32)) (some ((1 : Int32), S2))))) else (mq_cz ((0 : Int32)) (some ((0 : Int32), S)))))
set_option maxHeartbeats 4000000 in
set_option maxRecDepth 100000 in
theorem zw_X0_keep_0 {p : Program} {l : Launch} {e : Env} {s : State} {m : MethodId} {args : Array Value} {below : List Frame} {meth : Method} {c : Code} {A : Nat → Prop} {D : va_G} {a z : Nat → Nat} {cI cL cB cZ : ClassId} {Q : State → Prop} {N : Nat} {res : Int32 × mq_St} (C : mq_C p s m args c A D cI cL cB cZ cX0_keep 2 RX0 zc_X0_keep) (hret : ∀ (H : Heap) (locs : List Loc) (ls : Array Slot) (pc : Nat), decode cX0_keep pc = .ok (.ireturn, 1) → narrow .boolean (.int res.1) = .int res.1 → va_P D vwCl (wd_B a cI cL cB cZ z res.2) H → va_D A (wd_B a cI cL cB cZ z res.2) → va_S A s.heap H locs → W p l e zr_X0_keep s m args below meth c H locs 0 0 Q (F0 m pc ls [.int res.1])) (v1 : Int32) (S : mq_St) (H : Heap) (locs : List Loc) (ls : Array Slot) (h : zf_X0_keep N z v1 S = some res) (hl : lv_has ls 2 [(0, .ref (a 0)), (1, .int (v1))]) (hP : va_P D vwCl (wd_B a cI cL cB cZ z S) H) (hD : va_D A (wd_B a cI cL cB cZ z S)) (hS : va_S A s.heap H locs) : W p l e zr_X0_keep s m args below meth c H locs 0 0 Q (F0 m 0 ls []) := by
  obtain ⟨hx, hb, hml, hown, hts, hK, hA⟩ := id C
  unfold zf_X0_keep at h
  refine lv_iload_n hx hb dX0_keep_0 rfl (lv_at hl 1 rfl) ?_
  refine lv_if_lt (tgt := 12) hx hb dX0_keep_1 (by decide) (fun c6 => ?_) (fun c6 => ?_)
  · replace h := mq_it c6 h
    refine lv_iconst (v := (0 : Int32)) hx hb dX0_keep_12 (by decide) ?_
    have hz1 := mq_cz_in h
    replace h := mq_cz_go h
    cases h
    exact hret H locs ls 13 dX0_keep_13 hz1.1 hP hD hS
  · replace h := mq_if c6 h
    refine lv_iload_n hx hb dX0_keep_4 rfl (lv_at hl 1 rfl) ?_
    refine lv_aload_n hx hb dX0_keep_5 rfl (lv_at hl 0 rfl) ?_
    refine va_get (D := D) (ci := 0) (v := .int ((S.1 0))) (C := RX0) (T := TX0) (N := 2) hx hb hts (zi_X0 _) hown hK hP 0 rfl rfl 1 (by decide) (hts _ (List.mem_cons_of_mem _ zt_f_X0_15)) (fun _ h9 => h9) rfl dX0_keep_6 ?_
    refine lv_icmp_le (tgt := 14) hx hb dX0_keep_9 (by decide) (fun c5 => ?_) (fun c5 => ?_)
    · replace h := mq_it c5 h
      refine lv_aload_n hx hb dX0_keep_14 rfl (lv_at hl 0 rfl) ?_
      refine lv_iload_n hx hb dX0_keep_15 rfl (lv_at hl 1 rfl) ?_
      refine mq_put (w := wd_B a cI cL cB cZ z) (S := S) (D := D) (ci := 0) (v := v1) (ty := .int) (C := RX0) (T := TX0) (N := 2) hx hb hts (zi_X0 _) tyX0 tyX0_ok nmX0 hown hK hP hD hS 0 rfl rfl 1 (by decide) (hts _ (List.mem_cons_of_mem _ zt_f_X0_15)) (fun _ h9 => h9) rfl (by decide +kernel) rfl rfl (Nat.le_of_ble_eq_true rfl) dX0_keep_16 0 rfl (fun S2 eS2 H locs hP hD hS => ?_)
      replace h := mq_nS_go eS2 h
      refine lv_iconst (v := (1 : Int32)) hx hb dX0_keep_19 (by decide) ?_
      have hz3 := mq_cz_in h
      replace h := mq_cz_go h
      cases h
      exact hret H locs ls 20 dX0_keep_20 hz3.1 hP hD hS
    · replace h := mq_if c5 h
      refine lv_iconst (v := (0 : Int32)) hx hb dX0_keep_12 (by decide) ?_
      have hz4 := mq_cz_in h
      replace h := mq_cz_go h
      cases h
      exact hret H locs ls 13 dX0_keep_13 hz4.1 hP hD hS
set_option maxHeartbeats 4000000 in
set_option maxRecDepth 100000 in
theorem zm_X0_keep (l : Launch) (D : va_G) (a z : Nat → Nat) (cI cL cB cZ : ClassId) (sz N : Nat) (v1 : Int32) (S : mq_St) (res : Int32 × mq_St) (h : zf_X0_keep N z v1 S = some res) : Met l yX0_keep (zc_X0_keep :: mq_T) zr_X0_keep (va_Pc [.ref (a 0), .int (v1)] (fun U => U.heap.size = sz ∧ va_P D vwCl (wd_B a cI cL cB cZ z S) U.heap ∧ va_K D vwCl (mq_tys cI cL cB cZ) U ∧ va_D (fun _ => True) (wd_B a cI cL cB cZ z S))) (va_Qi (fun (r : Int32) (u : mq_St) => r = res.1 ∧ u = res.2) (fun u t => va_P D vwCl (wd_B a cI cL cB cZ z u) t.heap ∧ va_K D vwCl (mq_tys cI cL cB cZ) t ∧ va_D (va_A (wd_B a cI cL cB cZ z S) sz) (wd_B a cI cL cB cZ z u)) (va_A (wd_B a cI cL cB cZ z S) sz)) 0 0 (va_A (wd_B a cI cL cB cZ z S) sz) := by
  refine Met.ofW (cc := cX0_keep) (maxL := 2) (ret := (some .boolean)) (by decide) rfl ?_
  intro p e s m args below meth c s₁ B hml hv
  obtain ⟨rfl, hsz, hP, hK, hD0⟩ := hv
  have hr := B.returns
  have hlocks := B.notSynchronized
  have hts := atoms_spec (ws := zc_X0_keep :: mq_T) B.pre
  have hown : s.vm.findClass RX0 = some m.cls := findClass_of_methodNamed B.named
  subst hsz
  have hD := hD0.self (sz := s.heap.size)
  generalize hAe : va_A (wd_B a cI cL cB cZ z S) s.heap.size = A at hD ⊢
  have hA : ∀ q : Nat, s.heap.size ≤ q → A q := fun q h => by rw [← hAe]; exact Or.inr h
  have hl := lv_entry ([.ref (a 0), .int (v1)]) (n := 2) (Nat.le_of_ble_eq_true rfl)
  rw [lg_entry_eq]
  generalize (lg_sl ([.ref (a 0), .int (v1)]) ++ List.replicate (2 - (lg_sl ([.ref (a 0), .int (v1)])).length) Slot.unset).toArray = ls at hl ⊢
  have hl : lv_has ls 2 [(0, .ref (a 0)), (1, .int (v1))] := hl
  refine zw_X0_keep_0 (A := A) ⟨B.exec, B.bytes, hml, hown, hts, hK, hA⟩ (fun H locs ls pc dg hz hP hD hS => ?_) v1 S s.heap [] ls h hl hP hD va_S.rf
  exact W.zret B.exec B.bytes hr hz (fun t ht hW => ⟨⟨_, _, rfl, ⟨rfl, rfl⟩, by rw [ht]; exact hP, va_K.moved hW.alike hK, hD⟩, hS.F ht⟩) hS.2.2 dg
theorem zt_X0_keep_c : zc_X0_keep ∈ mq_T := mq_T_mem (mq_t2 (List.mem_of_getElem? (i := 167) rfl)) rfl
theorem zt_X0_keep_i : Cond.instanceMethod yX0_keep ∈ mq_T := mq_T_mem (mq_t2 (List.mem_of_getElem? (i := 165) rfl)) rfl
theorem zt_X0_keep_s : Cond.selects RX0 yX0_keep yX0_keep ∈ mq_T := mq_T_mem (mq_t2 (List.mem_of_getElem? (i := 166) rfl)) rfl
set_option maxHeartbeats 4000000 in
theorem zv_X0_keep {p : Program} {l : Launch} {e : Env} {R : Room} {s : State} {m : MethodId} {args : Array Value} {below : List Frame} {meth : Method} {c : Code} {A : Nat → Prop} {D : va_G} {a z : Nat → Nat} {cI cL cB cZ : ClassId} {Q : State → Prop} {cc : ByteArray} {nL idx pc N : Nat} {own : String} {c1 : Cond} {H : Heap} {locs : List Loc} {ls : Array Slot} {rest : List Value} {S : mq_St} {res : Int32 × mq_St} {v1 : Int32} {ws : va_W} (is : List Nat) (C : mq_C p s m args c A D cI cL cB cZ cc nL own c1) (hlk : Cond.methodLink own idx yX0_keep ∈ mq_T) (hR : zr_X0_keep.frames + 1 ≤ R.frames ∧ 8 + (2 + 11) + zr_X0_keep.locals ≤ R.locals) (h : zf_X0_keep N z v1 S = some res) (hC : is.map (fun i => ws[i]?) = (wd_B a cI cL cB cZ z S).map some) (hnd : va_nd is = true) {ws' : va_W} (hw : mq_setM ws is (wd_B a cI cL cB cZ z res.2) = ws') (hP : va_P D vwCl ws H) (hD : va_D A ws) (hS : va_S A s.heap H locs) (hls : ls.size = nL) (hrest : (rest.map fun v => v.category).sum ≤ 8) (hdg : decode cc pc = .ok (.invokevirtual idx, 3)) (kk : ∀ (H1 : Heap) (locs1 : List Loc), va_P D vwCl ws' H1 → va_D A ws' → va_S A s.heap H1 locs1 → W p l e R s m args below meth c H1 locs1 0 0 Q (F0 m (pc + 3) ls (.int res.1 :: rest))) : W p l e R s m args below meth c H locs 0 0 Q (F0 m pc ls (.int (v1) :: .ref (a 0) :: rest)) := by
  obtain ⟨hx, hb, hml, hown, hts, hK, hA⟩ := C
  have hPc := mq_subP hP is hC
  have hDc := hD.sub is hnd hC
  have hFc := va_free hD hS hA is hC
  refine va_calli (va_runV (As := [.int (v1)]) (rest := rest) ⟨hx, hb, hml, hown, hts⟩ (zm_X0_keep l D a z cI cL cB cZ H.size N v1 S res h) (cwV 1 hts (mq_goodL (mq_wsV hlk zt_X0_keep_i zt_X0_keep_s zt_ini_X0 zt_X0_keep_c)) rfl rfl rfl (by decide +kernel) hR) ⟨fun a U g mk q => ⟨q.1, q.2.1, q.2.2.1, va_K.moved (u := U) (U := U.calling g mk a) (Vm.Alike.refl U.vm) q.2.2.2.1, q.2.2.2.2⟩, va_recv hK hPc (ci := 0) (q0 := 0) rfl rfl, fun U hU hW => ⟨rfl, by rw [hU], by rw [hU]; exact hPc, va_K.moved hW.alike hK, hDc.weaken (fun _ _ _ _ => trivial)⟩⟩ rfl rfl hls rfl (lv_room hrest) hdg ⟨Nat.zero_le _, Nat.zero_le _⟩) hS (fun q _ h => hFc q h) hFc (fun r u t H1 locs ht hvm hw1 hB hz1 hk1 hS => ?_)
  obtain ⟨rfl, rfl⟩ := hw1
  obtain ⟨hP1, hK1, hD1⟩ := hB
  rw [ht] at hP1
  obtain ⟨hP2, hD2⟩ := mq_join (w1 := (wd_B a cI cL cB cZ z res.2)) hP hD is hC rfl hk1 hP1
  rw [hw] at hP2 hD2
  exact kk H1 locs hP2 hD2 hS
def wd_BB (a : Nat → Nat) (cI cL cB cZ : ClassId) (z : Nat → Nat) (S : mq_St) : va_W := [(a 0, .inr (0, [.ref (a 1), .int (S.1 0)])), (a 1, .inl (cI, 1000, .inl (S.2.1 0))), (a 2, .inr (0, [.ref (a 3), .int (S.1 1)])), (a 3, .inl (cI, 1000, .inl (S.2.1 1)))]
/-! ModalDesk$ByteRow.copy(LModalDesk$ByteRow;)V -/
def zr_X0_copy : Room := { frames := 0, cells := 0, slots := 0, locals := 0 }
def zc_X0_copy : Cond := .code yX0_copy cX0_copy 3 none
def zf_X0_copy_10b (N : Nat) (z : Nat → Nat) (k10 : Int32 → mq_St → Option (Unit × mq_St)) (v2 : Int32) (S : mq_St) : Option (Unit × mq_St) := (if (S.1 0) ≤ ((4 : Int32) * v2) then (some ((), S)) else (if (1000 : Int32) ≤ v2 then (some ((), S)) else (mq_ck (v2) 1000 (mq_ck (v2) 1000 (mq_nS (mq_sa S 0 (upd (S.2.1 0) (v2).toNatClampNeg ((S.2.1 1 (v2).toNatClampNeg)))) (fun S5 => (mq_nI (v2 + (1 : Int32)) (fun x6 => (k10 (x6) S5)))))))))
def zf_X0_copy_10 (N : Nat) (z : Nat → Nat) : Nat → Int32 → mq_St → Option (Unit × mq_St)
  | 0, _, _ => none
  | n + 1, v2, S => zf_X0_copy_10b N z (fun v2 S => zf_X0_copy_10 N z n v2 S) v2 S
def zf_X0_copy (N : Nat) (z : Nat → Nat) (S : mq_St) : Option (Unit × mq_St) := (mq_nS (mq_si S 0 ((S.1 1))) (fun S1 => (mq_nI ((0 : Int32)) (fun x2 => (zf_X0_copy_10 N z N (x2) S1)))))
set_option maxHeartbeats 4000000 in
set_option maxRecDepth 100000 in
theorem zw_X0_copy_10b {p : Program} {l : Launch} {e : Env} {s : State} {m : MethodId} {args : Array Value} {below : List Frame} {meth : Method} {c : Code} {A : Nat → Prop} {D : va_G} {a z : Nat → Nat} {cI cL cB cZ : ClassId} {Q : State → Prop} {N : Nat} {res : Unit × mq_St} {k10 : Int32 → mq_St → Option (Unit × mq_St)} (C : mq_C p s m args c A D cI cL cB cZ cX0_copy 3 RX0 zc_X0_copy) (hret : ∀ (H : Heap) (locs : List Loc) (ls : Array Slot) (pc : Nat), decode cX0_copy pc = .ok (.return_, 1) → va_P D vwCl (wd_BB a cI cL cB cZ z res.2) H → va_D A (wd_BB a cI cL cB cZ z res.2) → va_S A s.heap H locs → W p l e zr_X0_copy s m args below meth c H locs 0 0 Q (F0 m pc ls [])) (hk10 : ∀ (v2 : Int32) (S : mq_St) (H : Heap) (locs : List Loc) (ls : Array Slot), k10 v2 S = some res → lv_has ls 3 [(0, .ref (a 0)), (1, .ref (a 2)), (2, .int (v2))] → va_P D vwCl (wd_BB a cI cL cB cZ z S) H → va_D A (wd_BB a cI cL cB cZ z S) → va_S A s.heap H locs → W p l e zr_X0_copy s m args below meth c H locs 0 0 Q (F0 m 10 ls [])) (v2 : Int32) (S : mq_St) (H : Heap) (locs : List Loc) (ls : Array Slot) (h : zf_X0_copy_10b N z k10 v2 S = some res) (hl : lv_has ls 3 [(0, .ref (a 0)), (1, .ref (a 2)), (2, .int (v2))]) (hP : va_P D vwCl (wd_BB a cI cL cB cZ z S) H) (hD : va_D A (wd_BB a cI cL cB cZ z S)) (hS : va_S A s.heap H locs) : W p l e zr_X0_copy s m args below meth c H locs 0 0 Q (F0 m 10 ls []) := by
  obtain ⟨hx, hb, hml, hown, hts, hK, hA⟩ := id C
  unfold zf_X0_copy_10b at h
  refine lv_iconst (v := (4 : Int32)) hx hb dX0_copy_10 (by decide) ?_
  refine lv_iload_n hx hb dX0_copy_11 rfl (lv_at hl 2 rfl) ?_
  refine lv_imul hx hb dX0_copy_12 ?_
  refine lv_aload_n hx hb dX0_copy_13 rfl (lv_at hl 0 rfl) ?_
  refine va_get (D := D) (ci := 0) (v := .int ((S.1 0))) (C := RX0) (T := TX0) (N := 2) hx hb hts (zi_X0 _) hown hK hP 0 rfl rfl 1 (by decide) (hts _ (List.mem_cons_of_mem _ zt_f_X0_15)) (fun _ h9 => h9) rfl dX0_copy_14 ?_
  refine lv_icmp_ge (tgt := 47) hx hb dX0_copy_17 (by decide) (fun c8 => ?_) (fun c8 => ?_)
  · replace h := mq_it c8 h
    cases h
    exact hret H locs ls 47 dX0_copy_47 hP hD hS
  · replace h := mq_if c8 h
    refine lv_iload_n hx hb dX0_copy_20 rfl (lv_at hl 2 rfl) ?_
    refine lv_aload_n hx hb dX0_copy_21 rfl (lv_at hl 0 rfl) ?_
    refine va_get (D := D) (ci := 0) (v := .ref (a 1)) (C := RX0) (T := TX0) (N := 2) hx hb hts (zi_X0 _) hown hK hP 0 rfl rfl 0 (by decide) (hts _ (List.mem_cons_of_mem _ zt_f_X0_9)) (fun _ h9 => h9) rfl dX0_copy_22 ?_
    refine va_alen hx hb hK hP 1 0 (v := (1000 : Int32)) rfl rfl (show Int32.ofNat 1000 = 1000 by decide) dX0_copy_25 ?_
    refine lv_icmp_ge (tgt := 47) hx hb dX0_copy_26 (by decide) (fun c7 => ?_) (fun c7 => ?_)
    · replace h := mq_it c7 h
      cases h
      exact hret H locs ls 47 dX0_copy_47 hP hD hS
    · replace h := mq_if c7 h
      refine lv_aload_n hx hb dX0_copy_29 rfl (lv_at hl 0 rfl) ?_
      refine va_get (D := D) (ci := 0) (v := .ref (a 1)) (C := RX0) (T := TX0) (N := 2) hx hb hts (zi_X0 _) hown hK hP 0 rfl rfl 0 (by decide) (hts _ (List.mem_cons_of_mem _ zt_f_X0_9)) (fun _ h9 => h9) rfl dX0_copy_30 ?_
      refine lv_iload_n hx hb dX0_copy_33 rfl (lv_at hl 2 rfl) ?_
      refine lv_aload_n hx hb dX0_copy_34 rfl (lv_at hl 1 rfl) ?_
      refine va_get (D := D) (ci := 0) (v := .ref (a 3)) (C := RX0) (T := TX0) (N := 2) hx hb hts (zi_X0 _) hown hK hP 2 rfl rfl 0 (by decide) (hts _ (List.mem_cons_of_mem _ zt_f_X0_9)) (fun _ h9 => h9) rfl dX0_copy_35 ?_
      refine lv_iload_n hx hb dX0_copy_38 rfl (lv_at hl 2 rfl) ?_
      have hi3 := mq_ck_in h
      replace h := mq_ck_go h
      refine va_iald (f := S.2.1 1) hx hb hK hP 3 0 rfl rfl hi3 dX0_copy_39 ?_
      have hi4 := mq_ck_in h
      replace h := mq_ck_go h
      refine mq_iast (w := wd_BB a cI cL cB cZ z) (S := S) (f := S.2.1 0) hx hb hK hP hD hS 1 0 rfl rfl hi4 dX0_copy_40 0 rfl (fun S5 eS5 H locs hP hD hS => ?_)
      replace h := mq_nS_go eS5 h
      obtain ⟨x6, ex6⟩ : ∃ y : Int32, y = v2 + (1 : Int32) := ⟨_, rfl⟩
      replace h := mq_nI_go ex6 h
      refine lv_iinc (v := x6) (lv' := [(2, .int (x6)), (0, .ref (a 0)), (1, .ref (a 2))]) hx hb dX0_copy_41 hl (k := 2) rfl (by rw [ex6]; rfl) (by decide) rfl (fun ls hl => ?_)
      refine lv_goto (tgt := 10) hx hb dX0_copy_44 (by decide) ?_
      exact hk10 (x6) S5 H locs ls h (lv_sub hl [1, 2, 0] rfl) hP hD hS
set_option maxHeartbeats 4000000 in
set_option maxRecDepth 100000 in
theorem zw_X0_copy_10 {p : Program} {l : Launch} {e : Env} {s : State} {m : MethodId} {args : Array Value} {below : List Frame} {meth : Method} {c : Code} {A : Nat → Prop} {D : va_G} {a z : Nat → Nat} {cI cL cB cZ : ClassId} {Q : State → Prop} {N : Nat} {res : Unit × mq_St} (C : mq_C p s m args c A D cI cL cB cZ cX0_copy 3 RX0 zc_X0_copy) (hret : ∀ (H : Heap) (locs : List Loc) (ls : Array Slot) (pc : Nat), decode cX0_copy pc = .ok (.return_, 1) → va_P D vwCl (wd_BB a cI cL cB cZ z res.2) H → va_D A (wd_BB a cI cL cB cZ z res.2) → va_S A s.heap H locs → W p l e zr_X0_copy s m args below meth c H locs 0 0 Q (F0 m pc ls [])) : ∀ (n : Nat) (v2 : Int32) (S : mq_St) (H : Heap) (locs : List Loc) (ls : Array Slot) (h : zf_X0_copy_10 N z n v2 S = some res) (hl : lv_has ls 3 [(0, .ref (a 0)), (1, .ref (a 2)), (2, .int (v2))]) (hP : va_P D vwCl (wd_BB a cI cL cB cZ z S) H) (hD : va_D A (wd_BB a cI cL cB cZ z S)) (hS : va_S A s.heap H locs), W p l e zr_X0_copy s m args below meth c H locs 0 0 Q (F0 m 10 ls []) := by
  intro n
  induction n with
  | zero =>
    intro v2 S H locs ls h hl hP hD hS
    exact nomatch (show (none : Option (Unit × mq_St)) = some res from h)
  | succ n ih =>
    intro v2 S H locs ls h hl hP hD hS
    exact zw_X0_copy_10b C hret (fun v2 S H locs ls h hl hP hD hS => ih v2 S H locs ls h hl hP hD hS) v2 S H locs ls h hl hP hD hS
set_option maxHeartbeats 4000000 in
set_option maxRecDepth 100000 in
theorem zw_X0_copy_0 {p : Program} {l : Launch} {e : Env} {s : State} {m : MethodId} {args : Array Value} {below : List Frame} {meth : Method} {c : Code} {A : Nat → Prop} {D : va_G} {a z : Nat → Nat} {cI cL cB cZ : ClassId} {Q : State → Prop} {N : Nat} {res : Unit × mq_St} (C : mq_C p s m args c A D cI cL cB cZ cX0_copy 3 RX0 zc_X0_copy) (hret : ∀ (H : Heap) (locs : List Loc) (ls : Array Slot) (pc : Nat), decode cX0_copy pc = .ok (.return_, 1) → va_P D vwCl (wd_BB a cI cL cB cZ z res.2) H → va_D A (wd_BB a cI cL cB cZ z res.2) → va_S A s.heap H locs → W p l e zr_X0_copy s m args below meth c H locs 0 0 Q (F0 m pc ls [])) (S : mq_St) (H : Heap) (locs : List Loc) (ls : Array Slot) (h : zf_X0_copy N z S = some res) (hl : lv_has ls 3 [(0, .ref (a 0)), (1, .ref (a 2))]) (hP : va_P D vwCl (wd_BB a cI cL cB cZ z S) H) (hD : va_D A (wd_BB a cI cL cB cZ z S)) (hS : va_S A s.heap H locs) : W p l e zr_X0_copy s m args below meth c H locs 0 0 Q (F0 m 0 ls []) := by
  obtain ⟨hx, hb, hml, hown, hts, hK, hA⟩ := id C
  unfold zf_X0_copy at h
  refine lv_aload_n hx hb dX0_copy_0 rfl (lv_at hl 0 rfl) ?_
  refine lv_aload_n hx hb dX0_copy_1 rfl (lv_at hl 1 rfl) ?_
  refine va_get (D := D) (ci := 0) (v := .int ((S.1 1))) (C := RX0) (T := TX0) (N := 2) hx hb hts (zi_X0 _) hown hK hP 2 rfl rfl 1 (by decide) (hts _ (List.mem_cons_of_mem _ zt_f_X0_15)) (fun _ h9 => h9) rfl dX0_copy_2 ?_
  refine mq_put (w := wd_BB a cI cL cB cZ z) (S := S) (D := D) (ci := 0) (v := (S.1 1)) (ty := .int) (C := RX0) (T := TX0) (N := 2) hx hb hts (zi_X0 _) tyX0 tyX0_ok nmX0 hown hK hP hD hS 0 rfl rfl 1 (by decide) (hts _ (List.mem_cons_of_mem _ zt_f_X0_15)) (fun _ h9 => h9) rfl (by decide +kernel) rfl rfl (Nat.le_of_ble_eq_true rfl) dX0_copy_5 0 rfl (fun S1 eS1 H locs hP hD hS => ?_)
  replace h := mq_nS_go eS1 h
  refine lv_iconst (v := (0 : Int32)) hx hb dX0_copy_8 (by decide) ?_
  refine lv_topi (fun x2 ex2 => ?_)
  replace h := mq_nI_go ex2 h
  refine lv_istore_n (lv' := [(2, .int (x2)), (0, .ref (a 0)), (1, .ref (a 2))]) hx hb dX0_copy_9 rfl hl (by decide) rfl (fun ls hl => ?_)
  exact zw_X0_copy_10 C hret N (x2) S1 H locs ls h (lv_sub hl [1, 2, 0] rfl) hP hD hS
set_option maxHeartbeats 4000000 in
set_option maxRecDepth 100000 in
theorem zm_X0_copy (l : Launch) (D : va_G) (a z : Nat → Nat) (cI cL cB cZ : ClassId) (sz N : Nat) (S : mq_St) (res : Unit × mq_St) (h : zf_X0_copy N z S = some res) : Met l yX0_copy (zc_X0_copy :: mq_T) zr_X0_copy (va_Pc [.ref (a 0), .ref (a 2)] (fun U => U.heap.size = sz ∧ va_P D vwCl (wd_BB a cI cL cB cZ z S) U.heap ∧ va_K D vwCl (mq_tys cI cL cB cZ) U ∧ va_D (fun _ => True) (wd_BB a cI cL cB cZ z S))) (va_Qv (fun u : mq_St => u = res.2) (fun u t => va_P D vwCl (wd_BB a cI cL cB cZ z u) t.heap ∧ va_K D vwCl (mq_tys cI cL cB cZ) t ∧ va_D (va_A (wd_BB a cI cL cB cZ z S) sz) (wd_BB a cI cL cB cZ z u)) (va_A (wd_BB a cI cL cB cZ z S) sz)) 0 0 (va_A (wd_BB a cI cL cB cZ z S) sz) := by
  refine Met.ofW (cc := cX0_copy) (maxL := 3) (ret := none) (by decide) rfl ?_
  intro p e s m args below meth c s₁ B hml hv
  obtain ⟨rfl, hsz, hP, hK, hD0⟩ := hv
  have hr := B.returns
  have hlocks := B.notSynchronized
  have hts := atoms_spec (ws := zc_X0_copy :: mq_T) B.pre
  have hown : s.vm.findClass RX0 = some m.cls := findClass_of_methodNamed B.named
  subst hsz
  have hD := hD0.self (sz := s.heap.size)
  generalize hAe : va_A (wd_BB a cI cL cB cZ z S) s.heap.size = A at hD ⊢
  have hA : ∀ q : Nat, s.heap.size ≤ q → A q := fun q h => by rw [← hAe]; exact Or.inr h
  have hl := lv_entry ([.ref (a 0), .ref (a 2)]) (n := 3) (Nat.le_of_ble_eq_true rfl)
  rw [lg_entry_eq]
  generalize (lg_sl ([.ref (a 0), .ref (a 2)]) ++ List.replicate (3 - (lg_sl ([.ref (a 0), .ref (a 2)])).length) Slot.unset).toArray = ls at hl ⊢
  have hl : lv_has ls 3 [(0, .ref (a 0)), (1, .ref (a 2))] := hl
  refine zw_X0_copy_0 (A := A) ⟨B.exec, B.bytes, hml, hown, hts, hK, hA⟩ (fun H locs ls pc dg hP hD hS => ?_) S s.heap [] ls h hl hP hD va_S.rf
  exact W.vret B.exec B.bytes hr (fun t ht hW => ⟨⟨_, rfl, rfl, by rw [ht]; exact hP, va_K.moved hW.alike hK, hD⟩, hS.F ht⟩) hS.2.2 dg
theorem zt_X0_copy_c : zc_X0_copy ∈ mq_T := mq_T_mem (mq_t2 (List.mem_of_getElem? (i := 175) rfl)) rfl
theorem zt_X0_copy_i : Cond.instanceMethod yX0_copy ∈ mq_T := mq_T_mem (mq_t2 (List.mem_of_getElem? (i := 173) rfl)) rfl
theorem zt_X0_copy_s : Cond.selects RX0 yX0_copy yX0_copy ∈ mq_T := mq_T_mem (mq_t2 (List.mem_of_getElem? (i := 174) rfl)) rfl
set_option maxHeartbeats 4000000 in
theorem zv_X0_copy {p : Program} {l : Launch} {e : Env} {R : Room} {s : State} {m : MethodId} {args : Array Value} {below : List Frame} {meth : Method} {c : Code} {A : Nat → Prop} {D : va_G} {a z : Nat → Nat} {cI cL cB cZ : ClassId} {Q : State → Prop} {cc : ByteArray} {nL idx pc N : Nat} {own : String} {c1 : Cond} {H : Heap} {locs : List Loc} {ls : Array Slot} {rest : List Value} {S : mq_St} {res : Unit × mq_St} {ws : va_W} (is : List Nat) (C : mq_C p s m args c A D cI cL cB cZ cc nL own c1) (hlk : Cond.methodLink own idx yX0_copy ∈ mq_T) (hR : zr_X0_copy.frames + 1 ≤ R.frames ∧ 8 + (3 + 11) + zr_X0_copy.locals ≤ R.locals) (h : zf_X0_copy N z S = some res) (hC : is.map (fun i => ws[i]?) = (wd_BB a cI cL cB cZ z S).map some) (hnd : va_nd is = true) {ws' : va_W} (hw : mq_setM ws is (wd_BB a cI cL cB cZ z res.2) = ws') (hP : va_P D vwCl ws H) (hD : va_D A ws) (hS : va_S A s.heap H locs) (hls : ls.size = nL) (hrest : (rest.map fun v => v.category).sum ≤ 8) (hdg : decode cc pc = .ok (.invokevirtual idx, 3)) (kk : ∀ (H1 : Heap) (locs1 : List Loc), va_P D vwCl ws' H1 → va_D A ws' → va_S A s.heap H1 locs1 → W p l e R s m args below meth c H1 locs1 0 0 Q (F0 m (pc + 3) ls rest)) : W p l e R s m args below meth c H locs 0 0 Q (F0 m pc ls (.ref (a 2) :: .ref (a 0) :: rest)) := by
  obtain ⟨hx, hb, hml, hown, hts, hK, hA⟩ := C
  have hPc := mq_subP hP is hC
  have hDc := hD.sub is hnd hC
  have hFc := va_free hD hS hA is hC
  refine va_callv (va_runV (As := [.ref (a 2)]) (rest := rest) ⟨hx, hb, hml, hown, hts⟩ (zm_X0_copy l D a z cI cL cB cZ H.size N S res h) (cwV 1 hts (mq_goodL (mq_wsV hlk zt_X0_copy_i zt_X0_copy_s zt_ini_X0 zt_X0_copy_c)) rfl rfl rfl (by decide +kernel) hR) ⟨fun a U g mk q => ⟨q.1, q.2.1, q.2.2.1, va_K.moved (u := U) (U := U.calling g mk a) (Vm.Alike.refl U.vm) q.2.2.2.1, q.2.2.2.2⟩, va_recv hK hPc (ci := 0) (q0 := 0) rfl rfl, fun U hU hW => ⟨rfl, by rw [hU], by rw [hU]; exact hPc, va_K.moved hW.alike hK, hDc.weaken (fun _ _ _ _ => trivial)⟩⟩ rfl rfl hls rfl (lv_room hrest) hdg ⟨Nat.zero_le _, Nat.zero_le _⟩) hS (fun q _ h => hFc q h) hFc (fun u t H1 locs ht hvm hw1 hB hz1 hk1 hS => ?_)
  subst hw1
  obtain ⟨hP1, hK1, hD1⟩ := hB
  rw [ht] at hP1
  obtain ⟨hP2, hD2⟩ := mq_join (w1 := (wd_BB a cI cL cB cZ z res.2)) hP hD is hC rfl hk1 hP1
  rw [hw] at hP2 hD2
  exact kk H1 locs hP2 hD2 hS
