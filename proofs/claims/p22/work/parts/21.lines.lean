def wd_L (a : Nat → Nat) (cI cL cB cZ : ClassId) (z : Nat → Nat) (S : mq_St) : va_W := [(a 0, .inr (3, [.ref (a 1), .int (S.1 0)])), (a 1, .inl (cI, 1299, .inl (S.2.1 0)))]
theorem zt_f_X3_15 : Cond.fieldLink RX3 15 "ModalDesk$Lines" "size" "I" ∈ mq_T := mq_T_mem (mq_t1 (List.mem_of_getElem? (i := 210) rfl)) rfl
theorem zi_X3 (c1 : Cond) : ∀ w ∈ u_ws RX3 TX3 2, w ∈ c1 :: mq_T := fun w h => List.mem_cons_of_mem _ (mq_T_mem (mq_inl [(1, 211), (1, 213)] (by decide +kernel) w h) ((by decide +kernel : ∀ w ∈ u_ws RX3 TX3 2, goodWord w = true) w h))
/-! ModalDesk$Lines.size()I -/
def zr_X3_size : Room := { frames := 0, cells := 0, slots := 0, locals := 0 }
def zc_X3_size : Cond := .code yX3_size cX3_size 1 (some .int)
def zf_X3_size (N : Nat) (z : Nat → Nat) (S : mq_St) : Option (Int32) := (some ((S.1 0)))
set_option maxHeartbeats 4000000 in
set_option maxRecDepth 100000 in
theorem zw_X3_size_0 {p : Program} {l : Launch} {e : Env} {s : State} {m : MethodId} {args : Array Value} {below : List Frame} {meth : Method} {c : Code} {A : Nat → Prop} {D : va_G} {a z : Nat → Nat} {cI cL cB cZ : ClassId} {Q : State → Prop} {N : Nat} {S : mq_St} {res : Int32} (C : mq_C p s m args c A D cI cL cB cZ cX3_size 1 RX3 zc_X3_size) (hret : ∀ (H : Heap) (locs : List Loc) (ls : Array Slot) (pc : Nat), decode cX3_size pc = .ok (.ireturn, 1) → va_P D vwCl (wd_L a cI cL cB cZ z S) H → va_D A (wd_L a cI cL cB cZ z S) → va_S A s.heap H locs → W p l e zr_X3_size s m args below meth c H locs 0 0 Q (F0 m pc ls [.int res])) (H : Heap) (locs : List Loc) (ls : Array Slot) (h : zf_X3_size N z S = some res) (hl : lv_has ls 1 [(0, .ref (a 0))]) (hP : va_P D vwCl (wd_L a cI cL cB cZ z S) H) (hD : va_D A (wd_L a cI cL cB cZ z S)) (hS : va_S A s.heap H locs) : W p l e zr_X3_size s m args below meth c H locs 0 0 Q (F0 m 0 ls []) := by
  obtain ⟨hx, hb, hml, hown, hts, hK, hA⟩ := id C
  unfold zf_X3_size at h
  refine lv_aload_n hx hb dX3_size_0 rfl (lv_at hl 0 rfl) ?_
  refine va_get (D := D) (ci := 3) (v := .int ((S.1 0))) (C := RX3) (T := TX3) (N := 2) hx hb hts (zi_X3 _) hown hK hP 0 rfl rfl 1 (by decide) (hts _ (List.mem_cons_of_mem _ zt_f_X3_15)) (fun _ h9 => h9) rfl dX3_size_1 ?_
  cases h
  exact hret H locs ls 4 dX3_size_4 hP hD hS
set_option maxHeartbeats 4000000 in
set_option maxRecDepth 100000 in
theorem zm_X3_size (l : Launch) (D : va_G) (a z : Nat → Nat) (cI cL cB cZ : ClassId) (sz N : Nat) (S : mq_St) (res : Int32) (h : zf_X3_size N z S = some res) : Met l yX3_size (zc_X3_size :: mq_T) zr_X3_size (va_Pc [.ref (a 0)] (fun U => U.heap.size = sz ∧ va_P D vwCl (wd_L a cI cL cB cZ z S) U.heap ∧ va_K D vwCl (mq_tys cI cL cB cZ) U ∧ va_D (fun _ => True) (wd_L a cI cL cB cZ z S))) (va_Qi (fun (r : Int32) (u : mq_St) => r = res ∧ u = S) (fun u t => va_P D vwCl (wd_L a cI cL cB cZ z u) t.heap ∧ va_K D vwCl (mq_tys cI cL cB cZ) t ∧ va_D (va_A (wd_L a cI cL cB cZ z S) sz) (wd_L a cI cL cB cZ z u)) (va_A (wd_L a cI cL cB cZ z S) sz)) 0 0 (va_A (wd_L a cI cL cB cZ z S) sz) := by
  refine Met.ofW (cc := cX3_size) (maxL := 1) (ret := (some .int)) (by decide) rfl ?_
  intro p e s m args below meth c s₁ B hml hv
  obtain ⟨rfl, hsz, hP, hK, hD0⟩ := hv
  have hr := B.returns
  have hlocks := B.notSynchronized
  have hts := atoms_spec (ws := zc_X3_size :: mq_T) B.pre
  have hown : s.vm.findClass RX3 = some m.cls := findClass_of_methodNamed B.named
  subst hsz
  have hD := hD0.self (sz := s.heap.size)
  generalize hAe : va_A (wd_L a cI cL cB cZ z S) s.heap.size = A at hD ⊢
  have hA : ∀ q : Nat, s.heap.size ≤ q → A q := fun q h => by rw [← hAe]; exact Or.inr h
  have hl := lv_entry ([.ref (a 0)]) (n := 1) (Nat.le_of_ble_eq_true rfl)
  rw [lg_entry_eq]
  generalize (lg_sl ([.ref (a 0)]) ++ List.replicate (1 - (lg_sl ([.ref (a 0)])).length) Slot.unset).toArray = ls at hl ⊢
  have hl : lv_has ls 1 [(0, .ref (a 0))] := hl
  refine zw_X3_size_0 (A := A) ⟨B.exec, B.bytes, hml, hown, hts, hK, hA⟩ (fun H locs ls pc dg hP hD hS => ?_) s.heap [] ls h hl hP hD va_S.rf
  exact W.iret B.exec B.bytes hr (fun t ht hW => ⟨⟨_, _, rfl, ⟨rfl, rfl⟩, by rw [ht]; exact hP, va_K.moved hW.alike hK, hD⟩, hS.F ht⟩) hS.2.2 dg
theorem zt_X3_size_c : zc_X3_size ∈ mq_T := mq_T_mem (mq_t4 (List.mem_of_getElem? (i := 119) rfl)) rfl
theorem zt_X3_size_i : Cond.instanceMethod yX3_size ∈ mq_T := mq_T_mem (mq_t4 (List.mem_of_getElem? (i := 117) rfl)) rfl
theorem zt_X3_size_s : Cond.selects RX3 yX3_size yX3_size ∈ mq_T := mq_T_mem (mq_t4 (List.mem_of_getElem? (i := 118) rfl)) rfl
theorem zt_ini_X3 : Cond.initialized RX3 ∈ mq_T := mq_T_mem (mq_t1 (List.mem_of_getElem? (i := 10) rfl)) rfl
set_option maxHeartbeats 4000000 in
theorem zv_X3_size {p : Program} {l : Launch} {e : Env} {R : Room} {s : State} {m : MethodId} {args : Array Value} {below : List Frame} {meth : Method} {c : Code} {A : Nat → Prop} {D : va_G} {a z : Nat → Nat} {cI cL cB cZ : ClassId} {Q : State → Prop} {cc : ByteArray} {nL idx pc N : Nat} {own : String} {c1 : Cond} {H : Heap} {locs : List Loc} {ls : Array Slot} {rest : List Value} {S : mq_St} {res : Int32} {ws : va_W} (is : List Nat) (C : mq_C p s m args c A D cI cL cB cZ cc nL own c1) (hlk : Cond.methodLink own idx yX3_size ∈ mq_T) (hR : zr_X3_size.frames + 1 ≤ R.frames ∧ 8 + (1 + 11) + zr_X3_size.locals ≤ R.locals) (h : zf_X3_size N z S = some res) (hC : is.map (fun i => ws[i]?) = (wd_L a cI cL cB cZ z S).map some) (hnd : va_nd is = true) (hP : va_P D vwCl ws H) (hD : va_D A ws) (hS : va_S A s.heap H locs) (hls : ls.size = nL) (hrest : (rest.map fun v => v.category).sum ≤ 8) (hdg : decode cc pc = .ok (.invokevirtual idx, 3)) (kk : ∀ (H1 : Heap) (locs1 : List Loc), va_P D vwCl ws H1 → va_D A ws → va_S A s.heap H1 locs1 → W p l e R s m args below meth c H1 locs1 0 0 Q (F0 m (pc + 3) ls (.int res :: rest))) : W p l e R s m args below meth c H locs 0 0 Q (F0 m pc ls (.ref (a 0) :: rest)) := by
  obtain ⟨hx, hb, hml, hown, hts, hK, hA⟩ := C
  have hPc := mq_subP hP is hC
  have hDc := hD.sub is hnd hC
  have hFc := va_free hD hS hA is hC
  refine va_calli (va_runV (As := []) (rest := rest) ⟨hx, hb, hml, hown, hts⟩ (zm_X3_size l D a z cI cL cB cZ H.size N S res h) (cwV 0 hts (mq_goodL (mq_wsV hlk zt_X3_size_i zt_X3_size_s zt_ini_X3 zt_X3_size_c)) rfl rfl rfl (by decide +kernel) hR) ⟨fun a U g mk q => ⟨q.1, q.2.1, q.2.2.1, va_K.moved (u := U) (U := U.calling g mk a) (Vm.Alike.refl U.vm) q.2.2.2.1, q.2.2.2.2⟩, va_recv hK hPc (ci := 3) (q0 := 0) rfl rfl, fun U hU hW => ⟨rfl, by rw [hU], by rw [hU]; exact hPc, va_K.moved hW.alike hK, hDc.weaken (fun _ _ _ _ => trivial)⟩⟩ rfl rfl hls rfl (lv_room hrest) hdg ⟨Nat.zero_le _, Nat.zero_le _⟩) hS (fun q _ h => hFc q h) hFc (fun r u t H1 locs ht hvm hw1 hB hz1 hk1 hS => ?_)
  obtain ⟨rfl, rfl⟩ := hw1
  obtain ⟨hP1, hK1, hD1⟩ := hB
  rw [ht] at hP1
  obtain ⟨hP2, hD2⟩ := mq_join hP hD is hC rfl hk1 hP1
  rw [mq_setM_same is _ ws hC] at hP2 hD2
  exact kk H1 locs hP2 hD2 hS
theorem zt_f_X3_9 : Cond.fieldLink RX3 9 "ModalDesk$Lines" "rows" "[I" ∈ mq_T := mq_T_mem (mq_t1 (List.mem_of_getElem? (i := 209) rfl)) rfl
/-! ModalDesk$Lines.push(II)Z -/
def zr_X3_push : Room := { frames := 0, cells := 0, slots := 0, locals := 0 }
def zc_X3_push : Cond := .code yX3_push cX3_push 3 (some .boolean)
def zf_X3_push (N : Nat) (z : Nat → Nat) (v1 : Int32) (v2 : Int32) (S : mq_St) : Option (Int32 × mq_St) := (if (S.1 0) < (1299 : Int32) then (mq_ck ((S.1 0)) 1299 (mq_nS (mq_sa S 0 (upd (S.2.1 0) ((S.1 0)).toNatClampNeg (((v1 <<< ((16 : Int32) &&& (31 : Int32))) ||| v2)))) (fun S2 => (mq_nS (mq_si S2 0 (((S2.1 0) + (1 : Int32)))) (fun S3 => (mq_cz ((1 : Int32)) (some ((1 : Int32), S3)))))))) else (mq_cz ((0 : Int32)) (some ((0 : Int32), S))))
set_option maxHeartbeats 4000000 in
set_option maxRecDepth 100000 in
theorem zw_X3_push_0 {p : Program} {l : Launch} {e : Env} {s : State} {m : MethodId} {args : Array Value} {below : List Frame} {meth : Method} {c : Code} {A : Nat → Prop} {D : va_G} {a z : Nat → Nat} {cI cL cB cZ : ClassId} {Q : State → Prop} {N : Nat} {res : Int32 × mq_St} (C : mq_C p s m args c A D cI cL cB cZ cX3_push 3 RX3 zc_X3_push) (hret : ∀ (H : Heap) (locs : List Loc) (ls : Array Slot) (pc : Nat), decode cX3_push pc = .ok (.ireturn, 1) → narrow .boolean (.int res.1) = .int res.1 → va_P D vwCl (wd_L a cI cL cB cZ z res.2) H → va_D A (wd_L a cI cL cB cZ z res.2) → va_S A s.heap H locs → W p l e zr_X3_push s m args below meth c H locs 0 0 Q (F0 m pc ls [.int res.1])) (v1 : Int32) (v2 : Int32) (S : mq_St) (H : Heap) (locs : List Loc) (ls : Array Slot) (h : zf_X3_push N z v1 v2 S = some res) (hl : lv_has ls 3 [(0, .ref (a 0)), (1, .int (v1)), (2, .int (v2))]) (hP : va_P D vwCl (wd_L a cI cL cB cZ z S) H) (hD : va_D A (wd_L a cI cL cB cZ z S)) (hS : va_S A s.heap H locs) : W p l e zr_X3_push s m args below meth c H locs 0 0 Q (F0 m 0 ls []) := by
  obtain ⟨hx, hb, hml, hown, hts, hK, hA⟩ := id C
  unfold zf_X3_push at h
  refine lv_aload_n hx hb dX3_push_0 rfl (lv_at hl 0 rfl) ?_
  refine va_get (D := D) (ci := 3) (v := .int ((S.1 0))) (C := RX3) (T := TX3) (N := 2) hx hb hts (zi_X3 _) hown hK hP 0 rfl rfl 1 (by decide) (hts _ (List.mem_cons_of_mem _ zt_f_X3_15)) (fun _ h9 => h9) rfl dX3_push_1 ?_
  refine lv_aload_n hx hb dX3_push_4 rfl (lv_at hl 0 rfl) ?_
  refine va_get (D := D) (ci := 3) (v := .ref (a 1)) (C := RX3) (T := TX3) (N := 2) hx hb hts (zi_X3 _) hown hK hP 0 rfl rfl 0 (by decide) (hts _ (List.mem_cons_of_mem _ zt_f_X3_9)) (fun _ h9 => h9) rfl dX3_push_5 ?_
  refine va_alen hx hb hK hP 1 0 (v := (1299 : Int32)) rfl rfl (show Int32.ofNat 1299 = 1299 by decide) dX3_push_8 ?_
  refine lv_icmp_lt (tgt := 14) hx hb dX3_push_9 (by decide) (fun c6 => ?_) (fun c6 => ?_)
  · replace h := mq_it c6 h
    refine lv_aload_n hx hb dX3_push_14 rfl (lv_at hl 0 rfl) ?_
    refine va_get (D := D) (ci := 3) (v := .ref (a 1)) (C := RX3) (T := TX3) (N := 2) hx hb hts (zi_X3 _) hown hK hP 0 rfl rfl 0 (by decide) (hts _ (List.mem_cons_of_mem _ zt_f_X3_9)) (fun _ h9 => h9) rfl dX3_push_15 ?_
    refine lv_aload_n hx hb dX3_push_18 rfl (lv_at hl 0 rfl) ?_
    refine va_get (D := D) (ci := 3) (v := .int ((S.1 0))) (C := RX3) (T := TX3) (N := 2) hx hb hts (zi_X3 _) hown hK hP 0 rfl rfl 1 (by decide) (hts _ (List.mem_cons_of_mem _ zt_f_X3_15)) (fun _ h9 => h9) rfl dX3_push_19 ?_
    refine lv_iload_n hx hb dX3_push_22 rfl (lv_at hl 1 rfl) ?_
    refine lv_bipush (v := (16 : Int32)) hx hb dX3_push_23 (by decide) ?_
    refine lv_ishl hx hb dX3_push_25 ?_
    refine lv_iload_n hx hb dX3_push_26 rfl (lv_at hl 2 rfl) ?_
    refine lv_ior hx hb dX3_push_27 ?_
    have hi1 := mq_ck_in h
    replace h := mq_ck_go h
    refine mq_iast (w := wd_L a cI cL cB cZ z) (S := S) (f := S.2.1 0) hx hb hK hP hD hS 1 0 rfl rfl hi1 dX3_push_28 0 rfl (fun S2 eS2 H locs hP hD hS => ?_)
    replace h := mq_nS_go eS2 h
    refine lv_aload_n hx hb dX3_push_29 rfl (lv_at hl 0 rfl) ?_
    refine lv_dup hx hb dX3_push_30 rfl ?_
    refine va_get (D := D) (ci := 3) (v := .int ((S2.1 0))) (C := RX3) (T := TX3) (N := 2) hx hb hts (zi_X3 _) hown hK hP 0 rfl rfl 1 (by decide) (hts _ (List.mem_cons_of_mem _ zt_f_X3_15)) (fun _ h9 => h9) rfl dX3_push_31 ?_
    refine lv_iconst (v := (1 : Int32)) hx hb dX3_push_34 (by decide) ?_
    refine lv_iadd hx hb dX3_push_35 ?_
    refine mq_put (w := wd_L a cI cL cB cZ z) (S := S2) (D := D) (ci := 3) (v := ((S2.1 0) + (1 : Int32))) (ty := .int) (C := RX3) (T := TX3) (N := 2) hx hb hts (zi_X3 _) tyX3 tyX3_ok nmX3 hown hK hP hD hS 0 rfl rfl 1 (by decide) (hts _ (List.mem_cons_of_mem _ zt_f_X3_15)) (fun _ h9 => h9) rfl (by decide +kernel) rfl rfl (Nat.le_of_ble_eq_true rfl) dX3_push_36 0 rfl (fun S3 eS3 H locs hP hD hS => ?_)
    replace h := mq_nS_go eS3 h
    refine lv_iconst (v := (1 : Int32)) hx hb dX3_push_39 (by decide) ?_
    have hz4 := mq_cz_in h
    replace h := mq_cz_go h
    cases h
    exact hret H locs ls 40 dX3_push_40 hz4.1 hP hD hS
  · replace h := mq_if c6 h
    refine lv_iconst (v := (0 : Int32)) hx hb dX3_push_12 (by decide) ?_
    have hz5 := mq_cz_in h
    replace h := mq_cz_go h
    cases h
    exact hret H locs ls 13 dX3_push_13 hz5.1 hP hD hS
set_option maxHeartbeats 4000000 in
set_option maxRecDepth 100000 in
theorem zm_X3_push (l : Launch) (D : va_G) (a z : Nat → Nat) (cI cL cB cZ : ClassId) (sz N : Nat) (v1 : Int32) (v2 : Int32) (S : mq_St) (res : Int32 × mq_St) (h : zf_X3_push N z v1 v2 S = some res) : Met l yX3_push (zc_X3_push :: mq_T) zr_X3_push (va_Pc [.ref (a 0), .int (v1), .int (v2)] (fun U => U.heap.size = sz ∧ va_P D vwCl (wd_L a cI cL cB cZ z S) U.heap ∧ va_K D vwCl (mq_tys cI cL cB cZ) U ∧ va_D (fun _ => True) (wd_L a cI cL cB cZ z S))) (va_Qi (fun (r : Int32) (u : mq_St) => r = res.1 ∧ u = res.2) (fun u t => va_P D vwCl (wd_L a cI cL cB cZ z u) t.heap ∧ va_K D vwCl (mq_tys cI cL cB cZ) t ∧ va_D (va_A (wd_L a cI cL cB cZ z S) sz) (wd_L a cI cL cB cZ z u)) (va_A (wd_L a cI cL cB cZ z S) sz)) 0 0 (va_A (wd_L a cI cL cB cZ z S) sz) := by
  refine Met.ofW (cc := cX3_push) (maxL := 3) (ret := (some .boolean)) (by decide) rfl ?_
  intro p e s m args below meth c s₁ B hml hv
  obtain ⟨rfl, hsz, hP, hK, hD0⟩ := hv
  have hr := B.returns
  have hlocks := B.notSynchronized
  have hts := atoms_spec (ws := zc_X3_push :: mq_T) B.pre
  have hown : s.vm.findClass RX3 = some m.cls := findClass_of_methodNamed B.named
  subst hsz
  have hD := hD0.self (sz := s.heap.size)
  generalize hAe : va_A (wd_L a cI cL cB cZ z S) s.heap.size = A at hD ⊢
  have hA : ∀ q : Nat, s.heap.size ≤ q → A q := fun q h => by rw [← hAe]; exact Or.inr h
  have hl := lv_entry ([.ref (a 0), .int (v1), .int (v2)]) (n := 3) (Nat.le_of_ble_eq_true rfl)
  rw [lg_entry_eq]
  generalize (lg_sl ([.ref (a 0), .int (v1), .int (v2)]) ++ List.replicate (3 - (lg_sl ([.ref (a 0), .int (v1), .int (v2)])).length) Slot.unset).toArray = ls at hl ⊢
  have hl : lv_has ls 3 [(0, .ref (a 0)), (1, .int (v1)), (2, .int (v2))] := hl
  refine zw_X3_push_0 (A := A) ⟨B.exec, B.bytes, hml, hown, hts, hK, hA⟩ (fun H locs ls pc dg hz hP hD hS => ?_) v1 v2 S s.heap [] ls h hl hP hD va_S.rf
  exact W.zret B.exec B.bytes hr hz (fun t ht hW => ⟨⟨_, _, rfl, ⟨rfl, rfl⟩, by rw [ht]; exact hP, va_K.moved hW.alike hK, hD⟩, hS.F ht⟩) hS.2.2 dg
theorem zt_X3_push_c : zc_X3_push ∈ mq_T := mq_T_mem (mq_t4 (List.mem_of_getElem? (i := 38) rfl)) rfl
theorem zt_X3_push_i : Cond.instanceMethod yX3_push ∈ mq_T := mq_T_mem (mq_t4 (List.mem_of_getElem? (i := 36) rfl)) rfl
theorem zt_X3_push_s : Cond.selects RX3 yX3_push yX3_push ∈ mq_T := mq_T_mem (mq_t4 (List.mem_of_getElem? (i := 37) rfl)) rfl
set_option maxHeartbeats 4000000 in
theorem zv_X3_push {p : Program} {l : Launch} {e : Env} {R : Room} {s : State} {m : MethodId} {args : Array Value} {below : List Frame} {meth : Method} {c : Code} {A : Nat → Prop} {D : va_G} {a z : Nat → Nat} {cI cL cB cZ : ClassId} {Q : State → Prop} {cc : ByteArray} {nL idx pc N : Nat} {own : String} {c1 : Cond} {H : Heap} {locs : List Loc} {ls : Array Slot} {rest : List Value} {S : mq_St} {res : Int32 × mq_St} {v1 : Int32} {v2 : Int32} {ws : va_W} (is : List Nat) (C : mq_C p s m args c A D cI cL cB cZ cc nL own c1) (hlk : Cond.methodLink own idx yX3_push ∈ mq_T) (hR : zr_X3_push.frames + 1 ≤ R.frames ∧ 8 + (3 + 11) + zr_X3_push.locals ≤ R.locals) (h : zf_X3_push N z v1 v2 S = some res) (hC : is.map (fun i => ws[i]?) = (wd_L a cI cL cB cZ z S).map some) (hnd : va_nd is = true) {ws' : va_W} (hw : mq_setM ws is (wd_L a cI cL cB cZ z res.2) = ws') (hP : va_P D vwCl ws H) (hD : va_D A ws) (hS : va_S A s.heap H locs) (hls : ls.size = nL) (hrest : (rest.map fun v => v.category).sum ≤ 8) (hdg : decode cc pc = .ok (.invokevirtual idx, 3)) (kk : ∀ (H1 : Heap) (locs1 : List Loc), va_P D vwCl ws' H1 → va_D A ws' → va_S A s.heap H1 locs1 → W p l e R s m args below meth c H1 locs1 0 0 Q (F0 m (pc + 3) ls (.int res.1 :: rest))) : W p l e R s m args below meth c H locs 0 0 Q (F0 m pc ls (.int (v2) :: .int (v1) :: .ref (a 0) :: rest)) := by
  obtain ⟨hx, hb, hml, hown, hts, hK, hA⟩ := C
  have hPc := mq_subP hP is hC
  have hDc := hD.sub is hnd hC
  have hFc := va_free hD hS hA is hC
  refine va_calli (va_runV (As := [.int (v1), .int (v2)]) (rest := rest) ⟨hx, hb, hml, hown, hts⟩ (zm_X3_push l D a z cI cL cB cZ H.size N v1 v2 S res h) (cwV 2 hts (mq_goodL (mq_wsV hlk zt_X3_push_i zt_X3_push_s zt_ini_X3 zt_X3_push_c)) rfl rfl rfl (by decide +kernel) hR) ⟨fun a U g mk q => ⟨q.1, q.2.1, q.2.2.1, va_K.moved (u := U) (U := U.calling g mk a) (Vm.Alike.refl U.vm) q.2.2.2.1, q.2.2.2.2⟩, va_recv hK hPc (ci := 3) (q0 := 0) rfl rfl, fun U hU hW => ⟨rfl, by rw [hU], by rw [hU]; exact hPc, va_K.moved hW.alike hK, hDc.weaken (fun _ _ _ _ => trivial)⟩⟩ rfl rfl hls rfl (lv_room hrest) hdg ⟨Nat.zero_le _, Nat.zero_le _⟩) hS (fun q _ h => hFc q h) hFc (fun r u t H1 locs ht hvm hw1 hB hz1 hk1 hS => ?_)
  obtain ⟨rfl, rfl⟩ := hw1
  obtain ⟨hP1, hK1, hD1⟩ := hB
  rw [ht] at hP1
  obtain ⟨hP2, hD2⟩ := mq_join (w1 := (wd_L a cI cL cB cZ z res.2)) hP hD is hC rfl hk1 hP1
  rw [hw] at hP2 hD2
  exact kk H1 locs hP2 hD2 hS
/-! ModalDesk$Lines.shorten(I)V -/
def zr_X3_shorten : Room := { frames := 0, cells := 0, slots := 0, locals := 0 }
def zc_X3_shorten : Cond := .code yX3_shorten cX3_shorten 2 none
def zf_X3_shorten (N : Nat) (z : Nat → Nat) (v1 : Int32) (S : mq_St) : Option (Unit × mq_St) := (if v1 < (0 : Int32) then (some ((), S)) else (if (S.1 0) ≤ v1 then (some ((), S)) else (mq_nS (mq_si S 0 (v1)) (fun S1 => (some ((), S1))))))
set_option maxHeartbeats 4000000 in
set_option maxRecDepth 100000 in
theorem zw_X3_shorten_0 {p : Program} {l : Launch} {e : Env} {s : State} {m : MethodId} {args : Array Value} {below : List Frame} {meth : Method} {c : Code} {A : Nat → Prop} {D : va_G} {a z : Nat → Nat} {cI cL cB cZ : ClassId} {Q : State → Prop} {N : Nat} {res : Unit × mq_St} (C : mq_C p s m args c A D cI cL cB cZ cX3_shorten 2 RX3 zc_X3_shorten) (hret : ∀ (H : Heap) (locs : List Loc) (ls : Array Slot) (pc : Nat), decode cX3_shorten pc = .ok (.return_, 1) → va_P D vwCl (wd_L a cI cL cB cZ z res.2) H → va_D A (wd_L a cI cL cB cZ z res.2) → va_S A s.heap H locs → W p l e zr_X3_shorten s m args below meth c H locs 0 0 Q (F0 m pc ls [])) (v1 : Int32) (S : mq_St) (H : Heap) (locs : List Loc) (ls : Array Slot) (h : zf_X3_shorten N z v1 S = some res) (hl : lv_has ls 2 [(0, .ref (a 0)), (1, .int (v1))]) (hP : va_P D vwCl (wd_L a cI cL cB cZ z S) H) (hD : va_D A (wd_L a cI cL cB cZ z S)) (hS : va_S A s.heap H locs) : W p l e zr_X3_shorten s m args below meth c H locs 0 0 Q (F0 m 0 ls []) := by
  obtain ⟨hx, hb, hml, hown, hts, hK, hA⟩ := id C
  unfold zf_X3_shorten at h
  refine lv_iload_n hx hb dX3_shorten_0 rfl (lv_at hl 1 rfl) ?_
  refine lv_if_lt (tgt := 17) hx hb dX3_shorten_1 (by decide) (fun c3 => ?_) (fun c3 => ?_)
  · replace h := mq_it c3 h
    cases h
    exact hret H locs ls 17 dX3_shorten_17 hP hD hS
  · replace h := mq_if c3 h
    refine lv_iload_n hx hb dX3_shorten_4 rfl (lv_at hl 1 rfl) ?_
    refine lv_aload_n hx hb dX3_shorten_5 rfl (lv_at hl 0 rfl) ?_
    refine va_get (D := D) (ci := 3) (v := .int ((S.1 0))) (C := RX3) (T := TX3) (N := 2) hx hb hts (zi_X3 _) hown hK hP 0 rfl rfl 1 (by decide) (hts _ (List.mem_cons_of_mem _ zt_f_X3_15)) (fun _ h9 => h9) rfl dX3_shorten_6 ?_
    refine lv_icmp_ge (tgt := 17) hx hb dX3_shorten_9 (by decide) (fun c2 => ?_) (fun c2 => ?_)
    · replace h := mq_it c2 h
      cases h
      exact hret H locs ls 17 dX3_shorten_17 hP hD hS
    · replace h := mq_if c2 h
      refine lv_aload_n hx hb dX3_shorten_12 rfl (lv_at hl 0 rfl) ?_
      refine lv_iload_n hx hb dX3_shorten_13 rfl (lv_at hl 1 rfl) ?_
      refine mq_put (w := wd_L a cI cL cB cZ z) (S := S) (D := D) (ci := 3) (v := v1) (ty := .int) (C := RX3) (T := TX3) (N := 2) hx hb hts (zi_X3 _) tyX3 tyX3_ok nmX3 hown hK hP hD hS 0 rfl rfl 1 (by decide) (hts _ (List.mem_cons_of_mem _ zt_f_X3_15)) (fun _ h9 => h9) rfl (by decide +kernel) rfl rfl (Nat.le_of_ble_eq_true rfl) dX3_shorten_14 0 rfl (fun S1 eS1 H locs hP hD hS => ?_)
      replace h := mq_nS_go eS1 h
      cases h
      exact hret H locs ls 17 dX3_shorten_17 hP hD hS
set_option maxHeartbeats 4000000 in
set_option maxRecDepth 100000 in
theorem zm_X3_shorten (l : Launch) (D : va_G) (a z : Nat → Nat) (cI cL cB cZ : ClassId) (sz N : Nat) (v1 : Int32) (S : mq_St) (res : Unit × mq_St) (h : zf_X3_shorten N z v1 S = some res) : Met l yX3_shorten (zc_X3_shorten :: mq_T) zr_X3_shorten (va_Pc [.ref (a 0), .int (v1)] (fun U => U.heap.size = sz ∧ va_P D vwCl (wd_L a cI cL cB cZ z S) U.heap ∧ va_K D vwCl (mq_tys cI cL cB cZ) U ∧ va_D (fun _ => True) (wd_L a cI cL cB cZ z S))) (va_Qv (fun u : mq_St => u = res.2) (fun u t => va_P D vwCl (wd_L a cI cL cB cZ z u) t.heap ∧ va_K D vwCl (mq_tys cI cL cB cZ) t ∧ va_D (va_A (wd_L a cI cL cB cZ z S) sz) (wd_L a cI cL cB cZ z u)) (va_A (wd_L a cI cL cB cZ z S) sz)) 0 0 (va_A (wd_L a cI cL cB cZ z S) sz) := by
  refine Met.ofW (cc := cX3_shorten) (maxL := 2) (ret := none) (by decide) rfl ?_
  intro p e s m args below meth c s₁ B hml hv
  obtain ⟨rfl, hsz, hP, hK, hD0⟩ := hv
  have hr := B.returns
  have hlocks := B.notSynchronized
  have hts := atoms_spec (ws := zc_X3_shorten :: mq_T) B.pre
  have hown : s.vm.findClass RX3 = some m.cls := findClass_of_methodNamed B.named
  subst hsz
  have hD := hD0.self (sz := s.heap.size)
  generalize hAe : va_A (wd_L a cI cL cB cZ z S) s.heap.size = A at hD ⊢
  have hA : ∀ q : Nat, s.heap.size ≤ q → A q := fun q h => by rw [← hAe]; exact Or.inr h
  have hl := lv_entry ([.ref (a 0), .int (v1)]) (n := 2) (Nat.le_of_ble_eq_true rfl)
  rw [lg_entry_eq]
  generalize (lg_sl ([.ref (a 0), .int (v1)]) ++ List.replicate (2 - (lg_sl ([.ref (a 0), .int (v1)])).length) Slot.unset).toArray = ls at hl ⊢
  have hl : lv_has ls 2 [(0, .ref (a 0)), (1, .int (v1))] := hl
  refine zw_X3_shorten_0 (A := A) ⟨B.exec, B.bytes, hml, hown, hts, hK, hA⟩ (fun H locs ls pc dg hP hD hS => ?_) v1 S s.heap [] ls h hl hP hD va_S.rf
  exact W.vret B.exec B.bytes hr (fun t ht hW => ⟨⟨_, rfl, rfl, by rw [ht]; exact hP, va_K.moved hW.alike hK, hD⟩, hS.F ht⟩) hS.2.2 dg
theorem zt_X3_shorten_c : zc_X3_shorten ∈ mq_T := mq_T_mem (mq_t4 (List.mem_of_getElem? (i := 7) rfl)) rfl
theorem zt_X3_shorten_i : Cond.instanceMethod yX3_shorten ∈ mq_T := mq_T_mem (mq_t4 (List.mem_of_getElem? (i := 5) rfl)) rfl
theorem zt_X3_shorten_s : Cond.selects RX3 yX3_shorten yX3_shorten ∈ mq_T := mq_T_mem (mq_t4 (List.mem_of_getElem? (i := 6) rfl)) rfl
set_option maxHeartbeats 4000000 in
theorem zv_X3_shorten {p : Program} {l : Launch} {e : Env} {R : Room} {s : State} {m : MethodId} {args : Array Value} {below : List Frame} {meth : Method} {c : Code} {A : Nat → Prop} {D : va_G} {a z : Nat → Nat} {cI cL cB cZ : ClassId} {Q : State → Prop} {cc : ByteArray} {nL idx pc N : Nat} {own : String} {c1 : Cond} {H : Heap} {locs : List Loc} {ls : Array Slot} {rest : List Value} {S : mq_St} {res : Unit × mq_St} {v1 : Int32} {ws : va_W} (is : List Nat) (C : mq_C p s m args c A D cI cL cB cZ cc nL own c1) (hlk : Cond.methodLink own idx yX3_shorten ∈ mq_T) (hR : zr_X3_shorten.frames + 1 ≤ R.frames ∧ 8 + (2 + 11) + zr_X3_shorten.locals ≤ R.locals) (h : zf_X3_shorten N z v1 S = some res) (hC : is.map (fun i => ws[i]?) = (wd_L a cI cL cB cZ z S).map some) (hnd : va_nd is = true) {ws' : va_W} (hw : mq_setM ws is (wd_L a cI cL cB cZ z res.2) = ws') (hP : va_P D vwCl ws H) (hD : va_D A ws) (hS : va_S A s.heap H locs) (hls : ls.size = nL) (hrest : (rest.map fun v => v.category).sum ≤ 8) (hdg : decode cc pc = .ok (.invokevirtual idx, 3)) (kk : ∀ (H1 : Heap) (locs1 : List Loc), va_P D vwCl ws' H1 → va_D A ws' → va_S A s.heap H1 locs1 → W p l e R s m args below meth c H1 locs1 0 0 Q (F0 m (pc + 3) ls rest)) : W p l e R s m args below meth c H locs 0 0 Q (F0 m pc ls (.int (v1) :: .ref (a 0) :: rest)) := by
  obtain ⟨hx, hb, hml, hown, hts, hK, hA⟩ := C
  have hPc := mq_subP hP is hC
  have hDc := hD.sub is hnd hC
  have hFc := va_free hD hS hA is hC
  refine va_callv (va_runV (As := [.int (v1)]) (rest := rest) ⟨hx, hb, hml, hown, hts⟩ (zm_X3_shorten l D a z cI cL cB cZ H.size N v1 S res h) (cwV 1 hts (mq_goodL (mq_wsV hlk zt_X3_shorten_i zt_X3_shorten_s zt_ini_X3 zt_X3_shorten_c)) rfl rfl rfl (by decide +kernel) hR) ⟨fun a U g mk q => ⟨q.1, q.2.1, q.2.2.1, va_K.moved (u := U) (U := U.calling g mk a) (Vm.Alike.refl U.vm) q.2.2.2.1, q.2.2.2.2⟩, va_recv hK hPc (ci := 3) (q0 := 0) rfl rfl, fun U hU hW => ⟨rfl, by rw [hU], by rw [hU]; exact hPc, va_K.moved hW.alike hK, hDc.weaken (fun _ _ _ _ => trivial)⟩⟩ rfl rfl hls rfl (lv_room hrest) hdg ⟨Nat.zero_le _, Nat.zero_le _⟩) hS (fun q _ h => hFc q h) hFc (fun u t H1 locs ht hvm hw1 hB hz1 hk1 hS => ?_)
  subst hw1
  obtain ⟨hP1, hK1, hD1⟩ := hB
  rw [ht] at hP1
  obtain ⟨hP2, hD2⟩ := mq_join (w1 := (wd_L a cI cL cB cZ z res.2)) hP hD is hC rfl hk1 hP1
  rw [hw] at hP2 hD2
  exact kk H1 locs hP2 hD2 hS
def wd_LL (a : Nat → Nat) (cI cL cB cZ : ClassId) (z : Nat → Nat) (S : mq_St) : va_W := [(a 0, .inr (3, [.ref (a 1), .int (S.1 0)])), (a 1, .inl (cI, 1299, .inl (S.2.1 0))), (a 2, .inr (3, [.ref (a 3), .int (S.1 1)])), (a 3, .inl (cI, 1299, .inl (S.2.1 1)))]
/-! ModalDesk$Lines.copy(LModalDesk$Lines;)V -/
def zr_X3_copy : Room := { frames := 0, cells := 0, slots := 0, locals := 0 }
def zc_X3_copy : Cond := .code yX3_copy cX3_copy 3 none
def zf_X3_copy_10b (N : Nat) (z : Nat → Nat) (k10 : Int32 → mq_St → Option (Unit × mq_St)) (v2 : Int32) (S : mq_St) : Option (Unit × mq_St) := (if (S.1 0) ≤ v2 then (some ((), S)) else (if (1299 : Int32) ≤ v2 then (some ((), S)) else (mq_ck (v2) 1299 (mq_ck (v2) 1299 (mq_nS (mq_sa S 0 (upd (S.2.1 0) (v2).toNatClampNeg ((S.2.1 1 (v2).toNatClampNeg)))) (fun S5 => (mq_nI (v2 + (1 : Int32)) (fun x6 => (k10 (x6) S5)))))))))
def zf_X3_copy_10 (N : Nat) (z : Nat → Nat) : Nat → Int32 → mq_St → Option (Unit × mq_St)
  | 0, _, _ => none
  | n + 1, v2, S => zf_X3_copy_10b N z (fun v2 S => zf_X3_copy_10 N z n v2 S) v2 S
def zf_X3_copy (N : Nat) (z : Nat → Nat) (S : mq_St) : Option (Unit × mq_St) := (mq_nS (mq_si S 0 ((S.1 1))) (fun S1 => (mq_nI ((0 : Int32)) (fun x2 => (zf_X3_copy_10 N z N (x2) S1)))))
set_option maxHeartbeats 4000000 in
set_option maxRecDepth 100000 in
theorem zw_X3_copy_10b {p : Program} {l : Launch} {e : Env} {s : State} {m : MethodId} {args : Array Value} {below : List Frame} {meth : Method} {c : Code} {A : Nat → Prop} {D : va_G} {a z : Nat → Nat} {cI cL cB cZ : ClassId} {Q : State → Prop} {N : Nat} {res : Unit × mq_St} {k10 : Int32 → mq_St → Option (Unit × mq_St)} (C : mq_C p s m args c A D cI cL cB cZ cX3_copy 3 RX3 zc_X3_copy) (hret : ∀ (H : Heap) (locs : List Loc) (ls : Array Slot) (pc : Nat), decode cX3_copy pc = .ok (.return_, 1) → va_P D vwCl (wd_LL a cI cL cB cZ z res.2) H → va_D A (wd_LL a cI cL cB cZ z res.2) → va_S A s.heap H locs → W p l e zr_X3_copy s m args below meth c H locs 0 0 Q (F0 m pc ls [])) (hk10 : ∀ (v2 : Int32) (S : mq_St) (H : Heap) (locs : List Loc) (ls : Array Slot), k10 v2 S = some res → lv_has ls 3 [(0, .ref (a 0)), (1, .ref (a 2)), (2, .int (v2))] → va_P D vwCl (wd_LL a cI cL cB cZ z S) H → va_D A (wd_LL a cI cL cB cZ z S) → va_S A s.heap H locs → W p l e zr_X3_copy s m args below meth c H locs 0 0 Q (F0 m 10 ls [])) (v2 : Int32) (S : mq_St) (H : Heap) (locs : List Loc) (ls : Array Slot) (h : zf_X3_copy_10b N z k10 v2 S = some res) (hl : lv_has ls 3 [(0, .ref (a 0)), (1, .ref (a 2)), (2, .int (v2))]) (hP : va_P D vwCl (wd_LL a cI cL cB cZ z S) H) (hD : va_D A (wd_LL a cI cL cB cZ z S)) (hS : va_S A s.heap H locs) : W p l e zr_X3_copy s m args below meth c H locs 0 0 Q (F0 m 10 ls []) := by
  obtain ⟨hx, hb, hml, hown, hts, hK, hA⟩ := id C
  unfold zf_X3_copy_10b at h
  refine lv_iload_n hx hb dX3_copy_10 rfl (lv_at hl 2 rfl) ?_
  refine lv_aload_n hx hb dX3_copy_11 rfl (lv_at hl 0 rfl) ?_
  refine va_get (D := D) (ci := 3) (v := .int ((S.1 0))) (C := RX3) (T := TX3) (N := 2) hx hb hts (zi_X3 _) hown hK hP 0 rfl rfl 1 (by decide) (hts _ (List.mem_cons_of_mem _ zt_f_X3_15)) (fun _ h9 => h9) rfl dX3_copy_12 ?_
  refine lv_icmp_ge (tgt := 45) hx hb dX3_copy_15 (by decide) (fun c8 => ?_) (fun c8 => ?_)
  · replace h := mq_it c8 h
    cases h
    exact hret H locs ls 45 dX3_copy_45 hP hD hS
  · replace h := mq_if c8 h
    refine lv_iload_n hx hb dX3_copy_18 rfl (lv_at hl 2 rfl) ?_
    refine lv_aload_n hx hb dX3_copy_19 rfl (lv_at hl 0 rfl) ?_
    refine va_get (D := D) (ci := 3) (v := .ref (a 1)) (C := RX3) (T := TX3) (N := 2) hx hb hts (zi_X3 _) hown hK hP 0 rfl rfl 0 (by decide) (hts _ (List.mem_cons_of_mem _ zt_f_X3_9)) (fun _ h9 => h9) rfl dX3_copy_20 ?_
    refine va_alen hx hb hK hP 1 0 (v := (1299 : Int32)) rfl rfl (show Int32.ofNat 1299 = 1299 by decide) dX3_copy_23 ?_
    refine lv_icmp_ge (tgt := 45) hx hb dX3_copy_24 (by decide) (fun c7 => ?_) (fun c7 => ?_)
    · replace h := mq_it c7 h
      cases h
      exact hret H locs ls 45 dX3_copy_45 hP hD hS
    · replace h := mq_if c7 h
      refine lv_aload_n hx hb dX3_copy_27 rfl (lv_at hl 0 rfl) ?_
      refine va_get (D := D) (ci := 3) (v := .ref (a 1)) (C := RX3) (T := TX3) (N := 2) hx hb hts (zi_X3 _) hown hK hP 0 rfl rfl 0 (by decide) (hts _ (List.mem_cons_of_mem _ zt_f_X3_9)) (fun _ h9 => h9) rfl dX3_copy_28 ?_
      refine lv_iload_n hx hb dX3_copy_31 rfl (lv_at hl 2 rfl) ?_
      refine lv_aload_n hx hb dX3_copy_32 rfl (lv_at hl 1 rfl) ?_
      refine va_get (D := D) (ci := 3) (v := .ref (a 3)) (C := RX3) (T := TX3) (N := 2) hx hb hts (zi_X3 _) hown hK hP 2 rfl rfl 0 (by decide) (hts _ (List.mem_cons_of_mem _ zt_f_X3_9)) (fun _ h9 => h9) rfl dX3_copy_33 ?_
      refine lv_iload_n hx hb dX3_copy_36 rfl (lv_at hl 2 rfl) ?_
      have hi3 := mq_ck_in h
      replace h := mq_ck_go h
      refine va_iald (f := S.2.1 1) hx hb hK hP 3 0 rfl rfl hi3 dX3_copy_37 ?_
      have hi4 := mq_ck_in h
      replace h := mq_ck_go h
      refine mq_iast (w := wd_LL a cI cL cB cZ z) (S := S) (f := S.2.1 0) hx hb hK hP hD hS 1 0 rfl rfl hi4 dX3_copy_38 0 rfl (fun S5 eS5 H locs hP hD hS => ?_)
      replace h := mq_nS_go eS5 h
      obtain ⟨x6, ex6⟩ : ∃ y : Int32, y = v2 + (1 : Int32) := ⟨_, rfl⟩
      replace h := mq_nI_go ex6 h
      refine lv_iinc (v := x6) (lv' := [(2, .int (x6)), (0, .ref (a 0)), (1, .ref (a 2))]) hx hb dX3_copy_39 hl (k := 2) rfl (by rw [ex6]; rfl) (by decide) rfl (fun ls hl => ?_)
      refine lv_goto (tgt := 10) hx hb dX3_copy_42 (by decide) ?_
      exact hk10 (x6) S5 H locs ls h (lv_sub hl [1, 2, 0] rfl) hP hD hS
set_option maxHeartbeats 4000000 in
set_option maxRecDepth 100000 in
theorem zw_X3_copy_10 {p : Program} {l : Launch} {e : Env} {s : State} {m : MethodId} {args : Array Value} {below : List Frame} {meth : Method} {c : Code} {A : Nat → Prop} {D : va_G} {a z : Nat → Nat} {cI cL cB cZ : ClassId} {Q : State → Prop} {N : Nat} {res : Unit × mq_St} (C : mq_C p s m args c A D cI cL cB cZ cX3_copy 3 RX3 zc_X3_copy) (hret : ∀ (H : Heap) (locs : List Loc) (ls : Array Slot) (pc : Nat), decode cX3_copy pc = .ok (.return_, 1) → va_P D vwCl (wd_LL a cI cL cB cZ z res.2) H → va_D A (wd_LL a cI cL cB cZ z res.2) → va_S A s.heap H locs → W p l e zr_X3_copy s m args below meth c H locs 0 0 Q (F0 m pc ls [])) : ∀ (n : Nat) (v2 : Int32) (S : mq_St) (H : Heap) (locs : List Loc) (ls : Array Slot) (h : zf_X3_copy_10 N z n v2 S = some res) (hl : lv_has ls 3 [(0, .ref (a 0)), (1, .ref (a 2)), (2, .int (v2))]) (hP : va_P D vwCl (wd_LL a cI cL cB cZ z S) H) (hD : va_D A (wd_LL a cI cL cB cZ z S)) (hS : va_S A s.heap H locs), W p l e zr_X3_copy s m args below meth c H locs 0 0 Q (F0 m 10 ls []) := by
  intro n
  induction n with
  | zero =>
    intro v2 S H locs ls h hl hP hD hS
    exact nomatch (show (none : Option (Unit × mq_St)) = some res from h)
  | succ n ih =>
    intro v2 S H locs ls h hl hP hD hS
    exact zw_X3_copy_10b C hret (fun v2 S H locs ls h hl hP hD hS => ih v2 S H locs ls h hl hP hD hS) v2 S H locs ls h hl hP hD hS
set_option maxHeartbeats 4000000 in
set_option maxRecDepth 100000 in
theorem zw_X3_copy_0 {p : Program} {l : Launch} {e : Env} {s : State} {m : MethodId} {args : Array Value} {below : List Frame} {meth : Method} {c : Code} {A : Nat → Prop} {D : va_G} {a z : Nat → Nat} {cI cL cB cZ : ClassId} {Q : State → Prop} {N : Nat} {res : Unit × mq_St} (C : mq_C p s m args c A D cI cL cB cZ cX3_copy 3 RX3 zc_X3_copy) (hret : ∀ (H : Heap) (locs : List Loc) (ls : Array Slot) (pc : Nat), decode cX3_copy pc = .ok (.return_, 1) → va_P D vwCl (wd_LL a cI cL cB cZ z res.2) H → va_D A (wd_LL a cI cL cB cZ z res.2) → va_S A s.heap H locs → W p l e zr_X3_copy s m args below meth c H locs 0 0 Q (F0 m pc ls [])) (S : mq_St) (H : Heap) (locs : List Loc) (ls : Array Slot) (h : zf_X3_copy N z S = some res) (hl : lv_has ls 3 [(0, .ref (a 0)), (1, .ref (a 2))]) (hP : va_P D vwCl (wd_LL a cI cL cB cZ z S) H) (hD : va_D A (wd_LL a cI cL cB cZ z S)) (hS : va_S A s.heap H locs) : W p l e zr_X3_copy s m args below meth c H locs 0 0 Q (F0 m 0 ls []) := by
  obtain ⟨hx, hb, hml, hown, hts, hK, hA⟩ := id C
  unfold zf_X3_copy at h
  refine lv_aload_n hx hb dX3_copy_0 rfl (lv_at hl 0 rfl) ?_
  refine lv_aload_n hx hb dX3_copy_1 rfl (lv_at hl 1 rfl) ?_
  refine va_get (D := D) (ci := 3) (v := .int ((S.1 1))) (C := RX3) (T := TX3) (N := 2) hx hb hts (zi_X3 _) hown hK hP 2 rfl rfl 1 (by decide) (hts _ (List.mem_cons_of_mem _ zt_f_X3_15)) (fun _ h9 => h9) rfl dX3_copy_2 ?_
  refine mq_put (w := wd_LL a cI cL cB cZ z) (S := S) (D := D) (ci := 3) (v := (S.1 1)) (ty := .int) (C := RX3) (T := TX3) (N := 2) hx hb hts (zi_X3 _) tyX3 tyX3_ok nmX3 hown hK hP hD hS 0 rfl rfl 1 (by decide) (hts _ (List.mem_cons_of_mem _ zt_f_X3_15)) (fun _ h9 => h9) rfl (by decide +kernel) rfl rfl (Nat.le_of_ble_eq_true rfl) dX3_copy_5 0 rfl (fun S1 eS1 H locs hP hD hS => ?_)
  replace h := mq_nS_go eS1 h
  refine lv_iconst (v := (0 : Int32)) hx hb dX3_copy_8 (by decide) ?_
  refine lv_topi (fun x2 ex2 => ?_)
  replace h := mq_nI_go ex2 h
  refine lv_istore_n (lv' := [(2, .int (x2)), (0, .ref (a 0)), (1, .ref (a 2))]) hx hb dX3_copy_9 rfl hl (by decide) rfl (fun ls hl => ?_)
  exact zw_X3_copy_10 C hret N (x2) S1 H locs ls h (lv_sub hl [1, 2, 0] rfl) hP hD hS
set_option maxHeartbeats 4000000 in
set_option maxRecDepth 100000 in
theorem zm_X3_copy (l : Launch) (D : va_G) (a z : Nat → Nat) (cI cL cB cZ : ClassId) (sz N : Nat) (S : mq_St) (res : Unit × mq_St) (h : zf_X3_copy N z S = some res) : Met l yX3_copy (zc_X3_copy :: mq_T) zr_X3_copy (va_Pc [.ref (a 0), .ref (a 2)] (fun U => U.heap.size = sz ∧ va_P D vwCl (wd_LL a cI cL cB cZ z S) U.heap ∧ va_K D vwCl (mq_tys cI cL cB cZ) U ∧ va_D (fun _ => True) (wd_LL a cI cL cB cZ z S))) (va_Qv (fun u : mq_St => u = res.2) (fun u t => va_P D vwCl (wd_LL a cI cL cB cZ z u) t.heap ∧ va_K D vwCl (mq_tys cI cL cB cZ) t ∧ va_D (va_A (wd_LL a cI cL cB cZ z S) sz) (wd_LL a cI cL cB cZ z u)) (va_A (wd_LL a cI cL cB cZ z S) sz)) 0 0 (va_A (wd_LL a cI cL cB cZ z S) sz) := by
  refine Met.ofW (cc := cX3_copy) (maxL := 3) (ret := none) (by decide) rfl ?_
  intro p e s m args below meth c s₁ B hml hv
  obtain ⟨rfl, hsz, hP, hK, hD0⟩ := hv
  have hr := B.returns
  have hlocks := B.notSynchronized
  have hts := atoms_spec (ws := zc_X3_copy :: mq_T) B.pre
  have hown : s.vm.findClass RX3 = some m.cls := findClass_of_methodNamed B.named
  subst hsz
  have hD := hD0.self (sz := s.heap.size)
  generalize hAe : va_A (wd_LL a cI cL cB cZ z S) s.heap.size = A at hD ⊢
  have hA : ∀ q : Nat, s.heap.size ≤ q → A q := fun q h => by rw [← hAe]; exact Or.inr h
  have hl := lv_entry ([.ref (a 0), .ref (a 2)]) (n := 3) (Nat.le_of_ble_eq_true rfl)
  rw [lg_entry_eq]
  generalize (lg_sl ([.ref (a 0), .ref (a 2)]) ++ List.replicate (3 - (lg_sl ([.ref (a 0), .ref (a 2)])).length) Slot.unset).toArray = ls at hl ⊢
  have hl : lv_has ls 3 [(0, .ref (a 0)), (1, .ref (a 2))] := hl
  refine zw_X3_copy_0 (A := A) ⟨B.exec, B.bytes, hml, hown, hts, hK, hA⟩ (fun H locs ls pc dg hP hD hS => ?_) S s.heap [] ls h hl hP hD va_S.rf
  exact W.vret B.exec B.bytes hr (fun t ht hW => ⟨⟨_, rfl, rfl, by rw [ht]; exact hP, va_K.moved hW.alike hK, hD⟩, hS.F ht⟩) hS.2.2 dg
theorem zt_X3_copy_c : zc_X3_copy ∈ mq_T := mq_T_mem (mq_t4 (List.mem_of_getElem? (i := 131) rfl)) rfl
theorem zt_X3_copy_i : Cond.instanceMethod yX3_copy ∈ mq_T := mq_T_mem (mq_t4 (List.mem_of_getElem? (i := 129) rfl)) rfl
theorem zt_X3_copy_s : Cond.selects RX3 yX3_copy yX3_copy ∈ mq_T := mq_T_mem (mq_t4 (List.mem_of_getElem? (i := 130) rfl)) rfl
set_option maxHeartbeats 4000000 in
theorem zv_X3_copy {p : Program} {l : Launch} {e : Env} {R : Room} {s : State} {m : MethodId} {args : Array Value} {below : List Frame} {meth : Method} {c : Code} {A : Nat → Prop} {D : va_G} {a z : Nat → Nat} {cI cL cB cZ : ClassId} {Q : State → Prop} {cc : ByteArray} {nL idx pc N : Nat} {own : String} {c1 : Cond} {H : Heap} {locs : List Loc} {ls : Array Slot} {rest : List Value} {S : mq_St} {res : Unit × mq_St} {ws : va_W} (is : List Nat) (C : mq_C p s m args c A D cI cL cB cZ cc nL own c1) (hlk : Cond.methodLink own idx yX3_copy ∈ mq_T) (hR : zr_X3_copy.frames + 1 ≤ R.frames ∧ 8 + (3 + 11) + zr_X3_copy.locals ≤ R.locals) (h : zf_X3_copy N z S = some res) (hC : is.map (fun i => ws[i]?) = (wd_LL a cI cL cB cZ z S).map some) (hnd : va_nd is = true) {ws' : va_W} (hw : mq_setM ws is (wd_LL a cI cL cB cZ z res.2) = ws') (hP : va_P D vwCl ws H) (hD : va_D A ws) (hS : va_S A s.heap H locs) (hls : ls.size = nL) (hrest : (rest.map fun v => v.category).sum ≤ 8) (hdg : decode cc pc = .ok (.invokevirtual idx, 3)) (kk : ∀ (H1 : Heap) (locs1 : List Loc), va_P D vwCl ws' H1 → va_D A ws' → va_S A s.heap H1 locs1 → W p l e R s m args below meth c H1 locs1 0 0 Q (F0 m (pc + 3) ls rest)) : W p l e R s m args below meth c H locs 0 0 Q (F0 m pc ls (.ref (a 2) :: .ref (a 0) :: rest)) := by
  obtain ⟨hx, hb, hml, hown, hts, hK, hA⟩ := C
  have hPc := mq_subP hP is hC
  have hDc := hD.sub is hnd hC
  have hFc := va_free hD hS hA is hC
  refine va_callv (va_runV (As := [.ref (a 2)]) (rest := rest) ⟨hx, hb, hml, hown, hts⟩ (zm_X3_copy l D a z cI cL cB cZ H.size N S res h) (cwV 1 hts (mq_goodL (mq_wsV hlk zt_X3_copy_i zt_X3_copy_s zt_ini_X3 zt_X3_copy_c)) rfl rfl rfl (by decide +kernel) hR) ⟨fun a U g mk q => ⟨q.1, q.2.1, q.2.2.1, va_K.moved (u := U) (U := U.calling g mk a) (Vm.Alike.refl U.vm) q.2.2.2.1, q.2.2.2.2⟩, va_recv hK hPc (ci := 3) (q0 := 0) rfl rfl, fun U hU hW => ⟨rfl, by rw [hU], by rw [hU]; exact hPc, va_K.moved hW.alike hK, hDc.weaken (fun _ _ _ _ => trivial)⟩⟩ rfl rfl hls rfl (lv_room hrest) hdg ⟨Nat.zero_le _, Nat.zero_le _⟩) hS (fun q _ h => hFc q h) hFc (fun u t H1 locs ht hvm hw1 hB hz1 hk1 hS => ?_)
  subst hw1
  obtain ⟨hP1, hK1, hD1⟩ := hB
  rw [ht] at hP1
  obtain ⟨hP2, hD2⟩ := mq_join (w1 := (wd_LL a cI cL cB cZ z res.2)) hP hD is hC rfl hk1 hP1
  rw [hw] at hP2 hD2
  exact kk H1 locs hP2 hD2 hS
def wd_LB (a : Nat → Nat) (cI cL cB cZ : ClassId) (z : Nat → Nat) (S : mq_St) : va_W := [(a 0, .inr (3, [.ref (a 1), .int (S.1 0)])), (a 1, .inl (cI, 1299, .inl (S.2.1 0))), (a 2, .inr (0, [.ref (a 3), .int (S.1 1)])), (a 3, .inl (cI, 1000, .inl (S.2.1 1)))]
theorem zt_m_X3_19 : Cond.methodLink RX3 19 yX0_keep ∈ mq_T := mq_T_mem (mq_t4 (List.mem_of_getElem? (i := 185) rfl)) rfl
theorem zx_wd_LB_wd_B_2_3 (a z : Nat → Nat) (cI cL cB cZ : ClassId) (S X : mq_St) : mq_setM (wd_LB a cI cL cB cZ z S) [2, 3] (wd_B (mq_ad a [2, 3]) cI cL cB cZ z X) = (wd_LB a cI cL cB cZ z (mq_push S X [1] [1] [])) := rfl
theorem zt_m_X3_25 : Cond.methodLink RX3 25 yX0_push ∈ mq_T := mq_T_mem (mq_t4 (List.mem_of_getElem? (i := 186) rfl)) rfl
/-! ModalDesk$Lines.writeTo(LModalDesk$ByteRow;)V -/
def zr_X3_writeTo : Room := { frames := 2, cells := 0, slots := 0, locals := 44 }
def zc_X3_writeTo : Cond := .code yX3_writeTo cX3_writeTo 3 none
def zf_X3_writeTo_8b (N : Nat) (z : Nat → Nat) (k8 : Int32 → mq_St → Option (Unit × mq_St)) (v2 : Int32) (S : mq_St) : Option (Unit × mq_St) := (if (S.1 0) ≤ v2 then (some ((), S)) else (if (1299 : Int32) ≤ v2 then (some ((), S)) else (mq_ck (v2) 1299 (mq_cl (zf_X0_push N z ((mq_iushr (S.2.1 0 (v2).toNatClampNeg) (16 : Int32))) (mq_pull S [1] [1] [])) (fun q6v q6s => mq_nS (mq_push S q6s [1] [1] []) (fun S8 => (mq_ck (v2) 1299 (mq_cl (zf_X0_push N z ((mq_iushr (S8.2.1 0 (v2).toNatClampNeg) (8 : Int32))) (mq_pull S8 [1] [1] [])) (fun q10v q10s => mq_nS (mq_push S8 q10s [1] [1] []) (fun S12 => (mq_ck (v2) 1299 (mq_cl (zf_X0_push N z ((S12.2.1 0 (v2).toNatClampNeg)) (mq_pull S12 [1] [1] [])) (fun q14v q14s => mq_nS (mq_push S12 q14s [1] [1] []) (fun S16 => (mq_nI (v2 + (1 : Int32)) (fun x17 => (k8 (x17) S16)))))))))))))))))
def zf_X3_writeTo_8 (N : Nat) (z : Nat → Nat) : Nat → Int32 → mq_St → Option (Unit × mq_St)
  | 0, _, _ => none
  | n + 1, v2, S => zf_X3_writeTo_8b N z (fun v2 S => zf_X3_writeTo_8 N z n v2 S) v2 S
def zf_X3_writeTo (N : Nat) (z : Nat → Nat) (S : mq_St) : Option (Unit × mq_St) := (mq_cl (zf_X0_keep N z ((0 : Int32)) (mq_pull S [1] [1] [])) (fun q1v q1s => mq_nS (mq_push S q1s [1] [1] []) (fun S3 => (mq_nI ((0 : Int32)) (fun x4 => (zf_X3_writeTo_8 N z N (x4) S3))))))
set_option maxHeartbeats 4000000 in
set_option maxRecDepth 100000 in
theorem zw_X3_writeTo_8b {p : Program} {l : Launch} {e : Env} {s : State} {m : MethodId} {args : Array Value} {below : List Frame} {meth : Method} {c : Code} {A : Nat → Prop} {D : va_G} {a z : Nat → Nat} {cI cL cB cZ : ClassId} {Q : State → Prop} {N : Nat} {res : Unit × mq_St} {k8 : Int32 → mq_St → Option (Unit × mq_St)} (C : mq_C p s m args c A D cI cL cB cZ cX3_writeTo 3 RX3 zc_X3_writeTo) (hret : ∀ (H : Heap) (locs : List Loc) (ls : Array Slot) (pc : Nat), decode cX3_writeTo pc = .ok (.return_, 1) → va_P D vwCl (wd_LB a cI cL cB cZ z res.2) H → va_D A (wd_LB a cI cL cB cZ z res.2) → va_S A s.heap H locs → W p l e zr_X3_writeTo s m args below meth c H locs 0 0 Q (F0 m pc ls [])) (hk8 : ∀ (v2 : Int32) (S : mq_St) (H : Heap) (locs : List Loc) (ls : Array Slot), k8 v2 S = some res → lv_has ls 3 [(0, .ref (a 0)), (1, .ref (a 2)), (2, .int (v2))] → va_P D vwCl (wd_LB a cI cL cB cZ z S) H → va_D A (wd_LB a cI cL cB cZ z S) → va_S A s.heap H locs → W p l e zr_X3_writeTo s m args below meth c H locs 0 0 Q (F0 m 8 ls [])) (v2 : Int32) (S : mq_St) (H : Heap) (locs : List Loc) (ls : Array Slot) (h : zf_X3_writeTo_8b N z k8 v2 S = some res) (hl : lv_has ls 3 [(0, .ref (a 0)), (1, .ref (a 2)), (2, .int (v2))]) (hP : va_P D vwCl (wd_LB a cI cL cB cZ z S) H) (hD : va_D A (wd_LB a cI cL cB cZ z S)) (hS : va_S A s.heap H locs) : W p l e zr_X3_writeTo s m args below meth c H locs 0 0 Q (F0 m 8 ls []) := by
  obtain ⟨hx, hb, hml, hown, hts, hK, hA⟩ := id C
  unfold zf_X3_writeTo_8b at h
  refine lv_iload_n hx hb dX3_writeTo_8 rfl (lv_at hl 2 rfl) ?_
  refine lv_aload_n hx hb dX3_writeTo_9 rfl (lv_at hl 0 rfl) ?_
  refine va_get (D := D) (ci := 3) (v := .int ((S.1 0))) (C := RX3) (T := TX3) (N := 2) hx hb hts (zi_X3 _) hown hK hP 0 rfl rfl 1 (by decide) (hts _ (List.mem_cons_of_mem _ zt_f_X3_15)) (fun _ h9 => h9) rfl dX3_writeTo_10 ?_
  refine lv_icmp_ge (tgt := 67) hx hb dX3_writeTo_13 (by decide) (fun c19 => ?_) (fun c19 => ?_)
  · replace h := mq_it c19 h
    cases h
    exact hret H locs ls 67 dX3_writeTo_67 hP hD hS
  · replace h := mq_if c19 h
    refine lv_iload_n hx hb dX3_writeTo_16 rfl (lv_at hl 2 rfl) ?_
    refine lv_aload_n hx hb dX3_writeTo_17 rfl (lv_at hl 0 rfl) ?_
    refine va_get (D := D) (ci := 3) (v := .ref (a 1)) (C := RX3) (T := TX3) (N := 2) hx hb hts (zi_X3 _) hown hK hP 0 rfl rfl 0 (by decide) (hts _ (List.mem_cons_of_mem _ zt_f_X3_9)) (fun _ h9 => h9) rfl dX3_writeTo_18 ?_
    refine va_alen hx hb hK hP 1 0 (v := (1299 : Int32)) rfl rfl (show Int32.ofNat 1299 = 1299 by decide) dX3_writeTo_21 ?_
    refine lv_icmp_ge (tgt := 67) hx hb dX3_writeTo_22 (by decide) (fun c18 => ?_) (fun c18 => ?_)
    · replace h := mq_it c18 h
      cases h
      exact hret H locs ls 67 dX3_writeTo_67 hP hD hS
    · replace h := mq_if c18 h
      refine lv_aload_n hx hb dX3_writeTo_25 rfl (lv_at hl 1 rfl) ?_
      refine lv_aload_n hx hb dX3_writeTo_26 rfl (lv_at hl 0 rfl) ?_
      refine va_get (D := D) (ci := 3) (v := .ref (a 1)) (C := RX3) (T := TX3) (N := 2) hx hb hts (zi_X3 _) hown hK hP 0 rfl rfl 0 (by decide) (hts _ (List.mem_cons_of_mem _ zt_f_X3_9)) (fun _ h9 => h9) rfl dX3_writeTo_27 ?_
      refine lv_iload_n hx hb dX3_writeTo_30 rfl (lv_at hl 2 rfl) ?_
      have hi5 := mq_ck_in h
      replace h := mq_ck_go h
      refine va_iald (f := S.2.1 0) hx hb hK hP 1 0 rfl rfl hi5 dX3_writeTo_31 ?_
      refine lv_bipush (v := (16 : Int32)) hx hb dX3_writeTo_32 (by decide) ?_
      refine lv_iushr (v := (mq_iushr (S.2.1 0 (v2).toNatClampNeg) (16 : Int32))) hx hb dX3_writeTo_34 rfl ?_
      obtain ⟨q6, hc7, h⟩ := mq_cl_go h
      refine zv_X0_push (a := mq_ad a [2, 3]) (z := z) [2, 3] C zt_m_X3_25 ⟨by decide, by decide⟩ hc7 rfl (by decide) (ws' := (wd_LB a cI cL cB cZ z (mq_push S q6.2 [1] [1] []))) (zx_wd_LB_wd_B_2_3 _ _ _ _ _ _ _ _) hP hD hS hl.1 (Nat.le_of_ble_eq_true rfl) dX3_writeTo_35 (fun H locs hP hD hS => ?_)
      obtain ⟨S8, eS8⟩ : ∃ y, y = mq_push S q6.2 [1] [1] [] := ⟨_, rfl⟩
      replace h := mq_nS_go eS8 h
      rw [← eS8] at hP hD
      refine lv_aload_n hx hb dX3_writeTo_38 rfl (lv_at hl 1 rfl) ?_
      refine lv_aload_n hx hb dX3_writeTo_39 rfl (lv_at hl 0 rfl) ?_
      refine va_get (D := D) (ci := 3) (v := .ref (a 1)) (C := RX3) (T := TX3) (N := 2) hx hb hts (zi_X3 _) hown hK hP 0 rfl rfl 0 (by decide) (hts _ (List.mem_cons_of_mem _ zt_f_X3_9)) (fun _ h9 => h9) rfl dX3_writeTo_40 ?_
      refine lv_iload_n hx hb dX3_writeTo_43 rfl (lv_at hl 2 rfl) ?_
      have hi9 := mq_ck_in h
      replace h := mq_ck_go h
      refine va_iald (f := S8.2.1 0) hx hb hK hP 1 0 rfl rfl hi9 dX3_writeTo_44 ?_
      refine lv_bipush (v := (8 : Int32)) hx hb dX3_writeTo_45 (by decide) ?_
      refine lv_iushr (v := (mq_iushr (S8.2.1 0 (v2).toNatClampNeg) (8 : Int32))) hx hb dX3_writeTo_47 rfl ?_
      obtain ⟨q10, hc11, h⟩ := mq_cl_go h
      refine zv_X0_push (a := mq_ad a [2, 3]) (z := z) [2, 3] C zt_m_X3_25 ⟨by decide, by decide⟩ hc11 rfl (by decide) (ws' := (wd_LB a cI cL cB cZ z (mq_push S8 q10.2 [1] [1] []))) (zx_wd_LB_wd_B_2_3 _ _ _ _ _ _ _ _) hP hD hS hl.1 (Nat.le_of_ble_eq_true rfl) dX3_writeTo_48 (fun H locs hP hD hS => ?_)
      obtain ⟨S12, eS12⟩ : ∃ y, y = mq_push S8 q10.2 [1] [1] [] := ⟨_, rfl⟩
      replace h := mq_nS_go eS12 h
      rw [← eS12] at hP hD
      refine lv_aload_n hx hb dX3_writeTo_51 rfl (lv_at hl 1 rfl) ?_
      refine lv_aload_n hx hb dX3_writeTo_52 rfl (lv_at hl 0 rfl) ?_
      refine va_get (D := D) (ci := 3) (v := .ref (a 1)) (C := RX3) (T := TX3) (N := 2) hx hb hts (zi_X3 _) hown hK hP 0 rfl rfl 0 (by decide) (hts _ (List.mem_cons_of_mem _ zt_f_X3_9)) (fun _ h9 => h9) rfl dX3_writeTo_53 ?_
      refine lv_iload_n hx hb dX3_writeTo_56 rfl (lv_at hl 2 rfl) ?_
      have hi13 := mq_ck_in h
      replace h := mq_ck_go h
      refine va_iald (f := S12.2.1 0) hx hb hK hP 1 0 rfl rfl hi13 dX3_writeTo_57 ?_
      obtain ⟨q14, hc15, h⟩ := mq_cl_go h
      refine zv_X0_push (a := mq_ad a [2, 3]) (z := z) [2, 3] C zt_m_X3_25 ⟨by decide, by decide⟩ hc15 rfl (by decide) (ws' := (wd_LB a cI cL cB cZ z (mq_push S12 q14.2 [1] [1] []))) (zx_wd_LB_wd_B_2_3 _ _ _ _ _ _ _ _) hP hD hS hl.1 (Nat.le_of_ble_eq_true rfl) dX3_writeTo_58 (fun H locs hP hD hS => ?_)
      obtain ⟨S16, eS16⟩ : ∃ y, y = mq_push S12 q14.2 [1] [1] [] := ⟨_, rfl⟩
      replace h := mq_nS_go eS16 h
      rw [← eS16] at hP hD
      obtain ⟨x17, ex17⟩ : ∃ y : Int32, y = v2 + (1 : Int32) := ⟨_, rfl⟩
      replace h := mq_nI_go ex17 h
      refine lv_iinc (v := x17) (lv' := [(2, .int (x17)), (0, .ref (a 0)), (1, .ref (a 2))]) hx hb dX3_writeTo_61 hl (k := 2) rfl (by rw [ex17]; rfl) (by decide) rfl (fun ls hl => ?_)
      refine lv_goto (tgt := 8) hx hb dX3_writeTo_64 (by decide) ?_
      exact hk8 (x17) S16 H locs ls h (lv_sub hl [1, 2, 0] rfl) hP hD hS
set_option maxHeartbeats 4000000 in
set_option maxRecDepth 100000 in
theorem zw_X3_writeTo_8 {p : Program} {l : Launch} {e : Env} {s : State} {m : MethodId} {args : Array Value} {below : List Frame} {meth : Method} {c : Code} {A : Nat → Prop} {D : va_G} {a z : Nat → Nat} {cI cL cB cZ : ClassId} {Q : State → Prop} {N : Nat} {res : Unit × mq_St} (C : mq_C p s m args c A D cI cL cB cZ cX3_writeTo 3 RX3 zc_X3_writeTo) (hret : ∀ (H : Heap) (locs : List Loc) (ls : Array Slot) (pc : Nat), decode cX3_writeTo pc = .ok (.return_, 1) → va_P D vwCl (wd_LB a cI cL cB cZ z res.2) H → va_D A (wd_LB a cI cL cB cZ z res.2) → va_S A s.heap H locs → W p l e zr_X3_writeTo s m args below meth c H locs 0 0 Q (F0 m pc ls [])) : ∀ (n : Nat) (v2 : Int32) (S : mq_St) (H : Heap) (locs : List Loc) (ls : Array Slot) (h : zf_X3_writeTo_8 N z n v2 S = some res) (hl : lv_has ls 3 [(0, .ref (a 0)), (1, .ref (a 2)), (2, .int (v2))]) (hP : va_P D vwCl (wd_LB a cI cL cB cZ z S) H) (hD : va_D A (wd_LB a cI cL cB cZ z S)) (hS : va_S A s.heap H locs), W p l e zr_X3_writeTo s m args below meth c H locs 0 0 Q (F0 m 8 ls []) := by
  intro n
  induction n with
  | zero =>
    intro v2 S H locs ls h hl hP hD hS
    exact nomatch (show (none : Option (Unit × mq_St)) = some res from h)
  | succ n ih =>
    intro v2 S H locs ls h hl hP hD hS
    exact zw_X3_writeTo_8b C hret (fun v2 S H locs ls h hl hP hD hS => ih v2 S H locs ls h hl hP hD hS) v2 S H locs ls h hl hP hD hS
set_option maxHeartbeats 4000000 in
set_option maxRecDepth 100000 in
theorem zw_X3_writeTo_0 {p : Program} {l : Launch} {e : Env} {s : State} {m : MethodId} {args : Array Value} {below : List Frame} {meth : Method} {c : Code} {A : Nat → Prop} {D : va_G} {a z : Nat → Nat} {cI cL cB cZ : ClassId} {Q : State → Prop} {N : Nat} {res : Unit × mq_St} (C : mq_C p s m args c A D cI cL cB cZ cX3_writeTo 3 RX3 zc_X3_writeTo) (hret : ∀ (H : Heap) (locs : List Loc) (ls : Array Slot) (pc : Nat), decode cX3_writeTo pc = .ok (.return_, 1) → va_P D vwCl (wd_LB a cI cL cB cZ z res.2) H → va_D A (wd_LB a cI cL cB cZ z res.2) → va_S A s.heap H locs → W p l e zr_X3_writeTo s m args below meth c H locs 0 0 Q (F0 m pc ls [])) (S : mq_St) (H : Heap) (locs : List Loc) (ls : Array Slot) (h : zf_X3_writeTo N z S = some res) (hl : lv_has ls 3 [(0, .ref (a 0)), (1, .ref (a 2))]) (hP : va_P D vwCl (wd_LB a cI cL cB cZ z S) H) (hD : va_D A (wd_LB a cI cL cB cZ z S)) (hS : va_S A s.heap H locs) : W p l e zr_X3_writeTo s m args below meth c H locs 0 0 Q (F0 m 0 ls []) := by
  obtain ⟨hx, hb, hml, hown, hts, hK, hA⟩ := id C
  unfold zf_X3_writeTo at h
  refine lv_aload_n hx hb dX3_writeTo_0 rfl (lv_at hl 1 rfl) ?_
  refine lv_iconst (v := (0 : Int32)) hx hb dX3_writeTo_1 (by decide) ?_
  obtain ⟨q1, hc2, h⟩ := mq_cl_go h
  refine zv_X0_keep (a := mq_ad a [2, 3]) (z := z) [2, 3] C zt_m_X3_19 ⟨by decide, by decide⟩ hc2 rfl (by decide) (ws' := (wd_LB a cI cL cB cZ z (mq_push S q1.2 [1] [1] []))) (zx_wd_LB_wd_B_2_3 _ _ _ _ _ _ _ _) hP hD hS hl.1 (Nat.le_of_ble_eq_true rfl) dX3_writeTo_2 (fun H locs hP hD hS => ?_)
  obtain ⟨S3, eS3⟩ : ∃ y, y = mq_push S q1.2 [1] [1] [] := ⟨_, rfl⟩
  replace h := mq_nS_go eS3 h
  rw [← eS3] at hP hD
  refine lv_pop hx hb dX3_writeTo_5 rfl ?_
  refine lv_iconst (v := (0 : Int32)) hx hb dX3_writeTo_6 (by decide) ?_
  refine lv_topi (fun x4 ex4 => ?_)
  replace h := mq_nI_go ex4 h
  refine lv_istore_n (lv' := [(2, .int (x4)), (0, .ref (a 0)), (1, .ref (a 2))]) hx hb dX3_writeTo_7 rfl hl (by decide) rfl (fun ls hl => ?_)
  exact zw_X3_writeTo_8 C hret N (x4) S3 H locs ls h (lv_sub hl [1, 2, 0] rfl) hP hD hS
set_option maxHeartbeats 4000000 in
set_option maxRecDepth 100000 in
theorem zm_X3_writeTo (l : Launch) (D : va_G) (a z : Nat → Nat) (cI cL cB cZ : ClassId) (sz N : Nat) (S : mq_St) (res : Unit × mq_St) (h : zf_X3_writeTo N z S = some res) : Met l yX3_writeTo (zc_X3_writeTo :: mq_T) zr_X3_writeTo (va_Pc [.ref (a 0), .ref (a 2)] (fun U => U.heap.size = sz ∧ va_P D vwCl (wd_LB a cI cL cB cZ z S) U.heap ∧ va_K D vwCl (mq_tys cI cL cB cZ) U ∧ va_D (fun _ => True) (wd_LB a cI cL cB cZ z S))) (va_Qv (fun u : mq_St => u = res.2) (fun u t => va_P D vwCl (wd_LB a cI cL cB cZ z u) t.heap ∧ va_K D vwCl (mq_tys cI cL cB cZ) t ∧ va_D (va_A (wd_LB a cI cL cB cZ z S) sz) (wd_LB a cI cL cB cZ z u)) (va_A (wd_LB a cI cL cB cZ z S) sz)) 0 0 (va_A (wd_LB a cI cL cB cZ z S) sz) := by
  refine Met.ofW (cc := cX3_writeTo) (maxL := 3) (ret := none) (by decide) rfl ?_
  intro p e s m args below meth c s₁ B hml hv
  obtain ⟨rfl, hsz, hP, hK, hD0⟩ := hv
  have hr := B.returns
  have hlocks := B.notSynchronized
  have hts := atoms_spec (ws := zc_X3_writeTo :: mq_T) B.pre
  have hown : s.vm.findClass RX3 = some m.cls := findClass_of_methodNamed B.named
  subst hsz
  have hD := hD0.self (sz := s.heap.size)
  generalize hAe : va_A (wd_LB a cI cL cB cZ z S) s.heap.size = A at hD ⊢
  have hA : ∀ q : Nat, s.heap.size ≤ q → A q := fun q h => by rw [← hAe]; exact Or.inr h
  have hl := lv_entry ([.ref (a 0), .ref (a 2)]) (n := 3) (Nat.le_of_ble_eq_true rfl)
  rw [lg_entry_eq]
  generalize (lg_sl ([.ref (a 0), .ref (a 2)]) ++ List.replicate (3 - (lg_sl ([.ref (a 0), .ref (a 2)])).length) Slot.unset).toArray = ls at hl ⊢
  have hl : lv_has ls 3 [(0, .ref (a 0)), (1, .ref (a 2))] := hl
  refine zw_X3_writeTo_0 (A := A) ⟨B.exec, B.bytes, hml, hown, hts, hK, hA⟩ (fun H locs ls pc dg hP hD hS => ?_) S s.heap [] ls h hl hP hD va_S.rf
  exact W.vret B.exec B.bytes hr (fun t ht hW => ⟨⟨_, rfl, rfl, by rw [ht]; exact hP, va_K.moved hW.alike hK, hD⟩, hS.F ht⟩) hS.2.2 dg
theorem zt_X3_writeTo_c : zc_X3_writeTo ∈ mq_T := mq_T_mem (mq_t4 (List.mem_of_getElem? (i := 184) rfl)) rfl
theorem zt_X3_writeTo_i : Cond.instanceMethod yX3_writeTo ∈ mq_T := mq_T_mem (mq_t4 (List.mem_of_getElem? (i := 182) rfl)) rfl
theorem zt_X3_writeTo_s : Cond.selects RX3 yX3_writeTo yX3_writeTo ∈ mq_T := mq_T_mem (mq_t4 (List.mem_of_getElem? (i := 183) rfl)) rfl
set_option maxHeartbeats 4000000 in
theorem zv_X3_writeTo {p : Program} {l : Launch} {e : Env} {R : Room} {s : State} {m : MethodId} {args : Array Value} {below : List Frame} {meth : Method} {c : Code} {A : Nat → Prop} {D : va_G} {a z : Nat → Nat} {cI cL cB cZ : ClassId} {Q : State → Prop} {cc : ByteArray} {nL idx pc N : Nat} {own : String} {c1 : Cond} {H : Heap} {locs : List Loc} {ls : Array Slot} {rest : List Value} {S : mq_St} {res : Unit × mq_St} {ws : va_W} (is : List Nat) (C : mq_C p s m args c A D cI cL cB cZ cc nL own c1) (hlk : Cond.methodLink own idx yX3_writeTo ∈ mq_T) (hR : zr_X3_writeTo.frames + 1 ≤ R.frames ∧ 8 + (3 + 11) + zr_X3_writeTo.locals ≤ R.locals) (h : zf_X3_writeTo N z S = some res) (hC : is.map (fun i => ws[i]?) = (wd_LB a cI cL cB cZ z S).map some) (hnd : va_nd is = true) {ws' : va_W} (hw : mq_setM ws is (wd_LB a cI cL cB cZ z res.2) = ws') (hP : va_P D vwCl ws H) (hD : va_D A ws) (hS : va_S A s.heap H locs) (hls : ls.size = nL) (hrest : (rest.map fun v => v.category).sum ≤ 8) (hdg : decode cc pc = .ok (.invokevirtual idx, 3)) (kk : ∀ (H1 : Heap) (locs1 : List Loc), va_P D vwCl ws' H1 → va_D A ws' → va_S A s.heap H1 locs1 → W p l e R s m args below meth c H1 locs1 0 0 Q (F0 m (pc + 3) ls rest)) : W p l e R s m args below meth c H locs 0 0 Q (F0 m pc ls (.ref (a 2) :: .ref (a 0) :: rest)) := by
  obtain ⟨hx, hb, hml, hown, hts, hK, hA⟩ := C
  have hPc := mq_subP hP is hC
  have hDc := hD.sub is hnd hC
  have hFc := va_free hD hS hA is hC
  refine va_callv (va_runV (As := [.ref (a 2)]) (rest := rest) ⟨hx, hb, hml, hown, hts⟩ (zm_X3_writeTo l D a z cI cL cB cZ H.size N S res h) (cwV 1 hts (mq_goodL (mq_wsV hlk zt_X3_writeTo_i zt_X3_writeTo_s zt_ini_X3 zt_X3_writeTo_c)) rfl rfl rfl (by decide +kernel) hR) ⟨fun a U g mk q => ⟨q.1, q.2.1, q.2.2.1, va_K.moved (u := U) (U := U.calling g mk a) (Vm.Alike.refl U.vm) q.2.2.2.1, q.2.2.2.2⟩, va_recv hK hPc (ci := 3) (q0 := 0) rfl rfl, fun U hU hW => ⟨rfl, by rw [hU], by rw [hU]; exact hPc, va_K.moved hW.alike hK, hDc.weaken (fun _ _ _ _ => trivial)⟩⟩ rfl rfl hls rfl (lv_room hrest) hdg ⟨Nat.zero_le _, Nat.zero_le _⟩) hS (fun q _ h => hFc q h) hFc (fun u t H1 locs ht hvm hw1 hB hz1 hk1 hS => ?_)
  subst hw1
  obtain ⟨hP1, hK1, hD1⟩ := hB
  rw [ht] at hP1
  obtain ⟨hP2, hD2⟩ := mq_join (w1 := (wd_LB a cI cL cB cZ z res.2)) hP hD is hC rfl hk1 hP1
  rw [hw] at hP2 hD2
  exact kk H1 locs hP2 hD2 hS
