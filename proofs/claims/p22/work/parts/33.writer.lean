theorem zt_f_X9_15 : Cond.fieldLink RX9 15 "ModalDesk$Writer" "told" "LModalDesk$ByteRow;" ∈ mq_T := mq_T_mem (mq_t1 (List.mem_of_getElem? (i := 180) rfl)) rfl
theorem zi_X9 (c1 : Cond) : ∀ w ∈ u_ws RX9 TX9 4, w ∈ c1 :: mq_T := fun w h => List.mem_cons_of_mem _ (mq_T_mem (mq_inl [(1, 184), (1, 186), (1, 188), (1, 190)] (by decide +kernel) w h) ((by decide +kernel : ∀ w ∈ u_ws RX9 TX9 4, goodWord w = true) w h))
theorem zt_m_X9_38 : Cond.methodLink RX9 38 yX0_size ∈ mq_T := mq_T_mem (mq_t3 (List.mem_of_getElem? (i := 206) rfl)) rfl
theorem zx_wd_C_wd_B_5_6 (a z : Nat → Nat) (cI cL cB cZ : ClassId) (S X : mq_St) : mq_setM (wd_C a cI cL cB cZ z S) [5, 6] (wd_B (mq_ad a [5, 6]) cI cL cB cZ z X) = (wd_C a cI cL cB cZ z (mq_push S X [1] [3] [])) := rfl
theorem zt_m_X9_71 : Cond.methodLink RX9 71 yX0_push ∈ mq_T := mq_T_mem (mq_t3 (List.mem_of_getElem? (i := 221) rfl)) rfl
/-! ModalDesk$Writer.emit(I)V -/
def zr_X9_emit : Room := { frames := 2, cells := 0, slots := 0, locals := 44 }
def zc_X9_emit : Cond := .code yX9_emit cX9_emit 2 none
def zf_X9_emit (N : Nat) (z : Nat → Nat) (v1 : Int32) (S : mq_St) : Option (Unit × mq_St) := (mq_cp (zf_X0_size N z (mq_pull S [1] [3] [])) (fun q1 => (if (400 : Int32) ≤ q1 then (some ((), S)) else (mq_cl (zf_X0_push N z (v1) (mq_pull S [1] [3] [])) (fun q3v q3s => mq_nS (mq_push S q3s [1] [3] []) (fun S5 => (some ((), S5))))))))
set_option maxHeartbeats 4000000 in
set_option maxRecDepth 100000 in
theorem zw_X9_emit_0 {p : Program} {l : Launch} {e : Env} {s : State} {m : MethodId} {args : Array Value} {below : List Frame} {meth : Method} {c : Code} {A : Nat → Prop} {D : va_G} {a z : Nat → Nat} {cI cL cB cZ : ClassId} {Q : State → Prop} {N : Nat} {res : Unit × mq_St} (C : mq_C p s m args c A D cI cL cB cZ cX9_emit 2 RX9 zc_X9_emit) (hret : ∀ (H : Heap) (locs : List Loc) (ls : Array Slot) (pc : Nat), decode cX9_emit pc = .ok (.return_, 1) → va_P D vwCl (wd_C a cI cL cB cZ z res.2) H → va_D A (wd_C a cI cL cB cZ z res.2) → va_S A s.heap H locs → W p l e zr_X9_emit s m args below meth c H locs 0 0 Q (F0 m pc ls [])) (v1 : Int32) (S : mq_St) (H : Heap) (locs : List Loc) (ls : Array Slot) (h : zf_X9_emit N z v1 S = some res) (hl : lv_has ls 2 [(0, .ref (a 23)), (1, .int (v1))]) (hP : va_P D vwCl (wd_C a cI cL cB cZ z S) H) (hD : va_D A (wd_C a cI cL cB cZ z S)) (hS : va_S A s.heap H locs) : W p l e zr_X9_emit s m args below meth c H locs 0 0 Q (F0 m 0 ls []) := by
  obtain ⟨hx, hb, hml, hown, hts, hK, hA⟩ := id C
  unfold zf_X9_emit at h
  refine lv_aload_n hx hb dX9_emit_0 rfl (lv_at hl 0 rfl) ?_
  refine va_get (D := D) (ci := 9) (v := .ref (a 5)) (C := RX9) (T := TX9) (N := 4) hx hb hts (zi_X9 _) hown hK hP 23 rfl rfl 0 (by decide) (hts _ (List.mem_cons_of_mem _ zt_f_X9_15)) (fun _ h9 => h9) rfl dX9_emit_1 ?_
  obtain ⟨q1, hc2, h⟩ := mq_cp_go h
  refine zv_X0_size (a := mq_ad a [5, 6]) (z := z) [5, 6] C zt_m_X9_38 ⟨by decide, by decide⟩ hc2 rfl (by decide) hP hD hS hl.1 (Nat.le_of_ble_eq_true rfl) dX9_emit_4 (fun H locs hP hD hS => ?_)
  refine lv_sipush (v := (400 : Int32)) hx hb dX9_emit_7 (by decide) ?_
  refine lv_icmp_ge (tgt := 21) hx hb dX9_emit_10 (by decide) (fun c6 => ?_) (fun c6 => ?_)
  · replace h := mq_it c6 h
    cases h
    exact hret H locs ls 21 dX9_emit_21 hP hD hS
  · replace h := mq_if c6 h
    refine lv_aload_n hx hb dX9_emit_13 rfl (lv_at hl 0 rfl) ?_
    refine va_get (D := D) (ci := 9) (v := .ref (a 5)) (C := RX9) (T := TX9) (N := 4) hx hb hts (zi_X9 _) hown hK hP 23 rfl rfl 0 (by decide) (hts _ (List.mem_cons_of_mem _ zt_f_X9_15)) (fun _ h9 => h9) rfl dX9_emit_14 ?_
    refine lv_iload_n hx hb dX9_emit_17 rfl (lv_at hl 1 rfl) ?_
    obtain ⟨q3, hc4, h⟩ := mq_cl_go h
    refine zv_X0_push (a := mq_ad a [5, 6]) (z := z) [5, 6] C zt_m_X9_71 ⟨by decide, by decide⟩ hc4 rfl (by decide) (ws' := (wd_C a cI cL cB cZ z (mq_push S q3.2 [1] [3] []))) (zx_wd_C_wd_B_5_6 _ _ _ _ _ _ _ _) hP hD hS hl.1 (Nat.le_of_ble_eq_true rfl) dX9_emit_18 (fun H locs hP hD hS => ?_)
    obtain ⟨S5, eS5⟩ : ∃ y, y = mq_push S q3.2 [1] [3] [] := ⟨_, rfl⟩
    replace h := mq_nS_go eS5 h
    rw [← eS5] at hP hD
    cases h
    exact hret H locs ls 21 dX9_emit_21 hP hD hS
set_option maxHeartbeats 4000000 in
set_option maxRecDepth 100000 in
theorem zm_X9_emit (l : Launch) (D : va_G) (a z : Nat → Nat) (cI cL cB cZ : ClassId) (sz N : Nat) (v1 : Int32) (S : mq_St) (res : Unit × mq_St) (h : zf_X9_emit N z v1 S = some res) : Met l yX9_emit (zc_X9_emit :: mq_T) zr_X9_emit (va_Pc [.ref (a 23), .int (v1)] (fun U => U.heap.size = sz ∧ va_P D vwCl (wd_C a cI cL cB cZ z S) U.heap ∧ va_K D vwCl (mq_tys cI cL cB cZ) U ∧ va_D (fun _ => True) (wd_C a cI cL cB cZ z S))) (va_Qv (fun u : mq_St => u = res.2) (fun u t => va_P D vwCl (wd_C a cI cL cB cZ z u) t.heap ∧ va_K D vwCl (mq_tys cI cL cB cZ) t ∧ va_D (va_A (wd_C a cI cL cB cZ z S) sz) (wd_C a cI cL cB cZ z u)) (va_A (wd_C a cI cL cB cZ z S) sz)) 0 0 (va_A (wd_C a cI cL cB cZ z S) sz) := by
  refine Met.ofW (cc := cX9_emit) (maxL := 2) (ret := none) (by decide) rfl ?_
  intro p e s m args below meth c s₁ B hml hv
  obtain ⟨rfl, hsz, hP, hK, hD0⟩ := hv
  have hr := B.returns
  have hlocks := B.notSynchronized
  have hts := atoms_spec (ws := zc_X9_emit :: mq_T) B.pre
  have hown : s.vm.findClass RX9 = some m.cls := findClass_of_methodNamed B.named
  subst hsz
  have hD := hD0.self (sz := s.heap.size)
  generalize hAe : va_A (wd_C a cI cL cB cZ z S) s.heap.size = A at hD ⊢
  have hA : ∀ q : Nat, s.heap.size ≤ q → A q := fun q h => by rw [← hAe]; exact Or.inr h
  have hl := lv_entry ([.ref (a 23), .int (v1)]) (n := 2) (Nat.le_of_ble_eq_true rfl)
  rw [lg_entry_eq]
  generalize (lg_sl ([.ref (a 23), .int (v1)]) ++ List.replicate (2 - (lg_sl ([.ref (a 23), .int (v1)])).length) Slot.unset).toArray = ls at hl ⊢
  have hl : lv_has ls 2 [(0, .ref (a 23)), (1, .int (v1))] := hl
  refine zw_X9_emit_0 (A := A) ⟨B.exec, B.bytes, hml, hown, hts, hK, hA⟩ (fun H locs ls pc dg hP hD hS => ?_) v1 S s.heap [] ls h hl hP hD va_S.rf
  exact W.vret B.exec B.bytes hr (fun t ht hW => ⟨⟨_, rfl, rfl, by rw [ht]; exact hP, va_K.moved hW.alike hK, hD⟩, hS.F ht⟩) hS.2.2 dg
theorem zt_X9_emit_c : zc_X9_emit ∈ mq_T := mq_T_mem (mq_t3 (List.mem_of_getElem? (i := 220) rfl)) rfl
theorem zt_X9_emit_i : Cond.instanceMethod yX9_emit ∈ mq_T := mq_T_mem (mq_t3 (List.mem_of_getElem? (i := 219) rfl)) rfl
theorem zt_X9_emit_s : Cond.selects RX9 yX9_emit yX9_emit ∈ mq_T := mq_T_at 31 (by decide +kernel)
theorem zt_ini_X9 : Cond.initialized RX9 ∈ mq_T := mq_T_mem (mq_t1 (List.mem_of_getElem? (i := 8) rfl)) rfl
set_option maxHeartbeats 4000000 in
theorem zk_X9_emit {p : Program} {l : Launch} {e : Env} {R : Room} {s : State} {m : MethodId} {args : Array Value} {below : List Frame} {meth : Method} {c : Code} {A : Nat → Prop} {D : va_G} {a z : Nat → Nat} {cI cL cB cZ : ClassId} {Q : State → Prop} {cc : ByteArray} {nL idx pc N : Nat} {own : String} {c1 : Cond} {H : Heap} {locs : List Loc} {ls : Array Slot} {rest : List Value} {S : mq_St} {res : Unit × mq_St} {v1 : Int32} (C : mq_C p s m args c A D cI cL cB cZ cc nL own c1) (hlk : Cond.methodLink own idx yX9_emit ∈ mq_T) (hR : zr_X9_emit.frames + 1 ≤ R.frames ∧ 8 + (2 + 11) + zr_X9_emit.locals ≤ R.locals) (h : zf_X9_emit N z v1 S = some res) (hP : va_P D vwCl (wd_C a cI cL cB cZ z S) H) (hD : va_D A (wd_C a cI cL cB cZ z S)) (hS : va_S A s.heap H locs) (hls : ls.size = nL) (hrest : (rest.map fun v => v.category).sum ≤ 8) (hdg : decode cc pc = .ok (.invokevirtual idx, 3)) (kk : ∀ (H1 : Heap) (locs1 : List Loc), va_P D vwCl (wd_C a cI cL cB cZ z res.2) H1 → va_D A (wd_C a cI cL cB cZ z res.2) → va_S A s.heap H1 locs1 → W p l e R s m args below meth c H1 locs1 0 0 Q (F0 m (pc + 3) ls rest)) : W p l e R s m args below meth c H locs 0 0 Q (F0 m pc ls (.int (v1) :: .ref (a 23) :: rest)) := by
  obtain ⟨hx, hb, hml, hown, hts, hK, hA⟩ := C
  have hFc := mq_freeI hD hS hA
  refine va_callv (va_runV (As := [.int (v1)]) (rest := rest) ⟨hx, hb, hml, hown, hts⟩ (zm_X9_emit l D a z cI cL cB cZ H.size N v1 S res h) (cwV 1 hts (mq_goodL (mq_wsV hlk zt_X9_emit_i zt_X9_emit_s zt_ini_X9 zt_X9_emit_c)) rfl rfl rfl (by decide +kernel) hR) ⟨fun a U g mk q => ⟨q.1, q.2.1, q.2.2.1, va_K.moved (u := U) (U := U.calling g mk a) (Vm.Alike.refl U.vm) q.2.2.2.1, q.2.2.2.2⟩, zy_C_23 hK hP, fun U hU hW => ⟨rfl, by rw [hU], by rw [hU]; exact hP, va_K.moved hW.alike hK, hD.weaken (fun _ _ _ _ => trivial)⟩⟩ rfl rfl hls rfl (lv_room hrest) hdg ⟨Nat.zero_le _, Nat.zero_le _⟩) hS (fun q _ h => hFc q h) hFc (fun u t H1 locs ht hvm hw hB hz1 hk1 hS => ?_)
  subst hw
  obtain ⟨hP1, hK1, hD1⟩ := hB
  rw [ht] at hP1
  exact kk H1 locs hP1 (hD1.weaken (fun _ _ _ h => hFc _ h)) hS
theorem zt_f_X9_29 : Cond.fieldLink RX9 29 "ModalDesk$Writer" "depth" "I" ∈ mq_T := mq_T_mem (mq_t1 (List.mem_of_getElem? (i := 183) rfl)) rfl
theorem zt_f_X9_9 : Cond.fieldLink RX9 9 "ModalDesk$Writer" "way" "[I" ∈ mq_T := mq_T_mem (mq_t1 (List.mem_of_getElem? (i := 182) rfl)) rfl
theorem zs_wd_C_a_24_15 (a z : Nat → Nat) (cI cL cB cZ : ClassId) (S : mq_St) (f : Nat → Int32) : (wd_C a cI cL cB cZ z S).set 24 (a 24, .inl (cI, 300, .inl f)) = (wd_C a cI cL cB cZ z (mq_sa S 15 f)) := rfl
theorem zs_wd_C_i_23_13 (a z : Nat → Nat) (cI cL cB cZ : ClassId) (S : mq_St) (v : Int32) : (wd_C a cI cL cB cZ z S).set 23 (a 23, .inr (9, ([.ref (a 5), .ref (a 7), .ref (a 24), .int (S.1 13)] : List Value).set 3 (.int v))) = (wd_C a cI cL cB cZ z (mq_si S 13 v)) := rfl
/-! ModalDesk$Writer.enter(I)V -/
def zr_X9_enter : Room := { frames := 0, cells := 0, slots := 0, locals := 0 }
def zc_X9_enter : Cond := .code yX9_enter cX9_enter 2 none
def zf_X9_enter (N : Nat) (z : Nat → Nat) (v1 : Int32) (S : mq_St) : Option (Unit × mq_St) := (if (300 : Int32) ≤ (S.1 13) then (some ((), S)) else (mq_ck ((S.1 13)) 300 (mq_nS (mq_sa S 15 (upd (S.2.1 15) ((S.1 13)).toNatClampNeg (((4 : Int32) * v1)))) (fun S2 => (mq_nS (mq_si S2 13 (((S2.1 13) + (1 : Int32)))) (fun S3 => (some ((), S3))))))))
set_option maxHeartbeats 4000000 in
set_option maxRecDepth 100000 in
theorem zw_X9_enter_0 {p : Program} {l : Launch} {e : Env} {s : State} {m : MethodId} {args : Array Value} {below : List Frame} {meth : Method} {c : Code} {A : Nat → Prop} {D : va_G} {a z : Nat → Nat} {cI cL cB cZ : ClassId} {Q : State → Prop} {N : Nat} {res : Unit × mq_St} (C : mq_C p s m args c A D cI cL cB cZ cX9_enter 2 RX9 zc_X9_enter) (hret : ∀ (H : Heap) (locs : List Loc) (ls : Array Slot) (pc : Nat), decode cX9_enter pc = .ok (.return_, 1) → va_P D vwCl (wd_C a cI cL cB cZ z res.2) H → va_D A (wd_C a cI cL cB cZ z res.2) → va_S A s.heap H locs → W p l e zr_X9_enter s m args below meth c H locs 0 0 Q (F0 m pc ls [])) (v1 : Int32) (S : mq_St) (H : Heap) (locs : List Loc) (ls : Array Slot) (h : zf_X9_enter N z v1 S = some res) (hl : lv_has ls 2 [(0, .ref (a 23)), (1, .int (v1))]) (hP : va_P D vwCl (wd_C a cI cL cB cZ z S) H) (hD : va_D A (wd_C a cI cL cB cZ z S)) (hS : va_S A s.heap H locs) : W p l e zr_X9_enter s m args below meth c H locs 0 0 Q (F0 m 0 ls []) := by
  obtain ⟨hx, hb, hml, hown, hts, hK, hA⟩ := id C
  unfold zf_X9_enter at h
  refine lv_aload_n hx hb dX9_enter_0 rfl (lv_at hl 0 rfl) ?_
  refine va_get (D := D) (ci := 9) (v := .int ((S.1 13))) (C := RX9) (T := TX9) (N := 4) hx hb hts (zi_X9 _) hown hK hP 23 rfl rfl 3 (by decide) (hts _ (List.mem_cons_of_mem _ zt_f_X9_29)) (fun _ h9 => h9) rfl dX9_enter_1 ?_
  refine lv_aload_n hx hb dX9_enter_4 rfl (lv_at hl 0 rfl) ?_
  refine va_get (D := D) (ci := 9) (v := .ref (a 24)) (C := RX9) (T := TX9) (N := 4) hx hb hts (zi_X9 _) hown hK hP 23 rfl rfl 2 (by decide) (hts _ (List.mem_cons_of_mem _ zt_f_X9_9)) (fun _ h9 => h9) rfl dX9_enter_5 ?_
  refine va_alen hx hb hK hP 24 0 (v := (300 : Int32)) rfl rfl (show Int32.ofNat 300 = 300 by decide) dX9_enter_8 ?_
  refine lv_icmp_ge (tgt := 34) hx hb dX9_enter_9 (by decide) (fun c4 => ?_) (fun c4 => ?_)
  · replace h := mq_it c4 h
    cases h
    exact hret H locs ls 34 dX9_enter_34 hP hD hS
  · replace h := mq_if c4 h
    refine lv_aload_n hx hb dX9_enter_12 rfl (lv_at hl 0 rfl) ?_
    refine va_get (D := D) (ci := 9) (v := .ref (a 24)) (C := RX9) (T := TX9) (N := 4) hx hb hts (zi_X9 _) hown hK hP 23 rfl rfl 2 (by decide) (hts _ (List.mem_cons_of_mem _ zt_f_X9_9)) (fun _ h9 => h9) rfl dX9_enter_13 ?_
    refine lv_aload_n hx hb dX9_enter_16 rfl (lv_at hl 0 rfl) ?_
    refine va_get (D := D) (ci := 9) (v := .int ((S.1 13))) (C := RX9) (T := TX9) (N := 4) hx hb hts (zi_X9 _) hown hK hP 23 rfl rfl 3 (by decide) (hts _ (List.mem_cons_of_mem _ zt_f_X9_29)) (fun _ h9 => h9) rfl dX9_enter_17 ?_
    refine lv_iconst (v := (4 : Int32)) hx hb dX9_enter_20 (by decide) ?_
    refine lv_iload_n hx hb dX9_enter_21 rfl (lv_at hl 1 rfl) ?_
    refine lv_imul hx hb dX9_enter_22 ?_
    have hi1 := mq_ck_in h
    replace h := mq_ck_go h
    refine mq_iast (w := wd_C a cI cL cB cZ z) (S := S) (f := S.2.1 15) hx hb hK hP hD hS 24 0 rfl rfl hi1 dX9_enter_23 15 (zs_wd_C_a_24_15 _ _ _ _ _ _ _ _) (fun S2 eS2 H locs hP hD hS => ?_)
    replace h := mq_nS_go eS2 h
    refine lv_aload_n hx hb dX9_enter_24 rfl (lv_at hl 0 rfl) ?_
    refine lv_dup hx hb dX9_enter_25 rfl ?_
    refine va_get (D := D) (ci := 9) (v := .int ((S2.1 13))) (C := RX9) (T := TX9) (N := 4) hx hb hts (zi_X9 _) hown hK hP 23 rfl rfl 3 (by decide) (hts _ (List.mem_cons_of_mem _ zt_f_X9_29)) (fun _ h9 => h9) rfl dX9_enter_26 ?_
    refine lv_iconst (v := (1 : Int32)) hx hb dX9_enter_29 (by decide) ?_
    refine lv_iadd hx hb dX9_enter_30 ?_
    refine mq_put (w := wd_C a cI cL cB cZ z) (S := S2) (D := D) (ci := 9) (v := ((S2.1 13) + (1 : Int32))) (ty := .int) (C := RX9) (T := TX9) (N := 4) hx hb hts (zi_X9 _) tyX9 tyX9_ok nmX9 hown hK hP hD hS 23 rfl rfl 3 (by decide) (hts _ (List.mem_cons_of_mem _ zt_f_X9_29)) (fun _ h9 => h9) rfl (by decide +kernel) rfl rfl (Nat.le_of_ble_eq_true rfl) dX9_enter_31 13 (zs_wd_C_i_23_13 _ _ _ _ _ _ _ _) (fun S3 eS3 H locs hP hD hS => ?_)
    replace h := mq_nS_go eS3 h
    cases h
    exact hret H locs ls 34 dX9_enter_34 hP hD hS
set_option maxHeartbeats 4000000 in
set_option maxRecDepth 100000 in
theorem zm_X9_enter (l : Launch) (D : va_G) (a z : Nat → Nat) (cI cL cB cZ : ClassId) (sz N : Nat) (v1 : Int32) (S : mq_St) (res : Unit × mq_St) (h : zf_X9_enter N z v1 S = some res) : Met l yX9_enter (zc_X9_enter :: mq_T) zr_X9_enter (va_Pc [.ref (a 23), .int (v1)] (fun U => U.heap.size = sz ∧ va_P D vwCl (wd_C a cI cL cB cZ z S) U.heap ∧ va_K D vwCl (mq_tys cI cL cB cZ) U ∧ va_D (fun _ => True) (wd_C a cI cL cB cZ z S))) (va_Qv (fun u : mq_St => u = res.2) (fun u t => va_P D vwCl (wd_C a cI cL cB cZ z u) t.heap ∧ va_K D vwCl (mq_tys cI cL cB cZ) t ∧ va_D (va_A (wd_C a cI cL cB cZ z S) sz) (wd_C a cI cL cB cZ z u)) (va_A (wd_C a cI cL cB cZ z S) sz)) 0 0 (va_A (wd_C a cI cL cB cZ z S) sz) := by
  refine Met.ofW (cc := cX9_enter) (maxL := 2) (ret := none) (by decide) rfl ?_
  intro p e s m args below meth c s₁ B hml hv
  obtain ⟨rfl, hsz, hP, hK, hD0⟩ := hv
  have hr := B.returns
  have hlocks := B.notSynchronized
  have hts := atoms_spec (ws := zc_X9_enter :: mq_T) B.pre
  have hown : s.vm.findClass RX9 = some m.cls := findClass_of_methodNamed B.named
  subst hsz
  have hD := hD0.self (sz := s.heap.size)
  generalize hAe : va_A (wd_C a cI cL cB cZ z S) s.heap.size = A at hD ⊢
  have hA : ∀ q : Nat, s.heap.size ≤ q → A q := fun q h => by rw [← hAe]; exact Or.inr h
  have hl := lv_entry ([.ref (a 23), .int (v1)]) (n := 2) (Nat.le_of_ble_eq_true rfl)
  rw [lg_entry_eq]
  generalize (lg_sl ([.ref (a 23), .int (v1)]) ++ List.replicate (2 - (lg_sl ([.ref (a 23), .int (v1)])).length) Slot.unset).toArray = ls at hl ⊢
  have hl : lv_has ls 2 [(0, .ref (a 23)), (1, .int (v1))] := hl
  refine zw_X9_enter_0 (A := A) ⟨B.exec, B.bytes, hml, hown, hts, hK, hA⟩ (fun H locs ls pc dg hP hD hS => ?_) v1 S s.heap [] ls h hl hP hD va_S.rf
  exact W.vret B.exec B.bytes hr (fun t ht hW => ⟨⟨_, rfl, rfl, by rw [ht]; exact hP, va_K.moved hW.alike hK, hD⟩, hS.F ht⟩) hS.2.2 dg
theorem zt_X9_enter_c : zc_X9_enter ∈ mq_T := mq_T_mem (mq_t3 (List.mem_of_getElem? (i := 204) rfl)) rfl
theorem zt_X9_enter_i : Cond.instanceMethod yX9_enter ∈ mq_T := mq_T_mem (mq_t3 (List.mem_of_getElem? (i := 203) rfl)) rfl
theorem zt_X9_enter_s : Cond.selects RX9 yX9_enter yX9_enter ∈ mq_T := mq_T_at 28 (by decide +kernel)
set_option maxHeartbeats 4000000 in
theorem zk_X9_enter {p : Program} {l : Launch} {e : Env} {R : Room} {s : State} {m : MethodId} {args : Array Value} {below : List Frame} {meth : Method} {c : Code} {A : Nat → Prop} {D : va_G} {a z : Nat → Nat} {cI cL cB cZ : ClassId} {Q : State → Prop} {cc : ByteArray} {nL idx pc N : Nat} {own : String} {c1 : Cond} {H : Heap} {locs : List Loc} {ls : Array Slot} {rest : List Value} {S : mq_St} {res : Unit × mq_St} {v1 : Int32} (C : mq_C p s m args c A D cI cL cB cZ cc nL own c1) (hlk : Cond.methodLink own idx yX9_enter ∈ mq_T) (hR : zr_X9_enter.frames + 1 ≤ R.frames ∧ 8 + (2 + 11) + zr_X9_enter.locals ≤ R.locals) (h : zf_X9_enter N z v1 S = some res) (hP : va_P D vwCl (wd_C a cI cL cB cZ z S) H) (hD : va_D A (wd_C a cI cL cB cZ z S)) (hS : va_S A s.heap H locs) (hls : ls.size = nL) (hrest : (rest.map fun v => v.category).sum ≤ 8) (hdg : decode cc pc = .ok (.invokevirtual idx, 3)) (kk : ∀ (H1 : Heap) (locs1 : List Loc), va_P D vwCl (wd_C a cI cL cB cZ z res.2) H1 → va_D A (wd_C a cI cL cB cZ z res.2) → va_S A s.heap H1 locs1 → W p l e R s m args below meth c H1 locs1 0 0 Q (F0 m (pc + 3) ls rest)) : W p l e R s m args below meth c H locs 0 0 Q (F0 m pc ls (.int (v1) :: .ref (a 23) :: rest)) := by
  obtain ⟨hx, hb, hml, hown, hts, hK, hA⟩ := C
  have hFc := mq_freeI hD hS hA
  refine va_callv (va_runV (As := [.int (v1)]) (rest := rest) ⟨hx, hb, hml, hown, hts⟩ (zm_X9_enter l D a z cI cL cB cZ H.size N v1 S res h) (cwV 1 hts (mq_goodL (mq_wsV hlk zt_X9_enter_i zt_X9_enter_s zt_ini_X9 zt_X9_enter_c)) rfl rfl rfl (by decide +kernel) hR) ⟨fun a U g mk q => ⟨q.1, q.2.1, q.2.2.1, va_K.moved (u := U) (U := U.calling g mk a) (Vm.Alike.refl U.vm) q.2.2.2.1, q.2.2.2.2⟩, zy_C_23 hK hP, fun U hU hW => ⟨rfl, by rw [hU], by rw [hU]; exact hP, va_K.moved hW.alike hK, hD.weaken (fun _ _ _ _ => trivial)⟩⟩ rfl rfl hls rfl (lv_room hrest) hdg ⟨Nat.zero_le _, Nat.zero_le _⟩) hS (fun q _ h => hFc q h) hFc (fun u t H1 locs ht hvm hw hB hz1 hk1 hS => ?_)
  subst hw
  obtain ⟨hP1, hK1, hD1⟩ := hB
  rw [ht] at hP1
  exact kk H1 locs hP1 (hD1.weaken (fun _ _ _ h => hFc _ h)) hS
theorem zt_m_X9_65 : Cond.methodLink RX9 65 yX9_emit ∈ mq_T := mq_T_mem (mq_t3 (List.mem_of_getElem? (i := 217) rfl)) rfl
/-! ModalDesk$Writer.writeAtom(II)V -/
def zr_X9_writeAtom : Room := { frames := 3, cells := 0, slots := 0, locals := 65 }
def zc_X9_writeAtom : Cond := .code yX9_writeAtom cX9_writeAtom 3 none
def zf_X9_writeAtom_38 (N : Nat) (z : Nat → Nat) (v2 : Int32) (S : mq_St) : Option (Unit × mq_St) := (mq_cl (zf_X9_emit N z (((97 : Int32) + v2)) S) (fun q13v S15 => (some ((), S15))))
def zf_X9_writeAtom (N : Nat) (z : Nat → Nat) (v1 : Int32) (v2 : Int32) (S : mq_St) : Option (Unit × mq_St) := (if v1 = (0 : Int32) then (mq_cl (zf_X9_emit N z ((84 : Int32)) S) (fun q9v S11 => (some ((), S11)))) else (if v1 = (1 : Int32) then (mq_cl (zf_X9_emit N z ((70 : Int32)) S) (fun q5v S7 => (some ((), S7)))) else (if v1 = (3 : Int32) then (mq_cl (zf_X9_emit N z ((33 : Int32)) S) (fun q1v S3 => (zf_X9_writeAtom_38 N z (v2) S3))) else (zf_X9_writeAtom_38 N z (v2) S))))
set_option maxHeartbeats 4000000 in
set_option maxRecDepth 100000 in
theorem zw_X9_writeAtom_38 {p : Program} {l : Launch} {e : Env} {s : State} {m : MethodId} {args : Array Value} {below : List Frame} {meth : Method} {c : Code} {A : Nat → Prop} {D : va_G} {a z : Nat → Nat} {cI cL cB cZ : ClassId} {Q : State → Prop} {N : Nat} {res : Unit × mq_St} (C : mq_C p s m args c A D cI cL cB cZ cX9_writeAtom 3 RX9 zc_X9_writeAtom) (hret : ∀ (H : Heap) (locs : List Loc) (ls : Array Slot) (pc : Nat), decode cX9_writeAtom pc = .ok (.return_, 1) → va_P D vwCl (wd_C a cI cL cB cZ z res.2) H → va_D A (wd_C a cI cL cB cZ z res.2) → va_S A s.heap H locs → W p l e zr_X9_writeAtom s m args below meth c H locs 0 0 Q (F0 m pc ls [])) (v2 : Int32) (S : mq_St) (H : Heap) (locs : List Loc) (ls : Array Slot) (h : zf_X9_writeAtom_38 N z v2 S = some res) (hl : lv_has ls 3 [(0, .ref (a 23)), (2, .int (v2))]) (hP : va_P D vwCl (wd_C a cI cL cB cZ z S) H) (hD : va_D A (wd_C a cI cL cB cZ z S)) (hS : va_S A s.heap H locs) : W p l e zr_X9_writeAtom s m args below meth c H locs 0 0 Q (F0 m 38 ls []) := by
  obtain ⟨hx, hb, hml, hown, hts, hK, hA⟩ := id C
  unfold zf_X9_writeAtom_38 at h
  refine lv_aload_n hx hb dX9_writeAtom_38 rfl (lv_at hl 0 rfl) ?_
  refine lv_bipush (v := (97 : Int32)) hx hb dX9_writeAtom_39 (by decide) ?_
  refine lv_iload_n hx hb dX9_writeAtom_41 rfl (lv_at hl 1 rfl) ?_
  refine lv_iadd hx hb dX9_writeAtom_42 ?_
  obtain ⟨q13, hc14, h⟩ := mq_cl_go h
  refine zk_X9_emit C zt_m_X9_65 ⟨by decide, by decide⟩ hc14 hP hD hS hl.1 (Nat.le_of_ble_eq_true rfl) dX9_writeAtom_43 (fun H locs hP hD hS => ?_)
  obtain ⟨S15, eS15⟩ : ∃ y, y = q13.2 := ⟨_, rfl⟩
  rw [← eS15] at hP hD h
  cases h
  exact hret H locs ls 46 dX9_writeAtom_46 hP hD hS
set_option maxHeartbeats 4000000 in
set_option maxRecDepth 100000 in
theorem zw_X9_writeAtom_0 {p : Program} {l : Launch} {e : Env} {s : State} {m : MethodId} {args : Array Value} {below : List Frame} {meth : Method} {c : Code} {A : Nat → Prop} {D : va_G} {a z : Nat → Nat} {cI cL cB cZ : ClassId} {Q : State → Prop} {N : Nat} {res : Unit × mq_St} (C : mq_C p s m args c A D cI cL cB cZ cX9_writeAtom 3 RX9 zc_X9_writeAtom) (hret : ∀ (H : Heap) (locs : List Loc) (ls : Array Slot) (pc : Nat), decode cX9_writeAtom pc = .ok (.return_, 1) → va_P D vwCl (wd_C a cI cL cB cZ z res.2) H → va_D A (wd_C a cI cL cB cZ z res.2) → va_S A s.heap H locs → W p l e zr_X9_writeAtom s m args below meth c H locs 0 0 Q (F0 m pc ls [])) (v1 : Int32) (v2 : Int32) (S : mq_St) (H : Heap) (locs : List Loc) (ls : Array Slot) (h : zf_X9_writeAtom N z v1 v2 S = some res) (hl : lv_has ls 3 [(0, .ref (a 23)), (1, .int (v1)), (2, .int (v2))]) (hP : va_P D vwCl (wd_C a cI cL cB cZ z S) H) (hD : va_D A (wd_C a cI cL cB cZ z S)) (hS : va_S A s.heap H locs) : W p l e zr_X9_writeAtom s m args below meth c H locs 0 0 Q (F0 m 0 ls []) := by
  obtain ⟨hx, hb, hml, hown, hts, hK, hA⟩ := id C
  unfold zf_X9_writeAtom at h
  refine lv_iload_n hx hb dX9_writeAtom_0 rfl (lv_at hl 1 rfl) ?_
  refine lv_if_ne (tgt := 13) hx hb dX9_writeAtom_1 (by decide) (fun c12 => ?_) (fun c12 => ?_)
  · replace h := mq_if c12 h
    refine lv_iload_n hx hb dX9_writeAtom_13 rfl (lv_at hl 1 rfl) ?_
    refine lv_iconst (v := (1 : Int32)) hx hb dX9_writeAtom_14 (by decide) ?_
    refine lv_icmp_ne (tgt := 27) hx hb dX9_writeAtom_15 (by decide) (fun c8 => ?_) (fun c8 => ?_)
    · replace h := mq_if c8 h
      refine lv_iload_n hx hb dX9_writeAtom_27 rfl (lv_at hl 1 rfl) ?_
      refine lv_iconst (v := (3 : Int32)) hx hb dX9_writeAtom_28 (by decide) ?_
      refine lv_icmp_ne (tgt := 38) hx hb dX9_writeAtom_29 (by decide) (fun c4 => ?_) (fun c4 => ?_)
      · replace h := mq_if c4 h
        exact zw_X9_writeAtom_38 C hret (v2) S H locs ls h (lv_sub hl [0, 2] rfl) hP hD hS
      · replace h := mq_it (by simpa using c4) h
        refine lv_aload_n hx hb dX9_writeAtom_32 rfl (lv_at hl 0 rfl) ?_
        refine lv_bipush (v := (33 : Int32)) hx hb dX9_writeAtom_33 (by decide) ?_
        obtain ⟨q1, hc2, h⟩ := mq_cl_go h
        refine zk_X9_emit C zt_m_X9_65 ⟨by decide, by decide⟩ hc2 hP hD hS hl.1 (Nat.le_of_ble_eq_true rfl) dX9_writeAtom_35 (fun H locs hP hD hS => ?_)
        obtain ⟨S3, eS3⟩ : ∃ y, y = q1.2 := ⟨_, rfl⟩
        rw [← eS3] at hP hD h
        exact zw_X9_writeAtom_38 C hret (v2) S3 H locs ls h (lv_sub hl [0, 2] rfl) hP hD hS
    · replace h := mq_it (by simpa using c8) h
      refine lv_aload_n hx hb dX9_writeAtom_18 rfl (lv_at hl 0 rfl) ?_
      refine lv_bipush (v := (70 : Int32)) hx hb dX9_writeAtom_19 (by decide) ?_
      obtain ⟨q5, hc6, h⟩ := mq_cl_go h
      refine zk_X9_emit C zt_m_X9_65 ⟨by decide, by decide⟩ hc6 hP hD hS hl.1 (Nat.le_of_ble_eq_true rfl) dX9_writeAtom_21 (fun H locs hP hD hS => ?_)
      obtain ⟨S7, eS7⟩ : ∃ y, y = q5.2 := ⟨_, rfl⟩
      rw [← eS7] at hP hD h
      refine lv_goto (tgt := 46) hx hb dX9_writeAtom_24 (by decide) ?_
      cases h
      exact hret H locs ls 46 dX9_writeAtom_46 hP hD hS
  · replace h := mq_it (by simpa using c12) h
    refine lv_aload_n hx hb dX9_writeAtom_4 rfl (lv_at hl 0 rfl) ?_
    refine lv_bipush (v := (84 : Int32)) hx hb dX9_writeAtom_5 (by decide) ?_
    obtain ⟨q9, hc10, h⟩ := mq_cl_go h
    refine zk_X9_emit C zt_m_X9_65 ⟨by decide, by decide⟩ hc10 hP hD hS hl.1 (Nat.le_of_ble_eq_true rfl) dX9_writeAtom_7 (fun H locs hP hD hS => ?_)
    obtain ⟨S11, eS11⟩ : ∃ y, y = q9.2 := ⟨_, rfl⟩
    rw [← eS11] at hP hD h
    refine lv_goto (tgt := 46) hx hb dX9_writeAtom_10 (by decide) ?_
    cases h
    exact hret H locs ls 46 dX9_writeAtom_46 hP hD hS
set_option maxHeartbeats 4000000 in
set_option maxRecDepth 100000 in
theorem zm_X9_writeAtom (l : Launch) (D : va_G) (a z : Nat → Nat) (cI cL cB cZ : ClassId) (sz N : Nat) (v1 : Int32) (v2 : Int32) (S : mq_St) (res : Unit × mq_St) (h : zf_X9_writeAtom N z v1 v2 S = some res) : Met l yX9_writeAtom (zc_X9_writeAtom :: mq_T) zr_X9_writeAtom (va_Pc [.ref (a 23), .int (v1), .int (v2)] (fun U => U.heap.size = sz ∧ va_P D vwCl (wd_C a cI cL cB cZ z S) U.heap ∧ va_K D vwCl (mq_tys cI cL cB cZ) U ∧ va_D (fun _ => True) (wd_C a cI cL cB cZ z S))) (va_Qv (fun u : mq_St => u = res.2) (fun u t => va_P D vwCl (wd_C a cI cL cB cZ z u) t.heap ∧ va_K D vwCl (mq_tys cI cL cB cZ) t ∧ va_D (va_A (wd_C a cI cL cB cZ z S) sz) (wd_C a cI cL cB cZ z u)) (va_A (wd_C a cI cL cB cZ z S) sz)) 0 0 (va_A (wd_C a cI cL cB cZ z S) sz) := by
  refine Met.ofW (cc := cX9_writeAtom) (maxL := 3) (ret := none) (by decide) rfl ?_
  intro p e s m args below meth c s₁ B hml hv
  obtain ⟨rfl, hsz, hP, hK, hD0⟩ := hv
  have hr := B.returns
  have hlocks := B.notSynchronized
  have hts := atoms_spec (ws := zc_X9_writeAtom :: mq_T) B.pre
  have hown : s.vm.findClass RX9 = some m.cls := findClass_of_methodNamed B.named
  subst hsz
  have hD := hD0.self (sz := s.heap.size)
  generalize hAe : va_A (wd_C a cI cL cB cZ z S) s.heap.size = A at hD ⊢
  have hA : ∀ q : Nat, s.heap.size ≤ q → A q := fun q h => by rw [← hAe]; exact Or.inr h
  have hl := lv_entry ([.ref (a 23), .int (v1), .int (v2)]) (n := 3) (Nat.le_of_ble_eq_true rfl)
  rw [lg_entry_eq]
  generalize (lg_sl ([.ref (a 23), .int (v1), .int (v2)]) ++ List.replicate (3 - (lg_sl ([.ref (a 23), .int (v1), .int (v2)])).length) Slot.unset).toArray = ls at hl ⊢
  have hl : lv_has ls 3 [(0, .ref (a 23)), (1, .int (v1)), (2, .int (v2))] := hl
  refine zw_X9_writeAtom_0 (A := A) ⟨B.exec, B.bytes, hml, hown, hts, hK, hA⟩ (fun H locs ls pc dg hP hD hS => ?_) v1 v2 S s.heap [] ls h hl hP hD va_S.rf
  exact W.vret B.exec B.bytes hr (fun t ht hW => ⟨⟨_, rfl, rfl, by rw [ht]; exact hP, va_K.moved hW.alike hK, hD⟩, hS.F ht⟩) hS.2.2 dg
theorem zt_X9_writeAtom_c : zc_X9_writeAtom ∈ mq_T := mq_T_mem (mq_t3 (List.mem_of_getElem? (i := 216) rfl)) rfl
theorem zt_X9_writeAtom_i : Cond.instanceMethod yX9_writeAtom ∈ mq_T := mq_T_mem (mq_t3 (List.mem_of_getElem? (i := 215) rfl)) rfl
theorem zt_X9_writeAtom_s : Cond.selects RX9 yX9_writeAtom yX9_writeAtom ∈ mq_T := mq_T_at 30 (by decide +kernel)
set_option maxHeartbeats 4000000 in
theorem zk_X9_writeAtom {p : Program} {l : Launch} {e : Env} {R : Room} {s : State} {m : MethodId} {args : Array Value} {below : List Frame} {meth : Method} {c : Code} {A : Nat → Prop} {D : va_G} {a z : Nat → Nat} {cI cL cB cZ : ClassId} {Q : State → Prop} {cc : ByteArray} {nL idx pc N : Nat} {own : String} {c1 : Cond} {H : Heap} {locs : List Loc} {ls : Array Slot} {rest : List Value} {S : mq_St} {res : Unit × mq_St} {v1 : Int32} {v2 : Int32} (C : mq_C p s m args c A D cI cL cB cZ cc nL own c1) (hlk : Cond.methodLink own idx yX9_writeAtom ∈ mq_T) (hR : zr_X9_writeAtom.frames + 1 ≤ R.frames ∧ 8 + (3 + 11) + zr_X9_writeAtom.locals ≤ R.locals) (h : zf_X9_writeAtom N z v1 v2 S = some res) (hP : va_P D vwCl (wd_C a cI cL cB cZ z S) H) (hD : va_D A (wd_C a cI cL cB cZ z S)) (hS : va_S A s.heap H locs) (hls : ls.size = nL) (hrest : (rest.map fun v => v.category).sum ≤ 8) (hdg : decode cc pc = .ok (.invokevirtual idx, 3)) (kk : ∀ (H1 : Heap) (locs1 : List Loc), va_P D vwCl (wd_C a cI cL cB cZ z res.2) H1 → va_D A (wd_C a cI cL cB cZ z res.2) → va_S A s.heap H1 locs1 → W p l e R s m args below meth c H1 locs1 0 0 Q (F0 m (pc + 3) ls rest)) : W p l e R s m args below meth c H locs 0 0 Q (F0 m pc ls (.int (v2) :: .int (v1) :: .ref (a 23) :: rest)) := by
  obtain ⟨hx, hb, hml, hown, hts, hK, hA⟩ := C
  have hFc := mq_freeI hD hS hA
  refine va_callv (va_runV (As := [.int (v1), .int (v2)]) (rest := rest) ⟨hx, hb, hml, hown, hts⟩ (zm_X9_writeAtom l D a z cI cL cB cZ H.size N v1 v2 S res h) (cwV 2 hts (mq_goodL (mq_wsV hlk zt_X9_writeAtom_i zt_X9_writeAtom_s zt_ini_X9 zt_X9_writeAtom_c)) rfl rfl rfl (by decide +kernel) hR) ⟨fun a U g mk q => ⟨q.1, q.2.1, q.2.2.1, va_K.moved (u := U) (U := U.calling g mk a) (Vm.Alike.refl U.vm) q.2.2.2.1, q.2.2.2.2⟩, zy_C_23 hK hP, fun U hU hW => ⟨rfl, by rw [hU], by rw [hU]; exact hP, va_K.moved hW.alike hK, hD.weaken (fun _ _ _ _ => trivial)⟩⟩ rfl rfl hls rfl (lv_room hrest) hdg ⟨Nat.zero_le _, Nat.zero_le _⟩) hS (fun q _ h => hFc q h) hFc (fun u t H1 locs ht hvm hw hB hz1 hk1 hS => ?_)
  subst hw
  obtain ⟨hP1, hK1, hD1⟩ := hB
  rw [ht] at hP1
  exact kk H1 locs hP1 (hD1.weaken (fun _ _ _ h => hFc _ h)) hS
theorem zt_f_X9_19 : Cond.fieldLink RX9 19 "ModalDesk$Writer" "stock" "LModalDesk$Stock;" ∈ mq_T := mq_T_mem (mq_t1 (List.mem_of_getElem? (i := 181) rfl)) rfl
theorem zt_m_X9_52 : Cond.methodLink RX9 52 yX7_firstOf ∈ mq_T := mq_T_mem (mq_t3 (List.mem_of_getElem? (i := 212) rfl)) rfl
theorem zt_m_X9_33 : Cond.methodLink RX9 33 yX9_enter ∈ mq_T := mq_T_mem (mq_t3 (List.mem_of_getElem? (i := 201) rfl)) rfl
/-! ModalDesk$Writer.goOnWithOne(III)V -/
def zr_X9_goOnWithOne : Room := { frames := 3, cells := 0, slots := 0, locals := 65 }
def zc_X9_goOnWithOne : Cond := .code yX9_goOnWithOne cX9_goOnWithOne 4 none
def zf_X9_goOnWithOne_35 (N : Nat) (z : Nat → Nat) (v1 : Int32) (t1 : Int32) (S : mq_St) : Option (Unit × mq_St) := (mq_cl (zf_X9_emit N z (t1) S) (fun q8v S10 => (mq_cp (zf_X7_firstOf N z (v1) S10) (fun q11 => (mq_cl (zf_X9_enter N z (q11) S10) (fun q13v S15 => (some ((), S15))))))))
def zf_X9_goOnWithOne_18 (N : Nat) (z : Nat → Nat) (v1 : Int32) (v2 : Int32) (t1 : Int32) (S : mq_St) : Option (Unit × mq_St) := (mq_cl (zf_X9_emit N z (t1) S) (fun q4v S6 => (if v2 = (6 : Int32) then (zf_X9_goOnWithOne_35 N z (v1) ((93 : Int32)) S6) else (zf_X9_goOnWithOne_35 N z (v1) ((62 : Int32)) S6))))
def zf_X9_goOnWithOne (N : Nat) (z : Nat → Nat) (v1 : Int32) (v2 : Int32) (v3 : Int32) (S : mq_St) : Option (Unit × mq_St) := (if v3 = (0 : Int32) then (if v2 = (6 : Int32) then (zf_X9_goOnWithOne_18 N z (v1) (v2) ((91 : Int32)) S) else (zf_X9_goOnWithOne_18 N z (v1) (v2) ((60 : Int32)) S)) else (mq_nS (mq_si S 13 (((S.1 13) - (1 : Int32)))) (fun S1 => (some ((), S1)))))
set_option maxHeartbeats 4000000 in
set_option maxRecDepth 100000 in
theorem zw_X9_goOnWithOne_35 {p : Program} {l : Launch} {e : Env} {s : State} {m : MethodId} {args : Array Value} {below : List Frame} {meth : Method} {c : Code} {A : Nat → Prop} {D : va_G} {a z : Nat → Nat} {cI cL cB cZ : ClassId} {Q : State → Prop} {N : Nat} {res : Unit × mq_St} (C : mq_C p s m args c A D cI cL cB cZ cX9_goOnWithOne 4 RX9 zc_X9_goOnWithOne) (hret : ∀ (H : Heap) (locs : List Loc) (ls : Array Slot) (pc : Nat), decode cX9_goOnWithOne pc = .ok (.return_, 1) → va_P D vwCl (wd_C a cI cL cB cZ z res.2) H → va_D A (wd_C a cI cL cB cZ z res.2) → va_S A s.heap H locs → W p l e zr_X9_goOnWithOne s m args below meth c H locs 0 0 Q (F0 m pc ls [])) (v1 : Int32) (t1 : Int32) (S : mq_St) (H : Heap) (locs : List Loc) (ls : Array Slot) (h : zf_X9_goOnWithOne_35 N z v1 t1 S = some res) (hl : lv_has ls 4 [(0, .ref (a 23)), (1, .int (v1))]) (hP : va_P D vwCl (wd_C a cI cL cB cZ z S) H) (hD : va_D A (wd_C a cI cL cB cZ z S)) (hS : va_S A s.heap H locs) : W p l e zr_X9_goOnWithOne s m args below meth c H locs 0 0 Q (F0 m 35 ls [.int (t1), .ref (a 23)]) := by
  obtain ⟨hx, hb, hml, hown, hts, hK, hA⟩ := id C
  unfold zf_X9_goOnWithOne_35 at h
  obtain ⟨q8, hc9, h⟩ := mq_cl_go h
  refine zk_X9_emit C zt_m_X9_65 ⟨by decide, by decide⟩ hc9 hP hD hS hl.1 (Nat.le_of_ble_eq_true rfl) dX9_goOnWithOne_35 (fun H locs hP hD hS => ?_)
  obtain ⟨S10, eS10⟩ : ∃ y, y = q8.2 := ⟨_, rfl⟩
  rw [← eS10] at hP hD h
  refine lv_aload_n hx hb dX9_goOnWithOne_38 rfl (lv_at hl 0 rfl) ?_
  refine lv_aload_n hx hb dX9_goOnWithOne_39 rfl (lv_at hl 0 rfl) ?_
  refine va_get (D := D) (ci := 9) (v := .ref (a 7)) (C := RX9) (T := TX9) (N := 4) hx hb hts (zi_X9 _) hown hK hP 23 rfl rfl 1 (by decide) (hts _ (List.mem_cons_of_mem _ zt_f_X9_19)) (fun _ h9 => h9) rfl dX9_goOnWithOne_40 ?_
  refine lv_iload_n hx hb dX9_goOnWithOne_43 rfl (lv_at hl 1 rfl) ?_
  obtain ⟨q11, hc12, h⟩ := mq_cp_go h
  refine zk_X7_firstOf C zt_m_X9_52 ⟨by decide, by decide⟩ hc12 hP hD hS hl.1 (Nat.le_of_ble_eq_true rfl) dX9_goOnWithOne_44 (fun H locs hP hD hS => ?_)
  obtain ⟨q13, hc14, h⟩ := mq_cl_go h
  refine zk_X9_enter C zt_m_X9_33 ⟨by decide, by decide⟩ hc14 hP hD hS hl.1 (Nat.le_of_ble_eq_true rfl) dX9_goOnWithOne_47 (fun H locs hP hD hS => ?_)
  obtain ⟨S15, eS15⟩ : ∃ y, y = q13.2 := ⟨_, rfl⟩
  rw [← eS15] at hP hD h
  refine lv_goto (tgt := 63) hx hb dX9_goOnWithOne_50 (by decide) ?_
  cases h
  exact hret H locs ls 63 dX9_goOnWithOne_63 hP hD hS
set_option maxHeartbeats 4000000 in
set_option maxRecDepth 100000 in
theorem zw_X9_goOnWithOne_18 {p : Program} {l : Launch} {e : Env} {s : State} {m : MethodId} {args : Array Value} {below : List Frame} {meth : Method} {c : Code} {A : Nat → Prop} {D : va_G} {a z : Nat → Nat} {cI cL cB cZ : ClassId} {Q : State → Prop} {N : Nat} {res : Unit × mq_St} (C : mq_C p s m args c A D cI cL cB cZ cX9_goOnWithOne 4 RX9 zc_X9_goOnWithOne) (hret : ∀ (H : Heap) (locs : List Loc) (ls : Array Slot) (pc : Nat), decode cX9_goOnWithOne pc = .ok (.return_, 1) → va_P D vwCl (wd_C a cI cL cB cZ z res.2) H → va_D A (wd_C a cI cL cB cZ z res.2) → va_S A s.heap H locs → W p l e zr_X9_goOnWithOne s m args below meth c H locs 0 0 Q (F0 m pc ls [])) (v1 : Int32) (v2 : Int32) (t1 : Int32) (S : mq_St) (H : Heap) (locs : List Loc) (ls : Array Slot) (h : zf_X9_goOnWithOne_18 N z v1 v2 t1 S = some res) (hl : lv_has ls 4 [(0, .ref (a 23)), (1, .int (v1)), (2, .int (v2))]) (hP : va_P D vwCl (wd_C a cI cL cB cZ z S) H) (hD : va_D A (wd_C a cI cL cB cZ z S)) (hS : va_S A s.heap H locs) : W p l e zr_X9_goOnWithOne s m args below meth c H locs 0 0 Q (F0 m 18 ls [.int (t1), .ref (a 23)]) := by
  obtain ⟨hx, hb, hml, hown, hts, hK, hA⟩ := id C
  unfold zf_X9_goOnWithOne_18 at h
  obtain ⟨q4, hc5, h⟩ := mq_cl_go h
  refine zk_X9_emit C zt_m_X9_65 ⟨by decide, by decide⟩ hc5 hP hD hS hl.1 (Nat.le_of_ble_eq_true rfl) dX9_goOnWithOne_18 (fun H locs hP hD hS => ?_)
  obtain ⟨S6, eS6⟩ : ∃ y, y = q4.2 := ⟨_, rfl⟩
  rw [← eS6] at hP hD h
  refine lv_aload_n hx hb dX9_goOnWithOne_21 rfl (lv_at hl 0 rfl) ?_
  refine lv_iload_n hx hb dX9_goOnWithOne_22 rfl (lv_at hl 2 rfl) ?_
  refine lv_bipush (v := (6 : Int32)) hx hb dX9_goOnWithOne_23 (by decide) ?_
  refine lv_icmp_ne (tgt := 33) hx hb dX9_goOnWithOne_25 (by decide) (fun c7 => ?_) (fun c7 => ?_)
  · replace h := mq_if c7 h
    refine lv_bipush (v := (62 : Int32)) hx hb dX9_goOnWithOne_33 (by decide) ?_
    exact zw_X9_goOnWithOne_35 C hret (v1) ((62 : Int32)) S6 H locs ls h (lv_sub hl [0, 1] rfl) hP hD hS
  · replace h := mq_it (by simpa using c7) h
    refine lv_bipush (v := (93 : Int32)) hx hb dX9_goOnWithOne_28 (by decide) ?_
    refine lv_goto (tgt := 35) hx hb dX9_goOnWithOne_30 (by decide) ?_
    exact zw_X9_goOnWithOne_35 C hret (v1) ((93 : Int32)) S6 H locs ls h (lv_sub hl [0, 1] rfl) hP hD hS
set_option maxHeartbeats 4000000 in
set_option maxRecDepth 100000 in
theorem zw_X9_goOnWithOne_0 {p : Program} {l : Launch} {e : Env} {s : State} {m : MethodId} {args : Array Value} {below : List Frame} {meth : Method} {c : Code} {A : Nat → Prop} {D : va_G} {a z : Nat → Nat} {cI cL cB cZ : ClassId} {Q : State → Prop} {N : Nat} {res : Unit × mq_St} (C : mq_C p s m args c A D cI cL cB cZ cX9_goOnWithOne 4 RX9 zc_X9_goOnWithOne) (hret : ∀ (H : Heap) (locs : List Loc) (ls : Array Slot) (pc : Nat), decode cX9_goOnWithOne pc = .ok (.return_, 1) → va_P D vwCl (wd_C a cI cL cB cZ z res.2) H → va_D A (wd_C a cI cL cB cZ z res.2) → va_S A s.heap H locs → W p l e zr_X9_goOnWithOne s m args below meth c H locs 0 0 Q (F0 m pc ls [])) (v1 : Int32) (v2 : Int32) (v3 : Int32) (S : mq_St) (H : Heap) (locs : List Loc) (ls : Array Slot) (h : zf_X9_goOnWithOne N z v1 v2 v3 S = some res) (hl : lv_has ls 4 [(0, .ref (a 23)), (1, .int (v1)), (2, .int (v2)), (3, .int (v3))]) (hP : va_P D vwCl (wd_C a cI cL cB cZ z S) H) (hD : va_D A (wd_C a cI cL cB cZ z S)) (hS : va_S A s.heap H locs) : W p l e zr_X9_goOnWithOne s m args below meth c H locs 0 0 Q (F0 m 0 ls []) := by
  obtain ⟨hx, hb, hml, hown, hts, hK, hA⟩ := id C
  unfold zf_X9_goOnWithOne at h
  refine lv_iload_n hx hb dX9_goOnWithOne_0 rfl (lv_at hl 3 rfl) ?_
  refine lv_if_ne (tgt := 53) hx hb dX9_goOnWithOne_1 (by decide) (fun c3 => ?_) (fun c3 => ?_)
  · replace h := mq_if c3 h
    refine lv_aload_n hx hb dX9_goOnWithOne_53 rfl (lv_at hl 0 rfl) ?_
    refine lv_dup hx hb dX9_goOnWithOne_54 rfl ?_
    refine va_get (D := D) (ci := 9) (v := .int ((S.1 13))) (C := RX9) (T := TX9) (N := 4) hx hb hts (zi_X9 _) hown hK hP 23 rfl rfl 3 (by decide) (hts _ (List.mem_cons_of_mem _ zt_f_X9_29)) (fun _ h9 => h9) rfl dX9_goOnWithOne_55 ?_
    refine lv_iconst (v := (1 : Int32)) hx hb dX9_goOnWithOne_58 (by decide) ?_
    refine lv_isub hx hb dX9_goOnWithOne_59 ?_
    refine mq_put (w := wd_C a cI cL cB cZ z) (S := S) (D := D) (ci := 9) (v := ((S.1 13) - (1 : Int32))) (ty := .int) (C := RX9) (T := TX9) (N := 4) hx hb hts (zi_X9 _) tyX9 tyX9_ok nmX9 hown hK hP hD hS 23 rfl rfl 3 (by decide) (hts _ (List.mem_cons_of_mem _ zt_f_X9_29)) (fun _ h9 => h9) rfl (by decide +kernel) rfl rfl (Nat.le_of_ble_eq_true rfl) dX9_goOnWithOne_60 13 (zs_wd_C_i_23_13 _ _ _ _ _ _ _ _) (fun S1 eS1 H locs hP hD hS => ?_)
    replace h := mq_nS_go eS1 h
    cases h
    exact hret H locs ls 63 dX9_goOnWithOne_63 hP hD hS
  · replace h := mq_it (by simpa using c3) h
    refine lv_aload_n hx hb dX9_goOnWithOne_4 rfl (lv_at hl 0 rfl) ?_
    refine lv_iload_n hx hb dX9_goOnWithOne_5 rfl (lv_at hl 2 rfl) ?_
    refine lv_bipush (v := (6 : Int32)) hx hb dX9_goOnWithOne_6 (by decide) ?_
    refine lv_icmp_ne (tgt := 16) hx hb dX9_goOnWithOne_8 (by decide) (fun c2 => ?_) (fun c2 => ?_)
    · replace h := mq_if c2 h
      refine lv_bipush (v := (60 : Int32)) hx hb dX9_goOnWithOne_16 (by decide) ?_
      exact zw_X9_goOnWithOne_18 C hret (v1) (v2) ((60 : Int32)) S H locs ls h (lv_sub hl [0, 1, 2] rfl) hP hD hS
    · replace h := mq_it (by simpa using c2) h
      refine lv_bipush (v := (91 : Int32)) hx hb dX9_goOnWithOne_11 (by decide) ?_
      refine lv_goto (tgt := 18) hx hb dX9_goOnWithOne_13 (by decide) ?_
      exact zw_X9_goOnWithOne_18 C hret (v1) (v2) ((91 : Int32)) S H locs ls h (lv_sub hl [0, 1, 2] rfl) hP hD hS
set_option maxHeartbeats 4000000 in
set_option maxRecDepth 100000 in
theorem zm_X9_goOnWithOne (l : Launch) (D : va_G) (a z : Nat → Nat) (cI cL cB cZ : ClassId) (sz N : Nat) (v1 : Int32) (v2 : Int32) (v3 : Int32) (S : mq_St) (res : Unit × mq_St) (h : zf_X9_goOnWithOne N z v1 v2 v3 S = some res) : Met l yX9_goOnWithOne (zc_X9_goOnWithOne :: mq_T) zr_X9_goOnWithOne (va_Pc [.ref (a 23), .int (v1), .int (v2), .int (v3)] (fun U => U.heap.size = sz ∧ va_P D vwCl (wd_C a cI cL cB cZ z S) U.heap ∧ va_K D vwCl (mq_tys cI cL cB cZ) U ∧ va_D (fun _ => True) (wd_C a cI cL cB cZ z S))) (va_Qv (fun u : mq_St => u = res.2) (fun u t => va_P D vwCl (wd_C a cI cL cB cZ z u) t.heap ∧ va_K D vwCl (mq_tys cI cL cB cZ) t ∧ va_D (va_A (wd_C a cI cL cB cZ z S) sz) (wd_C a cI cL cB cZ z u)) (va_A (wd_C a cI cL cB cZ z S) sz)) 0 0 (va_A (wd_C a cI cL cB cZ z S) sz) := by
  refine Met.ofW (cc := cX9_goOnWithOne) (maxL := 4) (ret := none) (by decide) rfl ?_
  intro p e s m args below meth c s₁ B hml hv
  obtain ⟨rfl, hsz, hP, hK, hD0⟩ := hv
  have hr := B.returns
  have hlocks := B.notSynchronized
  have hts := atoms_spec (ws := zc_X9_goOnWithOne :: mq_T) B.pre
  have hown : s.vm.findClass RX9 = some m.cls := findClass_of_methodNamed B.named
  subst hsz
  have hD := hD0.self (sz := s.heap.size)
  generalize hAe : va_A (wd_C a cI cL cB cZ z S) s.heap.size = A at hD ⊢
  have hA : ∀ q : Nat, s.heap.size ≤ q → A q := fun q h => by rw [← hAe]; exact Or.inr h
  have hl := lv_entry ([.ref (a 23), .int (v1), .int (v2), .int (v3)]) (n := 4) (Nat.le_of_ble_eq_true rfl)
  rw [lg_entry_eq]
  generalize (lg_sl ([.ref (a 23), .int (v1), .int (v2), .int (v3)]) ++ List.replicate (4 - (lg_sl ([.ref (a 23), .int (v1), .int (v2), .int (v3)])).length) Slot.unset).toArray = ls at hl ⊢
  have hl : lv_has ls 4 [(0, .ref (a 23)), (1, .int (v1)), (2, .int (v2)), (3, .int (v3))] := hl
  refine zw_X9_goOnWithOne_0 (A := A) ⟨B.exec, B.bytes, hml, hown, hts, hK, hA⟩ (fun H locs ls pc dg hP hD hS => ?_) v1 v2 v3 S s.heap [] ls h hl hP hD va_S.rf
  exact W.vret B.exec B.bytes hr (fun t ht hW => ⟨⟨_, rfl, rfl, by rw [ht]; exact hP, va_K.moved hW.alike hK, hD⟩, hS.F ht⟩) hS.2.2 dg
theorem zt_X9_goOnWithOne_c : zc_X9_goOnWithOne ∈ mq_T := mq_T_mem (mq_t3 (List.mem_of_getElem? (i := 225) rfl)) rfl
theorem zt_X9_goOnWithOne_i : Cond.instanceMethod yX9_goOnWithOne ∈ mq_T := mq_T_mem (mq_t3 (List.mem_of_getElem? (i := 224) rfl)) rfl
theorem zt_X9_goOnWithOne_s : Cond.selects RX9 yX9_goOnWithOne yX9_goOnWithOne ∈ mq_T := mq_T_at 32 (by decide +kernel)
set_option maxHeartbeats 4000000 in
theorem zk_X9_goOnWithOne {p : Program} {l : Launch} {e : Env} {R : Room} {s : State} {m : MethodId} {args : Array Value} {below : List Frame} {meth : Method} {c : Code} {A : Nat → Prop} {D : va_G} {a z : Nat → Nat} {cI cL cB cZ : ClassId} {Q : State → Prop} {cc : ByteArray} {nL idx pc N : Nat} {own : String} {c1 : Cond} {H : Heap} {locs : List Loc} {ls : Array Slot} {rest : List Value} {S : mq_St} {res : Unit × mq_St} {v1 : Int32} {v2 : Int32} {v3 : Int32} (C : mq_C p s m args c A D cI cL cB cZ cc nL own c1) (hlk : Cond.methodLink own idx yX9_goOnWithOne ∈ mq_T) (hR : zr_X9_goOnWithOne.frames + 1 ≤ R.frames ∧ 8 + (4 + 11) + zr_X9_goOnWithOne.locals ≤ R.locals) (h : zf_X9_goOnWithOne N z v1 v2 v3 S = some res) (hP : va_P D vwCl (wd_C a cI cL cB cZ z S) H) (hD : va_D A (wd_C a cI cL cB cZ z S)) (hS : va_S A s.heap H locs) (hls : ls.size = nL) (hrest : (rest.map fun v => v.category).sum ≤ 8) (hdg : decode cc pc = .ok (.invokevirtual idx, 3)) (kk : ∀ (H1 : Heap) (locs1 : List Loc), va_P D vwCl (wd_C a cI cL cB cZ z res.2) H1 → va_D A (wd_C a cI cL cB cZ z res.2) → va_S A s.heap H1 locs1 → W p l e R s m args below meth c H1 locs1 0 0 Q (F0 m (pc + 3) ls rest)) : W p l e R s m args below meth c H locs 0 0 Q (F0 m pc ls (.int (v3) :: .int (v2) :: .int (v1) :: .ref (a 23) :: rest)) := by
  obtain ⟨hx, hb, hml, hown, hts, hK, hA⟩ := C
  have hFc := mq_freeI hD hS hA
  refine va_callv (va_runV (As := [.int (v1), .int (v2), .int (v3)]) (rest := rest) ⟨hx, hb, hml, hown, hts⟩ (zm_X9_goOnWithOne l D a z cI cL cB cZ H.size N v1 v2 v3 S res h) (cwV 3 hts (mq_goodL (mq_wsV hlk zt_X9_goOnWithOne_i zt_X9_goOnWithOne_s zt_ini_X9 zt_X9_goOnWithOne_c)) rfl rfl rfl (by decide +kernel) hR) ⟨fun a U g mk q => ⟨q.1, q.2.1, q.2.2.1, va_K.moved (u := U) (U := U.calling g mk a) (Vm.Alike.refl U.vm) q.2.2.2.1, q.2.2.2.2⟩, zy_C_23 hK hP, fun U hU hW => ⟨rfl, by rw [hU], by rw [hU]; exact hP, va_K.moved hW.alike hK, hD.weaken (fun _ _ _ _ => trivial)⟩⟩ rfl rfl hls rfl (lv_room hrest) hdg ⟨Nat.zero_le _, Nat.zero_le _⟩) hS (fun q _ h => hFc q h) hFc (fun u t H1 locs ht hvm hw hB hz1 hk1 hS => ?_)
  subst hw
  obtain ⟨hP1, hK1, hD1⟩ := hB
  rw [ht] at hP1
  exact kk H1 locs hP1 (hD1.weaken (fun _ _ _ h => hFc _ h)) hS
theorem zt_m_X9_68 : Cond.methodLink RX9 68 yX7_secondOf ∈ mq_T := mq_T_mem (mq_t3 (List.mem_of_getElem? (i := 230) rfl)) rfl
/-! ModalDesk$Writer.goOnWithTwo(III)V -/
def zr_X9_goOnWithTwo : Room := { frames := 3, cells := 0, slots := 0, locals := 65 }
def zc_X9_goOnWithTwo : Cond := .code yX9_goOnWithTwo cX9_goOnWithTwo 4 none
def zf_X9_goOnWithTwo_43 (N : Nat) (z : Nat → Nat) (v1 : Int32) (t1 : Int32) (S : mq_St) : Option (Unit × mq_St) := (mq_cl (zf_X9_emit N z (t1) S) (fun q16v S18 => (mq_cp (zf_X7_secondOf N z (v1) S18) (fun q19 => (mq_cl (zf_X9_enter N z (q19) S18) (fun q21v S23 => (some ((), S23))))))))
def zf_X9_goOnWithTwo (N : Nat) (z : Nat → Nat) (v1 : Int32) (v2 : Int32) (v3 : Int32) (S : mq_St) : Option (Unit × mq_St) := (if v3 = (0 : Int32) then (mq_cl (zf_X9_emit N z ((40 : Int32)) S) (fun q7v S9 => (mq_cp (zf_X7_firstOf N z (v1) S9) (fun q10 => (mq_cl (zf_X9_enter N z (q10) S9) (fun q12v S14 => (some ((), S14)))))))) else (if v3 = (1 : Int32) then (if v2 = (4 : Int32) then (zf_X9_goOnWithTwo_43 N z (v1) ((38 : Int32)) S) else (zf_X9_goOnWithTwo_43 N z (v1) ((124 : Int32)) S)) else (mq_cl (zf_X9_emit N z ((41 : Int32)) S) (fun q1v S3 => (mq_nS (mq_si S3 13 (((S3.1 13) - (1 : Int32)))) (fun S4 => (some ((), S4))))))))
set_option maxHeartbeats 4000000 in
set_option maxRecDepth 100000 in
theorem zw_X9_goOnWithTwo_43 {p : Program} {l : Launch} {e : Env} {s : State} {m : MethodId} {args : Array Value} {below : List Frame} {meth : Method} {c : Code} {A : Nat → Prop} {D : va_G} {a z : Nat → Nat} {cI cL cB cZ : ClassId} {Q : State → Prop} {N : Nat} {res : Unit × mq_St} (C : mq_C p s m args c A D cI cL cB cZ cX9_goOnWithTwo 4 RX9 zc_X9_goOnWithTwo) (hret : ∀ (H : Heap) (locs : List Loc) (ls : Array Slot) (pc : Nat), decode cX9_goOnWithTwo pc = .ok (.return_, 1) → va_P D vwCl (wd_C a cI cL cB cZ z res.2) H → va_D A (wd_C a cI cL cB cZ z res.2) → va_S A s.heap H locs → W p l e zr_X9_goOnWithTwo s m args below meth c H locs 0 0 Q (F0 m pc ls [])) (v1 : Int32) (t1 : Int32) (S : mq_St) (H : Heap) (locs : List Loc) (ls : Array Slot) (h : zf_X9_goOnWithTwo_43 N z v1 t1 S = some res) (hl : lv_has ls 4 [(0, .ref (a 23)), (1, .int (v1))]) (hP : va_P D vwCl (wd_C a cI cL cB cZ z S) H) (hD : va_D A (wd_C a cI cL cB cZ z S)) (hS : va_S A s.heap H locs) : W p l e zr_X9_goOnWithTwo s m args below meth c H locs 0 0 Q (F0 m 43 ls [.int (t1), .ref (a 23)]) := by
  obtain ⟨hx, hb, hml, hown, hts, hK, hA⟩ := id C
  unfold zf_X9_goOnWithTwo_43 at h
  obtain ⟨q16, hc17, h⟩ := mq_cl_go h
  refine zk_X9_emit C zt_m_X9_65 ⟨by decide, by decide⟩ hc17 hP hD hS hl.1 (Nat.le_of_ble_eq_true rfl) dX9_goOnWithTwo_43 (fun H locs hP hD hS => ?_)
  obtain ⟨S18, eS18⟩ : ∃ y, y = q16.2 := ⟨_, rfl⟩
  rw [← eS18] at hP hD h
  refine lv_aload_n hx hb dX9_goOnWithTwo_46 rfl (lv_at hl 0 rfl) ?_
  refine lv_aload_n hx hb dX9_goOnWithTwo_47 rfl (lv_at hl 0 rfl) ?_
  refine va_get (D := D) (ci := 9) (v := .ref (a 7)) (C := RX9) (T := TX9) (N := 4) hx hb hts (zi_X9 _) hown hK hP 23 rfl rfl 1 (by decide) (hts _ (List.mem_cons_of_mem _ zt_f_X9_19)) (fun _ h9 => h9) rfl dX9_goOnWithTwo_48 ?_
  refine lv_iload_n hx hb dX9_goOnWithTwo_51 rfl (lv_at hl 1 rfl) ?_
  obtain ⟨q19, hc20, h⟩ := mq_cp_go h
  refine zk_X7_secondOf C zt_m_X9_68 ⟨by decide, by decide⟩ hc20 hP hD hS hl.1 (Nat.le_of_ble_eq_true rfl) dX9_goOnWithTwo_52 (fun H locs hP hD hS => ?_)
  obtain ⟨q21, hc22, h⟩ := mq_cl_go h
  refine zk_X9_enter C zt_m_X9_33 ⟨by decide, by decide⟩ hc22 hP hD hS hl.1 (Nat.le_of_ble_eq_true rfl) dX9_goOnWithTwo_55 (fun H locs hP hD hS => ?_)
  obtain ⟨S23, eS23⟩ : ∃ y, y = q21.2 := ⟨_, rfl⟩
  rw [← eS23] at hP hD h
  refine lv_goto (tgt := 77) hx hb dX9_goOnWithTwo_58 (by decide) ?_
  cases h
  exact hret H locs ls 77 dX9_goOnWithTwo_77 hP hD hS
set_option maxHeartbeats 4000000 in
set_option maxRecDepth 100000 in
theorem zw_X9_goOnWithTwo_0 {p : Program} {l : Launch} {e : Env} {s : State} {m : MethodId} {args : Array Value} {below : List Frame} {meth : Method} {c : Code} {A : Nat → Prop} {D : va_G} {a z : Nat → Nat} {cI cL cB cZ : ClassId} {Q : State → Prop} {N : Nat} {res : Unit × mq_St} (C : mq_C p s m args c A D cI cL cB cZ cX9_goOnWithTwo 4 RX9 zc_X9_goOnWithTwo) (hret : ∀ (H : Heap) (locs : List Loc) (ls : Array Slot) (pc : Nat), decode cX9_goOnWithTwo pc = .ok (.return_, 1) → va_P D vwCl (wd_C a cI cL cB cZ z res.2) H → va_D A (wd_C a cI cL cB cZ z res.2) → va_S A s.heap H locs → W p l e zr_X9_goOnWithTwo s m args below meth c H locs 0 0 Q (F0 m pc ls [])) (v1 : Int32) (v2 : Int32) (v3 : Int32) (S : mq_St) (H : Heap) (locs : List Loc) (ls : Array Slot) (h : zf_X9_goOnWithTwo N z v1 v2 v3 S = some res) (hl : lv_has ls 4 [(0, .ref (a 23)), (1, .int (v1)), (2, .int (v2)), (3, .int (v3))]) (hP : va_P D vwCl (wd_C a cI cL cB cZ z S) H) (hD : va_D A (wd_C a cI cL cB cZ z S)) (hS : va_S A s.heap H locs) : W p l e zr_X9_goOnWithTwo s m args below meth c H locs 0 0 Q (F0 m 0 ls []) := by
  obtain ⟨hx, hb, hml, hown, hts, hK, hA⟩ := id C
  unfold zf_X9_goOnWithTwo at h
  refine lv_iload_n hx hb dX9_goOnWithTwo_0 rfl (lv_at hl 3 rfl) ?_
  refine lv_if_ne (tgt := 25) hx hb dX9_goOnWithTwo_1 (by decide) (fun c15 => ?_) (fun c15 => ?_)
  · replace h := mq_if c15 h
    refine lv_iload_n hx hb dX9_goOnWithTwo_25 rfl (lv_at hl 3 rfl) ?_
    refine lv_iconst (v := (1 : Int32)) hx hb dX9_goOnWithTwo_26 (by decide) ?_
    refine lv_icmp_ne (tgt := 61) hx hb dX9_goOnWithTwo_27 (by decide) (fun c6 => ?_) (fun c6 => ?_)
    · replace h := mq_if c6 h
      refine lv_aload_n hx hb dX9_goOnWithTwo_61 rfl (lv_at hl 0 rfl) ?_
      refine lv_bipush (v := (41 : Int32)) hx hb dX9_goOnWithTwo_62 (by decide) ?_
      obtain ⟨q1, hc2, h⟩ := mq_cl_go h
      refine zk_X9_emit C zt_m_X9_65 ⟨by decide, by decide⟩ hc2 hP hD hS hl.1 (Nat.le_of_ble_eq_true rfl) dX9_goOnWithTwo_64 (fun H locs hP hD hS => ?_)
      obtain ⟨S3, eS3⟩ : ∃ y, y = q1.2 := ⟨_, rfl⟩
      rw [← eS3] at hP hD h
      refine lv_aload_n hx hb dX9_goOnWithTwo_67 rfl (lv_at hl 0 rfl) ?_
      refine lv_dup hx hb dX9_goOnWithTwo_68 rfl ?_
      refine va_get (D := D) (ci := 9) (v := .int ((S3.1 13))) (C := RX9) (T := TX9) (N := 4) hx hb hts (zi_X9 _) hown hK hP 23 rfl rfl 3 (by decide) (hts _ (List.mem_cons_of_mem _ zt_f_X9_29)) (fun _ h9 => h9) rfl dX9_goOnWithTwo_69 ?_
      refine lv_iconst (v := (1 : Int32)) hx hb dX9_goOnWithTwo_72 (by decide) ?_
      refine lv_isub hx hb dX9_goOnWithTwo_73 ?_
      refine mq_put (w := wd_C a cI cL cB cZ z) (S := S3) (D := D) (ci := 9) (v := ((S3.1 13) - (1 : Int32))) (ty := .int) (C := RX9) (T := TX9) (N := 4) hx hb hts (zi_X9 _) tyX9 tyX9_ok nmX9 hown hK hP hD hS 23 rfl rfl 3 (by decide) (hts _ (List.mem_cons_of_mem _ zt_f_X9_29)) (fun _ h9 => h9) rfl (by decide +kernel) rfl rfl (Nat.le_of_ble_eq_true rfl) dX9_goOnWithTwo_74 13 (zs_wd_C_i_23_13 _ _ _ _ _ _ _ _) (fun S4 eS4 H locs hP hD hS => ?_)
      replace h := mq_nS_go eS4 h
      cases h
      exact hret H locs ls 77 dX9_goOnWithTwo_77 hP hD hS
    · replace h := mq_it (by simpa using c6) h
      refine lv_aload_n hx hb dX9_goOnWithTwo_30 rfl (lv_at hl 0 rfl) ?_
      refine lv_iload_n hx hb dX9_goOnWithTwo_31 rfl (lv_at hl 2 rfl) ?_
      refine lv_iconst (v := (4 : Int32)) hx hb dX9_goOnWithTwo_32 (by decide) ?_
      refine lv_icmp_ne (tgt := 41) hx hb dX9_goOnWithTwo_33 (by decide) (fun c5 => ?_) (fun c5 => ?_)
      · replace h := mq_if c5 h
        refine lv_bipush (v := (124 : Int32)) hx hb dX9_goOnWithTwo_41 (by decide) ?_
        exact zw_X9_goOnWithTwo_43 C hret (v1) ((124 : Int32)) S H locs ls h (lv_sub hl [0, 1] rfl) hP hD hS
      · replace h := mq_it (by simpa using c5) h
        refine lv_bipush (v := (38 : Int32)) hx hb dX9_goOnWithTwo_36 (by decide) ?_
        refine lv_goto (tgt := 43) hx hb dX9_goOnWithTwo_38 (by decide) ?_
        exact zw_X9_goOnWithTwo_43 C hret (v1) ((38 : Int32)) S H locs ls h (lv_sub hl [0, 1] rfl) hP hD hS
  · replace h := mq_it (by simpa using c15) h
    refine lv_aload_n hx hb dX9_goOnWithTwo_4 rfl (lv_at hl 0 rfl) ?_
    refine lv_bipush (v := (40 : Int32)) hx hb dX9_goOnWithTwo_5 (by decide) ?_
    obtain ⟨q7, hc8, h⟩ := mq_cl_go h
    refine zk_X9_emit C zt_m_X9_65 ⟨by decide, by decide⟩ hc8 hP hD hS hl.1 (Nat.le_of_ble_eq_true rfl) dX9_goOnWithTwo_7 (fun H locs hP hD hS => ?_)
    obtain ⟨S9, eS9⟩ : ∃ y, y = q7.2 := ⟨_, rfl⟩
    rw [← eS9] at hP hD h
    refine lv_aload_n hx hb dX9_goOnWithTwo_10 rfl (lv_at hl 0 rfl) ?_
    refine lv_aload_n hx hb dX9_goOnWithTwo_11 rfl (lv_at hl 0 rfl) ?_
    refine va_get (D := D) (ci := 9) (v := .ref (a 7)) (C := RX9) (T := TX9) (N := 4) hx hb hts (zi_X9 _) hown hK hP 23 rfl rfl 1 (by decide) (hts _ (List.mem_cons_of_mem _ zt_f_X9_19)) (fun _ h9 => h9) rfl dX9_goOnWithTwo_12 ?_
    refine lv_iload_n hx hb dX9_goOnWithTwo_15 rfl (lv_at hl 1 rfl) ?_
    obtain ⟨q10, hc11, h⟩ := mq_cp_go h
    refine zk_X7_firstOf C zt_m_X9_52 ⟨by decide, by decide⟩ hc11 hP hD hS hl.1 (Nat.le_of_ble_eq_true rfl) dX9_goOnWithTwo_16 (fun H locs hP hD hS => ?_)
    obtain ⟨q12, hc13, h⟩ := mq_cl_go h
    refine zk_X9_enter C zt_m_X9_33 ⟨by decide, by decide⟩ hc13 hP hD hS hl.1 (Nat.le_of_ble_eq_true rfl) dX9_goOnWithTwo_19 (fun H locs hP hD hS => ?_)
    obtain ⟨S14, eS14⟩ : ∃ y, y = q12.2 := ⟨_, rfl⟩
    rw [← eS14] at hP hD h
    refine lv_goto (tgt := 77) hx hb dX9_goOnWithTwo_22 (by decide) ?_
    cases h
    exact hret H locs ls 77 dX9_goOnWithTwo_77 hP hD hS
set_option maxHeartbeats 4000000 in
set_option maxRecDepth 100000 in
theorem zm_X9_goOnWithTwo (l : Launch) (D : va_G) (a z : Nat → Nat) (cI cL cB cZ : ClassId) (sz N : Nat) (v1 : Int32) (v2 : Int32) (v3 : Int32) (S : mq_St) (res : Unit × mq_St) (h : zf_X9_goOnWithTwo N z v1 v2 v3 S = some res) : Met l yX9_goOnWithTwo (zc_X9_goOnWithTwo :: mq_T) zr_X9_goOnWithTwo (va_Pc [.ref (a 23), .int (v1), .int (v2), .int (v3)] (fun U => U.heap.size = sz ∧ va_P D vwCl (wd_C a cI cL cB cZ z S) U.heap ∧ va_K D vwCl (mq_tys cI cL cB cZ) U ∧ va_D (fun _ => True) (wd_C a cI cL cB cZ z S))) (va_Qv (fun u : mq_St => u = res.2) (fun u t => va_P D vwCl (wd_C a cI cL cB cZ z u) t.heap ∧ va_K D vwCl (mq_tys cI cL cB cZ) t ∧ va_D (va_A (wd_C a cI cL cB cZ z S) sz) (wd_C a cI cL cB cZ z u)) (va_A (wd_C a cI cL cB cZ z S) sz)) 0 0 (va_A (wd_C a cI cL cB cZ z S) sz) := by
  refine Met.ofW (cc := cX9_goOnWithTwo) (maxL := 4) (ret := none) (by decide) rfl ?_
  intro p e s m args below meth c s₁ B hml hv
  obtain ⟨rfl, hsz, hP, hK, hD0⟩ := hv
  have hr := B.returns
  have hlocks := B.notSynchronized
  have hts := atoms_spec (ws := zc_X9_goOnWithTwo :: mq_T) B.pre
  have hown : s.vm.findClass RX9 = some m.cls := findClass_of_methodNamed B.named
  subst hsz
  have hD := hD0.self (sz := s.heap.size)
  generalize hAe : va_A (wd_C a cI cL cB cZ z S) s.heap.size = A at hD ⊢
  have hA : ∀ q : Nat, s.heap.size ≤ q → A q := fun q h => by rw [← hAe]; exact Or.inr h
  have hl := lv_entry ([.ref (a 23), .int (v1), .int (v2), .int (v3)]) (n := 4) (Nat.le_of_ble_eq_true rfl)
  rw [lg_entry_eq]
  generalize (lg_sl ([.ref (a 23), .int (v1), .int (v2), .int (v3)]) ++ List.replicate (4 - (lg_sl ([.ref (a 23), .int (v1), .int (v2), .int (v3)])).length) Slot.unset).toArray = ls at hl ⊢
  have hl : lv_has ls 4 [(0, .ref (a 23)), (1, .int (v1)), (2, .int (v2)), (3, .int (v3))] := hl
  refine zw_X9_goOnWithTwo_0 (A := A) ⟨B.exec, B.bytes, hml, hown, hts, hK, hA⟩ (fun H locs ls pc dg hP hD hS => ?_) v1 v2 v3 S s.heap [] ls h hl hP hD va_S.rf
  exact W.vret B.exec B.bytes hr (fun t ht hW => ⟨⟨_, rfl, rfl, by rw [ht]; exact hP, va_K.moved hW.alike hK, hD⟩, hS.F ht⟩) hS.2.2 dg
theorem zt_X9_goOnWithTwo_c : zc_X9_goOnWithTwo ∈ mq_T := mq_T_mem (mq_t3 (List.mem_of_getElem? (i := 229) rfl)) rfl
theorem zt_X9_goOnWithTwo_i : Cond.instanceMethod yX9_goOnWithTwo ∈ mq_T := mq_T_mem (mq_t3 (List.mem_of_getElem? (i := 228) rfl)) rfl
theorem zt_X9_goOnWithTwo_s : Cond.selects RX9 yX9_goOnWithTwo yX9_goOnWithTwo ∈ mq_T := mq_T_at 33 (by decide +kernel)
set_option maxHeartbeats 4000000 in
theorem zk_X9_goOnWithTwo {p : Program} {l : Launch} {e : Env} {R : Room} {s : State} {m : MethodId} {args : Array Value} {below : List Frame} {meth : Method} {c : Code} {A : Nat → Prop} {D : va_G} {a z : Nat → Nat} {cI cL cB cZ : ClassId} {Q : State → Prop} {cc : ByteArray} {nL idx pc N : Nat} {own : String} {c1 : Cond} {H : Heap} {locs : List Loc} {ls : Array Slot} {rest : List Value} {S : mq_St} {res : Unit × mq_St} {v1 : Int32} {v2 : Int32} {v3 : Int32} (C : mq_C p s m args c A D cI cL cB cZ cc nL own c1) (hlk : Cond.methodLink own idx yX9_goOnWithTwo ∈ mq_T) (hR : zr_X9_goOnWithTwo.frames + 1 ≤ R.frames ∧ 8 + (4 + 11) + zr_X9_goOnWithTwo.locals ≤ R.locals) (h : zf_X9_goOnWithTwo N z v1 v2 v3 S = some res) (hP : va_P D vwCl (wd_C a cI cL cB cZ z S) H) (hD : va_D A (wd_C a cI cL cB cZ z S)) (hS : va_S A s.heap H locs) (hls : ls.size = nL) (hrest : (rest.map fun v => v.category).sum ≤ 8) (hdg : decode cc pc = .ok (.invokevirtual idx, 3)) (kk : ∀ (H1 : Heap) (locs1 : List Loc), va_P D vwCl (wd_C a cI cL cB cZ z res.2) H1 → va_D A (wd_C a cI cL cB cZ z res.2) → va_S A s.heap H1 locs1 → W p l e R s m args below meth c H1 locs1 0 0 Q (F0 m (pc + 3) ls rest)) : W p l e R s m args below meth c H locs 0 0 Q (F0 m pc ls (.int (v3) :: .int (v2) :: .int (v1) :: .ref (a 23) :: rest)) := by
  obtain ⟨hx, hb, hml, hown, hts, hK, hA⟩ := C
  have hFc := mq_freeI hD hS hA
  refine va_callv (va_runV (As := [.int (v1), .int (v2), .int (v3)]) (rest := rest) ⟨hx, hb, hml, hown, hts⟩ (zm_X9_goOnWithTwo l D a z cI cL cB cZ H.size N v1 v2 v3 S res h) (cwV 3 hts (mq_goodL (mq_wsV hlk zt_X9_goOnWithTwo_i zt_X9_goOnWithTwo_s zt_ini_X9 zt_X9_goOnWithTwo_c)) rfl rfl rfl (by decide +kernel) hR) ⟨fun a U g mk q => ⟨q.1, q.2.1, q.2.2.1, va_K.moved (u := U) (U := U.calling g mk a) (Vm.Alike.refl U.vm) q.2.2.2.1, q.2.2.2.2⟩, zy_C_23 hK hP, fun U hU hW => ⟨rfl, by rw [hU], by rw [hU]; exact hP, va_K.moved hW.alike hK, hD.weaken (fun _ _ _ _ => trivial)⟩⟩ rfl rfl hls rfl (lv_room hrest) hdg ⟨Nat.zero_le _, Nat.zero_le _⟩) hS (fun q _ h => hFc q h) hFc (fun u t H1 locs ht hvm hw hB hz1 hk1 hS => ?_)
  subst hw
  obtain ⟨hP1, hK1, hD1⟩ := hB
  rw [ht] at hP1
  exact kk H1 locs hP1 (hD1.weaken (fun _ _ _ h => hFc _ h)) hS
theorem zt_m_X9_46 : Cond.methodLink RX9 46 yX7_sortOf ∈ mq_T := mq_T_mem (mq_t3 (List.mem_of_getElem? (i := 211) rfl)) rfl
theorem zt_m_X9_62 : Cond.methodLink RX9 62 yX9_goOnWithTwo ∈ mq_T := mq_T_mem (mq_t3 (List.mem_of_getElem? (i := 226) rfl)) rfl
theorem zt_m_X9_55 : Cond.methodLink RX9 55 yX9_writeAtom ∈ mq_T := mq_T_mem (mq_t3 (List.mem_of_getElem? (i := 213) rfl)) rfl
theorem zt_m_X9_58 : Cond.methodLink RX9 58 yX9_goOnWithOne ∈ mq_T := mq_T_mem (mq_t3 (List.mem_of_getElem? (i := 222) rfl)) rfl
/-! ModalDesk$Writer.goOn(II)V -/
def zr_X9_goOn : Room := { frames := 4, cells := 0, slots := 0, locals := 88 }
def zc_X9_goOn : Cond := .code yX9_goOn cX9_goOn 4 none
def zf_X9_goOn_52 (N : Nat) (z : Nat → Nat) (v1 : Int32) (v2 : Int32) (v3 : Int32) (S : mq_St) : Option (Unit × mq_St) := (mq_cl (zf_X9_goOnWithOne N z (v1) (v3) (v2) S) (fun q16v S18 => (some ((), S18))))
def zf_X9_goOn (N : Nat) (z : Nat → Nat) (v1 : Int32) (v2 : Int32) (S : mq_St) : Option (Unit × mq_St) := (mq_cp (zf_X7_sortOf N z (v1) S) (fun q1 => (mq_nI (q1) (fun x3 => (if (4 : Int32) ≤ x3 then (if x3 = (6 : Int32) then (zf_X9_goOn_52 N z (v1) (v2) (x3) S) else (if x3 = (7 : Int32) then (zf_X9_goOn_52 N z (v1) (v2) (x3) S) else (mq_cl (zf_X9_goOnWithTwo N z (v1) (x3) (v2) S) (fun q4v S6 => (some ((), S6)))))) else (mq_cp (zf_X7_firstOf N z (v1) S) (fun q9 => (mq_cl (zf_X9_writeAtom N z (x3) (q9) S) (fun q11v S13 => (mq_nS (mq_si S13 13 (((S13.1 13) - (1 : Int32)))) (fun S14 => (some ((), S14)))))))))))))
set_option maxHeartbeats 4000000 in
set_option maxRecDepth 100000 in
theorem zw_X9_goOn_52 {p : Program} {l : Launch} {e : Env} {s : State} {m : MethodId} {args : Array Value} {below : List Frame} {meth : Method} {c : Code} {A : Nat → Prop} {D : va_G} {a z : Nat → Nat} {cI cL cB cZ : ClassId} {Q : State → Prop} {N : Nat} {res : Unit × mq_St} (C : mq_C p s m args c A D cI cL cB cZ cX9_goOn 4 RX9 zc_X9_goOn) (hret : ∀ (H : Heap) (locs : List Loc) (ls : Array Slot) (pc : Nat), decode cX9_goOn pc = .ok (.return_, 1) → va_P D vwCl (wd_C a cI cL cB cZ z res.2) H → va_D A (wd_C a cI cL cB cZ z res.2) → va_S A s.heap H locs → W p l e zr_X9_goOn s m args below meth c H locs 0 0 Q (F0 m pc ls [])) (v1 : Int32) (v2 : Int32) (v3 : Int32) (S : mq_St) (H : Heap) (locs : List Loc) (ls : Array Slot) (h : zf_X9_goOn_52 N z v1 v2 v3 S = some res) (hl : lv_has ls 4 [(0, .ref (a 23)), (1, .int (v1)), (2, .int (v2)), (3, .int (v3))]) (hP : va_P D vwCl (wd_C a cI cL cB cZ z S) H) (hD : va_D A (wd_C a cI cL cB cZ z S)) (hS : va_S A s.heap H locs) : W p l e zr_X9_goOn s m args below meth c H locs 0 0 Q (F0 m 52 ls []) := by
  obtain ⟨hx, hb, hml, hown, hts, hK, hA⟩ := id C
  unfold zf_X9_goOn_52 at h
  refine lv_aload_n hx hb dX9_goOn_52 rfl (lv_at hl 0 rfl) ?_
  refine lv_iload_n hx hb dX9_goOn_53 rfl (lv_at hl 1 rfl) ?_
  refine lv_iload_n hx hb dX9_goOn_54 rfl (lv_at hl 3 rfl) ?_
  refine lv_iload_n hx hb dX9_goOn_55 rfl (lv_at hl 2 rfl) ?_
  obtain ⟨q16, hc17, h⟩ := mq_cl_go h
  refine zk_X9_goOnWithOne C zt_m_X9_58 ⟨by decide, by decide⟩ hc17 hP hD hS hl.1 (Nat.le_of_ble_eq_true rfl) dX9_goOn_56 (fun H locs hP hD hS => ?_)
  obtain ⟨S18, eS18⟩ : ∃ y, y = q16.2 := ⟨_, rfl⟩
  rw [← eS18] at hP hD h
  refine lv_goto (tgt := 69) hx hb dX9_goOn_59 (by decide) ?_
  cases h
  exact hret H locs ls 69 dX9_goOn_69 hP hD hS
set_option maxHeartbeats 4000000 in
set_option maxRecDepth 100000 in
theorem zw_X9_goOn_0 {p : Program} {l : Launch} {e : Env} {s : State} {m : MethodId} {args : Array Value} {below : List Frame} {meth : Method} {c : Code} {A : Nat → Prop} {D : va_G} {a z : Nat → Nat} {cI cL cB cZ : ClassId} {Q : State → Prop} {N : Nat} {res : Unit × mq_St} (C : mq_C p s m args c A D cI cL cB cZ cX9_goOn 4 RX9 zc_X9_goOn) (hret : ∀ (H : Heap) (locs : List Loc) (ls : Array Slot) (pc : Nat), decode cX9_goOn pc = .ok (.return_, 1) → va_P D vwCl (wd_C a cI cL cB cZ z res.2) H → va_D A (wd_C a cI cL cB cZ z res.2) → va_S A s.heap H locs → W p l e zr_X9_goOn s m args below meth c H locs 0 0 Q (F0 m pc ls [])) (v1 : Int32) (v2 : Int32) (S : mq_St) (H : Heap) (locs : List Loc) (ls : Array Slot) (h : zf_X9_goOn N z v1 v2 S = some res) (hl : lv_has ls 4 [(0, .ref (a 23)), (1, .int (v1)), (2, .int (v2))]) (hP : va_P D vwCl (wd_C a cI cL cB cZ z S) H) (hD : va_D A (wd_C a cI cL cB cZ z S)) (hS : va_S A s.heap H locs) : W p l e zr_X9_goOn s m args below meth c H locs 0 0 Q (F0 m 0 ls []) := by
  obtain ⟨hx, hb, hml, hown, hts, hK, hA⟩ := id C
  unfold zf_X9_goOn at h
  refine lv_aload_n hx hb dX9_goOn_0 rfl (lv_at hl 0 rfl) ?_
  refine va_get (D := D) (ci := 9) (v := .ref (a 7)) (C := RX9) (T := TX9) (N := 4) hx hb hts (zi_X9 _) hown hK hP 23 rfl rfl 1 (by decide) (hts _ (List.mem_cons_of_mem _ zt_f_X9_19)) (fun _ h9 => h9) rfl dX9_goOn_1 ?_
  refine lv_iload_n hx hb dX9_goOn_4 rfl (lv_at hl 1 rfl) ?_
  obtain ⟨q1, hc2, h⟩ := mq_cp_go h
  refine zk_X7_sortOf C zt_m_X9_46 ⟨by decide, by decide⟩ hc2 hP hD hS hl.1 (Nat.le_of_ble_eq_true rfl) dX9_goOn_5 (fun H locs hP hD hS => ?_)
  refine lv_topi (fun x3 ex3 => ?_)
  replace h := mq_nI_go ex3 h
  refine lv_istore_n (lv' := [(3, .int (x3)), (0, .ref (a 23)), (1, .int (v1)), (2, .int (v2))]) hx hb dX9_goOn_8 rfl hl (by decide) rfl (fun ls hl => ?_)
  refine lv_iload_n hx hb dX9_goOn_9 rfl (lv_at hl 0 rfl) ?_
  refine lv_iconst (v := (4 : Int32)) hx hb dX9_goOn_10 (by decide) ?_
  refine lv_icmp_ge (tgt := 40) hx hb dX9_goOn_11 (by decide) (fun c15 => ?_) (fun c15 => ?_)
  · replace h := mq_it c15 h
    refine lv_iload_n hx hb dX9_goOn_40 rfl (lv_at hl 0 rfl) ?_
    refine lv_bipush (v := (6 : Int32)) hx hb dX9_goOn_41 (by decide) ?_
    refine lv_icmp_eq (tgt := 52) hx hb dX9_goOn_43 (by decide) (fun c8 => ?_) (fun c8 => ?_)
    · replace h := mq_it c8 h
      exact zw_X9_goOn_52 C hret (v1) (v2) (x3) S H locs ls h (lv_sub hl [1, 2, 3, 0] rfl) hP hD hS
    · replace h := mq_if c8 h
      refine lv_iload_n hx hb dX9_goOn_46 rfl (lv_at hl 0 rfl) ?_
      refine lv_bipush (v := (7 : Int32)) hx hb dX9_goOn_47 (by decide) ?_
      refine lv_icmp_ne (tgt := 62) hx hb dX9_goOn_49 (by decide) (fun c7 => ?_) (fun c7 => ?_)
      · replace h := mq_if c7 h
        refine lv_aload_n hx hb dX9_goOn_62 rfl (lv_at hl 1 rfl) ?_
        refine lv_iload_n hx hb dX9_goOn_63 rfl (lv_at hl 2 rfl) ?_
        refine lv_iload_n hx hb dX9_goOn_64 rfl (lv_at hl 0 rfl) ?_
        refine lv_iload_n hx hb dX9_goOn_65 rfl (lv_at hl 3 rfl) ?_
        obtain ⟨q4, hc5, h⟩ := mq_cl_go h
        refine zk_X9_goOnWithTwo C zt_m_X9_62 ⟨by decide, by decide⟩ hc5 hP hD hS hl.1 (Nat.le_of_ble_eq_true rfl) dX9_goOn_66 (fun H locs hP hD hS => ?_)
        obtain ⟨S6, eS6⟩ : ∃ y, y = q4.2 := ⟨_, rfl⟩
        rw [← eS6] at hP hD h
        cases h
        exact hret H locs ls 69 dX9_goOn_69 hP hD hS
      · replace h := mq_it (by simpa using c7) h
        exact zw_X9_goOn_52 C hret (v1) (v2) (x3) S H locs ls h (lv_sub hl [1, 2, 3, 0] rfl) hP hD hS
  · replace h := mq_if c15 h
    refine lv_aload_n hx hb dX9_goOn_14 rfl (lv_at hl 1 rfl) ?_
    refine lv_iload_n hx hb dX9_goOn_15 rfl (lv_at hl 0 rfl) ?_
    refine lv_aload_n hx hb dX9_goOn_16 rfl (lv_at hl 1 rfl) ?_
    refine va_get (D := D) (ci := 9) (v := .ref (a 7)) (C := RX9) (T := TX9) (N := 4) hx hb hts (zi_X9 _) hown hK hP 23 rfl rfl 1 (by decide) (hts _ (List.mem_cons_of_mem _ zt_f_X9_19)) (fun _ h9 => h9) rfl dX9_goOn_17 ?_
    refine lv_iload_n hx hb dX9_goOn_20 rfl (lv_at hl 2 rfl) ?_
    obtain ⟨q9, hc10, h⟩ := mq_cp_go h
    refine zk_X7_firstOf C zt_m_X9_52 ⟨by decide, by decide⟩ hc10 hP hD hS hl.1 (Nat.le_of_ble_eq_true rfl) dX9_goOn_21 (fun H locs hP hD hS => ?_)
    obtain ⟨q11, hc12, h⟩ := mq_cl_go h
    refine zk_X9_writeAtom C zt_m_X9_55 ⟨by decide, by decide⟩ hc12 hP hD hS hl.1 (Nat.le_of_ble_eq_true rfl) dX9_goOn_24 (fun H locs hP hD hS => ?_)
    obtain ⟨S13, eS13⟩ : ∃ y, y = q11.2 := ⟨_, rfl⟩
    rw [← eS13] at hP hD h
    refine lv_aload_n hx hb dX9_goOn_27 rfl (lv_at hl 1 rfl) ?_
    refine lv_dup hx hb dX9_goOn_28 rfl ?_
    refine va_get (D := D) (ci := 9) (v := .int ((S13.1 13))) (C := RX9) (T := TX9) (N := 4) hx hb hts (zi_X9 _) hown hK hP 23 rfl rfl 3 (by decide) (hts _ (List.mem_cons_of_mem _ zt_f_X9_29)) (fun _ h9 => h9) rfl dX9_goOn_29 ?_
    refine lv_iconst (v := (1 : Int32)) hx hb dX9_goOn_32 (by decide) ?_
    refine lv_isub hx hb dX9_goOn_33 ?_
    refine mq_put (w := wd_C a cI cL cB cZ z) (S := S13) (D := D) (ci := 9) (v := ((S13.1 13) - (1 : Int32))) (ty := .int) (C := RX9) (T := TX9) (N := 4) hx hb hts (zi_X9 _) tyX9 tyX9_ok nmX9 hown hK hP hD hS 23 rfl rfl 3 (by decide) (hts _ (List.mem_cons_of_mem _ zt_f_X9_29)) (fun _ h9 => h9) rfl (by decide +kernel) rfl rfl (Nat.le_of_ble_eq_true rfl) dX9_goOn_34 13 (zs_wd_C_i_23_13 _ _ _ _ _ _ _ _) (fun S14 eS14 H locs hP hD hS => ?_)
    replace h := mq_nS_go eS14 h
    refine lv_goto (tgt := 69) hx hb dX9_goOn_37 (by decide) ?_
    cases h
    exact hret H locs ls 69 dX9_goOn_69 hP hD hS
set_option maxHeartbeats 4000000 in
set_option maxRecDepth 100000 in
theorem zm_X9_goOn (l : Launch) (D : va_G) (a z : Nat → Nat) (cI cL cB cZ : ClassId) (sz N : Nat) (v1 : Int32) (v2 : Int32) (S : mq_St) (res : Unit × mq_St) (h : zf_X9_goOn N z v1 v2 S = some res) : Met l yX9_goOn (zc_X9_goOn :: mq_T) zr_X9_goOn (va_Pc [.ref (a 23), .int (v1), .int (v2)] (fun U => U.heap.size = sz ∧ va_P D vwCl (wd_C a cI cL cB cZ z S) U.heap ∧ va_K D vwCl (mq_tys cI cL cB cZ) U ∧ va_D (fun _ => True) (wd_C a cI cL cB cZ z S))) (va_Qv (fun u : mq_St => u = res.2) (fun u t => va_P D vwCl (wd_C a cI cL cB cZ z u) t.heap ∧ va_K D vwCl (mq_tys cI cL cB cZ) t ∧ va_D (va_A (wd_C a cI cL cB cZ z S) sz) (wd_C a cI cL cB cZ z u)) (va_A (wd_C a cI cL cB cZ z S) sz)) 0 0 (va_A (wd_C a cI cL cB cZ z S) sz) := by
  refine Met.ofW (cc := cX9_goOn) (maxL := 4) (ret := none) (by decide) rfl ?_
  intro p e s m args below meth c s₁ B hml hv
  obtain ⟨rfl, hsz, hP, hK, hD0⟩ := hv
  have hr := B.returns
  have hlocks := B.notSynchronized
  have hts := atoms_spec (ws := zc_X9_goOn :: mq_T) B.pre
  have hown : s.vm.findClass RX9 = some m.cls := findClass_of_methodNamed B.named
  subst hsz
  have hD := hD0.self (sz := s.heap.size)
  generalize hAe : va_A (wd_C a cI cL cB cZ z S) s.heap.size = A at hD ⊢
  have hA : ∀ q : Nat, s.heap.size ≤ q → A q := fun q h => by rw [← hAe]; exact Or.inr h
  have hl := lv_entry ([.ref (a 23), .int (v1), .int (v2)]) (n := 4) (Nat.le_of_ble_eq_true rfl)
  rw [lg_entry_eq]
  generalize (lg_sl ([.ref (a 23), .int (v1), .int (v2)]) ++ List.replicate (4 - (lg_sl ([.ref (a 23), .int (v1), .int (v2)])).length) Slot.unset).toArray = ls at hl ⊢
  have hl : lv_has ls 4 [(0, .ref (a 23)), (1, .int (v1)), (2, .int (v2))] := hl
  refine zw_X9_goOn_0 (A := A) ⟨B.exec, B.bytes, hml, hown, hts, hK, hA⟩ (fun H locs ls pc dg hP hD hS => ?_) v1 v2 S s.heap [] ls h hl hP hD va_S.rf
  exact W.vret B.exec B.bytes hr (fun t ht hW => ⟨⟨_, rfl, rfl, by rw [ht]; exact hP, va_K.moved hW.alike hK, hD⟩, hS.F ht⟩) hS.2.2 dg
theorem zt_X9_goOn_c : zc_X9_goOn ∈ mq_T := mq_T_mem (mq_t3 (List.mem_of_getElem? (i := 210) rfl)) rfl
theorem zt_X9_goOn_i : Cond.instanceMethod yX9_goOn ∈ mq_T := mq_T_mem (mq_t3 (List.mem_of_getElem? (i := 209) rfl)) rfl
theorem zt_X9_goOn_s : Cond.selects RX9 yX9_goOn yX9_goOn ∈ mq_T := mq_T_at 29 (by decide +kernel)
set_option maxHeartbeats 4000000 in
theorem zk_X9_goOn {p : Program} {l : Launch} {e : Env} {R : Room} {s : State} {m : MethodId} {args : Array Value} {below : List Frame} {meth : Method} {c : Code} {A : Nat → Prop} {D : va_G} {a z : Nat → Nat} {cI cL cB cZ : ClassId} {Q : State → Prop} {cc : ByteArray} {nL idx pc N : Nat} {own : String} {c1 : Cond} {H : Heap} {locs : List Loc} {ls : Array Slot} {rest : List Value} {S : mq_St} {res : Unit × mq_St} {v1 : Int32} {v2 : Int32} (C : mq_C p s m args c A D cI cL cB cZ cc nL own c1) (hlk : Cond.methodLink own idx yX9_goOn ∈ mq_T) (hR : zr_X9_goOn.frames + 1 ≤ R.frames ∧ 8 + (4 + 11) + zr_X9_goOn.locals ≤ R.locals) (h : zf_X9_goOn N z v1 v2 S = some res) (hP : va_P D vwCl (wd_C a cI cL cB cZ z S) H) (hD : va_D A (wd_C a cI cL cB cZ z S)) (hS : va_S A s.heap H locs) (hls : ls.size = nL) (hrest : (rest.map fun v => v.category).sum ≤ 8) (hdg : decode cc pc = .ok (.invokevirtual idx, 3)) (kk : ∀ (H1 : Heap) (locs1 : List Loc), va_P D vwCl (wd_C a cI cL cB cZ z res.2) H1 → va_D A (wd_C a cI cL cB cZ z res.2) → va_S A s.heap H1 locs1 → W p l e R s m args below meth c H1 locs1 0 0 Q (F0 m (pc + 3) ls rest)) : W p l e R s m args below meth c H locs 0 0 Q (F0 m pc ls (.int (v2) :: .int (v1) :: .ref (a 23) :: rest)) := by
  obtain ⟨hx, hb, hml, hown, hts, hK, hA⟩ := C
  have hFc := mq_freeI hD hS hA
  refine va_callv (va_runV (As := [.int (v1), .int (v2)]) (rest := rest) ⟨hx, hb, hml, hown, hts⟩ (zm_X9_goOn l D a z cI cL cB cZ H.size N v1 v2 S res h) (cwV 2 hts (mq_goodL (mq_wsV hlk zt_X9_goOn_i zt_X9_goOn_s zt_ini_X9 zt_X9_goOn_c)) rfl rfl rfl (by decide +kernel) hR) ⟨fun a U g mk q => ⟨q.1, q.2.1, q.2.2.1, va_K.moved (u := U) (U := U.calling g mk a) (Vm.Alike.refl U.vm) q.2.2.2.1, q.2.2.2.2⟩, zy_C_23 hK hP, fun U hU hW => ⟨rfl, by rw [hU], by rw [hU]; exact hP, va_K.moved hW.alike hK, hD.weaken (fun _ _ _ _ => trivial)⟩⟩ rfl rfl hls rfl (lv_room hrest) hdg ⟨Nat.zero_le _, Nat.zero_le _⟩) hS (fun q _ h => hFc q h) hFc (fun u t H1 locs ht hvm hw hB hz1 hk1 hS => ?_)
  subst hw
  obtain ⟨hP1, hK1, hD1⟩ := hB
  rw [ht] at hP1
  exact kk H1 locs hP1 (hD1.weaken (fun _ _ _ h => hFc _ h)) hS
theorem zt_m_X9_23 : Cond.methodLink RX9 23 yX0_keep ∈ mq_T := mq_T_mem (mq_t3 (List.mem_of_getElem? (i := 200) rfl)) rfl
theorem zt_k_X9_37 : Cond.constant RX9 37 ((1000000 : Int32)) ∈ mq_T := mq_T_mem (mq_t3 (List.mem_of_getElem? (i := 205) rfl)) rfl
theorem zt_m_X9_42 : Cond.methodLink RX9 42 yX9_goOn ∈ mq_T := mq_T_mem (mq_t3 (List.mem_of_getElem? (i := 207) rfl)) rfl
/-! ModalDesk$Writer.write(I)V -/
def zr_X9_write : Room := { frames := 5, cells := 0, slots := 0, locals := 111 }
def zc_X9_write : Cond := .code yX9_write cX9_write 4 none
def zf_X9_write_21b (N : Nat) (z : Nat → Nat) (k21 : Int32 → mq_St → Option (Unit × mq_St)) (v2 : Int32) (S : mq_St) : Option (Unit × mq_St) := (if (1000000 : Int32) ≤ v2 then (some ((), S)) else (if (S.1 13) ≤ (0 : Int32) then (some ((), S)) else (mq_cp (zf_X0_size N z (mq_pull S [1] [3] [])) (fun q9 => (if (400 : Int32) ≤ q9 then (some ((), S)) else (mq_ck (((S.1 13) - (1 : Int32))) 300 (mq_nI ((S.2.1 15 (((S.1 13) - (1 : Int32))).toNatClampNeg)) (fun x12 => (mq_ck (((S.1 13) - (1 : Int32))) 300 (mq_nS (mq_sa S 15 (upd (S.2.1 15) (((S.1 13) - (1 : Int32))).toNatClampNeg ((x12 + (1 : Int32))))) (fun S14 => (mq_cl (zf_X9_goOn N z ((x12 >>> ((2 : Int32) &&& (31 : Int32)))) ((x12 &&& (3 : Int32))) S14) (fun q15v S17 => (mq_nI (v2 + (1 : Int32)) (fun x18 => (k21 (x18) S17))))))))))))))))
def zf_X9_write_21 (N : Nat) (z : Nat → Nat) : Nat → Int32 → mq_St → Option (Unit × mq_St)
  | 0, _, _ => none
  | n + 1, v2, S => zf_X9_write_21b N z (fun v2 S => zf_X9_write_21 N z n v2 S) v2 S
def zf_X9_write (N : Nat) (z : Nat → Nat) (v1 : Int32) (S : mq_St) : Option (Unit × mq_St) := (mq_cl (zf_X0_keep N z ((0 : Int32)) (mq_pull S [1] [3] [])) (fun q1v q1s => mq_nS (mq_push S q1s [1] [3] []) (fun S3 => (mq_nS (mq_si S3 13 ((0 : Int32))) (fun S4 => (mq_cl (zf_X9_enter N z (v1) S4) (fun q5v S7 => (mq_nI ((0 : Int32)) (fun x8 => (zf_X9_write_21 N z N (x8) S7))))))))))
set_option maxHeartbeats 4000000 in
set_option maxRecDepth 100000 in
theorem zw_X9_write_21b {p : Program} {l : Launch} {e : Env} {s : State} {m : MethodId} {args : Array Value} {below : List Frame} {meth : Method} {c : Code} {A : Nat → Prop} {D : va_G} {a z : Nat → Nat} {cI cL cB cZ : ClassId} {Q : State → Prop} {N : Nat} {res : Unit × mq_St} {k21 : Int32 → mq_St → Option (Unit × mq_St)} (C : mq_C p s m args c A D cI cL cB cZ cX9_write 4 RX9 zc_X9_write) (hret : ∀ (H : Heap) (locs : List Loc) (ls : Array Slot) (pc : Nat), decode cX9_write pc = .ok (.return_, 1) → va_P D vwCl (wd_C a cI cL cB cZ z res.2) H → va_D A (wd_C a cI cL cB cZ z res.2) → va_S A s.heap H locs → W p l e zr_X9_write s m args below meth c H locs 0 0 Q (F0 m pc ls [])) (hk21 : ∀ (v2 : Int32) (S : mq_St) (H : Heap) (locs : List Loc) (ls : Array Slot), k21 v2 S = some res → lv_has ls 4 [(0, .ref (a 23)), (2, .int (v2))] → va_P D vwCl (wd_C a cI cL cB cZ z S) H → va_D A (wd_C a cI cL cB cZ z S) → va_S A s.heap H locs → W p l e zr_X9_write s m args below meth c H locs 0 0 Q (F0 m 21 ls [])) (v2 : Int32) (S : mq_St) (H : Heap) (locs : List Loc) (ls : Array Slot) (h : zf_X9_write_21b N z k21 v2 S = some res) (hl : lv_has ls 4 [(0, .ref (a 23)), (2, .int (v2))]) (hP : va_P D vwCl (wd_C a cI cL cB cZ z S) H) (hD : va_D A (wd_C a cI cL cB cZ z S)) (hS : va_S A s.heap H locs) : W p l e zr_X9_write s m args below meth c H locs 0 0 Q (F0 m 21 ls []) := by
  obtain ⟨hx, hb, hml, hown, hts, hK, hA⟩ := id C
  unfold zf_X9_write_21b at h
  refine lv_iload_n hx hb dX9_write_21 rfl (lv_at hl 1 rfl) ?_
  refine lv_ldc (v := (1000000 : Int32)) hx hb hown (hts _ (List.mem_cons_of_mem _ zt_k_X9_37)) dX9_write_22 ?_
  refine lv_icmp_ge (tgt := 89) hx hb dX9_write_24 (by decide) (fun c21 => ?_) (fun c21 => ?_)
  · replace h := mq_it c21 h
    cases h
    exact hret H locs ls 89 dX9_write_89 hP hD hS
  · replace h := mq_if c21 h
    refine lv_aload_n hx hb dX9_write_27 rfl (lv_at hl 0 rfl) ?_
    refine va_get (D := D) (ci := 9) (v := .int ((S.1 13))) (C := RX9) (T := TX9) (N := 4) hx hb hts (zi_X9 _) hown hK hP 23 rfl rfl 3 (by decide) (hts _ (List.mem_cons_of_mem _ zt_f_X9_29)) (fun _ h9 => h9) rfl dX9_write_28 ?_
    refine lv_if_le (tgt := 89) hx hb dX9_write_31 (by decide) (fun c20 => ?_) (fun c20 => ?_)
    · replace h := mq_it c20 h
      cases h
      exact hret H locs ls 89 dX9_write_89 hP hD hS
    · replace h := mq_if c20 h
      refine lv_aload_n hx hb dX9_write_34 rfl (lv_at hl 0 rfl) ?_
      refine va_get (D := D) (ci := 9) (v := .ref (a 5)) (C := RX9) (T := TX9) (N := 4) hx hb hts (zi_X9 _) hown hK hP 23 rfl rfl 0 (by decide) (hts _ (List.mem_cons_of_mem _ zt_f_X9_15)) (fun _ h9 => h9) rfl dX9_write_35 ?_
      obtain ⟨q9, hc10, h⟩ := mq_cp_go h
      refine zv_X0_size (a := mq_ad a [5, 6]) (z := z) [5, 6] C zt_m_X9_38 ⟨by decide, by decide⟩ hc10 rfl (by decide) hP hD hS hl.1 (Nat.le_of_ble_eq_true rfl) dX9_write_38 (fun H locs hP hD hS => ?_)
      refine lv_sipush (v := (400 : Int32)) hx hb dX9_write_41 (by decide) ?_
      refine lv_icmp_ge (tgt := 89) hx hb dX9_write_44 (by decide) (fun c19 => ?_) (fun c19 => ?_)
      · replace h := mq_it c19 h
        cases h
        exact hret H locs ls 89 dX9_write_89 hP hD hS
      · replace h := mq_if c19 h
        refine lv_aload_n hx hb dX9_write_47 rfl (lv_at hl 0 rfl) ?_
        refine va_get (D := D) (ci := 9) (v := .ref (a 24)) (C := RX9) (T := TX9) (N := 4) hx hb hts (zi_X9 _) hown hK hP 23 rfl rfl 2 (by decide) (hts _ (List.mem_cons_of_mem _ zt_f_X9_9)) (fun _ h9 => h9) rfl dX9_write_48 ?_
        refine lv_aload_n hx hb dX9_write_51 rfl (lv_at hl 0 rfl) ?_
        refine va_get (D := D) (ci := 9) (v := .int ((S.1 13))) (C := RX9) (T := TX9) (N := 4) hx hb hts (zi_X9 _) hown hK hP 23 rfl rfl 3 (by decide) (hts _ (List.mem_cons_of_mem _ zt_f_X9_29)) (fun _ h9 => h9) rfl dX9_write_52 ?_
        refine lv_iconst (v := (1 : Int32)) hx hb dX9_write_55 (by decide) ?_
        refine lv_isub hx hb dX9_write_56 ?_
        have hi11 := mq_ck_in h
        replace h := mq_ck_go h
        refine va_iald (f := S.2.1 15) hx hb hK hP 24 0 rfl rfl hi11 dX9_write_57 ?_
        refine lv_topi (fun x12 ex12 => ?_)
        replace h := mq_nI_go ex12 h
        refine lv_istore_n (lv' := [(3, .int (x12)), (0, .ref (a 23)), (2, .int (v2))]) hx hb dX9_write_58 rfl hl (by decide) rfl (fun ls hl => ?_)
        refine lv_aload_n hx hb dX9_write_59 rfl (lv_at hl 1 rfl) ?_
        refine va_get (D := D) (ci := 9) (v := .ref (a 24)) (C := RX9) (T := TX9) (N := 4) hx hb hts (zi_X9 _) hown hK hP 23 rfl rfl 2 (by decide) (hts _ (List.mem_cons_of_mem _ zt_f_X9_9)) (fun _ h9 => h9) rfl dX9_write_60 ?_
        refine lv_aload_n hx hb dX9_write_63 rfl (lv_at hl 1 rfl) ?_
        refine va_get (D := D) (ci := 9) (v := .int ((S.1 13))) (C := RX9) (T := TX9) (N := 4) hx hb hts (zi_X9 _) hown hK hP 23 rfl rfl 3 (by decide) (hts _ (List.mem_cons_of_mem _ zt_f_X9_29)) (fun _ h9 => h9) rfl dX9_write_64 ?_
        refine lv_iconst (v := (1 : Int32)) hx hb dX9_write_67 (by decide) ?_
        refine lv_isub hx hb dX9_write_68 ?_
        refine lv_iload_n hx hb dX9_write_69 rfl (lv_at hl 0 rfl) ?_
        refine lv_iconst (v := (1 : Int32)) hx hb dX9_write_70 (by decide) ?_
        refine lv_iadd hx hb dX9_write_71 ?_
        have hi13 := mq_ck_in h
        replace h := mq_ck_go h
        refine mq_iast (w := wd_C a cI cL cB cZ z) (S := S) (f := S.2.1 15) hx hb hK hP hD hS 24 0 rfl rfl hi13 dX9_write_72 15 (zs_wd_C_a_24_15 _ _ _ _ _ _ _ _) (fun S14 eS14 H locs hP hD hS => ?_)
        replace h := mq_nS_go eS14 h
        refine lv_aload_n hx hb dX9_write_73 rfl (lv_at hl 1 rfl) ?_
        refine lv_iload_n hx hb dX9_write_74 rfl (lv_at hl 0 rfl) ?_
        refine lv_iconst (v := (2 : Int32)) hx hb dX9_write_75 (by decide) ?_
        refine lv_ishr hx hb dX9_write_76 ?_
        refine lv_iload_n hx hb dX9_write_77 rfl (lv_at hl 0 rfl) ?_
        refine lv_iconst (v := (3 : Int32)) hx hb dX9_write_78 (by decide) ?_
        refine lv_iand hx hb dX9_write_79 ?_
        obtain ⟨q15, hc16, h⟩ := mq_cl_go h
        refine zk_X9_goOn C zt_m_X9_42 ⟨by decide, by decide⟩ hc16 hP hD hS hl.1 (Nat.le_of_ble_eq_true rfl) dX9_write_80 (fun H locs hP hD hS => ?_)
        obtain ⟨S17, eS17⟩ : ∃ y, y = q15.2 := ⟨_, rfl⟩
        rw [← eS17] at hP hD h
        obtain ⟨x18, ex18⟩ : ∃ y : Int32, y = v2 + (1 : Int32) := ⟨_, rfl⟩
        replace h := mq_nI_go ex18 h
        refine lv_iinc (v := x18) (lv' := [(2, .int (x18)), (3, .int (x12)), (0, .ref (a 23))]) hx hb dX9_write_83 hl (k := 2) rfl (by rw [ex18]; rfl) (by decide) rfl (fun ls hl => ?_)
        refine lv_goto (tgt := 21) hx hb dX9_write_86 (by decide) ?_
        exact hk21 (x18) S17 H locs ls h (lv_sub hl [2, 0] rfl) hP hD hS
set_option maxHeartbeats 4000000 in
set_option maxRecDepth 100000 in
theorem zw_X9_write_21 {p : Program} {l : Launch} {e : Env} {s : State} {m : MethodId} {args : Array Value} {below : List Frame} {meth : Method} {c : Code} {A : Nat → Prop} {D : va_G} {a z : Nat → Nat} {cI cL cB cZ : ClassId} {Q : State → Prop} {N : Nat} {res : Unit × mq_St} (C : mq_C p s m args c A D cI cL cB cZ cX9_write 4 RX9 zc_X9_write) (hret : ∀ (H : Heap) (locs : List Loc) (ls : Array Slot) (pc : Nat), decode cX9_write pc = .ok (.return_, 1) → va_P D vwCl (wd_C a cI cL cB cZ z res.2) H → va_D A (wd_C a cI cL cB cZ z res.2) → va_S A s.heap H locs → W p l e zr_X9_write s m args below meth c H locs 0 0 Q (F0 m pc ls [])) : ∀ (n : Nat) (v2 : Int32) (S : mq_St) (H : Heap) (locs : List Loc) (ls : Array Slot) (h : zf_X9_write_21 N z n v2 S = some res) (hl : lv_has ls 4 [(0, .ref (a 23)), (2, .int (v2))]) (hP : va_P D vwCl (wd_C a cI cL cB cZ z S) H) (hD : va_D A (wd_C a cI cL cB cZ z S)) (hS : va_S A s.heap H locs), W p l e zr_X9_write s m args below meth c H locs 0 0 Q (F0 m 21 ls []) := by
  intro n
  induction n with
  | zero =>
    intro v2 S H locs ls h hl hP hD hS
    exact nomatch (show (none : Option (Unit × mq_St)) = some res from h)
  | succ n ih =>
    intro v2 S H locs ls h hl hP hD hS
    exact zw_X9_write_21b C hret (fun v2 S H locs ls h hl hP hD hS => ih v2 S H locs ls h hl hP hD hS) v2 S H locs ls h hl hP hD hS
set_option maxHeartbeats 4000000 in
set_option maxRecDepth 100000 in
theorem zw_X9_write_0 {p : Program} {l : Launch} {e : Env} {s : State} {m : MethodId} {args : Array Value} {below : List Frame} {meth : Method} {c : Code} {A : Nat → Prop} {D : va_G} {a z : Nat → Nat} {cI cL cB cZ : ClassId} {Q : State → Prop} {N : Nat} {res : Unit × mq_St} (C : mq_C p s m args c A D cI cL cB cZ cX9_write 4 RX9 zc_X9_write) (hret : ∀ (H : Heap) (locs : List Loc) (ls : Array Slot) (pc : Nat), decode cX9_write pc = .ok (.return_, 1) → va_P D vwCl (wd_C a cI cL cB cZ z res.2) H → va_D A (wd_C a cI cL cB cZ z res.2) → va_S A s.heap H locs → W p l e zr_X9_write s m args below meth c H locs 0 0 Q (F0 m pc ls [])) (v1 : Int32) (S : mq_St) (H : Heap) (locs : List Loc) (ls : Array Slot) (h : zf_X9_write N z v1 S = some res) (hl : lv_has ls 4 [(0, .ref (a 23)), (1, .int (v1))]) (hP : va_P D vwCl (wd_C a cI cL cB cZ z S) H) (hD : va_D A (wd_C a cI cL cB cZ z S)) (hS : va_S A s.heap H locs) : W p l e zr_X9_write s m args below meth c H locs 0 0 Q (F0 m 0 ls []) := by
  obtain ⟨hx, hb, hml, hown, hts, hK, hA⟩ := id C
  unfold zf_X9_write at h
  refine lv_aload_n hx hb dX9_write_0 rfl (lv_at hl 0 rfl) ?_
  refine va_get (D := D) (ci := 9) (v := .ref (a 5)) (C := RX9) (T := TX9) (N := 4) hx hb hts (zi_X9 _) hown hK hP 23 rfl rfl 0 (by decide) (hts _ (List.mem_cons_of_mem _ zt_f_X9_15)) (fun _ h9 => h9) rfl dX9_write_1 ?_
  refine lv_iconst (v := (0 : Int32)) hx hb dX9_write_4 (by decide) ?_
  obtain ⟨q1, hc2, h⟩ := mq_cl_go h
  refine zv_X0_keep (a := mq_ad a [5, 6]) (z := z) [5, 6] C zt_m_X9_23 ⟨by decide, by decide⟩ hc2 rfl (by decide) (ws' := (wd_C a cI cL cB cZ z (mq_push S q1.2 [1] [3] []))) (zx_wd_C_wd_B_5_6 _ _ _ _ _ _ _ _) hP hD hS hl.1 (Nat.le_of_ble_eq_true rfl) dX9_write_5 (fun H locs hP hD hS => ?_)
  obtain ⟨S3, eS3⟩ : ∃ y, y = mq_push S q1.2 [1] [3] [] := ⟨_, rfl⟩
  replace h := mq_nS_go eS3 h
  rw [← eS3] at hP hD
  refine lv_pop hx hb dX9_write_8 rfl ?_
  refine lv_aload_n hx hb dX9_write_9 rfl (lv_at hl 0 rfl) ?_
  refine lv_iconst (v := (0 : Int32)) hx hb dX9_write_10 (by decide) ?_
  refine mq_put (w := wd_C a cI cL cB cZ z) (S := S3) (D := D) (ci := 9) (v := (0 : Int32)) (ty := .int) (C := RX9) (T := TX9) (N := 4) hx hb hts (zi_X9 _) tyX9 tyX9_ok nmX9 hown hK hP hD hS 23 rfl rfl 3 (by decide) (hts _ (List.mem_cons_of_mem _ zt_f_X9_29)) (fun _ h9 => h9) rfl (by decide +kernel) rfl rfl (Nat.le_of_ble_eq_true rfl) dX9_write_11 13 (zs_wd_C_i_23_13 _ _ _ _ _ _ _ _) (fun S4 eS4 H locs hP hD hS => ?_)
  replace h := mq_nS_go eS4 h
  refine lv_aload_n hx hb dX9_write_14 rfl (lv_at hl 0 rfl) ?_
  refine lv_iload_n hx hb dX9_write_15 rfl (lv_at hl 1 rfl) ?_
  obtain ⟨q5, hc6, h⟩ := mq_cl_go h
  refine zk_X9_enter C zt_m_X9_33 ⟨by decide, by decide⟩ hc6 hP hD hS hl.1 (Nat.le_of_ble_eq_true rfl) dX9_write_16 (fun H locs hP hD hS => ?_)
  obtain ⟨S7, eS7⟩ : ∃ y, y = q5.2 := ⟨_, rfl⟩
  rw [← eS7] at hP hD h
  refine lv_iconst (v := (0 : Int32)) hx hb dX9_write_19 (by decide) ?_
  refine lv_topi (fun x8 ex8 => ?_)
  replace h := mq_nI_go ex8 h
  refine lv_istore_n (lv' := [(2, .int (x8)), (0, .ref (a 23)), (1, .int (v1))]) hx hb dX9_write_20 rfl hl (by decide) rfl (fun ls hl => ?_)
  exact zw_X9_write_21 C hret N (x8) S7 H locs ls h (lv_sub hl [1, 0] rfl) hP hD hS
set_option maxHeartbeats 4000000 in
set_option maxRecDepth 100000 in
theorem zm_X9_write (l : Launch) (D : va_G) (a z : Nat → Nat) (cI cL cB cZ : ClassId) (sz N : Nat) (v1 : Int32) (S : mq_St) (res : Unit × mq_St) (h : zf_X9_write N z v1 S = some res) : Met l yX9_write (zc_X9_write :: mq_T) zr_X9_write (va_Pc [.ref (a 23), .int (v1)] (fun U => U.heap.size = sz ∧ va_P D vwCl (wd_C a cI cL cB cZ z S) U.heap ∧ va_K D vwCl (mq_tys cI cL cB cZ) U ∧ va_D (fun _ => True) (wd_C a cI cL cB cZ z S))) (va_Qv (fun u : mq_St => u = res.2) (fun u t => va_P D vwCl (wd_C a cI cL cB cZ z u) t.heap ∧ va_K D vwCl (mq_tys cI cL cB cZ) t ∧ va_D (va_A (wd_C a cI cL cB cZ z S) sz) (wd_C a cI cL cB cZ z u)) (va_A (wd_C a cI cL cB cZ z S) sz)) 0 0 (va_A (wd_C a cI cL cB cZ z S) sz) := by
  refine Met.ofW (cc := cX9_write) (maxL := 4) (ret := none) (by decide) rfl ?_
  intro p e s m args below meth c s₁ B hml hv
  obtain ⟨rfl, hsz, hP, hK, hD0⟩ := hv
  have hr := B.returns
  have hlocks := B.notSynchronized
  have hts := atoms_spec (ws := zc_X9_write :: mq_T) B.pre
  have hown : s.vm.findClass RX9 = some m.cls := findClass_of_methodNamed B.named
  subst hsz
  have hD := hD0.self (sz := s.heap.size)
  generalize hAe : va_A (wd_C a cI cL cB cZ z S) s.heap.size = A at hD ⊢
  have hA : ∀ q : Nat, s.heap.size ≤ q → A q := fun q h => by rw [← hAe]; exact Or.inr h
  have hl := lv_entry ([.ref (a 23), .int (v1)]) (n := 4) (Nat.le_of_ble_eq_true rfl)
  rw [lg_entry_eq]
  generalize (lg_sl ([.ref (a 23), .int (v1)]) ++ List.replicate (4 - (lg_sl ([.ref (a 23), .int (v1)])).length) Slot.unset).toArray = ls at hl ⊢
  have hl : lv_has ls 4 [(0, .ref (a 23)), (1, .int (v1))] := hl
  refine zw_X9_write_0 (A := A) ⟨B.exec, B.bytes, hml, hown, hts, hK, hA⟩ (fun H locs ls pc dg hP hD hS => ?_) v1 S s.heap [] ls h hl hP hD va_S.rf
  exact W.vret B.exec B.bytes hr (fun t ht hW => ⟨⟨_, rfl, rfl, by rw [ht]; exact hP, va_K.moved hW.alike hK, hD⟩, hS.F ht⟩) hS.2.2 dg
theorem zt_X9_write_c : zc_X9_write ∈ mq_T := mq_T_mem (mq_t3 (List.mem_of_getElem? (i := 199) rfl)) rfl
theorem zt_X9_write_i : Cond.instanceMethod yX9_write ∈ mq_T := mq_T_mem (mq_t3 (List.mem_of_getElem? (i := 197) rfl)) rfl
theorem zt_X9_write_s : Cond.selects RX9 yX9_write yX9_write ∈ mq_T := mq_T_mem (mq_t3 (List.mem_of_getElem? (i := 198) rfl)) rfl
set_option maxHeartbeats 4000000 in
theorem zk_X9_write {p : Program} {l : Launch} {e : Env} {R : Room} {s : State} {m : MethodId} {args : Array Value} {below : List Frame} {meth : Method} {c : Code} {A : Nat → Prop} {D : va_G} {a z : Nat → Nat} {cI cL cB cZ : ClassId} {Q : State → Prop} {cc : ByteArray} {nL idx pc N : Nat} {own : String} {c1 : Cond} {H : Heap} {locs : List Loc} {ls : Array Slot} {rest : List Value} {S : mq_St} {res : Unit × mq_St} {v1 : Int32} (C : mq_C p s m args c A D cI cL cB cZ cc nL own c1) (hlk : Cond.methodLink own idx yX9_write ∈ mq_T) (hR : zr_X9_write.frames + 1 ≤ R.frames ∧ 8 + (4 + 11) + zr_X9_write.locals ≤ R.locals) (h : zf_X9_write N z v1 S = some res) (hP : va_P D vwCl (wd_C a cI cL cB cZ z S) H) (hD : va_D A (wd_C a cI cL cB cZ z S)) (hS : va_S A s.heap H locs) (hls : ls.size = nL) (hrest : (rest.map fun v => v.category).sum ≤ 8) (hdg : decode cc pc = .ok (.invokevirtual idx, 3)) (kk : ∀ (H1 : Heap) (locs1 : List Loc), va_P D vwCl (wd_C a cI cL cB cZ z res.2) H1 → va_D A (wd_C a cI cL cB cZ z res.2) → va_S A s.heap H1 locs1 → W p l e R s m args below meth c H1 locs1 0 0 Q (F0 m (pc + 3) ls rest)) : W p l e R s m args below meth c H locs 0 0 Q (F0 m pc ls (.int (v1) :: .ref (a 23) :: rest)) := by
  obtain ⟨hx, hb, hml, hown, hts, hK, hA⟩ := C
  have hFc := mq_freeI hD hS hA
  refine va_callv (va_runV (As := [.int (v1)]) (rest := rest) ⟨hx, hb, hml, hown, hts⟩ (zm_X9_write l D a z cI cL cB cZ H.size N v1 S res h) (cwV 1 hts (mq_goodL (mq_wsV hlk zt_X9_write_i zt_X9_write_s zt_ini_X9 zt_X9_write_c)) rfl rfl rfl (by decide +kernel) hR) ⟨fun a U g mk q => ⟨q.1, q.2.1, q.2.2.1, va_K.moved (u := U) (U := U.calling g mk a) (Vm.Alike.refl U.vm) q.2.2.2.1, q.2.2.2.2⟩, zy_C_23 hK hP, fun U hU hW => ⟨rfl, by rw [hU], by rw [hU]; exact hP, va_K.moved hW.alike hK, hD.weaken (fun _ _ _ _ => trivial)⟩⟩ rfl rfl hls rfl (lv_room hrest) hdg ⟨Nat.zero_le _, Nat.zero_le _⟩) hS (fun q _ h => hFc q h) hFc (fun u t H1 locs ht hvm hw hB hz1 hk1 hS => ?_)
  subst hw
  obtain ⟨hP1, hK1, hD1⟩ := hB
  rw [ht] at hP1
  exact kk H1 locs hP1 (hD1.weaken (fun _ _ _ h => hFc _ h)) hS
