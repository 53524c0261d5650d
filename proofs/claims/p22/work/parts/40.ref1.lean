def wd_A1 (a : Nat → Nat) (cI cL cB cZ : ClassId) (z : Nat → Nat) (S : mq_St) : va_W := [(a 0, .inl (cI, (z 0), .inl (S.2.1 0)))]
/-! ModalDeskModel.isIn([III)Z -/
def zr_X11_isIn : Room := { frames := 0, cells := 0, slots := 0, locals := 0 }
def zc_X11_isIn : Cond := .code yX11_isIn cX11_isIn 3 (some .boolean)
def zf_X11_isIn (N : Nat) (z : Nat → Nat) (v1 : Int32) (v2 : Int32) (S : mq_St) : Option (Int32) := (mq_ck ((v1 + (v2 >>> ((5 : Int32) &&& (31 : Int32))))) (z 0) (if (((S.2.1 0 ((v1 + (v2 >>> ((5 : Int32) &&& (31 : Int32))))).toNatClampNeg) >>> ((v2 &&& (31 : Int32)) &&& (31 : Int32))) &&& (1 : Int32)) = (0 : Int32) then (mq_cz ((0 : Int32)) (some ((0 : Int32)))) else (mq_cz ((1 : Int32)) (some ((1 : Int32))))))
set_option maxHeartbeats 4000000 in
set_option maxRecDepth 100000 in
theorem zw_X11_isIn_0 {p : Program} {l : Launch} {e : Env} {s : State} {m : MethodId} {args : Array Value} {below : List Frame} {meth : Method} {c : Code} {A : Nat → Prop} {D : va_G} {a z : Nat → Nat} {cI cL cB cZ : ClassId} {Q : State → Prop} {N : Nat} {S : mq_St} {res : Int32} (C : mq_C p s m args c A D cI cL cB cZ cX11_isIn 3 RX11 zc_X11_isIn) (hret : ∀ (H : Heap) (locs : List Loc) (ls : Array Slot) (pc : Nat), decode cX11_isIn pc = .ok (.ireturn, 1) → narrow .boolean (.int res) = .int res → va_P D vwCl (wd_A1 a cI cL cB cZ z S) H → va_D A (wd_A1 a cI cL cB cZ z S) → va_S A s.heap H locs → W p l e zr_X11_isIn s m args below meth c H locs 0 0 Q (F0 m pc ls [.int res])) (v1 : Int32) (v2 : Int32) (H : Heap) (locs : List Loc) (ls : Array Slot) (h : zf_X11_isIn N z v1 v2 S = some res) (hl : lv_has ls 3 [(0, .ref (a 0)), (1, .int (v1)), (2, .int (v2))]) (hP : va_P D vwCl (wd_A1 a cI cL cB cZ z S) H) (hD : va_D A (wd_A1 a cI cL cB cZ z S)) (hS : va_S A s.heap H locs) : W p l e zr_X11_isIn s m args below meth c H locs 0 0 Q (F0 m 0 ls []) := by
  obtain ⟨hx, hb, hml, hown, hts, hK, hA⟩ := id C
  unfold zf_X11_isIn at h
  refine lv_aload_n hx hb dX11_isIn_0 rfl (lv_at hl 0 rfl) ?_
  refine lv_iload_n hx hb dX11_isIn_1 rfl (lv_at hl 1 rfl) ?_
  refine lv_iload_n hx hb dX11_isIn_2 rfl (lv_at hl 2 rfl) ?_
  refine lv_iconst (v := (5 : Int32)) hx hb dX11_isIn_3 (by decide) ?_
  refine lv_ishr hx hb dX11_isIn_4 ?_
  refine lv_iadd hx hb dX11_isIn_5 ?_
  have hi1 := mq_ck_in h
  replace h := mq_ck_go h
  refine va_iald (f := S.2.1 0) hx hb hK hP 0 0 rfl rfl hi1 dX11_isIn_6 ?_
  refine lv_iload_n hx hb dX11_isIn_7 rfl (lv_at hl 2 rfl) ?_
  refine lv_bipush (v := (31 : Int32)) hx hb dX11_isIn_8 (by decide) ?_
  refine lv_iand hx hb dX11_isIn_10 ?_
  refine lv_ishr hx hb dX11_isIn_11 ?_
  refine lv_iconst (v := (1 : Int32)) hx hb dX11_isIn_12 (by decide) ?_
  refine lv_iand hx hb dX11_isIn_13 ?_
  refine lv_if_eq (tgt := 21) hx hb dX11_isIn_14 (by decide) (fun c4 => ?_) (fun c4 => ?_)
  · replace h := mq_it c4 h
    refine lv_iconst (v := (0 : Int32)) hx hb dX11_isIn_21 (by decide) ?_
    have hz2 := mq_cz_in h
    replace h := mq_cz_go h
    cases h
    exact hret H locs ls 22 dX11_isIn_22 hz2.1 hP hD hS
  · replace h := mq_if c4 h
    refine lv_iconst (v := (1 : Int32)) hx hb dX11_isIn_17 (by decide) ?_
    refine lv_goto (tgt := 22) hx hb dX11_isIn_18 (by decide) ?_
    have hz3 := mq_cz_in h
    replace h := mq_cz_go h
    cases h
    exact hret H locs ls 22 dX11_isIn_22 hz3.1 hP hD hS
set_option maxHeartbeats 4000000 in
set_option maxRecDepth 100000 in
theorem zm_X11_isIn (l : Launch) (D : va_G) (a z : Nat → Nat) (cI cL cB cZ : ClassId) (sz N : Nat) (v1 : Int32) (v2 : Int32) (S : mq_St) (res : Int32) (h : zf_X11_isIn N z v1 v2 S = some res) : Met l yX11_isIn (zc_X11_isIn :: mq_T) zr_X11_isIn (va_Pc [.ref (a 0), .int (v1), .int (v2)] (fun U => U.heap.size = sz ∧ va_P D vwCl (wd_A1 a cI cL cB cZ z S) U.heap ∧ va_K D vwCl (mq_tys cI cL cB cZ) U ∧ va_D (fun _ => True) (wd_A1 a cI cL cB cZ z S))) (va_Qi (fun (r : Int32) (u : mq_St) => r = res ∧ u = S) (fun u t => va_P D vwCl (wd_A1 a cI cL cB cZ z u) t.heap ∧ va_K D vwCl (mq_tys cI cL cB cZ) t ∧ va_D (va_A (wd_A1 a cI cL cB cZ z S) sz) (wd_A1 a cI cL cB cZ z u)) (va_A (wd_A1 a cI cL cB cZ z S) sz)) 0 0 (va_A (wd_A1 a cI cL cB cZ z S) sz) := by
  refine Met.ofW (cc := cX11_isIn) (maxL := 3) (ret := (some .boolean)) (by decide) rfl ?_
  intro p e s m args below meth c s₁ B hml hv
  obtain ⟨rfl, hsz, hP, hK, hD0⟩ := hv
  have hr := B.returns
  have hlocks := B.notSynchronized
  have hts := atoms_spec (ws := zc_X11_isIn :: mq_T) B.pre
  have hown : s.vm.findClass RX11 = some m.cls := findClass_of_methodNamed B.named
  subst hsz
  have hD := hD0.self (sz := s.heap.size)
  generalize hAe : va_A (wd_A1 a cI cL cB cZ z S) s.heap.size = A at hD ⊢
  have hA : ∀ q : Nat, s.heap.size ≤ q → A q := fun q h => by rw [← hAe]; exact Or.inr h
  have hl := lv_entry ([.ref (a 0), .int (v1), .int (v2)]) (n := 3) (Nat.le_of_ble_eq_true rfl)
  rw [lg_entry_eq]
  generalize (lg_sl ([.ref (a 0), .int (v1), .int (v2)]) ++ List.replicate (3 - (lg_sl ([.ref (a 0), .int (v1), .int (v2)])).length) Slot.unset).toArray = ls at hl ⊢
  have hl : lv_has ls 3 [(0, .ref (a 0)), (1, .int (v1)), (2, .int (v2))] := hl
  refine zw_X11_isIn_0 (A := A) ⟨B.exec, B.bytes, hml, hown, hts, hK, hA⟩ (fun H locs ls pc dg hz hP hD hS => ?_) v1 v2 s.heap [] ls h hl hP hD va_S.rf
  exact W.zret B.exec B.bytes hr hz (fun t ht hW => ⟨⟨_, _, rfl, ⟨rfl, rfl⟩, by rw [ht]; exact hP, va_K.moved hW.alike hK, hD⟩, hS.F ht⟩) hS.2.2 dg
theorem zt_X11_isIn_c : zc_X11_isIn ∈ mq_T := mq_T_mem (mq_t7 (List.mem_of_getElem? (i := 75) rfl)) rfl
theorem zt_X11_isIn_s : Cond.static yX11_isIn ∈ mq_T := mq_T_mem (mq_t7 (List.mem_of_getElem? (i := 74) rfl)) rfl
theorem zt_ini_X11 : Cond.initialized RX11 ∈ mq_T := mq_T_mem (mq_t1 (List.mem_of_getElem? (i := 13) rfl)) rfl
set_option maxHeartbeats 4000000 in
theorem zv_X11_isIn {p : Program} {l : Launch} {e : Env} {R : Room} {s : State} {m : MethodId} {args : Array Value} {below : List Frame} {meth : Method} {c : Code} {A : Nat → Prop} {D : va_G} {a z : Nat → Nat} {cI cL cB cZ : ClassId} {Q : State → Prop} {cc : ByteArray} {nL idx pc N : Nat} {own : String} {c1 : Cond} {H : Heap} {locs : List Loc} {ls : Array Slot} {rest : List Value} {S : mq_St} {res : Int32} {v1 : Int32} {v2 : Int32} {ws : va_W} (is : List Nat) (C : mq_C p s m args c A D cI cL cB cZ cc nL own c1) (hlk : Cond.methodLink own idx yX11_isIn ∈ mq_T) (hR : zr_X11_isIn.frames + 1 ≤ R.frames ∧ 8 + (3 + 11) + zr_X11_isIn.locals ≤ R.locals) (h : zf_X11_isIn N z v1 v2 S = some res) (hC : is.map (fun i => ws[i]?) = (wd_A1 a cI cL cB cZ z S).map some) (hnd : va_nd is = true) (hP : va_P D vwCl ws H) (hD : va_D A ws) (hS : va_S A s.heap H locs) (hls : ls.size = nL) (hrest : (rest.map fun v => v.category).sum ≤ 8) (hdg : decode cc pc = .ok (.invokestatic idx, 3)) (kk : ∀ (H1 : Heap) (locs1 : List Loc), va_P D vwCl ws H1 → va_D A ws → va_S A s.heap H1 locs1 → W p l e R s m args below meth c H1 locs1 0 0 Q (F0 m (pc + 3) ls (.int res :: rest))) : W p l e R s m args below meth c H locs 0 0 Q (F0 m pc ls (.int (v2) :: .int (v1) :: .ref (a 0) :: rest)) := by
  obtain ⟨hx, hb, hml, hown, hts, hK, hA⟩ := C
  have hPc := mq_subP hP is hC
  have hDc := hD.sub is hnd hC
  have hFc := va_free hD hS hA is hC
  refine va_calli (va_runS (As := [.ref (a 0), .int (v1), .int (v2)]) (rest := rest) ⟨hx, hb, hml, hown, hts⟩ (zm_X11_isIn l D a z cI cL cB cZ H.size N v1 v2 S res h) (va_cwS 3 hts (mq_goodL (mq_wsS hlk zt_X11_isIn_s zt_ini_X11 zt_X11_isIn_c)) rfl rfl rfl (by decide +kernel) hR) ⟨fun a U g mk q => ⟨q.1, q.2.1, q.2.2.1, va_K.moved (u := U) (U := U.calling g mk a) (Vm.Alike.refl U.vm) q.2.2.2.1, q.2.2.2.2⟩, fun U hU hW => ⟨rfl, by rw [hU], by rw [hU]; exact hPc, va_K.moved hW.alike hK, hDc.weaken (fun _ _ _ _ => trivial)⟩⟩ rfl rfl hls rfl (lv_room hrest) hdg ⟨Nat.zero_le _, Nat.zero_le _⟩) hS (fun q _ h => hFc q h) hFc (fun r u t H1 locs ht hvm hw1 hB hz1 hk1 hS => ?_)
  obtain ⟨rfl, rfl⟩ := hw1
  obtain ⟨hP1, hK1, hD1⟩ := hB
  rw [ht] at hP1
  obtain ⟨hP2, hD2⟩ := mq_join hP hD is hC rfl hk1 hP1
  rw [mq_setM_same is _ ws hC] at hP2 hD2
  exact kk H1 locs hP2 hD2 hS
/-! ModalDeskModel.put([III)V -/
def zr_X11_put : Room := { frames := 0, cells := 0, slots := 0, locals := 0 }
def zc_X11_put : Cond := .code yX11_put cX11_put 3 none
def zf_X11_put (N : Nat) (z : Nat → Nat) (v1 : Int32) (v2 : Int32) (S : mq_St) : Option (Unit × mq_St) := (mq_ck ((v1 + (v2 >>> ((5 : Int32) &&& (31 : Int32))))) (z 0) (mq_ck ((v1 + (v2 >>> ((5 : Int32) &&& (31 : Int32))))) (z 0) (mq_nS (mq_sa S 0 (upd (S.2.1 0) ((v1 + (v2 >>> ((5 : Int32) &&& (31 : Int32))))).toNatClampNeg (((S.2.1 0 ((v1 + (v2 >>> ((5 : Int32) &&& (31 : Int32))))).toNatClampNeg) ||| ((1 : Int32) <<< ((v2 &&& (31 : Int32)) &&& (31 : Int32))))))) (fun S3 => (some ((), S3))))))
set_option maxHeartbeats 4000000 in
set_option maxRecDepth 100000 in
theorem zw_X11_put_0 {p : Program} {l : Launch} {e : Env} {s : State} {m : MethodId} {args : Array Value} {below : List Frame} {meth : Method} {c : Code} {A : Nat → Prop} {D : va_G} {a z : Nat → Nat} {cI cL cB cZ : ClassId} {Q : State → Prop} {N : Nat} {res : Unit × mq_St} (C : mq_C p s m args c A D cI cL cB cZ cX11_put 3 RX11 zc_X11_put) (hret : ∀ (H : Heap) (locs : List Loc) (ls : Array Slot) (pc : Nat), decode cX11_put pc = .ok (.return_, 1) → va_P D vwCl (wd_A1 a cI cL cB cZ z res.2) H → va_D A (wd_A1 a cI cL cB cZ z res.2) → va_S A s.heap H locs → W p l e zr_X11_put s m args below meth c H locs 0 0 Q (F0 m pc ls [])) (v1 : Int32) (v2 : Int32) (S : mq_St) (H : Heap) (locs : List Loc) (ls : Array Slot) (h : zf_X11_put N z v1 v2 S = some res) (hl : lv_has ls 3 [(0, .ref (a 0)), (1, .int (v1)), (2, .int (v2))]) (hP : va_P D vwCl (wd_A1 a cI cL cB cZ z S) H) (hD : va_D A (wd_A1 a cI cL cB cZ z S)) (hS : va_S A s.heap H locs) : W p l e zr_X11_put s m args below meth c H locs 0 0 Q (F0 m 0 ls []) := by
  obtain ⟨hx, hb, hml, hown, hts, hK, hA⟩ := id C
  unfold zf_X11_put at h
  refine lv_aload_n hx hb dX11_put_0 rfl (lv_at hl 0 rfl) ?_
  refine lv_iload_n hx hb dX11_put_1 rfl (lv_at hl 1 rfl) ?_
  refine lv_iload_n hx hb dX11_put_2 rfl (lv_at hl 2 rfl) ?_
  refine lv_iconst (v := (5 : Int32)) hx hb dX11_put_3 (by decide) ?_
  refine lv_ishr hx hb dX11_put_4 ?_
  refine lv_iadd hx hb dX11_put_5 ?_
  refine lv_dup2_11 hx hb dX11_put_6 rfl rfl ?_
  have hi1 := mq_ck_in h
  replace h := mq_ck_go h
  refine va_iald (f := S.2.1 0) hx hb hK hP 0 0 rfl rfl hi1 dX11_put_7 ?_
  refine lv_iconst (v := (1 : Int32)) hx hb dX11_put_8 (by decide) ?_
  refine lv_iload_n hx hb dX11_put_9 rfl (lv_at hl 2 rfl) ?_
  refine lv_bipush (v := (31 : Int32)) hx hb dX11_put_10 (by decide) ?_
  refine lv_iand hx hb dX11_put_12 ?_
  refine lv_ishl hx hb dX11_put_13 ?_
  refine lv_ior hx hb dX11_put_14 ?_
  have hi2 := mq_ck_in h
  replace h := mq_ck_go h
  refine mq_iast (w := wd_A1 a cI cL cB cZ z) (S := S) (f := S.2.1 0) hx hb hK hP hD hS 0 0 rfl rfl hi2 dX11_put_15 0 rfl (fun S3 eS3 H locs hP hD hS => ?_)
  replace h := mq_nS_go eS3 h
  cases h
  exact hret H locs ls 16 dX11_put_16 hP hD hS
set_option maxHeartbeats 4000000 in
set_option maxRecDepth 100000 in
theorem zm_X11_put (l : Launch) (D : va_G) (a z : Nat → Nat) (cI cL cB cZ : ClassId) (sz N : Nat) (v1 : Int32) (v2 : Int32) (S : mq_St) (res : Unit × mq_St) (h : zf_X11_put N z v1 v2 S = some res) : Met l yX11_put (zc_X11_put :: mq_T) zr_X11_put (va_Pc [.ref (a 0), .int (v1), .int (v2)] (fun U => U.heap.size = sz ∧ va_P D vwCl (wd_A1 a cI cL cB cZ z S) U.heap ∧ va_K D vwCl (mq_tys cI cL cB cZ) U ∧ va_D (fun _ => True) (wd_A1 a cI cL cB cZ z S))) (va_Qv (fun u : mq_St => u = res.2) (fun u t => va_P D vwCl (wd_A1 a cI cL cB cZ z u) t.heap ∧ va_K D vwCl (mq_tys cI cL cB cZ) t ∧ va_D (va_A (wd_A1 a cI cL cB cZ z S) sz) (wd_A1 a cI cL cB cZ z u)) (va_A (wd_A1 a cI cL cB cZ z S) sz)) 0 0 (va_A (wd_A1 a cI cL cB cZ z S) sz) := by
  refine Met.ofW (cc := cX11_put) (maxL := 3) (ret := none) (by decide) rfl ?_
  intro p e s m args below meth c s₁ B hml hv
  obtain ⟨rfl, hsz, hP, hK, hD0⟩ := hv
  have hr := B.returns
  have hlocks := B.notSynchronized
  have hts := atoms_spec (ws := zc_X11_put :: mq_T) B.pre
  have hown : s.vm.findClass RX11 = some m.cls := findClass_of_methodNamed B.named
  subst hsz
  have hD := hD0.self (sz := s.heap.size)
  generalize hAe : va_A (wd_A1 a cI cL cB cZ z S) s.heap.size = A at hD ⊢
  have hA : ∀ q : Nat, s.heap.size ≤ q → A q := fun q h => by rw [← hAe]; exact Or.inr h
  have hl := lv_entry ([.ref (a 0), .int (v1), .int (v2)]) (n := 3) (Nat.le_of_ble_eq_true rfl)
  rw [lg_entry_eq]
  generalize (lg_sl ([.ref (a 0), .int (v1), .int (v2)]) ++ List.replicate (3 - (lg_sl ([.ref (a 0), .int (v1), .int (v2)])).length) Slot.unset).toArray = ls at hl ⊢
  have hl : lv_has ls 3 [(0, .ref (a 0)), (1, .int (v1)), (2, .int (v2))] := hl
  refine zw_X11_put_0 (A := A) ⟨B.exec, B.bytes, hml, hown, hts, hK, hA⟩ (fun H locs ls pc dg hP hD hS => ?_) v1 v2 S s.heap [] ls h hl hP hD va_S.rf
  exact W.vret B.exec B.bytes hr (fun t ht hW => ⟨⟨_, rfl, rfl, by rw [ht]; exact hP, va_K.moved hW.alike hK, hD⟩, hS.F ht⟩) hS.2.2 dg
theorem zt_X11_put_c : zc_X11_put ∈ mq_T := mq_T_mem (mq_t7 (List.mem_of_getElem? (i := 57) rfl)) rfl
theorem zt_X11_put_s : Cond.static yX11_put ∈ mq_T := mq_T_mem (mq_t7 (List.mem_of_getElem? (i := 56) rfl)) rfl
set_option maxHeartbeats 4000000 in
theorem zv_X11_put {p : Program} {l : Launch} {e : Env} {R : Room} {s : State} {m : MethodId} {args : Array Value} {below : List Frame} {meth : Method} {c : Code} {A : Nat → Prop} {D : va_G} {a z : Nat → Nat} {cI cL cB cZ : ClassId} {Q : State → Prop} {cc : ByteArray} {nL idx pc N : Nat} {own : String} {c1 : Cond} {H : Heap} {locs : List Loc} {ls : Array Slot} {rest : List Value} {S : mq_St} {res : Unit × mq_St} {v1 : Int32} {v2 : Int32} {ws : va_W} (is : List Nat) (C : mq_C p s m args c A D cI cL cB cZ cc nL own c1) (hlk : Cond.methodLink own idx yX11_put ∈ mq_T) (hR : zr_X11_put.frames + 1 ≤ R.frames ∧ 8 + (3 + 11) + zr_X11_put.locals ≤ R.locals) (h : zf_X11_put N z v1 v2 S = some res) (hC : is.map (fun i => ws[i]?) = (wd_A1 a cI cL cB cZ z S).map some) (hnd : va_nd is = true) {ws' : va_W} (hw : mq_setM ws is (wd_A1 a cI cL cB cZ z res.2) = ws') (hP : va_P D vwCl ws H) (hD : va_D A ws) (hS : va_S A s.heap H locs) (hls : ls.size = nL) (hrest : (rest.map fun v => v.category).sum ≤ 8) (hdg : decode cc pc = .ok (.invokestatic idx, 3)) (kk : ∀ (H1 : Heap) (locs1 : List Loc), va_P D vwCl ws' H1 → va_D A ws' → va_S A s.heap H1 locs1 → W p l e R s m args below meth c H1 locs1 0 0 Q (F0 m (pc + 3) ls rest)) : W p l e R s m args below meth c H locs 0 0 Q (F0 m pc ls (.int (v2) :: .int (v1) :: .ref (a 0) :: rest)) := by
  obtain ⟨hx, hb, hml, hown, hts, hK, hA⟩ := C
  have hPc := mq_subP hP is hC
  have hDc := hD.sub is hnd hC
  have hFc := va_free hD hS hA is hC
  refine va_callv (va_runS (As := [.ref (a 0), .int (v1), .int (v2)]) (rest := rest) ⟨hx, hb, hml, hown, hts⟩ (zm_X11_put l D a z cI cL cB cZ H.size N v1 v2 S res h) (va_cwS 3 hts (mq_goodL (mq_wsS hlk zt_X11_put_s zt_ini_X11 zt_X11_put_c)) rfl rfl rfl (by decide +kernel) hR) ⟨fun a U g mk q => ⟨q.1, q.2.1, q.2.2.1, va_K.moved (u := U) (U := U.calling g mk a) (Vm.Alike.refl U.vm) q.2.2.2.1, q.2.2.2.2⟩, fun U hU hW => ⟨rfl, by rw [hU], by rw [hU]; exact hPc, va_K.moved hW.alike hK, hDc.weaken (fun _ _ _ _ => trivial)⟩⟩ rfl rfl hls rfl (lv_room hrest) hdg ⟨Nat.zero_le _, Nat.zero_le _⟩) hS (fun q _ h => hFc q h) hFc (fun u t H1 locs ht hvm hw1 hB hz1 hk1 hS => ?_)
  subst hw1
  obtain ⟨hP1, hK1, hD1⟩ := hB
  rw [ht] at hP1
  obtain ⟨hP2, hD2⟩ := mq_join (w1 := (wd_A1 a cI cL cB cZ z res.2)) hP hD is hC rfl hk1 hP1
  rw [hw] at hP2 hD2
  exact kk H1 locs hP2 hD2 hS
def wd_A2 (a : Nat → Nat) (cI cL cB cZ : ClassId) (z : Nat → Nat) (S : mq_St) : va_W := [(a 0, .inl (cI, (z 0), .inl (S.2.1 0))), (a 1, .inl (cI, (z 1), .inl (S.2.1 1)))]
/-! ModalDeskModel.copy([II[II)V -/
def zr_X11_copy : Room := { frames := 0, cells := 0, slots := 0, locals := 0 }
def zc_X11_copy : Cond := .code yX11_copy cX11_copy 5 none
def zf_X11_copy_3b (N : Nat) (z : Nat → Nat) (k3 : Int32 → Int32 → Int32 → mq_St → Option (Unit × mq_St)) (v1 : Int32) (v3 : Int32) (v4 : Int32) (S : mq_St) : Option (Unit × mq_St) := (if (10 : Int32) ≤ v4 then (some ((), S)) else (mq_ck ((v1 + v4)) (z 0) (mq_ck ((v3 + v4)) (z 1) (mq_nS (mq_sa S 1 (upd (S.2.1 1) ((v3 + v4)).toNatClampNeg ((S.2.1 0 ((v1 + v4)).toNatClampNeg)))) (fun S4 => (mq_nI (v4 + (1 : Int32)) (fun x5 => (k3 (v1) (v3) (x5) S4))))))))
def zf_X11_copy_3 (N : Nat) (z : Nat → Nat) : Nat → Int32 → Int32 → Int32 → mq_St → Option (Unit × mq_St)
  | 0, _, _, _, _ => none
  | n + 1, v1, v3, v4, S => zf_X11_copy_3b N z (fun v1 v3 v4 S => zf_X11_copy_3 N z n v1 v3 v4 S) v1 v3 v4 S
def zf_X11_copy (N : Nat) (z : Nat → Nat) (v1 : Int32) (v3 : Int32) (S : mq_St) : Option (Unit × mq_St) := (mq_nI ((0 : Int32)) (fun x1 => (zf_X11_copy_3 N z N (v1) (v3) (x1) S)))
set_option maxHeartbeats 4000000 in
set_option maxRecDepth 100000 in
theorem zw_X11_copy_3b {p : Program} {l : Launch} {e : Env} {s : State} {m : MethodId} {args : Array Value} {below : List Frame} {meth : Method} {c : Code} {A : Nat → Prop} {D : va_G} {a z : Nat → Nat} {cI cL cB cZ : ClassId} {Q : State → Prop} {N : Nat} {res : Unit × mq_St} {k3 : Int32 → Int32 → Int32 → mq_St → Option (Unit × mq_St)} (C : mq_C p s m args c A D cI cL cB cZ cX11_copy 5 RX11 zc_X11_copy) (hret : ∀ (H : Heap) (locs : List Loc) (ls : Array Slot) (pc : Nat), decode cX11_copy pc = .ok (.return_, 1) → va_P D vwCl (wd_A2 a cI cL cB cZ z res.2) H → va_D A (wd_A2 a cI cL cB cZ z res.2) → va_S A s.heap H locs → W p l e zr_X11_copy s m args below meth c H locs 0 0 Q (F0 m pc ls [])) (hk3 : ∀ (v1 : Int32) (v3 : Int32) (v4 : Int32) (S : mq_St) (H : Heap) (locs : List Loc) (ls : Array Slot), k3 v1 v3 v4 S = some res → lv_has ls 5 [(0, .ref (a 0)), (1, .int (v1)), (2, .ref (a 1)), (3, .int (v3)), (4, .int (v4))] → va_P D vwCl (wd_A2 a cI cL cB cZ z S) H → va_D A (wd_A2 a cI cL cB cZ z S) → va_S A s.heap H locs → W p l e zr_X11_copy s m args below meth c H locs 0 0 Q (F0 m 3 ls [])) (v1 : Int32) (v3 : Int32) (v4 : Int32) (S : mq_St) (H : Heap) (locs : List Loc) (ls : Array Slot) (h : zf_X11_copy_3b N z k3 v1 v3 v4 S = some res) (hl : lv_has ls 5 [(0, .ref (a 0)), (1, .int (v1)), (2, .ref (a 1)), (3, .int (v3)), (4, .int (v4))]) (hP : va_P D vwCl (wd_A2 a cI cL cB cZ z S) H) (hD : va_D A (wd_A2 a cI cL cB cZ z S)) (hS : va_S A s.heap H locs) : W p l e zr_X11_copy s m args below meth c H locs 0 0 Q (F0 m 3 ls []) := by
  obtain ⟨hx, hb, hml, hown, hts, hK, hA⟩ := id C
  unfold zf_X11_copy_3b at h
  refine lv_iload hx hb dX11_copy_3 (lv_at hl 4 rfl) ?_
  refine lv_bipush (v := (10 : Int32)) hx hb dX11_copy_5 (by decide) ?_
  refine lv_icmp_ge (tgt := 28) hx hb dX11_copy_7 (by decide) (fun c6 => ?_) (fun c6 => ?_)
  · replace h := mq_it c6 h
    cases h
    exact hret H locs ls 28 dX11_copy_28 hP hD hS
  · replace h := mq_if c6 h
    refine lv_aload_n hx hb dX11_copy_10 rfl (lv_at hl 2 rfl) ?_
    refine lv_iload_n hx hb dX11_copy_11 rfl (lv_at hl 3 rfl) ?_
    refine lv_iload hx hb dX11_copy_12 (lv_at hl 4 rfl) ?_
    refine lv_iadd hx hb dX11_copy_14 ?_
    refine lv_aload_n hx hb dX11_copy_15 rfl (lv_at hl 0 rfl) ?_
    refine lv_iload_n hx hb dX11_copy_16 rfl (lv_at hl 1 rfl) ?_
    refine lv_iload hx hb dX11_copy_17 (lv_at hl 4 rfl) ?_
    refine lv_iadd hx hb dX11_copy_19 ?_
    have hi2 := mq_ck_in h
    replace h := mq_ck_go h
    refine va_iald (f := S.2.1 0) hx hb hK hP 0 0 rfl rfl hi2 dX11_copy_20 ?_
    have hi3 := mq_ck_in h
    replace h := mq_ck_go h
    refine mq_iast (w := wd_A2 a cI cL cB cZ z) (S := S) (f := S.2.1 1) hx hb hK hP hD hS 1 0 rfl rfl hi3 dX11_copy_21 1 rfl (fun S4 eS4 H locs hP hD hS => ?_)
    replace h := mq_nS_go eS4 h
    obtain ⟨x5, ex5⟩ : ∃ y : Int32, y = v4 + (1 : Int32) := ⟨_, rfl⟩
    replace h := mq_nI_go ex5 h
    refine lv_iinc (v := x5) (lv' := [(4, .int (x5)), (0, .ref (a 0)), (1, .int (v1)), (2, .ref (a 1)), (3, .int (v3))]) hx hb dX11_copy_22 hl (k := 4) rfl (by rw [ex5]; rfl) (by decide) rfl (fun ls hl => ?_)
    refine lv_goto (tgt := 3) hx hb dX11_copy_25 (by decide) ?_
    exact hk3 (v1) (v3) (x5) S4 H locs ls h (lv_sub hl [1, 2, 3, 4, 0] rfl) hP hD hS
set_option maxHeartbeats 4000000 in
set_option maxRecDepth 100000 in
theorem zw_X11_copy_3 {p : Program} {l : Launch} {e : Env} {s : State} {m : MethodId} {args : Array Value} {below : List Frame} {meth : Method} {c : Code} {A : Nat → Prop} {D : va_G} {a z : Nat → Nat} {cI cL cB cZ : ClassId} {Q : State → Prop} {N : Nat} {res : Unit × mq_St} (C : mq_C p s m args c A D cI cL cB cZ cX11_copy 5 RX11 zc_X11_copy) (hret : ∀ (H : Heap) (locs : List Loc) (ls : Array Slot) (pc : Nat), decode cX11_copy pc = .ok (.return_, 1) → va_P D vwCl (wd_A2 a cI cL cB cZ z res.2) H → va_D A (wd_A2 a cI cL cB cZ z res.2) → va_S A s.heap H locs → W p l e zr_X11_copy s m args below meth c H locs 0 0 Q (F0 m pc ls [])) : ∀ (n : Nat) (v1 : Int32) (v3 : Int32) (v4 : Int32) (S : mq_St) (H : Heap) (locs : List Loc) (ls : Array Slot) (h : zf_X11_copy_3 N z n v1 v3 v4 S = some res) (hl : lv_has ls 5 [(0, .ref (a 0)), (1, .int (v1)), (2, .ref (a 1)), (3, .int (v3)), (4, .int (v4))]) (hP : va_P D vwCl (wd_A2 a cI cL cB cZ z S) H) (hD : va_D A (wd_A2 a cI cL cB cZ z S)) (hS : va_S A s.heap H locs), W p l e zr_X11_copy s m args below meth c H locs 0 0 Q (F0 m 3 ls []) := by
  intro n
  induction n with
  | zero =>
    intro v1 v3 v4 S H locs ls h hl hP hD hS
    exact nomatch (show (none : Option (Unit × mq_St)) = some res from h)
  | succ n ih =>
    intro v1 v3 v4 S H locs ls h hl hP hD hS
    exact zw_X11_copy_3b C hret (fun v1 v3 v4 S H locs ls h hl hP hD hS => ih v1 v3 v4 S H locs ls h hl hP hD hS) v1 v3 v4 S H locs ls h hl hP hD hS
set_option maxHeartbeats 4000000 in
set_option maxRecDepth 100000 in
theorem zw_X11_copy_0 {p : Program} {l : Launch} {e : Env} {s : State} {m : MethodId} {args : Array Value} {below : List Frame} {meth : Method} {c : Code} {A : Nat → Prop} {D : va_G} {a z : Nat → Nat} {cI cL cB cZ : ClassId} {Q : State → Prop} {N : Nat} {res : Unit × mq_St} (C : mq_C p s m args c A D cI cL cB cZ cX11_copy 5 RX11 zc_X11_copy) (hret : ∀ (H : Heap) (locs : List Loc) (ls : Array Slot) (pc : Nat), decode cX11_copy pc = .ok (.return_, 1) → va_P D vwCl (wd_A2 a cI cL cB cZ z res.2) H → va_D A (wd_A2 a cI cL cB cZ z res.2) → va_S A s.heap H locs → W p l e zr_X11_copy s m args below meth c H locs 0 0 Q (F0 m pc ls [])) (v1 : Int32) (v3 : Int32) (S : mq_St) (H : Heap) (locs : List Loc) (ls : Array Slot) (h : zf_X11_copy N z v1 v3 S = some res) (hl : lv_has ls 5 [(0, .ref (a 0)), (1, .int (v1)), (2, .ref (a 1)), (3, .int (v3))]) (hP : va_P D vwCl (wd_A2 a cI cL cB cZ z S) H) (hD : va_D A (wd_A2 a cI cL cB cZ z S)) (hS : va_S A s.heap H locs) : W p l e zr_X11_copy s m args below meth c H locs 0 0 Q (F0 m 0 ls []) := by
  obtain ⟨hx, hb, hml, hown, hts, hK, hA⟩ := id C
  unfold zf_X11_copy at h
  refine lv_iconst (v := (0 : Int32)) hx hb dX11_copy_0 (by decide) ?_
  refine lv_topi (fun x1 ex1 => ?_)
  replace h := mq_nI_go ex1 h
  refine lv_istore (lv' := [(4, .int (x1)), (0, .ref (a 0)), (1, .int (v1)), (2, .ref (a 1)), (3, .int (v3))]) hx hb dX11_copy_1 hl (by decide) rfl (fun ls hl => ?_)
  exact zw_X11_copy_3 C hret N (v1) (v3) (x1) S H locs ls h (lv_sub hl [1, 2, 3, 4, 0] rfl) hP hD hS
set_option maxHeartbeats 4000000 in
set_option maxRecDepth 100000 in
theorem zm_X11_copy (l : Launch) (D : va_G) (a z : Nat → Nat) (cI cL cB cZ : ClassId) (sz N : Nat) (v1 : Int32) (v3 : Int32) (S : mq_St) (res : Unit × mq_St) (h : zf_X11_copy N z v1 v3 S = some res) : Met l yX11_copy (zc_X11_copy :: mq_T) zr_X11_copy (va_Pc [.ref (a 0), .int (v1), .ref (a 1), .int (v3)] (fun U => U.heap.size = sz ∧ va_P D vwCl (wd_A2 a cI cL cB cZ z S) U.heap ∧ va_K D vwCl (mq_tys cI cL cB cZ) U ∧ va_D (fun _ => True) (wd_A2 a cI cL cB cZ z S))) (va_Qv (fun u : mq_St => u = res.2) (fun u t => va_P D vwCl (wd_A2 a cI cL cB cZ z u) t.heap ∧ va_K D vwCl (mq_tys cI cL cB cZ) t ∧ va_D (va_A (wd_A2 a cI cL cB cZ z S) sz) (wd_A2 a cI cL cB cZ z u)) (va_A (wd_A2 a cI cL cB cZ z S) sz)) 0 0 (va_A (wd_A2 a cI cL cB cZ z S) sz) := by
  refine Met.ofW (cc := cX11_copy) (maxL := 5) (ret := none) (by decide) rfl ?_
  intro p e s m args below meth c s₁ B hml hv
  obtain ⟨rfl, hsz, hP, hK, hD0⟩ := hv
  have hr := B.returns
  have hlocks := B.notSynchronized
  have hts := atoms_spec (ws := zc_X11_copy :: mq_T) B.pre
  have hown : s.vm.findClass RX11 = some m.cls := findClass_of_methodNamed B.named
  subst hsz
  have hD := hD0.self (sz := s.heap.size)
  generalize hAe : va_A (wd_A2 a cI cL cB cZ z S) s.heap.size = A at hD ⊢
  have hA : ∀ q : Nat, s.heap.size ≤ q → A q := fun q h => by rw [← hAe]; exact Or.inr h
  have hl := lv_entry ([.ref (a 0), .int (v1), .ref (a 1), .int (v3)]) (n := 5) (Nat.le_of_ble_eq_true rfl)
  rw [lg_entry_eq]
  generalize (lg_sl ([.ref (a 0), .int (v1), .ref (a 1), .int (v3)]) ++ List.replicate (5 - (lg_sl ([.ref (a 0), .int (v1), .ref (a 1), .int (v3)])).length) Slot.unset).toArray = ls at hl ⊢
  have hl : lv_has ls 5 [(0, .ref (a 0)), (1, .int (v1)), (2, .ref (a 1)), (3, .int (v3))] := hl
  refine zw_X11_copy_0 (A := A) ⟨B.exec, B.bytes, hml, hown, hts, hK, hA⟩ (fun H locs ls pc dg hP hD hS => ?_) v1 v3 S s.heap [] ls h hl hP hD va_S.rf
  exact W.vret B.exec B.bytes hr (fun t ht hW => ⟨⟨_, rfl, rfl, by rw [ht]; exact hP, va_K.moved hW.alike hK, hD⟩, hS.F ht⟩) hS.2.2 dg
theorem zt_X11_copy_c : zc_X11_copy ∈ mq_T := mq_T_mem (mq_t7 (List.mem_of_getElem? (i := 64) rfl)) rfl
theorem zt_X11_copy_s : Cond.static yX11_copy ∈ mq_T := mq_T_mem (mq_t7 (List.mem_of_getElem? (i := 63) rfl)) rfl
set_option maxHeartbeats 4000000 in
theorem zv_X11_copy {p : Program} {l : Launch} {e : Env} {R : Room} {s : State} {m : MethodId} {args : Array Value} {below : List Frame} {meth : Method} {c : Code} {A : Nat → Prop} {D : va_G} {a z : Nat → Nat} {cI cL cB cZ : ClassId} {Q : State → Prop} {cc : ByteArray} {nL idx pc N : Nat} {own : String} {c1 : Cond} {H : Heap} {locs : List Loc} {ls : Array Slot} {rest : List Value} {S : mq_St} {res : Unit × mq_St} {v1 : Int32} {v3 : Int32} {ws : va_W} (is : List Nat) (C : mq_C p s m args c A D cI cL cB cZ cc nL own c1) (hlk : Cond.methodLink own idx yX11_copy ∈ mq_T) (hR : zr_X11_copy.frames + 1 ≤ R.frames ∧ 8 + (5 + 11) + zr_X11_copy.locals ≤ R.locals) (h : zf_X11_copy N z v1 v3 S = some res) (hC : is.map (fun i => ws[i]?) = (wd_A2 a cI cL cB cZ z S).map some) (hnd : va_nd is = true) {ws' : va_W} (hw : mq_setM ws is (wd_A2 a cI cL cB cZ z res.2) = ws') (hP : va_P D vwCl ws H) (hD : va_D A ws) (hS : va_S A s.heap H locs) (hls : ls.size = nL) (hrest : (rest.map fun v => v.category).sum ≤ 8) (hdg : decode cc pc = .ok (.invokestatic idx, 3)) (kk : ∀ (H1 : Heap) (locs1 : List Loc), va_P D vwCl ws' H1 → va_D A ws' → va_S A s.heap H1 locs1 → W p l e R s m args below meth c H1 locs1 0 0 Q (F0 m (pc + 3) ls rest)) : W p l e R s m args below meth c H locs 0 0 Q (F0 m pc ls (.int (v3) :: .ref (a 1) :: .int (v1) :: .ref (a 0) :: rest)) := by
  obtain ⟨hx, hb, hml, hown, hts, hK, hA⟩ := C
  have hPc := mq_subP hP is hC
  have hDc := hD.sub is hnd hC
  have hFc := va_free hD hS hA is hC
  refine va_callv (va_runS (As := [.ref (a 0), .int (v1), .ref (a 1), .int (v3)]) (rest := rest) ⟨hx, hb, hml, hown, hts⟩ (zm_X11_copy l D a z cI cL cB cZ H.size N v1 v3 S res h) (va_cwS 4 hts (mq_goodL (mq_wsS hlk zt_X11_copy_s zt_ini_X11 zt_X11_copy_c)) rfl rfl rfl (by decide +kernel) hR) ⟨fun a U g mk q => ⟨q.1, q.2.1, q.2.2.1, va_K.moved (u := U) (U := U.calling g mk a) (Vm.Alike.refl U.vm) q.2.2.2.1, q.2.2.2.2⟩, fun U hU hW => ⟨rfl, by rw [hU], by rw [hU]; exact hPc, va_K.moved hW.alike hK, hDc.weaken (fun _ _ _ _ => trivial)⟩⟩ rfl rfl hls rfl (lv_room hrest) hdg ⟨Nat.zero_le _, Nat.zero_le _⟩) hS (fun q _ h => hFc q h) hFc (fun u t H1 locs ht hvm hw1 hB hz1 hk1 hS => ?_)
  subst hw1
  obtain ⟨hP1, hK1, hD1⟩ := hB
  rw [ht] at hP1
  obtain ⟨hP2, hD2⟩ := mq_join (w1 := (wd_A2 a cI cL cB cZ z res.2)) hP hD is hC rfl hk1 hP1
  rw [hw] at hP2 hD2
  exact kk H1 locs hP2 hD2 hS
/-! ModalDeskModel.in(III)Z -/
def zr_X11_in : Room := { frames := 0, cells := 0, slots := 0, locals := 0 }
def zc_X11_in : Cond := .code yX11_in cX11_in 3 (some .boolean)
def zf_X11_in (N : Nat) (z : Nat → Nat) (v0 : Int32) (v1 : Int32) (v2 : Int32) (S : mq_St) : Option (Int32) := (if v0 < v1 then (mq_cz ((0 : Int32)) (some ((0 : Int32)))) else (if v2 < v0 then (mq_cz ((0 : Int32)) (some ((0 : Int32)))) else (mq_cz ((1 : Int32)) (some ((1 : Int32))))))
set_option maxHeartbeats 4000000 in
set_option maxRecDepth 100000 in
theorem zw_X11_in_0 {p : Program} {l : Launch} {e : Env} {s : State} {m : MethodId} {args : Array Value} {below : List Frame} {meth : Method} {c : Code} {A : Nat → Prop} {D : va_G} {a z : Nat → Nat} {cI cL cB cZ : ClassId} {Q : State → Prop} {N : Nat} {S : mq_St} {res : Int32} (C : mq_C p s m args c A D cI cL cB cZ cX11_in 3 RX11 zc_X11_in) (hret : ∀ (H : Heap) (locs : List Loc) (ls : Array Slot) (pc : Nat), decode cX11_in pc = .ok (.ireturn, 1) → narrow .boolean (.int res) = .int res → va_P D vwCl (wd_0 a cI cL cB cZ z S) H → va_D A (wd_0 a cI cL cB cZ z S) → va_S A s.heap H locs → W p l e zr_X11_in s m args below meth c H locs 0 0 Q (F0 m pc ls [.int res])) (v0 : Int32) (v1 : Int32) (v2 : Int32) (H : Heap) (locs : List Loc) (ls : Array Slot) (h : zf_X11_in N z v0 v1 v2 S = some res) (hl : lv_has ls 3 [(0, .int (v0)), (1, .int (v1)), (2, .int (v2))]) (hP : va_P D vwCl (wd_0 a cI cL cB cZ z S) H) (hD : va_D A (wd_0 a cI cL cB cZ z S)) (hS : va_S A s.heap H locs) : W p l e zr_X11_in s m args below meth c H locs 0 0 Q (F0 m 0 ls []) := by
  obtain ⟨hx, hb, hml, hown, hts, hK, hA⟩ := id C
  unfold zf_X11_in at h
  refine lv_iload_n hx hb dX11_in_0 rfl (lv_at hl 0 rfl) ?_
  refine lv_iload_n hx hb dX11_in_1 rfl (lv_at hl 1 rfl) ?_
  refine lv_icmp_lt (tgt := 14) hx hb dX11_in_2 (by decide) (fun c5 => ?_) (fun c5 => ?_)
  · replace h := mq_it c5 h
    refine lv_iconst (v := (0 : Int32)) hx hb dX11_in_14 (by decide) ?_
    have hz1 := mq_cz_in h
    replace h := mq_cz_go h
    cases h
    exact hret H locs ls 15 dX11_in_15 hz1.1 hP hD hS
  · replace h := mq_if c5 h
    refine lv_iload_n hx hb dX11_in_5 rfl (lv_at hl 0 rfl) ?_
    refine lv_iload_n hx hb dX11_in_6 rfl (lv_at hl 2 rfl) ?_
    refine lv_icmp_gt (tgt := 14) hx hb dX11_in_7 (by decide) (fun c4 => ?_) (fun c4 => ?_)
    · replace h := mq_it c4 h
      refine lv_iconst (v := (0 : Int32)) hx hb dX11_in_14 (by decide) ?_
      have hz2 := mq_cz_in h
      replace h := mq_cz_go h
      cases h
      exact hret H locs ls 15 dX11_in_15 hz2.1 hP hD hS
    · replace h := mq_if c4 h
      refine lv_iconst (v := (1 : Int32)) hx hb dX11_in_10 (by decide) ?_
      refine lv_goto (tgt := 15) hx hb dX11_in_11 (by decide) ?_
      have hz3 := mq_cz_in h
      replace h := mq_cz_go h
      cases h
      exact hret H locs ls 15 dX11_in_15 hz3.1 hP hD hS
set_option maxHeartbeats 4000000 in
set_option maxRecDepth 100000 in
theorem zm_X11_in (l : Launch) (D : va_G) (a z : Nat → Nat) (cI cL cB cZ : ClassId) (sz N : Nat) (v0 : Int32) (v1 : Int32) (v2 : Int32) (S : mq_St) (res : Int32) (h : zf_X11_in N z v0 v1 v2 S = some res) : Met l yX11_in (zc_X11_in :: mq_T) zr_X11_in (va_Pc [.int (v0), .int (v1), .int (v2)] (fun U => U.heap.size = sz ∧ va_P D vwCl (wd_0 a cI cL cB cZ z S) U.heap ∧ va_K D vwCl (mq_tys cI cL cB cZ) U ∧ va_D (fun _ => True) (wd_0 a cI cL cB cZ z S))) (va_Qi (fun (r : Int32) (u : mq_St) => r = res ∧ u = S) (fun u t => va_P D vwCl (wd_0 a cI cL cB cZ z u) t.heap ∧ va_K D vwCl (mq_tys cI cL cB cZ) t ∧ va_D (va_A (wd_0 a cI cL cB cZ z S) sz) (wd_0 a cI cL cB cZ z u)) (va_A (wd_0 a cI cL cB cZ z S) sz)) 0 0 (va_A (wd_0 a cI cL cB cZ z S) sz) := by
  refine Met.ofW (cc := cX11_in) (maxL := 3) (ret := (some .boolean)) (by decide) rfl ?_
  intro p e s m args below meth c s₁ B hml hv
  obtain ⟨rfl, hsz, hP, hK, hD0⟩ := hv
  have hr := B.returns
  have hlocks := B.notSynchronized
  have hts := atoms_spec (ws := zc_X11_in :: mq_T) B.pre
  have hown : s.vm.findClass RX11 = some m.cls := findClass_of_methodNamed B.named
  subst hsz
  have hD := hD0.self (sz := s.heap.size)
  generalize hAe : va_A (wd_0 a cI cL cB cZ z S) s.heap.size = A at hD ⊢
  have hA : ∀ q : Nat, s.heap.size ≤ q → A q := fun q h => by rw [← hAe]; exact Or.inr h
  have hl := lv_entry ([.int (v0), .int (v1), .int (v2)]) (n := 3) (Nat.le_of_ble_eq_true rfl)
  rw [lg_entry_eq]
  generalize (lg_sl ([.int (v0), .int (v1), .int (v2)]) ++ List.replicate (3 - (lg_sl ([.int (v0), .int (v1), .int (v2)])).length) Slot.unset).toArray = ls at hl ⊢
  have hl : lv_has ls 3 [(0, .int (v0)), (1, .int (v1)), (2, .int (v2))] := hl
  refine zw_X11_in_0 (A := A) ⟨B.exec, B.bytes, hml, hown, hts, hK, hA⟩ (fun H locs ls pc dg hz hP hD hS => ?_) v0 v1 v2 s.heap [] ls h hl hP hD va_S.rf
  exact W.zret B.exec B.bytes hr hz (fun t ht hW => ⟨⟨_, _, rfl, ⟨rfl, rfl⟩, by rw [ht]; exact hP, va_K.moved hW.alike hK, hD⟩, hS.F ht⟩) hS.2.2 dg
theorem zt_X11_in_c : zc_X11_in ∈ mq_T := mq_T_mem (mq_t6 (List.mem_of_getElem? (i := 169) rfl)) rfl
theorem zt_X11_in_s : Cond.static yX11_in ∈ mq_T := mq_T_mem (mq_t6 (List.mem_of_getElem? (i := 168) rfl)) rfl
set_option maxHeartbeats 4000000 in
theorem zv_X11_in {p : Program} {l : Launch} {e : Env} {R : Room} {s : State} {m : MethodId} {args : Array Value} {below : List Frame} {meth : Method} {c : Code} {A : Nat → Prop} {D : va_G} {a z : Nat → Nat} {cI cL cB cZ : ClassId} {Q : State → Prop} {cc : ByteArray} {nL idx pc N : Nat} {own : String} {c1 : Cond} {H : Heap} {locs : List Loc} {ls : Array Slot} {rest : List Value} {S : mq_St} {res : Int32} {v0 : Int32} {v1 : Int32} {v2 : Int32} {ws : va_W} (is : List Nat) (C : mq_C p s m args c A D cI cL cB cZ cc nL own c1) (hlk : Cond.methodLink own idx yX11_in ∈ mq_T) (hR : zr_X11_in.frames + 1 ≤ R.frames ∧ 8 + (3 + 11) + zr_X11_in.locals ≤ R.locals) (h : zf_X11_in N z v0 v1 v2 S = some res) (hC : is.map (fun i => ws[i]?) = (wd_0 a cI cL cB cZ z S).map some) (hnd : va_nd is = true) (hP : va_P D vwCl ws H) (hD : va_D A ws) (hS : va_S A s.heap H locs) (hls : ls.size = nL) (hrest : (rest.map fun v => v.category).sum ≤ 8) (hdg : decode cc pc = .ok (.invokestatic idx, 3)) (kk : ∀ (H1 : Heap) (locs1 : List Loc), va_P D vwCl ws H1 → va_D A ws → va_S A s.heap H1 locs1 → W p l e R s m args below meth c H1 locs1 0 0 Q (F0 m (pc + 3) ls (.int res :: rest))) : W p l e R s m args below meth c H locs 0 0 Q (F0 m pc ls (.int (v2) :: .int (v1) :: .int (v0) :: rest)) := by
  obtain ⟨hx, hb, hml, hown, hts, hK, hA⟩ := C
  have hPc := mq_subP hP is hC
  have hDc := hD.sub is hnd hC
  have hFc := va_free hD hS hA is hC
  refine va_calli (va_runS (As := [.int (v0), .int (v1), .int (v2)]) (rest := rest) ⟨hx, hb, hml, hown, hts⟩ (zm_X11_in l D a z cI cL cB cZ H.size N v0 v1 v2 S res h) (va_cwS 3 hts (mq_goodL (mq_wsS hlk zt_X11_in_s zt_ini_X11 zt_X11_in_c)) rfl rfl rfl (by decide +kernel) hR) ⟨fun a U g mk q => ⟨q.1, q.2.1, q.2.2.1, va_K.moved (u := U) (U := U.calling g mk a) (Vm.Alike.refl U.vm) q.2.2.2.1, q.2.2.2.2⟩, fun U hU hW => ⟨rfl, by rw [hU], by rw [hU]; exact hPc, va_K.moved hW.alike hK, hDc.weaken (fun _ _ _ _ => trivial)⟩⟩ rfl rfl hls rfl (lv_room hrest) hdg ⟨Nat.zero_le _, Nat.zero_le _⟩) hS (fun q _ h => hFc q h) hFc (fun r u t H1 locs ht hvm hw1 hB hz1 hk1 hS => ?_)
  obtain ⟨rfl, rfl⟩ := hw1
  obtain ⟨hP1, hK1, hD1⟩ := hB
  rw [ht] at hP1
  obtain ⟨hP2, hD2⟩ := mq_join hP hD is hC rfl hk1 hP1
  rw [mq_setM_same is _ ws hC] at hP2 hD2
  exact kk H1 locs hP2 hD2 hS
/-! The reference's world.  code: number 0; tape: cell 1, array 0 of 4000; size: number 1; out: cell 2, array 1 of 4000; outs: number 2; sort: cell 3, array 2 of 300; one: cell 4, array 3 of 300; two: cell 5, array 4 of 300; formulas: number 3; slotYes: cell 6, array 5 of 8; slotNo: cell 7, array 6 of 8; lastFault: number 4; lastPlace: number 5; tooMany: number 6; kind: cell 8, array 7 of 3000; left: cell 9, array 8 of 3000; right: cell 10, array 9 of 3000; yes: cell 11, array 10 of 3000; no: cell 12, array 11 of 3000; nodes: number 7; at: number 8; length: number 9; fault: number 10; faultPlace: number 11; open: number 12; plain: number 13; values: cell 13, array 12 of 410; signs: cell 14, array 13 of 410; valueMany: number 14; signMany: number 15; brackets: number 16; wanted: cell 15, array 14 of 3000; wantedMany: number 17; turned: cell 16, array 15 of 300; later: cell 17, array 16 of 2000; now: cell 18, array 17 of 10; limit: number 18; steps: number 19; begun: number 20; backs: number 21; longest: number 22; ends: number 23; worlds: number 24; here: number 25; start: cell 19, array 18 of 600; worldSet: cell 20, array 19 of 600; parent: cell 21, array 20 of 60; depth: cell 22, array 21 of 60; leads: cell 23, array 22 of 3600; lines: number 26; lineRule: cell 24, array 23 of 1300; lineNumber: cell 25, array 24 of 1300; waiting: number 27; seconds: number 28; waitEither: cell 26, array 25 of 470; waitWhat: cell 27, array 26 of 470; waitWorld: cell 28, array 27 of 470; waitWorlds: cell 29, array 28 of 470; waitLines: cell 30, array 29 of 470; waitSet: cell 31, array 30 of 4700; made: cell 32, array 31 of 10; hasProof: number 29; proofLines: number 30; proofRule: cell 33, array 32 of 1300; proofNumber: cell 34, array 33 of 1300; modelWorlds: number 31; modelLetters: cell 35, array 34 of 60; modelSees: cell 36, array 35 of 3600; modelSizes: cell 37, array 36 of 60; owed: cell 38, array 37 of 13340; truth: cell 39, array 38 of 18000; group: cell 40, array 39 of 60; next: cell 41, array 40 of 60; view: cell 42, array 41 of 3600; keep: cell 43, array 42 of 60; seen: cell 44, array 43 of 3600 -/
def wd_R (a : Nat → Nat) (cI cL cB cZ : ClassId) (z : Nat → Nat) (S : mq_St) : va_W := [(a 0, .inr (11, [.int (S.1 0), .ref (a 1), .int (S.1 1), .ref (a 2), .int (S.1 2), .ref (a 3), .ref (a 4), .ref (a 5), .int (S.1 3), .ref (a 6), .ref (a 7), .int (S.1 4), .int (S.1 5), .int (S.1 6), .ref (a 8), .ref (a 9), .ref (a 10), .ref (a 11), .ref (a 12), .int (S.1 7), .int (S.1 8), .int (S.1 9), .int (S.1 10), .int (S.1 11), .int (S.1 12), .int (S.1 13), .ref (a 13), .ref (a 14), .int (S.1 14), .int (S.1 15), .int (S.1 16), .ref (a 15), .int (S.1 17), .ref (a 16), .ref (a 17), .ref (a 18), .int (S.1 18), .int (S.1 19), .int (S.1 20), .int (S.1 21), .int (S.1 22), .int (S.1 23), .int (S.1 24), .int (S.1 25), .ref (a 19), .ref (a 20), .ref (a 21), .ref (a 22), .ref (a 23), .int (S.1 26), .ref (a 24), .ref (a 25), .int (S.1 27), .int (S.1 28), .ref (a 26), .ref (a 27), .ref (a 28), .ref (a 29), .ref (a 30), .ref (a 31), .ref (a 32), .int (S.1 29), .int (S.1 30), .ref (a 33), .ref (a 34), .int (S.1 31), .ref (a 35), .ref (a 36), .ref (a 37), .ref (a 38), .ref (a 39), .ref (a 40), .ref (a 41), .ref (a 42), .ref (a 43), .ref (a 44)])), (a 1, .inl (cB, 4000, .inl (S.2.1 0))), (a 2, .inl (cB, 4000, .inl (S.2.1 1))), (a 3, .inl (cI, 300, .inl (S.2.1 2))), (a 4, .inl (cI, 300, .inl (S.2.1 3))), (a 5, .inl (cI, 300, .inl (S.2.1 4))), (a 6, .inl (cI, 8, .inl (S.2.1 5))), (a 7, .inl (cI, 8, .inl (S.2.1 6))), (a 8, .inl (cI, 3000, .inl (S.2.1 7))), (a 9, .inl (cI, 3000, .inl (S.2.1 8))), (a 10, .inl (cI, 3000, .inl (S.2.1 9))), (a 11, .inl (cI, 3000, .inl (S.2.1 10))), (a 12, .inl (cI, 3000, .inl (S.2.1 11))), (a 13, .inl (cI, 410, .inl (S.2.1 12))), (a 14, .inl (cI, 410, .inl (S.2.1 13))), (a 15, .inl (cI, 3000, .inl (S.2.1 14))), (a 16, .inl (cI, 300, .inl (S.2.1 15))), (a 17, .inl (cI, 2000, .inl (S.2.1 16))), (a 18, .inl (cI, 10, .inl (S.2.1 17))), (a 19, .inl (cI, 600, .inl (S.2.1 18))), (a 20, .inl (cI, 600, .inl (S.2.1 19))), (a 21, .inl (cI, 60, .inl (S.2.1 20))), (a 22, .inl (cI, 60, .inl (S.2.1 21))), (a 23, .inl (cZ, 3600, .inl (S.2.1 22))), (a 24, .inl (cI, 1300, .inl (S.2.1 23))), (a 25, .inl (cI, 1300, .inl (S.2.1 24))), (a 26, .inl (cZ, 470, .inl (S.2.1 25))), (a 27, .inl (cI, 470, .inl (S.2.1 26))), (a 28, .inl (cI, 470, .inl (S.2.1 27))), (a 29, .inl (cI, 470, .inl (S.2.1 28))), (a 30, .inl (cI, 470, .inl (S.2.1 29))), (a 31, .inl (cI, 4700, .inl (S.2.1 30))), (a 32, .inl (cI, 10, .inl (S.2.1 31))), (a 33, .inl (cI, 1300, .inl (S.2.1 32))), (a 34, .inl (cI, 1300, .inl (S.2.1 33))), (a 35, .inl (cI, 60, .inl (S.2.1 34))), (a 36, .inl (cZ, 3600, .inl (S.2.1 35))), (a 37, .inl (cI, 60, .inl (S.2.1 36))), (a 38, .inl (cI, 13340, .inl (S.2.1 37))), (a 39, .inl (cZ, 18000, .inl (S.2.1 38))), (a 40, .inl (cI, 60, .inl (S.2.1 39))), (a 41, .inl (cI, 60, .inl (S.2.1 40))), (a 42, .inl (cZ, 3600, .inl (S.2.1 41))), (a 43, .inl (cI, 60, .inl (S.2.1 42))), (a 44, .inl (cZ, 3600, .inl (S.2.1 43)))]
theorem zy_R_0 {s : State} {H : Heap} {D : va_G} {a z : Nat → Nat} {cI cL cB cZ : ClassId} {S : mq_St} (hK : va_K D vwCl (mq_tys cI cL cB cZ) s) (hP : va_P D vwCl (wd_R a cI cL cB cZ z S) H) : ∃ cell : Cell, H[a 0]? = some cell ∧ cell.vm.isStatics = false ∧ s.vm.findClass RX11 = some cell.cls := va_recv hK hP (ci := 11) (q0 := 0) rfl rfl
theorem zt_f_X11_7 : Cond.fieldLink RX11 7 "ModalDeskModel" "tape" "[B" ∈ mq_T := mq_T_mem (mq_t5 (List.mem_of_getElem? (i := 166) rfl)) rfl
theorem zi_X11 (c1 : Cond) : ∀ w ∈ u_ws RX11 TX11 76, w ∈ c1 :: mq_T := fun w h => List.mem_cons_of_mem _ (mq_T_mem (mq_inl [(6, 1), (6, 3), (6, 5), (6, 7), (6, 9), (6, 11), (6, 13), (6, 15), (6, 17), (6, 19), (6, 21), (6, 23), (6, 25), (6, 27), (6, 29), (6, 31), (6, 33), (6, 35), (6, 37), (6, 39), (6, 41), (6, 43), (6, 45), (6, 47), (6, 49), (6, 51), (6, 53), (6, 55), (6, 57), (6, 59), (6, 61), (6, 63), (6, 65), (6, 67), (6, 69), (6, 71), (6, 73), (6, 75), (6, 77), (6, 79), (6, 81), (6, 83), (6, 85), (6, 87), (6, 89), (6, 91), (6, 93), (6, 95), (6, 97), (6, 99), (6, 101), (6, 103), (6, 105), (6, 107), (6, 109), (6, 111), (6, 113), (6, 115), (6, 117), (6, 119), (6, 121), (6, 123), (6, 125), (6, 127), (6, 129), (6, 131), (6, 133), (6, 135), (6, 137), (6, 139), (6, 141), (6, 143), (6, 145), (6, 147), (6, 149), (6, 151)] (by decide +kernel) w h) ((by decide +kernel : ∀ w ∈ u_ws RX11 TX11 76, goodWord w = true) w h))
theorem zt_f_X11_154 : Cond.fieldLink RX11 154 "ModalDeskModel" "size" "I" ∈ mq_T := mq_T_mem (mq_t5 (List.mem_of_getElem? (i := 167) rfl)) rfl
theorem zs_wd_R_a_1_0 (a z : Nat → Nat) (cI cL cB cZ : ClassId) (S : mq_St) (f : Nat → Int32) : (wd_R a cI cL cB cZ z S).set 1 (a 1, .inl (cB, 4000, .inl f)) = (wd_R a cI cL cB cZ z (mq_sa S 0 f)) := rfl
theorem zs_wd_R_i_0_1 (a z : Nat → Nat) (cI cL cB cZ : ClassId) (S : mq_St) (v : Int32) : (wd_R a cI cL cB cZ z S).set 0 (a 0, .inr (11, ([.int (S.1 0), .ref (a 1), .int (S.1 1), .ref (a 2), .int (S.1 2), .ref (a 3), .ref (a 4), .ref (a 5), .int (S.1 3), .ref (a 6), .ref (a 7), .int (S.1 4), .int (S.1 5), .int (S.1 6), .ref (a 8), .ref (a 9), .ref (a 10), .ref (a 11), .ref (a 12), .int (S.1 7), .int (S.1 8), .int (S.1 9), .int (S.1 10), .int (S.1 11), .int (S.1 12), .int (S.1 13), .ref (a 13), .ref (a 14), .int (S.1 14), .int (S.1 15), .int (S.1 16), .ref (a 15), .int (S.1 17), .ref (a 16), .ref (a 17), .ref (a 18), .int (S.1 18), .int (S.1 19), .int (S.1 20), .int (S.1 21), .int (S.1 22), .int (S.1 23), .int (S.1 24), .int (S.1 25), .ref (a 19), .ref (a 20), .ref (a 21), .ref (a 22), .ref (a 23), .int (S.1 26), .ref (a 24), .ref (a 25), .int (S.1 27), .int (S.1 28), .ref (a 26), .ref (a 27), .ref (a 28), .ref (a 29), .ref (a 30), .ref (a 31), .ref (a 32), .int (S.1 29), .int (S.1 30), .ref (a 33), .ref (a 34), .int (S.1 31), .ref (a 35), .ref (a 36), .ref (a 37), .ref (a 38), .ref (a 39), .ref (a 40), .ref (a 41), .ref (a 42), .ref (a 43), .ref (a 44)] : List Value).set 2 (.int v))) = (wd_R a cI cL cB cZ z (mq_si S 1 v)) := rfl
/-! ModalDeskModel.four(I)V -/
def zr_X11_four : Room := { frames := 0, cells := 0, slots := 0, locals := 0 }
def zc_X11_four : Cond := .code yX11_four cX11_four 3 none
def zf_X11_four_3b (N : Nat) (z : Nat → Nat) (k3 : Int32 → Int32 → mq_St → Option (Unit × mq_St)) (v1 : Int32) (v2 : Int32) (S : mq_St) : Option (Unit × mq_St) := (if v2 < (0 : Int32) then (some ((), S)) else (mq_ck ((S.1 1)) 4000 (mq_nS (mq_sa S 0 (upd (S.2.1 0) ((S.1 1)).toNatClampNeg (vp_nar .byte ((((v1 >>> (v2 &&& (31 : Int32)))).toInt8.toInt32))))) (fun S3 => (mq_nS (mq_si S3 1 (((S3.1 1) + (1 : Int32)))) (fun S4 => (mq_nI (v2 + (-8 : Int32)) (fun x5 => (k3 (v1) (x5) S4)))))))))
def zf_X11_four_3 (N : Nat) (z : Nat → Nat) : Nat → Int32 → Int32 → mq_St → Option (Unit × mq_St)
  | 0, _, _, _ => none
  | n + 1, v1, v2, S => zf_X11_four_3b N z (fun v1 v2 S => zf_X11_four_3 N z n v1 v2 S) v1 v2 S
def zf_X11_four (N : Nat) (z : Nat → Nat) (v1 : Int32) (S : mq_St) : Option (Unit × mq_St) := (mq_nI ((24 : Int32)) (fun x1 => (zf_X11_four_3 N z N (v1) (x1) S)))
set_option maxHeartbeats 4000000 in
set_option maxRecDepth 100000 in
theorem zw_X11_four_3b {p : Program} {l : Launch} {e : Env} {s : State} {m : MethodId} {args : Array Value} {below : List Frame} {meth : Method} {c : Code} {A : Nat → Prop} {D : va_G} {a z : Nat → Nat} {cI cL cB cZ : ClassId} {Q : State → Prop} {N : Nat} {res : Unit × mq_St} {k3 : Int32 → Int32 → mq_St → Option (Unit × mq_St)} (C : mq_C p s m args c A D cI cL cB cZ cX11_four 3 RX11 zc_X11_four) (hret : ∀ (H : Heap) (locs : List Loc) (ls : Array Slot) (pc : Nat), decode cX11_four pc = .ok (.return_, 1) → va_P D vwCl (wd_R a cI cL cB cZ z res.2) H → va_D A (wd_R a cI cL cB cZ z res.2) → va_S A s.heap H locs → W p l e zr_X11_four s m args below meth c H locs 0 0 Q (F0 m pc ls [])) (hk3 : ∀ (v1 : Int32) (v2 : Int32) (S : mq_St) (H : Heap) (locs : List Loc) (ls : Array Slot), k3 v1 v2 S = some res → lv_has ls 3 [(0, .ref (a 0)), (1, .int (v1)), (2, .int (v2))] → va_P D vwCl (wd_R a cI cL cB cZ z S) H → va_D A (wd_R a cI cL cB cZ z S) → va_S A s.heap H locs → W p l e zr_X11_four s m args below meth c H locs 0 0 Q (F0 m 3 ls [])) (v1 : Int32) (v2 : Int32) (S : mq_St) (H : Heap) (locs : List Loc) (ls : Array Slot) (h : zf_X11_four_3b N z k3 v1 v2 S = some res) (hl : lv_has ls 3 [(0, .ref (a 0)), (1, .int (v1)), (2, .int (v2))]) (hP : va_P D vwCl (wd_R a cI cL cB cZ z S) H) (hD : va_D A (wd_R a cI cL cB cZ z S)) (hS : va_S A s.heap H locs) : W p l e zr_X11_four s m args below meth c H locs 0 0 Q (F0 m 3 ls []) := by
  obtain ⟨hx, hb, hml, hown, hts, hK, hA⟩ := id C
  unfold zf_X11_four_3b at h
  refine lv_iload_n hx hb dX11_four_3 rfl (lv_at hl 2 rfl) ?_
  refine lv_if_lt (tgt := 36) hx hb dX11_four_4 (by decide) (fun c6 => ?_) (fun c6 => ?_)
  · replace h := mq_it c6 h
    cases h
    exact hret H locs ls 36 dX11_four_36 hP hD hS
  · replace h := mq_if c6 h
    refine lv_aload_n hx hb dX11_four_7 rfl (lv_at hl 0 rfl) ?_
    refine va_get (D := D) (ci := 11) (v := .ref (a 1)) (C := RX11) (T := TX11) (N := 76) hx hb hts (zi_X11 _) hown hK hP 0 rfl rfl 1 (by decide) (hts _ (List.mem_cons_of_mem _ zt_f_X11_7)) (fun _ h9 => h9) rfl dX11_four_8 ?_
    refine lv_aload_n hx hb dX11_four_11 rfl (lv_at hl 0 rfl) ?_
    refine va_get (D := D) (ci := 11) (v := .int ((S.1 1))) (C := RX11) (T := TX11) (N := 76) hx hb hts (zi_X11 _) hown hK hP 0 rfl rfl 2 (by decide) (hts _ (List.mem_cons_of_mem _ zt_f_X11_154)) (fun _ h9 => h9) rfl dX11_four_12 ?_
    refine lv_iload_n hx hb dX11_four_15 rfl (lv_at hl 1 rfl) ?_
    refine lv_iload_n hx hb dX11_four_16 rfl (lv_at hl 2 rfl) ?_
    refine lv_ishr hx hb dX11_four_17 ?_
    refine lv_i2b (v := ((v1 >>> (v2 &&& (31 : Int32)))).toInt8.toInt32) hx hb dX11_four_18 rfl ?_
    have hi2 := mq_ck_in h
    replace h := mq_ck_go h
    refine mq_bast (w := wd_R a cI cL cB cZ z) (S := S) (f := S.2.1 0) hx hb hK hP hD hS 1 2 rfl rfl hi2 dX11_four_19 0 (zs_wd_R_a_1_0 _ _ _ _ _ _ _ _) (fun S3 eS3 H locs hP hD hS => ?_)
    replace h := mq_nS_go eS3 h
    refine lv_aload_n hx hb dX11_four_20 rfl (lv_at hl 0 rfl) ?_
    refine lv_dup hx hb dX11_four_21 rfl ?_
    refine va_get (D := D) (ci := 11) (v := .int ((S3.1 1))) (C := RX11) (T := TX11) (N := 76) hx hb hts (zi_X11 _) hown hK hP 0 rfl rfl 2 (by decide) (hts _ (List.mem_cons_of_mem _ zt_f_X11_154)) (fun _ h9 => h9) rfl dX11_four_22 ?_
    refine lv_iconst (v := (1 : Int32)) hx hb dX11_four_25 (by decide) ?_
    refine lv_iadd hx hb dX11_four_26 ?_
    refine mq_put (w := wd_R a cI cL cB cZ z) (S := S3) (D := D) (ci := 11) (v := ((S3.1 1) + (1 : Int32))) (ty := .int) (C := RX11) (T := TX11) (N := 76) hx hb hts (zi_X11 _) tyX11 tyX11_ok nmX11 hown hK hP hD hS 0 rfl rfl 2 (by decide) (hts _ (List.mem_cons_of_mem _ zt_f_X11_154)) (fun _ h9 => h9) rfl (by decide +kernel) rfl rfl (Nat.le_of_ble_eq_true rfl) dX11_four_27 1 (zs_wd_R_i_0_1 _ _ _ _ _ _ _ _) (fun S4 eS4 H locs hP hD hS => ?_)
    replace h := mq_nS_go eS4 h
    obtain ⟨x5, ex5⟩ : ∃ y : Int32, y = v2 + (-8 : Int32) := ⟨_, rfl⟩
    replace h := mq_nI_go ex5 h
    refine lv_iinc (v := x5) (lv' := [(2, .int (x5)), (0, .ref (a 0)), (1, .int (v1))]) hx hb dX11_four_30 hl (k := 2) rfl (by rw [ex5]; rfl) (by decide) rfl (fun ls hl => ?_)
    refine lv_goto (tgt := 3) hx hb dX11_four_33 (by decide) ?_
    exact hk3 (v1) (x5) S4 H locs ls h (lv_sub hl [1, 2, 0] rfl) hP hD hS
set_option maxHeartbeats 4000000 in
set_option maxRecDepth 100000 in
theorem zw_X11_four_3 {p : Program} {l : Launch} {e : Env} {s : State} {m : MethodId} {args : Array Value} {below : List Frame} {meth : Method} {c : Code} {A : Nat → Prop} {D : va_G} {a z : Nat → Nat} {cI cL cB cZ : ClassId} {Q : State → Prop} {N : Nat} {res : Unit × mq_St} (C : mq_C p s m args c A D cI cL cB cZ cX11_four 3 RX11 zc_X11_four) (hret : ∀ (H : Heap) (locs : List Loc) (ls : Array Slot) (pc : Nat), decode cX11_four pc = .ok (.return_, 1) → va_P D vwCl (wd_R a cI cL cB cZ z res.2) H → va_D A (wd_R a cI cL cB cZ z res.2) → va_S A s.heap H locs → W p l e zr_X11_four s m args below meth c H locs 0 0 Q (F0 m pc ls [])) : ∀ (n : Nat) (v1 : Int32) (v2 : Int32) (S : mq_St) (H : Heap) (locs : List Loc) (ls : Array Slot) (h : zf_X11_four_3 N z n v1 v2 S = some res) (hl : lv_has ls 3 [(0, .ref (a 0)), (1, .int (v1)), (2, .int (v2))]) (hP : va_P D vwCl (wd_R a cI cL cB cZ z S) H) (hD : va_D A (wd_R a cI cL cB cZ z S)) (hS : va_S A s.heap H locs), W p l e zr_X11_four s m args below meth c H locs 0 0 Q (F0 m 3 ls []) := by
  intro n
  induction n with
  | zero =>
    intro v1 v2 S H locs ls h hl hP hD hS
    exact nomatch (show (none : Option (Unit × mq_St)) = some res from h)
  | succ n ih =>
    intro v1 v2 S H locs ls h hl hP hD hS
    exact zw_X11_four_3b C hret (fun v1 v2 S H locs ls h hl hP hD hS => ih v1 v2 S H locs ls h hl hP hD hS) v1 v2 S H locs ls h hl hP hD hS
set_option maxHeartbeats 4000000 in
set_option maxRecDepth 100000 in
theorem zw_X11_four_0 {p : Program} {l : Launch} {e : Env} {s : State} {m : MethodId} {args : Array Value} {below : List Frame} {meth : Method} {c : Code} {A : Nat → Prop} {D : va_G} {a z : Nat → Nat} {cI cL cB cZ : ClassId} {Q : State → Prop} {N : Nat} {res : Unit × mq_St} (C : mq_C p s m args c A D cI cL cB cZ cX11_four 3 RX11 zc_X11_four) (hret : ∀ (H : Heap) (locs : List Loc) (ls : Array Slot) (pc : Nat), decode cX11_four pc = .ok (.return_, 1) → va_P D vwCl (wd_R a cI cL cB cZ z res.2) H → va_D A (wd_R a cI cL cB cZ z res.2) → va_S A s.heap H locs → W p l e zr_X11_four s m args below meth c H locs 0 0 Q (F0 m pc ls [])) (v1 : Int32) (S : mq_St) (H : Heap) (locs : List Loc) (ls : Array Slot) (h : zf_X11_four N z v1 S = some res) (hl : lv_has ls 3 [(0, .ref (a 0)), (1, .int (v1))]) (hP : va_P D vwCl (wd_R a cI cL cB cZ z S) H) (hD : va_D A (wd_R a cI cL cB cZ z S)) (hS : va_S A s.heap H locs) : W p l e zr_X11_four s m args below meth c H locs 0 0 Q (F0 m 0 ls []) := by
  obtain ⟨hx, hb, hml, hown, hts, hK, hA⟩ := id C
  unfold zf_X11_four at h
  refine lv_bipush (v := (24 : Int32)) hx hb dX11_four_0 (by decide) ?_
  refine lv_topi (fun x1 ex1 => ?_)
  replace h := mq_nI_go ex1 h
  refine lv_istore_n (lv' := [(2, .int (x1)), (0, .ref (a 0)), (1, .int (v1))]) hx hb dX11_four_2 rfl hl (by decide) rfl (fun ls hl => ?_)
  exact zw_X11_four_3 C hret N (v1) (x1) S H locs ls h (lv_sub hl [1, 2, 0] rfl) hP hD hS
set_option maxHeartbeats 4000000 in
set_option maxRecDepth 100000 in
theorem zm_X11_four (l : Launch) (D : va_G) (a z : Nat → Nat) (cI cL cB cZ : ClassId) (sz N : Nat) (v1 : Int32) (S : mq_St) (res : Unit × mq_St) (h : zf_X11_four N z v1 S = some res) : Met l yX11_four (zc_X11_four :: mq_T) zr_X11_four (va_Pc [.ref (a 0), .int (v1)] (fun U => U.heap.size = sz ∧ va_P D vwCl (wd_R a cI cL cB cZ z S) U.heap ∧ va_K D vwCl (mq_tys cI cL cB cZ) U ∧ va_D (fun _ => True) (wd_R a cI cL cB cZ z S))) (va_Qv (fun u : mq_St => u = res.2) (fun u t => va_P D vwCl (wd_R a cI cL cB cZ z u) t.heap ∧ va_K D vwCl (mq_tys cI cL cB cZ) t ∧ va_D (va_A (wd_R a cI cL cB cZ z S) sz) (wd_R a cI cL cB cZ z u)) (va_A (wd_R a cI cL cB cZ z S) sz)) 0 0 (va_A (wd_R a cI cL cB cZ z S) sz) := by
  refine Met.ofW (cc := cX11_four) (maxL := 3) (ret := none) (by decide) rfl ?_
  intro p e s m args below meth c s₁ B hml hv
  obtain ⟨rfl, hsz, hP, hK, hD0⟩ := hv
  have hr := B.returns
  have hlocks := B.notSynchronized
  have hts := atoms_spec (ws := zc_X11_four :: mq_T) B.pre
  have hown : s.vm.findClass RX11 = some m.cls := findClass_of_methodNamed B.named
  subst hsz
  have hD := hD0.self (sz := s.heap.size)
  generalize hAe : va_A (wd_R a cI cL cB cZ z S) s.heap.size = A at hD ⊢
  have hA : ∀ q : Nat, s.heap.size ≤ q → A q := fun q h => by rw [← hAe]; exact Or.inr h
  have hl := lv_entry ([.ref (a 0), .int (v1)]) (n := 3) (Nat.le_of_ble_eq_true rfl)
  rw [lg_entry_eq]
  generalize (lg_sl ([.ref (a 0), .int (v1)]) ++ List.replicate (3 - (lg_sl ([.ref (a 0), .int (v1)])).length) Slot.unset).toArray = ls at hl ⊢
  have hl : lv_has ls 3 [(0, .ref (a 0)), (1, .int (v1))] := hl
  refine zw_X11_four_0 (A := A) ⟨B.exec, B.bytes, hml, hown, hts, hK, hA⟩ (fun H locs ls pc dg hP hD hS => ?_) v1 S s.heap [] ls h hl hP hD va_S.rf
  exact W.vret B.exec B.bytes hr (fun t ht hW => ⟨⟨_, rfl, rfl, by rw [ht]; exact hP, va_K.moved hW.alike hK, hD⟩, hS.F ht⟩) hS.2.2 dg
theorem zt_X11_four_c : zc_X11_four ∈ mq_T := mq_T_mem (mq_t6 (List.mem_of_getElem? (i := 162) rfl)) rfl
theorem zt_X11_four_i : Cond.instanceMethod yX11_four ∈ mq_T := mq_T_mem (mq_t6 (List.mem_of_getElem? (i := 161) rfl)) rfl
theorem zt_X11_four_s : Cond.selects RX11 yX11_four yX11_four ∈ mq_T := mq_T_at 65 (by decide +kernel)
set_option maxHeartbeats 4000000 in
theorem zk_X11_four {p : Program} {l : Launch} {e : Env} {R : Room} {s : State} {m : MethodId} {args : Array Value} {below : List Frame} {meth : Method} {c : Code} {A : Nat → Prop} {D : va_G} {a z : Nat → Nat} {cI cL cB cZ : ClassId} {Q : State → Prop} {cc : ByteArray} {nL idx pc N : Nat} {own : String} {c1 : Cond} {H : Heap} {locs : List Loc} {ls : Array Slot} {rest : List Value} {S : mq_St} {res : Unit × mq_St} {v1 : Int32} (C : mq_C p s m args c A D cI cL cB cZ cc nL own c1) (hlk : Cond.methodLink own idx yX11_four ∈ mq_T) (hR : zr_X11_four.frames + 1 ≤ R.frames ∧ 8 + (3 + 11) + zr_X11_four.locals ≤ R.locals) (h : zf_X11_four N z v1 S = some res) (hP : va_P D vwCl (wd_R a cI cL cB cZ z S) H) (hD : va_D A (wd_R a cI cL cB cZ z S)) (hS : va_S A s.heap H locs) (hls : ls.size = nL) (hrest : (rest.map fun v => v.category).sum ≤ 8) (hdg : decode cc pc = .ok (.invokevirtual idx, 3)) (kk : ∀ (H1 : Heap) (locs1 : List Loc), va_P D vwCl (wd_R a cI cL cB cZ z res.2) H1 → va_D A (wd_R a cI cL cB cZ z res.2) → va_S A s.heap H1 locs1 → W p l e R s m args below meth c H1 locs1 0 0 Q (F0 m (pc + 3) ls rest)) : W p l e R s m args below meth c H locs 0 0 Q (F0 m pc ls (.int (v1) :: .ref (a 0) :: rest)) := by
  obtain ⟨hx, hb, hml, hown, hts, hK, hA⟩ := C
  have hFc := mq_freeI hD hS hA
  refine va_callv (va_runV (As := [.int (v1)]) (rest := rest) ⟨hx, hb, hml, hown, hts⟩ (zm_X11_four l D a z cI cL cB cZ H.size N v1 S res h) (cwV 1 hts (mq_goodL (mq_wsV hlk zt_X11_four_i zt_X11_four_s zt_ini_X11 zt_X11_four_c)) rfl rfl rfl (by decide +kernel) hR) ⟨fun a U g mk q => ⟨q.1, q.2.1, q.2.2.1, va_K.moved (u := U) (U := U.calling g mk a) (Vm.Alike.refl U.vm) q.2.2.2.1, q.2.2.2.2⟩, zy_R_0 hK hP, fun U hU hW => ⟨rfl, by rw [hU], by rw [hU]; exact hP, va_K.moved hW.alike hK, hD.weaken (fun _ _ _ _ => trivial)⟩⟩ rfl rfl hls rfl (lv_room hrest) hdg ⟨Nat.zero_le _, Nat.zero_le _⟩) hS (fun q _ h => hFc q h) hFc (fun u t H1 locs ht hvm hw hB hz1 hk1 hS => ?_)
  subst hw
  obtain ⟨hP1, hK1, hD1⟩ := hB
  rw [ht] at hP1
  exact kk H1 locs hP1 (hD1.weaken (fun _ _ _ h => hFc _ h)) hS
theorem zt_f_X11_151 : Cond.fieldLink RX11 151 "ModalDeskModel" "code" "I" ∈ mq_T := mq_T_mem (mq_t5 (List.mem_of_getElem? (i := 165) rfl)) rfl
theorem zs_wd_R_i_0_0 (a z : Nat → Nat) (cI cL cB cZ : ClassId) (S : mq_St) (v : Int32) : (wd_R a cI cL cB cZ z S).set 0 (a 0, .inr (11, ([.int (S.1 0), .ref (a 1), .int (S.1 1), .ref (a 2), .int (S.1 2), .ref (a 3), .ref (a 4), .ref (a 5), .int (S.1 3), .ref (a 6), .ref (a 7), .int (S.1 4), .int (S.1 5), .int (S.1 6), .ref (a 8), .ref (a 9), .ref (a 10), .ref (a 11), .ref (a 12), .int (S.1 7), .int (S.1 8), .int (S.1 9), .int (S.1 10), .int (S.1 11), .int (S.1 12), .int (S.1 13), .ref (a 13), .ref (a 14), .int (S.1 14), .int (S.1 15), .int (S.1 16), .ref (a 15), .int (S.1 17), .ref (a 16), .ref (a 17), .ref (a 18), .int (S.1 18), .int (S.1 19), .int (S.1 20), .int (S.1 21), .int (S.1 22), .int (S.1 23), .int (S.1 24), .int (S.1 25), .ref (a 19), .ref (a 20), .ref (a 21), .ref (a 22), .ref (a 23), .int (S.1 26), .ref (a 24), .ref (a 25), .int (S.1 27), .int (S.1 28), .ref (a 26), .ref (a 27), .ref (a 28), .ref (a 29), .ref (a 30), .ref (a 31), .ref (a 32), .int (S.1 29), .int (S.1 30), .ref (a 33), .ref (a 34), .int (S.1 31), .ref (a 35), .ref (a 36), .ref (a 37), .ref (a 38), .ref (a 39), .ref (a 40), .ref (a 41), .ref (a 42), .ref (a 43), .ref (a 44)] : List Value).set 0 (.int v))) = (wd_R a cI cL cB cZ z (mq_si S 0 v)) := rfl
theorem zt_m_X11_157 : Cond.methodLink RX11 157 yX11_four ∈ mq_T := mq_T_mem (mq_t6 (List.mem_of_getElem? (i := 159) rfl)) rfl
/-! ModalDeskModel.feed(IIIII)I -/
def zr_X11_feed : Room := { frames := 1, cells := 0, slots := 0, locals := 22 }
def zc_X11_feed : Cond := .code yX11_feed cX11_feed 6 (some .int)
def zf_X11_feed (N : Nat) (z : Nat → Nat) (v1 : Int32) (v2 : Int32) (v3 : Int32) (v4 : Int32) (v5 : Int32) (S : mq_St) : Option (Int32 × mq_St) := (mq_nS (mq_si S 0 ((0 : Int32))) (fun S1 => (if ((S1.1 1) + (20 : Int32)) ≤ (4000 : Int32) then (mq_cl (zf_X11_four N z (v1) S1) (fun q2v S4 => (mq_cl (zf_X11_four N z (v2) S4) (fun q5v S7 => (mq_cl (zf_X11_four N z (v3) S7) (fun q8v S10 => (mq_cl (zf_X11_four N z (v4) S10) (fun q11v S13 => (mq_cl (zf_X11_four N z (v5) S13) (fun q14v S16 => (some ((S16.1 1), S16)))))))))))) else (some ((-1 : Int32), S1)))))
set_option maxHeartbeats 4000000 in
set_option maxRecDepth 100000 in
theorem zw_X11_feed_0 {p : Program} {l : Launch} {e : Env} {s : State} {m : MethodId} {args : Array Value} {below : List Frame} {meth : Method} {c : Code} {A : Nat → Prop} {D : va_G} {a z : Nat → Nat} {cI cL cB cZ : ClassId} {Q : State → Prop} {N : Nat} {res : Int32 × mq_St} (C : mq_C p s m args c A D cI cL cB cZ cX11_feed 6 RX11 zc_X11_feed) (hret : ∀ (H : Heap) (locs : List Loc) (ls : Array Slot) (pc : Nat), decode cX11_feed pc = .ok (.ireturn, 1) → va_P D vwCl (wd_R a cI cL cB cZ z res.2) H → va_D A (wd_R a cI cL cB cZ z res.2) → va_S A s.heap H locs → W p l e zr_X11_feed s m args below meth c H locs 0 0 Q (F0 m pc ls [.int res.1])) (v1 : Int32) (v2 : Int32) (v3 : Int32) (v4 : Int32) (v5 : Int32) (S : mq_St) (H : Heap) (locs : List Loc) (ls : Array Slot) (h : zf_X11_feed N z v1 v2 v3 v4 v5 S = some res) (hl : lv_has ls 6 [(0, .ref (a 0)), (1, .int (v1)), (2, .int (v2)), (3, .int (v3)), (4, .int (v4)), (5, .int (v5))]) (hP : va_P D vwCl (wd_R a cI cL cB cZ z S) H) (hD : va_D A (wd_R a cI cL cB cZ z S)) (hS : va_S A s.heap H locs) : W p l e zr_X11_feed s m args below meth c H locs 0 0 Q (F0 m 0 ls []) := by
  obtain ⟨hx, hb, hml, hown, hts, hK, hA⟩ := id C
  unfold zf_X11_feed at h
  refine lv_aload_n hx hb dX11_feed_0 rfl (lv_at hl 0 rfl) ?_
  refine lv_iconst (v := (0 : Int32)) hx hb dX11_feed_1 (by decide) ?_
  refine mq_put (w := wd_R a cI cL cB cZ z) (S := S) (D := D) (ci := 11) (v := (0 : Int32)) (ty := .int) (C := RX11) (T := TX11) (N := 76) hx hb hts (zi_X11 _) tyX11 tyX11_ok nmX11 hown hK hP hD hS 0 rfl rfl 0 (by decide) (hts _ (List.mem_cons_of_mem _ zt_f_X11_151)) (fun _ h9 => h9) rfl (by decide +kernel) rfl rfl (Nat.le_of_ble_eq_true rfl) dX11_feed_2 0 (zs_wd_R_i_0_0 _ _ _ _ _ _ _ _) (fun S1 eS1 H locs hP hD hS => ?_)
  replace h := mq_nS_go eS1 h
  refine lv_aload_n hx hb dX11_feed_5 rfl (lv_at hl 0 rfl) ?_
  refine va_get (D := D) (ci := 11) (v := .int ((S1.1 1))) (C := RX11) (T := TX11) (N := 76) hx hb hts (zi_X11 _) hown hK hP 0 rfl rfl 2 (by decide) (hts _ (List.mem_cons_of_mem _ zt_f_X11_154)) (fun _ h9 => h9) rfl dX11_feed_6 ?_
  refine lv_bipush (v := (20 : Int32)) hx hb dX11_feed_9 (by decide) ?_
  refine lv_iadd hx hb dX11_feed_11 ?_
  refine lv_sipush (v := (4000 : Int32)) hx hb dX11_feed_12 (by decide) ?_
  refine lv_icmp_le (tgt := 20) hx hb dX11_feed_15 (by decide) (fun c17 => ?_) (fun c17 => ?_)
  · replace h := mq_it c17 h
    refine lv_aload_n hx hb dX11_feed_20 rfl (lv_at hl 0 rfl) ?_
    refine lv_iload_n hx hb dX11_feed_21 rfl (lv_at hl 1 rfl) ?_
    obtain ⟨q2, hc3, h⟩ := mq_cl_go h
    refine zk_X11_four C zt_m_X11_157 ⟨by decide, by decide⟩ hc3 hP hD hS hl.1 (Nat.le_of_ble_eq_true rfl) dX11_feed_22 (fun H locs hP hD hS => ?_)
    obtain ⟨S4, eS4⟩ : ∃ y, y = q2.2 := ⟨_, rfl⟩
    rw [← eS4] at hP hD h
    refine lv_aload_n hx hb dX11_feed_25 rfl (lv_at hl 0 rfl) ?_
    refine lv_iload_n hx hb dX11_feed_26 rfl (lv_at hl 2 rfl) ?_
    obtain ⟨q5, hc6, h⟩ := mq_cl_go h
    refine zk_X11_four C zt_m_X11_157 ⟨by decide, by decide⟩ hc6 hP hD hS hl.1 (Nat.le_of_ble_eq_true rfl) dX11_feed_27 (fun H locs hP hD hS => ?_)
    obtain ⟨S7, eS7⟩ : ∃ y, y = q5.2 := ⟨_, rfl⟩
    rw [← eS7] at hP hD h
    refine lv_aload_n hx hb dX11_feed_30 rfl (lv_at hl 0 rfl) ?_
    refine lv_iload_n hx hb dX11_feed_31 rfl (lv_at hl 3 rfl) ?_
    obtain ⟨q8, hc9, h⟩ := mq_cl_go h
    refine zk_X11_four C zt_m_X11_157 ⟨by decide, by decide⟩ hc9 hP hD hS hl.1 (Nat.le_of_ble_eq_true rfl) dX11_feed_32 (fun H locs hP hD hS => ?_)
    obtain ⟨S10, eS10⟩ : ∃ y, y = q8.2 := ⟨_, rfl⟩
    rw [← eS10] at hP hD h
    refine lv_aload_n hx hb dX11_feed_35 rfl (lv_at hl 0 rfl) ?_
    refine lv_iload hx hb dX11_feed_36 (lv_at hl 4 rfl) ?_
    obtain ⟨q11, hc12, h⟩ := mq_cl_go h
    refine zk_X11_four C zt_m_X11_157 ⟨by decide, by decide⟩ hc12 hP hD hS hl.1 (Nat.le_of_ble_eq_true rfl) dX11_feed_38 (fun H locs hP hD hS => ?_)
    obtain ⟨S13, eS13⟩ : ∃ y, y = q11.2 := ⟨_, rfl⟩
    rw [← eS13] at hP hD h
    refine lv_aload_n hx hb dX11_feed_41 rfl (lv_at hl 0 rfl) ?_
    refine lv_iload hx hb dX11_feed_42 (lv_at hl 5 rfl) ?_
    obtain ⟨q14, hc15, h⟩ := mq_cl_go h
    refine zk_X11_four C zt_m_X11_157 ⟨by decide, by decide⟩ hc15 hP hD hS hl.1 (Nat.le_of_ble_eq_true rfl) dX11_feed_44 (fun H locs hP hD hS => ?_)
    obtain ⟨S16, eS16⟩ : ∃ y, y = q14.2 := ⟨_, rfl⟩
    rw [← eS16] at hP hD h
    refine lv_aload_n hx hb dX11_feed_47 rfl (lv_at hl 0 rfl) ?_
    refine va_get (D := D) (ci := 11) (v := .int ((S16.1 1))) (C := RX11) (T := TX11) (N := 76) hx hb hts (zi_X11 _) hown hK hP 0 rfl rfl 2 (by decide) (hts _ (List.mem_cons_of_mem _ zt_f_X11_154)) (fun _ h9 => h9) rfl dX11_feed_48 ?_
    cases h
    exact hret H locs ls 51 dX11_feed_51 hP hD hS
  · replace h := mq_if c17 h
    refine lv_iconst (v := (-1 : Int32)) hx hb dX11_feed_18 (by decide) ?_
    cases h
    exact hret H locs ls 19 dX11_feed_19 hP hD hS
set_option maxHeartbeats 4000000 in
set_option maxRecDepth 100000 in
theorem zm_X11_feed (l : Launch) (D : va_G) (a z : Nat → Nat) (cI cL cB cZ : ClassId) (sz N : Nat) (v1 : Int32) (v2 : Int32) (v3 : Int32) (v4 : Int32) (v5 : Int32) (S : mq_St) (res : Int32 × mq_St) (h : zf_X11_feed N z v1 v2 v3 v4 v5 S = some res) : Met l yX11_feed (zc_X11_feed :: mq_T) zr_X11_feed (va_Pc [.ref (a 0), .int (v1), .int (v2), .int (v3), .int (v4), .int (v5)] (fun U => U.heap.size = sz ∧ va_P D vwCl (wd_R a cI cL cB cZ z S) U.heap ∧ va_K D vwCl (mq_tys cI cL cB cZ) U ∧ va_D (fun _ => True) (wd_R a cI cL cB cZ z S))) (va_Qi (fun (r : Int32) (u : mq_St) => r = res.1 ∧ u = res.2) (fun u t => va_P D vwCl (wd_R a cI cL cB cZ z u) t.heap ∧ va_K D vwCl (mq_tys cI cL cB cZ) t ∧ va_D (va_A (wd_R a cI cL cB cZ z S) sz) (wd_R a cI cL cB cZ z u)) (va_A (wd_R a cI cL cB cZ z S) sz)) 0 0 (va_A (wd_R a cI cL cB cZ z S) sz) := by
  refine Met.ofW (cc := cX11_feed) (maxL := 6) (ret := (some .int)) (by decide) rfl ?_
  intro p e s m args below meth c s₁ B hml hv
  obtain ⟨rfl, hsz, hP, hK, hD0⟩ := hv
  have hr := B.returns
  have hlocks := B.notSynchronized
  have hts := atoms_spec (ws := zc_X11_feed :: mq_T) B.pre
  have hown : s.vm.findClass RX11 = some m.cls := findClass_of_methodNamed B.named
  subst hsz
  have hD := hD0.self (sz := s.heap.size)
  generalize hAe : va_A (wd_R a cI cL cB cZ z S) s.heap.size = A at hD ⊢
  have hA : ∀ q : Nat, s.heap.size ≤ q → A q := fun q h => by rw [← hAe]; exact Or.inr h
  have hl := lv_entry ([.ref (a 0), .int (v1), .int (v2), .int (v3), .int (v4), .int (v5)]) (n := 6) (Nat.le_of_ble_eq_true rfl)
  rw [lg_entry_eq]
  generalize (lg_sl ([.ref (a 0), .int (v1), .int (v2), .int (v3), .int (v4), .int (v5)]) ++ List.replicate (6 - (lg_sl ([.ref (a 0), .int (v1), .int (v2), .int (v3), .int (v4), .int (v5)])).length) Slot.unset).toArray = ls at hl ⊢
  have hl : lv_has ls 6 [(0, .ref (a 0)), (1, .int (v1)), (2, .int (v2)), (3, .int (v3)), (4, .int (v4)), (5, .int (v5))] := hl
  refine zw_X11_feed_0 (A := A) ⟨B.exec, B.bytes, hml, hown, hts, hK, hA⟩ (fun H locs ls pc dg hP hD hS => ?_) v1 v2 v3 v4 v5 S s.heap [] ls h hl hP hD va_S.rf
  exact W.iret B.exec B.bytes hr (fun t ht hW => ⟨⟨_, _, rfl, ⟨rfl, rfl⟩, by rw [ht]; exact hP, va_K.moved hW.alike hK, hD⟩, hS.F ht⟩) hS.2.2 dg
theorem zt_X11_feed_c : zc_X11_feed ∈ mq_T := mq_T_mem (mq_t6 (List.mem_of_getElem? (i := 158) rfl)) rfl
theorem zt_X11_feed_i : Cond.instanceMethod yX11_feed ∈ mq_T := mq_T_mem (mq_t6 (List.mem_of_getElem? (i := 156) rfl)) rfl
theorem zt_X11_feed_s : Cond.selects RX11 yX11_feed yX11_feed ∈ mq_T := mq_T_mem (mq_t6 (List.mem_of_getElem? (i := 157) rfl)) rfl
theorem zt_m_X11_161 : Cond.methodLink RX11 161 yX11_in ∈ mq_T := mq_T_mem (mq_t6 (List.mem_of_getElem? (i := 167) rfl)) rfl
/-! ModalDeskModel.end(I)I -/
def zr_X11_end : Room := { frames := 1, cells := 0, slots := 0, locals := 22 }
def zc_X11_end : Cond := .code yX11_end cX11_end 2 (some .int)
def zf_X11_end (N : Nat) (z : Nat → Nat) (v1 : Int32) (S : mq_St) : Option (Int32 × mq_St) := (mq_nS (mq_si S 0 ((0 : Int32))) (fun S1 => (mq_cp (zf_X11_in N z (v1) ((0 : Int32)) ((S1.1 1)) (mq_pull S1 [] [] [])) (fun q2 => (if q2 = (0 : Int32) then (some ((-1 : Int32), S1)) else (mq_nS (mq_si S1 1 (v1)) (fun S4 => (some (v1, S4)))))))))
set_option maxHeartbeats 4000000 in
set_option maxRecDepth 100000 in
theorem zw_X11_end_0 {p : Program} {l : Launch} {e : Env} {s : State} {m : MethodId} {args : Array Value} {below : List Frame} {meth : Method} {c : Code} {A : Nat → Prop} {D : va_G} {a z : Nat → Nat} {cI cL cB cZ : ClassId} {Q : State → Prop} {N : Nat} {res : Int32 × mq_St} (C : mq_C p s m args c A D cI cL cB cZ cX11_end 2 RX11 zc_X11_end) (hret : ∀ (H : Heap) (locs : List Loc) (ls : Array Slot) (pc : Nat), decode cX11_end pc = .ok (.ireturn, 1) → va_P D vwCl (wd_R a cI cL cB cZ z res.2) H → va_D A (wd_R a cI cL cB cZ z res.2) → va_S A s.heap H locs → W p l e zr_X11_end s m args below meth c H locs 0 0 Q (F0 m pc ls [.int res.1])) (v1 : Int32) (S : mq_St) (H : Heap) (locs : List Loc) (ls : Array Slot) (h : zf_X11_end N z v1 S = some res) (hl : lv_has ls 2 [(0, .ref (a 0)), (1, .int (v1))]) (hP : va_P D vwCl (wd_R a cI cL cB cZ z S) H) (hD : va_D A (wd_R a cI cL cB cZ z S)) (hS : va_S A s.heap H locs) : W p l e zr_X11_end s m args below meth c H locs 0 0 Q (F0 m 0 ls []) := by
  obtain ⟨hx, hb, hml, hown, hts, hK, hA⟩ := id C
  unfold zf_X11_end at h
  refine lv_aload_n hx hb dX11_end_0 rfl (lv_at hl 0 rfl) ?_
  refine lv_iconst (v := (0 : Int32)) hx hb dX11_end_1 (by decide) ?_
  refine mq_put (w := wd_R a cI cL cB cZ z) (S := S) (D := D) (ci := 11) (v := (0 : Int32)) (ty := .int) (C := RX11) (T := TX11) (N := 76) hx hb hts (zi_X11 _) tyX11 tyX11_ok nmX11 hown hK hP hD hS 0 rfl rfl 0 (by decide) (hts _ (List.mem_cons_of_mem _ zt_f_X11_151)) (fun _ h9 => h9) rfl (by decide +kernel) rfl rfl (Nat.le_of_ble_eq_true rfl) dX11_end_2 0 (zs_wd_R_i_0_0 _ _ _ _ _ _ _ _) (fun S1 eS1 H locs hP hD hS => ?_)
  replace h := mq_nS_go eS1 h
  refine lv_iload_n hx hb dX11_end_5 rfl (lv_at hl 1 rfl) ?_
  refine lv_iconst (v := (0 : Int32)) hx hb dX11_end_6 (by decide) ?_
  refine lv_aload_n hx hb dX11_end_7 rfl (lv_at hl 0 rfl) ?_
  refine va_get (D := D) (ci := 11) (v := .int ((S1.1 1))) (C := RX11) (T := TX11) (N := 76) hx hb hts (zi_X11 _) hown hK hP 0 rfl rfl 2 (by decide) (hts _ (List.mem_cons_of_mem _ zt_f_X11_154)) (fun _ h9 => h9) rfl dX11_end_8 ?_
  obtain ⟨q2, hc3, h⟩ := mq_cp_go h
  refine zv_X11_in (a := mq_ad a []) (z := z) [] C zt_m_X11_161 ⟨by decide, by decide⟩ hc3 rfl (by decide) hP hD hS hl.1 (Nat.le_of_ble_eq_true rfl) dX11_end_11 (fun H locs hP hD hS => ?_)
  refine lv_if_ne (tgt := 19) hx hb dX11_end_14 (by decide) (fun c5 => ?_) (fun c5 => ?_)
  · replace h := mq_if c5 h
    refine lv_aload_n hx hb dX11_end_19 rfl (lv_at hl 0 rfl) ?_
    refine lv_iload_n hx hb dX11_end_20 rfl (lv_at hl 1 rfl) ?_
    refine mq_put (w := wd_R a cI cL cB cZ z) (S := S1) (D := D) (ci := 11) (v := v1) (ty := .int) (C := RX11) (T := TX11) (N := 76) hx hb hts (zi_X11 _) tyX11 tyX11_ok nmX11 hown hK hP hD hS 0 rfl rfl 2 (by decide) (hts _ (List.mem_cons_of_mem _ zt_f_X11_154)) (fun _ h9 => h9) rfl (by decide +kernel) rfl rfl (Nat.le_of_ble_eq_true rfl) dX11_end_21 1 (zs_wd_R_i_0_1 _ _ _ _ _ _ _ _) (fun S4 eS4 H locs hP hD hS => ?_)
    replace h := mq_nS_go eS4 h
    refine lv_iload_n hx hb dX11_end_24 rfl (lv_at hl 1 rfl) ?_
    cases h
    exact hret H locs ls 25 dX11_end_25 hP hD hS
  · replace h := mq_it (by simpa using c5) h
    refine lv_iconst (v := (-1 : Int32)) hx hb dX11_end_17 (by decide) ?_
    cases h
    exact hret H locs ls 18 dX11_end_18 hP hD hS
set_option maxHeartbeats 4000000 in
set_option maxRecDepth 100000 in
theorem zm_X11_end (l : Launch) (D : va_G) (a z : Nat → Nat) (cI cL cB cZ : ClassId) (sz N : Nat) (v1 : Int32) (S : mq_St) (res : Int32 × mq_St) (h : zf_X11_end N z v1 S = some res) : Met l yX11_end (zc_X11_end :: mq_T) zr_X11_end (va_Pc [.ref (a 0), .int (v1)] (fun U => U.heap.size = sz ∧ va_P D vwCl (wd_R a cI cL cB cZ z S) U.heap ∧ va_K D vwCl (mq_tys cI cL cB cZ) U ∧ va_D (fun _ => True) (wd_R a cI cL cB cZ z S))) (va_Qi (fun (r : Int32) (u : mq_St) => r = res.1 ∧ u = res.2) (fun u t => va_P D vwCl (wd_R a cI cL cB cZ z u) t.heap ∧ va_K D vwCl (mq_tys cI cL cB cZ) t ∧ va_D (va_A (wd_R a cI cL cB cZ z S) sz) (wd_R a cI cL cB cZ z u)) (va_A (wd_R a cI cL cB cZ z S) sz)) 0 0 (va_A (wd_R a cI cL cB cZ z S) sz) := by
  refine Met.ofW (cc := cX11_end) (maxL := 2) (ret := (some .int)) (by decide) rfl ?_
  intro p e s m args below meth c s₁ B hml hv
  obtain ⟨rfl, hsz, hP, hK, hD0⟩ := hv
  have hr := B.returns
  have hlocks := B.notSynchronized
  have hts := atoms_spec (ws := zc_X11_end :: mq_T) B.pre
  have hown : s.vm.findClass RX11 = some m.cls := findClass_of_methodNamed B.named
  subst hsz
  have hD := hD0.self (sz := s.heap.size)
  generalize hAe : va_A (wd_R a cI cL cB cZ z S) s.heap.size = A at hD ⊢
  have hA : ∀ q : Nat, s.heap.size ≤ q → A q := fun q h => by rw [← hAe]; exact Or.inr h
  have hl := lv_entry ([.ref (a 0), .int (v1)]) (n := 2) (Nat.le_of_ble_eq_true rfl)
  rw [lg_entry_eq]
  generalize (lg_sl ([.ref (a 0), .int (v1)]) ++ List.replicate (2 - (lg_sl ([.ref (a 0), .int (v1)])).length) Slot.unset).toArray = ls at hl ⊢
  have hl : lv_has ls 2 [(0, .ref (a 0)), (1, .int (v1))] := hl
  refine zw_X11_end_0 (A := A) ⟨B.exec, B.bytes, hml, hown, hts, hK, hA⟩ (fun H locs ls pc dg hP hD hS => ?_) v1 S s.heap [] ls h hl hP hD va_S.rf
  exact W.iret B.exec B.bytes hr (fun t ht hW => ⟨⟨_, _, rfl, ⟨rfl, rfl⟩, by rw [ht]; exact hP, va_K.moved hW.alike hK, hD⟩, hS.F ht⟩) hS.2.2 dg
theorem zt_X11_end_c : zc_X11_end ∈ mq_T := mq_T_mem (mq_t6 (List.mem_of_getElem? (i := 166) rfl)) rfl
theorem zt_X11_end_i : Cond.instanceMethod yX11_end ∈ mq_T := mq_T_mem (mq_t6 (List.mem_of_getElem? (i := 164) rfl)) rfl
theorem zt_X11_end_s : Cond.selects RX11 yX11_end yX11_end ∈ mq_T := mq_T_mem (mq_t6 (List.mem_of_getElem? (i := 165) rfl)) rfl
theorem zt_f_X11_165 : Cond.fieldLink RX11 165 "ModalDeskModel" "outs" "I" ∈ mq_T := mq_T_mem (mq_t5 (List.mem_of_getElem? (i := 169) rfl)) rfl
theorem zt_f_X11_13 : Cond.fieldLink RX11 13 "ModalDeskModel" "out" "[B" ∈ mq_T := mq_T_mem (mq_t5 (List.mem_of_getElem? (i := 168) rfl)) rfl
/-! ModalDeskModel.take()I -/
def zr_X11_take : Room := { frames := 0, cells := 0, slots := 0, locals := 0 }
def zc_X11_take : Cond := .code yX11_take cX11_take 2 (some .int)
def zf_X11_take_7b (N : Nat) (z : Nat → Nat) (k7 : Int32 → mq_St → Option (Int32 × mq_St)) (v1 : Int32) (S : mq_St) : Option (Int32 × mq_St) := (if (S.1 2) ≤ v1 then (mq_nS (mq_si S 1 ((S.1 2))) (fun S3 => (some ((S3.1 1), S3)))) else (mq_ck (v1) 4000 (mq_ck (v1) 4000 (mq_nS (mq_sa S 0 (upd (S.2.1 0) (v1).toNatClampNeg (vp_nar .byte ((S.2.1 1 (v1).toNatClampNeg))))) (fun S6 => (mq_nI (v1 + (1 : Int32)) (fun x7 => (k7 (x7) S6))))))))
def zf_X11_take_7 (N : Nat) (z : Nat → Nat) : Nat → Int32 → mq_St → Option (Int32 × mq_St)
  | 0, _, _ => none
  | n + 1, v1, S => zf_X11_take_7b N z (fun v1 S => zf_X11_take_7 N z n v1 S) v1 S
def zf_X11_take (N : Nat) (z : Nat → Nat) (S : mq_St) : Option (Int32 × mq_St) := (mq_nS (mq_si S 0 ((0 : Int32))) (fun S1 => (mq_nI ((0 : Int32)) (fun x2 => (zf_X11_take_7 N z N (x2) S1)))))
set_option maxHeartbeats 4000000 in
set_option maxRecDepth 100000 in
theorem zw_X11_take_7b {p : Program} {l : Launch} {e : Env} {s : State} {m : MethodId} {args : Array Value} {below : List Frame} {meth : Method} {c : Code} {A : Nat → Prop} {D : va_G} {a z : Nat → Nat} {cI cL cB cZ : ClassId} {Q : State → Prop} {N : Nat} {res : Int32 × mq_St} {k7 : Int32 → mq_St → Option (Int32 × mq_St)} (C : mq_C p s m args c A D cI cL cB cZ cX11_take 2 RX11 zc_X11_take) (hret : ∀ (H : Heap) (locs : List Loc) (ls : Array Slot) (pc : Nat), decode cX11_take pc = .ok (.ireturn, 1) → va_P D vwCl (wd_R a cI cL cB cZ z res.2) H → va_D A (wd_R a cI cL cB cZ z res.2) → va_S A s.heap H locs → W p l e zr_X11_take s m args below meth c H locs 0 0 Q (F0 m pc ls [.int res.1])) (hk7 : ∀ (v1 : Int32) (S : mq_St) (H : Heap) (locs : List Loc) (ls : Array Slot), k7 v1 S = some res → lv_has ls 2 [(0, .ref (a 0)), (1, .int (v1))] → va_P D vwCl (wd_R a cI cL cB cZ z S) H → va_D A (wd_R a cI cL cB cZ z S) → va_S A s.heap H locs → W p l e zr_X11_take s m args below meth c H locs 0 0 Q (F0 m 7 ls [])) (v1 : Int32) (S : mq_St) (H : Heap) (locs : List Loc) (ls : Array Slot) (h : zf_X11_take_7b N z k7 v1 S = some res) (hl : lv_has ls 2 [(0, .ref (a 0)), (1, .int (v1))]) (hP : va_P D vwCl (wd_R a cI cL cB cZ z S) H) (hD : va_D A (wd_R a cI cL cB cZ z S)) (hS : va_S A s.heap H locs) : W p l e zr_X11_take s m args below meth c H locs 0 0 Q (F0 m 7 ls []) := by
  obtain ⟨hx, hb, hml, hown, hts, hK, hA⟩ := id C
  unfold zf_X11_take_7b at h
  refine lv_iload_n hx hb dX11_take_7 rfl (lv_at hl 1 rfl) ?_
  refine lv_aload_n hx hb dX11_take_8 rfl (lv_at hl 0 rfl) ?_
  refine va_get (D := D) (ci := 11) (v := .int ((S.1 2))) (C := RX11) (T := TX11) (N := 76) hx hb hts (zi_X11 _) hown hK hP 0 rfl rfl 4 (by decide) (hts _ (List.mem_cons_of_mem _ zt_f_X11_165)) (fun _ h9 => h9) rfl dX11_take_9 ?_
  refine lv_icmp_ge (tgt := 33) hx hb dX11_take_12 (by decide) (fun c8 => ?_) (fun c8 => ?_)
  · replace h := mq_it c8 h
    refine lv_aload_n hx hb dX11_take_33 rfl (lv_at hl 0 rfl) ?_
    refine lv_aload_n hx hb dX11_take_34 rfl (lv_at hl 0 rfl) ?_
    refine va_get (D := D) (ci := 11) (v := .int ((S.1 2))) (C := RX11) (T := TX11) (N := 76) hx hb hts (zi_X11 _) hown hK hP 0 rfl rfl 4 (by decide) (hts _ (List.mem_cons_of_mem _ zt_f_X11_165)) (fun _ h9 => h9) rfl dX11_take_35 ?_
    refine mq_put (w := wd_R a cI cL cB cZ z) (S := S) (D := D) (ci := 11) (v := (S.1 2)) (ty := .int) (C := RX11) (T := TX11) (N := 76) hx hb hts (zi_X11 _) tyX11 tyX11_ok nmX11 hown hK hP hD hS 0 rfl rfl 2 (by decide) (hts _ (List.mem_cons_of_mem _ zt_f_X11_154)) (fun _ h9 => h9) rfl (by decide +kernel) rfl rfl (Nat.le_of_ble_eq_true rfl) dX11_take_38 1 (zs_wd_R_i_0_1 _ _ _ _ _ _ _ _) (fun S3 eS3 H locs hP hD hS => ?_)
    replace h := mq_nS_go eS3 h
    refine lv_aload_n hx hb dX11_take_41 rfl (lv_at hl 0 rfl) ?_
    refine va_get (D := D) (ci := 11) (v := .int ((S3.1 1))) (C := RX11) (T := TX11) (N := 76) hx hb hts (zi_X11 _) hown hK hP 0 rfl rfl 2 (by decide) (hts _ (List.mem_cons_of_mem _ zt_f_X11_154)) (fun _ h9 => h9) rfl dX11_take_42 ?_
    cases h
    exact hret H locs ls 45 dX11_take_45 hP hD hS
  · replace h := mq_if c8 h
    refine lv_aload_n hx hb dX11_take_15 rfl (lv_at hl 0 rfl) ?_
    refine va_get (D := D) (ci := 11) (v := .ref (a 1)) (C := RX11) (T := TX11) (N := 76) hx hb hts (zi_X11 _) hown hK hP 0 rfl rfl 1 (by decide) (hts _ (List.mem_cons_of_mem _ zt_f_X11_7)) (fun _ h9 => h9) rfl dX11_take_16 ?_
    refine lv_iload_n hx hb dX11_take_19 rfl (lv_at hl 1 rfl) ?_
    refine lv_aload_n hx hb dX11_take_20 rfl (lv_at hl 0 rfl) ?_
    refine va_get (D := D) (ci := 11) (v := .ref (a 2)) (C := RX11) (T := TX11) (N := 76) hx hb hts (zi_X11 _) hown hK hP 0 rfl rfl 3 (by decide) (hts _ (List.mem_cons_of_mem _ zt_f_X11_13)) (fun _ h9 => h9) rfl dX11_take_21 ?_
    refine lv_iload_n hx hb dX11_take_24 rfl (lv_at hl 1 rfl) ?_
    have hi4 := mq_ck_in h
    replace h := mq_ck_go h
    refine va_bald (f := S.2.1 1) hx hb hK hP 2 2 rfl rfl hi4 dX11_take_25 ?_
    have hi5 := mq_ck_in h
    replace h := mq_ck_go h
    refine mq_bast (w := wd_R a cI cL cB cZ z) (S := S) (f := S.2.1 0) hx hb hK hP hD hS 1 2 rfl rfl hi5 dX11_take_26 0 (zs_wd_R_a_1_0 _ _ _ _ _ _ _ _) (fun S6 eS6 H locs hP hD hS => ?_)
    replace h := mq_nS_go eS6 h
    obtain ⟨x7, ex7⟩ : ∃ y : Int32, y = v1 + (1 : Int32) := ⟨_, rfl⟩
    replace h := mq_nI_go ex7 h
    refine lv_iinc (v := x7) (lv' := [(1, .int (x7)), (0, .ref (a 0))]) hx hb dX11_take_27 hl (k := 1) rfl (by rw [ex7]; rfl) (by decide) rfl (fun ls hl => ?_)
    refine lv_goto (tgt := 7) hx hb dX11_take_30 (by decide) ?_
    exact hk7 (x7) S6 H locs ls h (lv_sub hl [1, 0] rfl) hP hD hS
set_option maxHeartbeats 4000000 in
set_option maxRecDepth 100000 in
theorem zw_X11_take_7 {p : Program} {l : Launch} {e : Env} {s : State} {m : MethodId} {args : Array Value} {below : List Frame} {meth : Method} {c : Code} {A : Nat → Prop} {D : va_G} {a z : Nat → Nat} {cI cL cB cZ : ClassId} {Q : State → Prop} {N : Nat} {res : Int32 × mq_St} (C : mq_C p s m args c A D cI cL cB cZ cX11_take 2 RX11 zc_X11_take) (hret : ∀ (H : Heap) (locs : List Loc) (ls : Array Slot) (pc : Nat), decode cX11_take pc = .ok (.ireturn, 1) → va_P D vwCl (wd_R a cI cL cB cZ z res.2) H → va_D A (wd_R a cI cL cB cZ z res.2) → va_S A s.heap H locs → W p l e zr_X11_take s m args below meth c H locs 0 0 Q (F0 m pc ls [.int res.1])) : ∀ (n : Nat) (v1 : Int32) (S : mq_St) (H : Heap) (locs : List Loc) (ls : Array Slot) (h : zf_X11_take_7 N z n v1 S = some res) (hl : lv_has ls 2 [(0, .ref (a 0)), (1, .int (v1))]) (hP : va_P D vwCl (wd_R a cI cL cB cZ z S) H) (hD : va_D A (wd_R a cI cL cB cZ z S)) (hS : va_S A s.heap H locs), W p l e zr_X11_take s m args below meth c H locs 0 0 Q (F0 m 7 ls []) := by
  intro n
  induction n with
  | zero =>
    intro v1 S H locs ls h hl hP hD hS
    exact nomatch (show (none : Option (Int32 × mq_St)) = some res from h)
  | succ n ih =>
    intro v1 S H locs ls h hl hP hD hS
    exact zw_X11_take_7b C hret (fun v1 S H locs ls h hl hP hD hS => ih v1 S H locs ls h hl hP hD hS) v1 S H locs ls h hl hP hD hS
set_option maxHeartbeats 4000000 in
set_option maxRecDepth 100000 in
theorem zw_X11_take_0 {p : Program} {l : Launch} {e : Env} {s : State} {m : MethodId} {args : Array Value} {below : List Frame} {meth : Method} {c : Code} {A : Nat → Prop} {D : va_G} {a z : Nat → Nat} {cI cL cB cZ : ClassId} {Q : State → Prop} {N : Nat} {res : Int32 × mq_St} (C : mq_C p s m args c A D cI cL cB cZ cX11_take 2 RX11 zc_X11_take) (hret : ∀ (H : Heap) (locs : List Loc) (ls : Array Slot) (pc : Nat), decode cX11_take pc = .ok (.ireturn, 1) → va_P D vwCl (wd_R a cI cL cB cZ z res.2) H → va_D A (wd_R a cI cL cB cZ z res.2) → va_S A s.heap H locs → W p l e zr_X11_take s m args below meth c H locs 0 0 Q (F0 m pc ls [.int res.1])) (S : mq_St) (H : Heap) (locs : List Loc) (ls : Array Slot) (h : zf_X11_take N z S = some res) (hl : lv_has ls 2 [(0, .ref (a 0))]) (hP : va_P D vwCl (wd_R a cI cL cB cZ z S) H) (hD : va_D A (wd_R a cI cL cB cZ z S)) (hS : va_S A s.heap H locs) : W p l e zr_X11_take s m args below meth c H locs 0 0 Q (F0 m 0 ls []) := by
  obtain ⟨hx, hb, hml, hown, hts, hK, hA⟩ := id C
  unfold zf_X11_take at h
  refine lv_aload_n hx hb dX11_take_0 rfl (lv_at hl 0 rfl) ?_
  refine lv_iconst (v := (0 : Int32)) hx hb dX11_take_1 (by decide) ?_
  refine mq_put (w := wd_R a cI cL cB cZ z) (S := S) (D := D) (ci := 11) (v := (0 : Int32)) (ty := .int) (C := RX11) (T := TX11) (N := 76) hx hb hts (zi_X11 _) tyX11 tyX11_ok nmX11 hown hK hP hD hS 0 rfl rfl 0 (by decide) (hts _ (List.mem_cons_of_mem _ zt_f_X11_151)) (fun _ h9 => h9) rfl (by decide +kernel) rfl rfl (Nat.le_of_ble_eq_true rfl) dX11_take_2 0 (zs_wd_R_i_0_0 _ _ _ _ _ _ _ _) (fun S1 eS1 H locs hP hD hS => ?_)
  replace h := mq_nS_go eS1 h
  refine lv_iconst (v := (0 : Int32)) hx hb dX11_take_5 (by decide) ?_
  refine lv_topi (fun x2 ex2 => ?_)
  replace h := mq_nI_go ex2 h
  refine lv_istore_n (lv' := [(1, .int (x2)), (0, .ref (a 0))]) hx hb dX11_take_6 rfl hl (by decide) rfl (fun ls hl => ?_)
  exact zw_X11_take_7 C hret N (x2) S1 H locs ls h (lv_sub hl [1, 0] rfl) hP hD hS
set_option maxHeartbeats 4000000 in
set_option maxRecDepth 100000 in
theorem zm_X11_take (l : Launch) (D : va_G) (a z : Nat → Nat) (cI cL cB cZ : ClassId) (sz N : Nat) (S : mq_St) (res : Int32 × mq_St) (h : zf_X11_take N z S = some res) : Met l yX11_take (zc_X11_take :: mq_T) zr_X11_take (va_Pc [.ref (a 0)] (fun U => U.heap.size = sz ∧ va_P D vwCl (wd_R a cI cL cB cZ z S) U.heap ∧ va_K D vwCl (mq_tys cI cL cB cZ) U ∧ va_D (fun _ => True) (wd_R a cI cL cB cZ z S))) (va_Qi (fun (r : Int32) (u : mq_St) => r = res.1 ∧ u = res.2) (fun u t => va_P D vwCl (wd_R a cI cL cB cZ z u) t.heap ∧ va_K D vwCl (mq_tys cI cL cB cZ) t ∧ va_D (va_A (wd_R a cI cL cB cZ z S) sz) (wd_R a cI cL cB cZ z u)) (va_A (wd_R a cI cL cB cZ z S) sz)) 0 0 (va_A (wd_R a cI cL cB cZ z S) sz) := by
  refine Met.ofW (cc := cX11_take) (maxL := 2) (ret := (some .int)) (by decide) rfl ?_
  intro p e s m args below meth c s₁ B hml hv
  obtain ⟨rfl, hsz, hP, hK, hD0⟩ := hv
  have hr := B.returns
  have hlocks := B.notSynchronized
  have hts := atoms_spec (ws := zc_X11_take :: mq_T) B.pre
  have hown : s.vm.findClass RX11 = some m.cls := findClass_of_methodNamed B.named
  subst hsz
  have hD := hD0.self (sz := s.heap.size)
  generalize hAe : va_A (wd_R a cI cL cB cZ z S) s.heap.size = A at hD ⊢
  have hA : ∀ q : Nat, s.heap.size ≤ q → A q := fun q h => by rw [← hAe]; exact Or.inr h
  have hl := lv_entry ([.ref (a 0)]) (n := 2) (Nat.le_of_ble_eq_true rfl)
  rw [lg_entry_eq]
  generalize (lg_sl ([.ref (a 0)]) ++ List.replicate (2 - (lg_sl ([.ref (a 0)])).length) Slot.unset).toArray = ls at hl ⊢
  have hl : lv_has ls 2 [(0, .ref (a 0))] := hl
  refine zw_X11_take_0 (A := A) ⟨B.exec, B.bytes, hml, hown, hts, hK, hA⟩ (fun H locs ls pc dg hP hD hS => ?_) S s.heap [] ls h hl hP hD va_S.rf
  exact W.iret B.exec B.bytes hr (fun t ht hW => ⟨⟨_, _, rfl, ⟨rfl, rfl⟩, by rw [ht]; exact hP, va_K.moved hW.alike hK, hD⟩, hS.F ht⟩) hS.2.2 dg
theorem zt_X11_take_c : zc_X11_take ∈ mq_T := mq_T_mem (mq_t6 (List.mem_of_getElem? (i := 173) rfl)) rfl
theorem zt_X11_take_i : Cond.instanceMethod yX11_take ∈ mq_T := mq_T_mem (mq_t6 (List.mem_of_getElem? (i := 171) rfl)) rfl
theorem zt_X11_take_s : Cond.selects RX11 yX11_take yX11_take ∈ mq_T := mq_T_mem (mq_t6 (List.mem_of_getElem? (i := 172) rfl)) rfl
/-! ModalDeskModel.alter(II)Z -/
def zr_X11_alter : Room := { frames := 1, cells := 0, slots := 0, locals := 22 }
def zc_X11_alter : Cond := .code yX11_alter cX11_alter 3 (some .boolean)
def zf_X11_alter (N : Nat) (z : Nat → Nat) (v1 : Int32) (v2 : Int32) (S : mq_St) : Option (Int32 × mq_St) := (mq_nS (mq_si S 0 ((0 : Int32))) (fun S1 => (mq_cp (zf_X11_in N z (v1) ((0 : Int32)) (((S1.1 1) - (1 : Int32))) (mq_pull S1 [] [] [])) (fun q2 => (if q2 = (0 : Int32) then (mq_cz ((0 : Int32)) (some ((0 : Int32), S1))) else (mq_ck (v1) 4000 (mq_nS (mq_sa S1 0 (upd (S1.2.1 0) (v1).toNatClampNeg (vp_nar .byte (((v2).toInt8.toInt32))))) (fun S5 => (mq_cz ((1 : Int32)) (some ((1 : Int32), S5)))))))))))
set_option maxHeartbeats 4000000 in
set_option maxRecDepth 100000 in
theorem zw_X11_alter_0 {p : Program} {l : Launch} {e : Env} {s : State} {m : MethodId} {args : Array Value} {below : List Frame} {meth : Method} {c : Code} {A : Nat → Prop} {D : va_G} {a z : Nat → Nat} {cI cL cB cZ : ClassId} {Q : State → Prop} {N : Nat} {res : Int32 × mq_St} (C : mq_C p s m args c A D cI cL cB cZ cX11_alter 3 RX11 zc_X11_alter) (hret : ∀ (H : Heap) (locs : List Loc) (ls : Array Slot) (pc : Nat), decode cX11_alter pc = .ok (.ireturn, 1) → narrow .boolean (.int res.1) = .int res.1 → va_P D vwCl (wd_R a cI cL cB cZ z res.2) H → va_D A (wd_R a cI cL cB cZ z res.2) → va_S A s.heap H locs → W p l e zr_X11_alter s m args below meth c H locs 0 0 Q (F0 m pc ls [.int res.1])) (v1 : Int32) (v2 : Int32) (S : mq_St) (H : Heap) (locs : List Loc) (ls : Array Slot) (h : zf_X11_alter N z v1 v2 S = some res) (hl : lv_has ls 3 [(0, .ref (a 0)), (1, .int (v1)), (2, .int (v2))]) (hP : va_P D vwCl (wd_R a cI cL cB cZ z S) H) (hD : va_D A (wd_R a cI cL cB cZ z S)) (hS : va_S A s.heap H locs) : W p l e zr_X11_alter s m args below meth c H locs 0 0 Q (F0 m 0 ls []) := by
  obtain ⟨hx, hb, hml, hown, hts, hK, hA⟩ := id C
  unfold zf_X11_alter at h
  refine lv_aload_n hx hb dX11_alter_0 rfl (lv_at hl 0 rfl) ?_
  refine lv_iconst (v := (0 : Int32)) hx hb dX11_alter_1 (by decide) ?_
  refine mq_put (w := wd_R a cI cL cB cZ z) (S := S) (D := D) (ci := 11) (v := (0 : Int32)) (ty := .int) (C := RX11) (T := TX11) (N := 76) hx hb hts (zi_X11 _) tyX11 tyX11_ok nmX11 hown hK hP hD hS 0 rfl rfl 0 (by decide) (hts _ (List.mem_cons_of_mem _ zt_f_X11_151)) (fun _ h9 => h9) rfl (by decide +kernel) rfl rfl (Nat.le_of_ble_eq_true rfl) dX11_alter_2 0 (zs_wd_R_i_0_0 _ _ _ _ _ _ _ _) (fun S1 eS1 H locs hP hD hS => ?_)
  replace h := mq_nS_go eS1 h
  refine lv_iload_n hx hb dX11_alter_5 rfl (lv_at hl 1 rfl) ?_
  refine lv_iconst (v := (0 : Int32)) hx hb dX11_alter_6 (by decide) ?_
  refine lv_aload_n hx hb dX11_alter_7 rfl (lv_at hl 0 rfl) ?_
  refine va_get (D := D) (ci := 11) (v := .int ((S1.1 1))) (C := RX11) (T := TX11) (N := 76) hx hb hts (zi_X11 _) hown hK hP 0 rfl rfl 2 (by decide) (hts _ (List.mem_cons_of_mem _ zt_f_X11_154)) (fun _ h9 => h9) rfl dX11_alter_8 ?_
  refine lv_iconst (v := (1 : Int32)) hx hb dX11_alter_11 (by decide) ?_
  refine lv_isub hx hb dX11_alter_12 ?_
  obtain ⟨q2, hc3, h⟩ := mq_cp_go h
  refine zv_X11_in (a := mq_ad a []) (z := z) [] C zt_m_X11_161 ⟨by decide, by decide⟩ hc3 rfl (by decide) hP hD hS hl.1 (Nat.le_of_ble_eq_true rfl) dX11_alter_13 (fun H locs hP hD hS => ?_)
  refine lv_if_ne (tgt := 21) hx hb dX11_alter_16 (by decide) (fun c8 => ?_) (fun c8 => ?_)
  · replace h := mq_if c8 h
    refine lv_aload_n hx hb dX11_alter_21 rfl (lv_at hl 0 rfl) ?_
    refine va_get (D := D) (ci := 11) (v := .ref (a 1)) (C := RX11) (T := TX11) (N := 76) hx hb hts (zi_X11 _) hown hK hP 0 rfl rfl 1 (by decide) (hts _ (List.mem_cons_of_mem _ zt_f_X11_7)) (fun _ h9 => h9) rfl dX11_alter_22 ?_
    refine lv_iload_n hx hb dX11_alter_25 rfl (lv_at hl 1 rfl) ?_
    refine lv_iload_n hx hb dX11_alter_26 rfl (lv_at hl 2 rfl) ?_
    refine lv_i2b (v := (v2).toInt8.toInt32) hx hb dX11_alter_27 rfl ?_
    have hi4 := mq_ck_in h
    replace h := mq_ck_go h
    refine mq_bast (w := wd_R a cI cL cB cZ z) (S := S1) (f := S1.2.1 0) hx hb hK hP hD hS 1 2 rfl rfl hi4 dX11_alter_28 0 (zs_wd_R_a_1_0 _ _ _ _ _ _ _ _) (fun S5 eS5 H locs hP hD hS => ?_)
    replace h := mq_nS_go eS5 h
    refine lv_iconst (v := (1 : Int32)) hx hb dX11_alter_29 (by decide) ?_
    have hz6 := mq_cz_in h
    replace h := mq_cz_go h
    cases h
    exact hret H locs ls 30 dX11_alter_30 hz6.1 hP hD hS
  · replace h := mq_it (by simpa using c8) h
    refine lv_iconst (v := (0 : Int32)) hx hb dX11_alter_19 (by decide) ?_
    have hz7 := mq_cz_in h
    replace h := mq_cz_go h
    cases h
    exact hret H locs ls 20 dX11_alter_20 hz7.1 hP hD hS
set_option maxHeartbeats 4000000 in
set_option maxRecDepth 100000 in
theorem zm_X11_alter (l : Launch) (D : va_G) (a z : Nat → Nat) (cI cL cB cZ : ClassId) (sz N : Nat) (v1 : Int32) (v2 : Int32) (S : mq_St) (res : Int32 × mq_St) (h : zf_X11_alter N z v1 v2 S = some res) : Met l yX11_alter (zc_X11_alter :: mq_T) zr_X11_alter (va_Pc [.ref (a 0), .int (v1), .int (v2)] (fun U => U.heap.size = sz ∧ va_P D vwCl (wd_R a cI cL cB cZ z S) U.heap ∧ va_K D vwCl (mq_tys cI cL cB cZ) U ∧ va_D (fun _ => True) (wd_R a cI cL cB cZ z S))) (va_Qi (fun (r : Int32) (u : mq_St) => r = res.1 ∧ u = res.2) (fun u t => va_P D vwCl (wd_R a cI cL cB cZ z u) t.heap ∧ va_K D vwCl (mq_tys cI cL cB cZ) t ∧ va_D (va_A (wd_R a cI cL cB cZ z S) sz) (wd_R a cI cL cB cZ z u)) (va_A (wd_R a cI cL cB cZ z S) sz)) 0 0 (va_A (wd_R a cI cL cB cZ z S) sz) := by
  refine Met.ofW (cc := cX11_alter) (maxL := 3) (ret := (some .boolean)) (by decide) rfl ?_
  intro p e s m args below meth c s₁ B hml hv
  obtain ⟨rfl, hsz, hP, hK, hD0⟩ := hv
  have hr := B.returns
  have hlocks := B.notSynchronized
  have hts := atoms_spec (ws := zc_X11_alter :: mq_T) B.pre
  have hown : s.vm.findClass RX11 = some m.cls := findClass_of_methodNamed B.named
  subst hsz
  have hD := hD0.self (sz := s.heap.size)
  generalize hAe : va_A (wd_R a cI cL cB cZ z S) s.heap.size = A at hD ⊢
  have hA : ∀ q : Nat, s.heap.size ≤ q → A q := fun q h => by rw [← hAe]; exact Or.inr h
  have hl := lv_entry ([.ref (a 0), .int (v1), .int (v2)]) (n := 3) (Nat.le_of_ble_eq_true rfl)
  rw [lg_entry_eq]
  generalize (lg_sl ([.ref (a 0), .int (v1), .int (v2)]) ++ List.replicate (3 - (lg_sl ([.ref (a 0), .int (v1), .int (v2)])).length) Slot.unset).toArray = ls at hl ⊢
  have hl : lv_has ls 3 [(0, .ref (a 0)), (1, .int (v1)), (2, .int (v2))] := hl
  refine zw_X11_alter_0 (A := A) ⟨B.exec, B.bytes, hml, hown, hts, hK, hA⟩ (fun H locs ls pc dg hz hP hD hS => ?_) v1 v2 S s.heap [] ls h hl hP hD va_S.rf
  exact W.zret B.exec B.bytes hr hz (fun t ht hW => ⟨⟨_, _, rfl, ⟨rfl, rfl⟩, by rw [ht]; exact hP, va_K.moved hW.alike hK, hD⟩, hS.F ht⟩) hS.2.2 dg
theorem zt_X11_alter_c : zc_X11_alter ∈ mq_T := mq_T_mem (mq_t6 (List.mem_of_getElem? (i := 177) rfl)) rfl
theorem zt_X11_alter_i : Cond.instanceMethod yX11_alter ∈ mq_T := mq_T_mem (mq_t6 (List.mem_of_getElem? (i := 175) rfl)) rfl
theorem zt_X11_alter_s : Cond.selects RX11 yX11_alter yX11_alter ∈ mq_T := mq_T_mem (mq_t6 (List.mem_of_getElem? (i := 176) rfl)) rfl
/-! ModalDeskModel.out(I)I -/
def zr_X11_out : Room := { frames := 1, cells := 0, slots := 0, locals := 22 }
def zc_X11_out : Cond := .code yX11_out cX11_out 2 (some .int)
def zf_X11_out (N : Nat) (z : Nat → Nat) (v1 : Int32) (S : mq_St) : Option (Int32 × mq_St) := (mq_nS (mq_si S 0 ((0 : Int32))) (fun S1 => (mq_cp (zf_X11_in N z (v1) ((0 : Int32)) (((S1.1 2) - (1 : Int32))) (mq_pull S1 [] [] [])) (fun q2 => (if q2 = (0 : Int32) then (some ((-1 : Int32), S1)) else (mq_ck (v1) 4000 (some (((S1.2.1 1 (v1).toNatClampNeg) &&& (255 : Int32)), S1))))))))
set_option maxHeartbeats 4000000 in
set_option maxRecDepth 100000 in
theorem zw_X11_out_0 {p : Program} {l : Launch} {e : Env} {s : State} {m : MethodId} {args : Array Value} {below : List Frame} {meth : Method} {c : Code} {A : Nat → Prop} {D : va_G} {a z : Nat → Nat} {cI cL cB cZ : ClassId} {Q : State → Prop} {N : Nat} {res : Int32 × mq_St} (C : mq_C p s m args c A D cI cL cB cZ cX11_out 2 RX11 zc_X11_out) (hret : ∀ (H : Heap) (locs : List Loc) (ls : Array Slot) (pc : Nat), decode cX11_out pc = .ok (.ireturn, 1) → va_P D vwCl (wd_R a cI cL cB cZ z res.2) H → va_D A (wd_R a cI cL cB cZ z res.2) → va_S A s.heap H locs → W p l e zr_X11_out s m args below meth c H locs 0 0 Q (F0 m pc ls [.int res.1])) (v1 : Int32) (S : mq_St) (H : Heap) (locs : List Loc) (ls : Array Slot) (h : zf_X11_out N z v1 S = some res) (hl : lv_has ls 2 [(0, .ref (a 0)), (1, .int (v1))]) (hP : va_P D vwCl (wd_R a cI cL cB cZ z S) H) (hD : va_D A (wd_R a cI cL cB cZ z S)) (hS : va_S A s.heap H locs) : W p l e zr_X11_out s m args below meth c H locs 0 0 Q (F0 m 0 ls []) := by
  obtain ⟨hx, hb, hml, hown, hts, hK, hA⟩ := id C
  unfold zf_X11_out at h
  refine lv_aload_n hx hb dX11_out_0 rfl (lv_at hl 0 rfl) ?_
  refine lv_iconst (v := (0 : Int32)) hx hb dX11_out_1 (by decide) ?_
  refine mq_put (w := wd_R a cI cL cB cZ z) (S := S) (D := D) (ci := 11) (v := (0 : Int32)) (ty := .int) (C := RX11) (T := TX11) (N := 76) hx hb hts (zi_X11 _) tyX11 tyX11_ok nmX11 hown hK hP hD hS 0 rfl rfl 0 (by decide) (hts _ (List.mem_cons_of_mem _ zt_f_X11_151)) (fun _ h9 => h9) rfl (by decide +kernel) rfl rfl (Nat.le_of_ble_eq_true rfl) dX11_out_2 0 (zs_wd_R_i_0_0 _ _ _ _ _ _ _ _) (fun S1 eS1 H locs hP hD hS => ?_)
  replace h := mq_nS_go eS1 h
  refine lv_iload_n hx hb dX11_out_5 rfl (lv_at hl 1 rfl) ?_
  refine lv_iconst (v := (0 : Int32)) hx hb dX11_out_6 (by decide) ?_
  refine lv_aload_n hx hb dX11_out_7 rfl (lv_at hl 0 rfl) ?_
  refine va_get (D := D) (ci := 11) (v := .int ((S1.1 2))) (C := RX11) (T := TX11) (N := 76) hx hb hts (zi_X11 _) hown hK hP 0 rfl rfl 4 (by decide) (hts _ (List.mem_cons_of_mem _ zt_f_X11_165)) (fun _ h9 => h9) rfl dX11_out_8 ?_
  refine lv_iconst (v := (1 : Int32)) hx hb dX11_out_11 (by decide) ?_
  refine lv_isub hx hb dX11_out_12 ?_
  obtain ⟨q2, hc3, h⟩ := mq_cp_go h
  refine zv_X11_in (a := mq_ad a []) (z := z) [] C zt_m_X11_161 ⟨by decide, by decide⟩ hc3 rfl (by decide) hP hD hS hl.1 (Nat.le_of_ble_eq_true rfl) dX11_out_13 (fun H locs hP hD hS => ?_)
  refine lv_if_eq (tgt := 32) hx hb dX11_out_16 (by decide) (fun c5 => ?_) (fun c5 => ?_)
  · replace h := mq_it c5 h
    refine lv_iconst (v := (-1 : Int32)) hx hb dX11_out_32 (by decide) ?_
    cases h
    exact hret H locs ls 33 dX11_out_33 hP hD hS
  · replace h := mq_if c5 h
    refine lv_aload_n hx hb dX11_out_19 rfl (lv_at hl 0 rfl) ?_
    refine va_get (D := D) (ci := 11) (v := .ref (a 2)) (C := RX11) (T := TX11) (N := 76) hx hb hts (zi_X11 _) hown hK hP 0 rfl rfl 3 (by decide) (hts _ (List.mem_cons_of_mem _ zt_f_X11_13)) (fun _ h9 => h9) rfl dX11_out_20 ?_
    refine lv_iload_n hx hb dX11_out_23 rfl (lv_at hl 1 rfl) ?_
    have hi4 := mq_ck_in h
    replace h := mq_ck_go h
    refine va_bald (f := S1.2.1 1) hx hb hK hP 2 2 rfl rfl hi4 dX11_out_24 ?_
    refine lv_sipush (v := (255 : Int32)) hx hb dX11_out_25 (by decide) ?_
    refine lv_iand hx hb dX11_out_28 ?_
    refine lv_goto (tgt := 33) hx hb dX11_out_29 (by decide) ?_
    cases h
    exact hret H locs ls 33 dX11_out_33 hP hD hS
set_option maxHeartbeats 4000000 in
set_option maxRecDepth 100000 in
theorem zm_X11_out (l : Launch) (D : va_G) (a z : Nat → Nat) (cI cL cB cZ : ClassId) (sz N : Nat) (v1 : Int32) (S : mq_St) (res : Int32 × mq_St) (h : zf_X11_out N z v1 S = some res) : Met l yX11_out (zc_X11_out :: mq_T) zr_X11_out (va_Pc [.ref (a 0), .int (v1)] (fun U => U.heap.size = sz ∧ va_P D vwCl (wd_R a cI cL cB cZ z S) U.heap ∧ va_K D vwCl (mq_tys cI cL cB cZ) U ∧ va_D (fun _ => True) (wd_R a cI cL cB cZ z S))) (va_Qi (fun (r : Int32) (u : mq_St) => r = res.1 ∧ u = res.2) (fun u t => va_P D vwCl (wd_R a cI cL cB cZ z u) t.heap ∧ va_K D vwCl (mq_tys cI cL cB cZ) t ∧ va_D (va_A (wd_R a cI cL cB cZ z S) sz) (wd_R a cI cL cB cZ z u)) (va_A (wd_R a cI cL cB cZ z S) sz)) 0 0 (va_A (wd_R a cI cL cB cZ z S) sz) := by
  refine Met.ofW (cc := cX11_out) (maxL := 2) (ret := (some .int)) (by decide) rfl ?_
  intro p e s m args below meth c s₁ B hml hv
  obtain ⟨rfl, hsz, hP, hK, hD0⟩ := hv
  have hr := B.returns
  have hlocks := B.notSynchronized
  have hts := atoms_spec (ws := zc_X11_out :: mq_T) B.pre
  have hown : s.vm.findClass RX11 = some m.cls := findClass_of_methodNamed B.named
  subst hsz
  have hD := hD0.self (sz := s.heap.size)
  generalize hAe : va_A (wd_R a cI cL cB cZ z S) s.heap.size = A at hD ⊢
  have hA : ∀ q : Nat, s.heap.size ≤ q → A q := fun q h => by rw [← hAe]; exact Or.inr h
  have hl := lv_entry ([.ref (a 0), .int (v1)]) (n := 2) (Nat.le_of_ble_eq_true rfl)
  rw [lg_entry_eq]
  generalize (lg_sl ([.ref (a 0), .int (v1)]) ++ List.replicate (2 - (lg_sl ([.ref (a 0), .int (v1)])).length) Slot.unset).toArray = ls at hl ⊢
  have hl : lv_has ls 2 [(0, .ref (a 0)), (1, .int (v1))] := hl
  refine zw_X11_out_0 (A := A) ⟨B.exec, B.bytes, hml, hown, hts, hK, hA⟩ (fun H locs ls pc dg hP hD hS => ?_) v1 S s.heap [] ls h hl hP hD va_S.rf
  exact W.iret B.exec B.bytes hr (fun t ht hW => ⟨⟨_, _, rfl, ⟨rfl, rfl⟩, by rw [ht]; exact hP, va_K.moved hW.alike hK, hD⟩, hS.F ht⟩) hS.2.2 dg
theorem zt_X11_out_c : zc_X11_out ∈ mq_T := mq_T_mem (mq_t6 (List.mem_of_getElem? (i := 181) rfl)) rfl
theorem zt_X11_out_i : Cond.instanceMethod yX11_out ∈ mq_T := mq_T_mem (mq_t6 (List.mem_of_getElem? (i := 179) rfl)) rfl
theorem zt_X11_out_s : Cond.selects RX11 yX11_out yX11_out ∈ mq_T := mq_T_mem (mq_t6 (List.mem_of_getElem? (i := 180) rfl)) rfl
theorem zt_f_X11_26 : Cond.fieldLink RX11 26 "ModalDeskModel" "formulas" "I" ∈ mq_T := mq_T_mem (mq_t5 (List.mem_of_getElem? (i := 173) rfl)) rfl
theorem zt_f_X11_16 : Cond.fieldLink RX11 16 "ModalDeskModel" "sort" "[I" ∈ mq_T := mq_T_mem (mq_t5 (List.mem_of_getElem? (i := 170) rfl)) rfl
theorem zs_wd_R_a_3_2 (a z : Nat → Nat) (cI cL cB cZ : ClassId) (S : mq_St) (f : Nat → Int32) : (wd_R a cI cL cB cZ z S).set 3 (a 3, .inl (cI, 300, .inl f)) = (wd_R a cI cL cB cZ z (mq_sa S 2 f)) := rfl
theorem zt_f_X11_20 : Cond.fieldLink RX11 20 "ModalDeskModel" "one" "[I" ∈ mq_T := mq_T_mem (mq_t5 (List.mem_of_getElem? (i := 171) rfl)) rfl
theorem zs_wd_R_a_4_3 (a z : Nat → Nat) (cI cL cB cZ : ClassId) (S : mq_St) (f : Nat → Int32) : (wd_R a cI cL cB cZ z S).set 4 (a 4, .inl (cI, 300, .inl f)) = (wd_R a cI cL cB cZ z (mq_sa S 3 f)) := rfl
theorem zt_f_X11_23 : Cond.fieldLink RX11 23 "ModalDeskModel" "two" "[I" ∈ mq_T := mq_T_mem (mq_t5 (List.mem_of_getElem? (i := 172) rfl)) rfl
theorem zs_wd_R_a_5_4 (a z : Nat → Nat) (cI cL cB cZ : ClassId) (S : mq_St) (f : Nat → Int32) : (wd_R a cI cL cB cZ z S).set 5 (a 5, .inl (cI, 300, .inl f)) = (wd_R a cI cL cB cZ z (mq_sa S 4 f)) := rfl
theorem zs_wd_R_i_0_3 (a z : Nat → Nat) (cI cL cB cZ : ClassId) (S : mq_St) (v : Int32) : (wd_R a cI cL cB cZ z S).set 0 (a 0, .inr (11, ([.int (S.1 0), .ref (a 1), .int (S.1 1), .ref (a 2), .int (S.1 2), .ref (a 3), .ref (a 4), .ref (a 5), .int (S.1 3), .ref (a 6), .ref (a 7), .int (S.1 4), .int (S.1 5), .int (S.1 6), .ref (a 8), .ref (a 9), .ref (a 10), .ref (a 11), .ref (a 12), .int (S.1 7), .int (S.1 8), .int (S.1 9), .int (S.1 10), .int (S.1 11), .int (S.1 12), .int (S.1 13), .ref (a 13), .ref (a 14), .int (S.1 14), .int (S.1 15), .int (S.1 16), .ref (a 15), .int (S.1 17), .ref (a 16), .ref (a 17), .ref (a 18), .int (S.1 18), .int (S.1 19), .int (S.1 20), .int (S.1 21), .int (S.1 22), .int (S.1 23), .int (S.1 24), .int (S.1 25), .ref (a 19), .ref (a 20), .ref (a 21), .ref (a 22), .ref (a 23), .int (S.1 26), .ref (a 24), .ref (a 25), .int (S.1 27), .int (S.1 28), .ref (a 26), .ref (a 27), .ref (a 28), .ref (a 29), .ref (a 30), .ref (a 31), .ref (a 32), .int (S.1 29), .int (S.1 30), .ref (a 33), .ref (a 34), .int (S.1 31), .ref (a 35), .ref (a 36), .ref (a 37), .ref (a 38), .ref (a 39), .ref (a 40), .ref (a 41), .ref (a 42), .ref (a 43), .ref (a 44)] : List Value).set 8 (.int v))) = (wd_R a cI cL cB cZ z (mq_si S 3 v)) := rfl
theorem zt_f_X11_168 : Cond.fieldLink RX11 168 "ModalDeskModel" "tooMany" "Z" ∈ mq_T := mq_T_mem (mq_t5 (List.mem_of_getElem? (i := 178) rfl)) rfl
theorem zs_wd_R_i_0_6 (a z : Nat → Nat) (cI cL cB cZ : ClassId) (S : mq_St) (v : Int32) : (wd_R a cI cL cB cZ z S).set 0 (a 0, .inr (11, ([.int (S.1 0), .ref (a 1), .int (S.1 1), .ref (a 2), .int (S.1 2), .ref (a 3), .ref (a 4), .ref (a 5), .int (S.1 3), .ref (a 6), .ref (a 7), .int (S.1 4), .int (S.1 5), .int (S.1 6), .ref (a 8), .ref (a 9), .ref (a 10), .ref (a 11), .ref (a 12), .int (S.1 7), .int (S.1 8), .int (S.1 9), .int (S.1 10), .int (S.1 11), .int (S.1 12), .int (S.1 13), .ref (a 13), .ref (a 14), .int (S.1 14), .int (S.1 15), .int (S.1 16), .ref (a 15), .int (S.1 17), .ref (a 16), .ref (a 17), .ref (a 18), .int (S.1 18), .int (S.1 19), .int (S.1 20), .int (S.1 21), .int (S.1 22), .int (S.1 23), .int (S.1 24), .int (S.1 25), .ref (a 19), .ref (a 20), .ref (a 21), .ref (a 22), .ref (a 23), .int (S.1 26), .ref (a 24), .ref (a 25), .int (S.1 27), .int (S.1 28), .ref (a 26), .ref (a 27), .ref (a 28), .ref (a 29), .ref (a 30), .ref (a 31), .ref (a 32), .int (S.1 29), .int (S.1 30), .ref (a 33), .ref (a 34), .int (S.1 31), .ref (a 35), .ref (a 36), .ref (a 37), .ref (a 38), .ref (a 39), .ref (a 40), .ref (a 41), .ref (a 42), .ref (a 43), .ref (a 44)] : List Value).set 13 (.int v))) = (wd_R a cI cL cB cZ z (mq_si S 6 v)) := rfl
/-! ModalDeskModel.make(III)I -/
def zr_X11_make : Room := { frames := 0, cells := 0, slots := 0, locals := 0 }
def zc_X11_make : Cond := .code yX11_make cX11_make 5 (some .int)
def zf_X11_make_48 (N : Nat) (z : Nat → Nat) (k3 : Int32 → Int32 → Int32 → Int32 → mq_St → Option (Int32 × mq_St)) (v1 : Int32) (v2 : Int32) (v3 : Int32) (v4 : Int32) (S : mq_St) : Option (Int32 × mq_St) := (mq_nI (v4 + (1 : Int32)) (fun x19 => (k3 (v1) (v2) (v3) (x19) S)))
def zf_X11_make_3b (N : Nat) (z : Nat → Nat) (k3 : Int32 → Int32 → Int32 → Int32 → mq_St → Option (Int32 × mq_St)) (v1 : Int32) (v2 : Int32) (v3 : Int32) (v4 : Int32) (S : mq_St) : Option (Int32 × mq_St) := (if (S.1 3) ≤ v4 then (if (S.1 3) = (300 : Int32) then (mq_cz ((1 : Int32)) (mq_nS (mq_si S 6 ((1 : Int32))) (fun S9 => (some ((0 : Int32), S9))))) else (mq_ck ((S.1 3)) 300 (mq_nS (mq_sa S 2 (upd (S.2.1 2) ((S.1 3)).toNatClampNeg (v1))) (fun S3 => (mq_ck ((S3.1 3)) 300 (mq_nS (mq_sa S3 3 (upd (S3.2.1 3) ((S3.1 3)).toNatClampNeg (v2))) (fun S5 => (mq_ck ((S5.1 3)) 300 (mq_nS (mq_sa S5 4 (upd (S5.2.1 4) ((S5.1 3)).toNatClampNeg (v3))) (fun S7 => (mq_nS (mq_si S7 3 (((S7.1 3) + (1 : Int32)))) (fun S8 => (some (((S8.1 3) - (1 : Int32)), S8)))))))))))))) else (mq_ck (v4) 300 (if (S.2.1 2 (v4).toNatClampNeg) = v1 then (mq_ck (v4) 300 (if (S.2.1 3 (v4).toNatClampNeg) = v2 then (mq_ck (v4) 300 (if (S.2.1 4 (v4).toNatClampNeg) = v3 then (some (v4, S)) else (zf_X11_make_48 N z k3 (v1) (v2) (v3) (v4) S))) else (zf_X11_make_48 N z k3 (v1) (v2) (v3) (v4) S))) else (zf_X11_make_48 N z k3 (v1) (v2) (v3) (v4) S))))
def zf_X11_make_3 (N : Nat) (z : Nat → Nat) : Nat → Int32 → Int32 → Int32 → Int32 → mq_St → Option (Int32 × mq_St)
  | 0, _, _, _, _, _ => none
  | n + 1, v1, v2, v3, v4, S => zf_X11_make_3b N z (fun v1 v2 v3 v4 S => zf_X11_make_3 N z n v1 v2 v3 v4 S) v1 v2 v3 v4 S
def zf_X11_make (N : Nat) (z : Nat → Nat) (v1 : Int32) (v2 : Int32) (v3 : Int32) (S : mq_St) : Option (Int32 × mq_St) := (mq_nI ((0 : Int32)) (fun x1 => (zf_X11_make_3 N z N (v1) (v2) (v3) (x1) S)))
set_option maxHeartbeats 4000000 in
set_option maxRecDepth 100000 in
theorem zw_X11_make_48 {p : Program} {l : Launch} {e : Env} {s : State} {m : MethodId} {args : Array Value} {below : List Frame} {meth : Method} {c : Code} {A : Nat → Prop} {D : va_G} {a z : Nat → Nat} {cI cL cB cZ : ClassId} {Q : State → Prop} {N : Nat} {res : Int32 × mq_St} {k3 : Int32 → Int32 → Int32 → Int32 → mq_St → Option (Int32 × mq_St)} (C : mq_C p s m args c A D cI cL cB cZ cX11_make 5 RX11 zc_X11_make) (hret : ∀ (H : Heap) (locs : List Loc) (ls : Array Slot) (pc : Nat), decode cX11_make pc = .ok (.ireturn, 1) → va_P D vwCl (wd_R a cI cL cB cZ z res.2) H → va_D A (wd_R a cI cL cB cZ z res.2) → va_S A s.heap H locs → W p l e zr_X11_make s m args below meth c H locs 0 0 Q (F0 m pc ls [.int res.1])) (hk3 : ∀ (v1 : Int32) (v2 : Int32) (v3 : Int32) (v4 : Int32) (S : mq_St) (H : Heap) (locs : List Loc) (ls : Array Slot), k3 v1 v2 v3 v4 S = some res → lv_has ls 5 [(0, .ref (a 0)), (1, .int (v1)), (2, .int (v2)), (3, .int (v3)), (4, .int (v4))] → va_P D vwCl (wd_R a cI cL cB cZ z S) H → va_D A (wd_R a cI cL cB cZ z S) → va_S A s.heap H locs → W p l e zr_X11_make s m args below meth c H locs 0 0 Q (F0 m 3 ls [])) (v1 : Int32) (v2 : Int32) (v3 : Int32) (v4 : Int32) (S : mq_St) (H : Heap) (locs : List Loc) (ls : Array Slot) (h : zf_X11_make_48 N z k3 v1 v2 v3 v4 S = some res) (hl : lv_has ls 5 [(0, .ref (a 0)), (1, .int (v1)), (2, .int (v2)), (3, .int (v3)), (4, .int (v4))]) (hP : va_P D vwCl (wd_R a cI cL cB cZ z S) H) (hD : va_D A (wd_R a cI cL cB cZ z S)) (hS : va_S A s.heap H locs) : W p l e zr_X11_make s m args below meth c H locs 0 0 Q (F0 m 48 ls []) := by
  obtain ⟨hx, hb, hml, hown, hts, hK, hA⟩ := id C
  unfold zf_X11_make_48 at h
  obtain ⟨x19, ex19⟩ : ∃ y : Int32, y = v4 + (1 : Int32) := ⟨_, rfl⟩
  replace h := mq_nI_go ex19 h
  refine lv_iinc (v := x19) (lv' := [(4, .int (x19)), (0, .ref (a 0)), (1, .int (v1)), (2, .int (v2)), (3, .int (v3))]) hx hb dX11_make_48 hl (k := 4) rfl (by rw [ex19]; rfl) (by decide) rfl (fun ls hl => ?_)
  refine lv_goto (tgt := 3) hx hb dX11_make_51 (by decide) ?_
  exact hk3 (v1) (v2) (v3) (x19) S H locs ls h (lv_sub hl [1, 2, 3, 4, 0] rfl) hP hD hS
set_option maxHeartbeats 4000000 in
set_option maxRecDepth 100000 in
theorem zw_X11_make_3b {p : Program} {l : Launch} {e : Env} {s : State} {m : MethodId} {args : Array Value} {below : List Frame} {meth : Method} {c : Code} {A : Nat → Prop} {D : va_G} {a z : Nat → Nat} {cI cL cB cZ : ClassId} {Q : State → Prop} {N : Nat} {res : Int32 × mq_St} {k3 : Int32 → Int32 → Int32 → Int32 → mq_St → Option (Int32 × mq_St)} (C : mq_C p s m args c A D cI cL cB cZ cX11_make 5 RX11 zc_X11_make) (hret : ∀ (H : Heap) (locs : List Loc) (ls : Array Slot) (pc : Nat), decode cX11_make pc = .ok (.ireturn, 1) → va_P D vwCl (wd_R a cI cL cB cZ z res.2) H → va_D A (wd_R a cI cL cB cZ z res.2) → va_S A s.heap H locs → W p l e zr_X11_make s m args below meth c H locs 0 0 Q (F0 m pc ls [.int res.1])) (hk3 : ∀ (v1 : Int32) (v2 : Int32) (v3 : Int32) (v4 : Int32) (S : mq_St) (H : Heap) (locs : List Loc) (ls : Array Slot), k3 v1 v2 v3 v4 S = some res → lv_has ls 5 [(0, .ref (a 0)), (1, .int (v1)), (2, .int (v2)), (3, .int (v3)), (4, .int (v4))] → va_P D vwCl (wd_R a cI cL cB cZ z S) H → va_D A (wd_R a cI cL cB cZ z S) → va_S A s.heap H locs → W p l e zr_X11_make s m args below meth c H locs 0 0 Q (F0 m 3 ls [])) (v1 : Int32) (v2 : Int32) (v3 : Int32) (v4 : Int32) (S : mq_St) (H : Heap) (locs : List Loc) (ls : Array Slot) (h : zf_X11_make_3b N z k3 v1 v2 v3 v4 S = some res) (hl : lv_has ls 5 [(0, .ref (a 0)), (1, .int (v1)), (2, .int (v2)), (3, .int (v3)), (4, .int (v4))]) (hP : va_P D vwCl (wd_R a cI cL cB cZ z S) H) (hD : va_D A (wd_R a cI cL cB cZ z S)) (hS : va_S A s.heap H locs) : W p l e zr_X11_make s m args below meth c H locs 0 0 Q (F0 m 3 ls []) := by
  obtain ⟨hx, hb, hml, hown, hts, hK, hA⟩ := id C
  unfold zf_X11_make_3b at h
  refine lv_iload hx hb dX11_make_3 (lv_at hl 4 rfl) ?_
  refine lv_aload_n hx hb dX11_make_5 rfl (lv_at hl 0 rfl) ?_
  refine va_get (D := D) (ci := 11) (v := .int ((S.1 3))) (C := RX11) (T := TX11) (N := 76) hx hb hts (zi_X11 _) hown hK hP 0 rfl rfl 8 (by decide) (hts _ (List.mem_cons_of_mem _ zt_f_X11_26)) (fun _ h9 => h9) rfl dX11_make_6 ?_
  refine lv_icmp_ge (tgt := 54) hx hb dX11_make_9 (by decide) (fun c18 => ?_) (fun c18 => ?_)
  · replace h := mq_it c18 h
    refine lv_aload_n hx hb dX11_make_54 rfl (lv_at hl 0 rfl) ?_
    refine va_get (D := D) (ci := 11) (v := .int ((S.1 3))) (C := RX11) (T := TX11) (N := 76) hx hb hts (zi_X11 _) hown hK hP 0 rfl rfl 8 (by decide) (hts _ (List.mem_cons_of_mem _ zt_f_X11_26)) (fun _ h9 => h9) rfl dX11_make_55 ?_
    refine lv_sipush (v := (300 : Int32)) hx hb dX11_make_58 (by decide) ?_
    refine lv_icmp_ne (tgt := 71) hx hb dX11_make_61 (by decide) (fun c11 => ?_) (fun c11 => ?_)
    · replace h := mq_if c11 h
      refine lv_aload_n hx hb dX11_make_71 rfl (lv_at hl 0 rfl) ?_
      refine va_get (D := D) (ci := 11) (v := .ref (a 3)) (C := RX11) (T := TX11) (N := 76) hx hb hts (zi_X11 _) hown hK hP 0 rfl rfl 5 (by decide) (hts _ (List.mem_cons_of_mem _ zt_f_X11_16)) (fun _ h9 => h9) rfl dX11_make_72 ?_
      refine lv_aload_n hx hb dX11_make_75 rfl (lv_at hl 0 rfl) ?_
      refine va_get (D := D) (ci := 11) (v := .int ((S.1 3))) (C := RX11) (T := TX11) (N := 76) hx hb hts (zi_X11 _) hown hK hP 0 rfl rfl 8 (by decide) (hts _ (List.mem_cons_of_mem _ zt_f_X11_26)) (fun _ h9 => h9) rfl dX11_make_76 ?_
      refine lv_iload_n hx hb dX11_make_79 rfl (lv_at hl 1 rfl) ?_
      have hi2 := mq_ck_in h
      replace h := mq_ck_go h
      refine mq_iast (w := wd_R a cI cL cB cZ z) (S := S) (f := S.2.1 2) hx hb hK hP hD hS 3 0 rfl rfl hi2 dX11_make_80 2 (zs_wd_R_a_3_2 _ _ _ _ _ _ _ _) (fun S3 eS3 H locs hP hD hS => ?_)
      replace h := mq_nS_go eS3 h
      refine lv_aload_n hx hb dX11_make_81 rfl (lv_at hl 0 rfl) ?_
      refine va_get (D := D) (ci := 11) (v := .ref (a 4)) (C := RX11) (T := TX11) (N := 76) hx hb hts (zi_X11 _) hown hK hP 0 rfl rfl 6 (by decide) (hts _ (List.mem_cons_of_mem _ zt_f_X11_20)) (fun _ h9 => h9) rfl dX11_make_82 ?_
      refine lv_aload_n hx hb dX11_make_85 rfl (lv_at hl 0 rfl) ?_
      refine va_get (D := D) (ci := 11) (v := .int ((S3.1 3))) (C := RX11) (T := TX11) (N := 76) hx hb hts (zi_X11 _) hown hK hP 0 rfl rfl 8 (by decide) (hts _ (List.mem_cons_of_mem _ zt_f_X11_26)) (fun _ h9 => h9) rfl dX11_make_86 ?_
      refine lv_iload_n hx hb dX11_make_89 rfl (lv_at hl 2 rfl) ?_
      have hi4 := mq_ck_in h
      replace h := mq_ck_go h
      refine mq_iast (w := wd_R a cI cL cB cZ z) (S := S3) (f := S3.2.1 3) hx hb hK hP hD hS 4 0 rfl rfl hi4 dX11_make_90 3 (zs_wd_R_a_4_3 _ _ _ _ _ _ _ _) (fun S5 eS5 H locs hP hD hS => ?_)
      replace h := mq_nS_go eS5 h
      refine lv_aload_n hx hb dX11_make_91 rfl (lv_at hl 0 rfl) ?_
      refine va_get (D := D) (ci := 11) (v := .ref (a 5)) (C := RX11) (T := TX11) (N := 76) hx hb hts (zi_X11 _) hown hK hP 0 rfl rfl 7 (by decide) (hts _ (List.mem_cons_of_mem _ zt_f_X11_23)) (fun _ h9 => h9) rfl dX11_make_92 ?_
      refine lv_aload_n hx hb dX11_make_95 rfl (lv_at hl 0 rfl) ?_
      refine va_get (D := D) (ci := 11) (v := .int ((S5.1 3))) (C := RX11) (T := TX11) (N := 76) hx hb hts (zi_X11 _) hown hK hP 0 rfl rfl 8 (by decide) (hts _ (List.mem_cons_of_mem _ zt_f_X11_26)) (fun _ h9 => h9) rfl dX11_make_96 ?_
      refine lv_iload_n hx hb dX11_make_99 rfl (lv_at hl 3 rfl) ?_
      have hi6 := mq_ck_in h
      replace h := mq_ck_go h
      refine mq_iast (w := wd_R a cI cL cB cZ z) (S := S5) (f := S5.2.1 4) hx hb hK hP hD hS 5 0 rfl rfl hi6 dX11_make_100 4 (zs_wd_R_a_5_4 _ _ _ _ _ _ _ _) (fun S7 eS7 H locs hP hD hS => ?_)
      replace h := mq_nS_go eS7 h
      refine lv_aload_n hx hb dX11_make_101 rfl (lv_at hl 0 rfl) ?_
      refine lv_dup hx hb dX11_make_102 rfl ?_
      refine va_get (D := D) (ci := 11) (v := .int ((S7.1 3))) (C := RX11) (T := TX11) (N := 76) hx hb hts (zi_X11 _) hown hK hP 0 rfl rfl 8 (by decide) (hts _ (List.mem_cons_of_mem _ zt_f_X11_26)) (fun _ h9 => h9) rfl dX11_make_103 ?_
      refine lv_iconst (v := (1 : Int32)) hx hb dX11_make_106 (by decide) ?_
      refine lv_iadd hx hb dX11_make_107 ?_
      refine mq_put (w := wd_R a cI cL cB cZ z) (S := S7) (D := D) (ci := 11) (v := ((S7.1 3) + (1 : Int32))) (ty := .int) (C := RX11) (T := TX11) (N := 76) hx hb hts (zi_X11 _) tyX11 tyX11_ok nmX11 hown hK hP hD hS 0 rfl rfl 8 (by decide) (hts _ (List.mem_cons_of_mem _ zt_f_X11_26)) (fun _ h9 => h9) rfl (by decide +kernel) rfl rfl (Nat.le_of_ble_eq_true rfl) dX11_make_108 3 (zs_wd_R_i_0_3 _ _ _ _ _ _ _ _) (fun S8 eS8 H locs hP hD hS => ?_)
      replace h := mq_nS_go eS8 h
      refine lv_aload_n hx hb dX11_make_111 rfl (lv_at hl 0 rfl) ?_
      refine va_get (D := D) (ci := 11) (v := .int ((S8.1 3))) (C := RX11) (T := TX11) (N := 76) hx hb hts (zi_X11 _) hown hK hP 0 rfl rfl 8 (by decide) (hts _ (List.mem_cons_of_mem _ zt_f_X11_26)) (fun _ h9 => h9) rfl dX11_make_112 ?_
      refine lv_iconst (v := (1 : Int32)) hx hb dX11_make_115 (by decide) ?_
      refine lv_isub hx hb dX11_make_116 ?_
      cases h
      exact hret H locs ls 117 dX11_make_117 hP hD hS
    · replace h := mq_it (by simpa using c11) h
      refine lv_aload_n hx hb dX11_make_64 rfl (lv_at hl 0 rfl) ?_
      refine lv_iconst (v := (1 : Int32)) hx hb dX11_make_65 (by decide) ?_
      have hz10 := mq_cz_in h
      replace h := mq_cz_go h
      refine mq_put (w := wd_R a cI cL cB cZ z) (S := S) (D := D) (ci := 11) (v := (1 : Int32)) (ty := .boolean) (C := RX11) (T := TX11) (N := 76) hx hb hts (zi_X11 _) tyX11 tyX11_ok nmX11 hown hK hP hD hS 0 rfl rfl 13 (by decide) (hts _ (List.mem_cons_of_mem _ zt_f_X11_168)) (fun _ h9 => h9) rfl (by decide +kernel) hz10.1 hz10.2 (Nat.le_of_ble_eq_true rfl) dX11_make_66 6 (zs_wd_R_i_0_6 _ _ _ _ _ _ _ _) (fun S9 eS9 H locs hP hD hS => ?_)
      replace h := mq_nS_go eS9 h
      refine lv_iconst (v := (0 : Int32)) hx hb dX11_make_69 (by decide) ?_
      cases h
      exact hret H locs ls 70 dX11_make_70 hP hD hS
  · replace h := mq_if c18 h
    refine lv_aload_n hx hb dX11_make_12 rfl (lv_at hl 0 rfl) ?_
    refine va_get (D := D) (ci := 11) (v := .ref (a 3)) (C := RX11) (T := TX11) (N := 76) hx hb hts (zi_X11 _) hown hK hP 0 rfl rfl 5 (by decide) (hts _ (List.mem_cons_of_mem _ zt_f_X11_16)) (fun _ h9 => h9) rfl dX11_make_13 ?_
    refine lv_iload hx hb dX11_make_16 (lv_at hl 4 rfl) ?_
    have hi12 := mq_ck_in h
    replace h := mq_ck_go h
    refine va_iald (f := S.2.1 2) hx hb hK hP 3 0 rfl rfl hi12 dX11_make_18 ?_
    refine lv_iload_n hx hb dX11_make_19 rfl (lv_at hl 1 rfl) ?_
    refine lv_icmp_ne (tgt := 48) hx hb dX11_make_20 (by decide) (fun c17 => ?_) (fun c17 => ?_)
    · replace h := mq_if c17 h
      exact zw_X11_make_48 C hret hk3 (v1) (v2) (v3) (v4) S H locs ls h (lv_sub hl [0, 1, 2, 3, 4] rfl) hP hD hS
    · replace h := mq_it (by simpa using c17) h
      refine lv_aload_n hx hb dX11_make_23 rfl (lv_at hl 0 rfl) ?_
      refine va_get (D := D) (ci := 11) (v := .ref (a 4)) (C := RX11) (T := TX11) (N := 76) hx hb hts (zi_X11 _) hown hK hP 0 rfl rfl 6 (by decide) (hts _ (List.mem_cons_of_mem _ zt_f_X11_20)) (fun _ h9 => h9) rfl dX11_make_24 ?_
      refine lv_iload hx hb dX11_make_27 (lv_at hl 4 rfl) ?_
      have hi13 := mq_ck_in h
      replace h := mq_ck_go h
      refine va_iald (f := S.2.1 3) hx hb hK hP 4 0 rfl rfl hi13 dX11_make_29 ?_
      refine lv_iload_n hx hb dX11_make_30 rfl (lv_at hl 2 rfl) ?_
      refine lv_icmp_ne (tgt := 48) hx hb dX11_make_31 (by decide) (fun c16 => ?_) (fun c16 => ?_)
      · replace h := mq_if c16 h
        exact zw_X11_make_48 C hret hk3 (v1) (v2) (v3) (v4) S H locs ls h (lv_sub hl [0, 1, 2, 3, 4] rfl) hP hD hS
      · replace h := mq_it (by simpa using c16) h
        refine lv_aload_n hx hb dX11_make_34 rfl (lv_at hl 0 rfl) ?_
        refine va_get (D := D) (ci := 11) (v := .ref (a 5)) (C := RX11) (T := TX11) (N := 76) hx hb hts (zi_X11 _) hown hK hP 0 rfl rfl 7 (by decide) (hts _ (List.mem_cons_of_mem _ zt_f_X11_23)) (fun _ h9 => h9) rfl dX11_make_35 ?_
        refine lv_iload hx hb dX11_make_38 (lv_at hl 4 rfl) ?_
        have hi14 := mq_ck_in h
        replace h := mq_ck_go h
        refine va_iald (f := S.2.1 4) hx hb hK hP 5 0 rfl rfl hi14 dX11_make_40 ?_
        refine lv_iload_n hx hb dX11_make_41 rfl (lv_at hl 3 rfl) ?_
        refine lv_icmp_ne (tgt := 48) hx hb dX11_make_42 (by decide) (fun c15 => ?_) (fun c15 => ?_)
        · replace h := mq_if c15 h
          exact zw_X11_make_48 C hret hk3 (v1) (v2) (v3) (v4) S H locs ls h (lv_sub hl [0, 1, 2, 3, 4] rfl) hP hD hS
        · replace h := mq_it (by simpa using c15) h
          refine lv_iload hx hb dX11_make_45 (lv_at hl 4 rfl) ?_
          cases h
          exact hret H locs ls 47 dX11_make_47 hP hD hS
set_option maxHeartbeats 4000000 in
set_option maxRecDepth 100000 in
theorem zw_X11_make_3 {p : Program} {l : Launch} {e : Env} {s : State} {m : MethodId} {args : Array Value} {below : List Frame} {meth : Method} {c : Code} {A : Nat → Prop} {D : va_G} {a z : Nat → Nat} {cI cL cB cZ : ClassId} {Q : State → Prop} {N : Nat} {res : Int32 × mq_St} (C : mq_C p s m args c A D cI cL cB cZ cX11_make 5 RX11 zc_X11_make) (hret : ∀ (H : Heap) (locs : List Loc) (ls : Array Slot) (pc : Nat), decode cX11_make pc = .ok (.ireturn, 1) → va_P D vwCl (wd_R a cI cL cB cZ z res.2) H → va_D A (wd_R a cI cL cB cZ z res.2) → va_S A s.heap H locs → W p l e zr_X11_make s m args below meth c H locs 0 0 Q (F0 m pc ls [.int res.1])) : ∀ (n : Nat) (v1 : Int32) (v2 : Int32) (v3 : Int32) (v4 : Int32) (S : mq_St) (H : Heap) (locs : List Loc) (ls : Array Slot) (h : zf_X11_make_3 N z n v1 v2 v3 v4 S = some res) (hl : lv_has ls 5 [(0, .ref (a 0)), (1, .int (v1)), (2, .int (v2)), (3, .int (v3)), (4, .int (v4))]) (hP : va_P D vwCl (wd_R a cI cL cB cZ z S) H) (hD : va_D A (wd_R a cI cL cB cZ z S)) (hS : va_S A s.heap H locs), W p l e zr_X11_make s m args below meth c H locs 0 0 Q (F0 m 3 ls []) := by
  intro n
  induction n with
  | zero =>
    intro v1 v2 v3 v4 S H locs ls h hl hP hD hS
    exact nomatch (show (none : Option (Int32 × mq_St)) = some res from h)
  | succ n ih =>
    intro v1 v2 v3 v4 S H locs ls h hl hP hD hS
    exact zw_X11_make_3b C hret (fun v1 v2 v3 v4 S H locs ls h hl hP hD hS => ih v1 v2 v3 v4 S H locs ls h hl hP hD hS) v1 v2 v3 v4 S H locs ls h hl hP hD hS
set_option maxHeartbeats 4000000 in
set_option maxRecDepth 100000 in
theorem zw_X11_make_0 {p : Program} {l : Launch} {e : Env} {s : State} {m : MethodId} {args : Array Value} {below : List Frame} {meth : Method} {c : Code} {A : Nat → Prop} {D : va_G} {a z : Nat → Nat} {cI cL cB cZ : ClassId} {Q : State → Prop} {N : Nat} {res : Int32 × mq_St} (C : mq_C p s m args c A D cI cL cB cZ cX11_make 5 RX11 zc_X11_make) (hret : ∀ (H : Heap) (locs : List Loc) (ls : Array Slot) (pc : Nat), decode cX11_make pc = .ok (.ireturn, 1) → va_P D vwCl (wd_R a cI cL cB cZ z res.2) H → va_D A (wd_R a cI cL cB cZ z res.2) → va_S A s.heap H locs → W p l e zr_X11_make s m args below meth c H locs 0 0 Q (F0 m pc ls [.int res.1])) (v1 : Int32) (v2 : Int32) (v3 : Int32) (S : mq_St) (H : Heap) (locs : List Loc) (ls : Array Slot) (h : zf_X11_make N z v1 v2 v3 S = some res) (hl : lv_has ls 5 [(0, .ref (a 0)), (1, .int (v1)), (2, .int (v2)), (3, .int (v3))]) (hP : va_P D vwCl (wd_R a cI cL cB cZ z S) H) (hD : va_D A (wd_R a cI cL cB cZ z S)) (hS : va_S A s.heap H locs) : W p l e zr_X11_make s m args below meth c H locs 0 0 Q (F0 m 0 ls []) := by
  obtain ⟨hx, hb, hml, hown, hts, hK, hA⟩ := id C
  unfold zf_X11_make at h
  refine lv_iconst (v := (0 : Int32)) hx hb dX11_make_0 (by decide) ?_
  refine lv_topi (fun x1 ex1 => ?_)
  replace h := mq_nI_go ex1 h
  refine lv_istore (lv' := [(4, .int (x1)), (0, .ref (a 0)), (1, .int (v1)), (2, .int (v2)), (3, .int (v3))]) hx hb dX11_make_1 hl (by decide) rfl (fun ls hl => ?_)
  exact zw_X11_make_3 C hret N (v1) (v2) (v3) (x1) S H locs ls h (lv_sub hl [1, 2, 3, 4, 0] rfl) hP hD hS
set_option maxHeartbeats 4000000 in
set_option maxRecDepth 100000 in
theorem zm_X11_make (l : Launch) (D : va_G) (a z : Nat → Nat) (cI cL cB cZ : ClassId) (sz N : Nat) (v1 : Int32) (v2 : Int32) (v3 : Int32) (S : mq_St) (res : Int32 × mq_St) (h : zf_X11_make N z v1 v2 v3 S = some res) : Met l yX11_make (zc_X11_make :: mq_T) zr_X11_make (va_Pc [.ref (a 0), .int (v1), .int (v2), .int (v3)] (fun U => U.heap.size = sz ∧ va_P D vwCl (wd_R a cI cL cB cZ z S) U.heap ∧ va_K D vwCl (mq_tys cI cL cB cZ) U ∧ va_D (fun _ => True) (wd_R a cI cL cB cZ z S))) (va_Qi (fun (r : Int32) (u : mq_St) => r = res.1 ∧ u = res.2) (fun u t => va_P D vwCl (wd_R a cI cL cB cZ z u) t.heap ∧ va_K D vwCl (mq_tys cI cL cB cZ) t ∧ va_D (va_A (wd_R a cI cL cB cZ z S) sz) (wd_R a cI cL cB cZ z u)) (va_A (wd_R a cI cL cB cZ z S) sz)) 0 0 (va_A (wd_R a cI cL cB cZ z S) sz) := by
  refine Met.ofW (cc := cX11_make) (maxL := 5) (ret := (some .int)) (by decide) rfl ?_
  intro p e s m args below meth c s₁ B hml hv
  obtain ⟨rfl, hsz, hP, hK, hD0⟩ := hv
  have hr := B.returns
  have hlocks := B.notSynchronized
  have hts := atoms_spec (ws := zc_X11_make :: mq_T) B.pre
  have hown : s.vm.findClass RX11 = some m.cls := findClass_of_methodNamed B.named
  subst hsz
  have hD := hD0.self (sz := s.heap.size)
  generalize hAe : va_A (wd_R a cI cL cB cZ z S) s.heap.size = A at hD ⊢
  have hA : ∀ q : Nat, s.heap.size ≤ q → A q := fun q h => by rw [← hAe]; exact Or.inr h
  have hl := lv_entry ([.ref (a 0), .int (v1), .int (v2), .int (v3)]) (n := 5) (Nat.le_of_ble_eq_true rfl)
  rw [lg_entry_eq]
  generalize (lg_sl ([.ref (a 0), .int (v1), .int (v2), .int (v3)]) ++ List.replicate (5 - (lg_sl ([.ref (a 0), .int (v1), .int (v2), .int (v3)])).length) Slot.unset).toArray = ls at hl ⊢
  have hl : lv_has ls 5 [(0, .ref (a 0)), (1, .int (v1)), (2, .int (v2)), (3, .int (v3))] := hl
  refine zw_X11_make_0 (A := A) ⟨B.exec, B.bytes, hml, hown, hts, hK, hA⟩ (fun H locs ls pc dg hP hD hS => ?_) v1 v2 v3 S s.heap [] ls h hl hP hD va_S.rf
  exact W.iret B.exec B.bytes hr (fun t ht hW => ⟨⟨_, _, rfl, ⟨rfl, rfl⟩, by rw [ht]; exact hP, va_K.moved hW.alike hK, hD⟩, hS.F ht⟩) hS.2.2 dg
theorem zt_X11_make_c : zc_X11_make ∈ mq_T := mq_T_mem (mq_t7 (List.mem_of_getElem? (i := 1) rfl)) rfl
theorem zt_X11_make_i : Cond.instanceMethod yX11_make ∈ mq_T := mq_T_mem (mq_t7 (List.mem_of_getElem? (i := 0) rfl)) rfl
theorem zt_X11_make_s : Cond.selects RX11 yX11_make yX11_make ∈ mq_T := mq_T_at 79 (by decide +kernel)
set_option maxHeartbeats 4000000 in
theorem zk_X11_make {p : Program} {l : Launch} {e : Env} {R : Room} {s : State} {m : MethodId} {args : Array Value} {below : List Frame} {meth : Method} {c : Code} {A : Nat → Prop} {D : va_G} {a z : Nat → Nat} {cI cL cB cZ : ClassId} {Q : State → Prop} {cc : ByteArray} {nL idx pc N : Nat} {own : String} {c1 : Cond} {H : Heap} {locs : List Loc} {ls : Array Slot} {rest : List Value} {S : mq_St} {res : Int32 × mq_St} {v1 : Int32} {v2 : Int32} {v3 : Int32} (C : mq_C p s m args c A D cI cL cB cZ cc nL own c1) (hlk : Cond.methodLink own idx yX11_make ∈ mq_T) (hR : zr_X11_make.frames + 1 ≤ R.frames ∧ 8 + (5 + 11) + zr_X11_make.locals ≤ R.locals) (h : zf_X11_make N z v1 v2 v3 S = some res) (hP : va_P D vwCl (wd_R a cI cL cB cZ z S) H) (hD : va_D A (wd_R a cI cL cB cZ z S)) (hS : va_S A s.heap H locs) (hls : ls.size = nL) (hrest : (rest.map fun v => v.category).sum ≤ 8) (hdg : decode cc pc = .ok (.invokevirtual idx, 3)) (kk : ∀ (H1 : Heap) (locs1 : List Loc), va_P D vwCl (wd_R a cI cL cB cZ z res.2) H1 → va_D A (wd_R a cI cL cB cZ z res.2) → va_S A s.heap H1 locs1 → W p l e R s m args below meth c H1 locs1 0 0 Q (F0 m (pc + 3) ls (.int res.1 :: rest))) : W p l e R s m args below meth c H locs 0 0 Q (F0 m pc ls (.int (v3) :: .int (v2) :: .int (v1) :: .ref (a 0) :: rest)) := by
  obtain ⟨hx, hb, hml, hown, hts, hK, hA⟩ := C
  have hFc := mq_freeI hD hS hA
  refine va_calli (va_runV (As := [.int (v1), .int (v2), .int (v3)]) (rest := rest) ⟨hx, hb, hml, hown, hts⟩ (zm_X11_make l D a z cI cL cB cZ H.size N v1 v2 v3 S res h) (cwV 3 hts (mq_goodL (mq_wsV hlk zt_X11_make_i zt_X11_make_s zt_ini_X11 zt_X11_make_c)) rfl rfl rfl (by decide +kernel) hR) ⟨fun a U g mk q => ⟨q.1, q.2.1, q.2.2.1, va_K.moved (u := U) (U := U.calling g mk a) (Vm.Alike.refl U.vm) q.2.2.2.1, q.2.2.2.2⟩, zy_R_0 hK hP, fun U hU hW => ⟨rfl, by rw [hU], by rw [hU]; exact hP, va_K.moved hW.alike hK, hD.weaken (fun _ _ _ _ => trivial)⟩⟩ rfl rfl hls rfl (lv_room hrest) hdg ⟨Nat.zero_le _, Nat.zero_le _⟩) hS (fun q _ h => hFc q h) hFc (fun r u t H1 locs ht hvm hw hB hz1 hk1 hS => ?_)
  obtain ⟨rfl, rfl⟩ := hw
  obtain ⟨hP1, hK1, hD1⟩ := hB
  rw [ht] at hP1
  exact kk H1 locs hP1 (hD1.weaken (fun _ _ _ h => hFc _ h)) hS
theorem zt_f_X11_39 : Cond.fieldLink RX11 39 "ModalDeskModel" "kind" "[I" ∈ mq_T := mq_T_mem (mq_t5 (List.mem_of_getElem? (i := 179) rfl)) rfl
theorem zt_f_X11_172 : Cond.fieldLink RX11 172 "ModalDeskModel" "nodes" "I" ∈ mq_T := mq_T_mem (mq_t5 (List.mem_of_getElem? (i := 184) rfl)) rfl
theorem zs_wd_R_a_8_7 (a z : Nat → Nat) (cI cL cB cZ : ClassId) (S : mq_St) (f : Nat → Int32) : (wd_R a cI cL cB cZ z S).set 8 (a 8, .inl (cI, 3000, .inl f)) = (wd_R a cI cL cB cZ z (mq_sa S 7 f)) := rfl
theorem zt_f_X11_42 : Cond.fieldLink RX11 42 "ModalDeskModel" "left" "[I" ∈ mq_T := mq_T_mem (mq_t5 (List.mem_of_getElem? (i := 180) rfl)) rfl
theorem zs_wd_R_a_9_8 (a z : Nat → Nat) (cI cL cB cZ : ClassId) (S : mq_St) (f : Nat → Int32) : (wd_R a cI cL cB cZ z S).set 9 (a 9, .inl (cI, 3000, .inl f)) = (wd_R a cI cL cB cZ z (mq_sa S 8 f)) := rfl
theorem zt_f_X11_45 : Cond.fieldLink RX11 45 "ModalDeskModel" "right" "[I" ∈ mq_T := mq_T_mem (mq_t5 (List.mem_of_getElem? (i := 181) rfl)) rfl
theorem zs_wd_R_a_10_9 (a z : Nat → Nat) (cI cL cB cZ : ClassId) (S : mq_St) (f : Nat → Int32) : (wd_R a cI cL cB cZ z S).set 10 (a 10, .inl (cI, 3000, .inl f)) = (wd_R a cI cL cB cZ z (mq_sa S 9 f)) := rfl
theorem zt_f_X11_48 : Cond.fieldLink RX11 48 "ModalDeskModel" "yes" "[I" ∈ mq_T := mq_T_mem (mq_t5 (List.mem_of_getElem? (i := 182) rfl)) rfl
theorem zs_wd_R_a_11_10 (a z : Nat → Nat) (cI cL cB cZ : ClassId) (S : mq_St) (f : Nat → Int32) : (wd_R a cI cL cB cZ z S).set 11 (a 11, .inl (cI, 3000, .inl f)) = (wd_R a cI cL cB cZ z (mq_sa S 10 f)) := rfl
theorem zt_f_X11_51 : Cond.fieldLink RX11 51 "ModalDeskModel" "no" "[I" ∈ mq_T := mq_T_mem (mq_t5 (List.mem_of_getElem? (i := 183) rfl)) rfl
theorem zs_wd_R_a_12_11 (a z : Nat → Nat) (cI cL cB cZ : ClassId) (S : mq_St) (f : Nat → Int32) : (wd_R a cI cL cB cZ z S).set 12 (a 12, .inl (cI, 3000, .inl f)) = (wd_R a cI cL cB cZ z (mq_sa S 11 f)) := rfl
theorem zs_wd_R_i_0_7 (a z : Nat → Nat) (cI cL cB cZ : ClassId) (S : mq_St) (v : Int32) : (wd_R a cI cL cB cZ z S).set 0 (a 0, .inr (11, ([.int (S.1 0), .ref (a 1), .int (S.1 1), .ref (a 2), .int (S.1 2), .ref (a 3), .ref (a 4), .ref (a 5), .int (S.1 3), .ref (a 6), .ref (a 7), .int (S.1 4), .int (S.1 5), .int (S.1 6), .ref (a 8), .ref (a 9), .ref (a 10), .ref (a 11), .ref (a 12), .int (S.1 7), .int (S.1 8), .int (S.1 9), .int (S.1 10), .int (S.1 11), .int (S.1 12), .int (S.1 13), .ref (a 13), .ref (a 14), .int (S.1 14), .int (S.1 15), .int (S.1 16), .ref (a 15), .int (S.1 17), .ref (a 16), .ref (a 17), .ref (a 18), .int (S.1 18), .int (S.1 19), .int (S.1 20), .int (S.1 21), .int (S.1 22), .int (S.1 23), .int (S.1 24), .int (S.1 25), .ref (a 19), .ref (a 20), .ref (a 21), .ref (a 22), .ref (a 23), .int (S.1 26), .ref (a 24), .ref (a 25), .int (S.1 27), .int (S.1 28), .ref (a 26), .ref (a 27), .ref (a 28), .ref (a 29), .ref (a 30), .ref (a 31), .ref (a 32), .int (S.1 29), .int (S.1 30), .ref (a 33), .ref (a 34), .int (S.1 31), .ref (a 35), .ref (a 36), .ref (a 37), .ref (a 38), .ref (a 39), .ref (a 40), .ref (a 41), .ref (a 42), .ref (a 43), .ref (a 44)] : List Value).set 19 (.int v))) = (wd_R a cI cL cB cZ z (mq_si S 7 v)) := rfl
/-! ModalDeskModel.node(III)I -/
def zr_X11_node : Room := { frames := 0, cells := 0, slots := 0, locals := 0 }
def zc_X11_node : Cond := .code yX11_node cX11_node 4 (some .int)
def zf_X11_node (N : Nat) (z : Nat → Nat) (v1 : Int32) (v2 : Int32) (v3 : Int32) (S : mq_St) : Option (Int32 × mq_St) := (mq_ck ((S.1 7)) 3000 (mq_nS (mq_sa S 7 (upd (S.2.1 7) ((S.1 7)).toNatClampNeg (v1))) (fun S2 => (mq_ck ((S2.1 7)) 3000 (mq_nS (mq_sa S2 8 (upd (S2.2.1 8) ((S2.1 7)).toNatClampNeg (v2))) (fun S4 => (mq_ck ((S4.1 7)) 3000 (mq_nS (mq_sa S4 9 (upd (S4.2.1 9) ((S4.1 7)).toNatClampNeg (v3))) (fun S6 => (mq_ck ((S6.1 7)) 3000 (mq_nS (mq_sa S6 10 (upd (S6.2.1 10) ((S6.1 7)).toNatClampNeg ((-1 : Int32)))) (fun S8 => (mq_ck ((S8.1 7)) 3000 (mq_nS (mq_sa S8 11 (upd (S8.2.1 11) ((S8.1 7)).toNatClampNeg ((-1 : Int32)))) (fun S10 => (mq_nS (mq_si S10 7 (((S10.1 7) + (1 : Int32)))) (fun S11 => (some (((S11.1 7) - (1 : Int32)), S11)))))))))))))))))))
set_option maxHeartbeats 4000000 in
set_option maxRecDepth 100000 in
theorem zw_X11_node_0 {p : Program} {l : Launch} {e : Env} {s : State} {m : MethodId} {args : Array Value} {below : List Frame} {meth : Method} {c : Code} {A : Nat → Prop} {D : va_G} {a z : Nat → Nat} {cI cL cB cZ : ClassId} {Q : State → Prop} {N : Nat} {res : Int32 × mq_St} (C : mq_C p s m args c A D cI cL cB cZ cX11_node 4 RX11 zc_X11_node) (hret : ∀ (H : Heap) (locs : List Loc) (ls : Array Slot) (pc : Nat), decode cX11_node pc = .ok (.ireturn, 1) → va_P D vwCl (wd_R a cI cL cB cZ z res.2) H → va_D A (wd_R a cI cL cB cZ z res.2) → va_S A s.heap H locs → W p l e zr_X11_node s m args below meth c H locs 0 0 Q (F0 m pc ls [.int res.1])) (v1 : Int32) (v2 : Int32) (v3 : Int32) (S : mq_St) (H : Heap) (locs : List Loc) (ls : Array Slot) (h : zf_X11_node N z v1 v2 v3 S = some res) (hl : lv_has ls 4 [(0, .ref (a 0)), (1, .int (v1)), (2, .int (v2)), (3, .int (v3))]) (hP : va_P D vwCl (wd_R a cI cL cB cZ z S) H) (hD : va_D A (wd_R a cI cL cB cZ z S)) (hS : va_S A s.heap H locs) : W p l e zr_X11_node s m args below meth c H locs 0 0 Q (F0 m 0 ls []) := by
  obtain ⟨hx, hb, hml, hown, hts, hK, hA⟩ := id C
  unfold zf_X11_node at h
  refine lv_aload_n hx hb dX11_node_0 rfl (lv_at hl 0 rfl) ?_
  refine va_get (D := D) (ci := 11) (v := .ref (a 8)) (C := RX11) (T := TX11) (N := 76) hx hb hts (zi_X11 _) hown hK hP 0 rfl rfl 14 (by decide) (hts _ (List.mem_cons_of_mem _ zt_f_X11_39)) (fun _ h9 => h9) rfl dX11_node_1 ?_
  refine lv_aload_n hx hb dX11_node_4 rfl (lv_at hl 0 rfl) ?_
  refine va_get (D := D) (ci := 11) (v := .int ((S.1 7))) (C := RX11) (T := TX11) (N := 76) hx hb hts (zi_X11 _) hown hK hP 0 rfl rfl 19 (by decide) (hts _ (List.mem_cons_of_mem _ zt_f_X11_172)) (fun _ h9 => h9) rfl dX11_node_5 ?_
  refine lv_iload_n hx hb dX11_node_8 rfl (lv_at hl 1 rfl) ?_
  have hi1 := mq_ck_in h
  replace h := mq_ck_go h
  refine mq_iast (w := wd_R a cI cL cB cZ z) (S := S) (f := S.2.1 7) hx hb hK hP hD hS 8 0 rfl rfl hi1 dX11_node_9 7 (zs_wd_R_a_8_7 _ _ _ _ _ _ _ _) (fun S2 eS2 H locs hP hD hS => ?_)
  replace h := mq_nS_go eS2 h
  refine lv_aload_n hx hb dX11_node_10 rfl (lv_at hl 0 rfl) ?_
  refine va_get (D := D) (ci := 11) (v := .ref (a 9)) (C := RX11) (T := TX11) (N := 76) hx hb hts (zi_X11 _) hown hK hP 0 rfl rfl 15 (by decide) (hts _ (List.mem_cons_of_mem _ zt_f_X11_42)) (fun _ h9 => h9) rfl dX11_node_11 ?_
  refine lv_aload_n hx hb dX11_node_14 rfl (lv_at hl 0 rfl) ?_
  refine va_get (D := D) (ci := 11) (v := .int ((S2.1 7))) (C := RX11) (T := TX11) (N := 76) hx hb hts (zi_X11 _) hown hK hP 0 rfl rfl 19 (by decide) (hts _ (List.mem_cons_of_mem _ zt_f_X11_172)) (fun _ h9 => h9) rfl dX11_node_15 ?_
  refine lv_iload_n hx hb dX11_node_18 rfl (lv_at hl 2 rfl) ?_
  have hi3 := mq_ck_in h
  replace h := mq_ck_go h
  refine mq_iast (w := wd_R a cI cL cB cZ z) (S := S2) (f := S2.2.1 8) hx hb hK hP hD hS 9 0 rfl rfl hi3 dX11_node_19 8 (zs_wd_R_a_9_8 _ _ _ _ _ _ _ _) (fun S4 eS4 H locs hP hD hS => ?_)
  replace h := mq_nS_go eS4 h
  refine lv_aload_n hx hb dX11_node_20 rfl (lv_at hl 0 rfl) ?_
  refine va_get (D := D) (ci := 11) (v := .ref (a 10)) (C := RX11) (T := TX11) (N := 76) hx hb hts (zi_X11 _) hown hK hP 0 rfl rfl 16 (by decide) (hts _ (List.mem_cons_of_mem _ zt_f_X11_45)) (fun _ h9 => h9) rfl dX11_node_21 ?_
  refine lv_aload_n hx hb dX11_node_24 rfl (lv_at hl 0 rfl) ?_
  refine va_get (D := D) (ci := 11) (v := .int ((S4.1 7))) (C := RX11) (T := TX11) (N := 76) hx hb hts (zi_X11 _) hown hK hP 0 rfl rfl 19 (by decide) (hts _ (List.mem_cons_of_mem _ zt_f_X11_172)) (fun _ h9 => h9) rfl dX11_node_25 ?_
  refine lv_iload_n hx hb dX11_node_28 rfl (lv_at hl 3 rfl) ?_
  have hi5 := mq_ck_in h
  replace h := mq_ck_go h
  refine mq_iast (w := wd_R a cI cL cB cZ z) (S := S4) (f := S4.2.1 9) hx hb hK hP hD hS 10 0 rfl rfl hi5 dX11_node_29 9 (zs_wd_R_a_10_9 _ _ _ _ _ _ _ _) (fun S6 eS6 H locs hP hD hS => ?_)
  replace h := mq_nS_go eS6 h
  refine lv_aload_n hx hb dX11_node_30 rfl (lv_at hl 0 rfl) ?_
  refine va_get (D := D) (ci := 11) (v := .ref (a 11)) (C := RX11) (T := TX11) (N := 76) hx hb hts (zi_X11 _) hown hK hP 0 rfl rfl 17 (by decide) (hts _ (List.mem_cons_of_mem _ zt_f_X11_48)) (fun _ h9 => h9) rfl dX11_node_31 ?_
  refine lv_aload_n hx hb dX11_node_34 rfl (lv_at hl 0 rfl) ?_
  refine va_get (D := D) (ci := 11) (v := .int ((S6.1 7))) (C := RX11) (T := TX11) (N := 76) hx hb hts (zi_X11 _) hown hK hP 0 rfl rfl 19 (by decide) (hts _ (List.mem_cons_of_mem _ zt_f_X11_172)) (fun _ h9 => h9) rfl dX11_node_35 ?_
  refine lv_iconst (v := (-1 : Int32)) hx hb dX11_node_38 (by decide) ?_
  have hi7 := mq_ck_in h
  replace h := mq_ck_go h
  refine mq_iast (w := wd_R a cI cL cB cZ z) (S := S6) (f := S6.2.1 10) hx hb hK hP hD hS 11 0 rfl rfl hi7 dX11_node_39 10 (zs_wd_R_a_11_10 _ _ _ _ _ _ _ _) (fun S8 eS8 H locs hP hD hS => ?_)
  replace h := mq_nS_go eS8 h
  refine lv_aload_n hx hb dX11_node_40 rfl (lv_at hl 0 rfl) ?_
  refine va_get (D := D) (ci := 11) (v := .ref (a 12)) (C := RX11) (T := TX11) (N := 76) hx hb hts (zi_X11 _) hown hK hP 0 rfl rfl 18 (by decide) (hts _ (List.mem_cons_of_mem _ zt_f_X11_51)) (fun _ h9 => h9) rfl dX11_node_41 ?_
  refine lv_aload_n hx hb dX11_node_44 rfl (lv_at hl 0 rfl) ?_
  refine va_get (D := D) (ci := 11) (v := .int ((S8.1 7))) (C := RX11) (T := TX11) (N := 76) hx hb hts (zi_X11 _) hown hK hP 0 rfl rfl 19 (by decide) (hts _ (List.mem_cons_of_mem _ zt_f_X11_172)) (fun _ h9 => h9) rfl dX11_node_45 ?_
  refine lv_iconst (v := (-1 : Int32)) hx hb dX11_node_48 (by decide) ?_
  have hi9 := mq_ck_in h
  replace h := mq_ck_go h
  refine mq_iast (w := wd_R a cI cL cB cZ z) (S := S8) (f := S8.2.1 11) hx hb hK hP hD hS 12 0 rfl rfl hi9 dX11_node_49 11 (zs_wd_R_a_12_11 _ _ _ _ _ _ _ _) (fun S10 eS10 H locs hP hD hS => ?_)
  replace h := mq_nS_go eS10 h
  refine lv_aload_n hx hb dX11_node_50 rfl (lv_at hl 0 rfl) ?_
  refine lv_dup hx hb dX11_node_51 rfl ?_
  refine va_get (D := D) (ci := 11) (v := .int ((S10.1 7))) (C := RX11) (T := TX11) (N := 76) hx hb hts (zi_X11 _) hown hK hP 0 rfl rfl 19 (by decide) (hts _ (List.mem_cons_of_mem _ zt_f_X11_172)) (fun _ h9 => h9) rfl dX11_node_52 ?_
  refine lv_iconst (v := (1 : Int32)) hx hb dX11_node_55 (by decide) ?_
  refine lv_iadd hx hb dX11_node_56 ?_
  refine mq_put (w := wd_R a cI cL cB cZ z) (S := S10) (D := D) (ci := 11) (v := ((S10.1 7) + (1 : Int32))) (ty := .int) (C := RX11) (T := TX11) (N := 76) hx hb hts (zi_X11 _) tyX11 tyX11_ok nmX11 hown hK hP hD hS 0 rfl rfl 19 (by decide) (hts _ (List.mem_cons_of_mem _ zt_f_X11_172)) (fun _ h9 => h9) rfl (by decide +kernel) rfl rfl (Nat.le_of_ble_eq_true rfl) dX11_node_57 7 (zs_wd_R_i_0_7 _ _ _ _ _ _ _ _) (fun S11 eS11 H locs hP hD hS => ?_)
  replace h := mq_nS_go eS11 h
  refine lv_aload_n hx hb dX11_node_60 rfl (lv_at hl 0 rfl) ?_
  refine va_get (D := D) (ci := 11) (v := .int ((S11.1 7))) (C := RX11) (T := TX11) (N := 76) hx hb hts (zi_X11 _) hown hK hP 0 rfl rfl 19 (by decide) (hts _ (List.mem_cons_of_mem _ zt_f_X11_172)) (fun _ h9 => h9) rfl dX11_node_61 ?_
  refine lv_iconst (v := (1 : Int32)) hx hb dX11_node_64 (by decide) ?_
  refine lv_isub hx hb dX11_node_65 ?_
  cases h
  exact hret H locs ls 66 dX11_node_66 hP hD hS
set_option maxHeartbeats 4000000 in
set_option maxRecDepth 100000 in
theorem zm_X11_node (l : Launch) (D : va_G) (a z : Nat → Nat) (cI cL cB cZ : ClassId) (sz N : Nat) (v1 : Int32) (v2 : Int32) (v3 : Int32) (S : mq_St) (res : Int32 × mq_St) (h : zf_X11_node N z v1 v2 v3 S = some res) : Met l yX11_node (zc_X11_node :: mq_T) zr_X11_node (va_Pc [.ref (a 0), .int (v1), .int (v2), .int (v3)] (fun U => U.heap.size = sz ∧ va_P D vwCl (wd_R a cI cL cB cZ z S) U.heap ∧ va_K D vwCl (mq_tys cI cL cB cZ) U ∧ va_D (fun _ => True) (wd_R a cI cL cB cZ z S))) (va_Qi (fun (r : Int32) (u : mq_St) => r = res.1 ∧ u = res.2) (fun u t => va_P D vwCl (wd_R a cI cL cB cZ z u) t.heap ∧ va_K D vwCl (mq_tys cI cL cB cZ) t ∧ va_D (va_A (wd_R a cI cL cB cZ z S) sz) (wd_R a cI cL cB cZ z u)) (va_A (wd_R a cI cL cB cZ z S) sz)) 0 0 (va_A (wd_R a cI cL cB cZ z S) sz) := by
  refine Met.ofW (cc := cX11_node) (maxL := 4) (ret := (some .int)) (by decide) rfl ?_
  intro p e s m args below meth c s₁ B hml hv
  obtain ⟨rfl, hsz, hP, hK, hD0⟩ := hv
  have hr := B.returns
  have hlocks := B.notSynchronized
  have hts := atoms_spec (ws := zc_X11_node :: mq_T) B.pre
  have hown : s.vm.findClass RX11 = some m.cls := findClass_of_methodNamed B.named
  subst hsz
  have hD := hD0.self (sz := s.heap.size)
  generalize hAe : va_A (wd_R a cI cL cB cZ z S) s.heap.size = A at hD ⊢
  have hA : ∀ q : Nat, s.heap.size ≤ q → A q := fun q h => by rw [← hAe]; exact Or.inr h
  have hl := lv_entry ([.ref (a 0), .int (v1), .int (v2), .int (v3)]) (n := 4) (Nat.le_of_ble_eq_true rfl)
  rw [lg_entry_eq]
  generalize (lg_sl ([.ref (a 0), .int (v1), .int (v2), .int (v3)]) ++ List.replicate (4 - (lg_sl ([.ref (a 0), .int (v1), .int (v2), .int (v3)])).length) Slot.unset).toArray = ls at hl ⊢
  have hl : lv_has ls 4 [(0, .ref (a 0)), (1, .int (v1)), (2, .int (v2)), (3, .int (v3))] := hl
  refine zw_X11_node_0 (A := A) ⟨B.exec, B.bytes, hml, hown, hts, hK, hA⟩ (fun H locs ls pc dg hP hD hS => ?_) v1 v2 v3 S s.heap [] ls h hl hP hD va_S.rf
  exact W.iret B.exec B.bytes hr (fun t ht hW => ⟨⟨_, _, rfl, ⟨rfl, rfl⟩, by rw [ht]; exact hP, va_K.moved hW.alike hK, hD⟩, hS.F ht⟩) hS.2.2 dg
theorem zt_X11_node_c : zc_X11_node ∈ mq_T := mq_T_mem (mq_t6 (List.mem_of_getElem? (i := 201) rfl)) rfl
theorem zt_X11_node_i : Cond.instanceMethod yX11_node ∈ mq_T := mq_T_mem (mq_t6 (List.mem_of_getElem? (i := 200) rfl)) rfl
theorem zt_X11_node_s : Cond.selects RX11 yX11_node yX11_node ∈ mq_T := mq_T_at 69 (by decide +kernel)
set_option maxHeartbeats 4000000 in
theorem zk_X11_node {p : Program} {l : Launch} {e : Env} {R : Room} {s : State} {m : MethodId} {args : Array Value} {below : List Frame} {meth : Method} {c : Code} {A : Nat → Prop} {D : va_G} {a z : Nat → Nat} {cI cL cB cZ : ClassId} {Q : State → Prop} {cc : ByteArray} {nL idx pc N : Nat} {own : String} {c1 : Cond} {H : Heap} {locs : List Loc} {ls : Array Slot} {rest : List Value} {S : mq_St} {res : Int32 × mq_St} {v1 : Int32} {v2 : Int32} {v3 : Int32} (C : mq_C p s m args c A D cI cL cB cZ cc nL own c1) (hlk : Cond.methodLink own idx yX11_node ∈ mq_T) (hR : zr_X11_node.frames + 1 ≤ R.frames ∧ 8 + (4 + 11) + zr_X11_node.locals ≤ R.locals) (h : zf_X11_node N z v1 v2 v3 S = some res) (hP : va_P D vwCl (wd_R a cI cL cB cZ z S) H) (hD : va_D A (wd_R a cI cL cB cZ z S)) (hS : va_S A s.heap H locs) (hls : ls.size = nL) (hrest : (rest.map fun v => v.category).sum ≤ 8) (hdg : decode cc pc = .ok (.invokevirtual idx, 3)) (kk : ∀ (H1 : Heap) (locs1 : List Loc), va_P D vwCl (wd_R a cI cL cB cZ z res.2) H1 → va_D A (wd_R a cI cL cB cZ z res.2) → va_S A s.heap H1 locs1 → W p l e R s m args below meth c H1 locs1 0 0 Q (F0 m (pc + 3) ls (.int res.1 :: rest))) : W p l e R s m args below meth c H locs 0 0 Q (F0 m pc ls (.int (v3) :: .int (v2) :: .int (v1) :: .ref (a 0) :: rest)) := by
  obtain ⟨hx, hb, hml, hown, hts, hK, hA⟩ := C
  have hFc := mq_freeI hD hS hA
  refine va_calli (va_runV (As := [.int (v1), .int (v2), .int (v3)]) (rest := rest) ⟨hx, hb, hml, hown, hts⟩ (zm_X11_node l D a z cI cL cB cZ H.size N v1 v2 v3 S res h) (cwV 3 hts (mq_goodL (mq_wsV hlk zt_X11_node_i zt_X11_node_s zt_ini_X11 zt_X11_node_c)) rfl rfl rfl (by decide +kernel) hR) ⟨fun a U g mk q => ⟨q.1, q.2.1, q.2.2.1, va_K.moved (u := U) (U := U.calling g mk a) (Vm.Alike.refl U.vm) q.2.2.2.1, q.2.2.2.2⟩, zy_R_0 hK hP, fun U hU hW => ⟨rfl, by rw [hU], by rw [hU]; exact hP, va_K.moved hW.alike hK, hD.weaken (fun _ _ _ _ => trivial)⟩⟩ rfl rfl hls rfl (lv_room hrest) hdg ⟨Nat.zero_le _, Nat.zero_le _⟩) hS (fun q _ h => hFc q h) hFc (fun r u t H1 locs ht hvm hw hB hz1 hk1 hS => ?_)
  obtain ⟨rfl, rfl⟩ := hw
  obtain ⟨hP1, hK1, hD1⟩ := hB
  rw [ht] at hP1
  exact kk H1 locs hP1 (hD1.weaken (fun _ _ _ h => hFc _ h)) hS
theorem zt_f_X11_175 : Cond.fieldLink RX11 175 "ModalDeskModel" "at" "I" ∈ mq_T := mq_T_mem (mq_t5 (List.mem_of_getElem? (i := 185) rfl)) rfl
theorem zt_f_X11_178 : Cond.fieldLink RX11 178 "ModalDeskModel" "length" "I" ∈ mq_T := mq_T_mem (mq_t5 (List.mem_of_getElem? (i := 186) rfl)) rfl
theorem zs_wd_R_i_0_8 (a z : Nat → Nat) (cI cL cB cZ : ClassId) (S : mq_St) (v : Int32) : (wd_R a cI cL cB cZ z S).set 0 (a 0, .inr (11, ([.int (S.1 0), .ref (a 1), .int (S.1 1), .ref (a 2), .int (S.1 2), .ref (a 3), .ref (a 4), .ref (a 5), .int (S.1 3), .ref (a 6), .ref (a 7), .int (S.1 4), .int (S.1 5), .int (S.1 6), .ref (a 8), .ref (a 9), .ref (a 10), .ref (a 11), .ref (a 12), .int (S.1 7), .int (S.1 8), .int (S.1 9), .int (S.1 10), .int (S.1 11), .int (S.1 12), .int (S.1 13), .ref (a 13), .ref (a 14), .int (S.1 14), .int (S.1 15), .int (S.1 16), .ref (a 15), .int (S.1 17), .ref (a 16), .ref (a 17), .ref (a 18), .int (S.1 18), .int (S.1 19), .int (S.1 20), .int (S.1 21), .int (S.1 22), .int (S.1 23), .int (S.1 24), .int (S.1 25), .ref (a 19), .ref (a 20), .ref (a 21), .ref (a 22), .ref (a 23), .int (S.1 26), .ref (a 24), .ref (a 25), .int (S.1 27), .int (S.1 28), .ref (a 26), .ref (a 27), .ref (a 28), .ref (a 29), .ref (a 30), .ref (a 31), .ref (a 32), .int (S.1 29), .int (S.1 30), .ref (a 33), .ref (a 34), .int (S.1 31), .ref (a 35), .ref (a 36), .ref (a 37), .ref (a 38), .ref (a 39), .ref (a 40), .ref (a 41), .ref (a 42), .ref (a 43), .ref (a 44)] : List Value).set 20 (.int v))) = (wd_R a cI cL cB cZ z (mq_si S 8 v)) := rfl
/-! ModalDeskModel.see()I -/
def zr_X11_see : Room := { frames := 0, cells := 0, slots := 0, locals := 0 }
def zc_X11_see : Cond := .code yX11_see cX11_see 1 (some .int)
def zf_X11_see_39 (N : Nat) (z : Nat → Nat) (k0 : mq_St → Option (Int32 × mq_St)) (S : mq_St) : Option (Int32 × mq_St) := (mq_nS (mq_si S 8 (((S.1 8) + (1 : Int32)))) (fun S6 => (k0 S6)))
def zf_X11_see_52 (N : Nat) (z : Nat → Nat) (S : mq_St) : Option (Int32 × mq_St) := (if (S.1 9) ≤ (S.1 8) then (some ((-1 : Int32), S)) else (mq_ck ((S.1 8)) 4000 (some (((S.2.1 0 ((S.1 8)).toNatClampNeg) &&& (255 : Int32)), S))))
def zf_X11_see_zb (N : Nat) (z : Nat → Nat) (k0 : mq_St → Option (Int32 × mq_St)) (S : mq_St) : Option (Int32 × mq_St) := (if (S.1 9) ≤ (S.1 8) then (zf_X11_see_52 N z S) else (mq_ck ((S.1 8)) 4000 (if (S.2.1 0 ((S.1 8)).toNatClampNeg) = (32 : Int32) then (zf_X11_see_39 N z k0 S) else (mq_ck ((S.1 8)) 4000 (if (S.2.1 0 ((S.1 8)).toNatClampNeg) = (10 : Int32) then (zf_X11_see_39 N z k0 S) else (zf_X11_see_52 N z S))))))
def zf_X11_see_z (N : Nat) (z : Nat → Nat) : Nat → mq_St → Option (Int32 × mq_St)
  | 0, _ => none
  | n + 1, S => zf_X11_see_zb N z (fun S => zf_X11_see_z N z n S) S
def zf_X11_see (N : Nat) (z : Nat → Nat) (S : mq_St) : Option (Int32 × mq_St) := (zf_X11_see_z N z N S)
set_option maxHeartbeats 4000000 in
set_option maxRecDepth 100000 in
theorem zw_X11_see_39 {p : Program} {l : Launch} {e : Env} {s : State} {m : MethodId} {args : Array Value} {below : List Frame} {meth : Method} {c : Code} {A : Nat → Prop} {D : va_G} {a z : Nat → Nat} {cI cL cB cZ : ClassId} {Q : State → Prop} {N : Nat} {res : Int32 × mq_St} {k0 : mq_St → Option (Int32 × mq_St)} (C : mq_C p s m args c A D cI cL cB cZ cX11_see 1 RX11 zc_X11_see) (hret : ∀ (H : Heap) (locs : List Loc) (ls : Array Slot) (pc : Nat), decode cX11_see pc = .ok (.ireturn, 1) → va_P D vwCl (wd_R a cI cL cB cZ z res.2) H → va_D A (wd_R a cI cL cB cZ z res.2) → va_S A s.heap H locs → W p l e zr_X11_see s m args below meth c H locs 0 0 Q (F0 m pc ls [.int res.1])) (hk0 : ∀ (S : mq_St) (H : Heap) (locs : List Loc) (ls : Array Slot), k0 S = some res → lv_has ls 1 [(0, .ref (a 0))] → va_P D vwCl (wd_R a cI cL cB cZ z S) H → va_D A (wd_R a cI cL cB cZ z S) → va_S A s.heap H locs → W p l e zr_X11_see s m args below meth c H locs 0 0 Q (F0 m 0 ls [])) (S : mq_St) (H : Heap) (locs : List Loc) (ls : Array Slot) (h : zf_X11_see_39 N z k0 S = some res) (hl : lv_has ls 1 [(0, .ref (a 0))]) (hP : va_P D vwCl (wd_R a cI cL cB cZ z S) H) (hD : va_D A (wd_R a cI cL cB cZ z S)) (hS : va_S A s.heap H locs) : W p l e zr_X11_see s m args below meth c H locs 0 0 Q (F0 m 39 ls []) := by
  obtain ⟨hx, hb, hml, hown, hts, hK, hA⟩ := id C
  unfold zf_X11_see_39 at h
  refine lv_aload_n hx hb dX11_see_39 rfl (lv_at hl 0 rfl) ?_
  refine lv_dup hx hb dX11_see_40 rfl ?_
  refine va_get (D := D) (ci := 11) (v := .int ((S.1 8))) (C := RX11) (T := TX11) (N := 76) hx hb hts (zi_X11 _) hown hK hP 0 rfl rfl 20 (by decide) (hts _ (List.mem_cons_of_mem _ zt_f_X11_175)) (fun _ h9 => h9) rfl dX11_see_41 ?_
  refine lv_iconst (v := (1 : Int32)) hx hb dX11_see_44 (by decide) ?_
  refine lv_iadd hx hb dX11_see_45 ?_
  refine mq_put (w := wd_R a cI cL cB cZ z) (S := S) (D := D) (ci := 11) (v := ((S.1 8) + (1 : Int32))) (ty := .int) (C := RX11) (T := TX11) (N := 76) hx hb hts (zi_X11 _) tyX11 tyX11_ok nmX11 hown hK hP hD hS 0 rfl rfl 20 (by decide) (hts _ (List.mem_cons_of_mem _ zt_f_X11_175)) (fun _ h9 => h9) rfl (by decide +kernel) rfl rfl (Nat.le_of_ble_eq_true rfl) dX11_see_46 8 (zs_wd_R_i_0_8 _ _ _ _ _ _ _ _) (fun S6 eS6 H locs hP hD hS => ?_)
  replace h := mq_nS_go eS6 h
  refine lv_goto (tgt := 0) hx hb dX11_see_49 (by decide) ?_
  exact hk0 S6 H locs ls h (lv_sub hl [0] rfl) hP hD hS
set_option maxHeartbeats 4000000 in
set_option maxRecDepth 100000 in
theorem zw_X11_see_52 {p : Program} {l : Launch} {e : Env} {s : State} {m : MethodId} {args : Array Value} {below : List Frame} {meth : Method} {c : Code} {A : Nat → Prop} {D : va_G} {a z : Nat → Nat} {cI cL cB cZ : ClassId} {Q : State → Prop} {N : Nat} {res : Int32 × mq_St} (C : mq_C p s m args c A D cI cL cB cZ cX11_see 1 RX11 zc_X11_see) (hret : ∀ (H : Heap) (locs : List Loc) (ls : Array Slot) (pc : Nat), decode cX11_see pc = .ok (.ireturn, 1) → va_P D vwCl (wd_R a cI cL cB cZ z res.2) H → va_D A (wd_R a cI cL cB cZ z res.2) → va_S A s.heap H locs → W p l e zr_X11_see s m args below meth c H locs 0 0 Q (F0 m pc ls [.int res.1])) (S : mq_St) (H : Heap) (locs : List Loc) (ls : Array Slot) (h : zf_X11_see_52 N z S = some res) (hl : lv_has ls 1 [(0, .ref (a 0))]) (hP : va_P D vwCl (wd_R a cI cL cB cZ z S) H) (hD : va_D A (wd_R a cI cL cB cZ z S)) (hS : va_S A s.heap H locs) : W p l e zr_X11_see s m args below meth c H locs 0 0 Q (F0 m 52 ls []) := by
  obtain ⟨hx, hb, hml, hown, hts, hK, hA⟩ := id C
  unfold zf_X11_see_52 at h
  refine lv_aload_n hx hb dX11_see_52 rfl (lv_at hl 0 rfl) ?_
  refine va_get (D := D) (ci := 11) (v := .int ((S.1 8))) (C := RX11) (T := TX11) (N := 76) hx hb hts (zi_X11 _) hown hK hP 0 rfl rfl 20 (by decide) (hts _ (List.mem_cons_of_mem _ zt_f_X11_175)) (fun _ h9 => h9) rfl dX11_see_53 ?_
  refine lv_aload_n hx hb dX11_see_56 rfl (lv_at hl 0 rfl) ?_
  refine va_get (D := D) (ci := 11) (v := .int ((S.1 9))) (C := RX11) (T := TX11) (N := 76) hx hb hts (zi_X11 _) hown hK hP 0 rfl rfl 21 (by decide) (hts _ (List.mem_cons_of_mem _ zt_f_X11_178)) (fun _ h9 => h9) rfl dX11_see_57 ?_
  refine lv_icmp_ge (tgt := 79) hx hb dX11_see_60 (by decide) (fun c8 => ?_) (fun c8 => ?_)
  · replace h := mq_it c8 h
    refine lv_iconst (v := (-1 : Int32)) hx hb dX11_see_79 (by decide) ?_
    cases h
    exact hret H locs ls 80 dX11_see_80 hP hD hS
  · replace h := mq_if c8 h
    refine lv_aload_n hx hb dX11_see_63 rfl (lv_at hl 0 rfl) ?_
    refine va_get (D := D) (ci := 11) (v := .ref (a 1)) (C := RX11) (T := TX11) (N := 76) hx hb hts (zi_X11 _) hown hK hP 0 rfl rfl 1 (by decide) (hts _ (List.mem_cons_of_mem _ zt_f_X11_7)) (fun _ h9 => h9) rfl dX11_see_64 ?_
    refine lv_aload_n hx hb dX11_see_67 rfl (lv_at hl 0 rfl) ?_
    refine va_get (D := D) (ci := 11) (v := .int ((S.1 8))) (C := RX11) (T := TX11) (N := 76) hx hb hts (zi_X11 _) hown hK hP 0 rfl rfl 20 (by decide) (hts _ (List.mem_cons_of_mem _ zt_f_X11_175)) (fun _ h9 => h9) rfl dX11_see_68 ?_
    have hi7 := mq_ck_in h
    replace h := mq_ck_go h
    refine va_bald (f := S.2.1 0) hx hb hK hP 1 2 rfl rfl hi7 dX11_see_71 ?_
    refine lv_sipush (v := (255 : Int32)) hx hb dX11_see_72 (by decide) ?_
    refine lv_iand hx hb dX11_see_75 ?_
    refine lv_goto (tgt := 80) hx hb dX11_see_76 (by decide) ?_
    cases h
    exact hret H locs ls 80 dX11_see_80 hP hD hS
set_option maxHeartbeats 4000000 in
set_option maxRecDepth 100000 in
theorem zw_X11_see_zb {p : Program} {l : Launch} {e : Env} {s : State} {m : MethodId} {args : Array Value} {below : List Frame} {meth : Method} {c : Code} {A : Nat → Prop} {D : va_G} {a z : Nat → Nat} {cI cL cB cZ : ClassId} {Q : State → Prop} {N : Nat} {res : Int32 × mq_St} {k0 : mq_St → Option (Int32 × mq_St)} (C : mq_C p s m args c A D cI cL cB cZ cX11_see 1 RX11 zc_X11_see) (hret : ∀ (H : Heap) (locs : List Loc) (ls : Array Slot) (pc : Nat), decode cX11_see pc = .ok (.ireturn, 1) → va_P D vwCl (wd_R a cI cL cB cZ z res.2) H → va_D A (wd_R a cI cL cB cZ z res.2) → va_S A s.heap H locs → W p l e zr_X11_see s m args below meth c H locs 0 0 Q (F0 m pc ls [.int res.1])) (hk0 : ∀ (S : mq_St) (H : Heap) (locs : List Loc) (ls : Array Slot), k0 S = some res → lv_has ls 1 [(0, .ref (a 0))] → va_P D vwCl (wd_R a cI cL cB cZ z S) H → va_D A (wd_R a cI cL cB cZ z S) → va_S A s.heap H locs → W p l e zr_X11_see s m args below meth c H locs 0 0 Q (F0 m 0 ls [])) (S : mq_St) (H : Heap) (locs : List Loc) (ls : Array Slot) (h : zf_X11_see_zb N z k0 S = some res) (hl : lv_has ls 1 [(0, .ref (a 0))]) (hP : va_P D vwCl (wd_R a cI cL cB cZ z S) H) (hD : va_D A (wd_R a cI cL cB cZ z S)) (hS : va_S A s.heap H locs) : W p l e zr_X11_see s m args below meth c H locs 0 0 Q (F0 m 0 ls []) := by
  obtain ⟨hx, hb, hml, hown, hts, hK, hA⟩ := id C
  unfold zf_X11_see_zb at h
  refine lv_aload_n hx hb dX11_see_0 rfl (lv_at hl 0 rfl) ?_
  refine va_get (D := D) (ci := 11) (v := .int ((S.1 8))) (C := RX11) (T := TX11) (N := 76) hx hb hts (zi_X11 _) hown hK hP 0 rfl rfl 20 (by decide) (hts _ (List.mem_cons_of_mem _ zt_f_X11_175)) (fun _ h9 => h9) rfl dX11_see_1 ?_
  refine lv_aload_n hx hb dX11_see_4 rfl (lv_at hl 0 rfl) ?_
  refine va_get (D := D) (ci := 11) (v := .int ((S.1 9))) (C := RX11) (T := TX11) (N := 76) hx hb hts (zi_X11 _) hown hK hP 0 rfl rfl 21 (by decide) (hts _ (List.mem_cons_of_mem _ zt_f_X11_178)) (fun _ h9 => h9) rfl dX11_see_5 ?_
  refine lv_icmp_ge (tgt := 52) hx hb dX11_see_8 (by decide) (fun c5 => ?_) (fun c5 => ?_)
  · replace h := mq_it c5 h
    exact zw_X11_see_52 C hret S H locs ls h (lv_sub hl [0] rfl) hP hD hS
  · replace h := mq_if c5 h
    refine lv_aload_n hx hb dX11_see_11 rfl (lv_at hl 0 rfl) ?_
    refine va_get (D := D) (ci := 11) (v := .ref (a 1)) (C := RX11) (T := TX11) (N := 76) hx hb hts (zi_X11 _) hown hK hP 0 rfl rfl 1 (by decide) (hts _ (List.mem_cons_of_mem _ zt_f_X11_7)) (fun _ h9 => h9) rfl dX11_see_12 ?_
    refine lv_aload_n hx hb dX11_see_15 rfl (lv_at hl 0 rfl) ?_
    refine va_get (D := D) (ci := 11) (v := .int ((S.1 8))) (C := RX11) (T := TX11) (N := 76) hx hb hts (zi_X11 _) hown hK hP 0 rfl rfl 20 (by decide) (hts _ (List.mem_cons_of_mem _ zt_f_X11_175)) (fun _ h9 => h9) rfl dX11_see_16 ?_
    have hi1 := mq_ck_in h
    replace h := mq_ck_go h
    refine va_bald (f := S.2.1 0) hx hb hK hP 1 2 rfl rfl hi1 dX11_see_19 ?_
    refine lv_bipush (v := (32 : Int32)) hx hb dX11_see_20 (by decide) ?_
    refine lv_icmp_eq (tgt := 39) hx hb dX11_see_22 (by decide) (fun c4 => ?_) (fun c4 => ?_)
    · replace h := mq_it c4 h
      exact zw_X11_see_39 C hret hk0 S H locs ls h (lv_sub hl [0] rfl) hP hD hS
    · replace h := mq_if c4 h
      refine lv_aload_n hx hb dX11_see_25 rfl (lv_at hl 0 rfl) ?_
      refine va_get (D := D) (ci := 11) (v := .ref (a 1)) (C := RX11) (T := TX11) (N := 76) hx hb hts (zi_X11 _) hown hK hP 0 rfl rfl 1 (by decide) (hts _ (List.mem_cons_of_mem _ zt_f_X11_7)) (fun _ h9 => h9) rfl dX11_see_26 ?_
      refine lv_aload_n hx hb dX11_see_29 rfl (lv_at hl 0 rfl) ?_
      refine va_get (D := D) (ci := 11) (v := .int ((S.1 8))) (C := RX11) (T := TX11) (N := 76) hx hb hts (zi_X11 _) hown hK hP 0 rfl rfl 20 (by decide) (hts _ (List.mem_cons_of_mem _ zt_f_X11_175)) (fun _ h9 => h9) rfl dX11_see_30 ?_
      have hi2 := mq_ck_in h
      replace h := mq_ck_go h
      refine va_bald (f := S.2.1 0) hx hb hK hP 1 2 rfl rfl hi2 dX11_see_33 ?_
      refine lv_bipush (v := (10 : Int32)) hx hb dX11_see_34 (by decide) ?_
      refine lv_icmp_ne (tgt := 52) hx hb dX11_see_36 (by decide) (fun c3 => ?_) (fun c3 => ?_)
      · replace h := mq_if c3 h
        exact zw_X11_see_52 C hret S H locs ls h (lv_sub hl [0] rfl) hP hD hS
      · replace h := mq_it (by simpa using c3) h
        exact zw_X11_see_39 C hret hk0 S H locs ls h (lv_sub hl [0] rfl) hP hD hS
set_option maxHeartbeats 4000000 in
set_option maxRecDepth 100000 in
theorem zw_X11_see_z {p : Program} {l : Launch} {e : Env} {s : State} {m : MethodId} {args : Array Value} {below : List Frame} {meth : Method} {c : Code} {A : Nat → Prop} {D : va_G} {a z : Nat → Nat} {cI cL cB cZ : ClassId} {Q : State → Prop} {N : Nat} {res : Int32 × mq_St} (C : mq_C p s m args c A D cI cL cB cZ cX11_see 1 RX11 zc_X11_see) (hret : ∀ (H : Heap) (locs : List Loc) (ls : Array Slot) (pc : Nat), decode cX11_see pc = .ok (.ireturn, 1) → va_P D vwCl (wd_R a cI cL cB cZ z res.2) H → va_D A (wd_R a cI cL cB cZ z res.2) → va_S A s.heap H locs → W p l e zr_X11_see s m args below meth c H locs 0 0 Q (F0 m pc ls [.int res.1])) : ∀ (n : Nat) (S : mq_St) (H : Heap) (locs : List Loc) (ls : Array Slot) (h : zf_X11_see_z N z n S = some res) (hl : lv_has ls 1 [(0, .ref (a 0))]) (hP : va_P D vwCl (wd_R a cI cL cB cZ z S) H) (hD : va_D A (wd_R a cI cL cB cZ z S)) (hS : va_S A s.heap H locs), W p l e zr_X11_see s m args below meth c H locs 0 0 Q (F0 m 0 ls []) := by
  intro n
  induction n with
  | zero =>
    intro S H locs ls h hl hP hD hS
    exact nomatch (show (none : Option (Int32 × mq_St)) = some res from h)
  | succ n ih =>
    intro S H locs ls h hl hP hD hS
    exact zw_X11_see_zb C hret (fun S H locs ls h hl hP hD hS => ih S H locs ls h hl hP hD hS) S H locs ls h hl hP hD hS
set_option maxHeartbeats 4000000 in
set_option maxRecDepth 100000 in
theorem zw_X11_see_0 {p : Program} {l : Launch} {e : Env} {s : State} {m : MethodId} {args : Array Value} {below : List Frame} {meth : Method} {c : Code} {A : Nat → Prop} {D : va_G} {a z : Nat → Nat} {cI cL cB cZ : ClassId} {Q : State → Prop} {N : Nat} {res : Int32 × mq_St} (C : mq_C p s m args c A D cI cL cB cZ cX11_see 1 RX11 zc_X11_see) (hret : ∀ (H : Heap) (locs : List Loc) (ls : Array Slot) (pc : Nat), decode cX11_see pc = .ok (.ireturn, 1) → va_P D vwCl (wd_R a cI cL cB cZ z res.2) H → va_D A (wd_R a cI cL cB cZ z res.2) → va_S A s.heap H locs → W p l e zr_X11_see s m args below meth c H locs 0 0 Q (F0 m pc ls [.int res.1])) (S : mq_St) (H : Heap) (locs : List Loc) (ls : Array Slot) (h : zf_X11_see N z S = some res) (hl : lv_has ls 1 [(0, .ref (a 0))]) (hP : va_P D vwCl (wd_R a cI cL cB cZ z S) H) (hD : va_D A (wd_R a cI cL cB cZ z S)) (hS : va_S A s.heap H locs) : W p l e zr_X11_see s m args below meth c H locs 0 0 Q (F0 m 0 ls []) := by
  obtain ⟨hx, hb, hml, hown, hts, hK, hA⟩ := id C
  unfold zf_X11_see at h
  exact zw_X11_see_z C hret N S H locs ls h (lv_sub hl [0] rfl) hP hD hS
set_option maxHeartbeats 4000000 in
set_option maxRecDepth 100000 in
theorem zm_X11_see (l : Launch) (D : va_G) (a z : Nat → Nat) (cI cL cB cZ : ClassId) (sz N : Nat) (S : mq_St) (res : Int32 × mq_St) (h : zf_X11_see N z S = some res) : Met l yX11_see (zc_X11_see :: mq_T) zr_X11_see (va_Pc [.ref (a 0)] (fun U => U.heap.size = sz ∧ va_P D vwCl (wd_R a cI cL cB cZ z S) U.heap ∧ va_K D vwCl (mq_tys cI cL cB cZ) U ∧ va_D (fun _ => True) (wd_R a cI cL cB cZ z S))) (va_Qi (fun (r : Int32) (u : mq_St) => r = res.1 ∧ u = res.2) (fun u t => va_P D vwCl (wd_R a cI cL cB cZ z u) t.heap ∧ va_K D vwCl (mq_tys cI cL cB cZ) t ∧ va_D (va_A (wd_R a cI cL cB cZ z S) sz) (wd_R a cI cL cB cZ z u)) (va_A (wd_R a cI cL cB cZ z S) sz)) 0 0 (va_A (wd_R a cI cL cB cZ z S) sz) := by
  refine Met.ofW (cc := cX11_see) (maxL := 1) (ret := (some .int)) (by decide) rfl ?_
  intro p e s m args below meth c s₁ B hml hv
  obtain ⟨rfl, hsz, hP, hK, hD0⟩ := hv
  have hr := B.returns
  have hlocks := B.notSynchronized
  have hts := atoms_spec (ws := zc_X11_see :: mq_T) B.pre
  have hown : s.vm.findClass RX11 = some m.cls := findClass_of_methodNamed B.named
  subst hsz
  have hD := hD0.self (sz := s.heap.size)
  generalize hAe : va_A (wd_R a cI cL cB cZ z S) s.heap.size = A at hD ⊢
  have hA : ∀ q : Nat, s.heap.size ≤ q → A q := fun q h => by rw [← hAe]; exact Or.inr h
  have hl := lv_entry ([.ref (a 0)]) (n := 1) (Nat.le_of_ble_eq_true rfl)
  rw [lg_entry_eq]
  generalize (lg_sl ([.ref (a 0)]) ++ List.replicate (1 - (lg_sl ([.ref (a 0)])).length) Slot.unset).toArray = ls at hl ⊢
  have hl : lv_has ls 1 [(0, .ref (a 0))] := hl
  refine zw_X11_see_0 (A := A) ⟨B.exec, B.bytes, hml, hown, hts, hK, hA⟩ (fun H locs ls pc dg hP hD hS => ?_) S s.heap [] ls h hl hP hD va_S.rf
  exact W.iret B.exec B.bytes hr (fun t ht hW => ⟨⟨_, _, rfl, ⟨rfl, rfl⟩, by rw [ht]; exact hP, va_K.moved hW.alike hK, hD⟩, hS.F ht⟩) hS.2.2 dg
theorem zt_X11_see_c : zc_X11_see ∈ mq_T := mq_T_mem (mq_t6 (List.mem_of_getElem? (i := 197) rfl)) rfl
theorem zt_X11_see_i : Cond.instanceMethod yX11_see ∈ mq_T := mq_T_mem (mq_t6 (List.mem_of_getElem? (i := 196) rfl)) rfl
theorem zt_X11_see_s : Cond.selects RX11 yX11_see yX11_see ∈ mq_T := mq_T_at 68 (by decide +kernel)
set_option maxHeartbeats 4000000 in
theorem zk_X11_see {p : Program} {l : Launch} {e : Env} {R : Room} {s : State} {m : MethodId} {args : Array Value} {below : List Frame} {meth : Method} {c : Code} {A : Nat → Prop} {D : va_G} {a z : Nat → Nat} {cI cL cB cZ : ClassId} {Q : State → Prop} {cc : ByteArray} {nL idx pc N : Nat} {own : String} {c1 : Cond} {H : Heap} {locs : List Loc} {ls : Array Slot} {rest : List Value} {S : mq_St} {res : Int32 × mq_St} (C : mq_C p s m args c A D cI cL cB cZ cc nL own c1) (hlk : Cond.methodLink own idx yX11_see ∈ mq_T) (hR : zr_X11_see.frames + 1 ≤ R.frames ∧ 8 + (1 + 11) + zr_X11_see.locals ≤ R.locals) (h : zf_X11_see N z S = some res) (hP : va_P D vwCl (wd_R a cI cL cB cZ z S) H) (hD : va_D A (wd_R a cI cL cB cZ z S)) (hS : va_S A s.heap H locs) (hls : ls.size = nL) (hrest : (rest.map fun v => v.category).sum ≤ 8) (hdg : decode cc pc = .ok (.invokevirtual idx, 3)) (kk : ∀ (H1 : Heap) (locs1 : List Loc), va_P D vwCl (wd_R a cI cL cB cZ z res.2) H1 → va_D A (wd_R a cI cL cB cZ z res.2) → va_S A s.heap H1 locs1 → W p l e R s m args below meth c H1 locs1 0 0 Q (F0 m (pc + 3) ls (.int res.1 :: rest))) : W p l e R s m args below meth c H locs 0 0 Q (F0 m pc ls (.ref (a 0) :: rest)) := by
  obtain ⟨hx, hb, hml, hown, hts, hK, hA⟩ := C
  have hFc := mq_freeI hD hS hA
  refine va_calli (va_runV (As := []) (rest := rest) ⟨hx, hb, hml, hown, hts⟩ (zm_X11_see l D a z cI cL cB cZ H.size N S res h) (cwV 0 hts (mq_goodL (mq_wsV hlk zt_X11_see_i zt_X11_see_s zt_ini_X11 zt_X11_see_c)) rfl rfl rfl (by decide +kernel) hR) ⟨fun a U g mk q => ⟨q.1, q.2.1, q.2.2.1, va_K.moved (u := U) (U := U.calling g mk a) (Vm.Alike.refl U.vm) q.2.2.2.1, q.2.2.2.2⟩, zy_R_0 hK hP, fun U hU hW => ⟨rfl, by rw [hU], by rw [hU]; exact hP, va_K.moved hW.alike hK, hD.weaken (fun _ _ _ _ => trivial)⟩⟩ rfl rfl hls rfl (lv_room hrest) hdg ⟨Nat.zero_le _, Nat.zero_le _⟩) hS (fun q _ h => hFc q h) hFc (fun r u t H1 locs ht hvm hw hB hz1 hk1 hS => ?_)
  obtain ⟨rfl, rfl⟩ := hw
  obtain ⟨hP1, hK1, hD1⟩ := hB
  rw [ht] at hP1
  exact kk H1 locs hP1 (hD1.weaken (fun _ _ _ h => hFc _ h)) hS
theorem zt_f_X11_181 : Cond.fieldLink RX11 181 "ModalDeskModel" "fault" "I" ∈ mq_T := mq_T_mem (mq_t5 (List.mem_of_getElem? (i := 187) rfl)) rfl
theorem zs_wd_R_i_0_10 (a z : Nat → Nat) (cI cL cB cZ : ClassId) (S : mq_St) (v : Int32) : (wd_R a cI cL cB cZ z S).set 0 (a 0, .inr (11, ([.int (S.1 0), .ref (a 1), .int (S.1 1), .ref (a 2), .int (S.1 2), .ref (a 3), .ref (a 4), .ref (a 5), .int (S.1 3), .ref (a 6), .ref (a 7), .int (S.1 4), .int (S.1 5), .int (S.1 6), .ref (a 8), .ref (a 9), .ref (a 10), .ref (a 11), .ref (a 12), .int (S.1 7), .int (S.1 8), .int (S.1 9), .int (S.1 10), .int (S.1 11), .int (S.1 12), .int (S.1 13), .ref (a 13), .ref (a 14), .int (S.1 14), .int (S.1 15), .int (S.1 16), .ref (a 15), .int (S.1 17), .ref (a 16), .ref (a 17), .ref (a 18), .int (S.1 18), .int (S.1 19), .int (S.1 20), .int (S.1 21), .int (S.1 22), .int (S.1 23), .int (S.1 24), .int (S.1 25), .ref (a 19), .ref (a 20), .ref (a 21), .ref (a 22), .ref (a 23), .int (S.1 26), .ref (a 24), .ref (a 25), .int (S.1 27), .int (S.1 28), .ref (a 26), .ref (a 27), .ref (a 28), .ref (a 29), .ref (a 30), .ref (a 31), .ref (a 32), .int (S.1 29), .int (S.1 30), .ref (a 33), .ref (a 34), .int (S.1 31), .ref (a 35), .ref (a 36), .ref (a 37), .ref (a 38), .ref (a 39), .ref (a 40), .ref (a 41), .ref (a 42), .ref (a 43), .ref (a 44)] : List Value).set 22 (.int v))) = (wd_R a cI cL cB cZ z (mq_si S 10 v)) := rfl
theorem zt_f_X11_184 : Cond.fieldLink RX11 184 "ModalDeskModel" "faultPlace" "I" ∈ mq_T := mq_T_mem (mq_t5 (List.mem_of_getElem? (i := 188) rfl)) rfl
theorem zs_wd_R_i_0_11 (a z : Nat → Nat) (cI cL cB cZ : ClassId) (S : mq_St) (v : Int32) : (wd_R a cI cL cB cZ z S).set 0 (a 0, .inr (11, ([.int (S.1 0), .ref (a 1), .int (S.1 1), .ref (a 2), .int (S.1 2), .ref (a 3), .ref (a 4), .ref (a 5), .int (S.1 3), .ref (a 6), .ref (a 7), .int (S.1 4), .int (S.1 5), .int (S.1 6), .ref (a 8), .ref (a 9), .ref (a 10), .ref (a 11), .ref (a 12), .int (S.1 7), .int (S.1 8), .int (S.1 9), .int (S.1 10), .int (S.1 11), .int (S.1 12), .int (S.1 13), .ref (a 13), .ref (a 14), .int (S.1 14), .int (S.1 15), .int (S.1 16), .ref (a 15), .int (S.1 17), .ref (a 16), .ref (a 17), .ref (a 18), .int (S.1 18), .int (S.1 19), .int (S.1 20), .int (S.1 21), .int (S.1 22), .int (S.1 23), .int (S.1 24), .int (S.1 25), .ref (a 19), .ref (a 20), .ref (a 21), .ref (a 22), .ref (a 23), .int (S.1 26), .ref (a 24), .ref (a 25), .int (S.1 27), .int (S.1 28), .ref (a 26), .ref (a 27), .ref (a 28), .ref (a 29), .ref (a 30), .ref (a 31), .ref (a 32), .int (S.1 29), .int (S.1 30), .ref (a 33), .ref (a 34), .int (S.1 31), .ref (a 35), .ref (a 36), .ref (a 37), .ref (a 38), .ref (a 39), .ref (a 40), .ref (a 41), .ref (a 42), .ref (a 43), .ref (a 44)] : List Value).set 23 (.int v))) = (wd_R a cI cL cB cZ z (mq_si S 11 v)) := rfl
/-! ModalDeskModel.wrong(I)I -/
def zr_X11_wrong : Room := { frames := 0, cells := 0, slots := 0, locals := 0 }
def zc_X11_wrong : Cond := .code yX11_wrong cX11_wrong 2 (some .int)
def zf_X11_wrong (N : Nat) (z : Nat → Nat) (v1 : Int32) (S : mq_St) : Option (Int32 × mq_St) := (if (S.1 10) = (0 : Int32) then (mq_nS (mq_si S 10 (v1)) (fun S1 => (mq_nS (mq_si S1 11 ((S1.1 8))) (fun S2 => (some ((0 : Int32), S2)))))) else (some ((0 : Int32), S)))
set_option maxHeartbeats 4000000 in
set_option maxRecDepth 100000 in
theorem zw_X11_wrong_0 {p : Program} {l : Launch} {e : Env} {s : State} {m : MethodId} {args : Array Value} {below : List Frame} {meth : Method} {c : Code} {A : Nat → Prop} {D : va_G} {a z : Nat → Nat} {cI cL cB cZ : ClassId} {Q : State → Prop} {N : Nat} {res : Int32 × mq_St} (C : mq_C p s m args c A D cI cL cB cZ cX11_wrong 2 RX11 zc_X11_wrong) (hret : ∀ (H : Heap) (locs : List Loc) (ls : Array Slot) (pc : Nat), decode cX11_wrong pc = .ok (.ireturn, 1) → va_P D vwCl (wd_R a cI cL cB cZ z res.2) H → va_D A (wd_R a cI cL cB cZ z res.2) → va_S A s.heap H locs → W p l e zr_X11_wrong s m args below meth c H locs 0 0 Q (F0 m pc ls [.int res.1])) (v1 : Int32) (S : mq_St) (H : Heap) (locs : List Loc) (ls : Array Slot) (h : zf_X11_wrong N z v1 S = some res) (hl : lv_has ls 2 [(0, .ref (a 0)), (1, .int (v1))]) (hP : va_P D vwCl (wd_R a cI cL cB cZ z S) H) (hD : va_D A (wd_R a cI cL cB cZ z S)) (hS : va_S A s.heap H locs) : W p l e zr_X11_wrong s m args below meth c H locs 0 0 Q (F0 m 0 ls []) := by
  obtain ⟨hx, hb, hml, hown, hts, hK, hA⟩ := id C
  unfold zf_X11_wrong at h
  refine lv_aload_n hx hb dX11_wrong_0 rfl (lv_at hl 0 rfl) ?_
  refine va_get (D := D) (ci := 11) (v := .int ((S.1 10))) (C := RX11) (T := TX11) (N := 76) hx hb hts (zi_X11 _) hown hK hP 0 rfl rfl 22 (by decide) (hts _ (List.mem_cons_of_mem _ zt_f_X11_181)) (fun _ h9 => h9) rfl dX11_wrong_1 ?_
  refine lv_if_ne (tgt := 20) hx hb dX11_wrong_4 (by decide) (fun c3 => ?_) (fun c3 => ?_)
  · replace h := mq_if c3 h
    refine lv_iconst (v := (0 : Int32)) hx hb dX11_wrong_20 (by decide) ?_
    cases h
    exact hret H locs ls 21 dX11_wrong_21 hP hD hS
  · replace h := mq_it (by simpa using c3) h
    refine lv_aload_n hx hb dX11_wrong_7 rfl (lv_at hl 0 rfl) ?_
    refine lv_iload_n hx hb dX11_wrong_8 rfl (lv_at hl 1 rfl) ?_
    refine mq_put (w := wd_R a cI cL cB cZ z) (S := S) (D := D) (ci := 11) (v := v1) (ty := .int) (C := RX11) (T := TX11) (N := 76) hx hb hts (zi_X11 _) tyX11 tyX11_ok nmX11 hown hK hP hD hS 0 rfl rfl 22 (by decide) (hts _ (List.mem_cons_of_mem _ zt_f_X11_181)) (fun _ h9 => h9) rfl (by decide +kernel) rfl rfl (Nat.le_of_ble_eq_true rfl) dX11_wrong_9 10 (zs_wd_R_i_0_10 _ _ _ _ _ _ _ _) (fun S1 eS1 H locs hP hD hS => ?_)
    replace h := mq_nS_go eS1 h
    refine lv_aload_n hx hb dX11_wrong_12 rfl (lv_at hl 0 rfl) ?_
    refine lv_aload_n hx hb dX11_wrong_13 rfl (lv_at hl 0 rfl) ?_
    refine va_get (D := D) (ci := 11) (v := .int ((S1.1 8))) (C := RX11) (T := TX11) (N := 76) hx hb hts (zi_X11 _) hown hK hP 0 rfl rfl 20 (by decide) (hts _ (List.mem_cons_of_mem _ zt_f_X11_175)) (fun _ h9 => h9) rfl dX11_wrong_14 ?_
    refine mq_put (w := wd_R a cI cL cB cZ z) (S := S1) (D := D) (ci := 11) (v := (S1.1 8)) (ty := .int) (C := RX11) (T := TX11) (N := 76) hx hb hts (zi_X11 _) tyX11 tyX11_ok nmX11 hown hK hP hD hS 0 rfl rfl 23 (by decide) (hts _ (List.mem_cons_of_mem _ zt_f_X11_184)) (fun _ h9 => h9) rfl (by decide +kernel) rfl rfl (Nat.le_of_ble_eq_true rfl) dX11_wrong_17 11 (zs_wd_R_i_0_11 _ _ _ _ _ _ _ _) (fun S2 eS2 H locs hP hD hS => ?_)
    replace h := mq_nS_go eS2 h
    refine lv_iconst (v := (0 : Int32)) hx hb dX11_wrong_20 (by decide) ?_
    cases h
    exact hret H locs ls 21 dX11_wrong_21 hP hD hS
set_option maxHeartbeats 4000000 in
set_option maxRecDepth 100000 in
theorem zm_X11_wrong (l : Launch) (D : va_G) (a z : Nat → Nat) (cI cL cB cZ : ClassId) (sz N : Nat) (v1 : Int32) (S : mq_St) (res : Int32 × mq_St) (h : zf_X11_wrong N z v1 S = some res) : Met l yX11_wrong (zc_X11_wrong :: mq_T) zr_X11_wrong (va_Pc [.ref (a 0), .int (v1)] (fun U => U.heap.size = sz ∧ va_P D vwCl (wd_R a cI cL cB cZ z S) U.heap ∧ va_K D vwCl (mq_tys cI cL cB cZ) U ∧ va_D (fun _ => True) (wd_R a cI cL cB cZ z S))) (va_Qi (fun (r : Int32) (u : mq_St) => r = res.1 ∧ u = res.2) (fun u t => va_P D vwCl (wd_R a cI cL cB cZ z u) t.heap ∧ va_K D vwCl (mq_tys cI cL cB cZ) t ∧ va_D (va_A (wd_R a cI cL cB cZ z S) sz) (wd_R a cI cL cB cZ z u)) (va_A (wd_R a cI cL cB cZ z S) sz)) 0 0 (va_A (wd_R a cI cL cB cZ z S) sz) := by
  refine Met.ofW (cc := cX11_wrong) (maxL := 2) (ret := (some .int)) (by decide) rfl ?_
  intro p e s m args below meth c s₁ B hml hv
  obtain ⟨rfl, hsz, hP, hK, hD0⟩ := hv
  have hr := B.returns
  have hlocks := B.notSynchronized
  have hts := atoms_spec (ws := zc_X11_wrong :: mq_T) B.pre
  have hown : s.vm.findClass RX11 = some m.cls := findClass_of_methodNamed B.named
  subst hsz
  have hD := hD0.self (sz := s.heap.size)
  generalize hAe : va_A (wd_R a cI cL cB cZ z S) s.heap.size = A at hD ⊢
  have hA : ∀ q : Nat, s.heap.size ≤ q → A q := fun q h => by rw [← hAe]; exact Or.inr h
  have hl := lv_entry ([.ref (a 0), .int (v1)]) (n := 2) (Nat.le_of_ble_eq_true rfl)
  rw [lg_entry_eq]
  generalize (lg_sl ([.ref (a 0), .int (v1)]) ++ List.replicate (2 - (lg_sl ([.ref (a 0), .int (v1)])).length) Slot.unset).toArray = ls at hl ⊢
  have hl : lv_has ls 2 [(0, .ref (a 0)), (1, .int (v1))] := hl
  refine zw_X11_wrong_0 (A := A) ⟨B.exec, B.bytes, hml, hown, hts, hK, hA⟩ (fun H locs ls pc dg hP hD hS => ?_) v1 S s.heap [] ls h hl hP hD va_S.rf
  exact W.iret B.exec B.bytes hr (fun t ht hW => ⟨⟨_, _, rfl, ⟨rfl, rfl⟩, by rw [ht]; exact hP, va_K.moved hW.alike hK, hD⟩, hS.F ht⟩) hS.2.2 dg
theorem zt_X11_wrong_c : zc_X11_wrong ∈ mq_T := mq_T_mem (mq_t6 (List.mem_of_getElem? (i := 213) rfl)) rfl
theorem zt_X11_wrong_i : Cond.instanceMethod yX11_wrong ∈ mq_T := mq_T_mem (mq_t6 (List.mem_of_getElem? (i := 212) rfl)) rfl
theorem zt_X11_wrong_s : Cond.selects RX11 yX11_wrong yX11_wrong ∈ mq_T := mq_T_at 72 (by decide +kernel)
set_option maxHeartbeats 4000000 in
theorem zk_X11_wrong {p : Program} {l : Launch} {e : Env} {R : Room} {s : State} {m : MethodId} {args : Array Value} {below : List Frame} {meth : Method} {c : Code} {A : Nat → Prop} {D : va_G} {a z : Nat → Nat} {cI cL cB cZ : ClassId} {Q : State → Prop} {cc : ByteArray} {nL idx pc N : Nat} {own : String} {c1 : Cond} {H : Heap} {locs : List Loc} {ls : Array Slot} {rest : List Value} {S : mq_St} {res : Int32 × mq_St} {v1 : Int32} (C : mq_C p s m args c A D cI cL cB cZ cc nL own c1) (hlk : Cond.methodLink own idx yX11_wrong ∈ mq_T) (hR : zr_X11_wrong.frames + 1 ≤ R.frames ∧ 8 + (2 + 11) + zr_X11_wrong.locals ≤ R.locals) (h : zf_X11_wrong N z v1 S = some res) (hP : va_P D vwCl (wd_R a cI cL cB cZ z S) H) (hD : va_D A (wd_R a cI cL cB cZ z S)) (hS : va_S A s.heap H locs) (hls : ls.size = nL) (hrest : (rest.map fun v => v.category).sum ≤ 8) (hdg : decode cc pc = .ok (.invokevirtual idx, 3)) (kk : ∀ (H1 : Heap) (locs1 : List Loc), va_P D vwCl (wd_R a cI cL cB cZ z res.2) H1 → va_D A (wd_R a cI cL cB cZ z res.2) → va_S A s.heap H1 locs1 → W p l e R s m args below meth c H1 locs1 0 0 Q (F0 m (pc + 3) ls (.int res.1 :: rest))) : W p l e R s m args below meth c H locs 0 0 Q (F0 m pc ls (.int (v1) :: .ref (a 0) :: rest)) := by
  obtain ⟨hx, hb, hml, hown, hts, hK, hA⟩ := C
  have hFc := mq_freeI hD hS hA
  refine va_calli (va_runV (As := [.int (v1)]) (rest := rest) ⟨hx, hb, hml, hown, hts⟩ (zm_X11_wrong l D a z cI cL cB cZ H.size N v1 S res h) (cwV 1 hts (mq_goodL (mq_wsV hlk zt_X11_wrong_i zt_X11_wrong_s zt_ini_X11 zt_X11_wrong_c)) rfl rfl rfl (by decide +kernel) hR) ⟨fun a U g mk q => ⟨q.1, q.2.1, q.2.2.1, va_K.moved (u := U) (U := U.calling g mk a) (Vm.Alike.refl U.vm) q.2.2.2.1, q.2.2.2.2⟩, zy_R_0 hK hP, fun U hU hW => ⟨rfl, by rw [hU], by rw [hU]; exact hP, va_K.moved hW.alike hK, hD.weaken (fun _ _ _ _ => trivial)⟩⟩ rfl rfl hls rfl (lv_room hrest) hdg ⟨Nat.zero_le _, Nat.zero_le _⟩) hS (fun q _ h => hFc q h) hFc (fun r u t H1 locs ht hvm hw hB hz1 hk1 hS => ?_)
  obtain ⟨rfl, rfl⟩ := hw
  obtain ⟨hP1, hK1, hD1⟩ := hB
  rw [ht] at hP1
  exact kk H1 locs hP1 (hD1.weaken (fun _ _ _ h => hFc _ h)) hS
theorem zt_f_X11_187 : Cond.fieldLink RX11 187 "ModalDeskModel" "plain" "Z" ∈ mq_T := mq_T_mem (mq_t5 (List.mem_of_getElem? (i := 190) rfl)) rfl
theorem zt_m_X11_190 : Cond.methodLink RX11 190 yX11_node ∈ mq_T := mq_T_mem (mq_t6 (List.mem_of_getElem? (i := 198) rfl)) rfl
/-! ModalDeskModel.box(I)I -/
def zr_X11_box : Room := { frames := 1, cells := 0, slots := 0, locals := 23 }
def zc_X11_box : Cond := .code yX11_box cX11_box 2 (some .int)
def zf_X11_box (N : Nat) (z : Nat → Nat) (v1 : Int32) (S : mq_St) : Option (Int32 × mq_St) := (if (S.1 13) = (0 : Int32) then (mq_cl (zf_X11_node N z ((8 : Int32)) (v1) ((-1 : Int32)) S) (fun q1v S3 => (some (q1v, S3)))) else (some (v1, S)))
set_option maxHeartbeats 4000000 in
set_option maxRecDepth 100000 in
theorem zw_X11_box_0 {p : Program} {l : Launch} {e : Env} {s : State} {m : MethodId} {args : Array Value} {below : List Frame} {meth : Method} {c : Code} {A : Nat → Prop} {D : va_G} {a z : Nat → Nat} {cI cL cB cZ : ClassId} {Q : State → Prop} {N : Nat} {res : Int32 × mq_St} (C : mq_C p s m args c A D cI cL cB cZ cX11_box 2 RX11 zc_X11_box) (hret : ∀ (H : Heap) (locs : List Loc) (ls : Array Slot) (pc : Nat), decode cX11_box pc = .ok (.ireturn, 1) → va_P D vwCl (wd_R a cI cL cB cZ z res.2) H → va_D A (wd_R a cI cL cB cZ z res.2) → va_S A s.heap H locs → W p l e zr_X11_box s m args below meth c H locs 0 0 Q (F0 m pc ls [.int res.1])) (v1 : Int32) (S : mq_St) (H : Heap) (locs : List Loc) (ls : Array Slot) (h : zf_X11_box N z v1 S = some res) (hl : lv_has ls 2 [(0, .ref (a 0)), (1, .int (v1))]) (hP : va_P D vwCl (wd_R a cI cL cB cZ z S) H) (hD : va_D A (wd_R a cI cL cB cZ z S)) (hS : va_S A s.heap H locs) : W p l e zr_X11_box s m args below meth c H locs 0 0 Q (F0 m 0 ls []) := by
  obtain ⟨hx, hb, hml, hown, hts, hK, hA⟩ := id C
  unfold zf_X11_box at h
  refine lv_aload_n hx hb dX11_box_0 rfl (lv_at hl 0 rfl) ?_
  refine va_get (D := D) (ci := 11) (v := .int ((S.1 13))) (C := RX11) (T := TX11) (N := 76) hx hb hts (zi_X11 _) hown hK hP 0 rfl rfl 25 (by decide) (hts _ (List.mem_cons_of_mem _ zt_f_X11_187)) (fun _ h9 => h9) rfl dX11_box_1 ?_
  refine lv_if_eq (tgt := 11) hx hb dX11_box_4 (by decide) (fun c4 => ?_) (fun c4 => ?_)
  · replace h := mq_it c4 h
    refine lv_aload_n hx hb dX11_box_11 rfl (lv_at hl 0 rfl) ?_
    refine lv_bipush (v := (8 : Int32)) hx hb dX11_box_12 (by decide) ?_
    refine lv_iload_n hx hb dX11_box_14 rfl (lv_at hl 1 rfl) ?_
    refine lv_iconst (v := (-1 : Int32)) hx hb dX11_box_15 (by decide) ?_
    obtain ⟨q1, hc2, h⟩ := mq_cl_go h
    refine zk_X11_node C zt_m_X11_190 ⟨by decide, by decide⟩ hc2 hP hD hS hl.1 (Nat.le_of_ble_eq_true rfl) dX11_box_16 (fun H locs hP hD hS => ?_)
    obtain ⟨S3, eS3⟩ : ∃ y, y = q1.2 := ⟨_, rfl⟩
    rw [← eS3] at hP hD h
    cases h
    exact hret H locs ls 19 dX11_box_19 hP hD hS
  · replace h := mq_if c4 h
    refine lv_iload_n hx hb dX11_box_7 rfl (lv_at hl 1 rfl) ?_
    refine lv_goto (tgt := 19) hx hb dX11_box_8 (by decide) ?_
    cases h
    exact hret H locs ls 19 dX11_box_19 hP hD hS
set_option maxHeartbeats 4000000 in
set_option maxRecDepth 100000 in
theorem zm_X11_box (l : Launch) (D : va_G) (a z : Nat → Nat) (cI cL cB cZ : ClassId) (sz N : Nat) (v1 : Int32) (S : mq_St) (res : Int32 × mq_St) (h : zf_X11_box N z v1 S = some res) : Met l yX11_box (zc_X11_box :: mq_T) zr_X11_box (va_Pc [.ref (a 0), .int (v1)] (fun U => U.heap.size = sz ∧ va_P D vwCl (wd_R a cI cL cB cZ z S) U.heap ∧ va_K D vwCl (mq_tys cI cL cB cZ) U ∧ va_D (fun _ => True) (wd_R a cI cL cB cZ z S))) (va_Qi (fun (r : Int32) (u : mq_St) => r = res.1 ∧ u = res.2) (fun u t => va_P D vwCl (wd_R a cI cL cB cZ z u) t.heap ∧ va_K D vwCl (mq_tys cI cL cB cZ) t ∧ va_D (va_A (wd_R a cI cL cB cZ z S) sz) (wd_R a cI cL cB cZ z u)) (va_A (wd_R a cI cL cB cZ z S) sz)) 0 0 (va_A (wd_R a cI cL cB cZ z S) sz) := by
  refine Met.ofW (cc := cX11_box) (maxL := 2) (ret := (some .int)) (by decide) rfl ?_
  intro p e s m args below meth c s₁ B hml hv
  obtain ⟨rfl, hsz, hP, hK, hD0⟩ := hv
  have hr := B.returns
  have hlocks := B.notSynchronized
  have hts := atoms_spec (ws := zc_X11_box :: mq_T) B.pre
  have hown : s.vm.findClass RX11 = some m.cls := findClass_of_methodNamed B.named
  subst hsz
  have hD := hD0.self (sz := s.heap.size)
  generalize hAe : va_A (wd_R a cI cL cB cZ z S) s.heap.size = A at hD ⊢
  have hA : ∀ q : Nat, s.heap.size ≤ q → A q := fun q h => by rw [← hAe]; exact Or.inr h
  have hl := lv_entry ([.ref (a 0), .int (v1)]) (n := 2) (Nat.le_of_ble_eq_true rfl)
  rw [lg_entry_eq]
  generalize (lg_sl ([.ref (a 0), .int (v1)]) ++ List.replicate (2 - (lg_sl ([.ref (a 0), .int (v1)])).length) Slot.unset).toArray = ls at hl ⊢
  have hl : lv_has ls 2 [(0, .ref (a 0)), (1, .int (v1))] := hl
  refine zw_X11_box_0 (A := A) ⟨B.exec, B.bytes, hml, hown, hts, hK, hA⟩ (fun H locs ls pc dg hP hD hS => ?_) v1 S s.heap [] ls h hl hP hD va_S.rf
  exact W.iret B.exec B.bytes hr (fun t ht hW => ⟨⟨_, _, rfl, ⟨rfl, rfl⟩, by rw [ht]; exact hP, va_K.moved hW.alike hK, hD⟩, hS.F ht⟩) hS.2.2 dg
theorem zt_X11_box_c : zc_X11_box ∈ mq_T := mq_T_mem (mq_t6 (List.mem_of_getElem? (i := 205) rfl)) rfl
theorem zt_X11_box_i : Cond.instanceMethod yX11_box ∈ mq_T := mq_T_mem (mq_t6 (List.mem_of_getElem? (i := 204) rfl)) rfl
theorem zt_X11_box_s : Cond.selects RX11 yX11_box yX11_box ∈ mq_T := mq_T_at 70 (by decide +kernel)
set_option maxHeartbeats 4000000 in
theorem zk_X11_box {p : Program} {l : Launch} {e : Env} {R : Room} {s : State} {m : MethodId} {args : Array Value} {below : List Frame} {meth : Method} {c : Code} {A : Nat → Prop} {D : va_G} {a z : Nat → Nat} {cI cL cB cZ : ClassId} {Q : State → Prop} {cc : ByteArray} {nL idx pc N : Nat} {own : String} {c1 : Cond} {H : Heap} {locs : List Loc} {ls : Array Slot} {rest : List Value} {S : mq_St} {res : Int32 × mq_St} {v1 : Int32} (C : mq_C p s m args c A D cI cL cB cZ cc nL own c1) (hlk : Cond.methodLink own idx yX11_box ∈ mq_T) (hR : zr_X11_box.frames + 1 ≤ R.frames ∧ 8 + (2 + 11) + zr_X11_box.locals ≤ R.locals) (h : zf_X11_box N z v1 S = some res) (hP : va_P D vwCl (wd_R a cI cL cB cZ z S) H) (hD : va_D A (wd_R a cI cL cB cZ z S)) (hS : va_S A s.heap H locs) (hls : ls.size = nL) (hrest : (rest.map fun v => v.category).sum ≤ 8) (hdg : decode cc pc = .ok (.invokevirtual idx, 3)) (kk : ∀ (H1 : Heap) (locs1 : List Loc), va_P D vwCl (wd_R a cI cL cB cZ z res.2) H1 → va_D A (wd_R a cI cL cB cZ z res.2) → va_S A s.heap H1 locs1 → W p l e R s m args below meth c H1 locs1 0 0 Q (F0 m (pc + 3) ls (.int res.1 :: rest))) : W p l e R s m args below meth c H locs 0 0 Q (F0 m pc ls (.int (v1) :: .ref (a 0) :: rest)) := by
  obtain ⟨hx, hb, hml, hown, hts, hK, hA⟩ := C
  have hFc := mq_freeI hD hS hA
  refine va_calli (va_runV (As := [.int (v1)]) (rest := rest) ⟨hx, hb, hml, hown, hts⟩ (zm_X11_box l D a z cI cL cB cZ H.size N v1 S res h) (cwV 1 hts (mq_goodL (mq_wsV hlk zt_X11_box_i zt_X11_box_s zt_ini_X11 zt_X11_box_c)) rfl rfl rfl (by decide +kernel) hR) ⟨fun a U g mk q => ⟨q.1, q.2.1, q.2.2.1, va_K.moved (u := U) (U := U.calling g mk a) (Vm.Alike.refl U.vm) q.2.2.2.1, q.2.2.2.2⟩, zy_R_0 hK hP, fun U hU hW => ⟨rfl, by rw [hU], by rw [hU]; exact hP, va_K.moved hW.alike hK, hD.weaken (fun _ _ _ _ => trivial)⟩⟩ rfl rfl hls rfl (lv_room hrest) hdg ⟨Nat.zero_le _, Nat.zero_le _⟩) hS (fun q _ h => hFc q h) hFc (fun r u t H1 locs ht hvm hw hB hz1 hk1 hS => ?_)
  obtain ⟨rfl, rfl⟩ := hw
  obtain ⟨hP1, hK1, hD1⟩ := hB
  rw [ht] at hP1
  exact kk H1 locs hP1 (hD1.weaken (fun _ _ _ h => hFc _ h)) hS
theorem zt_f_X11_194 : Cond.fieldLink RX11 194 "ModalDeskModel" "signMany" "I" ∈ mq_T := mq_T_mem (mq_t5 (List.mem_of_getElem? (i := 194) rfl)) rfl
theorem zs_wd_R_i_0_15 (a z : Nat → Nat) (cI cL cB cZ : ClassId) (S : mq_St) (v : Int32) : (wd_R a cI cL cB cZ z S).set 0 (a 0, .inr (11, ([.int (S.1 0), .ref (a 1), .int (S.1 1), .ref (a 2), .int (S.1 2), .ref (a 3), .ref (a 4), .ref (a 5), .int (S.1 3), .ref (a 6), .ref (a 7), .int (S.1 4), .int (S.1 5), .int (S.1 6), .ref (a 8), .ref (a 9), .ref (a 10), .ref (a 11), .ref (a 12), .int (S.1 7), .int (S.1 8), .int (S.1 9), .int (S.1 10), .int (S.1 11), .int (S.1 12), .int (S.1 13), .ref (a 13), .ref (a 14), .int (S.1 14), .int (S.1 15), .int (S.1 16), .ref (a 15), .int (S.1 17), .ref (a 16), .ref (a 17), .ref (a 18), .int (S.1 18), .int (S.1 19), .int (S.1 20), .int (S.1 21), .int (S.1 22), .int (S.1 23), .int (S.1 24), .int (S.1 25), .ref (a 19), .ref (a 20), .ref (a 21), .ref (a 22), .ref (a 23), .int (S.1 26), .ref (a 24), .ref (a 25), .int (S.1 27), .int (S.1 28), .ref (a 26), .ref (a 27), .ref (a 28), .ref (a 29), .ref (a 30), .ref (a 31), .ref (a 32), .int (S.1 29), .int (S.1 30), .ref (a 33), .ref (a 34), .int (S.1 31), .ref (a 35), .ref (a 36), .ref (a 37), .ref (a 38), .ref (a 39), .ref (a 40), .ref (a 41), .ref (a 42), .ref (a 43), .ref (a 44)] : List Value).set 29 (.int v))) = (wd_R a cI cL cB cZ z (mq_si S 15 v)) := rfl
theorem zt_f_X11_197 : Cond.fieldLink RX11 197 "ModalDeskModel" "valueMany" "I" ∈ mq_T := mq_T_mem (mq_t5 (List.mem_of_getElem? (i := 193) rfl)) rfl
theorem zs_wd_R_i_0_14 (a z : Nat → Nat) (cI cL cB cZ : ClassId) (S : mq_St) (v : Int32) : (wd_R a cI cL cB cZ z S).set 0 (a 0, .inr (11, ([.int (S.1 0), .ref (a 1), .int (S.1 1), .ref (a 2), .int (S.1 2), .ref (a 3), .ref (a 4), .ref (a 5), .int (S.1 3), .ref (a 6), .ref (a 7), .int (S.1 4), .int (S.1 5), .int (S.1 6), .ref (a 8), .ref (a 9), .ref (a 10), .ref (a 11), .ref (a 12), .int (S.1 7), .int (S.1 8), .int (S.1 9), .int (S.1 10), .int (S.1 11), .int (S.1 12), .int (S.1 13), .ref (a 13), .ref (a 14), .int (S.1 14), .int (S.1 15), .int (S.1 16), .ref (a 15), .int (S.1 17), .ref (a 16), .ref (a 17), .ref (a 18), .int (S.1 18), .int (S.1 19), .int (S.1 20), .int (S.1 21), .int (S.1 22), .int (S.1 23), .int (S.1 24), .int (S.1 25), .ref (a 19), .ref (a 20), .ref (a 21), .ref (a 22), .ref (a 23), .int (S.1 26), .ref (a 24), .ref (a 25), .int (S.1 27), .int (S.1 28), .ref (a 26), .ref (a 27), .ref (a 28), .ref (a 29), .ref (a 30), .ref (a 31), .ref (a 32), .int (S.1 29), .int (S.1 30), .ref (a 33), .ref (a 34), .int (S.1 31), .ref (a 35), .ref (a 36), .ref (a 37), .ref (a 38), .ref (a 39), .ref (a 40), .ref (a 41), .ref (a 42), .ref (a 43), .ref (a 44)] : List Value).set 28 (.int v))) = (wd_R a cI cL cB cZ z (mq_si S 14 v)) := rfl
theorem zt_f_X11_54 : Cond.fieldLink RX11 54 "ModalDeskModel" "values" "[I" ∈ mq_T := mq_T_mem (mq_t5 (List.mem_of_getElem? (i := 191) rfl)) rfl
theorem zt_f_X11_57 : Cond.fieldLink RX11 57 "ModalDeskModel" "signs" "[I" ∈ mq_T := mq_T_mem (mq_t5 (List.mem_of_getElem? (i := 192) rfl)) rfl
theorem zt_m_X11_200 : Cond.methodLink RX11 200 yX11_box ∈ mq_T := mq_T_mem (mq_t6 (List.mem_of_getElem? (i := 202) rfl)) rfl
theorem zs_wd_R_a_13_12 (a z : Nat → Nat) (cI cL cB cZ : ClassId) (S : mq_St) (f : Nat → Int32) : (wd_R a cI cL cB cZ z S).set 13 (a 13, .inl (cI, 410, .inl f)) = (wd_R a cI cL cB cZ z (mq_sa S 12 f)) := rfl
/-! ModalDeskModel.joins()V -/
def zr_X11_joins : Room := { frames := 2, cells := 0, slots := 0, locals := 44 }
def zc_X11_joins : Cond := .code yX11_joins cX11_joins 3 none
def zf_X11_joins_162 (N : Nat) (z : Nat → Nat) (v1 : Int32) (S : mq_St) : Option (Unit × mq_St) := (mq_ck (((S.1 14) - (1 : Int32))) 410 (mq_nS (mq_sa S 12 (upd (S.2.1 12) (((S.1 14) - (1 : Int32))).toNatClampNeg (v1))) (fun S47 => (some ((), S47)))))
def zf_X11_joins_161 (N : Nat) (z : Nat → Nat) (t0 : Int32) (S : mq_St) : Option (Unit × mq_St) := (mq_nI (t0) (fun x45 => (zf_X11_joins_162 N z (x45) S)))
def zf_X11_joins (N : Nat) (z : Nat → Nat) (S : mq_St) : Option (Unit × mq_St) := (mq_nS (mq_si S 15 (((S.1 15) - (1 : Int32)))) (fun S1 => (mq_nS (mq_si S1 14 (((S1.1 14) - (1 : Int32)))) (fun S2 => (mq_ck (((S2.1 14) - (1 : Int32))) 410 (mq_nI ((S2.2.1 12 (((S2.1 14) - (1 : Int32))).toNatClampNeg)) (fun x4 => (mq_ck ((S2.1 14)) 410 (mq_nI ((S2.2.1 12 ((S2.1 14)).toNatClampNeg)) (fun x6 => (mq_ck ((S2.1 15)) 410 (if (S2.2.1 13 ((S2.1 15)).toNatClampNeg) = 5 then (mq_cl (zf_X11_node N z ((6 : Int32)) (x4) (x6) S2) (fun q9v S11 => (mq_cl (zf_X11_box N z (q9v) S11) (fun q12v S14 => (mq_nI (q12v) (fun x15 => (zf_X11_joins_162 N z (x15) S14))))))) else (if (S2.2.1 13 ((S2.1 15)).toNatClampNeg) = 6 then (mq_cl (zf_X11_node N z ((5 : Int32)) (x4) (x6) S2) (fun q17v S19 => (mq_nI (q17v) (fun x20 => (zf_X11_joins_162 N z (x20) S19))))) else (if (S2.2.1 13 ((S2.1 15)).toNatClampNeg) = 7 then (mq_cl (zf_X11_node N z ((4 : Int32)) (x4) (x6) S2) (fun q22v S24 => (mq_nI (q22v) (fun x25 => (zf_X11_joins_162 N z (x25) S24))))) else (if (S2.1 13) = (0 : Int32) then (mq_cl (zf_X11_node N z ((6 : Int32)) (x4) (x6) S2) (fun q26v S28 => (mq_cl (zf_X11_box N z (q26v) S28) (fun q29v S31 => (mq_cl (zf_X11_node N z ((6 : Int32)) (x6) (x4) S31) (fun q32v S34 => (mq_cl (zf_X11_box N z (q32v) S34) (fun q35v S37 => (mq_cl (zf_X11_node N z ((4 : Int32)) (q29v) (q35v) S37) (fun q38v S40 => (zf_X11_joins_161 N z (q38v) S40))))))))))) else (mq_cl (zf_X11_node N z ((7 : Int32)) (x4) (x6) S2) (fun q41v S43 => (zf_X11_joins_161 N z (q41v) S43))))))))))))))))))
set_option maxHeartbeats 4000000 in
set_option maxRecDepth 100000 in
theorem zw_X11_joins_162 {p : Program} {l : Launch} {e : Env} {s : State} {m : MethodId} {args : Array Value} {below : List Frame} {meth : Method} {c : Code} {A : Nat → Prop} {D : va_G} {a z : Nat → Nat} {cI cL cB cZ : ClassId} {Q : State → Prop} {N : Nat} {res : Unit × mq_St} (C : mq_C p s m args c A D cI cL cB cZ cX11_joins 3 RX11 zc_X11_joins) (hret : ∀ (H : Heap) (locs : List Loc) (ls : Array Slot) (pc : Nat), decode cX11_joins pc = .ok (.return_, 1) → va_P D vwCl (wd_R a cI cL cB cZ z res.2) H → va_D A (wd_R a cI cL cB cZ z res.2) → va_S A s.heap H locs → W p l e zr_X11_joins s m args below meth c H locs 0 0 Q (F0 m pc ls [])) (v1 : Int32) (S : mq_St) (H : Heap) (locs : List Loc) (ls : Array Slot) (h : zf_X11_joins_162 N z v1 S = some res) (hl : lv_has ls 3 [(0, .ref (a 0)), (1, .int (v1))]) (hP : va_P D vwCl (wd_R a cI cL cB cZ z S) H) (hD : va_D A (wd_R a cI cL cB cZ z S)) (hS : va_S A s.heap H locs) : W p l e zr_X11_joins s m args below meth c H locs 0 0 Q (F0 m 162 ls []) := by
  obtain ⟨hx, hb, hml, hown, hts, hK, hA⟩ := id C
  unfold zf_X11_joins_162 at h
  refine lv_aload_n hx hb dX11_joins_162 rfl (lv_at hl 0 rfl) ?_
  refine va_get (D := D) (ci := 11) (v := .ref (a 13)) (C := RX11) (T := TX11) (N := 76) hx hb hts (zi_X11 _) hown hK hP 0 rfl rfl 26 (by decide) (hts _ (List.mem_cons_of_mem _ zt_f_X11_54)) (fun _ h9 => h9) rfl dX11_joins_163 ?_
  refine lv_aload_n hx hb dX11_joins_166 rfl (lv_at hl 0 rfl) ?_
  refine va_get (D := D) (ci := 11) (v := .int ((S.1 14))) (C := RX11) (T := TX11) (N := 76) hx hb hts (zi_X11 _) hown hK hP 0 rfl rfl 28 (by decide) (hts _ (List.mem_cons_of_mem _ zt_f_X11_197)) (fun _ h9 => h9) rfl dX11_joins_167 ?_
  refine lv_iconst (v := (1 : Int32)) hx hb dX11_joins_170 (by decide) ?_
  refine lv_isub hx hb dX11_joins_171 ?_
  refine lv_iload_n hx hb dX11_joins_172 rfl (lv_at hl 1 rfl) ?_
  have hi46 := mq_ck_in h
  replace h := mq_ck_go h
  refine mq_iast (w := wd_R a cI cL cB cZ z) (S := S) (f := S.2.1 12) hx hb hK hP hD hS 13 0 rfl rfl hi46 dX11_joins_173 12 (zs_wd_R_a_13_12 _ _ _ _ _ _ _ _) (fun S47 eS47 H locs hP hD hS => ?_)
  replace h := mq_nS_go eS47 h
  cases h
  exact hret H locs ls 174 dX11_joins_174 hP hD hS
set_option maxHeartbeats 4000000 in
set_option maxRecDepth 100000 in
theorem zw_X11_joins_161 {p : Program} {l : Launch} {e : Env} {s : State} {m : MethodId} {args : Array Value} {below : List Frame} {meth : Method} {c : Code} {A : Nat → Prop} {D : va_G} {a z : Nat → Nat} {cI cL cB cZ : ClassId} {Q : State → Prop} {N : Nat} {res : Unit × mq_St} (C : mq_C p s m args c A D cI cL cB cZ cX11_joins 3 RX11 zc_X11_joins) (hret : ∀ (H : Heap) (locs : List Loc) (ls : Array Slot) (pc : Nat), decode cX11_joins pc = .ok (.return_, 1) → va_P D vwCl (wd_R a cI cL cB cZ z res.2) H → va_D A (wd_R a cI cL cB cZ z res.2) → va_S A s.heap H locs → W p l e zr_X11_joins s m args below meth c H locs 0 0 Q (F0 m pc ls [])) (t0 : Int32) (S : mq_St) (H : Heap) (locs : List Loc) (ls : Array Slot) (h : zf_X11_joins_161 N z t0 S = some res) (hl : lv_has ls 3 [(0, .ref (a 0))]) (hP : va_P D vwCl (wd_R a cI cL cB cZ z S) H) (hD : va_D A (wd_R a cI cL cB cZ z S)) (hS : va_S A s.heap H locs) : W p l e zr_X11_joins s m args below meth c H locs 0 0 Q (F0 m 161 ls [.int (t0)]) := by
  obtain ⟨hx, hb, hml, hown, hts, hK, hA⟩ := id C
  unfold zf_X11_joins_161 at h
  refine lv_topi (fun x45 ex45 => ?_)
  replace h := mq_nI_go ex45 h
  refine lv_istore_n (lv' := [(1, .int (x45)), (0, .ref (a 0))]) hx hb dX11_joins_161 rfl hl (by decide) rfl (fun ls hl => ?_)
  exact zw_X11_joins_162 C hret (x45) S H locs ls h (lv_sub hl [1, 0] rfl) hP hD hS
set_option maxHeartbeats 4000000 in
set_option maxRecDepth 100000 in
theorem zw_X11_joins_0 {p : Program} {l : Launch} {e : Env} {s : State} {m : MethodId} {args : Array Value} {below : List Frame} {meth : Method} {c : Code} {A : Nat → Prop} {D : va_G} {a z : Nat → Nat} {cI cL cB cZ : ClassId} {Q : State → Prop} {N : Nat} {res : Unit × mq_St} (C : mq_C p s m args c A D cI cL cB cZ cX11_joins 3 RX11 zc_X11_joins) (hret : ∀ (H : Heap) (locs : List Loc) (ls : Array Slot) (pc : Nat), decode cX11_joins pc = .ok (.return_, 1) → va_P D vwCl (wd_R a cI cL cB cZ z res.2) H → va_D A (wd_R a cI cL cB cZ z res.2) → va_S A s.heap H locs → W p l e zr_X11_joins s m args below meth c H locs 0 0 Q (F0 m pc ls [])) (S : mq_St) (H : Heap) (locs : List Loc) (ls : Array Slot) (h : zf_X11_joins N z S = some res) (hl : lv_has ls 3 [(0, .ref (a 0))]) (hP : va_P D vwCl (wd_R a cI cL cB cZ z S) H) (hD : va_D A (wd_R a cI cL cB cZ z S)) (hS : va_S A s.heap H locs) : W p l e zr_X11_joins s m args below meth c H locs 0 0 Q (F0 m 0 ls []) := by
  obtain ⟨hx, hb, hml, hown, hts, hK, hA⟩ := id C
  unfold zf_X11_joins at h
  refine lv_aload_n hx hb dX11_joins_0 rfl (lv_at hl 0 rfl) ?_
  refine lv_dup hx hb dX11_joins_1 rfl ?_
  refine va_get (D := D) (ci := 11) (v := .int ((S.1 15))) (C := RX11) (T := TX11) (N := 76) hx hb hts (zi_X11 _) hown hK hP 0 rfl rfl 29 (by decide) (hts _ (List.mem_cons_of_mem _ zt_f_X11_194)) (fun _ h9 => h9) rfl dX11_joins_2 ?_
  refine lv_iconst (v := (1 : Int32)) hx hb dX11_joins_5 (by decide) ?_
  refine lv_isub hx hb dX11_joins_6 ?_
  refine mq_put (w := wd_R a cI cL cB cZ z) (S := S) (D := D) (ci := 11) (v := ((S.1 15) - (1 : Int32))) (ty := .int) (C := RX11) (T := TX11) (N := 76) hx hb hts (zi_X11 _) tyX11 tyX11_ok nmX11 hown hK hP hD hS 0 rfl rfl 29 (by decide) (hts _ (List.mem_cons_of_mem _ zt_f_X11_194)) (fun _ h9 => h9) rfl (by decide +kernel) rfl rfl (Nat.le_of_ble_eq_true rfl) dX11_joins_7 15 (zs_wd_R_i_0_15 _ _ _ _ _ _ _ _) (fun S1 eS1 H locs hP hD hS => ?_)
  replace h := mq_nS_go eS1 h
  refine lv_aload_n hx hb dX11_joins_10 rfl (lv_at hl 0 rfl) ?_
  refine lv_dup hx hb dX11_joins_11 rfl ?_
  refine va_get (D := D) (ci := 11) (v := .int ((S1.1 14))) (C := RX11) (T := TX11) (N := 76) hx hb hts (zi_X11 _) hown hK hP 0 rfl rfl 28 (by decide) (hts _ (List.mem_cons_of_mem _ zt_f_X11_197)) (fun _ h9 => h9) rfl dX11_joins_12 ?_
  refine lv_iconst (v := (1 : Int32)) hx hb dX11_joins_15 (by decide) ?_
  refine lv_isub hx hb dX11_joins_16 ?_
  refine mq_put (w := wd_R a cI cL cB cZ z) (S := S1) (D := D) (ci := 11) (v := ((S1.1 14) - (1 : Int32))) (ty := .int) (C := RX11) (T := TX11) (N := 76) hx hb hts (zi_X11 _) tyX11 tyX11_ok nmX11 hown hK hP hD hS 0 rfl rfl 28 (by decide) (hts _ (List.mem_cons_of_mem _ zt_f_X11_197)) (fun _ h9 => h9) rfl (by decide +kernel) rfl rfl (Nat.le_of_ble_eq_true rfl) dX11_joins_17 14 (zs_wd_R_i_0_14 _ _ _ _ _ _ _ _) (fun S2 eS2 H locs hP hD hS => ?_)
  replace h := mq_nS_go eS2 h
  refine lv_aload_n hx hb dX11_joins_20 rfl (lv_at hl 0 rfl) ?_
  refine va_get (D := D) (ci := 11) (v := .ref (a 13)) (C := RX11) (T := TX11) (N := 76) hx hb hts (zi_X11 _) hown hK hP 0 rfl rfl 26 (by decide) (hts _ (List.mem_cons_of_mem _ zt_f_X11_54)) (fun _ h9 => h9) rfl dX11_joins_21 ?_
  refine lv_aload_n hx hb dX11_joins_24 rfl (lv_at hl 0 rfl) ?_
  refine va_get (D := D) (ci := 11) (v := .int ((S2.1 14))) (C := RX11) (T := TX11) (N := 76) hx hb hts (zi_X11 _) hown hK hP 0 rfl rfl 28 (by decide) (hts _ (List.mem_cons_of_mem _ zt_f_X11_197)) (fun _ h9 => h9) rfl dX11_joins_25 ?_
  refine lv_iconst (v := (1 : Int32)) hx hb dX11_joins_28 (by decide) ?_
  refine lv_isub hx hb dX11_joins_29 ?_
  have hi3 := mq_ck_in h
  replace h := mq_ck_go h
  refine va_iald (f := S2.2.1 12) hx hb hK hP 13 0 rfl rfl hi3 dX11_joins_30 ?_
  refine lv_topi (fun x4 ex4 => ?_)
  replace h := mq_nI_go ex4 h
  refine lv_istore_n (lv' := [(1, .int (x4)), (0, .ref (a 0))]) hx hb dX11_joins_31 rfl hl (by decide) rfl (fun ls hl => ?_)
  refine lv_aload_n hx hb dX11_joins_32 rfl (lv_at hl 1 rfl) ?_
  refine va_get (D := D) (ci := 11) (v := .ref (a 13)) (C := RX11) (T := TX11) (N := 76) hx hb hts (zi_X11 _) hown hK hP 0 rfl rfl 26 (by decide) (hts _ (List.mem_cons_of_mem _ zt_f_X11_54)) (fun _ h9 => h9) rfl dX11_joins_33 ?_
  refine lv_aload_n hx hb dX11_joins_36 rfl (lv_at hl 1 rfl) ?_
  refine va_get (D := D) (ci := 11) (v := .int ((S2.1 14))) (C := RX11) (T := TX11) (N := 76) hx hb hts (zi_X11 _) hown hK hP 0 rfl rfl 28 (by decide) (hts _ (List.mem_cons_of_mem _ zt_f_X11_197)) (fun _ h9 => h9) rfl dX11_joins_37 ?_
  have hi5 := mq_ck_in h
  replace h := mq_ck_go h
  refine va_iald (f := S2.2.1 12) hx hb hK hP 13 0 rfl rfl hi5 dX11_joins_40 ?_
  refine lv_topi (fun x6 ex6 => ?_)
  replace h := mq_nI_go ex6 h
  refine lv_istore_n (lv' := [(2, .int (x6)), (1, .int (x4)), (0, .ref (a 0))]) hx hb dX11_joins_41 rfl hl (by decide) rfl (fun ls hl => ?_)
  refine lv_aload_n hx hb dX11_joins_42 rfl (lv_at hl 2 rfl) ?_
  refine va_get (D := D) (ci := 11) (v := .ref (a 14)) (C := RX11) (T := TX11) (N := 76) hx hb hts (zi_X11 _) hown hK hP 0 rfl rfl 27 (by decide) (hts _ (List.mem_cons_of_mem _ zt_f_X11_57)) (fun _ h9 => h9) rfl dX11_joins_43 ?_
  refine lv_aload_n hx hb dX11_joins_46 rfl (lv_at hl 2 rfl) ?_
  refine va_get (D := D) (ci := 11) (v := .int ((S2.1 15))) (C := RX11) (T := TX11) (N := 76) hx hb hts (zi_X11 _) hown hK hP 0 rfl rfl 29 (by decide) (hts _ (List.mem_cons_of_mem _ zt_f_X11_194)) (fun _ h9 => h9) rfl dX11_joins_47 ?_
  have hi7 := mq_ck_in h
  replace h := mq_ck_go h
  refine va_iald (f := S2.2.1 13) hx hb hK hP 14 0 rfl rfl hi7 dX11_joins_50 ?_
  by_cases c8 : (S2.2.1 13 ((S2.1 15)).toNatClampNeg) = 5
  · refine lv_tableIn (off := 47) (tgt := 98) hx hb dX11_joins_51 (by rw [c8]; decide) (by rw [c8]; decide) (by rw [c8]; rfl) (by decide) ?_
    replace h := mq_it c8 h
    refine lv_aload_n hx hb dX11_joins_98 rfl (lv_at hl 2 rfl) ?_
    refine lv_aload_n hx hb dX11_joins_99 rfl (lv_at hl 2 rfl) ?_
    refine lv_bipush (v := (6 : Int32)) hx hb dX11_joins_100 (by decide) ?_
    refine lv_iload_n hx hb dX11_joins_102 rfl (lv_at hl 1 rfl) ?_
    refine lv_iload_n hx hb dX11_joins_103 rfl (lv_at hl 0 rfl) ?_
    obtain ⟨q9, hc10, h⟩ := mq_cl_go h
    refine zk_X11_node C zt_m_X11_190 ⟨by decide, by decide⟩ hc10 hP hD hS hl.1 (Nat.le_of_ble_eq_true rfl) dX11_joins_104 (fun H locs hP hD hS => ?_)
    obtain ⟨S11, eS11⟩ : ∃ y, y = q9.2 := ⟨_, rfl⟩
    rw [← eS11] at hP hD h
    obtain ⟨q12, hc13, h⟩ := mq_cl_go h
    refine zk_X11_box C zt_m_X11_200 ⟨by decide, by decide⟩ hc13 hP hD hS hl.1 (Nat.le_of_ble_eq_true rfl) dX11_joins_107 (fun H locs hP hD hS => ?_)
    obtain ⟨S14, eS14⟩ : ∃ y, y = q12.2 := ⟨_, rfl⟩
    rw [← eS14] at hP hD h
    refine lv_topi (fun x15 ex15 => ?_)
    replace h := mq_nI_go ex15 h
    refine lv_istore_n (lv' := [(1, .int (x15)), (2, .int (x6)), (0, .ref (a 0))]) hx hb dX11_joins_110 rfl hl (by decide) rfl (fun ls hl => ?_)
    refine lv_goto (tgt := 162) hx hb dX11_joins_111 (by decide) ?_
    exact zw_X11_joins_162 C hret (x15) S14 H locs ls h (lv_sub hl [2, 0] rfl) hP hD hS
  replace h := mq_if c8 h
  by_cases c16 : (S2.2.1 13 ((S2.1 15)).toNatClampNeg) = 6
  · refine lv_tableIn (off := 36) (tgt := 87) hx hb dX11_joins_51 (by rw [c16]; decide) (by rw [c16]; decide) (by rw [c16]; rfl) (by decide) ?_
    replace h := mq_it c16 h
    refine lv_aload_n hx hb dX11_joins_87 rfl (lv_at hl 2 rfl) ?_
    refine lv_iconst (v := (5 : Int32)) hx hb dX11_joins_88 (by decide) ?_
    refine lv_iload_n hx hb dX11_joins_89 rfl (lv_at hl 1 rfl) ?_
    refine lv_iload_n hx hb dX11_joins_90 rfl (lv_at hl 0 rfl) ?_
    obtain ⟨q17, hc18, h⟩ := mq_cl_go h
    refine zk_X11_node C zt_m_X11_190 ⟨by decide, by decide⟩ hc18 hP hD hS hl.1 (Nat.le_of_ble_eq_true rfl) dX11_joins_91 (fun H locs hP hD hS => ?_)
    obtain ⟨S19, eS19⟩ : ∃ y, y = q17.2 := ⟨_, rfl⟩
    rw [← eS19] at hP hD h
    refine lv_topi (fun x20 ex20 => ?_)
    replace h := mq_nI_go ex20 h
    refine lv_istore_n (lv' := [(1, .int (x20)), (2, .int (x6)), (0, .ref (a 0))]) hx hb dX11_joins_94 rfl hl (by decide) rfl (fun ls hl => ?_)
    refine lv_goto (tgt := 162) hx hb dX11_joins_95 (by decide) ?_
    exact zw_X11_joins_162 C hret (x20) S19 H locs ls h (lv_sub hl [2, 0] rfl) hP hD hS
  replace h := mq_if c16 h
  by_cases c21 : (S2.2.1 13 ((S2.1 15)).toNatClampNeg) = 7
  · refine lv_tableIn (off := 25) (tgt := 76) hx hb dX11_joins_51 (by rw [c21]; decide) (by rw [c21]; decide) (by rw [c21]; rfl) (by decide) ?_
    replace h := mq_it c21 h
    refine lv_aload_n hx hb dX11_joins_76 rfl (lv_at hl 2 rfl) ?_
    refine lv_iconst (v := (4 : Int32)) hx hb dX11_joins_77 (by decide) ?_
    refine lv_iload_n hx hb dX11_joins_78 rfl (lv_at hl 1 rfl) ?_
    refine lv_iload_n hx hb dX11_joins_79 rfl (lv_at hl 0 rfl) ?_
    obtain ⟨q22, hc23, h⟩ := mq_cl_go h
    refine zk_X11_node C zt_m_X11_190 ⟨by decide, by decide⟩ hc23 hP hD hS hl.1 (Nat.le_of_ble_eq_true rfl) dX11_joins_80 (fun H locs hP hD hS => ?_)
    obtain ⟨S24, eS24⟩ : ∃ y, y = q22.2 := ⟨_, rfl⟩
    rw [← eS24] at hP hD h
    refine lv_topi (fun x25 ex25 => ?_)
    replace h := mq_nI_go ex25 h
    refine lv_istore_n (lv' := [(1, .int (x25)), (2, .int (x6)), (0, .ref (a 0))]) hx hb dX11_joins_83 rfl hl (by decide) rfl (fun ls hl => ?_)
    refine lv_goto (tgt := 162) hx hb dX11_joins_84 (by decide) ?_
    exact zw_X11_joins_162 C hret (x25) S24 H locs ls h (lv_sub hl [2, 0] rfl) hP hD hS
  replace h := mq_if c21 h
  have nc8 := lv_neT c8 (show Int32.toInt 5 = 5 by decide)
  have nc16 := lv_neT c16 (show Int32.toInt 6 = 6 by decide)
  have nc21 := lv_neT c21 (show Int32.toInt 7 = 7 by decide)
  refine lv_tableOut (tgt := 114) hx hb dX11_joins_51 (by omega) (by decide) ?_
  refine lv_aload_n hx hb dX11_joins_114 rfl (lv_at hl 2 rfl) ?_
  refine va_get (D := D) (ci := 11) (v := .int ((S2.1 13))) (C := RX11) (T := TX11) (N := 76) hx hb hts (zi_X11 _) hown hK hP 0 rfl rfl 25 (by decide) (hts _ (List.mem_cons_of_mem _ zt_f_X11_187)) (fun _ h9 => h9) rfl dX11_joins_115 ?_
  refine lv_if_eq (tgt := 132) hx hb dX11_joins_118 (by decide) (fun c44 => ?_) (fun c44 => ?_)
  · replace h := mq_it c44 h
    refine lv_aload_n hx hb dX11_joins_132 rfl (lv_at hl 2 rfl) ?_
    refine lv_iconst (v := (4 : Int32)) hx hb dX11_joins_133 (by decide) ?_
    refine lv_aload_n hx hb dX11_joins_134 rfl (lv_at hl 2 rfl) ?_
    refine lv_aload_n hx hb dX11_joins_135 rfl (lv_at hl 2 rfl) ?_
    refine lv_bipush (v := (6 : Int32)) hx hb dX11_joins_136 (by decide) ?_
    refine lv_iload_n hx hb dX11_joins_138 rfl (lv_at hl 1 rfl) ?_
    refine lv_iload_n hx hb dX11_joins_139 rfl (lv_at hl 0 rfl) ?_
    obtain ⟨q26, hc27, h⟩ := mq_cl_go h
    refine zk_X11_node C zt_m_X11_190 ⟨by decide, by decide⟩ hc27 hP hD hS hl.1 (Nat.le_of_ble_eq_true rfl) dX11_joins_140 (fun H locs hP hD hS => ?_)
    obtain ⟨S28, eS28⟩ : ∃ y, y = q26.2 := ⟨_, rfl⟩
    rw [← eS28] at hP hD h
    obtain ⟨q29, hc30, h⟩ := mq_cl_go h
    refine zk_X11_box C zt_m_X11_200 ⟨by decide, by decide⟩ hc30 hP hD hS hl.1 (Nat.le_of_ble_eq_true rfl) dX11_joins_143 (fun H locs hP hD hS => ?_)
    obtain ⟨S31, eS31⟩ : ∃ y, y = q29.2 := ⟨_, rfl⟩
    rw [← eS31] at hP hD h
    refine lv_aload_n hx hb dX11_joins_146 rfl (lv_at hl 2 rfl) ?_
    refine lv_aload_n hx hb dX11_joins_147 rfl (lv_at hl 2 rfl) ?_
    refine lv_bipush (v := (6 : Int32)) hx hb dX11_joins_148 (by decide) ?_
    refine lv_iload_n hx hb dX11_joins_150 rfl (lv_at hl 0 rfl) ?_
    refine lv_iload_n hx hb dX11_joins_151 rfl (lv_at hl 1 rfl) ?_
    obtain ⟨q32, hc33, h⟩ := mq_cl_go h
    refine zk_X11_node C zt_m_X11_190 ⟨by decide, by decide⟩ hc33 hP hD hS hl.1 (Nat.le_of_ble_eq_true rfl) dX11_joins_152 (fun H locs hP hD hS => ?_)
    obtain ⟨S34, eS34⟩ : ∃ y, y = q32.2 := ⟨_, rfl⟩
    rw [← eS34] at hP hD h
    obtain ⟨q35, hc36, h⟩ := mq_cl_go h
    refine zk_X11_box C zt_m_X11_200 ⟨by decide, by decide⟩ hc36 hP hD hS hl.1 (Nat.le_of_ble_eq_true rfl) dX11_joins_155 (fun H locs hP hD hS => ?_)
    obtain ⟨S37, eS37⟩ : ∃ y, y = q35.2 := ⟨_, rfl⟩
    rw [← eS37] at hP hD h
    obtain ⟨q38, hc39, h⟩ := mq_cl_go h
    refine zk_X11_node C zt_m_X11_190 ⟨by decide, by decide⟩ hc39 hP hD hS hl.1 (Nat.le_of_ble_eq_true rfl) dX11_joins_158 (fun H locs hP hD hS => ?_)
    obtain ⟨S40, eS40⟩ : ∃ y, y = q38.2 := ⟨_, rfl⟩
    rw [← eS40] at hP hD h
    exact zw_X11_joins_161 C hret (q38.1) S40 H locs ls h (lv_sub hl [2] rfl) hP hD hS
  · replace h := mq_if c44 h
    refine lv_aload_n hx hb dX11_joins_121 rfl (lv_at hl 2 rfl) ?_
    refine lv_bipush (v := (7 : Int32)) hx hb dX11_joins_122 (by decide) ?_
    refine lv_iload_n hx hb dX11_joins_124 rfl (lv_at hl 1 rfl) ?_
    refine lv_iload_n hx hb dX11_joins_125 rfl (lv_at hl 0 rfl) ?_
    obtain ⟨q41, hc42, h⟩ := mq_cl_go h
    refine zk_X11_node C zt_m_X11_190 ⟨by decide, by decide⟩ hc42 hP hD hS hl.1 (Nat.le_of_ble_eq_true rfl) dX11_joins_126 (fun H locs hP hD hS => ?_)
    obtain ⟨S43, eS43⟩ : ∃ y, y = q41.2 := ⟨_, rfl⟩
    rw [← eS43] at hP hD h
    refine lv_goto (tgt := 161) hx hb dX11_joins_129 (by decide) ?_
    exact zw_X11_joins_161 C hret (q41.1) S43 H locs ls h (lv_sub hl [2] rfl) hP hD hS
set_option maxHeartbeats 4000000 in
set_option maxRecDepth 100000 in
theorem zm_X11_joins (l : Launch) (D : va_G) (a z : Nat → Nat) (cI cL cB cZ : ClassId) (sz N : Nat) (S : mq_St) (res : Unit × mq_St) (h : zf_X11_joins N z S = some res) : Met l yX11_joins (zc_X11_joins :: mq_T) zr_X11_joins (va_Pc [.ref (a 0)] (fun U => U.heap.size = sz ∧ va_P D vwCl (wd_R a cI cL cB cZ z S) U.heap ∧ va_K D vwCl (mq_tys cI cL cB cZ) U ∧ va_D (fun _ => True) (wd_R a cI cL cB cZ z S))) (va_Qv (fun u : mq_St => u = res.2) (fun u t => va_P D vwCl (wd_R a cI cL cB cZ z u) t.heap ∧ va_K D vwCl (mq_tys cI cL cB cZ) t ∧ va_D (va_A (wd_R a cI cL cB cZ z S) sz) (wd_R a cI cL cB cZ z u)) (va_A (wd_R a cI cL cB cZ z S) sz)) 0 0 (va_A (wd_R a cI cL cB cZ z S) sz) := by
  refine Met.ofW (cc := cX11_joins) (maxL := 3) (ret := none) (by decide) rfl ?_
  intro p e s m args below meth c s₁ B hml hv
  obtain ⟨rfl, hsz, hP, hK, hD0⟩ := hv
  have hr := B.returns
  have hlocks := B.notSynchronized
  have hts := atoms_spec (ws := zc_X11_joins :: mq_T) B.pre
  have hown : s.vm.findClass RX11 = some m.cls := findClass_of_methodNamed B.named
  subst hsz
  have hD := hD0.self (sz := s.heap.size)
  generalize hAe : va_A (wd_R a cI cL cB cZ z S) s.heap.size = A at hD ⊢
  have hA : ∀ q : Nat, s.heap.size ≤ q → A q := fun q h => by rw [← hAe]; exact Or.inr h
  have hl := lv_entry ([.ref (a 0)]) (n := 3) (Nat.le_of_ble_eq_true rfl)
  rw [lg_entry_eq]
  generalize (lg_sl ([.ref (a 0)]) ++ List.replicate (3 - (lg_sl ([.ref (a 0)])).length) Slot.unset).toArray = ls at hl ⊢
  have hl : lv_has ls 3 [(0, .ref (a 0))] := hl
  refine zw_X11_joins_0 (A := A) ⟨B.exec, B.bytes, hml, hown, hts, hK, hA⟩ (fun H locs ls pc dg hP hD hS => ?_) S s.heap [] ls h hl hP hD va_S.rf
  exact W.vret B.exec B.bytes hr (fun t ht hW => ⟨⟨_, rfl, rfl, by rw [ht]; exact hP, va_K.moved hW.alike hK, hD⟩, hS.F ht⟩) hS.2.2 dg
theorem zt_X11_joins_c : zc_X11_joins ∈ mq_T := mq_T_mem (mq_t6 (List.mem_of_getElem? (i := 221) rfl)) rfl
theorem zt_X11_joins_i : Cond.instanceMethod yX11_joins ∈ mq_T := mq_T_mem (mq_t6 (List.mem_of_getElem? (i := 220) rfl)) rfl
theorem zt_X11_joins_s : Cond.selects RX11 yX11_joins yX11_joins ∈ mq_T := mq_T_at 74 (by decide +kernel)
set_option maxHeartbeats 4000000 in
theorem zk_X11_joins {p : Program} {l : Launch} {e : Env} {R : Room} {s : State} {m : MethodId} {args : Array Value} {below : List Frame} {meth : Method} {c : Code} {A : Nat → Prop} {D : va_G} {a z : Nat → Nat} {cI cL cB cZ : ClassId} {Q : State → Prop} {cc : ByteArray} {nL idx pc N : Nat} {own : String} {c1 : Cond} {H : Heap} {locs : List Loc} {ls : Array Slot} {rest : List Value} {S : mq_St} {res : Unit × mq_St} (C : mq_C p s m args c A D cI cL cB cZ cc nL own c1) (hlk : Cond.methodLink own idx yX11_joins ∈ mq_T) (hR : zr_X11_joins.frames + 1 ≤ R.frames ∧ 8 + (3 + 11) + zr_X11_joins.locals ≤ R.locals) (h : zf_X11_joins N z S = some res) (hP : va_P D vwCl (wd_R a cI cL cB cZ z S) H) (hD : va_D A (wd_R a cI cL cB cZ z S)) (hS : va_S A s.heap H locs) (hls : ls.size = nL) (hrest : (rest.map fun v => v.category).sum ≤ 8) (hdg : decode cc pc = .ok (.invokevirtual idx, 3)) (kk : ∀ (H1 : Heap) (locs1 : List Loc), va_P D vwCl (wd_R a cI cL cB cZ z res.2) H1 → va_D A (wd_R a cI cL cB cZ z res.2) → va_S A s.heap H1 locs1 → W p l e R s m args below meth c H1 locs1 0 0 Q (F0 m (pc + 3) ls rest)) : W p l e R s m args below meth c H locs 0 0 Q (F0 m pc ls (.ref (a 0) :: rest)) := by
  obtain ⟨hx, hb, hml, hown, hts, hK, hA⟩ := C
  have hFc := mq_freeI hD hS hA
  refine va_callv (va_runV (As := []) (rest := rest) ⟨hx, hb, hml, hown, hts⟩ (zm_X11_joins l D a z cI cL cB cZ H.size N S res h) (cwV 0 hts (mq_goodL (mq_wsV hlk zt_X11_joins_i zt_X11_joins_s zt_ini_X11 zt_X11_joins_c)) rfl rfl rfl (by decide +kernel) hR) ⟨fun a U g mk q => ⟨q.1, q.2.1, q.2.2.1, va_K.moved (u := U) (U := U.calling g mk a) (Vm.Alike.refl U.vm) q.2.2.2.1, q.2.2.2.2⟩, zy_R_0 hK hP, fun U hU hW => ⟨rfl, by rw [hU], by rw [hU]; exact hP, va_K.moved hW.alike hK, hD.weaken (fun _ _ _ _ => trivial)⟩⟩ rfl rfl hls rfl (lv_room hrest) hdg ⟨Nat.zero_le _, Nat.zero_le _⟩) hS (fun q _ h => hFc q h) hFc (fun u t H1 locs ht hvm hw hB hz1 hk1 hS => ?_)
  subst hw
  obtain ⟨hP1, hK1, hD1⟩ := hB
  rw [ht] at hP1
  exact kk H1 locs hP1 (hD1.weaken (fun _ _ _ h => hFc _ h)) hS
theorem zt_f_X11_204 : Cond.fieldLink RX11 204 "ModalDeskModel" "open" "I" ∈ mq_T := mq_T_mem (mq_t5 (List.mem_of_getElem? (i := 189) rfl)) rfl
theorem zs_wd_R_i_0_12 (a z : Nat → Nat) (cI cL cB cZ : ClassId) (S : mq_St) (v : Int32) : (wd_R a cI cL cB cZ z S).set 0 (a 0, .inr (11, ([.int (S.1 0), .ref (a 1), .int (S.1 1), .ref (a 2), .int (S.1 2), .ref (a 3), .ref (a 4), .ref (a 5), .int (S.1 3), .ref (a 6), .ref (a 7), .int (S.1 4), .int (S.1 5), .int (S.1 6), .ref (a 8), .ref (a 9), .ref (a 10), .ref (a 11), .ref (a 12), .int (S.1 7), .int (S.1 8), .int (S.1 9), .int (S.1 10), .int (S.1 11), .int (S.1 12), .int (S.1 13), .ref (a 13), .ref (a 14), .int (S.1 14), .int (S.1 15), .int (S.1 16), .ref (a 15), .int (S.1 17), .ref (a 16), .ref (a 17), .ref (a 18), .int (S.1 18), .int (S.1 19), .int (S.1 20), .int (S.1 21), .int (S.1 22), .int (S.1 23), .int (S.1 24), .int (S.1 25), .ref (a 19), .ref (a 20), .ref (a 21), .ref (a 22), .ref (a 23), .int (S.1 26), .ref (a 24), .ref (a 25), .int (S.1 27), .int (S.1 28), .ref (a 26), .ref (a 27), .ref (a 28), .ref (a 29), .ref (a 30), .ref (a 31), .ref (a 32), .int (S.1 29), .int (S.1 30), .ref (a 33), .ref (a 34), .int (S.1 31), .ref (a 35), .ref (a 36), .ref (a 37), .ref (a 38), .ref (a 39), .ref (a 40), .ref (a 41), .ref (a 42), .ref (a 43), .ref (a 44)] : List Value).set 24 (.int v))) = (wd_R a cI cL cB cZ z (mq_si S 12 v)) := rfl
/-! ModalDeskModel.ahead()V -/
def zr_X11_ahead : Room := { frames := 2, cells := 0, slots := 0, locals := 44 }
def zc_X11_ahead : Cond := .code yX11_ahead cX11_ahead 3 none
def zf_X11_ahead_115 (N : Nat) (z : Nat → Nat) (k0 : mq_St → Option (Unit × mq_St)) (t1 : Int32) (t2 : Int32) (S : mq_St) : Option (Unit × mq_St) := (mq_ck (t1) 410 (mq_nS (mq_sa S 12 (upd (S.2.1 12) (t1).toNatClampNeg (t2))) (fun S21 => (k0 S21))))
def zf_X11_ahead_110 (N : Nat) (z : Nat → Nat) (k0 : mq_St → Option (Unit × mq_St)) (v2 : Int32) (t1 : Int32) (t3 : Int32) (S : mq_St) : Option (Unit × mq_St) := (mq_cl (zf_X11_node N z (t3) (v2) ((-1 : Int32)) S) (fun q22v S24 => (zf_X11_ahead_115 N z k0 (t1) (q22v) S24)))
def zf_X11_ahead_zb (N : Nat) (z : Nat → Nat) (k0 : mq_St → Option (Unit × mq_St)) (S : mq_St) : Option (Unit × mq_St) := (if (S.1 15) ≤ (0 : Int32) then (some ((), S)) else (mq_ck (((S.1 15) - (1 : Int32))) 410 (mq_cp (zf_X11_in N z ((S.2.1 13 (((S.1 15) - (1 : Int32))).toNatClampNeg)) ((1 : Int32)) ((3 : Int32)) (mq_pull S [] [] [])) (fun q2 => (if q2 = (0 : Int32) then (some ((), S)) else (mq_nS (mq_si S 15 (((S.1 15) - (1 : Int32)))) (fun S4 => (mq_nS (mq_si S4 12 (((S4.1 12) - (1 : Int32)))) (fun S5 => (mq_ck ((S5.1 15)) 410 (mq_nI ((S5.2.1 13 ((S5.1 15)).toNatClampNeg)) (fun x7 => (mq_ck (((S5.1 14) - (1 : Int32))) 410 (mq_nI ((S5.2.1 12 (((S5.1 14) - (1 : Int32))).toNatClampNeg)) (fun x9 => (if x7 = (1 : Int32) then (mq_cl (zf_X11_node N z ((3 : Int32)) (x9) ((-1 : Int32)) S5) (fun q11v S13 => (mq_cl (zf_X11_box N z (q11v) S13) (fun q14v S16 => (zf_X11_ahead_115 N z k0 (((S5.1 14) - (1 : Int32))) (q14v) S16))))) else (if x7 = (2 : Int32) then (zf_X11_ahead_110 N z k0 (x9) (((S5.1 14) - (1 : Int32))) ((8 : Int32)) S5) else (zf_X11_ahead_110 N z k0 (x9) (((S5.1 14) - (1 : Int32))) ((9 : Int32)) S5))))))))))))))))))
def zf_X11_ahead_z (N : Nat) (z : Nat → Nat) : Nat → mq_St → Option (Unit × mq_St)
  | 0, _ => none
  | n + 1, S => zf_X11_ahead_zb N z (fun S => zf_X11_ahead_z N z n S) S
def zf_X11_ahead (N : Nat) (z : Nat → Nat) (S : mq_St) : Option (Unit × mq_St) := (zf_X11_ahead_z N z N S)
set_option maxHeartbeats 4000000 in
set_option maxRecDepth 100000 in
theorem zw_X11_ahead_115 {p : Program} {l : Launch} {e : Env} {s : State} {m : MethodId} {args : Array Value} {below : List Frame} {meth : Method} {c : Code} {A : Nat → Prop} {D : va_G} {a z : Nat → Nat} {cI cL cB cZ : ClassId} {Q : State → Prop} {N : Nat} {res : Unit × mq_St} {k0 : mq_St → Option (Unit × mq_St)} (C : mq_C p s m args c A D cI cL cB cZ cX11_ahead 3 RX11 zc_X11_ahead) (hret : ∀ (H : Heap) (locs : List Loc) (ls : Array Slot) (pc : Nat), decode cX11_ahead pc = .ok (.return_, 1) → va_P D vwCl (wd_R a cI cL cB cZ z res.2) H → va_D A (wd_R a cI cL cB cZ z res.2) → va_S A s.heap H locs → W p l e zr_X11_ahead s m args below meth c H locs 0 0 Q (F0 m pc ls [])) (hk0 : ∀ (S : mq_St) (H : Heap) (locs : List Loc) (ls : Array Slot), k0 S = some res → lv_has ls 3 [(0, .ref (a 0))] → va_P D vwCl (wd_R a cI cL cB cZ z S) H → va_D A (wd_R a cI cL cB cZ z S) → va_S A s.heap H locs → W p l e zr_X11_ahead s m args below meth c H locs 0 0 Q (F0 m 0 ls [])) (t1 : Int32) (t2 : Int32) (S : mq_St) (H : Heap) (locs : List Loc) (ls : Array Slot) (h : zf_X11_ahead_115 N z k0 t1 t2 S = some res) (hl : lv_has ls 3 [(0, .ref (a 0))]) (hP : va_P D vwCl (wd_R a cI cL cB cZ z S) H) (hD : va_D A (wd_R a cI cL cB cZ z S)) (hS : va_S A s.heap H locs) : W p l e zr_X11_ahead s m args below meth c H locs 0 0 Q (F0 m 115 ls [.int (t2), .int (t1), .ref (a 13)]) := by
  obtain ⟨hx, hb, hml, hown, hts, hK, hA⟩ := id C
  unfold zf_X11_ahead_115 at h
  have hi20 := mq_ck_in h
  replace h := mq_ck_go h
  refine mq_iast (w := wd_R a cI cL cB cZ z) (S := S) (f := S.2.1 12) hx hb hK hP hD hS 13 0 rfl rfl hi20 dX11_ahead_115 12 (zs_wd_R_a_13_12 _ _ _ _ _ _ _ _) (fun S21 eS21 H locs hP hD hS => ?_)
  replace h := mq_nS_go eS21 h
  refine lv_goto (tgt := 0) hx hb dX11_ahead_116 (by decide) ?_
  exact hk0 S21 H locs ls h (lv_sub hl [0] rfl) hP hD hS
set_option maxHeartbeats 4000000 in
set_option maxRecDepth 100000 in
theorem zw_X11_ahead_110 {p : Program} {l : Launch} {e : Env} {s : State} {m : MethodId} {args : Array Value} {below : List Frame} {meth : Method} {c : Code} {A : Nat → Prop} {D : va_G} {a z : Nat → Nat} {cI cL cB cZ : ClassId} {Q : State → Prop} {N : Nat} {res : Unit × mq_St} {k0 : mq_St → Option (Unit × mq_St)} (C : mq_C p s m args c A D cI cL cB cZ cX11_ahead 3 RX11 zc_X11_ahead) (hret : ∀ (H : Heap) (locs : List Loc) (ls : Array Slot) (pc : Nat), decode cX11_ahead pc = .ok (.return_, 1) → va_P D vwCl (wd_R a cI cL cB cZ z res.2) H → va_D A (wd_R a cI cL cB cZ z res.2) → va_S A s.heap H locs → W p l e zr_X11_ahead s m args below meth c H locs 0 0 Q (F0 m pc ls [])) (hk0 : ∀ (S : mq_St) (H : Heap) (locs : List Loc) (ls : Array Slot), k0 S = some res → lv_has ls 3 [(0, .ref (a 0))] → va_P D vwCl (wd_R a cI cL cB cZ z S) H → va_D A (wd_R a cI cL cB cZ z S) → va_S A s.heap H locs → W p l e zr_X11_ahead s m args below meth c H locs 0 0 Q (F0 m 0 ls [])) (v2 : Int32) (t1 : Int32) (t3 : Int32) (S : mq_St) (H : Heap) (locs : List Loc) (ls : Array Slot) (h : zf_X11_ahead_110 N z k0 v2 t1 t3 S = some res) (hl : lv_has ls 3 [(0, .ref (a 0)), (2, .int (v2))]) (hP : va_P D vwCl (wd_R a cI cL cB cZ z S) H) (hD : va_D A (wd_R a cI cL cB cZ z S)) (hS : va_S A s.heap H locs) : W p l e zr_X11_ahead s m args below meth c H locs 0 0 Q (F0 m 110 ls [.int (t3), .ref (a 0), .int (t1), .ref (a 13)]) := by
  obtain ⟨hx, hb, hml, hown, hts, hK, hA⟩ := id C
  unfold zf_X11_ahead_110 at h
  refine lv_iload_n hx hb dX11_ahead_110 rfl (lv_at hl 1 rfl) ?_
  refine lv_iconst (v := (-1 : Int32)) hx hb dX11_ahead_111 (by decide) ?_
  obtain ⟨q22, hc23, h⟩ := mq_cl_go h
  refine zk_X11_node C zt_m_X11_190 ⟨by decide, by decide⟩ hc23 hP hD hS hl.1 (Nat.le_of_ble_eq_true rfl) dX11_ahead_112 (fun H locs hP hD hS => ?_)
  obtain ⟨S24, eS24⟩ : ∃ y, y = q22.2 := ⟨_, rfl⟩
  rw [← eS24] at hP hD h
  exact zw_X11_ahead_115 C hret hk0 (t1) (q22.1) S24 H locs ls h (lv_sub hl [0] rfl) hP hD hS
set_option maxHeartbeats 4000000 in
set_option maxRecDepth 100000 in
theorem zw_X11_ahead_zb {p : Program} {l : Launch} {e : Env} {s : State} {m : MethodId} {args : Array Value} {below : List Frame} {meth : Method} {c : Code} {A : Nat → Prop} {D : va_G} {a z : Nat → Nat} {cI cL cB cZ : ClassId} {Q : State → Prop} {N : Nat} {res : Unit × mq_St} {k0 : mq_St → Option (Unit × mq_St)} (C : mq_C p s m args c A D cI cL cB cZ cX11_ahead 3 RX11 zc_X11_ahead) (hret : ∀ (H : Heap) (locs : List Loc) (ls : Array Slot) (pc : Nat), decode cX11_ahead pc = .ok (.return_, 1) → va_P D vwCl (wd_R a cI cL cB cZ z res.2) H → va_D A (wd_R a cI cL cB cZ z res.2) → va_S A s.heap H locs → W p l e zr_X11_ahead s m args below meth c H locs 0 0 Q (F0 m pc ls [])) (hk0 : ∀ (S : mq_St) (H : Heap) (locs : List Loc) (ls : Array Slot), k0 S = some res → lv_has ls 3 [(0, .ref (a 0))] → va_P D vwCl (wd_R a cI cL cB cZ z S) H → va_D A (wd_R a cI cL cB cZ z S) → va_S A s.heap H locs → W p l e zr_X11_ahead s m args below meth c H locs 0 0 Q (F0 m 0 ls [])) (S : mq_St) (H : Heap) (locs : List Loc) (ls : Array Slot) (h : zf_X11_ahead_zb N z k0 S = some res) (hl : lv_has ls 3 [(0, .ref (a 0))]) (hP : va_P D vwCl (wd_R a cI cL cB cZ z S) H) (hD : va_D A (wd_R a cI cL cB cZ z S)) (hS : va_S A s.heap H locs) : W p l e zr_X11_ahead s m args below meth c H locs 0 0 Q (F0 m 0 ls []) := by
  obtain ⟨hx, hb, hml, hown, hts, hK, hA⟩ := id C
  unfold zf_X11_ahead_zb at h
  refine lv_aload_n hx hb dX11_ahead_0 rfl (lv_at hl 0 rfl) ?_
  refine va_get (D := D) (ci := 11) (v := .int ((S.1 15))) (C := RX11) (T := TX11) (N := 76) hx hb hts (zi_X11 _) hown hK hP 0 rfl rfl 29 (by decide) (hts _ (List.mem_cons_of_mem _ zt_f_X11_194)) (fun _ h9 => h9) rfl dX11_ahead_1 ?_
  refine lv_if_le (tgt := 119) hx hb dX11_ahead_4 (by decide) (fun c19 => ?_) (fun c19 => ?_)
  · replace h := mq_it c19 h
    cases h
    exact hret H locs ls 119 dX11_ahead_119 hP hD hS
  · replace h := mq_if c19 h
    refine lv_aload_n hx hb dX11_ahead_7 rfl (lv_at hl 0 rfl) ?_
    refine va_get (D := D) (ci := 11) (v := .ref (a 14)) (C := RX11) (T := TX11) (N := 76) hx hb hts (zi_X11 _) hown hK hP 0 rfl rfl 27 (by decide) (hts _ (List.mem_cons_of_mem _ zt_f_X11_57)) (fun _ h9 => h9) rfl dX11_ahead_8 ?_
    refine lv_aload_n hx hb dX11_ahead_11 rfl (lv_at hl 0 rfl) ?_
    refine va_get (D := D) (ci := 11) (v := .int ((S.1 15))) (C := RX11) (T := TX11) (N := 76) hx hb hts (zi_X11 _) hown hK hP 0 rfl rfl 29 (by decide) (hts _ (List.mem_cons_of_mem _ zt_f_X11_194)) (fun _ h9 => h9) rfl dX11_ahead_12 ?_
    refine lv_iconst (v := (1 : Int32)) hx hb dX11_ahead_15 (by decide) ?_
    refine lv_isub hx hb dX11_ahead_16 ?_
    have hi1 := mq_ck_in h
    replace h := mq_ck_go h
    refine va_iald (f := S.2.1 13) hx hb hK hP 14 0 rfl rfl hi1 dX11_ahead_17 ?_
    refine lv_iconst (v := (1 : Int32)) hx hb dX11_ahead_18 (by decide) ?_
    refine lv_iconst (v := (3 : Int32)) hx hb dX11_ahead_19 (by decide) ?_
    obtain ⟨q2, hc3, h⟩ := mq_cp_go h
    refine zv_X11_in (a := mq_ad a []) (z := z) [] C zt_m_X11_161 ⟨by decide, by decide⟩ hc3 rfl (by decide) hP hD hS hl.1 (Nat.le_of_ble_eq_true rfl) dX11_ahead_20 (fun H locs hP hD hS => ?_)
    refine lv_if_eq (tgt := 119) hx hb dX11_ahead_23 (by decide) (fun c18 => ?_) (fun c18 => ?_)
    · replace h := mq_it c18 h
      cases h
      exact hret H locs ls 119 dX11_ahead_119 hP hD hS
    · replace h := mq_if c18 h
      refine lv_aload_n hx hb dX11_ahead_26 rfl (lv_at hl 0 rfl) ?_
      refine lv_dup hx hb dX11_ahead_27 rfl ?_
      refine va_get (D := D) (ci := 11) (v := .int ((S.1 15))) (C := RX11) (T := TX11) (N := 76) hx hb hts (zi_X11 _) hown hK hP 0 rfl rfl 29 (by decide) (hts _ (List.mem_cons_of_mem _ zt_f_X11_194)) (fun _ h9 => h9) rfl dX11_ahead_28 ?_
      refine lv_iconst (v := (1 : Int32)) hx hb dX11_ahead_31 (by decide) ?_
      refine lv_isub hx hb dX11_ahead_32 ?_
      refine mq_put (w := wd_R a cI cL cB cZ z) (S := S) (D := D) (ci := 11) (v := ((S.1 15) - (1 : Int32))) (ty := .int) (C := RX11) (T := TX11) (N := 76) hx hb hts (zi_X11 _) tyX11 tyX11_ok nmX11 hown hK hP hD hS 0 rfl rfl 29 (by decide) (hts _ (List.mem_cons_of_mem _ zt_f_X11_194)) (fun _ h9 => h9) rfl (by decide +kernel) rfl rfl (Nat.le_of_ble_eq_true rfl) dX11_ahead_33 15 (zs_wd_R_i_0_15 _ _ _ _ _ _ _ _) (fun S4 eS4 H locs hP hD hS => ?_)
      replace h := mq_nS_go eS4 h
      refine lv_aload_n hx hb dX11_ahead_36 rfl (lv_at hl 0 rfl) ?_
      refine lv_dup hx hb dX11_ahead_37 rfl ?_
      refine va_get (D := D) (ci := 11) (v := .int ((S4.1 12))) (C := RX11) (T := TX11) (N := 76) hx hb hts (zi_X11 _) hown hK hP 0 rfl rfl 24 (by decide) (hts _ (List.mem_cons_of_mem _ zt_f_X11_204)) (fun _ h9 => h9) rfl dX11_ahead_38 ?_
      refine lv_iconst (v := (1 : Int32)) hx hb dX11_ahead_41 (by decide) ?_
      refine lv_isub hx hb dX11_ahead_42 ?_
      refine mq_put (w := wd_R a cI cL cB cZ z) (S := S4) (D := D) (ci := 11) (v := ((S4.1 12) - (1 : Int32))) (ty := .int) (C := RX11) (T := TX11) (N := 76) hx hb hts (zi_X11 _) tyX11 tyX11_ok nmX11 hown hK hP hD hS 0 rfl rfl 24 (by decide) (hts _ (List.mem_cons_of_mem _ zt_f_X11_204)) (fun _ h9 => h9) rfl (by decide +kernel) rfl rfl (Nat.le_of_ble_eq_true rfl) dX11_ahead_43 12 (zs_wd_R_i_0_12 _ _ _ _ _ _ _ _) (fun S5 eS5 H locs hP hD hS => ?_)
      replace h := mq_nS_go eS5 h
      refine lv_aload_n hx hb dX11_ahead_46 rfl (lv_at hl 0 rfl) ?_
      refine va_get (D := D) (ci := 11) (v := .ref (a 14)) (C := RX11) (T := TX11) (N := 76) hx hb hts (zi_X11 _) hown hK hP 0 rfl rfl 27 (by decide) (hts _ (List.mem_cons_of_mem _ zt_f_X11_57)) (fun _ h9 => h9) rfl dX11_ahead_47 ?_
      refine lv_aload_n hx hb dX11_ahead_50 rfl (lv_at hl 0 rfl) ?_
      refine va_get (D := D) (ci := 11) (v := .int ((S5.1 15))) (C := RX11) (T := TX11) (N := 76) hx hb hts (zi_X11 _) hown hK hP 0 rfl rfl 29 (by decide) (hts _ (List.mem_cons_of_mem _ zt_f_X11_194)) (fun _ h9 => h9) rfl dX11_ahead_51 ?_
      have hi6 := mq_ck_in h
      replace h := mq_ck_go h
      refine va_iald (f := S5.2.1 13) hx hb hK hP 14 0 rfl rfl hi6 dX11_ahead_54 ?_
      refine lv_topi (fun x7 ex7 => ?_)
      replace h := mq_nI_go ex7 h
      refine lv_istore_n (lv' := [(1, .int (x7)), (0, .ref (a 0))]) hx hb dX11_ahead_55 rfl hl (by decide) rfl (fun ls hl => ?_)
      refine lv_aload_n hx hb dX11_ahead_56 rfl (lv_at hl 1 rfl) ?_
      refine va_get (D := D) (ci := 11) (v := .ref (a 13)) (C := RX11) (T := TX11) (N := 76) hx hb hts (zi_X11 _) hown hK hP 0 rfl rfl 26 (by decide) (hts _ (List.mem_cons_of_mem _ zt_f_X11_54)) (fun _ h9 => h9) rfl dX11_ahead_57 ?_
      refine lv_aload_n hx hb dX11_ahead_60 rfl (lv_at hl 1 rfl) ?_
      refine va_get (D := D) (ci := 11) (v := .int ((S5.1 14))) (C := RX11) (T := TX11) (N := 76) hx hb hts (zi_X11 _) hown hK hP 0 rfl rfl 28 (by decide) (hts _ (List.mem_cons_of_mem _ zt_f_X11_197)) (fun _ h9 => h9) rfl dX11_ahead_61 ?_
      refine lv_iconst (v := (1 : Int32)) hx hb dX11_ahead_64 (by decide) ?_
      refine lv_isub hx hb dX11_ahead_65 ?_
      have hi8 := mq_ck_in h
      replace h := mq_ck_go h
      refine va_iald (f := S5.2.1 12) hx hb hK hP 13 0 rfl rfl hi8 dX11_ahead_66 ?_
      refine lv_topi (fun x9 ex9 => ?_)
      replace h := mq_nI_go ex9 h
      refine lv_istore_n (lv' := [(2, .int (x9)), (1, .int (x7)), (0, .ref (a 0))]) hx hb dX11_ahead_67 rfl hl (by decide) rfl (fun ls hl => ?_)
      refine lv_aload_n hx hb dX11_ahead_68 rfl (lv_at hl 2 rfl) ?_
      refine va_get (D := D) (ci := 11) (v := .ref (a 13)) (C := RX11) (T := TX11) (N := 76) hx hb hts (zi_X11 _) hown hK hP 0 rfl rfl 26 (by decide) (hts _ (List.mem_cons_of_mem _ zt_f_X11_54)) (fun _ h9 => h9) rfl dX11_ahead_69 ?_
      refine lv_aload_n hx hb dX11_ahead_72 rfl (lv_at hl 2 rfl) ?_
      refine va_get (D := D) (ci := 11) (v := .int ((S5.1 14))) (C := RX11) (T := TX11) (N := 76) hx hb hts (zi_X11 _) hown hK hP 0 rfl rfl 28 (by decide) (hts _ (List.mem_cons_of_mem _ zt_f_X11_197)) (fun _ h9 => h9) rfl dX11_ahead_73 ?_
      refine lv_iconst (v := (1 : Int32)) hx hb dX11_ahead_76 (by decide) ?_
      refine lv_isub hx hb dX11_ahead_77 ?_
      refine lv_iload_n hx hb dX11_ahead_78 rfl (lv_at hl 1 rfl) ?_
      refine lv_iconst (v := (1 : Int32)) hx hb dX11_ahead_79 (by decide) ?_
      refine lv_icmp_ne (tgt := 97) hx hb dX11_ahead_80 (by decide) (fun c17 => ?_) (fun c17 => ?_)
      · replace h := mq_if c17 h
        refine lv_aload_n hx hb dX11_ahead_97 rfl (lv_at hl 2 rfl) ?_
        refine lv_iload_n hx hb dX11_ahead_98 rfl (lv_at hl 1 rfl) ?_
        refine lv_iconst (v := (2 : Int32)) hx hb dX11_ahead_99 (by decide) ?_
        refine lv_icmp_ne (tgt := 108) hx hb dX11_ahead_100 (by decide) (fun c10 => ?_) (fun c10 => ?_)
        · replace h := mq_if c10 h
          refine lv_bipush (v := (9 : Int32)) hx hb dX11_ahead_108 (by decide) ?_
          exact zw_X11_ahead_110 C hret hk0 (x9) (((S5.1 14) - (1 : Int32))) ((9 : Int32)) S5 H locs ls h (lv_sub hl [2, 0] rfl) hP hD hS
        · replace h := mq_it (by simpa using c10) h
          refine lv_bipush (v := (8 : Int32)) hx hb dX11_ahead_103 (by decide) ?_
          refine lv_goto (tgt := 110) hx hb dX11_ahead_105 (by decide) ?_
          exact zw_X11_ahead_110 C hret hk0 (x9) (((S5.1 14) - (1 : Int32))) ((8 : Int32)) S5 H locs ls h (lv_sub hl [2, 0] rfl) hP hD hS
      · replace h := mq_it (by simpa using c17) h
        refine lv_aload_n hx hb dX11_ahead_83 rfl (lv_at hl 2 rfl) ?_
        refine lv_aload_n hx hb dX11_ahead_84 rfl (lv_at hl 2 rfl) ?_
        refine lv_iconst (v := (3 : Int32)) hx hb dX11_ahead_85 (by decide) ?_
        refine lv_iload_n hx hb dX11_ahead_86 rfl (lv_at hl 0 rfl) ?_
        refine lv_iconst (v := (-1 : Int32)) hx hb dX11_ahead_87 (by decide) ?_
        obtain ⟨q11, hc12, h⟩ := mq_cl_go h
        refine zk_X11_node C zt_m_X11_190 ⟨by decide, by decide⟩ hc12 hP hD hS hl.1 (Nat.le_of_ble_eq_true rfl) dX11_ahead_88 (fun H locs hP hD hS => ?_)
        obtain ⟨S13, eS13⟩ : ∃ y, y = q11.2 := ⟨_, rfl⟩
        rw [← eS13] at hP hD h
        obtain ⟨q14, hc15, h⟩ := mq_cl_go h
        refine zk_X11_box C zt_m_X11_200 ⟨by decide, by decide⟩ hc15 hP hD hS hl.1 (Nat.le_of_ble_eq_true rfl) dX11_ahead_91 (fun H locs hP hD hS => ?_)
        obtain ⟨S16, eS16⟩ : ∃ y, y = q14.2 := ⟨_, rfl⟩
        rw [← eS16] at hP hD h
        refine lv_goto (tgt := 115) hx hb dX11_ahead_94 (by decide) ?_
        exact zw_X11_ahead_115 C hret hk0 (((S5.1 14) - (1 : Int32))) (q14.1) S16 H locs ls h (lv_sub hl [2] rfl) hP hD hS
set_option maxHeartbeats 4000000 in
set_option maxRecDepth 100000 in
theorem zw_X11_ahead_z {p : Program} {l : Launch} {e : Env} {s : State} {m : MethodId} {args : Array Value} {below : List Frame} {meth : Method} {c : Code} {A : Nat → Prop} {D : va_G} {a z : Nat → Nat} {cI cL cB cZ : ClassId} {Q : State → Prop} {N : Nat} {res : Unit × mq_St} (C : mq_C p s m args c A D cI cL cB cZ cX11_ahead 3 RX11 zc_X11_ahead) (hret : ∀ (H : Heap) (locs : List Loc) (ls : Array Slot) (pc : Nat), decode cX11_ahead pc = .ok (.return_, 1) → va_P D vwCl (wd_R a cI cL cB cZ z res.2) H → va_D A (wd_R a cI cL cB cZ z res.2) → va_S A s.heap H locs → W p l e zr_X11_ahead s m args below meth c H locs 0 0 Q (F0 m pc ls [])) : ∀ (n : Nat) (S : mq_St) (H : Heap) (locs : List Loc) (ls : Array Slot) (h : zf_X11_ahead_z N z n S = some res) (hl : lv_has ls 3 [(0, .ref (a 0))]) (hP : va_P D vwCl (wd_R a cI cL cB cZ z S) H) (hD : va_D A (wd_R a cI cL cB cZ z S)) (hS : va_S A s.heap H locs), W p l e zr_X11_ahead s m args below meth c H locs 0 0 Q (F0 m 0 ls []) := by
  intro n
  induction n with
  | zero =>
    intro S H locs ls h hl hP hD hS
    exact nomatch (show (none : Option (Unit × mq_St)) = some res from h)
  | succ n ih =>
    intro S H locs ls h hl hP hD hS
    exact zw_X11_ahead_zb C hret (fun S H locs ls h hl hP hD hS => ih S H locs ls h hl hP hD hS) S H locs ls h hl hP hD hS
set_option maxHeartbeats 4000000 in
set_option maxRecDepth 100000 in
theorem zw_X11_ahead_0 {p : Program} {l : Launch} {e : Env} {s : State} {m : MethodId} {args : Array Value} {below : List Frame} {meth : Method} {c : Code} {A : Nat → Prop} {D : va_G} {a z : Nat → Nat} {cI cL cB cZ : ClassId} {Q : State → Prop} {N : Nat} {res : Unit × mq_St} (C : mq_C p s m args c A D cI cL cB cZ cX11_ahead 3 RX11 zc_X11_ahead) (hret : ∀ (H : Heap) (locs : List Loc) (ls : Array Slot) (pc : Nat), decode cX11_ahead pc = .ok (.return_, 1) → va_P D vwCl (wd_R a cI cL cB cZ z res.2) H → va_D A (wd_R a cI cL cB cZ z res.2) → va_S A s.heap H locs → W p l e zr_X11_ahead s m args below meth c H locs 0 0 Q (F0 m pc ls [])) (S : mq_St) (H : Heap) (locs : List Loc) (ls : Array Slot) (h : zf_X11_ahead N z S = some res) (hl : lv_has ls 3 [(0, .ref (a 0))]) (hP : va_P D vwCl (wd_R a cI cL cB cZ z S) H) (hD : va_D A (wd_R a cI cL cB cZ z S)) (hS : va_S A s.heap H locs) : W p l e zr_X11_ahead s m args below meth c H locs 0 0 Q (F0 m 0 ls []) := by
  obtain ⟨hx, hb, hml, hown, hts, hK, hA⟩ := id C
  unfold zf_X11_ahead at h
  exact zw_X11_ahead_z C hret N S H locs ls h (lv_sub hl [0] rfl) hP hD hS
set_option maxHeartbeats 4000000 in
set_option maxRecDepth 100000 in
theorem zm_X11_ahead (l : Launch) (D : va_G) (a z : Nat → Nat) (cI cL cB cZ : ClassId) (sz N : Nat) (S : mq_St) (res : Unit × mq_St) (h : zf_X11_ahead N z S = some res) : Met l yX11_ahead (zc_X11_ahead :: mq_T) zr_X11_ahead (va_Pc [.ref (a 0)] (fun U => U.heap.size = sz ∧ va_P D vwCl (wd_R a cI cL cB cZ z S) U.heap ∧ va_K D vwCl (mq_tys cI cL cB cZ) U ∧ va_D (fun _ => True) (wd_R a cI cL cB cZ z S))) (va_Qv (fun u : mq_St => u = res.2) (fun u t => va_P D vwCl (wd_R a cI cL cB cZ z u) t.heap ∧ va_K D vwCl (mq_tys cI cL cB cZ) t ∧ va_D (va_A (wd_R a cI cL cB cZ z S) sz) (wd_R a cI cL cB cZ z u)) (va_A (wd_R a cI cL cB cZ z S) sz)) 0 0 (va_A (wd_R a cI cL cB cZ z S) sz) := by
  refine Met.ofW (cc := cX11_ahead) (maxL := 3) (ret := none) (by decide) rfl ?_
  intro p e s m args below meth c s₁ B hml hv
  obtain ⟨rfl, hsz, hP, hK, hD0⟩ := hv
  have hr := B.returns
  have hlocks := B.notSynchronized
  have hts := atoms_spec (ws := zc_X11_ahead :: mq_T) B.pre
  have hown : s.vm.findClass RX11 = some m.cls := findClass_of_methodNamed B.named
  subst hsz
  have hD := hD0.self (sz := s.heap.size)
  generalize hAe : va_A (wd_R a cI cL cB cZ z S) s.heap.size = A at hD ⊢
  have hA : ∀ q : Nat, s.heap.size ≤ q → A q := fun q h => by rw [← hAe]; exact Or.inr h
  have hl := lv_entry ([.ref (a 0)]) (n := 3) (Nat.le_of_ble_eq_true rfl)
  rw [lg_entry_eq]
  generalize (lg_sl ([.ref (a 0)]) ++ List.replicate (3 - (lg_sl ([.ref (a 0)])).length) Slot.unset).toArray = ls at hl ⊢
  have hl : lv_has ls 3 [(0, .ref (a 0))] := hl
  refine zw_X11_ahead_0 (A := A) ⟨B.exec, B.bytes, hml, hown, hts, hK, hA⟩ (fun H locs ls pc dg hP hD hS => ?_) S s.heap [] ls h hl hP hD va_S.rf
  exact W.vret B.exec B.bytes hr (fun t ht hW => ⟨⟨_, rfl, rfl, by rw [ht]; exact hP, va_K.moved hW.alike hK, hD⟩, hS.F ht⟩) hS.2.2 dg
theorem zt_X11_ahead_c : zc_X11_ahead ∈ mq_T := mq_T_mem (mq_t6 (List.mem_of_getElem? (i := 209) rfl)) rfl
theorem zt_X11_ahead_i : Cond.instanceMethod yX11_ahead ∈ mq_T := mq_T_mem (mq_t6 (List.mem_of_getElem? (i := 208) rfl)) rfl
theorem zt_X11_ahead_s : Cond.selects RX11 yX11_ahead yX11_ahead ∈ mq_T := mq_T_at 71 (by decide +kernel)
set_option maxHeartbeats 4000000 in
theorem zk_X11_ahead {p : Program} {l : Launch} {e : Env} {R : Room} {s : State} {m : MethodId} {args : Array Value} {below : List Frame} {meth : Method} {c : Code} {A : Nat → Prop} {D : va_G} {a z : Nat → Nat} {cI cL cB cZ : ClassId} {Q : State → Prop} {cc : ByteArray} {nL idx pc N : Nat} {own : String} {c1 : Cond} {H : Heap} {locs : List Loc} {ls : Array Slot} {rest : List Value} {S : mq_St} {res : Unit × mq_St} (C : mq_C p s m args c A D cI cL cB cZ cc nL own c1) (hlk : Cond.methodLink own idx yX11_ahead ∈ mq_T) (hR : zr_X11_ahead.frames + 1 ≤ R.frames ∧ 8 + (3 + 11) + zr_X11_ahead.locals ≤ R.locals) (h : zf_X11_ahead N z S = some res) (hP : va_P D vwCl (wd_R a cI cL cB cZ z S) H) (hD : va_D A (wd_R a cI cL cB cZ z S)) (hS : va_S A s.heap H locs) (hls : ls.size = nL) (hrest : (rest.map fun v => v.category).sum ≤ 8) (hdg : decode cc pc = .ok (.invokevirtual idx, 3)) (kk : ∀ (H1 : Heap) (locs1 : List Loc), va_P D vwCl (wd_R a cI cL cB cZ z res.2) H1 → va_D A (wd_R a cI cL cB cZ z res.2) → va_S A s.heap H1 locs1 → W p l e R s m args below meth c H1 locs1 0 0 Q (F0 m (pc + 3) ls rest)) : W p l e R s m args below meth c H locs 0 0 Q (F0 m pc ls (.ref (a 0) :: rest)) := by
  obtain ⟨hx, hb, hml, hown, hts, hK, hA⟩ := C
  have hFc := mq_freeI hD hS hA
  refine va_callv (va_runV (As := []) (rest := rest) ⟨hx, hb, hml, hown, hts⟩ (zm_X11_ahead l D a z cI cL cB cZ H.size N S res h) (cwV 0 hts (mq_goodL (mq_wsV hlk zt_X11_ahead_i zt_X11_ahead_s zt_ini_X11 zt_X11_ahead_c)) rfl rfl rfl (by decide +kernel) hR) ⟨fun a U g mk q => ⟨q.1, q.2.1, q.2.2.1, va_K.moved (u := U) (U := U.calling g mk a) (Vm.Alike.refl U.vm) q.2.2.2.1, q.2.2.2.2⟩, zy_R_0 hK hP, fun U hU hW => ⟨rfl, by rw [hU], by rw [hU]; exact hP, va_K.moved hW.alike hK, hD.weaken (fun _ _ _ _ => trivial)⟩⟩ rfl rfl hls rfl (lv_room hrest) hdg ⟨Nat.zero_le _, Nat.zero_le _⟩) hS (fun q _ h => hFc q h) hFc (fun u t H1 locs ht hvm hw hB hz1 hk1 hS => ?_)
  subst hw
  obtain ⟨hP1, hK1, hD1⟩ := hB
  rw [ht] at hP1
  exact kk H1 locs hP1 (hD1.weaken (fun _ _ _ h => hFc _ h)) hS
