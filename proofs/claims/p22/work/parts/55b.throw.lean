/-! What a throw needs: the texts, two statics of Throwable's, words that warming may touch. -/
def mq_B (U : State) : Prop := va_Nw (.castable mq_E mq_E) U ∧ va_Nw (.declares (Bundle.initS "java/lang/RuntimeException")) U ∧ va_Nw (.declares (Bundle.initS "java/lang/Exception")) U ∧ va_Nw (.declares (Bundle.initS Bundle.tN)) U
def mq_X (A : Nat → Prop) (s1 s2 : Nat) (U : State) : Prop := vk_R RX10 198 "no such world" s1 U ∧ vk_R RX10 206 "no such world, or formula" s2 U ∧ vx_Zq Bundle.tN "UNASSIGNED_STACK" Bundle.steD A U U.heap ∧ vx_Zq Bundle.tN "SUPPRESSED_SENTINEL" Bundle.listD A U U.heap ∧ mq_B U
theorem mq_X_same {A : Nat → Prop} {s1 s2 : Nat} {u U : State} (hv : U.vm = u.vm) (hh : U.heap = u.heap) (h : mq_X A s1 s2 u) : mq_X A s1 s2 U := by
  have hal : u.vm.Alike U.vm := by rw [hv]; exact Vm.Alike.refl u.vm
  exact ⟨h.1.same hv, h.2.1.same hv, by rw [hh]; exact h.2.2.1.moved hal, by rw [hh]; exact h.2.2.2.1.moved hal, h.2.2.2.2.1.same rfl hv.symm, h.2.2.2.2.2.1.same rfl hv.symm, h.2.2.2.2.2.2.1.same rfl hv.symm, h.2.2.2.2.2.2.2.same rfl hv.symm⟩
theorem mq_X_at {A B : Nat → Prop} {s1 s2 : Nat} {s U : State} {locs : List Loc} (hW : s.WarmedH U.vm) (hS : va_S A s.heap U.heap locs) (hAB : ∀ q, B q → A q) (h : mq_X A s1 s2 s) : mq_X B s1 s2 U :=
  ⟨h.1.warm hW, h.2.1.warm hW, ((h.2.2.1.moved hW.alike).kept (fun q h1 h2 => hS.2.1 q h1 h2)).narrow hAB, ((h.2.2.2.1.moved hW.alike).kept (fun q h1 h2 => hS.2.1 q h1 h2)).narrow hAB, h.2.2.2.2.1.warmC hW, h.2.2.2.2.2.1.warmD hW, h.2.2.2.2.2.2.1.warmD hW, h.2.2.2.2.2.2.2.warmD hW⟩
theorem mq_atS_T : ∀ w ∈ (mq_oS RX10 200).filter goodWord, w ∈ mq_T := by
  intro w hw
  exact mq_T_mem (((by decide +kernel : ∀ w ∈ (mq_oS RX10 200).filter goodWord, w ∈ tables_1_5 ∨ w ∈ lw_tbl) w hw).elim mq_t5 id) (List.mem_filter.mp hw).2
theorem mq_atS_no : ∀ w ∈ (mq_oS RX10 200).filter (fun w => !goodWord w), w ∈ [Cond.castable mq_E mq_E, .declares (Bundle.initS "java/lang/RuntimeException"), .declares (Bundle.initS "java/lang/Exception"), .declares (Bundle.initS Bundle.tN)] := by decide +kernel
theorem mq_atS_ot : ∀ w ∈ Cond.classLink RX10 196 mq_E :: Cond.initialized mq_E :: mq_oS RX10 200, vx_ot w = true := by decide +kernel
theorem zt_nse_l : Cond.classLink RX10 196 mq_E ∈ mq_T := mq_T_mem (mq_t5 (List.mem_of_getElem? (i := 17) rfl)) rfl
theorem zt_nse_i : Cond.initialized mq_E ∈ mq_T := mq_T_mem (mq_t1 (List.mem_of_getElem? (i := 18) rfl)) rfl
theorem mq_atS_all {args : Array Value} {s : State} {c1 : Cond} (hts : ∀ w ∈ c1 :: mq_T, w.before args s = true) (hB : mq_B s) : ∀ w ∈ mq_oS RX10 200, w.before args s = true :=
  vx_hat (fun w hw => hts w (List.mem_cons_of_mem _ (mq_atS_T w hw))) mq_atS_no (vx_c (va_Nw.use rfl hB.1) (vx_c (va_Nw.use rfl hB.2.1) (vx_c (va_Nw.use rfl hB.2.2.1) (vx_c (va_Nw.use rfl hB.2.2.2) vx_n))))

theorem zt_m_X10_195 : Cond.methodLink RX10 195 yX4_has ∈ mq_T := mq_T_mem (mq_t5 (List.mem_of_getElem? (i := 16) rfl)) rfl
theorem zt_m_X10_203 : Cond.methodLink RX10 203 yX4_isSeen ∈ mq_T := mq_T_mem (mq_t5 (List.mem_of_getElem? (i := 83) rfl)) rfl
/-! ModalDesk.sees(II)Z -/
def zr_X10_sees : Room := { frames := 6, cells := 1, slots := 6, locals := 100 }
def zc_X10_sees : Cond := .code yX10_sees cX10_sees 3 (some .boolean)
def zf_X10_sees_22 (N : Nat) (z : Nat → Nat) (S : mq_St) : Option (Option Int32 × mq_St) := (some (none, S))
def zf_X10_sees (N : Nat) (z : Nat → Nat) (v1 : Int32) (v2 : Int32) (S : mq_St) : Option (Option Int32 × mq_St) := (mq_cp (zf_X4_has N z (v1) S) (fun q1 => (if q1 = (0 : Int32) then (zf_X10_sees_22 N z S) else (mq_cp (zf_X4_has N z (v2) S) (fun q3 => (if q3 = (0 : Int32) then (zf_X10_sees_22 N z S) else (mq_cp (zf_X4_isSeen N z (v1) (v2) S) (fun q5 => (mq_cz (q5) (some (some (q5), S)))))))))))
set_option maxHeartbeats 4000000 in
set_option maxRecDepth 100000 in
theorem zw_X10_sees_22 {p : Program} {l : Launch} {e : Env} {s : State} {m : MethodId} {args : Array Value} {below : List Frame} {meth : Method} {c : Code} {A : Nat → Prop} {D : va_G} {a z : Nat → Nat} {cI cL cB cZ : ClassId} {Q : State → Prop} {N : Nat} {res : Option Int32 × mq_St} (C : mq_C p s m args c A D cI cL cB cZ cX10_sees 3 RX10 zc_X10_sees) (hret : ∀ (r : Int32) (S1 : mq_St), res = (some r, S1) → ∀ (H : Heap) (locs : List Loc) (ls : Array Slot) (pc : Nat), decode cX10_sees pc = .ok (.ireturn, 1) → narrow .boolean (.int r) = .int r → va_P D vwCl (wd_C a cI cL cB cZ z S1) H → va_D A (wd_C a cI cL cB cZ z S1) → va_S A s.heap H locs → W p l e zr_X10_sees s m args below meth c H locs 0 0 Q (F0 m pc ls [.int r])) (hthr : ∀ S1 : mq_St, res = (none, S1) → ∀ (H : Heap) (locs : List Loc) (ls : Array Slot), ls.size = 3 → va_P D vwCl (wd_C a cI cL cB cZ z S1) H → va_D A (wd_C a cI cL cB cZ z S1) → va_S A s.heap H locs → W p l e zr_X10_sees s m args below meth c H locs 0 0 Q (F0 m 22 ls [])) (S : mq_St) (H : Heap) (locs : List Loc) (ls : Array Slot) (h : zf_X10_sees_22 N z S = some res) (hl : lv_has ls 3 []) (hP : va_P D vwCl (wd_C a cI cL cB cZ z S) H) (hD : va_D A (wd_C a cI cL cB cZ z S)) (hS : va_S A s.heap H locs) : W p l e zr_X10_sees s m args below meth c H locs 0 0 Q (F0 m 22 ls []) := by
  obtain ⟨hx, hb, hml, hown, hts, hK, hA⟩ := id C
  unfold zf_X10_sees_22 at h
  cases h
  exact hthr _ rfl H locs ls hl.1 hP hD hS
set_option maxHeartbeats 4000000 in
set_option maxRecDepth 100000 in
theorem zw_X10_sees_0 {p : Program} {l : Launch} {e : Env} {s : State} {m : MethodId} {args : Array Value} {below : List Frame} {meth : Method} {c : Code} {A : Nat → Prop} {D : va_G} {a z : Nat → Nat} {cI cL cB cZ : ClassId} {Q : State → Prop} {N : Nat} {res : Option Int32 × mq_St} (C : mq_C p s m args c A D cI cL cB cZ cX10_sees 3 RX10 zc_X10_sees) (hret : ∀ (r : Int32) (S1 : mq_St), res = (some r, S1) → ∀ (H : Heap) (locs : List Loc) (ls : Array Slot) (pc : Nat), decode cX10_sees pc = .ok (.ireturn, 1) → narrow .boolean (.int r) = .int r → va_P D vwCl (wd_C a cI cL cB cZ z S1) H → va_D A (wd_C a cI cL cB cZ z S1) → va_S A s.heap H locs → W p l e zr_X10_sees s m args below meth c H locs 0 0 Q (F0 m pc ls [.int r])) (hthr : ∀ S1 : mq_St, res = (none, S1) → ∀ (H : Heap) (locs : List Loc) (ls : Array Slot), ls.size = 3 → va_P D vwCl (wd_C a cI cL cB cZ z S1) H → va_D A (wd_C a cI cL cB cZ z S1) → va_S A s.heap H locs → W p l e zr_X10_sees s m args below meth c H locs 0 0 Q (F0 m 22 ls [])) (v1 : Int32) (v2 : Int32) (S : mq_St) (H : Heap) (locs : List Loc) (ls : Array Slot) (h : zf_X10_sees N z v1 v2 S = some res) (hl : lv_has ls 3 [(0, .ref (a 0)), (1, .int (v1)), (2, .int (v2))]) (hP : va_P D vwCl (wd_C a cI cL cB cZ z S) H) (hD : va_D A (wd_C a cI cL cB cZ z S)) (hS : va_S A s.heap H locs) : W p l e zr_X10_sees s m args below meth c H locs 0 0 Q (F0 m 0 ls []) := by
  obtain ⟨hx, hb, hml, hown, hts, hK, hA⟩ := id C
  unfold zf_X10_sees at h
  refine lv_aload_n hx hb dX10_sees_0 rfl (lv_at hl 0 rfl) ?_
  refine va_get (D := D) (ci := 10) (v := .ref (a 46)) (C := RX10) (T := TX10) (N := 12) hx hb hts (zi_X10 _) hown hK hP 0 rfl rfl 8 (by decide) (hts _ (List.mem_cons_of_mem _ zt_f_X10_79)) (fun _ h9 => h9) rfl dX10_sees_1 ?_
  refine lv_iload_n hx hb dX10_sees_4 rfl (lv_at hl 1 rfl) ?_
  obtain ⟨q1, hc2, h⟩ := mq_cp_go h
  refine zk_X4_has C zt_m_X10_195 ⟨by decide, by decide⟩ hc2 hP hD hS hl.1 (Nat.le_of_ble_eq_true rfl) dX10_sees_5 (fun H locs hP hD hS => ?_)
  refine lv_if_eq (tgt := 22) hx hb dX10_sees_8 (by decide) (fun c9 => ?_) (fun c9 => ?_)
  · replace h := mq_it c9 h
    exact zw_X10_sees_22 C hret hthr S H locs ls h (lv_sub hl [] rfl) hP hD hS
  · replace h := mq_if c9 h
    refine lv_aload_n hx hb dX10_sees_11 rfl (lv_at hl 0 rfl) ?_
    refine va_get (D := D) (ci := 10) (v := .ref (a 46)) (C := RX10) (T := TX10) (N := 12) hx hb hts (zi_X10 _) hown hK hP 0 rfl rfl 8 (by decide) (hts _ (List.mem_cons_of_mem _ zt_f_X10_79)) (fun _ h9 => h9) rfl dX10_sees_12 ?_
    refine lv_iload_n hx hb dX10_sees_15 rfl (lv_at hl 2 rfl) ?_
    obtain ⟨q3, hc4, h⟩ := mq_cp_go h
    refine zk_X4_has C zt_m_X10_195 ⟨by decide, by decide⟩ hc4 hP hD hS hl.1 (Nat.le_of_ble_eq_true rfl) dX10_sees_16 (fun H locs hP hD hS => ?_)
    refine lv_if_ne (tgt := 32) hx hb dX10_sees_19 (by decide) (fun c8 => ?_) (fun c8 => ?_)
    · replace h := mq_if c8 h
      refine lv_aload_n hx hb dX10_sees_32 rfl (lv_at hl 0 rfl) ?_
      refine va_get (D := D) (ci := 10) (v := .ref (a 46)) (C := RX10) (T := TX10) (N := 12) hx hb hts (zi_X10 _) hown hK hP 0 rfl rfl 8 (by decide) (hts _ (List.mem_cons_of_mem _ zt_f_X10_79)) (fun _ h9 => h9) rfl dX10_sees_33 ?_
      refine lv_iload_n hx hb dX10_sees_36 rfl (lv_at hl 1 rfl) ?_
      refine lv_iload_n hx hb dX10_sees_37 rfl (lv_at hl 2 rfl) ?_
      obtain ⟨q5, hc6, h⟩ := mq_cp_go h
      refine zk_X4_isSeen C zt_m_X10_203 ⟨by decide, by decide⟩ hc6 hP hD hS hl.1 (Nat.le_of_ble_eq_true rfl) dX10_sees_38 (fun H locs hP hD hS => ?_)
      have hz7 := mq_cz_in h
      replace h := mq_cz_go h
      cases h
      exact hret _ _ rfl H locs ls 41 dX10_sees_41 hz7.1 hP hD hS
    · replace h := mq_it (by simpa using c8) h
      exact zw_X10_sees_22 C hret hthr S H locs ls h (lv_sub hl [] rfl) hP hD hS
set_option maxHeartbeats 4000000 in
set_option maxRecDepth 100000 in
theorem zq_X10_sees (l : Launch) (hst : l.stackTraces = false) (D : va_G) (a z : Nat → Nat) (cI cL cB cZ : ClassId) (sz N s1 s2 : Nat) (v1 : Int32) (v2 : Int32) (S : mq_St) (res : Option Int32 × mq_St) (h : zf_X10_sees N z v1 v2 S = some res) : vx_Met l yX10_sees (zc_X10_sees :: mq_T) zr_X10_sees (va_Pc [.ref (a 0), .int (v1), .int (v2)] (fun U => U.heap.size = sz ∧ va_P D vwCl (wd_C a cI cL cB cZ z S) U.heap ∧ va_K D vwCl (mq_tys cI cL cB cZ) U ∧ va_D (fun _ => True) (wd_C a cI cL cB cZ z S) ∧ mq_X (va_A (wd_C a cI cL cB cZ z S) sz) s1 s2 U)) (va_Qi (fun (r : Int32) (u : mq_St) => res = (some r, u)) (fun u t => va_P D vwCl (wd_C a cI cL cB cZ z u) t.heap ∧ va_K D vwCl (mq_tys cI cL cB cZ) t ∧ va_D (va_A (wd_C a cI cL cB cZ z S) sz) (wd_C a cI cL cB cZ z u)) (va_A (wd_C a cI cL cB cZ z S) sz)) (vx_X (fun u : mq_St => res = (none, u)) (fun E u t => E = mq_E ∧ va_P D vwCl (wd_C a cI cL cB cZ z u) t.heap ∧ va_K D vwCl (mq_tys cI cL cB cZ) t ∧ va_D (va_A (wd_C a cI cL cB cZ z S) sz) (wd_C a cI cL cB cZ z u)) (va_A (wd_C a cI cL cB cZ z S) sz)) 1 6 (va_A (wd_C a cI cL cB cZ z S) sz) := by
  refine vx_ofW (cc := cX10_sees) (maxL := 3) (ret := (some .boolean)) (by decide) rfl ?_
  intro p e s m args below meth c s₁ B hml htab hv
  obtain ⟨rfl, hsz, hP, hK, hD0, hX⟩ := hv
  have hr := B.returns
  have hlocks := B.notSynchronized
  have hts := atoms_spec (ws := zc_X10_sees :: mq_T) B.pre
  have hown : s.vm.findClass RX10 = some m.cls := findClass_of_methodNamed B.named
  subst hsz
  have hD := hD0.self (sz := s.heap.size)
  generalize hAe : va_A (wd_C a cI cL cB cZ z S) s.heap.size = A at hD hX ⊢
  have hA : ∀ q : Nat, s.heap.size ≤ q → A q := fun q h => by rw [← hAe]; exact Or.inr h
  have hl := lv_entry ([.ref (a 0), .int (v1), .int (v2)]) (n := 3) (Nat.le_of_ble_eq_true rfl)
  rw [lg_entry_eq]
  generalize (lg_sl ([.ref (a 0), .int (v1), .int (v2)]) ++ List.replicate (3 - (lg_sl ([.ref (a 0), .int (v1), .int (v2)])).length) Slot.unset).toArray = ls at hl ⊢
  have hl : lv_has ls 3 [(0, .ref (a 0)), (1, .int (v1)), (2, .int (v2))] := hl
  refine zw_X10_sees_0 (A := A) ⟨B.exec, B.bytes, hml, hown, hts, hK, hA⟩ (fun r S1 er H locs ls pc dg hz hP hD hS => ?_) (fun S1 er H locs ls hls hP hD hS => ?_) v1 v2 S s.heap [] ls h hl hP hD va_S.rf
  · refine vx_ret (W.widen (k := 1) (n := 6) (by decide) (by decide) ?_)
    exact W.zret B.exec B.bytes hr hz (fun t ht hW => ⟨⟨r, S1, rfl, er, by rw [ht]; exact hP, va_K.moved hW.alike hK, hD⟩, hS.F ht⟩) hS.2.2 dg
  · exact mq_throwS (A := A) (text := "no such world") B.exec B.bytes hst hown (hts _ (List.mem_cons_of_mem _ zt_nse_l)) (hts _ (List.mem_cons_of_mem _ zt_nse_i)) hX.1 (mq_atS_all hts hX.2.2.2.2) mq_atS_ot hX.2.2.1 hX.2.2.2.1 hS (hls.trans hml.symm) dX10_sees_22 dX10_sees_25 dX10_sees_26 dX10_sees_28 dX10_sees_31 (fun x hx => (htab x hx).elim) (by decide) (Nat.le_of_ble_eq_true rfl) (by decide) (by decide) hlocks (fun t hal hz hq => ⟨S1, er, ⟨rfl, hP.kept (fun k q hk => hq q.1 (hP k q hk).lt), va_K.moved hal hK, hD⟩, Nat.le_trans hS.1 hz, fun q h1 h2 => (hq q (Nat.lt_of_lt_of_le h1 hS.1)).trans (hS.2.1 q h1 h2)⟩) hS.2.2 (by decide) (by decide)
theorem zt_m_X10_208 : Cond.methodLink RX10 208 yX4_isTrueAt ∈ mq_T := mq_T_mem (mq_t5 (List.mem_of_getElem? (i := 92) rfl)) rfl
/-! ModalDesk.holds(II)Z -/
def zr_X10_holds : Room := { frames := 6, cells := 1, slots := 6, locals := 100 }
def zc_X10_holds : Cond := .code yX10_holds cX10_holds 3 (some .boolean)
def zf_X10_holds_22 (N : Nat) (z : Nat → Nat) (S : mq_St) : Option (Option Int32 × mq_St) := (some (none, S))
def zf_X10_holds (N : Nat) (z : Nat → Nat) (v1 : Int32) (v2 : Int32) (S : mq_St) : Option (Option Int32 × mq_St) := (mq_cp (zf_X4_has N z (v1) S) (fun q1 => (if q1 = (0 : Int32) then (zf_X10_holds_22 N z S) else (mq_cp (zf_X7_has N z (v2) S) (fun q3 => (if q3 = (0 : Int32) then (zf_X10_holds_22 N z S) else (mq_cl (zf_X4_isTrueAt N z (v1) (v2) S) (fun q5v S7 => (mq_cz (q5v) (some (some (q5v), S7)))))))))))
set_option maxHeartbeats 4000000 in
set_option maxRecDepth 100000 in
theorem zw_X10_holds_22 {p : Program} {l : Launch} {e : Env} {s : State} {m : MethodId} {args : Array Value} {below : List Frame} {meth : Method} {c : Code} {A : Nat → Prop} {D : va_G} {a z : Nat → Nat} {cI cL cB cZ : ClassId} {Q : State → Prop} {N : Nat} {res : Option Int32 × mq_St} (C : mq_C p s m args c A D cI cL cB cZ cX10_holds 3 RX10 zc_X10_holds) (hret : ∀ (r : Int32) (S1 : mq_St), res = (some r, S1) → ∀ (H : Heap) (locs : List Loc) (ls : Array Slot) (pc : Nat), decode cX10_holds pc = .ok (.ireturn, 1) → narrow .boolean (.int r) = .int r → va_P D vwCl (wd_C a cI cL cB cZ z S1) H → va_D A (wd_C a cI cL cB cZ z S1) → va_S A s.heap H locs → W p l e zr_X10_holds s m args below meth c H locs 0 0 Q (F0 m pc ls [.int r])) (hthr : ∀ S1 : mq_St, res = (none, S1) → ∀ (H : Heap) (locs : List Loc) (ls : Array Slot), ls.size = 3 → va_P D vwCl (wd_C a cI cL cB cZ z S1) H → va_D A (wd_C a cI cL cB cZ z S1) → va_S A s.heap H locs → W p l e zr_X10_holds s m args below meth c H locs 0 0 Q (F0 m 22 ls [])) (S : mq_St) (H : Heap) (locs : List Loc) (ls : Array Slot) (h : zf_X10_holds_22 N z S = some res) (hl : lv_has ls 3 []) (hP : va_P D vwCl (wd_C a cI cL cB cZ z S) H) (hD : va_D A (wd_C a cI cL cB cZ z S)) (hS : va_S A s.heap H locs) : W p l e zr_X10_holds s m args below meth c H locs 0 0 Q (F0 m 22 ls []) := by
  obtain ⟨hx, hb, hml, hown, hts, hK, hA⟩ := id C
  unfold zf_X10_holds_22 at h
  cases h
  exact hthr _ rfl H locs ls hl.1 hP hD hS
set_option maxHeartbeats 4000000 in
set_option maxRecDepth 100000 in
theorem zw_X10_holds_0 {p : Program} {l : Launch} {e : Env} {s : State} {m : MethodId} {args : Array Value} {below : List Frame} {meth : Method} {c : Code} {A : Nat → Prop} {D : va_G} {a z : Nat → Nat} {cI cL cB cZ : ClassId} {Q : State → Prop} {N : Nat} {res : Option Int32 × mq_St} (C : mq_C p s m args c A D cI cL cB cZ cX10_holds 3 RX10 zc_X10_holds) (hret : ∀ (r : Int32) (S1 : mq_St), res = (some r, S1) → ∀ (H : Heap) (locs : List Loc) (ls : Array Slot) (pc : Nat), decode cX10_holds pc = .ok (.ireturn, 1) → narrow .boolean (.int r) = .int r → va_P D vwCl (wd_C a cI cL cB cZ z S1) H → va_D A (wd_C a cI cL cB cZ z S1) → va_S A s.heap H locs → W p l e zr_X10_holds s m args below meth c H locs 0 0 Q (F0 m pc ls [.int r])) (hthr : ∀ S1 : mq_St, res = (none, S1) → ∀ (H : Heap) (locs : List Loc) (ls : Array Slot), ls.size = 3 → va_P D vwCl (wd_C a cI cL cB cZ z S1) H → va_D A (wd_C a cI cL cB cZ z S1) → va_S A s.heap H locs → W p l e zr_X10_holds s m args below meth c H locs 0 0 Q (F0 m 22 ls [])) (v1 : Int32) (v2 : Int32) (S : mq_St) (H : Heap) (locs : List Loc) (ls : Array Slot) (h : zf_X10_holds N z v1 v2 S = some res) (hl : lv_has ls 3 [(0, .ref (a 0)), (1, .int (v1)), (2, .int (v2))]) (hP : va_P D vwCl (wd_C a cI cL cB cZ z S) H) (hD : va_D A (wd_C a cI cL cB cZ z S)) (hS : va_S A s.heap H locs) : W p l e zr_X10_holds s m args below meth c H locs 0 0 Q (F0 m 0 ls []) := by
  obtain ⟨hx, hb, hml, hown, hts, hK, hA⟩ := id C
  unfold zf_X10_holds at h
  refine lv_aload_n hx hb dX10_holds_0 rfl (lv_at hl 0 rfl) ?_
  refine va_get (D := D) (ci := 10) (v := .ref (a 46)) (C := RX10) (T := TX10) (N := 12) hx hb hts (zi_X10 _) hown hK hP 0 rfl rfl 8 (by decide) (hts _ (List.mem_cons_of_mem _ zt_f_X10_79)) (fun _ h9 => h9) rfl dX10_holds_1 ?_
  refine lv_iload_n hx hb dX10_holds_4 rfl (lv_at hl 1 rfl) ?_
  obtain ⟨q1, hc2, h⟩ := mq_cp_go h
  refine zk_X4_has C zt_m_X10_195 ⟨by decide, by decide⟩ hc2 hP hD hS hl.1 (Nat.le_of_ble_eq_true rfl) dX10_holds_5 (fun H locs hP hD hS => ?_)
  refine lv_if_eq (tgt := 22) hx hb dX10_holds_8 (by decide) (fun c10 => ?_) (fun c10 => ?_)
  · replace h := mq_it c10 h
    exact zw_X10_holds_22 C hret hthr S H locs ls h (lv_sub hl [] rfl) hP hD hS
  · replace h := mq_if c10 h
    refine lv_aload_n hx hb dX10_holds_11 rfl (lv_at hl 0 rfl) ?_
    refine va_get (D := D) (ci := 10) (v := .ref (a 7)) (C := RX10) (T := TX10) (N := 12) hx hb hts (zi_X10 _) hown hK hP 0 rfl rfl 2 (by decide) (hts _ (List.mem_cons_of_mem _ zt_f_X10_22)) (fun _ h9 => h9) rfl dX10_holds_12 ?_
    refine lv_iload_n hx hb dX10_holds_15 rfl (lv_at hl 2 rfl) ?_
    obtain ⟨q3, hc4, h⟩ := mq_cp_go h
    refine zk_X7_has C zt_m_X10_140 ⟨by decide, by decide⟩ hc4 hP hD hS hl.1 (Nat.le_of_ble_eq_true rfl) dX10_holds_16 (fun H locs hP hD hS => ?_)
    refine lv_if_ne (tgt := 32) hx hb dX10_holds_19 (by decide) (fun c9 => ?_) (fun c9 => ?_)
    · replace h := mq_if c9 h
      refine lv_aload_n hx hb dX10_holds_32 rfl (lv_at hl 0 rfl) ?_
      refine va_get (D := D) (ci := 10) (v := .ref (a 46)) (C := RX10) (T := TX10) (N := 12) hx hb hts (zi_X10 _) hown hK hP 0 rfl rfl 8 (by decide) (hts _ (List.mem_cons_of_mem _ zt_f_X10_79)) (fun _ h9 => h9) rfl dX10_holds_33 ?_
      refine lv_iload_n hx hb dX10_holds_36 rfl (lv_at hl 1 rfl) ?_
      refine lv_iload_n hx hb dX10_holds_37 rfl (lv_at hl 2 rfl) ?_
      obtain ⟨q5, hc6, h⟩ := mq_cl_go h
      refine zk_X4_isTrueAt C zt_m_X10_208 ⟨by decide, by decide⟩ hc6 hP hD hS hl.1 (Nat.le_of_ble_eq_true rfl) dX10_holds_38 (fun H locs hP hD hS => ?_)
      obtain ⟨S7, eS7⟩ : ∃ y, y = q5.2 := ⟨_, rfl⟩
      rw [← eS7] at hP hD h
      have hz8 := mq_cz_in h
      replace h := mq_cz_go h
      cases h
      exact hret _ _ rfl H locs ls 41 dX10_holds_41 hz8.1 hP hD hS
    · replace h := mq_it (by simpa using c9) h
      exact zw_X10_holds_22 C hret hthr S H locs ls h (lv_sub hl [] rfl) hP hD hS
set_option maxHeartbeats 4000000 in
set_option maxRecDepth 100000 in
theorem zq_X10_holds (l : Launch) (hst : l.stackTraces = false) (D : va_G) (a z : Nat → Nat) (cI cL cB cZ : ClassId) (sz N s1 s2 : Nat) (v1 : Int32) (v2 : Int32) (S : mq_St) (res : Option Int32 × mq_St) (h : zf_X10_holds N z v1 v2 S = some res) : vx_Met l yX10_holds (zc_X10_holds :: mq_T) zr_X10_holds (va_Pc [.ref (a 0), .int (v1), .int (v2)] (fun U => U.heap.size = sz ∧ va_P D vwCl (wd_C a cI cL cB cZ z S) U.heap ∧ va_K D vwCl (mq_tys cI cL cB cZ) U ∧ va_D (fun _ => True) (wd_C a cI cL cB cZ z S) ∧ mq_X (va_A (wd_C a cI cL cB cZ z S) sz) s1 s2 U)) (va_Qi (fun (r : Int32) (u : mq_St) => res = (some r, u)) (fun u t => va_P D vwCl (wd_C a cI cL cB cZ z u) t.heap ∧ va_K D vwCl (mq_tys cI cL cB cZ) t ∧ va_D (va_A (wd_C a cI cL cB cZ z S) sz) (wd_C a cI cL cB cZ z u)) (va_A (wd_C a cI cL cB cZ z S) sz)) (vx_X (fun u : mq_St => res = (none, u)) (fun E u t => E = mq_E ∧ va_P D vwCl (wd_C a cI cL cB cZ z u) t.heap ∧ va_K D vwCl (mq_tys cI cL cB cZ) t ∧ va_D (va_A (wd_C a cI cL cB cZ z S) sz) (wd_C a cI cL cB cZ z u)) (va_A (wd_C a cI cL cB cZ z S) sz)) 1 6 (va_A (wd_C a cI cL cB cZ z S) sz) := by
  refine vx_ofW (cc := cX10_holds) (maxL := 3) (ret := (some .boolean)) (by decide) rfl ?_
  intro p e s m args below meth c s₁ B hml htab hv
  obtain ⟨rfl, hsz, hP, hK, hD0, hX⟩ := hv
  have hr := B.returns
  have hlocks := B.notSynchronized
  have hts := atoms_spec (ws := zc_X10_holds :: mq_T) B.pre
  have hown : s.vm.findClass RX10 = some m.cls := findClass_of_methodNamed B.named
  subst hsz
  have hD := hD0.self (sz := s.heap.size)
  generalize hAe : va_A (wd_C a cI cL cB cZ z S) s.heap.size = A at hD hX ⊢
  have hA : ∀ q : Nat, s.heap.size ≤ q → A q := fun q h => by rw [← hAe]; exact Or.inr h
  have hl := lv_entry ([.ref (a 0), .int (v1), .int (v2)]) (n := 3) (Nat.le_of_ble_eq_true rfl)
  rw [lg_entry_eq]
  generalize (lg_sl ([.ref (a 0), .int (v1), .int (v2)]) ++ List.replicate (3 - (lg_sl ([.ref (a 0), .int (v1), .int (v2)])).length) Slot.unset).toArray = ls at hl ⊢
  have hl : lv_has ls 3 [(0, .ref (a 0)), (1, .int (v1)), (2, .int (v2))] := hl
  refine zw_X10_holds_0 (A := A) ⟨B.exec, B.bytes, hml, hown, hts, hK, hA⟩ (fun r S1 er H locs ls pc dg hz hP hD hS => ?_) (fun S1 er H locs ls hls hP hD hS => ?_) v1 v2 S s.heap [] ls h hl hP hD va_S.rf
  · refine vx_ret (W.widen (k := 1) (n := 6) (by decide) (by decide) ?_)
    exact W.zret B.exec B.bytes hr hz (fun t ht hW => ⟨⟨r, S1, rfl, er, by rw [ht]; exact hP, va_K.moved hW.alike hK, hD⟩, hS.F ht⟩) hS.2.2 dg
  · exact mq_throwS (A := A) (text := "no such world, or formula") B.exec B.bytes hst hown (hts _ (List.mem_cons_of_mem _ zt_nse_l)) (hts _ (List.mem_cons_of_mem _ zt_nse_i)) hX.2.1 (mq_atS_all hts hX.2.2.2.2) mq_atS_ot hX.2.2.1 hX.2.2.2.1 hS (hls.trans hml.symm) dX10_holds_22 dX10_holds_25 dX10_holds_26 dX10_holds_28 dX10_holds_31 (fun x hx => (htab x hx).elim) (by decide) (Nat.le_of_ble_eq_true rfl) (by decide) (by decide) hlocks (fun t hal hz hq => ⟨S1, er, ⟨rfl, hP.kept (fun k q hk => hq q.1 (hP k q hk).lt), va_K.moved hal hK, hD⟩, Nat.le_trans hS.1 hz, fun q h1 h2 => (hq q (Nat.lt_of_lt_of_le h1 hS.1)).trans (hS.2.1 q h1 h2)⟩) hS.2.2 (by decide) (by decide)
theorem zt_m_X10_220 : Cond.methodLink RX10 220 yX4_setSizeOf ∈ mq_T := mq_T_mem (mq_t5 (List.mem_of_getElem? (i := 144) rfl)) rfl
theorem zt_m_X10_217 : Cond.methodLink RX10 217 yX4_seenFrom ∈ mq_T := mq_T_mem (mq_t5 (List.mem_of_getElem? (i := 139) rfl)) rfl
theorem zt_m_X10_214 : Cond.methodLink RX10 214 yX4_clusterSizeOf ∈ mq_T := mq_T_mem (mq_t5 (List.mem_of_getElem? (i := 135) rfl)) rfl
theorem zt_m_X10_211 : Cond.methodLink RX10 211 yX4_clusterOf ∈ mq_T := mq_T_mem (mq_t5 (List.mem_of_getElem? (i := 123) rfl)) rfl
/-! ModalDesk.world(II)I -/
def zr_X10_world : Room := { frames := 6, cells := 1, slots := 6, locals := 110 }
def zc_X10_world : Cond := .code yX10_world cX10_world 3 (some .int)
def zf_X10_world (N : Nat) (z : Nat → Nat) (v1 : Int32) (v2 : Int32) (S : mq_St) : Option (Option Int32 × mq_St) := (if v2 < (0 : Int32) then (some (some ((-1 : Int32)), S)) else (if v2 ≤ (3 : Int32) then (mq_cp (zf_X4_has N z (v1) S) (fun q1 => (if q1 = (0 : Int32) then (some (none, S)) else (if v2 = (0 : Int32) then (mq_cp (zf_X4_clusterOf N z (v1) S) (fun q11 => (some (some (q11), S)))) else (if v2 = (1 : Int32) then (mq_cp (zf_X4_clusterSizeOf N z (v1) S) (fun q8 => (some (some (q8), S)))) else (if v2 = (2 : Int32) then (mq_cp (zf_X4_seenFrom N z (v1) S) (fun q5 => (some (some (q5), S)))) else (mq_cp (zf_X4_setSizeOf N z (v1) S) (fun q3 => (some (some (q3), S)))))))))) else (some (some ((-1 : Int32)), S))))
set_option maxHeartbeats 4000000 in
set_option maxRecDepth 100000 in
theorem zw_X10_world_0 {p : Program} {l : Launch} {e : Env} {s : State} {m : MethodId} {args : Array Value} {below : List Frame} {meth : Method} {c : Code} {A : Nat → Prop} {D : va_G} {a z : Nat → Nat} {cI cL cB cZ : ClassId} {Q : State → Prop} {N : Nat} {res : Option Int32 × mq_St} (C : mq_C p s m args c A D cI cL cB cZ cX10_world 3 RX10 zc_X10_world) (hret : ∀ (r : Int32) (S1 : mq_St), res = (some r, S1) → ∀ (H : Heap) (locs : List Loc) (ls : Array Slot) (pc : Nat), decode cX10_world pc = .ok (.ireturn, 1) → va_P D vwCl (wd_C a cI cL cB cZ z S1) H → va_D A (wd_C a cI cL cB cZ z S1) → va_S A s.heap H locs → W p l e zr_X10_world s m args below meth c H locs 0 0 Q (F0 m pc ls [.int r])) (hthr : ∀ S1 : mq_St, res = (none, S1) → ∀ (H : Heap) (locs : List Loc) (ls : Array Slot), ls.size = 3 → va_P D vwCl (wd_C a cI cL cB cZ z S1) H → va_D A (wd_C a cI cL cB cZ z S1) → va_S A s.heap H locs → W p l e zr_X10_world s m args below meth c H locs 0 0 Q (F0 m 22 ls [])) (v1 : Int32) (v2 : Int32) (S : mq_St) (H : Heap) (locs : List Loc) (ls : Array Slot) (h : zf_X10_world N z v1 v2 S = some res) (hl : lv_has ls 3 [(0, .ref (a 0)), (1, .int (v1)), (2, .int (v2))]) (hP : va_P D vwCl (wd_C a cI cL cB cZ z S) H) (hD : va_D A (wd_C a cI cL cB cZ z S)) (hS : va_S A s.heap H locs) : W p l e zr_X10_world s m args below meth c H locs 0 0 Q (F0 m 0 ls []) := by
  obtain ⟨hx, hb, hml, hown, hts, hK, hA⟩ := id C
  unfold zf_X10_world at h
  refine lv_iload_n hx hb dX10_world_0 rfl (lv_at hl 2 rfl) ?_
  refine lv_if_lt (tgt := 9) hx hb dX10_world_1 (by decide) (fun c16 => ?_) (fun c16 => ?_)
  · replace h := mq_it c16 h
    refine lv_iconst (v := (-1 : Int32)) hx hb dX10_world_9 (by decide) ?_
    cases h
    exact hret _ _ rfl H locs ls 10 dX10_world_10 hP hD hS
  · replace h := mq_if c16 h
    refine lv_iload_n hx hb dX10_world_4 rfl (lv_at hl 2 rfl) ?_
    refine lv_iconst (v := (3 : Int32)) hx hb dX10_world_5 (by decide) ?_
    refine lv_icmp_le (tgt := 11) hx hb dX10_world_6 (by decide) (fun c15 => ?_) (fun c15 => ?_)
    · replace h := mq_it c15 h
      refine lv_aload_n hx hb dX10_world_11 rfl (lv_at hl 0 rfl) ?_
      refine va_get (D := D) (ci := 10) (v := .ref (a 46)) (C := RX10) (T := TX10) (N := 12) hx hb hts (zi_X10 _) hown hK hP 0 rfl rfl 8 (by decide) (hts _ (List.mem_cons_of_mem _ zt_f_X10_79)) (fun _ h9 => h9) rfl dX10_world_12 ?_
      refine lv_iload_n hx hb dX10_world_15 rfl (lv_at hl 1 rfl) ?_
      obtain ⟨q1, hc2, h⟩ := mq_cp_go h
      refine zk_X4_has C zt_m_X10_195 ⟨by decide, by decide⟩ hc2 hP hD hS hl.1 (Nat.le_of_ble_eq_true rfl) dX10_world_16 (fun H locs hP hD hS => ?_)
      refine lv_if_ne (tgt := 32) hx hb dX10_world_19 (by decide) (fun c14 => ?_) (fun c14 => ?_)
      · replace h := mq_if c14 h
        refine lv_iload_n hx hb dX10_world_32 rfl (lv_at hl 2 rfl) ?_
        refine lv_if_ne (tgt := 45) hx hb dX10_world_33 (by decide) (fun c13 => ?_) (fun c13 => ?_)
        · replace h := mq_if c13 h
          refine lv_iload_n hx hb dX10_world_45 rfl (lv_at hl 2 rfl) ?_
          refine lv_iconst (v := (1 : Int32)) hx hb dX10_world_46 (by decide) ?_
          refine lv_icmp_ne (tgt := 59) hx hb dX10_world_47 (by decide) (fun c10 => ?_) (fun c10 => ?_)
          · replace h := mq_if c10 h
            refine lv_iload_n hx hb dX10_world_59 rfl (lv_at hl 2 rfl) ?_
            refine lv_iconst (v := (2 : Int32)) hx hb dX10_world_60 (by decide) ?_
            refine lv_icmp_ne (tgt := 75) hx hb dX10_world_61 (by decide) (fun c7 => ?_) (fun c7 => ?_)
            · replace h := mq_if c7 h
              refine lv_aload_n hx hb dX10_world_75 rfl (lv_at hl 0 rfl) ?_
              refine va_get (D := D) (ci := 10) (v := .ref (a 46)) (C := RX10) (T := TX10) (N := 12) hx hb hts (zi_X10 _) hown hK hP 0 rfl rfl 8 (by decide) (hts _ (List.mem_cons_of_mem _ zt_f_X10_79)) (fun _ h9 => h9) rfl dX10_world_76 ?_
              refine lv_iload_n hx hb dX10_world_79 rfl (lv_at hl 1 rfl) ?_
              obtain ⟨q3, hc4, h⟩ := mq_cp_go h
              refine zk_X4_setSizeOf C zt_m_X10_220 ⟨by decide, by decide⟩ hc4 hP hD hS hl.1 (Nat.le_of_ble_eq_true rfl) dX10_world_80 (fun H locs hP hD hS => ?_)
              cases h
              exact hret _ _ rfl H locs ls 83 dX10_world_83 hP hD hS
            · replace h := mq_it (by simpa using c7) h
              refine lv_aload_n hx hb dX10_world_64 rfl (lv_at hl 0 rfl) ?_
              refine va_get (D := D) (ci := 10) (v := .ref (a 46)) (C := RX10) (T := TX10) (N := 12) hx hb hts (zi_X10 _) hown hK hP 0 rfl rfl 8 (by decide) (hts _ (List.mem_cons_of_mem _ zt_f_X10_79)) (fun _ h9 => h9) rfl dX10_world_65 ?_
              refine lv_iload_n hx hb dX10_world_68 rfl (lv_at hl 1 rfl) ?_
              obtain ⟨q5, hc6, h⟩ := mq_cp_go h
              refine zk_X4_seenFrom C zt_m_X10_217 ⟨by decide, by decide⟩ hc6 hP hD hS hl.1 (Nat.le_of_ble_eq_true rfl) dX10_world_69 (fun H locs hP hD hS => ?_)
              refine lv_goto (tgt := 83) hx hb dX10_world_72 (by decide) ?_
              cases h
              exact hret _ _ rfl H locs ls 83 dX10_world_83 hP hD hS
          · replace h := mq_it (by simpa using c10) h
            refine lv_aload_n hx hb dX10_world_50 rfl (lv_at hl 0 rfl) ?_
            refine va_get (D := D) (ci := 10) (v := .ref (a 46)) (C := RX10) (T := TX10) (N := 12) hx hb hts (zi_X10 _) hown hK hP 0 rfl rfl 8 (by decide) (hts _ (List.mem_cons_of_mem _ zt_f_X10_79)) (fun _ h9 => h9) rfl dX10_world_51 ?_
            refine lv_iload_n hx hb dX10_world_54 rfl (lv_at hl 1 rfl) ?_
            obtain ⟨q8, hc9, h⟩ := mq_cp_go h
            refine zk_X4_clusterSizeOf C zt_m_X10_214 ⟨by decide, by decide⟩ hc9 hP hD hS hl.1 (Nat.le_of_ble_eq_true rfl) dX10_world_55 (fun H locs hP hD hS => ?_)
            cases h
            exact hret _ _ rfl H locs ls 58 dX10_world_58 hP hD hS
        · replace h := mq_it (by simpa using c13) h
          refine lv_aload_n hx hb dX10_world_36 rfl (lv_at hl 0 rfl) ?_
          refine va_get (D := D) (ci := 10) (v := .ref (a 46)) (C := RX10) (T := TX10) (N := 12) hx hb hts (zi_X10 _) hown hK hP 0 rfl rfl 8 (by decide) (hts _ (List.mem_cons_of_mem _ zt_f_X10_79)) (fun _ h9 => h9) rfl dX10_world_37 ?_
          refine lv_iload_n hx hb dX10_world_40 rfl (lv_at hl 1 rfl) ?_
          obtain ⟨q11, hc12, h⟩ := mq_cp_go h
          refine zk_X4_clusterOf C zt_m_X10_211 ⟨by decide, by decide⟩ hc12 hP hD hS hl.1 (Nat.le_of_ble_eq_true rfl) dX10_world_41 (fun H locs hP hD hS => ?_)
          cases h
          exact hret _ _ rfl H locs ls 44 dX10_world_44 hP hD hS
      · replace h := mq_it (by simpa using c14) h
        cases h
        exact hthr _ rfl H locs ls hl.1 hP hD hS
    · replace h := mq_if c15 h
      refine lv_iconst (v := (-1 : Int32)) hx hb dX10_world_9 (by decide) ?_
      cases h
      exact hret _ _ rfl H locs ls 10 dX10_world_10 hP hD hS
set_option maxHeartbeats 4000000 in
set_option maxRecDepth 100000 in
theorem zq_X10_world (l : Launch) (hst : l.stackTraces = false) (D : va_G) (a z : Nat → Nat) (cI cL cB cZ : ClassId) (sz N s1 s2 : Nat) (v1 : Int32) (v2 : Int32) (S : mq_St) (res : Option Int32 × mq_St) (h : zf_X10_world N z v1 v2 S = some res) : vx_Met l yX10_world (zc_X10_world :: mq_T) zr_X10_world (va_Pc [.ref (a 0), .int (v1), .int (v2)] (fun U => U.heap.size = sz ∧ va_P D vwCl (wd_C a cI cL cB cZ z S) U.heap ∧ va_K D vwCl (mq_tys cI cL cB cZ) U ∧ va_D (fun _ => True) (wd_C a cI cL cB cZ z S) ∧ mq_X (va_A (wd_C a cI cL cB cZ z S) sz) s1 s2 U)) (va_Qi (fun (r : Int32) (u : mq_St) => res = (some r, u)) (fun u t => va_P D vwCl (wd_C a cI cL cB cZ z u) t.heap ∧ va_K D vwCl (mq_tys cI cL cB cZ) t ∧ va_D (va_A (wd_C a cI cL cB cZ z S) sz) (wd_C a cI cL cB cZ z u)) (va_A (wd_C a cI cL cB cZ z S) sz)) (vx_X (fun u : mq_St => res = (none, u)) (fun E u t => E = mq_E ∧ va_P D vwCl (wd_C a cI cL cB cZ z u) t.heap ∧ va_K D vwCl (mq_tys cI cL cB cZ) t ∧ va_D (va_A (wd_C a cI cL cB cZ z S) sz) (wd_C a cI cL cB cZ z u)) (va_A (wd_C a cI cL cB cZ z S) sz)) 1 6 (va_A (wd_C a cI cL cB cZ z S) sz) := by
  refine vx_ofW (cc := cX10_world) (maxL := 3) (ret := (some .int)) (by decide) rfl ?_
  intro p e s m args below meth c s₁ B hml htab hv
  obtain ⟨rfl, hsz, hP, hK, hD0, hX⟩ := hv
  have hr := B.returns
  have hlocks := B.notSynchronized
  have hts := atoms_spec (ws := zc_X10_world :: mq_T) B.pre
  have hown : s.vm.findClass RX10 = some m.cls := findClass_of_methodNamed B.named
  subst hsz
  have hD := hD0.self (sz := s.heap.size)
  generalize hAe : va_A (wd_C a cI cL cB cZ z S) s.heap.size = A at hD hX ⊢
  have hA : ∀ q : Nat, s.heap.size ≤ q → A q := fun q h => by rw [← hAe]; exact Or.inr h
  have hl := lv_entry ([.ref (a 0), .int (v1), .int (v2)]) (n := 3) (Nat.le_of_ble_eq_true rfl)
  rw [lg_entry_eq]
  generalize (lg_sl ([.ref (a 0), .int (v1), .int (v2)]) ++ List.replicate (3 - (lg_sl ([.ref (a 0), .int (v1), .int (v2)])).length) Slot.unset).toArray = ls at hl ⊢
  have hl : lv_has ls 3 [(0, .ref (a 0)), (1, .int (v1)), (2, .int (v2))] := hl
  refine zw_X10_world_0 (A := A) ⟨B.exec, B.bytes, hml, hown, hts, hK, hA⟩ (fun r S1 er H locs ls pc dg hP hD hS => ?_) (fun S1 er H locs ls hls hP hD hS => ?_) v1 v2 S s.heap [] ls h hl hP hD va_S.rf
  · refine vx_ret (W.widen (k := 1) (n := 6) (by decide) (by decide) ?_)
    exact W.iret B.exec B.bytes hr (fun t ht hW => ⟨⟨r, S1, rfl, er, by rw [ht]; exact hP, va_K.moved hW.alike hK, hD⟩, hS.F ht⟩) hS.2.2 dg
  · exact mq_throwS (A := A) (text := "no such world") B.exec B.bytes hst hown (hts _ (List.mem_cons_of_mem _ zt_nse_l)) (hts _ (List.mem_cons_of_mem _ zt_nse_i)) hX.1 (mq_atS_all hts hX.2.2.2.2) mq_atS_ot hX.2.2.1 hX.2.2.2.1 hS (hls.trans hml.symm) dX10_world_22 dX10_world_25 dX10_world_26 dX10_world_28 dX10_world_31 (fun x hx => (htab x hx).elim) (by decide) (Nat.le_of_ble_eq_true rfl) (by decide) (by decide) hlocks (fun t hal hz hq => ⟨S1, er, ⟨rfl, hP.kept (fun k q hk => hq q.1 (hP k q hk).lt), va_K.moved hal hK, hD⟩, Nat.le_trans hS.1 hz, fun q h1 h2 => (hq q (Nat.lt_of_lt_of_le h1 hS.1)).trans (hS.2.1 q h1 h2)⟩) hS.2.2 (by decide) (by decide)
theorem zt_m_X10_226 : Cond.methodLink RX10 226 yX4_cutTo ∈ mq_T := mq_T_mem (mq_t5 (List.mem_of_getElem? (i := 155) rfl)) rfl
/-! ModalDesk.cut(I)I -/
def zr_X10_cut : Room := { frames := 6, cells := 1, slots := 6, locals := 100 }
def zc_X10_cut : Cond := .code yX10_cut cX10_cut 2 (some .int)
def zf_X10_cut (N : Nat) (z : Nat → Nat) (v1 : Int32) (S : mq_St) : Option (Option Int32 × mq_St) := (mq_cp (zf_X4_has N z (v1) S) (fun q1 => (if q1 = (0 : Int32) then (some (none, S)) else (mq_cl (zf_X4_cutTo N z (v1) S) (fun q3v S5 => (mq_cp (zf_X4_size N z S5) (fun q6 => (some (some (q6), S5)))))))))
set_option maxHeartbeats 4000000 in
set_option maxRecDepth 100000 in
theorem zw_X10_cut_0 {p : Program} {l : Launch} {e : Env} {s : State} {m : MethodId} {args : Array Value} {below : List Frame} {meth : Method} {c : Code} {A : Nat → Prop} {D : va_G} {a z : Nat → Nat} {cI cL cB cZ : ClassId} {Q : State → Prop} {N : Nat} {res : Option Int32 × mq_St} (C : mq_C p s m args c A D cI cL cB cZ cX10_cut 2 RX10 zc_X10_cut) (hret : ∀ (r : Int32) (S1 : mq_St), res = (some r, S1) → ∀ (H : Heap) (locs : List Loc) (ls : Array Slot) (pc : Nat), decode cX10_cut pc = .ok (.ireturn, 1) → va_P D vwCl (wd_C a cI cL cB cZ z S1) H → va_D A (wd_C a cI cL cB cZ z S1) → va_S A s.heap H locs → W p l e zr_X10_cut s m args below meth c H locs 0 0 Q (F0 m pc ls [.int r])) (hthr : ∀ S1 : mq_St, res = (none, S1) → ∀ (H : Heap) (locs : List Loc) (ls : Array Slot), ls.size = 2 → va_P D vwCl (wd_C a cI cL cB cZ z S1) H → va_D A (wd_C a cI cL cB cZ z S1) → va_S A s.heap H locs → W p l e zr_X10_cut s m args below meth c H locs 0 0 Q (F0 m 11 ls [])) (v1 : Int32) (S : mq_St) (H : Heap) (locs : List Loc) (ls : Array Slot) (h : zf_X10_cut N z v1 S = some res) (hl : lv_has ls 2 [(0, .ref (a 0)), (1, .int (v1))]) (hP : va_P D vwCl (wd_C a cI cL cB cZ z S) H) (hD : va_D A (wd_C a cI cL cB cZ z S)) (hS : va_S A s.heap H locs) : W p l e zr_X10_cut s m args below meth c H locs 0 0 Q (F0 m 0 ls []) := by
  obtain ⟨hx, hb, hml, hown, hts, hK, hA⟩ := id C
  unfold zf_X10_cut at h
  refine lv_aload_n hx hb dX10_cut_0 rfl (lv_at hl 0 rfl) ?_
  refine va_get (D := D) (ci := 10) (v := .ref (a 46)) (C := RX10) (T := TX10) (N := 12) hx hb hts (zi_X10 _) hown hK hP 0 rfl rfl 8 (by decide) (hts _ (List.mem_cons_of_mem _ zt_f_X10_79)) (fun _ h9 => h9) rfl dX10_cut_1 ?_
  refine lv_iload_n hx hb dX10_cut_4 rfl (lv_at hl 1 rfl) ?_
  obtain ⟨q1, hc2, h⟩ := mq_cp_go h
  refine zk_X4_has C zt_m_X10_195 ⟨by decide, by decide⟩ hc2 hP hD hS hl.1 (Nat.le_of_ble_eq_true rfl) dX10_cut_5 (fun H locs hP hD hS => ?_)
  refine lv_if_ne (tgt := 21) hx hb dX10_cut_8 (by decide) (fun c8 => ?_) (fun c8 => ?_)
  · replace h := mq_if c8 h
    refine lv_aload_n hx hb dX10_cut_21 rfl (lv_at hl 0 rfl) ?_
    refine va_get (D := D) (ci := 10) (v := .ref (a 46)) (C := RX10) (T := TX10) (N := 12) hx hb hts (zi_X10 _) hown hK hP 0 rfl rfl 8 (by decide) (hts _ (List.mem_cons_of_mem _ zt_f_X10_79)) (fun _ h9 => h9) rfl dX10_cut_22 ?_
    refine lv_iload_n hx hb dX10_cut_25 rfl (lv_at hl 1 rfl) ?_
    obtain ⟨q3, hc4, h⟩ := mq_cl_go h
    refine zk_X4_cutTo C zt_m_X10_226 ⟨by decide, by decide⟩ hc4 hP hD hS hl.1 (Nat.le_of_ble_eq_true rfl) dX10_cut_26 (fun H locs hP hD hS => ?_)
    obtain ⟨S5, eS5⟩ : ∃ y, y = q3.2 := ⟨_, rfl⟩
    rw [← eS5] at hP hD h
    refine lv_aload_n hx hb dX10_cut_29 rfl (lv_at hl 0 rfl) ?_
    refine va_get (D := D) (ci := 10) (v := .ref (a 46)) (C := RX10) (T := TX10) (N := 12) hx hb hts (zi_X10 _) hown hK hP 0 rfl rfl 8 (by decide) (hts _ (List.mem_cons_of_mem _ zt_f_X10_79)) (fun _ h9 => h9) rfl dX10_cut_30 ?_
    obtain ⟨q6, hc7, h⟩ := mq_cp_go h
    refine zk_X4_size C zt_m_X10_194 ⟨by decide, by decide⟩ hc7 hP hD hS hl.1 (Nat.le_of_ble_eq_true rfl) dX10_cut_33 (fun H locs hP hD hS => ?_)
    cases h
    exact hret _ _ rfl H locs ls 36 dX10_cut_36 hP hD hS
  · replace h := mq_it (by simpa using c8) h
    cases h
    exact hthr _ rfl H locs ls hl.1 hP hD hS
set_option maxHeartbeats 4000000 in
set_option maxRecDepth 100000 in
theorem zq_X10_cut (l : Launch) (hst : l.stackTraces = false) (D : va_G) (a z : Nat → Nat) (cI cL cB cZ : ClassId) (sz N s1 s2 : Nat) (v1 : Int32) (S : mq_St) (res : Option Int32 × mq_St) (h : zf_X10_cut N z v1 S = some res) : vx_Met l yX10_cut (zc_X10_cut :: mq_T) zr_X10_cut (va_Pc [.ref (a 0), .int (v1)] (fun U => U.heap.size = sz ∧ va_P D vwCl (wd_C a cI cL cB cZ z S) U.heap ∧ va_K D vwCl (mq_tys cI cL cB cZ) U ∧ va_D (fun _ => True) (wd_C a cI cL cB cZ z S) ∧ mq_X (va_A (wd_C a cI cL cB cZ z S) sz) s1 s2 U)) (va_Qi (fun (r : Int32) (u : mq_St) => res = (some r, u)) (fun u t => va_P D vwCl (wd_C a cI cL cB cZ z u) t.heap ∧ va_K D vwCl (mq_tys cI cL cB cZ) t ∧ va_D (va_A (wd_C a cI cL cB cZ z S) sz) (wd_C a cI cL cB cZ z u)) (va_A (wd_C a cI cL cB cZ z S) sz)) (vx_X (fun u : mq_St => res = (none, u)) (fun E u t => E = mq_E ∧ va_P D vwCl (wd_C a cI cL cB cZ z u) t.heap ∧ va_K D vwCl (mq_tys cI cL cB cZ) t ∧ va_D (va_A (wd_C a cI cL cB cZ z S) sz) (wd_C a cI cL cB cZ z u)) (va_A (wd_C a cI cL cB cZ z S) sz)) 1 6 (va_A (wd_C a cI cL cB cZ z S) sz) := by
  refine vx_ofW (cc := cX10_cut) (maxL := 2) (ret := (some .int)) (by decide) rfl ?_
  intro p e s m args below meth c s₁ B hml htab hv
  obtain ⟨rfl, hsz, hP, hK, hD0, hX⟩ := hv
  have hr := B.returns
  have hlocks := B.notSynchronized
  have hts := atoms_spec (ws := zc_X10_cut :: mq_T) B.pre
  have hown : s.vm.findClass RX10 = some m.cls := findClass_of_methodNamed B.named
  subst hsz
  have hD := hD0.self (sz := s.heap.size)
  generalize hAe : va_A (wd_C a cI cL cB cZ z S) s.heap.size = A at hD hX ⊢
  have hA : ∀ q : Nat, s.heap.size ≤ q → A q := fun q h => by rw [← hAe]; exact Or.inr h
  have hl := lv_entry ([.ref (a 0), .int (v1)]) (n := 2) (Nat.le_of_ble_eq_true rfl)
  rw [lg_entry_eq]
  generalize (lg_sl ([.ref (a 0), .int (v1)]) ++ List.replicate (2 - (lg_sl ([.ref (a 0), .int (v1)])).length) Slot.unset).toArray = ls at hl ⊢
  have hl : lv_has ls 2 [(0, .ref (a 0)), (1, .int (v1))] := hl
  refine zw_X10_cut_0 (A := A) ⟨B.exec, B.bytes, hml, hown, hts, hK, hA⟩ (fun r S1 er H locs ls pc dg hP hD hS => ?_) (fun S1 er H locs ls hls hP hD hS => ?_) v1 S s.heap [] ls h hl hP hD va_S.rf
  · refine vx_ret (W.widen (k := 1) (n := 6) (by decide) (by decide) ?_)
    exact W.iret B.exec B.bytes hr (fun t ht hW => ⟨⟨r, S1, rfl, er, by rw [ht]; exact hP, va_K.moved hW.alike hK, hD⟩, hS.F ht⟩) hS.2.2 dg
  · exact mq_throwS (A := A) (text := "no such world") B.exec B.bytes hst hown (hts _ (List.mem_cons_of_mem _ zt_nse_l)) (hts _ (List.mem_cons_of_mem _ zt_nse_i)) hX.1 (mq_atS_all hts hX.2.2.2.2) mq_atS_ot hX.2.2.1 hX.2.2.2.1 hS (hls.trans hml.symm) dX10_cut_11 dX10_cut_14 dX10_cut_15 dX10_cut_17 dX10_cut_20 (fun x hx => (htab x hx).elim) (by decide) (Nat.le_of_ble_eq_true rfl) (by decide) (by decide) hlocks (fun t hal hz hq => ⟨S1, er, ⟨rfl, hP.kept (fun k q hk => hq q.1 (hP k q hk).lt), va_K.moved hal hK, hD⟩, Nat.le_trans hS.1 hz, fun q h1 h2 => (hq q (Nat.lt_of_lt_of_le h1 hS.1)).trans (hS.2.1 q h1 h2)⟩) hS.2.2 (by decide) (by decide)
/-! ModalDeskLaw.sees: the class's call, its throw caught -/
def zf_L_sees (N : Nat) (z : Nat → Nat) (v1 v2 : Int32) (S : mq_St) (f : Nat → Int64) : Option (Int32 × mq_St × (Nat → Int64)) := match zf_X10_sees N z v1 v2 S with
  | none => none
  | some (none, S1) => some (1, S1, f)
  | some (some r, S1) => some (0, S1, vp_updL f 0 (if r = 0 then (0 : Int64) else 1))
def zr_L_sees : Room := { frames := 7, cells := 1, slots := 6, locals := 122 }
def zc_L_sees : Cond := .codeWith yL_sees cL_sees 5 (some .int) [(0, 17, 20, 13)]
theorem zt_m_L_7 : Cond.methodLink RL 7 yX10_sees ∈ mq_T := mq_T_mem (mq_t5 (List.mem_of_getElem? (i := 12) rfl)) rfl
theorem zt_X10_sees_c : zc_X10_sees ∈ mq_T := mq_T_mem (mq_t5 (List.mem_of_getElem? (i := 15) rfl)) rfl
theorem zt_X10_sees_i : Cond.instanceMethod yX10_sees ∈ mq_T := mq_T_mem (mq_t5 (List.mem_of_getElem? (i := 13) rfl)) rfl
theorem zt_X10_sees_s : Cond.selects RX10 yX10_sees yX10_sees ∈ mq_T := mq_T_mem (mq_t5 (List.mem_of_getElem? (i := 14) rfl)) rfl
theorem zt_nse_ll : Cond.classLink RL 13 mq_E ∈ mq_T := mq_T_mem (mq_t5 (List.mem_of_getElem? (i := 11) rfl)) rfl
set_option maxHeartbeats 4000000 in
set_option maxRecDepth 100000 in
theorem zm_L_sees (l : Launch) (hst : l.stackTraces = false) (D : va_G) (a z : Nat → Nat) (cI cL cB cZ : ClassId) (sz N s1 s2 o : Nat) (v1 v2 : Int32) (S : mq_St) (f : Nat → Int64) (res : Int32 × mq_St × (Nat → Int64)) (h : zf_L_sees N z v1 v2 S f = some res) : Met l yL_sees (zc_L_sees :: mq_T) zr_L_sees (va_Pc [.ref (a 0), .int v1, .int v2, .ref o] (fun U => U.heap.size = sz ∧ va_P D vwCl (wd_C a cI cL cB cZ z S ++ mq_oo o cL (f)) U.heap ∧ va_K D vwCl (mq_tys cI cL cB cZ) U ∧ va_D (fun _ => True) (wd_C a cI cL cB cZ z S ++ mq_oo o cL (f)) ∧ mq_X (va_A (wd_C a cI cL cB cZ z S ++ mq_oo o cL (f)) sz) s1 s2 U)) (va_Qi (fun (r : Int32) (u : mq_St × (Nat → Int64)) => r = res.1 ∧ u = res.2) (fun u t => va_P D vwCl (wd_C a cI cL cB cZ z u.1 ++ mq_oo o cL (u.2)) t.heap ∧ va_K D vwCl (mq_tys cI cL cB cZ) t ∧ va_D (va_A (wd_C a cI cL cB cZ z S ++ mq_oo o cL (f)) sz) (wd_C a cI cL cB cZ z u.1 ++ mq_oo o cL (u.2))) (va_A (wd_C a cI cL cB cZ z S ++ mq_oo o cL (f)) sz)) 1 6 (va_A (wd_C a cI cL cB cZ z S ++ mq_oo o cL (f)) sz) := by
  refine va_MetW (cc := cL_sees) (maxL := 5) (ret := some .int) (hh := [(0, 17, 20, 13)]) (by decide) rfl ?_
  intro p e s m args below meth c s₁ B hml hv
  obtain ⟨rfl, hsz, hP, hK, hD0, hX⟩ := hv
  have hx := B.exec
  have hb := B.bytes
  have hr := B.returns
  have hlocks := B.notSynchronized
  have hts := atoms_spec (ws := zc_L_sees :: mq_T) B.pre
  have hown : s.vm.findClass RL = some m.cls := findClass_of_methodNamed B.named
  have htab := vx_table (x := yL_sees) B (hts _ List.mem_cons_self)
  subst hsz
  have hD := hD0.self (sz := s.heap.size)
  generalize hAe : va_A (wd_C a cI cL cB cZ z S ++ mq_oo o cL (f)) s.heap.size = A at hD hX ⊢
  have hA : ∀ q : Nat, s.heap.size ≤ q → A q := fun q h => by rw [← hAe]; exact Or.inr h
  have hS : va_S A s.heap s.heap [] := va_S.rf
  have hl := lv_entry ([.ref (a 0), .int v1, .int v2, .ref o]) (n := 5) (Nat.le_of_ble_eq_true rfl)
  rw [lg_entry_eq]
  generalize (lg_sl ([.ref (a 0), .int v1, .int v2, .ref o]) ++ List.replicate (5 - (lg_sl ([.ref (a 0), .int v1, .int v2, .ref o])).length) Slot.unset).toArray = ls at hl ⊢
  have hl : lv_has ls 5 [(0, .ref (a 0)), (1, .int v1), (2, .int v2), (3, .ref o)] := hl
  refine lv_aload_n hx hb dL_sees_0 rfl (lv_at hl 3 rfl) ?_
  refine lv_iconst (v := 0) hx hb dL_sees_1 (by decide) ?_
  refine lv_aload_n hx hb dL_sees_2 rfl (lv_at hl 0 rfl) ?_
  refine lv_iload_n hx hb dL_sees_3 rfl (lv_at hl 1 rfl) ?_
  refine lv_iload_n hx hb dL_sees_4 rfl (lv_at hl 2 rfl) ?_
  unfold zf_L_sees at h
  cases hc : zf_X10_sees N z v1 v2 S with
  | none => rw [hc] at h; cases h
  | some q =>
  rw [hc] at h
  have hP0 : va_P D vwCl ([] ++ (wd_C a cI cL cB cZ z S ++ mq_oo o cL (f))) s.heap := hP
  have hDx : va_D A ([] ++ (wd_C a cI cL cB cZ z S ++ mq_oo o cL (f))) := hD
  have hPc := mq_midP hP0
  have hDc := mq_midD hDx
  have hFc := mq_freeI hDc hS hA
  refine vx_calli (vx_runV (As := [.int v1, .int v2]) (rest := [.int 0, .ref o]) ⟨hx, hb, hml, hown, hts⟩ (zq_X10_sees l hst D a z cI cL cB cZ s.heap.size N s1 s2 v1 v2 S q hc) (cwV 2 hts (mq_goodL (mq_wsV zt_m_L_7 zt_X10_sees_i zt_X10_sees_s zt_ini_X10 zt_X10_sees_c)) rfl rfl rfl (by decide +kernel) ⟨Nat.le_of_ble_eq_true rfl, Nat.le_of_ble_eq_true rfl⟩) ⟨fun a U g mk q => ⟨q.1, q.2.1, q.2.2.1, va_K.moved (u := U) (U := U.calling g mk a) (Vm.Alike.refl U.vm) q.2.2.2.1, q.2.2.2.2.1, mq_X_same (u := U) (U := U.calling g mk a) rfl rfl q.2.2.2.2.2⟩, zy_C_0 hK hPc, fun U hU hW => ⟨rfl, by rw [hU], by rw [hU]; exact hPc, va_K.moved hW.alike hK, hDc.weaken (fun _ _ _ _ => trivial), mq_X_at (locs := []) hW (by rw [hU]; exact hS) hFc hX⟩⟩ rfl rfl hl.1 rfl (lv_room (Nat.le_of_ble_eq_true rfl)) dL_sees_5 ⟨by decide, by decide⟩) hS (fun q _ h => hFc q h) hFc (fun q _ h => hFc q h) (fun E ce q9 u t H locs ht hvm hpx hB hz1 hk1 hS hce hcv hcl => ?_) (fun r S1 t H locs ht hvm hw hB hz1 hk1 hS => ?_)
  · obtain ⟨rfl, hP1, hK1, hD1⟩ := hB
    rw [ht] at hP1
    obtain ⟨hP, hD⟩ := mq_midJ (w1 := wd_C a cI cL cB cZ z u) hP0 hDx rfl hk1 hP1
    have hP : va_P D vwCl (wd_C a cI cL cB cZ z u ++ mq_oo o cL (f)) H := hP
    have hD : va_D A (wd_C a cI cL cB cZ z u ++ mq_oo o cL (f)) := hD
    rw [hpx] at h
    have h : some ((1 : Int32), u, f) = some res := h
    refine vx_catch hown [] _ [] htab (fun _ hz => nomatch hz) (by decide) (by decide) (hts _ (List.mem_cons_of_mem _ zt_nse_ll)) (va_Nw.use rfl hX.2.2.2.2.1) hce hcv hcl ?_
    refine lv_astore (lv' := [(4, .ref q9), (0, .ref (a 0)), (1, .int v1), (2, .int v2), (3, .ref o)]) hx hb dL_sees_20 hl (by decide) rfl (fun ls hl => ?_)
    refine lv_iconst (v := 1) hx hb dL_sees_22 (by decide) ?_
    have h := Option.some.inj h
    exact W.iret hx hb hr (fun t ht hW => ⟨⟨1, (u, f), rfl, ⟨by rw [← h], by rw [← h]⟩, by rw [ht]; exact hP, va_K.moved hW.alike hK, hD⟩, hS.F ht⟩) hS.2.2 dL_sees_23
  · obtain ⟨hP1, hK1, hD1⟩ := hB
    rw [ht] at hP1
    obtain ⟨hP, hD⟩ := mq_midJ (w1 := wd_C a cI cL cB cZ z S1) hP0 hDx rfl hk1 hP1
    rw [hw] at h
    have h := Option.some.inj (show some ((0 : Int32), S1, vp_updL f 0 (if r = 0 then (0 : Int64) else 1)) = some res from h)
    have hP : va_P D vwCl (wd_C a cI cL cB cZ z S1 ++ mq_oo o cL (f)) H := hP
    have hD : va_D A (wd_C a cI cL cB cZ z S1 ++ mq_oo o cL (f)) := hD
    refine lv_if_eq (tgt := 15) hx hb dL_sees_8 (by decide) (fun c1 => ?_) (fun c1 => ?_)
    · rw [if_pos c1] at h
      refine lv_lconst (v := 0) hx hb dL_sees_15 (by decide) ?_
      refine va_last (f := f) (cA := cL) (n := 1) (x := 0) hx hb hK hP hD hS 57 1 rfl rfl (i := 0) (vp_in_nI (n := 0) (N := 1) (by decide) (by decide)) dL_sees_16 (fun H locs hP hD hS => ?_)
      have hP : va_P D vwCl (wd_C a cI cL cB cZ z S1 ++ mq_oo o cL ((vp_updL f 0 0))) H := hP
      have hD : va_D A (wd_C a cI cL cB cZ z S1 ++ mq_oo o cL ((vp_updL f 0 0))) := hD
      refine lv_goto (tgt := 24) hx hb dL_sees_17 (by decide) ?_
      refine lv_iconst (v := 0) hx hb dL_sees_24 (by decide) ?_
      exact W.iret hx hb hr (fun t ht hW => ⟨⟨0, (S1, vp_updL f 0 0), rfl, ⟨by rw [← h], by rw [← h]⟩, by rw [ht]; exact hP, va_K.moved hW.alike hK, hD⟩, hS.F ht⟩) hS.2.2 dL_sees_25
    · rw [if_neg c1] at h
      refine lv_lconst (v := 1) hx hb dL_sees_11 (by decide) ?_
      refine lv_goto (tgt := 16) hx hb dL_sees_12 (by decide) ?_
      refine va_last (f := f) (cA := cL) (n := 1) (x := 1) hx hb hK hP hD hS 57 1 rfl rfl (i := 0) (vp_in_nI (n := 0) (N := 1) (by decide) (by decide)) dL_sees_16 (fun H locs hP hD hS => ?_)
      have hP : va_P D vwCl (wd_C a cI cL cB cZ z S1 ++ mq_oo o cL ((vp_updL f 0 1))) H := hP
      have hD : va_D A (wd_C a cI cL cB cZ z S1 ++ mq_oo o cL ((vp_updL f 0 1))) := hD
      refine lv_goto (tgt := 24) hx hb dL_sees_17 (by decide) ?_
      refine lv_iconst (v := 0) hx hb dL_sees_24 (by decide) ?_
      exact W.iret hx hb hr (fun t ht hW => ⟨⟨0, (S1, vp_updL f 0 1), rfl, ⟨by rw [← h], by rw [← h]⟩, by rw [ht]; exact hP, va_K.moved hW.alike hK, hD⟩, hS.F ht⟩) hS.2.2 dL_sees_25
/-! ModalDeskLaw.holds: the class's call, its throw caught -/
def zf_L_holds (N : Nat) (z : Nat → Nat) (v1 v2 : Int32) (S : mq_St) (f : Nat → Int64) : Option (Int32 × mq_St × (Nat → Int64)) := match zf_X10_holds N z v1 v2 S with
  | none => none
  | some (none, S1) => some (1, S1, f)
  | some (some r, S1) => some (0, S1, vp_updL f 0 (if r = 0 then (0 : Int64) else 1))
def zr_L_holds : Room := { frames := 7, cells := 1, slots := 6, locals := 122 }
def zc_L_holds : Cond := .codeWith yL_holds cL_holds 5 (some .int) [(0, 17, 20, 13)]
theorem zt_m_L_15 : Cond.methodLink RL 15 yX10_holds ∈ mq_T := mq_T_mem (mq_t5 (List.mem_of_getElem? (i := 87) rfl)) rfl
theorem zt_X10_holds_c : zc_X10_holds ∈ mq_T := mq_T_mem (mq_t5 (List.mem_of_getElem? (i := 90) rfl)) rfl
theorem zt_X10_holds_i : Cond.instanceMethod yX10_holds ∈ mq_T := mq_T_mem (mq_t5 (List.mem_of_getElem? (i := 88) rfl)) rfl
theorem zt_X10_holds_s : Cond.selects RX10 yX10_holds yX10_holds ∈ mq_T := mq_T_mem (mq_t5 (List.mem_of_getElem? (i := 89) rfl)) rfl
set_option maxHeartbeats 4000000 in
set_option maxRecDepth 100000 in
theorem zm_L_holds (l : Launch) (hst : l.stackTraces = false) (D : va_G) (a z : Nat → Nat) (cI cL cB cZ : ClassId) (sz N s1 s2 o : Nat) (v1 v2 : Int32) (S : mq_St) (f : Nat → Int64) (res : Int32 × mq_St × (Nat → Int64)) (h : zf_L_holds N z v1 v2 S f = some res) : Met l yL_holds (zc_L_holds :: mq_T) zr_L_holds (va_Pc [.ref (a 0), .int v1, .int v2, .ref o] (fun U => U.heap.size = sz ∧ va_P D vwCl (wd_C a cI cL cB cZ z S ++ mq_oo o cL (f)) U.heap ∧ va_K D vwCl (mq_tys cI cL cB cZ) U ∧ va_D (fun _ => True) (wd_C a cI cL cB cZ z S ++ mq_oo o cL (f)) ∧ mq_X (va_A (wd_C a cI cL cB cZ z S ++ mq_oo o cL (f)) sz) s1 s2 U)) (va_Qi (fun (r : Int32) (u : mq_St × (Nat → Int64)) => r = res.1 ∧ u = res.2) (fun u t => va_P D vwCl (wd_C a cI cL cB cZ z u.1 ++ mq_oo o cL (u.2)) t.heap ∧ va_K D vwCl (mq_tys cI cL cB cZ) t ∧ va_D (va_A (wd_C a cI cL cB cZ z S ++ mq_oo o cL (f)) sz) (wd_C a cI cL cB cZ z u.1 ++ mq_oo o cL (u.2))) (va_A (wd_C a cI cL cB cZ z S ++ mq_oo o cL (f)) sz)) 1 6 (va_A (wd_C a cI cL cB cZ z S ++ mq_oo o cL (f)) sz) := by
  refine va_MetW (cc := cL_holds) (maxL := 5) (ret := some .int) (hh := [(0, 17, 20, 13)]) (by decide) rfl ?_
  intro p e s m args below meth c s₁ B hml hv
  obtain ⟨rfl, hsz, hP, hK, hD0, hX⟩ := hv
  have hx := B.exec
  have hb := B.bytes
  have hr := B.returns
  have hlocks := B.notSynchronized
  have hts := atoms_spec (ws := zc_L_holds :: mq_T) B.pre
  have hown : s.vm.findClass RL = some m.cls := findClass_of_methodNamed B.named
  have htab := vx_table (x := yL_holds) B (hts _ List.mem_cons_self)
  subst hsz
  have hD := hD0.self (sz := s.heap.size)
  generalize hAe : va_A (wd_C a cI cL cB cZ z S ++ mq_oo o cL (f)) s.heap.size = A at hD hX ⊢
  have hA : ∀ q : Nat, s.heap.size ≤ q → A q := fun q h => by rw [← hAe]; exact Or.inr h
  have hS : va_S A s.heap s.heap [] := va_S.rf
  have hl := lv_entry ([.ref (a 0), .int v1, .int v2, .ref o]) (n := 5) (Nat.le_of_ble_eq_true rfl)
  rw [lg_entry_eq]
  generalize (lg_sl ([.ref (a 0), .int v1, .int v2, .ref o]) ++ List.replicate (5 - (lg_sl ([.ref (a 0), .int v1, .int v2, .ref o])).length) Slot.unset).toArray = ls at hl ⊢
  have hl : lv_has ls 5 [(0, .ref (a 0)), (1, .int v1), (2, .int v2), (3, .ref o)] := hl
  refine lv_aload_n hx hb dL_holds_0 rfl (lv_at hl 3 rfl) ?_
  refine lv_iconst (v := 0) hx hb dL_holds_1 (by decide) ?_
  refine lv_aload_n hx hb dL_holds_2 rfl (lv_at hl 0 rfl) ?_
  refine lv_iload_n hx hb dL_holds_3 rfl (lv_at hl 1 rfl) ?_
  refine lv_iload_n hx hb dL_holds_4 rfl (lv_at hl 2 rfl) ?_
  unfold zf_L_holds at h
  cases hc : zf_X10_holds N z v1 v2 S with
  | none => rw [hc] at h; cases h
  | some q =>
  rw [hc] at h
  have hP0 : va_P D vwCl ([] ++ (wd_C a cI cL cB cZ z S ++ mq_oo o cL (f))) s.heap := hP
  have hDx : va_D A ([] ++ (wd_C a cI cL cB cZ z S ++ mq_oo o cL (f))) := hD
  have hPc := mq_midP hP0
  have hDc := mq_midD hDx
  have hFc := mq_freeI hDc hS hA
  refine vx_calli (vx_runV (As := [.int v1, .int v2]) (rest := [.int 0, .ref o]) ⟨hx, hb, hml, hown, hts⟩ (zq_X10_holds l hst D a z cI cL cB cZ s.heap.size N s1 s2 v1 v2 S q hc) (cwV 2 hts (mq_goodL (mq_wsV zt_m_L_15 zt_X10_holds_i zt_X10_holds_s zt_ini_X10 zt_X10_holds_c)) rfl rfl rfl (by decide +kernel) ⟨Nat.le_of_ble_eq_true rfl, Nat.le_of_ble_eq_true rfl⟩) ⟨fun a U g mk q => ⟨q.1, q.2.1, q.2.2.1, va_K.moved (u := U) (U := U.calling g mk a) (Vm.Alike.refl U.vm) q.2.2.2.1, q.2.2.2.2.1, mq_X_same (u := U) (U := U.calling g mk a) rfl rfl q.2.2.2.2.2⟩, zy_C_0 hK hPc, fun U hU hW => ⟨rfl, by rw [hU], by rw [hU]; exact hPc, va_K.moved hW.alike hK, hDc.weaken (fun _ _ _ _ => trivial), mq_X_at (locs := []) hW (by rw [hU]; exact hS) hFc hX⟩⟩ rfl rfl hl.1 rfl (lv_room (Nat.le_of_ble_eq_true rfl)) dL_holds_5 ⟨by decide, by decide⟩) hS (fun q _ h => hFc q h) hFc (fun q _ h => hFc q h) (fun E ce q9 u t H locs ht hvm hpx hB hz1 hk1 hS hce hcv hcl => ?_) (fun r S1 t H locs ht hvm hw hB hz1 hk1 hS => ?_)
  · obtain ⟨rfl, hP1, hK1, hD1⟩ := hB
    rw [ht] at hP1
    obtain ⟨hP, hD⟩ := mq_midJ (w1 := wd_C a cI cL cB cZ z u) hP0 hDx rfl hk1 hP1
    have hP : va_P D vwCl (wd_C a cI cL cB cZ z u ++ mq_oo o cL (f)) H := hP
    have hD : va_D A (wd_C a cI cL cB cZ z u ++ mq_oo o cL (f)) := hD
    rw [hpx] at h
    have h : some ((1 : Int32), u, f) = some res := h
    refine vx_catch hown [] _ [] htab (fun _ hz => nomatch hz) (by decide) (by decide) (hts _ (List.mem_cons_of_mem _ zt_nse_ll)) (va_Nw.use rfl hX.2.2.2.2.1) hce hcv hcl ?_
    refine lv_astore (lv' := [(4, .ref q9), (0, .ref (a 0)), (1, .int v1), (2, .int v2), (3, .ref o)]) hx hb dL_holds_20 hl (by decide) rfl (fun ls hl => ?_)
    refine lv_iconst (v := 1) hx hb dL_holds_22 (by decide) ?_
    have h := Option.some.inj h
    exact W.iret hx hb hr (fun t ht hW => ⟨⟨1, (u, f), rfl, ⟨by rw [← h], by rw [← h]⟩, by rw [ht]; exact hP, va_K.moved hW.alike hK, hD⟩, hS.F ht⟩) hS.2.2 dL_holds_23
  · obtain ⟨hP1, hK1, hD1⟩ := hB
    rw [ht] at hP1
    obtain ⟨hP, hD⟩ := mq_midJ (w1 := wd_C a cI cL cB cZ z S1) hP0 hDx rfl hk1 hP1
    rw [hw] at h
    have h := Option.some.inj (show some ((0 : Int32), S1, vp_updL f 0 (if r = 0 then (0 : Int64) else 1)) = some res from h)
    have hP : va_P D vwCl (wd_C a cI cL cB cZ z S1 ++ mq_oo o cL (f)) H := hP
    have hD : va_D A (wd_C a cI cL cB cZ z S1 ++ mq_oo o cL (f)) := hD
    refine lv_if_eq (tgt := 15) hx hb dL_holds_8 (by decide) (fun c1 => ?_) (fun c1 => ?_)
    · rw [if_pos c1] at h
      refine lv_lconst (v := 0) hx hb dL_holds_15 (by decide) ?_
      refine va_last (f := f) (cA := cL) (n := 1) (x := 0) hx hb hK hP hD hS 57 1 rfl rfl (i := 0) (vp_in_nI (n := 0) (N := 1) (by decide) (by decide)) dL_holds_16 (fun H locs hP hD hS => ?_)
      have hP : va_P D vwCl (wd_C a cI cL cB cZ z S1 ++ mq_oo o cL ((vp_updL f 0 0))) H := hP
      have hD : va_D A (wd_C a cI cL cB cZ z S1 ++ mq_oo o cL ((vp_updL f 0 0))) := hD
      refine lv_goto (tgt := 24) hx hb dL_holds_17 (by decide) ?_
      refine lv_iconst (v := 0) hx hb dL_holds_24 (by decide) ?_
      exact W.iret hx hb hr (fun t ht hW => ⟨⟨0, (S1, vp_updL f 0 0), rfl, ⟨by rw [← h], by rw [← h]⟩, by rw [ht]; exact hP, va_K.moved hW.alike hK, hD⟩, hS.F ht⟩) hS.2.2 dL_holds_25
    · rw [if_neg c1] at h
      refine lv_lconst (v := 1) hx hb dL_holds_11 (by decide) ?_
      refine lv_goto (tgt := 16) hx hb dL_holds_12 (by decide) ?_
      refine va_last (f := f) (cA := cL) (n := 1) (x := 1) hx hb hK hP hD hS 57 1 rfl rfl (i := 0) (vp_in_nI (n := 0) (N := 1) (by decide) (by decide)) dL_holds_16 (fun H locs hP hD hS => ?_)
      have hP : va_P D vwCl (wd_C a cI cL cB cZ z S1 ++ mq_oo o cL ((vp_updL f 0 1))) H := hP
      have hD : va_D A (wd_C a cI cL cB cZ z S1 ++ mq_oo o cL ((vp_updL f 0 1))) := hD
      refine lv_goto (tgt := 24) hx hb dL_holds_17 (by decide) ?_
      refine lv_iconst (v := 0) hx hb dL_holds_24 (by decide) ?_
      exact W.iret hx hb hr (fun t ht hW => ⟨⟨0, (S1, vp_updL f 0 1), rfl, ⟨by rw [← h], by rw [← h]⟩, by rw [ht]; exact hP, va_K.moved hW.alike hK, hD⟩, hS.F ht⟩) hS.2.2 dL_holds_25
/-! ModalDeskLaw.world: the class's call, its throw caught -/
def zf_L_world (N : Nat) (z : Nat → Nat) (v1 v2 : Int32) (S : mq_St) (f : Nat → Int64) : Option (Int32 × mq_St × (Nat → Int64)) := match zf_X10_world N z v1 v2 S with
  | none => none
  | some (none, S1) => some (1, S1, f)
  | some (some r, S1) => some (0, S1, vp_updL f 0 r.toInt64)
def zr_L_world : Room := { frames := 7, cells := 1, slots := 6, locals := 132 }
def zc_L_world : Cond := .codeWith yL_world cL_world 5 (some .int) [(0, 10, 13, 13)]
theorem zt_m_L_18 : Cond.methodLink RL 18 yX10_world ∈ mq_T := mq_T_mem (mq_t5 (List.mem_of_getElem? (i := 119) rfl)) rfl
theorem zt_X10_world_c : zc_X10_world ∈ mq_T := mq_T_mem (mq_t5 (List.mem_of_getElem? (i := 122) rfl)) rfl
theorem zt_X10_world_i : Cond.instanceMethod yX10_world ∈ mq_T := mq_T_mem (mq_t5 (List.mem_of_getElem? (i := 120) rfl)) rfl
theorem zt_X10_world_s : Cond.selects RX10 yX10_world yX10_world ∈ mq_T := mq_T_mem (mq_t5 (List.mem_of_getElem? (i := 121) rfl)) rfl
set_option maxHeartbeats 4000000 in
set_option maxRecDepth 100000 in
theorem zm_L_world (l : Launch) (hst : l.stackTraces = false) (D : va_G) (a z : Nat → Nat) (cI cL cB cZ : ClassId) (sz N s1 s2 o : Nat) (v1 v2 : Int32) (S : mq_St) (f : Nat → Int64) (res : Int32 × mq_St × (Nat → Int64)) (h : zf_L_world N z v1 v2 S f = some res) : Met l yL_world (zc_L_world :: mq_T) zr_L_world (va_Pc [.ref (a 0), .int v1, .int v2, .ref o] (fun U => U.heap.size = sz ∧ va_P D vwCl (wd_C a cI cL cB cZ z S ++ mq_oo o cL (f)) U.heap ∧ va_K D vwCl (mq_tys cI cL cB cZ) U ∧ va_D (fun _ => True) (wd_C a cI cL cB cZ z S ++ mq_oo o cL (f)) ∧ mq_X (va_A (wd_C a cI cL cB cZ z S ++ mq_oo o cL (f)) sz) s1 s2 U)) (va_Qi (fun (r : Int32) (u : mq_St × (Nat → Int64)) => r = res.1 ∧ u = res.2) (fun u t => va_P D vwCl (wd_C a cI cL cB cZ z u.1 ++ mq_oo o cL (u.2)) t.heap ∧ va_K D vwCl (mq_tys cI cL cB cZ) t ∧ va_D (va_A (wd_C a cI cL cB cZ z S ++ mq_oo o cL (f)) sz) (wd_C a cI cL cB cZ z u.1 ++ mq_oo o cL (u.2))) (va_A (wd_C a cI cL cB cZ z S ++ mq_oo o cL (f)) sz)) 1 6 (va_A (wd_C a cI cL cB cZ z S ++ mq_oo o cL (f)) sz) := by
  refine va_MetW (cc := cL_world) (maxL := 5) (ret := some .int) (hh := [(0, 10, 13, 13)]) (by decide) rfl ?_
  intro p e s m args below meth c s₁ B hml hv
  obtain ⟨rfl, hsz, hP, hK, hD0, hX⟩ := hv
  have hx := B.exec
  have hb := B.bytes
  have hr := B.returns
  have hlocks := B.notSynchronized
  have hts := atoms_spec (ws := zc_L_world :: mq_T) B.pre
  have hown : s.vm.findClass RL = some m.cls := findClass_of_methodNamed B.named
  have htab := vx_table (x := yL_world) B (hts _ List.mem_cons_self)
  subst hsz
  have hD := hD0.self (sz := s.heap.size)
  generalize hAe : va_A (wd_C a cI cL cB cZ z S ++ mq_oo o cL (f)) s.heap.size = A at hD hX ⊢
  have hA : ∀ q : Nat, s.heap.size ≤ q → A q := fun q h => by rw [← hAe]; exact Or.inr h
  have hS : va_S A s.heap s.heap [] := va_S.rf
  have hl := lv_entry ([.ref (a 0), .int v1, .int v2, .ref o]) (n := 5) (Nat.le_of_ble_eq_true rfl)
  rw [lg_entry_eq]
  generalize (lg_sl ([.ref (a 0), .int v1, .int v2, .ref o]) ++ List.replicate (5 - (lg_sl ([.ref (a 0), .int v1, .int v2, .ref o])).length) Slot.unset).toArray = ls at hl ⊢
  have hl : lv_has ls 5 [(0, .ref (a 0)), (1, .int v1), (2, .int v2), (3, .ref o)] := hl
  refine lv_aload_n hx hb dL_world_0 rfl (lv_at hl 3 rfl) ?_
  refine lv_iconst (v := 0) hx hb dL_world_1 (by decide) ?_
  refine lv_aload_n hx hb dL_world_2 rfl (lv_at hl 0 rfl) ?_
  refine lv_iload_n hx hb dL_world_3 rfl (lv_at hl 1 rfl) ?_
  refine lv_iload_n hx hb dL_world_4 rfl (lv_at hl 2 rfl) ?_
  unfold zf_L_world at h
  cases hc : zf_X10_world N z v1 v2 S with
  | none => rw [hc] at h; cases h
  | some q =>
  rw [hc] at h
  have hP0 : va_P D vwCl ([] ++ (wd_C a cI cL cB cZ z S ++ mq_oo o cL (f))) s.heap := hP
  have hDx : va_D A ([] ++ (wd_C a cI cL cB cZ z S ++ mq_oo o cL (f))) := hD
  have hPc := mq_midP hP0
  have hDc := mq_midD hDx
  have hFc := mq_freeI hDc hS hA
  refine vx_calli (vx_runV (As := [.int v1, .int v2]) (rest := [.int 0, .ref o]) ⟨hx, hb, hml, hown, hts⟩ (zq_X10_world l hst D a z cI cL cB cZ s.heap.size N s1 s2 v1 v2 S q hc) (cwV 2 hts (mq_goodL (mq_wsV zt_m_L_18 zt_X10_world_i zt_X10_world_s zt_ini_X10 zt_X10_world_c)) rfl rfl rfl (by decide +kernel) ⟨Nat.le_of_ble_eq_true rfl, Nat.le_of_ble_eq_true rfl⟩) ⟨fun a U g mk q => ⟨q.1, q.2.1, q.2.2.1, va_K.moved (u := U) (U := U.calling g mk a) (Vm.Alike.refl U.vm) q.2.2.2.1, q.2.2.2.2.1, mq_X_same (u := U) (U := U.calling g mk a) rfl rfl q.2.2.2.2.2⟩, zy_C_0 hK hPc, fun U hU hW => ⟨rfl, by rw [hU], by rw [hU]; exact hPc, va_K.moved hW.alike hK, hDc.weaken (fun _ _ _ _ => trivial), mq_X_at (locs := []) hW (by rw [hU]; exact hS) hFc hX⟩⟩ rfl rfl hl.1 rfl (lv_room (Nat.le_of_ble_eq_true rfl)) dL_world_5 ⟨by decide, by decide⟩) hS (fun q _ h => hFc q h) hFc (fun q _ h => hFc q h) (fun E ce q9 u t H locs ht hvm hpx hB hz1 hk1 hS hce hcv hcl => ?_) (fun r S1 t H locs ht hvm hw hB hz1 hk1 hS => ?_)
  · obtain ⟨rfl, hP1, hK1, hD1⟩ := hB
    rw [ht] at hP1
    obtain ⟨hP, hD⟩ := mq_midJ (w1 := wd_C a cI cL cB cZ z u) hP0 hDx rfl hk1 hP1
    have hP : va_P D vwCl (wd_C a cI cL cB cZ z u ++ mq_oo o cL (f)) H := hP
    have hD : va_D A (wd_C a cI cL cB cZ z u ++ mq_oo o cL (f)) := hD
    rw [hpx] at h
    have h : some ((1 : Int32), u, f) = some res := h
    refine vx_catch hown [] _ [] htab (fun _ hz => nomatch hz) (by decide) (by decide) (hts _ (List.mem_cons_of_mem _ zt_nse_ll)) (va_Nw.use rfl hX.2.2.2.2.1) hce hcv hcl ?_
    refine lv_astore (lv' := [(4, .ref q9), (0, .ref (a 0)), (1, .int v1), (2, .int v2), (3, .ref o)]) hx hb dL_world_13 hl (by decide) rfl (fun ls hl => ?_)
    refine lv_iconst (v := 1) hx hb dL_world_15 (by decide) ?_
    have h := Option.some.inj h
    exact W.iret hx hb hr (fun t ht hW => ⟨⟨1, (u, f), rfl, ⟨by rw [← h], by rw [← h]⟩, by rw [ht]; exact hP, va_K.moved hW.alike hK, hD⟩, hS.F ht⟩) hS.2.2 dL_world_16
  · obtain ⟨hP1, hK1, hD1⟩ := hB
    rw [ht] at hP1
    obtain ⟨hP, hD⟩ := mq_midJ (w1 := wd_C a cI cL cB cZ z S1) hP0 hDx rfl hk1 hP1
    rw [hw] at h
    have h := Option.some.inj (show some ((0 : Int32), S1, vp_updL f 0 r.toInt64) = some res from h)
    have hP : va_P D vwCl (wd_C a cI cL cB cZ z S1 ++ mq_oo o cL (f)) H := hP
    have hD : va_D A (wd_C a cI cL cB cZ z S1 ++ mq_oo o cL (f)) := hD
    refine lv_i2l (v := r.toInt64) hx hb dL_world_8 rfl ?_
    refine va_last (f := f) (cA := cL) (n := 1) (x := r.toInt64) hx hb hK hP hD hS 57 1 rfl rfl (i := 0) (vp_in_nI (n := 0) (N := 1) (by decide) (by decide)) dL_world_9 (fun H locs hP hD hS => ?_)
    have hP : va_P D vwCl (wd_C a cI cL cB cZ z S1 ++ mq_oo o cL ((vp_updL f 0 r.toInt64))) H := hP
    have hD : va_D A (wd_C a cI cL cB cZ z S1 ++ mq_oo o cL ((vp_updL f 0 r.toInt64))) := hD
    refine lv_goto (tgt := 17) hx hb dL_world_10 (by decide) ?_
    refine lv_iconst (v := 0) hx hb dL_world_17 (by decide) ?_
    exact W.iret hx hb hr (fun t ht hW => ⟨⟨0, (S1, vp_updL f 0 r.toInt64), rfl, ⟨by rw [← h], by rw [← h]⟩, by rw [ht]; exact hP, va_K.moved hW.alike hK, hD⟩, hS.F ht⟩) hS.2.2 dL_world_18
/-! ModalDeskLaw.cut: the class's call, its throw caught -/
def zf_L_cut (N : Nat) (z : Nat → Nat) (v1 : Int32) (S : mq_St) (f : Nat → Int64) : Option (Int32 × mq_St × (Nat → Int64)) := match zf_X10_cut N z v1 S with
  | none => none
  | some (none, S1) => some (1, S1, f)
  | some (some r, S1) => some (0, S1, vp_updL f 0 r.toInt64)
def zr_L_cut : Room := { frames := 7, cells := 1, slots := 6, locals := 121 }
def zc_L_cut : Cond := .codeWith yL_cut cL_cut 4 (some .int) [(0, 9, 12, 13)]
theorem zt_m_L_22 : Cond.methodLink RL 22 yX10_cut ∈ mq_T := mq_T_mem (mq_t5 (List.mem_of_getElem? (i := 151) rfl)) rfl
theorem zt_X10_cut_c : zc_X10_cut ∈ mq_T := mq_T_mem (mq_t5 (List.mem_of_getElem? (i := 154) rfl)) rfl
theorem zt_X10_cut_i : Cond.instanceMethod yX10_cut ∈ mq_T := mq_T_mem (mq_t5 (List.mem_of_getElem? (i := 152) rfl)) rfl
theorem zt_X10_cut_s : Cond.selects RX10 yX10_cut yX10_cut ∈ mq_T := mq_T_mem (mq_t5 (List.mem_of_getElem? (i := 153) rfl)) rfl
set_option maxHeartbeats 4000000 in
set_option maxRecDepth 100000 in
theorem zm_L_cut (l : Launch) (hst : l.stackTraces = false) (D : va_G) (a z : Nat → Nat) (cI cL cB cZ : ClassId) (sz N s1 s2 o : Nat) (v1 : Int32) (S : mq_St) (f : Nat → Int64) (res : Int32 × mq_St × (Nat → Int64)) (h : zf_L_cut N z v1 S f = some res) : Met l yL_cut (zc_L_cut :: mq_T) zr_L_cut (va_Pc [.ref (a 0), .int v1, .ref o] (fun U => U.heap.size = sz ∧ va_P D vwCl (wd_C a cI cL cB cZ z S ++ mq_oo o cL (f)) U.heap ∧ va_K D vwCl (mq_tys cI cL cB cZ) U ∧ va_D (fun _ => True) (wd_C a cI cL cB cZ z S ++ mq_oo o cL (f)) ∧ mq_X (va_A (wd_C a cI cL cB cZ z S ++ mq_oo o cL (f)) sz) s1 s2 U)) (va_Qi (fun (r : Int32) (u : mq_St × (Nat → Int64)) => r = res.1 ∧ u = res.2) (fun u t => va_P D vwCl (wd_C a cI cL cB cZ z u.1 ++ mq_oo o cL (u.2)) t.heap ∧ va_K D vwCl (mq_tys cI cL cB cZ) t ∧ va_D (va_A (wd_C a cI cL cB cZ z S ++ mq_oo o cL (f)) sz) (wd_C a cI cL cB cZ z u.1 ++ mq_oo o cL (u.2))) (va_A (wd_C a cI cL cB cZ z S ++ mq_oo o cL (f)) sz)) 1 6 (va_A (wd_C a cI cL cB cZ z S ++ mq_oo o cL (f)) sz) := by
  refine va_MetW (cc := cL_cut) (maxL := 4) (ret := some .int) (hh := [(0, 9, 12, 13)]) (by decide) rfl ?_
  intro p e s m args below meth c s₁ B hml hv
  obtain ⟨rfl, hsz, hP, hK, hD0, hX⟩ := hv
  have hx := B.exec
  have hb := B.bytes
  have hr := B.returns
  have hlocks := B.notSynchronized
  have hts := atoms_spec (ws := zc_L_cut :: mq_T) B.pre
  have hown : s.vm.findClass RL = some m.cls := findClass_of_methodNamed B.named
  have htab := vx_table (x := yL_cut) B (hts _ List.mem_cons_self)
  subst hsz
  have hD := hD0.self (sz := s.heap.size)
  generalize hAe : va_A (wd_C a cI cL cB cZ z S ++ mq_oo o cL (f)) s.heap.size = A at hD hX ⊢
  have hA : ∀ q : Nat, s.heap.size ≤ q → A q := fun q h => by rw [← hAe]; exact Or.inr h
  have hS : va_S A s.heap s.heap [] := va_S.rf
  have hl := lv_entry ([.ref (a 0), .int v1, .ref o]) (n := 4) (Nat.le_of_ble_eq_true rfl)
  rw [lg_entry_eq]
  generalize (lg_sl ([.ref (a 0), .int v1, .ref o]) ++ List.replicate (4 - (lg_sl ([.ref (a 0), .int v1, .ref o])).length) Slot.unset).toArray = ls at hl ⊢
  have hl : lv_has ls 4 [(0, .ref (a 0)), (1, .int v1), (2, .ref o)] := hl
  refine lv_aload_n hx hb dL_cut_0 rfl (lv_at hl 2 rfl) ?_
  refine lv_iconst (v := 0) hx hb dL_cut_1 (by decide) ?_
  refine lv_aload_n hx hb dL_cut_2 rfl (lv_at hl 0 rfl) ?_
  refine lv_iload_n hx hb dL_cut_3 rfl (lv_at hl 1 rfl) ?_
  unfold zf_L_cut at h
  cases hc : zf_X10_cut N z v1 S with
  | none => rw [hc] at h; cases h
  | some q =>
  rw [hc] at h
  have hP0 : va_P D vwCl ([] ++ (wd_C a cI cL cB cZ z S ++ mq_oo o cL (f))) s.heap := hP
  have hDx : va_D A ([] ++ (wd_C a cI cL cB cZ z S ++ mq_oo o cL (f))) := hD
  have hPc := mq_midP hP0
  have hDc := mq_midD hDx
  have hFc := mq_freeI hDc hS hA
  refine vx_calli (vx_runV (As := [.int v1]) (rest := [.int 0, .ref o]) ⟨hx, hb, hml, hown, hts⟩ (zq_X10_cut l hst D a z cI cL cB cZ s.heap.size N s1 s2 v1 S q hc) (cwV 1 hts (mq_goodL (mq_wsV zt_m_L_22 zt_X10_cut_i zt_X10_cut_s zt_ini_X10 zt_X10_cut_c)) rfl rfl rfl (by decide +kernel) ⟨Nat.le_of_ble_eq_true rfl, Nat.le_of_ble_eq_true rfl⟩) ⟨fun a U g mk q => ⟨q.1, q.2.1, q.2.2.1, va_K.moved (u := U) (U := U.calling g mk a) (Vm.Alike.refl U.vm) q.2.2.2.1, q.2.2.2.2.1, mq_X_same (u := U) (U := U.calling g mk a) rfl rfl q.2.2.2.2.2⟩, zy_C_0 hK hPc, fun U hU hW => ⟨rfl, by rw [hU], by rw [hU]; exact hPc, va_K.moved hW.alike hK, hDc.weaken (fun _ _ _ _ => trivial), mq_X_at (locs := []) hW (by rw [hU]; exact hS) hFc hX⟩⟩ rfl rfl hl.1 rfl (lv_room (Nat.le_of_ble_eq_true rfl)) dL_cut_4 ⟨by decide, by decide⟩) hS (fun q _ h => hFc q h) hFc (fun q _ h => hFc q h) (fun E ce q9 u t H locs ht hvm hpx hB hz1 hk1 hS hce hcv hcl => ?_) (fun r S1 t H locs ht hvm hw hB hz1 hk1 hS => ?_)
  · obtain ⟨rfl, hP1, hK1, hD1⟩ := hB
    rw [ht] at hP1
    obtain ⟨hP, hD⟩ := mq_midJ (w1 := wd_C a cI cL cB cZ z u) hP0 hDx rfl hk1 hP1
    have hP : va_P D vwCl (wd_C a cI cL cB cZ z u ++ mq_oo o cL (f)) H := hP
    have hD : va_D A (wd_C a cI cL cB cZ z u ++ mq_oo o cL (f)) := hD
    rw [hpx] at h
    have h : some ((1 : Int32), u, f) = some res := h
    refine vx_catch hown [] _ [] htab (fun _ hz => nomatch hz) (by decide) (by decide) (hts _ (List.mem_cons_of_mem _ zt_nse_ll)) (va_Nw.use rfl hX.2.2.2.2.1) hce hcv hcl ?_
    refine lv_astore_n (lv' := [(3, .ref q9), (0, .ref (a 0)), (1, .int v1), (2, .ref o)]) hx hb dL_cut_12 rfl hl (by decide) rfl (fun ls hl => ?_)
    refine lv_iconst (v := 1) hx hb dL_cut_13 (by decide) ?_
    have h := Option.some.inj h
    exact W.iret hx hb hr (fun t ht hW => ⟨⟨1, (u, f), rfl, ⟨by rw [← h], by rw [← h]⟩, by rw [ht]; exact hP, va_K.moved hW.alike hK, hD⟩, hS.F ht⟩) hS.2.2 dL_cut_14
  · obtain ⟨hP1, hK1, hD1⟩ := hB
    rw [ht] at hP1
    obtain ⟨hP, hD⟩ := mq_midJ (w1 := wd_C a cI cL cB cZ z S1) hP0 hDx rfl hk1 hP1
    rw [hw] at h
    have h := Option.some.inj (show some ((0 : Int32), S1, vp_updL f 0 r.toInt64) = some res from h)
    have hP : va_P D vwCl (wd_C a cI cL cB cZ z S1 ++ mq_oo o cL (f)) H := hP
    have hD : va_D A (wd_C a cI cL cB cZ z S1 ++ mq_oo o cL (f)) := hD
    refine lv_i2l (v := r.toInt64) hx hb dL_cut_7 rfl ?_
    refine va_last (f := f) (cA := cL) (n := 1) (x := r.toInt64) hx hb hK hP hD hS 57 1 rfl rfl (i := 0) (vp_in_nI (n := 0) (N := 1) (by decide) (by decide)) dL_cut_8 (fun H locs hP hD hS => ?_)
    have hP : va_P D vwCl (wd_C a cI cL cB cZ z S1 ++ mq_oo o cL ((vp_updL f 0 r.toInt64))) H := hP
    have hD : va_D A (wd_C a cI cL cB cZ z S1 ++ mq_oo o cL ((vp_updL f 0 r.toInt64))) := hD
    refine lv_goto (tgt := 15) hx hb dL_cut_9 (by decide) ?_
    refine lv_iconst (v := 0) hx hb dL_cut_15 (by decide) ?_
    exact W.iret hx hb hr (fun t ht hW => ⟨⟨0, (S1, vp_updL f 0 r.toInt64), rfl, ⟨by rw [← h], by rw [← h]⟩, by rw [ht]; exact hP, va_K.moved hW.alike hK, hD⟩, hS.F ht⟩) hS.2.2 dL_cut_16
