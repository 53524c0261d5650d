theorem zt_f_X10_10 : Cond.fieldLink RX10 10 "ModalDesk" "tape" "LModalDesk$ByteRow;" ∈ mq_T := mq_T_mem (mq_t2 (List.mem_of_getElem? (i := 103) rfl)) rfl
theorem zi_X10 (c1 : Cond) : ∀ w ∈ u_ws RX10 TX10 12, w ∈ c1 :: mq_T := fun w h => List.mem_cons_of_mem _ (mq_T_mem (mq_inl [(2, 115), (2, 117), (2, 119), (2, 121), (2, 123), (2, 125), (2, 127), (2, 129), (2, 131), (2, 133), (2, 135), (2, 137)] (by decide +kernel) w h) ((by decide +kernel : ∀ w ∈ u_ws RX10 TX10 12, goodWord w = true) w h))
theorem zt_m_X10_112 : Cond.methodLink RX10 112 yX0_put ∈ mq_T := mq_T_mem (mq_t2 (List.mem_of_getElem? (i := 180) rfl)) rfl
/-! ModalDesk.alter(II)Z -/
def zr_X10_alter : Room := { frames := 1, cells := 0, slots := 0, locals := 23 }
def zc_X10_alter : Cond := .code yX10_alter cX10_alter 3 (some .boolean)
def zf_X10_alter (N : Nat) (z : Nat → Nat) (v1 : Int32) (v2 : Int32) (S : mq_St) : Option (Int32 × mq_St) := (mq_cl (zf_X0_put N z (v1) (v2) (mq_pull S [0] [2] [])) (fun q1v q1s => mq_nS (mq_push S q1s [0] [2] []) (fun S3 => (mq_cz (q1v) (some (q1v, S3))))))
set_option maxHeartbeats 4000000 in
set_option maxRecDepth 100000 in
theorem zw_X10_alter_0 {p : Program} {l : Launch} {e : Env} {s : State} {m : MethodId} {args : Array Value} {below : List Frame} {meth : Method} {c : Code} {A : Nat → Prop} {D : va_G} {a z : Nat → Nat} {cI cL cB cZ : ClassId} {Q : State → Prop} {N : Nat} {res : Int32 × mq_St} (C : mq_C p s m args c A D cI cL cB cZ cX10_alter 3 RX10 zc_X10_alter) (hret : ∀ (H : Heap) (locs : List Loc) (ls : Array Slot) (pc : Nat), decode cX10_alter pc = .ok (.ireturn, 1) → narrow .boolean (.int res.1) = .int res.1 → va_P D vwCl (wd_C a cI cL cB cZ z res.2) H → va_D A (wd_C a cI cL cB cZ z res.2) → va_S A s.heap H locs → W p l e zr_X10_alter s m args below meth c H locs 0 0 Q (F0 m pc ls [.int res.1])) (v1 : Int32) (v2 : Int32) (S : mq_St) (H : Heap) (locs : List Loc) (ls : Array Slot) (h : zf_X10_alter N z v1 v2 S = some res) (hl : lv_has ls 3 [(0, .ref (a 0)), (1, .int (v1)), (2, .int (v2))]) (hP : va_P D vwCl (wd_C a cI cL cB cZ z S) H) (hD : va_D A (wd_C a cI cL cB cZ z S)) (hS : va_S A s.heap H locs) : W p l e zr_X10_alter s m args below meth c H locs 0 0 Q (F0 m 0 ls []) := by
  obtain ⟨hx, hb, hml, hown, hts, hK, hA⟩ := id C
  unfold zf_X10_alter at h
  refine lv_aload_n hx hb dX10_alter_0 rfl (lv_at hl 0 rfl) ?_
  refine va_get (D := D) (ci := 10) (v := .ref (a 3)) (C := RX10) (T := TX10) (N := 12) hx hb hts (zi_X10 _) hown hK hP 0 rfl rfl 0 (by decide) (hts _ (List.mem_cons_of_mem _ zt_f_X10_10)) (fun _ h9 => h9) rfl dX10_alter_1 ?_
  refine lv_iload_n hx hb dX10_alter_4 rfl (lv_at hl 1 rfl) ?_
  refine lv_iload_n hx hb dX10_alter_5 rfl (lv_at hl 2 rfl) ?_
  obtain ⟨q1, hc2, h⟩ := mq_cl_go h
  refine zv_X0_put (a := mq_ad a [3, 4]) (z := z) [3, 4] C zt_m_X10_112 ⟨by decide, by decide⟩ hc2 rfl (by decide) (ws' := (wd_C a cI cL cB cZ z (mq_push S q1.2 [0] [2] []))) (zx_wd_C_wd_B_3_4 _ _ _ _ _ _ _ _) hP hD hS hl.1 (Nat.le_of_ble_eq_true rfl) dX10_alter_6 (fun H locs hP hD hS => ?_)
  obtain ⟨S3, eS3⟩ : ∃ y, y = mq_push S q1.2 [0] [2] [] := ⟨_, rfl⟩
  replace h := mq_nS_go eS3 h
  rw [← eS3] at hP hD
  have hz4 := mq_cz_in h
  replace h := mq_cz_go h
  cases h
  exact hret H locs ls 9 dX10_alter_9 hz4.1 hP hD hS
set_option maxHeartbeats 4000000 in
set_option maxRecDepth 100000 in
theorem zm_X10_alter (l : Launch) (D : va_G) (a z : Nat → Nat) (cI cL cB cZ : ClassId) (sz N : Nat) (v1 : Int32) (v2 : Int32) (S : mq_St) (res : Int32 × mq_St) (h : zf_X10_alter N z v1 v2 S = some res) : Met l yX10_alter (zc_X10_alter :: mq_T) zr_X10_alter (va_Pc [.ref (a 0), .int (v1), .int (v2)] (fun U => U.heap.size = sz ∧ va_P D vwCl (wd_C a cI cL cB cZ z S) U.heap ∧ va_K D vwCl (mq_tys cI cL cB cZ) U ∧ va_D (fun _ => True) (wd_C a cI cL cB cZ z S))) (va_Qi (fun (r : Int32) (u : mq_St) => r = res.1 ∧ u = res.2) (fun u t => va_P D vwCl (wd_C a cI cL cB cZ z u) t.heap ∧ va_K D vwCl (mq_tys cI cL cB cZ) t ∧ va_D (va_A (wd_C a cI cL cB cZ z S) sz) (wd_C a cI cL cB cZ z u)) (va_A (wd_C a cI cL cB cZ z S) sz)) 0 0 (va_A (wd_C a cI cL cB cZ z S) sz) := by
  refine Met.ofW (cc := cX10_alter) (maxL := 3) (ret := (some .boolean)) (by decide) rfl ?_
  intro p e s m args below meth c s₁ B hml hv
  obtain ⟨rfl, hsz, hP, hK, hD0⟩ := hv
  have hr := B.returns
  have hlocks := B.notSynchronized
  have hts := atoms_spec (ws := zc_X10_alter :: mq_T) B.pre
  have hown : s.vm.findClass RX10 = some m.cls := findClass_of_methodNamed B.named
  subst hsz
  have hD := hD0.self (sz := s.heap.size)
  generalize hAe : va_A (wd_C a cI cL cB cZ z S) s.heap.size = A at hD ⊢
  have hA : ∀ q : Nat, s.heap.size ≤ q → A q := fun q h => by rw [← hAe]; exact Or.inr h
  have hl := lv_entry ([.ref (a 0), .int (v1), .int (v2)]) (n := 3) (Nat.le_of_ble_eq_true rfl)
  rw [lg_entry_eq]
  generalize (lg_sl ([.ref (a 0), .int (v1), .int (v2)]) ++ List.replicate (3 - (lg_sl ([.ref (a 0), .int (v1), .int (v2)])).length) Slot.unset).toArray = ls at hl ⊢
  have hl : lv_has ls 3 [(0, .ref (a 0)), (1, .int (v1)), (2, .int (v2))] := hl
  refine zw_X10_alter_0 (A := A) ⟨B.exec, B.bytes, hml, hown, hts, hK, hA⟩ (fun H locs ls pc dg hz hP hD hS => ?_) v1 v2 S s.heap [] ls h hl hP hD va_S.rf
  exact W.zret B.exec B.bytes hr hz (fun t ht hW => ⟨⟨_, _, rfl, ⟨rfl, rfl⟩, by rw [ht]; exact hP, va_K.moved hW.alike hK, hD⟩, hS.F ht⟩) hS.2.2 dg
theorem zt_X10_alter_c : zc_X10_alter ∈ mq_T := mq_T_mem (mq_t2 (List.mem_of_getElem? (i := 179) rfl)) rfl
theorem zt_X10_alter_i : Cond.instanceMethod yX10_alter ∈ mq_T := mq_T_mem (mq_t2 (List.mem_of_getElem? (i := 177) rfl)) rfl
theorem zt_X10_alter_s : Cond.selects RX10 yX10_alter yX10_alter ∈ mq_T := mq_T_mem (mq_t2 (List.mem_of_getElem? (i := 178) rfl)) rfl
theorem zt_ini_X10 : Cond.initialized RX10 ∈ mq_T := mq_T_mem (mq_t1 (List.mem_of_getElem? (i := 1) rfl)) rfl
theorem zt_f_X10_65 : Cond.fieldLink RX10 65 "ModalDesk" "tableau" "LModalDesk$Tableau;" ∈ mq_T := mq_T_mem (mq_t2 (List.mem_of_getElem? (i := 109) rfl)) rfl
theorem zt_m_X10_184 : Cond.methodLink RX10 184 yX8_countOf ∈ mq_T := mq_T_mem (mq_t4 (List.mem_of_getElem? (i := 172) rfl)) rfl
/-! ModalDesk.count(I)I -/
def zr_X10_count : Room := { frames := 1, cells := 0, slots := 0, locals := 21 }
def zc_X10_count : Cond := .code yX10_count cX10_count 2 (some .int)
def zf_X10_count (N : Nat) (z : Nat → Nat) (v1 : Int32) (S : mq_St) : Option (Int32) := (mq_cp (zf_X8_countOf N z (v1) S) (fun q1 => (some (q1))))
set_option maxHeartbeats 4000000 in
set_option maxRecDepth 100000 in
theorem zw_X10_count_0 {p : Program} {l : Launch} {e : Env} {s : State} {m : MethodId} {args : Array Value} {below : List Frame} {meth : Method} {c : Code} {A : Nat → Prop} {D : va_G} {a z : Nat → Nat} {cI cL cB cZ : ClassId} {Q : State → Prop} {N : Nat} {S : mq_St} {res : Int32} (C : mq_C p s m args c A D cI cL cB cZ cX10_count 2 RX10 zc_X10_count) (hret : ∀ (H : Heap) (locs : List Loc) (ls : Array Slot) (pc : Nat), decode cX10_count pc = .ok (.ireturn, 1) → va_P D vwCl (wd_C a cI cL cB cZ z S) H → va_D A (wd_C a cI cL cB cZ z S) → va_S A s.heap H locs → W p l e zr_X10_count s m args below meth c H locs 0 0 Q (F0 m pc ls [.int res])) (v1 : Int32) (H : Heap) (locs : List Loc) (ls : Array Slot) (h : zf_X10_count N z v1 S = some res) (hl : lv_has ls 2 [(0, .ref (a 0)), (1, .int (v1))]) (hP : va_P D vwCl (wd_C a cI cL cB cZ z S) H) (hD : va_D A (wd_C a cI cL cB cZ z S)) (hS : va_S A s.heap H locs) : W p l e zr_X10_count s m args below meth c H locs 0 0 Q (F0 m 0 ls []) := by
  obtain ⟨hx, hb, hml, hown, hts, hK, hA⟩ := id C
  unfold zf_X10_count at h
  refine lv_aload_n hx hb dX10_count_0 rfl (lv_at hl 0 rfl) ?_
  refine va_get (D := D) (ci := 10) (v := .ref (a 25)) (C := RX10) (T := TX10) (N := 12) hx hb hts (zi_X10 _) hown hK hP 0 rfl rfl 6 (by decide) (hts _ (List.mem_cons_of_mem _ zt_f_X10_65)) (fun _ h9 => h9) rfl dX10_count_1 ?_
  refine lv_iload_n hx hb dX10_count_4 rfl (lv_at hl 1 rfl) ?_
  obtain ⟨q1, hc2, h⟩ := mq_cp_go h
  refine zk_X8_countOf C zt_m_X10_184 ⟨by decide, by decide⟩ hc2 hP hD hS hl.1 (Nat.le_of_ble_eq_true rfl) dX10_count_5 (fun H locs hP hD hS => ?_)
  cases h
  exact hret H locs ls 8 dX10_count_8 hP hD hS
set_option maxHeartbeats 4000000 in
set_option maxRecDepth 100000 in
theorem zm_X10_count (l : Launch) (D : va_G) (a z : Nat → Nat) (cI cL cB cZ : ClassId) (sz N : Nat) (v1 : Int32) (S : mq_St) (res : Int32) (h : zf_X10_count N z v1 S = some res) : Met l yX10_count (zc_X10_count :: mq_T) zr_X10_count (va_Pc [.ref (a 0), .int (v1)] (fun U => U.heap.size = sz ∧ va_P D vwCl (wd_C a cI cL cB cZ z S) U.heap ∧ va_K D vwCl (mq_tys cI cL cB cZ) U ∧ va_D (fun _ => True) (wd_C a cI cL cB cZ z S))) (va_Qi (fun (r : Int32) (u : mq_St) => r = res ∧ u = S) (fun u t => va_P D vwCl (wd_C a cI cL cB cZ z u) t.heap ∧ va_K D vwCl (mq_tys cI cL cB cZ) t ∧ va_D (va_A (wd_C a cI cL cB cZ z S) sz) (wd_C a cI cL cB cZ z u)) (va_A (wd_C a cI cL cB cZ z S) sz)) 0 0 (va_A (wd_C a cI cL cB cZ z S) sz) := by
  refine Met.ofW (cc := cX10_count) (maxL := 2) (ret := (some .int)) (by decide) rfl ?_
  intro p e s m args below meth c s₁ B hml hv
  obtain ⟨rfl, hsz, hP, hK, hD0⟩ := hv
  have hr := B.returns
  have hlocks := B.notSynchronized
  have hts := atoms_spec (ws := zc_X10_count :: mq_T) B.pre
  have hown : s.vm.findClass RX10 = some m.cls := findClass_of_methodNamed B.named
  subst hsz
  have hD := hD0.self (sz := s.heap.size)
  generalize hAe : va_A (wd_C a cI cL cB cZ z S) s.heap.size = A at hD ⊢
  have hA : ∀ q : Nat, s.heap.size ≤ q → A q := fun q h => by rw [← hAe]; exact Or.inr h
  have hl := lv_entry ([.ref (a 0), .int (v1)]) (n := 2) (Nat.le_of_ble_eq_true rfl)
  rw [lg_entry_eq]
  generalize (lg_sl ([.ref (a 0), .int (v1)]) ++ List.replicate (2 - (lg_sl ([.ref (a 0), .int (v1)])).length) Slot.unset).toArray = ls at hl ⊢
  have hl : lv_has ls 2 [(0, .ref (a 0)), (1, .int (v1))] := hl
  refine zw_X10_count_0 (A := A) ⟨B.exec, B.bytes, hml, hown, hts, hK, hA⟩ (fun H locs ls pc dg hP hD hS => ?_) v1 s.heap [] ls h hl hP hD va_S.rf
  exact W.iret B.exec B.bytes hr (fun t ht hW => ⟨⟨_, _, rfl, ⟨rfl, rfl⟩, by rw [ht]; exact hP, va_K.moved hW.alike hK, hD⟩, hS.F ht⟩) hS.2.2 dg
theorem zt_X10_count_c : zc_X10_count ∈ mq_T := mq_T_mem (mq_t4 (List.mem_of_getElem? (i := 171) rfl)) rfl
theorem zt_X10_count_i : Cond.instanceMethod yX10_count ∈ mq_T := mq_T_mem (mq_t4 (List.mem_of_getElem? (i := 169) rfl)) rfl
theorem zt_X10_count_s : Cond.selects RX10 yX10_count yX10_count ∈ mq_T := mq_T_mem (mq_t4 (List.mem_of_getElem? (i := 170) rfl)) rfl
theorem zt_m_X10_104 : Cond.methodLink RX10 104 yX0_keep ∈ mq_T := mq_T_mem (mq_t2 (List.mem_of_getElem? (i := 164) rfl)) rfl
/-! ModalDesk.end(I)I -/
def zr_X10_end : Room := { frames := 1, cells := 0, slots := 0, locals := 21 }
def zc_X10_end : Cond := .code yX10_end cX10_end 2 (some .int)
def zf_X10_end (N : Nat) (z : Nat → Nat) (v1 : Int32) (S : mq_St) : Option (Int32 × mq_St) := (mq_cl (zf_X0_keep N z (v1) (mq_pull S [0] [2] [])) (fun q1v q1s => mq_nS (mq_push S q1s [0] [2] []) (fun S3 => (if q1v = (0 : Int32) then (some ((-1 : Int32), S3)) else (some (v1, S3))))))
set_option maxHeartbeats 4000000 in
set_option maxRecDepth 100000 in
theorem zw_X10_end_0 {p : Program} {l : Launch} {e : Env} {s : State} {m : MethodId} {args : Array Value} {below : List Frame} {meth : Method} {c : Code} {A : Nat → Prop} {D : va_G} {a z : Nat → Nat} {cI cL cB cZ : ClassId} {Q : State → Prop} {N : Nat} {res : Int32 × mq_St} (C : mq_C p s m args c A D cI cL cB cZ cX10_end 2 RX10 zc_X10_end) (hret : ∀ (H : Heap) (locs : List Loc) (ls : Array Slot) (pc : Nat), decode cX10_end pc = .ok (.ireturn, 1) → va_P D vwCl (wd_C a cI cL cB cZ z res.2) H → va_D A (wd_C a cI cL cB cZ z res.2) → va_S A s.heap H locs → W p l e zr_X10_end s m args below meth c H locs 0 0 Q (F0 m pc ls [.int res.1])) (v1 : Int32) (S : mq_St) (H : Heap) (locs : List Loc) (ls : Array Slot) (h : zf_X10_end N z v1 S = some res) (hl : lv_has ls 2 [(0, .ref (a 0)), (1, .int (v1))]) (hP : va_P D vwCl (wd_C a cI cL cB cZ z S) H) (hD : va_D A (wd_C a cI cL cB cZ z S)) (hS : va_S A s.heap H locs) : W p l e zr_X10_end s m args below meth c H locs 0 0 Q (F0 m 0 ls []) := by
  obtain ⟨hx, hb, hml, hown, hts, hK, hA⟩ := id C
  unfold zf_X10_end at h
  refine lv_aload_n hx hb dX10_end_0 rfl (lv_at hl 0 rfl) ?_
  refine va_get (D := D) (ci := 10) (v := .ref (a 3)) (C := RX10) (T := TX10) (N := 12) hx hb hts (zi_X10 _) hown hK hP 0 rfl rfl 0 (by decide) (hts _ (List.mem_cons_of_mem _ zt_f_X10_10)) (fun _ h9 => h9) rfl dX10_end_1 ?_
  refine lv_iload_n hx hb dX10_end_4 rfl (lv_at hl 1 rfl) ?_
  obtain ⟨q1, hc2, h⟩ := mq_cl_go h
  refine zv_X0_keep (a := mq_ad a [3, 4]) (z := z) [3, 4] C zt_m_X10_104 ⟨by decide, by decide⟩ hc2 rfl (by decide) (ws' := (wd_C a cI cL cB cZ z (mq_push S q1.2 [0] [2] []))) (zx_wd_C_wd_B_3_4 _ _ _ _ _ _ _ _) hP hD hS hl.1 (Nat.le_of_ble_eq_true rfl) dX10_end_5 (fun H locs hP hD hS => ?_)
  obtain ⟨S3, eS3⟩ : ∃ y, y = mq_push S q1.2 [0] [2] [] := ⟨_, rfl⟩
  replace h := mq_nS_go eS3 h
  rw [← eS3] at hP hD
  refine lv_if_eq (tgt := 15) hx hb dX10_end_8 (by decide) (fun c4 => ?_) (fun c4 => ?_)
  · replace h := mq_it c4 h
    refine lv_iconst (v := (-1 : Int32)) hx hb dX10_end_15 (by decide) ?_
    cases h
    exact hret H locs ls 16 dX10_end_16 hP hD hS
  · replace h := mq_if c4 h
    refine lv_iload_n hx hb dX10_end_11 rfl (lv_at hl 1 rfl) ?_
    refine lv_goto (tgt := 16) hx hb dX10_end_12 (by decide) ?_
    cases h
    exact hret H locs ls 16 dX10_end_16 hP hD hS
set_option maxHeartbeats 4000000 in
set_option maxRecDepth 100000 in
theorem zm_X10_end (l : Launch) (D : va_G) (a z : Nat → Nat) (cI cL cB cZ : ClassId) (sz N : Nat) (v1 : Int32) (S : mq_St) (res : Int32 × mq_St) (h : zf_X10_end N z v1 S = some res) : Met l yX10_end (zc_X10_end :: mq_T) zr_X10_end (va_Pc [.ref (a 0), .int (v1)] (fun U => U.heap.size = sz ∧ va_P D vwCl (wd_C a cI cL cB cZ z S) U.heap ∧ va_K D vwCl (mq_tys cI cL cB cZ) U ∧ va_D (fun _ => True) (wd_C a cI cL cB cZ z S))) (va_Qi (fun (r : Int32) (u : mq_St) => r = res.1 ∧ u = res.2) (fun u t => va_P D vwCl (wd_C a cI cL cB cZ z u) t.heap ∧ va_K D vwCl (mq_tys cI cL cB cZ) t ∧ va_D (va_A (wd_C a cI cL cB cZ z S) sz) (wd_C a cI cL cB cZ z u)) (va_A (wd_C a cI cL cB cZ z S) sz)) 0 0 (va_A (wd_C a cI cL cB cZ z S) sz) := by
  refine Met.ofW (cc := cX10_end) (maxL := 2) (ret := (some .int)) (by decide) rfl ?_
  intro p e s m args below meth c s₁ B hml hv
  obtain ⟨rfl, hsz, hP, hK, hD0⟩ := hv
  have hr := B.returns
  have hlocks := B.notSynchronized
  have hts := atoms_spec (ws := zc_X10_end :: mq_T) B.pre
  have hown : s.vm.findClass RX10 = some m.cls := findClass_of_methodNamed B.named
  subst hsz
  have hD := hD0.self (sz := s.heap.size)
  generalize hAe : va_A (wd_C a cI cL cB cZ z S) s.heap.size = A at hD ⊢
  have hA : ∀ q : Nat, s.heap.size ≤ q → A q := fun q h => by rw [← hAe]; exact Or.inr h
  have hl := lv_entry ([.ref (a 0), .int (v1)]) (n := 2) (Nat.le_of_ble_eq_true rfl)
  rw [lg_entry_eq]
  generalize (lg_sl ([.ref (a 0), .int (v1)]) ++ List.replicate (2 - (lg_sl ([.ref (a 0), .int (v1)])).length) Slot.unset).toArray = ls at hl ⊢
  have hl : lv_has ls 2 [(0, .ref (a 0)), (1, .int (v1))] := hl
  refine zw_X10_end_0 (A := A) ⟨B.exec, B.bytes, hml, hown, hts, hK, hA⟩ (fun H locs ls pc dg hP hD hS => ?_) v1 S s.heap [] ls h hl hP hD va_S.rf
  exact W.iret B.exec B.bytes hr (fun t ht hW => ⟨⟨_, _, rfl, ⟨rfl, rfl⟩, by rw [ht]; exact hP, va_K.moved hW.alike hK, hD⟩, hS.F ht⟩) hS.2.2 dg
theorem zt_X10_end_c : zc_X10_end ∈ mq_T := mq_T_mem (mq_t2 (List.mem_of_getElem? (i := 163) rfl)) rfl
theorem zt_X10_end_i : Cond.instanceMethod yX10_end ∈ mq_T := mq_T_mem (mq_t2 (List.mem_of_getElem? (i := 161) rfl)) rfl
theorem zt_X10_end_s : Cond.selects RX10 yX10_end yX10_end ∈ mq_T := mq_T_mem (mq_t2 (List.mem_of_getElem? (i := 162) rfl)) rfl
theorem zt_f_X10_40 : Cond.fieldLink RX10 40 "ModalDesk" "reader" "LModalDesk$Reader;" ∈ mq_T := mq_T_mem (mq_t2 (List.mem_of_getElem? (i := 107) rfl)) rfl
theorem zt_m_X10_137 : Cond.methodLink RX10 137 yX5_placeOfFault ∈ mq_T := mq_T_mem (mq_t3 (List.mem_of_getElem? (i := 155) rfl)) rfl
theorem zt_m_X10_134 : Cond.methodLink RX10 134 yX5_faultFound ∈ mq_T := mq_T_mem (mq_t3 (List.mem_of_getElem? (i := 151) rfl)) rfl
/-! ModalDesk.fault(I)I -/
def zr_X10_fault : Room := { frames := 1, cells := 0, slots := 0, locals := 20 }
def zc_X10_fault : Cond := .code yX10_fault cX10_fault 2 (some .int)
def zf_X10_fault (N : Nat) (z : Nat → Nat) (v1 : Int32) (S : mq_St) : Option (Int32) := (if v1 = (0 : Int32) then (mq_cp (zf_X5_faultFound N z S) (fun q4 => (some (q4)))) else (if v1 = (1 : Int32) then (mq_cp (zf_X5_placeOfFault N z S) (fun q1 => (some (q1)))) else (some ((-1 : Int32)))))
set_option maxHeartbeats 4000000 in
set_option maxRecDepth 100000 in
theorem zw_X10_fault_0 {p : Program} {l : Launch} {e : Env} {s : State} {m : MethodId} {args : Array Value} {below : List Frame} {meth : Method} {c : Code} {A : Nat → Prop} {D : va_G} {a z : Nat → Nat} {cI cL cB cZ : ClassId} {Q : State → Prop} {N : Nat} {S : mq_St} {res : Int32} (C : mq_C p s m args c A D cI cL cB cZ cX10_fault 2 RX10 zc_X10_fault) (hret : ∀ (H : Heap) (locs : List Loc) (ls : Array Slot) (pc : Nat), decode cX10_fault pc = .ok (.ireturn, 1) → va_P D vwCl (wd_C a cI cL cB cZ z S) H → va_D A (wd_C a cI cL cB cZ z S) → va_S A s.heap H locs → W p l e zr_X10_fault s m args below meth c H locs 0 0 Q (F0 m pc ls [.int res])) (v1 : Int32) (H : Heap) (locs : List Loc) (ls : Array Slot) (h : zf_X10_fault N z v1 S = some res) (hl : lv_has ls 2 [(0, .ref (a 0)), (1, .int (v1))]) (hP : va_P D vwCl (wd_C a cI cL cB cZ z S) H) (hD : va_D A (wd_C a cI cL cB cZ z S)) (hS : va_S A s.heap H locs) : W p l e zr_X10_fault s m args below meth c H locs 0 0 Q (F0 m 0 ls []) := by
  obtain ⟨hx, hb, hml, hown, hts, hK, hA⟩ := id C
  unfold zf_X10_fault at h
  refine lv_iload_n hx hb dX10_fault_0 rfl (lv_at hl 1 rfl) ?_
  refine lv_if_ne (tgt := 12) hx hb dX10_fault_1 (by decide) (fun c6 => ?_) (fun c6 => ?_)
  · replace h := mq_if c6 h
    refine lv_iload_n hx hb dX10_fault_12 rfl (lv_at hl 1 rfl) ?_
    refine lv_iconst (v := (1 : Int32)) hx hb dX10_fault_13 (by decide) ?_
    refine lv_icmp_ne (tgt := 27) hx hb dX10_fault_14 (by decide) (fun c3 => ?_) (fun c3 => ?_)
    · replace h := mq_if c3 h
      refine lv_iconst (v := (-1 : Int32)) hx hb dX10_fault_27 (by decide) ?_
      cases h
      exact hret H locs ls 28 dX10_fault_28 hP hD hS
    · replace h := mq_it (by simpa using c3) h
      refine lv_aload_n hx hb dX10_fault_17 rfl (lv_at hl 0 rfl) ?_
      refine va_get (D := D) (ci := 10) (v := .ref (a 20)) (C := RX10) (T := TX10) (N := 12) hx hb hts (zi_X10 _) hown hK hP 0 rfl rfl 4 (by decide) (hts _ (List.mem_cons_of_mem _ zt_f_X10_40)) (fun _ h9 => h9) rfl dX10_fault_18 ?_
      obtain ⟨q1, hc2, h⟩ := mq_cp_go h
      refine zk_X5_placeOfFault C zt_m_X10_137 ⟨by decide, by decide⟩ hc2 hP hD hS hl.1 (Nat.le_of_ble_eq_true rfl) dX10_fault_21 (fun H locs hP hD hS => ?_)
      refine lv_goto (tgt := 28) hx hb dX10_fault_24 (by decide) ?_
      cases h
      exact hret H locs ls 28 dX10_fault_28 hP hD hS
  · replace h := mq_it (by simpa using c6) h
    refine lv_aload_n hx hb dX10_fault_4 rfl (lv_at hl 0 rfl) ?_
    refine va_get (D := D) (ci := 10) (v := .ref (a 20)) (C := RX10) (T := TX10) (N := 12) hx hb hts (zi_X10 _) hown hK hP 0 rfl rfl 4 (by decide) (hts _ (List.mem_cons_of_mem _ zt_f_X10_40)) (fun _ h9 => h9) rfl dX10_fault_5 ?_
    obtain ⟨q4, hc5, h⟩ := mq_cp_go h
    refine zk_X5_faultFound C zt_m_X10_134 ⟨by decide, by decide⟩ hc5 hP hD hS hl.1 (Nat.le_of_ble_eq_true rfl) dX10_fault_8 (fun H locs hP hD hS => ?_)
    cases h
    exact hret H locs ls 11 dX10_fault_11 hP hD hS
set_option maxHeartbeats 4000000 in
set_option maxRecDepth 100000 in
theorem zm_X10_fault (l : Launch) (D : va_G) (a z : Nat → Nat) (cI cL cB cZ : ClassId) (sz N : Nat) (v1 : Int32) (S : mq_St) (res : Int32) (h : zf_X10_fault N z v1 S = some res) : Met l yX10_fault (zc_X10_fault :: mq_T) zr_X10_fault (va_Pc [.ref (a 0), .int (v1)] (fun U => U.heap.size = sz ∧ va_P D vwCl (wd_C a cI cL cB cZ z S) U.heap ∧ va_K D vwCl (mq_tys cI cL cB cZ) U ∧ va_D (fun _ => True) (wd_C a cI cL cB cZ z S))) (va_Qi (fun (r : Int32) (u : mq_St) => r = res ∧ u = S) (fun u t => va_P D vwCl (wd_C a cI cL cB cZ z u) t.heap ∧ va_K D vwCl (mq_tys cI cL cB cZ) t ∧ va_D (va_A (wd_C a cI cL cB cZ z S) sz) (wd_C a cI cL cB cZ z u)) (va_A (wd_C a cI cL cB cZ z S) sz)) 0 0 (va_A (wd_C a cI cL cB cZ z S) sz) := by
  refine Met.ofW (cc := cX10_fault) (maxL := 2) (ret := (some .int)) (by decide) rfl ?_
  intro p e s m args below meth c s₁ B hml hv
  obtain ⟨rfl, hsz, hP, hK, hD0⟩ := hv
  have hr := B.returns
  have hlocks := B.notSynchronized
  have hts := atoms_spec (ws := zc_X10_fault :: mq_T) B.pre
  have hown : s.vm.findClass RX10 = some m.cls := findClass_of_methodNamed B.named
  subst hsz
  have hD := hD0.self (sz := s.heap.size)
  generalize hAe : va_A (wd_C a cI cL cB cZ z S) s.heap.size = A at hD ⊢
  have hA : ∀ q : Nat, s.heap.size ≤ q → A q := fun q h => by rw [← hAe]; exact Or.inr h
  have hl := lv_entry ([.ref (a 0), .int (v1)]) (n := 2) (Nat.le_of_ble_eq_true rfl)
  rw [lg_entry_eq]
  generalize (lg_sl ([.ref (a 0), .int (v1)]) ++ List.replicate (2 - (lg_sl ([.ref (a 0), .int (v1)])).length) Slot.unset).toArray = ls at hl ⊢
  have hl : lv_has ls 2 [(0, .ref (a 0)), (1, .int (v1))] := hl
  refine zw_X10_fault_0 (A := A) ⟨B.exec, B.bytes, hml, hown, hts, hK, hA⟩ (fun H locs ls pc dg hP hD hS => ?_) v1 s.heap [] ls h hl hP hD va_S.rf
  exact W.iret B.exec B.bytes hr (fun t ht hW => ⟨⟨_, _, rfl, ⟨rfl, rfl⟩, by rw [ht]; exact hP, va_K.moved hW.alike hK, hD⟩, hS.F ht⟩) hS.2.2 dg
theorem zt_X10_fault_c : zc_X10_fault ∈ mq_T := mq_T_mem (mq_t3 (List.mem_of_getElem? (i := 150) rfl)) rfl
theorem zt_X10_fault_i : Cond.instanceMethod yX10_fault ∈ mq_T := mq_T_mem (mq_t3 (List.mem_of_getElem? (i := 148) rfl)) rfl
theorem zt_X10_fault_s : Cond.selects RX10 yX10_fault yX10_fault ∈ mq_T := mq_T_mem (mq_t3 (List.mem_of_getElem? (i := 149) rfl)) rfl
theorem zt_m_X10_97 : Cond.methodLink RX10 97 yX0_size ∈ mq_T := mq_T_mem (mq_t2 (List.mem_of_getElem? (i := 144) rfl)) rfl
theorem zt_m_X10_101 : Cond.methodLink RX10 101 yX0_pushNumber ∈ mq_T := mq_T_mem (mq_t2 (List.mem_of_getElem? (i := 148) rfl)) rfl
/-! ModalDesk.feed(IIIII)I -/
def zr_X10_feed : Room := { frames := 3, cells := 0, slots := 0, locals := 65 }
def zc_X10_feed : Cond := .code yX10_feed cX10_feed 6 (some .int)
def zf_X10_feed (N : Nat) (z : Nat → Nat) (v1 : Int32) (v2 : Int32) (v3 : Int32) (v4 : Int32) (v5 : Int32) (S : mq_St) : Option (Int32 × mq_St) := (mq_cp (zf_X0_size N z (mq_pull S [0] [2] [])) (fun q1 => (if (q1 + (20 : Int32)) ≤ (4000 : Int32) then (mq_cl (zf_X0_pushNumber N z (v1) (mq_pull S [0] [2] [])) (fun q3v q3s => mq_nS (mq_push S q3s [0] [2] []) (fun S5 => (mq_cl (zf_X0_pushNumber N z (v2) (mq_pull S5 [0] [2] [])) (fun q6v q6s => mq_nS (mq_push S5 q6s [0] [2] []) (fun S8 => (mq_cl (zf_X0_pushNumber N z (v3) (mq_pull S8 [0] [2] [])) (fun q9v q9s => mq_nS (mq_push S8 q9s [0] [2] []) (fun S11 => (mq_cl (zf_X0_pushNumber N z (v4) (mq_pull S11 [0] [2] [])) (fun q12v q12s => mq_nS (mq_push S11 q12s [0] [2] []) (fun S14 => (mq_cl (zf_X0_pushNumber N z (v5) (mq_pull S14 [0] [2] [])) (fun q15v q15s => mq_nS (mq_push S14 q15s [0] [2] []) (fun S17 => (mq_cp (zf_X0_size N z (mq_pull S17 [0] [2] [])) (fun q18 => (some (q18, S17))))))))))))))))))) else (some ((-1 : Int32), S)))))
set_option maxHeartbeats 4000000 in
set_option maxRecDepth 100000 in
theorem zw_X10_feed_0 {p : Program} {l : Launch} {e : Env} {s : State} {m : MethodId} {args : Array Value} {below : List Frame} {meth : Method} {c : Code} {A : Nat → Prop} {D : va_G} {a z : Nat → Nat} {cI cL cB cZ : ClassId} {Q : State → Prop} {N : Nat} {res : Int32 × mq_St} (C : mq_C p s m args c A D cI cL cB cZ cX10_feed 6 RX10 zc_X10_feed) (hret : ∀ (H : Heap) (locs : List Loc) (ls : Array Slot) (pc : Nat), decode cX10_feed pc = .ok (.ireturn, 1) → va_P D vwCl (wd_C a cI cL cB cZ z res.2) H → va_D A (wd_C a cI cL cB cZ z res.2) → va_S A s.heap H locs → W p l e zr_X10_feed s m args below meth c H locs 0 0 Q (F0 m pc ls [.int res.1])) (v1 : Int32) (v2 : Int32) (v3 : Int32) (v4 : Int32) (v5 : Int32) (S : mq_St) (H : Heap) (locs : List Loc) (ls : Array Slot) (h : zf_X10_feed N z v1 v2 v3 v4 v5 S = some res) (hl : lv_has ls 6 [(0, .ref (a 0)), (1, .int (v1)), (2, .int (v2)), (3, .int (v3)), (4, .int (v4)), (5, .int (v5))]) (hP : va_P D vwCl (wd_C a cI cL cB cZ z S) H) (hD : va_D A (wd_C a cI cL cB cZ z S)) (hS : va_S A s.heap H locs) : W p l e zr_X10_feed s m args below meth c H locs 0 0 Q (F0 m 0 ls []) := by
  obtain ⟨hx, hb, hml, hown, hts, hK, hA⟩ := id C
  unfold zf_X10_feed at h
  refine lv_aload_n hx hb dX10_feed_0 rfl (lv_at hl 0 rfl) ?_
  refine va_get (D := D) (ci := 10) (v := .ref (a 3)) (C := RX10) (T := TX10) (N := 12) hx hb hts (zi_X10 _) hown hK hP 0 rfl rfl 0 (by decide) (hts _ (List.mem_cons_of_mem _ zt_f_X10_10)) (fun _ h9 => h9) rfl dX10_feed_1 ?_
  obtain ⟨q1, hc2, h⟩ := mq_cp_go h
  refine zv_X0_size (a := mq_ad a [3, 4]) (z := z) [3, 4] C zt_m_X10_97 ⟨by decide, by decide⟩ hc2 rfl (by decide) hP hD hS hl.1 (Nat.le_of_ble_eq_true rfl) dX10_feed_4 (fun H locs hP hD hS => ?_)
  refine lv_bipush (v := (20 : Int32)) hx hb dX10_feed_7 (by decide) ?_
  refine lv_iadd hx hb dX10_feed_9 ?_
  refine lv_sipush (v := (4000 : Int32)) hx hb dX10_feed_10 (by decide) ?_
  refine lv_icmp_le (tgt := 18) hx hb dX10_feed_13 (by decide) (fun c20 => ?_) (fun c20 => ?_)
  · replace h := mq_it c20 h
    refine lv_aload_n hx hb dX10_feed_18 rfl (lv_at hl 0 rfl) ?_
    refine va_get (D := D) (ci := 10) (v := .ref (a 3)) (C := RX10) (T := TX10) (N := 12) hx hb hts (zi_X10 _) hown hK hP 0 rfl rfl 0 (by decide) (hts _ (List.mem_cons_of_mem _ zt_f_X10_10)) (fun _ h9 => h9) rfl dX10_feed_19 ?_
    refine lv_iload_n hx hb dX10_feed_22 rfl (lv_at hl 1 rfl) ?_
    obtain ⟨q3, hc4, h⟩ := mq_cl_go h
    refine zv_X0_pushNumber (a := mq_ad a [3, 4]) (z := z) [3, 4] C zt_m_X10_101 ⟨by decide, by decide⟩ hc4 rfl (by decide) (ws' := (wd_C a cI cL cB cZ z (mq_push S q3.2 [0] [2] []))) (zx_wd_C_wd_B_3_4 _ _ _ _ _ _ _ _) hP hD hS hl.1 (Nat.le_of_ble_eq_true rfl) dX10_feed_23 (fun H locs hP hD hS => ?_)
    obtain ⟨S5, eS5⟩ : ∃ y, y = mq_push S q3.2 [0] [2] [] := ⟨_, rfl⟩
    replace h := mq_nS_go eS5 h
    rw [← eS5] at hP hD
    refine lv_aload_n hx hb dX10_feed_26 rfl (lv_at hl 0 rfl) ?_
    refine va_get (D := D) (ci := 10) (v := .ref (a 3)) (C := RX10) (T := TX10) (N := 12) hx hb hts (zi_X10 _) hown hK hP 0 rfl rfl 0 (by decide) (hts _ (List.mem_cons_of_mem _ zt_f_X10_10)) (fun _ h9 => h9) rfl dX10_feed_27 ?_
    refine lv_iload_n hx hb dX10_feed_30 rfl (lv_at hl 2 rfl) ?_
    obtain ⟨q6, hc7, h⟩ := mq_cl_go h
    refine zv_X0_pushNumber (a := mq_ad a [3, 4]) (z := z) [3, 4] C zt_m_X10_101 ⟨by decide, by decide⟩ hc7 rfl (by decide) (ws' := (wd_C a cI cL cB cZ z (mq_push S5 q6.2 [0] [2] []))) (zx_wd_C_wd_B_3_4 _ _ _ _ _ _ _ _) hP hD hS hl.1 (Nat.le_of_ble_eq_true rfl) dX10_feed_31 (fun H locs hP hD hS => ?_)
    obtain ⟨S8, eS8⟩ : ∃ y, y = mq_push S5 q6.2 [0] [2] [] := ⟨_, rfl⟩
    replace h := mq_nS_go eS8 h
    rw [← eS8] at hP hD
    refine lv_aload_n hx hb dX10_feed_34 rfl (lv_at hl 0 rfl) ?_
    refine va_get (D := D) (ci := 10) (v := .ref (a 3)) (C := RX10) (T := TX10) (N := 12) hx hb hts (zi_X10 _) hown hK hP 0 rfl rfl 0 (by decide) (hts _ (List.mem_cons_of_mem _ zt_f_X10_10)) (fun _ h9 => h9) rfl dX10_feed_35 ?_
    refine lv_iload_n hx hb dX10_feed_38 rfl (lv_at hl 3 rfl) ?_
    obtain ⟨q9, hc10, h⟩ := mq_cl_go h
    refine zv_X0_pushNumber (a := mq_ad a [3, 4]) (z := z) [3, 4] C zt_m_X10_101 ⟨by decide, by decide⟩ hc10 rfl (by decide) (ws' := (wd_C a cI cL cB cZ z (mq_push S8 q9.2 [0] [2] []))) (zx_wd_C_wd_B_3_4 _ _ _ _ _ _ _ _) hP hD hS hl.1 (Nat.le_of_ble_eq_true rfl) dX10_feed_39 (fun H locs hP hD hS => ?_)
    obtain ⟨S11, eS11⟩ : ∃ y, y = mq_push S8 q9.2 [0] [2] [] := ⟨_, rfl⟩
    replace h := mq_nS_go eS11 h
    rw [← eS11] at hP hD
    refine lv_aload_n hx hb dX10_feed_42 rfl (lv_at hl 0 rfl) ?_
    refine va_get (D := D) (ci := 10) (v := .ref (a 3)) (C := RX10) (T := TX10) (N := 12) hx hb hts (zi_X10 _) hown hK hP 0 rfl rfl 0 (by decide) (hts _ (List.mem_cons_of_mem _ zt_f_X10_10)) (fun _ h9 => h9) rfl dX10_feed_43 ?_
    refine lv_iload hx hb dX10_feed_46 (lv_at hl 4 rfl) ?_
    obtain ⟨q12, hc13, h⟩ := mq_cl_go h
    refine zv_X0_pushNumber (a := mq_ad a [3, 4]) (z := z) [3, 4] C zt_m_X10_101 ⟨by decide, by decide⟩ hc13 rfl (by decide) (ws' := (wd_C a cI cL cB cZ z (mq_push S11 q12.2 [0] [2] []))) (zx_wd_C_wd_B_3_4 _ _ _ _ _ _ _ _) hP hD hS hl.1 (Nat.le_of_ble_eq_true rfl) dX10_feed_48 (fun H locs hP hD hS => ?_)
    obtain ⟨S14, eS14⟩ : ∃ y, y = mq_push S11 q12.2 [0] [2] [] := ⟨_, rfl⟩
    replace h := mq_nS_go eS14 h
    rw [← eS14] at hP hD
    refine lv_aload_n hx hb dX10_feed_51 rfl (lv_at hl 0 rfl) ?_
    refine va_get (D := D) (ci := 10) (v := .ref (a 3)) (C := RX10) (T := TX10) (N := 12) hx hb hts (zi_X10 _) hown hK hP 0 rfl rfl 0 (by decide) (hts _ (List.mem_cons_of_mem _ zt_f_X10_10)) (fun _ h9 => h9) rfl dX10_feed_52 ?_
    refine lv_iload hx hb dX10_feed_55 (lv_at hl 5 rfl) ?_
    obtain ⟨q15, hc16, h⟩ := mq_cl_go h
    refine zv_X0_pushNumber (a := mq_ad a [3, 4]) (z := z) [3, 4] C zt_m_X10_101 ⟨by decide, by decide⟩ hc16 rfl (by decide) (ws' := (wd_C a cI cL cB cZ z (mq_push S14 q15.2 [0] [2] []))) (zx_wd_C_wd_B_3_4 _ _ _ _ _ _ _ _) hP hD hS hl.1 (Nat.le_of_ble_eq_true rfl) dX10_feed_57 (fun H locs hP hD hS => ?_)
    obtain ⟨S17, eS17⟩ : ∃ y, y = mq_push S14 q15.2 [0] [2] [] := ⟨_, rfl⟩
    replace h := mq_nS_go eS17 h
    rw [← eS17] at hP hD
    refine lv_aload_n hx hb dX10_feed_60 rfl (lv_at hl 0 rfl) ?_
    refine va_get (D := D) (ci := 10) (v := .ref (a 3)) (C := RX10) (T := TX10) (N := 12) hx hb hts (zi_X10 _) hown hK hP 0 rfl rfl 0 (by decide) (hts _ (List.mem_cons_of_mem _ zt_f_X10_10)) (fun _ h9 => h9) rfl dX10_feed_61 ?_
    obtain ⟨q18, hc19, h⟩ := mq_cp_go h
    refine zv_X0_size (a := mq_ad a [3, 4]) (z := z) [3, 4] C zt_m_X10_97 ⟨by decide, by decide⟩ hc19 rfl (by decide) hP hD hS hl.1 (Nat.le_of_ble_eq_true rfl) dX10_feed_64 (fun H locs hP hD hS => ?_)
    cases h
    exact hret H locs ls 67 dX10_feed_67 hP hD hS
  · replace h := mq_if c20 h
    refine lv_iconst (v := (-1 : Int32)) hx hb dX10_feed_16 (by decide) ?_
    cases h
    exact hret H locs ls 17 dX10_feed_17 hP hD hS
set_option maxHeartbeats 4000000 in
set_option maxRecDepth 100000 in
theorem zm_X10_feed (l : Launch) (D : va_G) (a z : Nat → Nat) (cI cL cB cZ : ClassId) (sz N : Nat) (v1 : Int32) (v2 : Int32) (v3 : Int32) (v4 : Int32) (v5 : Int32) (S : mq_St) (res : Int32 × mq_St) (h : zf_X10_feed N z v1 v2 v3 v4 v5 S = some res) : Met l yX10_feed (zc_X10_feed :: mq_T) zr_X10_feed (va_Pc [.ref (a 0), .int (v1), .int (v2), .int (v3), .int (v4), .int (v5)] (fun U => U.heap.size = sz ∧ va_P D vwCl (wd_C a cI cL cB cZ z S) U.heap ∧ va_K D vwCl (mq_tys cI cL cB cZ) U ∧ va_D (fun _ => True) (wd_C a cI cL cB cZ z S))) (va_Qi (fun (r : Int32) (u : mq_St) => r = res.1 ∧ u = res.2) (fun u t => va_P D vwCl (wd_C a cI cL cB cZ z u) t.heap ∧ va_K D vwCl (mq_tys cI cL cB cZ) t ∧ va_D (va_A (wd_C a cI cL cB cZ z S) sz) (wd_C a cI cL cB cZ z u)) (va_A (wd_C a cI cL cB cZ z S) sz)) 0 0 (va_A (wd_C a cI cL cB cZ z S) sz) := by
  refine Met.ofW (cc := cX10_feed) (maxL := 6) (ret := (some .int)) (by decide) rfl ?_
  intro p e s m args below meth c s₁ B hml hv
  obtain ⟨rfl, hsz, hP, hK, hD0⟩ := hv
  have hr := B.returns
  have hlocks := B.notSynchronized
  have hts := atoms_spec (ws := zc_X10_feed :: mq_T) B.pre
  have hown : s.vm.findClass RX10 = some m.cls := findClass_of_methodNamed B.named
  subst hsz
  have hD := hD0.self (sz := s.heap.size)
  generalize hAe : va_A (wd_C a cI cL cB cZ z S) s.heap.size = A at hD ⊢
  have hA : ∀ q : Nat, s.heap.size ≤ q → A q := fun q h => by rw [← hAe]; exact Or.inr h
  have hl := lv_entry ([.ref (a 0), .int (v1), .int (v2), .int (v3), .int (v4), .int (v5)]) (n := 6) (Nat.le_of_ble_eq_true rfl)
  rw [lg_entry_eq]
  generalize (lg_sl ([.ref (a 0), .int (v1), .int (v2), .int (v3), .int (v4), .int (v5)]) ++ List.replicate (6 - (lg_sl ([.ref (a 0), .int (v1), .int (v2), .int (v3), .int (v4), .int (v5)])).length) Slot.unset).toArray = ls at hl ⊢
  have hl : lv_has ls 6 [(0, .ref (a 0)), (1, .int (v1)), (2, .int (v2)), (3, .int (v3)), (4, .int (v4)), (5, .int (v5))] := hl
  refine zw_X10_feed_0 (A := A) ⟨B.exec, B.bytes, hml, hown, hts, hK, hA⟩ (fun H locs ls pc dg hP hD hS => ?_) v1 v2 v3 v4 v5 S s.heap [] ls h hl hP hD va_S.rf
  exact W.iret B.exec B.bytes hr (fun t ht hW => ⟨⟨_, _, rfl, ⟨rfl, rfl⟩, by rw [ht]; exact hP, va_K.moved hW.alike hK, hD⟩, hS.F ht⟩) hS.2.2 dg
theorem zt_X10_feed_c : zc_X10_feed ∈ mq_T := mq_T_mem (mq_t2 (List.mem_of_getElem? (i := 143) rfl)) rfl
theorem zt_X10_feed_i : Cond.instanceMethod yX10_feed ∈ mq_T := mq_T_mem (mq_t2 (List.mem_of_getElem? (i := 141) rfl)) rfl
theorem zt_X10_feed_s : Cond.selects RX10 yX10_feed yX10_feed ∈ mq_T := mq_T_mem (mq_t2 (List.mem_of_getElem? (i := 142) rfl)) rfl
theorem zt_f_X10_22 : Cond.fieldLink RX10 22 "ModalDesk" "stock" "LModalDesk$Stock;" ∈ mq_T := mq_T_mem (mq_t2 (List.mem_of_getElem? (i := 105) rfl)) rfl
theorem zt_m_X10_146 : Cond.methodLink RX10 146 yX7_size ∈ mq_T := mq_T_mem (mq_t3 (List.mem_of_getElem? (i := 82) rfl)) rfl
theorem zt_f_X10_31 : Cond.fieldLink RX10 31 "ModalDesk" "draft" "LModalDesk$Draft;" ∈ mq_T := mq_T_mem (mq_t2 (List.mem_of_getElem? (i := 106) rfl)) rfl
theorem zt_m_X10_229 : Cond.methodLink RX10 229 yX2_isOver ∈ mq_T := mq_T_mem (mq_t3 (List.mem_of_getElem? (i := 86) rfl)) rfl
theorem zt_m_X10_233 : Cond.methodLink RX10 233 yX2_build ∈ mq_T := mq_T_mem (mq_t3 (List.mem_of_getElem? (i := 90) rfl)) rfl
theorem zt_m_X10_236 : Cond.methodLink RX10 236 yX2_deny ∈ mq_T := mq_T_mem (mq_t3 (List.mem_of_getElem? (i := 131) rfl)) rfl
theorem zt_m_X10_242 : Cond.methodLink RX10 242 yX2_pairAll ∈ mq_T := mq_T_mem (mq_t3 (List.mem_of_getElem? (i := 141) rfl)) rfl
theorem zt_f_X10_90 : Cond.fieldLink RX10 90 "ModalDesk" "yesOf" "[I" ∈ mq_T := mq_T_mem (mq_t2 (List.mem_of_getElem? (i := 113) rfl)) rfl
theorem zs_wd_C_a_1_0 (a z : Nat → Nat) (cI cL cB cZ : ClassId) (S : mq_St) (f : Nat → Int32) : (wd_C a cI cL cB cZ z S).set 1 (a 1, .inl (cI, 8, .inl f)) = (wd_C a cI cL cB cZ z (mq_sa S 0 f)) := rfl
theorem zt_f_X10_94 : Cond.fieldLink RX10 94 "ModalDesk" "noOf" "[I" ∈ mq_T := mq_T_mem (mq_t2 (List.mem_of_getElem? (i := 114) rfl)) rfl
theorem zs_wd_C_a_2_1 (a z : Nat → Nat) (cI cL cB cZ : ClassId) (S : mq_St) (f : Nat → Int32) : (wd_C a cI cL cB cZ z S).set 2 (a 2, .inl (cI, 8, .inl f)) = (wd_C a cI cL cB cZ z (mq_sa S 1 f)) := rfl
theorem zt_m_X10_239 : Cond.methodLink RX10 239 yX7_dropTo ∈ mq_T := mq_T_mem (mq_t3 (List.mem_of_getElem? (i := 132) rfl)) rfl
/-! ModalDesk.fill(II)Z -/
def zr_X10_fill : Room := { frames := 6, cells := 0, slots := 0, locals := 140 }
def zc_X10_fill : Cond := .code yX10_fill cX10_fill 6 (some .boolean)
def zf_X10_fill_53 (N : Nat) (z : Nat → Nat) (v1 : Int32) (v3 : Int32) (v4 : Int32) (t0 : Int32) (S : mq_St) : Option (Int32 × mq_St) := (mq_nI (t0) (fun x17 => (if x17 = (-1 : Int32) then (mq_cl (zf_X7_dropTo N z (v3) S) (fun q26v S28 => (mq_cz ((0 : Int32)) (some ((0 : Int32), S28))))) else (mq_cl (zf_X2_pairAll N z S) (fun q18v S20 => (mq_ck (v1) 8 (mq_nS (mq_sa S20 0 (upd (S20.2.1 0) (v1).toNatClampNeg (v4))) (fun S22 => (mq_ck (v1) 8 (mq_nS (mq_sa S22 1 (upd (S22.2.1 1) (v1).toNatClampNeg (x17))) (fun S24 => (mq_cz ((1 : Int32)) (some ((1 : Int32), S24))))))))))))))
def zf_X10_fill_30 (N : Nat) (z : Nat → Nat) (v1 : Int32) (v2 : Int32) (v3 : Int32) (t0 : Int32) (S : mq_St) : Option (Int32 × mq_St) := (mq_nI (t0) (fun x10 => (if x10 = (-1 : Int32) then (zf_X10_fill_53 N z (v1) (v3) (x10) ((-1 : Int32)) S) else (mq_cp (zf_X2_deny N z (v2) (mq_pull S [] [] [])) (fun q11 => (mq_cl (zf_X2_build N z (q11) S) (fun q13v S15 => (zf_X10_fill_53 N z (v1) (v3) (x10) (q13v) S15))))))))
def zf_X10_fill (N : Nat) (z : Nat → Nat) (v1 : Int32) (v2 : Int32) (S : mq_St) : Option (Int32 × mq_St) := (mq_cp (zf_X7_size N z S) (fun q1 => (mq_nI (q1) (fun x3 => (mq_cp (zf_X2_isOver N z S) (fun q4 => (if q4 = (0 : Int32) then (mq_cl (zf_X2_build N z (v2) S) (fun q6v S8 => (zf_X10_fill_30 N z (v1) (v2) (x3) (q6v) S8))) else (zf_X10_fill_30 N z (v1) (v2) (x3) ((-1 : Int32)) S))))))))
set_option maxHeartbeats 4000000 in
set_option maxRecDepth 100000 in
theorem zw_X10_fill_53 {p : Program} {l : Launch} {e : Env} {s : State} {m : MethodId} {args : Array Value} {below : List Frame} {meth : Method} {c : Code} {A : Nat → Prop} {D : va_G} {a z : Nat → Nat} {cI cL cB cZ : ClassId} {Q : State → Prop} {N : Nat} {res : Int32 × mq_St} (C : mq_C p s m args c A D cI cL cB cZ cX10_fill 6 RX10 zc_X10_fill) (hret : ∀ (H : Heap) (locs : List Loc) (ls : Array Slot) (pc : Nat), decode cX10_fill pc = .ok (.ireturn, 1) → narrow .boolean (.int res.1) = .int res.1 → va_P D vwCl (wd_C a cI cL cB cZ z res.2) H → va_D A (wd_C a cI cL cB cZ z res.2) → va_S A s.heap H locs → W p l e zr_X10_fill s m args below meth c H locs 0 0 Q (F0 m pc ls [.int res.1])) (v1 : Int32) (v3 : Int32) (v4 : Int32) (t0 : Int32) (S : mq_St) (H : Heap) (locs : List Loc) (ls : Array Slot) (h : zf_X10_fill_53 N z v1 v3 v4 t0 S = some res) (hl : lv_has ls 6 [(0, .ref (a 0)), (1, .int (v1)), (3, .int (v3)), (4, .int (v4))]) (hP : va_P D vwCl (wd_C a cI cL cB cZ z S) H) (hD : va_D A (wd_C a cI cL cB cZ z S)) (hS : va_S A s.heap H locs) : W p l e zr_X10_fill s m args below meth c H locs 0 0 Q (F0 m 53 ls [.int (t0)]) := by
  obtain ⟨hx, hb, hml, hown, hts, hK, hA⟩ := id C
  unfold zf_X10_fill_53 at h
  refine lv_topi (fun x17 ex17 => ?_)
  replace h := mq_nI_go ex17 h
  refine lv_istore (lv' := [(5, .int (x17)), (0, .ref (a 0)), (1, .int (v1)), (3, .int (v3)), (4, .int (v4))]) hx hb dX10_fill_53 hl (by decide) rfl (fun ls hl => ?_)
  refine lv_iload hx hb dX10_fill_55 (lv_at hl 0 rfl) ?_
  refine lv_iconst (v := (-1 : Int32)) hx hb dX10_fill_57 (by decide) ?_
  refine lv_icmp_ne (tgt := 71) hx hb dX10_fill_58 (by decide) (fun c30 => ?_) (fun c30 => ?_)
  · replace h := mq_if c30 h
    refine lv_aload_n hx hb dX10_fill_71 rfl (lv_at hl 1 rfl) ?_
    refine va_get (D := D) (ci := 10) (v := .ref (a 14)) (C := RX10) (T := TX10) (N := 12) hx hb hts (zi_X10 _) hown hK hP 0 rfl rfl 3 (by decide) (hts _ (List.mem_cons_of_mem _ zt_f_X10_31)) (fun _ h9 => h9) rfl dX10_fill_72 ?_
    obtain ⟨q18, hc19, h⟩ := mq_cl_go h
    refine zk_X2_pairAll C zt_m_X10_242 ⟨by decide, by decide⟩ hc19 hP hD hS hl.1 (Nat.le_of_ble_eq_true rfl) dX10_fill_75 (fun H locs hP hD hS => ?_)
    obtain ⟨S20, eS20⟩ : ∃ y, y = q18.2 := ⟨_, rfl⟩
    rw [← eS20] at hP hD h
    refine lv_aload_n hx hb dX10_fill_78 rfl (lv_at hl 1 rfl) ?_
    refine va_get (D := D) (ci := 10) (v := .ref (a 1)) (C := RX10) (T := TX10) (N := 12) hx hb hts (zi_X10 _) hown hK hP 0 rfl rfl 10 (by decide) (hts _ (List.mem_cons_of_mem _ zt_f_X10_90)) (fun _ h9 => h9) rfl dX10_fill_79 ?_
    refine lv_iload_n hx hb dX10_fill_82 rfl (lv_at hl 2 rfl) ?_
    refine lv_iload hx hb dX10_fill_83 (lv_at hl 4 rfl) ?_
    have hi21 := mq_ck_in h
    replace h := mq_ck_go h
    refine mq_iast (w := wd_C a cI cL cB cZ z) (S := S20) (f := S20.2.1 0) hx hb hK hP hD hS 1 0 rfl rfl hi21 dX10_fill_85 0 (zs_wd_C_a_1_0 _ _ _ _ _ _ _ _) (fun S22 eS22 H locs hP hD hS => ?_)
    replace h := mq_nS_go eS22 h
    refine lv_aload_n hx hb dX10_fill_86 rfl (lv_at hl 1 rfl) ?_
    refine va_get (D := D) (ci := 10) (v := .ref (a 2)) (C := RX10) (T := TX10) (N := 12) hx hb hts (zi_X10 _) hown hK hP 0 rfl rfl 11 (by decide) (hts _ (List.mem_cons_of_mem _ zt_f_X10_94)) (fun _ h9 => h9) rfl dX10_fill_87 ?_
    refine lv_iload_n hx hb dX10_fill_90 rfl (lv_at hl 2 rfl) ?_
    refine lv_iload hx hb dX10_fill_91 (lv_at hl 0 rfl) ?_
    have hi23 := mq_ck_in h
    replace h := mq_ck_go h
    refine mq_iast (w := wd_C a cI cL cB cZ z) (S := S22) (f := S22.2.1 1) hx hb hK hP hD hS 2 0 rfl rfl hi23 dX10_fill_93 1 (zs_wd_C_a_2_1 _ _ _ _ _ _ _ _) (fun S24 eS24 H locs hP hD hS => ?_)
    replace h := mq_nS_go eS24 h
    refine lv_iconst (v := (1 : Int32)) hx hb dX10_fill_94 (by decide) ?_
    have hz25 := mq_cz_in h
    replace h := mq_cz_go h
    cases h
    exact hret H locs ls 95 dX10_fill_95 hz25.1 hP hD hS
  · replace h := mq_it (by simpa using c30) h
    refine lv_aload_n hx hb dX10_fill_61 rfl (lv_at hl 1 rfl) ?_
    refine va_get (D := D) (ci := 10) (v := .ref (a 7)) (C := RX10) (T := TX10) (N := 12) hx hb hts (zi_X10 _) hown hK hP 0 rfl rfl 2 (by decide) (hts _ (List.mem_cons_of_mem _ zt_f_X10_22)) (fun _ h9 => h9) rfl dX10_fill_62 ?_
    refine lv_iload_n hx hb dX10_fill_65 rfl (lv_at hl 3 rfl) ?_
    obtain ⟨q26, hc27, h⟩ := mq_cl_go h
    refine zk_X7_dropTo C zt_m_X10_239 ⟨by decide, by decide⟩ hc27 hP hD hS hl.1 (Nat.le_of_ble_eq_true rfl) dX10_fill_66 (fun H locs hP hD hS => ?_)
    obtain ⟨S28, eS28⟩ : ∃ y, y = q26.2 := ⟨_, rfl⟩
    rw [← eS28] at hP hD h
    refine lv_iconst (v := (0 : Int32)) hx hb dX10_fill_69 (by decide) ?_
    have hz29 := mq_cz_in h
    replace h := mq_cz_go h
    cases h
    exact hret H locs ls 70 dX10_fill_70 hz29.1 hP hD hS
set_option maxHeartbeats 4000000 in
set_option maxRecDepth 100000 in
theorem zw_X10_fill_30 {p : Program} {l : Launch} {e : Env} {s : State} {m : MethodId} {args : Array Value} {below : List Frame} {meth : Method} {c : Code} {A : Nat → Prop} {D : va_G} {a z : Nat → Nat} {cI cL cB cZ : ClassId} {Q : State → Prop} {N : Nat} {res : Int32 × mq_St} (C : mq_C p s m args c A D cI cL cB cZ cX10_fill 6 RX10 zc_X10_fill) (hret : ∀ (H : Heap) (locs : List Loc) (ls : Array Slot) (pc : Nat), decode cX10_fill pc = .ok (.ireturn, 1) → narrow .boolean (.int res.1) = .int res.1 → va_P D vwCl (wd_C a cI cL cB cZ z res.2) H → va_D A (wd_C a cI cL cB cZ z res.2) → va_S A s.heap H locs → W p l e zr_X10_fill s m args below meth c H locs 0 0 Q (F0 m pc ls [.int res.1])) (v1 : Int32) (v2 : Int32) (v3 : Int32) (t0 : Int32) (S : mq_St) (H : Heap) (locs : List Loc) (ls : Array Slot) (h : zf_X10_fill_30 N z v1 v2 v3 t0 S = some res) (hl : lv_has ls 6 [(0, .ref (a 0)), (1, .int (v1)), (2, .int (v2)), (3, .int (v3))]) (hP : va_P D vwCl (wd_C a cI cL cB cZ z S) H) (hD : va_D A (wd_C a cI cL cB cZ z S)) (hS : va_S A s.heap H locs) : W p l e zr_X10_fill s m args below meth c H locs 0 0 Q (F0 m 30 ls [.int (t0)]) := by
  obtain ⟨hx, hb, hml, hown, hts, hK, hA⟩ := id C
  unfold zf_X10_fill_30 at h
  refine lv_topi (fun x10 ex10 => ?_)
  replace h := mq_nI_go ex10 h
  refine lv_istore (lv' := [(4, .int (x10)), (0, .ref (a 0)), (1, .int (v1)), (2, .int (v2)), (3, .int (v3))]) hx hb dX10_fill_30 hl (by decide) rfl (fun ls hl => ?_)
  refine lv_iload hx hb dX10_fill_32 (lv_at hl 0 rfl) ?_
  refine lv_iconst (v := (-1 : Int32)) hx hb dX10_fill_34 (by decide) ?_
  refine lv_icmp_ne (tgt := 42) hx hb dX10_fill_35 (by decide) (fun c16 => ?_) (fun c16 => ?_)
  · replace h := mq_if c16 h
    refine lv_aload_n hx hb dX10_fill_42 rfl (lv_at hl 1 rfl) ?_
    refine va_get (D := D) (ci := 10) (v := .ref (a 14)) (C := RX10) (T := TX10) (N := 12) hx hb hts (zi_X10 _) hown hK hP 0 rfl rfl 3 (by decide) (hts _ (List.mem_cons_of_mem _ zt_f_X10_31)) (fun _ h9 => h9) rfl dX10_fill_43 ?_
    refine lv_iload_n hx hb dX10_fill_46 rfl (lv_at hl 3 rfl) ?_
    obtain ⟨q11, hc12, h⟩ := mq_cp_go h
    refine zv_X2_deny (a := mq_ad a []) (z := z) [] C zt_m_X10_236 ⟨by decide, by decide⟩ hc12 rfl (by decide) hP hD hS hl.1 (Nat.le_of_ble_eq_true rfl) dX10_fill_47 (fun H locs hP hD hS => ?_)
    obtain ⟨q13, hc14, h⟩ := mq_cl_go h
    refine zk_X2_build C zt_m_X10_233 ⟨by decide, by decide⟩ hc14 hP hD hS hl.1 (Nat.le_of_ble_eq_true rfl) dX10_fill_50 (fun H locs hP hD hS => ?_)
    obtain ⟨S15, eS15⟩ : ∃ y, y = q13.2 := ⟨_, rfl⟩
    rw [← eS15] at hP hD h
    exact zw_X10_fill_53 C hret (v1) (v3) (x10) (q13.1) S15 H locs ls h (lv_sub hl [1, 2, 4, 0] rfl) hP hD hS
  · replace h := mq_it (by simpa using c16) h
    refine lv_iconst (v := (-1 : Int32)) hx hb dX10_fill_38 (by decide) ?_
    refine lv_goto (tgt := 53) hx hb dX10_fill_39 (by decide) ?_
    exact zw_X10_fill_53 C hret (v1) (v3) (x10) ((-1 : Int32)) S H locs ls h (lv_sub hl [1, 2, 4, 0] rfl) hP hD hS
set_option maxHeartbeats 4000000 in
set_option maxRecDepth 100000 in
theorem zw_X10_fill_0 {p : Program} {l : Launch} {e : Env} {s : State} {m : MethodId} {args : Array Value} {below : List Frame} {meth : Method} {c : Code} {A : Nat → Prop} {D : va_G} {a z : Nat → Nat} {cI cL cB cZ : ClassId} {Q : State → Prop} {N : Nat} {res : Int32 × mq_St} (C : mq_C p s m args c A D cI cL cB cZ cX10_fill 6 RX10 zc_X10_fill) (hret : ∀ (H : Heap) (locs : List Loc) (ls : Array Slot) (pc : Nat), decode cX10_fill pc = .ok (.ireturn, 1) → narrow .boolean (.int res.1) = .int res.1 → va_P D vwCl (wd_C a cI cL cB cZ z res.2) H → va_D A (wd_C a cI cL cB cZ z res.2) → va_S A s.heap H locs → W p l e zr_X10_fill s m args below meth c H locs 0 0 Q (F0 m pc ls [.int res.1])) (v1 : Int32) (v2 : Int32) (S : mq_St) (H : Heap) (locs : List Loc) (ls : Array Slot) (h : zf_X10_fill N z v1 v2 S = some res) (hl : lv_has ls 6 [(0, .ref (a 0)), (1, .int (v1)), (2, .int (v2))]) (hP : va_P D vwCl (wd_C a cI cL cB cZ z S) H) (hD : va_D A (wd_C a cI cL cB cZ z S)) (hS : va_S A s.heap H locs) : W p l e zr_X10_fill s m args below meth c H locs 0 0 Q (F0 m 0 ls []) := by
  obtain ⟨hx, hb, hml, hown, hts, hK, hA⟩ := id C
  unfold zf_X10_fill at h
  refine lv_aload_n hx hb dX10_fill_0 rfl (lv_at hl 0 rfl) ?_
  refine va_get (D := D) (ci := 10) (v := .ref (a 7)) (C := RX10) (T := TX10) (N := 12) hx hb hts (zi_X10 _) hown hK hP 0 rfl rfl 2 (by decide) (hts _ (List.mem_cons_of_mem _ zt_f_X10_22)) (fun _ h9 => h9) rfl dX10_fill_1 ?_
  obtain ⟨q1, hc2, h⟩ := mq_cp_go h
  refine zk_X7_size C zt_m_X10_146 ⟨by decide, by decide⟩ hc2 hP hD hS hl.1 (Nat.le_of_ble_eq_true rfl) dX10_fill_4 (fun H locs hP hD hS => ?_)
  refine lv_topi (fun x3 ex3 => ?_)
  replace h := mq_nI_go ex3 h
  refine lv_istore_n (lv' := [(3, .int (x3)), (0, .ref (a 0)), (1, .int (v1)), (2, .int (v2))]) hx hb dX10_fill_7 rfl hl (by decide) rfl (fun ls hl => ?_)
  refine lv_aload_n hx hb dX10_fill_8 rfl (lv_at hl 1 rfl) ?_
  refine va_get (D := D) (ci := 10) (v := .ref (a 14)) (C := RX10) (T := TX10) (N := 12) hx hb hts (zi_X10 _) hown hK hP 0 rfl rfl 3 (by decide) (hts _ (List.mem_cons_of_mem _ zt_f_X10_31)) (fun _ h9 => h9) rfl dX10_fill_9 ?_
  obtain ⟨q4, hc5, h⟩ := mq_cp_go h
  refine zk_X2_isOver C zt_m_X10_229 ⟨by decide, by decide⟩ hc5 hP hD hS hl.1 (Nat.le_of_ble_eq_true rfl) dX10_fill_12 (fun H locs hP hD hS => ?_)
  refine lv_if_eq (tgt := 22) hx hb dX10_fill_15 (by decide) (fun c9 => ?_) (fun c9 => ?_)
  · replace h := mq_it c9 h
    refine lv_aload_n hx hb dX10_fill_22 rfl (lv_at hl 1 rfl) ?_
    refine va_get (D := D) (ci := 10) (v := .ref (a 14)) (C := RX10) (T := TX10) (N := 12) hx hb hts (zi_X10 _) hown hK hP 0 rfl rfl 3 (by decide) (hts _ (List.mem_cons_of_mem _ zt_f_X10_31)) (fun _ h9 => h9) rfl dX10_fill_23 ?_
    refine lv_iload_n hx hb dX10_fill_26 rfl (lv_at hl 3 rfl) ?_
    obtain ⟨q6, hc7, h⟩ := mq_cl_go h
    refine zk_X2_build C zt_m_X10_233 ⟨by decide, by decide⟩ hc7 hP hD hS hl.1 (Nat.le_of_ble_eq_true rfl) dX10_fill_27 (fun H locs hP hD hS => ?_)
    obtain ⟨S8, eS8⟩ : ∃ y, y = q6.2 := ⟨_, rfl⟩
    rw [← eS8] at hP hD h
    exact zw_X10_fill_30 C hret (v1) (v2) (x3) (q6.1) S8 H locs ls h (lv_sub hl [1, 2, 3, 0] rfl) hP hD hS
  · replace h := mq_if c9 h
    refine lv_iconst (v := (-1 : Int32)) hx hb dX10_fill_18 (by decide) ?_
    refine lv_goto (tgt := 30) hx hb dX10_fill_19 (by decide) ?_
    exact zw_X10_fill_30 C hret (v1) (v2) (x3) ((-1 : Int32)) S H locs ls h (lv_sub hl [1, 2, 3, 0] rfl) hP hD hS
set_option maxHeartbeats 4000000 in
set_option maxRecDepth 100000 in
theorem zm_X10_fill (l : Launch) (D : va_G) (a z : Nat → Nat) (cI cL cB cZ : ClassId) (sz N : Nat) (v1 : Int32) (v2 : Int32) (S : mq_St) (res : Int32 × mq_St) (h : zf_X10_fill N z v1 v2 S = some res) : Met l yX10_fill (zc_X10_fill :: mq_T) zr_X10_fill (va_Pc [.ref (a 0), .int (v1), .int (v2)] (fun U => U.heap.size = sz ∧ va_P D vwCl (wd_C a cI cL cB cZ z S) U.heap ∧ va_K D vwCl (mq_tys cI cL cB cZ) U ∧ va_D (fun _ => True) (wd_C a cI cL cB cZ z S))) (va_Qi (fun (r : Int32) (u : mq_St) => r = res.1 ∧ u = res.2) (fun u t => va_P D vwCl (wd_C a cI cL cB cZ z u) t.heap ∧ va_K D vwCl (mq_tys cI cL cB cZ) t ∧ va_D (va_A (wd_C a cI cL cB cZ z S) sz) (wd_C a cI cL cB cZ z u)) (va_A (wd_C a cI cL cB cZ z S) sz)) 0 0 (va_A (wd_C a cI cL cB cZ z S) sz) := by
  refine Met.ofW (cc := cX10_fill) (maxL := 6) (ret := (some .boolean)) (by decide) rfl ?_
  intro p e s m args below meth c s₁ B hml hv
  obtain ⟨rfl, hsz, hP, hK, hD0⟩ := hv
  have hr := B.returns
  have hlocks := B.notSynchronized
  have hts := atoms_spec (ws := zc_X10_fill :: mq_T) B.pre
  have hown : s.vm.findClass RX10 = some m.cls := findClass_of_methodNamed B.named
  subst hsz
  have hD := hD0.self (sz := s.heap.size)
  generalize hAe : va_A (wd_C a cI cL cB cZ z S) s.heap.size = A at hD ⊢
  have hA : ∀ q : Nat, s.heap.size ≤ q → A q := fun q h => by rw [← hAe]; exact Or.inr h
  have hl := lv_entry ([.ref (a 0), .int (v1), .int (v2)]) (n := 6) (Nat.le_of_ble_eq_true rfl)
  rw [lg_entry_eq]
  generalize (lg_sl ([.ref (a 0), .int (v1), .int (v2)]) ++ List.replicate (6 - (lg_sl ([.ref (a 0), .int (v1), .int (v2)])).length) Slot.unset).toArray = ls at hl ⊢
  have hl : lv_has ls 6 [(0, .ref (a 0)), (1, .int (v1)), (2, .int (v2))] := hl
  refine zw_X10_fill_0 (A := A) ⟨B.exec, B.bytes, hml, hown, hts, hK, hA⟩ (fun H locs ls pc dg hz hP hD hS => ?_) v1 v2 S s.heap [] ls h hl hP hD va_S.rf
  exact W.zret B.exec B.bytes hr hz (fun t ht hW => ⟨⟨_, _, rfl, ⟨rfl, rfl⟩, by rw [ht]; exact hP, va_K.moved hW.alike hK, hD⟩, hS.F ht⟩) hS.2.2 dg
theorem zt_X10_fill_c : zc_X10_fill ∈ mq_T := mq_T_mem (mq_t3 (List.mem_of_getElem? (i := 81) rfl)) rfl
theorem zt_X10_fill_i : Cond.instanceMethod yX10_fill ∈ mq_T := mq_T_mem (mq_t3 (List.mem_of_getElem? (i := 80) rfl)) rfl
theorem zt_X10_fill_s : Cond.selects RX10 yX10_fill yX10_fill ∈ mq_T := mq_T_at 19 (by decide +kernel)
set_option maxHeartbeats 4000000 in
theorem zk_X10_fill {p : Program} {l : Launch} {e : Env} {R : Room} {s : State} {m : MethodId} {args : Array Value} {below : List Frame} {meth : Method} {c : Code} {A : Nat → Prop} {D : va_G} {a z : Nat → Nat} {cI cL cB cZ : ClassId} {Q : State → Prop} {cc : ByteArray} {nL idx pc N : Nat} {own : String} {c1 : Cond} {H : Heap} {locs : List Loc} {ls : Array Slot} {rest : List Value} {S : mq_St} {res : Int32 × mq_St} {v1 : Int32} {v2 : Int32} (C : mq_C p s m args c A D cI cL cB cZ cc nL own c1) (hlk : Cond.methodLink own idx yX10_fill ∈ mq_T) (hR : zr_X10_fill.frames + 1 ≤ R.frames ∧ 8 + (6 + 11) + zr_X10_fill.locals ≤ R.locals) (h : zf_X10_fill N z v1 v2 S = some res) (hP : va_P D vwCl (wd_C a cI cL cB cZ z S) H) (hD : va_D A (wd_C a cI cL cB cZ z S)) (hS : va_S A s.heap H locs) (hls : ls.size = nL) (hrest : (rest.map fun v => v.category).sum ≤ 8) (hdg : decode cc pc = .ok (.invokevirtual idx, 3)) (kk : ∀ (H1 : Heap) (locs1 : List Loc), va_P D vwCl (wd_C a cI cL cB cZ z res.2) H1 → va_D A (wd_C a cI cL cB cZ z res.2) → va_S A s.heap H1 locs1 → W p l e R s m args below meth c H1 locs1 0 0 Q (F0 m (pc + 3) ls (.int res.1 :: rest))) : W p l e R s m args below meth c H locs 0 0 Q (F0 m pc ls (.int (v2) :: .int (v1) :: .ref (a 0) :: rest)) := by
  obtain ⟨hx, hb, hml, hown, hts, hK, hA⟩ := C
  have hFc := mq_freeI hD hS hA
  refine va_calli (va_runV (As := [.int (v1), .int (v2)]) (rest := rest) ⟨hx, hb, hml, hown, hts⟩ (zm_X10_fill l D a z cI cL cB cZ H.size N v1 v2 S res h) (cwV 2 hts (mq_goodL (mq_wsV hlk zt_X10_fill_i zt_X10_fill_s zt_ini_X10 zt_X10_fill_c)) rfl rfl rfl (by decide +kernel) hR) ⟨fun a U g mk q => ⟨q.1, q.2.1, q.2.2.1, va_K.moved (u := U) (U := U.calling g mk a) (Vm.Alike.refl U.vm) q.2.2.2.1, q.2.2.2.2⟩, zy_C_0 hK hP, fun U hU hW => ⟨rfl, by rw [hU], by rw [hU]; exact hP, va_K.moved hW.alike hK, hD.weaken (fun _ _ _ _ => trivial)⟩⟩ rfl rfl hls rfl (lv_room hrest) hdg ⟨Nat.zero_le _, Nat.zero_le _⟩) hS (fun q _ h => hFc q h) hFc (fun r u t H1 locs ht hvm hw hB hz1 hk1 hS => ?_)
  obtain ⟨rfl, rfl⟩ := hw
  obtain ⟨hP1, hK1, hD1⟩ := hB
  rw [ht] at hP1
  exact kk H1 locs hP1 (hD1.weaken (fun _ _ _ h => hFc _ h)) hS
theorem zt_f_X10_79 : Cond.fieldLink RX10 79 "ModalDesk" "model" "LModalDesk$Model;" ∈ mq_T := mq_T_mem (mq_t2 (List.mem_of_getElem? (i := 111) rfl)) rfl
theorem zt_m_X10_223 : Cond.methodLink RX10 223 yX4_foldUp ∈ mq_T := mq_T_mem (mq_t4 (List.mem_of_getElem? (i := 227) rfl)) rfl
theorem zt_m_X10_194 : Cond.methodLink RX10 194 yX4_size ∈ mq_T := mq_T_mem (mq_t4 (List.mem_of_getElem? (i := 219) rfl)) rfl
/-! ModalDesk.fold()I -/
def zr_X10_fold : Room := { frames := 3, cells := 0, slots := 0, locals := 71 }
def zc_X10_fold : Cond := .code yX10_fold cX10_fold 1 (some .int)
def zf_X10_fold (N : Nat) (z : Nat → Nat) (S : mq_St) : Option (Int32 × mq_St) := (mq_cl (zf_X4_foldUp N z S) (fun q1v S3 => (mq_cp (zf_X4_size N z S3) (fun q4 => (some (q4, S3))))))
set_option maxHeartbeats 4000000 in
set_option maxRecDepth 100000 in
theorem zw_X10_fold_0 {p : Program} {l : Launch} {e : Env} {s : State} {m : MethodId} {args : Array Value} {below : List Frame} {meth : Method} {c : Code} {A : Nat → Prop} {D : va_G} {a z : Nat → Nat} {cI cL cB cZ : ClassId} {Q : State → Prop} {N : Nat} {res : Int32 × mq_St} (C : mq_C p s m args c A D cI cL cB cZ cX10_fold 1 RX10 zc_X10_fold) (hret : ∀ (H : Heap) (locs : List Loc) (ls : Array Slot) (pc : Nat), decode cX10_fold pc = .ok (.ireturn, 1) → va_P D vwCl (wd_C a cI cL cB cZ z res.2) H → va_D A (wd_C a cI cL cB cZ z res.2) → va_S A s.heap H locs → W p l e zr_X10_fold s m args below meth c H locs 0 0 Q (F0 m pc ls [.int res.1])) (S : mq_St) (H : Heap) (locs : List Loc) (ls : Array Slot) (h : zf_X10_fold N z S = some res) (hl : lv_has ls 1 [(0, .ref (a 0))]) (hP : va_P D vwCl (wd_C a cI cL cB cZ z S) H) (hD : va_D A (wd_C a cI cL cB cZ z S)) (hS : va_S A s.heap H locs) : W p l e zr_X10_fold s m args below meth c H locs 0 0 Q (F0 m 0 ls []) := by
  obtain ⟨hx, hb, hml, hown, hts, hK, hA⟩ := id C
  unfold zf_X10_fold at h
  refine lv_aload_n hx hb dX10_fold_0 rfl (lv_at hl 0 rfl) ?_
  refine va_get (D := D) (ci := 10) (v := .ref (a 46)) (C := RX10) (T := TX10) (N := 12) hx hb hts (zi_X10 _) hown hK hP 0 rfl rfl 8 (by decide) (hts _ (List.mem_cons_of_mem _ zt_f_X10_79)) (fun _ h9 => h9) rfl dX10_fold_1 ?_
  obtain ⟨q1, hc2, h⟩ := mq_cl_go h
  refine zk_X4_foldUp C zt_m_X10_223 ⟨by decide, by decide⟩ hc2 hP hD hS hl.1 (Nat.le_of_ble_eq_true rfl) dX10_fold_4 (fun H locs hP hD hS => ?_)
  obtain ⟨S3, eS3⟩ : ∃ y, y = q1.2 := ⟨_, rfl⟩
  rw [← eS3] at hP hD h
  refine lv_aload_n hx hb dX10_fold_7 rfl (lv_at hl 0 rfl) ?_
  refine va_get (D := D) (ci := 10) (v := .ref (a 46)) (C := RX10) (T := TX10) (N := 12) hx hb hts (zi_X10 _) hown hK hP 0 rfl rfl 8 (by decide) (hts _ (List.mem_cons_of_mem _ zt_f_X10_79)) (fun _ h9 => h9) rfl dX10_fold_8 ?_
  obtain ⟨q4, hc5, h⟩ := mq_cp_go h
  refine zk_X4_size C zt_m_X10_194 ⟨by decide, by decide⟩ hc5 hP hD hS hl.1 (Nat.le_of_ble_eq_true rfl) dX10_fold_11 (fun H locs hP hD hS => ?_)
  cases h
  exact hret H locs ls 14 dX10_fold_14 hP hD hS
set_option maxHeartbeats 4000000 in
set_option maxRecDepth 100000 in
theorem zm_X10_fold (l : Launch) (D : va_G) (a z : Nat → Nat) (cI cL cB cZ : ClassId) (sz N : Nat) (S : mq_St) (res : Int32 × mq_St) (h : zf_X10_fold N z S = some res) : Met l yX10_fold (zc_X10_fold :: mq_T) zr_X10_fold (va_Pc [.ref (a 0)] (fun U => U.heap.size = sz ∧ va_P D vwCl (wd_C a cI cL cB cZ z S) U.heap ∧ va_K D vwCl (mq_tys cI cL cB cZ) U ∧ va_D (fun _ => True) (wd_C a cI cL cB cZ z S))) (va_Qi (fun (r : Int32) (u : mq_St) => r = res.1 ∧ u = res.2) (fun u t => va_P D vwCl (wd_C a cI cL cB cZ z u) t.heap ∧ va_K D vwCl (mq_tys cI cL cB cZ) t ∧ va_D (va_A (wd_C a cI cL cB cZ z S) sz) (wd_C a cI cL cB cZ z u)) (va_A (wd_C a cI cL cB cZ z S) sz)) 0 0 (va_A (wd_C a cI cL cB cZ z S) sz) := by
  refine Met.ofW (cc := cX10_fold) (maxL := 1) (ret := (some .int)) (by decide) rfl ?_
  intro p e s m args below meth c s₁ B hml hv
  obtain ⟨rfl, hsz, hP, hK, hD0⟩ := hv
  have hr := B.returns
  have hlocks := B.notSynchronized
  have hts := atoms_spec (ws := zc_X10_fold :: mq_T) B.pre
  have hown : s.vm.findClass RX10 = some m.cls := findClass_of_methodNamed B.named
  subst hsz
  have hD := hD0.self (sz := s.heap.size)
  generalize hAe : va_A (wd_C a cI cL cB cZ z S) s.heap.size = A at hD ⊢
  have hA : ∀ q : Nat, s.heap.size ≤ q → A q := fun q h => by rw [← hAe]; exact Or.inr h
  have hl := lv_entry ([.ref (a 0)]) (n := 1) (Nat.le_of_ble_eq_true rfl)
  rw [lg_entry_eq]
  generalize (lg_sl ([.ref (a 0)]) ++ List.replicate (1 - (lg_sl ([.ref (a 0)])).length) Slot.unset).toArray = ls at hl ⊢
  have hl : lv_has ls 1 [(0, .ref (a 0))] := hl
  refine zw_X10_fold_0 (A := A) ⟨B.exec, B.bytes, hml, hown, hts, hK, hA⟩ (fun H locs ls pc dg hP hD hS => ?_) S s.heap [] ls h hl hP hD va_S.rf
  exact W.iret B.exec B.bytes hr (fun t ht hW => ⟨⟨_, _, rfl, ⟨rfl, rfl⟩, by rw [ht]; exact hP, va_K.moved hW.alike hK, hD⟩, hS.F ht⟩) hS.2.2 dg
theorem zt_X10_fold_c : zc_X10_fold ∈ mq_T := mq_T_mem (mq_t4 (List.mem_of_getElem? (i := 226) rfl)) rfl
theorem zt_X10_fold_i : Cond.instanceMethod yX10_fold ∈ mq_T := mq_T_mem (mq_t4 (List.mem_of_getElem? (i := 224) rfl)) rfl
theorem zt_X10_fold_s : Cond.selects RX10 yX10_fold yX10_fold ∈ mq_T := mq_T_mem (mq_t4 (List.mem_of_getElem? (i := 225) rfl)) rfl
theorem zt_m_X10_153 : Cond.methodLink RX10 153 yX7_secondOf ∈ mq_T := mq_T_mem (mq_t3 (List.mem_of_getElem? (i := 188) rfl)) rfl
theorem zt_m_X10_150 : Cond.methodLink RX10 150 yX7_firstOf ∈ mq_T := mq_T_mem (mq_t3 (List.mem_of_getElem? (i := 184) rfl)) rfl
theorem zt_m_X10_147 : Cond.methodLink RX10 147 yX7_sortOf ∈ mq_T := mq_T_mem (mq_t3 (List.mem_of_getElem? (i := 180) rfl)) rfl
/-! ModalDesk.formula(II)I -/
def zr_X10_formula : Room := { frames := 2, cells := 0, slots := 0, locals := 42 }
def zc_X10_formula : Cond := .code yX10_formula cX10_formula 3 (some .int)
def zf_X10_formula (N : Nat) (z : Nat → Nat) (v1 : Int32) (v2 : Int32) (S : mq_St) : Option (Int32) := (if v2 = (0 : Int32) then (mq_cp (zf_X7_sortOf N z (v1) S) (fun q7 => (some (q7)))) else (if v2 = (1 : Int32) then (mq_cp (zf_X7_firstOf N z (v1) S) (fun q4 => (some (q4)))) else (if v2 = (2 : Int32) then (mq_cp (zf_X7_secondOf N z (v1) S) (fun q1 => (some (q1)))) else (some ((-1 : Int32))))))
set_option maxHeartbeats 4000000 in
set_option maxRecDepth 100000 in
theorem zw_X10_formula_0 {p : Program} {l : Launch} {e : Env} {s : State} {m : MethodId} {args : Array Value} {below : List Frame} {meth : Method} {c : Code} {A : Nat → Prop} {D : va_G} {a z : Nat → Nat} {cI cL cB cZ : ClassId} {Q : State → Prop} {N : Nat} {S : mq_St} {res : Int32} (C : mq_C p s m args c A D cI cL cB cZ cX10_formula 3 RX10 zc_X10_formula) (hret : ∀ (H : Heap) (locs : List Loc) (ls : Array Slot) (pc : Nat), decode cX10_formula pc = .ok (.ireturn, 1) → va_P D vwCl (wd_C a cI cL cB cZ z S) H → va_D A (wd_C a cI cL cB cZ z S) → va_S A s.heap H locs → W p l e zr_X10_formula s m args below meth c H locs 0 0 Q (F0 m pc ls [.int res])) (v1 : Int32) (v2 : Int32) (H : Heap) (locs : List Loc) (ls : Array Slot) (h : zf_X10_formula N z v1 v2 S = some res) (hl : lv_has ls 3 [(0, .ref (a 0)), (1, .int (v1)), (2, .int (v2))]) (hP : va_P D vwCl (wd_C a cI cL cB cZ z S) H) (hD : va_D A (wd_C a cI cL cB cZ z S)) (hS : va_S A s.heap H locs) : W p l e zr_X10_formula s m args below meth c H locs 0 0 Q (F0 m 0 ls []) := by
  obtain ⟨hx, hb, hml, hown, hts, hK, hA⟩ := id C
  unfold zf_X10_formula at h
  refine lv_iload_n hx hb dX10_formula_0 rfl (lv_at hl 2 rfl) ?_
  refine lv_if_ne (tgt := 13) hx hb dX10_formula_1 (by decide) (fun c9 => ?_) (fun c9 => ?_)
  · replace h := mq_if c9 h
    refine lv_iload_n hx hb dX10_formula_13 rfl (lv_at hl 2 rfl) ?_
    refine lv_iconst (v := (1 : Int32)) hx hb dX10_formula_14 (by decide) ?_
    refine lv_icmp_ne (tgt := 27) hx hb dX10_formula_15 (by decide) (fun c6 => ?_) (fun c6 => ?_)
    · replace h := mq_if c6 h
      refine lv_iload_n hx hb dX10_formula_27 rfl (lv_at hl 2 rfl) ?_
      refine lv_iconst (v := (2 : Int32)) hx hb dX10_formula_28 (by decide) ?_
      refine lv_icmp_ne (tgt := 43) hx hb dX10_formula_29 (by decide) (fun c3 => ?_) (fun c3 => ?_)
      · replace h := mq_if c3 h
        refine lv_iconst (v := (-1 : Int32)) hx hb dX10_formula_43 (by decide) ?_
        cases h
        exact hret H locs ls 44 dX10_formula_44 hP hD hS
      · replace h := mq_it (by simpa using c3) h
        refine lv_aload_n hx hb dX10_formula_32 rfl (lv_at hl 0 rfl) ?_
        refine va_get (D := D) (ci := 10) (v := .ref (a 7)) (C := RX10) (T := TX10) (N := 12) hx hb hts (zi_X10 _) hown hK hP 0 rfl rfl 2 (by decide) (hts _ (List.mem_cons_of_mem _ zt_f_X10_22)) (fun _ h9 => h9) rfl dX10_formula_33 ?_
        refine lv_iload_n hx hb dX10_formula_36 rfl (lv_at hl 1 rfl) ?_
        obtain ⟨q1, hc2, h⟩ := mq_cp_go h
        refine zk_X7_secondOf C zt_m_X10_153 ⟨by decide, by decide⟩ hc2 hP hD hS hl.1 (Nat.le_of_ble_eq_true rfl) dX10_formula_37 (fun H locs hP hD hS => ?_)
        refine lv_goto (tgt := 44) hx hb dX10_formula_40 (by decide) ?_
        cases h
        exact hret H locs ls 44 dX10_formula_44 hP hD hS
    · replace h := mq_it (by simpa using c6) h
      refine lv_aload_n hx hb dX10_formula_18 rfl (lv_at hl 0 rfl) ?_
      refine va_get (D := D) (ci := 10) (v := .ref (a 7)) (C := RX10) (T := TX10) (N := 12) hx hb hts (zi_X10 _) hown hK hP 0 rfl rfl 2 (by decide) (hts _ (List.mem_cons_of_mem _ zt_f_X10_22)) (fun _ h9 => h9) rfl dX10_formula_19 ?_
      refine lv_iload_n hx hb dX10_formula_22 rfl (lv_at hl 1 rfl) ?_
      obtain ⟨q4, hc5, h⟩ := mq_cp_go h
      refine zk_X7_firstOf C zt_m_X10_150 ⟨by decide, by decide⟩ hc5 hP hD hS hl.1 (Nat.le_of_ble_eq_true rfl) dX10_formula_23 (fun H locs hP hD hS => ?_)
      cases h
      exact hret H locs ls 26 dX10_formula_26 hP hD hS
  · replace h := mq_it (by simpa using c9) h
    refine lv_aload_n hx hb dX10_formula_4 rfl (lv_at hl 0 rfl) ?_
    refine va_get (D := D) (ci := 10) (v := .ref (a 7)) (C := RX10) (T := TX10) (N := 12) hx hb hts (zi_X10 _) hown hK hP 0 rfl rfl 2 (by decide) (hts _ (List.mem_cons_of_mem _ zt_f_X10_22)) (fun _ h9 => h9) rfl dX10_formula_5 ?_
    refine lv_iload_n hx hb dX10_formula_8 rfl (lv_at hl 1 rfl) ?_
    obtain ⟨q7, hc8, h⟩ := mq_cp_go h
    refine zk_X7_sortOf C zt_m_X10_147 ⟨by decide, by decide⟩ hc8 hP hD hS hl.1 (Nat.le_of_ble_eq_true rfl) dX10_formula_9 (fun H locs hP hD hS => ?_)
    cases h
    exact hret H locs ls 12 dX10_formula_12 hP hD hS
set_option maxHeartbeats 4000000 in
set_option maxRecDepth 100000 in
theorem zm_X10_formula (l : Launch) (D : va_G) (a z : Nat → Nat) (cI cL cB cZ : ClassId) (sz N : Nat) (v1 : Int32) (v2 : Int32) (S : mq_St) (res : Int32) (h : zf_X10_formula N z v1 v2 S = some res) : Met l yX10_formula (zc_X10_formula :: mq_T) zr_X10_formula (va_Pc [.ref (a 0), .int (v1), .int (v2)] (fun U => U.heap.size = sz ∧ va_P D vwCl (wd_C a cI cL cB cZ z S) U.heap ∧ va_K D vwCl (mq_tys cI cL cB cZ) U ∧ va_D (fun _ => True) (wd_C a cI cL cB cZ z S))) (va_Qi (fun (r : Int32) (u : mq_St) => r = res ∧ u = S) (fun u t => va_P D vwCl (wd_C a cI cL cB cZ z u) t.heap ∧ va_K D vwCl (mq_tys cI cL cB cZ) t ∧ va_D (va_A (wd_C a cI cL cB cZ z S) sz) (wd_C a cI cL cB cZ z u)) (va_A (wd_C a cI cL cB cZ z S) sz)) 0 0 (va_A (wd_C a cI cL cB cZ z S) sz) := by
  refine Met.ofW (cc := cX10_formula) (maxL := 3) (ret := (some .int)) (by decide) rfl ?_
  intro p e s m args below meth c s₁ B hml hv
  obtain ⟨rfl, hsz, hP, hK, hD0⟩ := hv
  have hr := B.returns
  have hlocks := B.notSynchronized
  have hts := atoms_spec (ws := zc_X10_formula :: mq_T) B.pre
  have hown : s.vm.findClass RX10 = some m.cls := findClass_of_methodNamed B.named
  subst hsz
  have hD := hD0.self (sz := s.heap.size)
  generalize hAe : va_A (wd_C a cI cL cB cZ z S) s.heap.size = A at hD ⊢
  have hA : ∀ q : Nat, s.heap.size ≤ q → A q := fun q h => by rw [← hAe]; exact Or.inr h
  have hl := lv_entry ([.ref (a 0), .int (v1), .int (v2)]) (n := 3) (Nat.le_of_ble_eq_true rfl)
  rw [lg_entry_eq]
  generalize (lg_sl ([.ref (a 0), .int (v1), .int (v2)]) ++ List.replicate (3 - (lg_sl ([.ref (a 0), .int (v1), .int (v2)])).length) Slot.unset).toArray = ls at hl ⊢
  have hl : lv_has ls 3 [(0, .ref (a 0)), (1, .int (v1)), (2, .int (v2))] := hl
  refine zw_X10_formula_0 (A := A) ⟨B.exec, B.bytes, hml, hown, hts, hK, hA⟩ (fun H locs ls pc dg hP hD hS => ?_) v1 v2 s.heap [] ls h hl hP hD va_S.rf
  exact W.iret B.exec B.bytes hr (fun t ht hW => ⟨⟨_, _, rfl, ⟨rfl, rfl⟩, by rw [ht]; exact hP, va_K.moved hW.alike hK, hD⟩, hS.F ht⟩) hS.2.2 dg
theorem zt_X10_formula_c : zc_X10_formula ∈ mq_T := mq_T_mem (mq_t3 (List.mem_of_getElem? (i := 179) rfl)) rfl
theorem zt_X10_formula_i : Cond.instanceMethod yX10_formula ∈ mq_T := mq_T_mem (mq_t3 (List.mem_of_getElem? (i := 177) rfl)) rfl
theorem zt_X10_formula_s : Cond.selects RX10 yX10_formula yX10_formula ∈ mq_T := mq_T_mem (mq_t3 (List.mem_of_getElem? (i := 178) rfl)) rfl
/-! ModalDesk.formulas()I -/
def zr_X10_formulas : Room := { frames := 1, cells := 0, slots := 0, locals := 20 }
def zc_X10_formulas : Cond := .code yX10_formulas cX10_formulas 1 (some .int)
def zf_X10_formulas (N : Nat) (z : Nat → Nat) (S : mq_St) : Option (Int32) := (mq_cp (zf_X7_size N z S) (fun q1 => (some (q1))))
set_option maxHeartbeats 4000000 in
set_option maxRecDepth 100000 in
theorem zw_X10_formulas_0 {p : Program} {l : Launch} {e : Env} {s : State} {m : MethodId} {args : Array Value} {below : List Frame} {meth : Method} {c : Code} {A : Nat → Prop} {D : va_G} {a z : Nat → Nat} {cI cL cB cZ : ClassId} {Q : State → Prop} {N : Nat} {S : mq_St} {res : Int32} (C : mq_C p s m args c A D cI cL cB cZ cX10_formulas 1 RX10 zc_X10_formulas) (hret : ∀ (H : Heap) (locs : List Loc) (ls : Array Slot) (pc : Nat), decode cX10_formulas pc = .ok (.ireturn, 1) → va_P D vwCl (wd_C a cI cL cB cZ z S) H → va_D A (wd_C a cI cL cB cZ z S) → va_S A s.heap H locs → W p l e zr_X10_formulas s m args below meth c H locs 0 0 Q (F0 m pc ls [.int res])) (H : Heap) (locs : List Loc) (ls : Array Slot) (h : zf_X10_formulas N z S = some res) (hl : lv_has ls 1 [(0, .ref (a 0))]) (hP : va_P D vwCl (wd_C a cI cL cB cZ z S) H) (hD : va_D A (wd_C a cI cL cB cZ z S)) (hS : va_S A s.heap H locs) : W p l e zr_X10_formulas s m args below meth c H locs 0 0 Q (F0 m 0 ls []) := by
  obtain ⟨hx, hb, hml, hown, hts, hK, hA⟩ := id C
  unfold zf_X10_formulas at h
  refine lv_aload_n hx hb dX10_formulas_0 rfl (lv_at hl 0 rfl) ?_
  refine va_get (D := D) (ci := 10) (v := .ref (a 7)) (C := RX10) (T := TX10) (N := 12) hx hb hts (zi_X10 _) hown hK hP 0 rfl rfl 2 (by decide) (hts _ (List.mem_cons_of_mem _ zt_f_X10_22)) (fun _ h9 => h9) rfl dX10_formulas_1 ?_
  obtain ⟨q1, hc2, h⟩ := mq_cp_go h
  refine zk_X7_size C zt_m_X10_146 ⟨by decide, by decide⟩ hc2 hP hD hS hl.1 (Nat.le_of_ble_eq_true rfl) dX10_formulas_4 (fun H locs hP hD hS => ?_)
  cases h
  exact hret H locs ls 7 dX10_formulas_7 hP hD hS
set_option maxHeartbeats 4000000 in
set_option maxRecDepth 100000 in
theorem zm_X10_formulas (l : Launch) (D : va_G) (a z : Nat → Nat) (cI cL cB cZ : ClassId) (sz N : Nat) (S : mq_St) (res : Int32) (h : zf_X10_formulas N z S = some res) : Met l yX10_formulas (zc_X10_formulas :: mq_T) zr_X10_formulas (va_Pc [.ref (a 0)] (fun U => U.heap.size = sz ∧ va_P D vwCl (wd_C a cI cL cB cZ z S) U.heap ∧ va_K D vwCl (mq_tys cI cL cB cZ) U ∧ va_D (fun _ => True) (wd_C a cI cL cB cZ z S))) (va_Qi (fun (r : Int32) (u : mq_St) => r = res ∧ u = S) (fun u t => va_P D vwCl (wd_C a cI cL cB cZ z u) t.heap ∧ va_K D vwCl (mq_tys cI cL cB cZ) t ∧ va_D (va_A (wd_C a cI cL cB cZ z S) sz) (wd_C a cI cL cB cZ z u)) (va_A (wd_C a cI cL cB cZ z S) sz)) 0 0 (va_A (wd_C a cI cL cB cZ z S) sz) := by
  refine Met.ofW (cc := cX10_formulas) (maxL := 1) (ret := (some .int)) (by decide) rfl ?_
  intro p e s m args below meth c s₁ B hml hv
  obtain ⟨rfl, hsz, hP, hK, hD0⟩ := hv
  have hr := B.returns
  have hlocks := B.notSynchronized
  have hts := atoms_spec (ws := zc_X10_formulas :: mq_T) B.pre
  have hown : s.vm.findClass RX10 = some m.cls := findClass_of_methodNamed B.named
  subst hsz
  have hD := hD0.self (sz := s.heap.size)
  generalize hAe : va_A (wd_C a cI cL cB cZ z S) s.heap.size = A at hD ⊢
  have hA : ∀ q : Nat, s.heap.size ≤ q → A q := fun q h => by rw [← hAe]; exact Or.inr h
  have hl := lv_entry ([.ref (a 0)]) (n := 1) (Nat.le_of_ble_eq_true rfl)
  rw [lg_entry_eq]
  generalize (lg_sl ([.ref (a 0)]) ++ List.replicate (1 - (lg_sl ([.ref (a 0)])).length) Slot.unset).toArray = ls at hl ⊢
  have hl : lv_has ls 1 [(0, .ref (a 0))] := hl
  refine zw_X10_formulas_0 (A := A) ⟨B.exec, B.bytes, hml, hown, hts, hK, hA⟩ (fun H locs ls pc dg hP hD hS => ?_) s.heap [] ls h hl hP hD va_S.rf
  exact W.iret B.exec B.bytes hr (fun t ht hW => ⟨⟨_, _, rfl, ⟨rfl, rfl⟩, by rw [ht]; exact hP, va_K.moved hW.alike hK, hD⟩, hS.F ht⟩) hS.2.2 dg
theorem zt_X10_formulas_c : zc_X10_formulas ∈ mq_T := mq_T_mem (mq_t3 (List.mem_of_getElem? (i := 175) rfl)) rfl
theorem zt_X10_formulas_i : Cond.instanceMethod yX10_formulas ∈ mq_T := mq_T_mem (mq_t3 (List.mem_of_getElem? (i := 173) rfl)) rfl
theorem zt_X10_formulas_s : Cond.selects RX10 yX10_formulas yX10_formulas ∈ mq_T := mq_T_mem (mq_t3 (List.mem_of_getElem? (i := 174) rfl)) rfl
/-! ModalDesk.isSlot(I)Z -/
def zr_X10_isSlot : Room := { frames := 0, cells := 0, slots := 0, locals := 0 }
def zc_X10_isSlot : Cond := .code yX10_isSlot cX10_isSlot 1 (some .boolean)
def zf_X10_isSlot (N : Nat) (z : Nat → Nat) (v0 : Int32) (S : mq_St) : Option (Int32) := (if v0 < (0 : Int32) then (mq_cz ((0 : Int32)) (some ((0 : Int32)))) else (if (8 : Int32) ≤ v0 then (mq_cz ((0 : Int32)) (some ((0 : Int32)))) else (mq_cz ((1 : Int32)) (some ((1 : Int32))))))
set_option maxHeartbeats 4000000 in
set_option maxRecDepth 100000 in
theorem zw_X10_isSlot_0 {p : Program} {l : Launch} {e : Env} {s : State} {m : MethodId} {args : Array Value} {below : List Frame} {meth : Method} {c : Code} {A : Nat → Prop} {D : va_G} {a z : Nat → Nat} {cI cL cB cZ : ClassId} {Q : State → Prop} {N : Nat} {S : mq_St} {res : Int32} (C : mq_C p s m args c A D cI cL cB cZ cX10_isSlot 1 RX10 zc_X10_isSlot) (hret : ∀ (H : Heap) (locs : List Loc) (ls : Array Slot) (pc : Nat), decode cX10_isSlot pc = .ok (.ireturn, 1) → narrow .boolean (.int res) = .int res → va_P D vwCl (wd_0 a cI cL cB cZ z S) H → va_D A (wd_0 a cI cL cB cZ z S) → va_S A s.heap H locs → W p l e zr_X10_isSlot s m args below meth c H locs 0 0 Q (F0 m pc ls [.int res])) (v0 : Int32) (H : Heap) (locs : List Loc) (ls : Array Slot) (h : zf_X10_isSlot N z v0 S = some res) (hl : lv_has ls 1 [(0, .int (v0))]) (hP : va_P D vwCl (wd_0 a cI cL cB cZ z S) H) (hD : va_D A (wd_0 a cI cL cB cZ z S)) (hS : va_S A s.heap H locs) : W p l e zr_X10_isSlot s m args below meth c H locs 0 0 Q (F0 m 0 ls []) := by
  obtain ⟨hx, hb, hml, hown, hts, hK, hA⟩ := id C
  unfold zf_X10_isSlot at h
  refine lv_iload_n hx hb dX10_isSlot_0 rfl (lv_at hl 0 rfl) ?_
  refine lv_if_lt (tgt := 14) hx hb dX10_isSlot_1 (by decide) (fun c5 => ?_) (fun c5 => ?_)
  · replace h := mq_it c5 h
    refine lv_iconst (v := (0 : Int32)) hx hb dX10_isSlot_14 (by decide) ?_
    have hz1 := mq_cz_in h
    replace h := mq_cz_go h
    cases h
    exact hret H locs ls 15 dX10_isSlot_15 hz1.1 hP hD hS
  · replace h := mq_if c5 h
    refine lv_iload_n hx hb dX10_isSlot_4 rfl (lv_at hl 0 rfl) ?_
    refine lv_bipush (v := (8 : Int32)) hx hb dX10_isSlot_5 (by decide) ?_
    refine lv_icmp_ge (tgt := 14) hx hb dX10_isSlot_7 (by decide) (fun c4 => ?_) (fun c4 => ?_)
    · replace h := mq_it c4 h
      refine lv_iconst (v := (0 : Int32)) hx hb dX10_isSlot_14 (by decide) ?_
      have hz2 := mq_cz_in h
      replace h := mq_cz_go h
      cases h
      exact hret H locs ls 15 dX10_isSlot_15 hz2.1 hP hD hS
    · replace h := mq_if c4 h
      refine lv_iconst (v := (1 : Int32)) hx hb dX10_isSlot_10 (by decide) ?_
      refine lv_goto (tgt := 15) hx hb dX10_isSlot_11 (by decide) ?_
      have hz3 := mq_cz_in h
      replace h := mq_cz_go h
      cases h
      exact hret H locs ls 15 dX10_isSlot_15 hz3.1 hP hD hS
set_option maxHeartbeats 4000000 in
set_option maxRecDepth 100000 in
theorem zm_X10_isSlot (l : Launch) (D : va_G) (a z : Nat → Nat) (cI cL cB cZ : ClassId) (sz N : Nat) (v0 : Int32) (S : mq_St) (res : Int32) (h : zf_X10_isSlot N z v0 S = some res) : Met l yX10_isSlot (zc_X10_isSlot :: mq_T) zr_X10_isSlot (va_Pc [.int (v0)] (fun U => U.heap.size = sz ∧ va_P D vwCl (wd_0 a cI cL cB cZ z S) U.heap ∧ va_K D vwCl (mq_tys cI cL cB cZ) U ∧ va_D (fun _ => True) (wd_0 a cI cL cB cZ z S))) (va_Qi (fun (r : Int32) (u : mq_St) => r = res ∧ u = S) (fun u t => va_P D vwCl (wd_0 a cI cL cB cZ z u) t.heap ∧ va_K D vwCl (mq_tys cI cL cB cZ) t ∧ va_D (va_A (wd_0 a cI cL cB cZ z S) sz) (wd_0 a cI cL cB cZ z u)) (va_A (wd_0 a cI cL cB cZ z S) sz)) 0 0 (va_A (wd_0 a cI cL cB cZ z S) sz) := by
  refine Met.ofW (cc := cX10_isSlot) (maxL := 1) (ret := (some .boolean)) (by decide) rfl ?_
  intro p e s m args below meth c s₁ B hml hv
  obtain ⟨rfl, hsz, hP, hK, hD0⟩ := hv
  have hr := B.returns
  have hlocks := B.notSynchronized
  have hts := atoms_spec (ws := zc_X10_isSlot :: mq_T) B.pre
  have hown : s.vm.findClass RX10 = some m.cls := findClass_of_methodNamed B.named
  subst hsz
  have hD := hD0.self (sz := s.heap.size)
  generalize hAe : va_A (wd_0 a cI cL cB cZ z S) s.heap.size = A at hD ⊢
  have hA : ∀ q : Nat, s.heap.size ≤ q → A q := fun q h => by rw [← hAe]; exact Or.inr h
  have hl := lv_entry ([.int (v0)]) (n := 1) (Nat.le_of_ble_eq_true rfl)
  rw [lg_entry_eq]
  generalize (lg_sl ([.int (v0)]) ++ List.replicate (1 - (lg_sl ([.int (v0)])).length) Slot.unset).toArray = ls at hl ⊢
  have hl : lv_has ls 1 [(0, .int (v0))] := hl
  refine zw_X10_isSlot_0 (A := A) ⟨B.exec, B.bytes, hml, hown, hts, hK, hA⟩ (fun H locs ls pc dg hz hP hD hS => ?_) v0 s.heap [] ls h hl hP hD va_S.rf
  exact W.zret B.exec B.bytes hr hz (fun t ht hW => ⟨⟨_, _, rfl, ⟨rfl, rfl⟩, by rw [ht]; exact hP, va_K.moved hW.alike hK, hD⟩, hS.F ht⟩) hS.2.2 dg
theorem zt_X10_isSlot_c : zc_X10_isSlot ∈ mq_T := mq_T_mem (mq_t2 (List.mem_of_getElem? (i := 195) rfl)) rfl
theorem zt_X10_isSlot_s : Cond.static yX10_isSlot ∈ mq_T := mq_T_mem (mq_t2 (List.mem_of_getElem? (i := 194) rfl)) rfl
set_option maxHeartbeats 4000000 in
theorem zv_X10_isSlot {p : Program} {l : Launch} {e : Env} {R : Room} {s : State} {m : MethodId} {args : Array Value} {below : List Frame} {meth : Method} {c : Code} {A : Nat → Prop} {D : va_G} {a z : Nat → Nat} {cI cL cB cZ : ClassId} {Q : State → Prop} {cc : ByteArray} {nL idx pc N : Nat} {own : String} {c1 : Cond} {H : Heap} {locs : List Loc} {ls : Array Slot} {rest : List Value} {S : mq_St} {res : Int32} {v0 : Int32} {ws : va_W} (is : List Nat) (C : mq_C p s m args c A D cI cL cB cZ cc nL own c1) (hlk : Cond.methodLink own idx yX10_isSlot ∈ mq_T) (hR : zr_X10_isSlot.frames + 1 ≤ R.frames ∧ 8 + (1 + 11) + zr_X10_isSlot.locals ≤ R.locals) (h : zf_X10_isSlot N z v0 S = some res) (hC : is.map (fun i => ws[i]?) = (wd_0 a cI cL cB cZ z S).map some) (hnd : va_nd is = true) (hP : va_P D vwCl ws H) (hD : va_D A ws) (hS : va_S A s.heap H locs) (hls : ls.size = nL) (hrest : (rest.map fun v => v.category).sum ≤ 8) (hdg : decode cc pc = .ok (.invokestatic idx, 3)) (kk : ∀ (H1 : Heap) (locs1 : List Loc), va_P D vwCl ws H1 → va_D A ws → va_S A s.heap H1 locs1 → W p l e R s m args below meth c H1 locs1 0 0 Q (F0 m (pc + 3) ls (.int res :: rest))) : W p l e R s m args below meth c H locs 0 0 Q (F0 m pc ls (.int (v0) :: rest)) := by
  obtain ⟨hx, hb, hml, hown, hts, hK, hA⟩ := C
  have hPc := mq_subP hP is hC
  have hDc := hD.sub is hnd hC
  have hFc := va_free hD hS hA is hC
  refine va_calli (va_runS (As := [.int (v0)]) (rest := rest) ⟨hx, hb, hml, hown, hts⟩ (zm_X10_isSlot l D a z cI cL cB cZ H.size N v0 S res h) (va_cwS 1 hts (mq_goodL (mq_wsS hlk zt_X10_isSlot_s zt_ini_X10 zt_X10_isSlot_c)) rfl rfl rfl (by decide +kernel) hR) ⟨fun a U g mk q => ⟨q.1, q.2.1, q.2.2.1, va_K.moved (u := U) (U := U.calling g mk a) (Vm.Alike.refl U.vm) q.2.2.2.1, q.2.2.2.2⟩, fun U hU hW => ⟨rfl, by rw [hU], by rw [hU]; exact hPc, va_K.moved hW.alike hK, hDc.weaken (fun _ _ _ _ => trivial)⟩⟩ rfl rfl hls rfl (lv_room hrest) hdg ⟨Nat.zero_le _, Nat.zero_le _⟩) hS (fun q _ h => hFc q h) hFc (fun r u t H1 locs ht hvm hw1 hB hz1 hk1 hS => ?_)
  obtain ⟨rfl, rfl⟩ := hw1
  obtain ⟨hP1, hK1, hD1⟩ := hB
  rw [ht] at hP1
  obtain ⟨hP2, hD2⟩ := mq_join hP hD is hC rfl hk1 hP1
  rw [mq_setM_same is _ ws hC] at hP2 hD2
  exact kk H1 locs hP2 hD2 hS
theorem zt_m_X10_120 : Cond.methodLink RX10 120 yX10_isSlot ∈ mq_T := mq_T_mem (mq_t2 (List.mem_of_getElem? (i := 193) rfl)) rfl
/-! ModalDesk.isFilled(I)Z -/
def zr_X10_isFilled : Room := { frames := 1, cells := 0, slots := 0, locals := 20 }
def zc_X10_isFilled : Cond := .code yX10_isFilled cX10_isFilled 2 (some .boolean)
def zf_X10_isFilled (N : Nat) (z : Nat → Nat) (v1 : Int32) (S : mq_St) : Option (Int32) := (mq_cp (zf_X10_isSlot N z (v1) (mq_pull S [] [] [])) (fun q1 => (if q1 = (0 : Int32) then (mq_cz ((0 : Int32)) (some ((0 : Int32)))) else (mq_ck (v1) 8 (if (S.2.1 1 (v1).toNatClampNeg) = (-1 : Int32) then (mq_cz ((0 : Int32)) (some ((0 : Int32)))) else (mq_cz ((1 : Int32)) (some ((1 : Int32)))))))))
set_option maxHeartbeats 4000000 in
set_option maxRecDepth 100000 in
theorem zw_X10_isFilled_0 {p : Program} {l : Launch} {e : Env} {s : State} {m : MethodId} {args : Array Value} {below : List Frame} {meth : Method} {c : Code} {A : Nat → Prop} {D : va_G} {a z : Nat → Nat} {cI cL cB cZ : ClassId} {Q : State → Prop} {N : Nat} {S : mq_St} {res : Int32} (C : mq_C p s m args c A D cI cL cB cZ cX10_isFilled 2 RX10 zc_X10_isFilled) (hret : ∀ (H : Heap) (locs : List Loc) (ls : Array Slot) (pc : Nat), decode cX10_isFilled pc = .ok (.ireturn, 1) → narrow .boolean (.int res) = .int res → va_P D vwCl (wd_C a cI cL cB cZ z S) H → va_D A (wd_C a cI cL cB cZ z S) → va_S A s.heap H locs → W p l e zr_X10_isFilled s m args below meth c H locs 0 0 Q (F0 m pc ls [.int res])) (v1 : Int32) (H : Heap) (locs : List Loc) (ls : Array Slot) (h : zf_X10_isFilled N z v1 S = some res) (hl : lv_has ls 2 [(0, .ref (a 0)), (1, .int (v1))]) (hP : va_P D vwCl (wd_C a cI cL cB cZ z S) H) (hD : va_D A (wd_C a cI cL cB cZ z S)) (hS : va_S A s.heap H locs) : W p l e zr_X10_isFilled s m args below meth c H locs 0 0 Q (F0 m 0 ls []) := by
  obtain ⟨hx, hb, hml, hown, hts, hK, hA⟩ := id C
  unfold zf_X10_isFilled at h
  refine lv_iload_n hx hb dX10_isFilled_0 rfl (lv_at hl 1 rfl) ?_
  obtain ⟨q1, hc2, h⟩ := mq_cp_go h
  refine zv_X10_isSlot (a := mq_ad a []) (z := z) [] C zt_m_X10_120 ⟨by decide, by decide⟩ hc2 rfl (by decide) hP hD hS hl.1 (Nat.le_of_ble_eq_true rfl) dX10_isFilled_1 (fun H locs hP hD hS => ?_)
  refine lv_if_eq (tgt := 21) hx hb dX10_isFilled_4 (by decide) (fun c8 => ?_) (fun c8 => ?_)
  · replace h := mq_it c8 h
    refine lv_iconst (v := (0 : Int32)) hx hb dX10_isFilled_21 (by decide) ?_
    have hz3 := mq_cz_in h
    replace h := mq_cz_go h
    cases h
    exact hret H locs ls 22 dX10_isFilled_22 hz3.1 hP hD hS
  · replace h := mq_if c8 h
    refine lv_aload_n hx hb dX10_isFilled_7 rfl (lv_at hl 0 rfl) ?_
    refine va_get (D := D) (ci := 10) (v := .ref (a 2)) (C := RX10) (T := TX10) (N := 12) hx hb hts (zi_X10 _) hown hK hP 0 rfl rfl 11 (by decide) (hts _ (List.mem_cons_of_mem _ zt_f_X10_94)) (fun _ h9 => h9) rfl dX10_isFilled_8 ?_
    refine lv_iload_n hx hb dX10_isFilled_11 rfl (lv_at hl 1 rfl) ?_
    have hi4 := mq_ck_in h
    replace h := mq_ck_go h
    refine va_iald (f := S.2.1 1) hx hb hK hP 2 0 rfl rfl hi4 dX10_isFilled_12 ?_
    refine lv_iconst (v := (-1 : Int32)) hx hb dX10_isFilled_13 (by decide) ?_
    refine lv_icmp_eq (tgt := 21) hx hb dX10_isFilled_14 (by decide) (fun c7 => ?_) (fun c7 => ?_)
    · replace h := mq_it c7 h
      refine lv_iconst (v := (0 : Int32)) hx hb dX10_isFilled_21 (by decide) ?_
      have hz5 := mq_cz_in h
      replace h := mq_cz_go h
      cases h
      exact hret H locs ls 22 dX10_isFilled_22 hz5.1 hP hD hS
    · replace h := mq_if c7 h
      refine lv_iconst (v := (1 : Int32)) hx hb dX10_isFilled_17 (by decide) ?_
      refine lv_goto (tgt := 22) hx hb dX10_isFilled_18 (by decide) ?_
      have hz6 := mq_cz_in h
      replace h := mq_cz_go h
      cases h
      exact hret H locs ls 22 dX10_isFilled_22 hz6.1 hP hD hS
set_option maxHeartbeats 4000000 in
set_option maxRecDepth 100000 in
theorem zm_X10_isFilled (l : Launch) (D : va_G) (a z : Nat → Nat) (cI cL cB cZ : ClassId) (sz N : Nat) (v1 : Int32) (S : mq_St) (res : Int32) (h : zf_X10_isFilled N z v1 S = some res) : Met l yX10_isFilled (zc_X10_isFilled :: mq_T) zr_X10_isFilled (va_Pc [.ref (a 0), .int (v1)] (fun U => U.heap.size = sz ∧ va_P D vwCl (wd_C a cI cL cB cZ z S) U.heap ∧ va_K D vwCl (mq_tys cI cL cB cZ) U ∧ va_D (fun _ => True) (wd_C a cI cL cB cZ z S))) (va_Qi (fun (r : Int32) (u : mq_St) => r = res ∧ u = S) (fun u t => va_P D vwCl (wd_C a cI cL cB cZ z u) t.heap ∧ va_K D vwCl (mq_tys cI cL cB cZ) t ∧ va_D (va_A (wd_C a cI cL cB cZ z S) sz) (wd_C a cI cL cB cZ z u)) (va_A (wd_C a cI cL cB cZ z S) sz)) 0 0 (va_A (wd_C a cI cL cB cZ z S) sz) := by
  refine Met.ofW (cc := cX10_isFilled) (maxL := 2) (ret := (some .boolean)) (by decide) rfl ?_
  intro p e s m args below meth c s₁ B hml hv
  obtain ⟨rfl, hsz, hP, hK, hD0⟩ := hv
  have hr := B.returns
  have hlocks := B.notSynchronized
  have hts := atoms_spec (ws := zc_X10_isFilled :: mq_T) B.pre
  have hown : s.vm.findClass RX10 = some m.cls := findClass_of_methodNamed B.named
  subst hsz
  have hD := hD0.self (sz := s.heap.size)
  generalize hAe : va_A (wd_C a cI cL cB cZ z S) s.heap.size = A at hD ⊢
  have hA : ∀ q : Nat, s.heap.size ≤ q → A q := fun q h => by rw [← hAe]; exact Or.inr h
  have hl := lv_entry ([.ref (a 0), .int (v1)]) (n := 2) (Nat.le_of_ble_eq_true rfl)
  rw [lg_entry_eq]
  generalize (lg_sl ([.ref (a 0), .int (v1)]) ++ List.replicate (2 - (lg_sl ([.ref (a 0), .int (v1)])).length) Slot.unset).toArray = ls at hl ⊢
  have hl : lv_has ls 2 [(0, .ref (a 0)), (1, .int (v1))] := hl
  refine zw_X10_isFilled_0 (A := A) ⟨B.exec, B.bytes, hml, hown, hts, hK, hA⟩ (fun H locs ls pc dg hz hP hD hS => ?_) v1 s.heap [] ls h hl hP hD va_S.rf
  exact W.zret B.exec B.bytes hr hz (fun t ht hW => ⟨⟨_, _, rfl, ⟨rfl, rfl⟩, by rw [ht]; exact hP, va_K.moved hW.alike hK, hD⟩, hS.F ht⟩) hS.2.2 dg
theorem zt_X10_isFilled_c : zc_X10_isFilled ∈ mq_T := mq_T_mem (mq_t3 (List.mem_of_getElem? (i := 238) rfl)) rfl
theorem zt_X10_isFilled_i : Cond.instanceMethod yX10_isFilled ∈ mq_T := mq_T_mem (mq_t3 (List.mem_of_getElem? (i := 237) rfl)) rfl
theorem zt_X10_isFilled_s : Cond.selects RX10 yX10_isFilled yX10_isFilled ∈ mq_T := mq_T_at 34 (by decide +kernel)
set_option maxHeartbeats 4000000 in
theorem zk_X10_isFilled {p : Program} {l : Launch} {e : Env} {R : Room} {s : State} {m : MethodId} {args : Array Value} {below : List Frame} {meth : Method} {c : Code} {A : Nat → Prop} {D : va_G} {a z : Nat → Nat} {cI cL cB cZ : ClassId} {Q : State → Prop} {cc : ByteArray} {nL idx pc N : Nat} {own : String} {c1 : Cond} {H : Heap} {locs : List Loc} {ls : Array Slot} {rest : List Value} {S : mq_St} {res : Int32} {v1 : Int32} (C : mq_C p s m args c A D cI cL cB cZ cc nL own c1) (hlk : Cond.methodLink own idx yX10_isFilled ∈ mq_T) (hR : zr_X10_isFilled.frames + 1 ≤ R.frames ∧ 8 + (2 + 11) + zr_X10_isFilled.locals ≤ R.locals) (h : zf_X10_isFilled N z v1 S = some res) (hP : va_P D vwCl (wd_C a cI cL cB cZ z S) H) (hD : va_D A (wd_C a cI cL cB cZ z S)) (hS : va_S A s.heap H locs) (hls : ls.size = nL) (hrest : (rest.map fun v => v.category).sum ≤ 8) (hdg : decode cc pc = .ok (.invokevirtual idx, 3)) (kk : ∀ (H1 : Heap) (locs1 : List Loc), va_P D vwCl (wd_C a cI cL cB cZ z S) H1 → va_D A (wd_C a cI cL cB cZ z S) → va_S A s.heap H1 locs1 → W p l e R s m args below meth c H1 locs1 0 0 Q (F0 m (pc + 3) ls (.int res :: rest))) : W p l e R s m args below meth c H locs 0 0 Q (F0 m pc ls (.int (v1) :: .ref (a 0) :: rest)) := by
  obtain ⟨hx, hb, hml, hown, hts, hK, hA⟩ := C
  have hFc := mq_freeI hD hS hA
  refine va_calli (va_runV (As := [.int (v1)]) (rest := rest) ⟨hx, hb, hml, hown, hts⟩ (zm_X10_isFilled l D a z cI cL cB cZ H.size N v1 S res h) (cwV 1 hts (mq_goodL (mq_wsV hlk zt_X10_isFilled_i zt_X10_isFilled_s zt_ini_X10 zt_X10_isFilled_c)) rfl rfl rfl (by decide +kernel) hR) ⟨fun a U g mk q => ⟨q.1, q.2.1, q.2.2.1, va_K.moved (u := U) (U := U.calling g mk a) (Vm.Alike.refl U.vm) q.2.2.2.1, q.2.2.2.2⟩, zy_C_0 hK hP, fun U hU hW => ⟨rfl, by rw [hU], by rw [hU]; exact hP, va_K.moved hW.alike hK, hD.weaken (fun _ _ _ _ => trivial)⟩⟩ rfl rfl hls rfl (lv_room hrest) hdg ⟨Nat.zero_le _, Nat.zero_le _⟩) hS (fun q _ h => hFc q h) hFc (fun r u t H1 locs ht hvm hw hB hz1 hk1 hS => ?_)
  obtain ⟨rfl, rfl⟩ := hw
  obtain ⟨hP1, hK1, hD1⟩ := hB
  rw [ht] at hP1
  exact kk H1 locs hP1 (hD1.weaken (fun _ _ _ h => hFc _ h)) hS
theorem zt_f_X10_16 : Cond.fieldLink RX10 16 "ModalDesk" "told" "LModalDesk$ByteRow;" ∈ mq_T := mq_T_mem (mq_t2 (List.mem_of_getElem? (i := 104) rfl)) rfl
theorem zt_m_X10_116 : Cond.methodLink RX10 116 yX0_at ∈ mq_T := mq_T_mem (mq_t2 (List.mem_of_getElem? (i := 185) rfl)) rfl
/-! ModalDesk.out(I)I -/
def zr_X10_out : Room := { frames := 1, cells := 0, slots := 0, locals := 21 }
def zc_X10_out : Cond := .code yX10_out cX10_out 2 (some .int)
def zf_X10_out (N : Nat) (z : Nat → Nat) (v1 : Int32) (S : mq_St) : Option (Int32) := (mq_cp (zf_X0_at N z (v1) (mq_pull S [1] [3] [])) (fun q1 => (some (q1))))
set_option maxHeartbeats 4000000 in
set_option maxRecDepth 100000 in
theorem zw_X10_out_0 {p : Program} {l : Launch} {e : Env} {s : State} {m : MethodId} {args : Array Value} {below : List Frame} {meth : Method} {c : Code} {A : Nat → Prop} {D : va_G} {a z : Nat → Nat} {cI cL cB cZ : ClassId} {Q : State → Prop} {N : Nat} {S : mq_St} {res : Int32} (C : mq_C p s m args c A D cI cL cB cZ cX10_out 2 RX10 zc_X10_out) (hret : ∀ (H : Heap) (locs : List Loc) (ls : Array Slot) (pc : Nat), decode cX10_out pc = .ok (.ireturn, 1) → va_P D vwCl (wd_C a cI cL cB cZ z S) H → va_D A (wd_C a cI cL cB cZ z S) → va_S A s.heap H locs → W p l e zr_X10_out s m args below meth c H locs 0 0 Q (F0 m pc ls [.int res])) (v1 : Int32) (H : Heap) (locs : List Loc) (ls : Array Slot) (h : zf_X10_out N z v1 S = some res) (hl : lv_has ls 2 [(0, .ref (a 0)), (1, .int (v1))]) (hP : va_P D vwCl (wd_C a cI cL cB cZ z S) H) (hD : va_D A (wd_C a cI cL cB cZ z S)) (hS : va_S A s.heap H locs) : W p l e zr_X10_out s m args below meth c H locs 0 0 Q (F0 m 0 ls []) := by
  obtain ⟨hx, hb, hml, hown, hts, hK, hA⟩ := id C
  unfold zf_X10_out at h
  refine lv_aload_n hx hb dX10_out_0 rfl (lv_at hl 0 rfl) ?_
  refine va_get (D := D) (ci := 10) (v := .ref (a 5)) (C := RX10) (T := TX10) (N := 12) hx hb hts (zi_X10 _) hown hK hP 0 rfl rfl 1 (by decide) (hts _ (List.mem_cons_of_mem _ zt_f_X10_16)) (fun _ h9 => h9) rfl dX10_out_1 ?_
  refine lv_iload_n hx hb dX10_out_4 rfl (lv_at hl 1 rfl) ?_
  obtain ⟨q1, hc2, h⟩ := mq_cp_go h
  refine zv_X0_at (a := mq_ad a [5, 6]) (z := z) [5, 6] C zt_m_X10_116 ⟨by decide, by decide⟩ hc2 rfl (by decide) hP hD hS hl.1 (Nat.le_of_ble_eq_true rfl) dX10_out_5 (fun H locs hP hD hS => ?_)
  cases h
  exact hret H locs ls 8 dX10_out_8 hP hD hS
set_option maxHeartbeats 4000000 in
set_option maxRecDepth 100000 in
theorem zm_X10_out (l : Launch) (D : va_G) (a z : Nat → Nat) (cI cL cB cZ : ClassId) (sz N : Nat) (v1 : Int32) (S : mq_St) (res : Int32) (h : zf_X10_out N z v1 S = some res) : Met l yX10_out (zc_X10_out :: mq_T) zr_X10_out (va_Pc [.ref (a 0), .int (v1)] (fun U => U.heap.size = sz ∧ va_P D vwCl (wd_C a cI cL cB cZ z S) U.heap ∧ va_K D vwCl (mq_tys cI cL cB cZ) U ∧ va_D (fun _ => True) (wd_C a cI cL cB cZ z S))) (va_Qi (fun (r : Int32) (u : mq_St) => r = res ∧ u = S) (fun u t => va_P D vwCl (wd_C a cI cL cB cZ z u) t.heap ∧ va_K D vwCl (mq_tys cI cL cB cZ) t ∧ va_D (va_A (wd_C a cI cL cB cZ z S) sz) (wd_C a cI cL cB cZ z u)) (va_A (wd_C a cI cL cB cZ z S) sz)) 0 0 (va_A (wd_C a cI cL cB cZ z S) sz) := by
  refine Met.ofW (cc := cX10_out) (maxL := 2) (ret := (some .int)) (by decide) rfl ?_
  intro p e s m args below meth c s₁ B hml hv
  obtain ⟨rfl, hsz, hP, hK, hD0⟩ := hv
  have hr := B.returns
  have hlocks := B.notSynchronized
  have hts := atoms_spec (ws := zc_X10_out :: mq_T) B.pre
  have hown : s.vm.findClass RX10 = some m.cls := findClass_of_methodNamed B.named
  subst hsz
  have hD := hD0.self (sz := s.heap.size)
  generalize hAe : va_A (wd_C a cI cL cB cZ z S) s.heap.size = A at hD ⊢
  have hA : ∀ q : Nat, s.heap.size ≤ q → A q := fun q h => by rw [← hAe]; exact Or.inr h
  have hl := lv_entry ([.ref (a 0), .int (v1)]) (n := 2) (Nat.le_of_ble_eq_true rfl)
  rw [lg_entry_eq]
  generalize (lg_sl ([.ref (a 0), .int (v1)]) ++ List.replicate (2 - (lg_sl ([.ref (a 0), .int (v1)])).length) Slot.unset).toArray = ls at hl ⊢
  have hl : lv_has ls 2 [(0, .ref (a 0)), (1, .int (v1))] := hl
  refine zw_X10_out_0 (A := A) ⟨B.exec, B.bytes, hml, hown, hts, hK, hA⟩ (fun H locs ls pc dg hP hD hS => ?_) v1 s.heap [] ls h hl hP hD va_S.rf
  exact W.iret B.exec B.bytes hr (fun t ht hW => ⟨⟨_, _, rfl, ⟨rfl, rfl⟩, by rw [ht]; exact hP, va_K.moved hW.alike hK, hD⟩, hS.F ht⟩) hS.2.2 dg
theorem zt_X10_out_c : zc_X10_out ∈ mq_T := mq_T_mem (mq_t2 (List.mem_of_getElem? (i := 184) rfl)) rfl
theorem zt_X10_out_i : Cond.instanceMethod yX10_out ∈ mq_T := mq_T_mem (mq_t2 (List.mem_of_getElem? (i := 182) rfl)) rfl
theorem zt_X10_out_s : Cond.selects RX10 yX10_out yX10_out ∈ mq_T := mq_T_mem (mq_t2 (List.mem_of_getElem? (i := 183) rfl)) rfl
theorem zt_f_X10_86 : Cond.fieldLink RX10 86 "ModalDesk" "proofAtHand" "LModalDesk$Lines;" ∈ mq_T := mq_T_mem (mq_t2 (List.mem_of_getElem? (i := 112) rfl)) rfl
theorem zt_m_X10_187 : Cond.methodLink RX10 187 yX3_size ∈ mq_T := mq_T_mem (mq_t4 (List.mem_of_getElem? (i := 180) rfl)) rfl
theorem zx_wd_C_wd_L_55_56 (a z : Nat → Nat) (cI cL cB cZ : ClassId) (S X : mq_St) : mq_setM (wd_C a cI cL cB cZ z S) [55, 56] (wd_L (mq_ad a [55, 56]) cI cL cB cZ z X) = (wd_C a cI cL cB cZ z (mq_push S X [25] [28] [])) := rfl
theorem zt_m_X10_188 : Cond.methodLink RX10 188 yX3_writeTo ∈ mq_T := mq_T_mem (mq_t4 (List.mem_of_getElem? (i := 181) rfl)) rfl
theorem zx_wd_C_wd_LB_55_56_5_6 (a z : Nat → Nat) (cI cL cB cZ : ClassId) (S X : mq_St) : mq_setM (wd_C a cI cL cB cZ z S) [55, 56, 5, 6] (wd_LB (mq_ad a [55, 56, 5, 6]) cI cL cB cZ z X) = (wd_C a cI cL cB cZ z (mq_push S X [25, 1] [28, 3] [])) := rfl
/-! ModalDesk.proof()I -/
def zr_X10_proof : Room := { frames := 3, cells := 0, slots := 0, locals := 66 }
def zc_X10_proof : Cond := .code yX10_proof cX10_proof 1 (some .int)
def zf_X10_proof (N : Nat) (z : Nat → Nat) (S : mq_St) : Option (Int32 × mq_St) := (mq_cp (zf_X3_size N z (mq_pull S [25] [28] [])) (fun q1 => (if q1 = (0 : Int32) then (some ((-1 : Int32), S)) else (mq_cl (zf_X3_writeTo N z (mq_pull S [25, 1] [28, 3] [])) (fun q3v q3s => mq_nS (mq_push S q3s [25, 1] [28, 3] []) (fun S5 => (mq_cp (zf_X0_size N z (mq_pull S5 [1] [3] [])) (fun q6 => (some (q6, S5))))))))))
set_option maxHeartbeats 4000000 in
set_option maxRecDepth 100000 in
theorem zw_X10_proof_0 {p : Program} {l : Launch} {e : Env} {s : State} {m : MethodId} {args : Array Value} {below : List Frame} {meth : Method} {c : Code} {A : Nat → Prop} {D : va_G} {a z : Nat → Nat} {cI cL cB cZ : ClassId} {Q : State → Prop} {N : Nat} {res : Int32 × mq_St} (C : mq_C p s m args c A D cI cL cB cZ cX10_proof 1 RX10 zc_X10_proof) (hret : ∀ (H : Heap) (locs : List Loc) (ls : Array Slot) (pc : Nat), decode cX10_proof pc = .ok (.ireturn, 1) → va_P D vwCl (wd_C a cI cL cB cZ z res.2) H → va_D A (wd_C a cI cL cB cZ z res.2) → va_S A s.heap H locs → W p l e zr_X10_proof s m args below meth c H locs 0 0 Q (F0 m pc ls [.int res.1])) (S : mq_St) (H : Heap) (locs : List Loc) (ls : Array Slot) (h : zf_X10_proof N z S = some res) (hl : lv_has ls 1 [(0, .ref (a 0))]) (hP : va_P D vwCl (wd_C a cI cL cB cZ z S) H) (hD : va_D A (wd_C a cI cL cB cZ z S)) (hS : va_S A s.heap H locs) : W p l e zr_X10_proof s m args below meth c H locs 0 0 Q (F0 m 0 ls []) := by
  obtain ⟨hx, hb, hml, hown, hts, hK, hA⟩ := id C
  unfold zf_X10_proof at h
  refine lv_aload_n hx hb dX10_proof_0 rfl (lv_at hl 0 rfl) ?_
  refine va_get (D := D) (ci := 10) (v := .ref (a 55)) (C := RX10) (T := TX10) (N := 12) hx hb hts (zi_X10 _) hown hK hP 0 rfl rfl 9 (by decide) (hts _ (List.mem_cons_of_mem _ zt_f_X10_86)) (fun _ h9 => h9) rfl dX10_proof_1 ?_
  obtain ⟨q1, hc2, h⟩ := mq_cp_go h
  refine zv_X3_size (a := mq_ad a [55, 56]) (z := z) [55, 56] C zt_m_X10_187 ⟨by decide, by decide⟩ hc2 rfl (by decide) hP hD hS hl.1 (Nat.le_of_ble_eq_true rfl) dX10_proof_4 (fun H locs hP hD hS => ?_)
  refine lv_if_ne (tgt := 12) hx hb dX10_proof_7 (by decide) (fun c8 => ?_) (fun c8 => ?_)
  · replace h := mq_if c8 h
    refine lv_aload_n hx hb dX10_proof_12 rfl (lv_at hl 0 rfl) ?_
    refine va_get (D := D) (ci := 10) (v := .ref (a 55)) (C := RX10) (T := TX10) (N := 12) hx hb hts (zi_X10 _) hown hK hP 0 rfl rfl 9 (by decide) (hts _ (List.mem_cons_of_mem _ zt_f_X10_86)) (fun _ h9 => h9) rfl dX10_proof_13 ?_
    refine lv_aload_n hx hb dX10_proof_16 rfl (lv_at hl 0 rfl) ?_
    refine va_get (D := D) (ci := 10) (v := .ref (a 5)) (C := RX10) (T := TX10) (N := 12) hx hb hts (zi_X10 _) hown hK hP 0 rfl rfl 1 (by decide) (hts _ (List.mem_cons_of_mem _ zt_f_X10_16)) (fun _ h9 => h9) rfl dX10_proof_17 ?_
    obtain ⟨q3, hc4, h⟩ := mq_cl_go h
    refine zv_X3_writeTo (a := mq_ad a [55, 56, 5, 6]) (z := z) [55, 56, 5, 6] C zt_m_X10_188 ⟨by decide, by decide⟩ hc4 rfl (by decide) (ws' := (wd_C a cI cL cB cZ z (mq_push S q3.2 [25, 1] [28, 3] []))) (zx_wd_C_wd_LB_55_56_5_6 _ _ _ _ _ _ _ _) hP hD hS hl.1 (Nat.le_of_ble_eq_true rfl) dX10_proof_20 (fun H locs hP hD hS => ?_)
    obtain ⟨S5, eS5⟩ : ∃ y, y = mq_push S q3.2 [25, 1] [28, 3] [] := ⟨_, rfl⟩
    replace h := mq_nS_go eS5 h
    rw [← eS5] at hP hD
    refine lv_aload_n hx hb dX10_proof_23 rfl (lv_at hl 0 rfl) ?_
    refine va_get (D := D) (ci := 10) (v := .ref (a 5)) (C := RX10) (T := TX10) (N := 12) hx hb hts (zi_X10 _) hown hK hP 0 rfl rfl 1 (by decide) (hts _ (List.mem_cons_of_mem _ zt_f_X10_16)) (fun _ h9 => h9) rfl dX10_proof_24 ?_
    obtain ⟨q6, hc7, h⟩ := mq_cp_go h
    refine zv_X0_size (a := mq_ad a [5, 6]) (z := z) [5, 6] C zt_m_X10_97 ⟨by decide, by decide⟩ hc7 rfl (by decide) hP hD hS hl.1 (Nat.le_of_ble_eq_true rfl) dX10_proof_27 (fun H locs hP hD hS => ?_)
    cases h
    exact hret H locs ls 30 dX10_proof_30 hP hD hS
  · replace h := mq_it (by simpa using c8) h
    refine lv_iconst (v := (-1 : Int32)) hx hb dX10_proof_10 (by decide) ?_
    cases h
    exact hret H locs ls 11 dX10_proof_11 hP hD hS
set_option maxHeartbeats 4000000 in
set_option maxRecDepth 100000 in
theorem zm_X10_proof (l : Launch) (D : va_G) (a z : Nat → Nat) (cI cL cB cZ : ClassId) (sz N : Nat) (S : mq_St) (res : Int32 × mq_St) (h : zf_X10_proof N z S = some res) : Met l yX10_proof (zc_X10_proof :: mq_T) zr_X10_proof (va_Pc [.ref (a 0)] (fun U => U.heap.size = sz ∧ va_P D vwCl (wd_C a cI cL cB cZ z S) U.heap ∧ va_K D vwCl (mq_tys cI cL cB cZ) U ∧ va_D (fun _ => True) (wd_C a cI cL cB cZ z S))) (va_Qi (fun (r : Int32) (u : mq_St) => r = res.1 ∧ u = res.2) (fun u t => va_P D vwCl (wd_C a cI cL cB cZ z u) t.heap ∧ va_K D vwCl (mq_tys cI cL cB cZ) t ∧ va_D (va_A (wd_C a cI cL cB cZ z S) sz) (wd_C a cI cL cB cZ z u)) (va_A (wd_C a cI cL cB cZ z S) sz)) 0 0 (va_A (wd_C a cI cL cB cZ z S) sz) := by
  refine Met.ofW (cc := cX10_proof) (maxL := 1) (ret := (some .int)) (by decide) rfl ?_
  intro p e s m args below meth c s₁ B hml hv
  obtain ⟨rfl, hsz, hP, hK, hD0⟩ := hv
  have hr := B.returns
  have hlocks := B.notSynchronized
  have hts := atoms_spec (ws := zc_X10_proof :: mq_T) B.pre
  have hown : s.vm.findClass RX10 = some m.cls := findClass_of_methodNamed B.named
  subst hsz
  have hD := hD0.self (sz := s.heap.size)
  generalize hAe : va_A (wd_C a cI cL cB cZ z S) s.heap.size = A at hD ⊢
  have hA : ∀ q : Nat, s.heap.size ≤ q → A q := fun q h => by rw [← hAe]; exact Or.inr h
  have hl := lv_entry ([.ref (a 0)]) (n := 1) (Nat.le_of_ble_eq_true rfl)
  rw [lg_entry_eq]
  generalize (lg_sl ([.ref (a 0)]) ++ List.replicate (1 - (lg_sl ([.ref (a 0)])).length) Slot.unset).toArray = ls at hl ⊢
  have hl : lv_has ls 1 [(0, .ref (a 0))] := hl
  refine zw_X10_proof_0 (A := A) ⟨B.exec, B.bytes, hml, hown, hts, hK, hA⟩ (fun H locs ls pc dg hP hD hS => ?_) S s.heap [] ls h hl hP hD va_S.rf
  exact W.iret B.exec B.bytes hr (fun t ht hW => ⟨⟨_, _, rfl, ⟨rfl, rfl⟩, by rw [ht]; exact hP, va_K.moved hW.alike hK, hD⟩, hS.F ht⟩) hS.2.2 dg
theorem zt_X10_proof_c : zc_X10_proof ∈ mq_T := mq_T_mem (mq_t4 (List.mem_of_getElem? (i := 179) rfl)) rfl
theorem zt_X10_proof_i : Cond.instanceMethod yX10_proof ∈ mq_T := mq_T_mem (mq_t4 (List.mem_of_getElem? (i := 177) rfl)) rfl
theorem zt_X10_proof_s : Cond.selects RX10 yX10_proof yX10_proof ∈ mq_T := mq_T_mem (mq_t4 (List.mem_of_getElem? (i := 178) rfl)) rfl
theorem zt_m_X10_159 : Cond.methodLink RX10 159 yX10_isFilled ∈ mq_T := mq_T_mem (mq_t3 (List.mem_of_getElem? (i := 235) rfl)) rfl
theorem zt_k_X10_162 : Cond.constant RX10 162 ((100000 : Int32)) ∈ mq_T := mq_T_mem (mq_t3 (List.mem_of_getElem? (i := 239) rfl)) rfl
theorem zt_m_X10_163 : Cond.methodLink RX10 163 yX8_run ∈ mq_T := mq_T_mem (mq_t4 (List.mem_of_getElem? (i := 0) rfl)) rfl
theorem zt_m_X10_177 : Cond.methodLink RX10 177 yX3_shorten ∈ mq_T := mq_T_mem (mq_t4 (List.mem_of_getElem? (i := 136) rfl)) rfl
theorem zt_m_X10_180 : Cond.methodLink RX10 180 yX8_fillModel ∈ mq_T := mq_T_mem (mq_t4 (List.mem_of_getElem? (i := 137) rfl)) rfl
theorem zt_m_X10_167 : Cond.methodLink RX10 167 yX8_lines ∈ mq_T := mq_T_mem (mq_t4 (List.mem_of_getElem? (i := 124) rfl)) rfl
theorem zt_m_X10_171 : Cond.methodLink RX10 171 yX3_copy ∈ mq_T := mq_T_mem (mq_t4 (List.mem_of_getElem? (i := 128) rfl)) rfl
theorem zx_wd_C_wd_LL_55_56_41_42 (a z : Nat → Nat) (cI cL cB cZ : ClassId) (S X : mq_St) : mq_setM (wd_C a cI cL cB cZ z S) [55, 56, 41, 42] (wd_LL (mq_ad a [55, 56, 41, 42]) cI cL cB cZ z X) = (wd_C a cI cL cB cZ z (mq_push S X [25, 20] [28, 22] [])) := rfl
theorem zt_m_X10_174 : Cond.methodLink RX10 174 yX4_clear ∈ mq_T := mq_T_mem (mq_t4 (List.mem_of_getElem? (i := 132) rfl)) rfl
/-! ModalDesk.prove(II)I -/
def zr_X10_prove : Room := { frames := 7, cells := 0, slots := 0, locals := 158 }
def zc_X10_prove : Cond := .code yX10_prove cX10_prove 4 (some .int)
def zf_X10_prove (N : Nat) (z : Nat → Nat) (v1 : Int32) (v2 : Int32) (S : mq_St) : Option (Int32 × mq_St) := (mq_cp (zf_X10_isFilled N z (v1) S) (fun q1 => (if q1 = (0 : Int32) then (some ((-1 : Int32), S)) else (if v2 < (1 : Int32) then (some ((-1 : Int32), S)) else (if v2 ≤ (100000 : Int32) then (mq_ck (v1) 8 (mq_cl (zf_X8_run N z ((S.2.1 1 (v1).toNatClampNeg)) (v2) S) (fun q4v S6 => (mq_nI (q4v) (fun x7 => (if x7 = (1 : Int32) then (mq_cp (zf_X8_lines N z S6) (fun q15 => (mq_cl (zf_X3_copy N z (mq_pull S6 [25, 20] [28, 22] [])) (fun q17v q17s => mq_nS (mq_push S6 q17s [25, 20] [28, 22] []) (fun S19 => (mq_cl (zf_X4_clear N z S19) (fun q20v S22 => (some (x7, S22))))))))) else (if x7 = (0 : Int32) then (mq_cl (zf_X3_shorten N z ((0 : Int32)) (mq_pull S6 [25] [28] [])) (fun q8v q8s => mq_nS (mq_push S6 q8s [25] [28] []) (fun S10 => (mq_cl (zf_X8_fillModel N z S10) (fun q11v S13 => (some (x7, S13))))))) else (some (x7, S6))))))))) else (some ((-1 : Int32), S)))))))
set_option maxHeartbeats 4000000 in
set_option maxRecDepth 100000 in
theorem zw_X10_prove_0 {p : Program} {l : Launch} {e : Env} {s : State} {m : MethodId} {args : Array Value} {below : List Frame} {meth : Method} {c : Code} {A : Nat → Prop} {D : va_G} {a z : Nat → Nat} {cI cL cB cZ : ClassId} {Q : State → Prop} {N : Nat} {res : Int32 × mq_St} (C : mq_C p s m args c A D cI cL cB cZ cX10_prove 4 RX10 zc_X10_prove) (hret : ∀ (H : Heap) (locs : List Loc) (ls : Array Slot) (pc : Nat), decode cX10_prove pc = .ok (.ireturn, 1) → va_P D vwCl (wd_C a cI cL cB cZ z res.2) H → va_D A (wd_C a cI cL cB cZ z res.2) → va_S A s.heap H locs → W p l e zr_X10_prove s m args below meth c H locs 0 0 Q (F0 m pc ls [.int res.1])) (v1 : Int32) (v2 : Int32) (S : mq_St) (H : Heap) (locs : List Loc) (ls : Array Slot) (h : zf_X10_prove N z v1 v2 S = some res) (hl : lv_has ls 4 [(0, .ref (a 0)), (1, .int (v1)), (2, .int (v2))]) (hP : va_P D vwCl (wd_C a cI cL cB cZ z S) H) (hD : va_D A (wd_C a cI cL cB cZ z S)) (hS : va_S A s.heap H locs) : W p l e zr_X10_prove s m args below meth c H locs 0 0 Q (F0 m 0 ls []) := by
  obtain ⟨hx, hb, hml, hown, hts, hK, hA⟩ := id C
  unfold zf_X10_prove at h
  refine lv_aload_n hx hb dX10_prove_0 rfl (lv_at hl 0 rfl) ?_
  refine lv_iload_n hx hb dX10_prove_1 rfl (lv_at hl 1 rfl) ?_
  obtain ⟨q1, hc2, h⟩ := mq_cp_go h
  refine zk_X10_isFilled C zt_m_X10_159 ⟨by decide, by decide⟩ hc2 hP hD hS hl.1 (Nat.le_of_ble_eq_true rfl) dX10_prove_2 (fun H locs hP hD hS => ?_)
  refine lv_if_eq (tgt := 19) hx hb dX10_prove_5 (by decide) (fun c26 => ?_) (fun c26 => ?_)
  · replace h := mq_it c26 h
    refine lv_iconst (v := (-1 : Int32)) hx hb dX10_prove_19 (by decide) ?_
    cases h
    exact hret H locs ls 20 dX10_prove_20 hP hD hS
  · replace h := mq_if c26 h
    refine lv_iload_n hx hb dX10_prove_8 rfl (lv_at hl 2 rfl) ?_
    refine lv_iconst (v := (1 : Int32)) hx hb dX10_prove_9 (by decide) ?_
    refine lv_icmp_lt (tgt := 19) hx hb dX10_prove_10 (by decide) (fun c25 => ?_) (fun c25 => ?_)
    · replace h := mq_it c25 h
      refine lv_iconst (v := (-1 : Int32)) hx hb dX10_prove_19 (by decide) ?_
      cases h
      exact hret H locs ls 20 dX10_prove_20 hP hD hS
    · replace h := mq_if c25 h
      refine lv_iload_n hx hb dX10_prove_13 rfl (lv_at hl 2 rfl) ?_
      refine lv_ldc (v := (100000 : Int32)) hx hb hown (hts _ (List.mem_cons_of_mem _ zt_k_X10_162)) dX10_prove_14 ?_
      refine lv_icmp_le (tgt := 21) hx hb dX10_prove_16 (by decide) (fun c24 => ?_) (fun c24 => ?_)
      · replace h := mq_it c24 h
        refine lv_aload_n hx hb dX10_prove_21 rfl (lv_at hl 0 rfl) ?_
        refine va_get (D := D) (ci := 10) (v := .ref (a 25)) (C := RX10) (T := TX10) (N := 12) hx hb hts (zi_X10 _) hown hK hP 0 rfl rfl 6 (by decide) (hts _ (List.mem_cons_of_mem _ zt_f_X10_65)) (fun _ h9 => h9) rfl dX10_prove_22 ?_
        refine lv_aload_n hx hb dX10_prove_25 rfl (lv_at hl 0 rfl) ?_
        refine va_get (D := D) (ci := 10) (v := .ref (a 2)) (C := RX10) (T := TX10) (N := 12) hx hb hts (zi_X10 _) hown hK hP 0 rfl rfl 11 (by decide) (hts _ (List.mem_cons_of_mem _ zt_f_X10_94)) (fun _ h9 => h9) rfl dX10_prove_26 ?_
        refine lv_iload_n hx hb dX10_prove_29 rfl (lv_at hl 1 rfl) ?_
        have hi3 := mq_ck_in h
        replace h := mq_ck_go h
        refine va_iald (f := S.2.1 1) hx hb hK hP 2 0 rfl rfl hi3 dX10_prove_30 ?_
        refine lv_iload_n hx hb dX10_prove_31 rfl (lv_at hl 2 rfl) ?_
        obtain ⟨q4, hc5, h⟩ := mq_cl_go h
        refine zk_X8_run C zt_m_X10_163 ⟨by decide, by decide⟩ hc5 hP hD hS hl.1 (Nat.le_of_ble_eq_true rfl) dX10_prove_32 (fun H locs hP hD hS => ?_)
        obtain ⟨S6, eS6⟩ : ∃ y, y = q4.2 := ⟨_, rfl⟩
        rw [← eS6] at hP hD h
        refine lv_topi (fun x7 ex7 => ?_)
        replace h := mq_nI_go ex7 h
        refine lv_istore_n (lv' := [(3, .int (x7)), (0, .ref (a 0)), (1, .int (v1)), (2, .int (v2))]) hx hb dX10_prove_35 rfl hl (by decide) rfl (fun ls hl => ?_)
        refine lv_iload_n hx hb dX10_prove_36 rfl (lv_at hl 0 rfl) ?_
        refine lv_iconst (v := (1 : Int32)) hx hb dX10_prove_37 (by decide) ?_
        refine lv_icmp_ne (tgt := 65) hx hb dX10_prove_38 (by decide) (fun c23 => ?_) (fun c23 => ?_)
        · replace h := mq_if c23 h
          refine lv_iload_n hx hb dX10_prove_65 rfl (lv_at hl 0 rfl) ?_
          refine lv_if_ne (tgt := 88) hx hb dX10_prove_66 (by decide) (fun c14 => ?_) (fun c14 => ?_)
          · replace h := mq_if c14 h
            refine lv_iload_n hx hb dX10_prove_88 rfl (lv_at hl 0 rfl) ?_
            cases h
            exact hret H locs ls 89 dX10_prove_89 hP hD hS
          · replace h := mq_it (by simpa using c14) h
            refine lv_aload_n hx hb dX10_prove_69 rfl (lv_at hl 1 rfl) ?_
            refine va_get (D := D) (ci := 10) (v := .ref (a 55)) (C := RX10) (T := TX10) (N := 12) hx hb hts (zi_X10 _) hown hK hP 0 rfl rfl 9 (by decide) (hts _ (List.mem_cons_of_mem _ zt_f_X10_86)) (fun _ h9 => h9) rfl dX10_prove_70 ?_
            refine lv_iconst (v := (0 : Int32)) hx hb dX10_prove_73 (by decide) ?_
            obtain ⟨q8, hc9, h⟩ := mq_cl_go h
            refine zv_X3_shorten (a := mq_ad a [55, 56]) (z := z) [55, 56] C zt_m_X10_177 ⟨by decide, by decide⟩ hc9 rfl (by decide) (ws' := (wd_C a cI cL cB cZ z (mq_push S6 q8.2 [25] [28] []))) (zx_wd_C_wd_L_55_56 _ _ _ _ _ _ _ _) hP hD hS hl.1 (Nat.le_of_ble_eq_true rfl) dX10_prove_74 (fun H locs hP hD hS => ?_)
            obtain ⟨S10, eS10⟩ : ∃ y, y = mq_push S6 q8.2 [25] [28] [] := ⟨_, rfl⟩
            replace h := mq_nS_go eS10 h
            rw [← eS10] at hP hD
            refine lv_aload_n hx hb dX10_prove_77 rfl (lv_at hl 1 rfl) ?_
            refine va_get (D := D) (ci := 10) (v := .ref (a 25)) (C := RX10) (T := TX10) (N := 12) hx hb hts (zi_X10 _) hown hK hP 0 rfl rfl 6 (by decide) (hts _ (List.mem_cons_of_mem _ zt_f_X10_65)) (fun _ h9 => h9) rfl dX10_prove_78 ?_
            refine lv_aload_n hx hb dX10_prove_81 rfl (lv_at hl 1 rfl) ?_
            refine va_get (D := D) (ci := 10) (v := .ref (a 46)) (C := RX10) (T := TX10) (N := 12) hx hb hts (zi_X10 _) hown hK hP 0 rfl rfl 8 (by decide) (hts _ (List.mem_cons_of_mem _ zt_f_X10_79)) (fun _ h9 => h9) rfl dX10_prove_82 ?_
            obtain ⟨q11, hc12, h⟩ := mq_cl_go h
            refine zk_X8_fillModel C zt_m_X10_180 ⟨by decide, by decide⟩ hc12 hP hD hS hl.1 (Nat.le_of_ble_eq_true rfl) dX10_prove_85 (fun H locs hP hD hS => ?_)
            obtain ⟨S13, eS13⟩ : ∃ y, y = q11.2 := ⟨_, rfl⟩
            rw [← eS13] at hP hD h
            refine lv_iload_n hx hb dX10_prove_88 rfl (lv_at hl 0 rfl) ?_
            cases h
            exact hret H locs ls 89 dX10_prove_89 hP hD hS
        · replace h := mq_it (by simpa using c23) h
          refine lv_aload_n hx hb dX10_prove_41 rfl (lv_at hl 1 rfl) ?_
          refine va_get (D := D) (ci := 10) (v := .ref (a 55)) (C := RX10) (T := TX10) (N := 12) hx hb hts (zi_X10 _) hown hK hP 0 rfl rfl 9 (by decide) (hts _ (List.mem_cons_of_mem _ zt_f_X10_86)) (fun _ h9 => h9) rfl dX10_prove_42 ?_
          refine lv_aload_n hx hb dX10_prove_45 rfl (lv_at hl 1 rfl) ?_
          refine va_get (D := D) (ci := 10) (v := .ref (a 25)) (C := RX10) (T := TX10) (N := 12) hx hb hts (zi_X10 _) hown hK hP 0 rfl rfl 6 (by decide) (hts _ (List.mem_cons_of_mem _ zt_f_X10_65)) (fun _ h9 => h9) rfl dX10_prove_46 ?_
          obtain ⟨q15, hc16, h⟩ := mq_cp_go h
          refine zk_X8_lines C zt_m_X10_167 ⟨by decide, by decide⟩ hc16 hP hD hS hl.1 (Nat.le_of_ble_eq_true rfl) dX10_prove_49 (fun H locs hP hD hS => ?_)
          obtain ⟨q17, hc18, h⟩ := mq_cl_go h
          refine zv_X3_copy (a := mq_ad a [55, 56, 41, 42]) (z := z) [55, 56, 41, 42] C zt_m_X10_171 ⟨by decide, by decide⟩ hc18 rfl (by decide) (ws' := (wd_C a cI cL cB cZ z (mq_push S6 q17.2 [25, 20] [28, 22] []))) (zx_wd_C_wd_LL_55_56_41_42 _ _ _ _ _ _ _ _) hP hD hS hl.1 (Nat.le_of_ble_eq_true rfl) dX10_prove_52 (fun H locs hP hD hS => ?_)
          obtain ⟨S19, eS19⟩ : ∃ y, y = mq_push S6 q17.2 [25, 20] [28, 22] [] := ⟨_, rfl⟩
          replace h := mq_nS_go eS19 h
          rw [← eS19] at hP hD
          refine lv_aload_n hx hb dX10_prove_55 rfl (lv_at hl 1 rfl) ?_
          refine va_get (D := D) (ci := 10) (v := .ref (a 46)) (C := RX10) (T := TX10) (N := 12) hx hb hts (zi_X10 _) hown hK hP 0 rfl rfl 8 (by decide) (hts _ (List.mem_cons_of_mem _ zt_f_X10_79)) (fun _ h9 => h9) rfl dX10_prove_56 ?_
          obtain ⟨q20, hc21, h⟩ := mq_cl_go h
          refine zk_X4_clear C zt_m_X10_174 ⟨by decide, by decide⟩ hc21 hP hD hS hl.1 (Nat.le_of_ble_eq_true rfl) dX10_prove_59 (fun H locs hP hD hS => ?_)
          obtain ⟨S22, eS22⟩ : ∃ y, y = q20.2 := ⟨_, rfl⟩
          rw [← eS22] at hP hD h
          refine lv_goto (tgt := 88) hx hb dX10_prove_62 (by decide) ?_
          refine lv_iload_n hx hb dX10_prove_88 rfl (lv_at hl 0 rfl) ?_
          cases h
          exact hret H locs ls 89 dX10_prove_89 hP hD hS
      · replace h := mq_if c24 h
        refine lv_iconst (v := (-1 : Int32)) hx hb dX10_prove_19 (by decide) ?_
        cases h
        exact hret H locs ls 20 dX10_prove_20 hP hD hS
set_option maxHeartbeats 4000000 in
set_option maxRecDepth 100000 in
theorem zm_X10_prove (l : Launch) (D : va_G) (a z : Nat → Nat) (cI cL cB cZ : ClassId) (sz N : Nat) (v1 : Int32) (v2 : Int32) (S : mq_St) (res : Int32 × mq_St) (h : zf_X10_prove N z v1 v2 S = some res) : Met l yX10_prove (zc_X10_prove :: mq_T) zr_X10_prove (va_Pc [.ref (a 0), .int (v1), .int (v2)] (fun U => U.heap.size = sz ∧ va_P D vwCl (wd_C a cI cL cB cZ z S) U.heap ∧ va_K D vwCl (mq_tys cI cL cB cZ) U ∧ va_D (fun _ => True) (wd_C a cI cL cB cZ z S))) (va_Qi (fun (r : Int32) (u : mq_St) => r = res.1 ∧ u = res.2) (fun u t => va_P D vwCl (wd_C a cI cL cB cZ z u) t.heap ∧ va_K D vwCl (mq_tys cI cL cB cZ) t ∧ va_D (va_A (wd_C a cI cL cB cZ z S) sz) (wd_C a cI cL cB cZ z u)) (va_A (wd_C a cI cL cB cZ z S) sz)) 0 0 (va_A (wd_C a cI cL cB cZ z S) sz) := by
  refine Met.ofW (cc := cX10_prove) (maxL := 4) (ret := (some .int)) (by decide) rfl ?_
  intro p e s m args below meth c s₁ B hml hv
  obtain ⟨rfl, hsz, hP, hK, hD0⟩ := hv
  have hr := B.returns
  have hlocks := B.notSynchronized
  have hts := atoms_spec (ws := zc_X10_prove :: mq_T) B.pre
  have hown : s.vm.findClass RX10 = some m.cls := findClass_of_methodNamed B.named
  subst hsz
  have hD := hD0.self (sz := s.heap.size)
  generalize hAe : va_A (wd_C a cI cL cB cZ z S) s.heap.size = A at hD ⊢
  have hA : ∀ q : Nat, s.heap.size ≤ q → A q := fun q h => by rw [← hAe]; exact Or.inr h
  have hl := lv_entry ([.ref (a 0), .int (v1), .int (v2)]) (n := 4) (Nat.le_of_ble_eq_true rfl)
  rw [lg_entry_eq]
  generalize (lg_sl ([.ref (a 0), .int (v1), .int (v2)]) ++ List.replicate (4 - (lg_sl ([.ref (a 0), .int (v1), .int (v2)])).length) Slot.unset).toArray = ls at hl ⊢
  have hl : lv_has ls 4 [(0, .ref (a 0)), (1, .int (v1)), (2, .int (v2))] := hl
  refine zw_X10_prove_0 (A := A) ⟨B.exec, B.bytes, hml, hown, hts, hK, hA⟩ (fun H locs ls pc dg hP hD hS => ?_) v1 v2 S s.heap [] ls h hl hP hD va_S.rf
  exact W.iret B.exec B.bytes hr (fun t ht hW => ⟨⟨_, _, rfl, ⟨rfl, rfl⟩, by rw [ht]; exact hP, va_K.moved hW.alike hK, hD⟩, hS.F ht⟩) hS.2.2 dg
theorem zt_X10_prove_c : zc_X10_prove ∈ mq_T := mq_T_mem (mq_t3 (List.mem_of_getElem? (i := 234) rfl)) rfl
theorem zt_X10_prove_i : Cond.instanceMethod yX10_prove ∈ mq_T := mq_T_mem (mq_t3 (List.mem_of_getElem? (i := 232) rfl)) rfl
theorem zt_X10_prove_s : Cond.selects RX10 yX10_prove yX10_prove ∈ mq_T := mq_T_mem (mq_t3 (List.mem_of_getElem? (i := 233) rfl)) rfl
theorem zt_m_X10_123 : Cond.methodLink RX10 123 yX5_draw ∈ mq_T := mq_T_mem (mq_t2 (List.mem_of_getElem? (i := 196) rfl)) rfl
theorem zt_m_X10_127 : Cond.methodLink RX10 127 yX10_fill ∈ mq_T := mq_T_mem (mq_t3 (List.mem_of_getElem? (i := 78) rfl)) rfl
theorem zt_m_X10_130 : Cond.methodLink RX10 130 yX5_fail ∈ mq_T := mq_T_mem (mq_t3 (List.mem_of_getElem? (i := 146) rfl)) rfl
/-! ModalDesk.read(IZ)I -/
def zr_X10_read : Room := { frames := 7, cells := 0, slots := 0, locals := 165 }
def zc_X10_read : Cond := .code yX10_read cX10_read 4 (some .int)
def zf_X10_read (N : Nat) (z : Nat → Nat) (v1 : Int32) (v2 : Int32) (S : mq_St) : Option (Int32 × mq_St) := (mq_cp (zf_X10_isSlot N z (v1) (mq_pull S [] [] [])) (fun q1 => (if q1 = (0 : Int32) then (some ((-1 : Int32), S)) else (mq_cl (zf_X5_draw N z (v2) S) (fun q3v S5 => (mq_nI (q3v) (fun x6 => (mq_cl (zf_X0_keep N z ((0 : Int32)) (mq_pull S5 [0] [2] [])) (fun q7v q7s => mq_nS (mq_push S5 q7s [0] [2] []) (fun S9 => (if x6 = (-1 : Int32) then (some ((-2 : Int32), S9)) else (mq_cl (zf_X10_fill N z (v1) (x6) S9) (fun q10v S12 => (if q10v = (0 : Int32) then (mq_cl (zf_X5_fail N z ((4 : Int32)) ((-1 : Int32)) S12) (fun q14v S16 => (some ((-2 : Int32), S16)))) else (mq_ck (v1) 8 (some ((S12.2.1 0 (v1).toNatClampNeg), S12)))))))))))))))))
set_option maxHeartbeats 4000000 in
set_option maxRecDepth 100000 in
theorem zw_X10_read_0 {p : Program} {l : Launch} {e : Env} {s : State} {m : MethodId} {args : Array Value} {below : List Frame} {meth : Method} {c : Code} {A : Nat → Prop} {D : va_G} {a z : Nat → Nat} {cI cL cB cZ : ClassId} {Q : State → Prop} {N : Nat} {res : Int32 × mq_St} (C : mq_C p s m args c A D cI cL cB cZ cX10_read 4 RX10 zc_X10_read) (hret : ∀ (H : Heap) (locs : List Loc) (ls : Array Slot) (pc : Nat), decode cX10_read pc = .ok (.ireturn, 1) → va_P D vwCl (wd_C a cI cL cB cZ z res.2) H → va_D A (wd_C a cI cL cB cZ z res.2) → va_S A s.heap H locs → W p l e zr_X10_read s m args below meth c H locs 0 0 Q (F0 m pc ls [.int res.1])) (v1 : Int32) (v2 : Int32) (S : mq_St) (H : Heap) (locs : List Loc) (ls : Array Slot) (h : zf_X10_read N z v1 v2 S = some res) (hl : lv_has ls 4 [(0, .ref (a 0)), (1, .int (v1)), (2, .int (v2))]) (hP : va_P D vwCl (wd_C a cI cL cB cZ z S) H) (hD : va_D A (wd_C a cI cL cB cZ z S)) (hS : va_S A s.heap H locs) : W p l e zr_X10_read s m args below meth c H locs 0 0 Q (F0 m 0 ls []) := by
  obtain ⟨hx, hb, hml, hown, hts, hK, hA⟩ := id C
  unfold zf_X10_read at h
  refine lv_iload_n hx hb dX10_read_0 rfl (lv_at hl 1 rfl) ?_
  obtain ⟨q1, hc2, h⟩ := mq_cp_go h
  refine zv_X10_isSlot (a := mq_ad a []) (z := z) [] C zt_m_X10_120 ⟨by decide, by decide⟩ hc2 rfl (by decide) hP hD hS hl.1 (Nat.le_of_ble_eq_true rfl) dX10_read_1 (fun H locs hP hD hS => ?_)
  refine lv_if_ne (tgt := 9) hx hb dX10_read_4 (by decide) (fun c19 => ?_) (fun c19 => ?_)
  · replace h := mq_if c19 h
    refine lv_aload_n hx hb dX10_read_9 rfl (lv_at hl 0 rfl) ?_
    refine va_get (D := D) (ci := 10) (v := .ref (a 20)) (C := RX10) (T := TX10) (N := 12) hx hb hts (zi_X10 _) hown hK hP 0 rfl rfl 4 (by decide) (hts _ (List.mem_cons_of_mem _ zt_f_X10_40)) (fun _ h9 => h9) rfl dX10_read_10 ?_
    refine lv_iload_n hx hb dX10_read_13 rfl (lv_at hl 2 rfl) ?_
    obtain ⟨q3, hc4, h⟩ := mq_cl_go h
    refine zk_X5_draw C zt_m_X10_123 ⟨by decide, by decide⟩ hc4 hP hD hS hl.1 (Nat.le_of_ble_eq_true rfl) dX10_read_14 (fun H locs hP hD hS => ?_)
    obtain ⟨S5, eS5⟩ : ∃ y, y = q3.2 := ⟨_, rfl⟩
    rw [← eS5] at hP hD h
    refine lv_topi (fun x6 ex6 => ?_)
    replace h := mq_nI_go ex6 h
    refine lv_istore_n (lv' := [(3, .int (x6)), (0, .ref (a 0)), (1, .int (v1)), (2, .int (v2))]) hx hb dX10_read_17 rfl hl (by decide) rfl (fun ls hl => ?_)
    refine lv_aload_n hx hb dX10_read_18 rfl (lv_at hl 1 rfl) ?_
    refine va_get (D := D) (ci := 10) (v := .ref (a 3)) (C := RX10) (T := TX10) (N := 12) hx hb hts (zi_X10 _) hown hK hP 0 rfl rfl 0 (by decide) (hts _ (List.mem_cons_of_mem _ zt_f_X10_10)) (fun _ h9 => h9) rfl dX10_read_19 ?_
    refine lv_iconst (v := (0 : Int32)) hx hb dX10_read_22 (by decide) ?_
    obtain ⟨q7, hc8, h⟩ := mq_cl_go h
    refine zv_X0_keep (a := mq_ad a [3, 4]) (z := z) [3, 4] C zt_m_X10_104 ⟨by decide, by decide⟩ hc8 rfl (by decide) (ws' := (wd_C a cI cL cB cZ z (mq_push S5 q7.2 [0] [2] []))) (zx_wd_C_wd_B_3_4 _ _ _ _ _ _ _ _) hP hD hS hl.1 (Nat.le_of_ble_eq_true rfl) dX10_read_23 (fun H locs hP hD hS => ?_)
    obtain ⟨S9, eS9⟩ : ∃ y, y = mq_push S5 q7.2 [0] [2] [] := ⟨_, rfl⟩
    replace h := mq_nS_go eS9 h
    rw [← eS9] at hP hD
    refine lv_pop hx hb dX10_read_26 rfl ?_
    refine lv_iload_n hx hb dX10_read_27 rfl (lv_at hl 0 rfl) ?_
    refine lv_iconst (v := (-1 : Int32)) hx hb dX10_read_28 (by decide) ?_
    refine lv_icmp_ne (tgt := 35) hx hb dX10_read_29 (by decide) (fun c18 => ?_) (fun c18 => ?_)
    · replace h := mq_if c18 h
      refine lv_aload_n hx hb dX10_read_35 rfl (lv_at hl 1 rfl) ?_
      refine lv_iload_n hx hb dX10_read_36 rfl (lv_at hl 2 rfl) ?_
      refine lv_iload_n hx hb dX10_read_37 rfl (lv_at hl 0 rfl) ?_
      obtain ⟨q10, hc11, h⟩ := mq_cl_go h
      refine zk_X10_fill C zt_m_X10_127 ⟨by decide, by decide⟩ hc11 hP hD hS hl.1 (Nat.le_of_ble_eq_true rfl) dX10_read_38 (fun H locs hP hD hS => ?_)
      obtain ⟨S12, eS12⟩ : ∃ y, y = q10.2 := ⟨_, rfl⟩
      rw [← eS12] at hP hD h
      refine lv_if_ne (tgt := 56) hx hb dX10_read_41 (by decide) (fun c17 => ?_) (fun c17 => ?_)
      · replace h := mq_if c17 h
        refine lv_aload_n hx hb dX10_read_56 rfl (lv_at hl 1 rfl) ?_
        refine va_get (D := D) (ci := 10) (v := .ref (a 1)) (C := RX10) (T := TX10) (N := 12) hx hb hts (zi_X10 _) hown hK hP 0 rfl rfl 10 (by decide) (hts _ (List.mem_cons_of_mem _ zt_f_X10_90)) (fun _ h9 => h9) rfl dX10_read_57 ?_
        refine lv_iload_n hx hb dX10_read_60 rfl (lv_at hl 2 rfl) ?_
        have hi13 := mq_ck_in h
        replace h := mq_ck_go h
        refine va_iald (f := S12.2.1 0) hx hb hK hP 1 0 rfl rfl hi13 dX10_read_61 ?_
        cases h
        exact hret H locs ls 62 dX10_read_62 hP hD hS
      · replace h := mq_it (by simpa using c17) h
        refine lv_aload_n hx hb dX10_read_44 rfl (lv_at hl 1 rfl) ?_
        refine va_get (D := D) (ci := 10) (v := .ref (a 20)) (C := RX10) (T := TX10) (N := 12) hx hb hts (zi_X10 _) hown hK hP 0 rfl rfl 4 (by decide) (hts _ (List.mem_cons_of_mem _ zt_f_X10_40)) (fun _ h9 => h9) rfl dX10_read_45 ?_
        refine lv_iconst (v := (4 : Int32)) hx hb dX10_read_48 (by decide) ?_
        refine lv_iconst (v := (-1 : Int32)) hx hb dX10_read_49 (by decide) ?_
        obtain ⟨q14, hc15, h⟩ := mq_cl_go h
        refine zk_X5_fail C zt_m_X10_130 ⟨by decide, by decide⟩ hc15 hP hD hS hl.1 (Nat.le_of_ble_eq_true rfl) dX10_read_50 (fun H locs hP hD hS => ?_)
        obtain ⟨S16, eS16⟩ : ∃ y, y = q14.2 := ⟨_, rfl⟩
        rw [← eS16] at hP hD h
        refine lv_bipush (v := (-2 : Int32)) hx hb dX10_read_53 (by decide) ?_
        cases h
        exact hret H locs ls 55 dX10_read_55 hP hD hS
    · replace h := mq_it (by simpa using c18) h
      refine lv_bipush (v := (-2 : Int32)) hx hb dX10_read_32 (by decide) ?_
      cases h
      exact hret H locs ls 34 dX10_read_34 hP hD hS
  · replace h := mq_it (by simpa using c19) h
    refine lv_iconst (v := (-1 : Int32)) hx hb dX10_read_7 (by decide) ?_
    cases h
    exact hret H locs ls 8 dX10_read_8 hP hD hS
set_option maxHeartbeats 4000000 in
set_option maxRecDepth 100000 in
theorem zm_X10_read (l : Launch) (D : va_G) (a z : Nat → Nat) (cI cL cB cZ : ClassId) (sz N : Nat) (v1 : Int32) (v2 : Int32) (S : mq_St) (res : Int32 × mq_St) (h : zf_X10_read N z v1 v2 S = some res) : Met l yX10_read (zc_X10_read :: mq_T) zr_X10_read (va_Pc [.ref (a 0), .int (v1), .int (v2)] (fun U => U.heap.size = sz ∧ va_P D vwCl (wd_C a cI cL cB cZ z S) U.heap ∧ va_K D vwCl (mq_tys cI cL cB cZ) U ∧ va_D (fun _ => True) (wd_C a cI cL cB cZ z S))) (va_Qi (fun (r : Int32) (u : mq_St) => r = res.1 ∧ u = res.2) (fun u t => va_P D vwCl (wd_C a cI cL cB cZ z u) t.heap ∧ va_K D vwCl (mq_tys cI cL cB cZ) t ∧ va_D (va_A (wd_C a cI cL cB cZ z S) sz) (wd_C a cI cL cB cZ z u)) (va_A (wd_C a cI cL cB cZ z S) sz)) 0 0 (va_A (wd_C a cI cL cB cZ z S) sz) := by
  refine Met.ofW (cc := cX10_read) (maxL := 4) (ret := (some .int)) (by decide) rfl ?_
  intro p e s m args below meth c s₁ B hml hv
  obtain ⟨rfl, hsz, hP, hK, hD0⟩ := hv
  have hr := B.returns
  have hlocks := B.notSynchronized
  have hts := atoms_spec (ws := zc_X10_read :: mq_T) B.pre
  have hown : s.vm.findClass RX10 = some m.cls := findClass_of_methodNamed B.named
  subst hsz
  have hD := hD0.self (sz := s.heap.size)
  generalize hAe : va_A (wd_C a cI cL cB cZ z S) s.heap.size = A at hD ⊢
  have hA : ∀ q : Nat, s.heap.size ≤ q → A q := fun q h => by rw [← hAe]; exact Or.inr h
  have hl := lv_entry ([.ref (a 0), .int (v1), .int (v2)]) (n := 4) (Nat.le_of_ble_eq_true rfl)
  rw [lg_entry_eq]
  generalize (lg_sl ([.ref (a 0), .int (v1), .int (v2)]) ++ List.replicate (4 - (lg_sl ([.ref (a 0), .int (v1), .int (v2)])).length) Slot.unset).toArray = ls at hl ⊢
  have hl : lv_has ls 4 [(0, .ref (a 0)), (1, .int (v1)), (2, .int (v2))] := hl
  refine zw_X10_read_0 (A := A) ⟨B.exec, B.bytes, hml, hown, hts, hK, hA⟩ (fun H locs ls pc dg hP hD hS => ?_) v1 v2 S s.heap [] ls h hl hP hD va_S.rf
  exact W.iret B.exec B.bytes hr (fun t ht hW => ⟨⟨_, _, rfl, ⟨rfl, rfl⟩, by rw [ht]; exact hP, va_K.moved hW.alike hK, hD⟩, hS.F ht⟩) hS.2.2 dg
theorem zt_X10_read_c : zc_X10_read ∈ mq_T := mq_T_mem (mq_t2 (List.mem_of_getElem? (i := 192) rfl)) rfl
theorem zt_X10_read_i : Cond.instanceMethod yX10_read ∈ mq_T := mq_T_mem (mq_t2 (List.mem_of_getElem? (i := 190) rfl)) rfl
theorem zt_X10_read_s : Cond.selects RX10 yX10_read yX10_read ∈ mq_T := mq_T_mem (mq_t2 (List.mem_of_getElem? (i := 191) rfl)) rfl
theorem zt_m_X10_140 : Cond.methodLink RX10 140 yX7_has ∈ mq_T := mq_T_mem (mq_t3 (List.mem_of_getElem? (i := 163) rfl)) rfl
theorem zt_m_X10_143 : Cond.methodLink RX10 143 yX7_denialOf ∈ mq_T := mq_T_mem (mq_t3 (List.mem_of_getElem? (i := 164) rfl)) rfl
/-! ModalDesk.set(II)I -/
def zr_X10_set : Room := { frames := 2, cells := 0, slots := 0, locals := 42 }
def zc_X10_set : Cond := .code yX10_set cX10_set 3 (some .int)
def zf_X10_set (N : Nat) (z : Nat → Nat) (v1 : Int32) (v2 : Int32) (S : mq_St) : Option (Int32 × mq_St) := (mq_cp (zf_X10_isSlot N z (v1) (mq_pull S [] [] [])) (fun q1 => (if q1 = (0 : Int32) then (some ((-1 : Int32), S)) else (mq_cp (zf_X7_has N z (v2) S) (fun q3 => (if q3 = (0 : Int32) then (some ((-1 : Int32), S)) else (mq_ck (v1) 8 (mq_nS (mq_sa S 0 (upd (S.2.1 0) (v1).toNatClampNeg (v2))) (fun S6 => (mq_cp (zf_X7_denialOf N z (v2) S6) (fun q7 => (mq_ck (v1) 8 (mq_nS (mq_sa S6 1 (upd (S6.2.1 1) (v1).toNatClampNeg (q7))) (fun S10 => (mq_ck (v1) 8 (some ((S10.2.1 1 (v1).toNatClampNeg), S10)))))))))))))))))
set_option maxHeartbeats 4000000 in
set_option maxRecDepth 100000 in
theorem zw_X10_set_0 {p : Program} {l : Launch} {e : Env} {s : State} {m : MethodId} {args : Array Value} {below : List Frame} {meth : Method} {c : Code} {A : Nat → Prop} {D : va_G} {a z : Nat → Nat} {cI cL cB cZ : ClassId} {Q : State → Prop} {N : Nat} {res : Int32 × mq_St} (C : mq_C p s m args c A D cI cL cB cZ cX10_set 3 RX10 zc_X10_set) (hret : ∀ (H : Heap) (locs : List Loc) (ls : Array Slot) (pc : Nat), decode cX10_set pc = .ok (.ireturn, 1) → va_P D vwCl (wd_C a cI cL cB cZ z res.2) H → va_D A (wd_C a cI cL cB cZ z res.2) → va_S A s.heap H locs → W p l e zr_X10_set s m args below meth c H locs 0 0 Q (F0 m pc ls [.int res.1])) (v1 : Int32) (v2 : Int32) (S : mq_St) (H : Heap) (locs : List Loc) (ls : Array Slot) (h : zf_X10_set N z v1 v2 S = some res) (hl : lv_has ls 3 [(0, .ref (a 0)), (1, .int (v1)), (2, .int (v2))]) (hP : va_P D vwCl (wd_C a cI cL cB cZ z S) H) (hD : va_D A (wd_C a cI cL cB cZ z S)) (hS : va_S A s.heap H locs) : W p l e zr_X10_set s m args below meth c H locs 0 0 Q (F0 m 0 ls []) := by
  obtain ⟨hx, hb, hml, hown, hts, hK, hA⟩ := id C
  unfold zf_X10_set at h
  refine lv_iload_n hx hb dX10_set_0 rfl (lv_at hl 1 rfl) ?_
  obtain ⟨q1, hc2, h⟩ := mq_cp_go h
  refine zv_X10_isSlot (a := mq_ad a []) (z := z) [] C zt_m_X10_120 ⟨by decide, by decide⟩ hc2 rfl (by decide) hP hD hS hl.1 (Nat.le_of_ble_eq_true rfl) dX10_set_1 (fun H locs hP hD hS => ?_)
  refine lv_if_eq (tgt := 18) hx hb dX10_set_4 (by decide) (fun c13 => ?_) (fun c13 => ?_)
  · replace h := mq_it c13 h
    refine lv_iconst (v := (-1 : Int32)) hx hb dX10_set_18 (by decide) ?_
    cases h
    exact hret H locs ls 19 dX10_set_19 hP hD hS
  · replace h := mq_if c13 h
    refine lv_aload_n hx hb dX10_set_7 rfl (lv_at hl 0 rfl) ?_
    refine va_get (D := D) (ci := 10) (v := .ref (a 7)) (C := RX10) (T := TX10) (N := 12) hx hb hts (zi_X10 _) hown hK hP 0 rfl rfl 2 (by decide) (hts _ (List.mem_cons_of_mem _ zt_f_X10_22)) (fun _ h9 => h9) rfl dX10_set_8 ?_
    refine lv_iload_n hx hb dX10_set_11 rfl (lv_at hl 2 rfl) ?_
    obtain ⟨q3, hc4, h⟩ := mq_cp_go h
    refine zk_X7_has C zt_m_X10_140 ⟨by decide, by decide⟩ hc4 hP hD hS hl.1 (Nat.le_of_ble_eq_true rfl) dX10_set_12 (fun H locs hP hD hS => ?_)
    refine lv_if_ne (tgt := 20) hx hb dX10_set_15 (by decide) (fun c12 => ?_) (fun c12 => ?_)
    · replace h := mq_if c12 h
      refine lv_aload_n hx hb dX10_set_20 rfl (lv_at hl 0 rfl) ?_
      refine va_get (D := D) (ci := 10) (v := .ref (a 1)) (C := RX10) (T := TX10) (N := 12) hx hb hts (zi_X10 _) hown hK hP 0 rfl rfl 10 (by decide) (hts _ (List.mem_cons_of_mem _ zt_f_X10_90)) (fun _ h9 => h9) rfl dX10_set_21 ?_
      refine lv_iload_n hx hb dX10_set_24 rfl (lv_at hl 1 rfl) ?_
      refine lv_iload_n hx hb dX10_set_25 rfl (lv_at hl 2 rfl) ?_
      have hi5 := mq_ck_in h
      replace h := mq_ck_go h
      refine mq_iast (w := wd_C a cI cL cB cZ z) (S := S) (f := S.2.1 0) hx hb hK hP hD hS 1 0 rfl rfl hi5 dX10_set_26 0 (zs_wd_C_a_1_0 _ _ _ _ _ _ _ _) (fun S6 eS6 H locs hP hD hS => ?_)
      replace h := mq_nS_go eS6 h
      refine lv_aload_n hx hb dX10_set_27 rfl (lv_at hl 0 rfl) ?_
      refine va_get (D := D) (ci := 10) (v := .ref (a 2)) (C := RX10) (T := TX10) (N := 12) hx hb hts (zi_X10 _) hown hK hP 0 rfl rfl 11 (by decide) (hts _ (List.mem_cons_of_mem _ zt_f_X10_94)) (fun _ h9 => h9) rfl dX10_set_28 ?_
      refine lv_iload_n hx hb dX10_set_31 rfl (lv_at hl 1 rfl) ?_
      refine lv_aload_n hx hb dX10_set_32 rfl (lv_at hl 0 rfl) ?_
      refine va_get (D := D) (ci := 10) (v := .ref (a 7)) (C := RX10) (T := TX10) (N := 12) hx hb hts (zi_X10 _) hown hK hP 0 rfl rfl 2 (by decide) (hts _ (List.mem_cons_of_mem _ zt_f_X10_22)) (fun _ h9 => h9) rfl dX10_set_33 ?_
      refine lv_iload_n hx hb dX10_set_36 rfl (lv_at hl 2 rfl) ?_
      obtain ⟨q7, hc8, h⟩ := mq_cp_go h
      refine zk_X7_denialOf C zt_m_X10_143 ⟨by decide, by decide⟩ hc8 hP hD hS hl.1 (Nat.le_of_ble_eq_true rfl) dX10_set_37 (fun H locs hP hD hS => ?_)
      have hi9 := mq_ck_in h
      replace h := mq_ck_go h
      refine mq_iast (w := wd_C a cI cL cB cZ z) (S := S6) (f := S6.2.1 1) hx hb hK hP hD hS 2 0 rfl rfl hi9 dX10_set_40 1 (zs_wd_C_a_2_1 _ _ _ _ _ _ _ _) (fun S10 eS10 H locs hP hD hS => ?_)
      replace h := mq_nS_go eS10 h
      refine lv_aload_n hx hb dX10_set_41 rfl (lv_at hl 0 rfl) ?_
      refine va_get (D := D) (ci := 10) (v := .ref (a 2)) (C := RX10) (T := TX10) (N := 12) hx hb hts (zi_X10 _) hown hK hP 0 rfl rfl 11 (by decide) (hts _ (List.mem_cons_of_mem _ zt_f_X10_94)) (fun _ h9 => h9) rfl dX10_set_42 ?_
      refine lv_iload_n hx hb dX10_set_45 rfl (lv_at hl 1 rfl) ?_
      have hi11 := mq_ck_in h
      replace h := mq_ck_go h
      refine va_iald (f := S10.2.1 1) hx hb hK hP 2 0 rfl rfl hi11 dX10_set_46 ?_
      cases h
      exact hret H locs ls 47 dX10_set_47 hP hD hS
    · replace h := mq_it (by simpa using c12) h
      refine lv_iconst (v := (-1 : Int32)) hx hb dX10_set_18 (by decide) ?_
      cases h
      exact hret H locs ls 19 dX10_set_19 hP hD hS
set_option maxHeartbeats 4000000 in
set_option maxRecDepth 100000 in
theorem zm_X10_set (l : Launch) (D : va_G) (a z : Nat → Nat) (cI cL cB cZ : ClassId) (sz N : Nat) (v1 : Int32) (v2 : Int32) (S : mq_St) (res : Int32 × mq_St) (h : zf_X10_set N z v1 v2 S = some res) : Met l yX10_set (zc_X10_set :: mq_T) zr_X10_set (va_Pc [.ref (a 0), .int (v1), .int (v2)] (fun U => U.heap.size = sz ∧ va_P D vwCl (wd_C a cI cL cB cZ z S) U.heap ∧ va_K D vwCl (mq_tys cI cL cB cZ) U ∧ va_D (fun _ => True) (wd_C a cI cL cB cZ z S))) (va_Qi (fun (r : Int32) (u : mq_St) => r = res.1 ∧ u = res.2) (fun u t => va_P D vwCl (wd_C a cI cL cB cZ z u) t.heap ∧ va_K D vwCl (mq_tys cI cL cB cZ) t ∧ va_D (va_A (wd_C a cI cL cB cZ z S) sz) (wd_C a cI cL cB cZ z u)) (va_A (wd_C a cI cL cB cZ z S) sz)) 0 0 (va_A (wd_C a cI cL cB cZ z S) sz) := by
  refine Met.ofW (cc := cX10_set) (maxL := 3) (ret := (some .int)) (by decide) rfl ?_
  intro p e s m args below meth c s₁ B hml hv
  obtain ⟨rfl, hsz, hP, hK, hD0⟩ := hv
  have hr := B.returns
  have hlocks := B.notSynchronized
  have hts := atoms_spec (ws := zc_X10_set :: mq_T) B.pre
  have hown : s.vm.findClass RX10 = some m.cls := findClass_of_methodNamed B.named
  subst hsz
  have hD := hD0.self (sz := s.heap.size)
  generalize hAe : va_A (wd_C a cI cL cB cZ z S) s.heap.size = A at hD ⊢
  have hA : ∀ q : Nat, s.heap.size ≤ q → A q := fun q h => by rw [← hAe]; exact Or.inr h
  have hl := lv_entry ([.ref (a 0), .int (v1), .int (v2)]) (n := 3) (Nat.le_of_ble_eq_true rfl)
  rw [lg_entry_eq]
  generalize (lg_sl ([.ref (a 0), .int (v1), .int (v2)]) ++ List.replicate (3 - (lg_sl ([.ref (a 0), .int (v1), .int (v2)])).length) Slot.unset).toArray = ls at hl ⊢
  have hl : lv_has ls 3 [(0, .ref (a 0)), (1, .int (v1)), (2, .int (v2))] := hl
  refine zw_X10_set_0 (A := A) ⟨B.exec, B.bytes, hml, hown, hts, hK, hA⟩ (fun H locs ls pc dg hP hD hS => ?_) v1 v2 S s.heap [] ls h hl hP hD va_S.rf
  exact W.iret B.exec B.bytes hr (fun t ht hW => ⟨⟨_, _, rfl, ⟨rfl, rfl⟩, by rw [ht]; exact hP, va_K.moved hW.alike hK, hD⟩, hS.F ht⟩) hS.2.2 dg
theorem zt_X10_set_c : zc_X10_set ∈ mq_T := mq_T_mem (mq_t3 (List.mem_of_getElem? (i := 162) rfl)) rfl
theorem zt_X10_set_i : Cond.instanceMethod yX10_set ∈ mq_T := mq_T_mem (mq_t3 (List.mem_of_getElem? (i := 160) rfl)) rfl
theorem zt_X10_set_s : Cond.selects RX10 yX10_set yX10_set ∈ mq_T := mq_T_mem (mq_t3 (List.mem_of_getElem? (i := 161) rfl)) rfl
/-! ModalDesk.slot(II)I -/
def zr_X10_slot : Room := { frames := 1, cells := 0, slots := 0, locals := 20 }
def zc_X10_slot : Cond := .code yX10_slot cX10_slot 3 (some .int)
def zf_X10_slot (N : Nat) (z : Nat → Nat) (v1 : Int32) (v2 : Int32) (S : mq_St) : Option (Int32) := (mq_cp (zf_X10_isSlot N z (v1) (mq_pull S [] [] [])) (fun q1 => (if q1 = (0 : Int32) then (some ((-1 : Int32))) else (if v2 = (0 : Int32) then (mq_ck (v1) 8 (some ((S.2.1 0 (v1).toNatClampNeg)))) else (if v2 = (1 : Int32) then (mq_ck (v1) 8 (some ((S.2.1 1 (v1).toNatClampNeg)))) else (some ((-1 : Int32))))))))
set_option maxHeartbeats 4000000 in
set_option maxRecDepth 100000 in
theorem zw_X10_slot_0 {p : Program} {l : Launch} {e : Env} {s : State} {m : MethodId} {args : Array Value} {below : List Frame} {meth : Method} {c : Code} {A : Nat → Prop} {D : va_G} {a z : Nat → Nat} {cI cL cB cZ : ClassId} {Q : State → Prop} {N : Nat} {S : mq_St} {res : Int32} (C : mq_C p s m args c A D cI cL cB cZ cX10_slot 3 RX10 zc_X10_slot) (hret : ∀ (H : Heap) (locs : List Loc) (ls : Array Slot) (pc : Nat), decode cX10_slot pc = .ok (.ireturn, 1) → va_P D vwCl (wd_C a cI cL cB cZ z S) H → va_D A (wd_C a cI cL cB cZ z S) → va_S A s.heap H locs → W p l e zr_X10_slot s m args below meth c H locs 0 0 Q (F0 m pc ls [.int res])) (v1 : Int32) (v2 : Int32) (H : Heap) (locs : List Loc) (ls : Array Slot) (h : zf_X10_slot N z v1 v2 S = some res) (hl : lv_has ls 3 [(0, .ref (a 0)), (1, .int (v1)), (2, .int (v2))]) (hP : va_P D vwCl (wd_C a cI cL cB cZ z S) H) (hD : va_D A (wd_C a cI cL cB cZ z S)) (hS : va_S A s.heap H locs) : W p l e zr_X10_slot s m args below meth c H locs 0 0 Q (F0 m 0 ls []) := by
  obtain ⟨hx, hb, hml, hown, hts, hK, hA⟩ := id C
  unfold zf_X10_slot at h
  refine lv_iload_n hx hb dX10_slot_0 rfl (lv_at hl 1 rfl) ?_
  obtain ⟨q1, hc2, h⟩ := mq_cp_go h
  refine zv_X10_isSlot (a := mq_ad a []) (z := z) [] C zt_m_X10_120 ⟨by decide, by decide⟩ hc2 rfl (by decide) hP hD hS hl.1 (Nat.le_of_ble_eq_true rfl) dX10_slot_1 (fun H locs hP hD hS => ?_)
  refine lv_if_ne (tgt := 9) hx hb dX10_slot_4 (by decide) (fun c7 => ?_) (fun c7 => ?_)
  · replace h := mq_if c7 h
    refine lv_iload_n hx hb dX10_slot_9 rfl (lv_at hl 2 rfl) ?_
    refine lv_if_ne (tgt := 20) hx hb dX10_slot_10 (by decide) (fun c6 => ?_) (fun c6 => ?_)
    · replace h := mq_if c6 h
      refine lv_iload_n hx hb dX10_slot_20 rfl (lv_at hl 2 rfl) ?_
      refine lv_iconst (v := (1 : Int32)) hx hb dX10_slot_21 (by decide) ?_
      refine lv_icmp_ne (tgt := 34) hx hb dX10_slot_22 (by decide) (fun c4 => ?_) (fun c4 => ?_)
      · replace h := mq_if c4 h
        refine lv_iconst (v := (-1 : Int32)) hx hb dX10_slot_34 (by decide) ?_
        cases h
        exact hret H locs ls 35 dX10_slot_35 hP hD hS
      · replace h := mq_it (by simpa using c4) h
        refine lv_aload_n hx hb dX10_slot_25 rfl (lv_at hl 0 rfl) ?_
        refine va_get (D := D) (ci := 10) (v := .ref (a 2)) (C := RX10) (T := TX10) (N := 12) hx hb hts (zi_X10 _) hown hK hP 0 rfl rfl 11 (by decide) (hts _ (List.mem_cons_of_mem _ zt_f_X10_94)) (fun _ h9 => h9) rfl dX10_slot_26 ?_
        refine lv_iload_n hx hb dX10_slot_29 rfl (lv_at hl 1 rfl) ?_
        have hi3 := mq_ck_in h
        replace h := mq_ck_go h
        refine va_iald (f := S.2.1 1) hx hb hK hP 2 0 rfl rfl hi3 dX10_slot_30 ?_
        refine lv_goto (tgt := 35) hx hb dX10_slot_31 (by decide) ?_
        cases h
        exact hret H locs ls 35 dX10_slot_35 hP hD hS
    · replace h := mq_it (by simpa using c6) h
      refine lv_aload_n hx hb dX10_slot_13 rfl (lv_at hl 0 rfl) ?_
      refine va_get (D := D) (ci := 10) (v := .ref (a 1)) (C := RX10) (T := TX10) (N := 12) hx hb hts (zi_X10 _) hown hK hP 0 rfl rfl 10 (by decide) (hts _ (List.mem_cons_of_mem _ zt_f_X10_90)) (fun _ h9 => h9) rfl dX10_slot_14 ?_
      refine lv_iload_n hx hb dX10_slot_17 rfl (lv_at hl 1 rfl) ?_
      have hi5 := mq_ck_in h
      replace h := mq_ck_go h
      refine va_iald (f := S.2.1 0) hx hb hK hP 1 0 rfl rfl hi5 dX10_slot_18 ?_
      cases h
      exact hret H locs ls 19 dX10_slot_19 hP hD hS
  · replace h := mq_it (by simpa using c7) h
    refine lv_iconst (v := (-1 : Int32)) hx hb dX10_slot_7 (by decide) ?_
    cases h
    exact hret H locs ls 8 dX10_slot_8 hP hD hS
set_option maxHeartbeats 4000000 in
set_option maxRecDepth 100000 in
theorem zm_X10_slot (l : Launch) (D : va_G) (a z : Nat → Nat) (cI cL cB cZ : ClassId) (sz N : Nat) (v1 : Int32) (v2 : Int32) (S : mq_St) (res : Int32) (h : zf_X10_slot N z v1 v2 S = some res) : Met l yX10_slot (zc_X10_slot :: mq_T) zr_X10_slot (va_Pc [.ref (a 0), .int (v1), .int (v2)] (fun U => U.heap.size = sz ∧ va_P D vwCl (wd_C a cI cL cB cZ z S) U.heap ∧ va_K D vwCl (mq_tys cI cL cB cZ) U ∧ va_D (fun _ => True) (wd_C a cI cL cB cZ z S))) (va_Qi (fun (r : Int32) (u : mq_St) => r = res ∧ u = S) (fun u t => va_P D vwCl (wd_C a cI cL cB cZ z u) t.heap ∧ va_K D vwCl (mq_tys cI cL cB cZ) t ∧ va_D (va_A (wd_C a cI cL cB cZ z S) sz) (wd_C a cI cL cB cZ z u)) (va_A (wd_C a cI cL cB cZ z S) sz)) 0 0 (va_A (wd_C a cI cL cB cZ z S) sz) := by
  refine Met.ofW (cc := cX10_slot) (maxL := 3) (ret := (some .int)) (by decide) rfl ?_
  intro p e s m args below meth c s₁ B hml hv
  obtain ⟨rfl, hsz, hP, hK, hD0⟩ := hv
  have hr := B.returns
  have hlocks := B.notSynchronized
  have hts := atoms_spec (ws := zc_X10_slot :: mq_T) B.pre
  have hown : s.vm.findClass RX10 = some m.cls := findClass_of_methodNamed B.named
  subst hsz
  have hD := hD0.self (sz := s.heap.size)
  generalize hAe : va_A (wd_C a cI cL cB cZ z S) s.heap.size = A at hD ⊢
  have hA : ∀ q : Nat, s.heap.size ≤ q → A q := fun q h => by rw [← hAe]; exact Or.inr h
  have hl := lv_entry ([.ref (a 0), .int (v1), .int (v2)]) (n := 3) (Nat.le_of_ble_eq_true rfl)
  rw [lg_entry_eq]
  generalize (lg_sl ([.ref (a 0), .int (v1), .int (v2)]) ++ List.replicate (3 - (lg_sl ([.ref (a 0), .int (v1), .int (v2)])).length) Slot.unset).toArray = ls at hl ⊢
  have hl : lv_has ls 3 [(0, .ref (a 0)), (1, .int (v1)), (2, .int (v2))] := hl
  refine zw_X10_slot_0 (A := A) ⟨B.exec, B.bytes, hml, hown, hts, hK, hA⟩ (fun H locs ls pc dg hP hD hS => ?_) v1 v2 s.heap [] ls h hl hP hD va_S.rf
  exact W.iret B.exec B.bytes hr (fun t ht hW => ⟨⟨_, _, rfl, ⟨rfl, rfl⟩, by rw [ht]; exact hP, va_K.moved hW.alike hK, hD⟩, hS.F ht⟩) hS.2.2 dg
theorem zt_X10_slot_c : zc_X10_slot ∈ mq_T := mq_T_mem (mq_t3 (List.mem_of_getElem? (i := 171) rfl)) rfl
theorem zt_X10_slot_i : Cond.instanceMethod yX10_slot ∈ mq_T := mq_T_mem (mq_t3 (List.mem_of_getElem? (i := 169) rfl)) rfl
theorem zt_X10_slot_s : Cond.selects RX10 yX10_slot yX10_slot ∈ mq_T := mq_T_mem (mq_t3 (List.mem_of_getElem? (i := 170) rfl)) rfl
theorem zt_m_X10_108 : Cond.methodLink RX10 108 yX0_copy ∈ mq_T := mq_T_mem (mq_t2 (List.mem_of_getElem? (i := 172) rfl)) rfl
theorem zx_wd_C_wd_BB_3_4_5_6 (a z : Nat → Nat) (cI cL cB cZ : ClassId) (S X : mq_St) : mq_setM (wd_C a cI cL cB cZ z S) [3, 4, 5, 6] (wd_BB (mq_ad a [3, 4, 5, 6]) cI cL cB cZ z X) = (wd_C a cI cL cB cZ z (mq_push S X [0, 1] [2, 3] [])) := rfl
/-! ModalDesk.take()I -/
def zr_X10_take : Room := { frames := 1, cells := 0, slots := 0, locals := 22 }
def zc_X10_take : Cond := .code yX10_take cX10_take 1 (some .int)
def zf_X10_take (N : Nat) (z : Nat → Nat) (S : mq_St) : Option (Int32 × mq_St) := (mq_cl (zf_X0_copy N z (mq_pull S [0, 1] [2, 3] [])) (fun q1v q1s => mq_nS (mq_push S q1s [0, 1] [2, 3] []) (fun S3 => (mq_cp (zf_X0_size N z (mq_pull S3 [0] [2] [])) (fun q4 => (some (q4, S3)))))))
set_option maxHeartbeats 4000000 in
set_option maxRecDepth 100000 in
theorem zw_X10_take_0 {p : Program} {l : Launch} {e : Env} {s : State} {m : MethodId} {args : Array Value} {below : List Frame} {meth : Method} {c : Code} {A : Nat → Prop} {D : va_G} {a z : Nat → Nat} {cI cL cB cZ : ClassId} {Q : State → Prop} {N : Nat} {res : Int32 × mq_St} (C : mq_C p s m args c A D cI cL cB cZ cX10_take 1 RX10 zc_X10_take) (hret : ∀ (H : Heap) (locs : List Loc) (ls : Array Slot) (pc : Nat), decode cX10_take pc = .ok (.ireturn, 1) → va_P D vwCl (wd_C a cI cL cB cZ z res.2) H → va_D A (wd_C a cI cL cB cZ z res.2) → va_S A s.heap H locs → W p l e zr_X10_take s m args below meth c H locs 0 0 Q (F0 m pc ls [.int res.1])) (S : mq_St) (H : Heap) (locs : List Loc) (ls : Array Slot) (h : zf_X10_take N z S = some res) (hl : lv_has ls 1 [(0, .ref (a 0))]) (hP : va_P D vwCl (wd_C a cI cL cB cZ z S) H) (hD : va_D A (wd_C a cI cL cB cZ z S)) (hS : va_S A s.heap H locs) : W p l e zr_X10_take s m args below meth c H locs 0 0 Q (F0 m 0 ls []) := by
  obtain ⟨hx, hb, hml, hown, hts, hK, hA⟩ := id C
  unfold zf_X10_take at h
  refine lv_aload_n hx hb dX10_take_0 rfl (lv_at hl 0 rfl) ?_
  refine va_get (D := D) (ci := 10) (v := .ref (a 3)) (C := RX10) (T := TX10) (N := 12) hx hb hts (zi_X10 _) hown hK hP 0 rfl rfl 0 (by decide) (hts _ (List.mem_cons_of_mem _ zt_f_X10_10)) (fun _ h9 => h9) rfl dX10_take_1 ?_
  refine lv_aload_n hx hb dX10_take_4 rfl (lv_at hl 0 rfl) ?_
  refine va_get (D := D) (ci := 10) (v := .ref (a 5)) (C := RX10) (T := TX10) (N := 12) hx hb hts (zi_X10 _) hown hK hP 0 rfl rfl 1 (by decide) (hts _ (List.mem_cons_of_mem _ zt_f_X10_16)) (fun _ h9 => h9) rfl dX10_take_5 ?_
  obtain ⟨q1, hc2, h⟩ := mq_cl_go h
  refine zv_X0_copy (a := mq_ad a [3, 4, 5, 6]) (z := z) [3, 4, 5, 6] C zt_m_X10_108 ⟨by decide, by decide⟩ hc2 rfl (by decide) (ws' := (wd_C a cI cL cB cZ z (mq_push S q1.2 [0, 1] [2, 3] []))) (zx_wd_C_wd_BB_3_4_5_6 _ _ _ _ _ _ _ _) hP hD hS hl.1 (Nat.le_of_ble_eq_true rfl) dX10_take_8 (fun H locs hP hD hS => ?_)
  obtain ⟨S3, eS3⟩ : ∃ y, y = mq_push S q1.2 [0, 1] [2, 3] [] := ⟨_, rfl⟩
  replace h := mq_nS_go eS3 h
  rw [← eS3] at hP hD
  refine lv_aload_n hx hb dX10_take_11 rfl (lv_at hl 0 rfl) ?_
  refine va_get (D := D) (ci := 10) (v := .ref (a 3)) (C := RX10) (T := TX10) (N := 12) hx hb hts (zi_X10 _) hown hK hP 0 rfl rfl 0 (by decide) (hts _ (List.mem_cons_of_mem _ zt_f_X10_10)) (fun _ h9 => h9) rfl dX10_take_12 ?_
  obtain ⟨q4, hc5, h⟩ := mq_cp_go h
  refine zv_X0_size (a := mq_ad a [3, 4]) (z := z) [3, 4] C zt_m_X10_97 ⟨by decide, by decide⟩ hc5 rfl (by decide) hP hD hS hl.1 (Nat.le_of_ble_eq_true rfl) dX10_take_15 (fun H locs hP hD hS => ?_)
  cases h
  exact hret H locs ls 18 dX10_take_18 hP hD hS
set_option maxHeartbeats 4000000 in
set_option maxRecDepth 100000 in
theorem zm_X10_take (l : Launch) (D : va_G) (a z : Nat → Nat) (cI cL cB cZ : ClassId) (sz N : Nat) (S : mq_St) (res : Int32 × mq_St) (h : zf_X10_take N z S = some res) : Met l yX10_take (zc_X10_take :: mq_T) zr_X10_take (va_Pc [.ref (a 0)] (fun U => U.heap.size = sz ∧ va_P D vwCl (wd_C a cI cL cB cZ z S) U.heap ∧ va_K D vwCl (mq_tys cI cL cB cZ) U ∧ va_D (fun _ => True) (wd_C a cI cL cB cZ z S))) (va_Qi (fun (r : Int32) (u : mq_St) => r = res.1 ∧ u = res.2) (fun u t => va_P D vwCl (wd_C a cI cL cB cZ z u) t.heap ∧ va_K D vwCl (mq_tys cI cL cB cZ) t ∧ va_D (va_A (wd_C a cI cL cB cZ z S) sz) (wd_C a cI cL cB cZ z u)) (va_A (wd_C a cI cL cB cZ z S) sz)) 0 0 (va_A (wd_C a cI cL cB cZ z S) sz) := by
  refine Met.ofW (cc := cX10_take) (maxL := 1) (ret := (some .int)) (by decide) rfl ?_
  intro p e s m args below meth c s₁ B hml hv
  obtain ⟨rfl, hsz, hP, hK, hD0⟩ := hv
  have hr := B.returns
  have hlocks := B.notSynchronized
  have hts := atoms_spec (ws := zc_X10_take :: mq_T) B.pre
  have hown : s.vm.findClass RX10 = some m.cls := findClass_of_methodNamed B.named
  subst hsz
  have hD := hD0.self (sz := s.heap.size)
  generalize hAe : va_A (wd_C a cI cL cB cZ z S) s.heap.size = A at hD ⊢
  have hA : ∀ q : Nat, s.heap.size ≤ q → A q := fun q h => by rw [← hAe]; exact Or.inr h
  have hl := lv_entry ([.ref (a 0)]) (n := 1) (Nat.le_of_ble_eq_true rfl)
  rw [lg_entry_eq]
  generalize (lg_sl ([.ref (a 0)]) ++ List.replicate (1 - (lg_sl ([.ref (a 0)])).length) Slot.unset).toArray = ls at hl ⊢
  have hl : lv_has ls 1 [(0, .ref (a 0))] := hl
  refine zw_X10_take_0 (A := A) ⟨B.exec, B.bytes, hml, hown, hts, hK, hA⟩ (fun H locs ls pc dg hP hD hS => ?_) S s.heap [] ls h hl hP hD va_S.rf
  exact W.iret B.exec B.bytes hr (fun t ht hW => ⟨⟨_, _, rfl, ⟨rfl, rfl⟩, by rw [ht]; exact hP, va_K.moved hW.alike hK, hD⟩, hS.F ht⟩) hS.2.2 dg
theorem zt_X10_take_c : zc_X10_take ∈ mq_T := mq_T_mem (mq_t2 (List.mem_of_getElem? (i := 171) rfl)) rfl
theorem zt_X10_take_i : Cond.instanceMethod yX10_take ∈ mq_T := mq_T_mem (mq_t2 (List.mem_of_getElem? (i := 169) rfl)) rfl
theorem zt_X10_take_s : Cond.selects RX10 yX10_take yX10_take ∈ mq_T := mq_T_mem (mq_t2 (List.mem_of_getElem? (i := 170) rfl)) rfl
theorem zt_f_X10_49 : Cond.fieldLink RX10 49 "ModalDesk" "writer" "LModalDesk$Writer;" ∈ mq_T := mq_T_mem (mq_t2 (List.mem_of_getElem? (i := 108) rfl)) rfl
theorem zt_m_X10_156 : Cond.methodLink RX10 156 yX9_write ∈ mq_T := mq_T_mem (mq_t3 (List.mem_of_getElem? (i := 196) rfl)) rfl
/-! ModalDesk.tell(I)I -/
def zr_X10_tell : Room := { frames := 6, cells := 0, slots := 0, locals := 134 }
def zc_X10_tell : Cond := .code yX10_tell cX10_tell 2 (some .int)
def zf_X10_tell (N : Nat) (z : Nat → Nat) (v1 : Int32) (S : mq_St) : Option (Int32 × mq_St) := (mq_cp (zf_X7_has N z (v1) S) (fun q1 => (if q1 = (0 : Int32) then (some ((-1 : Int32), S)) else (mq_cl (zf_X9_write N z (v1) S) (fun q3v S5 => (mq_cp (zf_X0_size N z (mq_pull S5 [1] [3] [])) (fun q6 => (some (q6, S5)))))))))
set_option maxHeartbeats 4000000 in
set_option maxRecDepth 100000 in
theorem zw_X10_tell_0 {p : Program} {l : Launch} {e : Env} {s : State} {m : MethodId} {args : Array Value} {below : List Frame} {meth : Method} {c : Code} {A : Nat → Prop} {D : va_G} {a z : Nat → Nat} {cI cL cB cZ : ClassId} {Q : State → Prop} {N : Nat} {res : Int32 × mq_St} (C : mq_C p s m args c A D cI cL cB cZ cX10_tell 2 RX10 zc_X10_tell) (hret : ∀ (H : Heap) (locs : List Loc) (ls : Array Slot) (pc : Nat), decode cX10_tell pc = .ok (.ireturn, 1) → va_P D vwCl (wd_C a cI cL cB cZ z res.2) H → va_D A (wd_C a cI cL cB cZ z res.2) → va_S A s.heap H locs → W p l e zr_X10_tell s m args below meth c H locs 0 0 Q (F0 m pc ls [.int res.1])) (v1 : Int32) (S : mq_St) (H : Heap) (locs : List Loc) (ls : Array Slot) (h : zf_X10_tell N z v1 S = some res) (hl : lv_has ls 2 [(0, .ref (a 0)), (1, .int (v1))]) (hP : va_P D vwCl (wd_C a cI cL cB cZ z S) H) (hD : va_D A (wd_C a cI cL cB cZ z S)) (hS : va_S A s.heap H locs) : W p l e zr_X10_tell s m args below meth c H locs 0 0 Q (F0 m 0 ls []) := by
  obtain ⟨hx, hb, hml, hown, hts, hK, hA⟩ := id C
  unfold zf_X10_tell at h
  refine lv_aload_n hx hb dX10_tell_0 rfl (lv_at hl 0 rfl) ?_
  refine va_get (D := D) (ci := 10) (v := .ref (a 7)) (C := RX10) (T := TX10) (N := 12) hx hb hts (zi_X10 _) hown hK hP 0 rfl rfl 2 (by decide) (hts _ (List.mem_cons_of_mem _ zt_f_X10_22)) (fun _ h9 => h9) rfl dX10_tell_1 ?_
  refine lv_iload_n hx hb dX10_tell_4 rfl (lv_at hl 1 rfl) ?_
  obtain ⟨q1, hc2, h⟩ := mq_cp_go h
  refine zk_X7_has C zt_m_X10_140 ⟨by decide, by decide⟩ hc2 hP hD hS hl.1 (Nat.le_of_ble_eq_true rfl) dX10_tell_5 (fun H locs hP hD hS => ?_)
  refine lv_if_ne (tgt := 13) hx hb dX10_tell_8 (by decide) (fun c8 => ?_) (fun c8 => ?_)
  · replace h := mq_if c8 h
    refine lv_aload_n hx hb dX10_tell_13 rfl (lv_at hl 0 rfl) ?_
    refine va_get (D := D) (ci := 10) (v := .ref (a 23)) (C := RX10) (T := TX10) (N := 12) hx hb hts (zi_X10 _) hown hK hP 0 rfl rfl 5 (by decide) (hts _ (List.mem_cons_of_mem _ zt_f_X10_49)) (fun _ h9 => h9) rfl dX10_tell_14 ?_
    refine lv_iload_n hx hb dX10_tell_17 rfl (lv_at hl 1 rfl) ?_
    obtain ⟨q3, hc4, h⟩ := mq_cl_go h
    refine zk_X9_write C zt_m_X10_156 ⟨by decide, by decide⟩ hc4 hP hD hS hl.1 (Nat.le_of_ble_eq_true rfl) dX10_tell_18 (fun H locs hP hD hS => ?_)
    obtain ⟨S5, eS5⟩ : ∃ y, y = q3.2 := ⟨_, rfl⟩
    rw [← eS5] at hP hD h
    refine lv_aload_n hx hb dX10_tell_21 rfl (lv_at hl 0 rfl) ?_
    refine va_get (D := D) (ci := 10) (v := .ref (a 5)) (C := RX10) (T := TX10) (N := 12) hx hb hts (zi_X10 _) hown hK hP 0 rfl rfl 1 (by decide) (hts _ (List.mem_cons_of_mem _ zt_f_X10_16)) (fun _ h9 => h9) rfl dX10_tell_22 ?_
    obtain ⟨q6, hc7, h⟩ := mq_cp_go h
    refine zv_X0_size (a := mq_ad a [5, 6]) (z := z) [5, 6] C zt_m_X10_97 ⟨by decide, by decide⟩ hc7 rfl (by decide) hP hD hS hl.1 (Nat.le_of_ble_eq_true rfl) dX10_tell_25 (fun H locs hP hD hS => ?_)
    cases h
    exact hret H locs ls 28 dX10_tell_28 hP hD hS
  · replace h := mq_it (by simpa using c8) h
    refine lv_iconst (v := (-1 : Int32)) hx hb dX10_tell_11 (by decide) ?_
    cases h
    exact hret H locs ls 12 dX10_tell_12 hP hD hS
set_option maxHeartbeats 4000000 in
set_option maxRecDepth 100000 in
theorem zm_X10_tell (l : Launch) (D : va_G) (a z : Nat → Nat) (cI cL cB cZ : ClassId) (sz N : Nat) (v1 : Int32) (S : mq_St) (res : Int32 × mq_St) (h : zf_X10_tell N z v1 S = some res) : Met l yX10_tell (zc_X10_tell :: mq_T) zr_X10_tell (va_Pc [.ref (a 0), .int (v1)] (fun U => U.heap.size = sz ∧ va_P D vwCl (wd_C a cI cL cB cZ z S) U.heap ∧ va_K D vwCl (mq_tys cI cL cB cZ) U ∧ va_D (fun _ => True) (wd_C a cI cL cB cZ z S))) (va_Qi (fun (r : Int32) (u : mq_St) => r = res.1 ∧ u = res.2) (fun u t => va_P D vwCl (wd_C a cI cL cB cZ z u) t.heap ∧ va_K D vwCl (mq_tys cI cL cB cZ) t ∧ va_D (va_A (wd_C a cI cL cB cZ z S) sz) (wd_C a cI cL cB cZ z u)) (va_A (wd_C a cI cL cB cZ z S) sz)) 0 0 (va_A (wd_C a cI cL cB cZ z S) sz) := by
  refine Met.ofW (cc := cX10_tell) (maxL := 2) (ret := (some .int)) (by decide) rfl ?_
  intro p e s m args below meth c s₁ B hml hv
  obtain ⟨rfl, hsz, hP, hK, hD0⟩ := hv
  have hr := B.returns
  have hlocks := B.notSynchronized
  have hts := atoms_spec (ws := zc_X10_tell :: mq_T) B.pre
  have hown : s.vm.findClass RX10 = some m.cls := findClass_of_methodNamed B.named
  subst hsz
  have hD := hD0.self (sz := s.heap.size)
  generalize hAe : va_A (wd_C a cI cL cB cZ z S) s.heap.size = A at hD ⊢
  have hA : ∀ q : Nat, s.heap.size ≤ q → A q := fun q h => by rw [← hAe]; exact Or.inr h
  have hl := lv_entry ([.ref (a 0), .int (v1)]) (n := 2) (Nat.le_of_ble_eq_true rfl)
  rw [lg_entry_eq]
  generalize (lg_sl ([.ref (a 0), .int (v1)]) ++ List.replicate (2 - (lg_sl ([.ref (a 0), .int (v1)])).length) Slot.unset).toArray = ls at hl ⊢
  have hl : lv_has ls 2 [(0, .ref (a 0)), (1, .int (v1))] := hl
  refine zw_X10_tell_0 (A := A) ⟨B.exec, B.bytes, hml, hown, hts, hK, hA⟩ (fun H locs ls pc dg hP hD hS => ?_) v1 S s.heap [] ls h hl hP hD va_S.rf
  exact W.iret B.exec B.bytes hr (fun t ht hW => ⟨⟨_, _, rfl, ⟨rfl, rfl⟩, by rw [ht]; exact hP, va_K.moved hW.alike hK, hD⟩, hS.F ht⟩) hS.2.2 dg
theorem zt_X10_tell_c : zc_X10_tell ∈ mq_T := mq_T_mem (mq_t3 (List.mem_of_getElem? (i := 195) rfl)) rfl
theorem zt_X10_tell_i : Cond.instanceMethod yX10_tell ∈ mq_T := mq_T_mem (mq_t3 (List.mem_of_getElem? (i := 193) rfl)) rfl
theorem zt_X10_tell_s : Cond.selects RX10 yX10_tell yX10_tell ∈ mq_T := mq_T_mem (mq_t3 (List.mem_of_getElem? (i := 194) rfl)) rfl
theorem zt_f_X10_72 : Cond.fieldLink RX10 72 "ModalDesk" "checker" "LModalDesk$Checker;" ∈ mq_T := mq_T_mem (mq_t2 (List.mem_of_getElem? (i := 110) rfl)) rfl
theorem zt_m_X10_191 : Cond.methodLink RX10 191 yX1_isRight ∈ mq_T := mq_T_mem (mq_t4 (List.mem_of_getElem? (i := 191) rfl)) rfl
/-! ModalDesk.verify(I)I -/
def zr_X10_verify : Room := { frames := 4, cells := 0, slots := 0, locals := 95 }
def zc_X10_verify : Cond := .code yX10_verify cX10_verify 3 (some .int)
def zf_X10_verify (N : Nat) (z : Nat → Nat) (v1 : Int32) (S : mq_St) : Option (Int32 × mq_St) := (mq_cp (zf_X10_isFilled N z (v1) S) (fun q1 => (if q1 = (0 : Int32) then (some ((-1 : Int32), S)) else (mq_ck (v1) 8 (mq_cl (zf_X1_isRight N z ((S.2.1 1 (v1).toNatClampNeg)) S) (fun q4v S6 => (mq_nI (q4v) (fun x7 => (mq_cl (zf_X0_keep N z ((0 : Int32)) (mq_pull S6 [0] [2] [])) (fun q8v q8s => mq_nS (mq_push S6 q8s [0] [2] []) (fun S10 => (if x7 = (0 : Int32) then (some ((0 : Int32), S10)) else (some ((1 : Int32), S10))))))))))))))
set_option maxHeartbeats 4000000 in
set_option maxRecDepth 100000 in
theorem zw_X10_verify_0 {p : Program} {l : Launch} {e : Env} {s : State} {m : MethodId} {args : Array Value} {below : List Frame} {meth : Method} {c : Code} {A : Nat → Prop} {D : va_G} {a z : Nat → Nat} {cI cL cB cZ : ClassId} {Q : State → Prop} {N : Nat} {res : Int32 × mq_St} (C : mq_C p s m args c A D cI cL cB cZ cX10_verify 3 RX10 zc_X10_verify) (hret : ∀ (H : Heap) (locs : List Loc) (ls : Array Slot) (pc : Nat), decode cX10_verify pc = .ok (.ireturn, 1) → va_P D vwCl (wd_C a cI cL cB cZ z res.2) H → va_D A (wd_C a cI cL cB cZ z res.2) → va_S A s.heap H locs → W p l e zr_X10_verify s m args below meth c H locs 0 0 Q (F0 m pc ls [.int res.1])) (v1 : Int32) (S : mq_St) (H : Heap) (locs : List Loc) (ls : Array Slot) (h : zf_X10_verify N z v1 S = some res) (hl : lv_has ls 3 [(0, .ref (a 0)), (1, .int (v1))]) (hP : va_P D vwCl (wd_C a cI cL cB cZ z S) H) (hD : va_D A (wd_C a cI cL cB cZ z S)) (hS : va_S A s.heap H locs) : W p l e zr_X10_verify s m args below meth c H locs 0 0 Q (F0 m 0 ls []) := by
  obtain ⟨hx, hb, hml, hown, hts, hK, hA⟩ := id C
  unfold zf_X10_verify at h
  refine lv_aload_n hx hb dX10_verify_0 rfl (lv_at hl 0 rfl) ?_
  refine lv_iload_n hx hb dX10_verify_1 rfl (lv_at hl 1 rfl) ?_
  obtain ⟨q1, hc2, h⟩ := mq_cp_go h
  refine zk_X10_isFilled C zt_m_X10_159 ⟨by decide, by decide⟩ hc2 hP hD hS hl.1 (Nat.le_of_ble_eq_true rfl) dX10_verify_2 (fun H locs hP hD hS => ?_)
  refine lv_if_ne (tgt := 10) hx hb dX10_verify_5 (by decide) (fun c12 => ?_) (fun c12 => ?_)
  · replace h := mq_if c12 h
    refine lv_aload_n hx hb dX10_verify_10 rfl (lv_at hl 0 rfl) ?_
    refine va_get (D := D) (ci := 10) (v := .ref (a 43)) (C := RX10) (T := TX10) (N := 12) hx hb hts (zi_X10 _) hown hK hP 0 rfl rfl 7 (by decide) (hts _ (List.mem_cons_of_mem _ zt_f_X10_72)) (fun _ h9 => h9) rfl dX10_verify_11 ?_
    refine lv_aload_n hx hb dX10_verify_14 rfl (lv_at hl 0 rfl) ?_
    refine va_get (D := D) (ci := 10) (v := .ref (a 2)) (C := RX10) (T := TX10) (N := 12) hx hb hts (zi_X10 _) hown hK hP 0 rfl rfl 11 (by decide) (hts _ (List.mem_cons_of_mem _ zt_f_X10_94)) (fun _ h9 => h9) rfl dX10_verify_15 ?_
    refine lv_iload_n hx hb dX10_verify_18 rfl (lv_at hl 1 rfl) ?_
    have hi3 := mq_ck_in h
    replace h := mq_ck_go h
    refine va_iald (f := S.2.1 1) hx hb hK hP 2 0 rfl rfl hi3 dX10_verify_19 ?_
    obtain ⟨q4, hc5, h⟩ := mq_cl_go h
    refine zk_X1_isRight C zt_m_X10_191 ⟨by decide, by decide⟩ hc5 hP hD hS hl.1 (Nat.le_of_ble_eq_true rfl) dX10_verify_20 (fun H locs hP hD hS => ?_)
    obtain ⟨S6, eS6⟩ : ∃ y, y = q4.2 := ⟨_, rfl⟩
    rw [← eS6] at hP hD h
    refine lv_topi (fun x7 ex7 => ?_)
    replace h := mq_nI_go ex7 h
    refine lv_istore_n (lv' := [(2, .int (x7)), (0, .ref (a 0)), (1, .int (v1))]) hx hb dX10_verify_23 rfl hl (by decide) rfl (fun ls hl => ?_)
    refine lv_aload_n hx hb dX10_verify_24 rfl (lv_at hl 1 rfl) ?_
    refine va_get (D := D) (ci := 10) (v := .ref (a 3)) (C := RX10) (T := TX10) (N := 12) hx hb hts (zi_X10 _) hown hK hP 0 rfl rfl 0 (by decide) (hts _ (List.mem_cons_of_mem _ zt_f_X10_10)) (fun _ h9 => h9) rfl dX10_verify_25 ?_
    refine lv_iconst (v := (0 : Int32)) hx hb dX10_verify_28 (by decide) ?_
    obtain ⟨q8, hc9, h⟩ := mq_cl_go h
    refine zv_X0_keep (a := mq_ad a [3, 4]) (z := z) [3, 4] C zt_m_X10_104 ⟨by decide, by decide⟩ hc9 rfl (by decide) (ws' := (wd_C a cI cL cB cZ z (mq_push S6 q8.2 [0] [2] []))) (zx_wd_C_wd_B_3_4 _ _ _ _ _ _ _ _) hP hD hS hl.1 (Nat.le_of_ble_eq_true rfl) dX10_verify_29 (fun H locs hP hD hS => ?_)
    obtain ⟨S10, eS10⟩ : ∃ y, y = mq_push S6 q8.2 [0] [2] [] := ⟨_, rfl⟩
    replace h := mq_nS_go eS10 h
    rw [← eS10] at hP hD
    refine lv_pop hx hb dX10_verify_32 rfl ?_
    refine lv_iload_n hx hb dX10_verify_33 rfl (lv_at hl 0 rfl) ?_
    refine lv_if_eq (tgt := 41) hx hb dX10_verify_34 (by decide) (fun c11 => ?_) (fun c11 => ?_)
    · replace h := mq_it c11 h
      refine lv_iconst (v := (0 : Int32)) hx hb dX10_verify_41 (by decide) ?_
      cases h
      exact hret H locs ls 42 dX10_verify_42 hP hD hS
    · replace h := mq_if c11 h
      refine lv_iconst (v := (1 : Int32)) hx hb dX10_verify_37 (by decide) ?_
      refine lv_goto (tgt := 42) hx hb dX10_verify_38 (by decide) ?_
      cases h
      exact hret H locs ls 42 dX10_verify_42 hP hD hS
  · replace h := mq_it (by simpa using c12) h
    refine lv_iconst (v := (-1 : Int32)) hx hb dX10_verify_8 (by decide) ?_
    cases h
    exact hret H locs ls 9 dX10_verify_9 hP hD hS
set_option maxHeartbeats 4000000 in
set_option maxRecDepth 100000 in
theorem zm_X10_verify (l : Launch) (D : va_G) (a z : Nat → Nat) (cI cL cB cZ : ClassId) (sz N : Nat) (v1 : Int32) (S : mq_St) (res : Int32 × mq_St) (h : zf_X10_verify N z v1 S = some res) : Met l yX10_verify (zc_X10_verify :: mq_T) zr_X10_verify (va_Pc [.ref (a 0), .int (v1)] (fun U => U.heap.size = sz ∧ va_P D vwCl (wd_C a cI cL cB cZ z S) U.heap ∧ va_K D vwCl (mq_tys cI cL cB cZ) U ∧ va_D (fun _ => True) (wd_C a cI cL cB cZ z S))) (va_Qi (fun (r : Int32) (u : mq_St) => r = res.1 ∧ u = res.2) (fun u t => va_P D vwCl (wd_C a cI cL cB cZ z u) t.heap ∧ va_K D vwCl (mq_tys cI cL cB cZ) t ∧ va_D (va_A (wd_C a cI cL cB cZ z S) sz) (wd_C a cI cL cB cZ z u)) (va_A (wd_C a cI cL cB cZ z S) sz)) 0 0 (va_A (wd_C a cI cL cB cZ z S) sz) := by
  refine Met.ofW (cc := cX10_verify) (maxL := 3) (ret := (some .int)) (by decide) rfl ?_
  intro p e s m args below meth c s₁ B hml hv
  obtain ⟨rfl, hsz, hP, hK, hD0⟩ := hv
  have hr := B.returns
  have hlocks := B.notSynchronized
  have hts := atoms_spec (ws := zc_X10_verify :: mq_T) B.pre
  have hown : s.vm.findClass RX10 = some m.cls := findClass_of_methodNamed B.named
  subst hsz
  have hD := hD0.self (sz := s.heap.size)
  generalize hAe : va_A (wd_C a cI cL cB cZ z S) s.heap.size = A at hD ⊢
  have hA : ∀ q : Nat, s.heap.size ≤ q → A q := fun q h => by rw [← hAe]; exact Or.inr h
  have hl := lv_entry ([.ref (a 0), .int (v1)]) (n := 3) (Nat.le_of_ble_eq_true rfl)
  rw [lg_entry_eq]
  generalize (lg_sl ([.ref (a 0), .int (v1)]) ++ List.replicate (3 - (lg_sl ([.ref (a 0), .int (v1)])).length) Slot.unset).toArray = ls at hl ⊢
  have hl : lv_has ls 3 [(0, .ref (a 0)), (1, .int (v1))] := hl
  refine zw_X10_verify_0 (A := A) ⟨B.exec, B.bytes, hml, hown, hts, hK, hA⟩ (fun H locs ls pc dg hP hD hS => ?_) v1 S s.heap [] ls h hl hP hD va_S.rf
  exact W.iret B.exec B.bytes hr (fun t ht hW => ⟨⟨_, _, rfl, ⟨rfl, rfl⟩, by rw [ht]; exact hP, va_K.moved hW.alike hK, hD⟩, hS.F ht⟩) hS.2.2 dg
theorem zt_X10_verify_c : zc_X10_verify ∈ mq_T := mq_T_mem (mq_t4 (List.mem_of_getElem? (i := 190) rfl)) rfl
theorem zt_X10_verify_i : Cond.instanceMethod yX10_verify ∈ mq_T := mq_T_mem (mq_t4 (List.mem_of_getElem? (i := 188) rfl)) rfl
theorem zt_X10_verify_s : Cond.selects RX10 yX10_verify yX10_verify ∈ mq_T := mq_T_mem (mq_t4 (List.mem_of_getElem? (i := 189) rfl)) rfl
/-! ModalDesk.worlds()I -/
def zr_X10_worlds : Room := { frames := 1, cells := 0, slots := 0, locals := 20 }
def zc_X10_worlds : Cond := .code yX10_worlds cX10_worlds 1 (some .int)
def zf_X10_worlds (N : Nat) (z : Nat → Nat) (S : mq_St) : Option (Int32) := (mq_cp (zf_X4_size N z S) (fun q1 => (some (q1))))
set_option maxHeartbeats 4000000 in
set_option maxRecDepth 100000 in
theorem zw_X10_worlds_0 {p : Program} {l : Launch} {e : Env} {s : State} {m : MethodId} {args : Array Value} {below : List Frame} {meth : Method} {c : Code} {A : Nat → Prop} {D : va_G} {a z : Nat → Nat} {cI cL cB cZ : ClassId} {Q : State → Prop} {N : Nat} {S : mq_St} {res : Int32} (C : mq_C p s m args c A D cI cL cB cZ cX10_worlds 1 RX10 zc_X10_worlds) (hret : ∀ (H : Heap) (locs : List Loc) (ls : Array Slot) (pc : Nat), decode cX10_worlds pc = .ok (.ireturn, 1) → va_P D vwCl (wd_C a cI cL cB cZ z S) H → va_D A (wd_C a cI cL cB cZ z S) → va_S A s.heap H locs → W p l e zr_X10_worlds s m args below meth c H locs 0 0 Q (F0 m pc ls [.int res])) (H : Heap) (locs : List Loc) (ls : Array Slot) (h : zf_X10_worlds N z S = some res) (hl : lv_has ls 1 [(0, .ref (a 0))]) (hP : va_P D vwCl (wd_C a cI cL cB cZ z S) H) (hD : va_D A (wd_C a cI cL cB cZ z S)) (hS : va_S A s.heap H locs) : W p l e zr_X10_worlds s m args below meth c H locs 0 0 Q (F0 m 0 ls []) := by
  obtain ⟨hx, hb, hml, hown, hts, hK, hA⟩ := id C
  unfold zf_X10_worlds at h
  refine lv_aload_n hx hb dX10_worlds_0 rfl (lv_at hl 0 rfl) ?_
  refine va_get (D := D) (ci := 10) (v := .ref (a 46)) (C := RX10) (T := TX10) (N := 12) hx hb hts (zi_X10 _) hown hK hP 0 rfl rfl 8 (by decide) (hts _ (List.mem_cons_of_mem _ zt_f_X10_79)) (fun _ h9 => h9) rfl dX10_worlds_1 ?_
  obtain ⟨q1, hc2, h⟩ := mq_cp_go h
  refine zk_X4_size C zt_m_X10_194 ⟨by decide, by decide⟩ hc2 hP hD hS hl.1 (Nat.le_of_ble_eq_true rfl) dX10_worlds_4 (fun H locs hP hD hS => ?_)
  cases h
  exact hret H locs ls 7 dX10_worlds_7 hP hD hS
set_option maxHeartbeats 4000000 in
set_option maxRecDepth 100000 in
theorem zm_X10_worlds (l : Launch) (D : va_G) (a z : Nat → Nat) (cI cL cB cZ : ClassId) (sz N : Nat) (S : mq_St) (res : Int32) (h : zf_X10_worlds N z S = some res) : Met l yX10_worlds (zc_X10_worlds :: mq_T) zr_X10_worlds (va_Pc [.ref (a 0)] (fun U => U.heap.size = sz ∧ va_P D vwCl (wd_C a cI cL cB cZ z S) U.heap ∧ va_K D vwCl (mq_tys cI cL cB cZ) U ∧ va_D (fun _ => True) (wd_C a cI cL cB cZ z S))) (va_Qi (fun (r : Int32) (u : mq_St) => r = res ∧ u = S) (fun u t => va_P D vwCl (wd_C a cI cL cB cZ z u) t.heap ∧ va_K D vwCl (mq_tys cI cL cB cZ) t ∧ va_D (va_A (wd_C a cI cL cB cZ z S) sz) (wd_C a cI cL cB cZ z u)) (va_A (wd_C a cI cL cB cZ z S) sz)) 0 0 (va_A (wd_C a cI cL cB cZ z S) sz) := by
  refine Met.ofW (cc := cX10_worlds) (maxL := 1) (ret := (some .int)) (by decide) rfl ?_
  intro p e s m args below meth c s₁ B hml hv
  obtain ⟨rfl, hsz, hP, hK, hD0⟩ := hv
  have hr := B.returns
  have hlocks := B.notSynchronized
  have hts := atoms_spec (ws := zc_X10_worlds :: mq_T) B.pre
  have hown : s.vm.findClass RX10 = some m.cls := findClass_of_methodNamed B.named
  subst hsz
  have hD := hD0.self (sz := s.heap.size)
  generalize hAe : va_A (wd_C a cI cL cB cZ z S) s.heap.size = A at hD ⊢
  have hA : ∀ q : Nat, s.heap.size ≤ q → A q := fun q h => by rw [← hAe]; exact Or.inr h
  have hl := lv_entry ([.ref (a 0)]) (n := 1) (Nat.le_of_ble_eq_true rfl)
  rw [lg_entry_eq]
  generalize (lg_sl ([.ref (a 0)]) ++ List.replicate (1 - (lg_sl ([.ref (a 0)])).length) Slot.unset).toArray = ls at hl ⊢
  have hl : lv_has ls 1 [(0, .ref (a 0))] := hl
  refine zw_X10_worlds_0 (A := A) ⟨B.exec, B.bytes, hml, hown, hts, hK, hA⟩ (fun H locs ls pc dg hP hD hS => ?_) s.heap [] ls h hl hP hD va_S.rf
  exact W.iret B.exec B.bytes hr (fun t ht hW => ⟨⟨_, _, rfl, ⟨rfl, rfl⟩, by rw [ht]; exact hP, va_K.moved hW.alike hK, hD⟩, hS.F ht⟩) hS.2.2 dg
theorem zt_X10_worlds_c : zc_X10_worlds ∈ mq_T := mq_T_mem (mq_t4 (List.mem_of_getElem? (i := 218) rfl)) rfl
theorem zt_X10_worlds_i : Cond.instanceMethod yX10_worlds ∈ mq_T := mq_T_mem (mq_t4 (List.mem_of_getElem? (i := 216) rfl)) rfl
theorem zt_X10_worlds_s : Cond.selects RX10 yX10_worlds yX10_worlds ∈ mq_T := mq_T_mem (mq_t4 (List.mem_of_getElem? (i := 217) rfl)) rfl
