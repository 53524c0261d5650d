def wd_S (a : Nat → Nat) (cI cL cB cZ : ClassId) (z : Nat → Nat) (S : mq_St) : va_W := [(a 0, .inr (6, [.ref (a 1)])), (a 1, .inl (cL, (z 0), .inr (.inl (S.2.2 0))))]
theorem zt_f_X6_17 : Cond.fieldLink RX6 17 "ModalDesk$Sets" "words" "[J" ∈ mq_T := mq_T_mem (mq_t1 (List.mem_of_getElem? (i := 56) rfl)) rfl
theorem zi_X6 (c1 : Cond) : ∀ w ∈ u_ws RX6 TX6 1, w ∈ c1 :: mq_T := fun w h => List.mem_cons_of_mem _ (mq_T_mem (mq_inl [(1, 57)] (by decide +kernel) w h) ((by decide +kernel : ∀ w ∈ u_ws RX6 TX6 1, goodWord w = true) w h))
/-! ModalDesk$Sets.isPlace(II)Z -/
def zr_X6_isPlace : Room := { frames := 0, cells := 0, slots := 0, locals := 0 }
def zc_X6_isPlace : Cond := .code yX6_isPlace cX6_isPlace 3 (some .boolean)
def zf_X6_isPlace (N : Nat) (z : Nat → Nat) (v1 : Int32) (v2 : Int32) (S : mq_St) : Option (Int32) := (if v2 < (0 : Int32) then (mq_cz ((0 : Int32)) (some ((0 : Int32)))) else (if (320 : Int32) ≤ v2 then (mq_cz ((0 : Int32)) (some ((0 : Int32)))) else (if v1 < (0 : Int32) then (mq_cz ((0 : Int32)) (some ((0 : Int32)))) else (if ((Int32.ofNat (z 0)) / (5 : Int32)) ≤ v1 then (mq_cz ((0 : Int32)) (some ((0 : Int32)))) else (mq_cz ((1 : Int32)) (some ((1 : Int32))))))))
set_option maxHeartbeats 4000000 in
set_option maxRecDepth 100000 in
theorem zw_X6_isPlace_0 {p : Program} {l : Launch} {e : Env} {s : State} {m : MethodId} {args : Array Value} {below : List Frame} {meth : Method} {c : Code} {A : Nat → Prop} {D : va_G} {a z : Nat → Nat} {cI cL cB cZ : ClassId} {Q : State → Prop} {N : Nat} {S : mq_St} {res : Int32} (C : mq_C p s m args c A D cI cL cB cZ cX6_isPlace 3 RX6 zc_X6_isPlace) (hret : ∀ (H : Heap) (locs : List Loc) (ls : Array Slot) (pc : Nat), decode cX6_isPlace pc = .ok (.ireturn, 1) → narrow .boolean (.int res) = .int res → va_P D vwCl (wd_S a cI cL cB cZ z S) H → va_D A (wd_S a cI cL cB cZ z S) → va_S A s.heap H locs → W p l e zr_X6_isPlace s m args below meth c H locs 0 0 Q (F0 m pc ls [.int res])) (v1 : Int32) (v2 : Int32) (H : Heap) (locs : List Loc) (ls : Array Slot) (h : zf_X6_isPlace N z v1 v2 S = some res) (hl : lv_has ls 3 [(0, .ref (a 0)), (1, .int (v1)), (2, .int (v2))]) (hP : va_P D vwCl (wd_S a cI cL cB cZ z S) H) (hD : va_D A (wd_S a cI cL cB cZ z S)) (hS : va_S A s.heap H locs) : W p l e zr_X6_isPlace s m args below meth c H locs 0 0 Q (F0 m 0 ls []) := by
  obtain ⟨hx, hb, hml, hown, hts, hK, hA⟩ := id C
  unfold zf_X6_isPlace at h
  refine lv_iload_n hx hb dX6_isPlace_0 rfl (lv_at hl 2 rfl) ?_
  refine lv_if_lt (tgt := 30) hx hb dX6_isPlace_1 (by decide) (fun c9 => ?_) (fun c9 => ?_)
  · replace h := mq_it c9 h
    refine lv_iconst (v := (0 : Int32)) hx hb dX6_isPlace_30 (by decide) ?_
    have hz1 := mq_cz_in h
    replace h := mq_cz_go h
    cases h
    exact hret H locs ls 31 dX6_isPlace_31 hz1.1 hP hD hS
  · replace h := mq_if c9 h
    refine lv_iload_n hx hb dX6_isPlace_4 rfl (lv_at hl 2 rfl) ?_
    refine lv_sipush (v := (320 : Int32)) hx hb dX6_isPlace_5 (by decide) ?_
    refine lv_icmp_ge (tgt := 30) hx hb dX6_isPlace_8 (by decide) (fun c8 => ?_) (fun c8 => ?_)
    · replace h := mq_it c8 h
      refine lv_iconst (v := (0 : Int32)) hx hb dX6_isPlace_30 (by decide) ?_
      have hz2 := mq_cz_in h
      replace h := mq_cz_go h
      cases h
      exact hret H locs ls 31 dX6_isPlace_31 hz2.1 hP hD hS
    · replace h := mq_if c8 h
      refine lv_iload_n hx hb dX6_isPlace_11 rfl (lv_at hl 1 rfl) ?_
      refine lv_if_lt (tgt := 30) hx hb dX6_isPlace_12 (by decide) (fun c7 => ?_) (fun c7 => ?_)
      · replace h := mq_it c7 h
        refine lv_iconst (v := (0 : Int32)) hx hb dX6_isPlace_30 (by decide) ?_
        have hz3 := mq_cz_in h
        replace h := mq_cz_go h
        cases h
        exact hret H locs ls 31 dX6_isPlace_31 hz3.1 hP hD hS
      · replace h := mq_if c7 h
        refine lv_iload_n hx hb dX6_isPlace_15 rfl (lv_at hl 1 rfl) ?_
        refine lv_aload_n hx hb dX6_isPlace_16 rfl (lv_at hl 0 rfl) ?_
        refine va_get (D := D) (ci := 6) (v := .ref (a 1)) (C := RX6) (T := TX6) (N := 1) hx hb hts (zi_X6 _) hown hK hP 0 rfl rfl 0 (by decide) (hts _ (List.mem_cons_of_mem _ zt_f_X6_17)) (fun _ h9 => h9) rfl dX6_isPlace_17 ?_
        refine va_alen hx hb hK hP 1 1 (v := (Int32.ofNat (z 0))) rfl rfl rfl dX6_isPlace_20 ?_
        refine lv_iconst (v := (5 : Int32)) hx hb dX6_isPlace_21 (by decide) ?_
        refine lv_idiv hx hb dX6_isPlace_22 (by decide) ?_
        refine lv_icmp_ge (tgt := 30) hx hb dX6_isPlace_23 (by decide) (fun c6 => ?_) (fun c6 => ?_)
        · replace h := mq_it c6 h
          refine lv_iconst (v := (0 : Int32)) hx hb dX6_isPlace_30 (by decide) ?_
          have hz4 := mq_cz_in h
          replace h := mq_cz_go h
          cases h
          exact hret H locs ls 31 dX6_isPlace_31 hz4.1 hP hD hS
        · replace h := mq_if c6 h
          refine lv_iconst (v := (1 : Int32)) hx hb dX6_isPlace_26 (by decide) ?_
          refine lv_goto (tgt := 31) hx hb dX6_isPlace_27 (by decide) ?_
          have hz5 := mq_cz_in h
          replace h := mq_cz_go h
          cases h
          exact hret H locs ls 31 dX6_isPlace_31 hz5.1 hP hD hS
set_option maxHeartbeats 4000000 in
set_option maxRecDepth 100000 in
theorem zm_X6_isPlace (l : Launch) (D : va_G) (a z : Nat → Nat) (cI cL cB cZ : ClassId) (sz N : Nat) (v1 : Int32) (v2 : Int32) (S : mq_St) (res : Int32) (h : zf_X6_isPlace N z v1 v2 S = some res) : Met l yX6_isPlace (zc_X6_isPlace :: mq_T) zr_X6_isPlace (va_Pc [.ref (a 0), .int (v1), .int (v2)] (fun U => U.heap.size = sz ∧ va_P D vwCl (wd_S a cI cL cB cZ z S) U.heap ∧ va_K D vwCl (mq_tys cI cL cB cZ) U ∧ va_D (fun _ => True) (wd_S a cI cL cB cZ z S))) (va_Qi (fun (r : Int32) (u : mq_St) => r = res ∧ u = S) (fun u t => va_P D vwCl (wd_S a cI cL cB cZ z u) t.heap ∧ va_K D vwCl (mq_tys cI cL cB cZ) t ∧ va_D (va_A (wd_S a cI cL cB cZ z S) sz) (wd_S a cI cL cB cZ z u)) (va_A (wd_S a cI cL cB cZ z S) sz)) 0 0 (va_A (wd_S a cI cL cB cZ z S) sz) := by
  refine Met.ofW (cc := cX6_isPlace) (maxL := 3) (ret := (some .boolean)) (by decide) rfl ?_
  intro p e s m args below meth c s₁ B hml hv
  obtain ⟨rfl, hsz, hP, hK, hD0⟩ := hv
  have hr := B.returns
  have hlocks := B.notSynchronized
  have hts := atoms_spec (ws := zc_X6_isPlace :: mq_T) B.pre
  have hown : s.vm.findClass RX6 = some m.cls := findClass_of_methodNamed B.named
  subst hsz
  have hD := hD0.self (sz := s.heap.size)
  generalize hAe : va_A (wd_S a cI cL cB cZ z S) s.heap.size = A at hD ⊢
  have hA : ∀ q : Nat, s.heap.size ≤ q → A q := fun q h => by rw [← hAe]; exact Or.inr h
  have hl := lv_entry ([.ref (a 0), .int (v1), .int (v2)]) (n := 3) (Nat.le_of_ble_eq_true rfl)
  rw [lg_entry_eq]
  generalize (lg_sl ([.ref (a 0), .int (v1), .int (v2)]) ++ List.replicate (3 - (lg_sl ([.ref (a 0), .int (v1), .int (v2)])).length) Slot.unset).toArray = ls at hl ⊢
  have hl : lv_has ls 3 [(0, .ref (a 0)), (1, .int (v1)), (2, .int (v2))] := hl
  refine zw_X6_isPlace_0 (A := A) ⟨B.exec, B.bytes, hml, hown, hts, hK, hA⟩ (fun H locs ls pc dg hz hP hD hS => ?_) v1 v2 s.heap [] ls h hl hP hD va_S.rf
  exact W.zret B.exec B.bytes hr hz (fun t ht hW => ⟨⟨_, _, rfl, ⟨rfl, rfl⟩, by rw [ht]; exact hP, va_K.moved hW.alike hK, hD⟩, hS.F ht⟩) hS.2.2 dg
theorem zt_X6_isPlace_c : zc_X6_isPlace ∈ mq_T := mq_T_mem (mq_t1 (List.mem_of_getElem? (i := 72) rfl)) rfl
theorem zt_X6_isPlace_i : Cond.instanceMethod yX6_isPlace ∈ mq_T := mq_T_mem (mq_t1 (List.mem_of_getElem? (i := 71) rfl)) rfl
theorem zt_X6_isPlace_s : Cond.selects RX6 yX6_isPlace yX6_isPlace ∈ mq_T := mq_T_at 1 (by decide +kernel)
theorem zt_ini_X6 : Cond.initialized RX6 ∈ mq_T := mq_T_mem (mq_t1 (List.mem_of_getElem? (i := 4) rfl)) rfl
set_option maxHeartbeats 4000000 in
theorem zk_X6_isPlace {p : Program} {l : Launch} {e : Env} {R : Room} {s : State} {m : MethodId} {args : Array Value} {below : List Frame} {meth : Method} {c : Code} {A : Nat → Prop} {D : va_G} {a z : Nat → Nat} {cI cL cB cZ : ClassId} {Q : State → Prop} {cc : ByteArray} {nL idx pc N : Nat} {own : String} {c1 : Cond} {H : Heap} {locs : List Loc} {ls : Array Slot} {rest : List Value} {S : mq_St} {res : Int32} {v1 : Int32} {v2 : Int32} (C : mq_C p s m args c A D cI cL cB cZ cc nL own c1) (hlk : Cond.methodLink own idx yX6_isPlace ∈ mq_T) (hR : zr_X6_isPlace.frames + 1 ≤ R.frames ∧ 8 + (3 + 11) + zr_X6_isPlace.locals ≤ R.locals) (h : zf_X6_isPlace N z v1 v2 S = some res) (hP : va_P D vwCl (wd_S a cI cL cB cZ z S) H) (hD : va_D A (wd_S a cI cL cB cZ z S)) (hS : va_S A s.heap H locs) (hls : ls.size = nL) (hrest : (rest.map fun v => v.category).sum ≤ 8) (hdg : decode cc pc = .ok (.invokevirtual idx, 3)) (kk : ∀ (H1 : Heap) (locs1 : List Loc), va_P D vwCl (wd_S a cI cL cB cZ z S) H1 → va_D A (wd_S a cI cL cB cZ z S) → va_S A s.heap H1 locs1 → W p l e R s m args below meth c H1 locs1 0 0 Q (F0 m (pc + 3) ls (.int res :: rest))) : W p l e R s m args below meth c H locs 0 0 Q (F0 m pc ls (.int (v2) :: .int (v1) :: .ref (a 0) :: rest)) := by
  obtain ⟨hx, hb, hml, hown, hts, hK, hA⟩ := C
  have hFc := mq_freeI hD hS hA
  refine va_calli (va_runV (As := [.int (v1), .int (v2)]) (rest := rest) ⟨hx, hb, hml, hown, hts⟩ (zm_X6_isPlace l D a z cI cL cB cZ H.size N v1 v2 S res h) (cwV 2 hts (mq_goodL (mq_wsV hlk zt_X6_isPlace_i zt_X6_isPlace_s zt_ini_X6 zt_X6_isPlace_c)) rfl rfl rfl (by decide +kernel) hR) ⟨fun a U g mk q => ⟨q.1, q.2.1, q.2.2.1, va_K.moved (u := U) (U := U.calling g mk a) (Vm.Alike.refl U.vm) q.2.2.2.1, q.2.2.2.2⟩, va_recv hK hP (ci := 6) (q0 := 0) rfl rfl, fun U hU hW => ⟨rfl, by rw [hU], by rw [hU]; exact hP, va_K.moved hW.alike hK, hD.weaken (fun _ _ _ _ => trivial)⟩⟩ rfl rfl hls rfl (lv_room hrest) hdg ⟨Nat.zero_le _, Nat.zero_le _⟩) hS (fun q _ h => hFc q h) hFc (fun r u t H1 locs ht hvm hw hB hz1 hk1 hS => ?_)
  obtain ⟨rfl, rfl⟩ := hw
  obtain ⟨hP1, hK1, hD1⟩ := hB
  rw [ht] at hP1
  exact kk H1 locs hP1 (hD1.weaken (fun _ _ _ h => hFc _ h)) hS
set_option maxHeartbeats 4000000 in
theorem zv_X6_isPlace {p : Program} {l : Launch} {e : Env} {R : Room} {s : State} {m : MethodId} {args : Array Value} {below : List Frame} {meth : Method} {c : Code} {A : Nat → Prop} {D : va_G} {a z : Nat → Nat} {cI cL cB cZ : ClassId} {Q : State → Prop} {cc : ByteArray} {nL idx pc N : Nat} {own : String} {c1 : Cond} {H : Heap} {locs : List Loc} {ls : Array Slot} {rest : List Value} {S : mq_St} {res : Int32} {v1 : Int32} {v2 : Int32} {ws : va_W} (is : List Nat) (C : mq_C p s m args c A D cI cL cB cZ cc nL own c1) (hlk : Cond.methodLink own idx yX6_isPlace ∈ mq_T) (hR : zr_X6_isPlace.frames + 1 ≤ R.frames ∧ 8 + (3 + 11) + zr_X6_isPlace.locals ≤ R.locals) (h : zf_X6_isPlace N z v1 v2 S = some res) (hC : is.map (fun i => ws[i]?) = (wd_S a cI cL cB cZ z S).map some) (hnd : va_nd is = true) (hP : va_P D vwCl ws H) (hD : va_D A ws) (hS : va_S A s.heap H locs) (hls : ls.size = nL) (hrest : (rest.map fun v => v.category).sum ≤ 8) (hdg : decode cc pc = .ok (.invokevirtual idx, 3)) (kk : ∀ (H1 : Heap) (locs1 : List Loc), va_P D vwCl ws H1 → va_D A ws → va_S A s.heap H1 locs1 → W p l e R s m args below meth c H1 locs1 0 0 Q (F0 m (pc + 3) ls (.int res :: rest))) : W p l e R s m args below meth c H locs 0 0 Q (F0 m pc ls (.int (v2) :: .int (v1) :: .ref (a 0) :: rest)) := by
  obtain ⟨hx, hb, hml, hown, hts, hK, hA⟩ := C
  have hPc := mq_subP hP is hC
  have hDc := hD.sub is hnd hC
  have hFc := va_free hD hS hA is hC
  refine va_calli (va_runV (As := [.int (v1), .int (v2)]) (rest := rest) ⟨hx, hb, hml, hown, hts⟩ (zm_X6_isPlace l D a z cI cL cB cZ H.size N v1 v2 S res h) (cwV 2 hts (mq_goodL (mq_wsV hlk zt_X6_isPlace_i zt_X6_isPlace_s zt_ini_X6 zt_X6_isPlace_c)) rfl rfl rfl (by decide +kernel) hR) ⟨fun a U g mk q => ⟨q.1, q.2.1, q.2.2.1, va_K.moved (u := U) (U := U.calling g mk a) (Vm.Alike.refl U.vm) q.2.2.2.1, q.2.2.2.2⟩, va_recv hK hPc (ci := 6) (q0 := 0) rfl rfl, fun U hU hW => ⟨rfl, by rw [hU], by rw [hU]; exact hPc, va_K.moved hW.alike hK, hDc.weaken (fun _ _ _ _ => trivial)⟩⟩ rfl rfl hls rfl (lv_room hrest) hdg ⟨Nat.zero_le _, Nat.zero_le _⟩) hS (fun q _ h => hFc q h) hFc (fun r u t H1 locs ht hvm hw1 hB hz1 hk1 hS => ?_)
  obtain ⟨rfl, rfl⟩ := hw1
  obtain ⟨hP1, hK1, hD1⟩ := hB
  rw [ht] at hP1
  obtain ⟨hP2, hD2⟩ := mq_join hP hD is hC rfl hk1 hP1
  rw [mq_setM_same is _ ws hC] at hP2 hD2
  exact kk H1 locs hP2 hD2 hS
theorem zt_m_X6_21 : Cond.methodLink RX6 21 yX6_isPlace ∈ mq_T := mq_T_mem (mq_t1 (List.mem_of_getElem? (i := 69) rfl)) rfl
/-! ModalDesk$Sets.has(II)Z -/
def zr_X6_has : Room := { frames := 1, cells := 0, slots := 0, locals := 22 }
def zc_X6_has : Cond := .code yX6_has cX6_has 3 (some .boolean)
def zf_X6_has (N : Nat) (z : Nat → Nat) (v1 : Int32) (v2 : Int32) (S : mq_St) : Option (Int32) := (mq_cp (zf_X6_isPlace N z (v1) (v2) S) (fun q1 => (if q1 = (0 : Int32) then (mq_cz ((0 : Int32)) (some ((0 : Int32)))) else (mq_ck (((v1 * (5 : Int32)) + (v2 >>> ((6 : Int32) &&& (31 : Int32))))) (z 0) (if (lg_cmp ((mq_lushr (S.2.2 0 (((v1 * (5 : Int32)) + (v2 >>> ((6 : Int32) &&& (31 : Int32))))).toNatClampNeg) (v2 &&& (63 : Int32))) &&& (1 : Int64)) (0 : Int64)) = (0 : Int32) then (mq_cz ((0 : Int32)) (some ((0 : Int32)))) else (mq_cz ((1 : Int32)) (some ((1 : Int32)))))))))
set_option maxHeartbeats 4000000 in
set_option maxRecDepth 100000 in
theorem zw_X6_has_0 {p : Program} {l : Launch} {e : Env} {s : State} {m : MethodId} {args : Array Value} {below : List Frame} {meth : Method} {c : Code} {A : Nat → Prop} {D : va_G} {a z : Nat → Nat} {cI cL cB cZ : ClassId} {Q : State → Prop} {N : Nat} {S : mq_St} {res : Int32} (C : mq_C p s m args c A D cI cL cB cZ cX6_has 3 RX6 zc_X6_has) (hret : ∀ (H : Heap) (locs : List Loc) (ls : Array Slot) (pc : Nat), decode cX6_has pc = .ok (.ireturn, 1) → narrow .boolean (.int res) = .int res → va_P D vwCl (wd_S a cI cL cB cZ z S) H → va_D A (wd_S a cI cL cB cZ z S) → va_S A s.heap H locs → W p l e zr_X6_has s m args below meth c H locs 0 0 Q (F0 m pc ls [.int res])) (v1 : Int32) (v2 : Int32) (H : Heap) (locs : List Loc) (ls : Array Slot) (h : zf_X6_has N z v1 v2 S = some res) (hl : lv_has ls 3 [(0, .ref (a 0)), (1, .int (v1)), (2, .int (v2))]) (hP : va_P D vwCl (wd_S a cI cL cB cZ z S) H) (hD : va_D A (wd_S a cI cL cB cZ z S)) (hS : va_S A s.heap H locs) : W p l e zr_X6_has s m args below meth c H locs 0 0 Q (F0 m 0 ls []) := by
  obtain ⟨hx, hb, hml, hown, hts, hK, hA⟩ := id C
  unfold zf_X6_has at h
  refine lv_aload_n hx hb dX6_has_0 rfl (lv_at hl 0 rfl) ?_
  refine lv_iload_n hx hb dX6_has_1 rfl (lv_at hl 1 rfl) ?_
  refine lv_iload_n hx hb dX6_has_2 rfl (lv_at hl 2 rfl) ?_
  obtain ⟨q1, hc2, h⟩ := mq_cp_go h
  refine zk_X6_isPlace C zt_m_X6_21 ⟨by decide, by decide⟩ hc2 hP hD hS hl.1 (Nat.le_of_ble_eq_true rfl) dX6_has_3 (fun H locs hP hD hS => ?_)
  refine lv_if_eq (tgt := 38) hx hb dX6_has_6 (by decide) (fun c8 => ?_) (fun c8 => ?_)
  · replace h := mq_it c8 h
    refine lv_iconst (v := (0 : Int32)) hx hb dX6_has_38 (by decide) ?_
    have hz3 := mq_cz_in h
    replace h := mq_cz_go h
    cases h
    exact hret H locs ls 39 dX6_has_39 hz3.1 hP hD hS
  · replace h := mq_if c8 h
    refine lv_aload_n hx hb dX6_has_9 rfl (lv_at hl 0 rfl) ?_
    refine va_get (D := D) (ci := 6) (v := .ref (a 1)) (C := RX6) (T := TX6) (N := 1) hx hb hts (zi_X6 _) hown hK hP 0 rfl rfl 0 (by decide) (hts _ (List.mem_cons_of_mem _ zt_f_X6_17)) (fun _ h9 => h9) rfl dX6_has_10 ?_
    refine lv_iload_n hx hb dX6_has_13 rfl (lv_at hl 1 rfl) ?_
    refine lv_iconst (v := (5 : Int32)) hx hb dX6_has_14 (by decide) ?_
    refine lv_imul hx hb dX6_has_15 ?_
    refine lv_iload_n hx hb dX6_has_16 rfl (lv_at hl 2 rfl) ?_
    refine lv_bipush (v := (6 : Int32)) hx hb dX6_has_17 (by decide) ?_
    refine lv_ishr hx hb dX6_has_19 ?_
    refine lv_iadd hx hb dX6_has_20 ?_
    have hi4 := mq_ck_in h
    replace h := mq_ck_go h
    refine va_lald (f := S.2.2 0) hx hb hK hP 1 1 rfl rfl hi4 dX6_has_21 ?_
    refine lv_iload_n hx hb dX6_has_22 rfl (lv_at hl 2 rfl) ?_
    refine lv_bipush (v := (63 : Int32)) hx hb dX6_has_23 (by decide) ?_
    refine lv_iand hx hb dX6_has_25 ?_
    refine lv_lushr (v := (mq_lushr (S.2.2 0 (((v1 * (5 : Int32)) + (v2 >>> ((6 : Int32) &&& (31 : Int32))))).toNatClampNeg) (v2 &&& (63 : Int32)))) hx hb dX6_has_26 rfl ?_
    refine lv_lconst (v := 1) hx hb dX6_has_27 (by decide) ?_
    refine lv_land hx hb dX6_has_28 ?_
    refine lv_lconst (v := 0) hx hb dX6_has_29 (by decide) ?_
    refine W.lcmp hx hb dX6_has_30 ?_
    refine lv_if_eq (tgt := 38) hx hb dX6_has_31 (by decide) (fun c7 => ?_) (fun c7 => ?_)
    · replace h := mq_it c7 h
      refine lv_iconst (v := (0 : Int32)) hx hb dX6_has_38 (by decide) ?_
      have hz5 := mq_cz_in h
      replace h := mq_cz_go h
      cases h
      exact hret H locs ls 39 dX6_has_39 hz5.1 hP hD hS
    · replace h := mq_if c7 h
      refine lv_iconst (v := (1 : Int32)) hx hb dX6_has_34 (by decide) ?_
      refine lv_goto (tgt := 39) hx hb dX6_has_35 (by decide) ?_
      have hz6 := mq_cz_in h
      replace h := mq_cz_go h
      cases h
      exact hret H locs ls 39 dX6_has_39 hz6.1 hP hD hS
set_option maxHeartbeats 4000000 in
set_option maxRecDepth 100000 in
theorem zm_X6_has (l : Launch) (D : va_G) (a z : Nat → Nat) (cI cL cB cZ : ClassId) (sz N : Nat) (v1 : Int32) (v2 : Int32) (S : mq_St) (res : Int32) (h : zf_X6_has N z v1 v2 S = some res) : Met l yX6_has (zc_X6_has :: mq_T) zr_X6_has (va_Pc [.ref (a 0), .int (v1), .int (v2)] (fun U => U.heap.size = sz ∧ va_P D vwCl (wd_S a cI cL cB cZ z S) U.heap ∧ va_K D vwCl (mq_tys cI cL cB cZ) U ∧ va_D (fun _ => True) (wd_S a cI cL cB cZ z S))) (va_Qi (fun (r : Int32) (u : mq_St) => r = res ∧ u = S) (fun u t => va_P D vwCl (wd_S a cI cL cB cZ z u) t.heap ∧ va_K D vwCl (mq_tys cI cL cB cZ) t ∧ va_D (va_A (wd_S a cI cL cB cZ z S) sz) (wd_S a cI cL cB cZ z u)) (va_A (wd_S a cI cL cB cZ z S) sz)) 0 0 (va_A (wd_S a cI cL cB cZ z S) sz) := by
  refine Met.ofW (cc := cX6_has) (maxL := 3) (ret := (some .boolean)) (by decide) rfl ?_
  intro p e s m args below meth c s₁ B hml hv
  obtain ⟨rfl, hsz, hP, hK, hD0⟩ := hv
  have hr := B.returns
  have hlocks := B.notSynchronized
  have hts := atoms_spec (ws := zc_X6_has :: mq_T) B.pre
  have hown : s.vm.findClass RX6 = some m.cls := findClass_of_methodNamed B.named
  subst hsz
  have hD := hD0.self (sz := s.heap.size)
  generalize hAe : va_A (wd_S a cI cL cB cZ z S) s.heap.size = A at hD ⊢
  have hA : ∀ q : Nat, s.heap.size ≤ q → A q := fun q h => by rw [← hAe]; exact Or.inr h
  have hl := lv_entry ([.ref (a 0), .int (v1), .int (v2)]) (n := 3) (Nat.le_of_ble_eq_true rfl)
  rw [lg_entry_eq]
  generalize (lg_sl ([.ref (a 0), .int (v1), .int (v2)]) ++ List.replicate (3 - (lg_sl ([.ref (a 0), .int (v1), .int (v2)])).length) Slot.unset).toArray = ls at hl ⊢
  have hl : lv_has ls 3 [(0, .ref (a 0)), (1, .int (v1)), (2, .int (v2))] := hl
  refine zw_X6_has_0 (A := A) ⟨B.exec, B.bytes, hml, hown, hts, hK, hA⟩ (fun H locs ls pc dg hz hP hD hS => ?_) v1 v2 s.heap [] ls h hl hP hD va_S.rf
  exact W.zret B.exec B.bytes hr hz (fun t ht hW => ⟨⟨_, _, rfl, ⟨rfl, rfl⟩, by rw [ht]; exact hP, va_K.moved hW.alike hK, hD⟩, hS.F ht⟩) hS.2.2 dg
theorem zt_X6_has_c : zc_X6_has ∈ mq_T := mq_T_mem (mq_t4 (List.mem_of_getElem? (i := 25) rfl)) rfl
theorem zt_X6_has_i : Cond.instanceMethod yX6_has ∈ mq_T := mq_T_mem (mq_t4 (List.mem_of_getElem? (i := 23) rfl)) rfl
theorem zt_X6_has_s : Cond.selects RX6 yX6_has yX6_has ∈ mq_T := mq_T_mem (mq_t4 (List.mem_of_getElem? (i := 24) rfl)) rfl
set_option maxHeartbeats 4000000 in
theorem zv_X6_has {p : Program} {l : Launch} {e : Env} {R : Room} {s : State} {m : MethodId} {args : Array Value} {below : List Frame} {meth : Method} {c : Code} {A : Nat → Prop} {D : va_G} {a z : Nat → Nat} {cI cL cB cZ : ClassId} {Q : State → Prop} {cc : ByteArray} {nL idx pc N : Nat} {own : String} {c1 : Cond} {H : Heap} {locs : List Loc} {ls : Array Slot} {rest : List Value} {S : mq_St} {res : Int32} {v1 : Int32} {v2 : Int32} {ws : va_W} (is : List Nat) (C : mq_C p s m args c A D cI cL cB cZ cc nL own c1) (hlk : Cond.methodLink own idx yX6_has ∈ mq_T) (hR : zr_X6_has.frames + 1 ≤ R.frames ∧ 8 + (3 + 11) + zr_X6_has.locals ≤ R.locals) (h : zf_X6_has N z v1 v2 S = some res) (hC : is.map (fun i => ws[i]?) = (wd_S a cI cL cB cZ z S).map some) (hnd : va_nd is = true) (hP : va_P D vwCl ws H) (hD : va_D A ws) (hS : va_S A s.heap H locs) (hls : ls.size = nL) (hrest : (rest.map fun v => v.category).sum ≤ 8) (hdg : decode cc pc = .ok (.invokevirtual idx, 3)) (kk : ∀ (H1 : Heap) (locs1 : List Loc), va_P D vwCl ws H1 → va_D A ws → va_S A s.heap H1 locs1 → W p l e R s m args below meth c H1 locs1 0 0 Q (F0 m (pc + 3) ls (.int res :: rest))) : W p l e R s m args below meth c H locs 0 0 Q (F0 m pc ls (.int (v2) :: .int (v1) :: .ref (a 0) :: rest)) := by
  obtain ⟨hx, hb, hml, hown, hts, hK, hA⟩ := C
  have hPc := mq_subP hP is hC
  have hDc := hD.sub is hnd hC
  have hFc := va_free hD hS hA is hC
  refine va_calli (va_runV (As := [.int (v1), .int (v2)]) (rest := rest) ⟨hx, hb, hml, hown, hts⟩ (zm_X6_has l D a z cI cL cB cZ H.size N v1 v2 S res h) (cwV 2 hts (mq_goodL (mq_wsV hlk zt_X6_has_i zt_X6_has_s zt_ini_X6 zt_X6_has_c)) rfl rfl rfl (by decide +kernel) hR) ⟨fun a U g mk q => ⟨q.1, q.2.1, q.2.2.1, va_K.moved (u := U) (U := U.calling g mk a) (Vm.Alike.refl U.vm) q.2.2.2.1, q.2.2.2.2⟩, va_recv hK hPc (ci := 6) (q0 := 0) rfl rfl, fun U hU hW => ⟨rfl, by rw [hU], by rw [hU]; exact hPc, va_K.moved hW.alike hK, hDc.weaken (fun _ _ _ _ => trivial)⟩⟩ rfl rfl hls rfl (lv_room hrest) hdg ⟨Nat.zero_le _, Nat.zero_le _⟩) hS (fun q _ h => hFc q h) hFc (fun r u t H1 locs ht hvm hw1 hB hz1 hk1 hS => ?_)
  obtain ⟨rfl, rfl⟩ := hw1
  obtain ⟨hP1, hK1, hD1⟩ := hB
  rw [ht] at hP1
  obtain ⟨hP2, hD2⟩ := mq_join hP hD is hC rfl hk1 hP1
  rw [mq_setM_same is _ ws hC] at hP2 hD2
  exact kk H1 locs hP2 hD2 hS
/-! ModalDesk$Sets.put(II)V -/
def zr_X6_put : Room := { frames := 1, cells := 0, slots := 0, locals := 22 }
def zc_X6_put : Cond := .code yX6_put cX6_put 3 none
def zf_X6_put (N : Nat) (z : Nat → Nat) (v1 : Int32) (v2 : Int32) (S : mq_St) : Option (Unit × mq_St) := (mq_cp (zf_X6_isPlace N z (v1) (v2) S) (fun q1 => (if q1 = (0 : Int32) then (some ((), S)) else (mq_ck (((v1 * (5 : Int32)) + (v2 >>> ((6 : Int32) &&& (31 : Int32))))) (z 0) (mq_ck (((v1 * (5 : Int32)) + (v2 >>> ((6 : Int32) &&& (31 : Int32))))) (z 0) (mq_nS (mq_sl S 0 (vp_updL (S.2.2 0) (((v1 * (5 : Int32)) + (v2 >>> ((6 : Int32) &&& (31 : Int32))))).toNatClampNeg (((S.2.2 0 (((v1 * (5 : Int32)) + (v2 >>> ((6 : Int32) &&& (31 : Int32))))).toNatClampNeg) ||| (mq_lshl (1 : Int64) (v2 &&& (63 : Int32))))))) (fun S5 => (some ((), S5)))))))))
set_option maxHeartbeats 4000000 in
set_option maxRecDepth 100000 in
theorem zw_X6_put_0 {p : Program} {l : Launch} {e : Env} {s : State} {m : MethodId} {args : Array Value} {below : List Frame} {meth : Method} {c : Code} {A : Nat → Prop} {D : va_G} {a z : Nat → Nat} {cI cL cB cZ : ClassId} {Q : State → Prop} {N : Nat} {res : Unit × mq_St} (C : mq_C p s m args c A D cI cL cB cZ cX6_put 3 RX6 zc_X6_put) (hret : ∀ (H : Heap) (locs : List Loc) (ls : Array Slot) (pc : Nat), decode cX6_put pc = .ok (.return_, 1) → va_P D vwCl (wd_S a cI cL cB cZ z res.2) H → va_D A (wd_S a cI cL cB cZ z res.2) → va_S A s.heap H locs → W p l e zr_X6_put s m args below meth c H locs 0 0 Q (F0 m pc ls [])) (v1 : Int32) (v2 : Int32) (S : mq_St) (H : Heap) (locs : List Loc) (ls : Array Slot) (h : zf_X6_put N z v1 v2 S = some res) (hl : lv_has ls 3 [(0, .ref (a 0)), (1, .int (v1)), (2, .int (v2))]) (hP : va_P D vwCl (wd_S a cI cL cB cZ z S) H) (hD : va_D A (wd_S a cI cL cB cZ z S)) (hS : va_S A s.heap H locs) : W p l e zr_X6_put s m args below meth c H locs 0 0 Q (F0 m 0 ls []) := by
  obtain ⟨hx, hb, hml, hown, hts, hK, hA⟩ := id C
  unfold zf_X6_put at h
  refine lv_aload_n hx hb dX6_put_0 rfl (lv_at hl 0 rfl) ?_
  refine lv_iload_n hx hb dX6_put_1 rfl (lv_at hl 1 rfl) ?_
  refine lv_iload_n hx hb dX6_put_2 rfl (lv_at hl 2 rfl) ?_
  obtain ⟨q1, hc2, h⟩ := mq_cp_go h
  refine zk_X6_isPlace C zt_m_X6_21 ⟨by decide, by decide⟩ hc2 hP hD hS hl.1 (Nat.le_of_ble_eq_true rfl) dX6_put_3 (fun H locs hP hD hS => ?_)
  refine lv_if_eq (tgt := 31) hx hb dX6_put_6 (by decide) (fun c6 => ?_) (fun c6 => ?_)
  · replace h := mq_it c6 h
    cases h
    exact hret H locs ls 31 dX6_put_31 hP hD hS
  · replace h := mq_if c6 h
    refine lv_aload_n hx hb dX6_put_9 rfl (lv_at hl 0 rfl) ?_
    refine va_get (D := D) (ci := 6) (v := .ref (a 1)) (C := RX6) (T := TX6) (N := 1) hx hb hts (zi_X6 _) hown hK hP 0 rfl rfl 0 (by decide) (hts _ (List.mem_cons_of_mem _ zt_f_X6_17)) (fun _ h9 => h9) rfl dX6_put_10 ?_
    refine lv_iload_n hx hb dX6_put_13 rfl (lv_at hl 1 rfl) ?_
    refine lv_iconst (v := (5 : Int32)) hx hb dX6_put_14 (by decide) ?_
    refine lv_imul hx hb dX6_put_15 ?_
    refine lv_iload_n hx hb dX6_put_16 rfl (lv_at hl 2 rfl) ?_
    refine lv_bipush (v := (6 : Int32)) hx hb dX6_put_17 (by decide) ?_
    refine lv_ishr hx hb dX6_put_19 ?_
    refine lv_iadd hx hb dX6_put_20 ?_
    refine lv_dup2_11 hx hb dX6_put_21 rfl rfl ?_
    have hi3 := mq_ck_in h
    replace h := mq_ck_go h
    refine va_lald (f := S.2.2 0) hx hb hK hP 1 1 rfl rfl hi3 dX6_put_22 ?_
    refine lv_lconst (v := 1) hx hb dX6_put_23 (by decide) ?_
    refine lv_iload_n hx hb dX6_put_24 rfl (lv_at hl 2 rfl) ?_
    refine lv_bipush (v := (63 : Int32)) hx hb dX6_put_25 (by decide) ?_
    refine lv_iand hx hb dX6_put_27 ?_
    refine lv_lshl (v := (mq_lshl (1 : Int64) (v2 &&& (63 : Int32)))) hx hb dX6_put_28 rfl ?_
    refine lv_lor hx hb dX6_put_29 ?_
    have hi4 := mq_ck_in h
    replace h := mq_ck_go h
    refine mq_last (w := wd_S a cI cL cB cZ z) (S := S) (f := S.2.2 0) hx hb hK hP hD hS 1 1 rfl rfl hi4 dX6_put_30 0 rfl (fun S5 eS5 H locs hP hD hS => ?_)
    replace h := mq_nS_go eS5 h
    cases h
    exact hret H locs ls 31 dX6_put_31 hP hD hS
set_option maxHeartbeats 4000000 in
set_option maxRecDepth 100000 in
theorem zm_X6_put (l : Launch) (D : va_G) (a z : Nat → Nat) (cI cL cB cZ : ClassId) (sz N : Nat) (v1 : Int32) (v2 : Int32) (S : mq_St) (res : Unit × mq_St) (h : zf_X6_put N z v1 v2 S = some res) : Met l yX6_put (zc_X6_put :: mq_T) zr_X6_put (va_Pc [.ref (a 0), .int (v1), .int (v2)] (fun U => U.heap.size = sz ∧ va_P D vwCl (wd_S a cI cL cB cZ z S) U.heap ∧ va_K D vwCl (mq_tys cI cL cB cZ) U ∧ va_D (fun _ => True) (wd_S a cI cL cB cZ z S))) (va_Qv (fun u : mq_St => u = res.2) (fun u t => va_P D vwCl (wd_S a cI cL cB cZ z u) t.heap ∧ va_K D vwCl (mq_tys cI cL cB cZ) t ∧ va_D (va_A (wd_S a cI cL cB cZ z S) sz) (wd_S a cI cL cB cZ z u)) (va_A (wd_S a cI cL cB cZ z S) sz)) 0 0 (va_A (wd_S a cI cL cB cZ z S) sz) := by
  refine Met.ofW (cc := cX6_put) (maxL := 3) (ret := none) (by decide) rfl ?_
  intro p e s m args below meth c s₁ B hml hv
  obtain ⟨rfl, hsz, hP, hK, hD0⟩ := hv
  have hr := B.returns
  have hlocks := B.notSynchronized
  have hts := atoms_spec (ws := zc_X6_put :: mq_T) B.pre
  have hown : s.vm.findClass RX6 = some m.cls := findClass_of_methodNamed B.named
  subst hsz
  have hD := hD0.self (sz := s.heap.size)
  generalize hAe : va_A (wd_S a cI cL cB cZ z S) s.heap.size = A at hD ⊢
  have hA : ∀ q : Nat, s.heap.size ≤ q → A q := fun q h => by rw [← hAe]; exact Or.inr h
  have hl := lv_entry ([.ref (a 0), .int (v1), .int (v2)]) (n := 3) (Nat.le_of_ble_eq_true rfl)
  rw [lg_entry_eq]
  generalize (lg_sl ([.ref (a 0), .int (v1), .int (v2)]) ++ List.replicate (3 - (lg_sl ([.ref (a 0), .int (v1), .int (v2)])).length) Slot.unset).toArray = ls at hl ⊢
  have hl : lv_has ls 3 [(0, .ref (a 0)), (1, .int (v1)), (2, .int (v2))] := hl
  refine zw_X6_put_0 (A := A) ⟨B.exec, B.bytes, hml, hown, hts, hK, hA⟩ (fun H locs ls pc dg hP hD hS => ?_) v1 v2 S s.heap [] ls h hl hP hD va_S.rf
  exact W.vret B.exec B.bytes hr (fun t ht hW => ⟨⟨_, rfl, rfl, by rw [ht]; exact hP, va_K.moved hW.alike hK, hD⟩, hS.F ht⟩) hS.2.2 dg
theorem zt_X6_put_c : zc_X6_put ∈ mq_T := mq_T_mem (mq_t1 (List.mem_of_getElem? (i := 68) rfl)) rfl
theorem zt_X6_put_i : Cond.instanceMethod yX6_put ∈ mq_T := mq_T_mem (mq_t1 (List.mem_of_getElem? (i := 66) rfl)) rfl
theorem zt_X6_put_s : Cond.selects RX6 yX6_put yX6_put ∈ mq_T := mq_T_mem (mq_t1 (List.mem_of_getElem? (i := 67) rfl)) rfl
set_option maxHeartbeats 4000000 in
theorem zv_X6_put {p : Program} {l : Launch} {e : Env} {R : Room} {s : State} {m : MethodId} {args : Array Value} {below : List Frame} {meth : Method} {c : Code} {A : Nat → Prop} {D : va_G} {a z : Nat → Nat} {cI cL cB cZ : ClassId} {Q : State → Prop} {cc : ByteArray} {nL idx pc N : Nat} {own : String} {c1 : Cond} {H : Heap} {locs : List Loc} {ls : Array Slot} {rest : List Value} {S : mq_St} {res : Unit × mq_St} {v1 : Int32} {v2 : Int32} {ws : va_W} (is : List Nat) (C : mq_C p s m args c A D cI cL cB cZ cc nL own c1) (hlk : Cond.methodLink own idx yX6_put ∈ mq_T) (hR : zr_X6_put.frames + 1 ≤ R.frames ∧ 8 + (3 + 11) + zr_X6_put.locals ≤ R.locals) (h : zf_X6_put N z v1 v2 S = some res) (hC : is.map (fun i => ws[i]?) = (wd_S a cI cL cB cZ z S).map some) (hnd : va_nd is = true) {ws' : va_W} (hw : mq_setM ws is (wd_S a cI cL cB cZ z res.2) = ws') (hP : va_P D vwCl ws H) (hD : va_D A ws) (hS : va_S A s.heap H locs) (hls : ls.size = nL) (hrest : (rest.map fun v => v.category).sum ≤ 8) (hdg : decode cc pc = .ok (.invokevirtual idx, 3)) (kk : ∀ (H1 : Heap) (locs1 : List Loc), va_P D vwCl ws' H1 → va_D A ws' → va_S A s.heap H1 locs1 → W p l e R s m args below meth c H1 locs1 0 0 Q (F0 m (pc + 3) ls rest)) : W p l e R s m args below meth c H locs 0 0 Q (F0 m pc ls (.int (v2) :: .int (v1) :: .ref (a 0) :: rest)) := by
  obtain ⟨hx, hb, hml, hown, hts, hK, hA⟩ := C
  have hPc := mq_subP hP is hC
  have hDc := hD.sub is hnd hC
  have hFc := va_free hD hS hA is hC
  refine va_callv (va_runV (As := [.int (v1), .int (v2)]) (rest := rest) ⟨hx, hb, hml, hown, hts⟩ (zm_X6_put l D a z cI cL cB cZ H.size N v1 v2 S res h) (cwV 2 hts (mq_goodL (mq_wsV hlk zt_X6_put_i zt_X6_put_s zt_ini_X6 zt_X6_put_c)) rfl rfl rfl (by decide +kernel) hR) ⟨fun a U g mk q => ⟨q.1, q.2.1, q.2.2.1, va_K.moved (u := U) (U := U.calling g mk a) (Vm.Alike.refl U.vm) q.2.2.2.1, q.2.2.2.2⟩, va_recv hK hPc (ci := 6) (q0 := 0) rfl rfl, fun U hU hW => ⟨rfl, by rw [hU], by rw [hU]; exact hPc, va_K.moved hW.alike hK, hDc.weaken (fun _ _ _ _ => trivial)⟩⟩ rfl rfl hls rfl (lv_room hrest) hdg ⟨Nat.zero_le _, Nat.zero_le _⟩) hS (fun q _ h => hFc q h) hFc (fun u t H1 locs ht hvm hw1 hB hz1 hk1 hS => ?_)
  subst hw1
  obtain ⟨hP1, hK1, hD1⟩ := hB
  rw [ht] at hP1
  obtain ⟨hP2, hD2⟩ := mq_join (w1 := (wd_S a cI cL cB cZ z res.2)) hP hD is hC rfl hk1 hP1
  rw [hw] at hP2 hD2
  exact kk H1 locs hP2 hD2 hS
theorem zt_k_X6_25 : Cond.constantLong RX6 25 ((-1 : Int64)) ∈ mq_T := mq_T_mem (mq_t3 (List.mem_of_getElem? (i := 140) rfl)) rfl
/-! ModalDesk$Sets.drop(II)V -/
def zr_X6_drop : Room := { frames := 1, cells := 0, slots := 0, locals := 22 }
def zc_X6_drop : Cond := .code yX6_drop cX6_drop 3 none
def zf_X6_drop (N : Nat) (z : Nat → Nat) (v1 : Int32) (v2 : Int32) (S : mq_St) : Option (Unit × mq_St) := (mq_cp (zf_X6_isPlace N z (v1) (v2) S) (fun q1 => (if q1 = (0 : Int32) then (some ((), S)) else (mq_ck (((v1 * (5 : Int32)) + (v2 >>> ((6 : Int32) &&& (31 : Int32))))) (z 0) (mq_ck (((v1 * (5 : Int32)) + (v2 >>> ((6 : Int32) &&& (31 : Int32))))) (z 0) (mq_nS (mq_sl S 0 (vp_updL (S.2.2 0) (((v1 * (5 : Int32)) + (v2 >>> ((6 : Int32) &&& (31 : Int32))))).toNatClampNeg (((S.2.2 0 (((v1 * (5 : Int32)) + (v2 >>> ((6 : Int32) &&& (31 : Int32))))).toNatClampNeg) &&& ((mq_lshl (1 : Int64) (v2 &&& (63 : Int32))) ^^^ (-1 : Int64)))))) (fun S5 => (some ((), S5)))))))))
set_option maxHeartbeats 4000000 in
set_option maxRecDepth 100000 in
theorem zw_X6_drop_0 {p : Program} {l : Launch} {e : Env} {s : State} {m : MethodId} {args : Array Value} {below : List Frame} {meth : Method} {c : Code} {A : Nat → Prop} {D : va_G} {a z : Nat → Nat} {cI cL cB cZ : ClassId} {Q : State → Prop} {N : Nat} {res : Unit × mq_St} (C : mq_C p s m args c A D cI cL cB cZ cX6_drop 3 RX6 zc_X6_drop) (hret : ∀ (H : Heap) (locs : List Loc) (ls : Array Slot) (pc : Nat), decode cX6_drop pc = .ok (.return_, 1) → va_P D vwCl (wd_S a cI cL cB cZ z res.2) H → va_D A (wd_S a cI cL cB cZ z res.2) → va_S A s.heap H locs → W p l e zr_X6_drop s m args below meth c H locs 0 0 Q (F0 m pc ls [])) (v1 : Int32) (v2 : Int32) (S : mq_St) (H : Heap) (locs : List Loc) (ls : Array Slot) (h : zf_X6_drop N z v1 v2 S = some res) (hl : lv_has ls 3 [(0, .ref (a 0)), (1, .int (v1)), (2, .int (v2))]) (hP : va_P D vwCl (wd_S a cI cL cB cZ z S) H) (hD : va_D A (wd_S a cI cL cB cZ z S)) (hS : va_S A s.heap H locs) : W p l e zr_X6_drop s m args below meth c H locs 0 0 Q (F0 m 0 ls []) := by
  obtain ⟨hx, hb, hml, hown, hts, hK, hA⟩ := id C
  unfold zf_X6_drop at h
  refine lv_aload_n hx hb dX6_drop_0 rfl (lv_at hl 0 rfl) ?_
  refine lv_iload_n hx hb dX6_drop_1 rfl (lv_at hl 1 rfl) ?_
  refine lv_iload_n hx hb dX6_drop_2 rfl (lv_at hl 2 rfl) ?_
  obtain ⟨q1, hc2, h⟩ := mq_cp_go h
  refine zk_X6_isPlace C zt_m_X6_21 ⟨by decide, by decide⟩ hc2 hP hD hS hl.1 (Nat.le_of_ble_eq_true rfl) dX6_drop_3 (fun H locs hP hD hS => ?_)
  refine lv_if_eq (tgt := 35) hx hb dX6_drop_6 (by decide) (fun c6 => ?_) (fun c6 => ?_)
  · replace h := mq_it c6 h
    cases h
    exact hret H locs ls 35 dX6_drop_35 hP hD hS
  · replace h := mq_if c6 h
    refine lv_aload_n hx hb dX6_drop_9 rfl (lv_at hl 0 rfl) ?_
    refine va_get (D := D) (ci := 6) (v := .ref (a 1)) (C := RX6) (T := TX6) (N := 1) hx hb hts (zi_X6 _) hown hK hP 0 rfl rfl 0 (by decide) (hts _ (List.mem_cons_of_mem _ zt_f_X6_17)) (fun _ h9 => h9) rfl dX6_drop_10 ?_
    refine lv_iload_n hx hb dX6_drop_13 rfl (lv_at hl 1 rfl) ?_
    refine lv_iconst (v := (5 : Int32)) hx hb dX6_drop_14 (by decide) ?_
    refine lv_imul hx hb dX6_drop_15 ?_
    refine lv_iload_n hx hb dX6_drop_16 rfl (lv_at hl 2 rfl) ?_
    refine lv_bipush (v := (6 : Int32)) hx hb dX6_drop_17 (by decide) ?_
    refine lv_ishr hx hb dX6_drop_19 ?_
    refine lv_iadd hx hb dX6_drop_20 ?_
    refine lv_dup2_11 hx hb dX6_drop_21 rfl rfl ?_
    have hi3 := mq_ck_in h
    replace h := mq_ck_go h
    refine va_lald (f := S.2.2 0) hx hb hK hP 1 1 rfl rfl hi3 dX6_drop_22 ?_
    refine lv_lconst (v := 1) hx hb dX6_drop_23 (by decide) ?_
    refine lv_iload_n hx hb dX6_drop_24 rfl (lv_at hl 2 rfl) ?_
    refine lv_bipush (v := (63 : Int32)) hx hb dX6_drop_25 (by decide) ?_
    refine lv_iand hx hb dX6_drop_27 ?_
    refine lv_lshl (v := (mq_lshl (1 : Int64) (v2 &&& (63 : Int32)))) hx hb dX6_drop_28 rfl ?_
    refine lv_ldc2 (v := (-1 : Int64)) hx hb hown (hts _ (List.mem_cons_of_mem _ zt_k_X6_25)) dX6_drop_29 ?_
    refine lv_lxor hx hb dX6_drop_32 ?_
    refine lv_land hx hb dX6_drop_33 ?_
    have hi4 := mq_ck_in h
    replace h := mq_ck_go h
    refine mq_last (w := wd_S a cI cL cB cZ z) (S := S) (f := S.2.2 0) hx hb hK hP hD hS 1 1 rfl rfl hi4 dX6_drop_34 0 rfl (fun S5 eS5 H locs hP hD hS => ?_)
    replace h := mq_nS_go eS5 h
    cases h
    exact hret H locs ls 35 dX6_drop_35 hP hD hS
set_option maxHeartbeats 4000000 in
set_option maxRecDepth 100000 in
theorem zm_X6_drop (l : Launch) (D : va_G) (a z : Nat → Nat) (cI cL cB cZ : ClassId) (sz N : Nat) (v1 : Int32) (v2 : Int32) (S : mq_St) (res : Unit × mq_St) (h : zf_X6_drop N z v1 v2 S = some res) : Met l yX6_drop (zc_X6_drop :: mq_T) zr_X6_drop (va_Pc [.ref (a 0), .int (v1), .int (v2)] (fun U => U.heap.size = sz ∧ va_P D vwCl (wd_S a cI cL cB cZ z S) U.heap ∧ va_K D vwCl (mq_tys cI cL cB cZ) U ∧ va_D (fun _ => True) (wd_S a cI cL cB cZ z S))) (va_Qv (fun u : mq_St => u = res.2) (fun u t => va_P D vwCl (wd_S a cI cL cB cZ z u) t.heap ∧ va_K D vwCl (mq_tys cI cL cB cZ) t ∧ va_D (va_A (wd_S a cI cL cB cZ z S) sz) (wd_S a cI cL cB cZ z u)) (va_A (wd_S a cI cL cB cZ z S) sz)) 0 0 (va_A (wd_S a cI cL cB cZ z S) sz) := by
  refine Met.ofW (cc := cX6_drop) (maxL := 3) (ret := none) (by decide) rfl ?_
  intro p e s m args below meth c s₁ B hml hv
  obtain ⟨rfl, hsz, hP, hK, hD0⟩ := hv
  have hr := B.returns
  have hlocks := B.notSynchronized
  have hts := atoms_spec (ws := zc_X6_drop :: mq_T) B.pre
  have hown : s.vm.findClass RX6 = some m.cls := findClass_of_methodNamed B.named
  subst hsz
  have hD := hD0.self (sz := s.heap.size)
  generalize hAe : va_A (wd_S a cI cL cB cZ z S) s.heap.size = A at hD ⊢
  have hA : ∀ q : Nat, s.heap.size ≤ q → A q := fun q h => by rw [← hAe]; exact Or.inr h
  have hl := lv_entry ([.ref (a 0), .int (v1), .int (v2)]) (n := 3) (Nat.le_of_ble_eq_true rfl)
  rw [lg_entry_eq]
  generalize (lg_sl ([.ref (a 0), .int (v1), .int (v2)]) ++ List.replicate (3 - (lg_sl ([.ref (a 0), .int (v1), .int (v2)])).length) Slot.unset).toArray = ls at hl ⊢
  have hl : lv_has ls 3 [(0, .ref (a 0)), (1, .int (v1)), (2, .int (v2))] := hl
  refine zw_X6_drop_0 (A := A) ⟨B.exec, B.bytes, hml, hown, hts, hK, hA⟩ (fun H locs ls pc dg hP hD hS => ?_) v1 v2 S s.heap [] ls h hl hP hD va_S.rf
  exact W.vret B.exec B.bytes hr (fun t ht hW => ⟨⟨_, rfl, rfl, by rw [ht]; exact hP, va_K.moved hW.alike hK, hD⟩, hS.F ht⟩) hS.2.2 dg
theorem zt_X6_drop_c : zc_X6_drop ∈ mq_T := mq_T_mem (mq_t3 (List.mem_of_getElem? (i := 139) rfl)) rfl
theorem zt_X6_drop_i : Cond.instanceMethod yX6_drop ∈ mq_T := mq_T_mem (mq_t3 (List.mem_of_getElem? (i := 137) rfl)) rfl
theorem zt_X6_drop_s : Cond.selects RX6 yX6_drop yX6_drop ∈ mq_T := mq_T_mem (mq_t3 (List.mem_of_getElem? (i := 138) rfl)) rfl
set_option maxHeartbeats 4000000 in
theorem zv_X6_drop {p : Program} {l : Launch} {e : Env} {R : Room} {s : State} {m : MethodId} {args : Array Value} {below : List Frame} {meth : Method} {c : Code} {A : Nat → Prop} {D : va_G} {a z : Nat → Nat} {cI cL cB cZ : ClassId} {Q : State → Prop} {cc : ByteArray} {nL idx pc N : Nat} {own : String} {c1 : Cond} {H : Heap} {locs : List Loc} {ls : Array Slot} {rest : List Value} {S : mq_St} {res : Unit × mq_St} {v1 : Int32} {v2 : Int32} {ws : va_W} (is : List Nat) (C : mq_C p s m args c A D cI cL cB cZ cc nL own c1) (hlk : Cond.methodLink own idx yX6_drop ∈ mq_T) (hR : zr_X6_drop.frames + 1 ≤ R.frames ∧ 8 + (3 + 11) + zr_X6_drop.locals ≤ R.locals) (h : zf_X6_drop N z v1 v2 S = some res) (hC : is.map (fun i => ws[i]?) = (wd_S a cI cL cB cZ z S).map some) (hnd : va_nd is = true) {ws' : va_W} (hw : mq_setM ws is (wd_S a cI cL cB cZ z res.2) = ws') (hP : va_P D vwCl ws H) (hD : va_D A ws) (hS : va_S A s.heap H locs) (hls : ls.size = nL) (hrest : (rest.map fun v => v.category).sum ≤ 8) (hdg : decode cc pc = .ok (.invokevirtual idx, 3)) (kk : ∀ (H1 : Heap) (locs1 : List Loc), va_P D vwCl ws' H1 → va_D A ws' → va_S A s.heap H1 locs1 → W p l e R s m args below meth c H1 locs1 0 0 Q (F0 m (pc + 3) ls rest)) : W p l e R s m args below meth c H locs 0 0 Q (F0 m pc ls (.int (v2) :: .int (v1) :: .ref (a 0) :: rest)) := by
  obtain ⟨hx, hb, hml, hown, hts, hK, hA⟩ := C
  have hPc := mq_subP hP is hC
  have hDc := hD.sub is hnd hC
  have hFc := va_free hD hS hA is hC
  refine va_callv (va_runV (As := [.int (v1), .int (v2)]) (rest := rest) ⟨hx, hb, hml, hown, hts⟩ (zm_X6_drop l D a z cI cL cB cZ H.size N v1 v2 S res h) (cwV 2 hts (mq_goodL (mq_wsV hlk zt_X6_drop_i zt_X6_drop_s zt_ini_X6 zt_X6_drop_c)) rfl rfl rfl (by decide +kernel) hR) ⟨fun a U g mk q => ⟨q.1, q.2.1, q.2.2.1, va_K.moved (u := U) (U := U.calling g mk a) (Vm.Alike.refl U.vm) q.2.2.2.1, q.2.2.2.2⟩, va_recv hK hPc (ci := 6) (q0 := 0) rfl rfl, fun U hU hW => ⟨rfl, by rw [hU], by rw [hU]; exact hPc, va_K.moved hW.alike hK, hDc.weaken (fun _ _ _ _ => trivial)⟩⟩ rfl rfl hls rfl (lv_room hrest) hdg ⟨Nat.zero_le _, Nat.zero_le _⟩) hS (fun q _ h => hFc q h) hFc (fun u t H1 locs ht hvm hw1 hB hz1 hk1 hS => ?_)
  subst hw1
  obtain ⟨hP1, hK1, hD1⟩ := hB
  rw [ht] at hP1
  obtain ⟨hP2, hD2⟩ := mq_join (w1 := (wd_S a cI cL cB cZ z res.2)) hP hD is hC rfl hk1 hP1
  rw [hw] at hP2 hD2
  exact kk H1 locs hP2 hD2 hS
/-! ModalDesk$Sets.bits(II)J -/
def zr_X6_bits : Room := { frames := 1, cells := 0, slots := 0, locals := 22 }
def zc_X6_bits : Cond := .code yX6_bits cX6_bits 3 (some .long)
def zf_X6_bits (N : Nat) (z : Nat → Nat) (v1 : Int32) (v2 : Int32) (S : mq_St) : Option (Int64) := (mq_cp (zf_X6_isPlace N z (v1) (((64 : Int32) * v2)) S) (fun q1 => (if q1 = (0 : Int32) then (some ((0 : Int64))) else (mq_ck (((v1 * (5 : Int32)) + v2)) (z 0) (some ((S.2.2 0 (((v1 * (5 : Int32)) + v2)).toNatClampNeg)))))))
set_option maxHeartbeats 4000000 in
set_option maxRecDepth 100000 in
theorem zw_X6_bits_0 {p : Program} {l : Launch} {e : Env} {s : State} {m : MethodId} {args : Array Value} {below : List Frame} {meth : Method} {c : Code} {A : Nat → Prop} {D : va_G} {a z : Nat → Nat} {cI cL cB cZ : ClassId} {Q : State → Prop} {N : Nat} {S : mq_St} {res : Int64} (C : mq_C p s m args c A D cI cL cB cZ cX6_bits 3 RX6 zc_X6_bits) (hret : ∀ (H : Heap) (locs : List Loc) (ls : Array Slot) (pc : Nat), decode cX6_bits pc = .ok (.lreturn, 1) → va_P D vwCl (wd_S a cI cL cB cZ z S) H → va_D A (wd_S a cI cL cB cZ z S) → va_S A s.heap H locs → W p l e zr_X6_bits s m args below meth c H locs 0 0 Q (F0 m pc ls [.long res])) (v1 : Int32) (v2 : Int32) (H : Heap) (locs : List Loc) (ls : Array Slot) (h : zf_X6_bits N z v1 v2 S = some res) (hl : lv_has ls 3 [(0, .ref (a 0)), (1, .int (v1)), (2, .int (v2))]) (hP : va_P D vwCl (wd_S a cI cL cB cZ z S) H) (hD : va_D A (wd_S a cI cL cB cZ z S)) (hS : va_S A s.heap H locs) : W p l e zr_X6_bits s m args below meth c H locs 0 0 Q (F0 m 0 ls []) := by
  obtain ⟨hx, hb, hml, hown, hts, hK, hA⟩ := id C
  unfold zf_X6_bits at h
  refine lv_aload_n hx hb dX6_bits_0 rfl (lv_at hl 0 rfl) ?_
  refine lv_iload_n hx hb dX6_bits_1 rfl (lv_at hl 1 rfl) ?_
  refine lv_bipush (v := (64 : Int32)) hx hb dX6_bits_2 (by decide) ?_
  refine lv_iload_n hx hb dX6_bits_4 rfl (lv_at hl 2 rfl) ?_
  refine lv_imul hx hb dX6_bits_5 ?_
  obtain ⟨q1, hc2, h⟩ := mq_cp_go h
  refine zk_X6_isPlace C zt_m_X6_21 ⟨by decide, by decide⟩ hc2 hP hD hS hl.1 (Nat.le_of_ble_eq_true rfl) dX6_bits_6 (fun H locs hP hD hS => ?_)
  refine lv_if_eq (tgt := 25) hx hb dX6_bits_9 (by decide) (fun c4 => ?_) (fun c4 => ?_)
  · replace h := mq_it c4 h
    refine lv_lconst (v := 0) hx hb dX6_bits_25 (by decide) ?_
    cases h
    exact hret H locs ls 26 dX6_bits_26 hP hD hS
  · replace h := mq_if c4 h
    refine lv_aload_n hx hb dX6_bits_12 rfl (lv_at hl 0 rfl) ?_
    refine va_get (D := D) (ci := 6) (v := .ref (a 1)) (C := RX6) (T := TX6) (N := 1) hx hb hts (zi_X6 _) hown hK hP 0 rfl rfl 0 (by decide) (hts _ (List.mem_cons_of_mem _ zt_f_X6_17)) (fun _ h9 => h9) rfl dX6_bits_13 ?_
    refine lv_iload_n hx hb dX6_bits_16 rfl (lv_at hl 1 rfl) ?_
    refine lv_iconst (v := (5 : Int32)) hx hb dX6_bits_17 (by decide) ?_
    refine lv_imul hx hb dX6_bits_18 ?_
    refine lv_iload_n hx hb dX6_bits_19 rfl (lv_at hl 2 rfl) ?_
    refine lv_iadd hx hb dX6_bits_20 ?_
    have hi3 := mq_ck_in h
    replace h := mq_ck_go h
    refine va_lald (f := S.2.2 0) hx hb hK hP 1 1 rfl rfl hi3 dX6_bits_21 ?_
    refine lv_goto (tgt := 26) hx hb dX6_bits_22 (by decide) ?_
    cases h
    exact hret H locs ls 26 dX6_bits_26 hP hD hS
set_option maxHeartbeats 4000000 in
set_option maxRecDepth 100000 in
theorem zm_X6_bits (l : Launch) (D : va_G) (a z : Nat → Nat) (cI cL cB cZ : ClassId) (sz N : Nat) (v1 : Int32) (v2 : Int32) (S : mq_St) (res : Int64) (h : zf_X6_bits N z v1 v2 S = some res) : Met l yX6_bits (zc_X6_bits :: mq_T) zr_X6_bits (va_Pc [.ref (a 0), .int (v1), .int (v2)] (fun U => U.heap.size = sz ∧ va_P D vwCl (wd_S a cI cL cB cZ z S) U.heap ∧ va_K D vwCl (mq_tys cI cL cB cZ) U ∧ va_D (fun _ => True) (wd_S a cI cL cB cZ z S))) (va_Ql (fun (r : Int64) (u : mq_St) => r = res ∧ u = S) (fun u t => va_P D vwCl (wd_S a cI cL cB cZ z u) t.heap ∧ va_K D vwCl (mq_tys cI cL cB cZ) t ∧ va_D (va_A (wd_S a cI cL cB cZ z S) sz) (wd_S a cI cL cB cZ z u)) (va_A (wd_S a cI cL cB cZ z S) sz)) 0 0 (va_A (wd_S a cI cL cB cZ z S) sz) := by
  refine Met.ofW (cc := cX6_bits) (maxL := 3) (ret := (some .long)) (by decide) rfl ?_
  intro p e s m args below meth c s₁ B hml hv
  obtain ⟨rfl, hsz, hP, hK, hD0⟩ := hv
  have hr := B.returns
  have hlocks := B.notSynchronized
  have hts := atoms_spec (ws := zc_X6_bits :: mq_T) B.pre
  have hown : s.vm.findClass RX6 = some m.cls := findClass_of_methodNamed B.named
  subst hsz
  have hD := hD0.self (sz := s.heap.size)
  generalize hAe : va_A (wd_S a cI cL cB cZ z S) s.heap.size = A at hD ⊢
  have hA : ∀ q : Nat, s.heap.size ≤ q → A q := fun q h => by rw [← hAe]; exact Or.inr h
  have hl := lv_entry ([.ref (a 0), .int (v1), .int (v2)]) (n := 3) (Nat.le_of_ble_eq_true rfl)
  rw [lg_entry_eq]
  generalize (lg_sl ([.ref (a 0), .int (v1), .int (v2)]) ++ List.replicate (3 - (lg_sl ([.ref (a 0), .int (v1), .int (v2)])).length) Slot.unset).toArray = ls at hl ⊢
  have hl : lv_has ls 3 [(0, .ref (a 0)), (1, .int (v1)), (2, .int (v2))] := hl
  refine zw_X6_bits_0 (A := A) ⟨B.exec, B.bytes, hml, hown, hts, hK, hA⟩ (fun H locs ls pc dg hP hD hS => ?_) v1 v2 s.heap [] ls h hl hP hD va_S.rf
  exact W.lret B.exec B.bytes hr (fun t ht hW => ⟨⟨_, _, rfl, ⟨rfl, rfl⟩, by rw [ht]; exact hP, va_K.moved hW.alike hK, hD⟩, hS.F ht⟩) hS.2.2 dg
theorem zt_X6_bits_c : zc_X6_bits ∈ mq_T := mq_T_mem (mq_t4 (List.mem_of_getElem? (i := 75) rfl)) rfl
theorem zt_X6_bits_i : Cond.instanceMethod yX6_bits ∈ mq_T := mq_T_mem (mq_t4 (List.mem_of_getElem? (i := 73) rfl)) rfl
theorem zt_X6_bits_s : Cond.selects RX6 yX6_bits yX6_bits ∈ mq_T := mq_T_mem (mq_t4 (List.mem_of_getElem? (i := 74) rfl)) rfl
set_option maxHeartbeats 4000000 in
theorem zk_X6_bits {p : Program} {l : Launch} {e : Env} {R : Room} {s : State} {m : MethodId} {args : Array Value} {below : List Frame} {meth : Method} {c : Code} {A : Nat → Prop} {D : va_G} {a z : Nat → Nat} {cI cL cB cZ : ClassId} {Q : State → Prop} {cc : ByteArray} {nL idx pc N : Nat} {own : String} {c1 : Cond} {H : Heap} {locs : List Loc} {ls : Array Slot} {rest : List Value} {S : mq_St} {res : Int64} {v1 : Int32} {v2 : Int32} (C : mq_C p s m args c A D cI cL cB cZ cc nL own c1) (hlk : Cond.methodLink own idx yX6_bits ∈ mq_T) (hR : zr_X6_bits.frames + 1 ≤ R.frames ∧ 8 + (3 + 11) + zr_X6_bits.locals ≤ R.locals) (h : zf_X6_bits N z v1 v2 S = some res) (hP : va_P D vwCl (wd_S a cI cL cB cZ z S) H) (hD : va_D A (wd_S a cI cL cB cZ z S)) (hS : va_S A s.heap H locs) (hls : ls.size = nL) (hrest : (rest.map fun v => v.category).sum ≤ 8) (hdg : decode cc pc = .ok (.invokevirtual idx, 3)) (kk : ∀ (H1 : Heap) (locs1 : List Loc), va_P D vwCl (wd_S a cI cL cB cZ z S) H1 → va_D A (wd_S a cI cL cB cZ z S) → va_S A s.heap H1 locs1 → W p l e R s m args below meth c H1 locs1 0 0 Q (F0 m (pc + 3) ls (.long res :: rest))) : W p l e R s m args below meth c H locs 0 0 Q (F0 m pc ls (.int (v2) :: .int (v1) :: .ref (a 0) :: rest)) := by
  obtain ⟨hx, hb, hml, hown, hts, hK, hA⟩ := C
  have hFc := mq_freeI hD hS hA
  refine va_calll (va_runV (As := [.int (v1), .int (v2)]) (rest := rest) ⟨hx, hb, hml, hown, hts⟩ (zm_X6_bits l D a z cI cL cB cZ H.size N v1 v2 S res h) (cwV 2 hts (mq_goodL (mq_wsV hlk zt_X6_bits_i zt_X6_bits_s zt_ini_X6 zt_X6_bits_c)) rfl rfl rfl (by decide +kernel) hR) ⟨fun a U g mk q => ⟨q.1, q.2.1, q.2.2.1, va_K.moved (u := U) (U := U.calling g mk a) (Vm.Alike.refl U.vm) q.2.2.2.1, q.2.2.2.2⟩, va_recv hK hP (ci := 6) (q0 := 0) rfl rfl, fun U hU hW => ⟨rfl, by rw [hU], by rw [hU]; exact hP, va_K.moved hW.alike hK, hD.weaken (fun _ _ _ _ => trivial)⟩⟩ rfl rfl hls rfl (lv_room hrest) hdg ⟨Nat.zero_le _, Nat.zero_le _⟩) hS (fun q _ h => hFc q h) hFc (fun r u t H1 locs ht hvm hw hB hz1 hk1 hS => ?_)
  obtain ⟨rfl, rfl⟩ := hw
  obtain ⟨hP1, hK1, hD1⟩ := hB
  rw [ht] at hP1
  exact kk H1 locs hP1 (hD1.weaken (fun _ _ _ h => hFc _ h)) hS
set_option maxHeartbeats 4000000 in
theorem zv_X6_bits {p : Program} {l : Launch} {e : Env} {R : Room} {s : State} {m : MethodId} {args : Array Value} {below : List Frame} {meth : Method} {c : Code} {A : Nat → Prop} {D : va_G} {a z : Nat → Nat} {cI cL cB cZ : ClassId} {Q : State → Prop} {cc : ByteArray} {nL idx pc N : Nat} {own : String} {c1 : Cond} {H : Heap} {locs : List Loc} {ls : Array Slot} {rest : List Value} {S : mq_St} {res : Int64} {v1 : Int32} {v2 : Int32} {ws : va_W} (is : List Nat) (C : mq_C p s m args c A D cI cL cB cZ cc nL own c1) (hlk : Cond.methodLink own idx yX6_bits ∈ mq_T) (hR : zr_X6_bits.frames + 1 ≤ R.frames ∧ 8 + (3 + 11) + zr_X6_bits.locals ≤ R.locals) (h : zf_X6_bits N z v1 v2 S = some res) (hC : is.map (fun i => ws[i]?) = (wd_S a cI cL cB cZ z S).map some) (hnd : va_nd is = true) (hP : va_P D vwCl ws H) (hD : va_D A ws) (hS : va_S A s.heap H locs) (hls : ls.size = nL) (hrest : (rest.map fun v => v.category).sum ≤ 8) (hdg : decode cc pc = .ok (.invokevirtual idx, 3)) (kk : ∀ (H1 : Heap) (locs1 : List Loc), va_P D vwCl ws H1 → va_D A ws → va_S A s.heap H1 locs1 → W p l e R s m args below meth c H1 locs1 0 0 Q (F0 m (pc + 3) ls (.long res :: rest))) : W p l e R s m args below meth c H locs 0 0 Q (F0 m pc ls (.int (v2) :: .int (v1) :: .ref (a 0) :: rest)) := by
  obtain ⟨hx, hb, hml, hown, hts, hK, hA⟩ := C
  have hPc := mq_subP hP is hC
  have hDc := hD.sub is hnd hC
  have hFc := va_free hD hS hA is hC
  refine va_calll (va_runV (As := [.int (v1), .int (v2)]) (rest := rest) ⟨hx, hb, hml, hown, hts⟩ (zm_X6_bits l D a z cI cL cB cZ H.size N v1 v2 S res h) (cwV 2 hts (mq_goodL (mq_wsV hlk zt_X6_bits_i zt_X6_bits_s zt_ini_X6 zt_X6_bits_c)) rfl rfl rfl (by decide +kernel) hR) ⟨fun a U g mk q => ⟨q.1, q.2.1, q.2.2.1, va_K.moved (u := U) (U := U.calling g mk a) (Vm.Alike.refl U.vm) q.2.2.2.1, q.2.2.2.2⟩, va_recv hK hPc (ci := 6) (q0 := 0) rfl rfl, fun U hU hW => ⟨rfl, by rw [hU], by rw [hU]; exact hPc, va_K.moved hW.alike hK, hDc.weaken (fun _ _ _ _ => trivial)⟩⟩ rfl rfl hls rfl (lv_room hrest) hdg ⟨Nat.zero_le _, Nat.zero_le _⟩) hS (fun q _ h => hFc q h) hFc (fun r u t H1 locs ht hvm hw1 hB hz1 hk1 hS => ?_)
  obtain ⟨rfl, rfl⟩ := hw1
  obtain ⟨hP1, hK1, hD1⟩ := hB
  rw [ht] at hP1
  obtain ⟨hP2, hD2⟩ := mq_join hP hD is hC rfl hk1 hP1
  rw [mq_setM_same is _ ws hC] at hP2 hD2
  exact kk H1 locs hP2 hD2 hS
/-! ModalDesk$Sets.empty(I)V -/
def zr_X6_empty : Room := { frames := 1, cells := 0, slots := 0, locals := 22 }
def zc_X6_empty : Cond := .code yX6_empty cX6_empty 3 none
def zf_X6_empty_2b (N : Nat) (z : Nat → Nat) (k2 : Int32 → Int32 → mq_St → Option (Unit × mq_St)) (v1 : Int32) (v2 : Int32) (S : mq_St) : Option (Unit × mq_St) := (if (5 : Int32) ≤ v2 then (some ((), S)) else (mq_cp (zf_X6_isPlace N z (v1) ((0 : Int32)) S) (fun q2 => (if q2 = (0 : Int32) then (some ((), S)) else (mq_ck (((v1 * (5 : Int32)) + v2)) (z 0) (mq_nS (mq_sl S 0 (vp_updL (S.2.2 0) (((v1 * (5 : Int32)) + v2)).toNatClampNeg ((0 : Int64)))) (fun S5 => (mq_nI (v2 + (1 : Int32)) (fun x6 => (k2 (v1) (x6) S5))))))))))
def zf_X6_empty_2 (N : Nat) (z : Nat → Nat) : Nat → Int32 → Int32 → mq_St → Option (Unit × mq_St)
  | 0, _, _, _ => none
  | n + 1, v1, v2, S => zf_X6_empty_2b N z (fun v1 v2 S => zf_X6_empty_2 N z n v1 v2 S) v1 v2 S
def zf_X6_empty (N : Nat) (z : Nat → Nat) (v1 : Int32) (S : mq_St) : Option (Unit × mq_St) := (mq_nI ((0 : Int32)) (fun x1 => (zf_X6_empty_2 N z N (v1) (x1) S)))
set_option maxHeartbeats 4000000 in
set_option maxRecDepth 100000 in
theorem zw_X6_empty_2b {p : Program} {l : Launch} {e : Env} {s : State} {m : MethodId} {args : Array Value} {below : List Frame} {meth : Method} {c : Code} {A : Nat → Prop} {D : va_G} {a z : Nat → Nat} {cI cL cB cZ : ClassId} {Q : State → Prop} {N : Nat} {res : Unit × mq_St} {k2 : Int32 → Int32 → mq_St → Option (Unit × mq_St)} (C : mq_C p s m args c A D cI cL cB cZ cX6_empty 3 RX6 zc_X6_empty) (hret : ∀ (H : Heap) (locs : List Loc) (ls : Array Slot) (pc : Nat), decode cX6_empty pc = .ok (.return_, 1) → va_P D vwCl (wd_S a cI cL cB cZ z res.2) H → va_D A (wd_S a cI cL cB cZ z res.2) → va_S A s.heap H locs → W p l e zr_X6_empty s m args below meth c H locs 0 0 Q (F0 m pc ls [])) (hk2 : ∀ (v1 : Int32) (v2 : Int32) (S : mq_St) (H : Heap) (locs : List Loc) (ls : Array Slot), k2 v1 v2 S = some res → lv_has ls 3 [(0, .ref (a 0)), (1, .int (v1)), (2, .int (v2))] → va_P D vwCl (wd_S a cI cL cB cZ z S) H → va_D A (wd_S a cI cL cB cZ z S) → va_S A s.heap H locs → W p l e zr_X6_empty s m args below meth c H locs 0 0 Q (F0 m 2 ls [])) (v1 : Int32) (v2 : Int32) (S : mq_St) (H : Heap) (locs : List Loc) (ls : Array Slot) (h : zf_X6_empty_2b N z k2 v1 v2 S = some res) (hl : lv_has ls 3 [(0, .ref (a 0)), (1, .int (v1)), (2, .int (v2))]) (hP : va_P D vwCl (wd_S a cI cL cB cZ z S) H) (hD : va_D A (wd_S a cI cL cB cZ z S)) (hS : va_S A s.heap H locs) : W p l e zr_X6_empty s m args below meth c H locs 0 0 Q (F0 m 2 ls []) := by
  obtain ⟨hx, hb, hml, hown, hts, hK, hA⟩ := id C
  unfold zf_X6_empty_2b at h
  refine lv_iload_n hx hb dX6_empty_2 rfl (lv_at hl 2 rfl) ?_
  refine lv_iconst (v := (5 : Int32)) hx hb dX6_empty_3 (by decide) ?_
  refine lv_icmp_ge (tgt := 33) hx hb dX6_empty_4 (by decide) (fun c8 => ?_) (fun c8 => ?_)
  · replace h := mq_it c8 h
    cases h
    exact hret H locs ls 33 dX6_empty_33 hP hD hS
  · replace h := mq_if c8 h
    refine lv_aload_n hx hb dX6_empty_7 rfl (lv_at hl 0 rfl) ?_
    refine lv_iload_n hx hb dX6_empty_8 rfl (lv_at hl 1 rfl) ?_
    refine lv_iconst (v := (0 : Int32)) hx hb dX6_empty_9 (by decide) ?_
    obtain ⟨q2, hc3, h⟩ := mq_cp_go h
    refine zk_X6_isPlace C zt_m_X6_21 ⟨by decide, by decide⟩ hc3 hP hD hS hl.1 (Nat.le_of_ble_eq_true rfl) dX6_empty_10 (fun H locs hP hD hS => ?_)
    refine lv_if_eq (tgt := 33) hx hb dX6_empty_13 (by decide) (fun c7 => ?_) (fun c7 => ?_)
    · replace h := mq_it c7 h
      cases h
      exact hret H locs ls 33 dX6_empty_33 hP hD hS
    · replace h := mq_if c7 h
      refine lv_aload_n hx hb dX6_empty_16 rfl (lv_at hl 0 rfl) ?_
      refine va_get (D := D) (ci := 6) (v := .ref (a 1)) (C := RX6) (T := TX6) (N := 1) hx hb hts (zi_X6 _) hown hK hP 0 rfl rfl 0 (by decide) (hts _ (List.mem_cons_of_mem _ zt_f_X6_17)) (fun _ h9 => h9) rfl dX6_empty_17 ?_
      refine lv_iload_n hx hb dX6_empty_20 rfl (lv_at hl 1 rfl) ?_
      refine lv_iconst (v := (5 : Int32)) hx hb dX6_empty_21 (by decide) ?_
      refine lv_imul hx hb dX6_empty_22 ?_
      refine lv_iload_n hx hb dX6_empty_23 rfl (lv_at hl 2 rfl) ?_
      refine lv_iadd hx hb dX6_empty_24 ?_
      refine lv_lconst (v := 0) hx hb dX6_empty_25 (by decide) ?_
      have hi4 := mq_ck_in h
      replace h := mq_ck_go h
      refine mq_last (w := wd_S a cI cL cB cZ z) (S := S) (f := S.2.2 0) hx hb hK hP hD hS 1 1 rfl rfl hi4 dX6_empty_26 0 rfl (fun S5 eS5 H locs hP hD hS => ?_)
      replace h := mq_nS_go eS5 h
      obtain ⟨x6, ex6⟩ : ∃ y : Int32, y = v2 + (1 : Int32) := ⟨_, rfl⟩
      replace h := mq_nI_go ex6 h
      refine lv_iinc (v := x6) (lv' := [(2, .int (x6)), (0, .ref (a 0)), (1, .int (v1))]) hx hb dX6_empty_27 hl (k := 2) rfl (by rw [ex6]; rfl) (by decide) rfl (fun ls hl => ?_)
      refine lv_goto (tgt := 2) hx hb dX6_empty_30 (by decide) ?_
      exact hk2 (v1) (x6) S5 H locs ls h (lv_sub hl [1, 2, 0] rfl) hP hD hS
set_option maxHeartbeats 4000000 in
set_option maxRecDepth 100000 in
theorem zw_X6_empty_2 {p : Program} {l : Launch} {e : Env} {s : State} {m : MethodId} {args : Array Value} {below : List Frame} {meth : Method} {c : Code} {A : Nat → Prop} {D : va_G} {a z : Nat → Nat} {cI cL cB cZ : ClassId} {Q : State → Prop} {N : Nat} {res : Unit × mq_St} (C : mq_C p s m args c A D cI cL cB cZ cX6_empty 3 RX6 zc_X6_empty) (hret : ∀ (H : Heap) (locs : List Loc) (ls : Array Slot) (pc : Nat), decode cX6_empty pc = .ok (.return_, 1) → va_P D vwCl (wd_S a cI cL cB cZ z res.2) H → va_D A (wd_S a cI cL cB cZ z res.2) → va_S A s.heap H locs → W p l e zr_X6_empty s m args below meth c H locs 0 0 Q (F0 m pc ls [])) : ∀ (n : Nat) (v1 : Int32) (v2 : Int32) (S : mq_St) (H : Heap) (locs : List Loc) (ls : Array Slot) (h : zf_X6_empty_2 N z n v1 v2 S = some res) (hl : lv_has ls 3 [(0, .ref (a 0)), (1, .int (v1)), (2, .int (v2))]) (hP : va_P D vwCl (wd_S a cI cL cB cZ z S) H) (hD : va_D A (wd_S a cI cL cB cZ z S)) (hS : va_S A s.heap H locs), W p l e zr_X6_empty s m args below meth c H locs 0 0 Q (F0 m 2 ls []) := by
  intro n
  induction n with
  | zero =>
    intro v1 v2 S H locs ls h hl hP hD hS
    exact nomatch (show (none : Option (Unit × mq_St)) = some res from h)
  | succ n ih =>
    intro v1 v2 S H locs ls h hl hP hD hS
    exact zw_X6_empty_2b C hret (fun v1 v2 S H locs ls h hl hP hD hS => ih v1 v2 S H locs ls h hl hP hD hS) v1 v2 S H locs ls h hl hP hD hS
set_option maxHeartbeats 4000000 in
set_option maxRecDepth 100000 in
theorem zw_X6_empty_0 {p : Program} {l : Launch} {e : Env} {s : State} {m : MethodId} {args : Array Value} {below : List Frame} {meth : Method} {c : Code} {A : Nat → Prop} {D : va_G} {a z : Nat → Nat} {cI cL cB cZ : ClassId} {Q : State → Prop} {N : Nat} {res : Unit × mq_St} (C : mq_C p s m args c A D cI cL cB cZ cX6_empty 3 RX6 zc_X6_empty) (hret : ∀ (H : Heap) (locs : List Loc) (ls : Array Slot) (pc : Nat), decode cX6_empty pc = .ok (.return_, 1) → va_P D vwCl (wd_S a cI cL cB cZ z res.2) H → va_D A (wd_S a cI cL cB cZ z res.2) → va_S A s.heap H locs → W p l e zr_X6_empty s m args below meth c H locs 0 0 Q (F0 m pc ls [])) (v1 : Int32) (S : mq_St) (H : Heap) (locs : List Loc) (ls : Array Slot) (h : zf_X6_empty N z v1 S = some res) (hl : lv_has ls 3 [(0, .ref (a 0)), (1, .int (v1))]) (hP : va_P D vwCl (wd_S a cI cL cB cZ z S) H) (hD : va_D A (wd_S a cI cL cB cZ z S)) (hS : va_S A s.heap H locs) : W p l e zr_X6_empty s m args below meth c H locs 0 0 Q (F0 m 0 ls []) := by
  obtain ⟨hx, hb, hml, hown, hts, hK, hA⟩ := id C
  unfold zf_X6_empty at h
  refine lv_iconst (v := (0 : Int32)) hx hb dX6_empty_0 (by decide) ?_
  refine lv_topi (fun x1 ex1 => ?_)
  replace h := mq_nI_go ex1 h
  refine lv_istore_n (lv' := [(2, .int (x1)), (0, .ref (a 0)), (1, .int (v1))]) hx hb dX6_empty_1 rfl hl (by decide) rfl (fun ls hl => ?_)
  exact zw_X6_empty_2 C hret N (v1) (x1) S H locs ls h (lv_sub hl [1, 2, 0] rfl) hP hD hS
set_option maxHeartbeats 4000000 in
set_option maxRecDepth 100000 in
theorem zm_X6_empty (l : Launch) (D : va_G) (a z : Nat → Nat) (cI cL cB cZ : ClassId) (sz N : Nat) (v1 : Int32) (S : mq_St) (res : Unit × mq_St) (h : zf_X6_empty N z v1 S = some res) : Met l yX6_empty (zc_X6_empty :: mq_T) zr_X6_empty (va_Pc [.ref (a 0), .int (v1)] (fun U => U.heap.size = sz ∧ va_P D vwCl (wd_S a cI cL cB cZ z S) U.heap ∧ va_K D vwCl (mq_tys cI cL cB cZ) U ∧ va_D (fun _ => True) (wd_S a cI cL cB cZ z S))) (va_Qv (fun u : mq_St => u = res.2) (fun u t => va_P D vwCl (wd_S a cI cL cB cZ z u) t.heap ∧ va_K D vwCl (mq_tys cI cL cB cZ) t ∧ va_D (va_A (wd_S a cI cL cB cZ z S) sz) (wd_S a cI cL cB cZ z u)) (va_A (wd_S a cI cL cB cZ z S) sz)) 0 0 (va_A (wd_S a cI cL cB cZ z S) sz) := by
  refine Met.ofW (cc := cX6_empty) (maxL := 3) (ret := none) (by decide) rfl ?_
  intro p e s m args below meth c s₁ B hml hv
  obtain ⟨rfl, hsz, hP, hK, hD0⟩ := hv
  have hr := B.returns
  have hlocks := B.notSynchronized
  have hts := atoms_spec (ws := zc_X6_empty :: mq_T) B.pre
  have hown : s.vm.findClass RX6 = some m.cls := findClass_of_methodNamed B.named
  subst hsz
  have hD := hD0.self (sz := s.heap.size)
  generalize hAe : va_A (wd_S a cI cL cB cZ z S) s.heap.size = A at hD ⊢
  have hA : ∀ q : Nat, s.heap.size ≤ q → A q := fun q h => by rw [← hAe]; exact Or.inr h
  have hl := lv_entry ([.ref (a 0), .int (v1)]) (n := 3) (Nat.le_of_ble_eq_true rfl)
  rw [lg_entry_eq]
  generalize (lg_sl ([.ref (a 0), .int (v1)]) ++ List.replicate (3 - (lg_sl ([.ref (a 0), .int (v1)])).length) Slot.unset).toArray = ls at hl ⊢
  have hl : lv_has ls 3 [(0, .ref (a 0)), (1, .int (v1))] := hl
  refine zw_X6_empty_0 (A := A) ⟨B.exec, B.bytes, hml, hown, hts, hK, hA⟩ (fun H locs ls pc dg hP hD hS => ?_) v1 S s.heap [] ls h hl hP hD va_S.rf
  exact W.vret B.exec B.bytes hr (fun t ht hW => ⟨⟨_, rfl, rfl, by rw [ht]; exact hP, va_K.moved hW.alike hK, hD⟩, hS.F ht⟩) hS.2.2 dg
theorem zt_X6_empty_c : zc_X6_empty ∈ mq_T := mq_T_mem (mq_t4 (List.mem_of_getElem? (i := 11) rfl)) rfl
theorem zt_X6_empty_i : Cond.instanceMethod yX6_empty ∈ mq_T := mq_T_mem (mq_t4 (List.mem_of_getElem? (i := 9) rfl)) rfl
theorem zt_X6_empty_s : Cond.selects RX6 yX6_empty yX6_empty ∈ mq_T := mq_T_mem (mq_t4 (List.mem_of_getElem? (i := 10) rfl)) rfl
set_option maxHeartbeats 4000000 in
theorem zv_X6_empty {p : Program} {l : Launch} {e : Env} {R : Room} {s : State} {m : MethodId} {args : Array Value} {below : List Frame} {meth : Method} {c : Code} {A : Nat → Prop} {D : va_G} {a z : Nat → Nat} {cI cL cB cZ : ClassId} {Q : State → Prop} {cc : ByteArray} {nL idx pc N : Nat} {own : String} {c1 : Cond} {H : Heap} {locs : List Loc} {ls : Array Slot} {rest : List Value} {S : mq_St} {res : Unit × mq_St} {v1 : Int32} {ws : va_W} (is : List Nat) (C : mq_C p s m args c A D cI cL cB cZ cc nL own c1) (hlk : Cond.methodLink own idx yX6_empty ∈ mq_T) (hR : zr_X6_empty.frames + 1 ≤ R.frames ∧ 8 + (3 + 11) + zr_X6_empty.locals ≤ R.locals) (h : zf_X6_empty N z v1 S = some res) (hC : is.map (fun i => ws[i]?) = (wd_S a cI cL cB cZ z S).map some) (hnd : va_nd is = true) {ws' : va_W} (hw : mq_setM ws is (wd_S a cI cL cB cZ z res.2) = ws') (hP : va_P D vwCl ws H) (hD : va_D A ws) (hS : va_S A s.heap H locs) (hls : ls.size = nL) (hrest : (rest.map fun v => v.category).sum ≤ 8) (hdg : decode cc pc = .ok (.invokevirtual idx, 3)) (kk : ∀ (H1 : Heap) (locs1 : List Loc), va_P D vwCl ws' H1 → va_D A ws' → va_S A s.heap H1 locs1 → W p l e R s m args below meth c H1 locs1 0 0 Q (F0 m (pc + 3) ls rest)) : W p l e R s m args below meth c H locs 0 0 Q (F0 m pc ls (.int (v1) :: .ref (a 0) :: rest)) := by
  obtain ⟨hx, hb, hml, hown, hts, hK, hA⟩ := C
  have hPc := mq_subP hP is hC
  have hDc := hD.sub is hnd hC
  have hFc := va_free hD hS hA is hC
  refine va_callv (va_runV (As := [.int (v1)]) (rest := rest) ⟨hx, hb, hml, hown, hts⟩ (zm_X6_empty l D a z cI cL cB cZ H.size N v1 S res h) (cwV 1 hts (mq_goodL (mq_wsV hlk zt_X6_empty_i zt_X6_empty_s zt_ini_X6 zt_X6_empty_c)) rfl rfl rfl (by decide +kernel) hR) ⟨fun a U g mk q => ⟨q.1, q.2.1, q.2.2.1, va_K.moved (u := U) (U := U.calling g mk a) (Vm.Alike.refl U.vm) q.2.2.2.1, q.2.2.2.2⟩, va_recv hK hPc (ci := 6) (q0 := 0) rfl rfl, fun U hU hW => ⟨rfl, by rw [hU], by rw [hU]; exact hPc, va_K.moved hW.alike hK, hDc.weaken (fun _ _ _ _ => trivial)⟩⟩ rfl rfl hls rfl (lv_room hrest) hdg ⟨Nat.zero_le _, Nat.zero_le _⟩) hS (fun q _ h => hFc q h) hFc (fun u t H1 locs ht hvm hw1 hB hz1 hk1 hS => ?_)
  subst hw1
  obtain ⟨hP1, hK1, hD1⟩ := hB
  rw [ht] at hP1
  obtain ⟨hP2, hD2⟩ := mq_join (w1 := (wd_S a cI cL cB cZ z res.2)) hP hD is hC rfl hk1 hP1
  rw [hw] at hP2 hD2
  exact kk H1 locs hP2 hD2 hS
/-! ModalDesk$Sets.isSame(II)Z -/
def zr_X6_isSame : Room := { frames := 1, cells := 0, slots := 0, locals := 22 }
def zc_X6_isSame : Cond := .code yX6_isSame cX6_isSame 5 (some .boolean)
def zf_X6_isSame_68 (N : Nat) (z : Nat → Nat) (S : mq_St) (k27 : Int32 → Int32 → Int32 → Int32 → Option (Int32)) (v1 : Int32) (v2 : Int32) (v4 : Int32) (t0 : Int32) : Option (Int32) := (mq_nI (t0) (fun x16 => (mq_nI (v4 + (1 : Int32)) (fun x17 => (k27 (v1) (v2) (x16) (x17))))))
def zf_X6_isSame_27b (N : Nat) (z : Nat → Nat) (S : mq_St) (k27 : Int32 → Int32 → Int32 → Int32 → Option (Int32)) (v1 : Int32) (v2 : Int32) (v3 : Int32) (v4 : Int32) : Option (Int32) := (if (5 : Int32) ≤ v4 then (mq_cz (v3) (some (v3))) else (if v3 = (0 : Int32) then (mq_cz (v3) (some (v3))) else (mq_ck (((v1 * (5 : Int32)) + v4)) (z 0) (mq_ck (((v2 * (5 : Int32)) + v4)) (z 0) (if (lg_cmp (S.2.2 0 (((v1 * (5 : Int32)) + v4)).toNatClampNeg) (S.2.2 0 (((v2 * (5 : Int32)) + v4)).toNatClampNeg)) = (0 : Int32) then (zf_X6_isSame_68 N z S k27 (v1) (v2) (v4) ((1 : Int32))) else (zf_X6_isSame_68 N z S k27 (v1) (v2) (v4) ((0 : Int32))))))))
def zf_X6_isSame_27 (N : Nat) (z : Nat → Nat) (S : mq_St) : Nat → Int32 → Int32 → Int32 → Int32 → Option (Int32)
  | 0, _, _, _, _ => none
  | n + 1, v1, v2, v3, v4 => zf_X6_isSame_27b N z S (fun v1 v2 v3 v4 => zf_X6_isSame_27 N z S n v1 v2 v3 v4) v1 v2 v3 v4
def zf_X6_isSame_23 (N : Nat) (z : Nat → Nat) (S : mq_St) (v1 : Int32) (v2 : Int32) (t0 : Int32) : Option (Int32) := (mq_nI (t0) (fun x7 => (mq_nI ((0 : Int32)) (fun x8 => (zf_X6_isSame_27 N z S N (v1) (v2) (x7) (x8))))))
def zf_X6_isSame_22 (N : Nat) (z : Nat → Nat) (S : mq_St) (v1 : Int32) (v2 : Int32) : Option (Int32) := (zf_X6_isSame_23 N z S (v1) (v2) ((0 : Int32)))
def zf_X6_isSame (N : Nat) (z : Nat → Nat) (v1 : Int32) (v2 : Int32) (S : mq_St) : Option (Int32) := (mq_cp (zf_X6_isPlace N z (v1) ((0 : Int32)) S) (fun q1 => (if q1 = (0 : Int32) then (zf_X6_isSame_22 N z S (v1) (v2)) else (mq_cp (zf_X6_isPlace N z (v2) ((0 : Int32)) S) (fun q3 => (if q3 = (0 : Int32) then (zf_X6_isSame_22 N z S (v1) (v2)) else (zf_X6_isSame_23 N z S (v1) (v2) ((1 : Int32)))))))))
set_option maxHeartbeats 4000000 in
set_option maxRecDepth 100000 in
theorem zw_X6_isSame_68 {p : Program} {l : Launch} {e : Env} {s : State} {m : MethodId} {args : Array Value} {below : List Frame} {meth : Method} {c : Code} {A : Nat → Prop} {D : va_G} {a z : Nat → Nat} {cI cL cB cZ : ClassId} {Q : State → Prop} {N : Nat} {S : mq_St} {res : Int32} {k27 : Int32 → Int32 → Int32 → Int32 → Option (Int32)} (C : mq_C p s m args c A D cI cL cB cZ cX6_isSame 5 RX6 zc_X6_isSame) (hret : ∀ (H : Heap) (locs : List Loc) (ls : Array Slot) (pc : Nat), decode cX6_isSame pc = .ok (.ireturn, 1) → narrow .boolean (.int res) = .int res → va_P D vwCl (wd_S a cI cL cB cZ z S) H → va_D A (wd_S a cI cL cB cZ z S) → va_S A s.heap H locs → W p l e zr_X6_isSame s m args below meth c H locs 0 0 Q (F0 m pc ls [.int res])) (hk27 : ∀ (v1 : Int32) (v2 : Int32) (v3 : Int32) (v4 : Int32) (H : Heap) (locs : List Loc) (ls : Array Slot), k27 v1 v2 v3 v4 = some res → lv_has ls 5 [(0, .ref (a 0)), (1, .int (v1)), (2, .int (v2)), (3, .int (v3)), (4, .int (v4))] → va_P D vwCl (wd_S a cI cL cB cZ z S) H → va_D A (wd_S a cI cL cB cZ z S) → va_S A s.heap H locs → W p l e zr_X6_isSame s m args below meth c H locs 0 0 Q (F0 m 27 ls [])) (v1 : Int32) (v2 : Int32) (v4 : Int32) (t0 : Int32) (H : Heap) (locs : List Loc) (ls : Array Slot) (h : zf_X6_isSame_68 N z S k27 v1 v2 v4 t0 = some res) (hl : lv_has ls 5 [(0, .ref (a 0)), (1, .int (v1)), (2, .int (v2)), (4, .int (v4))]) (hP : va_P D vwCl (wd_S a cI cL cB cZ z S) H) (hD : va_D A (wd_S a cI cL cB cZ z S)) (hS : va_S A s.heap H locs) : W p l e zr_X6_isSame s m args below meth c H locs 0 0 Q (F0 m 68 ls [.int (t0)]) := by
  obtain ⟨hx, hb, hml, hown, hts, hK, hA⟩ := id C
  unfold zf_X6_isSame_68 at h
  refine lv_topi (fun x16 ex16 => ?_)
  replace h := mq_nI_go ex16 h
  refine lv_istore_n (lv' := [(3, .int (x16)), (0, .ref (a 0)), (1, .int (v1)), (2, .int (v2)), (4, .int (v4))]) hx hb dX6_isSame_68 rfl hl (by decide) rfl (fun ls hl => ?_)
  obtain ⟨x17, ex17⟩ : ∃ y : Int32, y = v4 + (1 : Int32) := ⟨_, rfl⟩
  replace h := mq_nI_go ex17 h
  refine lv_iinc (v := x17) (lv' := [(4, .int (x17)), (3, .int (x16)), (0, .ref (a 0)), (1, .int (v1)), (2, .int (v2))]) hx hb dX6_isSame_69 hl (k := 4) rfl (by rw [ex17]; rfl) (by decide) rfl (fun ls hl => ?_)
  refine lv_goto (tgt := 27) hx hb dX6_isSame_72 (by decide) ?_
  exact hk27 (v1) (v2) (x16) (x17) H locs ls h (lv_sub hl [2, 3, 4, 1, 0] rfl) hP hD hS
set_option maxHeartbeats 4000000 in
set_option maxRecDepth 100000 in
theorem zw_X6_isSame_27b {p : Program} {l : Launch} {e : Env} {s : State} {m : MethodId} {args : Array Value} {below : List Frame} {meth : Method} {c : Code} {A : Nat → Prop} {D : va_G} {a z : Nat → Nat} {cI cL cB cZ : ClassId} {Q : State → Prop} {N : Nat} {S : mq_St} {res : Int32} {k27 : Int32 → Int32 → Int32 → Int32 → Option (Int32)} (C : mq_C p s m args c A D cI cL cB cZ cX6_isSame 5 RX6 zc_X6_isSame) (hret : ∀ (H : Heap) (locs : List Loc) (ls : Array Slot) (pc : Nat), decode cX6_isSame pc = .ok (.ireturn, 1) → narrow .boolean (.int res) = .int res → va_P D vwCl (wd_S a cI cL cB cZ z S) H → va_D A (wd_S a cI cL cB cZ z S) → va_S A s.heap H locs → W p l e zr_X6_isSame s m args below meth c H locs 0 0 Q (F0 m pc ls [.int res])) (hk27 : ∀ (v1 : Int32) (v2 : Int32) (v3 : Int32) (v4 : Int32) (H : Heap) (locs : List Loc) (ls : Array Slot), k27 v1 v2 v3 v4 = some res → lv_has ls 5 [(0, .ref (a 0)), (1, .int (v1)), (2, .int (v2)), (3, .int (v3)), (4, .int (v4))] → va_P D vwCl (wd_S a cI cL cB cZ z S) H → va_D A (wd_S a cI cL cB cZ z S) → va_S A s.heap H locs → W p l e zr_X6_isSame s m args below meth c H locs 0 0 Q (F0 m 27 ls [])) (v1 : Int32) (v2 : Int32) (v3 : Int32) (v4 : Int32) (H : Heap) (locs : List Loc) (ls : Array Slot) (h : zf_X6_isSame_27b N z S k27 v1 v2 v3 v4 = some res) (hl : lv_has ls 5 [(0, .ref (a 0)), (1, .int (v1)), (2, .int (v2)), (3, .int (v3)), (4, .int (v4))]) (hP : va_P D vwCl (wd_S a cI cL cB cZ z S) H) (hD : va_D A (wd_S a cI cL cB cZ z S)) (hS : va_S A s.heap H locs) : W p l e zr_X6_isSame s m args below meth c H locs 0 0 Q (F0 m 27 ls []) := by
  obtain ⟨hx, hb, hml, hown, hts, hK, hA⟩ := id C
  unfold zf_X6_isSame_27b at h
  refine lv_iload hx hb dX6_isSame_27 (lv_at hl 4 rfl) ?_
  refine lv_iconst (v := (5 : Int32)) hx hb dX6_isSame_29 (by decide) ?_
  refine lv_icmp_ge (tgt := 75) hx hb dX6_isSame_30 (by decide) (fun c15 => ?_) (fun c15 => ?_)
  · replace h := mq_it c15 h
    refine lv_iload_n hx hb dX6_isSame_75 rfl (lv_at hl 3 rfl) ?_
    have hz9 := mq_cz_in h
    replace h := mq_cz_go h
    cases h
    exact hret H locs ls 76 dX6_isSame_76 hz9.1 hP hD hS
  · replace h := mq_if c15 h
    refine lv_iload_n hx hb dX6_isSame_33 rfl (lv_at hl 3 rfl) ?_
    refine lv_if_eq (tgt := 75) hx hb dX6_isSame_34 (by decide) (fun c14 => ?_) (fun c14 => ?_)
    · replace h := mq_it c14 h
      refine lv_iload_n hx hb dX6_isSame_75 rfl (lv_at hl 3 rfl) ?_
      have hz10 := mq_cz_in h
      replace h := mq_cz_go h
      cases h
      exact hret H locs ls 76 dX6_isSame_76 hz10.1 hP hD hS
    · replace h := mq_if c14 h
      refine lv_aload_n hx hb dX6_isSame_37 rfl (lv_at hl 0 rfl) ?_
      refine va_get (D := D) (ci := 6) (v := .ref (a 1)) (C := RX6) (T := TX6) (N := 1) hx hb hts (zi_X6 _) hown hK hP 0 rfl rfl 0 (by decide) (hts _ (List.mem_cons_of_mem _ zt_f_X6_17)) (fun _ h9 => h9) rfl dX6_isSame_38 ?_
      refine lv_iload_n hx hb dX6_isSame_41 rfl (lv_at hl 1 rfl) ?_
      refine lv_iconst (v := (5 : Int32)) hx hb dX6_isSame_42 (by decide) ?_
      refine lv_imul hx hb dX6_isSame_43 ?_
      refine lv_iload hx hb dX6_isSame_44 (lv_at hl 4 rfl) ?_
      refine lv_iadd hx hb dX6_isSame_46 ?_
      have hi11 := mq_ck_in h
      replace h := mq_ck_go h
      refine va_lald (f := S.2.2 0) hx hb hK hP 1 1 rfl rfl hi11 dX6_isSame_47 ?_
      refine lv_aload_n hx hb dX6_isSame_48 rfl (lv_at hl 0 rfl) ?_
      refine va_get (D := D) (ci := 6) (v := .ref (a 1)) (C := RX6) (T := TX6) (N := 1) hx hb hts (zi_X6 _) hown hK hP 0 rfl rfl 0 (by decide) (hts _ (List.mem_cons_of_mem _ zt_f_X6_17)) (fun _ h9 => h9) rfl dX6_isSame_49 ?_
      refine lv_iload_n hx hb dX6_isSame_52 rfl (lv_at hl 2 rfl) ?_
      refine lv_iconst (v := (5 : Int32)) hx hb dX6_isSame_53 (by decide) ?_
      refine lv_imul hx hb dX6_isSame_54 ?_
      refine lv_iload hx hb dX6_isSame_55 (lv_at hl 4 rfl) ?_
      refine lv_iadd hx hb dX6_isSame_57 ?_
      have hi12 := mq_ck_in h
      replace h := mq_ck_go h
      refine va_lald (f := S.2.2 0) hx hb hK hP 1 1 rfl rfl hi12 dX6_isSame_58 ?_
      refine W.lcmp hx hb dX6_isSame_59 ?_
      refine lv_if_ne (tgt := 67) hx hb dX6_isSame_60 (by decide) (fun c13 => ?_) (fun c13 => ?_)
      · replace h := mq_if c13 h
        refine lv_iconst (v := (0 : Int32)) hx hb dX6_isSame_67 (by decide) ?_
        exact zw_X6_isSame_68 C hret hk27 (v1) (v2) (v4) ((0 : Int32)) H locs ls h (lv_sub hl [0, 1, 2, 4] rfl) hP hD hS
      · replace h := mq_it (by simpa using c13) h
        refine lv_iconst (v := (1 : Int32)) hx hb dX6_isSame_63 (by decide) ?_
        refine lv_goto (tgt := 68) hx hb dX6_isSame_64 (by decide) ?_
        exact zw_X6_isSame_68 C hret hk27 (v1) (v2) (v4) ((1 : Int32)) H locs ls h (lv_sub hl [0, 1, 2, 4] rfl) hP hD hS
set_option maxHeartbeats 4000000 in
set_option maxRecDepth 100000 in
theorem zw_X6_isSame_27 {p : Program} {l : Launch} {e : Env} {s : State} {m : MethodId} {args : Array Value} {below : List Frame} {meth : Method} {c : Code} {A : Nat → Prop} {D : va_G} {a z : Nat → Nat} {cI cL cB cZ : ClassId} {Q : State → Prop} {N : Nat} {S : mq_St} {res : Int32} (C : mq_C p s m args c A D cI cL cB cZ cX6_isSame 5 RX6 zc_X6_isSame) (hret : ∀ (H : Heap) (locs : List Loc) (ls : Array Slot) (pc : Nat), decode cX6_isSame pc = .ok (.ireturn, 1) → narrow .boolean (.int res) = .int res → va_P D vwCl (wd_S a cI cL cB cZ z S) H → va_D A (wd_S a cI cL cB cZ z S) → va_S A s.heap H locs → W p l e zr_X6_isSame s m args below meth c H locs 0 0 Q (F0 m pc ls [.int res])) : ∀ (n : Nat) (v1 : Int32) (v2 : Int32) (v3 : Int32) (v4 : Int32) (H : Heap) (locs : List Loc) (ls : Array Slot) (h : zf_X6_isSame_27 N z S n v1 v2 v3 v4 = some res) (hl : lv_has ls 5 [(0, .ref (a 0)), (1, .int (v1)), (2, .int (v2)), (3, .int (v3)), (4, .int (v4))]) (hP : va_P D vwCl (wd_S a cI cL cB cZ z S) H) (hD : va_D A (wd_S a cI cL cB cZ z S)) (hS : va_S A s.heap H locs), W p l e zr_X6_isSame s m args below meth c H locs 0 0 Q (F0 m 27 ls []) := by
  intro n
  induction n with
  | zero =>
    intro v1 v2 v3 v4 H locs ls h hl hP hD hS
    exact nomatch (show (none : Option (Int32)) = some res from h)
  | succ n ih =>
    intro v1 v2 v3 v4 H locs ls h hl hP hD hS
    exact zw_X6_isSame_27b C hret (fun v1 v2 v3 v4 H locs ls h hl hP hD hS => ih v1 v2 v3 v4 H locs ls h hl hP hD hS) v1 v2 v3 v4 H locs ls h hl hP hD hS
set_option maxHeartbeats 4000000 in
set_option maxRecDepth 100000 in
theorem zw_X6_isSame_23 {p : Program} {l : Launch} {e : Env} {s : State} {m : MethodId} {args : Array Value} {below : List Frame} {meth : Method} {c : Code} {A : Nat → Prop} {D : va_G} {a z : Nat → Nat} {cI cL cB cZ : ClassId} {Q : State → Prop} {N : Nat} {S : mq_St} {res : Int32} (C : mq_C p s m args c A D cI cL cB cZ cX6_isSame 5 RX6 zc_X6_isSame) (hret : ∀ (H : Heap) (locs : List Loc) (ls : Array Slot) (pc : Nat), decode cX6_isSame pc = .ok (.ireturn, 1) → narrow .boolean (.int res) = .int res → va_P D vwCl (wd_S a cI cL cB cZ z S) H → va_D A (wd_S a cI cL cB cZ z S) → va_S A s.heap H locs → W p l e zr_X6_isSame s m args below meth c H locs 0 0 Q (F0 m pc ls [.int res])) (v1 : Int32) (v2 : Int32) (t0 : Int32) (H : Heap) (locs : List Loc) (ls : Array Slot) (h : zf_X6_isSame_23 N z S v1 v2 t0 = some res) (hl : lv_has ls 5 [(0, .ref (a 0)), (1, .int (v1)), (2, .int (v2))]) (hP : va_P D vwCl (wd_S a cI cL cB cZ z S) H) (hD : va_D A (wd_S a cI cL cB cZ z S)) (hS : va_S A s.heap H locs) : W p l e zr_X6_isSame s m args below meth c H locs 0 0 Q (F0 m 23 ls [.int (t0)]) := by
  obtain ⟨hx, hb, hml, hown, hts, hK, hA⟩ := id C
  unfold zf_X6_isSame_23 at h
  refine lv_topi (fun x7 ex7 => ?_)
  replace h := mq_nI_go ex7 h
  refine lv_istore_n (lv' := [(3, .int (x7)), (0, .ref (a 0)), (1, .int (v1)), (2, .int (v2))]) hx hb dX6_isSame_23 rfl hl (by decide) rfl (fun ls hl => ?_)
  refine lv_iconst (v := (0 : Int32)) hx hb dX6_isSame_24 (by decide) ?_
  refine lv_topi (fun x8 ex8 => ?_)
  replace h := mq_nI_go ex8 h
  refine lv_istore (lv' := [(4, .int (x8)), (3, .int (x7)), (0, .ref (a 0)), (1, .int (v1)), (2, .int (v2))]) hx hb dX6_isSame_25 hl (by decide) rfl (fun ls hl => ?_)
  exact zw_X6_isSame_27 C hret N (v1) (v2) (x7) (x8) H locs ls h (lv_sub hl [2, 3, 4, 1, 0] rfl) hP hD hS
set_option maxHeartbeats 4000000 in
set_option maxRecDepth 100000 in
theorem zw_X6_isSame_22 {p : Program} {l : Launch} {e : Env} {s : State} {m : MethodId} {args : Array Value} {below : List Frame} {meth : Method} {c : Code} {A : Nat → Prop} {D : va_G} {a z : Nat → Nat} {cI cL cB cZ : ClassId} {Q : State → Prop} {N : Nat} {S : mq_St} {res : Int32} (C : mq_C p s m args c A D cI cL cB cZ cX6_isSame 5 RX6 zc_X6_isSame) (hret : ∀ (H : Heap) (locs : List Loc) (ls : Array Slot) (pc : Nat), decode cX6_isSame pc = .ok (.ireturn, 1) → narrow .boolean (.int res) = .int res → va_P D vwCl (wd_S a cI cL cB cZ z S) H → va_D A (wd_S a cI cL cB cZ z S) → va_S A s.heap H locs → W p l e zr_X6_isSame s m args below meth c H locs 0 0 Q (F0 m pc ls [.int res])) (v1 : Int32) (v2 : Int32) (H : Heap) (locs : List Loc) (ls : Array Slot) (h : zf_X6_isSame_22 N z S v1 v2 = some res) (hl : lv_has ls 5 [(0, .ref (a 0)), (1, .int (v1)), (2, .int (v2))]) (hP : va_P D vwCl (wd_S a cI cL cB cZ z S) H) (hD : va_D A (wd_S a cI cL cB cZ z S)) (hS : va_S A s.heap H locs) : W p l e zr_X6_isSame s m args below meth c H locs 0 0 Q (F0 m 22 ls []) := by
  obtain ⟨hx, hb, hml, hown, hts, hK, hA⟩ := id C
  unfold zf_X6_isSame_22 at h
  refine lv_iconst (v := (0 : Int32)) hx hb dX6_isSame_22 (by decide) ?_
  exact zw_X6_isSame_23 C hret (v1) (v2) ((0 : Int32)) H locs ls h (lv_sub hl [0, 1, 2] rfl) hP hD hS
set_option maxHeartbeats 4000000 in
set_option maxRecDepth 100000 in
theorem zw_X6_isSame_0 {p : Program} {l : Launch} {e : Env} {s : State} {m : MethodId} {args : Array Value} {below : List Frame} {meth : Method} {c : Code} {A : Nat → Prop} {D : va_G} {a z : Nat → Nat} {cI cL cB cZ : ClassId} {Q : State → Prop} {N : Nat} {S : mq_St} {res : Int32} (C : mq_C p s m args c A D cI cL cB cZ cX6_isSame 5 RX6 zc_X6_isSame) (hret : ∀ (H : Heap) (locs : List Loc) (ls : Array Slot) (pc : Nat), decode cX6_isSame pc = .ok (.ireturn, 1) → narrow .boolean (.int res) = .int res → va_P D vwCl (wd_S a cI cL cB cZ z S) H → va_D A (wd_S a cI cL cB cZ z S) → va_S A s.heap H locs → W p l e zr_X6_isSame s m args below meth c H locs 0 0 Q (F0 m pc ls [.int res])) (v1 : Int32) (v2 : Int32) (H : Heap) (locs : List Loc) (ls : Array Slot) (h : zf_X6_isSame N z v1 v2 S = some res) (hl : lv_has ls 5 [(0, .ref (a 0)), (1, .int (v1)), (2, .int (v2))]) (hP : va_P D vwCl (wd_S a cI cL cB cZ z S) H) (hD : va_D A (wd_S a cI cL cB cZ z S)) (hS : va_S A s.heap H locs) : W p l e zr_X6_isSame s m args below meth c H locs 0 0 Q (F0 m 0 ls []) := by
  obtain ⟨hx, hb, hml, hown, hts, hK, hA⟩ := id C
  unfold zf_X6_isSame at h
  refine lv_aload_n hx hb dX6_isSame_0 rfl (lv_at hl 0 rfl) ?_
  refine lv_iload_n hx hb dX6_isSame_1 rfl (lv_at hl 1 rfl) ?_
  refine lv_iconst (v := (0 : Int32)) hx hb dX6_isSame_2 (by decide) ?_
  obtain ⟨q1, hc2, h⟩ := mq_cp_go h
  refine zk_X6_isPlace C zt_m_X6_21 ⟨by decide, by decide⟩ hc2 hP hD hS hl.1 (Nat.le_of_ble_eq_true rfl) dX6_isSame_3 (fun H locs hP hD hS => ?_)
  refine lv_if_eq (tgt := 22) hx hb dX6_isSame_6 (by decide) (fun c6 => ?_) (fun c6 => ?_)
  · replace h := mq_it c6 h
    exact zw_X6_isSame_22 C hret (v1) (v2) H locs ls h (lv_sub hl [0, 1, 2] rfl) hP hD hS
  · replace h := mq_if c6 h
    refine lv_aload_n hx hb dX6_isSame_9 rfl (lv_at hl 0 rfl) ?_
    refine lv_iload_n hx hb dX6_isSame_10 rfl (lv_at hl 2 rfl) ?_
    refine lv_iconst (v := (0 : Int32)) hx hb dX6_isSame_11 (by decide) ?_
    obtain ⟨q3, hc4, h⟩ := mq_cp_go h
    refine zk_X6_isPlace C zt_m_X6_21 ⟨by decide, by decide⟩ hc4 hP hD hS hl.1 (Nat.le_of_ble_eq_true rfl) dX6_isSame_12 (fun H locs hP hD hS => ?_)
    refine lv_if_eq (tgt := 22) hx hb dX6_isSame_15 (by decide) (fun c5 => ?_) (fun c5 => ?_)
    · replace h := mq_it c5 h
      exact zw_X6_isSame_22 C hret (v1) (v2) H locs ls h (lv_sub hl [0, 1, 2] rfl) hP hD hS
    · replace h := mq_if c5 h
      refine lv_iconst (v := (1 : Int32)) hx hb dX6_isSame_18 (by decide) ?_
      refine lv_goto (tgt := 23) hx hb dX6_isSame_19 (by decide) ?_
      exact zw_X6_isSame_23 C hret (v1) (v2) ((1 : Int32)) H locs ls h (lv_sub hl [0, 1, 2] rfl) hP hD hS
set_option maxHeartbeats 4000000 in
set_option maxRecDepth 100000 in
theorem zm_X6_isSame (l : Launch) (D : va_G) (a z : Nat → Nat) (cI cL cB cZ : ClassId) (sz N : Nat) (v1 : Int32) (v2 : Int32) (S : mq_St) (res : Int32) (h : zf_X6_isSame N z v1 v2 S = some res) : Met l yX6_isSame (zc_X6_isSame :: mq_T) zr_X6_isSame (va_Pc [.ref (a 0), .int (v1), .int (v2)] (fun U => U.heap.size = sz ∧ va_P D vwCl (wd_S a cI cL cB cZ z S) U.heap ∧ va_K D vwCl (mq_tys cI cL cB cZ) U ∧ va_D (fun _ => True) (wd_S a cI cL cB cZ z S))) (va_Qi (fun (r : Int32) (u : mq_St) => r = res ∧ u = S) (fun u t => va_P D vwCl (wd_S a cI cL cB cZ z u) t.heap ∧ va_K D vwCl (mq_tys cI cL cB cZ) t ∧ va_D (va_A (wd_S a cI cL cB cZ z S) sz) (wd_S a cI cL cB cZ z u)) (va_A (wd_S a cI cL cB cZ z S) sz)) 0 0 (va_A (wd_S a cI cL cB cZ z S) sz) := by
  refine Met.ofW (cc := cX6_isSame) (maxL := 5) (ret := (some .boolean)) (by decide) rfl ?_
  intro p e s m args below meth c s₁ B hml hv
  obtain ⟨rfl, hsz, hP, hK, hD0⟩ := hv
  have hr := B.returns
  have hlocks := B.notSynchronized
  have hts := atoms_spec (ws := zc_X6_isSame :: mq_T) B.pre
  have hown : s.vm.findClass RX6 = some m.cls := findClass_of_methodNamed B.named
  subst hsz
  have hD := hD0.self (sz := s.heap.size)
  generalize hAe : va_A (wd_S a cI cL cB cZ z S) s.heap.size = A at hD ⊢
  have hA : ∀ q : Nat, s.heap.size ≤ q → A q := fun q h => by rw [← hAe]; exact Or.inr h
  have hl := lv_entry ([.ref (a 0), .int (v1), .int (v2)]) (n := 5) (Nat.le_of_ble_eq_true rfl)
  rw [lg_entry_eq]
  generalize (lg_sl ([.ref (a 0), .int (v1), .int (v2)]) ++ List.replicate (5 - (lg_sl ([.ref (a 0), .int (v1), .int (v2)])).length) Slot.unset).toArray = ls at hl ⊢
  have hl : lv_has ls 5 [(0, .ref (a 0)), (1, .int (v1)), (2, .int (v2))] := hl
  refine zw_X6_isSame_0 (A := A) ⟨B.exec, B.bytes, hml, hown, hts, hK, hA⟩ (fun H locs ls pc dg hz hP hD hS => ?_) v1 v2 s.heap [] ls h hl hP hD va_S.rf
  exact W.zret B.exec B.bytes hr hz (fun t ht hW => ⟨⟨_, _, rfl, ⟨rfl, rfl⟩, by rw [ht]; exact hP, va_K.moved hW.alike hK, hD⟩, hS.F ht⟩) hS.2.2 dg
theorem zt_X6_isSame_c : zc_X6_isSame ∈ mq_T := mq_T_mem (mq_t4 (List.mem_of_getElem? (i := 115) rfl)) rfl
theorem zt_X6_isSame_i : Cond.instanceMethod yX6_isSame ∈ mq_T := mq_T_mem (mq_t4 (List.mem_of_getElem? (i := 113) rfl)) rfl
theorem zt_X6_isSame_s : Cond.selects RX6 yX6_isSame yX6_isSame ∈ mq_T := mq_T_mem (mq_t4 (List.mem_of_getElem? (i := 114) rfl)) rfl
set_option maxHeartbeats 4000000 in
theorem zv_X6_isSame {p : Program} {l : Launch} {e : Env} {R : Room} {s : State} {m : MethodId} {args : Array Value} {below : List Frame} {meth : Method} {c : Code} {A : Nat → Prop} {D : va_G} {a z : Nat → Nat} {cI cL cB cZ : ClassId} {Q : State → Prop} {cc : ByteArray} {nL idx pc N : Nat} {own : String} {c1 : Cond} {H : Heap} {locs : List Loc} {ls : Array Slot} {rest : List Value} {S : mq_St} {res : Int32} {v1 : Int32} {v2 : Int32} {ws : va_W} (is : List Nat) (C : mq_C p s m args c A D cI cL cB cZ cc nL own c1) (hlk : Cond.methodLink own idx yX6_isSame ∈ mq_T) (hR : zr_X6_isSame.frames + 1 ≤ R.frames ∧ 8 + (5 + 11) + zr_X6_isSame.locals ≤ R.locals) (h : zf_X6_isSame N z v1 v2 S = some res) (hC : is.map (fun i => ws[i]?) = (wd_S a cI cL cB cZ z S).map some) (hnd : va_nd is = true) (hP : va_P D vwCl ws H) (hD : va_D A ws) (hS : va_S A s.heap H locs) (hls : ls.size = nL) (hrest : (rest.map fun v => v.category).sum ≤ 8) (hdg : decode cc pc = .ok (.invokevirtual idx, 3)) (kk : ∀ (H1 : Heap) (locs1 : List Loc), va_P D vwCl ws H1 → va_D A ws → va_S A s.heap H1 locs1 → W p l e R s m args below meth c H1 locs1 0 0 Q (F0 m (pc + 3) ls (.int res :: rest))) : W p l e R s m args below meth c H locs 0 0 Q (F0 m pc ls (.int (v2) :: .int (v1) :: .ref (a 0) :: rest)) := by
  obtain ⟨hx, hb, hml, hown, hts, hK, hA⟩ := C
  have hPc := mq_subP hP is hC
  have hDc := hD.sub is hnd hC
  have hFc := va_free hD hS hA is hC
  refine va_calli (va_runV (As := [.int (v1), .int (v2)]) (rest := rest) ⟨hx, hb, hml, hown, hts⟩ (zm_X6_isSame l D a z cI cL cB cZ H.size N v1 v2 S res h) (cwV 2 hts (mq_goodL (mq_wsV hlk zt_X6_isSame_i zt_X6_isSame_s zt_ini_X6 zt_X6_isSame_c)) rfl rfl rfl (by decide +kernel) hR) ⟨fun a U g mk q => ⟨q.1, q.2.1, q.2.2.1, va_K.moved (u := U) (U := U.calling g mk a) (Vm.Alike.refl U.vm) q.2.2.2.1, q.2.2.2.2⟩, va_recv hK hPc (ci := 6) (q0 := 0) rfl rfl, fun U hU hW => ⟨rfl, by rw [hU], by rw [hU]; exact hPc, va_K.moved hW.alike hK, hDc.weaken (fun _ _ _ _ => trivial)⟩⟩ rfl rfl hls rfl (lv_room hrest) hdg ⟨Nat.zero_le _, Nat.zero_le _⟩) hS (fun q _ h => hFc q h) hFc (fun r u t H1 locs ht hvm hw1 hB hz1 hk1 hS => ?_)
  obtain ⟨rfl, rfl⟩ := hw1
  obtain ⟨hP1, hK1, hD1⟩ := hB
  rw [ht] at hP1
  obtain ⟨hP2, hD2⟩ := mq_join hP hD is hC rfl hk1 hP1
  rw [mq_setM_same is _ ws hC] at hP2 hD2
  exact kk H1 locs hP2 hD2 hS
theorem zt_m_X6_27 : Cond.methodLink RX6 27 yX6_bits ∈ mq_T := mq_T_mem (mq_t4 (List.mem_of_getElem? (i := 150) rfl)) rfl
theorem zt_m_X6_31 : Cond.methodLink RX6 31 yJ13_bitCount_95d88 ∈ mq_T := mq_T_mem (mq_t4 (List.mem_of_getElem? (i := 151) rfl)) rfl
/-! ModalDesk$Sets.sizeOf(I)I -/
def zr_X6_sizeOf : Room := { frames := 2, cells := 0, slots := 0, locals := 44 }
def zc_X6_sizeOf : Cond := .code yX6_sizeOf cX6_sizeOf 4 (some .int)
def zf_X6_sizeOf_4b (N : Nat) (z : Nat → Nat) (S : mq_St) (k4 : Int32 → Int32 → Int32 → Option (Int32)) (v1 : Int32) (v2 : Int32) (v3 : Int32) : Option (Int32) := (if (5 : Int32) ≤ v3 then (some (v2)) else (mq_cp (zf_X6_bits N z (v1) (v3) S) (fun q3 => (mq_cp (zf_J13_bitCount_95d88 N z (q3) (mq_pull S [] [] [])) (fun q5 => (mq_nI ((v2 + q5)) (fun x7 => (mq_nI (v3 + (1 : Int32)) (fun x8 => (k4 (v1) (x7) (x8)))))))))))
def zf_X6_sizeOf_4 (N : Nat) (z : Nat → Nat) (S : mq_St) : Nat → Int32 → Int32 → Int32 → Option (Int32)
  | 0, _, _, _ => none
  | n + 1, v1, v2, v3 => zf_X6_sizeOf_4b N z S (fun v1 v2 v3 => zf_X6_sizeOf_4 N z S n v1 v2 v3) v1 v2 v3
def zf_X6_sizeOf (N : Nat) (z : Nat → Nat) (v1 : Int32) (S : mq_St) : Option (Int32) := (mq_nI ((0 : Int32)) (fun x1 => (mq_nI ((0 : Int32)) (fun x2 => (zf_X6_sizeOf_4 N z S N (v1) (x1) (x2))))))
set_option maxHeartbeats 4000000 in
set_option maxRecDepth 100000 in
theorem zw_X6_sizeOf_4b {p : Program} {l : Launch} {e : Env} {s : State} {m : MethodId} {args : Array Value} {below : List Frame} {meth : Method} {c : Code} {A : Nat → Prop} {D : va_G} {a z : Nat → Nat} {cI cL cB cZ : ClassId} {Q : State → Prop} {N : Nat} {S : mq_St} {res : Int32} {k4 : Int32 → Int32 → Int32 → Option (Int32)} (C : mq_C p s m args c A D cI cL cB cZ cX6_sizeOf 4 RX6 zc_X6_sizeOf) (hret : ∀ (H : Heap) (locs : List Loc) (ls : Array Slot) (pc : Nat), decode cX6_sizeOf pc = .ok (.ireturn, 1) → va_P D vwCl (wd_S a cI cL cB cZ z S) H → va_D A (wd_S a cI cL cB cZ z S) → va_S A s.heap H locs → W p l e zr_X6_sizeOf s m args below meth c H locs 0 0 Q (F0 m pc ls [.int res])) (hk4 : ∀ (v1 : Int32) (v2 : Int32) (v3 : Int32) (H : Heap) (locs : List Loc) (ls : Array Slot), k4 v1 v2 v3 = some res → lv_has ls 4 [(0, .ref (a 0)), (1, .int (v1)), (2, .int (v2)), (3, .int (v3))] → va_P D vwCl (wd_S a cI cL cB cZ z S) H → va_D A (wd_S a cI cL cB cZ z S) → va_S A s.heap H locs → W p l e zr_X6_sizeOf s m args below meth c H locs 0 0 Q (F0 m 4 ls [])) (v1 : Int32) (v2 : Int32) (v3 : Int32) (H : Heap) (locs : List Loc) (ls : Array Slot) (h : zf_X6_sizeOf_4b N z S k4 v1 v2 v3 = some res) (hl : lv_has ls 4 [(0, .ref (a 0)), (1, .int (v1)), (2, .int (v2)), (3, .int (v3))]) (hP : va_P D vwCl (wd_S a cI cL cB cZ z S) H) (hD : va_D A (wd_S a cI cL cB cZ z S)) (hS : va_S A s.heap H locs) : W p l e zr_X6_sizeOf s m args below meth c H locs 0 0 Q (F0 m 4 ls []) := by
  obtain ⟨hx, hb, hml, hown, hts, hK, hA⟩ := id C
  unfold zf_X6_sizeOf_4b at h
  refine lv_iload_n hx hb dX6_sizeOf_4 rfl (lv_at hl 3 rfl) ?_
  refine lv_iconst (v := (5 : Int32)) hx hb dX6_sizeOf_5 (by decide) ?_
  refine lv_icmp_ge (tgt := 27) hx hb dX6_sizeOf_6 (by decide) (fun c9 => ?_) (fun c9 => ?_)
  · replace h := mq_it c9 h
    refine lv_iload_n hx hb dX6_sizeOf_27 rfl (lv_at hl 2 rfl) ?_
    cases h
    exact hret H locs ls 28 dX6_sizeOf_28 hP hD hS
  · replace h := mq_if c9 h
    refine lv_iload_n hx hb dX6_sizeOf_9 rfl (lv_at hl 2 rfl) ?_
    refine lv_aload_n hx hb dX6_sizeOf_10 rfl (lv_at hl 0 rfl) ?_
    refine lv_iload_n hx hb dX6_sizeOf_11 rfl (lv_at hl 1 rfl) ?_
    refine lv_iload_n hx hb dX6_sizeOf_12 rfl (lv_at hl 3 rfl) ?_
    obtain ⟨q3, hc4, h⟩ := mq_cp_go h
    refine zk_X6_bits C zt_m_X6_27 ⟨by decide, by decide⟩ hc4 hP hD hS hl.1 (Nat.le_of_ble_eq_true rfl) dX6_sizeOf_13 (fun H locs hP hD hS => ?_)
    obtain ⟨q5, hc6, h⟩ := mq_cp_go h
    refine zv_J13_bitCount_95d88 (a := mq_ad a []) (z := z) [] C zt_m_X6_31 ⟨by decide, by decide⟩ hc6 rfl (by decide) hP hD hS hl.1 (Nat.le_of_ble_eq_true rfl) dX6_sizeOf_16 (fun H locs hP hD hS => ?_)
    refine lv_iadd hx hb dX6_sizeOf_19 ?_
    refine lv_topi (fun x7 ex7 => ?_)
    replace h := mq_nI_go ex7 h
    refine lv_istore_n (lv' := [(2, .int (x7)), (0, .ref (a 0)), (1, .int (v1)), (3, .int (v3))]) hx hb dX6_sizeOf_20 rfl hl (by decide) rfl (fun ls hl => ?_)
    obtain ⟨x8, ex8⟩ : ∃ y : Int32, y = v3 + (1 : Int32) := ⟨_, rfl⟩
    replace h := mq_nI_go ex8 h
    refine lv_iinc (v := x8) (lv' := [(3, .int (x8)), (2, .int (x7)), (0, .ref (a 0)), (1, .int (v1))]) hx hb dX6_sizeOf_21 hl (k := 3) rfl (by rw [ex8]; rfl) (by decide) rfl (fun ls hl => ?_)
    refine lv_goto (tgt := 4) hx hb dX6_sizeOf_24 (by decide) ?_
    exact hk4 (v1) (x7) (x8) H locs ls h (lv_sub hl [2, 3, 1, 0] rfl) hP hD hS
set_option maxHeartbeats 4000000 in
set_option maxRecDepth 100000 in
theorem zw_X6_sizeOf_4 {p : Program} {l : Launch} {e : Env} {s : State} {m : MethodId} {args : Array Value} {below : List Frame} {meth : Method} {c : Code} {A : Nat → Prop} {D : va_G} {a z : Nat → Nat} {cI cL cB cZ : ClassId} {Q : State → Prop} {N : Nat} {S : mq_St} {res : Int32} (C : mq_C p s m args c A D cI cL cB cZ cX6_sizeOf 4 RX6 zc_X6_sizeOf) (hret : ∀ (H : Heap) (locs : List Loc) (ls : Array Slot) (pc : Nat), decode cX6_sizeOf pc = .ok (.ireturn, 1) → va_P D vwCl (wd_S a cI cL cB cZ z S) H → va_D A (wd_S a cI cL cB cZ z S) → va_S A s.heap H locs → W p l e zr_X6_sizeOf s m args below meth c H locs 0 0 Q (F0 m pc ls [.int res])) : ∀ (n : Nat) (v1 : Int32) (v2 : Int32) (v3 : Int32) (H : Heap) (locs : List Loc) (ls : Array Slot) (h : zf_X6_sizeOf_4 N z S n v1 v2 v3 = some res) (hl : lv_has ls 4 [(0, .ref (a 0)), (1, .int (v1)), (2, .int (v2)), (3, .int (v3))]) (hP : va_P D vwCl (wd_S a cI cL cB cZ z S) H) (hD : va_D A (wd_S a cI cL cB cZ z S)) (hS : va_S A s.heap H locs), W p l e zr_X6_sizeOf s m args below meth c H locs 0 0 Q (F0 m 4 ls []) := by
  intro n
  induction n with
  | zero =>
    intro v1 v2 v3 H locs ls h hl hP hD hS
    exact nomatch (show (none : Option (Int32)) = some res from h)
  | succ n ih =>
    intro v1 v2 v3 H locs ls h hl hP hD hS
    exact zw_X6_sizeOf_4b C hret (fun v1 v2 v3 H locs ls h hl hP hD hS => ih v1 v2 v3 H locs ls h hl hP hD hS) v1 v2 v3 H locs ls h hl hP hD hS
set_option maxHeartbeats 4000000 in
set_option maxRecDepth 100000 in
theorem zw_X6_sizeOf_0 {p : Program} {l : Launch} {e : Env} {s : State} {m : MethodId} {args : Array Value} {below : List Frame} {meth : Method} {c : Code} {A : Nat → Prop} {D : va_G} {a z : Nat → Nat} {cI cL cB cZ : ClassId} {Q : State → Prop} {N : Nat} {S : mq_St} {res : Int32} (C : mq_C p s m args c A D cI cL cB cZ cX6_sizeOf 4 RX6 zc_X6_sizeOf) (hret : ∀ (H : Heap) (locs : List Loc) (ls : Array Slot) (pc : Nat), decode cX6_sizeOf pc = .ok (.ireturn, 1) → va_P D vwCl (wd_S a cI cL cB cZ z S) H → va_D A (wd_S a cI cL cB cZ z S) → va_S A s.heap H locs → W p l e zr_X6_sizeOf s m args below meth c H locs 0 0 Q (F0 m pc ls [.int res])) (v1 : Int32) (H : Heap) (locs : List Loc) (ls : Array Slot) (h : zf_X6_sizeOf N z v1 S = some res) (hl : lv_has ls 4 [(0, .ref (a 0)), (1, .int (v1))]) (hP : va_P D vwCl (wd_S a cI cL cB cZ z S) H) (hD : va_D A (wd_S a cI cL cB cZ z S)) (hS : va_S A s.heap H locs) : W p l e zr_X6_sizeOf s m args below meth c H locs 0 0 Q (F0 m 0 ls []) := by
  obtain ⟨hx, hb, hml, hown, hts, hK, hA⟩ := id C
  unfold zf_X6_sizeOf at h
  refine lv_iconst (v := (0 : Int32)) hx hb dX6_sizeOf_0 (by decide) ?_
  refine lv_topi (fun x1 ex1 => ?_)
  replace h := mq_nI_go ex1 h
  refine lv_istore_n (lv' := [(2, .int (x1)), (0, .ref (a 0)), (1, .int (v1))]) hx hb dX6_sizeOf_1 rfl hl (by decide) rfl (fun ls hl => ?_)
  refine lv_iconst (v := (0 : Int32)) hx hb dX6_sizeOf_2 (by decide) ?_
  refine lv_topi (fun x2 ex2 => ?_)
  replace h := mq_nI_go ex2 h
  refine lv_istore_n (lv' := [(3, .int (x2)), (2, .int (x1)), (0, .ref (a 0)), (1, .int (v1))]) hx hb dX6_sizeOf_3 rfl hl (by decide) rfl (fun ls hl => ?_)
  exact zw_X6_sizeOf_4 C hret N (v1) (x1) (x2) H locs ls h (lv_sub hl [2, 3, 1, 0] rfl) hP hD hS
set_option maxHeartbeats 4000000 in
set_option maxRecDepth 100000 in
theorem zm_X6_sizeOf (l : Launch) (D : va_G) (a z : Nat → Nat) (cI cL cB cZ : ClassId) (sz N : Nat) (v1 : Int32) (S : mq_St) (res : Int32) (h : zf_X6_sizeOf N z v1 S = some res) : Met l yX6_sizeOf (zc_X6_sizeOf :: mq_T) zr_X6_sizeOf (va_Pc [.ref (a 0), .int (v1)] (fun U => U.heap.size = sz ∧ va_P D vwCl (wd_S a cI cL cB cZ z S) U.heap ∧ va_K D vwCl (mq_tys cI cL cB cZ) U ∧ va_D (fun _ => True) (wd_S a cI cL cB cZ z S))) (va_Qi (fun (r : Int32) (u : mq_St) => r = res ∧ u = S) (fun u t => va_P D vwCl (wd_S a cI cL cB cZ z u) t.heap ∧ va_K D vwCl (mq_tys cI cL cB cZ) t ∧ va_D (va_A (wd_S a cI cL cB cZ z S) sz) (wd_S a cI cL cB cZ z u)) (va_A (wd_S a cI cL cB cZ z S) sz)) 0 0 (va_A (wd_S a cI cL cB cZ z S) sz) := by
  refine Met.ofW (cc := cX6_sizeOf) (maxL := 4) (ret := (some .int)) (by decide) rfl ?_
  intro p e s m args below meth c s₁ B hml hv
  obtain ⟨rfl, hsz, hP, hK, hD0⟩ := hv
  have hr := B.returns
  have hlocks := B.notSynchronized
  have hts := atoms_spec (ws := zc_X6_sizeOf :: mq_T) B.pre
  have hown : s.vm.findClass RX6 = some m.cls := findClass_of_methodNamed B.named
  subst hsz
  have hD := hD0.self (sz := s.heap.size)
  generalize hAe : va_A (wd_S a cI cL cB cZ z S) s.heap.size = A at hD ⊢
  have hA : ∀ q : Nat, s.heap.size ≤ q → A q := fun q h => by rw [← hAe]; exact Or.inr h
  have hl := lv_entry ([.ref (a 0), .int (v1)]) (n := 4) (Nat.le_of_ble_eq_true rfl)
  rw [lg_entry_eq]
  generalize (lg_sl ([.ref (a 0), .int (v1)]) ++ List.replicate (4 - (lg_sl ([.ref (a 0), .int (v1)])).length) Slot.unset).toArray = ls at hl ⊢
  have hl : lv_has ls 4 [(0, .ref (a 0)), (1, .int (v1))] := hl
  refine zw_X6_sizeOf_0 (A := A) ⟨B.exec, B.bytes, hml, hown, hts, hK, hA⟩ (fun H locs ls pc dg hP hD hS => ?_) v1 s.heap [] ls h hl hP hD va_S.rf
  exact W.iret B.exec B.bytes hr (fun t ht hW => ⟨⟨_, _, rfl, ⟨rfl, rfl⟩, by rw [ht]; exact hP, va_K.moved hW.alike hK, hD⟩, hS.F ht⟩) hS.2.2 dg
theorem zt_X6_sizeOf_c : zc_X6_sizeOf ∈ mq_T := mq_T_mem (mq_t4 (List.mem_of_getElem? (i := 149) rfl)) rfl
theorem zt_X6_sizeOf_i : Cond.instanceMethod yX6_sizeOf ∈ mq_T := mq_T_mem (mq_t4 (List.mem_of_getElem? (i := 147) rfl)) rfl
theorem zt_X6_sizeOf_s : Cond.selects RX6 yX6_sizeOf yX6_sizeOf ∈ mq_T := mq_T_mem (mq_t4 (List.mem_of_getElem? (i := 148) rfl)) rfl
set_option maxHeartbeats 4000000 in
theorem zv_X6_sizeOf {p : Program} {l : Launch} {e : Env} {R : Room} {s : State} {m : MethodId} {args : Array Value} {below : List Frame} {meth : Method} {c : Code} {A : Nat → Prop} {D : va_G} {a z : Nat → Nat} {cI cL cB cZ : ClassId} {Q : State → Prop} {cc : ByteArray} {nL idx pc N : Nat} {own : String} {c1 : Cond} {H : Heap} {locs : List Loc} {ls : Array Slot} {rest : List Value} {S : mq_St} {res : Int32} {v1 : Int32} {ws : va_W} (is : List Nat) (C : mq_C p s m args c A D cI cL cB cZ cc nL own c1) (hlk : Cond.methodLink own idx yX6_sizeOf ∈ mq_T) (hR : zr_X6_sizeOf.frames + 1 ≤ R.frames ∧ 8 + (4 + 11) + zr_X6_sizeOf.locals ≤ R.locals) (h : zf_X6_sizeOf N z v1 S = some res) (hC : is.map (fun i => ws[i]?) = (wd_S a cI cL cB cZ z S).map some) (hnd : va_nd is = true) (hP : va_P D vwCl ws H) (hD : va_D A ws) (hS : va_S A s.heap H locs) (hls : ls.size = nL) (hrest : (rest.map fun v => v.category).sum ≤ 8) (hdg : decode cc pc = .ok (.invokevirtual idx, 3)) (kk : ∀ (H1 : Heap) (locs1 : List Loc), va_P D vwCl ws H1 → va_D A ws → va_S A s.heap H1 locs1 → W p l e R s m args below meth c H1 locs1 0 0 Q (F0 m (pc + 3) ls (.int res :: rest))) : W p l e R s m args below meth c H locs 0 0 Q (F0 m pc ls (.int (v1) :: .ref (a 0) :: rest)) := by
  obtain ⟨hx, hb, hml, hown, hts, hK, hA⟩ := C
  have hPc := mq_subP hP is hC
  have hDc := hD.sub is hnd hC
  have hFc := va_free hD hS hA is hC
  refine va_calli (va_runV (As := [.int (v1)]) (rest := rest) ⟨hx, hb, hml, hown, hts⟩ (zm_X6_sizeOf l D a z cI cL cB cZ H.size N v1 S res h) (cwV 1 hts (mq_goodL (mq_wsV hlk zt_X6_sizeOf_i zt_X6_sizeOf_s zt_ini_X6 zt_X6_sizeOf_c)) rfl rfl rfl (by decide +kernel) hR) ⟨fun a U g mk q => ⟨q.1, q.2.1, q.2.2.1, va_K.moved (u := U) (U := U.calling g mk a) (Vm.Alike.refl U.vm) q.2.2.2.1, q.2.2.2.2⟩, va_recv hK hPc (ci := 6) (q0 := 0) rfl rfl, fun U hU hW => ⟨rfl, by rw [hU], by rw [hU]; exact hPc, va_K.moved hW.alike hK, hDc.weaken (fun _ _ _ _ => trivial)⟩⟩ rfl rfl hls rfl (lv_room hrest) hdg ⟨Nat.zero_le _, Nat.zero_le _⟩) hS (fun q _ h => hFc q h) hFc (fun r u t H1 locs ht hvm hw1 hB hz1 hk1 hS => ?_)
  obtain ⟨rfl, rfl⟩ := hw1
  obtain ⟨hP1, hK1, hD1⟩ := hB
  rw [ht] at hP1
  obtain ⟨hP2, hD2⟩ := mq_join hP hD is hC rfl hk1 hP1
  rw [mq_setM_same is _ ws hC] at hP2 hD2
  exact kk H1 locs hP2 hD2 hS
def wd_SS (a : Nat → Nat) (cI cL cB cZ : ClassId) (z : Nat → Nat) (S : mq_St) : va_W := [(a 0, .inr (6, [.ref (a 1)])), (a 1, .inl (cL, (z 0), .inr (.inl (S.2.2 0)))), (a 2, .inr (6, [.ref (a 3)])), (a 3, .inl (cL, (z 1), .inr (.inl (S.2.2 1))))]
/-! ModalDesk$Sets.copy(ILModalDesk$Sets;I)V -/
def zr_X6_copy : Room := { frames := 1, cells := 0, slots := 0, locals := 22 }
def zc_X6_copy : Cond := .code yX6_copy cX6_copy 6 none
def zf_X6_copy_28b (N : Nat) (z : Nat → Nat) (k28 : Int32 → Int32 → Int32 → Int32 → mq_St → Option (Unit × mq_St)) (v1 : Int32) (v3 : Int32) (v4 : Int32) (v5 : Int32) (S : mq_St) : Option (Unit × mq_St) := (if (5 : Int32) ≤ v5 then (some ((), S)) else (if v4 = (0 : Int32) then (some ((), S)) else (mq_ck (((v3 * (5 : Int32)) + v5)) (z 1) (mq_ck (((v1 * (5 : Int32)) + v5)) (z 0) (mq_nS (mq_sl S 0 (vp_updL (S.2.2 0) (((v1 * (5 : Int32)) + v5)).toNatClampNeg ((S.2.2 1 (((v3 * (5 : Int32)) + v5)).toNatClampNeg)))) (fun S11 => (mq_nI (v5 + (1 : Int32)) (fun x12 => (k28 (v1) (v3) (v4) (x12) S11)))))))))
def zf_X6_copy_28 (N : Nat) (z : Nat → Nat) : Nat → Int32 → Int32 → Int32 → Int32 → mq_St → Option (Unit × mq_St)
  | 0, _, _, _, _, _ => none
  | n + 1, v1, v3, v4, v5, S => zf_X6_copy_28b N z (fun v1 v3 v4 v5 S => zf_X6_copy_28 N z n v1 v3 v4 v5 S) v1 v3 v4 v5 S
def zf_X6_copy_23 (N : Nat) (z : Nat → Nat) (v1 : Int32) (v3 : Int32) (t0 : Int32) (S : mq_St) : Option (Unit × mq_St) := (mq_nI (t0) (fun x7 => (mq_nI ((0 : Int32)) (fun x8 => (zf_X6_copy_28 N z N (v1) (v3) (x7) (x8) S)))))
def zf_X6_copy_22 (N : Nat) (z : Nat → Nat) (v1 : Int32) (v3 : Int32) (S : mq_St) : Option (Unit × mq_St) := (zf_X6_copy_23 N z (v1) (v3) ((0 : Int32)) S)
def zf_X6_copy (N : Nat) (z : Nat → Nat) (v1 : Int32) (v3 : Int32) (S : mq_St) : Option (Unit × mq_St) := (mq_cp (zf_X6_isPlace N (fun k => [(z 0)].getD k 0) (v1) ((0 : Int32)) (mq_pull S [] [] [0])) (fun q1 => (if q1 = (0 : Int32) then (zf_X6_copy_22 N z (v1) (v3) S) else (mq_cp (zf_X6_isPlace N (fun k => [(z 1)].getD k 0) (v3) ((0 : Int32)) (mq_pull S [] [] [1])) (fun q3 => (if q3 = (0 : Int32) then (zf_X6_copy_22 N z (v1) (v3) S) else (zf_X6_copy_23 N z (v1) (v3) ((1 : Int32)) S)))))))
set_option maxHeartbeats 4000000 in
set_option maxRecDepth 100000 in
theorem zw_X6_copy_28b {p : Program} {l : Launch} {e : Env} {s : State} {m : MethodId} {args : Array Value} {below : List Frame} {meth : Method} {c : Code} {A : Nat → Prop} {D : va_G} {a z : Nat → Nat} {cI cL cB cZ : ClassId} {Q : State → Prop} {N : Nat} {res : Unit × mq_St} {k28 : Int32 → Int32 → Int32 → Int32 → mq_St → Option (Unit × mq_St)} (C : mq_C p s m args c A D cI cL cB cZ cX6_copy 6 RX6 zc_X6_copy) (hret : ∀ (H : Heap) (locs : List Loc) (ls : Array Slot) (pc : Nat), decode cX6_copy pc = .ok (.return_, 1) → va_P D vwCl (wd_SS a cI cL cB cZ z res.2) H → va_D A (wd_SS a cI cL cB cZ z res.2) → va_S A s.heap H locs → W p l e zr_X6_copy s m args below meth c H locs 0 0 Q (F0 m pc ls [])) (hk28 : ∀ (v1 : Int32) (v3 : Int32) (v4 : Int32) (v5 : Int32) (S : mq_St) (H : Heap) (locs : List Loc) (ls : Array Slot), k28 v1 v3 v4 v5 S = some res → lv_has ls 6 [(0, .ref (a 0)), (1, .int (v1)), (2, .ref (a 2)), (3, .int (v3)), (4, .int (v4)), (5, .int (v5))] → va_P D vwCl (wd_SS a cI cL cB cZ z S) H → va_D A (wd_SS a cI cL cB cZ z S) → va_S A s.heap H locs → W p l e zr_X6_copy s m args below meth c H locs 0 0 Q (F0 m 28 ls [])) (v1 : Int32) (v3 : Int32) (v4 : Int32) (v5 : Int32) (S : mq_St) (H : Heap) (locs : List Loc) (ls : Array Slot) (h : zf_X6_copy_28b N z k28 v1 v3 v4 v5 S = some res) (hl : lv_has ls 6 [(0, .ref (a 0)), (1, .int (v1)), (2, .ref (a 2)), (3, .int (v3)), (4, .int (v4)), (5, .int (v5))]) (hP : va_P D vwCl (wd_SS a cI cL cB cZ z S) H) (hD : va_D A (wd_SS a cI cL cB cZ z S)) (hS : va_S A s.heap H locs) : W p l e zr_X6_copy s m args below meth c H locs 0 0 Q (F0 m 28 ls []) := by
  obtain ⟨hx, hb, hml, hown, hts, hK, hA⟩ := id C
  unfold zf_X6_copy_28b at h
  refine lv_iload hx hb dX6_copy_28 (lv_at hl 5 rfl) ?_
  refine lv_iconst (v := (5 : Int32)) hx hb dX6_copy_30 (by decide) ?_
  refine lv_icmp_ge (tgt := 67) hx hb dX6_copy_31 (by decide) (fun c14 => ?_) (fun c14 => ?_)
  · replace h := mq_it c14 h
    cases h
    exact hret H locs ls 67 dX6_copy_67 hP hD hS
  · replace h := mq_if c14 h
    refine lv_iload hx hb dX6_copy_34 (lv_at hl 4 rfl) ?_
    refine lv_if_eq (tgt := 67) hx hb dX6_copy_36 (by decide) (fun c13 => ?_) (fun c13 => ?_)
    · replace h := mq_it c13 h
      cases h
      exact hret H locs ls 67 dX6_copy_67 hP hD hS
    · replace h := mq_if c13 h
      refine lv_aload_n hx hb dX6_copy_39 rfl (lv_at hl 0 rfl) ?_
      refine va_get (D := D) (ci := 6) (v := .ref (a 1)) (C := RX6) (T := TX6) (N := 1) hx hb hts (zi_X6 _) hown hK hP 0 rfl rfl 0 (by decide) (hts _ (List.mem_cons_of_mem _ zt_f_X6_17)) (fun _ h9 => h9) rfl dX6_copy_40 ?_
      refine lv_iload_n hx hb dX6_copy_43 rfl (lv_at hl 1 rfl) ?_
      refine lv_iconst (v := (5 : Int32)) hx hb dX6_copy_44 (by decide) ?_
      refine lv_imul hx hb dX6_copy_45 ?_
      refine lv_iload hx hb dX6_copy_46 (lv_at hl 5 rfl) ?_
      refine lv_iadd hx hb dX6_copy_48 ?_
      refine lv_aload_n hx hb dX6_copy_49 rfl (lv_at hl 2 rfl) ?_
      refine va_get (D := D) (ci := 6) (v := .ref (a 3)) (C := RX6) (T := TX6) (N := 1) hx hb hts (zi_X6 _) hown hK hP 2 rfl rfl 0 (by decide) (hts _ (List.mem_cons_of_mem _ zt_f_X6_17)) (fun _ h9 => h9) rfl dX6_copy_50 ?_
      refine lv_iload_n hx hb dX6_copy_53 rfl (lv_at hl 3 rfl) ?_
      refine lv_iconst (v := (5 : Int32)) hx hb dX6_copy_54 (by decide) ?_
      refine lv_imul hx hb dX6_copy_55 ?_
      refine lv_iload hx hb dX6_copy_56 (lv_at hl 5 rfl) ?_
      refine lv_iadd hx hb dX6_copy_58 ?_
      have hi9 := mq_ck_in h
      replace h := mq_ck_go h
      refine va_lald (f := S.2.2 1) hx hb hK hP 3 1 rfl rfl hi9 dX6_copy_59 ?_
      have hi10 := mq_ck_in h
      replace h := mq_ck_go h
      refine mq_last (w := wd_SS a cI cL cB cZ z) (S := S) (f := S.2.2 0) hx hb hK hP hD hS 1 1 rfl rfl hi10 dX6_copy_60 0 rfl (fun S11 eS11 H locs hP hD hS => ?_)
      replace h := mq_nS_go eS11 h
      obtain ⟨x12, ex12⟩ : ∃ y : Int32, y = v5 + (1 : Int32) := ⟨_, rfl⟩
      replace h := mq_nI_go ex12 h
      refine lv_iinc (v := x12) (lv' := [(5, .int (x12)), (0, .ref (a 0)), (1, .int (v1)), (2, .ref (a 2)), (3, .int (v3)), (4, .int (v4))]) hx hb dX6_copy_61 hl (k := 5) rfl (by rw [ex12]; rfl) (by decide) rfl (fun ls hl => ?_)
      refine lv_goto (tgt := 28) hx hb dX6_copy_64 (by decide) ?_
      exact hk28 (v1) (v3) (v4) (x12) S11 H locs ls h (lv_sub hl [1, 2, 3, 4, 5, 0] rfl) hP hD hS
set_option maxHeartbeats 4000000 in
set_option maxRecDepth 100000 in
theorem zw_X6_copy_28 {p : Program} {l : Launch} {e : Env} {s : State} {m : MethodId} {args : Array Value} {below : List Frame} {meth : Method} {c : Code} {A : Nat → Prop} {D : va_G} {a z : Nat → Nat} {cI cL cB cZ : ClassId} {Q : State → Prop} {N : Nat} {res : Unit × mq_St} (C : mq_C p s m args c A D cI cL cB cZ cX6_copy 6 RX6 zc_X6_copy) (hret : ∀ (H : Heap) (locs : List Loc) (ls : Array Slot) (pc : Nat), decode cX6_copy pc = .ok (.return_, 1) → va_P D vwCl (wd_SS a cI cL cB cZ z res.2) H → va_D A (wd_SS a cI cL cB cZ z res.2) → va_S A s.heap H locs → W p l e zr_X6_copy s m args below meth c H locs 0 0 Q (F0 m pc ls [])) : ∀ (n : Nat) (v1 : Int32) (v3 : Int32) (v4 : Int32) (v5 : Int32) (S : mq_St) (H : Heap) (locs : List Loc) (ls : Array Slot) (h : zf_X6_copy_28 N z n v1 v3 v4 v5 S = some res) (hl : lv_has ls 6 [(0, .ref (a 0)), (1, .int (v1)), (2, .ref (a 2)), (3, .int (v3)), (4, .int (v4)), (5, .int (v5))]) (hP : va_P D vwCl (wd_SS a cI cL cB cZ z S) H) (hD : va_D A (wd_SS a cI cL cB cZ z S)) (hS : va_S A s.heap H locs), W p l e zr_X6_copy s m args below meth c H locs 0 0 Q (F0 m 28 ls []) := by
  intro n
  induction n with
  | zero =>
    intro v1 v3 v4 v5 S H locs ls h hl hP hD hS
    exact nomatch (show (none : Option (Unit × mq_St)) = some res from h)
  | succ n ih =>
    intro v1 v3 v4 v5 S H locs ls h hl hP hD hS
    exact zw_X6_copy_28b C hret (fun v1 v3 v4 v5 S H locs ls h hl hP hD hS => ih v1 v3 v4 v5 S H locs ls h hl hP hD hS) v1 v3 v4 v5 S H locs ls h hl hP hD hS
set_option maxHeartbeats 4000000 in
set_option maxRecDepth 100000 in
theorem zw_X6_copy_23 {p : Program} {l : Launch} {e : Env} {s : State} {m : MethodId} {args : Array Value} {below : List Frame} {meth : Method} {c : Code} {A : Nat → Prop} {D : va_G} {a z : Nat → Nat} {cI cL cB cZ : ClassId} {Q : State → Prop} {N : Nat} {res : Unit × mq_St} (C : mq_C p s m args c A D cI cL cB cZ cX6_copy 6 RX6 zc_X6_copy) (hret : ∀ (H : Heap) (locs : List Loc) (ls : Array Slot) (pc : Nat), decode cX6_copy pc = .ok (.return_, 1) → va_P D vwCl (wd_SS a cI cL cB cZ z res.2) H → va_D A (wd_SS a cI cL cB cZ z res.2) → va_S A s.heap H locs → W p l e zr_X6_copy s m args below meth c H locs 0 0 Q (F0 m pc ls [])) (v1 : Int32) (v3 : Int32) (t0 : Int32) (S : mq_St) (H : Heap) (locs : List Loc) (ls : Array Slot) (h : zf_X6_copy_23 N z v1 v3 t0 S = some res) (hl : lv_has ls 6 [(0, .ref (a 0)), (1, .int (v1)), (2, .ref (a 2)), (3, .int (v3))]) (hP : va_P D vwCl (wd_SS a cI cL cB cZ z S) H) (hD : va_D A (wd_SS a cI cL cB cZ z S)) (hS : va_S A s.heap H locs) : W p l e zr_X6_copy s m args below meth c H locs 0 0 Q (F0 m 23 ls [.int (t0)]) := by
  obtain ⟨hx, hb, hml, hown, hts, hK, hA⟩ := id C
  unfold zf_X6_copy_23 at h
  refine lv_topi (fun x7 ex7 => ?_)
  replace h := mq_nI_go ex7 h
  refine lv_istore (lv' := [(4, .int (x7)), (0, .ref (a 0)), (1, .int (v1)), (2, .ref (a 2)), (3, .int (v3))]) hx hb dX6_copy_23 hl (by decide) rfl (fun ls hl => ?_)
  refine lv_iconst (v := (0 : Int32)) hx hb dX6_copy_25 (by decide) ?_
  refine lv_topi (fun x8 ex8 => ?_)
  replace h := mq_nI_go ex8 h
  refine lv_istore (lv' := [(5, .int (x8)), (4, .int (x7)), (0, .ref (a 0)), (1, .int (v1)), (2, .ref (a 2)), (3, .int (v3))]) hx hb dX6_copy_26 hl (by decide) rfl (fun ls hl => ?_)
  exact zw_X6_copy_28 C hret N (v1) (v3) (x7) (x8) S H locs ls h (lv_sub hl [2, 3, 4, 5, 1, 0] rfl) hP hD hS
set_option maxHeartbeats 4000000 in
set_option maxRecDepth 100000 in
theorem zw_X6_copy_22 {p : Program} {l : Launch} {e : Env} {s : State} {m : MethodId} {args : Array Value} {below : List Frame} {meth : Method} {c : Code} {A : Nat → Prop} {D : va_G} {a z : Nat → Nat} {cI cL cB cZ : ClassId} {Q : State → Prop} {N : Nat} {res : Unit × mq_St} (C : mq_C p s m args c A D cI cL cB cZ cX6_copy 6 RX6 zc_X6_copy) (hret : ∀ (H : Heap) (locs : List Loc) (ls : Array Slot) (pc : Nat), decode cX6_copy pc = .ok (.return_, 1) → va_P D vwCl (wd_SS a cI cL cB cZ z res.2) H → va_D A (wd_SS a cI cL cB cZ z res.2) → va_S A s.heap H locs → W p l e zr_X6_copy s m args below meth c H locs 0 0 Q (F0 m pc ls [])) (v1 : Int32) (v3 : Int32) (S : mq_St) (H : Heap) (locs : List Loc) (ls : Array Slot) (h : zf_X6_copy_22 N z v1 v3 S = some res) (hl : lv_has ls 6 [(0, .ref (a 0)), (1, .int (v1)), (2, .ref (a 2)), (3, .int (v3))]) (hP : va_P D vwCl (wd_SS a cI cL cB cZ z S) H) (hD : va_D A (wd_SS a cI cL cB cZ z S)) (hS : va_S A s.heap H locs) : W p l e zr_X6_copy s m args below meth c H locs 0 0 Q (F0 m 22 ls []) := by
  obtain ⟨hx, hb, hml, hown, hts, hK, hA⟩ := id C
  unfold zf_X6_copy_22 at h
  refine lv_iconst (v := (0 : Int32)) hx hb dX6_copy_22 (by decide) ?_
  exact zw_X6_copy_23 C hret (v1) (v3) ((0 : Int32)) S H locs ls h (lv_sub hl [0, 1, 2, 3] rfl) hP hD hS
set_option maxHeartbeats 4000000 in
set_option maxRecDepth 100000 in
theorem zw_X6_copy_0 {p : Program} {l : Launch} {e : Env} {s : State} {m : MethodId} {args : Array Value} {below : List Frame} {meth : Method} {c : Code} {A : Nat → Prop} {D : va_G} {a z : Nat → Nat} {cI cL cB cZ : ClassId} {Q : State → Prop} {N : Nat} {res : Unit × mq_St} (C : mq_C p s m args c A D cI cL cB cZ cX6_copy 6 RX6 zc_X6_copy) (hret : ∀ (H : Heap) (locs : List Loc) (ls : Array Slot) (pc : Nat), decode cX6_copy pc = .ok (.return_, 1) → va_P D vwCl (wd_SS a cI cL cB cZ z res.2) H → va_D A (wd_SS a cI cL cB cZ z res.2) → va_S A s.heap H locs → W p l e zr_X6_copy s m args below meth c H locs 0 0 Q (F0 m pc ls [])) (v1 : Int32) (v3 : Int32) (S : mq_St) (H : Heap) (locs : List Loc) (ls : Array Slot) (h : zf_X6_copy N z v1 v3 S = some res) (hl : lv_has ls 6 [(0, .ref (a 0)), (1, .int (v1)), (2, .ref (a 2)), (3, .int (v3))]) (hP : va_P D vwCl (wd_SS a cI cL cB cZ z S) H) (hD : va_D A (wd_SS a cI cL cB cZ z S)) (hS : va_S A s.heap H locs) : W p l e zr_X6_copy s m args below meth c H locs 0 0 Q (F0 m 0 ls []) := by
  obtain ⟨hx, hb, hml, hown, hts, hK, hA⟩ := id C
  unfold zf_X6_copy at h
  refine lv_aload_n hx hb dX6_copy_0 rfl (lv_at hl 0 rfl) ?_
  refine lv_iload_n hx hb dX6_copy_1 rfl (lv_at hl 1 rfl) ?_
  refine lv_iconst (v := (0 : Int32)) hx hb dX6_copy_2 (by decide) ?_
  obtain ⟨q1, hc2, h⟩ := mq_cp_go h
  refine zv_X6_isPlace (a := mq_ad a [0, 1]) (z := (fun k => [(z 0)].getD k 0)) [0, 1] C zt_m_X6_21 ⟨by decide, by decide⟩ hc2 rfl (by decide) hP hD hS hl.1 (Nat.le_of_ble_eq_true rfl) dX6_copy_3 (fun H locs hP hD hS => ?_)
  refine lv_if_eq (tgt := 22) hx hb dX6_copy_6 (by decide) (fun c6 => ?_) (fun c6 => ?_)
  · replace h := mq_it c6 h
    exact zw_X6_copy_22 C hret (v1) (v3) S H locs ls h (lv_sub hl [0, 1, 2, 3] rfl) hP hD hS
  · replace h := mq_if c6 h
    refine lv_aload_n hx hb dX6_copy_9 rfl (lv_at hl 2 rfl) ?_
    refine lv_iload_n hx hb dX6_copy_10 rfl (lv_at hl 3 rfl) ?_
    refine lv_iconst (v := (0 : Int32)) hx hb dX6_copy_11 (by decide) ?_
    obtain ⟨q3, hc4, h⟩ := mq_cp_go h
    refine zv_X6_isPlace (a := mq_ad a [2, 3]) (z := (fun k => [(z 1)].getD k 0)) [2, 3] C zt_m_X6_21 ⟨by decide, by decide⟩ hc4 rfl (by decide) hP hD hS hl.1 (Nat.le_of_ble_eq_true rfl) dX6_copy_12 (fun H locs hP hD hS => ?_)
    refine lv_if_eq (tgt := 22) hx hb dX6_copy_15 (by decide) (fun c5 => ?_) (fun c5 => ?_)
    · replace h := mq_it c5 h
      exact zw_X6_copy_22 C hret (v1) (v3) S H locs ls h (lv_sub hl [0, 1, 2, 3] rfl) hP hD hS
    · replace h := mq_if c5 h
      refine lv_iconst (v := (1 : Int32)) hx hb dX6_copy_18 (by decide) ?_
      refine lv_goto (tgt := 23) hx hb dX6_copy_19 (by decide) ?_
      exact zw_X6_copy_23 C hret (v1) (v3) ((1 : Int32)) S H locs ls h (lv_sub hl [0, 1, 2, 3] rfl) hP hD hS
set_option maxHeartbeats 4000000 in
set_option maxRecDepth 100000 in
theorem zm_X6_copy (l : Launch) (D : va_G) (a z : Nat → Nat) (cI cL cB cZ : ClassId) (sz N : Nat) (v1 : Int32) (v3 : Int32) (S : mq_St) (res : Unit × mq_St) (h : zf_X6_copy N z v1 v3 S = some res) : Met l yX6_copy (zc_X6_copy :: mq_T) zr_X6_copy (va_Pc [.ref (a 0), .int (v1), .ref (a 2), .int (v3)] (fun U => U.heap.size = sz ∧ va_P D vwCl (wd_SS a cI cL cB cZ z S) U.heap ∧ va_K D vwCl (mq_tys cI cL cB cZ) U ∧ va_D (fun _ => True) (wd_SS a cI cL cB cZ z S))) (va_Qv (fun u : mq_St => u = res.2) (fun u t => va_P D vwCl (wd_SS a cI cL cB cZ z u) t.heap ∧ va_K D vwCl (mq_tys cI cL cB cZ) t ∧ va_D (va_A (wd_SS a cI cL cB cZ z S) sz) (wd_SS a cI cL cB cZ z u)) (va_A (wd_SS a cI cL cB cZ z S) sz)) 0 0 (va_A (wd_SS a cI cL cB cZ z S) sz) := by
  refine Met.ofW (cc := cX6_copy) (maxL := 6) (ret := none) (by decide) rfl ?_
  intro p e s m args below meth c s₁ B hml hv
  obtain ⟨rfl, hsz, hP, hK, hD0⟩ := hv
  have hr := B.returns
  have hlocks := B.notSynchronized
  have hts := atoms_spec (ws := zc_X6_copy :: mq_T) B.pre
  have hown : s.vm.findClass RX6 = some m.cls := findClass_of_methodNamed B.named
  subst hsz
  have hD := hD0.self (sz := s.heap.size)
  generalize hAe : va_A (wd_SS a cI cL cB cZ z S) s.heap.size = A at hD ⊢
  have hA : ∀ q : Nat, s.heap.size ≤ q → A q := fun q h => by rw [← hAe]; exact Or.inr h
  have hl := lv_entry ([.ref (a 0), .int (v1), .ref (a 2), .int (v3)]) (n := 6) (Nat.le_of_ble_eq_true rfl)
  rw [lg_entry_eq]
  generalize (lg_sl ([.ref (a 0), .int (v1), .ref (a 2), .int (v3)]) ++ List.replicate (6 - (lg_sl ([.ref (a 0), .int (v1), .ref (a 2), .int (v3)])).length) Slot.unset).toArray = ls at hl ⊢
  have hl : lv_has ls 6 [(0, .ref (a 0)), (1, .int (v1)), (2, .ref (a 2)), (3, .int (v3))] := hl
  refine zw_X6_copy_0 (A := A) ⟨B.exec, B.bytes, hml, hown, hts, hK, hA⟩ (fun H locs ls pc dg hP hD hS => ?_) v1 v3 S s.heap [] ls h hl hP hD va_S.rf
  exact W.vret B.exec B.bytes hr (fun t ht hW => ⟨⟨_, rfl, rfl, by rw [ht]; exact hP, va_K.moved hW.alike hK, hD⟩, hS.F ht⟩) hS.2.2 dg
theorem zt_X6_copy_c : zc_X6_copy ∈ mq_T := mq_T_mem (mq_t4 (List.mem_of_getElem? (i := 21) rfl)) rfl
theorem zt_X6_copy_i : Cond.instanceMethod yX6_copy ∈ mq_T := mq_T_mem (mq_t4 (List.mem_of_getElem? (i := 19) rfl)) rfl
theorem zt_X6_copy_s : Cond.selects RX6 yX6_copy yX6_copy ∈ mq_T := mq_T_mem (mq_t4 (List.mem_of_getElem? (i := 20) rfl)) rfl
set_option maxHeartbeats 4000000 in
theorem zv_X6_copy {p : Program} {l : Launch} {e : Env} {R : Room} {s : State} {m : MethodId} {args : Array Value} {below : List Frame} {meth : Method} {c : Code} {A : Nat → Prop} {D : va_G} {a z : Nat → Nat} {cI cL cB cZ : ClassId} {Q : State → Prop} {cc : ByteArray} {nL idx pc N : Nat} {own : String} {c1 : Cond} {H : Heap} {locs : List Loc} {ls : Array Slot} {rest : List Value} {S : mq_St} {res : Unit × mq_St} {v1 : Int32} {v3 : Int32} {ws : va_W} (is : List Nat) (C : mq_C p s m args c A D cI cL cB cZ cc nL own c1) (hlk : Cond.methodLink own idx yX6_copy ∈ mq_T) (hR : zr_X6_copy.frames + 1 ≤ R.frames ∧ 8 + (6 + 11) + zr_X6_copy.locals ≤ R.locals) (h : zf_X6_copy N z v1 v3 S = some res) (hC : is.map (fun i => ws[i]?) = (wd_SS a cI cL cB cZ z S).map some) (hnd : va_nd is = true) {ws' : va_W} (hw : mq_setM ws is (wd_SS a cI cL cB cZ z res.2) = ws') (hP : va_P D vwCl ws H) (hD : va_D A ws) (hS : va_S A s.heap H locs) (hls : ls.size = nL) (hrest : (rest.map fun v => v.category).sum ≤ 8) (hdg : decode cc pc = .ok (.invokevirtual idx, 3)) (kk : ∀ (H1 : Heap) (locs1 : List Loc), va_P D vwCl ws' H1 → va_D A ws' → va_S A s.heap H1 locs1 → W p l e R s m args below meth c H1 locs1 0 0 Q (F0 m (pc + 3) ls rest)) : W p l e R s m args below meth c H locs 0 0 Q (F0 m pc ls (.int (v3) :: .ref (a 2) :: .int (v1) :: .ref (a 0) :: rest)) := by
  obtain ⟨hx, hb, hml, hown, hts, hK, hA⟩ := C
  have hPc := mq_subP hP is hC
  have hDc := hD.sub is hnd hC
  have hFc := va_free hD hS hA is hC
  refine va_callv (va_runV (As := [.int (v1), .ref (a 2), .int (v3)]) (rest := rest) ⟨hx, hb, hml, hown, hts⟩ (zm_X6_copy l D a z cI cL cB cZ H.size N v1 v3 S res h) (cwV 3 hts (mq_goodL (mq_wsV hlk zt_X6_copy_i zt_X6_copy_s zt_ini_X6 zt_X6_copy_c)) rfl rfl rfl (by decide +kernel) hR) ⟨fun a U g mk q => ⟨q.1, q.2.1, q.2.2.1, va_K.moved (u := U) (U := U.calling g mk a) (Vm.Alike.refl U.vm) q.2.2.2.1, q.2.2.2.2⟩, va_recv hK hPc (ci := 6) (q0 := 0) rfl rfl, fun U hU hW => ⟨rfl, by rw [hU], by rw [hU]; exact hPc, va_K.moved hW.alike hK, hDc.weaken (fun _ _ _ _ => trivial)⟩⟩ rfl rfl hls rfl (lv_room hrest) hdg ⟨Nat.zero_le _, Nat.zero_le _⟩) hS (fun q _ h => hFc q h) hFc (fun u t H1 locs ht hvm hw1 hB hz1 hk1 hS => ?_)
  subst hw1
  obtain ⟨hP1, hK1, hD1⟩ := hB
  rw [ht] at hP1
  obtain ⟨hP2, hD2⟩ := mq_join (w1 := (wd_SS a cI cL cB cZ z res.2)) hP hD is hC rfl hk1 hP1
  rw [hw] at hP2 hD2
  exact kk H1 locs hP2 hD2 hS
/-! ModalDesk$Sets.meet(ILModalDesk$Sets;I)V -/
def zr_X6_meet : Room := { frames := 1, cells := 0, slots := 0, locals := 22 }
def zc_X6_meet : Cond := .code yX6_meet cX6_meet 6 none
def zf_X6_meet_28b (N : Nat) (z : Nat → Nat) (k28 : Int32 → Int32 → Int32 → Int32 → mq_St → Option (Unit × mq_St)) (v1 : Int32) (v3 : Int32) (v4 : Int32) (v5 : Int32) (S : mq_St) : Option (Unit × mq_St) := (if (5 : Int32) ≤ v5 then (some ((), S)) else (if v4 = (0 : Int32) then (some ((), S)) else (mq_ck (((v1 * (5 : Int32)) + v5)) (z 0) (mq_ck (((v3 * (5 : Int32)) + v5)) (z 1) (mq_ck (((v1 * (5 : Int32)) + v5)) (z 0) (mq_nS (mq_sl S 0 (vp_updL (S.2.2 0) (((v1 * (5 : Int32)) + v5)).toNatClampNeg (((S.2.2 0 (((v1 * (5 : Int32)) + v5)).toNatClampNeg) &&& (S.2.2 1 (((v3 * (5 : Int32)) + v5)).toNatClampNeg))))) (fun S12 => (mq_nI (v5 + (1 : Int32)) (fun x13 => (k28 (v1) (v3) (v4) (x13) S12))))))))))
def zf_X6_meet_28 (N : Nat) (z : Nat → Nat) : Nat → Int32 → Int32 → Int32 → Int32 → mq_St → Option (Unit × mq_St)
  | 0, _, _, _, _, _ => none
  | n + 1, v1, v3, v4, v5, S => zf_X6_meet_28b N z (fun v1 v3 v4 v5 S => zf_X6_meet_28 N z n v1 v3 v4 v5 S) v1 v3 v4 v5 S
def zf_X6_meet_23 (N : Nat) (z : Nat → Nat) (v1 : Int32) (v3 : Int32) (t0 : Int32) (S : mq_St) : Option (Unit × mq_St) := (mq_nI (t0) (fun x7 => (mq_nI ((0 : Int32)) (fun x8 => (zf_X6_meet_28 N z N (v1) (v3) (x7) (x8) S)))))
def zf_X6_meet_22 (N : Nat) (z : Nat → Nat) (v1 : Int32) (v3 : Int32) (S : mq_St) : Option (Unit × mq_St) := (zf_X6_meet_23 N z (v1) (v3) ((0 : Int32)) S)
def zf_X6_meet (N : Nat) (z : Nat → Nat) (v1 : Int32) (v3 : Int32) (S : mq_St) : Option (Unit × mq_St) := (mq_cp (zf_X6_isPlace N (fun k => [(z 0)].getD k 0) (v1) ((0 : Int32)) (mq_pull S [] [] [0])) (fun q1 => (if q1 = (0 : Int32) then (zf_X6_meet_22 N z (v1) (v3) S) else (mq_cp (zf_X6_isPlace N (fun k => [(z 1)].getD k 0) (v3) ((0 : Int32)) (mq_pull S [] [] [1])) (fun q3 => (if q3 = (0 : Int32) then (zf_X6_meet_22 N z (v1) (v3) S) else (zf_X6_meet_23 N z (v1) (v3) ((1 : Int32)) S)))))))
set_option maxHeartbeats 4000000 in
set_option maxRecDepth 100000 in
theorem zw_X6_meet_28b {p : Program} {l : Launch} {e : Env} {s : State} {m : MethodId} {args : Array Value} {below : List Frame} {meth : Method} {c : Code} {A : Nat → Prop} {D : va_G} {a z : Nat → Nat} {cI cL cB cZ : ClassId} {Q : State → Prop} {N : Nat} {res : Unit × mq_St} {k28 : Int32 → Int32 → Int32 → Int32 → mq_St → Option (Unit × mq_St)} (C : mq_C p s m args c A D cI cL cB cZ cX6_meet 6 RX6 zc_X6_meet) (hret : ∀ (H : Heap) (locs : List Loc) (ls : Array Slot) (pc : Nat), decode cX6_meet pc = .ok (.return_, 1) → va_P D vwCl (wd_SS a cI cL cB cZ z res.2) H → va_D A (wd_SS a cI cL cB cZ z res.2) → va_S A s.heap H locs → W p l e zr_X6_meet s m args below meth c H locs 0 0 Q (F0 m pc ls [])) (hk28 : ∀ (v1 : Int32) (v3 : Int32) (v4 : Int32) (v5 : Int32) (S : mq_St) (H : Heap) (locs : List Loc) (ls : Array Slot), k28 v1 v3 v4 v5 S = some res → lv_has ls 6 [(0, .ref (a 0)), (1, .int (v1)), (2, .ref (a 2)), (3, .int (v3)), (4, .int (v4)), (5, .int (v5))] → va_P D vwCl (wd_SS a cI cL cB cZ z S) H → va_D A (wd_SS a cI cL cB cZ z S) → va_S A s.heap H locs → W p l e zr_X6_meet s m args below meth c H locs 0 0 Q (F0 m 28 ls [])) (v1 : Int32) (v3 : Int32) (v4 : Int32) (v5 : Int32) (S : mq_St) (H : Heap) (locs : List Loc) (ls : Array Slot) (h : zf_X6_meet_28b N z k28 v1 v3 v4 v5 S = some res) (hl : lv_has ls 6 [(0, .ref (a 0)), (1, .int (v1)), (2, .ref (a 2)), (3, .int (v3)), (4, .int (v4)), (5, .int (v5))]) (hP : va_P D vwCl (wd_SS a cI cL cB cZ z S) H) (hD : va_D A (wd_SS a cI cL cB cZ z S)) (hS : va_S A s.heap H locs) : W p l e zr_X6_meet s m args below meth c H locs 0 0 Q (F0 m 28 ls []) := by
  obtain ⟨hx, hb, hml, hown, hts, hK, hA⟩ := id C
  unfold zf_X6_meet_28b at h
  refine lv_iload hx hb dX6_meet_28 (lv_at hl 5 rfl) ?_
  refine lv_iconst (v := (5 : Int32)) hx hb dX6_meet_30 (by decide) ?_
  refine lv_icmp_ge (tgt := 70) hx hb dX6_meet_31 (by decide) (fun c15 => ?_) (fun c15 => ?_)
  · replace h := mq_it c15 h
    cases h
    exact hret H locs ls 70 dX6_meet_70 hP hD hS
  · replace h := mq_if c15 h
    refine lv_iload hx hb dX6_meet_34 (lv_at hl 4 rfl) ?_
    refine lv_if_eq (tgt := 70) hx hb dX6_meet_36 (by decide) (fun c14 => ?_) (fun c14 => ?_)
    · replace h := mq_it c14 h
      cases h
      exact hret H locs ls 70 dX6_meet_70 hP hD hS
    · replace h := mq_if c14 h
      refine lv_aload_n hx hb dX6_meet_39 rfl (lv_at hl 0 rfl) ?_
      refine va_get (D := D) (ci := 6) (v := .ref (a 1)) (C := RX6) (T := TX6) (N := 1) hx hb hts (zi_X6 _) hown hK hP 0 rfl rfl 0 (by decide) (hts _ (List.mem_cons_of_mem _ zt_f_X6_17)) (fun _ h9 => h9) rfl dX6_meet_40 ?_
      refine lv_iload_n hx hb dX6_meet_43 rfl (lv_at hl 1 rfl) ?_
      refine lv_iconst (v := (5 : Int32)) hx hb dX6_meet_44 (by decide) ?_
      refine lv_imul hx hb dX6_meet_45 ?_
      refine lv_iload hx hb dX6_meet_46 (lv_at hl 5 rfl) ?_
      refine lv_iadd hx hb dX6_meet_48 ?_
      refine lv_dup2_11 hx hb dX6_meet_49 rfl rfl ?_
      have hi9 := mq_ck_in h
      replace h := mq_ck_go h
      refine va_lald (f := S.2.2 0) hx hb hK hP 1 1 rfl rfl hi9 dX6_meet_50 ?_
      refine lv_aload_n hx hb dX6_meet_51 rfl (lv_at hl 2 rfl) ?_
      refine va_get (D := D) (ci := 6) (v := .ref (a 3)) (C := RX6) (T := TX6) (N := 1) hx hb hts (zi_X6 _) hown hK hP 2 rfl rfl 0 (by decide) (hts _ (List.mem_cons_of_mem _ zt_f_X6_17)) (fun _ h9 => h9) rfl dX6_meet_52 ?_
      refine lv_iload_n hx hb dX6_meet_55 rfl (lv_at hl 3 rfl) ?_
      refine lv_iconst (v := (5 : Int32)) hx hb dX6_meet_56 (by decide) ?_
      refine lv_imul hx hb dX6_meet_57 ?_
      refine lv_iload hx hb dX6_meet_58 (lv_at hl 5 rfl) ?_
      refine lv_iadd hx hb dX6_meet_60 ?_
      have hi10 := mq_ck_in h
      replace h := mq_ck_go h
      refine va_lald (f := S.2.2 1) hx hb hK hP 3 1 rfl rfl hi10 dX6_meet_61 ?_
      refine lv_land hx hb dX6_meet_62 ?_
      have hi11 := mq_ck_in h
      replace h := mq_ck_go h
      refine mq_last (w := wd_SS a cI cL cB cZ z) (S := S) (f := S.2.2 0) hx hb hK hP hD hS 1 1 rfl rfl hi11 dX6_meet_63 0 rfl (fun S12 eS12 H locs hP hD hS => ?_)
      replace h := mq_nS_go eS12 h
      obtain ⟨x13, ex13⟩ : ∃ y : Int32, y = v5 + (1 : Int32) := ⟨_, rfl⟩
      replace h := mq_nI_go ex13 h
      refine lv_iinc (v := x13) (lv' := [(5, .int (x13)), (0, .ref (a 0)), (1, .int (v1)), (2, .ref (a 2)), (3, .int (v3)), (4, .int (v4))]) hx hb dX6_meet_64 hl (k := 5) rfl (by rw [ex13]; rfl) (by decide) rfl (fun ls hl => ?_)
      refine lv_goto (tgt := 28) hx hb dX6_meet_67 (by decide) ?_
      exact hk28 (v1) (v3) (v4) (x13) S12 H locs ls h (lv_sub hl [1, 2, 3, 4, 5, 0] rfl) hP hD hS
set_option maxHeartbeats 4000000 in
set_option maxRecDepth 100000 in
theorem zw_X6_meet_28 {p : Program} {l : Launch} {e : Env} {s : State} {m : MethodId} {args : Array Value} {below : List Frame} {meth : Method} {c : Code} {A : Nat → Prop} {D : va_G} {a z : Nat → Nat} {cI cL cB cZ : ClassId} {Q : State → Prop} {N : Nat} {res : Unit × mq_St} (C : mq_C p s m args c A D cI cL cB cZ cX6_meet 6 RX6 zc_X6_meet) (hret : ∀ (H : Heap) (locs : List Loc) (ls : Array Slot) (pc : Nat), decode cX6_meet pc = .ok (.return_, 1) → va_P D vwCl (wd_SS a cI cL cB cZ z res.2) H → va_D A (wd_SS a cI cL cB cZ z res.2) → va_S A s.heap H locs → W p l e zr_X6_meet s m args below meth c H locs 0 0 Q (F0 m pc ls [])) : ∀ (n : Nat) (v1 : Int32) (v3 : Int32) (v4 : Int32) (v5 : Int32) (S : mq_St) (H : Heap) (locs : List Loc) (ls : Array Slot) (h : zf_X6_meet_28 N z n v1 v3 v4 v5 S = some res) (hl : lv_has ls 6 [(0, .ref (a 0)), (1, .int (v1)), (2, .ref (a 2)), (3, .int (v3)), (4, .int (v4)), (5, .int (v5))]) (hP : va_P D vwCl (wd_SS a cI cL cB cZ z S) H) (hD : va_D A (wd_SS a cI cL cB cZ z S)) (hS : va_S A s.heap H locs), W p l e zr_X6_meet s m args below meth c H locs 0 0 Q (F0 m 28 ls []) := by
  intro n
  induction n with
  | zero =>
    intro v1 v3 v4 v5 S H locs ls h hl hP hD hS
    exact nomatch (show (none : Option (Unit × mq_St)) = some res from h)
  | succ n ih =>
    intro v1 v3 v4 v5 S H locs ls h hl hP hD hS
    exact zw_X6_meet_28b C hret (fun v1 v3 v4 v5 S H locs ls h hl hP hD hS => ih v1 v3 v4 v5 S H locs ls h hl hP hD hS) v1 v3 v4 v5 S H locs ls h hl hP hD hS
set_option maxHeartbeats 4000000 in
set_option maxRecDepth 100000 in
theorem zw_X6_meet_23 {p : Program} {l : Launch} {e : Env} {s : State} {m : MethodId} {args : Array Value} {below : List Frame} {meth : Method} {c : Code} {A : Nat → Prop} {D : va_G} {a z : Nat → Nat} {cI cL cB cZ : ClassId} {Q : State → Prop} {N : Nat} {res : Unit × mq_St} (C : mq_C p s m args c A D cI cL cB cZ cX6_meet 6 RX6 zc_X6_meet) (hret : ∀ (H : Heap) (locs : List Loc) (ls : Array Slot) (pc : Nat), decode cX6_meet pc = .ok (.return_, 1) → va_P D vwCl (wd_SS a cI cL cB cZ z res.2) H → va_D A (wd_SS a cI cL cB cZ z res.2) → va_S A s.heap H locs → W p l e zr_X6_meet s m args below meth c H locs 0 0 Q (F0 m pc ls [])) (v1 : Int32) (v3 : Int32) (t0 : Int32) (S : mq_St) (H : Heap) (locs : List Loc) (ls : Array Slot) (h : zf_X6_meet_23 N z v1 v3 t0 S = some res) (hl : lv_has ls 6 [(0, .ref (a 0)), (1, .int (v1)), (2, .ref (a 2)), (3, .int (v3))]) (hP : va_P D vwCl (wd_SS a cI cL cB cZ z S) H) (hD : va_D A (wd_SS a cI cL cB cZ z S)) (hS : va_S A s.heap H locs) : W p l e zr_X6_meet s m args below meth c H locs 0 0 Q (F0 m 23 ls [.int (t0)]) := by
  obtain ⟨hx, hb, hml, hown, hts, hK, hA⟩ := id C
  unfold zf_X6_meet_23 at h
  refine lv_topi (fun x7 ex7 => ?_)
  replace h := mq_nI_go ex7 h
  refine lv_istore (lv' := [(4, .int (x7)), (0, .ref (a 0)), (1, .int (v1)), (2, .ref (a 2)), (3, .int (v3))]) hx hb dX6_meet_23 hl (by decide) rfl (fun ls hl => ?_)
  refine lv_iconst (v := (0 : Int32)) hx hb dX6_meet_25 (by decide) ?_
  refine lv_topi (fun x8 ex8 => ?_)
  replace h := mq_nI_go ex8 h
  refine lv_istore (lv' := [(5, .int (x8)), (4, .int (x7)), (0, .ref (a 0)), (1, .int (v1)), (2, .ref (a 2)), (3, .int (v3))]) hx hb dX6_meet_26 hl (by decide) rfl (fun ls hl => ?_)
  exact zw_X6_meet_28 C hret N (v1) (v3) (x7) (x8) S H locs ls h (lv_sub hl [2, 3, 4, 5, 1, 0] rfl) hP hD hS
set_option maxHeartbeats 4000000 in
set_option maxRecDepth 100000 in
theorem zw_X6_meet_22 {p : Program} {l : Launch} {e : Env} {s : State} {m : MethodId} {args : Array Value} {below : List Frame} {meth : Method} {c : Code} {A : Nat → Prop} {D : va_G} {a z : Nat → Nat} {cI cL cB cZ : ClassId} {Q : State → Prop} {N : Nat} {res : Unit × mq_St} (C : mq_C p s m args c A D cI cL cB cZ cX6_meet 6 RX6 zc_X6_meet) (hret : ∀ (H : Heap) (locs : List Loc) (ls : Array Slot) (pc : Nat), decode cX6_meet pc = .ok (.return_, 1) → va_P D vwCl (wd_SS a cI cL cB cZ z res.2) H → va_D A (wd_SS a cI cL cB cZ z res.2) → va_S A s.heap H locs → W p l e zr_X6_meet s m args below meth c H locs 0 0 Q (F0 m pc ls [])) (v1 : Int32) (v3 : Int32) (S : mq_St) (H : Heap) (locs : List Loc) (ls : Array Slot) (h : zf_X6_meet_22 N z v1 v3 S = some res) (hl : lv_has ls 6 [(0, .ref (a 0)), (1, .int (v1)), (2, .ref (a 2)), (3, .int (v3))]) (hP : va_P D vwCl (wd_SS a cI cL cB cZ z S) H) (hD : va_D A (wd_SS a cI cL cB cZ z S)) (hS : va_S A s.heap H locs) : W p l e zr_X6_meet s m args below meth c H locs 0 0 Q (F0 m 22 ls []) := by
  obtain ⟨hx, hb, hml, hown, hts, hK, hA⟩ := id C
  unfold zf_X6_meet_22 at h
  refine lv_iconst (v := (0 : Int32)) hx hb dX6_meet_22 (by decide) ?_
  exact zw_X6_meet_23 C hret (v1) (v3) ((0 : Int32)) S H locs ls h (lv_sub hl [0, 1, 2, 3] rfl) hP hD hS
set_option maxHeartbeats 4000000 in
set_option maxRecDepth 100000 in
theorem zw_X6_meet_0 {p : Program} {l : Launch} {e : Env} {s : State} {m : MethodId} {args : Array Value} {below : List Frame} {meth : Method} {c : Code} {A : Nat → Prop} {D : va_G} {a z : Nat → Nat} {cI cL cB cZ : ClassId} {Q : State → Prop} {N : Nat} {res : Unit × mq_St} (C : mq_C p s m args c A D cI cL cB cZ cX6_meet 6 RX6 zc_X6_meet) (hret : ∀ (H : Heap) (locs : List Loc) (ls : Array Slot) (pc : Nat), decode cX6_meet pc = .ok (.return_, 1) → va_P D vwCl (wd_SS a cI cL cB cZ z res.2) H → va_D A (wd_SS a cI cL cB cZ z res.2) → va_S A s.heap H locs → W p l e zr_X6_meet s m args below meth c H locs 0 0 Q (F0 m pc ls [])) (v1 : Int32) (v3 : Int32) (S : mq_St) (H : Heap) (locs : List Loc) (ls : Array Slot) (h : zf_X6_meet N z v1 v3 S = some res) (hl : lv_has ls 6 [(0, .ref (a 0)), (1, .int (v1)), (2, .ref (a 2)), (3, .int (v3))]) (hP : va_P D vwCl (wd_SS a cI cL cB cZ z S) H) (hD : va_D A (wd_SS a cI cL cB cZ z S)) (hS : va_S A s.heap H locs) : W p l e zr_X6_meet s m args below meth c H locs 0 0 Q (F0 m 0 ls []) := by
  obtain ⟨hx, hb, hml, hown, hts, hK, hA⟩ := id C
  unfold zf_X6_meet at h
  refine lv_aload_n hx hb dX6_meet_0 rfl (lv_at hl 0 rfl) ?_
  refine lv_iload_n hx hb dX6_meet_1 rfl (lv_at hl 1 rfl) ?_
  refine lv_iconst (v := (0 : Int32)) hx hb dX6_meet_2 (by decide) ?_
  obtain ⟨q1, hc2, h⟩ := mq_cp_go h
  refine zv_X6_isPlace (a := mq_ad a [0, 1]) (z := (fun k => [(z 0)].getD k 0)) [0, 1] C zt_m_X6_21 ⟨by decide, by decide⟩ hc2 rfl (by decide) hP hD hS hl.1 (Nat.le_of_ble_eq_true rfl) dX6_meet_3 (fun H locs hP hD hS => ?_)
  refine lv_if_eq (tgt := 22) hx hb dX6_meet_6 (by decide) (fun c6 => ?_) (fun c6 => ?_)
  · replace h := mq_it c6 h
    exact zw_X6_meet_22 C hret (v1) (v3) S H locs ls h (lv_sub hl [0, 1, 2, 3] rfl) hP hD hS
  · replace h := mq_if c6 h
    refine lv_aload_n hx hb dX6_meet_9 rfl (lv_at hl 2 rfl) ?_
    refine lv_iload_n hx hb dX6_meet_10 rfl (lv_at hl 3 rfl) ?_
    refine lv_iconst (v := (0 : Int32)) hx hb dX6_meet_11 (by decide) ?_
    obtain ⟨q3, hc4, h⟩ := mq_cp_go h
    refine zv_X6_isPlace (a := mq_ad a [2, 3]) (z := (fun k => [(z 1)].getD k 0)) [2, 3] C zt_m_X6_21 ⟨by decide, by decide⟩ hc4 rfl (by decide) hP hD hS hl.1 (Nat.le_of_ble_eq_true rfl) dX6_meet_12 (fun H locs hP hD hS => ?_)
    refine lv_if_eq (tgt := 22) hx hb dX6_meet_15 (by decide) (fun c5 => ?_) (fun c5 => ?_)
    · replace h := mq_it c5 h
      exact zw_X6_meet_22 C hret (v1) (v3) S H locs ls h (lv_sub hl [0, 1, 2, 3] rfl) hP hD hS
    · replace h := mq_if c5 h
      refine lv_iconst (v := (1 : Int32)) hx hb dX6_meet_18 (by decide) ?_
      refine lv_goto (tgt := 23) hx hb dX6_meet_19 (by decide) ?_
      exact zw_X6_meet_23 C hret (v1) (v3) ((1 : Int32)) S H locs ls h (lv_sub hl [0, 1, 2, 3] rfl) hP hD hS
set_option maxHeartbeats 4000000 in
set_option maxRecDepth 100000 in
theorem zm_X6_meet (l : Launch) (D : va_G) (a z : Nat → Nat) (cI cL cB cZ : ClassId) (sz N : Nat) (v1 : Int32) (v3 : Int32) (S : mq_St) (res : Unit × mq_St) (h : zf_X6_meet N z v1 v3 S = some res) : Met l yX6_meet (zc_X6_meet :: mq_T) zr_X6_meet (va_Pc [.ref (a 0), .int (v1), .ref (a 2), .int (v3)] (fun U => U.heap.size = sz ∧ va_P D vwCl (wd_SS a cI cL cB cZ z S) U.heap ∧ va_K D vwCl (mq_tys cI cL cB cZ) U ∧ va_D (fun _ => True) (wd_SS a cI cL cB cZ z S))) (va_Qv (fun u : mq_St => u = res.2) (fun u t => va_P D vwCl (wd_SS a cI cL cB cZ z u) t.heap ∧ va_K D vwCl (mq_tys cI cL cB cZ) t ∧ va_D (va_A (wd_SS a cI cL cB cZ z S) sz) (wd_SS a cI cL cB cZ z u)) (va_A (wd_SS a cI cL cB cZ z S) sz)) 0 0 (va_A (wd_SS a cI cL cB cZ z S) sz) := by
  refine Met.ofW (cc := cX6_meet) (maxL := 6) (ret := none) (by decide) rfl ?_
  intro p e s m args below meth c s₁ B hml hv
  obtain ⟨rfl, hsz, hP, hK, hD0⟩ := hv
  have hr := B.returns
  have hlocks := B.notSynchronized
  have hts := atoms_spec (ws := zc_X6_meet :: mq_T) B.pre
  have hown : s.vm.findClass RX6 = some m.cls := findClass_of_methodNamed B.named
  subst hsz
  have hD := hD0.self (sz := s.heap.size)
  generalize hAe : va_A (wd_SS a cI cL cB cZ z S) s.heap.size = A at hD ⊢
  have hA : ∀ q : Nat, s.heap.size ≤ q → A q := fun q h => by rw [← hAe]; exact Or.inr h
  have hl := lv_entry ([.ref (a 0), .int (v1), .ref (a 2), .int (v3)]) (n := 6) (Nat.le_of_ble_eq_true rfl)
  rw [lg_entry_eq]
  generalize (lg_sl ([.ref (a 0), .int (v1), .ref (a 2), .int (v3)]) ++ List.replicate (6 - (lg_sl ([.ref (a 0), .int (v1), .ref (a 2), .int (v3)])).length) Slot.unset).toArray = ls at hl ⊢
  have hl : lv_has ls 6 [(0, .ref (a 0)), (1, .int (v1)), (2, .ref (a 2)), (3, .int (v3))] := hl
  refine zw_X6_meet_0 (A := A) ⟨B.exec, B.bytes, hml, hown, hts, hK, hA⟩ (fun H locs ls pc dg hP hD hS => ?_) v1 v3 S s.heap [] ls h hl hP hD va_S.rf
  exact W.vret B.exec B.bytes hr (fun t ht hW => ⟨⟨_, rfl, rfl, by rw [ht]; exact hP, va_K.moved hW.alike hK, hD⟩, hS.F ht⟩) hS.2.2 dg
theorem zt_X6_meet_c : zc_X6_meet ∈ mq_T := mq_T_mem (mq_t4 (List.mem_of_getElem? (i := 107) rfl)) rfl
theorem zt_X6_meet_i : Cond.instanceMethod yX6_meet ∈ mq_T := mq_T_mem (mq_t4 (List.mem_of_getElem? (i := 105) rfl)) rfl
theorem zt_X6_meet_s : Cond.selects RX6 yX6_meet yX6_meet ∈ mq_T := mq_T_mem (mq_t4 (List.mem_of_getElem? (i := 106) rfl)) rfl
set_option maxHeartbeats 4000000 in
theorem zv_X6_meet {p : Program} {l : Launch} {e : Env} {R : Room} {s : State} {m : MethodId} {args : Array Value} {below : List Frame} {meth : Method} {c : Code} {A : Nat → Prop} {D : va_G} {a z : Nat → Nat} {cI cL cB cZ : ClassId} {Q : State → Prop} {cc : ByteArray} {nL idx pc N : Nat} {own : String} {c1 : Cond} {H : Heap} {locs : List Loc} {ls : Array Slot} {rest : List Value} {S : mq_St} {res : Unit × mq_St} {v1 : Int32} {v3 : Int32} {ws : va_W} (is : List Nat) (C : mq_C p s m args c A D cI cL cB cZ cc nL own c1) (hlk : Cond.methodLink own idx yX6_meet ∈ mq_T) (hR : zr_X6_meet.frames + 1 ≤ R.frames ∧ 8 + (6 + 11) + zr_X6_meet.locals ≤ R.locals) (h : zf_X6_meet N z v1 v3 S = some res) (hC : is.map (fun i => ws[i]?) = (wd_SS a cI cL cB cZ z S).map some) (hnd : va_nd is = true) {ws' : va_W} (hw : mq_setM ws is (wd_SS a cI cL cB cZ z res.2) = ws') (hP : va_P D vwCl ws H) (hD : va_D A ws) (hS : va_S A s.heap H locs) (hls : ls.size = nL) (hrest : (rest.map fun v => v.category).sum ≤ 8) (hdg : decode cc pc = .ok (.invokevirtual idx, 3)) (kk : ∀ (H1 : Heap) (locs1 : List Loc), va_P D vwCl ws' H1 → va_D A ws' → va_S A s.heap H1 locs1 → W p l e R s m args below meth c H1 locs1 0 0 Q (F0 m (pc + 3) ls rest)) : W p l e R s m args below meth c H locs 0 0 Q (F0 m pc ls (.int (v3) :: .ref (a 2) :: .int (v1) :: .ref (a 0) :: rest)) := by
  obtain ⟨hx, hb, hml, hown, hts, hK, hA⟩ := C
  have hPc := mq_subP hP is hC
  have hDc := hD.sub is hnd hC
  have hFc := va_free hD hS hA is hC
  refine va_callv (va_runV (As := [.int (v1), .ref (a 2), .int (v3)]) (rest := rest) ⟨hx, hb, hml, hown, hts⟩ (zm_X6_meet l D a z cI cL cB cZ H.size N v1 v3 S res h) (cwV 3 hts (mq_goodL (mq_wsV hlk zt_X6_meet_i zt_X6_meet_s zt_ini_X6 zt_X6_meet_c)) rfl rfl rfl (by decide +kernel) hR) ⟨fun a U g mk q => ⟨q.1, q.2.1, q.2.2.1, va_K.moved (u := U) (U := U.calling g mk a) (Vm.Alike.refl U.vm) q.2.2.2.1, q.2.2.2.2⟩, va_recv hK hPc (ci := 6) (q0 := 0) rfl rfl, fun U hU hW => ⟨rfl, by rw [hU], by rw [hU]; exact hPc, va_K.moved hW.alike hK, hDc.weaken (fun _ _ _ _ => trivial)⟩⟩ rfl rfl hls rfl (lv_room hrest) hdg ⟨Nat.zero_le _, Nat.zero_le _⟩) hS (fun q _ h => hFc q h) hFc (fun u t H1 locs ht hvm hw1 hB hz1 hk1 hS => ?_)
  subst hw1
  obtain ⟨hP1, hK1, hD1⟩ := hB
  rw [ht] at hP1
  obtain ⟨hP2, hD2⟩ := mq_join (w1 := (wd_SS a cI cL cB cZ z res.2)) hP hD is hC rfl hk1 hP1
  rw [hw] at hP2 hD2
  exact kk H1 locs hP2 hD2 hS
