/-! ModalDesk$Model.isMutual(II)Z -/
def zr_X4_isMutual : Room := { frames := 2, cells := 0, slots := 0, locals := 43 }
def zc_X4_isMutual : Cond := .code yX4_isMutual cX4_isMutual 3 (some .boolean)
def zf_X4_isMutual (N : Nat) (z : Nat → Nat) (v1 : Int32) (v2 : Int32) (S : mq_St) : Option (Int32) := (mq_cp (zf_X4_isSeen N z (v1) (v2) S) (fun q1 => (if q1 = (0 : Int32) then (mq_cz ((0 : Int32)) (some ((0 : Int32)))) else (mq_cp (zf_X4_isSeen N z (v2) (v1) S) (fun q4 => (if q4 = (0 : Int32) then (mq_cz ((0 : Int32)) (some ((0 : Int32)))) else (mq_cz ((1 : Int32)) (some ((1 : Int32))))))))))
set_option maxHeartbeats 4000000 in
set_option maxRecDepth 100000 in
theorem zw_X4_isMutual_0 {p : Program} {l : Launch} {e : Env} {s : State} {m : MethodId} {args : Array Value} {below : List Frame} {meth : Method} {c : Code} {A : Nat → Prop} {D : va_G} {a z : Nat → Nat} {cI cL cB cZ : ClassId} {Q : State → Prop} {N : Nat} {S : mq_St} {res : Int32} (C : mq_C p s m args c A D cI cL cB cZ cX4_isMutual 3 RX4 zc_X4_isMutual) (hret : ∀ (H : Heap) (locs : List Loc) (ls : Array Slot) (pc : Nat), decode cX4_isMutual pc = .ok (.ireturn, 1) → narrow .boolean (.int res) = .int res → va_P D vwCl (wd_C a cI cL cB cZ z S) H → va_D A (wd_C a cI cL cB cZ z S) → va_S A s.heap H locs → W p l e zr_X4_isMutual s m args below meth c H locs 0 0 Q (F0 m pc ls [.int res])) (v1 : Int32) (v2 : Int32) (H : Heap) (locs : List Loc) (ls : Array Slot) (h : zf_X4_isMutual N z v1 v2 S = some res) (hl : lv_has ls 3 [(0, .ref (a 46)), (1, .int (v1)), (2, .int (v2))]) (hP : va_P D vwCl (wd_C a cI cL cB cZ z S) H) (hD : va_D A (wd_C a cI cL cB cZ z S)) (hS : va_S A s.heap H locs) : W p l e zr_X4_isMutual s m args below meth c H locs 0 0 Q (F0 m 0 ls []) := by
  obtain ⟨hx, hb, hml, hown, hts, hK, hA⟩ := id C
  unfold zf_X4_isMutual at h
  refine lv_aload_n hx hb dX4_isMutual_0 rfl (lv_at hl 0 rfl) ?_
  refine lv_iload_n hx hb dX4_isMutual_1 rfl (lv_at hl 1 rfl) ?_
  refine lv_iload_n hx hb dX4_isMutual_2 rfl (lv_at hl 2 rfl) ?_
  obtain ⟨q1, hc2, h⟩ := mq_cp_go h
  refine zk_X4_isSeen C zt_m_X4_52 ⟨by decide, by decide⟩ hc2 hP hD hS hl.1 (Nat.le_of_ble_eq_true rfl) dX4_isMutual_3 (fun H locs hP hD hS => ?_)
  refine lv_if_eq (tgt := 22) hx hb dX4_isMutual_6 (by decide) (fun c9 => ?_) (fun c9 => ?_)
  · replace h := mq_it c9 h
    refine lv_iconst (v := (0 : Int32)) hx hb dX4_isMutual_22 (by decide) ?_
    have hz3 := mq_cz_in h
    replace h := mq_cz_go h
    cases h
    exact hret H locs ls 23 dX4_isMutual_23 hz3.1 hP hD hS
  · replace h := mq_if c9 h
    refine lv_aload_n hx hb dX4_isMutual_9 rfl (lv_at hl 0 rfl) ?_
    refine lv_iload_n hx hb dX4_isMutual_10 rfl (lv_at hl 2 rfl) ?_
    refine lv_iload_n hx hb dX4_isMutual_11 rfl (lv_at hl 1 rfl) ?_
    obtain ⟨q4, hc5, h⟩ := mq_cp_go h
    refine zk_X4_isSeen C zt_m_X4_52 ⟨by decide, by decide⟩ hc5 hP hD hS hl.1 (Nat.le_of_ble_eq_true rfl) dX4_isMutual_12 (fun H locs hP hD hS => ?_)
    refine lv_if_eq (tgt := 22) hx hb dX4_isMutual_15 (by decide) (fun c8 => ?_) (fun c8 => ?_)
    · replace h := mq_it c8 h
      refine lv_iconst (v := (0 : Int32)) hx hb dX4_isMutual_22 (by decide) ?_
      have hz6 := mq_cz_in h
      replace h := mq_cz_go h
      cases h
      exact hret H locs ls 23 dX4_isMutual_23 hz6.1 hP hD hS
    · replace h := mq_if c8 h
      refine lv_iconst (v := (1 : Int32)) hx hb dX4_isMutual_18 (by decide) ?_
      refine lv_goto (tgt := 23) hx hb dX4_isMutual_19 (by decide) ?_
      have hz7 := mq_cz_in h
      replace h := mq_cz_go h
      cases h
      exact hret H locs ls 23 dX4_isMutual_23 hz7.1 hP hD hS
set_option maxHeartbeats 4000000 in
set_option maxRecDepth 100000 in
theorem zm_X4_isMutual (l : Launch) (D : va_G) (a z : Nat → Nat) (cI cL cB cZ : ClassId) (sz N : Nat) (v1 : Int32) (v2 : Int32) (S : mq_St) (res : Int32) (h : zf_X4_isMutual N z v1 v2 S = some res) : Met l yX4_isMutual (zc_X4_isMutual :: mq_T) zr_X4_isMutual (va_Pc [.ref (a 46), .int (v1), .int (v2)] (fun U => U.heap.size = sz ∧ va_P D vwCl (wd_C a cI cL cB cZ z S) U.heap ∧ va_K D vwCl (mq_tys cI cL cB cZ) U ∧ va_D (fun _ => True) (wd_C a cI cL cB cZ z S))) (va_Qi (fun (r : Int32) (u : mq_St) => r = res ∧ u = S) (fun u t => va_P D vwCl (wd_C a cI cL cB cZ z u) t.heap ∧ va_K D vwCl (mq_tys cI cL cB cZ) t ∧ va_D (va_A (wd_C a cI cL cB cZ z S) sz) (wd_C a cI cL cB cZ z u)) (va_A (wd_C a cI cL cB cZ z S) sz)) 0 0 (va_A (wd_C a cI cL cB cZ z S) sz) := by
  refine Met.ofW (cc := cX4_isMutual) (maxL := 3) (ret := (some .boolean)) (by decide) rfl ?_
  intro p e s m args below meth c s₁ B hml hv
  obtain ⟨rfl, hsz, hP, hK, hD0⟩ := hv
  have hr := B.returns
  have hlocks := B.notSynchronized
  have hts := atoms_spec (ws := zc_X4_isMutual :: mq_T) B.pre
  have hown : s.vm.findClass RX4 = some m.cls := findClass_of_methodNamed B.named
  subst hsz
  have hD := hD0.self (sz := s.heap.size)
  generalize hAe : va_A (wd_C a cI cL cB cZ z S) s.heap.size = A at hD ⊢
  have hA : ∀ q : Nat, s.heap.size ≤ q → A q := fun q h => by rw [← hAe]; exact Or.inr h
  have hl := lv_entry ([.ref (a 46), .int (v1), .int (v2)]) (n := 3) (Nat.le_of_ble_eq_true rfl)
  rw [lg_entry_eq]
  generalize (lg_sl ([.ref (a 46), .int (v1), .int (v2)]) ++ List.replicate (3 - (lg_sl ([.ref (a 46), .int (v1), .int (v2)])).length) Slot.unset).toArray = ls at hl ⊢
  have hl : lv_has ls 3 [(0, .ref (a 46)), (1, .int (v1)), (2, .int (v2))] := hl
  refine zw_X4_isMutual_0 (A := A) ⟨B.exec, B.bytes, hml, hown, hts, hK, hA⟩ (fun H locs ls pc dg hz hP hD hS => ?_) v1 v2 s.heap [] ls h hl hP hD va_S.rf
  exact W.zret B.exec B.bytes hr hz (fun t ht hW => ⟨⟨_, _, rfl, ⟨rfl, rfl⟩, by rw [ht]; exact hP, va_K.moved hW.alike hK, hD⟩, hS.F ht⟩) hS.2.2 dg
theorem zt_X4_isMutual_c : zc_X4_isMutual ∈ mq_T := mq_T_mem (mq_t5 (List.mem_of_getElem? (i := 130) rfl)) rfl
theorem zt_X4_isMutual_i : Cond.instanceMethod yX4_isMutual ∈ mq_T := mq_T_mem (mq_t5 (List.mem_of_getElem? (i := 129) rfl)) rfl
theorem zt_X4_isMutual_s : Cond.selects RX4 yX4_isMutual yX4_isMutual ∈ mq_T := mq_T_at 63 (by decide +kernel)
set_option maxHeartbeats 4000000 in
theorem zk_X4_isMutual {p : Program} {l : Launch} {e : Env} {R : Room} {s : State} {m : MethodId} {args : Array Value} {below : List Frame} {meth : Method} {c : Code} {A : Nat → Prop} {D : va_G} {a z : Nat → Nat} {cI cL cB cZ : ClassId} {Q : State → Prop} {cc : ByteArray} {nL idx pc N : Nat} {own : String} {c1 : Cond} {H : Heap} {locs : List Loc} {ls : Array Slot} {rest : List Value} {S : mq_St} {res : Int32} {v1 : Int32} {v2 : Int32} (C : mq_C p s m args c A D cI cL cB cZ cc nL own c1) (hlk : Cond.methodLink own idx yX4_isMutual ∈ mq_T) (hR : zr_X4_isMutual.frames + 1 ≤ R.frames ∧ 8 + (3 + 11) + zr_X4_isMutual.locals ≤ R.locals) (h : zf_X4_isMutual N z v1 v2 S = some res) (hP : va_P D vwCl (wd_C a cI cL cB cZ z S) H) (hD : va_D A (wd_C a cI cL cB cZ z S)) (hS : va_S A s.heap H locs) (hls : ls.size = nL) (hrest : (rest.map fun v => v.category).sum ≤ 8) (hdg : decode cc pc = .ok (.invokevirtual idx, 3)) (kk : ∀ (H1 : Heap) (locs1 : List Loc), va_P D vwCl (wd_C a cI cL cB cZ z S) H1 → va_D A (wd_C a cI cL cB cZ z S) → va_S A s.heap H1 locs1 → W p l e R s m args below meth c H1 locs1 0 0 Q (F0 m (pc + 3) ls (.int res :: rest))) : W p l e R s m args below meth c H locs 0 0 Q (F0 m pc ls (.int (v2) :: .int (v1) :: .ref (a 46) :: rest)) := by
  obtain ⟨hx, hb, hml, hown, hts, hK, hA⟩ := C
  have hFc := mq_freeI hD hS hA
  refine va_calli (va_runV (As := [.int (v1), .int (v2)]) (rest := rest) ⟨hx, hb, hml, hown, hts⟩ (zm_X4_isMutual l D a z cI cL cB cZ H.size N v1 v2 S res h) (cwV 2 hts (mq_goodL (mq_wsV hlk zt_X4_isMutual_i zt_X4_isMutual_s zt_ini_X4 zt_X4_isMutual_c)) rfl rfl rfl (by decide +kernel) hR) ⟨fun a U g mk q => ⟨q.1, q.2.1, q.2.2.1, va_K.moved (u := U) (U := U.calling g mk a) (Vm.Alike.refl U.vm) q.2.2.2.1, q.2.2.2.2⟩, zy_C_46 hK hP, fun U hU hW => ⟨rfl, by rw [hU], by rw [hU]; exact hP, va_K.moved hW.alike hK, hD.weaken (fun _ _ _ _ => trivial)⟩⟩ rfl rfl hls rfl (lv_room hrest) hdg ⟨Nat.zero_le _, Nat.zero_le _⟩) hS (fun q _ h => hFc q h) hFc (fun r u t H1 locs ht hvm hw hB hz1 hk1 hS => ?_)
  obtain ⟨rfl, rfl⟩ := hw
  obtain ⟨hP1, hK1, hD1⟩ := hB
  rw [ht] at hP1
  exact kk H1 locs hP1 (hD1.weaken (fun _ _ _ h => hFc _ h)) hS
theorem zt_m_X4_66 : Cond.methodLink RX4 66 yX4_isMutual ∈ mq_T := mq_T_mem (mq_t5 (List.mem_of_getElem? (i := 127) rfl)) rfl
/-! ModalDesk$Model.isLeastOfCluster(I)Z -/
def zr_X4_isLeastOfCluster : Room := { frames := 3, cells := 0, slots := 0, locals := 65 }
def zc_X4_isLeastOfCluster : Cond := .code yX4_isLeastOfCluster cX4_isLeastOfCluster 3 (some .boolean)
def zf_X4_isLeastOfCluster_2b (N : Nat) (z : Nat → Nat) (S : mq_St) (k2 : Int32 → Int32 → Option (Int32)) (v1 : Int32) (v2 : Int32) : Option (Int32) := (if v1 ≤ v2 then (mq_cz ((1 : Int32)) (some ((1 : Int32)))) else (mq_cp (zf_X4_isMutual N z (v2) (v1) S) (fun q3 => (if q3 = (0 : Int32) then (mq_nI (v2 + (1 : Int32)) (fun x5 => (k2 (v1) (x5)))) else (mq_cz ((0 : Int32)) (some ((0 : Int32))))))))
def zf_X4_isLeastOfCluster_2 (N : Nat) (z : Nat → Nat) (S : mq_St) : Nat → Int32 → Int32 → Option (Int32)
  | 0, _, _ => none
  | n + 1, v1, v2 => zf_X4_isLeastOfCluster_2b N z S (fun v1 v2 => zf_X4_isLeastOfCluster_2 N z S n v1 v2) v1 v2
def zf_X4_isLeastOfCluster (N : Nat) (z : Nat → Nat) (v1 : Int32) (S : mq_St) : Option (Int32) := (mq_nI ((0 : Int32)) (fun x1 => (zf_X4_isLeastOfCluster_2 N z S N (v1) (x1))))
set_option maxHeartbeats 4000000 in
set_option maxRecDepth 100000 in
theorem zw_X4_isLeastOfCluster_2b {p : Program} {l : Launch} {e : Env} {s : State} {m : MethodId} {args : Array Value} {below : List Frame} {meth : Method} {c : Code} {A : Nat → Prop} {D : va_G} {a z : Nat → Nat} {cI cL cB cZ : ClassId} {Q : State → Prop} {N : Nat} {S : mq_St} {res : Int32} {k2 : Int32 → Int32 → Option (Int32)} (C : mq_C p s m args c A D cI cL cB cZ cX4_isLeastOfCluster 3 RX4 zc_X4_isLeastOfCluster) (hret : ∀ (H : Heap) (locs : List Loc) (ls : Array Slot) (pc : Nat), decode cX4_isLeastOfCluster pc = .ok (.ireturn, 1) → narrow .boolean (.int res) = .int res → va_P D vwCl (wd_C a cI cL cB cZ z S) H → va_D A (wd_C a cI cL cB cZ z S) → va_S A s.heap H locs → W p l e zr_X4_isLeastOfCluster s m args below meth c H locs 0 0 Q (F0 m pc ls [.int res])) (hk2 : ∀ (v1 : Int32) (v2 : Int32) (H : Heap) (locs : List Loc) (ls : Array Slot), k2 v1 v2 = some res → lv_has ls 3 [(0, .ref (a 46)), (1, .int (v1)), (2, .int (v2))] → va_P D vwCl (wd_C a cI cL cB cZ z S) H → va_D A (wd_C a cI cL cB cZ z S) → va_S A s.heap H locs → W p l e zr_X4_isLeastOfCluster s m args below meth c H locs 0 0 Q (F0 m 2 ls [])) (v1 : Int32) (v2 : Int32) (H : Heap) (locs : List Loc) (ls : Array Slot) (h : zf_X4_isLeastOfCluster_2b N z S k2 v1 v2 = some res) (hl : lv_has ls 3 [(0, .ref (a 46)), (1, .int (v1)), (2, .int (v2))]) (hP : va_P D vwCl (wd_C a cI cL cB cZ z S) H) (hD : va_D A (wd_C a cI cL cB cZ z S)) (hS : va_S A s.heap H locs) : W p l e zr_X4_isLeastOfCluster s m args below meth c H locs 0 0 Q (F0 m 2 ls []) := by
  obtain ⟨hx, hb, hml, hown, hts, hK, hA⟩ := id C
  unfold zf_X4_isLeastOfCluster_2b at h
  refine lv_iload_n hx hb dX4_isLeastOfCluster_2 rfl (lv_at hl 2 rfl) ?_
  refine lv_iload_n hx hb dX4_isLeastOfCluster_3 rfl (lv_at hl 1 rfl) ?_
  refine lv_icmp_ge (tgt := 24) hx hb dX4_isLeastOfCluster_4 (by decide) (fun c8 => ?_) (fun c8 => ?_)
  · replace h := mq_it c8 h
    refine lv_iconst (v := (1 : Int32)) hx hb dX4_isLeastOfCluster_24 (by decide) ?_
    have hz2 := mq_cz_in h
    replace h := mq_cz_go h
    cases h
    exact hret H locs ls 25 dX4_isLeastOfCluster_25 hz2.1 hP hD hS
  · replace h := mq_if c8 h
    refine lv_aload_n hx hb dX4_isLeastOfCluster_7 rfl (lv_at hl 0 rfl) ?_
    refine lv_iload_n hx hb dX4_isLeastOfCluster_8 rfl (lv_at hl 2 rfl) ?_
    refine lv_iload_n hx hb dX4_isLeastOfCluster_9 rfl (lv_at hl 1 rfl) ?_
    obtain ⟨q3, hc4, h⟩ := mq_cp_go h
    refine zk_X4_isMutual C zt_m_X4_66 ⟨by decide, by decide⟩ hc4 hP hD hS hl.1 (Nat.le_of_ble_eq_true rfl) dX4_isLeastOfCluster_10 (fun H locs hP hD hS => ?_)
    refine lv_if_eq (tgt := 18) hx hb dX4_isLeastOfCluster_13 (by decide) (fun c7 => ?_) (fun c7 => ?_)
    · replace h := mq_it c7 h
      obtain ⟨x5, ex5⟩ : ∃ y : Int32, y = v2 + (1 : Int32) := ⟨_, rfl⟩
      replace h := mq_nI_go ex5 h
      refine lv_iinc (v := x5) (lv' := [(2, .int (x5)), (0, .ref (a 46)), (1, .int (v1))]) hx hb dX4_isLeastOfCluster_18 hl (k := 2) rfl (by rw [ex5]; rfl) (by decide) rfl (fun ls hl => ?_)
      refine lv_goto (tgt := 2) hx hb dX4_isLeastOfCluster_21 (by decide) ?_
      exact hk2 (v1) (x5) H locs ls h (lv_sub hl [1, 2, 0] rfl) hP hD hS
    · replace h := mq_if c7 h
      refine lv_iconst (v := (0 : Int32)) hx hb dX4_isLeastOfCluster_16 (by decide) ?_
      have hz6 := mq_cz_in h
      replace h := mq_cz_go h
      cases h
      exact hret H locs ls 17 dX4_isLeastOfCluster_17 hz6.1 hP hD hS
set_option maxHeartbeats 4000000 in
set_option maxRecDepth 100000 in
theorem zw_X4_isLeastOfCluster_2 {p : Program} {l : Launch} {e : Env} {s : State} {m : MethodId} {args : Array Value} {below : List Frame} {meth : Method} {c : Code} {A : Nat → Prop} {D : va_G} {a z : Nat → Nat} {cI cL cB cZ : ClassId} {Q : State → Prop} {N : Nat} {S : mq_St} {res : Int32} (C : mq_C p s m args c A D cI cL cB cZ cX4_isLeastOfCluster 3 RX4 zc_X4_isLeastOfCluster) (hret : ∀ (H : Heap) (locs : List Loc) (ls : Array Slot) (pc : Nat), decode cX4_isLeastOfCluster pc = .ok (.ireturn, 1) → narrow .boolean (.int res) = .int res → va_P D vwCl (wd_C a cI cL cB cZ z S) H → va_D A (wd_C a cI cL cB cZ z S) → va_S A s.heap H locs → W p l e zr_X4_isLeastOfCluster s m args below meth c H locs 0 0 Q (F0 m pc ls [.int res])) : ∀ (n : Nat) (v1 : Int32) (v2 : Int32) (H : Heap) (locs : List Loc) (ls : Array Slot) (h : zf_X4_isLeastOfCluster_2 N z S n v1 v2 = some res) (hl : lv_has ls 3 [(0, .ref (a 46)), (1, .int (v1)), (2, .int (v2))]) (hP : va_P D vwCl (wd_C a cI cL cB cZ z S) H) (hD : va_D A (wd_C a cI cL cB cZ z S)) (hS : va_S A s.heap H locs), W p l e zr_X4_isLeastOfCluster s m args below meth c H locs 0 0 Q (F0 m 2 ls []) := by
  intro n
  induction n with
  | zero =>
    intro v1 v2 H locs ls h hl hP hD hS
    exact nomatch (show (none : Option (Int32)) = some res from h)
  | succ n ih =>
    intro v1 v2 H locs ls h hl hP hD hS
    exact zw_X4_isLeastOfCluster_2b C hret (fun v1 v2 H locs ls h hl hP hD hS => ih v1 v2 H locs ls h hl hP hD hS) v1 v2 H locs ls h hl hP hD hS
set_option maxHeartbeats 4000000 in
set_option maxRecDepth 100000 in
theorem zw_X4_isLeastOfCluster_0 {p : Program} {l : Launch} {e : Env} {s : State} {m : MethodId} {args : Array Value} {below : List Frame} {meth : Method} {c : Code} {A : Nat → Prop} {D : va_G} {a z : Nat → Nat} {cI cL cB cZ : ClassId} {Q : State → Prop} {N : Nat} {S : mq_St} {res : Int32} (C : mq_C p s m args c A D cI cL cB cZ cX4_isLeastOfCluster 3 RX4 zc_X4_isLeastOfCluster) (hret : ∀ (H : Heap) (locs : List Loc) (ls : Array Slot) (pc : Nat), decode cX4_isLeastOfCluster pc = .ok (.ireturn, 1) → narrow .boolean (.int res) = .int res → va_P D vwCl (wd_C a cI cL cB cZ z S) H → va_D A (wd_C a cI cL cB cZ z S) → va_S A s.heap H locs → W p l e zr_X4_isLeastOfCluster s m args below meth c H locs 0 0 Q (F0 m pc ls [.int res])) (v1 : Int32) (H : Heap) (locs : List Loc) (ls : Array Slot) (h : zf_X4_isLeastOfCluster N z v1 S = some res) (hl : lv_has ls 3 [(0, .ref (a 46)), (1, .int (v1))]) (hP : va_P D vwCl (wd_C a cI cL cB cZ z S) H) (hD : va_D A (wd_C a cI cL cB cZ z S)) (hS : va_S A s.heap H locs) : W p l e zr_X4_isLeastOfCluster s m args below meth c H locs 0 0 Q (F0 m 0 ls []) := by
  obtain ⟨hx, hb, hml, hown, hts, hK, hA⟩ := id C
  unfold zf_X4_isLeastOfCluster at h
  refine lv_iconst (v := (0 : Int32)) hx hb dX4_isLeastOfCluster_0 (by decide) ?_
  refine lv_topi (fun x1 ex1 => ?_)
  replace h := mq_nI_go ex1 h
  refine lv_istore_n (lv' := [(2, .int (x1)), (0, .ref (a 46)), (1, .int (v1))]) hx hb dX4_isLeastOfCluster_1 rfl hl (by decide) rfl (fun ls hl => ?_)
  exact zw_X4_isLeastOfCluster_2 C hret N (v1) (x1) H locs ls h (lv_sub hl [1, 2, 0] rfl) hP hD hS
set_option maxHeartbeats 4000000 in
set_option maxRecDepth 100000 in
theorem zm_X4_isLeastOfCluster (l : Launch) (D : va_G) (a z : Nat → Nat) (cI cL cB cZ : ClassId) (sz N : Nat) (v1 : Int32) (S : mq_St) (res : Int32) (h : zf_X4_isLeastOfCluster N z v1 S = some res) : Met l yX4_isLeastOfCluster (zc_X4_isLeastOfCluster :: mq_T) zr_X4_isLeastOfCluster (va_Pc [.ref (a 46), .int (v1)] (fun U => U.heap.size = sz ∧ va_P D vwCl (wd_C a cI cL cB cZ z S) U.heap ∧ va_K D vwCl (mq_tys cI cL cB cZ) U ∧ va_D (fun _ => True) (wd_C a cI cL cB cZ z S))) (va_Qi (fun (r : Int32) (u : mq_St) => r = res ∧ u = S) (fun u t => va_P D vwCl (wd_C a cI cL cB cZ z u) t.heap ∧ va_K D vwCl (mq_tys cI cL cB cZ) t ∧ va_D (va_A (wd_C a cI cL cB cZ z S) sz) (wd_C a cI cL cB cZ z u)) (va_A (wd_C a cI cL cB cZ z S) sz)) 0 0 (va_A (wd_C a cI cL cB cZ z S) sz) := by
  refine Met.ofW (cc := cX4_isLeastOfCluster) (maxL := 3) (ret := (some .boolean)) (by decide) rfl ?_
  intro p e s m args below meth c s₁ B hml hv
  obtain ⟨rfl, hsz, hP, hK, hD0⟩ := hv
  have hr := B.returns
  have hlocks := B.notSynchronized
  have hts := atoms_spec (ws := zc_X4_isLeastOfCluster :: mq_T) B.pre
  have hown : s.vm.findClass RX4 = some m.cls := findClass_of_methodNamed B.named
  subst hsz
  have hD := hD0.self (sz := s.heap.size)
  generalize hAe : va_A (wd_C a cI cL cB cZ z S) s.heap.size = A at hD ⊢
  have hA : ∀ q : Nat, s.heap.size ≤ q → A q := fun q h => by rw [← hAe]; exact Or.inr h
  have hl := lv_entry ([.ref (a 46), .int (v1)]) (n := 3) (Nat.le_of_ble_eq_true rfl)
  rw [lg_entry_eq]
  generalize (lg_sl ([.ref (a 46), .int (v1)]) ++ List.replicate (3 - (lg_sl ([.ref (a 46), .int (v1)])).length) Slot.unset).toArray = ls at hl ⊢
  have hl : lv_has ls 3 [(0, .ref (a 46)), (1, .int (v1))] := hl
  refine zw_X4_isLeastOfCluster_0 (A := A) ⟨B.exec, B.bytes, hml, hown, hts, hK, hA⟩ (fun H locs ls pc dg hz hP hD hS => ?_) v1 s.heap [] ls h hl hP hD va_S.rf
  exact W.zret B.exec B.bytes hr hz (fun t ht hW => ⟨⟨_, _, rfl, ⟨rfl, rfl⟩, by rw [ht]; exact hP, va_K.moved hW.alike hK, hD⟩, hS.F ht⟩) hS.2.2 dg
theorem zt_X4_isLeastOfCluster_c : zc_X4_isLeastOfCluster ∈ mq_T := mq_T_mem (mq_t5 (List.mem_of_getElem? (i := 134) rfl)) rfl
theorem zt_X4_isLeastOfCluster_i : Cond.instanceMethod yX4_isLeastOfCluster ∈ mq_T := mq_T_mem (mq_t5 (List.mem_of_getElem? (i := 133) rfl)) rfl
theorem zt_X4_isLeastOfCluster_s : Cond.selects RX4 yX4_isLeastOfCluster yX4_isLeastOfCluster ∈ mq_T := mq_T_at 64 (by decide +kernel)
set_option maxHeartbeats 4000000 in
theorem zk_X4_isLeastOfCluster {p : Program} {l : Launch} {e : Env} {R : Room} {s : State} {m : MethodId} {args : Array Value} {below : List Frame} {meth : Method} {c : Code} {A : Nat → Prop} {D : va_G} {a z : Nat → Nat} {cI cL cB cZ : ClassId} {Q : State → Prop} {cc : ByteArray} {nL idx pc N : Nat} {own : String} {c1 : Cond} {H : Heap} {locs : List Loc} {ls : Array Slot} {rest : List Value} {S : mq_St} {res : Int32} {v1 : Int32} (C : mq_C p s m args c A D cI cL cB cZ cc nL own c1) (hlk : Cond.methodLink own idx yX4_isLeastOfCluster ∈ mq_T) (hR : zr_X4_isLeastOfCluster.frames + 1 ≤ R.frames ∧ 8 + (3 + 11) + zr_X4_isLeastOfCluster.locals ≤ R.locals) (h : zf_X4_isLeastOfCluster N z v1 S = some res) (hP : va_P D vwCl (wd_C a cI cL cB cZ z S) H) (hD : va_D A (wd_C a cI cL cB cZ z S)) (hS : va_S A s.heap H locs) (hls : ls.size = nL) (hrest : (rest.map fun v => v.category).sum ≤ 8) (hdg : decode cc pc = .ok (.invokevirtual idx, 3)) (kk : ∀ (H1 : Heap) (locs1 : List Loc), va_P D vwCl (wd_C a cI cL cB cZ z S) H1 → va_D A (wd_C a cI cL cB cZ z S) → va_S A s.heap H1 locs1 → W p l e R s m args below meth c H1 locs1 0 0 Q (F0 m (pc + 3) ls (.int res :: rest))) : W p l e R s m args below meth c H locs 0 0 Q (F0 m pc ls (.int (v1) :: .ref (a 46) :: rest)) := by
  obtain ⟨hx, hb, hml, hown, hts, hK, hA⟩ := C
  have hFc := mq_freeI hD hS hA
  refine va_calli (va_runV (As := [.int (v1)]) (rest := rest) ⟨hx, hb, hml, hown, hts⟩ (zm_X4_isLeastOfCluster l D a z cI cL cB cZ H.size N v1 S res h) (cwV 1 hts (mq_goodL (mq_wsV hlk zt_X4_isLeastOfCluster_i zt_X4_isLeastOfCluster_s zt_ini_X4 zt_X4_isLeastOfCluster_c)) rfl rfl rfl (by decide +kernel) hR) ⟨fun a U g mk q => ⟨q.1, q.2.1, q.2.2.1, va_K.moved (u := U) (U := U.calling g mk a) (Vm.Alike.refl U.vm) q.2.2.2.1, q.2.2.2.2⟩, zy_C_46 hK hP, fun U hU hW => ⟨rfl, by rw [hU], by rw [hU]; exact hP, va_K.moved hW.alike hK, hD.weaken (fun _ _ _ _ => trivial)⟩⟩ rfl rfl hls rfl (lv_room hrest) hdg ⟨Nat.zero_le _, Nat.zero_le _⟩) hS (fun q _ h => hFc q h) hFc (fun r u t H1 locs ht hvm hw hB hz1 hk1 hS => ?_)
  obtain ⟨rfl, rfl⟩ := hw
  obtain ⟨hP1, hK1, hD1⟩ := hB
  rw [ht] at hP1
  exact kk H1 locs hP1 (hD1.weaken (fun _ _ _ h => hFc _ h)) hS
theorem zt_m_X4_69 : Cond.methodLink RX4 69 yX4_isLeastOfCluster ∈ mq_T := mq_T_mem (mq_t5 (List.mem_of_getElem? (i := 131) rfl)) rfl
/-! ModalDesk$Model.clusterOf(I)I -/
def zr_X4_clusterOf : Room := { frames := 4, cells := 0, slots := 0, locals := 87 }
def zc_X4_clusterOf : Cond := .code yX4_clusterOf cX4_clusterOf 4 (some .int)
def zf_X4_clusterOf_32 (N : Nat) (z : Nat → Nat) (S : mq_St) (k4 : Int32 → Int32 → Int32 → Option (Int32)) (v1 : Int32) (v3 : Int32) (t0 : Int32) (t1 : Int32) : Option (Int32) := (mq_nI ((t0 + t1)) (fun x10 => (mq_nI (v3 + (1 : Int32)) (fun x11 => (k4 (v1) (x10) (x11))))))
def zf_X4_clusterOf_4b (N : Nat) (z : Nat → Nat) (S : mq_St) (k4 : Int32 → Int32 → Int32 → Option (Int32)) (v1 : Int32) (v2 : Int32) (v3 : Int32) : Option (Int32) := (if v1 ≤ v3 then (some (v2)) else (mq_cp (zf_X4_isMutual N z (v3) (v1) S) (fun q3 => (if q3 = (0 : Int32) then (mq_cp (zf_X4_isLeastOfCluster N z (v3) S) (fun q5 => (if q5 = (0 : Int32) then (zf_X4_clusterOf_32 N z S k4 (v1) (v3) (v2) ((0 : Int32))) else (zf_X4_clusterOf_32 N z S k4 (v1) (v3) (v2) ((1 : Int32)))))) else (some (v2))))))
def zf_X4_clusterOf_4 (N : Nat) (z : Nat → Nat) (S : mq_St) : Nat → Int32 → Int32 → Int32 → Option (Int32)
  | 0, _, _, _ => none
  | n + 1, v1, v2, v3 => zf_X4_clusterOf_4b N z S (fun v1 v2 v3 => zf_X4_clusterOf_4 N z S n v1 v2 v3) v1 v2 v3
def zf_X4_clusterOf (N : Nat) (z : Nat → Nat) (v1 : Int32) (S : mq_St) : Option (Int32) := (mq_nI ((0 : Int32)) (fun x1 => (mq_nI ((0 : Int32)) (fun x2 => (zf_X4_clusterOf_4 N z S N (v1) (x1) (x2))))))
set_option maxHeartbeats 4000000 in
set_option maxRecDepth 100000 in
theorem zw_X4_clusterOf_32 {p : Program} {l : Launch} {e : Env} {s : State} {m : MethodId} {args : Array Value} {below : List Frame} {meth : Method} {c : Code} {A : Nat → Prop} {D : va_G} {a z : Nat → Nat} {cI cL cB cZ : ClassId} {Q : State → Prop} {N : Nat} {S : mq_St} {res : Int32} {k4 : Int32 → Int32 → Int32 → Option (Int32)} (C : mq_C p s m args c A D cI cL cB cZ cX4_clusterOf 4 RX4 zc_X4_clusterOf) (hret : ∀ (H : Heap) (locs : List Loc) (ls : Array Slot) (pc : Nat), decode cX4_clusterOf pc = .ok (.ireturn, 1) → va_P D vwCl (wd_C a cI cL cB cZ z S) H → va_D A (wd_C a cI cL cB cZ z S) → va_S A s.heap H locs → W p l e zr_X4_clusterOf s m args below meth c H locs 0 0 Q (F0 m pc ls [.int res])) (hk4 : ∀ (v1 : Int32) (v2 : Int32) (v3 : Int32) (H : Heap) (locs : List Loc) (ls : Array Slot), k4 v1 v2 v3 = some res → lv_has ls 4 [(0, .ref (a 46)), (1, .int (v1)), (2, .int (v2)), (3, .int (v3))] → va_P D vwCl (wd_C a cI cL cB cZ z S) H → va_D A (wd_C a cI cL cB cZ z S) → va_S A s.heap H locs → W p l e zr_X4_clusterOf s m args below meth c H locs 0 0 Q (F0 m 4 ls [])) (v1 : Int32) (v3 : Int32) (t0 : Int32) (t1 : Int32) (H : Heap) (locs : List Loc) (ls : Array Slot) (h : zf_X4_clusterOf_32 N z S k4 v1 v3 t0 t1 = some res) (hl : lv_has ls 4 [(0, .ref (a 46)), (1, .int (v1)), (3, .int (v3))]) (hP : va_P D vwCl (wd_C a cI cL cB cZ z S) H) (hD : va_D A (wd_C a cI cL cB cZ z S)) (hS : va_S A s.heap H locs) : W p l e zr_X4_clusterOf s m args below meth c H locs 0 0 Q (F0 m 32 ls [.int (t1), .int (t0)]) := by
  obtain ⟨hx, hb, hml, hown, hts, hK, hA⟩ := id C
  unfold zf_X4_clusterOf_32 at h
  refine lv_iadd hx hb dX4_clusterOf_32 ?_
  refine lv_topi (fun x10 ex10 => ?_)
  replace h := mq_nI_go ex10 h
  refine lv_istore_n (lv' := [(2, .int (x10)), (0, .ref (a 46)), (1, .int (v1)), (3, .int (v3))]) hx hb dX4_clusterOf_33 rfl hl (by decide) rfl (fun ls hl => ?_)
  obtain ⟨x11, ex11⟩ : ∃ y : Int32, y = v3 + (1 : Int32) := ⟨_, rfl⟩
  replace h := mq_nI_go ex11 h
  refine lv_iinc (v := x11) (lv' := [(3, .int (x11)), (2, .int (x10)), (0, .ref (a 46)), (1, .int (v1))]) hx hb dX4_clusterOf_34 hl (k := 3) rfl (by rw [ex11]; rfl) (by decide) rfl (fun ls hl => ?_)
  refine lv_goto (tgt := 4) hx hb dX4_clusterOf_37 (by decide) ?_
  exact hk4 (v1) (x10) (x11) H locs ls h (lv_sub hl [2, 3, 1, 0] rfl) hP hD hS
set_option maxHeartbeats 4000000 in
set_option maxRecDepth 100000 in
theorem zw_X4_clusterOf_4b {p : Program} {l : Launch} {e : Env} {s : State} {m : MethodId} {args : Array Value} {below : List Frame} {meth : Method} {c : Code} {A : Nat → Prop} {D : va_G} {a z : Nat → Nat} {cI cL cB cZ : ClassId} {Q : State → Prop} {N : Nat} {S : mq_St} {res : Int32} {k4 : Int32 → Int32 → Int32 → Option (Int32)} (C : mq_C p s m args c A D cI cL cB cZ cX4_clusterOf 4 RX4 zc_X4_clusterOf) (hret : ∀ (H : Heap) (locs : List Loc) (ls : Array Slot) (pc : Nat), decode cX4_clusterOf pc = .ok (.ireturn, 1) → va_P D vwCl (wd_C a cI cL cB cZ z S) H → va_D A (wd_C a cI cL cB cZ z S) → va_S A s.heap H locs → W p l e zr_X4_clusterOf s m args below meth c H locs 0 0 Q (F0 m pc ls [.int res])) (hk4 : ∀ (v1 : Int32) (v2 : Int32) (v3 : Int32) (H : Heap) (locs : List Loc) (ls : Array Slot), k4 v1 v2 v3 = some res → lv_has ls 4 [(0, .ref (a 46)), (1, .int (v1)), (2, .int (v2)), (3, .int (v3))] → va_P D vwCl (wd_C a cI cL cB cZ z S) H → va_D A (wd_C a cI cL cB cZ z S) → va_S A s.heap H locs → W p l e zr_X4_clusterOf s m args below meth c H locs 0 0 Q (F0 m 4 ls [])) (v1 : Int32) (v2 : Int32) (v3 : Int32) (H : Heap) (locs : List Loc) (ls : Array Slot) (h : zf_X4_clusterOf_4b N z S k4 v1 v2 v3 = some res) (hl : lv_has ls 4 [(0, .ref (a 46)), (1, .int (v1)), (2, .int (v2)), (3, .int (v3))]) (hP : va_P D vwCl (wd_C a cI cL cB cZ z S) H) (hD : va_D A (wd_C a cI cL cB cZ z S)) (hS : va_S A s.heap H locs) : W p l e zr_X4_clusterOf s m args below meth c H locs 0 0 Q (F0 m 4 ls []) := by
  obtain ⟨hx, hb, hml, hown, hts, hK, hA⟩ := id C
  unfold zf_X4_clusterOf_4b at h
  refine lv_iload_n hx hb dX4_clusterOf_4 rfl (lv_at hl 3 rfl) ?_
  refine lv_iload_n hx hb dX4_clusterOf_5 rfl (lv_at hl 1 rfl) ?_
  refine lv_icmp_ge (tgt := 40) hx hb dX4_clusterOf_6 (by decide) (fun c9 => ?_) (fun c9 => ?_)
  · replace h := mq_it c9 h
    refine lv_iload_n hx hb dX4_clusterOf_40 rfl (lv_at hl 2 rfl) ?_
    cases h
    exact hret H locs ls 41 dX4_clusterOf_41 hP hD hS
  · replace h := mq_if c9 h
    refine lv_aload_n hx hb dX4_clusterOf_9 rfl (lv_at hl 0 rfl) ?_
    refine lv_iload_n hx hb dX4_clusterOf_10 rfl (lv_at hl 3 rfl) ?_
    refine lv_iload_n hx hb dX4_clusterOf_11 rfl (lv_at hl 1 rfl) ?_
    obtain ⟨q3, hc4, h⟩ := mq_cp_go h
    refine zk_X4_isMutual C zt_m_X4_66 ⟨by decide, by decide⟩ hc4 hP hD hS hl.1 (Nat.le_of_ble_eq_true rfl) dX4_clusterOf_12 (fun H locs hP hD hS => ?_)
    refine lv_if_ne (tgt := 40) hx hb dX4_clusterOf_15 (by decide) (fun c8 => ?_) (fun c8 => ?_)
    · replace h := mq_if c8 h
      refine lv_iload_n hx hb dX4_clusterOf_40 rfl (lv_at hl 2 rfl) ?_
      cases h
      exact hret H locs ls 41 dX4_clusterOf_41 hP hD hS
    · replace h := mq_it (by simpa using c8) h
      refine lv_iload_n hx hb dX4_clusterOf_18 rfl (lv_at hl 2 rfl) ?_
      refine lv_aload_n hx hb dX4_clusterOf_19 rfl (lv_at hl 0 rfl) ?_
      refine lv_iload_n hx hb dX4_clusterOf_20 rfl (lv_at hl 3 rfl) ?_
      obtain ⟨q5, hc6, h⟩ := mq_cp_go h
      refine zk_X4_isLeastOfCluster C zt_m_X4_69 ⟨by decide, by decide⟩ hc6 hP hD hS hl.1 (Nat.le_of_ble_eq_true rfl) dX4_clusterOf_21 (fun H locs hP hD hS => ?_)
      refine lv_if_eq (tgt := 31) hx hb dX4_clusterOf_24 (by decide) (fun c7 => ?_) (fun c7 => ?_)
      · replace h := mq_it c7 h
        refine lv_iconst (v := (0 : Int32)) hx hb dX4_clusterOf_31 (by decide) ?_
        exact zw_X4_clusterOf_32 C hret hk4 (v1) (v3) (v2) ((0 : Int32)) H locs ls h (lv_sub hl [0, 1, 3] rfl) hP hD hS
      · replace h := mq_if c7 h
        refine lv_iconst (v := (1 : Int32)) hx hb dX4_clusterOf_27 (by decide) ?_
        refine lv_goto (tgt := 32) hx hb dX4_clusterOf_28 (by decide) ?_
        exact zw_X4_clusterOf_32 C hret hk4 (v1) (v3) (v2) ((1 : Int32)) H locs ls h (lv_sub hl [0, 1, 3] rfl) hP hD hS
set_option maxHeartbeats 4000000 in
set_option maxRecDepth 100000 in
theorem zw_X4_clusterOf_4 {p : Program} {l : Launch} {e : Env} {s : State} {m : MethodId} {args : Array Value} {below : List Frame} {meth : Method} {c : Code} {A : Nat → Prop} {D : va_G} {a z : Nat → Nat} {cI cL cB cZ : ClassId} {Q : State → Prop} {N : Nat} {S : mq_St} {res : Int32} (C : mq_C p s m args c A D cI cL cB cZ cX4_clusterOf 4 RX4 zc_X4_clusterOf) (hret : ∀ (H : Heap) (locs : List Loc) (ls : Array Slot) (pc : Nat), decode cX4_clusterOf pc = .ok (.ireturn, 1) → va_P D vwCl (wd_C a cI cL cB cZ z S) H → va_D A (wd_C a cI cL cB cZ z S) → va_S A s.heap H locs → W p l e zr_X4_clusterOf s m args below meth c H locs 0 0 Q (F0 m pc ls [.int res])) : ∀ (n : Nat) (v1 : Int32) (v2 : Int32) (v3 : Int32) (H : Heap) (locs : List Loc) (ls : Array Slot) (h : zf_X4_clusterOf_4 N z S n v1 v2 v3 = some res) (hl : lv_has ls 4 [(0, .ref (a 46)), (1, .int (v1)), (2, .int (v2)), (3, .int (v3))]) (hP : va_P D vwCl (wd_C a cI cL cB cZ z S) H) (hD : va_D A (wd_C a cI cL cB cZ z S)) (hS : va_S A s.heap H locs), W p l e zr_X4_clusterOf s m args below meth c H locs 0 0 Q (F0 m 4 ls []) := by
  intro n
  induction n with
  | zero =>
    intro v1 v2 v3 H locs ls h hl hP hD hS
    exact nomatch (show (none : Option (Int32)) = some res from h)
  | succ n ih =>
    intro v1 v2 v3 H locs ls h hl hP hD hS
    exact zw_X4_clusterOf_4b C hret (fun v1 v2 v3 H locs ls h hl hP hD hS => ih v1 v2 v3 H locs ls h hl hP hD hS) v1 v2 v3 H locs ls h hl hP hD hS
set_option maxHeartbeats 4000000 in
set_option maxRecDepth 100000 in
theorem zw_X4_clusterOf_0 {p : Program} {l : Launch} {e : Env} {s : State} {m : MethodId} {args : Array Value} {below : List Frame} {meth : Method} {c : Code} {A : Nat → Prop} {D : va_G} {a z : Nat → Nat} {cI cL cB cZ : ClassId} {Q : State → Prop} {N : Nat} {S : mq_St} {res : Int32} (C : mq_C p s m args c A D cI cL cB cZ cX4_clusterOf 4 RX4 zc_X4_clusterOf) (hret : ∀ (H : Heap) (locs : List Loc) (ls : Array Slot) (pc : Nat), decode cX4_clusterOf pc = .ok (.ireturn, 1) → va_P D vwCl (wd_C a cI cL cB cZ z S) H → va_D A (wd_C a cI cL cB cZ z S) → va_S A s.heap H locs → W p l e zr_X4_clusterOf s m args below meth c H locs 0 0 Q (F0 m pc ls [.int res])) (v1 : Int32) (H : Heap) (locs : List Loc) (ls : Array Slot) (h : zf_X4_clusterOf N z v1 S = some res) (hl : lv_has ls 4 [(0, .ref (a 46)), (1, .int (v1))]) (hP : va_P D vwCl (wd_C a cI cL cB cZ z S) H) (hD : va_D A (wd_C a cI cL cB cZ z S)) (hS : va_S A s.heap H locs) : W p l e zr_X4_clusterOf s m args below meth c H locs 0 0 Q (F0 m 0 ls []) := by
  obtain ⟨hx, hb, hml, hown, hts, hK, hA⟩ := id C
  unfold zf_X4_clusterOf at h
  refine lv_iconst (v := (0 : Int32)) hx hb dX4_clusterOf_0 (by decide) ?_
  refine lv_topi (fun x1 ex1 => ?_)
  replace h := mq_nI_go ex1 h
  refine lv_istore_n (lv' := [(2, .int (x1)), (0, .ref (a 46)), (1, .int (v1))]) hx hb dX4_clusterOf_1 rfl hl (by decide) rfl (fun ls hl => ?_)
  refine lv_iconst (v := (0 : Int32)) hx hb dX4_clusterOf_2 (by decide) ?_
  refine lv_topi (fun x2 ex2 => ?_)
  replace h := mq_nI_go ex2 h
  refine lv_istore_n (lv' := [(3, .int (x2)), (2, .int (x1)), (0, .ref (a 46)), (1, .int (v1))]) hx hb dX4_clusterOf_3 rfl hl (by decide) rfl (fun ls hl => ?_)
  exact zw_X4_clusterOf_4 C hret N (v1) (x1) (x2) H locs ls h (lv_sub hl [2, 3, 1, 0] rfl) hP hD hS
set_option maxHeartbeats 4000000 in
set_option maxRecDepth 100000 in
theorem zm_X4_clusterOf (l : Launch) (D : va_G) (a z : Nat → Nat) (cI cL cB cZ : ClassId) (sz N : Nat) (v1 : Int32) (S : mq_St) (res : Int32) (h : zf_X4_clusterOf N z v1 S = some res) : Met l yX4_clusterOf (zc_X4_clusterOf :: mq_T) zr_X4_clusterOf (va_Pc [.ref (a 46), .int (v1)] (fun U => U.heap.size = sz ∧ va_P D vwCl (wd_C a cI cL cB cZ z S) U.heap ∧ va_K D vwCl (mq_tys cI cL cB cZ) U ∧ va_D (fun _ => True) (wd_C a cI cL cB cZ z S))) (va_Qi (fun (r : Int32) (u : mq_St) => r = res ∧ u = S) (fun u t => va_P D vwCl (wd_C a cI cL cB cZ z u) t.heap ∧ va_K D vwCl (mq_tys cI cL cB cZ) t ∧ va_D (va_A (wd_C a cI cL cB cZ z S) sz) (wd_C a cI cL cB cZ z u)) (va_A (wd_C a cI cL cB cZ z S) sz)) 0 0 (va_A (wd_C a cI cL cB cZ z S) sz) := by
  refine Met.ofW (cc := cX4_clusterOf) (maxL := 4) (ret := (some .int)) (by decide) rfl ?_
  intro p e s m args below meth c s₁ B hml hv
  obtain ⟨rfl, hsz, hP, hK, hD0⟩ := hv
  have hr := B.returns
  have hlocks := B.notSynchronized
  have hts := atoms_spec (ws := zc_X4_clusterOf :: mq_T) B.pre
  have hown : s.vm.findClass RX4 = some m.cls := findClass_of_methodNamed B.named
  subst hsz
  have hD := hD0.self (sz := s.heap.size)
  generalize hAe : va_A (wd_C a cI cL cB cZ z S) s.heap.size = A at hD ⊢
  have hA : ∀ q : Nat, s.heap.size ≤ q → A q := fun q h => by rw [← hAe]; exact Or.inr h
  have hl := lv_entry ([.ref (a 46), .int (v1)]) (n := 4) (Nat.le_of_ble_eq_true rfl)
  rw [lg_entry_eq]
  generalize (lg_sl ([.ref (a 46), .int (v1)]) ++ List.replicate (4 - (lg_sl ([.ref (a 46), .int (v1)])).length) Slot.unset).toArray = ls at hl ⊢
  have hl : lv_has ls 4 [(0, .ref (a 46)), (1, .int (v1))] := hl
  refine zw_X4_clusterOf_0 (A := A) ⟨B.exec, B.bytes, hml, hown, hts, hK, hA⟩ (fun H locs ls pc dg hP hD hS => ?_) v1 s.heap [] ls h hl hP hD va_S.rf
  exact W.iret B.exec B.bytes hr (fun t ht hW => ⟨⟨_, _, rfl, ⟨rfl, rfl⟩, by rw [ht]; exact hP, va_K.moved hW.alike hK, hD⟩, hS.F ht⟩) hS.2.2 dg
theorem zt_X4_clusterOf_c : zc_X4_clusterOf ∈ mq_T := mq_T_mem (mq_t5 (List.mem_of_getElem? (i := 126) rfl)) rfl
theorem zt_X4_clusterOf_i : Cond.instanceMethod yX4_clusterOf ∈ mq_T := mq_T_mem (mq_t5 (List.mem_of_getElem? (i := 124) rfl)) rfl
theorem zt_X4_clusterOf_s : Cond.selects RX4 yX4_clusterOf yX4_clusterOf ∈ mq_T := mq_T_mem (mq_t5 (List.mem_of_getElem? (i := 125) rfl)) rfl
set_option maxHeartbeats 4000000 in
theorem zk_X4_clusterOf {p : Program} {l : Launch} {e : Env} {R : Room} {s : State} {m : MethodId} {args : Array Value} {below : List Frame} {meth : Method} {c : Code} {A : Nat → Prop} {D : va_G} {a z : Nat → Nat} {cI cL cB cZ : ClassId} {Q : State → Prop} {cc : ByteArray} {nL idx pc N : Nat} {own : String} {c1 : Cond} {H : Heap} {locs : List Loc} {ls : Array Slot} {rest : List Value} {S : mq_St} {res : Int32} {v1 : Int32} (C : mq_C p s m args c A D cI cL cB cZ cc nL own c1) (hlk : Cond.methodLink own idx yX4_clusterOf ∈ mq_T) (hR : zr_X4_clusterOf.frames + 1 ≤ R.frames ∧ 8 + (4 + 11) + zr_X4_clusterOf.locals ≤ R.locals) (h : zf_X4_clusterOf N z v1 S = some res) (hP : va_P D vwCl (wd_C a cI cL cB cZ z S) H) (hD : va_D A (wd_C a cI cL cB cZ z S)) (hS : va_S A s.heap H locs) (hls : ls.size = nL) (hrest : (rest.map fun v => v.category).sum ≤ 8) (hdg : decode cc pc = .ok (.invokevirtual idx, 3)) (kk : ∀ (H1 : Heap) (locs1 : List Loc), va_P D vwCl (wd_C a cI cL cB cZ z S) H1 → va_D A (wd_C a cI cL cB cZ z S) → va_S A s.heap H1 locs1 → W p l e R s m args below meth c H1 locs1 0 0 Q (F0 m (pc + 3) ls (.int res :: rest))) : W p l e R s m args below meth c H locs 0 0 Q (F0 m pc ls (.int (v1) :: .ref (a 46) :: rest)) := by
  obtain ⟨hx, hb, hml, hown, hts, hK, hA⟩ := C
  have hFc := mq_freeI hD hS hA
  refine va_calli (va_runV (As := [.int (v1)]) (rest := rest) ⟨hx, hb, hml, hown, hts⟩ (zm_X4_clusterOf l D a z cI cL cB cZ H.size N v1 S res h) (cwV 1 hts (mq_goodL (mq_wsV hlk zt_X4_clusterOf_i zt_X4_clusterOf_s zt_ini_X4 zt_X4_clusterOf_c)) rfl rfl rfl (by decide +kernel) hR) ⟨fun a U g mk q => ⟨q.1, q.2.1, q.2.2.1, va_K.moved (u := U) (U := U.calling g mk a) (Vm.Alike.refl U.vm) q.2.2.2.1, q.2.2.2.2⟩, zy_C_46 hK hP, fun U hU hW => ⟨rfl, by rw [hU], by rw [hU]; exact hP, va_K.moved hW.alike hK, hD.weaken (fun _ _ _ _ => trivial)⟩⟩ rfl rfl hls rfl (lv_room hrest) hdg ⟨Nat.zero_le _, Nat.zero_le _⟩) hS (fun q _ h => hFc q h) hFc (fun r u t H1 locs ht hvm hw hB hz1 hk1 hS => ?_)
  obtain ⟨rfl, rfl⟩ := hw
  obtain ⟨hP1, hK1, hD1⟩ := hB
  rw [ht] at hP1
  exact kk H1 locs hP1 (hD1.weaken (fun _ _ _ h => hFc _ h)) hS
/-! ModalDesk$Model.clusterSizeOf(I)I -/
def zr_X4_clusterSizeOf : Room := { frames := 3, cells := 0, slots := 0, locals := 65 }
def zc_X4_clusterSizeOf : Cond := .code yX4_clusterSizeOf cX4_clusterSizeOf 4 (some .int)
def zf_X4_clusterSizeOf_27 (N : Nat) (z : Nat → Nat) (S : mq_St) (k4 : Int32 → Int32 → Int32 → Option (Int32)) (v1 : Int32) (v3 : Int32) (t0 : Int32) (t1 : Int32) : Option (Int32) := (mq_nI ((t0 + t1)) (fun x7 => (mq_nI (v3 + (1 : Int32)) (fun x8 => (k4 (v1) (x7) (x8))))))
def zf_X4_clusterSizeOf_4b (N : Nat) (z : Nat → Nat) (S : mq_St) (k4 : Int32 → Int32 → Int32 → Option (Int32)) (v1 : Int32) (v2 : Int32) (v3 : Int32) : Option (Int32) := (if (S.1 23) ≤ v3 then (some (v2)) else (mq_cp (zf_X4_isMutual N z (v3) (v1) S) (fun q3 => (if q3 = (0 : Int32) then (zf_X4_clusterSizeOf_27 N z S k4 (v1) (v3) (v2) ((0 : Int32))) else (zf_X4_clusterSizeOf_27 N z S k4 (v1) (v3) (v2) ((1 : Int32)))))))
def zf_X4_clusterSizeOf_4 (N : Nat) (z : Nat → Nat) (S : mq_St) : Nat → Int32 → Int32 → Int32 → Option (Int32)
  | 0, _, _, _ => none
  | n + 1, v1, v2, v3 => zf_X4_clusterSizeOf_4b N z S (fun v1 v2 v3 => zf_X4_clusterSizeOf_4 N z S n v1 v2 v3) v1 v2 v3
def zf_X4_clusterSizeOf (N : Nat) (z : Nat → Nat) (v1 : Int32) (S : mq_St) : Option (Int32) := (mq_nI ((0 : Int32)) (fun x1 => (mq_nI ((0 : Int32)) (fun x2 => (zf_X4_clusterSizeOf_4 N z S N (v1) (x1) (x2))))))
set_option maxHeartbeats 4000000 in
set_option maxRecDepth 100000 in
theorem zw_X4_clusterSizeOf_27 {p : Program} {l : Launch} {e : Env} {s : State} {m : MethodId} {args : Array Value} {below : List Frame} {meth : Method} {c : Code} {A : Nat → Prop} {D : va_G} {a z : Nat → Nat} {cI cL cB cZ : ClassId} {Q : State → Prop} {N : Nat} {S : mq_St} {res : Int32} {k4 : Int32 → Int32 → Int32 → Option (Int32)} (C : mq_C p s m args c A D cI cL cB cZ cX4_clusterSizeOf 4 RX4 zc_X4_clusterSizeOf) (hret : ∀ (H : Heap) (locs : List Loc) (ls : Array Slot) (pc : Nat), decode cX4_clusterSizeOf pc = .ok (.ireturn, 1) → va_P D vwCl (wd_C a cI cL cB cZ z S) H → va_D A (wd_C a cI cL cB cZ z S) → va_S A s.heap H locs → W p l e zr_X4_clusterSizeOf s m args below meth c H locs 0 0 Q (F0 m pc ls [.int res])) (hk4 : ∀ (v1 : Int32) (v2 : Int32) (v3 : Int32) (H : Heap) (locs : List Loc) (ls : Array Slot), k4 v1 v2 v3 = some res → lv_has ls 4 [(0, .ref (a 46)), (1, .int (v1)), (2, .int (v2)), (3, .int (v3))] → va_P D vwCl (wd_C a cI cL cB cZ z S) H → va_D A (wd_C a cI cL cB cZ z S) → va_S A s.heap H locs → W p l e zr_X4_clusterSizeOf s m args below meth c H locs 0 0 Q (F0 m 4 ls [])) (v1 : Int32) (v3 : Int32) (t0 : Int32) (t1 : Int32) (H : Heap) (locs : List Loc) (ls : Array Slot) (h : zf_X4_clusterSizeOf_27 N z S k4 v1 v3 t0 t1 = some res) (hl : lv_has ls 4 [(0, .ref (a 46)), (1, .int (v1)), (3, .int (v3))]) (hP : va_P D vwCl (wd_C a cI cL cB cZ z S) H) (hD : va_D A (wd_C a cI cL cB cZ z S)) (hS : va_S A s.heap H locs) : W p l e zr_X4_clusterSizeOf s m args below meth c H locs 0 0 Q (F0 m 27 ls [.int (t1), .int (t0)]) := by
  obtain ⟨hx, hb, hml, hown, hts, hK, hA⟩ := id C
  unfold zf_X4_clusterSizeOf_27 at h
  refine lv_iadd hx hb dX4_clusterSizeOf_27 ?_
  refine lv_topi (fun x7 ex7 => ?_)
  replace h := mq_nI_go ex7 h
  refine lv_istore_n (lv' := [(2, .int (x7)), (0, .ref (a 46)), (1, .int (v1)), (3, .int (v3))]) hx hb dX4_clusterSizeOf_28 rfl hl (by decide) rfl (fun ls hl => ?_)
  obtain ⟨x8, ex8⟩ : ∃ y : Int32, y = v3 + (1 : Int32) := ⟨_, rfl⟩
  replace h := mq_nI_go ex8 h
  refine lv_iinc (v := x8) (lv' := [(3, .int (x8)), (2, .int (x7)), (0, .ref (a 46)), (1, .int (v1))]) hx hb dX4_clusterSizeOf_29 hl (k := 3) rfl (by rw [ex8]; rfl) (by decide) rfl (fun ls hl => ?_)
  refine lv_goto (tgt := 4) hx hb dX4_clusterSizeOf_32 (by decide) ?_
  exact hk4 (v1) (x7) (x8) H locs ls h (lv_sub hl [2, 3, 1, 0] rfl) hP hD hS
set_option maxHeartbeats 4000000 in
set_option maxRecDepth 100000 in
theorem zw_X4_clusterSizeOf_4b {p : Program} {l : Launch} {e : Env} {s : State} {m : MethodId} {args : Array Value} {below : List Frame} {meth : Method} {c : Code} {A : Nat → Prop} {D : va_G} {a z : Nat → Nat} {cI cL cB cZ : ClassId} {Q : State → Prop} {N : Nat} {S : mq_St} {res : Int32} {k4 : Int32 → Int32 → Int32 → Option (Int32)} (C : mq_C p s m args c A D cI cL cB cZ cX4_clusterSizeOf 4 RX4 zc_X4_clusterSizeOf) (hret : ∀ (H : Heap) (locs : List Loc) (ls : Array Slot) (pc : Nat), decode cX4_clusterSizeOf pc = .ok (.ireturn, 1) → va_P D vwCl (wd_C a cI cL cB cZ z S) H → va_D A (wd_C a cI cL cB cZ z S) → va_S A s.heap H locs → W p l e zr_X4_clusterSizeOf s m args below meth c H locs 0 0 Q (F0 m pc ls [.int res])) (hk4 : ∀ (v1 : Int32) (v2 : Int32) (v3 : Int32) (H : Heap) (locs : List Loc) (ls : Array Slot), k4 v1 v2 v3 = some res → lv_has ls 4 [(0, .ref (a 46)), (1, .int (v1)), (2, .int (v2)), (3, .int (v3))] → va_P D vwCl (wd_C a cI cL cB cZ z S) H → va_D A (wd_C a cI cL cB cZ z S) → va_S A s.heap H locs → W p l e zr_X4_clusterSizeOf s m args below meth c H locs 0 0 Q (F0 m 4 ls [])) (v1 : Int32) (v2 : Int32) (v3 : Int32) (H : Heap) (locs : List Loc) (ls : Array Slot) (h : zf_X4_clusterSizeOf_4b N z S k4 v1 v2 v3 = some res) (hl : lv_has ls 4 [(0, .ref (a 46)), (1, .int (v1)), (2, .int (v2)), (3, .int (v3))]) (hP : va_P D vwCl (wd_C a cI cL cB cZ z S) H) (hD : va_D A (wd_C a cI cL cB cZ z S)) (hS : va_S A s.heap H locs) : W p l e zr_X4_clusterSizeOf s m args below meth c H locs 0 0 Q (F0 m 4 ls []) := by
  obtain ⟨hx, hb, hml, hown, hts, hK, hA⟩ := id C
  unfold zf_X4_clusterSizeOf_4b at h
  refine lv_iload_n hx hb dX4_clusterSizeOf_4 rfl (lv_at hl 3 rfl) ?_
  refine lv_aload_n hx hb dX4_clusterSizeOf_5 rfl (lv_at hl 0 rfl) ?_
  refine va_get (D := D) (ci := 4) (v := .int ((S.1 23))) (C := RX4) (T := TX4) (N := 12) hx hb hts (zi_X4 _) hown hK hP 46 rfl rfl 10 (by decide) (hts _ (List.mem_cons_of_mem _ zt_f_X4_41)) (fun _ h9 => h9) rfl dX4_clusterSizeOf_6 ?_
  refine lv_icmp_ge (tgt := 35) hx hb dX4_clusterSizeOf_9 (by decide) (fun c6 => ?_) (fun c6 => ?_)
  · replace h := mq_it c6 h
    refine lv_iload_n hx hb dX4_clusterSizeOf_35 rfl (lv_at hl 2 rfl) ?_
    cases h
    exact hret H locs ls 36 dX4_clusterSizeOf_36 hP hD hS
  · replace h := mq_if c6 h
    refine lv_iload_n hx hb dX4_clusterSizeOf_12 rfl (lv_at hl 2 rfl) ?_
    refine lv_aload_n hx hb dX4_clusterSizeOf_13 rfl (lv_at hl 0 rfl) ?_
    refine lv_iload_n hx hb dX4_clusterSizeOf_14 rfl (lv_at hl 3 rfl) ?_
    refine lv_iload_n hx hb dX4_clusterSizeOf_15 rfl (lv_at hl 1 rfl) ?_
    obtain ⟨q3, hc4, h⟩ := mq_cp_go h
    refine zk_X4_isMutual C zt_m_X4_66 ⟨by decide, by decide⟩ hc4 hP hD hS hl.1 (Nat.le_of_ble_eq_true rfl) dX4_clusterSizeOf_16 (fun H locs hP hD hS => ?_)
    refine lv_if_eq (tgt := 26) hx hb dX4_clusterSizeOf_19 (by decide) (fun c5 => ?_) (fun c5 => ?_)
    · replace h := mq_it c5 h
      refine lv_iconst (v := (0 : Int32)) hx hb dX4_clusterSizeOf_26 (by decide) ?_
      exact zw_X4_clusterSizeOf_27 C hret hk4 (v1) (v3) (v2) ((0 : Int32)) H locs ls h (lv_sub hl [0, 1, 3] rfl) hP hD hS
    · replace h := mq_if c5 h
      refine lv_iconst (v := (1 : Int32)) hx hb dX4_clusterSizeOf_22 (by decide) ?_
      refine lv_goto (tgt := 27) hx hb dX4_clusterSizeOf_23 (by decide) ?_
      exact zw_X4_clusterSizeOf_27 C hret hk4 (v1) (v3) (v2) ((1 : Int32)) H locs ls h (lv_sub hl [0, 1, 3] rfl) hP hD hS
set_option maxHeartbeats 4000000 in
set_option maxRecDepth 100000 in
theorem zw_X4_clusterSizeOf_4 {p : Program} {l : Launch} {e : Env} {s : State} {m : MethodId} {args : Array Value} {below : List Frame} {meth : Method} {c : Code} {A : Nat → Prop} {D : va_G} {a z : Nat → Nat} {cI cL cB cZ : ClassId} {Q : State → Prop} {N : Nat} {S : mq_St} {res : Int32} (C : mq_C p s m args c A D cI cL cB cZ cX4_clusterSizeOf 4 RX4 zc_X4_clusterSizeOf) (hret : ∀ (H : Heap) (locs : List Loc) (ls : Array Slot) (pc : Nat), decode cX4_clusterSizeOf pc = .ok (.ireturn, 1) → va_P D vwCl (wd_C a cI cL cB cZ z S) H → va_D A (wd_C a cI cL cB cZ z S) → va_S A s.heap H locs → W p l e zr_X4_clusterSizeOf s m args below meth c H locs 0 0 Q (F0 m pc ls [.int res])) : ∀ (n : Nat) (v1 : Int32) (v2 : Int32) (v3 : Int32) (H : Heap) (locs : List Loc) (ls : Array Slot) (h : zf_X4_clusterSizeOf_4 N z S n v1 v2 v3 = some res) (hl : lv_has ls 4 [(0, .ref (a 46)), (1, .int (v1)), (2, .int (v2)), (3, .int (v3))]) (hP : va_P D vwCl (wd_C a cI cL cB cZ z S) H) (hD : va_D A (wd_C a cI cL cB cZ z S)) (hS : va_S A s.heap H locs), W p l e zr_X4_clusterSizeOf s m args below meth c H locs 0 0 Q (F0 m 4 ls []) := by
  intro n
  induction n with
  | zero =>
    intro v1 v2 v3 H locs ls h hl hP hD hS
    exact nomatch (show (none : Option (Int32)) = some res from h)
  | succ n ih =>
    intro v1 v2 v3 H locs ls h hl hP hD hS
    exact zw_X4_clusterSizeOf_4b C hret (fun v1 v2 v3 H locs ls h hl hP hD hS => ih v1 v2 v3 H locs ls h hl hP hD hS) v1 v2 v3 H locs ls h hl hP hD hS
set_option maxHeartbeats 4000000 in
set_option maxRecDepth 100000 in
theorem zw_X4_clusterSizeOf_0 {p : Program} {l : Launch} {e : Env} {s : State} {m : MethodId} {args : Array Value} {below : List Frame} {meth : Method} {c : Code} {A : Nat → Prop} {D : va_G} {a z : Nat → Nat} {cI cL cB cZ : ClassId} {Q : State → Prop} {N : Nat} {S : mq_St} {res : Int32} (C : mq_C p s m args c A D cI cL cB cZ cX4_clusterSizeOf 4 RX4 zc_X4_clusterSizeOf) (hret : ∀ (H : Heap) (locs : List Loc) (ls : Array Slot) (pc : Nat), decode cX4_clusterSizeOf pc = .ok (.ireturn, 1) → va_P D vwCl (wd_C a cI cL cB cZ z S) H → va_D A (wd_C a cI cL cB cZ z S) → va_S A s.heap H locs → W p l e zr_X4_clusterSizeOf s m args below meth c H locs 0 0 Q (F0 m pc ls [.int res])) (v1 : Int32) (H : Heap) (locs : List Loc) (ls : Array Slot) (h : zf_X4_clusterSizeOf N z v1 S = some res) (hl : lv_has ls 4 [(0, .ref (a 46)), (1, .int (v1))]) (hP : va_P D vwCl (wd_C a cI cL cB cZ z S) H) (hD : va_D A (wd_C a cI cL cB cZ z S)) (hS : va_S A s.heap H locs) : W p l e zr_X4_clusterSizeOf s m args below meth c H locs 0 0 Q (F0 m 0 ls []) := by
  obtain ⟨hx, hb, hml, hown, hts, hK, hA⟩ := id C
  unfold zf_X4_clusterSizeOf at h
  refine lv_iconst (v := (0 : Int32)) hx hb dX4_clusterSizeOf_0 (by decide) ?_
  refine lv_topi (fun x1 ex1 => ?_)
  replace h := mq_nI_go ex1 h
  refine lv_istore_n (lv' := [(2, .int (x1)), (0, .ref (a 46)), (1, .int (v1))]) hx hb dX4_clusterSizeOf_1 rfl hl (by decide) rfl (fun ls hl => ?_)
  refine lv_iconst (v := (0 : Int32)) hx hb dX4_clusterSizeOf_2 (by decide) ?_
  refine lv_topi (fun x2 ex2 => ?_)
  replace h := mq_nI_go ex2 h
  refine lv_istore_n (lv' := [(3, .int (x2)), (2, .int (x1)), (0, .ref (a 46)), (1, .int (v1))]) hx hb dX4_clusterSizeOf_3 rfl hl (by decide) rfl (fun ls hl => ?_)
  exact zw_X4_clusterSizeOf_4 C hret N (v1) (x1) (x2) H locs ls h (lv_sub hl [2, 3, 1, 0] rfl) hP hD hS
set_option maxHeartbeats 4000000 in
set_option maxRecDepth 100000 in
theorem zm_X4_clusterSizeOf (l : Launch) (D : va_G) (a z : Nat → Nat) (cI cL cB cZ : ClassId) (sz N : Nat) (v1 : Int32) (S : mq_St) (res : Int32) (h : zf_X4_clusterSizeOf N z v1 S = some res) : Met l yX4_clusterSizeOf (zc_X4_clusterSizeOf :: mq_T) zr_X4_clusterSizeOf (va_Pc [.ref (a 46), .int (v1)] (fun U => U.heap.size = sz ∧ va_P D vwCl (wd_C a cI cL cB cZ z S) U.heap ∧ va_K D vwCl (mq_tys cI cL cB cZ) U ∧ va_D (fun _ => True) (wd_C a cI cL cB cZ z S))) (va_Qi (fun (r : Int32) (u : mq_St) => r = res ∧ u = S) (fun u t => va_P D vwCl (wd_C a cI cL cB cZ z u) t.heap ∧ va_K D vwCl (mq_tys cI cL cB cZ) t ∧ va_D (va_A (wd_C a cI cL cB cZ z S) sz) (wd_C a cI cL cB cZ z u)) (va_A (wd_C a cI cL cB cZ z S) sz)) 0 0 (va_A (wd_C a cI cL cB cZ z S) sz) := by
  refine Met.ofW (cc := cX4_clusterSizeOf) (maxL := 4) (ret := (some .int)) (by decide) rfl ?_
  intro p e s m args below meth c s₁ B hml hv
  obtain ⟨rfl, hsz, hP, hK, hD0⟩ := hv
  have hr := B.returns
  have hlocks := B.notSynchronized
  have hts := atoms_spec (ws := zc_X4_clusterSizeOf :: mq_T) B.pre
  have hown : s.vm.findClass RX4 = some m.cls := findClass_of_methodNamed B.named
  subst hsz
  have hD := hD0.self (sz := s.heap.size)
  generalize hAe : va_A (wd_C a cI cL cB cZ z S) s.heap.size = A at hD ⊢
  have hA : ∀ q : Nat, s.heap.size ≤ q → A q := fun q h => by rw [← hAe]; exact Or.inr h
  have hl := lv_entry ([.ref (a 46), .int (v1)]) (n := 4) (Nat.le_of_ble_eq_true rfl)
  rw [lg_entry_eq]
  generalize (lg_sl ([.ref (a 46), .int (v1)]) ++ List.replicate (4 - (lg_sl ([.ref (a 46), .int (v1)])).length) Slot.unset).toArray = ls at hl ⊢
  have hl : lv_has ls 4 [(0, .ref (a 46)), (1, .int (v1))] := hl
  refine zw_X4_clusterSizeOf_0 (A := A) ⟨B.exec, B.bytes, hml, hown, hts, hK, hA⟩ (fun H locs ls pc dg hP hD hS => ?_) v1 s.heap [] ls h hl hP hD va_S.rf
  exact W.iret B.exec B.bytes hr (fun t ht hW => ⟨⟨_, _, rfl, ⟨rfl, rfl⟩, by rw [ht]; exact hP, va_K.moved hW.alike hK, hD⟩, hS.F ht⟩) hS.2.2 dg
theorem zt_X4_clusterSizeOf_c : zc_X4_clusterSizeOf ∈ mq_T := mq_T_mem (mq_t5 (List.mem_of_getElem? (i := 138) rfl)) rfl
theorem zt_X4_clusterSizeOf_i : Cond.instanceMethod yX4_clusterSizeOf ∈ mq_T := mq_T_mem (mq_t5 (List.mem_of_getElem? (i := 136) rfl)) rfl
theorem zt_X4_clusterSizeOf_s : Cond.selects RX4 yX4_clusterSizeOf yX4_clusterSizeOf ∈ mq_T := mq_T_mem (mq_t5 (List.mem_of_getElem? (i := 137) rfl)) rfl
set_option maxHeartbeats 4000000 in
theorem zk_X4_clusterSizeOf {p : Program} {l : Launch} {e : Env} {R : Room} {s : State} {m : MethodId} {args : Array Value} {below : List Frame} {meth : Method} {c : Code} {A : Nat → Prop} {D : va_G} {a z : Nat → Nat} {cI cL cB cZ : ClassId} {Q : State → Prop} {cc : ByteArray} {nL idx pc N : Nat} {own : String} {c1 : Cond} {H : Heap} {locs : List Loc} {ls : Array Slot} {rest : List Value} {S : mq_St} {res : Int32} {v1 : Int32} (C : mq_C p s m args c A D cI cL cB cZ cc nL own c1) (hlk : Cond.methodLink own idx yX4_clusterSizeOf ∈ mq_T) (hR : zr_X4_clusterSizeOf.frames + 1 ≤ R.frames ∧ 8 + (4 + 11) + zr_X4_clusterSizeOf.locals ≤ R.locals) (h : zf_X4_clusterSizeOf N z v1 S = some res) (hP : va_P D vwCl (wd_C a cI cL cB cZ z S) H) (hD : va_D A (wd_C a cI cL cB cZ z S)) (hS : va_S A s.heap H locs) (hls : ls.size = nL) (hrest : (rest.map fun v => v.category).sum ≤ 8) (hdg : decode cc pc = .ok (.invokevirtual idx, 3)) (kk : ∀ (H1 : Heap) (locs1 : List Loc), va_P D vwCl (wd_C a cI cL cB cZ z S) H1 → va_D A (wd_C a cI cL cB cZ z S) → va_S A s.heap H1 locs1 → W p l e R s m args below meth c H1 locs1 0 0 Q (F0 m (pc + 3) ls (.int res :: rest))) : W p l e R s m args below meth c H locs 0 0 Q (F0 m pc ls (.int (v1) :: .ref (a 46) :: rest)) := by
  obtain ⟨hx, hb, hml, hown, hts, hK, hA⟩ := C
  have hFc := mq_freeI hD hS hA
  refine va_calli (va_runV (As := [.int (v1)]) (rest := rest) ⟨hx, hb, hml, hown, hts⟩ (zm_X4_clusterSizeOf l D a z cI cL cB cZ H.size N v1 S res h) (cwV 1 hts (mq_goodL (mq_wsV hlk zt_X4_clusterSizeOf_i zt_X4_clusterSizeOf_s zt_ini_X4 zt_X4_clusterSizeOf_c)) rfl rfl rfl (by decide +kernel) hR) ⟨fun a U g mk q => ⟨q.1, q.2.1, q.2.2.1, va_K.moved (u := U) (U := U.calling g mk a) (Vm.Alike.refl U.vm) q.2.2.2.1, q.2.2.2.2⟩, zy_C_46 hK hP, fun U hU hW => ⟨rfl, by rw [hU], by rw [hU]; exact hP, va_K.moved hW.alike hK, hD.weaken (fun _ _ _ _ => trivial)⟩⟩ rfl rfl hls rfl (lv_room hrest) hdg ⟨Nat.zero_le _, Nat.zero_le _⟩) hS (fun q _ h => hFc q h) hFc (fun r u t H1 locs ht hvm hw hB hz1 hk1 hS => ?_)
  obtain ⟨rfl, rfl⟩ := hw
  obtain ⟨hP1, hK1, hD1⟩ := hB
  rw [ht] at hP1
  exact kk H1 locs hP1 (hD1.weaken (fun _ _ _ h => hFc _ h)) hS
theorem zt_f_X4_25 : Cond.fieldLink RX4 25 "ModalDesk$Model" "becomes" "[I" ∈ mq_T := mq_T_mem (mq_t2 (List.mem_of_getElem? (i := 69) rfl)) rfl
/-! ModalDesk$Model.moved(J)J -/
def zr_X4_moved : Room := { frames := 0, cells := 0, slots := 0, locals := 0 }
def zc_X4_moved : Cond := .code yX4_moved cX4_moved 6 (some .long)
def zf_X4_moved_48 (N : Nat) (z : Nat → Nat) (S : mq_St) (k5 : Int64 → Int64 → Int32 → Option (Int64)) (v1 : Int64) (v3 : Int64) (v5 : Int32) : Option (Int64) := (mq_nI (v5 + (1 : Int32)) (fun x9 => (k5 (v1) (v3) (x9))))
def zf_X4_moved_5b (N : Nat) (z : Nat → Nat) (S : mq_St) (k5 : Int64 → Int64 → Int32 → Option (Int64)) (v1 : Int64) (v3 : Int64) (v5 : Int32) : Option (Int64) := (if (S.1 23) ≤ v5 then (some (v3)) else (if (lg_cmp ((mq_lushr v1 v5) &&& (1 : Int64)) (0 : Int64)) = (0 : Int32) then (zf_X4_moved_48 N z S k5 (v1) (v3) (v5)) else (mq_ck (v5) 60 (if (S.2.1 26 (v5).toNatClampNeg) = (-1 : Int32) then (zf_X4_moved_48 N z S k5 (v1) (v3) (v5)) else (mq_ck (v5) 60 (mq_nL ((v3 ||| (mq_lshl (1 : Int64) (S.2.1 26 (v5).toNatClampNeg)))) (fun x5 => (zf_X4_moved_48 N z S k5 (v1) (x5) (v5)))))))))
def zf_X4_moved_5 (N : Nat) (z : Nat → Nat) (S : mq_St) : Nat → Int64 → Int64 → Int32 → Option (Int64)
  | 0, _, _, _ => none
  | n + 1, v1, v3, v5 => zf_X4_moved_5b N z S (fun v1 v3 v5 => zf_X4_moved_5 N z S n v1 v3 v5) v1 v3 v5
def zf_X4_moved (N : Nat) (z : Nat → Nat) (v1 : Int64) (S : mq_St) : Option (Int64) := (mq_nL ((0 : Int64)) (fun x1 => (mq_nI ((0 : Int32)) (fun x2 => (zf_X4_moved_5 N z S N (v1) (x1) (x2))))))
set_option maxHeartbeats 4000000 in
set_option maxRecDepth 100000 in
theorem zw_X4_moved_48 {p : Program} {l : Launch} {e : Env} {s : State} {m : MethodId} {args : Array Value} {below : List Frame} {meth : Method} {c : Code} {A : Nat → Prop} {D : va_G} {a z : Nat → Nat} {cI cL cB cZ : ClassId} {Q : State → Prop} {N : Nat} {S : mq_St} {res : Int64} {k5 : Int64 → Int64 → Int32 → Option (Int64)} (C : mq_C p s m args c A D cI cL cB cZ cX4_moved 6 RX4 zc_X4_moved) (hret : ∀ (H : Heap) (locs : List Loc) (ls : Array Slot) (pc : Nat), decode cX4_moved pc = .ok (.lreturn, 1) → va_P D vwCl (wd_C a cI cL cB cZ z S) H → va_D A (wd_C a cI cL cB cZ z S) → va_S A s.heap H locs → W p l e zr_X4_moved s m args below meth c H locs 0 0 Q (F0 m pc ls [.long res])) (hk5 : ∀ (v1 : Int64) (v3 : Int64) (v5 : Int32) (H : Heap) (locs : List Loc) (ls : Array Slot), k5 v1 v3 v5 = some res → lv_has ls 6 [(0, .ref (a 46)), (1, .long (v1)), (3, .long (v3)), (5, .int (v5))] → va_P D vwCl (wd_C a cI cL cB cZ z S) H → va_D A (wd_C a cI cL cB cZ z S) → va_S A s.heap H locs → W p l e zr_X4_moved s m args below meth c H locs 0 0 Q (F0 m 5 ls [])) (v1 : Int64) (v3 : Int64) (v5 : Int32) (H : Heap) (locs : List Loc) (ls : Array Slot) (h : zf_X4_moved_48 N z S k5 v1 v3 v5 = some res) (hl : lv_has ls 6 [(0, .ref (a 46)), (1, .long (v1)), (3, .long (v3)), (5, .int (v5))]) (hP : va_P D vwCl (wd_C a cI cL cB cZ z S) H) (hD : va_D A (wd_C a cI cL cB cZ z S)) (hS : va_S A s.heap H locs) : W p l e zr_X4_moved s m args below meth c H locs 0 0 Q (F0 m 48 ls []) := by
  obtain ⟨hx, hb, hml, hown, hts, hK, hA⟩ := id C
  unfold zf_X4_moved_48 at h
  obtain ⟨x9, ex9⟩ : ∃ y : Int32, y = v5 + (1 : Int32) := ⟨_, rfl⟩
  replace h := mq_nI_go ex9 h
  refine lv_iinc (v := x9) (lv' := [(5, .int (x9)), (0, .ref (a 46)), (1, .long (v1)), (3, .long (v3))]) hx hb dX4_moved_48 hl (k := 3) rfl (by rw [ex9]; rfl) (by decide) rfl (fun ls hl => ?_)
  refine lv_goto (tgt := 5) hx hb dX4_moved_51 (by decide) ?_
  exact hk5 (v1) (v3) (x9) H locs ls h (lv_sub hl [1, 2, 3, 0] rfl) hP hD hS
set_option maxHeartbeats 4000000 in
set_option maxRecDepth 100000 in
theorem zw_X4_moved_5b {p : Program} {l : Launch} {e : Env} {s : State} {m : MethodId} {args : Array Value} {below : List Frame} {meth : Method} {c : Code} {A : Nat → Prop} {D : va_G} {a z : Nat → Nat} {cI cL cB cZ : ClassId} {Q : State → Prop} {N : Nat} {S : mq_St} {res : Int64} {k5 : Int64 → Int64 → Int32 → Option (Int64)} (C : mq_C p s m args c A D cI cL cB cZ cX4_moved 6 RX4 zc_X4_moved) (hret : ∀ (H : Heap) (locs : List Loc) (ls : Array Slot) (pc : Nat), decode cX4_moved pc = .ok (.lreturn, 1) → va_P D vwCl (wd_C a cI cL cB cZ z S) H → va_D A (wd_C a cI cL cB cZ z S) → va_S A s.heap H locs → W p l e zr_X4_moved s m args below meth c H locs 0 0 Q (F0 m pc ls [.long res])) (hk5 : ∀ (v1 : Int64) (v3 : Int64) (v5 : Int32) (H : Heap) (locs : List Loc) (ls : Array Slot), k5 v1 v3 v5 = some res → lv_has ls 6 [(0, .ref (a 46)), (1, .long (v1)), (3, .long (v3)), (5, .int (v5))] → va_P D vwCl (wd_C a cI cL cB cZ z S) H → va_D A (wd_C a cI cL cB cZ z S) → va_S A s.heap H locs → W p l e zr_X4_moved s m args below meth c H locs 0 0 Q (F0 m 5 ls [])) (v1 : Int64) (v3 : Int64) (v5 : Int32) (H : Heap) (locs : List Loc) (ls : Array Slot) (h : zf_X4_moved_5b N z S k5 v1 v3 v5 = some res) (hl : lv_has ls 6 [(0, .ref (a 46)), (1, .long (v1)), (3, .long (v3)), (5, .int (v5))]) (hP : va_P D vwCl (wd_C a cI cL cB cZ z S) H) (hD : va_D A (wd_C a cI cL cB cZ z S)) (hS : va_S A s.heap H locs) : W p l e zr_X4_moved s m args below meth c H locs 0 0 Q (F0 m 5 ls []) := by
  obtain ⟨hx, hb, hml, hown, hts, hK, hA⟩ := id C
  unfold zf_X4_moved_5b at h
  refine lv_iload hx hb dX4_moved_5 (lv_at hl 3 rfl) ?_
  refine lv_aload_n hx hb dX4_moved_7 rfl (lv_at hl 0 rfl) ?_
  refine va_get (D := D) (ci := 4) (v := .int ((S.1 23))) (C := RX4) (T := TX4) (N := 12) hx hb hts (zi_X4 _) hown hK hP 46 rfl rfl 10 (by decide) (hts _ (List.mem_cons_of_mem _ zt_f_X4_41)) (fun _ h9 => h9) rfl dX4_moved_8 ?_
  refine lv_icmp_ge (tgt := 54) hx hb dX4_moved_11 (by decide) (fun c8 => ?_) (fun c8 => ?_)
  · replace h := mq_it c8 h
    refine lv_lload_n hx hb dX4_moved_54 rfl (lv_at hl 2 rfl) ?_
    cases h
    exact hret H locs ls 55 dX4_moved_55 hP hD hS
  · replace h := mq_if c8 h
    refine lv_lload_n hx hb dX4_moved_14 rfl (lv_at hl 1 rfl) ?_
    refine lv_iload hx hb dX4_moved_15 (lv_at hl 3 rfl) ?_
    refine lv_lushr (v := (mq_lushr v1 v5)) hx hb dX4_moved_17 rfl ?_
    refine lv_lconst (v := 1) hx hb dX4_moved_18 (by decide) ?_
    refine lv_land hx hb dX4_moved_19 ?_
    refine lv_lconst (v := 0) hx hb dX4_moved_20 (by decide) ?_
    refine W.lcmp hx hb dX4_moved_21 ?_
    refine lv_if_eq (tgt := 48) hx hb dX4_moved_22 (by decide) (fun c7 => ?_) (fun c7 => ?_)
    · replace h := mq_it c7 h
      exact zw_X4_moved_48 C hret hk5 (v1) (v3) (v5) H locs ls h (lv_sub hl [0, 1, 2, 3] rfl) hP hD hS
    · replace h := mq_if c7 h
      refine lv_aload_n hx hb dX4_moved_25 rfl (lv_at hl 0 rfl) ?_
      refine va_get (D := D) (ci := 4) (v := .ref (a 51)) (C := RX4) (T := TX4) (N := 12) hx hb hts (zi_X4 _) hown hK hP 46 rfl rfl 5 (by decide) (hts _ (List.mem_cons_of_mem _ zt_f_X4_25)) (fun _ h9 => h9) rfl dX4_moved_26 ?_
      refine lv_iload hx hb dX4_moved_29 (lv_at hl 3 rfl) ?_
      have hi3 := mq_ck_in h
      replace h := mq_ck_go h
      refine va_iald (f := S.2.1 26) hx hb hK hP 51 0 rfl rfl hi3 dX4_moved_31 ?_
      refine lv_iconst (v := (-1 : Int32)) hx hb dX4_moved_32 (by decide) ?_
      refine lv_icmp_eq (tgt := 48) hx hb dX4_moved_33 (by decide) (fun c6 => ?_) (fun c6 => ?_)
      · replace h := mq_it c6 h
        exact zw_X4_moved_48 C hret hk5 (v1) (v3) (v5) H locs ls h (lv_sub hl [0, 1, 2, 3] rfl) hP hD hS
      · replace h := mq_if c6 h
        refine lv_lload_n hx hb dX4_moved_36 rfl (lv_at hl 2 rfl) ?_
        refine lv_lconst (v := 1) hx hb dX4_moved_37 (by decide) ?_
        refine lv_aload_n hx hb dX4_moved_38 rfl (lv_at hl 0 rfl) ?_
        refine va_get (D := D) (ci := 4) (v := .ref (a 51)) (C := RX4) (T := TX4) (N := 12) hx hb hts (zi_X4 _) hown hK hP 46 rfl rfl 5 (by decide) (hts _ (List.mem_cons_of_mem _ zt_f_X4_25)) (fun _ h9 => h9) rfl dX4_moved_39 ?_
        refine lv_iload hx hb dX4_moved_42 (lv_at hl 3 rfl) ?_
        have hi4 := mq_ck_in h
        replace h := mq_ck_go h
        refine va_iald (f := S.2.1 26) hx hb hK hP 51 0 rfl rfl hi4 dX4_moved_44 ?_
        refine lv_lshl (v := (mq_lshl (1 : Int64) (S.2.1 26 (v5).toNatClampNeg))) hx hb dX4_moved_45 rfl ?_
        refine lv_lor hx hb dX4_moved_46 ?_
        refine lv_topl (fun x5 ex5 => ?_)
        replace h := mq_nL_go ex5 h
        refine lv_lstore_n (lv' := [(3, .long (x5)), (0, .ref (a 46)), (1, .long (v1)), (5, .int (v5))]) hx hb dX4_moved_47 rfl hl (by decide) rfl (fun ls hl => ?_)
        exact zw_X4_moved_48 C hret hk5 (v1) (x5) (v5) H locs ls h (lv_sub hl [1, 2, 0, 3] rfl) hP hD hS
set_option maxHeartbeats 4000000 in
set_option maxRecDepth 100000 in
theorem zw_X4_moved_5 {p : Program} {l : Launch} {e : Env} {s : State} {m : MethodId} {args : Array Value} {below : List Frame} {meth : Method} {c : Code} {A : Nat → Prop} {D : va_G} {a z : Nat → Nat} {cI cL cB cZ : ClassId} {Q : State → Prop} {N : Nat} {S : mq_St} {res : Int64} (C : mq_C p s m args c A D cI cL cB cZ cX4_moved 6 RX4 zc_X4_moved) (hret : ∀ (H : Heap) (locs : List Loc) (ls : Array Slot) (pc : Nat), decode cX4_moved pc = .ok (.lreturn, 1) → va_P D vwCl (wd_C a cI cL cB cZ z S) H → va_D A (wd_C a cI cL cB cZ z S) → va_S A s.heap H locs → W p l e zr_X4_moved s m args below meth c H locs 0 0 Q (F0 m pc ls [.long res])) : ∀ (n : Nat) (v1 : Int64) (v3 : Int64) (v5 : Int32) (H : Heap) (locs : List Loc) (ls : Array Slot) (h : zf_X4_moved_5 N z S n v1 v3 v5 = some res) (hl : lv_has ls 6 [(0, .ref (a 46)), (1, .long (v1)), (3, .long (v3)), (5, .int (v5))]) (hP : va_P D vwCl (wd_C a cI cL cB cZ z S) H) (hD : va_D A (wd_C a cI cL cB cZ z S)) (hS : va_S A s.heap H locs), W p l e zr_X4_moved s m args below meth c H locs 0 0 Q (F0 m 5 ls []) := by
  intro n
  induction n with
  | zero =>
    intro v1 v3 v5 H locs ls h hl hP hD hS
    exact nomatch (show (none : Option (Int64)) = some res from h)
  | succ n ih =>
    intro v1 v3 v5 H locs ls h hl hP hD hS
    exact zw_X4_moved_5b C hret (fun v1 v3 v5 H locs ls h hl hP hD hS => ih v1 v3 v5 H locs ls h hl hP hD hS) v1 v3 v5 H locs ls h hl hP hD hS
set_option maxHeartbeats 4000000 in
set_option maxRecDepth 100000 in
theorem zw_X4_moved_0 {p : Program} {l : Launch} {e : Env} {s : State} {m : MethodId} {args : Array Value} {below : List Frame} {meth : Method} {c : Code} {A : Nat → Prop} {D : va_G} {a z : Nat → Nat} {cI cL cB cZ : ClassId} {Q : State → Prop} {N : Nat} {S : mq_St} {res : Int64} (C : mq_C p s m args c A D cI cL cB cZ cX4_moved 6 RX4 zc_X4_moved) (hret : ∀ (H : Heap) (locs : List Loc) (ls : Array Slot) (pc : Nat), decode cX4_moved pc = .ok (.lreturn, 1) → va_P D vwCl (wd_C a cI cL cB cZ z S) H → va_D A (wd_C a cI cL cB cZ z S) → va_S A s.heap H locs → W p l e zr_X4_moved s m args below meth c H locs 0 0 Q (F0 m pc ls [.long res])) (v1 : Int64) (H : Heap) (locs : List Loc) (ls : Array Slot) (h : zf_X4_moved N z v1 S = some res) (hl : lv_has ls 6 [(0, .ref (a 46)), (1, .long (v1))]) (hP : va_P D vwCl (wd_C a cI cL cB cZ z S) H) (hD : va_D A (wd_C a cI cL cB cZ z S)) (hS : va_S A s.heap H locs) : W p l e zr_X4_moved s m args below meth c H locs 0 0 Q (F0 m 0 ls []) := by
  obtain ⟨hx, hb, hml, hown, hts, hK, hA⟩ := id C
  unfold zf_X4_moved at h
  refine lv_lconst (v := 0) hx hb dX4_moved_0 (by decide) ?_
  refine lv_topl (fun x1 ex1 => ?_)
  replace h := mq_nL_go ex1 h
  refine lv_lstore_n (lv' := [(3, .long (x1)), (0, .ref (a 46)), (1, .long (v1))]) hx hb dX4_moved_1 rfl hl (by decide) rfl (fun ls hl => ?_)
  refine lv_iconst (v := (0 : Int32)) hx hb dX4_moved_2 (by decide) ?_
  refine lv_topi (fun x2 ex2 => ?_)
  replace h := mq_nI_go ex2 h
  refine lv_istore (lv' := [(5, .int (x2)), (3, .long (x1)), (0, .ref (a 46)), (1, .long (v1))]) hx hb dX4_moved_3 hl (by decide) rfl (fun ls hl => ?_)
  exact zw_X4_moved_5 C hret N (v1) (x1) (x2) H locs ls h (lv_sub hl [2, 3, 1, 0] rfl) hP hD hS
set_option maxHeartbeats 4000000 in
set_option maxRecDepth 100000 in
theorem zm_X4_moved (l : Launch) (D : va_G) (a z : Nat → Nat) (cI cL cB cZ : ClassId) (sz N : Nat) (v1 : Int64) (S : mq_St) (res : Int64) (h : zf_X4_moved N z v1 S = some res) : Met l yX4_moved (zc_X4_moved :: mq_T) zr_X4_moved (va_Pc [.ref (a 46), .long (v1)] (fun U => U.heap.size = sz ∧ va_P D vwCl (wd_C a cI cL cB cZ z S) U.heap ∧ va_K D vwCl (mq_tys cI cL cB cZ) U ∧ va_D (fun _ => True) (wd_C a cI cL cB cZ z S))) (va_Ql (fun (r : Int64) (u : mq_St) => r = res ∧ u = S) (fun u t => va_P D vwCl (wd_C a cI cL cB cZ z u) t.heap ∧ va_K D vwCl (mq_tys cI cL cB cZ) t ∧ va_D (va_A (wd_C a cI cL cB cZ z S) sz) (wd_C a cI cL cB cZ z u)) (va_A (wd_C a cI cL cB cZ z S) sz)) 0 0 (va_A (wd_C a cI cL cB cZ z S) sz) := by
  refine Met.ofW (cc := cX4_moved) (maxL := 6) (ret := (some .long)) (by decide) rfl ?_
  intro p e s m args below meth c s₁ B hml hv
  obtain ⟨rfl, hsz, hP, hK, hD0⟩ := hv
  have hr := B.returns
  have hlocks := B.notSynchronized
  have hts := atoms_spec (ws := zc_X4_moved :: mq_T) B.pre
  have hown : s.vm.findClass RX4 = some m.cls := findClass_of_methodNamed B.named
  subst hsz
  have hD := hD0.self (sz := s.heap.size)
  generalize hAe : va_A (wd_C a cI cL cB cZ z S) s.heap.size = A at hD ⊢
  have hA : ∀ q : Nat, s.heap.size ≤ q → A q := fun q h => by rw [← hAe]; exact Or.inr h
  have hl := lv_entry ([.ref (a 46), .long (v1)]) (n := 6) (Nat.le_of_ble_eq_true rfl)
  rw [lg_entry_eq]
  generalize (lg_sl ([.ref (a 46), .long (v1)]) ++ List.replicate (6 - (lg_sl ([.ref (a 46), .long (v1)])).length) Slot.unset).toArray = ls at hl ⊢
  have hl : lv_has ls 6 [(0, .ref (a 46)), (1, .long (v1))] := hl
  refine zw_X4_moved_0 (A := A) ⟨B.exec, B.bytes, hml, hown, hts, hK, hA⟩ (fun H locs ls pc dg hP hD hS => ?_) v1 s.heap [] ls h hl hP hD va_S.rf
  exact W.lret B.exec B.bytes hr (fun t ht hW => ⟨⟨_, _, rfl, ⟨rfl, rfl⟩, by rw [ht]; exact hP, va_K.moved hW.alike hK, hD⟩, hS.F ht⟩) hS.2.2 dg
theorem zt_X4_moved_c : zc_X4_moved ∈ mq_T := mq_T_mem (mq_t5 (List.mem_of_getElem? (i := 2) rfl)) rfl
theorem zt_X4_moved_i : Cond.instanceMethod yX4_moved ∈ mq_T := mq_T_mem (mq_t5 (List.mem_of_getElem? (i := 1) rfl)) rfl
theorem zt_X4_moved_s : Cond.selects RX4 yX4_moved yX4_moved ∈ mq_T := mq_T_at 56 (by decide +kernel)
set_option maxHeartbeats 4000000 in
theorem zk_X4_moved {p : Program} {l : Launch} {e : Env} {R : Room} {s : State} {m : MethodId} {args : Array Value} {below : List Frame} {meth : Method} {c : Code} {A : Nat → Prop} {D : va_G} {a z : Nat → Nat} {cI cL cB cZ : ClassId} {Q : State → Prop} {cc : ByteArray} {nL idx pc N : Nat} {own : String} {c1 : Cond} {H : Heap} {locs : List Loc} {ls : Array Slot} {rest : List Value} {S : mq_St} {res : Int64} {v1 : Int64} (C : mq_C p s m args c A D cI cL cB cZ cc nL own c1) (hlk : Cond.methodLink own idx yX4_moved ∈ mq_T) (hR : zr_X4_moved.frames + 1 ≤ R.frames ∧ 8 + (6 + 11) + zr_X4_moved.locals ≤ R.locals) (h : zf_X4_moved N z v1 S = some res) (hP : va_P D vwCl (wd_C a cI cL cB cZ z S) H) (hD : va_D A (wd_C a cI cL cB cZ z S)) (hS : va_S A s.heap H locs) (hls : ls.size = nL) (hrest : (rest.map fun v => v.category).sum ≤ 8) (hdg : decode cc pc = .ok (.invokevirtual idx, 3)) (kk : ∀ (H1 : Heap) (locs1 : List Loc), va_P D vwCl (wd_C a cI cL cB cZ z S) H1 → va_D A (wd_C a cI cL cB cZ z S) → va_S A s.heap H1 locs1 → W p l e R s m args below meth c H1 locs1 0 0 Q (F0 m (pc + 3) ls (.long res :: rest))) : W p l e R s m args below meth c H locs 0 0 Q (F0 m pc ls (.long (v1) :: .ref (a 46) :: rest)) := by
  obtain ⟨hx, hb, hml, hown, hts, hK, hA⟩ := C
  have hFc := mq_freeI hD hS hA
  refine va_calll (va_runV (As := [.long (v1)]) (rest := rest) ⟨hx, hb, hml, hown, hts⟩ (zm_X4_moved l D a z cI cL cB cZ H.size N v1 S res h) (cwV 1 hts (mq_goodL (mq_wsV hlk zt_X4_moved_i zt_X4_moved_s zt_ini_X4 zt_X4_moved_c)) rfl rfl rfl (by decide +kernel) hR) ⟨fun a U g mk q => ⟨q.1, q.2.1, q.2.2.1, va_K.moved (u := U) (U := U.calling g mk a) (Vm.Alike.refl U.vm) q.2.2.2.1, q.2.2.2.2⟩, zy_C_46 hK hP, fun U hU hW => ⟨rfl, by rw [hU], by rw [hU]; exact hP, va_K.moved hW.alike hK, hD.weaken (fun _ _ _ _ => trivial)⟩⟩ rfl rfl hls rfl (lv_room hrest) hdg ⟨Nat.zero_le _, Nat.zero_le _⟩) hS (fun q _ h => hFc q h) hFc (fun r u t H1 locs ht hvm hw hB hz1 hk1 hS => ?_)
  obtain ⟨rfl, rfl⟩ := hw
  obtain ⟨hP1, hK1, hD1⟩ := hB
  rw [ht] at hP1
  exact kk H1 locs hP1 (hD1.weaken (fun _ _ _ h => hFc _ h)) hS
theorem zt_f_X4_31 : Cond.fieldLink RX4 31 "ModalDesk$Model" "signs" "[J" ∈ mq_T := mq_T_mem (mq_t2 (List.mem_of_getElem? (i := 71) rfl)) rfl
theorem zt_m_X4_83 : Cond.methodLink RX4 83 yX4_moved ∈ mq_T := mq_T_mem (mq_t4 (List.mem_of_getElem? (i := 239) rfl)) rfl
theorem zs_wd_C_l_53_8 (a z : Nat → Nat) (cI cL cB cZ : ClassId) (S : mq_St) (f : Nat → Int64) : (wd_C a cI cL cB cZ z S).set 53 (a 53, .inl (cL, 60, .inr (.inl f))) = (wd_C a cI cL cB cZ z (mq_sl S 8 f)) := rfl
theorem zt_f_X4_19 : Cond.fieldLink RX4 19 "ModalDesk$Model" "oldLetters" "[I" ∈ mq_T := mq_T_mem (mq_t2 (List.mem_of_getElem? (i := 67) rfl)) rfl
theorem zs_wd_C_a_49_24 (a z : Nat → Nat) (cI cL cB cZ : ClassId) (S : mq_St) (f : Nat → Int32) : (wd_C a cI cL cB cZ z S).set 49 (a 49, .inl (cI, 60, .inl f)) = (wd_C a cI cL cB cZ z (mq_sa S 24 f)) := rfl
theorem zt_f_X4_28 : Cond.fieldLink RX4 28 "ModalDesk$Model" "origins" "[I" ∈ mq_T := mq_T_mem (mq_t2 (List.mem_of_getElem? (i := 70) rfl)) rfl
theorem zs_wd_C_a_52_27 (a z : Nat → Nat) (cI cL cB cZ : ClassId) (S : mq_St) (f : Nat → Int32) : (wd_C a cI cL cB cZ z S).set 52 (a 52, .inl (cI, 60, .inl f)) = (wd_C a cI cL cB cZ z (mq_sa S 27 f)) := rfl
theorem zt_m_X4_114 : Cond.methodLink RX4 114 Lib.Math.min.name ∈ mq_T := mq_T_mem (mq_t5 (List.mem_of_getElem? (i := 7) rfl)) rfl
/-! ModalDesk$Model.rebuild(I)V -/
def zr_X4_rebuild : Room := { frames := 1, cells := 0, slots := 0, locals := 25 }
def zc_X4_rebuild : Cond := .code yX4_rebuild cX4_rebuild 4 none
def zf_X4_rebuild_71 (N : Nat) (z : Nat → Nat) (k7 : Int32 → Int32 → mq_St → Option (Unit × mq_St)) (v1 : Int32) (v2 : Int32) (S : mq_St) : Option (Unit × mq_St) := (mq_nI (v2 + (-1 : Int32)) (fun x19 => (k7 (v1) (x19) S)))
def zf_X4_rebuild_135 (N : Nat) (z : Nat → Nat) (k79 : Int32 → Int32 → mq_St → Option (Unit × mq_St)) (v1 : Int32) (v2 : Int32) (S : mq_St) : Option (Unit × mq_St) := (mq_nI (v2 + (1 : Int32)) (fun x32 => (k79 (v1) (x32) S)))
def zf_X4_rebuild_141 (N : Nat) (z : Nat → Nat) (v1 : Int32) (S : mq_St) : Option (Unit × mq_St) := (mq_nS (mq_si S 23 ((mq_min v1 (S.1 23)))) (fun S33 => (mq_nS (mq_si S33 22 ((0 : Int32))) (fun S34 => (mq_cz ((1 : Int32)) (mq_nS (mq_si S34 24 ((1 : Int32))) (fun S35 => (some ((), S35)))))))))
def zf_X4_rebuild_79b (N : Nat) (z : Nat → Nat) (k79 : Int32 → Int32 → mq_St → Option (Unit × mq_St)) (v1 : Int32) (v2 : Int32) (S : mq_St) : Option (Unit × mq_St) := (if v1 ≤ v2 then (zf_X4_rebuild_141 N z (v1) S) else (if (S.1 23) ≤ v2 then (zf_X4_rebuild_141 N z (v1) S) else (mq_ck (v2) 60 (mq_nI ((S.2.1 27 (v2).toNatClampNeg)) (fun x21 => (if x21 < (0 : Int32) then (zf_X4_rebuild_135 N z k79 (v1) (v2) S) else (if (S.1 23) ≤ x21 then (zf_X4_rebuild_135 N z k79 (v1) (v2) S) else (mq_ck (x21) 60 (mq_ck (v2) 60 (mq_nS (mq_sa S 23 (upd (S.2.1 23) (v2).toNatClampNeg ((S.2.1 24 (x21).toNatClampNeg)))) (fun S24 => (mq_ck (x21) 60 (mq_ck (v2) 60 (mq_nS (mq_sl S24 7 (vp_updL (S24.2.2 7) (v2).toNatClampNeg ((S24.2.2 8 (x21).toNatClampNeg)))) (fun S27 => (zf_X4_rebuild_135 N z k79 (v1) (v2) S27))))))))))))))))
def zf_X4_rebuild_79 (N : Nat) (z : Nat → Nat) : Nat → Int32 → Int32 → mq_St → Option (Unit × mq_St)
  | 0, _, _, _ => none
  | n + 1, v1, v2, S => zf_X4_rebuild_79b N z (fun v1 v2 S => zf_X4_rebuild_79 N z n v1 v2 S) v1 v2 S
def zf_X4_rebuild_7b (N : Nat) (z : Nat → Nat) (k7 : Int32 → Int32 → mq_St → Option (Unit × mq_St)) (v1 : Int32) (v2 : Int32) (S : mq_St) : Option (Unit × mq_St) := (if v2 < (0 : Int32) then (mq_nI ((0 : Int32)) (fun x2 => (zf_X4_rebuild_79 N z N (v1) (x2) S))) else (mq_ck (v2) 60 (mq_cp (zf_X4_moved N z ((S.2.2 7 (v2).toNatClampNeg)) S) (fun q4 => (mq_ck (v2) 60 (mq_nS (mq_sl S 8 (vp_updL (S.2.2 8) (v2).toNatClampNeg (q4))) (fun S7 => (mq_ck (v2) 60 (mq_ck (v2) 60 (mq_nS (mq_sa S7 24 (upd (S7.2.1 24) (v2).toNatClampNeg ((S7.2.1 23 (v2).toNatClampNeg)))) (fun S10 => (mq_ck (v2) 60 (if (S10.2.1 26 (v2).toNatClampNeg) < (0 : Int32) then (zf_X4_rebuild_71 N z k7 (v1) (v2) S10) else (mq_ck (v2) 60 (if (60 : Int32) ≤ (S10.2.1 26 (v2).toNatClampNeg) then (zf_X4_rebuild_71 N z k7 (v1) (v2) S10) else (mq_ck (v2) 60 (mq_ck ((S10.2.1 26 (v2).toNatClampNeg)) 60 (mq_nS (mq_sa S10 27 (upd (S10.2.1 27) ((S10.2.1 26 (v2).toNatClampNeg)).toNatClampNeg (v2))) (fun S15 => (zf_X4_rebuild_71 N z k7 (v1) (v2) S15))))))))))))))))))))
def zf_X4_rebuild_7 (N : Nat) (z : Nat → Nat) : Nat → Int32 → Int32 → mq_St → Option (Unit × mq_St)
  | 0, _, _, _ => none
  | n + 1, v1, v2, S => zf_X4_rebuild_7b N z (fun v1 v2 S => zf_X4_rebuild_7 N z n v1 v2 S) v1 v2 S
def zf_X4_rebuild (N : Nat) (z : Nat → Nat) (v1 : Int32) (S : mq_St) : Option (Unit × mq_St) := (mq_nI (((S.1 23) - (1 : Int32))) (fun x1 => (zf_X4_rebuild_7 N z N (v1) (x1) S)))
set_option maxHeartbeats 4000000 in
set_option maxRecDepth 100000 in
theorem zw_X4_rebuild_71 {p : Program} {l : Launch} {e : Env} {s : State} {m : MethodId} {args : Array Value} {below : List Frame} {meth : Method} {c : Code} {A : Nat → Prop} {D : va_G} {a z : Nat → Nat} {cI cL cB cZ : ClassId} {Q : State → Prop} {N : Nat} {res : Unit × mq_St} {k7 : Int32 → Int32 → mq_St → Option (Unit × mq_St)} (C : mq_C p s m args c A D cI cL cB cZ cX4_rebuild 4 RX4 zc_X4_rebuild) (hret : ∀ (H : Heap) (locs : List Loc) (ls : Array Slot) (pc : Nat), decode cX4_rebuild pc = .ok (.return_, 1) → va_P D vwCl (wd_C a cI cL cB cZ z res.2) H → va_D A (wd_C a cI cL cB cZ z res.2) → va_S A s.heap H locs → W p l e zr_X4_rebuild s m args below meth c H locs 0 0 Q (F0 m pc ls [])) (hk7 : ∀ (v1 : Int32) (v2 : Int32) (S : mq_St) (H : Heap) (locs : List Loc) (ls : Array Slot), k7 v1 v2 S = some res → lv_has ls 4 [(0, .ref (a 46)), (1, .int (v1)), (2, .int (v2))] → va_P D vwCl (wd_C a cI cL cB cZ z S) H → va_D A (wd_C a cI cL cB cZ z S) → va_S A s.heap H locs → W p l e zr_X4_rebuild s m args below meth c H locs 0 0 Q (F0 m 7 ls [])) (v1 : Int32) (v2 : Int32) (S : mq_St) (H : Heap) (locs : List Loc) (ls : Array Slot) (h : zf_X4_rebuild_71 N z k7 v1 v2 S = some res) (hl : lv_has ls 4 [(0, .ref (a 46)), (1, .int (v1)), (2, .int (v2))]) (hP : va_P D vwCl (wd_C a cI cL cB cZ z S) H) (hD : va_D A (wd_C a cI cL cB cZ z S)) (hS : va_S A s.heap H locs) : W p l e zr_X4_rebuild s m args below meth c H locs 0 0 Q (F0 m 71 ls []) := by
  obtain ⟨hx, hb, hml, hown, hts, hK, hA⟩ := id C
  unfold zf_X4_rebuild_71 at h
  obtain ⟨x19, ex19⟩ : ∃ y : Int32, y = v2 + (-1 : Int32) := ⟨_, rfl⟩
  replace h := mq_nI_go ex19 h
  refine lv_iinc (v := x19) (lv' := [(2, .int (x19)), (0, .ref (a 46)), (1, .int (v1))]) hx hb dX4_rebuild_71 hl (k := 2) rfl (by rw [ex19]; rfl) (by decide) rfl (fun ls hl => ?_)
  refine lv_goto (tgt := 7) hx hb dX4_rebuild_74 (by decide) ?_
  exact hk7 (v1) (x19) S H locs ls h (lv_sub hl [1, 2, 0] rfl) hP hD hS
set_option maxHeartbeats 4000000 in
set_option maxRecDepth 100000 in
theorem zw_X4_rebuild_135 {p : Program} {l : Launch} {e : Env} {s : State} {m : MethodId} {args : Array Value} {below : List Frame} {meth : Method} {c : Code} {A : Nat → Prop} {D : va_G} {a z : Nat → Nat} {cI cL cB cZ : ClassId} {Q : State → Prop} {N : Nat} {res : Unit × mq_St} {k79 : Int32 → Int32 → mq_St → Option (Unit × mq_St)} (C : mq_C p s m args c A D cI cL cB cZ cX4_rebuild 4 RX4 zc_X4_rebuild) (hret : ∀ (H : Heap) (locs : List Loc) (ls : Array Slot) (pc : Nat), decode cX4_rebuild pc = .ok (.return_, 1) → va_P D vwCl (wd_C a cI cL cB cZ z res.2) H → va_D A (wd_C a cI cL cB cZ z res.2) → va_S A s.heap H locs → W p l e zr_X4_rebuild s m args below meth c H locs 0 0 Q (F0 m pc ls [])) (hk79 : ∀ (v1 : Int32) (v2 : Int32) (S : mq_St) (H : Heap) (locs : List Loc) (ls : Array Slot), k79 v1 v2 S = some res → lv_has ls 4 [(0, .ref (a 46)), (1, .int (v1)), (2, .int (v2))] → va_P D vwCl (wd_C a cI cL cB cZ z S) H → va_D A (wd_C a cI cL cB cZ z S) → va_S A s.heap H locs → W p l e zr_X4_rebuild s m args below meth c H locs 0 0 Q (F0 m 79 ls [])) (v1 : Int32) (v2 : Int32) (S : mq_St) (H : Heap) (locs : List Loc) (ls : Array Slot) (h : zf_X4_rebuild_135 N z k79 v1 v2 S = some res) (hl : lv_has ls 4 [(0, .ref (a 46)), (1, .int (v1)), (2, .int (v2))]) (hP : va_P D vwCl (wd_C a cI cL cB cZ z S) H) (hD : va_D A (wd_C a cI cL cB cZ z S)) (hS : va_S A s.heap H locs) : W p l e zr_X4_rebuild s m args below meth c H locs 0 0 Q (F0 m 135 ls []) := by
  obtain ⟨hx, hb, hml, hown, hts, hK, hA⟩ := id C
  unfold zf_X4_rebuild_135 at h
  obtain ⟨x32, ex32⟩ : ∃ y : Int32, y = v2 + (1 : Int32) := ⟨_, rfl⟩
  replace h := mq_nI_go ex32 h
  refine lv_iinc (v := x32) (lv' := [(2, .int (x32)), (0, .ref (a 46)), (1, .int (v1))]) hx hb dX4_rebuild_135 hl (k := 2) rfl (by rw [ex32]; rfl) (by decide) rfl (fun ls hl => ?_)
  refine lv_goto (tgt := 79) hx hb dX4_rebuild_138 (by decide) ?_
  exact hk79 (v1) (x32) S H locs ls h (lv_sub hl [1, 2, 0] rfl) hP hD hS
set_option maxHeartbeats 4000000 in
set_option maxRecDepth 100000 in
theorem zw_X4_rebuild_141 {p : Program} {l : Launch} {e : Env} {s : State} {m : MethodId} {args : Array Value} {below : List Frame} {meth : Method} {c : Code} {A : Nat → Prop} {D : va_G} {a z : Nat → Nat} {cI cL cB cZ : ClassId} {Q : State → Prop} {N : Nat} {res : Unit × mq_St} (C : mq_C p s m args c A D cI cL cB cZ cX4_rebuild 4 RX4 zc_X4_rebuild) (hret : ∀ (H : Heap) (locs : List Loc) (ls : Array Slot) (pc : Nat), decode cX4_rebuild pc = .ok (.return_, 1) → va_P D vwCl (wd_C a cI cL cB cZ z res.2) H → va_D A (wd_C a cI cL cB cZ z res.2) → va_S A s.heap H locs → W p l e zr_X4_rebuild s m args below meth c H locs 0 0 Q (F0 m pc ls [])) (v1 : Int32) (S : mq_St) (H : Heap) (locs : List Loc) (ls : Array Slot) (h : zf_X4_rebuild_141 N z v1 S = some res) (hl : lv_has ls 4 [(0, .ref (a 46)), (1, .int (v1))]) (hP : va_P D vwCl (wd_C a cI cL cB cZ z S) H) (hD : va_D A (wd_C a cI cL cB cZ z S)) (hS : va_S A s.heap H locs) : W p l e zr_X4_rebuild s m args below meth c H locs 0 0 Q (F0 m 141 ls []) := by
  obtain ⟨hx, hb, hml, hown, hts, hK, hA⟩ := id C
  unfold zf_X4_rebuild_141 at h
  refine lv_aload_n hx hb dX4_rebuild_141 rfl (lv_at hl 0 rfl) ?_
  refine lv_iload_n hx hb dX4_rebuild_142 rfl (lv_at hl 1 rfl) ?_
  refine lv_aload_n hx hb dX4_rebuild_143 rfl (lv_at hl 0 rfl) ?_
  refine va_get (D := D) (ci := 4) (v := .int ((S.1 23))) (C := RX4) (T := TX4) (N := 12) hx hb hts (zi_X4 _) hown hK hP 46 rfl rfl 10 (by decide) (hts _ (List.mem_cons_of_mem _ zt_f_X4_41)) (fun _ h9 => h9) rfl dX4_rebuild_144 ?_
  refine va_mmin hx hb (hml.trans hl.1.symm) hown (hts _ (List.mem_cons_of_mem _ zt_m_X4_114)) (hts _ (List.mem_cons_of_mem _ zt_math_min_s)) (hts _ (List.mem_cons_of_mem _ zt_math_i)) (hts _ (List.mem_cons_of_mem _ zt_math_min_c)) (Nat.le_of_ble_eq_true rfl) (Nat.le_of_ble_eq_true rfl) (Nat.zero_le _) (Nat.zero_le _) dX4_rebuild_147 ?_
  show W _ _ _ _ _ _ _ _ _ _ _ _ _ _ _ (F0 _ _ _ (.int (mq_min v1 (S.1 23)) :: _))
  refine mq_put (w := wd_C a cI cL cB cZ z) (S := S) (D := D) (ci := 4) (v := (mq_min v1 (S.1 23))) (ty := .int) (C := RX4) (T := TX4) (N := 12) hx hb hts (zi_X4 _) tyX4 tyX4_ok nmX4 hown hK hP hD hS 46 rfl rfl 10 (by decide) (hts _ (List.mem_cons_of_mem _ zt_f_X4_41)) (fun _ h9 => h9) rfl (by decide +kernel) rfl rfl (Nat.le_of_ble_eq_true rfl) dX4_rebuild_150 23 (zs_wd_C_i_46_23 _ _ _ _ _ _ _ _) (fun S33 eS33 H locs hP hD hS => ?_)
  replace h := mq_nS_go eS33 h
  refine lv_aload_n hx hb dX4_rebuild_153 rfl (lv_at hl 0 rfl) ?_
  refine lv_iconst (v := (0 : Int32)) hx hb dX4_rebuild_154 (by decide) ?_
  refine mq_put (w := wd_C a cI cL cB cZ z) (S := S33) (D := D) (ci := 4) (v := (0 : Int32)) (ty := .int) (C := RX4) (T := TX4) (N := 12) hx hb hts (zi_X4 _) tyX4 tyX4_ok nmX4 hown hK hP hD hS 46 rfl rfl 9 (by decide) (hts _ (List.mem_cons_of_mem _ zt_f_X4_45)) (fun _ h9 => h9) rfl (by decide +kernel) rfl rfl (Nat.le_of_ble_eq_true rfl) dX4_rebuild_155 22 (zs_wd_C_i_46_22 _ _ _ _ _ _ _ _) (fun S34 eS34 H locs hP hD hS => ?_)
  replace h := mq_nS_go eS34 h
  refine lv_aload_n hx hb dX4_rebuild_158 rfl (lv_at hl 0 rfl) ?_
  refine lv_iconst (v := (1 : Int32)) hx hb dX4_rebuild_159 (by decide) ?_
  have hz36 := mq_cz_in h
  replace h := mq_cz_go h
  refine mq_put (w := wd_C a cI cL cB cZ z) (S := S34) (D := D) (ci := 4) (v := (1 : Int32)) (ty := .boolean) (C := RX4) (T := TX4) (N := 12) hx hb hts (zi_X4 _) tyX4 tyX4_ok nmX4 hown hK hP hD hS 46 rfl rfl 11 (by decide) (hts _ (List.mem_cons_of_mem _ zt_f_X4_48)) (fun _ h9 => h9) rfl (by decide +kernel) hz36.1 hz36.2 (Nat.le_of_ble_eq_true rfl) dX4_rebuild_160 24 (zs_wd_C_i_46_24 _ _ _ _ _ _ _ _) (fun S35 eS35 H locs hP hD hS => ?_)
  replace h := mq_nS_go eS35 h
  cases h
  exact hret H locs ls 163 dX4_rebuild_163 hP hD hS
set_option maxHeartbeats 4000000 in
set_option maxRecDepth 100000 in
theorem zw_X4_rebuild_79b {p : Program} {l : Launch} {e : Env} {s : State} {m : MethodId} {args : Array Value} {below : List Frame} {meth : Method} {c : Code} {A : Nat → Prop} {D : va_G} {a z : Nat → Nat} {cI cL cB cZ : ClassId} {Q : State → Prop} {N : Nat} {res : Unit × mq_St} {k79 : Int32 → Int32 → mq_St → Option (Unit × mq_St)} (C : mq_C p s m args c A D cI cL cB cZ cX4_rebuild 4 RX4 zc_X4_rebuild) (hret : ∀ (H : Heap) (locs : List Loc) (ls : Array Slot) (pc : Nat), decode cX4_rebuild pc = .ok (.return_, 1) → va_P D vwCl (wd_C a cI cL cB cZ z res.2) H → va_D A (wd_C a cI cL cB cZ z res.2) → va_S A s.heap H locs → W p l e zr_X4_rebuild s m args below meth c H locs 0 0 Q (F0 m pc ls [])) (hk79 : ∀ (v1 : Int32) (v2 : Int32) (S : mq_St) (H : Heap) (locs : List Loc) (ls : Array Slot), k79 v1 v2 S = some res → lv_has ls 4 [(0, .ref (a 46)), (1, .int (v1)), (2, .int (v2))] → va_P D vwCl (wd_C a cI cL cB cZ z S) H → va_D A (wd_C a cI cL cB cZ z S) → va_S A s.heap H locs → W p l e zr_X4_rebuild s m args below meth c H locs 0 0 Q (F0 m 79 ls [])) (v1 : Int32) (v2 : Int32) (S : mq_St) (H : Heap) (locs : List Loc) (ls : Array Slot) (h : zf_X4_rebuild_79b N z k79 v1 v2 S = some res) (hl : lv_has ls 4 [(0, .ref (a 46)), (1, .int (v1)), (2, .int (v2))]) (hP : va_P D vwCl (wd_C a cI cL cB cZ z S) H) (hD : va_D A (wd_C a cI cL cB cZ z S)) (hS : va_S A s.heap H locs) : W p l e zr_X4_rebuild s m args below meth c H locs 0 0 Q (F0 m 79 ls []) := by
  obtain ⟨hx, hb, hml, hown, hts, hK, hA⟩ := id C
  unfold zf_X4_rebuild_79b at h
  refine lv_iload_n hx hb dX4_rebuild_79 rfl (lv_at hl 2 rfl) ?_
  refine lv_iload_n hx hb dX4_rebuild_80 rfl (lv_at hl 1 rfl) ?_
  refine lv_icmp_ge (tgt := 141) hx hb dX4_rebuild_81 (by decide) (fun c31 => ?_) (fun c31 => ?_)
  · replace h := mq_it c31 h
    exact zw_X4_rebuild_141 C hret (v1) S H locs ls h (lv_sub hl [0, 1] rfl) hP hD hS
  · replace h := mq_if c31 h
    refine lv_iload_n hx hb dX4_rebuild_84 rfl (lv_at hl 2 rfl) ?_
    refine lv_aload_n hx hb dX4_rebuild_85 rfl (lv_at hl 0 rfl) ?_
    refine va_get (D := D) (ci := 4) (v := .int ((S.1 23))) (C := RX4) (T := TX4) (N := 12) hx hb hts (zi_X4 _) hown hK hP 46 rfl rfl 10 (by decide) (hts _ (List.mem_cons_of_mem _ zt_f_X4_41)) (fun _ h9 => h9) rfl dX4_rebuild_86 ?_
    refine lv_icmp_ge (tgt := 141) hx hb dX4_rebuild_89 (by decide) (fun c30 => ?_) (fun c30 => ?_)
    · replace h := mq_it c30 h
      exact zw_X4_rebuild_141 C hret (v1) S H locs ls h (lv_sub hl [0, 1] rfl) hP hD hS
    · replace h := mq_if c30 h
      refine lv_aload_n hx hb dX4_rebuild_92 rfl (lv_at hl 0 rfl) ?_
      refine va_get (D := D) (ci := 4) (v := .ref (a 52)) (C := RX4) (T := TX4) (N := 12) hx hb hts (zi_X4 _) hown hK hP 46 rfl rfl 6 (by decide) (hts _ (List.mem_cons_of_mem _ zt_f_X4_28)) (fun _ h9 => h9) rfl dX4_rebuild_93 ?_
      refine lv_iload_n hx hb dX4_rebuild_96 rfl (lv_at hl 2 rfl) ?_
      have hi20 := mq_ck_in h
      replace h := mq_ck_go h
      refine va_iald (f := S.2.1 27) hx hb hK hP 52 0 rfl rfl hi20 dX4_rebuild_97 ?_
      refine lv_topi (fun x21 ex21 => ?_)
      replace h := mq_nI_go ex21 h
      refine lv_istore_n (lv' := [(3, .int (x21)), (0, .ref (a 46)), (1, .int (v1)), (2, .int (v2))]) hx hb dX4_rebuild_98 rfl hl (by decide) rfl (fun ls hl => ?_)
      refine lv_iload_n hx hb dX4_rebuild_99 rfl (lv_at hl 0 rfl) ?_
      refine lv_if_lt (tgt := 135) hx hb dX4_rebuild_100 (by decide) (fun c29 => ?_) (fun c29 => ?_)
      · replace h := mq_it c29 h
        exact zw_X4_rebuild_135 C hret hk79 (v1) (v2) S H locs ls h (lv_sub hl [1, 2, 3] rfl) hP hD hS
      · replace h := mq_if c29 h
        refine lv_iload_n hx hb dX4_rebuild_103 rfl (lv_at hl 0 rfl) ?_
        refine lv_aload_n hx hb dX4_rebuild_104 rfl (lv_at hl 1 rfl) ?_
        refine va_get (D := D) (ci := 4) (v := .int ((S.1 23))) (C := RX4) (T := TX4) (N := 12) hx hb hts (zi_X4 _) hown hK hP 46 rfl rfl 10 (by decide) (hts _ (List.mem_cons_of_mem _ zt_f_X4_41)) (fun _ h9 => h9) rfl dX4_rebuild_105 ?_
        refine lv_icmp_ge (tgt := 135) hx hb dX4_rebuild_108 (by decide) (fun c28 => ?_) (fun c28 => ?_)
        · replace h := mq_it c28 h
          exact zw_X4_rebuild_135 C hret hk79 (v1) (v2) S H locs ls h (lv_sub hl [1, 2, 3] rfl) hP hD hS
        · replace h := mq_if c28 h
          refine lv_aload_n hx hb dX4_rebuild_111 rfl (lv_at hl 1 rfl) ?_
          refine va_get (D := D) (ci := 4) (v := .ref (a 47)) (C := RX4) (T := TX4) (N := 12) hx hb hts (zi_X4 _) hown hK hP 46 rfl rfl 1 (by decide) (hts _ (List.mem_cons_of_mem _ zt_f_X4_9)) (fun _ h9 => h9) rfl dX4_rebuild_112 ?_
          refine lv_iload_n hx hb dX4_rebuild_115 rfl (lv_at hl 3 rfl) ?_
          refine lv_aload_n hx hb dX4_rebuild_116 rfl (lv_at hl 1 rfl) ?_
          refine va_get (D := D) (ci := 4) (v := .ref (a 49)) (C := RX4) (T := TX4) (N := 12) hx hb hts (zi_X4 _) hown hK hP 46 rfl rfl 3 (by decide) (hts _ (List.mem_cons_of_mem _ zt_f_X4_19)) (fun _ h9 => h9) rfl dX4_rebuild_117 ?_
          refine lv_iload_n hx hb dX4_rebuild_120 rfl (lv_at hl 0 rfl) ?_
          have hi22 := mq_ck_in h
          replace h := mq_ck_go h
          refine va_iald (f := S.2.1 24) hx hb hK hP 49 0 rfl rfl hi22 dX4_rebuild_121 ?_
          have hi23 := mq_ck_in h
          replace h := mq_ck_go h
          refine mq_iast (w := wd_C a cI cL cB cZ z) (S := S) (f := S.2.1 23) hx hb hK hP hD hS 47 0 rfl rfl hi23 dX4_rebuild_122 23 (zs_wd_C_a_47_23 _ _ _ _ _ _ _ _) (fun S24 eS24 H locs hP hD hS => ?_)
          replace h := mq_nS_go eS24 h
          refine lv_aload_n hx hb dX4_rebuild_123 rfl (lv_at hl 1 rfl) ?_
          refine va_get (D := D) (ci := 4) (v := .ref (a 48)) (C := RX4) (T := TX4) (N := 12) hx hb hts (zi_X4 _) hown hK hP 46 rfl rfl 2 (by decide) (hts _ (List.mem_cons_of_mem _ zt_f_X4_15)) (fun _ h9 => h9) rfl dX4_rebuild_124 ?_
          refine lv_iload_n hx hb dX4_rebuild_127 rfl (lv_at hl 3 rfl) ?_
          refine lv_aload_n hx hb dX4_rebuild_128 rfl (lv_at hl 1 rfl) ?_
          refine va_get (D := D) (ci := 4) (v := .ref (a 53)) (C := RX4) (T := TX4) (N := 12) hx hb hts (zi_X4 _) hown hK hP 46 rfl rfl 7 (by decide) (hts _ (List.mem_cons_of_mem _ zt_f_X4_31)) (fun _ h9 => h9) rfl dX4_rebuild_129 ?_
          refine lv_iload_n hx hb dX4_rebuild_132 rfl (lv_at hl 0 rfl) ?_
          have hi25 := mq_ck_in h
          replace h := mq_ck_go h
          refine va_lald (f := S24.2.2 8) hx hb hK hP 53 1 rfl rfl hi25 dX4_rebuild_133 ?_
          have hi26 := mq_ck_in h
          replace h := mq_ck_go h
          refine mq_last (w := wd_C a cI cL cB cZ z) (S := S24) (f := S24.2.2 7) hx hb hK hP hD hS 48 1 rfl rfl hi26 dX4_rebuild_134 7 (zs_wd_C_l_48_7 _ _ _ _ _ _ _ _) (fun S27 eS27 H locs hP hD hS => ?_)
          replace h := mq_nS_go eS27 h
          exact zw_X4_rebuild_135 C hret hk79 (v1) (v2) S27 H locs ls h (lv_sub hl [1, 2, 3] rfl) hP hD hS
set_option maxHeartbeats 4000000 in
set_option maxRecDepth 100000 in
theorem zw_X4_rebuild_79 {p : Program} {l : Launch} {e : Env} {s : State} {m : MethodId} {args : Array Value} {below : List Frame} {meth : Method} {c : Code} {A : Nat → Prop} {D : va_G} {a z : Nat → Nat} {cI cL cB cZ : ClassId} {Q : State → Prop} {N : Nat} {res : Unit × mq_St} (C : mq_C p s m args c A D cI cL cB cZ cX4_rebuild 4 RX4 zc_X4_rebuild) (hret : ∀ (H : Heap) (locs : List Loc) (ls : Array Slot) (pc : Nat), decode cX4_rebuild pc = .ok (.return_, 1) → va_P D vwCl (wd_C a cI cL cB cZ z res.2) H → va_D A (wd_C a cI cL cB cZ z res.2) → va_S A s.heap H locs → W p l e zr_X4_rebuild s m args below meth c H locs 0 0 Q (F0 m pc ls [])) : ∀ (n : Nat) (v1 : Int32) (v2 : Int32) (S : mq_St) (H : Heap) (locs : List Loc) (ls : Array Slot) (h : zf_X4_rebuild_79 N z n v1 v2 S = some res) (hl : lv_has ls 4 [(0, .ref (a 46)), (1, .int (v1)), (2, .int (v2))]) (hP : va_P D vwCl (wd_C a cI cL cB cZ z S) H) (hD : va_D A (wd_C a cI cL cB cZ z S)) (hS : va_S A s.heap H locs), W p l e zr_X4_rebuild s m args below meth c H locs 0 0 Q (F0 m 79 ls []) := by
  intro n
  induction n with
  | zero =>
    intro v1 v2 S H locs ls h hl hP hD hS
    exact nomatch (show (none : Option (Unit × mq_St)) = some res from h)
  | succ n ih =>
    intro v1 v2 S H locs ls h hl hP hD hS
    exact zw_X4_rebuild_79b C hret (fun v1 v2 S H locs ls h hl hP hD hS => ih v1 v2 S H locs ls h hl hP hD hS) v1 v2 S H locs ls h hl hP hD hS
set_option maxHeartbeats 4000000 in
set_option maxRecDepth 100000 in
theorem zw_X4_rebuild_7b {p : Program} {l : Launch} {e : Env} {s : State} {m : MethodId} {args : Array Value} {below : List Frame} {meth : Method} {c : Code} {A : Nat → Prop} {D : va_G} {a z : Nat → Nat} {cI cL cB cZ : ClassId} {Q : State → Prop} {N : Nat} {res : Unit × mq_St} {k7 : Int32 → Int32 → mq_St → Option (Unit × mq_St)} (C : mq_C p s m args c A D cI cL cB cZ cX4_rebuild 4 RX4 zc_X4_rebuild) (hret : ∀ (H : Heap) (locs : List Loc) (ls : Array Slot) (pc : Nat), decode cX4_rebuild pc = .ok (.return_, 1) → va_P D vwCl (wd_C a cI cL cB cZ z res.2) H → va_D A (wd_C a cI cL cB cZ z res.2) → va_S A s.heap H locs → W p l e zr_X4_rebuild s m args below meth c H locs 0 0 Q (F0 m pc ls [])) (hk7 : ∀ (v1 : Int32) (v2 : Int32) (S : mq_St) (H : Heap) (locs : List Loc) (ls : Array Slot), k7 v1 v2 S = some res → lv_has ls 4 [(0, .ref (a 46)), (1, .int (v1)), (2, .int (v2))] → va_P D vwCl (wd_C a cI cL cB cZ z S) H → va_D A (wd_C a cI cL cB cZ z S) → va_S A s.heap H locs → W p l e zr_X4_rebuild s m args below meth c H locs 0 0 Q (F0 m 7 ls [])) (v1 : Int32) (v2 : Int32) (S : mq_St) (H : Heap) (locs : List Loc) (ls : Array Slot) (h : zf_X4_rebuild_7b N z k7 v1 v2 S = some res) (hl : lv_has ls 4 [(0, .ref (a 46)), (1, .int (v1)), (2, .int (v2))]) (hP : va_P D vwCl (wd_C a cI cL cB cZ z S) H) (hD : va_D A (wd_C a cI cL cB cZ z S)) (hS : va_S A s.heap H locs) : W p l e zr_X4_rebuild s m args below meth c H locs 0 0 Q (F0 m 7 ls []) := by
  obtain ⟨hx, hb, hml, hown, hts, hK, hA⟩ := id C
  unfold zf_X4_rebuild_7b at h
  refine lv_iload_n hx hb dX4_rebuild_7 rfl (lv_at hl 2 rfl) ?_
  refine lv_if_lt (tgt := 77) hx hb dX4_rebuild_8 (by decide) (fun c18 => ?_) (fun c18 => ?_)
  · replace h := mq_it c18 h
    refine lv_iconst (v := (0 : Int32)) hx hb dX4_rebuild_77 (by decide) ?_
    refine lv_topi (fun x2 ex2 => ?_)
    replace h := mq_nI_go ex2 h
    refine lv_istore_n (lv' := [(2, .int (x2)), (0, .ref (a 46)), (1, .int (v1))]) hx hb dX4_rebuild_78 rfl hl (by decide) rfl (fun ls hl => ?_)
    exact zw_X4_rebuild_79 C hret N (v1) (x2) S H locs ls h (lv_sub hl [1, 2, 0] rfl) hP hD hS
  · replace h := mq_if c18 h
    refine lv_aload_n hx hb dX4_rebuild_11 rfl (lv_at hl 0 rfl) ?_
    refine va_get (D := D) (ci := 4) (v := .ref (a 53)) (C := RX4) (T := TX4) (N := 12) hx hb hts (zi_X4 _) hown hK hP 46 rfl rfl 7 (by decide) (hts _ (List.mem_cons_of_mem _ zt_f_X4_31)) (fun _ h9 => h9) rfl dX4_rebuild_12 ?_
    refine lv_iload_n hx hb dX4_rebuild_15 rfl (lv_at hl 2 rfl) ?_
    refine lv_aload_n hx hb dX4_rebuild_16 rfl (lv_at hl 0 rfl) ?_
    refine lv_aload_n hx hb dX4_rebuild_17 rfl (lv_at hl 0 rfl) ?_
    refine va_get (D := D) (ci := 4) (v := .ref (a 48)) (C := RX4) (T := TX4) (N := 12) hx hb hts (zi_X4 _) hown hK hP 46 rfl rfl 2 (by decide) (hts _ (List.mem_cons_of_mem _ zt_f_X4_15)) (fun _ h9 => h9) rfl dX4_rebuild_18 ?_
    refine lv_iload_n hx hb dX4_rebuild_21 rfl (lv_at hl 2 rfl) ?_
    have hi3 := mq_ck_in h
    replace h := mq_ck_go h
    refine va_lald (f := S.2.2 7) hx hb hK hP 48 1 rfl rfl hi3 dX4_rebuild_22 ?_
    obtain ⟨q4, hc5, h⟩ := mq_cp_go h
    refine zk_X4_moved C zt_m_X4_83 ⟨by decide, by decide⟩ hc5 hP hD hS hl.1 (Nat.le_of_ble_eq_true rfl) dX4_rebuild_23 (fun H locs hP hD hS => ?_)
    have hi6 := mq_ck_in h
    replace h := mq_ck_go h
    refine mq_last (w := wd_C a cI cL cB cZ z) (S := S) (f := S.2.2 8) hx hb hK hP hD hS 53 1 rfl rfl hi6 dX4_rebuild_26 8 (zs_wd_C_l_53_8 _ _ _ _ _ _ _ _) (fun S7 eS7 H locs hP hD hS => ?_)
    replace h := mq_nS_go eS7 h
    refine lv_aload_n hx hb dX4_rebuild_27 rfl (lv_at hl 0 rfl) ?_
    refine va_get (D := D) (ci := 4) (v := .ref (a 49)) (C := RX4) (T := TX4) (N := 12) hx hb hts (zi_X4 _) hown hK hP 46 rfl rfl 3 (by decide) (hts _ (List.mem_cons_of_mem _ zt_f_X4_19)) (fun _ h9 => h9) rfl dX4_rebuild_28 ?_
    refine lv_iload_n hx hb dX4_rebuild_31 rfl (lv_at hl 2 rfl) ?_
    refine lv_aload_n hx hb dX4_rebuild_32 rfl (lv_at hl 0 rfl) ?_
    refine va_get (D := D) (ci := 4) (v := .ref (a 47)) (C := RX4) (T := TX4) (N := 12) hx hb hts (zi_X4 _) hown hK hP 46 rfl rfl 1 (by decide) (hts _ (List.mem_cons_of_mem _ zt_f_X4_9)) (fun _ h9 => h9) rfl dX4_rebuild_33 ?_
    refine lv_iload_n hx hb dX4_rebuild_36 rfl (lv_at hl 2 rfl) ?_
    have hi8 := mq_ck_in h
    replace h := mq_ck_go h
    refine va_iald (f := S7.2.1 23) hx hb hK hP 47 0 rfl rfl hi8 dX4_rebuild_37 ?_
    have hi9 := mq_ck_in h
    replace h := mq_ck_go h
    refine mq_iast (w := wd_C a cI cL cB cZ z) (S := S7) (f := S7.2.1 24) hx hb hK hP hD hS 49 0 rfl rfl hi9 dX4_rebuild_38 24 (zs_wd_C_a_49_24 _ _ _ _ _ _ _ _) (fun S10 eS10 H locs hP hD hS => ?_)
    replace h := mq_nS_go eS10 h
    refine lv_aload_n hx hb dX4_rebuild_39 rfl (lv_at hl 0 rfl) ?_
    refine va_get (D := D) (ci := 4) (v := .ref (a 51)) (C := RX4) (T := TX4) (N := 12) hx hb hts (zi_X4 _) hown hK hP 46 rfl rfl 5 (by decide) (hts _ (List.mem_cons_of_mem _ zt_f_X4_25)) (fun _ h9 => h9) rfl dX4_rebuild_40 ?_
    refine lv_iload_n hx hb dX4_rebuild_43 rfl (lv_at hl 2 rfl) ?_
    have hi11 := mq_ck_in h
    replace h := mq_ck_go h
    refine va_iald (f := S10.2.1 26) hx hb hK hP 51 0 rfl rfl hi11 dX4_rebuild_44 ?_
    refine lv_if_lt (tgt := 71) hx hb dX4_rebuild_45 (by decide) (fun c17 => ?_) (fun c17 => ?_)
    · replace h := mq_it c17 h
      exact zw_X4_rebuild_71 C hret hk7 (v1) (v2) S10 H locs ls h (lv_sub hl [0, 1, 2] rfl) hP hD hS
    · replace h := mq_if c17 h
      refine lv_aload_n hx hb dX4_rebuild_48 rfl (lv_at hl 0 rfl) ?_
      refine va_get (D := D) (ci := 4) (v := .ref (a 51)) (C := RX4) (T := TX4) (N := 12) hx hb hts (zi_X4 _) hown hK hP 46 rfl rfl 5 (by decide) (hts _ (List.mem_cons_of_mem _ zt_f_X4_25)) (fun _ h9 => h9) rfl dX4_rebuild_49 ?_
      refine lv_iload_n hx hb dX4_rebuild_52 rfl (lv_at hl 2 rfl) ?_
      have hi12 := mq_ck_in h
      replace h := mq_ck_go h
      refine va_iald (f := S10.2.1 26) hx hb hK hP 51 0 rfl rfl hi12 dX4_rebuild_53 ?_
      refine lv_bipush (v := (60 : Int32)) hx hb dX4_rebuild_54 (by decide) ?_
      refine lv_icmp_ge (tgt := 71) hx hb dX4_rebuild_56 (by decide) (fun c16 => ?_) (fun c16 => ?_)
      · replace h := mq_it c16 h
        exact zw_X4_rebuild_71 C hret hk7 (v1) (v2) S10 H locs ls h (lv_sub hl [0, 1, 2] rfl) hP hD hS
      · replace h := mq_if c16 h
        refine lv_aload_n hx hb dX4_rebuild_59 rfl (lv_at hl 0 rfl) ?_
        refine va_get (D := D) (ci := 4) (v := .ref (a 52)) (C := RX4) (T := TX4) (N := 12) hx hb hts (zi_X4 _) hown hK hP 46 rfl rfl 6 (by decide) (hts _ (List.mem_cons_of_mem _ zt_f_X4_28)) (fun _ h9 => h9) rfl dX4_rebuild_60 ?_
        refine lv_aload_n hx hb dX4_rebuild_63 rfl (lv_at hl 0 rfl) ?_
        refine va_get (D := D) (ci := 4) (v := .ref (a 51)) (C := RX4) (T := TX4) (N := 12) hx hb hts (zi_X4 _) hown hK hP 46 rfl rfl 5 (by decide) (hts _ (List.mem_cons_of_mem _ zt_f_X4_25)) (fun _ h9 => h9) rfl dX4_rebuild_64 ?_
        refine lv_iload_n hx hb dX4_rebuild_67 rfl (lv_at hl 2 rfl) ?_
        have hi13 := mq_ck_in h
        replace h := mq_ck_go h
        refine va_iald (f := S10.2.1 26) hx hb hK hP 51 0 rfl rfl hi13 dX4_rebuild_68 ?_
        refine lv_iload_n hx hb dX4_rebuild_69 rfl (lv_at hl 2 rfl) ?_
        have hi14 := mq_ck_in h
        replace h := mq_ck_go h
        refine mq_iast (w := wd_C a cI cL cB cZ z) (S := S10) (f := S10.2.1 27) hx hb hK hP hD hS 52 0 rfl rfl hi14 dX4_rebuild_70 27 (zs_wd_C_a_52_27 _ _ _ _ _ _ _ _) (fun S15 eS15 H locs hP hD hS => ?_)
        replace h := mq_nS_go eS15 h
        exact zw_X4_rebuild_71 C hret hk7 (v1) (v2) S15 H locs ls h (lv_sub hl [0, 1, 2] rfl) hP hD hS
set_option maxHeartbeats 4000000 in
set_option maxRecDepth 100000 in
theorem zw_X4_rebuild_7 {p : Program} {l : Launch} {e : Env} {s : State} {m : MethodId} {args : Array Value} {below : List Frame} {meth : Method} {c : Code} {A : Nat → Prop} {D : va_G} {a z : Nat → Nat} {cI cL cB cZ : ClassId} {Q : State → Prop} {N : Nat} {res : Unit × mq_St} (C : mq_C p s m args c A D cI cL cB cZ cX4_rebuild 4 RX4 zc_X4_rebuild) (hret : ∀ (H : Heap) (locs : List Loc) (ls : Array Slot) (pc : Nat), decode cX4_rebuild pc = .ok (.return_, 1) → va_P D vwCl (wd_C a cI cL cB cZ z res.2) H → va_D A (wd_C a cI cL cB cZ z res.2) → va_S A s.heap H locs → W p l e zr_X4_rebuild s m args below meth c H locs 0 0 Q (F0 m pc ls [])) : ∀ (n : Nat) (v1 : Int32) (v2 : Int32) (S : mq_St) (H : Heap) (locs : List Loc) (ls : Array Slot) (h : zf_X4_rebuild_7 N z n v1 v2 S = some res) (hl : lv_has ls 4 [(0, .ref (a 46)), (1, .int (v1)), (2, .int (v2))]) (hP : va_P D vwCl (wd_C a cI cL cB cZ z S) H) (hD : va_D A (wd_C a cI cL cB cZ z S)) (hS : va_S A s.heap H locs), W p l e zr_X4_rebuild s m args below meth c H locs 0 0 Q (F0 m 7 ls []) := by
  intro n
  induction n with
  | zero =>
    intro v1 v2 S H locs ls h hl hP hD hS
    exact nomatch (show (none : Option (Unit × mq_St)) = some res from h)
  | succ n ih =>
    intro v1 v2 S H locs ls h hl hP hD hS
    exact zw_X4_rebuild_7b C hret (fun v1 v2 S H locs ls h hl hP hD hS => ih v1 v2 S H locs ls h hl hP hD hS) v1 v2 S H locs ls h hl hP hD hS
set_option maxHeartbeats 4000000 in
set_option maxRecDepth 100000 in
theorem zw_X4_rebuild_0 {p : Program} {l : Launch} {e : Env} {s : State} {m : MethodId} {args : Array Value} {below : List Frame} {meth : Method} {c : Code} {A : Nat → Prop} {D : va_G} {a z : Nat → Nat} {cI cL cB cZ : ClassId} {Q : State → Prop} {N : Nat} {res : Unit × mq_St} (C : mq_C p s m args c A D cI cL cB cZ cX4_rebuild 4 RX4 zc_X4_rebuild) (hret : ∀ (H : Heap) (locs : List Loc) (ls : Array Slot) (pc : Nat), decode cX4_rebuild pc = .ok (.return_, 1) → va_P D vwCl (wd_C a cI cL cB cZ z res.2) H → va_D A (wd_C a cI cL cB cZ z res.2) → va_S A s.heap H locs → W p l e zr_X4_rebuild s m args below meth c H locs 0 0 Q (F0 m pc ls [])) (v1 : Int32) (S : mq_St) (H : Heap) (locs : List Loc) (ls : Array Slot) (h : zf_X4_rebuild N z v1 S = some res) (hl : lv_has ls 4 [(0, .ref (a 46)), (1, .int (v1))]) (hP : va_P D vwCl (wd_C a cI cL cB cZ z S) H) (hD : va_D A (wd_C a cI cL cB cZ z S)) (hS : va_S A s.heap H locs) : W p l e zr_X4_rebuild s m args below meth c H locs 0 0 Q (F0 m 0 ls []) := by
  obtain ⟨hx, hb, hml, hown, hts, hK, hA⟩ := id C
  unfold zf_X4_rebuild at h
  refine lv_aload_n hx hb dX4_rebuild_0 rfl (lv_at hl 0 rfl) ?_
  refine va_get (D := D) (ci := 4) (v := .int ((S.1 23))) (C := RX4) (T := TX4) (N := 12) hx hb hts (zi_X4 _) hown hK hP 46 rfl rfl 10 (by decide) (hts _ (List.mem_cons_of_mem _ zt_f_X4_41)) (fun _ h9 => h9) rfl dX4_rebuild_1 ?_
  refine lv_iconst (v := (1 : Int32)) hx hb dX4_rebuild_4 (by decide) ?_
  refine lv_isub hx hb dX4_rebuild_5 ?_
  refine lv_topi (fun x1 ex1 => ?_)
  replace h := mq_nI_go ex1 h
  refine lv_istore_n (lv' := [(2, .int (x1)), (0, .ref (a 46)), (1, .int (v1))]) hx hb dX4_rebuild_6 rfl hl (by decide) rfl (fun ls hl => ?_)
  exact zw_X4_rebuild_7 C hret N (v1) (x1) S H locs ls h (lv_sub hl [1, 2, 0] rfl) hP hD hS
set_option maxHeartbeats 4000000 in
set_option maxRecDepth 100000 in
theorem zm_X4_rebuild (l : Launch) (D : va_G) (a z : Nat → Nat) (cI cL cB cZ : ClassId) (sz N : Nat) (v1 : Int32) (S : mq_St) (res : Unit × mq_St) (h : zf_X4_rebuild N z v1 S = some res) : Met l yX4_rebuild (zc_X4_rebuild :: mq_T) zr_X4_rebuild (va_Pc [.ref (a 46), .int (v1)] (fun U => U.heap.size = sz ∧ va_P D vwCl (wd_C a cI cL cB cZ z S) U.heap ∧ va_K D vwCl (mq_tys cI cL cB cZ) U ∧ va_D (fun _ => True) (wd_C a cI cL cB cZ z S))) (va_Qv (fun u : mq_St => u = res.2) (fun u t => va_P D vwCl (wd_C a cI cL cB cZ z u) t.heap ∧ va_K D vwCl (mq_tys cI cL cB cZ) t ∧ va_D (va_A (wd_C a cI cL cB cZ z S) sz) (wd_C a cI cL cB cZ z u)) (va_A (wd_C a cI cL cB cZ z S) sz)) 0 0 (va_A (wd_C a cI cL cB cZ z S) sz) := by
  refine Met.ofW (cc := cX4_rebuild) (maxL := 4) (ret := none) (by decide) rfl ?_
  intro p e s m args below meth c s₁ B hml hv
  obtain ⟨rfl, hsz, hP, hK, hD0⟩ := hv
  have hr := B.returns
  have hlocks := B.notSynchronized
  have hts := atoms_spec (ws := zc_X4_rebuild :: mq_T) B.pre
  have hown : s.vm.findClass RX4 = some m.cls := findClass_of_methodNamed B.named
  subst hsz
  have hD := hD0.self (sz := s.heap.size)
  generalize hAe : va_A (wd_C a cI cL cB cZ z S) s.heap.size = A at hD ⊢
  have hA : ∀ q : Nat, s.heap.size ≤ q → A q := fun q h => by rw [← hAe]; exact Or.inr h
  have hl := lv_entry ([.ref (a 46), .int (v1)]) (n := 4) (Nat.le_of_ble_eq_true rfl)
  rw [lg_entry_eq]
  generalize (lg_sl ([.ref (a 46), .int (v1)]) ++ List.replicate (4 - (lg_sl ([.ref (a 46), .int (v1)])).length) Slot.unset).toArray = ls at hl ⊢
  have hl : lv_has ls 4 [(0, .ref (a 46)), (1, .int (v1))] := hl
  refine zw_X4_rebuild_0 (A := A) ⟨B.exec, B.bytes, hml, hown, hts, hK, hA⟩ (fun H locs ls pc dg hP hD hS => ?_) v1 S s.heap [] ls h hl hP hD va_S.rf
  exact W.vret B.exec B.bytes hr (fun t ht hW => ⟨⟨_, rfl, rfl, by rw [ht]; exact hP, va_K.moved hW.alike hK, hD⟩, hS.F ht⟩) hS.2.2 dg
theorem zt_X4_rebuild_c : zc_X4_rebuild ∈ mq_T := mq_T_mem (mq_t5 (List.mem_of_getElem? (i := 6) rfl)) rfl
theorem zt_X4_rebuild_i : Cond.instanceMethod yX4_rebuild ∈ mq_T := mq_T_mem (mq_t5 (List.mem_of_getElem? (i := 5) rfl)) rfl
theorem zt_X4_rebuild_s : Cond.selects RX4 yX4_rebuild yX4_rebuild ∈ mq_T := mq_T_at 57 (by decide +kernel)
set_option maxHeartbeats 4000000 in
theorem zk_X4_rebuild {p : Program} {l : Launch} {e : Env} {R : Room} {s : State} {m : MethodId} {args : Array Value} {below : List Frame} {meth : Method} {c : Code} {A : Nat → Prop} {D : va_G} {a z : Nat → Nat} {cI cL cB cZ : ClassId} {Q : State → Prop} {cc : ByteArray} {nL idx pc N : Nat} {own : String} {c1 : Cond} {H : Heap} {locs : List Loc} {ls : Array Slot} {rest : List Value} {S : mq_St} {res : Unit × mq_St} {v1 : Int32} (C : mq_C p s m args c A D cI cL cB cZ cc nL own c1) (hlk : Cond.methodLink own idx yX4_rebuild ∈ mq_T) (hR : zr_X4_rebuild.frames + 1 ≤ R.frames ∧ 8 + (4 + 11) + zr_X4_rebuild.locals ≤ R.locals) (h : zf_X4_rebuild N z v1 S = some res) (hP : va_P D vwCl (wd_C a cI cL cB cZ z S) H) (hD : va_D A (wd_C a cI cL cB cZ z S)) (hS : va_S A s.heap H locs) (hls : ls.size = nL) (hrest : (rest.map fun v => v.category).sum ≤ 8) (hdg : decode cc pc = .ok (.invokevirtual idx, 3)) (kk : ∀ (H1 : Heap) (locs1 : List Loc), va_P D vwCl (wd_C a cI cL cB cZ z res.2) H1 → va_D A (wd_C a cI cL cB cZ z res.2) → va_S A s.heap H1 locs1 → W p l e R s m args below meth c H1 locs1 0 0 Q (F0 m (pc + 3) ls rest)) : W p l e R s m args below meth c H locs 0 0 Q (F0 m pc ls (.int (v1) :: .ref (a 46) :: rest)) := by
  obtain ⟨hx, hb, hml, hown, hts, hK, hA⟩ := C
  have hFc := mq_freeI hD hS hA
  refine va_callv (va_runV (As := [.int (v1)]) (rest := rest) ⟨hx, hb, hml, hown, hts⟩ (zm_X4_rebuild l D a z cI cL cB cZ H.size N v1 S res h) (cwV 1 hts (mq_goodL (mq_wsV hlk zt_X4_rebuild_i zt_X4_rebuild_s zt_ini_X4 zt_X4_rebuild_c)) rfl rfl rfl (by decide +kernel) hR) ⟨fun a U g mk q => ⟨q.1, q.2.1, q.2.2.1, va_K.moved (u := U) (U := U.calling g mk a) (Vm.Alike.refl U.vm) q.2.2.2.1, q.2.2.2.2⟩, zy_C_46 hK hP, fun U hU hW => ⟨rfl, by rw [hU], by rw [hU]; exact hP, va_K.moved hW.alike hK, hD.weaken (fun _ _ _ _ => trivial)⟩⟩ rfl rfl hls rfl (lv_room hrest) hdg ⟨Nat.zero_le _, Nat.zero_le _⟩) hS (fun q _ h => hFc q h) hFc (fun u t H1 locs ht hvm hw hB hz1 hk1 hS => ?_)
  subst hw
  obtain ⟨hP1, hK1, hD1⟩ := hB
  rw [ht] at hP1
  exact kk H1 locs hP1 (hD1.weaken (fun _ _ _ h => hFc _ h)) hS
theorem zt_m_X4_87 : Cond.methodLink RX4 87 yX4_rebuild ∈ mq_T := mq_T_mem (mq_t5 (List.mem_of_getElem? (i := 3) rfl)) rfl
theorem zs_wd_C_a_51_26 (a z : Nat → Nat) (cI cL cB cZ : ClassId) (S : mq_St) (f : Nat → Int32) : (wd_C a cI cL cB cZ z S).set 51 (a 51, .inl (cI, 60, .inl f)) = (wd_C a cI cL cB cZ z (mq_sa S 26 f)) := rfl
/-! ModalDesk$Model.cutTo(I)V -/
def zr_X4_cutTo : Room := { frames := 2, cells := 0, slots := 0, locals := 48 }
def zc_X4_cutTo : Cond := .code yX4_cutTo cX4_cutTo 4 none
def zf_X4_cutTo_53 (N : Nat) (z : Nat → Nat) (k4 : Int32 → Int32 → Int32 → mq_St → Option (Unit × mq_St)) (v1 : Int32) (v2 : Int32) (v3 : Int32) (S : mq_St) : Option (Unit × mq_St) := (mq_nI (v3 + (1 : Int32)) (fun x18 => (k4 (v1) (v2) (x18) S)))
def zf_X4_cutTo_4b (N : Nat) (z : Nat → Nat) (k4 : Int32 → Int32 → Int32 → mq_St → Option (Unit × mq_St)) (v1 : Int32) (v2 : Int32) (v3 : Int32) (S : mq_St) : Option (Unit × mq_St) := (if (S.1 23) ≤ v3 then (mq_cl (zf_X4_rebuild N z (v2) S) (fun q3v S5 => (some ((), S5)))) else (mq_ck (v3) 60 (mq_nS (mq_sa S 26 (upd (S.2.1 26) (v3).toNatClampNeg ((-1 : Int32)))) (fun S7 => (if v3 = v1 then (mq_ck (v3) 60 (mq_nS (mq_sa S7 26 (upd (S7.2.1 26) (v3).toNatClampNeg ((0 : Int32)))) (fun S15 => (zf_X4_cutTo_53 N z k4 (v1) (v2) (v3) S15)))) else (mq_cp (zf_X4_isSeen N z (v1) (v3) S7) (fun q8 => (if q8 = (0 : Int32) then (zf_X4_cutTo_53 N z k4 (v1) (v2) (v3) S7) else (mq_ck (v3) 60 (mq_nS (mq_sa S7 26 (upd (S7.2.1 26) (v3).toNatClampNeg (v2))) (fun S11 => (mq_nI (v2 + (1 : Int32)) (fun x12 => (zf_X4_cutTo_53 N z k4 (v1) (x12) (v3) S11))))))))))))))
def zf_X4_cutTo_4 (N : Nat) (z : Nat → Nat) : Nat → Int32 → Int32 → Int32 → mq_St → Option (Unit × mq_St)
  | 0, _, _, _, _ => none
  | n + 1, v1, v2, v3, S => zf_X4_cutTo_4b N z (fun v1 v2 v3 S => zf_X4_cutTo_4 N z n v1 v2 v3 S) v1 v2 v3 S
def zf_X4_cutTo (N : Nat) (z : Nat → Nat) (v1 : Int32) (S : mq_St) : Option (Unit × mq_St) := (mq_nI ((1 : Int32)) (fun x1 => (mq_nI ((0 : Int32)) (fun x2 => (zf_X4_cutTo_4 N z N (v1) (x1) (x2) S)))))
set_option maxHeartbeats 4000000 in
set_option maxRecDepth 100000 in
theorem zw_X4_cutTo_53 {p : Program} {l : Launch} {e : Env} {s : State} {m : MethodId} {args : Array Value} {below : List Frame} {meth : Method} {c : Code} {A : Nat → Prop} {D : va_G} {a z : Nat → Nat} {cI cL cB cZ : ClassId} {Q : State → Prop} {N : Nat} {res : Unit × mq_St} {k4 : Int32 → Int32 → Int32 → mq_St → Option (Unit × mq_St)} (C : mq_C p s m args c A D cI cL cB cZ cX4_cutTo 4 RX4 zc_X4_cutTo) (hret : ∀ (H : Heap) (locs : List Loc) (ls : Array Slot) (pc : Nat), decode cX4_cutTo pc = .ok (.return_, 1) → va_P D vwCl (wd_C a cI cL cB cZ z res.2) H → va_D A (wd_C a cI cL cB cZ z res.2) → va_S A s.heap H locs → W p l e zr_X4_cutTo s m args below meth c H locs 0 0 Q (F0 m pc ls [])) (hk4 : ∀ (v1 : Int32) (v2 : Int32) (v3 : Int32) (S : mq_St) (H : Heap) (locs : List Loc) (ls : Array Slot), k4 v1 v2 v3 S = some res → lv_has ls 4 [(0, .ref (a 46)), (1, .int (v1)), (2, .int (v2)), (3, .int (v3))] → va_P D vwCl (wd_C a cI cL cB cZ z S) H → va_D A (wd_C a cI cL cB cZ z S) → va_S A s.heap H locs → W p l e zr_X4_cutTo s m args below meth c H locs 0 0 Q (F0 m 4 ls [])) (v1 : Int32) (v2 : Int32) (v3 : Int32) (S : mq_St) (H : Heap) (locs : List Loc) (ls : Array Slot) (h : zf_X4_cutTo_53 N z k4 v1 v2 v3 S = some res) (hl : lv_has ls 4 [(0, .ref (a 46)), (1, .int (v1)), (2, .int (v2)), (3, .int (v3))]) (hP : va_P D vwCl (wd_C a cI cL cB cZ z S) H) (hD : va_D A (wd_C a cI cL cB cZ z S)) (hS : va_S A s.heap H locs) : W p l e zr_X4_cutTo s m args below meth c H locs 0 0 Q (F0 m 53 ls []) := by
  obtain ⟨hx, hb, hml, hown, hts, hK, hA⟩ := id C
  unfold zf_X4_cutTo_53 at h
  obtain ⟨x18, ex18⟩ : ∃ y : Int32, y = v3 + (1 : Int32) := ⟨_, rfl⟩
  replace h := mq_nI_go ex18 h
  refine lv_iinc (v := x18) (lv' := [(3, .int (x18)), (0, .ref (a 46)), (1, .int (v1)), (2, .int (v2))]) hx hb dX4_cutTo_53 hl (k := 3) rfl (by rw [ex18]; rfl) (by decide) rfl (fun ls hl => ?_)
  refine lv_goto (tgt := 4) hx hb dX4_cutTo_56 (by decide) ?_
  exact hk4 (v1) (v2) (x18) S H locs ls h (lv_sub hl [1, 2, 3, 0] rfl) hP hD hS
set_option maxHeartbeats 4000000 in
set_option maxRecDepth 100000 in
theorem zw_X4_cutTo_4b {p : Program} {l : Launch} {e : Env} {s : State} {m : MethodId} {args : Array Value} {below : List Frame} {meth : Method} {c : Code} {A : Nat → Prop} {D : va_G} {a z : Nat → Nat} {cI cL cB cZ : ClassId} {Q : State → Prop} {N : Nat} {res : Unit × mq_St} {k4 : Int32 → Int32 → Int32 → mq_St → Option (Unit × mq_St)} (C : mq_C p s m args c A D cI cL cB cZ cX4_cutTo 4 RX4 zc_X4_cutTo) (hret : ∀ (H : Heap) (locs : List Loc) (ls : Array Slot) (pc : Nat), decode cX4_cutTo pc = .ok (.return_, 1) → va_P D vwCl (wd_C a cI cL cB cZ z res.2) H → va_D A (wd_C a cI cL cB cZ z res.2) → va_S A s.heap H locs → W p l e zr_X4_cutTo s m args below meth c H locs 0 0 Q (F0 m pc ls [])) (hk4 : ∀ (v1 : Int32) (v2 : Int32) (v3 : Int32) (S : mq_St) (H : Heap) (locs : List Loc) (ls : Array Slot), k4 v1 v2 v3 S = some res → lv_has ls 4 [(0, .ref (a 46)), (1, .int (v1)), (2, .int (v2)), (3, .int (v3))] → va_P D vwCl (wd_C a cI cL cB cZ z S) H → va_D A (wd_C a cI cL cB cZ z S) → va_S A s.heap H locs → W p l e zr_X4_cutTo s m args below meth c H locs 0 0 Q (F0 m 4 ls [])) (v1 : Int32) (v2 : Int32) (v3 : Int32) (S : mq_St) (H : Heap) (locs : List Loc) (ls : Array Slot) (h : zf_X4_cutTo_4b N z k4 v1 v2 v3 S = some res) (hl : lv_has ls 4 [(0, .ref (a 46)), (1, .int (v1)), (2, .int (v2)), (3, .int (v3))]) (hP : va_P D vwCl (wd_C a cI cL cB cZ z S) H) (hD : va_D A (wd_C a cI cL cB cZ z S)) (hS : va_S A s.heap H locs) : W p l e zr_X4_cutTo s m args below meth c H locs 0 0 Q (F0 m 4 ls []) := by
  obtain ⟨hx, hb, hml, hown, hts, hK, hA⟩ := id C
  unfold zf_X4_cutTo_4b at h
  refine lv_iload_n hx hb dX4_cutTo_4 rfl (lv_at hl 3 rfl) ?_
  refine lv_aload_n hx hb dX4_cutTo_5 rfl (lv_at hl 0 rfl) ?_
  refine va_get (D := D) (ci := 4) (v := .int ((S.1 23))) (C := RX4) (T := TX4) (N := 12) hx hb hts (zi_X4 _) hown hK hP 46 rfl rfl 10 (by decide) (hts _ (List.mem_cons_of_mem _ zt_f_X4_41)) (fun _ h9 => h9) rfl dX4_cutTo_6 ?_
  refine lv_icmp_ge (tgt := 59) hx hb dX4_cutTo_9 (by decide) (fun c17 => ?_) (fun c17 => ?_)
  · replace h := mq_it c17 h
    refine lv_aload_n hx hb dX4_cutTo_59 rfl (lv_at hl 0 rfl) ?_
    refine lv_iload_n hx hb dX4_cutTo_60 rfl (lv_at hl 2 rfl) ?_
    obtain ⟨q3, hc4, h⟩ := mq_cl_go h
    refine zk_X4_rebuild C zt_m_X4_87 ⟨by decide, by decide⟩ hc4 hP hD hS hl.1 (Nat.le_of_ble_eq_true rfl) dX4_cutTo_61 (fun H locs hP hD hS => ?_)
    obtain ⟨S5, eS5⟩ : ∃ y, y = q3.2 := ⟨_, rfl⟩
    rw [← eS5] at hP hD h
    cases h
    exact hret H locs ls 64 dX4_cutTo_64 hP hD hS
  · replace h := mq_if c17 h
    refine lv_aload_n hx hb dX4_cutTo_12 rfl (lv_at hl 0 rfl) ?_
    refine va_get (D := D) (ci := 4) (v := .ref (a 51)) (C := RX4) (T := TX4) (N := 12) hx hb hts (zi_X4 _) hown hK hP 46 rfl rfl 5 (by decide) (hts _ (List.mem_cons_of_mem _ zt_f_X4_25)) (fun _ h9 => h9) rfl dX4_cutTo_13 ?_
    refine lv_iload_n hx hb dX4_cutTo_16 rfl (lv_at hl 3 rfl) ?_
    refine lv_iconst (v := (-1 : Int32)) hx hb dX4_cutTo_17 (by decide) ?_
    have hi6 := mq_ck_in h
    replace h := mq_ck_go h
    refine mq_iast (w := wd_C a cI cL cB cZ z) (S := S) (f := S.2.1 26) hx hb hK hP hD hS 51 0 rfl rfl hi6 dX4_cutTo_18 26 (zs_wd_C_a_51_26 _ _ _ _ _ _ _ _) (fun S7 eS7 H locs hP hD hS => ?_)
    replace h := mq_nS_go eS7 h
    refine lv_iload_n hx hb dX4_cutTo_19 rfl (lv_at hl 3 rfl) ?_
    refine lv_iload_n hx hb dX4_cutTo_20 rfl (lv_at hl 1 rfl) ?_
    refine lv_icmp_ne (tgt := 34) hx hb dX4_cutTo_21 (by decide) (fun c16 => ?_) (fun c16 => ?_)
    · replace h := mq_if c16 h
      refine lv_aload_n hx hb dX4_cutTo_34 rfl (lv_at hl 0 rfl) ?_
      refine lv_iload_n hx hb dX4_cutTo_35 rfl (lv_at hl 1 rfl) ?_
      refine lv_iload_n hx hb dX4_cutTo_36 rfl (lv_at hl 3 rfl) ?_
      obtain ⟨q8, hc9, h⟩ := mq_cp_go h
      refine zk_X4_isSeen C zt_m_X4_52 ⟨by decide, by decide⟩ hc9 hP hD hS hl.1 (Nat.le_of_ble_eq_true rfl) dX4_cutTo_37 (fun H locs hP hD hS => ?_)
      refine lv_if_eq (tgt := 53) hx hb dX4_cutTo_40 (by decide) (fun c13 => ?_) (fun c13 => ?_)
      · replace h := mq_it c13 h
        exact zw_X4_cutTo_53 C hret hk4 (v1) (v2) (v3) S7 H locs ls h (lv_sub hl [0, 1, 2, 3] rfl) hP hD hS
      · replace h := mq_if c13 h
        refine lv_aload_n hx hb dX4_cutTo_43 rfl (lv_at hl 0 rfl) ?_
        refine va_get (D := D) (ci := 4) (v := .ref (a 51)) (C := RX4) (T := TX4) (N := 12) hx hb hts (zi_X4 _) hown hK hP 46 rfl rfl 5 (by decide) (hts _ (List.mem_cons_of_mem _ zt_f_X4_25)) (fun _ h9 => h9) rfl dX4_cutTo_44 ?_
        refine lv_iload_n hx hb dX4_cutTo_47 rfl (lv_at hl 3 rfl) ?_
        refine lv_iload_n hx hb dX4_cutTo_48 rfl (lv_at hl 2 rfl) ?_
        have hi10 := mq_ck_in h
        replace h := mq_ck_go h
        refine mq_iast (w := wd_C a cI cL cB cZ z) (S := S7) (f := S7.2.1 26) hx hb hK hP hD hS 51 0 rfl rfl hi10 dX4_cutTo_49 26 (zs_wd_C_a_51_26 _ _ _ _ _ _ _ _) (fun S11 eS11 H locs hP hD hS => ?_)
        replace h := mq_nS_go eS11 h
        obtain ⟨x12, ex12⟩ : ∃ y : Int32, y = v2 + (1 : Int32) := ⟨_, rfl⟩
        replace h := mq_nI_go ex12 h
        refine lv_iinc (v := x12) (lv' := [(2, .int (x12)), (0, .ref (a 46)), (1, .int (v1)), (3, .int (v3))]) hx hb dX4_cutTo_50 hl (k := 2) rfl (by rw [ex12]; rfl) (by decide) rfl (fun ls hl => ?_)
        exact zw_X4_cutTo_53 C hret hk4 (v1) (x12) (v3) S11 H locs ls h (lv_sub hl [1, 2, 0, 3] rfl) hP hD hS
    · replace h := mq_it (by simpa using c16) h
      refine lv_aload_n hx hb dX4_cutTo_24 rfl (lv_at hl 0 rfl) ?_
      refine va_get (D := D) (ci := 4) (v := .ref (a 51)) (C := RX4) (T := TX4) (N := 12) hx hb hts (zi_X4 _) hown hK hP 46 rfl rfl 5 (by decide) (hts _ (List.mem_cons_of_mem _ zt_f_X4_25)) (fun _ h9 => h9) rfl dX4_cutTo_25 ?_
      refine lv_iload_n hx hb dX4_cutTo_28 rfl (lv_at hl 3 rfl) ?_
      refine lv_iconst (v := (0 : Int32)) hx hb dX4_cutTo_29 (by decide) ?_
      have hi14 := mq_ck_in h
      replace h := mq_ck_go h
      refine mq_iast (w := wd_C a cI cL cB cZ z) (S := S7) (f := S7.2.1 26) hx hb hK hP hD hS 51 0 rfl rfl hi14 dX4_cutTo_30 26 (zs_wd_C_a_51_26 _ _ _ _ _ _ _ _) (fun S15 eS15 H locs hP hD hS => ?_)
      replace h := mq_nS_go eS15 h
      refine lv_goto (tgt := 53) hx hb dX4_cutTo_31 (by decide) ?_
      exact zw_X4_cutTo_53 C hret hk4 (v1) (v2) (v3) S15 H locs ls h (lv_sub hl [0, 1, 2, 3] rfl) hP hD hS
set_option maxHeartbeats 4000000 in
set_option maxRecDepth 100000 in
theorem zw_X4_cutTo_4 {p : Program} {l : Launch} {e : Env} {s : State} {m : MethodId} {args : Array Value} {below : List Frame} {meth : Method} {c : Code} {A : Nat → Prop} {D : va_G} {a z : Nat → Nat} {cI cL cB cZ : ClassId} {Q : State → Prop} {N : Nat} {res : Unit × mq_St} (C : mq_C p s m args c A D cI cL cB cZ cX4_cutTo 4 RX4 zc_X4_cutTo) (hret : ∀ (H : Heap) (locs : List Loc) (ls : Array Slot) (pc : Nat), decode cX4_cutTo pc = .ok (.return_, 1) → va_P D vwCl (wd_C a cI cL cB cZ z res.2) H → va_D A (wd_C a cI cL cB cZ z res.2) → va_S A s.heap H locs → W p l e zr_X4_cutTo s m args below meth c H locs 0 0 Q (F0 m pc ls [])) : ∀ (n : Nat) (v1 : Int32) (v2 : Int32) (v3 : Int32) (S : mq_St) (H : Heap) (locs : List Loc) (ls : Array Slot) (h : zf_X4_cutTo_4 N z n v1 v2 v3 S = some res) (hl : lv_has ls 4 [(0, .ref (a 46)), (1, .int (v1)), (2, .int (v2)), (3, .int (v3))]) (hP : va_P D vwCl (wd_C a cI cL cB cZ z S) H) (hD : va_D A (wd_C a cI cL cB cZ z S)) (hS : va_S A s.heap H locs), W p l e zr_X4_cutTo s m args below meth c H locs 0 0 Q (F0 m 4 ls []) := by
  intro n
  induction n with
  | zero =>
    intro v1 v2 v3 S H locs ls h hl hP hD hS
    exact nomatch (show (none : Option (Unit × mq_St)) = some res from h)
  | succ n ih =>
    intro v1 v2 v3 S H locs ls h hl hP hD hS
    exact zw_X4_cutTo_4b C hret (fun v1 v2 v3 S H locs ls h hl hP hD hS => ih v1 v2 v3 S H locs ls h hl hP hD hS) v1 v2 v3 S H locs ls h hl hP hD hS
set_option maxHeartbeats 4000000 in
set_option maxRecDepth 100000 in
theorem zw_X4_cutTo_0 {p : Program} {l : Launch} {e : Env} {s : State} {m : MethodId} {args : Array Value} {below : List Frame} {meth : Method} {c : Code} {A : Nat → Prop} {D : va_G} {a z : Nat → Nat} {cI cL cB cZ : ClassId} {Q : State → Prop} {N : Nat} {res : Unit × mq_St} (C : mq_C p s m args c A D cI cL cB cZ cX4_cutTo 4 RX4 zc_X4_cutTo) (hret : ∀ (H : Heap) (locs : List Loc) (ls : Array Slot) (pc : Nat), decode cX4_cutTo pc = .ok (.return_, 1) → va_P D vwCl (wd_C a cI cL cB cZ z res.2) H → va_D A (wd_C a cI cL cB cZ z res.2) → va_S A s.heap H locs → W p l e zr_X4_cutTo s m args below meth c H locs 0 0 Q (F0 m pc ls [])) (v1 : Int32) (S : mq_St) (H : Heap) (locs : List Loc) (ls : Array Slot) (h : zf_X4_cutTo N z v1 S = some res) (hl : lv_has ls 4 [(0, .ref (a 46)), (1, .int (v1))]) (hP : va_P D vwCl (wd_C a cI cL cB cZ z S) H) (hD : va_D A (wd_C a cI cL cB cZ z S)) (hS : va_S A s.heap H locs) : W p l e zr_X4_cutTo s m args below meth c H locs 0 0 Q (F0 m 0 ls []) := by
  obtain ⟨hx, hb, hml, hown, hts, hK, hA⟩ := id C
  unfold zf_X4_cutTo at h
  refine lv_iconst (v := (1 : Int32)) hx hb dX4_cutTo_0 (by decide) ?_
  refine lv_topi (fun x1 ex1 => ?_)
  replace h := mq_nI_go ex1 h
  refine lv_istore_n (lv' := [(2, .int (x1)), (0, .ref (a 46)), (1, .int (v1))]) hx hb dX4_cutTo_1 rfl hl (by decide) rfl (fun ls hl => ?_)
  refine lv_iconst (v := (0 : Int32)) hx hb dX4_cutTo_2 (by decide) ?_
  refine lv_topi (fun x2 ex2 => ?_)
  replace h := mq_nI_go ex2 h
  refine lv_istore_n (lv' := [(3, .int (x2)), (2, .int (x1)), (0, .ref (a 46)), (1, .int (v1))]) hx hb dX4_cutTo_3 rfl hl (by decide) rfl (fun ls hl => ?_)
  exact zw_X4_cutTo_4 C hret N (v1) (x1) (x2) S H locs ls h (lv_sub hl [2, 3, 1, 0] rfl) hP hD hS
set_option maxHeartbeats 4000000 in
set_option maxRecDepth 100000 in
theorem zm_X4_cutTo (l : Launch) (D : va_G) (a z : Nat → Nat) (cI cL cB cZ : ClassId) (sz N : Nat) (v1 : Int32) (S : mq_St) (res : Unit × mq_St) (h : zf_X4_cutTo N z v1 S = some res) : Met l yX4_cutTo (zc_X4_cutTo :: mq_T) zr_X4_cutTo (va_Pc [.ref (a 46), .int (v1)] (fun U => U.heap.size = sz ∧ va_P D vwCl (wd_C a cI cL cB cZ z S) U.heap ∧ va_K D vwCl (mq_tys cI cL cB cZ) U ∧ va_D (fun _ => True) (wd_C a cI cL cB cZ z S))) (va_Qv (fun u : mq_St => u = res.2) (fun u t => va_P D vwCl (wd_C a cI cL cB cZ z u) t.heap ∧ va_K D vwCl (mq_tys cI cL cB cZ) t ∧ va_D (va_A (wd_C a cI cL cB cZ z S) sz) (wd_C a cI cL cB cZ z u)) (va_A (wd_C a cI cL cB cZ z S) sz)) 0 0 (va_A (wd_C a cI cL cB cZ z S) sz) := by
  refine Met.ofW (cc := cX4_cutTo) (maxL := 4) (ret := none) (by decide) rfl ?_
  intro p e s m args below meth c s₁ B hml hv
  obtain ⟨rfl, hsz, hP, hK, hD0⟩ := hv
  have hr := B.returns
  have hlocks := B.notSynchronized
  have hts := atoms_spec (ws := zc_X4_cutTo :: mq_T) B.pre
  have hown : s.vm.findClass RX4 = some m.cls := findClass_of_methodNamed B.named
  subst hsz
  have hD := hD0.self (sz := s.heap.size)
  generalize hAe : va_A (wd_C a cI cL cB cZ z S) s.heap.size = A at hD ⊢
  have hA : ∀ q : Nat, s.heap.size ≤ q → A q := fun q h => by rw [← hAe]; exact Or.inr h
  have hl := lv_entry ([.ref (a 46), .int (v1)]) (n := 4) (Nat.le_of_ble_eq_true rfl)
  rw [lg_entry_eq]
  generalize (lg_sl ([.ref (a 46), .int (v1)]) ++ List.replicate (4 - (lg_sl ([.ref (a 46), .int (v1)])).length) Slot.unset).toArray = ls at hl ⊢
  have hl : lv_has ls 4 [(0, .ref (a 46)), (1, .int (v1))] := hl
  refine zw_X4_cutTo_0 (A := A) ⟨B.exec, B.bytes, hml, hown, hts, hK, hA⟩ (fun H locs ls pc dg hP hD hS => ?_) v1 S s.heap [] ls h hl hP hD va_S.rf
  exact W.vret B.exec B.bytes hr (fun t ht hW => ⟨⟨_, rfl, rfl, by rw [ht]; exact hP, va_K.moved hW.alike hK, hD⟩, hS.F ht⟩) hS.2.2 dg
theorem zt_X4_cutTo_c : zc_X4_cutTo ∈ mq_T := mq_T_mem (mq_t5 (List.mem_of_getElem? (i := 158) rfl)) rfl
theorem zt_X4_cutTo_i : Cond.instanceMethod yX4_cutTo ∈ mq_T := mq_T_mem (mq_t5 (List.mem_of_getElem? (i := 156) rfl)) rfl
theorem zt_X4_cutTo_s : Cond.selects RX4 yX4_cutTo yX4_cutTo ∈ mq_T := mq_T_mem (mq_t5 (List.mem_of_getElem? (i := 157) rfl)) rfl
set_option maxHeartbeats 4000000 in
theorem zk_X4_cutTo {p : Program} {l : Launch} {e : Env} {R : Room} {s : State} {m : MethodId} {args : Array Value} {below : List Frame} {meth : Method} {c : Code} {A : Nat → Prop} {D : va_G} {a z : Nat → Nat} {cI cL cB cZ : ClassId} {Q : State → Prop} {cc : ByteArray} {nL idx pc N : Nat} {own : String} {c1 : Cond} {H : Heap} {locs : List Loc} {ls : Array Slot} {rest : List Value} {S : mq_St} {res : Unit × mq_St} {v1 : Int32} (C : mq_C p s m args c A D cI cL cB cZ cc nL own c1) (hlk : Cond.methodLink own idx yX4_cutTo ∈ mq_T) (hR : zr_X4_cutTo.frames + 1 ≤ R.frames ∧ 8 + (4 + 11) + zr_X4_cutTo.locals ≤ R.locals) (h : zf_X4_cutTo N z v1 S = some res) (hP : va_P D vwCl (wd_C a cI cL cB cZ z S) H) (hD : va_D A (wd_C a cI cL cB cZ z S)) (hS : va_S A s.heap H locs) (hls : ls.size = nL) (hrest : (rest.map fun v => v.category).sum ≤ 8) (hdg : decode cc pc = .ok (.invokevirtual idx, 3)) (kk : ∀ (H1 : Heap) (locs1 : List Loc), va_P D vwCl (wd_C a cI cL cB cZ z res.2) H1 → va_D A (wd_C a cI cL cB cZ z res.2) → va_S A s.heap H1 locs1 → W p l e R s m args below meth c H1 locs1 0 0 Q (F0 m (pc + 3) ls rest)) : W p l e R s m args below meth c H locs 0 0 Q (F0 m pc ls (.int (v1) :: .ref (a 46) :: rest)) := by
  obtain ⟨hx, hb, hml, hown, hts, hK, hA⟩ := C
  have hFc := mq_freeI hD hS hA
  refine va_callv (va_runV (As := [.int (v1)]) (rest := rest) ⟨hx, hb, hml, hown, hts⟩ (zm_X4_cutTo l D a z cI cL cB cZ H.size N v1 S res h) (cwV 1 hts (mq_goodL (mq_wsV hlk zt_X4_cutTo_i zt_X4_cutTo_s zt_ini_X4 zt_X4_cutTo_c)) rfl rfl rfl (by decide +kernel) hR) ⟨fun a U g mk q => ⟨q.1, q.2.1, q.2.2.1, va_K.moved (u := U) (U := U.calling g mk a) (Vm.Alike.refl U.vm) q.2.2.2.1, q.2.2.2.2⟩, zy_C_46 hK hP, fun U hU hW => ⟨rfl, by rw [hU], by rw [hU]; exact hP, va_K.moved hW.alike hK, hD.weaken (fun _ _ _ _ => trivial)⟩⟩ rfl rfl hls rfl (lv_room hrest) hdg ⟨Nat.zero_le _, Nat.zero_le _⟩) hS (fun q _ h => hFc q h) hFc (fun u t H1 locs ht hvm hw hB hz1 hk1 hS => ?_)
  subst hw
  obtain ⟨hP1, hK1, hD1⟩ := hB
  rw [ht] at hP1
  exact kk H1 locs hP1 (hD1.weaken (fun _ _ _ h => hFc _ h)) hS
/-! ModalDesk$Model.leastLike(I)I -/
def zr_X4_leastLike : Room := { frames := 0, cells := 0, slots := 0, locals := 0 }
def zc_X4_leastLike : Cond := .code yX4_leastLike cX4_leastLike 3 (some .int)
def zf_X4_leastLike_40 (N : Nat) (z : Nat → Nat) (S : mq_St) (k2 : Int32 → Int32 → Option (Int32)) (v1 : Int32) (v2 : Int32) : Option (Int32) := (mq_nI (v2 + (1 : Int32)) (fun x9 => (k2 (v1) (x9))))
def zf_X4_leastLike_2b (N : Nat) (z : Nat → Nat) (S : mq_St) (k2 : Int32 → Int32 → Option (Int32)) (v1 : Int32) (v2 : Int32) : Option (Int32) := (if v1 ≤ v2 then (some (v1)) else (mq_ck (v2) 60 (mq_ck (v1) 60 (if (S.2.1 26 (v2).toNatClampNeg) = (S.2.1 26 (v1).toNatClampNeg) then (mq_ck (v2) 60 (mq_ck (v1) 60 (if (lg_cmp (S.2.2 8 (v2).toNatClampNeg) (S.2.2 8 (v1).toNatClampNeg)) = (0 : Int32) then (some (v2)) else (zf_X4_leastLike_40 N z S k2 (v1) (v2))))) else (zf_X4_leastLike_40 N z S k2 (v1) (v2))))))
def zf_X4_leastLike_2 (N : Nat) (z : Nat → Nat) (S : mq_St) : Nat → Int32 → Int32 → Option (Int32)
  | 0, _, _ => none
  | n + 1, v1, v2 => zf_X4_leastLike_2b N z S (fun v1 v2 => zf_X4_leastLike_2 N z S n v1 v2) v1 v2
def zf_X4_leastLike (N : Nat) (z : Nat → Nat) (v1 : Int32) (S : mq_St) : Option (Int32) := (mq_nI ((0 : Int32)) (fun x1 => (zf_X4_leastLike_2 N z S N (v1) (x1))))
set_option maxHeartbeats 4000000 in
set_option maxRecDepth 100000 in
theorem zw_X4_leastLike_40 {p : Program} {l : Launch} {e : Env} {s : State} {m : MethodId} {args : Array Value} {below : List Frame} {meth : Method} {c : Code} {A : Nat → Prop} {D : va_G} {a z : Nat → Nat} {cI cL cB cZ : ClassId} {Q : State → Prop} {N : Nat} {S : mq_St} {res : Int32} {k2 : Int32 → Int32 → Option (Int32)} (C : mq_C p s m args c A D cI cL cB cZ cX4_leastLike 3 RX4 zc_X4_leastLike) (hret : ∀ (H : Heap) (locs : List Loc) (ls : Array Slot) (pc : Nat), decode cX4_leastLike pc = .ok (.ireturn, 1) → va_P D vwCl (wd_C a cI cL cB cZ z S) H → va_D A (wd_C a cI cL cB cZ z S) → va_S A s.heap H locs → W p l e zr_X4_leastLike s m args below meth c H locs 0 0 Q (F0 m pc ls [.int res])) (hk2 : ∀ (v1 : Int32) (v2 : Int32) (H : Heap) (locs : List Loc) (ls : Array Slot), k2 v1 v2 = some res → lv_has ls 3 [(0, .ref (a 46)), (1, .int (v1)), (2, .int (v2))] → va_P D vwCl (wd_C a cI cL cB cZ z S) H → va_D A (wd_C a cI cL cB cZ z S) → va_S A s.heap H locs → W p l e zr_X4_leastLike s m args below meth c H locs 0 0 Q (F0 m 2 ls [])) (v1 : Int32) (v2 : Int32) (H : Heap) (locs : List Loc) (ls : Array Slot) (h : zf_X4_leastLike_40 N z S k2 v1 v2 = some res) (hl : lv_has ls 3 [(0, .ref (a 46)), (1, .int (v1)), (2, .int (v2))]) (hP : va_P D vwCl (wd_C a cI cL cB cZ z S) H) (hD : va_D A (wd_C a cI cL cB cZ z S)) (hS : va_S A s.heap H locs) : W p l e zr_X4_leastLike s m args below meth c H locs 0 0 Q (F0 m 40 ls []) := by
  obtain ⟨hx, hb, hml, hown, hts, hK, hA⟩ := id C
  unfold zf_X4_leastLike_40 at h
  obtain ⟨x9, ex9⟩ : ∃ y : Int32, y = v2 + (1 : Int32) := ⟨_, rfl⟩
  replace h := mq_nI_go ex9 h
  refine lv_iinc (v := x9) (lv' := [(2, .int (x9)), (0, .ref (a 46)), (1, .int (v1))]) hx hb dX4_leastLike_40 hl (k := 2) rfl (by rw [ex9]; rfl) (by decide) rfl (fun ls hl => ?_)
  refine lv_goto (tgt := 2) hx hb dX4_leastLike_43 (by decide) ?_
  exact hk2 (v1) (x9) H locs ls h (lv_sub hl [1, 2, 0] rfl) hP hD hS
set_option maxHeartbeats 4000000 in
set_option maxRecDepth 100000 in
theorem zw_X4_leastLike_2b {p : Program} {l : Launch} {e : Env} {s : State} {m : MethodId} {args : Array Value} {below : List Frame} {meth : Method} {c : Code} {A : Nat → Prop} {D : va_G} {a z : Nat → Nat} {cI cL cB cZ : ClassId} {Q : State → Prop} {N : Nat} {S : mq_St} {res : Int32} {k2 : Int32 → Int32 → Option (Int32)} (C : mq_C p s m args c A D cI cL cB cZ cX4_leastLike 3 RX4 zc_X4_leastLike) (hret : ∀ (H : Heap) (locs : List Loc) (ls : Array Slot) (pc : Nat), decode cX4_leastLike pc = .ok (.ireturn, 1) → va_P D vwCl (wd_C a cI cL cB cZ z S) H → va_D A (wd_C a cI cL cB cZ z S) → va_S A s.heap H locs → W p l e zr_X4_leastLike s m args below meth c H locs 0 0 Q (F0 m pc ls [.int res])) (hk2 : ∀ (v1 : Int32) (v2 : Int32) (H : Heap) (locs : List Loc) (ls : Array Slot), k2 v1 v2 = some res → lv_has ls 3 [(0, .ref (a 46)), (1, .int (v1)), (2, .int (v2))] → va_P D vwCl (wd_C a cI cL cB cZ z S) H → va_D A (wd_C a cI cL cB cZ z S) → va_S A s.heap H locs → W p l e zr_X4_leastLike s m args below meth c H locs 0 0 Q (F0 m 2 ls [])) (v1 : Int32) (v2 : Int32) (H : Heap) (locs : List Loc) (ls : Array Slot) (h : zf_X4_leastLike_2b N z S k2 v1 v2 = some res) (hl : lv_has ls 3 [(0, .ref (a 46)), (1, .int (v1)), (2, .int (v2))]) (hP : va_P D vwCl (wd_C a cI cL cB cZ z S) H) (hD : va_D A (wd_C a cI cL cB cZ z S)) (hS : va_S A s.heap H locs) : W p l e zr_X4_leastLike s m args below meth c H locs 0 0 Q (F0 m 2 ls []) := by
  obtain ⟨hx, hb, hml, hown, hts, hK, hA⟩ := id C
  unfold zf_X4_leastLike_2b at h
  refine lv_iload_n hx hb dX4_leastLike_2 rfl (lv_at hl 2 rfl) ?_
  refine lv_iload_n hx hb dX4_leastLike_3 rfl (lv_at hl 1 rfl) ?_
  refine lv_icmp_ge (tgt := 46) hx hb dX4_leastLike_4 (by decide) (fun c8 => ?_) (fun c8 => ?_)
  · replace h := mq_it c8 h
    refine lv_iload_n hx hb dX4_leastLike_46 rfl (lv_at hl 1 rfl) ?_
    cases h
    exact hret H locs ls 47 dX4_leastLike_47 hP hD hS
  · replace h := mq_if c8 h
    refine lv_aload_n hx hb dX4_leastLike_7 rfl (lv_at hl 0 rfl) ?_
    refine va_get (D := D) (ci := 4) (v := .ref (a 51)) (C := RX4) (T := TX4) (N := 12) hx hb hts (zi_X4 _) hown hK hP 46 rfl rfl 5 (by decide) (hts _ (List.mem_cons_of_mem _ zt_f_X4_25)) (fun _ h9 => h9) rfl dX4_leastLike_8 ?_
    refine lv_iload_n hx hb dX4_leastLike_11 rfl (lv_at hl 2 rfl) ?_
    have hi2 := mq_ck_in h
    replace h := mq_ck_go h
    refine va_iald (f := S.2.1 26) hx hb hK hP 51 0 rfl rfl hi2 dX4_leastLike_12 ?_
    refine lv_aload_n hx hb dX4_leastLike_13 rfl (lv_at hl 0 rfl) ?_
    refine va_get (D := D) (ci := 4) (v := .ref (a 51)) (C := RX4) (T := TX4) (N := 12) hx hb hts (zi_X4 _) hown hK hP 46 rfl rfl 5 (by decide) (hts _ (List.mem_cons_of_mem _ zt_f_X4_25)) (fun _ h9 => h9) rfl dX4_leastLike_14 ?_
    refine lv_iload_n hx hb dX4_leastLike_17 rfl (lv_at hl 1 rfl) ?_
    have hi3 := mq_ck_in h
    replace h := mq_ck_go h
    refine va_iald (f := S.2.1 26) hx hb hK hP 51 0 rfl rfl hi3 dX4_leastLike_18 ?_
    refine lv_icmp_ne (tgt := 40) hx hb dX4_leastLike_19 (by decide) (fun c7 => ?_) (fun c7 => ?_)
    · replace h := mq_if c7 h
      exact zw_X4_leastLike_40 C hret hk2 (v1) (v2) H locs ls h (lv_sub hl [0, 1, 2] rfl) hP hD hS
    · replace h := mq_it (by simpa using c7) h
      refine lv_aload_n hx hb dX4_leastLike_22 rfl (lv_at hl 0 rfl) ?_
      refine va_get (D := D) (ci := 4) (v := .ref (a 53)) (C := RX4) (T := TX4) (N := 12) hx hb hts (zi_X4 _) hown hK hP 46 rfl rfl 7 (by decide) (hts _ (List.mem_cons_of_mem _ zt_f_X4_31)) (fun _ h9 => h9) rfl dX4_leastLike_23 ?_
      refine lv_iload_n hx hb dX4_leastLike_26 rfl (lv_at hl 2 rfl) ?_
      have hi4 := mq_ck_in h
      replace h := mq_ck_go h
      refine va_lald (f := S.2.2 8) hx hb hK hP 53 1 rfl rfl hi4 dX4_leastLike_27 ?_
      refine lv_aload_n hx hb dX4_leastLike_28 rfl (lv_at hl 0 rfl) ?_
      refine va_get (D := D) (ci := 4) (v := .ref (a 53)) (C := RX4) (T := TX4) (N := 12) hx hb hts (zi_X4 _) hown hK hP 46 rfl rfl 7 (by decide) (hts _ (List.mem_cons_of_mem _ zt_f_X4_31)) (fun _ h9 => h9) rfl dX4_leastLike_29 ?_
      refine lv_iload_n hx hb dX4_leastLike_32 rfl (lv_at hl 1 rfl) ?_
      have hi5 := mq_ck_in h
      replace h := mq_ck_go h
      refine va_lald (f := S.2.2 8) hx hb hK hP 53 1 rfl rfl hi5 dX4_leastLike_33 ?_
      refine W.lcmp hx hb dX4_leastLike_34 ?_
      refine lv_if_ne (tgt := 40) hx hb dX4_leastLike_35 (by decide) (fun c6 => ?_) (fun c6 => ?_)
      · replace h := mq_if c6 h
        exact zw_X4_leastLike_40 C hret hk2 (v1) (v2) H locs ls h (lv_sub hl [0, 1, 2] rfl) hP hD hS
      · replace h := mq_it (by simpa using c6) h
        refine lv_iload_n hx hb dX4_leastLike_38 rfl (lv_at hl 2 rfl) ?_
        cases h
        exact hret H locs ls 39 dX4_leastLike_39 hP hD hS
set_option maxHeartbeats 4000000 in
set_option maxRecDepth 100000 in
theorem zw_X4_leastLike_2 {p : Program} {l : Launch} {e : Env} {s : State} {m : MethodId} {args : Array Value} {below : List Frame} {meth : Method} {c : Code} {A : Nat → Prop} {D : va_G} {a z : Nat → Nat} {cI cL cB cZ : ClassId} {Q : State → Prop} {N : Nat} {S : mq_St} {res : Int32} (C : mq_C p s m args c A D cI cL cB cZ cX4_leastLike 3 RX4 zc_X4_leastLike) (hret : ∀ (H : Heap) (locs : List Loc) (ls : Array Slot) (pc : Nat), decode cX4_leastLike pc = .ok (.ireturn, 1) → va_P D vwCl (wd_C a cI cL cB cZ z S) H → va_D A (wd_C a cI cL cB cZ z S) → va_S A s.heap H locs → W p l e zr_X4_leastLike s m args below meth c H locs 0 0 Q (F0 m pc ls [.int res])) : ∀ (n : Nat) (v1 : Int32) (v2 : Int32) (H : Heap) (locs : List Loc) (ls : Array Slot) (h : zf_X4_leastLike_2 N z S n v1 v2 = some res) (hl : lv_has ls 3 [(0, .ref (a 46)), (1, .int (v1)), (2, .int (v2))]) (hP : va_P D vwCl (wd_C a cI cL cB cZ z S) H) (hD : va_D A (wd_C a cI cL cB cZ z S)) (hS : va_S A s.heap H locs), W p l e zr_X4_leastLike s m args below meth c H locs 0 0 Q (F0 m 2 ls []) := by
  intro n
  induction n with
  | zero =>
    intro v1 v2 H locs ls h hl hP hD hS
    exact nomatch (show (none : Option (Int32)) = some res from h)
  | succ n ih =>
    intro v1 v2 H locs ls h hl hP hD hS
    exact zw_X4_leastLike_2b C hret (fun v1 v2 H locs ls h hl hP hD hS => ih v1 v2 H locs ls h hl hP hD hS) v1 v2 H locs ls h hl hP hD hS
set_option maxHeartbeats 4000000 in
set_option maxRecDepth 100000 in
theorem zw_X4_leastLike_0 {p : Program} {l : Launch} {e : Env} {s : State} {m : MethodId} {args : Array Value} {below : List Frame} {meth : Method} {c : Code} {A : Nat → Prop} {D : va_G} {a z : Nat → Nat} {cI cL cB cZ : ClassId} {Q : State → Prop} {N : Nat} {S : mq_St} {res : Int32} (C : mq_C p s m args c A D cI cL cB cZ cX4_leastLike 3 RX4 zc_X4_leastLike) (hret : ∀ (H : Heap) (locs : List Loc) (ls : Array Slot) (pc : Nat), decode cX4_leastLike pc = .ok (.ireturn, 1) → va_P D vwCl (wd_C a cI cL cB cZ z S) H → va_D A (wd_C a cI cL cB cZ z S) → va_S A s.heap H locs → W p l e zr_X4_leastLike s m args below meth c H locs 0 0 Q (F0 m pc ls [.int res])) (v1 : Int32) (H : Heap) (locs : List Loc) (ls : Array Slot) (h : zf_X4_leastLike N z v1 S = some res) (hl : lv_has ls 3 [(0, .ref (a 46)), (1, .int (v1))]) (hP : va_P D vwCl (wd_C a cI cL cB cZ z S) H) (hD : va_D A (wd_C a cI cL cB cZ z S)) (hS : va_S A s.heap H locs) : W p l e zr_X4_leastLike s m args below meth c H locs 0 0 Q (F0 m 0 ls []) := by
  obtain ⟨hx, hb, hml, hown, hts, hK, hA⟩ := id C
  unfold zf_X4_leastLike at h
  refine lv_iconst (v := (0 : Int32)) hx hb dX4_leastLike_0 (by decide) ?_
  refine lv_topi (fun x1 ex1 => ?_)
  replace h := mq_nI_go ex1 h
  refine lv_istore_n (lv' := [(2, .int (x1)), (0, .ref (a 46)), (1, .int (v1))]) hx hb dX4_leastLike_1 rfl hl (by decide) rfl (fun ls hl => ?_)
  exact zw_X4_leastLike_2 C hret N (v1) (x1) H locs ls h (lv_sub hl [1, 2, 0] rfl) hP hD hS
set_option maxHeartbeats 4000000 in
set_option maxRecDepth 100000 in
theorem zm_X4_leastLike (l : Launch) (D : va_G) (a z : Nat → Nat) (cI cL cB cZ : ClassId) (sz N : Nat) (v1 : Int32) (S : mq_St) (res : Int32) (h : zf_X4_leastLike N z v1 S = some res) : Met l yX4_leastLike (zc_X4_leastLike :: mq_T) zr_X4_leastLike (va_Pc [.ref (a 46), .int (v1)] (fun U => U.heap.size = sz ∧ va_P D vwCl (wd_C a cI cL cB cZ z S) U.heap ∧ va_K D vwCl (mq_tys cI cL cB cZ) U ∧ va_D (fun _ => True) (wd_C a cI cL cB cZ z S))) (va_Qi (fun (r : Int32) (u : mq_St) => r = res ∧ u = S) (fun u t => va_P D vwCl (wd_C a cI cL cB cZ z u) t.heap ∧ va_K D vwCl (mq_tys cI cL cB cZ) t ∧ va_D (va_A (wd_C a cI cL cB cZ z S) sz) (wd_C a cI cL cB cZ z u)) (va_A (wd_C a cI cL cB cZ z S) sz)) 0 0 (va_A (wd_C a cI cL cB cZ z S) sz) := by
  refine Met.ofW (cc := cX4_leastLike) (maxL := 3) (ret := (some .int)) (by decide) rfl ?_
  intro p e s m args below meth c s₁ B hml hv
  obtain ⟨rfl, hsz, hP, hK, hD0⟩ := hv
  have hr := B.returns
  have hlocks := B.notSynchronized
  have hts := atoms_spec (ws := zc_X4_leastLike :: mq_T) B.pre
  have hown : s.vm.findClass RX4 = some m.cls := findClass_of_methodNamed B.named
  subst hsz
  have hD := hD0.self (sz := s.heap.size)
  generalize hAe : va_A (wd_C a cI cL cB cZ z S) s.heap.size = A at hD ⊢
  have hA : ∀ q : Nat, s.heap.size ≤ q → A q := fun q h => by rw [← hAe]; exact Or.inr h
  have hl := lv_entry ([.ref (a 46), .int (v1)]) (n := 3) (Nat.le_of_ble_eq_true rfl)
  rw [lg_entry_eq]
  generalize (lg_sl ([.ref (a 46), .int (v1)]) ++ List.replicate (3 - (lg_sl ([.ref (a 46), .int (v1)])).length) Slot.unset).toArray = ls at hl ⊢
  have hl : lv_has ls 3 [(0, .ref (a 46)), (1, .int (v1))] := hl
  refine zw_X4_leastLike_0 (A := A) ⟨B.exec, B.bytes, hml, hown, hts, hK, hA⟩ (fun H locs ls pc dg hP hD hS => ?_) v1 s.heap [] ls h hl hP hD va_S.rf
  exact W.iret B.exec B.bytes hr (fun t ht hW => ⟨⟨_, _, rfl, ⟨rfl, rfl⟩, by rw [ht]; exact hP, va_K.moved hW.alike hK, hD⟩, hS.F ht⟩) hS.2.2 dg
theorem zt_X4_leastLike_c : zc_X4_leastLike ∈ mq_T := mq_T_mem (mq_t4 (List.mem_of_getElem? (i := 238) rfl)) rfl
theorem zt_X4_leastLike_i : Cond.instanceMethod yX4_leastLike ∈ mq_T := mq_T_mem (mq_t4 (List.mem_of_getElem? (i := 237) rfl)) rfl
theorem zt_X4_leastLike_s : Cond.selects RX4 yX4_leastLike yX4_leastLike ∈ mq_T := mq_T_at 55 (by decide +kernel)
set_option maxHeartbeats 4000000 in
theorem zk_X4_leastLike {p : Program} {l : Launch} {e : Env} {R : Room} {s : State} {m : MethodId} {args : Array Value} {below : List Frame} {meth : Method} {c : Code} {A : Nat → Prop} {D : va_G} {a z : Nat → Nat} {cI cL cB cZ : ClassId} {Q : State → Prop} {cc : ByteArray} {nL idx pc N : Nat} {own : String} {c1 : Cond} {H : Heap} {locs : List Loc} {ls : Array Slot} {rest : List Value} {S : mq_St} {res : Int32} {v1 : Int32} (C : mq_C p s m args c A D cI cL cB cZ cc nL own c1) (hlk : Cond.methodLink own idx yX4_leastLike ∈ mq_T) (hR : zr_X4_leastLike.frames + 1 ≤ R.frames ∧ 8 + (3 + 11) + zr_X4_leastLike.locals ≤ R.locals) (h : zf_X4_leastLike N z v1 S = some res) (hP : va_P D vwCl (wd_C a cI cL cB cZ z S) H) (hD : va_D A (wd_C a cI cL cB cZ z S)) (hS : va_S A s.heap H locs) (hls : ls.size = nL) (hrest : (rest.map fun v => v.category).sum ≤ 8) (hdg : decode cc pc = .ok (.invokevirtual idx, 3)) (kk : ∀ (H1 : Heap) (locs1 : List Loc), va_P D vwCl (wd_C a cI cL cB cZ z S) H1 → va_D A (wd_C a cI cL cB cZ z S) → va_S A s.heap H1 locs1 → W p l e R s m args below meth c H1 locs1 0 0 Q (F0 m (pc + 3) ls (.int res :: rest))) : W p l e R s m args below meth c H locs 0 0 Q (F0 m pc ls (.int (v1) :: .ref (a 46) :: rest)) := by
  obtain ⟨hx, hb, hml, hown, hts, hK, hA⟩ := C
  have hFc := mq_freeI hD hS hA
  refine va_calli (va_runV (As := [.int (v1)]) (rest := rest) ⟨hx, hb, hml, hown, hts⟩ (zm_X4_leastLike l D a z cI cL cB cZ H.size N v1 S res h) (cwV 1 hts (mq_goodL (mq_wsV hlk zt_X4_leastLike_i zt_X4_leastLike_s zt_ini_X4 zt_X4_leastLike_c)) rfl rfl rfl (by decide +kernel) hR) ⟨fun a U g mk q => ⟨q.1, q.2.1, q.2.2.1, va_K.moved (u := U) (U := U.calling g mk a) (Vm.Alike.refl U.vm) q.2.2.2.1, q.2.2.2.2⟩, zy_C_46 hK hP, fun U hU hW => ⟨rfl, by rw [hU], by rw [hU]; exact hP, va_K.moved hW.alike hK, hD.weaken (fun _ _ _ _ => trivial)⟩⟩ rfl rfl hls rfl (lv_room hrest) hdg ⟨Nat.zero_le _, Nat.zero_le _⟩) hS (fun q _ h => hFc q h) hFc (fun r u t H1 locs ht hvm hw hB hz1 hk1 hS => ?_)
  obtain ⟨rfl, rfl⟩ := hw
  obtain ⟨hP1, hK1, hD1⟩ := hB
  rw [ht] at hP1
  exact kk H1 locs hP1 (hD1.weaken (fun _ _ _ h => hFc _ h)) hS
theorem zt_m_X4_111 : Cond.methodLink RX4 111 yX4_leastLike ∈ mq_T := mq_T_mem (mq_t4 (List.mem_of_getElem? (i := 235) rfl)) rfl
/-! ModalDesk$Model.splitBySigns()I -/
def zr_X4_splitBySigns : Room := { frames := 1, cells := 0, slots := 0, locals := 22 }
def zc_X4_splitBySigns : Cond := .code yX4_splitBySigns cX4_splitBySigns 4 (some .int)
def zf_X4_splitBySigns_48 (N : Nat) (z : Nat → Nat) (k4 : Int32 → Int32 → mq_St → Option (Int32 × mq_St)) (v1 : Int32) (v2 : Int32) (S : mq_St) : Option (Int32 × mq_St) := (mq_nI (v2 + (1 : Int32)) (fun x15 => (k4 (v1) (x15) S)))
def zf_X4_splitBySigns_56b (N : Nat) (z : Nat → Nat) (k56 : Int32 → Int32 → mq_St → Option (Int32 × mq_St)) (v1 : Int32) (v2 : Int32) (S : mq_St) : Option (Int32 × mq_St) := (if (S.1 23) ≤ v2 then (some (v1, S)) else (mq_ck (v2) 60 (mq_ck (v2) 60 (mq_nS (mq_sa S 26 (upd (S.2.1 26) (v2).toNatClampNeg ((S.2.1 27 (v2).toNatClampNeg)))) (fun S18 => (mq_nI (v2 + (1 : Int32)) (fun x19 => (k56 (v1) (x19) S18))))))))
def zf_X4_splitBySigns_56 (N : Nat) (z : Nat → Nat) : Nat → Int32 → Int32 → mq_St → Option (Int32 × mq_St)
  | 0, _, _, _ => none
  | n + 1, v1, v2, S => zf_X4_splitBySigns_56b N z (fun v1 v2 S => zf_X4_splitBySigns_56 N z n v1 v2 S) v1 v2 S
def zf_X4_splitBySigns_4b (N : Nat) (z : Nat → Nat) (k4 : Int32 → Int32 → mq_St → Option (Int32 × mq_St)) (v1 : Int32) (v2 : Int32) (S : mq_St) : Option (Int32 × mq_St) := (if (S.1 23) ≤ v2 then (mq_nI ((0 : Int32)) (fun x3 => (zf_X4_splitBySigns_56 N z N (v1) (x3) S))) else (mq_cp (zf_X4_leastLike N z (v2) S) (fun q4 => (mq_nI (q4) (fun x6 => (if x6 = v2 then (mq_ck (v2) 60 (mq_nS (mq_sa S 27 (upd (S.2.1 27) (v2).toNatClampNeg (v1))) (fun S11 => (mq_nI (v1 + (1 : Int32)) (fun x12 => (zf_X4_splitBySigns_48 N z k4 (x12) (v2) S11)))))) else (mq_ck (x6) 60 (mq_ck (v2) 60 (mq_nS (mq_sa S 27 (upd (S.2.1 27) (v2).toNatClampNeg ((S.2.1 27 (x6).toNatClampNeg)))) (fun S9 => (zf_X4_splitBySigns_48 N z k4 (v1) (v2) S9)))))))))))
def zf_X4_splitBySigns_4 (N : Nat) (z : Nat → Nat) : Nat → Int32 → Int32 → mq_St → Option (Int32 × mq_St)
  | 0, _, _, _ => none
  | n + 1, v1, v2, S => zf_X4_splitBySigns_4b N z (fun v1 v2 S => zf_X4_splitBySigns_4 N z n v1 v2 S) v1 v2 S
def zf_X4_splitBySigns (N : Nat) (z : Nat → Nat) (S : mq_St) : Option (Int32 × mq_St) := (mq_nI ((0 : Int32)) (fun x1 => (mq_nI ((0 : Int32)) (fun x2 => (zf_X4_splitBySigns_4 N z N (x1) (x2) S)))))
set_option maxHeartbeats 4000000 in
set_option maxRecDepth 100000 in
theorem zw_X4_splitBySigns_48 {p : Program} {l : Launch} {e : Env} {s : State} {m : MethodId} {args : Array Value} {below : List Frame} {meth : Method} {c : Code} {A : Nat → Prop} {D : va_G} {a z : Nat → Nat} {cI cL cB cZ : ClassId} {Q : State → Prop} {N : Nat} {res : Int32 × mq_St} {k4 : Int32 → Int32 → mq_St → Option (Int32 × mq_St)} (C : mq_C p s m args c A D cI cL cB cZ cX4_splitBySigns 4 RX4 zc_X4_splitBySigns) (hret : ∀ (H : Heap) (locs : List Loc) (ls : Array Slot) (pc : Nat), decode cX4_splitBySigns pc = .ok (.ireturn, 1) → va_P D vwCl (wd_C a cI cL cB cZ z res.2) H → va_D A (wd_C a cI cL cB cZ z res.2) → va_S A s.heap H locs → W p l e zr_X4_splitBySigns s m args below meth c H locs 0 0 Q (F0 m pc ls [.int res.1])) (hk4 : ∀ (v1 : Int32) (v2 : Int32) (S : mq_St) (H : Heap) (locs : List Loc) (ls : Array Slot), k4 v1 v2 S = some res → lv_has ls 4 [(0, .ref (a 46)), (1, .int (v1)), (2, .int (v2))] → va_P D vwCl (wd_C a cI cL cB cZ z S) H → va_D A (wd_C a cI cL cB cZ z S) → va_S A s.heap H locs → W p l e zr_X4_splitBySigns s m args below meth c H locs 0 0 Q (F0 m 4 ls [])) (v1 : Int32) (v2 : Int32) (S : mq_St) (H : Heap) (locs : List Loc) (ls : Array Slot) (h : zf_X4_splitBySigns_48 N z k4 v1 v2 S = some res) (hl : lv_has ls 4 [(0, .ref (a 46)), (1, .int (v1)), (2, .int (v2))]) (hP : va_P D vwCl (wd_C a cI cL cB cZ z S) H) (hD : va_D A (wd_C a cI cL cB cZ z S)) (hS : va_S A s.heap H locs) : W p l e zr_X4_splitBySigns s m args below meth c H locs 0 0 Q (F0 m 48 ls []) := by
  obtain ⟨hx, hb, hml, hown, hts, hK, hA⟩ := id C
  unfold zf_X4_splitBySigns_48 at h
  obtain ⟨x15, ex15⟩ : ∃ y : Int32, y = v2 + (1 : Int32) := ⟨_, rfl⟩
  replace h := mq_nI_go ex15 h
  refine lv_iinc (v := x15) (lv' := [(2, .int (x15)), (0, .ref (a 46)), (1, .int (v1))]) hx hb dX4_splitBySigns_48 hl (k := 2) rfl (by rw [ex15]; rfl) (by decide) rfl (fun ls hl => ?_)
  refine lv_goto (tgt := 4) hx hb dX4_splitBySigns_51 (by decide) ?_
  exact hk4 (v1) (x15) S H locs ls h (lv_sub hl [1, 2, 0] rfl) hP hD hS
set_option maxHeartbeats 4000000 in
set_option maxRecDepth 100000 in
theorem zw_X4_splitBySigns_56b {p : Program} {l : Launch} {e : Env} {s : State} {m : MethodId} {args : Array Value} {below : List Frame} {meth : Method} {c : Code} {A : Nat → Prop} {D : va_G} {a z : Nat → Nat} {cI cL cB cZ : ClassId} {Q : State → Prop} {N : Nat} {res : Int32 × mq_St} {k56 : Int32 → Int32 → mq_St → Option (Int32 × mq_St)} (C : mq_C p s m args c A D cI cL cB cZ cX4_splitBySigns 4 RX4 zc_X4_splitBySigns) (hret : ∀ (H : Heap) (locs : List Loc) (ls : Array Slot) (pc : Nat), decode cX4_splitBySigns pc = .ok (.ireturn, 1) → va_P D vwCl (wd_C a cI cL cB cZ z res.2) H → va_D A (wd_C a cI cL cB cZ z res.2) → va_S A s.heap H locs → W p l e zr_X4_splitBySigns s m args below meth c H locs 0 0 Q (F0 m pc ls [.int res.1])) (hk56 : ∀ (v1 : Int32) (v2 : Int32) (S : mq_St) (H : Heap) (locs : List Loc) (ls : Array Slot), k56 v1 v2 S = some res → lv_has ls 4 [(0, .ref (a 46)), (1, .int (v1)), (2, .int (v2))] → va_P D vwCl (wd_C a cI cL cB cZ z S) H → va_D A (wd_C a cI cL cB cZ z S) → va_S A s.heap H locs → W p l e zr_X4_splitBySigns s m args below meth c H locs 0 0 Q (F0 m 56 ls [])) (v1 : Int32) (v2 : Int32) (S : mq_St) (H : Heap) (locs : List Loc) (ls : Array Slot) (h : zf_X4_splitBySigns_56b N z k56 v1 v2 S = some res) (hl : lv_has ls 4 [(0, .ref (a 46)), (1, .int (v1)), (2, .int (v2))]) (hP : va_P D vwCl (wd_C a cI cL cB cZ z S) H) (hD : va_D A (wd_C a cI cL cB cZ z S)) (hS : va_S A s.heap H locs) : W p l e zr_X4_splitBySigns s m args below meth c H locs 0 0 Q (F0 m 56 ls []) := by
  obtain ⟨hx, hb, hml, hown, hts, hK, hA⟩ := id C
  unfold zf_X4_splitBySigns_56b at h
  refine lv_iload_n hx hb dX4_splitBySigns_56 rfl (lv_at hl 2 rfl) ?_
  refine lv_aload_n hx hb dX4_splitBySigns_57 rfl (lv_at hl 0 rfl) ?_
  refine va_get (D := D) (ci := 4) (v := .int ((S.1 23))) (C := RX4) (T := TX4) (N := 12) hx hb hts (zi_X4 _) hown hK hP 46 rfl rfl 10 (by decide) (hts _ (List.mem_cons_of_mem _ zt_f_X4_41)) (fun _ h9 => h9) rfl dX4_splitBySigns_58 ?_
  refine lv_icmp_ge (tgt := 82) hx hb dX4_splitBySigns_61 (by decide) (fun c20 => ?_) (fun c20 => ?_)
  · replace h := mq_it c20 h
    refine lv_iload_n hx hb dX4_splitBySigns_82 rfl (lv_at hl 1 rfl) ?_
    cases h
    exact hret H locs ls 83 dX4_splitBySigns_83 hP hD hS
  · replace h := mq_if c20 h
    refine lv_aload_n hx hb dX4_splitBySigns_64 rfl (lv_at hl 0 rfl) ?_
    refine va_get (D := D) (ci := 4) (v := .ref (a 51)) (C := RX4) (T := TX4) (N := 12) hx hb hts (zi_X4 _) hown hK hP 46 rfl rfl 5 (by decide) (hts _ (List.mem_cons_of_mem _ zt_f_X4_25)) (fun _ h9 => h9) rfl dX4_splitBySigns_65 ?_
    refine lv_iload_n hx hb dX4_splitBySigns_68 rfl (lv_at hl 2 rfl) ?_
    refine lv_aload_n hx hb dX4_splitBySigns_69 rfl (lv_at hl 0 rfl) ?_
    refine va_get (D := D) (ci := 4) (v := .ref (a 52)) (C := RX4) (T := TX4) (N := 12) hx hb hts (zi_X4 _) hown hK hP 46 rfl rfl 6 (by decide) (hts _ (List.mem_cons_of_mem _ zt_f_X4_28)) (fun _ h9 => h9) rfl dX4_splitBySigns_70 ?_
    refine lv_iload_n hx hb dX4_splitBySigns_73 rfl (lv_at hl 2 rfl) ?_
    have hi16 := mq_ck_in h
    replace h := mq_ck_go h
    refine va_iald (f := S.2.1 27) hx hb hK hP 52 0 rfl rfl hi16 dX4_splitBySigns_74 ?_
    have hi17 := mq_ck_in h
    replace h := mq_ck_go h
    refine mq_iast (w := wd_C a cI cL cB cZ z) (S := S) (f := S.2.1 26) hx hb hK hP hD hS 51 0 rfl rfl hi17 dX4_splitBySigns_75 26 (zs_wd_C_a_51_26 _ _ _ _ _ _ _ _) (fun S18 eS18 H locs hP hD hS => ?_)
    replace h := mq_nS_go eS18 h
    obtain ⟨x19, ex19⟩ : ∃ y : Int32, y = v2 + (1 : Int32) := ⟨_, rfl⟩
    replace h := mq_nI_go ex19 h
    refine lv_iinc (v := x19) (lv' := [(2, .int (x19)), (0, .ref (a 46)), (1, .int (v1))]) hx hb dX4_splitBySigns_76 hl (k := 2) rfl (by rw [ex19]; rfl) (by decide) rfl (fun ls hl => ?_)
    refine lv_goto (tgt := 56) hx hb dX4_splitBySigns_79 (by decide) ?_
    exact hk56 (v1) (x19) S18 H locs ls h (lv_sub hl [1, 2, 0] rfl) hP hD hS
set_option maxHeartbeats 4000000 in
set_option maxRecDepth 100000 in
theorem zw_X4_splitBySigns_56 {p : Program} {l : Launch} {e : Env} {s : State} {m : MethodId} {args : Array Value} {below : List Frame} {meth : Method} {c : Code} {A : Nat → Prop} {D : va_G} {a z : Nat → Nat} {cI cL cB cZ : ClassId} {Q : State → Prop} {N : Nat} {res : Int32 × mq_St} (C : mq_C p s m args c A D cI cL cB cZ cX4_splitBySigns 4 RX4 zc_X4_splitBySigns) (hret : ∀ (H : Heap) (locs : List Loc) (ls : Array Slot) (pc : Nat), decode cX4_splitBySigns pc = .ok (.ireturn, 1) → va_P D vwCl (wd_C a cI cL cB cZ z res.2) H → va_D A (wd_C a cI cL cB cZ z res.2) → va_S A s.heap H locs → W p l e zr_X4_splitBySigns s m args below meth c H locs 0 0 Q (F0 m pc ls [.int res.1])) : ∀ (n : Nat) (v1 : Int32) (v2 : Int32) (S : mq_St) (H : Heap) (locs : List Loc) (ls : Array Slot) (h : zf_X4_splitBySigns_56 N z n v1 v2 S = some res) (hl : lv_has ls 4 [(0, .ref (a 46)), (1, .int (v1)), (2, .int (v2))]) (hP : va_P D vwCl (wd_C a cI cL cB cZ z S) H) (hD : va_D A (wd_C a cI cL cB cZ z S)) (hS : va_S A s.heap H locs), W p l e zr_X4_splitBySigns s m args below meth c H locs 0 0 Q (F0 m 56 ls []) := by
  intro n
  induction n with
  | zero =>
    intro v1 v2 S H locs ls h hl hP hD hS
    exact nomatch (show (none : Option (Int32 × mq_St)) = some res from h)
  | succ n ih =>
    intro v1 v2 S H locs ls h hl hP hD hS
    exact zw_X4_splitBySigns_56b C hret (fun v1 v2 S H locs ls h hl hP hD hS => ih v1 v2 S H locs ls h hl hP hD hS) v1 v2 S H locs ls h hl hP hD hS
set_option maxHeartbeats 4000000 in
set_option maxRecDepth 100000 in
theorem zw_X4_splitBySigns_4b {p : Program} {l : Launch} {e : Env} {s : State} {m : MethodId} {args : Array Value} {below : List Frame} {meth : Method} {c : Code} {A : Nat → Prop} {D : va_G} {a z : Nat → Nat} {cI cL cB cZ : ClassId} {Q : State → Prop} {N : Nat} {res : Int32 × mq_St} {k4 : Int32 → Int32 → mq_St → Option (Int32 × mq_St)} (C : mq_C p s m args c A D cI cL cB cZ cX4_splitBySigns 4 RX4 zc_X4_splitBySigns) (hret : ∀ (H : Heap) (locs : List Loc) (ls : Array Slot) (pc : Nat), decode cX4_splitBySigns pc = .ok (.ireturn, 1) → va_P D vwCl (wd_C a cI cL cB cZ z res.2) H → va_D A (wd_C a cI cL cB cZ z res.2) → va_S A s.heap H locs → W p l e zr_X4_splitBySigns s m args below meth c H locs 0 0 Q (F0 m pc ls [.int res.1])) (hk4 : ∀ (v1 : Int32) (v2 : Int32) (S : mq_St) (H : Heap) (locs : List Loc) (ls : Array Slot), k4 v1 v2 S = some res → lv_has ls 4 [(0, .ref (a 46)), (1, .int (v1)), (2, .int (v2))] → va_P D vwCl (wd_C a cI cL cB cZ z S) H → va_D A (wd_C a cI cL cB cZ z S) → va_S A s.heap H locs → W p l e zr_X4_splitBySigns s m args below meth c H locs 0 0 Q (F0 m 4 ls [])) (v1 : Int32) (v2 : Int32) (S : mq_St) (H : Heap) (locs : List Loc) (ls : Array Slot) (h : zf_X4_splitBySigns_4b N z k4 v1 v2 S = some res) (hl : lv_has ls 4 [(0, .ref (a 46)), (1, .int (v1)), (2, .int (v2))]) (hP : va_P D vwCl (wd_C a cI cL cB cZ z S) H) (hD : va_D A (wd_C a cI cL cB cZ z S)) (hS : va_S A s.heap H locs) : W p l e zr_X4_splitBySigns s m args below meth c H locs 0 0 Q (F0 m 4 ls []) := by
  obtain ⟨hx, hb, hml, hown, hts, hK, hA⟩ := id C
  unfold zf_X4_splitBySigns_4b at h
  refine lv_iload_n hx hb dX4_splitBySigns_4 rfl (lv_at hl 2 rfl) ?_
  refine lv_aload_n hx hb dX4_splitBySigns_5 rfl (lv_at hl 0 rfl) ?_
  refine va_get (D := D) (ci := 4) (v := .int ((S.1 23))) (C := RX4) (T := TX4) (N := 12) hx hb hts (zi_X4 _) hown hK hP 46 rfl rfl 10 (by decide) (hts _ (List.mem_cons_of_mem _ zt_f_X4_41)) (fun _ h9 => h9) rfl dX4_splitBySigns_6 ?_
  refine lv_icmp_ge (tgt := 54) hx hb dX4_splitBySigns_9 (by decide) (fun c14 => ?_) (fun c14 => ?_)
  · replace h := mq_it c14 h
    refine lv_iconst (v := (0 : Int32)) hx hb dX4_splitBySigns_54 (by decide) ?_
    refine lv_topi (fun x3 ex3 => ?_)
    replace h := mq_nI_go ex3 h
    refine lv_istore_n (lv' := [(2, .int (x3)), (0, .ref (a 46)), (1, .int (v1))]) hx hb dX4_splitBySigns_55 rfl hl (by decide) rfl (fun ls hl => ?_)
    exact zw_X4_splitBySigns_56 C hret N (v1) (x3) S H locs ls h (lv_sub hl [1, 2, 0] rfl) hP hD hS
  · replace h := mq_if c14 h
    refine lv_aload_n hx hb dX4_splitBySigns_12 rfl (lv_at hl 0 rfl) ?_
    refine lv_iload_n hx hb dX4_splitBySigns_13 rfl (lv_at hl 2 rfl) ?_
    obtain ⟨q4, hc5, h⟩ := mq_cp_go h
    refine zk_X4_leastLike C zt_m_X4_111 ⟨by decide, by decide⟩ hc5 hP hD hS hl.1 (Nat.le_of_ble_eq_true rfl) dX4_splitBySigns_14 (fun H locs hP hD hS => ?_)
    refine lv_topi (fun x6 ex6 => ?_)
    replace h := mq_nI_go ex6 h
    refine lv_istore_n (lv' := [(3, .int (x6)), (0, .ref (a 46)), (1, .int (v1)), (2, .int (v2))]) hx hb dX4_splitBySigns_17 rfl hl (by decide) rfl (fun ls hl => ?_)
    refine lv_iload_n hx hb dX4_splitBySigns_18 rfl (lv_at hl 0 rfl) ?_
    refine lv_iload_n hx hb dX4_splitBySigns_19 rfl (lv_at hl 3 rfl) ?_
    refine lv_icmp_ne (tgt := 36) hx hb dX4_splitBySigns_20 (by decide) (fun c13 => ?_) (fun c13 => ?_)
    · replace h := mq_if c13 h
      refine lv_aload_n hx hb dX4_splitBySigns_36 rfl (lv_at hl 1 rfl) ?_
      refine va_get (D := D) (ci := 4) (v := .ref (a 52)) (C := RX4) (T := TX4) (N := 12) hx hb hts (zi_X4 _) hown hK hP 46 rfl rfl 6 (by decide) (hts _ (List.mem_cons_of_mem _ zt_f_X4_28)) (fun _ h9 => h9) rfl dX4_splitBySigns_37 ?_
      refine lv_iload_n hx hb dX4_splitBySigns_40 rfl (lv_at hl 3 rfl) ?_
      refine lv_aload_n hx hb dX4_splitBySigns_41 rfl (lv_at hl 1 rfl) ?_
      refine va_get (D := D) (ci := 4) (v := .ref (a 52)) (C := RX4) (T := TX4) (N := 12) hx hb hts (zi_X4 _) hown hK hP 46 rfl rfl 6 (by decide) (hts _ (List.mem_cons_of_mem _ zt_f_X4_28)) (fun _ h9 => h9) rfl dX4_splitBySigns_42 ?_
      refine lv_iload_n hx hb dX4_splitBySigns_45 rfl (lv_at hl 0 rfl) ?_
      have hi7 := mq_ck_in h
      replace h := mq_ck_go h
      refine va_iald (f := S.2.1 27) hx hb hK hP 52 0 rfl rfl hi7 dX4_splitBySigns_46 ?_
      have hi8 := mq_ck_in h
      replace h := mq_ck_go h
      refine mq_iast (w := wd_C a cI cL cB cZ z) (S := S) (f := S.2.1 27) hx hb hK hP hD hS 52 0 rfl rfl hi8 dX4_splitBySigns_47 27 (zs_wd_C_a_52_27 _ _ _ _ _ _ _ _) (fun S9 eS9 H locs hP hD hS => ?_)
      replace h := mq_nS_go eS9 h
      exact zw_X4_splitBySigns_48 C hret hk4 (v1) (v2) S9 H locs ls h (lv_sub hl [1, 2, 3] rfl) hP hD hS
    · replace h := mq_it (by simpa using c13) h
      refine lv_aload_n hx hb dX4_splitBySigns_23 rfl (lv_at hl 1 rfl) ?_
      refine va_get (D := D) (ci := 4) (v := .ref (a 52)) (C := RX4) (T := TX4) (N := 12) hx hb hts (zi_X4 _) hown hK hP 46 rfl rfl 6 (by decide) (hts _ (List.mem_cons_of_mem _ zt_f_X4_28)) (fun _ h9 => h9) rfl dX4_splitBySigns_24 ?_
      refine lv_iload_n hx hb dX4_splitBySigns_27 rfl (lv_at hl 3 rfl) ?_
      refine lv_iload_n hx hb dX4_splitBySigns_28 rfl (lv_at hl 2 rfl) ?_
      have hi10 := mq_ck_in h
      replace h := mq_ck_go h
      refine mq_iast (w := wd_C a cI cL cB cZ z) (S := S) (f := S.2.1 27) hx hb hK hP hD hS 52 0 rfl rfl hi10 dX4_splitBySigns_29 27 (zs_wd_C_a_52_27 _ _ _ _ _ _ _ _) (fun S11 eS11 H locs hP hD hS => ?_)
      replace h := mq_nS_go eS11 h
      obtain ⟨x12, ex12⟩ : ∃ y : Int32, y = v1 + (1 : Int32) := ⟨_, rfl⟩
      replace h := mq_nI_go ex12 h
      refine lv_iinc (v := x12) (lv' := [(1, .int (x12)), (3, .int (x6)), (0, .ref (a 46)), (2, .int (v2))]) hx hb dX4_splitBySigns_30 hl (k := 2) rfl (by rw [ex12]; rfl) (by decide) rfl (fun ls hl => ?_)
      refine lv_goto (tgt := 48) hx hb dX4_splitBySigns_33 (by decide) ?_
      exact zw_X4_splitBySigns_48 C hret hk4 (x12) (v2) S11 H locs ls h (lv_sub hl [2, 0, 3] rfl) hP hD hS
set_option maxHeartbeats 4000000 in
set_option maxRecDepth 100000 in
theorem zw_X4_splitBySigns_4 {p : Program} {l : Launch} {e : Env} {s : State} {m : MethodId} {args : Array Value} {below : List Frame} {meth : Method} {c : Code} {A : Nat → Prop} {D : va_G} {a z : Nat → Nat} {cI cL cB cZ : ClassId} {Q : State → Prop} {N : Nat} {res : Int32 × mq_St} (C : mq_C p s m args c A D cI cL cB cZ cX4_splitBySigns 4 RX4 zc_X4_splitBySigns) (hret : ∀ (H : Heap) (locs : List Loc) (ls : Array Slot) (pc : Nat), decode cX4_splitBySigns pc = .ok (.ireturn, 1) → va_P D vwCl (wd_C a cI cL cB cZ z res.2) H → va_D A (wd_C a cI cL cB cZ z res.2) → va_S A s.heap H locs → W p l e zr_X4_splitBySigns s m args below meth c H locs 0 0 Q (F0 m pc ls [.int res.1])) : ∀ (n : Nat) (v1 : Int32) (v2 : Int32) (S : mq_St) (H : Heap) (locs : List Loc) (ls : Array Slot) (h : zf_X4_splitBySigns_4 N z n v1 v2 S = some res) (hl : lv_has ls 4 [(0, .ref (a 46)), (1, .int (v1)), (2, .int (v2))]) (hP : va_P D vwCl (wd_C a cI cL cB cZ z S) H) (hD : va_D A (wd_C a cI cL cB cZ z S)) (hS : va_S A s.heap H locs), W p l e zr_X4_splitBySigns s m args below meth c H locs 0 0 Q (F0 m 4 ls []) := by
  intro n
  induction n with
  | zero =>
    intro v1 v2 S H locs ls h hl hP hD hS
    exact nomatch (show (none : Option (Int32 × mq_St)) = some res from h)
  | succ n ih =>
    intro v1 v2 S H locs ls h hl hP hD hS
    exact zw_X4_splitBySigns_4b C hret (fun v1 v2 S H locs ls h hl hP hD hS => ih v1 v2 S H locs ls h hl hP hD hS) v1 v2 S H locs ls h hl hP hD hS
set_option maxHeartbeats 4000000 in
set_option maxRecDepth 100000 in
theorem zw_X4_splitBySigns_0 {p : Program} {l : Launch} {e : Env} {s : State} {m : MethodId} {args : Array Value} {below : List Frame} {meth : Method} {c : Code} {A : Nat → Prop} {D : va_G} {a z : Nat → Nat} {cI cL cB cZ : ClassId} {Q : State → Prop} {N : Nat} {res : Int32 × mq_St} (C : mq_C p s m args c A D cI cL cB cZ cX4_splitBySigns 4 RX4 zc_X4_splitBySigns) (hret : ∀ (H : Heap) (locs : List Loc) (ls : Array Slot) (pc : Nat), decode cX4_splitBySigns pc = .ok (.ireturn, 1) → va_P D vwCl (wd_C a cI cL cB cZ z res.2) H → va_D A (wd_C a cI cL cB cZ z res.2) → va_S A s.heap H locs → W p l e zr_X4_splitBySigns s m args below meth c H locs 0 0 Q (F0 m pc ls [.int res.1])) (S : mq_St) (H : Heap) (locs : List Loc) (ls : Array Slot) (h : zf_X4_splitBySigns N z S = some res) (hl : lv_has ls 4 [(0, .ref (a 46))]) (hP : va_P D vwCl (wd_C a cI cL cB cZ z S) H) (hD : va_D A (wd_C a cI cL cB cZ z S)) (hS : va_S A s.heap H locs) : W p l e zr_X4_splitBySigns s m args below meth c H locs 0 0 Q (F0 m 0 ls []) := by
  obtain ⟨hx, hb, hml, hown, hts, hK, hA⟩ := id C
  unfold zf_X4_splitBySigns at h
  refine lv_iconst (v := (0 : Int32)) hx hb dX4_splitBySigns_0 (by decide) ?_
  refine lv_topi (fun x1 ex1 => ?_)
  replace h := mq_nI_go ex1 h
  refine lv_istore_n (lv' := [(1, .int (x1)), (0, .ref (a 46))]) hx hb dX4_splitBySigns_1 rfl hl (by decide) rfl (fun ls hl => ?_)
  refine lv_iconst (v := (0 : Int32)) hx hb dX4_splitBySigns_2 (by decide) ?_
  refine lv_topi (fun x2 ex2 => ?_)
  replace h := mq_nI_go ex2 h
  refine lv_istore_n (lv' := [(2, .int (x2)), (1, .int (x1)), (0, .ref (a 46))]) hx hb dX4_splitBySigns_3 rfl hl (by decide) rfl (fun ls hl => ?_)
  exact zw_X4_splitBySigns_4 C hret N (x1) (x2) S H locs ls h (lv_sub hl [2, 1, 0] rfl) hP hD hS
set_option maxHeartbeats 4000000 in
set_option maxRecDepth 100000 in
theorem zm_X4_splitBySigns (l : Launch) (D : va_G) (a z : Nat → Nat) (cI cL cB cZ : ClassId) (sz N : Nat) (S : mq_St) (res : Int32 × mq_St) (h : zf_X4_splitBySigns N z S = some res) : Met l yX4_splitBySigns (zc_X4_splitBySigns :: mq_T) zr_X4_splitBySigns (va_Pc [.ref (a 46)] (fun U => U.heap.size = sz ∧ va_P D vwCl (wd_C a cI cL cB cZ z S) U.heap ∧ va_K D vwCl (mq_tys cI cL cB cZ) U ∧ va_D (fun _ => True) (wd_C a cI cL cB cZ z S))) (va_Qi (fun (r : Int32) (u : mq_St) => r = res.1 ∧ u = res.2) (fun u t => va_P D vwCl (wd_C a cI cL cB cZ z u) t.heap ∧ va_K D vwCl (mq_tys cI cL cB cZ) t ∧ va_D (va_A (wd_C a cI cL cB cZ z S) sz) (wd_C a cI cL cB cZ z u)) (va_A (wd_C a cI cL cB cZ z S) sz)) 0 0 (va_A (wd_C a cI cL cB cZ z S) sz) := by
  refine Met.ofW (cc := cX4_splitBySigns) (maxL := 4) (ret := (some .int)) (by decide) rfl ?_
  intro p e s m args below meth c s₁ B hml hv
  obtain ⟨rfl, hsz, hP, hK, hD0⟩ := hv
  have hr := B.returns
  have hlocks := B.notSynchronized
  have hts := atoms_spec (ws := zc_X4_splitBySigns :: mq_T) B.pre
  have hown : s.vm.findClass RX4 = some m.cls := findClass_of_methodNamed B.named
  subst hsz
  have hD := hD0.self (sz := s.heap.size)
  generalize hAe : va_A (wd_C a cI cL cB cZ z S) s.heap.size = A at hD ⊢
  have hA : ∀ q : Nat, s.heap.size ≤ q → A q := fun q h => by rw [← hAe]; exact Or.inr h
  have hl := lv_entry ([.ref (a 46)]) (n := 4) (Nat.le_of_ble_eq_true rfl)
  rw [lg_entry_eq]
  generalize (lg_sl ([.ref (a 46)]) ++ List.replicate (4 - (lg_sl ([.ref (a 46)])).length) Slot.unset).toArray = ls at hl ⊢
  have hl : lv_has ls 4 [(0, .ref (a 46))] := hl
  refine zw_X4_splitBySigns_0 (A := A) ⟨B.exec, B.bytes, hml, hown, hts, hK, hA⟩ (fun H locs ls pc dg hP hD hS => ?_) S s.heap [] ls h hl hP hD va_S.rf
  exact W.iret B.exec B.bytes hr (fun t ht hW => ⟨⟨_, _, rfl, ⟨rfl, rfl⟩, by rw [ht]; exact hP, va_K.moved hW.alike hK, hD⟩, hS.F ht⟩) hS.2.2 dg
theorem zt_X4_splitBySigns_c : zc_X4_splitBySigns ∈ mq_T := mq_T_mem (mq_t4 (List.mem_of_getElem? (i := 234) rfl)) rfl
theorem zt_X4_splitBySigns_i : Cond.instanceMethod yX4_splitBySigns ∈ mq_T := mq_T_mem (mq_t4 (List.mem_of_getElem? (i := 233) rfl)) rfl
theorem zt_X4_splitBySigns_s : Cond.selects RX4 yX4_splitBySigns yX4_splitBySigns ∈ mq_T := mq_T_at 54 (by decide +kernel)
set_option maxHeartbeats 4000000 in
theorem zk_X4_splitBySigns {p : Program} {l : Launch} {e : Env} {R : Room} {s : State} {m : MethodId} {args : Array Value} {below : List Frame} {meth : Method} {c : Code} {A : Nat → Prop} {D : va_G} {a z : Nat → Nat} {cI cL cB cZ : ClassId} {Q : State → Prop} {cc : ByteArray} {nL idx pc N : Nat} {own : String} {c1 : Cond} {H : Heap} {locs : List Loc} {ls : Array Slot} {rest : List Value} {S : mq_St} {res : Int32 × mq_St} (C : mq_C p s m args c A D cI cL cB cZ cc nL own c1) (hlk : Cond.methodLink own idx yX4_splitBySigns ∈ mq_T) (hR : zr_X4_splitBySigns.frames + 1 ≤ R.frames ∧ 8 + (4 + 11) + zr_X4_splitBySigns.locals ≤ R.locals) (h : zf_X4_splitBySigns N z S = some res) (hP : va_P D vwCl (wd_C a cI cL cB cZ z S) H) (hD : va_D A (wd_C a cI cL cB cZ z S)) (hS : va_S A s.heap H locs) (hls : ls.size = nL) (hrest : (rest.map fun v => v.category).sum ≤ 8) (hdg : decode cc pc = .ok (.invokevirtual idx, 3)) (kk : ∀ (H1 : Heap) (locs1 : List Loc), va_P D vwCl (wd_C a cI cL cB cZ z res.2) H1 → va_D A (wd_C a cI cL cB cZ z res.2) → va_S A s.heap H1 locs1 → W p l e R s m args below meth c H1 locs1 0 0 Q (F0 m (pc + 3) ls (.int res.1 :: rest))) : W p l e R s m args below meth c H locs 0 0 Q (F0 m pc ls (.ref (a 46) :: rest)) := by
  obtain ⟨hx, hb, hml, hown, hts, hK, hA⟩ := C
  have hFc := mq_freeI hD hS hA
  refine va_calli (va_runV (As := []) (rest := rest) ⟨hx, hb, hml, hown, hts⟩ (zm_X4_splitBySigns l D a z cI cL cB cZ H.size N S res h) (cwV 0 hts (mq_goodL (mq_wsV hlk zt_X4_splitBySigns_i zt_X4_splitBySigns_s zt_ini_X4 zt_X4_splitBySigns_c)) rfl rfl rfl (by decide +kernel) hR) ⟨fun a U g mk q => ⟨q.1, q.2.1, q.2.2.1, va_K.moved (u := U) (U := U.calling g mk a) (Vm.Alike.refl U.vm) q.2.2.2.1, q.2.2.2.2⟩, zy_C_46 hK hP, fun U hU hW => ⟨rfl, by rw [hU], by rw [hU]; exact hP, va_K.moved hW.alike hK, hD.weaken (fun _ _ _ _ => trivial)⟩⟩ rfl rfl hls rfl (lv_room hrest) hdg ⟨Nat.zero_le _, Nat.zero_le _⟩) hS (fun q _ h => hFc q h) hFc (fun r u t H1 locs ht hvm hw hB hz1 hk1 hS => ?_)
  obtain ⟨rfl, rfl⟩ := hw
  obtain ⟨hP1, hK1, hD1⟩ := hB
  rw [ht] at hP1
  exact kk H1 locs hP1 (hD1.weaken (fun _ _ _ h => hFc _ h)) hS
theorem zt_m_X4_79 : Cond.methodLink RX4 79 yX4_splitBySigns ∈ mq_T := mq_T_mem (mq_t4 (List.mem_of_getElem? (i := 231) rfl)) rfl
/-! ModalDesk$Model.foldUp()V -/
def zr_X4_foldUp : Room := { frames := 2, cells := 0, slots := 0, locals := 48 }
def zc_X4_foldUp : Cond := .code yX4_foldUp cX4_foldUp 4 none
def zf_X4_foldUp_102 (N : Nat) (z : Nat → Nat) (v1 : Int32) (S : mq_St) : Option (Unit × mq_St) := (mq_cl (zf_X4_rebuild N z (v1) S) (fun q30v S32 => (some ((), S32))))
def zf_X4_foldUp_51b (N : Nat) (z : Nat → Nat) (k43 : Int32 → Int32 → mq_St → Option (Unit × mq_St)) (k51 : Int32 → Int32 → Int32 → mq_St → Option (Unit × mq_St)) (v1 : Int32) (v2 : Int32) (v3 : Int32) (S : mq_St) : Option (Unit × mq_St) := (if (S.1 23) ≤ v3 then (mq_cl (zf_X4_splitBySigns N z S) (fun q16v S18 => (mq_nI (q16v) (fun x19 => (if x19 = v1 then (zf_X4_foldUp_102 N z (v1) S18) else (mq_nI (x19) (fun x20 => (mq_nI (v2 + (1 : Int32)) (fun x21 => (k43 (x20) (x21) S18)))))))))) else (mq_ck (v3) 60 (mq_cp (zf_X4_moved N z ((S.2.2 7 (v3).toNatClampNeg)) S) (fun q24 => (mq_ck (v3) 60 (mq_nS (mq_sl S 8 (vp_updL (S.2.2 8) (v3).toNatClampNeg (q24))) (fun S27 => (mq_nI (v3 + (1 : Int32)) (fun x28 => (k51 (v1) (v2) (x28) S27))))))))))
def zf_X4_foldUp_51 (N : Nat) (z : Nat → Nat) (k43 : Int32 → Int32 → mq_St → Option (Unit × mq_St)) : Nat → Int32 → Int32 → Int32 → mq_St → Option (Unit × mq_St)
  | 0, _, _, _, _ => none
  | n + 1, v1, v2, v3, S => zf_X4_foldUp_51b N z k43 (fun v1 v2 v3 S => zf_X4_foldUp_51 N z k43 n v1 v2 v3 S) v1 v2 v3 S
def zf_X4_foldUp_43b (N : Nat) (z : Nat → Nat) (k43 : Int32 → Int32 → mq_St → Option (Unit × mq_St)) (v1 : Int32) (v2 : Int32) (S : mq_St) : Option (Unit × mq_St) := (if (60 : Int32) ≤ v2 then (zf_X4_foldUp_102 N z (v1) S) else (mq_nI ((0 : Int32)) (fun x14 => (zf_X4_foldUp_51 N z k43 N (v1) (v2) (x14) S))))
def zf_X4_foldUp_43 (N : Nat) (z : Nat → Nat) : Nat → Int32 → Int32 → mq_St → Option (Unit × mq_St)
  | 0, _, _, _ => none
  | n + 1, v1, v2, S => zf_X4_foldUp_43b N z (fun v1 v2 S => zf_X4_foldUp_43 N z n v1 v2 S) v1 v2 S
def zf_X4_foldUp_2b (N : Nat) (z : Nat → Nat) (k2 : Int32 → mq_St → Option (Unit × mq_St)) (v1 : Int32) (S : mq_St) : Option (Unit × mq_St) := (if (S.1 23) ≤ v1 then (mq_cl (zf_X4_splitBySigns N z S) (fun q2v S4 => (mq_nI (q2v) (fun x5 => (mq_nI ((0 : Int32)) (fun x6 => (zf_X4_foldUp_43 N z N (x5) (x6) S4))))))) else (mq_ck (v1) 60 (mq_nS (mq_sa S 26 (upd (S.2.1 26) (v1).toNatClampNeg ((0 : Int32)))) (fun S8 => (mq_ck (v1) 60 (mq_ck (v1) 60 (mq_nS (mq_sl S8 8 (vp_updL (S8.2.2 8) (v1).toNatClampNeg ((((S8.2.1 23 (v1).toNatClampNeg)).toInt64)))) (fun S11 => (mq_nI (v1 + (1 : Int32)) (fun x12 => (k2 (x12) S11)))))))))))
def zf_X4_foldUp_2 (N : Nat) (z : Nat → Nat) : Nat → Int32 → mq_St → Option (Unit × mq_St)
  | 0, _, _ => none
  | n + 1, v1, S => zf_X4_foldUp_2b N z (fun v1 S => zf_X4_foldUp_2 N z n v1 S) v1 S
def zf_X4_foldUp (N : Nat) (z : Nat → Nat) (S : mq_St) : Option (Unit × mq_St) := (mq_nI ((0 : Int32)) (fun x1 => (zf_X4_foldUp_2 N z N (x1) S)))
set_option maxHeartbeats 4000000 in
set_option maxRecDepth 100000 in
theorem zw_X4_foldUp_102 {p : Program} {l : Launch} {e : Env} {s : State} {m : MethodId} {args : Array Value} {below : List Frame} {meth : Method} {c : Code} {A : Nat → Prop} {D : va_G} {a z : Nat → Nat} {cI cL cB cZ : ClassId} {Q : State → Prop} {N : Nat} {res : Unit × mq_St} (C : mq_C p s m args c A D cI cL cB cZ cX4_foldUp 4 RX4 zc_X4_foldUp) (hret : ∀ (H : Heap) (locs : List Loc) (ls : Array Slot) (pc : Nat), decode cX4_foldUp pc = .ok (.return_, 1) → va_P D vwCl (wd_C a cI cL cB cZ z res.2) H → va_D A (wd_C a cI cL cB cZ z res.2) → va_S A s.heap H locs → W p l e zr_X4_foldUp s m args below meth c H locs 0 0 Q (F0 m pc ls [])) (v1 : Int32) (S : mq_St) (H : Heap) (locs : List Loc) (ls : Array Slot) (h : zf_X4_foldUp_102 N z v1 S = some res) (hl : lv_has ls 4 [(0, .ref (a 46)), (1, .int (v1))]) (hP : va_P D vwCl (wd_C a cI cL cB cZ z S) H) (hD : va_D A (wd_C a cI cL cB cZ z S)) (hS : va_S A s.heap H locs) : W p l e zr_X4_foldUp s m args below meth c H locs 0 0 Q (F0 m 102 ls []) := by
  obtain ⟨hx, hb, hml, hown, hts, hK, hA⟩ := id C
  unfold zf_X4_foldUp_102 at h
  refine lv_aload_n hx hb dX4_foldUp_102 rfl (lv_at hl 0 rfl) ?_
  refine lv_iload_n hx hb dX4_foldUp_103 rfl (lv_at hl 1 rfl) ?_
  obtain ⟨q30, hc31, h⟩ := mq_cl_go h
  refine zk_X4_rebuild C zt_m_X4_87 ⟨by decide, by decide⟩ hc31 hP hD hS hl.1 (Nat.le_of_ble_eq_true rfl) dX4_foldUp_104 (fun H locs hP hD hS => ?_)
  obtain ⟨S32, eS32⟩ : ∃ y, y = q30.2 := ⟨_, rfl⟩
  rw [← eS32] at hP hD h
  cases h
  exact hret H locs ls 107 dX4_foldUp_107 hP hD hS
set_option maxHeartbeats 4000000 in
set_option maxRecDepth 100000 in
theorem zw_X4_foldUp_51b {p : Program} {l : Launch} {e : Env} {s : State} {m : MethodId} {args : Array Value} {below : List Frame} {meth : Method} {c : Code} {A : Nat → Prop} {D : va_G} {a z : Nat → Nat} {cI cL cB cZ : ClassId} {Q : State → Prop} {N : Nat} {res : Unit × mq_St} {k43 : Int32 → Int32 → mq_St → Option (Unit × mq_St)} {k51 : Int32 → Int32 → Int32 → mq_St → Option (Unit × mq_St)} (C : mq_C p s m args c A D cI cL cB cZ cX4_foldUp 4 RX4 zc_X4_foldUp) (hret : ∀ (H : Heap) (locs : List Loc) (ls : Array Slot) (pc : Nat), decode cX4_foldUp pc = .ok (.return_, 1) → va_P D vwCl (wd_C a cI cL cB cZ z res.2) H → va_D A (wd_C a cI cL cB cZ z res.2) → va_S A s.heap H locs → W p l e zr_X4_foldUp s m args below meth c H locs 0 0 Q (F0 m pc ls [])) (hk43 : ∀ (v1 : Int32) (v2 : Int32) (S : mq_St) (H : Heap) (locs : List Loc) (ls : Array Slot), k43 v1 v2 S = some res → lv_has ls 4 [(0, .ref (a 46)), (1, .int (v1)), (2, .int (v2))] → va_P D vwCl (wd_C a cI cL cB cZ z S) H → va_D A (wd_C a cI cL cB cZ z S) → va_S A s.heap H locs → W p l e zr_X4_foldUp s m args below meth c H locs 0 0 Q (F0 m 43 ls [])) (hk51 : ∀ (v1 : Int32) (v2 : Int32) (v3 : Int32) (S : mq_St) (H : Heap) (locs : List Loc) (ls : Array Slot), k51 v1 v2 v3 S = some res → lv_has ls 4 [(0, .ref (a 46)), (1, .int (v1)), (2, .int (v2)), (3, .int (v3))] → va_P D vwCl (wd_C a cI cL cB cZ z S) H → va_D A (wd_C a cI cL cB cZ z S) → va_S A s.heap H locs → W p l e zr_X4_foldUp s m args below meth c H locs 0 0 Q (F0 m 51 ls [])) (v1 : Int32) (v2 : Int32) (v3 : Int32) (S : mq_St) (H : Heap) (locs : List Loc) (ls : Array Slot) (h : zf_X4_foldUp_51b N z k43 k51 v1 v2 v3 S = some res) (hl : lv_has ls 4 [(0, .ref (a 46)), (1, .int (v1)), (2, .int (v2)), (3, .int (v3))]) (hP : va_P D vwCl (wd_C a cI cL cB cZ z S) H) (hD : va_D A (wd_C a cI cL cB cZ z S)) (hS : va_S A s.heap H locs) : W p l e zr_X4_foldUp s m args below meth c H locs 0 0 Q (F0 m 51 ls []) := by
  obtain ⟨hx, hb, hml, hown, hts, hK, hA⟩ := id C
  unfold zf_X4_foldUp_51b at h
  refine lv_iload_n hx hb dX4_foldUp_51 rfl (lv_at hl 3 rfl) ?_
  refine lv_aload_n hx hb dX4_foldUp_52 rfl (lv_at hl 0 rfl) ?_
  refine va_get (D := D) (ci := 4) (v := .int ((S.1 23))) (C := RX4) (T := TX4) (N := 12) hx hb hts (zi_X4 _) hown hK hP 46 rfl rfl 10 (by decide) (hts _ (List.mem_cons_of_mem _ zt_f_X4_41)) (fun _ h9 => h9) rfl dX4_foldUp_53 ?_
  refine lv_icmp_ge (tgt := 81) hx hb dX4_foldUp_56 (by decide) (fun c29 => ?_) (fun c29 => ?_)
  · replace h := mq_it c29 h
    refine lv_aload_n hx hb dX4_foldUp_81 rfl (lv_at hl 0 rfl) ?_
    obtain ⟨q16, hc17, h⟩ := mq_cl_go h
    refine zk_X4_splitBySigns C zt_m_X4_79 ⟨by decide, by decide⟩ hc17 hP hD hS hl.1 (Nat.le_of_ble_eq_true rfl) dX4_foldUp_82 (fun H locs hP hD hS => ?_)
    obtain ⟨S18, eS18⟩ : ∃ y, y = q16.2 := ⟨_, rfl⟩
    rw [← eS18] at hP hD h
    refine lv_topi (fun x19 ex19 => ?_)
    replace h := mq_nI_go ex19 h
    refine lv_istore_n (lv' := [(3, .int (x19)), (0, .ref (a 46)), (1, .int (v1)), (2, .int (v2))]) hx hb dX4_foldUp_85 rfl hl (by decide) rfl (fun ls hl => ?_)
    refine lv_iload_n hx hb dX4_foldUp_86 rfl (lv_at hl 0 rfl) ?_
    refine lv_iload_n hx hb dX4_foldUp_87 rfl (lv_at hl 2 rfl) ?_
    refine lv_icmp_ne (tgt := 94) hx hb dX4_foldUp_88 (by decide) (fun c22 => ?_) (fun c22 => ?_)
    · replace h := mq_if c22 h
      refine lv_iload_n hx hb dX4_foldUp_94 rfl (lv_at hl 0 rfl) ?_
      refine lv_topi (fun x20 ex20 => ?_)
      replace h := mq_nI_go ex20 h
      refine lv_istore_n (lv' := [(1, .int (x20)), (3, .int (x19)), (0, .ref (a 46)), (2, .int (v2))]) hx hb dX4_foldUp_95 rfl hl (by decide) rfl (fun ls hl => ?_)
      obtain ⟨x21, ex21⟩ : ∃ y : Int32, y = v2 + (1 : Int32) := ⟨_, rfl⟩
      replace h := mq_nI_go ex21 h
      refine lv_iinc (v := x21) (lv' := [(2, .int (x21)), (1, .int (x20)), (3, .int (x19)), (0, .ref (a 46))]) hx hb dX4_foldUp_96 hl (k := 3) rfl (by rw [ex21]; rfl) (by decide) rfl (fun ls hl => ?_)
      refine lv_goto (tgt := 43) hx hb dX4_foldUp_99 (by decide) ?_
      exact hk43 (x20) (x21) S18 H locs ls h (lv_sub hl [3, 1, 0] rfl) hP hD hS
    · replace h := mq_it (by simpa using c22) h
      refine lv_goto (tgt := 102) hx hb dX4_foldUp_91 (by decide) ?_
      exact zw_X4_foldUp_102 C hret (v1) S18 H locs ls h (lv_sub hl [1, 2] rfl) hP hD hS
  · replace h := mq_if c29 h
    refine lv_aload_n hx hb dX4_foldUp_59 rfl (lv_at hl 0 rfl) ?_
    refine va_get (D := D) (ci := 4) (v := .ref (a 53)) (C := RX4) (T := TX4) (N := 12) hx hb hts (zi_X4 _) hown hK hP 46 rfl rfl 7 (by decide) (hts _ (List.mem_cons_of_mem _ zt_f_X4_31)) (fun _ h9 => h9) rfl dX4_foldUp_60 ?_
    refine lv_iload_n hx hb dX4_foldUp_63 rfl (lv_at hl 3 rfl) ?_
    refine lv_aload_n hx hb dX4_foldUp_64 rfl (lv_at hl 0 rfl) ?_
    refine lv_aload_n hx hb dX4_foldUp_65 rfl (lv_at hl 0 rfl) ?_
    refine va_get (D := D) (ci := 4) (v := .ref (a 48)) (C := RX4) (T := TX4) (N := 12) hx hb hts (zi_X4 _) hown hK hP 46 rfl rfl 2 (by decide) (hts _ (List.mem_cons_of_mem _ zt_f_X4_15)) (fun _ h9 => h9) rfl dX4_foldUp_66 ?_
    refine lv_iload_n hx hb dX4_foldUp_69 rfl (lv_at hl 3 rfl) ?_
    have hi23 := mq_ck_in h
    replace h := mq_ck_go h
    refine va_lald (f := S.2.2 7) hx hb hK hP 48 1 rfl rfl hi23 dX4_foldUp_70 ?_
    obtain ⟨q24, hc25, h⟩ := mq_cp_go h
    refine zk_X4_moved C zt_m_X4_83 ⟨by decide, by decide⟩ hc25 hP hD hS hl.1 (Nat.le_of_ble_eq_true rfl) dX4_foldUp_71 (fun H locs hP hD hS => ?_)
    have hi26 := mq_ck_in h
    replace h := mq_ck_go h
    refine mq_last (w := wd_C a cI cL cB cZ z) (S := S) (f := S.2.2 8) hx hb hK hP hD hS 53 1 rfl rfl hi26 dX4_foldUp_74 8 (zs_wd_C_l_53_8 _ _ _ _ _ _ _ _) (fun S27 eS27 H locs hP hD hS => ?_)
    replace h := mq_nS_go eS27 h
    obtain ⟨x28, ex28⟩ : ∃ y : Int32, y = v3 + (1 : Int32) := ⟨_, rfl⟩
    replace h := mq_nI_go ex28 h
    refine lv_iinc (v := x28) (lv' := [(3, .int (x28)), (0, .ref (a 46)), (1, .int (v1)), (2, .int (v2))]) hx hb dX4_foldUp_75 hl (k := 3) rfl (by rw [ex28]; rfl) (by decide) rfl (fun ls hl => ?_)
    refine lv_goto (tgt := 51) hx hb dX4_foldUp_78 (by decide) ?_
    exact hk51 (v1) (v2) (x28) S27 H locs ls h (lv_sub hl [1, 2, 3, 0] rfl) hP hD hS
set_option maxHeartbeats 4000000 in
set_option maxRecDepth 100000 in
theorem zw_X4_foldUp_51 {p : Program} {l : Launch} {e : Env} {s : State} {m : MethodId} {args : Array Value} {below : List Frame} {meth : Method} {c : Code} {A : Nat → Prop} {D : va_G} {a z : Nat → Nat} {cI cL cB cZ : ClassId} {Q : State → Prop} {N : Nat} {res : Unit × mq_St} {k43 : Int32 → Int32 → mq_St → Option (Unit × mq_St)} (C : mq_C p s m args c A D cI cL cB cZ cX4_foldUp 4 RX4 zc_X4_foldUp) (hret : ∀ (H : Heap) (locs : List Loc) (ls : Array Slot) (pc : Nat), decode cX4_foldUp pc = .ok (.return_, 1) → va_P D vwCl (wd_C a cI cL cB cZ z res.2) H → va_D A (wd_C a cI cL cB cZ z res.2) → va_S A s.heap H locs → W p l e zr_X4_foldUp s m args below meth c H locs 0 0 Q (F0 m pc ls [])) (hk43 : ∀ (v1 : Int32) (v2 : Int32) (S : mq_St) (H : Heap) (locs : List Loc) (ls : Array Slot), k43 v1 v2 S = some res → lv_has ls 4 [(0, .ref (a 46)), (1, .int (v1)), (2, .int (v2))] → va_P D vwCl (wd_C a cI cL cB cZ z S) H → va_D A (wd_C a cI cL cB cZ z S) → va_S A s.heap H locs → W p l e zr_X4_foldUp s m args below meth c H locs 0 0 Q (F0 m 43 ls [])) : ∀ (n : Nat) (v1 : Int32) (v2 : Int32) (v3 : Int32) (S : mq_St) (H : Heap) (locs : List Loc) (ls : Array Slot) (h : zf_X4_foldUp_51 N z k43 n v1 v2 v3 S = some res) (hl : lv_has ls 4 [(0, .ref (a 46)), (1, .int (v1)), (2, .int (v2)), (3, .int (v3))]) (hP : va_P D vwCl (wd_C a cI cL cB cZ z S) H) (hD : va_D A (wd_C a cI cL cB cZ z S)) (hS : va_S A s.heap H locs), W p l e zr_X4_foldUp s m args below meth c H locs 0 0 Q (F0 m 51 ls []) := by
  intro n
  induction n with
  | zero =>
    intro v1 v2 v3 S H locs ls h hl hP hD hS
    exact nomatch (show (none : Option (Unit × mq_St)) = some res from h)
  | succ n ih =>
    intro v1 v2 v3 S H locs ls h hl hP hD hS
    exact zw_X4_foldUp_51b C hret hk43 (fun v1 v2 v3 S H locs ls h hl hP hD hS => ih v1 v2 v3 S H locs ls h hl hP hD hS) v1 v2 v3 S H locs ls h hl hP hD hS
set_option maxHeartbeats 4000000 in
set_option maxRecDepth 100000 in
theorem zw_X4_foldUp_43b {p : Program} {l : Launch} {e : Env} {s : State} {m : MethodId} {args : Array Value} {below : List Frame} {meth : Method} {c : Code} {A : Nat → Prop} {D : va_G} {a z : Nat → Nat} {cI cL cB cZ : ClassId} {Q : State → Prop} {N : Nat} {res : Unit × mq_St} {k43 : Int32 → Int32 → mq_St → Option (Unit × mq_St)} (C : mq_C p s m args c A D cI cL cB cZ cX4_foldUp 4 RX4 zc_X4_foldUp) (hret : ∀ (H : Heap) (locs : List Loc) (ls : Array Slot) (pc : Nat), decode cX4_foldUp pc = .ok (.return_, 1) → va_P D vwCl (wd_C a cI cL cB cZ z res.2) H → va_D A (wd_C a cI cL cB cZ z res.2) → va_S A s.heap H locs → W p l e zr_X4_foldUp s m args below meth c H locs 0 0 Q (F0 m pc ls [])) (hk43 : ∀ (v1 : Int32) (v2 : Int32) (S : mq_St) (H : Heap) (locs : List Loc) (ls : Array Slot), k43 v1 v2 S = some res → lv_has ls 4 [(0, .ref (a 46)), (1, .int (v1)), (2, .int (v2))] → va_P D vwCl (wd_C a cI cL cB cZ z S) H → va_D A (wd_C a cI cL cB cZ z S) → va_S A s.heap H locs → W p l e zr_X4_foldUp s m args below meth c H locs 0 0 Q (F0 m 43 ls [])) (v1 : Int32) (v2 : Int32) (S : mq_St) (H : Heap) (locs : List Loc) (ls : Array Slot) (h : zf_X4_foldUp_43b N z k43 v1 v2 S = some res) (hl : lv_has ls 4 [(0, .ref (a 46)), (1, .int (v1)), (2, .int (v2))]) (hP : va_P D vwCl (wd_C a cI cL cB cZ z S) H) (hD : va_D A (wd_C a cI cL cB cZ z S)) (hS : va_S A s.heap H locs) : W p l e zr_X4_foldUp s m args below meth c H locs 0 0 Q (F0 m 43 ls []) := by
  obtain ⟨hx, hb, hml, hown, hts, hK, hA⟩ := id C
  unfold zf_X4_foldUp_43b at h
  refine lv_iload_n hx hb dX4_foldUp_43 rfl (lv_at hl 2 rfl) ?_
  refine lv_bipush (v := (60 : Int32)) hx hb dX4_foldUp_44 (by decide) ?_
  refine lv_icmp_ge (tgt := 102) hx hb dX4_foldUp_46 (by decide) (fun c15 => ?_) (fun c15 => ?_)
  · replace h := mq_it c15 h
    exact zw_X4_foldUp_102 C hret (v1) S H locs ls h (lv_sub hl [0, 1] rfl) hP hD hS
  · replace h := mq_if c15 h
    refine lv_iconst (v := (0 : Int32)) hx hb dX4_foldUp_49 (by decide) ?_
    refine lv_topi (fun x14 ex14 => ?_)
    replace h := mq_nI_go ex14 h
    refine lv_istore_n (lv' := [(3, .int (x14)), (0, .ref (a 46)), (1, .int (v1)), (2, .int (v2))]) hx hb dX4_foldUp_50 rfl hl (by decide) rfl (fun ls hl => ?_)
    exact zw_X4_foldUp_51 C hret hk43 N (v1) (v2) (x14) S H locs ls h (lv_sub hl [1, 2, 3, 0] rfl) hP hD hS
set_option maxHeartbeats 4000000 in
set_option maxRecDepth 100000 in
theorem zw_X4_foldUp_43 {p : Program} {l : Launch} {e : Env} {s : State} {m : MethodId} {args : Array Value} {below : List Frame} {meth : Method} {c : Code} {A : Nat → Prop} {D : va_G} {a z : Nat → Nat} {cI cL cB cZ : ClassId} {Q : State → Prop} {N : Nat} {res : Unit × mq_St} (C : mq_C p s m args c A D cI cL cB cZ cX4_foldUp 4 RX4 zc_X4_foldUp) (hret : ∀ (H : Heap) (locs : List Loc) (ls : Array Slot) (pc : Nat), decode cX4_foldUp pc = .ok (.return_, 1) → va_P D vwCl (wd_C a cI cL cB cZ z res.2) H → va_D A (wd_C a cI cL cB cZ z res.2) → va_S A s.heap H locs → W p l e zr_X4_foldUp s m args below meth c H locs 0 0 Q (F0 m pc ls [])) : ∀ (n : Nat) (v1 : Int32) (v2 : Int32) (S : mq_St) (H : Heap) (locs : List Loc) (ls : Array Slot) (h : zf_X4_foldUp_43 N z n v1 v2 S = some res) (hl : lv_has ls 4 [(0, .ref (a 46)), (1, .int (v1)), (2, .int (v2))]) (hP : va_P D vwCl (wd_C a cI cL cB cZ z S) H) (hD : va_D A (wd_C a cI cL cB cZ z S)) (hS : va_S A s.heap H locs), W p l e zr_X4_foldUp s m args below meth c H locs 0 0 Q (F0 m 43 ls []) := by
  intro n
  induction n with
  | zero =>
    intro v1 v2 S H locs ls h hl hP hD hS
    exact nomatch (show (none : Option (Unit × mq_St)) = some res from h)
  | succ n ih =>
    intro v1 v2 S H locs ls h hl hP hD hS
    exact zw_X4_foldUp_43b C hret (fun v1 v2 S H locs ls h hl hP hD hS => ih v1 v2 S H locs ls h hl hP hD hS) v1 v2 S H locs ls h hl hP hD hS
set_option maxHeartbeats 4000000 in
set_option maxRecDepth 100000 in
theorem zw_X4_foldUp_2b {p : Program} {l : Launch} {e : Env} {s : State} {m : MethodId} {args : Array Value} {below : List Frame} {meth : Method} {c : Code} {A : Nat → Prop} {D : va_G} {a z : Nat → Nat} {cI cL cB cZ : ClassId} {Q : State → Prop} {N : Nat} {res : Unit × mq_St} {k2 : Int32 → mq_St → Option (Unit × mq_St)} (C : mq_C p s m args c A D cI cL cB cZ cX4_foldUp 4 RX4 zc_X4_foldUp) (hret : ∀ (H : Heap) (locs : List Loc) (ls : Array Slot) (pc : Nat), decode cX4_foldUp pc = .ok (.return_, 1) → va_P D vwCl (wd_C a cI cL cB cZ z res.2) H → va_D A (wd_C a cI cL cB cZ z res.2) → va_S A s.heap H locs → W p l e zr_X4_foldUp s m args below meth c H locs 0 0 Q (F0 m pc ls [])) (hk2 : ∀ (v1 : Int32) (S : mq_St) (H : Heap) (locs : List Loc) (ls : Array Slot), k2 v1 S = some res → lv_has ls 4 [(0, .ref (a 46)), (1, .int (v1))] → va_P D vwCl (wd_C a cI cL cB cZ z S) H → va_D A (wd_C a cI cL cB cZ z S) → va_S A s.heap H locs → W p l e zr_X4_foldUp s m args below meth c H locs 0 0 Q (F0 m 2 ls [])) (v1 : Int32) (S : mq_St) (H : Heap) (locs : List Loc) (ls : Array Slot) (h : zf_X4_foldUp_2b N z k2 v1 S = some res) (hl : lv_has ls 4 [(0, .ref (a 46)), (1, .int (v1))]) (hP : va_P D vwCl (wd_C a cI cL cB cZ z S) H) (hD : va_D A (wd_C a cI cL cB cZ z S)) (hS : va_S A s.heap H locs) : W p l e zr_X4_foldUp s m args below meth c H locs 0 0 Q (F0 m 2 ls []) := by
  obtain ⟨hx, hb, hml, hown, hts, hK, hA⟩ := id C
  unfold zf_X4_foldUp_2b at h
  refine lv_iload_n hx hb dX4_foldUp_2 rfl (lv_at hl 1 rfl) ?_
  refine lv_aload_n hx hb dX4_foldUp_3 rfl (lv_at hl 0 rfl) ?_
  refine va_get (D := D) (ci := 4) (v := .int ((S.1 23))) (C := RX4) (T := TX4) (N := 12) hx hb hts (zi_X4 _) hown hK hP 46 rfl rfl 10 (by decide) (hts _ (List.mem_cons_of_mem _ zt_f_X4_41)) (fun _ h9 => h9) rfl dX4_foldUp_4 ?_
  refine lv_icmp_ge (tgt := 36) hx hb dX4_foldUp_7 (by decide) (fun c13 => ?_) (fun c13 => ?_)
  · replace h := mq_it c13 h
    refine lv_aload_n hx hb dX4_foldUp_36 rfl (lv_at hl 0 rfl) ?_
    obtain ⟨q2, hc3, h⟩ := mq_cl_go h
    refine zk_X4_splitBySigns C zt_m_X4_79 ⟨by decide, by decide⟩ hc3 hP hD hS hl.1 (Nat.le_of_ble_eq_true rfl) dX4_foldUp_37 (fun H locs hP hD hS => ?_)
    obtain ⟨S4, eS4⟩ : ∃ y, y = q2.2 := ⟨_, rfl⟩
    rw [← eS4] at hP hD h
    refine lv_topi (fun x5 ex5 => ?_)
    replace h := mq_nI_go ex5 h
    refine lv_istore_n (lv' := [(1, .int (x5)), (0, .ref (a 46))]) hx hb dX4_foldUp_40 rfl hl (by decide) rfl (fun ls hl => ?_)
    refine lv_iconst (v := (0 : Int32)) hx hb dX4_foldUp_41 (by decide) ?_
    refine lv_topi (fun x6 ex6 => ?_)
    replace h := mq_nI_go ex6 h
    refine lv_istore_n (lv' := [(2, .int (x6)), (1, .int (x5)), (0, .ref (a 46))]) hx hb dX4_foldUp_42 rfl hl (by decide) rfl (fun ls hl => ?_)
    exact zw_X4_foldUp_43 C hret N (x5) (x6) S4 H locs ls h (lv_sub hl [2, 1, 0] rfl) hP hD hS
  · replace h := mq_if c13 h
    refine lv_aload_n hx hb dX4_foldUp_10 rfl (lv_at hl 0 rfl) ?_
    refine va_get (D := D) (ci := 4) (v := .ref (a 51)) (C := RX4) (T := TX4) (N := 12) hx hb hts (zi_X4 _) hown hK hP 46 rfl rfl 5 (by decide) (hts _ (List.mem_cons_of_mem _ zt_f_X4_25)) (fun _ h9 => h9) rfl dX4_foldUp_11 ?_
    refine lv_iload_n hx hb dX4_foldUp_14 rfl (lv_at hl 1 rfl) ?_
    refine lv_iconst (v := (0 : Int32)) hx hb dX4_foldUp_15 (by decide) ?_
    have hi7 := mq_ck_in h
    replace h := mq_ck_go h
    refine mq_iast (w := wd_C a cI cL cB cZ z) (S := S) (f := S.2.1 26) hx hb hK hP hD hS 51 0 rfl rfl hi7 dX4_foldUp_16 26 (zs_wd_C_a_51_26 _ _ _ _ _ _ _ _) (fun S8 eS8 H locs hP hD hS => ?_)
    replace h := mq_nS_go eS8 h
    refine lv_aload_n hx hb dX4_foldUp_17 rfl (lv_at hl 0 rfl) ?_
    refine va_get (D := D) (ci := 4) (v := .ref (a 53)) (C := RX4) (T := TX4) (N := 12) hx hb hts (zi_X4 _) hown hK hP 46 rfl rfl 7 (by decide) (hts _ (List.mem_cons_of_mem _ zt_f_X4_31)) (fun _ h9 => h9) rfl dX4_foldUp_18 ?_
    refine lv_iload_n hx hb dX4_foldUp_21 rfl (lv_at hl 1 rfl) ?_
    refine lv_aload_n hx hb dX4_foldUp_22 rfl (lv_at hl 0 rfl) ?_
    refine va_get (D := D) (ci := 4) (v := .ref (a 47)) (C := RX4) (T := TX4) (N := 12) hx hb hts (zi_X4 _) hown hK hP 46 rfl rfl 1 (by decide) (hts _ (List.mem_cons_of_mem _ zt_f_X4_9)) (fun _ h9 => h9) rfl dX4_foldUp_23 ?_
    refine lv_iload_n hx hb dX4_foldUp_26 rfl (lv_at hl 1 rfl) ?_
    have hi9 := mq_ck_in h
    replace h := mq_ck_go h
    refine va_iald (f := S8.2.1 23) hx hb hK hP 47 0 rfl rfl hi9 dX4_foldUp_27 ?_
    refine lv_i2l (v := ((S8.2.1 23 (v1).toNatClampNeg)).toInt64) hx hb dX4_foldUp_28 rfl ?_
    have hi10 := mq_ck_in h
    replace h := mq_ck_go h
    refine mq_last (w := wd_C a cI cL cB cZ z) (S := S8) (f := S8.2.2 8) hx hb hK hP hD hS 53 1 rfl rfl hi10 dX4_foldUp_29 8 (zs_wd_C_l_53_8 _ _ _ _ _ _ _ _) (fun S11 eS11 H locs hP hD hS => ?_)
    replace h := mq_nS_go eS11 h
    obtain ⟨x12, ex12⟩ : ∃ y : Int32, y = v1 + (1 : Int32) := ⟨_, rfl⟩
    replace h := mq_nI_go ex12 h
    refine lv_iinc (v := x12) (lv' := [(1, .int (x12)), (0, .ref (a 46))]) hx hb dX4_foldUp_30 hl (k := 1) rfl (by rw [ex12]; rfl) (by decide) rfl (fun ls hl => ?_)
    refine lv_goto (tgt := 2) hx hb dX4_foldUp_33 (by decide) ?_
    exact hk2 (x12) S11 H locs ls h (lv_sub hl [1, 0] rfl) hP hD hS
set_option maxHeartbeats 4000000 in
set_option maxRecDepth 100000 in
theorem zw_X4_foldUp_2 {p : Program} {l : Launch} {e : Env} {s : State} {m : MethodId} {args : Array Value} {below : List Frame} {meth : Method} {c : Code} {A : Nat → Prop} {D : va_G} {a z : Nat → Nat} {cI cL cB cZ : ClassId} {Q : State → Prop} {N : Nat} {res : Unit × mq_St} (C : mq_C p s m args c A D cI cL cB cZ cX4_foldUp 4 RX4 zc_X4_foldUp) (hret : ∀ (H : Heap) (locs : List Loc) (ls : Array Slot) (pc : Nat), decode cX4_foldUp pc = .ok (.return_, 1) → va_P D vwCl (wd_C a cI cL cB cZ z res.2) H → va_D A (wd_C a cI cL cB cZ z res.2) → va_S A s.heap H locs → W p l e zr_X4_foldUp s m args below meth c H locs 0 0 Q (F0 m pc ls [])) : ∀ (n : Nat) (v1 : Int32) (S : mq_St) (H : Heap) (locs : List Loc) (ls : Array Slot) (h : zf_X4_foldUp_2 N z n v1 S = some res) (hl : lv_has ls 4 [(0, .ref (a 46)), (1, .int (v1))]) (hP : va_P D vwCl (wd_C a cI cL cB cZ z S) H) (hD : va_D A (wd_C a cI cL cB cZ z S)) (hS : va_S A s.heap H locs), W p l e zr_X4_foldUp s m args below meth c H locs 0 0 Q (F0 m 2 ls []) := by
  intro n
  induction n with
  | zero =>
    intro v1 S H locs ls h hl hP hD hS
    exact nomatch (show (none : Option (Unit × mq_St)) = some res from h)
  | succ n ih =>
    intro v1 S H locs ls h hl hP hD hS
    exact zw_X4_foldUp_2b C hret (fun v1 S H locs ls h hl hP hD hS => ih v1 S H locs ls h hl hP hD hS) v1 S H locs ls h hl hP hD hS
set_option maxHeartbeats 4000000 in
set_option maxRecDepth 100000 in
theorem zw_X4_foldUp_0 {p : Program} {l : Launch} {e : Env} {s : State} {m : MethodId} {args : Array Value} {below : List Frame} {meth : Method} {c : Code} {A : Nat → Prop} {D : va_G} {a z : Nat → Nat} {cI cL cB cZ : ClassId} {Q : State → Prop} {N : Nat} {res : Unit × mq_St} (C : mq_C p s m args c A D cI cL cB cZ cX4_foldUp 4 RX4 zc_X4_foldUp) (hret : ∀ (H : Heap) (locs : List Loc) (ls : Array Slot) (pc : Nat), decode cX4_foldUp pc = .ok (.return_, 1) → va_P D vwCl (wd_C a cI cL cB cZ z res.2) H → va_D A (wd_C a cI cL cB cZ z res.2) → va_S A s.heap H locs → W p l e zr_X4_foldUp s m args below meth c H locs 0 0 Q (F0 m pc ls [])) (S : mq_St) (H : Heap) (locs : List Loc) (ls : Array Slot) (h : zf_X4_foldUp N z S = some res) (hl : lv_has ls 4 [(0, .ref (a 46))]) (hP : va_P D vwCl (wd_C a cI cL cB cZ z S) H) (hD : va_D A (wd_C a cI cL cB cZ z S)) (hS : va_S A s.heap H locs) : W p l e zr_X4_foldUp s m args below meth c H locs 0 0 Q (F0 m 0 ls []) := by
  obtain ⟨hx, hb, hml, hown, hts, hK, hA⟩ := id C
  unfold zf_X4_foldUp at h
  refine lv_iconst (v := (0 : Int32)) hx hb dX4_foldUp_0 (by decide) ?_
  refine lv_topi (fun x1 ex1 => ?_)
  replace h := mq_nI_go ex1 h
  refine lv_istore_n (lv' := [(1, .int (x1)), (0, .ref (a 46))]) hx hb dX4_foldUp_1 rfl hl (by decide) rfl (fun ls hl => ?_)
  exact zw_X4_foldUp_2 C hret N (x1) S H locs ls h (lv_sub hl [1, 0] rfl) hP hD hS
set_option maxHeartbeats 4000000 in
set_option maxRecDepth 100000 in
theorem zm_X4_foldUp (l : Launch) (D : va_G) (a z : Nat → Nat) (cI cL cB cZ : ClassId) (sz N : Nat) (S : mq_St) (res : Unit × mq_St) (h : zf_X4_foldUp N z S = some res) : Met l yX4_foldUp (zc_X4_foldUp :: mq_T) zr_X4_foldUp (va_Pc [.ref (a 46)] (fun U => U.heap.size = sz ∧ va_P D vwCl (wd_C a cI cL cB cZ z S) U.heap ∧ va_K D vwCl (mq_tys cI cL cB cZ) U ∧ va_D (fun _ => True) (wd_C a cI cL cB cZ z S))) (va_Qv (fun u : mq_St => u = res.2) (fun u t => va_P D vwCl (wd_C a cI cL cB cZ z u) t.heap ∧ va_K D vwCl (mq_tys cI cL cB cZ) t ∧ va_D (va_A (wd_C a cI cL cB cZ z S) sz) (wd_C a cI cL cB cZ z u)) (va_A (wd_C a cI cL cB cZ z S) sz)) 0 0 (va_A (wd_C a cI cL cB cZ z S) sz) := by
  refine Met.ofW (cc := cX4_foldUp) (maxL := 4) (ret := none) (by decide) rfl ?_
  intro p e s m args below meth c s₁ B hml hv
  obtain ⟨rfl, hsz, hP, hK, hD0⟩ := hv
  have hr := B.returns
  have hlocks := B.notSynchronized
  have hts := atoms_spec (ws := zc_X4_foldUp :: mq_T) B.pre
  have hown : s.vm.findClass RX4 = some m.cls := findClass_of_methodNamed B.named
  subst hsz
  have hD := hD0.self (sz := s.heap.size)
  generalize hAe : va_A (wd_C a cI cL cB cZ z S) s.heap.size = A at hD ⊢
  have hA : ∀ q : Nat, s.heap.size ≤ q → A q := fun q h => by rw [← hAe]; exact Or.inr h
  have hl := lv_entry ([.ref (a 46)]) (n := 4) (Nat.le_of_ble_eq_true rfl)
  rw [lg_entry_eq]
  generalize (lg_sl ([.ref (a 46)]) ++ List.replicate (4 - (lg_sl ([.ref (a 46)])).length) Slot.unset).toArray = ls at hl ⊢
  have hl : lv_has ls 4 [(0, .ref (a 46))] := hl
  refine zw_X4_foldUp_0 (A := A) ⟨B.exec, B.bytes, hml, hown, hts, hK, hA⟩ (fun H locs ls pc dg hP hD hS => ?_) S s.heap [] ls h hl hP hD va_S.rf
  exact W.vret B.exec B.bytes hr (fun t ht hW => ⟨⟨_, rfl, rfl, by rw [ht]; exact hP, va_K.moved hW.alike hK, hD⟩, hS.F ht⟩) hS.2.2 dg
theorem zt_X4_foldUp_c : zc_X4_foldUp ∈ mq_T := mq_T_mem (mq_t4 (List.mem_of_getElem? (i := 230) rfl)) rfl
theorem zt_X4_foldUp_i : Cond.instanceMethod yX4_foldUp ∈ mq_T := mq_T_mem (mq_t4 (List.mem_of_getElem? (i := 228) rfl)) rfl
theorem zt_X4_foldUp_s : Cond.selects RX4 yX4_foldUp yX4_foldUp ∈ mq_T := mq_T_mem (mq_t4 (List.mem_of_getElem? (i := 229) rfl)) rfl
set_option maxHeartbeats 4000000 in
theorem zk_X4_foldUp {p : Program} {l : Launch} {e : Env} {R : Room} {s : State} {m : MethodId} {args : Array Value} {below : List Frame} {meth : Method} {c : Code} {A : Nat → Prop} {D : va_G} {a z : Nat → Nat} {cI cL cB cZ : ClassId} {Q : State → Prop} {cc : ByteArray} {nL idx pc N : Nat} {own : String} {c1 : Cond} {H : Heap} {locs : List Loc} {ls : Array Slot} {rest : List Value} {S : mq_St} {res : Unit × mq_St} (C : mq_C p s m args c A D cI cL cB cZ cc nL own c1) (hlk : Cond.methodLink own idx yX4_foldUp ∈ mq_T) (hR : zr_X4_foldUp.frames + 1 ≤ R.frames ∧ 8 + (4 + 11) + zr_X4_foldUp.locals ≤ R.locals) (h : zf_X4_foldUp N z S = some res) (hP : va_P D vwCl (wd_C a cI cL cB cZ z S) H) (hD : va_D A (wd_C a cI cL cB cZ z S)) (hS : va_S A s.heap H locs) (hls : ls.size = nL) (hrest : (rest.map fun v => v.category).sum ≤ 8) (hdg : decode cc pc = .ok (.invokevirtual idx, 3)) (kk : ∀ (H1 : Heap) (locs1 : List Loc), va_P D vwCl (wd_C a cI cL cB cZ z res.2) H1 → va_D A (wd_C a cI cL cB cZ z res.2) → va_S A s.heap H1 locs1 → W p l e R s m args below meth c H1 locs1 0 0 Q (F0 m (pc + 3) ls rest)) : W p l e R s m args below meth c H locs 0 0 Q (F0 m pc ls (.ref (a 46) :: rest)) := by
  obtain ⟨hx, hb, hml, hown, hts, hK, hA⟩ := C
  have hFc := mq_freeI hD hS hA
  refine va_callv (va_runV (As := []) (rest := rest) ⟨hx, hb, hml, hown, hts⟩ (zm_X4_foldUp l D a z cI cL cB cZ H.size N S res h) (cwV 0 hts (mq_goodL (mq_wsV hlk zt_X4_foldUp_i zt_X4_foldUp_s zt_ini_X4 zt_X4_foldUp_c)) rfl rfl rfl (by decide +kernel) hR) ⟨fun a U g mk q => ⟨q.1, q.2.1, q.2.2.1, va_K.moved (u := U) (U := U.calling g mk a) (Vm.Alike.refl U.vm) q.2.2.2.1, q.2.2.2.2⟩, zy_C_46 hK hP, fun U hU hW => ⟨rfl, by rw [hU], by rw [hU]; exact hP, va_K.moved hW.alike hK, hD.weaken (fun _ _ _ _ => trivial)⟩⟩ rfl rfl hls rfl (lv_room hrest) hdg ⟨Nat.zero_le _, Nat.zero_le _⟩) hS (fun q _ h => hFc q h) hFc (fun u t H1 locs ht hvm hw hB hz1 hk1 hS => ?_)
  subst hw
  obtain ⟨hP1, hK1, hD1⟩ := hB
  rw [ht] at hP1
  exact kk H1 locs hP1 (hD1.weaken (fun _ _ _ h => hFc _ h)) hS
theorem zt_f_X4_34 : Cond.fieldLink RX4 34 "ModalDesk$Model" "truths" "[J" ∈ mq_T := mq_T_mem (mq_t2 (List.mem_of_getElem? (i := 72) rfl)) rfl
/-! ModalDesk$Model.truthOf(I)J -/
def zr_X4_truthOf : Room := { frames := 0, cells := 0, slots := 0, locals := 0 }
def zc_X4_truthOf : Cond := .code yX4_truthOf cX4_truthOf 2 (some .long)
def zf_X4_truthOf (N : Nat) (z : Nat → Nat) (v1 : Int32) (S : mq_St) : Option (Int64) := (if v1 < (0 : Int32) then (some ((0 : Int64))) else (if (S.1 22) ≤ v1 then (some ((0 : Int64))) else (mq_ck (v1) 300 (some ((S.2.2 9 (v1).toNatClampNeg))))))
set_option maxHeartbeats 4000000 in
set_option maxRecDepth 100000 in
theorem zw_X4_truthOf_0 {p : Program} {l : Launch} {e : Env} {s : State} {m : MethodId} {args : Array Value} {below : List Frame} {meth : Method} {c : Code} {A : Nat → Prop} {D : va_G} {a z : Nat → Nat} {cI cL cB cZ : ClassId} {Q : State → Prop} {N : Nat} {S : mq_St} {res : Int64} (C : mq_C p s m args c A D cI cL cB cZ cX4_truthOf 2 RX4 zc_X4_truthOf) (hret : ∀ (H : Heap) (locs : List Loc) (ls : Array Slot) (pc : Nat), decode cX4_truthOf pc = .ok (.lreturn, 1) → va_P D vwCl (wd_C a cI cL cB cZ z S) H → va_D A (wd_C a cI cL cB cZ z S) → va_S A s.heap H locs → W p l e zr_X4_truthOf s m args below meth c H locs 0 0 Q (F0 m pc ls [.long res])) (v1 : Int32) (H : Heap) (locs : List Loc) (ls : Array Slot) (h : zf_X4_truthOf N z v1 S = some res) (hl : lv_has ls 2 [(0, .ref (a 46)), (1, .int (v1))]) (hP : va_P D vwCl (wd_C a cI cL cB cZ z S) H) (hD : va_D A (wd_C a cI cL cB cZ z S)) (hS : va_S A s.heap H locs) : W p l e zr_X4_truthOf s m args below meth c H locs 0 0 Q (F0 m 0 ls []) := by
  obtain ⟨hx, hb, hml, hown, hts, hK, hA⟩ := id C
  unfold zf_X4_truthOf at h
  refine lv_iload_n hx hb dX4_truthOf_0 rfl (lv_at hl 1 rfl) ?_
  refine lv_if_lt (tgt := 21) hx hb dX4_truthOf_1 (by decide) (fun c3 => ?_) (fun c3 => ?_)
  · replace h := mq_it c3 h
    refine lv_lconst (v := 0) hx hb dX4_truthOf_21 (by decide) ?_
    cases h
    exact hret H locs ls 22 dX4_truthOf_22 hP hD hS
  · replace h := mq_if c3 h
    refine lv_iload_n hx hb dX4_truthOf_4 rfl (lv_at hl 1 rfl) ?_
    refine lv_aload_n hx hb dX4_truthOf_5 rfl (lv_at hl 0 rfl) ?_
    refine va_get (D := D) (ci := 4) (v := .int ((S.1 22))) (C := RX4) (T := TX4) (N := 12) hx hb hts (zi_X4 _) hown hK hP 46 rfl rfl 9 (by decide) (hts _ (List.mem_cons_of_mem _ zt_f_X4_45)) (fun _ h9 => h9) rfl dX4_truthOf_6 ?_
    refine lv_icmp_ge (tgt := 21) hx hb dX4_truthOf_9 (by decide) (fun c2 => ?_) (fun c2 => ?_)
    · replace h := mq_it c2 h
      refine lv_lconst (v := 0) hx hb dX4_truthOf_21 (by decide) ?_
      cases h
      exact hret H locs ls 22 dX4_truthOf_22 hP hD hS
    · replace h := mq_if c2 h
      refine lv_aload_n hx hb dX4_truthOf_12 rfl (lv_at hl 0 rfl) ?_
      refine va_get (D := D) (ci := 4) (v := .ref (a 54)) (C := RX4) (T := TX4) (N := 12) hx hb hts (zi_X4 _) hown hK hP 46 rfl rfl 8 (by decide) (hts _ (List.mem_cons_of_mem _ zt_f_X4_34)) (fun _ h9 => h9) rfl dX4_truthOf_13 ?_
      refine lv_iload_n hx hb dX4_truthOf_16 rfl (lv_at hl 1 rfl) ?_
      have hi1 := mq_ck_in h
      replace h := mq_ck_go h
      refine va_lald (f := S.2.2 9) hx hb hK hP 54 1 rfl rfl hi1 dX4_truthOf_17 ?_
      refine lv_goto (tgt := 22) hx hb dX4_truthOf_18 (by decide) ?_
      cases h
      exact hret H locs ls 22 dX4_truthOf_22 hP hD hS
set_option maxHeartbeats 4000000 in
set_option maxRecDepth 100000 in
theorem zm_X4_truthOf (l : Launch) (D : va_G) (a z : Nat → Nat) (cI cL cB cZ : ClassId) (sz N : Nat) (v1 : Int32) (S : mq_St) (res : Int64) (h : zf_X4_truthOf N z v1 S = some res) : Met l yX4_truthOf (zc_X4_truthOf :: mq_T) zr_X4_truthOf (va_Pc [.ref (a 46), .int (v1)] (fun U => U.heap.size = sz ∧ va_P D vwCl (wd_C a cI cL cB cZ z S) U.heap ∧ va_K D vwCl (mq_tys cI cL cB cZ) U ∧ va_D (fun _ => True) (wd_C a cI cL cB cZ z S))) (va_Ql (fun (r : Int64) (u : mq_St) => r = res ∧ u = S) (fun u t => va_P D vwCl (wd_C a cI cL cB cZ z u) t.heap ∧ va_K D vwCl (mq_tys cI cL cB cZ) t ∧ va_D (va_A (wd_C a cI cL cB cZ z S) sz) (wd_C a cI cL cB cZ z u)) (va_A (wd_C a cI cL cB cZ z S) sz)) 0 0 (va_A (wd_C a cI cL cB cZ z S) sz) := by
  refine Met.ofW (cc := cX4_truthOf) (maxL := 2) (ret := (some .long)) (by decide) rfl ?_
  intro p e s m args below meth c s₁ B hml hv
  obtain ⟨rfl, hsz, hP, hK, hD0⟩ := hv
  have hr := B.returns
  have hlocks := B.notSynchronized
  have hts := atoms_spec (ws := zc_X4_truthOf :: mq_T) B.pre
  have hown : s.vm.findClass RX4 = some m.cls := findClass_of_methodNamed B.named
  subst hsz
  have hD := hD0.self (sz := s.heap.size)
  generalize hAe : va_A (wd_C a cI cL cB cZ z S) s.heap.size = A at hD ⊢
  have hA : ∀ q : Nat, s.heap.size ≤ q → A q := fun q h => by rw [← hAe]; exact Or.inr h
  have hl := lv_entry ([.ref (a 46), .int (v1)]) (n := 2) (Nat.le_of_ble_eq_true rfl)
  rw [lg_entry_eq]
  generalize (lg_sl ([.ref (a 46), .int (v1)]) ++ List.replicate (2 - (lg_sl ([.ref (a 46), .int (v1)])).length) Slot.unset).toArray = ls at hl ⊢
  have hl : lv_has ls 2 [(0, .ref (a 46)), (1, .int (v1))] := hl
  refine zw_X4_truthOf_0 (A := A) ⟨B.exec, B.bytes, hml, hown, hts, hK, hA⟩ (fun H locs ls pc dg hP hD hS => ?_) v1 s.heap [] ls h hl hP hD va_S.rf
  exact W.lret B.exec B.bytes hr (fun t ht hW => ⟨⟨_, _, rfl, ⟨rfl, rfl⟩, by rw [ht]; exact hP, va_K.moved hW.alike hK, hD⟩, hS.F ht⟩) hS.2.2 dg
theorem zt_X4_truthOf_c : zc_X4_truthOf ∈ mq_T := mq_T_mem (mq_t5 (List.mem_of_getElem? (i := 104) rfl)) rfl
theorem zt_X4_truthOf_i : Cond.instanceMethod yX4_truthOf ∈ mq_T := mq_T_mem (mq_t5 (List.mem_of_getElem? (i := 103) rfl)) rfl
theorem zt_X4_truthOf_s : Cond.selects RX4 yX4_truthOf yX4_truthOf ∈ mq_T := mq_T_at 60 (by decide +kernel)
set_option maxHeartbeats 4000000 in
theorem zk_X4_truthOf {p : Program} {l : Launch} {e : Env} {R : Room} {s : State} {m : MethodId} {args : Array Value} {below : List Frame} {meth : Method} {c : Code} {A : Nat → Prop} {D : va_G} {a z : Nat → Nat} {cI cL cB cZ : ClassId} {Q : State → Prop} {cc : ByteArray} {nL idx pc N : Nat} {own : String} {c1 : Cond} {H : Heap} {locs : List Loc} {ls : Array Slot} {rest : List Value} {S : mq_St} {res : Int64} {v1 : Int32} (C : mq_C p s m args c A D cI cL cB cZ cc nL own c1) (hlk : Cond.methodLink own idx yX4_truthOf ∈ mq_T) (hR : zr_X4_truthOf.frames + 1 ≤ R.frames ∧ 8 + (2 + 11) + zr_X4_truthOf.locals ≤ R.locals) (h : zf_X4_truthOf N z v1 S = some res) (hP : va_P D vwCl (wd_C a cI cL cB cZ z S) H) (hD : va_D A (wd_C a cI cL cB cZ z S)) (hS : va_S A s.heap H locs) (hls : ls.size = nL) (hrest : (rest.map fun v => v.category).sum ≤ 8) (hdg : decode cc pc = .ok (.invokevirtual idx, 3)) (kk : ∀ (H1 : Heap) (locs1 : List Loc), va_P D vwCl (wd_C a cI cL cB cZ z S) H1 → va_D A (wd_C a cI cL cB cZ z S) → va_S A s.heap H1 locs1 → W p l e R s m args below meth c H1 locs1 0 0 Q (F0 m (pc + 3) ls (.long res :: rest))) : W p l e R s m args below meth c H locs 0 0 Q (F0 m pc ls (.int (v1) :: .ref (a 46) :: rest)) := by
  obtain ⟨hx, hb, hml, hown, hts, hK, hA⟩ := C
  have hFc := mq_freeI hD hS hA
  refine va_calll (va_runV (As := [.int (v1)]) (rest := rest) ⟨hx, hb, hml, hown, hts⟩ (zm_X4_truthOf l D a z cI cL cB cZ H.size N v1 S res h) (cwV 1 hts (mq_goodL (mq_wsV hlk zt_X4_truthOf_i zt_X4_truthOf_s zt_ini_X4 zt_X4_truthOf_c)) rfl rfl rfl (by decide +kernel) hR) ⟨fun a U g mk q => ⟨q.1, q.2.1, q.2.2.1, va_K.moved (u := U) (U := U.calling g mk a) (Vm.Alike.refl U.vm) q.2.2.2.1, q.2.2.2.2⟩, zy_C_46 hK hP, fun U hU hW => ⟨rfl, by rw [hU], by rw [hU]; exact hP, va_K.moved hW.alike hK, hD.weaken (fun _ _ _ _ => trivial)⟩⟩ rfl rfl hls rfl (lv_room hrest) hdg ⟨Nat.zero_le _, Nat.zero_le _⟩) hS (fun q _ h => hFc q h) hFc (fun r u t H1 locs ht hvm hw hB hz1 hk1 hS => ?_)
  obtain ⟨rfl, rfl⟩ := hw
  obtain ⟨hP1, hK1, hD1⟩ := hB
  rw [ht] at hP1
  exact kk H1 locs hP1 (hD1.weaken (fun _ _ _ h => hFc _ h)) hS
/-! ModalDesk$Model.worldsOfLetter(I)J -/
def zr_X4_worldsOfLetter : Room := { frames := 0, cells := 0, slots := 0, locals := 0 }
def zc_X4_worldsOfLetter : Cond := .code yX4_worldsOfLetter cX4_worldsOfLetter 5 (some .long)
def zf_X4_worldsOfLetter_5b (N : Nat) (z : Nat → Nat) (S : mq_St) (k5 : Int32 → Int64 → Int32 → Option (Int64)) (v1 : Int32) (v2 : Int64) (v4 : Int32) : Option (Int64) := (if (S.1 23) ≤ v4 then (some (v2)) else (mq_ck (v4) 60 (mq_nL ((v2 ||| (mq_lshl ((((mq_iushr (S.2.1 23 (v4).toNatClampNeg) v1) &&& (1 : Int32))).toInt64) v4))) (fun x4 => (mq_nI (v4 + (1 : Int32)) (fun x5 => (k5 (v1) (x4) (x5))))))))
def zf_X4_worldsOfLetter_5 (N : Nat) (z : Nat → Nat) (S : mq_St) : Nat → Int32 → Int64 → Int32 → Option (Int64)
  | 0, _, _, _ => none
  | n + 1, v1, v2, v4 => zf_X4_worldsOfLetter_5b N z S (fun v1 v2 v4 => zf_X4_worldsOfLetter_5 N z S n v1 v2 v4) v1 v2 v4
def zf_X4_worldsOfLetter (N : Nat) (z : Nat → Nat) (v1 : Int32) (S : mq_St) : Option (Int64) := (mq_nL ((0 : Int64)) (fun x1 => (mq_nI ((0 : Int32)) (fun x2 => (zf_X4_worldsOfLetter_5 N z S N (v1) (x1) (x2))))))
set_option maxHeartbeats 4000000 in
set_option maxRecDepth 100000 in
theorem zw_X4_worldsOfLetter_5b {p : Program} {l : Launch} {e : Env} {s : State} {m : MethodId} {args : Array Value} {below : List Frame} {meth : Method} {c : Code} {A : Nat → Prop} {D : va_G} {a z : Nat → Nat} {cI cL cB cZ : ClassId} {Q : State → Prop} {N : Nat} {S : mq_St} {res : Int64} {k5 : Int32 → Int64 → Int32 → Option (Int64)} (C : mq_C p s m args c A D cI cL cB cZ cX4_worldsOfLetter 5 RX4 zc_X4_worldsOfLetter) (hret : ∀ (H : Heap) (locs : List Loc) (ls : Array Slot) (pc : Nat), decode cX4_worldsOfLetter pc = .ok (.lreturn, 1) → va_P D vwCl (wd_C a cI cL cB cZ z S) H → va_D A (wd_C a cI cL cB cZ z S) → va_S A s.heap H locs → W p l e zr_X4_worldsOfLetter s m args below meth c H locs 0 0 Q (F0 m pc ls [.long res])) (hk5 : ∀ (v1 : Int32) (v2 : Int64) (v4 : Int32) (H : Heap) (locs : List Loc) (ls : Array Slot), k5 v1 v2 v4 = some res → lv_has ls 5 [(0, .ref (a 46)), (1, .int (v1)), (2, .long (v2)), (4, .int (v4))] → va_P D vwCl (wd_C a cI cL cB cZ z S) H → va_D A (wd_C a cI cL cB cZ z S) → va_S A s.heap H locs → W p l e zr_X4_worldsOfLetter s m args below meth c H locs 0 0 Q (F0 m 5 ls [])) (v1 : Int32) (v2 : Int64) (v4 : Int32) (H : Heap) (locs : List Loc) (ls : Array Slot) (h : zf_X4_worldsOfLetter_5b N z S k5 v1 v2 v4 = some res) (hl : lv_has ls 5 [(0, .ref (a 46)), (1, .int (v1)), (2, .long (v2)), (4, .int (v4))]) (hP : va_P D vwCl (wd_C a cI cL cB cZ z S) H) (hD : va_D A (wd_C a cI cL cB cZ z S)) (hS : va_S A s.heap H locs) : W p l e zr_X4_worldsOfLetter s m args below meth c H locs 0 0 Q (F0 m 5 ls []) := by
  obtain ⟨hx, hb, hml, hown, hts, hK, hA⟩ := id C
  unfold zf_X4_worldsOfLetter_5b at h
  refine lv_iload hx hb dX4_worldsOfLetter_5 (lv_at hl 3 rfl) ?_
  refine lv_aload_n hx hb dX4_worldsOfLetter_7 rfl (lv_at hl 0 rfl) ?_
  refine va_get (D := D) (ci := 4) (v := .int ((S.1 23))) (C := RX4) (T := TX4) (N := 12) hx hb hts (zi_X4 _) hown hK hP 46 rfl rfl 10 (by decide) (hts _ (List.mem_cons_of_mem _ zt_f_X4_41)) (fun _ h9 => h9) rfl dX4_worldsOfLetter_8 ?_
  refine lv_icmp_ge (tgt := 38) hx hb dX4_worldsOfLetter_11 (by decide) (fun c6 => ?_) (fun c6 => ?_)
  · replace h := mq_it c6 h
    refine lv_lload_n hx hb dX4_worldsOfLetter_38 rfl (lv_at hl 2 rfl) ?_
    cases h
    exact hret H locs ls 39 dX4_worldsOfLetter_39 hP hD hS
  · replace h := mq_if c6 h
    refine lv_lload_n hx hb dX4_worldsOfLetter_14 rfl (lv_at hl 2 rfl) ?_
    refine lv_aload_n hx hb dX4_worldsOfLetter_15 rfl (lv_at hl 0 rfl) ?_
    refine va_get (D := D) (ci := 4) (v := .ref (a 47)) (C := RX4) (T := TX4) (N := 12) hx hb hts (zi_X4 _) hown hK hP 46 rfl rfl 1 (by decide) (hts _ (List.mem_cons_of_mem _ zt_f_X4_9)) (fun _ h9 => h9) rfl dX4_worldsOfLetter_16 ?_
    refine lv_iload hx hb dX4_worldsOfLetter_19 (lv_at hl 3 rfl) ?_
    have hi3 := mq_ck_in h
    replace h := mq_ck_go h
    refine va_iald (f := S.2.1 23) hx hb hK hP 47 0 rfl rfl hi3 dX4_worldsOfLetter_21 ?_
    refine lv_iload_n hx hb dX4_worldsOfLetter_22 rfl (lv_at hl 1 rfl) ?_
    refine lv_iushr (v := (mq_iushr (S.2.1 23 (v4).toNatClampNeg) v1)) hx hb dX4_worldsOfLetter_23 rfl ?_
    refine lv_iconst (v := (1 : Int32)) hx hb dX4_worldsOfLetter_24 (by decide) ?_
    refine lv_iand hx hb dX4_worldsOfLetter_25 ?_
    refine lv_i2l (v := (((mq_iushr (S.2.1 23 (v4).toNatClampNeg) v1) &&& (1 : Int32))).toInt64) hx hb dX4_worldsOfLetter_26 rfl ?_
    refine lv_iload hx hb dX4_worldsOfLetter_27 (lv_at hl 3 rfl) ?_
    refine lv_lshl (v := (mq_lshl ((((mq_iushr (S.2.1 23 (v4).toNatClampNeg) v1) &&& (1 : Int32))).toInt64) v4)) hx hb dX4_worldsOfLetter_29 rfl ?_
    refine lv_lor hx hb dX4_worldsOfLetter_30 ?_
    refine lv_topl (fun x4 ex4 => ?_)
    replace h := mq_nL_go ex4 h
    refine lv_lstore_n (lv' := [(2, .long (x4)), (0, .ref (a 46)), (1, .int (v1)), (4, .int (v4))]) hx hb dX4_worldsOfLetter_31 rfl hl (by decide) rfl (fun ls hl => ?_)
    obtain ⟨x5, ex5⟩ : ∃ y : Int32, y = v4 + (1 : Int32) := ⟨_, rfl⟩
    replace h := mq_nI_go ex5 h
    refine lv_iinc (v := x5) (lv' := [(4, .int (x5)), (2, .long (x4)), (0, .ref (a 46)), (1, .int (v1))]) hx hb dX4_worldsOfLetter_32 hl (k := 3) rfl (by rw [ex5]; rfl) (by decide) rfl (fun ls hl => ?_)
    refine lv_goto (tgt := 5) hx hb dX4_worldsOfLetter_35 (by decide) ?_
    exact hk5 (v1) (x4) (x5) H locs ls h (lv_sub hl [2, 3, 1, 0] rfl) hP hD hS
set_option maxHeartbeats 4000000 in
set_option maxRecDepth 100000 in
theorem zw_X4_worldsOfLetter_5 {p : Program} {l : Launch} {e : Env} {s : State} {m : MethodId} {args : Array Value} {below : List Frame} {meth : Method} {c : Code} {A : Nat → Prop} {D : va_G} {a z : Nat → Nat} {cI cL cB cZ : ClassId} {Q : State → Prop} {N : Nat} {S : mq_St} {res : Int64} (C : mq_C p s m args c A D cI cL cB cZ cX4_worldsOfLetter 5 RX4 zc_X4_worldsOfLetter) (hret : ∀ (H : Heap) (locs : List Loc) (ls : Array Slot) (pc : Nat), decode cX4_worldsOfLetter pc = .ok (.lreturn, 1) → va_P D vwCl (wd_C a cI cL cB cZ z S) H → va_D A (wd_C a cI cL cB cZ z S) → va_S A s.heap H locs → W p l e zr_X4_worldsOfLetter s m args below meth c H locs 0 0 Q (F0 m pc ls [.long res])) : ∀ (n : Nat) (v1 : Int32) (v2 : Int64) (v4 : Int32) (H : Heap) (locs : List Loc) (ls : Array Slot) (h : zf_X4_worldsOfLetter_5 N z S n v1 v2 v4 = some res) (hl : lv_has ls 5 [(0, .ref (a 46)), (1, .int (v1)), (2, .long (v2)), (4, .int (v4))]) (hP : va_P D vwCl (wd_C a cI cL cB cZ z S) H) (hD : va_D A (wd_C a cI cL cB cZ z S)) (hS : va_S A s.heap H locs), W p l e zr_X4_worldsOfLetter s m args below meth c H locs 0 0 Q (F0 m 5 ls []) := by
  intro n
  induction n with
  | zero =>
    intro v1 v2 v4 H locs ls h hl hP hD hS
    exact nomatch (show (none : Option (Int64)) = some res from h)
  | succ n ih =>
    intro v1 v2 v4 H locs ls h hl hP hD hS
    exact zw_X4_worldsOfLetter_5b C hret (fun v1 v2 v4 H locs ls h hl hP hD hS => ih v1 v2 v4 H locs ls h hl hP hD hS) v1 v2 v4 H locs ls h hl hP hD hS
set_option maxHeartbeats 4000000 in
set_option maxRecDepth 100000 in
theorem zw_X4_worldsOfLetter_0 {p : Program} {l : Launch} {e : Env} {s : State} {m : MethodId} {args : Array Value} {below : List Frame} {meth : Method} {c : Code} {A : Nat → Prop} {D : va_G} {a z : Nat → Nat} {cI cL cB cZ : ClassId} {Q : State → Prop} {N : Nat} {S : mq_St} {res : Int64} (C : mq_C p s m args c A D cI cL cB cZ cX4_worldsOfLetter 5 RX4 zc_X4_worldsOfLetter) (hret : ∀ (H : Heap) (locs : List Loc) (ls : Array Slot) (pc : Nat), decode cX4_worldsOfLetter pc = .ok (.lreturn, 1) → va_P D vwCl (wd_C a cI cL cB cZ z S) H → va_D A (wd_C a cI cL cB cZ z S) → va_S A s.heap H locs → W p l e zr_X4_worldsOfLetter s m args below meth c H locs 0 0 Q (F0 m pc ls [.long res])) (v1 : Int32) (H : Heap) (locs : List Loc) (ls : Array Slot) (h : zf_X4_worldsOfLetter N z v1 S = some res) (hl : lv_has ls 5 [(0, .ref (a 46)), (1, .int (v1))]) (hP : va_P D vwCl (wd_C a cI cL cB cZ z S) H) (hD : va_D A (wd_C a cI cL cB cZ z S)) (hS : va_S A s.heap H locs) : W p l e zr_X4_worldsOfLetter s m args below meth c H locs 0 0 Q (F0 m 0 ls []) := by
  obtain ⟨hx, hb, hml, hown, hts, hK, hA⟩ := id C
  unfold zf_X4_worldsOfLetter at h
  refine lv_lconst (v := 0) hx hb dX4_worldsOfLetter_0 (by decide) ?_
  refine lv_topl (fun x1 ex1 => ?_)
  replace h := mq_nL_go ex1 h
  refine lv_lstore_n (lv' := [(2, .long (x1)), (0, .ref (a 46)), (1, .int (v1))]) hx hb dX4_worldsOfLetter_1 rfl hl (by decide) rfl (fun ls hl => ?_)
  refine lv_iconst (v := (0 : Int32)) hx hb dX4_worldsOfLetter_2 (by decide) ?_
  refine lv_topi (fun x2 ex2 => ?_)
  replace h := mq_nI_go ex2 h
  refine lv_istore (lv' := [(4, .int (x2)), (2, .long (x1)), (0, .ref (a 46)), (1, .int (v1))]) hx hb dX4_worldsOfLetter_3 hl (by decide) rfl (fun ls hl => ?_)
  exact zw_X4_worldsOfLetter_5 C hret N (v1) (x1) (x2) H locs ls h (lv_sub hl [2, 3, 1, 0] rfl) hP hD hS
set_option maxHeartbeats 4000000 in
set_option maxRecDepth 100000 in
theorem zm_X4_worldsOfLetter (l : Launch) (D : va_G) (a z : Nat → Nat) (cI cL cB cZ : ClassId) (sz N : Nat) (v1 : Int32) (S : mq_St) (res : Int64) (h : zf_X4_worldsOfLetter N z v1 S = some res) : Met l yX4_worldsOfLetter (zc_X4_worldsOfLetter :: mq_T) zr_X4_worldsOfLetter (va_Pc [.ref (a 46), .int (v1)] (fun U => U.heap.size = sz ∧ va_P D vwCl (wd_C a cI cL cB cZ z S) U.heap ∧ va_K D vwCl (mq_tys cI cL cB cZ) U ∧ va_D (fun _ => True) (wd_C a cI cL cB cZ z S))) (va_Ql (fun (r : Int64) (u : mq_St) => r = res ∧ u = S) (fun u t => va_P D vwCl (wd_C a cI cL cB cZ z u) t.heap ∧ va_K D vwCl (mq_tys cI cL cB cZ) t ∧ va_D (va_A (wd_C a cI cL cB cZ z S) sz) (wd_C a cI cL cB cZ z u)) (va_A (wd_C a cI cL cB cZ z S) sz)) 0 0 (va_A (wd_C a cI cL cB cZ z S) sz) := by
  refine Met.ofW (cc := cX4_worldsOfLetter) (maxL := 5) (ret := (some .long)) (by decide) rfl ?_
  intro p e s m args below meth c s₁ B hml hv
  obtain ⟨rfl, hsz, hP, hK, hD0⟩ := hv
  have hr := B.returns
  have hlocks := B.notSynchronized
  have hts := atoms_spec (ws := zc_X4_worldsOfLetter :: mq_T) B.pre
  have hown : s.vm.findClass RX4 = some m.cls := findClass_of_methodNamed B.named
  subst hsz
  have hD := hD0.self (sz := s.heap.size)
  generalize hAe : va_A (wd_C a cI cL cB cZ z S) s.heap.size = A at hD ⊢
  have hA : ∀ q : Nat, s.heap.size ≤ q → A q := fun q h => by rw [← hAe]; exact Or.inr h
  have hl := lv_entry ([.ref (a 46), .int (v1)]) (n := 5) (Nat.le_of_ble_eq_true rfl)
  rw [lg_entry_eq]
  generalize (lg_sl ([.ref (a 46), .int (v1)]) ++ List.replicate (5 - (lg_sl ([.ref (a 46), .int (v1)])).length) Slot.unset).toArray = ls at hl ⊢
  have hl : lv_has ls 5 [(0, .ref (a 46)), (1, .int (v1))] := hl
  refine zw_X4_worldsOfLetter_0 (A := A) ⟨B.exec, B.bytes, hml, hown, hts, hK, hA⟩ (fun H locs ls pc dg hP hD hS => ?_) v1 s.heap [] ls h hl hP hD va_S.rf
  exact W.lret B.exec B.bytes hr (fun t ht hW => ⟨⟨_, _, rfl, ⟨rfl, rfl⟩, by rw [ht]; exact hP, va_K.moved hW.alike hK, hD⟩, hS.F ht⟩) hS.2.2 dg
theorem zt_X4_worldsOfLetter_c : zc_X4_worldsOfLetter ∈ mq_T := mq_T_mem (mq_t5 (List.mem_of_getElem? (i := 109) rfl)) rfl
theorem zt_X4_worldsOfLetter_i : Cond.instanceMethod yX4_worldsOfLetter ∈ mq_T := mq_T_mem (mq_t5 (List.mem_of_getElem? (i := 108) rfl)) rfl
theorem zt_X4_worldsOfLetter_s : Cond.selects RX4 yX4_worldsOfLetter yX4_worldsOfLetter ∈ mq_T := mq_T_at 61 (by decide +kernel)
set_option maxHeartbeats 4000000 in
theorem zk_X4_worldsOfLetter {p : Program} {l : Launch} {e : Env} {R : Room} {s : State} {m : MethodId} {args : Array Value} {below : List Frame} {meth : Method} {c : Code} {A : Nat → Prop} {D : va_G} {a z : Nat → Nat} {cI cL cB cZ : ClassId} {Q : State → Prop} {cc : ByteArray} {nL idx pc N : Nat} {own : String} {c1 : Cond} {H : Heap} {locs : List Loc} {ls : Array Slot} {rest : List Value} {S : mq_St} {res : Int64} {v1 : Int32} (C : mq_C p s m args c A D cI cL cB cZ cc nL own c1) (hlk : Cond.methodLink own idx yX4_worldsOfLetter ∈ mq_T) (hR : zr_X4_worldsOfLetter.frames + 1 ≤ R.frames ∧ 8 + (5 + 11) + zr_X4_worldsOfLetter.locals ≤ R.locals) (h : zf_X4_worldsOfLetter N z v1 S = some res) (hP : va_P D vwCl (wd_C a cI cL cB cZ z S) H) (hD : va_D A (wd_C a cI cL cB cZ z S)) (hS : va_S A s.heap H locs) (hls : ls.size = nL) (hrest : (rest.map fun v => v.category).sum ≤ 8) (hdg : decode cc pc = .ok (.invokevirtual idx, 3)) (kk : ∀ (H1 : Heap) (locs1 : List Loc), va_P D vwCl (wd_C a cI cL cB cZ z S) H1 → va_D A (wd_C a cI cL cB cZ z S) → va_S A s.heap H1 locs1 → W p l e R s m args below meth c H1 locs1 0 0 Q (F0 m (pc + 3) ls (.long res :: rest))) : W p l e R s m args below meth c H locs 0 0 Q (F0 m pc ls (.int (v1) :: .ref (a 46) :: rest)) := by
  obtain ⟨hx, hb, hml, hown, hts, hK, hA⟩ := C
  have hFc := mq_freeI hD hS hA
  refine va_calll (va_runV (As := [.int (v1)]) (rest := rest) ⟨hx, hb, hml, hown, hts⟩ (zm_X4_worldsOfLetter l D a z cI cL cB cZ H.size N v1 S res h) (cwV 1 hts (mq_goodL (mq_wsV hlk zt_X4_worldsOfLetter_i zt_X4_worldsOfLetter_s zt_ini_X4 zt_X4_worldsOfLetter_c)) rfl rfl rfl (by decide +kernel) hR) ⟨fun a U g mk q => ⟨q.1, q.2.1, q.2.2.1, va_K.moved (u := U) (U := U.calling g mk a) (Vm.Alike.refl U.vm) q.2.2.2.1, q.2.2.2.2⟩, zy_C_46 hK hP, fun U hU hW => ⟨rfl, by rw [hU], by rw [hU]; exact hP, va_K.moved hW.alike hK, hD.weaken (fun _ _ _ _ => trivial)⟩⟩ rfl rfl hls rfl (lv_room hrest) hdg ⟨Nat.zero_le _, Nat.zero_le _⟩) hS (fun q _ h => hFc q h) hFc (fun r u t H1 locs ht hvm hw hB hz1 hk1 hS => ?_)
  obtain ⟨rfl, rfl⟩ := hw
  obtain ⟨hP1, hK1, hD1⟩ := hB
  rw [ht] at hP1
  exact kk H1 locs hP1 (hD1.weaken (fun _ _ _ h => hFc _ h)) hS
/-! ModalDesk$Model.worldsSeeing(J)J -/
def zr_X4_worldsSeeing : Room := { frames := 0, cells := 0, slots := 0, locals := 0 }
def zc_X4_worldsSeeing : Cond := .code yX4_worldsSeeing cX4_worldsSeeing 6 (some .long)
def zf_X4_worldsSeeing_35 (N : Nat) (z : Nat → Nat) (S : mq_St) (k5 : Int64 → Int64 → Int32 → Option (Int64)) (v1 : Int64) (v3 : Int64) (v5 : Int32) : Option (Int64) := (mq_nI (v5 + (1 : Int32)) (fun x7 => (k5 (v1) (v3) (x7))))
def zf_X4_worldsSeeing_5b (N : Nat) (z : Nat → Nat) (S : mq_St) (k5 : Int64 → Int64 → Int32 → Option (Int64)) (v1 : Int64) (v3 : Int64) (v5 : Int32) : Option (Int64) := (if (S.1 23) ≤ v5 then (some (v3)) else (mq_ck (v5) 60 (if (lg_cmp ((S.2.2 7 (v5).toNatClampNeg) &&& v1) (0 : Int64)) = (0 : Int32) then (zf_X4_worldsSeeing_35 N z S k5 (v1) (v3) (v5)) else (mq_nL ((v3 ||| (mq_lshl (1 : Int64) v5))) (fun x4 => (zf_X4_worldsSeeing_35 N z S k5 (v1) (x4) (v5)))))))
def zf_X4_worldsSeeing_5 (N : Nat) (z : Nat → Nat) (S : mq_St) : Nat → Int64 → Int64 → Int32 → Option (Int64)
  | 0, _, _, _ => none
  | n + 1, v1, v3, v5 => zf_X4_worldsSeeing_5b N z S (fun v1 v3 v5 => zf_X4_worldsSeeing_5 N z S n v1 v3 v5) v1 v3 v5
def zf_X4_worldsSeeing (N : Nat) (z : Nat → Nat) (v1 : Int64) (S : mq_St) : Option (Int64) := (mq_nL ((0 : Int64)) (fun x1 => (mq_nI ((0 : Int32)) (fun x2 => (zf_X4_worldsSeeing_5 N z S N (v1) (x1) (x2))))))
set_option maxHeartbeats 4000000 in
set_option maxRecDepth 100000 in
theorem zw_X4_worldsSeeing_35 {p : Program} {l : Launch} {e : Env} {s : State} {m : MethodId} {args : Array Value} {below : List Frame} {meth : Method} {c : Code} {A : Nat → Prop} {D : va_G} {a z : Nat → Nat} {cI cL cB cZ : ClassId} {Q : State → Prop} {N : Nat} {S : mq_St} {res : Int64} {k5 : Int64 → Int64 → Int32 → Option (Int64)} (C : mq_C p s m args c A D cI cL cB cZ cX4_worldsSeeing 6 RX4 zc_X4_worldsSeeing) (hret : ∀ (H : Heap) (locs : List Loc) (ls : Array Slot) (pc : Nat), decode cX4_worldsSeeing pc = .ok (.lreturn, 1) → va_P D vwCl (wd_C a cI cL cB cZ z S) H → va_D A (wd_C a cI cL cB cZ z S) → va_S A s.heap H locs → W p l e zr_X4_worldsSeeing s m args below meth c H locs 0 0 Q (F0 m pc ls [.long res])) (hk5 : ∀ (v1 : Int64) (v3 : Int64) (v5 : Int32) (H : Heap) (locs : List Loc) (ls : Array Slot), k5 v1 v3 v5 = some res → lv_has ls 6 [(0, .ref (a 46)), (1, .long (v1)), (3, .long (v3)), (5, .int (v5))] → va_P D vwCl (wd_C a cI cL cB cZ z S) H → va_D A (wd_C a cI cL cB cZ z S) → va_S A s.heap H locs → W p l e zr_X4_worldsSeeing s m args below meth c H locs 0 0 Q (F0 m 5 ls [])) (v1 : Int64) (v3 : Int64) (v5 : Int32) (H : Heap) (locs : List Loc) (ls : Array Slot) (h : zf_X4_worldsSeeing_35 N z S k5 v1 v3 v5 = some res) (hl : lv_has ls 6 [(0, .ref (a 46)), (1, .long (v1)), (3, .long (v3)), (5, .int (v5))]) (hP : va_P D vwCl (wd_C a cI cL cB cZ z S) H) (hD : va_D A (wd_C a cI cL cB cZ z S)) (hS : va_S A s.heap H locs) : W p l e zr_X4_worldsSeeing s m args below meth c H locs 0 0 Q (F0 m 35 ls []) := by
  obtain ⟨hx, hb, hml, hown, hts, hK, hA⟩ := id C
  unfold zf_X4_worldsSeeing_35 at h
  obtain ⟨x7, ex7⟩ : ∃ y : Int32, y = v5 + (1 : Int32) := ⟨_, rfl⟩
  replace h := mq_nI_go ex7 h
  refine lv_iinc (v := x7) (lv' := [(5, .int (x7)), (0, .ref (a 46)), (1, .long (v1)), (3, .long (v3))]) hx hb dX4_worldsSeeing_35 hl (k := 3) rfl (by rw [ex7]; rfl) (by decide) rfl (fun ls hl => ?_)
  refine lv_goto (tgt := 5) hx hb dX4_worldsSeeing_38 (by decide) ?_
  exact hk5 (v1) (v3) (x7) H locs ls h (lv_sub hl [1, 2, 3, 0] rfl) hP hD hS
set_option maxHeartbeats 4000000 in
set_option maxRecDepth 100000 in
theorem zw_X4_worldsSeeing_5b {p : Program} {l : Launch} {e : Env} {s : State} {m : MethodId} {args : Array Value} {below : List Frame} {meth : Method} {c : Code} {A : Nat → Prop} {D : va_G} {a z : Nat → Nat} {cI cL cB cZ : ClassId} {Q : State → Prop} {N : Nat} {S : mq_St} {res : Int64} {k5 : Int64 → Int64 → Int32 → Option (Int64)} (C : mq_C p s m args c A D cI cL cB cZ cX4_worldsSeeing 6 RX4 zc_X4_worldsSeeing) (hret : ∀ (H : Heap) (locs : List Loc) (ls : Array Slot) (pc : Nat), decode cX4_worldsSeeing pc = .ok (.lreturn, 1) → va_P D vwCl (wd_C a cI cL cB cZ z S) H → va_D A (wd_C a cI cL cB cZ z S) → va_S A s.heap H locs → W p l e zr_X4_worldsSeeing s m args below meth c H locs 0 0 Q (F0 m pc ls [.long res])) (hk5 : ∀ (v1 : Int64) (v3 : Int64) (v5 : Int32) (H : Heap) (locs : List Loc) (ls : Array Slot), k5 v1 v3 v5 = some res → lv_has ls 6 [(0, .ref (a 46)), (1, .long (v1)), (3, .long (v3)), (5, .int (v5))] → va_P D vwCl (wd_C a cI cL cB cZ z S) H → va_D A (wd_C a cI cL cB cZ z S) → va_S A s.heap H locs → W p l e zr_X4_worldsSeeing s m args below meth c H locs 0 0 Q (F0 m 5 ls [])) (v1 : Int64) (v3 : Int64) (v5 : Int32) (H : Heap) (locs : List Loc) (ls : Array Slot) (h : zf_X4_worldsSeeing_5b N z S k5 v1 v3 v5 = some res) (hl : lv_has ls 6 [(0, .ref (a 46)), (1, .long (v1)), (3, .long (v3)), (5, .int (v5))]) (hP : va_P D vwCl (wd_C a cI cL cB cZ z S) H) (hD : va_D A (wd_C a cI cL cB cZ z S)) (hS : va_S A s.heap H locs) : W p l e zr_X4_worldsSeeing s m args below meth c H locs 0 0 Q (F0 m 5 ls []) := by
  obtain ⟨hx, hb, hml, hown, hts, hK, hA⟩ := id C
  unfold zf_X4_worldsSeeing_5b at h
  refine lv_iload hx hb dX4_worldsSeeing_5 (lv_at hl 3 rfl) ?_
  refine lv_aload_n hx hb dX4_worldsSeeing_7 rfl (lv_at hl 0 rfl) ?_
  refine va_get (D := D) (ci := 4) (v := .int ((S.1 23))) (C := RX4) (T := TX4) (N := 12) hx hb hts (zi_X4 _) hown hK hP 46 rfl rfl 10 (by decide) (hts _ (List.mem_cons_of_mem _ zt_f_X4_41)) (fun _ h9 => h9) rfl dX4_worldsSeeing_8 ?_
  refine lv_icmp_ge (tgt := 41) hx hb dX4_worldsSeeing_11 (by decide) (fun c6 => ?_) (fun c6 => ?_)
  · replace h := mq_it c6 h
    refine lv_lload_n hx hb dX4_worldsSeeing_41 rfl (lv_at hl 2 rfl) ?_
    cases h
    exact hret H locs ls 42 dX4_worldsSeeing_42 hP hD hS
  · replace h := mq_if c6 h
    refine lv_aload_n hx hb dX4_worldsSeeing_14 rfl (lv_at hl 0 rfl) ?_
    refine va_get (D := D) (ci := 4) (v := .ref (a 48)) (C := RX4) (T := TX4) (N := 12) hx hb hts (zi_X4 _) hown hK hP 46 rfl rfl 2 (by decide) (hts _ (List.mem_cons_of_mem _ zt_f_X4_15)) (fun _ h9 => h9) rfl dX4_worldsSeeing_15 ?_
    refine lv_iload hx hb dX4_worldsSeeing_18 (lv_at hl 3 rfl) ?_
    have hi3 := mq_ck_in h
    replace h := mq_ck_go h
    refine va_lald (f := S.2.2 7) hx hb hK hP 48 1 rfl rfl hi3 dX4_worldsSeeing_20 ?_
    refine lv_lload_n hx hb dX4_worldsSeeing_21 rfl (lv_at hl 1 rfl) ?_
    refine lv_land hx hb dX4_worldsSeeing_22 ?_
    refine lv_lconst (v := 0) hx hb dX4_worldsSeeing_23 (by decide) ?_
    refine W.lcmp hx hb dX4_worldsSeeing_24 ?_
    refine lv_if_eq (tgt := 35) hx hb dX4_worldsSeeing_25 (by decide) (fun c5 => ?_) (fun c5 => ?_)
    · replace h := mq_it c5 h
      exact zw_X4_worldsSeeing_35 C hret hk5 (v1) (v3) (v5) H locs ls h (lv_sub hl [0, 1, 2, 3] rfl) hP hD hS
    · replace h := mq_if c5 h
      refine lv_lload_n hx hb dX4_worldsSeeing_28 rfl (lv_at hl 2 rfl) ?_
      refine lv_lconst (v := 1) hx hb dX4_worldsSeeing_29 (by decide) ?_
      refine lv_iload hx hb dX4_worldsSeeing_30 (lv_at hl 3 rfl) ?_
      refine lv_lshl (v := (mq_lshl (1 : Int64) v5)) hx hb dX4_worldsSeeing_32 rfl ?_
      refine lv_lor hx hb dX4_worldsSeeing_33 ?_
      refine lv_topl (fun x4 ex4 => ?_)
      replace h := mq_nL_go ex4 h
      refine lv_lstore_n (lv' := [(3, .long (x4)), (0, .ref (a 46)), (1, .long (v1)), (5, .int (v5))]) hx hb dX4_worldsSeeing_34 rfl hl (by decide) rfl (fun ls hl => ?_)
      exact zw_X4_worldsSeeing_35 C hret hk5 (v1) (x4) (v5) H locs ls h (lv_sub hl [1, 2, 0, 3] rfl) hP hD hS
set_option maxHeartbeats 4000000 in
set_option maxRecDepth 100000 in
theorem zw_X4_worldsSeeing_5 {p : Program} {l : Launch} {e : Env} {s : State} {m : MethodId} {args : Array Value} {below : List Frame} {meth : Method} {c : Code} {A : Nat → Prop} {D : va_G} {a z : Nat → Nat} {cI cL cB cZ : ClassId} {Q : State → Prop} {N : Nat} {S : mq_St} {res : Int64} (C : mq_C p s m args c A D cI cL cB cZ cX4_worldsSeeing 6 RX4 zc_X4_worldsSeeing) (hret : ∀ (H : Heap) (locs : List Loc) (ls : Array Slot) (pc : Nat), decode cX4_worldsSeeing pc = .ok (.lreturn, 1) → va_P D vwCl (wd_C a cI cL cB cZ z S) H → va_D A (wd_C a cI cL cB cZ z S) → va_S A s.heap H locs → W p l e zr_X4_worldsSeeing s m args below meth c H locs 0 0 Q (F0 m pc ls [.long res])) : ∀ (n : Nat) (v1 : Int64) (v3 : Int64) (v5 : Int32) (H : Heap) (locs : List Loc) (ls : Array Slot) (h : zf_X4_worldsSeeing_5 N z S n v1 v3 v5 = some res) (hl : lv_has ls 6 [(0, .ref (a 46)), (1, .long (v1)), (3, .long (v3)), (5, .int (v5))]) (hP : va_P D vwCl (wd_C a cI cL cB cZ z S) H) (hD : va_D A (wd_C a cI cL cB cZ z S)) (hS : va_S A s.heap H locs), W p l e zr_X4_worldsSeeing s m args below meth c H locs 0 0 Q (F0 m 5 ls []) := by
  intro n
  induction n with
  | zero =>
    intro v1 v3 v5 H locs ls h hl hP hD hS
    exact nomatch (show (none : Option (Int64)) = some res from h)
  | succ n ih =>
    intro v1 v3 v5 H locs ls h hl hP hD hS
    exact zw_X4_worldsSeeing_5b C hret (fun v1 v3 v5 H locs ls h hl hP hD hS => ih v1 v3 v5 H locs ls h hl hP hD hS) v1 v3 v5 H locs ls h hl hP hD hS
set_option maxHeartbeats 4000000 in
set_option maxRecDepth 100000 in
theorem zw_X4_worldsSeeing_0 {p : Program} {l : Launch} {e : Env} {s : State} {m : MethodId} {args : Array Value} {below : List Frame} {meth : Method} {c : Code} {A : Nat → Prop} {D : va_G} {a z : Nat → Nat} {cI cL cB cZ : ClassId} {Q : State → Prop} {N : Nat} {S : mq_St} {res : Int64} (C : mq_C p s m args c A D cI cL cB cZ cX4_worldsSeeing 6 RX4 zc_X4_worldsSeeing) (hret : ∀ (H : Heap) (locs : List Loc) (ls : Array Slot) (pc : Nat), decode cX4_worldsSeeing pc = .ok (.lreturn, 1) → va_P D vwCl (wd_C a cI cL cB cZ z S) H → va_D A (wd_C a cI cL cB cZ z S) → va_S A s.heap H locs → W p l e zr_X4_worldsSeeing s m args below meth c H locs 0 0 Q (F0 m pc ls [.long res])) (v1 : Int64) (H : Heap) (locs : List Loc) (ls : Array Slot) (h : zf_X4_worldsSeeing N z v1 S = some res) (hl : lv_has ls 6 [(0, .ref (a 46)), (1, .long (v1))]) (hP : va_P D vwCl (wd_C a cI cL cB cZ z S) H) (hD : va_D A (wd_C a cI cL cB cZ z S)) (hS : va_S A s.heap H locs) : W p l e zr_X4_worldsSeeing s m args below meth c H locs 0 0 Q (F0 m 0 ls []) := by
  obtain ⟨hx, hb, hml, hown, hts, hK, hA⟩ := id C
  unfold zf_X4_worldsSeeing at h
  refine lv_lconst (v := 0) hx hb dX4_worldsSeeing_0 (by decide) ?_
  refine lv_topl (fun x1 ex1 => ?_)
  replace h := mq_nL_go ex1 h
  refine lv_lstore_n (lv' := [(3, .long (x1)), (0, .ref (a 46)), (1, .long (v1))]) hx hb dX4_worldsSeeing_1 rfl hl (by decide) rfl (fun ls hl => ?_)
  refine lv_iconst (v := (0 : Int32)) hx hb dX4_worldsSeeing_2 (by decide) ?_
  refine lv_topi (fun x2 ex2 => ?_)
  replace h := mq_nI_go ex2 h
  refine lv_istore (lv' := [(5, .int (x2)), (3, .long (x1)), (0, .ref (a 46)), (1, .long (v1))]) hx hb dX4_worldsSeeing_3 hl (by decide) rfl (fun ls hl => ?_)
  exact zw_X4_worldsSeeing_5 C hret N (v1) (x1) (x2) H locs ls h (lv_sub hl [2, 3, 1, 0] rfl) hP hD hS
set_option maxHeartbeats 4000000 in
set_option maxRecDepth 100000 in
theorem zm_X4_worldsSeeing (l : Launch) (D : va_G) (a z : Nat → Nat) (cI cL cB cZ : ClassId) (sz N : Nat) (v1 : Int64) (S : mq_St) (res : Int64) (h : zf_X4_worldsSeeing N z v1 S = some res) : Met l yX4_worldsSeeing (zc_X4_worldsSeeing :: mq_T) zr_X4_worldsSeeing (va_Pc [.ref (a 46), .long (v1)] (fun U => U.heap.size = sz ∧ va_P D vwCl (wd_C a cI cL cB cZ z S) U.heap ∧ va_K D vwCl (mq_tys cI cL cB cZ) U ∧ va_D (fun _ => True) (wd_C a cI cL cB cZ z S))) (va_Ql (fun (r : Int64) (u : mq_St) => r = res ∧ u = S) (fun u t => va_P D vwCl (wd_C a cI cL cB cZ z u) t.heap ∧ va_K D vwCl (mq_tys cI cL cB cZ) t ∧ va_D (va_A (wd_C a cI cL cB cZ z S) sz) (wd_C a cI cL cB cZ z u)) (va_A (wd_C a cI cL cB cZ z S) sz)) 0 0 (va_A (wd_C a cI cL cB cZ z S) sz) := by
  refine Met.ofW (cc := cX4_worldsSeeing) (maxL := 6) (ret := (some .long)) (by decide) rfl ?_
  intro p e s m args below meth c s₁ B hml hv
  obtain ⟨rfl, hsz, hP, hK, hD0⟩ := hv
  have hr := B.returns
  have hlocks := B.notSynchronized
  have hts := atoms_spec (ws := zc_X4_worldsSeeing :: mq_T) B.pre
  have hown : s.vm.findClass RX4 = some m.cls := findClass_of_methodNamed B.named
  subst hsz
  have hD := hD0.self (sz := s.heap.size)
  generalize hAe : va_A (wd_C a cI cL cB cZ z S) s.heap.size = A at hD ⊢
  have hA : ∀ q : Nat, s.heap.size ≤ q → A q := fun q h => by rw [← hAe]; exact Or.inr h
  have hl := lv_entry ([.ref (a 46), .long (v1)]) (n := 6) (Nat.le_of_ble_eq_true rfl)
  rw [lg_entry_eq]
  generalize (lg_sl ([.ref (a 46), .long (v1)]) ++ List.replicate (6 - (lg_sl ([.ref (a 46), .long (v1)])).length) Slot.unset).toArray = ls at hl ⊢
  have hl : lv_has ls 6 [(0, .ref (a 46)), (1, .long (v1))] := hl
  refine zw_X4_worldsSeeing_0 (A := A) ⟨B.exec, B.bytes, hml, hown, hts, hK, hA⟩ (fun H locs ls pc dg hP hD hS => ?_) v1 s.heap [] ls h hl hP hD va_S.rf
  exact W.lret B.exec B.bytes hr (fun t ht hW => ⟨⟨_, _, rfl, ⟨rfl, rfl⟩, by rw [ht]; exact hP, va_K.moved hW.alike hK, hD⟩, hS.F ht⟩) hS.2.2 dg
theorem zt_X4_worldsSeeing_c : zc_X4_worldsSeeing ∈ mq_T := mq_T_mem (mq_t5 (List.mem_of_getElem? (i := 115) rfl)) rfl
theorem zt_X4_worldsSeeing_i : Cond.instanceMethod yX4_worldsSeeing ∈ mq_T := mq_T_mem (mq_t5 (List.mem_of_getElem? (i := 114) rfl)) rfl
theorem zt_X4_worldsSeeing_s : Cond.selects RX4 yX4_worldsSeeing yX4_worldsSeeing ∈ mq_T := mq_T_at 62 (by decide +kernel)
set_option maxHeartbeats 4000000 in
theorem zk_X4_worldsSeeing {p : Program} {l : Launch} {e : Env} {R : Room} {s : State} {m : MethodId} {args : Array Value} {below : List Frame} {meth : Method} {c : Code} {A : Nat → Prop} {D : va_G} {a z : Nat → Nat} {cI cL cB cZ : ClassId} {Q : State → Prop} {cc : ByteArray} {nL idx pc N : Nat} {own : String} {c1 : Cond} {H : Heap} {locs : List Loc} {ls : Array Slot} {rest : List Value} {S : mq_St} {res : Int64} {v1 : Int64} (C : mq_C p s m args c A D cI cL cB cZ cc nL own c1) (hlk : Cond.methodLink own idx yX4_worldsSeeing ∈ mq_T) (hR : zr_X4_worldsSeeing.frames + 1 ≤ R.frames ∧ 8 + (6 + 11) + zr_X4_worldsSeeing.locals ≤ R.locals) (h : zf_X4_worldsSeeing N z v1 S = some res) (hP : va_P D vwCl (wd_C a cI cL cB cZ z S) H) (hD : va_D A (wd_C a cI cL cB cZ z S)) (hS : va_S A s.heap H locs) (hls : ls.size = nL) (hrest : (rest.map fun v => v.category).sum ≤ 8) (hdg : decode cc pc = .ok (.invokevirtual idx, 3)) (kk : ∀ (H1 : Heap) (locs1 : List Loc), va_P D vwCl (wd_C a cI cL cB cZ z S) H1 → va_D A (wd_C a cI cL cB cZ z S) → va_S A s.heap H1 locs1 → W p l e R s m args below meth c H1 locs1 0 0 Q (F0 m (pc + 3) ls (.long res :: rest))) : W p l e R s m args below meth c H locs 0 0 Q (F0 m pc ls (.long (v1) :: .ref (a 46) :: rest)) := by
  obtain ⟨hx, hb, hml, hown, hts, hK, hA⟩ := C
  have hFc := mq_freeI hD hS hA
  refine va_calll (va_runV (As := [.long (v1)]) (rest := rest) ⟨hx, hb, hml, hown, hts⟩ (zm_X4_worldsSeeing l D a z cI cL cB cZ H.size N v1 S res h) (cwV 1 hts (mq_goodL (mq_wsV hlk zt_X4_worldsSeeing_i zt_X4_worldsSeeing_s zt_ini_X4 zt_X4_worldsSeeing_c)) rfl rfl rfl (by decide +kernel) hR) ⟨fun a U g mk q => ⟨q.1, q.2.1, q.2.2.1, va_K.moved (u := U) (U := U.calling g mk a) (Vm.Alike.refl U.vm) q.2.2.2.1, q.2.2.2.2⟩, zy_C_46 hK hP, fun U hU hW => ⟨rfl, by rw [hU], by rw [hU]; exact hP, va_K.moved hW.alike hK, hD.weaken (fun _ _ _ _ => trivial)⟩⟩ rfl rfl hls rfl (lv_room hrest) hdg ⟨Nat.zero_le _, Nat.zero_le _⟩) hS (fun q _ h => hFc q h) hFc (fun r u t H1 locs ht hvm hw hB hz1 hk1 hS => ?_)
  obtain ⟨rfl, rfl⟩ := hw
  obtain ⟨hP1, hK1, hD1⟩ := hB
  rw [ht] at hP1
  exact kk H1 locs hP1 (hD1.weaken (fun _ _ _ h => hFc _ h)) hS
theorem zt_f_X4_37 : Cond.fieldLink RX4 37 "ModalDesk$Model" "stock" "LModalDesk$Stock;" ∈ mq_T := mq_T_mem (mq_t2 (List.mem_of_getElem? (i := 64) rfl)) rfl
theorem zt_m_X4_91 : Cond.methodLink RX4 91 yX7_firstOf ∈ mq_T := mq_T_mem (mq_t5 (List.mem_of_getElem? (i := 100) rfl)) rfl
theorem zt_m_X4_76 : Cond.methodLink RX4 76 yX4_truthOf ∈ mq_T := mq_T_mem (mq_t5 (List.mem_of_getElem? (i := 101) rfl)) rfl
theorem zt_m_X4_97 : Cond.methodLink RX4 97 yX7_sortOf ∈ mq_T := mq_T_mem (mq_t5 (List.mem_of_getElem? (i := 105) rfl)) rfl
theorem zt_m_X4_100 : Cond.methodLink RX4 100 yX4_worldsOfLetter ∈ mq_T := mq_T_mem (mq_t5 (List.mem_of_getElem? (i := 106) rfl)) rfl
theorem zt_k_X4_103 : Cond.constantLong RX4 103 ((-1 : Int64)) ∈ mq_T := mq_T_mem (mq_t5 (List.mem_of_getElem? (i := 110) rfl)) rfl
theorem zt_m_X4_105 : Cond.methodLink RX4 105 yX7_secondOf ∈ mq_T := mq_T_mem (mq_t5 (List.mem_of_getElem? (i := 111) rfl)) rfl
theorem zt_m_X4_108 : Cond.methodLink RX4 108 yX4_worldsSeeing ∈ mq_T := mq_T_mem (mq_t5 (List.mem_of_getElem? (i := 112) rfl)) rfl
/-! ModalDesk$Model.worldsOf(I)J -/
def zr_X4_worldsOf : Room := { frames := 2, cells := 0, slots := 0, locals := 42 }
def zc_X4_worldsOf : Cond := .code yX4_worldsOf cX4_worldsOf 6 (some .long)
def zf_X4_worldsOf (N : Nat) (z : Nat → Nat) (v1 : Int32) (S : mq_St) : Option (Int64) := (mq_cp (zf_X7_firstOf N z (v1) S) (fun q1 => (mq_cp (zf_X4_truthOf N z (q1) S) (fun q3 => (mq_nL (q3) (fun x5 => (mq_nL (((mq_lshl (1 : Int64) (S.1 23)) - (1 : Int64))) (fun x6 => (mq_cp (zf_X7_sortOf N z (v1) S) (fun q7 => (if q7 = 0 then (some (x6)) else (if q7 = 1 then (some ((0 : Int64))) else (if q7 = 2 then (mq_cp (zf_X7_firstOf N z (v1) S) (fun q12 => (mq_cp (zf_X4_worldsOfLetter N z (q12) S) (fun q14 => (some (q14)))))) else (if q7 = 3 then (mq_cp (zf_X7_firstOf N z (v1) S) (fun q17 => (mq_cp (zf_X4_worldsOfLetter N z (q17) S) (fun q19 => (some ((x6 &&& (q19 ^^^ (-1 : Int64))))))))) else (if q7 = 4 then (mq_cp (zf_X7_secondOf N z (v1) S) (fun q22 => (mq_cp (zf_X4_truthOf N z (q22) S) (fun q24 => (some ((x5 &&& q24))))))) else (if q7 = 5 then (mq_cp (zf_X7_secondOf N z (v1) S) (fun q27 => (mq_cp (zf_X4_truthOf N z (q27) S) (fun q29 => (some ((x5 ||| q29))))))) else (if q7 = 6 then (mq_cp (zf_X4_worldsSeeing N z ((x6 &&& (x5 ^^^ (-1 : Int64)))) S) (fun q32 => (some ((x6 &&& (q32 ^^^ (-1 : Int64))))))) else (if q7 = 7 then (mq_cp (zf_X4_worldsSeeing N z (x5) S) (fun q35 => (some (q35)))) else (some ((0 : Int64)))))))))))))))))))))
set_option maxHeartbeats 4000000 in
set_option maxRecDepth 100000 in
theorem zw_X4_worldsOf_0 {p : Program} {l : Launch} {e : Env} {s : State} {m : MethodId} {args : Array Value} {below : List Frame} {meth : Method} {c : Code} {A : Nat → Prop} {D : va_G} {a z : Nat → Nat} {cI cL cB cZ : ClassId} {Q : State → Prop} {N : Nat} {S : mq_St} {res : Int64} (C : mq_C p s m args c A D cI cL cB cZ cX4_worldsOf 6 RX4 zc_X4_worldsOf) (hret : ∀ (H : Heap) (locs : List Loc) (ls : Array Slot) (pc : Nat), decode cX4_worldsOf pc = .ok (.lreturn, 1) → va_P D vwCl (wd_C a cI cL cB cZ z S) H → va_D A (wd_C a cI cL cB cZ z S) → va_S A s.heap H locs → W p l e zr_X4_worldsOf s m args below meth c H locs 0 0 Q (F0 m pc ls [.long res])) (v1 : Int32) (H : Heap) (locs : List Loc) (ls : Array Slot) (h : zf_X4_worldsOf N z v1 S = some res) (hl : lv_has ls 6 [(0, .ref (a 46)), (1, .int (v1))]) (hP : va_P D vwCl (wd_C a cI cL cB cZ z S) H) (hD : va_D A (wd_C a cI cL cB cZ z S)) (hS : va_S A s.heap H locs) : W p l e zr_X4_worldsOf s m args below meth c H locs 0 0 Q (F0 m 0 ls []) := by
  obtain ⟨hx, hb, hml, hown, hts, hK, hA⟩ := id C
  unfold zf_X4_worldsOf at h
  refine lv_aload_n hx hb dX4_worldsOf_0 rfl (lv_at hl 0 rfl) ?_
  refine lv_aload_n hx hb dX4_worldsOf_1 rfl (lv_at hl 0 rfl) ?_
  refine va_get (D := D) (ci := 4) (v := .ref (a 7)) (C := RX4) (T := TX4) (N := 12) hx hb hts (zi_X4 _) hown hK hP 46 rfl rfl 0 (by decide) (hts _ (List.mem_cons_of_mem _ zt_f_X4_37)) (fun _ h9 => h9) rfl dX4_worldsOf_2 ?_
  refine lv_iload_n hx hb dX4_worldsOf_5 rfl (lv_at hl 1 rfl) ?_
  obtain ⟨q1, hc2, h⟩ := mq_cp_go h
  refine zk_X7_firstOf C zt_m_X4_91 ⟨by decide, by decide⟩ hc2 hP hD hS hl.1 (Nat.le_of_ble_eq_true rfl) dX4_worldsOf_6 (fun H locs hP hD hS => ?_)
  obtain ⟨q3, hc4, h⟩ := mq_cp_go h
  refine zk_X4_truthOf C zt_m_X4_76 ⟨by decide, by decide⟩ hc4 hP hD hS hl.1 (Nat.le_of_ble_eq_true rfl) dX4_worldsOf_9 (fun H locs hP hD hS => ?_)
  refine lv_topl (fun x5 ex5 => ?_)
  replace h := mq_nL_go ex5 h
  refine lv_lstore_n (lv' := [(2, .long (x5)), (0, .ref (a 46)), (1, .int (v1))]) hx hb dX4_worldsOf_12 rfl hl (by decide) rfl (fun ls hl => ?_)
  refine lv_lconst (v := 1) hx hb dX4_worldsOf_13 (by decide) ?_
  refine lv_aload_n hx hb dX4_worldsOf_14 rfl (lv_at hl 1 rfl) ?_
  refine va_get (D := D) (ci := 4) (v := .int ((S.1 23))) (C := RX4) (T := TX4) (N := 12) hx hb hts (zi_X4 _) hown hK hP 46 rfl rfl 10 (by decide) (hts _ (List.mem_cons_of_mem _ zt_f_X4_41)) (fun _ h9 => h9) rfl dX4_worldsOf_15 ?_
  refine lv_lshl (v := (mq_lshl (1 : Int64) (S.1 23))) hx hb dX4_worldsOf_18 rfl ?_
  refine lv_lconst (v := 1) hx hb dX4_worldsOf_19 (by decide) ?_
  refine lv_lsub hx hb dX4_worldsOf_20 ?_
  refine lv_topl (fun x6 ex6 => ?_)
  replace h := mq_nL_go ex6 h
  refine lv_lstore (lv' := [(4, .long (x6)), (2, .long (x5)), (0, .ref (a 46)), (1, .int (v1))]) hx hb dX4_worldsOf_21 hl (by decide) rfl (fun ls hl => ?_)
  refine lv_aload_n hx hb dX4_worldsOf_23 rfl (lv_at hl 2 rfl) ?_
  refine va_get (D := D) (ci := 4) (v := .ref (a 7)) (C := RX4) (T := TX4) (N := 12) hx hb hts (zi_X4 _) hown hK hP 46 rfl rfl 0 (by decide) (hts _ (List.mem_cons_of_mem _ zt_f_X4_37)) (fun _ h9 => h9) rfl dX4_worldsOf_24 ?_
  refine lv_iload_n hx hb dX4_worldsOf_27 rfl (lv_at hl 3 rfl) ?_
  obtain ⟨q7, hc8, h⟩ := mq_cp_go h
  refine zk_X7_sortOf C zt_m_X4_97 ⟨by decide, by decide⟩ hc8 hP hD hS hl.1 (Nat.le_of_ble_eq_true rfl) dX4_worldsOf_28 (fun H locs hP hD hS => ?_)
  by_cases c9 : q7 = 0
  · refine lv_tableIn (off := 45) (tgt := 76) hx hb dX4_worldsOf_31 (by rw [c9]; decide) (by rw [c9]; decide) (by rw [c9]; rfl) (by decide) ?_
    replace h := mq_it c9 h
    refine lv_lload hx hb dX4_worldsOf_76 (lv_at hl 0 rfl) ?_
    cases h
    exact hret H locs ls 78 dX4_worldsOf_78 hP hD hS
  replace h := mq_if c9 h
  by_cases c10 : q7 = 1
  · refine lv_tableIn (off := 137) (tgt := 168) hx hb dX4_worldsOf_31 (by rw [c10]; decide) (by rw [c10]; decide) (by rw [c10]; rfl) (by decide) ?_
    replace h := mq_it c10 h
    refine lv_lconst (v := 0) hx hb dX4_worldsOf_168 (by decide) ?_
    cases h
    exact hret H locs ls 169 dX4_worldsOf_169 hP hD hS
  replace h := mq_if c10 h
  by_cases c11 : q7 = 2
  · refine lv_tableIn (off := 48) (tgt := 79) hx hb dX4_worldsOf_31 (by rw [c11]; decide) (by rw [c11]; decide) (by rw [c11]; rfl) (by decide) ?_
    replace h := mq_it c11 h
    refine lv_aload_n hx hb dX4_worldsOf_79 rfl (lv_at hl 2 rfl) ?_
    refine lv_aload_n hx hb dX4_worldsOf_80 rfl (lv_at hl 2 rfl) ?_
    refine va_get (D := D) (ci := 4) (v := .ref (a 7)) (C := RX4) (T := TX4) (N := 12) hx hb hts (zi_X4 _) hown hK hP 46 rfl rfl 0 (by decide) (hts _ (List.mem_cons_of_mem _ zt_f_X4_37)) (fun _ h9 => h9) rfl dX4_worldsOf_81 ?_
    refine lv_iload_n hx hb dX4_worldsOf_84 rfl (lv_at hl 3 rfl) ?_
    obtain ⟨q12, hc13, h⟩ := mq_cp_go h
    refine zk_X7_firstOf C zt_m_X4_91 ⟨by decide, by decide⟩ hc13 hP hD hS hl.1 (Nat.le_of_ble_eq_true rfl) dX4_worldsOf_85 (fun H locs hP hD hS => ?_)
    obtain ⟨q14, hc15, h⟩ := mq_cp_go h
    refine zk_X4_worldsOfLetter C zt_m_X4_100 ⟨by decide, by decide⟩ hc15 hP hD hS hl.1 (Nat.le_of_ble_eq_true rfl) dX4_worldsOf_88 (fun H locs hP hD hS => ?_)
    cases h
    exact hret H locs ls 91 dX4_worldsOf_91 hP hD hS
  replace h := mq_if c11 h
  by_cases c16 : q7 = 3
  · refine lv_tableIn (off := 61) (tgt := 92) hx hb dX4_worldsOf_31 (by rw [c16]; decide) (by rw [c16]; decide) (by rw [c16]; rfl) (by decide) ?_
    replace h := mq_it c16 h
    refine lv_lload hx hb dX4_worldsOf_92 (lv_at hl 0 rfl) ?_
    refine lv_aload_n hx hb dX4_worldsOf_94 rfl (lv_at hl 2 rfl) ?_
    refine lv_aload_n hx hb dX4_worldsOf_95 rfl (lv_at hl 2 rfl) ?_
    refine va_get (D := D) (ci := 4) (v := .ref (a 7)) (C := RX4) (T := TX4) (N := 12) hx hb hts (zi_X4 _) hown hK hP 46 rfl rfl 0 (by decide) (hts _ (List.mem_cons_of_mem _ zt_f_X4_37)) (fun _ h9 => h9) rfl dX4_worldsOf_96 ?_
    refine lv_iload_n hx hb dX4_worldsOf_99 rfl (lv_at hl 3 rfl) ?_
    obtain ⟨q17, hc18, h⟩ := mq_cp_go h
    refine zk_X7_firstOf C zt_m_X4_91 ⟨by decide, by decide⟩ hc18 hP hD hS hl.1 (Nat.le_of_ble_eq_true rfl) dX4_worldsOf_100 (fun H locs hP hD hS => ?_)
    obtain ⟨q19, hc20, h⟩ := mq_cp_go h
    refine zk_X4_worldsOfLetter C zt_m_X4_100 ⟨by decide, by decide⟩ hc20 hP hD hS hl.1 (Nat.le_of_ble_eq_true rfl) dX4_worldsOf_103 (fun H locs hP hD hS => ?_)
    refine lv_ldc2 (v := (-1 : Int64)) hx hb hown (hts _ (List.mem_cons_of_mem _ zt_k_X4_103)) dX4_worldsOf_106 ?_
    refine lv_lxor hx hb dX4_worldsOf_109 ?_
    refine lv_land hx hb dX4_worldsOf_110 ?_
    cases h
    exact hret H locs ls 111 dX4_worldsOf_111 hP hD hS
  replace h := mq_if c16 h
  by_cases c21 : q7 = 4
  · refine lv_tableIn (off := 81) (tgt := 112) hx hb dX4_worldsOf_31 (by rw [c21]; decide) (by rw [c21]; decide) (by rw [c21]; rfl) (by decide) ?_
    replace h := mq_it c21 h
    refine lv_lload_n hx hb dX4_worldsOf_112 rfl (lv_at hl 1 rfl) ?_
    refine lv_aload_n hx hb dX4_worldsOf_113 rfl (lv_at hl 2 rfl) ?_
    refine lv_aload_n hx hb dX4_worldsOf_114 rfl (lv_at hl 2 rfl) ?_
    refine va_get (D := D) (ci := 4) (v := .ref (a 7)) (C := RX4) (T := TX4) (N := 12) hx hb hts (zi_X4 _) hown hK hP 46 rfl rfl 0 (by decide) (hts _ (List.mem_cons_of_mem _ zt_f_X4_37)) (fun _ h9 => h9) rfl dX4_worldsOf_115 ?_
    refine lv_iload_n hx hb dX4_worldsOf_118 rfl (lv_at hl 3 rfl) ?_
    obtain ⟨q22, hc23, h⟩ := mq_cp_go h
    refine zk_X7_secondOf C zt_m_X4_105 ⟨by decide, by decide⟩ hc23 hP hD hS hl.1 (Nat.le_of_ble_eq_true rfl) dX4_worldsOf_119 (fun H locs hP hD hS => ?_)
    obtain ⟨q24, hc25, h⟩ := mq_cp_go h
    refine zk_X4_truthOf C zt_m_X4_76 ⟨by decide, by decide⟩ hc25 hP hD hS hl.1 (Nat.le_of_ble_eq_true rfl) dX4_worldsOf_122 (fun H locs hP hD hS => ?_)
    refine lv_land hx hb dX4_worldsOf_125 ?_
    cases h
    exact hret H locs ls 126 dX4_worldsOf_126 hP hD hS
  replace h := mq_if c21 h
  by_cases c26 : q7 = 5
  · refine lv_tableIn (off := 96) (tgt := 127) hx hb dX4_worldsOf_31 (by rw [c26]; decide) (by rw [c26]; decide) (by rw [c26]; rfl) (by decide) ?_
    replace h := mq_it c26 h
    refine lv_lload_n hx hb dX4_worldsOf_127 rfl (lv_at hl 1 rfl) ?_
    refine lv_aload_n hx hb dX4_worldsOf_128 rfl (lv_at hl 2 rfl) ?_
    refine lv_aload_n hx hb dX4_worldsOf_129 rfl (lv_at hl 2 rfl) ?_
    refine va_get (D := D) (ci := 4) (v := .ref (a 7)) (C := RX4) (T := TX4) (N := 12) hx hb hts (zi_X4 _) hown hK hP 46 rfl rfl 0 (by decide) (hts _ (List.mem_cons_of_mem _ zt_f_X4_37)) (fun _ h9 => h9) rfl dX4_worldsOf_130 ?_
    refine lv_iload_n hx hb dX4_worldsOf_133 rfl (lv_at hl 3 rfl) ?_
    obtain ⟨q27, hc28, h⟩ := mq_cp_go h
    refine zk_X7_secondOf C zt_m_X4_105 ⟨by decide, by decide⟩ hc28 hP hD hS hl.1 (Nat.le_of_ble_eq_true rfl) dX4_worldsOf_134 (fun H locs hP hD hS => ?_)
    obtain ⟨q29, hc30, h⟩ := mq_cp_go h
    refine zk_X4_truthOf C zt_m_X4_76 ⟨by decide, by decide⟩ hc30 hP hD hS hl.1 (Nat.le_of_ble_eq_true rfl) dX4_worldsOf_137 (fun H locs hP hD hS => ?_)
    refine lv_lor hx hb dX4_worldsOf_140 ?_
    cases h
    exact hret H locs ls 141 dX4_worldsOf_141 hP hD hS
  replace h := mq_if c26 h
  by_cases c31 : q7 = 6
  · refine lv_tableIn (off := 111) (tgt := 142) hx hb dX4_worldsOf_31 (by rw [c31]; decide) (by rw [c31]; decide) (by rw [c31]; rfl) (by decide) ?_
    replace h := mq_it c31 h
    refine lv_lload hx hb dX4_worldsOf_142 (lv_at hl 0 rfl) ?_
    refine lv_aload_n hx hb dX4_worldsOf_144 rfl (lv_at hl 2 rfl) ?_
    refine lv_lload hx hb dX4_worldsOf_145 (lv_at hl 0 rfl) ?_
    refine lv_lload_n hx hb dX4_worldsOf_147 rfl (lv_at hl 1 rfl) ?_
    refine lv_ldc2 (v := (-1 : Int64)) hx hb hown (hts _ (List.mem_cons_of_mem _ zt_k_X4_103)) dX4_worldsOf_148 ?_
    refine lv_lxor hx hb dX4_worldsOf_151 ?_
    refine lv_land hx hb dX4_worldsOf_152 ?_
    obtain ⟨q32, hc33, h⟩ := mq_cp_go h
    refine zk_X4_worldsSeeing C zt_m_X4_108 ⟨by decide, by decide⟩ hc33 hP hD hS hl.1 (Nat.le_of_ble_eq_true rfl) dX4_worldsOf_153 (fun H locs hP hD hS => ?_)
    refine lv_ldc2 (v := (-1 : Int64)) hx hb hown (hts _ (List.mem_cons_of_mem _ zt_k_X4_103)) dX4_worldsOf_156 ?_
    refine lv_lxor hx hb dX4_worldsOf_159 ?_
    refine lv_land hx hb dX4_worldsOf_160 ?_
    cases h
    exact hret H locs ls 161 dX4_worldsOf_161 hP hD hS
  replace h := mq_if c31 h
  by_cases c34 : q7 = 7
  · refine lv_tableIn (off := 131) (tgt := 162) hx hb dX4_worldsOf_31 (by rw [c34]; decide) (by rw [c34]; decide) (by rw [c34]; rfl) (by decide) ?_
    replace h := mq_it c34 h
    refine lv_aload_n hx hb dX4_worldsOf_162 rfl (lv_at hl 2 rfl) ?_
    refine lv_lload_n hx hb dX4_worldsOf_163 rfl (lv_at hl 1 rfl) ?_
    obtain ⟨q35, hc36, h⟩ := mq_cp_go h
    refine zk_X4_worldsSeeing C zt_m_X4_108 ⟨by decide, by decide⟩ hc36 hP hD hS hl.1 (Nat.le_of_ble_eq_true rfl) dX4_worldsOf_164 (fun H locs hP hD hS => ?_)
    cases h
    exact hret H locs ls 167 dX4_worldsOf_167 hP hD hS
  replace h := mq_if c34 h
  have nc9 := lv_neT c9 (show Int32.toInt 0 = 0 by decide)
  have nc10 := lv_neT c10 (show Int32.toInt 1 = 1 by decide)
  have nc11 := lv_neT c11 (show Int32.toInt 2 = 2 by decide)
  have nc16 := lv_neT c16 (show Int32.toInt 3 = 3 by decide)
  have nc21 := lv_neT c21 (show Int32.toInt 4 = 4 by decide)
  have nc26 := lv_neT c26 (show Int32.toInt 5 = 5 by decide)
  have nc31 := lv_neT c31 (show Int32.toInt 6 = 6 by decide)
  have nc34 := lv_neT c34 (show Int32.toInt 7 = 7 by decide)
  refine lv_tableOut (tgt := 168) hx hb dX4_worldsOf_31 (by omega) (by decide) ?_
  refine lv_lconst (v := 0) hx hb dX4_worldsOf_168 (by decide) ?_
  cases h
  exact hret H locs ls 169 dX4_worldsOf_169 hP hD hS
set_option maxHeartbeats 4000000 in
set_option maxRecDepth 100000 in
theorem zm_X4_worldsOf (l : Launch) (D : va_G) (a z : Nat → Nat) (cI cL cB cZ : ClassId) (sz N : Nat) (v1 : Int32) (S : mq_St) (res : Int64) (h : zf_X4_worldsOf N z v1 S = some res) : Met l yX4_worldsOf (zc_X4_worldsOf :: mq_T) zr_X4_worldsOf (va_Pc [.ref (a 46), .int (v1)] (fun U => U.heap.size = sz ∧ va_P D vwCl (wd_C a cI cL cB cZ z S) U.heap ∧ va_K D vwCl (mq_tys cI cL cB cZ) U ∧ va_D (fun _ => True) (wd_C a cI cL cB cZ z S))) (va_Ql (fun (r : Int64) (u : mq_St) => r = res ∧ u = S) (fun u t => va_P D vwCl (wd_C a cI cL cB cZ z u) t.heap ∧ va_K D vwCl (mq_tys cI cL cB cZ) t ∧ va_D (va_A (wd_C a cI cL cB cZ z S) sz) (wd_C a cI cL cB cZ z u)) (va_A (wd_C a cI cL cB cZ z S) sz)) 0 0 (va_A (wd_C a cI cL cB cZ z S) sz) := by
  refine Met.ofW (cc := cX4_worldsOf) (maxL := 6) (ret := (some .long)) (by decide) rfl ?_
  intro p e s m args below meth c s₁ B hml hv
  obtain ⟨rfl, hsz, hP, hK, hD0⟩ := hv
  have hr := B.returns
  have hlocks := B.notSynchronized
  have hts := atoms_spec (ws := zc_X4_worldsOf :: mq_T) B.pre
  have hown : s.vm.findClass RX4 = some m.cls := findClass_of_methodNamed B.named
  subst hsz
  have hD := hD0.self (sz := s.heap.size)
  generalize hAe : va_A (wd_C a cI cL cB cZ z S) s.heap.size = A at hD ⊢
  have hA : ∀ q : Nat, s.heap.size ≤ q → A q := fun q h => by rw [← hAe]; exact Or.inr h
  have hl := lv_entry ([.ref (a 46), .int (v1)]) (n := 6) (Nat.le_of_ble_eq_true rfl)
  rw [lg_entry_eq]
  generalize (lg_sl ([.ref (a 46), .int (v1)]) ++ List.replicate (6 - (lg_sl ([.ref (a 46), .int (v1)])).length) Slot.unset).toArray = ls at hl ⊢
  have hl : lv_has ls 6 [(0, .ref (a 46)), (1, .int (v1))] := hl
  refine zw_X4_worldsOf_0 (A := A) ⟨B.exec, B.bytes, hml, hown, hts, hK, hA⟩ (fun H locs ls pc dg hP hD hS => ?_) v1 s.heap [] ls h hl hP hD va_S.rf
  exact W.lret B.exec B.bytes hr (fun t ht hW => ⟨⟨_, _, rfl, ⟨rfl, rfl⟩, by rw [ht]; exact hP, va_K.moved hW.alike hK, hD⟩, hS.F ht⟩) hS.2.2 dg
theorem zt_X4_worldsOf_c : zc_X4_worldsOf ∈ mq_T := mq_T_mem (mq_t5 (List.mem_of_getElem? (i := 99) rfl)) rfl
theorem zt_X4_worldsOf_i : Cond.instanceMethod yX4_worldsOf ∈ mq_T := mq_T_mem (mq_t5 (List.mem_of_getElem? (i := 98) rfl)) rfl
theorem zt_X4_worldsOf_s : Cond.selects RX4 yX4_worldsOf yX4_worldsOf ∈ mq_T := mq_T_at 59 (by decide +kernel)
set_option maxHeartbeats 4000000 in
theorem zk_X4_worldsOf {p : Program} {l : Launch} {e : Env} {R : Room} {s : State} {m : MethodId} {args : Array Value} {below : List Frame} {meth : Method} {c : Code} {A : Nat → Prop} {D : va_G} {a z : Nat → Nat} {cI cL cB cZ : ClassId} {Q : State → Prop} {cc : ByteArray} {nL idx pc N : Nat} {own : String} {c1 : Cond} {H : Heap} {locs : List Loc} {ls : Array Slot} {rest : List Value} {S : mq_St} {res : Int64} {v1 : Int32} (C : mq_C p s m args c A D cI cL cB cZ cc nL own c1) (hlk : Cond.methodLink own idx yX4_worldsOf ∈ mq_T) (hR : zr_X4_worldsOf.frames + 1 ≤ R.frames ∧ 8 + (6 + 11) + zr_X4_worldsOf.locals ≤ R.locals) (h : zf_X4_worldsOf N z v1 S = some res) (hP : va_P D vwCl (wd_C a cI cL cB cZ z S) H) (hD : va_D A (wd_C a cI cL cB cZ z S)) (hS : va_S A s.heap H locs) (hls : ls.size = nL) (hrest : (rest.map fun v => v.category).sum ≤ 8) (hdg : decode cc pc = .ok (.invokevirtual idx, 3)) (kk : ∀ (H1 : Heap) (locs1 : List Loc), va_P D vwCl (wd_C a cI cL cB cZ z S) H1 → va_D A (wd_C a cI cL cB cZ z S) → va_S A s.heap H1 locs1 → W p l e R s m args below meth c H1 locs1 0 0 Q (F0 m (pc + 3) ls (.long res :: rest))) : W p l e R s m args below meth c H locs 0 0 Q (F0 m pc ls (.int (v1) :: .ref (a 46) :: rest)) := by
  obtain ⟨hx, hb, hml, hown, hts, hK, hA⟩ := C
  have hFc := mq_freeI hD hS hA
  refine va_calll (va_runV (As := [.int (v1)]) (rest := rest) ⟨hx, hb, hml, hown, hts⟩ (zm_X4_worldsOf l D a z cI cL cB cZ H.size N v1 S res h) (cwV 1 hts (mq_goodL (mq_wsV hlk zt_X4_worldsOf_i zt_X4_worldsOf_s zt_ini_X4 zt_X4_worldsOf_c)) rfl rfl rfl (by decide +kernel) hR) ⟨fun a U g mk q => ⟨q.1, q.2.1, q.2.2.1, va_K.moved (u := U) (U := U.calling g mk a) (Vm.Alike.refl U.vm) q.2.2.2.1, q.2.2.2.2⟩, zy_C_46 hK hP, fun U hU hW => ⟨rfl, by rw [hU], by rw [hU]; exact hP, va_K.moved hW.alike hK, hD.weaken (fun _ _ _ _ => trivial)⟩⟩ rfl rfl hls rfl (lv_room hrest) hdg ⟨Nat.zero_le _, Nat.zero_le _⟩) hS (fun q _ h => hFc q h) hFc (fun r u t H1 locs ht hvm hw hB hz1 hk1 hS => ?_)
  obtain ⟨rfl, rfl⟩ := hw
  obtain ⟨hP1, hK1, hD1⟩ := hB
  rw [ht] at hP1
  exact kk H1 locs hP1 (hD1.weaken (fun _ _ _ h => hFc _ h)) hS
theorem zt_m_X4_72 : Cond.methodLink RX4 72 yX4_worldsOf ∈ mq_T := mq_T_mem (mq_t5 (List.mem_of_getElem? (i := 96) rfl)) rfl
theorem zs_wd_C_l_54_9 (a z : Nat → Nat) (cI cL cB cZ : ClassId) (S : mq_St) (f : Nat → Int64) : (wd_C a cI cL cB cZ z S).set 54 (a 54, .inl (cL, 300, .inr (.inl f))) = (wd_C a cI cL cB cZ z (mq_sl S 9 f)) := rfl
/-! ModalDesk$Model.isTrueAt(II)Z -/
def zr_X4_isTrueAt : Room := { frames := 3, cells := 0, slots := 0, locals := 67 }
def zc_X4_isTrueAt : Cond := .code yX4_isTrueAt cX4_isTrueAt 4 (some .boolean)
def zf_X4_isTrueAt_41 (N : Nat) (z : Nat → Nat) (v1 : Int32) (v2 : Int32) (S : mq_St) : Option (Int32 × mq_St) := (mq_cp (zf_X4_has N z (v1) S) (fun q10 => (if q10 = (0 : Int32) then (mq_cz ((0 : Int32)) (some ((0 : Int32), S))) else (mq_cp (zf_X4_truthOf N z (v2) S) (fun q13 => (if (lg_cmp ((mq_lushr q13 v1) &&& (1 : Int64)) (0 : Int64)) = (0 : Int32) then (mq_cz ((0 : Int32)) (some ((0 : Int32), S))) else (mq_cz ((1 : Int32)) (some ((1 : Int32), S)))))))))
def zf_X4_isTrueAt_5b (N : Nat) (z : Nat → Nat) (k5 : Int32 → Int32 → Int32 → mq_St → Option (Int32 × mq_St)) (v1 : Int32) (v2 : Int32) (v3 : Int32) (S : mq_St) : Option (Int32 × mq_St) := (if v2 < v3 then (zf_X4_isTrueAt_41 N z (v1) (v2) S) else (if (300 : Int32) ≤ v3 then (zf_X4_isTrueAt_41 N z (v1) (v2) S) else (mq_cp (zf_X4_worldsOf N z (v3) S) (fun q2 => (mq_ck (v3) 300 (mq_nS (mq_sl S 9 (vp_updL (S.2.2 9) (v3).toNatClampNeg (q2))) (fun S5 => (mq_nS (mq_si S5 22 ((v3 + (1 : Int32)))) (fun S6 => (mq_nI (v3 + (1 : Int32)) (fun x7 => (k5 (v1) (v2) (x7) S6))))))))))))
def zf_X4_isTrueAt_5 (N : Nat) (z : Nat → Nat) : Nat → Int32 → Int32 → Int32 → mq_St → Option (Int32 × mq_St)
  | 0, _, _, _, _ => none
  | n + 1, v1, v2, v3, S => zf_X4_isTrueAt_5b N z (fun v1 v2 v3 S => zf_X4_isTrueAt_5 N z n v1 v2 v3 S) v1 v2 v3 S
def zf_X4_isTrueAt (N : Nat) (z : Nat → Nat) (v1 : Int32) (v2 : Int32) (S : mq_St) : Option (Int32 × mq_St) := (mq_nI ((S.1 22)) (fun x1 => (zf_X4_isTrueAt_5 N z N (v1) (v2) (x1) S)))
set_option maxHeartbeats 4000000 in
set_option maxRecDepth 100000 in
theorem zw_X4_isTrueAt_41 {p : Program} {l : Launch} {e : Env} {s : State} {m : MethodId} {args : Array Value} {below : List Frame} {meth : Method} {c : Code} {A : Nat → Prop} {D : va_G} {a z : Nat → Nat} {cI cL cB cZ : ClassId} {Q : State → Prop} {N : Nat} {res : Int32 × mq_St} (C : mq_C p s m args c A D cI cL cB cZ cX4_isTrueAt 4 RX4 zc_X4_isTrueAt) (hret : ∀ (H : Heap) (locs : List Loc) (ls : Array Slot) (pc : Nat), decode cX4_isTrueAt pc = .ok (.ireturn, 1) → narrow .boolean (.int res.1) = .int res.1 → va_P D vwCl (wd_C a cI cL cB cZ z res.2) H → va_D A (wd_C a cI cL cB cZ z res.2) → va_S A s.heap H locs → W p l e zr_X4_isTrueAt s m args below meth c H locs 0 0 Q (F0 m pc ls [.int res.1])) (v1 : Int32) (v2 : Int32) (S : mq_St) (H : Heap) (locs : List Loc) (ls : Array Slot) (h : zf_X4_isTrueAt_41 N z v1 v2 S = some res) (hl : lv_has ls 4 [(0, .ref (a 46)), (1, .int (v1)), (2, .int (v2))]) (hP : va_P D vwCl (wd_C a cI cL cB cZ z S) H) (hD : va_D A (wd_C a cI cL cB cZ z S)) (hS : va_S A s.heap H locs) : W p l e zr_X4_isTrueAt s m args below meth c H locs 0 0 Q (F0 m 41 ls []) := by
  obtain ⟨hx, hb, hml, hown, hts, hK, hA⟩ := id C
  unfold zf_X4_isTrueAt_41 at h
  refine lv_aload_n hx hb dX4_isTrueAt_41 rfl (lv_at hl 0 rfl) ?_
  refine lv_iload_n hx hb dX4_isTrueAt_42 rfl (lv_at hl 1 rfl) ?_
  obtain ⟨q10, hc11, h⟩ := mq_cp_go h
  refine zk_X4_has C zt_m_X4_56 ⟨by decide, by decide⟩ hc11 hP hD hS hl.1 (Nat.le_of_ble_eq_true rfl) dX4_isTrueAt_43 (fun H locs hP hD hS => ?_)
  refine lv_if_eq (tgt := 67) hx hb dX4_isTrueAt_46 (by decide) (fun c18 => ?_) (fun c18 => ?_)
  · replace h := mq_it c18 h
    refine lv_iconst (v := (0 : Int32)) hx hb dX4_isTrueAt_67 (by decide) ?_
    have hz12 := mq_cz_in h
    replace h := mq_cz_go h
    cases h
    exact hret H locs ls 68 dX4_isTrueAt_68 hz12.1 hP hD hS
  · replace h := mq_if c18 h
    refine lv_aload_n hx hb dX4_isTrueAt_49 rfl (lv_at hl 0 rfl) ?_
    refine lv_iload_n hx hb dX4_isTrueAt_50 rfl (lv_at hl 2 rfl) ?_
    obtain ⟨q13, hc14, h⟩ := mq_cp_go h
    refine zk_X4_truthOf C zt_m_X4_76 ⟨by decide, by decide⟩ hc14 hP hD hS hl.1 (Nat.le_of_ble_eq_true rfl) dX4_isTrueAt_51 (fun H locs hP hD hS => ?_)
    refine lv_iload_n hx hb dX4_isTrueAt_54 rfl (lv_at hl 1 rfl) ?_
    refine lv_lushr (v := (mq_lushr q13 v1)) hx hb dX4_isTrueAt_55 rfl ?_
    refine lv_lconst (v := 1) hx hb dX4_isTrueAt_56 (by decide) ?_
    refine lv_land hx hb dX4_isTrueAt_57 ?_
    refine lv_lconst (v := 0) hx hb dX4_isTrueAt_58 (by decide) ?_
    refine W.lcmp hx hb dX4_isTrueAt_59 ?_
    refine lv_if_eq (tgt := 67) hx hb dX4_isTrueAt_60 (by decide) (fun c17 => ?_) (fun c17 => ?_)
    · replace h := mq_it c17 h
      refine lv_iconst (v := (0 : Int32)) hx hb dX4_isTrueAt_67 (by decide) ?_
      have hz15 := mq_cz_in h
      replace h := mq_cz_go h
      cases h
      exact hret H locs ls 68 dX4_isTrueAt_68 hz15.1 hP hD hS
    · replace h := mq_if c17 h
      refine lv_iconst (v := (1 : Int32)) hx hb dX4_isTrueAt_63 (by decide) ?_
      refine lv_goto (tgt := 68) hx hb dX4_isTrueAt_64 (by decide) ?_
      have hz16 := mq_cz_in h
      replace h := mq_cz_go h
      cases h
      exact hret H locs ls 68 dX4_isTrueAt_68 hz16.1 hP hD hS
set_option maxHeartbeats 4000000 in
set_option maxRecDepth 100000 in
theorem zw_X4_isTrueAt_5b {p : Program} {l : Launch} {e : Env} {s : State} {m : MethodId} {args : Array Value} {below : List Frame} {meth : Method} {c : Code} {A : Nat → Prop} {D : va_G} {a z : Nat → Nat} {cI cL cB cZ : ClassId} {Q : State → Prop} {N : Nat} {res : Int32 × mq_St} {k5 : Int32 → Int32 → Int32 → mq_St → Option (Int32 × mq_St)} (C : mq_C p s m args c A D cI cL cB cZ cX4_isTrueAt 4 RX4 zc_X4_isTrueAt) (hret : ∀ (H : Heap) (locs : List Loc) (ls : Array Slot) (pc : Nat), decode cX4_isTrueAt pc = .ok (.ireturn, 1) → narrow .boolean (.int res.1) = .int res.1 → va_P D vwCl (wd_C a cI cL cB cZ z res.2) H → va_D A (wd_C a cI cL cB cZ z res.2) → va_S A s.heap H locs → W p l e zr_X4_isTrueAt s m args below meth c H locs 0 0 Q (F0 m pc ls [.int res.1])) (hk5 : ∀ (v1 : Int32) (v2 : Int32) (v3 : Int32) (S : mq_St) (H : Heap) (locs : List Loc) (ls : Array Slot), k5 v1 v2 v3 S = some res → lv_has ls 4 [(0, .ref (a 46)), (1, .int (v1)), (2, .int (v2)), (3, .int (v3))] → va_P D vwCl (wd_C a cI cL cB cZ z S) H → va_D A (wd_C a cI cL cB cZ z S) → va_S A s.heap H locs → W p l e zr_X4_isTrueAt s m args below meth c H locs 0 0 Q (F0 m 5 ls [])) (v1 : Int32) (v2 : Int32) (v3 : Int32) (S : mq_St) (H : Heap) (locs : List Loc) (ls : Array Slot) (h : zf_X4_isTrueAt_5b N z k5 v1 v2 v3 S = some res) (hl : lv_has ls 4 [(0, .ref (a 46)), (1, .int (v1)), (2, .int (v2)), (3, .int (v3))]) (hP : va_P D vwCl (wd_C a cI cL cB cZ z S) H) (hD : va_D A (wd_C a cI cL cB cZ z S)) (hS : va_S A s.heap H locs) : W p l e zr_X4_isTrueAt s m args below meth c H locs 0 0 Q (F0 m 5 ls []) := by
  obtain ⟨hx, hb, hml, hown, hts, hK, hA⟩ := id C
  unfold zf_X4_isTrueAt_5b at h
  refine lv_iload_n hx hb dX4_isTrueAt_5 rfl (lv_at hl 3 rfl) ?_
  refine lv_iload_n hx hb dX4_isTrueAt_6 rfl (lv_at hl 2 rfl) ?_
  refine lv_icmp_gt (tgt := 41) hx hb dX4_isTrueAt_7 (by decide) (fun c9 => ?_) (fun c9 => ?_)
  · replace h := mq_it c9 h
    exact zw_X4_isTrueAt_41 C hret (v1) (v2) S H locs ls h (lv_sub hl [0, 1, 2] rfl) hP hD hS
  · replace h := mq_if c9 h
    refine lv_iload_n hx hb dX4_isTrueAt_10 rfl (lv_at hl 3 rfl) ?_
    refine lv_sipush (v := (300 : Int32)) hx hb dX4_isTrueAt_11 (by decide) ?_
    refine lv_icmp_ge (tgt := 41) hx hb dX4_isTrueAt_14 (by decide) (fun c8 => ?_) (fun c8 => ?_)
    · replace h := mq_it c8 h
      exact zw_X4_isTrueAt_41 C hret (v1) (v2) S H locs ls h (lv_sub hl [0, 1, 2] rfl) hP hD hS
    · replace h := mq_if c8 h
      refine lv_aload_n hx hb dX4_isTrueAt_17 rfl (lv_at hl 0 rfl) ?_
      refine va_get (D := D) (ci := 4) (v := .ref (a 54)) (C := RX4) (T := TX4) (N := 12) hx hb hts (zi_X4 _) hown hK hP 46 rfl rfl 8 (by decide) (hts _ (List.mem_cons_of_mem _ zt_f_X4_34)) (fun _ h9 => h9) rfl dX4_isTrueAt_18 ?_
      refine lv_iload_n hx hb dX4_isTrueAt_21 rfl (lv_at hl 3 rfl) ?_
      refine lv_aload_n hx hb dX4_isTrueAt_22 rfl (lv_at hl 0 rfl) ?_
      refine lv_iload_n hx hb dX4_isTrueAt_23 rfl (lv_at hl 3 rfl) ?_
      obtain ⟨q2, hc3, h⟩ := mq_cp_go h
      refine zk_X4_worldsOf C zt_m_X4_72 ⟨by decide, by decide⟩ hc3 hP hD hS hl.1 (Nat.le_of_ble_eq_true rfl) dX4_isTrueAt_24 (fun H locs hP hD hS => ?_)
      have hi4 := mq_ck_in h
      replace h := mq_ck_go h
      refine mq_last (w := wd_C a cI cL cB cZ z) (S := S) (f := S.2.2 9) hx hb hK hP hD hS 54 1 rfl rfl hi4 dX4_isTrueAt_27 9 (zs_wd_C_l_54_9 _ _ _ _ _ _ _ _) (fun S5 eS5 H locs hP hD hS => ?_)
      replace h := mq_nS_go eS5 h
      refine lv_aload_n hx hb dX4_isTrueAt_28 rfl (lv_at hl 0 rfl) ?_
      refine lv_iload_n hx hb dX4_isTrueAt_29 rfl (lv_at hl 3 rfl) ?_
      refine lv_iconst (v := (1 : Int32)) hx hb dX4_isTrueAt_30 (by decide) ?_
      refine lv_iadd hx hb dX4_isTrueAt_31 ?_
      refine mq_put (w := wd_C a cI cL cB cZ z) (S := S5) (D := D) (ci := 4) (v := (v3 + (1 : Int32))) (ty := .int) (C := RX4) (T := TX4) (N := 12) hx hb hts (zi_X4 _) tyX4 tyX4_ok nmX4 hown hK hP hD hS 46 rfl rfl 9 (by decide) (hts _ (List.mem_cons_of_mem _ zt_f_X4_45)) (fun _ h9 => h9) rfl (by decide +kernel) rfl rfl (Nat.le_of_ble_eq_true rfl) dX4_isTrueAt_32 22 (zs_wd_C_i_46_22 _ _ _ _ _ _ _ _) (fun S6 eS6 H locs hP hD hS => ?_)
      replace h := mq_nS_go eS6 h
      obtain ⟨x7, ex7⟩ : ∃ y : Int32, y = v3 + (1 : Int32) := ⟨_, rfl⟩
      replace h := mq_nI_go ex7 h
      refine lv_iinc (v := x7) (lv' := [(3, .int (x7)), (0, .ref (a 46)), (1, .int (v1)), (2, .int (v2))]) hx hb dX4_isTrueAt_35 hl (k := 3) rfl (by rw [ex7]; rfl) (by decide) rfl (fun ls hl => ?_)
      refine lv_goto (tgt := 5) hx hb dX4_isTrueAt_38 (by decide) ?_
      exact hk5 (v1) (v2) (x7) S6 H locs ls h (lv_sub hl [1, 2, 3, 0] rfl) hP hD hS
set_option maxHeartbeats 4000000 in
set_option maxRecDepth 100000 in
theorem zw_X4_isTrueAt_5 {p : Program} {l : Launch} {e : Env} {s : State} {m : MethodId} {args : Array Value} {below : List Frame} {meth : Method} {c : Code} {A : Nat → Prop} {D : va_G} {a z : Nat → Nat} {cI cL cB cZ : ClassId} {Q : State → Prop} {N : Nat} {res : Int32 × mq_St} (C : mq_C p s m args c A D cI cL cB cZ cX4_isTrueAt 4 RX4 zc_X4_isTrueAt) (hret : ∀ (H : Heap) (locs : List Loc) (ls : Array Slot) (pc : Nat), decode cX4_isTrueAt pc = .ok (.ireturn, 1) → narrow .boolean (.int res.1) = .int res.1 → va_P D vwCl (wd_C a cI cL cB cZ z res.2) H → va_D A (wd_C a cI cL cB cZ z res.2) → va_S A s.heap H locs → W p l e zr_X4_isTrueAt s m args below meth c H locs 0 0 Q (F0 m pc ls [.int res.1])) : ∀ (n : Nat) (v1 : Int32) (v2 : Int32) (v3 : Int32) (S : mq_St) (H : Heap) (locs : List Loc) (ls : Array Slot) (h : zf_X4_isTrueAt_5 N z n v1 v2 v3 S = some res) (hl : lv_has ls 4 [(0, .ref (a 46)), (1, .int (v1)), (2, .int (v2)), (3, .int (v3))]) (hP : va_P D vwCl (wd_C a cI cL cB cZ z S) H) (hD : va_D A (wd_C a cI cL cB cZ z S)) (hS : va_S A s.heap H locs), W p l e zr_X4_isTrueAt s m args below meth c H locs 0 0 Q (F0 m 5 ls []) := by
  intro n
  induction n with
  | zero =>
    intro v1 v2 v3 S H locs ls h hl hP hD hS
    exact nomatch (show (none : Option (Int32 × mq_St)) = some res from h)
  | succ n ih =>
    intro v1 v2 v3 S H locs ls h hl hP hD hS
    exact zw_X4_isTrueAt_5b C hret (fun v1 v2 v3 S H locs ls h hl hP hD hS => ih v1 v2 v3 S H locs ls h hl hP hD hS) v1 v2 v3 S H locs ls h hl hP hD hS
set_option maxHeartbeats 4000000 in
set_option maxRecDepth 100000 in
theorem zw_X4_isTrueAt_0 {p : Program} {l : Launch} {e : Env} {s : State} {m : MethodId} {args : Array Value} {below : List Frame} {meth : Method} {c : Code} {A : Nat → Prop} {D : va_G} {a z : Nat → Nat} {cI cL cB cZ : ClassId} {Q : State → Prop} {N : Nat} {res : Int32 × mq_St} (C : mq_C p s m args c A D cI cL cB cZ cX4_isTrueAt 4 RX4 zc_X4_isTrueAt) (hret : ∀ (H : Heap) (locs : List Loc) (ls : Array Slot) (pc : Nat), decode cX4_isTrueAt pc = .ok (.ireturn, 1) → narrow .boolean (.int res.1) = .int res.1 → va_P D vwCl (wd_C a cI cL cB cZ z res.2) H → va_D A (wd_C a cI cL cB cZ z res.2) → va_S A s.heap H locs → W p l e zr_X4_isTrueAt s m args below meth c H locs 0 0 Q (F0 m pc ls [.int res.1])) (v1 : Int32) (v2 : Int32) (S : mq_St) (H : Heap) (locs : List Loc) (ls : Array Slot) (h : zf_X4_isTrueAt N z v1 v2 S = some res) (hl : lv_has ls 4 [(0, .ref (a 46)), (1, .int (v1)), (2, .int (v2))]) (hP : va_P D vwCl (wd_C a cI cL cB cZ z S) H) (hD : va_D A (wd_C a cI cL cB cZ z S)) (hS : va_S A s.heap H locs) : W p l e zr_X4_isTrueAt s m args below meth c H locs 0 0 Q (F0 m 0 ls []) := by
  obtain ⟨hx, hb, hml, hown, hts, hK, hA⟩ := id C
  unfold zf_X4_isTrueAt at h
  refine lv_aload_n hx hb dX4_isTrueAt_0 rfl (lv_at hl 0 rfl) ?_
  refine va_get (D := D) (ci := 4) (v := .int ((S.1 22))) (C := RX4) (T := TX4) (N := 12) hx hb hts (zi_X4 _) hown hK hP 46 rfl rfl 9 (by decide) (hts _ (List.mem_cons_of_mem _ zt_f_X4_45)) (fun _ h9 => h9) rfl dX4_isTrueAt_1 ?_
  refine lv_topi (fun x1 ex1 => ?_)
  replace h := mq_nI_go ex1 h
  refine lv_istore_n (lv' := [(3, .int (x1)), (0, .ref (a 46)), (1, .int (v1)), (2, .int (v2))]) hx hb dX4_isTrueAt_4 rfl hl (by decide) rfl (fun ls hl => ?_)
  exact zw_X4_isTrueAt_5 C hret N (v1) (v2) (x1) S H locs ls h (lv_sub hl [1, 2, 3, 0] rfl) hP hD hS
set_option maxHeartbeats 4000000 in
set_option maxRecDepth 100000 in
theorem zm_X4_isTrueAt (l : Launch) (D : va_G) (a z : Nat → Nat) (cI cL cB cZ : ClassId) (sz N : Nat) (v1 : Int32) (v2 : Int32) (S : mq_St) (res : Int32 × mq_St) (h : zf_X4_isTrueAt N z v1 v2 S = some res) : Met l yX4_isTrueAt (zc_X4_isTrueAt :: mq_T) zr_X4_isTrueAt (va_Pc [.ref (a 46), .int (v1), .int (v2)] (fun U => U.heap.size = sz ∧ va_P D vwCl (wd_C a cI cL cB cZ z S) U.heap ∧ va_K D vwCl (mq_tys cI cL cB cZ) U ∧ va_D (fun _ => True) (wd_C a cI cL cB cZ z S))) (va_Qi (fun (r : Int32) (u : mq_St) => r = res.1 ∧ u = res.2) (fun u t => va_P D vwCl (wd_C a cI cL cB cZ z u) t.heap ∧ va_K D vwCl (mq_tys cI cL cB cZ) t ∧ va_D (va_A (wd_C a cI cL cB cZ z S) sz) (wd_C a cI cL cB cZ z u)) (va_A (wd_C a cI cL cB cZ z S) sz)) 0 0 (va_A (wd_C a cI cL cB cZ z S) sz) := by
  refine Met.ofW (cc := cX4_isTrueAt) (maxL := 4) (ret := (some .boolean)) (by decide) rfl ?_
  intro p e s m args below meth c s₁ B hml hv
  obtain ⟨rfl, hsz, hP, hK, hD0⟩ := hv
  have hr := B.returns
  have hlocks := B.notSynchronized
  have hts := atoms_spec (ws := zc_X4_isTrueAt :: mq_T) B.pre
  have hown : s.vm.findClass RX4 = some m.cls := findClass_of_methodNamed B.named
  subst hsz
  have hD := hD0.self (sz := s.heap.size)
  generalize hAe : va_A (wd_C a cI cL cB cZ z S) s.heap.size = A at hD ⊢
  have hA : ∀ q : Nat, s.heap.size ≤ q → A q := fun q h => by rw [← hAe]; exact Or.inr h
  have hl := lv_entry ([.ref (a 46), .int (v1), .int (v2)]) (n := 4) (Nat.le_of_ble_eq_true rfl)
  rw [lg_entry_eq]
  generalize (lg_sl ([.ref (a 46), .int (v1), .int (v2)]) ++ List.replicate (4 - (lg_sl ([.ref (a 46), .int (v1), .int (v2)])).length) Slot.unset).toArray = ls at hl ⊢
  have hl : lv_has ls 4 [(0, .ref (a 46)), (1, .int (v1)), (2, .int (v2))] := hl
  refine zw_X4_isTrueAt_0 (A := A) ⟨B.exec, B.bytes, hml, hown, hts, hK, hA⟩ (fun H locs ls pc dg hz hP hD hS => ?_) v1 v2 S s.heap [] ls h hl hP hD va_S.rf
  exact W.zret B.exec B.bytes hr hz (fun t ht hW => ⟨⟨_, _, rfl, ⟨rfl, rfl⟩, by rw [ht]; exact hP, va_K.moved hW.alike hK, hD⟩, hS.F ht⟩) hS.2.2 dg
theorem zt_X4_isTrueAt_c : zc_X4_isTrueAt ∈ mq_T := mq_T_mem (mq_t5 (List.mem_of_getElem? (i := 95) rfl)) rfl
theorem zt_X4_isTrueAt_i : Cond.instanceMethod yX4_isTrueAt ∈ mq_T := mq_T_mem (mq_t5 (List.mem_of_getElem? (i := 93) rfl)) rfl
theorem zt_X4_isTrueAt_s : Cond.selects RX4 yX4_isTrueAt yX4_isTrueAt ∈ mq_T := mq_T_mem (mq_t5 (List.mem_of_getElem? (i := 94) rfl)) rfl
set_option maxHeartbeats 4000000 in
theorem zk_X4_isTrueAt {p : Program} {l : Launch} {e : Env} {R : Room} {s : State} {m : MethodId} {args : Array Value} {below : List Frame} {meth : Method} {c : Code} {A : Nat → Prop} {D : va_G} {a z : Nat → Nat} {cI cL cB cZ : ClassId} {Q : State → Prop} {cc : ByteArray} {nL idx pc N : Nat} {own : String} {c1 : Cond} {H : Heap} {locs : List Loc} {ls : Array Slot} {rest : List Value} {S : mq_St} {res : Int32 × mq_St} {v1 : Int32} {v2 : Int32} (C : mq_C p s m args c A D cI cL cB cZ cc nL own c1) (hlk : Cond.methodLink own idx yX4_isTrueAt ∈ mq_T) (hR : zr_X4_isTrueAt.frames + 1 ≤ R.frames ∧ 8 + (4 + 11) + zr_X4_isTrueAt.locals ≤ R.locals) (h : zf_X4_isTrueAt N z v1 v2 S = some res) (hP : va_P D vwCl (wd_C a cI cL cB cZ z S) H) (hD : va_D A (wd_C a cI cL cB cZ z S)) (hS : va_S A s.heap H locs) (hls : ls.size = nL) (hrest : (rest.map fun v => v.category).sum ≤ 8) (hdg : decode cc pc = .ok (.invokevirtual idx, 3)) (kk : ∀ (H1 : Heap) (locs1 : List Loc), va_P D vwCl (wd_C a cI cL cB cZ z res.2) H1 → va_D A (wd_C a cI cL cB cZ z res.2) → va_S A s.heap H1 locs1 → W p l e R s m args below meth c H1 locs1 0 0 Q (F0 m (pc + 3) ls (.int res.1 :: rest))) : W p l e R s m args below meth c H locs 0 0 Q (F0 m pc ls (.int (v2) :: .int (v1) :: .ref (a 46) :: rest)) := by
  obtain ⟨hx, hb, hml, hown, hts, hK, hA⟩ := C
  have hFc := mq_freeI hD hS hA
  refine va_calli (va_runV (As := [.int (v1), .int (v2)]) (rest := rest) ⟨hx, hb, hml, hown, hts⟩ (zm_X4_isTrueAt l D a z cI cL cB cZ H.size N v1 v2 S res h) (cwV 2 hts (mq_goodL (mq_wsV hlk zt_X4_isTrueAt_i zt_X4_isTrueAt_s zt_ini_X4 zt_X4_isTrueAt_c)) rfl rfl rfl (by decide +kernel) hR) ⟨fun a U g mk q => ⟨q.1, q.2.1, q.2.2.1, va_K.moved (u := U) (U := U.calling g mk a) (Vm.Alike.refl U.vm) q.2.2.2.1, q.2.2.2.2⟩, zy_C_46 hK hP, fun U hU hW => ⟨rfl, by rw [hU], by rw [hU]; exact hP, va_K.moved hW.alike hK, hD.weaken (fun _ _ _ _ => trivial)⟩⟩ rfl rfl hls rfl (lv_room hrest) hdg ⟨Nat.zero_le _, Nat.zero_le _⟩) hS (fun q _ h => hFc q h) hFc (fun r u t H1 locs ht hvm hw hB hz1 hk1 hS => ?_)
  obtain ⟨rfl, rfl⟩ := hw
  obtain ⟨hP1, hK1, hD1⟩ := hB
  rw [ht] at hP1
  exact kk H1 locs hP1 (hD1.weaken (fun _ _ _ h => hFc _ h)) hS
theorem zt_m_X4_60 : Cond.methodLink RX4 60 yJ13_bitCount_95d88 ∈ mq_T := mq_T_mem (mq_t5 (List.mem_of_getElem? (i := 143) rfl)) rfl
/-! ModalDesk$Model.seenFrom(I)I -/
def zr_X4_seenFrom : Room := { frames := 1, cells := 0, slots := 0, locals := 21 }
def zc_X4_seenFrom : Cond := .code yX4_seenFrom cX4_seenFrom 2 (some .int)
def zf_X4_seenFrom (N : Nat) (z : Nat → Nat) (v1 : Int32) (S : mq_St) : Option (Int32) := (mq_cp (zf_X4_has N z (v1) S) (fun q1 => (if q1 = (0 : Int32) then (some ((-1 : Int32))) else (mq_ck (v1) 60 (mq_cp (zf_J13_bitCount_95d88 N z ((S.2.2 7 (v1).toNatClampNeg)) (mq_pull S [] [] [])) (fun q4 => (some (q4))))))))
set_option maxHeartbeats 4000000 in
set_option maxRecDepth 100000 in
theorem zw_X4_seenFrom_0 {p : Program} {l : Launch} {e : Env} {s : State} {m : MethodId} {args : Array Value} {below : List Frame} {meth : Method} {c : Code} {A : Nat → Prop} {D : va_G} {a z : Nat → Nat} {cI cL cB cZ : ClassId} {Q : State → Prop} {N : Nat} {S : mq_St} {res : Int32} (C : mq_C p s m args c A D cI cL cB cZ cX4_seenFrom 2 RX4 zc_X4_seenFrom) (hret : ∀ (H : Heap) (locs : List Loc) (ls : Array Slot) (pc : Nat), decode cX4_seenFrom pc = .ok (.ireturn, 1) → va_P D vwCl (wd_C a cI cL cB cZ z S) H → va_D A (wd_C a cI cL cB cZ z S) → va_S A s.heap H locs → W p l e zr_X4_seenFrom s m args below meth c H locs 0 0 Q (F0 m pc ls [.int res])) (v1 : Int32) (H : Heap) (locs : List Loc) (ls : Array Slot) (h : zf_X4_seenFrom N z v1 S = some res) (hl : lv_has ls 2 [(0, .ref (a 46)), (1, .int (v1))]) (hP : va_P D vwCl (wd_C a cI cL cB cZ z S) H) (hD : va_D A (wd_C a cI cL cB cZ z S)) (hS : va_S A s.heap H locs) : W p l e zr_X4_seenFrom s m args below meth c H locs 0 0 Q (F0 m 0 ls []) := by
  obtain ⟨hx, hb, hml, hown, hts, hK, hA⟩ := id C
  unfold zf_X4_seenFrom at h
  refine lv_aload_n hx hb dX4_seenFrom_0 rfl (lv_at hl 0 rfl) ?_
  refine lv_iload_n hx hb dX4_seenFrom_1 rfl (lv_at hl 1 rfl) ?_
  obtain ⟨q1, hc2, h⟩ := mq_cp_go h
  refine zk_X4_has C zt_m_X4_56 ⟨by decide, by decide⟩ hc2 hP hD hS hl.1 (Nat.le_of_ble_eq_true rfl) dX4_seenFrom_2 (fun H locs hP hD hS => ?_)
  refine lv_if_eq (tgt := 20) hx hb dX4_seenFrom_5 (by decide) (fun c6 => ?_) (fun c6 => ?_)
  · replace h := mq_it c6 h
    refine lv_iconst (v := (-1 : Int32)) hx hb dX4_seenFrom_20 (by decide) ?_
    cases h
    exact hret H locs ls 21 dX4_seenFrom_21 hP hD hS
  · replace h := mq_if c6 h
    refine lv_aload_n hx hb dX4_seenFrom_8 rfl (lv_at hl 0 rfl) ?_
    refine va_get (D := D) (ci := 4) (v := .ref (a 48)) (C := RX4) (T := TX4) (N := 12) hx hb hts (zi_X4 _) hown hK hP 46 rfl rfl 2 (by decide) (hts _ (List.mem_cons_of_mem _ zt_f_X4_15)) (fun _ h9 => h9) rfl dX4_seenFrom_9 ?_
    refine lv_iload_n hx hb dX4_seenFrom_12 rfl (lv_at hl 1 rfl) ?_
    have hi3 := mq_ck_in h
    replace h := mq_ck_go h
    refine va_lald (f := S.2.2 7) hx hb hK hP 48 1 rfl rfl hi3 dX4_seenFrom_13 ?_
    obtain ⟨q4, hc5, h⟩ := mq_cp_go h
    refine zv_J13_bitCount_95d88 (a := mq_ad a []) (z := z) [] C zt_m_X4_60 ⟨by decide, by decide⟩ hc5 rfl (by decide) hP hD hS hl.1 (Nat.le_of_ble_eq_true rfl) dX4_seenFrom_14 (fun H locs hP hD hS => ?_)
    refine lv_goto (tgt := 21) hx hb dX4_seenFrom_17 (by decide) ?_
    cases h
    exact hret H locs ls 21 dX4_seenFrom_21 hP hD hS
set_option maxHeartbeats 4000000 in
set_option maxRecDepth 100000 in
theorem zm_X4_seenFrom (l : Launch) (D : va_G) (a z : Nat → Nat) (cI cL cB cZ : ClassId) (sz N : Nat) (v1 : Int32) (S : mq_St) (res : Int32) (h : zf_X4_seenFrom N z v1 S = some res) : Met l yX4_seenFrom (zc_X4_seenFrom :: mq_T) zr_X4_seenFrom (va_Pc [.ref (a 46), .int (v1)] (fun U => U.heap.size = sz ∧ va_P D vwCl (wd_C a cI cL cB cZ z S) U.heap ∧ va_K D vwCl (mq_tys cI cL cB cZ) U ∧ va_D (fun _ => True) (wd_C a cI cL cB cZ z S))) (va_Qi (fun (r : Int32) (u : mq_St) => r = res ∧ u = S) (fun u t => va_P D vwCl (wd_C a cI cL cB cZ z u) t.heap ∧ va_K D vwCl (mq_tys cI cL cB cZ) t ∧ va_D (va_A (wd_C a cI cL cB cZ z S) sz) (wd_C a cI cL cB cZ z u)) (va_A (wd_C a cI cL cB cZ z S) sz)) 0 0 (va_A (wd_C a cI cL cB cZ z S) sz) := by
  refine Met.ofW (cc := cX4_seenFrom) (maxL := 2) (ret := (some .int)) (by decide) rfl ?_
  intro p e s m args below meth c s₁ B hml hv
  obtain ⟨rfl, hsz, hP, hK, hD0⟩ := hv
  have hr := B.returns
  have hlocks := B.notSynchronized
  have hts := atoms_spec (ws := zc_X4_seenFrom :: mq_T) B.pre
  have hown : s.vm.findClass RX4 = some m.cls := findClass_of_methodNamed B.named
  subst hsz
  have hD := hD0.self (sz := s.heap.size)
  generalize hAe : va_A (wd_C a cI cL cB cZ z S) s.heap.size = A at hD ⊢
  have hA : ∀ q : Nat, s.heap.size ≤ q → A q := fun q h => by rw [← hAe]; exact Or.inr h
  have hl := lv_entry ([.ref (a 46), .int (v1)]) (n := 2) (Nat.le_of_ble_eq_true rfl)
  rw [lg_entry_eq]
  generalize (lg_sl ([.ref (a 46), .int (v1)]) ++ List.replicate (2 - (lg_sl ([.ref (a 46), .int (v1)])).length) Slot.unset).toArray = ls at hl ⊢
  have hl : lv_has ls 2 [(0, .ref (a 46)), (1, .int (v1))] := hl
  refine zw_X4_seenFrom_0 (A := A) ⟨B.exec, B.bytes, hml, hown, hts, hK, hA⟩ (fun H locs ls pc dg hP hD hS => ?_) v1 s.heap [] ls h hl hP hD va_S.rf
  exact W.iret B.exec B.bytes hr (fun t ht hW => ⟨⟨_, _, rfl, ⟨rfl, rfl⟩, by rw [ht]; exact hP, va_K.moved hW.alike hK, hD⟩, hS.F ht⟩) hS.2.2 dg
theorem zt_X4_seenFrom_c : zc_X4_seenFrom ∈ mq_T := mq_T_mem (mq_t5 (List.mem_of_getElem? (i := 142) rfl)) rfl
theorem zt_X4_seenFrom_i : Cond.instanceMethod yX4_seenFrom ∈ mq_T := mq_T_mem (mq_t5 (List.mem_of_getElem? (i := 140) rfl)) rfl
theorem zt_X4_seenFrom_s : Cond.selects RX4 yX4_seenFrom yX4_seenFrom ∈ mq_T := mq_T_mem (mq_t5 (List.mem_of_getElem? (i := 141) rfl)) rfl
set_option maxHeartbeats 4000000 in
theorem zk_X4_seenFrom {p : Program} {l : Launch} {e : Env} {R : Room} {s : State} {m : MethodId} {args : Array Value} {below : List Frame} {meth : Method} {c : Code} {A : Nat → Prop} {D : va_G} {a z : Nat → Nat} {cI cL cB cZ : ClassId} {Q : State → Prop} {cc : ByteArray} {nL idx pc N : Nat} {own : String} {c1 : Cond} {H : Heap} {locs : List Loc} {ls : Array Slot} {rest : List Value} {S : mq_St} {res : Int32} {v1 : Int32} (C : mq_C p s m args c A D cI cL cB cZ cc nL own c1) (hlk : Cond.methodLink own idx yX4_seenFrom ∈ mq_T) (hR : zr_X4_seenFrom.frames + 1 ≤ R.frames ∧ 8 + (2 + 11) + zr_X4_seenFrom.locals ≤ R.locals) (h : zf_X4_seenFrom N z v1 S = some res) (hP : va_P D vwCl (wd_C a cI cL cB cZ z S) H) (hD : va_D A (wd_C a cI cL cB cZ z S)) (hS : va_S A s.heap H locs) (hls : ls.size = nL) (hrest : (rest.map fun v => v.category).sum ≤ 8) (hdg : decode cc pc = .ok (.invokevirtual idx, 3)) (kk : ∀ (H1 : Heap) (locs1 : List Loc), va_P D vwCl (wd_C a cI cL cB cZ z S) H1 → va_D A (wd_C a cI cL cB cZ z S) → va_S A s.heap H1 locs1 → W p l e R s m args below meth c H1 locs1 0 0 Q (F0 m (pc + 3) ls (.int res :: rest))) : W p l e R s m args below meth c H locs 0 0 Q (F0 m pc ls (.int (v1) :: .ref (a 46) :: rest)) := by
  obtain ⟨hx, hb, hml, hown, hts, hK, hA⟩ := C
  have hFc := mq_freeI hD hS hA
  refine va_calli (va_runV (As := [.int (v1)]) (rest := rest) ⟨hx, hb, hml, hown, hts⟩ (zm_X4_seenFrom l D a z cI cL cB cZ H.size N v1 S res h) (cwV 1 hts (mq_goodL (mq_wsV hlk zt_X4_seenFrom_i zt_X4_seenFrom_s zt_ini_X4 zt_X4_seenFrom_c)) rfl rfl rfl (by decide +kernel) hR) ⟨fun a U g mk q => ⟨q.1, q.2.1, q.2.2.1, va_K.moved (u := U) (U := U.calling g mk a) (Vm.Alike.refl U.vm) q.2.2.2.1, q.2.2.2.2⟩, zy_C_46 hK hP, fun U hU hW => ⟨rfl, by rw [hU], by rw [hU]; exact hP, va_K.moved hW.alike hK, hD.weaken (fun _ _ _ _ => trivial)⟩⟩ rfl rfl hls rfl (lv_room hrest) hdg ⟨Nat.zero_le _, Nat.zero_le _⟩) hS (fun q _ h => hFc q h) hFc (fun r u t H1 locs ht hvm hw hB hz1 hk1 hS => ?_)
  obtain ⟨rfl, rfl⟩ := hw
  obtain ⟨hP1, hK1, hD1⟩ := hB
  rw [ht] at hP1
  exact kk H1 locs hP1 (hD1.weaken (fun _ _ _ h => hFc _ h)) hS
/-! ModalDesk$Model.setSizeOf(I)I -/
def zr_X4_setSizeOf : Room := { frames := 1, cells := 0, slots := 0, locals := 21 }
def zc_X4_setSizeOf : Cond := .code yX4_setSizeOf cX4_setSizeOf 2 (some .int)
def zf_X4_setSizeOf (N : Nat) (z : Nat → Nat) (v1 : Int32) (S : mq_St) : Option (Int32) := (mq_cp (zf_X4_has N z (v1) S) (fun q1 => (if q1 = (0 : Int32) then (some ((-1 : Int32))) else (if (S.1 24) = (0 : Int32) then (mq_ck (v1) 60 (some ((S.2.1 25 (v1).toNatClampNeg)))) else (some ((-1 : Int32)))))))
set_option maxHeartbeats 4000000 in
set_option maxRecDepth 100000 in
theorem zw_X4_setSizeOf_0 {p : Program} {l : Launch} {e : Env} {s : State} {m : MethodId} {args : Array Value} {below : List Frame} {meth : Method} {c : Code} {A : Nat → Prop} {D : va_G} {a z : Nat → Nat} {cI cL cB cZ : ClassId} {Q : State → Prop} {N : Nat} {S : mq_St} {res : Int32} (C : mq_C p s m args c A D cI cL cB cZ cX4_setSizeOf 2 RX4 zc_X4_setSizeOf) (hret : ∀ (H : Heap) (locs : List Loc) (ls : Array Slot) (pc : Nat), decode cX4_setSizeOf pc = .ok (.ireturn, 1) → va_P D vwCl (wd_C a cI cL cB cZ z S) H → va_D A (wd_C a cI cL cB cZ z S) → va_S A s.heap H locs → W p l e zr_X4_setSizeOf s m args below meth c H locs 0 0 Q (F0 m pc ls [.int res])) (v1 : Int32) (H : Heap) (locs : List Loc) (ls : Array Slot) (h : zf_X4_setSizeOf N z v1 S = some res) (hl : lv_has ls 2 [(0, .ref (a 46)), (1, .int (v1))]) (hP : va_P D vwCl (wd_C a cI cL cB cZ z S) H) (hD : va_D A (wd_C a cI cL cB cZ z S)) (hS : va_S A s.heap H locs) : W p l e zr_X4_setSizeOf s m args below meth c H locs 0 0 Q (F0 m 0 ls []) := by
  obtain ⟨hx, hb, hml, hown, hts, hK, hA⟩ := id C
  unfold zf_X4_setSizeOf at h
  refine lv_aload_n hx hb dX4_setSizeOf_0 rfl (lv_at hl 0 rfl) ?_
  refine lv_iload_n hx hb dX4_setSizeOf_1 rfl (lv_at hl 1 rfl) ?_
  obtain ⟨q1, hc2, h⟩ := mq_cp_go h
  refine zk_X4_has C zt_m_X4_56 ⟨by decide, by decide⟩ hc2 hP hD hS hl.1 (Nat.le_of_ble_eq_true rfl) dX4_setSizeOf_2 (fun H locs hP hD hS => ?_)
  refine lv_if_eq (tgt := 24) hx hb dX4_setSizeOf_5 (by decide) (fun c5 => ?_) (fun c5 => ?_)
  · replace h := mq_it c5 h
    refine lv_iconst (v := (-1 : Int32)) hx hb dX4_setSizeOf_24 (by decide) ?_
    cases h
    exact hret H locs ls 25 dX4_setSizeOf_25 hP hD hS
  · replace h := mq_if c5 h
    refine lv_aload_n hx hb dX4_setSizeOf_8 rfl (lv_at hl 0 rfl) ?_
    refine va_get (D := D) (ci := 4) (v := .int ((S.1 24))) (C := RX4) (T := TX4) (N := 12) hx hb hts (zi_X4 _) hown hK hP 46 rfl rfl 11 (by decide) (hts _ (List.mem_cons_of_mem _ zt_f_X4_48)) (fun _ h9 => h9) rfl dX4_setSizeOf_9 ?_
    refine lv_if_ne (tgt := 24) hx hb dX4_setSizeOf_12 (by decide) (fun c4 => ?_) (fun c4 => ?_)
    · replace h := mq_if c4 h
      refine lv_iconst (v := (-1 : Int32)) hx hb dX4_setSizeOf_24 (by decide) ?_
      cases h
      exact hret H locs ls 25 dX4_setSizeOf_25 hP hD hS
    · replace h := mq_it (by simpa using c4) h
      refine lv_aload_n hx hb dX4_setSizeOf_15 rfl (lv_at hl 0 rfl) ?_
      refine va_get (D := D) (ci := 4) (v := .ref (a 50)) (C := RX4) (T := TX4) (N := 12) hx hb hts (zi_X4 _) hown hK hP 46 rfl rfl 4 (by decide) (hts _ (List.mem_cons_of_mem _ zt_f_X4_22)) (fun _ h9 => h9) rfl dX4_setSizeOf_16 ?_
      refine lv_iload_n hx hb dX4_setSizeOf_19 rfl (lv_at hl 1 rfl) ?_
      have hi3 := mq_ck_in h
      replace h := mq_ck_go h
      refine va_iald (f := S.2.1 25) hx hb hK hP 50 0 rfl rfl hi3 dX4_setSizeOf_20 ?_
      refine lv_goto (tgt := 25) hx hb dX4_setSizeOf_21 (by decide) ?_
      cases h
      exact hret H locs ls 25 dX4_setSizeOf_25 hP hD hS
set_option maxHeartbeats 4000000 in
set_option maxRecDepth 100000 in
theorem zm_X4_setSizeOf (l : Launch) (D : va_G) (a z : Nat → Nat) (cI cL cB cZ : ClassId) (sz N : Nat) (v1 : Int32) (S : mq_St) (res : Int32) (h : zf_X4_setSizeOf N z v1 S = some res) : Met l yX4_setSizeOf (zc_X4_setSizeOf :: mq_T) zr_X4_setSizeOf (va_Pc [.ref (a 46), .int (v1)] (fun U => U.heap.size = sz ∧ va_P D vwCl (wd_C a cI cL cB cZ z S) U.heap ∧ va_K D vwCl (mq_tys cI cL cB cZ) U ∧ va_D (fun _ => True) (wd_C a cI cL cB cZ z S))) (va_Qi (fun (r : Int32) (u : mq_St) => r = res ∧ u = S) (fun u t => va_P D vwCl (wd_C a cI cL cB cZ z u) t.heap ∧ va_K D vwCl (mq_tys cI cL cB cZ) t ∧ va_D (va_A (wd_C a cI cL cB cZ z S) sz) (wd_C a cI cL cB cZ z u)) (va_A (wd_C a cI cL cB cZ z S) sz)) 0 0 (va_A (wd_C a cI cL cB cZ z S) sz) := by
  refine Met.ofW (cc := cX4_setSizeOf) (maxL := 2) (ret := (some .int)) (by decide) rfl ?_
  intro p e s m args below meth c s₁ B hml hv
  obtain ⟨rfl, hsz, hP, hK, hD0⟩ := hv
  have hr := B.returns
  have hlocks := B.notSynchronized
  have hts := atoms_spec (ws := zc_X4_setSizeOf :: mq_T) B.pre
  have hown : s.vm.findClass RX4 = some m.cls := findClass_of_methodNamed B.named
  subst hsz
  have hD := hD0.self (sz := s.heap.size)
  generalize hAe : va_A (wd_C a cI cL cB cZ z S) s.heap.size = A at hD ⊢
  have hA : ∀ q : Nat, s.heap.size ≤ q → A q := fun q h => by rw [← hAe]; exact Or.inr h
  have hl := lv_entry ([.ref (a 46), .int (v1)]) (n := 2) (Nat.le_of_ble_eq_true rfl)
  rw [lg_entry_eq]
  generalize (lg_sl ([.ref (a 46), .int (v1)]) ++ List.replicate (2 - (lg_sl ([.ref (a 46), .int (v1)])).length) Slot.unset).toArray = ls at hl ⊢
  have hl : lv_has ls 2 [(0, .ref (a 46)), (1, .int (v1))] := hl
  refine zw_X4_setSizeOf_0 (A := A) ⟨B.exec, B.bytes, hml, hown, hts, hK, hA⟩ (fun H locs ls pc dg hP hD hS => ?_) v1 s.heap [] ls h hl hP hD va_S.rf
  exact W.iret B.exec B.bytes hr (fun t ht hW => ⟨⟨_, _, rfl, ⟨rfl, rfl⟩, by rw [ht]; exact hP, va_K.moved hW.alike hK, hD⟩, hS.F ht⟩) hS.2.2 dg
theorem zt_X4_setSizeOf_c : zc_X4_setSizeOf ∈ mq_T := mq_T_mem (mq_t5 (List.mem_of_getElem? (i := 147) rfl)) rfl
theorem zt_X4_setSizeOf_i : Cond.instanceMethod yX4_setSizeOf ∈ mq_T := mq_T_mem (mq_t5 (List.mem_of_getElem? (i := 145) rfl)) rfl
theorem zt_X4_setSizeOf_s : Cond.selects RX4 yX4_setSizeOf yX4_setSizeOf ∈ mq_T := mq_T_mem (mq_t5 (List.mem_of_getElem? (i := 146) rfl)) rfl
set_option maxHeartbeats 4000000 in
theorem zk_X4_setSizeOf {p : Program} {l : Launch} {e : Env} {R : Room} {s : State} {m : MethodId} {args : Array Value} {below : List Frame} {meth : Method} {c : Code} {A : Nat → Prop} {D : va_G} {a z : Nat → Nat} {cI cL cB cZ : ClassId} {Q : State → Prop} {cc : ByteArray} {nL idx pc N : Nat} {own : String} {c1 : Cond} {H : Heap} {locs : List Loc} {ls : Array Slot} {rest : List Value} {S : mq_St} {res : Int32} {v1 : Int32} (C : mq_C p s m args c A D cI cL cB cZ cc nL own c1) (hlk : Cond.methodLink own idx yX4_setSizeOf ∈ mq_T) (hR : zr_X4_setSizeOf.frames + 1 ≤ R.frames ∧ 8 + (2 + 11) + zr_X4_setSizeOf.locals ≤ R.locals) (h : zf_X4_setSizeOf N z v1 S = some res) (hP : va_P D vwCl (wd_C a cI cL cB cZ z S) H) (hD : va_D A (wd_C a cI cL cB cZ z S)) (hS : va_S A s.heap H locs) (hls : ls.size = nL) (hrest : (rest.map fun v => v.category).sum ≤ 8) (hdg : decode cc pc = .ok (.invokevirtual idx, 3)) (kk : ∀ (H1 : Heap) (locs1 : List Loc), va_P D vwCl (wd_C a cI cL cB cZ z S) H1 → va_D A (wd_C a cI cL cB cZ z S) → va_S A s.heap H1 locs1 → W p l e R s m args below meth c H1 locs1 0 0 Q (F0 m (pc + 3) ls (.int res :: rest))) : W p l e R s m args below meth c H locs 0 0 Q (F0 m pc ls (.int (v1) :: .ref (a 46) :: rest)) := by
  obtain ⟨hx, hb, hml, hown, hts, hK, hA⟩ := C
  have hFc := mq_freeI hD hS hA
  refine va_calli (va_runV (As := [.int (v1)]) (rest := rest) ⟨hx, hb, hml, hown, hts⟩ (zm_X4_setSizeOf l D a z cI cL cB cZ H.size N v1 S res h) (cwV 1 hts (mq_goodL (mq_wsV hlk zt_X4_setSizeOf_i zt_X4_setSizeOf_s zt_ini_X4 zt_X4_setSizeOf_c)) rfl rfl rfl (by decide +kernel) hR) ⟨fun a U g mk q => ⟨q.1, q.2.1, q.2.2.1, va_K.moved (u := U) (U := U.calling g mk a) (Vm.Alike.refl U.vm) q.2.2.2.1, q.2.2.2.2⟩, zy_C_46 hK hP, fun U hU hW => ⟨rfl, by rw [hU], by rw [hU]; exact hP, va_K.moved hW.alike hK, hD.weaken (fun _ _ _ _ => trivial)⟩⟩ rfl rfl hls rfl (lv_room hrest) hdg ⟨Nat.zero_le _, Nat.zero_le _⟩) hS (fun q _ h => hFc q h) hFc (fun r u t H1 locs ht hvm hw hB hz1 hk1 hS => ?_)
  obtain ⟨rfl, rfl⟩ := hw
  obtain ⟨hP1, hK1, hD1⟩ := hB
  rw [ht] at hP1
  exact kk H1 locs hP1 (hD1.weaken (fun _ _ _ h => hFc _ h)) hS
/-! ModalDesk$Model.size()I -/
def zr_X4_size : Room := { frames := 0, cells := 0, slots := 0, locals := 0 }
def zc_X4_size : Cond := .code yX4_size cX4_size 1 (some .int)
def zf_X4_size (N : Nat) (z : Nat → Nat) (S : mq_St) : Option (Int32) := (some ((S.1 23)))
set_option maxHeartbeats 4000000 in
set_option maxRecDepth 100000 in
theorem zw_X4_size_0 {p : Program} {l : Launch} {e : Env} {s : State} {m : MethodId} {args : Array Value} {below : List Frame} {meth : Method} {c : Code} {A : Nat → Prop} {D : va_G} {a z : Nat → Nat} {cI cL cB cZ : ClassId} {Q : State → Prop} {N : Nat} {S : mq_St} {res : Int32} (C : mq_C p s m args c A D cI cL cB cZ cX4_size 1 RX4 zc_X4_size) (hret : ∀ (H : Heap) (locs : List Loc) (ls : Array Slot) (pc : Nat), decode cX4_size pc = .ok (.ireturn, 1) → va_P D vwCl (wd_C a cI cL cB cZ z S) H → va_D A (wd_C a cI cL cB cZ z S) → va_S A s.heap H locs → W p l e zr_X4_size s m args below meth c H locs 0 0 Q (F0 m pc ls [.int res])) (H : Heap) (locs : List Loc) (ls : Array Slot) (h : zf_X4_size N z S = some res) (hl : lv_has ls 1 [(0, .ref (a 46))]) (hP : va_P D vwCl (wd_C a cI cL cB cZ z S) H) (hD : va_D A (wd_C a cI cL cB cZ z S)) (hS : va_S A s.heap H locs) : W p l e zr_X4_size s m args below meth c H locs 0 0 Q (F0 m 0 ls []) := by
  obtain ⟨hx, hb, hml, hown, hts, hK, hA⟩ := id C
  unfold zf_X4_size at h
  refine lv_aload_n hx hb dX4_size_0 rfl (lv_at hl 0 rfl) ?_
  refine va_get (D := D) (ci := 4) (v := .int ((S.1 23))) (C := RX4) (T := TX4) (N := 12) hx hb hts (zi_X4 _) hown hK hP 46 rfl rfl 10 (by decide) (hts _ (List.mem_cons_of_mem _ zt_f_X4_41)) (fun _ h9 => h9) rfl dX4_size_1 ?_
  cases h
  exact hret H locs ls 4 dX4_size_4 hP hD hS
set_option maxHeartbeats 4000000 in
set_option maxRecDepth 100000 in
theorem zm_X4_size (l : Launch) (D : va_G) (a z : Nat → Nat) (cI cL cB cZ : ClassId) (sz N : Nat) (S : mq_St) (res : Int32) (h : zf_X4_size N z S = some res) : Met l yX4_size (zc_X4_size :: mq_T) zr_X4_size (va_Pc [.ref (a 46)] (fun U => U.heap.size = sz ∧ va_P D vwCl (wd_C a cI cL cB cZ z S) U.heap ∧ va_K D vwCl (mq_tys cI cL cB cZ) U ∧ va_D (fun _ => True) (wd_C a cI cL cB cZ z S))) (va_Qi (fun (r : Int32) (u : mq_St) => r = res ∧ u = S) (fun u t => va_P D vwCl (wd_C a cI cL cB cZ z u) t.heap ∧ va_K D vwCl (mq_tys cI cL cB cZ) t ∧ va_D (va_A (wd_C a cI cL cB cZ z S) sz) (wd_C a cI cL cB cZ z u)) (va_A (wd_C a cI cL cB cZ z S) sz)) 0 0 (va_A (wd_C a cI cL cB cZ z S) sz) := by
  refine Met.ofW (cc := cX4_size) (maxL := 1) (ret := (some .int)) (by decide) rfl ?_
  intro p e s m args below meth c s₁ B hml hv
  obtain ⟨rfl, hsz, hP, hK, hD0⟩ := hv
  have hr := B.returns
  have hlocks := B.notSynchronized
  have hts := atoms_spec (ws := zc_X4_size :: mq_T) B.pre
  have hown : s.vm.findClass RX4 = some m.cls := findClass_of_methodNamed B.named
  subst hsz
  have hD := hD0.self (sz := s.heap.size)
  generalize hAe : va_A (wd_C a cI cL cB cZ z S) s.heap.size = A at hD ⊢
  have hA : ∀ q : Nat, s.heap.size ≤ q → A q := fun q h => by rw [← hAe]; exact Or.inr h
  have hl := lv_entry ([.ref (a 46)]) (n := 1) (Nat.le_of_ble_eq_true rfl)
  rw [lg_entry_eq]
  generalize (lg_sl ([.ref (a 46)]) ++ List.replicate (1 - (lg_sl ([.ref (a 46)])).length) Slot.unset).toArray = ls at hl ⊢
  have hl : lv_has ls 1 [(0, .ref (a 46))] := hl
  refine zw_X4_size_0 (A := A) ⟨B.exec, B.bytes, hml, hown, hts, hK, hA⟩ (fun H locs ls pc dg hP hD hS => ?_) s.heap [] ls h hl hP hD va_S.rf
  exact W.iret B.exec B.bytes hr (fun t ht hW => ⟨⟨_, _, rfl, ⟨rfl, rfl⟩, by rw [ht]; exact hP, va_K.moved hW.alike hK, hD⟩, hS.F ht⟩) hS.2.2 dg
theorem zt_X4_size_c : zc_X4_size ∈ mq_T := mq_T_mem (mq_t4 (List.mem_of_getElem? (i := 222) rfl)) rfl
theorem zt_X4_size_i : Cond.instanceMethod yX4_size ∈ mq_T := mq_T_mem (mq_t4 (List.mem_of_getElem? (i := 220) rfl)) rfl
theorem zt_X4_size_s : Cond.selects RX4 yX4_size yX4_size ∈ mq_T := mq_T_mem (mq_t4 (List.mem_of_getElem? (i := 221) rfl)) rfl
set_option maxHeartbeats 4000000 in
theorem zk_X4_size {p : Program} {l : Launch} {e : Env} {R : Room} {s : State} {m : MethodId} {args : Array Value} {below : List Frame} {meth : Method} {c : Code} {A : Nat → Prop} {D : va_G} {a z : Nat → Nat} {cI cL cB cZ : ClassId} {Q : State → Prop} {cc : ByteArray} {nL idx pc N : Nat} {own : String} {c1 : Cond} {H : Heap} {locs : List Loc} {ls : Array Slot} {rest : List Value} {S : mq_St} {res : Int32} (C : mq_C p s m args c A D cI cL cB cZ cc nL own c1) (hlk : Cond.methodLink own idx yX4_size ∈ mq_T) (hR : zr_X4_size.frames + 1 ≤ R.frames ∧ 8 + (1 + 11) + zr_X4_size.locals ≤ R.locals) (h : zf_X4_size N z S = some res) (hP : va_P D vwCl (wd_C a cI cL cB cZ z S) H) (hD : va_D A (wd_C a cI cL cB cZ z S)) (hS : va_S A s.heap H locs) (hls : ls.size = nL) (hrest : (rest.map fun v => v.category).sum ≤ 8) (hdg : decode cc pc = .ok (.invokevirtual idx, 3)) (kk : ∀ (H1 : Heap) (locs1 : List Loc), va_P D vwCl (wd_C a cI cL cB cZ z S) H1 → va_D A (wd_C a cI cL cB cZ z S) → va_S A s.heap H1 locs1 → W p l e R s m args below meth c H1 locs1 0 0 Q (F0 m (pc + 3) ls (.int res :: rest))) : W p l e R s m args below meth c H locs 0 0 Q (F0 m pc ls (.ref (a 46) :: rest)) := by
  obtain ⟨hx, hb, hml, hown, hts, hK, hA⟩ := C
  have hFc := mq_freeI hD hS hA
  refine va_calli (va_runV (As := []) (rest := rest) ⟨hx, hb, hml, hown, hts⟩ (zm_X4_size l D a z cI cL cB cZ H.size N S res h) (cwV 0 hts (mq_goodL (mq_wsV hlk zt_X4_size_i zt_X4_size_s zt_ini_X4 zt_X4_size_c)) rfl rfl rfl (by decide +kernel) hR) ⟨fun a U g mk q => ⟨q.1, q.2.1, q.2.2.1, va_K.moved (u := U) (U := U.calling g mk a) (Vm.Alike.refl U.vm) q.2.2.2.1, q.2.2.2.2⟩, zy_C_46 hK hP, fun U hU hW => ⟨rfl, by rw [hU], by rw [hU]; exact hP, va_K.moved hW.alike hK, hD.weaken (fun _ _ _ _ => trivial)⟩⟩ rfl rfl hls rfl (lv_room hrest) hdg ⟨Nat.zero_le _, Nat.zero_le _⟩) hS (fun q _ h => hFc q h) hFc (fun r u t H1 locs ht hvm hw hB hz1 hk1 hS => ?_)
  obtain ⟨rfl, rfl⟩ := hw
  obtain ⟨hP1, hK1, hD1⟩ := hB
  rw [ht] at hP1
  exact kk H1 locs hP1 (hD1.weaken (fun _ _ _ h => hFc _ h)) hS
