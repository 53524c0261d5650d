/-! ModalDeskModel.world0(I)Z -/
def zr_X11_world0 : Room := { frames := 1, cells := 0, slots := 0, locals := 22 }
def zc_X11_world0 : Cond := .code yX11_world0 cX11_world0 2 (some .boolean)
def zf_X11_world0_20 (N : Nat) (z : Nat → Nat) (t1 : Int32) (S : mq_St) : Option (Int32 × mq_St) := (mq_nS (mq_si S 0 (t1)) (fun S4 => (if (S4.1 0) = (0 : Int32) then (mq_cz ((1 : Int32)) (some ((1 : Int32), S4))) else (mq_cz ((0 : Int32)) (some ((0 : Int32), S4))))))
def zf_X11_world0 (N : Nat) (z : Nat → Nat) (v1 : Int32) (S : mq_St) : Option (Int32 × mq_St) := (mq_cp (zf_X11_in N z (v1) ((0 : Int32)) (((S.1 31) - (1 : Int32))) (mq_pull S [] [] [])) (fun q1 => (if q1 = (0 : Int32) then (zf_X11_world0_20 N z ((1 : Int32)) S) else (zf_X11_world0_20 N z ((0 : Int32)) S))))
set_option maxHeartbeats 4000000 in
set_option maxRecDepth 100000 in
theorem zw_X11_world0_20 {p : Program} {l : Launch} {e : Env} {s : State} {m : MethodId} {args : Array Value} {below : List Frame} {meth : Method} {c : Code} {A : Nat → Prop} {D : va_G} {a z : Nat → Nat} {cI cL cB cZ : ClassId} {Q : State → Prop} {N : Nat} {res : Int32 × mq_St} (C : mq_C p s m args c A D cI cL cB cZ cX11_world0 2 RX11 zc_X11_world0) (hret : ∀ (H : Heap) (locs : List Loc) (ls : Array Slot) (pc : Nat), decode cX11_world0 pc = .ok (.ireturn, 1) → narrow .boolean (.int res.1) = .int res.1 → va_P D vwCl (wd_R a cI cL cB cZ z res.2) H → va_D A (wd_R a cI cL cB cZ z res.2) → va_S A s.heap H locs → W p l e zr_X11_world0 s m args below meth c H locs 0 0 Q (F0 m pc ls [.int res.1])) (t1 : Int32) (S : mq_St) (H : Heap) (locs : List Loc) (ls : Array Slot) (h : zf_X11_world0_20 N z t1 S = some res) (hl : lv_has ls 2 [(0, .ref (a 0))]) (hP : va_P D vwCl (wd_R a cI cL cB cZ z S) H) (hD : va_D A (wd_R a cI cL cB cZ z S)) (hS : va_S A s.heap H locs) : W p l e zr_X11_world0 s m args below meth c H locs 0 0 Q (F0 m 20 ls [.int (t1), .ref (a 0)]) := by
  obtain ⟨hx, hb, hml, hown, hts, hK, hA⟩ := id C
  unfold zf_X11_world0_20 at h
  refine mq_put (w := wd_R a cI cL cB cZ z) (S := S) (D := D) (ci := 11) (v := t1) (ty := .int) (C := RX11) (T := TX11) (N := 76) hx hb hts (zi_X11 _) tyX11 tyX11_ok nmX11 hown hK hP hD hS 0 rfl rfl 0 (by decide) (hts _ (List.mem_cons_of_mem _ zt_f_X11_151)) (fun _ h9 => h9) rfl (by decide +kernel) rfl rfl (Nat.le_of_ble_eq_true rfl) dX11_world0_20 0 (zs_wd_R_i_0_0 _ _ _ _ _ _ _ _) (fun S4 eS4 H locs hP hD hS => ?_)
  replace h := mq_nS_go eS4 h
  refine lv_aload_n hx hb dX11_world0_23 rfl (lv_at hl 0 rfl) ?_
  refine va_get (D := D) (ci := 11) (v := .int ((S4.1 0))) (C := RX11) (T := TX11) (N := 76) hx hb hts (zi_X11 _) hown hK hP 0 rfl rfl 0 (by decide) (hts _ (List.mem_cons_of_mem _ zt_f_X11_151)) (fun _ h9 => h9) rfl dX11_world0_24 ?_
  refine lv_if_ne (tgt := 34) hx hb dX11_world0_27 (by decide) (fun c7 => ?_) (fun c7 => ?_)
  · replace h := mq_if c7 h
    refine lv_iconst (v := (0 : Int32)) hx hb dX11_world0_34 (by decide) ?_
    have hz5 := mq_cz_in h
    replace h := mq_cz_go h
    cases h
    exact hret H locs ls 35 dX11_world0_35 hz5.1 hP hD hS
  · replace h := mq_it (by simpa using c7) h
    refine lv_iconst (v := (1 : Int32)) hx hb dX11_world0_30 (by decide) ?_
    refine lv_goto (tgt := 35) hx hb dX11_world0_31 (by decide) ?_
    have hz6 := mq_cz_in h
    replace h := mq_cz_go h
    cases h
    exact hret H locs ls 35 dX11_world0_35 hz6.1 hP hD hS
set_option maxHeartbeats 4000000 in
set_option maxRecDepth 100000 in
theorem zw_X11_world0_0 {p : Program} {l : Launch} {e : Env} {s : State} {m : MethodId} {args : Array Value} {below : List Frame} {meth : Method} {c : Code} {A : Nat → Prop} {D : va_G} {a z : Nat → Nat} {cI cL cB cZ : ClassId} {Q : State → Prop} {N : Nat} {res : Int32 × mq_St} (C : mq_C p s m args c A D cI cL cB cZ cX11_world0 2 RX11 zc_X11_world0) (hret : ∀ (H : Heap) (locs : List Loc) (ls : Array Slot) (pc : Nat), decode cX11_world0 pc = .ok (.ireturn, 1) → narrow .boolean (.int res.1) = .int res.1 → va_P D vwCl (wd_R a cI cL cB cZ z res.2) H → va_D A (wd_R a cI cL cB cZ z res.2) → va_S A s.heap H locs → W p l e zr_X11_world0 s m args below meth c H locs 0 0 Q (F0 m pc ls [.int res.1])) (v1 : Int32) (S : mq_St) (H : Heap) (locs : List Loc) (ls : Array Slot) (h : zf_X11_world0 N z v1 S = some res) (hl : lv_has ls 2 [(0, .ref (a 0)), (1, .int (v1))]) (hP : va_P D vwCl (wd_R a cI cL cB cZ z S) H) (hD : va_D A (wd_R a cI cL cB cZ z S)) (hS : va_S A s.heap H locs) : W p l e zr_X11_world0 s m args below meth c H locs 0 0 Q (F0 m 0 ls []) := by
  obtain ⟨hx, hb, hml, hown, hts, hK, hA⟩ := id C
  unfold zf_X11_world0 at h
  refine lv_aload_n hx hb dX11_world0_0 rfl (lv_at hl 0 rfl) ?_
  refine lv_iload_n hx hb dX11_world0_1 rfl (lv_at hl 1 rfl) ?_
  refine lv_iconst (v := (0 : Int32)) hx hb dX11_world0_2 (by decide) ?_
  refine lv_aload_n hx hb dX11_world0_3 rfl (lv_at hl 0 rfl) ?_
  refine va_get (D := D) (ci := 11) (v := .int ((S.1 31))) (C := RX11) (T := TX11) (N := 76) hx hb hts (zi_X11 _) hown hK hP 0 rfl rfl 65 (by decide) (hts _ (List.mem_cons_of_mem _ zt_f_X11_375)) (fun _ h9 => h9) rfl dX11_world0_4 ?_
  refine lv_iconst (v := (1 : Int32)) hx hb dX11_world0_7 (by decide) ?_
  refine lv_isub hx hb dX11_world0_8 ?_
  obtain ⟨q1, hc2, h⟩ := mq_cp_go h
  refine zv_X11_in (a := mq_ad a []) (z := z) [] C zt_m_X11_161 ⟨by decide, by decide⟩ hc2 rfl (by decide) hP hD hS hl.1 (Nat.le_of_ble_eq_true rfl) dX11_world0_9 (fun H locs hP hD hS => ?_)
  refine lv_if_eq (tgt := 19) hx hb dX11_world0_12 (by decide) (fun c3 => ?_) (fun c3 => ?_)
  · replace h := mq_it c3 h
    refine lv_iconst (v := (1 : Int32)) hx hb dX11_world0_19 (by decide) ?_
    exact zw_X11_world0_20 C hret ((1 : Int32)) S H locs ls h (lv_sub hl [0] rfl) hP hD hS
  · replace h := mq_if c3 h
    refine lv_iconst (v := (0 : Int32)) hx hb dX11_world0_15 (by decide) ?_
    refine lv_goto (tgt := 20) hx hb dX11_world0_16 (by decide) ?_
    exact zw_X11_world0_20 C hret ((0 : Int32)) S H locs ls h (lv_sub hl [0] rfl) hP hD hS
set_option maxHeartbeats 4000000 in
set_option maxRecDepth 100000 in
theorem zm_X11_world0 (l : Launch) (D : va_G) (a z : Nat → Nat) (cI cL cB cZ : ClassId) (sz N : Nat) (v1 : Int32) (S : mq_St) (res : Int32 × mq_St) (h : zf_X11_world0 N z v1 S = some res) : Met l yX11_world0 (zc_X11_world0 :: mq_T) zr_X11_world0 (va_Pc [.ref (a 0), .int (v1)] (fun U => U.heap.size = sz ∧ va_P D vwCl (wd_R a cI cL cB cZ z S) U.heap ∧ va_K D vwCl (mq_tys cI cL cB cZ) U ∧ va_D (fun _ => True) (wd_R a cI cL cB cZ z S))) (va_Qi (fun (r : Int32) (u : mq_St) => r = res.1 ∧ u = res.2) (fun u t => va_P D vwCl (wd_R a cI cL cB cZ z u) t.heap ∧ va_K D vwCl (mq_tys cI cL cB cZ) t ∧ va_D (va_A (wd_R a cI cL cB cZ z S) sz) (wd_R a cI cL cB cZ z u)) (va_A (wd_R a cI cL cB cZ z S) sz)) 0 0 (va_A (wd_R a cI cL cB cZ z S) sz) := by
  refine Met.ofW (cc := cX11_world0) (maxL := 2) (ret := (some .boolean)) (by decide) rfl ?_
  intro p e s m args below meth c s₁ B hml hv
  obtain ⟨rfl, hsz, hP, hK, hD0⟩ := hv
  have hr := B.returns
  have hlocks := B.notSynchronized
  have hts := atoms_spec (ws := zc_X11_world0 :: mq_T) B.pre
  have hown : s.vm.findClass RX11 = some m.cls := findClass_of_methodNamed B.named
  subst hsz
  have hD := hD0.self (sz := s.heap.size)
  generalize hAe : va_A (wd_R a cI cL cB cZ z S) s.heap.size = A at hD ⊢
  have hA : ∀ q : Nat, s.heap.size ≤ q → A q := fun q h => by rw [← hAe]; exact Or.inr h
  have hl := lv_entry ([.ref (a 0), .int (v1)]) (n := 2) (Nat.le_of_ble_eq_true rfl)
  rw [lg_entry_eq]
  generalize (lg_sl ([.ref (a 0), .int (v1)]) ++ List.replicate (2 - (lg_sl ([.ref (a 0), .int (v1)])).length) Slot.unset).toArray = ls at hl ⊢
  have hl : lv_has ls 2 [(0, .ref (a 0)), (1, .int (v1))] := hl
  refine zw_X11_world0_0 (A := A) ⟨B.exec, B.bytes, hml, hown, hts, hK, hA⟩ (fun H locs ls pc dg hz hP hD hS => ?_) v1 S s.heap [] ls h hl hP hD va_S.rf
  exact W.zret B.exec B.bytes hr hz (fun t ht hW => ⟨⟨_, _, rfl, ⟨rfl, rfl⟩, by rw [ht]; exact hP, va_K.moved hW.alike hK, hD⟩, hS.F ht⟩) hS.2.2 dg
theorem zt_X11_world0_c : zc_X11_world0 ∈ mq_T := mq_T_mem (mq_t7 (List.mem_of_getElem? (i := 155) rfl)) rfl
theorem zt_X11_world0_i : Cond.instanceMethod yX11_world0 ∈ mq_T := mq_T_mem (mq_t7 (List.mem_of_getElem? (i := 154) rfl)) rfl
theorem zt_X11_world0_s : Cond.selects RX11 yX11_world0 yX11_world0 ∈ mq_T := mq_T_at 103 (by decide +kernel)
set_option maxHeartbeats 4000000 in
theorem zk_X11_world0 {p : Program} {l : Launch} {e : Env} {R : Room} {s : State} {m : MethodId} {args : Array Value} {below : List Frame} {meth : Method} {c : Code} {A : Nat → Prop} {D : va_G} {a z : Nat → Nat} {cI cL cB cZ : ClassId} {Q : State → Prop} {cc : ByteArray} {nL idx pc N : Nat} {own : String} {c1 : Cond} {H : Heap} {locs : List Loc} {ls : Array Slot} {rest : List Value} {S : mq_St} {res : Int32 × mq_St} {v1 : Int32} (C : mq_C p s m args c A D cI cL cB cZ cc nL own c1) (hlk : Cond.methodLink own idx yX11_world0 ∈ mq_T) (hR : zr_X11_world0.frames + 1 ≤ R.frames ∧ 8 + (2 + 11) + zr_X11_world0.locals ≤ R.locals) (h : zf_X11_world0 N z v1 S = some res) (hP : va_P D vwCl (wd_R a cI cL cB cZ z S) H) (hD : va_D A (wd_R a cI cL cB cZ z S)) (hS : va_S A s.heap H locs) (hls : ls.size = nL) (hrest : (rest.map fun v => v.category).sum ≤ 8) (hdg : decode cc pc = .ok (.invokevirtual idx, 3)) (kk : ∀ (H1 : Heap) (locs1 : List Loc), va_P D vwCl (wd_R a cI cL cB cZ z res.2) H1 → va_D A (wd_R a cI cL cB cZ z res.2) → va_S A s.heap H1 locs1 → W p l e R s m args below meth c H1 locs1 0 0 Q (F0 m (pc + 3) ls (.int res.1 :: rest))) : W p l e R s m args below meth c H locs 0 0 Q (F0 m pc ls (.int (v1) :: .ref (a 0) :: rest)) := by
  obtain ⟨hx, hb, hml, hown, hts, hK, hA⟩ := C
  have hFc := mq_freeI hD hS hA
  refine va_calli (va_runV (As := [.int (v1)]) (rest := rest) ⟨hx, hb, hml, hown, hts⟩ (zm_X11_world0 l D a z cI cL cB cZ H.size N v1 S res h) (cwV 1 hts (mq_goodL (mq_wsV hlk zt_X11_world0_i zt_X11_world0_s zt_ini_X11 zt_X11_world0_c)) rfl rfl rfl (by decide +kernel) hR) ⟨fun a U g mk q => ⟨q.1, q.2.1, q.2.2.1, va_K.moved (u := U) (U := U.calling g mk a) (Vm.Alike.refl U.vm) q.2.2.2.1, q.2.2.2.2⟩, zy_R_0 hK hP, fun U hU hW => ⟨rfl, by rw [hU], by rw [hU]; exact hP, va_K.moved hW.alike hK, hD.weaken (fun _ _ _ _ => trivial)⟩⟩ rfl rfl hls rfl (lv_room hrest) hdg ⟨Nat.zero_le _, Nat.zero_le _⟩) hS (fun q _ h => hFc q h) hFc (fun r u t H1 locs ht hvm hw hB hz1 hk1 hS => ?_)
  obtain ⟨rfl, rfl⟩ := hw
  obtain ⟨hP1, hK1, hD1⟩ := hB
  rw [ht] at hP1
  exact kk H1 locs hP1 (hD1.weaken (fun _ _ _ h => hFc _ h)) hS
/-! ModalDeskModel.worlds()I -/
def zr_X11_worlds : Room := { frames := 0, cells := 0, slots := 0, locals := 0 }
def zc_X11_worlds : Cond := .code yX11_worlds cX11_worlds 1 (some .int)
def zf_X11_worlds (N : Nat) (z : Nat → Nat) (S : mq_St) : Option (Int32 × mq_St) := (mq_nS (mq_si S 0 ((0 : Int32))) (fun S1 => (some ((S1.1 31), S1))))
set_option maxHeartbeats 4000000 in
set_option maxRecDepth 100000 in
theorem zw_X11_worlds_0 {p : Program} {l : Launch} {e : Env} {s : State} {m : MethodId} {args : Array Value} {below : List Frame} {meth : Method} {c : Code} {A : Nat → Prop} {D : va_G} {a z : Nat → Nat} {cI cL cB cZ : ClassId} {Q : State → Prop} {N : Nat} {res : Int32 × mq_St} (C : mq_C p s m args c A D cI cL cB cZ cX11_worlds 1 RX11 zc_X11_worlds) (hret : ∀ (H : Heap) (locs : List Loc) (ls : Array Slot) (pc : Nat), decode cX11_worlds pc = .ok (.ireturn, 1) → va_P D vwCl (wd_R a cI cL cB cZ z res.2) H → va_D A (wd_R a cI cL cB cZ z res.2) → va_S A s.heap H locs → W p l e zr_X11_worlds s m args below meth c H locs 0 0 Q (F0 m pc ls [.int res.1])) (S : mq_St) (H : Heap) (locs : List Loc) (ls : Array Slot) (h : zf_X11_worlds N z S = some res) (hl : lv_has ls 1 [(0, .ref (a 0))]) (hP : va_P D vwCl (wd_R a cI cL cB cZ z S) H) (hD : va_D A (wd_R a cI cL cB cZ z S)) (hS : va_S A s.heap H locs) : W p l e zr_X11_worlds s m args below meth c H locs 0 0 Q (F0 m 0 ls []) := by
  obtain ⟨hx, hb, hml, hown, hts, hK, hA⟩ := id C
  unfold zf_X11_worlds at h
  refine lv_aload_n hx hb dX11_worlds_0 rfl (lv_at hl 0 rfl) ?_
  refine lv_iconst (v := (0 : Int32)) hx hb dX11_worlds_1 (by decide) ?_
  refine mq_put (w := wd_R a cI cL cB cZ z) (S := S) (D := D) (ci := 11) (v := (0 : Int32)) (ty := .int) (C := RX11) (T := TX11) (N := 76) hx hb hts (zi_X11 _) tyX11 tyX11_ok nmX11 hown hK hP hD hS 0 rfl rfl 0 (by decide) (hts _ (List.mem_cons_of_mem _ zt_f_X11_151)) (fun _ h9 => h9) rfl (by decide +kernel) rfl rfl (Nat.le_of_ble_eq_true rfl) dX11_worlds_2 0 (zs_wd_R_i_0_0 _ _ _ _ _ _ _ _) (fun S1 eS1 H locs hP hD hS => ?_)
  replace h := mq_nS_go eS1 h
  refine lv_aload_n hx hb dX11_worlds_5 rfl (lv_at hl 0 rfl) ?_
  refine va_get (D := D) (ci := 11) (v := .int ((S1.1 31))) (C := RX11) (T := TX11) (N := 76) hx hb hts (zi_X11 _) hown hK hP 0 rfl rfl 65 (by decide) (hts _ (List.mem_cons_of_mem _ zt_f_X11_375)) (fun _ h9 => h9) rfl dX11_worlds_6 ?_
  cases h
  exact hret H locs ls 9 dX11_worlds_9 hP hD hS
set_option maxHeartbeats 4000000 in
set_option maxRecDepth 100000 in
theorem zm_X11_worlds (l : Launch) (D : va_G) (a z : Nat → Nat) (cI cL cB cZ : ClassId) (sz N : Nat) (S : mq_St) (res : Int32 × mq_St) (h : zf_X11_worlds N z S = some res) : Met l yX11_worlds (zc_X11_worlds :: mq_T) zr_X11_worlds (va_Pc [.ref (a 0)] (fun U => U.heap.size = sz ∧ va_P D vwCl (wd_R a cI cL cB cZ z S) U.heap ∧ va_K D vwCl (mq_tys cI cL cB cZ) U ∧ va_D (fun _ => True) (wd_R a cI cL cB cZ z S))) (va_Qi (fun (r : Int32) (u : mq_St) => r = res.1 ∧ u = res.2) (fun u t => va_P D vwCl (wd_R a cI cL cB cZ z u) t.heap ∧ va_K D vwCl (mq_tys cI cL cB cZ) t ∧ va_D (va_A (wd_R a cI cL cB cZ z S) sz) (wd_R a cI cL cB cZ z u)) (va_A (wd_R a cI cL cB cZ z S) sz)) 0 0 (va_A (wd_R a cI cL cB cZ z S) sz) := by
  refine Met.ofW (cc := cX11_worlds) (maxL := 1) (ret := (some .int)) (by decide) rfl ?_
  intro p e s m args below meth c s₁ B hml hv
  obtain ⟨rfl, hsz, hP, hK, hD0⟩ := hv
  have hr := B.returns
  have hlocks := B.notSynchronized
  have hts := atoms_spec (ws := zc_X11_worlds :: mq_T) B.pre
  have hown : s.vm.findClass RX11 = some m.cls := findClass_of_methodNamed B.named
  subst hsz
  have hD := hD0.self (sz := s.heap.size)
  generalize hAe : va_A (wd_R a cI cL cB cZ z S) s.heap.size = A at hD ⊢
  have hA : ∀ q : Nat, s.heap.size ≤ q → A q := fun q h => by rw [← hAe]; exact Or.inr h
  have hl := lv_entry ([.ref (a 0)]) (n := 1) (Nat.le_of_ble_eq_true rfl)
  rw [lg_entry_eq]
  generalize (lg_sl ([.ref (a 0)]) ++ List.replicate (1 - (lg_sl ([.ref (a 0)])).length) Slot.unset).toArray = ls at hl ⊢
  have hl : lv_has ls 1 [(0, .ref (a 0))] := hl
  refine zw_X11_worlds_0 (A := A) ⟨B.exec, B.bytes, hml, hown, hts, hK, hA⟩ (fun H locs ls pc dg hP hD hS => ?_) S s.heap [] ls h hl hP hD va_S.rf
  exact W.iret B.exec B.bytes hr (fun t ht hW => ⟨⟨_, _, rfl, ⟨rfl, rfl⟩, by rw [ht]; exact hP, va_K.moved hW.alike hK, hD⟩, hS.F ht⟩) hS.2.2 dg
theorem zt_X11_worlds_c : zc_X11_worlds ∈ mq_T := mq_T_mem (mq_t7 (List.mem_of_getElem? (i := 147) rfl)) rfl
theorem zt_X11_worlds_i : Cond.instanceMethod yX11_worlds ∈ mq_T := mq_T_mem (mq_t7 (List.mem_of_getElem? (i := 145) rfl)) rfl
theorem zt_X11_worlds_s : Cond.selects RX11 yX11_worlds yX11_worlds ∈ mq_T := mq_T_mem (mq_t7 (List.mem_of_getElem? (i := 146) rfl)) rfl
theorem zt_m_X11_384 : Cond.methodLink RX11 384 yX11_world0 ∈ mq_T := mq_T_mem (mq_t7 (List.mem_of_getElem? (i := 152) rfl)) rfl
/-! ModalDeskModel.sees(II)Z -/
def zr_X11_sees : Room := { frames := 2, cells := 0, slots := 0, locals := 43 }
def zc_X11_sees : Cond := .code yX11_sees cX11_sees 3 (some .boolean)
def zf_X11_sees (N : Nat) (z : Nat → Nat) (v1 : Int32) (v2 : Int32) (S : mq_St) : Option (Int32 × mq_St) := (mq_cl (zf_X11_world0 N z (v1) S) (fun q1v S3 => (if q1v = (0 : Int32) then (mq_cz ((0 : Int32)) (some ((0 : Int32), S3))) else (mq_cl (zf_X11_world0 N z (v2) S3) (fun q5v S7 => (if q5v = (0 : Int32) then (mq_cz ((0 : Int32)) (some ((0 : Int32), S7))) else (mq_ck ((((60 : Int32) * v1) + v2)) 3600 (if (S7.2.1 35 ((((60 : Int32) * v1) + v2)).toNatClampNeg) = (0 : Int32) then (mq_cz ((0 : Int32)) (some ((0 : Int32), S7))) else (mq_cz ((1 : Int32)) (some ((1 : Int32), S7)))))))))))
set_option maxHeartbeats 4000000 in
set_option maxRecDepth 100000 in
theorem zw_X11_sees_0 {p : Program} {l : Launch} {e : Env} {s : State} {m : MethodId} {args : Array Value} {below : List Frame} {meth : Method} {c : Code} {A : Nat → Prop} {D : va_G} {a z : Nat → Nat} {cI cL cB cZ : ClassId} {Q : State → Prop} {N : Nat} {res : Int32 × mq_St} (C : mq_C p s m args c A D cI cL cB cZ cX11_sees 3 RX11 zc_X11_sees) (hret : ∀ (H : Heap) (locs : List Loc) (ls : Array Slot) (pc : Nat), decode cX11_sees pc = .ok (.ireturn, 1) → narrow .boolean (.int res.1) = .int res.1 → va_P D vwCl (wd_R a cI cL cB cZ z res.2) H → va_D A (wd_R a cI cL cB cZ z res.2) → va_S A s.heap H locs → W p l e zr_X11_sees s m args below meth c H locs 0 0 Q (F0 m pc ls [.int res.1])) (v1 : Int32) (v2 : Int32) (S : mq_St) (H : Heap) (locs : List Loc) (ls : Array Slot) (h : zf_X11_sees N z v1 v2 S = some res) (hl : lv_has ls 3 [(0, .ref (a 0)), (1, .int (v1)), (2, .int (v2))]) (hP : va_P D vwCl (wd_R a cI cL cB cZ z S) H) (hD : va_D A (wd_R a cI cL cB cZ z S)) (hS : va_S A s.heap H locs) : W p l e zr_X11_sees s m args below meth c H locs 0 0 Q (F0 m 0 ls []) := by
  obtain ⟨hx, hb, hml, hown, hts, hK, hA⟩ := id C
  unfold zf_X11_sees at h
  refine lv_aload_n hx hb dX11_sees_0 rfl (lv_at hl 0 rfl) ?_
  refine lv_iload_n hx hb dX11_sees_1 rfl (lv_at hl 1 rfl) ?_
  obtain ⟨q1, hc2, h⟩ := mq_cl_go h
  refine zk_X11_world0 C zt_m_X11_384 ⟨by decide, by decide⟩ hc2 hP hD hS hl.1 (Nat.le_of_ble_eq_true rfl) dX11_sees_2 (fun H locs hP hD hS => ?_)
  obtain ⟨S3, eS3⟩ : ∃ y, y = q1.2 := ⟨_, rfl⟩
  rw [← eS3] at hP hD h
  refine lv_if_eq (tgt := 34) hx hb dX11_sees_5 (by decide) (fun c14 => ?_) (fun c14 => ?_)
  · replace h := mq_it c14 h
    refine lv_iconst (v := (0 : Int32)) hx hb dX11_sees_34 (by decide) ?_
    have hz4 := mq_cz_in h
    replace h := mq_cz_go h
    cases h
    exact hret H locs ls 35 dX11_sees_35 hz4.1 hP hD hS
  · replace h := mq_if c14 h
    refine lv_aload_n hx hb dX11_sees_8 rfl (lv_at hl 0 rfl) ?_
    refine lv_iload_n hx hb dX11_sees_9 rfl (lv_at hl 2 rfl) ?_
    obtain ⟨q5, hc6, h⟩ := mq_cl_go h
    refine zk_X11_world0 C zt_m_X11_384 ⟨by decide, by decide⟩ hc6 hP hD hS hl.1 (Nat.le_of_ble_eq_true rfl) dX11_sees_10 (fun H locs hP hD hS => ?_)
    obtain ⟨S7, eS7⟩ : ∃ y, y = q5.2 := ⟨_, rfl⟩
    rw [← eS7] at hP hD h
    refine lv_if_eq (tgt := 34) hx hb dX11_sees_13 (by decide) (fun c13 => ?_) (fun c13 => ?_)
    · replace h := mq_it c13 h
      refine lv_iconst (v := (0 : Int32)) hx hb dX11_sees_34 (by decide) ?_
      have hz8 := mq_cz_in h
      replace h := mq_cz_go h
      cases h
      exact hret H locs ls 35 dX11_sees_35 hz8.1 hP hD hS
    · replace h := mq_if c13 h
      refine lv_aload_n hx hb dX11_sees_16 rfl (lv_at hl 0 rfl) ?_
      refine va_get (D := D) (ci := 11) (v := .ref (a 36)) (C := RX11) (T := TX11) (N := 76) hx hb hts (zi_X11 _) hown hK hP 0 rfl rfl 67 (by decide) (hts _ (List.mem_cons_of_mem _ zt_f_X11_124)) (fun _ h9 => h9) rfl dX11_sees_17 ?_
      refine lv_bipush (v := (60 : Int32)) hx hb dX11_sees_20 (by decide) ?_
      refine lv_iload_n hx hb dX11_sees_22 rfl (lv_at hl 1 rfl) ?_
      refine lv_imul hx hb dX11_sees_23 ?_
      refine lv_iload_n hx hb dX11_sees_24 rfl (lv_at hl 2 rfl) ?_
      refine lv_iadd hx hb dX11_sees_25 ?_
      have hi9 := mq_ck_in h
      replace h := mq_ck_go h
      refine va_zald (f := S7.2.1 35) hx hb hK hP 36 3 rfl rfl hi9 dX11_sees_26 ?_
      refine lv_if_eq (tgt := 34) hx hb dX11_sees_27 (by decide) (fun c12 => ?_) (fun c12 => ?_)
      · replace h := mq_it c12 h
        refine lv_iconst (v := (0 : Int32)) hx hb dX11_sees_34 (by decide) ?_
        have hz10 := mq_cz_in h
        replace h := mq_cz_go h
        cases h
        exact hret H locs ls 35 dX11_sees_35 hz10.1 hP hD hS
      · replace h := mq_if c12 h
        refine lv_iconst (v := (1 : Int32)) hx hb dX11_sees_30 (by decide) ?_
        refine lv_goto (tgt := 35) hx hb dX11_sees_31 (by decide) ?_
        have hz11 := mq_cz_in h
        replace h := mq_cz_go h
        cases h
        exact hret H locs ls 35 dX11_sees_35 hz11.1 hP hD hS
set_option maxHeartbeats 4000000 in
set_option maxRecDepth 100000 in
theorem zm_X11_sees (l : Launch) (D : va_G) (a z : Nat → Nat) (cI cL cB cZ : ClassId) (sz N : Nat) (v1 : Int32) (v2 : Int32) (S : mq_St) (res : Int32 × mq_St) (h : zf_X11_sees N z v1 v2 S = some res) : Met l yX11_sees (zc_X11_sees :: mq_T) zr_X11_sees (va_Pc [.ref (a 0), .int (v1), .int (v2)] (fun U => U.heap.size = sz ∧ va_P D vwCl (wd_R a cI cL cB cZ z S) U.heap ∧ va_K D vwCl (mq_tys cI cL cB cZ) U ∧ va_D (fun _ => True) (wd_R a cI cL cB cZ z S))) (va_Qi (fun (r : Int32) (u : mq_St) => r = res.1 ∧ u = res.2) (fun u t => va_P D vwCl (wd_R a cI cL cB cZ z u) t.heap ∧ va_K D vwCl (mq_tys cI cL cB cZ) t ∧ va_D (va_A (wd_R a cI cL cB cZ z S) sz) (wd_R a cI cL cB cZ z u)) (va_A (wd_R a cI cL cB cZ z S) sz)) 0 0 (va_A (wd_R a cI cL cB cZ z S) sz) := by
  refine Met.ofW (cc := cX11_sees) (maxL := 3) (ret := (some .boolean)) (by decide) rfl ?_
  intro p e s m args below meth c s₁ B hml hv
  obtain ⟨rfl, hsz, hP, hK, hD0⟩ := hv
  have hr := B.returns
  have hlocks := B.notSynchronized
  have hts := atoms_spec (ws := zc_X11_sees :: mq_T) B.pre
  have hown : s.vm.findClass RX11 = some m.cls := findClass_of_methodNamed B.named
  subst hsz
  have hD := hD0.self (sz := s.heap.size)
  generalize hAe : va_A (wd_R a cI cL cB cZ z S) s.heap.size = A at hD ⊢
  have hA : ∀ q : Nat, s.heap.size ≤ q → A q := fun q h => by rw [← hAe]; exact Or.inr h
  have hl := lv_entry ([.ref (a 0), .int (v1), .int (v2)]) (n := 3) (Nat.le_of_ble_eq_true rfl)
  rw [lg_entry_eq]
  generalize (lg_sl ([.ref (a 0), .int (v1), .int (v2)]) ++ List.replicate (3 - (lg_sl ([.ref (a 0), .int (v1), .int (v2)])).length) Slot.unset).toArray = ls at hl ⊢
  have hl : lv_has ls 3 [(0, .ref (a 0)), (1, .int (v1)), (2, .int (v2))] := hl
  refine zw_X11_sees_0 (A := A) ⟨B.exec, B.bytes, hml, hown, hts, hK, hA⟩ (fun H locs ls pc dg hz hP hD hS => ?_) v1 v2 S s.heap [] ls h hl hP hD va_S.rf
  exact W.zret B.exec B.bytes hr hz (fun t ht hW => ⟨⟨_, _, rfl, ⟨rfl, rfl⟩, by rw [ht]; exact hP, va_K.moved hW.alike hK, hD⟩, hS.F ht⟩) hS.2.2 dg
theorem zt_X11_sees_c : zc_X11_sees ∈ mq_T := mq_T_mem (mq_t7 (List.mem_of_getElem? (i := 151) rfl)) rfl
theorem zt_X11_sees_i : Cond.instanceMethod yX11_sees ∈ mq_T := mq_T_mem (mq_t7 (List.mem_of_getElem? (i := 149) rfl)) rfl
theorem zt_X11_sees_s : Cond.selects RX11 yX11_sees yX11_sees ∈ mq_T := mq_T_mem (mq_t7 (List.mem_of_getElem? (i := 150) rfl)) rfl
theorem zt_f_X11_133 : Cond.fieldLink RX11 133 "ModalDeskModel" "truth" "[Z" ∈ mq_T := mq_T_mem (mq_t5 (List.mem_of_getElem? (i := 235) rfl)) rfl
/-! ModalDeskModel.isTrue(II)Z -/
def zr_X11_isTrue : Room := { frames := 0, cells := 0, slots := 0, locals := 0 }
def zc_X11_isTrue : Cond := .code yX11_isTrue cX11_isTrue 6 (some .boolean)
def zf_X11_isTrue_182 (N : Nat) (z : Nat → Nat) (S : mq_St) : Option (Int32) := (mq_cz ((1 : Int32)) (some ((1 : Int32))))
def zf_X11_isTrue_264 (N : Nat) (z : Nat → Nat) (S : mq_St) (k209 : Int32 → Int32 → Int32 → Int32 → Int32 → Option (Int32)) (v1 : Int32) (v2 : Int32) (v4 : Int32) (v5 : Int32) (t0 : Int32) : Option (Int32) := (mq_nI (t0) (fun x51 => (mq_nI (v5 + (1 : Int32)) (fun x52 => (k209 (v1) (v2) (x51) (v4) (x52))))))
def zf_X11_isTrue_259 (N : Nat) (z : Nat → Nat) (S : mq_St) (k209 : Int32 → Int32 → Int32 → Int32 → Int32 → Option (Int32)) (v1 : Int32) (v2 : Int32) (v4 : Int32) (v5 : Int32) : Option (Int32) := (zf_X11_isTrue_264 N z S k209 (v1) (v2) (v4) (v5) ((1 : Int32)))
def zf_X11_isTrue_263 (N : Nat) (z : Nat → Nat) (S : mq_St) (k209 : Int32 → Int32 → Int32 → Int32 → Int32 → Option (Int32)) (v1 : Int32) (v2 : Int32) (v4 : Int32) (v5 : Int32) : Option (Int32) := (zf_X11_isTrue_264 N z S k209 (v1) (v2) (v4) (v5) ((0 : Int32)))
def zf_X11_isTrue_209b (N : Nat) (z : Nat → Nat) (S : mq_St) (k209 : Int32 → Int32 → Int32 → Int32 → Int32 → Option (Int32)) (v1 : Int32) (v2 : Int32) (v3 : Int32) (v4 : Int32) (v5 : Int32) : Option (Int32) := (if (S.1 31) ≤ v5 then (if v3 = v4 then (mq_cz ((0 : Int32)) (some ((0 : Int32)))) else (mq_cz ((1 : Int32)) (some ((1 : Int32))))) else (if v3 = (0 : Int32) then (mq_ck ((((60 : Int32) * v2) + v5)) 3600 (if (S.2.1 35 ((((60 : Int32) * v2) + v5)).toNatClampNeg) = (0 : Int32) then (zf_X11_isTrue_263 N z S k209 (v1) (v2) (v4) (v5)) else (mq_ck (v1) 300 (mq_ck ((((60 : Int32) * (S.2.1 3 (v1).toNatClampNeg)) + v5)) 18000 (if (S.2.1 38 ((((60 : Int32) * (S.2.1 3 (v1).toNatClampNeg)) + v5)).toNatClampNeg) = v4 then (zf_X11_isTrue_263 N z S k209 (v1) (v2) (v4) (v5)) else (zf_X11_isTrue_259 N z S k209 (v1) (v2) (v4) (v5))))))) else (zf_X11_isTrue_259 N z S k209 (v1) (v2) (v4) (v5))))
def zf_X11_isTrue_209 (N : Nat) (z : Nat → Nat) (S : mq_St) : Nat → Int32 → Int32 → Int32 → Int32 → Int32 → Option (Int32)
  | 0, _, _, _, _, _ => none
  | n + 1, v1, v2, v3, v4, v5 => zf_X11_isTrue_209b N z S (fun v1 v2 v3 v4 v5 => zf_X11_isTrue_209 N z S n v1 v2 v3 v4 v5) v1 v2 v3 v4 v5
def zf_X11_isTrue_204 (N : Nat) (z : Nat → Nat) (S : mq_St) (v1 : Int32) (v2 : Int32) (v3 : Int32) (t0 : Int32) : Option (Int32) := (mq_nI (t0) (fun x39 => (mq_nI ((0 : Int32)) (fun x40 => (zf_X11_isTrue_209 N z S N (v1) (v2) (v3) (x39) (x40))))))
def zf_X11_isTrue (N : Nat) (z : Nat → Nat) (v1 : Int32) (v2 : Int32) (S : mq_St) : Option (Int32) := (mq_nI ((0 : Int32)) (fun x1 => (mq_ck (v1) 300 (if (S.2.1 2 (v1).toNatClampNeg) = 0 then (mq_cz ((1 : Int32)) (some ((1 : Int32)))) else (if (S.2.1 2 (v1).toNatClampNeg) = 1 then (mq_cz ((0 : Int32)) (some ((0 : Int32)))) else (if (S.2.1 2 (v1).toNatClampNeg) = 2 then (mq_ck (v2) 60 (mq_ck (v1) 300 (if (((S.2.1 34 (v2).toNatClampNeg) >>> ((S.2.1 3 (v1).toNatClampNeg) &&& (31 : Int32))) &&& (1 : Int32)) = (0 : Int32) then (mq_cz ((0 : Int32)) (some ((0 : Int32)))) else (mq_cz ((1 : Int32)) (some ((1 : Int32))))))) else (if (S.2.1 2 (v1).toNatClampNeg) = 3 then (mq_ck (v2) 60 (mq_ck (v1) 300 (if (((S.2.1 34 (v2).toNatClampNeg) >>> ((S.2.1 3 (v1).toNatClampNeg) &&& (31 : Int32))) &&& (1 : Int32)) = (0 : Int32) then (mq_cz ((1 : Int32)) (some ((1 : Int32)))) else (mq_cz ((0 : Int32)) (some ((0 : Int32))))))) else (if (S.2.1 2 (v1).toNatClampNeg) = 4 then (mq_ck (v1) 300 (mq_ck ((((60 : Int32) * (S.2.1 3 (v1).toNatClampNeg)) + v2)) 18000 (if (S.2.1 38 ((((60 : Int32) * (S.2.1 3 (v1).toNatClampNeg)) + v2)).toNatClampNeg) = (0 : Int32) then (mq_cz ((0 : Int32)) (some ((0 : Int32)))) else (mq_ck (v1) 300 (mq_ck ((((60 : Int32) * (S.2.1 4 (v1).toNatClampNeg)) + v2)) 18000 (if (S.2.1 38 ((((60 : Int32) * (S.2.1 4 (v1).toNatClampNeg)) + v2)).toNatClampNeg) = (0 : Int32) then (mq_cz ((0 : Int32)) (some ((0 : Int32)))) else (mq_cz ((1 : Int32)) (some ((1 : Int32)))))))))) else (if (S.2.1 2 (v1).toNatClampNeg) = 5 then (mq_ck (v1) 300 (mq_ck ((((60 : Int32) * (S.2.1 3 (v1).toNatClampNeg)) + v2)) 18000 (if (S.2.1 38 ((((60 : Int32) * (S.2.1 3 (v1).toNatClampNeg)) + v2)).toNatClampNeg) = (0 : Int32) then (mq_ck (v1) 300 (mq_ck ((((60 : Int32) * (S.2.1 4 (v1).toNatClampNeg)) + v2)) 18000 (if (S.2.1 38 ((((60 : Int32) * (S.2.1 4 (v1).toNatClampNeg)) + v2)).toNatClampNeg) = (0 : Int32) then (mq_cz ((0 : Int32)) (some ((0 : Int32)))) else (zf_X11_isTrue_182 N z S)))) else (zf_X11_isTrue_182 N z S)))) else (mq_ck (v1) 300 (if (S.2.1 2 (v1).toNatClampNeg) = (6 : Int32) then (zf_X11_isTrue_204 N z S (v1) (v2) (x1) ((1 : Int32))) else (zf_X11_isTrue_204 N z S (v1) (v2) (x1) ((0 : Int32))))))))))))))
set_option maxHeartbeats 4000000 in
set_option maxRecDepth 100000 in
theorem zw_X11_isTrue_182 {p : Program} {l : Launch} {e : Env} {s : State} {m : MethodId} {args : Array Value} {below : List Frame} {meth : Method} {c : Code} {A : Nat → Prop} {D : va_G} {a z : Nat → Nat} {cI cL cB cZ : ClassId} {Q : State → Prop} {N : Nat} {S : mq_St} {res : Int32} (C : mq_C p s m args c A D cI cL cB cZ cX11_isTrue 6 RX11 zc_X11_isTrue) (hret : ∀ (H : Heap) (locs : List Loc) (ls : Array Slot) (pc : Nat), decode cX11_isTrue pc = .ok (.ireturn, 1) → narrow .boolean (.int res) = .int res → va_P D vwCl (wd_R a cI cL cB cZ z S) H → va_D A (wd_R a cI cL cB cZ z S) → va_S A s.heap H locs → W p l e zr_X11_isTrue s m args below meth c H locs 0 0 Q (F0 m pc ls [.int res])) (H : Heap) (locs : List Loc) (ls : Array Slot) (h : zf_X11_isTrue_182 N z S = some res) (hl : lv_has ls 6 []) (hP : va_P D vwCl (wd_R a cI cL cB cZ z S) H) (hD : va_D A (wd_R a cI cL cB cZ z S)) (hS : va_S A s.heap H locs) : W p l e zr_X11_isTrue s m args below meth c H locs 0 0 Q (F0 m 182 ls []) := by
  obtain ⟨hx, hb, hml, hown, hts, hK, hA⟩ := id C
  unfold zf_X11_isTrue_182 at h
  refine lv_iconst (v := (1 : Int32)) hx hb dX11_isTrue_182 (by decide) ?_
  refine lv_goto (tgt := 187) hx hb dX11_isTrue_183 (by decide) ?_
  have hz53 := mq_cz_in h
  replace h := mq_cz_go h
  cases h
  exact hret H locs ls 187 dX11_isTrue_187 hz53.1 hP hD hS
set_option maxHeartbeats 4000000 in
set_option maxRecDepth 100000 in
theorem zw_X11_isTrue_264 {p : Program} {l : Launch} {e : Env} {s : State} {m : MethodId} {args : Array Value} {below : List Frame} {meth : Method} {c : Code} {A : Nat → Prop} {D : va_G} {a z : Nat → Nat} {cI cL cB cZ : ClassId} {Q : State → Prop} {N : Nat} {S : mq_St} {res : Int32} {k209 : Int32 → Int32 → Int32 → Int32 → Int32 → Option (Int32)} (C : mq_C p s m args c A D cI cL cB cZ cX11_isTrue 6 RX11 zc_X11_isTrue) (hret : ∀ (H : Heap) (locs : List Loc) (ls : Array Slot) (pc : Nat), decode cX11_isTrue pc = .ok (.ireturn, 1) → narrow .boolean (.int res) = .int res → va_P D vwCl (wd_R a cI cL cB cZ z S) H → va_D A (wd_R a cI cL cB cZ z S) → va_S A s.heap H locs → W p l e zr_X11_isTrue s m args below meth c H locs 0 0 Q (F0 m pc ls [.int res])) (hk209 : ∀ (v1 : Int32) (v2 : Int32) (v3 : Int32) (v4 : Int32) (v5 : Int32) (H : Heap) (locs : List Loc) (ls : Array Slot), k209 v1 v2 v3 v4 v5 = some res → lv_has ls 6 [(0, .ref (a 0)), (1, .int (v1)), (2, .int (v2)), (3, .int (v3)), (4, .int (v4)), (5, .int (v5))] → va_P D vwCl (wd_R a cI cL cB cZ z S) H → va_D A (wd_R a cI cL cB cZ z S) → va_S A s.heap H locs → W p l e zr_X11_isTrue s m args below meth c H locs 0 0 Q (F0 m 209 ls [])) (v1 : Int32) (v2 : Int32) (v4 : Int32) (v5 : Int32) (t0 : Int32) (H : Heap) (locs : List Loc) (ls : Array Slot) (h : zf_X11_isTrue_264 N z S k209 v1 v2 v4 v5 t0 = some res) (hl : lv_has ls 6 [(0, .ref (a 0)), (1, .int (v1)), (2, .int (v2)), (4, .int (v4)), (5, .int (v5))]) (hP : va_P D vwCl (wd_R a cI cL cB cZ z S) H) (hD : va_D A (wd_R a cI cL cB cZ z S)) (hS : va_S A s.heap H locs) : W p l e zr_X11_isTrue s m args below meth c H locs 0 0 Q (F0 m 264 ls [.int (t0)]) := by
  obtain ⟨hx, hb, hml, hown, hts, hK, hA⟩ := id C
  unfold zf_X11_isTrue_264 at h
  refine lv_topi (fun x51 ex51 => ?_)
  replace h := mq_nI_go ex51 h
  refine lv_istore_n (lv' := [(3, .int (x51)), (0, .ref (a 0)), (1, .int (v1)), (2, .int (v2)), (4, .int (v4)), (5, .int (v5))]) hx hb dX11_isTrue_264 rfl hl (by decide) rfl (fun ls hl => ?_)
  obtain ⟨x52, ex52⟩ : ∃ y : Int32, y = v5 + (1 : Int32) := ⟨_, rfl⟩
  replace h := mq_nI_go ex52 h
  refine lv_iinc (v := x52) (lv' := [(5, .int (x52)), (3, .int (x51)), (0, .ref (a 0)), (1, .int (v1)), (2, .int (v2)), (4, .int (v4))]) hx hb dX11_isTrue_265 hl (k := 5) rfl (by rw [ex52]; rfl) (by decide) rfl (fun ls hl => ?_)
  refine lv_goto (tgt := 209) hx hb dX11_isTrue_268 (by decide) ?_
  exact hk209 (v1) (v2) (x51) (v4) (x52) H locs ls h (lv_sub hl [2, 3, 4, 1, 5, 0] rfl) hP hD hS
set_option maxHeartbeats 4000000 in
set_option maxRecDepth 100000 in
theorem zw_X11_isTrue_259 {p : Program} {l : Launch} {e : Env} {s : State} {m : MethodId} {args : Array Value} {below : List Frame} {meth : Method} {c : Code} {A : Nat → Prop} {D : va_G} {a z : Nat → Nat} {cI cL cB cZ : ClassId} {Q : State → Prop} {N : Nat} {S : mq_St} {res : Int32} {k209 : Int32 → Int32 → Int32 → Int32 → Int32 → Option (Int32)} (C : mq_C p s m args c A D cI cL cB cZ cX11_isTrue 6 RX11 zc_X11_isTrue) (hret : ∀ (H : Heap) (locs : List Loc) (ls : Array Slot) (pc : Nat), decode cX11_isTrue pc = .ok (.ireturn, 1) → narrow .boolean (.int res) = .int res → va_P D vwCl (wd_R a cI cL cB cZ z S) H → va_D A (wd_R a cI cL cB cZ z S) → va_S A s.heap H locs → W p l e zr_X11_isTrue s m args below meth c H locs 0 0 Q (F0 m pc ls [.int res])) (hk209 : ∀ (v1 : Int32) (v2 : Int32) (v3 : Int32) (v4 : Int32) (v5 : Int32) (H : Heap) (locs : List Loc) (ls : Array Slot), k209 v1 v2 v3 v4 v5 = some res → lv_has ls 6 [(0, .ref (a 0)), (1, .int (v1)), (2, .int (v2)), (3, .int (v3)), (4, .int (v4)), (5, .int (v5))] → va_P D vwCl (wd_R a cI cL cB cZ z S) H → va_D A (wd_R a cI cL cB cZ z S) → va_S A s.heap H locs → W p l e zr_X11_isTrue s m args below meth c H locs 0 0 Q (F0 m 209 ls [])) (v1 : Int32) (v2 : Int32) (v4 : Int32) (v5 : Int32) (H : Heap) (locs : List Loc) (ls : Array Slot) (h : zf_X11_isTrue_259 N z S k209 v1 v2 v4 v5 = some res) (hl : lv_has ls 6 [(0, .ref (a 0)), (1, .int (v1)), (2, .int (v2)), (4, .int (v4)), (5, .int (v5))]) (hP : va_P D vwCl (wd_R a cI cL cB cZ z S) H) (hD : va_D A (wd_R a cI cL cB cZ z S)) (hS : va_S A s.heap H locs) : W p l e zr_X11_isTrue s m args below meth c H locs 0 0 Q (F0 m 259 ls []) := by
  obtain ⟨hx, hb, hml, hown, hts, hK, hA⟩ := id C
  unfold zf_X11_isTrue_259 at h
  refine lv_iconst (v := (1 : Int32)) hx hb dX11_isTrue_259 (by decide) ?_
  refine lv_goto (tgt := 264) hx hb dX11_isTrue_260 (by decide) ?_
  exact zw_X11_isTrue_264 C hret hk209 (v1) (v2) (v4) (v5) ((1 : Int32)) H locs ls h (lv_sub hl [0, 1, 2, 3, 4] rfl) hP hD hS
set_option maxHeartbeats 4000000 in
set_option maxRecDepth 100000 in
theorem zw_X11_isTrue_263 {p : Program} {l : Launch} {e : Env} {s : State} {m : MethodId} {args : Array Value} {below : List Frame} {meth : Method} {c : Code} {A : Nat → Prop} {D : va_G} {a z : Nat → Nat} {cI cL cB cZ : ClassId} {Q : State → Prop} {N : Nat} {S : mq_St} {res : Int32} {k209 : Int32 → Int32 → Int32 → Int32 → Int32 → Option (Int32)} (C : mq_C p s m args c A D cI cL cB cZ cX11_isTrue 6 RX11 zc_X11_isTrue) (hret : ∀ (H : Heap) (locs : List Loc) (ls : Array Slot) (pc : Nat), decode cX11_isTrue pc = .ok (.ireturn, 1) → narrow .boolean (.int res) = .int res → va_P D vwCl (wd_R a cI cL cB cZ z S) H → va_D A (wd_R a cI cL cB cZ z S) → va_S A s.heap H locs → W p l e zr_X11_isTrue s m args below meth c H locs 0 0 Q (F0 m pc ls [.int res])) (hk209 : ∀ (v1 : Int32) (v2 : Int32) (v3 : Int32) (v4 : Int32) (v5 : Int32) (H : Heap) (locs : List Loc) (ls : Array Slot), k209 v1 v2 v3 v4 v5 = some res → lv_has ls 6 [(0, .ref (a 0)), (1, .int (v1)), (2, .int (v2)), (3, .int (v3)), (4, .int (v4)), (5, .int (v5))] → va_P D vwCl (wd_R a cI cL cB cZ z S) H → va_D A (wd_R a cI cL cB cZ z S) → va_S A s.heap H locs → W p l e zr_X11_isTrue s m args below meth c H locs 0 0 Q (F0 m 209 ls [])) (v1 : Int32) (v2 : Int32) (v4 : Int32) (v5 : Int32) (H : Heap) (locs : List Loc) (ls : Array Slot) (h : zf_X11_isTrue_263 N z S k209 v1 v2 v4 v5 = some res) (hl : lv_has ls 6 [(0, .ref (a 0)), (1, .int (v1)), (2, .int (v2)), (4, .int (v4)), (5, .int (v5))]) (hP : va_P D vwCl (wd_R a cI cL cB cZ z S) H) (hD : va_D A (wd_R a cI cL cB cZ z S)) (hS : va_S A s.heap H locs) : W p l e zr_X11_isTrue s m args below meth c H locs 0 0 Q (F0 m 263 ls []) := by
  obtain ⟨hx, hb, hml, hown, hts, hK, hA⟩ := id C
  unfold zf_X11_isTrue_263 at h
  refine lv_iconst (v := (0 : Int32)) hx hb dX11_isTrue_263 (by decide) ?_
  exact zw_X11_isTrue_264 C hret hk209 (v1) (v2) (v4) (v5) ((0 : Int32)) H locs ls h (lv_sub hl [0, 1, 2, 3, 4] rfl) hP hD hS
set_option maxHeartbeats 4000000 in
set_option maxRecDepth 100000 in
theorem zw_X11_isTrue_209b {p : Program} {l : Launch} {e : Env} {s : State} {m : MethodId} {args : Array Value} {below : List Frame} {meth : Method} {c : Code} {A : Nat → Prop} {D : va_G} {a z : Nat → Nat} {cI cL cB cZ : ClassId} {Q : State → Prop} {N : Nat} {S : mq_St} {res : Int32} {k209 : Int32 → Int32 → Int32 → Int32 → Int32 → Option (Int32)} (C : mq_C p s m args c A D cI cL cB cZ cX11_isTrue 6 RX11 zc_X11_isTrue) (hret : ∀ (H : Heap) (locs : List Loc) (ls : Array Slot) (pc : Nat), decode cX11_isTrue pc = .ok (.ireturn, 1) → narrow .boolean (.int res) = .int res → va_P D vwCl (wd_R a cI cL cB cZ z S) H → va_D A (wd_R a cI cL cB cZ z S) → va_S A s.heap H locs → W p l e zr_X11_isTrue s m args below meth c H locs 0 0 Q (F0 m pc ls [.int res])) (hk209 : ∀ (v1 : Int32) (v2 : Int32) (v3 : Int32) (v4 : Int32) (v5 : Int32) (H : Heap) (locs : List Loc) (ls : Array Slot), k209 v1 v2 v3 v4 v5 = some res → lv_has ls 6 [(0, .ref (a 0)), (1, .int (v1)), (2, .int (v2)), (3, .int (v3)), (4, .int (v4)), (5, .int (v5))] → va_P D vwCl (wd_R a cI cL cB cZ z S) H → va_D A (wd_R a cI cL cB cZ z S) → va_S A s.heap H locs → W p l e zr_X11_isTrue s m args below meth c H locs 0 0 Q (F0 m 209 ls [])) (v1 : Int32) (v2 : Int32) (v3 : Int32) (v4 : Int32) (v5 : Int32) (H : Heap) (locs : List Loc) (ls : Array Slot) (h : zf_X11_isTrue_209b N z S k209 v1 v2 v3 v4 v5 = some res) (hl : lv_has ls 6 [(0, .ref (a 0)), (1, .int (v1)), (2, .int (v2)), (3, .int (v3)), (4, .int (v4)), (5, .int (v5))]) (hP : va_P D vwCl (wd_R a cI cL cB cZ z S) H) (hD : va_D A (wd_R a cI cL cB cZ z S)) (hS : va_S A s.heap H locs) : W p l e zr_X11_isTrue s m args below meth c H locs 0 0 Q (F0 m 209 ls []) := by
  obtain ⟨hx, hb, hml, hown, hts, hK, hA⟩ := id C
  unfold zf_X11_isTrue_209b at h
  refine lv_iload hx hb dX11_isTrue_209 (lv_at hl 5 rfl) ?_
  refine lv_aload_n hx hb dX11_isTrue_211 rfl (lv_at hl 0 rfl) ?_
  refine va_get (D := D) (ci := 11) (v := .int ((S.1 31))) (C := RX11) (T := TX11) (N := 76) hx hb hts (zi_X11 _) hown hK hP 0 rfl rfl 65 (by decide) (hts _ (List.mem_cons_of_mem _ zt_f_X11_375)) (fun _ h9 => h9) rfl dX11_isTrue_212 ?_
  refine lv_icmp_ge (tgt := 271) hx hb dX11_isTrue_215 (by decide) (fun c50 => ?_) (fun c50 => ?_)
  · replace h := mq_it c50 h
    refine lv_iload_n hx hb dX11_isTrue_271 rfl (lv_at hl 3 rfl) ?_
    refine lv_iload hx hb dX11_isTrue_272 (lv_at hl 4 rfl) ?_
    refine lv_icmp_eq (tgt := 281) hx hb dX11_isTrue_274 (by decide) (fun c43 => ?_) (fun c43 => ?_)
    · replace h := mq_it c43 h
      refine lv_iconst (v := (0 : Int32)) hx hb dX11_isTrue_281 (by decide) ?_
      have hz41 := mq_cz_in h
      replace h := mq_cz_go h
      cases h
      exact hret H locs ls 282 dX11_isTrue_282 hz41.1 hP hD hS
    · replace h := mq_if c43 h
      refine lv_iconst (v := (1 : Int32)) hx hb dX11_isTrue_277 (by decide) ?_
      refine lv_goto (tgt := 282) hx hb dX11_isTrue_278 (by decide) ?_
      have hz42 := mq_cz_in h
      replace h := mq_cz_go h
      cases h
      exact hret H locs ls 282 dX11_isTrue_282 hz42.1 hP hD hS
  · replace h := mq_if c50 h
    refine lv_iload_n hx hb dX11_isTrue_218 rfl (lv_at hl 3 rfl) ?_
    refine lv_if_ne (tgt := 259) hx hb dX11_isTrue_219 (by decide) (fun c49 => ?_) (fun c49 => ?_)
    · replace h := mq_if c49 h
      exact zw_X11_isTrue_259 C hret hk209 (v1) (v2) (v4) (v5) H locs ls h (lv_sub hl [0, 1, 2, 4, 5] rfl) hP hD hS
    · replace h := mq_it (by simpa using c49) h
      refine lv_aload_n hx hb dX11_isTrue_222 rfl (lv_at hl 0 rfl) ?_
      refine va_get (D := D) (ci := 11) (v := .ref (a 36)) (C := RX11) (T := TX11) (N := 76) hx hb hts (zi_X11 _) hown hK hP 0 rfl rfl 67 (by decide) (hts _ (List.mem_cons_of_mem _ zt_f_X11_124)) (fun _ h9 => h9) rfl dX11_isTrue_223 ?_
      refine lv_bipush (v := (60 : Int32)) hx hb dX11_isTrue_226 (by decide) ?_
      refine lv_iload_n hx hb dX11_isTrue_228 rfl (lv_at hl 2 rfl) ?_
      refine lv_imul hx hb dX11_isTrue_229 ?_
      refine lv_iload hx hb dX11_isTrue_230 (lv_at hl 5 rfl) ?_
      refine lv_iadd hx hb dX11_isTrue_232 ?_
      have hi44 := mq_ck_in h
      replace h := mq_ck_go h
      refine va_zald (f := S.2.1 35) hx hb hK hP 36 3 rfl rfl hi44 dX11_isTrue_233 ?_
      refine lv_if_eq (tgt := 263) hx hb dX11_isTrue_234 (by decide) (fun c48 => ?_) (fun c48 => ?_)
      · replace h := mq_it c48 h
        exact zw_X11_isTrue_263 C hret hk209 (v1) (v2) (v4) (v5) H locs ls h (lv_sub hl [0, 1, 2, 4, 5] rfl) hP hD hS
      · replace h := mq_if c48 h
        refine lv_aload_n hx hb dX11_isTrue_237 rfl (lv_at hl 0 rfl) ?_
        refine va_get (D := D) (ci := 11) (v := .ref (a 39)) (C := RX11) (T := TX11) (N := 76) hx hb hts (zi_X11 _) hown hK hP 0 rfl rfl 70 (by decide) (hts _ (List.mem_cons_of_mem _ zt_f_X11_133)) (fun _ h9 => h9) rfl dX11_isTrue_238 ?_
        refine lv_bipush (v := (60 : Int32)) hx hb dX11_isTrue_241 (by decide) ?_
        refine lv_aload_n hx hb dX11_isTrue_243 rfl (lv_at hl 0 rfl) ?_
        refine va_get (D := D) (ci := 11) (v := .ref (a 4)) (C := RX11) (T := TX11) (N := 76) hx hb hts (zi_X11 _) hown hK hP 0 rfl rfl 6 (by decide) (hts _ (List.mem_cons_of_mem _ zt_f_X11_20)) (fun _ h9 => h9) rfl dX11_isTrue_244 ?_
        refine lv_iload_n hx hb dX11_isTrue_247 rfl (lv_at hl 1 rfl) ?_
        have hi45 := mq_ck_in h
        replace h := mq_ck_go h
        refine va_iald (f := S.2.1 3) hx hb hK hP 4 0 rfl rfl hi45 dX11_isTrue_248 ?_
        refine lv_imul hx hb dX11_isTrue_249 ?_
        refine lv_iload hx hb dX11_isTrue_250 (lv_at hl 5 rfl) ?_
        refine lv_iadd hx hb dX11_isTrue_252 ?_
        have hi46 := mq_ck_in h
        replace h := mq_ck_go h
        refine va_zald (f := S.2.1 38) hx hb hK hP 39 3 rfl rfl hi46 dX11_isTrue_253 ?_
        refine lv_iload hx hb dX11_isTrue_254 (lv_at hl 4 rfl) ?_
        refine lv_icmp_eq (tgt := 263) hx hb dX11_isTrue_256 (by decide) (fun c47 => ?_) (fun c47 => ?_)
        · replace h := mq_it c47 h
          exact zw_X11_isTrue_263 C hret hk209 (v1) (v2) (v4) (v5) H locs ls h (lv_sub hl [0, 1, 2, 4, 5] rfl) hP hD hS
        · replace h := mq_if c47 h
          exact zw_X11_isTrue_259 C hret hk209 (v1) (v2) (v4) (v5) H locs ls h (lv_sub hl [0, 1, 2, 4, 5] rfl) hP hD hS
set_option maxHeartbeats 4000000 in
set_option maxRecDepth 100000 in
theorem zw_X11_isTrue_209 {p : Program} {l : Launch} {e : Env} {s : State} {m : MethodId} {args : Array Value} {below : List Frame} {meth : Method} {c : Code} {A : Nat → Prop} {D : va_G} {a z : Nat → Nat} {cI cL cB cZ : ClassId} {Q : State → Prop} {N : Nat} {S : mq_St} {res : Int32} (C : mq_C p s m args c A D cI cL cB cZ cX11_isTrue 6 RX11 zc_X11_isTrue) (hret : ∀ (H : Heap) (locs : List Loc) (ls : Array Slot) (pc : Nat), decode cX11_isTrue pc = .ok (.ireturn, 1) → narrow .boolean (.int res) = .int res → va_P D vwCl (wd_R a cI cL cB cZ z S) H → va_D A (wd_R a cI cL cB cZ z S) → va_S A s.heap H locs → W p l e zr_X11_isTrue s m args below meth c H locs 0 0 Q (F0 m pc ls [.int res])) : ∀ (n : Nat) (v1 : Int32) (v2 : Int32) (v3 : Int32) (v4 : Int32) (v5 : Int32) (H : Heap) (locs : List Loc) (ls : Array Slot) (h : zf_X11_isTrue_209 N z S n v1 v2 v3 v4 v5 = some res) (hl : lv_has ls 6 [(0, .ref (a 0)), (1, .int (v1)), (2, .int (v2)), (3, .int (v3)), (4, .int (v4)), (5, .int (v5))]) (hP : va_P D vwCl (wd_R a cI cL cB cZ z S) H) (hD : va_D A (wd_R a cI cL cB cZ z S)) (hS : va_S A s.heap H locs), W p l e zr_X11_isTrue s m args below meth c H locs 0 0 Q (F0 m 209 ls []) := by
  intro n
  induction n with
  | zero =>
    intro v1 v2 v3 v4 v5 H locs ls h hl hP hD hS
    exact nomatch (show (none : Option (Int32)) = some res from h)
  | succ n ih =>
    intro v1 v2 v3 v4 v5 H locs ls h hl hP hD hS
    exact zw_X11_isTrue_209b C hret (fun v1 v2 v3 v4 v5 H locs ls h hl hP hD hS => ih v1 v2 v3 v4 v5 H locs ls h hl hP hD hS) v1 v2 v3 v4 v5 H locs ls h hl hP hD hS
set_option maxHeartbeats 4000000 in
set_option maxRecDepth 100000 in
theorem zw_X11_isTrue_204 {p : Program} {l : Launch} {e : Env} {s : State} {m : MethodId} {args : Array Value} {below : List Frame} {meth : Method} {c : Code} {A : Nat → Prop} {D : va_G} {a z : Nat → Nat} {cI cL cB cZ : ClassId} {Q : State → Prop} {N : Nat} {S : mq_St} {res : Int32} (C : mq_C p s m args c A D cI cL cB cZ cX11_isTrue 6 RX11 zc_X11_isTrue) (hret : ∀ (H : Heap) (locs : List Loc) (ls : Array Slot) (pc : Nat), decode cX11_isTrue pc = .ok (.ireturn, 1) → narrow .boolean (.int res) = .int res → va_P D vwCl (wd_R a cI cL cB cZ z S) H → va_D A (wd_R a cI cL cB cZ z S) → va_S A s.heap H locs → W p l e zr_X11_isTrue s m args below meth c H locs 0 0 Q (F0 m pc ls [.int res])) (v1 : Int32) (v2 : Int32) (v3 : Int32) (t0 : Int32) (H : Heap) (locs : List Loc) (ls : Array Slot) (h : zf_X11_isTrue_204 N z S v1 v2 v3 t0 = some res) (hl : lv_has ls 6 [(0, .ref (a 0)), (1, .int (v1)), (2, .int (v2)), (3, .int (v3))]) (hP : va_P D vwCl (wd_R a cI cL cB cZ z S) H) (hD : va_D A (wd_R a cI cL cB cZ z S)) (hS : va_S A s.heap H locs) : W p l e zr_X11_isTrue s m args below meth c H locs 0 0 Q (F0 m 204 ls [.int (t0)]) := by
  obtain ⟨hx, hb, hml, hown, hts, hK, hA⟩ := id C
  unfold zf_X11_isTrue_204 at h
  refine lv_topi (fun x39 ex39 => ?_)
  replace h := mq_nI_go ex39 h
  refine lv_istore (lv' := [(4, .int (x39)), (0, .ref (a 0)), (1, .int (v1)), (2, .int (v2)), (3, .int (v3))]) hx hb dX11_isTrue_204 hl (by decide) rfl (fun ls hl => ?_)
  refine lv_iconst (v := (0 : Int32)) hx hb dX11_isTrue_206 (by decide) ?_
  refine lv_topi (fun x40 ex40 => ?_)
  replace h := mq_nI_go ex40 h
  refine lv_istore (lv' := [(5, .int (x40)), (4, .int (x39)), (0, .ref (a 0)), (1, .int (v1)), (2, .int (v2)), (3, .int (v3))]) hx hb dX11_isTrue_207 hl (by decide) rfl (fun ls hl => ?_)
  exact zw_X11_isTrue_209 C hret N (v1) (v2) (v3) (x39) (x40) H locs ls h (lv_sub hl [2, 3, 4, 5, 1, 0] rfl) hP hD hS
set_option maxHeartbeats 4000000 in
set_option maxRecDepth 100000 in
theorem zw_X11_isTrue_0 {p : Program} {l : Launch} {e : Env} {s : State} {m : MethodId} {args : Array Value} {below : List Frame} {meth : Method} {c : Code} {A : Nat → Prop} {D : va_G} {a z : Nat → Nat} {cI cL cB cZ : ClassId} {Q : State → Prop} {N : Nat} {S : mq_St} {res : Int32} (C : mq_C p s m args c A D cI cL cB cZ cX11_isTrue 6 RX11 zc_X11_isTrue) (hret : ∀ (H : Heap) (locs : List Loc) (ls : Array Slot) (pc : Nat), decode cX11_isTrue pc = .ok (.ireturn, 1) → narrow .boolean (.int res) = .int res → va_P D vwCl (wd_R a cI cL cB cZ z S) H → va_D A (wd_R a cI cL cB cZ z S) → va_S A s.heap H locs → W p l e zr_X11_isTrue s m args below meth c H locs 0 0 Q (F0 m pc ls [.int res])) (v1 : Int32) (v2 : Int32) (H : Heap) (locs : List Loc) (ls : Array Slot) (h : zf_X11_isTrue N z v1 v2 S = some res) (hl : lv_has ls 6 [(0, .ref (a 0)), (1, .int (v1)), (2, .int (v2))]) (hP : va_P D vwCl (wd_R a cI cL cB cZ z S) H) (hD : va_D A (wd_R a cI cL cB cZ z S)) (hS : va_S A s.heap H locs) : W p l e zr_X11_isTrue s m args below meth c H locs 0 0 Q (F0 m 0 ls []) := by
  obtain ⟨hx, hb, hml, hown, hts, hK, hA⟩ := id C
  unfold zf_X11_isTrue at h
  refine lv_iconst (v := (0 : Int32)) hx hb dX11_isTrue_0 (by decide) ?_
  refine lv_topi (fun x1 ex1 => ?_)
  replace h := mq_nI_go ex1 h
  refine lv_istore_n (lv' := [(3, .int (x1)), (0, .ref (a 0)), (1, .int (v1)), (2, .int (v2))]) hx hb dX11_isTrue_1 rfl hl (by decide) rfl (fun ls hl => ?_)
  refine lv_aload_n hx hb dX11_isTrue_2 rfl (lv_at hl 1 rfl) ?_
  refine va_get (D := D) (ci := 11) (v := .ref (a 3)) (C := RX11) (T := TX11) (N := 76) hx hb hts (zi_X11 _) hown hK hP 0 rfl rfl 5 (by decide) (hts _ (List.mem_cons_of_mem _ zt_f_X11_16)) (fun _ h9 => h9) rfl dX11_isTrue_3 ?_
  refine lv_iload_n hx hb dX11_isTrue_6 rfl (lv_at hl 2 rfl) ?_
  have hi2 := mq_ck_in h
  replace h := mq_ck_go h
  refine va_iald (f := S.2.1 2) hx hb hK hP 3 0 rfl rfl hi2 dX11_isTrue_7 ?_
  by_cases c3 : (S.2.1 2 (v1).toNatClampNeg) = 0
  · refine lv_tableIn (off := 40) (tgt := 48) hx hb dX11_isTrue_8 (by rw [c3]; decide) (by rw [c3]; decide) (by rw [c3]; rfl) (by decide) ?_
    replace h := mq_it c3 h
    refine lv_iconst (v := (1 : Int32)) hx hb dX11_isTrue_48 (by decide) ?_
    have hz4 := mq_cz_in h
    replace h := mq_cz_go h
    cases h
    exact hret H locs ls 49 dX11_isTrue_49 hz4.1 hP hD hS
  replace h := mq_if c3 h
  by_cases c5 : (S.2.1 2 (v1).toNatClampNeg) = 1
  · refine lv_tableIn (off := 42) (tgt := 50) hx hb dX11_isTrue_8 (by rw [c5]; decide) (by rw [c5]; decide) (by rw [c5]; rfl) (by decide) ?_
    replace h := mq_it c5 h
    refine lv_iconst (v := (0 : Int32)) hx hb dX11_isTrue_50 (by decide) ?_
    have hz6 := mq_cz_in h
    replace h := mq_cz_go h
    cases h
    exact hret H locs ls 51 dX11_isTrue_51 hz6.1 hP hD hS
  replace h := mq_if c5 h
  by_cases c7 : (S.2.1 2 (v1).toNatClampNeg) = 2
  · refine lv_tableIn (off := 44) (tgt := 52) hx hb dX11_isTrue_8 (by rw [c7]; decide) (by rw [c7]; decide) (by rw [c7]; rfl) (by decide) ?_
    replace h := mq_it c7 h
    refine lv_aload_n hx hb dX11_isTrue_52 rfl (lv_at hl 1 rfl) ?_
    refine va_get (D := D) (ci := 11) (v := .ref (a 35)) (C := RX11) (T := TX11) (N := 76) hx hb hts (zi_X11 _) hown hK hP 0 rfl rfl 66 (by decide) (hts _ (List.mem_cons_of_mem _ zt_f_X11_121)) (fun _ h9 => h9) rfl dX11_isTrue_53 ?_
    refine lv_iload_n hx hb dX11_isTrue_56 rfl (lv_at hl 3 rfl) ?_
    have hi8 := mq_ck_in h
    replace h := mq_ck_go h
    refine va_iald (f := S.2.1 34) hx hb hK hP 35 0 rfl rfl hi8 dX11_isTrue_57 ?_
    refine lv_aload_n hx hb dX11_isTrue_58 rfl (lv_at hl 1 rfl) ?_
    refine va_get (D := D) (ci := 11) (v := .ref (a 4)) (C := RX11) (T := TX11) (N := 76) hx hb hts (zi_X11 _) hown hK hP 0 rfl rfl 6 (by decide) (hts _ (List.mem_cons_of_mem _ zt_f_X11_20)) (fun _ h9 => h9) rfl dX11_isTrue_59 ?_
    refine lv_iload_n hx hb dX11_isTrue_62 rfl (lv_at hl 2 rfl) ?_
    have hi9 := mq_ck_in h
    replace h := mq_ck_go h
    refine va_iald (f := S.2.1 3) hx hb hK hP 4 0 rfl rfl hi9 dX11_isTrue_63 ?_
    refine lv_ishr hx hb dX11_isTrue_64 ?_
    refine lv_iconst (v := (1 : Int32)) hx hb dX11_isTrue_65 (by decide) ?_
    refine lv_iand hx hb dX11_isTrue_66 ?_
    refine lv_if_eq (tgt := 74) hx hb dX11_isTrue_67 (by decide) (fun c12 => ?_) (fun c12 => ?_)
    · replace h := mq_it c12 h
      refine lv_iconst (v := (0 : Int32)) hx hb dX11_isTrue_74 (by decide) ?_
      have hz10 := mq_cz_in h
      replace h := mq_cz_go h
      cases h
      exact hret H locs ls 75 dX11_isTrue_75 hz10.1 hP hD hS
    · replace h := mq_if c12 h
      refine lv_iconst (v := (1 : Int32)) hx hb dX11_isTrue_70 (by decide) ?_
      refine lv_goto (tgt := 75) hx hb dX11_isTrue_71 (by decide) ?_
      have hz11 := mq_cz_in h
      replace h := mq_cz_go h
      cases h
      exact hret H locs ls 75 dX11_isTrue_75 hz11.1 hP hD hS
  replace h := mq_if c7 h
  by_cases c13 : (S.2.1 2 (v1).toNatClampNeg) = 3
  · refine lv_tableIn (off := 68) (tgt := 76) hx hb dX11_isTrue_8 (by rw [c13]; decide) (by rw [c13]; decide) (by rw [c13]; rfl) (by decide) ?_
    replace h := mq_it c13 h
    refine lv_aload_n hx hb dX11_isTrue_76 rfl (lv_at hl 1 rfl) ?_
    refine va_get (D := D) (ci := 11) (v := .ref (a 35)) (C := RX11) (T := TX11) (N := 76) hx hb hts (zi_X11 _) hown hK hP 0 rfl rfl 66 (by decide) (hts _ (List.mem_cons_of_mem _ zt_f_X11_121)) (fun _ h9 => h9) rfl dX11_isTrue_77 ?_
    refine lv_iload_n hx hb dX11_isTrue_80 rfl (lv_at hl 3 rfl) ?_
    have hi14 := mq_ck_in h
    replace h := mq_ck_go h
    refine va_iald (f := S.2.1 34) hx hb hK hP 35 0 rfl rfl hi14 dX11_isTrue_81 ?_
    refine lv_aload_n hx hb dX11_isTrue_82 rfl (lv_at hl 1 rfl) ?_
    refine va_get (D := D) (ci := 11) (v := .ref (a 4)) (C := RX11) (T := TX11) (N := 76) hx hb hts (zi_X11 _) hown hK hP 0 rfl rfl 6 (by decide) (hts _ (List.mem_cons_of_mem _ zt_f_X11_20)) (fun _ h9 => h9) rfl dX11_isTrue_83 ?_
    refine lv_iload_n hx hb dX11_isTrue_86 rfl (lv_at hl 2 rfl) ?_
    have hi15 := mq_ck_in h
    replace h := mq_ck_go h
    refine va_iald (f := S.2.1 3) hx hb hK hP 4 0 rfl rfl hi15 dX11_isTrue_87 ?_
    refine lv_ishr hx hb dX11_isTrue_88 ?_
    refine lv_iconst (v := (1 : Int32)) hx hb dX11_isTrue_89 (by decide) ?_
    refine lv_iand hx hb dX11_isTrue_90 ?_
    refine lv_if_ne (tgt := 98) hx hb dX11_isTrue_91 (by decide) (fun c18 => ?_) (fun c18 => ?_)
    · replace h := mq_if c18 h
      refine lv_iconst (v := (0 : Int32)) hx hb dX11_isTrue_98 (by decide) ?_
      have hz16 := mq_cz_in h
      replace h := mq_cz_go h
      cases h
      exact hret H locs ls 99 dX11_isTrue_99 hz16.1 hP hD hS
    · replace h := mq_it (by simpa using c18) h
      refine lv_iconst (v := (1 : Int32)) hx hb dX11_isTrue_94 (by decide) ?_
      refine lv_goto (tgt := 99) hx hb dX11_isTrue_95 (by decide) ?_
      have hz17 := mq_cz_in h
      replace h := mq_cz_go h
      cases h
      exact hret H locs ls 99 dX11_isTrue_99 hz17.1 hP hD hS
  replace h := mq_if c13 h
  by_cases c19 : (S.2.1 2 (v1).toNatClampNeg) = 4
  · refine lv_tableIn (off := 92) (tgt := 100) hx hb dX11_isTrue_8 (by rw [c19]; decide) (by rw [c19]; decide) (by rw [c19]; rfl) (by decide) ?_
    replace h := mq_it c19 h
    refine lv_aload_n hx hb dX11_isTrue_100 rfl (lv_at hl 1 rfl) ?_
    refine va_get (D := D) (ci := 11) (v := .ref (a 39)) (C := RX11) (T := TX11) (N := 76) hx hb hts (zi_X11 _) hown hK hP 0 rfl rfl 70 (by decide) (hts _ (List.mem_cons_of_mem _ zt_f_X11_133)) (fun _ h9 => h9) rfl dX11_isTrue_101 ?_
    refine lv_bipush (v := (60 : Int32)) hx hb dX11_isTrue_104 (by decide) ?_
    refine lv_aload_n hx hb dX11_isTrue_106 rfl (lv_at hl 1 rfl) ?_
    refine va_get (D := D) (ci := 11) (v := .ref (a 4)) (C := RX11) (T := TX11) (N := 76) hx hb hts (zi_X11 _) hown hK hP 0 rfl rfl 6 (by decide) (hts _ (List.mem_cons_of_mem _ zt_f_X11_20)) (fun _ h9 => h9) rfl dX11_isTrue_107 ?_
    refine lv_iload_n hx hb dX11_isTrue_110 rfl (lv_at hl 2 rfl) ?_
    have hi20 := mq_ck_in h
    replace h := mq_ck_go h
    refine va_iald (f := S.2.1 3) hx hb hK hP 4 0 rfl rfl hi20 dX11_isTrue_111 ?_
    refine lv_imul hx hb dX11_isTrue_112 ?_
    refine lv_iload_n hx hb dX11_isTrue_113 rfl (lv_at hl 3 rfl) ?_
    refine lv_iadd hx hb dX11_isTrue_114 ?_
    have hi21 := mq_ck_in h
    replace h := mq_ck_go h
    refine va_zald (f := S.2.1 38) hx hb hK hP 39 3 rfl rfl hi21 dX11_isTrue_115 ?_
    refine lv_if_eq (tgt := 142) hx hb dX11_isTrue_116 (by decide) (fun c28 => ?_) (fun c28 => ?_)
    · replace h := mq_it c28 h
      refine lv_iconst (v := (0 : Int32)) hx hb dX11_isTrue_142 (by decide) ?_
      have hz22 := mq_cz_in h
      replace h := mq_cz_go h
      cases h
      exact hret H locs ls 143 dX11_isTrue_143 hz22.1 hP hD hS
    · replace h := mq_if c28 h
      refine lv_aload_n hx hb dX11_isTrue_119 rfl (lv_at hl 1 rfl) ?_
      refine va_get (D := D) (ci := 11) (v := .ref (a 39)) (C := RX11) (T := TX11) (N := 76) hx hb hts (zi_X11 _) hown hK hP 0 rfl rfl 70 (by decide) (hts _ (List.mem_cons_of_mem _ zt_f_X11_133)) (fun _ h9 => h9) rfl dX11_isTrue_120 ?_
      refine lv_bipush (v := (60 : Int32)) hx hb dX11_isTrue_123 (by decide) ?_
      refine lv_aload_n hx hb dX11_isTrue_125 rfl (lv_at hl 1 rfl) ?_
      refine va_get (D := D) (ci := 11) (v := .ref (a 5)) (C := RX11) (T := TX11) (N := 76) hx hb hts (zi_X11 _) hown hK hP 0 rfl rfl 7 (by decide) (hts _ (List.mem_cons_of_mem _ zt_f_X11_23)) (fun _ h9 => h9) rfl dX11_isTrue_126 ?_
      refine lv_iload_n hx hb dX11_isTrue_129 rfl (lv_at hl 2 rfl) ?_
      have hi23 := mq_ck_in h
      replace h := mq_ck_go h
      refine va_iald (f := S.2.1 4) hx hb hK hP 5 0 rfl rfl hi23 dX11_isTrue_130 ?_
      refine lv_imul hx hb dX11_isTrue_131 ?_
      refine lv_iload_n hx hb dX11_isTrue_132 rfl (lv_at hl 3 rfl) ?_
      refine lv_iadd hx hb dX11_isTrue_133 ?_
      have hi24 := mq_ck_in h
      replace h := mq_ck_go h
      refine va_zald (f := S.2.1 38) hx hb hK hP 39 3 rfl rfl hi24 dX11_isTrue_134 ?_
      refine lv_if_eq (tgt := 142) hx hb dX11_isTrue_135 (by decide) (fun c27 => ?_) (fun c27 => ?_)
      · replace h := mq_it c27 h
        refine lv_iconst (v := (0 : Int32)) hx hb dX11_isTrue_142 (by decide) ?_
        have hz25 := mq_cz_in h
        replace h := mq_cz_go h
        cases h
        exact hret H locs ls 143 dX11_isTrue_143 hz25.1 hP hD hS
      · replace h := mq_if c27 h
        refine lv_iconst (v := (1 : Int32)) hx hb dX11_isTrue_138 (by decide) ?_
        refine lv_goto (tgt := 143) hx hb dX11_isTrue_139 (by decide) ?_
        have hz26 := mq_cz_in h
        replace h := mq_cz_go h
        cases h
        exact hret H locs ls 143 dX11_isTrue_143 hz26.1 hP hD hS
  replace h := mq_if c19 h
  by_cases c29 : (S.2.1 2 (v1).toNatClampNeg) = 5
  · refine lv_tableIn (off := 136) (tgt := 144) hx hb dX11_isTrue_8 (by rw [c29]; decide) (by rw [c29]; decide) (by rw [c29]; rfl) (by decide) ?_
    replace h := mq_it c29 h
    refine lv_aload_n hx hb dX11_isTrue_144 rfl (lv_at hl 1 rfl) ?_
    refine va_get (D := D) (ci := 11) (v := .ref (a 39)) (C := RX11) (T := TX11) (N := 76) hx hb hts (zi_X11 _) hown hK hP 0 rfl rfl 70 (by decide) (hts _ (List.mem_cons_of_mem _ zt_f_X11_133)) (fun _ h9 => h9) rfl dX11_isTrue_145 ?_
    refine lv_bipush (v := (60 : Int32)) hx hb dX11_isTrue_148 (by decide) ?_
    refine lv_aload_n hx hb dX11_isTrue_150 rfl (lv_at hl 1 rfl) ?_
    refine va_get (D := D) (ci := 11) (v := .ref (a 4)) (C := RX11) (T := TX11) (N := 76) hx hb hts (zi_X11 _) hown hK hP 0 rfl rfl 6 (by decide) (hts _ (List.mem_cons_of_mem _ zt_f_X11_20)) (fun _ h9 => h9) rfl dX11_isTrue_151 ?_
    refine lv_iload_n hx hb dX11_isTrue_154 rfl (lv_at hl 2 rfl) ?_
    have hi30 := mq_ck_in h
    replace h := mq_ck_go h
    refine va_iald (f := S.2.1 3) hx hb hK hP 4 0 rfl rfl hi30 dX11_isTrue_155 ?_
    refine lv_imul hx hb dX11_isTrue_156 ?_
    refine lv_iload_n hx hb dX11_isTrue_157 rfl (lv_at hl 3 rfl) ?_
    refine lv_iadd hx hb dX11_isTrue_158 ?_
    have hi31 := mq_ck_in h
    replace h := mq_ck_go h
    refine va_zald (f := S.2.1 38) hx hb hK hP 39 3 rfl rfl hi31 dX11_isTrue_159 ?_
    refine lv_if_ne (tgt := 182) hx hb dX11_isTrue_160 (by decide) (fun c36 => ?_) (fun c36 => ?_)
    · replace h := mq_if c36 h
      exact zw_X11_isTrue_182 C hret H locs ls h (lv_sub hl [] rfl) hP hD hS
    · replace h := mq_it (by simpa using c36) h
      refine lv_aload_n hx hb dX11_isTrue_163 rfl (lv_at hl 1 rfl) ?_
      refine va_get (D := D) (ci := 11) (v := .ref (a 39)) (C := RX11) (T := TX11) (N := 76) hx hb hts (zi_X11 _) hown hK hP 0 rfl rfl 70 (by decide) (hts _ (List.mem_cons_of_mem _ zt_f_X11_133)) (fun _ h9 => h9) rfl dX11_isTrue_164 ?_
      refine lv_bipush (v := (60 : Int32)) hx hb dX11_isTrue_167 (by decide) ?_
      refine lv_aload_n hx hb dX11_isTrue_169 rfl (lv_at hl 1 rfl) ?_
      refine va_get (D := D) (ci := 11) (v := .ref (a 5)) (C := RX11) (T := TX11) (N := 76) hx hb hts (zi_X11 _) hown hK hP 0 rfl rfl 7 (by decide) (hts _ (List.mem_cons_of_mem _ zt_f_X11_23)) (fun _ h9 => h9) rfl dX11_isTrue_170 ?_
      refine lv_iload_n hx hb dX11_isTrue_173 rfl (lv_at hl 2 rfl) ?_
      have hi32 := mq_ck_in h
      replace h := mq_ck_go h
      refine va_iald (f := S.2.1 4) hx hb hK hP 5 0 rfl rfl hi32 dX11_isTrue_174 ?_
      refine lv_imul hx hb dX11_isTrue_175 ?_
      refine lv_iload_n hx hb dX11_isTrue_176 rfl (lv_at hl 3 rfl) ?_
      refine lv_iadd hx hb dX11_isTrue_177 ?_
      have hi33 := mq_ck_in h
      replace h := mq_ck_go h
      refine va_zald (f := S.2.1 38) hx hb hK hP 39 3 rfl rfl hi33 dX11_isTrue_178 ?_
      refine lv_if_eq (tgt := 186) hx hb dX11_isTrue_179 (by decide) (fun c35 => ?_) (fun c35 => ?_)
      · replace h := mq_it c35 h
        refine lv_iconst (v := (0 : Int32)) hx hb dX11_isTrue_186 (by decide) ?_
        have hz34 := mq_cz_in h
        replace h := mq_cz_go h
        cases h
        exact hret H locs ls 187 dX11_isTrue_187 hz34.1 hP hD hS
      · replace h := mq_if c35 h
        exact zw_X11_isTrue_182 C hret H locs ls h (lv_sub hl [] rfl) hP hD hS
  replace h := mq_if c29 h
  have nc3 := lv_neT c3 (show Int32.toInt 0 = 0 by decide)
  have nc5 := lv_neT c5 (show Int32.toInt 1 = 1 by decide)
  have nc7 := lv_neT c7 (show Int32.toInt 2 = 2 by decide)
  have nc13 := lv_neT c13 (show Int32.toInt 3 = 3 by decide)
  have nc19 := lv_neT c19 (show Int32.toInt 4 = 4 by decide)
  have nc29 := lv_neT c29 (show Int32.toInt 5 = 5 by decide)
  refine lv_tableOut (tgt := 188) hx hb dX11_isTrue_8 (by omega) (by decide) ?_
  refine lv_aload_n hx hb dX11_isTrue_188 rfl (lv_at hl 1 rfl) ?_
  refine va_get (D := D) (ci := 11) (v := .ref (a 3)) (C := RX11) (T := TX11) (N := 76) hx hb hts (zi_X11 _) hown hK hP 0 rfl rfl 5 (by decide) (hts _ (List.mem_cons_of_mem _ zt_f_X11_16)) (fun _ h9 => h9) rfl dX11_isTrue_189 ?_
  refine lv_iload_n hx hb dX11_isTrue_192 rfl (lv_at hl 2 rfl) ?_
  have hi37 := mq_ck_in h
  replace h := mq_ck_go h
  refine va_iald (f := S.2.1 2) hx hb hK hP 3 0 rfl rfl hi37 dX11_isTrue_193 ?_
  refine lv_bipush (v := (6 : Int32)) hx hb dX11_isTrue_194 (by decide) ?_
  refine lv_icmp_ne (tgt := 203) hx hb dX11_isTrue_196 (by decide) (fun c38 => ?_) (fun c38 => ?_)
  · replace h := mq_if c38 h
    refine lv_iconst (v := (0 : Int32)) hx hb dX11_isTrue_203 (by decide) ?_
    exact zw_X11_isTrue_204 C hret (v1) (v2) (x1) ((0 : Int32)) H locs ls h (lv_sub hl [1, 2, 3, 0] rfl) hP hD hS
  · replace h := mq_it (by simpa using c38) h
    refine lv_iconst (v := (1 : Int32)) hx hb dX11_isTrue_199 (by decide) ?_
    refine lv_goto (tgt := 204) hx hb dX11_isTrue_200 (by decide) ?_
    exact zw_X11_isTrue_204 C hret (v1) (v2) (x1) ((1 : Int32)) H locs ls h (lv_sub hl [1, 2, 3, 0] rfl) hP hD hS
set_option maxHeartbeats 4000000 in
set_option maxRecDepth 100000 in
theorem zm_X11_isTrue (l : Launch) (D : va_G) (a z : Nat → Nat) (cI cL cB cZ : ClassId) (sz N : Nat) (v1 : Int32) (v2 : Int32) (S : mq_St) (res : Int32) (h : zf_X11_isTrue N z v1 v2 S = some res) : Met l yX11_isTrue (zc_X11_isTrue :: mq_T) zr_X11_isTrue (va_Pc [.ref (a 0), .int (v1), .int (v2)] (fun U => U.heap.size = sz ∧ va_P D vwCl (wd_R a cI cL cB cZ z S) U.heap ∧ va_K D vwCl (mq_tys cI cL cB cZ) U ∧ va_D (fun _ => True) (wd_R a cI cL cB cZ z S))) (va_Qi (fun (r : Int32) (u : mq_St) => r = res ∧ u = S) (fun u t => va_P D vwCl (wd_R a cI cL cB cZ z u) t.heap ∧ va_K D vwCl (mq_tys cI cL cB cZ) t ∧ va_D (va_A (wd_R a cI cL cB cZ z S) sz) (wd_R a cI cL cB cZ z u)) (va_A (wd_R a cI cL cB cZ z S) sz)) 0 0 (va_A (wd_R a cI cL cB cZ z S) sz) := by
  refine Met.ofW (cc := cX11_isTrue) (maxL := 6) (ret := (some .boolean)) (by decide) rfl ?_
  intro p e s m args below meth c s₁ B hml hv
  obtain ⟨rfl, hsz, hP, hK, hD0⟩ := hv
  have hr := B.returns
  have hlocks := B.notSynchronized
  have hts := atoms_spec (ws := zc_X11_isTrue :: mq_T) B.pre
  have hown : s.vm.findClass RX11 = some m.cls := findClass_of_methodNamed B.named
  subst hsz
  have hD := hD0.self (sz := s.heap.size)
  generalize hAe : va_A (wd_R a cI cL cB cZ z S) s.heap.size = A at hD ⊢
  have hA : ∀ q : Nat, s.heap.size ≤ q → A q := fun q h => by rw [← hAe]; exact Or.inr h
  have hl := lv_entry ([.ref (a 0), .int (v1), .int (v2)]) (n := 6) (Nat.le_of_ble_eq_true rfl)
  rw [lg_entry_eq]
  generalize (lg_sl ([.ref (a 0), .int (v1), .int (v2)]) ++ List.replicate (6 - (lg_sl ([.ref (a 0), .int (v1), .int (v2)])).length) Slot.unset).toArray = ls at hl ⊢
  have hl : lv_has ls 6 [(0, .ref (a 0)), (1, .int (v1)), (2, .int (v2))] := hl
  refine zw_X11_isTrue_0 (A := A) ⟨B.exec, B.bytes, hml, hown, hts, hK, hA⟩ (fun H locs ls pc dg hz hP hD hS => ?_) v1 v2 s.heap [] ls h hl hP hD va_S.rf
  exact W.zret B.exec B.bytes hr hz (fun t ht hW => ⟨⟨_, _, rfl, ⟨rfl, rfl⟩, by rw [ht]; exact hP, va_K.moved hW.alike hK, hD⟩, hS.F ht⟩) hS.2.2 dg
theorem zt_X11_isTrue_c : zc_X11_isTrue ∈ mq_T := mq_T_mem (mq_t7 (List.mem_of_getElem? (i := 163) rfl)) rfl
theorem zt_X11_isTrue_i : Cond.instanceMethod yX11_isTrue ∈ mq_T := mq_T_mem (mq_t7 (List.mem_of_getElem? (i := 162) rfl)) rfl
theorem zt_X11_isTrue_s : Cond.selects RX11 yX11_isTrue yX11_isTrue ∈ mq_T := mq_T_at 104 (by decide +kernel)
set_option maxHeartbeats 4000000 in
theorem zk_X11_isTrue {p : Program} {l : Launch} {e : Env} {R : Room} {s : State} {m : MethodId} {args : Array Value} {below : List Frame} {meth : Method} {c : Code} {A : Nat → Prop} {D : va_G} {a z : Nat → Nat} {cI cL cB cZ : ClassId} {Q : State → Prop} {cc : ByteArray} {nL idx pc N : Nat} {own : String} {c1 : Cond} {H : Heap} {locs : List Loc} {ls : Array Slot} {rest : List Value} {S : mq_St} {res : Int32} {v1 : Int32} {v2 : Int32} (C : mq_C p s m args c A D cI cL cB cZ cc nL own c1) (hlk : Cond.methodLink own idx yX11_isTrue ∈ mq_T) (hR : zr_X11_isTrue.frames + 1 ≤ R.frames ∧ 8 + (6 + 11) + zr_X11_isTrue.locals ≤ R.locals) (h : zf_X11_isTrue N z v1 v2 S = some res) (hP : va_P D vwCl (wd_R a cI cL cB cZ z S) H) (hD : va_D A (wd_R a cI cL cB cZ z S)) (hS : va_S A s.heap H locs) (hls : ls.size = nL) (hrest : (rest.map fun v => v.category).sum ≤ 8) (hdg : decode cc pc = .ok (.invokevirtual idx, 3)) (kk : ∀ (H1 : Heap) (locs1 : List Loc), va_P D vwCl (wd_R a cI cL cB cZ z S) H1 → va_D A (wd_R a cI cL cB cZ z S) → va_S A s.heap H1 locs1 → W p l e R s m args below meth c H1 locs1 0 0 Q (F0 m (pc + 3) ls (.int res :: rest))) : W p l e R s m args below meth c H locs 0 0 Q (F0 m pc ls (.int (v2) :: .int (v1) :: .ref (a 0) :: rest)) := by
  obtain ⟨hx, hb, hml, hown, hts, hK, hA⟩ := C
  have hFc := mq_freeI hD hS hA
  refine va_calli (va_runV (As := [.int (v1), .int (v2)]) (rest := rest) ⟨hx, hb, hml, hown, hts⟩ (zm_X11_isTrue l D a z cI cL cB cZ H.size N v1 v2 S res h) (cwV 2 hts (mq_goodL (mq_wsV hlk zt_X11_isTrue_i zt_X11_isTrue_s zt_ini_X11 zt_X11_isTrue_c)) rfl rfl rfl (by decide +kernel) hR) ⟨fun a U g mk q => ⟨q.1, q.2.1, q.2.2.1, va_K.moved (u := U) (U := U.calling g mk a) (Vm.Alike.refl U.vm) q.2.2.2.1, q.2.2.2.2⟩, zy_R_0 hK hP, fun U hU hW => ⟨rfl, by rw [hU], by rw [hU]; exact hP, va_K.moved hW.alike hK, hD.weaken (fun _ _ _ _ => trivial)⟩⟩ rfl rfl hls rfl (lv_room hrest) hdg ⟨Nat.zero_le _, Nat.zero_le _⟩) hS (fun q _ h => hFc q h) hFc (fun r u t H1 locs ht hvm hw hB hz1 hk1 hS => ?_)
  obtain ⟨rfl, rfl⟩ := hw
  obtain ⟨hP1, hK1, hD1⟩ := hB
  rw [ht] at hP1
  exact kk H1 locs hP1 (hD1.weaken (fun _ _ _ h => hFc _ h)) hS
theorem zt_m_X11_387 : Cond.methodLink RX11 387 yX11_isTrue ∈ mq_T := mq_T_mem (mq_t7 (List.mem_of_getElem? (i := 160) rfl)) rfl
theorem zs_wd_R_a_39_38 (a z : Nat → Nat) (cI cL cB cZ : ClassId) (S : mq_St) (f : Nat → Int32) : (wd_R a cI cL cB cZ z S).set 39 (a 39, .inl (cZ, 18000, .inl f)) = (wd_R a cI cL cB cZ z (mq_sa S 38 f)) := rfl
/-! ModalDeskModel.holds(II)Z -/
def zr_X11_holds : Room := { frames := 2, cells := 0, slots := 0, locals := 43 }
def zc_X11_holds : Cond := .code yX11_holds cX11_holds 5 (some .boolean)
def zf_X11_holds_35b (N : Nat) (z : Nat → Nat) (k27 : Int32 → Int32 → Int32 → mq_St → Option (Int32 × mq_St)) (k35 : Int32 → Int32 → Int32 → Int32 → mq_St → Option (Int32 × mq_St)) (v1 : Int32) (v2 : Int32) (v3 : Int32) (v4 : Int32) (S : mq_St) : Option (Int32 × mq_St) := (if (S.1 31) ≤ v4 then (mq_nI (v3 + (1 : Int32)) (fun x16 => (k27 (v1) (v2) (x16) S))) else (mq_cp (zf_X11_isTrue N z (v3) (v4) S) (fun q17 => (mq_ck ((((60 : Int32) * v3) + v4)) 18000 (mq_nS (mq_sa S 38 (upd (S.2.1 38) ((((60 : Int32) * v3) + v4)).toNatClampNeg (vp_nar .boolean (q17)))) (fun S20 => (mq_nI (v4 + (1 : Int32)) (fun x21 => (k35 (v1) (v2) (v3) (x21) S20)))))))))
def zf_X11_holds_35 (N : Nat) (z : Nat → Nat) (k27 : Int32 → Int32 → Int32 → mq_St → Option (Int32 × mq_St)) : Nat → Int32 → Int32 → Int32 → Int32 → mq_St → Option (Int32 × mq_St)
  | 0, _, _, _, _, _ => none
  | n + 1, v1, v2, v3, v4, S => zf_X11_holds_35b N z k27 (fun v1 v2 v3 v4 S => zf_X11_holds_35 N z k27 n v1 v2 v3 v4 S) v1 v2 v3 v4 S
def zf_X11_holds_27b (N : Nat) (z : Nat → Nat) (k27 : Int32 → Int32 → Int32 → mq_St → Option (Int32 × mq_St)) (v1 : Int32) (v2 : Int32) (v3 : Int32) (S : mq_St) : Option (Int32 × mq_St) := (if v2 < v3 then (mq_ck ((((60 : Int32) * v2) + v1)) 18000 (mq_cz ((S.2.1 38 ((((60 : Int32) * v2) + v1)).toNatClampNeg)) (some ((S.2.1 38 ((((60 : Int32) * v2) + v1)).toNatClampNeg), S)))) else (mq_nI ((0 : Int32)) (fun x14 => (zf_X11_holds_35 N z k27 N (v1) (v2) (v3) (x14) S))))
def zf_X11_holds_27 (N : Nat) (z : Nat → Nat) : Nat → Int32 → Int32 → Int32 → mq_St → Option (Int32 × mq_St)
  | 0, _, _, _, _ => none
  | n + 1, v1, v2, v3, S => zf_X11_holds_27b N z (fun v1 v2 v3 S => zf_X11_holds_27 N z n v1 v2 v3 S) v1 v2 v3 S
def zf_X11_holds (N : Nat) (z : Nat → Nat) (v1 : Int32) (v2 : Int32) (S : mq_St) : Option (Int32 × mq_St) := (mq_cl (zf_X11_world0 N z (v1) S) (fun q1v S3 => (if q1v = (0 : Int32) then (mq_cz ((0 : Int32)) (some ((0 : Int32), S3))) else (mq_cp (zf_X11_isFormula N z (v2) S3) (fun q4 => (if q4 = (0 : Int32) then (mq_nS (mq_si S3 0 ((1 : Int32))) (fun S7 => (mq_cz ((0 : Int32)) (some ((0 : Int32), S7))))) else (mq_nI ((0 : Int32)) (fun x6 => (zf_X11_holds_27 N z N (v1) (v2) (x6) S3)))))))))
set_option maxHeartbeats 4000000 in
set_option maxRecDepth 100000 in
theorem zw_X11_holds_35b {p : Program} {l : Launch} {e : Env} {s : State} {m : MethodId} {args : Array Value} {below : List Frame} {meth : Method} {c : Code} {A : Nat → Prop} {D : va_G} {a z : Nat → Nat} {cI cL cB cZ : ClassId} {Q : State → Prop} {N : Nat} {res : Int32 × mq_St} {k27 : Int32 → Int32 → Int32 → mq_St → Option (Int32 × mq_St)} {k35 : Int32 → Int32 → Int32 → Int32 → mq_St → Option (Int32 × mq_St)} (C : mq_C p s m args c A D cI cL cB cZ cX11_holds 5 RX11 zc_X11_holds) (hret : ∀ (H : Heap) (locs : List Loc) (ls : Array Slot) (pc : Nat), decode cX11_holds pc = .ok (.ireturn, 1) → narrow .boolean (.int res.1) = .int res.1 → va_P D vwCl (wd_R a cI cL cB cZ z res.2) H → va_D A (wd_R a cI cL cB cZ z res.2) → va_S A s.heap H locs → W p l e zr_X11_holds s m args below meth c H locs 0 0 Q (F0 m pc ls [.int res.1])) (hk27 : ∀ (v1 : Int32) (v2 : Int32) (v3 : Int32) (S : mq_St) (H : Heap) (locs : List Loc) (ls : Array Slot), k27 v1 v2 v3 S = some res → lv_has ls 5 [(0, .ref (a 0)), (1, .int (v1)), (2, .int (v2)), (3, .int (v3))] → va_P D vwCl (wd_R a cI cL cB cZ z S) H → va_D A (wd_R a cI cL cB cZ z S) → va_S A s.heap H locs → W p l e zr_X11_holds s m args below meth c H locs 0 0 Q (F0 m 27 ls [])) (hk35 : ∀ (v1 : Int32) (v2 : Int32) (v3 : Int32) (v4 : Int32) (S : mq_St) (H : Heap) (locs : List Loc) (ls : Array Slot), k35 v1 v2 v3 v4 S = some res → lv_has ls 5 [(0, .ref (a 0)), (1, .int (v1)), (2, .int (v2)), (3, .int (v3)), (4, .int (v4))] → va_P D vwCl (wd_R a cI cL cB cZ z S) H → va_D A (wd_R a cI cL cB cZ z S) → va_S A s.heap H locs → W p l e zr_X11_holds s m args below meth c H locs 0 0 Q (F0 m 35 ls [])) (v1 : Int32) (v2 : Int32) (v3 : Int32) (v4 : Int32) (S : mq_St) (H : Heap) (locs : List Loc) (ls : Array Slot) (h : zf_X11_holds_35b N z k27 k35 v1 v2 v3 v4 S = some res) (hl : lv_has ls 5 [(0, .ref (a 0)), (1, .int (v1)), (2, .int (v2)), (3, .int (v3)), (4, .int (v4))]) (hP : va_P D vwCl (wd_R a cI cL cB cZ z S) H) (hD : va_D A (wd_R a cI cL cB cZ z S)) (hS : va_S A s.heap H locs) : W p l e zr_X11_holds s m args below meth c H locs 0 0 Q (F0 m 35 ls []) := by
  obtain ⟨hx, hb, hml, hown, hts, hK, hA⟩ := id C
  unfold zf_X11_holds_35b at h
  refine lv_iload hx hb dX11_holds_35 (lv_at hl 4 rfl) ?_
  refine lv_aload_n hx hb dX11_holds_37 rfl (lv_at hl 0 rfl) ?_
  refine va_get (D := D) (ci := 11) (v := .int ((S.1 31))) (C := RX11) (T := TX11) (N := 76) hx hb hts (zi_X11 _) hown hK hP 0 rfl rfl 65 (by decide) (hts _ (List.mem_cons_of_mem _ zt_f_X11_375)) (fun _ h9 => h9) rfl dX11_holds_38 ?_
  refine lv_icmp_ge (tgt := 69) hx hb dX11_holds_41 (by decide) (fun c22 => ?_) (fun c22 => ?_)
  · replace h := mq_it c22 h
    obtain ⟨x16, ex16⟩ : ∃ y : Int32, y = v3 + (1 : Int32) := ⟨_, rfl⟩
    replace h := mq_nI_go ex16 h
    refine lv_iinc (v := x16) (lv' := [(3, .int (x16)), (0, .ref (a 0)), (1, .int (v1)), (2, .int (v2)), (4, .int (v4))]) hx hb dX11_holds_69 hl (k := 3) rfl (by rw [ex16]; rfl) (by decide) rfl (fun ls hl => ?_)
    refine lv_goto (tgt := 27) hx hb dX11_holds_72 (by decide) ?_
    exact hk27 (v1) (v2) (x16) S H locs ls h (lv_sub hl [1, 2, 3, 0] rfl) hP hD hS
  · replace h := mq_if c22 h
    refine lv_aload_n hx hb dX11_holds_44 rfl (lv_at hl 0 rfl) ?_
    refine va_get (D := D) (ci := 11) (v := .ref (a 39)) (C := RX11) (T := TX11) (N := 76) hx hb hts (zi_X11 _) hown hK hP 0 rfl rfl 70 (by decide) (hts _ (List.mem_cons_of_mem _ zt_f_X11_133)) (fun _ h9 => h9) rfl dX11_holds_45 ?_
    refine lv_bipush (v := (60 : Int32)) hx hb dX11_holds_48 (by decide) ?_
    refine lv_iload_n hx hb dX11_holds_50 rfl (lv_at hl 3 rfl) ?_
    refine lv_imul hx hb dX11_holds_51 ?_
    refine lv_iload hx hb dX11_holds_52 (lv_at hl 4 rfl) ?_
    refine lv_iadd hx hb dX11_holds_54 ?_
    refine lv_aload_n hx hb dX11_holds_55 rfl (lv_at hl 0 rfl) ?_
    refine lv_iload_n hx hb dX11_holds_56 rfl (lv_at hl 3 rfl) ?_
    refine lv_iload hx hb dX11_holds_57 (lv_at hl 4 rfl) ?_
    obtain ⟨q17, hc18, h⟩ := mq_cp_go h
    refine zk_X11_isTrue C zt_m_X11_387 ⟨by decide, by decide⟩ hc18 hP hD hS hl.1 (Nat.le_of_ble_eq_true rfl) dX11_holds_59 (fun H locs hP hD hS => ?_)
    have hi19 := mq_ck_in h
    replace h := mq_ck_go h
    refine mq_zast (w := wd_R a cI cL cB cZ z) (S := S) (f := S.2.1 38) hx hb hK hP hD hS 39 3 rfl rfl hi19 dX11_holds_62 38 (zs_wd_R_a_39_38 _ _ _ _ _ _ _ _) (fun S20 eS20 H locs hP hD hS => ?_)
    replace h := mq_nS_go eS20 h
    obtain ⟨x21, ex21⟩ : ∃ y : Int32, y = v4 + (1 : Int32) := ⟨_, rfl⟩
    replace h := mq_nI_go ex21 h
    refine lv_iinc (v := x21) (lv' := [(4, .int (x21)), (0, .ref (a 0)), (1, .int (v1)), (2, .int (v2)), (3, .int (v3))]) hx hb dX11_holds_63 hl (k := 4) rfl (by rw [ex21]; rfl) (by decide) rfl (fun ls hl => ?_)
    refine lv_goto (tgt := 35) hx hb dX11_holds_66 (by decide) ?_
    exact hk35 (v1) (v2) (v3) (x21) S20 H locs ls h (lv_sub hl [1, 2, 3, 4, 0] rfl) hP hD hS
set_option maxHeartbeats 4000000 in
set_option maxRecDepth 100000 in
theorem zw_X11_holds_35 {p : Program} {l : Launch} {e : Env} {s : State} {m : MethodId} {args : Array Value} {below : List Frame} {meth : Method} {c : Code} {A : Nat → Prop} {D : va_G} {a z : Nat → Nat} {cI cL cB cZ : ClassId} {Q : State → Prop} {N : Nat} {res : Int32 × mq_St} {k27 : Int32 → Int32 → Int32 → mq_St → Option (Int32 × mq_St)} (C : mq_C p s m args c A D cI cL cB cZ cX11_holds 5 RX11 zc_X11_holds) (hret : ∀ (H : Heap) (locs : List Loc) (ls : Array Slot) (pc : Nat), decode cX11_holds pc = .ok (.ireturn, 1) → narrow .boolean (.int res.1) = .int res.1 → va_P D vwCl (wd_R a cI cL cB cZ z res.2) H → va_D A (wd_R a cI cL cB cZ z res.2) → va_S A s.heap H locs → W p l e zr_X11_holds s m args below meth c H locs 0 0 Q (F0 m pc ls [.int res.1])) (hk27 : ∀ (v1 : Int32) (v2 : Int32) (v3 : Int32) (S : mq_St) (H : Heap) (locs : List Loc) (ls : Array Slot), k27 v1 v2 v3 S = some res → lv_has ls 5 [(0, .ref (a 0)), (1, .int (v1)), (2, .int (v2)), (3, .int (v3))] → va_P D vwCl (wd_R a cI cL cB cZ z S) H → va_D A (wd_R a cI cL cB cZ z S) → va_S A s.heap H locs → W p l e zr_X11_holds s m args below meth c H locs 0 0 Q (F0 m 27 ls [])) : ∀ (n : Nat) (v1 : Int32) (v2 : Int32) (v3 : Int32) (v4 : Int32) (S : mq_St) (H : Heap) (locs : List Loc) (ls : Array Slot) (h : zf_X11_holds_35 N z k27 n v1 v2 v3 v4 S = some res) (hl : lv_has ls 5 [(0, .ref (a 0)), (1, .int (v1)), (2, .int (v2)), (3, .int (v3)), (4, .int (v4))]) (hP : va_P D vwCl (wd_R a cI cL cB cZ z S) H) (hD : va_D A (wd_R a cI cL cB cZ z S)) (hS : va_S A s.heap H locs), W p l e zr_X11_holds s m args below meth c H locs 0 0 Q (F0 m 35 ls []) := by
  intro n
  induction n with
  | zero =>
    intro v1 v2 v3 v4 S H locs ls h hl hP hD hS
    exact nomatch (show (none : Option (Int32 × mq_St)) = some res from h)
  | succ n ih =>
    intro v1 v2 v3 v4 S H locs ls h hl hP hD hS
    exact zw_X11_holds_35b C hret hk27 (fun v1 v2 v3 v4 S H locs ls h hl hP hD hS => ih v1 v2 v3 v4 S H locs ls h hl hP hD hS) v1 v2 v3 v4 S H locs ls h hl hP hD hS
set_option maxHeartbeats 4000000 in
set_option maxRecDepth 100000 in
theorem zw_X11_holds_27b {p : Program} {l : Launch} {e : Env} {s : State} {m : MethodId} {args : Array Value} {below : List Frame} {meth : Method} {c : Code} {A : Nat → Prop} {D : va_G} {a z : Nat → Nat} {cI cL cB cZ : ClassId} {Q : State → Prop} {N : Nat} {res : Int32 × mq_St} {k27 : Int32 → Int32 → Int32 → mq_St → Option (Int32 × mq_St)} (C : mq_C p s m args c A D cI cL cB cZ cX11_holds 5 RX11 zc_X11_holds) (hret : ∀ (H : Heap) (locs : List Loc) (ls : Array Slot) (pc : Nat), decode cX11_holds pc = .ok (.ireturn, 1) → narrow .boolean (.int res.1) = .int res.1 → va_P D vwCl (wd_R a cI cL cB cZ z res.2) H → va_D A (wd_R a cI cL cB cZ z res.2) → va_S A s.heap H locs → W p l e zr_X11_holds s m args below meth c H locs 0 0 Q (F0 m pc ls [.int res.1])) (hk27 : ∀ (v1 : Int32) (v2 : Int32) (v3 : Int32) (S : mq_St) (H : Heap) (locs : List Loc) (ls : Array Slot), k27 v1 v2 v3 S = some res → lv_has ls 5 [(0, .ref (a 0)), (1, .int (v1)), (2, .int (v2)), (3, .int (v3))] → va_P D vwCl (wd_R a cI cL cB cZ z S) H → va_D A (wd_R a cI cL cB cZ z S) → va_S A s.heap H locs → W p l e zr_X11_holds s m args below meth c H locs 0 0 Q (F0 m 27 ls [])) (v1 : Int32) (v2 : Int32) (v3 : Int32) (S : mq_St) (H : Heap) (locs : List Loc) (ls : Array Slot) (h : zf_X11_holds_27b N z k27 v1 v2 v3 S = some res) (hl : lv_has ls 5 [(0, .ref (a 0)), (1, .int (v1)), (2, .int (v2)), (3, .int (v3))]) (hP : va_P D vwCl (wd_R a cI cL cB cZ z S) H) (hD : va_D A (wd_R a cI cL cB cZ z S)) (hS : va_S A s.heap H locs) : W p l e zr_X11_holds s m args below meth c H locs 0 0 Q (F0 m 27 ls []) := by
  obtain ⟨hx, hb, hml, hown, hts, hK, hA⟩ := id C
  unfold zf_X11_holds_27b at h
  refine lv_iload_n hx hb dX11_holds_27 rfl (lv_at hl 3 rfl) ?_
  refine lv_iload_n hx hb dX11_holds_28 rfl (lv_at hl 2 rfl) ?_
  refine lv_icmp_gt (tgt := 75) hx hb dX11_holds_29 (by decide) (fun c15 => ?_) (fun c15 => ?_)
  · replace h := mq_it c15 h
    refine lv_aload_n hx hb dX11_holds_75 rfl (lv_at hl 0 rfl) ?_
    refine va_get (D := D) (ci := 11) (v := .ref (a 39)) (C := RX11) (T := TX11) (N := 76) hx hb hts (zi_X11 _) hown hK hP 0 rfl rfl 70 (by decide) (hts _ (List.mem_cons_of_mem _ zt_f_X11_133)) (fun _ h9 => h9) rfl dX11_holds_76 ?_
    refine lv_bipush (v := (60 : Int32)) hx hb dX11_holds_79 (by decide) ?_
    refine lv_iload_n hx hb dX11_holds_81 rfl (lv_at hl 2 rfl) ?_
    refine lv_imul hx hb dX11_holds_82 ?_
    refine lv_iload_n hx hb dX11_holds_83 rfl (lv_at hl 1 rfl) ?_
    refine lv_iadd hx hb dX11_holds_84 ?_
    have hi12 := mq_ck_in h
    replace h := mq_ck_go h
    refine va_zald (f := S.2.1 38) hx hb hK hP 39 3 rfl rfl hi12 dX11_holds_85 ?_
    have hz13 := mq_cz_in h
    replace h := mq_cz_go h
    cases h
    exact hret H locs ls 86 dX11_holds_86 hz13.1 hP hD hS
  · replace h := mq_if c15 h
    refine lv_iconst (v := (0 : Int32)) hx hb dX11_holds_32 (by decide) ?_
    refine lv_topi (fun x14 ex14 => ?_)
    replace h := mq_nI_go ex14 h
    refine lv_istore (lv' := [(4, .int (x14)), (0, .ref (a 0)), (1, .int (v1)), (2, .int (v2)), (3, .int (v3))]) hx hb dX11_holds_33 hl (by decide) rfl (fun ls hl => ?_)
    exact zw_X11_holds_35 C hret hk27 N (v1) (v2) (v3) (x14) S H locs ls h (lv_sub hl [1, 2, 3, 4, 0] rfl) hP hD hS
set_option maxHeartbeats 4000000 in
set_option maxRecDepth 100000 in
theorem zw_X11_holds_27 {p : Program} {l : Launch} {e : Env} {s : State} {m : MethodId} {args : Array Value} {below : List Frame} {meth : Method} {c : Code} {A : Nat → Prop} {D : va_G} {a z : Nat → Nat} {cI cL cB cZ : ClassId} {Q : State → Prop} {N : Nat} {res : Int32 × mq_St} (C : mq_C p s m args c A D cI cL cB cZ cX11_holds 5 RX11 zc_X11_holds) (hret : ∀ (H : Heap) (locs : List Loc) (ls : Array Slot) (pc : Nat), decode cX11_holds pc = .ok (.ireturn, 1) → narrow .boolean (.int res.1) = .int res.1 → va_P D vwCl (wd_R a cI cL cB cZ z res.2) H → va_D A (wd_R a cI cL cB cZ z res.2) → va_S A s.heap H locs → W p l e zr_X11_holds s m args below meth c H locs 0 0 Q (F0 m pc ls [.int res.1])) : ∀ (n : Nat) (v1 : Int32) (v2 : Int32) (v3 : Int32) (S : mq_St) (H : Heap) (locs : List Loc) (ls : Array Slot) (h : zf_X11_holds_27 N z n v1 v2 v3 S = some res) (hl : lv_has ls 5 [(0, .ref (a 0)), (1, .int (v1)), (2, .int (v2)), (3, .int (v3))]) (hP : va_P D vwCl (wd_R a cI cL cB cZ z S) H) (hD : va_D A (wd_R a cI cL cB cZ z S)) (hS : va_S A s.heap H locs), W p l e zr_X11_holds s m args below meth c H locs 0 0 Q (F0 m 27 ls []) := by
  intro n
  induction n with
  | zero =>
    intro v1 v2 v3 S H locs ls h hl hP hD hS
    exact nomatch (show (none : Option (Int32 × mq_St)) = some res from h)
  | succ n ih =>
    intro v1 v2 v3 S H locs ls h hl hP hD hS
    exact zw_X11_holds_27b C hret (fun v1 v2 v3 S H locs ls h hl hP hD hS => ih v1 v2 v3 S H locs ls h hl hP hD hS) v1 v2 v3 S H locs ls h hl hP hD hS
set_option maxHeartbeats 4000000 in
set_option maxRecDepth 100000 in
theorem zw_X11_holds_0 {p : Program} {l : Launch} {e : Env} {s : State} {m : MethodId} {args : Array Value} {below : List Frame} {meth : Method} {c : Code} {A : Nat → Prop} {D : va_G} {a z : Nat → Nat} {cI cL cB cZ : ClassId} {Q : State → Prop} {N : Nat} {res : Int32 × mq_St} (C : mq_C p s m args c A D cI cL cB cZ cX11_holds 5 RX11 zc_X11_holds) (hret : ∀ (H : Heap) (locs : List Loc) (ls : Array Slot) (pc : Nat), decode cX11_holds pc = .ok (.ireturn, 1) → narrow .boolean (.int res.1) = .int res.1 → va_P D vwCl (wd_R a cI cL cB cZ z res.2) H → va_D A (wd_R a cI cL cB cZ z res.2) → va_S A s.heap H locs → W p l e zr_X11_holds s m args below meth c H locs 0 0 Q (F0 m pc ls [.int res.1])) (v1 : Int32) (v2 : Int32) (S : mq_St) (H : Heap) (locs : List Loc) (ls : Array Slot) (h : zf_X11_holds N z v1 v2 S = some res) (hl : lv_has ls 5 [(0, .ref (a 0)), (1, .int (v1)), (2, .int (v2))]) (hP : va_P D vwCl (wd_R a cI cL cB cZ z S) H) (hD : va_D A (wd_R a cI cL cB cZ z S)) (hS : va_S A s.heap H locs) : W p l e zr_X11_holds s m args below meth c H locs 0 0 Q (F0 m 0 ls []) := by
  obtain ⟨hx, hb, hml, hown, hts, hK, hA⟩ := id C
  unfold zf_X11_holds at h
  refine lv_aload_n hx hb dX11_holds_0 rfl (lv_at hl 0 rfl) ?_
  refine lv_iload_n hx hb dX11_holds_1 rfl (lv_at hl 1 rfl) ?_
  obtain ⟨q1, hc2, h⟩ := mq_cl_go h
  refine zk_X11_world0 C zt_m_X11_384 ⟨by decide, by decide⟩ hc2 hP hD hS hl.1 (Nat.le_of_ble_eq_true rfl) dX11_holds_2 (fun H locs hP hD hS => ?_)
  obtain ⟨S3, eS3⟩ : ∃ y, y = q1.2 := ⟨_, rfl⟩
  rw [← eS3] at hP hD h
  refine lv_if_ne (tgt := 10) hx hb dX11_holds_5 (by decide) (fun c11 => ?_) (fun c11 => ?_)
  · replace h := mq_if c11 h
    refine lv_aload_n hx hb dX11_holds_10 rfl (lv_at hl 0 rfl) ?_
    refine lv_iload_n hx hb dX11_holds_11 rfl (lv_at hl 2 rfl) ?_
    obtain ⟨q4, hc5, h⟩ := mq_cp_go h
    refine zk_X11_isFormula C zt_m_X11_264 ⟨by decide, by decide⟩ hc5 hP hD hS hl.1 (Nat.le_of_ble_eq_true rfl) dX11_holds_12 (fun H locs hP hD hS => ?_)
    refine lv_if_ne (tgt := 25) hx hb dX11_holds_15 (by decide) (fun c9 => ?_) (fun c9 => ?_)
    · replace h := mq_if c9 h
      refine lv_iconst (v := (0 : Int32)) hx hb dX11_holds_25 (by decide) ?_
      refine lv_topi (fun x6 ex6 => ?_)
      replace h := mq_nI_go ex6 h
      refine lv_istore_n (lv' := [(3, .int (x6)), (0, .ref (a 0)), (1, .int (v1)), (2, .int (v2))]) hx hb dX11_holds_26 rfl hl (by decide) rfl (fun ls hl => ?_)
      exact zw_X11_holds_27 C hret N (v1) (v2) (x6) S3 H locs ls h (lv_sub hl [1, 2, 3, 0] rfl) hP hD hS
    · replace h := mq_it (by simpa using c9) h
      refine lv_aload_n hx hb dX11_holds_18 rfl (lv_at hl 0 rfl) ?_
      refine lv_iconst (v := (1 : Int32)) hx hb dX11_holds_19 (by decide) ?_
      refine mq_put (w := wd_R a cI cL cB cZ z) (S := S3) (D := D) (ci := 11) (v := (1 : Int32)) (ty := .int) (C := RX11) (T := TX11) (N := 76) hx hb hts (zi_X11 _) tyX11 tyX11_ok nmX11 hown hK hP hD hS 0 rfl rfl 0 (by decide) (hts _ (List.mem_cons_of_mem _ zt_f_X11_151)) (fun _ h9 => h9) rfl (by decide +kernel) rfl rfl (Nat.le_of_ble_eq_true rfl) dX11_holds_20 0 (zs_wd_R_i_0_0 _ _ _ _ _ _ _ _) (fun S7 eS7 H locs hP hD hS => ?_)
      replace h := mq_nS_go eS7 h
      refine lv_iconst (v := (0 : Int32)) hx hb dX11_holds_23 (by decide) ?_
      have hz8 := mq_cz_in h
      replace h := mq_cz_go h
      cases h
      exact hret H locs ls 24 dX11_holds_24 hz8.1 hP hD hS
  · replace h := mq_it (by simpa using c11) h
    refine lv_iconst (v := (0 : Int32)) hx hb dX11_holds_8 (by decide) ?_
    have hz10 := mq_cz_in h
    replace h := mq_cz_go h
    cases h
    exact hret H locs ls 9 dX11_holds_9 hz10.1 hP hD hS
set_option maxHeartbeats 4000000 in
set_option maxRecDepth 100000 in
theorem zm_X11_holds (l : Launch) (D : va_G) (a z : Nat → Nat) (cI cL cB cZ : ClassId) (sz N : Nat) (v1 : Int32) (v2 : Int32) (S : mq_St) (res : Int32 × mq_St) (h : zf_X11_holds N z v1 v2 S = some res) : Met l yX11_holds (zc_X11_holds :: mq_T) zr_X11_holds (va_Pc [.ref (a 0), .int (v1), .int (v2)] (fun U => U.heap.size = sz ∧ va_P D vwCl (wd_R a cI cL cB cZ z S) U.heap ∧ va_K D vwCl (mq_tys cI cL cB cZ) U ∧ va_D (fun _ => True) (wd_R a cI cL cB cZ z S))) (va_Qi (fun (r : Int32) (u : mq_St) => r = res.1 ∧ u = res.2) (fun u t => va_P D vwCl (wd_R a cI cL cB cZ z u) t.heap ∧ va_K D vwCl (mq_tys cI cL cB cZ) t ∧ va_D (va_A (wd_R a cI cL cB cZ z S) sz) (wd_R a cI cL cB cZ z u)) (va_A (wd_R a cI cL cB cZ z S) sz)) 0 0 (va_A (wd_R a cI cL cB cZ z S) sz) := by
  refine Met.ofW (cc := cX11_holds) (maxL := 5) (ret := (some .boolean)) (by decide) rfl ?_
  intro p e s m args below meth c s₁ B hml hv
  obtain ⟨rfl, hsz, hP, hK, hD0⟩ := hv
  have hr := B.returns
  have hlocks := B.notSynchronized
  have hts := atoms_spec (ws := zc_X11_holds :: mq_T) B.pre
  have hown : s.vm.findClass RX11 = some m.cls := findClass_of_methodNamed B.named
  subst hsz
  have hD := hD0.self (sz := s.heap.size)
  generalize hAe : va_A (wd_R a cI cL cB cZ z S) s.heap.size = A at hD ⊢
  have hA : ∀ q : Nat, s.heap.size ≤ q → A q := fun q h => by rw [← hAe]; exact Or.inr h
  have hl := lv_entry ([.ref (a 0), .int (v1), .int (v2)]) (n := 5) (Nat.le_of_ble_eq_true rfl)
  rw [lg_entry_eq]
  generalize (lg_sl ([.ref (a 0), .int (v1), .int (v2)]) ++ List.replicate (5 - (lg_sl ([.ref (a 0), .int (v1), .int (v2)])).length) Slot.unset).toArray = ls at hl ⊢
  have hl : lv_has ls 5 [(0, .ref (a 0)), (1, .int (v1)), (2, .int (v2))] := hl
  refine zw_X11_holds_0 (A := A) ⟨B.exec, B.bytes, hml, hown, hts, hK, hA⟩ (fun H locs ls pc dg hz hP hD hS => ?_) v1 v2 S s.heap [] ls h hl hP hD va_S.rf
  exact W.zret B.exec B.bytes hr hz (fun t ht hW => ⟨⟨_, _, rfl, ⟨rfl, rfl⟩, by rw [ht]; exact hP, va_K.moved hW.alike hK, hD⟩, hS.F ht⟩) hS.2.2 dg
theorem zt_X11_holds_c : zc_X11_holds ∈ mq_T := mq_T_mem (mq_t7 (List.mem_of_getElem? (i := 159) rfl)) rfl
theorem zt_X11_holds_i : Cond.instanceMethod yX11_holds ∈ mq_T := mq_T_mem (mq_t7 (List.mem_of_getElem? (i := 157) rfl)) rfl
theorem zt_X11_holds_s : Cond.selects RX11 yX11_holds yX11_holds ∈ mq_T := mq_T_mem (mq_t7 (List.mem_of_getElem? (i := 158) rfl)) rfl
/-! ModalDeskModel.isMutual(II)Z -/
def zr_X11_isMutual : Room := { frames := 0, cells := 0, slots := 0, locals := 0 }
def zc_X11_isMutual : Cond := .code yX11_isMutual cX11_isMutual 3 (some .boolean)
def zf_X11_isMutual (N : Nat) (z : Nat → Nat) (v1 : Int32) (v2 : Int32) (S : mq_St) : Option (Int32) := (mq_ck ((((60 : Int32) * v1) + v2)) 3600 (if (S.2.1 35 ((((60 : Int32) * v1) + v2)).toNatClampNeg) = (0 : Int32) then (mq_cz ((0 : Int32)) (some ((0 : Int32)))) else (mq_ck ((((60 : Int32) * v2) + v1)) 3600 (if (S.2.1 35 ((((60 : Int32) * v2) + v1)).toNatClampNeg) = (0 : Int32) then (mq_cz ((0 : Int32)) (some ((0 : Int32)))) else (mq_cz ((1 : Int32)) (some ((1 : Int32))))))))
set_option maxHeartbeats 4000000 in
set_option maxRecDepth 100000 in
theorem zw_X11_isMutual_0 {p : Program} {l : Launch} {e : Env} {s : State} {m : MethodId} {args : Array Value} {below : List Frame} {meth : Method} {c : Code} {A : Nat → Prop} {D : va_G} {a z : Nat → Nat} {cI cL cB cZ : ClassId} {Q : State → Prop} {N : Nat} {S : mq_St} {res : Int32} (C : mq_C p s m args c A D cI cL cB cZ cX11_isMutual 3 RX11 zc_X11_isMutual) (hret : ∀ (H : Heap) (locs : List Loc) (ls : Array Slot) (pc : Nat), decode cX11_isMutual pc = .ok (.ireturn, 1) → narrow .boolean (.int res) = .int res → va_P D vwCl (wd_R a cI cL cB cZ z S) H → va_D A (wd_R a cI cL cB cZ z S) → va_S A s.heap H locs → W p l e zr_X11_isMutual s m args below meth c H locs 0 0 Q (F0 m pc ls [.int res])) (v1 : Int32) (v2 : Int32) (H : Heap) (locs : List Loc) (ls : Array Slot) (h : zf_X11_isMutual N z v1 v2 S = some res) (hl : lv_has ls 3 [(0, .ref (a 0)), (1, .int (v1)), (2, .int (v2))]) (hP : va_P D vwCl (wd_R a cI cL cB cZ z S) H) (hD : va_D A (wd_R a cI cL cB cZ z S)) (hS : va_S A s.heap H locs) : W p l e zr_X11_isMutual s m args below meth c H locs 0 0 Q (F0 m 0 ls []) := by
  obtain ⟨hx, hb, hml, hown, hts, hK, hA⟩ := id C
  unfold zf_X11_isMutual at h
  refine lv_aload_n hx hb dX11_isMutual_0 rfl (lv_at hl 0 rfl) ?_
  refine va_get (D := D) (ci := 11) (v := .ref (a 36)) (C := RX11) (T := TX11) (N := 76) hx hb hts (zi_X11 _) hown hK hP 0 rfl rfl 67 (by decide) (hts _ (List.mem_cons_of_mem _ zt_f_X11_124)) (fun _ h9 => h9) rfl dX11_isMutual_1 ?_
  refine lv_bipush (v := (60 : Int32)) hx hb dX11_isMutual_4 (by decide) ?_
  refine lv_iload_n hx hb dX11_isMutual_6 rfl (lv_at hl 1 rfl) ?_
  refine lv_imul hx hb dX11_isMutual_7 ?_
  refine lv_iload_n hx hb dX11_isMutual_8 rfl (lv_at hl 2 rfl) ?_
  refine lv_iadd hx hb dX11_isMutual_9 ?_
  have hi1 := mq_ck_in h
  replace h := mq_ck_go h
  refine va_zald (f := S.2.1 35) hx hb hK hP 36 3 rfl rfl hi1 dX11_isMutual_10 ?_
  refine lv_if_eq (tgt := 32) hx hb dX11_isMutual_11 (by decide) (fun c7 => ?_) (fun c7 => ?_)
  · replace h := mq_it c7 h
    refine lv_iconst (v := (0 : Int32)) hx hb dX11_isMutual_32 (by decide) ?_
    have hz2 := mq_cz_in h
    replace h := mq_cz_go h
    cases h
    exact hret H locs ls 33 dX11_isMutual_33 hz2.1 hP hD hS
  · replace h := mq_if c7 h
    refine lv_aload_n hx hb dX11_isMutual_14 rfl (lv_at hl 0 rfl) ?_
    refine va_get (D := D) (ci := 11) (v := .ref (a 36)) (C := RX11) (T := TX11) (N := 76) hx hb hts (zi_X11 _) hown hK hP 0 rfl rfl 67 (by decide) (hts _ (List.mem_cons_of_mem _ zt_f_X11_124)) (fun _ h9 => h9) rfl dX11_isMutual_15 ?_
    refine lv_bipush (v := (60 : Int32)) hx hb dX11_isMutual_18 (by decide) ?_
    refine lv_iload_n hx hb dX11_isMutual_20 rfl (lv_at hl 2 rfl) ?_
    refine lv_imul hx hb dX11_isMutual_21 ?_
    refine lv_iload_n hx hb dX11_isMutual_22 rfl (lv_at hl 1 rfl) ?_
    refine lv_iadd hx hb dX11_isMutual_23 ?_
    have hi3 := mq_ck_in h
    replace h := mq_ck_go h
    refine va_zald (f := S.2.1 35) hx hb hK hP 36 3 rfl rfl hi3 dX11_isMutual_24 ?_
    refine lv_if_eq (tgt := 32) hx hb dX11_isMutual_25 (by decide) (fun c6 => ?_) (fun c6 => ?_)
    · replace h := mq_it c6 h
      refine lv_iconst (v := (0 : Int32)) hx hb dX11_isMutual_32 (by decide) ?_
      have hz4 := mq_cz_in h
      replace h := mq_cz_go h
      cases h
      exact hret H locs ls 33 dX11_isMutual_33 hz4.1 hP hD hS
    · replace h := mq_if c6 h
      refine lv_iconst (v := (1 : Int32)) hx hb dX11_isMutual_28 (by decide) ?_
      refine lv_goto (tgt := 33) hx hb dX11_isMutual_29 (by decide) ?_
      have hz5 := mq_cz_in h
      replace h := mq_cz_go h
      cases h
      exact hret H locs ls 33 dX11_isMutual_33 hz5.1 hP hD hS
set_option maxHeartbeats 4000000 in
set_option maxRecDepth 100000 in
theorem zm_X11_isMutual (l : Launch) (D : va_G) (a z : Nat → Nat) (cI cL cB cZ : ClassId) (sz N : Nat) (v1 : Int32) (v2 : Int32) (S : mq_St) (res : Int32) (h : zf_X11_isMutual N z v1 v2 S = some res) : Met l yX11_isMutual (zc_X11_isMutual :: mq_T) zr_X11_isMutual (va_Pc [.ref (a 0), .int (v1), .int (v2)] (fun U => U.heap.size = sz ∧ va_P D vwCl (wd_R a cI cL cB cZ z S) U.heap ∧ va_K D vwCl (mq_tys cI cL cB cZ) U ∧ va_D (fun _ => True) (wd_R a cI cL cB cZ z S))) (va_Qi (fun (r : Int32) (u : mq_St) => r = res ∧ u = S) (fun u t => va_P D vwCl (wd_R a cI cL cB cZ z u) t.heap ∧ va_K D vwCl (mq_tys cI cL cB cZ) t ∧ va_D (va_A (wd_R a cI cL cB cZ z S) sz) (wd_R a cI cL cB cZ z u)) (va_A (wd_R a cI cL cB cZ z S) sz)) 0 0 (va_A (wd_R a cI cL cB cZ z S) sz) := by
  refine Met.ofW (cc := cX11_isMutual) (maxL := 3) (ret := (some .boolean)) (by decide) rfl ?_
  intro p e s m args below meth c s₁ B hml hv
  obtain ⟨rfl, hsz, hP, hK, hD0⟩ := hv
  have hr := B.returns
  have hlocks := B.notSynchronized
  have hts := atoms_spec (ws := zc_X11_isMutual :: mq_T) B.pre
  have hown : s.vm.findClass RX11 = some m.cls := findClass_of_methodNamed B.named
  subst hsz
  have hD := hD0.self (sz := s.heap.size)
  generalize hAe : va_A (wd_R a cI cL cB cZ z S) s.heap.size = A at hD ⊢
  have hA : ∀ q : Nat, s.heap.size ≤ q → A q := fun q h => by rw [← hAe]; exact Or.inr h
  have hl := lv_entry ([.ref (a 0), .int (v1), .int (v2)]) (n := 3) (Nat.le_of_ble_eq_true rfl)
  rw [lg_entry_eq]
  generalize (lg_sl ([.ref (a 0), .int (v1), .int (v2)]) ++ List.replicate (3 - (lg_sl ([.ref (a 0), .int (v1), .int (v2)])).length) Slot.unset).toArray = ls at hl ⊢
  have hl : lv_has ls 3 [(0, .ref (a 0)), (1, .int (v1)), (2, .int (v2))] := hl
  refine zw_X11_isMutual_0 (A := A) ⟨B.exec, B.bytes, hml, hown, hts, hK, hA⟩ (fun H locs ls pc dg hz hP hD hS => ?_) v1 v2 s.heap [] ls h hl hP hD va_S.rf
  exact W.zret B.exec B.bytes hr hz (fun t ht hW => ⟨⟨_, _, rfl, ⟨rfl, rfl⟩, by rw [ht]; exact hP, va_K.moved hW.alike hK, hD⟩, hS.F ht⟩) hS.2.2 dg
theorem zt_X11_isMutual_c : zc_X11_isMutual ∈ mq_T := mq_T_mem (mq_t7 (List.mem_of_getElem? (i := 171) rfl)) rfl
theorem zt_X11_isMutual_i : Cond.instanceMethod yX11_isMutual ∈ mq_T := mq_T_mem (mq_t7 (List.mem_of_getElem? (i := 170) rfl)) rfl
theorem zt_X11_isMutual_s : Cond.selects RX11 yX11_isMutual yX11_isMutual ∈ mq_T := mq_T_at 105 (by decide +kernel)
set_option maxHeartbeats 4000000 in
theorem zk_X11_isMutual {p : Program} {l : Launch} {e : Env} {R : Room} {s : State} {m : MethodId} {args : Array Value} {below : List Frame} {meth : Method} {c : Code} {A : Nat → Prop} {D : va_G} {a z : Nat → Nat} {cI cL cB cZ : ClassId} {Q : State → Prop} {cc : ByteArray} {nL idx pc N : Nat} {own : String} {c1 : Cond} {H : Heap} {locs : List Loc} {ls : Array Slot} {rest : List Value} {S : mq_St} {res : Int32} {v1 : Int32} {v2 : Int32} (C : mq_C p s m args c A D cI cL cB cZ cc nL own c1) (hlk : Cond.methodLink own idx yX11_isMutual ∈ mq_T) (hR : zr_X11_isMutual.frames + 1 ≤ R.frames ∧ 8 + (3 + 11) + zr_X11_isMutual.locals ≤ R.locals) (h : zf_X11_isMutual N z v1 v2 S = some res) (hP : va_P D vwCl (wd_R a cI cL cB cZ z S) H) (hD : va_D A (wd_R a cI cL cB cZ z S)) (hS : va_S A s.heap H locs) (hls : ls.size = nL) (hrest : (rest.map fun v => v.category).sum ≤ 8) (hdg : decode cc pc = .ok (.invokevirtual idx, 3)) (kk : ∀ (H1 : Heap) (locs1 : List Loc), va_P D vwCl (wd_R a cI cL cB cZ z S) H1 → va_D A (wd_R a cI cL cB cZ z S) → va_S A s.heap H1 locs1 → W p l e R s m args below meth c H1 locs1 0 0 Q (F0 m (pc + 3) ls (.int res :: rest))) : W p l e R s m args below meth c H locs 0 0 Q (F0 m pc ls (.int (v2) :: .int (v1) :: .ref (a 0) :: rest)) := by
  obtain ⟨hx, hb, hml, hown, hts, hK, hA⟩ := C
  have hFc := mq_freeI hD hS hA
  refine va_calli (va_runV (As := [.int (v1), .int (v2)]) (rest := rest) ⟨hx, hb, hml, hown, hts⟩ (zm_X11_isMutual l D a z cI cL cB cZ H.size N v1 v2 S res h) (cwV 2 hts (mq_goodL (mq_wsV hlk zt_X11_isMutual_i zt_X11_isMutual_s zt_ini_X11 zt_X11_isMutual_c)) rfl rfl rfl (by decide +kernel) hR) ⟨fun a U g mk q => ⟨q.1, q.2.1, q.2.2.1, va_K.moved (u := U) (U := U.calling g mk a) (Vm.Alike.refl U.vm) q.2.2.2.1, q.2.2.2.2⟩, zy_R_0 hK hP, fun U hU hW => ⟨rfl, by rw [hU], by rw [hU]; exact hP, va_K.moved hW.alike hK, hD.weaken (fun _ _ _ _ => trivial)⟩⟩ rfl rfl hls rfl (lv_room hrest) hdg ⟨Nat.zero_le _, Nat.zero_le _⟩) hS (fun q _ h => hFc q h) hFc (fun r u t H1 locs ht hvm hw hB hz1 hk1 hS => ?_)
  obtain ⟨rfl, rfl⟩ := hw
  obtain ⟨hP1, hK1, hD1⟩ := hB
  rw [ht] at hP1
  exact kk H1 locs hP1 (hD1.weaken (fun _ _ _ h => hFc _ h)) hS
theorem zt_m_X11_390 : Cond.methodLink RX11 390 yX11_isMutual ∈ mq_T := mq_T_mem (mq_t7 (List.mem_of_getElem? (i := 168) rfl)) rfl
/-! ModalDeskModel.world(II)I -/
def zr_X11_world : Room := { frames := 2, cells := 0, slots := 0, locals := 43 }
def zc_X11_world : Cond := .code yX11_world cX11_world 8 (some .int)
def zf_X11_world_72 (N : Nat) (z : Nat → Nat) (k50 : Int32 → Int32 → Int32 → Int32 → mq_St → Option (Int32 × mq_St)) (v1 : Int32) (v3 : Int32) (v5 : Int32) (t0 : Int32) (S : mq_St) : Option (Int32 × mq_St) := (mq_nI (t0) (fun x31 => (mq_nI (v5 + (-1 : Int32)) (fun x32 => (k50 (v1) (v3) (x31) (x32) S)))))
def zf_X11_world_124 (N : Nat) (z : Nat → Nat) (k83 : Int32 → Int32 → Int32 → mq_St → Option (Int32 × mq_St)) (k96 : Int32 → Int32 → Int32 → Int32 → Int32 → mq_St → Option (Int32 × mq_St)) (v3 : Int32) (v4 : Int32) (v5 : Int32) (v7 : Int32) (t0 : Int32) (S : mq_St) : Option (Int32 × mq_St) := (mq_nI (t0) (fun x42 => (mq_nI (v7 + (1 : Int32)) (fun x43 => (k96 (v3) (v4) (v5) (x42) (x43) S)))))
def zf_X11_world_123 (N : Nat) (z : Nat → Nat) (k83 : Int32 → Int32 → Int32 → mq_St → Option (Int32 × mq_St)) (k96 : Int32 → Int32 → Int32 → Int32 → Int32 → mq_St → Option (Int32 × mq_St)) (v3 : Int32) (v4 : Int32) (v5 : Int32) (v7 : Int32) (S : mq_St) : Option (Int32 × mq_St) := (zf_X11_world_124 N z k83 k96 (v3) (v4) (v5) (v7) ((0 : Int32)) S)
def zf_X11_world_143 (N : Nat) (z : Nat → Nat) (k83 : Int32 → Int32 → Int32 → mq_St → Option (Int32 × mq_St)) (v4 : Int32) (v5 : Int32) (t0 : Int32) (t1 : Int32) (S : mq_St) : Option (Int32 × mq_St) := (mq_nI ((t0 + t1)) (fun x44 => (mq_nI (v5 + (1 : Int32)) (fun x45 => (k83 (x44) (v4) (x45) S)))))
def zf_X11_world_96b (N : Nat) (z : Nat → Nat) (k83 : Int32 → Int32 → Int32 → mq_St → Option (Int32 × mq_St)) (k96 : Int32 → Int32 → Int32 → Int32 → Int32 → mq_St → Option (Int32 × mq_St)) (v3 : Int32) (v4 : Int32) (v5 : Int32) (v6 : Int32) (v7 : Int32) (S : mq_St) : Option (Int32 × mq_St) := (if v5 ≤ v7 then (if v6 = (0 : Int32) then (zf_X11_world_143 N z k83 (v4) (v5) (v3) ((0 : Int32)) S) else (zf_X11_world_143 N z k83 (v4) (v5) (v3) ((1 : Int32)) S)) else (if v6 = (0 : Int32) then (zf_X11_world_123 N z k83 k96 (v3) (v4) (v5) (v7) S) else (mq_cp (zf_X11_isMutual N z (v5) (v7) S) (fun q37 => (if q37 = (0 : Int32) then (zf_X11_world_124 N z k83 k96 (v3) (v4) (v5) (v7) ((1 : Int32)) S) else (zf_X11_world_123 N z k83 k96 (v3) (v4) (v5) (v7) S))))))
def zf_X11_world_96 (N : Nat) (z : Nat → Nat) (k83 : Int32 → Int32 → Int32 → mq_St → Option (Int32 × mq_St)) : Nat → Int32 → Int32 → Int32 → Int32 → Int32 → mq_St → Option (Int32 × mq_St)
  | 0, _, _, _, _, _, _ => none
  | n + 1, v3, v4, v5, v6, v7, S => zf_X11_world_96b N z k83 (fun v3 v4 v5 v6 v7 S => zf_X11_world_96 N z k83 n v3 v4 v5 v6 v7 S) v3 v4 v5 v6 v7 S
def zf_X11_world_83b (N : Nat) (z : Nat → Nat) (k83 : Int32 → Int32 → Int32 → mq_St → Option (Int32 × mq_St)) (v3 : Int32) (v4 : Int32) (v5 : Int32) (S : mq_St) : Option (Int32 × mq_St) := (if v4 ≤ v5 then (some (v3, S)) else (mq_nI ((1 : Int32)) (fun x33 => (mq_nI ((0 : Int32)) (fun x34 => (zf_X11_world_96 N z k83 N (v3) (v4) (v5) (x33) (x34) S))))))
def zf_X11_world_83 (N : Nat) (z : Nat → Nat) : Nat → Int32 → Int32 → Int32 → mq_St → Option (Int32 × mq_St)
  | 0, _, _, _, _ => none
  | n + 1, v3, v4, v5, S => zf_X11_world_83b N z (fun v3 v4 v5 S => zf_X11_world_83 N z n v3 v4 v5 S) v3 v4 v5 S
def zf_X11_world_50b (N : Nat) (z : Nat → Nat) (k50 : Int32 → Int32 → Int32 → Int32 → mq_St → Option (Int32 × mq_St)) (v1 : Int32) (v3 : Int32) (v4 : Int32) (v5 : Int32) (S : mq_St) : Option (Int32 × mq_St) := (if v5 < (0 : Int32) then (mq_nI ((0 : Int32)) (fun x26 => (zf_X11_world_83 N z N (v3) (v4) (x26) S))) else (mq_cp (zf_X11_isMutual N z (v1) (v5) S) (fun q27 => (if q27 = (0 : Int32) then (zf_X11_world_72 N z k50 (v1) (v3) (v5) (v4) S) else (zf_X11_world_72 N z k50 (v1) (v3) (v5) (v5) S)))))
def zf_X11_world_50 (N : Nat) (z : Nat → Nat) : Nat → Int32 → Int32 → Int32 → Int32 → mq_St → Option (Int32 × mq_St)
  | 0, _, _, _, _, _ => none
  | n + 1, v1, v3, v4, v5, S => zf_X11_world_50b N z (fun v1 v3 v4 v5 S => zf_X11_world_50 N z n v1 v3 v4 v5 S) v1 v3 v4 v5 S
def zf_X11_world_181 (N : Nat) (z : Nat → Nat) (k156 : Int32 → Int32 → Int32 → mq_St → Option (Int32 × mq_St)) (v1 : Int32) (v5 : Int32) (t0 : Int32) (t1 : Int32) (S : mq_St) : Option (Int32 × mq_St) := (mq_nI ((t0 + t1)) (fun x24 => (mq_nI (v5 + (1 : Int32)) (fun x25 => (k156 (v1) (x24) (x25) S)))))
def zf_X11_world_156b (N : Nat) (z : Nat → Nat) (k156 : Int32 → Int32 → Int32 → mq_St → Option (Int32 × mq_St)) (v1 : Int32) (v3 : Int32) (v5 : Int32) (S : mq_St) : Option (Int32 × mq_St) := (if (S.1 31) ≤ v5 then (some (v3, S)) else (mq_cp (zf_X11_isMutual N z (v1) (v5) S) (fun q20 => (if q20 = (0 : Int32) then (zf_X11_world_181 N z k156 (v1) (v5) (v3) ((0 : Int32)) S) else (zf_X11_world_181 N z k156 (v1) (v5) (v3) ((1 : Int32)) S)))))
def zf_X11_world_156 (N : Nat) (z : Nat → Nat) : Nat → Int32 → Int32 → Int32 → mq_St → Option (Int32 × mq_St)
  | 0, _, _, _, _ => none
  | n + 1, v1, v3, v5, S => zf_X11_world_156b N z (fun v1 v3 v5 S => zf_X11_world_156 N z n v1 v3 v5 S) v1 v3 v5 S
def zf_X11_world_224 (N : Nat) (z : Nat → Nat) (k194 : Int32 → Int32 → Int32 → mq_St → Option (Int32 × mq_St)) (v1 : Int32) (v5 : Int32) (t0 : Int32) (t1 : Int32) (S : mq_St) : Option (Int32 × mq_St) := (mq_nI ((t0 + t1)) (fun x18 => (mq_nI (v5 + (1 : Int32)) (fun x19 => (k194 (v1) (x18) (x19) S)))))
def zf_X11_world_194b (N : Nat) (z : Nat → Nat) (k194 : Int32 → Int32 → Int32 → mq_St → Option (Int32 × mq_St)) (v1 : Int32) (v3 : Int32) (v5 : Int32) (S : mq_St) : Option (Int32 × mq_St) := (if (S.1 31) ≤ v5 then (some (v3, S)) else (mq_ck ((((60 : Int32) * v1) + v5)) 3600 (if (S.2.1 35 ((((60 : Int32) * v1) + v5)).toNatClampNeg) = (0 : Int32) then (zf_X11_world_224 N z k194 (v1) (v5) (v3) ((0 : Int32)) S) else (zf_X11_world_224 N z k194 (v1) (v5) (v3) ((1 : Int32)) S))))
def zf_X11_world_194 (N : Nat) (z : Nat → Nat) : Nat → Int32 → Int32 → Int32 → mq_St → Option (Int32 × mq_St)
  | 0, _, _, _, _ => none
  | n + 1, v1, v3, v5, S => zf_X11_world_194b N z (fun v1 v3 v5 S => zf_X11_world_194 N z n v1 v3 v5 S) v1 v3 v5 S
def zf_X11_world (N : Nat) (z : Nat → Nat) (v1 : Int32) (v2 : Int32) (S : mq_St) : Option (Int32 × mq_St) := (mq_cl (zf_X11_world0 N z (v1) S) (fun q1v S3 => (if q1v = (0 : Int32) then (some ((0 : Int32), S3)) else (mq_nI ((0 : Int32)) (fun x4 => (if v2 = 0 then (mq_nI (v1) (fun x6 => (mq_nI (v1) (fun x7 => (zf_X11_world_50 N z N (v1) (x4) (x6) (x7) S3))))) else (if v2 = 1 then (mq_nI ((0 : Int32)) (fun x9 => (zf_X11_world_156 N z N (v1) (x4) (x9) S3))) else (if v2 = 2 then (mq_nI ((0 : Int32)) (fun x11 => (zf_X11_world_194 N z N (v1) (x4) (x11) S3))) else (if v2 = 3 then (mq_ck (v1) 60 (some ((S3.2.1 36 (v1).toNatClampNeg), S3))) else (some ((-1 : Int32), S3)))))))))))
set_option maxHeartbeats 4000000 in
set_option maxRecDepth 100000 in
theorem zw_X11_world_72 {p : Program} {l : Launch} {e : Env} {s : State} {m : MethodId} {args : Array Value} {below : List Frame} {meth : Method} {c : Code} {A : Nat → Prop} {D : va_G} {a z : Nat → Nat} {cI cL cB cZ : ClassId} {Q : State → Prop} {N : Nat} {res : Int32 × mq_St} {k50 : Int32 → Int32 → Int32 → Int32 → mq_St → Option (Int32 × mq_St)} (C : mq_C p s m args c A D cI cL cB cZ cX11_world 8 RX11 zc_X11_world) (hret : ∀ (H : Heap) (locs : List Loc) (ls : Array Slot) (pc : Nat), decode cX11_world pc = .ok (.ireturn, 1) → va_P D vwCl (wd_R a cI cL cB cZ z res.2) H → va_D A (wd_R a cI cL cB cZ z res.2) → va_S A s.heap H locs → W p l e zr_X11_world s m args below meth c H locs 0 0 Q (F0 m pc ls [.int res.1])) (hk50 : ∀ (v1 : Int32) (v3 : Int32) (v4 : Int32) (v5 : Int32) (S : mq_St) (H : Heap) (locs : List Loc) (ls : Array Slot), k50 v1 v3 v4 v5 S = some res → lv_has ls 8 [(0, .ref (a 0)), (1, .int (v1)), (3, .int (v3)), (4, .int (v4)), (5, .int (v5))] → va_P D vwCl (wd_R a cI cL cB cZ z S) H → va_D A (wd_R a cI cL cB cZ z S) → va_S A s.heap H locs → W p l e zr_X11_world s m args below meth c H locs 0 0 Q (F0 m 50 ls [])) (v1 : Int32) (v3 : Int32) (v5 : Int32) (t0 : Int32) (S : mq_St) (H : Heap) (locs : List Loc) (ls : Array Slot) (h : zf_X11_world_72 N z k50 v1 v3 v5 t0 S = some res) (hl : lv_has ls 8 [(0, .ref (a 0)), (1, .int (v1)), (3, .int (v3)), (5, .int (v5))]) (hP : va_P D vwCl (wd_R a cI cL cB cZ z S) H) (hD : va_D A (wd_R a cI cL cB cZ z S)) (hS : va_S A s.heap H locs) : W p l e zr_X11_world s m args below meth c H locs 0 0 Q (F0 m 72 ls [.int (t0)]) := by
  obtain ⟨hx, hb, hml, hown, hts, hK, hA⟩ := id C
  unfold zf_X11_world_72 at h
  refine lv_topi (fun x31 ex31 => ?_)
  replace h := mq_nI_go ex31 h
  refine lv_istore (lv' := [(4, .int (x31)), (0, .ref (a 0)), (1, .int (v1)), (3, .int (v3)), (5, .int (v5))]) hx hb dX11_world_72 hl (by decide) rfl (fun ls hl => ?_)
  obtain ⟨x32, ex32⟩ : ∃ y : Int32, y = v5 + (-1 : Int32) := ⟨_, rfl⟩
  replace h := mq_nI_go ex32 h
  refine lv_iinc (v := x32) (lv' := [(5, .int (x32)), (4, .int (x31)), (0, .ref (a 0)), (1, .int (v1)), (3, .int (v3))]) hx hb dX11_world_74 hl (k := 4) rfl (by rw [ex32]; rfl) (by decide) rfl (fun ls hl => ?_)
  refine lv_goto (tgt := 50) hx hb dX11_world_77 (by decide) ?_
  exact hk50 (v1) (v3) (x31) (x32) S H locs ls h (lv_sub hl [2, 3, 4, 1, 0] rfl) hP hD hS
set_option maxHeartbeats 4000000 in
set_option maxRecDepth 100000 in
theorem zw_X11_world_124 {p : Program} {l : Launch} {e : Env} {s : State} {m : MethodId} {args : Array Value} {below : List Frame} {meth : Method} {c : Code} {A : Nat → Prop} {D : va_G} {a z : Nat → Nat} {cI cL cB cZ : ClassId} {Q : State → Prop} {N : Nat} {res : Int32 × mq_St} {k83 : Int32 → Int32 → Int32 → mq_St → Option (Int32 × mq_St)} {k96 : Int32 → Int32 → Int32 → Int32 → Int32 → mq_St → Option (Int32 × mq_St)} (C : mq_C p s m args c A D cI cL cB cZ cX11_world 8 RX11 zc_X11_world) (hret : ∀ (H : Heap) (locs : List Loc) (ls : Array Slot) (pc : Nat), decode cX11_world pc = .ok (.ireturn, 1) → va_P D vwCl (wd_R a cI cL cB cZ z res.2) H → va_D A (wd_R a cI cL cB cZ z res.2) → va_S A s.heap H locs → W p l e zr_X11_world s m args below meth c H locs 0 0 Q (F0 m pc ls [.int res.1])) (hk83 : ∀ (v3 : Int32) (v4 : Int32) (v5 : Int32) (S : mq_St) (H : Heap) (locs : List Loc) (ls : Array Slot), k83 v3 v4 v5 S = some res → lv_has ls 8 [(0, .ref (a 0)), (3, .int (v3)), (4, .int (v4)), (5, .int (v5))] → va_P D vwCl (wd_R a cI cL cB cZ z S) H → va_D A (wd_R a cI cL cB cZ z S) → va_S A s.heap H locs → W p l e zr_X11_world s m args below meth c H locs 0 0 Q (F0 m 83 ls [])) (hk96 : ∀ (v3 : Int32) (v4 : Int32) (v5 : Int32) (v6 : Int32) (v7 : Int32) (S : mq_St) (H : Heap) (locs : List Loc) (ls : Array Slot), k96 v3 v4 v5 v6 v7 S = some res → lv_has ls 8 [(0, .ref (a 0)), (3, .int (v3)), (4, .int (v4)), (5, .int (v5)), (6, .int (v6)), (7, .int (v7))] → va_P D vwCl (wd_R a cI cL cB cZ z S) H → va_D A (wd_R a cI cL cB cZ z S) → va_S A s.heap H locs → W p l e zr_X11_world s m args below meth c H locs 0 0 Q (F0 m 96 ls [])) (v3 : Int32) (v4 : Int32) (v5 : Int32) (v7 : Int32) (t0 : Int32) (S : mq_St) (H : Heap) (locs : List Loc) (ls : Array Slot) (h : zf_X11_world_124 N z k83 k96 v3 v4 v5 v7 t0 S = some res) (hl : lv_has ls 8 [(0, .ref (a 0)), (3, .int (v3)), (4, .int (v4)), (5, .int (v5)), (7, .int (v7))]) (hP : va_P D vwCl (wd_R a cI cL cB cZ z S) H) (hD : va_D A (wd_R a cI cL cB cZ z S)) (hS : va_S A s.heap H locs) : W p l e zr_X11_world s m args below meth c H locs 0 0 Q (F0 m 124 ls [.int (t0)]) := by
  obtain ⟨hx, hb, hml, hown, hts, hK, hA⟩ := id C
  unfold zf_X11_world_124 at h
  refine lv_topi (fun x42 ex42 => ?_)
  replace h := mq_nI_go ex42 h
  refine lv_istore (lv' := [(6, .int (x42)), (0, .ref (a 0)), (3, .int (v3)), (4, .int (v4)), (5, .int (v5)), (7, .int (v7))]) hx hb dX11_world_124 hl (by decide) rfl (fun ls hl => ?_)
  obtain ⟨x43, ex43⟩ : ∃ y : Int32, y = v7 + (1 : Int32) := ⟨_, rfl⟩
  replace h := mq_nI_go ex43 h
  refine lv_iinc (v := x43) (lv' := [(7, .int (x43)), (6, .int (x42)), (0, .ref (a 0)), (3, .int (v3)), (4, .int (v4)), (5, .int (v5))]) hx hb dX11_world_126 hl (k := 5) rfl (by rw [ex43]; rfl) (by decide) rfl (fun ls hl => ?_)
  refine lv_goto (tgt := 96) hx hb dX11_world_129 (by decide) ?_
  exact hk96 (v3) (v4) (v5) (x42) (x43) S H locs ls h (lv_sub hl [2, 3, 4, 5, 1, 0] rfl) hP hD hS
set_option maxHeartbeats 4000000 in
set_option maxRecDepth 100000 in
theorem zw_X11_world_123 {p : Program} {l : Launch} {e : Env} {s : State} {m : MethodId} {args : Array Value} {below : List Frame} {meth : Method} {c : Code} {A : Nat → Prop} {D : va_G} {a z : Nat → Nat} {cI cL cB cZ : ClassId} {Q : State → Prop} {N : Nat} {res : Int32 × mq_St} {k83 : Int32 → Int32 → Int32 → mq_St → Option (Int32 × mq_St)} {k96 : Int32 → Int32 → Int32 → Int32 → Int32 → mq_St → Option (Int32 × mq_St)} (C : mq_C p s m args c A D cI cL cB cZ cX11_world 8 RX11 zc_X11_world) (hret : ∀ (H : Heap) (locs : List Loc) (ls : Array Slot) (pc : Nat), decode cX11_world pc = .ok (.ireturn, 1) → va_P D vwCl (wd_R a cI cL cB cZ z res.2) H → va_D A (wd_R a cI cL cB cZ z res.2) → va_S A s.heap H locs → W p l e zr_X11_world s m args below meth c H locs 0 0 Q (F0 m pc ls [.int res.1])) (hk83 : ∀ (v3 : Int32) (v4 : Int32) (v5 : Int32) (S : mq_St) (H : Heap) (locs : List Loc) (ls : Array Slot), k83 v3 v4 v5 S = some res → lv_has ls 8 [(0, .ref (a 0)), (3, .int (v3)), (4, .int (v4)), (5, .int (v5))] → va_P D vwCl (wd_R a cI cL cB cZ z S) H → va_D A (wd_R a cI cL cB cZ z S) → va_S A s.heap H locs → W p l e zr_X11_world s m args below meth c H locs 0 0 Q (F0 m 83 ls [])) (hk96 : ∀ (v3 : Int32) (v4 : Int32) (v5 : Int32) (v6 : Int32) (v7 : Int32) (S : mq_St) (H : Heap) (locs : List Loc) (ls : Array Slot), k96 v3 v4 v5 v6 v7 S = some res → lv_has ls 8 [(0, .ref (a 0)), (3, .int (v3)), (4, .int (v4)), (5, .int (v5)), (6, .int (v6)), (7, .int (v7))] → va_P D vwCl (wd_R a cI cL cB cZ z S) H → va_D A (wd_R a cI cL cB cZ z S) → va_S A s.heap H locs → W p l e zr_X11_world s m args below meth c H locs 0 0 Q (F0 m 96 ls [])) (v3 : Int32) (v4 : Int32) (v5 : Int32) (v7 : Int32) (S : mq_St) (H : Heap) (locs : List Loc) (ls : Array Slot) (h : zf_X11_world_123 N z k83 k96 v3 v4 v5 v7 S = some res) (hl : lv_has ls 8 [(0, .ref (a 0)), (3, .int (v3)), (4, .int (v4)), (5, .int (v5)), (7, .int (v7))]) (hP : va_P D vwCl (wd_R a cI cL cB cZ z S) H) (hD : va_D A (wd_R a cI cL cB cZ z S)) (hS : va_S A s.heap H locs) : W p l e zr_X11_world s m args below meth c H locs 0 0 Q (F0 m 123 ls []) := by
  obtain ⟨hx, hb, hml, hown, hts, hK, hA⟩ := id C
  unfold zf_X11_world_123 at h
  refine lv_iconst (v := (0 : Int32)) hx hb dX11_world_123 (by decide) ?_
  exact zw_X11_world_124 C hret hk83 hk96 (v3) (v4) (v5) (v7) ((0 : Int32)) S H locs ls h (lv_sub hl [0, 1, 2, 3, 4] rfl) hP hD hS
set_option maxHeartbeats 4000000 in
set_option maxRecDepth 100000 in
theorem zw_X11_world_143 {p : Program} {l : Launch} {e : Env} {s : State} {m : MethodId} {args : Array Value} {below : List Frame} {meth : Method} {c : Code} {A : Nat → Prop} {D : va_G} {a z : Nat → Nat} {cI cL cB cZ : ClassId} {Q : State → Prop} {N : Nat} {res : Int32 × mq_St} {k83 : Int32 → Int32 → Int32 → mq_St → Option (Int32 × mq_St)} (C : mq_C p s m args c A D cI cL cB cZ cX11_world 8 RX11 zc_X11_world) (hret : ∀ (H : Heap) (locs : List Loc) (ls : Array Slot) (pc : Nat), decode cX11_world pc = .ok (.ireturn, 1) → va_P D vwCl (wd_R a cI cL cB cZ z res.2) H → va_D A (wd_R a cI cL cB cZ z res.2) → va_S A s.heap H locs → W p l e zr_X11_world s m args below meth c H locs 0 0 Q (F0 m pc ls [.int res.1])) (hk83 : ∀ (v3 : Int32) (v4 : Int32) (v5 : Int32) (S : mq_St) (H : Heap) (locs : List Loc) (ls : Array Slot), k83 v3 v4 v5 S = some res → lv_has ls 8 [(0, .ref (a 0)), (3, .int (v3)), (4, .int (v4)), (5, .int (v5))] → va_P D vwCl (wd_R a cI cL cB cZ z S) H → va_D A (wd_R a cI cL cB cZ z S) → va_S A s.heap H locs → W p l e zr_X11_world s m args below meth c H locs 0 0 Q (F0 m 83 ls [])) (v4 : Int32) (v5 : Int32) (t0 : Int32) (t1 : Int32) (S : mq_St) (H : Heap) (locs : List Loc) (ls : Array Slot) (h : zf_X11_world_143 N z k83 v4 v5 t0 t1 S = some res) (hl : lv_has ls 8 [(0, .ref (a 0)), (4, .int (v4)), (5, .int (v5))]) (hP : va_P D vwCl (wd_R a cI cL cB cZ z S) H) (hD : va_D A (wd_R a cI cL cB cZ z S)) (hS : va_S A s.heap H locs) : W p l e zr_X11_world s m args below meth c H locs 0 0 Q (F0 m 143 ls [.int (t1), .int (t0)]) := by
  obtain ⟨hx, hb, hml, hown, hts, hK, hA⟩ := id C
  unfold zf_X11_world_143 at h
  refine lv_iadd hx hb dX11_world_143 ?_
  refine lv_topi (fun x44 ex44 => ?_)
  replace h := mq_nI_go ex44 h
  refine lv_istore_n (lv' := [(3, .int (x44)), (0, .ref (a 0)), (4, .int (v4)), (5, .int (v5))]) hx hb dX11_world_144 rfl hl (by decide) rfl (fun ls hl => ?_)
  obtain ⟨x45, ex45⟩ : ∃ y : Int32, y = v5 + (1 : Int32) := ⟨_, rfl⟩
  replace h := mq_nI_go ex45 h
  refine lv_iinc (v := x45) (lv' := [(5, .int (x45)), (3, .int (x44)), (0, .ref (a 0)), (4, .int (v4))]) hx hb dX11_world_145 hl (k := 3) rfl (by rw [ex45]; rfl) (by decide) rfl (fun ls hl => ?_)
  refine lv_goto (tgt := 83) hx hb dX11_world_148 (by decide) ?_
  exact hk83 (x44) (v4) (x45) S H locs ls h (lv_sub hl [2, 1, 3, 0] rfl) hP hD hS
set_option maxHeartbeats 4000000 in
set_option maxRecDepth 100000 in
theorem zw_X11_world_96b {p : Program} {l : Launch} {e : Env} {s : State} {m : MethodId} {args : Array Value} {below : List Frame} {meth : Method} {c : Code} {A : Nat → Prop} {D : va_G} {a z : Nat → Nat} {cI cL cB cZ : ClassId} {Q : State → Prop} {N : Nat} {res : Int32 × mq_St} {k83 : Int32 → Int32 → Int32 → mq_St → Option (Int32 × mq_St)} {k96 : Int32 → Int32 → Int32 → Int32 → Int32 → mq_St → Option (Int32 × mq_St)} (C : mq_C p s m args c A D cI cL cB cZ cX11_world 8 RX11 zc_X11_world) (hret : ∀ (H : Heap) (locs : List Loc) (ls : Array Slot) (pc : Nat), decode cX11_world pc = .ok (.ireturn, 1) → va_P D vwCl (wd_R a cI cL cB cZ z res.2) H → va_D A (wd_R a cI cL cB cZ z res.2) → va_S A s.heap H locs → W p l e zr_X11_world s m args below meth c H locs 0 0 Q (F0 m pc ls [.int res.1])) (hk83 : ∀ (v3 : Int32) (v4 : Int32) (v5 : Int32) (S : mq_St) (H : Heap) (locs : List Loc) (ls : Array Slot), k83 v3 v4 v5 S = some res → lv_has ls 8 [(0, .ref (a 0)), (3, .int (v3)), (4, .int (v4)), (5, .int (v5))] → va_P D vwCl (wd_R a cI cL cB cZ z S) H → va_D A (wd_R a cI cL cB cZ z S) → va_S A s.heap H locs → W p l e zr_X11_world s m args below meth c H locs 0 0 Q (F0 m 83 ls [])) (hk96 : ∀ (v3 : Int32) (v4 : Int32) (v5 : Int32) (v6 : Int32) (v7 : Int32) (S : mq_St) (H : Heap) (locs : List Loc) (ls : Array Slot), k96 v3 v4 v5 v6 v7 S = some res → lv_has ls 8 [(0, .ref (a 0)), (3, .int (v3)), (4, .int (v4)), (5, .int (v5)), (6, .int (v6)), (7, .int (v7))] → va_P D vwCl (wd_R a cI cL cB cZ z S) H → va_D A (wd_R a cI cL cB cZ z S) → va_S A s.heap H locs → W p l e zr_X11_world s m args below meth c H locs 0 0 Q (F0 m 96 ls [])) (v3 : Int32) (v4 : Int32) (v5 : Int32) (v6 : Int32) (v7 : Int32) (S : mq_St) (H : Heap) (locs : List Loc) (ls : Array Slot) (h : zf_X11_world_96b N z k83 k96 v3 v4 v5 v6 v7 S = some res) (hl : lv_has ls 8 [(0, .ref (a 0)), (3, .int (v3)), (4, .int (v4)), (5, .int (v5)), (6, .int (v6)), (7, .int (v7))]) (hP : va_P D vwCl (wd_R a cI cL cB cZ z S) H) (hD : va_D A (wd_R a cI cL cB cZ z S)) (hS : va_S A s.heap H locs) : W p l e zr_X11_world s m args below meth c H locs 0 0 Q (F0 m 96 ls []) := by
  obtain ⟨hx, hb, hml, hown, hts, hK, hA⟩ := id C
  unfold zf_X11_world_96b at h
  refine lv_iload hx hb dX11_world_96 (lv_at hl 5 rfl) ?_
  refine lv_iload hx hb dX11_world_98 (lv_at hl 3 rfl) ?_
  refine lv_icmp_ge (tgt := 132) hx hb dX11_world_100 (by decide) (fun c41 => ?_) (fun c41 => ?_)
  · replace h := mq_it c41 h
    refine lv_iload_n hx hb dX11_world_132 rfl (lv_at hl 1 rfl) ?_
    refine lv_iload hx hb dX11_world_133 (lv_at hl 4 rfl) ?_
    refine lv_if_eq (tgt := 142) hx hb dX11_world_135 (by decide) (fun c36 => ?_) (fun c36 => ?_)
    · replace h := mq_it c36 h
      refine lv_iconst (v := (0 : Int32)) hx hb dX11_world_142 (by decide) ?_
      exact zw_X11_world_143 C hret hk83 (v4) (v5) (v3) ((0 : Int32)) S H locs ls h (lv_sub hl [0, 2, 3] rfl) hP hD hS
    · replace h := mq_if c36 h
      refine lv_iconst (v := (1 : Int32)) hx hb dX11_world_138 (by decide) ?_
      refine lv_goto (tgt := 143) hx hb dX11_world_139 (by decide) ?_
      exact zw_X11_world_143 C hret hk83 (v4) (v5) (v3) ((1 : Int32)) S H locs ls h (lv_sub hl [0, 2, 3] rfl) hP hD hS
  · replace h := mq_if c41 h
    refine lv_iload hx hb dX11_world_103 (lv_at hl 4 rfl) ?_
    refine lv_if_eq (tgt := 123) hx hb dX11_world_105 (by decide) (fun c40 => ?_) (fun c40 => ?_)
    · replace h := mq_it c40 h
      exact zw_X11_world_123 C hret hk83 hk96 (v3) (v4) (v5) (v7) S H locs ls h (lv_sub hl [0, 1, 2, 3, 5] rfl) hP hD hS
    · replace h := mq_if c40 h
      refine lv_aload_n hx hb dX11_world_108 rfl (lv_at hl 0 rfl) ?_
      refine lv_iload hx hb dX11_world_109 (lv_at hl 3 rfl) ?_
      refine lv_iload hx hb dX11_world_111 (lv_at hl 5 rfl) ?_
      obtain ⟨q37, hc38, h⟩ := mq_cp_go h
      refine zk_X11_isMutual C zt_m_X11_390 ⟨by decide, by decide⟩ hc38 hP hD hS hl.1 (Nat.le_of_ble_eq_true rfl) dX11_world_113 (fun H locs hP hD hS => ?_)
      refine lv_if_ne (tgt := 123) hx hb dX11_world_116 (by decide) (fun c39 => ?_) (fun c39 => ?_)
      · replace h := mq_if c39 h
        exact zw_X11_world_123 C hret hk83 hk96 (v3) (v4) (v5) (v7) S H locs ls h (lv_sub hl [0, 1, 2, 3, 5] rfl) hP hD hS
      · replace h := mq_it (by simpa using c39) h
        refine lv_iconst (v := (1 : Int32)) hx hb dX11_world_119 (by decide) ?_
        refine lv_goto (tgt := 124) hx hb dX11_world_120 (by decide) ?_
        exact zw_X11_world_124 C hret hk83 hk96 (v3) (v4) (v5) (v7) ((1 : Int32)) S H locs ls h (lv_sub hl [0, 1, 2, 3, 5] rfl) hP hD hS
set_option maxHeartbeats 4000000 in
set_option maxRecDepth 100000 in
theorem zw_X11_world_96 {p : Program} {l : Launch} {e : Env} {s : State} {m : MethodId} {args : Array Value} {below : List Frame} {meth : Method} {c : Code} {A : Nat → Prop} {D : va_G} {a z : Nat → Nat} {cI cL cB cZ : ClassId} {Q : State → Prop} {N : Nat} {res : Int32 × mq_St} {k83 : Int32 → Int32 → Int32 → mq_St → Option (Int32 × mq_St)} (C : mq_C p s m args c A D cI cL cB cZ cX11_world 8 RX11 zc_X11_world) (hret : ∀ (H : Heap) (locs : List Loc) (ls : Array Slot) (pc : Nat), decode cX11_world pc = .ok (.ireturn, 1) → va_P D vwCl (wd_R a cI cL cB cZ z res.2) H → va_D A (wd_R a cI cL cB cZ z res.2) → va_S A s.heap H locs → W p l e zr_X11_world s m args below meth c H locs 0 0 Q (F0 m pc ls [.int res.1])) (hk83 : ∀ (v3 : Int32) (v4 : Int32) (v5 : Int32) (S : mq_St) (H : Heap) (locs : List Loc) (ls : Array Slot), k83 v3 v4 v5 S = some res → lv_has ls 8 [(0, .ref (a 0)), (3, .int (v3)), (4, .int (v4)), (5, .int (v5))] → va_P D vwCl (wd_R a cI cL cB cZ z S) H → va_D A (wd_R a cI cL cB cZ z S) → va_S A s.heap H locs → W p l e zr_X11_world s m args below meth c H locs 0 0 Q (F0 m 83 ls [])) : ∀ (n : Nat) (v3 : Int32) (v4 : Int32) (v5 : Int32) (v6 : Int32) (v7 : Int32) (S : mq_St) (H : Heap) (locs : List Loc) (ls : Array Slot) (h : zf_X11_world_96 N z k83 n v3 v4 v5 v6 v7 S = some res) (hl : lv_has ls 8 [(0, .ref (a 0)), (3, .int (v3)), (4, .int (v4)), (5, .int (v5)), (6, .int (v6)), (7, .int (v7))]) (hP : va_P D vwCl (wd_R a cI cL cB cZ z S) H) (hD : va_D A (wd_R a cI cL cB cZ z S)) (hS : va_S A s.heap H locs), W p l e zr_X11_world s m args below meth c H locs 0 0 Q (F0 m 96 ls []) := by
  intro n
  induction n with
  | zero =>
    intro v3 v4 v5 v6 v7 S H locs ls h hl hP hD hS
    exact nomatch (show (none : Option (Int32 × mq_St)) = some res from h)
  | succ n ih =>
    intro v3 v4 v5 v6 v7 S H locs ls h hl hP hD hS
    exact zw_X11_world_96b C hret hk83 (fun v3 v4 v5 v6 v7 S H locs ls h hl hP hD hS => ih v3 v4 v5 v6 v7 S H locs ls h hl hP hD hS) v3 v4 v5 v6 v7 S H locs ls h hl hP hD hS
set_option maxHeartbeats 4000000 in
set_option maxRecDepth 100000 in
theorem zw_X11_world_83b {p : Program} {l : Launch} {e : Env} {s : State} {m : MethodId} {args : Array Value} {below : List Frame} {meth : Method} {c : Code} {A : Nat → Prop} {D : va_G} {a z : Nat → Nat} {cI cL cB cZ : ClassId} {Q : State → Prop} {N : Nat} {res : Int32 × mq_St} {k83 : Int32 → Int32 → Int32 → mq_St → Option (Int32 × mq_St)} (C : mq_C p s m args c A D cI cL cB cZ cX11_world 8 RX11 zc_X11_world) (hret : ∀ (H : Heap) (locs : List Loc) (ls : Array Slot) (pc : Nat), decode cX11_world pc = .ok (.ireturn, 1) → va_P D vwCl (wd_R a cI cL cB cZ z res.2) H → va_D A (wd_R a cI cL cB cZ z res.2) → va_S A s.heap H locs → W p l e zr_X11_world s m args below meth c H locs 0 0 Q (F0 m pc ls [.int res.1])) (hk83 : ∀ (v3 : Int32) (v4 : Int32) (v5 : Int32) (S : mq_St) (H : Heap) (locs : List Loc) (ls : Array Slot), k83 v3 v4 v5 S = some res → lv_has ls 8 [(0, .ref (a 0)), (3, .int (v3)), (4, .int (v4)), (5, .int (v5))] → va_P D vwCl (wd_R a cI cL cB cZ z S) H → va_D A (wd_R a cI cL cB cZ z S) → va_S A s.heap H locs → W p l e zr_X11_world s m args below meth c H locs 0 0 Q (F0 m 83 ls [])) (v3 : Int32) (v4 : Int32) (v5 : Int32) (S : mq_St) (H : Heap) (locs : List Loc) (ls : Array Slot) (h : zf_X11_world_83b N z k83 v3 v4 v5 S = some res) (hl : lv_has ls 8 [(0, .ref (a 0)), (3, .int (v3)), (4, .int (v4)), (5, .int (v5))]) (hP : va_P D vwCl (wd_R a cI cL cB cZ z S) H) (hD : va_D A (wd_R a cI cL cB cZ z S)) (hS : va_S A s.heap H locs) : W p l e zr_X11_world s m args below meth c H locs 0 0 Q (F0 m 83 ls []) := by
  obtain ⟨hx, hb, hml, hown, hts, hK, hA⟩ := id C
  unfold zf_X11_world_83b at h
  refine lv_iload hx hb dX11_world_83 (lv_at hl 3 rfl) ?_
  refine lv_iload hx hb dX11_world_85 (lv_at hl 2 rfl) ?_
  refine lv_icmp_ge (tgt := 151) hx hb dX11_world_87 (by decide) (fun c35 => ?_) (fun c35 => ?_)
  · replace h := mq_it c35 h
    refine lv_iload_n hx hb dX11_world_151 rfl (lv_at hl 1 rfl) ?_
    cases h
    exact hret H locs ls 152 dX11_world_152 hP hD hS
  · replace h := mq_if c35 h
    refine lv_iconst (v := (1 : Int32)) hx hb dX11_world_90 (by decide) ?_
    refine lv_topi (fun x33 ex33 => ?_)
    replace h := mq_nI_go ex33 h
    refine lv_istore (lv' := [(6, .int (x33)), (0, .ref (a 0)), (3, .int (v3)), (4, .int (v4)), (5, .int (v5))]) hx hb dX11_world_91 hl (by decide) rfl (fun ls hl => ?_)
    refine lv_iconst (v := (0 : Int32)) hx hb dX11_world_93 (by decide) ?_
    refine lv_topi (fun x34 ex34 => ?_)
    replace h := mq_nI_go ex34 h
    refine lv_istore (lv' := [(7, .int (x34)), (6, .int (x33)), (0, .ref (a 0)), (3, .int (v3)), (4, .int (v4)), (5, .int (v5))]) hx hb dX11_world_94 hl (by decide) rfl (fun ls hl => ?_)
    exact zw_X11_world_96 C hret hk83 N (v3) (v4) (v5) (x33) (x34) S H locs ls h (lv_sub hl [2, 3, 4, 5, 1, 0] rfl) hP hD hS
set_option maxHeartbeats 4000000 in
set_option maxRecDepth 100000 in
theorem zw_X11_world_83 {p : Program} {l : Launch} {e : Env} {s : State} {m : MethodId} {args : Array Value} {below : List Frame} {meth : Method} {c : Code} {A : Nat → Prop} {D : va_G} {a z : Nat → Nat} {cI cL cB cZ : ClassId} {Q : State → Prop} {N : Nat} {res : Int32 × mq_St} (C : mq_C p s m args c A D cI cL cB cZ cX11_world 8 RX11 zc_X11_world) (hret : ∀ (H : Heap) (locs : List Loc) (ls : Array Slot) (pc : Nat), decode cX11_world pc = .ok (.ireturn, 1) → va_P D vwCl (wd_R a cI cL cB cZ z res.2) H → va_D A (wd_R a cI cL cB cZ z res.2) → va_S A s.heap H locs → W p l e zr_X11_world s m args below meth c H locs 0 0 Q (F0 m pc ls [.int res.1])) : ∀ (n : Nat) (v3 : Int32) (v4 : Int32) (v5 : Int32) (S : mq_St) (H : Heap) (locs : List Loc) (ls : Array Slot) (h : zf_X11_world_83 N z n v3 v4 v5 S = some res) (hl : lv_has ls 8 [(0, .ref (a 0)), (3, .int (v3)), (4, .int (v4)), (5, .int (v5))]) (hP : va_P D vwCl (wd_R a cI cL cB cZ z S) H) (hD : va_D A (wd_R a cI cL cB cZ z S)) (hS : va_S A s.heap H locs), W p l e zr_X11_world s m args below meth c H locs 0 0 Q (F0 m 83 ls []) := by
  intro n
  induction n with
  | zero =>
    intro v3 v4 v5 S H locs ls h hl hP hD hS
    exact nomatch (show (none : Option (Int32 × mq_St)) = some res from h)
  | succ n ih =>
    intro v3 v4 v5 S H locs ls h hl hP hD hS
    exact zw_X11_world_83b C hret (fun v3 v4 v5 S H locs ls h hl hP hD hS => ih v3 v4 v5 S H locs ls h hl hP hD hS) v3 v4 v5 S H locs ls h hl hP hD hS
set_option maxHeartbeats 4000000 in
set_option maxRecDepth 100000 in
theorem zw_X11_world_50b {p : Program} {l : Launch} {e : Env} {s : State} {m : MethodId} {args : Array Value} {below : List Frame} {meth : Method} {c : Code} {A : Nat → Prop} {D : va_G} {a z : Nat → Nat} {cI cL cB cZ : ClassId} {Q : State → Prop} {N : Nat} {res : Int32 × mq_St} {k50 : Int32 → Int32 → Int32 → Int32 → mq_St → Option (Int32 × mq_St)} (C : mq_C p s m args c A D cI cL cB cZ cX11_world 8 RX11 zc_X11_world) (hret : ∀ (H : Heap) (locs : List Loc) (ls : Array Slot) (pc : Nat), decode cX11_world pc = .ok (.ireturn, 1) → va_P D vwCl (wd_R a cI cL cB cZ z res.2) H → va_D A (wd_R a cI cL cB cZ z res.2) → va_S A s.heap H locs → W p l e zr_X11_world s m args below meth c H locs 0 0 Q (F0 m pc ls [.int res.1])) (hk50 : ∀ (v1 : Int32) (v3 : Int32) (v4 : Int32) (v5 : Int32) (S : mq_St) (H : Heap) (locs : List Loc) (ls : Array Slot), k50 v1 v3 v4 v5 S = some res → lv_has ls 8 [(0, .ref (a 0)), (1, .int (v1)), (3, .int (v3)), (4, .int (v4)), (5, .int (v5))] → va_P D vwCl (wd_R a cI cL cB cZ z S) H → va_D A (wd_R a cI cL cB cZ z S) → va_S A s.heap H locs → W p l e zr_X11_world s m args below meth c H locs 0 0 Q (F0 m 50 ls [])) (v1 : Int32) (v3 : Int32) (v4 : Int32) (v5 : Int32) (S : mq_St) (H : Heap) (locs : List Loc) (ls : Array Slot) (h : zf_X11_world_50b N z k50 v1 v3 v4 v5 S = some res) (hl : lv_has ls 8 [(0, .ref (a 0)), (1, .int (v1)), (3, .int (v3)), (4, .int (v4)), (5, .int (v5))]) (hP : va_P D vwCl (wd_R a cI cL cB cZ z S) H) (hD : va_D A (wd_R a cI cL cB cZ z S)) (hS : va_S A s.heap H locs) : W p l e zr_X11_world s m args below meth c H locs 0 0 Q (F0 m 50 ls []) := by
  obtain ⟨hx, hb, hml, hown, hts, hK, hA⟩ := id C
  unfold zf_X11_world_50b at h
  refine lv_iload hx hb dX11_world_50 (lv_at hl 4 rfl) ?_
  refine lv_if_lt (tgt := 80) hx hb dX11_world_52 (by decide) (fun c30 => ?_) (fun c30 => ?_)
  · replace h := mq_it c30 h
    refine lv_iconst (v := (0 : Int32)) hx hb dX11_world_80 (by decide) ?_
    refine lv_topi (fun x26 ex26 => ?_)
    replace h := mq_nI_go ex26 h
    refine lv_istore (lv' := [(5, .int (x26)), (0, .ref (a 0)), (1, .int (v1)), (3, .int (v3)), (4, .int (v4))]) hx hb dX11_world_81 hl (by decide) rfl (fun ls hl => ?_)
    exact zw_X11_world_83 C hret N (v3) (v4) (x26) S H locs ls h (lv_sub hl [1, 3, 4, 0] rfl) hP hD hS
  · replace h := mq_if c30 h
    refine lv_aload_n hx hb dX11_world_55 rfl (lv_at hl 0 rfl) ?_
    refine lv_iload_n hx hb dX11_world_56 rfl (lv_at hl 1 rfl) ?_
    refine lv_iload hx hb dX11_world_57 (lv_at hl 4 rfl) ?_
    obtain ⟨q27, hc28, h⟩ := mq_cp_go h
    refine zk_X11_isMutual C zt_m_X11_390 ⟨by decide, by decide⟩ hc28 hP hD hS hl.1 (Nat.le_of_ble_eq_true rfl) dX11_world_59 (fun H locs hP hD hS => ?_)
    refine lv_if_eq (tgt := 70) hx hb dX11_world_62 (by decide) (fun c29 => ?_) (fun c29 => ?_)
    · replace h := mq_it c29 h
      refine lv_iload hx hb dX11_world_70 (lv_at hl 3 rfl) ?_
      exact zw_X11_world_72 C hret hk50 (v1) (v3) (v5) (v4) S H locs ls h (lv_sub hl [0, 1, 2, 4] rfl) hP hD hS
    · replace h := mq_if c29 h
      refine lv_iload hx hb dX11_world_65 (lv_at hl 4 rfl) ?_
      refine lv_goto (tgt := 72) hx hb dX11_world_67 (by decide) ?_
      exact zw_X11_world_72 C hret hk50 (v1) (v3) (v5) (v5) S H locs ls h (lv_sub hl [0, 1, 2, 4] rfl) hP hD hS
set_option maxHeartbeats 4000000 in
set_option maxRecDepth 100000 in
theorem zw_X11_world_50 {p : Program} {l : Launch} {e : Env} {s : State} {m : MethodId} {args : Array Value} {below : List Frame} {meth : Method} {c : Code} {A : Nat → Prop} {D : va_G} {a z : Nat → Nat} {cI cL cB cZ : ClassId} {Q : State → Prop} {N : Nat} {res : Int32 × mq_St} (C : mq_C p s m args c A D cI cL cB cZ cX11_world 8 RX11 zc_X11_world) (hret : ∀ (H : Heap) (locs : List Loc) (ls : Array Slot) (pc : Nat), decode cX11_world pc = .ok (.ireturn, 1) → va_P D vwCl (wd_R a cI cL cB cZ z res.2) H → va_D A (wd_R a cI cL cB cZ z res.2) → va_S A s.heap H locs → W p l e zr_X11_world s m args below meth c H locs 0 0 Q (F0 m pc ls [.int res.1])) : ∀ (n : Nat) (v1 : Int32) (v3 : Int32) (v4 : Int32) (v5 : Int32) (S : mq_St) (H : Heap) (locs : List Loc) (ls : Array Slot) (h : zf_X11_world_50 N z n v1 v3 v4 v5 S = some res) (hl : lv_has ls 8 [(0, .ref (a 0)), (1, .int (v1)), (3, .int (v3)), (4, .int (v4)), (5, .int (v5))]) (hP : va_P D vwCl (wd_R a cI cL cB cZ z S) H) (hD : va_D A (wd_R a cI cL cB cZ z S)) (hS : va_S A s.heap H locs), W p l e zr_X11_world s m args below meth c H locs 0 0 Q (F0 m 50 ls []) := by
  intro n
  induction n with
  | zero =>
    intro v1 v3 v4 v5 S H locs ls h hl hP hD hS
    exact nomatch (show (none : Option (Int32 × mq_St)) = some res from h)
  | succ n ih =>
    intro v1 v3 v4 v5 S H locs ls h hl hP hD hS
    exact zw_X11_world_50b C hret (fun v1 v3 v4 v5 S H locs ls h hl hP hD hS => ih v1 v3 v4 v5 S H locs ls h hl hP hD hS) v1 v3 v4 v5 S H locs ls h hl hP hD hS
set_option maxHeartbeats 4000000 in
set_option maxRecDepth 100000 in
theorem zw_X11_world_181 {p : Program} {l : Launch} {e : Env} {s : State} {m : MethodId} {args : Array Value} {below : List Frame} {meth : Method} {c : Code} {A : Nat → Prop} {D : va_G} {a z : Nat → Nat} {cI cL cB cZ : ClassId} {Q : State → Prop} {N : Nat} {res : Int32 × mq_St} {k156 : Int32 → Int32 → Int32 → mq_St → Option (Int32 × mq_St)} (C : mq_C p s m args c A D cI cL cB cZ cX11_world 8 RX11 zc_X11_world) (hret : ∀ (H : Heap) (locs : List Loc) (ls : Array Slot) (pc : Nat), decode cX11_world pc = .ok (.ireturn, 1) → va_P D vwCl (wd_R a cI cL cB cZ z res.2) H → va_D A (wd_R a cI cL cB cZ z res.2) → va_S A s.heap H locs → W p l e zr_X11_world s m args below meth c H locs 0 0 Q (F0 m pc ls [.int res.1])) (hk156 : ∀ (v1 : Int32) (v3 : Int32) (v5 : Int32) (S : mq_St) (H : Heap) (locs : List Loc) (ls : Array Slot), k156 v1 v3 v5 S = some res → lv_has ls 8 [(0, .ref (a 0)), (1, .int (v1)), (3, .int (v3)), (5, .int (v5))] → va_P D vwCl (wd_R a cI cL cB cZ z S) H → va_D A (wd_R a cI cL cB cZ z S) → va_S A s.heap H locs → W p l e zr_X11_world s m args below meth c H locs 0 0 Q (F0 m 156 ls [])) (v1 : Int32) (v5 : Int32) (t0 : Int32) (t1 : Int32) (S : mq_St) (H : Heap) (locs : List Loc) (ls : Array Slot) (h : zf_X11_world_181 N z k156 v1 v5 t0 t1 S = some res) (hl : lv_has ls 8 [(0, .ref (a 0)), (1, .int (v1)), (5, .int (v5))]) (hP : va_P D vwCl (wd_R a cI cL cB cZ z S) H) (hD : va_D A (wd_R a cI cL cB cZ z S)) (hS : va_S A s.heap H locs) : W p l e zr_X11_world s m args below meth c H locs 0 0 Q (F0 m 181 ls [.int (t1), .int (t0)]) := by
  obtain ⟨hx, hb, hml, hown, hts, hK, hA⟩ := id C
  unfold zf_X11_world_181 at h
  refine lv_iadd hx hb dX11_world_181 ?_
  refine lv_topi (fun x24 ex24 => ?_)
  replace h := mq_nI_go ex24 h
  refine lv_istore_n (lv' := [(3, .int (x24)), (0, .ref (a 0)), (1, .int (v1)), (5, .int (v5))]) hx hb dX11_world_182 rfl hl (by decide) rfl (fun ls hl => ?_)
  obtain ⟨x25, ex25⟩ : ∃ y : Int32, y = v5 + (1 : Int32) := ⟨_, rfl⟩
  replace h := mq_nI_go ex25 h
  refine lv_iinc (v := x25) (lv' := [(5, .int (x25)), (3, .int (x24)), (0, .ref (a 0)), (1, .int (v1))]) hx hb dX11_world_183 hl (k := 3) rfl (by rw [ex25]; rfl) (by decide) rfl (fun ls hl => ?_)
  refine lv_goto (tgt := 156) hx hb dX11_world_186 (by decide) ?_
  exact hk156 (v1) (x24) (x25) S H locs ls h (lv_sub hl [2, 3, 1, 0] rfl) hP hD hS
set_option maxHeartbeats 4000000 in
set_option maxRecDepth 100000 in
theorem zw_X11_world_156b {p : Program} {l : Launch} {e : Env} {s : State} {m : MethodId} {args : Array Value} {below : List Frame} {meth : Method} {c : Code} {A : Nat → Prop} {D : va_G} {a z : Nat → Nat} {cI cL cB cZ : ClassId} {Q : State → Prop} {N : Nat} {res : Int32 × mq_St} {k156 : Int32 → Int32 → Int32 → mq_St → Option (Int32 × mq_St)} (C : mq_C p s m args c A D cI cL cB cZ cX11_world 8 RX11 zc_X11_world) (hret : ∀ (H : Heap) (locs : List Loc) (ls : Array Slot) (pc : Nat), decode cX11_world pc = .ok (.ireturn, 1) → va_P D vwCl (wd_R a cI cL cB cZ z res.2) H → va_D A (wd_R a cI cL cB cZ z res.2) → va_S A s.heap H locs → W p l e zr_X11_world s m args below meth c H locs 0 0 Q (F0 m pc ls [.int res.1])) (hk156 : ∀ (v1 : Int32) (v3 : Int32) (v5 : Int32) (S : mq_St) (H : Heap) (locs : List Loc) (ls : Array Slot), k156 v1 v3 v5 S = some res → lv_has ls 8 [(0, .ref (a 0)), (1, .int (v1)), (3, .int (v3)), (5, .int (v5))] → va_P D vwCl (wd_R a cI cL cB cZ z S) H → va_D A (wd_R a cI cL cB cZ z S) → va_S A s.heap H locs → W p l e zr_X11_world s m args below meth c H locs 0 0 Q (F0 m 156 ls [])) (v1 : Int32) (v3 : Int32) (v5 : Int32) (S : mq_St) (H : Heap) (locs : List Loc) (ls : Array Slot) (h : zf_X11_world_156b N z k156 v1 v3 v5 S = some res) (hl : lv_has ls 8 [(0, .ref (a 0)), (1, .int (v1)), (3, .int (v3)), (5, .int (v5))]) (hP : va_P D vwCl (wd_R a cI cL cB cZ z S) H) (hD : va_D A (wd_R a cI cL cB cZ z S)) (hS : va_S A s.heap H locs) : W p l e zr_X11_world s m args below meth c H locs 0 0 Q (F0 m 156 ls []) := by
  obtain ⟨hx, hb, hml, hown, hts, hK, hA⟩ := id C
  unfold zf_X11_world_156b at h
  refine lv_iload hx hb dX11_world_156 (lv_at hl 3 rfl) ?_
  refine lv_aload_n hx hb dX11_world_158 rfl (lv_at hl 0 rfl) ?_
  refine va_get (D := D) (ci := 11) (v := .int ((S.1 31))) (C := RX11) (T := TX11) (N := 76) hx hb hts (zi_X11 _) hown hK hP 0 rfl rfl 65 (by decide) (hts _ (List.mem_cons_of_mem _ zt_f_X11_375)) (fun _ h9 => h9) rfl dX11_world_159 ?_
  refine lv_icmp_ge (tgt := 189) hx hb dX11_world_162 (by decide) (fun c23 => ?_) (fun c23 => ?_)
  · replace h := mq_it c23 h
    refine lv_iload_n hx hb dX11_world_189 rfl (lv_at hl 2 rfl) ?_
    cases h
    exact hret H locs ls 190 dX11_world_190 hP hD hS
  · replace h := mq_if c23 h
    refine lv_iload_n hx hb dX11_world_165 rfl (lv_at hl 2 rfl) ?_
    refine lv_aload_n hx hb dX11_world_166 rfl (lv_at hl 0 rfl) ?_
    refine lv_iload_n hx hb dX11_world_167 rfl (lv_at hl 1 rfl) ?_
    refine lv_iload hx hb dX11_world_168 (lv_at hl 3 rfl) ?_
    obtain ⟨q20, hc21, h⟩ := mq_cp_go h
    refine zk_X11_isMutual C zt_m_X11_390 ⟨by decide, by decide⟩ hc21 hP hD hS hl.1 (Nat.le_of_ble_eq_true rfl) dX11_world_170 (fun H locs hP hD hS => ?_)
    refine lv_if_eq (tgt := 180) hx hb dX11_world_173 (by decide) (fun c22 => ?_) (fun c22 => ?_)
    · replace h := mq_it c22 h
      refine lv_iconst (v := (0 : Int32)) hx hb dX11_world_180 (by decide) ?_
      exact zw_X11_world_181 C hret hk156 (v1) (v5) (v3) ((0 : Int32)) S H locs ls h (lv_sub hl [0, 1, 3] rfl) hP hD hS
    · replace h := mq_if c22 h
      refine lv_iconst (v := (1 : Int32)) hx hb dX11_world_176 (by decide) ?_
      refine lv_goto (tgt := 181) hx hb dX11_world_177 (by decide) ?_
      exact zw_X11_world_181 C hret hk156 (v1) (v5) (v3) ((1 : Int32)) S H locs ls h (lv_sub hl [0, 1, 3] rfl) hP hD hS
set_option maxHeartbeats 4000000 in
set_option maxRecDepth 100000 in
theorem zw_X11_world_156 {p : Program} {l : Launch} {e : Env} {s : State} {m : MethodId} {args : Array Value} {below : List Frame} {meth : Method} {c : Code} {A : Nat → Prop} {D : va_G} {a z : Nat → Nat} {cI cL cB cZ : ClassId} {Q : State → Prop} {N : Nat} {res : Int32 × mq_St} (C : mq_C p s m args c A D cI cL cB cZ cX11_world 8 RX11 zc_X11_world) (hret : ∀ (H : Heap) (locs : List Loc) (ls : Array Slot) (pc : Nat), decode cX11_world pc = .ok (.ireturn, 1) → va_P D vwCl (wd_R a cI cL cB cZ z res.2) H → va_D A (wd_R a cI cL cB cZ z res.2) → va_S A s.heap H locs → W p l e zr_X11_world s m args below meth c H locs 0 0 Q (F0 m pc ls [.int res.1])) : ∀ (n : Nat) (v1 : Int32) (v3 : Int32) (v5 : Int32) (S : mq_St) (H : Heap) (locs : List Loc) (ls : Array Slot) (h : zf_X11_world_156 N z n v1 v3 v5 S = some res) (hl : lv_has ls 8 [(0, .ref (a 0)), (1, .int (v1)), (3, .int (v3)), (5, .int (v5))]) (hP : va_P D vwCl (wd_R a cI cL cB cZ z S) H) (hD : va_D A (wd_R a cI cL cB cZ z S)) (hS : va_S A s.heap H locs), W p l e zr_X11_world s m args below meth c H locs 0 0 Q (F0 m 156 ls []) := by
  intro n
  induction n with
  | zero =>
    intro v1 v3 v5 S H locs ls h hl hP hD hS
    exact nomatch (show (none : Option (Int32 × mq_St)) = some res from h)
  | succ n ih =>
    intro v1 v3 v5 S H locs ls h hl hP hD hS
    exact zw_X11_world_156b C hret (fun v1 v3 v5 S H locs ls h hl hP hD hS => ih v1 v3 v5 S H locs ls h hl hP hD hS) v1 v3 v5 S H locs ls h hl hP hD hS
set_option maxHeartbeats 4000000 in
set_option maxRecDepth 100000 in
theorem zw_X11_world_224 {p : Program} {l : Launch} {e : Env} {s : State} {m : MethodId} {args : Array Value} {below : List Frame} {meth : Method} {c : Code} {A : Nat → Prop} {D : va_G} {a z : Nat → Nat} {cI cL cB cZ : ClassId} {Q : State → Prop} {N : Nat} {res : Int32 × mq_St} {k194 : Int32 → Int32 → Int32 → mq_St → Option (Int32 × mq_St)} (C : mq_C p s m args c A D cI cL cB cZ cX11_world 8 RX11 zc_X11_world) (hret : ∀ (H : Heap) (locs : List Loc) (ls : Array Slot) (pc : Nat), decode cX11_world pc = .ok (.ireturn, 1) → va_P D vwCl (wd_R a cI cL cB cZ z res.2) H → va_D A (wd_R a cI cL cB cZ z res.2) → va_S A s.heap H locs → W p l e zr_X11_world s m args below meth c H locs 0 0 Q (F0 m pc ls [.int res.1])) (hk194 : ∀ (v1 : Int32) (v3 : Int32) (v5 : Int32) (S : mq_St) (H : Heap) (locs : List Loc) (ls : Array Slot), k194 v1 v3 v5 S = some res → lv_has ls 8 [(0, .ref (a 0)), (1, .int (v1)), (3, .int (v3)), (5, .int (v5))] → va_P D vwCl (wd_R a cI cL cB cZ z S) H → va_D A (wd_R a cI cL cB cZ z S) → va_S A s.heap H locs → W p l e zr_X11_world s m args below meth c H locs 0 0 Q (F0 m 194 ls [])) (v1 : Int32) (v5 : Int32) (t0 : Int32) (t1 : Int32) (S : mq_St) (H : Heap) (locs : List Loc) (ls : Array Slot) (h : zf_X11_world_224 N z k194 v1 v5 t0 t1 S = some res) (hl : lv_has ls 8 [(0, .ref (a 0)), (1, .int (v1)), (5, .int (v5))]) (hP : va_P D vwCl (wd_R a cI cL cB cZ z S) H) (hD : va_D A (wd_R a cI cL cB cZ z S)) (hS : va_S A s.heap H locs) : W p l e zr_X11_world s m args below meth c H locs 0 0 Q (F0 m 224 ls [.int (t1), .int (t0)]) := by
  obtain ⟨hx, hb, hml, hown, hts, hK, hA⟩ := id C
  unfold zf_X11_world_224 at h
  refine lv_iadd hx hb dX11_world_224 ?_
  refine lv_topi (fun x18 ex18 => ?_)
  replace h := mq_nI_go ex18 h
  refine lv_istore_n (lv' := [(3, .int (x18)), (0, .ref (a 0)), (1, .int (v1)), (5, .int (v5))]) hx hb dX11_world_225 rfl hl (by decide) rfl (fun ls hl => ?_)
  obtain ⟨x19, ex19⟩ : ∃ y : Int32, y = v5 + (1 : Int32) := ⟨_, rfl⟩
  replace h := mq_nI_go ex19 h
  refine lv_iinc (v := x19) (lv' := [(5, .int (x19)), (3, .int (x18)), (0, .ref (a 0)), (1, .int (v1))]) hx hb dX11_world_226 hl (k := 3) rfl (by rw [ex19]; rfl) (by decide) rfl (fun ls hl => ?_)
  refine lv_goto (tgt := 194) hx hb dX11_world_229 (by decide) ?_
  exact hk194 (v1) (x18) (x19) S H locs ls h (lv_sub hl [2, 3, 1, 0] rfl) hP hD hS
set_option maxHeartbeats 4000000 in
set_option maxRecDepth 100000 in
theorem zw_X11_world_194b {p : Program} {l : Launch} {e : Env} {s : State} {m : MethodId} {args : Array Value} {below : List Frame} {meth : Method} {c : Code} {A : Nat → Prop} {D : va_G} {a z : Nat → Nat} {cI cL cB cZ : ClassId} {Q : State → Prop} {N : Nat} {res : Int32 × mq_St} {k194 : Int32 → Int32 → Int32 → mq_St → Option (Int32 × mq_St)} (C : mq_C p s m args c A D cI cL cB cZ cX11_world 8 RX11 zc_X11_world) (hret : ∀ (H : Heap) (locs : List Loc) (ls : Array Slot) (pc : Nat), decode cX11_world pc = .ok (.ireturn, 1) → va_P D vwCl (wd_R a cI cL cB cZ z res.2) H → va_D A (wd_R a cI cL cB cZ z res.2) → va_S A s.heap H locs → W p l e zr_X11_world s m args below meth c H locs 0 0 Q (F0 m pc ls [.int res.1])) (hk194 : ∀ (v1 : Int32) (v3 : Int32) (v5 : Int32) (S : mq_St) (H : Heap) (locs : List Loc) (ls : Array Slot), k194 v1 v3 v5 S = some res → lv_has ls 8 [(0, .ref (a 0)), (1, .int (v1)), (3, .int (v3)), (5, .int (v5))] → va_P D vwCl (wd_R a cI cL cB cZ z S) H → va_D A (wd_R a cI cL cB cZ z S) → va_S A s.heap H locs → W p l e zr_X11_world s m args below meth c H locs 0 0 Q (F0 m 194 ls [])) (v1 : Int32) (v3 : Int32) (v5 : Int32) (S : mq_St) (H : Heap) (locs : List Loc) (ls : Array Slot) (h : zf_X11_world_194b N z k194 v1 v3 v5 S = some res) (hl : lv_has ls 8 [(0, .ref (a 0)), (1, .int (v1)), (3, .int (v3)), (5, .int (v5))]) (hP : va_P D vwCl (wd_R a cI cL cB cZ z S) H) (hD : va_D A (wd_R a cI cL cB cZ z S)) (hS : va_S A s.heap H locs) : W p l e zr_X11_world s m args below meth c H locs 0 0 Q (F0 m 194 ls []) := by
  obtain ⟨hx, hb, hml, hown, hts, hK, hA⟩ := id C
  unfold zf_X11_world_194b at h
  refine lv_iload hx hb dX11_world_194 (lv_at hl 3 rfl) ?_
  refine lv_aload_n hx hb dX11_world_196 rfl (lv_at hl 0 rfl) ?_
  refine va_get (D := D) (ci := 11) (v := .int ((S.1 31))) (C := RX11) (T := TX11) (N := 76) hx hb hts (zi_X11 _) hown hK hP 0 rfl rfl 65 (by decide) (hts _ (List.mem_cons_of_mem _ zt_f_X11_375)) (fun _ h9 => h9) rfl dX11_world_197 ?_
  refine lv_icmp_ge (tgt := 232) hx hb dX11_world_200 (by decide) (fun c17 => ?_) (fun c17 => ?_)
  · replace h := mq_it c17 h
    refine lv_iload_n hx hb dX11_world_232 rfl (lv_at hl 2 rfl) ?_
    cases h
    exact hret H locs ls 233 dX11_world_233 hP hD hS
  · replace h := mq_if c17 h
    refine lv_iload_n hx hb dX11_world_203 rfl (lv_at hl 2 rfl) ?_
    refine lv_aload_n hx hb dX11_world_204 rfl (lv_at hl 0 rfl) ?_
    refine va_get (D := D) (ci := 11) (v := .ref (a 36)) (C := RX11) (T := TX11) (N := 76) hx hb hts (zi_X11 _) hown hK hP 0 rfl rfl 67 (by decide) (hts _ (List.mem_cons_of_mem _ zt_f_X11_124)) (fun _ h9 => h9) rfl dX11_world_205 ?_
    refine lv_bipush (v := (60 : Int32)) hx hb dX11_world_208 (by decide) ?_
    refine lv_iload_n hx hb dX11_world_210 rfl (lv_at hl 1 rfl) ?_
    refine lv_imul hx hb dX11_world_211 ?_
    refine lv_iload hx hb dX11_world_212 (lv_at hl 3 rfl) ?_
    refine lv_iadd hx hb dX11_world_214 ?_
    have hi15 := mq_ck_in h
    replace h := mq_ck_go h
    refine va_zald (f := S.2.1 35) hx hb hK hP 36 3 rfl rfl hi15 dX11_world_215 ?_
    refine lv_if_eq (tgt := 223) hx hb dX11_world_216 (by decide) (fun c16 => ?_) (fun c16 => ?_)
    · replace h := mq_it c16 h
      refine lv_iconst (v := (0 : Int32)) hx hb dX11_world_223 (by decide) ?_
      exact zw_X11_world_224 C hret hk194 (v1) (v5) (v3) ((0 : Int32)) S H locs ls h (lv_sub hl [0, 1, 3] rfl) hP hD hS
    · replace h := mq_if c16 h
      refine lv_iconst (v := (1 : Int32)) hx hb dX11_world_219 (by decide) ?_
      refine lv_goto (tgt := 224) hx hb dX11_world_220 (by decide) ?_
      exact zw_X11_world_224 C hret hk194 (v1) (v5) (v3) ((1 : Int32)) S H locs ls h (lv_sub hl [0, 1, 3] rfl) hP hD hS
set_option maxHeartbeats 4000000 in
set_option maxRecDepth 100000 in
theorem zw_X11_world_194 {p : Program} {l : Launch} {e : Env} {s : State} {m : MethodId} {args : Array Value} {below : List Frame} {meth : Method} {c : Code} {A : Nat → Prop} {D : va_G} {a z : Nat → Nat} {cI cL cB cZ : ClassId} {Q : State → Prop} {N : Nat} {res : Int32 × mq_St} (C : mq_C p s m args c A D cI cL cB cZ cX11_world 8 RX11 zc_X11_world) (hret : ∀ (H : Heap) (locs : List Loc) (ls : Array Slot) (pc : Nat), decode cX11_world pc = .ok (.ireturn, 1) → va_P D vwCl (wd_R a cI cL cB cZ z res.2) H → va_D A (wd_R a cI cL cB cZ z res.2) → va_S A s.heap H locs → W p l e zr_X11_world s m args below meth c H locs 0 0 Q (F0 m pc ls [.int res.1])) : ∀ (n : Nat) (v1 : Int32) (v3 : Int32) (v5 : Int32) (S : mq_St) (H : Heap) (locs : List Loc) (ls : Array Slot) (h : zf_X11_world_194 N z n v1 v3 v5 S = some res) (hl : lv_has ls 8 [(0, .ref (a 0)), (1, .int (v1)), (3, .int (v3)), (5, .int (v5))]) (hP : va_P D vwCl (wd_R a cI cL cB cZ z S) H) (hD : va_D A (wd_R a cI cL cB cZ z S)) (hS : va_S A s.heap H locs), W p l e zr_X11_world s m args below meth c H locs 0 0 Q (F0 m 194 ls []) := by
  intro n
  induction n with
  | zero =>
    intro v1 v3 v5 S H locs ls h hl hP hD hS
    exact nomatch (show (none : Option (Int32 × mq_St)) = some res from h)
  | succ n ih =>
    intro v1 v3 v5 S H locs ls h hl hP hD hS
    exact zw_X11_world_194b C hret (fun v1 v3 v5 S H locs ls h hl hP hD hS => ih v1 v3 v5 S H locs ls h hl hP hD hS) v1 v3 v5 S H locs ls h hl hP hD hS
set_option maxHeartbeats 4000000 in
set_option maxRecDepth 100000 in
theorem zw_X11_world_0 {p : Program} {l : Launch} {e : Env} {s : State} {m : MethodId} {args : Array Value} {below : List Frame} {meth : Method} {c : Code} {A : Nat → Prop} {D : va_G} {a z : Nat → Nat} {cI cL cB cZ : ClassId} {Q : State → Prop} {N : Nat} {res : Int32 × mq_St} (C : mq_C p s m args c A D cI cL cB cZ cX11_world 8 RX11 zc_X11_world) (hret : ∀ (H : Heap) (locs : List Loc) (ls : Array Slot) (pc : Nat), decode cX11_world pc = .ok (.ireturn, 1) → va_P D vwCl (wd_R a cI cL cB cZ z res.2) H → va_D A (wd_R a cI cL cB cZ z res.2) → va_S A s.heap H locs → W p l e zr_X11_world s m args below meth c H locs 0 0 Q (F0 m pc ls [.int res.1])) (v1 : Int32) (v2 : Int32) (S : mq_St) (H : Heap) (locs : List Loc) (ls : Array Slot) (h : zf_X11_world N z v1 v2 S = some res) (hl : lv_has ls 8 [(0, .ref (a 0)), (1, .int (v1)), (2, .int (v2))]) (hP : va_P D vwCl (wd_R a cI cL cB cZ z S) H) (hD : va_D A (wd_R a cI cL cB cZ z S)) (hS : va_S A s.heap H locs) : W p l e zr_X11_world s m args below meth c H locs 0 0 Q (F0 m 0 ls []) := by
  obtain ⟨hx, hb, hml, hown, hts, hK, hA⟩ := id C
  unfold zf_X11_world at h
  refine lv_aload_n hx hb dX11_world_0 rfl (lv_at hl 0 rfl) ?_
  refine lv_iload_n hx hb dX11_world_1 rfl (lv_at hl 1 rfl) ?_
  obtain ⟨q1, hc2, h⟩ := mq_cl_go h
  refine zk_X11_world0 C zt_m_X11_384 ⟨by decide, by decide⟩ hc2 hP hD hS hl.1 (Nat.le_of_ble_eq_true rfl) dX11_world_2 (fun H locs hP hD hS => ?_)
  obtain ⟨S3, eS3⟩ : ∃ y, y = q1.2 := ⟨_, rfl⟩
  rw [← eS3] at hP hD h
  refine lv_if_ne (tgt := 10) hx hb dX11_world_5 (by decide) (fun c14 => ?_) (fun c14 => ?_)
  · replace h := mq_if c14 h
    refine lv_iconst (v := (0 : Int32)) hx hb dX11_world_10 (by decide) ?_
    refine lv_topi (fun x4 ex4 => ?_)
    replace h := mq_nI_go ex4 h
    refine lv_istore_n (lv' := [(3, .int (x4)), (0, .ref (a 0)), (1, .int (v1)), (2, .int (v2))]) hx hb dX11_world_11 rfl hl (by decide) rfl (fun ls hl => ?_)
    refine lv_iload_n hx hb dX11_world_12 rfl (lv_at hl 3 rfl) ?_
    by_cases c5 : v2 = 0
    · refine lv_tableIn (off := 31) (tgt := 44) hx hb dX11_world_13 (by rw [c5]; decide) (by rw [c5]; decide) (by rw [c5]; rfl) (by decide) ?_
      replace h := mq_it c5 h
      refine lv_iload_n hx hb dX11_world_44 rfl (lv_at hl 2 rfl) ?_
      refine lv_topi (fun x6 ex6 => ?_)
      replace h := mq_nI_go ex6 h
      refine lv_istore (lv' := [(4, .int (x6)), (3, .int (x4)), (0, .ref (a 0)), (1, .int (v1)), (2, .int (v2))]) hx hb dX11_world_45 hl (by decide) rfl (fun ls hl => ?_)
      refine lv_iload_n hx hb dX11_world_47 rfl (lv_at hl 3 rfl) ?_
      refine lv_topi (fun x7 ex7 => ?_)
      replace h := mq_nI_go ex7 h
      refine lv_istore (lv' := [(5, .int (x7)), (4, .int (x6)), (3, .int (x4)), (0, .ref (a 0)), (1, .int (v1)), (2, .int (v2))]) hx hb dX11_world_48 hl (by decide) rfl (fun ls hl => ?_)
      exact zw_X11_world_50 C hret N (v1) (x4) (x6) (x7) S3 H locs ls h (lv_sub hl [3, 4, 2, 1, 0] rfl) hP hD hS
    replace h := mq_if c5 h
    by_cases c8 : v2 = 1
    · refine lv_tableIn (off := 140) (tgt := 153) hx hb dX11_world_13 (by rw [c8]; decide) (by rw [c8]; decide) (by rw [c8]; rfl) (by decide) ?_
      replace h := mq_it c8 h
      refine lv_iconst (v := (0 : Int32)) hx hb dX11_world_153 (by decide) ?_
      refine lv_topi (fun x9 ex9 => ?_)
      replace h := mq_nI_go ex9 h
      refine lv_istore (lv' := [(5, .int (x9)), (3, .int (x4)), (0, .ref (a 0)), (1, .int (v1)), (2, .int (v2))]) hx hb dX11_world_154 hl (by decide) rfl (fun ls hl => ?_)
      exact zw_X11_world_156 C hret N (v1) (x4) (x9) S3 H locs ls h (lv_sub hl [2, 3, 1, 0] rfl) hP hD hS
    replace h := mq_if c8 h
    by_cases c10 : v2 = 2
    · refine lv_tableIn (off := 178) (tgt := 191) hx hb dX11_world_13 (by rw [c10]; decide) (by rw [c10]; decide) (by rw [c10]; rfl) (by decide) ?_
      replace h := mq_it c10 h
      refine lv_iconst (v := (0 : Int32)) hx hb dX11_world_191 (by decide) ?_
      refine lv_topi (fun x11 ex11 => ?_)
      replace h := mq_nI_go ex11 h
      refine lv_istore (lv' := [(5, .int (x11)), (3, .int (x4)), (0, .ref (a 0)), (1, .int (v1)), (2, .int (v2))]) hx hb dX11_world_192 hl (by decide) rfl (fun ls hl => ?_)
      exact zw_X11_world_194 C hret N (v1) (x4) (x11) S3 H locs ls h (lv_sub hl [2, 3, 1, 0] rfl) hP hD hS
    replace h := mq_if c10 h
    by_cases c12 : v2 = 3
    · refine lv_tableIn (off := 221) (tgt := 234) hx hb dX11_world_13 (by rw [c12]; decide) (by rw [c12]; decide) (by rw [c12]; rfl) (by decide) ?_
      replace h := mq_it c12 h
      refine lv_aload_n hx hb dX11_world_234 rfl (lv_at hl 1 rfl) ?_
      refine va_get (D := D) (ci := 11) (v := .ref (a 37)) (C := RX11) (T := TX11) (N := 76) hx hb hts (zi_X11 _) hown hK hP 0 rfl rfl 68 (by decide) (hts _ (List.mem_cons_of_mem _ zt_f_X11_127)) (fun _ h9 => h9) rfl dX11_world_235 ?_
      refine lv_iload_n hx hb dX11_world_238 rfl (lv_at hl 2 rfl) ?_
      have hi13 := mq_ck_in h
      replace h := mq_ck_go h
      refine va_iald (f := S3.2.1 36) hx hb hK hP 37 0 rfl rfl hi13 dX11_world_239 ?_
      cases h
      exact hret H locs ls 240 dX11_world_240 hP hD hS
    replace h := mq_if c12 h
    have nc5 := lv_neT c5 (show Int32.toInt 0 = 0 by decide)
    have nc8 := lv_neT c8 (show Int32.toInt 1 = 1 by decide)
    have nc10 := lv_neT c10 (show Int32.toInt 2 = 2 by decide)
    have nc12 := lv_neT c12 (show Int32.toInt 3 = 3 by decide)
    refine lv_tableOut (tgt := 241) hx hb dX11_world_13 (by omega) (by decide) ?_
    refine lv_iconst (v := (-1 : Int32)) hx hb dX11_world_241 (by decide) ?_
    cases h
    exact hret H locs ls 242 dX11_world_242 hP hD hS
  · replace h := mq_it (by simpa using c14) h
    refine lv_iconst (v := (0 : Int32)) hx hb dX11_world_8 (by decide) ?_
    cases h
    exact hret H locs ls 9 dX11_world_9 hP hD hS
set_option maxHeartbeats 4000000 in
set_option maxRecDepth 100000 in
theorem zm_X11_world (l : Launch) (D : va_G) (a z : Nat → Nat) (cI cL cB cZ : ClassId) (sz N : Nat) (v1 : Int32) (v2 : Int32) (S : mq_St) (res : Int32 × mq_St) (h : zf_X11_world N z v1 v2 S = some res) : Met l yX11_world (zc_X11_world :: mq_T) zr_X11_world (va_Pc [.ref (a 0), .int (v1), .int (v2)] (fun U => U.heap.size = sz ∧ va_P D vwCl (wd_R a cI cL cB cZ z S) U.heap ∧ va_K D vwCl (mq_tys cI cL cB cZ) U ∧ va_D (fun _ => True) (wd_R a cI cL cB cZ z S))) (va_Qi (fun (r : Int32) (u : mq_St) => r = res.1 ∧ u = res.2) (fun u t => va_P D vwCl (wd_R a cI cL cB cZ z u) t.heap ∧ va_K D vwCl (mq_tys cI cL cB cZ) t ∧ va_D (va_A (wd_R a cI cL cB cZ z S) sz) (wd_R a cI cL cB cZ z u)) (va_A (wd_R a cI cL cB cZ z S) sz)) 0 0 (va_A (wd_R a cI cL cB cZ z S) sz) := by
  refine Met.ofW (cc := cX11_world) (maxL := 8) (ret := (some .int)) (by decide) rfl ?_
  intro p e s m args below meth c s₁ B hml hv
  obtain ⟨rfl, hsz, hP, hK, hD0⟩ := hv
  have hr := B.returns
  have hlocks := B.notSynchronized
  have hts := atoms_spec (ws := zc_X11_world :: mq_T) B.pre
  have hown : s.vm.findClass RX11 = some m.cls := findClass_of_methodNamed B.named
  subst hsz
  have hD := hD0.self (sz := s.heap.size)
  generalize hAe : va_A (wd_R a cI cL cB cZ z S) s.heap.size = A at hD ⊢
  have hA : ∀ q : Nat, s.heap.size ≤ q → A q := fun q h => by rw [← hAe]; exact Or.inr h
  have hl := lv_entry ([.ref (a 0), .int (v1), .int (v2)]) (n := 8) (Nat.le_of_ble_eq_true rfl)
  rw [lg_entry_eq]
  generalize (lg_sl ([.ref (a 0), .int (v1), .int (v2)]) ++ List.replicate (8 - (lg_sl ([.ref (a 0), .int (v1), .int (v2)])).length) Slot.unset).toArray = ls at hl ⊢
  have hl : lv_has ls 8 [(0, .ref (a 0)), (1, .int (v1)), (2, .int (v2))] := hl
  refine zw_X11_world_0 (A := A) ⟨B.exec, B.bytes, hml, hown, hts, hK, hA⟩ (fun H locs ls pc dg hP hD hS => ?_) v1 v2 S s.heap [] ls h hl hP hD va_S.rf
  exact W.iret B.exec B.bytes hr (fun t ht hW => ⟨⟨_, _, rfl, ⟨rfl, rfl⟩, by rw [ht]; exact hP, va_K.moved hW.alike hK, hD⟩, hS.F ht⟩) hS.2.2 dg
theorem zt_X11_world_c : zc_X11_world ∈ mq_T := mq_T_mem (mq_t7 (List.mem_of_getElem? (i := 167) rfl)) rfl
theorem zt_X11_world_i : Cond.instanceMethod yX11_world ∈ mq_T := mq_T_mem (mq_t7 (List.mem_of_getElem? (i := 165) rfl)) rfl
theorem zt_X11_world_s : Cond.selects RX11 yX11_world yX11_world ∈ mq_T := mq_T_mem (mq_t7 (List.mem_of_getElem? (i := 166) rfl)) rfl
theorem zt_f_X11_136 : Cond.fieldLink RX11 136 "ModalDeskModel" "group" "[I" ∈ mq_T := mq_T_mem (mq_t5 (List.mem_of_getElem? (i := 236) rfl)) rfl
/-! ModalDeskModel.seesGroup(II)Z -/
def zr_X11_seesGroup : Room := { frames := 0, cells := 0, slots := 0, locals := 0 }
def zc_X11_seesGroup : Cond := .code yX11_seesGroup cX11_seesGroup 4 (some .boolean)
def zf_X11_seesGroup_36 (N : Nat) (z : Nat → Nat) (S : mq_St) (k2 : Int32 → Int32 → Int32 → Option (Int32)) (v1 : Int32) (v2 : Int32) (v3 : Int32) : Option (Int32) := (mq_nI (v3 + (1 : Int32)) (fun x9 => (k2 (v1) (v2) (x9))))
def zf_X11_seesGroup_2b (N : Nat) (z : Nat → Nat) (S : mq_St) (k2 : Int32 → Int32 → Int32 → Option (Int32)) (v1 : Int32) (v2 : Int32) (v3 : Int32) : Option (Int32) := (if (S.1 31) ≤ v3 then (mq_cz ((0 : Int32)) (some ((0 : Int32)))) else (mq_ck ((((60 : Int32) * v1) + v3)) 3600 (if (S.2.1 35 ((((60 : Int32) * v1) + v3)).toNatClampNeg) = (0 : Int32) then (zf_X11_seesGroup_36 N z S k2 (v1) (v2) (v3)) else (mq_ck (v3) 60 (if (S.2.1 39 (v3).toNatClampNeg) = v2 then (mq_cz ((1 : Int32)) (some ((1 : Int32)))) else (zf_X11_seesGroup_36 N z S k2 (v1) (v2) (v3)))))))
def zf_X11_seesGroup_2 (N : Nat) (z : Nat → Nat) (S : mq_St) : Nat → Int32 → Int32 → Int32 → Option (Int32)
  | 0, _, _, _ => none
  | n + 1, v1, v2, v3 => zf_X11_seesGroup_2b N z S (fun v1 v2 v3 => zf_X11_seesGroup_2 N z S n v1 v2 v3) v1 v2 v3
def zf_X11_seesGroup (N : Nat) (z : Nat → Nat) (v1 : Int32) (v2 : Int32) (S : mq_St) : Option (Int32) := (mq_nI ((0 : Int32)) (fun x1 => (zf_X11_seesGroup_2 N z S N (v1) (v2) (x1))))
set_option maxHeartbeats 4000000 in
set_option maxRecDepth 100000 in
theorem zw_X11_seesGroup_36 {p : Program} {l : Launch} {e : Env} {s : State} {m : MethodId} {args : Array Value} {below : List Frame} {meth : Method} {c : Code} {A : Nat → Prop} {D : va_G} {a z : Nat → Nat} {cI cL cB cZ : ClassId} {Q : State → Prop} {N : Nat} {S : mq_St} {res : Int32} {k2 : Int32 → Int32 → Int32 → Option (Int32)} (C : mq_C p s m args c A D cI cL cB cZ cX11_seesGroup 4 RX11 zc_X11_seesGroup) (hret : ∀ (H : Heap) (locs : List Loc) (ls : Array Slot) (pc : Nat), decode cX11_seesGroup pc = .ok (.ireturn, 1) → narrow .boolean (.int res) = .int res → va_P D vwCl (wd_R a cI cL cB cZ z S) H → va_D A (wd_R a cI cL cB cZ z S) → va_S A s.heap H locs → W p l e zr_X11_seesGroup s m args below meth c H locs 0 0 Q (F0 m pc ls [.int res])) (hk2 : ∀ (v1 : Int32) (v2 : Int32) (v3 : Int32) (H : Heap) (locs : List Loc) (ls : Array Slot), k2 v1 v2 v3 = some res → lv_has ls 4 [(0, .ref (a 0)), (1, .int (v1)), (2, .int (v2)), (3, .int (v3))] → va_P D vwCl (wd_R a cI cL cB cZ z S) H → va_D A (wd_R a cI cL cB cZ z S) → va_S A s.heap H locs → W p l e zr_X11_seesGroup s m args below meth c H locs 0 0 Q (F0 m 2 ls [])) (v1 : Int32) (v2 : Int32) (v3 : Int32) (H : Heap) (locs : List Loc) (ls : Array Slot) (h : zf_X11_seesGroup_36 N z S k2 v1 v2 v3 = some res) (hl : lv_has ls 4 [(0, .ref (a 0)), (1, .int (v1)), (2, .int (v2)), (3, .int (v3))]) (hP : va_P D vwCl (wd_R a cI cL cB cZ z S) H) (hD : va_D A (wd_R a cI cL cB cZ z S)) (hS : va_S A s.heap H locs) : W p l e zr_X11_seesGroup s m args below meth c H locs 0 0 Q (F0 m 36 ls []) := by
  obtain ⟨hx, hb, hml, hown, hts, hK, hA⟩ := id C
  unfold zf_X11_seesGroup_36 at h
  obtain ⟨x9, ex9⟩ : ∃ y : Int32, y = v3 + (1 : Int32) := ⟨_, rfl⟩
  replace h := mq_nI_go ex9 h
  refine lv_iinc (v := x9) (lv' := [(3, .int (x9)), (0, .ref (a 0)), (1, .int (v1)), (2, .int (v2))]) hx hb dX11_seesGroup_36 hl (k := 3) rfl (by rw [ex9]; rfl) (by decide) rfl (fun ls hl => ?_)
  refine lv_goto (tgt := 2) hx hb dX11_seesGroup_39 (by decide) ?_
  exact hk2 (v1) (v2) (x9) H locs ls h (lv_sub hl [1, 2, 3, 0] rfl) hP hD hS
set_option maxHeartbeats 4000000 in
set_option maxRecDepth 100000 in
theorem zw_X11_seesGroup_2b {p : Program} {l : Launch} {e : Env} {s : State} {m : MethodId} {args : Array Value} {below : List Frame} {meth : Method} {c : Code} {A : Nat → Prop} {D : va_G} {a z : Nat → Nat} {cI cL cB cZ : ClassId} {Q : State → Prop} {N : Nat} {S : mq_St} {res : Int32} {k2 : Int32 → Int32 → Int32 → Option (Int32)} (C : mq_C p s m args c A D cI cL cB cZ cX11_seesGroup 4 RX11 zc_X11_seesGroup) (hret : ∀ (H : Heap) (locs : List Loc) (ls : Array Slot) (pc : Nat), decode cX11_seesGroup pc = .ok (.ireturn, 1) → narrow .boolean (.int res) = .int res → va_P D vwCl (wd_R a cI cL cB cZ z S) H → va_D A (wd_R a cI cL cB cZ z S) → va_S A s.heap H locs → W p l e zr_X11_seesGroup s m args below meth c H locs 0 0 Q (F0 m pc ls [.int res])) (hk2 : ∀ (v1 : Int32) (v2 : Int32) (v3 : Int32) (H : Heap) (locs : List Loc) (ls : Array Slot), k2 v1 v2 v3 = some res → lv_has ls 4 [(0, .ref (a 0)), (1, .int (v1)), (2, .int (v2)), (3, .int (v3))] → va_P D vwCl (wd_R a cI cL cB cZ z S) H → va_D A (wd_R a cI cL cB cZ z S) → va_S A s.heap H locs → W p l e zr_X11_seesGroup s m args below meth c H locs 0 0 Q (F0 m 2 ls [])) (v1 : Int32) (v2 : Int32) (v3 : Int32) (H : Heap) (locs : List Loc) (ls : Array Slot) (h : zf_X11_seesGroup_2b N z S k2 v1 v2 v3 = some res) (hl : lv_has ls 4 [(0, .ref (a 0)), (1, .int (v1)), (2, .int (v2)), (3, .int (v3))]) (hP : va_P D vwCl (wd_R a cI cL cB cZ z S) H) (hD : va_D A (wd_R a cI cL cB cZ z S)) (hS : va_S A s.heap H locs) : W p l e zr_X11_seesGroup s m args below meth c H locs 0 0 Q (F0 m 2 ls []) := by
  obtain ⟨hx, hb, hml, hown, hts, hK, hA⟩ := id C
  unfold zf_X11_seesGroup_2b at h
  refine lv_iload_n hx hb dX11_seesGroup_2 rfl (lv_at hl 3 rfl) ?_
  refine lv_aload_n hx hb dX11_seesGroup_3 rfl (lv_at hl 0 rfl) ?_
  refine va_get (D := D) (ci := 11) (v := .int ((S.1 31))) (C := RX11) (T := TX11) (N := 76) hx hb hts (zi_X11 _) hown hK hP 0 rfl rfl 65 (by decide) (hts _ (List.mem_cons_of_mem _ zt_f_X11_375)) (fun _ h9 => h9) rfl dX11_seesGroup_4 ?_
  refine lv_icmp_ge (tgt := 42) hx hb dX11_seesGroup_7 (by decide) (fun c8 => ?_) (fun c8 => ?_)
  · replace h := mq_it c8 h
    refine lv_iconst (v := (0 : Int32)) hx hb dX11_seesGroup_42 (by decide) ?_
    have hz2 := mq_cz_in h
    replace h := mq_cz_go h
    cases h
    exact hret H locs ls 43 dX11_seesGroup_43 hz2.1 hP hD hS
  · replace h := mq_if c8 h
    refine lv_aload_n hx hb dX11_seesGroup_10 rfl (lv_at hl 0 rfl) ?_
    refine va_get (D := D) (ci := 11) (v := .ref (a 36)) (C := RX11) (T := TX11) (N := 76) hx hb hts (zi_X11 _) hown hK hP 0 rfl rfl 67 (by decide) (hts _ (List.mem_cons_of_mem _ zt_f_X11_124)) (fun _ h9 => h9) rfl dX11_seesGroup_11 ?_
    refine lv_bipush (v := (60 : Int32)) hx hb dX11_seesGroup_14 (by decide) ?_
    refine lv_iload_n hx hb dX11_seesGroup_16 rfl (lv_at hl 1 rfl) ?_
    refine lv_imul hx hb dX11_seesGroup_17 ?_
    refine lv_iload_n hx hb dX11_seesGroup_18 rfl (lv_at hl 3 rfl) ?_
    refine lv_iadd hx hb dX11_seesGroup_19 ?_
    have hi3 := mq_ck_in h
    replace h := mq_ck_go h
    refine va_zald (f := S.2.1 35) hx hb hK hP 36 3 rfl rfl hi3 dX11_seesGroup_20 ?_
    refine lv_if_eq (tgt := 36) hx hb dX11_seesGroup_21 (by decide) (fun c7 => ?_) (fun c7 => ?_)
    · replace h := mq_it c7 h
      exact zw_X11_seesGroup_36 C hret hk2 (v1) (v2) (v3) H locs ls h (lv_sub hl [0, 1, 2, 3] rfl) hP hD hS
    · replace h := mq_if c7 h
      refine lv_aload_n hx hb dX11_seesGroup_24 rfl (lv_at hl 0 rfl) ?_
      refine va_get (D := D) (ci := 11) (v := .ref (a 40)) (C := RX11) (T := TX11) (N := 76) hx hb hts (zi_X11 _) hown hK hP 0 rfl rfl 71 (by decide) (hts _ (List.mem_cons_of_mem _ zt_f_X11_136)) (fun _ h9 => h9) rfl dX11_seesGroup_25 ?_
      refine lv_iload_n hx hb dX11_seesGroup_28 rfl (lv_at hl 3 rfl) ?_
      have hi4 := mq_ck_in h
      replace h := mq_ck_go h
      refine va_iald (f := S.2.1 39) hx hb hK hP 40 0 rfl rfl hi4 dX11_seesGroup_29 ?_
      refine lv_iload_n hx hb dX11_seesGroup_30 rfl (lv_at hl 2 rfl) ?_
      refine lv_icmp_ne (tgt := 36) hx hb dX11_seesGroup_31 (by decide) (fun c6 => ?_) (fun c6 => ?_)
      · replace h := mq_if c6 h
        exact zw_X11_seesGroup_36 C hret hk2 (v1) (v2) (v3) H locs ls h (lv_sub hl [0, 1, 2, 3] rfl) hP hD hS
      · replace h := mq_it (by simpa using c6) h
        refine lv_iconst (v := (1 : Int32)) hx hb dX11_seesGroup_34 (by decide) ?_
        have hz5 := mq_cz_in h
        replace h := mq_cz_go h
        cases h
        exact hret H locs ls 35 dX11_seesGroup_35 hz5.1 hP hD hS
set_option maxHeartbeats 4000000 in
set_option maxRecDepth 100000 in
theorem zw_X11_seesGroup_2 {p : Program} {l : Launch} {e : Env} {s : State} {m : MethodId} {args : Array Value} {below : List Frame} {meth : Method} {c : Code} {A : Nat → Prop} {D : va_G} {a z : Nat → Nat} {cI cL cB cZ : ClassId} {Q : State → Prop} {N : Nat} {S : mq_St} {res : Int32} (C : mq_C p s m args c A D cI cL cB cZ cX11_seesGroup 4 RX11 zc_X11_seesGroup) (hret : ∀ (H : Heap) (locs : List Loc) (ls : Array Slot) (pc : Nat), decode cX11_seesGroup pc = .ok (.ireturn, 1) → narrow .boolean (.int res) = .int res → va_P D vwCl (wd_R a cI cL cB cZ z S) H → va_D A (wd_R a cI cL cB cZ z S) → va_S A s.heap H locs → W p l e zr_X11_seesGroup s m args below meth c H locs 0 0 Q (F0 m pc ls [.int res])) : ∀ (n : Nat) (v1 : Int32) (v2 : Int32) (v3 : Int32) (H : Heap) (locs : List Loc) (ls : Array Slot) (h : zf_X11_seesGroup_2 N z S n v1 v2 v3 = some res) (hl : lv_has ls 4 [(0, .ref (a 0)), (1, .int (v1)), (2, .int (v2)), (3, .int (v3))]) (hP : va_P D vwCl (wd_R a cI cL cB cZ z S) H) (hD : va_D A (wd_R a cI cL cB cZ z S)) (hS : va_S A s.heap H locs), W p l e zr_X11_seesGroup s m args below meth c H locs 0 0 Q (F0 m 2 ls []) := by
  intro n
  induction n with
  | zero =>
    intro v1 v2 v3 H locs ls h hl hP hD hS
    exact nomatch (show (none : Option (Int32)) = some res from h)
  | succ n ih =>
    intro v1 v2 v3 H locs ls h hl hP hD hS
    exact zw_X11_seesGroup_2b C hret (fun v1 v2 v3 H locs ls h hl hP hD hS => ih v1 v2 v3 H locs ls h hl hP hD hS) v1 v2 v3 H locs ls h hl hP hD hS
set_option maxHeartbeats 4000000 in
set_option maxRecDepth 100000 in
theorem zw_X11_seesGroup_0 {p : Program} {l : Launch} {e : Env} {s : State} {m : MethodId} {args : Array Value} {below : List Frame} {meth : Method} {c : Code} {A : Nat → Prop} {D : va_G} {a z : Nat → Nat} {cI cL cB cZ : ClassId} {Q : State → Prop} {N : Nat} {S : mq_St} {res : Int32} (C : mq_C p s m args c A D cI cL cB cZ cX11_seesGroup 4 RX11 zc_X11_seesGroup) (hret : ∀ (H : Heap) (locs : List Loc) (ls : Array Slot) (pc : Nat), decode cX11_seesGroup pc = .ok (.ireturn, 1) → narrow .boolean (.int res) = .int res → va_P D vwCl (wd_R a cI cL cB cZ z S) H → va_D A (wd_R a cI cL cB cZ z S) → va_S A s.heap H locs → W p l e zr_X11_seesGroup s m args below meth c H locs 0 0 Q (F0 m pc ls [.int res])) (v1 : Int32) (v2 : Int32) (H : Heap) (locs : List Loc) (ls : Array Slot) (h : zf_X11_seesGroup N z v1 v2 S = some res) (hl : lv_has ls 4 [(0, .ref (a 0)), (1, .int (v1)), (2, .int (v2))]) (hP : va_P D vwCl (wd_R a cI cL cB cZ z S) H) (hD : va_D A (wd_R a cI cL cB cZ z S)) (hS : va_S A s.heap H locs) : W p l e zr_X11_seesGroup s m args below meth c H locs 0 0 Q (F0 m 0 ls []) := by
  obtain ⟨hx, hb, hml, hown, hts, hK, hA⟩ := id C
  unfold zf_X11_seesGroup at h
  refine lv_iconst (v := (0 : Int32)) hx hb dX11_seesGroup_0 (by decide) ?_
  refine lv_topi (fun x1 ex1 => ?_)
  replace h := mq_nI_go ex1 h
  refine lv_istore_n (lv' := [(3, .int (x1)), (0, .ref (a 0)), (1, .int (v1)), (2, .int (v2))]) hx hb dX11_seesGroup_1 rfl hl (by decide) rfl (fun ls hl => ?_)
  exact zw_X11_seesGroup_2 C hret N (v1) (v2) (x1) H locs ls h (lv_sub hl [1, 2, 3, 0] rfl) hP hD hS
set_option maxHeartbeats 4000000 in
set_option maxRecDepth 100000 in
theorem zm_X11_seesGroup (l : Launch) (D : va_G) (a z : Nat → Nat) (cI cL cB cZ : ClassId) (sz N : Nat) (v1 : Int32) (v2 : Int32) (S : mq_St) (res : Int32) (h : zf_X11_seesGroup N z v1 v2 S = some res) : Met l yX11_seesGroup (zc_X11_seesGroup :: mq_T) zr_X11_seesGroup (va_Pc [.ref (a 0), .int (v1), .int (v2)] (fun U => U.heap.size = sz ∧ va_P D vwCl (wd_R a cI cL cB cZ z S) U.heap ∧ va_K D vwCl (mq_tys cI cL cB cZ) U ∧ va_D (fun _ => True) (wd_R a cI cL cB cZ z S))) (va_Qi (fun (r : Int32) (u : mq_St) => r = res ∧ u = S) (fun u t => va_P D vwCl (wd_R a cI cL cB cZ z u) t.heap ∧ va_K D vwCl (mq_tys cI cL cB cZ) t ∧ va_D (va_A (wd_R a cI cL cB cZ z S) sz) (wd_R a cI cL cB cZ z u)) (va_A (wd_R a cI cL cB cZ z S) sz)) 0 0 (va_A (wd_R a cI cL cB cZ z S) sz) := by
  refine Met.ofW (cc := cX11_seesGroup) (maxL := 4) (ret := (some .boolean)) (by decide) rfl ?_
  intro p e s m args below meth c s₁ B hml hv
  obtain ⟨rfl, hsz, hP, hK, hD0⟩ := hv
  have hr := B.returns
  have hlocks := B.notSynchronized
  have hts := atoms_spec (ws := zc_X11_seesGroup :: mq_T) B.pre
  have hown : s.vm.findClass RX11 = some m.cls := findClass_of_methodNamed B.named
  subst hsz
  have hD := hD0.self (sz := s.heap.size)
  generalize hAe : va_A (wd_R a cI cL cB cZ z S) s.heap.size = A at hD ⊢
  have hA : ∀ q : Nat, s.heap.size ≤ q → A q := fun q h => by rw [← hAe]; exact Or.inr h
  have hl := lv_entry ([.ref (a 0), .int (v1), .int (v2)]) (n := 4) (Nat.le_of_ble_eq_true rfl)
  rw [lg_entry_eq]
  generalize (lg_sl ([.ref (a 0), .int (v1), .int (v2)]) ++ List.replicate (4 - (lg_sl ([.ref (a 0), .int (v1), .int (v2)])).length) Slot.unset).toArray = ls at hl ⊢
  have hl : lv_has ls 4 [(0, .ref (a 0)), (1, .int (v1)), (2, .int (v2))] := hl
  refine zw_X11_seesGroup_0 (A := A) ⟨B.exec, B.bytes, hml, hown, hts, hK, hA⟩ (fun H locs ls pc dg hz hP hD hS => ?_) v1 v2 s.heap [] ls h hl hP hD va_S.rf
  exact W.zret B.exec B.bytes hr hz (fun t ht hW => ⟨⟨_, _, rfl, ⟨rfl, rfl⟩, by rw [ht]; exact hP, va_K.moved hW.alike hK, hD⟩, hS.F ht⟩) hS.2.2 dg
theorem zt_X11_seesGroup_c : zc_X11_seesGroup ∈ mq_T := mq_T_mem (mq_t7 (List.mem_of_getElem? (i := 183) rfl)) rfl
theorem zt_X11_seesGroup_i : Cond.instanceMethod yX11_seesGroup ∈ mq_T := mq_T_mem (mq_t7 (List.mem_of_getElem? (i := 182) rfl)) rfl
theorem zt_X11_seesGroup_s : Cond.selects RX11 yX11_seesGroup yX11_seesGroup ∈ mq_T := mq_T_at 107 (by decide +kernel)
set_option maxHeartbeats 4000000 in
theorem zk_X11_seesGroup {p : Program} {l : Launch} {e : Env} {R : Room} {s : State} {m : MethodId} {args : Array Value} {below : List Frame} {meth : Method} {c : Code} {A : Nat → Prop} {D : va_G} {a z : Nat → Nat} {cI cL cB cZ : ClassId} {Q : State → Prop} {cc : ByteArray} {nL idx pc N : Nat} {own : String} {c1 : Cond} {H : Heap} {locs : List Loc} {ls : Array Slot} {rest : List Value} {S : mq_St} {res : Int32} {v1 : Int32} {v2 : Int32} (C : mq_C p s m args c A D cI cL cB cZ cc nL own c1) (hlk : Cond.methodLink own idx yX11_seesGroup ∈ mq_T) (hR : zr_X11_seesGroup.frames + 1 ≤ R.frames ∧ 8 + (4 + 11) + zr_X11_seesGroup.locals ≤ R.locals) (h : zf_X11_seesGroup N z v1 v2 S = some res) (hP : va_P D vwCl (wd_R a cI cL cB cZ z S) H) (hD : va_D A (wd_R a cI cL cB cZ z S)) (hS : va_S A s.heap H locs) (hls : ls.size = nL) (hrest : (rest.map fun v => v.category).sum ≤ 8) (hdg : decode cc pc = .ok (.invokevirtual idx, 3)) (kk : ∀ (H1 : Heap) (locs1 : List Loc), va_P D vwCl (wd_R a cI cL cB cZ z S) H1 → va_D A (wd_R a cI cL cB cZ z S) → va_S A s.heap H1 locs1 → W p l e R s m args below meth c H1 locs1 0 0 Q (F0 m (pc + 3) ls (.int res :: rest))) : W p l e R s m args below meth c H locs 0 0 Q (F0 m pc ls (.int (v2) :: .int (v1) :: .ref (a 0) :: rest)) := by
  obtain ⟨hx, hb, hml, hown, hts, hK, hA⟩ := C
  have hFc := mq_freeI hD hS hA
  refine va_calli (va_runV (As := [.int (v1), .int (v2)]) (rest := rest) ⟨hx, hb, hml, hown, hts⟩ (zm_X11_seesGroup l D a z cI cL cB cZ H.size N v1 v2 S res h) (cwV 2 hts (mq_goodL (mq_wsV hlk zt_X11_seesGroup_i zt_X11_seesGroup_s zt_ini_X11 zt_X11_seesGroup_c)) rfl rfl rfl (by decide +kernel) hR) ⟨fun a U g mk q => ⟨q.1, q.2.1, q.2.2.1, va_K.moved (u := U) (U := U.calling g mk a) (Vm.Alike.refl U.vm) q.2.2.2.1, q.2.2.2.2⟩, zy_R_0 hK hP, fun U hU hW => ⟨rfl, by rw [hU], by rw [hU]; exact hP, va_K.moved hW.alike hK, hD.weaken (fun _ _ _ _ => trivial)⟩⟩ rfl rfl hls rfl (lv_room hrest) hdg ⟨Nat.zero_le _, Nat.zero_le _⟩) hS (fun q _ h => hFc q h) hFc (fun r u t H1 locs ht hvm hw hB hz1 hk1 hS => ?_)
  obtain ⟨rfl, rfl⟩ := hw
  obtain ⟨hP1, hK1, hD1⟩ := hB
  rw [ht] at hP1
  exact kk H1 locs hP1 (hD1.weaken (fun _ _ _ h => hFc _ h)) hS
theorem zt_f_X11_142 : Cond.fieldLink RX11 142 "ModalDeskModel" "view" "[Z" ∈ mq_T := mq_T_mem (mq_t5 (List.mem_of_getElem? (i := 238) rfl)) rfl
/-! ModalDeskModel.isAlike(II)Z -/
def zr_X11_isAlike : Room := { frames := 0, cells := 0, slots := 0, locals := 0 }
def zc_X11_isAlike : Cond := .code yX11_isAlike cX11_isAlike 4 (some .boolean)
def zf_X11_isAlike_19b (N : Nat) (z : Nat → Nat) (S : mq_St) (k19 : Int32 → Int32 → Int32 → Option (Int32)) (v1 : Int32) (v2 : Int32) (v3 : Int32) : Option (Int32) := (if (S.1 31) ≤ v3 then (mq_cz ((1 : Int32)) (some ((1 : Int32)))) else (mq_ck ((((60 : Int32) * v1) + v3)) 3600 (mq_ck ((((60 : Int32) * v2) + v3)) 3600 (if (S.2.1 41 ((((60 : Int32) * v1) + v3)).toNatClampNeg) = (S.2.1 41 ((((60 : Int32) * v2) + v3)).toNatClampNeg) then (mq_nI (v3 + (1 : Int32)) (fun x9 => (k19 (v1) (v2) (x9)))) else (mq_cz ((0 : Int32)) (some ((0 : Int32))))))))
def zf_X11_isAlike_19 (N : Nat) (z : Nat → Nat) (S : mq_St) : Nat → Int32 → Int32 → Int32 → Option (Int32)
  | 0, _, _, _ => none
  | n + 1, v1, v2, v3 => zf_X11_isAlike_19b N z S (fun v1 v2 v3 => zf_X11_isAlike_19 N z S n v1 v2 v3) v1 v2 v3
def zf_X11_isAlike (N : Nat) (z : Nat → Nat) (v1 : Int32) (v2 : Int32) (S : mq_St) : Option (Int32) := (mq_ck (v1) 60 (mq_ck (v2) 60 (if (S.2.1 39 (v1).toNatClampNeg) = (S.2.1 39 (v2).toNatClampNeg) then (mq_nI ((0 : Int32)) (fun x3 => (zf_X11_isAlike_19 N z S N (v1) (v2) (x3)))) else (mq_cz ((0 : Int32)) (some ((0 : Int32)))))))
set_option maxHeartbeats 4000000 in
set_option maxRecDepth 100000 in
theorem zw_X11_isAlike_19b {p : Program} {l : Launch} {e : Env} {s : State} {m : MethodId} {args : Array Value} {below : List Frame} {meth : Method} {c : Code} {A : Nat → Prop} {D : va_G} {a z : Nat → Nat} {cI cL cB cZ : ClassId} {Q : State → Prop} {N : Nat} {S : mq_St} {res : Int32} {k19 : Int32 → Int32 → Int32 → Option (Int32)} (C : mq_C p s m args c A D cI cL cB cZ cX11_isAlike 4 RX11 zc_X11_isAlike) (hret : ∀ (H : Heap) (locs : List Loc) (ls : Array Slot) (pc : Nat), decode cX11_isAlike pc = .ok (.ireturn, 1) → narrow .boolean (.int res) = .int res → va_P D vwCl (wd_R a cI cL cB cZ z S) H → va_D A (wd_R a cI cL cB cZ z S) → va_S A s.heap H locs → W p l e zr_X11_isAlike s m args below meth c H locs 0 0 Q (F0 m pc ls [.int res])) (hk19 : ∀ (v1 : Int32) (v2 : Int32) (v3 : Int32) (H : Heap) (locs : List Loc) (ls : Array Slot), k19 v1 v2 v3 = some res → lv_has ls 4 [(0, .ref (a 0)), (1, .int (v1)), (2, .int (v2)), (3, .int (v3))] → va_P D vwCl (wd_R a cI cL cB cZ z S) H → va_D A (wd_R a cI cL cB cZ z S) → va_S A s.heap H locs → W p l e zr_X11_isAlike s m args below meth c H locs 0 0 Q (F0 m 19 ls [])) (v1 : Int32) (v2 : Int32) (v3 : Int32) (H : Heap) (locs : List Loc) (ls : Array Slot) (h : zf_X11_isAlike_19b N z S k19 v1 v2 v3 = some res) (hl : lv_has ls 4 [(0, .ref (a 0)), (1, .int (v1)), (2, .int (v2)), (3, .int (v3))]) (hP : va_P D vwCl (wd_R a cI cL cB cZ z S) H) (hD : va_D A (wd_R a cI cL cB cZ z S)) (hS : va_S A s.heap H locs) : W p l e zr_X11_isAlike s m args below meth c H locs 0 0 Q (F0 m 19 ls []) := by
  obtain ⟨hx, hb, hml, hown, hts, hK, hA⟩ := id C
  unfold zf_X11_isAlike_19b at h
  refine lv_iload_n hx hb dX11_isAlike_19 rfl (lv_at hl 3 rfl) ?_
  refine lv_aload_n hx hb dX11_isAlike_20 rfl (lv_at hl 0 rfl) ?_
  refine va_get (D := D) (ci := 11) (v := .int ((S.1 31))) (C := RX11) (T := TX11) (N := 76) hx hb hts (zi_X11 _) hown hK hP 0 rfl rfl 65 (by decide) (hts _ (List.mem_cons_of_mem _ zt_f_X11_375)) (fun _ h9 => h9) rfl dX11_isAlike_21 ?_
  refine lv_icmp_ge (tgt := 60) hx hb dX11_isAlike_24 (by decide) (fun c12 => ?_) (fun c12 => ?_)
  · replace h := mq_it c12 h
    refine lv_iconst (v := (1 : Int32)) hx hb dX11_isAlike_60 (by decide) ?_
    have hz6 := mq_cz_in h
    replace h := mq_cz_go h
    cases h
    exact hret H locs ls 61 dX11_isAlike_61 hz6.1 hP hD hS
  · replace h := mq_if c12 h
    refine lv_aload_n hx hb dX11_isAlike_27 rfl (lv_at hl 0 rfl) ?_
    refine va_get (D := D) (ci := 11) (v := .ref (a 42)) (C := RX11) (T := TX11) (N := 76) hx hb hts (zi_X11 _) hown hK hP 0 rfl rfl 73 (by decide) (hts _ (List.mem_cons_of_mem _ zt_f_X11_142)) (fun _ h9 => h9) rfl dX11_isAlike_28 ?_
    refine lv_bipush (v := (60 : Int32)) hx hb dX11_isAlike_31 (by decide) ?_
    refine lv_iload_n hx hb dX11_isAlike_33 rfl (lv_at hl 1 rfl) ?_
    refine lv_imul hx hb dX11_isAlike_34 ?_
    refine lv_iload_n hx hb dX11_isAlike_35 rfl (lv_at hl 3 rfl) ?_
    refine lv_iadd hx hb dX11_isAlike_36 ?_
    have hi7 := mq_ck_in h
    replace h := mq_ck_go h
    refine va_zald (f := S.2.1 41) hx hb hK hP 42 3 rfl rfl hi7 dX11_isAlike_37 ?_
    refine lv_aload_n hx hb dX11_isAlike_38 rfl (lv_at hl 0 rfl) ?_
    refine va_get (D := D) (ci := 11) (v := .ref (a 42)) (C := RX11) (T := TX11) (N := 76) hx hb hts (zi_X11 _) hown hK hP 0 rfl rfl 73 (by decide) (hts _ (List.mem_cons_of_mem _ zt_f_X11_142)) (fun _ h9 => h9) rfl dX11_isAlike_39 ?_
    refine lv_bipush (v := (60 : Int32)) hx hb dX11_isAlike_42 (by decide) ?_
    refine lv_iload_n hx hb dX11_isAlike_44 rfl (lv_at hl 2 rfl) ?_
    refine lv_imul hx hb dX11_isAlike_45 ?_
    refine lv_iload_n hx hb dX11_isAlike_46 rfl (lv_at hl 3 rfl) ?_
    refine lv_iadd hx hb dX11_isAlike_47 ?_
    have hi8 := mq_ck_in h
    replace h := mq_ck_go h
    refine va_zald (f := S.2.1 41) hx hb hK hP 42 3 rfl rfl hi8 dX11_isAlike_48 ?_
    refine lv_icmp_eq (tgt := 54) hx hb dX11_isAlike_49 (by decide) (fun c11 => ?_) (fun c11 => ?_)
    · replace h := mq_it c11 h
      obtain ⟨x9, ex9⟩ : ∃ y : Int32, y = v3 + (1 : Int32) := ⟨_, rfl⟩
      replace h := mq_nI_go ex9 h
      refine lv_iinc (v := x9) (lv' := [(3, .int (x9)), (0, .ref (a 0)), (1, .int (v1)), (2, .int (v2))]) hx hb dX11_isAlike_54 hl (k := 3) rfl (by rw [ex9]; rfl) (by decide) rfl (fun ls hl => ?_)
      refine lv_goto (tgt := 19) hx hb dX11_isAlike_57 (by decide) ?_
      exact hk19 (v1) (v2) (x9) H locs ls h (lv_sub hl [1, 2, 3, 0] rfl) hP hD hS
    · replace h := mq_if c11 h
      refine lv_iconst (v := (0 : Int32)) hx hb dX11_isAlike_52 (by decide) ?_
      have hz10 := mq_cz_in h
      replace h := mq_cz_go h
      cases h
      exact hret H locs ls 53 dX11_isAlike_53 hz10.1 hP hD hS
set_option maxHeartbeats 4000000 in
set_option maxRecDepth 100000 in
theorem zw_X11_isAlike_19 {p : Program} {l : Launch} {e : Env} {s : State} {m : MethodId} {args : Array Value} {below : List Frame} {meth : Method} {c : Code} {A : Nat → Prop} {D : va_G} {a z : Nat → Nat} {cI cL cB cZ : ClassId} {Q : State → Prop} {N : Nat} {S : mq_St} {res : Int32} (C : mq_C p s m args c A D cI cL cB cZ cX11_isAlike 4 RX11 zc_X11_isAlike) (hret : ∀ (H : Heap) (locs : List Loc) (ls : Array Slot) (pc : Nat), decode cX11_isAlike pc = .ok (.ireturn, 1) → narrow .boolean (.int res) = .int res → va_P D vwCl (wd_R a cI cL cB cZ z S) H → va_D A (wd_R a cI cL cB cZ z S) → va_S A s.heap H locs → W p l e zr_X11_isAlike s m args below meth c H locs 0 0 Q (F0 m pc ls [.int res])) : ∀ (n : Nat) (v1 : Int32) (v2 : Int32) (v3 : Int32) (H : Heap) (locs : List Loc) (ls : Array Slot) (h : zf_X11_isAlike_19 N z S n v1 v2 v3 = some res) (hl : lv_has ls 4 [(0, .ref (a 0)), (1, .int (v1)), (2, .int (v2)), (3, .int (v3))]) (hP : va_P D vwCl (wd_R a cI cL cB cZ z S) H) (hD : va_D A (wd_R a cI cL cB cZ z S)) (hS : va_S A s.heap H locs), W p l e zr_X11_isAlike s m args below meth c H locs 0 0 Q (F0 m 19 ls []) := by
  intro n
  induction n with
  | zero =>
    intro v1 v2 v3 H locs ls h hl hP hD hS
    exact nomatch (show (none : Option (Int32)) = some res from h)
  | succ n ih =>
    intro v1 v2 v3 H locs ls h hl hP hD hS
    exact zw_X11_isAlike_19b C hret (fun v1 v2 v3 H locs ls h hl hP hD hS => ih v1 v2 v3 H locs ls h hl hP hD hS) v1 v2 v3 H locs ls h hl hP hD hS
set_option maxHeartbeats 4000000 in
set_option maxRecDepth 100000 in
theorem zw_X11_isAlike_0 {p : Program} {l : Launch} {e : Env} {s : State} {m : MethodId} {args : Array Value} {below : List Frame} {meth : Method} {c : Code} {A : Nat → Prop} {D : va_G} {a z : Nat → Nat} {cI cL cB cZ : ClassId} {Q : State → Prop} {N : Nat} {S : mq_St} {res : Int32} (C : mq_C p s m args c A D cI cL cB cZ cX11_isAlike 4 RX11 zc_X11_isAlike) (hret : ∀ (H : Heap) (locs : List Loc) (ls : Array Slot) (pc : Nat), decode cX11_isAlike pc = .ok (.ireturn, 1) → narrow .boolean (.int res) = .int res → va_P D vwCl (wd_R a cI cL cB cZ z S) H → va_D A (wd_R a cI cL cB cZ z S) → va_S A s.heap H locs → W p l e zr_X11_isAlike s m args below meth c H locs 0 0 Q (F0 m pc ls [.int res])) (v1 : Int32) (v2 : Int32) (H : Heap) (locs : List Loc) (ls : Array Slot) (h : zf_X11_isAlike N z v1 v2 S = some res) (hl : lv_has ls 4 [(0, .ref (a 0)), (1, .int (v1)), (2, .int (v2))]) (hP : va_P D vwCl (wd_R a cI cL cB cZ z S) H) (hD : va_D A (wd_R a cI cL cB cZ z S)) (hS : va_S A s.heap H locs) : W p l e zr_X11_isAlike s m args below meth c H locs 0 0 Q (F0 m 0 ls []) := by
  obtain ⟨hx, hb, hml, hown, hts, hK, hA⟩ := id C
  unfold zf_X11_isAlike at h
  refine lv_aload_n hx hb dX11_isAlike_0 rfl (lv_at hl 0 rfl) ?_
  refine va_get (D := D) (ci := 11) (v := .ref (a 40)) (C := RX11) (T := TX11) (N := 76) hx hb hts (zi_X11 _) hown hK hP 0 rfl rfl 71 (by decide) (hts _ (List.mem_cons_of_mem _ zt_f_X11_136)) (fun _ h9 => h9) rfl dX11_isAlike_1 ?_
  refine lv_iload_n hx hb dX11_isAlike_4 rfl (lv_at hl 1 rfl) ?_
  have hi1 := mq_ck_in h
  replace h := mq_ck_go h
  refine va_iald (f := S.2.1 39) hx hb hK hP 40 0 rfl rfl hi1 dX11_isAlike_5 ?_
  refine lv_aload_n hx hb dX11_isAlike_6 rfl (lv_at hl 0 rfl) ?_
  refine va_get (D := D) (ci := 11) (v := .ref (a 40)) (C := RX11) (T := TX11) (N := 76) hx hb hts (zi_X11 _) hown hK hP 0 rfl rfl 71 (by decide) (hts _ (List.mem_cons_of_mem _ zt_f_X11_136)) (fun _ h9 => h9) rfl dX11_isAlike_7 ?_
  refine lv_iload_n hx hb dX11_isAlike_10 rfl (lv_at hl 2 rfl) ?_
  have hi2 := mq_ck_in h
  replace h := mq_ck_go h
  refine va_iald (f := S.2.1 39) hx hb hK hP 40 0 rfl rfl hi2 dX11_isAlike_11 ?_
  refine lv_icmp_eq (tgt := 17) hx hb dX11_isAlike_12 (by decide) (fun c5 => ?_) (fun c5 => ?_)
  · replace h := mq_it c5 h
    refine lv_iconst (v := (0 : Int32)) hx hb dX11_isAlike_17 (by decide) ?_
    refine lv_topi (fun x3 ex3 => ?_)
    replace h := mq_nI_go ex3 h
    refine lv_istore_n (lv' := [(3, .int (x3)), (0, .ref (a 0)), (1, .int (v1)), (2, .int (v2))]) hx hb dX11_isAlike_18 rfl hl (by decide) rfl (fun ls hl => ?_)
    exact zw_X11_isAlike_19 C hret N (v1) (v2) (x3) H locs ls h (lv_sub hl [1, 2, 3, 0] rfl) hP hD hS
  · replace h := mq_if c5 h
    refine lv_iconst (v := (0 : Int32)) hx hb dX11_isAlike_15 (by decide) ?_
    have hz4 := mq_cz_in h
    replace h := mq_cz_go h
    cases h
    exact hret H locs ls 16 dX11_isAlike_16 hz4.1 hP hD hS
set_option maxHeartbeats 4000000 in
set_option maxRecDepth 100000 in
theorem zm_X11_isAlike (l : Launch) (D : va_G) (a z : Nat → Nat) (cI cL cB cZ : ClassId) (sz N : Nat) (v1 : Int32) (v2 : Int32) (S : mq_St) (res : Int32) (h : zf_X11_isAlike N z v1 v2 S = some res) : Met l yX11_isAlike (zc_X11_isAlike :: mq_T) zr_X11_isAlike (va_Pc [.ref (a 0), .int (v1), .int (v2)] (fun U => U.heap.size = sz ∧ va_P D vwCl (wd_R a cI cL cB cZ z S) U.heap ∧ va_K D vwCl (mq_tys cI cL cB cZ) U ∧ va_D (fun _ => True) (wd_R a cI cL cB cZ z S))) (va_Qi (fun (r : Int32) (u : mq_St) => r = res ∧ u = S) (fun u t => va_P D vwCl (wd_R a cI cL cB cZ z u) t.heap ∧ va_K D vwCl (mq_tys cI cL cB cZ) t ∧ va_D (va_A (wd_R a cI cL cB cZ z S) sz) (wd_R a cI cL cB cZ z u)) (va_A (wd_R a cI cL cB cZ z S) sz)) 0 0 (va_A (wd_R a cI cL cB cZ z S) sz) := by
  refine Met.ofW (cc := cX11_isAlike) (maxL := 4) (ret := (some .boolean)) (by decide) rfl ?_
  intro p e s m args below meth c s₁ B hml hv
  obtain ⟨rfl, hsz, hP, hK, hD0⟩ := hv
  have hr := B.returns
  have hlocks := B.notSynchronized
  have hts := atoms_spec (ws := zc_X11_isAlike :: mq_T) B.pre
  have hown : s.vm.findClass RX11 = some m.cls := findClass_of_methodNamed B.named
  subst hsz
  have hD := hD0.self (sz := s.heap.size)
  generalize hAe : va_A (wd_R a cI cL cB cZ z S) s.heap.size = A at hD ⊢
  have hA : ∀ q : Nat, s.heap.size ≤ q → A q := fun q h => by rw [← hAe]; exact Or.inr h
  have hl := lv_entry ([.ref (a 0), .int (v1), .int (v2)]) (n := 4) (Nat.le_of_ble_eq_true rfl)
  rw [lg_entry_eq]
  generalize (lg_sl ([.ref (a 0), .int (v1), .int (v2)]) ++ List.replicate (4 - (lg_sl ([.ref (a 0), .int (v1), .int (v2)])).length) Slot.unset).toArray = ls at hl ⊢
  have hl : lv_has ls 4 [(0, .ref (a 0)), (1, .int (v1)), (2, .int (v2))] := hl
  refine zw_X11_isAlike_0 (A := A) ⟨B.exec, B.bytes, hml, hown, hts, hK, hA⟩ (fun H locs ls pc dg hz hP hD hS => ?_) v1 v2 s.heap [] ls h hl hP hD va_S.rf
  exact W.zret B.exec B.bytes hr hz (fun t ht hW => ⟨⟨_, _, rfl, ⟨rfl, rfl⟩, by rw [ht]; exact hP, va_K.moved hW.alike hK, hD⟩, hS.F ht⟩) hS.2.2 dg
theorem zt_X11_isAlike_c : zc_X11_isAlike ∈ mq_T := mq_T_mem (mq_t7 (List.mem_of_getElem? (i := 187) rfl)) rfl
theorem zt_X11_isAlike_i : Cond.instanceMethod yX11_isAlike ∈ mq_T := mq_T_mem (mq_t7 (List.mem_of_getElem? (i := 186) rfl)) rfl
theorem zt_X11_isAlike_s : Cond.selects RX11 yX11_isAlike yX11_isAlike ∈ mq_T := mq_T_at 108 (by decide +kernel)
set_option maxHeartbeats 4000000 in
theorem zk_X11_isAlike {p : Program} {l : Launch} {e : Env} {R : Room} {s : State} {m : MethodId} {args : Array Value} {below : List Frame} {meth : Method} {c : Code} {A : Nat → Prop} {D : va_G} {a z : Nat → Nat} {cI cL cB cZ : ClassId} {Q : State → Prop} {cc : ByteArray} {nL idx pc N : Nat} {own : String} {c1 : Cond} {H : Heap} {locs : List Loc} {ls : Array Slot} {rest : List Value} {S : mq_St} {res : Int32} {v1 : Int32} {v2 : Int32} (C : mq_C p s m args c A D cI cL cB cZ cc nL own c1) (hlk : Cond.methodLink own idx yX11_isAlike ∈ mq_T) (hR : zr_X11_isAlike.frames + 1 ≤ R.frames ∧ 8 + (4 + 11) + zr_X11_isAlike.locals ≤ R.locals) (h : zf_X11_isAlike N z v1 v2 S = some res) (hP : va_P D vwCl (wd_R a cI cL cB cZ z S) H) (hD : va_D A (wd_R a cI cL cB cZ z S)) (hS : va_S A s.heap H locs) (hls : ls.size = nL) (hrest : (rest.map fun v => v.category).sum ≤ 8) (hdg : decode cc pc = .ok (.invokevirtual idx, 3)) (kk : ∀ (H1 : Heap) (locs1 : List Loc), va_P D vwCl (wd_R a cI cL cB cZ z S) H1 → va_D A (wd_R a cI cL cB cZ z S) → va_S A s.heap H1 locs1 → W p l e R s m args below meth c H1 locs1 0 0 Q (F0 m (pc + 3) ls (.int res :: rest))) : W p l e R s m args below meth c H locs 0 0 Q (F0 m pc ls (.int (v2) :: .int (v1) :: .ref (a 0) :: rest)) := by
  obtain ⟨hx, hb, hml, hown, hts, hK, hA⟩ := C
  have hFc := mq_freeI hD hS hA
  refine va_calli (va_runV (As := [.int (v1), .int (v2)]) (rest := rest) ⟨hx, hb, hml, hown, hts⟩ (zm_X11_isAlike l D a z cI cL cB cZ H.size N v1 v2 S res h) (cwV 2 hts (mq_goodL (mq_wsV hlk zt_X11_isAlike_i zt_X11_isAlike_s zt_ini_X11 zt_X11_isAlike_c)) rfl rfl rfl (by decide +kernel) hR) ⟨fun a U g mk q => ⟨q.1, q.2.1, q.2.2.1, va_K.moved (u := U) (U := U.calling g mk a) (Vm.Alike.refl U.vm) q.2.2.2.1, q.2.2.2.2⟩, zy_R_0 hK hP, fun U hU hW => ⟨rfl, by rw [hU], by rw [hU]; exact hP, va_K.moved hW.alike hK, hD.weaken (fun _ _ _ _ => trivial)⟩⟩ rfl rfl hls rfl (lv_room hrest) hdg ⟨Nat.zero_le _, Nat.zero_le _⟩) hS (fun q _ h => hFc q h) hFc (fun r u t H1 locs ht hvm hw hB hz1 hk1 hS => ?_)
  obtain ⟨rfl, rfl⟩ := hw
  obtain ⟨hP1, hK1, hD1⟩ := hB
  rw [ht] at hP1
  exact kk H1 locs hP1 (hD1.weaken (fun _ _ _ h => hFc _ h)) hS
theorem zt_m_X11_393 : Cond.methodLink RX11 393 yX11_seesGroup ∈ mq_T := mq_T_mem (mq_t7 (List.mem_of_getElem? (i := 180) rfl)) rfl
theorem zs_wd_R_a_42_41 (a z : Nat → Nat) (cI cL cB cZ : ClassId) (S : mq_St) (f : Nat → Int32) : (wd_R a cI cL cB cZ z S).set 42 (a 42, .inl (cZ, 3600, .inl f)) = (wd_R a cI cL cB cZ z (mq_sa S 41 f)) := rfl
/-! ModalDeskModel.look()V -/
def zr_X11_look : Room := { frames := 1, cells := 0, slots := 0, locals := 23 }
def zc_X11_look : Cond := .code yX11_look cX11_look 3 none
def zf_X11_look_12b (N : Nat) (z : Nat → Nat) (k2 : Int32 → mq_St → Option (Unit × mq_St)) (k12 : Int32 → Int32 → mq_St → Option (Unit × mq_St)) (v1 : Int32) (v2 : Int32) (S : mq_St) : Option (Unit × mq_St) := (if (S.1 31) ≤ v2 then (mq_nI (v1 + (1 : Int32)) (fun x4 => (k2 (x4) S))) else (mq_cp (zf_X11_seesGroup N z (v1) (v2) S) (fun q5 => (mq_ck ((((60 : Int32) * v1) + v2)) 3600 (mq_nS (mq_sa S 41 (upd (S.2.1 41) ((((60 : Int32) * v1) + v2)).toNatClampNeg (vp_nar .boolean (q5)))) (fun S8 => (mq_nI (v2 + (1 : Int32)) (fun x9 => (k12 (v1) (x9) S8)))))))))
def zf_X11_look_12 (N : Nat) (z : Nat → Nat) (k2 : Int32 → mq_St → Option (Unit × mq_St)) : Nat → Int32 → Int32 → mq_St → Option (Unit × mq_St)
  | 0, _, _, _ => none
  | n + 1, v1, v2, S => zf_X11_look_12b N z k2 (fun v1 v2 S => zf_X11_look_12 N z k2 n v1 v2 S) v1 v2 S
def zf_X11_look_2b (N : Nat) (z : Nat → Nat) (k2 : Int32 → mq_St → Option (Unit × mq_St)) (v1 : Int32) (S : mq_St) : Option (Unit × mq_St) := (if (S.1 31) ≤ v1 then (some ((), S)) else (mq_nI ((0 : Int32)) (fun x2 => (zf_X11_look_12 N z k2 N (v1) (x2) S))))
def zf_X11_look_2 (N : Nat) (z : Nat → Nat) : Nat → Int32 → mq_St → Option (Unit × mq_St)
  | 0, _, _ => none
  | n + 1, v1, S => zf_X11_look_2b N z (fun v1 S => zf_X11_look_2 N z n v1 S) v1 S
def zf_X11_look (N : Nat) (z : Nat → Nat) (S : mq_St) : Option (Unit × mq_St) := (mq_nI ((0 : Int32)) (fun x1 => (zf_X11_look_2 N z N (x1) S)))
set_option maxHeartbeats 4000000 in
set_option maxRecDepth 100000 in
theorem zw_X11_look_12b {p : Program} {l : Launch} {e : Env} {s : State} {m : MethodId} {args : Array Value} {below : List Frame} {meth : Method} {c : Code} {A : Nat → Prop} {D : va_G} {a z : Nat → Nat} {cI cL cB cZ : ClassId} {Q : State → Prop} {N : Nat} {res : Unit × mq_St} {k2 : Int32 → mq_St → Option (Unit × mq_St)} {k12 : Int32 → Int32 → mq_St → Option (Unit × mq_St)} (C : mq_C p s m args c A D cI cL cB cZ cX11_look 3 RX11 zc_X11_look) (hret : ∀ (H : Heap) (locs : List Loc) (ls : Array Slot) (pc : Nat), decode cX11_look pc = .ok (.return_, 1) → va_P D vwCl (wd_R a cI cL cB cZ z res.2) H → va_D A (wd_R a cI cL cB cZ z res.2) → va_S A s.heap H locs → W p l e zr_X11_look s m args below meth c H locs 0 0 Q (F0 m pc ls [])) (hk2 : ∀ (v1 : Int32) (S : mq_St) (H : Heap) (locs : List Loc) (ls : Array Slot), k2 v1 S = some res → lv_has ls 3 [(0, .ref (a 0)), (1, .int (v1))] → va_P D vwCl (wd_R a cI cL cB cZ z S) H → va_D A (wd_R a cI cL cB cZ z S) → va_S A s.heap H locs → W p l e zr_X11_look s m args below meth c H locs 0 0 Q (F0 m 2 ls [])) (hk12 : ∀ (v1 : Int32) (v2 : Int32) (S : mq_St) (H : Heap) (locs : List Loc) (ls : Array Slot), k12 v1 v2 S = some res → lv_has ls 3 [(0, .ref (a 0)), (1, .int (v1)), (2, .int (v2))] → va_P D vwCl (wd_R a cI cL cB cZ z S) H → va_D A (wd_R a cI cL cB cZ z S) → va_S A s.heap H locs → W p l e zr_X11_look s m args below meth c H locs 0 0 Q (F0 m 12 ls [])) (v1 : Int32) (v2 : Int32) (S : mq_St) (H : Heap) (locs : List Loc) (ls : Array Slot) (h : zf_X11_look_12b N z k2 k12 v1 v2 S = some res) (hl : lv_has ls 3 [(0, .ref (a 0)), (1, .int (v1)), (2, .int (v2))]) (hP : va_P D vwCl (wd_R a cI cL cB cZ z S) H) (hD : va_D A (wd_R a cI cL cB cZ z S)) (hS : va_S A s.heap H locs) : W p l e zr_X11_look s m args below meth c H locs 0 0 Q (F0 m 12 ls []) := by
  obtain ⟨hx, hb, hml, hown, hts, hK, hA⟩ := id C
  unfold zf_X11_look_12b at h
  refine lv_iload_n hx hb dX11_look_12 rfl (lv_at hl 2 rfl) ?_
  refine lv_aload_n hx hb dX11_look_13 rfl (lv_at hl 0 rfl) ?_
  refine va_get (D := D) (ci := 11) (v := .int ((S.1 31))) (C := RX11) (T := TX11) (N := 76) hx hb hts (zi_X11 _) hown hK hP 0 rfl rfl 65 (by decide) (hts _ (List.mem_cons_of_mem _ zt_f_X11_375)) (fun _ h9 => h9) rfl dX11_look_14 ?_
  refine lv_icmp_ge (tgt := 43) hx hb dX11_look_17 (by decide) (fun c10 => ?_) (fun c10 => ?_)
  · replace h := mq_it c10 h
    obtain ⟨x4, ex4⟩ : ∃ y : Int32, y = v1 + (1 : Int32) := ⟨_, rfl⟩
    replace h := mq_nI_go ex4 h
    refine lv_iinc (v := x4) (lv' := [(1, .int (x4)), (0, .ref (a 0)), (2, .int (v2))]) hx hb dX11_look_43 hl (k := 1) rfl (by rw [ex4]; rfl) (by decide) rfl (fun ls hl => ?_)
    refine lv_goto (tgt := 2) hx hb dX11_look_46 (by decide) ?_
    exact hk2 (x4) S H locs ls h (lv_sub hl [1, 0] rfl) hP hD hS
  · replace h := mq_if c10 h
    refine lv_aload_n hx hb dX11_look_20 rfl (lv_at hl 0 rfl) ?_
    refine va_get (D := D) (ci := 11) (v := .ref (a 42)) (C := RX11) (T := TX11) (N := 76) hx hb hts (zi_X11 _) hown hK hP 0 rfl rfl 73 (by decide) (hts _ (List.mem_cons_of_mem _ zt_f_X11_142)) (fun _ h9 => h9) rfl dX11_look_21 ?_
    refine lv_bipush (v := (60 : Int32)) hx hb dX11_look_24 (by decide) ?_
    refine lv_iload_n hx hb dX11_look_26 rfl (lv_at hl 1 rfl) ?_
    refine lv_imul hx hb dX11_look_27 ?_
    refine lv_iload_n hx hb dX11_look_28 rfl (lv_at hl 2 rfl) ?_
    refine lv_iadd hx hb dX11_look_29 ?_
    refine lv_aload_n hx hb dX11_look_30 rfl (lv_at hl 0 rfl) ?_
    refine lv_iload_n hx hb dX11_look_31 rfl (lv_at hl 1 rfl) ?_
    refine lv_iload_n hx hb dX11_look_32 rfl (lv_at hl 2 rfl) ?_
    obtain ⟨q5, hc6, h⟩ := mq_cp_go h
    refine zk_X11_seesGroup C zt_m_X11_393 ⟨by decide, by decide⟩ hc6 hP hD hS hl.1 (Nat.le_of_ble_eq_true rfl) dX11_look_33 (fun H locs hP hD hS => ?_)
    have hi7 := mq_ck_in h
    replace h := mq_ck_go h
    refine mq_zast (w := wd_R a cI cL cB cZ z) (S := S) (f := S.2.1 41) hx hb hK hP hD hS 42 3 rfl rfl hi7 dX11_look_36 41 (zs_wd_R_a_42_41 _ _ _ _ _ _ _ _) (fun S8 eS8 H locs hP hD hS => ?_)
    replace h := mq_nS_go eS8 h
    obtain ⟨x9, ex9⟩ : ∃ y : Int32, y = v2 + (1 : Int32) := ⟨_, rfl⟩
    replace h := mq_nI_go ex9 h
    refine lv_iinc (v := x9) (lv' := [(2, .int (x9)), (0, .ref (a 0)), (1, .int (v1))]) hx hb dX11_look_37 hl (k := 2) rfl (by rw [ex9]; rfl) (by decide) rfl (fun ls hl => ?_)
    refine lv_goto (tgt := 12) hx hb dX11_look_40 (by decide) ?_
    exact hk12 (v1) (x9) S8 H locs ls h (lv_sub hl [1, 2, 0] rfl) hP hD hS
set_option maxHeartbeats 4000000 in
set_option maxRecDepth 100000 in
theorem zw_X11_look_12 {p : Program} {l : Launch} {e : Env} {s : State} {m : MethodId} {args : Array Value} {below : List Frame} {meth : Method} {c : Code} {A : Nat → Prop} {D : va_G} {a z : Nat → Nat} {cI cL cB cZ : ClassId} {Q : State → Prop} {N : Nat} {res : Unit × mq_St} {k2 : Int32 → mq_St → Option (Unit × mq_St)} (C : mq_C p s m args c A D cI cL cB cZ cX11_look 3 RX11 zc_X11_look) (hret : ∀ (H : Heap) (locs : List Loc) (ls : Array Slot) (pc : Nat), decode cX11_look pc = .ok (.return_, 1) → va_P D vwCl (wd_R a cI cL cB cZ z res.2) H → va_D A (wd_R a cI cL cB cZ z res.2) → va_S A s.heap H locs → W p l e zr_X11_look s m args below meth c H locs 0 0 Q (F0 m pc ls [])) (hk2 : ∀ (v1 : Int32) (S : mq_St) (H : Heap) (locs : List Loc) (ls : Array Slot), k2 v1 S = some res → lv_has ls 3 [(0, .ref (a 0)), (1, .int (v1))] → va_P D vwCl (wd_R a cI cL cB cZ z S) H → va_D A (wd_R a cI cL cB cZ z S) → va_S A s.heap H locs → W p l e zr_X11_look s m args below meth c H locs 0 0 Q (F0 m 2 ls [])) : ∀ (n : Nat) (v1 : Int32) (v2 : Int32) (S : mq_St) (H : Heap) (locs : List Loc) (ls : Array Slot) (h : zf_X11_look_12 N z k2 n v1 v2 S = some res) (hl : lv_has ls 3 [(0, .ref (a 0)), (1, .int (v1)), (2, .int (v2))]) (hP : va_P D vwCl (wd_R a cI cL cB cZ z S) H) (hD : va_D A (wd_R a cI cL cB cZ z S)) (hS : va_S A s.heap H locs), W p l e zr_X11_look s m args below meth c H locs 0 0 Q (F0 m 12 ls []) := by
  intro n
  induction n with
  | zero =>
    intro v1 v2 S H locs ls h hl hP hD hS
    exact nomatch (show (none : Option (Unit × mq_St)) = some res from h)
  | succ n ih =>
    intro v1 v2 S H locs ls h hl hP hD hS
    exact zw_X11_look_12b C hret hk2 (fun v1 v2 S H locs ls h hl hP hD hS => ih v1 v2 S H locs ls h hl hP hD hS) v1 v2 S H locs ls h hl hP hD hS
set_option maxHeartbeats 4000000 in
set_option maxRecDepth 100000 in
theorem zw_X11_look_2b {p : Program} {l : Launch} {e : Env} {s : State} {m : MethodId} {args : Array Value} {below : List Frame} {meth : Method} {c : Code} {A : Nat → Prop} {D : va_G} {a z : Nat → Nat} {cI cL cB cZ : ClassId} {Q : State → Prop} {N : Nat} {res : Unit × mq_St} {k2 : Int32 → mq_St → Option (Unit × mq_St)} (C : mq_C p s m args c A D cI cL cB cZ cX11_look 3 RX11 zc_X11_look) (hret : ∀ (H : Heap) (locs : List Loc) (ls : Array Slot) (pc : Nat), decode cX11_look pc = .ok (.return_, 1) → va_P D vwCl (wd_R a cI cL cB cZ z res.2) H → va_D A (wd_R a cI cL cB cZ z res.2) → va_S A s.heap H locs → W p l e zr_X11_look s m args below meth c H locs 0 0 Q (F0 m pc ls [])) (hk2 : ∀ (v1 : Int32) (S : mq_St) (H : Heap) (locs : List Loc) (ls : Array Slot), k2 v1 S = some res → lv_has ls 3 [(0, .ref (a 0)), (1, .int (v1))] → va_P D vwCl (wd_R a cI cL cB cZ z S) H → va_D A (wd_R a cI cL cB cZ z S) → va_S A s.heap H locs → W p l e zr_X11_look s m args below meth c H locs 0 0 Q (F0 m 2 ls [])) (v1 : Int32) (S : mq_St) (H : Heap) (locs : List Loc) (ls : Array Slot) (h : zf_X11_look_2b N z k2 v1 S = some res) (hl : lv_has ls 3 [(0, .ref (a 0)), (1, .int (v1))]) (hP : va_P D vwCl (wd_R a cI cL cB cZ z S) H) (hD : va_D A (wd_R a cI cL cB cZ z S)) (hS : va_S A s.heap H locs) : W p l e zr_X11_look s m args below meth c H locs 0 0 Q (F0 m 2 ls []) := by
  obtain ⟨hx, hb, hml, hown, hts, hK, hA⟩ := id C
  unfold zf_X11_look_2b at h
  refine lv_iload_n hx hb dX11_look_2 rfl (lv_at hl 1 rfl) ?_
  refine lv_aload_n hx hb dX11_look_3 rfl (lv_at hl 0 rfl) ?_
  refine va_get (D := D) (ci := 11) (v := .int ((S.1 31))) (C := RX11) (T := TX11) (N := 76) hx hb hts (zi_X11 _) hown hK hP 0 rfl rfl 65 (by decide) (hts _ (List.mem_cons_of_mem _ zt_f_X11_375)) (fun _ h9 => h9) rfl dX11_look_4 ?_
  refine lv_icmp_ge (tgt := 49) hx hb dX11_look_7 (by decide) (fun c3 => ?_) (fun c3 => ?_)
  · replace h := mq_it c3 h
    cases h
    exact hret H locs ls 49 dX11_look_49 hP hD hS
  · replace h := mq_if c3 h
    refine lv_iconst (v := (0 : Int32)) hx hb dX11_look_10 (by decide) ?_
    refine lv_topi (fun x2 ex2 => ?_)
    replace h := mq_nI_go ex2 h
    refine lv_istore_n (lv' := [(2, .int (x2)), (0, .ref (a 0)), (1, .int (v1))]) hx hb dX11_look_11 rfl hl (by decide) rfl (fun ls hl => ?_)
    exact zw_X11_look_12 C hret hk2 N (v1) (x2) S H locs ls h (lv_sub hl [1, 2, 0] rfl) hP hD hS
set_option maxHeartbeats 4000000 in
set_option maxRecDepth 100000 in
theorem zw_X11_look_2 {p : Program} {l : Launch} {e : Env} {s : State} {m : MethodId} {args : Array Value} {below : List Frame} {meth : Method} {c : Code} {A : Nat → Prop} {D : va_G} {a z : Nat → Nat} {cI cL cB cZ : ClassId} {Q : State → Prop} {N : Nat} {res : Unit × mq_St} (C : mq_C p s m args c A D cI cL cB cZ cX11_look 3 RX11 zc_X11_look) (hret : ∀ (H : Heap) (locs : List Loc) (ls : Array Slot) (pc : Nat), decode cX11_look pc = .ok (.return_, 1) → va_P D vwCl (wd_R a cI cL cB cZ z res.2) H → va_D A (wd_R a cI cL cB cZ z res.2) → va_S A s.heap H locs → W p l e zr_X11_look s m args below meth c H locs 0 0 Q (F0 m pc ls [])) : ∀ (n : Nat) (v1 : Int32) (S : mq_St) (H : Heap) (locs : List Loc) (ls : Array Slot) (h : zf_X11_look_2 N z n v1 S = some res) (hl : lv_has ls 3 [(0, .ref (a 0)), (1, .int (v1))]) (hP : va_P D vwCl (wd_R a cI cL cB cZ z S) H) (hD : va_D A (wd_R a cI cL cB cZ z S)) (hS : va_S A s.heap H locs), W p l e zr_X11_look s m args below meth c H locs 0 0 Q (F0 m 2 ls []) := by
  intro n
  induction n with
  | zero =>
    intro v1 S H locs ls h hl hP hD hS
    exact nomatch (show (none : Option (Unit × mq_St)) = some res from h)
  | succ n ih =>
    intro v1 S H locs ls h hl hP hD hS
    exact zw_X11_look_2b C hret (fun v1 S H locs ls h hl hP hD hS => ih v1 S H locs ls h hl hP hD hS) v1 S H locs ls h hl hP hD hS
set_option maxHeartbeats 4000000 in
set_option maxRecDepth 100000 in
theorem zw_X11_look_0 {p : Program} {l : Launch} {e : Env} {s : State} {m : MethodId} {args : Array Value} {below : List Frame} {meth : Method} {c : Code} {A : Nat → Prop} {D : va_G} {a z : Nat → Nat} {cI cL cB cZ : ClassId} {Q : State → Prop} {N : Nat} {res : Unit × mq_St} (C : mq_C p s m args c A D cI cL cB cZ cX11_look 3 RX11 zc_X11_look) (hret : ∀ (H : Heap) (locs : List Loc) (ls : Array Slot) (pc : Nat), decode cX11_look pc = .ok (.return_, 1) → va_P D vwCl (wd_R a cI cL cB cZ z res.2) H → va_D A (wd_R a cI cL cB cZ z res.2) → va_S A s.heap H locs → W p l e zr_X11_look s m args below meth c H locs 0 0 Q (F0 m pc ls [])) (S : mq_St) (H : Heap) (locs : List Loc) (ls : Array Slot) (h : zf_X11_look N z S = some res) (hl : lv_has ls 3 [(0, .ref (a 0))]) (hP : va_P D vwCl (wd_R a cI cL cB cZ z S) H) (hD : va_D A (wd_R a cI cL cB cZ z S)) (hS : va_S A s.heap H locs) : W p l e zr_X11_look s m args below meth c H locs 0 0 Q (F0 m 0 ls []) := by
  obtain ⟨hx, hb, hml, hown, hts, hK, hA⟩ := id C
  unfold zf_X11_look at h
  refine lv_iconst (v := (0 : Int32)) hx hb dX11_look_0 (by decide) ?_
  refine lv_topi (fun x1 ex1 => ?_)
  replace h := mq_nI_go ex1 h
  refine lv_istore_n (lv' := [(1, .int (x1)), (0, .ref (a 0))]) hx hb dX11_look_1 rfl hl (by decide) rfl (fun ls hl => ?_)
  exact zw_X11_look_2 C hret N (x1) S H locs ls h (lv_sub hl [1, 0] rfl) hP hD hS
set_option maxHeartbeats 4000000 in
set_option maxRecDepth 100000 in
theorem zm_X11_look (l : Launch) (D : va_G) (a z : Nat → Nat) (cI cL cB cZ : ClassId) (sz N : Nat) (S : mq_St) (res : Unit × mq_St) (h : zf_X11_look N z S = some res) : Met l yX11_look (zc_X11_look :: mq_T) zr_X11_look (va_Pc [.ref (a 0)] (fun U => U.heap.size = sz ∧ va_P D vwCl (wd_R a cI cL cB cZ z S) U.heap ∧ va_K D vwCl (mq_tys cI cL cB cZ) U ∧ va_D (fun _ => True) (wd_R a cI cL cB cZ z S))) (va_Qv (fun u : mq_St => u = res.2) (fun u t => va_P D vwCl (wd_R a cI cL cB cZ z u) t.heap ∧ va_K D vwCl (mq_tys cI cL cB cZ) t ∧ va_D (va_A (wd_R a cI cL cB cZ z S) sz) (wd_R a cI cL cB cZ z u)) (va_A (wd_R a cI cL cB cZ z S) sz)) 0 0 (va_A (wd_R a cI cL cB cZ z S) sz) := by
  refine Met.ofW (cc := cX11_look) (maxL := 3) (ret := none) (by decide) rfl ?_
  intro p e s m args below meth c s₁ B hml hv
  obtain ⟨rfl, hsz, hP, hK, hD0⟩ := hv
  have hr := B.returns
  have hlocks := B.notSynchronized
  have hts := atoms_spec (ws := zc_X11_look :: mq_T) B.pre
  have hown : s.vm.findClass RX11 = some m.cls := findClass_of_methodNamed B.named
  subst hsz
  have hD := hD0.self (sz := s.heap.size)
  generalize hAe : va_A (wd_R a cI cL cB cZ z S) s.heap.size = A at hD ⊢
  have hA : ∀ q : Nat, s.heap.size ≤ q → A q := fun q h => by rw [← hAe]; exact Or.inr h
  have hl := lv_entry ([.ref (a 0)]) (n := 3) (Nat.le_of_ble_eq_true rfl)
  rw [lg_entry_eq]
  generalize (lg_sl ([.ref (a 0)]) ++ List.replicate (3 - (lg_sl ([.ref (a 0)])).length) Slot.unset).toArray = ls at hl ⊢
  have hl : lv_has ls 3 [(0, .ref (a 0))] := hl
  refine zw_X11_look_0 (A := A) ⟨B.exec, B.bytes, hml, hown, hts, hK, hA⟩ (fun H locs ls pc dg hP hD hS => ?_) S s.heap [] ls h hl hP hD va_S.rf
  exact W.vret B.exec B.bytes hr (fun t ht hW => ⟨⟨_, rfl, rfl, by rw [ht]; exact hP, va_K.moved hW.alike hK, hD⟩, hS.F ht⟩) hS.2.2 dg
theorem zt_X11_look_c : zc_X11_look ∈ mq_T := mq_T_mem (mq_t7 (List.mem_of_getElem? (i := 179) rfl)) rfl
theorem zt_X11_look_i : Cond.instanceMethod yX11_look ∈ mq_T := mq_T_mem (mq_t7 (List.mem_of_getElem? (i := 178) rfl)) rfl
theorem zt_X11_look_s : Cond.selects RX11 yX11_look yX11_look ∈ mq_T := mq_T_at 106 (by decide +kernel)
set_option maxHeartbeats 4000000 in
theorem zk_X11_look {p : Program} {l : Launch} {e : Env} {R : Room} {s : State} {m : MethodId} {args : Array Value} {below : List Frame} {meth : Method} {c : Code} {A : Nat → Prop} {D : va_G} {a z : Nat → Nat} {cI cL cB cZ : ClassId} {Q : State → Prop} {cc : ByteArray} {nL idx pc N : Nat} {own : String} {c1 : Cond} {H : Heap} {locs : List Loc} {ls : Array Slot} {rest : List Value} {S : mq_St} {res : Unit × mq_St} (C : mq_C p s m args c A D cI cL cB cZ cc nL own c1) (hlk : Cond.methodLink own idx yX11_look ∈ mq_T) (hR : zr_X11_look.frames + 1 ≤ R.frames ∧ 8 + (3 + 11) + zr_X11_look.locals ≤ R.locals) (h : zf_X11_look N z S = some res) (hP : va_P D vwCl (wd_R a cI cL cB cZ z S) H) (hD : va_D A (wd_R a cI cL cB cZ z S)) (hS : va_S A s.heap H locs) (hls : ls.size = nL) (hrest : (rest.map fun v => v.category).sum ≤ 8) (hdg : decode cc pc = .ok (.invokevirtual idx, 3)) (kk : ∀ (H1 : Heap) (locs1 : List Loc), va_P D vwCl (wd_R a cI cL cB cZ z res.2) H1 → va_D A (wd_R a cI cL cB cZ z res.2) → va_S A s.heap H1 locs1 → W p l e R s m args below meth c H1 locs1 0 0 Q (F0 m (pc + 3) ls rest)) : W p l e R s m args below meth c H locs 0 0 Q (F0 m pc ls (.ref (a 0) :: rest)) := by
  obtain ⟨hx, hb, hml, hown, hts, hK, hA⟩ := C
  have hFc := mq_freeI hD hS hA
  refine va_callv (va_runV (As := []) (rest := rest) ⟨hx, hb, hml, hown, hts⟩ (zm_X11_look l D a z cI cL cB cZ H.size N S res h) (cwV 0 hts (mq_goodL (mq_wsV hlk zt_X11_look_i zt_X11_look_s zt_ini_X11 zt_X11_look_c)) rfl rfl rfl (by decide +kernel) hR) ⟨fun a U g mk q => ⟨q.1, q.2.1, q.2.2.1, va_K.moved (u := U) (U := U.calling g mk a) (Vm.Alike.refl U.vm) q.2.2.2.1, q.2.2.2.2⟩, zy_R_0 hK hP, fun U hU hW => ⟨rfl, by rw [hU], by rw [hU]; exact hP, va_K.moved hW.alike hK, hD.weaken (fun _ _ _ _ => trivial)⟩⟩ rfl rfl hls rfl (lv_room hrest) hdg ⟨Nat.zero_le _, Nat.zero_le _⟩) hS (fun q _ h => hFc q h) hFc (fun u t H1 locs ht hvm hw hB hz1 hk1 hS => ?_)
  subst hw
  obtain ⟨hP1, hK1, hD1⟩ := hB
  rw [ht] at hP1
  exact kk H1 locs hP1 (hD1.weaken (fun _ _ _ h => hFc _ h)) hS
theorem zt_f_X11_139 : Cond.fieldLink RX11 139 "ModalDeskModel" "next" "[I" ∈ mq_T := mq_T_mem (mq_t5 (List.mem_of_getElem? (i := 237) rfl)) rfl
theorem zt_f_X11_145 : Cond.fieldLink RX11 145 "ModalDeskModel" "keep" "[I" ∈ mq_T := mq_T_mem (mq_t5 (List.mem_of_getElem? (i := 239) rfl)) rfl
theorem zs_wd_R_a_41_40 (a z : Nat → Nat) (cI cL cB cZ : ClassId) (S : mq_St) (f : Nat → Int32) : (wd_R a cI cL cB cZ z S).set 41 (a 41, .inl (cI, 60, .inl f)) = (wd_R a cI cL cB cZ z (mq_sa S 40 f)) := rfl
theorem zt_f_X11_148 : Cond.fieldLink RX11 148 "ModalDeskModel" "seen" "[Z" ∈ mq_T := mq_T_mem (mq_t6 (List.mem_of_getElem? (i := 0) rfl)) rfl
/-! ModalDeskModel.settle(I)V -/
def zr_X11_settle : Room := { frames := 0, cells := 0, slots := 0, locals := 0 }
def zc_X11_settle : Cond := .code yX11_settle cX11_settle 4 none
def zf_X11_settle_58b (N : Nat) (z : Nat → Nat) (k32 : Int32 → Int32 → mq_St → Option (Unit × mq_St)) (k58 : Int32 → Int32 → Int32 → mq_St → Option (Unit × mq_St)) (v1 : Int32) (v2 : Int32) (v3 : Int32) (S : mq_St) : Option (Unit × mq_St) := (if v1 ≤ v3 then (mq_nI (v2 + (1 : Int32)) (fun x17 => (k32 (v1) (x17) S))) else (mq_ck ((((60 : Int32) * v2) + v3)) 3600 (mq_ck ((((60 : Int32) * v2) + v3)) 3600 (mq_nS (mq_sa S 35 (upd (S.2.1 35) ((((60 : Int32) * v2) + v3)).toNatClampNeg (vp_nar .boolean ((S.2.1 43 ((((60 : Int32) * v2) + v3)).toNatClampNeg))))) (fun S20 => (mq_nI (v3 + (1 : Int32)) (fun x21 => (k58 (v1) (v2) (x21) S20))))))))
def zf_X11_settle_58 (N : Nat) (z : Nat → Nat) (k32 : Int32 → Int32 → mq_St → Option (Unit × mq_St)) : Nat → Int32 → Int32 → Int32 → mq_St → Option (Unit × mq_St)
  | 0, _, _, _, _ => none
  | n + 1, v1, v2, v3, S => zf_X11_settle_58b N z k32 (fun v1 v2 v3 S => zf_X11_settle_58 N z k32 n v1 v2 v3 S) v1 v2 v3 S
def zf_X11_settle_32b (N : Nat) (z : Nat → Nat) (k32 : Int32 → Int32 → mq_St → Option (Unit × mq_St)) (v1 : Int32) (v2 : Int32) (S : mq_St) : Option (Unit × mq_St) := (if v1 ≤ v2 then (mq_nS (mq_si S 31 (v1)) (fun S9 => (some ((), S9)))) else (mq_ck (v2) 60 (mq_ck (v2) 60 (mq_nS (mq_sa S 34 (upd (S.2.1 34) (v2).toNatClampNeg ((S.2.1 40 (v2).toNatClampNeg)))) (fun S12 => (mq_ck (v2) 60 (mq_nS (mq_sa S12 36 (upd (S12.2.1 36) (v2).toNatClampNeg ((-1 : Int32)))) (fun S14 => (mq_nI ((0 : Int32)) (fun x15 => (zf_X11_settle_58 N z k32 N (v1) (v2) (x15) S14)))))))))))
def zf_X11_settle_32 (N : Nat) (z : Nat → Nat) : Nat → Int32 → Int32 → mq_St → Option (Unit × mq_St)
  | 0, _, _, _ => none
  | n + 1, v1, v2, S => zf_X11_settle_32b N z (fun v1 v2 S => zf_X11_settle_32 N z n v1 v2 S) v1 v2 S
def zf_X11_settle_2b (N : Nat) (z : Nat → Nat) (k2 : Int32 → Int32 → mq_St → Option (Unit × mq_St)) (v1 : Int32) (v2 : Int32) (S : mq_St) : Option (Unit × mq_St) := (if v1 ≤ v2 then (mq_nI ((0 : Int32)) (fun x2 => (zf_X11_settle_32 N z N (v1) (x2) S))) else (mq_ck (v2) 60 (mq_ck ((S.2.1 42 (v2).toNatClampNeg)) 60 (mq_ck (v2) 60 (mq_nS (mq_sa S 40 (upd (S.2.1 40) (v2).toNatClampNeg ((S.2.1 34 ((S.2.1 42 (v2).toNatClampNeg)).toNatClampNeg)))) (fun S6 => (mq_nI (v2 + (1 : Int32)) (fun x7 => (k2 (v1) (x7) S6)))))))))
def zf_X11_settle_2 (N : Nat) (z : Nat → Nat) : Nat → Int32 → Int32 → mq_St → Option (Unit × mq_St)
  | 0, _, _, _ => none
  | n + 1, v1, v2, S => zf_X11_settle_2b N z (fun v1 v2 S => zf_X11_settle_2 N z n v1 v2 S) v1 v2 S
def zf_X11_settle (N : Nat) (z : Nat → Nat) (v1 : Int32) (S : mq_St) : Option (Unit × mq_St) := (mq_nI ((0 : Int32)) (fun x1 => (zf_X11_settle_2 N z N (v1) (x1) S)))
set_option maxHeartbeats 4000000 in
set_option maxRecDepth 100000 in
theorem zw_X11_settle_58b {p : Program} {l : Launch} {e : Env} {s : State} {m : MethodId} {args : Array Value} {below : List Frame} {meth : Method} {c : Code} {A : Nat → Prop} {D : va_G} {a z : Nat → Nat} {cI cL cB cZ : ClassId} {Q : State → Prop} {N : Nat} {res : Unit × mq_St} {k32 : Int32 → Int32 → mq_St → Option (Unit × mq_St)} {k58 : Int32 → Int32 → Int32 → mq_St → Option (Unit × mq_St)} (C : mq_C p s m args c A D cI cL cB cZ cX11_settle 4 RX11 zc_X11_settle) (hret : ∀ (H : Heap) (locs : List Loc) (ls : Array Slot) (pc : Nat), decode cX11_settle pc = .ok (.return_, 1) → va_P D vwCl (wd_R a cI cL cB cZ z res.2) H → va_D A (wd_R a cI cL cB cZ z res.2) → va_S A s.heap H locs → W p l e zr_X11_settle s m args below meth c H locs 0 0 Q (F0 m pc ls [])) (hk32 : ∀ (v1 : Int32) (v2 : Int32) (S : mq_St) (H : Heap) (locs : List Loc) (ls : Array Slot), k32 v1 v2 S = some res → lv_has ls 4 [(0, .ref (a 0)), (1, .int (v1)), (2, .int (v2))] → va_P D vwCl (wd_R a cI cL cB cZ z S) H → va_D A (wd_R a cI cL cB cZ z S) → va_S A s.heap H locs → W p l e zr_X11_settle s m args below meth c H locs 0 0 Q (F0 m 32 ls [])) (hk58 : ∀ (v1 : Int32) (v2 : Int32) (v3 : Int32) (S : mq_St) (H : Heap) (locs : List Loc) (ls : Array Slot), k58 v1 v2 v3 S = some res → lv_has ls 4 [(0, .ref (a 0)), (1, .int (v1)), (2, .int (v2)), (3, .int (v3))] → va_P D vwCl (wd_R a cI cL cB cZ z S) H → va_D A (wd_R a cI cL cB cZ z S) → va_S A s.heap H locs → W p l e zr_X11_settle s m args below meth c H locs 0 0 Q (F0 m 58 ls [])) (v1 : Int32) (v2 : Int32) (v3 : Int32) (S : mq_St) (H : Heap) (locs : List Loc) (ls : Array Slot) (h : zf_X11_settle_58b N z k32 k58 v1 v2 v3 S = some res) (hl : lv_has ls 4 [(0, .ref (a 0)), (1, .int (v1)), (2, .int (v2)), (3, .int (v3))]) (hP : va_P D vwCl (wd_R a cI cL cB cZ z S) H) (hD : va_D A (wd_R a cI cL cB cZ z S)) (hS : va_S A s.heap H locs) : W p l e zr_X11_settle s m args below meth c H locs 0 0 Q (F0 m 58 ls []) := by
  obtain ⟨hx, hb, hml, hown, hts, hK, hA⟩ := id C
  unfold zf_X11_settle_58b at h
  refine lv_iload_n hx hb dX11_settle_58 rfl (lv_at hl 3 rfl) ?_
  refine lv_iload_n hx hb dX11_settle_59 rfl (lv_at hl 1 rfl) ?_
  refine lv_icmp_ge (tgt := 91) hx hb dX11_settle_60 (by decide) (fun c22 => ?_) (fun c22 => ?_)
  · replace h := mq_it c22 h
    obtain ⟨x17, ex17⟩ : ∃ y : Int32, y = v2 + (1 : Int32) := ⟨_, rfl⟩
    replace h := mq_nI_go ex17 h
    refine lv_iinc (v := x17) (lv' := [(2, .int (x17)), (0, .ref (a 0)), (1, .int (v1)), (3, .int (v3))]) hx hb dX11_settle_91 hl (k := 2) rfl (by rw [ex17]; rfl) (by decide) rfl (fun ls hl => ?_)
    refine lv_goto (tgt := 32) hx hb dX11_settle_94 (by decide) ?_
    exact hk32 (v1) (x17) S H locs ls h (lv_sub hl [1, 2, 0] rfl) hP hD hS
  · replace h := mq_if c22 h
    refine lv_aload_n hx hb dX11_settle_63 rfl (lv_at hl 0 rfl) ?_
    refine va_get (D := D) (ci := 11) (v := .ref (a 36)) (C := RX11) (T := TX11) (N := 76) hx hb hts (zi_X11 _) hown hK hP 0 rfl rfl 67 (by decide) (hts _ (List.mem_cons_of_mem _ zt_f_X11_124)) (fun _ h9 => h9) rfl dX11_settle_64 ?_
    refine lv_bipush (v := (60 : Int32)) hx hb dX11_settle_67 (by decide) ?_
    refine lv_iload_n hx hb dX11_settle_69 rfl (lv_at hl 2 rfl) ?_
    refine lv_imul hx hb dX11_settle_70 ?_
    refine lv_iload_n hx hb dX11_settle_71 rfl (lv_at hl 3 rfl) ?_
    refine lv_iadd hx hb dX11_settle_72 ?_
    refine lv_aload_n hx hb dX11_settle_73 rfl (lv_at hl 0 rfl) ?_
    refine va_get (D := D) (ci := 11) (v := .ref (a 44)) (C := RX11) (T := TX11) (N := 76) hx hb hts (zi_X11 _) hown hK hP 0 rfl rfl 75 (by decide) (hts _ (List.mem_cons_of_mem _ zt_f_X11_148)) (fun _ h9 => h9) rfl dX11_settle_74 ?_
    refine lv_bipush (v := (60 : Int32)) hx hb dX11_settle_77 (by decide) ?_
    refine lv_iload_n hx hb dX11_settle_79 rfl (lv_at hl 2 rfl) ?_
    refine lv_imul hx hb dX11_settle_80 ?_
    refine lv_iload_n hx hb dX11_settle_81 rfl (lv_at hl 3 rfl) ?_
    refine lv_iadd hx hb dX11_settle_82 ?_
    have hi18 := mq_ck_in h
    replace h := mq_ck_go h
    refine va_zald (f := S.2.1 43) hx hb hK hP 44 3 rfl rfl hi18 dX11_settle_83 ?_
    have hi19 := mq_ck_in h
    replace h := mq_ck_go h
    refine mq_zast (w := wd_R a cI cL cB cZ z) (S := S) (f := S.2.1 35) hx hb hK hP hD hS 36 3 rfl rfl hi19 dX11_settle_84 35 (zs_wd_R_a_36_35 _ _ _ _ _ _ _ _) (fun S20 eS20 H locs hP hD hS => ?_)
    replace h := mq_nS_go eS20 h
    obtain ⟨x21, ex21⟩ : ∃ y : Int32, y = v3 + (1 : Int32) := ⟨_, rfl⟩
    replace h := mq_nI_go ex21 h
    refine lv_iinc (v := x21) (lv' := [(3, .int (x21)), (0, .ref (a 0)), (1, .int (v1)), (2, .int (v2))]) hx hb dX11_settle_85 hl (k := 3) rfl (by rw [ex21]; rfl) (by decide) rfl (fun ls hl => ?_)
    refine lv_goto (tgt := 58) hx hb dX11_settle_88 (by decide) ?_
    exact hk58 (v1) (v2) (x21) S20 H locs ls h (lv_sub hl [1, 2, 3, 0] rfl) hP hD hS
set_option maxHeartbeats 4000000 in
set_option maxRecDepth 100000 in
theorem zw_X11_settle_58 {p : Program} {l : Launch} {e : Env} {s : State} {m : MethodId} {args : Array Value} {below : List Frame} {meth : Method} {c : Code} {A : Nat → Prop} {D : va_G} {a z : Nat → Nat} {cI cL cB cZ : ClassId} {Q : State → Prop} {N : Nat} {res : Unit × mq_St} {k32 : Int32 → Int32 → mq_St → Option (Unit × mq_St)} (C : mq_C p s m args c A D cI cL cB cZ cX11_settle 4 RX11 zc_X11_settle) (hret : ∀ (H : Heap) (locs : List Loc) (ls : Array Slot) (pc : Nat), decode cX11_settle pc = .ok (.return_, 1) → va_P D vwCl (wd_R a cI cL cB cZ z res.2) H → va_D A (wd_R a cI cL cB cZ z res.2) → va_S A s.heap H locs → W p l e zr_X11_settle s m args below meth c H locs 0 0 Q (F0 m pc ls [])) (hk32 : ∀ (v1 : Int32) (v2 : Int32) (S : mq_St) (H : Heap) (locs : List Loc) (ls : Array Slot), k32 v1 v2 S = some res → lv_has ls 4 [(0, .ref (a 0)), (1, .int (v1)), (2, .int (v2))] → va_P D vwCl (wd_R a cI cL cB cZ z S) H → va_D A (wd_R a cI cL cB cZ z S) → va_S A s.heap H locs → W p l e zr_X11_settle s m args below meth c H locs 0 0 Q (F0 m 32 ls [])) : ∀ (n : Nat) (v1 : Int32) (v2 : Int32) (v3 : Int32) (S : mq_St) (H : Heap) (locs : List Loc) (ls : Array Slot) (h : zf_X11_settle_58 N z k32 n v1 v2 v3 S = some res) (hl : lv_has ls 4 [(0, .ref (a 0)), (1, .int (v1)), (2, .int (v2)), (3, .int (v3))]) (hP : va_P D vwCl (wd_R a cI cL cB cZ z S) H) (hD : va_D A (wd_R a cI cL cB cZ z S)) (hS : va_S A s.heap H locs), W p l e zr_X11_settle s m args below meth c H locs 0 0 Q (F0 m 58 ls []) := by
  intro n
  induction n with
  | zero =>
    intro v1 v2 v3 S H locs ls h hl hP hD hS
    exact nomatch (show (none : Option (Unit × mq_St)) = some res from h)
  | succ n ih =>
    intro v1 v2 v3 S H locs ls h hl hP hD hS
    exact zw_X11_settle_58b C hret hk32 (fun v1 v2 v3 S H locs ls h hl hP hD hS => ih v1 v2 v3 S H locs ls h hl hP hD hS) v1 v2 v3 S H locs ls h hl hP hD hS
set_option maxHeartbeats 4000000 in
set_option maxRecDepth 100000 in
theorem zw_X11_settle_32b {p : Program} {l : Launch} {e : Env} {s : State} {m : MethodId} {args : Array Value} {below : List Frame} {meth : Method} {c : Code} {A : Nat → Prop} {D : va_G} {a z : Nat → Nat} {cI cL cB cZ : ClassId} {Q : State → Prop} {N : Nat} {res : Unit × mq_St} {k32 : Int32 → Int32 → mq_St → Option (Unit × mq_St)} (C : mq_C p s m args c A D cI cL cB cZ cX11_settle 4 RX11 zc_X11_settle) (hret : ∀ (H : Heap) (locs : List Loc) (ls : Array Slot) (pc : Nat), decode cX11_settle pc = .ok (.return_, 1) → va_P D vwCl (wd_R a cI cL cB cZ z res.2) H → va_D A (wd_R a cI cL cB cZ z res.2) → va_S A s.heap H locs → W p l e zr_X11_settle s m args below meth c H locs 0 0 Q (F0 m pc ls [])) (hk32 : ∀ (v1 : Int32) (v2 : Int32) (S : mq_St) (H : Heap) (locs : List Loc) (ls : Array Slot), k32 v1 v2 S = some res → lv_has ls 4 [(0, .ref (a 0)), (1, .int (v1)), (2, .int (v2))] → va_P D vwCl (wd_R a cI cL cB cZ z S) H → va_D A (wd_R a cI cL cB cZ z S) → va_S A s.heap H locs → W p l e zr_X11_settle s m args below meth c H locs 0 0 Q (F0 m 32 ls [])) (v1 : Int32) (v2 : Int32) (S : mq_St) (H : Heap) (locs : List Loc) (ls : Array Slot) (h : zf_X11_settle_32b N z k32 v1 v2 S = some res) (hl : lv_has ls 4 [(0, .ref (a 0)), (1, .int (v1)), (2, .int (v2))]) (hP : va_P D vwCl (wd_R a cI cL cB cZ z S) H) (hD : va_D A (wd_R a cI cL cB cZ z S)) (hS : va_S A s.heap H locs) : W p l e zr_X11_settle s m args below meth c H locs 0 0 Q (F0 m 32 ls []) := by
  obtain ⟨hx, hb, hml, hown, hts, hK, hA⟩ := id C
  unfold zf_X11_settle_32b at h
  refine lv_iload_n hx hb dX11_settle_32 rfl (lv_at hl 2 rfl) ?_
  refine lv_iload_n hx hb dX11_settle_33 rfl (lv_at hl 1 rfl) ?_
  refine lv_icmp_ge (tgt := 97) hx hb dX11_settle_34 (by decide) (fun c16 => ?_) (fun c16 => ?_)
  · replace h := mq_it c16 h
    refine lv_aload_n hx hb dX11_settle_97 rfl (lv_at hl 0 rfl) ?_
    refine lv_iload_n hx hb dX11_settle_98 rfl (lv_at hl 1 rfl) ?_
    refine mq_put (w := wd_R a cI cL cB cZ z) (S := S) (D := D) (ci := 11) (v := v1) (ty := .int) (C := RX11) (T := TX11) (N := 76) hx hb hts (zi_X11 _) tyX11 tyX11_ok nmX11 hown hK hP hD hS 0 rfl rfl 65 (by decide) (hts _ (List.mem_cons_of_mem _ zt_f_X11_375)) (fun _ h9 => h9) rfl (by decide +kernel) rfl rfl (Nat.le_of_ble_eq_true rfl) dX11_settle_99 31 (zs_wd_R_i_0_31 _ _ _ _ _ _ _ _) (fun S9 eS9 H locs hP hD hS => ?_)
    replace h := mq_nS_go eS9 h
    cases h
    exact hret H locs ls 102 dX11_settle_102 hP hD hS
  · replace h := mq_if c16 h
    refine lv_aload_n hx hb dX11_settle_37 rfl (lv_at hl 0 rfl) ?_
    refine va_get (D := D) (ci := 11) (v := .ref (a 35)) (C := RX11) (T := TX11) (N := 76) hx hb hts (zi_X11 _) hown hK hP 0 rfl rfl 66 (by decide) (hts _ (List.mem_cons_of_mem _ zt_f_X11_121)) (fun _ h9 => h9) rfl dX11_settle_38 ?_
    refine lv_iload_n hx hb dX11_settle_41 rfl (lv_at hl 2 rfl) ?_
    refine lv_aload_n hx hb dX11_settle_42 rfl (lv_at hl 0 rfl) ?_
    refine va_get (D := D) (ci := 11) (v := .ref (a 41)) (C := RX11) (T := TX11) (N := 76) hx hb hts (zi_X11 _) hown hK hP 0 rfl rfl 72 (by decide) (hts _ (List.mem_cons_of_mem _ zt_f_X11_139)) (fun _ h9 => h9) rfl dX11_settle_43 ?_
    refine lv_iload_n hx hb dX11_settle_46 rfl (lv_at hl 2 rfl) ?_
    have hi10 := mq_ck_in h
    replace h := mq_ck_go h
    refine va_iald (f := S.2.1 40) hx hb hK hP 41 0 rfl rfl hi10 dX11_settle_47 ?_
    have hi11 := mq_ck_in h
    replace h := mq_ck_go h
    refine mq_iast (w := wd_R a cI cL cB cZ z) (S := S) (f := S.2.1 34) hx hb hK hP hD hS 35 0 rfl rfl hi11 dX11_settle_48 34 (zs_wd_R_a_35_34 _ _ _ _ _ _ _ _) (fun S12 eS12 H locs hP hD hS => ?_)
    replace h := mq_nS_go eS12 h
    refine lv_aload_n hx hb dX11_settle_49 rfl (lv_at hl 0 rfl) ?_
    refine va_get (D := D) (ci := 11) (v := .ref (a 37)) (C := RX11) (T := TX11) (N := 76) hx hb hts (zi_X11 _) hown hK hP 0 rfl rfl 68 (by decide) (hts _ (List.mem_cons_of_mem _ zt_f_X11_127)) (fun _ h9 => h9) rfl dX11_settle_50 ?_
    refine lv_iload_n hx hb dX11_settle_53 rfl (lv_at hl 2 rfl) ?_
    refine lv_iconst (v := (-1 : Int32)) hx hb dX11_settle_54 (by decide) ?_
    have hi13 := mq_ck_in h
    replace h := mq_ck_go h
    refine mq_iast (w := wd_R a cI cL cB cZ z) (S := S12) (f := S12.2.1 36) hx hb hK hP hD hS 37 0 rfl rfl hi13 dX11_settle_55 36 (zs_wd_R_a_37_36 _ _ _ _ _ _ _ _) (fun S14 eS14 H locs hP hD hS => ?_)
    replace h := mq_nS_go eS14 h
    refine lv_iconst (v := (0 : Int32)) hx hb dX11_settle_56 (by decide) ?_
    refine lv_topi (fun x15 ex15 => ?_)
    replace h := mq_nI_go ex15 h
    refine lv_istore_n (lv' := [(3, .int (x15)), (0, .ref (a 0)), (1, .int (v1)), (2, .int (v2))]) hx hb dX11_settle_57 rfl hl (by decide) rfl (fun ls hl => ?_)
    exact zw_X11_settle_58 C hret hk32 N (v1) (v2) (x15) S14 H locs ls h (lv_sub hl [1, 2, 3, 0] rfl) hP hD hS
set_option maxHeartbeats 4000000 in
set_option maxRecDepth 100000 in
theorem zw_X11_settle_32 {p : Program} {l : Launch} {e : Env} {s : State} {m : MethodId} {args : Array Value} {below : List Frame} {meth : Method} {c : Code} {A : Nat → Prop} {D : va_G} {a z : Nat → Nat} {cI cL cB cZ : ClassId} {Q : State → Prop} {N : Nat} {res : Unit × mq_St} (C : mq_C p s m args c A D cI cL cB cZ cX11_settle 4 RX11 zc_X11_settle) (hret : ∀ (H : Heap) (locs : List Loc) (ls : Array Slot) (pc : Nat), decode cX11_settle pc = .ok (.return_, 1) → va_P D vwCl (wd_R a cI cL cB cZ z res.2) H → va_D A (wd_R a cI cL cB cZ z res.2) → va_S A s.heap H locs → W p l e zr_X11_settle s m args below meth c H locs 0 0 Q (F0 m pc ls [])) : ∀ (n : Nat) (v1 : Int32) (v2 : Int32) (S : mq_St) (H : Heap) (locs : List Loc) (ls : Array Slot) (h : zf_X11_settle_32 N z n v1 v2 S = some res) (hl : lv_has ls 4 [(0, .ref (a 0)), (1, .int (v1)), (2, .int (v2))]) (hP : va_P D vwCl (wd_R a cI cL cB cZ z S) H) (hD : va_D A (wd_R a cI cL cB cZ z S)) (hS : va_S A s.heap H locs), W p l e zr_X11_settle s m args below meth c H locs 0 0 Q (F0 m 32 ls []) := by
  intro n
  induction n with
  | zero =>
    intro v1 v2 S H locs ls h hl hP hD hS
    exact nomatch (show (none : Option (Unit × mq_St)) = some res from h)
  | succ n ih =>
    intro v1 v2 S H locs ls h hl hP hD hS
    exact zw_X11_settle_32b C hret (fun v1 v2 S H locs ls h hl hP hD hS => ih v1 v2 S H locs ls h hl hP hD hS) v1 v2 S H locs ls h hl hP hD hS
set_option maxHeartbeats 4000000 in
set_option maxRecDepth 100000 in
theorem zw_X11_settle_2b {p : Program} {l : Launch} {e : Env} {s : State} {m : MethodId} {args : Array Value} {below : List Frame} {meth : Method} {c : Code} {A : Nat → Prop} {D : va_G} {a z : Nat → Nat} {cI cL cB cZ : ClassId} {Q : State → Prop} {N : Nat} {res : Unit × mq_St} {k2 : Int32 → Int32 → mq_St → Option (Unit × mq_St)} (C : mq_C p s m args c A D cI cL cB cZ cX11_settle 4 RX11 zc_X11_settle) (hret : ∀ (H : Heap) (locs : List Loc) (ls : Array Slot) (pc : Nat), decode cX11_settle pc = .ok (.return_, 1) → va_P D vwCl (wd_R a cI cL cB cZ z res.2) H → va_D A (wd_R a cI cL cB cZ z res.2) → va_S A s.heap H locs → W p l e zr_X11_settle s m args below meth c H locs 0 0 Q (F0 m pc ls [])) (hk2 : ∀ (v1 : Int32) (v2 : Int32) (S : mq_St) (H : Heap) (locs : List Loc) (ls : Array Slot), k2 v1 v2 S = some res → lv_has ls 4 [(0, .ref (a 0)), (1, .int (v1)), (2, .int (v2))] → va_P D vwCl (wd_R a cI cL cB cZ z S) H → va_D A (wd_R a cI cL cB cZ z S) → va_S A s.heap H locs → W p l e zr_X11_settle s m args below meth c H locs 0 0 Q (F0 m 2 ls [])) (v1 : Int32) (v2 : Int32) (S : mq_St) (H : Heap) (locs : List Loc) (ls : Array Slot) (h : zf_X11_settle_2b N z k2 v1 v2 S = some res) (hl : lv_has ls 4 [(0, .ref (a 0)), (1, .int (v1)), (2, .int (v2))]) (hP : va_P D vwCl (wd_R a cI cL cB cZ z S) H) (hD : va_D A (wd_R a cI cL cB cZ z S)) (hS : va_S A s.heap H locs) : W p l e zr_X11_settle s m args below meth c H locs 0 0 Q (F0 m 2 ls []) := by
  obtain ⟨hx, hb, hml, hown, hts, hK, hA⟩ := id C
  unfold zf_X11_settle_2b at h
  refine lv_iload_n hx hb dX11_settle_2 rfl (lv_at hl 2 rfl) ?_
  refine lv_iload_n hx hb dX11_settle_3 rfl (lv_at hl 1 rfl) ?_
  refine lv_icmp_ge (tgt := 30) hx hb dX11_settle_4 (by decide) (fun c8 => ?_) (fun c8 => ?_)
  · replace h := mq_it c8 h
    refine lv_iconst (v := (0 : Int32)) hx hb dX11_settle_30 (by decide) ?_
    refine lv_topi (fun x2 ex2 => ?_)
    replace h := mq_nI_go ex2 h
    refine lv_istore_n (lv' := [(2, .int (x2)), (0, .ref (a 0)), (1, .int (v1))]) hx hb dX11_settle_31 rfl hl (by decide) rfl (fun ls hl => ?_)
    exact zw_X11_settle_32 C hret N (v1) (x2) S H locs ls h (lv_sub hl [1, 2, 0] rfl) hP hD hS
  · replace h := mq_if c8 h
    refine lv_aload_n hx hb dX11_settle_7 rfl (lv_at hl 0 rfl) ?_
    refine va_get (D := D) (ci := 11) (v := .ref (a 41)) (C := RX11) (T := TX11) (N := 76) hx hb hts (zi_X11 _) hown hK hP 0 rfl rfl 72 (by decide) (hts _ (List.mem_cons_of_mem _ zt_f_X11_139)) (fun _ h9 => h9) rfl dX11_settle_8 ?_
    refine lv_iload_n hx hb dX11_settle_11 rfl (lv_at hl 2 rfl) ?_
    refine lv_aload_n hx hb dX11_settle_12 rfl (lv_at hl 0 rfl) ?_
    refine va_get (D := D) (ci := 11) (v := .ref (a 35)) (C := RX11) (T := TX11) (N := 76) hx hb hts (zi_X11 _) hown hK hP 0 rfl rfl 66 (by decide) (hts _ (List.mem_cons_of_mem _ zt_f_X11_121)) (fun _ h9 => h9) rfl dX11_settle_13 ?_
    refine lv_aload_n hx hb dX11_settle_16 rfl (lv_at hl 0 rfl) ?_
    refine va_get (D := D) (ci := 11) (v := .ref (a 43)) (C := RX11) (T := TX11) (N := 76) hx hb hts (zi_X11 _) hown hK hP 0 rfl rfl 74 (by decide) (hts _ (List.mem_cons_of_mem _ zt_f_X11_145)) (fun _ h9 => h9) rfl dX11_settle_17 ?_
    refine lv_iload_n hx hb dX11_settle_20 rfl (lv_at hl 2 rfl) ?_
    have hi3 := mq_ck_in h
    replace h := mq_ck_go h
    refine va_iald (f := S.2.1 42) hx hb hK hP 43 0 rfl rfl hi3 dX11_settle_21 ?_
    have hi4 := mq_ck_in h
    replace h := mq_ck_go h
    refine va_iald (f := S.2.1 34) hx hb hK hP 35 0 rfl rfl hi4 dX11_settle_22 ?_
    have hi5 := mq_ck_in h
    replace h := mq_ck_go h
    refine mq_iast (w := wd_R a cI cL cB cZ z) (S := S) (f := S.2.1 40) hx hb hK hP hD hS 41 0 rfl rfl hi5 dX11_settle_23 40 (zs_wd_R_a_41_40 _ _ _ _ _ _ _ _) (fun S6 eS6 H locs hP hD hS => ?_)
    replace h := mq_nS_go eS6 h
    obtain ⟨x7, ex7⟩ : ∃ y : Int32, y = v2 + (1 : Int32) := ⟨_, rfl⟩
    replace h := mq_nI_go ex7 h
    refine lv_iinc (v := x7) (lv' := [(2, .int (x7)), (0, .ref (a 0)), (1, .int (v1))]) hx hb dX11_settle_24 hl (k := 2) rfl (by rw [ex7]; rfl) (by decide) rfl (fun ls hl => ?_)
    refine lv_goto (tgt := 2) hx hb dX11_settle_27 (by decide) ?_
    exact hk2 (v1) (x7) S6 H locs ls h (lv_sub hl [1, 2, 0] rfl) hP hD hS
set_option maxHeartbeats 4000000 in
set_option maxRecDepth 100000 in
theorem zw_X11_settle_2 {p : Program} {l : Launch} {e : Env} {s : State} {m : MethodId} {args : Array Value} {below : List Frame} {meth : Method} {c : Code} {A : Nat → Prop} {D : va_G} {a z : Nat → Nat} {cI cL cB cZ : ClassId} {Q : State → Prop} {N : Nat} {res : Unit × mq_St} (C : mq_C p s m args c A D cI cL cB cZ cX11_settle 4 RX11 zc_X11_settle) (hret : ∀ (H : Heap) (locs : List Loc) (ls : Array Slot) (pc : Nat), decode cX11_settle pc = .ok (.return_, 1) → va_P D vwCl (wd_R a cI cL cB cZ z res.2) H → va_D A (wd_R a cI cL cB cZ z res.2) → va_S A s.heap H locs → W p l e zr_X11_settle s m args below meth c H locs 0 0 Q (F0 m pc ls [])) : ∀ (n : Nat) (v1 : Int32) (v2 : Int32) (S : mq_St) (H : Heap) (locs : List Loc) (ls : Array Slot) (h : zf_X11_settle_2 N z n v1 v2 S = some res) (hl : lv_has ls 4 [(0, .ref (a 0)), (1, .int (v1)), (2, .int (v2))]) (hP : va_P D vwCl (wd_R a cI cL cB cZ z S) H) (hD : va_D A (wd_R a cI cL cB cZ z S)) (hS : va_S A s.heap H locs), W p l e zr_X11_settle s m args below meth c H locs 0 0 Q (F0 m 2 ls []) := by
  intro n
  induction n with
  | zero =>
    intro v1 v2 S H locs ls h hl hP hD hS
    exact nomatch (show (none : Option (Unit × mq_St)) = some res from h)
  | succ n ih =>
    intro v1 v2 S H locs ls h hl hP hD hS
    exact zw_X11_settle_2b C hret (fun v1 v2 S H locs ls h hl hP hD hS => ih v1 v2 S H locs ls h hl hP hD hS) v1 v2 S H locs ls h hl hP hD hS
set_option maxHeartbeats 4000000 in
set_option maxRecDepth 100000 in
theorem zw_X11_settle_0 {p : Program} {l : Launch} {e : Env} {s : State} {m : MethodId} {args : Array Value} {below : List Frame} {meth : Method} {c : Code} {A : Nat → Prop} {D : va_G} {a z : Nat → Nat} {cI cL cB cZ : ClassId} {Q : State → Prop} {N : Nat} {res : Unit × mq_St} (C : mq_C p s m args c A D cI cL cB cZ cX11_settle 4 RX11 zc_X11_settle) (hret : ∀ (H : Heap) (locs : List Loc) (ls : Array Slot) (pc : Nat), decode cX11_settle pc = .ok (.return_, 1) → va_P D vwCl (wd_R a cI cL cB cZ z res.2) H → va_D A (wd_R a cI cL cB cZ z res.2) → va_S A s.heap H locs → W p l e zr_X11_settle s m args below meth c H locs 0 0 Q (F0 m pc ls [])) (v1 : Int32) (S : mq_St) (H : Heap) (locs : List Loc) (ls : Array Slot) (h : zf_X11_settle N z v1 S = some res) (hl : lv_has ls 4 [(0, .ref (a 0)), (1, .int (v1))]) (hP : va_P D vwCl (wd_R a cI cL cB cZ z S) H) (hD : va_D A (wd_R a cI cL cB cZ z S)) (hS : va_S A s.heap H locs) : W p l e zr_X11_settle s m args below meth c H locs 0 0 Q (F0 m 0 ls []) := by
  obtain ⟨hx, hb, hml, hown, hts, hK, hA⟩ := id C
  unfold zf_X11_settle at h
  refine lv_iconst (v := (0 : Int32)) hx hb dX11_settle_0 (by decide) ?_
  refine lv_topi (fun x1 ex1 => ?_)
  replace h := mq_nI_go ex1 h
  refine lv_istore_n (lv' := [(2, .int (x1)), (0, .ref (a 0)), (1, .int (v1))]) hx hb dX11_settle_1 rfl hl (by decide) rfl (fun ls hl => ?_)
  exact zw_X11_settle_2 C hret N (v1) (x1) S H locs ls h (lv_sub hl [1, 2, 0] rfl) hP hD hS
set_option maxHeartbeats 4000000 in
set_option maxRecDepth 100000 in
theorem zm_X11_settle (l : Launch) (D : va_G) (a z : Nat → Nat) (cI cL cB cZ : ClassId) (sz N : Nat) (v1 : Int32) (S : mq_St) (res : Unit × mq_St) (h : zf_X11_settle N z v1 S = some res) : Met l yX11_settle (zc_X11_settle :: mq_T) zr_X11_settle (va_Pc [.ref (a 0), .int (v1)] (fun U => U.heap.size = sz ∧ va_P D vwCl (wd_R a cI cL cB cZ z S) U.heap ∧ va_K D vwCl (mq_tys cI cL cB cZ) U ∧ va_D (fun _ => True) (wd_R a cI cL cB cZ z S))) (va_Qv (fun u : mq_St => u = res.2) (fun u t => va_P D vwCl (wd_R a cI cL cB cZ z u) t.heap ∧ va_K D vwCl (mq_tys cI cL cB cZ) t ∧ va_D (va_A (wd_R a cI cL cB cZ z S) sz) (wd_R a cI cL cB cZ z u)) (va_A (wd_R a cI cL cB cZ z S) sz)) 0 0 (va_A (wd_R a cI cL cB cZ z S) sz) := by
  refine Met.ofW (cc := cX11_settle) (maxL := 4) (ret := none) (by decide) rfl ?_
  intro p e s m args below meth c s₁ B hml hv
  obtain ⟨rfl, hsz, hP, hK, hD0⟩ := hv
  have hr := B.returns
  have hlocks := B.notSynchronized
  have hts := atoms_spec (ws := zc_X11_settle :: mq_T) B.pre
  have hown : s.vm.findClass RX11 = some m.cls := findClass_of_methodNamed B.named
  subst hsz
  have hD := hD0.self (sz := s.heap.size)
  generalize hAe : va_A (wd_R a cI cL cB cZ z S) s.heap.size = A at hD ⊢
  have hA : ∀ q : Nat, s.heap.size ≤ q → A q := fun q h => by rw [← hAe]; exact Or.inr h
  have hl := lv_entry ([.ref (a 0), .int (v1)]) (n := 4) (Nat.le_of_ble_eq_true rfl)
  rw [lg_entry_eq]
  generalize (lg_sl ([.ref (a 0), .int (v1)]) ++ List.replicate (4 - (lg_sl ([.ref (a 0), .int (v1)])).length) Slot.unset).toArray = ls at hl ⊢
  have hl : lv_has ls 4 [(0, .ref (a 0)), (1, .int (v1))] := hl
  refine zw_X11_settle_0 (A := A) ⟨B.exec, B.bytes, hml, hown, hts, hK, hA⟩ (fun H locs ls pc dg hP hD hS => ?_) v1 S s.heap [] ls h hl hP hD va_S.rf
  exact W.vret B.exec B.bytes hr (fun t ht hW => ⟨⟨_, rfl, rfl, by rw [ht]; exact hP, va_K.moved hW.alike hK, hD⟩, hS.F ht⟩) hS.2.2 dg
theorem zt_X11_settle_c : zc_X11_settle ∈ mq_T := mq_T_mem (mq_t7 (List.mem_of_getElem? (i := 191) rfl)) rfl
theorem zt_X11_settle_i : Cond.instanceMethod yX11_settle ∈ mq_T := mq_T_mem (mq_t7 (List.mem_of_getElem? (i := 190) rfl)) rfl
theorem zt_X11_settle_s : Cond.selects RX11 yX11_settle yX11_settle ∈ mq_T := mq_T_at 109 (by decide +kernel)
set_option maxHeartbeats 4000000 in
theorem zk_X11_settle {p : Program} {l : Launch} {e : Env} {R : Room} {s : State} {m : MethodId} {args : Array Value} {below : List Frame} {meth : Method} {c : Code} {A : Nat → Prop} {D : va_G} {a z : Nat → Nat} {cI cL cB cZ : ClassId} {Q : State → Prop} {cc : ByteArray} {nL idx pc N : Nat} {own : String} {c1 : Cond} {H : Heap} {locs : List Loc} {ls : Array Slot} {rest : List Value} {S : mq_St} {res : Unit × mq_St} {v1 : Int32} (C : mq_C p s m args c A D cI cL cB cZ cc nL own c1) (hlk : Cond.methodLink own idx yX11_settle ∈ mq_T) (hR : zr_X11_settle.frames + 1 ≤ R.frames ∧ 8 + (4 + 11) + zr_X11_settle.locals ≤ R.locals) (h : zf_X11_settle N z v1 S = some res) (hP : va_P D vwCl (wd_R a cI cL cB cZ z S) H) (hD : va_D A (wd_R a cI cL cB cZ z S)) (hS : va_S A s.heap H locs) (hls : ls.size = nL) (hrest : (rest.map fun v => v.category).sum ≤ 8) (hdg : decode cc pc = .ok (.invokevirtual idx, 3)) (kk : ∀ (H1 : Heap) (locs1 : List Loc), va_P D vwCl (wd_R a cI cL cB cZ z res.2) H1 → va_D A (wd_R a cI cL cB cZ z res.2) → va_S A s.heap H1 locs1 → W p l e R s m args below meth c H1 locs1 0 0 Q (F0 m (pc + 3) ls rest)) : W p l e R s m args below meth c H locs 0 0 Q (F0 m pc ls (.int (v1) :: .ref (a 0) :: rest)) := by
  obtain ⟨hx, hb, hml, hown, hts, hK, hA⟩ := C
  have hFc := mq_freeI hD hS hA
  refine va_callv (va_runV (As := [.int (v1)]) (rest := rest) ⟨hx, hb, hml, hown, hts⟩ (zm_X11_settle l D a z cI cL cB cZ H.size N v1 S res h) (cwV 1 hts (mq_goodL (mq_wsV hlk zt_X11_settle_i zt_X11_settle_s zt_ini_X11 zt_X11_settle_c)) rfl rfl rfl (by decide +kernel) hR) ⟨fun a U g mk q => ⟨q.1, q.2.1, q.2.2.1, va_K.moved (u := U) (U := U.calling g mk a) (Vm.Alike.refl U.vm) q.2.2.2.1, q.2.2.2.2⟩, zy_R_0 hK hP, fun U hU hW => ⟨rfl, by rw [hU], by rw [hU]; exact hP, va_K.moved hW.alike hK, hD.weaken (fun _ _ _ _ => trivial)⟩⟩ rfl rfl hls rfl (lv_room hrest) hdg ⟨Nat.zero_le _, Nat.zero_le _⟩) hS (fun q _ h => hFc q h) hFc (fun u t H1 locs ht hvm hw hB hz1 hk1 hS => ?_)
  subst hw
  obtain ⟨hP1, hK1, hD1⟩ := hB
  rw [ht] at hP1
  exact kk H1 locs hP1 (hD1.weaken (fun _ _ _ h => hFc _ h)) hS
