/-! ModalDesk$Reader.isAtom(I)Z -/
def zr_X5_isAtom : Room := { frames := 0, cells := 0, slots := 0, locals := 0 }
def zc_X5_isAtom : Cond := .code yX5_isAtom cX5_isAtom 1 (some .boolean)
def zf_X5_isAtom_24 (N : Nat) (z : Nat → Nat) (S : mq_St) : Option (Int32) := (mq_cz ((1 : Int32)) (some ((1 : Int32))))
def zf_X5_isAtom_12 (N : Nat) (z : Nat → Nat) (S : mq_St) (v0 : Int32) : Option (Int32) := (if v0 = (84 : Int32) then (zf_X5_isAtom_24 N z S) else (if v0 = (70 : Int32) then (zf_X5_isAtom_24 N z S) else (mq_cz ((0 : Int32)) (some ((0 : Int32))))))
def zf_X5_isAtom (N : Nat) (z : Nat → Nat) (v0 : Int32) (S : mq_St) : Option (Int32) := (if v0 < (97 : Int32) then (zf_X5_isAtom_12 N z S (v0)) else (if v0 ≤ (122 : Int32) then (zf_X5_isAtom_24 N z S) else (zf_X5_isAtom_12 N z S (v0))))
set_option maxHeartbeats 4000000 in
set_option maxRecDepth 100000 in
theorem zw_X5_isAtom_24 {p : Program} {l : Launch} {e : Env} {s : State} {m : MethodId} {args : Array Value} {below : List Frame} {meth : Method} {c : Code} {A : Nat → Prop} {D : va_G} {a z : Nat → Nat} {cI cL cB cZ : ClassId} {Q : State → Prop} {N : Nat} {S : mq_St} {res : Int32} (C : mq_C p s m args c A D cI cL cB cZ cX5_isAtom 1 RX5 zc_X5_isAtom) (hret : ∀ (H : Heap) (locs : List Loc) (ls : Array Slot) (pc : Nat), decode cX5_isAtom pc = .ok (.ireturn, 1) → narrow .boolean (.int res) = .int res → va_P D vwCl (wd_0 a cI cL cB cZ z S) H → va_D A (wd_0 a cI cL cB cZ z S) → va_S A s.heap H locs → W p l e zr_X5_isAtom s m args below meth c H locs 0 0 Q (F0 m pc ls [.int res])) (H : Heap) (locs : List Loc) (ls : Array Slot) (h : zf_X5_isAtom_24 N z S = some res) (hl : lv_has ls 1 []) (hP : va_P D vwCl (wd_0 a cI cL cB cZ z S) H) (hD : va_D A (wd_0 a cI cL cB cZ z S)) (hS : va_S A s.heap H locs) : W p l e zr_X5_isAtom s m args below meth c H locs 0 0 Q (F0 m 24 ls []) := by
  obtain ⟨hx, hb, hml, hown, hts, hK, hA⟩ := id C
  unfold zf_X5_isAtom_24 at h
  refine lv_iconst (v := (1 : Int32)) hx hb dX5_isAtom_24 (by decide) ?_
  refine lv_goto (tgt := 29) hx hb dX5_isAtom_25 (by decide) ?_
  have hz3 := mq_cz_in h
  replace h := mq_cz_go h
  cases h
  exact hret H locs ls 29 dX5_isAtom_29 hz3.1 hP hD hS
set_option maxHeartbeats 4000000 in
set_option maxRecDepth 100000 in
theorem zw_X5_isAtom_12 {p : Program} {l : Launch} {e : Env} {s : State} {m : MethodId} {args : Array Value} {below : List Frame} {meth : Method} {c : Code} {A : Nat → Prop} {D : va_G} {a z : Nat → Nat} {cI cL cB cZ : ClassId} {Q : State → Prop} {N : Nat} {S : mq_St} {res : Int32} (C : mq_C p s m args c A D cI cL cB cZ cX5_isAtom 1 RX5 zc_X5_isAtom) (hret : ∀ (H : Heap) (locs : List Loc) (ls : Array Slot) (pc : Nat), decode cX5_isAtom pc = .ok (.ireturn, 1) → narrow .boolean (.int res) = .int res → va_P D vwCl (wd_0 a cI cL cB cZ z S) H → va_D A (wd_0 a cI cL cB cZ z S) → va_S A s.heap H locs → W p l e zr_X5_isAtom s m args below meth c H locs 0 0 Q (F0 m pc ls [.int res])) (v0 : Int32) (H : Heap) (locs : List Loc) (ls : Array Slot) (h : zf_X5_isAtom_12 N z S v0 = some res) (hl : lv_has ls 1 [(0, .int (v0))]) (hP : va_P D vwCl (wd_0 a cI cL cB cZ z S) H) (hD : va_D A (wd_0 a cI cL cB cZ z S)) (hS : va_S A s.heap H locs) : W p l e zr_X5_isAtom s m args below meth c H locs 0 0 Q (F0 m 12 ls []) := by
  obtain ⟨hx, hb, hml, hown, hts, hK, hA⟩ := id C
  unfold zf_X5_isAtom_12 at h
  refine lv_iload_n hx hb dX5_isAtom_12 rfl (lv_at hl 0 rfl) ?_
  refine lv_bipush (v := (84 : Int32)) hx hb dX5_isAtom_13 (by decide) ?_
  refine lv_icmp_eq (tgt := 24) hx hb dX5_isAtom_15 (by decide) (fun c6 => ?_) (fun c6 => ?_)
  · replace h := mq_it c6 h
    exact zw_X5_isAtom_24 C hret H locs ls h (lv_sub hl [] rfl) hP hD hS
  · replace h := mq_if c6 h
    refine lv_iload_n hx hb dX5_isAtom_18 rfl (lv_at hl 0 rfl) ?_
    refine lv_bipush (v := (70 : Int32)) hx hb dX5_isAtom_19 (by decide) ?_
    refine lv_icmp_ne (tgt := 28) hx hb dX5_isAtom_21 (by decide) (fun c5 => ?_) (fun c5 => ?_)
    · replace h := mq_if c5 h
      refine lv_iconst (v := (0 : Int32)) hx hb dX5_isAtom_28 (by decide) ?_
      have hz4 := mq_cz_in h
      replace h := mq_cz_go h
      cases h
      exact hret H locs ls 29 dX5_isAtom_29 hz4.1 hP hD hS
    · replace h := mq_it (by simpa using c5) h
      exact zw_X5_isAtom_24 C hret H locs ls h (lv_sub hl [] rfl) hP hD hS
set_option maxHeartbeats 4000000 in
set_option maxRecDepth 100000 in
theorem zw_X5_isAtom_0 {p : Program} {l : Launch} {e : Env} {s : State} {m : MethodId} {args : Array Value} {below : List Frame} {meth : Method} {c : Code} {A : Nat → Prop} {D : va_G} {a z : Nat → Nat} {cI cL cB cZ : ClassId} {Q : State → Prop} {N : Nat} {S : mq_St} {res : Int32} (C : mq_C p s m args c A D cI cL cB cZ cX5_isAtom 1 RX5 zc_X5_isAtom) (hret : ∀ (H : Heap) (locs : List Loc) (ls : Array Slot) (pc : Nat), decode cX5_isAtom pc = .ok (.ireturn, 1) → narrow .boolean (.int res) = .int res → va_P D vwCl (wd_0 a cI cL cB cZ z S) H → va_D A (wd_0 a cI cL cB cZ z S) → va_S A s.heap H locs → W p l e zr_X5_isAtom s m args below meth c H locs 0 0 Q (F0 m pc ls [.int res])) (v0 : Int32) (H : Heap) (locs : List Loc) (ls : Array Slot) (h : zf_X5_isAtom N z v0 S = some res) (hl : lv_has ls 1 [(0, .int (v0))]) (hP : va_P D vwCl (wd_0 a cI cL cB cZ z S) H) (hD : va_D A (wd_0 a cI cL cB cZ z S)) (hS : va_S A s.heap H locs) : W p l e zr_X5_isAtom s m args below meth c H locs 0 0 Q (F0 m 0 ls []) := by
  obtain ⟨hx, hb, hml, hown, hts, hK, hA⟩ := id C
  unfold zf_X5_isAtom at h
  refine lv_iload_n hx hb dX5_isAtom_0 rfl (lv_at hl 0 rfl) ?_
  refine lv_bipush (v := (97 : Int32)) hx hb dX5_isAtom_1 (by decide) ?_
  refine lv_icmp_lt (tgt := 12) hx hb dX5_isAtom_3 (by decide) (fun c2 => ?_) (fun c2 => ?_)
  · replace h := mq_it c2 h
    exact zw_X5_isAtom_12 C hret (v0) H locs ls h (lv_sub hl [0] rfl) hP hD hS
  · replace h := mq_if c2 h
    refine lv_iload_n hx hb dX5_isAtom_6 rfl (lv_at hl 0 rfl) ?_
    refine lv_bipush (v := (122 : Int32)) hx hb dX5_isAtom_7 (by decide) ?_
    refine lv_icmp_le (tgt := 24) hx hb dX5_isAtom_9 (by decide) (fun c1 => ?_) (fun c1 => ?_)
    · replace h := mq_it c1 h
      exact zw_X5_isAtom_24 C hret H locs ls h (lv_sub hl [] rfl) hP hD hS
    · replace h := mq_if c1 h
      exact zw_X5_isAtom_12 C hret (v0) H locs ls h (lv_sub hl [0] rfl) hP hD hS
set_option maxHeartbeats 4000000 in
set_option maxRecDepth 100000 in
theorem zm_X5_isAtom (l : Launch) (D : va_G) (a z : Nat → Nat) (cI cL cB cZ : ClassId) (sz N : Nat) (v0 : Int32) (S : mq_St) (res : Int32) (h : zf_X5_isAtom N z v0 S = some res) : Met l yX5_isAtom (zc_X5_isAtom :: mq_T) zr_X5_isAtom (va_Pc [.int (v0)] (fun U => U.heap.size = sz ∧ va_P D vwCl (wd_0 a cI cL cB cZ z S) U.heap ∧ va_K D vwCl (mq_tys cI cL cB cZ) U ∧ va_D (fun _ => True) (wd_0 a cI cL cB cZ z S))) (va_Qi (fun (r : Int32) (u : mq_St) => r = res ∧ u = S) (fun u t => va_P D vwCl (wd_0 a cI cL cB cZ z u) t.heap ∧ va_K D vwCl (mq_tys cI cL cB cZ) t ∧ va_D (va_A (wd_0 a cI cL cB cZ z S) sz) (wd_0 a cI cL cB cZ z u)) (va_A (wd_0 a cI cL cB cZ z S) sz)) 0 0 (va_A (wd_0 a cI cL cB cZ z S) sz) := by
  refine Met.ofW (cc := cX5_isAtom) (maxL := 1) (ret := (some .boolean)) (by decide) rfl ?_
  intro p e s m args below meth c s₁ B hml hv
  obtain ⟨rfl, hsz, hP, hK, hD0⟩ := hv
  have hr := B.returns
  have hlocks := B.notSynchronized
  have hts := atoms_spec (ws := zc_X5_isAtom :: mq_T) B.pre
  have hown : s.vm.findClass RX5 = some m.cls := findClass_of_methodNamed B.named
  subst hsz
  have hD := hD0.self (sz := s.heap.size)
  generalize hAe : va_A (wd_0 a cI cL cB cZ z S) s.heap.size = A at hD ⊢
  have hA : ∀ q : Nat, s.heap.size ≤ q → A q := fun q h => by rw [← hAe]; exact Or.inr h
  have hl := lv_entry ([.int (v0)]) (n := 1) (Nat.le_of_ble_eq_true rfl)
  rw [lg_entry_eq]
  generalize (lg_sl ([.int (v0)]) ++ List.replicate (1 - (lg_sl ([.int (v0)])).length) Slot.unset).toArray = ls at hl ⊢
  have hl : lv_has ls 1 [(0, .int (v0))] := hl
  refine zw_X5_isAtom_0 (A := A) ⟨B.exec, B.bytes, hml, hown, hts, hK, hA⟩ (fun H locs ls pc dg hz hP hD hS => ?_) v0 s.heap [] ls h hl hP hD va_S.rf
  exact W.zret B.exec B.bytes hr hz (fun t ht hW => ⟨⟨_, _, rfl, ⟨rfl, rfl⟩, by rw [ht]; exact hP, va_K.moved hW.alike hK, hD⟩, hS.F ht⟩) hS.2.2 dg
theorem zt_X5_isAtom_c : zc_X5_isAtom ∈ mq_T := mq_T_mem (mq_t2 (List.mem_of_getElem? (i := 235) rfl)) rfl
theorem zt_X5_isAtom_s : Cond.static yX5_isAtom ∈ mq_T := mq_T_mem (mq_t2 (List.mem_of_getElem? (i := 234) rfl)) rfl
theorem zt_ini_X5 : Cond.initialized RX5 ∈ mq_T := mq_T_mem (mq_t1 (List.mem_of_getElem? (i := 7) rfl)) rfl
set_option maxHeartbeats 4000000 in
theorem zv_X5_isAtom {p : Program} {l : Launch} {e : Env} {R : Room} {s : State} {m : MethodId} {args : Array Value} {below : List Frame} {meth : Method} {c : Code} {A : Nat → Prop} {D : va_G} {a z : Nat → Nat} {cI cL cB cZ : ClassId} {Q : State → Prop} {cc : ByteArray} {nL idx pc N : Nat} {own : String} {c1 : Cond} {H : Heap} {locs : List Loc} {ls : Array Slot} {rest : List Value} {S : mq_St} {res : Int32} {v0 : Int32} {ws : va_W} (is : List Nat) (C : mq_C p s m args c A D cI cL cB cZ cc nL own c1) (hlk : Cond.methodLink own idx yX5_isAtom ∈ mq_T) (hR : zr_X5_isAtom.frames + 1 ≤ R.frames ∧ 8 + (1 + 11) + zr_X5_isAtom.locals ≤ R.locals) (h : zf_X5_isAtom N z v0 S = some res) (hC : is.map (fun i => ws[i]?) = (wd_0 a cI cL cB cZ z S).map some) (hnd : va_nd is = true) (hP : va_P D vwCl ws H) (hD : va_D A ws) (hS : va_S A s.heap H locs) (hls : ls.size = nL) (hrest : (rest.map fun v => v.category).sum ≤ 8) (hdg : decode cc pc = .ok (.invokestatic idx, 3)) (kk : ∀ (H1 : Heap) (locs1 : List Loc), va_P D vwCl ws H1 → va_D A ws → va_S A s.heap H1 locs1 → W p l e R s m args below meth c H1 locs1 0 0 Q (F0 m (pc + 3) ls (.int res :: rest))) : W p l e R s m args below meth c H locs 0 0 Q (F0 m pc ls (.int (v0) :: rest)) := by
  obtain ⟨hx, hb, hml, hown, hts, hK, hA⟩ := C
  have hPc := mq_subP hP is hC
  have hDc := hD.sub is hnd hC
  have hFc := va_free hD hS hA is hC
  refine va_calli (va_runS (As := [.int (v0)]) (rest := rest) ⟨hx, hb, hml, hown, hts⟩ (zm_X5_isAtom l D a z cI cL cB cZ H.size N v0 S res h) (va_cwS 1 hts (mq_goodL (mq_wsS hlk zt_X5_isAtom_s zt_ini_X5 zt_X5_isAtom_c)) rfl rfl rfl (by decide +kernel) hR) ⟨fun a U g mk q => ⟨q.1, q.2.1, q.2.2.1, va_K.moved (u := U) (U := U.calling g mk a) (Vm.Alike.refl U.vm) q.2.2.2.1, q.2.2.2.2⟩, fun U hU hW => ⟨rfl, by rw [hU], by rw [hU]; exact hPc, va_K.moved hW.alike hK, hDc.weaken (fun _ _ _ _ => trivial)⟩⟩ rfl rfl hls rfl (lv_room hrest) hdg ⟨Nat.zero_le _, Nat.zero_le _⟩) hS (fun q _ h => hFc q h) hFc (fun r u t H1 locs ht hvm hw1 hB hz1 hk1 hS => ?_)
  obtain ⟨rfl, rfl⟩ := hw1
  obtain ⟨hP1, hK1, hD1⟩ := hB
  rw [ht] at hP1
  obtain ⟨hP2, hD2⟩ := mq_join hP hD is hC rfl hk1 hP1
  rw [mq_setM_same is _ ws hC] at hP2 hD2
  exact kk H1 locs hP2 hD2 hS
/-! ModalDesk$Reader.isPrefix(I)Z -/
def zr_X5_isPrefix : Room := { frames := 0, cells := 0, slots := 0, locals := 0 }
def zc_X5_isPrefix : Cond := .code yX5_isPrefix cX5_isPrefix 1 (some .boolean)
def zf_X5_isPrefix_18 (N : Nat) (z : Nat → Nat) (S : mq_St) : Option (Int32) := (mq_cz ((1 : Int32)) (some ((1 : Int32))))
def zf_X5_isPrefix (N : Nat) (z : Nat → Nat) (v0 : Int32) (S : mq_St) : Option (Int32) := (if v0 = (33 : Int32) then (zf_X5_isPrefix_18 N z S) else (if v0 = (91 : Int32) then (zf_X5_isPrefix_18 N z S) else (if v0 = (60 : Int32) then (zf_X5_isPrefix_18 N z S) else (mq_cz ((0 : Int32)) (some ((0 : Int32)))))))
set_option maxHeartbeats 4000000 in
set_option maxRecDepth 100000 in
theorem zw_X5_isPrefix_18 {p : Program} {l : Launch} {e : Env} {s : State} {m : MethodId} {args : Array Value} {below : List Frame} {meth : Method} {c : Code} {A : Nat → Prop} {D : va_G} {a z : Nat → Nat} {cI cL cB cZ : ClassId} {Q : State → Prop} {N : Nat} {S : mq_St} {res : Int32} (C : mq_C p s m args c A D cI cL cB cZ cX5_isPrefix 1 RX5 zc_X5_isPrefix) (hret : ∀ (H : Heap) (locs : List Loc) (ls : Array Slot) (pc : Nat), decode cX5_isPrefix pc = .ok (.ireturn, 1) → narrow .boolean (.int res) = .int res → va_P D vwCl (wd_0 a cI cL cB cZ z S) H → va_D A (wd_0 a cI cL cB cZ z S) → va_S A s.heap H locs → W p l e zr_X5_isPrefix s m args below meth c H locs 0 0 Q (F0 m pc ls [.int res])) (H : Heap) (locs : List Loc) (ls : Array Slot) (h : zf_X5_isPrefix_18 N z S = some res) (hl : lv_has ls 1 []) (hP : va_P D vwCl (wd_0 a cI cL cB cZ z S) H) (hD : va_D A (wd_0 a cI cL cB cZ z S)) (hS : va_S A s.heap H locs) : W p l e zr_X5_isPrefix s m args below meth c H locs 0 0 Q (F0 m 18 ls []) := by
  obtain ⟨hx, hb, hml, hown, hts, hK, hA⟩ := id C
  unfold zf_X5_isPrefix_18 at h
  refine lv_iconst (v := (1 : Int32)) hx hb dX5_isPrefix_18 (by decide) ?_
  refine lv_goto (tgt := 23) hx hb dX5_isPrefix_19 (by decide) ?_
  have hz5 := mq_cz_in h
  replace h := mq_cz_go h
  cases h
  exact hret H locs ls 23 dX5_isPrefix_23 hz5.1 hP hD hS
set_option maxHeartbeats 4000000 in
set_option maxRecDepth 100000 in
theorem zw_X5_isPrefix_0 {p : Program} {l : Launch} {e : Env} {s : State} {m : MethodId} {args : Array Value} {below : List Frame} {meth : Method} {c : Code} {A : Nat → Prop} {D : va_G} {a z : Nat → Nat} {cI cL cB cZ : ClassId} {Q : State → Prop} {N : Nat} {S : mq_St} {res : Int32} (C : mq_C p s m args c A D cI cL cB cZ cX5_isPrefix 1 RX5 zc_X5_isPrefix) (hret : ∀ (H : Heap) (locs : List Loc) (ls : Array Slot) (pc : Nat), decode cX5_isPrefix pc = .ok (.ireturn, 1) → narrow .boolean (.int res) = .int res → va_P D vwCl (wd_0 a cI cL cB cZ z S) H → va_D A (wd_0 a cI cL cB cZ z S) → va_S A s.heap H locs → W p l e zr_X5_isPrefix s m args below meth c H locs 0 0 Q (F0 m pc ls [.int res])) (v0 : Int32) (H : Heap) (locs : List Loc) (ls : Array Slot) (h : zf_X5_isPrefix N z v0 S = some res) (hl : lv_has ls 1 [(0, .int (v0))]) (hP : va_P D vwCl (wd_0 a cI cL cB cZ z S) H) (hD : va_D A (wd_0 a cI cL cB cZ z S)) (hS : va_S A s.heap H locs) : W p l e zr_X5_isPrefix s m args below meth c H locs 0 0 Q (F0 m 0 ls []) := by
  obtain ⟨hx, hb, hml, hown, hts, hK, hA⟩ := id C
  unfold zf_X5_isPrefix at h
  refine lv_iload_n hx hb dX5_isPrefix_0 rfl (lv_at hl 0 rfl) ?_
  refine lv_bipush (v := (33 : Int32)) hx hb dX5_isPrefix_1 (by decide) ?_
  refine lv_icmp_eq (tgt := 18) hx hb dX5_isPrefix_3 (by decide) (fun c4 => ?_) (fun c4 => ?_)
  · replace h := mq_it c4 h
    exact zw_X5_isPrefix_18 C hret H locs ls h (lv_sub hl [] rfl) hP hD hS
  · replace h := mq_if c4 h
    refine lv_iload_n hx hb dX5_isPrefix_6 rfl (lv_at hl 0 rfl) ?_
    refine lv_bipush (v := (91 : Int32)) hx hb dX5_isPrefix_7 (by decide) ?_
    refine lv_icmp_eq (tgt := 18) hx hb dX5_isPrefix_9 (by decide) (fun c3 => ?_) (fun c3 => ?_)
    · replace h := mq_it c3 h
      exact zw_X5_isPrefix_18 C hret H locs ls h (lv_sub hl [] rfl) hP hD hS
    · replace h := mq_if c3 h
      refine lv_iload_n hx hb dX5_isPrefix_12 rfl (lv_at hl 0 rfl) ?_
      refine lv_bipush (v := (60 : Int32)) hx hb dX5_isPrefix_13 (by decide) ?_
      refine lv_icmp_ne (tgt := 22) hx hb dX5_isPrefix_15 (by decide) (fun c2 => ?_) (fun c2 => ?_)
      · replace h := mq_if c2 h
        refine lv_iconst (v := (0 : Int32)) hx hb dX5_isPrefix_22 (by decide) ?_
        have hz1 := mq_cz_in h
        replace h := mq_cz_go h
        cases h
        exact hret H locs ls 23 dX5_isPrefix_23 hz1.1 hP hD hS
      · replace h := mq_it (by simpa using c2) h
        exact zw_X5_isPrefix_18 C hret H locs ls h (lv_sub hl [] rfl) hP hD hS
set_option maxHeartbeats 4000000 in
set_option maxRecDepth 100000 in
theorem zm_X5_isPrefix (l : Launch) (D : va_G) (a z : Nat → Nat) (cI cL cB cZ : ClassId) (sz N : Nat) (v0 : Int32) (S : mq_St) (res : Int32) (h : zf_X5_isPrefix N z v0 S = some res) : Met l yX5_isPrefix (zc_X5_isPrefix :: mq_T) zr_X5_isPrefix (va_Pc [.int (v0)] (fun U => U.heap.size = sz ∧ va_P D vwCl (wd_0 a cI cL cB cZ z S) U.heap ∧ va_K D vwCl (mq_tys cI cL cB cZ) U ∧ va_D (fun _ => True) (wd_0 a cI cL cB cZ z S))) (va_Qi (fun (r : Int32) (u : mq_St) => r = res ∧ u = S) (fun u t => va_P D vwCl (wd_0 a cI cL cB cZ z u) t.heap ∧ va_K D vwCl (mq_tys cI cL cB cZ) t ∧ va_D (va_A (wd_0 a cI cL cB cZ z S) sz) (wd_0 a cI cL cB cZ z u)) (va_A (wd_0 a cI cL cB cZ z S) sz)) 0 0 (va_A (wd_0 a cI cL cB cZ z S) sz) := by
  refine Met.ofW (cc := cX5_isPrefix) (maxL := 1) (ret := (some .boolean)) (by decide) rfl ?_
  intro p e s m args below meth c s₁ B hml hv
  obtain ⟨rfl, hsz, hP, hK, hD0⟩ := hv
  have hr := B.returns
  have hlocks := B.notSynchronized
  have hts := atoms_spec (ws := zc_X5_isPrefix :: mq_T) B.pre
  have hown : s.vm.findClass RX5 = some m.cls := findClass_of_methodNamed B.named
  subst hsz
  have hD := hD0.self (sz := s.heap.size)
  generalize hAe : va_A (wd_0 a cI cL cB cZ z S) s.heap.size = A at hD ⊢
  have hA : ∀ q : Nat, s.heap.size ≤ q → A q := fun q h => by rw [← hAe]; exact Or.inr h
  have hl := lv_entry ([.int (v0)]) (n := 1) (Nat.le_of_ble_eq_true rfl)
  rw [lg_entry_eq]
  generalize (lg_sl ([.int (v0)]) ++ List.replicate (1 - (lg_sl ([.int (v0)])).length) Slot.unset).toArray = ls at hl ⊢
  have hl : lv_has ls 1 [(0, .int (v0))] := hl
  refine zw_X5_isPrefix_0 (A := A) ⟨B.exec, B.bytes, hml, hown, hts, hK, hA⟩ (fun H locs ls pc dg hz hP hD hS => ?_) v0 s.heap [] ls h hl hP hD va_S.rf
  exact W.zret B.exec B.bytes hr hz (fun t ht hW => ⟨⟨_, _, rfl, ⟨rfl, rfl⟩, by rw [ht]; exact hP, va_K.moved hW.alike hK, hD⟩, hS.F ht⟩) hS.2.2 dg
theorem zt_X5_isPrefix_c : zc_X5_isPrefix ∈ mq_T := mq_T_mem (mq_t3 (List.mem_of_getElem? (i := 1) rfl)) rfl
theorem zt_X5_isPrefix_s : Cond.static yX5_isPrefix ∈ mq_T := mq_T_mem (mq_t3 (List.mem_of_getElem? (i := 0) rfl)) rfl
set_option maxHeartbeats 4000000 in
theorem zk_X5_isPrefix {p : Program} {l : Launch} {e : Env} {R : Room} {s : State} {m : MethodId} {args : Array Value} {below : List Frame} {meth : Method} {c : Code} {A : Nat → Prop} {D : va_G} {a z : Nat → Nat} {cI cL cB cZ : ClassId} {Q : State → Prop} {cc : ByteArray} {nL idx pc N : Nat} {own : String} {c1 : Cond} {H : Heap} {locs : List Loc} {ls : Array Slot} {rest : List Value} {S : mq_St} {res : Int32} {v0 : Int32} (C : mq_C p s m args c A D cI cL cB cZ cc nL own c1) (hlk : Cond.methodLink own idx yX5_isPrefix ∈ mq_T) (hR : zr_X5_isPrefix.frames + 1 ≤ R.frames ∧ 8 + (1 + 11) + zr_X5_isPrefix.locals ≤ R.locals) (h : zf_X5_isPrefix N z v0 S = some res) (hP : va_P D vwCl (wd_0 a cI cL cB cZ z S) H) (hD : va_D A (wd_0 a cI cL cB cZ z S)) (hS : va_S A s.heap H locs) (hls : ls.size = nL) (hrest : (rest.map fun v => v.category).sum ≤ 8) (hdg : decode cc pc = .ok (.invokestatic idx, 3)) (kk : ∀ (H1 : Heap) (locs1 : List Loc), va_P D vwCl (wd_0 a cI cL cB cZ z S) H1 → va_D A (wd_0 a cI cL cB cZ z S) → va_S A s.heap H1 locs1 → W p l e R s m args below meth c H1 locs1 0 0 Q (F0 m (pc + 3) ls (.int res :: rest))) : W p l e R s m args below meth c H locs 0 0 Q (F0 m pc ls (.int (v0) :: rest)) := by
  obtain ⟨hx, hb, hml, hown, hts, hK, hA⟩ := C
  have hFc := mq_freeI hD hS hA
  refine va_calli (va_runS (As := [.int (v0)]) (rest := rest) ⟨hx, hb, hml, hown, hts⟩ (zm_X5_isPrefix l D a z cI cL cB cZ H.size N v0 S res h) (va_cwS 1 hts (mq_goodL (mq_wsS hlk zt_X5_isPrefix_s zt_ini_X5 zt_X5_isPrefix_c)) rfl rfl rfl (by decide +kernel) hR) ⟨fun a U g mk q => ⟨q.1, q.2.1, q.2.2.1, va_K.moved (u := U) (U := U.calling g mk a) (Vm.Alike.refl U.vm) q.2.2.2.1, q.2.2.2.2⟩, fun U hU hW => ⟨rfl, by rw [hU], by rw [hU]; exact hP, va_K.moved hW.alike hK, hD.weaken (fun _ _ _ _ => trivial)⟩⟩ rfl rfl hls rfl (lv_room hrest) hdg ⟨Nat.zero_le _, Nat.zero_le _⟩) hS (fun q _ h => hFc q h) hFc (fun r u t H1 locs ht hvm hw hB hz1 hk1 hS => ?_)
  obtain ⟨rfl, rfl⟩ := hw
  obtain ⟨hP1, hK1, hD1⟩ := hB
  rw [ht] at hP1
  exact kk H1 locs hP1 (hD1.weaken (fun _ _ _ h => hFc _ h)) hS
set_option maxHeartbeats 4000000 in
theorem zv_X5_isPrefix {p : Program} {l : Launch} {e : Env} {R : Room} {s : State} {m : MethodId} {args : Array Value} {below : List Frame} {meth : Method} {c : Code} {A : Nat → Prop} {D : va_G} {a z : Nat → Nat} {cI cL cB cZ : ClassId} {Q : State → Prop} {cc : ByteArray} {nL idx pc N : Nat} {own : String} {c1 : Cond} {H : Heap} {locs : List Loc} {ls : Array Slot} {rest : List Value} {S : mq_St} {res : Int32} {v0 : Int32} {ws : va_W} (is : List Nat) (C : mq_C p s m args c A D cI cL cB cZ cc nL own c1) (hlk : Cond.methodLink own idx yX5_isPrefix ∈ mq_T) (hR : zr_X5_isPrefix.frames + 1 ≤ R.frames ∧ 8 + (1 + 11) + zr_X5_isPrefix.locals ≤ R.locals) (h : zf_X5_isPrefix N z v0 S = some res) (hC : is.map (fun i => ws[i]?) = (wd_0 a cI cL cB cZ z S).map some) (hnd : va_nd is = true) (hP : va_P D vwCl ws H) (hD : va_D A ws) (hS : va_S A s.heap H locs) (hls : ls.size = nL) (hrest : (rest.map fun v => v.category).sum ≤ 8) (hdg : decode cc pc = .ok (.invokestatic idx, 3)) (kk : ∀ (H1 : Heap) (locs1 : List Loc), va_P D vwCl ws H1 → va_D A ws → va_S A s.heap H1 locs1 → W p l e R s m args below meth c H1 locs1 0 0 Q (F0 m (pc + 3) ls (.int res :: rest))) : W p l e R s m args below meth c H locs 0 0 Q (F0 m pc ls (.int (v0) :: rest)) := by
  obtain ⟨hx, hb, hml, hown, hts, hK, hA⟩ := C
  have hPc := mq_subP hP is hC
  have hDc := hD.sub is hnd hC
  have hFc := va_free hD hS hA is hC
  refine va_calli (va_runS (As := [.int (v0)]) (rest := rest) ⟨hx, hb, hml, hown, hts⟩ (zm_X5_isPrefix l D a z cI cL cB cZ H.size N v0 S res h) (va_cwS 1 hts (mq_goodL (mq_wsS hlk zt_X5_isPrefix_s zt_ini_X5 zt_X5_isPrefix_c)) rfl rfl rfl (by decide +kernel) hR) ⟨fun a U g mk q => ⟨q.1, q.2.1, q.2.2.1, va_K.moved (u := U) (U := U.calling g mk a) (Vm.Alike.refl U.vm) q.2.2.2.1, q.2.2.2.2⟩, fun U hU hW => ⟨rfl, by rw [hU], by rw [hU]; exact hPc, va_K.moved hW.alike hK, hDc.weaken (fun _ _ _ _ => trivial)⟩⟩ rfl rfl hls rfl (lv_room hrest) hdg ⟨Nat.zero_le _, Nat.zero_le _⟩) hS (fun q _ h => hFc q h) hFc (fun r u t H1 locs ht hvm hw1 hB hz1 hk1 hS => ?_)
  obtain ⟨rfl, rfl⟩ := hw1
  obtain ⟨hP1, hK1, hD1⟩ := hB
  rw [ht] at hP1
  obtain ⟨hP2, hD2⟩ := mq_join hP hD is hC rfl hk1 hP1
  rw [mq_setM_same is _ ws hC] at hP2 hD2
  exact kk H1 locs hP2 hD2 hS
theorem zt_m_X5_143 : Cond.methodLink RX5 143 yX5_isPrefix ∈ mq_T := mq_T_mem (mq_t2 (List.mem_of_getElem? (i := 239) rfl)) rfl
/-! ModalDesk$Reader.isOpening(I)Z -/
def zr_X5_isOpening : Room := { frames := 1, cells := 0, slots := 0, locals := 20 }
def zc_X5_isOpening : Cond := .code yX5_isOpening cX5_isOpening 1 (some .boolean)
def zf_X5_isOpening_13 (N : Nat) (z : Nat → Nat) (S : mq_St) : Option (Int32) := (mq_cz ((1 : Int32)) (some ((1 : Int32))))
def zf_X5_isOpening (N : Nat) (z : Nat → Nat) (v0 : Int32) (S : mq_St) : Option (Int32) := (if v0 = (40 : Int32) then (zf_X5_isOpening_13 N z S) else (mq_cp (zf_X5_isPrefix N z (v0) S) (fun q1 => (if q1 = (0 : Int32) then (mq_cz ((0 : Int32)) (some ((0 : Int32)))) else (zf_X5_isOpening_13 N z S)))))
set_option maxHeartbeats 4000000 in
set_option maxRecDepth 100000 in
theorem zw_X5_isOpening_13 {p : Program} {l : Launch} {e : Env} {s : State} {m : MethodId} {args : Array Value} {below : List Frame} {meth : Method} {c : Code} {A : Nat → Prop} {D : va_G} {a z : Nat → Nat} {cI cL cB cZ : ClassId} {Q : State → Prop} {N : Nat} {S : mq_St} {res : Int32} (C : mq_C p s m args c A D cI cL cB cZ cX5_isOpening 1 RX5 zc_X5_isOpening) (hret : ∀ (H : Heap) (locs : List Loc) (ls : Array Slot) (pc : Nat), decode cX5_isOpening pc = .ok (.ireturn, 1) → narrow .boolean (.int res) = .int res → va_P D vwCl (wd_0 a cI cL cB cZ z S) H → va_D A (wd_0 a cI cL cB cZ z S) → va_S A s.heap H locs → W p l e zr_X5_isOpening s m args below meth c H locs 0 0 Q (F0 m pc ls [.int res])) (H : Heap) (locs : List Loc) (ls : Array Slot) (h : zf_X5_isOpening_13 N z S = some res) (hl : lv_has ls 1 []) (hP : va_P D vwCl (wd_0 a cI cL cB cZ z S) H) (hD : va_D A (wd_0 a cI cL cB cZ z S)) (hS : va_S A s.heap H locs) : W p l e zr_X5_isOpening s m args below meth c H locs 0 0 Q (F0 m 13 ls []) := by
  obtain ⟨hx, hb, hml, hown, hts, hK, hA⟩ := id C
  unfold zf_X5_isOpening_13 at h
  refine lv_iconst (v := (1 : Int32)) hx hb dX5_isOpening_13 (by decide) ?_
  refine lv_goto (tgt := 18) hx hb dX5_isOpening_14 (by decide) ?_
  have hz6 := mq_cz_in h
  replace h := mq_cz_go h
  cases h
  exact hret H locs ls 18 dX5_isOpening_18 hz6.1 hP hD hS
set_option maxHeartbeats 4000000 in
set_option maxRecDepth 100000 in
theorem zw_X5_isOpening_0 {p : Program} {l : Launch} {e : Env} {s : State} {m : MethodId} {args : Array Value} {below : List Frame} {meth : Method} {c : Code} {A : Nat → Prop} {D : va_G} {a z : Nat → Nat} {cI cL cB cZ : ClassId} {Q : State → Prop} {N : Nat} {S : mq_St} {res : Int32} (C : mq_C p s m args c A D cI cL cB cZ cX5_isOpening 1 RX5 zc_X5_isOpening) (hret : ∀ (H : Heap) (locs : List Loc) (ls : Array Slot) (pc : Nat), decode cX5_isOpening pc = .ok (.ireturn, 1) → narrow .boolean (.int res) = .int res → va_P D vwCl (wd_0 a cI cL cB cZ z S) H → va_D A (wd_0 a cI cL cB cZ z S) → va_S A s.heap H locs → W p l e zr_X5_isOpening s m args below meth c H locs 0 0 Q (F0 m pc ls [.int res])) (v0 : Int32) (H : Heap) (locs : List Loc) (ls : Array Slot) (h : zf_X5_isOpening N z v0 S = some res) (hl : lv_has ls 1 [(0, .int (v0))]) (hP : va_P D vwCl (wd_0 a cI cL cB cZ z S) H) (hD : va_D A (wd_0 a cI cL cB cZ z S)) (hS : va_S A s.heap H locs) : W p l e zr_X5_isOpening s m args below meth c H locs 0 0 Q (F0 m 0 ls []) := by
  obtain ⟨hx, hb, hml, hown, hts, hK, hA⟩ := id C
  unfold zf_X5_isOpening at h
  refine lv_iload_n hx hb dX5_isOpening_0 rfl (lv_at hl 0 rfl) ?_
  refine lv_bipush (v := (40 : Int32)) hx hb dX5_isOpening_1 (by decide) ?_
  refine lv_icmp_eq (tgt := 13) hx hb dX5_isOpening_3 (by decide) (fun c5 => ?_) (fun c5 => ?_)
  · replace h := mq_it c5 h
    exact zw_X5_isOpening_13 C hret H locs ls h (lv_sub hl [] rfl) hP hD hS
  · replace h := mq_if c5 h
    refine lv_iload_n hx hb dX5_isOpening_6 rfl (lv_at hl 0 rfl) ?_
    obtain ⟨q1, hc2, h⟩ := mq_cp_go h
    refine zk_X5_isPrefix C zt_m_X5_143 ⟨by decide, by decide⟩ hc2 hP hD hS hl.1 (Nat.le_of_ble_eq_true rfl) dX5_isOpening_7 (fun H locs hP hD hS => ?_)
    refine lv_if_eq (tgt := 17) hx hb dX5_isOpening_10 (by decide) (fun c4 => ?_) (fun c4 => ?_)
    · replace h := mq_it c4 h
      refine lv_iconst (v := (0 : Int32)) hx hb dX5_isOpening_17 (by decide) ?_
      have hz3 := mq_cz_in h
      replace h := mq_cz_go h
      cases h
      exact hret H locs ls 18 dX5_isOpening_18 hz3.1 hP hD hS
    · replace h := mq_if c4 h
      exact zw_X5_isOpening_13 C hret H locs ls h (lv_sub hl [] rfl) hP hD hS
set_option maxHeartbeats 4000000 in
set_option maxRecDepth 100000 in
theorem zm_X5_isOpening (l : Launch) (D : va_G) (a z : Nat → Nat) (cI cL cB cZ : ClassId) (sz N : Nat) (v0 : Int32) (S : mq_St) (res : Int32) (h : zf_X5_isOpening N z v0 S = some res) : Met l yX5_isOpening (zc_X5_isOpening :: mq_T) zr_X5_isOpening (va_Pc [.int (v0)] (fun U => U.heap.size = sz ∧ va_P D vwCl (wd_0 a cI cL cB cZ z S) U.heap ∧ va_K D vwCl (mq_tys cI cL cB cZ) U ∧ va_D (fun _ => True) (wd_0 a cI cL cB cZ z S))) (va_Qi (fun (r : Int32) (u : mq_St) => r = res ∧ u = S) (fun u t => va_P D vwCl (wd_0 a cI cL cB cZ z u) t.heap ∧ va_K D vwCl (mq_tys cI cL cB cZ) t ∧ va_D (va_A (wd_0 a cI cL cB cZ z S) sz) (wd_0 a cI cL cB cZ z u)) (va_A (wd_0 a cI cL cB cZ z S) sz)) 0 0 (va_A (wd_0 a cI cL cB cZ z S) sz) := by
  refine Met.ofW (cc := cX5_isOpening) (maxL := 1) (ret := (some .boolean)) (by decide) rfl ?_
  intro p e s m args below meth c s₁ B hml hv
  obtain ⟨rfl, hsz, hP, hK, hD0⟩ := hv
  have hr := B.returns
  have hlocks := B.notSynchronized
  have hts := atoms_spec (ws := zc_X5_isOpening :: mq_T) B.pre
  have hown : s.vm.findClass RX5 = some m.cls := findClass_of_methodNamed B.named
  subst hsz
  have hD := hD0.self (sz := s.heap.size)
  generalize hAe : va_A (wd_0 a cI cL cB cZ z S) s.heap.size = A at hD ⊢
  have hA : ∀ q : Nat, s.heap.size ≤ q → A q := fun q h => by rw [← hAe]; exact Or.inr h
  have hl := lv_entry ([.int (v0)]) (n := 1) (Nat.le_of_ble_eq_true rfl)
  rw [lg_entry_eq]
  generalize (lg_sl ([.int (v0)]) ++ List.replicate (1 - (lg_sl ([.int (v0)])).length) Slot.unset).toArray = ls at hl ⊢
  have hl : lv_has ls 1 [(0, .int (v0))] := hl
  refine zw_X5_isOpening_0 (A := A) ⟨B.exec, B.bytes, hml, hown, hts, hK, hA⟩ (fun H locs ls pc dg hz hP hD hS => ?_) v0 s.heap [] ls h hl hP hD va_S.rf
  exact W.zret B.exec B.bytes hr hz (fun t ht hW => ⟨⟨_, _, rfl, ⟨rfl, rfl⟩, by rw [ht]; exact hP, va_K.moved hW.alike hK, hD⟩, hS.F ht⟩) hS.2.2 dg
theorem zt_X5_isOpening_c : zc_X5_isOpening ∈ mq_T := mq_T_mem (mq_t2 (List.mem_of_getElem? (i := 238) rfl)) rfl
theorem zt_X5_isOpening_s : Cond.static yX5_isOpening ∈ mq_T := mq_T_mem (mq_t2 (List.mem_of_getElem? (i := 237) rfl)) rfl
set_option maxHeartbeats 4000000 in
theorem zv_X5_isOpening {p : Program} {l : Launch} {e : Env} {R : Room} {s : State} {m : MethodId} {args : Array Value} {below : List Frame} {meth : Method} {c : Code} {A : Nat → Prop} {D : va_G} {a z : Nat → Nat} {cI cL cB cZ : ClassId} {Q : State → Prop} {cc : ByteArray} {nL idx pc N : Nat} {own : String} {c1 : Cond} {H : Heap} {locs : List Loc} {ls : Array Slot} {rest : List Value} {S : mq_St} {res : Int32} {v0 : Int32} {ws : va_W} (is : List Nat) (C : mq_C p s m args c A D cI cL cB cZ cc nL own c1) (hlk : Cond.methodLink own idx yX5_isOpening ∈ mq_T) (hR : zr_X5_isOpening.frames + 1 ≤ R.frames ∧ 8 + (1 + 11) + zr_X5_isOpening.locals ≤ R.locals) (h : zf_X5_isOpening N z v0 S = some res) (hC : is.map (fun i => ws[i]?) = (wd_0 a cI cL cB cZ z S).map some) (hnd : va_nd is = true) (hP : va_P D vwCl ws H) (hD : va_D A ws) (hS : va_S A s.heap H locs) (hls : ls.size = nL) (hrest : (rest.map fun v => v.category).sum ≤ 8) (hdg : decode cc pc = .ok (.invokestatic idx, 3)) (kk : ∀ (H1 : Heap) (locs1 : List Loc), va_P D vwCl ws H1 → va_D A ws → va_S A s.heap H1 locs1 → W p l e R s m args below meth c H1 locs1 0 0 Q (F0 m (pc + 3) ls (.int res :: rest))) : W p l e R s m args below meth c H locs 0 0 Q (F0 m pc ls (.int (v0) :: rest)) := by
  obtain ⟨hx, hb, hml, hown, hts, hK, hA⟩ := C
  have hPc := mq_subP hP is hC
  have hDc := hD.sub is hnd hC
  have hFc := va_free hD hS hA is hC
  refine va_calli (va_runS (As := [.int (v0)]) (rest := rest) ⟨hx, hb, hml, hown, hts⟩ (zm_X5_isOpening l D a z cI cL cB cZ H.size N v0 S res h) (va_cwS 1 hts (mq_goodL (mq_wsS hlk zt_X5_isOpening_s zt_ini_X5 zt_X5_isOpening_c)) rfl rfl rfl (by decide +kernel) hR) ⟨fun a U g mk q => ⟨q.1, q.2.1, q.2.2.1, va_K.moved (u := U) (U := U.calling g mk a) (Vm.Alike.refl U.vm) q.2.2.2.1, q.2.2.2.2⟩, fun U hU hW => ⟨rfl, by rw [hU], by rw [hU]; exact hPc, va_K.moved hW.alike hK, hDc.weaken (fun _ _ _ _ => trivial)⟩⟩ rfl rfl hls rfl (lv_room hrest) hdg ⟨Nat.zero_le _, Nat.zero_le _⟩) hS (fun q _ h => hFc q h) hFc (fun r u t H1 locs ht hvm hw1 hB hz1 hk1 hS => ?_)
  obtain ⟨rfl, rfl⟩ := hw1
  obtain ⟨hP1, hK1, hD1⟩ := hB
  rw [ht] at hP1
  obtain ⟨hP2, hD2⟩ := mq_join hP hD is hC rfl hk1 hP1
  rw [mq_setM_same is _ ws hC] at hP2 hD2
  exact kk H1 locs hP2 hD2 hS
/-! ModalDesk$Reader.rankOf(I)I -/
def zr_X5_rankOf : Room := { frames := 0, cells := 0, slots := 0, locals := 0 }
def zc_X5_rankOf : Cond := .code yX5_rankOf cX5_rankOf 1 (some .int)
def zf_X5_rankOf (N : Nat) (z : Nat → Nat) (v0 : Int32) (S : mq_St) : Option (Int32) := (if v0 = 38 then (some ((4 : Int32))) else (if v0 = 61 then (some ((1 : Int32))) else (if v0 = 62 then (some ((2 : Int32))) else (if v0 = 124 then (some ((3 : Int32))) else (some ((0 : Int32)))))))
set_option maxHeartbeats 4000000 in
set_option maxRecDepth 100000 in
theorem zw_X5_rankOf_0 {p : Program} {l : Launch} {e : Env} {s : State} {m : MethodId} {args : Array Value} {below : List Frame} {meth : Method} {c : Code} {A : Nat → Prop} {D : va_G} {a z : Nat → Nat} {cI cL cB cZ : ClassId} {Q : State → Prop} {N : Nat} {S : mq_St} {res : Int32} (C : mq_C p s m args c A D cI cL cB cZ cX5_rankOf 1 RX5 zc_X5_rankOf) (hret : ∀ (H : Heap) (locs : List Loc) (ls : Array Slot) (pc : Nat), decode cX5_rankOf pc = .ok (.ireturn, 1) → va_P D vwCl (wd_0 a cI cL cB cZ z S) H → va_D A (wd_0 a cI cL cB cZ z S) → va_S A s.heap H locs → W p l e zr_X5_rankOf s m args below meth c H locs 0 0 Q (F0 m pc ls [.int res])) (v0 : Int32) (H : Heap) (locs : List Loc) (ls : Array Slot) (h : zf_X5_rankOf N z v0 S = some res) (hl : lv_has ls 1 [(0, .int (v0))]) (hP : va_P D vwCl (wd_0 a cI cL cB cZ z S) H) (hD : va_D A (wd_0 a cI cL cB cZ z S)) (hS : va_S A s.heap H locs) : W p l e zr_X5_rankOf s m args below meth c H locs 0 0 Q (F0 m 0 ls []) := by
  obtain ⟨hx, hb, hml, hown, hts, hK, hA⟩ := id C
  unfold zf_X5_rankOf at h
  refine lv_iload_n hx hb dX5_rankOf_0 rfl (lv_at hl 0 rfl) ?_
  by_cases c1 : v0 = 38
  · refine lv_lookup (off := 43) (tgt := 44) hx hb dX5_rankOf_1 (by decide) (by rw [c1]; decide) (by decide) ?_
    replace h := mq_it c1 h
    refine lv_iconst (v := (4 : Int32)) hx hb dX5_rankOf_44 (by decide) ?_
    cases h
    exact hret H locs ls 45 dX5_rankOf_45 hP hD hS
  replace h := mq_if c1 h
  by_cases c2 : v0 = 61
  · refine lv_lookup (off := 49) (tgt := 50) hx hb dX5_rankOf_1 (by decide) (by rw [c2]; decide) (by decide) ?_
    replace h := mq_it c2 h
    refine lv_iconst (v := (1 : Int32)) hx hb dX5_rankOf_50 (by decide) ?_
    cases h
    exact hret H locs ls 51 dX5_rankOf_51 hP hD hS
  replace h := mq_if c2 h
  by_cases c3 : v0 = 62
  · refine lv_lookup (off := 47) (tgt := 48) hx hb dX5_rankOf_1 (by decide) (by rw [c3]; decide) (by decide) ?_
    replace h := mq_it c3 h
    refine lv_iconst (v := (2 : Int32)) hx hb dX5_rankOf_48 (by decide) ?_
    cases h
    exact hret H locs ls 49 dX5_rankOf_49 hP hD hS
  replace h := mq_if c3 h
  by_cases c4 : v0 = 124
  · refine lv_lookup (off := 45) (tgt := 46) hx hb dX5_rankOf_1 (by decide) (by rw [c4]; decide) (by decide) ?_
    replace h := mq_it c4 h
    refine lv_iconst (v := (3 : Int32)) hx hb dX5_rankOf_46 (by decide) ?_
    cases h
    exact hret H locs ls 47 dX5_rankOf_47 hP hD hS
  replace h := mq_if c4 h
  refine lv_lookup (off := 51) (tgt := 52) hx hb dX5_rankOf_1 (by decide) (by show Op.lookupswitch.offset [(38, 43), (61, 49), (62, 47), (124, 45)] 51 _ = _; rw [lv_osw c1 (show Int32.toInt 38 = 38 by decide), lv_osw c2 (show Int32.toInt 61 = 61 by decide), lv_osw c3 (show Int32.toInt 62 = 62 by decide), lv_osw c4 (show Int32.toInt 124 = 124 by decide)]; rfl) (by decide) ?_
  refine lv_iconst (v := (0 : Int32)) hx hb dX5_rankOf_52 (by decide) ?_
  cases h
  exact hret H locs ls 53 dX5_rankOf_53 hP hD hS
set_option maxHeartbeats 4000000 in
set_option maxRecDepth 100000 in
theorem zm_X5_rankOf (l : Launch) (D : va_G) (a z : Nat → Nat) (cI cL cB cZ : ClassId) (sz N : Nat) (v0 : Int32) (S : mq_St) (res : Int32) (h : zf_X5_rankOf N z v0 S = some res) : Met l yX5_rankOf (zc_X5_rankOf :: mq_T) zr_X5_rankOf (va_Pc [.int (v0)] (fun U => U.heap.size = sz ∧ va_P D vwCl (wd_0 a cI cL cB cZ z S) U.heap ∧ va_K D vwCl (mq_tys cI cL cB cZ) U ∧ va_D (fun _ => True) (wd_0 a cI cL cB cZ z S))) (va_Qi (fun (r : Int32) (u : mq_St) => r = res ∧ u = S) (fun u t => va_P D vwCl (wd_0 a cI cL cB cZ z u) t.heap ∧ va_K D vwCl (mq_tys cI cL cB cZ) t ∧ va_D (va_A (wd_0 a cI cL cB cZ z S) sz) (wd_0 a cI cL cB cZ z u)) (va_A (wd_0 a cI cL cB cZ z S) sz)) 0 0 (va_A (wd_0 a cI cL cB cZ z S) sz) := by
  refine Met.ofW (cc := cX5_rankOf) (maxL := 1) (ret := (some .int)) (by decide) rfl ?_
  intro p e s m args below meth c s₁ B hml hv
  obtain ⟨rfl, hsz, hP, hK, hD0⟩ := hv
  have hr := B.returns
  have hlocks := B.notSynchronized
  have hts := atoms_spec (ws := zc_X5_rankOf :: mq_T) B.pre
  have hown : s.vm.findClass RX5 = some m.cls := findClass_of_methodNamed B.named
  subst hsz
  have hD := hD0.self (sz := s.heap.size)
  generalize hAe : va_A (wd_0 a cI cL cB cZ z S) s.heap.size = A at hD ⊢
  have hA : ∀ q : Nat, s.heap.size ≤ q → A q := fun q h => by rw [← hAe]; exact Or.inr h
  have hl := lv_entry ([.int (v0)]) (n := 1) (Nat.le_of_ble_eq_true rfl)
  rw [lg_entry_eq]
  generalize (lg_sl ([.int (v0)]) ++ List.replicate (1 - (lg_sl ([.int (v0)])).length) Slot.unset).toArray = ls at hl ⊢
  have hl : lv_has ls 1 [(0, .int (v0))] := hl
  refine zw_X5_rankOf_0 (A := A) ⟨B.exec, B.bytes, hml, hown, hts, hK, hA⟩ (fun H locs ls pc dg hP hD hS => ?_) v0 s.heap [] ls h hl hP hD va_S.rf
  exact W.iret B.exec B.bytes hr (fun t ht hW => ⟨⟨_, _, rfl, ⟨rfl, rfl⟩, by rw [ht]; exact hP, va_K.moved hW.alike hK, hD⟩, hS.F ht⟩) hS.2.2 dg
theorem zt_X5_rankOf_c : zc_X5_rankOf ∈ mq_T := mq_T_mem (mq_t3 (List.mem_of_getElem? (i := 4) rfl)) rfl
theorem zt_X5_rankOf_s : Cond.static yX5_rankOf ∈ mq_T := mq_T_mem (mq_t3 (List.mem_of_getElem? (i := 3) rfl)) rfl
set_option maxHeartbeats 4000000 in
theorem zv_X5_rankOf {p : Program} {l : Launch} {e : Env} {R : Room} {s : State} {m : MethodId} {args : Array Value} {below : List Frame} {meth : Method} {c : Code} {A : Nat → Prop} {D : va_G} {a z : Nat → Nat} {cI cL cB cZ : ClassId} {Q : State → Prop} {cc : ByteArray} {nL idx pc N : Nat} {own : String} {c1 : Cond} {H : Heap} {locs : List Loc} {ls : Array Slot} {rest : List Value} {S : mq_St} {res : Int32} {v0 : Int32} {ws : va_W} (is : List Nat) (C : mq_C p s m args c A D cI cL cB cZ cc nL own c1) (hlk : Cond.methodLink own idx yX5_rankOf ∈ mq_T) (hR : zr_X5_rankOf.frames + 1 ≤ R.frames ∧ 8 + (1 + 11) + zr_X5_rankOf.locals ≤ R.locals) (h : zf_X5_rankOf N z v0 S = some res) (hC : is.map (fun i => ws[i]?) = (wd_0 a cI cL cB cZ z S).map some) (hnd : va_nd is = true) (hP : va_P D vwCl ws H) (hD : va_D A ws) (hS : va_S A s.heap H locs) (hls : ls.size = nL) (hrest : (rest.map fun v => v.category).sum ≤ 8) (hdg : decode cc pc = .ok (.invokestatic idx, 3)) (kk : ∀ (H1 : Heap) (locs1 : List Loc), va_P D vwCl ws H1 → va_D A ws → va_S A s.heap H1 locs1 → W p l e R s m args below meth c H1 locs1 0 0 Q (F0 m (pc + 3) ls (.int res :: rest))) : W p l e R s m args below meth c H locs 0 0 Q (F0 m pc ls (.int (v0) :: rest)) := by
  obtain ⟨hx, hb, hml, hown, hts, hK, hA⟩ := C
  have hPc := mq_subP hP is hC
  have hDc := hD.sub is hnd hC
  have hFc := va_free hD hS hA is hC
  refine va_calli (va_runS (As := [.int (v0)]) (rest := rest) ⟨hx, hb, hml, hown, hts⟩ (zm_X5_rankOf l D a z cI cL cB cZ H.size N v0 S res h) (va_cwS 1 hts (mq_goodL (mq_wsS hlk zt_X5_rankOf_s zt_ini_X5 zt_X5_rankOf_c)) rfl rfl rfl (by decide +kernel) hR) ⟨fun a U g mk q => ⟨q.1, q.2.1, q.2.2.1, va_K.moved (u := U) (U := U.calling g mk a) (Vm.Alike.refl U.vm) q.2.2.2.1, q.2.2.2.2⟩, fun U hU hW => ⟨rfl, by rw [hU], by rw [hU]; exact hPc, va_K.moved hW.alike hK, hDc.weaken (fun _ _ _ _ => trivial)⟩⟩ rfl rfl hls rfl (lv_room hrest) hdg ⟨Nat.zero_le _, Nat.zero_le _⟩) hS (fun q _ h => hFc q h) hFc (fun r u t H1 locs ht hvm hw1 hB hz1 hk1 hS => ?_)
  obtain ⟨rfl, rfl⟩ := hw1
  obtain ⟨hP1, hK1, hD1⟩ := hB
  rw [ht] at hP1
  obtain ⟨hP2, hD2⟩ := mq_join hP hD is hC rfl hk1 hP1
  rw [mq_setM_same is _ ws hC] at hP2 hD2
  exact kk H1 locs hP2 hD2 hS
theorem zt_f_X5_80 : Cond.fieldLink RX5 80 "ModalDesk$Reader" "operandDue" "Z" ∈ mq_T := mq_T_mem (mq_t1 (List.mem_of_getElem? (i := 145) rfl)) rfl
theorem zi_X5 (c1 : Cond) : ∀ w ∈ u_ws RX5 TX5 12, w ∈ c1 :: mq_T := fun w h => List.mem_cons_of_mem _ (mq_T_mem (mq_inl [(1, 149), (1, 151), (1, 153), (1, 155), (1, 157), (1, 159), (1, 161), (1, 163), (1, 165), (1, 167), (1, 169), (1, 171)] (by decide +kernel) w h) ((by decide +kernel : ∀ w ∈ u_ws RX5 TX5 12, goodWord w = true) w h))
theorem zt_m_X5_122 : Cond.methodLink RX5 122 yX5_rankOf ∈ mq_T := mq_T_mem (mq_t3 (List.mem_of_getElem? (i := 2) rfl)) rfl
theorem zt_f_X5_77 : Cond.fieldLink RX5 77 "ModalDesk$Reader" "brackets" "I" ∈ mq_T := mq_T_mem (mq_t1 (List.mem_of_getElem? (i := 144) rfl)) rfl
theorem zt_m_X5_107 : Cond.methodLink RX5 107 yX5_isAtom ∈ mq_T := mq_T_mem (mq_t2 (List.mem_of_getElem? (i := 233) rfl)) rfl
theorem zt_m_X5_101 : Cond.methodLink RX5 101 yX5_isOpening ∈ mq_T := mq_T_mem (mq_t2 (List.mem_of_getElem? (i := 236) rfl)) rfl
/-! ModalDesk$Reader.canStand(I)Z -/
def zr_X5_canStand : Room := { frames := 2, cells := 0, slots := 0, locals := 40 }
def zc_X5_canStand : Cond := .code yX5_canStand cX5_canStand 2 (some .boolean)
def zf_X5_canStand_21 (N : Nat) (z : Nat → Nat) (S : mq_St) : Option (Int32) := (mq_cz ((1 : Int32)) (some ((1 : Int32))))
def zf_X5_canStand_47 (N : Nat) (z : Nat → Nat) (S : mq_St) : Option (Int32) := (mq_cz ((1 : Int32)) (some ((1 : Int32))))
def zf_X5_canStand (N : Nat) (z : Nat → Nat) (v1 : Int32) (S : mq_St) : Option (Int32) := (if (S.1 9) = (0 : Int32) then (mq_cp (zf_X5_rankOf N z (v1) (mq_pull S [] [] [])) (fun q1 => (if (0 : Int32) < q1 then (zf_X5_canStand_47 N z S) else (if v1 = (41 : Int32) then (if (S.1 8) ≤ (0 : Int32) then (mq_cz ((0 : Int32)) (some ((0 : Int32)))) else (zf_X5_canStand_47 N z S)) else (mq_cz ((0 : Int32)) (some ((0 : Int32)))))))) else (mq_cp (zf_X5_isAtom N z (v1) (mq_pull S [] [] [])) (fun q8 => (if q8 = (0 : Int32) then (mq_cp (zf_X5_isOpening N z (v1) (mq_pull S [] [] [])) (fun q10 => (if q10 = (0 : Int32) then (mq_cz ((0 : Int32)) (some ((0 : Int32)))) else (zf_X5_canStand_21 N z S)))) else (zf_X5_canStand_21 N z S)))))
set_option maxHeartbeats 4000000 in
set_option maxRecDepth 100000 in
theorem zw_X5_canStand_21 {p : Program} {l : Launch} {e : Env} {s : State} {m : MethodId} {args : Array Value} {below : List Frame} {meth : Method} {c : Code} {A : Nat → Prop} {D : va_G} {a z : Nat → Nat} {cI cL cB cZ : ClassId} {Q : State → Prop} {N : Nat} {S : mq_St} {res : Int32} (C : mq_C p s m args c A D cI cL cB cZ cX5_canStand 2 RX5 zc_X5_canStand) (hret : ∀ (H : Heap) (locs : List Loc) (ls : Array Slot) (pc : Nat), decode cX5_canStand pc = .ok (.ireturn, 1) → narrow .boolean (.int res) = .int res → va_P D vwCl (wd_C a cI cL cB cZ z S) H → va_D A (wd_C a cI cL cB cZ z S) → va_S A s.heap H locs → W p l e zr_X5_canStand s m args below meth c H locs 0 0 Q (F0 m pc ls [.int res])) (H : Heap) (locs : List Loc) (ls : Array Slot) (h : zf_X5_canStand_21 N z S = some res) (hl : lv_has ls 2 []) (hP : va_P D vwCl (wd_C a cI cL cB cZ z S) H) (hD : va_D A (wd_C a cI cL cB cZ z S)) (hS : va_S A s.heap H locs) : W p l e zr_X5_canStand s m args below meth c H locs 0 0 Q (F0 m 21 ls []) := by
  obtain ⟨hx, hb, hml, hown, hts, hK, hA⟩ := id C
  unfold zf_X5_canStand_21 at h
  refine lv_iconst (v := (1 : Int32)) hx hb dX5_canStand_21 (by decide) ?_
  refine lv_goto (tgt := 26) hx hb dX5_canStand_22 (by decide) ?_
  have hz16 := mq_cz_in h
  replace h := mq_cz_go h
  cases h
  exact hret H locs ls 26 dX5_canStand_26 hz16.1 hP hD hS
set_option maxHeartbeats 4000000 in
set_option maxRecDepth 100000 in
theorem zw_X5_canStand_47 {p : Program} {l : Launch} {e : Env} {s : State} {m : MethodId} {args : Array Value} {below : List Frame} {meth : Method} {c : Code} {A : Nat → Prop} {D : va_G} {a z : Nat → Nat} {cI cL cB cZ : ClassId} {Q : State → Prop} {N : Nat} {S : mq_St} {res : Int32} (C : mq_C p s m args c A D cI cL cB cZ cX5_canStand 2 RX5 zc_X5_canStand) (hret : ∀ (H : Heap) (locs : List Loc) (ls : Array Slot) (pc : Nat), decode cX5_canStand pc = .ok (.ireturn, 1) → narrow .boolean (.int res) = .int res → va_P D vwCl (wd_C a cI cL cB cZ z S) H → va_D A (wd_C a cI cL cB cZ z S) → va_S A s.heap H locs → W p l e zr_X5_canStand s m args below meth c H locs 0 0 Q (F0 m pc ls [.int res])) (H : Heap) (locs : List Loc) (ls : Array Slot) (h : zf_X5_canStand_47 N z S = some res) (hl : lv_has ls 2 []) (hP : va_P D vwCl (wd_C a cI cL cB cZ z S) H) (hD : va_D A (wd_C a cI cL cB cZ z S)) (hS : va_S A s.heap H locs) : W p l e zr_X5_canStand s m args below meth c H locs 0 0 Q (F0 m 47 ls []) := by
  obtain ⟨hx, hb, hml, hown, hts, hK, hA⟩ := id C
  unfold zf_X5_canStand_47 at h
  refine lv_iconst (v := (1 : Int32)) hx hb dX5_canStand_47 (by decide) ?_
  refine lv_goto (tgt := 52) hx hb dX5_canStand_48 (by decide) ?_
  have hz17 := mq_cz_in h
  replace h := mq_cz_go h
  cases h
  exact hret H locs ls 52 dX5_canStand_52 hz17.1 hP hD hS
set_option maxHeartbeats 4000000 in
set_option maxRecDepth 100000 in
theorem zw_X5_canStand_0 {p : Program} {l : Launch} {e : Env} {s : State} {m : MethodId} {args : Array Value} {below : List Frame} {meth : Method} {c : Code} {A : Nat → Prop} {D : va_G} {a z : Nat → Nat} {cI cL cB cZ : ClassId} {Q : State → Prop} {N : Nat} {S : mq_St} {res : Int32} (C : mq_C p s m args c A D cI cL cB cZ cX5_canStand 2 RX5 zc_X5_canStand) (hret : ∀ (H : Heap) (locs : List Loc) (ls : Array Slot) (pc : Nat), decode cX5_canStand pc = .ok (.ireturn, 1) → narrow .boolean (.int res) = .int res → va_P D vwCl (wd_C a cI cL cB cZ z S) H → va_D A (wd_C a cI cL cB cZ z S) → va_S A s.heap H locs → W p l e zr_X5_canStand s m args below meth c H locs 0 0 Q (F0 m pc ls [.int res])) (v1 : Int32) (H : Heap) (locs : List Loc) (ls : Array Slot) (h : zf_X5_canStand N z v1 S = some res) (hl : lv_has ls 2 [(0, .ref (a 20)), (1, .int (v1))]) (hP : va_P D vwCl (wd_C a cI cL cB cZ z S) H) (hD : va_D A (wd_C a cI cL cB cZ z S)) (hS : va_S A s.heap H locs) : W p l e zr_X5_canStand s m args below meth c H locs 0 0 Q (F0 m 0 ls []) := by
  obtain ⟨hx, hb, hml, hown, hts, hK, hA⟩ := id C
  unfold zf_X5_canStand at h
  refine lv_aload_n hx hb dX5_canStand_0 rfl (lv_at hl 0 rfl) ?_
  refine va_get (D := D) (ci := 5) (v := .int ((S.1 9))) (C := RX5) (T := TX5) (N := 12) hx hb hts (zi_X5 _) hown hK hP 20 rfl rfl 8 (by decide) (hts _ (List.mem_cons_of_mem _ zt_f_X5_80)) (fun _ h9 => h9) rfl dX5_canStand_1 ?_
  refine lv_if_eq (tgt := 27) hx hb dX5_canStand_4 (by decide) (fun c15 => ?_) (fun c15 => ?_)
  · replace h := mq_it c15 h
    refine lv_iload_n hx hb dX5_canStand_27 rfl (lv_at hl 1 rfl) ?_
    obtain ⟨q1, hc2, h⟩ := mq_cp_go h
    refine zv_X5_rankOf (a := mq_ad a []) (z := z) [] C zt_m_X5_122 ⟨by decide, by decide⟩ hc2 rfl (by decide) hP hD hS hl.1 (Nat.le_of_ble_eq_true rfl) dX5_canStand_28 (fun H locs hP hD hS => ?_)
    refine lv_if_gt (tgt := 47) hx hb dX5_canStand_31 (by decide) (fun c7 => ?_) (fun c7 => ?_)
    · replace h := mq_it c7 h
      exact zw_X5_canStand_47 C hret H locs ls h (lv_sub hl [] rfl) hP hD hS
    · replace h := mq_if c7 h
      refine lv_iload_n hx hb dX5_canStand_34 rfl (lv_at hl 1 rfl) ?_
      refine lv_bipush (v := (41 : Int32)) hx hb dX5_canStand_35 (by decide) ?_
      refine lv_icmp_ne (tgt := 51) hx hb dX5_canStand_37 (by decide) (fun c6 => ?_) (fun c6 => ?_)
      · replace h := mq_if c6 h
        refine lv_iconst (v := (0 : Int32)) hx hb dX5_canStand_51 (by decide) ?_
        have hz3 := mq_cz_in h
        replace h := mq_cz_go h
        cases h
        exact hret H locs ls 52 dX5_canStand_52 hz3.1 hP hD hS
      · replace h := mq_it (by simpa using c6) h
        refine lv_aload_n hx hb dX5_canStand_40 rfl (lv_at hl 0 rfl) ?_
        refine va_get (D := D) (ci := 5) (v := .int ((S.1 8))) (C := RX5) (T := TX5) (N := 12) hx hb hts (zi_X5 _) hown hK hP 20 rfl rfl 7 (by decide) (hts _ (List.mem_cons_of_mem _ zt_f_X5_77)) (fun _ h9 => h9) rfl dX5_canStand_41 ?_
        refine lv_if_le (tgt := 51) hx hb dX5_canStand_44 (by decide) (fun c5 => ?_) (fun c5 => ?_)
        · replace h := mq_it c5 h
          refine lv_iconst (v := (0 : Int32)) hx hb dX5_canStand_51 (by decide) ?_
          have hz4 := mq_cz_in h
          replace h := mq_cz_go h
          cases h
          exact hret H locs ls 52 dX5_canStand_52 hz4.1 hP hD hS
        · replace h := mq_if c5 h
          exact zw_X5_canStand_47 C hret H locs ls h (lv_sub hl [] rfl) hP hD hS
  · replace h := mq_if c15 h
    refine lv_iload_n hx hb dX5_canStand_7 rfl (lv_at hl 1 rfl) ?_
    obtain ⟨q8, hc9, h⟩ := mq_cp_go h
    refine zv_X5_isAtom (a := mq_ad a []) (z := z) [] C zt_m_X5_107 ⟨by decide, by decide⟩ hc9 rfl (by decide) hP hD hS hl.1 (Nat.le_of_ble_eq_true rfl) dX5_canStand_8 (fun H locs hP hD hS => ?_)
    refine lv_if_ne (tgt := 21) hx hb dX5_canStand_11 (by decide) (fun c14 => ?_) (fun c14 => ?_)
    · replace h := mq_if c14 h
      exact zw_X5_canStand_21 C hret H locs ls h (lv_sub hl [] rfl) hP hD hS
    · replace h := mq_it (by simpa using c14) h
      refine lv_iload_n hx hb dX5_canStand_14 rfl (lv_at hl 1 rfl) ?_
      obtain ⟨q10, hc11, h⟩ := mq_cp_go h
      refine zv_X5_isOpening (a := mq_ad a []) (z := z) [] C zt_m_X5_101 ⟨by decide, by decide⟩ hc11 rfl (by decide) hP hD hS hl.1 (Nat.le_of_ble_eq_true rfl) dX5_canStand_15 (fun H locs hP hD hS => ?_)
      refine lv_if_eq (tgt := 25) hx hb dX5_canStand_18 (by decide) (fun c13 => ?_) (fun c13 => ?_)
      · replace h := mq_it c13 h
        refine lv_iconst (v := (0 : Int32)) hx hb dX5_canStand_25 (by decide) ?_
        have hz12 := mq_cz_in h
        replace h := mq_cz_go h
        cases h
        exact hret H locs ls 26 dX5_canStand_26 hz12.1 hP hD hS
      · replace h := mq_if c13 h
        exact zw_X5_canStand_21 C hret H locs ls h (lv_sub hl [] rfl) hP hD hS
set_option maxHeartbeats 4000000 in
set_option maxRecDepth 100000 in
theorem zm_X5_canStand (l : Launch) (D : va_G) (a z : Nat → Nat) (cI cL cB cZ : ClassId) (sz N : Nat) (v1 : Int32) (S : mq_St) (res : Int32) (h : zf_X5_canStand N z v1 S = some res) : Met l yX5_canStand (zc_X5_canStand :: mq_T) zr_X5_canStand (va_Pc [.ref (a 20), .int (v1)] (fun U => U.heap.size = sz ∧ va_P D vwCl (wd_C a cI cL cB cZ z S) U.heap ∧ va_K D vwCl (mq_tys cI cL cB cZ) U ∧ va_D (fun _ => True) (wd_C a cI cL cB cZ z S))) (va_Qi (fun (r : Int32) (u : mq_St) => r = res ∧ u = S) (fun u t => va_P D vwCl (wd_C a cI cL cB cZ z u) t.heap ∧ va_K D vwCl (mq_tys cI cL cB cZ) t ∧ va_D (va_A (wd_C a cI cL cB cZ z S) sz) (wd_C a cI cL cB cZ z u)) (va_A (wd_C a cI cL cB cZ z S) sz)) 0 0 (va_A (wd_C a cI cL cB cZ z S) sz) := by
  refine Met.ofW (cc := cX5_canStand) (maxL := 2) (ret := (some .boolean)) (by decide) rfl ?_
  intro p e s m args below meth c s₁ B hml hv
  obtain ⟨rfl, hsz, hP, hK, hD0⟩ := hv
  have hr := B.returns
  have hlocks := B.notSynchronized
  have hts := atoms_spec (ws := zc_X5_canStand :: mq_T) B.pre
  have hown : s.vm.findClass RX5 = some m.cls := findClass_of_methodNamed B.named
  subst hsz
  have hD := hD0.self (sz := s.heap.size)
  generalize hAe : va_A (wd_C a cI cL cB cZ z S) s.heap.size = A at hD ⊢
  have hA : ∀ q : Nat, s.heap.size ≤ q → A q := fun q h => by rw [← hAe]; exact Or.inr h
  have hl := lv_entry ([.ref (a 20), .int (v1)]) (n := 2) (Nat.le_of_ble_eq_true rfl)
  rw [lg_entry_eq]
  generalize (lg_sl ([.ref (a 20), .int (v1)]) ++ List.replicate (2 - (lg_sl ([.ref (a 20), .int (v1)])).length) Slot.unset).toArray = ls at hl ⊢
  have hl : lv_has ls 2 [(0, .ref (a 20)), (1, .int (v1))] := hl
  refine zw_X5_canStand_0 (A := A) ⟨B.exec, B.bytes, hml, hown, hts, hK, hA⟩ (fun H locs ls pc dg hz hP hD hS => ?_) v1 s.heap [] ls h hl hP hD va_S.rf
  exact W.zret B.exec B.bytes hr hz (fun t ht hW => ⟨⟨_, _, rfl, ⟨rfl, rfl⟩, by rw [ht]; exact hP, va_K.moved hW.alike hK, hD⟩, hS.F ht⟩) hS.2.2 dg
theorem zt_X5_canStand_c : zc_X5_canStand ∈ mq_T := mq_T_mem (mq_t2 (List.mem_of_getElem? (i := 232) rfl)) rfl
theorem zt_X5_canStand_i : Cond.instanceMethod yX5_canStand ∈ mq_T := mq_T_mem (mq_t2 (List.mem_of_getElem? (i := 231) rfl)) rfl
theorem zt_X5_canStand_s : Cond.selects RX5 yX5_canStand yX5_canStand ∈ mq_T := mq_T_at 6 (by decide +kernel)
set_option maxHeartbeats 4000000 in
theorem zk_X5_canStand {p : Program} {l : Launch} {e : Env} {R : Room} {s : State} {m : MethodId} {args : Array Value} {below : List Frame} {meth : Method} {c : Code} {A : Nat → Prop} {D : va_G} {a z : Nat → Nat} {cI cL cB cZ : ClassId} {Q : State → Prop} {cc : ByteArray} {nL idx pc N : Nat} {own : String} {c1 : Cond} {H : Heap} {locs : List Loc} {ls : Array Slot} {rest : List Value} {S : mq_St} {res : Int32} {v1 : Int32} (C : mq_C p s m args c A D cI cL cB cZ cc nL own c1) (hlk : Cond.methodLink own idx yX5_canStand ∈ mq_T) (hR : zr_X5_canStand.frames + 1 ≤ R.frames ∧ 8 + (2 + 11) + zr_X5_canStand.locals ≤ R.locals) (h : zf_X5_canStand N z v1 S = some res) (hP : va_P D vwCl (wd_C a cI cL cB cZ z S) H) (hD : va_D A (wd_C a cI cL cB cZ z S)) (hS : va_S A s.heap H locs) (hls : ls.size = nL) (hrest : (rest.map fun v => v.category).sum ≤ 8) (hdg : decode cc pc = .ok (.invokevirtual idx, 3)) (kk : ∀ (H1 : Heap) (locs1 : List Loc), va_P D vwCl (wd_C a cI cL cB cZ z S) H1 → va_D A (wd_C a cI cL cB cZ z S) → va_S A s.heap H1 locs1 → W p l e R s m args below meth c H1 locs1 0 0 Q (F0 m (pc + 3) ls (.int res :: rest))) : W p l e R s m args below meth c H locs 0 0 Q (F0 m pc ls (.int (v1) :: .ref (a 20) :: rest)) := by
  obtain ⟨hx, hb, hml, hown, hts, hK, hA⟩ := C
  have hFc := mq_freeI hD hS hA
  refine va_calli (va_runV (As := [.int (v1)]) (rest := rest) ⟨hx, hb, hml, hown, hts⟩ (zm_X5_canStand l D a z cI cL cB cZ H.size N v1 S res h) (cwV 1 hts (mq_goodL (mq_wsV hlk zt_X5_canStand_i zt_X5_canStand_s zt_ini_X5 zt_X5_canStand_c)) rfl rfl rfl (by decide +kernel) hR) ⟨fun a U g mk q => ⟨q.1, q.2.1, q.2.2.1, va_K.moved (u := U) (U := U.calling g mk a) (Vm.Alike.refl U.vm) q.2.2.2.1, q.2.2.2.2⟩, zy_C_20 hK hP, fun U hU hW => ⟨rfl, by rw [hU], by rw [hU]; exact hP, va_K.moved hW.alike hK, hD.weaken (fun _ _ _ _ => trivial)⟩⟩ rfl rfl hls rfl (lv_room hrest) hdg ⟨Nat.zero_le _, Nat.zero_le _⟩) hS (fun q _ h => hFc q h) hFc (fun r u t H1 locs ht hvm hw hB hz1 hk1 hS => ?_)
  obtain ⟨rfl, rfl⟩ := hw
  obtain ⟨hP1, hK1, hD1⟩ := hB
  rw [ht] at hP1
  exact kk H1 locs hP1 (hD1.weaken (fun _ _ _ h => hFc _ h)) hS
theorem zt_f_X5_30 : Cond.fieldLink RX5 30 "ModalDesk$Reader" "fault" "I" ∈ mq_T := mq_T_mem (mq_t1 (List.mem_of_getElem? (i := 147) rfl)) rfl
theorem zs_wd_C_i_20_11 (a z : Nat → Nat) (cI cL cB cZ : ClassId) (S : mq_St) (v : Int32) : (wd_C a cI cL cB cZ z S).set 20 (a 20, .inr (5, ([.ref (a 3), .ref (a 14), .ref (a 21), .ref (a 22), .int (S.1 5), .int (S.1 6), .int (S.1 7), .int (S.1 8), .int (S.1 9), .int (S.1 10), .int (S.1 11), .int (S.1 12)] : List Value).set 10 (.int v))) = (wd_C a cI cL cB cZ z (mq_si S 11 v)) := rfl
theorem zt_f_X5_18 : Cond.fieldLink RX5 18 "ModalDesk$Reader" "place" "I" ∈ mq_T := mq_T_mem (mq_t1 (List.mem_of_getElem? (i := 148) rfl)) rfl
theorem zs_wd_C_i_20_12 (a z : Nat → Nat) (cI cL cB cZ : ClassId) (S : mq_St) (v : Int32) : (wd_C a cI cL cB cZ z S).set 20 (a 20, .inr (5, ([.ref (a 3), .ref (a 14), .ref (a 21), .ref (a 22), .int (S.1 5), .int (S.1 6), .int (S.1 7), .int (S.1 8), .int (S.1 9), .int (S.1 10), .int (S.1 11), .int (S.1 12)] : List Value).set 11 (.int v))) = (wd_C a cI cL cB cZ z (mq_si S 12 v)) := rfl
/-! ModalDesk$Reader.fail(II)V -/
def zr_X5_fail : Room := { frames := 0, cells := 0, slots := 0, locals := 0 }
def zc_X5_fail : Cond := .code yX5_fail cX5_fail 3 none
def zf_X5_fail (N : Nat) (z : Nat → Nat) (v1 : Int32) (v2 : Int32) (S : mq_St) : Option (Unit × mq_St) := (mq_nS (mq_si S 11 (v1)) (fun S1 => (mq_nS (mq_si S1 12 (v2)) (fun S2 => (some ((), S2))))))
set_option maxHeartbeats 4000000 in
set_option maxRecDepth 100000 in
theorem zw_X5_fail_0 {p : Program} {l : Launch} {e : Env} {s : State} {m : MethodId} {args : Array Value} {below : List Frame} {meth : Method} {c : Code} {A : Nat → Prop} {D : va_G} {a z : Nat → Nat} {cI cL cB cZ : ClassId} {Q : State → Prop} {N : Nat} {res : Unit × mq_St} (C : mq_C p s m args c A D cI cL cB cZ cX5_fail 3 RX5 zc_X5_fail) (hret : ∀ (H : Heap) (locs : List Loc) (ls : Array Slot) (pc : Nat), decode cX5_fail pc = .ok (.return_, 1) → va_P D vwCl (wd_C a cI cL cB cZ z res.2) H → va_D A (wd_C a cI cL cB cZ z res.2) → va_S A s.heap H locs → W p l e zr_X5_fail s m args below meth c H locs 0 0 Q (F0 m pc ls [])) (v1 : Int32) (v2 : Int32) (S : mq_St) (H : Heap) (locs : List Loc) (ls : Array Slot) (h : zf_X5_fail N z v1 v2 S = some res) (hl : lv_has ls 3 [(0, .ref (a 20)), (1, .int (v1)), (2, .int (v2))]) (hP : va_P D vwCl (wd_C a cI cL cB cZ z S) H) (hD : va_D A (wd_C a cI cL cB cZ z S)) (hS : va_S A s.heap H locs) : W p l e zr_X5_fail s m args below meth c H locs 0 0 Q (F0 m 0 ls []) := by
  obtain ⟨hx, hb, hml, hown, hts, hK, hA⟩ := id C
  unfold zf_X5_fail at h
  refine lv_aload_n hx hb dX5_fail_0 rfl (lv_at hl 0 rfl) ?_
  refine lv_iload_n hx hb dX5_fail_1 rfl (lv_at hl 1 rfl) ?_
  refine mq_put (w := wd_C a cI cL cB cZ z) (S := S) (D := D) (ci := 5) (v := v1) (ty := .int) (C := RX5) (T := TX5) (N := 12) hx hb hts (zi_X5 _) tyX5 tyX5_ok nmX5 hown hK hP hD hS 20 rfl rfl 10 (by decide) (hts _ (List.mem_cons_of_mem _ zt_f_X5_30)) (fun _ h9 => h9) rfl (by decide +kernel) rfl rfl (Nat.le_of_ble_eq_true rfl) dX5_fail_2 11 (zs_wd_C_i_20_11 _ _ _ _ _ _ _ _) (fun S1 eS1 H locs hP hD hS => ?_)
  replace h := mq_nS_go eS1 h
  refine lv_aload_n hx hb dX5_fail_5 rfl (lv_at hl 0 rfl) ?_
  refine lv_iload_n hx hb dX5_fail_6 rfl (lv_at hl 2 rfl) ?_
  refine mq_put (w := wd_C a cI cL cB cZ z) (S := S1) (D := D) (ci := 5) (v := v2) (ty := .int) (C := RX5) (T := TX5) (N := 12) hx hb hts (zi_X5 _) tyX5 tyX5_ok nmX5 hown hK hP hD hS 20 rfl rfl 11 (by decide) (hts _ (List.mem_cons_of_mem _ zt_f_X5_18)) (fun _ h9 => h9) rfl (by decide +kernel) rfl rfl (Nat.le_of_ble_eq_true rfl) dX5_fail_7 12 (zs_wd_C_i_20_12 _ _ _ _ _ _ _ _) (fun S2 eS2 H locs hP hD hS => ?_)
  replace h := mq_nS_go eS2 h
  cases h
  exact hret H locs ls 10 dX5_fail_10 hP hD hS
set_option maxHeartbeats 4000000 in
set_option maxRecDepth 100000 in
theorem zm_X5_fail (l : Launch) (D : va_G) (a z : Nat → Nat) (cI cL cB cZ : ClassId) (sz N : Nat) (v1 : Int32) (v2 : Int32) (S : mq_St) (res : Unit × mq_St) (h : zf_X5_fail N z v1 v2 S = some res) : Met l yX5_fail (zc_X5_fail :: mq_T) zr_X5_fail (va_Pc [.ref (a 20), .int (v1), .int (v2)] (fun U => U.heap.size = sz ∧ va_P D vwCl (wd_C a cI cL cB cZ z S) U.heap ∧ va_K D vwCl (mq_tys cI cL cB cZ) U ∧ va_D (fun _ => True) (wd_C a cI cL cB cZ z S))) (va_Qv (fun u : mq_St => u = res.2) (fun u t => va_P D vwCl (wd_C a cI cL cB cZ z u) t.heap ∧ va_K D vwCl (mq_tys cI cL cB cZ) t ∧ va_D (va_A (wd_C a cI cL cB cZ z S) sz) (wd_C a cI cL cB cZ z u)) (va_A (wd_C a cI cL cB cZ z S) sz)) 0 0 (va_A (wd_C a cI cL cB cZ z S) sz) := by
  refine Met.ofW (cc := cX5_fail) (maxL := 3) (ret := none) (by decide) rfl ?_
  intro p e s m args below meth c s₁ B hml hv
  obtain ⟨rfl, hsz, hP, hK, hD0⟩ := hv
  have hr := B.returns
  have hlocks := B.notSynchronized
  have hts := atoms_spec (ws := zc_X5_fail :: mq_T) B.pre
  have hown : s.vm.findClass RX5 = some m.cls := findClass_of_methodNamed B.named
  subst hsz
  have hD := hD0.self (sz := s.heap.size)
  generalize hAe : va_A (wd_C a cI cL cB cZ z S) s.heap.size = A at hD ⊢
  have hA : ∀ q : Nat, s.heap.size ≤ q → A q := fun q h => by rw [← hAe]; exact Or.inr h
  have hl := lv_entry ([.ref (a 20), .int (v1), .int (v2)]) (n := 3) (Nat.le_of_ble_eq_true rfl)
  rw [lg_entry_eq]
  generalize (lg_sl ([.ref (a 20), .int (v1), .int (v2)]) ++ List.replicate (3 - (lg_sl ([.ref (a 20), .int (v1), .int (v2)])).length) Slot.unset).toArray = ls at hl ⊢
  have hl : lv_has ls 3 [(0, .ref (a 20)), (1, .int (v1)), (2, .int (v2))] := hl
  refine zw_X5_fail_0 (A := A) ⟨B.exec, B.bytes, hml, hown, hts, hK, hA⟩ (fun H locs ls pc dg hP hD hS => ?_) v1 v2 S s.heap [] ls h hl hP hD va_S.rf
  exact W.vret B.exec B.bytes hr (fun t ht hW => ⟨⟨_, rfl, rfl, by rw [ht]; exact hP, va_K.moved hW.alike hK, hD⟩, hS.F ht⟩) hS.2.2 dg
theorem zt_X5_fail_c : zc_X5_fail ∈ mq_T := mq_T_mem (mq_t2 (List.mem_of_getElem? (i := 215) rfl)) rfl
theorem zt_X5_fail_i : Cond.instanceMethod yX5_fail ∈ mq_T := mq_T_mem (mq_t2 (List.mem_of_getElem? (i := 213) rfl)) rfl
theorem zt_X5_fail_s : Cond.selects RX5 yX5_fail yX5_fail ∈ mq_T := mq_T_mem (mq_t2 (List.mem_of_getElem? (i := 214) rfl)) rfl
set_option maxHeartbeats 4000000 in
theorem zk_X5_fail {p : Program} {l : Launch} {e : Env} {R : Room} {s : State} {m : MethodId} {args : Array Value} {below : List Frame} {meth : Method} {c : Code} {A : Nat → Prop} {D : va_G} {a z : Nat → Nat} {cI cL cB cZ : ClassId} {Q : State → Prop} {cc : ByteArray} {nL idx pc N : Nat} {own : String} {c1 : Cond} {H : Heap} {locs : List Loc} {ls : Array Slot} {rest : List Value} {S : mq_St} {res : Unit × mq_St} {v1 : Int32} {v2 : Int32} (C : mq_C p s m args c A D cI cL cB cZ cc nL own c1) (hlk : Cond.methodLink own idx yX5_fail ∈ mq_T) (hR : zr_X5_fail.frames + 1 ≤ R.frames ∧ 8 + (3 + 11) + zr_X5_fail.locals ≤ R.locals) (h : zf_X5_fail N z v1 v2 S = some res) (hP : va_P D vwCl (wd_C a cI cL cB cZ z S) H) (hD : va_D A (wd_C a cI cL cB cZ z S)) (hS : va_S A s.heap H locs) (hls : ls.size = nL) (hrest : (rest.map fun v => v.category).sum ≤ 8) (hdg : decode cc pc = .ok (.invokevirtual idx, 3)) (kk : ∀ (H1 : Heap) (locs1 : List Loc), va_P D vwCl (wd_C a cI cL cB cZ z res.2) H1 → va_D A (wd_C a cI cL cB cZ z res.2) → va_S A s.heap H1 locs1 → W p l e R s m args below meth c H1 locs1 0 0 Q (F0 m (pc + 3) ls rest)) : W p l e R s m args below meth c H locs 0 0 Q (F0 m pc ls (.int (v2) :: .int (v1) :: .ref (a 20) :: rest)) := by
  obtain ⟨hx, hb, hml, hown, hts, hK, hA⟩ := C
  have hFc := mq_freeI hD hS hA
  refine va_callv (va_runV (As := [.int (v1), .int (v2)]) (rest := rest) ⟨hx, hb, hml, hown, hts⟩ (zm_X5_fail l D a z cI cL cB cZ H.size N v1 v2 S res h) (cwV 2 hts (mq_goodL (mq_wsV hlk zt_X5_fail_i zt_X5_fail_s zt_ini_X5 zt_X5_fail_c)) rfl rfl rfl (by decide +kernel) hR) ⟨fun a U g mk q => ⟨q.1, q.2.1, q.2.2.1, va_K.moved (u := U) (U := U.calling g mk a) (Vm.Alike.refl U.vm) q.2.2.2.1, q.2.2.2.2⟩, zy_C_20 hK hP, fun U hU hW => ⟨rfl, by rw [hU], by rw [hU]; exact hP, va_K.moved hW.alike hK, hD.weaken (fun _ _ _ _ => trivial)⟩⟩ rfl rfl hls rfl (lv_room hrest) hdg ⟨Nat.zero_le _, Nat.zero_le _⟩) hS (fun q _ h => hFc q h) hFc (fun u t H1 locs ht hvm hw hB hz1 hk1 hS => ?_)
  subst hw
  obtain ⟨hP1, hK1, hD1⟩ := hB
  rw [ht] at hP1
  exact kk H1 locs hP1 (hD1.weaken (fun _ _ _ h => hFc _ h)) hS
theorem zt_f_X5_68 : Cond.fieldLink RX5 68 "ModalDesk$Reader" "signCount" "I" ∈ mq_T := mq_T_mem (mq_t1 (List.mem_of_getElem? (i := 141) rfl)) rfl
theorem zt_f_X5_9 : Cond.fieldLink RX5 9 "ModalDesk$Reader" "signs" "[I" ∈ mq_T := mq_T_mem (mq_t1 (List.mem_of_getElem? (i := 139) rfl)) rfl
theorem zs_wd_C_a_21_13 (a z : Nat → Nat) (cI cL cB cZ : ClassId) (S : mq_St) (f : Nat → Int32) : (wd_C a cI cL cB cZ z S).set 21 (a 21, .inl (cI, 400, .inl f)) = (wd_C a cI cL cB cZ z (mq_sa S 13 f)) := rfl
theorem zs_wd_C_i_20_5 (a z : Nat → Nat) (cI cL cB cZ : ClassId) (S : mq_St) (v : Int32) : (wd_C a cI cL cB cZ z S).set 20 (a 20, .inr (5, ([.ref (a 3), .ref (a 14), .ref (a 21), .ref (a 22), .int (S.1 5), .int (S.1 6), .int (S.1 7), .int (S.1 8), .int (S.1 9), .int (S.1 10), .int (S.1 11), .int (S.1 12)] : List Value).set 4 (.int v))) = (wd_C a cI cL cB cZ z (mq_si S 5 v)) := rfl
/-! ModalDesk$Reader.pushSign(I)V -/
def zr_X5_pushSign : Room := { frames := 0, cells := 0, slots := 0, locals := 0 }
def zc_X5_pushSign : Cond := .code yX5_pushSign cX5_pushSign 2 none
def zf_X5_pushSign (N : Nat) (z : Nat → Nat) (v1 : Int32) (S : mq_St) : Option (Unit × mq_St) := (if (400 : Int32) ≤ (S.1 5) then (some ((), S)) else (mq_ck ((S.1 5)) 400 (mq_nS (mq_sa S 13 (upd (S.2.1 13) ((S.1 5)).toNatClampNeg (v1))) (fun S2 => (mq_nS (mq_si S2 5 (((S2.1 5) + (1 : Int32)))) (fun S3 => (some ((), S3))))))))
set_option maxHeartbeats 4000000 in
set_option maxRecDepth 100000 in
theorem zw_X5_pushSign_0 {p : Program} {l : Launch} {e : Env} {s : State} {m : MethodId} {args : Array Value} {below : List Frame} {meth : Method} {c : Code} {A : Nat → Prop} {D : va_G} {a z : Nat → Nat} {cI cL cB cZ : ClassId} {Q : State → Prop} {N : Nat} {res : Unit × mq_St} (C : mq_C p s m args c A D cI cL cB cZ cX5_pushSign 2 RX5 zc_X5_pushSign) (hret : ∀ (H : Heap) (locs : List Loc) (ls : Array Slot) (pc : Nat), decode cX5_pushSign pc = .ok (.return_, 1) → va_P D vwCl (wd_C a cI cL cB cZ z res.2) H → va_D A (wd_C a cI cL cB cZ z res.2) → va_S A s.heap H locs → W p l e zr_X5_pushSign s m args below meth c H locs 0 0 Q (F0 m pc ls [])) (v1 : Int32) (S : mq_St) (H : Heap) (locs : List Loc) (ls : Array Slot) (h : zf_X5_pushSign N z v1 S = some res) (hl : lv_has ls 2 [(0, .ref (a 20)), (1, .int (v1))]) (hP : va_P D vwCl (wd_C a cI cL cB cZ z S) H) (hD : va_D A (wd_C a cI cL cB cZ z S)) (hS : va_S A s.heap H locs) : W p l e zr_X5_pushSign s m args below meth c H locs 0 0 Q (F0 m 0 ls []) := by
  obtain ⟨hx, hb, hml, hown, hts, hK, hA⟩ := id C
  unfold zf_X5_pushSign at h
  refine lv_aload_n hx hb dX5_pushSign_0 rfl (lv_at hl 0 rfl) ?_
  refine va_get (D := D) (ci := 5) (v := .int ((S.1 5))) (C := RX5) (T := TX5) (N := 12) hx hb hts (zi_X5 _) hown hK hP 20 rfl rfl 4 (by decide) (hts _ (List.mem_cons_of_mem _ zt_f_X5_68)) (fun _ h9 => h9) rfl dX5_pushSign_1 ?_
  refine lv_aload_n hx hb dX5_pushSign_4 rfl (lv_at hl 0 rfl) ?_
  refine va_get (D := D) (ci := 5) (v := .ref (a 21)) (C := RX5) (T := TX5) (N := 12) hx hb hts (zi_X5 _) hown hK hP 20 rfl rfl 2 (by decide) (hts _ (List.mem_cons_of_mem _ zt_f_X5_9)) (fun _ h9 => h9) rfl dX5_pushSign_5 ?_
  refine va_alen hx hb hK hP 21 0 (v := (400 : Int32)) rfl rfl (show Int32.ofNat 400 = 400 by decide) dX5_pushSign_8 ?_
  refine lv_icmp_ge (tgt := 32) hx hb dX5_pushSign_9 (by decide) (fun c4 => ?_) (fun c4 => ?_)
  · replace h := mq_it c4 h
    cases h
    exact hret H locs ls 32 dX5_pushSign_32 hP hD hS
  · replace h := mq_if c4 h
    refine lv_aload_n hx hb dX5_pushSign_12 rfl (lv_at hl 0 rfl) ?_
    refine va_get (D := D) (ci := 5) (v := .ref (a 21)) (C := RX5) (T := TX5) (N := 12) hx hb hts (zi_X5 _) hown hK hP 20 rfl rfl 2 (by decide) (hts _ (List.mem_cons_of_mem _ zt_f_X5_9)) (fun _ h9 => h9) rfl dX5_pushSign_13 ?_
    refine lv_aload_n hx hb dX5_pushSign_16 rfl (lv_at hl 0 rfl) ?_
    refine va_get (D := D) (ci := 5) (v := .int ((S.1 5))) (C := RX5) (T := TX5) (N := 12) hx hb hts (zi_X5 _) hown hK hP 20 rfl rfl 4 (by decide) (hts _ (List.mem_cons_of_mem _ zt_f_X5_68)) (fun _ h9 => h9) rfl dX5_pushSign_17 ?_
    refine lv_iload_n hx hb dX5_pushSign_20 rfl (lv_at hl 1 rfl) ?_
    have hi1 := mq_ck_in h
    replace h := mq_ck_go h
    refine mq_iast (w := wd_C a cI cL cB cZ z) (S := S) (f := S.2.1 13) hx hb hK hP hD hS 21 0 rfl rfl hi1 dX5_pushSign_21 13 (zs_wd_C_a_21_13 _ _ _ _ _ _ _ _) (fun S2 eS2 H locs hP hD hS => ?_)
    replace h := mq_nS_go eS2 h
    refine lv_aload_n hx hb dX5_pushSign_22 rfl (lv_at hl 0 rfl) ?_
    refine lv_dup hx hb dX5_pushSign_23 rfl ?_
    refine va_get (D := D) (ci := 5) (v := .int ((S2.1 5))) (C := RX5) (T := TX5) (N := 12) hx hb hts (zi_X5 _) hown hK hP 20 rfl rfl 4 (by decide) (hts _ (List.mem_cons_of_mem _ zt_f_X5_68)) (fun _ h9 => h9) rfl dX5_pushSign_24 ?_
    refine lv_iconst (v := (1 : Int32)) hx hb dX5_pushSign_27 (by decide) ?_
    refine lv_iadd hx hb dX5_pushSign_28 ?_
    refine mq_put (w := wd_C a cI cL cB cZ z) (S := S2) (D := D) (ci := 5) (v := ((S2.1 5) + (1 : Int32))) (ty := .int) (C := RX5) (T := TX5) (N := 12) hx hb hts (zi_X5 _) tyX5 tyX5_ok nmX5 hown hK hP hD hS 20 rfl rfl 4 (by decide) (hts _ (List.mem_cons_of_mem _ zt_f_X5_68)) (fun _ h9 => h9) rfl (by decide +kernel) rfl rfl (Nat.le_of_ble_eq_true rfl) dX5_pushSign_29 5 (zs_wd_C_i_20_5 _ _ _ _ _ _ _ _) (fun S3 eS3 H locs hP hD hS => ?_)
    replace h := mq_nS_go eS3 h
    cases h
    exact hret H locs ls 32 dX5_pushSign_32 hP hD hS
set_option maxHeartbeats 4000000 in
set_option maxRecDepth 100000 in
theorem zm_X5_pushSign (l : Launch) (D : va_G) (a z : Nat → Nat) (cI cL cB cZ : ClassId) (sz N : Nat) (v1 : Int32) (S : mq_St) (res : Unit × mq_St) (h : zf_X5_pushSign N z v1 S = some res) : Met l yX5_pushSign (zc_X5_pushSign :: mq_T) zr_X5_pushSign (va_Pc [.ref (a 20), .int (v1)] (fun U => U.heap.size = sz ∧ va_P D vwCl (wd_C a cI cL cB cZ z S) U.heap ∧ va_K D vwCl (mq_tys cI cL cB cZ) U ∧ va_D (fun _ => True) (wd_C a cI cL cB cZ z S))) (va_Qv (fun u : mq_St => u = res.2) (fun u t => va_P D vwCl (wd_C a cI cL cB cZ z u) t.heap ∧ va_K D vwCl (mq_tys cI cL cB cZ) t ∧ va_D (va_A (wd_C a cI cL cB cZ z S) sz) (wd_C a cI cL cB cZ z u)) (va_A (wd_C a cI cL cB cZ z S) sz)) 0 0 (va_A (wd_C a cI cL cB cZ z S) sz) := by
  refine Met.ofW (cc := cX5_pushSign) (maxL := 2) (ret := none) (by decide) rfl ?_
  intro p e s m args below meth c s₁ B hml hv
  obtain ⟨rfl, hsz, hP, hK, hD0⟩ := hv
  have hr := B.returns
  have hlocks := B.notSynchronized
  have hts := atoms_spec (ws := zc_X5_pushSign :: mq_T) B.pre
  have hown : s.vm.findClass RX5 = some m.cls := findClass_of_methodNamed B.named
  subst hsz
  have hD := hD0.self (sz := s.heap.size)
  generalize hAe : va_A (wd_C a cI cL cB cZ z S) s.heap.size = A at hD ⊢
  have hA : ∀ q : Nat, s.heap.size ≤ q → A q := fun q h => by rw [← hAe]; exact Or.inr h
  have hl := lv_entry ([.ref (a 20), .int (v1)]) (n := 2) (Nat.le_of_ble_eq_true rfl)
  rw [lg_entry_eq]
  generalize (lg_sl ([.ref (a 20), .int (v1)]) ++ List.replicate (2 - (lg_sl ([.ref (a 20), .int (v1)])).length) Slot.unset).toArray = ls at hl ⊢
  have hl : lv_has ls 2 [(0, .ref (a 20)), (1, .int (v1))] := hl
  refine zw_X5_pushSign_0 (A := A) ⟨B.exec, B.bytes, hml, hown, hts, hK, hA⟩ (fun H locs ls pc dg hP hD hS => ?_) v1 S s.heap [] ls h hl hP hD va_S.rf
  exact W.vret B.exec B.bytes hr (fun t ht hW => ⟨⟨_, rfl, rfl, by rw [ht]; exact hP, va_K.moved hW.alike hK, hD⟩, hS.F ht⟩) hS.2.2 dg
theorem zt_X5_pushSign_c : zc_X5_pushSign ∈ mq_T := mq_T_mem (mq_t3 (List.mem_of_getElem? (i := 12) rfl)) rfl
theorem zt_X5_pushSign_i : Cond.instanceMethod yX5_pushSign ∈ mq_T := mq_T_mem (mq_t3 (List.mem_of_getElem? (i := 11) rfl)) rfl
theorem zt_X5_pushSign_s : Cond.selects RX5 yX5_pushSign yX5_pushSign ∈ mq_T := mq_T_at 8 (by decide +kernel)
set_option maxHeartbeats 4000000 in
theorem zk_X5_pushSign {p : Program} {l : Launch} {e : Env} {R : Room} {s : State} {m : MethodId} {args : Array Value} {below : List Frame} {meth : Method} {c : Code} {A : Nat → Prop} {D : va_G} {a z : Nat → Nat} {cI cL cB cZ : ClassId} {Q : State → Prop} {cc : ByteArray} {nL idx pc N : Nat} {own : String} {c1 : Cond} {H : Heap} {locs : List Loc} {ls : Array Slot} {rest : List Value} {S : mq_St} {res : Unit × mq_St} {v1 : Int32} (C : mq_C p s m args c A D cI cL cB cZ cc nL own c1) (hlk : Cond.methodLink own idx yX5_pushSign ∈ mq_T) (hR : zr_X5_pushSign.frames + 1 ≤ R.frames ∧ 8 + (2 + 11) + zr_X5_pushSign.locals ≤ R.locals) (h : zf_X5_pushSign N z v1 S = some res) (hP : va_P D vwCl (wd_C a cI cL cB cZ z S) H) (hD : va_D A (wd_C a cI cL cB cZ z S)) (hS : va_S A s.heap H locs) (hls : ls.size = nL) (hrest : (rest.map fun v => v.category).sum ≤ 8) (hdg : decode cc pc = .ok (.invokevirtual idx, 3)) (kk : ∀ (H1 : Heap) (locs1 : List Loc), va_P D vwCl (wd_C a cI cL cB cZ z res.2) H1 → va_D A (wd_C a cI cL cB cZ z res.2) → va_S A s.heap H1 locs1 → W p l e R s m args below meth c H1 locs1 0 0 Q (F0 m (pc + 3) ls rest)) : W p l e R s m args below meth c H locs 0 0 Q (F0 m pc ls (.int (v1) :: .ref (a 20) :: rest)) := by
  obtain ⟨hx, hb, hml, hown, hts, hK, hA⟩ := C
  have hFc := mq_freeI hD hS hA
  refine va_callv (va_runV (As := [.int (v1)]) (rest := rest) ⟨hx, hb, hml, hown, hts⟩ (zm_X5_pushSign l D a z cI cL cB cZ H.size N v1 S res h) (cwV 1 hts (mq_goodL (mq_wsV hlk zt_X5_pushSign_i zt_X5_pushSign_s zt_ini_X5 zt_X5_pushSign_c)) rfl rfl rfl (by decide +kernel) hR) ⟨fun a U g mk q => ⟨q.1, q.2.1, q.2.2.1, va_K.moved (u := U) (U := U.calling g mk a) (Vm.Alike.refl U.vm) q.2.2.2.1, q.2.2.2.2⟩, zy_C_20 hK hP, fun U hU hW => ⟨rfl, by rw [hU], by rw [hU]; exact hP, va_K.moved hW.alike hK, hD.weaken (fun _ _ _ _ => trivial)⟩⟩ rfl rfl hls rfl (lv_room hrest) hdg ⟨Nat.zero_le _, Nat.zero_le _⟩) hS (fun q _ h => hFc q h) hFc (fun u t H1 locs ht hvm hw hB hz1 hk1 hS => ?_)
  subst hw
  obtain ⟨hP1, hK1, hD1⟩ := hB
  rw [ht] at hP1
  exact kk H1 locs hP1 (hD1.weaken (fun _ _ _ h => hFc _ h)) hS
theorem zt_f_X5_74 : Cond.fieldLink RX5 74 "ModalDesk$Reader" "open" "I" ∈ mq_T := mq_T_mem (mq_t1 (List.mem_of_getElem? (i := 143) rfl)) rfl
theorem zt_f_X5_84 : Cond.fieldLink RX5 84 "ModalDesk$Reader" "intuitionistic" "Z" ∈ mq_T := mq_T_mem (mq_t1 (List.mem_of_getElem? (i := 146) rfl)) rfl
theorem zt_m_X5_87 : Cond.methodLink RX5 87 yX5_fail ∈ mq_T := mq_T_mem (mq_t2 (List.mem_of_getElem? (i := 212) rfl)) rfl
theorem zt_m_X5_125 : Cond.methodLink RX5 125 yX5_pushSign ∈ mq_T := mq_T_mem (mq_t3 (List.mem_of_getElem? (i := 9) rfl)) rfl
theorem zs_wd_C_i_20_7 (a z : Nat → Nat) (cI cL cB cZ : ClassId) (S : mq_St) (v : Int32) : (wd_C a cI cL cB cZ z S).set 20 (a 20, .inr (5, ([.ref (a 3), .ref (a 14), .ref (a 21), .ref (a 22), .int (S.1 5), .int (S.1 6), .int (S.1 7), .int (S.1 8), .int (S.1 9), .int (S.1 10), .int (S.1 11), .int (S.1 12)] : List Value).set 6 (.int v))) = (wd_C a cI cL cB cZ z (mq_si S 7 v)) := rfl
theorem zs_wd_C_i_20_8 (a z : Nat → Nat) (cI cL cB cZ : ClassId) (S : mq_St) (v : Int32) : (wd_C a cI cL cB cZ z S).set 20 (a 20, .inr (5, ([.ref (a 3), .ref (a 14), .ref (a 21), .ref (a 22), .int (S.1 5), .int (S.1 6), .int (S.1 7), .int (S.1 8), .int (S.1 9), .int (S.1 10), .int (S.1 11), .int (S.1 12)] : List Value).set 7 (.int v))) = (wd_C a cI cL cB cZ z (mq_si S 8 v)) := rfl
/-! ModalDesk$Reader.acceptOpening(II)V -/
def zr_X5_acceptOpening : Room := { frames := 1, cells := 0, slots := 0, locals := 22 }
def zc_X5_acceptOpening : Cond := .code yX5_acceptOpening cX5_acceptOpening 3 none
def zf_X5_acceptOpening_37 (N : Nat) (z : Nat → Nat) (v2 : Int32) (S : mq_St) : Option (Unit × mq_St) := (mq_cl (zf_X5_fail N z ((3 : Int32)) (v2) S) (fun q8v S10 => (some ((), S10))))
def zf_X5_acceptOpening_77 (N : Nat) (z : Nat → Nat) (t1 : Int32) (t2 : Int32) (S : mq_St) : Option (Unit × mq_St) := (mq_nS (mq_si S 8 ((t1 + t2))) (fun S16 => (some ((), S16))))
def zf_X5_acceptOpening_46 (N : Nat) (z : Nat → Nat) (v1 : Int32) (S : mq_St) : Option (Unit × mq_St) := (mq_cl (zf_X5_pushSign N z (v1) S) (fun q11v S13 => (mq_nS (mq_si S13 7 (((S13.1 7) + (1 : Int32)))) (fun S14 => (if v1 = (40 : Int32) then (zf_X5_acceptOpening_77 N z ((S14.1 8)) ((1 : Int32)) S14) else (zf_X5_acceptOpening_77 N z ((S14.1 8)) ((0 : Int32)) S14))))))
def zf_X5_acceptOpening (N : Nat) (z : Nat → Nat) (v1 : Int32) (v2 : Int32) (S : mq_St) : Option (Unit × mq_St) := (if (S.1 7) < (60 : Int32) then (if (S.1 10) = (0 : Int32) then (zf_X5_acceptOpening_46 N z (v1) S) else (if v1 = (91 : Int32) then (zf_X5_acceptOpening_37 N z (v2) S) else (if v1 = (60 : Int32) then (zf_X5_acceptOpening_37 N z (v2) S) else (zf_X5_acceptOpening_46 N z (v1) S)))) else (mq_cl (zf_X5_fail N z ((2 : Int32)) (v2) S) (fun q4v S6 => (some ((), S6)))))
set_option maxHeartbeats 4000000 in
set_option maxRecDepth 100000 in
theorem zw_X5_acceptOpening_37 {p : Program} {l : Launch} {e : Env} {s : State} {m : MethodId} {args : Array Value} {below : List Frame} {meth : Method} {c : Code} {A : Nat → Prop} {D : va_G} {a z : Nat → Nat} {cI cL cB cZ : ClassId} {Q : State → Prop} {N : Nat} {res : Unit × mq_St} (C : mq_C p s m args c A D cI cL cB cZ cX5_acceptOpening 3 RX5 zc_X5_acceptOpening) (hret : ∀ (H : Heap) (locs : List Loc) (ls : Array Slot) (pc : Nat), decode cX5_acceptOpening pc = .ok (.return_, 1) → va_P D vwCl (wd_C a cI cL cB cZ z res.2) H → va_D A (wd_C a cI cL cB cZ z res.2) → va_S A s.heap H locs → W p l e zr_X5_acceptOpening s m args below meth c H locs 0 0 Q (F0 m pc ls [])) (v2 : Int32) (S : mq_St) (H : Heap) (locs : List Loc) (ls : Array Slot) (h : zf_X5_acceptOpening_37 N z v2 S = some res) (hl : lv_has ls 3 [(0, .ref (a 20)), (2, .int (v2))]) (hP : va_P D vwCl (wd_C a cI cL cB cZ z S) H) (hD : va_D A (wd_C a cI cL cB cZ z S)) (hS : va_S A s.heap H locs) : W p l e zr_X5_acceptOpening s m args below meth c H locs 0 0 Q (F0 m 37 ls []) := by
  obtain ⟨hx, hb, hml, hown, hts, hK, hA⟩ := id C
  unfold zf_X5_acceptOpening_37 at h
  refine lv_aload_n hx hb dX5_acceptOpening_37 rfl (lv_at hl 0 rfl) ?_
  refine lv_iconst (v := (3 : Int32)) hx hb dX5_acceptOpening_38 (by decide) ?_
  refine lv_iload_n hx hb dX5_acceptOpening_39 rfl (lv_at hl 1 rfl) ?_
  obtain ⟨q8, hc9, h⟩ := mq_cl_go h
  refine zk_X5_fail C zt_m_X5_87 ⟨by decide, by decide⟩ hc9 hP hD hS hl.1 (Nat.le_of_ble_eq_true rfl) dX5_acceptOpening_40 (fun H locs hP hD hS => ?_)
  obtain ⟨S10, eS10⟩ : ∃ y, y = q8.2 := ⟨_, rfl⟩
  rw [← eS10] at hP hD h
  refine lv_goto (tgt := 81) hx hb dX5_acceptOpening_43 (by decide) ?_
  cases h
  exact hret H locs ls 81 dX5_acceptOpening_81 hP hD hS
set_option maxHeartbeats 4000000 in
set_option maxRecDepth 100000 in
theorem zw_X5_acceptOpening_77 {p : Program} {l : Launch} {e : Env} {s : State} {m : MethodId} {args : Array Value} {below : List Frame} {meth : Method} {c : Code} {A : Nat → Prop} {D : va_G} {a z : Nat → Nat} {cI cL cB cZ : ClassId} {Q : State → Prop} {N : Nat} {res : Unit × mq_St} (C : mq_C p s m args c A D cI cL cB cZ cX5_acceptOpening 3 RX5 zc_X5_acceptOpening) (hret : ∀ (H : Heap) (locs : List Loc) (ls : Array Slot) (pc : Nat), decode cX5_acceptOpening pc = .ok (.return_, 1) → va_P D vwCl (wd_C a cI cL cB cZ z res.2) H → va_D A (wd_C a cI cL cB cZ z res.2) → va_S A s.heap H locs → W p l e zr_X5_acceptOpening s m args below meth c H locs 0 0 Q (F0 m pc ls [])) (t1 : Int32) (t2 : Int32) (S : mq_St) (H : Heap) (locs : List Loc) (ls : Array Slot) (h : zf_X5_acceptOpening_77 N z t1 t2 S = some res) (hl : lv_has ls 3 []) (hP : va_P D vwCl (wd_C a cI cL cB cZ z S) H) (hD : va_D A (wd_C a cI cL cB cZ z S)) (hS : va_S A s.heap H locs) : W p l e zr_X5_acceptOpening s m args below meth c H locs 0 0 Q (F0 m 77 ls [.int (t2), .int (t1), .ref (a 20)]) := by
  obtain ⟨hx, hb, hml, hown, hts, hK, hA⟩ := id C
  unfold zf_X5_acceptOpening_77 at h
  refine lv_iadd hx hb dX5_acceptOpening_77 ?_
  refine mq_put (w := wd_C a cI cL cB cZ z) (S := S) (D := D) (ci := 5) (v := (t1 + t2)) (ty := .int) (C := RX5) (T := TX5) (N := 12) hx hb hts (zi_X5 _) tyX5 tyX5_ok nmX5 hown hK hP hD hS 20 rfl rfl 7 (by decide) (hts _ (List.mem_cons_of_mem _ zt_f_X5_77)) (fun _ h9 => h9) rfl (by decide +kernel) rfl rfl (Nat.le_of_ble_eq_true rfl) dX5_acceptOpening_78 8 (zs_wd_C_i_20_8 _ _ _ _ _ _ _ _) (fun S16 eS16 H locs hP hD hS => ?_)
  replace h := mq_nS_go eS16 h
  cases h
  exact hret H locs ls 81 dX5_acceptOpening_81 hP hD hS
set_option maxHeartbeats 4000000 in
set_option maxRecDepth 100000 in
theorem zw_X5_acceptOpening_46 {p : Program} {l : Launch} {e : Env} {s : State} {m : MethodId} {args : Array Value} {below : List Frame} {meth : Method} {c : Code} {A : Nat → Prop} {D : va_G} {a z : Nat → Nat} {cI cL cB cZ : ClassId} {Q : State → Prop} {N : Nat} {res : Unit × mq_St} (C : mq_C p s m args c A D cI cL cB cZ cX5_acceptOpening 3 RX5 zc_X5_acceptOpening) (hret : ∀ (H : Heap) (locs : List Loc) (ls : Array Slot) (pc : Nat), decode cX5_acceptOpening pc = .ok (.return_, 1) → va_P D vwCl (wd_C a cI cL cB cZ z res.2) H → va_D A (wd_C a cI cL cB cZ z res.2) → va_S A s.heap H locs → W p l e zr_X5_acceptOpening s m args below meth c H locs 0 0 Q (F0 m pc ls [])) (v1 : Int32) (S : mq_St) (H : Heap) (locs : List Loc) (ls : Array Slot) (h : zf_X5_acceptOpening_46 N z v1 S = some res) (hl : lv_has ls 3 [(0, .ref (a 20)), (1, .int (v1))]) (hP : va_P D vwCl (wd_C a cI cL cB cZ z S) H) (hD : va_D A (wd_C a cI cL cB cZ z S)) (hS : va_S A s.heap H locs) : W p l e zr_X5_acceptOpening s m args below meth c H locs 0 0 Q (F0 m 46 ls []) := by
  obtain ⟨hx, hb, hml, hown, hts, hK, hA⟩ := id C
  unfold zf_X5_acceptOpening_46 at h
  refine lv_aload_n hx hb dX5_acceptOpening_46 rfl (lv_at hl 0 rfl) ?_
  refine lv_iload_n hx hb dX5_acceptOpening_47 rfl (lv_at hl 1 rfl) ?_
  obtain ⟨q11, hc12, h⟩ := mq_cl_go h
  refine zk_X5_pushSign C zt_m_X5_125 ⟨by decide, by decide⟩ hc12 hP hD hS hl.1 (Nat.le_of_ble_eq_true rfl) dX5_acceptOpening_48 (fun H locs hP hD hS => ?_)
  obtain ⟨S13, eS13⟩ : ∃ y, y = q11.2 := ⟨_, rfl⟩
  rw [← eS13] at hP hD h
  refine lv_aload_n hx hb dX5_acceptOpening_51 rfl (lv_at hl 0 rfl) ?_
  refine lv_dup hx hb dX5_acceptOpening_52 rfl ?_
  refine va_get (D := D) (ci := 5) (v := .int ((S13.1 7))) (C := RX5) (T := TX5) (N := 12) hx hb hts (zi_X5 _) hown hK hP 20 rfl rfl 6 (by decide) (hts _ (List.mem_cons_of_mem _ zt_f_X5_74)) (fun _ h9 => h9) rfl dX5_acceptOpening_53 ?_
  refine lv_iconst (v := (1 : Int32)) hx hb dX5_acceptOpening_56 (by decide) ?_
  refine lv_iadd hx hb dX5_acceptOpening_57 ?_
  refine mq_put (w := wd_C a cI cL cB cZ z) (S := S13) (D := D) (ci := 5) (v := ((S13.1 7) + (1 : Int32))) (ty := .int) (C := RX5) (T := TX5) (N := 12) hx hb hts (zi_X5 _) tyX5 tyX5_ok nmX5 hown hK hP hD hS 20 rfl rfl 6 (by decide) (hts _ (List.mem_cons_of_mem _ zt_f_X5_74)) (fun _ h9 => h9) rfl (by decide +kernel) rfl rfl (Nat.le_of_ble_eq_true rfl) dX5_acceptOpening_58 7 (zs_wd_C_i_20_7 _ _ _ _ _ _ _ _) (fun S14 eS14 H locs hP hD hS => ?_)
  replace h := mq_nS_go eS14 h
  refine lv_aload_n hx hb dX5_acceptOpening_61 rfl (lv_at hl 0 rfl) ?_
  refine lv_dup hx hb dX5_acceptOpening_62 rfl ?_
  refine va_get (D := D) (ci := 5) (v := .int ((S14.1 8))) (C := RX5) (T := TX5) (N := 12) hx hb hts (zi_X5 _) hown hK hP 20 rfl rfl 7 (by decide) (hts _ (List.mem_cons_of_mem _ zt_f_X5_77)) (fun _ h9 => h9) rfl dX5_acceptOpening_63 ?_
  refine lv_iload_n hx hb dX5_acceptOpening_66 rfl (lv_at hl 1 rfl) ?_
  refine lv_bipush (v := (40 : Int32)) hx hb dX5_acceptOpening_67 (by decide) ?_
  refine lv_icmp_ne (tgt := 76) hx hb dX5_acceptOpening_69 (by decide) (fun c15 => ?_) (fun c15 => ?_)
  · replace h := mq_if c15 h
    refine lv_iconst (v := (0 : Int32)) hx hb dX5_acceptOpening_76 (by decide) ?_
    exact zw_X5_acceptOpening_77 C hret ((S14.1 8)) ((0 : Int32)) S14 H locs ls h (lv_sub hl [] rfl) hP hD hS
  · replace h := mq_it (by simpa using c15) h
    refine lv_iconst (v := (1 : Int32)) hx hb dX5_acceptOpening_72 (by decide) ?_
    refine lv_goto (tgt := 77) hx hb dX5_acceptOpening_73 (by decide) ?_
    exact zw_X5_acceptOpening_77 C hret ((S14.1 8)) ((1 : Int32)) S14 H locs ls h (lv_sub hl [] rfl) hP hD hS
set_option maxHeartbeats 4000000 in
set_option maxRecDepth 100000 in
theorem zw_X5_acceptOpening_0 {p : Program} {l : Launch} {e : Env} {s : State} {m : MethodId} {args : Array Value} {below : List Frame} {meth : Method} {c : Code} {A : Nat → Prop} {D : va_G} {a z : Nat → Nat} {cI cL cB cZ : ClassId} {Q : State → Prop} {N : Nat} {res : Unit × mq_St} (C : mq_C p s m args c A D cI cL cB cZ cX5_acceptOpening 3 RX5 zc_X5_acceptOpening) (hret : ∀ (H : Heap) (locs : List Loc) (ls : Array Slot) (pc : Nat), decode cX5_acceptOpening pc = .ok (.return_, 1) → va_P D vwCl (wd_C a cI cL cB cZ z res.2) H → va_D A (wd_C a cI cL cB cZ z res.2) → va_S A s.heap H locs → W p l e zr_X5_acceptOpening s m args below meth c H locs 0 0 Q (F0 m pc ls [])) (v1 : Int32) (v2 : Int32) (S : mq_St) (H : Heap) (locs : List Loc) (ls : Array Slot) (h : zf_X5_acceptOpening N z v1 v2 S = some res) (hl : lv_has ls 3 [(0, .ref (a 20)), (1, .int (v1)), (2, .int (v2))]) (hP : va_P D vwCl (wd_C a cI cL cB cZ z S) H) (hD : va_D A (wd_C a cI cL cB cZ z S)) (hS : va_S A s.heap H locs) : W p l e zr_X5_acceptOpening s m args below meth c H locs 0 0 Q (F0 m 0 ls []) := by
  obtain ⟨hx, hb, hml, hown, hts, hK, hA⟩ := id C
  unfold zf_X5_acceptOpening at h
  refine lv_aload_n hx hb dX5_acceptOpening_0 rfl (lv_at hl 0 rfl) ?_
  refine va_get (D := D) (ci := 5) (v := .int ((S.1 7))) (C := RX5) (T := TX5) (N := 12) hx hb hts (zi_X5 _) hown hK hP 20 rfl rfl 6 (by decide) (hts _ (List.mem_cons_of_mem _ zt_f_X5_74)) (fun _ h9 => h9) rfl dX5_acceptOpening_1 ?_
  refine lv_bipush (v := (60 : Int32)) hx hb dX5_acceptOpening_4 (by decide) ?_
  refine lv_icmp_lt (tgt := 18) hx hb dX5_acceptOpening_6 (by decide) (fun c7 => ?_) (fun c7 => ?_)
  · replace h := mq_it c7 h
    refine lv_aload_n hx hb dX5_acceptOpening_18 rfl (lv_at hl 0 rfl) ?_
    refine va_get (D := D) (ci := 5) (v := .int ((S.1 10))) (C := RX5) (T := TX5) (N := 12) hx hb hts (zi_X5 _) hown hK hP 20 rfl rfl 9 (by decide) (hts _ (List.mem_cons_of_mem _ zt_f_X5_84)) (fun _ h9 => h9) rfl dX5_acceptOpening_19 ?_
    refine lv_if_eq (tgt := 46) hx hb dX5_acceptOpening_22 (by decide) (fun c3 => ?_) (fun c3 => ?_)
    · replace h := mq_it c3 h
      exact zw_X5_acceptOpening_46 C hret (v1) S H locs ls h (lv_sub hl [0, 1] rfl) hP hD hS
    · replace h := mq_if c3 h
      refine lv_iload_n hx hb dX5_acceptOpening_25 rfl (lv_at hl 1 rfl) ?_
      refine lv_bipush (v := (91 : Int32)) hx hb dX5_acceptOpening_26 (by decide) ?_
      refine lv_icmp_eq (tgt := 37) hx hb dX5_acceptOpening_28 (by decide) (fun c2 => ?_) (fun c2 => ?_)
      · replace h := mq_it c2 h
        exact zw_X5_acceptOpening_37 C hret (v2) S H locs ls h (lv_sub hl [0, 2] rfl) hP hD hS
      · replace h := mq_if c2 h
        refine lv_iload_n hx hb dX5_acceptOpening_31 rfl (lv_at hl 1 rfl) ?_
        refine lv_bipush (v := (60 : Int32)) hx hb dX5_acceptOpening_32 (by decide) ?_
        refine lv_icmp_ne (tgt := 46) hx hb dX5_acceptOpening_34 (by decide) (fun c1 => ?_) (fun c1 => ?_)
        · replace h := mq_if c1 h
          exact zw_X5_acceptOpening_46 C hret (v1) S H locs ls h (lv_sub hl [0, 1] rfl) hP hD hS
        · replace h := mq_it (by simpa using c1) h
          exact zw_X5_acceptOpening_37 C hret (v2) S H locs ls h (lv_sub hl [0, 2] rfl) hP hD hS
  · replace h := mq_if c7 h
    refine lv_aload_n hx hb dX5_acceptOpening_9 rfl (lv_at hl 0 rfl) ?_
    refine lv_iconst (v := (2 : Int32)) hx hb dX5_acceptOpening_10 (by decide) ?_
    refine lv_iload_n hx hb dX5_acceptOpening_11 rfl (lv_at hl 2 rfl) ?_
    obtain ⟨q4, hc5, h⟩ := mq_cl_go h
    refine zk_X5_fail C zt_m_X5_87 ⟨by decide, by decide⟩ hc5 hP hD hS hl.1 (Nat.le_of_ble_eq_true rfl) dX5_acceptOpening_12 (fun H locs hP hD hS => ?_)
    obtain ⟨S6, eS6⟩ : ∃ y, y = q4.2 := ⟨_, rfl⟩
    rw [← eS6] at hP hD h
    refine lv_goto (tgt := 81) hx hb dX5_acceptOpening_15 (by decide) ?_
    cases h
    exact hret H locs ls 81 dX5_acceptOpening_81 hP hD hS
set_option maxHeartbeats 4000000 in
set_option maxRecDepth 100000 in
theorem zm_X5_acceptOpening (l : Launch) (D : va_G) (a z : Nat → Nat) (cI cL cB cZ : ClassId) (sz N : Nat) (v1 : Int32) (v2 : Int32) (S : mq_St) (res : Unit × mq_St) (h : zf_X5_acceptOpening N z v1 v2 S = some res) : Met l yX5_acceptOpening (zc_X5_acceptOpening :: mq_T) zr_X5_acceptOpening (va_Pc [.ref (a 20), .int (v1), .int (v2)] (fun U => U.heap.size = sz ∧ va_P D vwCl (wd_C a cI cL cB cZ z S) U.heap ∧ va_K D vwCl (mq_tys cI cL cB cZ) U ∧ va_D (fun _ => True) (wd_C a cI cL cB cZ z S))) (va_Qv (fun u : mq_St => u = res.2) (fun u t => va_P D vwCl (wd_C a cI cL cB cZ z u) t.heap ∧ va_K D vwCl (mq_tys cI cL cB cZ) t ∧ va_D (va_A (wd_C a cI cL cB cZ z S) sz) (wd_C a cI cL cB cZ z u)) (va_A (wd_C a cI cL cB cZ z S) sz)) 0 0 (va_A (wd_C a cI cL cB cZ z S) sz) := by
  refine Met.ofW (cc := cX5_acceptOpening) (maxL := 3) (ret := none) (by decide) rfl ?_
  intro p e s m args below meth c s₁ B hml hv
  obtain ⟨rfl, hsz, hP, hK, hD0⟩ := hv
  have hr := B.returns
  have hlocks := B.notSynchronized
  have hts := atoms_spec (ws := zc_X5_acceptOpening :: mq_T) B.pre
  have hown : s.vm.findClass RX5 = some m.cls := findClass_of_methodNamed B.named
  subst hsz
  have hD := hD0.self (sz := s.heap.size)
  generalize hAe : va_A (wd_C a cI cL cB cZ z S) s.heap.size = A at hD ⊢
  have hA : ∀ q : Nat, s.heap.size ≤ q → A q := fun q h => by rw [← hAe]; exact Or.inr h
  have hl := lv_entry ([.ref (a 20), .int (v1), .int (v2)]) (n := 3) (Nat.le_of_ble_eq_true rfl)
  rw [lg_entry_eq]
  generalize (lg_sl ([.ref (a 20), .int (v1), .int (v2)]) ++ List.replicate (3 - (lg_sl ([.ref (a 20), .int (v1), .int (v2)])).length) Slot.unset).toArray = ls at hl ⊢
  have hl : lv_has ls 3 [(0, .ref (a 20)), (1, .int (v1)), (2, .int (v2))] := hl
  refine zw_X5_acceptOpening_0 (A := A) ⟨B.exec, B.bytes, hml, hown, hts, hK, hA⟩ (fun H locs ls pc dg hP hD hS => ?_) v1 v2 S s.heap [] ls h hl hP hD va_S.rf
  exact W.vret B.exec B.bytes hr (fun t ht hW => ⟨⟨_, rfl, rfl, by rw [ht]; exact hP, va_K.moved hW.alike hK, hD⟩, hS.F ht⟩) hS.2.2 dg
theorem zt_X5_acceptOpening_c : zc_X5_acceptOpening ∈ mq_T := mq_T_mem (mq_t3 (List.mem_of_getElem? (i := 8) rfl)) rfl
theorem zt_X5_acceptOpening_i : Cond.instanceMethod yX5_acceptOpening ∈ mq_T := mq_T_mem (mq_t3 (List.mem_of_getElem? (i := 7) rfl)) rfl
theorem zt_X5_acceptOpening_s : Cond.selects RX5 yX5_acceptOpening yX5_acceptOpening ∈ mq_T := mq_T_at 7 (by decide +kernel)
set_option maxHeartbeats 4000000 in
theorem zk_X5_acceptOpening {p : Program} {l : Launch} {e : Env} {R : Room} {s : State} {m : MethodId} {args : Array Value} {below : List Frame} {meth : Method} {c : Code} {A : Nat → Prop} {D : va_G} {a z : Nat → Nat} {cI cL cB cZ : ClassId} {Q : State → Prop} {cc : ByteArray} {nL idx pc N : Nat} {own : String} {c1 : Cond} {H : Heap} {locs : List Loc} {ls : Array Slot} {rest : List Value} {S : mq_St} {res : Unit × mq_St} {v1 : Int32} {v2 : Int32} (C : mq_C p s m args c A D cI cL cB cZ cc nL own c1) (hlk : Cond.methodLink own idx yX5_acceptOpening ∈ mq_T) (hR : zr_X5_acceptOpening.frames + 1 ≤ R.frames ∧ 8 + (3 + 11) + zr_X5_acceptOpening.locals ≤ R.locals) (h : zf_X5_acceptOpening N z v1 v2 S = some res) (hP : va_P D vwCl (wd_C a cI cL cB cZ z S) H) (hD : va_D A (wd_C a cI cL cB cZ z S)) (hS : va_S A s.heap H locs) (hls : ls.size = nL) (hrest : (rest.map fun v => v.category).sum ≤ 8) (hdg : decode cc pc = .ok (.invokevirtual idx, 3)) (kk : ∀ (H1 : Heap) (locs1 : List Loc), va_P D vwCl (wd_C a cI cL cB cZ z res.2) H1 → va_D A (wd_C a cI cL cB cZ z res.2) → va_S A s.heap H1 locs1 → W p l e R s m args below meth c H1 locs1 0 0 Q (F0 m (pc + 3) ls rest)) : W p l e R s m args below meth c H locs 0 0 Q (F0 m pc ls (.int (v2) :: .int (v1) :: .ref (a 20) :: rest)) := by
  obtain ⟨hx, hb, hml, hown, hts, hK, hA⟩ := C
  have hFc := mq_freeI hD hS hA
  refine va_callv (va_runV (As := [.int (v1), .int (v2)]) (rest := rest) ⟨hx, hb, hml, hown, hts⟩ (zm_X5_acceptOpening l D a z cI cL cB cZ H.size N v1 v2 S res h) (cwV 2 hts (mq_goodL (mq_wsV hlk zt_X5_acceptOpening_i zt_X5_acceptOpening_s zt_ini_X5 zt_X5_acceptOpening_c)) rfl rfl rfl (by decide +kernel) hR) ⟨fun a U g mk q => ⟨q.1, q.2.1, q.2.2.1, va_K.moved (u := U) (U := U.calling g mk a) (Vm.Alike.refl U.vm) q.2.2.2.1, q.2.2.2.2⟩, zy_C_20 hK hP, fun U hU hW => ⟨rfl, by rw [hU], by rw [hU]; exact hP, va_K.moved hW.alike hK, hD.weaken (fun _ _ _ _ => trivial)⟩⟩ rfl rfl hls rfl (lv_room hrest) hdg ⟨Nat.zero_le _, Nat.zero_le _⟩) hS (fun q _ h => hFc q h) hFc (fun u t H1 locs ht hvm hw hB hz1 hk1 hS => ?_)
  subst hw
  obtain ⟨hP1, hK1, hD1⟩ := hB
  rw [ht] at hP1
  exact kk H1 locs hP1 (hD1.weaken (fun _ _ _ h => hFc _ h)) hS
theorem zt_f_X5_26 : Cond.fieldLink RX5 26 "ModalDesk$Reader" "draft" "LModalDesk$Draft;" ∈ mq_T := mq_T_mem (mq_t1 (List.mem_of_getElem? (i := 138) rfl)) rfl
theorem zt_m_X5_131 : Cond.methodLink RX5 131 yX2_letter ∈ mq_T := mq_T_mem (mq_t3 (List.mem_of_getElem? (i := 20) rfl)) rfl
theorem zt_m_X5_134 : Cond.methodLink RX5 134 yX2_need ∈ mq_T := mq_T_mem (mq_t3 (List.mem_of_getElem? (i := 24) rfl)) rfl
theorem zt_m_X5_128 : Cond.methodLink RX5 128 yX2_deny ∈ mq_T := mq_T_mem (mq_t3 (List.mem_of_getElem? (i := 17) rfl)) rfl
/-! ModalDesk$Reader.markOfAtom(I)I -/
def zr_X5_markOfAtom : Room := { frames := 2, cells := 0, slots := 0, locals := 45 }
def zc_X5_markOfAtom : Cond := .code yX5_markOfAtom cX5_markOfAtom 3 (some .int)
def zf_X5_markOfAtom_12 (N : Nat) (z : Nat → Nat) (v1 : Int32) (S : mq_St) : Option (Int32 × mq_St) := (if v1 = (84 : Int32) then (some ((0 : Int32), S)) else (mq_cp (zf_X2_deny N z ((0 : Int32)) (mq_pull S [] [] [])) (fun q11 => (some (q11, S)))))
def zf_X5_markOfAtom (N : Nat) (z : Nat → Nat) (v1 : Int32) (S : mq_St) : Option (Int32 × mq_St) := (if v1 = (84 : Int32) then (zf_X5_markOfAtom_12 N z (v1) S) else (if v1 = (70 : Int32) then (zf_X5_markOfAtom_12 N z (v1) S) else (mq_cl (zf_X2_letter N z ((v1 - (97 : Int32))) S) (fun q1v S3 => (mq_nI (q1v) (fun x4 => (if (S3.1 10) = (0 : Int32) then (some (x4, S3)) else (mq_cl (zf_X2_need N z (x4) S3) (fun q5v S7 => (some (q5v, S7)))))))))))
set_option maxHeartbeats 4000000 in
set_option maxRecDepth 100000 in
theorem zw_X5_markOfAtom_12 {p : Program} {l : Launch} {e : Env} {s : State} {m : MethodId} {args : Array Value} {below : List Frame} {meth : Method} {c : Code} {A : Nat → Prop} {D : va_G} {a z : Nat → Nat} {cI cL cB cZ : ClassId} {Q : State → Prop} {N : Nat} {res : Int32 × mq_St} (C : mq_C p s m args c A D cI cL cB cZ cX5_markOfAtom 3 RX5 zc_X5_markOfAtom) (hret : ∀ (H : Heap) (locs : List Loc) (ls : Array Slot) (pc : Nat), decode cX5_markOfAtom pc = .ok (.ireturn, 1) → va_P D vwCl (wd_C a cI cL cB cZ z res.2) H → va_D A (wd_C a cI cL cB cZ z res.2) → va_S A s.heap H locs → W p l e zr_X5_markOfAtom s m args below meth c H locs 0 0 Q (F0 m pc ls [.int res.1])) (v1 : Int32) (S : mq_St) (H : Heap) (locs : List Loc) (ls : Array Slot) (h : zf_X5_markOfAtom_12 N z v1 S = some res) (hl : lv_has ls 3 [(1, .int (v1))]) (hP : va_P D vwCl (wd_C a cI cL cB cZ z S) H) (hD : va_D A (wd_C a cI cL cB cZ z S)) (hS : va_S A s.heap H locs) : W p l e zr_X5_markOfAtom s m args below meth c H locs 0 0 Q (F0 m 12 ls []) := by
  obtain ⟨hx, hb, hml, hown, hts, hK, hA⟩ := id C
  unfold zf_X5_markOfAtom_12 at h
  refine lv_iload_n hx hb dX5_markOfAtom_12 rfl (lv_at hl 0 rfl) ?_
  refine lv_bipush (v := (84 : Int32)) hx hb dX5_markOfAtom_13 (by decide) ?_
  refine lv_icmp_ne (tgt := 22) hx hb dX5_markOfAtom_15 (by decide) (fun c13 => ?_) (fun c13 => ?_)
  · replace h := mq_if c13 h
    refine lv_iconst (v := (0 : Int32)) hx hb dX5_markOfAtom_22 (by decide) ?_
    obtain ⟨q11, hc12, h⟩ := mq_cp_go h
    refine zv_X2_deny (a := mq_ad a []) (z := z) [] C zt_m_X5_128 ⟨by decide, by decide⟩ hc12 rfl (by decide) hP hD hS hl.1 (Nat.le_of_ble_eq_true rfl) dX5_markOfAtom_23 (fun H locs hP hD hS => ?_)
    cases h
    exact hret H locs ls 26 dX5_markOfAtom_26 hP hD hS
  · replace h := mq_it (by simpa using c13) h
    refine lv_iconst (v := (0 : Int32)) hx hb dX5_markOfAtom_18 (by decide) ?_
    refine lv_goto (tgt := 26) hx hb dX5_markOfAtom_19 (by decide) ?_
    cases h
    exact hret H locs ls 26 dX5_markOfAtom_26 hP hD hS
set_option maxHeartbeats 4000000 in
set_option maxRecDepth 100000 in
theorem zw_X5_markOfAtom_0 {p : Program} {l : Launch} {e : Env} {s : State} {m : MethodId} {args : Array Value} {below : List Frame} {meth : Method} {c : Code} {A : Nat → Prop} {D : va_G} {a z : Nat → Nat} {cI cL cB cZ : ClassId} {Q : State → Prop} {N : Nat} {res : Int32 × mq_St} (C : mq_C p s m args c A D cI cL cB cZ cX5_markOfAtom 3 RX5 zc_X5_markOfAtom) (hret : ∀ (H : Heap) (locs : List Loc) (ls : Array Slot) (pc : Nat), decode cX5_markOfAtom pc = .ok (.ireturn, 1) → va_P D vwCl (wd_C a cI cL cB cZ z res.2) H → va_D A (wd_C a cI cL cB cZ z res.2) → va_S A s.heap H locs → W p l e zr_X5_markOfAtom s m args below meth c H locs 0 0 Q (F0 m pc ls [.int res.1])) (v1 : Int32) (S : mq_St) (H : Heap) (locs : List Loc) (ls : Array Slot) (h : zf_X5_markOfAtom N z v1 S = some res) (hl : lv_has ls 3 [(0, .ref (a 20)), (1, .int (v1))]) (hP : va_P D vwCl (wd_C a cI cL cB cZ z S) H) (hD : va_D A (wd_C a cI cL cB cZ z S)) (hS : va_S A s.heap H locs) : W p l e zr_X5_markOfAtom s m args below meth c H locs 0 0 Q (F0 m 0 ls []) := by
  obtain ⟨hx, hb, hml, hown, hts, hK, hA⟩ := id C
  unfold zf_X5_markOfAtom at h
  refine lv_iload_n hx hb dX5_markOfAtom_0 rfl (lv_at hl 1 rfl) ?_
  refine lv_bipush (v := (84 : Int32)) hx hb dX5_markOfAtom_1 (by decide) ?_
  refine lv_icmp_eq (tgt := 12) hx hb dX5_markOfAtom_3 (by decide) (fun c10 => ?_) (fun c10 => ?_)
  · replace h := mq_it c10 h
    exact zw_X5_markOfAtom_12 C hret (v1) S H locs ls h (lv_sub hl [1] rfl) hP hD hS
  · replace h := mq_if c10 h
    refine lv_iload_n hx hb dX5_markOfAtom_6 rfl (lv_at hl 1 rfl) ?_
    refine lv_bipush (v := (70 : Int32)) hx hb dX5_markOfAtom_7 (by decide) ?_
    refine lv_icmp_ne (tgt := 27) hx hb dX5_markOfAtom_9 (by decide) (fun c9 => ?_) (fun c9 => ?_)
    · replace h := mq_if c9 h
      refine lv_aload_n hx hb dX5_markOfAtom_27 rfl (lv_at hl 0 rfl) ?_
      refine va_get (D := D) (ci := 5) (v := .ref (a 14)) (C := RX5) (T := TX5) (N := 12) hx hb hts (zi_X5 _) hown hK hP 20 rfl rfl 1 (by decide) (hts _ (List.mem_cons_of_mem _ zt_f_X5_26)) (fun _ h9 => h9) rfl dX5_markOfAtom_28 ?_
      refine lv_iload_n hx hb dX5_markOfAtom_31 rfl (lv_at hl 1 rfl) ?_
      refine lv_bipush (v := (97 : Int32)) hx hb dX5_markOfAtom_32 (by decide) ?_
      refine lv_isub hx hb dX5_markOfAtom_34 ?_
      obtain ⟨q1, hc2, h⟩ := mq_cl_go h
      refine zk_X2_letter C zt_m_X5_131 ⟨by decide, by decide⟩ hc2 hP hD hS hl.1 (Nat.le_of_ble_eq_true rfl) dX5_markOfAtom_35 (fun H locs hP hD hS => ?_)
      obtain ⟨S3, eS3⟩ : ∃ y, y = q1.2 := ⟨_, rfl⟩
      rw [← eS3] at hP hD h
      refine lv_topi (fun x4 ex4 => ?_)
      replace h := mq_nI_go ex4 h
      refine lv_istore_n (lv' := [(2, .int (x4)), (0, .ref (a 20)), (1, .int (v1))]) hx hb dX5_markOfAtom_38 rfl hl (by decide) rfl (fun ls hl => ?_)
      refine lv_aload_n hx hb dX5_markOfAtom_39 rfl (lv_at hl 1 rfl) ?_
      refine va_get (D := D) (ci := 5) (v := .int ((S3.1 10))) (C := RX5) (T := TX5) (N := 12) hx hb hts (zi_X5 _) hown hK hP 20 rfl rfl 9 (by decide) (hts _ (List.mem_cons_of_mem _ zt_f_X5_84)) (fun _ h9 => h9) rfl dX5_markOfAtom_40 ?_
      refine lv_if_eq (tgt := 57) hx hb dX5_markOfAtom_43 (by decide) (fun c8 => ?_) (fun c8 => ?_)
      · replace h := mq_it c8 h
        refine lv_iload_n hx hb dX5_markOfAtom_57 rfl (lv_at hl 0 rfl) ?_
        cases h
        exact hret H locs ls 58 dX5_markOfAtom_58 hP hD hS
      · replace h := mq_if c8 h
        refine lv_aload_n hx hb dX5_markOfAtom_46 rfl (lv_at hl 1 rfl) ?_
        refine va_get (D := D) (ci := 5) (v := .ref (a 14)) (C := RX5) (T := TX5) (N := 12) hx hb hts (zi_X5 _) hown hK hP 20 rfl rfl 1 (by decide) (hts _ (List.mem_cons_of_mem _ zt_f_X5_26)) (fun _ h9 => h9) rfl dX5_markOfAtom_47 ?_
        refine lv_iload_n hx hb dX5_markOfAtom_50 rfl (lv_at hl 0 rfl) ?_
        obtain ⟨q5, hc6, h⟩ := mq_cl_go h
        refine zk_X2_need C zt_m_X5_134 ⟨by decide, by decide⟩ hc6 hP hD hS hl.1 (Nat.le_of_ble_eq_true rfl) dX5_markOfAtom_51 (fun H locs hP hD hS => ?_)
        obtain ⟨S7, eS7⟩ : ∃ y, y = q5.2 := ⟨_, rfl⟩
        rw [← eS7] at hP hD h
        refine lv_goto (tgt := 58) hx hb dX5_markOfAtom_54 (by decide) ?_
        cases h
        exact hret H locs ls 58 dX5_markOfAtom_58 hP hD hS
    · replace h := mq_it (by simpa using c9) h
      exact zw_X5_markOfAtom_12 C hret (v1) S H locs ls h (lv_sub hl [1] rfl) hP hD hS
set_option maxHeartbeats 4000000 in
set_option maxRecDepth 100000 in
theorem zm_X5_markOfAtom (l : Launch) (D : va_G) (a z : Nat → Nat) (cI cL cB cZ : ClassId) (sz N : Nat) (v1 : Int32) (S : mq_St) (res : Int32 × mq_St) (h : zf_X5_markOfAtom N z v1 S = some res) : Met l yX5_markOfAtom (zc_X5_markOfAtom :: mq_T) zr_X5_markOfAtom (va_Pc [.ref (a 20), .int (v1)] (fun U => U.heap.size = sz ∧ va_P D vwCl (wd_C a cI cL cB cZ z S) U.heap ∧ va_K D vwCl (mq_tys cI cL cB cZ) U ∧ va_D (fun _ => True) (wd_C a cI cL cB cZ z S))) (va_Qi (fun (r : Int32) (u : mq_St) => r = res.1 ∧ u = res.2) (fun u t => va_P D vwCl (wd_C a cI cL cB cZ z u) t.heap ∧ va_K D vwCl (mq_tys cI cL cB cZ) t ∧ va_D (va_A (wd_C a cI cL cB cZ z S) sz) (wd_C a cI cL cB cZ z u)) (va_A (wd_C a cI cL cB cZ z S) sz)) 0 0 (va_A (wd_C a cI cL cB cZ z S) sz) := by
  refine Met.ofW (cc := cX5_markOfAtom) (maxL := 3) (ret := (some .int)) (by decide) rfl ?_
  intro p e s m args below meth c s₁ B hml hv
  obtain ⟨rfl, hsz, hP, hK, hD0⟩ := hv
  have hr := B.returns
  have hlocks := B.notSynchronized
  have hts := atoms_spec (ws := zc_X5_markOfAtom :: mq_T) B.pre
  have hown : s.vm.findClass RX5 = some m.cls := findClass_of_methodNamed B.named
  subst hsz
  have hD := hD0.self (sz := s.heap.size)
  generalize hAe : va_A (wd_C a cI cL cB cZ z S) s.heap.size = A at hD ⊢
  have hA : ∀ q : Nat, s.heap.size ≤ q → A q := fun q h => by rw [← hAe]; exact Or.inr h
  have hl := lv_entry ([.ref (a 20), .int (v1)]) (n := 3) (Nat.le_of_ble_eq_true rfl)
  rw [lg_entry_eq]
  generalize (lg_sl ([.ref (a 20), .int (v1)]) ++ List.replicate (3 - (lg_sl ([.ref (a 20), .int (v1)])).length) Slot.unset).toArray = ls at hl ⊢
  have hl : lv_has ls 3 [(0, .ref (a 20)), (1, .int (v1))] := hl
  refine zw_X5_markOfAtom_0 (A := A) ⟨B.exec, B.bytes, hml, hown, hts, hK, hA⟩ (fun H locs ls pc dg hP hD hS => ?_) v1 S s.heap [] ls h hl hP hD va_S.rf
  exact W.iret B.exec B.bytes hr (fun t ht hW => ⟨⟨_, _, rfl, ⟨rfl, rfl⟩, by rw [ht]; exact hP, va_K.moved hW.alike hK, hD⟩, hS.F ht⟩) hS.2.2 dg
theorem zt_X5_markOfAtom_c : zc_X5_markOfAtom ∈ mq_T := mq_T_mem (mq_t3 (List.mem_of_getElem? (i := 16) rfl)) rfl
theorem zt_X5_markOfAtom_i : Cond.instanceMethod yX5_markOfAtom ∈ mq_T := mq_T_mem (mq_t3 (List.mem_of_getElem? (i := 15) rfl)) rfl
theorem zt_X5_markOfAtom_s : Cond.selects RX5 yX5_markOfAtom yX5_markOfAtom ∈ mq_T := mq_T_at 9 (by decide +kernel)
set_option maxHeartbeats 4000000 in
theorem zk_X5_markOfAtom {p : Program} {l : Launch} {e : Env} {R : Room} {s : State} {m : MethodId} {args : Array Value} {below : List Frame} {meth : Method} {c : Code} {A : Nat → Prop} {D : va_G} {a z : Nat → Nat} {cI cL cB cZ : ClassId} {Q : State → Prop} {cc : ByteArray} {nL idx pc N : Nat} {own : String} {c1 : Cond} {H : Heap} {locs : List Loc} {ls : Array Slot} {rest : List Value} {S : mq_St} {res : Int32 × mq_St} {v1 : Int32} (C : mq_C p s m args c A D cI cL cB cZ cc nL own c1) (hlk : Cond.methodLink own idx yX5_markOfAtom ∈ mq_T) (hR : zr_X5_markOfAtom.frames + 1 ≤ R.frames ∧ 8 + (3 + 11) + zr_X5_markOfAtom.locals ≤ R.locals) (h : zf_X5_markOfAtom N z v1 S = some res) (hP : va_P D vwCl (wd_C a cI cL cB cZ z S) H) (hD : va_D A (wd_C a cI cL cB cZ z S)) (hS : va_S A s.heap H locs) (hls : ls.size = nL) (hrest : (rest.map fun v => v.category).sum ≤ 8) (hdg : decode cc pc = .ok (.invokevirtual idx, 3)) (kk : ∀ (H1 : Heap) (locs1 : List Loc), va_P D vwCl (wd_C a cI cL cB cZ z res.2) H1 → va_D A (wd_C a cI cL cB cZ z res.2) → va_S A s.heap H1 locs1 → W p l e R s m args below meth c H1 locs1 0 0 Q (F0 m (pc + 3) ls (.int res.1 :: rest))) : W p l e R s m args below meth c H locs 0 0 Q (F0 m pc ls (.int (v1) :: .ref (a 20) :: rest)) := by
  obtain ⟨hx, hb, hml, hown, hts, hK, hA⟩ := C
  have hFc := mq_freeI hD hS hA
  refine va_calli (va_runV (As := [.int (v1)]) (rest := rest) ⟨hx, hb, hml, hown, hts⟩ (zm_X5_markOfAtom l D a z cI cL cB cZ H.size N v1 S res h) (cwV 1 hts (mq_goodL (mq_wsV hlk zt_X5_markOfAtom_i zt_X5_markOfAtom_s zt_ini_X5 zt_X5_markOfAtom_c)) rfl rfl rfl (by decide +kernel) hR) ⟨fun a U g mk q => ⟨q.1, q.2.1, q.2.2.1, va_K.moved (u := U) (U := U.calling g mk a) (Vm.Alike.refl U.vm) q.2.2.2.1, q.2.2.2.2⟩, zy_C_20 hK hP, fun U hU hW => ⟨rfl, by rw [hU], by rw [hU]; exact hP, va_K.moved hW.alike hK, hD.weaken (fun _ _ _ _ => trivial)⟩⟩ rfl rfl hls rfl (lv_room hrest) hdg ⟨Nat.zero_le _, Nat.zero_le _⟩) hS (fun q _ h => hFc q h) hFc (fun r u t H1 locs ht hvm hw hB hz1 hk1 hS => ?_)
  obtain ⟨rfl, rfl⟩ := hw
  obtain ⟨hP1, hK1, hD1⟩ := hB
  rw [ht] at hP1
  exact kk H1 locs hP1 (hD1.weaken (fun _ _ _ h => hFc _ h)) hS
theorem zt_f_X5_71 : Cond.fieldLink RX5 71 "ModalDesk$Reader" "markCount" "I" ∈ mq_T := mq_T_mem (mq_t1 (List.mem_of_getElem? (i := 142) rfl)) rfl
theorem zt_f_X5_15 : Cond.fieldLink RX5 15 "ModalDesk$Reader" "marks" "[I" ∈ mq_T := mq_T_mem (mq_t1 (List.mem_of_getElem? (i := 140) rfl)) rfl
theorem zs_wd_C_a_22_14 (a z : Nat → Nat) (cI cL cB cZ : ClassId) (S : mq_St) (f : Nat → Int32) : (wd_C a cI cL cB cZ z S).set 22 (a 22, .inl (cI, 400, .inl f)) = (wd_C a cI cL cB cZ z (mq_sa S 14 f)) := rfl
theorem zs_wd_C_i_20_6 (a z : Nat → Nat) (cI cL cB cZ : ClassId) (S : mq_St) (v : Int32) : (wd_C a cI cL cB cZ z S).set 20 (a 20, .inr (5, ([.ref (a 3), .ref (a 14), .ref (a 21), .ref (a 22), .int (S.1 5), .int (S.1 6), .int (S.1 7), .int (S.1 8), .int (S.1 9), .int (S.1 10), .int (S.1 11), .int (S.1 12)] : List Value).set 5 (.int v))) = (wd_C a cI cL cB cZ z (mq_si S 6 v)) := rfl
/-! ModalDesk$Reader.pushMark(I)V -/
def zr_X5_pushMark : Room := { frames := 0, cells := 0, slots := 0, locals := 0 }
def zc_X5_pushMark : Cond := .code yX5_pushMark cX5_pushMark 2 none
def zf_X5_pushMark (N : Nat) (z : Nat → Nat) (v1 : Int32) (S : mq_St) : Option (Unit × mq_St) := (if (400 : Int32) ≤ (S.1 6) then (some ((), S)) else (mq_ck ((S.1 6)) 400 (mq_nS (mq_sa S 14 (upd (S.2.1 14) ((S.1 6)).toNatClampNeg (v1))) (fun S2 => (mq_nS (mq_si S2 6 (((S2.1 6) + (1 : Int32)))) (fun S3 => (some ((), S3))))))))
set_option maxHeartbeats 4000000 in
set_option maxRecDepth 100000 in
theorem zw_X5_pushMark_0 {p : Program} {l : Launch} {e : Env} {s : State} {m : MethodId} {args : Array Value} {below : List Frame} {meth : Method} {c : Code} {A : Nat → Prop} {D : va_G} {a z : Nat → Nat} {cI cL cB cZ : ClassId} {Q : State → Prop} {N : Nat} {res : Unit × mq_St} (C : mq_C p s m args c A D cI cL cB cZ cX5_pushMark 2 RX5 zc_X5_pushMark) (hret : ∀ (H : Heap) (locs : List Loc) (ls : Array Slot) (pc : Nat), decode cX5_pushMark pc = .ok (.return_, 1) → va_P D vwCl (wd_C a cI cL cB cZ z res.2) H → va_D A (wd_C a cI cL cB cZ z res.2) → va_S A s.heap H locs → W p l e zr_X5_pushMark s m args below meth c H locs 0 0 Q (F0 m pc ls [])) (v1 : Int32) (S : mq_St) (H : Heap) (locs : List Loc) (ls : Array Slot) (h : zf_X5_pushMark N z v1 S = some res) (hl : lv_has ls 2 [(0, .ref (a 20)), (1, .int (v1))]) (hP : va_P D vwCl (wd_C a cI cL cB cZ z S) H) (hD : va_D A (wd_C a cI cL cB cZ z S)) (hS : va_S A s.heap H locs) : W p l e zr_X5_pushMark s m args below meth c H locs 0 0 Q (F0 m 0 ls []) := by
  obtain ⟨hx, hb, hml, hown, hts, hK, hA⟩ := id C
  unfold zf_X5_pushMark at h
  refine lv_aload_n hx hb dX5_pushMark_0 rfl (lv_at hl 0 rfl) ?_
  refine va_get (D := D) (ci := 5) (v := .int ((S.1 6))) (C := RX5) (T := TX5) (N := 12) hx hb hts (zi_X5 _) hown hK hP 20 rfl rfl 5 (by decide) (hts _ (List.mem_cons_of_mem _ zt_f_X5_71)) (fun _ h9 => h9) rfl dX5_pushMark_1 ?_
  refine lv_aload_n hx hb dX5_pushMark_4 rfl (lv_at hl 0 rfl) ?_
  refine va_get (D := D) (ci := 5) (v := .ref (a 22)) (C := RX5) (T := TX5) (N := 12) hx hb hts (zi_X5 _) hown hK hP 20 rfl rfl 3 (by decide) (hts _ (List.mem_cons_of_mem _ zt_f_X5_15)) (fun _ h9 => h9) rfl dX5_pushMark_5 ?_
  refine va_alen hx hb hK hP 22 0 (v := (400 : Int32)) rfl rfl (show Int32.ofNat 400 = 400 by decide) dX5_pushMark_8 ?_
  refine lv_icmp_ge (tgt := 32) hx hb dX5_pushMark_9 (by decide) (fun c4 => ?_) (fun c4 => ?_)
  · replace h := mq_it c4 h
    cases h
    exact hret H locs ls 32 dX5_pushMark_32 hP hD hS
  · replace h := mq_if c4 h
    refine lv_aload_n hx hb dX5_pushMark_12 rfl (lv_at hl 0 rfl) ?_
    refine va_get (D := D) (ci := 5) (v := .ref (a 22)) (C := RX5) (T := TX5) (N := 12) hx hb hts (zi_X5 _) hown hK hP 20 rfl rfl 3 (by decide) (hts _ (List.mem_cons_of_mem _ zt_f_X5_15)) (fun _ h9 => h9) rfl dX5_pushMark_13 ?_
    refine lv_aload_n hx hb dX5_pushMark_16 rfl (lv_at hl 0 rfl) ?_
    refine va_get (D := D) (ci := 5) (v := .int ((S.1 6))) (C := RX5) (T := TX5) (N := 12) hx hb hts (zi_X5 _) hown hK hP 20 rfl rfl 5 (by decide) (hts _ (List.mem_cons_of_mem _ zt_f_X5_71)) (fun _ h9 => h9) rfl dX5_pushMark_17 ?_
    refine lv_iload_n hx hb dX5_pushMark_20 rfl (lv_at hl 1 rfl) ?_
    have hi1 := mq_ck_in h
    replace h := mq_ck_go h
    refine mq_iast (w := wd_C a cI cL cB cZ z) (S := S) (f := S.2.1 14) hx hb hK hP hD hS 22 0 rfl rfl hi1 dX5_pushMark_21 14 (zs_wd_C_a_22_14 _ _ _ _ _ _ _ _) (fun S2 eS2 H locs hP hD hS => ?_)
    replace h := mq_nS_go eS2 h
    refine lv_aload_n hx hb dX5_pushMark_22 rfl (lv_at hl 0 rfl) ?_
    refine lv_dup hx hb dX5_pushMark_23 rfl ?_
    refine va_get (D := D) (ci := 5) (v := .int ((S2.1 6))) (C := RX5) (T := TX5) (N := 12) hx hb hts (zi_X5 _) hown hK hP 20 rfl rfl 5 (by decide) (hts _ (List.mem_cons_of_mem _ zt_f_X5_71)) (fun _ h9 => h9) rfl dX5_pushMark_24 ?_
    refine lv_iconst (v := (1 : Int32)) hx hb dX5_pushMark_27 (by decide) ?_
    refine lv_iadd hx hb dX5_pushMark_28 ?_
    refine mq_put (w := wd_C a cI cL cB cZ z) (S := S2) (D := D) (ci := 5) (v := ((S2.1 6) + (1 : Int32))) (ty := .int) (C := RX5) (T := TX5) (N := 12) hx hb hts (zi_X5 _) tyX5 tyX5_ok nmX5 hown hK hP hD hS 20 rfl rfl 5 (by decide) (hts _ (List.mem_cons_of_mem _ zt_f_X5_71)) (fun _ h9 => h9) rfl (by decide +kernel) rfl rfl (Nat.le_of_ble_eq_true rfl) dX5_pushMark_29 6 (zs_wd_C_i_20_6 _ _ _ _ _ _ _ _) (fun S3 eS3 H locs hP hD hS => ?_)
    replace h := mq_nS_go eS3 h
    cases h
    exact hret H locs ls 32 dX5_pushMark_32 hP hD hS
set_option maxHeartbeats 4000000 in
set_option maxRecDepth 100000 in
theorem zm_X5_pushMark (l : Launch) (D : va_G) (a z : Nat → Nat) (cI cL cB cZ : ClassId) (sz N : Nat) (v1 : Int32) (S : mq_St) (res : Unit × mq_St) (h : zf_X5_pushMark N z v1 S = some res) : Met l yX5_pushMark (zc_X5_pushMark :: mq_T) zr_X5_pushMark (va_Pc [.ref (a 20), .int (v1)] (fun U => U.heap.size = sz ∧ va_P D vwCl (wd_C a cI cL cB cZ z S) U.heap ∧ va_K D vwCl (mq_tys cI cL cB cZ) U ∧ va_D (fun _ => True) (wd_C a cI cL cB cZ z S))) (va_Qv (fun u : mq_St => u = res.2) (fun u t => va_P D vwCl (wd_C a cI cL cB cZ z u) t.heap ∧ va_K D vwCl (mq_tys cI cL cB cZ) t ∧ va_D (va_A (wd_C a cI cL cB cZ z S) sz) (wd_C a cI cL cB cZ z u)) (va_A (wd_C a cI cL cB cZ z S) sz)) 0 0 (va_A (wd_C a cI cL cB cZ z S) sz) := by
  refine Met.ofW (cc := cX5_pushMark) (maxL := 2) (ret := none) (by decide) rfl ?_
  intro p e s m args below meth c s₁ B hml hv
  obtain ⟨rfl, hsz, hP, hK, hD0⟩ := hv
  have hr := B.returns
  have hlocks := B.notSynchronized
  have hts := atoms_spec (ws := zc_X5_pushMark :: mq_T) B.pre
  have hown : s.vm.findClass RX5 = some m.cls := findClass_of_methodNamed B.named
  subst hsz
  have hD := hD0.self (sz := s.heap.size)
  generalize hAe : va_A (wd_C a cI cL cB cZ z S) s.heap.size = A at hD ⊢
  have hA : ∀ q : Nat, s.heap.size ≤ q → A q := fun q h => by rw [← hAe]; exact Or.inr h
  have hl := lv_entry ([.ref (a 20), .int (v1)]) (n := 2) (Nat.le_of_ble_eq_true rfl)
  rw [lg_entry_eq]
  generalize (lg_sl ([.ref (a 20), .int (v1)]) ++ List.replicate (2 - (lg_sl ([.ref (a 20), .int (v1)])).length) Slot.unset).toArray = ls at hl ⊢
  have hl : lv_has ls 2 [(0, .ref (a 20)), (1, .int (v1))] := hl
  refine zw_X5_pushMark_0 (A := A) ⟨B.exec, B.bytes, hml, hown, hts, hK, hA⟩ (fun H locs ls pc dg hP hD hS => ?_) v1 S s.heap [] ls h hl hP hD va_S.rf
  exact W.vret B.exec B.bytes hr (fun t ht hW => ⟨⟨_, rfl, rfl, by rw [ht]; exact hP, va_K.moved hW.alike hK, hD⟩, hS.F ht⟩) hS.2.2 dg
theorem zt_X5_pushMark_c : zc_X5_pushMark ∈ mq_T := mq_T_mem (mq_t3 (List.mem_of_getElem? (i := 31) rfl)) rfl
theorem zt_X5_pushMark_i : Cond.instanceMethod yX5_pushMark ∈ mq_T := mq_T_mem (mq_t3 (List.mem_of_getElem? (i := 30) rfl)) rfl
theorem zt_X5_pushMark_s : Cond.selects RX5 yX5_pushMark yX5_pushMark ∈ mq_T := mq_T_at 10 (by decide +kernel)
set_option maxHeartbeats 4000000 in
theorem zk_X5_pushMark {p : Program} {l : Launch} {e : Env} {R : Room} {s : State} {m : MethodId} {args : Array Value} {below : List Frame} {meth : Method} {c : Code} {A : Nat → Prop} {D : va_G} {a z : Nat → Nat} {cI cL cB cZ : ClassId} {Q : State → Prop} {cc : ByteArray} {nL idx pc N : Nat} {own : String} {c1 : Cond} {H : Heap} {locs : List Loc} {ls : Array Slot} {rest : List Value} {S : mq_St} {res : Unit × mq_St} {v1 : Int32} (C : mq_C p s m args c A D cI cL cB cZ cc nL own c1) (hlk : Cond.methodLink own idx yX5_pushMark ∈ mq_T) (hR : zr_X5_pushMark.frames + 1 ≤ R.frames ∧ 8 + (2 + 11) + zr_X5_pushMark.locals ≤ R.locals) (h : zf_X5_pushMark N z v1 S = some res) (hP : va_P D vwCl (wd_C a cI cL cB cZ z S) H) (hD : va_D A (wd_C a cI cL cB cZ z S)) (hS : va_S A s.heap H locs) (hls : ls.size = nL) (hrest : (rest.map fun v => v.category).sum ≤ 8) (hdg : decode cc pc = .ok (.invokevirtual idx, 3)) (kk : ∀ (H1 : Heap) (locs1 : List Loc), va_P D vwCl (wd_C a cI cL cB cZ z res.2) H1 → va_D A (wd_C a cI cL cB cZ z res.2) → va_S A s.heap H1 locs1 → W p l e R s m args below meth c H1 locs1 0 0 Q (F0 m (pc + 3) ls rest)) : W p l e R s m args below meth c H locs 0 0 Q (F0 m pc ls (.int (v1) :: .ref (a 20) :: rest)) := by
  obtain ⟨hx, hb, hml, hown, hts, hK, hA⟩ := C
  have hFc := mq_freeI hD hS hA
  refine va_callv (va_runV (As := [.int (v1)]) (rest := rest) ⟨hx, hb, hml, hown, hts⟩ (zm_X5_pushMark l D a z cI cL cB cZ H.size N v1 S res h) (cwV 1 hts (mq_goodL (mq_wsV hlk zt_X5_pushMark_i zt_X5_pushMark_s zt_ini_X5 zt_X5_pushMark_c)) rfl rfl rfl (by decide +kernel) hR) ⟨fun a U g mk q => ⟨q.1, q.2.1, q.2.2.1, va_K.moved (u := U) (U := U.calling g mk a) (Vm.Alike.refl U.vm) q.2.2.2.1, q.2.2.2.2⟩, zy_C_20 hK hP, fun U hU hW => ⟨rfl, by rw [hU], by rw [hU]; exact hP, va_K.moved hW.alike hK, hD.weaken (fun _ _ _ _ => trivial)⟩⟩ rfl rfl hls rfl (lv_room hrest) hdg ⟨Nat.zero_le _, Nat.zero_le _⟩) hS (fun q _ h => hFc q h) hFc (fun u t H1 locs ht hvm hw hB hz1 hk1 hS => ?_)
  subst hw
  obtain ⟨hP1, hK1, hD1⟩ := hB
  rw [ht] at hP1
  exact kk H1 locs hP1 (hD1.weaken (fun _ _ _ h => hFc _ h)) hS
/-! ModalDesk$Reader.topSign()I -/
def zr_X5_topSign : Room := { frames := 0, cells := 0, slots := 0, locals := 0 }
def zc_X5_topSign : Cond := .code yX5_topSign cX5_topSign 1 (some .int)
def zf_X5_topSign (N : Nat) (z : Nat → Nat) (S : mq_St) : Option (Int32) := (if (S.1 5) ≤ (0 : Int32) then (some ((0 : Int32))) else (mq_ck (((S.1 5) - (1 : Int32))) 400 (some ((S.2.1 13 (((S.1 5) - (1 : Int32))).toNatClampNeg)))))
set_option maxHeartbeats 4000000 in
set_option maxRecDepth 100000 in
theorem zw_X5_topSign_0 {p : Program} {l : Launch} {e : Env} {s : State} {m : MethodId} {args : Array Value} {below : List Frame} {meth : Method} {c : Code} {A : Nat → Prop} {D : va_G} {a z : Nat → Nat} {cI cL cB cZ : ClassId} {Q : State → Prop} {N : Nat} {S : mq_St} {res : Int32} (C : mq_C p s m args c A D cI cL cB cZ cX5_topSign 1 RX5 zc_X5_topSign) (hret : ∀ (H : Heap) (locs : List Loc) (ls : Array Slot) (pc : Nat), decode cX5_topSign pc = .ok (.ireturn, 1) → va_P D vwCl (wd_C a cI cL cB cZ z S) H → va_D A (wd_C a cI cL cB cZ z S) → va_S A s.heap H locs → W p l e zr_X5_topSign s m args below meth c H locs 0 0 Q (F0 m pc ls [.int res])) (H : Heap) (locs : List Loc) (ls : Array Slot) (h : zf_X5_topSign N z S = some res) (hl : lv_has ls 1 [(0, .ref (a 20))]) (hP : va_P D vwCl (wd_C a cI cL cB cZ z S) H) (hD : va_D A (wd_C a cI cL cB cZ z S)) (hS : va_S A s.heap H locs) : W p l e zr_X5_topSign s m args below meth c H locs 0 0 Q (F0 m 0 ls []) := by
  obtain ⟨hx, hb, hml, hown, hts, hK, hA⟩ := id C
  unfold zf_X5_topSign at h
  refine lv_aload_n hx hb dX5_topSign_0 rfl (lv_at hl 0 rfl) ?_
  refine va_get (D := D) (ci := 5) (v := .int ((S.1 5))) (C := RX5) (T := TX5) (N := 12) hx hb hts (zi_X5 _) hown hK hP 20 rfl rfl 4 (by decide) (hts _ (List.mem_cons_of_mem _ zt_f_X5_68)) (fun _ h9 => h9) rfl dX5_topSign_1 ?_
  refine lv_if_le (tgt := 21) hx hb dX5_topSign_4 (by decide) (fun c2 => ?_) (fun c2 => ?_)
  · replace h := mq_it c2 h
    refine lv_iconst (v := (0 : Int32)) hx hb dX5_topSign_21 (by decide) ?_
    cases h
    exact hret H locs ls 22 dX5_topSign_22 hP hD hS
  · replace h := mq_if c2 h
    refine lv_aload_n hx hb dX5_topSign_7 rfl (lv_at hl 0 rfl) ?_
    refine va_get (D := D) (ci := 5) (v := .ref (a 21)) (C := RX5) (T := TX5) (N := 12) hx hb hts (zi_X5 _) hown hK hP 20 rfl rfl 2 (by decide) (hts _ (List.mem_cons_of_mem _ zt_f_X5_9)) (fun _ h9 => h9) rfl dX5_topSign_8 ?_
    refine lv_aload_n hx hb dX5_topSign_11 rfl (lv_at hl 0 rfl) ?_
    refine va_get (D := D) (ci := 5) (v := .int ((S.1 5))) (C := RX5) (T := TX5) (N := 12) hx hb hts (zi_X5 _) hown hK hP 20 rfl rfl 4 (by decide) (hts _ (List.mem_cons_of_mem _ zt_f_X5_68)) (fun _ h9 => h9) rfl dX5_topSign_12 ?_
    refine lv_iconst (v := (1 : Int32)) hx hb dX5_topSign_15 (by decide) ?_
    refine lv_isub hx hb dX5_topSign_16 ?_
    have hi1 := mq_ck_in h
    replace h := mq_ck_go h
    refine va_iald (f := S.2.1 13) hx hb hK hP 21 0 rfl rfl hi1 dX5_topSign_17 ?_
    refine lv_goto (tgt := 22) hx hb dX5_topSign_18 (by decide) ?_
    cases h
    exact hret H locs ls 22 dX5_topSign_22 hP hD hS
set_option maxHeartbeats 4000000 in
set_option maxRecDepth 100000 in
theorem zm_X5_topSign (l : Launch) (D : va_G) (a z : Nat → Nat) (cI cL cB cZ : ClassId) (sz N : Nat) (S : mq_St) (res : Int32) (h : zf_X5_topSign N z S = some res) : Met l yX5_topSign (zc_X5_topSign :: mq_T) zr_X5_topSign (va_Pc [.ref (a 20)] (fun U => U.heap.size = sz ∧ va_P D vwCl (wd_C a cI cL cB cZ z S) U.heap ∧ va_K D vwCl (mq_tys cI cL cB cZ) U ∧ va_D (fun _ => True) (wd_C a cI cL cB cZ z S))) (va_Qi (fun (r : Int32) (u : mq_St) => r = res ∧ u = S) (fun u t => va_P D vwCl (wd_C a cI cL cB cZ z u) t.heap ∧ va_K D vwCl (mq_tys cI cL cB cZ) t ∧ va_D (va_A (wd_C a cI cL cB cZ z S) sz) (wd_C a cI cL cB cZ z u)) (va_A (wd_C a cI cL cB cZ z S) sz)) 0 0 (va_A (wd_C a cI cL cB cZ z S) sz) := by
  refine Met.ofW (cc := cX5_topSign) (maxL := 1) (ret := (some .int)) (by decide) rfl ?_
  intro p e s m args below meth c s₁ B hml hv
  obtain ⟨rfl, hsz, hP, hK, hD0⟩ := hv
  have hr := B.returns
  have hlocks := B.notSynchronized
  have hts := atoms_spec (ws := zc_X5_topSign :: mq_T) B.pre
  have hown : s.vm.findClass RX5 = some m.cls := findClass_of_methodNamed B.named
  subst hsz
  have hD := hD0.self (sz := s.heap.size)
  generalize hAe : va_A (wd_C a cI cL cB cZ z S) s.heap.size = A at hD ⊢
  have hA : ∀ q : Nat, s.heap.size ≤ q → A q := fun q h => by rw [← hAe]; exact Or.inr h
  have hl := lv_entry ([.ref (a 20)]) (n := 1) (Nat.le_of_ble_eq_true rfl)
  rw [lg_entry_eq]
  generalize (lg_sl ([.ref (a 20)]) ++ List.replicate (1 - (lg_sl ([.ref (a 20)])).length) Slot.unset).toArray = ls at hl ⊢
  have hl : lv_has ls 1 [(0, .ref (a 20))] := hl
  refine zw_X5_topSign_0 (A := A) ⟨B.exec, B.bytes, hml, hown, hts, hK, hA⟩ (fun H locs ls pc dg hP hD hS => ?_) s.heap [] ls h hl hP hD va_S.rf
  exact W.iret B.exec B.bytes hr (fun t ht hW => ⟨⟨_, _, rfl, ⟨rfl, rfl⟩, by rw [ht]; exact hP, va_K.moved hW.alike hK, hD⟩, hS.F ht⟩) hS.2.2 dg
theorem zt_X5_topSign_c : zc_X5_topSign ∈ mq_T := mq_T_mem (mq_t3 (List.mem_of_getElem? (i := 39) rfl)) rfl
theorem zt_X5_topSign_i : Cond.instanceMethod yX5_topSign ∈ mq_T := mq_T_mem (mq_t3 (List.mem_of_getElem? (i := 38) rfl)) rfl
theorem zt_X5_topSign_s : Cond.selects RX5 yX5_topSign yX5_topSign ∈ mq_T := mq_T_at 12 (by decide +kernel)
set_option maxHeartbeats 4000000 in
theorem zk_X5_topSign {p : Program} {l : Launch} {e : Env} {R : Room} {s : State} {m : MethodId} {args : Array Value} {below : List Frame} {meth : Method} {c : Code} {A : Nat → Prop} {D : va_G} {a z : Nat → Nat} {cI cL cB cZ : ClassId} {Q : State → Prop} {cc : ByteArray} {nL idx pc N : Nat} {own : String} {c1 : Cond} {H : Heap} {locs : List Loc} {ls : Array Slot} {rest : List Value} {S : mq_St} {res : Int32} (C : mq_C p s m args c A D cI cL cB cZ cc nL own c1) (hlk : Cond.methodLink own idx yX5_topSign ∈ mq_T) (hR : zr_X5_topSign.frames + 1 ≤ R.frames ∧ 8 + (1 + 11) + zr_X5_topSign.locals ≤ R.locals) (h : zf_X5_topSign N z S = some res) (hP : va_P D vwCl (wd_C a cI cL cB cZ z S) H) (hD : va_D A (wd_C a cI cL cB cZ z S)) (hS : va_S A s.heap H locs) (hls : ls.size = nL) (hrest : (rest.map fun v => v.category).sum ≤ 8) (hdg : decode cc pc = .ok (.invokevirtual idx, 3)) (kk : ∀ (H1 : Heap) (locs1 : List Loc), va_P D vwCl (wd_C a cI cL cB cZ z S) H1 → va_D A (wd_C a cI cL cB cZ z S) → va_S A s.heap H1 locs1 → W p l e R s m args below meth c H1 locs1 0 0 Q (F0 m (pc + 3) ls (.int res :: rest))) : W p l e R s m args below meth c H locs 0 0 Q (F0 m pc ls (.ref (a 20) :: rest)) := by
  obtain ⟨hx, hb, hml, hown, hts, hK, hA⟩ := C
  have hFc := mq_freeI hD hS hA
  refine va_calli (va_runV (As := []) (rest := rest) ⟨hx, hb, hml, hown, hts⟩ (zm_X5_topSign l D a z cI cL cB cZ H.size N S res h) (cwV 0 hts (mq_goodL (mq_wsV hlk zt_X5_topSign_i zt_X5_topSign_s zt_ini_X5 zt_X5_topSign_c)) rfl rfl rfl (by decide +kernel) hR) ⟨fun a U g mk q => ⟨q.1, q.2.1, q.2.2.1, va_K.moved (u := U) (U := U.calling g mk a) (Vm.Alike.refl U.vm) q.2.2.2.1, q.2.2.2.2⟩, zy_C_20 hK hP, fun U hU hW => ⟨rfl, by rw [hU], by rw [hU]; exact hP, va_K.moved hW.alike hK, hD.weaken (fun _ _ _ _ => trivial)⟩⟩ rfl rfl hls rfl (lv_room hrest) hdg ⟨Nat.zero_le _, Nat.zero_le _⟩) hS (fun q _ h => hFc q h) hFc (fun r u t H1 locs ht hvm hw hB hz1 hk1 hS => ?_)
  obtain ⟨rfl, rfl⟩ := hw
  obtain ⟨hP1, hK1, hD1⟩ := hB
  rw [ht] at hP1
  exact kk H1 locs hP1 (hD1.weaken (fun _ _ _ h => hFc _ h)) hS
/-! ModalDesk$Reader.popMark()I -/
def zr_X5_popMark : Room := { frames := 0, cells := 0, slots := 0, locals := 0 }
def zc_X5_popMark : Cond := .code yX5_popMark cX5_popMark 1 (some .int)
def zf_X5_popMark (N : Nat) (z : Nat → Nat) (S : mq_St) : Option (Int32 × mq_St) := (if (0 : Int32) < (S.1 6) then (mq_nS (mq_si S 6 (((S.1 6) - (1 : Int32)))) (fun S1 => (mq_ck ((S1.1 6)) 400 (some ((S1.2.1 14 ((S1.1 6)).toNatClampNeg), S1))))) else (some ((0 : Int32), S)))
set_option maxHeartbeats 4000000 in
set_option maxRecDepth 100000 in
theorem zw_X5_popMark_0 {p : Program} {l : Launch} {e : Env} {s : State} {m : MethodId} {args : Array Value} {below : List Frame} {meth : Method} {c : Code} {A : Nat → Prop} {D : va_G} {a z : Nat → Nat} {cI cL cB cZ : ClassId} {Q : State → Prop} {N : Nat} {res : Int32 × mq_St} (C : mq_C p s m args c A D cI cL cB cZ cX5_popMark 1 RX5 zc_X5_popMark) (hret : ∀ (H : Heap) (locs : List Loc) (ls : Array Slot) (pc : Nat), decode cX5_popMark pc = .ok (.ireturn, 1) → va_P D vwCl (wd_C a cI cL cB cZ z res.2) H → va_D A (wd_C a cI cL cB cZ z res.2) → va_S A s.heap H locs → W p l e zr_X5_popMark s m args below meth c H locs 0 0 Q (F0 m pc ls [.int res.1])) (S : mq_St) (H : Heap) (locs : List Loc) (ls : Array Slot) (h : zf_X5_popMark N z S = some res) (hl : lv_has ls 1 [(0, .ref (a 20))]) (hP : va_P D vwCl (wd_C a cI cL cB cZ z S) H) (hD : va_D A (wd_C a cI cL cB cZ z S)) (hS : va_S A s.heap H locs) : W p l e zr_X5_popMark s m args below meth c H locs 0 0 Q (F0 m 0 ls []) := by
  obtain ⟨hx, hb, hml, hown, hts, hK, hA⟩ := id C
  unfold zf_X5_popMark at h
  refine lv_aload_n hx hb dX5_popMark_0 rfl (lv_at hl 0 rfl) ?_
  refine va_get (D := D) (ci := 5) (v := .int ((S.1 6))) (C := RX5) (T := TX5) (N := 12) hx hb hts (zi_X5 _) hown hK hP 20 rfl rfl 5 (by decide) (hts _ (List.mem_cons_of_mem _ zt_f_X5_71)) (fun _ h9 => h9) rfl dX5_popMark_1 ?_
  refine lv_if_gt (tgt := 9) hx hb dX5_popMark_4 (by decide) (fun c3 => ?_) (fun c3 => ?_)
  · replace h := mq_it c3 h
    refine lv_aload_n hx hb dX5_popMark_9 rfl (lv_at hl 0 rfl) ?_
    refine lv_dup hx hb dX5_popMark_10 rfl ?_
    refine va_get (D := D) (ci := 5) (v := .int ((S.1 6))) (C := RX5) (T := TX5) (N := 12) hx hb hts (zi_X5 _) hown hK hP 20 rfl rfl 5 (by decide) (hts _ (List.mem_cons_of_mem _ zt_f_X5_71)) (fun _ h9 => h9) rfl dX5_popMark_11 ?_
    refine lv_iconst (v := (1 : Int32)) hx hb dX5_popMark_14 (by decide) ?_
    refine lv_isub hx hb dX5_popMark_15 ?_
    refine mq_put (w := wd_C a cI cL cB cZ z) (S := S) (D := D) (ci := 5) (v := ((S.1 6) - (1 : Int32))) (ty := .int) (C := RX5) (T := TX5) (N := 12) hx hb hts (zi_X5 _) tyX5 tyX5_ok nmX5 hown hK hP hD hS 20 rfl rfl 5 (by decide) (hts _ (List.mem_cons_of_mem _ zt_f_X5_71)) (fun _ h9 => h9) rfl (by decide +kernel) rfl rfl (Nat.le_of_ble_eq_true rfl) dX5_popMark_16 6 (zs_wd_C_i_20_6 _ _ _ _ _ _ _ _) (fun S1 eS1 H locs hP hD hS => ?_)
    replace h := mq_nS_go eS1 h
    refine lv_aload_n hx hb dX5_popMark_19 rfl (lv_at hl 0 rfl) ?_
    refine va_get (D := D) (ci := 5) (v := .ref (a 22)) (C := RX5) (T := TX5) (N := 12) hx hb hts (zi_X5 _) hown hK hP 20 rfl rfl 3 (by decide) (hts _ (List.mem_cons_of_mem _ zt_f_X5_15)) (fun _ h9 => h9) rfl dX5_popMark_20 ?_
    refine lv_aload_n hx hb dX5_popMark_23 rfl (lv_at hl 0 rfl) ?_
    refine va_get (D := D) (ci := 5) (v := .int ((S1.1 6))) (C := RX5) (T := TX5) (N := 12) hx hb hts (zi_X5 _) hown hK hP 20 rfl rfl 5 (by decide) (hts _ (List.mem_cons_of_mem _ zt_f_X5_71)) (fun _ h9 => h9) rfl dX5_popMark_24 ?_
    have hi2 := mq_ck_in h
    replace h := mq_ck_go h
    refine va_iald (f := S1.2.1 14) hx hb hK hP 22 0 rfl rfl hi2 dX5_popMark_27 ?_
    cases h
    exact hret H locs ls 28 dX5_popMark_28 hP hD hS
  · replace h := mq_if c3 h
    refine lv_iconst (v := (0 : Int32)) hx hb dX5_popMark_7 (by decide) ?_
    cases h
    exact hret H locs ls 8 dX5_popMark_8 hP hD hS
set_option maxHeartbeats 4000000 in
set_option maxRecDepth 100000 in
theorem zm_X5_popMark (l : Launch) (D : va_G) (a z : Nat → Nat) (cI cL cB cZ : ClassId) (sz N : Nat) (S : mq_St) (res : Int32 × mq_St) (h : zf_X5_popMark N z S = some res) : Met l yX5_popMark (zc_X5_popMark :: mq_T) zr_X5_popMark (va_Pc [.ref (a 20)] (fun U => U.heap.size = sz ∧ va_P D vwCl (wd_C a cI cL cB cZ z S) U.heap ∧ va_K D vwCl (mq_tys cI cL cB cZ) U ∧ va_D (fun _ => True) (wd_C a cI cL cB cZ z S))) (va_Qi (fun (r : Int32) (u : mq_St) => r = res.1 ∧ u = res.2) (fun u t => va_P D vwCl (wd_C a cI cL cB cZ z u) t.heap ∧ va_K D vwCl (mq_tys cI cL cB cZ) t ∧ va_D (va_A (wd_C a cI cL cB cZ z S) sz) (wd_C a cI cL cB cZ z u)) (va_A (wd_C a cI cL cB cZ z S) sz)) 0 0 (va_A (wd_C a cI cL cB cZ z S) sz) := by
  refine Met.ofW (cc := cX5_popMark) (maxL := 1) (ret := (some .int)) (by decide) rfl ?_
  intro p e s m args below meth c s₁ B hml hv
  obtain ⟨rfl, hsz, hP, hK, hD0⟩ := hv
  have hr := B.returns
  have hlocks := B.notSynchronized
  have hts := atoms_spec (ws := zc_X5_popMark :: mq_T) B.pre
  have hown : s.vm.findClass RX5 = some m.cls := findClass_of_methodNamed B.named
  subst hsz
  have hD := hD0.self (sz := s.heap.size)
  generalize hAe : va_A (wd_C a cI cL cB cZ z S) s.heap.size = A at hD ⊢
  have hA : ∀ q : Nat, s.heap.size ≤ q → A q := fun q h => by rw [← hAe]; exact Or.inr h
  have hl := lv_entry ([.ref (a 20)]) (n := 1) (Nat.le_of_ble_eq_true rfl)
  rw [lg_entry_eq]
  generalize (lg_sl ([.ref (a 20)]) ++ List.replicate (1 - (lg_sl ([.ref (a 20)])).length) Slot.unset).toArray = ls at hl ⊢
  have hl : lv_has ls 1 [(0, .ref (a 20))] := hl
  refine zw_X5_popMark_0 (A := A) ⟨B.exec, B.bytes, hml, hown, hts, hK, hA⟩ (fun H locs ls pc dg hP hD hS => ?_) S s.heap [] ls h hl hP hD va_S.rf
  exact W.iret B.exec B.bytes hr (fun t ht hW => ⟨⟨_, _, rfl, ⟨rfl, rfl⟩, by rw [ht]; exact hP, va_K.moved hW.alike hK, hD⟩, hS.F ht⟩) hS.2.2 dg
theorem zt_X5_popMark_c : zc_X5_popMark ∈ mq_T := mq_T_mem (mq_t3 (List.mem_of_getElem? (i := 43) rfl)) rfl
theorem zt_X5_popMark_i : Cond.instanceMethod yX5_popMark ∈ mq_T := mq_T_mem (mq_t3 (List.mem_of_getElem? (i := 42) rfl)) rfl
theorem zt_X5_popMark_s : Cond.selects RX5 yX5_popMark yX5_popMark ∈ mq_T := mq_T_at 13 (by decide +kernel)
set_option maxHeartbeats 4000000 in
theorem zk_X5_popMark {p : Program} {l : Launch} {e : Env} {R : Room} {s : State} {m : MethodId} {args : Array Value} {below : List Frame} {meth : Method} {c : Code} {A : Nat → Prop} {D : va_G} {a z : Nat → Nat} {cI cL cB cZ : ClassId} {Q : State → Prop} {cc : ByteArray} {nL idx pc N : Nat} {own : String} {c1 : Cond} {H : Heap} {locs : List Loc} {ls : Array Slot} {rest : List Value} {S : mq_St} {res : Int32 × mq_St} (C : mq_C p s m args c A D cI cL cB cZ cc nL own c1) (hlk : Cond.methodLink own idx yX5_popMark ∈ mq_T) (hR : zr_X5_popMark.frames + 1 ≤ R.frames ∧ 8 + (1 + 11) + zr_X5_popMark.locals ≤ R.locals) (h : zf_X5_popMark N z S = some res) (hP : va_P D vwCl (wd_C a cI cL cB cZ z S) H) (hD : va_D A (wd_C a cI cL cB cZ z S)) (hS : va_S A s.heap H locs) (hls : ls.size = nL) (hrest : (rest.map fun v => v.category).sum ≤ 8) (hdg : decode cc pc = .ok (.invokevirtual idx, 3)) (kk : ∀ (H1 : Heap) (locs1 : List Loc), va_P D vwCl (wd_C a cI cL cB cZ z res.2) H1 → va_D A (wd_C a cI cL cB cZ z res.2) → va_S A s.heap H1 locs1 → W p l e R s m args below meth c H1 locs1 0 0 Q (F0 m (pc + 3) ls (.int res.1 :: rest))) : W p l e R s m args below meth c H locs 0 0 Q (F0 m pc ls (.ref (a 20) :: rest)) := by
  obtain ⟨hx, hb, hml, hown, hts, hK, hA⟩ := C
  have hFc := mq_freeI hD hS hA
  refine va_calli (va_runV (As := []) (rest := rest) ⟨hx, hb, hml, hown, hts⟩ (zm_X5_popMark l D a z cI cL cB cZ H.size N S res h) (cwV 0 hts (mq_goodL (mq_wsV hlk zt_X5_popMark_i zt_X5_popMark_s zt_ini_X5 zt_X5_popMark_c)) rfl rfl rfl (by decide +kernel) hR) ⟨fun a U g mk q => ⟨q.1, q.2.1, q.2.2.1, va_K.moved (u := U) (U := U.calling g mk a) (Vm.Alike.refl U.vm) q.2.2.2.1, q.2.2.2.2⟩, zy_C_20 hK hP, fun U hU hW => ⟨rfl, by rw [hU], by rw [hU]; exact hP, va_K.moved hW.alike hK, hD.weaken (fun _ _ _ _ => trivial)⟩⟩ rfl rfl hls rfl (lv_room hrest) hdg ⟨Nat.zero_le _, Nat.zero_le _⟩) hS (fun q _ h => hFc q h) hFc (fun r u t H1 locs ht hvm hw hB hz1 hk1 hS => ?_)
  obtain ⟨rfl, rfl⟩ := hw
  obtain ⟨hP1, hK1, hD1⟩ := hB
  rw [ht] at hP1
  exact kk H1 locs hP1 (hD1.weaken (fun _ _ _ h => hFc _ h)) hS
theorem zt_m_X5_149 : Cond.methodLink RX5 149 yX2_may ∈ mq_T := mq_T_mem (mq_t3 (List.mem_of_getElem? (i := 48) rfl)) rfl
/-! ModalDesk$Reader.prefixed(II)I -/
def zr_X5_prefixed : Room := { frames := 2, cells := 0, slots := 0, locals := 45 }
def zc_X5_prefixed : Cond := .code yX5_prefixed cX5_prefixed 3 (some .int)
def zf_X5_prefixed (N : Nat) (z : Nat → Nat) (v1 : Int32) (v2 : Int32) (S : mq_St) : Option (Int32 × mq_St) := (if v1 = (91 : Int32) then (mq_cl (zf_X2_need N z (v2) S) (fun q13v S15 => (some (q13v, S15)))) else (if v1 = (60 : Int32) then (mq_cl (zf_X2_may N z (v2) S) (fun q9v S11 => (some (q9v, S11)))) else (if (S.1 10) = (0 : Int32) then (mq_cp (zf_X2_deny N z (v2) (mq_pull S [] [] [])) (fun q1 => (some (q1, S)))) else (mq_cp (zf_X2_deny N z (v2) (mq_pull S [] [] [])) (fun q3 => (mq_cl (zf_X2_need N z (q3) S) (fun q5v S7 => (some (q5v, S7)))))))))
set_option maxHeartbeats 4000000 in
set_option maxRecDepth 100000 in
theorem zw_X5_prefixed_0 {p : Program} {l : Launch} {e : Env} {s : State} {m : MethodId} {args : Array Value} {below : List Frame} {meth : Method} {c : Code} {A : Nat → Prop} {D : va_G} {a z : Nat → Nat} {cI cL cB cZ : ClassId} {Q : State → Prop} {N : Nat} {res : Int32 × mq_St} (C : mq_C p s m args c A D cI cL cB cZ cX5_prefixed 3 RX5 zc_X5_prefixed) (hret : ∀ (H : Heap) (locs : List Loc) (ls : Array Slot) (pc : Nat), decode cX5_prefixed pc = .ok (.ireturn, 1) → va_P D vwCl (wd_C a cI cL cB cZ z res.2) H → va_D A (wd_C a cI cL cB cZ z res.2) → va_S A s.heap H locs → W p l e zr_X5_prefixed s m args below meth c H locs 0 0 Q (F0 m pc ls [.int res.1])) (v1 : Int32) (v2 : Int32) (S : mq_St) (H : Heap) (locs : List Loc) (ls : Array Slot) (h : zf_X5_prefixed N z v1 v2 S = some res) (hl : lv_has ls 3 [(0, .ref (a 20)), (1, .int (v1)), (2, .int (v2))]) (hP : va_P D vwCl (wd_C a cI cL cB cZ z S) H) (hD : va_D A (wd_C a cI cL cB cZ z S)) (hS : va_S A s.heap H locs) : W p l e zr_X5_prefixed s m args below meth c H locs 0 0 Q (F0 m 0 ls []) := by
  obtain ⟨hx, hb, hml, hown, hts, hK, hA⟩ := id C
  unfold zf_X5_prefixed at h
  refine lv_iload_n hx hb dX5_prefixed_0 rfl (lv_at hl 1 rfl) ?_
  refine lv_bipush (v := (91 : Int32)) hx hb dX5_prefixed_1 (by decide) ?_
  refine lv_icmp_ne (tgt := 15) hx hb dX5_prefixed_3 (by decide) (fun c16 => ?_) (fun c16 => ?_)
  · replace h := mq_if c16 h
    refine lv_iload_n hx hb dX5_prefixed_15 rfl (lv_at hl 1 rfl) ?_
    refine lv_bipush (v := (60 : Int32)) hx hb dX5_prefixed_16 (by decide) ?_
    refine lv_icmp_ne (tgt := 30) hx hb dX5_prefixed_18 (by decide) (fun c12 => ?_) (fun c12 => ?_)
    · replace h := mq_if c12 h
      refine lv_aload_n hx hb dX5_prefixed_30 rfl (lv_at hl 0 rfl) ?_
      refine va_get (D := D) (ci := 5) (v := .int ((S.1 10))) (C := RX5) (T := TX5) (N := 12) hx hb hts (zi_X5 _) hown hK hP 20 rfl rfl 9 (by decide) (hts _ (List.mem_cons_of_mem _ zt_f_X5_84)) (fun _ h9 => h9) rfl dX5_prefixed_31 ?_
      refine lv_if_eq (tgt := 51) hx hb dX5_prefixed_34 (by decide) (fun c8 => ?_) (fun c8 => ?_)
      · replace h := mq_it c8 h
        refine lv_iload_n hx hb dX5_prefixed_51 rfl (lv_at hl 2 rfl) ?_
        obtain ⟨q1, hc2, h⟩ := mq_cp_go h
        refine zv_X2_deny (a := mq_ad a []) (z := z) [] C zt_m_X5_128 ⟨by decide, by decide⟩ hc2 rfl (by decide) hP hD hS hl.1 (Nat.le_of_ble_eq_true rfl) dX5_prefixed_52 (fun H locs hP hD hS => ?_)
        cases h
        exact hret H locs ls 55 dX5_prefixed_55 hP hD hS
      · replace h := mq_if c8 h
        refine lv_aload_n hx hb dX5_prefixed_37 rfl (lv_at hl 0 rfl) ?_
        refine va_get (D := D) (ci := 5) (v := .ref (a 14)) (C := RX5) (T := TX5) (N := 12) hx hb hts (zi_X5 _) hown hK hP 20 rfl rfl 1 (by decide) (hts _ (List.mem_cons_of_mem _ zt_f_X5_26)) (fun _ h9 => h9) rfl dX5_prefixed_38 ?_
        refine lv_iload_n hx hb dX5_prefixed_41 rfl (lv_at hl 2 rfl) ?_
        obtain ⟨q3, hc4, h⟩ := mq_cp_go h
        refine zv_X2_deny (a := mq_ad a []) (z := z) [] C zt_m_X5_128 ⟨by decide, by decide⟩ hc4 rfl (by decide) hP hD hS hl.1 (Nat.le_of_ble_eq_true rfl) dX5_prefixed_42 (fun H locs hP hD hS => ?_)
        obtain ⟨q5, hc6, h⟩ := mq_cl_go h
        refine zk_X2_need C zt_m_X5_134 ⟨by decide, by decide⟩ hc6 hP hD hS hl.1 (Nat.le_of_ble_eq_true rfl) dX5_prefixed_45 (fun H locs hP hD hS => ?_)
        obtain ⟨S7, eS7⟩ : ∃ y, y = q5.2 := ⟨_, rfl⟩
        rw [← eS7] at hP hD h
        refine lv_goto (tgt := 55) hx hb dX5_prefixed_48 (by decide) ?_
        cases h
        exact hret H locs ls 55 dX5_prefixed_55 hP hD hS
    · replace h := mq_it (by simpa using c12) h
      refine lv_aload_n hx hb dX5_prefixed_21 rfl (lv_at hl 0 rfl) ?_
      refine va_get (D := D) (ci := 5) (v := .ref (a 14)) (C := RX5) (T := TX5) (N := 12) hx hb hts (zi_X5 _) hown hK hP 20 rfl rfl 1 (by decide) (hts _ (List.mem_cons_of_mem _ zt_f_X5_26)) (fun _ h9 => h9) rfl dX5_prefixed_22 ?_
      refine lv_iload_n hx hb dX5_prefixed_25 rfl (lv_at hl 2 rfl) ?_
      obtain ⟨q9, hc10, h⟩ := mq_cl_go h
      refine zk_X2_may C zt_m_X5_149 ⟨by decide, by decide⟩ hc10 hP hD hS hl.1 (Nat.le_of_ble_eq_true rfl) dX5_prefixed_26 (fun H locs hP hD hS => ?_)
      obtain ⟨S11, eS11⟩ : ∃ y, y = q9.2 := ⟨_, rfl⟩
      rw [← eS11] at hP hD h
      cases h
      exact hret H locs ls 29 dX5_prefixed_29 hP hD hS
  · replace h := mq_it (by simpa using c16) h
    refine lv_aload_n hx hb dX5_prefixed_6 rfl (lv_at hl 0 rfl) ?_
    refine va_get (D := D) (ci := 5) (v := .ref (a 14)) (C := RX5) (T := TX5) (N := 12) hx hb hts (zi_X5 _) hown hK hP 20 rfl rfl 1 (by decide) (hts _ (List.mem_cons_of_mem _ zt_f_X5_26)) (fun _ h9 => h9) rfl dX5_prefixed_7 ?_
    refine lv_iload_n hx hb dX5_prefixed_10 rfl (lv_at hl 2 rfl) ?_
    obtain ⟨q13, hc14, h⟩ := mq_cl_go h
    refine zk_X2_need C zt_m_X5_134 ⟨by decide, by decide⟩ hc14 hP hD hS hl.1 (Nat.le_of_ble_eq_true rfl) dX5_prefixed_11 (fun H locs hP hD hS => ?_)
    obtain ⟨S15, eS15⟩ : ∃ y, y = q13.2 := ⟨_, rfl⟩
    rw [← eS15] at hP hD h
    cases h
    exact hret H locs ls 14 dX5_prefixed_14 hP hD hS
set_option maxHeartbeats 4000000 in
set_option maxRecDepth 100000 in
theorem zm_X5_prefixed (l : Launch) (D : va_G) (a z : Nat → Nat) (cI cL cB cZ : ClassId) (sz N : Nat) (v1 : Int32) (v2 : Int32) (S : mq_St) (res : Int32 × mq_St) (h : zf_X5_prefixed N z v1 v2 S = some res) : Met l yX5_prefixed (zc_X5_prefixed :: mq_T) zr_X5_prefixed (va_Pc [.ref (a 20), .int (v1), .int (v2)] (fun U => U.heap.size = sz ∧ va_P D vwCl (wd_C a cI cL cB cZ z S) U.heap ∧ va_K D vwCl (mq_tys cI cL cB cZ) U ∧ va_D (fun _ => True) (wd_C a cI cL cB cZ z S))) (va_Qi (fun (r : Int32) (u : mq_St) => r = res.1 ∧ u = res.2) (fun u t => va_P D vwCl (wd_C a cI cL cB cZ z u) t.heap ∧ va_K D vwCl (mq_tys cI cL cB cZ) t ∧ va_D (va_A (wd_C a cI cL cB cZ z S) sz) (wd_C a cI cL cB cZ z u)) (va_A (wd_C a cI cL cB cZ z S) sz)) 0 0 (va_A (wd_C a cI cL cB cZ z S) sz) := by
  refine Met.ofW (cc := cX5_prefixed) (maxL := 3) (ret := (some .int)) (by decide) rfl ?_
  intro p e s m args below meth c s₁ B hml hv
  obtain ⟨rfl, hsz, hP, hK, hD0⟩ := hv
  have hr := B.returns
  have hlocks := B.notSynchronized
  have hts := atoms_spec (ws := zc_X5_prefixed :: mq_T) B.pre
  have hown : s.vm.findClass RX5 = some m.cls := findClass_of_methodNamed B.named
  subst hsz
  have hD := hD0.self (sz := s.heap.size)
  generalize hAe : va_A (wd_C a cI cL cB cZ z S) s.heap.size = A at hD ⊢
  have hA : ∀ q : Nat, s.heap.size ≤ q → A q := fun q h => by rw [← hAe]; exact Or.inr h
  have hl := lv_entry ([.ref (a 20), .int (v1), .int (v2)]) (n := 3) (Nat.le_of_ble_eq_true rfl)
  rw [lg_entry_eq]
  generalize (lg_sl ([.ref (a 20), .int (v1), .int (v2)]) ++ List.replicate (3 - (lg_sl ([.ref (a 20), .int (v1), .int (v2)])).length) Slot.unset).toArray = ls at hl ⊢
  have hl : lv_has ls 3 [(0, .ref (a 20)), (1, .int (v1)), (2, .int (v2))] := hl
  refine zw_X5_prefixed_0 (A := A) ⟨B.exec, B.bytes, hml, hown, hts, hK, hA⟩ (fun H locs ls pc dg hP hD hS => ?_) v1 v2 S s.heap [] ls h hl hP hD va_S.rf
  exact W.iret B.exec B.bytes hr (fun t ht hW => ⟨⟨_, _, rfl, ⟨rfl, rfl⟩, by rw [ht]; exact hP, va_K.moved hW.alike hK, hD⟩, hS.F ht⟩) hS.2.2 dg
theorem zt_X5_prefixed_c : zc_X5_prefixed ∈ mq_T := mq_T_mem (mq_t3 (List.mem_of_getElem? (i := 47) rfl)) rfl
theorem zt_X5_prefixed_i : Cond.instanceMethod yX5_prefixed ∈ mq_T := mq_T_mem (mq_t3 (List.mem_of_getElem? (i := 46) rfl)) rfl
theorem zt_X5_prefixed_s : Cond.selects RX5 yX5_prefixed yX5_prefixed ∈ mq_T := mq_T_at 14 (by decide +kernel)
set_option maxHeartbeats 4000000 in
theorem zk_X5_prefixed {p : Program} {l : Launch} {e : Env} {R : Room} {s : State} {m : MethodId} {args : Array Value} {below : List Frame} {meth : Method} {c : Code} {A : Nat → Prop} {D : va_G} {a z : Nat → Nat} {cI cL cB cZ : ClassId} {Q : State → Prop} {cc : ByteArray} {nL idx pc N : Nat} {own : String} {c1 : Cond} {H : Heap} {locs : List Loc} {ls : Array Slot} {rest : List Value} {S : mq_St} {res : Int32 × mq_St} {v1 : Int32} {v2 : Int32} (C : mq_C p s m args c A D cI cL cB cZ cc nL own c1) (hlk : Cond.methodLink own idx yX5_prefixed ∈ mq_T) (hR : zr_X5_prefixed.frames + 1 ≤ R.frames ∧ 8 + (3 + 11) + zr_X5_prefixed.locals ≤ R.locals) (h : zf_X5_prefixed N z v1 v2 S = some res) (hP : va_P D vwCl (wd_C a cI cL cB cZ z S) H) (hD : va_D A (wd_C a cI cL cB cZ z S)) (hS : va_S A s.heap H locs) (hls : ls.size = nL) (hrest : (rest.map fun v => v.category).sum ≤ 8) (hdg : decode cc pc = .ok (.invokevirtual idx, 3)) (kk : ∀ (H1 : Heap) (locs1 : List Loc), va_P D vwCl (wd_C a cI cL cB cZ z res.2) H1 → va_D A (wd_C a cI cL cB cZ z res.2) → va_S A s.heap H1 locs1 → W p l e R s m args below meth c H1 locs1 0 0 Q (F0 m (pc + 3) ls (.int res.1 :: rest))) : W p l e R s m args below meth c H locs 0 0 Q (F0 m pc ls (.int (v2) :: .int (v1) :: .ref (a 20) :: rest)) := by
  obtain ⟨hx, hb, hml, hown, hts, hK, hA⟩ := C
  have hFc := mq_freeI hD hS hA
  refine va_calli (va_runV (As := [.int (v1), .int (v2)]) (rest := rest) ⟨hx, hb, hml, hown, hts⟩ (zm_X5_prefixed l D a z cI cL cB cZ H.size N v1 v2 S res h) (cwV 2 hts (mq_goodL (mq_wsV hlk zt_X5_prefixed_i zt_X5_prefixed_s zt_ini_X5 zt_X5_prefixed_c)) rfl rfl rfl (by decide +kernel) hR) ⟨fun a U g mk q => ⟨q.1, q.2.1, q.2.2.1, va_K.moved (u := U) (U := U.calling g mk a) (Vm.Alike.refl U.vm) q.2.2.2.1, q.2.2.2.2⟩, zy_C_20 hK hP, fun U hU hW => ⟨rfl, by rw [hU], by rw [hU]; exact hP, va_K.moved hW.alike hK, hD.weaken (fun _ _ _ _ => trivial)⟩⟩ rfl rfl hls rfl (lv_room hrest) hdg ⟨Nat.zero_le _, Nat.zero_le _⟩) hS (fun q _ h => hFc q h) hFc (fun r u t H1 locs ht hvm hw hB hz1 hk1 hS => ?_)
  obtain ⟨rfl, rfl⟩ := hw
  obtain ⟨hP1, hK1, hD1⟩ := hB
  rw [ht] at hP1
  exact kk H1 locs hP1 (hD1.weaken (fun _ _ _ h => hFc _ h)) hS
theorem zs_wd_C_i_20_9 (a z : Nat → Nat) (cI cL cB cZ : ClassId) (S : mq_St) (v : Int32) : (wd_C a cI cL cB cZ z S).set 20 (a 20, .inr (5, ([.ref (a 3), .ref (a 14), .ref (a 21), .ref (a 22), .int (S.1 5), .int (S.1 6), .int (S.1 7), .int (S.1 8), .int (S.1 9), .int (S.1 10), .int (S.1 11), .int (S.1 12)] : List Value).set 8 (.int v))) = (wd_C a cI cL cB cZ z (mq_si S 9 v)) := rfl
theorem zt_m_X5_140 : Cond.methodLink RX5 140 yX5_topSign ∈ mq_T := mq_T_mem (mq_t3 (List.mem_of_getElem? (i := 36) rfl)) rfl
theorem zt_m_X5_60 : Cond.methodLink RX5 60 yX5_popMark ∈ mq_T := mq_T_mem (mq_t3 (List.mem_of_getElem? (i := 40) rfl)) rfl
theorem zt_m_X5_146 : Cond.methodLink RX5 146 yX5_prefixed ∈ mq_T := mq_T_mem (mq_t3 (List.mem_of_getElem? (i := 44) rfl)) rfl
theorem zt_m_X5_113 : Cond.methodLink RX5 113 yX5_pushMark ∈ mq_T := mq_T_mem (mq_t3 (List.mem_of_getElem? (i := 28) rfl)) rfl
/-! ModalDesk$Reader.endOperand()V -/
def zr_X5_endOperand : Room := { frames := 3, cells := 0, slots := 0, locals := 67 }
def zc_X5_endOperand : Cond := .code yX5_endOperand cX5_endOperand 3 none
def zf_X5_endOperand_10b (N : Nat) (z : Nat → Nat) (k10 : Int32 → mq_St → Option (Unit × mq_St)) (v1 : Int32) (S : mq_St) : Option (Unit × mq_St) := (if v1 ≤ (0 : Int32) then (some ((), S)) else (mq_cp (zf_X5_topSign N z S) (fun q4 => (mq_cp (zf_X5_isPrefix N z (q4) (mq_pull S [] [] [])) (fun q6 => (if q6 = (0 : Int32) then (some ((), S)) else (mq_cp (zf_X5_topSign N z S) (fun q8 => (mq_nI (q8) (fun x10 => (mq_nS (mq_si S 5 (((S.1 5) - (1 : Int32)))) (fun S11 => (mq_nS (mq_si S11 7 (((S11.1 7) - (1 : Int32)))) (fun S12 => (mq_cl (zf_X5_popMark N z S12) (fun q13v S15 => (mq_cl (zf_X5_prefixed N z (x10) (q13v) S15) (fun q16v S18 => (mq_cl (zf_X5_pushMark N z (q16v) S18) (fun q19v S21 => (mq_nI (v1 + (-1 : Int32)) (fun x22 => (k10 (x22) S21)))))))))))))))))))))))
def zf_X5_endOperand_10 (N : Nat) (z : Nat → Nat) : Nat → Int32 → mq_St → Option (Unit × mq_St)
  | 0, _, _ => none
  | n + 1, v1, S => zf_X5_endOperand_10b N z (fun v1 S => zf_X5_endOperand_10 N z n v1 S) v1 S
def zf_X5_endOperand (N : Nat) (z : Nat → Nat) (S : mq_St) : Option (Unit × mq_St) := (mq_cz ((0 : Int32)) (mq_nS (mq_si S 9 ((0 : Int32))) (fun S1 => (mq_nI ((S1.1 5)) (fun x3 => (zf_X5_endOperand_10 N z N (x3) S1))))))
set_option maxHeartbeats 4000000 in
set_option maxRecDepth 100000 in
theorem zw_X5_endOperand_10b {p : Program} {l : Launch} {e : Env} {s : State} {m : MethodId} {args : Array Value} {below : List Frame} {meth : Method} {c : Code} {A : Nat → Prop} {D : va_G} {a z : Nat → Nat} {cI cL cB cZ : ClassId} {Q : State → Prop} {N : Nat} {res : Unit × mq_St} {k10 : Int32 → mq_St → Option (Unit × mq_St)} (C : mq_C p s m args c A D cI cL cB cZ cX5_endOperand 3 RX5 zc_X5_endOperand) (hret : ∀ (H : Heap) (locs : List Loc) (ls : Array Slot) (pc : Nat), decode cX5_endOperand pc = .ok (.return_, 1) → va_P D vwCl (wd_C a cI cL cB cZ z res.2) H → va_D A (wd_C a cI cL cB cZ z res.2) → va_S A s.heap H locs → W p l e zr_X5_endOperand s m args below meth c H locs 0 0 Q (F0 m pc ls [])) (hk10 : ∀ (v1 : Int32) (S : mq_St) (H : Heap) (locs : List Loc) (ls : Array Slot), k10 v1 S = some res → lv_has ls 3 [(0, .ref (a 20)), (1, .int (v1))] → va_P D vwCl (wd_C a cI cL cB cZ z S) H → va_D A (wd_C a cI cL cB cZ z S) → va_S A s.heap H locs → W p l e zr_X5_endOperand s m args below meth c H locs 0 0 Q (F0 m 10 ls [])) (v1 : Int32) (S : mq_St) (H : Heap) (locs : List Loc) (ls : Array Slot) (h : zf_X5_endOperand_10b N z k10 v1 S = some res) (hl : lv_has ls 3 [(0, .ref (a 20)), (1, .int (v1))]) (hP : va_P D vwCl (wd_C a cI cL cB cZ z S) H) (hD : va_D A (wd_C a cI cL cB cZ z S)) (hS : va_S A s.heap H locs) : W p l e zr_X5_endOperand s m args below meth c H locs 0 0 Q (F0 m 10 ls []) := by
  obtain ⟨hx, hb, hml, hown, hts, hK, hA⟩ := id C
  unfold zf_X5_endOperand_10b at h
  refine lv_iload_n hx hb dX5_endOperand_10 rfl (lv_at hl 1 rfl) ?_
  refine lv_if_le (tgt := 68) hx hb dX5_endOperand_11 (by decide) (fun c24 => ?_) (fun c24 => ?_)
  · replace h := mq_it c24 h
    cases h
    exact hret H locs ls 68 dX5_endOperand_68 hP hD hS
  · replace h := mq_if c24 h
    refine lv_aload_n hx hb dX5_endOperand_14 rfl (lv_at hl 0 rfl) ?_
    obtain ⟨q4, hc5, h⟩ := mq_cp_go h
    refine zk_X5_topSign C zt_m_X5_140 ⟨by decide, by decide⟩ hc5 hP hD hS hl.1 (Nat.le_of_ble_eq_true rfl) dX5_endOperand_15 (fun H locs hP hD hS => ?_)
    obtain ⟨q6, hc7, h⟩ := mq_cp_go h
    refine zv_X5_isPrefix (a := mq_ad a []) (z := z) [] C zt_m_X5_143 ⟨by decide, by decide⟩ hc7 rfl (by decide) hP hD hS hl.1 (Nat.le_of_ble_eq_true rfl) dX5_endOperand_18 (fun H locs hP hD hS => ?_)
    refine lv_if_eq (tgt := 68) hx hb dX5_endOperand_21 (by decide) (fun c23 => ?_) (fun c23 => ?_)
    · replace h := mq_it c23 h
      cases h
      exact hret H locs ls 68 dX5_endOperand_68 hP hD hS
    · replace h := mq_if c23 h
      refine lv_aload_n hx hb dX5_endOperand_24 rfl (lv_at hl 0 rfl) ?_
      obtain ⟨q8, hc9, h⟩ := mq_cp_go h
      refine zk_X5_topSign C zt_m_X5_140 ⟨by decide, by decide⟩ hc9 hP hD hS hl.1 (Nat.le_of_ble_eq_true rfl) dX5_endOperand_25 (fun H locs hP hD hS => ?_)
      refine lv_topi (fun x10 ex10 => ?_)
      replace h := mq_nI_go ex10 h
      refine lv_istore_n (lv' := [(2, .int (x10)), (0, .ref (a 20)), (1, .int (v1))]) hx hb dX5_endOperand_28 rfl hl (by decide) rfl (fun ls hl => ?_)
      refine lv_aload_n hx hb dX5_endOperand_29 rfl (lv_at hl 1 rfl) ?_
      refine lv_dup hx hb dX5_endOperand_30 rfl ?_
      refine va_get (D := D) (ci := 5) (v := .int ((S.1 5))) (C := RX5) (T := TX5) (N := 12) hx hb hts (zi_X5 _) hown hK hP 20 rfl rfl 4 (by decide) (hts _ (List.mem_cons_of_mem _ zt_f_X5_68)) (fun _ h9 => h9) rfl dX5_endOperand_31 ?_
      refine lv_iconst (v := (1 : Int32)) hx hb dX5_endOperand_34 (by decide) ?_
      refine lv_isub hx hb dX5_endOperand_35 ?_
      refine mq_put (w := wd_C a cI cL cB cZ z) (S := S) (D := D) (ci := 5) (v := ((S.1 5) - (1 : Int32))) (ty := .int) (C := RX5) (T := TX5) (N := 12) hx hb hts (zi_X5 _) tyX5 tyX5_ok nmX5 hown hK hP hD hS 20 rfl rfl 4 (by decide) (hts _ (List.mem_cons_of_mem _ zt_f_X5_68)) (fun _ h9 => h9) rfl (by decide +kernel) rfl rfl (Nat.le_of_ble_eq_true rfl) dX5_endOperand_36 5 (zs_wd_C_i_20_5 _ _ _ _ _ _ _ _) (fun S11 eS11 H locs hP hD hS => ?_)
      replace h := mq_nS_go eS11 h
      refine lv_aload_n hx hb dX5_endOperand_39 rfl (lv_at hl 1 rfl) ?_
      refine lv_dup hx hb dX5_endOperand_40 rfl ?_
      refine va_get (D := D) (ci := 5) (v := .int ((S11.1 7))) (C := RX5) (T := TX5) (N := 12) hx hb hts (zi_X5 _) hown hK hP 20 rfl rfl 6 (by decide) (hts _ (List.mem_cons_of_mem _ zt_f_X5_74)) (fun _ h9 => h9) rfl dX5_endOperand_41 ?_
      refine lv_iconst (v := (1 : Int32)) hx hb dX5_endOperand_44 (by decide) ?_
      refine lv_isub hx hb dX5_endOperand_45 ?_
      refine mq_put (w := wd_C a cI cL cB cZ z) (S := S11) (D := D) (ci := 5) (v := ((S11.1 7) - (1 : Int32))) (ty := .int) (C := RX5) (T := TX5) (N := 12) hx hb hts (zi_X5 _) tyX5 tyX5_ok nmX5 hown hK hP hD hS 20 rfl rfl 6 (by decide) (hts _ (List.mem_cons_of_mem _ zt_f_X5_74)) (fun _ h9 => h9) rfl (by decide +kernel) rfl rfl (Nat.le_of_ble_eq_true rfl) dX5_endOperand_46 7 (zs_wd_C_i_20_7 _ _ _ _ _ _ _ _) (fun S12 eS12 H locs hP hD hS => ?_)
      replace h := mq_nS_go eS12 h
      refine lv_aload_n hx hb dX5_endOperand_49 rfl (lv_at hl 1 rfl) ?_
      refine lv_aload_n hx hb dX5_endOperand_50 rfl (lv_at hl 1 rfl) ?_
      refine lv_iload_n hx hb dX5_endOperand_51 rfl (lv_at hl 0 rfl) ?_
      refine lv_aload_n hx hb dX5_endOperand_52 rfl (lv_at hl 1 rfl) ?_
      obtain ⟨q13, hc14, h⟩ := mq_cl_go h
      refine zk_X5_popMark C zt_m_X5_60 ⟨by decide, by decide⟩ hc14 hP hD hS hl.1 (Nat.le_of_ble_eq_true rfl) dX5_endOperand_53 (fun H locs hP hD hS => ?_)
      obtain ⟨S15, eS15⟩ : ∃ y, y = q13.2 := ⟨_, rfl⟩
      rw [← eS15] at hP hD h
      obtain ⟨q16, hc17, h⟩ := mq_cl_go h
      refine zk_X5_prefixed C zt_m_X5_146 ⟨by decide, by decide⟩ hc17 hP hD hS hl.1 (Nat.le_of_ble_eq_true rfl) dX5_endOperand_56 (fun H locs hP hD hS => ?_)
      obtain ⟨S18, eS18⟩ : ∃ y, y = q16.2 := ⟨_, rfl⟩
      rw [← eS18] at hP hD h
      obtain ⟨q19, hc20, h⟩ := mq_cl_go h
      refine zk_X5_pushMark C zt_m_X5_113 ⟨by decide, by decide⟩ hc20 hP hD hS hl.1 (Nat.le_of_ble_eq_true rfl) dX5_endOperand_59 (fun H locs hP hD hS => ?_)
      obtain ⟨S21, eS21⟩ : ∃ y, y = q19.2 := ⟨_, rfl⟩
      rw [← eS21] at hP hD h
      obtain ⟨x22, ex22⟩ : ∃ y : Int32, y = v1 + (-1 : Int32) := ⟨_, rfl⟩
      replace h := mq_nI_go ex22 h
      refine lv_iinc (v := x22) (lv' := [(1, .int (x22)), (2, .int (x10)), (0, .ref (a 20))]) hx hb dX5_endOperand_62 hl (k := 2) rfl (by rw [ex22]; rfl) (by decide) rfl (fun ls hl => ?_)
      refine lv_goto (tgt := 10) hx hb dX5_endOperand_65 (by decide) ?_
      exact hk10 (x22) S21 H locs ls h (lv_sub hl [2, 0] rfl) hP hD hS
set_option maxHeartbeats 4000000 in
set_option maxRecDepth 100000 in
theorem zw_X5_endOperand_10 {p : Program} {l : Launch} {e : Env} {s : State} {m : MethodId} {args : Array Value} {below : List Frame} {meth : Method} {c : Code} {A : Nat → Prop} {D : va_G} {a z : Nat → Nat} {cI cL cB cZ : ClassId} {Q : State → Prop} {N : Nat} {res : Unit × mq_St} (C : mq_C p s m args c A D cI cL cB cZ cX5_endOperand 3 RX5 zc_X5_endOperand) (hret : ∀ (H : Heap) (locs : List Loc) (ls : Array Slot) (pc : Nat), decode cX5_endOperand pc = .ok (.return_, 1) → va_P D vwCl (wd_C a cI cL cB cZ z res.2) H → va_D A (wd_C a cI cL cB cZ z res.2) → va_S A s.heap H locs → W p l e zr_X5_endOperand s m args below meth c H locs 0 0 Q (F0 m pc ls [])) : ∀ (n : Nat) (v1 : Int32) (S : mq_St) (H : Heap) (locs : List Loc) (ls : Array Slot) (h : zf_X5_endOperand_10 N z n v1 S = some res) (hl : lv_has ls 3 [(0, .ref (a 20)), (1, .int (v1))]) (hP : va_P D vwCl (wd_C a cI cL cB cZ z S) H) (hD : va_D A (wd_C a cI cL cB cZ z S)) (hS : va_S A s.heap H locs), W p l e zr_X5_endOperand s m args below meth c H locs 0 0 Q (F0 m 10 ls []) := by
  intro n
  induction n with
  | zero =>
    intro v1 S H locs ls h hl hP hD hS
    exact nomatch (show (none : Option (Unit × mq_St)) = some res from h)
  | succ n ih =>
    intro v1 S H locs ls h hl hP hD hS
    exact zw_X5_endOperand_10b C hret (fun v1 S H locs ls h hl hP hD hS => ih v1 S H locs ls h hl hP hD hS) v1 S H locs ls h hl hP hD hS
set_option maxHeartbeats 4000000 in
set_option maxRecDepth 100000 in
theorem zw_X5_endOperand_0 {p : Program} {l : Launch} {e : Env} {s : State} {m : MethodId} {args : Array Value} {below : List Frame} {meth : Method} {c : Code} {A : Nat → Prop} {D : va_G} {a z : Nat → Nat} {cI cL cB cZ : ClassId} {Q : State → Prop} {N : Nat} {res : Unit × mq_St} (C : mq_C p s m args c A D cI cL cB cZ cX5_endOperand 3 RX5 zc_X5_endOperand) (hret : ∀ (H : Heap) (locs : List Loc) (ls : Array Slot) (pc : Nat), decode cX5_endOperand pc = .ok (.return_, 1) → va_P D vwCl (wd_C a cI cL cB cZ z res.2) H → va_D A (wd_C a cI cL cB cZ z res.2) → va_S A s.heap H locs → W p l e zr_X5_endOperand s m args below meth c H locs 0 0 Q (F0 m pc ls [])) (S : mq_St) (H : Heap) (locs : List Loc) (ls : Array Slot) (h : zf_X5_endOperand N z S = some res) (hl : lv_has ls 3 [(0, .ref (a 20))]) (hP : va_P D vwCl (wd_C a cI cL cB cZ z S) H) (hD : va_D A (wd_C a cI cL cB cZ z S)) (hS : va_S A s.heap H locs) : W p l e zr_X5_endOperand s m args below meth c H locs 0 0 Q (F0 m 0 ls []) := by
  obtain ⟨hx, hb, hml, hown, hts, hK, hA⟩ := id C
  unfold zf_X5_endOperand at h
  refine lv_aload_n hx hb dX5_endOperand_0 rfl (lv_at hl 0 rfl) ?_
  refine lv_iconst (v := (0 : Int32)) hx hb dX5_endOperand_1 (by decide) ?_
  have hz2 := mq_cz_in h
  replace h := mq_cz_go h
  refine mq_put (w := wd_C a cI cL cB cZ z) (S := S) (D := D) (ci := 5) (v := (0 : Int32)) (ty := .boolean) (C := RX5) (T := TX5) (N := 12) hx hb hts (zi_X5 _) tyX5 tyX5_ok nmX5 hown hK hP hD hS 20 rfl rfl 8 (by decide) (hts _ (List.mem_cons_of_mem _ zt_f_X5_80)) (fun _ h9 => h9) rfl (by decide +kernel) hz2.1 hz2.2 (Nat.le_of_ble_eq_true rfl) dX5_endOperand_2 9 (zs_wd_C_i_20_9 _ _ _ _ _ _ _ _) (fun S1 eS1 H locs hP hD hS => ?_)
  replace h := mq_nS_go eS1 h
  refine lv_aload_n hx hb dX5_endOperand_5 rfl (lv_at hl 0 rfl) ?_
  refine va_get (D := D) (ci := 5) (v := .int ((S1.1 5))) (C := RX5) (T := TX5) (N := 12) hx hb hts (zi_X5 _) hown hK hP 20 rfl rfl 4 (by decide) (hts _ (List.mem_cons_of_mem _ zt_f_X5_68)) (fun _ h9 => h9) rfl dX5_endOperand_6 ?_
  refine lv_topi (fun x3 ex3 => ?_)
  replace h := mq_nI_go ex3 h
  refine lv_istore_n (lv' := [(1, .int (x3)), (0, .ref (a 20))]) hx hb dX5_endOperand_9 rfl hl (by decide) rfl (fun ls hl => ?_)
  exact zw_X5_endOperand_10 C hret N (x3) S1 H locs ls h (lv_sub hl [1, 0] rfl) hP hD hS
set_option maxHeartbeats 4000000 in
set_option maxRecDepth 100000 in
theorem zm_X5_endOperand (l : Launch) (D : va_G) (a z : Nat → Nat) (cI cL cB cZ : ClassId) (sz N : Nat) (S : mq_St) (res : Unit × mq_St) (h : zf_X5_endOperand N z S = some res) : Met l yX5_endOperand (zc_X5_endOperand :: mq_T) zr_X5_endOperand (va_Pc [.ref (a 20)] (fun U => U.heap.size = sz ∧ va_P D vwCl (wd_C a cI cL cB cZ z S) U.heap ∧ va_K D vwCl (mq_tys cI cL cB cZ) U ∧ va_D (fun _ => True) (wd_C a cI cL cB cZ z S))) (va_Qv (fun u : mq_St => u = res.2) (fun u t => va_P D vwCl (wd_C a cI cL cB cZ z u) t.heap ∧ va_K D vwCl (mq_tys cI cL cB cZ) t ∧ va_D (va_A (wd_C a cI cL cB cZ z S) sz) (wd_C a cI cL cB cZ z u)) (va_A (wd_C a cI cL cB cZ z S) sz)) 0 0 (va_A (wd_C a cI cL cB cZ z S) sz) := by
  refine Met.ofW (cc := cX5_endOperand) (maxL := 3) (ret := none) (by decide) rfl ?_
  intro p e s m args below meth c s₁ B hml hv
  obtain ⟨rfl, hsz, hP, hK, hD0⟩ := hv
  have hr := B.returns
  have hlocks := B.notSynchronized
  have hts := atoms_spec (ws := zc_X5_endOperand :: mq_T) B.pre
  have hown : s.vm.findClass RX5 = some m.cls := findClass_of_methodNamed B.named
  subst hsz
  have hD := hD0.self (sz := s.heap.size)
  generalize hAe : va_A (wd_C a cI cL cB cZ z S) s.heap.size = A at hD ⊢
  have hA : ∀ q : Nat, s.heap.size ≤ q → A q := fun q h => by rw [← hAe]; exact Or.inr h
  have hl := lv_entry ([.ref (a 20)]) (n := 3) (Nat.le_of_ble_eq_true rfl)
  rw [lg_entry_eq]
  generalize (lg_sl ([.ref (a 20)]) ++ List.replicate (3 - (lg_sl ([.ref (a 20)])).length) Slot.unset).toArray = ls at hl ⊢
  have hl : lv_has ls 3 [(0, .ref (a 20))] := hl
  refine zw_X5_endOperand_0 (A := A) ⟨B.exec, B.bytes, hml, hown, hts, hK, hA⟩ (fun H locs ls pc dg hP hD hS => ?_) S s.heap [] ls h hl hP hD va_S.rf
  exact W.vret B.exec B.bytes hr (fun t ht hW => ⟨⟨_, rfl, rfl, by rw [ht]; exact hP, va_K.moved hW.alike hK, hD⟩, hS.F ht⟩) hS.2.2 dg
theorem zt_X5_endOperand_c : zc_X5_endOperand ∈ mq_T := mq_T_mem (mq_t3 (List.mem_of_getElem? (i := 35) rfl)) rfl
theorem zt_X5_endOperand_i : Cond.instanceMethod yX5_endOperand ∈ mq_T := mq_T_mem (mq_t3 (List.mem_of_getElem? (i := 34) rfl)) rfl
theorem zt_X5_endOperand_s : Cond.selects RX5 yX5_endOperand yX5_endOperand ∈ mq_T := mq_T_at 11 (by decide +kernel)
set_option maxHeartbeats 4000000 in
theorem zk_X5_endOperand {p : Program} {l : Launch} {e : Env} {R : Room} {s : State} {m : MethodId} {args : Array Value} {below : List Frame} {meth : Method} {c : Code} {A : Nat → Prop} {D : va_G} {a z : Nat → Nat} {cI cL cB cZ : ClassId} {Q : State → Prop} {cc : ByteArray} {nL idx pc N : Nat} {own : String} {c1 : Cond} {H : Heap} {locs : List Loc} {ls : Array Slot} {rest : List Value} {S : mq_St} {res : Unit × mq_St} (C : mq_C p s m args c A D cI cL cB cZ cc nL own c1) (hlk : Cond.methodLink own idx yX5_endOperand ∈ mq_T) (hR : zr_X5_endOperand.frames + 1 ≤ R.frames ∧ 8 + (3 + 11) + zr_X5_endOperand.locals ≤ R.locals) (h : zf_X5_endOperand N z S = some res) (hP : va_P D vwCl (wd_C a cI cL cB cZ z S) H) (hD : va_D A (wd_C a cI cL cB cZ z S)) (hS : va_S A s.heap H locs) (hls : ls.size = nL) (hrest : (rest.map fun v => v.category).sum ≤ 8) (hdg : decode cc pc = .ok (.invokevirtual idx, 3)) (kk : ∀ (H1 : Heap) (locs1 : List Loc), va_P D vwCl (wd_C a cI cL cB cZ z res.2) H1 → va_D A (wd_C a cI cL cB cZ z res.2) → va_S A s.heap H1 locs1 → W p l e R s m args below meth c H1 locs1 0 0 Q (F0 m (pc + 3) ls rest)) : W p l e R s m args below meth c H locs 0 0 Q (F0 m pc ls (.ref (a 20) :: rest)) := by
  obtain ⟨hx, hb, hml, hown, hts, hK, hA⟩ := C
  have hFc := mq_freeI hD hS hA
  refine va_callv (va_runV (As := []) (rest := rest) ⟨hx, hb, hml, hown, hts⟩ (zm_X5_endOperand l D a z cI cL cB cZ H.size N S res h) (cwV 0 hts (mq_goodL (mq_wsV hlk zt_X5_endOperand_i zt_X5_endOperand_s zt_ini_X5 zt_X5_endOperand_c)) rfl rfl rfl (by decide +kernel) hR) ⟨fun a U g mk q => ⟨q.1, q.2.1, q.2.2.1, va_K.moved (u := U) (U := U.calling g mk a) (Vm.Alike.refl U.vm) q.2.2.2.1, q.2.2.2.2⟩, zy_C_20 hK hP, fun U hU hW => ⟨rfl, by rw [hU], by rw [hU]; exact hP, va_K.moved hW.alike hK, hD.weaken (fun _ _ _ _ => trivial)⟩⟩ rfl rfl hls rfl (lv_room hrest) hdg ⟨Nat.zero_le _, Nat.zero_le _⟩) hS (fun q _ h => hFc q h) hFc (fun u t H1 locs ht hvm hw hB hz1 hk1 hS => ?_)
  subst hw
  obtain ⟨hP1, hK1, hD1⟩ := hB
  rw [ht] at hP1
  exact kk H1 locs hP1 (hD1.weaken (fun _ _ _ h => hFc _ h)) hS
theorem zt_m_X5_159 : Cond.methodLink RX5 159 yX2_either ∈ mq_T := mq_T_mem (mq_t3 (List.mem_of_getElem? (i := 65) rfl)) rfl
theorem zt_m_X5_156 : Cond.methodLink RX5 156 yX2_both ∈ mq_T := mq_T_mem (mq_t3 (List.mem_of_getElem? (i := 61) rfl)) rfl
/-! ModalDesk$Reader.joined(III)I -/
def zr_X5_joined : Room := { frames := 2, cells := 0, slots := 0, locals := 46 }
def zc_X5_joined : Cond := .code yX5_joined cX5_joined 6 (some .int)
def zf_X5_joined (N : Nat) (z : Nat → Nat) (v1 : Int32) (v2 : Int32) (v3 : Int32) (S : mq_St) : Option (Int32 × mq_St) := (if v1 = (38 : Int32) then (mq_cl (zf_X2_both N z (v2) (v3) S) (fun q40v S42 => (some (q40v, S42)))) else (if v1 = (124 : Int32) then (mq_cl (zf_X2_either N z (v2) (v3) S) (fun q36v S38 => (some (q36v, S38)))) else (mq_cp (zf_X2_deny N z (v2) (mq_pull S [] [] [])) (fun q1 => (mq_cl (zf_X2_either N z (q1) (v3) S) (fun q3v S5 => (mq_nI (q3v) (fun x6 => (if v1 = (62 : Int32) then (if (S5.1 10) = (0 : Int32) then (some (x6, S5)) else (mq_cl (zf_X2_need N z (x6) S5) (fun q31v S33 => (some (q31v, S33))))) else (if (S5.1 10) = (0 : Int32) then (mq_cp (zf_X2_deny N z (v3) (mq_pull S5 [] [] [])) (fun q7 => (mq_cl (zf_X2_either N z (v2) (q7) S5) (fun q9v S11 => (mq_cl (zf_X2_both N z (x6) (q9v) S11) (fun q12v S14 => (some (q12v, S14)))))))) else (mq_cp (zf_X2_deny N z (v3) (mq_pull S5 [] [] [])) (fun q15 => (mq_cl (zf_X2_either N z (q15) (v2) S5) (fun q17v S19 => (mq_nI (q17v) (fun x20 => (mq_cl (zf_X2_need N z (x6) S19) (fun q21v S23 => (mq_cl (zf_X2_need N z (x20) S23) (fun q24v S26 => (mq_cl (zf_X2_both N z (q21v) (q24v) S26) (fun q27v S29 => (some (q27v, S29))))))))))))))))))))))))
set_option maxHeartbeats 4000000 in
set_option maxRecDepth 100000 in
theorem zw_X5_joined_0 {p : Program} {l : Launch} {e : Env} {s : State} {m : MethodId} {args : Array Value} {below : List Frame} {meth : Method} {c : Code} {A : Nat → Prop} {D : va_G} {a z : Nat → Nat} {cI cL cB cZ : ClassId} {Q : State → Prop} {N : Nat} {res : Int32 × mq_St} (C : mq_C p s m args c A D cI cL cB cZ cX5_joined 6 RX5 zc_X5_joined) (hret : ∀ (H : Heap) (locs : List Loc) (ls : Array Slot) (pc : Nat), decode cX5_joined pc = .ok (.ireturn, 1) → va_P D vwCl (wd_C a cI cL cB cZ z res.2) H → va_D A (wd_C a cI cL cB cZ z res.2) → va_S A s.heap H locs → W p l e zr_X5_joined s m args below meth c H locs 0 0 Q (F0 m pc ls [.int res.1])) (v1 : Int32) (v2 : Int32) (v3 : Int32) (S : mq_St) (H : Heap) (locs : List Loc) (ls : Array Slot) (h : zf_X5_joined N z v1 v2 v3 S = some res) (hl : lv_has ls 6 [(0, .ref (a 20)), (1, .int (v1)), (2, .int (v2)), (3, .int (v3))]) (hP : va_P D vwCl (wd_C a cI cL cB cZ z S) H) (hD : va_D A (wd_C a cI cL cB cZ z S)) (hS : va_S A s.heap H locs) : W p l e zr_X5_joined s m args below meth c H locs 0 0 Q (F0 m 0 ls []) := by
  obtain ⟨hx, hb, hml, hown, hts, hK, hA⟩ := id C
  unfold zf_X5_joined at h
  refine lv_iload_n hx hb dX5_joined_0 rfl (lv_at hl 1 rfl) ?_
  refine lv_bipush (v := (38 : Int32)) hx hb dX5_joined_1 (by decide) ?_
  refine lv_icmp_ne (tgt := 16) hx hb dX5_joined_3 (by decide) (fun c43 => ?_) (fun c43 => ?_)
  · replace h := mq_if c43 h
    refine lv_iload_n hx hb dX5_joined_16 rfl (lv_at hl 1 rfl) ?_
    refine lv_bipush (v := (124 : Int32)) hx hb dX5_joined_17 (by decide) ?_
    refine lv_icmp_ne (tgt := 32) hx hb dX5_joined_19 (by decide) (fun c39 => ?_) (fun c39 => ?_)
    · replace h := mq_if c39 h
      refine lv_aload_n hx hb dX5_joined_32 rfl (lv_at hl 0 rfl) ?_
      refine va_get (D := D) (ci := 5) (v := .ref (a 14)) (C := RX5) (T := TX5) (N := 12) hx hb hts (zi_X5 _) hown hK hP 20 rfl rfl 1 (by decide) (hts _ (List.mem_cons_of_mem _ zt_f_X5_26)) (fun _ h9 => h9) rfl dX5_joined_33 ?_
      refine lv_iload_n hx hb dX5_joined_36 rfl (lv_at hl 2 rfl) ?_
      obtain ⟨q1, hc2, h⟩ := mq_cp_go h
      refine zv_X2_deny (a := mq_ad a []) (z := z) [] C zt_m_X5_128 ⟨by decide, by decide⟩ hc2 rfl (by decide) hP hD hS hl.1 (Nat.le_of_ble_eq_true rfl) dX5_joined_37 (fun H locs hP hD hS => ?_)
      refine lv_iload_n hx hb dX5_joined_40 rfl (lv_at hl 3 rfl) ?_
      obtain ⟨q3, hc4, h⟩ := mq_cl_go h
      refine zk_X2_either C zt_m_X5_159 ⟨by decide, by decide⟩ hc4 hP hD hS hl.1 (Nat.le_of_ble_eq_true rfl) dX5_joined_41 (fun H locs hP hD hS => ?_)
      obtain ⟨S5, eS5⟩ : ∃ y, y = q3.2 := ⟨_, rfl⟩
      rw [← eS5] at hP hD h
      refine lv_topi (fun x6 ex6 => ?_)
      replace h := mq_nI_go ex6 h
      refine lv_istore (lv' := [(4, .int (x6)), (0, .ref (a 20)), (1, .int (v1)), (2, .int (v2)), (3, .int (v3))]) hx hb dX5_joined_44 hl (by decide) rfl (fun ls hl => ?_)
      refine lv_iload_n hx hb dX5_joined_46 rfl (lv_at hl 2 rfl) ?_
      refine lv_bipush (v := (62 : Int32)) hx hb dX5_joined_47 (by decide) ?_
      refine lv_icmp_ne (tgt := 74) hx hb dX5_joined_49 (by decide) (fun c35 => ?_) (fun c35 => ?_)
      · replace h := mq_if c35 h
        refine lv_aload_n hx hb dX5_joined_74 rfl (lv_at hl 1 rfl) ?_
        refine va_get (D := D) (ci := 5) (v := .int ((S5.1 10))) (C := RX5) (T := TX5) (N := 12) hx hb hts (zi_X5 _) hown hK hP 20 rfl rfl 9 (by decide) (hts _ (List.mem_cons_of_mem _ zt_f_X5_84)) (fun _ h9 => h9) rfl dX5_joined_75 ?_
        refine lv_if_eq (tgt := 121) hx hb dX5_joined_78 (by decide) (fun c30 => ?_) (fun c30 => ?_)
        · replace h := mq_it c30 h
          refine lv_aload_n hx hb dX5_joined_121 rfl (lv_at hl 1 rfl) ?_
          refine va_get (D := D) (ci := 5) (v := .ref (a 14)) (C := RX5) (T := TX5) (N := 12) hx hb hts (zi_X5 _) hown hK hP 20 rfl rfl 1 (by decide) (hts _ (List.mem_cons_of_mem _ zt_f_X5_26)) (fun _ h9 => h9) rfl dX5_joined_122 ?_
          refine lv_iload hx hb dX5_joined_125 (lv_at hl 0 rfl) ?_
          refine lv_aload_n hx hb dX5_joined_127 rfl (lv_at hl 1 rfl) ?_
          refine va_get (D := D) (ci := 5) (v := .ref (a 14)) (C := RX5) (T := TX5) (N := 12) hx hb hts (zi_X5 _) hown hK hP 20 rfl rfl 1 (by decide) (hts _ (List.mem_cons_of_mem _ zt_f_X5_26)) (fun _ h9 => h9) rfl dX5_joined_128 ?_
          refine lv_iload_n hx hb dX5_joined_131 rfl (lv_at hl 3 rfl) ?_
          refine lv_iload_n hx hb dX5_joined_132 rfl (lv_at hl 4 rfl) ?_
          obtain ⟨q7, hc8, h⟩ := mq_cp_go h
          refine zv_X2_deny (a := mq_ad a []) (z := z) [] C zt_m_X5_128 ⟨by decide, by decide⟩ hc8 rfl (by decide) hP hD hS hl.1 (Nat.le_of_ble_eq_true rfl) dX5_joined_133 (fun H locs hP hD hS => ?_)
          obtain ⟨q9, hc10, h⟩ := mq_cl_go h
          refine zk_X2_either C zt_m_X5_159 ⟨by decide, by decide⟩ hc10 hP hD hS hl.1 (Nat.le_of_ble_eq_true rfl) dX5_joined_136 (fun H locs hP hD hS => ?_)
          obtain ⟨S11, eS11⟩ : ∃ y, y = q9.2 := ⟨_, rfl⟩
          rw [← eS11] at hP hD h
          obtain ⟨q12, hc13, h⟩ := mq_cl_go h
          refine zk_X2_both C zt_m_X5_156 ⟨by decide, by decide⟩ hc13 hP hD hS hl.1 (Nat.le_of_ble_eq_true rfl) dX5_joined_139 (fun H locs hP hD hS => ?_)
          obtain ⟨S14, eS14⟩ : ∃ y, y = q12.2 := ⟨_, rfl⟩
          rw [← eS14] at hP hD h
          cases h
          exact hret H locs ls 142 dX5_joined_142 hP hD hS
        · replace h := mq_if c30 h
          refine lv_aload_n hx hb dX5_joined_81 rfl (lv_at hl 1 rfl) ?_
          refine va_get (D := D) (ci := 5) (v := .ref (a 14)) (C := RX5) (T := TX5) (N := 12) hx hb hts (zi_X5 _) hown hK hP 20 rfl rfl 1 (by decide) (hts _ (List.mem_cons_of_mem _ zt_f_X5_26)) (fun _ h9 => h9) rfl dX5_joined_82 ?_
          refine lv_iload_n hx hb dX5_joined_85 rfl (lv_at hl 4 rfl) ?_
          obtain ⟨q15, hc16, h⟩ := mq_cp_go h
          refine zv_X2_deny (a := mq_ad a []) (z := z) [] C zt_m_X5_128 ⟨by decide, by decide⟩ hc16 rfl (by decide) hP hD hS hl.1 (Nat.le_of_ble_eq_true rfl) dX5_joined_86 (fun H locs hP hD hS => ?_)
          refine lv_iload_n hx hb dX5_joined_89 rfl (lv_at hl 3 rfl) ?_
          obtain ⟨q17, hc18, h⟩ := mq_cl_go h
          refine zk_X2_either C zt_m_X5_159 ⟨by decide, by decide⟩ hc18 hP hD hS hl.1 (Nat.le_of_ble_eq_true rfl) dX5_joined_90 (fun H locs hP hD hS => ?_)
          obtain ⟨S19, eS19⟩ : ∃ y, y = q17.2 := ⟨_, rfl⟩
          rw [← eS19] at hP hD h
          refine lv_topi (fun x20 ex20 => ?_)
          replace h := mq_nI_go ex20 h
          refine lv_istore (lv' := [(5, .int (x20)), (4, .int (x6)), (0, .ref (a 20)), (1, .int (v1)), (2, .int (v2)), (3, .int (v3))]) hx hb dX5_joined_93 hl (by decide) rfl (fun ls hl => ?_)
          refine lv_aload_n hx hb dX5_joined_95 rfl (lv_at hl 2 rfl) ?_
          refine va_get (D := D) (ci := 5) (v := .ref (a 14)) (C := RX5) (T := TX5) (N := 12) hx hb hts (zi_X5 _) hown hK hP 20 rfl rfl 1 (by decide) (hts _ (List.mem_cons_of_mem _ zt_f_X5_26)) (fun _ h9 => h9) rfl dX5_joined_96 ?_
          refine lv_aload_n hx hb dX5_joined_99 rfl (lv_at hl 2 rfl) ?_
          refine va_get (D := D) (ci := 5) (v := .ref (a 14)) (C := RX5) (T := TX5) (N := 12) hx hb hts (zi_X5 _) hown hK hP 20 rfl rfl 1 (by decide) (hts _ (List.mem_cons_of_mem _ zt_f_X5_26)) (fun _ h9 => h9) rfl dX5_joined_100 ?_
          refine lv_iload hx hb dX5_joined_103 (lv_at hl 1 rfl) ?_
          obtain ⟨q21, hc22, h⟩ := mq_cl_go h
          refine zk_X2_need C zt_m_X5_134 ⟨by decide, by decide⟩ hc22 hP hD hS hl.1 (Nat.le_of_ble_eq_true rfl) dX5_joined_105 (fun H locs hP hD hS => ?_)
          obtain ⟨S23, eS23⟩ : ∃ y, y = q21.2 := ⟨_, rfl⟩
          rw [← eS23] at hP hD h
          refine lv_aload_n hx hb dX5_joined_108 rfl (lv_at hl 2 rfl) ?_
          refine va_get (D := D) (ci := 5) (v := .ref (a 14)) (C := RX5) (T := TX5) (N := 12) hx hb hts (zi_X5 _) hown hK hP 20 rfl rfl 1 (by decide) (hts _ (List.mem_cons_of_mem _ zt_f_X5_26)) (fun _ h9 => h9) rfl dX5_joined_109 ?_
          refine lv_iload hx hb dX5_joined_112 (lv_at hl 0 rfl) ?_
          obtain ⟨q24, hc25, h⟩ := mq_cl_go h
          refine zk_X2_need C zt_m_X5_134 ⟨by decide, by decide⟩ hc25 hP hD hS hl.1 (Nat.le_of_ble_eq_true rfl) dX5_joined_114 (fun H locs hP hD hS => ?_)
          obtain ⟨S26, eS26⟩ : ∃ y, y = q24.2 := ⟨_, rfl⟩
          rw [← eS26] at hP hD h
          obtain ⟨q27, hc28, h⟩ := mq_cl_go h
          refine zk_X2_both C zt_m_X5_156 ⟨by decide, by decide⟩ hc28 hP hD hS hl.1 (Nat.le_of_ble_eq_true rfl) dX5_joined_117 (fun H locs hP hD hS => ?_)
          obtain ⟨S29, eS29⟩ : ∃ y, y = q27.2 := ⟨_, rfl⟩
          rw [← eS29] at hP hD h
          cases h
          exact hret H locs ls 120 dX5_joined_120 hP hD hS
      · replace h := mq_it (by simpa using c35) h
        refine lv_aload_n hx hb dX5_joined_52 rfl (lv_at hl 1 rfl) ?_
        refine va_get (D := D) (ci := 5) (v := .int ((S5.1 10))) (C := RX5) (T := TX5) (N := 12) hx hb hts (zi_X5 _) hown hK hP 20 rfl rfl 9 (by decide) (hts _ (List.mem_cons_of_mem _ zt_f_X5_84)) (fun _ h9 => h9) rfl dX5_joined_53 ?_
        refine lv_if_eq (tgt := 71) hx hb dX5_joined_56 (by decide) (fun c34 => ?_) (fun c34 => ?_)
        · replace h := mq_it c34 h
          refine lv_iload hx hb dX5_joined_71 (lv_at hl 0 rfl) ?_
          cases h
          exact hret H locs ls 73 dX5_joined_73 hP hD hS
        · replace h := mq_if c34 h
          refine lv_aload_n hx hb dX5_joined_59 rfl (lv_at hl 1 rfl) ?_
          refine va_get (D := D) (ci := 5) (v := .ref (a 14)) (C := RX5) (T := TX5) (N := 12) hx hb hts (zi_X5 _) hown hK hP 20 rfl rfl 1 (by decide) (hts _ (List.mem_cons_of_mem _ zt_f_X5_26)) (fun _ h9 => h9) rfl dX5_joined_60 ?_
          refine lv_iload hx hb dX5_joined_63 (lv_at hl 0 rfl) ?_
          obtain ⟨q31, hc32, h⟩ := mq_cl_go h
          refine zk_X2_need C zt_m_X5_134 ⟨by decide, by decide⟩ hc32 hP hD hS hl.1 (Nat.le_of_ble_eq_true rfl) dX5_joined_65 (fun H locs hP hD hS => ?_)
          obtain ⟨S33, eS33⟩ : ∃ y, y = q31.2 := ⟨_, rfl⟩
          rw [← eS33] at hP hD h
          refine lv_goto (tgt := 73) hx hb dX5_joined_68 (by decide) ?_
          cases h
          exact hret H locs ls 73 dX5_joined_73 hP hD hS
    · replace h := mq_it (by simpa using c39) h
      refine lv_aload_n hx hb dX5_joined_22 rfl (lv_at hl 0 rfl) ?_
      refine va_get (D := D) (ci := 5) (v := .ref (a 14)) (C := RX5) (T := TX5) (N := 12) hx hb hts (zi_X5 _) hown hK hP 20 rfl rfl 1 (by decide) (hts _ (List.mem_cons_of_mem _ zt_f_X5_26)) (fun _ h9 => h9) rfl dX5_joined_23 ?_
      refine lv_iload_n hx hb dX5_joined_26 rfl (lv_at hl 2 rfl) ?_
      refine lv_iload_n hx hb dX5_joined_27 rfl (lv_at hl 3 rfl) ?_
      obtain ⟨q36, hc37, h⟩ := mq_cl_go h
      refine zk_X2_either C zt_m_X5_159 ⟨by decide, by decide⟩ hc37 hP hD hS hl.1 (Nat.le_of_ble_eq_true rfl) dX5_joined_28 (fun H locs hP hD hS => ?_)
      obtain ⟨S38, eS38⟩ : ∃ y, y = q36.2 := ⟨_, rfl⟩
      rw [← eS38] at hP hD h
      cases h
      exact hret H locs ls 31 dX5_joined_31 hP hD hS
  · replace h := mq_it (by simpa using c43) h
    refine lv_aload_n hx hb dX5_joined_6 rfl (lv_at hl 0 rfl) ?_
    refine va_get (D := D) (ci := 5) (v := .ref (a 14)) (C := RX5) (T := TX5) (N := 12) hx hb hts (zi_X5 _) hown hK hP 20 rfl rfl 1 (by decide) (hts _ (List.mem_cons_of_mem _ zt_f_X5_26)) (fun _ h9 => h9) rfl dX5_joined_7 ?_
    refine lv_iload_n hx hb dX5_joined_10 rfl (lv_at hl 2 rfl) ?_
    refine lv_iload_n hx hb dX5_joined_11 rfl (lv_at hl 3 rfl) ?_
    obtain ⟨q40, hc41, h⟩ := mq_cl_go h
    refine zk_X2_both C zt_m_X5_156 ⟨by decide, by decide⟩ hc41 hP hD hS hl.1 (Nat.le_of_ble_eq_true rfl) dX5_joined_12 (fun H locs hP hD hS => ?_)
    obtain ⟨S42, eS42⟩ : ∃ y, y = q40.2 := ⟨_, rfl⟩
    rw [← eS42] at hP hD h
    cases h
    exact hret H locs ls 15 dX5_joined_15 hP hD hS
set_option maxHeartbeats 4000000 in
set_option maxRecDepth 100000 in
theorem zm_X5_joined (l : Launch) (D : va_G) (a z : Nat → Nat) (cI cL cB cZ : ClassId) (sz N : Nat) (v1 : Int32) (v2 : Int32) (v3 : Int32) (S : mq_St) (res : Int32 × mq_St) (h : zf_X5_joined N z v1 v2 v3 S = some res) : Met l yX5_joined (zc_X5_joined :: mq_T) zr_X5_joined (va_Pc [.ref (a 20), .int (v1), .int (v2), .int (v3)] (fun U => U.heap.size = sz ∧ va_P D vwCl (wd_C a cI cL cB cZ z S) U.heap ∧ va_K D vwCl (mq_tys cI cL cB cZ) U ∧ va_D (fun _ => True) (wd_C a cI cL cB cZ z S))) (va_Qi (fun (r : Int32) (u : mq_St) => r = res.1 ∧ u = res.2) (fun u t => va_P D vwCl (wd_C a cI cL cB cZ z u) t.heap ∧ va_K D vwCl (mq_tys cI cL cB cZ) t ∧ va_D (va_A (wd_C a cI cL cB cZ z S) sz) (wd_C a cI cL cB cZ z u)) (va_A (wd_C a cI cL cB cZ z S) sz)) 0 0 (va_A (wd_C a cI cL cB cZ z S) sz) := by
  refine Met.ofW (cc := cX5_joined) (maxL := 6) (ret := (some .int)) (by decide) rfl ?_
  intro p e s m args below meth c s₁ B hml hv
  obtain ⟨rfl, hsz, hP, hK, hD0⟩ := hv
  have hr := B.returns
  have hlocks := B.notSynchronized
  have hts := atoms_spec (ws := zc_X5_joined :: mq_T) B.pre
  have hown : s.vm.findClass RX5 = some m.cls := findClass_of_methodNamed B.named
  subst hsz
  have hD := hD0.self (sz := s.heap.size)
  generalize hAe : va_A (wd_C a cI cL cB cZ z S) s.heap.size = A at hD ⊢
  have hA : ∀ q : Nat, s.heap.size ≤ q → A q := fun q h => by rw [← hAe]; exact Or.inr h
  have hl := lv_entry ([.ref (a 20), .int (v1), .int (v2), .int (v3)]) (n := 6) (Nat.le_of_ble_eq_true rfl)
  rw [lg_entry_eq]
  generalize (lg_sl ([.ref (a 20), .int (v1), .int (v2), .int (v3)]) ++ List.replicate (6 - (lg_sl ([.ref (a 20), .int (v1), .int (v2), .int (v3)])).length) Slot.unset).toArray = ls at hl ⊢
  have hl : lv_has ls 6 [(0, .ref (a 20)), (1, .int (v1)), (2, .int (v2)), (3, .int (v3))] := hl
  refine zw_X5_joined_0 (A := A) ⟨B.exec, B.bytes, hml, hown, hts, hK, hA⟩ (fun H locs ls pc dg hP hD hS => ?_) v1 v2 v3 S s.heap [] ls h hl hP hD va_S.rf
  exact W.iret B.exec B.bytes hr (fun t ht hW => ⟨⟨_, _, rfl, ⟨rfl, rfl⟩, by rw [ht]; exact hP, va_K.moved hW.alike hK, hD⟩, hS.F ht⟩) hS.2.2 dg
theorem zt_X5_joined_c : zc_X5_joined ∈ mq_T := mq_T_mem (mq_t3 (List.mem_of_getElem? (i := 60) rfl)) rfl
theorem zt_X5_joined_i : Cond.instanceMethod yX5_joined ∈ mq_T := mq_T_mem (mq_t3 (List.mem_of_getElem? (i := 59) rfl)) rfl
theorem zt_X5_joined_s : Cond.selects RX5 yX5_joined yX5_joined ∈ mq_T := mq_T_at 16 (by decide +kernel)
set_option maxHeartbeats 4000000 in
theorem zk_X5_joined {p : Program} {l : Launch} {e : Env} {R : Room} {s : State} {m : MethodId} {args : Array Value} {below : List Frame} {meth : Method} {c : Code} {A : Nat → Prop} {D : va_G} {a z : Nat → Nat} {cI cL cB cZ : ClassId} {Q : State → Prop} {cc : ByteArray} {nL idx pc N : Nat} {own : String} {c1 : Cond} {H : Heap} {locs : List Loc} {ls : Array Slot} {rest : List Value} {S : mq_St} {res : Int32 × mq_St} {v1 : Int32} {v2 : Int32} {v3 : Int32} (C : mq_C p s m args c A D cI cL cB cZ cc nL own c1) (hlk : Cond.methodLink own idx yX5_joined ∈ mq_T) (hR : zr_X5_joined.frames + 1 ≤ R.frames ∧ 8 + (6 + 11) + zr_X5_joined.locals ≤ R.locals) (h : zf_X5_joined N z v1 v2 v3 S = some res) (hP : va_P D vwCl (wd_C a cI cL cB cZ z S) H) (hD : va_D A (wd_C a cI cL cB cZ z S)) (hS : va_S A s.heap H locs) (hls : ls.size = nL) (hrest : (rest.map fun v => v.category).sum ≤ 8) (hdg : decode cc pc = .ok (.invokevirtual idx, 3)) (kk : ∀ (H1 : Heap) (locs1 : List Loc), va_P D vwCl (wd_C a cI cL cB cZ z res.2) H1 → va_D A (wd_C a cI cL cB cZ z res.2) → va_S A s.heap H1 locs1 → W p l e R s m args below meth c H1 locs1 0 0 Q (F0 m (pc + 3) ls (.int res.1 :: rest))) : W p l e R s m args below meth c H locs 0 0 Q (F0 m pc ls (.int (v3) :: .int (v2) :: .int (v1) :: .ref (a 20) :: rest)) := by
  obtain ⟨hx, hb, hml, hown, hts, hK, hA⟩ := C
  have hFc := mq_freeI hD hS hA
  refine va_calli (va_runV (As := [.int (v1), .int (v2), .int (v3)]) (rest := rest) ⟨hx, hb, hml, hown, hts⟩ (zm_X5_joined l D a z cI cL cB cZ H.size N v1 v2 v3 S res h) (cwV 3 hts (mq_goodL (mq_wsV hlk zt_X5_joined_i zt_X5_joined_s zt_ini_X5 zt_X5_joined_c)) rfl rfl rfl (by decide +kernel) hR) ⟨fun a U g mk q => ⟨q.1, q.2.1, q.2.2.1, va_K.moved (u := U) (U := U.calling g mk a) (Vm.Alike.refl U.vm) q.2.2.2.1, q.2.2.2.2⟩, zy_C_20 hK hP, fun U hU hW => ⟨rfl, by rw [hU], by rw [hU]; exact hP, va_K.moved hW.alike hK, hD.weaken (fun _ _ _ _ => trivial)⟩⟩ rfl rfl hls rfl (lv_room hrest) hdg ⟨Nat.zero_le _, Nat.zero_le _⟩) hS (fun q _ h => hFc q h) hFc (fun r u t H1 locs ht hvm hw hB hz1 hk1 hS => ?_)
  obtain ⟨rfl, rfl⟩ := hw
  obtain ⟨hP1, hK1, hD1⟩ := hB
  rw [ht] at hP1
  exact kk H1 locs hP1 (hD1.weaken (fun _ _ _ h => hFc _ h)) hS
theorem zt_m_X5_152 : Cond.methodLink RX5 152 yX5_joined ∈ mq_T := mq_T_mem (mq_t3 (List.mem_of_getElem? (i := 57) rfl)) rfl
/-! ModalDesk$Reader.joinDownTo(I)V -/
def zr_X5_joinDownTo : Room := { frames := 3, cells := 0, slots := 0, locals := 71 }
def zc_X5_joinDownTo : Cond := .code yX5_joinDownTo cX5_joinDownTo 6 none
def zf_X5_joinDownTo_5b (N : Nat) (z : Nat → Nat) (k5 : Int32 → Int32 → mq_St → Option (Unit × mq_St)) (v1 : Int32) (v2 : Int32) (S : mq_St) : Option (Unit × mq_St) := (if v2 ≤ (0 : Int32) then (some ((), S)) else (mq_cp (zf_X5_topSign N z S) (fun q2 => (mq_cp (zf_X5_rankOf N z (q2) (mq_pull S [] [] [])) (fun q4 => (if q4 < v1 then (some ((), S)) else (mq_cp (zf_X5_topSign N z S) (fun q6 => (mq_nI (q6) (fun x8 => (mq_nS (mq_si S 5 (((S.1 5) - (1 : Int32)))) (fun S9 => (mq_cl (zf_X5_popMark N z S9) (fun q10v S12 => (mq_nI (q10v) (fun x13 => (mq_cl (zf_X5_popMark N z S12) (fun q14v S16 => (mq_nI (q14v) (fun x17 => (mq_cl (zf_X5_joined N z (x8) (x17) (x13) S16) (fun q18v S20 => (mq_cl (zf_X5_pushMark N z (q18v) S20) (fun q21v S23 => (mq_nI (v2 + (-1 : Int32)) (fun x24 => (k5 (v1) (x24) S23)))))))))))))))))))))))))))
def zf_X5_joinDownTo_5 (N : Nat) (z : Nat → Nat) : Nat → Int32 → Int32 → mq_St → Option (Unit × mq_St)
  | 0, _, _, _ => none
  | n + 1, v1, v2, S => zf_X5_joinDownTo_5b N z (fun v1 v2 S => zf_X5_joinDownTo_5 N z n v1 v2 S) v1 v2 S
def zf_X5_joinDownTo (N : Nat) (z : Nat → Nat) (v1 : Int32) (S : mq_St) : Option (Unit × mq_St) := (mq_nI ((S.1 5)) (fun x1 => (zf_X5_joinDownTo_5 N z N (v1) (x1) S)))
set_option maxHeartbeats 4000000 in
set_option maxRecDepth 100000 in
theorem zw_X5_joinDownTo_5b {p : Program} {l : Launch} {e : Env} {s : State} {m : MethodId} {args : Array Value} {below : List Frame} {meth : Method} {c : Code} {A : Nat → Prop} {D : va_G} {a z : Nat → Nat} {cI cL cB cZ : ClassId} {Q : State → Prop} {N : Nat} {res : Unit × mq_St} {k5 : Int32 → Int32 → mq_St → Option (Unit × mq_St)} (C : mq_C p s m args c A D cI cL cB cZ cX5_joinDownTo 6 RX5 zc_X5_joinDownTo) (hret : ∀ (H : Heap) (locs : List Loc) (ls : Array Slot) (pc : Nat), decode cX5_joinDownTo pc = .ok (.return_, 1) → va_P D vwCl (wd_C a cI cL cB cZ z res.2) H → va_D A (wd_C a cI cL cB cZ z res.2) → va_S A s.heap H locs → W p l e zr_X5_joinDownTo s m args below meth c H locs 0 0 Q (F0 m pc ls [])) (hk5 : ∀ (v1 : Int32) (v2 : Int32) (S : mq_St) (H : Heap) (locs : List Loc) (ls : Array Slot), k5 v1 v2 S = some res → lv_has ls 6 [(0, .ref (a 20)), (1, .int (v1)), (2, .int (v2))] → va_P D vwCl (wd_C a cI cL cB cZ z S) H → va_D A (wd_C a cI cL cB cZ z S) → va_S A s.heap H locs → W p l e zr_X5_joinDownTo s m args below meth c H locs 0 0 Q (F0 m 5 ls [])) (v1 : Int32) (v2 : Int32) (S : mq_St) (H : Heap) (locs : List Loc) (ls : Array Slot) (h : zf_X5_joinDownTo_5b N z k5 v1 v2 S = some res) (hl : lv_has ls 6 [(0, .ref (a 20)), (1, .int (v1)), (2, .int (v2))]) (hP : va_P D vwCl (wd_C a cI cL cB cZ z S) H) (hD : va_D A (wd_C a cI cL cB cZ z S)) (hS : va_S A s.heap H locs) : W p l e zr_X5_joinDownTo s m args below meth c H locs 0 0 Q (F0 m 5 ls []) := by
  obtain ⟨hx, hb, hml, hown, hts, hK, hA⟩ := id C
  unfold zf_X5_joinDownTo_5b at h
  refine lv_iload_n hx hb dX5_joinDownTo_5 rfl (lv_at hl 2 rfl) ?_
  refine lv_if_le (tgt := 66) hx hb dX5_joinDownTo_6 (by decide) (fun c26 => ?_) (fun c26 => ?_)
  · replace h := mq_it c26 h
    cases h
    exact hret H locs ls 66 dX5_joinDownTo_66 hP hD hS
  · replace h := mq_if c26 h
    refine lv_aload_n hx hb dX5_joinDownTo_9 rfl (lv_at hl 0 rfl) ?_
    obtain ⟨q2, hc3, h⟩ := mq_cp_go h
    refine zk_X5_topSign C zt_m_X5_140 ⟨by decide, by decide⟩ hc3 hP hD hS hl.1 (Nat.le_of_ble_eq_true rfl) dX5_joinDownTo_10 (fun H locs hP hD hS => ?_)
    obtain ⟨q4, hc5, h⟩ := mq_cp_go h
    refine zv_X5_rankOf (a := mq_ad a []) (z := z) [] C zt_m_X5_122 ⟨by decide, by decide⟩ hc5 rfl (by decide) hP hD hS hl.1 (Nat.le_of_ble_eq_true rfl) dX5_joinDownTo_13 (fun H locs hP hD hS => ?_)
    refine lv_iload_n hx hb dX5_joinDownTo_16 rfl (lv_at hl 1 rfl) ?_
    refine lv_icmp_lt (tgt := 66) hx hb dX5_joinDownTo_17 (by decide) (fun c25 => ?_) (fun c25 => ?_)
    · replace h := mq_it c25 h
      cases h
      exact hret H locs ls 66 dX5_joinDownTo_66 hP hD hS
    · replace h := mq_if c25 h
      refine lv_aload_n hx hb dX5_joinDownTo_20 rfl (lv_at hl 0 rfl) ?_
      obtain ⟨q6, hc7, h⟩ := mq_cp_go h
      refine zk_X5_topSign C zt_m_X5_140 ⟨by decide, by decide⟩ hc7 hP hD hS hl.1 (Nat.le_of_ble_eq_true rfl) dX5_joinDownTo_21 (fun H locs hP hD hS => ?_)
      refine lv_topi (fun x8 ex8 => ?_)
      replace h := mq_nI_go ex8 h
      refine lv_istore_n (lv' := [(3, .int (x8)), (0, .ref (a 20)), (1, .int (v1)), (2, .int (v2))]) hx hb dX5_joinDownTo_24 rfl hl (by decide) rfl (fun ls hl => ?_)
      refine lv_aload_n hx hb dX5_joinDownTo_25 rfl (lv_at hl 1 rfl) ?_
      refine lv_dup hx hb dX5_joinDownTo_26 rfl ?_
      refine va_get (D := D) (ci := 5) (v := .int ((S.1 5))) (C := RX5) (T := TX5) (N := 12) hx hb hts (zi_X5 _) hown hK hP 20 rfl rfl 4 (by decide) (hts _ (List.mem_cons_of_mem _ zt_f_X5_68)) (fun _ h9 => h9) rfl dX5_joinDownTo_27 ?_
      refine lv_iconst (v := (1 : Int32)) hx hb dX5_joinDownTo_30 (by decide) ?_
      refine lv_isub hx hb dX5_joinDownTo_31 ?_
      refine mq_put (w := wd_C a cI cL cB cZ z) (S := S) (D := D) (ci := 5) (v := ((S.1 5) - (1 : Int32))) (ty := .int) (C := RX5) (T := TX5) (N := 12) hx hb hts (zi_X5 _) tyX5 tyX5_ok nmX5 hown hK hP hD hS 20 rfl rfl 4 (by decide) (hts _ (List.mem_cons_of_mem _ zt_f_X5_68)) (fun _ h9 => h9) rfl (by decide +kernel) rfl rfl (Nat.le_of_ble_eq_true rfl) dX5_joinDownTo_32 5 (zs_wd_C_i_20_5 _ _ _ _ _ _ _ _) (fun S9 eS9 H locs hP hD hS => ?_)
      replace h := mq_nS_go eS9 h
      refine lv_aload_n hx hb dX5_joinDownTo_35 rfl (lv_at hl 1 rfl) ?_
      obtain ⟨q10, hc11, h⟩ := mq_cl_go h
      refine zk_X5_popMark C zt_m_X5_60 ⟨by decide, by decide⟩ hc11 hP hD hS hl.1 (Nat.le_of_ble_eq_true rfl) dX5_joinDownTo_36 (fun H locs hP hD hS => ?_)
      obtain ⟨S12, eS12⟩ : ∃ y, y = q10.2 := ⟨_, rfl⟩
      rw [← eS12] at hP hD h
      refine lv_topi (fun x13 ex13 => ?_)
      replace h := mq_nI_go ex13 h
      refine lv_istore (lv' := [(4, .int (x13)), (3, .int (x8)), (0, .ref (a 20)), (1, .int (v1)), (2, .int (v2))]) hx hb dX5_joinDownTo_39 hl (by decide) rfl (fun ls hl => ?_)
      refine lv_aload_n hx hb dX5_joinDownTo_41 rfl (lv_at hl 2 rfl) ?_
      obtain ⟨q14, hc15, h⟩ := mq_cl_go h
      refine zk_X5_popMark C zt_m_X5_60 ⟨by decide, by decide⟩ hc15 hP hD hS hl.1 (Nat.le_of_ble_eq_true rfl) dX5_joinDownTo_42 (fun H locs hP hD hS => ?_)
      obtain ⟨S16, eS16⟩ : ∃ y, y = q14.2 := ⟨_, rfl⟩
      rw [← eS16] at hP hD h
      refine lv_topi (fun x17 ex17 => ?_)
      replace h := mq_nI_go ex17 h
      refine lv_istore (lv' := [(5, .int (x17)), (4, .int (x13)), (3, .int (x8)), (0, .ref (a 20)), (1, .int (v1)), (2, .int (v2))]) hx hb dX5_joinDownTo_45 hl (by decide) rfl (fun ls hl => ?_)
      refine lv_aload_n hx hb dX5_joinDownTo_47 rfl (lv_at hl 3 rfl) ?_
      refine lv_aload_n hx hb dX5_joinDownTo_48 rfl (lv_at hl 3 rfl) ?_
      refine lv_iload_n hx hb dX5_joinDownTo_49 rfl (lv_at hl 2 rfl) ?_
      refine lv_iload hx hb dX5_joinDownTo_50 (lv_at hl 0 rfl) ?_
      refine lv_iload hx hb dX5_joinDownTo_52 (lv_at hl 1 rfl) ?_
      obtain ⟨q18, hc19, h⟩ := mq_cl_go h
      refine zk_X5_joined C zt_m_X5_152 ⟨by decide, by decide⟩ hc19 hP hD hS hl.1 (Nat.le_of_ble_eq_true rfl) dX5_joinDownTo_54 (fun H locs hP hD hS => ?_)
      obtain ⟨S20, eS20⟩ : ∃ y, y = q18.2 := ⟨_, rfl⟩
      rw [← eS20] at hP hD h
      obtain ⟨q21, hc22, h⟩ := mq_cl_go h
      refine zk_X5_pushMark C zt_m_X5_113 ⟨by decide, by decide⟩ hc22 hP hD hS hl.1 (Nat.le_of_ble_eq_true rfl) dX5_joinDownTo_57 (fun H locs hP hD hS => ?_)
      obtain ⟨S23, eS23⟩ : ∃ y, y = q21.2 := ⟨_, rfl⟩
      rw [← eS23] at hP hD h
      obtain ⟨x24, ex24⟩ : ∃ y : Int32, y = v2 + (-1 : Int32) := ⟨_, rfl⟩
      replace h := mq_nI_go ex24 h
      refine lv_iinc (v := x24) (lv' := [(2, .int (x24)), (5, .int (x17)), (4, .int (x13)), (3, .int (x8)), (0, .ref (a 20)), (1, .int (v1))]) hx hb dX5_joinDownTo_60 hl (k := 5) rfl (by rw [ex24]; rfl) (by decide) rfl (fun ls hl => ?_)
      refine lv_goto (tgt := 5) hx hb dX5_joinDownTo_63 (by decide) ?_
      exact hk5 (v1) (x24) S23 H locs ls h (lv_sub hl [4, 5, 0] rfl) hP hD hS
set_option maxHeartbeats 4000000 in
set_option maxRecDepth 100000 in
theorem zw_X5_joinDownTo_5 {p : Program} {l : Launch} {e : Env} {s : State} {m : MethodId} {args : Array Value} {below : List Frame} {meth : Method} {c : Code} {A : Nat → Prop} {D : va_G} {a z : Nat → Nat} {cI cL cB cZ : ClassId} {Q : State → Prop} {N : Nat} {res : Unit × mq_St} (C : mq_C p s m args c A D cI cL cB cZ cX5_joinDownTo 6 RX5 zc_X5_joinDownTo) (hret : ∀ (H : Heap) (locs : List Loc) (ls : Array Slot) (pc : Nat), decode cX5_joinDownTo pc = .ok (.return_, 1) → va_P D vwCl (wd_C a cI cL cB cZ z res.2) H → va_D A (wd_C a cI cL cB cZ z res.2) → va_S A s.heap H locs → W p l e zr_X5_joinDownTo s m args below meth c H locs 0 0 Q (F0 m pc ls [])) : ∀ (n : Nat) (v1 : Int32) (v2 : Int32) (S : mq_St) (H : Heap) (locs : List Loc) (ls : Array Slot) (h : zf_X5_joinDownTo_5 N z n v1 v2 S = some res) (hl : lv_has ls 6 [(0, .ref (a 20)), (1, .int (v1)), (2, .int (v2))]) (hP : va_P D vwCl (wd_C a cI cL cB cZ z S) H) (hD : va_D A (wd_C a cI cL cB cZ z S)) (hS : va_S A s.heap H locs), W p l e zr_X5_joinDownTo s m args below meth c H locs 0 0 Q (F0 m 5 ls []) := by
  intro n
  induction n with
  | zero =>
    intro v1 v2 S H locs ls h hl hP hD hS
    exact nomatch (show (none : Option (Unit × mq_St)) = some res from h)
  | succ n ih =>
    intro v1 v2 S H locs ls h hl hP hD hS
    exact zw_X5_joinDownTo_5b C hret (fun v1 v2 S H locs ls h hl hP hD hS => ih v1 v2 S H locs ls h hl hP hD hS) v1 v2 S H locs ls h hl hP hD hS
set_option maxHeartbeats 4000000 in
set_option maxRecDepth 100000 in
theorem zw_X5_joinDownTo_0 {p : Program} {l : Launch} {e : Env} {s : State} {m : MethodId} {args : Array Value} {below : List Frame} {meth : Method} {c : Code} {A : Nat → Prop} {D : va_G} {a z : Nat → Nat} {cI cL cB cZ : ClassId} {Q : State → Prop} {N : Nat} {res : Unit × mq_St} (C : mq_C p s m args c A D cI cL cB cZ cX5_joinDownTo 6 RX5 zc_X5_joinDownTo) (hret : ∀ (H : Heap) (locs : List Loc) (ls : Array Slot) (pc : Nat), decode cX5_joinDownTo pc = .ok (.return_, 1) → va_P D vwCl (wd_C a cI cL cB cZ z res.2) H → va_D A (wd_C a cI cL cB cZ z res.2) → va_S A s.heap H locs → W p l e zr_X5_joinDownTo s m args below meth c H locs 0 0 Q (F0 m pc ls [])) (v1 : Int32) (S : mq_St) (H : Heap) (locs : List Loc) (ls : Array Slot) (h : zf_X5_joinDownTo N z v1 S = some res) (hl : lv_has ls 6 [(0, .ref (a 20)), (1, .int (v1))]) (hP : va_P D vwCl (wd_C a cI cL cB cZ z S) H) (hD : va_D A (wd_C a cI cL cB cZ z S)) (hS : va_S A s.heap H locs) : W p l e zr_X5_joinDownTo s m args below meth c H locs 0 0 Q (F0 m 0 ls []) := by
  obtain ⟨hx, hb, hml, hown, hts, hK, hA⟩ := id C
  unfold zf_X5_joinDownTo at h
  refine lv_aload_n hx hb dX5_joinDownTo_0 rfl (lv_at hl 0 rfl) ?_
  refine va_get (D := D) (ci := 5) (v := .int ((S.1 5))) (C := RX5) (T := TX5) (N := 12) hx hb hts (zi_X5 _) hown hK hP 20 rfl rfl 4 (by decide) (hts _ (List.mem_cons_of_mem _ zt_f_X5_68)) (fun _ h9 => h9) rfl dX5_joinDownTo_1 ?_
  refine lv_topi (fun x1 ex1 => ?_)
  replace h := mq_nI_go ex1 h
  refine lv_istore_n (lv' := [(2, .int (x1)), (0, .ref (a 20)), (1, .int (v1))]) hx hb dX5_joinDownTo_4 rfl hl (by decide) rfl (fun ls hl => ?_)
  exact zw_X5_joinDownTo_5 C hret N (v1) (x1) S H locs ls h (lv_sub hl [1, 2, 0] rfl) hP hD hS
set_option maxHeartbeats 4000000 in
set_option maxRecDepth 100000 in
theorem zm_X5_joinDownTo (l : Launch) (D : va_G) (a z : Nat → Nat) (cI cL cB cZ : ClassId) (sz N : Nat) (v1 : Int32) (S : mq_St) (res : Unit × mq_St) (h : zf_X5_joinDownTo N z v1 S = some res) : Met l yX5_joinDownTo (zc_X5_joinDownTo :: mq_T) zr_X5_joinDownTo (va_Pc [.ref (a 20), .int (v1)] (fun U => U.heap.size = sz ∧ va_P D vwCl (wd_C a cI cL cB cZ z S) U.heap ∧ va_K D vwCl (mq_tys cI cL cB cZ) U ∧ va_D (fun _ => True) (wd_C a cI cL cB cZ z S))) (va_Qv (fun u : mq_St => u = res.2) (fun u t => va_P D vwCl (wd_C a cI cL cB cZ z u) t.heap ∧ va_K D vwCl (mq_tys cI cL cB cZ) t ∧ va_D (va_A (wd_C a cI cL cB cZ z S) sz) (wd_C a cI cL cB cZ z u)) (va_A (wd_C a cI cL cB cZ z S) sz)) 0 0 (va_A (wd_C a cI cL cB cZ z S) sz) := by
  refine Met.ofW (cc := cX5_joinDownTo) (maxL := 6) (ret := none) (by decide) rfl ?_
  intro p e s m args below meth c s₁ B hml hv
  obtain ⟨rfl, hsz, hP, hK, hD0⟩ := hv
  have hr := B.returns
  have hlocks := B.notSynchronized
  have hts := atoms_spec (ws := zc_X5_joinDownTo :: mq_T) B.pre
  have hown : s.vm.findClass RX5 = some m.cls := findClass_of_methodNamed B.named
  subst hsz
  have hD := hD0.self (sz := s.heap.size)
  generalize hAe : va_A (wd_C a cI cL cB cZ z S) s.heap.size = A at hD ⊢
  have hA : ∀ q : Nat, s.heap.size ≤ q → A q := fun q h => by rw [← hAe]; exact Or.inr h
  have hl := lv_entry ([.ref (a 20), .int (v1)]) (n := 6) (Nat.le_of_ble_eq_true rfl)
  rw [lg_entry_eq]
  generalize (lg_sl ([.ref (a 20), .int (v1)]) ++ List.replicate (6 - (lg_sl ([.ref (a 20), .int (v1)])).length) Slot.unset).toArray = ls at hl ⊢
  have hl : lv_has ls 6 [(0, .ref (a 20)), (1, .int (v1))] := hl
  refine zw_X5_joinDownTo_0 (A := A) ⟨B.exec, B.bytes, hml, hown, hts, hK, hA⟩ (fun H locs ls pc dg hP hD hS => ?_) v1 S s.heap [] ls h hl hP hD va_S.rf
  exact W.vret B.exec B.bytes hr (fun t ht hW => ⟨⟨_, rfl, rfl, by rw [ht]; exact hP, va_K.moved hW.alike hK, hD⟩, hS.F ht⟩) hS.2.2 dg
theorem zt_X5_joinDownTo_c : zc_X5_joinDownTo ∈ mq_T := mq_T_mem (mq_t3 (List.mem_of_getElem? (i := 56) rfl)) rfl
theorem zt_X5_joinDownTo_i : Cond.instanceMethod yX5_joinDownTo ∈ mq_T := mq_T_mem (mq_t3 (List.mem_of_getElem? (i := 55) rfl)) rfl
theorem zt_X5_joinDownTo_s : Cond.selects RX5 yX5_joinDownTo yX5_joinDownTo ∈ mq_T := mq_T_at 15 (by decide +kernel)
set_option maxHeartbeats 4000000 in
theorem zk_X5_joinDownTo {p : Program} {l : Launch} {e : Env} {R : Room} {s : State} {m : MethodId} {args : Array Value} {below : List Frame} {meth : Method} {c : Code} {A : Nat → Prop} {D : va_G} {a z : Nat → Nat} {cI cL cB cZ : ClassId} {Q : State → Prop} {cc : ByteArray} {nL idx pc N : Nat} {own : String} {c1 : Cond} {H : Heap} {locs : List Loc} {ls : Array Slot} {rest : List Value} {S : mq_St} {res : Unit × mq_St} {v1 : Int32} (C : mq_C p s m args c A D cI cL cB cZ cc nL own c1) (hlk : Cond.methodLink own idx yX5_joinDownTo ∈ mq_T) (hR : zr_X5_joinDownTo.frames + 1 ≤ R.frames ∧ 8 + (6 + 11) + zr_X5_joinDownTo.locals ≤ R.locals) (h : zf_X5_joinDownTo N z v1 S = some res) (hP : va_P D vwCl (wd_C a cI cL cB cZ z S) H) (hD : va_D A (wd_C a cI cL cB cZ z S)) (hS : va_S A s.heap H locs) (hls : ls.size = nL) (hrest : (rest.map fun v => v.category).sum ≤ 8) (hdg : decode cc pc = .ok (.invokevirtual idx, 3)) (kk : ∀ (H1 : Heap) (locs1 : List Loc), va_P D vwCl (wd_C a cI cL cB cZ z res.2) H1 → va_D A (wd_C a cI cL cB cZ z res.2) → va_S A s.heap H1 locs1 → W p l e R s m args below meth c H1 locs1 0 0 Q (F0 m (pc + 3) ls rest)) : W p l e R s m args below meth c H locs 0 0 Q (F0 m pc ls (.int (v1) :: .ref (a 20) :: rest)) := by
  obtain ⟨hx, hb, hml, hown, hts, hK, hA⟩ := C
  have hFc := mq_freeI hD hS hA
  refine va_callv (va_runV (As := [.int (v1)]) (rest := rest) ⟨hx, hb, hml, hown, hts⟩ (zm_X5_joinDownTo l D a z cI cL cB cZ H.size N v1 S res h) (cwV 1 hts (mq_goodL (mq_wsV hlk zt_X5_joinDownTo_i zt_X5_joinDownTo_s zt_ini_X5 zt_X5_joinDownTo_c)) rfl rfl rfl (by decide +kernel) hR) ⟨fun a U g mk q => ⟨q.1, q.2.1, q.2.2.1, va_K.moved (u := U) (U := U.calling g mk a) (Vm.Alike.refl U.vm) q.2.2.2.1, q.2.2.2.2⟩, zy_C_20 hK hP, fun U hU hW => ⟨rfl, by rw [hU], by rw [hU]; exact hP, va_K.moved hW.alike hK, hD.weaken (fun _ _ _ _ => trivial)⟩⟩ rfl rfl hls rfl (lv_room hrest) hdg ⟨Nat.zero_le _, Nat.zero_le _⟩) hS (fun q _ h => hFc q h) hFc (fun u t H1 locs ht hvm hw hB hz1 hk1 hS => ?_)
  subst hw
  obtain ⟨hP1, hK1, hD1⟩ := hB
  rw [ht] at hP1
  exact kk H1 locs hP1 (hD1.weaken (fun _ _ _ h => hFc _ h)) hS
theorem zt_m_X5_137 : Cond.methodLink RX5 137 Lib.Math.max.name ∈ mq_T := mq_T_mem (mq_t3 (List.mem_of_getElem? (i := 73) rfl)) rfl
theorem zt_math_max_s : Cond.static Lib.Math.max.name ∈ mq_T := mq_T_mem (mq_t1 (List.mem_of_getElem? (i := 54) rfl)) rfl
theorem zt_math_i : Cond.initialized "java/lang/Math" ∈ mq_T := mq_T_mem (mq_t1 (List.mem_of_getElem? (i := 5) rfl)) rfl
theorem zt_math_max_c : Cond.code Lib.Math.max.name Lib.Math.max.code 2 (some .int) ∈ mq_T := mq_T_mem (mq_t1 (List.mem_of_getElem? (i := 55) rfl)) rfl
/-! ModalDesk$Reader.closeBracket()V -/
def zr_X5_closeBracket : Room := { frames := 1, cells := 0, slots := 0, locals := 21 }
def zc_X5_closeBracket : Cond := .code yX5_closeBracket cX5_closeBracket 1 none
def zf_X5_closeBracket (N : Nat) (z : Nat → Nat) (S : mq_St) : Option (Unit × mq_St) := (mq_nS (mq_si S 5 ((mq_max ((S.1 5) - (1 : Int32)) (0 : Int32)))) (fun S1 => (mq_nS (mq_si S1 7 (((S1.1 7) - (1 : Int32)))) (fun S2 => (mq_nS (mq_si S2 8 (((S2.1 8) - (1 : Int32)))) (fun S3 => (some ((), S3))))))))
set_option maxHeartbeats 4000000 in
set_option maxRecDepth 100000 in
theorem zw_X5_closeBracket_0 {p : Program} {l : Launch} {e : Env} {s : State} {m : MethodId} {args : Array Value} {below : List Frame} {meth : Method} {c : Code} {A : Nat → Prop} {D : va_G} {a z : Nat → Nat} {cI cL cB cZ : ClassId} {Q : State → Prop} {N : Nat} {res : Unit × mq_St} (C : mq_C p s m args c A D cI cL cB cZ cX5_closeBracket 1 RX5 zc_X5_closeBracket) (hret : ∀ (H : Heap) (locs : List Loc) (ls : Array Slot) (pc : Nat), decode cX5_closeBracket pc = .ok (.return_, 1) → va_P D vwCl (wd_C a cI cL cB cZ z res.2) H → va_D A (wd_C a cI cL cB cZ z res.2) → va_S A s.heap H locs → W p l e zr_X5_closeBracket s m args below meth c H locs 0 0 Q (F0 m pc ls [])) (S : mq_St) (H : Heap) (locs : List Loc) (ls : Array Slot) (h : zf_X5_closeBracket N z S = some res) (hl : lv_has ls 1 [(0, .ref (a 20))]) (hP : va_P D vwCl (wd_C a cI cL cB cZ z S) H) (hD : va_D A (wd_C a cI cL cB cZ z S)) (hS : va_S A s.heap H locs) : W p l e zr_X5_closeBracket s m args below meth c H locs 0 0 Q (F0 m 0 ls []) := by
  obtain ⟨hx, hb, hml, hown, hts, hK, hA⟩ := id C
  unfold zf_X5_closeBracket at h
  refine lv_aload_n hx hb dX5_closeBracket_0 rfl (lv_at hl 0 rfl) ?_
  refine lv_aload_n hx hb dX5_closeBracket_1 rfl (lv_at hl 0 rfl) ?_
  refine va_get (D := D) (ci := 5) (v := .int ((S.1 5))) (C := RX5) (T := TX5) (N := 12) hx hb hts (zi_X5 _) hown hK hP 20 rfl rfl 4 (by decide) (hts _ (List.mem_cons_of_mem _ zt_f_X5_68)) (fun _ h9 => h9) rfl dX5_closeBracket_2 ?_
  refine lv_iconst (v := (1 : Int32)) hx hb dX5_closeBracket_5 (by decide) ?_
  refine lv_isub hx hb dX5_closeBracket_6 ?_
  refine lv_iconst (v := (0 : Int32)) hx hb dX5_closeBracket_7 (by decide) ?_
  refine va_mmax hx hb (hml.trans hl.1.symm) hown (hts _ (List.mem_cons_of_mem _ zt_m_X5_137)) (hts _ (List.mem_cons_of_mem _ zt_math_max_s)) (hts _ (List.mem_cons_of_mem _ zt_math_i)) (hts _ (List.mem_cons_of_mem _ zt_math_max_c)) (Nat.le_of_ble_eq_true rfl) (Nat.le_of_ble_eq_true rfl) (Nat.zero_le _) (Nat.zero_le _) dX5_closeBracket_8 ?_
  show W _ _ _ _ _ _ _ _ _ _ _ _ _ _ _ (F0 _ _ _ (.int (mq_max ((S.1 5) - (1 : Int32)) (0 : Int32)) :: _))
  refine mq_put (w := wd_C a cI cL cB cZ z) (S := S) (D := D) (ci := 5) (v := (mq_max ((S.1 5) - (1 : Int32)) (0 : Int32))) (ty := .int) (C := RX5) (T := TX5) (N := 12) hx hb hts (zi_X5 _) tyX5 tyX5_ok nmX5 hown hK hP hD hS 20 rfl rfl 4 (by decide) (hts _ (List.mem_cons_of_mem _ zt_f_X5_68)) (fun _ h9 => h9) rfl (by decide +kernel) rfl rfl (Nat.le_of_ble_eq_true rfl) dX5_closeBracket_11 5 (zs_wd_C_i_20_5 _ _ _ _ _ _ _ _) (fun S1 eS1 H locs hP hD hS => ?_)
  replace h := mq_nS_go eS1 h
  refine lv_aload_n hx hb dX5_closeBracket_14 rfl (lv_at hl 0 rfl) ?_
  refine lv_dup hx hb dX5_closeBracket_15 rfl ?_
  refine va_get (D := D) (ci := 5) (v := .int ((S1.1 7))) (C := RX5) (T := TX5) (N := 12) hx hb hts (zi_X5 _) hown hK hP 20 rfl rfl 6 (by decide) (hts _ (List.mem_cons_of_mem _ zt_f_X5_74)) (fun _ h9 => h9) rfl dX5_closeBracket_16 ?_
  refine lv_iconst (v := (1 : Int32)) hx hb dX5_closeBracket_19 (by decide) ?_
  refine lv_isub hx hb dX5_closeBracket_20 ?_
  refine mq_put (w := wd_C a cI cL cB cZ z) (S := S1) (D := D) (ci := 5) (v := ((S1.1 7) - (1 : Int32))) (ty := .int) (C := RX5) (T := TX5) (N := 12) hx hb hts (zi_X5 _) tyX5 tyX5_ok nmX5 hown hK hP hD hS 20 rfl rfl 6 (by decide) (hts _ (List.mem_cons_of_mem _ zt_f_X5_74)) (fun _ h9 => h9) rfl (by decide +kernel) rfl rfl (Nat.le_of_ble_eq_true rfl) dX5_closeBracket_21 7 (zs_wd_C_i_20_7 _ _ _ _ _ _ _ _) (fun S2 eS2 H locs hP hD hS => ?_)
  replace h := mq_nS_go eS2 h
  refine lv_aload_n hx hb dX5_closeBracket_24 rfl (lv_at hl 0 rfl) ?_
  refine lv_dup hx hb dX5_closeBracket_25 rfl ?_
  refine va_get (D := D) (ci := 5) (v := .int ((S2.1 8))) (C := RX5) (T := TX5) (N := 12) hx hb hts (zi_X5 _) hown hK hP 20 rfl rfl 7 (by decide) (hts _ (List.mem_cons_of_mem _ zt_f_X5_77)) (fun _ h9 => h9) rfl dX5_closeBracket_26 ?_
  refine lv_iconst (v := (1 : Int32)) hx hb dX5_closeBracket_29 (by decide) ?_
  refine lv_isub hx hb dX5_closeBracket_30 ?_
  refine mq_put (w := wd_C a cI cL cB cZ z) (S := S2) (D := D) (ci := 5) (v := ((S2.1 8) - (1 : Int32))) (ty := .int) (C := RX5) (T := TX5) (N := 12) hx hb hts (zi_X5 _) tyX5 tyX5_ok nmX5 hown hK hP hD hS 20 rfl rfl 7 (by decide) (hts _ (List.mem_cons_of_mem _ zt_f_X5_77)) (fun _ h9 => h9) rfl (by decide +kernel) rfl rfl (Nat.le_of_ble_eq_true rfl) dX5_closeBracket_31 8 (zs_wd_C_i_20_8 _ _ _ _ _ _ _ _) (fun S3 eS3 H locs hP hD hS => ?_)
  replace h := mq_nS_go eS3 h
  cases h
  exact hret H locs ls 34 dX5_closeBracket_34 hP hD hS
set_option maxHeartbeats 4000000 in
set_option maxRecDepth 100000 in
theorem zm_X5_closeBracket (l : Launch) (D : va_G) (a z : Nat → Nat) (cI cL cB cZ : ClassId) (sz N : Nat) (S : mq_St) (res : Unit × mq_St) (h : zf_X5_closeBracket N z S = some res) : Met l yX5_closeBracket (zc_X5_closeBracket :: mq_T) zr_X5_closeBracket (va_Pc [.ref (a 20)] (fun U => U.heap.size = sz ∧ va_P D vwCl (wd_C a cI cL cB cZ z S) U.heap ∧ va_K D vwCl (mq_tys cI cL cB cZ) U ∧ va_D (fun _ => True) (wd_C a cI cL cB cZ z S))) (va_Qv (fun u : mq_St => u = res.2) (fun u t => va_P D vwCl (wd_C a cI cL cB cZ z u) t.heap ∧ va_K D vwCl (mq_tys cI cL cB cZ) t ∧ va_D (va_A (wd_C a cI cL cB cZ z S) sz) (wd_C a cI cL cB cZ z u)) (va_A (wd_C a cI cL cB cZ z S) sz)) 0 0 (va_A (wd_C a cI cL cB cZ z S) sz) := by
  refine Met.ofW (cc := cX5_closeBracket) (maxL := 1) (ret := none) (by decide) rfl ?_
  intro p e s m args below meth c s₁ B hml hv
  obtain ⟨rfl, hsz, hP, hK, hD0⟩ := hv
  have hr := B.returns
  have hlocks := B.notSynchronized
  have hts := atoms_spec (ws := zc_X5_closeBracket :: mq_T) B.pre
  have hown : s.vm.findClass RX5 = some m.cls := findClass_of_methodNamed B.named
  subst hsz
  have hD := hD0.self (sz := s.heap.size)
  generalize hAe : va_A (wd_C a cI cL cB cZ z S) s.heap.size = A at hD ⊢
  have hA : ∀ q : Nat, s.heap.size ≤ q → A q := fun q h => by rw [← hAe]; exact Or.inr h
  have hl := lv_entry ([.ref (a 20)]) (n := 1) (Nat.le_of_ble_eq_true rfl)
  rw [lg_entry_eq]
  generalize (lg_sl ([.ref (a 20)]) ++ List.replicate (1 - (lg_sl ([.ref (a 20)])).length) Slot.unset).toArray = ls at hl ⊢
  have hl : lv_has ls 1 [(0, .ref (a 20))] := hl
  refine zw_X5_closeBracket_0 (A := A) ⟨B.exec, B.bytes, hml, hown, hts, hK, hA⟩ (fun H locs ls pc dg hP hD hS => ?_) S s.heap [] ls h hl hP hD va_S.rf
  exact W.vret B.exec B.bytes hr (fun t ht hW => ⟨⟨_, rfl, rfl, by rw [ht]; exact hP, va_K.moved hW.alike hK, hD⟩, hS.F ht⟩) hS.2.2 dg
theorem zt_X5_closeBracket_c : zc_X5_closeBracket ∈ mq_T := mq_T_mem (mq_t3 (List.mem_of_getElem? (i := 72) rfl)) rfl
theorem zt_X5_closeBracket_i : Cond.instanceMethod yX5_closeBracket ∈ mq_T := mq_T_mem (mq_t3 (List.mem_of_getElem? (i := 71) rfl)) rfl
theorem zt_X5_closeBracket_s : Cond.selects RX5 yX5_closeBracket yX5_closeBracket ∈ mq_T := mq_T_at 17 (by decide +kernel)
set_option maxHeartbeats 4000000 in
theorem zk_X5_closeBracket {p : Program} {l : Launch} {e : Env} {R : Room} {s : State} {m : MethodId} {args : Array Value} {below : List Frame} {meth : Method} {c : Code} {A : Nat → Prop} {D : va_G} {a z : Nat → Nat} {cI cL cB cZ : ClassId} {Q : State → Prop} {cc : ByteArray} {nL idx pc N : Nat} {own : String} {c1 : Cond} {H : Heap} {locs : List Loc} {ls : Array Slot} {rest : List Value} {S : mq_St} {res : Unit × mq_St} (C : mq_C p s m args c A D cI cL cB cZ cc nL own c1) (hlk : Cond.methodLink own idx yX5_closeBracket ∈ mq_T) (hR : zr_X5_closeBracket.frames + 1 ≤ R.frames ∧ 8 + (1 + 11) + zr_X5_closeBracket.locals ≤ R.locals) (h : zf_X5_closeBracket N z S = some res) (hP : va_P D vwCl (wd_C a cI cL cB cZ z S) H) (hD : va_D A (wd_C a cI cL cB cZ z S)) (hS : va_S A s.heap H locs) (hls : ls.size = nL) (hrest : (rest.map fun v => v.category).sum ≤ 8) (hdg : decode cc pc = .ok (.invokevirtual idx, 3)) (kk : ∀ (H1 : Heap) (locs1 : List Loc), va_P D vwCl (wd_C a cI cL cB cZ z res.2) H1 → va_D A (wd_C a cI cL cB cZ z res.2) → va_S A s.heap H1 locs1 → W p l e R s m args below meth c H1 locs1 0 0 Q (F0 m (pc + 3) ls rest)) : W p l e R s m args below meth c H locs 0 0 Q (F0 m pc ls (.ref (a 20) :: rest)) := by
  obtain ⟨hx, hb, hml, hown, hts, hK, hA⟩ := C
  have hFc := mq_freeI hD hS hA
  refine va_callv (va_runV (As := []) (rest := rest) ⟨hx, hb, hml, hown, hts⟩ (zm_X5_closeBracket l D a z cI cL cB cZ H.size N S res h) (cwV 0 hts (mq_goodL (mq_wsV hlk zt_X5_closeBracket_i zt_X5_closeBracket_s zt_ini_X5 zt_X5_closeBracket_c)) rfl rfl rfl (by decide +kernel) hR) ⟨fun a U g mk q => ⟨q.1, q.2.1, q.2.2.1, va_K.moved (u := U) (U := U.calling g mk a) (Vm.Alike.refl U.vm) q.2.2.2.1, q.2.2.2.2⟩, zy_C_20 hK hP, fun U hU hW => ⟨rfl, by rw [hU], by rw [hU]; exact hP, va_K.moved hW.alike hK, hD.weaken (fun _ _ _ _ => trivial)⟩⟩ rfl rfl hls rfl (lv_room hrest) hdg ⟨Nat.zero_le _, Nat.zero_le _⟩) hS (fun q _ h => hFc q h) hFc (fun u t H1 locs ht hvm hw hB hz1 hk1 hS => ?_)
  subst hw
  obtain ⟨hP1, hK1, hD1⟩ := hB
  rw [ht] at hP1
  exact kk H1 locs hP1 (hD1.weaken (fun _ _ _ h => hFc _ h)) hS
theorem zt_m_X5_97 : Cond.methodLink RX5 97 yX5_canStand ∈ mq_T := mq_T_mem (mq_t2 (List.mem_of_getElem? (i := 229) rfl)) rfl
theorem zt_m_X5_90 : Cond.methodLink RX5 90 yX5_joinDownTo ∈ mq_T := mq_T_mem (mq_t3 (List.mem_of_getElem? (i := 53) rfl)) rfl
theorem zt_m_X5_119 : Cond.methodLink RX5 119 yX5_closeBracket ∈ mq_T := mq_T_mem (mq_t3 (List.mem_of_getElem? (i := 69) rfl)) rfl
theorem zt_m_X5_116 : Cond.methodLink RX5 116 yX5_endOperand ∈ mq_T := mq_T_mem (mq_t3 (List.mem_of_getElem? (i := 32) rfl)) rfl
theorem zt_m_X5_110 : Cond.methodLink RX5 110 yX5_markOfAtom ∈ mq_T := mq_T_mem (mq_t3 (List.mem_of_getElem? (i := 13) rfl)) rfl
theorem zt_m_X5_104 : Cond.methodLink RX5 104 yX5_acceptOpening ∈ mq_T := mq_T_mem (mq_t3 (List.mem_of_getElem? (i := 5) rfl)) rfl
/-! ModalDesk$Reader.accept(II)V -/
def zr_X5_accept : Room := { frames := 4, cells := 0, slots := 0, locals := 96 }
def zc_X5_accept : Cond := .code yX5_accept cX5_accept 3 none
def zf_X5_accept_98 (N : Nat) (z : Nat → Nat) (v1 : Int32) (t1 : Int32) (S : mq_St) : Option (Unit × mq_St) := (mq_cl (zf_X5_joinDownTo N z (t1) S) (fun q40v S42 => (mq_cl (zf_X5_pushSign N z (v1) S42) (fun q43v S45 => (mq_cz ((1 : Int32)) (mq_nS (mq_si S45 9 ((1 : Int32))) (fun S46 => (some ((), S46)))))))))
def zf_X5_accept (N : Nat) (z : Nat → Nat) (v1 : Int32) (v2 : Int32) (S : mq_St) : Option (Unit × mq_St) := (mq_cp (zf_X5_canStand N z (v1) S) (fun q1 => (if q1 = (0 : Int32) then (mq_cl (zf_X5_fail N z ((1 : Int32)) (v2) S) (fun q36v S38 => (some ((), S38)))) else (mq_cp (zf_X5_isOpening N z (v1) (mq_pull S [] [] [])) (fun q3 => (if q3 = (0 : Int32) then (mq_cp (zf_X5_isAtom N z (v1) (mq_pull S [] [] [])) (fun q5 => (if q5 = (0 : Int32) then (if v1 = (41 : Int32) then (mq_cl (zf_X5_joinDownTo N z ((1 : Int32)) S) (fun q12v S14 => (mq_cl (zf_X5_closeBracket N z S14) (fun q15v S17 => (mq_cl (zf_X5_endOperand N z S17) (fun q18v S20 => (some ((), S20)))))))) else (if v1 = (62 : Int32) then (mq_cp (zf_X5_rankOf N z (v1) (mq_pull S [] [] [])) (fun q9 => (zf_X5_accept_98 N z (v1) ((q9 + (1 : Int32))) S))) else (mq_cp (zf_X5_rankOf N z (v1) (mq_pull S [] [] [])) (fun q7 => (zf_X5_accept_98 N z (v1) (q7) S))))) else (mq_cl (zf_X5_markOfAtom N z (v1) S) (fun q22v S24 => (mq_cl (zf_X5_pushMark N z (q22v) S24) (fun q25v S27 => (mq_cl (zf_X5_endOperand N z S27) (fun q28v S30 => (some ((), S30))))))))))) else (mq_cl (zf_X5_acceptOpening N z (v1) (v2) S) (fun q32v S34 => (some ((), S34))))))))))
set_option maxHeartbeats 4000000 in
set_option maxRecDepth 100000 in
theorem zw_X5_accept_98 {p : Program} {l : Launch} {e : Env} {s : State} {m : MethodId} {args : Array Value} {below : List Frame} {meth : Method} {c : Code} {A : Nat → Prop} {D : va_G} {a z : Nat → Nat} {cI cL cB cZ : ClassId} {Q : State → Prop} {N : Nat} {res : Unit × mq_St} (C : mq_C p s m args c A D cI cL cB cZ cX5_accept 3 RX5 zc_X5_accept) (hret : ∀ (H : Heap) (locs : List Loc) (ls : Array Slot) (pc : Nat), decode cX5_accept pc = .ok (.return_, 1) → va_P D vwCl (wd_C a cI cL cB cZ z res.2) H → va_D A (wd_C a cI cL cB cZ z res.2) → va_S A s.heap H locs → W p l e zr_X5_accept s m args below meth c H locs 0 0 Q (F0 m pc ls [])) (v1 : Int32) (t1 : Int32) (S : mq_St) (H : Heap) (locs : List Loc) (ls : Array Slot) (h : zf_X5_accept_98 N z v1 t1 S = some res) (hl : lv_has ls 3 [(0, .ref (a 20)), (1, .int (v1))]) (hP : va_P D vwCl (wd_C a cI cL cB cZ z S) H) (hD : va_D A (wd_C a cI cL cB cZ z S)) (hS : va_S A s.heap H locs) : W p l e zr_X5_accept s m args below meth c H locs 0 0 Q (F0 m 98 ls [.int (t1), .ref (a 20)]) := by
  obtain ⟨hx, hb, hml, hown, hts, hK, hA⟩ := id C
  unfold zf_X5_accept_98 at h
  obtain ⟨q40, hc41, h⟩ := mq_cl_go h
  refine zk_X5_joinDownTo C zt_m_X5_90 ⟨by decide, by decide⟩ hc41 hP hD hS hl.1 (Nat.le_of_ble_eq_true rfl) dX5_accept_98 (fun H locs hP hD hS => ?_)
  obtain ⟨S42, eS42⟩ : ∃ y, y = q40.2 := ⟨_, rfl⟩
  rw [← eS42] at hP hD h
  refine lv_aload_n hx hb dX5_accept_101 rfl (lv_at hl 0 rfl) ?_
  refine lv_iload_n hx hb dX5_accept_102 rfl (lv_at hl 1 rfl) ?_
  obtain ⟨q43, hc44, h⟩ := mq_cl_go h
  refine zk_X5_pushSign C zt_m_X5_125 ⟨by decide, by decide⟩ hc44 hP hD hS hl.1 (Nat.le_of_ble_eq_true rfl) dX5_accept_103 (fun H locs hP hD hS => ?_)
  obtain ⟨S45, eS45⟩ : ∃ y, y = q43.2 := ⟨_, rfl⟩
  rw [← eS45] at hP hD h
  refine lv_aload_n hx hb dX5_accept_106 rfl (lv_at hl 0 rfl) ?_
  refine lv_iconst (v := (1 : Int32)) hx hb dX5_accept_107 (by decide) ?_
  have hz47 := mq_cz_in h
  replace h := mq_cz_go h
  refine mq_put (w := wd_C a cI cL cB cZ z) (S := S45) (D := D) (ci := 5) (v := (1 : Int32)) (ty := .boolean) (C := RX5) (T := TX5) (N := 12) hx hb hts (zi_X5 _) tyX5 tyX5_ok nmX5 hown hK hP hD hS 20 rfl rfl 8 (by decide) (hts _ (List.mem_cons_of_mem _ zt_f_X5_80)) (fun _ h9 => h9) rfl (by decide +kernel) hz47.1 hz47.2 (Nat.le_of_ble_eq_true rfl) dX5_accept_108 9 (zs_wd_C_i_20_9 _ _ _ _ _ _ _ _) (fun S46 eS46 H locs hP hD hS => ?_)
  replace h := mq_nS_go eS46 h
  cases h
  exact hret H locs ls 111 dX5_accept_111 hP hD hS
set_option maxHeartbeats 4000000 in
set_option maxRecDepth 100000 in
theorem zw_X5_accept_0 {p : Program} {l : Launch} {e : Env} {s : State} {m : MethodId} {args : Array Value} {below : List Frame} {meth : Method} {c : Code} {A : Nat → Prop} {D : va_G} {a z : Nat → Nat} {cI cL cB cZ : ClassId} {Q : State → Prop} {N : Nat} {res : Unit × mq_St} (C : mq_C p s m args c A D cI cL cB cZ cX5_accept 3 RX5 zc_X5_accept) (hret : ∀ (H : Heap) (locs : List Loc) (ls : Array Slot) (pc : Nat), decode cX5_accept pc = .ok (.return_, 1) → va_P D vwCl (wd_C a cI cL cB cZ z res.2) H → va_D A (wd_C a cI cL cB cZ z res.2) → va_S A s.heap H locs → W p l e zr_X5_accept s m args below meth c H locs 0 0 Q (F0 m pc ls [])) (v1 : Int32) (v2 : Int32) (S : mq_St) (H : Heap) (locs : List Loc) (ls : Array Slot) (h : zf_X5_accept N z v1 v2 S = some res) (hl : lv_has ls 3 [(0, .ref (a 20)), (1, .int (v1)), (2, .int (v2))]) (hP : va_P D vwCl (wd_C a cI cL cB cZ z S) H) (hD : va_D A (wd_C a cI cL cB cZ z S)) (hS : va_S A s.heap H locs) : W p l e zr_X5_accept s m args below meth c H locs 0 0 Q (F0 m 0 ls []) := by
  obtain ⟨hx, hb, hml, hown, hts, hK, hA⟩ := id C
  unfold zf_X5_accept at h
  refine lv_aload_n hx hb dX5_accept_0 rfl (lv_at hl 0 rfl) ?_
  refine lv_iload_n hx hb dX5_accept_1 rfl (lv_at hl 1 rfl) ?_
  obtain ⟨q1, hc2, h⟩ := mq_cp_go h
  refine zk_X5_canStand C zt_m_X5_97 ⟨by decide, by decide⟩ hc2 hP hD hS hl.1 (Nat.le_of_ble_eq_true rfl) dX5_accept_2 (fun H locs hP hD hS => ?_)
  refine lv_if_ne (tgt := 17) hx hb dX5_accept_5 (by decide) (fun c39 => ?_) (fun c39 => ?_)
  · replace h := mq_if c39 h
    refine lv_iload_n hx hb dX5_accept_17 rfl (lv_at hl 1 rfl) ?_
    obtain ⟨q3, hc4, h⟩ := mq_cp_go h
    refine zv_X5_isOpening (a := mq_ad a []) (z := z) [] C zt_m_X5_101 ⟨by decide, by decide⟩ hc4 rfl (by decide) hP hD hS hl.1 (Nat.le_of_ble_eq_true rfl) dX5_accept_18 (fun H locs hP hD hS => ?_)
    refine lv_if_eq (tgt := 33) hx hb dX5_accept_21 (by decide) (fun c35 => ?_) (fun c35 => ?_)
    · replace h := mq_it c35 h
      refine lv_iload_n hx hb dX5_accept_33 rfl (lv_at hl 1 rfl) ?_
      obtain ⟨q5, hc6, h⟩ := mq_cp_go h
      refine zv_X5_isAtom (a := mq_ad a []) (z := z) [] C zt_m_X5_107 ⟨by decide, by decide⟩ hc6 rfl (by decide) hP hD hS hl.1 (Nat.le_of_ble_eq_true rfl) dX5_accept_34 (fun H locs hP hD hS => ?_)
      refine lv_if_eq (tgt := 56) hx hb dX5_accept_37 (by decide) (fun c31 => ?_) (fun c31 => ?_)
      · replace h := mq_it c31 h
        refine lv_iload_n hx hb dX5_accept_56 rfl (lv_at hl 1 rfl) ?_
        refine lv_bipush (v := (41 : Int32)) hx hb dX5_accept_57 (by decide) ?_
        refine lv_icmp_ne (tgt := 78) hx hb dX5_accept_59 (by decide) (fun c21 => ?_) (fun c21 => ?_)
        · replace h := mq_if c21 h
          refine lv_aload_n hx hb dX5_accept_78 rfl (lv_at hl 0 rfl) ?_
          refine lv_iload_n hx hb dX5_accept_79 rfl (lv_at hl 1 rfl) ?_
          refine lv_bipush (v := (62 : Int32)) hx hb dX5_accept_80 (by decide) ?_
          refine lv_icmp_ne (tgt := 94) hx hb dX5_accept_82 (by decide) (fun c11 => ?_) (fun c11 => ?_)
          · replace h := mq_if c11 h
            refine lv_iload_n hx hb dX5_accept_94 rfl (lv_at hl 1 rfl) ?_
            obtain ⟨q7, hc8, h⟩ := mq_cp_go h
            refine zv_X5_rankOf (a := mq_ad a []) (z := z) [] C zt_m_X5_122 ⟨by decide, by decide⟩ hc8 rfl (by decide) hP hD hS hl.1 (Nat.le_of_ble_eq_true rfl) dX5_accept_95 (fun H locs hP hD hS => ?_)
            exact zw_X5_accept_98 C hret (v1) (q7) S H locs ls h (lv_sub hl [0, 1] rfl) hP hD hS
          · replace h := mq_it (by simpa using c11) h
            refine lv_iload_n hx hb dX5_accept_85 rfl (lv_at hl 1 rfl) ?_
            obtain ⟨q9, hc10, h⟩ := mq_cp_go h
            refine zv_X5_rankOf (a := mq_ad a []) (z := z) [] C zt_m_X5_122 ⟨by decide, by decide⟩ hc10 rfl (by decide) hP hD hS hl.1 (Nat.le_of_ble_eq_true rfl) dX5_accept_86 (fun H locs hP hD hS => ?_)
            refine lv_iconst (v := (1 : Int32)) hx hb dX5_accept_89 (by decide) ?_
            refine lv_iadd hx hb dX5_accept_90 ?_
            refine lv_goto (tgt := 98) hx hb dX5_accept_91 (by decide) ?_
            exact zw_X5_accept_98 C hret (v1) ((q9 + (1 : Int32))) S H locs ls h (lv_sub hl [0, 1] rfl) hP hD hS
        · replace h := mq_it (by simpa using c21) h
          refine lv_aload_n hx hb dX5_accept_62 rfl (lv_at hl 0 rfl) ?_
          refine lv_iconst (v := (1 : Int32)) hx hb dX5_accept_63 (by decide) ?_
          obtain ⟨q12, hc13, h⟩ := mq_cl_go h
          refine zk_X5_joinDownTo C zt_m_X5_90 ⟨by decide, by decide⟩ hc13 hP hD hS hl.1 (Nat.le_of_ble_eq_true rfl) dX5_accept_64 (fun H locs hP hD hS => ?_)
          obtain ⟨S14, eS14⟩ : ∃ y, y = q12.2 := ⟨_, rfl⟩
          rw [← eS14] at hP hD h
          refine lv_aload_n hx hb dX5_accept_67 rfl (lv_at hl 0 rfl) ?_
          obtain ⟨q15, hc16, h⟩ := mq_cl_go h
          refine zk_X5_closeBracket C zt_m_X5_119 ⟨by decide, by decide⟩ hc16 hP hD hS hl.1 (Nat.le_of_ble_eq_true rfl) dX5_accept_68 (fun H locs hP hD hS => ?_)
          obtain ⟨S17, eS17⟩ : ∃ y, y = q15.2 := ⟨_, rfl⟩
          rw [← eS17] at hP hD h
          refine lv_aload_n hx hb dX5_accept_71 rfl (lv_at hl 0 rfl) ?_
          obtain ⟨q18, hc19, h⟩ := mq_cl_go h
          refine zk_X5_endOperand C zt_m_X5_116 ⟨by decide, by decide⟩ hc19 hP hD hS hl.1 (Nat.le_of_ble_eq_true rfl) dX5_accept_72 (fun H locs hP hD hS => ?_)
          obtain ⟨S20, eS20⟩ : ∃ y, y = q18.2 := ⟨_, rfl⟩
          rw [← eS20] at hP hD h
          refine lv_goto (tgt := 111) hx hb dX5_accept_75 (by decide) ?_
          cases h
          exact hret H locs ls 111 dX5_accept_111 hP hD hS
      · replace h := mq_if c31 h
        refine lv_aload_n hx hb dX5_accept_40 rfl (lv_at hl 0 rfl) ?_
        refine lv_aload_n hx hb dX5_accept_41 rfl (lv_at hl 0 rfl) ?_
        refine lv_iload_n hx hb dX5_accept_42 rfl (lv_at hl 1 rfl) ?_
        obtain ⟨q22, hc23, h⟩ := mq_cl_go h
        refine zk_X5_markOfAtom C zt_m_X5_110 ⟨by decide, by decide⟩ hc23 hP hD hS hl.1 (Nat.le_of_ble_eq_true rfl) dX5_accept_43 (fun H locs hP hD hS => ?_)
        obtain ⟨S24, eS24⟩ : ∃ y, y = q22.2 := ⟨_, rfl⟩
        rw [← eS24] at hP hD h
        obtain ⟨q25, hc26, h⟩ := mq_cl_go h
        refine zk_X5_pushMark C zt_m_X5_113 ⟨by decide, by decide⟩ hc26 hP hD hS hl.1 (Nat.le_of_ble_eq_true rfl) dX5_accept_46 (fun H locs hP hD hS => ?_)
        obtain ⟨S27, eS27⟩ : ∃ y, y = q25.2 := ⟨_, rfl⟩
        rw [← eS27] at hP hD h
        refine lv_aload_n hx hb dX5_accept_49 rfl (lv_at hl 0 rfl) ?_
        obtain ⟨q28, hc29, h⟩ := mq_cl_go h
        refine zk_X5_endOperand C zt_m_X5_116 ⟨by decide, by decide⟩ hc29 hP hD hS hl.1 (Nat.le_of_ble_eq_true rfl) dX5_accept_50 (fun H locs hP hD hS => ?_)
        obtain ⟨S30, eS30⟩ : ∃ y, y = q28.2 := ⟨_, rfl⟩
        rw [← eS30] at hP hD h
        refine lv_goto (tgt := 111) hx hb dX5_accept_53 (by decide) ?_
        cases h
        exact hret H locs ls 111 dX5_accept_111 hP hD hS
    · replace h := mq_if c35 h
      refine lv_aload_n hx hb dX5_accept_24 rfl (lv_at hl 0 rfl) ?_
      refine lv_iload_n hx hb dX5_accept_25 rfl (lv_at hl 1 rfl) ?_
      refine lv_iload_n hx hb dX5_accept_26 rfl (lv_at hl 2 rfl) ?_
      obtain ⟨q32, hc33, h⟩ := mq_cl_go h
      refine zk_X5_acceptOpening C zt_m_X5_104 ⟨by decide, by decide⟩ hc33 hP hD hS hl.1 (Nat.le_of_ble_eq_true rfl) dX5_accept_27 (fun H locs hP hD hS => ?_)
      obtain ⟨S34, eS34⟩ : ∃ y, y = q32.2 := ⟨_, rfl⟩
      rw [← eS34] at hP hD h
      refine lv_goto (tgt := 111) hx hb dX5_accept_30 (by decide) ?_
      cases h
      exact hret H locs ls 111 dX5_accept_111 hP hD hS
  · replace h := mq_it (by simpa using c39) h
    refine lv_aload_n hx hb dX5_accept_8 rfl (lv_at hl 0 rfl) ?_
    refine lv_iconst (v := (1 : Int32)) hx hb dX5_accept_9 (by decide) ?_
    refine lv_iload_n hx hb dX5_accept_10 rfl (lv_at hl 2 rfl) ?_
    obtain ⟨q36, hc37, h⟩ := mq_cl_go h
    refine zk_X5_fail C zt_m_X5_87 ⟨by decide, by decide⟩ hc37 hP hD hS hl.1 (Nat.le_of_ble_eq_true rfl) dX5_accept_11 (fun H locs hP hD hS => ?_)
    obtain ⟨S38, eS38⟩ : ∃ y, y = q36.2 := ⟨_, rfl⟩
    rw [← eS38] at hP hD h
    refine lv_goto (tgt := 111) hx hb dX5_accept_14 (by decide) ?_
    cases h
    exact hret H locs ls 111 dX5_accept_111 hP hD hS
set_option maxHeartbeats 4000000 in
set_option maxRecDepth 100000 in
theorem zm_X5_accept (l : Launch) (D : va_G) (a z : Nat → Nat) (cI cL cB cZ : ClassId) (sz N : Nat) (v1 : Int32) (v2 : Int32) (S : mq_St) (res : Unit × mq_St) (h : zf_X5_accept N z v1 v2 S = some res) : Met l yX5_accept (zc_X5_accept :: mq_T) zr_X5_accept (va_Pc [.ref (a 20), .int (v1), .int (v2)] (fun U => U.heap.size = sz ∧ va_P D vwCl (wd_C a cI cL cB cZ z S) U.heap ∧ va_K D vwCl (mq_tys cI cL cB cZ) U ∧ va_D (fun _ => True) (wd_C a cI cL cB cZ z S))) (va_Qv (fun u : mq_St => u = res.2) (fun u t => va_P D vwCl (wd_C a cI cL cB cZ z u) t.heap ∧ va_K D vwCl (mq_tys cI cL cB cZ) t ∧ va_D (va_A (wd_C a cI cL cB cZ z S) sz) (wd_C a cI cL cB cZ z u)) (va_A (wd_C a cI cL cB cZ z S) sz)) 0 0 (va_A (wd_C a cI cL cB cZ z S) sz) := by
  refine Met.ofW (cc := cX5_accept) (maxL := 3) (ret := none) (by decide) rfl ?_
  intro p e s m args below meth c s₁ B hml hv
  obtain ⟨rfl, hsz, hP, hK, hD0⟩ := hv
  have hr := B.returns
  have hlocks := B.notSynchronized
  have hts := atoms_spec (ws := zc_X5_accept :: mq_T) B.pre
  have hown : s.vm.findClass RX5 = some m.cls := findClass_of_methodNamed B.named
  subst hsz
  have hD := hD0.self (sz := s.heap.size)
  generalize hAe : va_A (wd_C a cI cL cB cZ z S) s.heap.size = A at hD ⊢
  have hA : ∀ q : Nat, s.heap.size ≤ q → A q := fun q h => by rw [← hAe]; exact Or.inr h
  have hl := lv_entry ([.ref (a 20), .int (v1), .int (v2)]) (n := 3) (Nat.le_of_ble_eq_true rfl)
  rw [lg_entry_eq]
  generalize (lg_sl ([.ref (a 20), .int (v1), .int (v2)]) ++ List.replicate (3 - (lg_sl ([.ref (a 20), .int (v1), .int (v2)])).length) Slot.unset).toArray = ls at hl ⊢
  have hl : lv_has ls 3 [(0, .ref (a 20)), (1, .int (v1)), (2, .int (v2))] := hl
  refine zw_X5_accept_0 (A := A) ⟨B.exec, B.bytes, hml, hown, hts, hK, hA⟩ (fun H locs ls pc dg hP hD hS => ?_) v1 v2 S s.heap [] ls h hl hP hD va_S.rf
  exact W.vret B.exec B.bytes hr (fun t ht hW => ⟨⟨_, rfl, rfl, by rw [ht]; exact hP, va_K.moved hW.alike hK, hD⟩, hS.F ht⟩) hS.2.2 dg
theorem zt_X5_accept_c : zc_X5_accept ∈ mq_T := mq_T_mem (mq_t2 (List.mem_of_getElem? (i := 228) rfl)) rfl
theorem zt_X5_accept_i : Cond.instanceMethod yX5_accept ∈ mq_T := mq_T_mem (mq_t2 (List.mem_of_getElem? (i := 227) rfl)) rfl
theorem zt_X5_accept_s : Cond.selects RX5 yX5_accept yX5_accept ∈ mq_T := mq_T_at 5 (by decide +kernel)
set_option maxHeartbeats 4000000 in
theorem zk_X5_accept {p : Program} {l : Launch} {e : Env} {R : Room} {s : State} {m : MethodId} {args : Array Value} {below : List Frame} {meth : Method} {c : Code} {A : Nat → Prop} {D : va_G} {a z : Nat → Nat} {cI cL cB cZ : ClassId} {Q : State → Prop} {cc : ByteArray} {nL idx pc N : Nat} {own : String} {c1 : Cond} {H : Heap} {locs : List Loc} {ls : Array Slot} {rest : List Value} {S : mq_St} {res : Unit × mq_St} {v1 : Int32} {v2 : Int32} (C : mq_C p s m args c A D cI cL cB cZ cc nL own c1) (hlk : Cond.methodLink own idx yX5_accept ∈ mq_T) (hR : zr_X5_accept.frames + 1 ≤ R.frames ∧ 8 + (3 + 11) + zr_X5_accept.locals ≤ R.locals) (h : zf_X5_accept N z v1 v2 S = some res) (hP : va_P D vwCl (wd_C a cI cL cB cZ z S) H) (hD : va_D A (wd_C a cI cL cB cZ z S)) (hS : va_S A s.heap H locs) (hls : ls.size = nL) (hrest : (rest.map fun v => v.category).sum ≤ 8) (hdg : decode cc pc = .ok (.invokevirtual idx, 3)) (kk : ∀ (H1 : Heap) (locs1 : List Loc), va_P D vwCl (wd_C a cI cL cB cZ z res.2) H1 → va_D A (wd_C a cI cL cB cZ z res.2) → va_S A s.heap H1 locs1 → W p l e R s m args below meth c H1 locs1 0 0 Q (F0 m (pc + 3) ls rest)) : W p l e R s m args below meth c H locs 0 0 Q (F0 m pc ls (.int (v2) :: .int (v1) :: .ref (a 20) :: rest)) := by
  obtain ⟨hx, hb, hml, hown, hts, hK, hA⟩ := C
  have hFc := mq_freeI hD hS hA
  refine va_callv (va_runV (As := [.int (v1), .int (v2)]) (rest := rest) ⟨hx, hb, hml, hown, hts⟩ (zm_X5_accept l D a z cI cL cB cZ H.size N v1 v2 S res h) (cwV 2 hts (mq_goodL (mq_wsV hlk zt_X5_accept_i zt_X5_accept_s zt_ini_X5 zt_X5_accept_c)) rfl rfl rfl (by decide +kernel) hR) ⟨fun a U g mk q => ⟨q.1, q.2.1, q.2.2.1, va_K.moved (u := U) (U := U.calling g mk a) (Vm.Alike.refl U.vm) q.2.2.2.1, q.2.2.2.2⟩, zy_C_20 hK hP, fun U hU hW => ⟨rfl, by rw [hU], by rw [hU]; exact hP, va_K.moved hW.alike hK, hD.weaken (fun _ _ _ _ => trivial)⟩⟩ rfl rfl hls rfl (lv_room hrest) hdg ⟨Nat.zero_le _, Nat.zero_le _⟩) hS (fun q _ h => hFc q h) hFc (fun u t H1 locs ht hvm hw hB hz1 hk1 hS => ?_)
  subst hw
  obtain ⟨hP1, hK1, hD1⟩ := hB
  rw [ht] at hP1
  exact kk H1 locs hP1 (hD1.weaken (fun _ _ _ h => hFc _ h)) hS
theorem zt_m_X5_63 : Cond.methodLink RX5 63 yX2_clear ∈ mq_T := mq_T_mem (mq_t2 (List.mem_of_getElem? (i := 204) rfl)) rfl
theorem zs_wd_C_i_20_10 (a z : Nat → Nat) (cI cL cB cZ : ClassId) (S : mq_St) (v : Int32) : (wd_C a cI cL cB cZ z S).set 20 (a 20, .inr (5, ([.ref (a 3), .ref (a 14), .ref (a 21), .ref (a 22), .int (S.1 5), .int (S.1 6), .int (S.1 7), .int (S.1 8), .int (S.1 9), .int (S.1 10), .int (S.1 11), .int (S.1 12)] : List Value).set 9 (.int v))) = (wd_C a cI cL cB cZ z (mq_si S 10 v)) := rfl
/-! ModalDesk$Reader.begin(Z)V -/
def zr_X5_begin : Room := { frames := 2, cells := 0, slots := 0, locals := 44 }
def zc_X5_begin : Cond := .code yX5_begin cX5_begin 2 none
def zf_X5_begin (N : Nat) (z : Nat → Nat) (v1 : Int32) (S : mq_St) : Option (Unit × mq_St) := (mq_cl (zf_X2_clear N z S) (fun q1v S3 => (mq_nS (mq_si S3 5 ((0 : Int32))) (fun S4 => (mq_nS (mq_si S4 6 ((0 : Int32))) (fun S5 => (mq_nS (mq_si S5 7 ((0 : Int32))) (fun S6 => (mq_nS (mq_si S6 8 ((0 : Int32))) (fun S7 => (mq_cz ((1 : Int32)) (mq_nS (mq_si S7 9 ((1 : Int32))) (fun S8 => (mq_cz (v1) (mq_nS (mq_si S8 10 (v1)) (fun S10 => (mq_cl (zf_X5_fail N z ((0 : Int32)) ((-1 : Int32)) S10) (fun q12v S14 => (some ((), S14))))))))))))))))))))
set_option maxHeartbeats 4000000 in
set_option maxRecDepth 100000 in
theorem zw_X5_begin_0 {p : Program} {l : Launch} {e : Env} {s : State} {m : MethodId} {args : Array Value} {below : List Frame} {meth : Method} {c : Code} {A : Nat → Prop} {D : va_G} {a z : Nat → Nat} {cI cL cB cZ : ClassId} {Q : State → Prop} {N : Nat} {res : Unit × mq_St} (C : mq_C p s m args c A D cI cL cB cZ cX5_begin 2 RX5 zc_X5_begin) (hret : ∀ (H : Heap) (locs : List Loc) (ls : Array Slot) (pc : Nat), decode cX5_begin pc = .ok (.return_, 1) → va_P D vwCl (wd_C a cI cL cB cZ z res.2) H → va_D A (wd_C a cI cL cB cZ z res.2) → va_S A s.heap H locs → W p l e zr_X5_begin s m args below meth c H locs 0 0 Q (F0 m pc ls [])) (v1 : Int32) (S : mq_St) (H : Heap) (locs : List Loc) (ls : Array Slot) (h : zf_X5_begin N z v1 S = some res) (hl : lv_has ls 2 [(0, .ref (a 20)), (1, .int (v1))]) (hP : va_P D vwCl (wd_C a cI cL cB cZ z S) H) (hD : va_D A (wd_C a cI cL cB cZ z S)) (hS : va_S A s.heap H locs) : W p l e zr_X5_begin s m args below meth c H locs 0 0 Q (F0 m 0 ls []) := by
  obtain ⟨hx, hb, hml, hown, hts, hK, hA⟩ := id C
  unfold zf_X5_begin at h
  refine lv_aload_n hx hb dX5_begin_0 rfl (lv_at hl 0 rfl) ?_
  refine va_get (D := D) (ci := 5) (v := .ref (a 14)) (C := RX5) (T := TX5) (N := 12) hx hb hts (zi_X5 _) hown hK hP 20 rfl rfl 1 (by decide) (hts _ (List.mem_cons_of_mem _ zt_f_X5_26)) (fun _ h9 => h9) rfl dX5_begin_1 ?_
  obtain ⟨q1, hc2, h⟩ := mq_cl_go h
  refine zk_X2_clear C zt_m_X5_63 ⟨by decide, by decide⟩ hc2 hP hD hS hl.1 (Nat.le_of_ble_eq_true rfl) dX5_begin_4 (fun H locs hP hD hS => ?_)
  obtain ⟨S3, eS3⟩ : ∃ y, y = q1.2 := ⟨_, rfl⟩
  rw [← eS3] at hP hD h
  refine lv_aload_n hx hb dX5_begin_7 rfl (lv_at hl 0 rfl) ?_
  refine lv_iconst (v := (0 : Int32)) hx hb dX5_begin_8 (by decide) ?_
  refine mq_put (w := wd_C a cI cL cB cZ z) (S := S3) (D := D) (ci := 5) (v := (0 : Int32)) (ty := .int) (C := RX5) (T := TX5) (N := 12) hx hb hts (zi_X5 _) tyX5 tyX5_ok nmX5 hown hK hP hD hS 20 rfl rfl 4 (by decide) (hts _ (List.mem_cons_of_mem _ zt_f_X5_68)) (fun _ h9 => h9) rfl (by decide +kernel) rfl rfl (Nat.le_of_ble_eq_true rfl) dX5_begin_9 5 (zs_wd_C_i_20_5 _ _ _ _ _ _ _ _) (fun S4 eS4 H locs hP hD hS => ?_)
  replace h := mq_nS_go eS4 h
  refine lv_aload_n hx hb dX5_begin_12 rfl (lv_at hl 0 rfl) ?_
  refine lv_iconst (v := (0 : Int32)) hx hb dX5_begin_13 (by decide) ?_
  refine mq_put (w := wd_C a cI cL cB cZ z) (S := S4) (D := D) (ci := 5) (v := (0 : Int32)) (ty := .int) (C := RX5) (T := TX5) (N := 12) hx hb hts (zi_X5 _) tyX5 tyX5_ok nmX5 hown hK hP hD hS 20 rfl rfl 5 (by decide) (hts _ (List.mem_cons_of_mem _ zt_f_X5_71)) (fun _ h9 => h9) rfl (by decide +kernel) rfl rfl (Nat.le_of_ble_eq_true rfl) dX5_begin_14 6 (zs_wd_C_i_20_6 _ _ _ _ _ _ _ _) (fun S5 eS5 H locs hP hD hS => ?_)
  replace h := mq_nS_go eS5 h
  refine lv_aload_n hx hb dX5_begin_17 rfl (lv_at hl 0 rfl) ?_
  refine lv_iconst (v := (0 : Int32)) hx hb dX5_begin_18 (by decide) ?_
  refine mq_put (w := wd_C a cI cL cB cZ z) (S := S5) (D := D) (ci := 5) (v := (0 : Int32)) (ty := .int) (C := RX5) (T := TX5) (N := 12) hx hb hts (zi_X5 _) tyX5 tyX5_ok nmX5 hown hK hP hD hS 20 rfl rfl 6 (by decide) (hts _ (List.mem_cons_of_mem _ zt_f_X5_74)) (fun _ h9 => h9) rfl (by decide +kernel) rfl rfl (Nat.le_of_ble_eq_true rfl) dX5_begin_19 7 (zs_wd_C_i_20_7 _ _ _ _ _ _ _ _) (fun S6 eS6 H locs hP hD hS => ?_)
  replace h := mq_nS_go eS6 h
  refine lv_aload_n hx hb dX5_begin_22 rfl (lv_at hl 0 rfl) ?_
  refine lv_iconst (v := (0 : Int32)) hx hb dX5_begin_23 (by decide) ?_
  refine mq_put (w := wd_C a cI cL cB cZ z) (S := S6) (D := D) (ci := 5) (v := (0 : Int32)) (ty := .int) (C := RX5) (T := TX5) (N := 12) hx hb hts (zi_X5 _) tyX5 tyX5_ok nmX5 hown hK hP hD hS 20 rfl rfl 7 (by decide) (hts _ (List.mem_cons_of_mem _ zt_f_X5_77)) (fun _ h9 => h9) rfl (by decide +kernel) rfl rfl (Nat.le_of_ble_eq_true rfl) dX5_begin_24 8 (zs_wd_C_i_20_8 _ _ _ _ _ _ _ _) (fun S7 eS7 H locs hP hD hS => ?_)
  replace h := mq_nS_go eS7 h
  refine lv_aload_n hx hb dX5_begin_27 rfl (lv_at hl 0 rfl) ?_
  refine lv_iconst (v := (1 : Int32)) hx hb dX5_begin_28 (by decide) ?_
  have hz9 := mq_cz_in h
  replace h := mq_cz_go h
  refine mq_put (w := wd_C a cI cL cB cZ z) (S := S7) (D := D) (ci := 5) (v := (1 : Int32)) (ty := .boolean) (C := RX5) (T := TX5) (N := 12) hx hb hts (zi_X5 _) tyX5 tyX5_ok nmX5 hown hK hP hD hS 20 rfl rfl 8 (by decide) (hts _ (List.mem_cons_of_mem _ zt_f_X5_80)) (fun _ h9 => h9) rfl (by decide +kernel) hz9.1 hz9.2 (Nat.le_of_ble_eq_true rfl) dX5_begin_29 9 (zs_wd_C_i_20_9 _ _ _ _ _ _ _ _) (fun S8 eS8 H locs hP hD hS => ?_)
  replace h := mq_nS_go eS8 h
  refine lv_aload_n hx hb dX5_begin_32 rfl (lv_at hl 0 rfl) ?_
  refine lv_iload_n hx hb dX5_begin_33 rfl (lv_at hl 1 rfl) ?_
  have hz11 := mq_cz_in h
  replace h := mq_cz_go h
  refine mq_put (w := wd_C a cI cL cB cZ z) (S := S8) (D := D) (ci := 5) (v := v1) (ty := .boolean) (C := RX5) (T := TX5) (N := 12) hx hb hts (zi_X5 _) tyX5 tyX5_ok nmX5 hown hK hP hD hS 20 rfl rfl 9 (by decide) (hts _ (List.mem_cons_of_mem _ zt_f_X5_84)) (fun _ h9 => h9) rfl (by decide +kernel) hz11.1 hz11.2 (Nat.le_of_ble_eq_true rfl) dX5_begin_34 10 (zs_wd_C_i_20_10 _ _ _ _ _ _ _ _) (fun S10 eS10 H locs hP hD hS => ?_)
  replace h := mq_nS_go eS10 h
  refine lv_aload_n hx hb dX5_begin_37 rfl (lv_at hl 0 rfl) ?_
  refine lv_iconst (v := (0 : Int32)) hx hb dX5_begin_38 (by decide) ?_
  refine lv_iconst (v := (-1 : Int32)) hx hb dX5_begin_39 (by decide) ?_
  obtain ⟨q12, hc13, h⟩ := mq_cl_go h
  refine zk_X5_fail C zt_m_X5_87 ⟨by decide, by decide⟩ hc13 hP hD hS hl.1 (Nat.le_of_ble_eq_true rfl) dX5_begin_40 (fun H locs hP hD hS => ?_)
  obtain ⟨S14, eS14⟩ : ∃ y, y = q12.2 := ⟨_, rfl⟩
  rw [← eS14] at hP hD h
  cases h
  exact hret H locs ls 43 dX5_begin_43 hP hD hS
set_option maxHeartbeats 4000000 in
set_option maxRecDepth 100000 in
theorem zm_X5_begin (l : Launch) (D : va_G) (a z : Nat → Nat) (cI cL cB cZ : ClassId) (sz N : Nat) (v1 : Int32) (S : mq_St) (res : Unit × mq_St) (h : zf_X5_begin N z v1 S = some res) : Met l yX5_begin (zc_X5_begin :: mq_T) zr_X5_begin (va_Pc [.ref (a 20), .int (v1)] (fun U => U.heap.size = sz ∧ va_P D vwCl (wd_C a cI cL cB cZ z S) U.heap ∧ va_K D vwCl (mq_tys cI cL cB cZ) U ∧ va_D (fun _ => True) (wd_C a cI cL cB cZ z S))) (va_Qv (fun u : mq_St => u = res.2) (fun u t => va_P D vwCl (wd_C a cI cL cB cZ z u) t.heap ∧ va_K D vwCl (mq_tys cI cL cB cZ) t ∧ va_D (va_A (wd_C a cI cL cB cZ z S) sz) (wd_C a cI cL cB cZ z u)) (va_A (wd_C a cI cL cB cZ z S) sz)) 0 0 (va_A (wd_C a cI cL cB cZ z S) sz) := by
  refine Met.ofW (cc := cX5_begin) (maxL := 2) (ret := none) (by decide) rfl ?_
  intro p e s m args below meth c s₁ B hml hv
  obtain ⟨rfl, hsz, hP, hK, hD0⟩ := hv
  have hr := B.returns
  have hlocks := B.notSynchronized
  have hts := atoms_spec (ws := zc_X5_begin :: mq_T) B.pre
  have hown : s.vm.findClass RX5 = some m.cls := findClass_of_methodNamed B.named
  subst hsz
  have hD := hD0.self (sz := s.heap.size)
  generalize hAe : va_A (wd_C a cI cL cB cZ z S) s.heap.size = A at hD ⊢
  have hA : ∀ q : Nat, s.heap.size ≤ q → A q := fun q h => by rw [← hAe]; exact Or.inr h
  have hl := lv_entry ([.ref (a 20), .int (v1)]) (n := 2) (Nat.le_of_ble_eq_true rfl)
  rw [lg_entry_eq]
  generalize (lg_sl ([.ref (a 20), .int (v1)]) ++ List.replicate (2 - (lg_sl ([.ref (a 20), .int (v1)])).length) Slot.unset).toArray = ls at hl ⊢
  have hl : lv_has ls 2 [(0, .ref (a 20)), (1, .int (v1))] := hl
  refine zw_X5_begin_0 (A := A) ⟨B.exec, B.bytes, hml, hown, hts, hK, hA⟩ (fun H locs ls pc dg hP hD hS => ?_) v1 S s.heap [] ls h hl hP hD va_S.rf
  exact W.vret B.exec B.bytes hr (fun t ht hW => ⟨⟨_, rfl, rfl, by rw [ht]; exact hP, va_K.moved hW.alike hK, hD⟩, hS.F ht⟩) hS.2.2 dg
theorem zt_X5_begin_c : zc_X5_begin ∈ mq_T := mq_T_mem (mq_t2 (List.mem_of_getElem? (i := 203) rfl)) rfl
theorem zt_X5_begin_i : Cond.instanceMethod yX5_begin ∈ mq_T := mq_T_mem (mq_t2 (List.mem_of_getElem? (i := 202) rfl)) rfl
theorem zt_X5_begin_s : Cond.selects RX5 yX5_begin yX5_begin ∈ mq_T := mq_T_at 2 (by decide +kernel)
set_option maxHeartbeats 4000000 in
theorem zk_X5_begin {p : Program} {l : Launch} {e : Env} {R : Room} {s : State} {m : MethodId} {args : Array Value} {below : List Frame} {meth : Method} {c : Code} {A : Nat → Prop} {D : va_G} {a z : Nat → Nat} {cI cL cB cZ : ClassId} {Q : State → Prop} {cc : ByteArray} {nL idx pc N : Nat} {own : String} {c1 : Cond} {H : Heap} {locs : List Loc} {ls : Array Slot} {rest : List Value} {S : mq_St} {res : Unit × mq_St} {v1 : Int32} (C : mq_C p s m args c A D cI cL cB cZ cc nL own c1) (hlk : Cond.methodLink own idx yX5_begin ∈ mq_T) (hR : zr_X5_begin.frames + 1 ≤ R.frames ∧ 8 + (2 + 11) + zr_X5_begin.locals ≤ R.locals) (h : zf_X5_begin N z v1 S = some res) (hP : va_P D vwCl (wd_C a cI cL cB cZ z S) H) (hD : va_D A (wd_C a cI cL cB cZ z S)) (hS : va_S A s.heap H locs) (hls : ls.size = nL) (hrest : (rest.map fun v => v.category).sum ≤ 8) (hdg : decode cc pc = .ok (.invokevirtual idx, 3)) (kk : ∀ (H1 : Heap) (locs1 : List Loc), va_P D vwCl (wd_C a cI cL cB cZ z res.2) H1 → va_D A (wd_C a cI cL cB cZ z res.2) → va_S A s.heap H1 locs1 → W p l e R s m args below meth c H1 locs1 0 0 Q (F0 m (pc + 3) ls rest)) : W p l e R s m args below meth c H locs 0 0 Q (F0 m pc ls (.int (v1) :: .ref (a 20) :: rest)) := by
  obtain ⟨hx, hb, hml, hown, hts, hK, hA⟩ := C
  have hFc := mq_freeI hD hS hA
  refine va_callv (va_runV (As := [.int (v1)]) (rest := rest) ⟨hx, hb, hml, hown, hts⟩ (zm_X5_begin l D a z cI cL cB cZ H.size N v1 S res h) (cwV 1 hts (mq_goodL (mq_wsV hlk zt_X5_begin_i zt_X5_begin_s zt_ini_X5 zt_X5_begin_c)) rfl rfl rfl (by decide +kernel) hR) ⟨fun a U g mk q => ⟨q.1, q.2.1, q.2.2.1, va_K.moved (u := U) (U := U.calling g mk a) (Vm.Alike.refl U.vm) q.2.2.2.1, q.2.2.2.2⟩, zy_C_20 hK hP, fun U hU hW => ⟨rfl, by rw [hU], by rw [hU]; exact hP, va_K.moved hW.alike hK, hD.weaken (fun _ _ _ _ => trivial)⟩⟩ rfl rfl hls rfl (lv_room hrest) hdg ⟨Nat.zero_le _, Nat.zero_le _⟩) hS (fun q _ h => hFc q h) hFc (fun u t H1 locs ht hvm hw hB hz1 hk1 hS => ?_)
  subst hw
  obtain ⟨hP1, hK1, hD1⟩ := hB
  rw [ht] at hP1
  exact kk H1 locs hP1 (hD1.weaken (fun _ _ _ h => hFc _ h)) hS
theorem zt_f_X5_22 : Cond.fieldLink RX5 22 "ModalDesk$Reader" "tape" "LModalDesk$ByteRow;" ∈ mq_T := mq_T_mem (mq_t1 (List.mem_of_getElem? (i := 137) rfl)) rfl
theorem zt_m_X5_94 : Cond.methodLink RX5 94 yX0_at ∈ mq_T := mq_T_mem (mq_t2 (List.mem_of_getElem? (i := 224) rfl)) rfl
theorem zx_wd_C_wd_B_3_4 (a z : Nat → Nat) (cI cL cB cZ : ClassId) (S X : mq_St) : mq_setM (wd_C a cI cL cB cZ z S) [3, 4] (wd_B (mq_ad a [3, 4]) cI cL cB cZ z X) = (wd_C a cI cL cB cZ z (mq_push S X [0] [2] [])) := rfl
/-! ModalDesk$Reader.signAt(I)I -/
def zr_X5_signAt : Room := { frames := 1, cells := 0, slots := 0, locals := 21 }
def zc_X5_signAt : Cond := .code yX5_signAt cX5_signAt 4 (some .int)
def zf_X5_signAt_32 (N : Nat) (z : Nat → Nat) (S : mq_St) (v2 : Int32) (t0 : Int32) : Option (Int32) := (mq_nI (t0) (fun x7 => (if v2 = (10 : Int32) then (some ((32 : Int32))) else (if v2 = (91 : Int32) then (if x7 = (93 : Int32) then (some (v2)) else (some ((0 : Int32)))) else (if v2 = (60 : Int32) then (if x7 = (62 : Int32) then (some (v2)) else (some ((0 : Int32)))) else (some (v2)))))))
def zf_X5_signAt (N : Nat) (z : Nat → Nat) (v1 : Int32) (S : mq_St) : Option (Int32) := (mq_cp (zf_X0_at N z (v1) (mq_pull S [0] [2] [])) (fun q1 => (mq_nI (q1) (fun x3 => (if (400 : Int32) ≤ (v1 + (1 : Int32)) then (zf_X5_signAt_32 N z S (x3) ((-1 : Int32))) else (mq_cp (zf_X0_at N z ((v1 + (1 : Int32))) (mq_pull S [0] [2] [])) (fun q4 => (zf_X5_signAt_32 N z S (x3) (q4)))))))))
set_option maxHeartbeats 4000000 in
set_option maxRecDepth 100000 in
theorem zw_X5_signAt_32 {p : Program} {l : Launch} {e : Env} {s : State} {m : MethodId} {args : Array Value} {below : List Frame} {meth : Method} {c : Code} {A : Nat → Prop} {D : va_G} {a z : Nat → Nat} {cI cL cB cZ : ClassId} {Q : State → Prop} {N : Nat} {S : mq_St} {res : Int32} (C : mq_C p s m args c A D cI cL cB cZ cX5_signAt 4 RX5 zc_X5_signAt) (hret : ∀ (H : Heap) (locs : List Loc) (ls : Array Slot) (pc : Nat), decode cX5_signAt pc = .ok (.ireturn, 1) → va_P D vwCl (wd_C a cI cL cB cZ z S) H → va_D A (wd_C a cI cL cB cZ z S) → va_S A s.heap H locs → W p l e zr_X5_signAt s m args below meth c H locs 0 0 Q (F0 m pc ls [.int res])) (v2 : Int32) (t0 : Int32) (H : Heap) (locs : List Loc) (ls : Array Slot) (h : zf_X5_signAt_32 N z S v2 t0 = some res) (hl : lv_has ls 4 [(2, .int (v2))]) (hP : va_P D vwCl (wd_C a cI cL cB cZ z S) H) (hD : va_D A (wd_C a cI cL cB cZ z S)) (hS : va_S A s.heap H locs) : W p l e zr_X5_signAt s m args below meth c H locs 0 0 Q (F0 m 32 ls [.int (t0)]) := by
  obtain ⟨hx, hb, hml, hown, hts, hK, hA⟩ := id C
  unfold zf_X5_signAt_32 at h
  refine lv_topi (fun x7 ex7 => ?_)
  replace h := mq_nI_go ex7 h
  refine lv_istore_n (lv' := [(3, .int (x7)), (2, .int (v2))]) hx hb dX5_signAt_32 rfl hl (by decide) rfl (fun ls hl => ?_)
  refine lv_iload_n hx hb dX5_signAt_33 rfl (lv_at hl 1 rfl) ?_
  refine lv_bipush (v := (10 : Int32)) hx hb dX5_signAt_34 (by decide) ?_
  refine lv_icmp_ne (tgt := 42) hx hb dX5_signAt_36 (by decide) (fun c12 => ?_) (fun c12 => ?_)
  · replace h := mq_if c12 h
    refine lv_iload_n hx hb dX5_signAt_42 rfl (lv_at hl 1 rfl) ?_
    refine lv_bipush (v := (91 : Int32)) hx hb dX5_signAt_43 (by decide) ?_
    refine lv_icmp_ne (tgt := 60) hx hb dX5_signAt_45 (by decide) (fun c11 => ?_) (fun c11 => ?_)
    · replace h := mq_if c11 h
      refine lv_iload_n hx hb dX5_signAt_60 rfl (lv_at hl 1 rfl) ?_
      refine lv_bipush (v := (60 : Int32)) hx hb dX5_signAt_61 (by decide) ?_
      refine lv_icmp_ne (tgt := 78) hx hb dX5_signAt_63 (by decide) (fun c9 => ?_) (fun c9 => ?_)
      · replace h := mq_if c9 h
        refine lv_iload_n hx hb dX5_signAt_78 rfl (lv_at hl 1 rfl) ?_
        cases h
        exact hret H locs ls 79 dX5_signAt_79 hP hD hS
      · replace h := mq_it (by simpa using c9) h
        refine lv_iload_n hx hb dX5_signAt_66 rfl (lv_at hl 0 rfl) ?_
        refine lv_bipush (v := (62 : Int32)) hx hb dX5_signAt_67 (by decide) ?_
        refine lv_icmp_ne (tgt := 76) hx hb dX5_signAt_69 (by decide) (fun c8 => ?_) (fun c8 => ?_)
        · replace h := mq_if c8 h
          refine lv_iconst (v := (0 : Int32)) hx hb dX5_signAt_76 (by decide) ?_
          cases h
          exact hret H locs ls 77 dX5_signAt_77 hP hD hS
        · replace h := mq_it (by simpa using c8) h
          refine lv_iload_n hx hb dX5_signAt_72 rfl (lv_at hl 1 rfl) ?_
          refine lv_goto (tgt := 77) hx hb dX5_signAt_73 (by decide) ?_
          cases h
          exact hret H locs ls 77 dX5_signAt_77 hP hD hS
    · replace h := mq_it (by simpa using c11) h
      refine lv_iload_n hx hb dX5_signAt_48 rfl (lv_at hl 0 rfl) ?_
      refine lv_bipush (v := (93 : Int32)) hx hb dX5_signAt_49 (by decide) ?_
      refine lv_icmp_ne (tgt := 58) hx hb dX5_signAt_51 (by decide) (fun c10 => ?_) (fun c10 => ?_)
      · replace h := mq_if c10 h
        refine lv_iconst (v := (0 : Int32)) hx hb dX5_signAt_58 (by decide) ?_
        cases h
        exact hret H locs ls 59 dX5_signAt_59 hP hD hS
      · replace h := mq_it (by simpa using c10) h
        refine lv_iload_n hx hb dX5_signAt_54 rfl (lv_at hl 1 rfl) ?_
        refine lv_goto (tgt := 59) hx hb dX5_signAt_55 (by decide) ?_
        cases h
        exact hret H locs ls 59 dX5_signAt_59 hP hD hS
  · replace h := mq_it (by simpa using c12) h
    refine lv_bipush (v := (32 : Int32)) hx hb dX5_signAt_39 (by decide) ?_
    cases h
    exact hret H locs ls 41 dX5_signAt_41 hP hD hS
set_option maxHeartbeats 4000000 in
set_option maxRecDepth 100000 in
theorem zw_X5_signAt_0 {p : Program} {l : Launch} {e : Env} {s : State} {m : MethodId} {args : Array Value} {below : List Frame} {meth : Method} {c : Code} {A : Nat → Prop} {D : va_G} {a z : Nat → Nat} {cI cL cB cZ : ClassId} {Q : State → Prop} {N : Nat} {S : mq_St} {res : Int32} (C : mq_C p s m args c A D cI cL cB cZ cX5_signAt 4 RX5 zc_X5_signAt) (hret : ∀ (H : Heap) (locs : List Loc) (ls : Array Slot) (pc : Nat), decode cX5_signAt pc = .ok (.ireturn, 1) → va_P D vwCl (wd_C a cI cL cB cZ z S) H → va_D A (wd_C a cI cL cB cZ z S) → va_S A s.heap H locs → W p l e zr_X5_signAt s m args below meth c H locs 0 0 Q (F0 m pc ls [.int res])) (v1 : Int32) (H : Heap) (locs : List Loc) (ls : Array Slot) (h : zf_X5_signAt N z v1 S = some res) (hl : lv_has ls 4 [(0, .ref (a 20)), (1, .int (v1))]) (hP : va_P D vwCl (wd_C a cI cL cB cZ z S) H) (hD : va_D A (wd_C a cI cL cB cZ z S)) (hS : va_S A s.heap H locs) : W p l e zr_X5_signAt s m args below meth c H locs 0 0 Q (F0 m 0 ls []) := by
  obtain ⟨hx, hb, hml, hown, hts, hK, hA⟩ := id C
  unfold zf_X5_signAt at h
  refine lv_aload_n hx hb dX5_signAt_0 rfl (lv_at hl 0 rfl) ?_
  refine va_get (D := D) (ci := 5) (v := .ref (a 3)) (C := RX5) (T := TX5) (N := 12) hx hb hts (zi_X5 _) hown hK hP 20 rfl rfl 0 (by decide) (hts _ (List.mem_cons_of_mem _ zt_f_X5_22)) (fun _ h9 => h9) rfl dX5_signAt_1 ?_
  refine lv_iload_n hx hb dX5_signAt_4 rfl (lv_at hl 1 rfl) ?_
  obtain ⟨q1, hc2, h⟩ := mq_cp_go h
  refine zv_X0_at (a := mq_ad a [3, 4]) (z := z) [3, 4] C zt_m_X5_94 ⟨by decide, by decide⟩ hc2 rfl (by decide) hP hD hS hl.1 (Nat.le_of_ble_eq_true rfl) dX5_signAt_5 (fun H locs hP hD hS => ?_)
  refine lv_topi (fun x3 ex3 => ?_)
  replace h := mq_nI_go ex3 h
  refine lv_istore_n (lv' := [(2, .int (x3)), (0, .ref (a 20)), (1, .int (v1))]) hx hb dX5_signAt_8 rfl hl (by decide) rfl (fun ls hl => ?_)
  refine lv_iload_n hx hb dX5_signAt_9 rfl (lv_at hl 2 rfl) ?_
  refine lv_iconst (v := (1 : Int32)) hx hb dX5_signAt_10 (by decide) ?_
  refine lv_iadd hx hb dX5_signAt_11 ?_
  refine lv_sipush (v := (400 : Int32)) hx hb dX5_signAt_12 (by decide) ?_
  refine lv_icmp_ge (tgt := 31) hx hb dX5_signAt_15 (by decide) (fun c6 => ?_) (fun c6 => ?_)
  · replace h := mq_it c6 h
    refine lv_iconst (v := (-1 : Int32)) hx hb dX5_signAt_31 (by decide) ?_
    exact zw_X5_signAt_32 C hret (x3) ((-1 : Int32)) H locs ls h (lv_sub hl [0] rfl) hP hD hS
  · replace h := mq_if c6 h
    refine lv_aload_n hx hb dX5_signAt_18 rfl (lv_at hl 1 rfl) ?_
    refine va_get (D := D) (ci := 5) (v := .ref (a 3)) (C := RX5) (T := TX5) (N := 12) hx hb hts (zi_X5 _) hown hK hP 20 rfl rfl 0 (by decide) (hts _ (List.mem_cons_of_mem _ zt_f_X5_22)) (fun _ h9 => h9) rfl dX5_signAt_19 ?_
    refine lv_iload_n hx hb dX5_signAt_22 rfl (lv_at hl 2 rfl) ?_
    refine lv_iconst (v := (1 : Int32)) hx hb dX5_signAt_23 (by decide) ?_
    refine lv_iadd hx hb dX5_signAt_24 ?_
    obtain ⟨q4, hc5, h⟩ := mq_cp_go h
    refine zv_X0_at (a := mq_ad a [3, 4]) (z := z) [3, 4] C zt_m_X5_94 ⟨by decide, by decide⟩ hc5 rfl (by decide) hP hD hS hl.1 (Nat.le_of_ble_eq_true rfl) dX5_signAt_25 (fun H locs hP hD hS => ?_)
    refine lv_goto (tgt := 32) hx hb dX5_signAt_28 (by decide) ?_
    exact zw_X5_signAt_32 C hret (x3) (q4) H locs ls h (lv_sub hl [0] rfl) hP hD hS
set_option maxHeartbeats 4000000 in
set_option maxRecDepth 100000 in
theorem zm_X5_signAt (l : Launch) (D : va_G) (a z : Nat → Nat) (cI cL cB cZ : ClassId) (sz N : Nat) (v1 : Int32) (S : mq_St) (res : Int32) (h : zf_X5_signAt N z v1 S = some res) : Met l yX5_signAt (zc_X5_signAt :: mq_T) zr_X5_signAt (va_Pc [.ref (a 20), .int (v1)] (fun U => U.heap.size = sz ∧ va_P D vwCl (wd_C a cI cL cB cZ z S) U.heap ∧ va_K D vwCl (mq_tys cI cL cB cZ) U ∧ va_D (fun _ => True) (wd_C a cI cL cB cZ z S))) (va_Qi (fun (r : Int32) (u : mq_St) => r = res ∧ u = S) (fun u t => va_P D vwCl (wd_C a cI cL cB cZ z u) t.heap ∧ va_K D vwCl (mq_tys cI cL cB cZ) t ∧ va_D (va_A (wd_C a cI cL cB cZ z S) sz) (wd_C a cI cL cB cZ z u)) (va_A (wd_C a cI cL cB cZ z S) sz)) 0 0 (va_A (wd_C a cI cL cB cZ z S) sz) := by
  refine Met.ofW (cc := cX5_signAt) (maxL := 4) (ret := (some .int)) (by decide) rfl ?_
  intro p e s m args below meth c s₁ B hml hv
  obtain ⟨rfl, hsz, hP, hK, hD0⟩ := hv
  have hr := B.returns
  have hlocks := B.notSynchronized
  have hts := atoms_spec (ws := zc_X5_signAt :: mq_T) B.pre
  have hown : s.vm.findClass RX5 = some m.cls := findClass_of_methodNamed B.named
  subst hsz
  have hD := hD0.self (sz := s.heap.size)
  generalize hAe : va_A (wd_C a cI cL cB cZ z S) s.heap.size = A at hD ⊢
  have hA : ∀ q : Nat, s.heap.size ≤ q → A q := fun q h => by rw [← hAe]; exact Or.inr h
  have hl := lv_entry ([.ref (a 20), .int (v1)]) (n := 4) (Nat.le_of_ble_eq_true rfl)
  rw [lg_entry_eq]
  generalize (lg_sl ([.ref (a 20), .int (v1)]) ++ List.replicate (4 - (lg_sl ([.ref (a 20), .int (v1)])).length) Slot.unset).toArray = ls at hl ⊢
  have hl : lv_has ls 4 [(0, .ref (a 20)), (1, .int (v1))] := hl
  refine zw_X5_signAt_0 (A := A) ⟨B.exec, B.bytes, hml, hown, hts, hK, hA⟩ (fun H locs ls pc dg hP hD hS => ?_) v1 s.heap [] ls h hl hP hD va_S.rf
  exact W.iret B.exec B.bytes hr (fun t ht hW => ⟨⟨_, _, rfl, ⟨rfl, rfl⟩, by rw [ht]; exact hP, va_K.moved hW.alike hK, hD⟩, hS.F ht⟩) hS.2.2 dg
theorem zt_X5_signAt_c : zc_X5_signAt ∈ mq_T := mq_T_mem (mq_t2 (List.mem_of_getElem? (i := 223) rfl)) rfl
theorem zt_X5_signAt_i : Cond.instanceMethod yX5_signAt ∈ mq_T := mq_T_mem (mq_t2 (List.mem_of_getElem? (i := 222) rfl)) rfl
theorem zt_X5_signAt_s : Cond.selects RX5 yX5_signAt yX5_signAt ∈ mq_T := mq_T_at 4 (by decide +kernel)
set_option maxHeartbeats 4000000 in
theorem zk_X5_signAt {p : Program} {l : Launch} {e : Env} {R : Room} {s : State} {m : MethodId} {args : Array Value} {below : List Frame} {meth : Method} {c : Code} {A : Nat → Prop} {D : va_G} {a z : Nat → Nat} {cI cL cB cZ : ClassId} {Q : State → Prop} {cc : ByteArray} {nL idx pc N : Nat} {own : String} {c1 : Cond} {H : Heap} {locs : List Loc} {ls : Array Slot} {rest : List Value} {S : mq_St} {res : Int32} {v1 : Int32} (C : mq_C p s m args c A D cI cL cB cZ cc nL own c1) (hlk : Cond.methodLink own idx yX5_signAt ∈ mq_T) (hR : zr_X5_signAt.frames + 1 ≤ R.frames ∧ 8 + (4 + 11) + zr_X5_signAt.locals ≤ R.locals) (h : zf_X5_signAt N z v1 S = some res) (hP : va_P D vwCl (wd_C a cI cL cB cZ z S) H) (hD : va_D A (wd_C a cI cL cB cZ z S)) (hS : va_S A s.heap H locs) (hls : ls.size = nL) (hrest : (rest.map fun v => v.category).sum ≤ 8) (hdg : decode cc pc = .ok (.invokevirtual idx, 3)) (kk : ∀ (H1 : Heap) (locs1 : List Loc), va_P D vwCl (wd_C a cI cL cB cZ z S) H1 → va_D A (wd_C a cI cL cB cZ z S) → va_S A s.heap H1 locs1 → W p l e R s m args below meth c H1 locs1 0 0 Q (F0 m (pc + 3) ls (.int res :: rest))) : W p l e R s m args below meth c H locs 0 0 Q (F0 m pc ls (.int (v1) :: .ref (a 20) :: rest)) := by
  obtain ⟨hx, hb, hml, hown, hts, hK, hA⟩ := C
  have hFc := mq_freeI hD hS hA
  refine va_calli (va_runV (As := [.int (v1)]) (rest := rest) ⟨hx, hb, hml, hown, hts⟩ (zm_X5_signAt l D a z cI cL cB cZ H.size N v1 S res h) (cwV 1 hts (mq_goodL (mq_wsV hlk zt_X5_signAt_i zt_X5_signAt_s zt_ini_X5 zt_X5_signAt_c)) rfl rfl rfl (by decide +kernel) hR) ⟨fun a U g mk q => ⟨q.1, q.2.1, q.2.2.1, va_K.moved (u := U) (U := U.calling g mk a) (Vm.Alike.refl U.vm) q.2.2.2.1, q.2.2.2.2⟩, zy_C_20 hK hP, fun U hU hW => ⟨rfl, by rw [hU], by rw [hU]; exact hP, va_K.moved hW.alike hK, hD.weaken (fun _ _ _ _ => trivial)⟩⟩ rfl rfl hls rfl (lv_room hrest) hdg ⟨Nat.zero_le _, Nat.zero_le _⟩) hS (fun q _ h => hFc q h) hFc (fun r u t H1 locs ht hvm hw hB hz1 hk1 hS => ?_)
  obtain ⟨rfl, rfl⟩ := hw
  obtain ⟨hP1, hK1, hD1⟩ := hB
  rw [ht] at hP1
  exact kk H1 locs hP1 (hD1.weaken (fun _ _ _ h => hFc _ h)) hS
theorem zt_m_X5_37 : Cond.methodLink RX5 37 yX0_size ∈ mq_T := mq_T_mem (mq_t2 (List.mem_of_getElem? (i := 216) rfl)) rfl
/-! ModalDesk$Reader.finish()V -/
def zr_X5_finish : Room := { frames := 4, cells := 0, slots := 0, locals := 96 }
def zc_X5_finish : Cond := .code yX5_finish cX5_finish 1 none
def zf_X5_finish_38 (N : Nat) (z : Nat → Nat) (S : mq_St) : Option (Unit × mq_St) := (mq_cp (zf_X0_size N z (mq_pull S [0] [2] [])) (fun q12 => (mq_cl (zf_X5_fail N z ((1 : Int32)) (q12) S) (fun q14v S16 => (some ((), S16))))))
def zf_X5_finish (N : Nat) (z : Nat → Nat) (S : mq_St) : Option (Unit × mq_St) := (mq_cp (zf_X0_size N z (mq_pull S [0] [2] [])) (fun q1 => (if q1 ≤ (400 : Int32) then (if (S.1 9) = (0 : Int32) then (if (S.1 8) ≤ (0 : Int32) then (mq_cl (zf_X5_joinDownTo N z ((1 : Int32)) S) (fun q3v S5 => (some ((), S5)))) else (zf_X5_finish_38 N z S)) else (zf_X5_finish_38 N z S)) else (mq_cl (zf_X5_fail N z ((1 : Int32)) ((400 : Int32)) S) (fun q8v S10 => (some ((), S10)))))))
set_option maxHeartbeats 4000000 in
set_option maxRecDepth 100000 in
theorem zw_X5_finish_38 {p : Program} {l : Launch} {e : Env} {s : State} {m : MethodId} {args : Array Value} {below : List Frame} {meth : Method} {c : Code} {A : Nat → Prop} {D : va_G} {a z : Nat → Nat} {cI cL cB cZ : ClassId} {Q : State → Prop} {N : Nat} {res : Unit × mq_St} (C : mq_C p s m args c A D cI cL cB cZ cX5_finish 1 RX5 zc_X5_finish) (hret : ∀ (H : Heap) (locs : List Loc) (ls : Array Slot) (pc : Nat), decode cX5_finish pc = .ok (.return_, 1) → va_P D vwCl (wd_C a cI cL cB cZ z res.2) H → va_D A (wd_C a cI cL cB cZ z res.2) → va_S A s.heap H locs → W p l e zr_X5_finish s m args below meth c H locs 0 0 Q (F0 m pc ls [])) (S : mq_St) (H : Heap) (locs : List Loc) (ls : Array Slot) (h : zf_X5_finish_38 N z S = some res) (hl : lv_has ls 1 [(0, .ref (a 20))]) (hP : va_P D vwCl (wd_C a cI cL cB cZ z S) H) (hD : va_D A (wd_C a cI cL cB cZ z S)) (hS : va_S A s.heap H locs) : W p l e zr_X5_finish s m args below meth c H locs 0 0 Q (F0 m 38 ls []) := by
  obtain ⟨hx, hb, hml, hown, hts, hK, hA⟩ := id C
  unfold zf_X5_finish_38 at h
  refine lv_aload_n hx hb dX5_finish_38 rfl (lv_at hl 0 rfl) ?_
  refine lv_iconst (v := (1 : Int32)) hx hb dX5_finish_39 (by decide) ?_
  refine lv_aload_n hx hb dX5_finish_40 rfl (lv_at hl 0 rfl) ?_
  refine va_get (D := D) (ci := 5) (v := .ref (a 3)) (C := RX5) (T := TX5) (N := 12) hx hb hts (zi_X5 _) hown hK hP 20 rfl rfl 0 (by decide) (hts _ (List.mem_cons_of_mem _ zt_f_X5_22)) (fun _ h9 => h9) rfl dX5_finish_41 ?_
  obtain ⟨q12, hc13, h⟩ := mq_cp_go h
  refine zv_X0_size (a := mq_ad a [3, 4]) (z := z) [3, 4] C zt_m_X5_37 ⟨by decide, by decide⟩ hc13 rfl (by decide) hP hD hS hl.1 (Nat.le_of_ble_eq_true rfl) dX5_finish_44 (fun H locs hP hD hS => ?_)
  obtain ⟨q14, hc15, h⟩ := mq_cl_go h
  refine zk_X5_fail C zt_m_X5_87 ⟨by decide, by decide⟩ hc15 hP hD hS hl.1 (Nat.le_of_ble_eq_true rfl) dX5_finish_47 (fun H locs hP hD hS => ?_)
  obtain ⟨S16, eS16⟩ : ∃ y, y = q14.2 := ⟨_, rfl⟩
  rw [← eS16] at hP hD h
  refine lv_goto (tgt := 58) hx hb dX5_finish_50 (by decide) ?_
  cases h
  exact hret H locs ls 58 dX5_finish_58 hP hD hS
set_option maxHeartbeats 4000000 in
set_option maxRecDepth 100000 in
theorem zw_X5_finish_0 {p : Program} {l : Launch} {e : Env} {s : State} {m : MethodId} {args : Array Value} {below : List Frame} {meth : Method} {c : Code} {A : Nat → Prop} {D : va_G} {a z : Nat → Nat} {cI cL cB cZ : ClassId} {Q : State → Prop} {N : Nat} {res : Unit × mq_St} (C : mq_C p s m args c A D cI cL cB cZ cX5_finish 1 RX5 zc_X5_finish) (hret : ∀ (H : Heap) (locs : List Loc) (ls : Array Slot) (pc : Nat), decode cX5_finish pc = .ok (.return_, 1) → va_P D vwCl (wd_C a cI cL cB cZ z res.2) H → va_D A (wd_C a cI cL cB cZ z res.2) → va_S A s.heap H locs → W p l e zr_X5_finish s m args below meth c H locs 0 0 Q (F0 m pc ls [])) (S : mq_St) (H : Heap) (locs : List Loc) (ls : Array Slot) (h : zf_X5_finish N z S = some res) (hl : lv_has ls 1 [(0, .ref (a 20))]) (hP : va_P D vwCl (wd_C a cI cL cB cZ z S) H) (hD : va_D A (wd_C a cI cL cB cZ z S)) (hS : va_S A s.heap H locs) : W p l e zr_X5_finish s m args below meth c H locs 0 0 Q (F0 m 0 ls []) := by
  obtain ⟨hx, hb, hml, hown, hts, hK, hA⟩ := id C
  unfold zf_X5_finish at h
  refine lv_aload_n hx hb dX5_finish_0 rfl (lv_at hl 0 rfl) ?_
  refine va_get (D := D) (ci := 5) (v := .ref (a 3)) (C := RX5) (T := TX5) (N := 12) hx hb hts (zi_X5 _) hown hK hP 20 rfl rfl 0 (by decide) (hts _ (List.mem_cons_of_mem _ zt_f_X5_22)) (fun _ h9 => h9) rfl dX5_finish_1 ?_
  obtain ⟨q1, hc2, h⟩ := mq_cp_go h
  refine zv_X0_size (a := mq_ad a [3, 4]) (z := z) [3, 4] C zt_m_X5_37 ⟨by decide, by decide⟩ hc2 rfl (by decide) hP hD hS hl.1 (Nat.le_of_ble_eq_true rfl) dX5_finish_4 (fun H locs hP hD hS => ?_)
  refine lv_sipush (v := (400 : Int32)) hx hb dX5_finish_7 (by decide) ?_
  refine lv_icmp_le (tgt := 24) hx hb dX5_finish_10 (by decide) (fun c11 => ?_) (fun c11 => ?_)
  · replace h := mq_it c11 h
    refine lv_aload_n hx hb dX5_finish_24 rfl (lv_at hl 0 rfl) ?_
    refine va_get (D := D) (ci := 5) (v := .int ((S.1 9))) (C := RX5) (T := TX5) (N := 12) hx hb hts (zi_X5 _) hown hK hP 20 rfl rfl 8 (by decide) (hts _ (List.mem_cons_of_mem _ zt_f_X5_80)) (fun _ h9 => h9) rfl dX5_finish_25 ?_
    refine lv_if_ne (tgt := 38) hx hb dX5_finish_28 (by decide) (fun c7 => ?_) (fun c7 => ?_)
    · replace h := mq_if c7 h
      exact zw_X5_finish_38 C hret S H locs ls h (lv_sub hl [0] rfl) hP hD hS
    · replace h := mq_it (by simpa using c7) h
      refine lv_aload_n hx hb dX5_finish_31 rfl (lv_at hl 0 rfl) ?_
      refine va_get (D := D) (ci := 5) (v := .int ((S.1 8))) (C := RX5) (T := TX5) (N := 12) hx hb hts (zi_X5 _) hown hK hP 20 rfl rfl 7 (by decide) (hts _ (List.mem_cons_of_mem _ zt_f_X5_77)) (fun _ h9 => h9) rfl dX5_finish_32 ?_
      refine lv_if_le (tgt := 53) hx hb dX5_finish_35 (by decide) (fun c6 => ?_) (fun c6 => ?_)
      · replace h := mq_it c6 h
        refine lv_aload_n hx hb dX5_finish_53 rfl (lv_at hl 0 rfl) ?_
        refine lv_iconst (v := (1 : Int32)) hx hb dX5_finish_54 (by decide) ?_
        obtain ⟨q3, hc4, h⟩ := mq_cl_go h
        refine zk_X5_joinDownTo C zt_m_X5_90 ⟨by decide, by decide⟩ hc4 hP hD hS hl.1 (Nat.le_of_ble_eq_true rfl) dX5_finish_55 (fun H locs hP hD hS => ?_)
        obtain ⟨S5, eS5⟩ : ∃ y, y = q3.2 := ⟨_, rfl⟩
        rw [← eS5] at hP hD h
        cases h
        exact hret H locs ls 58 dX5_finish_58 hP hD hS
      · replace h := mq_if c6 h
        exact zw_X5_finish_38 C hret S H locs ls h (lv_sub hl [0] rfl) hP hD hS
  · replace h := mq_if c11 h
    refine lv_aload_n hx hb dX5_finish_13 rfl (lv_at hl 0 rfl) ?_
    refine lv_iconst (v := (1 : Int32)) hx hb dX5_finish_14 (by decide) ?_
    refine lv_sipush (v := (400 : Int32)) hx hb dX5_finish_15 (by decide) ?_
    obtain ⟨q8, hc9, h⟩ := mq_cl_go h
    refine zk_X5_fail C zt_m_X5_87 ⟨by decide, by decide⟩ hc9 hP hD hS hl.1 (Nat.le_of_ble_eq_true rfl) dX5_finish_18 (fun H locs hP hD hS => ?_)
    obtain ⟨S10, eS10⟩ : ∃ y, y = q8.2 := ⟨_, rfl⟩
    rw [← eS10] at hP hD h
    refine lv_goto (tgt := 58) hx hb dX5_finish_21 (by decide) ?_
    cases h
    exact hret H locs ls 58 dX5_finish_58 hP hD hS
set_option maxHeartbeats 4000000 in
set_option maxRecDepth 100000 in
theorem zm_X5_finish (l : Launch) (D : va_G) (a z : Nat → Nat) (cI cL cB cZ : ClassId) (sz N : Nat) (S : mq_St) (res : Unit × mq_St) (h : zf_X5_finish N z S = some res) : Met l yX5_finish (zc_X5_finish :: mq_T) zr_X5_finish (va_Pc [.ref (a 20)] (fun U => U.heap.size = sz ∧ va_P D vwCl (wd_C a cI cL cB cZ z S) U.heap ∧ va_K D vwCl (mq_tys cI cL cB cZ) U ∧ va_D (fun _ => True) (wd_C a cI cL cB cZ z S))) (va_Qv (fun u : mq_St => u = res.2) (fun u t => va_P D vwCl (wd_C a cI cL cB cZ z u) t.heap ∧ va_K D vwCl (mq_tys cI cL cB cZ) t ∧ va_D (va_A (wd_C a cI cL cB cZ z S) sz) (wd_C a cI cL cB cZ z u)) (va_A (wd_C a cI cL cB cZ z S) sz)) 0 0 (va_A (wd_C a cI cL cB cZ z S) sz) := by
  refine Met.ofW (cc := cX5_finish) (maxL := 1) (ret := none) (by decide) rfl ?_
  intro p e s m args below meth c s₁ B hml hv
  obtain ⟨rfl, hsz, hP, hK, hD0⟩ := hv
  have hr := B.returns
  have hlocks := B.notSynchronized
  have hts := atoms_spec (ws := zc_X5_finish :: mq_T) B.pre
  have hown : s.vm.findClass RX5 = some m.cls := findClass_of_methodNamed B.named
  subst hsz
  have hD := hD0.self (sz := s.heap.size)
  generalize hAe : va_A (wd_C a cI cL cB cZ z S) s.heap.size = A at hD ⊢
  have hA : ∀ q : Nat, s.heap.size ≤ q → A q := fun q h => by rw [← hAe]; exact Or.inr h
  have hl := lv_entry ([.ref (a 20)]) (n := 1) (Nat.le_of_ble_eq_true rfl)
  rw [lg_entry_eq]
  generalize (lg_sl ([.ref (a 20)]) ++ List.replicate (1 - (lg_sl ([.ref (a 20)])).length) Slot.unset).toArray = ls at hl ⊢
  have hl : lv_has ls 1 [(0, .ref (a 20))] := hl
  refine zw_X5_finish_0 (A := A) ⟨B.exec, B.bytes, hml, hown, hts, hK, hA⟩ (fun H locs ls pc dg hP hD hS => ?_) S s.heap [] ls h hl hP hD va_S.rf
  exact W.vret B.exec B.bytes hr (fun t ht hW => ⟨⟨_, rfl, rfl, by rw [ht]; exact hP, va_K.moved hW.alike hK, hD⟩, hS.F ht⟩) hS.2.2 dg
theorem zt_X5_finish_c : zc_X5_finish ∈ mq_T := mq_T_mem (mq_t3 (List.mem_of_getElem? (i := 77) rfl)) rfl
theorem zt_X5_finish_i : Cond.instanceMethod yX5_finish ∈ mq_T := mq_T_mem (mq_t3 (List.mem_of_getElem? (i := 76) rfl)) rfl
theorem zt_X5_finish_s : Cond.selects RX5 yX5_finish yX5_finish ∈ mq_T := mq_T_at 18 (by decide +kernel)
set_option maxHeartbeats 4000000 in
theorem zk_X5_finish {p : Program} {l : Launch} {e : Env} {R : Room} {s : State} {m : MethodId} {args : Array Value} {below : List Frame} {meth : Method} {c : Code} {A : Nat → Prop} {D : va_G} {a z : Nat → Nat} {cI cL cB cZ : ClassId} {Q : State → Prop} {cc : ByteArray} {nL idx pc N : Nat} {own : String} {c1 : Cond} {H : Heap} {locs : List Loc} {ls : Array Slot} {rest : List Value} {S : mq_St} {res : Unit × mq_St} (C : mq_C p s m args c A D cI cL cB cZ cc nL own c1) (hlk : Cond.methodLink own idx yX5_finish ∈ mq_T) (hR : zr_X5_finish.frames + 1 ≤ R.frames ∧ 8 + (1 + 11) + zr_X5_finish.locals ≤ R.locals) (h : zf_X5_finish N z S = some res) (hP : va_P D vwCl (wd_C a cI cL cB cZ z S) H) (hD : va_D A (wd_C a cI cL cB cZ z S)) (hS : va_S A s.heap H locs) (hls : ls.size = nL) (hrest : (rest.map fun v => v.category).sum ≤ 8) (hdg : decode cc pc = .ok (.invokevirtual idx, 3)) (kk : ∀ (H1 : Heap) (locs1 : List Loc), va_P D vwCl (wd_C a cI cL cB cZ z res.2) H1 → va_D A (wd_C a cI cL cB cZ z res.2) → va_S A s.heap H1 locs1 → W p l e R s m args below meth c H1 locs1 0 0 Q (F0 m (pc + 3) ls rest)) : W p l e R s m args below meth c H locs 0 0 Q (F0 m pc ls (.ref (a 20) :: rest)) := by
  obtain ⟨hx, hb, hml, hown, hts, hK, hA⟩ := C
  have hFc := mq_freeI hD hS hA
  refine va_callv (va_runV (As := []) (rest := rest) ⟨hx, hb, hml, hown, hts⟩ (zm_X5_finish l D a z cI cL cB cZ H.size N S res h) (cwV 0 hts (mq_goodL (mq_wsV hlk zt_X5_finish_i zt_X5_finish_s zt_ini_X5 zt_X5_finish_c)) rfl rfl rfl (by decide +kernel) hR) ⟨fun a U g mk q => ⟨q.1, q.2.1, q.2.2.1, va_K.moved (u := U) (U := U.calling g mk a) (Vm.Alike.refl U.vm) q.2.2.2.1, q.2.2.2.2⟩, zy_C_20 hK hP, fun U hU hW => ⟨rfl, by rw [hU], by rw [hU]; exact hP, va_K.moved hW.alike hK, hD.weaken (fun _ _ _ _ => trivial)⟩⟩ rfl rfl hls rfl (lv_room hrest) hdg ⟨Nat.zero_le _, Nat.zero_le _⟩) hS (fun q _ h => hFc q h) hFc (fun u t H1 locs ht hvm hw hB hz1 hk1 hS => ?_)
  subst hw
  obtain ⟨hP1, hK1, hD1⟩ := hB
  rw [ht] at hP1
  exact kk H1 locs hP1 (hD1.weaken (fun _ _ _ h => hFc _ h)) hS
theorem zt_m_X5_33 : Cond.methodLink RX5 33 yX5_begin ∈ mq_T := mq_T_mem (mq_t2 (List.mem_of_getElem? (i := 200) rfl)) rfl
theorem zt_m_X5_43 : Cond.methodLink RX5 43 Lib.Math.min.name ∈ mq_T := mq_T_mem (mq_t2 (List.mem_of_getElem? (i := 217) rfl)) rfl
theorem zt_math_min_s : Cond.static Lib.Math.min.name ∈ mq_T := mq_T_mem (mq_t2 (List.mem_of_getElem? (i := 218) rfl)) rfl
theorem zt_math_min_c : Cond.code Lib.Math.min.name Lib.Math.min.code 2 (some .int) ∈ mq_T := mq_T_mem (mq_t2 (List.mem_of_getElem? (i := 219) rfl)) rfl
theorem zt_m_X5_49 : Cond.methodLink RX5 49 yX5_signAt ∈ mq_T := mq_T_mem (mq_t2 (List.mem_of_getElem? (i := 220) rfl)) rfl
theorem zt_m_X5_53 : Cond.methodLink RX5 53 yX5_accept ∈ mq_T := mq_T_mem (mq_t2 (List.mem_of_getElem? (i := 225) rfl)) rfl
theorem zt_m_X5_57 : Cond.methodLink RX5 57 yX5_finish ∈ mq_T := mq_T_mem (mq_t3 (List.mem_of_getElem? (i := 74) rfl)) rfl
/-! ModalDesk$Reader.draw(Z)I -/
def zr_X5_draw : Room := { frames := 5, cells := 0, slots := 0, locals := 118 }
def zc_X5_draw : Cond := .code yX5_draw cX5_draw 5 (some .int)
def zf_X5_draw_71 (N : Nat) (z : Nat → Nat) (k21 : Int32 → Int32 → mq_St → Option (Int32 × mq_St)) (v2 : Int32) (v3 : Int32) (S : mq_St) : Option (Int32 × mq_St) := (mq_nI (v3 + (1 : Int32)) (fun x19 => (k21 (v2) (x19) S)))
def zf_X5_draw_68 (N : Nat) (z : Nat → Nat) (k21 : Int32 → Int32 → mq_St → Option (Int32 × mq_St)) (v2 : Int32) (v3 : Int32) (S : mq_St) : Option (Int32 × mq_St) := (mq_nI (v3 + (1 : Int32)) (fun x20 => (zf_X5_draw_71 N z k21 (v2) (x20) S)))
def zf_X5_draw_54 (N : Nat) (z : Nat → Nat) (k21 : Int32 → Int32 → mq_St → Option (Int32 × mq_St)) (v2 : Int32) (v3 : Int32) (v4 : Int32) (S : mq_St) : Option (Int32 × mq_St) := (if v4 = (91 : Int32) then (zf_X5_draw_68 N z k21 (v2) (v3) S) else (if v4 = (60 : Int32) then (zf_X5_draw_68 N z k21 (v2) (v3) S) else (zf_X5_draw_71 N z k21 (v2) (v3) S)))
def zf_X5_draw_88 (N : Nat) (z : Nat → Nat) (S : mq_St) : Option (Int32 × mq_St) := (if (S.1 11) = (0 : Int32) then (mq_cl (zf_X5_popMark N z S) (fun q25v S27 => (some (q25v, S27)))) else (some ((-1 : Int32), S)))
def zf_X5_draw_77 (N : Nat) (z : Nat → Nat) (S : mq_St) : Option (Int32 × mq_St) := (if (S.1 11) = (0 : Int32) then (mq_cl (zf_X5_finish N z S) (fun q21v S23 => (zf_X5_draw_88 N z S23))) else (zf_X5_draw_88 N z S))
def zf_X5_draw_21b (N : Nat) (z : Nat → Nat) (k21 : Int32 → Int32 → mq_St → Option (Int32 × mq_St)) (v2 : Int32) (v3 : Int32) (S : mq_St) : Option (Int32 × mq_St) := (if v2 ≤ v3 then (zf_X5_draw_77 N z S) else (if (S.1 11) = (0 : Int32) then (mq_cp (zf_X5_signAt N z (v3) S) (fun q8 => (mq_nI (q8) (fun x10 => (if x10 = (32 : Int32) then (zf_X5_draw_54 N z k21 (v2) (v3) (x10) S) else (mq_cl (zf_X5_accept N z (x10) (v3) S) (fun q11v S13 => (zf_X5_draw_54 N z k21 (v2) (v3) (x10) S13)))))))) else (zf_X5_draw_77 N z S)))
def zf_X5_draw_21 (N : Nat) (z : Nat → Nat) : Nat → Int32 → Int32 → mq_St → Option (Int32 × mq_St)
  | 0, _, _, _ => none
  | n + 1, v2, v3, S => zf_X5_draw_21b N z (fun v2 v3 S => zf_X5_draw_21 N z n v2 v3 S) v2 v3 S
def zf_X5_draw (N : Nat) (z : Nat → Nat) (v1 : Int32) (S : mq_St) : Option (Int32 × mq_St) := (mq_cl (zf_X5_begin N z (v1) S) (fun q1v S3 => (mq_cp (zf_X0_size N z (mq_pull S3 [0] [2] [])) (fun q4 => (mq_nI ((mq_min q4 (400 : Int32))) (fun x6 => (mq_nI ((0 : Int32)) (fun x7 => (zf_X5_draw_21 N z N (x6) (x7) S3)))))))))
set_option maxHeartbeats 4000000 in
set_option maxRecDepth 100000 in
theorem zw_X5_draw_71 {p : Program} {l : Launch} {e : Env} {s : State} {m : MethodId} {args : Array Value} {below : List Frame} {meth : Method} {c : Code} {A : Nat → Prop} {D : va_G} {a z : Nat → Nat} {cI cL cB cZ : ClassId} {Q : State → Prop} {N : Nat} {res : Int32 × mq_St} {k21 : Int32 → Int32 → mq_St → Option (Int32 × mq_St)} (C : mq_C p s m args c A D cI cL cB cZ cX5_draw 5 RX5 zc_X5_draw) (hret : ∀ (H : Heap) (locs : List Loc) (ls : Array Slot) (pc : Nat), decode cX5_draw pc = .ok (.ireturn, 1) → va_P D vwCl (wd_C a cI cL cB cZ z res.2) H → va_D A (wd_C a cI cL cB cZ z res.2) → va_S A s.heap H locs → W p l e zr_X5_draw s m args below meth c H locs 0 0 Q (F0 m pc ls [.int res.1])) (hk21 : ∀ (v2 : Int32) (v3 : Int32) (S : mq_St) (H : Heap) (locs : List Loc) (ls : Array Slot), k21 v2 v3 S = some res → lv_has ls 5 [(0, .ref (a 20)), (2, .int (v2)), (3, .int (v3))] → va_P D vwCl (wd_C a cI cL cB cZ z S) H → va_D A (wd_C a cI cL cB cZ z S) → va_S A s.heap H locs → W p l e zr_X5_draw s m args below meth c H locs 0 0 Q (F0 m 21 ls [])) (v2 : Int32) (v3 : Int32) (S : mq_St) (H : Heap) (locs : List Loc) (ls : Array Slot) (h : zf_X5_draw_71 N z k21 v2 v3 S = some res) (hl : lv_has ls 5 [(0, .ref (a 20)), (2, .int (v2)), (3, .int (v3))]) (hP : va_P D vwCl (wd_C a cI cL cB cZ z S) H) (hD : va_D A (wd_C a cI cL cB cZ z S)) (hS : va_S A s.heap H locs) : W p l e zr_X5_draw s m args below meth c H locs 0 0 Q (F0 m 71 ls []) := by
  obtain ⟨hx, hb, hml, hown, hts, hK, hA⟩ := id C
  unfold zf_X5_draw_71 at h
  obtain ⟨x19, ex19⟩ : ∃ y : Int32, y = v3 + (1 : Int32) := ⟨_, rfl⟩
  replace h := mq_nI_go ex19 h
  refine lv_iinc (v := x19) (lv' := [(3, .int (x19)), (0, .ref (a 20)), (2, .int (v2))]) hx hb dX5_draw_71 hl (k := 2) rfl (by rw [ex19]; rfl) (by decide) rfl (fun ls hl => ?_)
  refine lv_goto (tgt := 21) hx hb dX5_draw_74 (by decide) ?_
  exact hk21 (v2) (x19) S H locs ls h (lv_sub hl [1, 2, 0] rfl) hP hD hS
set_option maxHeartbeats 4000000 in
set_option maxRecDepth 100000 in
theorem zw_X5_draw_68 {p : Program} {l : Launch} {e : Env} {s : State} {m : MethodId} {args : Array Value} {below : List Frame} {meth : Method} {c : Code} {A : Nat → Prop} {D : va_G} {a z : Nat → Nat} {cI cL cB cZ : ClassId} {Q : State → Prop} {N : Nat} {res : Int32 × mq_St} {k21 : Int32 → Int32 → mq_St → Option (Int32 × mq_St)} (C : mq_C p s m args c A D cI cL cB cZ cX5_draw 5 RX5 zc_X5_draw) (hret : ∀ (H : Heap) (locs : List Loc) (ls : Array Slot) (pc : Nat), decode cX5_draw pc = .ok (.ireturn, 1) → va_P D vwCl (wd_C a cI cL cB cZ z res.2) H → va_D A (wd_C a cI cL cB cZ z res.2) → va_S A s.heap H locs → W p l e zr_X5_draw s m args below meth c H locs 0 0 Q (F0 m pc ls [.int res.1])) (hk21 : ∀ (v2 : Int32) (v3 : Int32) (S : mq_St) (H : Heap) (locs : List Loc) (ls : Array Slot), k21 v2 v3 S = some res → lv_has ls 5 [(0, .ref (a 20)), (2, .int (v2)), (3, .int (v3))] → va_P D vwCl (wd_C a cI cL cB cZ z S) H → va_D A (wd_C a cI cL cB cZ z S) → va_S A s.heap H locs → W p l e zr_X5_draw s m args below meth c H locs 0 0 Q (F0 m 21 ls [])) (v2 : Int32) (v3 : Int32) (S : mq_St) (H : Heap) (locs : List Loc) (ls : Array Slot) (h : zf_X5_draw_68 N z k21 v2 v3 S = some res) (hl : lv_has ls 5 [(0, .ref (a 20)), (2, .int (v2)), (3, .int (v3))]) (hP : va_P D vwCl (wd_C a cI cL cB cZ z S) H) (hD : va_D A (wd_C a cI cL cB cZ z S)) (hS : va_S A s.heap H locs) : W p l e zr_X5_draw s m args below meth c H locs 0 0 Q (F0 m 68 ls []) := by
  obtain ⟨hx, hb, hml, hown, hts, hK, hA⟩ := id C
  unfold zf_X5_draw_68 at h
  obtain ⟨x20, ex20⟩ : ∃ y : Int32, y = v3 + (1 : Int32) := ⟨_, rfl⟩
  replace h := mq_nI_go ex20 h
  refine lv_iinc (v := x20) (lv' := [(3, .int (x20)), (0, .ref (a 20)), (2, .int (v2))]) hx hb dX5_draw_68 hl (k := 2) rfl (by rw [ex20]; rfl) (by decide) rfl (fun ls hl => ?_)
  exact zw_X5_draw_71 C hret hk21 (v2) (x20) S H locs ls h (lv_sub hl [1, 2, 0] rfl) hP hD hS
set_option maxHeartbeats 4000000 in
set_option maxRecDepth 100000 in
theorem zw_X5_draw_54 {p : Program} {l : Launch} {e : Env} {s : State} {m : MethodId} {args : Array Value} {below : List Frame} {meth : Method} {c : Code} {A : Nat → Prop} {D : va_G} {a z : Nat → Nat} {cI cL cB cZ : ClassId} {Q : State → Prop} {N : Nat} {res : Int32 × mq_St} {k21 : Int32 → Int32 → mq_St → Option (Int32 × mq_St)} (C : mq_C p s m args c A D cI cL cB cZ cX5_draw 5 RX5 zc_X5_draw) (hret : ∀ (H : Heap) (locs : List Loc) (ls : Array Slot) (pc : Nat), decode cX5_draw pc = .ok (.ireturn, 1) → va_P D vwCl (wd_C a cI cL cB cZ z res.2) H → va_D A (wd_C a cI cL cB cZ z res.2) → va_S A s.heap H locs → W p l e zr_X5_draw s m args below meth c H locs 0 0 Q (F0 m pc ls [.int res.1])) (hk21 : ∀ (v2 : Int32) (v3 : Int32) (S : mq_St) (H : Heap) (locs : List Loc) (ls : Array Slot), k21 v2 v3 S = some res → lv_has ls 5 [(0, .ref (a 20)), (2, .int (v2)), (3, .int (v3))] → va_P D vwCl (wd_C a cI cL cB cZ z S) H → va_D A (wd_C a cI cL cB cZ z S) → va_S A s.heap H locs → W p l e zr_X5_draw s m args below meth c H locs 0 0 Q (F0 m 21 ls [])) (v2 : Int32) (v3 : Int32) (v4 : Int32) (S : mq_St) (H : Heap) (locs : List Loc) (ls : Array Slot) (h : zf_X5_draw_54 N z k21 v2 v3 v4 S = some res) (hl : lv_has ls 5 [(0, .ref (a 20)), (2, .int (v2)), (3, .int (v3)), (4, .int (v4))]) (hP : va_P D vwCl (wd_C a cI cL cB cZ z S) H) (hD : va_D A (wd_C a cI cL cB cZ z S)) (hS : va_S A s.heap H locs) : W p l e zr_X5_draw s m args below meth c H locs 0 0 Q (F0 m 54 ls []) := by
  obtain ⟨hx, hb, hml, hown, hts, hK, hA⟩ := id C
  unfold zf_X5_draw_54 at h
  refine lv_iload hx hb dX5_draw_54 (lv_at hl 3 rfl) ?_
  refine lv_bipush (v := (91 : Int32)) hx hb dX5_draw_56 (by decide) ?_
  refine lv_icmp_eq (tgt := 68) hx hb dX5_draw_58 (by decide) (fun c18 => ?_) (fun c18 => ?_)
  · replace h := mq_it c18 h
    exact zw_X5_draw_68 C hret hk21 (v2) (v3) S H locs ls h (lv_sub hl [0, 1, 2] rfl) hP hD hS
  · replace h := mq_if c18 h
    refine lv_iload hx hb dX5_draw_61 (lv_at hl 3 rfl) ?_
    refine lv_bipush (v := (60 : Int32)) hx hb dX5_draw_63 (by decide) ?_
    refine lv_icmp_ne (tgt := 71) hx hb dX5_draw_65 (by decide) (fun c17 => ?_) (fun c17 => ?_)
    · replace h := mq_if c17 h
      exact zw_X5_draw_71 C hret hk21 (v2) (v3) S H locs ls h (lv_sub hl [0, 1, 2] rfl) hP hD hS
    · replace h := mq_it (by simpa using c17) h
      exact zw_X5_draw_68 C hret hk21 (v2) (v3) S H locs ls h (lv_sub hl [0, 1, 2] rfl) hP hD hS
set_option maxHeartbeats 4000000 in
set_option maxRecDepth 100000 in
theorem zw_X5_draw_88 {p : Program} {l : Launch} {e : Env} {s : State} {m : MethodId} {args : Array Value} {below : List Frame} {meth : Method} {c : Code} {A : Nat → Prop} {D : va_G} {a z : Nat → Nat} {cI cL cB cZ : ClassId} {Q : State → Prop} {N : Nat} {res : Int32 × mq_St} (C : mq_C p s m args c A D cI cL cB cZ cX5_draw 5 RX5 zc_X5_draw) (hret : ∀ (H : Heap) (locs : List Loc) (ls : Array Slot) (pc : Nat), decode cX5_draw pc = .ok (.ireturn, 1) → va_P D vwCl (wd_C a cI cL cB cZ z res.2) H → va_D A (wd_C a cI cL cB cZ z res.2) → va_S A s.heap H locs → W p l e zr_X5_draw s m args below meth c H locs 0 0 Q (F0 m pc ls [.int res.1])) (S : mq_St) (H : Heap) (locs : List Loc) (ls : Array Slot) (h : zf_X5_draw_88 N z S = some res) (hl : lv_has ls 5 [(0, .ref (a 20))]) (hP : va_P D vwCl (wd_C a cI cL cB cZ z S) H) (hD : va_D A (wd_C a cI cL cB cZ z S)) (hS : va_S A s.heap H locs) : W p l e zr_X5_draw s m args below meth c H locs 0 0 Q (F0 m 88 ls []) := by
  obtain ⟨hx, hb, hml, hown, hts, hK, hA⟩ := id C
  unfold zf_X5_draw_88 at h
  refine lv_aload_n hx hb dX5_draw_88 rfl (lv_at hl 0 rfl) ?_
  refine va_get (D := D) (ci := 5) (v := .int ((S.1 11))) (C := RX5) (T := TX5) (N := 12) hx hb hts (zi_X5 _) hown hK hP 20 rfl rfl 10 (by decide) (hts _ (List.mem_cons_of_mem _ zt_f_X5_30)) (fun _ h9 => h9) rfl dX5_draw_89 ?_
  refine lv_if_ne (tgt := 102) hx hb dX5_draw_92 (by decide) (fun c28 => ?_) (fun c28 => ?_)
  · replace h := mq_if c28 h
    refine lv_iconst (v := (-1 : Int32)) hx hb dX5_draw_102 (by decide) ?_
    cases h
    exact hret H locs ls 103 dX5_draw_103 hP hD hS
  · replace h := mq_it (by simpa using c28) h
    refine lv_aload_n hx hb dX5_draw_95 rfl (lv_at hl 0 rfl) ?_
    obtain ⟨q25, hc26, h⟩ := mq_cl_go h
    refine zk_X5_popMark C zt_m_X5_60 ⟨by decide, by decide⟩ hc26 hP hD hS hl.1 (Nat.le_of_ble_eq_true rfl) dX5_draw_96 (fun H locs hP hD hS => ?_)
    obtain ⟨S27, eS27⟩ : ∃ y, y = q25.2 := ⟨_, rfl⟩
    rw [← eS27] at hP hD h
    refine lv_goto (tgt := 103) hx hb dX5_draw_99 (by decide) ?_
    cases h
    exact hret H locs ls 103 dX5_draw_103 hP hD hS
set_option maxHeartbeats 4000000 in
set_option maxRecDepth 100000 in
theorem zw_X5_draw_77 {p : Program} {l : Launch} {e : Env} {s : State} {m : MethodId} {args : Array Value} {below : List Frame} {meth : Method} {c : Code} {A : Nat → Prop} {D : va_G} {a z : Nat → Nat} {cI cL cB cZ : ClassId} {Q : State → Prop} {N : Nat} {res : Int32 × mq_St} (C : mq_C p s m args c A D cI cL cB cZ cX5_draw 5 RX5 zc_X5_draw) (hret : ∀ (H : Heap) (locs : List Loc) (ls : Array Slot) (pc : Nat), decode cX5_draw pc = .ok (.ireturn, 1) → va_P D vwCl (wd_C a cI cL cB cZ z res.2) H → va_D A (wd_C a cI cL cB cZ z res.2) → va_S A s.heap H locs → W p l e zr_X5_draw s m args below meth c H locs 0 0 Q (F0 m pc ls [.int res.1])) (S : mq_St) (H : Heap) (locs : List Loc) (ls : Array Slot) (h : zf_X5_draw_77 N z S = some res) (hl : lv_has ls 5 [(0, .ref (a 20))]) (hP : va_P D vwCl (wd_C a cI cL cB cZ z S) H) (hD : va_D A (wd_C a cI cL cB cZ z S)) (hS : va_S A s.heap H locs) : W p l e zr_X5_draw s m args below meth c H locs 0 0 Q (F0 m 77 ls []) := by
  obtain ⟨hx, hb, hml, hown, hts, hK, hA⟩ := id C
  unfold zf_X5_draw_77 at h
  refine lv_aload_n hx hb dX5_draw_77 rfl (lv_at hl 0 rfl) ?_
  refine va_get (D := D) (ci := 5) (v := .int ((S.1 11))) (C := RX5) (T := TX5) (N := 12) hx hb hts (zi_X5 _) hown hK hP 20 rfl rfl 10 (by decide) (hts _ (List.mem_cons_of_mem _ zt_f_X5_30)) (fun _ h9 => h9) rfl dX5_draw_78 ?_
  refine lv_if_ne (tgt := 88) hx hb dX5_draw_81 (by decide) (fun c24 => ?_) (fun c24 => ?_)
  · replace h := mq_if c24 h
    exact zw_X5_draw_88 C hret S H locs ls h (lv_sub hl [0] rfl) hP hD hS
  · replace h := mq_it (by simpa using c24) h
    refine lv_aload_n hx hb dX5_draw_84 rfl (lv_at hl 0 rfl) ?_
    obtain ⟨q21, hc22, h⟩ := mq_cl_go h
    refine zk_X5_finish C zt_m_X5_57 ⟨by decide, by decide⟩ hc22 hP hD hS hl.1 (Nat.le_of_ble_eq_true rfl) dX5_draw_85 (fun H locs hP hD hS => ?_)
    obtain ⟨S23, eS23⟩ : ∃ y, y = q21.2 := ⟨_, rfl⟩
    rw [← eS23] at hP hD h
    exact zw_X5_draw_88 C hret S23 H locs ls h (lv_sub hl [0] rfl) hP hD hS
set_option maxHeartbeats 4000000 in
set_option maxRecDepth 100000 in
theorem zw_X5_draw_21b {p : Program} {l : Launch} {e : Env} {s : State} {m : MethodId} {args : Array Value} {below : List Frame} {meth : Method} {c : Code} {A : Nat → Prop} {D : va_G} {a z : Nat → Nat} {cI cL cB cZ : ClassId} {Q : State → Prop} {N : Nat} {res : Int32 × mq_St} {k21 : Int32 → Int32 → mq_St → Option (Int32 × mq_St)} (C : mq_C p s m args c A D cI cL cB cZ cX5_draw 5 RX5 zc_X5_draw) (hret : ∀ (H : Heap) (locs : List Loc) (ls : Array Slot) (pc : Nat), decode cX5_draw pc = .ok (.ireturn, 1) → va_P D vwCl (wd_C a cI cL cB cZ z res.2) H → va_D A (wd_C a cI cL cB cZ z res.2) → va_S A s.heap H locs → W p l e zr_X5_draw s m args below meth c H locs 0 0 Q (F0 m pc ls [.int res.1])) (hk21 : ∀ (v2 : Int32) (v3 : Int32) (S : mq_St) (H : Heap) (locs : List Loc) (ls : Array Slot), k21 v2 v3 S = some res → lv_has ls 5 [(0, .ref (a 20)), (2, .int (v2)), (3, .int (v3))] → va_P D vwCl (wd_C a cI cL cB cZ z S) H → va_D A (wd_C a cI cL cB cZ z S) → va_S A s.heap H locs → W p l e zr_X5_draw s m args below meth c H locs 0 0 Q (F0 m 21 ls [])) (v2 : Int32) (v3 : Int32) (S : mq_St) (H : Heap) (locs : List Loc) (ls : Array Slot) (h : zf_X5_draw_21b N z k21 v2 v3 S = some res) (hl : lv_has ls 5 [(0, .ref (a 20)), (2, .int (v2)), (3, .int (v3))]) (hP : va_P D vwCl (wd_C a cI cL cB cZ z S) H) (hD : va_D A (wd_C a cI cL cB cZ z S)) (hS : va_S A s.heap H locs) : W p l e zr_X5_draw s m args below meth c H locs 0 0 Q (F0 m 21 ls []) := by
  obtain ⟨hx, hb, hml, hown, hts, hK, hA⟩ := id C
  unfold zf_X5_draw_21b at h
  refine lv_iload_n hx hb dX5_draw_21 rfl (lv_at hl 2 rfl) ?_
  refine lv_iload_n hx hb dX5_draw_22 rfl (lv_at hl 1 rfl) ?_
  refine lv_icmp_ge (tgt := 77) hx hb dX5_draw_23 (by decide) (fun c16 => ?_) (fun c16 => ?_)
  · replace h := mq_it c16 h
    exact zw_X5_draw_77 C hret S H locs ls h (lv_sub hl [0] rfl) hP hD hS
  · replace h := mq_if c16 h
    refine lv_aload_n hx hb dX5_draw_26 rfl (lv_at hl 0 rfl) ?_
    refine va_get (D := D) (ci := 5) (v := .int ((S.1 11))) (C := RX5) (T := TX5) (N := 12) hx hb hts (zi_X5 _) hown hK hP 20 rfl rfl 10 (by decide) (hts _ (List.mem_cons_of_mem _ zt_f_X5_30)) (fun _ h9 => h9) rfl dX5_draw_27 ?_
    refine lv_if_ne (tgt := 77) hx hb dX5_draw_30 (by decide) (fun c15 => ?_) (fun c15 => ?_)
    · replace h := mq_if c15 h
      exact zw_X5_draw_77 C hret S H locs ls h (lv_sub hl [0] rfl) hP hD hS
    · replace h := mq_it (by simpa using c15) h
      refine lv_aload_n hx hb dX5_draw_33 rfl (lv_at hl 0 rfl) ?_
      refine lv_iload_n hx hb dX5_draw_34 rfl (lv_at hl 2 rfl) ?_
      obtain ⟨q8, hc9, h⟩ := mq_cp_go h
      refine zk_X5_signAt C zt_m_X5_49 ⟨by decide, by decide⟩ hc9 hP hD hS hl.1 (Nat.le_of_ble_eq_true rfl) dX5_draw_35 (fun H locs hP hD hS => ?_)
      refine lv_topi (fun x10 ex10 => ?_)
      replace h := mq_nI_go ex10 h
      refine lv_istore (lv' := [(4, .int (x10)), (0, .ref (a 20)), (2, .int (v2)), (3, .int (v3))]) hx hb dX5_draw_38 hl (by decide) rfl (fun ls hl => ?_)
      refine lv_iload hx hb dX5_draw_40 (lv_at hl 0 rfl) ?_
      refine lv_bipush (v := (32 : Int32)) hx hb dX5_draw_42 (by decide) ?_
      refine lv_icmp_eq (tgt := 54) hx hb dX5_draw_44 (by decide) (fun c14 => ?_) (fun c14 => ?_)
      · replace h := mq_it c14 h
        exact zw_X5_draw_54 C hret hk21 (v2) (v3) (x10) S H locs ls h (lv_sub hl [1, 2, 3, 0] rfl) hP hD hS
      · replace h := mq_if c14 h
        refine lv_aload_n hx hb dX5_draw_47 rfl (lv_at hl 1 rfl) ?_
        refine lv_iload hx hb dX5_draw_48 (lv_at hl 0 rfl) ?_
        refine lv_iload_n hx hb dX5_draw_50 rfl (lv_at hl 3 rfl) ?_
        obtain ⟨q11, hc12, h⟩ := mq_cl_go h
        refine zk_X5_accept C zt_m_X5_53 ⟨by decide, by decide⟩ hc12 hP hD hS hl.1 (Nat.le_of_ble_eq_true rfl) dX5_draw_51 (fun H locs hP hD hS => ?_)
        obtain ⟨S13, eS13⟩ : ∃ y, y = q11.2 := ⟨_, rfl⟩
        rw [← eS13] at hP hD h
        exact zw_X5_draw_54 C hret hk21 (v2) (v3) (x10) S13 H locs ls h (lv_sub hl [1, 2, 3, 0] rfl) hP hD hS
set_option maxHeartbeats 4000000 in
set_option maxRecDepth 100000 in
theorem zw_X5_draw_21 {p : Program} {l : Launch} {e : Env} {s : State} {m : MethodId} {args : Array Value} {below : List Frame} {meth : Method} {c : Code} {A : Nat → Prop} {D : va_G} {a z : Nat → Nat} {cI cL cB cZ : ClassId} {Q : State → Prop} {N : Nat} {res : Int32 × mq_St} (C : mq_C p s m args c A D cI cL cB cZ cX5_draw 5 RX5 zc_X5_draw) (hret : ∀ (H : Heap) (locs : List Loc) (ls : Array Slot) (pc : Nat), decode cX5_draw pc = .ok (.ireturn, 1) → va_P D vwCl (wd_C a cI cL cB cZ z res.2) H → va_D A (wd_C a cI cL cB cZ z res.2) → va_S A s.heap H locs → W p l e zr_X5_draw s m args below meth c H locs 0 0 Q (F0 m pc ls [.int res.1])) : ∀ (n : Nat) (v2 : Int32) (v3 : Int32) (S : mq_St) (H : Heap) (locs : List Loc) (ls : Array Slot) (h : zf_X5_draw_21 N z n v2 v3 S = some res) (hl : lv_has ls 5 [(0, .ref (a 20)), (2, .int (v2)), (3, .int (v3))]) (hP : va_P D vwCl (wd_C a cI cL cB cZ z S) H) (hD : va_D A (wd_C a cI cL cB cZ z S)) (hS : va_S A s.heap H locs), W p l e zr_X5_draw s m args below meth c H locs 0 0 Q (F0 m 21 ls []) := by
  intro n
  induction n with
  | zero =>
    intro v2 v3 S H locs ls h hl hP hD hS
    exact nomatch (show (none : Option (Int32 × mq_St)) = some res from h)
  | succ n ih =>
    intro v2 v3 S H locs ls h hl hP hD hS
    exact zw_X5_draw_21b C hret (fun v2 v3 S H locs ls h hl hP hD hS => ih v2 v3 S H locs ls h hl hP hD hS) v2 v3 S H locs ls h hl hP hD hS
set_option maxHeartbeats 4000000 in
set_option maxRecDepth 100000 in
theorem zw_X5_draw_0 {p : Program} {l : Launch} {e : Env} {s : State} {m : MethodId} {args : Array Value} {below : List Frame} {meth : Method} {c : Code} {A : Nat → Prop} {D : va_G} {a z : Nat → Nat} {cI cL cB cZ : ClassId} {Q : State → Prop} {N : Nat} {res : Int32 × mq_St} (C : mq_C p s m args c A D cI cL cB cZ cX5_draw 5 RX5 zc_X5_draw) (hret : ∀ (H : Heap) (locs : List Loc) (ls : Array Slot) (pc : Nat), decode cX5_draw pc = .ok (.ireturn, 1) → va_P D vwCl (wd_C a cI cL cB cZ z res.2) H → va_D A (wd_C a cI cL cB cZ z res.2) → va_S A s.heap H locs → W p l e zr_X5_draw s m args below meth c H locs 0 0 Q (F0 m pc ls [.int res.1])) (v1 : Int32) (S : mq_St) (H : Heap) (locs : List Loc) (ls : Array Slot) (h : zf_X5_draw N z v1 S = some res) (hl : lv_has ls 5 [(0, .ref (a 20)), (1, .int (v1))]) (hP : va_P D vwCl (wd_C a cI cL cB cZ z S) H) (hD : va_D A (wd_C a cI cL cB cZ z S)) (hS : va_S A s.heap H locs) : W p l e zr_X5_draw s m args below meth c H locs 0 0 Q (F0 m 0 ls []) := by
  obtain ⟨hx, hb, hml, hown, hts, hK, hA⟩ := id C
  unfold zf_X5_draw at h
  refine lv_aload_n hx hb dX5_draw_0 rfl (lv_at hl 0 rfl) ?_
  refine lv_iload_n hx hb dX5_draw_1 rfl (lv_at hl 1 rfl) ?_
  obtain ⟨q1, hc2, h⟩ := mq_cl_go h
  refine zk_X5_begin C zt_m_X5_33 ⟨by decide, by decide⟩ hc2 hP hD hS hl.1 (Nat.le_of_ble_eq_true rfl) dX5_draw_2 (fun H locs hP hD hS => ?_)
  obtain ⟨S3, eS3⟩ : ∃ y, y = q1.2 := ⟨_, rfl⟩
  rw [← eS3] at hP hD h
  refine lv_aload_n hx hb dX5_draw_5 rfl (lv_at hl 0 rfl) ?_
  refine va_get (D := D) (ci := 5) (v := .ref (a 3)) (C := RX5) (T := TX5) (N := 12) hx hb hts (zi_X5 _) hown hK hP 20 rfl rfl 0 (by decide) (hts _ (List.mem_cons_of_mem _ zt_f_X5_22)) (fun _ h9 => h9) rfl dX5_draw_6 ?_
  obtain ⟨q4, hc5, h⟩ := mq_cp_go h
  refine zv_X0_size (a := mq_ad a [3, 4]) (z := z) [3, 4] C zt_m_X5_37 ⟨by decide, by decide⟩ hc5 rfl (by decide) hP hD hS hl.1 (Nat.le_of_ble_eq_true rfl) dX5_draw_9 (fun H locs hP hD hS => ?_)
  refine lv_sipush (v := (400 : Int32)) hx hb dX5_draw_12 (by decide) ?_
  refine va_mmin hx hb (hml.trans hl.1.symm) hown (hts _ (List.mem_cons_of_mem _ zt_m_X5_43)) (hts _ (List.mem_cons_of_mem _ zt_math_min_s)) (hts _ (List.mem_cons_of_mem _ zt_math_i)) (hts _ (List.mem_cons_of_mem _ zt_math_min_c)) (Nat.le_of_ble_eq_true rfl) (Nat.le_of_ble_eq_true rfl) (Nat.zero_le _) (Nat.zero_le _) dX5_draw_15 ?_
  show W _ _ _ _ _ _ _ _ _ _ _ _ _ _ _ (F0 _ _ _ (.int (mq_min q4 (400 : Int32)) :: _))
  refine lv_topi (fun x6 ex6 => ?_)
  replace h := mq_nI_go ex6 h
  refine lv_istore_n (lv' := [(2, .int (x6)), (0, .ref (a 20)), (1, .int (v1))]) hx hb dX5_draw_18 rfl hl (by decide) rfl (fun ls hl => ?_)
  refine lv_iconst (v := (0 : Int32)) hx hb dX5_draw_19 (by decide) ?_
  refine lv_topi (fun x7 ex7 => ?_)
  replace h := mq_nI_go ex7 h
  refine lv_istore_n (lv' := [(3, .int (x7)), (2, .int (x6)), (0, .ref (a 20)), (1, .int (v1))]) hx hb dX5_draw_20 rfl hl (by decide) rfl (fun ls hl => ?_)
  exact zw_X5_draw_21 C hret N (x6) (x7) S3 H locs ls h (lv_sub hl [2, 1, 0] rfl) hP hD hS
set_option maxHeartbeats 4000000 in
set_option maxRecDepth 100000 in
theorem zm_X5_draw (l : Launch) (D : va_G) (a z : Nat → Nat) (cI cL cB cZ : ClassId) (sz N : Nat) (v1 : Int32) (S : mq_St) (res : Int32 × mq_St) (h : zf_X5_draw N z v1 S = some res) : Met l yX5_draw (zc_X5_draw :: mq_T) zr_X5_draw (va_Pc [.ref (a 20), .int (v1)] (fun U => U.heap.size = sz ∧ va_P D vwCl (wd_C a cI cL cB cZ z S) U.heap ∧ va_K D vwCl (mq_tys cI cL cB cZ) U ∧ va_D (fun _ => True) (wd_C a cI cL cB cZ z S))) (va_Qi (fun (r : Int32) (u : mq_St) => r = res.1 ∧ u = res.2) (fun u t => va_P D vwCl (wd_C a cI cL cB cZ z u) t.heap ∧ va_K D vwCl (mq_tys cI cL cB cZ) t ∧ va_D (va_A (wd_C a cI cL cB cZ z S) sz) (wd_C a cI cL cB cZ z u)) (va_A (wd_C a cI cL cB cZ z S) sz)) 0 0 (va_A (wd_C a cI cL cB cZ z S) sz) := by
  refine Met.ofW (cc := cX5_draw) (maxL := 5) (ret := (some .int)) (by decide) rfl ?_
  intro p e s m args below meth c s₁ B hml hv
  obtain ⟨rfl, hsz, hP, hK, hD0⟩ := hv
  have hr := B.returns
  have hlocks := B.notSynchronized
  have hts := atoms_spec (ws := zc_X5_draw :: mq_T) B.pre
  have hown : s.vm.findClass RX5 = some m.cls := findClass_of_methodNamed B.named
  subst hsz
  have hD := hD0.self (sz := s.heap.size)
  generalize hAe : va_A (wd_C a cI cL cB cZ z S) s.heap.size = A at hD ⊢
  have hA : ∀ q : Nat, s.heap.size ≤ q → A q := fun q h => by rw [← hAe]; exact Or.inr h
  have hl := lv_entry ([.ref (a 20), .int (v1)]) (n := 5) (Nat.le_of_ble_eq_true rfl)
  rw [lg_entry_eq]
  generalize (lg_sl ([.ref (a 20), .int (v1)]) ++ List.replicate (5 - (lg_sl ([.ref (a 20), .int (v1)])).length) Slot.unset).toArray = ls at hl ⊢
  have hl : lv_has ls 5 [(0, .ref (a 20)), (1, .int (v1))] := hl
  refine zw_X5_draw_0 (A := A) ⟨B.exec, B.bytes, hml, hown, hts, hK, hA⟩ (fun H locs ls pc dg hP hD hS => ?_) v1 S s.heap [] ls h hl hP hD va_S.rf
  exact W.iret B.exec B.bytes hr (fun t ht hW => ⟨⟨_, _, rfl, ⟨rfl, rfl⟩, by rw [ht]; exact hP, va_K.moved hW.alike hK, hD⟩, hS.F ht⟩) hS.2.2 dg
theorem zt_X5_draw_c : zc_X5_draw ∈ mq_T := mq_T_mem (mq_t2 (List.mem_of_getElem? (i := 199) rfl)) rfl
theorem zt_X5_draw_i : Cond.instanceMethod yX5_draw ∈ mq_T := mq_T_mem (mq_t2 (List.mem_of_getElem? (i := 197) rfl)) rfl
theorem zt_X5_draw_s : Cond.selects RX5 yX5_draw yX5_draw ∈ mq_T := mq_T_mem (mq_t2 (List.mem_of_getElem? (i := 198) rfl)) rfl
set_option maxHeartbeats 4000000 in
theorem zk_X5_draw {p : Program} {l : Launch} {e : Env} {R : Room} {s : State} {m : MethodId} {args : Array Value} {below : List Frame} {meth : Method} {c : Code} {A : Nat → Prop} {D : va_G} {a z : Nat → Nat} {cI cL cB cZ : ClassId} {Q : State → Prop} {cc : ByteArray} {nL idx pc N : Nat} {own : String} {c1 : Cond} {H : Heap} {locs : List Loc} {ls : Array Slot} {rest : List Value} {S : mq_St} {res : Int32 × mq_St} {v1 : Int32} (C : mq_C p s m args c A D cI cL cB cZ cc nL own c1) (hlk : Cond.methodLink own idx yX5_draw ∈ mq_T) (hR : zr_X5_draw.frames + 1 ≤ R.frames ∧ 8 + (5 + 11) + zr_X5_draw.locals ≤ R.locals) (h : zf_X5_draw N z v1 S = some res) (hP : va_P D vwCl (wd_C a cI cL cB cZ z S) H) (hD : va_D A (wd_C a cI cL cB cZ z S)) (hS : va_S A s.heap H locs) (hls : ls.size = nL) (hrest : (rest.map fun v => v.category).sum ≤ 8) (hdg : decode cc pc = .ok (.invokevirtual idx, 3)) (kk : ∀ (H1 : Heap) (locs1 : List Loc), va_P D vwCl (wd_C a cI cL cB cZ z res.2) H1 → va_D A (wd_C a cI cL cB cZ z res.2) → va_S A s.heap H1 locs1 → W p l e R s m args below meth c H1 locs1 0 0 Q (F0 m (pc + 3) ls (.int res.1 :: rest))) : W p l e R s m args below meth c H locs 0 0 Q (F0 m pc ls (.int (v1) :: .ref (a 20) :: rest)) := by
  obtain ⟨hx, hb, hml, hown, hts, hK, hA⟩ := C
  have hFc := mq_freeI hD hS hA
  refine va_calli (va_runV (As := [.int (v1)]) (rest := rest) ⟨hx, hb, hml, hown, hts⟩ (zm_X5_draw l D a z cI cL cB cZ H.size N v1 S res h) (cwV 1 hts (mq_goodL (mq_wsV hlk zt_X5_draw_i zt_X5_draw_s zt_ini_X5 zt_X5_draw_c)) rfl rfl rfl (by decide +kernel) hR) ⟨fun a U g mk q => ⟨q.1, q.2.1, q.2.2.1, va_K.moved (u := U) (U := U.calling g mk a) (Vm.Alike.refl U.vm) q.2.2.2.1, q.2.2.2.2⟩, zy_C_20 hK hP, fun U hU hW => ⟨rfl, by rw [hU], by rw [hU]; exact hP, va_K.moved hW.alike hK, hD.weaken (fun _ _ _ _ => trivial)⟩⟩ rfl rfl hls rfl (lv_room hrest) hdg ⟨Nat.zero_le _, Nat.zero_le _⟩) hS (fun q _ h => hFc q h) hFc (fun r u t H1 locs ht hvm hw hB hz1 hk1 hS => ?_)
  obtain ⟨rfl, rfl⟩ := hw
  obtain ⟨hP1, hK1, hD1⟩ := hB
  rw [ht] at hP1
  exact kk H1 locs hP1 (hD1.weaken (fun _ _ _ h => hFc _ h)) hS
/-! ModalDesk$Reader.faultFound()I -/
def zr_X5_faultFound : Room := { frames := 0, cells := 0, slots := 0, locals := 0 }
def zc_X5_faultFound : Cond := .code yX5_faultFound cX5_faultFound 1 (some .int)
def zf_X5_faultFound (N : Nat) (z : Nat → Nat) (S : mq_St) : Option (Int32) := (some ((S.1 11)))
set_option maxHeartbeats 4000000 in
set_option maxRecDepth 100000 in
theorem zw_X5_faultFound_0 {p : Program} {l : Launch} {e : Env} {s : State} {m : MethodId} {args : Array Value} {below : List Frame} {meth : Method} {c : Code} {A : Nat → Prop} {D : va_G} {a z : Nat → Nat} {cI cL cB cZ : ClassId} {Q : State → Prop} {N : Nat} {S : mq_St} {res : Int32} (C : mq_C p s m args c A D cI cL cB cZ cX5_faultFound 1 RX5 zc_X5_faultFound) (hret : ∀ (H : Heap) (locs : List Loc) (ls : Array Slot) (pc : Nat), decode cX5_faultFound pc = .ok (.ireturn, 1) → va_P D vwCl (wd_C a cI cL cB cZ z S) H → va_D A (wd_C a cI cL cB cZ z S) → va_S A s.heap H locs → W p l e zr_X5_faultFound s m args below meth c H locs 0 0 Q (F0 m pc ls [.int res])) (H : Heap) (locs : List Loc) (ls : Array Slot) (h : zf_X5_faultFound N z S = some res) (hl : lv_has ls 1 [(0, .ref (a 20))]) (hP : va_P D vwCl (wd_C a cI cL cB cZ z S) H) (hD : va_D A (wd_C a cI cL cB cZ z S)) (hS : va_S A s.heap H locs) : W p l e zr_X5_faultFound s m args below meth c H locs 0 0 Q (F0 m 0 ls []) := by
  obtain ⟨hx, hb, hml, hown, hts, hK, hA⟩ := id C
  unfold zf_X5_faultFound at h
  refine lv_aload_n hx hb dX5_faultFound_0 rfl (lv_at hl 0 rfl) ?_
  refine va_get (D := D) (ci := 5) (v := .int ((S.1 11))) (C := RX5) (T := TX5) (N := 12) hx hb hts (zi_X5 _) hown hK hP 20 rfl rfl 10 (by decide) (hts _ (List.mem_cons_of_mem _ zt_f_X5_30)) (fun _ h9 => h9) rfl dX5_faultFound_1 ?_
  cases h
  exact hret H locs ls 4 dX5_faultFound_4 hP hD hS
set_option maxHeartbeats 4000000 in
set_option maxRecDepth 100000 in
theorem zm_X5_faultFound (l : Launch) (D : va_G) (a z : Nat → Nat) (cI cL cB cZ : ClassId) (sz N : Nat) (S : mq_St) (res : Int32) (h : zf_X5_faultFound N z S = some res) : Met l yX5_faultFound (zc_X5_faultFound :: mq_T) zr_X5_faultFound (va_Pc [.ref (a 20)] (fun U => U.heap.size = sz ∧ va_P D vwCl (wd_C a cI cL cB cZ z S) U.heap ∧ va_K D vwCl (mq_tys cI cL cB cZ) U ∧ va_D (fun _ => True) (wd_C a cI cL cB cZ z S))) (va_Qi (fun (r : Int32) (u : mq_St) => r = res ∧ u = S) (fun u t => va_P D vwCl (wd_C a cI cL cB cZ z u) t.heap ∧ va_K D vwCl (mq_tys cI cL cB cZ) t ∧ va_D (va_A (wd_C a cI cL cB cZ z S) sz) (wd_C a cI cL cB cZ z u)) (va_A (wd_C a cI cL cB cZ z S) sz)) 0 0 (va_A (wd_C a cI cL cB cZ z S) sz) := by
  refine Met.ofW (cc := cX5_faultFound) (maxL := 1) (ret := (some .int)) (by decide) rfl ?_
  intro p e s m args below meth c s₁ B hml hv
  obtain ⟨rfl, hsz, hP, hK, hD0⟩ := hv
  have hr := B.returns
  have hlocks := B.notSynchronized
  have hts := atoms_spec (ws := zc_X5_faultFound :: mq_T) B.pre
  have hown : s.vm.findClass RX5 = some m.cls := findClass_of_methodNamed B.named
  subst hsz
  have hD := hD0.self (sz := s.heap.size)
  generalize hAe : va_A (wd_C a cI cL cB cZ z S) s.heap.size = A at hD ⊢
  have hA : ∀ q : Nat, s.heap.size ≤ q → A q := fun q h => by rw [← hAe]; exact Or.inr h
  have hl := lv_entry ([.ref (a 20)]) (n := 1) (Nat.le_of_ble_eq_true rfl)
  rw [lg_entry_eq]
  generalize (lg_sl ([.ref (a 20)]) ++ List.replicate (1 - (lg_sl ([.ref (a 20)])).length) Slot.unset).toArray = ls at hl ⊢
  have hl : lv_has ls 1 [(0, .ref (a 20))] := hl
  refine zw_X5_faultFound_0 (A := A) ⟨B.exec, B.bytes, hml, hown, hts, hK, hA⟩ (fun H locs ls pc dg hP hD hS => ?_) s.heap [] ls h hl hP hD va_S.rf
  exact W.iret B.exec B.bytes hr (fun t ht hW => ⟨⟨_, _, rfl, ⟨rfl, rfl⟩, by rw [ht]; exact hP, va_K.moved hW.alike hK, hD⟩, hS.F ht⟩) hS.2.2 dg
theorem zt_X5_faultFound_c : zc_X5_faultFound ∈ mq_T := mq_T_mem (mq_t3 (List.mem_of_getElem? (i := 154) rfl)) rfl
theorem zt_X5_faultFound_i : Cond.instanceMethod yX5_faultFound ∈ mq_T := mq_T_mem (mq_t3 (List.mem_of_getElem? (i := 152) rfl)) rfl
theorem zt_X5_faultFound_s : Cond.selects RX5 yX5_faultFound yX5_faultFound ∈ mq_T := mq_T_mem (mq_t3 (List.mem_of_getElem? (i := 153) rfl)) rfl
set_option maxHeartbeats 4000000 in
theorem zk_X5_faultFound {p : Program} {l : Launch} {e : Env} {R : Room} {s : State} {m : MethodId} {args : Array Value} {below : List Frame} {meth : Method} {c : Code} {A : Nat → Prop} {D : va_G} {a z : Nat → Nat} {cI cL cB cZ : ClassId} {Q : State → Prop} {cc : ByteArray} {nL idx pc N : Nat} {own : String} {c1 : Cond} {H : Heap} {locs : List Loc} {ls : Array Slot} {rest : List Value} {S : mq_St} {res : Int32} (C : mq_C p s m args c A D cI cL cB cZ cc nL own c1) (hlk : Cond.methodLink own idx yX5_faultFound ∈ mq_T) (hR : zr_X5_faultFound.frames + 1 ≤ R.frames ∧ 8 + (1 + 11) + zr_X5_faultFound.locals ≤ R.locals) (h : zf_X5_faultFound N z S = some res) (hP : va_P D vwCl (wd_C a cI cL cB cZ z S) H) (hD : va_D A (wd_C a cI cL cB cZ z S)) (hS : va_S A s.heap H locs) (hls : ls.size = nL) (hrest : (rest.map fun v => v.category).sum ≤ 8) (hdg : decode cc pc = .ok (.invokevirtual idx, 3)) (kk : ∀ (H1 : Heap) (locs1 : List Loc), va_P D vwCl (wd_C a cI cL cB cZ z S) H1 → va_D A (wd_C a cI cL cB cZ z S) → va_S A s.heap H1 locs1 → W p l e R s m args below meth c H1 locs1 0 0 Q (F0 m (pc + 3) ls (.int res :: rest))) : W p l e R s m args below meth c H locs 0 0 Q (F0 m pc ls (.ref (a 20) :: rest)) := by
  obtain ⟨hx, hb, hml, hown, hts, hK, hA⟩ := C
  have hFc := mq_freeI hD hS hA
  refine va_calli (va_runV (As := []) (rest := rest) ⟨hx, hb, hml, hown, hts⟩ (zm_X5_faultFound l D a z cI cL cB cZ H.size N S res h) (cwV 0 hts (mq_goodL (mq_wsV hlk zt_X5_faultFound_i zt_X5_faultFound_s zt_ini_X5 zt_X5_faultFound_c)) rfl rfl rfl (by decide +kernel) hR) ⟨fun a U g mk q => ⟨q.1, q.2.1, q.2.2.1, va_K.moved (u := U) (U := U.calling g mk a) (Vm.Alike.refl U.vm) q.2.2.2.1, q.2.2.2.2⟩, zy_C_20 hK hP, fun U hU hW => ⟨rfl, by rw [hU], by rw [hU]; exact hP, va_K.moved hW.alike hK, hD.weaken (fun _ _ _ _ => trivial)⟩⟩ rfl rfl hls rfl (lv_room hrest) hdg ⟨Nat.zero_le _, Nat.zero_le _⟩) hS (fun q _ h => hFc q h) hFc (fun r u t H1 locs ht hvm hw hB hz1 hk1 hS => ?_)
  obtain ⟨rfl, rfl⟩ := hw
  obtain ⟨hP1, hK1, hD1⟩ := hB
  rw [ht] at hP1
  exact kk H1 locs hP1 (hD1.weaken (fun _ _ _ h => hFc _ h)) hS
/-! ModalDesk$Reader.placeOfFault()I -/
def zr_X5_placeOfFault : Room := { frames := 0, cells := 0, slots := 0, locals := 0 }
def zc_X5_placeOfFault : Cond := .code yX5_placeOfFault cX5_placeOfFault 1 (some .int)
def zf_X5_placeOfFault (N : Nat) (z : Nat → Nat) (S : mq_St) : Option (Int32) := (some ((S.1 12)))
set_option maxHeartbeats 4000000 in
set_option maxRecDepth 100000 in
theorem zw_X5_placeOfFault_0 {p : Program} {l : Launch} {e : Env} {s : State} {m : MethodId} {args : Array Value} {below : List Frame} {meth : Method} {c : Code} {A : Nat → Prop} {D : va_G} {a z : Nat → Nat} {cI cL cB cZ : ClassId} {Q : State → Prop} {N : Nat} {S : mq_St} {res : Int32} (C : mq_C p s m args c A D cI cL cB cZ cX5_placeOfFault 1 RX5 zc_X5_placeOfFault) (hret : ∀ (H : Heap) (locs : List Loc) (ls : Array Slot) (pc : Nat), decode cX5_placeOfFault pc = .ok (.ireturn, 1) → va_P D vwCl (wd_C a cI cL cB cZ z S) H → va_D A (wd_C a cI cL cB cZ z S) → va_S A s.heap H locs → W p l e zr_X5_placeOfFault s m args below meth c H locs 0 0 Q (F0 m pc ls [.int res])) (H : Heap) (locs : List Loc) (ls : Array Slot) (h : zf_X5_placeOfFault N z S = some res) (hl : lv_has ls 1 [(0, .ref (a 20))]) (hP : va_P D vwCl (wd_C a cI cL cB cZ z S) H) (hD : va_D A (wd_C a cI cL cB cZ z S)) (hS : va_S A s.heap H locs) : W p l e zr_X5_placeOfFault s m args below meth c H locs 0 0 Q (F0 m 0 ls []) := by
  obtain ⟨hx, hb, hml, hown, hts, hK, hA⟩ := id C
  unfold zf_X5_placeOfFault at h
  refine lv_aload_n hx hb dX5_placeOfFault_0 rfl (lv_at hl 0 rfl) ?_
  refine va_get (D := D) (ci := 5) (v := .int ((S.1 12))) (C := RX5) (T := TX5) (N := 12) hx hb hts (zi_X5 _) hown hK hP 20 rfl rfl 11 (by decide) (hts _ (List.mem_cons_of_mem _ zt_f_X5_18)) (fun _ h9 => h9) rfl dX5_placeOfFault_1 ?_
  cases h
  exact hret H locs ls 4 dX5_placeOfFault_4 hP hD hS
set_option maxHeartbeats 4000000 in
set_option maxRecDepth 100000 in
theorem zm_X5_placeOfFault (l : Launch) (D : va_G) (a z : Nat → Nat) (cI cL cB cZ : ClassId) (sz N : Nat) (S : mq_St) (res : Int32) (h : zf_X5_placeOfFault N z S = some res) : Met l yX5_placeOfFault (zc_X5_placeOfFault :: mq_T) zr_X5_placeOfFault (va_Pc [.ref (a 20)] (fun U => U.heap.size = sz ∧ va_P D vwCl (wd_C a cI cL cB cZ z S) U.heap ∧ va_K D vwCl (mq_tys cI cL cB cZ) U ∧ va_D (fun _ => True) (wd_C a cI cL cB cZ z S))) (va_Qi (fun (r : Int32) (u : mq_St) => r = res ∧ u = S) (fun u t => va_P D vwCl (wd_C a cI cL cB cZ z u) t.heap ∧ va_K D vwCl (mq_tys cI cL cB cZ) t ∧ va_D (va_A (wd_C a cI cL cB cZ z S) sz) (wd_C a cI cL cB cZ z u)) (va_A (wd_C a cI cL cB cZ z S) sz)) 0 0 (va_A (wd_C a cI cL cB cZ z S) sz) := by
  refine Met.ofW (cc := cX5_placeOfFault) (maxL := 1) (ret := (some .int)) (by decide) rfl ?_
  intro p e s m args below meth c s₁ B hml hv
  obtain ⟨rfl, hsz, hP, hK, hD0⟩ := hv
  have hr := B.returns
  have hlocks := B.notSynchronized
  have hts := atoms_spec (ws := zc_X5_placeOfFault :: mq_T) B.pre
  have hown : s.vm.findClass RX5 = some m.cls := findClass_of_methodNamed B.named
  subst hsz
  have hD := hD0.self (sz := s.heap.size)
  generalize hAe : va_A (wd_C a cI cL cB cZ z S) s.heap.size = A at hD ⊢
  have hA : ∀ q : Nat, s.heap.size ≤ q → A q := fun q h => by rw [← hAe]; exact Or.inr h
  have hl := lv_entry ([.ref (a 20)]) (n := 1) (Nat.le_of_ble_eq_true rfl)
  rw [lg_entry_eq]
  generalize (lg_sl ([.ref (a 20)]) ++ List.replicate (1 - (lg_sl ([.ref (a 20)])).length) Slot.unset).toArray = ls at hl ⊢
  have hl : lv_has ls 1 [(0, .ref (a 20))] := hl
  refine zw_X5_placeOfFault_0 (A := A) ⟨B.exec, B.bytes, hml, hown, hts, hK, hA⟩ (fun H locs ls pc dg hP hD hS => ?_) s.heap [] ls h hl hP hD va_S.rf
  exact W.iret B.exec B.bytes hr (fun t ht hW => ⟨⟨_, _, rfl, ⟨rfl, rfl⟩, by rw [ht]; exact hP, va_K.moved hW.alike hK, hD⟩, hS.F ht⟩) hS.2.2 dg
theorem zt_X5_placeOfFault_c : zc_X5_placeOfFault ∈ mq_T := mq_T_mem (mq_t3 (List.mem_of_getElem? (i := 158) rfl)) rfl
theorem zt_X5_placeOfFault_i : Cond.instanceMethod yX5_placeOfFault ∈ mq_T := mq_T_mem (mq_t3 (List.mem_of_getElem? (i := 156) rfl)) rfl
theorem zt_X5_placeOfFault_s : Cond.selects RX5 yX5_placeOfFault yX5_placeOfFault ∈ mq_T := mq_T_mem (mq_t3 (List.mem_of_getElem? (i := 157) rfl)) rfl
set_option maxHeartbeats 4000000 in
theorem zk_X5_placeOfFault {p : Program} {l : Launch} {e : Env} {R : Room} {s : State} {m : MethodId} {args : Array Value} {below : List Frame} {meth : Method} {c : Code} {A : Nat → Prop} {D : va_G} {a z : Nat → Nat} {cI cL cB cZ : ClassId} {Q : State → Prop} {cc : ByteArray} {nL idx pc N : Nat} {own : String} {c1 : Cond} {H : Heap} {locs : List Loc} {ls : Array Slot} {rest : List Value} {S : mq_St} {res : Int32} (C : mq_C p s m args c A D cI cL cB cZ cc nL own c1) (hlk : Cond.methodLink own idx yX5_placeOfFault ∈ mq_T) (hR : zr_X5_placeOfFault.frames + 1 ≤ R.frames ∧ 8 + (1 + 11) + zr_X5_placeOfFault.locals ≤ R.locals) (h : zf_X5_placeOfFault N z S = some res) (hP : va_P D vwCl (wd_C a cI cL cB cZ z S) H) (hD : va_D A (wd_C a cI cL cB cZ z S)) (hS : va_S A s.heap H locs) (hls : ls.size = nL) (hrest : (rest.map fun v => v.category).sum ≤ 8) (hdg : decode cc pc = .ok (.invokevirtual idx, 3)) (kk : ∀ (H1 : Heap) (locs1 : List Loc), va_P D vwCl (wd_C a cI cL cB cZ z S) H1 → va_D A (wd_C a cI cL cB cZ z S) → va_S A s.heap H1 locs1 → W p l e R s m args below meth c H1 locs1 0 0 Q (F0 m (pc + 3) ls (.int res :: rest))) : W p l e R s m args below meth c H locs 0 0 Q (F0 m pc ls (.ref (a 20) :: rest)) := by
  obtain ⟨hx, hb, hml, hown, hts, hK, hA⟩ := C
  have hFc := mq_freeI hD hS hA
  refine va_calli (va_runV (As := []) (rest := rest) ⟨hx, hb, hml, hown, hts⟩ (zm_X5_placeOfFault l D a z cI cL cB cZ H.size N S res h) (cwV 0 hts (mq_goodL (mq_wsV hlk zt_X5_placeOfFault_i zt_X5_placeOfFault_s zt_ini_X5 zt_X5_placeOfFault_c)) rfl rfl rfl (by decide +kernel) hR) ⟨fun a U g mk q => ⟨q.1, q.2.1, q.2.2.1, va_K.moved (u := U) (U := U.calling g mk a) (Vm.Alike.refl U.vm) q.2.2.2.1, q.2.2.2.2⟩, zy_C_20 hK hP, fun U hU hW => ⟨rfl, by rw [hU], by rw [hU]; exact hP, va_K.moved hW.alike hK, hD.weaken (fun _ _ _ _ => trivial)⟩⟩ rfl rfl hls rfl (lv_room hrest) hdg ⟨Nat.zero_le _, Nat.zero_le _⟩) hS (fun q _ h => hFc q h) hFc (fun r u t H1 locs ht hvm hw hB hz1 hk1 hS => ?_)
  obtain ⟨rfl, rfl⟩ := hw
  obtain ⟨hP1, hK1, hD1⟩ := hB
  rw [ht] at hP1
  exact kk H1 locs hP1 (hD1.weaken (fun _ _ _ h => hFc _ h)) hS
