/-! ModalDeskModel.firstSelf()I -/
def zr_X11_firstSelf : Room := { frames := 1, cells := 0, slots := 0, locals := 22 }
def zc_X11_firstSelf : Cond := .code yX11_firstSelf cX11_firstSelf 2 (some .int)
def zf_X11_firstSelf_52 (N : Nat) (z : Nat → Nat) (S : mq_St) (k2 : Int32 → Option (Int32)) (v1 : Int32) : Option (Int32) := (mq_nI (v1 + (1 : Int32)) (fun x12 => (k2 (x12))))
def zf_X11_firstSelf_2b (N : Nat) (z : Nat → Nat) (S : mq_St) (k2 : Int32 → Option (Int32)) (v1 : Int32) : Option (Int32) := (if (S.1 3) ≤ v1 then (some ((-1 : Int32))) else (mq_ck (v1) 300 (if (S.2.1 2 (v1).toNatClampNeg) = (6 : Int32) then (mq_cp (zf_X11_isIn N (fun k => [10].getD k 0) ((0 : Int32)) (v1) (mq_pull S [] [17] [])) (fun q3 => (if q3 = (0 : Int32) then (zf_X11_firstSelf_52 N z S k2 (v1)) else (mq_ck (v1) 300 (mq_cp (zf_X11_isIn N (fun k => [10].getD k 0) ((0 : Int32)) ((S.2.1 3 (v1).toNatClampNeg)) (mq_pull S [] [17] [])) (fun q6 => (if q6 = (0 : Int32) then (some (v1)) else (zf_X11_firstSelf_52 N z S k2 (v1))))))))) else (zf_X11_firstSelf_52 N z S k2 (v1)))))
def zf_X11_firstSelf_2 (N : Nat) (z : Nat → Nat) (S : mq_St) : Nat → Int32 → Option (Int32)
  | 0, _ => none
  | n + 1, v1 => zf_X11_firstSelf_2b N z S (fun v1 => zf_X11_firstSelf_2 N z S n v1) v1
def zf_X11_firstSelf (N : Nat) (z : Nat → Nat) (S : mq_St) : Option (Int32) := (mq_nI ((2 : Int32)) (fun x1 => (zf_X11_firstSelf_2 N z S N (x1))))
set_option maxHeartbeats 4000000 in
set_option maxRecDepth 100000 in
theorem zw_X11_firstSelf_52 {p : Program} {l : Launch} {e : Env} {s : State} {m : MethodId} {args : Array Value} {below : List Frame} {meth : Method} {c : Code} {A : Nat → Prop} {D : va_G} {a z : Nat → Nat} {cI cL cB cZ : ClassId} {Q : State → Prop} {N : Nat} {S : mq_St} {res : Int32} {k2 : Int32 → Option (Int32)} (C : mq_C p s m args c A D cI cL cB cZ cX11_firstSelf 2 RX11 zc_X11_firstSelf) (hret : ∀ (H : Heap) (locs : List Loc) (ls : Array Slot) (pc : Nat), decode cX11_firstSelf pc = .ok (.ireturn, 1) → va_P D vwCl (wd_R a cI cL cB cZ z S) H → va_D A (wd_R a cI cL cB cZ z S) → va_S A s.heap H locs → W p l e zr_X11_firstSelf s m args below meth c H locs 0 0 Q (F0 m pc ls [.int res])) (hk2 : ∀ (v1 : Int32) (H : Heap) (locs : List Loc) (ls : Array Slot), k2 v1 = some res → lv_has ls 2 [(0, .ref (a 0)), (1, .int (v1))] → va_P D vwCl (wd_R a cI cL cB cZ z S) H → va_D A (wd_R a cI cL cB cZ z S) → va_S A s.heap H locs → W p l e zr_X11_firstSelf s m args below meth c H locs 0 0 Q (F0 m 2 ls [])) (v1 : Int32) (H : Heap) (locs : List Loc) (ls : Array Slot) (h : zf_X11_firstSelf_52 N z S k2 v1 = some res) (hl : lv_has ls 2 [(0, .ref (a 0)), (1, .int (v1))]) (hP : va_P D vwCl (wd_R a cI cL cB cZ z S) H) (hD : va_D A (wd_R a cI cL cB cZ z S)) (hS : va_S A s.heap H locs) : W p l e zr_X11_firstSelf s m args below meth c H locs 0 0 Q (F0 m 52 ls []) := by
  obtain ⟨hx, hb, hml, hown, hts, hK, hA⟩ := id C
  unfold zf_X11_firstSelf_52 at h
  obtain ⟨x12, ex12⟩ : ∃ y : Int32, y = v1 + (1 : Int32) := ⟨_, rfl⟩
  replace h := mq_nI_go ex12 h
  refine lv_iinc (v := x12) (lv' := [(1, .int (x12)), (0, .ref (a 0))]) hx hb dX11_firstSelf_52 hl (k := 1) rfl (by rw [ex12]; rfl) (by decide) rfl (fun ls hl => ?_)
  refine lv_goto (tgt := 2) hx hb dX11_firstSelf_55 (by decide) ?_
  exact hk2 (x12) H locs ls h (lv_sub hl [1, 0] rfl) hP hD hS
set_option maxHeartbeats 4000000 in
set_option maxRecDepth 100000 in
theorem zw_X11_firstSelf_2b {p : Program} {l : Launch} {e : Env} {s : State} {m : MethodId} {args : Array Value} {below : List Frame} {meth : Method} {c : Code} {A : Nat → Prop} {D : va_G} {a z : Nat → Nat} {cI cL cB cZ : ClassId} {Q : State → Prop} {N : Nat} {S : mq_St} {res : Int32} {k2 : Int32 → Option (Int32)} (C : mq_C p s m args c A D cI cL cB cZ cX11_firstSelf 2 RX11 zc_X11_firstSelf) (hret : ∀ (H : Heap) (locs : List Loc) (ls : Array Slot) (pc : Nat), decode cX11_firstSelf pc = .ok (.ireturn, 1) → va_P D vwCl (wd_R a cI cL cB cZ z S) H → va_D A (wd_R a cI cL cB cZ z S) → va_S A s.heap H locs → W p l e zr_X11_firstSelf s m args below meth c H locs 0 0 Q (F0 m pc ls [.int res])) (hk2 : ∀ (v1 : Int32) (H : Heap) (locs : List Loc) (ls : Array Slot), k2 v1 = some res → lv_has ls 2 [(0, .ref (a 0)), (1, .int (v1))] → va_P D vwCl (wd_R a cI cL cB cZ z S) H → va_D A (wd_R a cI cL cB cZ z S) → va_S A s.heap H locs → W p l e zr_X11_firstSelf s m args below meth c H locs 0 0 Q (F0 m 2 ls [])) (v1 : Int32) (H : Heap) (locs : List Loc) (ls : Array Slot) (h : zf_X11_firstSelf_2b N z S k2 v1 = some res) (hl : lv_has ls 2 [(0, .ref (a 0)), (1, .int (v1))]) (hP : va_P D vwCl (wd_R a cI cL cB cZ z S) H) (hD : va_D A (wd_R a cI cL cB cZ z S)) (hS : va_S A s.heap H locs) : W p l e zr_X11_firstSelf s m args below meth c H locs 0 0 Q (F0 m 2 ls []) := by
  obtain ⟨hx, hb, hml, hown, hts, hK, hA⟩ := id C
  unfold zf_X11_firstSelf_2b at h
  refine lv_iload_n hx hb dX11_firstSelf_2 rfl (lv_at hl 1 rfl) ?_
  refine lv_aload_n hx hb dX11_firstSelf_3 rfl (lv_at hl 0 rfl) ?_
  refine va_get (D := D) (ci := 11) (v := .int ((S.1 3))) (C := RX11) (T := TX11) (N := 76) hx hb hts (zi_X11 _) hown hK hP 0 rfl rfl 8 (by decide) (hts _ (List.mem_cons_of_mem _ zt_f_X11_26)) (fun _ h9 => h9) rfl dX11_firstSelf_4 ?_
  refine lv_icmp_ge (tgt := 58) hx hb dX11_firstSelf_7 (by decide) (fun c11 => ?_) (fun c11 => ?_)
  · replace h := mq_it c11 h
    refine lv_iconst (v := (-1 : Int32)) hx hb dX11_firstSelf_58 (by decide) ?_
    cases h
    exact hret H locs ls 59 dX11_firstSelf_59 hP hD hS
  · replace h := mq_if c11 h
    refine lv_aload_n hx hb dX11_firstSelf_10 rfl (lv_at hl 0 rfl) ?_
    refine va_get (D := D) (ci := 11) (v := .ref (a 3)) (C := RX11) (T := TX11) (N := 76) hx hb hts (zi_X11 _) hown hK hP 0 rfl rfl 5 (by decide) (hts _ (List.mem_cons_of_mem _ zt_f_X11_16)) (fun _ h9 => h9) rfl dX11_firstSelf_11 ?_
    refine lv_iload_n hx hb dX11_firstSelf_14 rfl (lv_at hl 1 rfl) ?_
    have hi2 := mq_ck_in h
    replace h := mq_ck_go h
    refine va_iald (f := S.2.1 2) hx hb hK hP 3 0 rfl rfl hi2 dX11_firstSelf_15 ?_
    refine lv_bipush (v := (6 : Int32)) hx hb dX11_firstSelf_16 (by decide) ?_
    refine lv_icmp_ne (tgt := 52) hx hb dX11_firstSelf_18 (by decide) (fun c10 => ?_) (fun c10 => ?_)
    · replace h := mq_if c10 h
      exact zw_X11_firstSelf_52 C hret hk2 (v1) H locs ls h (lv_sub hl [0, 1] rfl) hP hD hS
    · replace h := mq_it (by simpa using c10) h
      refine lv_aload_n hx hb dX11_firstSelf_21 rfl (lv_at hl 0 rfl) ?_
      refine va_get (D := D) (ci := 11) (v := .ref (a 18)) (C := RX11) (T := TX11) (N := 76) hx hb hts (zi_X11 _) hown hK hP 0 rfl rfl 35 (by decide) (hts _ (List.mem_cons_of_mem _ zt_f_X11_69)) (fun _ h9 => h9) rfl dX11_firstSelf_22 ?_
      refine lv_iconst (v := (0 : Int32)) hx hb dX11_firstSelf_25 (by decide) ?_
      refine lv_iload_n hx hb dX11_firstSelf_26 rfl (lv_at hl 1 rfl) ?_
      obtain ⟨q3, hc4, h⟩ := mq_cp_go h
      refine zv_X11_isIn (a := mq_ad a [18]) (z := (fun k => [10].getD k 0)) [18] C zt_m_X11_273 ⟨by decide, by decide⟩ hc4 rfl (by decide) hP hD hS hl.1 (Nat.le_of_ble_eq_true rfl) dX11_firstSelf_27 (fun H locs hP hD hS => ?_)
      refine lv_if_eq (tgt := 52) hx hb dX11_firstSelf_30 (by decide) (fun c9 => ?_) (fun c9 => ?_)
      · replace h := mq_it c9 h
        exact zw_X11_firstSelf_52 C hret hk2 (v1) H locs ls h (lv_sub hl [0, 1] rfl) hP hD hS
      · replace h := mq_if c9 h
        refine lv_aload_n hx hb dX11_firstSelf_33 rfl (lv_at hl 0 rfl) ?_
        refine va_get (D := D) (ci := 11) (v := .ref (a 18)) (C := RX11) (T := TX11) (N := 76) hx hb hts (zi_X11 _) hown hK hP 0 rfl rfl 35 (by decide) (hts _ (List.mem_cons_of_mem _ zt_f_X11_69)) (fun _ h9 => h9) rfl dX11_firstSelf_34 ?_
        refine lv_iconst (v := (0 : Int32)) hx hb dX11_firstSelf_37 (by decide) ?_
        refine lv_aload_n hx hb dX11_firstSelf_38 rfl (lv_at hl 0 rfl) ?_
        refine va_get (D := D) (ci := 11) (v := .ref (a 4)) (C := RX11) (T := TX11) (N := 76) hx hb hts (zi_X11 _) hown hK hP 0 rfl rfl 6 (by decide) (hts _ (List.mem_cons_of_mem _ zt_f_X11_20)) (fun _ h9 => h9) rfl dX11_firstSelf_39 ?_
        refine lv_iload_n hx hb dX11_firstSelf_42 rfl (lv_at hl 1 rfl) ?_
        have hi5 := mq_ck_in h
        replace h := mq_ck_go h
        refine va_iald (f := S.2.1 3) hx hb hK hP 4 0 rfl rfl hi5 dX11_firstSelf_43 ?_
        obtain ⟨q6, hc7, h⟩ := mq_cp_go h
        refine zv_X11_isIn (a := mq_ad a [18]) (z := (fun k => [10].getD k 0)) [18] C zt_m_X11_273 ⟨by decide, by decide⟩ hc7 rfl (by decide) hP hD hS hl.1 (Nat.le_of_ble_eq_true rfl) dX11_firstSelf_44 (fun H locs hP hD hS => ?_)
        refine lv_if_ne (tgt := 52) hx hb dX11_firstSelf_47 (by decide) (fun c8 => ?_) (fun c8 => ?_)
        · replace h := mq_if c8 h
          exact zw_X11_firstSelf_52 C hret hk2 (v1) H locs ls h (lv_sub hl [0, 1] rfl) hP hD hS
        · replace h := mq_it (by simpa using c8) h
          refine lv_iload_n hx hb dX11_firstSelf_50 rfl (lv_at hl 1 rfl) ?_
          cases h
          exact hret H locs ls 51 dX11_firstSelf_51 hP hD hS
set_option maxHeartbeats 4000000 in
set_option maxRecDepth 100000 in
theorem zw_X11_firstSelf_2 {p : Program} {l : Launch} {e : Env} {s : State} {m : MethodId} {args : Array Value} {below : List Frame} {meth : Method} {c : Code} {A : Nat → Prop} {D : va_G} {a z : Nat → Nat} {cI cL cB cZ : ClassId} {Q : State → Prop} {N : Nat} {S : mq_St} {res : Int32} (C : mq_C p s m args c A D cI cL cB cZ cX11_firstSelf 2 RX11 zc_X11_firstSelf) (hret : ∀ (H : Heap) (locs : List Loc) (ls : Array Slot) (pc : Nat), decode cX11_firstSelf pc = .ok (.ireturn, 1) → va_P D vwCl (wd_R a cI cL cB cZ z S) H → va_D A (wd_R a cI cL cB cZ z S) → va_S A s.heap H locs → W p l e zr_X11_firstSelf s m args below meth c H locs 0 0 Q (F0 m pc ls [.int res])) : ∀ (n : Nat) (v1 : Int32) (H : Heap) (locs : List Loc) (ls : Array Slot) (h : zf_X11_firstSelf_2 N z S n v1 = some res) (hl : lv_has ls 2 [(0, .ref (a 0)), (1, .int (v1))]) (hP : va_P D vwCl (wd_R a cI cL cB cZ z S) H) (hD : va_D A (wd_R a cI cL cB cZ z S)) (hS : va_S A s.heap H locs), W p l e zr_X11_firstSelf s m args below meth c H locs 0 0 Q (F0 m 2 ls []) := by
  intro n
  induction n with
  | zero =>
    intro v1 H locs ls h hl hP hD hS
    exact nomatch (show (none : Option (Int32)) = some res from h)
  | succ n ih =>
    intro v1 H locs ls h hl hP hD hS
    exact zw_X11_firstSelf_2b C hret (fun v1 H locs ls h hl hP hD hS => ih v1 H locs ls h hl hP hD hS) v1 H locs ls h hl hP hD hS
set_option maxHeartbeats 4000000 in
set_option maxRecDepth 100000 in
theorem zw_X11_firstSelf_0 {p : Program} {l : Launch} {e : Env} {s : State} {m : MethodId} {args : Array Value} {below : List Frame} {meth : Method} {c : Code} {A : Nat → Prop} {D : va_G} {a z : Nat → Nat} {cI cL cB cZ : ClassId} {Q : State → Prop} {N : Nat} {S : mq_St} {res : Int32} (C : mq_C p s m args c A D cI cL cB cZ cX11_firstSelf 2 RX11 zc_X11_firstSelf) (hret : ∀ (H : Heap) (locs : List Loc) (ls : Array Slot) (pc : Nat), decode cX11_firstSelf pc = .ok (.ireturn, 1) → va_P D vwCl (wd_R a cI cL cB cZ z S) H → va_D A (wd_R a cI cL cB cZ z S) → va_S A s.heap H locs → W p l e zr_X11_firstSelf s m args below meth c H locs 0 0 Q (F0 m pc ls [.int res])) (H : Heap) (locs : List Loc) (ls : Array Slot) (h : zf_X11_firstSelf N z S = some res) (hl : lv_has ls 2 [(0, .ref (a 0))]) (hP : va_P D vwCl (wd_R a cI cL cB cZ z S) H) (hD : va_D A (wd_R a cI cL cB cZ z S)) (hS : va_S A s.heap H locs) : W p l e zr_X11_firstSelf s m args below meth c H locs 0 0 Q (F0 m 0 ls []) := by
  obtain ⟨hx, hb, hml, hown, hts, hK, hA⟩ := id C
  unfold zf_X11_firstSelf at h
  refine lv_iconst (v := (2 : Int32)) hx hb dX11_firstSelf_0 (by decide) ?_
  refine lv_topi (fun x1 ex1 => ?_)
  replace h := mq_nI_go ex1 h
  refine lv_istore_n (lv' := [(1, .int (x1)), (0, .ref (a 0))]) hx hb dX11_firstSelf_1 rfl hl (by decide) rfl (fun ls hl => ?_)
  exact zw_X11_firstSelf_2 C hret N (x1) H locs ls h (lv_sub hl [1, 0] rfl) hP hD hS
set_option maxHeartbeats 4000000 in
set_option maxRecDepth 100000 in
theorem zm_X11_firstSelf (l : Launch) (D : va_G) (a z : Nat → Nat) (cI cL cB cZ : ClassId) (sz N : Nat) (S : mq_St) (res : Int32) (h : zf_X11_firstSelf N z S = some res) : Met l yX11_firstSelf (zc_X11_firstSelf :: mq_T) zr_X11_firstSelf (va_Pc [.ref (a 0)] (fun U => U.heap.size = sz ∧ va_P D vwCl (wd_R a cI cL cB cZ z S) U.heap ∧ va_K D vwCl (mq_tys cI cL cB cZ) U ∧ va_D (fun _ => True) (wd_R a cI cL cB cZ z S))) (va_Qi (fun (r : Int32) (u : mq_St) => r = res ∧ u = S) (fun u t => va_P D vwCl (wd_R a cI cL cB cZ z u) t.heap ∧ va_K D vwCl (mq_tys cI cL cB cZ) t ∧ va_D (va_A (wd_R a cI cL cB cZ z S) sz) (wd_R a cI cL cB cZ z u)) (va_A (wd_R a cI cL cB cZ z S) sz)) 0 0 (va_A (wd_R a cI cL cB cZ z S) sz) := by
  refine Met.ofW (cc := cX11_firstSelf) (maxL := 2) (ret := (some .int)) (by decide) rfl ?_
  intro p e s m args below meth c s₁ B hml hv
  obtain ⟨rfl, hsz, hP, hK, hD0⟩ := hv
  have hr := B.returns
  have hlocks := B.notSynchronized
  have hts := atoms_spec (ws := zc_X11_firstSelf :: mq_T) B.pre
  have hown : s.vm.findClass RX11 = some m.cls := findClass_of_methodNamed B.named
  subst hsz
  have hD := hD0.self (sz := s.heap.size)
  generalize hAe : va_A (wd_R a cI cL cB cZ z S) s.heap.size = A at hD ⊢
  have hA : ∀ q : Nat, s.heap.size ≤ q → A q := fun q h => by rw [← hAe]; exact Or.inr h
  have hl := lv_entry ([.ref (a 0)]) (n := 2) (Nat.le_of_ble_eq_true rfl)
  rw [lg_entry_eq]
  generalize (lg_sl ([.ref (a 0)]) ++ List.replicate (2 - (lg_sl ([.ref (a 0)])).length) Slot.unset).toArray = ls at hl ⊢
  have hl : lv_has ls 2 [(0, .ref (a 0))] := hl
  refine zw_X11_firstSelf_0 (A := A) ⟨B.exec, B.bytes, hml, hown, hts, hK, hA⟩ (fun H locs ls pc dg hP hD hS => ?_) s.heap [] ls h hl hP hD va_S.rf
  exact W.iret B.exec B.bytes hr (fun t ht hW => ⟨⟨_, _, rfl, ⟨rfl, rfl⟩, by rw [ht]; exact hP, va_K.moved hW.alike hK, hD⟩, hS.F ht⟩) hS.2.2 dg
theorem zt_X11_firstSelf_c : zc_X11_firstSelf ∈ mq_T := mq_T_mem (mq_t7 (List.mem_of_getElem? (i := 95) rfl)) rfl
theorem zt_X11_firstSelf_i : Cond.instanceMethod yX11_firstSelf ∈ mq_T := mq_T_mem (mq_t7 (List.mem_of_getElem? (i := 94) rfl)) rfl
theorem zt_X11_firstSelf_s : Cond.selects RX11 yX11_firstSelf yX11_firstSelf ∈ mq_T := mq_T_at 93 (by decide +kernel)
set_option maxHeartbeats 4000000 in
theorem zk_X11_firstSelf {p : Program} {l : Launch} {e : Env} {R : Room} {s : State} {m : MethodId} {args : Array Value} {below : List Frame} {meth : Method} {c : Code} {A : Nat → Prop} {D : va_G} {a z : Nat → Nat} {cI cL cB cZ : ClassId} {Q : State → Prop} {cc : ByteArray} {nL idx pc N : Nat} {own : String} {c1 : Cond} {H : Heap} {locs : List Loc} {ls : Array Slot} {rest : List Value} {S : mq_St} {res : Int32} (C : mq_C p s m args c A D cI cL cB cZ cc nL own c1) (hlk : Cond.methodLink own idx yX11_firstSelf ∈ mq_T) (hR : zr_X11_firstSelf.frames + 1 ≤ R.frames ∧ 8 + (2 + 11) + zr_X11_firstSelf.locals ≤ R.locals) (h : zf_X11_firstSelf N z S = some res) (hP : va_P D vwCl (wd_R a cI cL cB cZ z S) H) (hD : va_D A (wd_R a cI cL cB cZ z S)) (hS : va_S A s.heap H locs) (hls : ls.size = nL) (hrest : (rest.map fun v => v.category).sum ≤ 8) (hdg : decode cc pc = .ok (.invokevirtual idx, 3)) (kk : ∀ (H1 : Heap) (locs1 : List Loc), va_P D vwCl (wd_R a cI cL cB cZ z S) H1 → va_D A (wd_R a cI cL cB cZ z S) → va_S A s.heap H1 locs1 → W p l e R s m args below meth c H1 locs1 0 0 Q (F0 m (pc + 3) ls (.int res :: rest))) : W p l e R s m args below meth c H locs 0 0 Q (F0 m pc ls (.ref (a 0) :: rest)) := by
  obtain ⟨hx, hb, hml, hown, hts, hK, hA⟩ := C
  have hFc := mq_freeI hD hS hA
  refine va_calli (va_runV (As := []) (rest := rest) ⟨hx, hb, hml, hown, hts⟩ (zm_X11_firstSelf l D a z cI cL cB cZ H.size N S res h) (cwV 0 hts (mq_goodL (mq_wsV hlk zt_X11_firstSelf_i zt_X11_firstSelf_s zt_ini_X11 zt_X11_firstSelf_c)) rfl rfl rfl (by decide +kernel) hR) ⟨fun a U g mk q => ⟨q.1, q.2.1, q.2.2.1, va_K.moved (u := U) (U := U.calling g mk a) (Vm.Alike.refl U.vm) q.2.2.2.1, q.2.2.2.2⟩, zy_R_0 hK hP, fun U hU hW => ⟨rfl, by rw [hU], by rw [hU]; exact hP, va_K.moved hW.alike hK, hD.weaken (fun _ _ _ _ => trivial)⟩⟩ rfl rfl hls rfl (lv_room hrest) hdg ⟨Nat.zero_le _, Nat.zero_le _⟩) hS (fun q _ h => hFc q h) hFc (fun r u t H1 locs ht hvm hw hB hz1 hk1 hS => ?_)
  obtain ⟨rfl, rfl⟩ := hw
  obtain ⟨hP1, hK1, hD1⟩ := hB
  rw [ht] at hP1
  exact kk H1 locs hP1 (hD1.weaken (fun _ _ _ h => hFc _ h)) hS
/-! ModalDeskModel.firstEither()I -/
def zr_X11_firstEither : Room := { frames := 1, cells := 0, slots := 0, locals := 22 }
def zc_X11_firstEither : Cond := .code yX11_firstEither cX11_firstEither 2 (some .int)
def zf_X11_firstEither_68 (N : Nat) (z : Nat → Nat) (S : mq_St) (k2 : Int32 → Option (Int32)) (v1 : Int32) : Option (Int32) := (mq_nI (v1 + (1 : Int32)) (fun x16 => (k2 (x16))))
def zf_X11_firstEither_2b (N : Nat) (z : Nat → Nat) (S : mq_St) (k2 : Int32 → Option (Int32)) (v1 : Int32) : Option (Int32) := (if (S.1 3) ≤ v1 then (some ((-1 : Int32))) else (mq_ck (v1) 300 (if (S.2.1 2 (v1).toNatClampNeg) = (5 : Int32) then (mq_cp (zf_X11_isIn N (fun k => [10].getD k 0) ((0 : Int32)) (v1) (mq_pull S [] [17] [])) (fun q3 => (if q3 = (0 : Int32) then (zf_X11_firstEither_68 N z S k2 (v1)) else (mq_ck (v1) 300 (mq_cp (zf_X11_isIn N (fun k => [10].getD k 0) ((0 : Int32)) ((S.2.1 3 (v1).toNatClampNeg)) (mq_pull S [] [17] [])) (fun q6 => (if q6 = (0 : Int32) then (mq_ck (v1) 300 (mq_cp (zf_X11_isIn N (fun k => [10].getD k 0) ((0 : Int32)) ((S.2.1 4 (v1).toNatClampNeg)) (mq_pull S [] [17] [])) (fun q9 => (if q9 = (0 : Int32) then (some (v1)) else (zf_X11_firstEither_68 N z S k2 (v1)))))) else (zf_X11_firstEither_68 N z S k2 (v1))))))))) else (zf_X11_firstEither_68 N z S k2 (v1)))))
def zf_X11_firstEither_2 (N : Nat) (z : Nat → Nat) (S : mq_St) : Nat → Int32 → Option (Int32)
  | 0, _ => none
  | n + 1, v1 => zf_X11_firstEither_2b N z S (fun v1 => zf_X11_firstEither_2 N z S n v1) v1
def zf_X11_firstEither (N : Nat) (z : Nat → Nat) (S : mq_St) : Option (Int32) := (mq_nI ((2 : Int32)) (fun x1 => (zf_X11_firstEither_2 N z S N (x1))))
set_option maxHeartbeats 4000000 in
set_option maxRecDepth 100000 in
theorem zw_X11_firstEither_68 {p : Program} {l : Launch} {e : Env} {s : State} {m : MethodId} {args : Array Value} {below : List Frame} {meth : Method} {c : Code} {A : Nat → Prop} {D : va_G} {a z : Nat → Nat} {cI cL cB cZ : ClassId} {Q : State → Prop} {N : Nat} {S : mq_St} {res : Int32} {k2 : Int32 → Option (Int32)} (C : mq_C p s m args c A D cI cL cB cZ cX11_firstEither 2 RX11 zc_X11_firstEither) (hret : ∀ (H : Heap) (locs : List Loc) (ls : Array Slot) (pc : Nat), decode cX11_firstEither pc = .ok (.ireturn, 1) → va_P D vwCl (wd_R a cI cL cB cZ z S) H → va_D A (wd_R a cI cL cB cZ z S) → va_S A s.heap H locs → W p l e zr_X11_firstEither s m args below meth c H locs 0 0 Q (F0 m pc ls [.int res])) (hk2 : ∀ (v1 : Int32) (H : Heap) (locs : List Loc) (ls : Array Slot), k2 v1 = some res → lv_has ls 2 [(0, .ref (a 0)), (1, .int (v1))] → va_P D vwCl (wd_R a cI cL cB cZ z S) H → va_D A (wd_R a cI cL cB cZ z S) → va_S A s.heap H locs → W p l e zr_X11_firstEither s m args below meth c H locs 0 0 Q (F0 m 2 ls [])) (v1 : Int32) (H : Heap) (locs : List Loc) (ls : Array Slot) (h : zf_X11_firstEither_68 N z S k2 v1 = some res) (hl : lv_has ls 2 [(0, .ref (a 0)), (1, .int (v1))]) (hP : va_P D vwCl (wd_R a cI cL cB cZ z S) H) (hD : va_D A (wd_R a cI cL cB cZ z S)) (hS : va_S A s.heap H locs) : W p l e zr_X11_firstEither s m args below meth c H locs 0 0 Q (F0 m 68 ls []) := by
  obtain ⟨hx, hb, hml, hown, hts, hK, hA⟩ := id C
  unfold zf_X11_firstEither_68 at h
  obtain ⟨x16, ex16⟩ : ∃ y : Int32, y = v1 + (1 : Int32) := ⟨_, rfl⟩
  replace h := mq_nI_go ex16 h
  refine lv_iinc (v := x16) (lv' := [(1, .int (x16)), (0, .ref (a 0))]) hx hb dX11_firstEither_68 hl (k := 1) rfl (by rw [ex16]; rfl) (by decide) rfl (fun ls hl => ?_)
  refine lv_goto (tgt := 2) hx hb dX11_firstEither_71 (by decide) ?_
  exact hk2 (x16) H locs ls h (lv_sub hl [1, 0] rfl) hP hD hS
set_option maxHeartbeats 4000000 in
set_option maxRecDepth 100000 in
theorem zw_X11_firstEither_2b {p : Program} {l : Launch} {e : Env} {s : State} {m : MethodId} {args : Array Value} {below : List Frame} {meth : Method} {c : Code} {A : Nat → Prop} {D : va_G} {a z : Nat → Nat} {cI cL cB cZ : ClassId} {Q : State → Prop} {N : Nat} {S : mq_St} {res : Int32} {k2 : Int32 → Option (Int32)} (C : mq_C p s m args c A D cI cL cB cZ cX11_firstEither 2 RX11 zc_X11_firstEither) (hret : ∀ (H : Heap) (locs : List Loc) (ls : Array Slot) (pc : Nat), decode cX11_firstEither pc = .ok (.ireturn, 1) → va_P D vwCl (wd_R a cI cL cB cZ z S) H → va_D A (wd_R a cI cL cB cZ z S) → va_S A s.heap H locs → W p l e zr_X11_firstEither s m args below meth c H locs 0 0 Q (F0 m pc ls [.int res])) (hk2 : ∀ (v1 : Int32) (H : Heap) (locs : List Loc) (ls : Array Slot), k2 v1 = some res → lv_has ls 2 [(0, .ref (a 0)), (1, .int (v1))] → va_P D vwCl (wd_R a cI cL cB cZ z S) H → va_D A (wd_R a cI cL cB cZ z S) → va_S A s.heap H locs → W p l e zr_X11_firstEither s m args below meth c H locs 0 0 Q (F0 m 2 ls [])) (v1 : Int32) (H : Heap) (locs : List Loc) (ls : Array Slot) (h : zf_X11_firstEither_2b N z S k2 v1 = some res) (hl : lv_has ls 2 [(0, .ref (a 0)), (1, .int (v1))]) (hP : va_P D vwCl (wd_R a cI cL cB cZ z S) H) (hD : va_D A (wd_R a cI cL cB cZ z S)) (hS : va_S A s.heap H locs) : W p l e zr_X11_firstEither s m args below meth c H locs 0 0 Q (F0 m 2 ls []) := by
  obtain ⟨hx, hb, hml, hown, hts, hK, hA⟩ := id C
  unfold zf_X11_firstEither_2b at h
  refine lv_iload_n hx hb dX11_firstEither_2 rfl (lv_at hl 1 rfl) ?_
  refine lv_aload_n hx hb dX11_firstEither_3 rfl (lv_at hl 0 rfl) ?_
  refine va_get (D := D) (ci := 11) (v := .int ((S.1 3))) (C := RX11) (T := TX11) (N := 76) hx hb hts (zi_X11 _) hown hK hP 0 rfl rfl 8 (by decide) (hts _ (List.mem_cons_of_mem _ zt_f_X11_26)) (fun _ h9 => h9) rfl dX11_firstEither_4 ?_
  refine lv_icmp_ge (tgt := 74) hx hb dX11_firstEither_7 (by decide) (fun c15 => ?_) (fun c15 => ?_)
  · replace h := mq_it c15 h
    refine lv_iconst (v := (-1 : Int32)) hx hb dX11_firstEither_74 (by decide) ?_
    cases h
    exact hret H locs ls 75 dX11_firstEither_75 hP hD hS
  · replace h := mq_if c15 h
    refine lv_aload_n hx hb dX11_firstEither_10 rfl (lv_at hl 0 rfl) ?_
    refine va_get (D := D) (ci := 11) (v := .ref (a 3)) (C := RX11) (T := TX11) (N := 76) hx hb hts (zi_X11 _) hown hK hP 0 rfl rfl 5 (by decide) (hts _ (List.mem_cons_of_mem _ zt_f_X11_16)) (fun _ h9 => h9) rfl dX11_firstEither_11 ?_
    refine lv_iload_n hx hb dX11_firstEither_14 rfl (lv_at hl 1 rfl) ?_
    have hi2 := mq_ck_in h
    replace h := mq_ck_go h
    refine va_iald (f := S.2.1 2) hx hb hK hP 3 0 rfl rfl hi2 dX11_firstEither_15 ?_
    refine lv_iconst (v := (5 : Int32)) hx hb dX11_firstEither_16 (by decide) ?_
    refine lv_icmp_ne (tgt := 68) hx hb dX11_firstEither_17 (by decide) (fun c14 => ?_) (fun c14 => ?_)
    · replace h := mq_if c14 h
      exact zw_X11_firstEither_68 C hret hk2 (v1) H locs ls h (lv_sub hl [0, 1] rfl) hP hD hS
    · replace h := mq_it (by simpa using c14) h
      refine lv_aload_n hx hb dX11_firstEither_20 rfl (lv_at hl 0 rfl) ?_
      refine va_get (D := D) (ci := 11) (v := .ref (a 18)) (C := RX11) (T := TX11) (N := 76) hx hb hts (zi_X11 _) hown hK hP 0 rfl rfl 35 (by decide) (hts _ (List.mem_cons_of_mem _ zt_f_X11_69)) (fun _ h9 => h9) rfl dX11_firstEither_21 ?_
      refine lv_iconst (v := (0 : Int32)) hx hb dX11_firstEither_24 (by decide) ?_
      refine lv_iload_n hx hb dX11_firstEither_25 rfl (lv_at hl 1 rfl) ?_
      obtain ⟨q3, hc4, h⟩ := mq_cp_go h
      refine zv_X11_isIn (a := mq_ad a [18]) (z := (fun k => [10].getD k 0)) [18] C zt_m_X11_273 ⟨by decide, by decide⟩ hc4 rfl (by decide) hP hD hS hl.1 (Nat.le_of_ble_eq_true rfl) dX11_firstEither_26 (fun H locs hP hD hS => ?_)
      refine lv_if_eq (tgt := 68) hx hb dX11_firstEither_29 (by decide) (fun c13 => ?_) (fun c13 => ?_)
      · replace h := mq_it c13 h
        exact zw_X11_firstEither_68 C hret hk2 (v1) H locs ls h (lv_sub hl [0, 1] rfl) hP hD hS
      · replace h := mq_if c13 h
        refine lv_aload_n hx hb dX11_firstEither_32 rfl (lv_at hl 0 rfl) ?_
        refine va_get (D := D) (ci := 11) (v := .ref (a 18)) (C := RX11) (T := TX11) (N := 76) hx hb hts (zi_X11 _) hown hK hP 0 rfl rfl 35 (by decide) (hts _ (List.mem_cons_of_mem _ zt_f_X11_69)) (fun _ h9 => h9) rfl dX11_firstEither_33 ?_
        refine lv_iconst (v := (0 : Int32)) hx hb dX11_firstEither_36 (by decide) ?_
        refine lv_aload_n hx hb dX11_firstEither_37 rfl (lv_at hl 0 rfl) ?_
        refine va_get (D := D) (ci := 11) (v := .ref (a 4)) (C := RX11) (T := TX11) (N := 76) hx hb hts (zi_X11 _) hown hK hP 0 rfl rfl 6 (by decide) (hts _ (List.mem_cons_of_mem _ zt_f_X11_20)) (fun _ h9 => h9) rfl dX11_firstEither_38 ?_
        refine lv_iload_n hx hb dX11_firstEither_41 rfl (lv_at hl 1 rfl) ?_
        have hi5 := mq_ck_in h
        replace h := mq_ck_go h
        refine va_iald (f := S.2.1 3) hx hb hK hP 4 0 rfl rfl hi5 dX11_firstEither_42 ?_
        obtain ⟨q6, hc7, h⟩ := mq_cp_go h
        refine zv_X11_isIn (a := mq_ad a [18]) (z := (fun k => [10].getD k 0)) [18] C zt_m_X11_273 ⟨by decide, by decide⟩ hc7 rfl (by decide) hP hD hS hl.1 (Nat.le_of_ble_eq_true rfl) dX11_firstEither_43 (fun H locs hP hD hS => ?_)
        refine lv_if_ne (tgt := 68) hx hb dX11_firstEither_46 (by decide) (fun c12 => ?_) (fun c12 => ?_)
        · replace h := mq_if c12 h
          exact zw_X11_firstEither_68 C hret hk2 (v1) H locs ls h (lv_sub hl [0, 1] rfl) hP hD hS
        · replace h := mq_it (by simpa using c12) h
          refine lv_aload_n hx hb dX11_firstEither_49 rfl (lv_at hl 0 rfl) ?_
          refine va_get (D := D) (ci := 11) (v := .ref (a 18)) (C := RX11) (T := TX11) (N := 76) hx hb hts (zi_X11 _) hown hK hP 0 rfl rfl 35 (by decide) (hts _ (List.mem_cons_of_mem _ zt_f_X11_69)) (fun _ h9 => h9) rfl dX11_firstEither_50 ?_
          refine lv_iconst (v := (0 : Int32)) hx hb dX11_firstEither_53 (by decide) ?_
          refine lv_aload_n hx hb dX11_firstEither_54 rfl (lv_at hl 0 rfl) ?_
          refine va_get (D := D) (ci := 11) (v := .ref (a 5)) (C := RX11) (T := TX11) (N := 76) hx hb hts (zi_X11 _) hown hK hP 0 rfl rfl 7 (by decide) (hts _ (List.mem_cons_of_mem _ zt_f_X11_23)) (fun _ h9 => h9) rfl dX11_firstEither_55 ?_
          refine lv_iload_n hx hb dX11_firstEither_58 rfl (lv_at hl 1 rfl) ?_
          have hi8 := mq_ck_in h
          replace h := mq_ck_go h
          refine va_iald (f := S.2.1 4) hx hb hK hP 5 0 rfl rfl hi8 dX11_firstEither_59 ?_
          obtain ⟨q9, hc10, h⟩ := mq_cp_go h
          refine zv_X11_isIn (a := mq_ad a [18]) (z := (fun k => [10].getD k 0)) [18] C zt_m_X11_273 ⟨by decide, by decide⟩ hc10 rfl (by decide) hP hD hS hl.1 (Nat.le_of_ble_eq_true rfl) dX11_firstEither_60 (fun H locs hP hD hS => ?_)
          refine lv_if_ne (tgt := 68) hx hb dX11_firstEither_63 (by decide) (fun c11 => ?_) (fun c11 => ?_)
          · replace h := mq_if c11 h
            exact zw_X11_firstEither_68 C hret hk2 (v1) H locs ls h (lv_sub hl [0, 1] rfl) hP hD hS
          · replace h := mq_it (by simpa using c11) h
            refine lv_iload_n hx hb dX11_firstEither_66 rfl (lv_at hl 1 rfl) ?_
            cases h
            exact hret H locs ls 67 dX11_firstEither_67 hP hD hS
set_option maxHeartbeats 4000000 in
set_option maxRecDepth 100000 in
theorem zw_X11_firstEither_2 {p : Program} {l : Launch} {e : Env} {s : State} {m : MethodId} {args : Array Value} {below : List Frame} {meth : Method} {c : Code} {A : Nat → Prop} {D : va_G} {a z : Nat → Nat} {cI cL cB cZ : ClassId} {Q : State → Prop} {N : Nat} {S : mq_St} {res : Int32} (C : mq_C p s m args c A D cI cL cB cZ cX11_firstEither 2 RX11 zc_X11_firstEither) (hret : ∀ (H : Heap) (locs : List Loc) (ls : Array Slot) (pc : Nat), decode cX11_firstEither pc = .ok (.ireturn, 1) → va_P D vwCl (wd_R a cI cL cB cZ z S) H → va_D A (wd_R a cI cL cB cZ z S) → va_S A s.heap H locs → W p l e zr_X11_firstEither s m args below meth c H locs 0 0 Q (F0 m pc ls [.int res])) : ∀ (n : Nat) (v1 : Int32) (H : Heap) (locs : List Loc) (ls : Array Slot) (h : zf_X11_firstEither_2 N z S n v1 = some res) (hl : lv_has ls 2 [(0, .ref (a 0)), (1, .int (v1))]) (hP : va_P D vwCl (wd_R a cI cL cB cZ z S) H) (hD : va_D A (wd_R a cI cL cB cZ z S)) (hS : va_S A s.heap H locs), W p l e zr_X11_firstEither s m args below meth c H locs 0 0 Q (F0 m 2 ls []) := by
  intro n
  induction n with
  | zero =>
    intro v1 H locs ls h hl hP hD hS
    exact nomatch (show (none : Option (Int32)) = some res from h)
  | succ n ih =>
    intro v1 H locs ls h hl hP hD hS
    exact zw_X11_firstEither_2b C hret (fun v1 H locs ls h hl hP hD hS => ih v1 H locs ls h hl hP hD hS) v1 H locs ls h hl hP hD hS
set_option maxHeartbeats 4000000 in
set_option maxRecDepth 100000 in
theorem zw_X11_firstEither_0 {p : Program} {l : Launch} {e : Env} {s : State} {m : MethodId} {args : Array Value} {below : List Frame} {meth : Method} {c : Code} {A : Nat → Prop} {D : va_G} {a z : Nat → Nat} {cI cL cB cZ : ClassId} {Q : State → Prop} {N : Nat} {S : mq_St} {res : Int32} (C : mq_C p s m args c A D cI cL cB cZ cX11_firstEither 2 RX11 zc_X11_firstEither) (hret : ∀ (H : Heap) (locs : List Loc) (ls : Array Slot) (pc : Nat), decode cX11_firstEither pc = .ok (.ireturn, 1) → va_P D vwCl (wd_R a cI cL cB cZ z S) H → va_D A (wd_R a cI cL cB cZ z S) → va_S A s.heap H locs → W p l e zr_X11_firstEither s m args below meth c H locs 0 0 Q (F0 m pc ls [.int res])) (H : Heap) (locs : List Loc) (ls : Array Slot) (h : zf_X11_firstEither N z S = some res) (hl : lv_has ls 2 [(0, .ref (a 0))]) (hP : va_P D vwCl (wd_R a cI cL cB cZ z S) H) (hD : va_D A (wd_R a cI cL cB cZ z S)) (hS : va_S A s.heap H locs) : W p l e zr_X11_firstEither s m args below meth c H locs 0 0 Q (F0 m 0 ls []) := by
  obtain ⟨hx, hb, hml, hown, hts, hK, hA⟩ := id C
  unfold zf_X11_firstEither at h
  refine lv_iconst (v := (2 : Int32)) hx hb dX11_firstEither_0 (by decide) ?_
  refine lv_topi (fun x1 ex1 => ?_)
  replace h := mq_nI_go ex1 h
  refine lv_istore_n (lv' := [(1, .int (x1)), (0, .ref (a 0))]) hx hb dX11_firstEither_1 rfl hl (by decide) rfl (fun ls hl => ?_)
  exact zw_X11_firstEither_2 C hret N (x1) H locs ls h (lv_sub hl [1, 0] rfl) hP hD hS
set_option maxHeartbeats 4000000 in
set_option maxRecDepth 100000 in
theorem zm_X11_firstEither (l : Launch) (D : va_G) (a z : Nat → Nat) (cI cL cB cZ : ClassId) (sz N : Nat) (S : mq_St) (res : Int32) (h : zf_X11_firstEither N z S = some res) : Met l yX11_firstEither (zc_X11_firstEither :: mq_T) zr_X11_firstEither (va_Pc [.ref (a 0)] (fun U => U.heap.size = sz ∧ va_P D vwCl (wd_R a cI cL cB cZ z S) U.heap ∧ va_K D vwCl (mq_tys cI cL cB cZ) U ∧ va_D (fun _ => True) (wd_R a cI cL cB cZ z S))) (va_Qi (fun (r : Int32) (u : mq_St) => r = res ∧ u = S) (fun u t => va_P D vwCl (wd_R a cI cL cB cZ z u) t.heap ∧ va_K D vwCl (mq_tys cI cL cB cZ) t ∧ va_D (va_A (wd_R a cI cL cB cZ z S) sz) (wd_R a cI cL cB cZ z u)) (va_A (wd_R a cI cL cB cZ z S) sz)) 0 0 (va_A (wd_R a cI cL cB cZ z S) sz) := by
  refine Met.ofW (cc := cX11_firstEither) (maxL := 2) (ret := (some .int)) (by decide) rfl ?_
  intro p e s m args below meth c s₁ B hml hv
  obtain ⟨rfl, hsz, hP, hK, hD0⟩ := hv
  have hr := B.returns
  have hlocks := B.notSynchronized
  have hts := atoms_spec (ws := zc_X11_firstEither :: mq_T) B.pre
  have hown : s.vm.findClass RX11 = some m.cls := findClass_of_methodNamed B.named
  subst hsz
  have hD := hD0.self (sz := s.heap.size)
  generalize hAe : va_A (wd_R a cI cL cB cZ z S) s.heap.size = A at hD ⊢
  have hA : ∀ q : Nat, s.heap.size ≤ q → A q := fun q h => by rw [← hAe]; exact Or.inr h
  have hl := lv_entry ([.ref (a 0)]) (n := 2) (Nat.le_of_ble_eq_true rfl)
  rw [lg_entry_eq]
  generalize (lg_sl ([.ref (a 0)]) ++ List.replicate (2 - (lg_sl ([.ref (a 0)])).length) Slot.unset).toArray = ls at hl ⊢
  have hl : lv_has ls 2 [(0, .ref (a 0))] := hl
  refine zw_X11_firstEither_0 (A := A) ⟨B.exec, B.bytes, hml, hown, hts, hK, hA⟩ (fun H locs ls pc dg hP hD hS => ?_) s.heap [] ls h hl hP hD va_S.rf
  exact W.iret B.exec B.bytes hr (fun t ht hW => ⟨⟨_, _, rfl, ⟨rfl, rfl⟩, by rw [ht]; exact hP, va_K.moved hW.alike hK, hD⟩, hS.F ht⟩) hS.2.2 dg
theorem zt_X11_firstEither_c : zc_X11_firstEither ∈ mq_T := mq_T_mem (mq_t7 (List.mem_of_getElem? (i := 99) rfl)) rfl
theorem zt_X11_firstEither_i : Cond.instanceMethod yX11_firstEither ∈ mq_T := mq_T_mem (mq_t7 (List.mem_of_getElem? (i := 98) rfl)) rfl
theorem zt_X11_firstEither_s : Cond.selects RX11 yX11_firstEither yX11_firstEither ∈ mq_T := mq_T_at 94 (by decide +kernel)
set_option maxHeartbeats 4000000 in
theorem zk_X11_firstEither {p : Program} {l : Launch} {e : Env} {R : Room} {s : State} {m : MethodId} {args : Array Value} {below : List Frame} {meth : Method} {c : Code} {A : Nat → Prop} {D : va_G} {a z : Nat → Nat} {cI cL cB cZ : ClassId} {Q : State → Prop} {cc : ByteArray} {nL idx pc N : Nat} {own : String} {c1 : Cond} {H : Heap} {locs : List Loc} {ls : Array Slot} {rest : List Value} {S : mq_St} {res : Int32} (C : mq_C p s m args c A D cI cL cB cZ cc nL own c1) (hlk : Cond.methodLink own idx yX11_firstEither ∈ mq_T) (hR : zr_X11_firstEither.frames + 1 ≤ R.frames ∧ 8 + (2 + 11) + zr_X11_firstEither.locals ≤ R.locals) (h : zf_X11_firstEither N z S = some res) (hP : va_P D vwCl (wd_R a cI cL cB cZ z S) H) (hD : va_D A (wd_R a cI cL cB cZ z S)) (hS : va_S A s.heap H locs) (hls : ls.size = nL) (hrest : (rest.map fun v => v.category).sum ≤ 8) (hdg : decode cc pc = .ok (.invokevirtual idx, 3)) (kk : ∀ (H1 : Heap) (locs1 : List Loc), va_P D vwCl (wd_R a cI cL cB cZ z S) H1 → va_D A (wd_R a cI cL cB cZ z S) → va_S A s.heap H1 locs1 → W p l e R s m args below meth c H1 locs1 0 0 Q (F0 m (pc + 3) ls (.int res :: rest))) : W p l e R s m args below meth c H locs 0 0 Q (F0 m pc ls (.ref (a 0) :: rest)) := by
  obtain ⟨hx, hb, hml, hown, hts, hK, hA⟩ := C
  have hFc := mq_freeI hD hS hA
  refine va_calli (va_runV (As := []) (rest := rest) ⟨hx, hb, hml, hown, hts⟩ (zm_X11_firstEither l D a z cI cL cB cZ H.size N S res h) (cwV 0 hts (mq_goodL (mq_wsV hlk zt_X11_firstEither_i zt_X11_firstEither_s zt_ini_X11 zt_X11_firstEither_c)) rfl rfl rfl (by decide +kernel) hR) ⟨fun a U g mk q => ⟨q.1, q.2.1, q.2.2.1, va_K.moved (u := U) (U := U.calling g mk a) (Vm.Alike.refl U.vm) q.2.2.2.1, q.2.2.2.2⟩, zy_R_0 hK hP, fun U hU hW => ⟨rfl, by rw [hU], by rw [hU]; exact hP, va_K.moved hW.alike hK, hD.weaken (fun _ _ _ _ => trivial)⟩⟩ rfl rfl hls rfl (lv_room hrest) hdg ⟨Nat.zero_le _, Nat.zero_le _⟩) hS (fun q _ h => hFc q h) hFc (fun r u t H1 locs ht hvm hw hB hz1 hk1 hS => ?_)
  obtain ⟨rfl, rfl⟩ := hw
  obtain ⟨hP1, hK1, hD1⟩ := hB
  rw [ht] at hP1
  exact kk H1 locs hP1 (hD1.weaken (fun _ _ _ h => hFc _ h)) hS
/-! ModalDeskModel.nextMay(I)I -/
def zr_X11_nextMay : Room := { frames := 1, cells := 0, slots := 0, locals := 22 }
def zc_X11_nextMay : Cond := .code yX11_nextMay cX11_nextMay 3 (some .int)
def zf_X11_nextMay_54 (N : Nat) (z : Nat → Nat) (S : mq_St) (k4 : Int32 → Option (Int32)) (v2 : Int32) : Option (Int32) := (mq_nI (v2 + (1 : Int32)) (fun x12 => (k4 (x12))))
def zf_X11_nextMay_4b (N : Nat) (z : Nat → Nat) (S : mq_St) (k4 : Int32 → Option (Int32)) (v2 : Int32) : Option (Int32) := (if (S.1 3) ≤ v2 then (some ((-1 : Int32))) else (mq_ck (v2) 300 (if (S.2.1 2 (v2).toNatClampNeg) = (7 : Int32) then (mq_cp (zf_X11_isIn N (fun k => [10].getD k 0) ((0 : Int32)) (v2) (mq_pull S [] [17] [])) (fun q3 => (if q3 = (0 : Int32) then (zf_X11_nextMay_54 N z S k4 (v2)) else (mq_ck (v2) 300 (mq_cp (zf_X11_isIn N (fun k => [10].getD k 0) ((0 : Int32)) ((S.2.1 3 (v2).toNatClampNeg)) (mq_pull S [] [17] [])) (fun q6 => (if q6 = (0 : Int32) then (some (v2)) else (zf_X11_nextMay_54 N z S k4 (v2))))))))) else (zf_X11_nextMay_54 N z S k4 (v2)))))
def zf_X11_nextMay_4 (N : Nat) (z : Nat → Nat) (S : mq_St) : Nat → Int32 → Option (Int32)
  | 0, _ => none
  | n + 1, v2 => zf_X11_nextMay_4b N z S (fun v2 => zf_X11_nextMay_4 N z S n v2) v2
def zf_X11_nextMay (N : Nat) (z : Nat → Nat) (v1 : Int32) (S : mq_St) : Option (Int32) := (mq_nI ((v1 + (1 : Int32))) (fun x1 => (zf_X11_nextMay_4 N z S N (x1))))
set_option maxHeartbeats 4000000 in
set_option maxRecDepth 100000 in
theorem zw_X11_nextMay_54 {p : Program} {l : Launch} {e : Env} {s : State} {m : MethodId} {args : Array Value} {below : List Frame} {meth : Method} {c : Code} {A : Nat → Prop} {D : va_G} {a z : Nat → Nat} {cI cL cB cZ : ClassId} {Q : State → Prop} {N : Nat} {S : mq_St} {res : Int32} {k4 : Int32 → Option (Int32)} (C : mq_C p s m args c A D cI cL cB cZ cX11_nextMay 3 RX11 zc_X11_nextMay) (hret : ∀ (H : Heap) (locs : List Loc) (ls : Array Slot) (pc : Nat), decode cX11_nextMay pc = .ok (.ireturn, 1) → va_P D vwCl (wd_R a cI cL cB cZ z S) H → va_D A (wd_R a cI cL cB cZ z S) → va_S A s.heap H locs → W p l e zr_X11_nextMay s m args below meth c H locs 0 0 Q (F0 m pc ls [.int res])) (hk4 : ∀ (v2 : Int32) (H : Heap) (locs : List Loc) (ls : Array Slot), k4 v2 = some res → lv_has ls 3 [(0, .ref (a 0)), (2, .int (v2))] → va_P D vwCl (wd_R a cI cL cB cZ z S) H → va_D A (wd_R a cI cL cB cZ z S) → va_S A s.heap H locs → W p l e zr_X11_nextMay s m args below meth c H locs 0 0 Q (F0 m 4 ls [])) (v2 : Int32) (H : Heap) (locs : List Loc) (ls : Array Slot) (h : zf_X11_nextMay_54 N z S k4 v2 = some res) (hl : lv_has ls 3 [(0, .ref (a 0)), (2, .int (v2))]) (hP : va_P D vwCl (wd_R a cI cL cB cZ z S) H) (hD : va_D A (wd_R a cI cL cB cZ z S)) (hS : va_S A s.heap H locs) : W p l e zr_X11_nextMay s m args below meth c H locs 0 0 Q (F0 m 54 ls []) := by
  obtain ⟨hx, hb, hml, hown, hts, hK, hA⟩ := id C
  unfold zf_X11_nextMay_54 at h
  obtain ⟨x12, ex12⟩ : ∃ y : Int32, y = v2 + (1 : Int32) := ⟨_, rfl⟩
  replace h := mq_nI_go ex12 h
  refine lv_iinc (v := x12) (lv' := [(2, .int (x12)), (0, .ref (a 0))]) hx hb dX11_nextMay_54 hl (k := 1) rfl (by rw [ex12]; rfl) (by decide) rfl (fun ls hl => ?_)
  refine lv_goto (tgt := 4) hx hb dX11_nextMay_57 (by decide) ?_
  exact hk4 (x12) H locs ls h (lv_sub hl [1, 0] rfl) hP hD hS
set_option maxHeartbeats 4000000 in
set_option maxRecDepth 100000 in
theorem zw_X11_nextMay_4b {p : Program} {l : Launch} {e : Env} {s : State} {m : MethodId} {args : Array Value} {below : List Frame} {meth : Method} {c : Code} {A : Nat → Prop} {D : va_G} {a z : Nat → Nat} {cI cL cB cZ : ClassId} {Q : State → Prop} {N : Nat} {S : mq_St} {res : Int32} {k4 : Int32 → Option (Int32)} (C : mq_C p s m args c A D cI cL cB cZ cX11_nextMay 3 RX11 zc_X11_nextMay) (hret : ∀ (H : Heap) (locs : List Loc) (ls : Array Slot) (pc : Nat), decode cX11_nextMay pc = .ok (.ireturn, 1) → va_P D vwCl (wd_R a cI cL cB cZ z S) H → va_D A (wd_R a cI cL cB cZ z S) → va_S A s.heap H locs → W p l e zr_X11_nextMay s m args below meth c H locs 0 0 Q (F0 m pc ls [.int res])) (hk4 : ∀ (v2 : Int32) (H : Heap) (locs : List Loc) (ls : Array Slot), k4 v2 = some res → lv_has ls 3 [(0, .ref (a 0)), (2, .int (v2))] → va_P D vwCl (wd_R a cI cL cB cZ z S) H → va_D A (wd_R a cI cL cB cZ z S) → va_S A s.heap H locs → W p l e zr_X11_nextMay s m args below meth c H locs 0 0 Q (F0 m 4 ls [])) (v2 : Int32) (H : Heap) (locs : List Loc) (ls : Array Slot) (h : zf_X11_nextMay_4b N z S k4 v2 = some res) (hl : lv_has ls 3 [(0, .ref (a 0)), (2, .int (v2))]) (hP : va_P D vwCl (wd_R a cI cL cB cZ z S) H) (hD : va_D A (wd_R a cI cL cB cZ z S)) (hS : va_S A s.heap H locs) : W p l e zr_X11_nextMay s m args below meth c H locs 0 0 Q (F0 m 4 ls []) := by
  obtain ⟨hx, hb, hml, hown, hts, hK, hA⟩ := id C
  unfold zf_X11_nextMay_4b at h
  refine lv_iload_n hx hb dX11_nextMay_4 rfl (lv_at hl 1 rfl) ?_
  refine lv_aload_n hx hb dX11_nextMay_5 rfl (lv_at hl 0 rfl) ?_
  refine va_get (D := D) (ci := 11) (v := .int ((S.1 3))) (C := RX11) (T := TX11) (N := 76) hx hb hts (zi_X11 _) hown hK hP 0 rfl rfl 8 (by decide) (hts _ (List.mem_cons_of_mem _ zt_f_X11_26)) (fun _ h9 => h9) rfl dX11_nextMay_6 ?_
  refine lv_icmp_ge (tgt := 60) hx hb dX11_nextMay_9 (by decide) (fun c11 => ?_) (fun c11 => ?_)
  · replace h := mq_it c11 h
    refine lv_iconst (v := (-1 : Int32)) hx hb dX11_nextMay_60 (by decide) ?_
    cases h
    exact hret H locs ls 61 dX11_nextMay_61 hP hD hS
  · replace h := mq_if c11 h
    refine lv_aload_n hx hb dX11_nextMay_12 rfl (lv_at hl 0 rfl) ?_
    refine va_get (D := D) (ci := 11) (v := .ref (a 3)) (C := RX11) (T := TX11) (N := 76) hx hb hts (zi_X11 _) hown hK hP 0 rfl rfl 5 (by decide) (hts _ (List.mem_cons_of_mem _ zt_f_X11_16)) (fun _ h9 => h9) rfl dX11_nextMay_13 ?_
    refine lv_iload_n hx hb dX11_nextMay_16 rfl (lv_at hl 1 rfl) ?_
    have hi2 := mq_ck_in h
    replace h := mq_ck_go h
    refine va_iald (f := S.2.1 2) hx hb hK hP 3 0 rfl rfl hi2 dX11_nextMay_17 ?_
    refine lv_bipush (v := (7 : Int32)) hx hb dX11_nextMay_18 (by decide) ?_
    refine lv_icmp_ne (tgt := 54) hx hb dX11_nextMay_20 (by decide) (fun c10 => ?_) (fun c10 => ?_)
    · replace h := mq_if c10 h
      exact zw_X11_nextMay_54 C hret hk4 (v2) H locs ls h (lv_sub hl [0, 1] rfl) hP hD hS
    · replace h := mq_it (by simpa using c10) h
      refine lv_aload_n hx hb dX11_nextMay_23 rfl (lv_at hl 0 rfl) ?_
      refine va_get (D := D) (ci := 11) (v := .ref (a 18)) (C := RX11) (T := TX11) (N := 76) hx hb hts (zi_X11 _) hown hK hP 0 rfl rfl 35 (by decide) (hts _ (List.mem_cons_of_mem _ zt_f_X11_69)) (fun _ h9 => h9) rfl dX11_nextMay_24 ?_
      refine lv_iconst (v := (0 : Int32)) hx hb dX11_nextMay_27 (by decide) ?_
      refine lv_iload_n hx hb dX11_nextMay_28 rfl (lv_at hl 1 rfl) ?_
      obtain ⟨q3, hc4, h⟩ := mq_cp_go h
      refine zv_X11_isIn (a := mq_ad a [18]) (z := (fun k => [10].getD k 0)) [18] C zt_m_X11_273 ⟨by decide, by decide⟩ hc4 rfl (by decide) hP hD hS hl.1 (Nat.le_of_ble_eq_true rfl) dX11_nextMay_29 (fun H locs hP hD hS => ?_)
      refine lv_if_eq (tgt := 54) hx hb dX11_nextMay_32 (by decide) (fun c9 => ?_) (fun c9 => ?_)
      · replace h := mq_it c9 h
        exact zw_X11_nextMay_54 C hret hk4 (v2) H locs ls h (lv_sub hl [0, 1] rfl) hP hD hS
      · replace h := mq_if c9 h
        refine lv_aload_n hx hb dX11_nextMay_35 rfl (lv_at hl 0 rfl) ?_
        refine va_get (D := D) (ci := 11) (v := .ref (a 18)) (C := RX11) (T := TX11) (N := 76) hx hb hts (zi_X11 _) hown hK hP 0 rfl rfl 35 (by decide) (hts _ (List.mem_cons_of_mem _ zt_f_X11_69)) (fun _ h9 => h9) rfl dX11_nextMay_36 ?_
        refine lv_iconst (v := (0 : Int32)) hx hb dX11_nextMay_39 (by decide) ?_
        refine lv_aload_n hx hb dX11_nextMay_40 rfl (lv_at hl 0 rfl) ?_
        refine va_get (D := D) (ci := 11) (v := .ref (a 4)) (C := RX11) (T := TX11) (N := 76) hx hb hts (zi_X11 _) hown hK hP 0 rfl rfl 6 (by decide) (hts _ (List.mem_cons_of_mem _ zt_f_X11_20)) (fun _ h9 => h9) rfl dX11_nextMay_41 ?_
        refine lv_iload_n hx hb dX11_nextMay_44 rfl (lv_at hl 1 rfl) ?_
        have hi5 := mq_ck_in h
        replace h := mq_ck_go h
        refine va_iald (f := S.2.1 3) hx hb hK hP 4 0 rfl rfl hi5 dX11_nextMay_45 ?_
        obtain ⟨q6, hc7, h⟩ := mq_cp_go h
        refine zv_X11_isIn (a := mq_ad a [18]) (z := (fun k => [10].getD k 0)) [18] C zt_m_X11_273 ⟨by decide, by decide⟩ hc7 rfl (by decide) hP hD hS hl.1 (Nat.le_of_ble_eq_true rfl) dX11_nextMay_46 (fun H locs hP hD hS => ?_)
        refine lv_if_ne (tgt := 54) hx hb dX11_nextMay_49 (by decide) (fun c8 => ?_) (fun c8 => ?_)
        · replace h := mq_if c8 h
          exact zw_X11_nextMay_54 C hret hk4 (v2) H locs ls h (lv_sub hl [0, 1] rfl) hP hD hS
        · replace h := mq_it (by simpa using c8) h
          refine lv_iload_n hx hb dX11_nextMay_52 rfl (lv_at hl 1 rfl) ?_
          cases h
          exact hret H locs ls 53 dX11_nextMay_53 hP hD hS
set_option maxHeartbeats 4000000 in
set_option maxRecDepth 100000 in
theorem zw_X11_nextMay_4 {p : Program} {l : Launch} {e : Env} {s : State} {m : MethodId} {args : Array Value} {below : List Frame} {meth : Method} {c : Code} {A : Nat → Prop} {D : va_G} {a z : Nat → Nat} {cI cL cB cZ : ClassId} {Q : State → Prop} {N : Nat} {S : mq_St} {res : Int32} (C : mq_C p s m args c A D cI cL cB cZ cX11_nextMay 3 RX11 zc_X11_nextMay) (hret : ∀ (H : Heap) (locs : List Loc) (ls : Array Slot) (pc : Nat), decode cX11_nextMay pc = .ok (.ireturn, 1) → va_P D vwCl (wd_R a cI cL cB cZ z S) H → va_D A (wd_R a cI cL cB cZ z S) → va_S A s.heap H locs → W p l e zr_X11_nextMay s m args below meth c H locs 0 0 Q (F0 m pc ls [.int res])) : ∀ (n : Nat) (v2 : Int32) (H : Heap) (locs : List Loc) (ls : Array Slot) (h : zf_X11_nextMay_4 N z S n v2 = some res) (hl : lv_has ls 3 [(0, .ref (a 0)), (2, .int (v2))]) (hP : va_P D vwCl (wd_R a cI cL cB cZ z S) H) (hD : va_D A (wd_R a cI cL cB cZ z S)) (hS : va_S A s.heap H locs), W p l e zr_X11_nextMay s m args below meth c H locs 0 0 Q (F0 m 4 ls []) := by
  intro n
  induction n with
  | zero =>
    intro v2 H locs ls h hl hP hD hS
    exact nomatch (show (none : Option (Int32)) = some res from h)
  | succ n ih =>
    intro v2 H locs ls h hl hP hD hS
    exact zw_X11_nextMay_4b C hret (fun v2 H locs ls h hl hP hD hS => ih v2 H locs ls h hl hP hD hS) v2 H locs ls h hl hP hD hS
set_option maxHeartbeats 4000000 in
set_option maxRecDepth 100000 in
theorem zw_X11_nextMay_0 {p : Program} {l : Launch} {e : Env} {s : State} {m : MethodId} {args : Array Value} {below : List Frame} {meth : Method} {c : Code} {A : Nat → Prop} {D : va_G} {a z : Nat → Nat} {cI cL cB cZ : ClassId} {Q : State → Prop} {N : Nat} {S : mq_St} {res : Int32} (C : mq_C p s m args c A D cI cL cB cZ cX11_nextMay 3 RX11 zc_X11_nextMay) (hret : ∀ (H : Heap) (locs : List Loc) (ls : Array Slot) (pc : Nat), decode cX11_nextMay pc = .ok (.ireturn, 1) → va_P D vwCl (wd_R a cI cL cB cZ z S) H → va_D A (wd_R a cI cL cB cZ z S) → va_S A s.heap H locs → W p l e zr_X11_nextMay s m args below meth c H locs 0 0 Q (F0 m pc ls [.int res])) (v1 : Int32) (H : Heap) (locs : List Loc) (ls : Array Slot) (h : zf_X11_nextMay N z v1 S = some res) (hl : lv_has ls 3 [(0, .ref (a 0)), (1, .int (v1))]) (hP : va_P D vwCl (wd_R a cI cL cB cZ z S) H) (hD : va_D A (wd_R a cI cL cB cZ z S)) (hS : va_S A s.heap H locs) : W p l e zr_X11_nextMay s m args below meth c H locs 0 0 Q (F0 m 0 ls []) := by
  obtain ⟨hx, hb, hml, hown, hts, hK, hA⟩ := id C
  unfold zf_X11_nextMay at h
  refine lv_iload_n hx hb dX11_nextMay_0 rfl (lv_at hl 1 rfl) ?_
  refine lv_iconst (v := (1 : Int32)) hx hb dX11_nextMay_1 (by decide) ?_
  refine lv_iadd hx hb dX11_nextMay_2 ?_
  refine lv_topi (fun x1 ex1 => ?_)
  replace h := mq_nI_go ex1 h
  refine lv_istore_n (lv' := [(2, .int (x1)), (0, .ref (a 0)), (1, .int (v1))]) hx hb dX11_nextMay_3 rfl hl (by decide) rfl (fun ls hl => ?_)
  exact zw_X11_nextMay_4 C hret N (x1) H locs ls h (lv_sub hl [1, 0] rfl) hP hD hS
set_option maxHeartbeats 4000000 in
set_option maxRecDepth 100000 in
theorem zm_X11_nextMay (l : Launch) (D : va_G) (a z : Nat → Nat) (cI cL cB cZ : ClassId) (sz N : Nat) (v1 : Int32) (S : mq_St) (res : Int32) (h : zf_X11_nextMay N z v1 S = some res) : Met l yX11_nextMay (zc_X11_nextMay :: mq_T) zr_X11_nextMay (va_Pc [.ref (a 0), .int (v1)] (fun U => U.heap.size = sz ∧ va_P D vwCl (wd_R a cI cL cB cZ z S) U.heap ∧ va_K D vwCl (mq_tys cI cL cB cZ) U ∧ va_D (fun _ => True) (wd_R a cI cL cB cZ z S))) (va_Qi (fun (r : Int32) (u : mq_St) => r = res ∧ u = S) (fun u t => va_P D vwCl (wd_R a cI cL cB cZ z u) t.heap ∧ va_K D vwCl (mq_tys cI cL cB cZ) t ∧ va_D (va_A (wd_R a cI cL cB cZ z S) sz) (wd_R a cI cL cB cZ z u)) (va_A (wd_R a cI cL cB cZ z S) sz)) 0 0 (va_A (wd_R a cI cL cB cZ z S) sz) := by
  refine Met.ofW (cc := cX11_nextMay) (maxL := 3) (ret := (some .int)) (by decide) rfl ?_
  intro p e s m args below meth c s₁ B hml hv
  obtain ⟨rfl, hsz, hP, hK, hD0⟩ := hv
  have hr := B.returns
  have hlocks := B.notSynchronized
  have hts := atoms_spec (ws := zc_X11_nextMay :: mq_T) B.pre
  have hown : s.vm.findClass RX11 = some m.cls := findClass_of_methodNamed B.named
  subst hsz
  have hD := hD0.self (sz := s.heap.size)
  generalize hAe : va_A (wd_R a cI cL cB cZ z S) s.heap.size = A at hD ⊢
  have hA : ∀ q : Nat, s.heap.size ≤ q → A q := fun q h => by rw [← hAe]; exact Or.inr h
  have hl := lv_entry ([.ref (a 0), .int (v1)]) (n := 3) (Nat.le_of_ble_eq_true rfl)
  rw [lg_entry_eq]
  generalize (lg_sl ([.ref (a 0), .int (v1)]) ++ List.replicate (3 - (lg_sl ([.ref (a 0), .int (v1)])).length) Slot.unset).toArray = ls at hl ⊢
  have hl : lv_has ls 3 [(0, .ref (a 0)), (1, .int (v1))] := hl
  refine zw_X11_nextMay_0 (A := A) ⟨B.exec, B.bytes, hml, hown, hts, hK, hA⟩ (fun H locs ls pc dg hP hD hS => ?_) v1 s.heap [] ls h hl hP hD va_S.rf
  exact W.iret B.exec B.bytes hr (fun t ht hW => ⟨⟨_, _, rfl, ⟨rfl, rfl⟩, by rw [ht]; exact hP, va_K.moved hW.alike hK, hD⟩, hS.F ht⟩) hS.2.2 dg
theorem zt_X11_nextMay_c : zc_X11_nextMay ∈ mq_T := mq_T_mem (mq_t7 (List.mem_of_getElem? (i := 115) rfl)) rfl
theorem zt_X11_nextMay_i : Cond.instanceMethod yX11_nextMay ∈ mq_T := mq_T_mem (mq_t7 (List.mem_of_getElem? (i := 114) rfl)) rfl
theorem zt_X11_nextMay_s : Cond.selects RX11 yX11_nextMay yX11_nextMay ∈ mq_T := mq_T_at 98 (by decide +kernel)
set_option maxHeartbeats 4000000 in
theorem zk_X11_nextMay {p : Program} {l : Launch} {e : Env} {R : Room} {s : State} {m : MethodId} {args : Array Value} {below : List Frame} {meth : Method} {c : Code} {A : Nat → Prop} {D : va_G} {a z : Nat → Nat} {cI cL cB cZ : ClassId} {Q : State → Prop} {cc : ByteArray} {nL idx pc N : Nat} {own : String} {c1 : Cond} {H : Heap} {locs : List Loc} {ls : Array Slot} {rest : List Value} {S : mq_St} {res : Int32} {v1 : Int32} (C : mq_C p s m args c A D cI cL cB cZ cc nL own c1) (hlk : Cond.methodLink own idx yX11_nextMay ∈ mq_T) (hR : zr_X11_nextMay.frames + 1 ≤ R.frames ∧ 8 + (3 + 11) + zr_X11_nextMay.locals ≤ R.locals) (h : zf_X11_nextMay N z v1 S = some res) (hP : va_P D vwCl (wd_R a cI cL cB cZ z S) H) (hD : va_D A (wd_R a cI cL cB cZ z S)) (hS : va_S A s.heap H locs) (hls : ls.size = nL) (hrest : (rest.map fun v => v.category).sum ≤ 8) (hdg : decode cc pc = .ok (.invokevirtual idx, 3)) (kk : ∀ (H1 : Heap) (locs1 : List Loc), va_P D vwCl (wd_R a cI cL cB cZ z S) H1 → va_D A (wd_R a cI cL cB cZ z S) → va_S A s.heap H1 locs1 → W p l e R s m args below meth c H1 locs1 0 0 Q (F0 m (pc + 3) ls (.int res :: rest))) : W p l e R s m args below meth c H locs 0 0 Q (F0 m pc ls (.int (v1) :: .ref (a 0) :: rest)) := by
  obtain ⟨hx, hb, hml, hown, hts, hK, hA⟩ := C
  have hFc := mq_freeI hD hS hA
  refine va_calli (va_runV (As := [.int (v1)]) (rest := rest) ⟨hx, hb, hml, hown, hts⟩ (zm_X11_nextMay l D a z cI cL cB cZ H.size N v1 S res h) (cwV 1 hts (mq_goodL (mq_wsV hlk zt_X11_nextMay_i zt_X11_nextMay_s zt_ini_X11 zt_X11_nextMay_c)) rfl rfl rfl (by decide +kernel) hR) ⟨fun a U g mk q => ⟨q.1, q.2.1, q.2.2.1, va_K.moved (u := U) (U := U.calling g mk a) (Vm.Alike.refl U.vm) q.2.2.2.1, q.2.2.2.2⟩, zy_R_0 hK hP, fun U hU hW => ⟨rfl, by rw [hU], by rw [hU]; exact hP, va_K.moved hW.alike hK, hD.weaken (fun _ _ _ _ => trivial)⟩⟩ rfl rfl hls rfl (lv_room hrest) hdg ⟨Nat.zero_le _, Nat.zero_le _⟩) hS (fun q _ h => hFc q h) hFc (fun r u t H1 locs ht hvm hw hB hz1 hk1 hS => ?_)
  obtain ⟨rfl, rfl⟩ := hw
  obtain ⟨hP1, hK1, hD1⟩ := hB
  rw [ht] at hP1
  exact kk H1 locs hP1 (hD1.weaken (fun _ _ _ h => hFc _ h)) hS
theorem zt_f_X11_280 : Cond.fieldLink RX11 280 "ModalDeskModel" "steps" "I" ∈ mq_T := mq_T_mem (mq_t5 (List.mem_of_getElem? (i := 202) rfl)) rfl
theorem zt_f_X11_283 : Cond.fieldLink RX11 283 "ModalDeskModel" "limit" "I" ∈ mq_T := mq_T_mem (mq_t5 (List.mem_of_getElem? (i := 201) rfl)) rfl
theorem zs_wd_R_i_0_19 (a z : Nat → Nat) (cI cL cB cZ : ClassId) (S : mq_St) (v : Int32) : (wd_R a cI cL cB cZ z S).set 0 (a 0, .inr (11, ([.int (S.1 0), .ref (a 1), .int (S.1 1), .ref (a 2), .int (S.1 2), .ref (a 3), .ref (a 4), .ref (a 5), .int (S.1 3), .ref (a 6), .ref (a 7), .int (S.1 4), .int (S.1 5), .int (S.1 6), .ref (a 8), .ref (a 9), .ref (a 10), .ref (a 11), .ref (a 12), .int (S.1 7), .int (S.1 8), .int (S.1 9), .int (S.1 10), .int (S.1 11), .int (S.1 12), .int (S.1 13), .ref (a 13), .ref (a 14), .int (S.1 14), .int (S.1 15), .int (S.1 16), .ref (a 15), .int (S.1 17), .ref (a 16), .ref (a 17), .ref (a 18), .int (S.1 18), .int (S.1 19), .int (S.1 20), .int (S.1 21), .int (S.1 22), .int (S.1 23), .int (S.1 24), .int (S.1 25), .ref (a 19), .ref (a 20), .ref (a 21), .ref (a 22), .ref (a 23), .int (S.1 26), .ref (a 24), .ref (a 25), .int (S.1 27), .int (S.1 28), .ref (a 26), .ref (a 27), .ref (a 28), .ref (a 29), .ref (a 30), .ref (a 31), .ref (a 32), .int (S.1 29), .int (S.1 30), .ref (a 33), .ref (a 34), .int (S.1 31), .ref (a 35), .ref (a 36), .ref (a 37), .ref (a 38), .ref (a 39), .ref (a 40), .ref (a 41), .ref (a 42), .ref (a 43), .ref (a 44)] : List Value).set 37 (.int v))) = (wd_R a cI cL cB cZ z (mq_si S 19 v)) := rfl
theorem zt_f_X11_286 : Cond.fieldLink RX11 286 "ModalDeskModel" "ends" "I" ∈ mq_T := mq_T_mem (mq_t5 (List.mem_of_getElem? (i := 206) rfl)) rfl
theorem zs_wd_R_i_0_23 (a z : Nat → Nat) (cI cL cB cZ : ClassId) (S : mq_St) (v : Int32) : (wd_R a cI cL cB cZ z S).set 0 (a 0, .inr (11, ([.int (S.1 0), .ref (a 1), .int (S.1 1), .ref (a 2), .int (S.1 2), .ref (a 3), .ref (a 4), .ref (a 5), .int (S.1 3), .ref (a 6), .ref (a 7), .int (S.1 4), .int (S.1 5), .int (S.1 6), .ref (a 8), .ref (a 9), .ref (a 10), .ref (a 11), .ref (a 12), .int (S.1 7), .int (S.1 8), .int (S.1 9), .int (S.1 10), .int (S.1 11), .int (S.1 12), .int (S.1 13), .ref (a 13), .ref (a 14), .int (S.1 14), .int (S.1 15), .int (S.1 16), .ref (a 15), .int (S.1 17), .ref (a 16), .ref (a 17), .ref (a 18), .int (S.1 18), .int (S.1 19), .int (S.1 20), .int (S.1 21), .int (S.1 22), .int (S.1 23), .int (S.1 24), .int (S.1 25), .ref (a 19), .ref (a 20), .ref (a 21), .ref (a 22), .ref (a 23), .int (S.1 26), .ref (a 24), .ref (a 25), .int (S.1 27), .int (S.1 28), .ref (a 26), .ref (a 27), .ref (a 28), .ref (a 29), .ref (a 30), .ref (a 31), .ref (a 32), .int (S.1 29), .int (S.1 30), .ref (a 33), .ref (a 34), .int (S.1 31), .ref (a 35), .ref (a 36), .ref (a 37), .ref (a 38), .ref (a 39), .ref (a 40), .ref (a 41), .ref (a 42), .ref (a 43), .ref (a 44)] : List Value).set 41 (.int v))) = (wd_R a cI cL cB cZ z (mq_si S 23 v)) := rfl
/-! ModalDeskModel.step()Z -/
def zr_X11_step : Room := { frames := 0, cells := 0, slots := 0, locals := 0 }
def zc_X11_step : Cond := .code yX11_step cX11_step 1 (some .boolean)
def zf_X11_step (N : Nat) (z : Nat → Nat) (S : mq_St) : Option (Int32 × mq_St) := (if (S.1 19) = (S.1 18) then (mq_nS (mq_si S 23 ((-3 : Int32))) (fun S3 => (mq_cz ((0 : Int32)) (some ((0 : Int32), S3))))) else (mq_nS (mq_si S 19 (((S.1 19) + (1 : Int32)))) (fun S1 => (mq_cz ((1 : Int32)) (some ((1 : Int32), S1))))))
set_option maxHeartbeats 4000000 in
set_option maxRecDepth 100000 in
theorem zw_X11_step_0 {p : Program} {l : Launch} {e : Env} {s : State} {m : MethodId} {args : Array Value} {below : List Frame} {meth : Method} {c : Code} {A : Nat → Prop} {D : va_G} {a z : Nat → Nat} {cI cL cB cZ : ClassId} {Q : State → Prop} {N : Nat} {res : Int32 × mq_St} (C : mq_C p s m args c A D cI cL cB cZ cX11_step 1 RX11 zc_X11_step) (hret : ∀ (H : Heap) (locs : List Loc) (ls : Array Slot) (pc : Nat), decode cX11_step pc = .ok (.ireturn, 1) → narrow .boolean (.int res.1) = .int res.1 → va_P D vwCl (wd_R a cI cL cB cZ z res.2) H → va_D A (wd_R a cI cL cB cZ z res.2) → va_S A s.heap H locs → W p l e zr_X11_step s m args below meth c H locs 0 0 Q (F0 m pc ls [.int res.1])) (S : mq_St) (H : Heap) (locs : List Loc) (ls : Array Slot) (h : zf_X11_step N z S = some res) (hl : lv_has ls 1 [(0, .ref (a 0))]) (hP : va_P D vwCl (wd_R a cI cL cB cZ z S) H) (hD : va_D A (wd_R a cI cL cB cZ z S)) (hS : va_S A s.heap H locs) : W p l e zr_X11_step s m args below meth c H locs 0 0 Q (F0 m 0 ls []) := by
  obtain ⟨hx, hb, hml, hown, hts, hK, hA⟩ := id C
  unfold zf_X11_step at h
  refine lv_aload_n hx hb dX11_step_0 rfl (lv_at hl 0 rfl) ?_
  refine va_get (D := D) (ci := 11) (v := .int ((S.1 19))) (C := RX11) (T := TX11) (N := 76) hx hb hts (zi_X11 _) hown hK hP 0 rfl rfl 37 (by decide) (hts _ (List.mem_cons_of_mem _ zt_f_X11_280)) (fun _ h9 => h9) rfl dX11_step_1 ?_
  refine lv_aload_n hx hb dX11_step_4 rfl (lv_at hl 0 rfl) ?_
  refine va_get (D := D) (ci := 11) (v := .int ((S.1 18))) (C := RX11) (T := TX11) (N := 76) hx hb hts (zi_X11 _) hown hK hP 0 rfl rfl 36 (by decide) (hts _ (List.mem_cons_of_mem _ zt_f_X11_283)) (fun _ h9 => h9) rfl dX11_step_5 ?_
  refine lv_icmp_ne (tgt := 19) hx hb dX11_step_8 (by decide) (fun c5 => ?_) (fun c5 => ?_)
  · replace h := mq_if c5 h
    refine lv_aload_n hx hb dX11_step_19 rfl (lv_at hl 0 rfl) ?_
    refine lv_dup hx hb dX11_step_20 rfl ?_
    refine va_get (D := D) (ci := 11) (v := .int ((S.1 19))) (C := RX11) (T := TX11) (N := 76) hx hb hts (zi_X11 _) hown hK hP 0 rfl rfl 37 (by decide) (hts _ (List.mem_cons_of_mem _ zt_f_X11_280)) (fun _ h9 => h9) rfl dX11_step_21 ?_
    refine lv_iconst (v := (1 : Int32)) hx hb dX11_step_24 (by decide) ?_
    refine lv_iadd hx hb dX11_step_25 ?_
    refine mq_put (w := wd_R a cI cL cB cZ z) (S := S) (D := D) (ci := 11) (v := ((S.1 19) + (1 : Int32))) (ty := .int) (C := RX11) (T := TX11) (N := 76) hx hb hts (zi_X11 _) tyX11 tyX11_ok nmX11 hown hK hP hD hS 0 rfl rfl 37 (by decide) (hts _ (List.mem_cons_of_mem _ zt_f_X11_280)) (fun _ h9 => h9) rfl (by decide +kernel) rfl rfl (Nat.le_of_ble_eq_true rfl) dX11_step_26 19 (zs_wd_R_i_0_19 _ _ _ _ _ _ _ _) (fun S1 eS1 H locs hP hD hS => ?_)
    replace h := mq_nS_go eS1 h
    refine lv_iconst (v := (1 : Int32)) hx hb dX11_step_29 (by decide) ?_
    have hz2 := mq_cz_in h
    replace h := mq_cz_go h
    cases h
    exact hret H locs ls 30 dX11_step_30 hz2.1 hP hD hS
  · replace h := mq_it (by simpa using c5) h
    refine lv_aload_n hx hb dX11_step_11 rfl (lv_at hl 0 rfl) ?_
    refine lv_bipush (v := (-3 : Int32)) hx hb dX11_step_12 (by decide) ?_
    refine mq_put (w := wd_R a cI cL cB cZ z) (S := S) (D := D) (ci := 11) (v := (-3 : Int32)) (ty := .int) (C := RX11) (T := TX11) (N := 76) hx hb hts (zi_X11 _) tyX11 tyX11_ok nmX11 hown hK hP hD hS 0 rfl rfl 41 (by decide) (hts _ (List.mem_cons_of_mem _ zt_f_X11_286)) (fun _ h9 => h9) rfl (by decide +kernel) rfl rfl (Nat.le_of_ble_eq_true rfl) dX11_step_14 23 (zs_wd_R_i_0_23 _ _ _ _ _ _ _ _) (fun S3 eS3 H locs hP hD hS => ?_)
    replace h := mq_nS_go eS3 h
    refine lv_iconst (v := (0 : Int32)) hx hb dX11_step_17 (by decide) ?_
    have hz4 := mq_cz_in h
    replace h := mq_cz_go h
    cases h
    exact hret H locs ls 18 dX11_step_18 hz4.1 hP hD hS
set_option maxHeartbeats 4000000 in
set_option maxRecDepth 100000 in
theorem zm_X11_step (l : Launch) (D : va_G) (a z : Nat → Nat) (cI cL cB cZ : ClassId) (sz N : Nat) (S : mq_St) (res : Int32 × mq_St) (h : zf_X11_step N z S = some res) : Met l yX11_step (zc_X11_step :: mq_T) zr_X11_step (va_Pc [.ref (a 0)] (fun U => U.heap.size = sz ∧ va_P D vwCl (wd_R a cI cL cB cZ z S) U.heap ∧ va_K D vwCl (mq_tys cI cL cB cZ) U ∧ va_D (fun _ => True) (wd_R a cI cL cB cZ z S))) (va_Qi (fun (r : Int32) (u : mq_St) => r = res.1 ∧ u = res.2) (fun u t => va_P D vwCl (wd_R a cI cL cB cZ z u) t.heap ∧ va_K D vwCl (mq_tys cI cL cB cZ) t ∧ va_D (va_A (wd_R a cI cL cB cZ z S) sz) (wd_R a cI cL cB cZ z u)) (va_A (wd_R a cI cL cB cZ z S) sz)) 0 0 (va_A (wd_R a cI cL cB cZ z S) sz) := by
  refine Met.ofW (cc := cX11_step) (maxL := 1) (ret := (some .boolean)) (by decide) rfl ?_
  intro p e s m args below meth c s₁ B hml hv
  obtain ⟨rfl, hsz, hP, hK, hD0⟩ := hv
  have hr := B.returns
  have hlocks := B.notSynchronized
  have hts := atoms_spec (ws := zc_X11_step :: mq_T) B.pre
  have hown : s.vm.findClass RX11 = some m.cls := findClass_of_methodNamed B.named
  subst hsz
  have hD := hD0.self (sz := s.heap.size)
  generalize hAe : va_A (wd_R a cI cL cB cZ z S) s.heap.size = A at hD ⊢
  have hA : ∀ q : Nat, s.heap.size ≤ q → A q := fun q h => by rw [← hAe]; exact Or.inr h
  have hl := lv_entry ([.ref (a 0)]) (n := 1) (Nat.le_of_ble_eq_true rfl)
  rw [lg_entry_eq]
  generalize (lg_sl ([.ref (a 0)]) ++ List.replicate (1 - (lg_sl ([.ref (a 0)])).length) Slot.unset).toArray = ls at hl ⊢
  have hl : lv_has ls 1 [(0, .ref (a 0))] := hl
  refine zw_X11_step_0 (A := A) ⟨B.exec, B.bytes, hml, hown, hts, hK, hA⟩ (fun H locs ls pc dg hz hP hD hS => ?_) S s.heap [] ls h hl hP hD va_S.rf
  exact W.zret B.exec B.bytes hr hz (fun t ht hW => ⟨⟨_, _, rfl, ⟨rfl, rfl⟩, by rw [ht]; exact hP, va_K.moved hW.alike hK, hD⟩, hS.F ht⟩) hS.2.2 dg
theorem zt_X11_step_c : zc_X11_step ∈ mq_T := mq_T_mem (mq_t7 (List.mem_of_getElem? (i := 91) rfl)) rfl
theorem zt_X11_step_i : Cond.instanceMethod yX11_step ∈ mq_T := mq_T_mem (mq_t7 (List.mem_of_getElem? (i := 90) rfl)) rfl
theorem zt_X11_step_s : Cond.selects RX11 yX11_step yX11_step ∈ mq_T := mq_T_at 92 (by decide +kernel)
set_option maxHeartbeats 4000000 in
theorem zk_X11_step {p : Program} {l : Launch} {e : Env} {R : Room} {s : State} {m : MethodId} {args : Array Value} {below : List Frame} {meth : Method} {c : Code} {A : Nat → Prop} {D : va_G} {a z : Nat → Nat} {cI cL cB cZ : ClassId} {Q : State → Prop} {cc : ByteArray} {nL idx pc N : Nat} {own : String} {c1 : Cond} {H : Heap} {locs : List Loc} {ls : Array Slot} {rest : List Value} {S : mq_St} {res : Int32 × mq_St} (C : mq_C p s m args c A D cI cL cB cZ cc nL own c1) (hlk : Cond.methodLink own idx yX11_step ∈ mq_T) (hR : zr_X11_step.frames + 1 ≤ R.frames ∧ 8 + (1 + 11) + zr_X11_step.locals ≤ R.locals) (h : zf_X11_step N z S = some res) (hP : va_P D vwCl (wd_R a cI cL cB cZ z S) H) (hD : va_D A (wd_R a cI cL cB cZ z S)) (hS : va_S A s.heap H locs) (hls : ls.size = nL) (hrest : (rest.map fun v => v.category).sum ≤ 8) (hdg : decode cc pc = .ok (.invokevirtual idx, 3)) (kk : ∀ (H1 : Heap) (locs1 : List Loc), va_P D vwCl (wd_R a cI cL cB cZ z res.2) H1 → va_D A (wd_R a cI cL cB cZ z res.2) → va_S A s.heap H1 locs1 → W p l e R s m args below meth c H1 locs1 0 0 Q (F0 m (pc + 3) ls (.int res.1 :: rest))) : W p l e R s m args below meth c H locs 0 0 Q (F0 m pc ls (.ref (a 0) :: rest)) := by
  obtain ⟨hx, hb, hml, hown, hts, hK, hA⟩ := C
  have hFc := mq_freeI hD hS hA
  refine va_calli (va_runV (As := []) (rest := rest) ⟨hx, hb, hml, hown, hts⟩ (zm_X11_step l D a z cI cL cB cZ H.size N S res h) (cwV 0 hts (mq_goodL (mq_wsV hlk zt_X11_step_i zt_X11_step_s zt_ini_X11 zt_X11_step_c)) rfl rfl rfl (by decide +kernel) hR) ⟨fun a U g mk q => ⟨q.1, q.2.1, q.2.2.1, va_K.moved (u := U) (U := U.calling g mk a) (Vm.Alike.refl U.vm) q.2.2.2.1, q.2.2.2.2⟩, zy_R_0 hK hP, fun U hU hW => ⟨rfl, by rw [hU], by rw [hU]; exact hP, va_K.moved hW.alike hK, hD.weaken (fun _ _ _ _ => trivial)⟩⟩ rfl rfl hls rfl (lv_room hrest) hdg ⟨Nat.zero_le _, Nat.zero_le _⟩) hS (fun q _ h => hFc q h) hFc (fun r u t H1 locs ht hvm hw hB hz1 hk1 hS => ?_)
  obtain ⟨rfl, rfl⟩ := hw
  obtain ⟨hP1, hK1, hD1⟩ := hB
  rw [ht] at hP1
  exact kk H1 locs hP1 (hD1.weaken (fun _ _ _ h => hFc _ h)) hS
theorem zt_f_X11_289 : Cond.fieldLink RX11 289 "ModalDeskModel" "lines" "I" ∈ mq_T := mq_T_mem (mq_t5 (List.mem_of_getElem? (i := 214) rfl)) rfl
theorem zt_f_X11_88 : Cond.fieldLink RX11 88 "ModalDeskModel" "lineRule" "[I" ∈ mq_T := mq_T_mem (mq_t5 (List.mem_of_getElem? (i := 215) rfl)) rfl
theorem zs_wd_R_a_24_23 (a z : Nat → Nat) (cI cL cB cZ : ClassId) (S : mq_St) (f : Nat → Int32) : (wd_R a cI cL cB cZ z S).set 24 (a 24, .inl (cI, 1300, .inl f)) = (wd_R a cI cL cB cZ z (mq_sa S 23 f)) := rfl
theorem zt_f_X11_91 : Cond.fieldLink RX11 91 "ModalDeskModel" "lineNumber" "[I" ∈ mq_T := mq_T_mem (mq_t5 (List.mem_of_getElem? (i := 216) rfl)) rfl
theorem zs_wd_R_a_25_24 (a z : Nat → Nat) (cI cL cB cZ : ClassId) (S : mq_St) (f : Nat → Int32) : (wd_R a cI cL cB cZ z S).set 25 (a 25, .inl (cI, 1300, .inl f)) = (wd_R a cI cL cB cZ z (mq_sa S 24 f)) := rfl
theorem zs_wd_R_i_0_26 (a z : Nat → Nat) (cI cL cB cZ : ClassId) (S : mq_St) (v : Int32) : (wd_R a cI cL cB cZ z S).set 0 (a 0, .inr (11, ([.int (S.1 0), .ref (a 1), .int (S.1 1), .ref (a 2), .int (S.1 2), .ref (a 3), .ref (a 4), .ref (a 5), .int (S.1 3), .ref (a 6), .ref (a 7), .int (S.1 4), .int (S.1 5), .int (S.1 6), .ref (a 8), .ref (a 9), .ref (a 10), .ref (a 11), .ref (a 12), .int (S.1 7), .int (S.1 8), .int (S.1 9), .int (S.1 10), .int (S.1 11), .int (S.1 12), .int (S.1 13), .ref (a 13), .ref (a 14), .int (S.1 14), .int (S.1 15), .int (S.1 16), .ref (a 15), .int (S.1 17), .ref (a 16), .ref (a 17), .ref (a 18), .int (S.1 18), .int (S.1 19), .int (S.1 20), .int (S.1 21), .int (S.1 22), .int (S.1 23), .int (S.1 24), .int (S.1 25), .ref (a 19), .ref (a 20), .ref (a 21), .ref (a 22), .ref (a 23), .int (S.1 26), .ref (a 24), .ref (a 25), .int (S.1 27), .int (S.1 28), .ref (a 26), .ref (a 27), .ref (a 28), .ref (a 29), .ref (a 30), .ref (a 31), .ref (a 32), .int (S.1 29), .int (S.1 30), .ref (a 33), .ref (a 34), .int (S.1 31), .ref (a 35), .ref (a 36), .ref (a 37), .ref (a 38), .ref (a 39), .ref (a 40), .ref (a 41), .ref (a 42), .ref (a 43), .ref (a 44)] : List Value).set 49 (.int v))) = (wd_R a cI cL cB cZ z (mq_si S 26 v)) := rfl
/-! ModalDeskModel.line(II)Z -/
def zr_X11_line : Room := { frames := 0, cells := 0, slots := 0, locals := 0 }
def zc_X11_line : Cond := .code yX11_line cX11_line 3 (some .boolean)
def zf_X11_line (N : Nat) (z : Nat → Nat) (v1 : Int32) (v2 : Int32) (S : mq_St) : Option (Int32 × mq_St) := (if (S.1 26) = (1299 : Int32) then (mq_nS (mq_si S 23 ((-4 : Int32))) (fun S7 => (mq_cz ((0 : Int32)) (some ((0 : Int32), S7))))) else (mq_ck ((S.1 26)) 1300 (mq_nS (mq_sa S 23 (upd (S.2.1 23) ((S.1 26)).toNatClampNeg (v1))) (fun S2 => (mq_ck ((S2.1 26)) 1300 (mq_nS (mq_sa S2 24 (upd (S2.2.1 24) ((S2.1 26)).toNatClampNeg (v2))) (fun S4 => (mq_nS (mq_si S4 26 (((S4.1 26) + (1 : Int32)))) (fun S5 => (mq_cz ((1 : Int32)) (some ((1 : Int32), S5))))))))))))
set_option maxHeartbeats 4000000 in
set_option maxRecDepth 100000 in
theorem zw_X11_line_0 {p : Program} {l : Launch} {e : Env} {s : State} {m : MethodId} {args : Array Value} {below : List Frame} {meth : Method} {c : Code} {A : Nat → Prop} {D : va_G} {a z : Nat → Nat} {cI cL cB cZ : ClassId} {Q : State → Prop} {N : Nat} {res : Int32 × mq_St} (C : mq_C p s m args c A D cI cL cB cZ cX11_line 3 RX11 zc_X11_line) (hret : ∀ (H : Heap) (locs : List Loc) (ls : Array Slot) (pc : Nat), decode cX11_line pc = .ok (.ireturn, 1) → narrow .boolean (.int res.1) = .int res.1 → va_P D vwCl (wd_R a cI cL cB cZ z res.2) H → va_D A (wd_R a cI cL cB cZ z res.2) → va_S A s.heap H locs → W p l e zr_X11_line s m args below meth c H locs 0 0 Q (F0 m pc ls [.int res.1])) (v1 : Int32) (v2 : Int32) (S : mq_St) (H : Heap) (locs : List Loc) (ls : Array Slot) (h : zf_X11_line N z v1 v2 S = some res) (hl : lv_has ls 3 [(0, .ref (a 0)), (1, .int (v1)), (2, .int (v2))]) (hP : va_P D vwCl (wd_R a cI cL cB cZ z S) H) (hD : va_D A (wd_R a cI cL cB cZ z S)) (hS : va_S A s.heap H locs) : W p l e zr_X11_line s m args below meth c H locs 0 0 Q (F0 m 0 ls []) := by
  obtain ⟨hx, hb, hml, hown, hts, hK, hA⟩ := id C
  unfold zf_X11_line at h
  refine lv_aload_n hx hb dX11_line_0 rfl (lv_at hl 0 rfl) ?_
  refine va_get (D := D) (ci := 11) (v := .int ((S.1 26))) (C := RX11) (T := TX11) (N := 76) hx hb hts (zi_X11 _) hown hK hP 0 rfl rfl 49 (by decide) (hts _ (List.mem_cons_of_mem _ zt_f_X11_289)) (fun _ h9 => h9) rfl dX11_line_1 ?_
  refine lv_sipush (v := (1299 : Int32)) hx hb dX11_line_4 (by decide) ?_
  refine lv_icmp_ne (tgt := 18) hx hb dX11_line_7 (by decide) (fun c9 => ?_) (fun c9 => ?_)
  · replace h := mq_if c9 h
    refine lv_aload_n hx hb dX11_line_18 rfl (lv_at hl 0 rfl) ?_
    refine va_get (D := D) (ci := 11) (v := .ref (a 24)) (C := RX11) (T := TX11) (N := 76) hx hb hts (zi_X11 _) hown hK hP 0 rfl rfl 50 (by decide) (hts _ (List.mem_cons_of_mem _ zt_f_X11_88)) (fun _ h9 => h9) rfl dX11_line_19 ?_
    refine lv_aload_n hx hb dX11_line_22 rfl (lv_at hl 0 rfl) ?_
    refine va_get (D := D) (ci := 11) (v := .int ((S.1 26))) (C := RX11) (T := TX11) (N := 76) hx hb hts (zi_X11 _) hown hK hP 0 rfl rfl 49 (by decide) (hts _ (List.mem_cons_of_mem _ zt_f_X11_289)) (fun _ h9 => h9) rfl dX11_line_23 ?_
    refine lv_iload_n hx hb dX11_line_26 rfl (lv_at hl 1 rfl) ?_
    have hi1 := mq_ck_in h
    replace h := mq_ck_go h
    refine mq_iast (w := wd_R a cI cL cB cZ z) (S := S) (f := S.2.1 23) hx hb hK hP hD hS 24 0 rfl rfl hi1 dX11_line_27 23 (zs_wd_R_a_24_23 _ _ _ _ _ _ _ _) (fun S2 eS2 H locs hP hD hS => ?_)
    replace h := mq_nS_go eS2 h
    refine lv_aload_n hx hb dX11_line_28 rfl (lv_at hl 0 rfl) ?_
    refine va_get (D := D) (ci := 11) (v := .ref (a 25)) (C := RX11) (T := TX11) (N := 76) hx hb hts (zi_X11 _) hown hK hP 0 rfl rfl 51 (by decide) (hts _ (List.mem_cons_of_mem _ zt_f_X11_91)) (fun _ h9 => h9) rfl dX11_line_29 ?_
    refine lv_aload_n hx hb dX11_line_32 rfl (lv_at hl 0 rfl) ?_
    refine va_get (D := D) (ci := 11) (v := .int ((S2.1 26))) (C := RX11) (T := TX11) (N := 76) hx hb hts (zi_X11 _) hown hK hP 0 rfl rfl 49 (by decide) (hts _ (List.mem_cons_of_mem _ zt_f_X11_289)) (fun _ h9 => h9) rfl dX11_line_33 ?_
    refine lv_iload_n hx hb dX11_line_36 rfl (lv_at hl 2 rfl) ?_
    have hi3 := mq_ck_in h
    replace h := mq_ck_go h
    refine mq_iast (w := wd_R a cI cL cB cZ z) (S := S2) (f := S2.2.1 24) hx hb hK hP hD hS 25 0 rfl rfl hi3 dX11_line_37 24 (zs_wd_R_a_25_24 _ _ _ _ _ _ _ _) (fun S4 eS4 H locs hP hD hS => ?_)
    replace h := mq_nS_go eS4 h
    refine lv_aload_n hx hb dX11_line_38 rfl (lv_at hl 0 rfl) ?_
    refine lv_dup hx hb dX11_line_39 rfl ?_
    refine va_get (D := D) (ci := 11) (v := .int ((S4.1 26))) (C := RX11) (T := TX11) (N := 76) hx hb hts (zi_X11 _) hown hK hP 0 rfl rfl 49 (by decide) (hts _ (List.mem_cons_of_mem _ zt_f_X11_289)) (fun _ h9 => h9) rfl dX11_line_40 ?_
    refine lv_iconst (v := (1 : Int32)) hx hb dX11_line_43 (by decide) ?_
    refine lv_iadd hx hb dX11_line_44 ?_
    refine mq_put (w := wd_R a cI cL cB cZ z) (S := S4) (D := D) (ci := 11) (v := ((S4.1 26) + (1 : Int32))) (ty := .int) (C := RX11) (T := TX11) (N := 76) hx hb hts (zi_X11 _) tyX11 tyX11_ok nmX11 hown hK hP hD hS 0 rfl rfl 49 (by decide) (hts _ (List.mem_cons_of_mem _ zt_f_X11_289)) (fun _ h9 => h9) rfl (by decide +kernel) rfl rfl (Nat.le_of_ble_eq_true rfl) dX11_line_45 26 (zs_wd_R_i_0_26 _ _ _ _ _ _ _ _) (fun S5 eS5 H locs hP hD hS => ?_)
    replace h := mq_nS_go eS5 h
    refine lv_iconst (v := (1 : Int32)) hx hb dX11_line_48 (by decide) ?_
    have hz6 := mq_cz_in h
    replace h := mq_cz_go h
    cases h
    exact hret H locs ls 49 dX11_line_49 hz6.1 hP hD hS
  · replace h := mq_it (by simpa using c9) h
    refine lv_aload_n hx hb dX11_line_10 rfl (lv_at hl 0 rfl) ?_
    refine lv_bipush (v := (-4 : Int32)) hx hb dX11_line_11 (by decide) ?_
    refine mq_put (w := wd_R a cI cL cB cZ z) (S := S) (D := D) (ci := 11) (v := (-4 : Int32)) (ty := .int) (C := RX11) (T := TX11) (N := 76) hx hb hts (zi_X11 _) tyX11 tyX11_ok nmX11 hown hK hP hD hS 0 rfl rfl 41 (by decide) (hts _ (List.mem_cons_of_mem _ zt_f_X11_286)) (fun _ h9 => h9) rfl (by decide +kernel) rfl rfl (Nat.le_of_ble_eq_true rfl) dX11_line_13 23 (zs_wd_R_i_0_23 _ _ _ _ _ _ _ _) (fun S7 eS7 H locs hP hD hS => ?_)
    replace h := mq_nS_go eS7 h
    refine lv_iconst (v := (0 : Int32)) hx hb dX11_line_16 (by decide) ?_
    have hz8 := mq_cz_in h
    replace h := mq_cz_go h
    cases h
    exact hret H locs ls 17 dX11_line_17 hz8.1 hP hD hS
set_option maxHeartbeats 4000000 in
set_option maxRecDepth 100000 in
theorem zm_X11_line (l : Launch) (D : va_G) (a z : Nat → Nat) (cI cL cB cZ : ClassId) (sz N : Nat) (v1 : Int32) (v2 : Int32) (S : mq_St) (res : Int32 × mq_St) (h : zf_X11_line N z v1 v2 S = some res) : Met l yX11_line (zc_X11_line :: mq_T) zr_X11_line (va_Pc [.ref (a 0), .int (v1), .int (v2)] (fun U => U.heap.size = sz ∧ va_P D vwCl (wd_R a cI cL cB cZ z S) U.heap ∧ va_K D vwCl (mq_tys cI cL cB cZ) U ∧ va_D (fun _ => True) (wd_R a cI cL cB cZ z S))) (va_Qi (fun (r : Int32) (u : mq_St) => r = res.1 ∧ u = res.2) (fun u t => va_P D vwCl (wd_R a cI cL cB cZ z u) t.heap ∧ va_K D vwCl (mq_tys cI cL cB cZ) t ∧ va_D (va_A (wd_R a cI cL cB cZ z S) sz) (wd_R a cI cL cB cZ z u)) (va_A (wd_R a cI cL cB cZ z S) sz)) 0 0 (va_A (wd_R a cI cL cB cZ z S) sz) := by
  refine Met.ofW (cc := cX11_line) (maxL := 3) (ret := (some .boolean)) (by decide) rfl ?_
  intro p e s m args below meth c s₁ B hml hv
  obtain ⟨rfl, hsz, hP, hK, hD0⟩ := hv
  have hr := B.returns
  have hlocks := B.notSynchronized
  have hts := atoms_spec (ws := zc_X11_line :: mq_T) B.pre
  have hown : s.vm.findClass RX11 = some m.cls := findClass_of_methodNamed B.named
  subst hsz
  have hD := hD0.self (sz := s.heap.size)
  generalize hAe : va_A (wd_R a cI cL cB cZ z S) s.heap.size = A at hD ⊢
  have hA : ∀ q : Nat, s.heap.size ≤ q → A q := fun q h => by rw [← hAe]; exact Or.inr h
  have hl := lv_entry ([.ref (a 0), .int (v1), .int (v2)]) (n := 3) (Nat.le_of_ble_eq_true rfl)
  rw [lg_entry_eq]
  generalize (lg_sl ([.ref (a 0), .int (v1), .int (v2)]) ++ List.replicate (3 - (lg_sl ([.ref (a 0), .int (v1), .int (v2)])).length) Slot.unset).toArray = ls at hl ⊢
  have hl : lv_has ls 3 [(0, .ref (a 0)), (1, .int (v1)), (2, .int (v2))] := hl
  refine zw_X11_line_0 (A := A) ⟨B.exec, B.bytes, hml, hown, hts, hK, hA⟩ (fun H locs ls pc dg hz hP hD hS => ?_) v1 v2 S s.heap [] ls h hl hP hD va_S.rf
  exact W.zret B.exec B.bytes hr hz (fun t ht hW => ⟨⟨_, _, rfl, ⟨rfl, rfl⟩, by rw [ht]; exact hP, va_K.moved hW.alike hK, hD⟩, hS.F ht⟩) hS.2.2 dg
theorem zt_X11_line_c : zc_X11_line ∈ mq_T := mq_T_mem (mq_t7 (List.mem_of_getElem? (i := 83) rfl)) rfl
theorem zt_X11_line_i : Cond.instanceMethod yX11_line ∈ mq_T := mq_T_mem (mq_t7 (List.mem_of_getElem? (i := 82) rfl)) rfl
theorem zt_X11_line_s : Cond.selects RX11 yX11_line yX11_line ∈ mq_T := mq_T_at 90 (by decide +kernel)
set_option maxHeartbeats 4000000 in
theorem zk_X11_line {p : Program} {l : Launch} {e : Env} {R : Room} {s : State} {m : MethodId} {args : Array Value} {below : List Frame} {meth : Method} {c : Code} {A : Nat → Prop} {D : va_G} {a z : Nat → Nat} {cI cL cB cZ : ClassId} {Q : State → Prop} {cc : ByteArray} {nL idx pc N : Nat} {own : String} {c1 : Cond} {H : Heap} {locs : List Loc} {ls : Array Slot} {rest : List Value} {S : mq_St} {res : Int32 × mq_St} {v1 : Int32} {v2 : Int32} (C : mq_C p s m args c A D cI cL cB cZ cc nL own c1) (hlk : Cond.methodLink own idx yX11_line ∈ mq_T) (hR : zr_X11_line.frames + 1 ≤ R.frames ∧ 8 + (3 + 11) + zr_X11_line.locals ≤ R.locals) (h : zf_X11_line N z v1 v2 S = some res) (hP : va_P D vwCl (wd_R a cI cL cB cZ z S) H) (hD : va_D A (wd_R a cI cL cB cZ z S)) (hS : va_S A s.heap H locs) (hls : ls.size = nL) (hrest : (rest.map fun v => v.category).sum ≤ 8) (hdg : decode cc pc = .ok (.invokevirtual idx, 3)) (kk : ∀ (H1 : Heap) (locs1 : List Loc), va_P D vwCl (wd_R a cI cL cB cZ z res.2) H1 → va_D A (wd_R a cI cL cB cZ z res.2) → va_S A s.heap H1 locs1 → W p l e R s m args below meth c H1 locs1 0 0 Q (F0 m (pc + 3) ls (.int res.1 :: rest))) : W p l e R s m args below meth c H locs 0 0 Q (F0 m pc ls (.int (v2) :: .int (v1) :: .ref (a 0) :: rest)) := by
  obtain ⟨hx, hb, hml, hown, hts, hK, hA⟩ := C
  have hFc := mq_freeI hD hS hA
  refine va_calli (va_runV (As := [.int (v1), .int (v2)]) (rest := rest) ⟨hx, hb, hml, hown, hts⟩ (zm_X11_line l D a z cI cL cB cZ H.size N v1 v2 S res h) (cwV 2 hts (mq_goodL (mq_wsV hlk zt_X11_line_i zt_X11_line_s zt_ini_X11 zt_X11_line_c)) rfl rfl rfl (by decide +kernel) hR) ⟨fun a U g mk q => ⟨q.1, q.2.1, q.2.2.1, va_K.moved (u := U) (U := U.calling g mk a) (Vm.Alike.refl U.vm) q.2.2.2.1, q.2.2.2.2⟩, zy_R_0 hK hP, fun U hU hW => ⟨rfl, by rw [hU], by rw [hU]; exact hP, va_K.moved hW.alike hK, hD.weaken (fun _ _ _ _ => trivial)⟩⟩ rfl rfl hls rfl (lv_room hrest) hdg ⟨Nat.zero_le _, Nat.zero_le _⟩) hS (fun q _ h => hFc q h) hFc (fun r u t H1 locs ht hvm hw hB hz1 hk1 hS => ?_)
  obtain ⟨rfl, rfl⟩ := hw
  obtain ⟨hP1, hK1, hD1⟩ := hB
  rw [ht] at hP1
  exact kk H1 locs hP1 (hD1.weaken (fun _ _ _ h => hFc _ h)) hS
theorem zt_f_X11_94 : Cond.fieldLink RX11 94 "ModalDeskModel" "waitEither" "[Z" ∈ mq_T := mq_T_mem (mq_t5 (List.mem_of_getElem? (i := 219) rfl)) rfl
theorem zt_f_X11_292 : Cond.fieldLink RX11 292 "ModalDeskModel" "waiting" "I" ∈ mq_T := mq_T_mem (mq_t5 (List.mem_of_getElem? (i := 217) rfl)) rfl
theorem zs_wd_R_a_26_25 (a z : Nat → Nat) (cI cL cB cZ : ClassId) (S : mq_St) (f : Nat → Int32) : (wd_R a cI cL cB cZ z S).set 26 (a 26, .inl (cZ, 470, .inl f)) = (wd_R a cI cL cB cZ z (mq_sa S 25 f)) := rfl
theorem zt_f_X11_97 : Cond.fieldLink RX11 97 "ModalDeskModel" "waitWhat" "[I" ∈ mq_T := mq_T_mem (mq_t5 (List.mem_of_getElem? (i := 220) rfl)) rfl
theorem zs_wd_R_a_27_26 (a z : Nat → Nat) (cI cL cB cZ : ClassId) (S : mq_St) (f : Nat → Int32) : (wd_R a cI cL cB cZ z S).set 27 (a 27, .inl (cI, 470, .inl f)) = (wd_R a cI cL cB cZ z (mq_sa S 26 f)) := rfl
theorem zt_f_X11_100 : Cond.fieldLink RX11 100 "ModalDeskModel" "waitWorld" "[I" ∈ mq_T := mq_T_mem (mq_t5 (List.mem_of_getElem? (i := 221) rfl)) rfl
theorem zt_f_X11_295 : Cond.fieldLink RX11 295 "ModalDeskModel" "here" "I" ∈ mq_T := mq_T_mem (mq_t5 (List.mem_of_getElem? (i := 208) rfl)) rfl
theorem zs_wd_R_a_28_27 (a z : Nat → Nat) (cI cL cB cZ : ClassId) (S : mq_St) (f : Nat → Int32) : (wd_R a cI cL cB cZ z S).set 28 (a 28, .inl (cI, 470, .inl f)) = (wd_R a cI cL cB cZ z (mq_sa S 27 f)) := rfl
theorem zt_f_X11_103 : Cond.fieldLink RX11 103 "ModalDeskModel" "waitWorlds" "[I" ∈ mq_T := mq_T_mem (mq_t5 (List.mem_of_getElem? (i := 222) rfl)) rfl
theorem zt_f_X11_298 : Cond.fieldLink RX11 298 "ModalDeskModel" "worlds" "I" ∈ mq_T := mq_T_mem (mq_t5 (List.mem_of_getElem? (i := 207) rfl)) rfl
theorem zs_wd_R_a_29_28 (a z : Nat → Nat) (cI cL cB cZ : ClassId) (S : mq_St) (f : Nat → Int32) : (wd_R a cI cL cB cZ z S).set 29 (a 29, .inl (cI, 470, .inl f)) = (wd_R a cI cL cB cZ z (mq_sa S 28 f)) := rfl
theorem zt_f_X11_106 : Cond.fieldLink RX11 106 "ModalDeskModel" "waitLines" "[I" ∈ mq_T := mq_T_mem (mq_t5 (List.mem_of_getElem? (i := 223) rfl)) rfl
theorem zs_wd_R_a_30_29 (a z : Nat → Nat) (cI cL cB cZ : ClassId) (S : mq_St) (f : Nat → Int32) : (wd_R a cI cL cB cZ z S).set 30 (a 30, .inl (cI, 470, .inl f)) = (wd_R a cI cL cB cZ z (mq_sa S 29 f)) := rfl
theorem zt_f_X11_109 : Cond.fieldLink RX11 109 "ModalDeskModel" "waitSet" "[I" ∈ mq_T := mq_T_mem (mq_t5 (List.mem_of_getElem? (i := 224) rfl)) rfl
theorem zt_m_X11_301 : Cond.methodLink RX11 301 yX11_copy ∈ mq_T := mq_T_mem (mq_t7 (List.mem_of_getElem? (i := 62) rfl)) rfl
theorem zx_wd_R_wd_A2_18_31 (a z : Nat → Nat) (cI cL cB cZ : ClassId) (S X : mq_St) : mq_setM (wd_R a cI cL cB cZ z S) [18, 31] (wd_A2 (mq_ad a [18, 31]) cI cL cB cZ (fun k => [10, 4700].getD k 0) X) = (wd_R a cI cL cB cZ z (mq_push S X [] [17, 30] [])) := rfl
theorem zs_wd_R_i_0_27 (a z : Nat → Nat) (cI cL cB cZ : ClassId) (S : mq_St) (v : Int32) : (wd_R a cI cL cB cZ z S).set 0 (a 0, .inr (11, ([.int (S.1 0), .ref (a 1), .int (S.1 1), .ref (a 2), .int (S.1 2), .ref (a 3), .ref (a 4), .ref (a 5), .int (S.1 3), .ref (a 6), .ref (a 7), .int (S.1 4), .int (S.1 5), .int (S.1 6), .ref (a 8), .ref (a 9), .ref (a 10), .ref (a 11), .ref (a 12), .int (S.1 7), .int (S.1 8), .int (S.1 9), .int (S.1 10), .int (S.1 11), .int (S.1 12), .int (S.1 13), .ref (a 13), .ref (a 14), .int (S.1 14), .int (S.1 15), .int (S.1 16), .ref (a 15), .int (S.1 17), .ref (a 16), .ref (a 17), .ref (a 18), .int (S.1 18), .int (S.1 19), .int (S.1 20), .int (S.1 21), .int (S.1 22), .int (S.1 23), .int (S.1 24), .int (S.1 25), .ref (a 19), .ref (a 20), .ref (a 21), .ref (a 22), .ref (a 23), .int (S.1 26), .ref (a 24), .ref (a 25), .int (S.1 27), .int (S.1 28), .ref (a 26), .ref (a 27), .ref (a 28), .ref (a 29), .ref (a 30), .ref (a 31), .ref (a 32), .int (S.1 29), .int (S.1 30), .ref (a 33), .ref (a 34), .int (S.1 31), .ref (a 35), .ref (a 36), .ref (a 37), .ref (a 38), .ref (a 39), .ref (a 40), .ref (a 41), .ref (a 42), .ref (a 43), .ref (a 44)] : List Value).set 52 (.int v))) = (wd_R a cI cL cB cZ z (mq_si S 27 v)) := rfl
/-! ModalDeskModel.waits(ZI)V -/
def zr_X11_waits : Room := { frames := 1, cells := 0, slots := 0, locals := 24 }
def zc_X11_waits : Cond := .code yX11_waits cX11_waits 3 none
def zf_X11_waits (N : Nat) (z : Nat → Nat) (v1 : Int32) (v2 : Int32) (S : mq_St) : Option (Unit × mq_St) := (mq_ck ((S.1 27)) 470 (mq_nS (mq_sa S 25 (upd (S.2.1 25) ((S.1 27)).toNatClampNeg (vp_nar .boolean (v1)))) (fun S2 => (mq_ck ((S2.1 27)) 470 (mq_nS (mq_sa S2 26 (upd (S2.2.1 26) ((S2.1 27)).toNatClampNeg (v2))) (fun S4 => (mq_ck ((S4.1 27)) 470 (mq_nS (mq_sa S4 27 (upd (S4.2.1 27) ((S4.1 27)).toNatClampNeg ((S4.1 25)))) (fun S6 => (mq_ck ((S6.1 27)) 470 (mq_nS (mq_sa S6 28 (upd (S6.2.1 28) ((S6.1 27)).toNatClampNeg ((S6.1 24)))) (fun S8 => (mq_ck ((S8.1 27)) 470 (mq_nS (mq_sa S8 29 (upd (S8.2.1 29) ((S8.1 27)).toNatClampNeg ((S8.1 26)))) (fun S10 => (mq_cl (zf_X11_copy N (fun k => [10, 4700].getD k 0) ((0 : Int32)) (((10 : Int32) * (S10.1 27))) (mq_pull S10 [] [17, 30] [])) (fun q11v q11s => mq_nS (mq_push S10 q11s [] [17, 30] []) (fun S13 => (mq_nS (mq_si S13 27 (((S13.1 27) + (1 : Int32)))) (fun S14 => (some ((), S14))))))))))))))))))))))
set_option maxHeartbeats 4000000 in
set_option maxRecDepth 100000 in
theorem zw_X11_waits_0 {p : Program} {l : Launch} {e : Env} {s : State} {m : MethodId} {args : Array Value} {below : List Frame} {meth : Method} {c : Code} {A : Nat → Prop} {D : va_G} {a z : Nat → Nat} {cI cL cB cZ : ClassId} {Q : State → Prop} {N : Nat} {res : Unit × mq_St} (C : mq_C p s m args c A D cI cL cB cZ cX11_waits 3 RX11 zc_X11_waits) (hret : ∀ (H : Heap) (locs : List Loc) (ls : Array Slot) (pc : Nat), decode cX11_waits pc = .ok (.return_, 1) → va_P D vwCl (wd_R a cI cL cB cZ z res.2) H → va_D A (wd_R a cI cL cB cZ z res.2) → va_S A s.heap H locs → W p l e zr_X11_waits s m args below meth c H locs 0 0 Q (F0 m pc ls [])) (v1 : Int32) (v2 : Int32) (S : mq_St) (H : Heap) (locs : List Loc) (ls : Array Slot) (h : zf_X11_waits N z v1 v2 S = some res) (hl : lv_has ls 3 [(0, .ref (a 0)), (1, .int (v1)), (2, .int (v2))]) (hP : va_P D vwCl (wd_R a cI cL cB cZ z S) H) (hD : va_D A (wd_R a cI cL cB cZ z S)) (hS : va_S A s.heap H locs) : W p l e zr_X11_waits s m args below meth c H locs 0 0 Q (F0 m 0 ls []) := by
  obtain ⟨hx, hb, hml, hown, hts, hK, hA⟩ := id C
  unfold zf_X11_waits at h
  refine lv_aload_n hx hb dX11_waits_0 rfl (lv_at hl 0 rfl) ?_
  refine va_get (D := D) (ci := 11) (v := .ref (a 26)) (C := RX11) (T := TX11) (N := 76) hx hb hts (zi_X11 _) hown hK hP 0 rfl rfl 54 (by decide) (hts _ (List.mem_cons_of_mem _ zt_f_X11_94)) (fun _ h9 => h9) rfl dX11_waits_1 ?_
  refine lv_aload_n hx hb dX11_waits_4 rfl (lv_at hl 0 rfl) ?_
  refine va_get (D := D) (ci := 11) (v := .int ((S.1 27))) (C := RX11) (T := TX11) (N := 76) hx hb hts (zi_X11 _) hown hK hP 0 rfl rfl 52 (by decide) (hts _ (List.mem_cons_of_mem _ zt_f_X11_292)) (fun _ h9 => h9) rfl dX11_waits_5 ?_
  refine lv_iload_n hx hb dX11_waits_8 rfl (lv_at hl 1 rfl) ?_
  have hi1 := mq_ck_in h
  replace h := mq_ck_go h
  refine mq_zast (w := wd_R a cI cL cB cZ z) (S := S) (f := S.2.1 25) hx hb hK hP hD hS 26 3 rfl rfl hi1 dX11_waits_9 25 (zs_wd_R_a_26_25 _ _ _ _ _ _ _ _) (fun S2 eS2 H locs hP hD hS => ?_)
  replace h := mq_nS_go eS2 h
  refine lv_aload_n hx hb dX11_waits_10 rfl (lv_at hl 0 rfl) ?_
  refine va_get (D := D) (ci := 11) (v := .ref (a 27)) (C := RX11) (T := TX11) (N := 76) hx hb hts (zi_X11 _) hown hK hP 0 rfl rfl 55 (by decide) (hts _ (List.mem_cons_of_mem _ zt_f_X11_97)) (fun _ h9 => h9) rfl dX11_waits_11 ?_
  refine lv_aload_n hx hb dX11_waits_14 rfl (lv_at hl 0 rfl) ?_
  refine va_get (D := D) (ci := 11) (v := .int ((S2.1 27))) (C := RX11) (T := TX11) (N := 76) hx hb hts (zi_X11 _) hown hK hP 0 rfl rfl 52 (by decide) (hts _ (List.mem_cons_of_mem _ zt_f_X11_292)) (fun _ h9 => h9) rfl dX11_waits_15 ?_
  refine lv_iload_n hx hb dX11_waits_18 rfl (lv_at hl 2 rfl) ?_
  have hi3 := mq_ck_in h
  replace h := mq_ck_go h
  refine mq_iast (w := wd_R a cI cL cB cZ z) (S := S2) (f := S2.2.1 26) hx hb hK hP hD hS 27 0 rfl rfl hi3 dX11_waits_19 26 (zs_wd_R_a_27_26 _ _ _ _ _ _ _ _) (fun S4 eS4 H locs hP hD hS => ?_)
  replace h := mq_nS_go eS4 h
  refine lv_aload_n hx hb dX11_waits_20 rfl (lv_at hl 0 rfl) ?_
  refine va_get (D := D) (ci := 11) (v := .ref (a 28)) (C := RX11) (T := TX11) (N := 76) hx hb hts (zi_X11 _) hown hK hP 0 rfl rfl 56 (by decide) (hts _ (List.mem_cons_of_mem _ zt_f_X11_100)) (fun _ h9 => h9) rfl dX11_waits_21 ?_
  refine lv_aload_n hx hb dX11_waits_24 rfl (lv_at hl 0 rfl) ?_
  refine va_get (D := D) (ci := 11) (v := .int ((S4.1 27))) (C := RX11) (T := TX11) (N := 76) hx hb hts (zi_X11 _) hown hK hP 0 rfl rfl 52 (by decide) (hts _ (List.mem_cons_of_mem _ zt_f_X11_292)) (fun _ h9 => h9) rfl dX11_waits_25 ?_
  refine lv_aload_n hx hb dX11_waits_28 rfl (lv_at hl 0 rfl) ?_
  refine va_get (D := D) (ci := 11) (v := .int ((S4.1 25))) (C := RX11) (T := TX11) (N := 76) hx hb hts (zi_X11 _) hown hK hP 0 rfl rfl 43 (by decide) (hts _ (List.mem_cons_of_mem _ zt_f_X11_295)) (fun _ h9 => h9) rfl dX11_waits_29 ?_
  have hi5 := mq_ck_in h
  replace h := mq_ck_go h
  refine mq_iast (w := wd_R a cI cL cB cZ z) (S := S4) (f := S4.2.1 27) hx hb hK hP hD hS 28 0 rfl rfl hi5 dX11_waits_32 27 (zs_wd_R_a_28_27 _ _ _ _ _ _ _ _) (fun S6 eS6 H locs hP hD hS => ?_)
  replace h := mq_nS_go eS6 h
  refine lv_aload_n hx hb dX11_waits_33 rfl (lv_at hl 0 rfl) ?_
  refine va_get (D := D) (ci := 11) (v := .ref (a 29)) (C := RX11) (T := TX11) (N := 76) hx hb hts (zi_X11 _) hown hK hP 0 rfl rfl 57 (by decide) (hts _ (List.mem_cons_of_mem _ zt_f_X11_103)) (fun _ h9 => h9) rfl dX11_waits_34 ?_
  refine lv_aload_n hx hb dX11_waits_37 rfl (lv_at hl 0 rfl) ?_
  refine va_get (D := D) (ci := 11) (v := .int ((S6.1 27))) (C := RX11) (T := TX11) (N := 76) hx hb hts (zi_X11 _) hown hK hP 0 rfl rfl 52 (by decide) (hts _ (List.mem_cons_of_mem _ zt_f_X11_292)) (fun _ h9 => h9) rfl dX11_waits_38 ?_
  refine lv_aload_n hx hb dX11_waits_41 rfl (lv_at hl 0 rfl) ?_
  refine va_get (D := D) (ci := 11) (v := .int ((S6.1 24))) (C := RX11) (T := TX11) (N := 76) hx hb hts (zi_X11 _) hown hK hP 0 rfl rfl 42 (by decide) (hts _ (List.mem_cons_of_mem _ zt_f_X11_298)) (fun _ h9 => h9) rfl dX11_waits_42 ?_
  have hi7 := mq_ck_in h
  replace h := mq_ck_go h
  refine mq_iast (w := wd_R a cI cL cB cZ z) (S := S6) (f := S6.2.1 28) hx hb hK hP hD hS 29 0 rfl rfl hi7 dX11_waits_45 28 (zs_wd_R_a_29_28 _ _ _ _ _ _ _ _) (fun S8 eS8 H locs hP hD hS => ?_)
  replace h := mq_nS_go eS8 h
  refine lv_aload_n hx hb dX11_waits_46 rfl (lv_at hl 0 rfl) ?_
  refine va_get (D := D) (ci := 11) (v := .ref (a 30)) (C := RX11) (T := TX11) (N := 76) hx hb hts (zi_X11 _) hown hK hP 0 rfl rfl 58 (by decide) (hts _ (List.mem_cons_of_mem _ zt_f_X11_106)) (fun _ h9 => h9) rfl dX11_waits_47 ?_
  refine lv_aload_n hx hb dX11_waits_50 rfl (lv_at hl 0 rfl) ?_
  refine va_get (D := D) (ci := 11) (v := .int ((S8.1 27))) (C := RX11) (T := TX11) (N := 76) hx hb hts (zi_X11 _) hown hK hP 0 rfl rfl 52 (by decide) (hts _ (List.mem_cons_of_mem _ zt_f_X11_292)) (fun _ h9 => h9) rfl dX11_waits_51 ?_
  refine lv_aload_n hx hb dX11_waits_54 rfl (lv_at hl 0 rfl) ?_
  refine va_get (D := D) (ci := 11) (v := .int ((S8.1 26))) (C := RX11) (T := TX11) (N := 76) hx hb hts (zi_X11 _) hown hK hP 0 rfl rfl 49 (by decide) (hts _ (List.mem_cons_of_mem _ zt_f_X11_289)) (fun _ h9 => h9) rfl dX11_waits_55 ?_
  have hi9 := mq_ck_in h
  replace h := mq_ck_go h
  refine mq_iast (w := wd_R a cI cL cB cZ z) (S := S8) (f := S8.2.1 29) hx hb hK hP hD hS 30 0 rfl rfl hi9 dX11_waits_58 29 (zs_wd_R_a_30_29 _ _ _ _ _ _ _ _) (fun S10 eS10 H locs hP hD hS => ?_)
  replace h := mq_nS_go eS10 h
  refine lv_aload_n hx hb dX11_waits_59 rfl (lv_at hl 0 rfl) ?_
  refine va_get (D := D) (ci := 11) (v := .ref (a 18)) (C := RX11) (T := TX11) (N := 76) hx hb hts (zi_X11 _) hown hK hP 0 rfl rfl 35 (by decide) (hts _ (List.mem_cons_of_mem _ zt_f_X11_69)) (fun _ h9 => h9) rfl dX11_waits_60 ?_
  refine lv_iconst (v := (0 : Int32)) hx hb dX11_waits_63 (by decide) ?_
  refine lv_aload_n hx hb dX11_waits_64 rfl (lv_at hl 0 rfl) ?_
  refine va_get (D := D) (ci := 11) (v := .ref (a 31)) (C := RX11) (T := TX11) (N := 76) hx hb hts (zi_X11 _) hown hK hP 0 rfl rfl 59 (by decide) (hts _ (List.mem_cons_of_mem _ zt_f_X11_109)) (fun _ h9 => h9) rfl dX11_waits_65 ?_
  refine lv_bipush (v := (10 : Int32)) hx hb dX11_waits_68 (by decide) ?_
  refine lv_aload_n hx hb dX11_waits_70 rfl (lv_at hl 0 rfl) ?_
  refine va_get (D := D) (ci := 11) (v := .int ((S10.1 27))) (C := RX11) (T := TX11) (N := 76) hx hb hts (zi_X11 _) hown hK hP 0 rfl rfl 52 (by decide) (hts _ (List.mem_cons_of_mem _ zt_f_X11_292)) (fun _ h9 => h9) rfl dX11_waits_71 ?_
  refine lv_imul hx hb dX11_waits_74 ?_
  obtain ⟨q11, hc12, h⟩ := mq_cl_go h
  refine zv_X11_copy (a := mq_ad a [18, 31]) (z := (fun k => [10, 4700].getD k 0)) [18, 31] C zt_m_X11_301 ⟨by decide, by decide⟩ hc12 rfl (by decide) (ws' := (wd_R a cI cL cB cZ z (mq_push S10 q11.2 [] [17, 30] []))) (zx_wd_R_wd_A2_18_31 _ _ _ _ _ _ _ _) hP hD hS hl.1 (Nat.le_of_ble_eq_true rfl) dX11_waits_75 (fun H locs hP hD hS => ?_)
  obtain ⟨S13, eS13⟩ : ∃ y, y = mq_push S10 q11.2 [] [17, 30] [] := ⟨_, rfl⟩
  replace h := mq_nS_go eS13 h
  rw [← eS13] at hP hD
  refine lv_aload_n hx hb dX11_waits_78 rfl (lv_at hl 0 rfl) ?_
  refine lv_dup hx hb dX11_waits_79 rfl ?_
  refine va_get (D := D) (ci := 11) (v := .int ((S13.1 27))) (C := RX11) (T := TX11) (N := 76) hx hb hts (zi_X11 _) hown hK hP 0 rfl rfl 52 (by decide) (hts _ (List.mem_cons_of_mem _ zt_f_X11_292)) (fun _ h9 => h9) rfl dX11_waits_80 ?_
  refine lv_iconst (v := (1 : Int32)) hx hb dX11_waits_83 (by decide) ?_
  refine lv_iadd hx hb dX11_waits_84 ?_
  refine mq_put (w := wd_R a cI cL cB cZ z) (S := S13) (D := D) (ci := 11) (v := ((S13.1 27) + (1 : Int32))) (ty := .int) (C := RX11) (T := TX11) (N := 76) hx hb hts (zi_X11 _) tyX11 tyX11_ok nmX11 hown hK hP hD hS 0 rfl rfl 52 (by decide) (hts _ (List.mem_cons_of_mem _ zt_f_X11_292)) (fun _ h9 => h9) rfl (by decide +kernel) rfl rfl (Nat.le_of_ble_eq_true rfl) dX11_waits_85 27 (zs_wd_R_i_0_27 _ _ _ _ _ _ _ _) (fun S14 eS14 H locs hP hD hS => ?_)
  replace h := mq_nS_go eS14 h
  cases h
  exact hret H locs ls 88 dX11_waits_88 hP hD hS
set_option maxHeartbeats 4000000 in
set_option maxRecDepth 100000 in
theorem zm_X11_waits (l : Launch) (D : va_G) (a z : Nat → Nat) (cI cL cB cZ : ClassId) (sz N : Nat) (v1 : Int32) (v2 : Int32) (S : mq_St) (res : Unit × mq_St) (h : zf_X11_waits N z v1 v2 S = some res) : Met l yX11_waits (zc_X11_waits :: mq_T) zr_X11_waits (va_Pc [.ref (a 0), .int (v1), .int (v2)] (fun U => U.heap.size = sz ∧ va_P D vwCl (wd_R a cI cL cB cZ z S) U.heap ∧ va_K D vwCl (mq_tys cI cL cB cZ) U ∧ va_D (fun _ => True) (wd_R a cI cL cB cZ z S))) (va_Qv (fun u : mq_St => u = res.2) (fun u t => va_P D vwCl (wd_R a cI cL cB cZ z u) t.heap ∧ va_K D vwCl (mq_tys cI cL cB cZ) t ∧ va_D (va_A (wd_R a cI cL cB cZ z S) sz) (wd_R a cI cL cB cZ z u)) (va_A (wd_R a cI cL cB cZ z S) sz)) 0 0 (va_A (wd_R a cI cL cB cZ z S) sz) := by
  refine Met.ofW (cc := cX11_waits) (maxL := 3) (ret := none) (by decide) rfl ?_
  intro p e s m args below meth c s₁ B hml hv
  obtain ⟨rfl, hsz, hP, hK, hD0⟩ := hv
  have hr := B.returns
  have hlocks := B.notSynchronized
  have hts := atoms_spec (ws := zc_X11_waits :: mq_T) B.pre
  have hown : s.vm.findClass RX11 = some m.cls := findClass_of_methodNamed B.named
  subst hsz
  have hD := hD0.self (sz := s.heap.size)
  generalize hAe : va_A (wd_R a cI cL cB cZ z S) s.heap.size = A at hD ⊢
  have hA : ∀ q : Nat, s.heap.size ≤ q → A q := fun q h => by rw [← hAe]; exact Or.inr h
  have hl := lv_entry ([.ref (a 0), .int (v1), .int (v2)]) (n := 3) (Nat.le_of_ble_eq_true rfl)
  rw [lg_entry_eq]
  generalize (lg_sl ([.ref (a 0), .int (v1), .int (v2)]) ++ List.replicate (3 - (lg_sl ([.ref (a 0), .int (v1), .int (v2)])).length) Slot.unset).toArray = ls at hl ⊢
  have hl : lv_has ls 3 [(0, .ref (a 0)), (1, .int (v1)), (2, .int (v2))] := hl
  refine zw_X11_waits_0 (A := A) ⟨B.exec, B.bytes, hml, hown, hts, hK, hA⟩ (fun H locs ls pc dg hP hD hS => ?_) v1 v2 S s.heap [] ls h hl hP hD va_S.rf
  exact W.vret B.exec B.bytes hr (fun t ht hW => ⟨⟨_, rfl, rfl, by rw [ht]; exact hP, va_K.moved hW.alike hK, hD⟩, hS.F ht⟩) hS.2.2 dg
theorem zt_X11_waits_c : zc_X11_waits ∈ mq_T := mq_T_mem (mq_t7 (List.mem_of_getElem? (i := 103) rfl)) rfl
theorem zt_X11_waits_i : Cond.instanceMethod yX11_waits ∈ mq_T := mq_T_mem (mq_t7 (List.mem_of_getElem? (i := 102) rfl)) rfl
theorem zt_X11_waits_s : Cond.selects RX11 yX11_waits yX11_waits ∈ mq_T := mq_T_at 95 (by decide +kernel)
set_option maxHeartbeats 4000000 in
theorem zk_X11_waits {p : Program} {l : Launch} {e : Env} {R : Room} {s : State} {m : MethodId} {args : Array Value} {below : List Frame} {meth : Method} {c : Code} {A : Nat → Prop} {D : va_G} {a z : Nat → Nat} {cI cL cB cZ : ClassId} {Q : State → Prop} {cc : ByteArray} {nL idx pc N : Nat} {own : String} {c1 : Cond} {H : Heap} {locs : List Loc} {ls : Array Slot} {rest : List Value} {S : mq_St} {res : Unit × mq_St} {v1 : Int32} {v2 : Int32} (C : mq_C p s m args c A D cI cL cB cZ cc nL own c1) (hlk : Cond.methodLink own idx yX11_waits ∈ mq_T) (hR : zr_X11_waits.frames + 1 ≤ R.frames ∧ 8 + (3 + 11) + zr_X11_waits.locals ≤ R.locals) (h : zf_X11_waits N z v1 v2 S = some res) (hP : va_P D vwCl (wd_R a cI cL cB cZ z S) H) (hD : va_D A (wd_R a cI cL cB cZ z S)) (hS : va_S A s.heap H locs) (hls : ls.size = nL) (hrest : (rest.map fun v => v.category).sum ≤ 8) (hdg : decode cc pc = .ok (.invokevirtual idx, 3)) (kk : ∀ (H1 : Heap) (locs1 : List Loc), va_P D vwCl (wd_R a cI cL cB cZ z res.2) H1 → va_D A (wd_R a cI cL cB cZ z res.2) → va_S A s.heap H1 locs1 → W p l e R s m args below meth c H1 locs1 0 0 Q (F0 m (pc + 3) ls rest)) : W p l e R s m args below meth c H locs 0 0 Q (F0 m pc ls (.int (v2) :: .int (v1) :: .ref (a 0) :: rest)) := by
  obtain ⟨hx, hb, hml, hown, hts, hK, hA⟩ := C
  have hFc := mq_freeI hD hS hA
  refine va_callv (va_runV (As := [.int (v1), .int (v2)]) (rest := rest) ⟨hx, hb, hml, hown, hts⟩ (zm_X11_waits l D a z cI cL cB cZ H.size N v1 v2 S res h) (cwV 2 hts (mq_goodL (mq_wsV hlk zt_X11_waits_i zt_X11_waits_s zt_ini_X11 zt_X11_waits_c)) rfl rfl rfl (by decide +kernel) hR) ⟨fun a U g mk q => ⟨q.1, q.2.1, q.2.2.1, va_K.moved (u := U) (U := U.calling g mk a) (Vm.Alike.refl U.vm) q.2.2.2.1, q.2.2.2.2⟩, zy_R_0 hK hP, fun U hU hW => ⟨rfl, by rw [hU], by rw [hU]; exact hP, va_K.moved hW.alike hK, hD.weaken (fun _ _ _ _ => trivial)⟩⟩ rfl rfl hls rfl (lv_room hrest) hdg ⟨Nat.zero_le _, Nat.zero_le _⟩) hS (fun q _ h => hFc q h) hFc (fun u t H1 locs ht hvm hw hB hz1 hk1 hS => ?_)
  subst hw
  obtain ⟨hP1, hK1, hD1⟩ := hB
  rw [ht] at hP1
  exact kk H1 locs hP1 (hD1.weaken (fun _ _ _ h => hFc _ h)) hS
theorem zs_wd_R_i_0_24 (a z : Nat → Nat) (cI cL cB cZ : ClassId) (S : mq_St) (v : Int32) : (wd_R a cI cL cB cZ z S).set 0 (a 0, .inr (11, ([.int (S.1 0), .ref (a 1), .int (S.1 1), .ref (a 2), .int (S.1 2), .ref (a 3), .ref (a 4), .ref (a 5), .int (S.1 3), .ref (a 6), .ref (a 7), .int (S.1 4), .int (S.1 5), .int (S.1 6), .ref (a 8), .ref (a 9), .ref (a 10), .ref (a 11), .ref (a 12), .int (S.1 7), .int (S.1 8), .int (S.1 9), .int (S.1 10), .int (S.1 11), .int (S.1 12), .int (S.1 13), .ref (a 13), .ref (a 14), .int (S.1 14), .int (S.1 15), .int (S.1 16), .ref (a 15), .int (S.1 17), .ref (a 16), .ref (a 17), .ref (a 18), .int (S.1 18), .int (S.1 19), .int (S.1 20), .int (S.1 21), .int (S.1 22), .int (S.1 23), .int (S.1 24), .int (S.1 25), .ref (a 19), .ref (a 20), .ref (a 21), .ref (a 22), .ref (a 23), .int (S.1 26), .ref (a 24), .ref (a 25), .int (S.1 27), .int (S.1 28), .ref (a 26), .ref (a 27), .ref (a 28), .ref (a 29), .ref (a 30), .ref (a 31), .ref (a 32), .int (S.1 29), .int (S.1 30), .ref (a 33), .ref (a 34), .int (S.1 31), .ref (a 35), .ref (a 36), .ref (a 37), .ref (a 38), .ref (a 39), .ref (a 40), .ref (a 41), .ref (a 42), .ref (a 43), .ref (a 44)] : List Value).set 42 (.int v))) = (wd_R a cI cL cB cZ z (mq_si S 24 v)) := rfl
theorem zt_f_X11_305 : Cond.fieldLink RX11 305 "ModalDeskModel" "begun" "I" ∈ mq_T := mq_T_mem (mq_t5 (List.mem_of_getElem? (i := 203) rfl)) rfl
theorem zs_wd_R_i_0_20 (a z : Nat → Nat) (cI cL cB cZ : ClassId) (S : mq_St) (v : Int32) : (wd_R a cI cL cB cZ z S).set 0 (a 0, .inr (11, ([.int (S.1 0), .ref (a 1), .int (S.1 1), .ref (a 2), .int (S.1 2), .ref (a 3), .ref (a 4), .ref (a 5), .int (S.1 3), .ref (a 6), .ref (a 7), .int (S.1 4), .int (S.1 5), .int (S.1 6), .ref (a 8), .ref (a 9), .ref (a 10), .ref (a 11), .ref (a 12), .int (S.1 7), .int (S.1 8), .int (S.1 9), .int (S.1 10), .int (S.1 11), .int (S.1 12), .int (S.1 13), .ref (a 13), .ref (a 14), .int (S.1 14), .int (S.1 15), .int (S.1 16), .ref (a 15), .int (S.1 17), .ref (a 16), .ref (a 17), .ref (a 18), .int (S.1 18), .int (S.1 19), .int (S.1 20), .int (S.1 21), .int (S.1 22), .int (S.1 23), .int (S.1 24), .int (S.1 25), .ref (a 19), .ref (a 20), .ref (a 21), .ref (a 22), .ref (a 23), .int (S.1 26), .ref (a 24), .ref (a 25), .int (S.1 27), .int (S.1 28), .ref (a 26), .ref (a 27), .ref (a 28), .ref (a 29), .ref (a 30), .ref (a 31), .ref (a 32), .int (S.1 29), .int (S.1 30), .ref (a 33), .ref (a 34), .int (S.1 31), .ref (a 35), .ref (a 36), .ref (a 37), .ref (a 38), .ref (a 39), .ref (a 40), .ref (a 41), .ref (a 42), .ref (a 43), .ref (a 44)] : List Value).set 38 (.int v))) = (wd_R a cI cL cB cZ z (mq_si S 20 v)) := rfl
theorem zt_f_X11_78 : Cond.fieldLink RX11 78 "ModalDeskModel" "parent" "[I" ∈ mq_T := mq_T_mem (mq_t5 (List.mem_of_getElem? (i := 211) rfl)) rfl
theorem zs_wd_R_a_21_20 (a z : Nat → Nat) (cI cL cB cZ : ClassId) (S : mq_St) (f : Nat → Int32) : (wd_R a cI cL cB cZ z S).set 21 (a 21, .inl (cI, 60, .inl f)) = (wd_R a cI cL cB cZ z (mq_sa S 20 f)) := rfl
theorem zt_f_X11_81 : Cond.fieldLink RX11 81 "ModalDeskModel" "depth" "[I" ∈ mq_T := mq_T_mem (mq_t5 (List.mem_of_getElem? (i := 212) rfl)) rfl
theorem zs_wd_R_a_22_21 (a z : Nat → Nat) (cI cL cB cZ : ClassId) (S : mq_St) (f : Nat → Int32) : (wd_R a cI cL cB cZ z S).set 22 (a 22, .inl (cI, 60, .inl f)) = (wd_R a cI cL cB cZ z (mq_sa S 21 f)) := rfl
theorem zt_f_X11_308 : Cond.fieldLink RX11 308 "ModalDeskModel" "longest" "I" ∈ mq_T := mq_T_mem (mq_t5 (List.mem_of_getElem? (i := 205) rfl)) rfl
theorem zs_wd_R_i_0_22 (a z : Nat → Nat) (cI cL cB cZ : ClassId) (S : mq_St) (v : Int32) : (wd_R a cI cL cB cZ z S).set 0 (a 0, .inr (11, ([.int (S.1 0), .ref (a 1), .int (S.1 1), .ref (a 2), .int (S.1 2), .ref (a 3), .ref (a 4), .ref (a 5), .int (S.1 3), .ref (a 6), .ref (a 7), .int (S.1 4), .int (S.1 5), .int (S.1 6), .ref (a 8), .ref (a 9), .ref (a 10), .ref (a 11), .ref (a 12), .int (S.1 7), .int (S.1 8), .int (S.1 9), .int (S.1 10), .int (S.1 11), .int (S.1 12), .int (S.1 13), .ref (a 13), .ref (a 14), .int (S.1 14), .int (S.1 15), .int (S.1 16), .ref (a 15), .int (S.1 17), .ref (a 16), .ref (a 17), .ref (a 18), .int (S.1 18), .int (S.1 19), .int (S.1 20), .int (S.1 21), .int (S.1 22), .int (S.1 23), .int (S.1 24), .int (S.1 25), .ref (a 19), .ref (a 20), .ref (a 21), .ref (a 22), .ref (a 23), .int (S.1 26), .ref (a 24), .ref (a 25), .int (S.1 27), .int (S.1 28), .ref (a 26), .ref (a 27), .ref (a 28), .ref (a 29), .ref (a 30), .ref (a 31), .ref (a 32), .int (S.1 29), .int (S.1 30), .ref (a 33), .ref (a 34), .int (S.1 31), .ref (a 35), .ref (a 36), .ref (a 37), .ref (a 38), .ref (a 39), .ref (a 40), .ref (a 41), .ref (a 42), .ref (a 43), .ref (a 44)] : List Value).set 40 (.int v))) = (wd_R a cI cL cB cZ z (mq_si S 22 v)) := rfl
theorem zt_f_X11_72 : Cond.fieldLink RX11 72 "ModalDeskModel" "start" "[I" ∈ mq_T := mq_T_mem (mq_t5 (List.mem_of_getElem? (i := 209) rfl)) rfl
theorem zx_wd_R_wd_A2_18_19 (a z : Nat → Nat) (cI cL cB cZ : ClassId) (S X : mq_St) : mq_setM (wd_R a cI cL cB cZ z S) [18, 19] (wd_A2 (mq_ad a [18, 19]) cI cL cB cZ (fun k => [10, 600].getD k 0) X) = (wd_R a cI cL cB cZ z (mq_push S X [] [17, 18] [])) := rfl
theorem zs_wd_R_i_0_25 (a z : Nat → Nat) (cI cL cB cZ : ClassId) (S : mq_St) (v : Int32) : (wd_R a cI cL cB cZ z S).set 0 (a 0, .inr (11, ([.int (S.1 0), .ref (a 1), .int (S.1 1), .ref (a 2), .int (S.1 2), .ref (a 3), .ref (a 4), .ref (a 5), .int (S.1 3), .ref (a 6), .ref (a 7), .int (S.1 4), .int (S.1 5), .int (S.1 6), .ref (a 8), .ref (a 9), .ref (a 10), .ref (a 11), .ref (a 12), .int (S.1 7), .int (S.1 8), .int (S.1 9), .int (S.1 10), .int (S.1 11), .int (S.1 12), .int (S.1 13), .ref (a 13), .ref (a 14), .int (S.1 14), .int (S.1 15), .int (S.1 16), .ref (a 15), .int (S.1 17), .ref (a 16), .ref (a 17), .ref (a 18), .int (S.1 18), .int (S.1 19), .int (S.1 20), .int (S.1 21), .int (S.1 22), .int (S.1 23), .int (S.1 24), .int (S.1 25), .ref (a 19), .ref (a 20), .ref (a 21), .ref (a 22), .ref (a 23), .int (S.1 26), .ref (a 24), .ref (a 25), .int (S.1 27), .int (S.1 28), .ref (a 26), .ref (a 27), .ref (a 28), .ref (a 29), .ref (a 30), .ref (a 31), .ref (a 32), .int (S.1 29), .int (S.1 30), .ref (a 33), .ref (a 34), .int (S.1 31), .ref (a 35), .ref (a 36), .ref (a 37), .ref (a 38), .ref (a 39), .ref (a 40), .ref (a 41), .ref (a 42), .ref (a 43), .ref (a 44)] : List Value).set 43 (.int v))) = (wd_R a cI cL cB cZ z (mq_si S 25 v)) := rfl
/-! ModalDeskModel.begins(I)V -/
def zr_X11_begins : Room := { frames := 1, cells := 0, slots := 0, locals := 24 }
def zc_X11_begins : Cond := .code yX11_begins cX11_begins 3 none
def zf_X11_begins_82 (N : Nat) (z : Nat → Nat) (v2 : Int32) (t1 : Int32) (S : mq_St) : Option (Unit × mq_St) := (mq_nS (mq_si S 22 (t1)) (fun S13 => (mq_cl (zf_X11_copy N (fun k => [10, 600].getD k 0) ((0 : Int32)) (((10 : Int32) * v2)) (mq_pull S13 [] [17, 18] [])) (fun q14v q14s => mq_nS (mq_push S13 q14s [] [17, 18] []) (fun S16 => (mq_nS (mq_si S16 25 (v2)) (fun S17 => (some ((), S17)))))))))
def zf_X11_begins_54 (N : Nat) (z : Nat → Nat) (v2 : Int32) (t1 : Int32) (t2 : Int32) (S : mq_St) : Option (Unit × mq_St) := (mq_ck (t1) 60 (mq_nS (mq_sa S 21 (upd (S.2.1 21) (t1).toNatClampNeg (t2))) (fun S9 => (mq_ck (v2) 60 (if (S9.2.1 21 (v2).toNatClampNeg) ≤ (S9.1 22) then (zf_X11_begins_82 N z (v2) ((S9.1 22)) S9) else (mq_ck (v2) 60 (zf_X11_begins_82 N z (v2) ((S9.2.1 21 (v2).toNatClampNeg)) S9)))))))
def zf_X11_begins (N : Nat) (z : Nat → Nat) (v1 : Int32) (S : mq_St) : Option (Unit × mq_St) := (mq_nI ((S.1 24)) (fun x1 => (mq_nS (mq_si S 24 (((S.1 24) + (1 : Int32)))) (fun S2 => (mq_nS (mq_si S2 20 (((S2.1 20) + (1 : Int32)))) (fun S3 => (mq_ck (x1) 60 (mq_nS (mq_sa S3 20 (upd (S3.2.1 20) (x1).toNatClampNeg (v1))) (fun S5 => (if v1 = (-1 : Int32) then (zf_X11_begins_54 N z (x1) (x1) ((1 : Int32)) S5) else (mq_ck (v1) 60 (zf_X11_begins_54 N z (x1) (x1) (((S5.2.1 21 (v1).toNatClampNeg) + (1 : Int32))) S5))))))))))))
set_option maxHeartbeats 4000000 in
set_option maxRecDepth 100000 in
theorem zw_X11_begins_82 {p : Program} {l : Launch} {e : Env} {s : State} {m : MethodId} {args : Array Value} {below : List Frame} {meth : Method} {c : Code} {A : Nat → Prop} {D : va_G} {a z : Nat → Nat} {cI cL cB cZ : ClassId} {Q : State → Prop} {N : Nat} {res : Unit × mq_St} (C : mq_C p s m args c A D cI cL cB cZ cX11_begins 3 RX11 zc_X11_begins) (hret : ∀ (H : Heap) (locs : List Loc) (ls : Array Slot) (pc : Nat), decode cX11_begins pc = .ok (.return_, 1) → va_P D vwCl (wd_R a cI cL cB cZ z res.2) H → va_D A (wd_R a cI cL cB cZ z res.2) → va_S A s.heap H locs → W p l e zr_X11_begins s m args below meth c H locs 0 0 Q (F0 m pc ls [])) (v2 : Int32) (t1 : Int32) (S : mq_St) (H : Heap) (locs : List Loc) (ls : Array Slot) (h : zf_X11_begins_82 N z v2 t1 S = some res) (hl : lv_has ls 3 [(0, .ref (a 0)), (2, .int (v2))]) (hP : va_P D vwCl (wd_R a cI cL cB cZ z S) H) (hD : va_D A (wd_R a cI cL cB cZ z S)) (hS : va_S A s.heap H locs) : W p l e zr_X11_begins s m args below meth c H locs 0 0 Q (F0 m 82 ls [.int (t1), .ref (a 0)]) := by
  obtain ⟨hx, hb, hml, hown, hts, hK, hA⟩ := id C
  unfold zf_X11_begins_82 at h
  refine mq_put (w := wd_R a cI cL cB cZ z) (S := S) (D := D) (ci := 11) (v := t1) (ty := .int) (C := RX11) (T := TX11) (N := 76) hx hb hts (zi_X11 _) tyX11 tyX11_ok nmX11 hown hK hP hD hS 0 rfl rfl 40 (by decide) (hts _ (List.mem_cons_of_mem _ zt_f_X11_308)) (fun _ h9 => h9) rfl (by decide +kernel) rfl rfl (Nat.le_of_ble_eq_true rfl) dX11_begins_82 22 (zs_wd_R_i_0_22 _ _ _ _ _ _ _ _) (fun S13 eS13 H locs hP hD hS => ?_)
  replace h := mq_nS_go eS13 h
  refine lv_aload_n hx hb dX11_begins_85 rfl (lv_at hl 0 rfl) ?_
  refine va_get (D := D) (ci := 11) (v := .ref (a 18)) (C := RX11) (T := TX11) (N := 76) hx hb hts (zi_X11 _) hown hK hP 0 rfl rfl 35 (by decide) (hts _ (List.mem_cons_of_mem _ zt_f_X11_69)) (fun _ h9 => h9) rfl dX11_begins_86 ?_
  refine lv_iconst (v := (0 : Int32)) hx hb dX11_begins_89 (by decide) ?_
  refine lv_aload_n hx hb dX11_begins_90 rfl (lv_at hl 0 rfl) ?_
  refine va_get (D := D) (ci := 11) (v := .ref (a 19)) (C := RX11) (T := TX11) (N := 76) hx hb hts (zi_X11 _) hown hK hP 0 rfl rfl 44 (by decide) (hts _ (List.mem_cons_of_mem _ zt_f_X11_72)) (fun _ h9 => h9) rfl dX11_begins_91 ?_
  refine lv_bipush (v := (10 : Int32)) hx hb dX11_begins_94 (by decide) ?_
  refine lv_iload_n hx hb dX11_begins_96 rfl (lv_at hl 1 rfl) ?_
  refine lv_imul hx hb dX11_begins_97 ?_
  obtain ⟨q14, hc15, h⟩ := mq_cl_go h
  refine zv_X11_copy (a := mq_ad a [18, 19]) (z := (fun k => [10, 600].getD k 0)) [18, 19] C zt_m_X11_301 ⟨by decide, by decide⟩ hc15 rfl (by decide) (ws' := (wd_R a cI cL cB cZ z (mq_push S13 q14.2 [] [17, 18] []))) (zx_wd_R_wd_A2_18_19 _ _ _ _ _ _ _ _) hP hD hS hl.1 (Nat.le_of_ble_eq_true rfl) dX11_begins_98 (fun H locs hP hD hS => ?_)
  obtain ⟨S16, eS16⟩ : ∃ y, y = mq_push S13 q14.2 [] [17, 18] [] := ⟨_, rfl⟩
  replace h := mq_nS_go eS16 h
  rw [← eS16] at hP hD
  refine lv_aload_n hx hb dX11_begins_101 rfl (lv_at hl 0 rfl) ?_
  refine lv_iload_n hx hb dX11_begins_102 rfl (lv_at hl 1 rfl) ?_
  refine mq_put (w := wd_R a cI cL cB cZ z) (S := S16) (D := D) (ci := 11) (v := v2) (ty := .int) (C := RX11) (T := TX11) (N := 76) hx hb hts (zi_X11 _) tyX11 tyX11_ok nmX11 hown hK hP hD hS 0 rfl rfl 43 (by decide) (hts _ (List.mem_cons_of_mem _ zt_f_X11_295)) (fun _ h9 => h9) rfl (by decide +kernel) rfl rfl (Nat.le_of_ble_eq_true rfl) dX11_begins_103 25 (zs_wd_R_i_0_25 _ _ _ _ _ _ _ _) (fun S17 eS17 H locs hP hD hS => ?_)
  replace h := mq_nS_go eS17 h
  cases h
  exact hret H locs ls 106 dX11_begins_106 hP hD hS
set_option maxHeartbeats 4000000 in
set_option maxRecDepth 100000 in
theorem zw_X11_begins_54 {p : Program} {l : Launch} {e : Env} {s : State} {m : MethodId} {args : Array Value} {below : List Frame} {meth : Method} {c : Code} {A : Nat → Prop} {D : va_G} {a z : Nat → Nat} {cI cL cB cZ : ClassId} {Q : State → Prop} {N : Nat} {res : Unit × mq_St} (C : mq_C p s m args c A D cI cL cB cZ cX11_begins 3 RX11 zc_X11_begins) (hret : ∀ (H : Heap) (locs : List Loc) (ls : Array Slot) (pc : Nat), decode cX11_begins pc = .ok (.return_, 1) → va_P D vwCl (wd_R a cI cL cB cZ z res.2) H → va_D A (wd_R a cI cL cB cZ z res.2) → va_S A s.heap H locs → W p l e zr_X11_begins s m args below meth c H locs 0 0 Q (F0 m pc ls [])) (v2 : Int32) (t1 : Int32) (t2 : Int32) (S : mq_St) (H : Heap) (locs : List Loc) (ls : Array Slot) (h : zf_X11_begins_54 N z v2 t1 t2 S = some res) (hl : lv_has ls 3 [(0, .ref (a 0)), (2, .int (v2))]) (hP : va_P D vwCl (wd_R a cI cL cB cZ z S) H) (hD : va_D A (wd_R a cI cL cB cZ z S)) (hS : va_S A s.heap H locs) : W p l e zr_X11_begins s m args below meth c H locs 0 0 Q (F0 m 54 ls [.int (t2), .int (t1), .ref (a 22)]) := by
  obtain ⟨hx, hb, hml, hown, hts, hK, hA⟩ := id C
  unfold zf_X11_begins_54 at h
  have hi8 := mq_ck_in h
  replace h := mq_ck_go h
  refine mq_iast (w := wd_R a cI cL cB cZ z) (S := S) (f := S.2.1 21) hx hb hK hP hD hS 22 0 rfl rfl hi8 dX11_begins_54 21 (zs_wd_R_a_22_21 _ _ _ _ _ _ _ _) (fun S9 eS9 H locs hP hD hS => ?_)
  replace h := mq_nS_go eS9 h
  refine lv_aload_n hx hb dX11_begins_55 rfl (lv_at hl 0 rfl) ?_
  refine lv_aload_n hx hb dX11_begins_56 rfl (lv_at hl 0 rfl) ?_
  refine va_get (D := D) (ci := 11) (v := .ref (a 22)) (C := RX11) (T := TX11) (N := 76) hx hb hts (zi_X11 _) hown hK hP 0 rfl rfl 47 (by decide) (hts _ (List.mem_cons_of_mem _ zt_f_X11_81)) (fun _ h9 => h9) rfl dX11_begins_57 ?_
  refine lv_iload_n hx hb dX11_begins_60 rfl (lv_at hl 1 rfl) ?_
  have hi10 := mq_ck_in h
  replace h := mq_ck_go h
  refine va_iald (f := S9.2.1 21) hx hb hK hP 22 0 rfl rfl hi10 dX11_begins_61 ?_
  refine lv_aload_n hx hb dX11_begins_62 rfl (lv_at hl 0 rfl) ?_
  refine va_get (D := D) (ci := 11) (v := .int ((S9.1 22))) (C := RX11) (T := TX11) (N := 76) hx hb hts (zi_X11 _) hown hK hP 0 rfl rfl 40 (by decide) (hts _ (List.mem_cons_of_mem _ zt_f_X11_308)) (fun _ h9 => h9) rfl dX11_begins_63 ?_
  refine lv_icmp_le (tgt := 78) hx hb dX11_begins_66 (by decide) (fun c12 => ?_) (fun c12 => ?_)
  · replace h := mq_it c12 h
    refine lv_aload_n hx hb dX11_begins_78 rfl (lv_at hl 0 rfl) ?_
    refine va_get (D := D) (ci := 11) (v := .int ((S9.1 22))) (C := RX11) (T := TX11) (N := 76) hx hb hts (zi_X11 _) hown hK hP 0 rfl rfl 40 (by decide) (hts _ (List.mem_cons_of_mem _ zt_f_X11_308)) (fun _ h9 => h9) rfl dX11_begins_79 ?_
    exact zw_X11_begins_82 C hret (v2) ((S9.1 22)) S9 H locs ls h (lv_sub hl [0, 1] rfl) hP hD hS
  · replace h := mq_if c12 h
    refine lv_aload_n hx hb dX11_begins_69 rfl (lv_at hl 0 rfl) ?_
    refine va_get (D := D) (ci := 11) (v := .ref (a 22)) (C := RX11) (T := TX11) (N := 76) hx hb hts (zi_X11 _) hown hK hP 0 rfl rfl 47 (by decide) (hts _ (List.mem_cons_of_mem _ zt_f_X11_81)) (fun _ h9 => h9) rfl dX11_begins_70 ?_
    refine lv_iload_n hx hb dX11_begins_73 rfl (lv_at hl 1 rfl) ?_
    have hi11 := mq_ck_in h
    replace h := mq_ck_go h
    refine va_iald (f := S9.2.1 21) hx hb hK hP 22 0 rfl rfl hi11 dX11_begins_74 ?_
    refine lv_goto (tgt := 82) hx hb dX11_begins_75 (by decide) ?_
    exact zw_X11_begins_82 C hret (v2) ((S9.2.1 21 (v2).toNatClampNeg)) S9 H locs ls h (lv_sub hl [0, 1] rfl) hP hD hS
set_option maxHeartbeats 4000000 in
set_option maxRecDepth 100000 in
theorem zw_X11_begins_0 {p : Program} {l : Launch} {e : Env} {s : State} {m : MethodId} {args : Array Value} {below : List Frame} {meth : Method} {c : Code} {A : Nat → Prop} {D : va_G} {a z : Nat → Nat} {cI cL cB cZ : ClassId} {Q : State → Prop} {N : Nat} {res : Unit × mq_St} (C : mq_C p s m args c A D cI cL cB cZ cX11_begins 3 RX11 zc_X11_begins) (hret : ∀ (H : Heap) (locs : List Loc) (ls : Array Slot) (pc : Nat), decode cX11_begins pc = .ok (.return_, 1) → va_P D vwCl (wd_R a cI cL cB cZ z res.2) H → va_D A (wd_R a cI cL cB cZ z res.2) → va_S A s.heap H locs → W p l e zr_X11_begins s m args below meth c H locs 0 0 Q (F0 m pc ls [])) (v1 : Int32) (S : mq_St) (H : Heap) (locs : List Loc) (ls : Array Slot) (h : zf_X11_begins N z v1 S = some res) (hl : lv_has ls 3 [(0, .ref (a 0)), (1, .int (v1))]) (hP : va_P D vwCl (wd_R a cI cL cB cZ z S) H) (hD : va_D A (wd_R a cI cL cB cZ z S)) (hS : va_S A s.heap H locs) : W p l e zr_X11_begins s m args below meth c H locs 0 0 Q (F0 m 0 ls []) := by
  obtain ⟨hx, hb, hml, hown, hts, hK, hA⟩ := id C
  unfold zf_X11_begins at h
  refine lv_aload_n hx hb dX11_begins_0 rfl (lv_at hl 0 rfl) ?_
  refine va_get (D := D) (ci := 11) (v := .int ((S.1 24))) (C := RX11) (T := TX11) (N := 76) hx hb hts (zi_X11 _) hown hK hP 0 rfl rfl 42 (by decide) (hts _ (List.mem_cons_of_mem _ zt_f_X11_298)) (fun _ h9 => h9) rfl dX11_begins_1 ?_
  refine lv_topi (fun x1 ex1 => ?_)
  replace h := mq_nI_go ex1 h
  refine lv_istore_n (lv' := [(2, .int (x1)), (0, .ref (a 0)), (1, .int (v1))]) hx hb dX11_begins_4 rfl hl (by decide) rfl (fun ls hl => ?_)
  refine lv_aload_n hx hb dX11_begins_5 rfl (lv_at hl 1 rfl) ?_
  refine lv_dup hx hb dX11_begins_6 rfl ?_
  refine va_get (D := D) (ci := 11) (v := .int ((S.1 24))) (C := RX11) (T := TX11) (N := 76) hx hb hts (zi_X11 _) hown hK hP 0 rfl rfl 42 (by decide) (hts _ (List.mem_cons_of_mem _ zt_f_X11_298)) (fun _ h9 => h9) rfl dX11_begins_7 ?_
  refine lv_iconst (v := (1 : Int32)) hx hb dX11_begins_10 (by decide) ?_
  refine lv_iadd hx hb dX11_begins_11 ?_
  refine mq_put (w := wd_R a cI cL cB cZ z) (S := S) (D := D) (ci := 11) (v := ((S.1 24) + (1 : Int32))) (ty := .int) (C := RX11) (T := TX11) (N := 76) hx hb hts (zi_X11 _) tyX11 tyX11_ok nmX11 hown hK hP hD hS 0 rfl rfl 42 (by decide) (hts _ (List.mem_cons_of_mem _ zt_f_X11_298)) (fun _ h9 => h9) rfl (by decide +kernel) rfl rfl (Nat.le_of_ble_eq_true rfl) dX11_begins_12 24 (zs_wd_R_i_0_24 _ _ _ _ _ _ _ _) (fun S2 eS2 H locs hP hD hS => ?_)
  replace h := mq_nS_go eS2 h
  refine lv_aload_n hx hb dX11_begins_15 rfl (lv_at hl 1 rfl) ?_
  refine lv_dup hx hb dX11_begins_16 rfl ?_
  refine va_get (D := D) (ci := 11) (v := .int ((S2.1 20))) (C := RX11) (T := TX11) (N := 76) hx hb hts (zi_X11 _) hown hK hP 0 rfl rfl 38 (by decide) (hts _ (List.mem_cons_of_mem _ zt_f_X11_305)) (fun _ h9 => h9) rfl dX11_begins_17 ?_
  refine lv_iconst (v := (1 : Int32)) hx hb dX11_begins_20 (by decide) ?_
  refine lv_iadd hx hb dX11_begins_21 ?_
  refine mq_put (w := wd_R a cI cL cB cZ z) (S := S2) (D := D) (ci := 11) (v := ((S2.1 20) + (1 : Int32))) (ty := .int) (C := RX11) (T := TX11) (N := 76) hx hb hts (zi_X11 _) tyX11 tyX11_ok nmX11 hown hK hP hD hS 0 rfl rfl 38 (by decide) (hts _ (List.mem_cons_of_mem _ zt_f_X11_305)) (fun _ h9 => h9) rfl (by decide +kernel) rfl rfl (Nat.le_of_ble_eq_true rfl) dX11_begins_22 20 (zs_wd_R_i_0_20 _ _ _ _ _ _ _ _) (fun S3 eS3 H locs hP hD hS => ?_)
  replace h := mq_nS_go eS3 h
  refine lv_aload_n hx hb dX11_begins_25 rfl (lv_at hl 1 rfl) ?_
  refine va_get (D := D) (ci := 11) (v := .ref (a 21)) (C := RX11) (T := TX11) (N := 76) hx hb hts (zi_X11 _) hown hK hP 0 rfl rfl 46 (by decide) (hts _ (List.mem_cons_of_mem _ zt_f_X11_78)) (fun _ h9 => h9) rfl dX11_begins_26 ?_
  refine lv_iload_n hx hb dX11_begins_29 rfl (lv_at hl 0 rfl) ?_
  refine lv_iload_n hx hb dX11_begins_30 rfl (lv_at hl 2 rfl) ?_
  have hi4 := mq_ck_in h
  replace h := mq_ck_go h
  refine mq_iast (w := wd_R a cI cL cB cZ z) (S := S3) (f := S3.2.1 20) hx hb hK hP hD hS 21 0 rfl rfl hi4 dX11_begins_31 20 (zs_wd_R_a_21_20 _ _ _ _ _ _ _ _) (fun S5 eS5 H locs hP hD hS => ?_)
  replace h := mq_nS_go eS5 h
  refine lv_aload_n hx hb dX11_begins_32 rfl (lv_at hl 1 rfl) ?_
  refine va_get (D := D) (ci := 11) (v := .ref (a 22)) (C := RX11) (T := TX11) (N := 76) hx hb hts (zi_X11 _) hown hK hP 0 rfl rfl 47 (by decide) (hts _ (List.mem_cons_of_mem _ zt_f_X11_81)) (fun _ h9 => h9) rfl dX11_begins_33 ?_
  refine lv_iload_n hx hb dX11_begins_36 rfl (lv_at hl 0 rfl) ?_
  refine lv_iload_n hx hb dX11_begins_37 rfl (lv_at hl 2 rfl) ?_
  refine lv_iconst (v := (-1 : Int32)) hx hb dX11_begins_38 (by decide) ?_
  refine lv_icmp_ne (tgt := 46) hx hb dX11_begins_39 (by decide) (fun c7 => ?_) (fun c7 => ?_)
  · replace h := mq_if c7 h
    refine lv_aload_n hx hb dX11_begins_46 rfl (lv_at hl 1 rfl) ?_
    refine va_get (D := D) (ci := 11) (v := .ref (a 22)) (C := RX11) (T := TX11) (N := 76) hx hb hts (zi_X11 _) hown hK hP 0 rfl rfl 47 (by decide) (hts _ (List.mem_cons_of_mem _ zt_f_X11_81)) (fun _ h9 => h9) rfl dX11_begins_47 ?_
    refine lv_iload_n hx hb dX11_begins_50 rfl (lv_at hl 2 rfl) ?_
    have hi6 := mq_ck_in h
    replace h := mq_ck_go h
    refine va_iald (f := S5.2.1 21) hx hb hK hP 22 0 rfl rfl hi6 dX11_begins_51 ?_
    refine lv_iconst (v := (1 : Int32)) hx hb dX11_begins_52 (by decide) ?_
    refine lv_iadd hx hb dX11_begins_53 ?_
    exact zw_X11_begins_54 C hret (x1) (x1) (((S5.2.1 21 (v1).toNatClampNeg) + (1 : Int32))) S5 H locs ls h (lv_sub hl [1, 0] rfl) hP hD hS
  · replace h := mq_it (by simpa using c7) h
    refine lv_iconst (v := (1 : Int32)) hx hb dX11_begins_42 (by decide) ?_
    refine lv_goto (tgt := 54) hx hb dX11_begins_43 (by decide) ?_
    exact zw_X11_begins_54 C hret (x1) (x1) ((1 : Int32)) S5 H locs ls h (lv_sub hl [1, 0] rfl) hP hD hS
set_option maxHeartbeats 4000000 in
set_option maxRecDepth 100000 in
theorem zm_X11_begins (l : Launch) (D : va_G) (a z : Nat → Nat) (cI cL cB cZ : ClassId) (sz N : Nat) (v1 : Int32) (S : mq_St) (res : Unit × mq_St) (h : zf_X11_begins N z v1 S = some res) : Met l yX11_begins (zc_X11_begins :: mq_T) zr_X11_begins (va_Pc [.ref (a 0), .int (v1)] (fun U => U.heap.size = sz ∧ va_P D vwCl (wd_R a cI cL cB cZ z S) U.heap ∧ va_K D vwCl (mq_tys cI cL cB cZ) U ∧ va_D (fun _ => True) (wd_R a cI cL cB cZ z S))) (va_Qv (fun u : mq_St => u = res.2) (fun u t => va_P D vwCl (wd_R a cI cL cB cZ z u) t.heap ∧ va_K D vwCl (mq_tys cI cL cB cZ) t ∧ va_D (va_A (wd_R a cI cL cB cZ z S) sz) (wd_R a cI cL cB cZ z u)) (va_A (wd_R a cI cL cB cZ z S) sz)) 0 0 (va_A (wd_R a cI cL cB cZ z S) sz) := by
  refine Met.ofW (cc := cX11_begins) (maxL := 3) (ret := none) (by decide) rfl ?_
  intro p e s m args below meth c s₁ B hml hv
  obtain ⟨rfl, hsz, hP, hK, hD0⟩ := hv
  have hr := B.returns
  have hlocks := B.notSynchronized
  have hts := atoms_spec (ws := zc_X11_begins :: mq_T) B.pre
  have hown : s.vm.findClass RX11 = some m.cls := findClass_of_methodNamed B.named
  subst hsz
  have hD := hD0.self (sz := s.heap.size)
  generalize hAe : va_A (wd_R a cI cL cB cZ z S) s.heap.size = A at hD ⊢
  have hA : ∀ q : Nat, s.heap.size ≤ q → A q := fun q h => by rw [← hAe]; exact Or.inr h
  have hl := lv_entry ([.ref (a 0), .int (v1)]) (n := 3) (Nat.le_of_ble_eq_true rfl)
  rw [lg_entry_eq]
  generalize (lg_sl ([.ref (a 0), .int (v1)]) ++ List.replicate (3 - (lg_sl ([.ref (a 0), .int (v1)])).length) Slot.unset).toArray = ls at hl ⊢
  have hl : lv_has ls 3 [(0, .ref (a 0)), (1, .int (v1))] := hl
  refine zw_X11_begins_0 (A := A) ⟨B.exec, B.bytes, hml, hown, hts, hK, hA⟩ (fun H locs ls pc dg hP hD hS => ?_) v1 S s.heap [] ls h hl hP hD va_S.rf
  exact W.vret B.exec B.bytes hr (fun t ht hW => ⟨⟨_, rfl, rfl, by rw [ht]; exact hP, va_K.moved hW.alike hK, hD⟩, hS.F ht⟩) hS.2.2 dg
theorem zt_X11_begins_c : zc_X11_begins ∈ mq_T := mq_T_mem (mq_t7 (List.mem_of_getElem? (i := 61) rfl)) rfl
theorem zt_X11_begins_i : Cond.instanceMethod yX11_begins ∈ mq_T := mq_T_mem (mq_t7 (List.mem_of_getElem? (i := 60) rfl)) rfl
theorem zt_X11_begins_s : Cond.selects RX11 yX11_begins yX11_begins ∈ mq_T := mq_T_at 86 (by decide +kernel)
set_option maxHeartbeats 4000000 in
theorem zk_X11_begins {p : Program} {l : Launch} {e : Env} {R : Room} {s : State} {m : MethodId} {args : Array Value} {below : List Frame} {meth : Method} {c : Code} {A : Nat → Prop} {D : va_G} {a z : Nat → Nat} {cI cL cB cZ : ClassId} {Q : State → Prop} {cc : ByteArray} {nL idx pc N : Nat} {own : String} {c1 : Cond} {H : Heap} {locs : List Loc} {ls : Array Slot} {rest : List Value} {S : mq_St} {res : Unit × mq_St} {v1 : Int32} (C : mq_C p s m args c A D cI cL cB cZ cc nL own c1) (hlk : Cond.methodLink own idx yX11_begins ∈ mq_T) (hR : zr_X11_begins.frames + 1 ≤ R.frames ∧ 8 + (3 + 11) + zr_X11_begins.locals ≤ R.locals) (h : zf_X11_begins N z v1 S = some res) (hP : va_P D vwCl (wd_R a cI cL cB cZ z S) H) (hD : va_D A (wd_R a cI cL cB cZ z S)) (hS : va_S A s.heap H locs) (hls : ls.size = nL) (hrest : (rest.map fun v => v.category).sum ≤ 8) (hdg : decode cc pc = .ok (.invokevirtual idx, 3)) (kk : ∀ (H1 : Heap) (locs1 : List Loc), va_P D vwCl (wd_R a cI cL cB cZ z res.2) H1 → va_D A (wd_R a cI cL cB cZ z res.2) → va_S A s.heap H1 locs1 → W p l e R s m args below meth c H1 locs1 0 0 Q (F0 m (pc + 3) ls rest)) : W p l e R s m args below meth c H locs 0 0 Q (F0 m pc ls (.int (v1) :: .ref (a 0) :: rest)) := by
  obtain ⟨hx, hb, hml, hown, hts, hK, hA⟩ := C
  have hFc := mq_freeI hD hS hA
  refine va_callv (va_runV (As := [.int (v1)]) (rest := rest) ⟨hx, hb, hml, hown, hts⟩ (zm_X11_begins l D a z cI cL cB cZ H.size N v1 S res h) (cwV 1 hts (mq_goodL (mq_wsV hlk zt_X11_begins_i zt_X11_begins_s zt_ini_X11 zt_X11_begins_c)) rfl rfl rfl (by decide +kernel) hR) ⟨fun a U g mk q => ⟨q.1, q.2.1, q.2.2.1, va_K.moved (u := U) (U := U.calling g mk a) (Vm.Alike.refl U.vm) q.2.2.2.1, q.2.2.2.2⟩, zy_R_0 hK hP, fun U hU hW => ⟨rfl, by rw [hU], by rw [hU]; exact hP, va_K.moved hW.alike hK, hD.weaken (fun _ _ _ _ => trivial)⟩⟩ rfl rfl hls rfl (lv_room hrest) hdg ⟨Nat.zero_le _, Nat.zero_le _⟩) hS (fun q _ h => hFc q h) hFc (fun u t H1 locs ht hvm hw hB hz1 hk1 hS => ?_)
  subst hw
  obtain ⟨hP1, hK1, hD1⟩ := hB
  rw [ht] at hP1
  exact kk H1 locs hP1 (hD1.weaken (fun _ _ _ h => hFc _ h)) hS
theorem zt_m_X11_311 : Cond.methodLink RX11 311 yX11_clash ∈ mq_T := mq_T_mem (mq_t7 (List.mem_of_getElem? (i := 69) rfl)) rfl
theorem zt_m_X11_318 : Cond.methodLink RX11 318 yX11_firstBoth ∈ mq_T := mq_T_mem (mq_t7 (List.mem_of_getElem? (i := 84) rfl)) rfl
theorem zt_m_X11_328 : Cond.methodLink RX11 328 yX11_firstSelf ∈ mq_T := mq_T_mem (mq_t7 (List.mem_of_getElem? (i := 92) rfl)) rfl
theorem zt_m_X11_331 : Cond.methodLink RX11 331 yX11_firstEither ∈ mq_T := mq_T_mem (mq_t7 (List.mem_of_getElem? (i := 96) rfl)) rfl
theorem zt_m_X11_321 : Cond.methodLink RX11 321 yX11_step ∈ mq_T := mq_T_mem (mq_t7 (List.mem_of_getElem? (i := 88) rfl)) rfl
theorem zt_m_X11_314 : Cond.methodLink RX11 314 yX11_line ∈ mq_T := mq_T_mem (mq_t7 (List.mem_of_getElem? (i := 80) rfl)) rfl
theorem zt_f_X11_338 : Cond.fieldLink RX11 338 "ModalDeskModel" "seconds" "I" ∈ mq_T := mq_T_mem (mq_t5 (List.mem_of_getElem? (i := 218) rfl)) rfl
theorem zs_wd_R_i_0_28 (a z : Nat → Nat) (cI cL cB cZ : ClassId) (S : mq_St) (v : Int32) : (wd_R a cI cL cB cZ z S).set 0 (a 0, .inr (11, ([.int (S.1 0), .ref (a 1), .int (S.1 1), .ref (a 2), .int (S.1 2), .ref (a 3), .ref (a 4), .ref (a 5), .int (S.1 3), .ref (a 6), .ref (a 7), .int (S.1 4), .int (S.1 5), .int (S.1 6), .ref (a 8), .ref (a 9), .ref (a 10), .ref (a 11), .ref (a 12), .int (S.1 7), .int (S.1 8), .int (S.1 9), .int (S.1 10), .int (S.1 11), .int (S.1 12), .int (S.1 13), .ref (a 13), .ref (a 14), .int (S.1 14), .int (S.1 15), .int (S.1 16), .ref (a 15), .int (S.1 17), .ref (a 16), .ref (a 17), .ref (a 18), .int (S.1 18), .int (S.1 19), .int (S.1 20), .int (S.1 21), .int (S.1 22), .int (S.1 23), .int (S.1 24), .int (S.1 25), .ref (a 19), .ref (a 20), .ref (a 21), .ref (a 22), .ref (a 23), .int (S.1 26), .ref (a 24), .ref (a 25), .int (S.1 27), .int (S.1 28), .ref (a 26), .ref (a 27), .ref (a 28), .ref (a 29), .ref (a 30), .ref (a 31), .ref (a 32), .int (S.1 29), .int (S.1 30), .ref (a 33), .ref (a 34), .int (S.1 31), .ref (a 35), .ref (a 36), .ref (a 37), .ref (a 38), .ref (a 39), .ref (a 40), .ref (a 41), .ref (a 42), .ref (a 43), .ref (a 44)] : List Value).set 53 (.int v))) = (wd_R a cI cL cB cZ z (mq_si S 28 v)) := rfl
theorem zt_m_X11_334 : Cond.methodLink RX11 334 yX11_waits ∈ mq_T := mq_T_mem (mq_t7 (List.mem_of_getElem? (i := 100) rfl)) rfl
theorem zt_m_X11_324 : Cond.methodLink RX11 324 yX11_put ∈ mq_T := mq_T_mem (mq_t7 (List.mem_of_getElem? (i := 55) rfl)) rfl
theorem zt_f_X11_84 : Cond.fieldLink RX11 84 "ModalDeskModel" "leads" "[Z" ∈ mq_T := mq_T_mem (mq_t5 (List.mem_of_getElem? (i := 213) rfl)) rfl
theorem zs_wd_R_a_23_22 (a z : Nat → Nat) (cI cL cB cZ : ClassId) (S : mq_St) (f : Nat → Int32) : (wd_R a cI cL cB cZ z S).set 23 (a 23, .inl (cZ, 3600, .inl f)) = (wd_R a cI cL cB cZ z (mq_sa S 22 f)) := rfl
/-! ModalDeskModel.down()Z -/
def zr_X11_down : Room := { frames := 3, cells := 0, slots := 0, locals := 65 }
def zc_X11_down : Cond := .code yX11_down cX11_down 3 (some .boolean)
def zf_X11_down_136b (N : Nat) (z : Nat → Nat) (k136 : Int32 → mq_St → Option (Int32 × mq_St)) (v2 : Int32) (S : mq_St) : Option (Int32 × mq_St) := (if (60 : Int32) ≤ v2 then (mq_cl (zf_X11_waits N z ((0 : Int32)) ((-1 : Int32)) S) (fun q70v S72 => (mq_cz ((0 : Int32)) (some ((0 : Int32), S72))))) else (mq_ck ((((60 : Int32) * (S.1 25)) + v2)) 3600 (mq_nS (mq_sa S 22 (upd (S.2.1 22) ((((60 : Int32) * (S.1 25)) + v2)).toNatClampNeg (vp_nar .boolean ((0 : Int32))))) (fun S75 => (mq_nI (v2 + (1 : Int32)) (fun x76 => (k136 (x76) S75)))))))
def zf_X11_down_136 (N : Nat) (z : Nat → Nat) : Nat → Int32 → mq_St → Option (Int32 × mq_St)
  | 0, _, _ => none
  | n + 1, v2, S => zf_X11_down_136b N z (fun v2 S => zf_X11_down_136 N z n v2 S) v2 S
def zf_X11_down_236 (N : Nat) (z : Nat → Nat) (k0 : mq_St → Option (Int32 × mq_St)) (S : mq_St) : Option (Int32 × mq_St) := (k0 S)
def zf_X11_down_zb (N : Nat) (z : Nat → Nat) (k0 : mq_St → Option (Int32 × mq_St)) (S : mq_St) : Option (Int32 × mq_St) := (if (S.1 23) = (0 : Int32) then (mq_cp (zf_X11_clash N z S) (fun q2 => (mq_nI (q2) (fun x4 => (if x4 = (-1 : Int32) then (mq_cp (zf_X11_firstBoth N z S) (fun q5 => (mq_nI (q5) (fun x7 => (if x7 = (-1 : Int32) then (mq_cp (zf_X11_firstSelf N z S) (fun q8 => (mq_nI (q8) (fun x10 => (if x10 = (-1 : Int32) then (mq_cp (zf_X11_firstEither N z S) (fun q11 => (mq_nI (q11) (fun x13 => (if x13 = (-1 : Int32) then (mq_nI ((0 : Int32)) (fun x32 => (zf_X11_down_136 N z N (x32) S))) else (mq_cl (zf_X11_step N z S) (fun q14v S16 => (if q14v = (0 : Int32) then (zf_X11_down_236 N z k0 S16) else (mq_cl (zf_X11_line N z ((3 : Int32)) (x13) S16) (fun q17v S19 => (if q17v = (0 : Int32) then (zf_X11_down_236 N z k0 S19) else (if (S19.1 28) = (400 : Int32) then (mq_nS (mq_si S19 23 ((-4 : Int32))) (fun S28 => (zf_X11_down_236 N z k0 S28))) else (mq_nS (mq_si S19 28 (((S19.1 28) + (1 : Int32)))) (fun S20 => (mq_cl (zf_X11_waits N z ((1 : Int32)) (x13) S20) (fun q21v S23 => (mq_ck (x13) 300 (mq_cl (zf_X11_put N (fun k => [10].getD k 0) ((0 : Int32)) ((S23.2.1 3 (x13).toNatClampNeg)) (mq_pull S23 [] [17] [])) (fun q25v q25s => mq_nS (mq_push S23 q25s [] [17] []) (fun S27 => (zf_X11_down_236 N z k0 S27))))))))))))))))))))) else (mq_cl (zf_X11_step N z S) (fun q34v S36 => (if q34v = (0 : Int32) then (k0 S36) else (mq_cl (zf_X11_line N z ((2 : Int32)) (x10) S36) (fun q37v S39 => (if q37v = (0 : Int32) then (k0 S39) else (mq_ck (x10) 300 (mq_cl (zf_X11_put N (fun k => [10].getD k 0) ((0 : Int32)) ((S39.2.1 3 (x10).toNatClampNeg)) (mq_pull S39 [] [17] [])) (fun q41v q41s => mq_nS (mq_push S39 q41s [] [17] []) (fun S43 => (k0 S43)))))))))))))))) else (mq_cl (zf_X11_step N z S) (fun q47v S49 => (if q47v = (0 : Int32) then (k0 S49) else (mq_cl (zf_X11_line N z ((1 : Int32)) (x7) S49) (fun q50v S52 => (if q50v = (0 : Int32) then (k0 S52) else (mq_ck (x7) 300 (mq_cl (zf_X11_put N (fun k => [10].getD k 0) ((0 : Int32)) ((S52.2.1 3 (x7).toNatClampNeg)) (mq_pull S52 [] [17] [])) (fun q54v q54s => mq_nS (mq_push S52 q54s [] [17] []) (fun S56 => (mq_ck (x7) 300 (mq_cl (zf_X11_put N (fun k => [10].getD k 0) ((0 : Int32)) ((S56.2.1 4 (x7).toNatClampNeg)) (mq_pull S56 [] [17] [])) (fun q58v q58s => mq_nS (mq_push S56 q58s [] [17] []) (fun S60 => (k0 S60)))))))))))))))))))) else (mq_cl (zf_X11_line N z ((0 : Int32)) (x4) S) (fun q64v S66 => (mq_cz (q64v) (some (q64v, S66)))))))))) else (mq_cz ((0 : Int32)) (some ((0 : Int32), S))))
def zf_X11_down_z (N : Nat) (z : Nat → Nat) : Nat → mq_St → Option (Int32 × mq_St)
  | 0, _ => none
  | n + 1, S => zf_X11_down_zb N z (fun S => zf_X11_down_z N z n S) S
def zf_X11_down (N : Nat) (z : Nat → Nat) (S : mq_St) : Option (Int32 × mq_St) := (zf_X11_down_z N z N S)
set_option maxHeartbeats 4000000 in
set_option maxRecDepth 100000 in
theorem zw_X11_down_136b {p : Program} {l : Launch} {e : Env} {s : State} {m : MethodId} {args : Array Value} {below : List Frame} {meth : Method} {c : Code} {A : Nat → Prop} {D : va_G} {a z : Nat → Nat} {cI cL cB cZ : ClassId} {Q : State → Prop} {N : Nat} {res : Int32 × mq_St} {k136 : Int32 → mq_St → Option (Int32 × mq_St)} (C : mq_C p s m args c A D cI cL cB cZ cX11_down 3 RX11 zc_X11_down) (hret : ∀ (H : Heap) (locs : List Loc) (ls : Array Slot) (pc : Nat), decode cX11_down pc = .ok (.ireturn, 1) → narrow .boolean (.int res.1) = .int res.1 → va_P D vwCl (wd_R a cI cL cB cZ z res.2) H → va_D A (wd_R a cI cL cB cZ z res.2) → va_S A s.heap H locs → W p l e zr_X11_down s m args below meth c H locs 0 0 Q (F0 m pc ls [.int res.1])) (hk136 : ∀ (v2 : Int32) (S : mq_St) (H : Heap) (locs : List Loc) (ls : Array Slot), k136 v2 S = some res → lv_has ls 3 [(0, .ref (a 0)), (2, .int (v2))] → va_P D vwCl (wd_R a cI cL cB cZ z S) H → va_D A (wd_R a cI cL cB cZ z S) → va_S A s.heap H locs → W p l e zr_X11_down s m args below meth c H locs 0 0 Q (F0 m 136 ls [])) (v2 : Int32) (S : mq_St) (H : Heap) (locs : List Loc) (ls : Array Slot) (h : zf_X11_down_136b N z k136 v2 S = some res) (hl : lv_has ls 3 [(0, .ref (a 0)), (2, .int (v2))]) (hP : va_P D vwCl (wd_R a cI cL cB cZ z S) H) (hD : va_D A (wd_R a cI cL cB cZ z S)) (hS : va_S A s.heap H locs) : W p l e zr_X11_down s m args below meth c H locs 0 0 Q (F0 m 136 ls []) := by
  obtain ⟨hx, hb, hml, hown, hts, hK, hA⟩ := id C
  unfold zf_X11_down_136b at h
  refine lv_iload_n hx hb dX11_down_136 rfl (lv_at hl 1 rfl) ?_
  refine lv_bipush (v := (60 : Int32)) hx hb dX11_down_137 (by decide) ?_
  refine lv_icmp_ge (tgt := 163) hx hb dX11_down_139 (by decide) (fun c77 => ?_) (fun c77 => ?_)
  · replace h := mq_it c77 h
    refine lv_aload_n hx hb dX11_down_163 rfl (lv_at hl 0 rfl) ?_
    refine lv_iconst (v := (0 : Int32)) hx hb dX11_down_164 (by decide) ?_
    refine lv_iconst (v := (-1 : Int32)) hx hb dX11_down_165 (by decide) ?_
    obtain ⟨q70, hc71, h⟩ := mq_cl_go h
    refine zk_X11_waits C zt_m_X11_334 ⟨by decide, by decide⟩ hc71 hP hD hS hl.1 (Nat.le_of_ble_eq_true rfl) dX11_down_166 (fun H locs hP hD hS => ?_)
    obtain ⟨S72, eS72⟩ : ∃ y, y = q70.2 := ⟨_, rfl⟩
    rw [← eS72] at hP hD h
    refine lv_iconst (v := (0 : Int32)) hx hb dX11_down_169 (by decide) ?_
    have hz73 := mq_cz_in h
    replace h := mq_cz_go h
    cases h
    exact hret H locs ls 170 dX11_down_170 hz73.1 hP hD hS
  · replace h := mq_if c77 h
    refine lv_aload_n hx hb dX11_down_142 rfl (lv_at hl 0 rfl) ?_
    refine va_get (D := D) (ci := 11) (v := .ref (a 23)) (C := RX11) (T := TX11) (N := 76) hx hb hts (zi_X11 _) hown hK hP 0 rfl rfl 48 (by decide) (hts _ (List.mem_cons_of_mem _ zt_f_X11_84)) (fun _ h9 => h9) rfl dX11_down_143 ?_
    refine lv_bipush (v := (60 : Int32)) hx hb dX11_down_146 (by decide) ?_
    refine lv_aload_n hx hb dX11_down_148 rfl (lv_at hl 0 rfl) ?_
    refine va_get (D := D) (ci := 11) (v := .int ((S.1 25))) (C := RX11) (T := TX11) (N := 76) hx hb hts (zi_X11 _) hown hK hP 0 rfl rfl 43 (by decide) (hts _ (List.mem_cons_of_mem _ zt_f_X11_295)) (fun _ h9 => h9) rfl dX11_down_149 ?_
    refine lv_imul hx hb dX11_down_152 ?_
    refine lv_iload_n hx hb dX11_down_153 rfl (lv_at hl 1 rfl) ?_
    refine lv_iadd hx hb dX11_down_154 ?_
    refine lv_iconst (v := (0 : Int32)) hx hb dX11_down_155 (by decide) ?_
    have hi74 := mq_ck_in h
    replace h := mq_ck_go h
    refine mq_zast (w := wd_R a cI cL cB cZ z) (S := S) (f := S.2.1 22) hx hb hK hP hD hS 23 3 rfl rfl hi74 dX11_down_156 22 (zs_wd_R_a_23_22 _ _ _ _ _ _ _ _) (fun S75 eS75 H locs hP hD hS => ?_)
    replace h := mq_nS_go eS75 h
    obtain ⟨x76, ex76⟩ : ∃ y : Int32, y = v2 + (1 : Int32) := ⟨_, rfl⟩
    replace h := mq_nI_go ex76 h
    refine lv_iinc (v := x76) (lv' := [(2, .int (x76)), (0, .ref (a 0))]) hx hb dX11_down_157 hl (k := 1) rfl (by rw [ex76]; rfl) (by decide) rfl (fun ls hl => ?_)
    refine lv_goto (tgt := 136) hx hb dX11_down_160 (by decide) ?_
    exact hk136 (x76) S75 H locs ls h (lv_sub hl [1, 0] rfl) hP hD hS
set_option maxHeartbeats 4000000 in
set_option maxRecDepth 100000 in
theorem zw_X11_down_136 {p : Program} {l : Launch} {e : Env} {s : State} {m : MethodId} {args : Array Value} {below : List Frame} {meth : Method} {c : Code} {A : Nat → Prop} {D : va_G} {a z : Nat → Nat} {cI cL cB cZ : ClassId} {Q : State → Prop} {N : Nat} {res : Int32 × mq_St} (C : mq_C p s m args c A D cI cL cB cZ cX11_down 3 RX11 zc_X11_down) (hret : ∀ (H : Heap) (locs : List Loc) (ls : Array Slot) (pc : Nat), decode cX11_down pc = .ok (.ireturn, 1) → narrow .boolean (.int res.1) = .int res.1 → va_P D vwCl (wd_R a cI cL cB cZ z res.2) H → va_D A (wd_R a cI cL cB cZ z res.2) → va_S A s.heap H locs → W p l e zr_X11_down s m args below meth c H locs 0 0 Q (F0 m pc ls [.int res.1])) : ∀ (n : Nat) (v2 : Int32) (S : mq_St) (H : Heap) (locs : List Loc) (ls : Array Slot) (h : zf_X11_down_136 N z n v2 S = some res) (hl : lv_has ls 3 [(0, .ref (a 0)), (2, .int (v2))]) (hP : va_P D vwCl (wd_R a cI cL cB cZ z S) H) (hD : va_D A (wd_R a cI cL cB cZ z S)) (hS : va_S A s.heap H locs), W p l e zr_X11_down s m args below meth c H locs 0 0 Q (F0 m 136 ls []) := by
  intro n
  induction n with
  | zero =>
    intro v2 S H locs ls h hl hP hD hS
    exact nomatch (show (none : Option (Int32 × mq_St)) = some res from h)
  | succ n ih =>
    intro v2 S H locs ls h hl hP hD hS
    exact zw_X11_down_136b C hret (fun v2 S H locs ls h hl hP hD hS => ih v2 S H locs ls h hl hP hD hS) v2 S H locs ls h hl hP hD hS
set_option maxHeartbeats 4000000 in
set_option maxRecDepth 100000 in
theorem zw_X11_down_236 {p : Program} {l : Launch} {e : Env} {s : State} {m : MethodId} {args : Array Value} {below : List Frame} {meth : Method} {c : Code} {A : Nat → Prop} {D : va_G} {a z : Nat → Nat} {cI cL cB cZ : ClassId} {Q : State → Prop} {N : Nat} {res : Int32 × mq_St} {k0 : mq_St → Option (Int32 × mq_St)} (C : mq_C p s m args c A D cI cL cB cZ cX11_down 3 RX11 zc_X11_down) (hret : ∀ (H : Heap) (locs : List Loc) (ls : Array Slot) (pc : Nat), decode cX11_down pc = .ok (.ireturn, 1) → narrow .boolean (.int res.1) = .int res.1 → va_P D vwCl (wd_R a cI cL cB cZ z res.2) H → va_D A (wd_R a cI cL cB cZ z res.2) → va_S A s.heap H locs → W p l e zr_X11_down s m args below meth c H locs 0 0 Q (F0 m pc ls [.int res.1])) (hk0 : ∀ (S : mq_St) (H : Heap) (locs : List Loc) (ls : Array Slot), k0 S = some res → lv_has ls 3 [(0, .ref (a 0))] → va_P D vwCl (wd_R a cI cL cB cZ z S) H → va_D A (wd_R a cI cL cB cZ z S) → va_S A s.heap H locs → W p l e zr_X11_down s m args below meth c H locs 0 0 Q (F0 m 0 ls [])) (S : mq_St) (H : Heap) (locs : List Loc) (ls : Array Slot) (h : zf_X11_down_236 N z k0 S = some res) (hl : lv_has ls 3 [(0, .ref (a 0))]) (hP : va_P D vwCl (wd_R a cI cL cB cZ z S) H) (hD : va_D A (wd_R a cI cL cB cZ z S)) (hS : va_S A s.heap H locs) : W p l e zr_X11_down s m args below meth c H locs 0 0 Q (F0 m 236 ls []) := by
  obtain ⟨hx, hb, hml, hown, hts, hK, hA⟩ := id C
  unfold zf_X11_down_236 at h
  refine lv_goto (tgt := 0) hx hb dX11_down_236 (by decide) ?_
  exact hk0 S H locs ls h (lv_sub hl [0] rfl) hP hD hS
set_option maxHeartbeats 4000000 in
set_option maxRecDepth 100000 in
theorem zw_X11_down_zb {p : Program} {l : Launch} {e : Env} {s : State} {m : MethodId} {args : Array Value} {below : List Frame} {meth : Method} {c : Code} {A : Nat → Prop} {D : va_G} {a z : Nat → Nat} {cI cL cB cZ : ClassId} {Q : State → Prop} {N : Nat} {res : Int32 × mq_St} {k0 : mq_St → Option (Int32 × mq_St)} (C : mq_C p s m args c A D cI cL cB cZ cX11_down 3 RX11 zc_X11_down) (hret : ∀ (H : Heap) (locs : List Loc) (ls : Array Slot) (pc : Nat), decode cX11_down pc = .ok (.ireturn, 1) → narrow .boolean (.int res.1) = .int res.1 → va_P D vwCl (wd_R a cI cL cB cZ z res.2) H → va_D A (wd_R a cI cL cB cZ z res.2) → va_S A s.heap H locs → W p l e zr_X11_down s m args below meth c H locs 0 0 Q (F0 m pc ls [.int res.1])) (hk0 : ∀ (S : mq_St) (H : Heap) (locs : List Loc) (ls : Array Slot), k0 S = some res → lv_has ls 3 [(0, .ref (a 0))] → va_P D vwCl (wd_R a cI cL cB cZ z S) H → va_D A (wd_R a cI cL cB cZ z S) → va_S A s.heap H locs → W p l e zr_X11_down s m args below meth c H locs 0 0 Q (F0 m 0 ls [])) (S : mq_St) (H : Heap) (locs : List Loc) (ls : Array Slot) (h : zf_X11_down_zb N z k0 S = some res) (hl : lv_has ls 3 [(0, .ref (a 0))]) (hP : va_P D vwCl (wd_R a cI cL cB cZ z S) H) (hD : va_D A (wd_R a cI cL cB cZ z S)) (hS : va_S A s.heap H locs) : W p l e zr_X11_down s m args below meth c H locs 0 0 Q (F0 m 0 ls []) := by
  obtain ⟨hx, hb, hml, hown, hts, hK, hA⟩ := id C
  unfold zf_X11_down_zb at h
  refine lv_aload_n hx hb dX11_down_0 rfl (lv_at hl 0 rfl) ?_
  refine va_get (D := D) (ci := 11) (v := .int ((S.1 23))) (C := RX11) (T := TX11) (N := 76) hx hb hts (zi_X11 _) hown hK hP 0 rfl rfl 41 (by decide) (hts _ (List.mem_cons_of_mem _ zt_f_X11_286)) (fun _ h9 => h9) rfl dX11_down_1 ?_
  refine lv_if_ne (tgt := 239) hx hb dX11_down_4 (by decide) (fun c69 => ?_) (fun c69 => ?_)
  · replace h := mq_if c69 h
    refine lv_iconst (v := (0 : Int32)) hx hb dX11_down_239 (by decide) ?_
    have hz1 := mq_cz_in h
    replace h := mq_cz_go h
    cases h
    exact hret H locs ls 240 dX11_down_240 hz1.1 hP hD hS
  · replace h := mq_it (by simpa using c69) h
    refine lv_aload_n hx hb dX11_down_7 rfl (lv_at hl 0 rfl) ?_
    obtain ⟨q2, hc3, h⟩ := mq_cp_go h
    refine zk_X11_clash C zt_m_X11_311 ⟨by decide, by decide⟩ hc3 hP hD hS hl.1 (Nat.le_of_ble_eq_true rfl) dX11_down_8 (fun H locs hP hD hS => ?_)
    refine lv_topi (fun x4 ex4 => ?_)
    replace h := mq_nI_go ex4 h
    refine lv_istore_n (lv' := [(1, .int (x4)), (0, .ref (a 0))]) hx hb dX11_down_11 rfl hl (by decide) rfl (fun ls hl => ?_)
    refine lv_iload_n hx hb dX11_down_12 rfl (lv_at hl 0 rfl) ?_
    refine lv_iconst (v := (-1 : Int32)) hx hb dX11_down_13 (by decide) ?_
    refine lv_icmp_eq (tgt := 24) hx hb dX11_down_14 (by decide) (fun c68 => ?_) (fun c68 => ?_)
    · replace h := mq_it c68 h
      refine lv_aload_n hx hb dX11_down_24 rfl (lv_at hl 1 rfl) ?_
      obtain ⟨q5, hc6, h⟩ := mq_cp_go h
      refine zk_X11_firstBoth C zt_m_X11_318 ⟨by decide, by decide⟩ hc6 hP hD hS hl.1 (Nat.le_of_ble_eq_true rfl) dX11_down_25 (fun H locs hP hD hS => ?_)
      refine lv_topi (fun x7 ex7 => ?_)
      replace h := mq_nI_go ex7 h
      refine lv_istore_n (lv' := [(1, .int (x7)), (0, .ref (a 0))]) hx hb dX11_down_28 rfl hl (by decide) rfl (fun ls hl => ?_)
      refine lv_iload_n hx hb dX11_down_29 rfl (lv_at hl 0 rfl) ?_
      refine lv_iconst (v := (-1 : Int32)) hx hb dX11_down_30 (by decide) ?_
      refine lv_icmp_eq (tgt := 81) hx hb dX11_down_31 (by decide) (fun c63 => ?_) (fun c63 => ?_)
      · replace h := mq_it c63 h
        refine lv_aload_n hx hb dX11_down_81 rfl (lv_at hl 1 rfl) ?_
        obtain ⟨q8, hc9, h⟩ := mq_cp_go h
        refine zk_X11_firstSelf C zt_m_X11_328 ⟨by decide, by decide⟩ hc9 hP hD hS hl.1 (Nat.le_of_ble_eq_true rfl) dX11_down_82 (fun H locs hP hD hS => ?_)
        refine lv_topi (fun x10 ex10 => ?_)
        replace h := mq_nI_go ex10 h
        refine lv_istore_n (lv' := [(1, .int (x10)), (0, .ref (a 0))]) hx hb dX11_down_85 rfl hl (by decide) rfl (fun ls hl => ?_)
        refine lv_iload_n hx hb dX11_down_86 rfl (lv_at hl 0 rfl) ?_
        refine lv_iconst (v := (-1 : Int32)) hx hb dX11_down_87 (by decide) ?_
        refine lv_icmp_eq (tgt := 124) hx hb dX11_down_88 (by decide) (fun c46 => ?_) (fun c46 => ?_)
        · replace h := mq_it c46 h
          refine lv_aload_n hx hb dX11_down_124 rfl (lv_at hl 1 rfl) ?_
          obtain ⟨q11, hc12, h⟩ := mq_cp_go h
          refine zk_X11_firstEither C zt_m_X11_331 ⟨by decide, by decide⟩ hc12 hP hD hS hl.1 (Nat.le_of_ble_eq_true rfl) dX11_down_125 (fun H locs hP hD hS => ?_)
          refine lv_topi (fun x13 ex13 => ?_)
          replace h := mq_nI_go ex13 h
          refine lv_istore_n (lv' := [(1, .int (x13)), (0, .ref (a 0))]) hx hb dX11_down_128 rfl hl (by decide) rfl (fun ls hl => ?_)
          refine lv_iload_n hx hb dX11_down_129 rfl (lv_at hl 0 rfl) ?_
          refine lv_iconst (v := (-1 : Int32)) hx hb dX11_down_130 (by decide) ?_
          refine lv_icmp_ne (tgt := 171) hx hb dX11_down_131 (by decide) (fun c33 => ?_) (fun c33 => ?_)
          · replace h := mq_if c33 h
            refine lv_aload_n hx hb dX11_down_171 rfl (lv_at hl 1 rfl) ?_
            obtain ⟨q14, hc15, h⟩ := mq_cl_go h
            refine zk_X11_step C zt_m_X11_321 ⟨by decide, by decide⟩ hc15 hP hD hS hl.1 (Nat.le_of_ble_eq_true rfl) dX11_down_172 (fun H locs hP hD hS => ?_)
            obtain ⟨S16, eS16⟩ : ∃ y, y = q14.2 := ⟨_, rfl⟩
            rw [← eS16] at hP hD h
            refine lv_if_eq (tgt := 236) hx hb dX11_down_175 (by decide) (fun c31 => ?_) (fun c31 => ?_)
            · replace h := mq_it c31 h
              exact zw_X11_down_236 C hret hk0 S16 H locs ls h (lv_sub hl [1] rfl) hP hD hS
            · replace h := mq_if c31 h
              refine lv_aload_n hx hb dX11_down_178 rfl (lv_at hl 1 rfl) ?_
              refine lv_iconst (v := (3 : Int32)) hx hb dX11_down_179 (by decide) ?_
              refine lv_iload_n hx hb dX11_down_180 rfl (lv_at hl 0 rfl) ?_
              obtain ⟨q17, hc18, h⟩ := mq_cl_go h
              refine zk_X11_line C zt_m_X11_314 ⟨by decide, by decide⟩ hc18 hP hD hS hl.1 (Nat.le_of_ble_eq_true rfl) dX11_down_181 (fun H locs hP hD hS => ?_)
              obtain ⟨S19, eS19⟩ : ∃ y, y = q17.2 := ⟨_, rfl⟩
              rw [← eS19] at hP hD h
              refine lv_if_eq (tgt := 236) hx hb dX11_down_184 (by decide) (fun c30 => ?_) (fun c30 => ?_)
              · replace h := mq_it c30 h
                exact zw_X11_down_236 C hret hk0 S19 H locs ls h (lv_sub hl [1] rfl) hP hD hS
              · replace h := mq_if c30 h
                refine lv_aload_n hx hb dX11_down_187 rfl (lv_at hl 1 rfl) ?_
                refine va_get (D := D) (ci := 11) (v := .int ((S19.1 28))) (C := RX11) (T := TX11) (N := 76) hx hb hts (zi_X11 _) hown hK hP 0 rfl rfl 53 (by decide) (hts _ (List.mem_cons_of_mem _ zt_f_X11_338)) (fun _ h9 => h9) rfl dX11_down_188 ?_
                refine lv_sipush (v := (400 : Int32)) hx hb dX11_down_191 (by decide) ?_
                refine lv_icmp_ne (tgt := 206) hx hb dX11_down_194 (by decide) (fun c29 => ?_) (fun c29 => ?_)
                · replace h := mq_if c29 h
                  refine lv_aload_n hx hb dX11_down_206 rfl (lv_at hl 1 rfl) ?_
                  refine lv_dup hx hb dX11_down_207 rfl ?_
                  refine va_get (D := D) (ci := 11) (v := .int ((S19.1 28))) (C := RX11) (T := TX11) (N := 76) hx hb hts (zi_X11 _) hown hK hP 0 rfl rfl 53 (by decide) (hts _ (List.mem_cons_of_mem _ zt_f_X11_338)) (fun _ h9 => h9) rfl dX11_down_208 ?_
                  refine lv_iconst (v := (1 : Int32)) hx hb dX11_down_211 (by decide) ?_
                  refine lv_iadd hx hb dX11_down_212 ?_
                  refine mq_put (w := wd_R a cI cL cB cZ z) (S := S19) (D := D) (ci := 11) (v := ((S19.1 28) + (1 : Int32))) (ty := .int) (C := RX11) (T := TX11) (N := 76) hx hb hts (zi_X11 _) tyX11 tyX11_ok nmX11 hown hK hP hD hS 0 rfl rfl 53 (by decide) (hts _ (List.mem_cons_of_mem _ zt_f_X11_338)) (fun _ h9 => h9) rfl (by decide +kernel) rfl rfl (Nat.le_of_ble_eq_true rfl) dX11_down_213 28 (zs_wd_R_i_0_28 _ _ _ _ _ _ _ _) (fun S20 eS20 H locs hP hD hS => ?_)
                  replace h := mq_nS_go eS20 h
                  refine lv_aload_n hx hb dX11_down_216 rfl (lv_at hl 1 rfl) ?_
                  refine lv_iconst (v := (1 : Int32)) hx hb dX11_down_217 (by decide) ?_
                  refine lv_iload_n hx hb dX11_down_218 rfl (lv_at hl 0 rfl) ?_
                  obtain ⟨q21, hc22, h⟩ := mq_cl_go h
                  refine zk_X11_waits C zt_m_X11_334 ⟨by decide, by decide⟩ hc22 hP hD hS hl.1 (Nat.le_of_ble_eq_true rfl) dX11_down_219 (fun H locs hP hD hS => ?_)
                  obtain ⟨S23, eS23⟩ : ∃ y, y = q21.2 := ⟨_, rfl⟩
                  rw [← eS23] at hP hD h
                  refine lv_aload_n hx hb dX11_down_222 rfl (lv_at hl 1 rfl) ?_
                  refine va_get (D := D) (ci := 11) (v := .ref (a 18)) (C := RX11) (T := TX11) (N := 76) hx hb hts (zi_X11 _) hown hK hP 0 rfl rfl 35 (by decide) (hts _ (List.mem_cons_of_mem _ zt_f_X11_69)) (fun _ h9 => h9) rfl dX11_down_223 ?_
                  refine lv_iconst (v := (0 : Int32)) hx hb dX11_down_226 (by decide) ?_
                  refine lv_aload_n hx hb dX11_down_227 rfl (lv_at hl 1 rfl) ?_
                  refine va_get (D := D) (ci := 11) (v := .ref (a 4)) (C := RX11) (T := TX11) (N := 76) hx hb hts (zi_X11 _) hown hK hP 0 rfl rfl 6 (by decide) (hts _ (List.mem_cons_of_mem _ zt_f_X11_20)) (fun _ h9 => h9) rfl dX11_down_228 ?_
                  refine lv_iload_n hx hb dX11_down_231 rfl (lv_at hl 0 rfl) ?_
                  have hi24 := mq_ck_in h
                  replace h := mq_ck_go h
                  refine va_iald (f := S23.2.1 3) hx hb hK hP 4 0 rfl rfl hi24 dX11_down_232 ?_
                  obtain ⟨q25, hc26, h⟩ := mq_cl_go h
                  refine zv_X11_put (a := mq_ad a [18]) (z := (fun k => [10].getD k 0)) [18] C zt_m_X11_324 ⟨by decide, by decide⟩ hc26 rfl (by decide) (ws' := (wd_R a cI cL cB cZ z (mq_push S23 q25.2 [] [17] []))) (zx_wd_R_wd_A1_18 _ _ _ _ _ _ _ _) hP hD hS hl.1 (Nat.le_of_ble_eq_true rfl) dX11_down_233 (fun H locs hP hD hS => ?_)
                  obtain ⟨S27, eS27⟩ : ∃ y, y = mq_push S23 q25.2 [] [17] [] := ⟨_, rfl⟩
                  replace h := mq_nS_go eS27 h
                  rw [← eS27] at hP hD
                  exact zw_X11_down_236 C hret hk0 S27 H locs ls h (lv_sub hl [1] rfl) hP hD hS
                · replace h := mq_it (by simpa using c29) h
                  refine lv_aload_n hx hb dX11_down_197 rfl (lv_at hl 1 rfl) ?_
                  refine lv_bipush (v := (-4 : Int32)) hx hb dX11_down_198 (by decide) ?_
                  refine mq_put (w := wd_R a cI cL cB cZ z) (S := S19) (D := D) (ci := 11) (v := (-4 : Int32)) (ty := .int) (C := RX11) (T := TX11) (N := 76) hx hb hts (zi_X11 _) tyX11 tyX11_ok nmX11 hown hK hP hD hS 0 rfl rfl 41 (by decide) (hts _ (List.mem_cons_of_mem _ zt_f_X11_286)) (fun _ h9 => h9) rfl (by decide +kernel) rfl rfl (Nat.le_of_ble_eq_true rfl) dX11_down_200 23 (zs_wd_R_i_0_23 _ _ _ _ _ _ _ _) (fun S28 eS28 H locs hP hD hS => ?_)
                  replace h := mq_nS_go eS28 h
                  refine lv_goto (tgt := 236) hx hb dX11_down_203 (by decide) ?_
                  exact zw_X11_down_236 C hret hk0 S28 H locs ls h (lv_sub hl [1] rfl) hP hD hS
          · replace h := mq_it (by simpa using c33) h
            refine lv_iconst (v := (0 : Int32)) hx hb dX11_down_134 (by decide) ?_
            refine lv_topi (fun x32 ex32 => ?_)
            replace h := mq_nI_go ex32 h
            refine lv_istore_n (lv' := [(2, .int (x32)), (1, .int (x13)), (0, .ref (a 0))]) hx hb dX11_down_135 rfl hl (by decide) rfl (fun ls hl => ?_)
            exact zw_X11_down_136 C hret N (x32) S H locs ls h (lv_sub hl [2, 0] rfl) hP hD hS
        · replace h := mq_if c46 h
          refine lv_aload_n hx hb dX11_down_91 rfl (lv_at hl 1 rfl) ?_
          obtain ⟨q34, hc35, h⟩ := mq_cl_go h
          refine zk_X11_step C zt_m_X11_321 ⟨by decide, by decide⟩ hc35 hP hD hS hl.1 (Nat.le_of_ble_eq_true rfl) dX11_down_92 (fun H locs hP hD hS => ?_)
          obtain ⟨S36, eS36⟩ : ∃ y, y = q34.2 := ⟨_, rfl⟩
          rw [← eS36] at hP hD h
          refine lv_if_eq (tgt := 0) hx hb dX11_down_95 (by decide) (fun c45 => ?_) (fun c45 => ?_)
          · replace h := mq_it c45 h
            exact hk0 S36 H locs ls h (lv_sub hl [1] rfl) hP hD hS
          · replace h := mq_if c45 h
            refine lv_aload_n hx hb dX11_down_98 rfl (lv_at hl 1 rfl) ?_
            refine lv_iconst (v := (2 : Int32)) hx hb dX11_down_99 (by decide) ?_
            refine lv_iload_n hx hb dX11_down_100 rfl (lv_at hl 0 rfl) ?_
            obtain ⟨q37, hc38, h⟩ := mq_cl_go h
            refine zk_X11_line C zt_m_X11_314 ⟨by decide, by decide⟩ hc38 hP hD hS hl.1 (Nat.le_of_ble_eq_true rfl) dX11_down_101 (fun H locs hP hD hS => ?_)
            obtain ⟨S39, eS39⟩ : ∃ y, y = q37.2 := ⟨_, rfl⟩
            rw [← eS39] at hP hD h
            refine lv_if_eq (tgt := 0) hx hb dX11_down_104 (by decide) (fun c44 => ?_) (fun c44 => ?_)
            · replace h := mq_it c44 h
              exact hk0 S39 H locs ls h (lv_sub hl [1] rfl) hP hD hS
            · replace h := mq_if c44 h
              refine lv_aload_n hx hb dX11_down_107 rfl (lv_at hl 1 rfl) ?_
              refine va_get (D := D) (ci := 11) (v := .ref (a 18)) (C := RX11) (T := TX11) (N := 76) hx hb hts (zi_X11 _) hown hK hP 0 rfl rfl 35 (by decide) (hts _ (List.mem_cons_of_mem _ zt_f_X11_69)) (fun _ h9 => h9) rfl dX11_down_108 ?_
              refine lv_iconst (v := (0 : Int32)) hx hb dX11_down_111 (by decide) ?_
              refine lv_aload_n hx hb dX11_down_112 rfl (lv_at hl 1 rfl) ?_
              refine va_get (D := D) (ci := 11) (v := .ref (a 4)) (C := RX11) (T := TX11) (N := 76) hx hb hts (zi_X11 _) hown hK hP 0 rfl rfl 6 (by decide) (hts _ (List.mem_cons_of_mem _ zt_f_X11_20)) (fun _ h9 => h9) rfl dX11_down_113 ?_
              refine lv_iload_n hx hb dX11_down_116 rfl (lv_at hl 0 rfl) ?_
              have hi40 := mq_ck_in h
              replace h := mq_ck_go h
              refine va_iald (f := S39.2.1 3) hx hb hK hP 4 0 rfl rfl hi40 dX11_down_117 ?_
              obtain ⟨q41, hc42, h⟩ := mq_cl_go h
              refine zv_X11_put (a := mq_ad a [18]) (z := (fun k => [10].getD k 0)) [18] C zt_m_X11_324 ⟨by decide, by decide⟩ hc42 rfl (by decide) (ws' := (wd_R a cI cL cB cZ z (mq_push S39 q41.2 [] [17] []))) (zx_wd_R_wd_A1_18 _ _ _ _ _ _ _ _) hP hD hS hl.1 (Nat.le_of_ble_eq_true rfl) dX11_down_118 (fun H locs hP hD hS => ?_)
              obtain ⟨S43, eS43⟩ : ∃ y, y = mq_push S39 q41.2 [] [17] [] := ⟨_, rfl⟩
              replace h := mq_nS_go eS43 h
              rw [← eS43] at hP hD
              refine lv_goto (tgt := 0) hx hb dX11_down_121 (by decide) ?_
              exact hk0 S43 H locs ls h (lv_sub hl [1] rfl) hP hD hS
      · replace h := mq_if c63 h
        refine lv_aload_n hx hb dX11_down_34 rfl (lv_at hl 1 rfl) ?_
        obtain ⟨q47, hc48, h⟩ := mq_cl_go h
        refine zk_X11_step C zt_m_X11_321 ⟨by decide, by decide⟩ hc48 hP hD hS hl.1 (Nat.le_of_ble_eq_true rfl) dX11_down_35 (fun H locs hP hD hS => ?_)
        obtain ⟨S49, eS49⟩ : ∃ y, y = q47.2 := ⟨_, rfl⟩
        rw [← eS49] at hP hD h
        refine lv_if_eq (tgt := 0) hx hb dX11_down_38 (by decide) (fun c62 => ?_) (fun c62 => ?_)
        · replace h := mq_it c62 h
          exact hk0 S49 H locs ls h (lv_sub hl [1] rfl) hP hD hS
        · replace h := mq_if c62 h
          refine lv_aload_n hx hb dX11_down_41 rfl (lv_at hl 1 rfl) ?_
          refine lv_iconst (v := (1 : Int32)) hx hb dX11_down_42 (by decide) ?_
          refine lv_iload_n hx hb dX11_down_43 rfl (lv_at hl 0 rfl) ?_
          obtain ⟨q50, hc51, h⟩ := mq_cl_go h
          refine zk_X11_line C zt_m_X11_314 ⟨by decide, by decide⟩ hc51 hP hD hS hl.1 (Nat.le_of_ble_eq_true rfl) dX11_down_44 (fun H locs hP hD hS => ?_)
          obtain ⟨S52, eS52⟩ : ∃ y, y = q50.2 := ⟨_, rfl⟩
          rw [← eS52] at hP hD h
          refine lv_if_eq (tgt := 0) hx hb dX11_down_47 (by decide) (fun c61 => ?_) (fun c61 => ?_)
          · replace h := mq_it c61 h
            exact hk0 S52 H locs ls h (lv_sub hl [1] rfl) hP hD hS
          · replace h := mq_if c61 h
            refine lv_aload_n hx hb dX11_down_50 rfl (lv_at hl 1 rfl) ?_
            refine va_get (D := D) (ci := 11) (v := .ref (a 18)) (C := RX11) (T := TX11) (N := 76) hx hb hts (zi_X11 _) hown hK hP 0 rfl rfl 35 (by decide) (hts _ (List.mem_cons_of_mem _ zt_f_X11_69)) (fun _ h9 => h9) rfl dX11_down_51 ?_
            refine lv_iconst (v := (0 : Int32)) hx hb dX11_down_54 (by decide) ?_
            refine lv_aload_n hx hb dX11_down_55 rfl (lv_at hl 1 rfl) ?_
            refine va_get (D := D) (ci := 11) (v := .ref (a 4)) (C := RX11) (T := TX11) (N := 76) hx hb hts (zi_X11 _) hown hK hP 0 rfl rfl 6 (by decide) (hts _ (List.mem_cons_of_mem _ zt_f_X11_20)) (fun _ h9 => h9) rfl dX11_down_56 ?_
            refine lv_iload_n hx hb dX11_down_59 rfl (lv_at hl 0 rfl) ?_
            have hi53 := mq_ck_in h
            replace h := mq_ck_go h
            refine va_iald (f := S52.2.1 3) hx hb hK hP 4 0 rfl rfl hi53 dX11_down_60 ?_
            obtain ⟨q54, hc55, h⟩ := mq_cl_go h
            refine zv_X11_put (a := mq_ad a [18]) (z := (fun k => [10].getD k 0)) [18] C zt_m_X11_324 ⟨by decide, by decide⟩ hc55 rfl (by decide) (ws' := (wd_R a cI cL cB cZ z (mq_push S52 q54.2 [] [17] []))) (zx_wd_R_wd_A1_18 _ _ _ _ _ _ _ _) hP hD hS hl.1 (Nat.le_of_ble_eq_true rfl) dX11_down_61 (fun H locs hP hD hS => ?_)
            obtain ⟨S56, eS56⟩ : ∃ y, y = mq_push S52 q54.2 [] [17] [] := ⟨_, rfl⟩
            replace h := mq_nS_go eS56 h
            rw [← eS56] at hP hD
            refine lv_aload_n hx hb dX11_down_64 rfl (lv_at hl 1 rfl) ?_
            refine va_get (D := D) (ci := 11) (v := .ref (a 18)) (C := RX11) (T := TX11) (N := 76) hx hb hts (zi_X11 _) hown hK hP 0 rfl rfl 35 (by decide) (hts _ (List.mem_cons_of_mem _ zt_f_X11_69)) (fun _ h9 => h9) rfl dX11_down_65 ?_
            refine lv_iconst (v := (0 : Int32)) hx hb dX11_down_68 (by decide) ?_
            refine lv_aload_n hx hb dX11_down_69 rfl (lv_at hl 1 rfl) ?_
            refine va_get (D := D) (ci := 11) (v := .ref (a 5)) (C := RX11) (T := TX11) (N := 76) hx hb hts (zi_X11 _) hown hK hP 0 rfl rfl 7 (by decide) (hts _ (List.mem_cons_of_mem _ zt_f_X11_23)) (fun _ h9 => h9) rfl dX11_down_70 ?_
            refine lv_iload_n hx hb dX11_down_73 rfl (lv_at hl 0 rfl) ?_
            have hi57 := mq_ck_in h
            replace h := mq_ck_go h
            refine va_iald (f := S56.2.1 4) hx hb hK hP 5 0 rfl rfl hi57 dX11_down_74 ?_
            obtain ⟨q58, hc59, h⟩ := mq_cl_go h
            refine zv_X11_put (a := mq_ad a [18]) (z := (fun k => [10].getD k 0)) [18] C zt_m_X11_324 ⟨by decide, by decide⟩ hc59 rfl (by decide) (ws' := (wd_R a cI cL cB cZ z (mq_push S56 q58.2 [] [17] []))) (zx_wd_R_wd_A1_18 _ _ _ _ _ _ _ _) hP hD hS hl.1 (Nat.le_of_ble_eq_true rfl) dX11_down_75 (fun H locs hP hD hS => ?_)
            obtain ⟨S60, eS60⟩ : ∃ y, y = mq_push S56 q58.2 [] [17] [] := ⟨_, rfl⟩
            replace h := mq_nS_go eS60 h
            rw [← eS60] at hP hD
            refine lv_goto (tgt := 0) hx hb dX11_down_78 (by decide) ?_
            exact hk0 S60 H locs ls h (lv_sub hl [1] rfl) hP hD hS
    · replace h := mq_if c68 h
      refine lv_aload_n hx hb dX11_down_17 rfl (lv_at hl 1 rfl) ?_
      refine lv_iconst (v := (0 : Int32)) hx hb dX11_down_18 (by decide) ?_
      refine lv_iload_n hx hb dX11_down_19 rfl (lv_at hl 0 rfl) ?_
      obtain ⟨q64, hc65, h⟩ := mq_cl_go h
      refine zk_X11_line C zt_m_X11_314 ⟨by decide, by decide⟩ hc65 hP hD hS hl.1 (Nat.le_of_ble_eq_true rfl) dX11_down_20 (fun H locs hP hD hS => ?_)
      obtain ⟨S66, eS66⟩ : ∃ y, y = q64.2 := ⟨_, rfl⟩
      rw [← eS66] at hP hD h
      have hz67 := mq_cz_in h
      replace h := mq_cz_go h
      cases h
      exact hret H locs ls 23 dX11_down_23 hz67.1 hP hD hS
set_option maxHeartbeats 4000000 in
set_option maxRecDepth 100000 in
theorem zw_X11_down_z {p : Program} {l : Launch} {e : Env} {s : State} {m : MethodId} {args : Array Value} {below : List Frame} {meth : Method} {c : Code} {A : Nat → Prop} {D : va_G} {a z : Nat → Nat} {cI cL cB cZ : ClassId} {Q : State → Prop} {N : Nat} {res : Int32 × mq_St} (C : mq_C p s m args c A D cI cL cB cZ cX11_down 3 RX11 zc_X11_down) (hret : ∀ (H : Heap) (locs : List Loc) (ls : Array Slot) (pc : Nat), decode cX11_down pc = .ok (.ireturn, 1) → narrow .boolean (.int res.1) = .int res.1 → va_P D vwCl (wd_R a cI cL cB cZ z res.2) H → va_D A (wd_R a cI cL cB cZ z res.2) → va_S A s.heap H locs → W p l e zr_X11_down s m args below meth c H locs 0 0 Q (F0 m pc ls [.int res.1])) : ∀ (n : Nat) (S : mq_St) (H : Heap) (locs : List Loc) (ls : Array Slot) (h : zf_X11_down_z N z n S = some res) (hl : lv_has ls 3 [(0, .ref (a 0))]) (hP : va_P D vwCl (wd_R a cI cL cB cZ z S) H) (hD : va_D A (wd_R a cI cL cB cZ z S)) (hS : va_S A s.heap H locs), W p l e zr_X11_down s m args below meth c H locs 0 0 Q (F0 m 0 ls []) := by
  intro n
  induction n with
  | zero =>
    intro S H locs ls h hl hP hD hS
    exact nomatch (show (none : Option (Int32 × mq_St)) = some res from h)
  | succ n ih =>
    intro S H locs ls h hl hP hD hS
    exact zw_X11_down_zb C hret (fun S H locs ls h hl hP hD hS => ih S H locs ls h hl hP hD hS) S H locs ls h hl hP hD hS
set_option maxHeartbeats 4000000 in
set_option maxRecDepth 100000 in
theorem zw_X11_down_0 {p : Program} {l : Launch} {e : Env} {s : State} {m : MethodId} {args : Array Value} {below : List Frame} {meth : Method} {c : Code} {A : Nat → Prop} {D : va_G} {a z : Nat → Nat} {cI cL cB cZ : ClassId} {Q : State → Prop} {N : Nat} {res : Int32 × mq_St} (C : mq_C p s m args c A D cI cL cB cZ cX11_down 3 RX11 zc_X11_down) (hret : ∀ (H : Heap) (locs : List Loc) (ls : Array Slot) (pc : Nat), decode cX11_down pc = .ok (.ireturn, 1) → narrow .boolean (.int res.1) = .int res.1 → va_P D vwCl (wd_R a cI cL cB cZ z res.2) H → va_D A (wd_R a cI cL cB cZ z res.2) → va_S A s.heap H locs → W p l e zr_X11_down s m args below meth c H locs 0 0 Q (F0 m pc ls [.int res.1])) (S : mq_St) (H : Heap) (locs : List Loc) (ls : Array Slot) (h : zf_X11_down N z S = some res) (hl : lv_has ls 3 [(0, .ref (a 0))]) (hP : va_P D vwCl (wd_R a cI cL cB cZ z S) H) (hD : va_D A (wd_R a cI cL cB cZ z S)) (hS : va_S A s.heap H locs) : W p l e zr_X11_down s m args below meth c H locs 0 0 Q (F0 m 0 ls []) := by
  obtain ⟨hx, hb, hml, hown, hts, hK, hA⟩ := id C
  unfold zf_X11_down at h
  exact zw_X11_down_z C hret N S H locs ls h (lv_sub hl [0] rfl) hP hD hS
set_option maxHeartbeats 4000000 in
set_option maxRecDepth 100000 in
theorem zm_X11_down (l : Launch) (D : va_G) (a z : Nat → Nat) (cI cL cB cZ : ClassId) (sz N : Nat) (S : mq_St) (res : Int32 × mq_St) (h : zf_X11_down N z S = some res) : Met l yX11_down (zc_X11_down :: mq_T) zr_X11_down (va_Pc [.ref (a 0)] (fun U => U.heap.size = sz ∧ va_P D vwCl (wd_R a cI cL cB cZ z S) U.heap ∧ va_K D vwCl (mq_tys cI cL cB cZ) U ∧ va_D (fun _ => True) (wd_R a cI cL cB cZ z S))) (va_Qi (fun (r : Int32) (u : mq_St) => r = res.1 ∧ u = res.2) (fun u t => va_P D vwCl (wd_R a cI cL cB cZ z u) t.heap ∧ va_K D vwCl (mq_tys cI cL cB cZ) t ∧ va_D (va_A (wd_R a cI cL cB cZ z S) sz) (wd_R a cI cL cB cZ z u)) (va_A (wd_R a cI cL cB cZ z S) sz)) 0 0 (va_A (wd_R a cI cL cB cZ z S) sz) := by
  refine Met.ofW (cc := cX11_down) (maxL := 3) (ret := (some .boolean)) (by decide) rfl ?_
  intro p e s m args below meth c s₁ B hml hv
  obtain ⟨rfl, hsz, hP, hK, hD0⟩ := hv
  have hr := B.returns
  have hlocks := B.notSynchronized
  have hts := atoms_spec (ws := zc_X11_down :: mq_T) B.pre
  have hown : s.vm.findClass RX11 = some m.cls := findClass_of_methodNamed B.named
  subst hsz
  have hD := hD0.self (sz := s.heap.size)
  generalize hAe : va_A (wd_R a cI cL cB cZ z S) s.heap.size = A at hD ⊢
  have hA : ∀ q : Nat, s.heap.size ≤ q → A q := fun q h => by rw [← hAe]; exact Or.inr h
  have hl := lv_entry ([.ref (a 0)]) (n := 3) (Nat.le_of_ble_eq_true rfl)
  rw [lg_entry_eq]
  generalize (lg_sl ([.ref (a 0)]) ++ List.replicate (3 - (lg_sl ([.ref (a 0)])).length) Slot.unset).toArray = ls at hl ⊢
  have hl : lv_has ls 3 [(0, .ref (a 0))] := hl
  refine zw_X11_down_0 (A := A) ⟨B.exec, B.bytes, hml, hown, hts, hK, hA⟩ (fun H locs ls pc dg hz hP hD hS => ?_) S s.heap [] ls h hl hP hD va_S.rf
  exact W.zret B.exec B.bytes hr hz (fun t ht hW => ⟨⟨_, _, rfl, ⟨rfl, rfl⟩, by rw [ht]; exact hP, va_K.moved hW.alike hK, hD⟩, hS.F ht⟩) hS.2.2 dg
theorem zt_X11_down_c : zc_X11_down ∈ mq_T := mq_T_mem (mq_t7 (List.mem_of_getElem? (i := 68) rfl)) rfl
theorem zt_X11_down_i : Cond.instanceMethod yX11_down ∈ mq_T := mq_T_mem (mq_t7 (List.mem_of_getElem? (i := 67) rfl)) rfl
theorem zt_X11_down_s : Cond.selects RX11 yX11_down yX11_down ∈ mq_T := mq_T_at 87 (by decide +kernel)
set_option maxHeartbeats 4000000 in
theorem zk_X11_down {p : Program} {l : Launch} {e : Env} {R : Room} {s : State} {m : MethodId} {args : Array Value} {below : List Frame} {meth : Method} {c : Code} {A : Nat → Prop} {D : va_G} {a z : Nat → Nat} {cI cL cB cZ : ClassId} {Q : State → Prop} {cc : ByteArray} {nL idx pc N : Nat} {own : String} {c1 : Cond} {H : Heap} {locs : List Loc} {ls : Array Slot} {rest : List Value} {S : mq_St} {res : Int32 × mq_St} (C : mq_C p s m args c A D cI cL cB cZ cc nL own c1) (hlk : Cond.methodLink own idx yX11_down ∈ mq_T) (hR : zr_X11_down.frames + 1 ≤ R.frames ∧ 8 + (3 + 11) + zr_X11_down.locals ≤ R.locals) (h : zf_X11_down N z S = some res) (hP : va_P D vwCl (wd_R a cI cL cB cZ z S) H) (hD : va_D A (wd_R a cI cL cB cZ z S)) (hS : va_S A s.heap H locs) (hls : ls.size = nL) (hrest : (rest.map fun v => v.category).sum ≤ 8) (hdg : decode cc pc = .ok (.invokevirtual idx, 3)) (kk : ∀ (H1 : Heap) (locs1 : List Loc), va_P D vwCl (wd_R a cI cL cB cZ z res.2) H1 → va_D A (wd_R a cI cL cB cZ z res.2) → va_S A s.heap H1 locs1 → W p l e R s m args below meth c H1 locs1 0 0 Q (F0 m (pc + 3) ls (.int res.1 :: rest))) : W p l e R s m args below meth c H locs 0 0 Q (F0 m pc ls (.ref (a 0) :: rest)) := by
  obtain ⟨hx, hb, hml, hown, hts, hK, hA⟩ := C
  have hFc := mq_freeI hD hS hA
  refine va_calli (va_runV (As := []) (rest := rest) ⟨hx, hb, hml, hown, hts⟩ (zm_X11_down l D a z cI cL cB cZ H.size N S res h) (cwV 0 hts (mq_goodL (mq_wsV hlk zt_X11_down_i zt_X11_down_s zt_ini_X11 zt_X11_down_c)) rfl rfl rfl (by decide +kernel) hR) ⟨fun a U g mk q => ⟨q.1, q.2.1, q.2.2.1, va_K.moved (u := U) (U := U.calling g mk a) (Vm.Alike.refl U.vm) q.2.2.2.1, q.2.2.2.2⟩, zy_R_0 hK hP, fun U hU hW => ⟨rfl, by rw [hU], by rw [hU]; exact hP, va_K.moved hW.alike hK, hD.weaken (fun _ _ _ _ => trivial)⟩⟩ rfl rfl hls rfl (lv_room hrest) hdg ⟨Nat.zero_le _, Nat.zero_le _⟩) hS (fun q _ h => hFc q h) hFc (fun r u t H1 locs ht hvm hw hB hz1 hk1 hS => ?_)
  obtain ⟨rfl, rfl⟩ := hw
  obtain ⟨hP1, hK1, hD1⟩ := hB
  rw [ht] at hP1
  exact kk H1 locs hP1 (hD1.weaken (fun _ _ _ h => hFc _ h)) hS
theorem zt_f_X11_112 : Cond.fieldLink RX11 112 "ModalDeskModel" "made" "[I" ∈ mq_T := mq_T_mem (mq_t5 (List.mem_of_getElem? (i := 225) rfl)) rfl
/-! ModalDeskModel.samePlace()I -/
def zr_X11_samePlace : Room := { frames := 0, cells := 0, slots := 0, locals := 0 }
def zc_X11_samePlace : Cond := .code yX11_samePlace cX11_samePlace 4 (some .int)
def zf_X11_samePlace_49 (N : Nat) (z : Nat → Nat) (S : mq_St) (k5 : Int32 → Option (Int32)) (k14 : Int32 → Int32 → Int32 → Option (Int32)) (v1 : Int32) (v3 : Int32) (t0 : Int32) : Option (Int32) := (mq_nI (t0) (fun x10 => (mq_nI (v3 + (1 : Int32)) (fun x11 => (k14 (v1) (x10) (x11))))))
def zf_X11_samePlace_56 (N : Nat) (z : Nat → Nat) (S : mq_St) (k5 : Int32 → Option (Int32)) (v1 : Int32) (v2 : Int32) : Option (Int32) := (if v2 = (0 : Int32) then (mq_ck (v1) 60 (mq_nI ((S.2.1 20 (v1).toNatClampNeg)) (fun x13 => (k5 (x13))))) else (some (v1)))
def zf_X11_samePlace_14b (N : Nat) (z : Nat → Nat) (S : mq_St) (k5 : Int32 → Option (Int32)) (k14 : Int32 → Int32 → Int32 → Option (Int32)) (v1 : Int32) (v2 : Int32) (v3 : Int32) : Option (Int32) := (if (10 : Int32) ≤ v3 then (zf_X11_samePlace_56 N z S k5 (v1) (v2)) else (if v2 = (0 : Int32) then (zf_X11_samePlace_56 N z S k5 (v1) (v2)) else (mq_ck ((((10 : Int32) * v1) + v3)) 600 (mq_ck (v3) 10 (if (S.2.1 18 ((((10 : Int32) * v1) + v3)).toNatClampNeg) = (S.2.1 31 (v3).toNatClampNeg) then (zf_X11_samePlace_49 N z S k5 k14 (v1) (v3) ((1 : Int32))) else (zf_X11_samePlace_49 N z S k5 k14 (v1) (v3) ((0 : Int32))))))))
def zf_X11_samePlace_14 (N : Nat) (z : Nat → Nat) (S : mq_St) (k5 : Int32 → Option (Int32)) : Nat → Int32 → Int32 → Int32 → Option (Int32)
  | 0, _, _, _ => none
  | n + 1, v1, v2, v3 => zf_X11_samePlace_14b N z S k5 (fun v1 v2 v3 => zf_X11_samePlace_14 N z S k5 n v1 v2 v3) v1 v2 v3
def zf_X11_samePlace_5b (N : Nat) (z : Nat → Nat) (S : mq_St) (k5 : Int32 → Option (Int32)) (v1 : Int32) : Option (Int32) := (if v1 = (-1 : Int32) then (some ((-1 : Int32))) else (mq_nI ((1 : Int32)) (fun x2 => (mq_nI ((0 : Int32)) (fun x3 => (zf_X11_samePlace_14 N z S k5 N (v1) (x2) (x3)))))))
def zf_X11_samePlace_5 (N : Nat) (z : Nat → Nat) (S : mq_St) : Nat → Int32 → Option (Int32)
  | 0, _ => none
  | n + 1, v1 => zf_X11_samePlace_5b N z S (fun v1 => zf_X11_samePlace_5 N z S n v1) v1
def zf_X11_samePlace (N : Nat) (z : Nat → Nat) (S : mq_St) : Option (Int32) := (mq_nI ((S.1 25)) (fun x1 => (zf_X11_samePlace_5 N z S N (x1))))
set_option maxHeartbeats 4000000 in
set_option maxRecDepth 100000 in
theorem zw_X11_samePlace_49 {p : Program} {l : Launch} {e : Env} {s : State} {m : MethodId} {args : Array Value} {below : List Frame} {meth : Method} {c : Code} {A : Nat → Prop} {D : va_G} {a z : Nat → Nat} {cI cL cB cZ : ClassId} {Q : State → Prop} {N : Nat} {S : mq_St} {res : Int32} {k5 : Int32 → Option (Int32)} {k14 : Int32 → Int32 → Int32 → Option (Int32)} (C : mq_C p s m args c A D cI cL cB cZ cX11_samePlace 4 RX11 zc_X11_samePlace) (hret : ∀ (H : Heap) (locs : List Loc) (ls : Array Slot) (pc : Nat), decode cX11_samePlace pc = .ok (.ireturn, 1) → va_P D vwCl (wd_R a cI cL cB cZ z S) H → va_D A (wd_R a cI cL cB cZ z S) → va_S A s.heap H locs → W p l e zr_X11_samePlace s m args below meth c H locs 0 0 Q (F0 m pc ls [.int res])) (hk5 : ∀ (v1 : Int32) (H : Heap) (locs : List Loc) (ls : Array Slot), k5 v1 = some res → lv_has ls 4 [(0, .ref (a 0)), (1, .int (v1))] → va_P D vwCl (wd_R a cI cL cB cZ z S) H → va_D A (wd_R a cI cL cB cZ z S) → va_S A s.heap H locs → W p l e zr_X11_samePlace s m args below meth c H locs 0 0 Q (F0 m 5 ls [])) (hk14 : ∀ (v1 : Int32) (v2 : Int32) (v3 : Int32) (H : Heap) (locs : List Loc) (ls : Array Slot), k14 v1 v2 v3 = some res → lv_has ls 4 [(0, .ref (a 0)), (1, .int (v1)), (2, .int (v2)), (3, .int (v3))] → va_P D vwCl (wd_R a cI cL cB cZ z S) H → va_D A (wd_R a cI cL cB cZ z S) → va_S A s.heap H locs → W p l e zr_X11_samePlace s m args below meth c H locs 0 0 Q (F0 m 14 ls [])) (v1 : Int32) (v3 : Int32) (t0 : Int32) (H : Heap) (locs : List Loc) (ls : Array Slot) (h : zf_X11_samePlace_49 N z S k5 k14 v1 v3 t0 = some res) (hl : lv_has ls 4 [(0, .ref (a 0)), (1, .int (v1)), (3, .int (v3))]) (hP : va_P D vwCl (wd_R a cI cL cB cZ z S) H) (hD : va_D A (wd_R a cI cL cB cZ z S)) (hS : va_S A s.heap H locs) : W p l e zr_X11_samePlace s m args below meth c H locs 0 0 Q (F0 m 49 ls [.int (t0)]) := by
  obtain ⟨hx, hb, hml, hown, hts, hK, hA⟩ := id C
  unfold zf_X11_samePlace_49 at h
  refine lv_topi (fun x10 ex10 => ?_)
  replace h := mq_nI_go ex10 h
  refine lv_istore_n (lv' := [(2, .int (x10)), (0, .ref (a 0)), (1, .int (v1)), (3, .int (v3))]) hx hb dX11_samePlace_49 rfl hl (by decide) rfl (fun ls hl => ?_)
  obtain ⟨x11, ex11⟩ : ∃ y : Int32, y = v3 + (1 : Int32) := ⟨_, rfl⟩
  replace h := mq_nI_go ex11 h
  refine lv_iinc (v := x11) (lv' := [(3, .int (x11)), (2, .int (x10)), (0, .ref (a 0)), (1, .int (v1))]) hx hb dX11_samePlace_50 hl (k := 3) rfl (by rw [ex11]; rfl) (by decide) rfl (fun ls hl => ?_)
  refine lv_goto (tgt := 14) hx hb dX11_samePlace_53 (by decide) ?_
  exact hk14 (v1) (x10) (x11) H locs ls h (lv_sub hl [2, 3, 1, 0] rfl) hP hD hS
set_option maxHeartbeats 4000000 in
set_option maxRecDepth 100000 in
theorem zw_X11_samePlace_56 {p : Program} {l : Launch} {e : Env} {s : State} {m : MethodId} {args : Array Value} {below : List Frame} {meth : Method} {c : Code} {A : Nat → Prop} {D : va_G} {a z : Nat → Nat} {cI cL cB cZ : ClassId} {Q : State → Prop} {N : Nat} {S : mq_St} {res : Int32} {k5 : Int32 → Option (Int32)} (C : mq_C p s m args c A D cI cL cB cZ cX11_samePlace 4 RX11 zc_X11_samePlace) (hret : ∀ (H : Heap) (locs : List Loc) (ls : Array Slot) (pc : Nat), decode cX11_samePlace pc = .ok (.ireturn, 1) → va_P D vwCl (wd_R a cI cL cB cZ z S) H → va_D A (wd_R a cI cL cB cZ z S) → va_S A s.heap H locs → W p l e zr_X11_samePlace s m args below meth c H locs 0 0 Q (F0 m pc ls [.int res])) (hk5 : ∀ (v1 : Int32) (H : Heap) (locs : List Loc) (ls : Array Slot), k5 v1 = some res → lv_has ls 4 [(0, .ref (a 0)), (1, .int (v1))] → va_P D vwCl (wd_R a cI cL cB cZ z S) H → va_D A (wd_R a cI cL cB cZ z S) → va_S A s.heap H locs → W p l e zr_X11_samePlace s m args below meth c H locs 0 0 Q (F0 m 5 ls [])) (v1 : Int32) (v2 : Int32) (H : Heap) (locs : List Loc) (ls : Array Slot) (h : zf_X11_samePlace_56 N z S k5 v1 v2 = some res) (hl : lv_has ls 4 [(0, .ref (a 0)), (1, .int (v1)), (2, .int (v2))]) (hP : va_P D vwCl (wd_R a cI cL cB cZ z S) H) (hD : va_D A (wd_R a cI cL cB cZ z S)) (hS : va_S A s.heap H locs) : W p l e zr_X11_samePlace s m args below meth c H locs 0 0 Q (F0 m 56 ls []) := by
  obtain ⟨hx, hb, hml, hown, hts, hK, hA⟩ := id C
  unfold zf_X11_samePlace_56 at h
  refine lv_iload_n hx hb dX11_samePlace_56 rfl (lv_at hl 2 rfl) ?_
  refine lv_if_eq (tgt := 62) hx hb dX11_samePlace_57 (by decide) (fun c14 => ?_) (fun c14 => ?_)
  · replace h := mq_it c14 h
    refine lv_aload_n hx hb dX11_samePlace_62 rfl (lv_at hl 0 rfl) ?_
    refine va_get (D := D) (ci := 11) (v := .ref (a 21)) (C := RX11) (T := TX11) (N := 76) hx hb hts (zi_X11 _) hown hK hP 0 rfl rfl 46 (by decide) (hts _ (List.mem_cons_of_mem _ zt_f_X11_78)) (fun _ h9 => h9) rfl dX11_samePlace_63 ?_
    refine lv_iload_n hx hb dX11_samePlace_66 rfl (lv_at hl 1 rfl) ?_
    have hi12 := mq_ck_in h
    replace h := mq_ck_go h
    refine va_iald (f := S.2.1 20) hx hb hK hP 21 0 rfl rfl hi12 dX11_samePlace_67 ?_
    refine lv_topi (fun x13 ex13 => ?_)
    replace h := mq_nI_go ex13 h
    refine lv_istore_n (lv' := [(1, .int (x13)), (0, .ref (a 0)), (2, .int (v2))]) hx hb dX11_samePlace_68 rfl hl (by decide) rfl (fun ls hl => ?_)
    refine lv_goto (tgt := 5) hx hb dX11_samePlace_69 (by decide) ?_
    exact hk5 (x13) H locs ls h (lv_sub hl [1, 0] rfl) hP hD hS
  · replace h := mq_if c14 h
    refine lv_iload_n hx hb dX11_samePlace_60 rfl (lv_at hl 1 rfl) ?_
    cases h
    exact hret H locs ls 61 dX11_samePlace_61 hP hD hS
set_option maxHeartbeats 4000000 in
set_option maxRecDepth 100000 in
theorem zw_X11_samePlace_14b {p : Program} {l : Launch} {e : Env} {s : State} {m : MethodId} {args : Array Value} {below : List Frame} {meth : Method} {c : Code} {A : Nat → Prop} {D : va_G} {a z : Nat → Nat} {cI cL cB cZ : ClassId} {Q : State → Prop} {N : Nat} {S : mq_St} {res : Int32} {k5 : Int32 → Option (Int32)} {k14 : Int32 → Int32 → Int32 → Option (Int32)} (C : mq_C p s m args c A D cI cL cB cZ cX11_samePlace 4 RX11 zc_X11_samePlace) (hret : ∀ (H : Heap) (locs : List Loc) (ls : Array Slot) (pc : Nat), decode cX11_samePlace pc = .ok (.ireturn, 1) → va_P D vwCl (wd_R a cI cL cB cZ z S) H → va_D A (wd_R a cI cL cB cZ z S) → va_S A s.heap H locs → W p l e zr_X11_samePlace s m args below meth c H locs 0 0 Q (F0 m pc ls [.int res])) (hk5 : ∀ (v1 : Int32) (H : Heap) (locs : List Loc) (ls : Array Slot), k5 v1 = some res → lv_has ls 4 [(0, .ref (a 0)), (1, .int (v1))] → va_P D vwCl (wd_R a cI cL cB cZ z S) H → va_D A (wd_R a cI cL cB cZ z S) → va_S A s.heap H locs → W p l e zr_X11_samePlace s m args below meth c H locs 0 0 Q (F0 m 5 ls [])) (hk14 : ∀ (v1 : Int32) (v2 : Int32) (v3 : Int32) (H : Heap) (locs : List Loc) (ls : Array Slot), k14 v1 v2 v3 = some res → lv_has ls 4 [(0, .ref (a 0)), (1, .int (v1)), (2, .int (v2)), (3, .int (v3))] → va_P D vwCl (wd_R a cI cL cB cZ z S) H → va_D A (wd_R a cI cL cB cZ z S) → va_S A s.heap H locs → W p l e zr_X11_samePlace s m args below meth c H locs 0 0 Q (F0 m 14 ls [])) (v1 : Int32) (v2 : Int32) (v3 : Int32) (H : Heap) (locs : List Loc) (ls : Array Slot) (h : zf_X11_samePlace_14b N z S k5 k14 v1 v2 v3 = some res) (hl : lv_has ls 4 [(0, .ref (a 0)), (1, .int (v1)), (2, .int (v2)), (3, .int (v3))]) (hP : va_P D vwCl (wd_R a cI cL cB cZ z S) H) (hD : va_D A (wd_R a cI cL cB cZ z S)) (hS : va_S A s.heap H locs) : W p l e zr_X11_samePlace s m args below meth c H locs 0 0 Q (F0 m 14 ls []) := by
  obtain ⟨hx, hb, hml, hown, hts, hK, hA⟩ := id C
  unfold zf_X11_samePlace_14b at h
  refine lv_iload_n hx hb dX11_samePlace_14 rfl (lv_at hl 3 rfl) ?_
  refine lv_bipush (v := (10 : Int32)) hx hb dX11_samePlace_15 (by decide) ?_
  refine lv_icmp_ge (tgt := 56) hx hb dX11_samePlace_17 (by decide) (fun c9 => ?_) (fun c9 => ?_)
  · replace h := mq_it c9 h
    exact zw_X11_samePlace_56 C hret hk5 (v1) (v2) H locs ls h (lv_sub hl [0, 1, 2] rfl) hP hD hS
  · replace h := mq_if c9 h
    refine lv_iload_n hx hb dX11_samePlace_20 rfl (lv_at hl 2 rfl) ?_
    refine lv_if_eq (tgt := 56) hx hb dX11_samePlace_21 (by decide) (fun c8 => ?_) (fun c8 => ?_)
    · replace h := mq_it c8 h
      exact zw_X11_samePlace_56 C hret hk5 (v1) (v2) H locs ls h (lv_sub hl [0, 1, 2] rfl) hP hD hS
    · replace h := mq_if c8 h
      refine lv_aload_n hx hb dX11_samePlace_24 rfl (lv_at hl 0 rfl) ?_
      refine va_get (D := D) (ci := 11) (v := .ref (a 19)) (C := RX11) (T := TX11) (N := 76) hx hb hts (zi_X11 _) hown hK hP 0 rfl rfl 44 (by decide) (hts _ (List.mem_cons_of_mem _ zt_f_X11_72)) (fun _ h9 => h9) rfl dX11_samePlace_25 ?_
      refine lv_bipush (v := (10 : Int32)) hx hb dX11_samePlace_28 (by decide) ?_
      refine lv_iload_n hx hb dX11_samePlace_30 rfl (lv_at hl 1 rfl) ?_
      refine lv_imul hx hb dX11_samePlace_31 ?_
      refine lv_iload_n hx hb dX11_samePlace_32 rfl (lv_at hl 3 rfl) ?_
      refine lv_iadd hx hb dX11_samePlace_33 ?_
      have hi5 := mq_ck_in h
      replace h := mq_ck_go h
      refine va_iald (f := S.2.1 18) hx hb hK hP 19 0 rfl rfl hi5 dX11_samePlace_34 ?_
      refine lv_aload_n hx hb dX11_samePlace_35 rfl (lv_at hl 0 rfl) ?_
      refine va_get (D := D) (ci := 11) (v := .ref (a 32)) (C := RX11) (T := TX11) (N := 76) hx hb hts (zi_X11 _) hown hK hP 0 rfl rfl 60 (by decide) (hts _ (List.mem_cons_of_mem _ zt_f_X11_112)) (fun _ h9 => h9) rfl dX11_samePlace_36 ?_
      refine lv_iload_n hx hb dX11_samePlace_39 rfl (lv_at hl 3 rfl) ?_
      have hi6 := mq_ck_in h
      replace h := mq_ck_go h
      refine va_iald (f := S.2.1 31) hx hb hK hP 32 0 rfl rfl hi6 dX11_samePlace_40 ?_
      refine lv_icmp_ne (tgt := 48) hx hb dX11_samePlace_41 (by decide) (fun c7 => ?_) (fun c7 => ?_)
      · replace h := mq_if c7 h
        refine lv_iconst (v := (0 : Int32)) hx hb dX11_samePlace_48 (by decide) ?_
        exact zw_X11_samePlace_49 C hret hk5 hk14 (v1) (v3) ((0 : Int32)) H locs ls h (lv_sub hl [0, 1, 3] rfl) hP hD hS
      · replace h := mq_it (by simpa using c7) h
        refine lv_iconst (v := (1 : Int32)) hx hb dX11_samePlace_44 (by decide) ?_
        refine lv_goto (tgt := 49) hx hb dX11_samePlace_45 (by decide) ?_
        exact zw_X11_samePlace_49 C hret hk5 hk14 (v1) (v3) ((1 : Int32)) H locs ls h (lv_sub hl [0, 1, 3] rfl) hP hD hS
set_option maxHeartbeats 4000000 in
set_option maxRecDepth 100000 in
theorem zw_X11_samePlace_14 {p : Program} {l : Launch} {e : Env} {s : State} {m : MethodId} {args : Array Value} {below : List Frame} {meth : Method} {c : Code} {A : Nat → Prop} {D : va_G} {a z : Nat → Nat} {cI cL cB cZ : ClassId} {Q : State → Prop} {N : Nat} {S : mq_St} {res : Int32} {k5 : Int32 → Option (Int32)} (C : mq_C p s m args c A D cI cL cB cZ cX11_samePlace 4 RX11 zc_X11_samePlace) (hret : ∀ (H : Heap) (locs : List Loc) (ls : Array Slot) (pc : Nat), decode cX11_samePlace pc = .ok (.ireturn, 1) → va_P D vwCl (wd_R a cI cL cB cZ z S) H → va_D A (wd_R a cI cL cB cZ z S) → va_S A s.heap H locs → W p l e zr_X11_samePlace s m args below meth c H locs 0 0 Q (F0 m pc ls [.int res])) (hk5 : ∀ (v1 : Int32) (H : Heap) (locs : List Loc) (ls : Array Slot), k5 v1 = some res → lv_has ls 4 [(0, .ref (a 0)), (1, .int (v1))] → va_P D vwCl (wd_R a cI cL cB cZ z S) H → va_D A (wd_R a cI cL cB cZ z S) → va_S A s.heap H locs → W p l e zr_X11_samePlace s m args below meth c H locs 0 0 Q (F0 m 5 ls [])) : ∀ (n : Nat) (v1 : Int32) (v2 : Int32) (v3 : Int32) (H : Heap) (locs : List Loc) (ls : Array Slot) (h : zf_X11_samePlace_14 N z S k5 n v1 v2 v3 = some res) (hl : lv_has ls 4 [(0, .ref (a 0)), (1, .int (v1)), (2, .int (v2)), (3, .int (v3))]) (hP : va_P D vwCl (wd_R a cI cL cB cZ z S) H) (hD : va_D A (wd_R a cI cL cB cZ z S)) (hS : va_S A s.heap H locs), W p l e zr_X11_samePlace s m args below meth c H locs 0 0 Q (F0 m 14 ls []) := by
  intro n
  induction n with
  | zero =>
    intro v1 v2 v3 H locs ls h hl hP hD hS
    exact nomatch (show (none : Option (Int32)) = some res from h)
  | succ n ih =>
    intro v1 v2 v3 H locs ls h hl hP hD hS
    exact zw_X11_samePlace_14b C hret hk5 (fun v1 v2 v3 H locs ls h hl hP hD hS => ih v1 v2 v3 H locs ls h hl hP hD hS) v1 v2 v3 H locs ls h hl hP hD hS
set_option maxHeartbeats 4000000 in
set_option maxRecDepth 100000 in
theorem zw_X11_samePlace_5b {p : Program} {l : Launch} {e : Env} {s : State} {m : MethodId} {args : Array Value} {below : List Frame} {meth : Method} {c : Code} {A : Nat → Prop} {D : va_G} {a z : Nat → Nat} {cI cL cB cZ : ClassId} {Q : State → Prop} {N : Nat} {S : mq_St} {res : Int32} {k5 : Int32 → Option (Int32)} (C : mq_C p s m args c A D cI cL cB cZ cX11_samePlace 4 RX11 zc_X11_samePlace) (hret : ∀ (H : Heap) (locs : List Loc) (ls : Array Slot) (pc : Nat), decode cX11_samePlace pc = .ok (.ireturn, 1) → va_P D vwCl (wd_R a cI cL cB cZ z S) H → va_D A (wd_R a cI cL cB cZ z S) → va_S A s.heap H locs → W p l e zr_X11_samePlace s m args below meth c H locs 0 0 Q (F0 m pc ls [.int res])) (hk5 : ∀ (v1 : Int32) (H : Heap) (locs : List Loc) (ls : Array Slot), k5 v1 = some res → lv_has ls 4 [(0, .ref (a 0)), (1, .int (v1))] → va_P D vwCl (wd_R a cI cL cB cZ z S) H → va_D A (wd_R a cI cL cB cZ z S) → va_S A s.heap H locs → W p l e zr_X11_samePlace s m args below meth c H locs 0 0 Q (F0 m 5 ls [])) (v1 : Int32) (H : Heap) (locs : List Loc) (ls : Array Slot) (h : zf_X11_samePlace_5b N z S k5 v1 = some res) (hl : lv_has ls 4 [(0, .ref (a 0)), (1, .int (v1))]) (hP : va_P D vwCl (wd_R a cI cL cB cZ z S) H) (hD : va_D A (wd_R a cI cL cB cZ z S)) (hS : va_S A s.heap H locs) : W p l e zr_X11_samePlace s m args below meth c H locs 0 0 Q (F0 m 5 ls []) := by
  obtain ⟨hx, hb, hml, hown, hts, hK, hA⟩ := id C
  unfold zf_X11_samePlace_5b at h
  refine lv_iload_n hx hb dX11_samePlace_5 rfl (lv_at hl 1 rfl) ?_
  refine lv_iconst (v := (-1 : Int32)) hx hb dX11_samePlace_6 (by decide) ?_
  refine lv_icmp_eq (tgt := 72) hx hb dX11_samePlace_7 (by decide) (fun c4 => ?_) (fun c4 => ?_)
  · replace h := mq_it c4 h
    refine lv_iconst (v := (-1 : Int32)) hx hb dX11_samePlace_72 (by decide) ?_
    cases h
    exact hret H locs ls 73 dX11_samePlace_73 hP hD hS
  · replace h := mq_if c4 h
    refine lv_iconst (v := (1 : Int32)) hx hb dX11_samePlace_10 (by decide) ?_
    refine lv_topi (fun x2 ex2 => ?_)
    replace h := mq_nI_go ex2 h
    refine lv_istore_n (lv' := [(2, .int (x2)), (0, .ref (a 0)), (1, .int (v1))]) hx hb dX11_samePlace_11 rfl hl (by decide) rfl (fun ls hl => ?_)
    refine lv_iconst (v := (0 : Int32)) hx hb dX11_samePlace_12 (by decide) ?_
    refine lv_topi (fun x3 ex3 => ?_)
    replace h := mq_nI_go ex3 h
    refine lv_istore_n (lv' := [(3, .int (x3)), (2, .int (x2)), (0, .ref (a 0)), (1, .int (v1))]) hx hb dX11_samePlace_13 rfl hl (by decide) rfl (fun ls hl => ?_)
    exact zw_X11_samePlace_14 C hret hk5 N (v1) (x2) (x3) H locs ls h (lv_sub hl [2, 3, 1, 0] rfl) hP hD hS
set_option maxHeartbeats 4000000 in
set_option maxRecDepth 100000 in
theorem zw_X11_samePlace_5 {p : Program} {l : Launch} {e : Env} {s : State} {m : MethodId} {args : Array Value} {below : List Frame} {meth : Method} {c : Code} {A : Nat → Prop} {D : va_G} {a z : Nat → Nat} {cI cL cB cZ : ClassId} {Q : State → Prop} {N : Nat} {S : mq_St} {res : Int32} (C : mq_C p s m args c A D cI cL cB cZ cX11_samePlace 4 RX11 zc_X11_samePlace) (hret : ∀ (H : Heap) (locs : List Loc) (ls : Array Slot) (pc : Nat), decode cX11_samePlace pc = .ok (.ireturn, 1) → va_P D vwCl (wd_R a cI cL cB cZ z S) H → va_D A (wd_R a cI cL cB cZ z S) → va_S A s.heap H locs → W p l e zr_X11_samePlace s m args below meth c H locs 0 0 Q (F0 m pc ls [.int res])) : ∀ (n : Nat) (v1 : Int32) (H : Heap) (locs : List Loc) (ls : Array Slot) (h : zf_X11_samePlace_5 N z S n v1 = some res) (hl : lv_has ls 4 [(0, .ref (a 0)), (1, .int (v1))]) (hP : va_P D vwCl (wd_R a cI cL cB cZ z S) H) (hD : va_D A (wd_R a cI cL cB cZ z S)) (hS : va_S A s.heap H locs), W p l e zr_X11_samePlace s m args below meth c H locs 0 0 Q (F0 m 5 ls []) := by
  intro n
  induction n with
  | zero =>
    intro v1 H locs ls h hl hP hD hS
    exact nomatch (show (none : Option (Int32)) = some res from h)
  | succ n ih =>
    intro v1 H locs ls h hl hP hD hS
    exact zw_X11_samePlace_5b C hret (fun v1 H locs ls h hl hP hD hS => ih v1 H locs ls h hl hP hD hS) v1 H locs ls h hl hP hD hS
set_option maxHeartbeats 4000000 in
set_option maxRecDepth 100000 in
theorem zw_X11_samePlace_0 {p : Program} {l : Launch} {e : Env} {s : State} {m : MethodId} {args : Array Value} {below : List Frame} {meth : Method} {c : Code} {A : Nat → Prop} {D : va_G} {a z : Nat → Nat} {cI cL cB cZ : ClassId} {Q : State → Prop} {N : Nat} {S : mq_St} {res : Int32} (C : mq_C p s m args c A D cI cL cB cZ cX11_samePlace 4 RX11 zc_X11_samePlace) (hret : ∀ (H : Heap) (locs : List Loc) (ls : Array Slot) (pc : Nat), decode cX11_samePlace pc = .ok (.ireturn, 1) → va_P D vwCl (wd_R a cI cL cB cZ z S) H → va_D A (wd_R a cI cL cB cZ z S) → va_S A s.heap H locs → W p l e zr_X11_samePlace s m args below meth c H locs 0 0 Q (F0 m pc ls [.int res])) (H : Heap) (locs : List Loc) (ls : Array Slot) (h : zf_X11_samePlace N z S = some res) (hl : lv_has ls 4 [(0, .ref (a 0))]) (hP : va_P D vwCl (wd_R a cI cL cB cZ z S) H) (hD : va_D A (wd_R a cI cL cB cZ z S)) (hS : va_S A s.heap H locs) : W p l e zr_X11_samePlace s m args below meth c H locs 0 0 Q (F0 m 0 ls []) := by
  obtain ⟨hx, hb, hml, hown, hts, hK, hA⟩ := id C
  unfold zf_X11_samePlace at h
  refine lv_aload_n hx hb dX11_samePlace_0 rfl (lv_at hl 0 rfl) ?_
  refine va_get (D := D) (ci := 11) (v := .int ((S.1 25))) (C := RX11) (T := TX11) (N := 76) hx hb hts (zi_X11 _) hown hK hP 0 rfl rfl 43 (by decide) (hts _ (List.mem_cons_of_mem _ zt_f_X11_295)) (fun _ h9 => h9) rfl dX11_samePlace_1 ?_
  refine lv_topi (fun x1 ex1 => ?_)
  replace h := mq_nI_go ex1 h
  refine lv_istore_n (lv' := [(1, .int (x1)), (0, .ref (a 0))]) hx hb dX11_samePlace_4 rfl hl (by decide) rfl (fun ls hl => ?_)
  exact zw_X11_samePlace_5 C hret N (x1) H locs ls h (lv_sub hl [1, 0] rfl) hP hD hS
set_option maxHeartbeats 4000000 in
set_option maxRecDepth 100000 in
theorem zm_X11_samePlace (l : Launch) (D : va_G) (a z : Nat → Nat) (cI cL cB cZ : ClassId) (sz N : Nat) (S : mq_St) (res : Int32) (h : zf_X11_samePlace N z S = some res) : Met l yX11_samePlace (zc_X11_samePlace :: mq_T) zr_X11_samePlace (va_Pc [.ref (a 0)] (fun U => U.heap.size = sz ∧ va_P D vwCl (wd_R a cI cL cB cZ z S) U.heap ∧ va_K D vwCl (mq_tys cI cL cB cZ) U ∧ va_D (fun _ => True) (wd_R a cI cL cB cZ z S))) (va_Qi (fun (r : Int32) (u : mq_St) => r = res ∧ u = S) (fun u t => va_P D vwCl (wd_R a cI cL cB cZ z u) t.heap ∧ va_K D vwCl (mq_tys cI cL cB cZ) t ∧ va_D (va_A (wd_R a cI cL cB cZ z S) sz) (wd_R a cI cL cB cZ z u)) (va_A (wd_R a cI cL cB cZ z S) sz)) 0 0 (va_A (wd_R a cI cL cB cZ z S) sz) := by
  refine Met.ofW (cc := cX11_samePlace) (maxL := 4) (ret := (some .int)) (by decide) rfl ?_
  intro p e s m args below meth c s₁ B hml hv
  obtain ⟨rfl, hsz, hP, hK, hD0⟩ := hv
  have hr := B.returns
  have hlocks := B.notSynchronized
  have hts := atoms_spec (ws := zc_X11_samePlace :: mq_T) B.pre
  have hown : s.vm.findClass RX11 = some m.cls := findClass_of_methodNamed B.named
  subst hsz
  have hD := hD0.self (sz := s.heap.size)
  generalize hAe : va_A (wd_R a cI cL cB cZ z S) s.heap.size = A at hD ⊢
  have hA : ∀ q : Nat, s.heap.size ≤ q → A q := fun q h => by rw [← hAe]; exact Or.inr h
  have hl := lv_entry ([.ref (a 0)]) (n := 4) (Nat.le_of_ble_eq_true rfl)
  rw [lg_entry_eq]
  generalize (lg_sl ([.ref (a 0)]) ++ List.replicate (4 - (lg_sl ([.ref (a 0)])).length) Slot.unset).toArray = ls at hl ⊢
  have hl : lv_has ls 4 [(0, .ref (a 0))] := hl
  refine zw_X11_samePlace_0 (A := A) ⟨B.exec, B.bytes, hml, hown, hts, hK, hA⟩ (fun H locs ls pc dg hP hD hS => ?_) s.heap [] ls h hl hP hD va_S.rf
  exact W.iret B.exec B.bytes hr (fun t ht hW => ⟨⟨_, _, rfl, ⟨rfl, rfl⟩, by rw [ht]; exact hP, va_K.moved hW.alike hK, hD⟩, hS.F ht⟩) hS.2.2 dg
theorem zt_X11_samePlace_c : zc_X11_samePlace ∈ mq_T := mq_T_mem (mq_t7 (List.mem_of_getElem? (i := 123) rfl)) rfl
theorem zt_X11_samePlace_i : Cond.instanceMethod yX11_samePlace ∈ mq_T := mq_T_mem (mq_t7 (List.mem_of_getElem? (i := 122) rfl)) rfl
theorem zt_X11_samePlace_s : Cond.selects RX11 yX11_samePlace yX11_samePlace ∈ mq_T := mq_T_at 100 (by decide +kernel)
set_option maxHeartbeats 4000000 in
theorem zk_X11_samePlace {p : Program} {l : Launch} {e : Env} {R : Room} {s : State} {m : MethodId} {args : Array Value} {below : List Frame} {meth : Method} {c : Code} {A : Nat → Prop} {D : va_G} {a z : Nat → Nat} {cI cL cB cZ : ClassId} {Q : State → Prop} {cc : ByteArray} {nL idx pc N : Nat} {own : String} {c1 : Cond} {H : Heap} {locs : List Loc} {ls : Array Slot} {rest : List Value} {S : mq_St} {res : Int32} (C : mq_C p s m args c A D cI cL cB cZ cc nL own c1) (hlk : Cond.methodLink own idx yX11_samePlace ∈ mq_T) (hR : zr_X11_samePlace.frames + 1 ≤ R.frames ∧ 8 + (4 + 11) + zr_X11_samePlace.locals ≤ R.locals) (h : zf_X11_samePlace N z S = some res) (hP : va_P D vwCl (wd_R a cI cL cB cZ z S) H) (hD : va_D A (wd_R a cI cL cB cZ z S)) (hS : va_S A s.heap H locs) (hls : ls.size = nL) (hrest : (rest.map fun v => v.category).sum ≤ 8) (hdg : decode cc pc = .ok (.invokevirtual idx, 3)) (kk : ∀ (H1 : Heap) (locs1 : List Loc), va_P D vwCl (wd_R a cI cL cB cZ z S) H1 → va_D A (wd_R a cI cL cB cZ z S) → va_S A s.heap H1 locs1 → W p l e R s m args below meth c H1 locs1 0 0 Q (F0 m (pc + 3) ls (.int res :: rest))) : W p l e R s m args below meth c H locs 0 0 Q (F0 m pc ls (.ref (a 0) :: rest)) := by
  obtain ⟨hx, hb, hml, hown, hts, hK, hA⟩ := C
  have hFc := mq_freeI hD hS hA
  refine va_calli (va_runV (As := []) (rest := rest) ⟨hx, hb, hml, hown, hts⟩ (zm_X11_samePlace l D a z cI cL cB cZ H.size N S res h) (cwV 0 hts (mq_goodL (mq_wsV hlk zt_X11_samePlace_i zt_X11_samePlace_s zt_ini_X11 zt_X11_samePlace_c)) rfl rfl rfl (by decide +kernel) hR) ⟨fun a U g mk q => ⟨q.1, q.2.1, q.2.2.1, va_K.moved (u := U) (U := U.calling g mk a) (Vm.Alike.refl U.vm) q.2.2.2.1, q.2.2.2.2⟩, zy_R_0 hK hP, fun U hU hW => ⟨rfl, by rw [hU], by rw [hU]; exact hP, va_K.moved hW.alike hK, hD.weaken (fun _ _ _ _ => trivial)⟩⟩ rfl rfl hls rfl (lv_room hrest) hdg ⟨Nat.zero_le _, Nat.zero_le _⟩) hS (fun q _ h => hFc q h) hFc (fun r u t H1 locs ht hvm hw hB hz1 hk1 hS => ?_)
  obtain ⟨rfl, rfl⟩ := hw
  obtain ⟨hP1, hK1, hD1⟩ := hB
  rw [ht] at hP1
  exact kk H1 locs hP1 (hD1.weaken (fun _ _ _ h => hFc _ h)) hS
theorem zx_wd_R_wd_A1_32 (a z : Nat → Nat) (cI cL cB cZ : ClassId) (S X : mq_St) : mq_setM (wd_R a cI cL cB cZ z S) [32] (wd_A1 (mq_ad a [32]) cI cL cB cZ (fun k => [10].getD k 0) X) = (wd_R a cI cL cB cZ z (mq_push S X [] [31] [])) := rfl
theorem zs_wd_R_a_32_31 (a z : Nat → Nat) (cI cL cB cZ : ClassId) (S : mq_St) (f : Nat → Int32) : (wd_R a cI cL cB cZ z S).set 32 (a 32, .inl (cI, 10, .inl f)) = (wd_R a cI cL cB cZ z (mq_sa S 31 f)) := rfl
/-! ModalDeskModel.makeStart(I)V -/
def zr_X11_makeStart : Room := { frames := 1, cells := 0, slots := 0, locals := 22 }
def zc_X11_makeStart : Cond := .code yX11_makeStart cX11_makeStart 3 none
def zf_X11_makeStart_77 (N : Nat) (z : Nat → Nat) (k37 : Int32 → mq_St → Option (Unit × mq_St)) (v2 : Int32) (S : mq_St) : Option (Unit × mq_St) := (mq_nI (v2 + (1 : Int32)) (fun x20 => (k37 (x20) S)))
def zf_X11_makeStart_37b (N : Nat) (z : Nat → Nat) (k37 : Int32 → mq_St → Option (Unit × mq_St)) (v2 : Int32) (S : mq_St) : Option (Unit × mq_St) := (if (S.1 3) ≤ v2 then (some ((), S)) else (mq_ck (v2) 300 (if (S.2.1 2 (v2).toNatClampNeg) = (6 : Int32) then (mq_cp (zf_X11_isIn N (fun k => [10].getD k 0) ((0 : Int32)) (v2) (mq_pull S [] [17] [])) (fun q12 => (if q12 = (0 : Int32) then (zf_X11_makeStart_77 N z k37 (v2) S) else (mq_cl (zf_X11_put N (fun k => [10].getD k 0) ((0 : Int32)) (v2) (mq_pull S [] [31] [])) (fun q14v q14s => mq_nS (mq_push S q14s [] [31] []) (fun S16 => (zf_X11_makeStart_77 N z k37 (v2) S16))))))) else (zf_X11_makeStart_77 N z k37 (v2) S))))
def zf_X11_makeStart_37 (N : Nat) (z : Nat → Nat) : Nat → Int32 → mq_St → Option (Unit × mq_St)
  | 0, _, _ => none
  | n + 1, v2, S => zf_X11_makeStart_37b N z (fun v2 S => zf_X11_makeStart_37 N z n v2 S) v2 S
def zf_X11_makeStart_2b (N : Nat) (z : Nat → Nat) (k2 : Int32 → Int32 → mq_St → Option (Unit × mq_St)) (v1 : Int32) (v2 : Int32) (S : mq_St) : Option (Unit × mq_St) := (if (10 : Int32) ≤ v2 then (mq_ck (v1) 300 (mq_cl (zf_X11_put N (fun k => [10].getD k 0) ((0 : Int32)) ((S.2.1 3 (v1).toNatClampNeg)) (mq_pull S [] [31] [])) (fun q3v q3s => mq_nS (mq_push S q3s [] [31] []) (fun S5 => (mq_nI ((2 : Int32)) (fun x6 => (zf_X11_makeStart_37 N z N (x6) S5))))))) else (mq_ck (v2) 10 (mq_nS (mq_sa S 31 (upd (S.2.1 31) (v2).toNatClampNeg ((0 : Int32)))) (fun S8 => (mq_nI (v2 + (1 : Int32)) (fun x9 => (k2 (v1) (x9) S8)))))))
def zf_X11_makeStart_2 (N : Nat) (z : Nat → Nat) : Nat → Int32 → Int32 → mq_St → Option (Unit × mq_St)
  | 0, _, _, _ => none
  | n + 1, v1, v2, S => zf_X11_makeStart_2b N z (fun v1 v2 S => zf_X11_makeStart_2 N z n v1 v2 S) v1 v2 S
def zf_X11_makeStart (N : Nat) (z : Nat → Nat) (v1 : Int32) (S : mq_St) : Option (Unit × mq_St) := (mq_nI ((0 : Int32)) (fun x1 => (zf_X11_makeStart_2 N z N (v1) (x1) S)))
set_option maxHeartbeats 4000000 in
set_option maxRecDepth 100000 in
theorem zw_X11_makeStart_77 {p : Program} {l : Launch} {e : Env} {s : State} {m : MethodId} {args : Array Value} {below : List Frame} {meth : Method} {c : Code} {A : Nat → Prop} {D : va_G} {a z : Nat → Nat} {cI cL cB cZ : ClassId} {Q : State → Prop} {N : Nat} {res : Unit × mq_St} {k37 : Int32 → mq_St → Option (Unit × mq_St)} (C : mq_C p s m args c A D cI cL cB cZ cX11_makeStart 3 RX11 zc_X11_makeStart) (hret : ∀ (H : Heap) (locs : List Loc) (ls : Array Slot) (pc : Nat), decode cX11_makeStart pc = .ok (.return_, 1) → va_P D vwCl (wd_R a cI cL cB cZ z res.2) H → va_D A (wd_R a cI cL cB cZ z res.2) → va_S A s.heap H locs → W p l e zr_X11_makeStart s m args below meth c H locs 0 0 Q (F0 m pc ls [])) (hk37 : ∀ (v2 : Int32) (S : mq_St) (H : Heap) (locs : List Loc) (ls : Array Slot), k37 v2 S = some res → lv_has ls 3 [(0, .ref (a 0)), (2, .int (v2))] → va_P D vwCl (wd_R a cI cL cB cZ z S) H → va_D A (wd_R a cI cL cB cZ z S) → va_S A s.heap H locs → W p l e zr_X11_makeStart s m args below meth c H locs 0 0 Q (F0 m 37 ls [])) (v2 : Int32) (S : mq_St) (H : Heap) (locs : List Loc) (ls : Array Slot) (h : zf_X11_makeStart_77 N z k37 v2 S = some res) (hl : lv_has ls 3 [(0, .ref (a 0)), (2, .int (v2))]) (hP : va_P D vwCl (wd_R a cI cL cB cZ z S) H) (hD : va_D A (wd_R a cI cL cB cZ z S)) (hS : va_S A s.heap H locs) : W p l e zr_X11_makeStart s m args below meth c H locs 0 0 Q (F0 m 77 ls []) := by
  obtain ⟨hx, hb, hml, hown, hts, hK, hA⟩ := id C
  unfold zf_X11_makeStart_77 at h
  obtain ⟨x20, ex20⟩ : ∃ y : Int32, y = v2 + (1 : Int32) := ⟨_, rfl⟩
  replace h := mq_nI_go ex20 h
  refine lv_iinc (v := x20) (lv' := [(2, .int (x20)), (0, .ref (a 0))]) hx hb dX11_makeStart_77 hl (k := 1) rfl (by rw [ex20]; rfl) (by decide) rfl (fun ls hl => ?_)
  refine lv_goto (tgt := 37) hx hb dX11_makeStart_80 (by decide) ?_
  exact hk37 (x20) S H locs ls h (lv_sub hl [1, 0] rfl) hP hD hS
set_option maxHeartbeats 4000000 in
set_option maxRecDepth 100000 in
theorem zw_X11_makeStart_37b {p : Program} {l : Launch} {e : Env} {s : State} {m : MethodId} {args : Array Value} {below : List Frame} {meth : Method} {c : Code} {A : Nat → Prop} {D : va_G} {a z : Nat → Nat} {cI cL cB cZ : ClassId} {Q : State → Prop} {N : Nat} {res : Unit × mq_St} {k37 : Int32 → mq_St → Option (Unit × mq_St)} (C : mq_C p s m args c A D cI cL cB cZ cX11_makeStart 3 RX11 zc_X11_makeStart) (hret : ∀ (H : Heap) (locs : List Loc) (ls : Array Slot) (pc : Nat), decode cX11_makeStart pc = .ok (.return_, 1) → va_P D vwCl (wd_R a cI cL cB cZ z res.2) H → va_D A (wd_R a cI cL cB cZ z res.2) → va_S A s.heap H locs → W p l e zr_X11_makeStart s m args below meth c H locs 0 0 Q (F0 m pc ls [])) (hk37 : ∀ (v2 : Int32) (S : mq_St) (H : Heap) (locs : List Loc) (ls : Array Slot), k37 v2 S = some res → lv_has ls 3 [(0, .ref (a 0)), (2, .int (v2))] → va_P D vwCl (wd_R a cI cL cB cZ z S) H → va_D A (wd_R a cI cL cB cZ z S) → va_S A s.heap H locs → W p l e zr_X11_makeStart s m args below meth c H locs 0 0 Q (F0 m 37 ls [])) (v2 : Int32) (S : mq_St) (H : Heap) (locs : List Loc) (ls : Array Slot) (h : zf_X11_makeStart_37b N z k37 v2 S = some res) (hl : lv_has ls 3 [(0, .ref (a 0)), (2, .int (v2))]) (hP : va_P D vwCl (wd_R a cI cL cB cZ z S) H) (hD : va_D A (wd_R a cI cL cB cZ z S)) (hS : va_S A s.heap H locs) : W p l e zr_X11_makeStart s m args below meth c H locs 0 0 Q (F0 m 37 ls []) := by
  obtain ⟨hx, hb, hml, hown, hts, hK, hA⟩ := id C
  unfold zf_X11_makeStart_37b at h
  refine lv_iload_n hx hb dX11_makeStart_37 rfl (lv_at hl 1 rfl) ?_
  refine lv_aload_n hx hb dX11_makeStart_38 rfl (lv_at hl 0 rfl) ?_
  refine va_get (D := D) (ci := 11) (v := .int ((S.1 3))) (C := RX11) (T := TX11) (N := 76) hx hb hts (zi_X11 _) hown hK hP 0 rfl rfl 8 (by decide) (hts _ (List.mem_cons_of_mem _ zt_f_X11_26)) (fun _ h9 => h9) rfl dX11_makeStart_39 ?_
  refine lv_icmp_ge (tgt := 83) hx hb dX11_makeStart_42 (by decide) (fun c19 => ?_) (fun c19 => ?_)
  · replace h := mq_it c19 h
    cases h
    exact hret H locs ls 83 dX11_makeStart_83 hP hD hS
  · replace h := mq_if c19 h
    refine lv_aload_n hx hb dX11_makeStart_45 rfl (lv_at hl 0 rfl) ?_
    refine va_get (D := D) (ci := 11) (v := .ref (a 3)) (C := RX11) (T := TX11) (N := 76) hx hb hts (zi_X11 _) hown hK hP 0 rfl rfl 5 (by decide) (hts _ (List.mem_cons_of_mem _ zt_f_X11_16)) (fun _ h9 => h9) rfl dX11_makeStart_46 ?_
    refine lv_iload_n hx hb dX11_makeStart_49 rfl (lv_at hl 1 rfl) ?_
    have hi11 := mq_ck_in h
    replace h := mq_ck_go h
    refine va_iald (f := S.2.1 2) hx hb hK hP 3 0 rfl rfl hi11 dX11_makeStart_50 ?_
    refine lv_bipush (v := (6 : Int32)) hx hb dX11_makeStart_51 (by decide) ?_
    refine lv_icmp_ne (tgt := 77) hx hb dX11_makeStart_53 (by decide) (fun c18 => ?_) (fun c18 => ?_)
    · replace h := mq_if c18 h
      exact zw_X11_makeStart_77 C hret hk37 (v2) S H locs ls h (lv_sub hl [0, 1] rfl) hP hD hS
    · replace h := mq_it (by simpa using c18) h
      refine lv_aload_n hx hb dX11_makeStart_56 rfl (lv_at hl 0 rfl) ?_
      refine va_get (D := D) (ci := 11) (v := .ref (a 18)) (C := RX11) (T := TX11) (N := 76) hx hb hts (zi_X11 _) hown hK hP 0 rfl rfl 35 (by decide) (hts _ (List.mem_cons_of_mem _ zt_f_X11_69)) (fun _ h9 => h9) rfl dX11_makeStart_57 ?_
      refine lv_iconst (v := (0 : Int32)) hx hb dX11_makeStart_60 (by decide) ?_
      refine lv_iload_n hx hb dX11_makeStart_61 rfl (lv_at hl 1 rfl) ?_
      obtain ⟨q12, hc13, h⟩ := mq_cp_go h
      refine zv_X11_isIn (a := mq_ad a [18]) (z := (fun k => [10].getD k 0)) [18] C zt_m_X11_273 ⟨by decide, by decide⟩ hc13 rfl (by decide) hP hD hS hl.1 (Nat.le_of_ble_eq_true rfl) dX11_makeStart_62 (fun H locs hP hD hS => ?_)
      refine lv_if_eq (tgt := 77) hx hb dX11_makeStart_65 (by decide) (fun c17 => ?_) (fun c17 => ?_)
      · replace h := mq_it c17 h
        exact zw_X11_makeStart_77 C hret hk37 (v2) S H locs ls h (lv_sub hl [0, 1] rfl) hP hD hS
      · replace h := mq_if c17 h
        refine lv_aload_n hx hb dX11_makeStart_68 rfl (lv_at hl 0 rfl) ?_
        refine va_get (D := D) (ci := 11) (v := .ref (a 32)) (C := RX11) (T := TX11) (N := 76) hx hb hts (zi_X11 _) hown hK hP 0 rfl rfl 60 (by decide) (hts _ (List.mem_cons_of_mem _ zt_f_X11_112)) (fun _ h9 => h9) rfl dX11_makeStart_69 ?_
        refine lv_iconst (v := (0 : Int32)) hx hb dX11_makeStart_72 (by decide) ?_
        refine lv_iload_n hx hb dX11_makeStart_73 rfl (lv_at hl 1 rfl) ?_
        obtain ⟨q14, hc15, h⟩ := mq_cl_go h
        refine zv_X11_put (a := mq_ad a [32]) (z := (fun k => [10].getD k 0)) [32] C zt_m_X11_324 ⟨by decide, by decide⟩ hc15 rfl (by decide) (ws' := (wd_R a cI cL cB cZ z (mq_push S q14.2 [] [31] []))) (zx_wd_R_wd_A1_32 _ _ _ _ _ _ _ _) hP hD hS hl.1 (Nat.le_of_ble_eq_true rfl) dX11_makeStart_74 (fun H locs hP hD hS => ?_)
        obtain ⟨S16, eS16⟩ : ∃ y, y = mq_push S q14.2 [] [31] [] := ⟨_, rfl⟩
        replace h := mq_nS_go eS16 h
        rw [← eS16] at hP hD
        exact zw_X11_makeStart_77 C hret hk37 (v2) S16 H locs ls h (lv_sub hl [0, 1] rfl) hP hD hS
set_option maxHeartbeats 4000000 in
set_option maxRecDepth 100000 in
theorem zw_X11_makeStart_37 {p : Program} {l : Launch} {e : Env} {s : State} {m : MethodId} {args : Array Value} {below : List Frame} {meth : Method} {c : Code} {A : Nat → Prop} {D : va_G} {a z : Nat → Nat} {cI cL cB cZ : ClassId} {Q : State → Prop} {N : Nat} {res : Unit × mq_St} (C : mq_C p s m args c A D cI cL cB cZ cX11_makeStart 3 RX11 zc_X11_makeStart) (hret : ∀ (H : Heap) (locs : List Loc) (ls : Array Slot) (pc : Nat), decode cX11_makeStart pc = .ok (.return_, 1) → va_P D vwCl (wd_R a cI cL cB cZ z res.2) H → va_D A (wd_R a cI cL cB cZ z res.2) → va_S A s.heap H locs → W p l e zr_X11_makeStart s m args below meth c H locs 0 0 Q (F0 m pc ls [])) : ∀ (n : Nat) (v2 : Int32) (S : mq_St) (H : Heap) (locs : List Loc) (ls : Array Slot) (h : zf_X11_makeStart_37 N z n v2 S = some res) (hl : lv_has ls 3 [(0, .ref (a 0)), (2, .int (v2))]) (hP : va_P D vwCl (wd_R a cI cL cB cZ z S) H) (hD : va_D A (wd_R a cI cL cB cZ z S)) (hS : va_S A s.heap H locs), W p l e zr_X11_makeStart s m args below meth c H locs 0 0 Q (F0 m 37 ls []) := by
  intro n
  induction n with
  | zero =>
    intro v2 S H locs ls h hl hP hD hS
    exact nomatch (show (none : Option (Unit × mq_St)) = some res from h)
  | succ n ih =>
    intro v2 S H locs ls h hl hP hD hS
    exact zw_X11_makeStart_37b C hret (fun v2 S H locs ls h hl hP hD hS => ih v2 S H locs ls h hl hP hD hS) v2 S H locs ls h hl hP hD hS
set_option maxHeartbeats 4000000 in
set_option maxRecDepth 100000 in
theorem zw_X11_makeStart_2b {p : Program} {l : Launch} {e : Env} {s : State} {m : MethodId} {args : Array Value} {below : List Frame} {meth : Method} {c : Code} {A : Nat → Prop} {D : va_G} {a z : Nat → Nat} {cI cL cB cZ : ClassId} {Q : State → Prop} {N : Nat} {res : Unit × mq_St} {k2 : Int32 → Int32 → mq_St → Option (Unit × mq_St)} (C : mq_C p s m args c A D cI cL cB cZ cX11_makeStart 3 RX11 zc_X11_makeStart) (hret : ∀ (H : Heap) (locs : List Loc) (ls : Array Slot) (pc : Nat), decode cX11_makeStart pc = .ok (.return_, 1) → va_P D vwCl (wd_R a cI cL cB cZ z res.2) H → va_D A (wd_R a cI cL cB cZ z res.2) → va_S A s.heap H locs → W p l e zr_X11_makeStart s m args below meth c H locs 0 0 Q (F0 m pc ls [])) (hk2 : ∀ (v1 : Int32) (v2 : Int32) (S : mq_St) (H : Heap) (locs : List Loc) (ls : Array Slot), k2 v1 v2 S = some res → lv_has ls 3 [(0, .ref (a 0)), (1, .int (v1)), (2, .int (v2))] → va_P D vwCl (wd_R a cI cL cB cZ z S) H → va_D A (wd_R a cI cL cB cZ z S) → va_S A s.heap H locs → W p l e zr_X11_makeStart s m args below meth c H locs 0 0 Q (F0 m 2 ls [])) (v1 : Int32) (v2 : Int32) (S : mq_St) (H : Heap) (locs : List Loc) (ls : Array Slot) (h : zf_X11_makeStart_2b N z k2 v1 v2 S = some res) (hl : lv_has ls 3 [(0, .ref (a 0)), (1, .int (v1)), (2, .int (v2))]) (hP : va_P D vwCl (wd_R a cI cL cB cZ z S) H) (hD : va_D A (wd_R a cI cL cB cZ z S)) (hS : va_S A s.heap H locs) : W p l e zr_X11_makeStart s m args below meth c H locs 0 0 Q (F0 m 2 ls []) := by
  obtain ⟨hx, hb, hml, hown, hts, hK, hA⟩ := id C
  unfold zf_X11_makeStart_2b at h
  refine lv_iload_n hx hb dX11_makeStart_2 rfl (lv_at hl 2 rfl) ?_
  refine lv_bipush (v := (10 : Int32)) hx hb dX11_makeStart_3 (by decide) ?_
  refine lv_icmp_ge (tgt := 21) hx hb dX11_makeStart_5 (by decide) (fun c10 => ?_) (fun c10 => ?_)
  · replace h := mq_it c10 h
    refine lv_aload_n hx hb dX11_makeStart_21 rfl (lv_at hl 0 rfl) ?_
    refine va_get (D := D) (ci := 11) (v := .ref (a 32)) (C := RX11) (T := TX11) (N := 76) hx hb hts (zi_X11 _) hown hK hP 0 rfl rfl 60 (by decide) (hts _ (List.mem_cons_of_mem _ zt_f_X11_112)) (fun _ h9 => h9) rfl dX11_makeStart_22 ?_
    refine lv_iconst (v := (0 : Int32)) hx hb dX11_makeStart_25 (by decide) ?_
    refine lv_aload_n hx hb dX11_makeStart_26 rfl (lv_at hl 0 rfl) ?_
    refine va_get (D := D) (ci := 11) (v := .ref (a 4)) (C := RX11) (T := TX11) (N := 76) hx hb hts (zi_X11 _) hown hK hP 0 rfl rfl 6 (by decide) (hts _ (List.mem_cons_of_mem _ zt_f_X11_20)) (fun _ h9 => h9) rfl dX11_makeStart_27 ?_
    refine lv_iload_n hx hb dX11_makeStart_30 rfl (lv_at hl 1 rfl) ?_
    have hi2 := mq_ck_in h
    replace h := mq_ck_go h
    refine va_iald (f := S.2.1 3) hx hb hK hP 4 0 rfl rfl hi2 dX11_makeStart_31 ?_
    obtain ⟨q3, hc4, h⟩ := mq_cl_go h
    refine zv_X11_put (a := mq_ad a [32]) (z := (fun k => [10].getD k 0)) [32] C zt_m_X11_324 ⟨by decide, by decide⟩ hc4 rfl (by decide) (ws' := (wd_R a cI cL cB cZ z (mq_push S q3.2 [] [31] []))) (zx_wd_R_wd_A1_32 _ _ _ _ _ _ _ _) hP hD hS hl.1 (Nat.le_of_ble_eq_true rfl) dX11_makeStart_32 (fun H locs hP hD hS => ?_)
    obtain ⟨S5, eS5⟩ : ∃ y, y = mq_push S q3.2 [] [31] [] := ⟨_, rfl⟩
    replace h := mq_nS_go eS5 h
    rw [← eS5] at hP hD
    refine lv_iconst (v := (2 : Int32)) hx hb dX11_makeStart_35 (by decide) ?_
    refine lv_topi (fun x6 ex6 => ?_)
    replace h := mq_nI_go ex6 h
    refine lv_istore_n (lv' := [(2, .int (x6)), (0, .ref (a 0)), (1, .int (v1))]) hx hb dX11_makeStart_36 rfl hl (by decide) rfl (fun ls hl => ?_)
    exact zw_X11_makeStart_37 C hret N (x6) S5 H locs ls h (lv_sub hl [1, 0] rfl) hP hD hS
  · replace h := mq_if c10 h
    refine lv_aload_n hx hb dX11_makeStart_8 rfl (lv_at hl 0 rfl) ?_
    refine va_get (D := D) (ci := 11) (v := .ref (a 32)) (C := RX11) (T := TX11) (N := 76) hx hb hts (zi_X11 _) hown hK hP 0 rfl rfl 60 (by decide) (hts _ (List.mem_cons_of_mem _ zt_f_X11_112)) (fun _ h9 => h9) rfl dX11_makeStart_9 ?_
    refine lv_iload_n hx hb dX11_makeStart_12 rfl (lv_at hl 2 rfl) ?_
    refine lv_iconst (v := (0 : Int32)) hx hb dX11_makeStart_13 (by decide) ?_
    have hi7 := mq_ck_in h
    replace h := mq_ck_go h
    refine mq_iast (w := wd_R a cI cL cB cZ z) (S := S) (f := S.2.1 31) hx hb hK hP hD hS 32 0 rfl rfl hi7 dX11_makeStart_14 31 (zs_wd_R_a_32_31 _ _ _ _ _ _ _ _) (fun S8 eS8 H locs hP hD hS => ?_)
    replace h := mq_nS_go eS8 h
    obtain ⟨x9, ex9⟩ : ∃ y : Int32, y = v2 + (1 : Int32) := ⟨_, rfl⟩
    replace h := mq_nI_go ex9 h
    refine lv_iinc (v := x9) (lv' := [(2, .int (x9)), (0, .ref (a 0)), (1, .int (v1))]) hx hb dX11_makeStart_15 hl (k := 2) rfl (by rw [ex9]; rfl) (by decide) rfl (fun ls hl => ?_)
    refine lv_goto (tgt := 2) hx hb dX11_makeStart_18 (by decide) ?_
    exact hk2 (v1) (x9) S8 H locs ls h (lv_sub hl [1, 2, 0] rfl) hP hD hS
set_option maxHeartbeats 4000000 in
set_option maxRecDepth 100000 in
theorem zw_X11_makeStart_2 {p : Program} {l : Launch} {e : Env} {s : State} {m : MethodId} {args : Array Value} {below : List Frame} {meth : Method} {c : Code} {A : Nat → Prop} {D : va_G} {a z : Nat → Nat} {cI cL cB cZ : ClassId} {Q : State → Prop} {N : Nat} {res : Unit × mq_St} (C : mq_C p s m args c A D cI cL cB cZ cX11_makeStart 3 RX11 zc_X11_makeStart) (hret : ∀ (H : Heap) (locs : List Loc) (ls : Array Slot) (pc : Nat), decode cX11_makeStart pc = .ok (.return_, 1) → va_P D vwCl (wd_R a cI cL cB cZ z res.2) H → va_D A (wd_R a cI cL cB cZ z res.2) → va_S A s.heap H locs → W p l e zr_X11_makeStart s m args below meth c H locs 0 0 Q (F0 m pc ls [])) : ∀ (n : Nat) (v1 : Int32) (v2 : Int32) (S : mq_St) (H : Heap) (locs : List Loc) (ls : Array Slot) (h : zf_X11_makeStart_2 N z n v1 v2 S = some res) (hl : lv_has ls 3 [(0, .ref (a 0)), (1, .int (v1)), (2, .int (v2))]) (hP : va_P D vwCl (wd_R a cI cL cB cZ z S) H) (hD : va_D A (wd_R a cI cL cB cZ z S)) (hS : va_S A s.heap H locs), W p l e zr_X11_makeStart s m args below meth c H locs 0 0 Q (F0 m 2 ls []) := by
  intro n
  induction n with
  | zero =>
    intro v1 v2 S H locs ls h hl hP hD hS
    exact nomatch (show (none : Option (Unit × mq_St)) = some res from h)
  | succ n ih =>
    intro v1 v2 S H locs ls h hl hP hD hS
    exact zw_X11_makeStart_2b C hret (fun v1 v2 S H locs ls h hl hP hD hS => ih v1 v2 S H locs ls h hl hP hD hS) v1 v2 S H locs ls h hl hP hD hS
set_option maxHeartbeats 4000000 in
set_option maxRecDepth 100000 in
theorem zw_X11_makeStart_0 {p : Program} {l : Launch} {e : Env} {s : State} {m : MethodId} {args : Array Value} {below : List Frame} {meth : Method} {c : Code} {A : Nat → Prop} {D : va_G} {a z : Nat → Nat} {cI cL cB cZ : ClassId} {Q : State → Prop} {N : Nat} {res : Unit × mq_St} (C : mq_C p s m args c A D cI cL cB cZ cX11_makeStart 3 RX11 zc_X11_makeStart) (hret : ∀ (H : Heap) (locs : List Loc) (ls : Array Slot) (pc : Nat), decode cX11_makeStart pc = .ok (.return_, 1) → va_P D vwCl (wd_R a cI cL cB cZ z res.2) H → va_D A (wd_R a cI cL cB cZ z res.2) → va_S A s.heap H locs → W p l e zr_X11_makeStart s m args below meth c H locs 0 0 Q (F0 m pc ls [])) (v1 : Int32) (S : mq_St) (H : Heap) (locs : List Loc) (ls : Array Slot) (h : zf_X11_makeStart N z v1 S = some res) (hl : lv_has ls 3 [(0, .ref (a 0)), (1, .int (v1))]) (hP : va_P D vwCl (wd_R a cI cL cB cZ z S) H) (hD : va_D A (wd_R a cI cL cB cZ z S)) (hS : va_S A s.heap H locs) : W p l e zr_X11_makeStart s m args below meth c H locs 0 0 Q (F0 m 0 ls []) := by
  obtain ⟨hx, hb, hml, hown, hts, hK, hA⟩ := id C
  unfold zf_X11_makeStart at h
  refine lv_iconst (v := (0 : Int32)) hx hb dX11_makeStart_0 (by decide) ?_
  refine lv_topi (fun x1 ex1 => ?_)
  replace h := mq_nI_go ex1 h
  refine lv_istore_n (lv' := [(2, .int (x1)), (0, .ref (a 0)), (1, .int (v1))]) hx hb dX11_makeStart_1 rfl hl (by decide) rfl (fun ls hl => ?_)
  exact zw_X11_makeStart_2 C hret N (v1) (x1) S H locs ls h (lv_sub hl [1, 2, 0] rfl) hP hD hS
set_option maxHeartbeats 4000000 in
set_option maxRecDepth 100000 in
theorem zm_X11_makeStart (l : Launch) (D : va_G) (a z : Nat → Nat) (cI cL cB cZ : ClassId) (sz N : Nat) (v1 : Int32) (S : mq_St) (res : Unit × mq_St) (h : zf_X11_makeStart N z v1 S = some res) : Met l yX11_makeStart (zc_X11_makeStart :: mq_T) zr_X11_makeStart (va_Pc [.ref (a 0), .int (v1)] (fun U => U.heap.size = sz ∧ va_P D vwCl (wd_R a cI cL cB cZ z S) U.heap ∧ va_K D vwCl (mq_tys cI cL cB cZ) U ∧ va_D (fun _ => True) (wd_R a cI cL cB cZ z S))) (va_Qv (fun u : mq_St => u = res.2) (fun u t => va_P D vwCl (wd_R a cI cL cB cZ z u) t.heap ∧ va_K D vwCl (mq_tys cI cL cB cZ) t ∧ va_D (va_A (wd_R a cI cL cB cZ z S) sz) (wd_R a cI cL cB cZ z u)) (va_A (wd_R a cI cL cB cZ z S) sz)) 0 0 (va_A (wd_R a cI cL cB cZ z S) sz) := by
  refine Met.ofW (cc := cX11_makeStart) (maxL := 3) (ret := none) (by decide) rfl ?_
  intro p e s m args below meth c s₁ B hml hv
  obtain ⟨rfl, hsz, hP, hK, hD0⟩ := hv
  have hr := B.returns
  have hlocks := B.notSynchronized
  have hts := atoms_spec (ws := zc_X11_makeStart :: mq_T) B.pre
  have hown : s.vm.findClass RX11 = some m.cls := findClass_of_methodNamed B.named
  subst hsz
  have hD := hD0.self (sz := s.heap.size)
  generalize hAe : va_A (wd_R a cI cL cB cZ z S) s.heap.size = A at hD ⊢
  have hA : ∀ q : Nat, s.heap.size ≤ q → A q := fun q h => by rw [← hAe]; exact Or.inr h
  have hl := lv_entry ([.ref (a 0), .int (v1)]) (n := 3) (Nat.le_of_ble_eq_true rfl)
  rw [lg_entry_eq]
  generalize (lg_sl ([.ref (a 0), .int (v1)]) ++ List.replicate (3 - (lg_sl ([.ref (a 0), .int (v1)])).length) Slot.unset).toArray = ls at hl ⊢
  have hl : lv_has ls 3 [(0, .ref (a 0)), (1, .int (v1))] := hl
  refine zw_X11_makeStart_0 (A := A) ⟨B.exec, B.bytes, hml, hown, hts, hK, hA⟩ (fun H locs ls pc dg hP hD hS => ?_) v1 S s.heap [] ls h hl hP hD va_S.rf
  exact W.vret B.exec B.bytes hr (fun t ht hW => ⟨⟨_, rfl, rfl, by rw [ht]; exact hP, va_K.moved hW.alike hK, hD⟩, hS.F ht⟩) hS.2.2 dg
theorem zt_X11_makeStart_c : zc_X11_makeStart ∈ mq_T := mq_T_mem (mq_t7 (List.mem_of_getElem? (i := 119) rfl)) rfl
theorem zt_X11_makeStart_i : Cond.instanceMethod yX11_makeStart ∈ mq_T := mq_T_mem (mq_t7 (List.mem_of_getElem? (i := 118) rfl)) rfl
theorem zt_X11_makeStart_s : Cond.selects RX11 yX11_makeStart yX11_makeStart ∈ mq_T := mq_T_at 99 (by decide +kernel)
set_option maxHeartbeats 4000000 in
theorem zk_X11_makeStart {p : Program} {l : Launch} {e : Env} {R : Room} {s : State} {m : MethodId} {args : Array Value} {below : List Frame} {meth : Method} {c : Code} {A : Nat → Prop} {D : va_G} {a z : Nat → Nat} {cI cL cB cZ : ClassId} {Q : State → Prop} {cc : ByteArray} {nL idx pc N : Nat} {own : String} {c1 : Cond} {H : Heap} {locs : List Loc} {ls : Array Slot} {rest : List Value} {S : mq_St} {res : Unit × mq_St} {v1 : Int32} (C : mq_C p s m args c A D cI cL cB cZ cc nL own c1) (hlk : Cond.methodLink own idx yX11_makeStart ∈ mq_T) (hR : zr_X11_makeStart.frames + 1 ≤ R.frames ∧ 8 + (3 + 11) + zr_X11_makeStart.locals ≤ R.locals) (h : zf_X11_makeStart N z v1 S = some res) (hP : va_P D vwCl (wd_R a cI cL cB cZ z S) H) (hD : va_D A (wd_R a cI cL cB cZ z S)) (hS : va_S A s.heap H locs) (hls : ls.size = nL) (hrest : (rest.map fun v => v.category).sum ≤ 8) (hdg : decode cc pc = .ok (.invokevirtual idx, 3)) (kk : ∀ (H1 : Heap) (locs1 : List Loc), va_P D vwCl (wd_R a cI cL cB cZ z res.2) H1 → va_D A (wd_R a cI cL cB cZ z res.2) → va_S A s.heap H1 locs1 → W p l e R s m args below meth c H1 locs1 0 0 Q (F0 m (pc + 3) ls rest)) : W p l e R s m args below meth c H locs 0 0 Q (F0 m pc ls (.int (v1) :: .ref (a 0) :: rest)) := by
  obtain ⟨hx, hb, hml, hown, hts, hK, hA⟩ := C
  have hFc := mq_freeI hD hS hA
  refine va_callv (va_runV (As := [.int (v1)]) (rest := rest) ⟨hx, hb, hml, hown, hts⟩ (zm_X11_makeStart l D a z cI cL cB cZ H.size N v1 S res h) (cwV 1 hts (mq_goodL (mq_wsV hlk zt_X11_makeStart_i zt_X11_makeStart_s zt_ini_X11 zt_X11_makeStart_c)) rfl rfl rfl (by decide +kernel) hR) ⟨fun a U g mk q => ⟨q.1, q.2.1, q.2.2.1, va_K.moved (u := U) (U := U.calling g mk a) (Vm.Alike.refl U.vm) q.2.2.2.1, q.2.2.2.2⟩, zy_R_0 hK hP, fun U hU hW => ⟨rfl, by rw [hU], by rw [hU]; exact hP, va_K.moved hW.alike hK, hD.weaken (fun _ _ _ _ => trivial)⟩⟩ rfl rfl hls rfl (lv_room hrest) hdg ⟨Nat.zero_le _, Nat.zero_le _⟩) hS (fun q _ h => hFc q h) hFc (fun u t H1 locs ht hvm hw hB hz1 hk1 hS => ?_)
  subst hw
  obtain ⟨hP1, hK1, hD1⟩ := hB
  rw [ht] at hP1
  exact kk H1 locs hP1 (hD1.weaken (fun _ _ _ h => hFc _ h)) hS
theorem zx_wd_R_wd_A2_31_18 (a z : Nat → Nat) (cI cL cB cZ : ClassId) (S X : mq_St) : mq_setM (wd_R a cI cL cB cZ z S) [31, 18] (wd_A2 (mq_ad a [31, 18]) cI cL cB cZ (fun k => [4700, 10].getD k 0) X) = (wd_R a cI cL cB cZ z (mq_push S X [] [30, 17] [])) := rfl
theorem zt_m_X11_341 : Cond.methodLink RX11 341 yX11_nextMay ∈ mq_T := mq_T_mem (mq_t7 (List.mem_of_getElem? (i := 112) rfl)) rfl
theorem zt_m_X11_344 : Cond.methodLink RX11 344 yX11_makeStart ∈ mq_T := mq_T_mem (mq_t7 (List.mem_of_getElem? (i := 116) rfl)) rfl
theorem zt_m_X11_347 : Cond.methodLink RX11 347 yX11_samePlace ∈ mq_T := mq_T_mem (mq_t7 (List.mem_of_getElem? (i := 120) rfl)) rfl
theorem zt_f_X11_353 : Cond.fieldLink RX11 353 "ModalDeskModel" "backs" "I" ∈ mq_T := mq_T_mem (mq_t5 (List.mem_of_getElem? (i := 204) rfl)) rfl
theorem zs_wd_R_i_0_21 (a z : Nat → Nat) (cI cL cB cZ : ClassId) (S : mq_St) (v : Int32) : (wd_R a cI cL cB cZ z S).set 0 (a 0, .inr (11, ([.int (S.1 0), .ref (a 1), .int (S.1 1), .ref (a 2), .int (S.1 2), .ref (a 3), .ref (a 4), .ref (a 5), .int (S.1 3), .ref (a 6), .ref (a 7), .int (S.1 4), .int (S.1 5), .int (S.1 6), .ref (a 8), .ref (a 9), .ref (a 10), .ref (a 11), .ref (a 12), .int (S.1 7), .int (S.1 8), .int (S.1 9), .int (S.1 10), .int (S.1 11), .int (S.1 12), .int (S.1 13), .ref (a 13), .ref (a 14), .int (S.1 14), .int (S.1 15), .int (S.1 16), .ref (a 15), .int (S.1 17), .ref (a 16), .ref (a 17), .ref (a 18), .int (S.1 18), .int (S.1 19), .int (S.1 20), .int (S.1 21), .int (S.1 22), .int (S.1 23), .int (S.1 24), .int (S.1 25), .ref (a 19), .ref (a 20), .ref (a 21), .ref (a 22), .ref (a 23), .int (S.1 26), .ref (a 24), .ref (a 25), .int (S.1 27), .int (S.1 28), .ref (a 26), .ref (a 27), .ref (a 28), .ref (a 29), .ref (a 30), .ref (a 31), .ref (a 32), .int (S.1 29), .int (S.1 30), .ref (a 33), .ref (a 34), .int (S.1 31), .ref (a 35), .ref (a 36), .ref (a 37), .ref (a 38), .ref (a 39), .ref (a 40), .ref (a 41), .ref (a 42), .ref (a 43), .ref (a 44)] : List Value).set 39 (.int v))) = (wd_R a cI cL cB cZ z (mq_si S 21 v)) := rfl
theorem zx_wd_R_wd_A2_32_18 (a z : Nat → Nat) (cI cL cB cZ : ClassId) (S X : mq_St) : mq_setM (wd_R a cI cL cB cZ z S) [32, 18] (wd_A2 (mq_ad a [32, 18]) cI cL cB cZ (fun k => [10, 10].getD k 0) X) = (wd_R a cI cL cB cZ z (mq_push S X [] [31, 17] [])) := rfl
theorem zt_m_X11_350 : Cond.methodLink RX11 350 yX11_begins ∈ mq_T := mq_T_mem (mq_t7 (List.mem_of_getElem? (i := 58) rfl)) rfl
/-! ModalDeskModel.mays()Z -/
def zr_X11_mays : Room := { frames := 2, cells := 0, slots := 0, locals := 46 }
def zc_X11_mays : Cond := .code yX11_mays cX11_mays 4 (some .boolean)
def zf_X11_mays_54b (N : Nat) (z : Nat → Nat) (k54 : Int32 → Int32 → mq_St → Option (Int32 × mq_St)) (v1 : Int32) (v2 : Int32) (S : mq_St) : Option (Int32 × mq_St) := (if v2 = (-1 : Int32) then (mq_cz ((0 : Int32)) (some ((0 : Int32), S))) else (mq_ck (v1) 470 (mq_nS (mq_sa S 26 (upd (S.2.1 26) (v1).toNatClampNeg (v2))) (fun S15 => (mq_cl (zf_X11_step N z S15) (fun q16v S18 => (if q16v = (0 : Int32) then (mq_cz ((0 : Int32)) (some ((0 : Int32), S18))) else (mq_cl (zf_X11_makeStart N z (v2) S18) (fun q19v S21 => (mq_cp (zf_X11_samePlace N z S21) (fun q22 => (mq_nI (q22) (fun x24 => (if x24 = (-1 : Int32) then (mq_cl (zf_X11_line N z ((4 : Int32)) (v2) S21) (fun q31v S33 => (if q31v = (0 : Int32) then (mq_cz ((0 : Int32)) (some ((0 : Int32), S33))) else (if (S33.1 24) = (60 : Int32) then (mq_nS (mq_si S33 23 ((-4 : Int32))) (fun S41 => (mq_cz ((0 : Int32)) (some ((0 : Int32), S41))))) else (mq_cl (zf_X11_copy N (fun k => [10, 10].getD k 0) ((0 : Int32)) ((0 : Int32)) (mq_pull S33 [] [31, 17] [])) (fun q34v q34s => mq_nS (mq_push S33 q34s [] [31, 17] []) (fun S36 => (mq_cl (zf_X11_begins N z ((S36.1 25)) S36) (fun q37v S39 => (mq_cz ((1 : Int32)) (some ((1 : Int32), S39)))))))))))) else (mq_nS (mq_si S21 21 (((S21.1 21) + (1 : Int32)))) (fun S25 => (mq_ck ((((60 : Int32) * (S25.1 25)) + x24)) 3600 (mq_nS (mq_sa S25 22 (upd (S25.2.1 22) ((((60 : Int32) * (S25.1 25)) + x24)).toNatClampNeg (vp_nar .boolean ((1 : Int32))))) (fun S27 => (mq_cp (zf_X11_nextMay N z (v2) S27) (fun q28 => (mq_nI (q28) (fun x30 => (k54 (v1) (x30) S27))))))))))))))))))))))))
def zf_X11_mays_54 (N : Nat) (z : Nat → Nat) : Nat → Int32 → Int32 → mq_St → Option (Int32 × mq_St)
  | 0, _, _, _ => none
  | n + 1, v1, v2, S => zf_X11_mays_54b N z (fun v1 v2 S => zf_X11_mays_54 N z n v1 v2 S) v1 v2 S
def zf_X11_mays (N : Nat) (z : Nat → Nat) (S : mq_St) : Option (Int32 × mq_St) := (mq_nI (((S.1 27) - (1 : Int32))) (fun x1 => (mq_ck (x1) 470 (mq_nS (mq_si S 25 ((S.2.1 27 (x1).toNatClampNeg))) (fun S3 => (mq_cl (zf_X11_copy N (fun k => [4700, 10].getD k 0) (((10 : Int32) * x1)) ((0 : Int32)) (mq_pull S3 [] [30, 17] [])) (fun q4v q4s => mq_nS (mq_push S3 q4s [] [30, 17] []) (fun S6 => (mq_ck (x1) 470 (mq_nS (mq_si S6 26 ((S6.2.1 29 (x1).toNatClampNeg))) (fun S8 => (mq_ck (x1) 470 (mq_cp (zf_X11_nextMay N z ((S8.2.1 26 (x1).toNatClampNeg)) S8) (fun q10 => (mq_nI (q10) (fun x12 => (zf_X11_mays_54 N z N (x1) (x12) S8)))))))))))))))))
set_option maxHeartbeats 4000000 in
set_option maxRecDepth 100000 in
theorem zw_X11_mays_54b {p : Program} {l : Launch} {e : Env} {s : State} {m : MethodId} {args : Array Value} {below : List Frame} {meth : Method} {c : Code} {A : Nat → Prop} {D : va_G} {a z : Nat → Nat} {cI cL cB cZ : ClassId} {Q : State → Prop} {N : Nat} {res : Int32 × mq_St} {k54 : Int32 → Int32 → mq_St → Option (Int32 × mq_St)} (C : mq_C p s m args c A D cI cL cB cZ cX11_mays 4 RX11 zc_X11_mays) (hret : ∀ (H : Heap) (locs : List Loc) (ls : Array Slot) (pc : Nat), decode cX11_mays pc = .ok (.ireturn, 1) → narrow .boolean (.int res.1) = .int res.1 → va_P D vwCl (wd_R a cI cL cB cZ z res.2) H → va_D A (wd_R a cI cL cB cZ z res.2) → va_S A s.heap H locs → W p l e zr_X11_mays s m args below meth c H locs 0 0 Q (F0 m pc ls [.int res.1])) (hk54 : ∀ (v1 : Int32) (v2 : Int32) (S : mq_St) (H : Heap) (locs : List Loc) (ls : Array Slot), k54 v1 v2 S = some res → lv_has ls 4 [(0, .ref (a 0)), (1, .int (v1)), (2, .int (v2))] → va_P D vwCl (wd_R a cI cL cB cZ z S) H → va_D A (wd_R a cI cL cB cZ z S) → va_S A s.heap H locs → W p l e zr_X11_mays s m args below meth c H locs 0 0 Q (F0 m 54 ls [])) (v1 : Int32) (v2 : Int32) (S : mq_St) (H : Heap) (locs : List Loc) (ls : Array Slot) (h : zf_X11_mays_54b N z k54 v1 v2 S = some res) (hl : lv_has ls 4 [(0, .ref (a 0)), (1, .int (v1)), (2, .int (v2))]) (hP : va_P D vwCl (wd_R a cI cL cB cZ z S) H) (hD : va_D A (wd_R a cI cL cB cZ z S)) (hS : va_S A s.heap H locs) : W p l e zr_X11_mays s m args below meth c H locs 0 0 Q (F0 m 54 ls []) := by
  obtain ⟨hx, hb, hml, hown, hts, hK, hA⟩ := id C
  unfold zf_X11_mays_54b at h
  refine lv_iload_n hx hb dX11_mays_54 rfl (lv_at hl 2 rfl) ?_
  refine lv_iconst (v := (-1 : Int32)) hx hb dX11_mays_55 (by decide) ?_
  refine lv_icmp_eq (tgt := 175) hx hb dX11_mays_56 (by decide) (fun c49 => ?_) (fun c49 => ?_)
  · replace h := mq_it c49 h
    refine lv_iconst (v := (0 : Int32)) hx hb dX11_mays_175 (by decide) ?_
    have hz13 := mq_cz_in h
    replace h := mq_cz_go h
    cases h
    exact hret H locs ls 176 dX11_mays_176 hz13.1 hP hD hS
  · replace h := mq_if c49 h
    refine lv_aload_n hx hb dX11_mays_59 rfl (lv_at hl 0 rfl) ?_
    refine va_get (D := D) (ci := 11) (v := .ref (a 27)) (C := RX11) (T := TX11) (N := 76) hx hb hts (zi_X11 _) hown hK hP 0 rfl rfl 55 (by decide) (hts _ (List.mem_cons_of_mem _ zt_f_X11_97)) (fun _ h9 => h9) rfl dX11_mays_60 ?_
    refine lv_iload_n hx hb dX11_mays_63 rfl (lv_at hl 1 rfl) ?_
    refine lv_iload_n hx hb dX11_mays_64 rfl (lv_at hl 2 rfl) ?_
    have hi14 := mq_ck_in h
    replace h := mq_ck_go h
    refine mq_iast (w := wd_R a cI cL cB cZ z) (S := S) (f := S.2.1 26) hx hb hK hP hD hS 27 0 rfl rfl hi14 dX11_mays_65 26 (zs_wd_R_a_27_26 _ _ _ _ _ _ _ _) (fun S15 eS15 H locs hP hD hS => ?_)
    replace h := mq_nS_go eS15 h
    refine lv_aload_n hx hb dX11_mays_66 rfl (lv_at hl 0 rfl) ?_
    obtain ⟨q16, hc17, h⟩ := mq_cl_go h
    refine zk_X11_step C zt_m_X11_321 ⟨by decide, by decide⟩ hc17 hP hD hS hl.1 (Nat.le_of_ble_eq_true rfl) dX11_mays_67 (fun H locs hP hD hS => ?_)
    obtain ⟨S18, eS18⟩ : ∃ y, y = q16.2 := ⟨_, rfl⟩
    rw [← eS18] at hP hD h
    refine lv_if_ne (tgt := 75) hx hb dX11_mays_70 (by decide) (fun c48 => ?_) (fun c48 => ?_)
    · replace h := mq_if c48 h
      refine lv_aload_n hx hb dX11_mays_75 rfl (lv_at hl 0 rfl) ?_
      refine lv_iload_n hx hb dX11_mays_76 rfl (lv_at hl 2 rfl) ?_
      obtain ⟨q19, hc20, h⟩ := mq_cl_go h
      refine zk_X11_makeStart C zt_m_X11_344 ⟨by decide, by decide⟩ hc20 hP hD hS hl.1 (Nat.le_of_ble_eq_true rfl) dX11_mays_77 (fun H locs hP hD hS => ?_)
      obtain ⟨S21, eS21⟩ : ∃ y, y = q19.2 := ⟨_, rfl⟩
      rw [← eS21] at hP hD h
      refine lv_aload_n hx hb dX11_mays_80 rfl (lv_at hl 0 rfl) ?_
      obtain ⟨q22, hc23, h⟩ := mq_cp_go h
      refine zk_X11_samePlace C zt_m_X11_347 ⟨by decide, by decide⟩ hc23 hP hD hS hl.1 (Nat.le_of_ble_eq_true rfl) dX11_mays_81 (fun H locs hP hD hS => ?_)
      refine lv_topi (fun x24 ex24 => ?_)
      replace h := mq_nI_go ex24 h
      refine lv_istore_n (lv' := [(3, .int (x24)), (0, .ref (a 0)), (1, .int (v1)), (2, .int (v2))]) hx hb dX11_mays_84 rfl hl (by decide) rfl (fun ls hl => ?_)
      refine lv_iload_n hx hb dX11_mays_85 rfl (lv_at hl 0 rfl) ?_
      refine lv_iconst (v := (-1 : Int32)) hx hb dX11_mays_86 (by decide) ?_
      refine lv_icmp_ne (tgt := 141) hx hb dX11_mays_87 (by decide) (fun c46 => ?_) (fun c46 => ?_)
      · replace h := mq_if c46 h
        refine lv_aload_n hx hb dX11_mays_141 rfl (lv_at hl 1 rfl) ?_
        refine lv_dup hx hb dX11_mays_142 rfl ?_
        refine va_get (D := D) (ci := 11) (v := .int ((S21.1 21))) (C := RX11) (T := TX11) (N := 76) hx hb hts (zi_X11 _) hown hK hP 0 rfl rfl 39 (by decide) (hts _ (List.mem_cons_of_mem _ zt_f_X11_353)) (fun _ h9 => h9) rfl dX11_mays_143 ?_
        refine lv_iconst (v := (1 : Int32)) hx hb dX11_mays_146 (by decide) ?_
        refine lv_iadd hx hb dX11_mays_147 ?_
        refine mq_put (w := wd_R a cI cL cB cZ z) (S := S21) (D := D) (ci := 11) (v := ((S21.1 21) + (1 : Int32))) (ty := .int) (C := RX11) (T := TX11) (N := 76) hx hb hts (zi_X11 _) tyX11 tyX11_ok nmX11 hown hK hP hD hS 0 rfl rfl 39 (by decide) (hts _ (List.mem_cons_of_mem _ zt_f_X11_353)) (fun _ h9 => h9) rfl (by decide +kernel) rfl rfl (Nat.le_of_ble_eq_true rfl) dX11_mays_148 21 (zs_wd_R_i_0_21 _ _ _ _ _ _ _ _) (fun S25 eS25 H locs hP hD hS => ?_)
        replace h := mq_nS_go eS25 h
        refine lv_aload_n hx hb dX11_mays_151 rfl (lv_at hl 1 rfl) ?_
        refine va_get (D := D) (ci := 11) (v := .ref (a 23)) (C := RX11) (T := TX11) (N := 76) hx hb hts (zi_X11 _) hown hK hP 0 rfl rfl 48 (by decide) (hts _ (List.mem_cons_of_mem _ zt_f_X11_84)) (fun _ h9 => h9) rfl dX11_mays_152 ?_
        refine lv_bipush (v := (60 : Int32)) hx hb dX11_mays_155 (by decide) ?_
        refine lv_aload_n hx hb dX11_mays_157 rfl (lv_at hl 1 rfl) ?_
        refine va_get (D := D) (ci := 11) (v := .int ((S25.1 25))) (C := RX11) (T := TX11) (N := 76) hx hb hts (zi_X11 _) hown hK hP 0 rfl rfl 43 (by decide) (hts _ (List.mem_cons_of_mem _ zt_f_X11_295)) (fun _ h9 => h9) rfl dX11_mays_158 ?_
        refine lv_imul hx hb dX11_mays_161 ?_
        refine lv_iload_n hx hb dX11_mays_162 rfl (lv_at hl 0 rfl) ?_
        refine lv_iadd hx hb dX11_mays_163 ?_
        refine lv_iconst (v := (1 : Int32)) hx hb dX11_mays_164 (by decide) ?_
        have hi26 := mq_ck_in h
        replace h := mq_ck_go h
        refine mq_zast (w := wd_R a cI cL cB cZ z) (S := S25) (f := S25.2.1 22) hx hb hK hP hD hS 23 3 rfl rfl hi26 dX11_mays_165 22 (zs_wd_R_a_23_22 _ _ _ _ _ _ _ _) (fun S27 eS27 H locs hP hD hS => ?_)
        replace h := mq_nS_go eS27 h
        refine lv_aload_n hx hb dX11_mays_166 rfl (lv_at hl 1 rfl) ?_
        refine lv_iload_n hx hb dX11_mays_167 rfl (lv_at hl 3 rfl) ?_
        obtain ⟨q28, hc29, h⟩ := mq_cp_go h
        refine zk_X11_nextMay C zt_m_X11_341 ⟨by decide, by decide⟩ hc29 hP hD hS hl.1 (Nat.le_of_ble_eq_true rfl) dX11_mays_168 (fun H locs hP hD hS => ?_)
        refine lv_topi (fun x30 ex30 => ?_)
        replace h := mq_nI_go ex30 h
        refine lv_istore_n (lv' := [(2, .int (x30)), (3, .int (x24)), (0, .ref (a 0)), (1, .int (v1))]) hx hb dX11_mays_171 rfl hl (by decide) rfl (fun ls hl => ?_)
        refine lv_goto (tgt := 54) hx hb dX11_mays_172 (by decide) ?_
        exact hk54 (v1) (x30) S27 H locs ls h (lv_sub hl [2, 3, 0] rfl) hP hD hS
      · replace h := mq_it (by simpa using c46) h
        refine lv_aload_n hx hb dX11_mays_90 rfl (lv_at hl 1 rfl) ?_
        refine lv_iconst (v := (4 : Int32)) hx hb dX11_mays_91 (by decide) ?_
        refine lv_iload_n hx hb dX11_mays_92 rfl (lv_at hl 3 rfl) ?_
        obtain ⟨q31, hc32, h⟩ := mq_cl_go h
        refine zk_X11_line C zt_m_X11_314 ⟨by decide, by decide⟩ hc32 hP hD hS hl.1 (Nat.le_of_ble_eq_true rfl) dX11_mays_93 (fun H locs hP hD hS => ?_)
        obtain ⟨S33, eS33⟩ : ∃ y, y = q31.2 := ⟨_, rfl⟩
        rw [← eS33] at hP hD h
        refine lv_if_ne (tgt := 101) hx hb dX11_mays_96 (by decide) (fun c45 => ?_) (fun c45 => ?_)
        · replace h := mq_if c45 h
          refine lv_aload_n hx hb dX11_mays_101 rfl (lv_at hl 1 rfl) ?_
          refine va_get (D := D) (ci := 11) (v := .int ((S33.1 24))) (C := RX11) (T := TX11) (N := 76) hx hb hts (zi_X11 _) hown hK hP 0 rfl rfl 42 (by decide) (hts _ (List.mem_cons_of_mem _ zt_f_X11_298)) (fun _ h9 => h9) rfl dX11_mays_102 ?_
          refine lv_bipush (v := (60 : Int32)) hx hb dX11_mays_105 (by decide) ?_
          refine lv_icmp_ne (tgt := 118) hx hb dX11_mays_107 (by decide) (fun c43 => ?_) (fun c43 => ?_)
          · replace h := mq_if c43 h
            refine lv_aload_n hx hb dX11_mays_118 rfl (lv_at hl 1 rfl) ?_
            refine va_get (D := D) (ci := 11) (v := .ref (a 32)) (C := RX11) (T := TX11) (N := 76) hx hb hts (zi_X11 _) hown hK hP 0 rfl rfl 60 (by decide) (hts _ (List.mem_cons_of_mem _ zt_f_X11_112)) (fun _ h9 => h9) rfl dX11_mays_119 ?_
            refine lv_iconst (v := (0 : Int32)) hx hb dX11_mays_122 (by decide) ?_
            refine lv_aload_n hx hb dX11_mays_123 rfl (lv_at hl 1 rfl) ?_
            refine va_get (D := D) (ci := 11) (v := .ref (a 18)) (C := RX11) (T := TX11) (N := 76) hx hb hts (zi_X11 _) hown hK hP 0 rfl rfl 35 (by decide) (hts _ (List.mem_cons_of_mem _ zt_f_X11_69)) (fun _ h9 => h9) rfl dX11_mays_124 ?_
            refine lv_iconst (v := (0 : Int32)) hx hb dX11_mays_127 (by decide) ?_
            obtain ⟨q34, hc35, h⟩ := mq_cl_go h
            refine zv_X11_copy (a := mq_ad a [32, 18]) (z := (fun k => [10, 10].getD k 0)) [32, 18] C zt_m_X11_301 ⟨by decide, by decide⟩ hc35 rfl (by decide) (ws' := (wd_R a cI cL cB cZ z (mq_push S33 q34.2 [] [31, 17] []))) (zx_wd_R_wd_A2_32_18 _ _ _ _ _ _ _ _) hP hD hS hl.1 (Nat.le_of_ble_eq_true rfl) dX11_mays_128 (fun H locs hP hD hS => ?_)
            obtain ⟨S36, eS36⟩ : ∃ y, y = mq_push S33 q34.2 [] [31, 17] [] := ⟨_, rfl⟩
            replace h := mq_nS_go eS36 h
            rw [← eS36] at hP hD
            refine lv_aload_n hx hb dX11_mays_131 rfl (lv_at hl 1 rfl) ?_
            refine lv_aload_n hx hb dX11_mays_132 rfl (lv_at hl 1 rfl) ?_
            refine va_get (D := D) (ci := 11) (v := .int ((S36.1 25))) (C := RX11) (T := TX11) (N := 76) hx hb hts (zi_X11 _) hown hK hP 0 rfl rfl 43 (by decide) (hts _ (List.mem_cons_of_mem _ zt_f_X11_295)) (fun _ h9 => h9) rfl dX11_mays_133 ?_
            obtain ⟨q37, hc38, h⟩ := mq_cl_go h
            refine zk_X11_begins C zt_m_X11_350 ⟨by decide, by decide⟩ hc38 hP hD hS hl.1 (Nat.le_of_ble_eq_true rfl) dX11_mays_136 (fun H locs hP hD hS => ?_)
            obtain ⟨S39, eS39⟩ : ∃ y, y = q37.2 := ⟨_, rfl⟩
            rw [← eS39] at hP hD h
            refine lv_iconst (v := (1 : Int32)) hx hb dX11_mays_139 (by decide) ?_
            have hz40 := mq_cz_in h
            replace h := mq_cz_go h
            cases h
            exact hret H locs ls 140 dX11_mays_140 hz40.1 hP hD hS
          · replace h := mq_it (by simpa using c43) h
            refine lv_aload_n hx hb dX11_mays_110 rfl (lv_at hl 1 rfl) ?_
            refine lv_bipush (v := (-4 : Int32)) hx hb dX11_mays_111 (by decide) ?_
            refine mq_put (w := wd_R a cI cL cB cZ z) (S := S33) (D := D) (ci := 11) (v := (-4 : Int32)) (ty := .int) (C := RX11) (T := TX11) (N := 76) hx hb hts (zi_X11 _) tyX11 tyX11_ok nmX11 hown hK hP hD hS 0 rfl rfl 41 (by decide) (hts _ (List.mem_cons_of_mem _ zt_f_X11_286)) (fun _ h9 => h9) rfl (by decide +kernel) rfl rfl (Nat.le_of_ble_eq_true rfl) dX11_mays_113 23 (zs_wd_R_i_0_23 _ _ _ _ _ _ _ _) (fun S41 eS41 H locs hP hD hS => ?_)
            replace h := mq_nS_go eS41 h
            refine lv_iconst (v := (0 : Int32)) hx hb dX11_mays_116 (by decide) ?_
            have hz42 := mq_cz_in h
            replace h := mq_cz_go h
            cases h
            exact hret H locs ls 117 dX11_mays_117 hz42.1 hP hD hS
        · replace h := mq_it (by simpa using c45) h
          refine lv_iconst (v := (0 : Int32)) hx hb dX11_mays_99 (by decide) ?_
          have hz44 := mq_cz_in h
          replace h := mq_cz_go h
          cases h
          exact hret H locs ls 100 dX11_mays_100 hz44.1 hP hD hS
    · replace h := mq_it (by simpa using c48) h
      refine lv_iconst (v := (0 : Int32)) hx hb dX11_mays_73 (by decide) ?_
      have hz47 := mq_cz_in h
      replace h := mq_cz_go h
      cases h
      exact hret H locs ls 74 dX11_mays_74 hz47.1 hP hD hS
set_option maxHeartbeats 4000000 in
set_option maxRecDepth 100000 in
theorem zw_X11_mays_54 {p : Program} {l : Launch} {e : Env} {s : State} {m : MethodId} {args : Array Value} {below : List Frame} {meth : Method} {c : Code} {A : Nat → Prop} {D : va_G} {a z : Nat → Nat} {cI cL cB cZ : ClassId} {Q : State → Prop} {N : Nat} {res : Int32 × mq_St} (C : mq_C p s m args c A D cI cL cB cZ cX11_mays 4 RX11 zc_X11_mays) (hret : ∀ (H : Heap) (locs : List Loc) (ls : Array Slot) (pc : Nat), decode cX11_mays pc = .ok (.ireturn, 1) → narrow .boolean (.int res.1) = .int res.1 → va_P D vwCl (wd_R a cI cL cB cZ z res.2) H → va_D A (wd_R a cI cL cB cZ z res.2) → va_S A s.heap H locs → W p l e zr_X11_mays s m args below meth c H locs 0 0 Q (F0 m pc ls [.int res.1])) : ∀ (n : Nat) (v1 : Int32) (v2 : Int32) (S : mq_St) (H : Heap) (locs : List Loc) (ls : Array Slot) (h : zf_X11_mays_54 N z n v1 v2 S = some res) (hl : lv_has ls 4 [(0, .ref (a 0)), (1, .int (v1)), (2, .int (v2))]) (hP : va_P D vwCl (wd_R a cI cL cB cZ z S) H) (hD : va_D A (wd_R a cI cL cB cZ z S)) (hS : va_S A s.heap H locs), W p l e zr_X11_mays s m args below meth c H locs 0 0 Q (F0 m 54 ls []) := by
  intro n
  induction n with
  | zero =>
    intro v1 v2 S H locs ls h hl hP hD hS
    exact nomatch (show (none : Option (Int32 × mq_St)) = some res from h)
  | succ n ih =>
    intro v1 v2 S H locs ls h hl hP hD hS
    exact zw_X11_mays_54b C hret (fun v1 v2 S H locs ls h hl hP hD hS => ih v1 v2 S H locs ls h hl hP hD hS) v1 v2 S H locs ls h hl hP hD hS
set_option maxHeartbeats 4000000 in
set_option maxRecDepth 100000 in
theorem zw_X11_mays_0 {p : Program} {l : Launch} {e : Env} {s : State} {m : MethodId} {args : Array Value} {below : List Frame} {meth : Method} {c : Code} {A : Nat → Prop} {D : va_G} {a z : Nat → Nat} {cI cL cB cZ : ClassId} {Q : State → Prop} {N : Nat} {res : Int32 × mq_St} (C : mq_C p s m args c A D cI cL cB cZ cX11_mays 4 RX11 zc_X11_mays) (hret : ∀ (H : Heap) (locs : List Loc) (ls : Array Slot) (pc : Nat), decode cX11_mays pc = .ok (.ireturn, 1) → narrow .boolean (.int res.1) = .int res.1 → va_P D vwCl (wd_R a cI cL cB cZ z res.2) H → va_D A (wd_R a cI cL cB cZ z res.2) → va_S A s.heap H locs → W p l e zr_X11_mays s m args below meth c H locs 0 0 Q (F0 m pc ls [.int res.1])) (S : mq_St) (H : Heap) (locs : List Loc) (ls : Array Slot) (h : zf_X11_mays N z S = some res) (hl : lv_has ls 4 [(0, .ref (a 0))]) (hP : va_P D vwCl (wd_R a cI cL cB cZ z S) H) (hD : va_D A (wd_R a cI cL cB cZ z S)) (hS : va_S A s.heap H locs) : W p l e zr_X11_mays s m args below meth c H locs 0 0 Q (F0 m 0 ls []) := by
  obtain ⟨hx, hb, hml, hown, hts, hK, hA⟩ := id C
  unfold zf_X11_mays at h
  refine lv_aload_n hx hb dX11_mays_0 rfl (lv_at hl 0 rfl) ?_
  refine va_get (D := D) (ci := 11) (v := .int ((S.1 27))) (C := RX11) (T := TX11) (N := 76) hx hb hts (zi_X11 _) hown hK hP 0 rfl rfl 52 (by decide) (hts _ (List.mem_cons_of_mem _ zt_f_X11_292)) (fun _ h9 => h9) rfl dX11_mays_1 ?_
  refine lv_iconst (v := (1 : Int32)) hx hb dX11_mays_4 (by decide) ?_
  refine lv_isub hx hb dX11_mays_5 ?_
  refine lv_topi (fun x1 ex1 => ?_)
  replace h := mq_nI_go ex1 h
  refine lv_istore_n (lv' := [(1, .int (x1)), (0, .ref (a 0))]) hx hb dX11_mays_6 rfl hl (by decide) rfl (fun ls hl => ?_)
  refine lv_aload_n hx hb dX11_mays_7 rfl (lv_at hl 1 rfl) ?_
  refine lv_aload_n hx hb dX11_mays_8 rfl (lv_at hl 1 rfl) ?_
  refine va_get (D := D) (ci := 11) (v := .ref (a 28)) (C := RX11) (T := TX11) (N := 76) hx hb hts (zi_X11 _) hown hK hP 0 rfl rfl 56 (by decide) (hts _ (List.mem_cons_of_mem _ zt_f_X11_100)) (fun _ h9 => h9) rfl dX11_mays_9 ?_
  refine lv_iload_n hx hb dX11_mays_12 rfl (lv_at hl 0 rfl) ?_
  have hi2 := mq_ck_in h
  replace h := mq_ck_go h
  refine va_iald (f := S.2.1 27) hx hb hK hP 28 0 rfl rfl hi2 dX11_mays_13 ?_
  refine mq_put (w := wd_R a cI cL cB cZ z) (S := S) (D := D) (ci := 11) (v := (S.2.1 27 (x1).toNatClampNeg)) (ty := .int) (C := RX11) (T := TX11) (N := 76) hx hb hts (zi_X11 _) tyX11 tyX11_ok nmX11 hown hK hP hD hS 0 rfl rfl 43 (by decide) (hts _ (List.mem_cons_of_mem _ zt_f_X11_295)) (fun _ h9 => h9) rfl (by decide +kernel) rfl rfl (Nat.le_of_ble_eq_true rfl) dX11_mays_14 25 (zs_wd_R_i_0_25 _ _ _ _ _ _ _ _) (fun S3 eS3 H locs hP hD hS => ?_)
  replace h := mq_nS_go eS3 h
  refine lv_aload_n hx hb dX11_mays_17 rfl (lv_at hl 1 rfl) ?_
  refine va_get (D := D) (ci := 11) (v := .ref (a 31)) (C := RX11) (T := TX11) (N := 76) hx hb hts (zi_X11 _) hown hK hP 0 rfl rfl 59 (by decide) (hts _ (List.mem_cons_of_mem _ zt_f_X11_109)) (fun _ h9 => h9) rfl dX11_mays_18 ?_
  refine lv_bipush (v := (10 : Int32)) hx hb dX11_mays_21 (by decide) ?_
  refine lv_iload_n hx hb dX11_mays_23 rfl (lv_at hl 0 rfl) ?_
  refine lv_imul hx hb dX11_mays_24 ?_
  refine lv_aload_n hx hb dX11_mays_25 rfl (lv_at hl 1 rfl) ?_
  refine va_get (D := D) (ci := 11) (v := .ref (a 18)) (C := RX11) (T := TX11) (N := 76) hx hb hts (zi_X11 _) hown hK hP 0 rfl rfl 35 (by decide) (hts _ (List.mem_cons_of_mem _ zt_f_X11_69)) (fun _ h9 => h9) rfl dX11_mays_26 ?_
  refine lv_iconst (v := (0 : Int32)) hx hb dX11_mays_29 (by decide) ?_
  obtain ⟨q4, hc5, h⟩ := mq_cl_go h
  refine zv_X11_copy (a := mq_ad a [31, 18]) (z := (fun k => [4700, 10].getD k 0)) [31, 18] C zt_m_X11_301 ⟨by decide, by decide⟩ hc5 rfl (by decide) (ws' := (wd_R a cI cL cB cZ z (mq_push S3 q4.2 [] [30, 17] []))) (zx_wd_R_wd_A2_31_18 _ _ _ _ _ _ _ _) hP hD hS hl.1 (Nat.le_of_ble_eq_true rfl) dX11_mays_30 (fun H locs hP hD hS => ?_)
  obtain ⟨S6, eS6⟩ : ∃ y, y = mq_push S3 q4.2 [] [30, 17] [] := ⟨_, rfl⟩
  replace h := mq_nS_go eS6 h
  rw [← eS6] at hP hD
  refine lv_aload_n hx hb dX11_mays_33 rfl (lv_at hl 1 rfl) ?_
  refine lv_aload_n hx hb dX11_mays_34 rfl (lv_at hl 1 rfl) ?_
  refine va_get (D := D) (ci := 11) (v := .ref (a 30)) (C := RX11) (T := TX11) (N := 76) hx hb hts (zi_X11 _) hown hK hP 0 rfl rfl 58 (by decide) (hts _ (List.mem_cons_of_mem _ zt_f_X11_106)) (fun _ h9 => h9) rfl dX11_mays_35 ?_
  refine lv_iload_n hx hb dX11_mays_38 rfl (lv_at hl 0 rfl) ?_
  have hi7 := mq_ck_in h
  replace h := mq_ck_go h
  refine va_iald (f := S6.2.1 29) hx hb hK hP 30 0 rfl rfl hi7 dX11_mays_39 ?_
  refine mq_put (w := wd_R a cI cL cB cZ z) (S := S6) (D := D) (ci := 11) (v := (S6.2.1 29 (x1).toNatClampNeg)) (ty := .int) (C := RX11) (T := TX11) (N := 76) hx hb hts (zi_X11 _) tyX11 tyX11_ok nmX11 hown hK hP hD hS 0 rfl rfl 49 (by decide) (hts _ (List.mem_cons_of_mem _ zt_f_X11_289)) (fun _ h9 => h9) rfl (by decide +kernel) rfl rfl (Nat.le_of_ble_eq_true rfl) dX11_mays_40 26 (zs_wd_R_i_0_26 _ _ _ _ _ _ _ _) (fun S8 eS8 H locs hP hD hS => ?_)
  replace h := mq_nS_go eS8 h
  refine lv_aload_n hx hb dX11_mays_43 rfl (lv_at hl 1 rfl) ?_
  refine lv_aload_n hx hb dX11_mays_44 rfl (lv_at hl 1 rfl) ?_
  refine va_get (D := D) (ci := 11) (v := .ref (a 27)) (C := RX11) (T := TX11) (N := 76) hx hb hts (zi_X11 _) hown hK hP 0 rfl rfl 55 (by decide) (hts _ (List.mem_cons_of_mem _ zt_f_X11_97)) (fun _ h9 => h9) rfl dX11_mays_45 ?_
  refine lv_iload_n hx hb dX11_mays_48 rfl (lv_at hl 0 rfl) ?_
  have hi9 := mq_ck_in h
  replace h := mq_ck_go h
  refine va_iald (f := S8.2.1 26) hx hb hK hP 27 0 rfl rfl hi9 dX11_mays_49 ?_
  obtain ⟨q10, hc11, h⟩ := mq_cp_go h
  refine zk_X11_nextMay C zt_m_X11_341 ⟨by decide, by decide⟩ hc11 hP hD hS hl.1 (Nat.le_of_ble_eq_true rfl) dX11_mays_50 (fun H locs hP hD hS => ?_)
  refine lv_topi (fun x12 ex12 => ?_)
  replace h := mq_nI_go ex12 h
  refine lv_istore_n (lv' := [(2, .int (x12)), (1, .int (x1)), (0, .ref (a 0))]) hx hb dX11_mays_53 rfl hl (by decide) rfl (fun ls hl => ?_)
  exact zw_X11_mays_54 C hret N (x1) (x12) S8 H locs ls h (lv_sub hl [2, 1, 0] rfl) hP hD hS
set_option maxHeartbeats 4000000 in
set_option maxRecDepth 100000 in
theorem zm_X11_mays (l : Launch) (D : va_G) (a z : Nat → Nat) (cI cL cB cZ : ClassId) (sz N : Nat) (S : mq_St) (res : Int32 × mq_St) (h : zf_X11_mays N z S = some res) : Met l yX11_mays (zc_X11_mays :: mq_T) zr_X11_mays (va_Pc [.ref (a 0)] (fun U => U.heap.size = sz ∧ va_P D vwCl (wd_R a cI cL cB cZ z S) U.heap ∧ va_K D vwCl (mq_tys cI cL cB cZ) U ∧ va_D (fun _ => True) (wd_R a cI cL cB cZ z S))) (va_Qi (fun (r : Int32) (u : mq_St) => r = res.1 ∧ u = res.2) (fun u t => va_P D vwCl (wd_R a cI cL cB cZ z u) t.heap ∧ va_K D vwCl (mq_tys cI cL cB cZ) t ∧ va_D (va_A (wd_R a cI cL cB cZ z S) sz) (wd_R a cI cL cB cZ z u)) (va_A (wd_R a cI cL cB cZ z S) sz)) 0 0 (va_A (wd_R a cI cL cB cZ z S) sz) := by
  refine Met.ofW (cc := cX11_mays) (maxL := 4) (ret := (some .boolean)) (by decide) rfl ?_
  intro p e s m args below meth c s₁ B hml hv
  obtain ⟨rfl, hsz, hP, hK, hD0⟩ := hv
  have hr := B.returns
  have hlocks := B.notSynchronized
  have hts := atoms_spec (ws := zc_X11_mays :: mq_T) B.pre
  have hown : s.vm.findClass RX11 = some m.cls := findClass_of_methodNamed B.named
  subst hsz
  have hD := hD0.self (sz := s.heap.size)
  generalize hAe : va_A (wd_R a cI cL cB cZ z S) s.heap.size = A at hD ⊢
  have hA : ∀ q : Nat, s.heap.size ≤ q → A q := fun q h => by rw [← hAe]; exact Or.inr h
  have hl := lv_entry ([.ref (a 0)]) (n := 4) (Nat.le_of_ble_eq_true rfl)
  rw [lg_entry_eq]
  generalize (lg_sl ([.ref (a 0)]) ++ List.replicate (4 - (lg_sl ([.ref (a 0)])).length) Slot.unset).toArray = ls at hl ⊢
  have hl : lv_has ls 4 [(0, .ref (a 0))] := hl
  refine zw_X11_mays_0 (A := A) ⟨B.exec, B.bytes, hml, hown, hts, hK, hA⟩ (fun H locs ls pc dg hz hP hD hS => ?_) S s.heap [] ls h hl hP hD va_S.rf
  exact W.zret B.exec B.bytes hr hz (fun t ht hW => ⟨⟨_, _, rfl, ⟨rfl, rfl⟩, by rw [ht]; exact hP, va_K.moved hW.alike hK, hD⟩, hS.F ht⟩) hS.2.2 dg
theorem zt_X11_mays_c : zc_X11_mays ∈ mq_T := mq_T_mem (mq_t7 (List.mem_of_getElem? (i := 111) rfl)) rfl
theorem zt_X11_mays_i : Cond.instanceMethod yX11_mays ∈ mq_T := mq_T_mem (mq_t7 (List.mem_of_getElem? (i := 110) rfl)) rfl
theorem zt_X11_mays_s : Cond.selects RX11 yX11_mays yX11_mays ∈ mq_T := mq_T_at 97 (by decide +kernel)
set_option maxHeartbeats 4000000 in
theorem zk_X11_mays {p : Program} {l : Launch} {e : Env} {R : Room} {s : State} {m : MethodId} {args : Array Value} {below : List Frame} {meth : Method} {c : Code} {A : Nat → Prop} {D : va_G} {a z : Nat → Nat} {cI cL cB cZ : ClassId} {Q : State → Prop} {cc : ByteArray} {nL idx pc N : Nat} {own : String} {c1 : Cond} {H : Heap} {locs : List Loc} {ls : Array Slot} {rest : List Value} {S : mq_St} {res : Int32 × mq_St} (C : mq_C p s m args c A D cI cL cB cZ cc nL own c1) (hlk : Cond.methodLink own idx yX11_mays ∈ mq_T) (hR : zr_X11_mays.frames + 1 ≤ R.frames ∧ 8 + (4 + 11) + zr_X11_mays.locals ≤ R.locals) (h : zf_X11_mays N z S = some res) (hP : va_P D vwCl (wd_R a cI cL cB cZ z S) H) (hD : va_D A (wd_R a cI cL cB cZ z S)) (hS : va_S A s.heap H locs) (hls : ls.size = nL) (hrest : (rest.map fun v => v.category).sum ≤ 8) (hdg : decode cc pc = .ok (.invokevirtual idx, 3)) (kk : ∀ (H1 : Heap) (locs1 : List Loc), va_P D vwCl (wd_R a cI cL cB cZ z res.2) H1 → va_D A (wd_R a cI cL cB cZ z res.2) → va_S A s.heap H1 locs1 → W p l e R s m args below meth c H1 locs1 0 0 Q (F0 m (pc + 3) ls (.int res.1 :: rest))) : W p l e R s m args below meth c H locs 0 0 Q (F0 m pc ls (.ref (a 0) :: rest)) := by
  obtain ⟨hx, hb, hml, hown, hts, hK, hA⟩ := C
  have hFc := mq_freeI hD hS hA
  refine va_calli (va_runV (As := []) (rest := rest) ⟨hx, hb, hml, hown, hts⟩ (zm_X11_mays l D a z cI cL cB cZ H.size N S res h) (cwV 0 hts (mq_goodL (mq_wsV hlk zt_X11_mays_i zt_X11_mays_s zt_ini_X11 zt_X11_mays_c)) rfl rfl rfl (by decide +kernel) hR) ⟨fun a U g mk q => ⟨q.1, q.2.1, q.2.2.1, va_K.moved (u := U) (U := U.calling g mk a) (Vm.Alike.refl U.vm) q.2.2.2.1, q.2.2.2.2⟩, zy_R_0 hK hP, fun U hU hW => ⟨rfl, by rw [hU], by rw [hU]; exact hP, va_K.moved hW.alike hK, hD.weaken (fun _ _ _ _ => trivial)⟩⟩ rfl rfl hls rfl (lv_room hrest) hdg ⟨Nat.zero_le _, Nat.zero_le _⟩) hS (fun q _ h => hFc q h) hFc (fun r u t H1 locs ht hvm hw hB hz1 hk1 hS => ?_)
  obtain ⟨rfl, rfl⟩ := hw
  obtain ⟨hP1, hK1, hD1⟩ := hB
  rw [ht] at hP1
  exact kk H1 locs hP1 (hD1.weaken (fun _ _ _ h => hFc _ h)) hS
