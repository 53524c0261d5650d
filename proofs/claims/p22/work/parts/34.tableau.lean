theorem zt_f_X8_56 : Cond.fieldLink RX8 56 "ModalDesk$Tableau" "stock" "LModalDesk$Stock;" ∈ mq_T := mq_T_mem (mq_t1 (List.mem_of_getElem? (i := 216) rfl)) rfl
theorem zi_X8 (c1 : Cond) : ∀ w ∈ u_ws RX8 TX8 19, w ∈ c1 :: mq_T := fun w h => List.mem_cons_of_mem _ (mq_T_mem (mq_inl [(1, 235), (1, 237), (1, 239), (2, 1), (2, 3), (2, 5), (2, 7), (2, 9), (2, 11), (2, 13), (2, 15), (2, 17), (2, 19), (2, 21), (2, 23), (2, 25), (2, 27), (2, 29), (2, 31)] (by decide +kernel) w h) ((by decide +kernel : ∀ w ∈ u_ws RX8 TX8 19, goodWord w = true) w h))
theorem zt_m_X8_118 : Cond.methodLink RX8 118 yX7_sortOf ∈ mq_T := mq_T_mem (mq_t4 (List.mem_of_getElem? (i := 60) rfl)) rfl
theorem zt_f_X8_20 : Cond.fieldLink RX8 20 "ModalDesk$Tableau" "sets" "LModalDesk$Sets;" ∈ mq_T := mq_T_mem (mq_t1 (List.mem_of_getElem? (i := 218) rfl)) rfl
theorem zt_f_X8_160 : Cond.fieldLink RX8 160 "ModalDesk$Tableau" "world" "I" ∈ mq_T := mq_T_mem (mq_t1 (List.mem_of_getElem? (i := 231) rfl)) rfl
theorem zt_m_X8_217 : Cond.methodLink RX8 217 yX7_denialOf ∈ mq_T := mq_T_mem (mq_t4 (List.mem_of_getElem? (i := 61) rfl)) rfl
theorem zt_m_X8_121 : Cond.methodLink RX8 121 yX6_has ∈ mq_T := mq_T_mem (mq_t4 (List.mem_of_getElem? (i := 22) rfl)) rfl
theorem zx_wd_C_wd_S_35_36 (a z : Nat → Nat) (cI cL cB cZ : ClassId) (S X : mq_St) : mq_setM (wd_C a cI cL cB cZ z S) [35, 36] (wd_S (mq_ad a [35, 36]) cI cL cB cZ (fun k => [300].getD k 0) X) = (wd_C a cI cL cB cZ z (mq_push S X [] [] [3])) := rfl
/-! ModalDesk$Tableau.clashWith(I)I -/
def zr_X8_clashWith : Room := { frames := 2, cells := 0, slots := 0, locals := 44 }
def zc_X8_clashWith : Cond := .code yX8_clashWith cX8_clashWith 4 (some .int)
def zf_X8_clashWith_31 (N : Nat) (z : Nat → Nat) (S : mq_St) (v1 : Int32) (v2 : Int32) (t0 : Int32) : Option (Int32) := (mq_nI (t0) (fun x7 => (if x7 = (0 : Int32) then (some ((-1 : Int32))) else (mq_cp (zf_X7_denialOf N z (v1) S) (fun q8 => (mq_cp (zf_X6_has N (fun k => [300].getD k 0) ((S.1 16)) (q8) (mq_pull S [] [] [3])) (fun q10 => (if q10 = (0 : Int32) then (some ((-1 : Int32))) else (if v2 = (2 : Int32) then (some (v1)) else (mq_cp (zf_X7_denialOf N z (v1) S) (fun q12 => (some (q12)))))))))))))
def zf_X8_clashWith_26 (N : Nat) (z : Nat → Nat) (S : mq_St) (v1 : Int32) (v2 : Int32) : Option (Int32) := (zf_X8_clashWith_31 N z S (v1) (v2) ((1 : Int32)))
def zf_X8_clashWith (N : Nat) (z : Nat → Nat) (v1 : Int32) (S : mq_St) : Option (Int32) := (mq_cp (zf_X7_sortOf N z (v1) S) (fun q1 => (mq_nI (q1) (fun x3 => (if x3 = (1 : Int32) then (some (v1)) else (if x3 = (2 : Int32) then (zf_X8_clashWith_26 N z S (v1) (x3)) else (if x3 = (3 : Int32) then (zf_X8_clashWith_26 N z S (v1) (x3)) else (zf_X8_clashWith_31 N z S (v1) (x3) ((0 : Int32))))))))))
set_option maxHeartbeats 4000000 in
set_option maxRecDepth 100000 in
theorem zw_X8_clashWith_31 {p : Program} {l : Launch} {e : Env} {s : State} {m : MethodId} {args : Array Value} {below : List Frame} {meth : Method} {c : Code} {A : Nat → Prop} {D : va_G} {a z : Nat → Nat} {cI cL cB cZ : ClassId} {Q : State → Prop} {N : Nat} {S : mq_St} {res : Int32} (C : mq_C p s m args c A D cI cL cB cZ cX8_clashWith 4 RX8 zc_X8_clashWith) (hret : ∀ (H : Heap) (locs : List Loc) (ls : Array Slot) (pc : Nat), decode cX8_clashWith pc = .ok (.ireturn, 1) → va_P D vwCl (wd_C a cI cL cB cZ z S) H → va_D A (wd_C a cI cL cB cZ z S) → va_S A s.heap H locs → W p l e zr_X8_clashWith s m args below meth c H locs 0 0 Q (F0 m pc ls [.int res])) (v1 : Int32) (v2 : Int32) (t0 : Int32) (H : Heap) (locs : List Loc) (ls : Array Slot) (h : zf_X8_clashWith_31 N z S v1 v2 t0 = some res) (hl : lv_has ls 4 [(0, .ref (a 25)), (1, .int (v1)), (2, .int (v2))]) (hP : va_P D vwCl (wd_C a cI cL cB cZ z S) H) (hD : va_D A (wd_C a cI cL cB cZ z S)) (hS : va_S A s.heap H locs) : W p l e zr_X8_clashWith s m args below meth c H locs 0 0 Q (F0 m 31 ls [.int (t0)]) := by
  obtain ⟨hx, hb, hml, hown, hts, hK, hA⟩ := id C
  unfold zf_X8_clashWith_31 at h
  refine lv_topi (fun x7 ex7 => ?_)
  replace h := mq_nI_go ex7 h
  refine lv_istore_n (lv' := [(3, .int (x7)), (0, .ref (a 25)), (1, .int (v1)), (2, .int (v2))]) hx hb dX8_clashWith_31 rfl hl (by decide) rfl (fun ls hl => ?_)
  refine lv_iload_n hx hb dX8_clashWith_32 rfl (lv_at hl 0 rfl) ?_
  refine lv_if_eq (tgt := 58) hx hb dX8_clashWith_33 (by decide) (fun c16 => ?_) (fun c16 => ?_)
  · replace h := mq_it c16 h
    refine lv_iconst (v := (-1 : Int32)) hx hb dX8_clashWith_58 (by decide) ?_
    cases h
    exact hret H locs ls 59 dX8_clashWith_59 hP hD hS
  · replace h := mq_if c16 h
    refine lv_aload_n hx hb dX8_clashWith_36 rfl (lv_at hl 1 rfl) ?_
    refine va_get (D := D) (ci := 8) (v := .ref (a 35)) (C := RX8) (T := TX8) (N := 19) hx hb hts (zi_X8 _) hown hK hP 25 rfl rfl 2 (by decide) (hts _ (List.mem_cons_of_mem _ zt_f_X8_20)) (fun _ h9 => h9) rfl dX8_clashWith_37 ?_
    refine lv_aload_n hx hb dX8_clashWith_40 rfl (lv_at hl 1 rfl) ?_
    refine va_get (D := D) (ci := 8) (v := .int ((S.1 16))) (C := RX8) (T := TX8) (N := 19) hx hb hts (zi_X8 _) hown hK hP 25 rfl rfl 15 (by decide) (hts _ (List.mem_cons_of_mem _ zt_f_X8_160)) (fun _ h9 => h9) rfl dX8_clashWith_41 ?_
    refine lv_aload_n hx hb dX8_clashWith_44 rfl (lv_at hl 1 rfl) ?_
    refine va_get (D := D) (ci := 8) (v := .ref (a 7)) (C := RX8) (T := TX8) (N := 19) hx hb hts (zi_X8 _) hown hK hP 25 rfl rfl 0 (by decide) (hts _ (List.mem_cons_of_mem _ zt_f_X8_56)) (fun _ h9 => h9) rfl dX8_clashWith_45 ?_
    refine lv_iload_n hx hb dX8_clashWith_48 rfl (lv_at hl 2 rfl) ?_
    obtain ⟨q8, hc9, h⟩ := mq_cp_go h
    refine zk_X7_denialOf C zt_m_X8_217 ⟨by decide, by decide⟩ hc9 hP hD hS hl.1 (Nat.le_of_ble_eq_true rfl) dX8_clashWith_49 (fun H locs hP hD hS => ?_)
    obtain ⟨q10, hc11, h⟩ := mq_cp_go h
    refine zv_X6_has (a := mq_ad a [35, 36]) (z := (fun k => [300].getD k 0)) [35, 36] C zt_m_X8_121 ⟨by decide, by decide⟩ hc11 rfl (by decide) hP hD hS hl.1 (Nat.le_of_ble_eq_true rfl) dX8_clashWith_52 (fun H locs hP hD hS => ?_)
    refine lv_if_ne (tgt := 60) hx hb dX8_clashWith_55 (by decide) (fun c15 => ?_) (fun c15 => ?_)
    · replace h := mq_if c15 h
      refine lv_iload_n hx hb dX8_clashWith_60 rfl (lv_at hl 3 rfl) ?_
      refine lv_iconst (v := (2 : Int32)) hx hb dX8_clashWith_61 (by decide) ?_
      refine lv_icmp_ne (tgt := 69) hx hb dX8_clashWith_62 (by decide) (fun c14 => ?_) (fun c14 => ?_)
      · replace h := mq_if c14 h
        refine lv_aload_n hx hb dX8_clashWith_69 rfl (lv_at hl 1 rfl) ?_
        refine va_get (D := D) (ci := 8) (v := .ref (a 7)) (C := RX8) (T := TX8) (N := 19) hx hb hts (zi_X8 _) hown hK hP 25 rfl rfl 0 (by decide) (hts _ (List.mem_cons_of_mem _ zt_f_X8_56)) (fun _ h9 => h9) rfl dX8_clashWith_70 ?_
        refine lv_iload_n hx hb dX8_clashWith_73 rfl (lv_at hl 2 rfl) ?_
        obtain ⟨q12, hc13, h⟩ := mq_cp_go h
        refine zk_X7_denialOf C zt_m_X8_217 ⟨by decide, by decide⟩ hc13 hP hD hS hl.1 (Nat.le_of_ble_eq_true rfl) dX8_clashWith_74 (fun H locs hP hD hS => ?_)
        cases h
        exact hret H locs ls 77 dX8_clashWith_77 hP hD hS
      · replace h := mq_it (by simpa using c14) h
        refine lv_iload_n hx hb dX8_clashWith_65 rfl (lv_at hl 2 rfl) ?_
        refine lv_goto (tgt := 77) hx hb dX8_clashWith_66 (by decide) ?_
        cases h
        exact hret H locs ls 77 dX8_clashWith_77 hP hD hS
    · replace h := mq_it (by simpa using c15) h
      refine lv_iconst (v := (-1 : Int32)) hx hb dX8_clashWith_58 (by decide) ?_
      cases h
      exact hret H locs ls 59 dX8_clashWith_59 hP hD hS
set_option maxHeartbeats 4000000 in
set_option maxRecDepth 100000 in
theorem zw_X8_clashWith_26 {p : Program} {l : Launch} {e : Env} {s : State} {m : MethodId} {args : Array Value} {below : List Frame} {meth : Method} {c : Code} {A : Nat → Prop} {D : va_G} {a z : Nat → Nat} {cI cL cB cZ : ClassId} {Q : State → Prop} {N : Nat} {S : mq_St} {res : Int32} (C : mq_C p s m args c A D cI cL cB cZ cX8_clashWith 4 RX8 zc_X8_clashWith) (hret : ∀ (H : Heap) (locs : List Loc) (ls : Array Slot) (pc : Nat), decode cX8_clashWith pc = .ok (.ireturn, 1) → va_P D vwCl (wd_C a cI cL cB cZ z S) H → va_D A (wd_C a cI cL cB cZ z S) → va_S A s.heap H locs → W p l e zr_X8_clashWith s m args below meth c H locs 0 0 Q (F0 m pc ls [.int res])) (v1 : Int32) (v2 : Int32) (H : Heap) (locs : List Loc) (ls : Array Slot) (h : zf_X8_clashWith_26 N z S v1 v2 = some res) (hl : lv_has ls 4 [(0, .ref (a 25)), (1, .int (v1)), (2, .int (v2))]) (hP : va_P D vwCl (wd_C a cI cL cB cZ z S) H) (hD : va_D A (wd_C a cI cL cB cZ z S)) (hS : va_S A s.heap H locs) : W p l e zr_X8_clashWith s m args below meth c H locs 0 0 Q (F0 m 26 ls []) := by
  obtain ⟨hx, hb, hml, hown, hts, hK, hA⟩ := id C
  unfold zf_X8_clashWith_26 at h
  refine lv_iconst (v := (1 : Int32)) hx hb dX8_clashWith_26 (by decide) ?_
  refine lv_goto (tgt := 31) hx hb dX8_clashWith_27 (by decide) ?_
  exact zw_X8_clashWith_31 C hret (v1) (v2) ((1 : Int32)) H locs ls h (lv_sub hl [0, 1, 2] rfl) hP hD hS
set_option maxHeartbeats 4000000 in
set_option maxRecDepth 100000 in
theorem zw_X8_clashWith_0 {p : Program} {l : Launch} {e : Env} {s : State} {m : MethodId} {args : Array Value} {below : List Frame} {meth : Method} {c : Code} {A : Nat → Prop} {D : va_G} {a z : Nat → Nat} {cI cL cB cZ : ClassId} {Q : State → Prop} {N : Nat} {S : mq_St} {res : Int32} (C : mq_C p s m args c A D cI cL cB cZ cX8_clashWith 4 RX8 zc_X8_clashWith) (hret : ∀ (H : Heap) (locs : List Loc) (ls : Array Slot) (pc : Nat), decode cX8_clashWith pc = .ok (.ireturn, 1) → va_P D vwCl (wd_C a cI cL cB cZ z S) H → va_D A (wd_C a cI cL cB cZ z S) → va_S A s.heap H locs → W p l e zr_X8_clashWith s m args below meth c H locs 0 0 Q (F0 m pc ls [.int res])) (v1 : Int32) (H : Heap) (locs : List Loc) (ls : Array Slot) (h : zf_X8_clashWith N z v1 S = some res) (hl : lv_has ls 4 [(0, .ref (a 25)), (1, .int (v1))]) (hP : va_P D vwCl (wd_C a cI cL cB cZ z S) H) (hD : va_D A (wd_C a cI cL cB cZ z S)) (hS : va_S A s.heap H locs) : W p l e zr_X8_clashWith s m args below meth c H locs 0 0 Q (F0 m 0 ls []) := by
  obtain ⟨hx, hb, hml, hown, hts, hK, hA⟩ := id C
  unfold zf_X8_clashWith at h
  refine lv_aload_n hx hb dX8_clashWith_0 rfl (lv_at hl 0 rfl) ?_
  refine va_get (D := D) (ci := 8) (v := .ref (a 7)) (C := RX8) (T := TX8) (N := 19) hx hb hts (zi_X8 _) hown hK hP 25 rfl rfl 0 (by decide) (hts _ (List.mem_cons_of_mem _ zt_f_X8_56)) (fun _ h9 => h9) rfl dX8_clashWith_1 ?_
  refine lv_iload_n hx hb dX8_clashWith_4 rfl (lv_at hl 1 rfl) ?_
  obtain ⟨q1, hc2, h⟩ := mq_cp_go h
  refine zk_X7_sortOf C zt_m_X8_118 ⟨by decide, by decide⟩ hc2 hP hD hS hl.1 (Nat.le_of_ble_eq_true rfl) dX8_clashWith_5 (fun H locs hP hD hS => ?_)
  refine lv_topi (fun x3 ex3 => ?_)
  replace h := mq_nI_go ex3 h
  refine lv_istore_n (lv' := [(2, .int (x3)), (0, .ref (a 25)), (1, .int (v1))]) hx hb dX8_clashWith_8 rfl hl (by decide) rfl (fun ls hl => ?_)
  refine lv_iload_n hx hb dX8_clashWith_9 rfl (lv_at hl 0 rfl) ?_
  refine lv_iconst (v := (1 : Int32)) hx hb dX8_clashWith_10 (by decide) ?_
  refine lv_icmp_ne (tgt := 16) hx hb dX8_clashWith_11 (by decide) (fun c6 => ?_) (fun c6 => ?_)
  · replace h := mq_if c6 h
    refine lv_iload_n hx hb dX8_clashWith_16 rfl (lv_at hl 0 rfl) ?_
    refine lv_iconst (v := (2 : Int32)) hx hb dX8_clashWith_17 (by decide) ?_
    refine lv_icmp_eq (tgt := 26) hx hb dX8_clashWith_18 (by decide) (fun c5 => ?_) (fun c5 => ?_)
    · replace h := mq_it c5 h
      exact zw_X8_clashWith_26 C hret (v1) (x3) H locs ls h (lv_sub hl [1, 2, 0] rfl) hP hD hS
    · replace h := mq_if c5 h
      refine lv_iload_n hx hb dX8_clashWith_21 rfl (lv_at hl 0 rfl) ?_
      refine lv_iconst (v := (3 : Int32)) hx hb dX8_clashWith_22 (by decide) ?_
      refine lv_icmp_ne (tgt := 30) hx hb dX8_clashWith_23 (by decide) (fun c4 => ?_) (fun c4 => ?_)
      · replace h := mq_if c4 h
        refine lv_iconst (v := (0 : Int32)) hx hb dX8_clashWith_30 (by decide) ?_
        exact zw_X8_clashWith_31 C hret (v1) (x3) ((0 : Int32)) H locs ls h (lv_sub hl [1, 2, 0] rfl) hP hD hS
      · replace h := mq_it (by simpa using c4) h
        exact zw_X8_clashWith_26 C hret (v1) (x3) H locs ls h (lv_sub hl [1, 2, 0] rfl) hP hD hS
  · replace h := mq_it (by simpa using c6) h
    refine lv_iload_n hx hb dX8_clashWith_14 rfl (lv_at hl 2 rfl) ?_
    cases h
    exact hret H locs ls 15 dX8_clashWith_15 hP hD hS
set_option maxHeartbeats 4000000 in
set_option maxRecDepth 100000 in
theorem zm_X8_clashWith (l : Launch) (D : va_G) (a z : Nat → Nat) (cI cL cB cZ : ClassId) (sz N : Nat) (v1 : Int32) (S : mq_St) (res : Int32) (h : zf_X8_clashWith N z v1 S = some res) : Met l yX8_clashWith (zc_X8_clashWith :: mq_T) zr_X8_clashWith (va_Pc [.ref (a 25), .int (v1)] (fun U => U.heap.size = sz ∧ va_P D vwCl (wd_C a cI cL cB cZ z S) U.heap ∧ va_K D vwCl (mq_tys cI cL cB cZ) U ∧ va_D (fun _ => True) (wd_C a cI cL cB cZ z S))) (va_Qi (fun (r : Int32) (u : mq_St) => r = res ∧ u = S) (fun u t => va_P D vwCl (wd_C a cI cL cB cZ z u) t.heap ∧ va_K D vwCl (mq_tys cI cL cB cZ) t ∧ va_D (va_A (wd_C a cI cL cB cZ z S) sz) (wd_C a cI cL cB cZ z u)) (va_A (wd_C a cI cL cB cZ z S) sz)) 0 0 (va_A (wd_C a cI cL cB cZ z S) sz) := by
  refine Met.ofW (cc := cX8_clashWith) (maxL := 4) (ret := (some .int)) (by decide) rfl ?_
  intro p e s m args below meth c s₁ B hml hv
  obtain ⟨rfl, hsz, hP, hK, hD0⟩ := hv
  have hr := B.returns
  have hlocks := B.notSynchronized
  have hts := atoms_spec (ws := zc_X8_clashWith :: mq_T) B.pre
  have hown : s.vm.findClass RX8 = some m.cls := findClass_of_methodNamed B.named
  subst hsz
  have hD := hD0.self (sz := s.heap.size)
  generalize hAe : va_A (wd_C a cI cL cB cZ z S) s.heap.size = A at hD ⊢
  have hA : ∀ q : Nat, s.heap.size ≤ q → A q := fun q h => by rw [← hAe]; exact Or.inr h
  have hl := lv_entry ([.ref (a 25), .int (v1)]) (n := 4) (Nat.le_of_ble_eq_true rfl)
  rw [lg_entry_eq]
  generalize (lg_sl ([.ref (a 25), .int (v1)]) ++ List.replicate (4 - (lg_sl ([.ref (a 25), .int (v1)])).length) Slot.unset).toArray = ls at hl ⊢
  have hl : lv_has ls 4 [(0, .ref (a 25)), (1, .int (v1))] := hl
  refine zw_X8_clashWith_0 (A := A) ⟨B.exec, B.bytes, hml, hown, hts, hK, hA⟩ (fun H locs ls pc dg hP hD hS => ?_) v1 s.heap [] ls h hl hP hD va_S.rf
  exact W.iret B.exec B.bytes hr (fun t ht hW => ⟨⟨_, _, rfl, ⟨rfl, rfl⟩, by rw [ht]; exact hP, va_K.moved hW.alike hK, hD⟩, hS.F ht⟩) hS.2.2 dg
theorem zt_X8_clashWith_c : zc_X8_clashWith ∈ mq_T := mq_T_mem (mq_t4 (List.mem_of_getElem? (i := 59) rfl)) rfl
theorem zt_X8_clashWith_i : Cond.instanceMethod yX8_clashWith ∈ mq_T := mq_T_mem (mq_t4 (List.mem_of_getElem? (i := 58) rfl)) rfl
theorem zt_X8_clashWith_s : Cond.selects RX8 yX8_clashWith yX8_clashWith ∈ mq_T := mq_T_at 42 (by decide +kernel)
theorem zt_ini_X8 : Cond.initialized RX8 ∈ mq_T := mq_T_mem (mq_t1 (List.mem_of_getElem? (i := 9) rfl)) rfl
set_option maxHeartbeats 4000000 in
theorem zk_X8_clashWith {p : Program} {l : Launch} {e : Env} {R : Room} {s : State} {m : MethodId} {args : Array Value} {below : List Frame} {meth : Method} {c : Code} {A : Nat → Prop} {D : va_G} {a z : Nat → Nat} {cI cL cB cZ : ClassId} {Q : State → Prop} {cc : ByteArray} {nL idx pc N : Nat} {own : String} {c1 : Cond} {H : Heap} {locs : List Loc} {ls : Array Slot} {rest : List Value} {S : mq_St} {res : Int32} {v1 : Int32} (C : mq_C p s m args c A D cI cL cB cZ cc nL own c1) (hlk : Cond.methodLink own idx yX8_clashWith ∈ mq_T) (hR : zr_X8_clashWith.frames + 1 ≤ R.frames ∧ 8 + (4 + 11) + zr_X8_clashWith.locals ≤ R.locals) (h : zf_X8_clashWith N z v1 S = some res) (hP : va_P D vwCl (wd_C a cI cL cB cZ z S) H) (hD : va_D A (wd_C a cI cL cB cZ z S)) (hS : va_S A s.heap H locs) (hls : ls.size = nL) (hrest : (rest.map fun v => v.category).sum ≤ 8) (hdg : decode cc pc = .ok (.invokevirtual idx, 3)) (kk : ∀ (H1 : Heap) (locs1 : List Loc), va_P D vwCl (wd_C a cI cL cB cZ z S) H1 → va_D A (wd_C a cI cL cB cZ z S) → va_S A s.heap H1 locs1 → W p l e R s m args below meth c H1 locs1 0 0 Q (F0 m (pc + 3) ls (.int res :: rest))) : W p l e R s m args below meth c H locs 0 0 Q (F0 m pc ls (.int (v1) :: .ref (a 25) :: rest)) := by
  obtain ⟨hx, hb, hml, hown, hts, hK, hA⟩ := C
  have hFc := mq_freeI hD hS hA
  refine va_calli (va_runV (As := [.int (v1)]) (rest := rest) ⟨hx, hb, hml, hown, hts⟩ (zm_X8_clashWith l D a z cI cL cB cZ H.size N v1 S res h) (cwV 1 hts (mq_goodL (mq_wsV hlk zt_X8_clashWith_i zt_X8_clashWith_s zt_ini_X8 zt_X8_clashWith_c)) rfl rfl rfl (by decide +kernel) hR) ⟨fun a U g mk q => ⟨q.1, q.2.1, q.2.2.1, va_K.moved (u := U) (U := U.calling g mk a) (Vm.Alike.refl U.vm) q.2.2.2.1, q.2.2.2.2⟩, zy_C_25 hK hP, fun U hU hW => ⟨rfl, by rw [hU], by rw [hU]; exact hP, va_K.moved hW.alike hK, hD.weaken (fun _ _ _ _ => trivial)⟩⟩ rfl rfl hls rfl (lv_room hrest) hdg ⟨Nat.zero_le _, Nat.zero_le _⟩) hS (fun q _ h => hFc q h) hFc (fun r u t H1 locs ht hvm hw hB hz1 hk1 hS => ?_)
  obtain ⟨rfl, rfl⟩ := hw
  obtain ⟨hP1, hK1, hD1⟩ := hB
  rw [ht] at hP1
  exact kk H1 locs hP1 (hD1.weaken (fun _ _ _ h => hFc _ h)) hS
theorem zt_m_X8_82 : Cond.methodLink RX8 82 yX6_put ∈ mq_T := mq_T_mem (mq_t4 (List.mem_of_getElem? (i := 12) rfl)) rfl
theorem zt_f_X8_23 : Cond.fieldLink RX8 23 "ModalDesk$Tableau" "left" "LModalDesk$Sets;" ∈ mq_T := mq_T_mem (mq_t1 (List.mem_of_getElem? (i := 219) rfl)) rfl
theorem zx_wd_C_wd_S_37_38 (a z : Nat → Nat) (cI cL cB cZ : ClassId) (S X : mq_St) : mq_setM (wd_C a cI cL cB cZ z S) [37, 38] (wd_S (mq_ad a [37, 38]) cI cL cB cZ (fun k => [300].getD k 0) X) = (wd_C a cI cL cB cZ z (mq_push S X [] [] [4])) := rfl
theorem zt_m_X8_211 : Cond.methodLink RX8 211 yX8_clashWith ∈ mq_T := mq_T_mem (mq_t4 (List.mem_of_getElem? (i := 56) rfl)) rfl
theorem zt_f_X8_128 : Cond.fieldLink RX8 128 "ModalDesk$Tableau" "clash" "I" ∈ mq_T := mq_T_mem (mq_t1 (List.mem_of_getElem? (i := 232) rfl)) rfl
theorem zt_m_X8_214 : Cond.methodLink RX8 214 Lib.Math.min.name ∈ mq_T := mq_T_mem (mq_t4 (List.mem_of_getElem? (i := 62) rfl)) rfl
theorem zs_wd_C_i_25_17 (a z : Nat → Nat) (cI cL cB cZ : ClassId) (S : mq_St) (v : Int32) : (wd_C a cI cL cB cZ z S).set 25 (a 25, .inr (8, ([.ref (a 7), .ref (a 33), .ref (a 35), .ref (a 37), .ref (a 26), .ref (a 27), .ref (a 28), .ref (a 29), .ref (a 30), .ref (a 31), .ref (a 39), .ref (a 41), .ref (a 32), .int (S.1 14), .int (S.1 15), .int (S.1 16), .int (S.1 17), .int (S.1 18), .int (S.1 19)] : List Value).set 16 (.int v))) = (wd_C a cI cL cB cZ z (mq_si S 17 v)) := rfl
/-! ModalDesk$Tableau.add(I)V -/
def zr_X8_add : Room := { frames := 3, cells := 0, slots := 0, locals := 67 }
def zc_X8_add : Cond := .code yX8_add cX8_add 3 none
def zf_X8_add_62 (N : Nat) (z : Nat → Nat) (t1 : Int32) (S : mq_St) : Option (Unit × mq_St) := (mq_nS (mq_si S 17 (t1)) (fun S13 => (some ((), S13))))
def zf_X8_add (N : Nat) (z : Nat → Nat) (v1 : Int32) (S : mq_St) : Option (Unit × mq_St) := (if v1 = (-1 : Int32) then (some ((), S)) else (mq_cl (zf_X6_put N (fun k => [300].getD k 0) ((S.1 16)) (v1) (mq_pull S [] [] [3])) (fun q1v q1s => mq_nS (mq_push S q1s [] [] [3]) (fun S3 => (mq_cl (zf_X6_put N (fun k => [300].getD k 0) ((S3.1 16)) (v1) (mq_pull S3 [] [] [4])) (fun q4v q4s => mq_nS (mq_push S3 q4s [] [] [4]) (fun S6 => (mq_cp (zf_X8_clashWith N z (v1) S6) (fun q7 => (mq_nI (q7) (fun x9 => (if x9 = (-1 : Int32) then (some ((), S6)) else (if (S6.1 17) = (-1 : Int32) then (zf_X8_add_62 N z (x9) S6) else (zf_X8_add_62 N z ((mq_min (S6.1 17) x9)) S6))))))))))))))
set_option maxHeartbeats 4000000 in
set_option maxRecDepth 100000 in
theorem zw_X8_add_62 {p : Program} {l : Launch} {e : Env} {s : State} {m : MethodId} {args : Array Value} {below : List Frame} {meth : Method} {c : Code} {A : Nat → Prop} {D : va_G} {a z : Nat → Nat} {cI cL cB cZ : ClassId} {Q : State → Prop} {N : Nat} {res : Unit × mq_St} (C : mq_C p s m args c A D cI cL cB cZ cX8_add 3 RX8 zc_X8_add) (hret : ∀ (H : Heap) (locs : List Loc) (ls : Array Slot) (pc : Nat), decode cX8_add pc = .ok (.return_, 1) → va_P D vwCl (wd_C a cI cL cB cZ z res.2) H → va_D A (wd_C a cI cL cB cZ z res.2) → va_S A s.heap H locs → W p l e zr_X8_add s m args below meth c H locs 0 0 Q (F0 m pc ls [])) (t1 : Int32) (S : mq_St) (H : Heap) (locs : List Loc) (ls : Array Slot) (h : zf_X8_add_62 N z t1 S = some res) (hl : lv_has ls 3 []) (hP : va_P D vwCl (wd_C a cI cL cB cZ z S) H) (hD : va_D A (wd_C a cI cL cB cZ z S)) (hS : va_S A s.heap H locs) : W p l e zr_X8_add s m args below meth c H locs 0 0 Q (F0 m 62 ls [.int (t1), .ref (a 25)]) := by
  obtain ⟨hx, hb, hml, hown, hts, hK, hA⟩ := id C
  unfold zf_X8_add_62 at h
  refine mq_put (w := wd_C a cI cL cB cZ z) (S := S) (D := D) (ci := 8) (v := t1) (ty := .int) (C := RX8) (T := TX8) (N := 19) hx hb hts (zi_X8 _) tyX8 tyX8_ok nmX8 hown hK hP hD hS 25 rfl rfl 16 (by decide) (hts _ (List.mem_cons_of_mem _ zt_f_X8_128)) (fun _ h9 => h9) rfl (by decide +kernel) rfl rfl (Nat.le_of_ble_eq_true rfl) dX8_add_62 17 (zs_wd_C_i_25_17 _ _ _ _ _ _ _ _) (fun S13 eS13 H locs hP hD hS => ?_)
  replace h := mq_nS_go eS13 h
  cases h
  exact hret H locs ls 65 dX8_add_65 hP hD hS
set_option maxHeartbeats 4000000 in
set_option maxRecDepth 100000 in
theorem zw_X8_add_0 {p : Program} {l : Launch} {e : Env} {s : State} {m : MethodId} {args : Array Value} {below : List Frame} {meth : Method} {c : Code} {A : Nat → Prop} {D : va_G} {a z : Nat → Nat} {cI cL cB cZ : ClassId} {Q : State → Prop} {N : Nat} {res : Unit × mq_St} (C : mq_C p s m args c A D cI cL cB cZ cX8_add 3 RX8 zc_X8_add) (hret : ∀ (H : Heap) (locs : List Loc) (ls : Array Slot) (pc : Nat), decode cX8_add pc = .ok (.return_, 1) → va_P D vwCl (wd_C a cI cL cB cZ z res.2) H → va_D A (wd_C a cI cL cB cZ z res.2) → va_S A s.heap H locs → W p l e zr_X8_add s m args below meth c H locs 0 0 Q (F0 m pc ls [])) (v1 : Int32) (S : mq_St) (H : Heap) (locs : List Loc) (ls : Array Slot) (h : zf_X8_add N z v1 S = some res) (hl : lv_has ls 3 [(0, .ref (a 25)), (1, .int (v1))]) (hP : va_P D vwCl (wd_C a cI cL cB cZ z S) H) (hD : va_D A (wd_C a cI cL cB cZ z S)) (hS : va_S A s.heap H locs) : W p l e zr_X8_add s m args below meth c H locs 0 0 Q (F0 m 0 ls []) := by
  obtain ⟨hx, hb, hml, hown, hts, hK, hA⟩ := id C
  unfold zf_X8_add at h
  refine lv_iload_n hx hb dX8_add_0 rfl (lv_at hl 1 rfl) ?_
  refine lv_iconst (v := (-1 : Int32)) hx hb dX8_add_1 (by decide) ?_
  refine lv_icmp_ne (tgt := 6) hx hb dX8_add_2 (by decide) (fun c12 => ?_) (fun c12 => ?_)
  · replace h := mq_if c12 h
    refine lv_aload_n hx hb dX8_add_6 rfl (lv_at hl 0 rfl) ?_
    refine va_get (D := D) (ci := 8) (v := .ref (a 35)) (C := RX8) (T := TX8) (N := 19) hx hb hts (zi_X8 _) hown hK hP 25 rfl rfl 2 (by decide) (hts _ (List.mem_cons_of_mem _ zt_f_X8_20)) (fun _ h9 => h9) rfl dX8_add_7 ?_
    refine lv_aload_n hx hb dX8_add_10 rfl (lv_at hl 0 rfl) ?_
    refine va_get (D := D) (ci := 8) (v := .int ((S.1 16))) (C := RX8) (T := TX8) (N := 19) hx hb hts (zi_X8 _) hown hK hP 25 rfl rfl 15 (by decide) (hts _ (List.mem_cons_of_mem _ zt_f_X8_160)) (fun _ h9 => h9) rfl dX8_add_11 ?_
    refine lv_iload_n hx hb dX8_add_14 rfl (lv_at hl 1 rfl) ?_
    obtain ⟨q1, hc2, h⟩ := mq_cl_go h
    refine zv_X6_put (a := mq_ad a [35, 36]) (z := (fun k => [300].getD k 0)) [35, 36] C zt_m_X8_82 ⟨by decide, by decide⟩ hc2 rfl (by decide) (ws' := (wd_C a cI cL cB cZ z (mq_push S q1.2 [] [] [3]))) (zx_wd_C_wd_S_35_36 _ _ _ _ _ _ _ _) hP hD hS hl.1 (Nat.le_of_ble_eq_true rfl) dX8_add_15 (fun H locs hP hD hS => ?_)
    obtain ⟨S3, eS3⟩ : ∃ y, y = mq_push S q1.2 [] [] [3] := ⟨_, rfl⟩
    replace h := mq_nS_go eS3 h
    rw [← eS3] at hP hD
    refine lv_aload_n hx hb dX8_add_18 rfl (lv_at hl 0 rfl) ?_
    refine va_get (D := D) (ci := 8) (v := .ref (a 37)) (C := RX8) (T := TX8) (N := 19) hx hb hts (zi_X8 _) hown hK hP 25 rfl rfl 3 (by decide) (hts _ (List.mem_cons_of_mem _ zt_f_X8_23)) (fun _ h9 => h9) rfl dX8_add_19 ?_
    refine lv_aload_n hx hb dX8_add_22 rfl (lv_at hl 0 rfl) ?_
    refine va_get (D := D) (ci := 8) (v := .int ((S3.1 16))) (C := RX8) (T := TX8) (N := 19) hx hb hts (zi_X8 _) hown hK hP 25 rfl rfl 15 (by decide) (hts _ (List.mem_cons_of_mem _ zt_f_X8_160)) (fun _ h9 => h9) rfl dX8_add_23 ?_
    refine lv_iload_n hx hb dX8_add_26 rfl (lv_at hl 1 rfl) ?_
    obtain ⟨q4, hc5, h⟩ := mq_cl_go h
    refine zv_X6_put (a := mq_ad a [37, 38]) (z := (fun k => [300].getD k 0)) [37, 38] C zt_m_X8_82 ⟨by decide, by decide⟩ hc5 rfl (by decide) (ws' := (wd_C a cI cL cB cZ z (mq_push S3 q4.2 [] [] [4]))) (zx_wd_C_wd_S_37_38 _ _ _ _ _ _ _ _) hP hD hS hl.1 (Nat.le_of_ble_eq_true rfl) dX8_add_27 (fun H locs hP hD hS => ?_)
    obtain ⟨S6, eS6⟩ : ∃ y, y = mq_push S3 q4.2 [] [] [4] := ⟨_, rfl⟩
    replace h := mq_nS_go eS6 h
    rw [← eS6] at hP hD
    refine lv_aload_n hx hb dX8_add_30 rfl (lv_at hl 0 rfl) ?_
    refine lv_iload_n hx hb dX8_add_31 rfl (lv_at hl 1 rfl) ?_
    obtain ⟨q7, hc8, h⟩ := mq_cp_go h
    refine zk_X8_clashWith C zt_m_X8_211 ⟨by decide, by decide⟩ hc8 hP hD hS hl.1 (Nat.le_of_ble_eq_true rfl) dX8_add_32 (fun H locs hP hD hS => ?_)
    refine lv_topi (fun x9 ex9 => ?_)
    replace h := mq_nI_go ex9 h
    refine lv_istore_n (lv' := [(2, .int (x9)), (0, .ref (a 25)), (1, .int (v1))]) hx hb dX8_add_35 rfl hl (by decide) rfl (fun ls hl => ?_)
    refine lv_iload_n hx hb dX8_add_36 rfl (lv_at hl 0 rfl) ?_
    refine lv_iconst (v := (-1 : Int32)) hx hb dX8_add_37 (by decide) ?_
    refine lv_icmp_eq (tgt := 65) hx hb dX8_add_38 (by decide) (fun c11 => ?_) (fun c11 => ?_)
    · replace h := mq_it c11 h
      cases h
      exact hret H locs ls 65 dX8_add_65 hP hD hS
    · replace h := mq_if c11 h
      refine lv_aload_n hx hb dX8_add_41 rfl (lv_at hl 1 rfl) ?_
      refine lv_aload_n hx hb dX8_add_42 rfl (lv_at hl 1 rfl) ?_
      refine va_get (D := D) (ci := 8) (v := .int ((S6.1 17))) (C := RX8) (T := TX8) (N := 19) hx hb hts (zi_X8 _) hown hK hP 25 rfl rfl 16 (by decide) (hts _ (List.mem_cons_of_mem _ zt_f_X8_128)) (fun _ h9 => h9) rfl dX8_add_43 ?_
      refine lv_iconst (v := (-1 : Int32)) hx hb dX8_add_46 (by decide) ?_
      refine lv_icmp_ne (tgt := 54) hx hb dX8_add_47 (by decide) (fun c10 => ?_) (fun c10 => ?_)
      · replace h := mq_if c10 h
        refine lv_aload_n hx hb dX8_add_54 rfl (lv_at hl 1 rfl) ?_
        refine va_get (D := D) (ci := 8) (v := .int ((S6.1 17))) (C := RX8) (T := TX8) (N := 19) hx hb hts (zi_X8 _) hown hK hP 25 rfl rfl 16 (by decide) (hts _ (List.mem_cons_of_mem _ zt_f_X8_128)) (fun _ h9 => h9) rfl dX8_add_55 ?_
        refine lv_iload_n hx hb dX8_add_58 rfl (lv_at hl 0 rfl) ?_
        refine va_mmin hx hb (hml.trans hl.1.symm) hown (hts _ (List.mem_cons_of_mem _ zt_m_X8_214)) (hts _ (List.mem_cons_of_mem _ zt_math_min_s)) (hts _ (List.mem_cons_of_mem _ zt_math_i)) (hts _ (List.mem_cons_of_mem _ zt_math_min_c)) (Nat.le_of_ble_eq_true rfl) (Nat.le_of_ble_eq_true rfl) (Nat.zero_le _) (Nat.zero_le _) dX8_add_59 ?_
        show W _ _ _ _ _ _ _ _ _ _ _ _ _ _ _ (F0 _ _ _ (.int (mq_min (S6.1 17) x9) :: _))
        exact zw_X8_add_62 C hret ((mq_min (S6.1 17) x9)) S6 H locs ls h (lv_sub hl [] rfl) hP hD hS
      · replace h := mq_it (by simpa using c10) h
        refine lv_iload_n hx hb dX8_add_50 rfl (lv_at hl 0 rfl) ?_
        refine lv_goto (tgt := 62) hx hb dX8_add_51 (by decide) ?_
        exact zw_X8_add_62 C hret (x9) S6 H locs ls h (lv_sub hl [] rfl) hP hD hS
  · replace h := mq_it (by simpa using c12) h
    cases h
    exact hret H locs ls 5 dX8_add_5 hP hD hS
set_option maxHeartbeats 4000000 in
set_option maxRecDepth 100000 in
theorem zm_X8_add (l : Launch) (D : va_G) (a z : Nat → Nat) (cI cL cB cZ : ClassId) (sz N : Nat) (v1 : Int32) (S : mq_St) (res : Unit × mq_St) (h : zf_X8_add N z v1 S = some res) : Met l yX8_add (zc_X8_add :: mq_T) zr_X8_add (va_Pc [.ref (a 25), .int (v1)] (fun U => U.heap.size = sz ∧ va_P D vwCl (wd_C a cI cL cB cZ z S) U.heap ∧ va_K D vwCl (mq_tys cI cL cB cZ) U ∧ va_D (fun _ => True) (wd_C a cI cL cB cZ z S))) (va_Qv (fun u : mq_St => u = res.2) (fun u t => va_P D vwCl (wd_C a cI cL cB cZ z u) t.heap ∧ va_K D vwCl (mq_tys cI cL cB cZ) t ∧ va_D (va_A (wd_C a cI cL cB cZ z S) sz) (wd_C a cI cL cB cZ z u)) (va_A (wd_C a cI cL cB cZ z S) sz)) 0 0 (va_A (wd_C a cI cL cB cZ z S) sz) := by
  refine Met.ofW (cc := cX8_add) (maxL := 3) (ret := none) (by decide) rfl ?_
  intro p e s m args below meth c s₁ B hml hv
  obtain ⟨rfl, hsz, hP, hK, hD0⟩ := hv
  have hr := B.returns
  have hlocks := B.notSynchronized
  have hts := atoms_spec (ws := zc_X8_add :: mq_T) B.pre
  have hown : s.vm.findClass RX8 = some m.cls := findClass_of_methodNamed B.named
  subst hsz
  have hD := hD0.self (sz := s.heap.size)
  generalize hAe : va_A (wd_C a cI cL cB cZ z S) s.heap.size = A at hD ⊢
  have hA : ∀ q : Nat, s.heap.size ≤ q → A q := fun q h => by rw [← hAe]; exact Or.inr h
  have hl := lv_entry ([.ref (a 25), .int (v1)]) (n := 3) (Nat.le_of_ble_eq_true rfl)
  rw [lg_entry_eq]
  generalize (lg_sl ([.ref (a 25), .int (v1)]) ++ List.replicate (3 - (lg_sl ([.ref (a 25), .int (v1)])).length) Slot.unset).toArray = ls at hl ⊢
  have hl : lv_has ls 3 [(0, .ref (a 25)), (1, .int (v1))] := hl
  refine zw_X8_add_0 (A := A) ⟨B.exec, B.bytes, hml, hown, hts, hK, hA⟩ (fun H locs ls pc dg hP hD hS => ?_) v1 S s.heap [] ls h hl hP hD va_S.rf
  exact W.vret B.exec B.bytes hr (fun t ht hW => ⟨⟨_, rfl, rfl, by rw [ht]; exact hP, va_K.moved hW.alike hK, hD⟩, hS.F ht⟩) hS.2.2 dg
theorem zt_X8_add_c : zc_X8_add ∈ mq_T := mq_T_mem (mq_t4 (List.mem_of_getElem? (i := 55) rfl)) rfl
theorem zt_X8_add_i : Cond.instanceMethod yX8_add ∈ mq_T := mq_T_mem (mq_t4 (List.mem_of_getElem? (i := 54) rfl)) rfl
theorem zt_X8_add_s : Cond.selects RX8 yX8_add yX8_add ∈ mq_T := mq_T_at 41 (by decide +kernel)
set_option maxHeartbeats 4000000 in
theorem zk_X8_add {p : Program} {l : Launch} {e : Env} {R : Room} {s : State} {m : MethodId} {args : Array Value} {below : List Frame} {meth : Method} {c : Code} {A : Nat → Prop} {D : va_G} {a z : Nat → Nat} {cI cL cB cZ : ClassId} {Q : State → Prop} {cc : ByteArray} {nL idx pc N : Nat} {own : String} {c1 : Cond} {H : Heap} {locs : List Loc} {ls : Array Slot} {rest : List Value} {S : mq_St} {res : Unit × mq_St} {v1 : Int32} (C : mq_C p s m args c A D cI cL cB cZ cc nL own c1) (hlk : Cond.methodLink own idx yX8_add ∈ mq_T) (hR : zr_X8_add.frames + 1 ≤ R.frames ∧ 8 + (3 + 11) + zr_X8_add.locals ≤ R.locals) (h : zf_X8_add N z v1 S = some res) (hP : va_P D vwCl (wd_C a cI cL cB cZ z S) H) (hD : va_D A (wd_C a cI cL cB cZ z S)) (hS : va_S A s.heap H locs) (hls : ls.size = nL) (hrest : (rest.map fun v => v.category).sum ≤ 8) (hdg : decode cc pc = .ok (.invokevirtual idx, 3)) (kk : ∀ (H1 : Heap) (locs1 : List Loc), va_P D vwCl (wd_C a cI cL cB cZ z res.2) H1 → va_D A (wd_C a cI cL cB cZ z res.2) → va_S A s.heap H1 locs1 → W p l e R s m args below meth c H1 locs1 0 0 Q (F0 m (pc + 3) ls rest)) : W p l e R s m args below meth c H locs 0 0 Q (F0 m pc ls (.int (v1) :: .ref (a 25) :: rest)) := by
  obtain ⟨hx, hb, hml, hown, hts, hK, hA⟩ := C
  have hFc := mq_freeI hD hS hA
  refine va_callv (va_runV (As := [.int (v1)]) (rest := rest) ⟨hx, hb, hml, hown, hts⟩ (zm_X8_add l D a z cI cL cB cZ H.size N v1 S res h) (cwV 1 hts (mq_goodL (mq_wsV hlk zt_X8_add_i zt_X8_add_s zt_ini_X8 zt_X8_add_c)) rfl rfl rfl (by decide +kernel) hR) ⟨fun a U g mk q => ⟨q.1, q.2.1, q.2.2.1, va_K.moved (u := U) (U := U.calling g mk a) (Vm.Alike.refl U.vm) q.2.2.2.1, q.2.2.2.2⟩, zy_C_25 hK hP, fun U hU hW => ⟨rfl, by rw [hU], by rw [hU]; exact hP, va_K.moved hW.alike hK, hD.weaken (fun _ _ _ _ => trivial)⟩⟩ rfl rfl hls rfl (lv_room hrest) hdg ⟨Nat.zero_le _, Nat.zero_le _⟩) hS (fun q _ h => hFc q h) hFc (fun u t H1 locs ht hvm hw hB hz1 hk1 hS => ?_)
  subst hw
  obtain ⟨hP1, hK1, hD1⟩ := hB
  rw [ht] at hP1
  exact kk H1 locs hP1 (hD1.weaken (fun _ _ _ h => hFc _ h)) hS
theorem zt_f_X8_73 : Cond.fieldLink RX8 73 "ModalDesk$Tableau" "worldCount" "I" ∈ mq_T := mq_T_mem (mq_t1 (List.mem_of_getElem? (i := 230) rfl)) rfl
theorem zs_wd_C_i_25_16 (a z : Nat → Nat) (cI cL cB cZ : ClassId) (S : mq_St) (v : Int32) : (wd_C a cI cL cB cZ z S).set 25 (a 25, .inr (8, ([.ref (a 7), .ref (a 33), .ref (a 35), .ref (a 37), .ref (a 26), .ref (a 27), .ref (a 28), .ref (a 29), .ref (a 30), .ref (a 31), .ref (a 39), .ref (a 41), .ref (a 32), .int (S.1 14), .int (S.1 15), .int (S.1 16), .int (S.1 17), .int (S.1 18), .int (S.1 19)] : List Value).set 15 (.int v))) = (wd_C a cI cL cB cZ z (mq_si S 16 v)) := rfl
theorem zs_wd_C_i_25_15 (a z : Nat → Nat) (cI cL cB cZ : ClassId) (S : mq_St) (v : Int32) : (wd_C a cI cL cB cZ z S).set 25 (a 25, .inr (8, ([.ref (a 7), .ref (a 33), .ref (a 35), .ref (a 37), .ref (a 26), .ref (a 27), .ref (a 28), .ref (a 29), .ref (a 30), .ref (a 31), .ref (a 39), .ref (a 41), .ref (a 32), .int (S.1 14), .int (S.1 15), .int (S.1 16), .int (S.1 17), .int (S.1 18), .int (S.1 19)] : List Value).set 14 (.int v))) = (wd_C a cI cL cB cZ z (mq_si S 15 v)) := rfl
theorem zt_f_X8_53 : Cond.fieldLink RX8 53 "ModalDesk$Tableau" "counts" "[I" ∈ mq_T := mq_T_mem (mq_t1 (List.mem_of_getElem? (i := 228) rfl)) rfl
theorem zs_wd_C_a_32_21 (a z : Nat → Nat) (cI cL cB cZ : ClassId) (S : mq_St) (f : Nat → Int32) : (wd_C a cI cL cB cZ z S).set 32 (a 32, .inl (cI, 4, .inl f)) = (wd_C a cI cL cB cZ z (mq_sa S 21 f)) := rfl
theorem zt_m_X8_205 : Cond.methodLink RX8 205 Lib.Math.max.name ∈ mq_T := mq_T_mem (mq_t4 (List.mem_of_getElem? (i := 17) rfl)) rfl
theorem zt_f_X8_14 : Cond.fieldLink RX8 14 "ModalDesk$Tableau" "starts" "LModalDesk$Sets;" ∈ mq_T := mq_T_mem (mq_t1 (List.mem_of_getElem? (i := 217) rfl)) rfl
theorem zt_m_X8_188 : Cond.methodLink RX8 188 yX6_copy ∈ mq_T := mq_T_mem (mq_t4 (List.mem_of_getElem? (i := 18) rfl)) rfl
theorem zx_wd_C_wd_SS_35_36_33_34 (a z : Nat → Nat) (cI cL cB cZ : ClassId) (S X : mq_St) : mq_setM (wd_C a cI cL cB cZ z S) [35, 36, 33, 34] (wd_SS (mq_ad a [35, 36, 33, 34]) cI cL cB cZ (fun k => [300, 305].getD k 0) X) = (wd_C a cI cL cB cZ z (mq_push S X [] [] [3, 2])) := rfl
theorem zx_wd_C_wd_SS_37_38_33_34 (a z : Nat → Nat) (cI cL cB cZ : ClassId) (S X : mq_St) : mq_setM (wd_C a cI cL cB cZ z S) [37, 38, 33, 34] (wd_SS (mq_ad a [37, 38, 33, 34]) cI cL cB cZ (fun k => [300, 305].getD k 0) X) = (wd_C a cI cL cB cZ z (mq_push S X [] [] [4, 2])) := rfl
theorem zt_f_X8_26 : Cond.fieldLink RX8 26 "ModalDesk$Tableau" "parents" "[I" ∈ mq_T := mq_T_mem (mq_t1 (List.mem_of_getElem? (i := 220) rfl)) rfl
theorem zs_wd_C_a_26_16 (a z : Nat → Nat) (cI cL cB cZ : ClassId) (S : mq_St) (f : Nat → Int32) : (wd_C a cI cL cB cZ z S).set 26 (a 26, .inl (cI, 60, .inl f)) = (wd_C a cI cL cB cZ z (mq_sa S 16 f)) := rfl
theorem zt_f_X8_30 : Cond.fieldLink RX8 30 "ModalDesk$Tableau" "depths" "[I" ∈ mq_T := mq_T_mem (mq_t1 (List.mem_of_getElem? (i := 221) rfl)) rfl
theorem zs_wd_C_a_27_17 (a z : Nat → Nat) (cI cL cB cZ : ClassId) (S : mq_St) (f : Nat → Int32) : (wd_C a cI cL cB cZ z S).set 27 (a 27, .inl (cI, 60, .inl f)) = (wd_C a cI cL cB cZ z (mq_sa S 17 f)) := rfl
theorem zt_f_X8_33 : Cond.fieldLink RX8 33 "ModalDesk$Tableau" "eithersAhead" "[I" ∈ mq_T := mq_T_mem (mq_t1 (List.mem_of_getElem? (i := 222) rfl)) rfl
theorem zt_f_X8_70 : Cond.fieldLink RX8 70 "ModalDesk$Tableau" "eitherCount" "I" ∈ mq_T := mq_T_mem (mq_t1 (List.mem_of_getElem? (i := 229) rfl)) rfl
theorem zs_wd_C_a_28_18 (a z : Nat → Nat) (cI cL cB cZ : ClassId) (S : mq_St) (f : Nat → Int32) : (wd_C a cI cL cB cZ z S).set 28 (a 28, .inl (cI, 60, .inl f)) = (wd_C a cI cL cB cZ z (mq_sa S 18 f)) := rfl
theorem zt_f_X8_39 : Cond.fieldLink RX8 39 "ModalDesk$Tableau" "leads" "[J" ∈ mq_T := mq_T_mem (mq_t1 (List.mem_of_getElem? (i := 224) rfl)) rfl
theorem zs_wd_C_l_30_1 (a z : Nat → Nat) (cI cL cB cZ : ClassId) (S : mq_St) (f : Nat → Int64) : (wd_C a cI cL cB cZ z S).set 30 (a 30, .inl (cL, 60, .inr (.inl f))) = (wd_C a cI cL cB cZ z (mq_sl S 1 f)) := rfl
/-! ModalDesk$Tableau.beginWorld(II)V -/
def zr_X8_beginWorld : Room := { frames := 2, cells := 0, slots := 0, locals := 47 }
def zc_X8_beginWorld : Cond := .code yX8_beginWorld cX8_beginWorld 3 none
def zf_X8_beginWorld_146 (N : Nat) (z : Nat → Nat) (t1 : Int32) (S : mq_St) : Option (Unit × mq_St) := (mq_nS (mq_si S 17 (t1)) (fun S26 => (some ((), S26))))
def zf_X8_beginWorld (N : Nat) (z : Nat → Nat) (v1 : Int32) (v2 : Int32) (S : mq_St) : Option (Unit × mq_St) := (mq_nS (mq_si S 16 ((S.1 15))) (fun S1 => (mq_nS (mq_si S1 15 (((S1.1 15) + (1 : Int32)))) (fun S2 => (mq_ck ((1 : Int32)) 4 (mq_ck ((1 : Int32)) 4 (mq_nS (mq_sa S2 21 (upd (S2.2.1 21) ((1 : Int32)).toNatClampNeg (((S2.2.1 21 ((1 : Int32)).toNatClampNeg) + (1 : Int32))))) (fun S5 => (mq_ck ((3 : Int32)) 4 (mq_ck ((3 : Int32)) 4 (mq_nS (mq_sa S5 21 (upd (S5.2.1 21) ((3 : Int32)).toNatClampNeg ((mq_max (S5.2.1 21 ((3 : Int32)).toNatClampNeg) v2)))) (fun S8 => (mq_cl (zf_X6_copy N (fun k => [300, 305].getD k 0) ((S8.1 16)) ((S8.1 16)) (mq_pull S8 [] [] [3, 2])) (fun q9v q9s => mq_nS (mq_push S8 q9s [] [] [3, 2]) (fun S11 => (mq_cl (zf_X6_copy N (fun k => [300, 305].getD k 0) ((S11.1 16)) ((S11.1 16)) (mq_pull S11 [] [] [4, 2])) (fun q12v q12s => mq_nS (mq_push S11 q12s [] [] [4, 2]) (fun S14 => (mq_ck ((S14.1 16)) 60 (mq_nS (mq_sa S14 16 (upd (S14.2.1 16) ((S14.1 16)).toNatClampNeg (v1))) (fun S16 => (mq_ck ((S16.1 16)) 60 (mq_nS (mq_sa S16 17 (upd (S16.2.1 17) ((S16.1 16)).toNatClampNeg (v2))) (fun S18 => (mq_ck ((S18.1 16)) 60 (mq_nS (mq_sa S18 18 (upd (S18.2.1 18) ((S18.1 16)).toNatClampNeg ((S18.1 14)))) (fun S20 => (mq_ck ((S20.1 16)) 60 (mq_nS (mq_sl S20 1 (vp_updL (S20.2.2 1) ((S20.1 16)).toNatClampNeg ((0 : Int64)))) (fun S22 => (mq_cp (zf_X6_has N (fun k => [300].getD k 0) ((S22.1 16)) ((1 : Int32)) (mq_pull S22 [] [] [3])) (fun q23 => (if q23 = (0 : Int32) then (zf_X8_beginWorld_146 N z ((-1 : Int32)) S22) else (zf_X8_beginWorld_146 N z ((1 : Int32)) S22))))))))))))))))))))))))))))))))))
set_option maxHeartbeats 4000000 in
set_option maxRecDepth 100000 in
theorem zw_X8_beginWorld_146 {p : Program} {l : Launch} {e : Env} {s : State} {m : MethodId} {args : Array Value} {below : List Frame} {meth : Method} {c : Code} {A : Nat → Prop} {D : va_G} {a z : Nat → Nat} {cI cL cB cZ : ClassId} {Q : State → Prop} {N : Nat} {res : Unit × mq_St} (C : mq_C p s m args c A D cI cL cB cZ cX8_beginWorld 3 RX8 zc_X8_beginWorld) (hret : ∀ (H : Heap) (locs : List Loc) (ls : Array Slot) (pc : Nat), decode cX8_beginWorld pc = .ok (.return_, 1) → va_P D vwCl (wd_C a cI cL cB cZ z res.2) H → va_D A (wd_C a cI cL cB cZ z res.2) → va_S A s.heap H locs → W p l e zr_X8_beginWorld s m args below meth c H locs 0 0 Q (F0 m pc ls [])) (t1 : Int32) (S : mq_St) (H : Heap) (locs : List Loc) (ls : Array Slot) (h : zf_X8_beginWorld_146 N z t1 S = some res) (hl : lv_has ls 3 []) (hP : va_P D vwCl (wd_C a cI cL cB cZ z S) H) (hD : va_D A (wd_C a cI cL cB cZ z S)) (hS : va_S A s.heap H locs) : W p l e zr_X8_beginWorld s m args below meth c H locs 0 0 Q (F0 m 146 ls [.int (t1), .ref (a 25)]) := by
  obtain ⟨hx, hb, hml, hown, hts, hK, hA⟩ := id C
  unfold zf_X8_beginWorld_146 at h
  refine mq_put (w := wd_C a cI cL cB cZ z) (S := S) (D := D) (ci := 8) (v := t1) (ty := .int) (C := RX8) (T := TX8) (N := 19) hx hb hts (zi_X8 _) tyX8 tyX8_ok nmX8 hown hK hP hD hS 25 rfl rfl 16 (by decide) (hts _ (List.mem_cons_of_mem _ zt_f_X8_128)) (fun _ h9 => h9) rfl (by decide +kernel) rfl rfl (Nat.le_of_ble_eq_true rfl) dX8_beginWorld_146 17 (zs_wd_C_i_25_17 _ _ _ _ _ _ _ _) (fun S26 eS26 H locs hP hD hS => ?_)
  replace h := mq_nS_go eS26 h
  cases h
  exact hret H locs ls 149 dX8_beginWorld_149 hP hD hS
set_option maxHeartbeats 4000000 in
set_option maxRecDepth 100000 in
theorem zw_X8_beginWorld_0 {p : Program} {l : Launch} {e : Env} {s : State} {m : MethodId} {args : Array Value} {below : List Frame} {meth : Method} {c : Code} {A : Nat → Prop} {D : va_G} {a z : Nat → Nat} {cI cL cB cZ : ClassId} {Q : State → Prop} {N : Nat} {res : Unit × mq_St} (C : mq_C p s m args c A D cI cL cB cZ cX8_beginWorld 3 RX8 zc_X8_beginWorld) (hret : ∀ (H : Heap) (locs : List Loc) (ls : Array Slot) (pc : Nat), decode cX8_beginWorld pc = .ok (.return_, 1) → va_P D vwCl (wd_C a cI cL cB cZ z res.2) H → va_D A (wd_C a cI cL cB cZ z res.2) → va_S A s.heap H locs → W p l e zr_X8_beginWorld s m args below meth c H locs 0 0 Q (F0 m pc ls [])) (v1 : Int32) (v2 : Int32) (S : mq_St) (H : Heap) (locs : List Loc) (ls : Array Slot) (h : zf_X8_beginWorld N z v1 v2 S = some res) (hl : lv_has ls 3 [(0, .ref (a 25)), (1, .int (v1)), (2, .int (v2))]) (hP : va_P D vwCl (wd_C a cI cL cB cZ z S) H) (hD : va_D A (wd_C a cI cL cB cZ z S)) (hS : va_S A s.heap H locs) : W p l e zr_X8_beginWorld s m args below meth c H locs 0 0 Q (F0 m 0 ls []) := by
  obtain ⟨hx, hb, hml, hown, hts, hK, hA⟩ := id C
  unfold zf_X8_beginWorld at h
  refine lv_aload_n hx hb dX8_beginWorld_0 rfl (lv_at hl 0 rfl) ?_
  refine lv_aload_n hx hb dX8_beginWorld_1 rfl (lv_at hl 0 rfl) ?_
  refine va_get (D := D) (ci := 8) (v := .int ((S.1 15))) (C := RX8) (T := TX8) (N := 19) hx hb hts (zi_X8 _) hown hK hP 25 rfl rfl 14 (by decide) (hts _ (List.mem_cons_of_mem _ zt_f_X8_73)) (fun _ h9 => h9) rfl dX8_beginWorld_2 ?_
  refine mq_put (w := wd_C a cI cL cB cZ z) (S := S) (D := D) (ci := 8) (v := (S.1 15)) (ty := .int) (C := RX8) (T := TX8) (N := 19) hx hb hts (zi_X8 _) tyX8 tyX8_ok nmX8 hown hK hP hD hS 25 rfl rfl 15 (by decide) (hts _ (List.mem_cons_of_mem _ zt_f_X8_160)) (fun _ h9 => h9) rfl (by decide +kernel) rfl rfl (Nat.le_of_ble_eq_true rfl) dX8_beginWorld_5 16 (zs_wd_C_i_25_16 _ _ _ _ _ _ _ _) (fun S1 eS1 H locs hP hD hS => ?_)
  replace h := mq_nS_go eS1 h
  refine lv_aload_n hx hb dX8_beginWorld_8 rfl (lv_at hl 0 rfl) ?_
  refine lv_dup hx hb dX8_beginWorld_9 rfl ?_
  refine va_get (D := D) (ci := 8) (v := .int ((S1.1 15))) (C := RX8) (T := TX8) (N := 19) hx hb hts (zi_X8 _) hown hK hP 25 rfl rfl 14 (by decide) (hts _ (List.mem_cons_of_mem _ zt_f_X8_73)) (fun _ h9 => h9) rfl dX8_beginWorld_10 ?_
  refine lv_iconst (v := (1 : Int32)) hx hb dX8_beginWorld_13 (by decide) ?_
  refine lv_iadd hx hb dX8_beginWorld_14 ?_
  refine mq_put (w := wd_C a cI cL cB cZ z) (S := S1) (D := D) (ci := 8) (v := ((S1.1 15) + (1 : Int32))) (ty := .int) (C := RX8) (T := TX8) (N := 19) hx hb hts (zi_X8 _) tyX8 tyX8_ok nmX8 hown hK hP hD hS 25 rfl rfl 14 (by decide) (hts _ (List.mem_cons_of_mem _ zt_f_X8_73)) (fun _ h9 => h9) rfl (by decide +kernel) rfl rfl (Nat.le_of_ble_eq_true rfl) dX8_beginWorld_15 15 (zs_wd_C_i_25_15 _ _ _ _ _ _ _ _) (fun S2 eS2 H locs hP hD hS => ?_)
  replace h := mq_nS_go eS2 h
  refine lv_aload_n hx hb dX8_beginWorld_18 rfl (lv_at hl 0 rfl) ?_
  refine va_get (D := D) (ci := 8) (v := .ref (a 32)) (C := RX8) (T := TX8) (N := 19) hx hb hts (zi_X8 _) hown hK hP 25 rfl rfl 12 (by decide) (hts _ (List.mem_cons_of_mem _ zt_f_X8_53)) (fun _ h9 => h9) rfl dX8_beginWorld_19 ?_
  refine lv_iconst (v := (1 : Int32)) hx hb dX8_beginWorld_22 (by decide) ?_
  refine lv_dup2_11 hx hb dX8_beginWorld_23 rfl rfl ?_
  have hi3 := mq_ck_in h
  replace h := mq_ck_go h
  refine va_iald (f := S2.2.1 21) hx hb hK hP 32 0 rfl rfl hi3 dX8_beginWorld_24 ?_
  refine lv_iconst (v := (1 : Int32)) hx hb dX8_beginWorld_25 (by decide) ?_
  refine lv_iadd hx hb dX8_beginWorld_26 ?_
  have hi4 := mq_ck_in h
  replace h := mq_ck_go h
  refine mq_iast (w := wd_C a cI cL cB cZ z) (S := S2) (f := S2.2.1 21) hx hb hK hP hD hS 32 0 rfl rfl hi4 dX8_beginWorld_27 21 (zs_wd_C_a_32_21 _ _ _ _ _ _ _ _) (fun S5 eS5 H locs hP hD hS => ?_)
  replace h := mq_nS_go eS5 h
  refine lv_aload_n hx hb dX8_beginWorld_28 rfl (lv_at hl 0 rfl) ?_
  refine va_get (D := D) (ci := 8) (v := .ref (a 32)) (C := RX8) (T := TX8) (N := 19) hx hb hts (zi_X8 _) hown hK hP 25 rfl rfl 12 (by decide) (hts _ (List.mem_cons_of_mem _ zt_f_X8_53)) (fun _ h9 => h9) rfl dX8_beginWorld_29 ?_
  refine lv_iconst (v := (3 : Int32)) hx hb dX8_beginWorld_32 (by decide) ?_
  refine lv_aload_n hx hb dX8_beginWorld_33 rfl (lv_at hl 0 rfl) ?_
  refine va_get (D := D) (ci := 8) (v := .ref (a 32)) (C := RX8) (T := TX8) (N := 19) hx hb hts (zi_X8 _) hown hK hP 25 rfl rfl 12 (by decide) (hts _ (List.mem_cons_of_mem _ zt_f_X8_53)) (fun _ h9 => h9) rfl dX8_beginWorld_34 ?_
  refine lv_iconst (v := (3 : Int32)) hx hb dX8_beginWorld_37 (by decide) ?_
  have hi6 := mq_ck_in h
  replace h := mq_ck_go h
  refine va_iald (f := S5.2.1 21) hx hb hK hP 32 0 rfl rfl hi6 dX8_beginWorld_38 ?_
  refine lv_iload_n hx hb dX8_beginWorld_39 rfl (lv_at hl 2 rfl) ?_
  refine va_mmax hx hb (hml.trans hl.1.symm) hown (hts _ (List.mem_cons_of_mem _ zt_m_X8_205)) (hts _ (List.mem_cons_of_mem _ zt_math_max_s)) (hts _ (List.mem_cons_of_mem _ zt_math_i)) (hts _ (List.mem_cons_of_mem _ zt_math_max_c)) (Nat.le_of_ble_eq_true rfl) (Nat.le_of_ble_eq_true rfl) (Nat.zero_le _) (Nat.zero_le _) dX8_beginWorld_40 ?_
  show W _ _ _ _ _ _ _ _ _ _ _ _ _ _ _ (F0 _ _ _ (.int (mq_max (S5.2.1 21 ((3 : Int32)).toNatClampNeg) v2) :: _))
  have hi7 := mq_ck_in h
  replace h := mq_ck_go h
  refine mq_iast (w := wd_C a cI cL cB cZ z) (S := S5) (f := S5.2.1 21) hx hb hK hP hD hS 32 0 rfl rfl hi7 dX8_beginWorld_43 21 (zs_wd_C_a_32_21 _ _ _ _ _ _ _ _) (fun S8 eS8 H locs hP hD hS => ?_)
  replace h := mq_nS_go eS8 h
  refine lv_aload_n hx hb dX8_beginWorld_44 rfl (lv_at hl 0 rfl) ?_
  refine va_get (D := D) (ci := 8) (v := .ref (a 35)) (C := RX8) (T := TX8) (N := 19) hx hb hts (zi_X8 _) hown hK hP 25 rfl rfl 2 (by decide) (hts _ (List.mem_cons_of_mem _ zt_f_X8_20)) (fun _ h9 => h9) rfl dX8_beginWorld_45 ?_
  refine lv_aload_n hx hb dX8_beginWorld_48 rfl (lv_at hl 0 rfl) ?_
  refine va_get (D := D) (ci := 8) (v := .int ((S8.1 16))) (C := RX8) (T := TX8) (N := 19) hx hb hts (zi_X8 _) hown hK hP 25 rfl rfl 15 (by decide) (hts _ (List.mem_cons_of_mem _ zt_f_X8_160)) (fun _ h9 => h9) rfl dX8_beginWorld_49 ?_
  refine lv_aload_n hx hb dX8_beginWorld_52 rfl (lv_at hl 0 rfl) ?_
  refine va_get (D := D) (ci := 8) (v := .ref (a 33)) (C := RX8) (T := TX8) (N := 19) hx hb hts (zi_X8 _) hown hK hP 25 rfl rfl 1 (by decide) (hts _ (List.mem_cons_of_mem _ zt_f_X8_14)) (fun _ h9 => h9) rfl dX8_beginWorld_53 ?_
  refine lv_aload_n hx hb dX8_beginWorld_56 rfl (lv_at hl 0 rfl) ?_
  refine va_get (D := D) (ci := 8) (v := .int ((S8.1 16))) (C := RX8) (T := TX8) (N := 19) hx hb hts (zi_X8 _) hown hK hP 25 rfl rfl 15 (by decide) (hts _ (List.mem_cons_of_mem _ zt_f_X8_160)) (fun _ h9 => h9) rfl dX8_beginWorld_57 ?_
  obtain ⟨q9, hc10, h⟩ := mq_cl_go h
  refine zv_X6_copy (a := mq_ad a [35, 36, 33, 34]) (z := (fun k => [300, 305].getD k 0)) [35, 36, 33, 34] C zt_m_X8_188 ⟨by decide, by decide⟩ hc10 rfl (by decide) (ws' := (wd_C a cI cL cB cZ z (mq_push S8 q9.2 [] [] [3, 2]))) (zx_wd_C_wd_SS_35_36_33_34 _ _ _ _ _ _ _ _) hP hD hS hl.1 (Nat.le_of_ble_eq_true rfl) dX8_beginWorld_60 (fun H locs hP hD hS => ?_)
  obtain ⟨S11, eS11⟩ : ∃ y, y = mq_push S8 q9.2 [] [] [3, 2] := ⟨_, rfl⟩
  replace h := mq_nS_go eS11 h
  rw [← eS11] at hP hD
  refine lv_aload_n hx hb dX8_beginWorld_63 rfl (lv_at hl 0 rfl) ?_
  refine va_get (D := D) (ci := 8) (v := .ref (a 37)) (C := RX8) (T := TX8) (N := 19) hx hb hts (zi_X8 _) hown hK hP 25 rfl rfl 3 (by decide) (hts _ (List.mem_cons_of_mem _ zt_f_X8_23)) (fun _ h9 => h9) rfl dX8_beginWorld_64 ?_
  refine lv_aload_n hx hb dX8_beginWorld_67 rfl (lv_at hl 0 rfl) ?_
  refine va_get (D := D) (ci := 8) (v := .int ((S11.1 16))) (C := RX8) (T := TX8) (N := 19) hx hb hts (zi_X8 _) hown hK hP 25 rfl rfl 15 (by decide) (hts _ (List.mem_cons_of_mem _ zt_f_X8_160)) (fun _ h9 => h9) rfl dX8_beginWorld_68 ?_
  refine lv_aload_n hx hb dX8_beginWorld_71 rfl (lv_at hl 0 rfl) ?_
  refine va_get (D := D) (ci := 8) (v := .ref (a 33)) (C := RX8) (T := TX8) (N := 19) hx hb hts (zi_X8 _) hown hK hP 25 rfl rfl 1 (by decide) (hts _ (List.mem_cons_of_mem _ zt_f_X8_14)) (fun _ h9 => h9) rfl dX8_beginWorld_72 ?_
  refine lv_aload_n hx hb dX8_beginWorld_75 rfl (lv_at hl 0 rfl) ?_
  refine va_get (D := D) (ci := 8) (v := .int ((S11.1 16))) (C := RX8) (T := TX8) (N := 19) hx hb hts (zi_X8 _) hown hK hP 25 rfl rfl 15 (by decide) (hts _ (List.mem_cons_of_mem _ zt_f_X8_160)) (fun _ h9 => h9) rfl dX8_beginWorld_76 ?_
  obtain ⟨q12, hc13, h⟩ := mq_cl_go h
  refine zv_X6_copy (a := mq_ad a [37, 38, 33, 34]) (z := (fun k => [300, 305].getD k 0)) [37, 38, 33, 34] C zt_m_X8_188 ⟨by decide, by decide⟩ hc13 rfl (by decide) (ws' := (wd_C a cI cL cB cZ z (mq_push S11 q12.2 [] [] [4, 2]))) (zx_wd_C_wd_SS_37_38_33_34 _ _ _ _ _ _ _ _) hP hD hS hl.1 (Nat.le_of_ble_eq_true rfl) dX8_beginWorld_79 (fun H locs hP hD hS => ?_)
  obtain ⟨S14, eS14⟩ : ∃ y, y = mq_push S11 q12.2 [] [] [4, 2] := ⟨_, rfl⟩
  replace h := mq_nS_go eS14 h
  rw [← eS14] at hP hD
  refine lv_aload_n hx hb dX8_beginWorld_82 rfl (lv_at hl 0 rfl) ?_
  refine va_get (D := D) (ci := 8) (v := .ref (a 26)) (C := RX8) (T := TX8) (N := 19) hx hb hts (zi_X8 _) hown hK hP 25 rfl rfl 4 (by decide) (hts _ (List.mem_cons_of_mem _ zt_f_X8_26)) (fun _ h9 => h9) rfl dX8_beginWorld_83 ?_
  refine lv_aload_n hx hb dX8_beginWorld_86 rfl (lv_at hl 0 rfl) ?_
  refine va_get (D := D) (ci := 8) (v := .int ((S14.1 16))) (C := RX8) (T := TX8) (N := 19) hx hb hts (zi_X8 _) hown hK hP 25 rfl rfl 15 (by decide) (hts _ (List.mem_cons_of_mem _ zt_f_X8_160)) (fun _ h9 => h9) rfl dX8_beginWorld_87 ?_
  refine lv_iload_n hx hb dX8_beginWorld_90 rfl (lv_at hl 1 rfl) ?_
  have hi15 := mq_ck_in h
  replace h := mq_ck_go h
  refine mq_iast (w := wd_C a cI cL cB cZ z) (S := S14) (f := S14.2.1 16) hx hb hK hP hD hS 26 0 rfl rfl hi15 dX8_beginWorld_91 16 (zs_wd_C_a_26_16 _ _ _ _ _ _ _ _) (fun S16 eS16 H locs hP hD hS => ?_)
  replace h := mq_nS_go eS16 h
  refine lv_aload_n hx hb dX8_beginWorld_92 rfl (lv_at hl 0 rfl) ?_
  refine va_get (D := D) (ci := 8) (v := .ref (a 27)) (C := RX8) (T := TX8) (N := 19) hx hb hts (zi_X8 _) hown hK hP 25 rfl rfl 5 (by decide) (hts _ (List.mem_cons_of_mem _ zt_f_X8_30)) (fun _ h9 => h9) rfl dX8_beginWorld_93 ?_
  refine lv_aload_n hx hb dX8_beginWorld_96 rfl (lv_at hl 0 rfl) ?_
  refine va_get (D := D) (ci := 8) (v := .int ((S16.1 16))) (C := RX8) (T := TX8) (N := 19) hx hb hts (zi_X8 _) hown hK hP 25 rfl rfl 15 (by decide) (hts _ (List.mem_cons_of_mem _ zt_f_X8_160)) (fun _ h9 => h9) rfl dX8_beginWorld_97 ?_
  refine lv_iload_n hx hb dX8_beginWorld_100 rfl (lv_at hl 2 rfl) ?_
  have hi17 := mq_ck_in h
  replace h := mq_ck_go h
  refine mq_iast (w := wd_C a cI cL cB cZ z) (S := S16) (f := S16.2.1 17) hx hb hK hP hD hS 27 0 rfl rfl hi17 dX8_beginWorld_101 17 (zs_wd_C_a_27_17 _ _ _ _ _ _ _ _) (fun S18 eS18 H locs hP hD hS => ?_)
  replace h := mq_nS_go eS18 h
  refine lv_aload_n hx hb dX8_beginWorld_102 rfl (lv_at hl 0 rfl) ?_
  refine va_get (D := D) (ci := 8) (v := .ref (a 28)) (C := RX8) (T := TX8) (N := 19) hx hb hts (zi_X8 _) hown hK hP 25 rfl rfl 6 (by decide) (hts _ (List.mem_cons_of_mem _ zt_f_X8_33)) (fun _ h9 => h9) rfl dX8_beginWorld_103 ?_
  refine lv_aload_n hx hb dX8_beginWorld_106 rfl (lv_at hl 0 rfl) ?_
  refine va_get (D := D) (ci := 8) (v := .int ((S18.1 16))) (C := RX8) (T := TX8) (N := 19) hx hb hts (zi_X8 _) hown hK hP 25 rfl rfl 15 (by decide) (hts _ (List.mem_cons_of_mem _ zt_f_X8_160)) (fun _ h9 => h9) rfl dX8_beginWorld_107 ?_
  refine lv_aload_n hx hb dX8_beginWorld_110 rfl (lv_at hl 0 rfl) ?_
  refine va_get (D := D) (ci := 8) (v := .int ((S18.1 14))) (C := RX8) (T := TX8) (N := 19) hx hb hts (zi_X8 _) hown hK hP 25 rfl rfl 13 (by decide) (hts _ (List.mem_cons_of_mem _ zt_f_X8_70)) (fun _ h9 => h9) rfl dX8_beginWorld_111 ?_
  have hi19 := mq_ck_in h
  replace h := mq_ck_go h
  refine mq_iast (w := wd_C a cI cL cB cZ z) (S := S18) (f := S18.2.1 18) hx hb hK hP hD hS 28 0 rfl rfl hi19 dX8_beginWorld_114 18 (zs_wd_C_a_28_18 _ _ _ _ _ _ _ _) (fun S20 eS20 H locs hP hD hS => ?_)
  replace h := mq_nS_go eS20 h
  refine lv_aload_n hx hb dX8_beginWorld_115 rfl (lv_at hl 0 rfl) ?_
  refine va_get (D := D) (ci := 8) (v := .ref (a 30)) (C := RX8) (T := TX8) (N := 19) hx hb hts (zi_X8 _) hown hK hP 25 rfl rfl 8 (by decide) (hts _ (List.mem_cons_of_mem _ zt_f_X8_39)) (fun _ h9 => h9) rfl dX8_beginWorld_116 ?_
  refine lv_aload_n hx hb dX8_beginWorld_119 rfl (lv_at hl 0 rfl) ?_
  refine va_get (D := D) (ci := 8) (v := .int ((S20.1 16))) (C := RX8) (T := TX8) (N := 19) hx hb hts (zi_X8 _) hown hK hP 25 rfl rfl 15 (by decide) (hts _ (List.mem_cons_of_mem _ zt_f_X8_160)) (fun _ h9 => h9) rfl dX8_beginWorld_120 ?_
  refine lv_lconst (v := 0) hx hb dX8_beginWorld_123 (by decide) ?_
  have hi21 := mq_ck_in h
  replace h := mq_ck_go h
  refine mq_last (w := wd_C a cI cL cB cZ z) (S := S20) (f := S20.2.2 1) hx hb hK hP hD hS 30 1 rfl rfl hi21 dX8_beginWorld_124 1 (zs_wd_C_l_30_1 _ _ _ _ _ _ _ _) (fun S22 eS22 H locs hP hD hS => ?_)
  replace h := mq_nS_go eS22 h
  refine lv_aload_n hx hb dX8_beginWorld_125 rfl (lv_at hl 0 rfl) ?_
  refine lv_aload_n hx hb dX8_beginWorld_126 rfl (lv_at hl 0 rfl) ?_
  refine va_get (D := D) (ci := 8) (v := .ref (a 35)) (C := RX8) (T := TX8) (N := 19) hx hb hts (zi_X8 _) hown hK hP 25 rfl rfl 2 (by decide) (hts _ (List.mem_cons_of_mem _ zt_f_X8_20)) (fun _ h9 => h9) rfl dX8_beginWorld_127 ?_
  refine lv_aload_n hx hb dX8_beginWorld_130 rfl (lv_at hl 0 rfl) ?_
  refine va_get (D := D) (ci := 8) (v := .int ((S22.1 16))) (C := RX8) (T := TX8) (N := 19) hx hb hts (zi_X8 _) hown hK hP 25 rfl rfl 15 (by decide) (hts _ (List.mem_cons_of_mem _ zt_f_X8_160)) (fun _ h9 => h9) rfl dX8_beginWorld_131 ?_
  refine lv_iconst (v := (1 : Int32)) hx hb dX8_beginWorld_134 (by decide) ?_
  obtain ⟨q23, hc24, h⟩ := mq_cp_go h
  refine zv_X6_has (a := mq_ad a [35, 36]) (z := (fun k => [300].getD k 0)) [35, 36] C zt_m_X8_121 ⟨by decide, by decide⟩ hc24 rfl (by decide) hP hD hS hl.1 (Nat.le_of_ble_eq_true rfl) dX8_beginWorld_135 (fun H locs hP hD hS => ?_)
  refine lv_if_eq (tgt := 145) hx hb dX8_beginWorld_138 (by decide) (fun c25 => ?_) (fun c25 => ?_)
  · replace h := mq_it c25 h
    refine lv_iconst (v := (-1 : Int32)) hx hb dX8_beginWorld_145 (by decide) ?_
    exact zw_X8_beginWorld_146 C hret ((-1 : Int32)) S22 H locs ls h (lv_sub hl [] rfl) hP hD hS
  · replace h := mq_if c25 h
    refine lv_iconst (v := (1 : Int32)) hx hb dX8_beginWorld_141 (by decide) ?_
    refine lv_goto (tgt := 146) hx hb dX8_beginWorld_142 (by decide) ?_
    exact zw_X8_beginWorld_146 C hret ((1 : Int32)) S22 H locs ls h (lv_sub hl [] rfl) hP hD hS
set_option maxHeartbeats 4000000 in
set_option maxRecDepth 100000 in
theorem zm_X8_beginWorld (l : Launch) (D : va_G) (a z : Nat → Nat) (cI cL cB cZ : ClassId) (sz N : Nat) (v1 : Int32) (v2 : Int32) (S : mq_St) (res : Unit × mq_St) (h : zf_X8_beginWorld N z v1 v2 S = some res) : Met l yX8_beginWorld (zc_X8_beginWorld :: mq_T) zr_X8_beginWorld (va_Pc [.ref (a 25), .int (v1), .int (v2)] (fun U => U.heap.size = sz ∧ va_P D vwCl (wd_C a cI cL cB cZ z S) U.heap ∧ va_K D vwCl (mq_tys cI cL cB cZ) U ∧ va_D (fun _ => True) (wd_C a cI cL cB cZ z S))) (va_Qv (fun u : mq_St => u = res.2) (fun u t => va_P D vwCl (wd_C a cI cL cB cZ z u) t.heap ∧ va_K D vwCl (mq_tys cI cL cB cZ) t ∧ va_D (va_A (wd_C a cI cL cB cZ z S) sz) (wd_C a cI cL cB cZ z u)) (va_A (wd_C a cI cL cB cZ z S) sz)) 0 0 (va_A (wd_C a cI cL cB cZ z S) sz) := by
  refine Met.ofW (cc := cX8_beginWorld) (maxL := 3) (ret := none) (by decide) rfl ?_
  intro p e s m args below meth c s₁ B hml hv
  obtain ⟨rfl, hsz, hP, hK, hD0⟩ := hv
  have hr := B.returns
  have hlocks := B.notSynchronized
  have hts := atoms_spec (ws := zc_X8_beginWorld :: mq_T) B.pre
  have hown : s.vm.findClass RX8 = some m.cls := findClass_of_methodNamed B.named
  subst hsz
  have hD := hD0.self (sz := s.heap.size)
  generalize hAe : va_A (wd_C a cI cL cB cZ z S) s.heap.size = A at hD ⊢
  have hA : ∀ q : Nat, s.heap.size ≤ q → A q := fun q h => by rw [← hAe]; exact Or.inr h
  have hl := lv_entry ([.ref (a 25), .int (v1), .int (v2)]) (n := 3) (Nat.le_of_ble_eq_true rfl)
  rw [lg_entry_eq]
  generalize (lg_sl ([.ref (a 25), .int (v1), .int (v2)]) ++ List.replicate (3 - (lg_sl ([.ref (a 25), .int (v1), .int (v2)])).length) Slot.unset).toArray = ls at hl ⊢
  have hl : lv_has ls 3 [(0, .ref (a 25)), (1, .int (v1)), (2, .int (v2))] := hl
  refine zw_X8_beginWorld_0 (A := A) ⟨B.exec, B.bytes, hml, hown, hts, hK, hA⟩ (fun H locs ls pc dg hP hD hS => ?_) v1 v2 S s.heap [] ls h hl hP hD va_S.rf
  exact W.vret B.exec B.bytes hr (fun t ht hW => ⟨⟨_, rfl, rfl, by rw [ht]; exact hP, va_K.moved hW.alike hK, hD⟩, hS.F ht⟩) hS.2.2 dg
theorem zt_X8_beginWorld_c : zc_X8_beginWorld ∈ mq_T := mq_T_mem (mq_t4 (List.mem_of_getElem? (i := 16) rfl)) rfl
theorem zt_X8_beginWorld_i : Cond.instanceMethod yX8_beginWorld ∈ mq_T := mq_T_mem (mq_t4 (List.mem_of_getElem? (i := 15) rfl)) rfl
theorem zt_X8_beginWorld_s : Cond.selects RX8 yX8_beginWorld yX8_beginWorld ∈ mq_T := mq_T_at 35 (by decide +kernel)
set_option maxHeartbeats 4000000 in
theorem zk_X8_beginWorld {p : Program} {l : Launch} {e : Env} {R : Room} {s : State} {m : MethodId} {args : Array Value} {below : List Frame} {meth : Method} {c : Code} {A : Nat → Prop} {D : va_G} {a z : Nat → Nat} {cI cL cB cZ : ClassId} {Q : State → Prop} {cc : ByteArray} {nL idx pc N : Nat} {own : String} {c1 : Cond} {H : Heap} {locs : List Loc} {ls : Array Slot} {rest : List Value} {S : mq_St} {res : Unit × mq_St} {v1 : Int32} {v2 : Int32} (C : mq_C p s m args c A D cI cL cB cZ cc nL own c1) (hlk : Cond.methodLink own idx yX8_beginWorld ∈ mq_T) (hR : zr_X8_beginWorld.frames + 1 ≤ R.frames ∧ 8 + (3 + 11) + zr_X8_beginWorld.locals ≤ R.locals) (h : zf_X8_beginWorld N z v1 v2 S = some res) (hP : va_P D vwCl (wd_C a cI cL cB cZ z S) H) (hD : va_D A (wd_C a cI cL cB cZ z S)) (hS : va_S A s.heap H locs) (hls : ls.size = nL) (hrest : (rest.map fun v => v.category).sum ≤ 8) (hdg : decode cc pc = .ok (.invokevirtual idx, 3)) (kk : ∀ (H1 : Heap) (locs1 : List Loc), va_P D vwCl (wd_C a cI cL cB cZ z res.2) H1 → va_D A (wd_C a cI cL cB cZ z res.2) → va_S A s.heap H1 locs1 → W p l e R s m args below meth c H1 locs1 0 0 Q (F0 m (pc + 3) ls rest)) : W p l e R s m args below meth c H locs 0 0 Q (F0 m pc ls (.int (v2) :: .int (v1) :: .ref (a 25) :: rest)) := by
  obtain ⟨hx, hb, hml, hown, hts, hK, hA⟩ := C
  have hFc := mq_freeI hD hS hA
  refine va_callv (va_runV (As := [.int (v1), .int (v2)]) (rest := rest) ⟨hx, hb, hml, hown, hts⟩ (zm_X8_beginWorld l D a z cI cL cB cZ H.size N v1 v2 S res h) (cwV 2 hts (mq_goodL (mq_wsV hlk zt_X8_beginWorld_i zt_X8_beginWorld_s zt_ini_X8 zt_X8_beginWorld_c)) rfl rfl rfl (by decide +kernel) hR) ⟨fun a U g mk q => ⟨q.1, q.2.1, q.2.2.1, va_K.moved (u := U) (U := U.calling g mk a) (Vm.Alike.refl U.vm) q.2.2.2.1, q.2.2.2.2⟩, zy_C_25 hK hP, fun U hU hW => ⟨rfl, by rw [hU], by rw [hU]; exact hP, va_K.moved hW.alike hK, hD.weaken (fun _ _ _ _ => trivial)⟩⟩ rfl rfl hls rfl (lv_room hrest) hdg ⟨Nat.zero_le _, Nat.zero_le _⟩) hS (fun q _ h => hFc q h) hFc (fun u t H1 locs ht hvm hw hB hz1 hk1 hS => ?_)
  subst hw
  obtain ⟨hP1, hK1, hD1⟩ := hB
  rw [ht] at hP1
  exact kk H1 locs hP1 (hD1.weaken (fun _ _ _ h => hFc _ h)) hS
/-! ModalDesk$Tableau.countOf(I)I -/
def zr_X8_countOf : Room := { frames := 0, cells := 0, slots := 0, locals := 0 }
def zc_X8_countOf : Cond := .code yX8_countOf cX8_countOf 2 (some .int)
def zf_X8_countOf (N : Nat) (z : Nat → Nat) (v1 : Int32) (S : mq_St) : Option (Int32) := (if v1 < (0 : Int32) then (some ((-1 : Int32))) else (if (4 : Int32) ≤ v1 then (some ((-1 : Int32))) else (mq_ck (v1) 4 (some ((S.2.1 21 (v1).toNatClampNeg))))))
set_option maxHeartbeats 4000000 in
set_option maxRecDepth 100000 in
theorem zw_X8_countOf_0 {p : Program} {l : Launch} {e : Env} {s : State} {m : MethodId} {args : Array Value} {below : List Frame} {meth : Method} {c : Code} {A : Nat → Prop} {D : va_G} {a z : Nat → Nat} {cI cL cB cZ : ClassId} {Q : State → Prop} {N : Nat} {S : mq_St} {res : Int32} (C : mq_C p s m args c A D cI cL cB cZ cX8_countOf 2 RX8 zc_X8_countOf) (hret : ∀ (H : Heap) (locs : List Loc) (ls : Array Slot) (pc : Nat), decode cX8_countOf pc = .ok (.ireturn, 1) → va_P D vwCl (wd_C a cI cL cB cZ z S) H → va_D A (wd_C a cI cL cB cZ z S) → va_S A s.heap H locs → W p l e zr_X8_countOf s m args below meth c H locs 0 0 Q (F0 m pc ls [.int res])) (v1 : Int32) (H : Heap) (locs : List Loc) (ls : Array Slot) (h : zf_X8_countOf N z v1 S = some res) (hl : lv_has ls 2 [(0, .ref (a 25)), (1, .int (v1))]) (hP : va_P D vwCl (wd_C a cI cL cB cZ z S) H) (hD : va_D A (wd_C a cI cL cB cZ z S)) (hS : va_S A s.heap H locs) : W p l e zr_X8_countOf s m args below meth c H locs 0 0 Q (F0 m 0 ls []) := by
  obtain ⟨hx, hb, hml, hown, hts, hK, hA⟩ := id C
  unfold zf_X8_countOf at h
  refine lv_iload_n hx hb dX8_countOf_0 rfl (lv_at hl 1 rfl) ?_
  refine lv_if_lt (tgt := 18) hx hb dX8_countOf_1 (by decide) (fun c3 => ?_) (fun c3 => ?_)
  · replace h := mq_it c3 h
    refine lv_iconst (v := (-1 : Int32)) hx hb dX8_countOf_18 (by decide) ?_
    cases h
    exact hret H locs ls 19 dX8_countOf_19 hP hD hS
  · replace h := mq_if c3 h
    refine lv_iload_n hx hb dX8_countOf_4 rfl (lv_at hl 1 rfl) ?_
    refine lv_iconst (v := (4 : Int32)) hx hb dX8_countOf_5 (by decide) ?_
    refine lv_icmp_ge (tgt := 18) hx hb dX8_countOf_6 (by decide) (fun c2 => ?_) (fun c2 => ?_)
    · replace h := mq_it c2 h
      refine lv_iconst (v := (-1 : Int32)) hx hb dX8_countOf_18 (by decide) ?_
      cases h
      exact hret H locs ls 19 dX8_countOf_19 hP hD hS
    · replace h := mq_if c2 h
      refine lv_aload_n hx hb dX8_countOf_9 rfl (lv_at hl 0 rfl) ?_
      refine va_get (D := D) (ci := 8) (v := .ref (a 32)) (C := RX8) (T := TX8) (N := 19) hx hb hts (zi_X8 _) hown hK hP 25 rfl rfl 12 (by decide) (hts _ (List.mem_cons_of_mem _ zt_f_X8_53)) (fun _ h9 => h9) rfl dX8_countOf_10 ?_
      refine lv_iload_n hx hb dX8_countOf_13 rfl (lv_at hl 1 rfl) ?_
      have hi1 := mq_ck_in h
      replace h := mq_ck_go h
      refine va_iald (f := S.2.1 21) hx hb hK hP 32 0 rfl rfl hi1 dX8_countOf_14 ?_
      refine lv_goto (tgt := 19) hx hb dX8_countOf_15 (by decide) ?_
      cases h
      exact hret H locs ls 19 dX8_countOf_19 hP hD hS
set_option maxHeartbeats 4000000 in
set_option maxRecDepth 100000 in
theorem zm_X8_countOf (l : Launch) (D : va_G) (a z : Nat → Nat) (cI cL cB cZ : ClassId) (sz N : Nat) (v1 : Int32) (S : mq_St) (res : Int32) (h : zf_X8_countOf N z v1 S = some res) : Met l yX8_countOf (zc_X8_countOf :: mq_T) zr_X8_countOf (va_Pc [.ref (a 25), .int (v1)] (fun U => U.heap.size = sz ∧ va_P D vwCl (wd_C a cI cL cB cZ z S) U.heap ∧ va_K D vwCl (mq_tys cI cL cB cZ) U ∧ va_D (fun _ => True) (wd_C a cI cL cB cZ z S))) (va_Qi (fun (r : Int32) (u : mq_St) => r = res ∧ u = S) (fun u t => va_P D vwCl (wd_C a cI cL cB cZ z u) t.heap ∧ va_K D vwCl (mq_tys cI cL cB cZ) t ∧ va_D (va_A (wd_C a cI cL cB cZ z S) sz) (wd_C a cI cL cB cZ z u)) (va_A (wd_C a cI cL cB cZ z S) sz)) 0 0 (va_A (wd_C a cI cL cB cZ z S) sz) := by
  refine Met.ofW (cc := cX8_countOf) (maxL := 2) (ret := (some .int)) (by decide) rfl ?_
  intro p e s m args below meth c s₁ B hml hv
  obtain ⟨rfl, hsz, hP, hK, hD0⟩ := hv
  have hr := B.returns
  have hlocks := B.notSynchronized
  have hts := atoms_spec (ws := zc_X8_countOf :: mq_T) B.pre
  have hown : s.vm.findClass RX8 = some m.cls := findClass_of_methodNamed B.named
  subst hsz
  have hD := hD0.self (sz := s.heap.size)
  generalize hAe : va_A (wd_C a cI cL cB cZ z S) s.heap.size = A at hD ⊢
  have hA : ∀ q : Nat, s.heap.size ≤ q → A q := fun q h => by rw [← hAe]; exact Or.inr h
  have hl := lv_entry ([.ref (a 25), .int (v1)]) (n := 2) (Nat.le_of_ble_eq_true rfl)
  rw [lg_entry_eq]
  generalize (lg_sl ([.ref (a 25), .int (v1)]) ++ List.replicate (2 - (lg_sl ([.ref (a 25), .int (v1)])).length) Slot.unset).toArray = ls at hl ⊢
  have hl : lv_has ls 2 [(0, .ref (a 25)), (1, .int (v1))] := hl
  refine zw_X8_countOf_0 (A := A) ⟨B.exec, B.bytes, hml, hown, hts, hK, hA⟩ (fun H locs ls pc dg hP hD hS => ?_) v1 s.heap [] ls h hl hP hD va_S.rf
  exact W.iret B.exec B.bytes hr (fun t ht hW => ⟨⟨_, _, rfl, ⟨rfl, rfl⟩, by rw [ht]; exact hP, va_K.moved hW.alike hK, hD⟩, hS.F ht⟩) hS.2.2 dg
theorem zt_X8_countOf_c : zc_X8_countOf ∈ mq_T := mq_T_mem (mq_t4 (List.mem_of_getElem? (i := 175) rfl)) rfl
theorem zt_X8_countOf_i : Cond.instanceMethod yX8_countOf ∈ mq_T := mq_T_mem (mq_t4 (List.mem_of_getElem? (i := 173) rfl)) rfl
theorem zt_X8_countOf_s : Cond.selects RX8 yX8_countOf yX8_countOf ∈ mq_T := mq_T_mem (mq_t4 (List.mem_of_getElem? (i := 174) rfl)) rfl
set_option maxHeartbeats 4000000 in
theorem zk_X8_countOf {p : Program} {l : Launch} {e : Env} {R : Room} {s : State} {m : MethodId} {args : Array Value} {below : List Frame} {meth : Method} {c : Code} {A : Nat → Prop} {D : va_G} {a z : Nat → Nat} {cI cL cB cZ : ClassId} {Q : State → Prop} {cc : ByteArray} {nL idx pc N : Nat} {own : String} {c1 : Cond} {H : Heap} {locs : List Loc} {ls : Array Slot} {rest : List Value} {S : mq_St} {res : Int32} {v1 : Int32} (C : mq_C p s m args c A D cI cL cB cZ cc nL own c1) (hlk : Cond.methodLink own idx yX8_countOf ∈ mq_T) (hR : zr_X8_countOf.frames + 1 ≤ R.frames ∧ 8 + (2 + 11) + zr_X8_countOf.locals ≤ R.locals) (h : zf_X8_countOf N z v1 S = some res) (hP : va_P D vwCl (wd_C a cI cL cB cZ z S) H) (hD : va_D A (wd_C a cI cL cB cZ z S)) (hS : va_S A s.heap H locs) (hls : ls.size = nL) (hrest : (rest.map fun v => v.category).sum ≤ 8) (hdg : decode cc pc = .ok (.invokevirtual idx, 3)) (kk : ∀ (H1 : Heap) (locs1 : List Loc), va_P D vwCl (wd_C a cI cL cB cZ z S) H1 → va_D A (wd_C a cI cL cB cZ z S) → va_S A s.heap H1 locs1 → W p l e R s m args below meth c H1 locs1 0 0 Q (F0 m (pc + 3) ls (.int res :: rest))) : W p l e R s m args below meth c H locs 0 0 Q (F0 m pc ls (.int (v1) :: .ref (a 25) :: rest)) := by
  obtain ⟨hx, hb, hml, hown, hts, hK, hA⟩ := C
  have hFc := mq_freeI hD hS hA
  refine va_calli (va_runV (As := [.int (v1)]) (rest := rest) ⟨hx, hb, hml, hown, hts⟩ (zm_X8_countOf l D a z cI cL cB cZ H.size N v1 S res h) (cwV 1 hts (mq_goodL (mq_wsV hlk zt_X8_countOf_i zt_X8_countOf_s zt_ini_X8 zt_X8_countOf_c)) rfl rfl rfl (by decide +kernel) hR) ⟨fun a U g mk q => ⟨q.1, q.2.1, q.2.2.1, va_K.moved (u := U) (U := U.calling g mk a) (Vm.Alike.refl U.vm) q.2.2.2.1, q.2.2.2.2⟩, zy_C_25 hK hP, fun U hU hW => ⟨rfl, by rw [hU], by rw [hU]; exact hP, va_K.moved hW.alike hK, hD.weaken (fun _ _ _ _ => trivial)⟩⟩ rfl rfl hls rfl (lv_room hrest) hdg ⟨Nat.zero_le _, Nat.zero_le _⟩) hS (fun q _ h => hFc q h) hFc (fun r u t H1 locs ht hvm hw hB hz1 hk1 hS => ?_)
  obtain ⟨rfl, rfl⟩ := hw
  obtain ⟨hP1, hK1, hD1⟩ := hB
  rw [ht] at hP1
  exact kk H1 locs hP1 (hD1.weaken (fun _ _ _ h => hFc _ h)) hS
theorem zx_wd_C_wd_SS_33_34_35_36 (a z : Nat → Nat) (cI cL cB cZ : ClassId) (S X : mq_St) : mq_setM (wd_C a cI cL cB cZ z S) [33, 34, 35, 36] (wd_SS (mq_ad a [33, 34, 35, 36]) cI cL cB cZ (fun k => [305, 300].getD k 0) X) = (wd_C a cI cL cB cZ z (mq_push S X [] [] [2, 3])) := rfl
theorem zt_m_X8_156 : Cond.methodLink RX8 156 yX7_bySort ∈ mq_T := mq_T_mem (mq_t4 (List.mem_of_getElem? (i := 67) rfl)) rfl
theorem zt_m_X8_199 : Cond.methodLink RX8 199 yX6_meet ∈ mq_T := mq_T_mem (mq_t4 (List.mem_of_getElem? (i := 104) rfl)) rfl
theorem zx_wd_C_wd_SS_33_34_12_13 (a z : Nat → Nat) (cI cL cB cZ : ClassId) (S X : mq_St) : mq_setM (wd_C a cI cL cB cZ z S) [33, 34, 12, 13] (wd_SS (mq_ad a [33, 34, 12, 13]) cI cL cB cZ (fun k => [305, 40].getD k 0) X) = (wd_C a cI cL cB cZ z (mq_push S X [] [] [2, 0])) := rfl
theorem zx_wd_C_wd_S_33_34 (a z : Nat → Nat) (cI cL cB cZ : ClassId) (S X : mq_St) : mq_setM (wd_C a cI cL cB cZ z S) [33, 34] (wd_S (mq_ad a [33, 34]) cI cL cB cZ (fun k => [305].getD k 0) X) = (wd_C a cI cL cB cZ z (mq_push S X [] [] [2])) := rfl
/-! ModalDesk$Tableau.drawStart(I)V -/
def zr_X8_drawStart : Room := { frames := 2, cells := 0, slots := 0, locals := 47 }
def zc_X8_drawStart : Cond := .code yX8_drawStart cX8_drawStart 2 none
def zf_X8_drawStart (N : Nat) (z : Nat → Nat) (v1 : Int32) (S : mq_St) : Option (Unit × mq_St) := (mq_cl (zf_X6_copy N (fun k => [305, 300].getD k 0) ((S.1 15)) ((S.1 16)) (mq_pull S [] [] [2, 3])) (fun q1v q1s => mq_nS (mq_push S q1s [] [] [2, 3]) (fun S3 => (mq_cp (zf_X7_bySort N z S3) (fun q4 => (mq_cl (zf_X6_meet N (fun k => [305, 40].getD k 0) ((S3.1 15)) ((6 : Int32)) (mq_pull S3 [] [] [2, 0])) (fun q6v q6s => mq_nS (mq_push S3 q6s [] [] [2, 0]) (fun S8 => (mq_cl (zf_X6_put N (fun k => [305].getD k 0) ((S8.1 15)) (v1) (mq_pull S8 [] [] [2])) (fun q9v q9s => mq_nS (mq_push S8 q9s [] [] [2]) (fun S11 => (some ((), S11)))))))))))))
set_option maxHeartbeats 4000000 in
set_option maxRecDepth 100000 in
theorem zw_X8_drawStart_0 {p : Program} {l : Launch} {e : Env} {s : State} {m : MethodId} {args : Array Value} {below : List Frame} {meth : Method} {c : Code} {A : Nat → Prop} {D : va_G} {a z : Nat → Nat} {cI cL cB cZ : ClassId} {Q : State → Prop} {N : Nat} {res : Unit × mq_St} (C : mq_C p s m args c A D cI cL cB cZ cX8_drawStart 2 RX8 zc_X8_drawStart) (hret : ∀ (H : Heap) (locs : List Loc) (ls : Array Slot) (pc : Nat), decode cX8_drawStart pc = .ok (.return_, 1) → va_P D vwCl (wd_C a cI cL cB cZ z res.2) H → va_D A (wd_C a cI cL cB cZ z res.2) → va_S A s.heap H locs → W p l e zr_X8_drawStart s m args below meth c H locs 0 0 Q (F0 m pc ls [])) (v1 : Int32) (S : mq_St) (H : Heap) (locs : List Loc) (ls : Array Slot) (h : zf_X8_drawStart N z v1 S = some res) (hl : lv_has ls 2 [(0, .ref (a 25)), (1, .int (v1))]) (hP : va_P D vwCl (wd_C a cI cL cB cZ z S) H) (hD : va_D A (wd_C a cI cL cB cZ z S)) (hS : va_S A s.heap H locs) : W p l e zr_X8_drawStart s m args below meth c H locs 0 0 Q (F0 m 0 ls []) := by
  obtain ⟨hx, hb, hml, hown, hts, hK, hA⟩ := id C
  unfold zf_X8_drawStart at h
  refine lv_aload_n hx hb dX8_drawStart_0 rfl (lv_at hl 0 rfl) ?_
  refine va_get (D := D) (ci := 8) (v := .ref (a 33)) (C := RX8) (T := TX8) (N := 19) hx hb hts (zi_X8 _) hown hK hP 25 rfl rfl 1 (by decide) (hts _ (List.mem_cons_of_mem _ zt_f_X8_14)) (fun _ h9 => h9) rfl dX8_drawStart_1 ?_
  refine lv_aload_n hx hb dX8_drawStart_4 rfl (lv_at hl 0 rfl) ?_
  refine va_get (D := D) (ci := 8) (v := .int ((S.1 15))) (C := RX8) (T := TX8) (N := 19) hx hb hts (zi_X8 _) hown hK hP 25 rfl rfl 14 (by decide) (hts _ (List.mem_cons_of_mem _ zt_f_X8_73)) (fun _ h9 => h9) rfl dX8_drawStart_5 ?_
  refine lv_aload_n hx hb dX8_drawStart_8 rfl (lv_at hl 0 rfl) ?_
  refine va_get (D := D) (ci := 8) (v := .ref (a 35)) (C := RX8) (T := TX8) (N := 19) hx hb hts (zi_X8 _) hown hK hP 25 rfl rfl 2 (by decide) (hts _ (List.mem_cons_of_mem _ zt_f_X8_20)) (fun _ h9 => h9) rfl dX8_drawStart_9 ?_
  refine lv_aload_n hx hb dX8_drawStart_12 rfl (lv_at hl 0 rfl) ?_
  refine va_get (D := D) (ci := 8) (v := .int ((S.1 16))) (C := RX8) (T := TX8) (N := 19) hx hb hts (zi_X8 _) hown hK hP 25 rfl rfl 15 (by decide) (hts _ (List.mem_cons_of_mem _ zt_f_X8_160)) (fun _ h9 => h9) rfl dX8_drawStart_13 ?_
  obtain ⟨q1, hc2, h⟩ := mq_cl_go h
  refine zv_X6_copy (a := mq_ad a [33, 34, 35, 36]) (z := (fun k => [305, 300].getD k 0)) [33, 34, 35, 36] C zt_m_X8_188 ⟨by decide, by decide⟩ hc2 rfl (by decide) (ws' := (wd_C a cI cL cB cZ z (mq_push S q1.2 [] [] [2, 3]))) (zx_wd_C_wd_SS_33_34_35_36 _ _ _ _ _ _ _ _) hP hD hS hl.1 (Nat.le_of_ble_eq_true rfl) dX8_drawStart_16 (fun H locs hP hD hS => ?_)
  obtain ⟨S3, eS3⟩ : ∃ y, y = mq_push S q1.2 [] [] [2, 3] := ⟨_, rfl⟩
  replace h := mq_nS_go eS3 h
  rw [← eS3] at hP hD
  refine lv_aload_n hx hb dX8_drawStart_19 rfl (lv_at hl 0 rfl) ?_
  refine va_get (D := D) (ci := 8) (v := .ref (a 33)) (C := RX8) (T := TX8) (N := 19) hx hb hts (zi_X8 _) hown hK hP 25 rfl rfl 1 (by decide) (hts _ (List.mem_cons_of_mem _ zt_f_X8_14)) (fun _ h9 => h9) rfl dX8_drawStart_20 ?_
  refine lv_aload_n hx hb dX8_drawStart_23 rfl (lv_at hl 0 rfl) ?_
  refine va_get (D := D) (ci := 8) (v := .int ((S3.1 15))) (C := RX8) (T := TX8) (N := 19) hx hb hts (zi_X8 _) hown hK hP 25 rfl rfl 14 (by decide) (hts _ (List.mem_cons_of_mem _ zt_f_X8_73)) (fun _ h9 => h9) rfl dX8_drawStart_24 ?_
  refine lv_aload_n hx hb dX8_drawStart_27 rfl (lv_at hl 0 rfl) ?_
  refine va_get (D := D) (ci := 8) (v := .ref (a 7)) (C := RX8) (T := TX8) (N := 19) hx hb hts (zi_X8 _) hown hK hP 25 rfl rfl 0 (by decide) (hts _ (List.mem_cons_of_mem _ zt_f_X8_56)) (fun _ h9 => h9) rfl dX8_drawStart_28 ?_
  obtain ⟨q4, hc5, h⟩ := mq_cp_go h
  refine zk_X7_bySort C zt_m_X8_156 ⟨by decide, by decide⟩ hc5 hP hD hS hl.1 (Nat.le_of_ble_eq_true rfl) dX8_drawStart_31 (fun H locs hP hD hS => ?_)
  refine lv_bipush (v := (6 : Int32)) hx hb dX8_drawStart_34 (by decide) ?_
  obtain ⟨q6, hc7, h⟩ := mq_cl_go h
  refine zv_X6_meet (a := mq_ad a [33, 34, 12, 13]) (z := (fun k => [305, 40].getD k 0)) [33, 34, 12, 13] C zt_m_X8_199 ⟨by decide, by decide⟩ hc7 rfl (by decide) (ws' := (wd_C a cI cL cB cZ z (mq_push S3 q6.2 [] [] [2, 0]))) (zx_wd_C_wd_SS_33_34_12_13 _ _ _ _ _ _ _ _) hP hD hS hl.1 (Nat.le_of_ble_eq_true rfl) dX8_drawStart_36 (fun H locs hP hD hS => ?_)
  obtain ⟨S8, eS8⟩ : ∃ y, y = mq_push S3 q6.2 [] [] [2, 0] := ⟨_, rfl⟩
  replace h := mq_nS_go eS8 h
  rw [← eS8] at hP hD
  refine lv_aload_n hx hb dX8_drawStart_39 rfl (lv_at hl 0 rfl) ?_
  refine va_get (D := D) (ci := 8) (v := .ref (a 33)) (C := RX8) (T := TX8) (N := 19) hx hb hts (zi_X8 _) hown hK hP 25 rfl rfl 1 (by decide) (hts _ (List.mem_cons_of_mem _ zt_f_X8_14)) (fun _ h9 => h9) rfl dX8_drawStart_40 ?_
  refine lv_aload_n hx hb dX8_drawStart_43 rfl (lv_at hl 0 rfl) ?_
  refine va_get (D := D) (ci := 8) (v := .int ((S8.1 15))) (C := RX8) (T := TX8) (N := 19) hx hb hts (zi_X8 _) hown hK hP 25 rfl rfl 14 (by decide) (hts _ (List.mem_cons_of_mem _ zt_f_X8_73)) (fun _ h9 => h9) rfl dX8_drawStart_44 ?_
  refine lv_iload_n hx hb dX8_drawStart_47 rfl (lv_at hl 1 rfl) ?_
  obtain ⟨q9, hc10, h⟩ := mq_cl_go h
  refine zv_X6_put (a := mq_ad a [33, 34]) (z := (fun k => [305].getD k 0)) [33, 34] C zt_m_X8_82 ⟨by decide, by decide⟩ hc10 rfl (by decide) (ws' := (wd_C a cI cL cB cZ z (mq_push S8 q9.2 [] [] [2]))) (zx_wd_C_wd_S_33_34 _ _ _ _ _ _ _ _) hP hD hS hl.1 (Nat.le_of_ble_eq_true rfl) dX8_drawStart_48 (fun H locs hP hD hS => ?_)
  obtain ⟨S11, eS11⟩ : ∃ y, y = mq_push S8 q9.2 [] [] [2] := ⟨_, rfl⟩
  replace h := mq_nS_go eS11 h
  rw [← eS11] at hP hD
  cases h
  exact hret H locs ls 51 dX8_drawStart_51 hP hD hS
set_option maxHeartbeats 4000000 in
set_option maxRecDepth 100000 in
theorem zm_X8_drawStart (l : Launch) (D : va_G) (a z : Nat → Nat) (cI cL cB cZ : ClassId) (sz N : Nat) (v1 : Int32) (S : mq_St) (res : Unit × mq_St) (h : zf_X8_drawStart N z v1 S = some res) : Met l yX8_drawStart (zc_X8_drawStart :: mq_T) zr_X8_drawStart (va_Pc [.ref (a 25), .int (v1)] (fun U => U.heap.size = sz ∧ va_P D vwCl (wd_C a cI cL cB cZ z S) U.heap ∧ va_K D vwCl (mq_tys cI cL cB cZ) U ∧ va_D (fun _ => True) (wd_C a cI cL cB cZ z S))) (va_Qv (fun u : mq_St => u = res.2) (fun u t => va_P D vwCl (wd_C a cI cL cB cZ z u) t.heap ∧ va_K D vwCl (mq_tys cI cL cB cZ) t ∧ va_D (va_A (wd_C a cI cL cB cZ z S) sz) (wd_C a cI cL cB cZ z u)) (va_A (wd_C a cI cL cB cZ z S) sz)) 0 0 (va_A (wd_C a cI cL cB cZ z S) sz) := by
  refine Met.ofW (cc := cX8_drawStart) (maxL := 2) (ret := none) (by decide) rfl ?_
  intro p e s m args below meth c s₁ B hml hv
  obtain ⟨rfl, hsz, hP, hK, hD0⟩ := hv
  have hr := B.returns
  have hlocks := B.notSynchronized
  have hts := atoms_spec (ws := zc_X8_drawStart :: mq_T) B.pre
  have hown : s.vm.findClass RX8 = some m.cls := findClass_of_methodNamed B.named
  subst hsz
  have hD := hD0.self (sz := s.heap.size)
  generalize hAe : va_A (wd_C a cI cL cB cZ z S) s.heap.size = A at hD ⊢
  have hA : ∀ q : Nat, s.heap.size ≤ q → A q := fun q h => by rw [← hAe]; exact Or.inr h
  have hl := lv_entry ([.ref (a 25), .int (v1)]) (n := 2) (Nat.le_of_ble_eq_true rfl)
  rw [lg_entry_eq]
  generalize (lg_sl ([.ref (a 25), .int (v1)]) ++ List.replicate (2 - (lg_sl ([.ref (a 25), .int (v1)])).length) Slot.unset).toArray = ls at hl ⊢
  have hl : lv_has ls 2 [(0, .ref (a 25)), (1, .int (v1))] := hl
  refine zw_X8_drawStart_0 (A := A) ⟨B.exec, B.bytes, hml, hown, hts, hK, hA⟩ (fun H locs ls pc dg hP hD hS => ?_) v1 S s.heap [] ls h hl hP hD va_S.rf
  exact W.vret B.exec B.bytes hr (fun t ht hW => ⟨⟨_, rfl, rfl, by rw [ht]; exact hP, va_K.moved hW.alike hK, hD⟩, hS.F ht⟩) hS.2.2 dg
theorem zt_X8_drawStart_c : zc_X8_drawStart ∈ mq_T := mq_T_mem (mq_t4 (List.mem_of_getElem? (i := 103) rfl)) rfl
theorem zt_X8_drawStart_i : Cond.instanceMethod yX8_drawStart ∈ mq_T := mq_T_mem (mq_t4 (List.mem_of_getElem? (i := 102) rfl)) rfl
theorem zt_X8_drawStart_s : Cond.selects RX8 yX8_drawStart yX8_drawStart ∈ mq_T := mq_T_at 48 (by decide +kernel)
set_option maxHeartbeats 4000000 in
theorem zk_X8_drawStart {p : Program} {l : Launch} {e : Env} {R : Room} {s : State} {m : MethodId} {args : Array Value} {below : List Frame} {meth : Method} {c : Code} {A : Nat → Prop} {D : va_G} {a z : Nat → Nat} {cI cL cB cZ : ClassId} {Q : State → Prop} {cc : ByteArray} {nL idx pc N : Nat} {own : String} {c1 : Cond} {H : Heap} {locs : List Loc} {ls : Array Slot} {rest : List Value} {S : mq_St} {res : Unit × mq_St} {v1 : Int32} (C : mq_C p s m args c A D cI cL cB cZ cc nL own c1) (hlk : Cond.methodLink own idx yX8_drawStart ∈ mq_T) (hR : zr_X8_drawStart.frames + 1 ≤ R.frames ∧ 8 + (2 + 11) + zr_X8_drawStart.locals ≤ R.locals) (h : zf_X8_drawStart N z v1 S = some res) (hP : va_P D vwCl (wd_C a cI cL cB cZ z S) H) (hD : va_D A (wd_C a cI cL cB cZ z S)) (hS : va_S A s.heap H locs) (hls : ls.size = nL) (hrest : (rest.map fun v => v.category).sum ≤ 8) (hdg : decode cc pc = .ok (.invokevirtual idx, 3)) (kk : ∀ (H1 : Heap) (locs1 : List Loc), va_P D vwCl (wd_C a cI cL cB cZ z res.2) H1 → va_D A (wd_C a cI cL cB cZ z res.2) → va_S A s.heap H1 locs1 → W p l e R s m args below meth c H1 locs1 0 0 Q (F0 m (pc + 3) ls rest)) : W p l e R s m args below meth c H locs 0 0 Q (F0 m pc ls (.int (v1) :: .ref (a 25) :: rest)) := by
  obtain ⟨hx, hb, hml, hown, hts, hK, hA⟩ := C
  have hFc := mq_freeI hD hS hA
  refine va_callv (va_runV (As := [.int (v1)]) (rest := rest) ⟨hx, hb, hml, hown, hts⟩ (zm_X8_drawStart l D a z cI cL cB cZ H.size N v1 S res h) (cwV 1 hts (mq_goodL (mq_wsV hlk zt_X8_drawStart_i zt_X8_drawStart_s zt_ini_X8 zt_X8_drawStart_c)) rfl rfl rfl (by decide +kernel) hR) ⟨fun a U g mk q => ⟨q.1, q.2.1, q.2.2.1, va_K.moved (u := U) (U := U.calling g mk a) (Vm.Alike.refl U.vm) q.2.2.2.1, q.2.2.2.2⟩, zy_C_25 hK hP, fun U hU hW => ⟨rfl, by rw [hU], by rw [hU]; exact hP, va_K.moved hW.alike hK, hD.weaken (fun _ _ _ _ => trivial)⟩⟩ rfl rfl hls rfl (lv_room hrest) hdg ⟨Nat.zero_le _, Nat.zero_le _⟩) hS (fun q _ h => hFc q h) hFc (fun u t H1 locs ht hvm hw hB hz1 hk1 hS => ?_)
  subst hw
  obtain ⟨hP1, hK1, hD1⟩ := hB
  rw [ht] at hP1
  exact kk H1 locs hP1 (hD1.weaken (fun _ _ _ h => hFc _ h)) hS
theorem zt_f_X4_41 : Cond.fieldLink RX4 41 "ModalDesk$Model" "size" "I" ∈ mq_T := mq_T_mem (mq_t2 (List.mem_of_getElem? (i := 74) rfl)) rfl
theorem zs_wd_C_i_46_23 (a z : Nat → Nat) (cI cL cB cZ : ClassId) (S : mq_St) (v : Int32) : (wd_C a cI cL cB cZ z S).set 46 (a 46, .inr (4, ([.ref (a 7), .ref (a 47), .ref (a 48), .ref (a 49), .ref (a 50), .ref (a 51), .ref (a 52), .ref (a 53), .ref (a 54), .int (S.1 22), .int (S.1 23), .int (S.1 24)] : List Value).set 10 (.int v))) = (wd_C a cI cL cB cZ z (mq_si S 23 v)) := rfl
theorem zi_X4 (c1 : Cond) : ∀ w ∈ u_ws RX4 TX4 12, w ∈ c1 :: mq_T := fun w h => List.mem_cons_of_mem _ (mq_T_mem (mq_inl [(2, 76), (2, 78), (2, 80), (2, 82), (2, 84), (2, 86), (2, 88), (2, 90), (2, 92), (2, 94), (2, 96), (2, 98)] (by decide +kernel) w h) ((by decide +kernel : ∀ w ∈ u_ws RX4 TX4 12, goodWord w = true) w h))
theorem zt_f_X4_45 : Cond.fieldLink RX4 45 "ModalDesk$Model" "known" "I" ∈ mq_T := mq_T_mem (mq_t2 (List.mem_of_getElem? (i := 73) rfl)) rfl
theorem zs_wd_C_i_46_22 (a z : Nat → Nat) (cI cL cB cZ : ClassId) (S : mq_St) (v : Int32) : (wd_C a cI cL cB cZ z S).set 46 (a 46, .inr (4, ([.ref (a 7), .ref (a 47), .ref (a 48), .ref (a 49), .ref (a 50), .ref (a 51), .ref (a 52), .ref (a 53), .ref (a 54), .int (S.1 22), .int (S.1 23), .int (S.1 24)] : List Value).set 9 (.int v))) = (wd_C a cI cL cB cZ z (mq_si S 22 v)) := rfl
theorem zt_f_X4_48 : Cond.fieldLink RX4 48 "ModalDesk$Model" "changed" "Z" ∈ mq_T := mq_T_mem (mq_t2 (List.mem_of_getElem? (i := 75) rfl)) rfl
theorem zs_wd_C_i_46_24 (a z : Nat → Nat) (cI cL cB cZ : ClassId) (S : mq_St) (v : Int32) : (wd_C a cI cL cB cZ z S).set 46 (a 46, .inr (4, ([.ref (a 7), .ref (a 47), .ref (a 48), .ref (a 49), .ref (a 50), .ref (a 51), .ref (a 52), .ref (a 53), .ref (a 54), .int (S.1 22), .int (S.1 23), .int (S.1 24)] : List Value).set 11 (.int v))) = (wd_C a cI cL cB cZ z (mq_si S 24 v)) := rfl
/-! ModalDesk$Model.clear()V -/
def zr_X4_clear : Room := { frames := 0, cells := 0, slots := 0, locals := 0 }
def zc_X4_clear : Cond := .code yX4_clear cX4_clear 1 none
def zf_X4_clear (N : Nat) (z : Nat → Nat) (S : mq_St) : Option (Unit × mq_St) := (mq_nS (mq_si S 23 ((0 : Int32))) (fun S1 => (mq_nS (mq_si S1 22 ((0 : Int32))) (fun S2 => (mq_cz ((0 : Int32)) (mq_nS (mq_si S2 24 ((0 : Int32))) (fun S3 => (some ((), S3)))))))))
set_option maxHeartbeats 4000000 in
set_option maxRecDepth 100000 in
theorem zw_X4_clear_0 {p : Program} {l : Launch} {e : Env} {s : State} {m : MethodId} {args : Array Value} {below : List Frame} {meth : Method} {c : Code} {A : Nat → Prop} {D : va_G} {a z : Nat → Nat} {cI cL cB cZ : ClassId} {Q : State → Prop} {N : Nat} {res : Unit × mq_St} (C : mq_C p s m args c A D cI cL cB cZ cX4_clear 1 RX4 zc_X4_clear) (hret : ∀ (H : Heap) (locs : List Loc) (ls : Array Slot) (pc : Nat), decode cX4_clear pc = .ok (.return_, 1) → va_P D vwCl (wd_C a cI cL cB cZ z res.2) H → va_D A (wd_C a cI cL cB cZ z res.2) → va_S A s.heap H locs → W p l e zr_X4_clear s m args below meth c H locs 0 0 Q (F0 m pc ls [])) (S : mq_St) (H : Heap) (locs : List Loc) (ls : Array Slot) (h : zf_X4_clear N z S = some res) (hl : lv_has ls 1 [(0, .ref (a 46))]) (hP : va_P D vwCl (wd_C a cI cL cB cZ z S) H) (hD : va_D A (wd_C a cI cL cB cZ z S)) (hS : va_S A s.heap H locs) : W p l e zr_X4_clear s m args below meth c H locs 0 0 Q (F0 m 0 ls []) := by
  obtain ⟨hx, hb, hml, hown, hts, hK, hA⟩ := id C
  unfold zf_X4_clear at h
  refine lv_aload_n hx hb dX4_clear_0 rfl (lv_at hl 0 rfl) ?_
  refine lv_iconst (v := (0 : Int32)) hx hb dX4_clear_1 (by decide) ?_
  refine mq_put (w := wd_C a cI cL cB cZ z) (S := S) (D := D) (ci := 4) (v := (0 : Int32)) (ty := .int) (C := RX4) (T := TX4) (N := 12) hx hb hts (zi_X4 _) tyX4 tyX4_ok nmX4 hown hK hP hD hS 46 rfl rfl 10 (by decide) (hts _ (List.mem_cons_of_mem _ zt_f_X4_41)) (fun _ h9 => h9) rfl (by decide +kernel) rfl rfl (Nat.le_of_ble_eq_true rfl) dX4_clear_2 23 (zs_wd_C_i_46_23 _ _ _ _ _ _ _ _) (fun S1 eS1 H locs hP hD hS => ?_)
  replace h := mq_nS_go eS1 h
  refine lv_aload_n hx hb dX4_clear_5 rfl (lv_at hl 0 rfl) ?_
  refine lv_iconst (v := (0 : Int32)) hx hb dX4_clear_6 (by decide) ?_
  refine mq_put (w := wd_C a cI cL cB cZ z) (S := S1) (D := D) (ci := 4) (v := (0 : Int32)) (ty := .int) (C := RX4) (T := TX4) (N := 12) hx hb hts (zi_X4 _) tyX4 tyX4_ok nmX4 hown hK hP hD hS 46 rfl rfl 9 (by decide) (hts _ (List.mem_cons_of_mem _ zt_f_X4_45)) (fun _ h9 => h9) rfl (by decide +kernel) rfl rfl (Nat.le_of_ble_eq_true rfl) dX4_clear_7 22 (zs_wd_C_i_46_22 _ _ _ _ _ _ _ _) (fun S2 eS2 H locs hP hD hS => ?_)
  replace h := mq_nS_go eS2 h
  refine lv_aload_n hx hb dX4_clear_10 rfl (lv_at hl 0 rfl) ?_
  refine lv_iconst (v := (0 : Int32)) hx hb dX4_clear_11 (by decide) ?_
  have hz4 := mq_cz_in h
  replace h := mq_cz_go h
  refine mq_put (w := wd_C a cI cL cB cZ z) (S := S2) (D := D) (ci := 4) (v := (0 : Int32)) (ty := .boolean) (C := RX4) (T := TX4) (N := 12) hx hb hts (zi_X4 _) tyX4 tyX4_ok nmX4 hown hK hP hD hS 46 rfl rfl 11 (by decide) (hts _ (List.mem_cons_of_mem _ zt_f_X4_48)) (fun _ h9 => h9) rfl (by decide +kernel) hz4.1 hz4.2 (Nat.le_of_ble_eq_true rfl) dX4_clear_12 24 (zs_wd_C_i_46_24 _ _ _ _ _ _ _ _) (fun S3 eS3 H locs hP hD hS => ?_)
  replace h := mq_nS_go eS3 h
  cases h
  exact hret H locs ls 15 dX4_clear_15 hP hD hS
set_option maxHeartbeats 4000000 in
set_option maxRecDepth 100000 in
theorem zm_X4_clear (l : Launch) (D : va_G) (a z : Nat → Nat) (cI cL cB cZ : ClassId) (sz N : Nat) (S : mq_St) (res : Unit × mq_St) (h : zf_X4_clear N z S = some res) : Met l yX4_clear (zc_X4_clear :: mq_T) zr_X4_clear (va_Pc [.ref (a 46)] (fun U => U.heap.size = sz ∧ va_P D vwCl (wd_C a cI cL cB cZ z S) U.heap ∧ va_K D vwCl (mq_tys cI cL cB cZ) U ∧ va_D (fun _ => True) (wd_C a cI cL cB cZ z S))) (va_Qv (fun u : mq_St => u = res.2) (fun u t => va_P D vwCl (wd_C a cI cL cB cZ z u) t.heap ∧ va_K D vwCl (mq_tys cI cL cB cZ) t ∧ va_D (va_A (wd_C a cI cL cB cZ z S) sz) (wd_C a cI cL cB cZ z u)) (va_A (wd_C a cI cL cB cZ z S) sz)) 0 0 (va_A (wd_C a cI cL cB cZ z S) sz) := by
  refine Met.ofW (cc := cX4_clear) (maxL := 1) (ret := none) (by decide) rfl ?_
  intro p e s m args below meth c s₁ B hml hv
  obtain ⟨rfl, hsz, hP, hK, hD0⟩ := hv
  have hr := B.returns
  have hlocks := B.notSynchronized
  have hts := atoms_spec (ws := zc_X4_clear :: mq_T) B.pre
  have hown : s.vm.findClass RX4 = some m.cls := findClass_of_methodNamed B.named
  subst hsz
  have hD := hD0.self (sz := s.heap.size)
  generalize hAe : va_A (wd_C a cI cL cB cZ z S) s.heap.size = A at hD ⊢
  have hA : ∀ q : Nat, s.heap.size ≤ q → A q := fun q h => by rw [← hAe]; exact Or.inr h
  have hl := lv_entry ([.ref (a 46)]) (n := 1) (Nat.le_of_ble_eq_true rfl)
  rw [lg_entry_eq]
  generalize (lg_sl ([.ref (a 46)]) ++ List.replicate (1 - (lg_sl ([.ref (a 46)])).length) Slot.unset).toArray = ls at hl ⊢
  have hl : lv_has ls 1 [(0, .ref (a 46))] := hl
  refine zw_X4_clear_0 (A := A) ⟨B.exec, B.bytes, hml, hown, hts, hK, hA⟩ (fun H locs ls pc dg hP hD hS => ?_) S s.heap [] ls h hl hP hD va_S.rf
  exact W.vret B.exec B.bytes hr (fun t ht hW => ⟨⟨_, rfl, rfl, by rw [ht]; exact hP, va_K.moved hW.alike hK, hD⟩, hS.F ht⟩) hS.2.2 dg
theorem zt_X4_clear_c : zc_X4_clear ∈ mq_T := mq_T_mem (mq_t4 (List.mem_of_getElem? (i := 135) rfl)) rfl
theorem zt_X4_clear_i : Cond.instanceMethod yX4_clear ∈ mq_T := mq_T_mem (mq_t4 (List.mem_of_getElem? (i := 133) rfl)) rfl
theorem zt_X4_clear_s : Cond.selects RX4 yX4_clear yX4_clear ∈ mq_T := mq_T_mem (mq_t4 (List.mem_of_getElem? (i := 134) rfl)) rfl
theorem zt_ini_X4 : Cond.initialized RX4 ∈ mq_T := mq_T_mem (mq_t1 (List.mem_of_getElem? (i := 12) rfl)) rfl
set_option maxHeartbeats 4000000 in
theorem zk_X4_clear {p : Program} {l : Launch} {e : Env} {R : Room} {s : State} {m : MethodId} {args : Array Value} {below : List Frame} {meth : Method} {c : Code} {A : Nat → Prop} {D : va_G} {a z : Nat → Nat} {cI cL cB cZ : ClassId} {Q : State → Prop} {cc : ByteArray} {nL idx pc N : Nat} {own : String} {c1 : Cond} {H : Heap} {locs : List Loc} {ls : Array Slot} {rest : List Value} {S : mq_St} {res : Unit × mq_St} (C : mq_C p s m args c A D cI cL cB cZ cc nL own c1) (hlk : Cond.methodLink own idx yX4_clear ∈ mq_T) (hR : zr_X4_clear.frames + 1 ≤ R.frames ∧ 8 + (1 + 11) + zr_X4_clear.locals ≤ R.locals) (h : zf_X4_clear N z S = some res) (hP : va_P D vwCl (wd_C a cI cL cB cZ z S) H) (hD : va_D A (wd_C a cI cL cB cZ z S)) (hS : va_S A s.heap H locs) (hls : ls.size = nL) (hrest : (rest.map fun v => v.category).sum ≤ 8) (hdg : decode cc pc = .ok (.invokevirtual idx, 3)) (kk : ∀ (H1 : Heap) (locs1 : List Loc), va_P D vwCl (wd_C a cI cL cB cZ z res.2) H1 → va_D A (wd_C a cI cL cB cZ z res.2) → va_S A s.heap H1 locs1 → W p l e R s m args below meth c H1 locs1 0 0 Q (F0 m (pc + 3) ls rest)) : W p l e R s m args below meth c H locs 0 0 Q (F0 m pc ls (.ref (a 46) :: rest)) := by
  obtain ⟨hx, hb, hml, hown, hts, hK, hA⟩ := C
  have hFc := mq_freeI hD hS hA
  refine va_callv (va_runV (As := []) (rest := rest) ⟨hx, hb, hml, hown, hts⟩ (zm_X4_clear l D a z cI cL cB cZ H.size N S res h) (cwV 0 hts (mq_goodL (mq_wsV hlk zt_X4_clear_i zt_X4_clear_s zt_ini_X4 zt_X4_clear_c)) rfl rfl rfl (by decide +kernel) hR) ⟨fun a U g mk q => ⟨q.1, q.2.1, q.2.2.1, va_K.moved (u := U) (U := U.calling g mk a) (Vm.Alike.refl U.vm) q.2.2.2.1, q.2.2.2.2⟩, zy_C_46 hK hP, fun U hU hW => ⟨rfl, by rw [hU], by rw [hU]; exact hP, va_K.moved hW.alike hK, hD.weaken (fun _ _ _ _ => trivial)⟩⟩ rfl rfl hls rfl (lv_room hrest) hdg ⟨Nat.zero_le _, Nat.zero_le _⟩) hS (fun q _ h => hFc q h) hFc (fun u t H1 locs ht hvm hw hB hz1 hk1 hS => ?_)
  subst hw
  obtain ⟨hP1, hK1, hD1⟩ := hB
  rw [ht] at hP1
  exact kk H1 locs hP1 (hD1.weaken (fun _ _ _ h => hFc _ h)) hS
theorem zt_m_X8_112 : Cond.methodLink RX8 112 yX7_size ∈ mq_T := mq_T_mem (mq_t4 (List.mem_of_getElem? (i := 71) rfl)) rfl
theorem zt_m_X8_125 : Cond.methodLink RX8 125 yX7_firstOf ∈ mq_T := mq_T_mem (mq_t4 (List.mem_of_getElem? (i := 86) rfl)) rfl
/-! ModalDesk$Tableau.lettersOf(I)I -/
def zr_X8_lettersOf : Room := { frames := 2, cells := 0, slots := 0, locals := 44 }
def zc_X8_lettersOf : Cond := .code yX8_lettersOf cX8_lettersOf 4 (some .int)
def zf_X8_lettersOf_52 (N : Nat) (z : Nat → Nat) (S : mq_St) (k4 : Int32 → Int32 → Int32 → Option (Int32)) (v1 : Int32) (v2 : Int32) (v3 : Int32) : Option (Int32) := (mq_nI (v3 + (1 : Int32)) (fun x15 => (k4 (v1) (v2) (x15))))
def zf_X8_lettersOf_4b (N : Nat) (z : Nat → Nat) (S : mq_St) (k4 : Int32 → Int32 → Int32 → Option (Int32)) (v1 : Int32) (v2 : Int32) (v3 : Int32) : Option (Int32) := (mq_cp (zf_X7_size N z S) (fun q3 => (if q3 ≤ v3 then (some (v2)) else (mq_cp (zf_X7_sortOf N z (v3) S) (fun q5 => (if q5 = (2 : Int32) then (mq_cp (zf_X6_has N (fun k => [300].getD k 0) (v1) (v3) (mq_pull S [] [] [3])) (fun q7 => (if q7 = (0 : Int32) then (zf_X8_lettersOf_52 N z S k4 (v1) (v2) (v3)) else (mq_cp (zf_X7_firstOf N z (v3) S) (fun q9 => (mq_nI ((v2 ||| ((1 : Int32) <<< (q9 &&& (31 : Int32))))) (fun x11 => (zf_X8_lettersOf_52 N z S k4 (v1) (x11) (v3))))))))) else (zf_X8_lettersOf_52 N z S k4 (v1) (v2) (v3))))))))
def zf_X8_lettersOf_4 (N : Nat) (z : Nat → Nat) (S : mq_St) : Nat → Int32 → Int32 → Int32 → Option (Int32)
  | 0, _, _, _ => none
  | n + 1, v1, v2, v3 => zf_X8_lettersOf_4b N z S (fun v1 v2 v3 => zf_X8_lettersOf_4 N z S n v1 v2 v3) v1 v2 v3
def zf_X8_lettersOf (N : Nat) (z : Nat → Nat) (v1 : Int32) (S : mq_St) : Option (Int32) := (mq_nI ((0 : Int32)) (fun x1 => (mq_nI ((0 : Int32)) (fun x2 => (zf_X8_lettersOf_4 N z S N (v1) (x1) (x2))))))
set_option maxHeartbeats 4000000 in
set_option maxRecDepth 100000 in
theorem zw_X8_lettersOf_52 {p : Program} {l : Launch} {e : Env} {s : State} {m : MethodId} {args : Array Value} {below : List Frame} {meth : Method} {c : Code} {A : Nat → Prop} {D : va_G} {a z : Nat → Nat} {cI cL cB cZ : ClassId} {Q : State → Prop} {N : Nat} {S : mq_St} {res : Int32} {k4 : Int32 → Int32 → Int32 → Option (Int32)} (C : mq_C p s m args c A D cI cL cB cZ cX8_lettersOf 4 RX8 zc_X8_lettersOf) (hret : ∀ (H : Heap) (locs : List Loc) (ls : Array Slot) (pc : Nat), decode cX8_lettersOf pc = .ok (.ireturn, 1) → va_P D vwCl (wd_C a cI cL cB cZ z S) H → va_D A (wd_C a cI cL cB cZ z S) → va_S A s.heap H locs → W p l e zr_X8_lettersOf s m args below meth c H locs 0 0 Q (F0 m pc ls [.int res])) (hk4 : ∀ (v1 : Int32) (v2 : Int32) (v3 : Int32) (H : Heap) (locs : List Loc) (ls : Array Slot), k4 v1 v2 v3 = some res → lv_has ls 4 [(0, .ref (a 25)), (1, .int (v1)), (2, .int (v2)), (3, .int (v3))] → va_P D vwCl (wd_C a cI cL cB cZ z S) H → va_D A (wd_C a cI cL cB cZ z S) → va_S A s.heap H locs → W p l e zr_X8_lettersOf s m args below meth c H locs 0 0 Q (F0 m 4 ls [])) (v1 : Int32) (v2 : Int32) (v3 : Int32) (H : Heap) (locs : List Loc) (ls : Array Slot) (h : zf_X8_lettersOf_52 N z S k4 v1 v2 v3 = some res) (hl : lv_has ls 4 [(0, .ref (a 25)), (1, .int (v1)), (2, .int (v2)), (3, .int (v3))]) (hP : va_P D vwCl (wd_C a cI cL cB cZ z S) H) (hD : va_D A (wd_C a cI cL cB cZ z S)) (hS : va_S A s.heap H locs) : W p l e zr_X8_lettersOf s m args below meth c H locs 0 0 Q (F0 m 52 ls []) := by
  obtain ⟨hx, hb, hml, hown, hts, hK, hA⟩ := id C
  unfold zf_X8_lettersOf_52 at h
  obtain ⟨x15, ex15⟩ : ∃ y : Int32, y = v3 + (1 : Int32) := ⟨_, rfl⟩
  replace h := mq_nI_go ex15 h
  refine lv_iinc (v := x15) (lv' := [(3, .int (x15)), (0, .ref (a 25)), (1, .int (v1)), (2, .int (v2))]) hx hb dX8_lettersOf_52 hl (k := 3) rfl (by rw [ex15]; rfl) (by decide) rfl (fun ls hl => ?_)
  refine lv_goto (tgt := 4) hx hb dX8_lettersOf_55 (by decide) ?_
  exact hk4 (v1) (v2) (x15) H locs ls h (lv_sub hl [1, 2, 3, 0] rfl) hP hD hS
set_option maxHeartbeats 4000000 in
set_option maxRecDepth 100000 in
theorem zw_X8_lettersOf_4b {p : Program} {l : Launch} {e : Env} {s : State} {m : MethodId} {args : Array Value} {below : List Frame} {meth : Method} {c : Code} {A : Nat → Prop} {D : va_G} {a z : Nat → Nat} {cI cL cB cZ : ClassId} {Q : State → Prop} {N : Nat} {S : mq_St} {res : Int32} {k4 : Int32 → Int32 → Int32 → Option (Int32)} (C : mq_C p s m args c A D cI cL cB cZ cX8_lettersOf 4 RX8 zc_X8_lettersOf) (hret : ∀ (H : Heap) (locs : List Loc) (ls : Array Slot) (pc : Nat), decode cX8_lettersOf pc = .ok (.ireturn, 1) → va_P D vwCl (wd_C a cI cL cB cZ z S) H → va_D A (wd_C a cI cL cB cZ z S) → va_S A s.heap H locs → W p l e zr_X8_lettersOf s m args below meth c H locs 0 0 Q (F0 m pc ls [.int res])) (hk4 : ∀ (v1 : Int32) (v2 : Int32) (v3 : Int32) (H : Heap) (locs : List Loc) (ls : Array Slot), k4 v1 v2 v3 = some res → lv_has ls 4 [(0, .ref (a 25)), (1, .int (v1)), (2, .int (v2)), (3, .int (v3))] → va_P D vwCl (wd_C a cI cL cB cZ z S) H → va_D A (wd_C a cI cL cB cZ z S) → va_S A s.heap H locs → W p l e zr_X8_lettersOf s m args below meth c H locs 0 0 Q (F0 m 4 ls [])) (v1 : Int32) (v2 : Int32) (v3 : Int32) (H : Heap) (locs : List Loc) (ls : Array Slot) (h : zf_X8_lettersOf_4b N z S k4 v1 v2 v3 = some res) (hl : lv_has ls 4 [(0, .ref (a 25)), (1, .int (v1)), (2, .int (v2)), (3, .int (v3))]) (hP : va_P D vwCl (wd_C a cI cL cB cZ z S) H) (hD : va_D A (wd_C a cI cL cB cZ z S)) (hS : va_S A s.heap H locs) : W p l e zr_X8_lettersOf s m args below meth c H locs 0 0 Q (F0 m 4 ls []) := by
  obtain ⟨hx, hb, hml, hown, hts, hK, hA⟩ := id C
  unfold zf_X8_lettersOf_4b at h
  refine lv_iload_n hx hb dX8_lettersOf_4 rfl (lv_at hl 3 rfl) ?_
  refine lv_aload_n hx hb dX8_lettersOf_5 rfl (lv_at hl 0 rfl) ?_
  refine va_get (D := D) (ci := 8) (v := .ref (a 7)) (C := RX8) (T := TX8) (N := 19) hx hb hts (zi_X8 _) hown hK hP 25 rfl rfl 0 (by decide) (hts _ (List.mem_cons_of_mem _ zt_f_X8_56)) (fun _ h9 => h9) rfl dX8_lettersOf_6 ?_
  obtain ⟨q3, hc4, h⟩ := mq_cp_go h
  refine zk_X7_size C zt_m_X8_112 ⟨by decide, by decide⟩ hc4 hP hD hS hl.1 (Nat.le_of_ble_eq_true rfl) dX8_lettersOf_9 (fun H locs hP hD hS => ?_)
  refine lv_icmp_ge (tgt := 58) hx hb dX8_lettersOf_12 (by decide) (fun c14 => ?_) (fun c14 => ?_)
  · replace h := mq_it c14 h
    refine lv_iload_n hx hb dX8_lettersOf_58 rfl (lv_at hl 2 rfl) ?_
    cases h
    exact hret H locs ls 59 dX8_lettersOf_59 hP hD hS
  · replace h := mq_if c14 h
    refine lv_aload_n hx hb dX8_lettersOf_15 rfl (lv_at hl 0 rfl) ?_
    refine va_get (D := D) (ci := 8) (v := .ref (a 7)) (C := RX8) (T := TX8) (N := 19) hx hb hts (zi_X8 _) hown hK hP 25 rfl rfl 0 (by decide) (hts _ (List.mem_cons_of_mem _ zt_f_X8_56)) (fun _ h9 => h9) rfl dX8_lettersOf_16 ?_
    refine lv_iload_n hx hb dX8_lettersOf_19 rfl (lv_at hl 3 rfl) ?_
    obtain ⟨q5, hc6, h⟩ := mq_cp_go h
    refine zk_X7_sortOf C zt_m_X8_118 ⟨by decide, by decide⟩ hc6 hP hD hS hl.1 (Nat.le_of_ble_eq_true rfl) dX8_lettersOf_20 (fun H locs hP hD hS => ?_)
    refine lv_iconst (v := (2 : Int32)) hx hb dX8_lettersOf_23 (by decide) ?_
    refine lv_icmp_ne (tgt := 52) hx hb dX8_lettersOf_24 (by decide) (fun c13 => ?_) (fun c13 => ?_)
    · replace h := mq_if c13 h
      exact zw_X8_lettersOf_52 C hret hk4 (v1) (v2) (v3) H locs ls h (lv_sub hl [0, 1, 2, 3] rfl) hP hD hS
    · replace h := mq_it (by simpa using c13) h
      refine lv_aload_n hx hb dX8_lettersOf_27 rfl (lv_at hl 0 rfl) ?_
      refine va_get (D := D) (ci := 8) (v := .ref (a 35)) (C := RX8) (T := TX8) (N := 19) hx hb hts (zi_X8 _) hown hK hP 25 rfl rfl 2 (by decide) (hts _ (List.mem_cons_of_mem _ zt_f_X8_20)) (fun _ h9 => h9) rfl dX8_lettersOf_28 ?_
      refine lv_iload_n hx hb dX8_lettersOf_31 rfl (lv_at hl 1 rfl) ?_
      refine lv_iload_n hx hb dX8_lettersOf_32 rfl (lv_at hl 3 rfl) ?_
      obtain ⟨q7, hc8, h⟩ := mq_cp_go h
      refine zv_X6_has (a := mq_ad a [35, 36]) (z := (fun k => [300].getD k 0)) [35, 36] C zt_m_X8_121 ⟨by decide, by decide⟩ hc8 rfl (by decide) hP hD hS hl.1 (Nat.le_of_ble_eq_true rfl) dX8_lettersOf_33 (fun H locs hP hD hS => ?_)
      refine lv_if_eq (tgt := 52) hx hb dX8_lettersOf_36 (by decide) (fun c12 => ?_) (fun c12 => ?_)
      · replace h := mq_it c12 h
        exact zw_X8_lettersOf_52 C hret hk4 (v1) (v2) (v3) H locs ls h (lv_sub hl [0, 1, 2, 3] rfl) hP hD hS
      · replace h := mq_if c12 h
        refine lv_iload_n hx hb dX8_lettersOf_39 rfl (lv_at hl 2 rfl) ?_
        refine lv_iconst (v := (1 : Int32)) hx hb dX8_lettersOf_40 (by decide) ?_
        refine lv_aload_n hx hb dX8_lettersOf_41 rfl (lv_at hl 0 rfl) ?_
        refine va_get (D := D) (ci := 8) (v := .ref (a 7)) (C := RX8) (T := TX8) (N := 19) hx hb hts (zi_X8 _) hown hK hP 25 rfl rfl 0 (by decide) (hts _ (List.mem_cons_of_mem _ zt_f_X8_56)) (fun _ h9 => h9) rfl dX8_lettersOf_42 ?_
        refine lv_iload_n hx hb dX8_lettersOf_45 rfl (lv_at hl 3 rfl) ?_
        obtain ⟨q9, hc10, h⟩ := mq_cp_go h
        refine zk_X7_firstOf C zt_m_X8_125 ⟨by decide, by decide⟩ hc10 hP hD hS hl.1 (Nat.le_of_ble_eq_true rfl) dX8_lettersOf_46 (fun H locs hP hD hS => ?_)
        refine lv_ishl hx hb dX8_lettersOf_49 ?_
        refine lv_ior hx hb dX8_lettersOf_50 ?_
        refine lv_topi (fun x11 ex11 => ?_)
        replace h := mq_nI_go ex11 h
        refine lv_istore_n (lv' := [(2, .int (x11)), (0, .ref (a 25)), (1, .int (v1)), (3, .int (v3))]) hx hb dX8_lettersOf_51 rfl hl (by decide) rfl (fun ls hl => ?_)
        exact zw_X8_lettersOf_52 C hret hk4 (v1) (x11) (v3) H locs ls h (lv_sub hl [1, 2, 0, 3] rfl) hP hD hS
set_option maxHeartbeats 4000000 in
set_option maxRecDepth 100000 in
theorem zw_X8_lettersOf_4 {p : Program} {l : Launch} {e : Env} {s : State} {m : MethodId} {args : Array Value} {below : List Frame} {meth : Method} {c : Code} {A : Nat → Prop} {D : va_G} {a z : Nat → Nat} {cI cL cB cZ : ClassId} {Q : State → Prop} {N : Nat} {S : mq_St} {res : Int32} (C : mq_C p s m args c A D cI cL cB cZ cX8_lettersOf 4 RX8 zc_X8_lettersOf) (hret : ∀ (H : Heap) (locs : List Loc) (ls : Array Slot) (pc : Nat), decode cX8_lettersOf pc = .ok (.ireturn, 1) → va_P D vwCl (wd_C a cI cL cB cZ z S) H → va_D A (wd_C a cI cL cB cZ z S) → va_S A s.heap H locs → W p l e zr_X8_lettersOf s m args below meth c H locs 0 0 Q (F0 m pc ls [.int res])) : ∀ (n : Nat) (v1 : Int32) (v2 : Int32) (v3 : Int32) (H : Heap) (locs : List Loc) (ls : Array Slot) (h : zf_X8_lettersOf_4 N z S n v1 v2 v3 = some res) (hl : lv_has ls 4 [(0, .ref (a 25)), (1, .int (v1)), (2, .int (v2)), (3, .int (v3))]) (hP : va_P D vwCl (wd_C a cI cL cB cZ z S) H) (hD : va_D A (wd_C a cI cL cB cZ z S)) (hS : va_S A s.heap H locs), W p l e zr_X8_lettersOf s m args below meth c H locs 0 0 Q (F0 m 4 ls []) := by
  intro n
  induction n with
  | zero =>
    intro v1 v2 v3 H locs ls h hl hP hD hS
    exact nomatch (show (none : Option (Int32)) = some res from h)
  | succ n ih =>
    intro v1 v2 v3 H locs ls h hl hP hD hS
    exact zw_X8_lettersOf_4b C hret (fun v1 v2 v3 H locs ls h hl hP hD hS => ih v1 v2 v3 H locs ls h hl hP hD hS) v1 v2 v3 H locs ls h hl hP hD hS
set_option maxHeartbeats 4000000 in
set_option maxRecDepth 100000 in
theorem zw_X8_lettersOf_0 {p : Program} {l : Launch} {e : Env} {s : State} {m : MethodId} {args : Array Value} {below : List Frame} {meth : Method} {c : Code} {A : Nat → Prop} {D : va_G} {a z : Nat → Nat} {cI cL cB cZ : ClassId} {Q : State → Prop} {N : Nat} {S : mq_St} {res : Int32} (C : mq_C p s m args c A D cI cL cB cZ cX8_lettersOf 4 RX8 zc_X8_lettersOf) (hret : ∀ (H : Heap) (locs : List Loc) (ls : Array Slot) (pc : Nat), decode cX8_lettersOf pc = .ok (.ireturn, 1) → va_P D vwCl (wd_C a cI cL cB cZ z S) H → va_D A (wd_C a cI cL cB cZ z S) → va_S A s.heap H locs → W p l e zr_X8_lettersOf s m args below meth c H locs 0 0 Q (F0 m pc ls [.int res])) (v1 : Int32) (H : Heap) (locs : List Loc) (ls : Array Slot) (h : zf_X8_lettersOf N z v1 S = some res) (hl : lv_has ls 4 [(0, .ref (a 25)), (1, .int (v1))]) (hP : va_P D vwCl (wd_C a cI cL cB cZ z S) H) (hD : va_D A (wd_C a cI cL cB cZ z S)) (hS : va_S A s.heap H locs) : W p l e zr_X8_lettersOf s m args below meth c H locs 0 0 Q (F0 m 0 ls []) := by
  obtain ⟨hx, hb, hml, hown, hts, hK, hA⟩ := id C
  unfold zf_X8_lettersOf at h
  refine lv_iconst (v := (0 : Int32)) hx hb dX8_lettersOf_0 (by decide) ?_
  refine lv_topi (fun x1 ex1 => ?_)
  replace h := mq_nI_go ex1 h
  refine lv_istore_n (lv' := [(2, .int (x1)), (0, .ref (a 25)), (1, .int (v1))]) hx hb dX8_lettersOf_1 rfl hl (by decide) rfl (fun ls hl => ?_)
  refine lv_iconst (v := (0 : Int32)) hx hb dX8_lettersOf_2 (by decide) ?_
  refine lv_topi (fun x2 ex2 => ?_)
  replace h := mq_nI_go ex2 h
  refine lv_istore_n (lv' := [(3, .int (x2)), (2, .int (x1)), (0, .ref (a 25)), (1, .int (v1))]) hx hb dX8_lettersOf_3 rfl hl (by decide) rfl (fun ls hl => ?_)
  exact zw_X8_lettersOf_4 C hret N (v1) (x1) (x2) H locs ls h (lv_sub hl [2, 3, 1, 0] rfl) hP hD hS
set_option maxHeartbeats 4000000 in
set_option maxRecDepth 100000 in
theorem zm_X8_lettersOf (l : Launch) (D : va_G) (a z : Nat → Nat) (cI cL cB cZ : ClassId) (sz N : Nat) (v1 : Int32) (S : mq_St) (res : Int32) (h : zf_X8_lettersOf N z v1 S = some res) : Met l yX8_lettersOf (zc_X8_lettersOf :: mq_T) zr_X8_lettersOf (va_Pc [.ref (a 25), .int (v1)] (fun U => U.heap.size = sz ∧ va_P D vwCl (wd_C a cI cL cB cZ z S) U.heap ∧ va_K D vwCl (mq_tys cI cL cB cZ) U ∧ va_D (fun _ => True) (wd_C a cI cL cB cZ z S))) (va_Qi (fun (r : Int32) (u : mq_St) => r = res ∧ u = S) (fun u t => va_P D vwCl (wd_C a cI cL cB cZ z u) t.heap ∧ va_K D vwCl (mq_tys cI cL cB cZ) t ∧ va_D (va_A (wd_C a cI cL cB cZ z S) sz) (wd_C a cI cL cB cZ z u)) (va_A (wd_C a cI cL cB cZ z S) sz)) 0 0 (va_A (wd_C a cI cL cB cZ z S) sz) := by
  refine Met.ofW (cc := cX8_lettersOf) (maxL := 4) (ret := (some .int)) (by decide) rfl ?_
  intro p e s m args below meth c s₁ B hml hv
  obtain ⟨rfl, hsz, hP, hK, hD0⟩ := hv
  have hr := B.returns
  have hlocks := B.notSynchronized
  have hts := atoms_spec (ws := zc_X8_lettersOf :: mq_T) B.pre
  have hown : s.vm.findClass RX8 = some m.cls := findClass_of_methodNamed B.named
  subst hsz
  have hD := hD0.self (sz := s.heap.size)
  generalize hAe : va_A (wd_C a cI cL cB cZ z S) s.heap.size = A at hD ⊢
  have hA : ∀ q : Nat, s.heap.size ≤ q → A q := fun q h => by rw [← hAe]; exact Or.inr h
  have hl := lv_entry ([.ref (a 25), .int (v1)]) (n := 4) (Nat.le_of_ble_eq_true rfl)
  rw [lg_entry_eq]
  generalize (lg_sl ([.ref (a 25), .int (v1)]) ++ List.replicate (4 - (lg_sl ([.ref (a 25), .int (v1)])).length) Slot.unset).toArray = ls at hl ⊢
  have hl : lv_has ls 4 [(0, .ref (a 25)), (1, .int (v1))] := hl
  refine zw_X8_lettersOf_0 (A := A) ⟨B.exec, B.bytes, hml, hown, hts, hK, hA⟩ (fun H locs ls pc dg hP hD hS => ?_) v1 s.heap [] ls h hl hP hD va_S.rf
  exact W.iret B.exec B.bytes hr (fun t ht hW => ⟨⟨_, _, rfl, ⟨rfl, rfl⟩, by rw [ht]; exact hP, va_K.moved hW.alike hK, hD⟩, hS.F ht⟩) hS.2.2 dg
theorem zt_X8_lettersOf_c : zc_X8_lettersOf ∈ mq_T := mq_T_mem (mq_t4 (List.mem_of_getElem? (i := 145) rfl)) rfl
theorem zt_X8_lettersOf_i : Cond.instanceMethod yX8_lettersOf ∈ mq_T := mq_T_mem (mq_t4 (List.mem_of_getElem? (i := 144) rfl)) rfl
theorem zt_X8_lettersOf_s : Cond.selects RX8 yX8_lettersOf yX8_lettersOf ∈ mq_T := mq_T_at 51 (by decide +kernel)
set_option maxHeartbeats 4000000 in
theorem zk_X8_lettersOf {p : Program} {l : Launch} {e : Env} {R : Room} {s : State} {m : MethodId} {args : Array Value} {below : List Frame} {meth : Method} {c : Code} {A : Nat → Prop} {D : va_G} {a z : Nat → Nat} {cI cL cB cZ : ClassId} {Q : State → Prop} {cc : ByteArray} {nL idx pc N : Nat} {own : String} {c1 : Cond} {H : Heap} {locs : List Loc} {ls : Array Slot} {rest : List Value} {S : mq_St} {res : Int32} {v1 : Int32} (C : mq_C p s m args c A D cI cL cB cZ cc nL own c1) (hlk : Cond.methodLink own idx yX8_lettersOf ∈ mq_T) (hR : zr_X8_lettersOf.frames + 1 ≤ R.frames ∧ 8 + (4 + 11) + zr_X8_lettersOf.locals ≤ R.locals) (h : zf_X8_lettersOf N z v1 S = some res) (hP : va_P D vwCl (wd_C a cI cL cB cZ z S) H) (hD : va_D A (wd_C a cI cL cB cZ z S)) (hS : va_S A s.heap H locs) (hls : ls.size = nL) (hrest : (rest.map fun v => v.category).sum ≤ 8) (hdg : decode cc pc = .ok (.invokevirtual idx, 3)) (kk : ∀ (H1 : Heap) (locs1 : List Loc), va_P D vwCl (wd_C a cI cL cB cZ z S) H1 → va_D A (wd_C a cI cL cB cZ z S) → va_S A s.heap H1 locs1 → W p l e R s m args below meth c H1 locs1 0 0 Q (F0 m (pc + 3) ls (.int res :: rest))) : W p l e R s m args below meth c H locs 0 0 Q (F0 m pc ls (.int (v1) :: .ref (a 25) :: rest)) := by
  obtain ⟨hx, hb, hml, hown, hts, hK, hA⟩ := C
  have hFc := mq_freeI hD hS hA
  refine va_calli (va_runV (As := [.int (v1)]) (rest := rest) ⟨hx, hb, hml, hown, hts⟩ (zm_X8_lettersOf l D a z cI cL cB cZ H.size N v1 S res h) (cwV 1 hts (mq_goodL (mq_wsV hlk zt_X8_lettersOf_i zt_X8_lettersOf_s zt_ini_X8 zt_X8_lettersOf_c)) rfl rfl rfl (by decide +kernel) hR) ⟨fun a U g mk q => ⟨q.1, q.2.1, q.2.2.1, va_K.moved (u := U) (U := U.calling g mk a) (Vm.Alike.refl U.vm) q.2.2.2.1, q.2.2.2.2⟩, zy_C_25 hK hP, fun U hU hW => ⟨rfl, by rw [hU], by rw [hU]; exact hP, va_K.moved hW.alike hK, hD.weaken (fun _ _ _ _ => trivial)⟩⟩ rfl rfl hls rfl (lv_room hrest) hdg ⟨Nat.zero_le _, Nat.zero_le _⟩) hS (fun q _ h => hFc q h) hFc (fun r u t H1 locs ht hvm hw hB hz1 hk1 hS => ?_)
  obtain ⟨rfl, rfl⟩ := hw
  obtain ⟨hP1, hK1, hD1⟩ := hB
  rw [ht] at hP1
  exact kk H1 locs hP1 (hD1.weaken (fun _ _ _ h => hFc _ h)) hS
theorem zt_f_X4_9 : Cond.fieldLink RX4 9 "ModalDesk$Model" "letters" "[I" ∈ mq_T := mq_T_mem (mq_t2 (List.mem_of_getElem? (i := 65) rfl)) rfl
theorem zs_wd_C_a_47_23 (a z : Nat → Nat) (cI cL cB cZ : ClassId) (S : mq_St) (f : Nat → Int32) : (wd_C a cI cL cB cZ z S).set 47 (a 47, .inl (cI, 60, .inl f)) = (wd_C a cI cL cB cZ z (mq_sa S 23 f)) := rfl
theorem zt_f_X4_15 : Cond.fieldLink RX4 15 "ModalDesk$Model" "seen" "[J" ∈ mq_T := mq_T_mem (mq_t2 (List.mem_of_getElem? (i := 66) rfl)) rfl
theorem zs_wd_C_l_48_7 (a z : Nat → Nat) (cI cL cB cZ : ClassId) (S : mq_St) (f : Nat → Int64) : (wd_C a cI cL cB cZ z S).set 48 (a 48, .inl (cL, 60, .inr (.inl f))) = (wd_C a cI cL cB cZ z (mq_sl S 7 f)) := rfl
theorem zt_f_X4_22 : Cond.fieldLink RX4 22 "ModalDesk$Model" "setSizes" "[I" ∈ mq_T := mq_T_mem (mq_t2 (List.mem_of_getElem? (i := 68) rfl)) rfl
theorem zs_wd_C_a_50_25 (a z : Nat → Nat) (cI cL cB cZ : ClassId) (S : mq_St) (f : Nat → Int32) : (wd_C a cI cL cB cZ z S).set 50 (a 50, .inl (cI, 60, .inl f)) = (wd_C a cI cL cB cZ z (mq_sa S 25 f)) := rfl
/-! ModalDesk$Model.addWorld(IJI)V -/
def zr_X4_addWorld : Room := { frames := 0, cells := 0, slots := 0, locals := 0 }
def zc_X4_addWorld : Cond := .code yX4_addWorld cX4_addWorld 5 none
def zf_X4_addWorld (N : Nat) (z : Nat → Nat) (v1 : Int32) (v2 : Int64) (v4 : Int32) (S : mq_St) : Option (Unit × mq_St) := (if (60 : Int32) ≤ (S.1 23) then (some ((), S)) else (mq_ck ((S.1 23)) 60 (mq_nS (mq_sa S 23 (upd (S.2.1 23) ((S.1 23)).toNatClampNeg (v1))) (fun S2 => (mq_ck ((S2.1 23)) 60 (mq_nS (mq_sl S2 7 (vp_updL (S2.2.2 7) ((S2.1 23)).toNatClampNeg ((v2 ||| (mq_lshl (1 : Int64) (S2.1 23)))))) (fun S4 => (mq_ck ((S4.1 23)) 60 (mq_nS (mq_sa S4 25 (upd (S4.2.1 25) ((S4.1 23)).toNatClampNeg (v4))) (fun S6 => (mq_nS (mq_si S6 23 (((S6.1 23) + (1 : Int32)))) (fun S7 => (some ((), S7))))))))))))))
set_option maxHeartbeats 4000000 in
set_option maxRecDepth 100000 in
theorem zw_X4_addWorld_0 {p : Program} {l : Launch} {e : Env} {s : State} {m : MethodId} {args : Array Value} {below : List Frame} {meth : Method} {c : Code} {A : Nat → Prop} {D : va_G} {a z : Nat → Nat} {cI cL cB cZ : ClassId} {Q : State → Prop} {N : Nat} {res : Unit × mq_St} (C : mq_C p s m args c A D cI cL cB cZ cX4_addWorld 5 RX4 zc_X4_addWorld) (hret : ∀ (H : Heap) (locs : List Loc) (ls : Array Slot) (pc : Nat), decode cX4_addWorld pc = .ok (.return_, 1) → va_P D vwCl (wd_C a cI cL cB cZ z res.2) H → va_D A (wd_C a cI cL cB cZ z res.2) → va_S A s.heap H locs → W p l e zr_X4_addWorld s m args below meth c H locs 0 0 Q (F0 m pc ls [])) (v1 : Int32) (v2 : Int64) (v4 : Int32) (S : mq_St) (H : Heap) (locs : List Loc) (ls : Array Slot) (h : zf_X4_addWorld N z v1 v2 v4 S = some res) (hl : lv_has ls 5 [(0, .ref (a 46)), (1, .int (v1)), (2, .long (v2)), (4, .int (v4))]) (hP : va_P D vwCl (wd_C a cI cL cB cZ z S) H) (hD : va_D A (wd_C a cI cL cB cZ z S)) (hS : va_S A s.heap H locs) : W p l e zr_X4_addWorld s m args below meth c H locs 0 0 Q (F0 m 0 ls []) := by
  obtain ⟨hx, hb, hml, hown, hts, hK, hA⟩ := id C
  unfold zf_X4_addWorld at h
  refine lv_aload_n hx hb dX4_addWorld_0 rfl (lv_at hl 0 rfl) ?_
  refine va_get (D := D) (ci := 4) (v := .int ((S.1 23))) (C := RX4) (T := TX4) (N := 12) hx hb hts (zi_X4 _) hown hK hP 46 rfl rfl 10 (by decide) (hts _ (List.mem_cons_of_mem _ zt_f_X4_41)) (fun _ h9 => h9) rfl dX4_addWorld_1 ?_
  refine lv_bipush (v := (60 : Int32)) hx hb dX4_addWorld_4 (by decide) ?_
  refine lv_icmp_ge (tgt := 57) hx hb dX4_addWorld_6 (by decide) (fun c8 => ?_) (fun c8 => ?_)
  · replace h := mq_it c8 h
    cases h
    exact hret H locs ls 57 dX4_addWorld_57 hP hD hS
  · replace h := mq_if c8 h
    refine lv_aload_n hx hb dX4_addWorld_9 rfl (lv_at hl 0 rfl) ?_
    refine va_get (D := D) (ci := 4) (v := .ref (a 47)) (C := RX4) (T := TX4) (N := 12) hx hb hts (zi_X4 _) hown hK hP 46 rfl rfl 1 (by decide) (hts _ (List.mem_cons_of_mem _ zt_f_X4_9)) (fun _ h9 => h9) rfl dX4_addWorld_10 ?_
    refine lv_aload_n hx hb dX4_addWorld_13 rfl (lv_at hl 0 rfl) ?_
    refine va_get (D := D) (ci := 4) (v := .int ((S.1 23))) (C := RX4) (T := TX4) (N := 12) hx hb hts (zi_X4 _) hown hK hP 46 rfl rfl 10 (by decide) (hts _ (List.mem_cons_of_mem _ zt_f_X4_41)) (fun _ h9 => h9) rfl dX4_addWorld_14 ?_
    refine lv_iload_n hx hb dX4_addWorld_17 rfl (lv_at hl 1 rfl) ?_
    have hi1 := mq_ck_in h
    replace h := mq_ck_go h
    refine mq_iast (w := wd_C a cI cL cB cZ z) (S := S) (f := S.2.1 23) hx hb hK hP hD hS 47 0 rfl rfl hi1 dX4_addWorld_18 23 (zs_wd_C_a_47_23 _ _ _ _ _ _ _ _) (fun S2 eS2 H locs hP hD hS => ?_)
    replace h := mq_nS_go eS2 h
    refine lv_aload_n hx hb dX4_addWorld_19 rfl (lv_at hl 0 rfl) ?_
    refine va_get (D := D) (ci := 4) (v := .ref (a 48)) (C := RX4) (T := TX4) (N := 12) hx hb hts (zi_X4 _) hown hK hP 46 rfl rfl 2 (by decide) (hts _ (List.mem_cons_of_mem _ zt_f_X4_15)) (fun _ h9 => h9) rfl dX4_addWorld_20 ?_
    refine lv_aload_n hx hb dX4_addWorld_23 rfl (lv_at hl 0 rfl) ?_
    refine va_get (D := D) (ci := 4) (v := .int ((S2.1 23))) (C := RX4) (T := TX4) (N := 12) hx hb hts (zi_X4 _) hown hK hP 46 rfl rfl 10 (by decide) (hts _ (List.mem_cons_of_mem _ zt_f_X4_41)) (fun _ h9 => h9) rfl dX4_addWorld_24 ?_
    refine lv_lload_n hx hb dX4_addWorld_27 rfl (lv_at hl 2 rfl) ?_
    refine lv_lconst (v := 1) hx hb dX4_addWorld_28 (by decide) ?_
    refine lv_aload_n hx hb dX4_addWorld_29 rfl (lv_at hl 0 rfl) ?_
    refine va_get (D := D) (ci := 4) (v := .int ((S2.1 23))) (C := RX4) (T := TX4) (N := 12) hx hb hts (zi_X4 _) hown hK hP 46 rfl rfl 10 (by decide) (hts _ (List.mem_cons_of_mem _ zt_f_X4_41)) (fun _ h9 => h9) rfl dX4_addWorld_30 ?_
    refine lv_lshl (v := (mq_lshl (1 : Int64) (S2.1 23))) hx hb dX4_addWorld_33 rfl ?_
    refine lv_lor hx hb dX4_addWorld_34 ?_
    have hi3 := mq_ck_in h
    replace h := mq_ck_go h
    refine mq_last (w := wd_C a cI cL cB cZ z) (S := S2) (f := S2.2.2 7) hx hb hK hP hD hS 48 1 rfl rfl hi3 dX4_addWorld_35 7 (zs_wd_C_l_48_7 _ _ _ _ _ _ _ _) (fun S4 eS4 H locs hP hD hS => ?_)
    replace h := mq_nS_go eS4 h
    refine lv_aload_n hx hb dX4_addWorld_36 rfl (lv_at hl 0 rfl) ?_
    refine va_get (D := D) (ci := 4) (v := .ref (a 50)) (C := RX4) (T := TX4) (N := 12) hx hb hts (zi_X4 _) hown hK hP 46 rfl rfl 4 (by decide) (hts _ (List.mem_cons_of_mem _ zt_f_X4_22)) (fun _ h9 => h9) rfl dX4_addWorld_37 ?_
    refine lv_aload_n hx hb dX4_addWorld_40 rfl (lv_at hl 0 rfl) ?_
    refine va_get (D := D) (ci := 4) (v := .int ((S4.1 23))) (C := RX4) (T := TX4) (N := 12) hx hb hts (zi_X4 _) hown hK hP 46 rfl rfl 10 (by decide) (hts _ (List.mem_cons_of_mem _ zt_f_X4_41)) (fun _ h9 => h9) rfl dX4_addWorld_41 ?_
    refine lv_iload hx hb dX4_addWorld_44 (lv_at hl 3 rfl) ?_
    have hi5 := mq_ck_in h
    replace h := mq_ck_go h
    refine mq_iast (w := wd_C a cI cL cB cZ z) (S := S4) (f := S4.2.1 25) hx hb hK hP hD hS 50 0 rfl rfl hi5 dX4_addWorld_46 25 (zs_wd_C_a_50_25 _ _ _ _ _ _ _ _) (fun S6 eS6 H locs hP hD hS => ?_)
    replace h := mq_nS_go eS6 h
    refine lv_aload_n hx hb dX4_addWorld_47 rfl (lv_at hl 0 rfl) ?_
    refine lv_dup hx hb dX4_addWorld_48 rfl ?_
    refine va_get (D := D) (ci := 4) (v := .int ((S6.1 23))) (C := RX4) (T := TX4) (N := 12) hx hb hts (zi_X4 _) hown hK hP 46 rfl rfl 10 (by decide) (hts _ (List.mem_cons_of_mem _ zt_f_X4_41)) (fun _ h9 => h9) rfl dX4_addWorld_49 ?_
    refine lv_iconst (v := (1 : Int32)) hx hb dX4_addWorld_52 (by decide) ?_
    refine lv_iadd hx hb dX4_addWorld_53 ?_
    refine mq_put (w := wd_C a cI cL cB cZ z) (S := S6) (D := D) (ci := 4) (v := ((S6.1 23) + (1 : Int32))) (ty := .int) (C := RX4) (T := TX4) (N := 12) hx hb hts (zi_X4 _) tyX4 tyX4_ok nmX4 hown hK hP hD hS 46 rfl rfl 10 (by decide) (hts _ (List.mem_cons_of_mem _ zt_f_X4_41)) (fun _ h9 => h9) rfl (by decide +kernel) rfl rfl (Nat.le_of_ble_eq_true rfl) dX4_addWorld_54 23 (zs_wd_C_i_46_23 _ _ _ _ _ _ _ _) (fun S7 eS7 H locs hP hD hS => ?_)
    replace h := mq_nS_go eS7 h
    cases h
    exact hret H locs ls 57 dX4_addWorld_57 hP hD hS
set_option maxHeartbeats 4000000 in
set_option maxRecDepth 100000 in
theorem zm_X4_addWorld (l : Launch) (D : va_G) (a z : Nat → Nat) (cI cL cB cZ : ClassId) (sz N : Nat) (v1 : Int32) (v2 : Int64) (v4 : Int32) (S : mq_St) (res : Unit × mq_St) (h : zf_X4_addWorld N z v1 v2 v4 S = some res) : Met l yX4_addWorld (zc_X4_addWorld :: mq_T) zr_X4_addWorld (va_Pc [.ref (a 46), .int (v1), .long (v2), .int (v4)] (fun U => U.heap.size = sz ∧ va_P D vwCl (wd_C a cI cL cB cZ z S) U.heap ∧ va_K D vwCl (mq_tys cI cL cB cZ) U ∧ va_D (fun _ => True) (wd_C a cI cL cB cZ z S))) (va_Qv (fun u : mq_St => u = res.2) (fun u t => va_P D vwCl (wd_C a cI cL cB cZ z u) t.heap ∧ va_K D vwCl (mq_tys cI cL cB cZ) t ∧ va_D (va_A (wd_C a cI cL cB cZ z S) sz) (wd_C a cI cL cB cZ z u)) (va_A (wd_C a cI cL cB cZ z S) sz)) 0 0 (va_A (wd_C a cI cL cB cZ z S) sz) := by
  refine Met.ofW (cc := cX4_addWorld) (maxL := 5) (ret := none) (by decide) rfl ?_
  intro p e s m args below meth c s₁ B hml hv
  obtain ⟨rfl, hsz, hP, hK, hD0⟩ := hv
  have hr := B.returns
  have hlocks := B.notSynchronized
  have hts := atoms_spec (ws := zc_X4_addWorld :: mq_T) B.pre
  have hown : s.vm.findClass RX4 = some m.cls := findClass_of_methodNamed B.named
  subst hsz
  have hD := hD0.self (sz := s.heap.size)
  generalize hAe : va_A (wd_C a cI cL cB cZ z S) s.heap.size = A at hD ⊢
  have hA : ∀ q : Nat, s.heap.size ≤ q → A q := fun q h => by rw [← hAe]; exact Or.inr h
  have hl := lv_entry ([.ref (a 46), .int (v1), .long (v2), .int (v4)]) (n := 5) (Nat.le_of_ble_eq_true rfl)
  rw [lg_entry_eq]
  generalize (lg_sl ([.ref (a 46), .int (v1), .long (v2), .int (v4)]) ++ List.replicate (5 - (lg_sl ([.ref (a 46), .int (v1), .long (v2), .int (v4)])).length) Slot.unset).toArray = ls at hl ⊢
  have hl : lv_has ls 5 [(0, .ref (a 46)), (1, .int (v1)), (2, .long (v2)), (4, .int (v4))] := hl
  refine zw_X4_addWorld_0 (A := A) ⟨B.exec, B.bytes, hml, hown, hts, hK, hA⟩ (fun H locs ls pc dg hP hD hS => ?_) v1 v2 v4 S s.heap [] ls h hl hP hD va_S.rf
  exact W.vret B.exec B.bytes hr (fun t ht hW => ⟨⟨_, rfl, rfl, by rw [ht]; exact hP, va_K.moved hW.alike hK, hD⟩, hS.F ht⟩) hS.2.2 dg
theorem zt_X4_addWorld_c : zc_X4_addWorld ∈ mq_T := mq_T_mem (mq_t4 (List.mem_of_getElem? (i := 155) rfl)) rfl
theorem zt_X4_addWorld_i : Cond.instanceMethod yX4_addWorld ∈ mq_T := mq_T_mem (mq_t4 (List.mem_of_getElem? (i := 153) rfl)) rfl
theorem zt_X4_addWorld_s : Cond.selects RX4 yX4_addWorld yX4_addWorld ∈ mq_T := mq_T_mem (mq_t4 (List.mem_of_getElem? (i := 154) rfl)) rfl
set_option maxHeartbeats 4000000 in
theorem zk_X4_addWorld {p : Program} {l : Launch} {e : Env} {R : Room} {s : State} {m : MethodId} {args : Array Value} {below : List Frame} {meth : Method} {c : Code} {A : Nat → Prop} {D : va_G} {a z : Nat → Nat} {cI cL cB cZ : ClassId} {Q : State → Prop} {cc : ByteArray} {nL idx pc N : Nat} {own : String} {c1 : Cond} {H : Heap} {locs : List Loc} {ls : Array Slot} {rest : List Value} {S : mq_St} {res : Unit × mq_St} {v1 : Int32} {v2 : Int64} {v4 : Int32} (C : mq_C p s m args c A D cI cL cB cZ cc nL own c1) (hlk : Cond.methodLink own idx yX4_addWorld ∈ mq_T) (hR : zr_X4_addWorld.frames + 1 ≤ R.frames ∧ 8 + (5 + 11) + zr_X4_addWorld.locals ≤ R.locals) (h : zf_X4_addWorld N z v1 v2 v4 S = some res) (hP : va_P D vwCl (wd_C a cI cL cB cZ z S) H) (hD : va_D A (wd_C a cI cL cB cZ z S)) (hS : va_S A s.heap H locs) (hls : ls.size = nL) (hrest : (rest.map fun v => v.category).sum ≤ 8) (hdg : decode cc pc = .ok (.invokevirtual idx, 3)) (kk : ∀ (H1 : Heap) (locs1 : List Loc), va_P D vwCl (wd_C a cI cL cB cZ z res.2) H1 → va_D A (wd_C a cI cL cB cZ z res.2) → va_S A s.heap H1 locs1 → W p l e R s m args below meth c H1 locs1 0 0 Q (F0 m (pc + 3) ls rest)) : W p l e R s m args below meth c H locs 0 0 Q (F0 m pc ls (.int (v4) :: .long (v2) :: .int (v1) :: .ref (a 46) :: rest)) := by
  obtain ⟨hx, hb, hml, hown, hts, hK, hA⟩ := C
  have hFc := mq_freeI hD hS hA
  refine va_callv (va_runV (As := [.int (v1), .long (v2), .int (v4)]) (rest := rest) ⟨hx, hb, hml, hown, hts⟩ (zm_X4_addWorld l D a z cI cL cB cZ H.size N v1 v2 v4 S res h) (cwV 3 hts (mq_goodL (mq_wsV hlk zt_X4_addWorld_i zt_X4_addWorld_s zt_ini_X4 zt_X4_addWorld_c)) rfl rfl rfl (by decide +kernel) hR) ⟨fun a U g mk q => ⟨q.1, q.2.1, q.2.2.1, va_K.moved (u := U) (U := U.calling g mk a) (Vm.Alike.refl U.vm) q.2.2.2.1, q.2.2.2.2⟩, zy_C_46 hK hP, fun U hU hW => ⟨rfl, by rw [hU], by rw [hU]; exact hP, va_K.moved hW.alike hK, hD.weaken (fun _ _ _ _ => trivial)⟩⟩ rfl rfl hls rfl (lv_room hrest) hdg ⟨Nat.zero_le _, Nat.zero_le _⟩) hS (fun q _ h => hFc q h) hFc (fun u t H1 locs ht hvm hw hB hz1 hk1 hS => ?_)
  subst hw
  obtain ⟨hP1, hK1, hD1⟩ := hB
  rw [ht] at hP1
  exact kk H1 locs hP1 (hD1.weaken (fun _ _ _ h => hFc _ h)) hS
/-! ModalDesk$Model.has(I)Z -/
def zr_X4_has : Room := { frames := 0, cells := 0, slots := 0, locals := 0 }
def zc_X4_has : Cond := .code yX4_has cX4_has 2 (some .boolean)
def zf_X4_has (N : Nat) (z : Nat → Nat) (v1 : Int32) (S : mq_St) : Option (Int32) := (if v1 < (0 : Int32) then (mq_cz ((0 : Int32)) (some ((0 : Int32)))) else (if (S.1 23) ≤ v1 then (mq_cz ((0 : Int32)) (some ((0 : Int32)))) else (mq_cz ((1 : Int32)) (some ((1 : Int32))))))
set_option maxHeartbeats 4000000 in
set_option maxRecDepth 100000 in
theorem zw_X4_has_0 {p : Program} {l : Launch} {e : Env} {s : State} {m : MethodId} {args : Array Value} {below : List Frame} {meth : Method} {c : Code} {A : Nat → Prop} {D : va_G} {a z : Nat → Nat} {cI cL cB cZ : ClassId} {Q : State → Prop} {N : Nat} {S : mq_St} {res : Int32} (C : mq_C p s m args c A D cI cL cB cZ cX4_has 2 RX4 zc_X4_has) (hret : ∀ (H : Heap) (locs : List Loc) (ls : Array Slot) (pc : Nat), decode cX4_has pc = .ok (.ireturn, 1) → narrow .boolean (.int res) = .int res → va_P D vwCl (wd_C a cI cL cB cZ z S) H → va_D A (wd_C a cI cL cB cZ z S) → va_S A s.heap H locs → W p l e zr_X4_has s m args below meth c H locs 0 0 Q (F0 m pc ls [.int res])) (v1 : Int32) (H : Heap) (locs : List Loc) (ls : Array Slot) (h : zf_X4_has N z v1 S = some res) (hl : lv_has ls 2 [(0, .ref (a 46)), (1, .int (v1))]) (hP : va_P D vwCl (wd_C a cI cL cB cZ z S) H) (hD : va_D A (wd_C a cI cL cB cZ z S)) (hS : va_S A s.heap H locs) : W p l e zr_X4_has s m args below meth c H locs 0 0 Q (F0 m 0 ls []) := by
  obtain ⟨hx, hb, hml, hown, hts, hK, hA⟩ := id C
  unfold zf_X4_has at h
  refine lv_iload_n hx hb dX4_has_0 rfl (lv_at hl 1 rfl) ?_
  refine lv_if_lt (tgt := 16) hx hb dX4_has_1 (by decide) (fun c5 => ?_) (fun c5 => ?_)
  · replace h := mq_it c5 h
    refine lv_iconst (v := (0 : Int32)) hx hb dX4_has_16 (by decide) ?_
    have hz1 := mq_cz_in h
    replace h := mq_cz_go h
    cases h
    exact hret H locs ls 17 dX4_has_17 hz1.1 hP hD hS
  · replace h := mq_if c5 h
    refine lv_iload_n hx hb dX4_has_4 rfl (lv_at hl 1 rfl) ?_
    refine lv_aload_n hx hb dX4_has_5 rfl (lv_at hl 0 rfl) ?_
    refine va_get (D := D) (ci := 4) (v := .int ((S.1 23))) (C := RX4) (T := TX4) (N := 12) hx hb hts (zi_X4 _) hown hK hP 46 rfl rfl 10 (by decide) (hts _ (List.mem_cons_of_mem _ zt_f_X4_41)) (fun _ h9 => h9) rfl dX4_has_6 ?_
    refine lv_icmp_ge (tgt := 16) hx hb dX4_has_9 (by decide) (fun c4 => ?_) (fun c4 => ?_)
    · replace h := mq_it c4 h
      refine lv_iconst (v := (0 : Int32)) hx hb dX4_has_16 (by decide) ?_
      have hz2 := mq_cz_in h
      replace h := mq_cz_go h
      cases h
      exact hret H locs ls 17 dX4_has_17 hz2.1 hP hD hS
    · replace h := mq_if c4 h
      refine lv_iconst (v := (1 : Int32)) hx hb dX4_has_12 (by decide) ?_
      refine lv_goto (tgt := 17) hx hb dX4_has_13 (by decide) ?_
      have hz3 := mq_cz_in h
      replace h := mq_cz_go h
      cases h
      exact hret H locs ls 17 dX4_has_17 hz3.1 hP hD hS
set_option maxHeartbeats 4000000 in
set_option maxRecDepth 100000 in
theorem zm_X4_has (l : Launch) (D : va_G) (a z : Nat → Nat) (cI cL cB cZ : ClassId) (sz N : Nat) (v1 : Int32) (S : mq_St) (res : Int32) (h : zf_X4_has N z v1 S = some res) : Met l yX4_has (zc_X4_has :: mq_T) zr_X4_has (va_Pc [.ref (a 46), .int (v1)] (fun U => U.heap.size = sz ∧ va_P D vwCl (wd_C a cI cL cB cZ z S) U.heap ∧ va_K D vwCl (mq_tys cI cL cB cZ) U ∧ va_D (fun _ => True) (wd_C a cI cL cB cZ z S))) (va_Qi (fun (r : Int32) (u : mq_St) => r = res ∧ u = S) (fun u t => va_P D vwCl (wd_C a cI cL cB cZ z u) t.heap ∧ va_K D vwCl (mq_tys cI cL cB cZ) t ∧ va_D (va_A (wd_C a cI cL cB cZ z S) sz) (wd_C a cI cL cB cZ z u)) (va_A (wd_C a cI cL cB cZ z S) sz)) 0 0 (va_A (wd_C a cI cL cB cZ z S) sz) := by
  refine Met.ofW (cc := cX4_has) (maxL := 2) (ret := (some .boolean)) (by decide) rfl ?_
  intro p e s m args below meth c s₁ B hml hv
  obtain ⟨rfl, hsz, hP, hK, hD0⟩ := hv
  have hr := B.returns
  have hlocks := B.notSynchronized
  have hts := atoms_spec (ws := zc_X4_has :: mq_T) B.pre
  have hown : s.vm.findClass RX4 = some m.cls := findClass_of_methodNamed B.named
  subst hsz
  have hD := hD0.self (sz := s.heap.size)
  generalize hAe : va_A (wd_C a cI cL cB cZ z S) s.heap.size = A at hD ⊢
  have hA : ∀ q : Nat, s.heap.size ≤ q → A q := fun q h => by rw [← hAe]; exact Or.inr h
  have hl := lv_entry ([.ref (a 46), .int (v1)]) (n := 2) (Nat.le_of_ble_eq_true rfl)
  rw [lg_entry_eq]
  generalize (lg_sl ([.ref (a 46), .int (v1)]) ++ List.replicate (2 - (lg_sl ([.ref (a 46), .int (v1)])).length) Slot.unset).toArray = ls at hl ⊢
  have hl : lv_has ls 2 [(0, .ref (a 46)), (1, .int (v1))] := hl
  refine zw_X4_has_0 (A := A) ⟨B.exec, B.bytes, hml, hown, hts, hK, hA⟩ (fun H locs ls pc dg hz hP hD hS => ?_) v1 s.heap [] ls h hl hP hD va_S.rf
  exact W.zret B.exec B.bytes hr hz (fun t ht hW => ⟨⟨_, _, rfl, ⟨rfl, rfl⟩, by rw [ht]; exact hP, va_K.moved hW.alike hK, hD⟩, hS.F ht⟩) hS.2.2 dg
theorem zt_X4_has_c : zc_X4_has ∈ mq_T := mq_T_mem (mq_t4 (List.mem_of_getElem? (i := 167) rfl)) rfl
theorem zt_X4_has_i : Cond.instanceMethod yX4_has ∈ mq_T := mq_T_mem (mq_t4 (List.mem_of_getElem? (i := 165) rfl)) rfl
theorem zt_X4_has_s : Cond.selects RX4 yX4_has yX4_has ∈ mq_T := mq_T_mem (mq_t4 (List.mem_of_getElem? (i := 166) rfl)) rfl
set_option maxHeartbeats 4000000 in
theorem zk_X4_has {p : Program} {l : Launch} {e : Env} {R : Room} {s : State} {m : MethodId} {args : Array Value} {below : List Frame} {meth : Method} {c : Code} {A : Nat → Prop} {D : va_G} {a z : Nat → Nat} {cI cL cB cZ : ClassId} {Q : State → Prop} {cc : ByteArray} {nL idx pc N : Nat} {own : String} {c1 : Cond} {H : Heap} {locs : List Loc} {ls : Array Slot} {rest : List Value} {S : mq_St} {res : Int32} {v1 : Int32} (C : mq_C p s m args c A D cI cL cB cZ cc nL own c1) (hlk : Cond.methodLink own idx yX4_has ∈ mq_T) (hR : zr_X4_has.frames + 1 ≤ R.frames ∧ 8 + (2 + 11) + zr_X4_has.locals ≤ R.locals) (h : zf_X4_has N z v1 S = some res) (hP : va_P D vwCl (wd_C a cI cL cB cZ z S) H) (hD : va_D A (wd_C a cI cL cB cZ z S)) (hS : va_S A s.heap H locs) (hls : ls.size = nL) (hrest : (rest.map fun v => v.category).sum ≤ 8) (hdg : decode cc pc = .ok (.invokevirtual idx, 3)) (kk : ∀ (H1 : Heap) (locs1 : List Loc), va_P D vwCl (wd_C a cI cL cB cZ z S) H1 → va_D A (wd_C a cI cL cB cZ z S) → va_S A s.heap H1 locs1 → W p l e R s m args below meth c H1 locs1 0 0 Q (F0 m (pc + 3) ls (.int res :: rest))) : W p l e R s m args below meth c H locs 0 0 Q (F0 m pc ls (.int (v1) :: .ref (a 46) :: rest)) := by
  obtain ⟨hx, hb, hml, hown, hts, hK, hA⟩ := C
  have hFc := mq_freeI hD hS hA
  refine va_calli (va_runV (As := [.int (v1)]) (rest := rest) ⟨hx, hb, hml, hown, hts⟩ (zm_X4_has l D a z cI cL cB cZ H.size N v1 S res h) (cwV 1 hts (mq_goodL (mq_wsV hlk zt_X4_has_i zt_X4_has_s zt_ini_X4 zt_X4_has_c)) rfl rfl rfl (by decide +kernel) hR) ⟨fun a U g mk q => ⟨q.1, q.2.1, q.2.2.1, va_K.moved (u := U) (U := U.calling g mk a) (Vm.Alike.refl U.vm) q.2.2.2.1, q.2.2.2.2⟩, zy_C_46 hK hP, fun U hU hW => ⟨rfl, by rw [hU], by rw [hU]; exact hP, va_K.moved hW.alike hK, hD.weaken (fun _ _ _ _ => trivial)⟩⟩ rfl rfl hls rfl (lv_room hrest) hdg ⟨Nat.zero_le _, Nat.zero_le _⟩) hS (fun q _ h => hFc q h) hFc (fun r u t H1 locs ht hvm hw hB hz1 hk1 hS => ?_)
  obtain ⟨rfl, rfl⟩ := hw
  obtain ⟨hP1, hK1, hD1⟩ := hB
  rw [ht] at hP1
  exact kk H1 locs hP1 (hD1.weaken (fun _ _ _ h => hFc _ h)) hS
theorem zt_m_X4_56 : Cond.methodLink RX4 56 yX4_has ∈ mq_T := mq_T_mem (mq_t4 (List.mem_of_getElem? (i := 164) rfl)) rfl
/-! ModalDesk$Model.isSeen(II)Z -/
def zr_X4_isSeen : Room := { frames := 1, cells := 0, slots := 0, locals := 21 }
def zc_X4_isSeen : Cond := .code yX4_isSeen cX4_isSeen 3 (some .boolean)
def zf_X4_isSeen (N : Nat) (z : Nat → Nat) (v1 : Int32) (v2 : Int32) (S : mq_St) : Option (Int32) := (mq_cp (zf_X4_has N z (v1) S) (fun q1 => (if q1 = (0 : Int32) then (mq_cz ((0 : Int32)) (some ((0 : Int32)))) else (mq_cp (zf_X4_has N z (v2) S) (fun q4 => (if q4 = (0 : Int32) then (mq_cz ((0 : Int32)) (some ((0 : Int32)))) else (mq_ck (v1) 60 (if (lg_cmp ((mq_lushr (S.2.2 7 (v1).toNatClampNeg) v2) &&& (1 : Int64)) (0 : Int64)) = (0 : Int32) then (mq_cz ((0 : Int32)) (some ((0 : Int32)))) else (mq_cz ((1 : Int32)) (some ((1 : Int32))))))))))))
set_option maxHeartbeats 4000000 in
set_option maxRecDepth 100000 in
theorem zw_X4_isSeen_0 {p : Program} {l : Launch} {e : Env} {s : State} {m : MethodId} {args : Array Value} {below : List Frame} {meth : Method} {c : Code} {A : Nat → Prop} {D : va_G} {a z : Nat → Nat} {cI cL cB cZ : ClassId} {Q : State → Prop} {N : Nat} {S : mq_St} {res : Int32} (C : mq_C p s m args c A D cI cL cB cZ cX4_isSeen 3 RX4 zc_X4_isSeen) (hret : ∀ (H : Heap) (locs : List Loc) (ls : Array Slot) (pc : Nat), decode cX4_isSeen pc = .ok (.ireturn, 1) → narrow .boolean (.int res) = .int res → va_P D vwCl (wd_C a cI cL cB cZ z S) H → va_D A (wd_C a cI cL cB cZ z S) → va_S A s.heap H locs → W p l e zr_X4_isSeen s m args below meth c H locs 0 0 Q (F0 m pc ls [.int res])) (v1 : Int32) (v2 : Int32) (H : Heap) (locs : List Loc) (ls : Array Slot) (h : zf_X4_isSeen N z v1 v2 S = some res) (hl : lv_has ls 3 [(0, .ref (a 46)), (1, .int (v1)), (2, .int (v2))]) (hP : va_P D vwCl (wd_C a cI cL cB cZ z S) H) (hD : va_D A (wd_C a cI cL cB cZ z S)) (hS : va_S A s.heap H locs) : W p l e zr_X4_isSeen s m args below meth c H locs 0 0 Q (F0 m 0 ls []) := by
  obtain ⟨hx, hb, hml, hown, hts, hK, hA⟩ := id C
  unfold zf_X4_isSeen at h
  refine lv_aload_n hx hb dX4_isSeen_0 rfl (lv_at hl 0 rfl) ?_
  refine lv_iload_n hx hb dX4_isSeen_1 rfl (lv_at hl 1 rfl) ?_
  obtain ⟨q1, hc2, h⟩ := mq_cp_go h
  refine zk_X4_has C zt_m_X4_56 ⟨by decide, by decide⟩ hc2 hP hD hS hl.1 (Nat.le_of_ble_eq_true rfl) dX4_isSeen_2 (fun H locs hP hD hS => ?_)
  refine lv_if_eq (tgt := 35) hx hb dX4_isSeen_5 (by decide) (fun c12 => ?_) (fun c12 => ?_)
  · replace h := mq_it c12 h
    refine lv_iconst (v := (0 : Int32)) hx hb dX4_isSeen_35 (by decide) ?_
    have hz3 := mq_cz_in h
    replace h := mq_cz_go h
    cases h
    exact hret H locs ls 36 dX4_isSeen_36 hz3.1 hP hD hS
  · replace h := mq_if c12 h
    refine lv_aload_n hx hb dX4_isSeen_8 rfl (lv_at hl 0 rfl) ?_
    refine lv_iload_n hx hb dX4_isSeen_9 rfl (lv_at hl 2 rfl) ?_
    obtain ⟨q4, hc5, h⟩ := mq_cp_go h
    refine zk_X4_has C zt_m_X4_56 ⟨by decide, by decide⟩ hc5 hP hD hS hl.1 (Nat.le_of_ble_eq_true rfl) dX4_isSeen_10 (fun H locs hP hD hS => ?_)
    refine lv_if_eq (tgt := 35) hx hb dX4_isSeen_13 (by decide) (fun c11 => ?_) (fun c11 => ?_)
    · replace h := mq_it c11 h
      refine lv_iconst (v := (0 : Int32)) hx hb dX4_isSeen_35 (by decide) ?_
      have hz6 := mq_cz_in h
      replace h := mq_cz_go h
      cases h
      exact hret H locs ls 36 dX4_isSeen_36 hz6.1 hP hD hS
    · replace h := mq_if c11 h
      refine lv_aload_n hx hb dX4_isSeen_16 rfl (lv_at hl 0 rfl) ?_
      refine va_get (D := D) (ci := 4) (v := .ref (a 48)) (C := RX4) (T := TX4) (N := 12) hx hb hts (zi_X4 _) hown hK hP 46 rfl rfl 2 (by decide) (hts _ (List.mem_cons_of_mem _ zt_f_X4_15)) (fun _ h9 => h9) rfl dX4_isSeen_17 ?_
      refine lv_iload_n hx hb dX4_isSeen_20 rfl (lv_at hl 1 rfl) ?_
      have hi7 := mq_ck_in h
      replace h := mq_ck_go h
      refine va_lald (f := S.2.2 7) hx hb hK hP 48 1 rfl rfl hi7 dX4_isSeen_21 ?_
      refine lv_iload_n hx hb dX4_isSeen_22 rfl (lv_at hl 2 rfl) ?_
      refine lv_lushr (v := (mq_lushr (S.2.2 7 (v1).toNatClampNeg) v2)) hx hb dX4_isSeen_23 rfl ?_
      refine lv_lconst (v := 1) hx hb dX4_isSeen_24 (by decide) ?_
      refine lv_land hx hb dX4_isSeen_25 ?_
      refine lv_lconst (v := 0) hx hb dX4_isSeen_26 (by decide) ?_
      refine W.lcmp hx hb dX4_isSeen_27 ?_
      refine lv_if_eq (tgt := 35) hx hb dX4_isSeen_28 (by decide) (fun c10 => ?_) (fun c10 => ?_)
      · replace h := mq_it c10 h
        refine lv_iconst (v := (0 : Int32)) hx hb dX4_isSeen_35 (by decide) ?_
        have hz8 := mq_cz_in h
        replace h := mq_cz_go h
        cases h
        exact hret H locs ls 36 dX4_isSeen_36 hz8.1 hP hD hS
      · replace h := mq_if c10 h
        refine lv_iconst (v := (1 : Int32)) hx hb dX4_isSeen_31 (by decide) ?_
        refine lv_goto (tgt := 36) hx hb dX4_isSeen_32 (by decide) ?_
        have hz9 := mq_cz_in h
        replace h := mq_cz_go h
        cases h
        exact hret H locs ls 36 dX4_isSeen_36 hz9.1 hP hD hS
set_option maxHeartbeats 4000000 in
set_option maxRecDepth 100000 in
theorem zm_X4_isSeen (l : Launch) (D : va_G) (a z : Nat → Nat) (cI cL cB cZ : ClassId) (sz N : Nat) (v1 : Int32) (v2 : Int32) (S : mq_St) (res : Int32) (h : zf_X4_isSeen N z v1 v2 S = some res) : Met l yX4_isSeen (zc_X4_isSeen :: mq_T) zr_X4_isSeen (va_Pc [.ref (a 46), .int (v1), .int (v2)] (fun U => U.heap.size = sz ∧ va_P D vwCl (wd_C a cI cL cB cZ z S) U.heap ∧ va_K D vwCl (mq_tys cI cL cB cZ) U ∧ va_D (fun _ => True) (wd_C a cI cL cB cZ z S))) (va_Qi (fun (r : Int32) (u : mq_St) => r = res ∧ u = S) (fun u t => va_P D vwCl (wd_C a cI cL cB cZ z u) t.heap ∧ va_K D vwCl (mq_tys cI cL cB cZ) t ∧ va_D (va_A (wd_C a cI cL cB cZ z S) sz) (wd_C a cI cL cB cZ z u)) (va_A (wd_C a cI cL cB cZ z S) sz)) 0 0 (va_A (wd_C a cI cL cB cZ z S) sz) := by
  refine Met.ofW (cc := cX4_isSeen) (maxL := 3) (ret := (some .boolean)) (by decide) rfl ?_
  intro p e s m args below meth c s₁ B hml hv
  obtain ⟨rfl, hsz, hP, hK, hD0⟩ := hv
  have hr := B.returns
  have hlocks := B.notSynchronized
  have hts := atoms_spec (ws := zc_X4_isSeen :: mq_T) B.pre
  have hown : s.vm.findClass RX4 = some m.cls := findClass_of_methodNamed B.named
  subst hsz
  have hD := hD0.self (sz := s.heap.size)
  generalize hAe : va_A (wd_C a cI cL cB cZ z S) s.heap.size = A at hD ⊢
  have hA : ∀ q : Nat, s.heap.size ≤ q → A q := fun q h => by rw [← hAe]; exact Or.inr h
  have hl := lv_entry ([.ref (a 46), .int (v1), .int (v2)]) (n := 3) (Nat.le_of_ble_eq_true rfl)
  rw [lg_entry_eq]
  generalize (lg_sl ([.ref (a 46), .int (v1), .int (v2)]) ++ List.replicate (3 - (lg_sl ([.ref (a 46), .int (v1), .int (v2)])).length) Slot.unset).toArray = ls at hl ⊢
  have hl : lv_has ls 3 [(0, .ref (a 46)), (1, .int (v1)), (2, .int (v2))] := hl
  refine zw_X4_isSeen_0 (A := A) ⟨B.exec, B.bytes, hml, hown, hts, hK, hA⟩ (fun H locs ls pc dg hz hP hD hS => ?_) v1 v2 s.heap [] ls h hl hP hD va_S.rf
  exact W.zret B.exec B.bytes hr hz (fun t ht hW => ⟨⟨_, _, rfl, ⟨rfl, rfl⟩, by rw [ht]; exact hP, va_K.moved hW.alike hK, hD⟩, hS.F ht⟩) hS.2.2 dg
theorem zt_X4_isSeen_c : zc_X4_isSeen ∈ mq_T := mq_T_mem (mq_t4 (List.mem_of_getElem? (i := 163) rfl)) rfl
theorem zt_X4_isSeen_i : Cond.instanceMethod yX4_isSeen ∈ mq_T := mq_T_mem (mq_t4 (List.mem_of_getElem? (i := 161) rfl)) rfl
theorem zt_X4_isSeen_s : Cond.selects RX4 yX4_isSeen yX4_isSeen ∈ mq_T := mq_T_mem (mq_t4 (List.mem_of_getElem? (i := 162) rfl)) rfl
set_option maxHeartbeats 4000000 in
theorem zk_X4_isSeen {p : Program} {l : Launch} {e : Env} {R : Room} {s : State} {m : MethodId} {args : Array Value} {below : List Frame} {meth : Method} {c : Code} {A : Nat → Prop} {D : va_G} {a z : Nat → Nat} {cI cL cB cZ : ClassId} {Q : State → Prop} {cc : ByteArray} {nL idx pc N : Nat} {own : String} {c1 : Cond} {H : Heap} {locs : List Loc} {ls : Array Slot} {rest : List Value} {S : mq_St} {res : Int32} {v1 : Int32} {v2 : Int32} (C : mq_C p s m args c A D cI cL cB cZ cc nL own c1) (hlk : Cond.methodLink own idx yX4_isSeen ∈ mq_T) (hR : zr_X4_isSeen.frames + 1 ≤ R.frames ∧ 8 + (3 + 11) + zr_X4_isSeen.locals ≤ R.locals) (h : zf_X4_isSeen N z v1 v2 S = some res) (hP : va_P D vwCl (wd_C a cI cL cB cZ z S) H) (hD : va_D A (wd_C a cI cL cB cZ z S)) (hS : va_S A s.heap H locs) (hls : ls.size = nL) (hrest : (rest.map fun v => v.category).sum ≤ 8) (hdg : decode cc pc = .ok (.invokevirtual idx, 3)) (kk : ∀ (H1 : Heap) (locs1 : List Loc), va_P D vwCl (wd_C a cI cL cB cZ z S) H1 → va_D A (wd_C a cI cL cB cZ z S) → va_S A s.heap H1 locs1 → W p l e R s m args below meth c H1 locs1 0 0 Q (F0 m (pc + 3) ls (.int res :: rest))) : W p l e R s m args below meth c H locs 0 0 Q (F0 m pc ls (.int (v2) :: .int (v1) :: .ref (a 46) :: rest)) := by
  obtain ⟨hx, hb, hml, hown, hts, hK, hA⟩ := C
  have hFc := mq_freeI hD hS hA
  refine va_calli (va_runV (As := [.int (v1), .int (v2)]) (rest := rest) ⟨hx, hb, hml, hown, hts⟩ (zm_X4_isSeen l D a z cI cL cB cZ H.size N v1 v2 S res h) (cwV 2 hts (mq_goodL (mq_wsV hlk zt_X4_isSeen_i zt_X4_isSeen_s zt_ini_X4 zt_X4_isSeen_c)) rfl rfl rfl (by decide +kernel) hR) ⟨fun a U g mk q => ⟨q.1, q.2.1, q.2.2.1, va_K.moved (u := U) (U := U.calling g mk a) (Vm.Alike.refl U.vm) q.2.2.2.1, q.2.2.2.2⟩, zy_C_46 hK hP, fun U hU hW => ⟨rfl, by rw [hU], by rw [hU]; exact hP, va_K.moved hW.alike hK, hD.weaken (fun _ _ _ _ => trivial)⟩⟩ rfl rfl hls rfl (lv_room hrest) hdg ⟨Nat.zero_le _, Nat.zero_le _⟩) hS (fun q _ h => hFc q h) hFc (fun r u t H1 locs ht hvm hw hB hz1 hk1 hS => ?_)
  obtain ⟨rfl, rfl⟩ := hw
  obtain ⟨hP1, hK1, hD1⟩ := hB
  rw [ht] at hP1
  exact kk H1 locs hP1 (hD1.weaken (fun _ _ _ h => hFc _ h)) hS
theorem zt_m_X4_52 : Cond.methodLink RX4 52 yX4_isSeen ∈ mq_T := mq_T_mem (mq_t4 (List.mem_of_getElem? (i := 160) rfl)) rfl
/-! ModalDesk$Model.closeSight()V -/
def zr_X4_closeSight : Room := { frames := 2, cells := 0, slots := 0, locals := 43 }
def zc_X4_closeSight : Cond := .code yX4_closeSight cX4_closeSight 3 none
def zf_X4_closeSight_44 (N : Nat) (z : Nat → Nat) (k2 : Int32 → mq_St → Option (Unit × mq_St)) (k12 : Int32 → Int32 → mq_St → Option (Unit × mq_St)) (v1 : Int32) (v2 : Int32) (S : mq_St) : Option (Unit × mq_St) := (mq_nI (v2 + (1 : Int32)) (fun x13 => (k12 (v1) (x13) S)))
def zf_X4_closeSight_12b (N : Nat) (z : Nat → Nat) (k2 : Int32 → mq_St → Option (Unit × mq_St)) (k12 : Int32 → Int32 → mq_St → Option (Unit × mq_St)) (v1 : Int32) (v2 : Int32) (S : mq_St) : Option (Unit × mq_St) := (if (S.1 23) ≤ v2 then (mq_nI (v1 + (1 : Int32)) (fun x4 => (k2 (x4) S))) else (mq_cp (zf_X4_isSeen N z (v2) (v1) S) (fun q5 => (if q5 = (0 : Int32) then (zf_X4_closeSight_44 N z k2 k12 (v1) (v2) S) else (mq_ck (v2) 60 (mq_ck (v1) 60 (mq_ck (v2) 60 (mq_nS (mq_sl S 7 (vp_updL (S.2.2 7) (v2).toNatClampNeg (((S.2.2 7 (v2).toNatClampNeg) ||| (S.2.2 7 (v1).toNatClampNeg))))) (fun S10 => (zf_X4_closeSight_44 N z k2 k12 (v1) (v2) S10))))))))))
def zf_X4_closeSight_12 (N : Nat) (z : Nat → Nat) (k2 : Int32 → mq_St → Option (Unit × mq_St)) : Nat → Int32 → Int32 → mq_St → Option (Unit × mq_St)
  | 0, _, _, _ => none
  | n + 1, v1, v2, S => zf_X4_closeSight_12b N z k2 (fun v1 v2 S => zf_X4_closeSight_12 N z k2 n v1 v2 S) v1 v2 S
def zf_X4_closeSight_2b (N : Nat) (z : Nat → Nat) (k2 : Int32 → mq_St → Option (Unit × mq_St)) (v1 : Int32) (S : mq_St) : Option (Unit × mq_St) := (if (S.1 23) ≤ v1 then (some ((), S)) else (mq_nI ((0 : Int32)) (fun x2 => (zf_X4_closeSight_12 N z k2 N (v1) (x2) S))))
def zf_X4_closeSight_2 (N : Nat) (z : Nat → Nat) : Nat → Int32 → mq_St → Option (Unit × mq_St)
  | 0, _, _ => none
  | n + 1, v1, S => zf_X4_closeSight_2b N z (fun v1 S => zf_X4_closeSight_2 N z n v1 S) v1 S
def zf_X4_closeSight (N : Nat) (z : Nat → Nat) (S : mq_St) : Option (Unit × mq_St) := (mq_nI ((0 : Int32)) (fun x1 => (zf_X4_closeSight_2 N z N (x1) S)))
set_option maxHeartbeats 4000000 in
set_option maxRecDepth 100000 in
theorem zw_X4_closeSight_44 {p : Program} {l : Launch} {e : Env} {s : State} {m : MethodId} {args : Array Value} {below : List Frame} {meth : Method} {c : Code} {A : Nat → Prop} {D : va_G} {a z : Nat → Nat} {cI cL cB cZ : ClassId} {Q : State → Prop} {N : Nat} {res : Unit × mq_St} {k2 : Int32 → mq_St → Option (Unit × mq_St)} {k12 : Int32 → Int32 → mq_St → Option (Unit × mq_St)} (C : mq_C p s m args c A D cI cL cB cZ cX4_closeSight 3 RX4 zc_X4_closeSight) (hret : ∀ (H : Heap) (locs : List Loc) (ls : Array Slot) (pc : Nat), decode cX4_closeSight pc = .ok (.return_, 1) → va_P D vwCl (wd_C a cI cL cB cZ z res.2) H → va_D A (wd_C a cI cL cB cZ z res.2) → va_S A s.heap H locs → W p l e zr_X4_closeSight s m args below meth c H locs 0 0 Q (F0 m pc ls [])) (hk2 : ∀ (v1 : Int32) (S : mq_St) (H : Heap) (locs : List Loc) (ls : Array Slot), k2 v1 S = some res → lv_has ls 3 [(0, .ref (a 46)), (1, .int (v1))] → va_P D vwCl (wd_C a cI cL cB cZ z S) H → va_D A (wd_C a cI cL cB cZ z S) → va_S A s.heap H locs → W p l e zr_X4_closeSight s m args below meth c H locs 0 0 Q (F0 m 2 ls [])) (hk12 : ∀ (v1 : Int32) (v2 : Int32) (S : mq_St) (H : Heap) (locs : List Loc) (ls : Array Slot), k12 v1 v2 S = some res → lv_has ls 3 [(0, .ref (a 46)), (1, .int (v1)), (2, .int (v2))] → va_P D vwCl (wd_C a cI cL cB cZ z S) H → va_D A (wd_C a cI cL cB cZ z S) → va_S A s.heap H locs → W p l e zr_X4_closeSight s m args below meth c H locs 0 0 Q (F0 m 12 ls [])) (v1 : Int32) (v2 : Int32) (S : mq_St) (H : Heap) (locs : List Loc) (ls : Array Slot) (h : zf_X4_closeSight_44 N z k2 k12 v1 v2 S = some res) (hl : lv_has ls 3 [(0, .ref (a 46)), (1, .int (v1)), (2, .int (v2))]) (hP : va_P D vwCl (wd_C a cI cL cB cZ z S) H) (hD : va_D A (wd_C a cI cL cB cZ z S)) (hS : va_S A s.heap H locs) : W p l e zr_X4_closeSight s m args below meth c H locs 0 0 Q (F0 m 44 ls []) := by
  obtain ⟨hx, hb, hml, hown, hts, hK, hA⟩ := id C
  unfold zf_X4_closeSight_44 at h
  obtain ⟨x13, ex13⟩ : ∃ y : Int32, y = v2 + (1 : Int32) := ⟨_, rfl⟩
  replace h := mq_nI_go ex13 h
  refine lv_iinc (v := x13) (lv' := [(2, .int (x13)), (0, .ref (a 46)), (1, .int (v1))]) hx hb dX4_closeSight_44 hl (k := 2) rfl (by rw [ex13]; rfl) (by decide) rfl (fun ls hl => ?_)
  refine lv_goto (tgt := 12) hx hb dX4_closeSight_47 (by decide) ?_
  exact hk12 (v1) (x13) S H locs ls h (lv_sub hl [1, 2, 0] rfl) hP hD hS
set_option maxHeartbeats 4000000 in
set_option maxRecDepth 100000 in
theorem zw_X4_closeSight_12b {p : Program} {l : Launch} {e : Env} {s : State} {m : MethodId} {args : Array Value} {below : List Frame} {meth : Method} {c : Code} {A : Nat → Prop} {D : va_G} {a z : Nat → Nat} {cI cL cB cZ : ClassId} {Q : State → Prop} {N : Nat} {res : Unit × mq_St} {k2 : Int32 → mq_St → Option (Unit × mq_St)} {k12 : Int32 → Int32 → mq_St → Option (Unit × mq_St)} (C : mq_C p s m args c A D cI cL cB cZ cX4_closeSight 3 RX4 zc_X4_closeSight) (hret : ∀ (H : Heap) (locs : List Loc) (ls : Array Slot) (pc : Nat), decode cX4_closeSight pc = .ok (.return_, 1) → va_P D vwCl (wd_C a cI cL cB cZ z res.2) H → va_D A (wd_C a cI cL cB cZ z res.2) → va_S A s.heap H locs → W p l e zr_X4_closeSight s m args below meth c H locs 0 0 Q (F0 m pc ls [])) (hk2 : ∀ (v1 : Int32) (S : mq_St) (H : Heap) (locs : List Loc) (ls : Array Slot), k2 v1 S = some res → lv_has ls 3 [(0, .ref (a 46)), (1, .int (v1))] → va_P D vwCl (wd_C a cI cL cB cZ z S) H → va_D A (wd_C a cI cL cB cZ z S) → va_S A s.heap H locs → W p l e zr_X4_closeSight s m args below meth c H locs 0 0 Q (F0 m 2 ls [])) (hk12 : ∀ (v1 : Int32) (v2 : Int32) (S : mq_St) (H : Heap) (locs : List Loc) (ls : Array Slot), k12 v1 v2 S = some res → lv_has ls 3 [(0, .ref (a 46)), (1, .int (v1)), (2, .int (v2))] → va_P D vwCl (wd_C a cI cL cB cZ z S) H → va_D A (wd_C a cI cL cB cZ z S) → va_S A s.heap H locs → W p l e zr_X4_closeSight s m args below meth c H locs 0 0 Q (F0 m 12 ls [])) (v1 : Int32) (v2 : Int32) (S : mq_St) (H : Heap) (locs : List Loc) (ls : Array Slot) (h : zf_X4_closeSight_12b N z k2 k12 v1 v2 S = some res) (hl : lv_has ls 3 [(0, .ref (a 46)), (1, .int (v1)), (2, .int (v2))]) (hP : va_P D vwCl (wd_C a cI cL cB cZ z S) H) (hD : va_D A (wd_C a cI cL cB cZ z S)) (hS : va_S A s.heap H locs) : W p l e zr_X4_closeSight s m args below meth c H locs 0 0 Q (F0 m 12 ls []) := by
  obtain ⟨hx, hb, hml, hown, hts, hK, hA⟩ := id C
  unfold zf_X4_closeSight_12b at h
  refine lv_iload_n hx hb dX4_closeSight_12 rfl (lv_at hl 2 rfl) ?_
  refine lv_aload_n hx hb dX4_closeSight_13 rfl (lv_at hl 0 rfl) ?_
  refine va_get (D := D) (ci := 4) (v := .int ((S.1 23))) (C := RX4) (T := TX4) (N := 12) hx hb hts (zi_X4 _) hown hK hP 46 rfl rfl 10 (by decide) (hts _ (List.mem_cons_of_mem _ zt_f_X4_41)) (fun _ h9 => h9) rfl dX4_closeSight_14 ?_
  refine lv_icmp_ge (tgt := 50) hx hb dX4_closeSight_17 (by decide) (fun c12 => ?_) (fun c12 => ?_)
  · replace h := mq_it c12 h
    obtain ⟨x4, ex4⟩ : ∃ y : Int32, y = v1 + (1 : Int32) := ⟨_, rfl⟩
    replace h := mq_nI_go ex4 h
    refine lv_iinc (v := x4) (lv' := [(1, .int (x4)), (0, .ref (a 46)), (2, .int (v2))]) hx hb dX4_closeSight_50 hl (k := 1) rfl (by rw [ex4]; rfl) (by decide) rfl (fun ls hl => ?_)
    refine lv_goto (tgt := 2) hx hb dX4_closeSight_53 (by decide) ?_
    exact hk2 (x4) S H locs ls h (lv_sub hl [1, 0] rfl) hP hD hS
  · replace h := mq_if c12 h
    refine lv_aload_n hx hb dX4_closeSight_20 rfl (lv_at hl 0 rfl) ?_
    refine lv_iload_n hx hb dX4_closeSight_21 rfl (lv_at hl 2 rfl) ?_
    refine lv_iload_n hx hb dX4_closeSight_22 rfl (lv_at hl 1 rfl) ?_
    obtain ⟨q5, hc6, h⟩ := mq_cp_go h
    refine zk_X4_isSeen C zt_m_X4_52 ⟨by decide, by decide⟩ hc6 hP hD hS hl.1 (Nat.le_of_ble_eq_true rfl) dX4_closeSight_23 (fun H locs hP hD hS => ?_)
    refine lv_if_eq (tgt := 44) hx hb dX4_closeSight_26 (by decide) (fun c11 => ?_) (fun c11 => ?_)
    · replace h := mq_it c11 h
      exact zw_X4_closeSight_44 C hret hk2 hk12 (v1) (v2) S H locs ls h (lv_sub hl [0, 1, 2] rfl) hP hD hS
    · replace h := mq_if c11 h
      refine lv_aload_n hx hb dX4_closeSight_29 rfl (lv_at hl 0 rfl) ?_
      refine va_get (D := D) (ci := 4) (v := .ref (a 48)) (C := RX4) (T := TX4) (N := 12) hx hb hts (zi_X4 _) hown hK hP 46 rfl rfl 2 (by decide) (hts _ (List.mem_cons_of_mem _ zt_f_X4_15)) (fun _ h9 => h9) rfl dX4_closeSight_30 ?_
      refine lv_iload_n hx hb dX4_closeSight_33 rfl (lv_at hl 2 rfl) ?_
      refine lv_dup2_11 hx hb dX4_closeSight_34 rfl rfl ?_
      have hi7 := mq_ck_in h
      replace h := mq_ck_go h
      refine va_lald (f := S.2.2 7) hx hb hK hP 48 1 rfl rfl hi7 dX4_closeSight_35 ?_
      refine lv_aload_n hx hb dX4_closeSight_36 rfl (lv_at hl 0 rfl) ?_
      refine va_get (D := D) (ci := 4) (v := .ref (a 48)) (C := RX4) (T := TX4) (N := 12) hx hb hts (zi_X4 _) hown hK hP 46 rfl rfl 2 (by decide) (hts _ (List.mem_cons_of_mem _ zt_f_X4_15)) (fun _ h9 => h9) rfl dX4_closeSight_37 ?_
      refine lv_iload_n hx hb dX4_closeSight_40 rfl (lv_at hl 1 rfl) ?_
      have hi8 := mq_ck_in h
      replace h := mq_ck_go h
      refine va_lald (f := S.2.2 7) hx hb hK hP 48 1 rfl rfl hi8 dX4_closeSight_41 ?_
      refine lv_lor hx hb dX4_closeSight_42 ?_
      have hi9 := mq_ck_in h
      replace h := mq_ck_go h
      refine mq_last (w := wd_C a cI cL cB cZ z) (S := S) (f := S.2.2 7) hx hb hK hP hD hS 48 1 rfl rfl hi9 dX4_closeSight_43 7 (zs_wd_C_l_48_7 _ _ _ _ _ _ _ _) (fun S10 eS10 H locs hP hD hS => ?_)
      replace h := mq_nS_go eS10 h
      exact zw_X4_closeSight_44 C hret hk2 hk12 (v1) (v2) S10 H locs ls h (lv_sub hl [0, 1, 2] rfl) hP hD hS
set_option maxHeartbeats 4000000 in
set_option maxRecDepth 100000 in
theorem zw_X4_closeSight_12 {p : Program} {l : Launch} {e : Env} {s : State} {m : MethodId} {args : Array Value} {below : List Frame} {meth : Method} {c : Code} {A : Nat → Prop} {D : va_G} {a z : Nat → Nat} {cI cL cB cZ : ClassId} {Q : State → Prop} {N : Nat} {res : Unit × mq_St} {k2 : Int32 → mq_St → Option (Unit × mq_St)} (C : mq_C p s m args c A D cI cL cB cZ cX4_closeSight 3 RX4 zc_X4_closeSight) (hret : ∀ (H : Heap) (locs : List Loc) (ls : Array Slot) (pc : Nat), decode cX4_closeSight pc = .ok (.return_, 1) → va_P D vwCl (wd_C a cI cL cB cZ z res.2) H → va_D A (wd_C a cI cL cB cZ z res.2) → va_S A s.heap H locs → W p l e zr_X4_closeSight s m args below meth c H locs 0 0 Q (F0 m pc ls [])) (hk2 : ∀ (v1 : Int32) (S : mq_St) (H : Heap) (locs : List Loc) (ls : Array Slot), k2 v1 S = some res → lv_has ls 3 [(0, .ref (a 46)), (1, .int (v1))] → va_P D vwCl (wd_C a cI cL cB cZ z S) H → va_D A (wd_C a cI cL cB cZ z S) → va_S A s.heap H locs → W p l e zr_X4_closeSight s m args below meth c H locs 0 0 Q (F0 m 2 ls [])) : ∀ (n : Nat) (v1 : Int32) (v2 : Int32) (S : mq_St) (H : Heap) (locs : List Loc) (ls : Array Slot) (h : zf_X4_closeSight_12 N z k2 n v1 v2 S = some res) (hl : lv_has ls 3 [(0, .ref (a 46)), (1, .int (v1)), (2, .int (v2))]) (hP : va_P D vwCl (wd_C a cI cL cB cZ z S) H) (hD : va_D A (wd_C a cI cL cB cZ z S)) (hS : va_S A s.heap H locs), W p l e zr_X4_closeSight s m args below meth c H locs 0 0 Q (F0 m 12 ls []) := by
  intro n
  induction n with
  | zero =>
    intro v1 v2 S H locs ls h hl hP hD hS
    exact nomatch (show (none : Option (Unit × mq_St)) = some res from h)
  | succ n ih =>
    intro v1 v2 S H locs ls h hl hP hD hS
    exact zw_X4_closeSight_12b C hret hk2 (fun v1 v2 S H locs ls h hl hP hD hS => ih v1 v2 S H locs ls h hl hP hD hS) v1 v2 S H locs ls h hl hP hD hS
set_option maxHeartbeats 4000000 in
set_option maxRecDepth 100000 in
theorem zw_X4_closeSight_2b {p : Program} {l : Launch} {e : Env} {s : State} {m : MethodId} {args : Array Value} {below : List Frame} {meth : Method} {c : Code} {A : Nat → Prop} {D : va_G} {a z : Nat → Nat} {cI cL cB cZ : ClassId} {Q : State → Prop} {N : Nat} {res : Unit × mq_St} {k2 : Int32 → mq_St → Option (Unit × mq_St)} (C : mq_C p s m args c A D cI cL cB cZ cX4_closeSight 3 RX4 zc_X4_closeSight) (hret : ∀ (H : Heap) (locs : List Loc) (ls : Array Slot) (pc : Nat), decode cX4_closeSight pc = .ok (.return_, 1) → va_P D vwCl (wd_C a cI cL cB cZ z res.2) H → va_D A (wd_C a cI cL cB cZ z res.2) → va_S A s.heap H locs → W p l e zr_X4_closeSight s m args below meth c H locs 0 0 Q (F0 m pc ls [])) (hk2 : ∀ (v1 : Int32) (S : mq_St) (H : Heap) (locs : List Loc) (ls : Array Slot), k2 v1 S = some res → lv_has ls 3 [(0, .ref (a 46)), (1, .int (v1))] → va_P D vwCl (wd_C a cI cL cB cZ z S) H → va_D A (wd_C a cI cL cB cZ z S) → va_S A s.heap H locs → W p l e zr_X4_closeSight s m args below meth c H locs 0 0 Q (F0 m 2 ls [])) (v1 : Int32) (S : mq_St) (H : Heap) (locs : List Loc) (ls : Array Slot) (h : zf_X4_closeSight_2b N z k2 v1 S = some res) (hl : lv_has ls 3 [(0, .ref (a 46)), (1, .int (v1))]) (hP : va_P D vwCl (wd_C a cI cL cB cZ z S) H) (hD : va_D A (wd_C a cI cL cB cZ z S)) (hS : va_S A s.heap H locs) : W p l e zr_X4_closeSight s m args below meth c H locs 0 0 Q (F0 m 2 ls []) := by
  obtain ⟨hx, hb, hml, hown, hts, hK, hA⟩ := id C
  unfold zf_X4_closeSight_2b at h
  refine lv_iload_n hx hb dX4_closeSight_2 rfl (lv_at hl 1 rfl) ?_
  refine lv_aload_n hx hb dX4_closeSight_3 rfl (lv_at hl 0 rfl) ?_
  refine va_get (D := D) (ci := 4) (v := .int ((S.1 23))) (C := RX4) (T := TX4) (N := 12) hx hb hts (zi_X4 _) hown hK hP 46 rfl rfl 10 (by decide) (hts _ (List.mem_cons_of_mem _ zt_f_X4_41)) (fun _ h9 => h9) rfl dX4_closeSight_4 ?_
  refine lv_icmp_ge (tgt := 56) hx hb dX4_closeSight_7 (by decide) (fun c3 => ?_) (fun c3 => ?_)
  · replace h := mq_it c3 h
    cases h
    exact hret H locs ls 56 dX4_closeSight_56 hP hD hS
  · replace h := mq_if c3 h
    refine lv_iconst (v := (0 : Int32)) hx hb dX4_closeSight_10 (by decide) ?_
    refine lv_topi (fun x2 ex2 => ?_)
    replace h := mq_nI_go ex2 h
    refine lv_istore_n (lv' := [(2, .int (x2)), (0, .ref (a 46)), (1, .int (v1))]) hx hb dX4_closeSight_11 rfl hl (by decide) rfl (fun ls hl => ?_)
    exact zw_X4_closeSight_12 C hret hk2 N (v1) (x2) S H locs ls h (lv_sub hl [1, 2, 0] rfl) hP hD hS
set_option maxHeartbeats 4000000 in
set_option maxRecDepth 100000 in
theorem zw_X4_closeSight_2 {p : Program} {l : Launch} {e : Env} {s : State} {m : MethodId} {args : Array Value} {below : List Frame} {meth : Method} {c : Code} {A : Nat → Prop} {D : va_G} {a z : Nat → Nat} {cI cL cB cZ : ClassId} {Q : State → Prop} {N : Nat} {res : Unit × mq_St} (C : mq_C p s m args c A D cI cL cB cZ cX4_closeSight 3 RX4 zc_X4_closeSight) (hret : ∀ (H : Heap) (locs : List Loc) (ls : Array Slot) (pc : Nat), decode cX4_closeSight pc = .ok (.return_, 1) → va_P D vwCl (wd_C a cI cL cB cZ z res.2) H → va_D A (wd_C a cI cL cB cZ z res.2) → va_S A s.heap H locs → W p l e zr_X4_closeSight s m args below meth c H locs 0 0 Q (F0 m pc ls [])) : ∀ (n : Nat) (v1 : Int32) (S : mq_St) (H : Heap) (locs : List Loc) (ls : Array Slot) (h : zf_X4_closeSight_2 N z n v1 S = some res) (hl : lv_has ls 3 [(0, .ref (a 46)), (1, .int (v1))]) (hP : va_P D vwCl (wd_C a cI cL cB cZ z S) H) (hD : va_D A (wd_C a cI cL cB cZ z S)) (hS : va_S A s.heap H locs), W p l e zr_X4_closeSight s m args below meth c H locs 0 0 Q (F0 m 2 ls []) := by
  intro n
  induction n with
  | zero =>
    intro v1 S H locs ls h hl hP hD hS
    exact nomatch (show (none : Option (Unit × mq_St)) = some res from h)
  | succ n ih =>
    intro v1 S H locs ls h hl hP hD hS
    exact zw_X4_closeSight_2b C hret (fun v1 S H locs ls h hl hP hD hS => ih v1 S H locs ls h hl hP hD hS) v1 S H locs ls h hl hP hD hS
set_option maxHeartbeats 4000000 in
set_option maxRecDepth 100000 in
theorem zw_X4_closeSight_0 {p : Program} {l : Launch} {e : Env} {s : State} {m : MethodId} {args : Array Value} {below : List Frame} {meth : Method} {c : Code} {A : Nat → Prop} {D : va_G} {a z : Nat → Nat} {cI cL cB cZ : ClassId} {Q : State → Prop} {N : Nat} {res : Unit × mq_St} (C : mq_C p s m args c A D cI cL cB cZ cX4_closeSight 3 RX4 zc_X4_closeSight) (hret : ∀ (H : Heap) (locs : List Loc) (ls : Array Slot) (pc : Nat), decode cX4_closeSight pc = .ok (.return_, 1) → va_P D vwCl (wd_C a cI cL cB cZ z res.2) H → va_D A (wd_C a cI cL cB cZ z res.2) → va_S A s.heap H locs → W p l e zr_X4_closeSight s m args below meth c H locs 0 0 Q (F0 m pc ls [])) (S : mq_St) (H : Heap) (locs : List Loc) (ls : Array Slot) (h : zf_X4_closeSight N z S = some res) (hl : lv_has ls 3 [(0, .ref (a 46))]) (hP : va_P D vwCl (wd_C a cI cL cB cZ z S) H) (hD : va_D A (wd_C a cI cL cB cZ z S)) (hS : va_S A s.heap H locs) : W p l e zr_X4_closeSight s m args below meth c H locs 0 0 Q (F0 m 0 ls []) := by
  obtain ⟨hx, hb, hml, hown, hts, hK, hA⟩ := id C
  unfold zf_X4_closeSight at h
  refine lv_iconst (v := (0 : Int32)) hx hb dX4_closeSight_0 (by decide) ?_
  refine lv_topi (fun x1 ex1 => ?_)
  replace h := mq_nI_go ex1 h
  refine lv_istore_n (lv' := [(1, .int (x1)), (0, .ref (a 46))]) hx hb dX4_closeSight_1 rfl hl (by decide) rfl (fun ls hl => ?_)
  exact zw_X4_closeSight_2 C hret N (x1) S H locs ls h (lv_sub hl [1, 0] rfl) hP hD hS
set_option maxHeartbeats 4000000 in
set_option maxRecDepth 100000 in
theorem zm_X4_closeSight (l : Launch) (D : va_G) (a z : Nat → Nat) (cI cL cB cZ : ClassId) (sz N : Nat) (S : mq_St) (res : Unit × mq_St) (h : zf_X4_closeSight N z S = some res) : Met l yX4_closeSight (zc_X4_closeSight :: mq_T) zr_X4_closeSight (va_Pc [.ref (a 46)] (fun U => U.heap.size = sz ∧ va_P D vwCl (wd_C a cI cL cB cZ z S) U.heap ∧ va_K D vwCl (mq_tys cI cL cB cZ) U ∧ va_D (fun _ => True) (wd_C a cI cL cB cZ z S))) (va_Qv (fun u : mq_St => u = res.2) (fun u t => va_P D vwCl (wd_C a cI cL cB cZ z u) t.heap ∧ va_K D vwCl (mq_tys cI cL cB cZ) t ∧ va_D (va_A (wd_C a cI cL cB cZ z S) sz) (wd_C a cI cL cB cZ z u)) (va_A (wd_C a cI cL cB cZ z S) sz)) 0 0 (va_A (wd_C a cI cL cB cZ z S) sz) := by
  refine Met.ofW (cc := cX4_closeSight) (maxL := 3) (ret := none) (by decide) rfl ?_
  intro p e s m args below meth c s₁ B hml hv
  obtain ⟨rfl, hsz, hP, hK, hD0⟩ := hv
  have hr := B.returns
  have hlocks := B.notSynchronized
  have hts := atoms_spec (ws := zc_X4_closeSight :: mq_T) B.pre
  have hown : s.vm.findClass RX4 = some m.cls := findClass_of_methodNamed B.named
  subst hsz
  have hD := hD0.self (sz := s.heap.size)
  generalize hAe : va_A (wd_C a cI cL cB cZ z S) s.heap.size = A at hD ⊢
  have hA : ∀ q : Nat, s.heap.size ≤ q → A q := fun q h => by rw [← hAe]; exact Or.inr h
  have hl := lv_entry ([.ref (a 46)]) (n := 3) (Nat.le_of_ble_eq_true rfl)
  rw [lg_entry_eq]
  generalize (lg_sl ([.ref (a 46)]) ++ List.replicate (3 - (lg_sl ([.ref (a 46)])).length) Slot.unset).toArray = ls at hl ⊢
  have hl : lv_has ls 3 [(0, .ref (a 46))] := hl
  refine zw_X4_closeSight_0 (A := A) ⟨B.exec, B.bytes, hml, hown, hts, hK, hA⟩ (fun H locs ls pc dg hP hD hS => ?_) S s.heap [] ls h hl hP hD va_S.rf
  exact W.vret B.exec B.bytes hr (fun t ht hW => ⟨⟨_, rfl, rfl, by rw [ht]; exact hP, va_K.moved hW.alike hK, hD⟩, hS.F ht⟩) hS.2.2 dg
theorem zt_X4_closeSight_c : zc_X4_closeSight ∈ mq_T := mq_T_mem (mq_t4 (List.mem_of_getElem? (i := 159) rfl)) rfl
theorem zt_X4_closeSight_i : Cond.instanceMethod yX4_closeSight ∈ mq_T := mq_T_mem (mq_t4 (List.mem_of_getElem? (i := 157) rfl)) rfl
theorem zt_X4_closeSight_s : Cond.selects RX4 yX4_closeSight yX4_closeSight ∈ mq_T := mq_T_mem (mq_t4 (List.mem_of_getElem? (i := 158) rfl)) rfl
set_option maxHeartbeats 4000000 in
theorem zk_X4_closeSight {p : Program} {l : Launch} {e : Env} {R : Room} {s : State} {m : MethodId} {args : Array Value} {below : List Frame} {meth : Method} {c : Code} {A : Nat → Prop} {D : va_G} {a z : Nat → Nat} {cI cL cB cZ : ClassId} {Q : State → Prop} {cc : ByteArray} {nL idx pc N : Nat} {own : String} {c1 : Cond} {H : Heap} {locs : List Loc} {ls : Array Slot} {rest : List Value} {S : mq_St} {res : Unit × mq_St} (C : mq_C p s m args c A D cI cL cB cZ cc nL own c1) (hlk : Cond.methodLink own idx yX4_closeSight ∈ mq_T) (hR : zr_X4_closeSight.frames + 1 ≤ R.frames ∧ 8 + (3 + 11) + zr_X4_closeSight.locals ≤ R.locals) (h : zf_X4_closeSight N z S = some res) (hP : va_P D vwCl (wd_C a cI cL cB cZ z S) H) (hD : va_D A (wd_C a cI cL cB cZ z S)) (hS : va_S A s.heap H locs) (hls : ls.size = nL) (hrest : (rest.map fun v => v.category).sum ≤ 8) (hdg : decode cc pc = .ok (.invokevirtual idx, 3)) (kk : ∀ (H1 : Heap) (locs1 : List Loc), va_P D vwCl (wd_C a cI cL cB cZ z res.2) H1 → va_D A (wd_C a cI cL cB cZ z res.2) → va_S A s.heap H1 locs1 → W p l e R s m args below meth c H1 locs1 0 0 Q (F0 m (pc + 3) ls rest)) : W p l e R s m args below meth c H locs 0 0 Q (F0 m pc ls (.ref (a 46) :: rest)) := by
  obtain ⟨hx, hb, hml, hown, hts, hK, hA⟩ := C
  have hFc := mq_freeI hD hS hA
  refine va_callv (va_runV (As := []) (rest := rest) ⟨hx, hb, hml, hown, hts⟩ (zm_X4_closeSight l D a z cI cL cB cZ H.size N S res h) (cwV 0 hts (mq_goodL (mq_wsV hlk zt_X4_closeSight_i zt_X4_closeSight_s zt_ini_X4 zt_X4_closeSight_c)) rfl rfl rfl (by decide +kernel) hR) ⟨fun a U g mk q => ⟨q.1, q.2.1, q.2.2.1, va_K.moved (u := U) (U := U.calling g mk a) (Vm.Alike.refl U.vm) q.2.2.2.1, q.2.2.2.2⟩, zy_C_46 hK hP, fun U hU hW => ⟨rfl, by rw [hU], by rw [hU]; exact hP, va_K.moved hW.alike hK, hD.weaken (fun _ _ _ _ => trivial)⟩⟩ rfl rfl hls rfl (lv_room hrest) hdg ⟨Nat.zero_le _, Nat.zero_le _⟩) hS (fun q _ h => hFc q h) hFc (fun u t H1 locs ht hvm hw hB hz1 hk1 hS => ?_)
  subst hw
  obtain ⟨hP1, hK1, hD1⟩ := hB
  rw [ht] at hP1
  exact kk H1 locs hP1 (hD1.weaken (fun _ _ _ h => hFc _ h)) hS
theorem zt_m_X8_93 : Cond.methodLink RX8 93 yX4_clear ∈ mq_T := mq_T_mem (mq_t4 (List.mem_of_getElem? (i := 141) rfl)) rfl
theorem zt_m_X8_98 : Cond.methodLink RX8 98 yX8_lettersOf ∈ mq_T := mq_T_mem (mq_t4 (List.mem_of_getElem? (i := 142) rfl)) rfl
theorem zt_m_X8_102 : Cond.methodLink RX8 102 yX6_sizeOf ∈ mq_T := mq_T_mem (mq_t4 (List.mem_of_getElem? (i := 146) rfl)) rfl
theorem zt_m_X8_105 : Cond.methodLink RX8 105 yX4_addWorld ∈ mq_T := mq_T_mem (mq_t4 (List.mem_of_getElem? (i := 152) rfl)) rfl
theorem zt_m_X8_109 : Cond.methodLink RX8 109 yX4_closeSight ∈ mq_T := mq_T_mem (mq_t4 (List.mem_of_getElem? (i := 156) rfl)) rfl
/-! ModalDesk$Tableau.fillModel(LModalDesk$Model;)V -/
def zr_X8_fillModel : Room := { frames := 3, cells := 0, slots := 0, locals := 67 }
def zc_X8_fillModel : Cond := .code yX8_fillModel cX8_fillModel 3 none
def zf_X8_fillModel_49 (N : Nat) (z : Nat → Nat) (S : mq_St) : Option (Unit × mq_St) := (mq_cl (zf_X4_closeSight N z S) (fun q16v S18 => (some ((), S18))))
def zf_X8_fillModel_6b (N : Nat) (z : Nat → Nat) (k6 : Int32 → mq_St → Option (Unit × mq_St)) (v2 : Int32) (S : mq_St) : Option (Unit × mq_St) := (if (S.1 15) ≤ v2 then (zf_X8_fillModel_49 N z S) else (if (60 : Int32) ≤ v2 then (zf_X8_fillModel_49 N z S) else (mq_cp (zf_X8_lettersOf N z (v2) S) (fun q5 => (mq_ck (v2) 60 (mq_cp (zf_X6_sizeOf N (fun k => [300].getD k 0) (v2) (mq_pull S [] [] [3])) (fun q8 => (mq_cl (zf_X4_addWorld N z (q5) ((S.2.2 1 (v2).toNatClampNeg)) (q8) S) (fun q10v S12 => (mq_nI (v2 + (1 : Int32)) (fun x13 => (k6 (x13) S12))))))))))))
def zf_X8_fillModel_6 (N : Nat) (z : Nat → Nat) : Nat → Int32 → mq_St → Option (Unit × mq_St)
  | 0, _, _ => none
  | n + 1, v2, S => zf_X8_fillModel_6b N z (fun v2 S => zf_X8_fillModel_6 N z n v2 S) v2 S
def zf_X8_fillModel (N : Nat) (z : Nat → Nat) (S : mq_St) : Option (Unit × mq_St) := (mq_cl (zf_X4_clear N z S) (fun q1v S3 => (mq_nI ((0 : Int32)) (fun x4 => (zf_X8_fillModel_6 N z N (x4) S3)))))
set_option maxHeartbeats 4000000 in
set_option maxRecDepth 100000 in
theorem zw_X8_fillModel_49 {p : Program} {l : Launch} {e : Env} {s : State} {m : MethodId} {args : Array Value} {below : List Frame} {meth : Method} {c : Code} {A : Nat → Prop} {D : va_G} {a z : Nat → Nat} {cI cL cB cZ : ClassId} {Q : State → Prop} {N : Nat} {res : Unit × mq_St} (C : mq_C p s m args c A D cI cL cB cZ cX8_fillModel 3 RX8 zc_X8_fillModel) (hret : ∀ (H : Heap) (locs : List Loc) (ls : Array Slot) (pc : Nat), decode cX8_fillModel pc = .ok (.return_, 1) → va_P D vwCl (wd_C a cI cL cB cZ z res.2) H → va_D A (wd_C a cI cL cB cZ z res.2) → va_S A s.heap H locs → W p l e zr_X8_fillModel s m args below meth c H locs 0 0 Q (F0 m pc ls [])) (S : mq_St) (H : Heap) (locs : List Loc) (ls : Array Slot) (h : zf_X8_fillModel_49 N z S = some res) (hl : lv_has ls 3 [(1, .ref (a 46))]) (hP : va_P D vwCl (wd_C a cI cL cB cZ z S) H) (hD : va_D A (wd_C a cI cL cB cZ z S)) (hS : va_S A s.heap H locs) : W p l e zr_X8_fillModel s m args below meth c H locs 0 0 Q (F0 m 49 ls []) := by
  obtain ⟨hx, hb, hml, hown, hts, hK, hA⟩ := id C
  unfold zf_X8_fillModel_49 at h
  refine lv_aload_n hx hb dX8_fillModel_49 rfl (lv_at hl 0 rfl) ?_
  obtain ⟨q16, hc17, h⟩ := mq_cl_go h
  refine zk_X4_closeSight C zt_m_X8_109 ⟨by decide, by decide⟩ hc17 hP hD hS hl.1 (Nat.le_of_ble_eq_true rfl) dX8_fillModel_50 (fun H locs hP hD hS => ?_)
  obtain ⟨S18, eS18⟩ : ∃ y, y = q16.2 := ⟨_, rfl⟩
  rw [← eS18] at hP hD h
  cases h
  exact hret H locs ls 53 dX8_fillModel_53 hP hD hS
set_option maxHeartbeats 4000000 in
set_option maxRecDepth 100000 in
theorem zw_X8_fillModel_6b {p : Program} {l : Launch} {e : Env} {s : State} {m : MethodId} {args : Array Value} {below : List Frame} {meth : Method} {c : Code} {A : Nat → Prop} {D : va_G} {a z : Nat → Nat} {cI cL cB cZ : ClassId} {Q : State → Prop} {N : Nat} {res : Unit × mq_St} {k6 : Int32 → mq_St → Option (Unit × mq_St)} (C : mq_C p s m args c A D cI cL cB cZ cX8_fillModel 3 RX8 zc_X8_fillModel) (hret : ∀ (H : Heap) (locs : List Loc) (ls : Array Slot) (pc : Nat), decode cX8_fillModel pc = .ok (.return_, 1) → va_P D vwCl (wd_C a cI cL cB cZ z res.2) H → va_D A (wd_C a cI cL cB cZ z res.2) → va_S A s.heap H locs → W p l e zr_X8_fillModel s m args below meth c H locs 0 0 Q (F0 m pc ls [])) (hk6 : ∀ (v2 : Int32) (S : mq_St) (H : Heap) (locs : List Loc) (ls : Array Slot), k6 v2 S = some res → lv_has ls 3 [(0, .ref (a 25)), (1, .ref (a 46)), (2, .int (v2))] → va_P D vwCl (wd_C a cI cL cB cZ z S) H → va_D A (wd_C a cI cL cB cZ z S) → va_S A s.heap H locs → W p l e zr_X8_fillModel s m args below meth c H locs 0 0 Q (F0 m 6 ls [])) (v2 : Int32) (S : mq_St) (H : Heap) (locs : List Loc) (ls : Array Slot) (h : zf_X8_fillModel_6b N z k6 v2 S = some res) (hl : lv_has ls 3 [(0, .ref (a 25)), (1, .ref (a 46)), (2, .int (v2))]) (hP : va_P D vwCl (wd_C a cI cL cB cZ z S) H) (hD : va_D A (wd_C a cI cL cB cZ z S)) (hS : va_S A s.heap H locs) : W p l e zr_X8_fillModel s m args below meth c H locs 0 0 Q (F0 m 6 ls []) := by
  obtain ⟨hx, hb, hml, hown, hts, hK, hA⟩ := id C
  unfold zf_X8_fillModel_6b at h
  refine lv_iload_n hx hb dX8_fillModel_6 rfl (lv_at hl 2 rfl) ?_
  refine lv_aload_n hx hb dX8_fillModel_7 rfl (lv_at hl 0 rfl) ?_
  refine va_get (D := D) (ci := 8) (v := .int ((S.1 15))) (C := RX8) (T := TX8) (N := 19) hx hb hts (zi_X8 _) hown hK hP 25 rfl rfl 14 (by decide) (hts _ (List.mem_cons_of_mem _ zt_f_X8_73)) (fun _ h9 => h9) rfl dX8_fillModel_8 ?_
  refine lv_icmp_ge (tgt := 49) hx hb dX8_fillModel_11 (by decide) (fun c15 => ?_) (fun c15 => ?_)
  · replace h := mq_it c15 h
    exact zw_X8_fillModel_49 C hret S H locs ls h (lv_sub hl [1] rfl) hP hD hS
  · replace h := mq_if c15 h
    refine lv_iload_n hx hb dX8_fillModel_14 rfl (lv_at hl 2 rfl) ?_
    refine lv_bipush (v := (60 : Int32)) hx hb dX8_fillModel_15 (by decide) ?_
    refine lv_icmp_ge (tgt := 49) hx hb dX8_fillModel_17 (by decide) (fun c14 => ?_) (fun c14 => ?_)
    · replace h := mq_it c14 h
      exact zw_X8_fillModel_49 C hret S H locs ls h (lv_sub hl [1] rfl) hP hD hS
    · replace h := mq_if c14 h
      refine lv_aload_n hx hb dX8_fillModel_20 rfl (lv_at hl 1 rfl) ?_
      refine lv_aload_n hx hb dX8_fillModel_21 rfl (lv_at hl 0 rfl) ?_
      refine lv_iload_n hx hb dX8_fillModel_22 rfl (lv_at hl 2 rfl) ?_
      obtain ⟨q5, hc6, h⟩ := mq_cp_go h
      refine zk_X8_lettersOf C zt_m_X8_98 ⟨by decide, by decide⟩ hc6 hP hD hS hl.1 (Nat.le_of_ble_eq_true rfl) dX8_fillModel_23 (fun H locs hP hD hS => ?_)
      refine lv_aload_n hx hb dX8_fillModel_26 rfl (lv_at hl 0 rfl) ?_
      refine va_get (D := D) (ci := 8) (v := .ref (a 30)) (C := RX8) (T := TX8) (N := 19) hx hb hts (zi_X8 _) hown hK hP 25 rfl rfl 8 (by decide) (hts _ (List.mem_cons_of_mem _ zt_f_X8_39)) (fun _ h9 => h9) rfl dX8_fillModel_27 ?_
      refine lv_iload_n hx hb dX8_fillModel_30 rfl (lv_at hl 2 rfl) ?_
      have hi7 := mq_ck_in h
      replace h := mq_ck_go h
      refine va_lald (f := S.2.2 1) hx hb hK hP 30 1 rfl rfl hi7 dX8_fillModel_31 ?_
      refine lv_aload_n hx hb dX8_fillModel_32 rfl (lv_at hl 0 rfl) ?_
      refine va_get (D := D) (ci := 8) (v := .ref (a 35)) (C := RX8) (T := TX8) (N := 19) hx hb hts (zi_X8 _) hown hK hP 25 rfl rfl 2 (by decide) (hts _ (List.mem_cons_of_mem _ zt_f_X8_20)) (fun _ h9 => h9) rfl dX8_fillModel_33 ?_
      refine lv_iload_n hx hb dX8_fillModel_36 rfl (lv_at hl 2 rfl) ?_
      obtain ⟨q8, hc9, h⟩ := mq_cp_go h
      refine zv_X6_sizeOf (a := mq_ad a [35, 36]) (z := (fun k => [300].getD k 0)) [35, 36] C zt_m_X8_102 ⟨by decide, by decide⟩ hc9 rfl (by decide) hP hD hS hl.1 (Nat.le_of_ble_eq_true rfl) dX8_fillModel_37 (fun H locs hP hD hS => ?_)
      obtain ⟨q10, hc11, h⟩ := mq_cl_go h
      refine zk_X4_addWorld C zt_m_X8_105 ⟨by decide, by decide⟩ hc11 hP hD hS hl.1 (Nat.le_of_ble_eq_true rfl) dX8_fillModel_40 (fun H locs hP hD hS => ?_)
      obtain ⟨S12, eS12⟩ : ∃ y, y = q10.2 := ⟨_, rfl⟩
      rw [← eS12] at hP hD h
      obtain ⟨x13, ex13⟩ : ∃ y : Int32, y = v2 + (1 : Int32) := ⟨_, rfl⟩
      replace h := mq_nI_go ex13 h
      refine lv_iinc (v := x13) (lv' := [(2, .int (x13)), (0, .ref (a 25)), (1, .ref (a 46))]) hx hb dX8_fillModel_43 hl (k := 2) rfl (by rw [ex13]; rfl) (by decide) rfl (fun ls hl => ?_)
      refine lv_goto (tgt := 6) hx hb dX8_fillModel_46 (by decide) ?_
      exact hk6 (x13) S12 H locs ls h (lv_sub hl [1, 2, 0] rfl) hP hD hS
set_option maxHeartbeats 4000000 in
set_option maxRecDepth 100000 in
theorem zw_X8_fillModel_6 {p : Program} {l : Launch} {e : Env} {s : State} {m : MethodId} {args : Array Value} {below : List Frame} {meth : Method} {c : Code} {A : Nat → Prop} {D : va_G} {a z : Nat → Nat} {cI cL cB cZ : ClassId} {Q : State → Prop} {N : Nat} {res : Unit × mq_St} (C : mq_C p s m args c A D cI cL cB cZ cX8_fillModel 3 RX8 zc_X8_fillModel) (hret : ∀ (H : Heap) (locs : List Loc) (ls : Array Slot) (pc : Nat), decode cX8_fillModel pc = .ok (.return_, 1) → va_P D vwCl (wd_C a cI cL cB cZ z res.2) H → va_D A (wd_C a cI cL cB cZ z res.2) → va_S A s.heap H locs → W p l e zr_X8_fillModel s m args below meth c H locs 0 0 Q (F0 m pc ls [])) : ∀ (n : Nat) (v2 : Int32) (S : mq_St) (H : Heap) (locs : List Loc) (ls : Array Slot) (h : zf_X8_fillModel_6 N z n v2 S = some res) (hl : lv_has ls 3 [(0, .ref (a 25)), (1, .ref (a 46)), (2, .int (v2))]) (hP : va_P D vwCl (wd_C a cI cL cB cZ z S) H) (hD : va_D A (wd_C a cI cL cB cZ z S)) (hS : va_S A s.heap H locs), W p l e zr_X8_fillModel s m args below meth c H locs 0 0 Q (F0 m 6 ls []) := by
  intro n
  induction n with
  | zero =>
    intro v2 S H locs ls h hl hP hD hS
    exact nomatch (show (none : Option (Unit × mq_St)) = some res from h)
  | succ n ih =>
    intro v2 S H locs ls h hl hP hD hS
    exact zw_X8_fillModel_6b C hret (fun v2 S H locs ls h hl hP hD hS => ih v2 S H locs ls h hl hP hD hS) v2 S H locs ls h hl hP hD hS
set_option maxHeartbeats 4000000 in
set_option maxRecDepth 100000 in
theorem zw_X8_fillModel_0 {p : Program} {l : Launch} {e : Env} {s : State} {m : MethodId} {args : Array Value} {below : List Frame} {meth : Method} {c : Code} {A : Nat → Prop} {D : va_G} {a z : Nat → Nat} {cI cL cB cZ : ClassId} {Q : State → Prop} {N : Nat} {res : Unit × mq_St} (C : mq_C p s m args c A D cI cL cB cZ cX8_fillModel 3 RX8 zc_X8_fillModel) (hret : ∀ (H : Heap) (locs : List Loc) (ls : Array Slot) (pc : Nat), decode cX8_fillModel pc = .ok (.return_, 1) → va_P D vwCl (wd_C a cI cL cB cZ z res.2) H → va_D A (wd_C a cI cL cB cZ z res.2) → va_S A s.heap H locs → W p l e zr_X8_fillModel s m args below meth c H locs 0 0 Q (F0 m pc ls [])) (S : mq_St) (H : Heap) (locs : List Loc) (ls : Array Slot) (h : zf_X8_fillModel N z S = some res) (hl : lv_has ls 3 [(0, .ref (a 25)), (1, .ref (a 46))]) (hP : va_P D vwCl (wd_C a cI cL cB cZ z S) H) (hD : va_D A (wd_C a cI cL cB cZ z S)) (hS : va_S A s.heap H locs) : W p l e zr_X8_fillModel s m args below meth c H locs 0 0 Q (F0 m 0 ls []) := by
  obtain ⟨hx, hb, hml, hown, hts, hK, hA⟩ := id C
  unfold zf_X8_fillModel at h
  refine lv_aload_n hx hb dX8_fillModel_0 rfl (lv_at hl 1 rfl) ?_
  obtain ⟨q1, hc2, h⟩ := mq_cl_go h
  refine zk_X4_clear C zt_m_X8_93 ⟨by decide, by decide⟩ hc2 hP hD hS hl.1 (Nat.le_of_ble_eq_true rfl) dX8_fillModel_1 (fun H locs hP hD hS => ?_)
  obtain ⟨S3, eS3⟩ : ∃ y, y = q1.2 := ⟨_, rfl⟩
  rw [← eS3] at hP hD h
  refine lv_iconst (v := (0 : Int32)) hx hb dX8_fillModel_4 (by decide) ?_
  refine lv_topi (fun x4 ex4 => ?_)
  replace h := mq_nI_go ex4 h
  refine lv_istore_n (lv' := [(2, .int (x4)), (0, .ref (a 25)), (1, .ref (a 46))]) hx hb dX8_fillModel_5 rfl hl (by decide) rfl (fun ls hl => ?_)
  exact zw_X8_fillModel_6 C hret N (x4) S3 H locs ls h (lv_sub hl [1, 2, 0] rfl) hP hD hS
set_option maxHeartbeats 4000000 in
set_option maxRecDepth 100000 in
theorem zm_X8_fillModel (l : Launch) (D : va_G) (a z : Nat → Nat) (cI cL cB cZ : ClassId) (sz N : Nat) (S : mq_St) (res : Unit × mq_St) (h : zf_X8_fillModel N z S = some res) : Met l yX8_fillModel (zc_X8_fillModel :: mq_T) zr_X8_fillModel (va_Pc [.ref (a 25), .ref (a 46)] (fun U => U.heap.size = sz ∧ va_P D vwCl (wd_C a cI cL cB cZ z S) U.heap ∧ va_K D vwCl (mq_tys cI cL cB cZ) U ∧ va_D (fun _ => True) (wd_C a cI cL cB cZ z S))) (va_Qv (fun u : mq_St => u = res.2) (fun u t => va_P D vwCl (wd_C a cI cL cB cZ z u) t.heap ∧ va_K D vwCl (mq_tys cI cL cB cZ) t ∧ va_D (va_A (wd_C a cI cL cB cZ z S) sz) (wd_C a cI cL cB cZ z u)) (va_A (wd_C a cI cL cB cZ z S) sz)) 0 0 (va_A (wd_C a cI cL cB cZ z S) sz) := by
  refine Met.ofW (cc := cX8_fillModel) (maxL := 3) (ret := none) (by decide) rfl ?_
  intro p e s m args below meth c s₁ B hml hv
  obtain ⟨rfl, hsz, hP, hK, hD0⟩ := hv
  have hr := B.returns
  have hlocks := B.notSynchronized
  have hts := atoms_spec (ws := zc_X8_fillModel :: mq_T) B.pre
  have hown : s.vm.findClass RX8 = some m.cls := findClass_of_methodNamed B.named
  subst hsz
  have hD := hD0.self (sz := s.heap.size)
  generalize hAe : va_A (wd_C a cI cL cB cZ z S) s.heap.size = A at hD ⊢
  have hA : ∀ q : Nat, s.heap.size ≤ q → A q := fun q h => by rw [← hAe]; exact Or.inr h
  have hl := lv_entry ([.ref (a 25), .ref (a 46)]) (n := 3) (Nat.le_of_ble_eq_true rfl)
  rw [lg_entry_eq]
  generalize (lg_sl ([.ref (a 25), .ref (a 46)]) ++ List.replicate (3 - (lg_sl ([.ref (a 25), .ref (a 46)])).length) Slot.unset).toArray = ls at hl ⊢
  have hl : lv_has ls 3 [(0, .ref (a 25)), (1, .ref (a 46))] := hl
  refine zw_X8_fillModel_0 (A := A) ⟨B.exec, B.bytes, hml, hown, hts, hK, hA⟩ (fun H locs ls pc dg hP hD hS => ?_) S s.heap [] ls h hl hP hD va_S.rf
  exact W.vret B.exec B.bytes hr (fun t ht hW => ⟨⟨_, rfl, rfl, by rw [ht]; exact hP, va_K.moved hW.alike hK, hD⟩, hS.F ht⟩) hS.2.2 dg
theorem zt_X8_fillModel_c : zc_X8_fillModel ∈ mq_T := mq_T_mem (mq_t4 (List.mem_of_getElem? (i := 140) rfl)) rfl
theorem zt_X8_fillModel_i : Cond.instanceMethod yX8_fillModel ∈ mq_T := mq_T_mem (mq_t4 (List.mem_of_getElem? (i := 138) rfl)) rfl
theorem zt_X8_fillModel_s : Cond.selects RX8 yX8_fillModel yX8_fillModel ∈ mq_T := mq_T_mem (mq_t4 (List.mem_of_getElem? (i := 139) rfl)) rfl
set_option maxHeartbeats 4000000 in
theorem zk_X8_fillModel {p : Program} {l : Launch} {e : Env} {R : Room} {s : State} {m : MethodId} {args : Array Value} {below : List Frame} {meth : Method} {c : Code} {A : Nat → Prop} {D : va_G} {a z : Nat → Nat} {cI cL cB cZ : ClassId} {Q : State → Prop} {cc : ByteArray} {nL idx pc N : Nat} {own : String} {c1 : Cond} {H : Heap} {locs : List Loc} {ls : Array Slot} {rest : List Value} {S : mq_St} {res : Unit × mq_St} (C : mq_C p s m args c A D cI cL cB cZ cc nL own c1) (hlk : Cond.methodLink own idx yX8_fillModel ∈ mq_T) (hR : zr_X8_fillModel.frames + 1 ≤ R.frames ∧ 8 + (3 + 11) + zr_X8_fillModel.locals ≤ R.locals) (h : zf_X8_fillModel N z S = some res) (hP : va_P D vwCl (wd_C a cI cL cB cZ z S) H) (hD : va_D A (wd_C a cI cL cB cZ z S)) (hS : va_S A s.heap H locs) (hls : ls.size = nL) (hrest : (rest.map fun v => v.category).sum ≤ 8) (hdg : decode cc pc = .ok (.invokevirtual idx, 3)) (kk : ∀ (H1 : Heap) (locs1 : List Loc), va_P D vwCl (wd_C a cI cL cB cZ z res.2) H1 → va_D A (wd_C a cI cL cB cZ z res.2) → va_S A s.heap H1 locs1 → W p l e R s m args below meth c H1 locs1 0 0 Q (F0 m (pc + 3) ls rest)) : W p l e R s m args below meth c H locs 0 0 Q (F0 m pc ls (.ref (a 46) :: .ref (a 25) :: rest)) := by
  obtain ⟨hx, hb, hml, hown, hts, hK, hA⟩ := C
  have hFc := mq_freeI hD hS hA
  refine va_callv (va_runV (As := [.ref (a 46)]) (rest := rest) ⟨hx, hb, hml, hown, hts⟩ (zm_X8_fillModel l D a z cI cL cB cZ H.size N S res h) (cwV 1 hts (mq_goodL (mq_wsV hlk zt_X8_fillModel_i zt_X8_fillModel_s zt_ini_X8 zt_X8_fillModel_c)) rfl rfl rfl (by decide +kernel) hR) ⟨fun a U g mk q => ⟨q.1, q.2.1, q.2.2.1, va_K.moved (u := U) (U := U.calling g mk a) (Vm.Alike.refl U.vm) q.2.2.2.1, q.2.2.2.2⟩, zy_C_25 hK hP, fun U hU hW => ⟨rfl, by rw [hU], by rw [hU]; exact hP, va_K.moved hW.alike hK, hD.weaken (fun _ _ _ _ => trivial)⟩⟩ rfl rfl hls rfl (lv_room hrest) hdg ⟨Nat.zero_le _, Nat.zero_le _⟩) hS (fun q _ h => hFc q h) hFc (fun u t H1 locs ht hvm hw hB hz1 hk1 hS => ?_)
  subst hw
  obtain ⟨hP1, hK1, hD1⟩ := hB
  rw [ht] at hP1
  exact kk H1 locs hP1 (hD1.weaken (fun _ _ _ h => hFc _ h)) hS
theorem zt_f_X8_67 : Cond.fieldLink RX8 67 "ModalDesk$Tableau" "verdict" "I" ∈ mq_T := mq_T_mem (mq_t1 (List.mem_of_getElem? (i := 234) rfl)) rfl
theorem zs_wd_C_i_25_19 (a z : Nat → Nat) (cI cL cB cZ : ClassId) (S : mq_St) (v : Int32) : (wd_C a cI cL cB cZ z S).set 25 (a 25, .inr (8, ([.ref (a 7), .ref (a 33), .ref (a 35), .ref (a 37), .ref (a 26), .ref (a 27), .ref (a 28), .ref (a 29), .ref (a 30), .ref (a 31), .ref (a 39), .ref (a 41), .ref (a 32), .int (S.1 14), .int (S.1 15), .int (S.1 16), .int (S.1 17), .int (S.1 18), .int (S.1 19)] : List Value).set 18 (.int v))) = (wd_C a cI cL cB cZ z (mq_si S 19 v)) := rfl
/-! ModalDesk$Tableau.goBack()Z -/
def zr_X8_goBack : Room := { frames := 0, cells := 0, slots := 0, locals := 0 }
def zc_X8_goBack : Cond := .code yX8_goBack cX8_goBack 2 (some .boolean)
def zf_X8_goBack_63 (N : Nat) (z : Nat → Nat) (S : mq_St) : Option (Int32 × mq_St) := (mq_nS (mq_si S 15 (((S.1 16) + (1 : Int32)))) (fun S12 => (mq_cz ((1 : Int32)) (some ((1 : Int32), S12)))))
def zf_X8_goBack_2b (N : Nat) (z : Nat → Nat) (k2 : Int32 → mq_St → Option (Int32 × mq_St)) (v1 : Int32) (S : mq_St) : Option (Int32 × mq_St) := (if (60 : Int32) ≤ v1 then (zf_X8_goBack_63 N z S) else (mq_ck ((S.1 16)) 60 (if (S.1 14) = (S.2.1 18 ((S.1 16)).toNatClampNeg) then (mq_ck ((S.1 16)) 60 (if (S.2.1 16 ((S.1 16)).toNatClampNeg) = (-1 : Int32) then (mq_nS (mq_si S 19 ((1 : Int32))) (fun S7 => (mq_cz ((0 : Int32)) (some ((0 : Int32), S7))))) else (mq_ck ((S.1 16)) 60 (mq_nS (mq_si S 16 ((S.2.1 16 ((S.1 16)).toNatClampNeg))) (fun S5 => (mq_nI (v1 + (1 : Int32)) (fun x6 => (k2 (x6) S5)))))))) else (zf_X8_goBack_63 N z S))))
def zf_X8_goBack_2 (N : Nat) (z : Nat → Nat) : Nat → Int32 → mq_St → Option (Int32 × mq_St)
  | 0, _, _ => none
  | n + 1, v1, S => zf_X8_goBack_2b N z (fun v1 S => zf_X8_goBack_2 N z n v1 S) v1 S
def zf_X8_goBack (N : Nat) (z : Nat → Nat) (S : mq_St) : Option (Int32 × mq_St) := (mq_nI ((0 : Int32)) (fun x1 => (zf_X8_goBack_2 N z N (x1) S)))
set_option maxHeartbeats 4000000 in
set_option maxRecDepth 100000 in
theorem zw_X8_goBack_63 {p : Program} {l : Launch} {e : Env} {s : State} {m : MethodId} {args : Array Value} {below : List Frame} {meth : Method} {c : Code} {A : Nat → Prop} {D : va_G} {a z : Nat → Nat} {cI cL cB cZ : ClassId} {Q : State → Prop} {N : Nat} {res : Int32 × mq_St} (C : mq_C p s m args c A D cI cL cB cZ cX8_goBack 2 RX8 zc_X8_goBack) (hret : ∀ (H : Heap) (locs : List Loc) (ls : Array Slot) (pc : Nat), decode cX8_goBack pc = .ok (.ireturn, 1) → narrow .boolean (.int res.1) = .int res.1 → va_P D vwCl (wd_C a cI cL cB cZ z res.2) H → va_D A (wd_C a cI cL cB cZ z res.2) → va_S A s.heap H locs → W p l e zr_X8_goBack s m args below meth c H locs 0 0 Q (F0 m pc ls [.int res.1])) (S : mq_St) (H : Heap) (locs : List Loc) (ls : Array Slot) (h : zf_X8_goBack_63 N z S = some res) (hl : lv_has ls 2 [(0, .ref (a 25))]) (hP : va_P D vwCl (wd_C a cI cL cB cZ z S) H) (hD : va_D A (wd_C a cI cL cB cZ z S)) (hS : va_S A s.heap H locs) : W p l e zr_X8_goBack s m args below meth c H locs 0 0 Q (F0 m 63 ls []) := by
  obtain ⟨hx, hb, hml, hown, hts, hK, hA⟩ := id C
  unfold zf_X8_goBack_63 at h
  refine lv_aload_n hx hb dX8_goBack_63 rfl (lv_at hl 0 rfl) ?_
  refine lv_aload_n hx hb dX8_goBack_64 rfl (lv_at hl 0 rfl) ?_
  refine va_get (D := D) (ci := 8) (v := .int ((S.1 16))) (C := RX8) (T := TX8) (N := 19) hx hb hts (zi_X8 _) hown hK hP 25 rfl rfl 15 (by decide) (hts _ (List.mem_cons_of_mem _ zt_f_X8_160)) (fun _ h9 => h9) rfl dX8_goBack_65 ?_
  refine lv_iconst (v := (1 : Int32)) hx hb dX8_goBack_68 (by decide) ?_
  refine lv_iadd hx hb dX8_goBack_69 ?_
  refine mq_put (w := wd_C a cI cL cB cZ z) (S := S) (D := D) (ci := 8) (v := ((S.1 16) + (1 : Int32))) (ty := .int) (C := RX8) (T := TX8) (N := 19) hx hb hts (zi_X8 _) tyX8 tyX8_ok nmX8 hown hK hP hD hS 25 rfl rfl 14 (by decide) (hts _ (List.mem_cons_of_mem _ zt_f_X8_73)) (fun _ h9 => h9) rfl (by decide +kernel) rfl rfl (Nat.le_of_ble_eq_true rfl) dX8_goBack_70 15 (zs_wd_C_i_25_15 _ _ _ _ _ _ _ _) (fun S12 eS12 H locs hP hD hS => ?_)
  replace h := mq_nS_go eS12 h
  refine lv_iconst (v := (1 : Int32)) hx hb dX8_goBack_73 (by decide) ?_
  have hz13 := mq_cz_in h
  replace h := mq_cz_go h
  cases h
  exact hret H locs ls 74 dX8_goBack_74 hz13.1 hP hD hS
set_option maxHeartbeats 4000000 in
set_option maxRecDepth 100000 in
theorem zw_X8_goBack_2b {p : Program} {l : Launch} {e : Env} {s : State} {m : MethodId} {args : Array Value} {below : List Frame} {meth : Method} {c : Code} {A : Nat → Prop} {D : va_G} {a z : Nat → Nat} {cI cL cB cZ : ClassId} {Q : State → Prop} {N : Nat} {res : Int32 × mq_St} {k2 : Int32 → mq_St → Option (Int32 × mq_St)} (C : mq_C p s m args c A D cI cL cB cZ cX8_goBack 2 RX8 zc_X8_goBack) (hret : ∀ (H : Heap) (locs : List Loc) (ls : Array Slot) (pc : Nat), decode cX8_goBack pc = .ok (.ireturn, 1) → narrow .boolean (.int res.1) = .int res.1 → va_P D vwCl (wd_C a cI cL cB cZ z res.2) H → va_D A (wd_C a cI cL cB cZ z res.2) → va_S A s.heap H locs → W p l e zr_X8_goBack s m args below meth c H locs 0 0 Q (F0 m pc ls [.int res.1])) (hk2 : ∀ (v1 : Int32) (S : mq_St) (H : Heap) (locs : List Loc) (ls : Array Slot), k2 v1 S = some res → lv_has ls 2 [(0, .ref (a 25)), (1, .int (v1))] → va_P D vwCl (wd_C a cI cL cB cZ z S) H → va_D A (wd_C a cI cL cB cZ z S) → va_S A s.heap H locs → W p l e zr_X8_goBack s m args below meth c H locs 0 0 Q (F0 m 2 ls [])) (v1 : Int32) (S : mq_St) (H : Heap) (locs : List Loc) (ls : Array Slot) (h : zf_X8_goBack_2b N z k2 v1 S = some res) (hl : lv_has ls 2 [(0, .ref (a 25)), (1, .int (v1))]) (hP : va_P D vwCl (wd_C a cI cL cB cZ z S) H) (hD : va_D A (wd_C a cI cL cB cZ z S)) (hS : va_S A s.heap H locs) : W p l e zr_X8_goBack s m args below meth c H locs 0 0 Q (F0 m 2 ls []) := by
  obtain ⟨hx, hb, hml, hown, hts, hK, hA⟩ := id C
  unfold zf_X8_goBack_2b at h
  refine lv_iload_n hx hb dX8_goBack_2 rfl (lv_at hl 1 rfl) ?_
  refine lv_bipush (v := (60 : Int32)) hx hb dX8_goBack_3 (by decide) ?_
  refine lv_icmp_ge (tgt := 63) hx hb dX8_goBack_5 (by decide) (fun c11 => ?_) (fun c11 => ?_)
  · replace h := mq_it c11 h
    exact zw_X8_goBack_63 C hret S H locs ls h (lv_sub hl [0] rfl) hP hD hS
  · replace h := mq_if c11 h
    refine lv_aload_n hx hb dX8_goBack_8 rfl (lv_at hl 0 rfl) ?_
    refine va_get (D := D) (ci := 8) (v := .int ((S.1 14))) (C := RX8) (T := TX8) (N := 19) hx hb hts (zi_X8 _) hown hK hP 25 rfl rfl 13 (by decide) (hts _ (List.mem_cons_of_mem _ zt_f_X8_70)) (fun _ h9 => h9) rfl dX8_goBack_9 ?_
    refine lv_aload_n hx hb dX8_goBack_12 rfl (lv_at hl 0 rfl) ?_
    refine va_get (D := D) (ci := 8) (v := .ref (a 28)) (C := RX8) (T := TX8) (N := 19) hx hb hts (zi_X8 _) hown hK hP 25 rfl rfl 6 (by decide) (hts _ (List.mem_cons_of_mem _ zt_f_X8_33)) (fun _ h9 => h9) rfl dX8_goBack_13 ?_
    refine lv_aload_n hx hb dX8_goBack_16 rfl (lv_at hl 0 rfl) ?_
    refine va_get (D := D) (ci := 8) (v := .int ((S.1 16))) (C := RX8) (T := TX8) (N := 19) hx hb hts (zi_X8 _) hown hK hP 25 rfl rfl 15 (by decide) (hts _ (List.mem_cons_of_mem _ zt_f_X8_160)) (fun _ h9 => h9) rfl dX8_goBack_17 ?_
    have hi2 := mq_ck_in h
    replace h := mq_ck_go h
    refine va_iald (f := S.2.1 18) hx hb hK hP 28 0 rfl rfl hi2 dX8_goBack_20 ?_
    refine lv_icmp_ne (tgt := 63) hx hb dX8_goBack_21 (by decide) (fun c10 => ?_) (fun c10 => ?_)
    · replace h := mq_if c10 h
      exact zw_X8_goBack_63 C hret S H locs ls h (lv_sub hl [0] rfl) hP hD hS
    · replace h := mq_it (by simpa using c10) h
      refine lv_aload_n hx hb dX8_goBack_24 rfl (lv_at hl 0 rfl) ?_
      refine va_get (D := D) (ci := 8) (v := .ref (a 26)) (C := RX8) (T := TX8) (N := 19) hx hb hts (zi_X8 _) hown hK hP 25 rfl rfl 4 (by decide) (hts _ (List.mem_cons_of_mem _ zt_f_X8_26)) (fun _ h9 => h9) rfl dX8_goBack_25 ?_
      refine lv_aload_n hx hb dX8_goBack_28 rfl (lv_at hl 0 rfl) ?_
      refine va_get (D := D) (ci := 8) (v := .int ((S.1 16))) (C := RX8) (T := TX8) (N := 19) hx hb hts (zi_X8 _) hown hK hP 25 rfl rfl 15 (by decide) (hts _ (List.mem_cons_of_mem _ zt_f_X8_160)) (fun _ h9 => h9) rfl dX8_goBack_29 ?_
      have hi3 := mq_ck_in h
      replace h := mq_ck_go h
      refine va_iald (f := S.2.1 16) hx hb hK hP 26 0 rfl rfl hi3 dX8_goBack_32 ?_
      refine lv_iconst (v := (-1 : Int32)) hx hb dX8_goBack_33 (by decide) ?_
      refine lv_icmp_ne (tgt := 44) hx hb dX8_goBack_34 (by decide) (fun c9 => ?_) (fun c9 => ?_)
      · replace h := mq_if c9 h
        refine lv_aload_n hx hb dX8_goBack_44 rfl (lv_at hl 0 rfl) ?_
        refine lv_aload_n hx hb dX8_goBack_45 rfl (lv_at hl 0 rfl) ?_
        refine va_get (D := D) (ci := 8) (v := .ref (a 26)) (C := RX8) (T := TX8) (N := 19) hx hb hts (zi_X8 _) hown hK hP 25 rfl rfl 4 (by decide) (hts _ (List.mem_cons_of_mem _ zt_f_X8_26)) (fun _ h9 => h9) rfl dX8_goBack_46 ?_
        refine lv_aload_n hx hb dX8_goBack_49 rfl (lv_at hl 0 rfl) ?_
        refine va_get (D := D) (ci := 8) (v := .int ((S.1 16))) (C := RX8) (T := TX8) (N := 19) hx hb hts (zi_X8 _) hown hK hP 25 rfl rfl 15 (by decide) (hts _ (List.mem_cons_of_mem _ zt_f_X8_160)) (fun _ h9 => h9) rfl dX8_goBack_50 ?_
        have hi4 := mq_ck_in h
        replace h := mq_ck_go h
        refine va_iald (f := S.2.1 16) hx hb hK hP 26 0 rfl rfl hi4 dX8_goBack_53 ?_
        refine mq_put (w := wd_C a cI cL cB cZ z) (S := S) (D := D) (ci := 8) (v := (S.2.1 16 ((S.1 16)).toNatClampNeg)) (ty := .int) (C := RX8) (T := TX8) (N := 19) hx hb hts (zi_X8 _) tyX8 tyX8_ok nmX8 hown hK hP hD hS 25 rfl rfl 15 (by decide) (hts _ (List.mem_cons_of_mem _ zt_f_X8_160)) (fun _ h9 => h9) rfl (by decide +kernel) rfl rfl (Nat.le_of_ble_eq_true rfl) dX8_goBack_54 16 (zs_wd_C_i_25_16 _ _ _ _ _ _ _ _) (fun S5 eS5 H locs hP hD hS => ?_)
        replace h := mq_nS_go eS5 h
        obtain ⟨x6, ex6⟩ : ∃ y : Int32, y = v1 + (1 : Int32) := ⟨_, rfl⟩
        replace h := mq_nI_go ex6 h
        refine lv_iinc (v := x6) (lv' := [(1, .int (x6)), (0, .ref (a 25))]) hx hb dX8_goBack_57 hl (k := 1) rfl (by rw [ex6]; rfl) (by decide) rfl (fun ls hl => ?_)
        refine lv_goto (tgt := 2) hx hb dX8_goBack_60 (by decide) ?_
        exact hk2 (x6) S5 H locs ls h (lv_sub hl [1, 0] rfl) hP hD hS
      · replace h := mq_it (by simpa using c9) h
        refine lv_aload_n hx hb dX8_goBack_37 rfl (lv_at hl 0 rfl) ?_
        refine lv_iconst (v := (1 : Int32)) hx hb dX8_goBack_38 (by decide) ?_
        refine mq_put (w := wd_C a cI cL cB cZ z) (S := S) (D := D) (ci := 8) (v := (1 : Int32)) (ty := .int) (C := RX8) (T := TX8) (N := 19) hx hb hts (zi_X8 _) tyX8 tyX8_ok nmX8 hown hK hP hD hS 25 rfl rfl 18 (by decide) (hts _ (List.mem_cons_of_mem _ zt_f_X8_67)) (fun _ h9 => h9) rfl (by decide +kernel) rfl rfl (Nat.le_of_ble_eq_true rfl) dX8_goBack_39 19 (zs_wd_C_i_25_19 _ _ _ _ _ _ _ _) (fun S7 eS7 H locs hP hD hS => ?_)
        replace h := mq_nS_go eS7 h
        refine lv_iconst (v := (0 : Int32)) hx hb dX8_goBack_42 (by decide) ?_
        have hz8 := mq_cz_in h
        replace h := mq_cz_go h
        cases h
        exact hret H locs ls 43 dX8_goBack_43 hz8.1 hP hD hS
set_option maxHeartbeats 4000000 in
set_option maxRecDepth 100000 in
theorem zw_X8_goBack_2 {p : Program} {l : Launch} {e : Env} {s : State} {m : MethodId} {args : Array Value} {below : List Frame} {meth : Method} {c : Code} {A : Nat → Prop} {D : va_G} {a z : Nat → Nat} {cI cL cB cZ : ClassId} {Q : State → Prop} {N : Nat} {res : Int32 × mq_St} (C : mq_C p s m args c A D cI cL cB cZ cX8_goBack 2 RX8 zc_X8_goBack) (hret : ∀ (H : Heap) (locs : List Loc) (ls : Array Slot) (pc : Nat), decode cX8_goBack pc = .ok (.ireturn, 1) → narrow .boolean (.int res.1) = .int res.1 → va_P D vwCl (wd_C a cI cL cB cZ z res.2) H → va_D A (wd_C a cI cL cB cZ z res.2) → va_S A s.heap H locs → W p l e zr_X8_goBack s m args below meth c H locs 0 0 Q (F0 m pc ls [.int res.1])) : ∀ (n : Nat) (v1 : Int32) (S : mq_St) (H : Heap) (locs : List Loc) (ls : Array Slot) (h : zf_X8_goBack_2 N z n v1 S = some res) (hl : lv_has ls 2 [(0, .ref (a 25)), (1, .int (v1))]) (hP : va_P D vwCl (wd_C a cI cL cB cZ z S) H) (hD : va_D A (wd_C a cI cL cB cZ z S)) (hS : va_S A s.heap H locs), W p l e zr_X8_goBack s m args below meth c H locs 0 0 Q (F0 m 2 ls []) := by
  intro n
  induction n with
  | zero =>
    intro v1 S H locs ls h hl hP hD hS
    exact nomatch (show (none : Option (Int32 × mq_St)) = some res from h)
  | succ n ih =>
    intro v1 S H locs ls h hl hP hD hS
    exact zw_X8_goBack_2b C hret (fun v1 S H locs ls h hl hP hD hS => ih v1 S H locs ls h hl hP hD hS) v1 S H locs ls h hl hP hD hS
set_option maxHeartbeats 4000000 in
set_option maxRecDepth 100000 in
theorem zw_X8_goBack_0 {p : Program} {l : Launch} {e : Env} {s : State} {m : MethodId} {args : Array Value} {below : List Frame} {meth : Method} {c : Code} {A : Nat → Prop} {D : va_G} {a z : Nat → Nat} {cI cL cB cZ : ClassId} {Q : State → Prop} {N : Nat} {res : Int32 × mq_St} (C : mq_C p s m args c A D cI cL cB cZ cX8_goBack 2 RX8 zc_X8_goBack) (hret : ∀ (H : Heap) (locs : List Loc) (ls : Array Slot) (pc : Nat), decode cX8_goBack pc = .ok (.ireturn, 1) → narrow .boolean (.int res.1) = .int res.1 → va_P D vwCl (wd_C a cI cL cB cZ z res.2) H → va_D A (wd_C a cI cL cB cZ z res.2) → va_S A s.heap H locs → W p l e zr_X8_goBack s m args below meth c H locs 0 0 Q (F0 m pc ls [.int res.1])) (S : mq_St) (H : Heap) (locs : List Loc) (ls : Array Slot) (h : zf_X8_goBack N z S = some res) (hl : lv_has ls 2 [(0, .ref (a 25))]) (hP : va_P D vwCl (wd_C a cI cL cB cZ z S) H) (hD : va_D A (wd_C a cI cL cB cZ z S)) (hS : va_S A s.heap H locs) : W p l e zr_X8_goBack s m args below meth c H locs 0 0 Q (F0 m 0 ls []) := by
  obtain ⟨hx, hb, hml, hown, hts, hK, hA⟩ := id C
  unfold zf_X8_goBack at h
  refine lv_iconst (v := (0 : Int32)) hx hb dX8_goBack_0 (by decide) ?_
  refine lv_topi (fun x1 ex1 => ?_)
  replace h := mq_nI_go ex1 h
  refine lv_istore_n (lv' := [(1, .int (x1)), (0, .ref (a 25))]) hx hb dX8_goBack_1 rfl hl (by decide) rfl (fun ls hl => ?_)
  exact zw_X8_goBack_2 C hret N (x1) S H locs ls h (lv_sub hl [1, 0] rfl) hP hD hS
set_option maxHeartbeats 4000000 in
set_option maxRecDepth 100000 in
theorem zm_X8_goBack (l : Launch) (D : va_G) (a z : Nat → Nat) (cI cL cB cZ : ClassId) (sz N : Nat) (S : mq_St) (res : Int32 × mq_St) (h : zf_X8_goBack N z S = some res) : Met l yX8_goBack (zc_X8_goBack :: mq_T) zr_X8_goBack (va_Pc [.ref (a 25)] (fun U => U.heap.size = sz ∧ va_P D vwCl (wd_C a cI cL cB cZ z S) U.heap ∧ va_K D vwCl (mq_tys cI cL cB cZ) U ∧ va_D (fun _ => True) (wd_C a cI cL cB cZ z S))) (va_Qi (fun (r : Int32) (u : mq_St) => r = res.1 ∧ u = res.2) (fun u t => va_P D vwCl (wd_C a cI cL cB cZ z u) t.heap ∧ va_K D vwCl (mq_tys cI cL cB cZ) t ∧ va_D (va_A (wd_C a cI cL cB cZ z S) sz) (wd_C a cI cL cB cZ z u)) (va_A (wd_C a cI cL cB cZ z S) sz)) 0 0 (va_A (wd_C a cI cL cB cZ z S) sz) := by
  refine Met.ofW (cc := cX8_goBack) (maxL := 2) (ret := (some .boolean)) (by decide) rfl ?_
  intro p e s m args below meth c s₁ B hml hv
  obtain ⟨rfl, hsz, hP, hK, hD0⟩ := hv
  have hr := B.returns
  have hlocks := B.notSynchronized
  have hts := atoms_spec (ws := zc_X8_goBack :: mq_T) B.pre
  have hown : s.vm.findClass RX8 = some m.cls := findClass_of_methodNamed B.named
  subst hsz
  have hD := hD0.self (sz := s.heap.size)
  generalize hAe : va_A (wd_C a cI cL cB cZ z S) s.heap.size = A at hD ⊢
  have hA : ∀ q : Nat, s.heap.size ≤ q → A q := fun q h => by rw [← hAe]; exact Or.inr h
  have hl := lv_entry ([.ref (a 25)]) (n := 2) (Nat.le_of_ble_eq_true rfl)
  rw [lg_entry_eq]
  generalize (lg_sl ([.ref (a 25)]) ++ List.replicate (2 - (lg_sl ([.ref (a 25)])).length) Slot.unset).toArray = ls at hl ⊢
  have hl : lv_has ls 2 [(0, .ref (a 25))] := hl
  refine zw_X8_goBack_0 (A := A) ⟨B.exec, B.bytes, hml, hown, hts, hK, hA⟩ (fun H locs ls pc dg hz hP hD hS => ?_) S s.heap [] ls h hl hP hD va_S.rf
  exact W.zret B.exec B.bytes hr hz (fun t ht hW => ⟨⟨_, _, rfl, ⟨rfl, rfl⟩, by rw [ht]; exact hP, va_K.moved hW.alike hK, hD⟩, hS.F ht⟩) hS.2.2 dg
theorem zt_X8_goBack_c : zc_X8_goBack ∈ mq_T := mq_T_mem (mq_t4 (List.mem_of_getElem? (i := 42) rfl)) rfl
theorem zt_X8_goBack_i : Cond.instanceMethod yX8_goBack ∈ mq_T := mq_T_mem (mq_t4 (List.mem_of_getElem? (i := 41) rfl)) rfl
theorem zt_X8_goBack_s : Cond.selects RX8 yX8_goBack yX8_goBack ∈ mq_T := mq_T_at 38 (by decide +kernel)
set_option maxHeartbeats 4000000 in
theorem zk_X8_goBack {p : Program} {l : Launch} {e : Env} {R : Room} {s : State} {m : MethodId} {args : Array Value} {below : List Frame} {meth : Method} {c : Code} {A : Nat → Prop} {D : va_G} {a z : Nat → Nat} {cI cL cB cZ : ClassId} {Q : State → Prop} {cc : ByteArray} {nL idx pc N : Nat} {own : String} {c1 : Cond} {H : Heap} {locs : List Loc} {ls : Array Slot} {rest : List Value} {S : mq_St} {res : Int32 × mq_St} (C : mq_C p s m args c A D cI cL cB cZ cc nL own c1) (hlk : Cond.methodLink own idx yX8_goBack ∈ mq_T) (hR : zr_X8_goBack.frames + 1 ≤ R.frames ∧ 8 + (2 + 11) + zr_X8_goBack.locals ≤ R.locals) (h : zf_X8_goBack N z S = some res) (hP : va_P D vwCl (wd_C a cI cL cB cZ z S) H) (hD : va_D A (wd_C a cI cL cB cZ z S)) (hS : va_S A s.heap H locs) (hls : ls.size = nL) (hrest : (rest.map fun v => v.category).sum ≤ 8) (hdg : decode cc pc = .ok (.invokevirtual idx, 3)) (kk : ∀ (H1 : Heap) (locs1 : List Loc), va_P D vwCl (wd_C a cI cL cB cZ z res.2) H1 → va_D A (wd_C a cI cL cB cZ z res.2) → va_S A s.heap H1 locs1 → W p l e R s m args below meth c H1 locs1 0 0 Q (F0 m (pc + 3) ls (.int res.1 :: rest))) : W p l e R s m args below meth c H locs 0 0 Q (F0 m pc ls (.ref (a 25) :: rest)) := by
  obtain ⟨hx, hb, hml, hown, hts, hK, hA⟩ := C
  have hFc := mq_freeI hD hS hA
  refine va_calli (va_runV (As := []) (rest := rest) ⟨hx, hb, hml, hown, hts⟩ (zm_X8_goBack l D a z cI cL cB cZ H.size N S res h) (cwV 0 hts (mq_goodL (mq_wsV hlk zt_X8_goBack_i zt_X8_goBack_s zt_ini_X8 zt_X8_goBack_c)) rfl rfl rfl (by decide +kernel) hR) ⟨fun a U g mk q => ⟨q.1, q.2.1, q.2.2.1, va_K.moved (u := U) (U := U.calling g mk a) (Vm.Alike.refl U.vm) q.2.2.2.1, q.2.2.2.2⟩, zy_C_25 hK hP, fun U hU hW => ⟨rfl, by rw [hU], by rw [hU]; exact hP, va_K.moved hW.alike hK, hD.weaken (fun _ _ _ _ => trivial)⟩⟩ rfl rfl hls rfl (lv_room hrest) hdg ⟨Nat.zero_le _, Nat.zero_le _⟩) hS (fun q _ h => hFc q h) hFc (fun r u t H1 locs ht hvm hw hB hz1 hk1 hS => ?_)
  obtain ⟨rfl, rfl⟩ := hw
  obtain ⟨hP1, hK1, hD1⟩ := hB
  rw [ht] at hP1
  exact kk H1 locs hP1 (hD1.weaken (fun _ _ _ h => hFc _ h)) hS
theorem zt_f_X8_49 : Cond.fieldLink RX8 49 "ModalDesk$Tableau" "lines" "LModalDesk$Lines;" ∈ mq_T := mq_T_mem (mq_t1 (List.mem_of_getElem? (i := 227) rfl)) rfl
theorem zt_m_X8_220 : Cond.methodLink RX8 220 yX3_push ∈ mq_T := mq_T_mem (mq_t4 (List.mem_of_getElem? (i := 35) rfl)) rfl
theorem zx_wd_C_wd_L_41_42 (a z : Nat → Nat) (cI cL cB cZ : ClassId) (S X : mq_St) : mq_setM (wd_C a cI cL cB cZ z S) [41, 42] (wd_L (mq_ad a [41, 42]) cI cL cB cZ z X) = (wd_C a cI cL cB cZ z (mq_push S X [20] [22] [])) := rfl
/-! ModalDesk$Tableau.note(II)Z -/
def zr_X8_note : Room := { frames := 1, cells := 0, slots := 0, locals := 22 }
def zc_X8_note : Cond := .code yX8_note cX8_note 3 (some .boolean)
def zf_X8_note (N : Nat) (z : Nat → Nat) (v1 : Int32) (v2 : Int32) (S : mq_St) : Option (Int32 × mq_St) := (mq_cl (zf_X3_push N z (v1) (v2) (mq_pull S [20] [22] [])) (fun q1v q1s => mq_nS (mq_push S q1s [20] [22] []) (fun S3 => (if q1v = (0 : Int32) then (mq_nS (mq_si S3 19 ((-4 : Int32))) (fun S5 => (mq_cz ((0 : Int32)) (some ((0 : Int32), S5))))) else (mq_cz ((1 : Int32)) (some ((1 : Int32), S3)))))))
set_option maxHeartbeats 4000000 in
set_option maxRecDepth 100000 in
theorem zw_X8_note_0 {p : Program} {l : Launch} {e : Env} {s : State} {m : MethodId} {args : Array Value} {below : List Frame} {meth : Method} {c : Code} {A : Nat → Prop} {D : va_G} {a z : Nat → Nat} {cI cL cB cZ : ClassId} {Q : State → Prop} {N : Nat} {res : Int32 × mq_St} (C : mq_C p s m args c A D cI cL cB cZ cX8_note 3 RX8 zc_X8_note) (hret : ∀ (H : Heap) (locs : List Loc) (ls : Array Slot) (pc : Nat), decode cX8_note pc = .ok (.ireturn, 1) → narrow .boolean (.int res.1) = .int res.1 → va_P D vwCl (wd_C a cI cL cB cZ z res.2) H → va_D A (wd_C a cI cL cB cZ z res.2) → va_S A s.heap H locs → W p l e zr_X8_note s m args below meth c H locs 0 0 Q (F0 m pc ls [.int res.1])) (v1 : Int32) (v2 : Int32) (S : mq_St) (H : Heap) (locs : List Loc) (ls : Array Slot) (h : zf_X8_note N z v1 v2 S = some res) (hl : lv_has ls 3 [(0, .ref (a 25)), (1, .int (v1)), (2, .int (v2))]) (hP : va_P D vwCl (wd_C a cI cL cB cZ z S) H) (hD : va_D A (wd_C a cI cL cB cZ z S)) (hS : va_S A s.heap H locs) : W p l e zr_X8_note s m args below meth c H locs 0 0 Q (F0 m 0 ls []) := by
  obtain ⟨hx, hb, hml, hown, hts, hK, hA⟩ := id C
  unfold zf_X8_note at h
  refine lv_aload_n hx hb dX8_note_0 rfl (lv_at hl 0 rfl) ?_
  refine va_get (D := D) (ci := 8) (v := .ref (a 41)) (C := RX8) (T := TX8) (N := 19) hx hb hts (zi_X8 _) hown hK hP 25 rfl rfl 11 (by decide) (hts _ (List.mem_cons_of_mem _ zt_f_X8_49)) (fun _ h9 => h9) rfl dX8_note_1 ?_
  refine lv_iload_n hx hb dX8_note_4 rfl (lv_at hl 1 rfl) ?_
  refine lv_iload_n hx hb dX8_note_5 rfl (lv_at hl 2 rfl) ?_
  obtain ⟨q1, hc2, h⟩ := mq_cl_go h
  refine zv_X3_push (a := mq_ad a [41, 42]) (z := z) [41, 42] C zt_m_X8_220 ⟨by decide, by decide⟩ hc2 rfl (by decide) (ws' := (wd_C a cI cL cB cZ z (mq_push S q1.2 [20] [22] []))) (zx_wd_C_wd_L_41_42 _ _ _ _ _ _ _ _) hP hD hS hl.1 (Nat.le_of_ble_eq_true rfl) dX8_note_6 (fun H locs hP hD hS => ?_)
  obtain ⟨S3, eS3⟩ : ∃ y, y = mq_push S q1.2 [20] [22] [] := ⟨_, rfl⟩
  replace h := mq_nS_go eS3 h
  rw [← eS3] at hP hD
  refine lv_if_ne (tgt := 20) hx hb dX8_note_9 (by decide) (fun c7 => ?_) (fun c7 => ?_)
  · replace h := mq_if c7 h
    refine lv_iconst (v := (1 : Int32)) hx hb dX8_note_20 (by decide) ?_
    have hz4 := mq_cz_in h
    replace h := mq_cz_go h
    cases h
    exact hret H locs ls 21 dX8_note_21 hz4.1 hP hD hS
  · replace h := mq_it (by simpa using c7) h
    refine lv_aload_n hx hb dX8_note_12 rfl (lv_at hl 0 rfl) ?_
    refine lv_bipush (v := (-4 : Int32)) hx hb dX8_note_13 (by decide) ?_
    refine mq_put (w := wd_C a cI cL cB cZ z) (S := S3) (D := D) (ci := 8) (v := (-4 : Int32)) (ty := .int) (C := RX8) (T := TX8) (N := 19) hx hb hts (zi_X8 _) tyX8 tyX8_ok nmX8 hown hK hP hD hS 25 rfl rfl 18 (by decide) (hts _ (List.mem_cons_of_mem _ zt_f_X8_67)) (fun _ h9 => h9) rfl (by decide +kernel) rfl rfl (Nat.le_of_ble_eq_true rfl) dX8_note_15 19 (zs_wd_C_i_25_19 _ _ _ _ _ _ _ _) (fun S5 eS5 H locs hP hD hS => ?_)
    replace h := mq_nS_go eS5 h
    refine lv_iconst (v := (0 : Int32)) hx hb dX8_note_18 (by decide) ?_
    have hz6 := mq_cz_in h
    replace h := mq_cz_go h
    cases h
    exact hret H locs ls 19 dX8_note_19 hz6.1 hP hD hS
set_option maxHeartbeats 4000000 in
set_option maxRecDepth 100000 in
theorem zm_X8_note (l : Launch) (D : va_G) (a z : Nat → Nat) (cI cL cB cZ : ClassId) (sz N : Nat) (v1 : Int32) (v2 : Int32) (S : mq_St) (res : Int32 × mq_St) (h : zf_X8_note N z v1 v2 S = some res) : Met l yX8_note (zc_X8_note :: mq_T) zr_X8_note (va_Pc [.ref (a 25), .int (v1), .int (v2)] (fun U => U.heap.size = sz ∧ va_P D vwCl (wd_C a cI cL cB cZ z S) U.heap ∧ va_K D vwCl (mq_tys cI cL cB cZ) U ∧ va_D (fun _ => True) (wd_C a cI cL cB cZ z S))) (va_Qi (fun (r : Int32) (u : mq_St) => r = res.1 ∧ u = res.2) (fun u t => va_P D vwCl (wd_C a cI cL cB cZ z u) t.heap ∧ va_K D vwCl (mq_tys cI cL cB cZ) t ∧ va_D (va_A (wd_C a cI cL cB cZ z S) sz) (wd_C a cI cL cB cZ z u)) (va_A (wd_C a cI cL cB cZ z S) sz)) 0 0 (va_A (wd_C a cI cL cB cZ z S) sz) := by
  refine Met.ofW (cc := cX8_note) (maxL := 3) (ret := (some .boolean)) (by decide) rfl ?_
  intro p e s m args below meth c s₁ B hml hv
  obtain ⟨rfl, hsz, hP, hK, hD0⟩ := hv
  have hr := B.returns
  have hlocks := B.notSynchronized
  have hts := atoms_spec (ws := zc_X8_note :: mq_T) B.pre
  have hown : s.vm.findClass RX8 = some m.cls := findClass_of_methodNamed B.named
  subst hsz
  have hD := hD0.self (sz := s.heap.size)
  generalize hAe : va_A (wd_C a cI cL cB cZ z S) s.heap.size = A at hD ⊢
  have hA : ∀ q : Nat, s.heap.size ≤ q → A q := fun q h => by rw [← hAe]; exact Or.inr h
  have hl := lv_entry ([.ref (a 25), .int (v1), .int (v2)]) (n := 3) (Nat.le_of_ble_eq_true rfl)
  rw [lg_entry_eq]
  generalize (lg_sl ([.ref (a 25), .int (v1), .int (v2)]) ++ List.replicate (3 - (lg_sl ([.ref (a 25), .int (v1), .int (v2)])).length) Slot.unset).toArray = ls at hl ⊢
  have hl : lv_has ls 3 [(0, .ref (a 25)), (1, .int (v1)), (2, .int (v2))] := hl
  refine zw_X8_note_0 (A := A) ⟨B.exec, B.bytes, hml, hown, hts, hK, hA⟩ (fun H locs ls pc dg hz hP hD hS => ?_) v1 v2 S s.heap [] ls h hl hP hD va_S.rf
  exact W.zret B.exec B.bytes hr hz (fun t ht hW => ⟨⟨_, _, rfl, ⟨rfl, rfl⟩, by rw [ht]; exact hP, va_K.moved hW.alike hK, hD⟩, hS.F ht⟩) hS.2.2 dg
theorem zt_X8_note_c : zc_X8_note ∈ mq_T := mq_T_mem (mq_t4 (List.mem_of_getElem? (i := 34) rfl)) rfl
theorem zt_X8_note_i : Cond.instanceMethod yX8_note ∈ mq_T := mq_T_mem (mq_t4 (List.mem_of_getElem? (i := 33) rfl)) rfl
theorem zt_X8_note_s : Cond.selects RX8 yX8_note yX8_note ∈ mq_T := mq_T_at 37 (by decide +kernel)
set_option maxHeartbeats 4000000 in
theorem zk_X8_note {p : Program} {l : Launch} {e : Env} {R : Room} {s : State} {m : MethodId} {args : Array Value} {below : List Frame} {meth : Method} {c : Code} {A : Nat → Prop} {D : va_G} {a z : Nat → Nat} {cI cL cB cZ : ClassId} {Q : State → Prop} {cc : ByteArray} {nL idx pc N : Nat} {own : String} {c1 : Cond} {H : Heap} {locs : List Loc} {ls : Array Slot} {rest : List Value} {S : mq_St} {res : Int32 × mq_St} {v1 : Int32} {v2 : Int32} (C : mq_C p s m args c A D cI cL cB cZ cc nL own c1) (hlk : Cond.methodLink own idx yX8_note ∈ mq_T) (hR : zr_X8_note.frames + 1 ≤ R.frames ∧ 8 + (3 + 11) + zr_X8_note.locals ≤ R.locals) (h : zf_X8_note N z v1 v2 S = some res) (hP : va_P D vwCl (wd_C a cI cL cB cZ z S) H) (hD : va_D A (wd_C a cI cL cB cZ z S)) (hS : va_S A s.heap H locs) (hls : ls.size = nL) (hrest : (rest.map fun v => v.category).sum ≤ 8) (hdg : decode cc pc = .ok (.invokevirtual idx, 3)) (kk : ∀ (H1 : Heap) (locs1 : List Loc), va_P D vwCl (wd_C a cI cL cB cZ z res.2) H1 → va_D A (wd_C a cI cL cB cZ z res.2) → va_S A s.heap H1 locs1 → W p l e R s m args below meth c H1 locs1 0 0 Q (F0 m (pc + 3) ls (.int res.1 :: rest))) : W p l e R s m args below meth c H locs 0 0 Q (F0 m pc ls (.int (v2) :: .int (v1) :: .ref (a 25) :: rest)) := by
  obtain ⟨hx, hb, hml, hown, hts, hK, hA⟩ := C
  have hFc := mq_freeI hD hS hA
  refine va_calli (va_runV (As := [.int (v1), .int (v2)]) (rest := rest) ⟨hx, hb, hml, hown, hts⟩ (zm_X8_note l D a z cI cL cB cZ H.size N v1 v2 S res h) (cwV 2 hts (mq_goodL (mq_wsV hlk zt_X8_note_i zt_X8_note_s zt_ini_X8 zt_X8_note_c)) rfl rfl rfl (by decide +kernel) hR) ⟨fun a U g mk q => ⟨q.1, q.2.1, q.2.2.1, va_K.moved (u := U) (U := U.calling g mk a) (Vm.Alike.refl U.vm) q.2.2.2.1, q.2.2.2.2⟩, zy_C_25 hK hP, fun U hU hW => ⟨rfl, by rw [hU], by rw [hU]; exact hP, va_K.moved hW.alike hK, hD.weaken (fun _ _ _ _ => trivial)⟩⟩ rfl rfl hls rfl (lv_room hrest) hdg ⟨Nat.zero_le _, Nat.zero_le _⟩) hS (fun q _ h => hFc q h) hFc (fun r u t H1 locs ht hvm hw hB hz1 hk1 hS => ?_)
  obtain ⟨rfl, rfl⟩ := hw
  obtain ⟨hP1, hK1, hD1⟩ := hB
  rw [ht] at hP1
  exact kk H1 locs hP1 (hD1.weaken (fun _ _ _ h => hFc _ h)) hS
theorem zt_f_X8_63 : Cond.fieldLink RX8 63 "ModalDesk$Tableau" "fuel" "I" ∈ mq_T := mq_T_mem (mq_t1 (List.mem_of_getElem? (i := 233) rfl)) rfl
/-! ModalDesk$Tableau.step()Z -/
def zr_X8_step : Room := { frames := 0, cells := 0, slots := 0, locals := 0 }
def zc_X8_step : Cond := .code yX8_step cX8_step 1 (some .boolean)
def zf_X8_step (N : Nat) (z : Nat → Nat) (S : mq_St) : Option (Int32 × mq_St) := (mq_ck ((0 : Int32)) 4 (if (S.2.1 21 ((0 : Int32)).toNatClampNeg) < (S.1 18) then (mq_ck ((0 : Int32)) 4 (mq_ck ((0 : Int32)) 4 (mq_nS (mq_sa S 21 (upd (S.2.1 21) ((0 : Int32)).toNatClampNeg (((S.2.1 21 ((0 : Int32)).toNatClampNeg) + (1 : Int32))))) (fun S4 => (mq_cz ((1 : Int32)) (some ((1 : Int32), S4))))))) else (mq_nS (mq_si S 19 ((-3 : Int32))) (fun S6 => (mq_cz ((0 : Int32)) (some ((0 : Int32), S6)))))))
set_option maxHeartbeats 4000000 in
set_option maxRecDepth 100000 in
theorem zw_X8_step_0 {p : Program} {l : Launch} {e : Env} {s : State} {m : MethodId} {args : Array Value} {below : List Frame} {meth : Method} {c : Code} {A : Nat → Prop} {D : va_G} {a z : Nat → Nat} {cI cL cB cZ : ClassId} {Q : State → Prop} {N : Nat} {res : Int32 × mq_St} (C : mq_C p s m args c A D cI cL cB cZ cX8_step 1 RX8 zc_X8_step) (hret : ∀ (H : Heap) (locs : List Loc) (ls : Array Slot) (pc : Nat), decode cX8_step pc = .ok (.ireturn, 1) → narrow .boolean (.int res.1) = .int res.1 → va_P D vwCl (wd_C a cI cL cB cZ z res.2) H → va_D A (wd_C a cI cL cB cZ z res.2) → va_S A s.heap H locs → W p l e zr_X8_step s m args below meth c H locs 0 0 Q (F0 m pc ls [.int res.1])) (S : mq_St) (H : Heap) (locs : List Loc) (ls : Array Slot) (h : zf_X8_step N z S = some res) (hl : lv_has ls 1 [(0, .ref (a 25))]) (hP : va_P D vwCl (wd_C a cI cL cB cZ z S) H) (hD : va_D A (wd_C a cI cL cB cZ z S)) (hS : va_S A s.heap H locs) : W p l e zr_X8_step s m args below meth c H locs 0 0 Q (F0 m 0 ls []) := by
  obtain ⟨hx, hb, hml, hown, hts, hK, hA⟩ := id C
  unfold zf_X8_step at h
  refine lv_aload_n hx hb dX8_step_0 rfl (lv_at hl 0 rfl) ?_
  refine va_get (D := D) (ci := 8) (v := .ref (a 32)) (C := RX8) (T := TX8) (N := 19) hx hb hts (zi_X8 _) hown hK hP 25 rfl rfl 12 (by decide) (hts _ (List.mem_cons_of_mem _ zt_f_X8_53)) (fun _ h9 => h9) rfl dX8_step_1 ?_
  refine lv_iconst (v := (0 : Int32)) hx hb dX8_step_4 (by decide) ?_
  have hi1 := mq_ck_in h
  replace h := mq_ck_go h
  refine va_iald (f := S.2.1 21) hx hb hK hP 32 0 rfl rfl hi1 dX8_step_5 ?_
  refine lv_aload_n hx hb dX8_step_6 rfl (lv_at hl 0 rfl) ?_
  refine va_get (D := D) (ci := 8) (v := .int ((S.1 18))) (C := RX8) (T := TX8) (N := 19) hx hb hts (zi_X8 _) hown hK hP 25 rfl rfl 17 (by decide) (hts _ (List.mem_cons_of_mem _ zt_f_X8_63)) (fun _ h9 => h9) rfl dX8_step_7 ?_
  refine lv_icmp_lt (tgt := 21) hx hb dX8_step_10 (by decide) (fun c8 => ?_) (fun c8 => ?_)
  · replace h := mq_it c8 h
    refine lv_aload_n hx hb dX8_step_21 rfl (lv_at hl 0 rfl) ?_
    refine va_get (D := D) (ci := 8) (v := .ref (a 32)) (C := RX8) (T := TX8) (N := 19) hx hb hts (zi_X8 _) hown hK hP 25 rfl rfl 12 (by decide) (hts _ (List.mem_cons_of_mem _ zt_f_X8_53)) (fun _ h9 => h9) rfl dX8_step_22 ?_
    refine lv_iconst (v := (0 : Int32)) hx hb dX8_step_25 (by decide) ?_
    refine lv_dup2_11 hx hb dX8_step_26 rfl rfl ?_
    have hi2 := mq_ck_in h
    replace h := mq_ck_go h
    refine va_iald (f := S.2.1 21) hx hb hK hP 32 0 rfl rfl hi2 dX8_step_27 ?_
    refine lv_iconst (v := (1 : Int32)) hx hb dX8_step_28 (by decide) ?_
    refine lv_iadd hx hb dX8_step_29 ?_
    have hi3 := mq_ck_in h
    replace h := mq_ck_go h
    refine mq_iast (w := wd_C a cI cL cB cZ z) (S := S) (f := S.2.1 21) hx hb hK hP hD hS 32 0 rfl rfl hi3 dX8_step_30 21 (zs_wd_C_a_32_21 _ _ _ _ _ _ _ _) (fun S4 eS4 H locs hP hD hS => ?_)
    replace h := mq_nS_go eS4 h
    refine lv_iconst (v := (1 : Int32)) hx hb dX8_step_31 (by decide) ?_
    have hz5 := mq_cz_in h
    replace h := mq_cz_go h
    cases h
    exact hret H locs ls 32 dX8_step_32 hz5.1 hP hD hS
  · replace h := mq_if c8 h
    refine lv_aload_n hx hb dX8_step_13 rfl (lv_at hl 0 rfl) ?_
    refine lv_bipush (v := (-3 : Int32)) hx hb dX8_step_14 (by decide) ?_
    refine mq_put (w := wd_C a cI cL cB cZ z) (S := S) (D := D) (ci := 8) (v := (-3 : Int32)) (ty := .int) (C := RX8) (T := TX8) (N := 19) hx hb hts (zi_X8 _) tyX8 tyX8_ok nmX8 hown hK hP hD hS 25 rfl rfl 18 (by decide) (hts _ (List.mem_cons_of_mem _ zt_f_X8_67)) (fun _ h9 => h9) rfl (by decide +kernel) rfl rfl (Nat.le_of_ble_eq_true rfl) dX8_step_16 19 (zs_wd_C_i_25_19 _ _ _ _ _ _ _ _) (fun S6 eS6 H locs hP hD hS => ?_)
    replace h := mq_nS_go eS6 h
    refine lv_iconst (v := (0 : Int32)) hx hb dX8_step_19 (by decide) ?_
    have hz7 := mq_cz_in h
    replace h := mq_cz_go h
    cases h
    exact hret H locs ls 20 dX8_step_20 hz7.1 hP hD hS
set_option maxHeartbeats 4000000 in
set_option maxRecDepth 100000 in
theorem zm_X8_step (l : Launch) (D : va_G) (a z : Nat → Nat) (cI cL cB cZ : ClassId) (sz N : Nat) (S : mq_St) (res : Int32 × mq_St) (h : zf_X8_step N z S = some res) : Met l yX8_step (zc_X8_step :: mq_T) zr_X8_step (va_Pc [.ref (a 25)] (fun U => U.heap.size = sz ∧ va_P D vwCl (wd_C a cI cL cB cZ z S) U.heap ∧ va_K D vwCl (mq_tys cI cL cB cZ) U ∧ va_D (fun _ => True) (wd_C a cI cL cB cZ z S))) (va_Qi (fun (r : Int32) (u : mq_St) => r = res.1 ∧ u = res.2) (fun u t => va_P D vwCl (wd_C a cI cL cB cZ z u) t.heap ∧ va_K D vwCl (mq_tys cI cL cB cZ) t ∧ va_D (va_A (wd_C a cI cL cB cZ z S) sz) (wd_C a cI cL cB cZ z u)) (va_A (wd_C a cI cL cB cZ z S) sz)) 0 0 (va_A (wd_C a cI cL cB cZ z S) sz) := by
  refine Met.ofW (cc := cX8_step) (maxL := 1) (ret := (some .boolean)) (by decide) rfl ?_
  intro p e s m args below meth c s₁ B hml hv
  obtain ⟨rfl, hsz, hP, hK, hD0⟩ := hv
  have hr := B.returns
  have hlocks := B.notSynchronized
  have hts := atoms_spec (ws := zc_X8_step :: mq_T) B.pre
  have hown : s.vm.findClass RX8 = some m.cls := findClass_of_methodNamed B.named
  subst hsz
  have hD := hD0.self (sz := s.heap.size)
  generalize hAe : va_A (wd_C a cI cL cB cZ z S) s.heap.size = A at hD ⊢
  have hA : ∀ q : Nat, s.heap.size ≤ q → A q := fun q h => by rw [← hAe]; exact Or.inr h
  have hl := lv_entry ([.ref (a 25)]) (n := 1) (Nat.le_of_ble_eq_true rfl)
  rw [lg_entry_eq]
  generalize (lg_sl ([.ref (a 25)]) ++ List.replicate (1 - (lg_sl ([.ref (a 25)])).length) Slot.unset).toArray = ls at hl ⊢
  have hl : lv_has ls 1 [(0, .ref (a 25))] := hl
  refine zw_X8_step_0 (A := A) ⟨B.exec, B.bytes, hml, hown, hts, hK, hA⟩ (fun H locs ls pc dg hz hP hD hS => ?_) S s.heap [] ls h hl hP hD va_S.rf
  exact W.zret B.exec B.bytes hr hz (fun t ht hW => ⟨⟨_, _, rfl, ⟨rfl, rfl⟩, by rw [ht]; exact hP, va_K.moved hW.alike hK, hD⟩, hS.F ht⟩) hS.2.2 dg
theorem zt_X8_step_c : zc_X8_step ∈ mq_T := mq_T_mem (mq_t4 (List.mem_of_getElem? (i := 50) rfl)) rfl
theorem zt_X8_step_i : Cond.instanceMethod yX8_step ∈ mq_T := mq_T_mem (mq_t4 (List.mem_of_getElem? (i := 49) rfl)) rfl
theorem zt_X8_step_s : Cond.selects RX8 yX8_step yX8_step ∈ mq_T := mq_T_at 40 (by decide +kernel)
set_option maxHeartbeats 4000000 in
theorem zk_X8_step {p : Program} {l : Launch} {e : Env} {R : Room} {s : State} {m : MethodId} {args : Array Value} {below : List Frame} {meth : Method} {c : Code} {A : Nat → Prop} {D : va_G} {a z : Nat → Nat} {cI cL cB cZ : ClassId} {Q : State → Prop} {cc : ByteArray} {nL idx pc N : Nat} {own : String} {c1 : Cond} {H : Heap} {locs : List Loc} {ls : Array Slot} {rest : List Value} {S : mq_St} {res : Int32 × mq_St} (C : mq_C p s m args c A D cI cL cB cZ cc nL own c1) (hlk : Cond.methodLink own idx yX8_step ∈ mq_T) (hR : zr_X8_step.frames + 1 ≤ R.frames ∧ 8 + (1 + 11) + zr_X8_step.locals ≤ R.locals) (h : zf_X8_step N z S = some res) (hP : va_P D vwCl (wd_C a cI cL cB cZ z S) H) (hD : va_D A (wd_C a cI cL cB cZ z S)) (hS : va_S A s.heap H locs) (hls : ls.size = nL) (hrest : (rest.map fun v => v.category).sum ≤ 8) (hdg : decode cc pc = .ok (.invokevirtual idx, 3)) (kk : ∀ (H1 : Heap) (locs1 : List Loc), va_P D vwCl (wd_C a cI cL cB cZ z res.2) H1 → va_D A (wd_C a cI cL cB cZ z res.2) → va_S A s.heap H1 locs1 → W p l e R s m args below meth c H1 locs1 0 0 Q (F0 m (pc + 3) ls (.int res.1 :: rest))) : W p l e R s m args below meth c H locs 0 0 Q (F0 m pc ls (.ref (a 25) :: rest)) := by
  obtain ⟨hx, hb, hml, hown, hts, hK, hA⟩ := C
  have hFc := mq_freeI hD hS hA
  refine va_calli (va_runV (As := []) (rest := rest) ⟨hx, hb, hml, hown, hts⟩ (zm_X8_step l D a z cI cL cB cZ H.size N S res h) (cwV 0 hts (mq_goodL (mq_wsV hlk zt_X8_step_i zt_X8_step_s zt_ini_X8 zt_X8_step_c)) rfl rfl rfl (by decide +kernel) hR) ⟨fun a U g mk q => ⟨q.1, q.2.1, q.2.2.1, va_K.moved (u := U) (U := U.calling g mk a) (Vm.Alike.refl U.vm) q.2.2.2.1, q.2.2.2.2⟩, zy_C_25 hK hP, fun U hU hW => ⟨rfl, by rw [hU], by rw [hU]; exact hP, va_K.moved hW.alike hK, hD.weaken (fun _ _ _ _ => trivial)⟩⟩ rfl rfl hls rfl (lv_room hrest) hdg ⟨Nat.zero_le _, Nat.zero_le _⟩) hS (fun q _ h => hFc q h) hFc (fun r u t H1 locs ht hvm hw hB hz1 hk1 hS => ?_)
  obtain ⟨rfl, rfl⟩ := hw
  obtain ⟨hP1, hK1, hD1⟩ := hB
  rw [ht] at hP1
  exact kk H1 locs hP1 (hD1.weaken (fun _ _ _ h => hFc _ h)) hS
theorem zt_m_X8_182 : Cond.methodLink RX8 182 yX8_step ∈ mq_T := mq_T_mem (mq_t4 (List.mem_of_getElem? (i := 47) rfl)) rfl
theorem zs_wd_C_i_25_14 (a z : Nat → Nat) (cI cL cB cZ : ClassId) (S : mq_St) (v : Int32) : (wd_C a cI cL cB cZ z S).set 25 (a 25, .inr (8, ([.ref (a 7), .ref (a 33), .ref (a 35), .ref (a 37), .ref (a 26), .ref (a 27), .ref (a 28), .ref (a 29), .ref (a 30), .ref (a 31), .ref (a 39), .ref (a 41), .ref (a 32), .int (S.1 14), .int (S.1 15), .int (S.1 16), .int (S.1 17), .int (S.1 18), .int (S.1 19)] : List Value).set 13 (.int v))) = (wd_C a cI cL cB cZ z (mq_si S 14 v)) := rfl
theorem zt_f_X8_60 : Cond.fieldLink RX8 60 "ModalDesk$Tableau" "held" "LModalDesk$Sets;" ∈ mq_T := mq_T_mem (mq_t1 (List.mem_of_getElem? (i := 226) rfl)) rfl
theorem zx_wd_C_wd_SS_35_36_39_40 (a z : Nat → Nat) (cI cL cB cZ : ClassId) (S X : mq_St) : mq_setM (wd_C a cI cL cB cZ z S) [35, 36, 39, 40] (wd_SS (mq_ad a [35, 36, 39, 40]) cI cL cB cZ (fun k => [300, 3330].getD k 0) X) = (wd_C a cI cL cB cZ z (mq_push S X [] [] [3, 5])) := rfl
theorem zx_wd_C_wd_SS_37_38_39_40 (a z : Nat → Nat) (cI cL cB cZ : ClassId) (S X : mq_St) : mq_setM (wd_C a cI cL cB cZ z S) [37, 38, 39, 40] (wd_SS (mq_ad a [37, 38, 39, 40]) cI cL cB cZ (fun k => [300, 3330].getD k 0) X) = (wd_C a cI cL cB cZ z (mq_push S X [] [] [4, 5])) := rfl
theorem zt_f_X8_43 : Cond.fieldLink RX8 43 "ModalDesk$Tableau" "eithers" "[I" ∈ mq_T := mq_T_mem (mq_t1 (List.mem_of_getElem? (i := 225) rfl)) rfl
theorem zt_m_X8_179 : Cond.methodLink RX8 179 yX7_secondOf ∈ mq_T := mq_T_mem (mq_t4 (List.mem_of_getElem? (i := 51) rfl)) rfl
theorem zt_m_X8_185 : Cond.methodLink RX8 185 yX8_add ∈ mq_T := mq_T_mem (mq_t4 (List.mem_of_getElem? (i := 52) rfl)) rfl
/-! ModalDesk$Tableau.trySecond()V -/
def zr_X8_trySecond : Room := { frames := 4, cells := 0, slots := 0, locals := 89 }
def zc_X8_trySecond : Cond := .code yX8_trySecond cX8_trySecond 1 none
def zf_X8_trySecond (N : Nat) (z : Nat → Nat) (S : mq_St) : Option (Unit × mq_St) := (if (S.1 14) ≤ (0 : Int32) then (some ((), S)) else (mq_cl (zf_X8_step N z S) (fun q1v S3 => (if q1v = (0 : Int32) then (some ((), S3)) else (mq_nS (mq_si S3 14 (((S3.1 14) - (1 : Int32)))) (fun S4 => (mq_cl (zf_X6_copy N (fun k => [300, 3330].getD k 0) ((S4.1 16)) ((S4.1 14)) (mq_pull S4 [] [] [3, 5])) (fun q5v q5s => mq_nS (mq_push S4 q5s [] [] [3, 5]) (fun S7 => (mq_cl (zf_X6_copy N (fun k => [300, 3330].getD k 0) ((S7.1 16)) ((S7.1 14)) (mq_pull S7 [] [] [4, 5])) (fun q8v q8s => mq_nS (mq_push S7 q8s [] [] [4, 5]) (fun S10 => (mq_ck ((S10.1 16)) 60 (mq_nS (mq_sl S10 1 (vp_updL (S10.2.2 1) ((S10.1 16)).toNatClampNeg ((0 : Int64)))) (fun S12 => (mq_nS (mq_si S12 17 ((-1 : Int32))) (fun S13 => (mq_ck ((S13.1 14)) 400 (mq_cp (zf_X7_secondOf N z ((S13.2.1 20 ((S13.1 14)).toNatClampNeg)) S13) (fun q15 => (mq_cl (zf_X8_add N z (q15) S13) (fun q17v S19 => (some ((), S19))))))))))))))))))))))))
set_option maxHeartbeats 4000000 in
set_option maxRecDepth 100000 in
theorem zw_X8_trySecond_0 {p : Program} {l : Launch} {e : Env} {s : State} {m : MethodId} {args : Array Value} {below : List Frame} {meth : Method} {c : Code} {A : Nat → Prop} {D : va_G} {a z : Nat → Nat} {cI cL cB cZ : ClassId} {Q : State → Prop} {N : Nat} {res : Unit × mq_St} (C : mq_C p s m args c A D cI cL cB cZ cX8_trySecond 1 RX8 zc_X8_trySecond) (hret : ∀ (H : Heap) (locs : List Loc) (ls : Array Slot) (pc : Nat), decode cX8_trySecond pc = .ok (.return_, 1) → va_P D vwCl (wd_C a cI cL cB cZ z res.2) H → va_D A (wd_C a cI cL cB cZ z res.2) → va_S A s.heap H locs → W p l e zr_X8_trySecond s m args below meth c H locs 0 0 Q (F0 m pc ls [])) (S : mq_St) (H : Heap) (locs : List Loc) (ls : Array Slot) (h : zf_X8_trySecond N z S = some res) (hl : lv_has ls 1 [(0, .ref (a 25))]) (hP : va_P D vwCl (wd_C a cI cL cB cZ z S) H) (hD : va_D A (wd_C a cI cL cB cZ z S)) (hS : va_S A s.heap H locs) : W p l e zr_X8_trySecond s m args below meth c H locs 0 0 Q (F0 m 0 ls []) := by
  obtain ⟨hx, hb, hml, hown, hts, hK, hA⟩ := id C
  unfold zf_X8_trySecond at h
  refine lv_aload_n hx hb dX8_trySecond_0 rfl (lv_at hl 0 rfl) ?_
  refine va_get (D := D) (ci := 8) (v := .int ((S.1 14))) (C := RX8) (T := TX8) (N := 19) hx hb hts (zi_X8 _) hown hK hP 25 rfl rfl 13 (by decide) (hts _ (List.mem_cons_of_mem _ zt_f_X8_70)) (fun _ h9 => h9) rfl dX8_trySecond_1 ?_
  refine lv_if_le (tgt := 14) hx hb dX8_trySecond_4 (by decide) (fun c21 => ?_) (fun c21 => ?_)
  · replace h := mq_it c21 h
    cases h
    exact hret H locs ls 14 dX8_trySecond_14 hP hD hS
  · replace h := mq_if c21 h
    refine lv_aload_n hx hb dX8_trySecond_7 rfl (lv_at hl 0 rfl) ?_
    obtain ⟨q1, hc2, h⟩ := mq_cl_go h
    refine zk_X8_step C zt_m_X8_182 ⟨by decide, by decide⟩ hc2 hP hD hS hl.1 (Nat.le_of_ble_eq_true rfl) dX8_trySecond_8 (fun H locs hP hD hS => ?_)
    obtain ⟨S3, eS3⟩ : ∃ y, y = q1.2 := ⟨_, rfl⟩
    rw [← eS3] at hP hD h
    refine lv_if_ne (tgt := 15) hx hb dX8_trySecond_11 (by decide) (fun c20 => ?_) (fun c20 => ?_)
    · replace h := mq_if c20 h
      refine lv_aload_n hx hb dX8_trySecond_15 rfl (lv_at hl 0 rfl) ?_
      refine lv_dup hx hb dX8_trySecond_16 rfl ?_
      refine va_get (D := D) (ci := 8) (v := .int ((S3.1 14))) (C := RX8) (T := TX8) (N := 19) hx hb hts (zi_X8 _) hown hK hP 25 rfl rfl 13 (by decide) (hts _ (List.mem_cons_of_mem _ zt_f_X8_70)) (fun _ h9 => h9) rfl dX8_trySecond_17 ?_
      refine lv_iconst (v := (1 : Int32)) hx hb dX8_trySecond_20 (by decide) ?_
      refine lv_isub hx hb dX8_trySecond_21 ?_
      refine mq_put (w := wd_C a cI cL cB cZ z) (S := S3) (D := D) (ci := 8) (v := ((S3.1 14) - (1 : Int32))) (ty := .int) (C := RX8) (T := TX8) (N := 19) hx hb hts (zi_X8 _) tyX8 tyX8_ok nmX8 hown hK hP hD hS 25 rfl rfl 13 (by decide) (hts _ (List.mem_cons_of_mem _ zt_f_X8_70)) (fun _ h9 => h9) rfl (by decide +kernel) rfl rfl (Nat.le_of_ble_eq_true rfl) dX8_trySecond_22 14 (zs_wd_C_i_25_14 _ _ _ _ _ _ _ _) (fun S4 eS4 H locs hP hD hS => ?_)
      replace h := mq_nS_go eS4 h
      refine lv_aload_n hx hb dX8_trySecond_25 rfl (lv_at hl 0 rfl) ?_
      refine va_get (D := D) (ci := 8) (v := .ref (a 35)) (C := RX8) (T := TX8) (N := 19) hx hb hts (zi_X8 _) hown hK hP 25 rfl rfl 2 (by decide) (hts _ (List.mem_cons_of_mem _ zt_f_X8_20)) (fun _ h9 => h9) rfl dX8_trySecond_26 ?_
      refine lv_aload_n hx hb dX8_trySecond_29 rfl (lv_at hl 0 rfl) ?_
      refine va_get (D := D) (ci := 8) (v := .int ((S4.1 16))) (C := RX8) (T := TX8) (N := 19) hx hb hts (zi_X8 _) hown hK hP 25 rfl rfl 15 (by decide) (hts _ (List.mem_cons_of_mem _ zt_f_X8_160)) (fun _ h9 => h9) rfl dX8_trySecond_30 ?_
      refine lv_aload_n hx hb dX8_trySecond_33 rfl (lv_at hl 0 rfl) ?_
      refine va_get (D := D) (ci := 8) (v := .ref (a 39)) (C := RX8) (T := TX8) (N := 19) hx hb hts (zi_X8 _) hown hK hP 25 rfl rfl 10 (by decide) (hts _ (List.mem_cons_of_mem _ zt_f_X8_60)) (fun _ h9 => h9) rfl dX8_trySecond_34 ?_
      refine lv_aload_n hx hb dX8_trySecond_37 rfl (lv_at hl 0 rfl) ?_
      refine va_get (D := D) (ci := 8) (v := .int ((S4.1 14))) (C := RX8) (T := TX8) (N := 19) hx hb hts (zi_X8 _) hown hK hP 25 rfl rfl 13 (by decide) (hts _ (List.mem_cons_of_mem _ zt_f_X8_70)) (fun _ h9 => h9) rfl dX8_trySecond_38 ?_
      obtain ⟨q5, hc6, h⟩ := mq_cl_go h
      refine zv_X6_copy (a := mq_ad a [35, 36, 39, 40]) (z := (fun k => [300, 3330].getD k 0)) [35, 36, 39, 40] C zt_m_X8_188 ⟨by decide, by decide⟩ hc6 rfl (by decide) (ws' := (wd_C a cI cL cB cZ z (mq_push S4 q5.2 [] [] [3, 5]))) (zx_wd_C_wd_SS_35_36_39_40 _ _ _ _ _ _ _ _) hP hD hS hl.1 (Nat.le_of_ble_eq_true rfl) dX8_trySecond_41 (fun H locs hP hD hS => ?_)
      obtain ⟨S7, eS7⟩ : ∃ y, y = mq_push S4 q5.2 [] [] [3, 5] := ⟨_, rfl⟩
      replace h := mq_nS_go eS7 h
      rw [← eS7] at hP hD
      refine lv_aload_n hx hb dX8_trySecond_44 rfl (lv_at hl 0 rfl) ?_
      refine va_get (D := D) (ci := 8) (v := .ref (a 37)) (C := RX8) (T := TX8) (N := 19) hx hb hts (zi_X8 _) hown hK hP 25 rfl rfl 3 (by decide) (hts _ (List.mem_cons_of_mem _ zt_f_X8_23)) (fun _ h9 => h9) rfl dX8_trySecond_45 ?_
      refine lv_aload_n hx hb dX8_trySecond_48 rfl (lv_at hl 0 rfl) ?_
      refine va_get (D := D) (ci := 8) (v := .int ((S7.1 16))) (C := RX8) (T := TX8) (N := 19) hx hb hts (zi_X8 _) hown hK hP 25 rfl rfl 15 (by decide) (hts _ (List.mem_cons_of_mem _ zt_f_X8_160)) (fun _ h9 => h9) rfl dX8_trySecond_49 ?_
      refine lv_aload_n hx hb dX8_trySecond_52 rfl (lv_at hl 0 rfl) ?_
      refine va_get (D := D) (ci := 8) (v := .ref (a 39)) (C := RX8) (T := TX8) (N := 19) hx hb hts (zi_X8 _) hown hK hP 25 rfl rfl 10 (by decide) (hts _ (List.mem_cons_of_mem _ zt_f_X8_60)) (fun _ h9 => h9) rfl dX8_trySecond_53 ?_
      refine lv_aload_n hx hb dX8_trySecond_56 rfl (lv_at hl 0 rfl) ?_
      refine va_get (D := D) (ci := 8) (v := .int ((S7.1 14))) (C := RX8) (T := TX8) (N := 19) hx hb hts (zi_X8 _) hown hK hP 25 rfl rfl 13 (by decide) (hts _ (List.mem_cons_of_mem _ zt_f_X8_70)) (fun _ h9 => h9) rfl dX8_trySecond_57 ?_
      obtain ⟨q8, hc9, h⟩ := mq_cl_go h
      refine zv_X6_copy (a := mq_ad a [37, 38, 39, 40]) (z := (fun k => [300, 3330].getD k 0)) [37, 38, 39, 40] C zt_m_X8_188 ⟨by decide, by decide⟩ hc9 rfl (by decide) (ws' := (wd_C a cI cL cB cZ z (mq_push S7 q8.2 [] [] [4, 5]))) (zx_wd_C_wd_SS_37_38_39_40 _ _ _ _ _ _ _ _) hP hD hS hl.1 (Nat.le_of_ble_eq_true rfl) dX8_trySecond_60 (fun H locs hP hD hS => ?_)
      obtain ⟨S10, eS10⟩ : ∃ y, y = mq_push S7 q8.2 [] [] [4, 5] := ⟨_, rfl⟩
      replace h := mq_nS_go eS10 h
      rw [← eS10] at hP hD
      refine lv_aload_n hx hb dX8_trySecond_63 rfl (lv_at hl 0 rfl) ?_
      refine va_get (D := D) (ci := 8) (v := .ref (a 30)) (C := RX8) (T := TX8) (N := 19) hx hb hts (zi_X8 _) hown hK hP 25 rfl rfl 8 (by decide) (hts _ (List.mem_cons_of_mem _ zt_f_X8_39)) (fun _ h9 => h9) rfl dX8_trySecond_64 ?_
      refine lv_aload_n hx hb dX8_trySecond_67 rfl (lv_at hl 0 rfl) ?_
      refine va_get (D := D) (ci := 8) (v := .int ((S10.1 16))) (C := RX8) (T := TX8) (N := 19) hx hb hts (zi_X8 _) hown hK hP 25 rfl rfl 15 (by decide) (hts _ (List.mem_cons_of_mem _ zt_f_X8_160)) (fun _ h9 => h9) rfl dX8_trySecond_68 ?_
      refine lv_lconst (v := 0) hx hb dX8_trySecond_71 (by decide) ?_
      have hi11 := mq_ck_in h
      replace h := mq_ck_go h
      refine mq_last (w := wd_C a cI cL cB cZ z) (S := S10) (f := S10.2.2 1) hx hb hK hP hD hS 30 1 rfl rfl hi11 dX8_trySecond_72 1 (zs_wd_C_l_30_1 _ _ _ _ _ _ _ _) (fun S12 eS12 H locs hP hD hS => ?_)
      replace h := mq_nS_go eS12 h
      refine lv_aload_n hx hb dX8_trySecond_73 rfl (lv_at hl 0 rfl) ?_
      refine lv_iconst (v := (-1 : Int32)) hx hb dX8_trySecond_74 (by decide) ?_
      refine mq_put (w := wd_C a cI cL cB cZ z) (S := S12) (D := D) (ci := 8) (v := (-1 : Int32)) (ty := .int) (C := RX8) (T := TX8) (N := 19) hx hb hts (zi_X8 _) tyX8 tyX8_ok nmX8 hown hK hP hD hS 25 rfl rfl 16 (by decide) (hts _ (List.mem_cons_of_mem _ zt_f_X8_128)) (fun _ h9 => h9) rfl (by decide +kernel) rfl rfl (Nat.le_of_ble_eq_true rfl) dX8_trySecond_75 17 (zs_wd_C_i_25_17 _ _ _ _ _ _ _ _) (fun S13 eS13 H locs hP hD hS => ?_)
      replace h := mq_nS_go eS13 h
      refine lv_aload_n hx hb dX8_trySecond_78 rfl (lv_at hl 0 rfl) ?_
      refine lv_aload_n hx hb dX8_trySecond_79 rfl (lv_at hl 0 rfl) ?_
      refine va_get (D := D) (ci := 8) (v := .ref (a 7)) (C := RX8) (T := TX8) (N := 19) hx hb hts (zi_X8 _) hown hK hP 25 rfl rfl 0 (by decide) (hts _ (List.mem_cons_of_mem _ zt_f_X8_56)) (fun _ h9 => h9) rfl dX8_trySecond_80 ?_
      refine lv_aload_n hx hb dX8_trySecond_83 rfl (lv_at hl 0 rfl) ?_
      refine va_get (D := D) (ci := 8) (v := .ref (a 31)) (C := RX8) (T := TX8) (N := 19) hx hb hts (zi_X8 _) hown hK hP 25 rfl rfl 9 (by decide) (hts _ (List.mem_cons_of_mem _ zt_f_X8_43)) (fun _ h9 => h9) rfl dX8_trySecond_84 ?_
      refine lv_aload_n hx hb dX8_trySecond_87 rfl (lv_at hl 0 rfl) ?_
      refine va_get (D := D) (ci := 8) (v := .int ((S13.1 14))) (C := RX8) (T := TX8) (N := 19) hx hb hts (zi_X8 _) hown hK hP 25 rfl rfl 13 (by decide) (hts _ (List.mem_cons_of_mem _ zt_f_X8_70)) (fun _ h9 => h9) rfl dX8_trySecond_88 ?_
      have hi14 := mq_ck_in h
      replace h := mq_ck_go h
      refine va_iald (f := S13.2.1 20) hx hb hK hP 31 0 rfl rfl hi14 dX8_trySecond_91 ?_
      obtain ⟨q15, hc16, h⟩ := mq_cp_go h
      refine zk_X7_secondOf C zt_m_X8_179 ⟨by decide, by decide⟩ hc16 hP hD hS hl.1 (Nat.le_of_ble_eq_true rfl) dX8_trySecond_92 (fun H locs hP hD hS => ?_)
      obtain ⟨q17, hc18, h⟩ := mq_cl_go h
      refine zk_X8_add C zt_m_X8_185 ⟨by decide, by decide⟩ hc18 hP hD hS hl.1 (Nat.le_of_ble_eq_true rfl) dX8_trySecond_95 (fun H locs hP hD hS => ?_)
      obtain ⟨S19, eS19⟩ : ∃ y, y = q17.2 := ⟨_, rfl⟩
      rw [← eS19] at hP hD h
      cases h
      exact hret H locs ls 98 dX8_trySecond_98 hP hD hS
    · replace h := mq_it (by simpa using c20) h
      cases h
      exact hret H locs ls 14 dX8_trySecond_14 hP hD hS
set_option maxHeartbeats 4000000 in
set_option maxRecDepth 100000 in
theorem zm_X8_trySecond (l : Launch) (D : va_G) (a z : Nat → Nat) (cI cL cB cZ : ClassId) (sz N : Nat) (S : mq_St) (res : Unit × mq_St) (h : zf_X8_trySecond N z S = some res) : Met l yX8_trySecond (zc_X8_trySecond :: mq_T) zr_X8_trySecond (va_Pc [.ref (a 25)] (fun U => U.heap.size = sz ∧ va_P D vwCl (wd_C a cI cL cB cZ z S) U.heap ∧ va_K D vwCl (mq_tys cI cL cB cZ) U ∧ va_D (fun _ => True) (wd_C a cI cL cB cZ z S))) (va_Qv (fun u : mq_St => u = res.2) (fun u t => va_P D vwCl (wd_C a cI cL cB cZ z u) t.heap ∧ va_K D vwCl (mq_tys cI cL cB cZ) t ∧ va_D (va_A (wd_C a cI cL cB cZ z S) sz) (wd_C a cI cL cB cZ z u)) (va_A (wd_C a cI cL cB cZ z S) sz)) 0 0 (va_A (wd_C a cI cL cB cZ z S) sz) := by
  refine Met.ofW (cc := cX8_trySecond) (maxL := 1) (ret := none) (by decide) rfl ?_
  intro p e s m args below meth c s₁ B hml hv
  obtain ⟨rfl, hsz, hP, hK, hD0⟩ := hv
  have hr := B.returns
  have hlocks := B.notSynchronized
  have hts := atoms_spec (ws := zc_X8_trySecond :: mq_T) B.pre
  have hown : s.vm.findClass RX8 = some m.cls := findClass_of_methodNamed B.named
  subst hsz
  have hD := hD0.self (sz := s.heap.size)
  generalize hAe : va_A (wd_C a cI cL cB cZ z S) s.heap.size = A at hD ⊢
  have hA : ∀ q : Nat, s.heap.size ≤ q → A q := fun q h => by rw [← hAe]; exact Or.inr h
  have hl := lv_entry ([.ref (a 25)]) (n := 1) (Nat.le_of_ble_eq_true rfl)
  rw [lg_entry_eq]
  generalize (lg_sl ([.ref (a 25)]) ++ List.replicate (1 - (lg_sl ([.ref (a 25)])).length) Slot.unset).toArray = ls at hl ⊢
  have hl : lv_has ls 1 [(0, .ref (a 25))] := hl
  refine zw_X8_trySecond_0 (A := A) ⟨B.exec, B.bytes, hml, hown, hts, hK, hA⟩ (fun H locs ls pc dg hP hD hS => ?_) S s.heap [] ls h hl hP hD va_S.rf
  exact W.vret B.exec B.bytes hr (fun t ht hW => ⟨⟨_, rfl, rfl, by rw [ht]; exact hP, va_K.moved hW.alike hK, hD⟩, hS.F ht⟩) hS.2.2 dg
theorem zt_X8_trySecond_c : zc_X8_trySecond ∈ mq_T := mq_T_mem (mq_t4 (List.mem_of_getElem? (i := 46) rfl)) rfl
theorem zt_X8_trySecond_i : Cond.instanceMethod yX8_trySecond ∈ mq_T := mq_T_mem (mq_t4 (List.mem_of_getElem? (i := 45) rfl)) rfl
theorem zt_X8_trySecond_s : Cond.selects RX8 yX8_trySecond yX8_trySecond ∈ mq_T := mq_T_at 39 (by decide +kernel)
set_option maxHeartbeats 4000000 in
theorem zk_X8_trySecond {p : Program} {l : Launch} {e : Env} {R : Room} {s : State} {m : MethodId} {args : Array Value} {below : List Frame} {meth : Method} {c : Code} {A : Nat → Prop} {D : va_G} {a z : Nat → Nat} {cI cL cB cZ : ClassId} {Q : State → Prop} {cc : ByteArray} {nL idx pc N : Nat} {own : String} {c1 : Cond} {H : Heap} {locs : List Loc} {ls : Array Slot} {rest : List Value} {S : mq_St} {res : Unit × mq_St} (C : mq_C p s m args c A D cI cL cB cZ cc nL own c1) (hlk : Cond.methodLink own idx yX8_trySecond ∈ mq_T) (hR : zr_X8_trySecond.frames + 1 ≤ R.frames ∧ 8 + (1 + 11) + zr_X8_trySecond.locals ≤ R.locals) (h : zf_X8_trySecond N z S = some res) (hP : va_P D vwCl (wd_C a cI cL cB cZ z S) H) (hD : va_D A (wd_C a cI cL cB cZ z S)) (hS : va_S A s.heap H locs) (hls : ls.size = nL) (hrest : (rest.map fun v => v.category).sum ≤ 8) (hdg : decode cc pc = .ok (.invokevirtual idx, 3)) (kk : ∀ (H1 : Heap) (locs1 : List Loc), va_P D vwCl (wd_C a cI cL cB cZ z res.2) H1 → va_D A (wd_C a cI cL cB cZ z res.2) → va_S A s.heap H1 locs1 → W p l e R s m args below meth c H1 locs1 0 0 Q (F0 m (pc + 3) ls rest)) : W p l e R s m args below meth c H locs 0 0 Q (F0 m pc ls (.ref (a 25) :: rest)) := by
  obtain ⟨hx, hb, hml, hown, hts, hK, hA⟩ := C
  have hFc := mq_freeI hD hS hA
  refine va_callv (va_runV (As := []) (rest := rest) ⟨hx, hb, hml, hown, hts⟩ (zm_X8_trySecond l D a z cI cL cB cZ H.size N S res h) (cwV 0 hts (mq_goodL (mq_wsV hlk zt_X8_trySecond_i zt_X8_trySecond_s zt_ini_X8 zt_X8_trySecond_c)) rfl rfl rfl (by decide +kernel) hR) ⟨fun a U g mk q => ⟨q.1, q.2.1, q.2.2.1, va_K.moved (u := U) (U := U.calling g mk a) (Vm.Alike.refl U.vm) q.2.2.2.1, q.2.2.2.2⟩, zy_C_25 hK hP, fun U hU hW => ⟨rfl, by rw [hU], by rw [hU]; exact hP, va_K.moved hW.alike hK, hD.weaken (fun _ _ _ _ => trivial)⟩⟩ rfl rfl hls rfl (lv_room hrest) hdg ⟨Nat.zero_le _, Nat.zero_le _⟩) hS (fun q _ h => hFc q h) hFc (fun u t H1 locs ht hvm hw hB hz1 hk1 hS => ?_)
  subst hw
  obtain ⟨hP1, hK1, hD1⟩ := hB
  rw [ht] at hP1
  exact kk H1 locs hP1 (hD1.weaken (fun _ _ _ h => hFc _ h)) hS
/-! ModalDesk$Tableau.isDone(II)Z -/
def zr_X8_isDone : Room := { frames := 2, cells := 0, slots := 0, locals := 44 }
def zc_X8_isDone : Cond := .code yX8_isDone cX8_isDone 4 (some .boolean)
def zf_X8_isDone_88 (N : Nat) (z : Nat → Nat) (S : mq_St) : Option (Int32) := (mq_cz ((1 : Int32)) (some ((1 : Int32))))
def zf_X8_isDone (N : Nat) (z : Nat → Nat) (v1 : Int32) (v2 : Int32) (S : mq_St) : Option (Int32) := (mq_cp (zf_X7_firstOf N z (v2) S) (fun q1 => (mq_cp (zf_X6_has N (fun k => [300].getD k 0) ((S.1 16)) (q1) (mq_pull S [] [] [3])) (fun q3 => (mq_nI (q3) (fun x5 => (if v1 = (4 : Int32) then (if x5 = (0 : Int32) then (mq_cz ((0 : Int32)) (some ((0 : Int32)))) else (mq_cp (zf_X7_secondOf N z (v2) S) (fun q16 => (mq_cp (zf_X6_has N (fun k => [300].getD k 0) ((S.1 16)) (q16) (mq_pull S [] [] [3])) (fun q18 => (if q18 = (0 : Int32) then (mq_cz ((0 : Int32)) (some ((0 : Int32)))) else (mq_cz ((1 : Int32)) (some ((1 : Int32)))))))))) else (if x5 = (0 : Int32) then (if v1 = (5 : Int32) then (mq_cp (zf_X7_secondOf N z (v2) S) (fun q7 => (mq_cp (zf_X6_has N (fun k => [300].getD k 0) ((S.1 16)) (q7) (mq_pull S [] [] [3])) (fun q9 => (if q9 = (0 : Int32) then (mq_cz ((0 : Int32)) (some ((0 : Int32)))) else (zf_X8_isDone_88 N z S)))))) else (mq_cz ((0 : Int32)) (some ((0 : Int32))))) else (zf_X8_isDone_88 N z S)))))))))
set_option maxHeartbeats 4000000 in
set_option maxRecDepth 100000 in
theorem zw_X8_isDone_88 {p : Program} {l : Launch} {e : Env} {s : State} {m : MethodId} {args : Array Value} {below : List Frame} {meth : Method} {c : Code} {A : Nat → Prop} {D : va_G} {a z : Nat → Nat} {cI cL cB cZ : ClassId} {Q : State → Prop} {N : Nat} {S : mq_St} {res : Int32} (C : mq_C p s m args c A D cI cL cB cZ cX8_isDone 4 RX8 zc_X8_isDone) (hret : ∀ (H : Heap) (locs : List Loc) (ls : Array Slot) (pc : Nat), decode cX8_isDone pc = .ok (.ireturn, 1) → narrow .boolean (.int res) = .int res → va_P D vwCl (wd_C a cI cL cB cZ z S) H → va_D A (wd_C a cI cL cB cZ z S) → va_S A s.heap H locs → W p l e zr_X8_isDone s m args below meth c H locs 0 0 Q (F0 m pc ls [.int res])) (H : Heap) (locs : List Loc) (ls : Array Slot) (h : zf_X8_isDone_88 N z S = some res) (hl : lv_has ls 4 []) (hP : va_P D vwCl (wd_C a cI cL cB cZ z S) H) (hD : va_D A (wd_C a cI cL cB cZ z S)) (hS : va_S A s.heap H locs) : W p l e zr_X8_isDone s m args below meth c H locs 0 0 Q (F0 m 88 ls []) := by
  obtain ⟨hx, hb, hml, hown, hts, hK, hA⟩ := id C
  unfold zf_X8_isDone_88 at h
  refine lv_iconst (v := (1 : Int32)) hx hb dX8_isDone_88 (by decide) ?_
  refine lv_goto (tgt := 93) hx hb dX8_isDone_89 (by decide) ?_
  have hz25 := mq_cz_in h
  replace h := mq_cz_go h
  cases h
  exact hret H locs ls 93 dX8_isDone_93 hz25.1 hP hD hS
set_option maxHeartbeats 4000000 in
set_option maxRecDepth 100000 in
theorem zw_X8_isDone_0 {p : Program} {l : Launch} {e : Env} {s : State} {m : MethodId} {args : Array Value} {below : List Frame} {meth : Method} {c : Code} {A : Nat → Prop} {D : va_G} {a z : Nat → Nat} {cI cL cB cZ : ClassId} {Q : State → Prop} {N : Nat} {S : mq_St} {res : Int32} (C : mq_C p s m args c A D cI cL cB cZ cX8_isDone 4 RX8 zc_X8_isDone) (hret : ∀ (H : Heap) (locs : List Loc) (ls : Array Slot) (pc : Nat), decode cX8_isDone pc = .ok (.ireturn, 1) → narrow .boolean (.int res) = .int res → va_P D vwCl (wd_C a cI cL cB cZ z S) H → va_D A (wd_C a cI cL cB cZ z S) → va_S A s.heap H locs → W p l e zr_X8_isDone s m args below meth c H locs 0 0 Q (F0 m pc ls [.int res])) (v1 : Int32) (v2 : Int32) (H : Heap) (locs : List Loc) (ls : Array Slot) (h : zf_X8_isDone N z v1 v2 S = some res) (hl : lv_has ls 4 [(0, .ref (a 25)), (1, .int (v1)), (2, .int (v2))]) (hP : va_P D vwCl (wd_C a cI cL cB cZ z S) H) (hD : va_D A (wd_C a cI cL cB cZ z S)) (hS : va_S A s.heap H locs) : W p l e zr_X8_isDone s m args below meth c H locs 0 0 Q (F0 m 0 ls []) := by
  obtain ⟨hx, hb, hml, hown, hts, hK, hA⟩ := id C
  unfold zf_X8_isDone at h
  refine lv_aload_n hx hb dX8_isDone_0 rfl (lv_at hl 0 rfl) ?_
  refine va_get (D := D) (ci := 8) (v := .ref (a 35)) (C := RX8) (T := TX8) (N := 19) hx hb hts (zi_X8 _) hown hK hP 25 rfl rfl 2 (by decide) (hts _ (List.mem_cons_of_mem _ zt_f_X8_20)) (fun _ h9 => h9) rfl dX8_isDone_1 ?_
  refine lv_aload_n hx hb dX8_isDone_4 rfl (lv_at hl 0 rfl) ?_
  refine va_get (D := D) (ci := 8) (v := .int ((S.1 16))) (C := RX8) (T := TX8) (N := 19) hx hb hts (zi_X8 _) hown hK hP 25 rfl rfl 15 (by decide) (hts _ (List.mem_cons_of_mem _ zt_f_X8_160)) (fun _ h9 => h9) rfl dX8_isDone_5 ?_
  refine lv_aload_n hx hb dX8_isDone_8 rfl (lv_at hl 0 rfl) ?_
  refine va_get (D := D) (ci := 8) (v := .ref (a 7)) (C := RX8) (T := TX8) (N := 19) hx hb hts (zi_X8 _) hown hK hP 25 rfl rfl 0 (by decide) (hts _ (List.mem_cons_of_mem _ zt_f_X8_56)) (fun _ h9 => h9) rfl dX8_isDone_9 ?_
  refine lv_iload_n hx hb dX8_isDone_12 rfl (lv_at hl 2 rfl) ?_
  obtain ⟨q1, hc2, h⟩ := mq_cp_go h
  refine zk_X7_firstOf C zt_m_X8_125 ⟨by decide, by decide⟩ hc2 hP hD hS hl.1 (Nat.le_of_ble_eq_true rfl) dX8_isDone_13 (fun H locs hP hD hS => ?_)
  obtain ⟨q3, hc4, h⟩ := mq_cp_go h
  refine zv_X6_has (a := mq_ad a [35, 36]) (z := (fun k => [300].getD k 0)) [35, 36] C zt_m_X8_121 ⟨by decide, by decide⟩ hc4 rfl (by decide) hP hD hS hl.1 (Nat.le_of_ble_eq_true rfl) dX8_isDone_16 (fun H locs hP hD hS => ?_)
  refine lv_topi (fun x5 ex5 => ?_)
  replace h := mq_nI_go ex5 h
  refine lv_istore_n (lv' := [(3, .int (x5)), (0, .ref (a 25)), (1, .int (v1)), (2, .int (v2))]) hx hb dX8_isDone_19 rfl hl (by decide) rfl (fun ls hl => ?_)
  refine lv_iload_n hx hb dX8_isDone_20 rfl (lv_at hl 2 rfl) ?_
  refine lv_iconst (v := (4 : Int32)) hx hb dX8_isDone_21 (by decide) ?_
  refine lv_icmp_ne (tgt := 57) hx hb dX8_isDone_22 (by decide) (fun c24 => ?_) (fun c24 => ?_)
  · replace h := mq_if c24 h
    refine lv_iload_n hx hb dX8_isDone_57 rfl (lv_at hl 0 rfl) ?_
    refine lv_if_ne (tgt := 88) hx hb dX8_isDone_58 (by decide) (fun c14 => ?_) (fun c14 => ?_)
    · replace h := mq_if c14 h
      exact zw_X8_isDone_88 C hret H locs ls h (lv_sub hl [] rfl) hP hD hS
    · replace h := mq_it (by simpa using c14) h
      refine lv_iload_n hx hb dX8_isDone_61 rfl (lv_at hl 2 rfl) ?_
      refine lv_iconst (v := (5 : Int32)) hx hb dX8_isDone_62 (by decide) ?_
      refine lv_icmp_ne (tgt := 92) hx hb dX8_isDone_63 (by decide) (fun c13 => ?_) (fun c13 => ?_)
      · replace h := mq_if c13 h
        refine lv_iconst (v := (0 : Int32)) hx hb dX8_isDone_92 (by decide) ?_
        have hz6 := mq_cz_in h
        replace h := mq_cz_go h
        cases h
        exact hret H locs ls 93 dX8_isDone_93 hz6.1 hP hD hS
      · replace h := mq_it (by simpa using c13) h
        refine lv_aload_n hx hb dX8_isDone_66 rfl (lv_at hl 1 rfl) ?_
        refine va_get (D := D) (ci := 8) (v := .ref (a 35)) (C := RX8) (T := TX8) (N := 19) hx hb hts (zi_X8 _) hown hK hP 25 rfl rfl 2 (by decide) (hts _ (List.mem_cons_of_mem _ zt_f_X8_20)) (fun _ h9 => h9) rfl dX8_isDone_67 ?_
        refine lv_aload_n hx hb dX8_isDone_70 rfl (lv_at hl 1 rfl) ?_
        refine va_get (D := D) (ci := 8) (v := .int ((S.1 16))) (C := RX8) (T := TX8) (N := 19) hx hb hts (zi_X8 _) hown hK hP 25 rfl rfl 15 (by decide) (hts _ (List.mem_cons_of_mem _ zt_f_X8_160)) (fun _ h9 => h9) rfl dX8_isDone_71 ?_
        refine lv_aload_n hx hb dX8_isDone_74 rfl (lv_at hl 1 rfl) ?_
        refine va_get (D := D) (ci := 8) (v := .ref (a 7)) (C := RX8) (T := TX8) (N := 19) hx hb hts (zi_X8 _) hown hK hP 25 rfl rfl 0 (by decide) (hts _ (List.mem_cons_of_mem _ zt_f_X8_56)) (fun _ h9 => h9) rfl dX8_isDone_75 ?_
        refine lv_iload_n hx hb dX8_isDone_78 rfl (lv_at hl 3 rfl) ?_
        obtain ⟨q7, hc8, h⟩ := mq_cp_go h
        refine zk_X7_secondOf C zt_m_X8_179 ⟨by decide, by decide⟩ hc8 hP hD hS hl.1 (Nat.le_of_ble_eq_true rfl) dX8_isDone_79 (fun H locs hP hD hS => ?_)
        obtain ⟨q9, hc10, h⟩ := mq_cp_go h
        refine zv_X6_has (a := mq_ad a [35, 36]) (z := (fun k => [300].getD k 0)) [35, 36] C zt_m_X8_121 ⟨by decide, by decide⟩ hc10 rfl (by decide) hP hD hS hl.1 (Nat.le_of_ble_eq_true rfl) dX8_isDone_82 (fun H locs hP hD hS => ?_)
        refine lv_if_eq (tgt := 92) hx hb dX8_isDone_85 (by decide) (fun c12 => ?_) (fun c12 => ?_)
        · replace h := mq_it c12 h
          refine lv_iconst (v := (0 : Int32)) hx hb dX8_isDone_92 (by decide) ?_
          have hz11 := mq_cz_in h
          replace h := mq_cz_go h
          cases h
          exact hret H locs ls 93 dX8_isDone_93 hz11.1 hP hD hS
        · replace h := mq_if c12 h
          exact zw_X8_isDone_88 C hret H locs ls h (lv_sub hl [] rfl) hP hD hS
  · replace h := mq_it (by simpa using c24) h
    refine lv_iload_n hx hb dX8_isDone_25 rfl (lv_at hl 0 rfl) ?_
    refine lv_if_eq (tgt := 55) hx hb dX8_isDone_26 (by decide) (fun c23 => ?_) (fun c23 => ?_)
    · replace h := mq_it c23 h
      refine lv_iconst (v := (0 : Int32)) hx hb dX8_isDone_55 (by decide) ?_
      have hz15 := mq_cz_in h
      replace h := mq_cz_go h
      cases h
      exact hret H locs ls 56 dX8_isDone_56 hz15.1 hP hD hS
    · replace h := mq_if c23 h
      refine lv_aload_n hx hb dX8_isDone_29 rfl (lv_at hl 1 rfl) ?_
      refine va_get (D := D) (ci := 8) (v := .ref (a 35)) (C := RX8) (T := TX8) (N := 19) hx hb hts (zi_X8 _) hown hK hP 25 rfl rfl 2 (by decide) (hts _ (List.mem_cons_of_mem _ zt_f_X8_20)) (fun _ h9 => h9) rfl dX8_isDone_30 ?_
      refine lv_aload_n hx hb dX8_isDone_33 rfl (lv_at hl 1 rfl) ?_
      refine va_get (D := D) (ci := 8) (v := .int ((S.1 16))) (C := RX8) (T := TX8) (N := 19) hx hb hts (zi_X8 _) hown hK hP 25 rfl rfl 15 (by decide) (hts _ (List.mem_cons_of_mem _ zt_f_X8_160)) (fun _ h9 => h9) rfl dX8_isDone_34 ?_
      refine lv_aload_n hx hb dX8_isDone_37 rfl (lv_at hl 1 rfl) ?_
      refine va_get (D := D) (ci := 8) (v := .ref (a 7)) (C := RX8) (T := TX8) (N := 19) hx hb hts (zi_X8 _) hown hK hP 25 rfl rfl 0 (by decide) (hts _ (List.mem_cons_of_mem _ zt_f_X8_56)) (fun _ h9 => h9) rfl dX8_isDone_38 ?_
      refine lv_iload_n hx hb dX8_isDone_41 rfl (lv_at hl 3 rfl) ?_
      obtain ⟨q16, hc17, h⟩ := mq_cp_go h
      refine zk_X7_secondOf C zt_m_X8_179 ⟨by decide, by decide⟩ hc17 hP hD hS hl.1 (Nat.le_of_ble_eq_true rfl) dX8_isDone_42 (fun H locs hP hD hS => ?_)
      obtain ⟨q18, hc19, h⟩ := mq_cp_go h
      refine zv_X6_has (a := mq_ad a [35, 36]) (z := (fun k => [300].getD k 0)) [35, 36] C zt_m_X8_121 ⟨by decide, by decide⟩ hc19 rfl (by decide) hP hD hS hl.1 (Nat.le_of_ble_eq_true rfl) dX8_isDone_45 (fun H locs hP hD hS => ?_)
      refine lv_if_eq (tgt := 55) hx hb dX8_isDone_48 (by decide) (fun c22 => ?_) (fun c22 => ?_)
      · replace h := mq_it c22 h
        refine lv_iconst (v := (0 : Int32)) hx hb dX8_isDone_55 (by decide) ?_
        have hz20 := mq_cz_in h
        replace h := mq_cz_go h
        cases h
        exact hret H locs ls 56 dX8_isDone_56 hz20.1 hP hD hS
      · replace h := mq_if c22 h
        refine lv_iconst (v := (1 : Int32)) hx hb dX8_isDone_51 (by decide) ?_
        refine lv_goto (tgt := 56) hx hb dX8_isDone_52 (by decide) ?_
        have hz21 := mq_cz_in h
        replace h := mq_cz_go h
        cases h
        exact hret H locs ls 56 dX8_isDone_56 hz21.1 hP hD hS
set_option maxHeartbeats 4000000 in
set_option maxRecDepth 100000 in
theorem zm_X8_isDone (l : Launch) (D : va_G) (a z : Nat → Nat) (cI cL cB cZ : ClassId) (sz N : Nat) (v1 : Int32) (v2 : Int32) (S : mq_St) (res : Int32) (h : zf_X8_isDone N z v1 v2 S = some res) : Met l yX8_isDone (zc_X8_isDone :: mq_T) zr_X8_isDone (va_Pc [.ref (a 25), .int (v1), .int (v2)] (fun U => U.heap.size = sz ∧ va_P D vwCl (wd_C a cI cL cB cZ z S) U.heap ∧ va_K D vwCl (mq_tys cI cL cB cZ) U ∧ va_D (fun _ => True) (wd_C a cI cL cB cZ z S))) (va_Qi (fun (r : Int32) (u : mq_St) => r = res ∧ u = S) (fun u t => va_P D vwCl (wd_C a cI cL cB cZ z u) t.heap ∧ va_K D vwCl (mq_tys cI cL cB cZ) t ∧ va_D (va_A (wd_C a cI cL cB cZ z S) sz) (wd_C a cI cL cB cZ z u)) (va_A (wd_C a cI cL cB cZ z S) sz)) 0 0 (va_A (wd_C a cI cL cB cZ z S) sz) := by
  refine Met.ofW (cc := cX8_isDone) (maxL := 4) (ret := (some .boolean)) (by decide) rfl ?_
  intro p e s m args below meth c s₁ B hml hv
  obtain ⟨rfl, hsz, hP, hK, hD0⟩ := hv
  have hr := B.returns
  have hlocks := B.notSynchronized
  have hts := atoms_spec (ws := zc_X8_isDone :: mq_T) B.pre
  have hown : s.vm.findClass RX8 = some m.cls := findClass_of_methodNamed B.named
  subst hsz
  have hD := hD0.self (sz := s.heap.size)
  generalize hAe : va_A (wd_C a cI cL cB cZ z S) s.heap.size = A at hD ⊢
  have hA : ∀ q : Nat, s.heap.size ≤ q → A q := fun q h => by rw [← hAe]; exact Or.inr h
  have hl := lv_entry ([.ref (a 25), .int (v1), .int (v2)]) (n := 4) (Nat.le_of_ble_eq_true rfl)
  rw [lg_entry_eq]
  generalize (lg_sl ([.ref (a 25), .int (v1), .int (v2)]) ++ List.replicate (4 - (lg_sl ([.ref (a 25), .int (v1), .int (v2)])).length) Slot.unset).toArray = ls at hl ⊢
  have hl : lv_has ls 4 [(0, .ref (a 25)), (1, .int (v1)), (2, .int (v2))] := hl
  refine zw_X8_isDone_0 (A := A) ⟨B.exec, B.bytes, hml, hown, hts, hK, hA⟩ (fun H locs ls pc dg hz hP hD hS => ?_) v1 v2 s.heap [] ls h hl hP hD va_S.rf
  exact W.zret B.exec B.bytes hr hz (fun t ht hW => ⟨⟨_, _, rfl, ⟨rfl, rfl⟩, by rw [ht]; exact hP, va_K.moved hW.alike hK, hD⟩, hS.F ht⟩) hS.2.2 dg
theorem zt_X8_isDone_c : zc_X8_isDone ∈ mq_T := mq_T_mem (mq_t4 (List.mem_of_getElem? (i := 85) rfl)) rfl
theorem zt_X8_isDone_i : Cond.instanceMethod yX8_isDone ∈ mq_T := mq_T_mem (mq_t4 (List.mem_of_getElem? (i := 84) rfl)) rfl
theorem zt_X8_isDone_s : Cond.selects RX8 yX8_isDone yX8_isDone ∈ mq_T := mq_T_at 44 (by decide +kernel)
set_option maxHeartbeats 4000000 in
theorem zk_X8_isDone {p : Program} {l : Launch} {e : Env} {R : Room} {s : State} {m : MethodId} {args : Array Value} {below : List Frame} {meth : Method} {c : Code} {A : Nat → Prop} {D : va_G} {a z : Nat → Nat} {cI cL cB cZ : ClassId} {Q : State → Prop} {cc : ByteArray} {nL idx pc N : Nat} {own : String} {c1 : Cond} {H : Heap} {locs : List Loc} {ls : Array Slot} {rest : List Value} {S : mq_St} {res : Int32} {v1 : Int32} {v2 : Int32} (C : mq_C p s m args c A D cI cL cB cZ cc nL own c1) (hlk : Cond.methodLink own idx yX8_isDone ∈ mq_T) (hR : zr_X8_isDone.frames + 1 ≤ R.frames ∧ 8 + (4 + 11) + zr_X8_isDone.locals ≤ R.locals) (h : zf_X8_isDone N z v1 v2 S = some res) (hP : va_P D vwCl (wd_C a cI cL cB cZ z S) H) (hD : va_D A (wd_C a cI cL cB cZ z S)) (hS : va_S A s.heap H locs) (hls : ls.size = nL) (hrest : (rest.map fun v => v.category).sum ≤ 8) (hdg : decode cc pc = .ok (.invokevirtual idx, 3)) (kk : ∀ (H1 : Heap) (locs1 : List Loc), va_P D vwCl (wd_C a cI cL cB cZ z S) H1 → va_D A (wd_C a cI cL cB cZ z S) → va_S A s.heap H1 locs1 → W p l e R s m args below meth c H1 locs1 0 0 Q (F0 m (pc + 3) ls (.int res :: rest))) : W p l e R s m args below meth c H locs 0 0 Q (F0 m pc ls (.int (v2) :: .int (v1) :: .ref (a 25) :: rest)) := by
  obtain ⟨hx, hb, hml, hown, hts, hK, hA⟩ := C
  have hFc := mq_freeI hD hS hA
  refine va_calli (va_runV (As := [.int (v1), .int (v2)]) (rest := rest) ⟨hx, hb, hml, hown, hts⟩ (zm_X8_isDone l D a z cI cL cB cZ H.size N v1 v2 S res h) (cwV 2 hts (mq_goodL (mq_wsV hlk zt_X8_isDone_i zt_X8_isDone_s zt_ini_X8 zt_X8_isDone_c)) rfl rfl rfl (by decide +kernel) hR) ⟨fun a U g mk q => ⟨q.1, q.2.1, q.2.2.1, va_K.moved (u := U) (U := U.calling g mk a) (Vm.Alike.refl U.vm) q.2.2.2.1, q.2.2.2.2⟩, zy_C_25 hK hP, fun U hU hW => ⟨rfl, by rw [hU], by rw [hU]; exact hP, va_K.moved hW.alike hK, hD.weaken (fun _ _ _ _ => trivial)⟩⟩ rfl rfl hls rfl (lv_room hrest) hdg ⟨Nat.zero_le _, Nat.zero_le _⟩) hS (fun q _ h => hFc q h) hFc (fun r u t H1 locs ht hvm hw hB hz1 hk1 hS => ?_)
  obtain ⟨rfl, rfl⟩ := hw
  obtain ⟨hP1, hK1, hD1⟩ := hB
  rw [ht] at hP1
  exact kk H1 locs hP1 (hD1.weaken (fun _ _ _ h => hFc _ h)) hS
theorem zt_m_X8_163 : Cond.methodLink RX8 163 yX6_bits ∈ mq_T := mq_T_mem (mq_t4 (List.mem_of_getElem? (i := 72) rfl)) rfl
theorem zt_m_X8_167 : Cond.methodLink RX8 167 yJ13_bitCount_95d88 ∈ mq_T := mq_T_mem (mq_t4 (List.mem_of_getElem? (i := 76) rfl)) rfl
theorem zt_m_X8_173 : Cond.methodLink RX8 173 yX8_isDone ∈ mq_T := mq_T_mem (mq_t4 (List.mem_of_getElem? (i := 82) rfl)) rfl
theorem zt_m_X8_176 : Cond.methodLink RX8 176 yX6_drop ∈ mq_T := mq_T_mem (mq_t4 (List.mem_of_getElem? (i := 87) rfl)) rfl
/-! ModalDesk$Tableau.leastToDo(I)I -/
def zr_X8_leastToDo : Room := { frames := 3, cells := 0, slots := 0, locals := 67 }
def zc_X8_leastToDo : Cond := .code yX8_leastToDo cX8_leastToDo 8 (some .int)
def zf_X8_leastToDo_52b (N : Nat) (z : Nat → Nat) (k10 : Int32 → Int32 → mq_St → Option (Int32 × mq_St)) (k52 : Int32 → Int32 → Int64 → Int32 → mq_St → Option (Int32 × mq_St)) (v1 : Int32) (v3 : Int32) (v4 : Int64) (v6 : Int32) (S : mq_St) : Option (Int32 × mq_St) := (if v6 ≤ (0 : Int32) then (mq_nI (v3 + (1 : Int32)) (fun x15 => (k10 (v1) (x15) S))) else (mq_cp (zf_J13_bitCount_95d88 N z (((v4 &&& (-v4)) - (1 : Int64))) (mq_pull S [] [] [])) (fun q16 => (mq_nI ((((64 : Int32) * v3) + q16)) (fun x18 => (mq_cp (zf_X8_isDone N z (v1) (x18) S) (fun q19 => (if q19 = (0 : Int32) then (some (x18, S)) else (mq_cl (zf_X6_drop N (fun k => [300].getD k 0) ((S.1 16)) (x18) (mq_pull S [] [] [4])) (fun q21v q21s => mq_nS (mq_push S q21s [] [] [4]) (fun S23 => (mq_nL ((v4 &&& (v4 - (1 : Int64)))) (fun x24 => (mq_nI (v6 + (-1 : Int32)) (fun x25 => (k52 (v1) (v3) (x24) (x25) S23))))))))))))))))
def zf_X8_leastToDo_52 (N : Nat) (z : Nat → Nat) (k10 : Int32 → Int32 → mq_St → Option (Int32 × mq_St)) : Nat → Int32 → Int32 → Int64 → Int32 → mq_St → Option (Int32 × mq_St)
  | 0, _, _, _, _, _ => none
  | n + 1, v1, v3, v4, v6, S => zf_X8_leastToDo_52b N z k10 (fun v1 v3 v4 v6 S => zf_X8_leastToDo_52 N z k10 n v1 v3 v4 v6 S) v1 v3 v4 v6 S
def zf_X8_leastToDo_10b (N : Nat) (z : Nat → Nat) (k10 : Int32 → Int32 → mq_St → Option (Int32 × mq_St)) (v1 : Int32) (v3 : Int32) (S : mq_St) : Option (Int32 × mq_St) := (mq_cp (zf_X7_size N z S) (fun q4 => (if q4 ≤ ((64 : Int32) * v3) then (some ((-1 : Int32), S)) else (mq_cp (zf_X6_bits N (fun k => [300].getD k 0) ((S.1 16)) (v3) (mq_pull S [] [] [4])) (fun q6 => (mq_cp (zf_X6_bits N (fun k => [40].getD k 0) (v1) (v3) (mq_pull S [] [] [0])) (fun q8 => (mq_nL ((q6 &&& q8)) (fun x10 => (mq_cp (zf_J13_bitCount_95d88 N z (x10) (mq_pull S [] [] [])) (fun q11 => (mq_nI (q11) (fun x13 => (zf_X8_leastToDo_52 N z k10 N (v1) (v3) (x10) (x13) S))))))))))))))
def zf_X8_leastToDo_10 (N : Nat) (z : Nat → Nat) : Nat → Int32 → Int32 → mq_St → Option (Int32 × mq_St)
  | 0, _, _, _ => none
  | n + 1, v1, v3, S => zf_X8_leastToDo_10b N z (fun v1 v3 S => zf_X8_leastToDo_10 N z n v1 v3 S) v1 v3 S
def zf_X8_leastToDo (N : Nat) (z : Nat → Nat) (v1 : Int32) (S : mq_St) : Option (Int32 × mq_St) := (mq_cp (zf_X7_bySort N z S) (fun q1 => (mq_nI ((0 : Int32)) (fun x3 => (zf_X8_leastToDo_10 N z N (v1) (x3) S)))))
set_option maxHeartbeats 4000000 in
set_option maxRecDepth 100000 in
theorem zw_X8_leastToDo_52b {p : Program} {l : Launch} {e : Env} {s : State} {m : MethodId} {args : Array Value} {below : List Frame} {meth : Method} {c : Code} {A : Nat → Prop} {D : va_G} {a z : Nat → Nat} {cI cL cB cZ : ClassId} {Q : State → Prop} {N : Nat} {res : Int32 × mq_St} {k10 : Int32 → Int32 → mq_St → Option (Int32 × mq_St)} {k52 : Int32 → Int32 → Int64 → Int32 → mq_St → Option (Int32 × mq_St)} (C : mq_C p s m args c A D cI cL cB cZ cX8_leastToDo 8 RX8 zc_X8_leastToDo) (hret : ∀ (H : Heap) (locs : List Loc) (ls : Array Slot) (pc : Nat), decode cX8_leastToDo pc = .ok (.ireturn, 1) → va_P D vwCl (wd_C a cI cL cB cZ z res.2) H → va_D A (wd_C a cI cL cB cZ z res.2) → va_S A s.heap H locs → W p l e zr_X8_leastToDo s m args below meth c H locs 0 0 Q (F0 m pc ls [.int res.1])) (hk10 : ∀ (v1 : Int32) (v3 : Int32) (S : mq_St) (H : Heap) (locs : List Loc) (ls : Array Slot), k10 v1 v3 S = some res → lv_has ls 8 [(0, .ref (a 25)), (1, .int (v1)), (2, .ref (a 12)), (3, .int (v3))] → va_P D vwCl (wd_C a cI cL cB cZ z S) H → va_D A (wd_C a cI cL cB cZ z S) → va_S A s.heap H locs → W p l e zr_X8_leastToDo s m args below meth c H locs 0 0 Q (F0 m 10 ls [])) (hk52 : ∀ (v1 : Int32) (v3 : Int32) (v4 : Int64) (v6 : Int32) (S : mq_St) (H : Heap) (locs : List Loc) (ls : Array Slot), k52 v1 v3 v4 v6 S = some res → lv_has ls 8 [(0, .ref (a 25)), (1, .int (v1)), (2, .ref (a 12)), (3, .int (v3)), (4, .long (v4)), (6, .int (v6))] → va_P D vwCl (wd_C a cI cL cB cZ z S) H → va_D A (wd_C a cI cL cB cZ z S) → va_S A s.heap H locs → W p l e zr_X8_leastToDo s m args below meth c H locs 0 0 Q (F0 m 52 ls [])) (v1 : Int32) (v3 : Int32) (v4 : Int64) (v6 : Int32) (S : mq_St) (H : Heap) (locs : List Loc) (ls : Array Slot) (h : zf_X8_leastToDo_52b N z k10 k52 v1 v3 v4 v6 S = some res) (hl : lv_has ls 8 [(0, .ref (a 25)), (1, .int (v1)), (2, .ref (a 12)), (3, .int (v3)), (4, .long (v4)), (6, .int (v6))]) (hP : va_P D vwCl (wd_C a cI cL cB cZ z S) H) (hD : va_D A (wd_C a cI cL cB cZ z S)) (hS : va_S A s.heap H locs) : W p l e zr_X8_leastToDo s m args below meth c H locs 0 0 Q (F0 m 52 ls []) := by
  obtain ⟨hx, hb, hml, hown, hts, hK, hA⟩ := id C
  unfold zf_X8_leastToDo_52b at h
  refine lv_iload hx hb dX8_leastToDo_52 (lv_at hl 5 rfl) ?_
  refine lv_if_le (tgt := 116) hx hb dX8_leastToDo_54 (by decide) (fun c27 => ?_) (fun c27 => ?_)
  · replace h := mq_it c27 h
    obtain ⟨x15, ex15⟩ : ∃ y : Int32, y = v3 + (1 : Int32) := ⟨_, rfl⟩
    replace h := mq_nI_go ex15 h
    refine lv_iinc (v := x15) (lv' := [(3, .int (x15)), (0, .ref (a 25)), (1, .int (v1)), (2, .ref (a 12)), (4, .long (v4)), (6, .int (v6))]) hx hb dX8_leastToDo_116 hl (k := 3) rfl (by rw [ex15]; rfl) (by decide) rfl (fun ls hl => ?_)
    refine lv_goto (tgt := 10) hx hb dX8_leastToDo_119 (by decide) ?_
    exact hk10 (v1) (x15) S H locs ls h (lv_sub hl [1, 2, 3, 0] rfl) hP hD hS
  · replace h := mq_if c27 h
    refine lv_bipush (v := (64 : Int32)) hx hb dX8_leastToDo_57 (by decide) ?_
    refine lv_iload_n hx hb dX8_leastToDo_59 rfl (lv_at hl 3 rfl) ?_
    refine lv_imul hx hb dX8_leastToDo_60 ?_
    refine lv_lload hx hb dX8_leastToDo_61 (lv_at hl 4 rfl) ?_
    refine lv_lload hx hb dX8_leastToDo_63 (lv_at hl 4 rfl) ?_
    refine lv_lneg hx hb dX8_leastToDo_65 ?_
    refine lv_land hx hb dX8_leastToDo_66 ?_
    refine lv_lconst (v := 1) hx hb dX8_leastToDo_67 (by decide) ?_
    refine lv_lsub hx hb dX8_leastToDo_68 ?_
    obtain ⟨q16, hc17, h⟩ := mq_cp_go h
    refine zv_J13_bitCount_95d88 (a := mq_ad a []) (z := z) [] C zt_m_X8_167 ⟨by decide, by decide⟩ hc17 rfl (by decide) hP hD hS hl.1 (Nat.le_of_ble_eq_true rfl) dX8_leastToDo_69 (fun H locs hP hD hS => ?_)
    refine lv_iadd hx hb dX8_leastToDo_72 ?_
    refine lv_topi (fun x18 ex18 => ?_)
    replace h := mq_nI_go ex18 h
    refine lv_istore (lv' := [(7, .int (x18)), (0, .ref (a 25)), (1, .int (v1)), (2, .ref (a 12)), (3, .int (v3)), (4, .long (v4)), (6, .int (v6))]) hx hb dX8_leastToDo_73 hl (by decide) rfl (fun ls hl => ?_)
    refine lv_aload_n hx hb dX8_leastToDo_75 rfl (lv_at hl 1 rfl) ?_
    refine lv_iload_n hx hb dX8_leastToDo_76 rfl (lv_at hl 2 rfl) ?_
    refine lv_iload hx hb dX8_leastToDo_77 (lv_at hl 0 rfl) ?_
    obtain ⟨q19, hc20, h⟩ := mq_cp_go h
    refine zk_X8_isDone C zt_m_X8_173 ⟨by decide, by decide⟩ hc20 hP hD hS hl.1 (Nat.le_of_ble_eq_true rfl) dX8_leastToDo_79 (fun H locs hP hD hS => ?_)
    refine lv_if_ne (tgt := 88) hx hb dX8_leastToDo_82 (by decide) (fun c26 => ?_) (fun c26 => ?_)
    · replace h := mq_if c26 h
      refine lv_aload_n hx hb dX8_leastToDo_88 rfl (lv_at hl 1 rfl) ?_
      refine va_get (D := D) (ci := 8) (v := .ref (a 37)) (C := RX8) (T := TX8) (N := 19) hx hb hts (zi_X8 _) hown hK hP 25 rfl rfl 3 (by decide) (hts _ (List.mem_cons_of_mem _ zt_f_X8_23)) (fun _ h9 => h9) rfl dX8_leastToDo_89 ?_
      refine lv_aload_n hx hb dX8_leastToDo_92 rfl (lv_at hl 1 rfl) ?_
      refine va_get (D := D) (ci := 8) (v := .int ((S.1 16))) (C := RX8) (T := TX8) (N := 19) hx hb hts (zi_X8 _) hown hK hP 25 rfl rfl 15 (by decide) (hts _ (List.mem_cons_of_mem _ zt_f_X8_160)) (fun _ h9 => h9) rfl dX8_leastToDo_93 ?_
      refine lv_iload hx hb dX8_leastToDo_96 (lv_at hl 0 rfl) ?_
      obtain ⟨q21, hc22, h⟩ := mq_cl_go h
      refine zv_X6_drop (a := mq_ad a [37, 38]) (z := (fun k => [300].getD k 0)) [37, 38] C zt_m_X8_176 ⟨by decide, by decide⟩ hc22 rfl (by decide) (ws' := (wd_C a cI cL cB cZ z (mq_push S q21.2 [] [] [4]))) (zx_wd_C_wd_S_37_38 _ _ _ _ _ _ _ _) hP hD hS hl.1 (Nat.le_of_ble_eq_true rfl) dX8_leastToDo_98 (fun H locs hP hD hS => ?_)
      obtain ⟨S23, eS23⟩ : ∃ y, y = mq_push S q21.2 [] [] [4] := ⟨_, rfl⟩
      replace h := mq_nS_go eS23 h
      rw [← eS23] at hP hD
      refine lv_lload hx hb dX8_leastToDo_101 (lv_at hl 5 rfl) ?_
      refine lv_lload hx hb dX8_leastToDo_103 (lv_at hl 5 rfl) ?_
      refine lv_lconst (v := 1) hx hb dX8_leastToDo_105 (by decide) ?_
      refine lv_lsub hx hb dX8_leastToDo_106 ?_
      refine lv_land hx hb dX8_leastToDo_107 ?_
      refine lv_topl (fun x24 ex24 => ?_)
      replace h := mq_nL_go ex24 h
      refine lv_lstore (lv' := [(4, .long (x24)), (7, .int (x18)), (0, .ref (a 25)), (1, .int (v1)), (2, .ref (a 12)), (3, .int (v3)), (6, .int (v6))]) hx hb dX8_leastToDo_108 hl (by decide) rfl (fun ls hl => ?_)
      obtain ⟨x25, ex25⟩ : ∃ y : Int32, y = v6 + (-1 : Int32) := ⟨_, rfl⟩
      replace h := mq_nI_go ex25 h
      refine lv_iinc (v := x25) (lv' := [(6, .int (x25)), (4, .long (x24)), (7, .int (x18)), (0, .ref (a 25)), (1, .int (v1)), (2, .ref (a 12)), (3, .int (v3))]) hx hb dX8_leastToDo_110 hl (k := 6) rfl (by rw [ex25]; rfl) (by decide) rfl (fun ls hl => ?_)
      refine lv_goto (tgt := 52) hx hb dX8_leastToDo_113 (by decide) ?_
      exact hk52 (v1) (v3) (x24) (x25) S23 H locs ls h (lv_sub hl [3, 4, 5, 6, 1, 0] rfl) hP hD hS
    · replace h := mq_it (by simpa using c26) h
      refine lv_iload hx hb dX8_leastToDo_85 (lv_at hl 0 rfl) ?_
      cases h
      exact hret H locs ls 87 dX8_leastToDo_87 hP hD hS
set_option maxHeartbeats 4000000 in
set_option maxRecDepth 100000 in
theorem zw_X8_leastToDo_52 {p : Program} {l : Launch} {e : Env} {s : State} {m : MethodId} {args : Array Value} {below : List Frame} {meth : Method} {c : Code} {A : Nat → Prop} {D : va_G} {a z : Nat → Nat} {cI cL cB cZ : ClassId} {Q : State → Prop} {N : Nat} {res : Int32 × mq_St} {k10 : Int32 → Int32 → mq_St → Option (Int32 × mq_St)} (C : mq_C p s m args c A D cI cL cB cZ cX8_leastToDo 8 RX8 zc_X8_leastToDo) (hret : ∀ (H : Heap) (locs : List Loc) (ls : Array Slot) (pc : Nat), decode cX8_leastToDo pc = .ok (.ireturn, 1) → va_P D vwCl (wd_C a cI cL cB cZ z res.2) H → va_D A (wd_C a cI cL cB cZ z res.2) → va_S A s.heap H locs → W p l e zr_X8_leastToDo s m args below meth c H locs 0 0 Q (F0 m pc ls [.int res.1])) (hk10 : ∀ (v1 : Int32) (v3 : Int32) (S : mq_St) (H : Heap) (locs : List Loc) (ls : Array Slot), k10 v1 v3 S = some res → lv_has ls 8 [(0, .ref (a 25)), (1, .int (v1)), (2, .ref (a 12)), (3, .int (v3))] → va_P D vwCl (wd_C a cI cL cB cZ z S) H → va_D A (wd_C a cI cL cB cZ z S) → va_S A s.heap H locs → W p l e zr_X8_leastToDo s m args below meth c H locs 0 0 Q (F0 m 10 ls [])) : ∀ (n : Nat) (v1 : Int32) (v3 : Int32) (v4 : Int64) (v6 : Int32) (S : mq_St) (H : Heap) (locs : List Loc) (ls : Array Slot) (h : zf_X8_leastToDo_52 N z k10 n v1 v3 v4 v6 S = some res) (hl : lv_has ls 8 [(0, .ref (a 25)), (1, .int (v1)), (2, .ref (a 12)), (3, .int (v3)), (4, .long (v4)), (6, .int (v6))]) (hP : va_P D vwCl (wd_C a cI cL cB cZ z S) H) (hD : va_D A (wd_C a cI cL cB cZ z S)) (hS : va_S A s.heap H locs), W p l e zr_X8_leastToDo s m args below meth c H locs 0 0 Q (F0 m 52 ls []) := by
  intro n
  induction n with
  | zero =>
    intro v1 v3 v4 v6 S H locs ls h hl hP hD hS
    exact nomatch (show (none : Option (Int32 × mq_St)) = some res from h)
  | succ n ih =>
    intro v1 v3 v4 v6 S H locs ls h hl hP hD hS
    exact zw_X8_leastToDo_52b C hret hk10 (fun v1 v3 v4 v6 S H locs ls h hl hP hD hS => ih v1 v3 v4 v6 S H locs ls h hl hP hD hS) v1 v3 v4 v6 S H locs ls h hl hP hD hS
set_option maxHeartbeats 4000000 in
set_option maxRecDepth 100000 in
theorem zw_X8_leastToDo_10b {p : Program} {l : Launch} {e : Env} {s : State} {m : MethodId} {args : Array Value} {below : List Frame} {meth : Method} {c : Code} {A : Nat → Prop} {D : va_G} {a z : Nat → Nat} {cI cL cB cZ : ClassId} {Q : State → Prop} {N : Nat} {res : Int32 × mq_St} {k10 : Int32 → Int32 → mq_St → Option (Int32 × mq_St)} (C : mq_C p s m args c A D cI cL cB cZ cX8_leastToDo 8 RX8 zc_X8_leastToDo) (hret : ∀ (H : Heap) (locs : List Loc) (ls : Array Slot) (pc : Nat), decode cX8_leastToDo pc = .ok (.ireturn, 1) → va_P D vwCl (wd_C a cI cL cB cZ z res.2) H → va_D A (wd_C a cI cL cB cZ z res.2) → va_S A s.heap H locs → W p l e zr_X8_leastToDo s m args below meth c H locs 0 0 Q (F0 m pc ls [.int res.1])) (hk10 : ∀ (v1 : Int32) (v3 : Int32) (S : mq_St) (H : Heap) (locs : List Loc) (ls : Array Slot), k10 v1 v3 S = some res → lv_has ls 8 [(0, .ref (a 25)), (1, .int (v1)), (2, .ref (a 12)), (3, .int (v3))] → va_P D vwCl (wd_C a cI cL cB cZ z S) H → va_D A (wd_C a cI cL cB cZ z S) → va_S A s.heap H locs → W p l e zr_X8_leastToDo s m args below meth c H locs 0 0 Q (F0 m 10 ls [])) (v1 : Int32) (v3 : Int32) (S : mq_St) (H : Heap) (locs : List Loc) (ls : Array Slot) (h : zf_X8_leastToDo_10b N z k10 v1 v3 S = some res) (hl : lv_has ls 8 [(0, .ref (a 25)), (1, .int (v1)), (2, .ref (a 12)), (3, .int (v3))]) (hP : va_P D vwCl (wd_C a cI cL cB cZ z S) H) (hD : va_D A (wd_C a cI cL cB cZ z S)) (hS : va_S A s.heap H locs) : W p l e zr_X8_leastToDo s m args below meth c H locs 0 0 Q (F0 m 10 ls []) := by
  obtain ⟨hx, hb, hml, hown, hts, hK, hA⟩ := id C
  unfold zf_X8_leastToDo_10b at h
  refine lv_bipush (v := (64 : Int32)) hx hb dX8_leastToDo_10 (by decide) ?_
  refine lv_iload_n hx hb dX8_leastToDo_12 rfl (lv_at hl 3 rfl) ?_
  refine lv_imul hx hb dX8_leastToDo_13 ?_
  refine lv_aload_n hx hb dX8_leastToDo_14 rfl (lv_at hl 0 rfl) ?_
  refine va_get (D := D) (ci := 8) (v := .ref (a 7)) (C := RX8) (T := TX8) (N := 19) hx hb hts (zi_X8 _) hown hK hP 25 rfl rfl 0 (by decide) (hts _ (List.mem_cons_of_mem _ zt_f_X8_56)) (fun _ h9 => h9) rfl dX8_leastToDo_15 ?_
  obtain ⟨q4, hc5, h⟩ := mq_cp_go h
  refine zk_X7_size C zt_m_X8_112 ⟨by decide, by decide⟩ hc5 hP hD hS hl.1 (Nat.le_of_ble_eq_true rfl) dX8_leastToDo_18 (fun H locs hP hD hS => ?_)
  refine lv_icmp_ge (tgt := 122) hx hb dX8_leastToDo_21 (by decide) (fun c14 => ?_) (fun c14 => ?_)
  · replace h := mq_it c14 h
    refine lv_iconst (v := (-1 : Int32)) hx hb dX8_leastToDo_122 (by decide) ?_
    cases h
    exact hret H locs ls 123 dX8_leastToDo_123 hP hD hS
  · replace h := mq_if c14 h
    refine lv_aload_n hx hb dX8_leastToDo_24 rfl (lv_at hl 0 rfl) ?_
    refine va_get (D := D) (ci := 8) (v := .ref (a 37)) (C := RX8) (T := TX8) (N := 19) hx hb hts (zi_X8 _) hown hK hP 25 rfl rfl 3 (by decide) (hts _ (List.mem_cons_of_mem _ zt_f_X8_23)) (fun _ h9 => h9) rfl dX8_leastToDo_25 ?_
    refine lv_aload_n hx hb dX8_leastToDo_28 rfl (lv_at hl 0 rfl) ?_
    refine va_get (D := D) (ci := 8) (v := .int ((S.1 16))) (C := RX8) (T := TX8) (N := 19) hx hb hts (zi_X8 _) hown hK hP 25 rfl rfl 15 (by decide) (hts _ (List.mem_cons_of_mem _ zt_f_X8_160)) (fun _ h9 => h9) rfl dX8_leastToDo_29 ?_
    refine lv_iload_n hx hb dX8_leastToDo_32 rfl (lv_at hl 3 rfl) ?_
    obtain ⟨q6, hc7, h⟩ := mq_cp_go h
    refine zv_X6_bits (a := mq_ad a [37, 38]) (z := (fun k => [300].getD k 0)) [37, 38] C zt_m_X8_163 ⟨by decide, by decide⟩ hc7 rfl (by decide) hP hD hS hl.1 (Nat.le_of_ble_eq_true rfl) dX8_leastToDo_33 (fun H locs hP hD hS => ?_)
    refine lv_aload_n hx hb dX8_leastToDo_36 rfl (lv_at hl 2 rfl) ?_
    refine lv_iload_n hx hb dX8_leastToDo_37 rfl (lv_at hl 1 rfl) ?_
    refine lv_iload_n hx hb dX8_leastToDo_38 rfl (lv_at hl 3 rfl) ?_
    obtain ⟨q8, hc9, h⟩ := mq_cp_go h
    refine zv_X6_bits (a := mq_ad a [12, 13]) (z := (fun k => [40].getD k 0)) [12, 13] C zt_m_X8_163 ⟨by decide, by decide⟩ hc9 rfl (by decide) hP hD hS hl.1 (Nat.le_of_ble_eq_true rfl) dX8_leastToDo_39 (fun H locs hP hD hS => ?_)
    refine lv_land hx hb dX8_leastToDo_42 ?_
    refine lv_topl (fun x10 ex10 => ?_)
    replace h := mq_nL_go ex10 h
    refine lv_lstore (lv' := [(4, .long (x10)), (0, .ref (a 25)), (1, .int (v1)), (2, .ref (a 12)), (3, .int (v3))]) hx hb dX8_leastToDo_43 hl (by decide) rfl (fun ls hl => ?_)
    refine lv_lload hx hb dX8_leastToDo_45 (lv_at hl 0 rfl) ?_
    obtain ⟨q11, hc12, h⟩ := mq_cp_go h
    refine zv_J13_bitCount_95d88 (a := mq_ad a []) (z := z) [] C zt_m_X8_167 ⟨by decide, by decide⟩ hc12 rfl (by decide) hP hD hS hl.1 (Nat.le_of_ble_eq_true rfl) dX8_leastToDo_47 (fun H locs hP hD hS => ?_)
    refine lv_topi (fun x13 ex13 => ?_)
    replace h := mq_nI_go ex13 h
    refine lv_istore (lv' := [(6, .int (x13)), (4, .long (x10)), (0, .ref (a 25)), (1, .int (v1)), (2, .ref (a 12)), (3, .int (v3))]) hx hb dX8_leastToDo_50 hl (by decide) rfl (fun ls hl => ?_)
    exact zw_X8_leastToDo_52 C hret hk10 N (v1) (v3) (x10) (x13) S H locs ls h (lv_sub hl [2, 3, 4, 5, 1, 0] rfl) hP hD hS
set_option maxHeartbeats 4000000 in
set_option maxRecDepth 100000 in
theorem zw_X8_leastToDo_10 {p : Program} {l : Launch} {e : Env} {s : State} {m : MethodId} {args : Array Value} {below : List Frame} {meth : Method} {c : Code} {A : Nat → Prop} {D : va_G} {a z : Nat → Nat} {cI cL cB cZ : ClassId} {Q : State → Prop} {N : Nat} {res : Int32 × mq_St} (C : mq_C p s m args c A D cI cL cB cZ cX8_leastToDo 8 RX8 zc_X8_leastToDo) (hret : ∀ (H : Heap) (locs : List Loc) (ls : Array Slot) (pc : Nat), decode cX8_leastToDo pc = .ok (.ireturn, 1) → va_P D vwCl (wd_C a cI cL cB cZ z res.2) H → va_D A (wd_C a cI cL cB cZ z res.2) → va_S A s.heap H locs → W p l e zr_X8_leastToDo s m args below meth c H locs 0 0 Q (F0 m pc ls [.int res.1])) : ∀ (n : Nat) (v1 : Int32) (v3 : Int32) (S : mq_St) (H : Heap) (locs : List Loc) (ls : Array Slot) (h : zf_X8_leastToDo_10 N z n v1 v3 S = some res) (hl : lv_has ls 8 [(0, .ref (a 25)), (1, .int (v1)), (2, .ref (a 12)), (3, .int (v3))]) (hP : va_P D vwCl (wd_C a cI cL cB cZ z S) H) (hD : va_D A (wd_C a cI cL cB cZ z S)) (hS : va_S A s.heap H locs), W p l e zr_X8_leastToDo s m args below meth c H locs 0 0 Q (F0 m 10 ls []) := by
  intro n
  induction n with
  | zero =>
    intro v1 v3 S H locs ls h hl hP hD hS
    exact nomatch (show (none : Option (Int32 × mq_St)) = some res from h)
  | succ n ih =>
    intro v1 v3 S H locs ls h hl hP hD hS
    exact zw_X8_leastToDo_10b C hret (fun v1 v3 S H locs ls h hl hP hD hS => ih v1 v3 S H locs ls h hl hP hD hS) v1 v3 S H locs ls h hl hP hD hS
set_option maxHeartbeats 4000000 in
set_option maxRecDepth 100000 in
theorem zw_X8_leastToDo_0 {p : Program} {l : Launch} {e : Env} {s : State} {m : MethodId} {args : Array Value} {below : List Frame} {meth : Method} {c : Code} {A : Nat → Prop} {D : va_G} {a z : Nat → Nat} {cI cL cB cZ : ClassId} {Q : State → Prop} {N : Nat} {res : Int32 × mq_St} (C : mq_C p s m args c A D cI cL cB cZ cX8_leastToDo 8 RX8 zc_X8_leastToDo) (hret : ∀ (H : Heap) (locs : List Loc) (ls : Array Slot) (pc : Nat), decode cX8_leastToDo pc = .ok (.ireturn, 1) → va_P D vwCl (wd_C a cI cL cB cZ z res.2) H → va_D A (wd_C a cI cL cB cZ z res.2) → va_S A s.heap H locs → W p l e zr_X8_leastToDo s m args below meth c H locs 0 0 Q (F0 m pc ls [.int res.1])) (v1 : Int32) (S : mq_St) (H : Heap) (locs : List Loc) (ls : Array Slot) (h : zf_X8_leastToDo N z v1 S = some res) (hl : lv_has ls 8 [(0, .ref (a 25)), (1, .int (v1))]) (hP : va_P D vwCl (wd_C a cI cL cB cZ z S) H) (hD : va_D A (wd_C a cI cL cB cZ z S)) (hS : va_S A s.heap H locs) : W p l e zr_X8_leastToDo s m args below meth c H locs 0 0 Q (F0 m 0 ls []) := by
  obtain ⟨hx, hb, hml, hown, hts, hK, hA⟩ := id C
  unfold zf_X8_leastToDo at h
  refine lv_aload_n hx hb dX8_leastToDo_0 rfl (lv_at hl 0 rfl) ?_
  refine va_get (D := D) (ci := 8) (v := .ref (a 7)) (C := RX8) (T := TX8) (N := 19) hx hb hts (zi_X8 _) hown hK hP 25 rfl rfl 0 (by decide) (hts _ (List.mem_cons_of_mem _ zt_f_X8_56)) (fun _ h9 => h9) rfl dX8_leastToDo_1 ?_
  obtain ⟨q1, hc2, h⟩ := mq_cp_go h
  refine zk_X7_bySort C zt_m_X8_156 ⟨by decide, by decide⟩ hc2 hP hD hS hl.1 (Nat.le_of_ble_eq_true rfl) dX8_leastToDo_4 (fun H locs hP hD hS => ?_)
  refine lv_astore_n (lv' := [(2, .ref (a 12)), (0, .ref (a 25)), (1, .int (v1))]) hx hb dX8_leastToDo_7 rfl hl (by decide) rfl (fun ls hl => ?_)
  refine lv_iconst (v := (0 : Int32)) hx hb dX8_leastToDo_8 (by decide) ?_
  refine lv_topi (fun x3 ex3 => ?_)
  replace h := mq_nI_go ex3 h
  refine lv_istore_n (lv' := [(3, .int (x3)), (2, .ref (a 12)), (0, .ref (a 25)), (1, .int (v1))]) hx hb dX8_leastToDo_9 rfl hl (by decide) rfl (fun ls hl => ?_)
  exact zw_X8_leastToDo_10 C hret N (v1) (x3) S H locs ls h (lv_sub hl [2, 3, 1, 0] rfl) hP hD hS
set_option maxHeartbeats 4000000 in
set_option maxRecDepth 100000 in
theorem zm_X8_leastToDo (l : Launch) (D : va_G) (a z : Nat → Nat) (cI cL cB cZ : ClassId) (sz N : Nat) (v1 : Int32) (S : mq_St) (res : Int32 × mq_St) (h : zf_X8_leastToDo N z v1 S = some res) : Met l yX8_leastToDo (zc_X8_leastToDo :: mq_T) zr_X8_leastToDo (va_Pc [.ref (a 25), .int (v1)] (fun U => U.heap.size = sz ∧ va_P D vwCl (wd_C a cI cL cB cZ z S) U.heap ∧ va_K D vwCl (mq_tys cI cL cB cZ) U ∧ va_D (fun _ => True) (wd_C a cI cL cB cZ z S))) (va_Qi (fun (r : Int32) (u : mq_St) => r = res.1 ∧ u = res.2) (fun u t => va_P D vwCl (wd_C a cI cL cB cZ z u) t.heap ∧ va_K D vwCl (mq_tys cI cL cB cZ) t ∧ va_D (va_A (wd_C a cI cL cB cZ z S) sz) (wd_C a cI cL cB cZ z u)) (va_A (wd_C a cI cL cB cZ z S) sz)) 0 0 (va_A (wd_C a cI cL cB cZ z S) sz) := by
  refine Met.ofW (cc := cX8_leastToDo) (maxL := 8) (ret := (some .int)) (by decide) rfl ?_
  intro p e s m args below meth c s₁ B hml hv
  obtain ⟨rfl, hsz, hP, hK, hD0⟩ := hv
  have hr := B.returns
  have hlocks := B.notSynchronized
  have hts := atoms_spec (ws := zc_X8_leastToDo :: mq_T) B.pre
  have hown : s.vm.findClass RX8 = some m.cls := findClass_of_methodNamed B.named
  subst hsz
  have hD := hD0.self (sz := s.heap.size)
  generalize hAe : va_A (wd_C a cI cL cB cZ z S) s.heap.size = A at hD ⊢
  have hA : ∀ q : Nat, s.heap.size ≤ q → A q := fun q h => by rw [← hAe]; exact Or.inr h
  have hl := lv_entry ([.ref (a 25), .int (v1)]) (n := 8) (Nat.le_of_ble_eq_true rfl)
  rw [lg_entry_eq]
  generalize (lg_sl ([.ref (a 25), .int (v1)]) ++ List.replicate (8 - (lg_sl ([.ref (a 25), .int (v1)])).length) Slot.unset).toArray = ls at hl ⊢
  have hl : lv_has ls 8 [(0, .ref (a 25)), (1, .int (v1))] := hl
  refine zw_X8_leastToDo_0 (A := A) ⟨B.exec, B.bytes, hml, hown, hts, hK, hA⟩ (fun H locs ls pc dg hP hD hS => ?_) v1 S s.heap [] ls h hl hP hD va_S.rf
  exact W.iret B.exec B.bytes hr (fun t ht hW => ⟨⟨_, _, rfl, ⟨rfl, rfl⟩, by rw [ht]; exact hP, va_K.moved hW.alike hK, hD⟩, hS.F ht⟩) hS.2.2 dg
theorem zt_X8_leastToDo_c : zc_X8_leastToDo ∈ mq_T := mq_T_mem (mq_t4 (List.mem_of_getElem? (i := 66) rfl)) rfl
theorem zt_X8_leastToDo_i : Cond.instanceMethod yX8_leastToDo ∈ mq_T := mq_T_mem (mq_t4 (List.mem_of_getElem? (i := 65) rfl)) rfl
theorem zt_X8_leastToDo_s : Cond.selects RX8 yX8_leastToDo yX8_leastToDo ∈ mq_T := mq_T_at 43 (by decide +kernel)
set_option maxHeartbeats 4000000 in
theorem zk_X8_leastToDo {p : Program} {l : Launch} {e : Env} {R : Room} {s : State} {m : MethodId} {args : Array Value} {below : List Frame} {meth : Method} {c : Code} {A : Nat → Prop} {D : va_G} {a z : Nat → Nat} {cI cL cB cZ : ClassId} {Q : State → Prop} {cc : ByteArray} {nL idx pc N : Nat} {own : String} {c1 : Cond} {H : Heap} {locs : List Loc} {ls : Array Slot} {rest : List Value} {S : mq_St} {res : Int32 × mq_St} {v1 : Int32} (C : mq_C p s m args c A D cI cL cB cZ cc nL own c1) (hlk : Cond.methodLink own idx yX8_leastToDo ∈ mq_T) (hR : zr_X8_leastToDo.frames + 1 ≤ R.frames ∧ 8 + (8 + 11) + zr_X8_leastToDo.locals ≤ R.locals) (h : zf_X8_leastToDo N z v1 S = some res) (hP : va_P D vwCl (wd_C a cI cL cB cZ z S) H) (hD : va_D A (wd_C a cI cL cB cZ z S)) (hS : va_S A s.heap H locs) (hls : ls.size = nL) (hrest : (rest.map fun v => v.category).sum ≤ 8) (hdg : decode cc pc = .ok (.invokevirtual idx, 3)) (kk : ∀ (H1 : Heap) (locs1 : List Loc), va_P D vwCl (wd_C a cI cL cB cZ z res.2) H1 → va_D A (wd_C a cI cL cB cZ z res.2) → va_S A s.heap H1 locs1 → W p l e R s m args below meth c H1 locs1 0 0 Q (F0 m (pc + 3) ls (.int res.1 :: rest))) : W p l e R s m args below meth c H locs 0 0 Q (F0 m pc ls (.int (v1) :: .ref (a 25) :: rest)) := by
  obtain ⟨hx, hb, hml, hown, hts, hK, hA⟩ := C
  have hFc := mq_freeI hD hS hA
  refine va_calli (va_runV (As := [.int (v1)]) (rest := rest) ⟨hx, hb, hml, hown, hts⟩ (zm_X8_leastToDo l D a z cI cL cB cZ H.size N v1 S res h) (cwV 1 hts (mq_goodL (mq_wsV hlk zt_X8_leastToDo_i zt_X8_leastToDo_s zt_ini_X8 zt_X8_leastToDo_c)) rfl rfl rfl (by decide +kernel) hR) ⟨fun a U g mk q => ⟨q.1, q.2.1, q.2.2.1, va_K.moved (u := U) (U := U.calling g mk a) (Vm.Alike.refl U.vm) q.2.2.2.1, q.2.2.2.2⟩, zy_C_25 hK hP, fun U hU hW => ⟨rfl, by rw [hU], by rw [hU]; exact hP, va_K.moved hW.alike hK, hD.weaken (fun _ _ _ _ => trivial)⟩⟩ rfl rfl hls rfl (lv_room hrest) hdg ⟨Nat.zero_le _, Nat.zero_le _⟩) hS (fun q _ h => hFc q h) hFc (fun r u t H1 locs ht hvm hw hB hz1 hk1 hS => ?_)
  obtain ⟨rfl, rfl⟩ := hw
  obtain ⟨hP1, hK1, hD1⟩ := hB
  rw [ht] at hP1
  exact kk H1 locs hP1 (hD1.weaken (fun _ _ _ h => hFc _ h)) hS
theorem zt_m_X8_131 : Cond.methodLink RX8 131 yX8_note ∈ mq_T := mq_T_mem (mq_t4 (List.mem_of_getElem? (i := 31) rfl)) rfl
/-! ModalDesk$Tableau.widen(II)V -/
def zr_X8_widen : Room := { frames := 4, cells := 0, slots := 0, locals := 89 }
def zc_X8_widen : Cond := .code yX8_widen cX8_widen 3 none
def zf_X8_widen (N : Nat) (z : Nat → Nat) (v1 : Int32) (v2 : Int32) (S : mq_St) : Option (Unit × mq_St) := (mq_cl (zf_X8_step N z S) (fun q1v S3 => (if q1v = (0 : Int32) then (some ((), S3)) else (mq_cl (zf_X8_note N z (v1) (v2) S3) (fun q4v S6 => (if q4v = (0 : Int32) then (some ((), S6)) else (mq_cp (zf_X7_firstOf N z (v2) S6) (fun q7 => (mq_cl (zf_X8_add N z (q7) S6) (fun q9v S11 => (mq_cp (zf_X7_secondOf N z (v2) S11) (fun q12 => (mq_cl (zf_X8_add N z (q12) S11) (fun q14v S16 => (some ((), S16))))))))))))))))
set_option maxHeartbeats 4000000 in
set_option maxRecDepth 100000 in
theorem zw_X8_widen_0 {p : Program} {l : Launch} {e : Env} {s : State} {m : MethodId} {args : Array Value} {below : List Frame} {meth : Method} {c : Code} {A : Nat → Prop} {D : va_G} {a z : Nat → Nat} {cI cL cB cZ : ClassId} {Q : State → Prop} {N : Nat} {res : Unit × mq_St} (C : mq_C p s m args c A D cI cL cB cZ cX8_widen 3 RX8 zc_X8_widen) (hret : ∀ (H : Heap) (locs : List Loc) (ls : Array Slot) (pc : Nat), decode cX8_widen pc = .ok (.return_, 1) → va_P D vwCl (wd_C a cI cL cB cZ z res.2) H → va_D A (wd_C a cI cL cB cZ z res.2) → va_S A s.heap H locs → W p l e zr_X8_widen s m args below meth c H locs 0 0 Q (F0 m pc ls [])) (v1 : Int32) (v2 : Int32) (S : mq_St) (H : Heap) (locs : List Loc) (ls : Array Slot) (h : zf_X8_widen N z v1 v2 S = some res) (hl : lv_has ls 3 [(0, .ref (a 25)), (1, .int (v1)), (2, .int (v2))]) (hP : va_P D vwCl (wd_C a cI cL cB cZ z S) H) (hD : va_D A (wd_C a cI cL cB cZ z S)) (hS : va_S A s.heap H locs) : W p l e zr_X8_widen s m args below meth c H locs 0 0 Q (F0 m 0 ls []) := by
  obtain ⟨hx, hb, hml, hown, hts, hK, hA⟩ := id C
  unfold zf_X8_widen at h
  refine lv_aload_n hx hb dX8_widen_0 rfl (lv_at hl 0 rfl) ?_
  obtain ⟨q1, hc2, h⟩ := mq_cl_go h
  refine zk_X8_step C zt_m_X8_182 ⟨by decide, by decide⟩ hc2 hP hD hS hl.1 (Nat.le_of_ble_eq_true rfl) dX8_widen_1 (fun H locs hP hD hS => ?_)
  obtain ⟨S3, eS3⟩ : ∃ y, y = q1.2 := ⟨_, rfl⟩
  rw [← eS3] at hP hD h
  refine lv_if_eq (tgt := 40) hx hb dX8_widen_4 (by decide) (fun c18 => ?_) (fun c18 => ?_)
  · replace h := mq_it c18 h
    cases h
    exact hret H locs ls 40 dX8_widen_40 hP hD hS
  · replace h := mq_if c18 h
    refine lv_aload_n hx hb dX8_widen_7 rfl (lv_at hl 0 rfl) ?_
    refine lv_iload_n hx hb dX8_widen_8 rfl (lv_at hl 1 rfl) ?_
    refine lv_iload_n hx hb dX8_widen_9 rfl (lv_at hl 2 rfl) ?_
    obtain ⟨q4, hc5, h⟩ := mq_cl_go h
    refine zk_X8_note C zt_m_X8_131 ⟨by decide, by decide⟩ hc5 hP hD hS hl.1 (Nat.le_of_ble_eq_true rfl) dX8_widen_10 (fun H locs hP hD hS => ?_)
    obtain ⟨S6, eS6⟩ : ∃ y, y = q4.2 := ⟨_, rfl⟩
    rw [← eS6] at hP hD h
    refine lv_if_eq (tgt := 40) hx hb dX8_widen_13 (by decide) (fun c17 => ?_) (fun c17 => ?_)
    · replace h := mq_it c17 h
      cases h
      exact hret H locs ls 40 dX8_widen_40 hP hD hS
    · replace h := mq_if c17 h
      refine lv_aload_n hx hb dX8_widen_16 rfl (lv_at hl 0 rfl) ?_
      refine lv_aload_n hx hb dX8_widen_17 rfl (lv_at hl 0 rfl) ?_
      refine va_get (D := D) (ci := 8) (v := .ref (a 7)) (C := RX8) (T := TX8) (N := 19) hx hb hts (zi_X8 _) hown hK hP 25 rfl rfl 0 (by decide) (hts _ (List.mem_cons_of_mem _ zt_f_X8_56)) (fun _ h9 => h9) rfl dX8_widen_18 ?_
      refine lv_iload_n hx hb dX8_widen_21 rfl (lv_at hl 2 rfl) ?_
      obtain ⟨q7, hc8, h⟩ := mq_cp_go h
      refine zk_X7_firstOf C zt_m_X8_125 ⟨by decide, by decide⟩ hc8 hP hD hS hl.1 (Nat.le_of_ble_eq_true rfl) dX8_widen_22 (fun H locs hP hD hS => ?_)
      obtain ⟨q9, hc10, h⟩ := mq_cl_go h
      refine zk_X8_add C zt_m_X8_185 ⟨by decide, by decide⟩ hc10 hP hD hS hl.1 (Nat.le_of_ble_eq_true rfl) dX8_widen_25 (fun H locs hP hD hS => ?_)
      obtain ⟨S11, eS11⟩ : ∃ y, y = q9.2 := ⟨_, rfl⟩
      rw [← eS11] at hP hD h
      refine lv_aload_n hx hb dX8_widen_28 rfl (lv_at hl 0 rfl) ?_
      refine lv_aload_n hx hb dX8_widen_29 rfl (lv_at hl 0 rfl) ?_
      refine va_get (D := D) (ci := 8) (v := .ref (a 7)) (C := RX8) (T := TX8) (N := 19) hx hb hts (zi_X8 _) hown hK hP 25 rfl rfl 0 (by decide) (hts _ (List.mem_cons_of_mem _ zt_f_X8_56)) (fun _ h9 => h9) rfl dX8_widen_30 ?_
      refine lv_iload_n hx hb dX8_widen_33 rfl (lv_at hl 2 rfl) ?_
      obtain ⟨q12, hc13, h⟩ := mq_cp_go h
      refine zk_X7_secondOf C zt_m_X8_179 ⟨by decide, by decide⟩ hc13 hP hD hS hl.1 (Nat.le_of_ble_eq_true rfl) dX8_widen_34 (fun H locs hP hD hS => ?_)
      obtain ⟨q14, hc15, h⟩ := mq_cl_go h
      refine zk_X8_add C zt_m_X8_185 ⟨by decide, by decide⟩ hc15 hP hD hS hl.1 (Nat.le_of_ble_eq_true rfl) dX8_widen_37 (fun H locs hP hD hS => ?_)
      obtain ⟨S16, eS16⟩ : ∃ y, y = q14.2 := ⟨_, rfl⟩
      rw [← eS16] at hP hD h
      cases h
      exact hret H locs ls 40 dX8_widen_40 hP hD hS
set_option maxHeartbeats 4000000 in
set_option maxRecDepth 100000 in
theorem zm_X8_widen (l : Launch) (D : va_G) (a z : Nat → Nat) (cI cL cB cZ : ClassId) (sz N : Nat) (v1 : Int32) (v2 : Int32) (S : mq_St) (res : Unit × mq_St) (h : zf_X8_widen N z v1 v2 S = some res) : Met l yX8_widen (zc_X8_widen :: mq_T) zr_X8_widen (va_Pc [.ref (a 25), .int (v1), .int (v2)] (fun U => U.heap.size = sz ∧ va_P D vwCl (wd_C a cI cL cB cZ z S) U.heap ∧ va_K D vwCl (mq_tys cI cL cB cZ) U ∧ va_D (fun _ => True) (wd_C a cI cL cB cZ z S))) (va_Qv (fun u : mq_St => u = res.2) (fun u t => va_P D vwCl (wd_C a cI cL cB cZ z u) t.heap ∧ va_K D vwCl (mq_tys cI cL cB cZ) t ∧ va_D (va_A (wd_C a cI cL cB cZ z S) sz) (wd_C a cI cL cB cZ z u)) (va_A (wd_C a cI cL cB cZ z S) sz)) 0 0 (va_A (wd_C a cI cL cB cZ z S) sz) := by
  refine Met.ofW (cc := cX8_widen) (maxL := 3) (ret := none) (by decide) rfl ?_
  intro p e s m args below meth c s₁ B hml hv
  obtain ⟨rfl, hsz, hP, hK, hD0⟩ := hv
  have hr := B.returns
  have hlocks := B.notSynchronized
  have hts := atoms_spec (ws := zc_X8_widen :: mq_T) B.pre
  have hown : s.vm.findClass RX8 = some m.cls := findClass_of_methodNamed B.named
  subst hsz
  have hD := hD0.self (sz := s.heap.size)
  generalize hAe : va_A (wd_C a cI cL cB cZ z S) s.heap.size = A at hD ⊢
  have hA : ∀ q : Nat, s.heap.size ≤ q → A q := fun q h => by rw [← hAe]; exact Or.inr h
  have hl := lv_entry ([.ref (a 25), .int (v1), .int (v2)]) (n := 3) (Nat.le_of_ble_eq_true rfl)
  rw [lg_entry_eq]
  generalize (lg_sl ([.ref (a 25), .int (v1), .int (v2)]) ++ List.replicate (3 - (lg_sl ([.ref (a 25), .int (v1), .int (v2)])).length) Slot.unset).toArray = ls at hl ⊢
  have hl : lv_has ls 3 [(0, .ref (a 25)), (1, .int (v1)), (2, .int (v2))] := hl
  refine zw_X8_widen_0 (A := A) ⟨B.exec, B.bytes, hml, hown, hts, hK, hA⟩ (fun H locs ls pc dg hP hD hS => ?_) v1 v2 S s.heap [] ls h hl hP hD va_S.rf
  exact W.vret B.exec B.bytes hr (fun t ht hW => ⟨⟨_, rfl, rfl, by rw [ht]; exact hP, va_K.moved hW.alike hK, hD⟩, hS.F ht⟩) hS.2.2 dg
theorem zt_X8_widen_c : zc_X8_widen ∈ mq_T := mq_T_mem (mq_t4 (List.mem_of_getElem? (i := 91) rfl)) rfl
theorem zt_X8_widen_i : Cond.instanceMethod yX8_widen ∈ mq_T := mq_T_mem (mq_t4 (List.mem_of_getElem? (i := 90) rfl)) rfl
theorem zt_X8_widen_s : Cond.selects RX8 yX8_widen yX8_widen ∈ mq_T := mq_T_at 45 (by decide +kernel)
set_option maxHeartbeats 4000000 in
theorem zk_X8_widen {p : Program} {l : Launch} {e : Env} {R : Room} {s : State} {m : MethodId} {args : Array Value} {below : List Frame} {meth : Method} {c : Code} {A : Nat → Prop} {D : va_G} {a z : Nat → Nat} {cI cL cB cZ : ClassId} {Q : State → Prop} {cc : ByteArray} {nL idx pc N : Nat} {own : String} {c1 : Cond} {H : Heap} {locs : List Loc} {ls : Array Slot} {rest : List Value} {S : mq_St} {res : Unit × mq_St} {v1 : Int32} {v2 : Int32} (C : mq_C p s m args c A D cI cL cB cZ cc nL own c1) (hlk : Cond.methodLink own idx yX8_widen ∈ mq_T) (hR : zr_X8_widen.frames + 1 ≤ R.frames ∧ 8 + (3 + 11) + zr_X8_widen.locals ≤ R.locals) (h : zf_X8_widen N z v1 v2 S = some res) (hP : va_P D vwCl (wd_C a cI cL cB cZ z S) H) (hD : va_D A (wd_C a cI cL cB cZ z S)) (hS : va_S A s.heap H locs) (hls : ls.size = nL) (hrest : (rest.map fun v => v.category).sum ≤ 8) (hdg : decode cc pc = .ok (.invokevirtual idx, 3)) (kk : ∀ (H1 : Heap) (locs1 : List Loc), va_P D vwCl (wd_C a cI cL cB cZ z res.2) H1 → va_D A (wd_C a cI cL cB cZ z res.2) → va_S A s.heap H1 locs1 → W p l e R s m args below meth c H1 locs1 0 0 Q (F0 m (pc + 3) ls rest)) : W p l e R s m args below meth c H locs 0 0 Q (F0 m pc ls (.int (v2) :: .int (v1) :: .ref (a 25) :: rest)) := by
  obtain ⟨hx, hb, hml, hown, hts, hK, hA⟩ := C
  have hFc := mq_freeI hD hS hA
  refine va_callv (va_runV (As := [.int (v1), .int (v2)]) (rest := rest) ⟨hx, hb, hml, hown, hts⟩ (zm_X8_widen l D a z cI cL cB cZ H.size N v1 v2 S res h) (cwV 2 hts (mq_goodL (mq_wsV hlk zt_X8_widen_i zt_X8_widen_s zt_ini_X8 zt_X8_widen_c)) rfl rfl rfl (by decide +kernel) hR) ⟨fun a U g mk q => ⟨q.1, q.2.1, q.2.2.1, va_K.moved (u := U) (U := U.calling g mk a) (Vm.Alike.refl U.vm) q.2.2.2.1, q.2.2.2.2⟩, zy_C_25 hK hP, fun U hU hW => ⟨rfl, by rw [hU], by rw [hU]; exact hP, va_K.moved hW.alike hK, hD.weaken (fun _ _ _ _ => trivial)⟩⟩ rfl rfl hls rfl (lv_room hrest) hdg ⟨Nat.zero_le _, Nat.zero_le _⟩) hS (fun q _ h => hFc q h) hFc (fun u t H1 locs ht hvm hw hB hz1 hk1 hS => ?_)
  subst hw
  obtain ⟨hP1, hK1, hD1⟩ := hB
  rw [ht] at hP1
  exact kk H1 locs hP1 (hD1.weaken (fun _ _ _ h => hFc _ h)) hS
theorem zx_wd_C_wd_SS_39_40_35_36 (a z : Nat → Nat) (cI cL cB cZ : ClassId) (S X : mq_St) : mq_setM (wd_C a cI cL cB cZ z S) [39, 40, 35, 36] (wd_SS (mq_ad a [39, 40, 35, 36]) cI cL cB cZ (fun k => [3330, 300].getD k 0) X) = (wd_C a cI cL cB cZ z (mq_push S X [] [] [5, 3])) := rfl
theorem zs_wd_C_a_31_20 (a z : Nat → Nat) (cI cL cB cZ : ClassId) (S : mq_St) (f : Nat → Int32) : (wd_C a cI cL cB cZ z S).set 31 (a 31, .inl (cI, 400, .inl f)) = (wd_C a cI cL cB cZ z (mq_sa S 20 f)) := rfl
/-! ModalDesk$Tableau.tryFirst(I)V -/
def zr_X8_tryFirst : Room := { frames := 4, cells := 0, slots := 0, locals := 89 }
def zc_X8_tryFirst : Cond := .code yX8_tryFirst cX8_tryFirst 2 none
def zf_X8_tryFirst (N : Nat) (z : Nat → Nat) (v1 : Int32) (S : mq_St) : Option (Unit × mq_St) := (mq_cl (zf_X8_step N z S) (fun q1v S3 => (if q1v = (0 : Int32) then (some ((), S3)) else (if (S3.1 14) < (400 : Int32) then (mq_cl (zf_X8_note N z ((3 : Int32)) (v1) S3) (fun q4v S6 => (if q4v = (0 : Int32) then (some ((), S6)) else (mq_cl (zf_X6_copy N (fun k => [3330, 300].getD k 0) ((S6.1 14)) ((S6.1 16)) (mq_pull S6 [] [] [5, 3])) (fun q7v q7s => mq_nS (mq_push S6 q7s [] [] [5, 3]) (fun S9 => (mq_ck ((S9.1 14)) 400 (mq_nS (mq_sa S9 20 (upd (S9.2.1 20) ((S9.1 14)).toNatClampNeg (v1))) (fun S11 => (mq_nS (mq_si S11 14 (((S11.1 14) + (1 : Int32)))) (fun S12 => (mq_cp (zf_X7_firstOf N z (v1) S12) (fun q13 => (mq_cl (zf_X8_add N z (q13) S12) (fun q15v S17 => (some ((), S17))))))))))))))))) else (mq_nS (mq_si S3 19 ((-4 : Int32))) (fun S19 => (some ((), S19))))))))
set_option maxHeartbeats 4000000 in
set_option maxRecDepth 100000 in
theorem zw_X8_tryFirst_0 {p : Program} {l : Launch} {e : Env} {s : State} {m : MethodId} {args : Array Value} {below : List Frame} {meth : Method} {c : Code} {A : Nat → Prop} {D : va_G} {a z : Nat → Nat} {cI cL cB cZ : ClassId} {Q : State → Prop} {N : Nat} {res : Unit × mq_St} (C : mq_C p s m args c A D cI cL cB cZ cX8_tryFirst 2 RX8 zc_X8_tryFirst) (hret : ∀ (H : Heap) (locs : List Loc) (ls : Array Slot) (pc : Nat), decode cX8_tryFirst pc = .ok (.return_, 1) → va_P D vwCl (wd_C a cI cL cB cZ z res.2) H → va_D A (wd_C a cI cL cB cZ z res.2) → va_S A s.heap H locs → W p l e zr_X8_tryFirst s m args below meth c H locs 0 0 Q (F0 m pc ls [])) (v1 : Int32) (S : mq_St) (H : Heap) (locs : List Loc) (ls : Array Slot) (h : zf_X8_tryFirst N z v1 S = some res) (hl : lv_has ls 2 [(0, .ref (a 25)), (1, .int (v1))]) (hP : va_P D vwCl (wd_C a cI cL cB cZ z S) H) (hD : va_D A (wd_C a cI cL cB cZ z S)) (hS : va_S A s.heap H locs) : W p l e zr_X8_tryFirst s m args below meth c H locs 0 0 Q (F0 m 0 ls []) := by
  obtain ⟨hx, hb, hml, hown, hts, hK, hA⟩ := id C
  unfold zf_X8_tryFirst at h
  refine lv_aload_n hx hb dX8_tryFirst_0 rfl (lv_at hl 0 rfl) ?_
  obtain ⟨q1, hc2, h⟩ := mq_cl_go h
  refine zk_X8_step C zt_m_X8_182 ⟨by decide, by decide⟩ hc2 hP hD hS hl.1 (Nat.le_of_ble_eq_true rfl) dX8_tryFirst_1 (fun H locs hP hD hS => ?_)
  obtain ⟨S3, eS3⟩ : ∃ y, y = q1.2 := ⟨_, rfl⟩
  rw [← eS3] at hP hD h
  refine lv_if_ne (tgt := 8) hx hb dX8_tryFirst_4 (by decide) (fun c21 => ?_) (fun c21 => ?_)
  · replace h := mq_if c21 h
    refine lv_aload_n hx hb dX8_tryFirst_8 rfl (lv_at hl 0 rfl) ?_
    refine va_get (D := D) (ci := 8) (v := .int ((S3.1 14))) (C := RX8) (T := TX8) (N := 19) hx hb hts (zi_X8 _) hown hK hP 25 rfl rfl 13 (by decide) (hts _ (List.mem_cons_of_mem _ zt_f_X8_70)) (fun _ h9 => h9) rfl dX8_tryFirst_9 ?_
    refine lv_sipush (v := (400 : Int32)) hx hb dX8_tryFirst_12 (by decide) ?_
    refine lv_icmp_lt (tgt := 27) hx hb dX8_tryFirst_15 (by decide) (fun c20 => ?_) (fun c20 => ?_)
    · replace h := mq_it c20 h
      refine lv_aload_n hx hb dX8_tryFirst_27 rfl (lv_at hl 0 rfl) ?_
      refine lv_iconst (v := (3 : Int32)) hx hb dX8_tryFirst_28 (by decide) ?_
      refine lv_iload_n hx hb dX8_tryFirst_29 rfl (lv_at hl 1 rfl) ?_
      obtain ⟨q4, hc5, h⟩ := mq_cl_go h
      refine zk_X8_note C zt_m_X8_131 ⟨by decide, by decide⟩ hc5 hP hD hS hl.1 (Nat.le_of_ble_eq_true rfl) dX8_tryFirst_30 (fun H locs hP hD hS => ?_)
      obtain ⟨S6, eS6⟩ : ∃ y, y = q4.2 := ⟨_, rfl⟩
      rw [← eS6] at hP hD h
      refine lv_if_eq (tgt := 87) hx hb dX8_tryFirst_33 (by decide) (fun c18 => ?_) (fun c18 => ?_)
      · replace h := mq_it c18 h
        cases h
        exact hret H locs ls 87 dX8_tryFirst_87 hP hD hS
      · replace h := mq_if c18 h
        refine lv_aload_n hx hb dX8_tryFirst_36 rfl (lv_at hl 0 rfl) ?_
        refine va_get (D := D) (ci := 8) (v := .ref (a 39)) (C := RX8) (T := TX8) (N := 19) hx hb hts (zi_X8 _) hown hK hP 25 rfl rfl 10 (by decide) (hts _ (List.mem_cons_of_mem _ zt_f_X8_60)) (fun _ h9 => h9) rfl dX8_tryFirst_37 ?_
        refine lv_aload_n hx hb dX8_tryFirst_40 rfl (lv_at hl 0 rfl) ?_
        refine va_get (D := D) (ci := 8) (v := .int ((S6.1 14))) (C := RX8) (T := TX8) (N := 19) hx hb hts (zi_X8 _) hown hK hP 25 rfl rfl 13 (by decide) (hts _ (List.mem_cons_of_mem _ zt_f_X8_70)) (fun _ h9 => h9) rfl dX8_tryFirst_41 ?_
        refine lv_aload_n hx hb dX8_tryFirst_44 rfl (lv_at hl 0 rfl) ?_
        refine va_get (D := D) (ci := 8) (v := .ref (a 35)) (C := RX8) (T := TX8) (N := 19) hx hb hts (zi_X8 _) hown hK hP 25 rfl rfl 2 (by decide) (hts _ (List.mem_cons_of_mem _ zt_f_X8_20)) (fun _ h9 => h9) rfl dX8_tryFirst_45 ?_
        refine lv_aload_n hx hb dX8_tryFirst_48 rfl (lv_at hl 0 rfl) ?_
        refine va_get (D := D) (ci := 8) (v := .int ((S6.1 16))) (C := RX8) (T := TX8) (N := 19) hx hb hts (zi_X8 _) hown hK hP 25 rfl rfl 15 (by decide) (hts _ (List.mem_cons_of_mem _ zt_f_X8_160)) (fun _ h9 => h9) rfl dX8_tryFirst_49 ?_
        obtain ⟨q7, hc8, h⟩ := mq_cl_go h
        refine zv_X6_copy (a := mq_ad a [39, 40, 35, 36]) (z := (fun k => [3330, 300].getD k 0)) [39, 40, 35, 36] C zt_m_X8_188 ⟨by decide, by decide⟩ hc8 rfl (by decide) (ws' := (wd_C a cI cL cB cZ z (mq_push S6 q7.2 [] [] [5, 3]))) (zx_wd_C_wd_SS_39_40_35_36 _ _ _ _ _ _ _ _) hP hD hS hl.1 (Nat.le_of_ble_eq_true rfl) dX8_tryFirst_52 (fun H locs hP hD hS => ?_)
        obtain ⟨S9, eS9⟩ : ∃ y, y = mq_push S6 q7.2 [] [] [5, 3] := ⟨_, rfl⟩
        replace h := mq_nS_go eS9 h
        rw [← eS9] at hP hD
        refine lv_aload_n hx hb dX8_tryFirst_55 rfl (lv_at hl 0 rfl) ?_
        refine va_get (D := D) (ci := 8) (v := .ref (a 31)) (C := RX8) (T := TX8) (N := 19) hx hb hts (zi_X8 _) hown hK hP 25 rfl rfl 9 (by decide) (hts _ (List.mem_cons_of_mem _ zt_f_X8_43)) (fun _ h9 => h9) rfl dX8_tryFirst_56 ?_
        refine lv_aload_n hx hb dX8_tryFirst_59 rfl (lv_at hl 0 rfl) ?_
        refine va_get (D := D) (ci := 8) (v := .int ((S9.1 14))) (C := RX8) (T := TX8) (N := 19) hx hb hts (zi_X8 _) hown hK hP 25 rfl rfl 13 (by decide) (hts _ (List.mem_cons_of_mem _ zt_f_X8_70)) (fun _ h9 => h9) rfl dX8_tryFirst_60 ?_
        refine lv_iload_n hx hb dX8_tryFirst_63 rfl (lv_at hl 1 rfl) ?_
        have hi10 := mq_ck_in h
        replace h := mq_ck_go h
        refine mq_iast (w := wd_C a cI cL cB cZ z) (S := S9) (f := S9.2.1 20) hx hb hK hP hD hS 31 0 rfl rfl hi10 dX8_tryFirst_64 20 (zs_wd_C_a_31_20 _ _ _ _ _ _ _ _) (fun S11 eS11 H locs hP hD hS => ?_)
        replace h := mq_nS_go eS11 h
        refine lv_aload_n hx hb dX8_tryFirst_65 rfl (lv_at hl 0 rfl) ?_
        refine lv_dup hx hb dX8_tryFirst_66 rfl ?_
        refine va_get (D := D) (ci := 8) (v := .int ((S11.1 14))) (C := RX8) (T := TX8) (N := 19) hx hb hts (zi_X8 _) hown hK hP 25 rfl rfl 13 (by decide) (hts _ (List.mem_cons_of_mem _ zt_f_X8_70)) (fun _ h9 => h9) rfl dX8_tryFirst_67 ?_
        refine lv_iconst (v := (1 : Int32)) hx hb dX8_tryFirst_70 (by decide) ?_
        refine lv_iadd hx hb dX8_tryFirst_71 ?_
        refine mq_put (w := wd_C a cI cL cB cZ z) (S := S11) (D := D) (ci := 8) (v := ((S11.1 14) + (1 : Int32))) (ty := .int) (C := RX8) (T := TX8) (N := 19) hx hb hts (zi_X8 _) tyX8 tyX8_ok nmX8 hown hK hP hD hS 25 rfl rfl 13 (by decide) (hts _ (List.mem_cons_of_mem _ zt_f_X8_70)) (fun _ h9 => h9) rfl (by decide +kernel) rfl rfl (Nat.le_of_ble_eq_true rfl) dX8_tryFirst_72 14 (zs_wd_C_i_25_14 _ _ _ _ _ _ _ _) (fun S12 eS12 H locs hP hD hS => ?_)
        replace h := mq_nS_go eS12 h
        refine lv_aload_n hx hb dX8_tryFirst_75 rfl (lv_at hl 0 rfl) ?_
        refine lv_aload_n hx hb dX8_tryFirst_76 rfl (lv_at hl 0 rfl) ?_
        refine va_get (D := D) (ci := 8) (v := .ref (a 7)) (C := RX8) (T := TX8) (N := 19) hx hb hts (zi_X8 _) hown hK hP 25 rfl rfl 0 (by decide) (hts _ (List.mem_cons_of_mem _ zt_f_X8_56)) (fun _ h9 => h9) rfl dX8_tryFirst_77 ?_
        refine lv_iload_n hx hb dX8_tryFirst_80 rfl (lv_at hl 1 rfl) ?_
        obtain ⟨q13, hc14, h⟩ := mq_cp_go h
        refine zk_X7_firstOf C zt_m_X8_125 ⟨by decide, by decide⟩ hc14 hP hD hS hl.1 (Nat.le_of_ble_eq_true rfl) dX8_tryFirst_81 (fun H locs hP hD hS => ?_)
        obtain ⟨q15, hc16, h⟩ := mq_cl_go h
        refine zk_X8_add C zt_m_X8_185 ⟨by decide, by decide⟩ hc16 hP hD hS hl.1 (Nat.le_of_ble_eq_true rfl) dX8_tryFirst_84 (fun H locs hP hD hS => ?_)
        obtain ⟨S17, eS17⟩ : ∃ y, y = q15.2 := ⟨_, rfl⟩
        rw [← eS17] at hP hD h
        cases h
        exact hret H locs ls 87 dX8_tryFirst_87 hP hD hS
    · replace h := mq_if c20 h
      refine lv_aload_n hx hb dX8_tryFirst_18 rfl (lv_at hl 0 rfl) ?_
      refine lv_bipush (v := (-4 : Int32)) hx hb dX8_tryFirst_19 (by decide) ?_
      refine mq_put (w := wd_C a cI cL cB cZ z) (S := S3) (D := D) (ci := 8) (v := (-4 : Int32)) (ty := .int) (C := RX8) (T := TX8) (N := 19) hx hb hts (zi_X8 _) tyX8 tyX8_ok nmX8 hown hK hP hD hS 25 rfl rfl 18 (by decide) (hts _ (List.mem_cons_of_mem _ zt_f_X8_67)) (fun _ h9 => h9) rfl (by decide +kernel) rfl rfl (Nat.le_of_ble_eq_true rfl) dX8_tryFirst_21 19 (zs_wd_C_i_25_19 _ _ _ _ _ _ _ _) (fun S19 eS19 H locs hP hD hS => ?_)
      replace h := mq_nS_go eS19 h
      refine lv_goto (tgt := 87) hx hb dX8_tryFirst_24 (by decide) ?_
      cases h
      exact hret H locs ls 87 dX8_tryFirst_87 hP hD hS
  · replace h := mq_it (by simpa using c21) h
    cases h
    exact hret H locs ls 7 dX8_tryFirst_7 hP hD hS
set_option maxHeartbeats 4000000 in
set_option maxRecDepth 100000 in
theorem zm_X8_tryFirst (l : Launch) (D : va_G) (a z : Nat → Nat) (cI cL cB cZ : ClassId) (sz N : Nat) (v1 : Int32) (S : mq_St) (res : Unit × mq_St) (h : zf_X8_tryFirst N z v1 S = some res) : Met l yX8_tryFirst (zc_X8_tryFirst :: mq_T) zr_X8_tryFirst (va_Pc [.ref (a 25), .int (v1)] (fun U => U.heap.size = sz ∧ va_P D vwCl (wd_C a cI cL cB cZ z S) U.heap ∧ va_K D vwCl (mq_tys cI cL cB cZ) U ∧ va_D (fun _ => True) (wd_C a cI cL cB cZ z S))) (va_Qv (fun u : mq_St => u = res.2) (fun u t => va_P D vwCl (wd_C a cI cL cB cZ z u) t.heap ∧ va_K D vwCl (mq_tys cI cL cB cZ) t ∧ va_D (va_A (wd_C a cI cL cB cZ z S) sz) (wd_C a cI cL cB cZ z u)) (va_A (wd_C a cI cL cB cZ z S) sz)) 0 0 (va_A (wd_C a cI cL cB cZ z S) sz) := by
  refine Met.ofW (cc := cX8_tryFirst) (maxL := 2) (ret := none) (by decide) rfl ?_
  intro p e s m args below meth c s₁ B hml hv
  obtain ⟨rfl, hsz, hP, hK, hD0⟩ := hv
  have hr := B.returns
  have hlocks := B.notSynchronized
  have hts := atoms_spec (ws := zc_X8_tryFirst :: mq_T) B.pre
  have hown : s.vm.findClass RX8 = some m.cls := findClass_of_methodNamed B.named
  subst hsz
  have hD := hD0.self (sz := s.heap.size)
  generalize hAe : va_A (wd_C a cI cL cB cZ z S) s.heap.size = A at hD ⊢
  have hA : ∀ q : Nat, s.heap.size ≤ q → A q := fun q h => by rw [← hAe]; exact Or.inr h
  have hl := lv_entry ([.ref (a 25), .int (v1)]) (n := 2) (Nat.le_of_ble_eq_true rfl)
  rw [lg_entry_eq]
  generalize (lg_sl ([.ref (a 25), .int (v1)]) ++ List.replicate (2 - (lg_sl ([.ref (a 25), .int (v1)])).length) Slot.unset).toArray = ls at hl ⊢
  have hl : lv_has ls 2 [(0, .ref (a 25)), (1, .int (v1))] := hl
  refine zw_X8_tryFirst_0 (A := A) ⟨B.exec, B.bytes, hml, hown, hts, hK, hA⟩ (fun H locs ls pc dg hP hD hS => ?_) v1 S s.heap [] ls h hl hP hD va_S.rf
  exact W.vret B.exec B.bytes hr (fun t ht hW => ⟨⟨_, rfl, rfl, by rw [ht]; exact hP, va_K.moved hW.alike hK, hD⟩, hS.F ht⟩) hS.2.2 dg
theorem zt_X8_tryFirst_c : zc_X8_tryFirst ∈ mq_T := mq_T_mem (mq_t4 (List.mem_of_getElem? (i := 95) rfl)) rfl
theorem zt_X8_tryFirst_i : Cond.instanceMethod yX8_tryFirst ∈ mq_T := mq_T_mem (mq_t4 (List.mem_of_getElem? (i := 94) rfl)) rfl
theorem zt_X8_tryFirst_s : Cond.selects RX8 yX8_tryFirst yX8_tryFirst ∈ mq_T := mq_T_at 46 (by decide +kernel)
set_option maxHeartbeats 4000000 in
theorem zk_X8_tryFirst {p : Program} {l : Launch} {e : Env} {R : Room} {s : State} {m : MethodId} {args : Array Value} {below : List Frame} {meth : Method} {c : Code} {A : Nat → Prop} {D : va_G} {a z : Nat → Nat} {cI cL cB cZ : ClassId} {Q : State → Prop} {cc : ByteArray} {nL idx pc N : Nat} {own : String} {c1 : Cond} {H : Heap} {locs : List Loc} {ls : Array Slot} {rest : List Value} {S : mq_St} {res : Unit × mq_St} {v1 : Int32} (C : mq_C p s m args c A D cI cL cB cZ cc nL own c1) (hlk : Cond.methodLink own idx yX8_tryFirst ∈ mq_T) (hR : zr_X8_tryFirst.frames + 1 ≤ R.frames ∧ 8 + (2 + 11) + zr_X8_tryFirst.locals ≤ R.locals) (h : zf_X8_tryFirst N z v1 S = some res) (hP : va_P D vwCl (wd_C a cI cL cB cZ z S) H) (hD : va_D A (wd_C a cI cL cB cZ z S)) (hS : va_S A s.heap H locs) (hls : ls.size = nL) (hrest : (rest.map fun v => v.category).sum ≤ 8) (hdg : decode cc pc = .ok (.invokevirtual idx, 3)) (kk : ∀ (H1 : Heap) (locs1 : List Loc), va_P D vwCl (wd_C a cI cL cB cZ z res.2) H1 → va_D A (wd_C a cI cL cB cZ z res.2) → va_S A s.heap H1 locs1 → W p l e R s m args below meth c H1 locs1 0 0 Q (F0 m (pc + 3) ls rest)) : W p l e R s m args below meth c H locs 0 0 Q (F0 m pc ls (.int (v1) :: .ref (a 25) :: rest)) := by
  obtain ⟨hx, hb, hml, hown, hts, hK, hA⟩ := C
  have hFc := mq_freeI hD hS hA
  refine va_callv (va_runV (As := [.int (v1)]) (rest := rest) ⟨hx, hb, hml, hown, hts⟩ (zm_X8_tryFirst l D a z cI cL cB cZ H.size N v1 S res h) (cwV 1 hts (mq_goodL (mq_wsV hlk zt_X8_tryFirst_i zt_X8_tryFirst_s zt_ini_X8 zt_X8_tryFirst_c)) rfl rfl rfl (by decide +kernel) hR) ⟨fun a U g mk q => ⟨q.1, q.2.1, q.2.2.1, va_K.moved (u := U) (U := U.calling g mk a) (Vm.Alike.refl U.vm) q.2.2.2.1, q.2.2.2.2⟩, zy_C_25 hK hP, fun U hU hW => ⟨rfl, by rw [hU], by rw [hU]; exact hP, va_K.moved hW.alike hK, hD.weaken (fun _ _ _ _ => trivial)⟩⟩ rfl rfl hls rfl (lv_room hrest) hdg ⟨Nat.zero_le _, Nat.zero_le _⟩) hS (fun q _ h => hFc q h) hFc (fun u t H1 locs ht hvm hw hB hz1 hk1 hS => ?_)
  subst hw
  obtain ⟨hP1, hK1, hD1⟩ := hB
  rw [ht] at hP1
  exact kk H1 locs hP1 (hD1.weaken (fun _ _ _ h => hFc _ h)) hS
theorem zt_m_X8_202 : Cond.methodLink RX8 202 yX6_isSame ∈ mq_T := mq_T_mem (mq_t4 (List.mem_of_getElem? (i := 112) rfl)) rfl
/-! ModalDesk$Tableau.worldOfStart()I -/
def zr_X8_worldOfStart : Room := { frames := 2, cells := 0, slots := 0, locals := 46 }
def zc_X8_worldOfStart : Cond := .code yX8_worldOfStart cX8_worldOfStart 3 (some .int)
def zf_X8_worldOfStart_7b (N : Nat) (z : Nat → Nat) (S : mq_St) (k7 : Int32 → Int32 → Option (Int32)) (v1 : Int32) (v2 : Int32) : Option (Int32) := (if (60 : Int32) ≤ v2 then (some ((-1 : Int32))) else (if v1 < (0 : Int32) then (some ((-1 : Int32))) else (mq_cp (zf_X6_isSame N (fun k => [305].getD k 0) (v1) ((S.1 15)) (mq_pull S [] [] [2])) (fun q3 => (if q3 = (0 : Int32) then (mq_ck (v1) 60 (mq_nI ((S.2.1 16 (v1).toNatClampNeg)) (fun x6 => (mq_nI (v2 + (1 : Int32)) (fun x7 => (k7 (x6) (x7))))))) else (some (v1)))))))
def zf_X8_worldOfStart_7 (N : Nat) (z : Nat → Nat) (S : mq_St) : Nat → Int32 → Int32 → Option (Int32)
  | 0, _, _ => none
  | n + 1, v1, v2 => zf_X8_worldOfStart_7b N z S (fun v1 v2 => zf_X8_worldOfStart_7 N z S n v1 v2) v1 v2
def zf_X8_worldOfStart (N : Nat) (z : Nat → Nat) (S : mq_St) : Option (Int32) := (mq_nI ((S.1 16)) (fun x1 => (mq_nI ((0 : Int32)) (fun x2 => (zf_X8_worldOfStart_7 N z S N (x1) (x2))))))
set_option maxHeartbeats 4000000 in
set_option maxRecDepth 100000 in
theorem zw_X8_worldOfStart_7b {p : Program} {l : Launch} {e : Env} {s : State} {m : MethodId} {args : Array Value} {below : List Frame} {meth : Method} {c : Code} {A : Nat → Prop} {D : va_G} {a z : Nat → Nat} {cI cL cB cZ : ClassId} {Q : State → Prop} {N : Nat} {S : mq_St} {res : Int32} {k7 : Int32 → Int32 → Option (Int32)} (C : mq_C p s m args c A D cI cL cB cZ cX8_worldOfStart 3 RX8 zc_X8_worldOfStart) (hret : ∀ (H : Heap) (locs : List Loc) (ls : Array Slot) (pc : Nat), decode cX8_worldOfStart pc = .ok (.ireturn, 1) → va_P D vwCl (wd_C a cI cL cB cZ z S) H → va_D A (wd_C a cI cL cB cZ z S) → va_S A s.heap H locs → W p l e zr_X8_worldOfStart s m args below meth c H locs 0 0 Q (F0 m pc ls [.int res])) (hk7 : ∀ (v1 : Int32) (v2 : Int32) (H : Heap) (locs : List Loc) (ls : Array Slot), k7 v1 v2 = some res → lv_has ls 3 [(0, .ref (a 25)), (1, .int (v1)), (2, .int (v2))] → va_P D vwCl (wd_C a cI cL cB cZ z S) H → va_D A (wd_C a cI cL cB cZ z S) → va_S A s.heap H locs → W p l e zr_X8_worldOfStart s m args below meth c H locs 0 0 Q (F0 m 7 ls [])) (v1 : Int32) (v2 : Int32) (H : Heap) (locs : List Loc) (ls : Array Slot) (h : zf_X8_worldOfStart_7b N z S k7 v1 v2 = some res) (hl : lv_has ls 3 [(0, .ref (a 25)), (1, .int (v1)), (2, .int (v2))]) (hP : va_P D vwCl (wd_C a cI cL cB cZ z S) H) (hD : va_D A (wd_C a cI cL cB cZ z S)) (hS : va_S A s.heap H locs) : W p l e zr_X8_worldOfStart s m args below meth c H locs 0 0 Q (F0 m 7 ls []) := by
  obtain ⟨hx, hb, hml, hown, hts, hK, hA⟩ := id C
  unfold zf_X8_worldOfStart_7b at h
  refine lv_iload_n hx hb dX8_worldOfStart_7 rfl (lv_at hl 2 rfl) ?_
  refine lv_bipush (v := (60 : Int32)) hx hb dX8_worldOfStart_8 (by decide) ?_
  refine lv_icmp_ge (tgt := 47) hx hb dX8_worldOfStart_10 (by decide) (fun c10 => ?_) (fun c10 => ?_)
  · replace h := mq_it c10 h
    refine lv_iconst (v := (-1 : Int32)) hx hb dX8_worldOfStart_47 (by decide) ?_
    cases h
    exact hret H locs ls 48 dX8_worldOfStart_48 hP hD hS
  · replace h := mq_if c10 h
    refine lv_iload_n hx hb dX8_worldOfStart_13 rfl (lv_at hl 1 rfl) ?_
    refine lv_if_lt (tgt := 47) hx hb dX8_worldOfStart_14 (by decide) (fun c9 => ?_) (fun c9 => ?_)
    · replace h := mq_it c9 h
      refine lv_iconst (v := (-1 : Int32)) hx hb dX8_worldOfStart_47 (by decide) ?_
      cases h
      exact hret H locs ls 48 dX8_worldOfStart_48 hP hD hS
    · replace h := mq_if c9 h
      refine lv_aload_n hx hb dX8_worldOfStart_17 rfl (lv_at hl 0 rfl) ?_
      refine va_get (D := D) (ci := 8) (v := .ref (a 33)) (C := RX8) (T := TX8) (N := 19) hx hb hts (zi_X8 _) hown hK hP 25 rfl rfl 1 (by decide) (hts _ (List.mem_cons_of_mem _ zt_f_X8_14)) (fun _ h9 => h9) rfl dX8_worldOfStart_18 ?_
      refine lv_iload_n hx hb dX8_worldOfStart_21 rfl (lv_at hl 1 rfl) ?_
      refine lv_aload_n hx hb dX8_worldOfStart_22 rfl (lv_at hl 0 rfl) ?_
      refine va_get (D := D) (ci := 8) (v := .int ((S.1 15))) (C := RX8) (T := TX8) (N := 19) hx hb hts (zi_X8 _) hown hK hP 25 rfl rfl 14 (by decide) (hts _ (List.mem_cons_of_mem _ zt_f_X8_73)) (fun _ h9 => h9) rfl dX8_worldOfStart_23 ?_
      obtain ⟨q3, hc4, h⟩ := mq_cp_go h
      refine zv_X6_isSame (a := mq_ad a [33, 34]) (z := (fun k => [305].getD k 0)) [33, 34] C zt_m_X8_202 ⟨by decide, by decide⟩ hc4 rfl (by decide) hP hD hS hl.1 (Nat.le_of_ble_eq_true rfl) dX8_worldOfStart_26 (fun H locs hP hD hS => ?_)
      refine lv_if_eq (tgt := 34) hx hb dX8_worldOfStart_29 (by decide) (fun c8 => ?_) (fun c8 => ?_)
      · replace h := mq_it c8 h
        refine lv_aload_n hx hb dX8_worldOfStart_34 rfl (lv_at hl 0 rfl) ?_
        refine va_get (D := D) (ci := 8) (v := .ref (a 26)) (C := RX8) (T := TX8) (N := 19) hx hb hts (zi_X8 _) hown hK hP 25 rfl rfl 4 (by decide) (hts _ (List.mem_cons_of_mem _ zt_f_X8_26)) (fun _ h9 => h9) rfl dX8_worldOfStart_35 ?_
        refine lv_iload_n hx hb dX8_worldOfStart_38 rfl (lv_at hl 1 rfl) ?_
        have hi5 := mq_ck_in h
        replace h := mq_ck_go h
        refine va_iald (f := S.2.1 16) hx hb hK hP 26 0 rfl rfl hi5 dX8_worldOfStart_39 ?_
        refine lv_topi (fun x6 ex6 => ?_)
        replace h := mq_nI_go ex6 h
        refine lv_istore_n (lv' := [(1, .int (x6)), (0, .ref (a 25)), (2, .int (v2))]) hx hb dX8_worldOfStart_40 rfl hl (by decide) rfl (fun ls hl => ?_)
        obtain ⟨x7, ex7⟩ : ∃ y : Int32, y = v2 + (1 : Int32) := ⟨_, rfl⟩
        replace h := mq_nI_go ex7 h
        refine lv_iinc (v := x7) (lv' := [(2, .int (x7)), (1, .int (x6)), (0, .ref (a 25))]) hx hb dX8_worldOfStart_41 hl (k := 2) rfl (by rw [ex7]; rfl) (by decide) rfl (fun ls hl => ?_)
        refine lv_goto (tgt := 7) hx hb dX8_worldOfStart_44 (by decide) ?_
        exact hk7 (x6) (x7) H locs ls h (lv_sub hl [2, 1, 0] rfl) hP hD hS
      · replace h := mq_if c8 h
        refine lv_iload_n hx hb dX8_worldOfStart_32 rfl (lv_at hl 1 rfl) ?_
        cases h
        exact hret H locs ls 33 dX8_worldOfStart_33 hP hD hS
set_option maxHeartbeats 4000000 in
set_option maxRecDepth 100000 in
theorem zw_X8_worldOfStart_7 {p : Program} {l : Launch} {e : Env} {s : State} {m : MethodId} {args : Array Value} {below : List Frame} {meth : Method} {c : Code} {A : Nat → Prop} {D : va_G} {a z : Nat → Nat} {cI cL cB cZ : ClassId} {Q : State → Prop} {N : Nat} {S : mq_St} {res : Int32} (C : mq_C p s m args c A D cI cL cB cZ cX8_worldOfStart 3 RX8 zc_X8_worldOfStart) (hret : ∀ (H : Heap) (locs : List Loc) (ls : Array Slot) (pc : Nat), decode cX8_worldOfStart pc = .ok (.ireturn, 1) → va_P D vwCl (wd_C a cI cL cB cZ z S) H → va_D A (wd_C a cI cL cB cZ z S) → va_S A s.heap H locs → W p l e zr_X8_worldOfStart s m args below meth c H locs 0 0 Q (F0 m pc ls [.int res])) : ∀ (n : Nat) (v1 : Int32) (v2 : Int32) (H : Heap) (locs : List Loc) (ls : Array Slot) (h : zf_X8_worldOfStart_7 N z S n v1 v2 = some res) (hl : lv_has ls 3 [(0, .ref (a 25)), (1, .int (v1)), (2, .int (v2))]) (hP : va_P D vwCl (wd_C a cI cL cB cZ z S) H) (hD : va_D A (wd_C a cI cL cB cZ z S)) (hS : va_S A s.heap H locs), W p l e zr_X8_worldOfStart s m args below meth c H locs 0 0 Q (F0 m 7 ls []) := by
  intro n
  induction n with
  | zero =>
    intro v1 v2 H locs ls h hl hP hD hS
    exact nomatch (show (none : Option (Int32)) = some res from h)
  | succ n ih =>
    intro v1 v2 H locs ls h hl hP hD hS
    exact zw_X8_worldOfStart_7b C hret (fun v1 v2 H locs ls h hl hP hD hS => ih v1 v2 H locs ls h hl hP hD hS) v1 v2 H locs ls h hl hP hD hS
set_option maxHeartbeats 4000000 in
set_option maxRecDepth 100000 in
theorem zw_X8_worldOfStart_0 {p : Program} {l : Launch} {e : Env} {s : State} {m : MethodId} {args : Array Value} {below : List Frame} {meth : Method} {c : Code} {A : Nat → Prop} {D : va_G} {a z : Nat → Nat} {cI cL cB cZ : ClassId} {Q : State → Prop} {N : Nat} {S : mq_St} {res : Int32} (C : mq_C p s m args c A D cI cL cB cZ cX8_worldOfStart 3 RX8 zc_X8_worldOfStart) (hret : ∀ (H : Heap) (locs : List Loc) (ls : Array Slot) (pc : Nat), decode cX8_worldOfStart pc = .ok (.ireturn, 1) → va_P D vwCl (wd_C a cI cL cB cZ z S) H → va_D A (wd_C a cI cL cB cZ z S) → va_S A s.heap H locs → W p l e zr_X8_worldOfStart s m args below meth c H locs 0 0 Q (F0 m pc ls [.int res])) (H : Heap) (locs : List Loc) (ls : Array Slot) (h : zf_X8_worldOfStart N z S = some res) (hl : lv_has ls 3 [(0, .ref (a 25))]) (hP : va_P D vwCl (wd_C a cI cL cB cZ z S) H) (hD : va_D A (wd_C a cI cL cB cZ z S)) (hS : va_S A s.heap H locs) : W p l e zr_X8_worldOfStart s m args below meth c H locs 0 0 Q (F0 m 0 ls []) := by
  obtain ⟨hx, hb, hml, hown, hts, hK, hA⟩ := id C
  unfold zf_X8_worldOfStart at h
  refine lv_aload_n hx hb dX8_worldOfStart_0 rfl (lv_at hl 0 rfl) ?_
  refine va_get (D := D) (ci := 8) (v := .int ((S.1 16))) (C := RX8) (T := TX8) (N := 19) hx hb hts (zi_X8 _) hown hK hP 25 rfl rfl 15 (by decide) (hts _ (List.mem_cons_of_mem _ zt_f_X8_160)) (fun _ h9 => h9) rfl dX8_worldOfStart_1 ?_
  refine lv_topi (fun x1 ex1 => ?_)
  replace h := mq_nI_go ex1 h
  refine lv_istore_n (lv' := [(1, .int (x1)), (0, .ref (a 25))]) hx hb dX8_worldOfStart_4 rfl hl (by decide) rfl (fun ls hl => ?_)
  refine lv_iconst (v := (0 : Int32)) hx hb dX8_worldOfStart_5 (by decide) ?_
  refine lv_topi (fun x2 ex2 => ?_)
  replace h := mq_nI_go ex2 h
  refine lv_istore_n (lv' := [(2, .int (x2)), (1, .int (x1)), (0, .ref (a 25))]) hx hb dX8_worldOfStart_6 rfl hl (by decide) rfl (fun ls hl => ?_)
  exact zw_X8_worldOfStart_7 C hret N (x1) (x2) H locs ls h (lv_sub hl [2, 1, 0] rfl) hP hD hS
set_option maxHeartbeats 4000000 in
set_option maxRecDepth 100000 in
theorem zm_X8_worldOfStart (l : Launch) (D : va_G) (a z : Nat → Nat) (cI cL cB cZ : ClassId) (sz N : Nat) (S : mq_St) (res : Int32) (h : zf_X8_worldOfStart N z S = some res) : Met l yX8_worldOfStart (zc_X8_worldOfStart :: mq_T) zr_X8_worldOfStart (va_Pc [.ref (a 25)] (fun U => U.heap.size = sz ∧ va_P D vwCl (wd_C a cI cL cB cZ z S) U.heap ∧ va_K D vwCl (mq_tys cI cL cB cZ) U ∧ va_D (fun _ => True) (wd_C a cI cL cB cZ z S))) (va_Qi (fun (r : Int32) (u : mq_St) => r = res ∧ u = S) (fun u t => va_P D vwCl (wd_C a cI cL cB cZ z u) t.heap ∧ va_K D vwCl (mq_tys cI cL cB cZ) t ∧ va_D (va_A (wd_C a cI cL cB cZ z S) sz) (wd_C a cI cL cB cZ z u)) (va_A (wd_C a cI cL cB cZ z S) sz)) 0 0 (va_A (wd_C a cI cL cB cZ z S) sz) := by
  refine Met.ofW (cc := cX8_worldOfStart) (maxL := 3) (ret := (some .int)) (by decide) rfl ?_
  intro p e s m args below meth c s₁ B hml hv
  obtain ⟨rfl, hsz, hP, hK, hD0⟩ := hv
  have hr := B.returns
  have hlocks := B.notSynchronized
  have hts := atoms_spec (ws := zc_X8_worldOfStart :: mq_T) B.pre
  have hown : s.vm.findClass RX8 = some m.cls := findClass_of_methodNamed B.named
  subst hsz
  have hD := hD0.self (sz := s.heap.size)
  generalize hAe : va_A (wd_C a cI cL cB cZ z S) s.heap.size = A at hD ⊢
  have hA : ∀ q : Nat, s.heap.size ≤ q → A q := fun q h => by rw [← hAe]; exact Or.inr h
  have hl := lv_entry ([.ref (a 25)]) (n := 3) (Nat.le_of_ble_eq_true rfl)
  rw [lg_entry_eq]
  generalize (lg_sl ([.ref (a 25)]) ++ List.replicate (3 - (lg_sl ([.ref (a 25)])).length) Slot.unset).toArray = ls at hl ⊢
  have hl : lv_has ls 3 [(0, .ref (a 25))] := hl
  refine zw_X8_worldOfStart_0 (A := A) ⟨B.exec, B.bytes, hml, hown, hts, hK, hA⟩ (fun H locs ls pc dg hP hD hS => ?_) s.heap [] ls h hl hP hD va_S.rf
  exact W.iret B.exec B.bytes hr (fun t ht hW => ⟨⟨_, _, rfl, ⟨rfl, rfl⟩, by rw [ht]; exact hP, va_K.moved hW.alike hK, hD⟩, hS.F ht⟩) hS.2.2 dg
theorem zt_X8_worldOfStart_c : zc_X8_worldOfStart ∈ mq_T := mq_T_mem (mq_t4 (List.mem_of_getElem? (i := 111) rfl)) rfl
theorem zt_X8_worldOfStart_i : Cond.instanceMethod yX8_worldOfStart ∈ mq_T := mq_T_mem (mq_t4 (List.mem_of_getElem? (i := 110) rfl)) rfl
theorem zt_X8_worldOfStart_s : Cond.selects RX8 yX8_worldOfStart yX8_worldOfStart ∈ mq_T := mq_T_at 49 (by decide +kernel)
set_option maxHeartbeats 4000000 in
theorem zk_X8_worldOfStart {p : Program} {l : Launch} {e : Env} {R : Room} {s : State} {m : MethodId} {args : Array Value} {below : List Frame} {meth : Method} {c : Code} {A : Nat → Prop} {D : va_G} {a z : Nat → Nat} {cI cL cB cZ : ClassId} {Q : State → Prop} {cc : ByteArray} {nL idx pc N : Nat} {own : String} {c1 : Cond} {H : Heap} {locs : List Loc} {ls : Array Slot} {rest : List Value} {S : mq_St} {res : Int32} (C : mq_C p s m args c A D cI cL cB cZ cc nL own c1) (hlk : Cond.methodLink own idx yX8_worldOfStart ∈ mq_T) (hR : zr_X8_worldOfStart.frames + 1 ≤ R.frames ∧ 8 + (3 + 11) + zr_X8_worldOfStart.locals ≤ R.locals) (h : zf_X8_worldOfStart N z S = some res) (hP : va_P D vwCl (wd_C a cI cL cB cZ z S) H) (hD : va_D A (wd_C a cI cL cB cZ z S)) (hS : va_S A s.heap H locs) (hls : ls.size = nL) (hrest : (rest.map fun v => v.category).sum ≤ 8) (hdg : decode cc pc = .ok (.invokevirtual idx, 3)) (kk : ∀ (H1 : Heap) (locs1 : List Loc), va_P D vwCl (wd_C a cI cL cB cZ z S) H1 → va_D A (wd_C a cI cL cB cZ z S) → va_S A s.heap H1 locs1 → W p l e R s m args below meth c H1 locs1 0 0 Q (F0 m (pc + 3) ls (.int res :: rest))) : W p l e R s m args below meth c H locs 0 0 Q (F0 m pc ls (.ref (a 25) :: rest)) := by
  obtain ⟨hx, hb, hml, hown, hts, hK, hA⟩ := C
  have hFc := mq_freeI hD hS hA
  refine va_calli (va_runV (As := []) (rest := rest) ⟨hx, hb, hml, hown, hts⟩ (zm_X8_worldOfStart l D a z cI cL cB cZ H.size N S res h) (cwV 0 hts (mq_goodL (mq_wsV hlk zt_X8_worldOfStart_i zt_X8_worldOfStart_s zt_ini_X8 zt_X8_worldOfStart_c)) rfl rfl rfl (by decide +kernel) hR) ⟨fun a U g mk q => ⟨q.1, q.2.1, q.2.2.1, va_K.moved (u := U) (U := U.calling g mk a) (Vm.Alike.refl U.vm) q.2.2.2.1, q.2.2.2.2⟩, zy_C_25 hK hP, fun U hU hW => ⟨rfl, by rw [hU], by rw [hU]; exact hP, va_K.moved hW.alike hK, hD.weaken (fun _ _ _ _ => trivial)⟩⟩ rfl rfl hls rfl (lv_room hrest) hdg ⟨Nat.zero_le _, Nat.zero_le _⟩) hS (fun q _ h => hFc q h) hFc (fun r u t H1 locs ht hvm hw hB hz1 hk1 hS => ?_)
  obtain ⟨rfl, rfl⟩ := hw
  obtain ⟨hP1, hK1, hD1⟩ := hB
  rw [ht] at hP1
  exact kk H1 locs hP1 (hD1.weaken (fun _ _ _ h => hFc _ h)) hS
theorem zt_m_X8_192 : Cond.methodLink RX8 192 yX8_drawStart ∈ mq_T := mq_T_mem (mq_t4 (List.mem_of_getElem? (i := 100) rfl)) rfl
theorem zt_m_X8_195 : Cond.methodLink RX8 195 yX8_worldOfStart ∈ mq_T := mq_T_mem (mq_t4 (List.mem_of_getElem? (i := 108) rfl)) rfl
theorem zt_f_X8_36 : Cond.fieldLink RX8 36 "ModalDesk$Tableau" "linesAhead" "[I" ∈ mq_T := mq_T_mem (mq_t1 (List.mem_of_getElem? (i := 223) rfl)) rfl
theorem zt_m_X8_198 : Cond.methodLink RX8 198 yX3_size ∈ mq_T := mq_T_mem (mq_t4 (List.mem_of_getElem? (i := 116) rfl)) rfl
theorem zs_wd_C_a_29_19 (a z : Nat → Nat) (cI cL cB cZ : ClassId) (S : mq_St) (f : Nat → Int32) : (wd_C a cI cL cB cZ z S).set 29 (a 29, .inl (cI, 60, .inl f)) = (wd_C a cI cL cB cZ z (mq_sa S 19 f)) := rfl
theorem zt_m_X8_86 : Cond.methodLink RX8 86 yX8_beginWorld ∈ mq_T := mq_T_mem (mq_t4 (List.mem_of_getElem? (i := 13) rfl)) rfl
/-! ModalDesk$Tableau.lookAtMay(I)V -/
def zr_X8_lookAtMay : Room := { frames := 3, cells := 0, slots := 0, locals := 69 }
def zc_X8_lookAtMay : Cond := .code yX8_lookAtMay cX8_lookAtMay 3 none
def zf_X8_lookAtMay (N : Nat) (z : Nat → Nat) (v1 : Int32) (S : mq_St) : Option (Unit × mq_St) := (mq_cl (zf_X8_step N z S) (fun q1v S3 => (if q1v = (0 : Int32) then (some ((), S3)) else (mq_cl (zf_X6_drop N (fun k => [300].getD k 0) ((S3.1 16)) (v1) (mq_pull S3 [] [] [4])) (fun q4v q4s => mq_nS (mq_push S3 q4s [] [] [4]) (fun S6 => (mq_cp (zf_X7_firstOf N z (v1) S6) (fun q7 => (mq_cl (zf_X8_drawStart N z (q7) S6) (fun q9v S11 => (mq_cp (zf_X8_worldOfStart N z S11) (fun q12 => (mq_nI (q12) (fun x14 => (if x14 = (-1 : Int32) then (mq_cp (zf_X3_size N z (mq_pull S11 [20] [22] [])) (fun q15 => (mq_ck ((S11.1 16)) 60 (mq_nS (mq_sa S11 19 (upd (S11.2.1 19) ((S11.1 16)).toNatClampNeg (q15))) (fun S18 => (if (S18.1 15) < (60 : Int32) then (mq_cl (zf_X8_note N z ((4 : Int32)) (v1) S18) (fun q19v S21 => (if q19v = (0 : Int32) then (some ((), S21)) else (mq_ck ((S21.1 16)) 60 (mq_cl (zf_X8_beginWorld N z ((S21.1 16)) (((S21.2.1 17 ((S21.1 16)).toNatClampNeg) + (1 : Int32))) S21) (fun q23v S25 => (some ((), S25)))))))) else (mq_nS (mq_si S18 19 ((-4 : Int32))) (fun S27 => (some ((), S27)))))))))) else (mq_ck ((2 : Int32)) 4 (mq_ck ((2 : Int32)) 4 (mq_nS (mq_sa S11 21 (upd (S11.2.1 21) ((2 : Int32)).toNatClampNeg (((S11.2.1 21 ((2 : Int32)).toNatClampNeg) + (1 : Int32))))) (fun S31 => (mq_ck ((S31.1 16)) 60 (mq_ck ((S31.1 16)) 60 (mq_nS (mq_sl S31 1 (vp_updL (S31.2.2 1) ((S31.1 16)).toNatClampNeg (((S31.2.2 1 ((S31.1 16)).toNatClampNeg) ||| (mq_lshl (1 : Int64) x14))))) (fun S34 => (some ((), S34)))))))))))))))))))))))))
set_option maxHeartbeats 4000000 in
set_option maxRecDepth 100000 in
theorem zw_X8_lookAtMay_0 {p : Program} {l : Launch} {e : Env} {s : State} {m : MethodId} {args : Array Value} {below : List Frame} {meth : Method} {c : Code} {A : Nat → Prop} {D : va_G} {a z : Nat → Nat} {cI cL cB cZ : ClassId} {Q : State → Prop} {N : Nat} {res : Unit × mq_St} (C : mq_C p s m args c A D cI cL cB cZ cX8_lookAtMay 3 RX8 zc_X8_lookAtMay) (hret : ∀ (H : Heap) (locs : List Loc) (ls : Array Slot) (pc : Nat), decode cX8_lookAtMay pc = .ok (.return_, 1) → va_P D vwCl (wd_C a cI cL cB cZ z res.2) H → va_D A (wd_C a cI cL cB cZ z res.2) → va_S A s.heap H locs → W p l e zr_X8_lookAtMay s m args below meth c H locs 0 0 Q (F0 m pc ls [])) (v1 : Int32) (S : mq_St) (H : Heap) (locs : List Loc) (ls : Array Slot) (h : zf_X8_lookAtMay N z v1 S = some res) (hl : lv_has ls 3 [(0, .ref (a 25)), (1, .int (v1))]) (hP : va_P D vwCl (wd_C a cI cL cB cZ z S) H) (hD : va_D A (wd_C a cI cL cB cZ z S)) (hS : va_S A s.heap H locs) : W p l e zr_X8_lookAtMay s m args below meth c H locs 0 0 Q (F0 m 0 ls []) := by
  obtain ⟨hx, hb, hml, hown, hts, hK, hA⟩ := id C
  unfold zf_X8_lookAtMay at h
  refine lv_aload_n hx hb dX8_lookAtMay_0 rfl (lv_at hl 0 rfl) ?_
  obtain ⟨q1, hc2, h⟩ := mq_cl_go h
  refine zk_X8_step C zt_m_X8_182 ⟨by decide, by decide⟩ hc2 hP hD hS hl.1 (Nat.le_of_ble_eq_true rfl) dX8_lookAtMay_1 (fun H locs hP hD hS => ?_)
  obtain ⟨S3, eS3⟩ : ∃ y, y = q1.2 := ⟨_, rfl⟩
  rw [← eS3] at hP hD h
  refine lv_if_ne (tgt := 8) hx hb dX8_lookAtMay_4 (by decide) (fun c36 => ?_) (fun c36 => ?_)
  · replace h := mq_if c36 h
    refine lv_aload_n hx hb dX8_lookAtMay_8 rfl (lv_at hl 0 rfl) ?_
    refine va_get (D := D) (ci := 8) (v := .ref (a 37)) (C := RX8) (T := TX8) (N := 19) hx hb hts (zi_X8 _) hown hK hP 25 rfl rfl 3 (by decide) (hts _ (List.mem_cons_of_mem _ zt_f_X8_23)) (fun _ h9 => h9) rfl dX8_lookAtMay_9 ?_
    refine lv_aload_n hx hb dX8_lookAtMay_12 rfl (lv_at hl 0 rfl) ?_
    refine va_get (D := D) (ci := 8) (v := .int ((S3.1 16))) (C := RX8) (T := TX8) (N := 19) hx hb hts (zi_X8 _) hown hK hP 25 rfl rfl 15 (by decide) (hts _ (List.mem_cons_of_mem _ zt_f_X8_160)) (fun _ h9 => h9) rfl dX8_lookAtMay_13 ?_
    refine lv_iload_n hx hb dX8_lookAtMay_16 rfl (lv_at hl 1 rfl) ?_
    obtain ⟨q4, hc5, h⟩ := mq_cl_go h
    refine zv_X6_drop (a := mq_ad a [37, 38]) (z := (fun k => [300].getD k 0)) [37, 38] C zt_m_X8_176 ⟨by decide, by decide⟩ hc5 rfl (by decide) (ws' := (wd_C a cI cL cB cZ z (mq_push S3 q4.2 [] [] [4]))) (zx_wd_C_wd_S_37_38 _ _ _ _ _ _ _ _) hP hD hS hl.1 (Nat.le_of_ble_eq_true rfl) dX8_lookAtMay_17 (fun H locs hP hD hS => ?_)
    obtain ⟨S6, eS6⟩ : ∃ y, y = mq_push S3 q4.2 [] [] [4] := ⟨_, rfl⟩
    replace h := mq_nS_go eS6 h
    rw [← eS6] at hP hD
    refine lv_aload_n hx hb dX8_lookAtMay_20 rfl (lv_at hl 0 rfl) ?_
    refine lv_aload_n hx hb dX8_lookAtMay_21 rfl (lv_at hl 0 rfl) ?_
    refine va_get (D := D) (ci := 8) (v := .ref (a 7)) (C := RX8) (T := TX8) (N := 19) hx hb hts (zi_X8 _) hown hK hP 25 rfl rfl 0 (by decide) (hts _ (List.mem_cons_of_mem _ zt_f_X8_56)) (fun _ h9 => h9) rfl dX8_lookAtMay_22 ?_
    refine lv_iload_n hx hb dX8_lookAtMay_25 rfl (lv_at hl 1 rfl) ?_
    obtain ⟨q7, hc8, h⟩ := mq_cp_go h
    refine zk_X7_firstOf C zt_m_X8_125 ⟨by decide, by decide⟩ hc8 hP hD hS hl.1 (Nat.le_of_ble_eq_true rfl) dX8_lookAtMay_26 (fun H locs hP hD hS => ?_)
    obtain ⟨q9, hc10, h⟩ := mq_cl_go h
    refine zk_X8_drawStart C zt_m_X8_192 ⟨by decide, by decide⟩ hc10 hP hD hS hl.1 (Nat.le_of_ble_eq_true rfl) dX8_lookAtMay_29 (fun H locs hP hD hS => ?_)
    obtain ⟨S11, eS11⟩ : ∃ y, y = q9.2 := ⟨_, rfl⟩
    rw [← eS11] at hP hD h
    refine lv_aload_n hx hb dX8_lookAtMay_32 rfl (lv_at hl 0 rfl) ?_
    obtain ⟨q12, hc13, h⟩ := mq_cp_go h
    refine zk_X8_worldOfStart C zt_m_X8_195 ⟨by decide, by decide⟩ hc13 hP hD hS hl.1 (Nat.le_of_ble_eq_true rfl) dX8_lookAtMay_33 (fun H locs hP hD hS => ?_)
    refine lv_topi (fun x14 ex14 => ?_)
    replace h := mq_nI_go ex14 h
    refine lv_istore_n (lv' := [(2, .int (x14)), (0, .ref (a 25)), (1, .int (v1))]) hx hb dX8_lookAtMay_36 rfl hl (by decide) rfl (fun ls hl => ?_)
    refine lv_iload_n hx hb dX8_lookAtMay_37 rfl (lv_at hl 0 rfl) ?_
    refine lv_iconst (v := (-1 : Int32)) hx hb dX8_lookAtMay_38 (by decide) ?_
    refine lv_icmp_eq (tgt := 68) hx hb dX8_lookAtMay_39 (by decide) (fun c35 => ?_) (fun c35 => ?_)
    · replace h := mq_it c35 h
      refine lv_aload_n hx hb dX8_lookAtMay_68 rfl (lv_at hl 1 rfl) ?_
      refine va_get (D := D) (ci := 8) (v := .ref (a 29)) (C := RX8) (T := TX8) (N := 19) hx hb hts (zi_X8 _) hown hK hP 25 rfl rfl 7 (by decide) (hts _ (List.mem_cons_of_mem _ zt_f_X8_36)) (fun _ h9 => h9) rfl dX8_lookAtMay_69 ?_
      refine lv_aload_n hx hb dX8_lookAtMay_72 rfl (lv_at hl 1 rfl) ?_
      refine va_get (D := D) (ci := 8) (v := .int ((S11.1 16))) (C := RX8) (T := TX8) (N := 19) hx hb hts (zi_X8 _) hown hK hP 25 rfl rfl 15 (by decide) (hts _ (List.mem_cons_of_mem _ zt_f_X8_160)) (fun _ h9 => h9) rfl dX8_lookAtMay_73 ?_
      refine lv_aload_n hx hb dX8_lookAtMay_76 rfl (lv_at hl 1 rfl) ?_
      refine va_get (D := D) (ci := 8) (v := .ref (a 41)) (C := RX8) (T := TX8) (N := 19) hx hb hts (zi_X8 _) hown hK hP 25 rfl rfl 11 (by decide) (hts _ (List.mem_cons_of_mem _ zt_f_X8_49)) (fun _ h9 => h9) rfl dX8_lookAtMay_77 ?_
      obtain ⟨q15, hc16, h⟩ := mq_cp_go h
      refine zv_X3_size (a := mq_ad a [41, 42]) (z := z) [41, 42] C zt_m_X8_198 ⟨by decide, by decide⟩ hc16 rfl (by decide) hP hD hS hl.1 (Nat.le_of_ble_eq_true rfl) dX8_lookAtMay_80 (fun H locs hP hD hS => ?_)
      have hi17 := mq_ck_in h
      replace h := mq_ck_go h
      refine mq_iast (w := wd_C a cI cL cB cZ z) (S := S11) (f := S11.2.1 19) hx hb hK hP hD hS 29 0 rfl rfl hi17 dX8_lookAtMay_83 19 (zs_wd_C_a_29_19 _ _ _ _ _ _ _ _) (fun S18 eS18 H locs hP hD hS => ?_)
      replace h := mq_nS_go eS18 h
      refine lv_aload_n hx hb dX8_lookAtMay_84 rfl (lv_at hl 1 rfl) ?_
      refine va_get (D := D) (ci := 8) (v := .int ((S18.1 15))) (C := RX8) (T := TX8) (N := 19) hx hb hts (zi_X8 _) hown hK hP 25 rfl rfl 14 (by decide) (hts _ (List.mem_cons_of_mem _ zt_f_X8_73)) (fun _ h9 => h9) rfl dX8_lookAtMay_85 ?_
      refine lv_bipush (v := (60 : Int32)) hx hb dX8_lookAtMay_88 (by decide) ?_
      refine lv_icmp_lt (tgt := 102) hx hb dX8_lookAtMay_90 (by decide) (fun c28 => ?_) (fun c28 => ?_)
      · replace h := mq_it c28 h
        refine lv_aload_n hx hb dX8_lookAtMay_102 rfl (lv_at hl 1 rfl) ?_
        refine lv_iconst (v := (4 : Int32)) hx hb dX8_lookAtMay_103 (by decide) ?_
        refine lv_iload_n hx hb dX8_lookAtMay_104 rfl (lv_at hl 2 rfl) ?_
        obtain ⟨q19, hc20, h⟩ := mq_cl_go h
        refine zk_X8_note C zt_m_X8_131 ⟨by decide, by decide⟩ hc20 hP hD hS hl.1 (Nat.le_of_ble_eq_true rfl) dX8_lookAtMay_105 (fun H locs hP hD hS => ?_)
        obtain ⟨S21, eS21⟩ : ∃ y, y = q19.2 := ⟨_, rfl⟩
        rw [← eS21] at hP hD h
        refine lv_if_eq (tgt := 130) hx hb dX8_lookAtMay_108 (by decide) (fun c26 => ?_) (fun c26 => ?_)
        · replace h := mq_it c26 h
          cases h
          exact hret H locs ls 130 dX8_lookAtMay_130 hP hD hS
        · replace h := mq_if c26 h
          refine lv_aload_n hx hb dX8_lookAtMay_111 rfl (lv_at hl 1 rfl) ?_
          refine lv_aload_n hx hb dX8_lookAtMay_112 rfl (lv_at hl 1 rfl) ?_
          refine va_get (D := D) (ci := 8) (v := .int ((S21.1 16))) (C := RX8) (T := TX8) (N := 19) hx hb hts (zi_X8 _) hown hK hP 25 rfl rfl 15 (by decide) (hts _ (List.mem_cons_of_mem _ zt_f_X8_160)) (fun _ h9 => h9) rfl dX8_lookAtMay_113 ?_
          refine lv_aload_n hx hb dX8_lookAtMay_116 rfl (lv_at hl 1 rfl) ?_
          refine va_get (D := D) (ci := 8) (v := .ref (a 27)) (C := RX8) (T := TX8) (N := 19) hx hb hts (zi_X8 _) hown hK hP 25 rfl rfl 5 (by decide) (hts _ (List.mem_cons_of_mem _ zt_f_X8_30)) (fun _ h9 => h9) rfl dX8_lookAtMay_117 ?_
          refine lv_aload_n hx hb dX8_lookAtMay_120 rfl (lv_at hl 1 rfl) ?_
          refine va_get (D := D) (ci := 8) (v := .int ((S21.1 16))) (C := RX8) (T := TX8) (N := 19) hx hb hts (zi_X8 _) hown hK hP 25 rfl rfl 15 (by decide) (hts _ (List.mem_cons_of_mem _ zt_f_X8_160)) (fun _ h9 => h9) rfl dX8_lookAtMay_121 ?_
          have hi22 := mq_ck_in h
          replace h := mq_ck_go h
          refine va_iald (f := S21.2.1 17) hx hb hK hP 27 0 rfl rfl hi22 dX8_lookAtMay_124 ?_
          refine lv_iconst (v := (1 : Int32)) hx hb dX8_lookAtMay_125 (by decide) ?_
          refine lv_iadd hx hb dX8_lookAtMay_126 ?_
          obtain ⟨q23, hc24, h⟩ := mq_cl_go h
          refine zk_X8_beginWorld C zt_m_X8_86 ⟨by decide, by decide⟩ hc24 hP hD hS hl.1 (Nat.le_of_ble_eq_true rfl) dX8_lookAtMay_127 (fun H locs hP hD hS => ?_)
          obtain ⟨S25, eS25⟩ : ∃ y, y = q23.2 := ⟨_, rfl⟩
          rw [← eS25] at hP hD h
          cases h
          exact hret H locs ls 130 dX8_lookAtMay_130 hP hD hS
      · replace h := mq_if c28 h
        refine lv_aload_n hx hb dX8_lookAtMay_93 rfl (lv_at hl 1 rfl) ?_
        refine lv_bipush (v := (-4 : Int32)) hx hb dX8_lookAtMay_94 (by decide) ?_
        refine mq_put (w := wd_C a cI cL cB cZ z) (S := S18) (D := D) (ci := 8) (v := (-4 : Int32)) (ty := .int) (C := RX8) (T := TX8) (N := 19) hx hb hts (zi_X8 _) tyX8 tyX8_ok nmX8 hown hK hP hD hS 25 rfl rfl 18 (by decide) (hts _ (List.mem_cons_of_mem _ zt_f_X8_67)) (fun _ h9 => h9) rfl (by decide +kernel) rfl rfl (Nat.le_of_ble_eq_true rfl) dX8_lookAtMay_96 19 (zs_wd_C_i_25_19 _ _ _ _ _ _ _ _) (fun S27 eS27 H locs hP hD hS => ?_)
        replace h := mq_nS_go eS27 h
        refine lv_goto (tgt := 130) hx hb dX8_lookAtMay_99 (by decide) ?_
        cases h
        exact hret H locs ls 130 dX8_lookAtMay_130 hP hD hS
    · replace h := mq_if c35 h
      refine lv_aload_n hx hb dX8_lookAtMay_42 rfl (lv_at hl 1 rfl) ?_
      refine va_get (D := D) (ci := 8) (v := .ref (a 32)) (C := RX8) (T := TX8) (N := 19) hx hb hts (zi_X8 _) hown hK hP 25 rfl rfl 12 (by decide) (hts _ (List.mem_cons_of_mem _ zt_f_X8_53)) (fun _ h9 => h9) rfl dX8_lookAtMay_43 ?_
      refine lv_iconst (v := (2 : Int32)) hx hb dX8_lookAtMay_46 (by decide) ?_
      refine lv_dup2_11 hx hb dX8_lookAtMay_47 rfl rfl ?_
      have hi29 := mq_ck_in h
      replace h := mq_ck_go h
      refine va_iald (f := S11.2.1 21) hx hb hK hP 32 0 rfl rfl hi29 dX8_lookAtMay_48 ?_
      refine lv_iconst (v := (1 : Int32)) hx hb dX8_lookAtMay_49 (by decide) ?_
      refine lv_iadd hx hb dX8_lookAtMay_50 ?_
      have hi30 := mq_ck_in h
      replace h := mq_ck_go h
      refine mq_iast (w := wd_C a cI cL cB cZ z) (S := S11) (f := S11.2.1 21) hx hb hK hP hD hS 32 0 rfl rfl hi30 dX8_lookAtMay_51 21 (zs_wd_C_a_32_21 _ _ _ _ _ _ _ _) (fun S31 eS31 H locs hP hD hS => ?_)
      replace h := mq_nS_go eS31 h
      refine lv_aload_n hx hb dX8_lookAtMay_52 rfl (lv_at hl 1 rfl) ?_
      refine va_get (D := D) (ci := 8) (v := .ref (a 30)) (C := RX8) (T := TX8) (N := 19) hx hb hts (zi_X8 _) hown hK hP 25 rfl rfl 8 (by decide) (hts _ (List.mem_cons_of_mem _ zt_f_X8_39)) (fun _ h9 => h9) rfl dX8_lookAtMay_53 ?_
      refine lv_aload_n hx hb dX8_lookAtMay_56 rfl (lv_at hl 1 rfl) ?_
      refine va_get (D := D) (ci := 8) (v := .int ((S31.1 16))) (C := RX8) (T := TX8) (N := 19) hx hb hts (zi_X8 _) hown hK hP 25 rfl rfl 15 (by decide) (hts _ (List.mem_cons_of_mem _ zt_f_X8_160)) (fun _ h9 => h9) rfl dX8_lookAtMay_57 ?_
      refine lv_dup2_11 hx hb dX8_lookAtMay_60 rfl rfl ?_
      have hi32 := mq_ck_in h
      replace h := mq_ck_go h
      refine va_lald (f := S31.2.2 1) hx hb hK hP 30 1 rfl rfl hi32 dX8_lookAtMay_61 ?_
      refine lv_lconst (v := 1) hx hb dX8_lookAtMay_62 (by decide) ?_
      refine lv_iload_n hx hb dX8_lookAtMay_63 rfl (lv_at hl 0 rfl) ?_
      refine lv_lshl (v := (mq_lshl (1 : Int64) x14)) hx hb dX8_lookAtMay_64 rfl ?_
      refine lv_lor hx hb dX8_lookAtMay_65 ?_
      have hi33 := mq_ck_in h
      replace h := mq_ck_go h
      refine mq_last (w := wd_C a cI cL cB cZ z) (S := S31) (f := S31.2.2 1) hx hb hK hP hD hS 30 1 rfl rfl hi33 dX8_lookAtMay_66 1 (zs_wd_C_l_30_1 _ _ _ _ _ _ _ _) (fun S34 eS34 H locs hP hD hS => ?_)
      replace h := mq_nS_go eS34 h
      cases h
      exact hret H locs ls 67 dX8_lookAtMay_67 hP hD hS
  · replace h := mq_it (by simpa using c36) h
    cases h
    exact hret H locs ls 7 dX8_lookAtMay_7 hP hD hS
set_option maxHeartbeats 4000000 in
set_option maxRecDepth 100000 in
theorem zm_X8_lookAtMay (l : Launch) (D : va_G) (a z : Nat → Nat) (cI cL cB cZ : ClassId) (sz N : Nat) (v1 : Int32) (S : mq_St) (res : Unit × mq_St) (h : zf_X8_lookAtMay N z v1 S = some res) : Met l yX8_lookAtMay (zc_X8_lookAtMay :: mq_T) zr_X8_lookAtMay (va_Pc [.ref (a 25), .int (v1)] (fun U => U.heap.size = sz ∧ va_P D vwCl (wd_C a cI cL cB cZ z S) U.heap ∧ va_K D vwCl (mq_tys cI cL cB cZ) U ∧ va_D (fun _ => True) (wd_C a cI cL cB cZ z S))) (va_Qv (fun u : mq_St => u = res.2) (fun u t => va_P D vwCl (wd_C a cI cL cB cZ z u) t.heap ∧ va_K D vwCl (mq_tys cI cL cB cZ) t ∧ va_D (va_A (wd_C a cI cL cB cZ z S) sz) (wd_C a cI cL cB cZ z u)) (va_A (wd_C a cI cL cB cZ z S) sz)) 0 0 (va_A (wd_C a cI cL cB cZ z S) sz) := by
  refine Met.ofW (cc := cX8_lookAtMay) (maxL := 3) (ret := none) (by decide) rfl ?_
  intro p e s m args below meth c s₁ B hml hv
  obtain ⟨rfl, hsz, hP, hK, hD0⟩ := hv
  have hr := B.returns
  have hlocks := B.notSynchronized
  have hts := atoms_spec (ws := zc_X8_lookAtMay :: mq_T) B.pre
  have hown : s.vm.findClass RX8 = some m.cls := findClass_of_methodNamed B.named
  subst hsz
  have hD := hD0.self (sz := s.heap.size)
  generalize hAe : va_A (wd_C a cI cL cB cZ z S) s.heap.size = A at hD ⊢
  have hA : ∀ q : Nat, s.heap.size ≤ q → A q := fun q h => by rw [← hAe]; exact Or.inr h
  have hl := lv_entry ([.ref (a 25), .int (v1)]) (n := 3) (Nat.le_of_ble_eq_true rfl)
  rw [lg_entry_eq]
  generalize (lg_sl ([.ref (a 25), .int (v1)]) ++ List.replicate (3 - (lg_sl ([.ref (a 25), .int (v1)])).length) Slot.unset).toArray = ls at hl ⊢
  have hl : lv_has ls 3 [(0, .ref (a 25)), (1, .int (v1))] := hl
  refine zw_X8_lookAtMay_0 (A := A) ⟨B.exec, B.bytes, hml, hown, hts, hK, hA⟩ (fun H locs ls pc dg hP hD hS => ?_) v1 S s.heap [] ls h hl hP hD va_S.rf
  exact W.vret B.exec B.bytes hr (fun t ht hW => ⟨⟨_, rfl, rfl, by rw [ht]; exact hP, va_K.moved hW.alike hK, hD⟩, hS.F ht⟩) hS.2.2 dg
theorem zt_X8_lookAtMay_c : zc_X8_lookAtMay ∈ mq_T := mq_T_mem (mq_t4 (List.mem_of_getElem? (i := 99) rfl)) rfl
theorem zt_X8_lookAtMay_i : Cond.instanceMethod yX8_lookAtMay ∈ mq_T := mq_T_mem (mq_t4 (List.mem_of_getElem? (i := 98) rfl)) rfl
theorem zt_X8_lookAtMay_s : Cond.selects RX8 yX8_lookAtMay yX8_lookAtMay ∈ mq_T := mq_T_at 47 (by decide +kernel)
set_option maxHeartbeats 4000000 in
theorem zk_X8_lookAtMay {p : Program} {l : Launch} {e : Env} {R : Room} {s : State} {m : MethodId} {args : Array Value} {below : List Frame} {meth : Method} {c : Code} {A : Nat → Prop} {D : va_G} {a z : Nat → Nat} {cI cL cB cZ : ClassId} {Q : State → Prop} {cc : ByteArray} {nL idx pc N : Nat} {own : String} {c1 : Cond} {H : Heap} {locs : List Loc} {ls : Array Slot} {rest : List Value} {S : mq_St} {res : Unit × mq_St} {v1 : Int32} (C : mq_C p s m args c A D cI cL cB cZ cc nL own c1) (hlk : Cond.methodLink own idx yX8_lookAtMay ∈ mq_T) (hR : zr_X8_lookAtMay.frames + 1 ≤ R.frames ∧ 8 + (3 + 11) + zr_X8_lookAtMay.locals ≤ R.locals) (h : zf_X8_lookAtMay N z v1 S = some res) (hP : va_P D vwCl (wd_C a cI cL cB cZ z S) H) (hD : va_D A (wd_C a cI cL cB cZ z S)) (hS : va_S A s.heap H locs) (hls : ls.size = nL) (hrest : (rest.map fun v => v.category).sum ≤ 8) (hdg : decode cc pc = .ok (.invokevirtual idx, 3)) (kk : ∀ (H1 : Heap) (locs1 : List Loc), va_P D vwCl (wd_C a cI cL cB cZ z res.2) H1 → va_D A (wd_C a cI cL cB cZ z res.2) → va_S A s.heap H1 locs1 → W p l e R s m args below meth c H1 locs1 0 0 Q (F0 m (pc + 3) ls rest)) : W p l e R s m args below meth c H locs 0 0 Q (F0 m pc ls (.int (v1) :: .ref (a 25) :: rest)) := by
  obtain ⟨hx, hb, hml, hown, hts, hK, hA⟩ := C
  have hFc := mq_freeI hD hS hA
  refine va_callv (va_runV (As := [.int (v1)]) (rest := rest) ⟨hx, hb, hml, hown, hts⟩ (zm_X8_lookAtMay l D a z cI cL cB cZ H.size N v1 S res h) (cwV 1 hts (mq_goodL (mq_wsV hlk zt_X8_lookAtMay_i zt_X8_lookAtMay_s zt_ini_X8 zt_X8_lookAtMay_c)) rfl rfl rfl (by decide +kernel) hR) ⟨fun a U g mk q => ⟨q.1, q.2.1, q.2.2.1, va_K.moved (u := U) (U := U.calling g mk a) (Vm.Alike.refl U.vm) q.2.2.2.1, q.2.2.2.2⟩, zy_C_25 hK hP, fun U hU hW => ⟨rfl, by rw [hU], by rw [hU]; exact hP, va_K.moved hW.alike hK, hD.weaken (fun _ _ _ _ => trivial)⟩⟩ rfl rfl hls rfl (lv_room hrest) hdg ⟨Nat.zero_le _, Nat.zero_le _⟩) hS (fun q _ h => hFc q h) hFc (fun u t H1 locs ht hvm hw hB hz1 hk1 hS => ?_)
  subst hw
  obtain ⟨hP1, hK1, hD1⟩ := hB
  rw [ht] at hP1
  exact kk H1 locs hP1 (hD1.weaken (fun _ _ _ h => hFc _ h)) hS
theorem zt_m_X8_76 : Cond.methodLink RX8 76 yX3_shorten ∈ mq_T := mq_T_mem (mq_t4 (List.mem_of_getElem? (i := 4) rfl)) rfl
/-! ModalDesk$Tableau.openWorld()V -/
def zr_X8_openWorld : Room := { frames := 1, cells := 0, slots := 0, locals := 21 }
def zc_X8_openWorld : Cond := .code yX8_openWorld cX8_openWorld 2 none
def zf_X8_openWorld (N : Nat) (z : Nat → Nat) (S : mq_St) : Option (Unit × mq_St) := (mq_ck ((S.1 16)) 60 (mq_nS (mq_si S 14 ((S.2.1 18 ((S.1 16)).toNatClampNeg))) (fun S2 => (mq_ck ((S2.1 16)) 60 (mq_nI ((S2.2.1 16 ((S2.1 16)).toNatClampNeg)) (fun x4 => (if x4 = (-1 : Int32) then (mq_nS (mq_si S2 19 ((0 : Int32))) (fun S13 => (some ((), S13)))) else (mq_ck (x4) 60 (mq_cl (zf_X3_shorten N z ((S2.2.1 19 (x4).toNatClampNeg)) (mq_pull S2 [20] [22] [])) (fun q6v q6s => mq_nS (mq_push S2 q6s [20] [22] []) (fun S8 => (mq_ck (x4) 60 (mq_ck (x4) 60 (mq_nS (mq_sl S8 1 (vp_updL (S8.2.2 1) (x4).toNatClampNeg (((S8.2.2 1 (x4).toNatClampNeg) ||| (mq_lshl (1 : Int64) (S8.1 16)))))) (fun S11 => (mq_nS (mq_si S11 16 (x4)) (fun S12 => (some ((), S12)))))))))))))))))))
set_option maxHeartbeats 4000000 in
set_option maxRecDepth 100000 in
theorem zw_X8_openWorld_0 {p : Program} {l : Launch} {e : Env} {s : State} {m : MethodId} {args : Array Value} {below : List Frame} {meth : Method} {c : Code} {A : Nat → Prop} {D : va_G} {a z : Nat → Nat} {cI cL cB cZ : ClassId} {Q : State → Prop} {N : Nat} {res : Unit × mq_St} (C : mq_C p s m args c A D cI cL cB cZ cX8_openWorld 2 RX8 zc_X8_openWorld) (hret : ∀ (H : Heap) (locs : List Loc) (ls : Array Slot) (pc : Nat), decode cX8_openWorld pc = .ok (.return_, 1) → va_P D vwCl (wd_C a cI cL cB cZ z res.2) H → va_D A (wd_C a cI cL cB cZ z res.2) → va_S A s.heap H locs → W p l e zr_X8_openWorld s m args below meth c H locs 0 0 Q (F0 m pc ls [])) (S : mq_St) (H : Heap) (locs : List Loc) (ls : Array Slot) (h : zf_X8_openWorld N z S = some res) (hl : lv_has ls 2 [(0, .ref (a 25))]) (hP : va_P D vwCl (wd_C a cI cL cB cZ z S) H) (hD : va_D A (wd_C a cI cL cB cZ z S)) (hS : va_S A s.heap H locs) : W p l e zr_X8_openWorld s m args below meth c H locs 0 0 Q (F0 m 0 ls []) := by
  obtain ⟨hx, hb, hml, hown, hts, hK, hA⟩ := id C
  unfold zf_X8_openWorld at h
  refine lv_aload_n hx hb dX8_openWorld_0 rfl (lv_at hl 0 rfl) ?_
  refine lv_aload_n hx hb dX8_openWorld_1 rfl (lv_at hl 0 rfl) ?_
  refine va_get (D := D) (ci := 8) (v := .ref (a 28)) (C := RX8) (T := TX8) (N := 19) hx hb hts (zi_X8 _) hown hK hP 25 rfl rfl 6 (by decide) (hts _ (List.mem_cons_of_mem _ zt_f_X8_33)) (fun _ h9 => h9) rfl dX8_openWorld_2 ?_
  refine lv_aload_n hx hb dX8_openWorld_5 rfl (lv_at hl 0 rfl) ?_
  refine va_get (D := D) (ci := 8) (v := .int ((S.1 16))) (C := RX8) (T := TX8) (N := 19) hx hb hts (zi_X8 _) hown hK hP 25 rfl rfl 15 (by decide) (hts _ (List.mem_cons_of_mem _ zt_f_X8_160)) (fun _ h9 => h9) rfl dX8_openWorld_6 ?_
  have hi1 := mq_ck_in h
  replace h := mq_ck_go h
  refine va_iald (f := S.2.1 18) hx hb hK hP 28 0 rfl rfl hi1 dX8_openWorld_9 ?_
  refine mq_put (w := wd_C a cI cL cB cZ z) (S := S) (D := D) (ci := 8) (v := (S.2.1 18 ((S.1 16)).toNatClampNeg)) (ty := .int) (C := RX8) (T := TX8) (N := 19) hx hb hts (zi_X8 _) tyX8 tyX8_ok nmX8 hown hK hP hD hS 25 rfl rfl 13 (by decide) (hts _ (List.mem_cons_of_mem _ zt_f_X8_70)) (fun _ h9 => h9) rfl (by decide +kernel) rfl rfl (Nat.le_of_ble_eq_true rfl) dX8_openWorld_10 14 (zs_wd_C_i_25_14 _ _ _ _ _ _ _ _) (fun S2 eS2 H locs hP hD hS => ?_)
  replace h := mq_nS_go eS2 h
  refine lv_aload_n hx hb dX8_openWorld_13 rfl (lv_at hl 0 rfl) ?_
  refine va_get (D := D) (ci := 8) (v := .ref (a 26)) (C := RX8) (T := TX8) (N := 19) hx hb hts (zi_X8 _) hown hK hP 25 rfl rfl 4 (by decide) (hts _ (List.mem_cons_of_mem _ zt_f_X8_26)) (fun _ h9 => h9) rfl dX8_openWorld_14 ?_
  refine lv_aload_n hx hb dX8_openWorld_17 rfl (lv_at hl 0 rfl) ?_
  refine va_get (D := D) (ci := 8) (v := .int ((S2.1 16))) (C := RX8) (T := TX8) (N := 19) hx hb hts (zi_X8 _) hown hK hP 25 rfl rfl 15 (by decide) (hts _ (List.mem_cons_of_mem _ zt_f_X8_160)) (fun _ h9 => h9) rfl dX8_openWorld_18 ?_
  have hi3 := mq_ck_in h
  replace h := mq_ck_go h
  refine va_iald (f := S2.2.1 16) hx hb hK hP 26 0 rfl rfl hi3 dX8_openWorld_21 ?_
  refine lv_topi (fun x4 ex4 => ?_)
  replace h := mq_nI_go ex4 h
  refine lv_istore_n (lv' := [(1, .int (x4)), (0, .ref (a 25))]) hx hb dX8_openWorld_22 rfl hl (by decide) rfl (fun ls hl => ?_)
  refine lv_iload_n hx hb dX8_openWorld_23 rfl (lv_at hl 0 rfl) ?_
  refine lv_iconst (v := (-1 : Int32)) hx hb dX8_openWorld_24 (by decide) ?_
  refine lv_icmp_ne (tgt := 34) hx hb dX8_openWorld_25 (by decide) (fun c14 => ?_) (fun c14 => ?_)
  · replace h := mq_if c14 h
    refine lv_aload_n hx hb dX8_openWorld_34 rfl (lv_at hl 1 rfl) ?_
    refine va_get (D := D) (ci := 8) (v := .ref (a 41)) (C := RX8) (T := TX8) (N := 19) hx hb hts (zi_X8 _) hown hK hP 25 rfl rfl 11 (by decide) (hts _ (List.mem_cons_of_mem _ zt_f_X8_49)) (fun _ h9 => h9) rfl dX8_openWorld_35 ?_
    refine lv_aload_n hx hb dX8_openWorld_38 rfl (lv_at hl 1 rfl) ?_
    refine va_get (D := D) (ci := 8) (v := .ref (a 29)) (C := RX8) (T := TX8) (N := 19) hx hb hts (zi_X8 _) hown hK hP 25 rfl rfl 7 (by decide) (hts _ (List.mem_cons_of_mem _ zt_f_X8_36)) (fun _ h9 => h9) rfl dX8_openWorld_39 ?_
    refine lv_iload_n hx hb dX8_openWorld_42 rfl (lv_at hl 0 rfl) ?_
    have hi5 := mq_ck_in h
    replace h := mq_ck_go h
    refine va_iald (f := S2.2.1 19) hx hb hK hP 29 0 rfl rfl hi5 dX8_openWorld_43 ?_
    obtain ⟨q6, hc7, h⟩ := mq_cl_go h
    refine zv_X3_shorten (a := mq_ad a [41, 42]) (z := z) [41, 42] C zt_m_X8_76 ⟨by decide, by decide⟩ hc7 rfl (by decide) (ws' := (wd_C a cI cL cB cZ z (mq_push S2 q6.2 [20] [22] []))) (zx_wd_C_wd_L_41_42 _ _ _ _ _ _ _ _) hP hD hS hl.1 (Nat.le_of_ble_eq_true rfl) dX8_openWorld_44 (fun H locs hP hD hS => ?_)
    obtain ⟨S8, eS8⟩ : ∃ y, y = mq_push S2 q6.2 [20] [22] [] := ⟨_, rfl⟩
    replace h := mq_nS_go eS8 h
    rw [← eS8] at hP hD
    refine lv_aload_n hx hb dX8_openWorld_47 rfl (lv_at hl 1 rfl) ?_
    refine va_get (D := D) (ci := 8) (v := .ref (a 30)) (C := RX8) (T := TX8) (N := 19) hx hb hts (zi_X8 _) hown hK hP 25 rfl rfl 8 (by decide) (hts _ (List.mem_cons_of_mem _ zt_f_X8_39)) (fun _ h9 => h9) rfl dX8_openWorld_48 ?_
    refine lv_iload_n hx hb dX8_openWorld_51 rfl (lv_at hl 0 rfl) ?_
    refine lv_dup2_11 hx hb dX8_openWorld_52 rfl rfl ?_
    have hi9 := mq_ck_in h
    replace h := mq_ck_go h
    refine va_lald (f := S8.2.2 1) hx hb hK hP 30 1 rfl rfl hi9 dX8_openWorld_53 ?_
    refine lv_lconst (v := 1) hx hb dX8_openWorld_54 (by decide) ?_
    refine lv_aload_n hx hb dX8_openWorld_55 rfl (lv_at hl 1 rfl) ?_
    refine va_get (D := D) (ci := 8) (v := .int ((S8.1 16))) (C := RX8) (T := TX8) (N := 19) hx hb hts (zi_X8 _) hown hK hP 25 rfl rfl 15 (by decide) (hts _ (List.mem_cons_of_mem _ zt_f_X8_160)) (fun _ h9 => h9) rfl dX8_openWorld_56 ?_
    refine lv_lshl (v := (mq_lshl (1 : Int64) (S8.1 16))) hx hb dX8_openWorld_59 rfl ?_
    refine lv_lor hx hb dX8_openWorld_60 ?_
    have hi10 := mq_ck_in h
    replace h := mq_ck_go h
    refine mq_last (w := wd_C a cI cL cB cZ z) (S := S8) (f := S8.2.2 1) hx hb hK hP hD hS 30 1 rfl rfl hi10 dX8_openWorld_61 1 (zs_wd_C_l_30_1 _ _ _ _ _ _ _ _) (fun S11 eS11 H locs hP hD hS => ?_)
    replace h := mq_nS_go eS11 h
    refine lv_aload_n hx hb dX8_openWorld_62 rfl (lv_at hl 1 rfl) ?_
    refine lv_iload_n hx hb dX8_openWorld_63 rfl (lv_at hl 0 rfl) ?_
    refine mq_put (w := wd_C a cI cL cB cZ z) (S := S11) (D := D) (ci := 8) (v := x4) (ty := .int) (C := RX8) (T := TX8) (N := 19) hx hb hts (zi_X8 _) tyX8 tyX8_ok nmX8 hown hK hP hD hS 25 rfl rfl 15 (by decide) (hts _ (List.mem_cons_of_mem _ zt_f_X8_160)) (fun _ h9 => h9) rfl (by decide +kernel) rfl rfl (Nat.le_of_ble_eq_true rfl) dX8_openWorld_64 16 (zs_wd_C_i_25_16 _ _ _ _ _ _ _ _) (fun S12 eS12 H locs hP hD hS => ?_)
    replace h := mq_nS_go eS12 h
    cases h
    exact hret H locs ls 67 dX8_openWorld_67 hP hD hS
  · replace h := mq_it (by simpa using c14) h
    refine lv_aload_n hx hb dX8_openWorld_28 rfl (lv_at hl 1 rfl) ?_
    refine lv_iconst (v := (0 : Int32)) hx hb dX8_openWorld_29 (by decide) ?_
    refine mq_put (w := wd_C a cI cL cB cZ z) (S := S2) (D := D) (ci := 8) (v := (0 : Int32)) (ty := .int) (C := RX8) (T := TX8) (N := 19) hx hb hts (zi_X8 _) tyX8 tyX8_ok nmX8 hown hK hP hD hS 25 rfl rfl 18 (by decide) (hts _ (List.mem_cons_of_mem _ zt_f_X8_67)) (fun _ h9 => h9) rfl (by decide +kernel) rfl rfl (Nat.le_of_ble_eq_true rfl) dX8_openWorld_30 19 (zs_wd_C_i_25_19 _ _ _ _ _ _ _ _) (fun S13 eS13 H locs hP hD hS => ?_)
    replace h := mq_nS_go eS13 h
    cases h
    exact hret H locs ls 33 dX8_openWorld_33 hP hD hS
set_option maxHeartbeats 4000000 in
set_option maxRecDepth 100000 in
theorem zm_X8_openWorld (l : Launch) (D : va_G) (a z : Nat → Nat) (cI cL cB cZ : ClassId) (sz N : Nat) (S : mq_St) (res : Unit × mq_St) (h : zf_X8_openWorld N z S = some res) : Met l yX8_openWorld (zc_X8_openWorld :: mq_T) zr_X8_openWorld (va_Pc [.ref (a 25)] (fun U => U.heap.size = sz ∧ va_P D vwCl (wd_C a cI cL cB cZ z S) U.heap ∧ va_K D vwCl (mq_tys cI cL cB cZ) U ∧ va_D (fun _ => True) (wd_C a cI cL cB cZ z S))) (va_Qv (fun u : mq_St => u = res.2) (fun u t => va_P D vwCl (wd_C a cI cL cB cZ z u) t.heap ∧ va_K D vwCl (mq_tys cI cL cB cZ) t ∧ va_D (va_A (wd_C a cI cL cB cZ z S) sz) (wd_C a cI cL cB cZ z u)) (va_A (wd_C a cI cL cB cZ z S) sz)) 0 0 (va_A (wd_C a cI cL cB cZ z S) sz) := by
  refine Met.ofW (cc := cX8_openWorld) (maxL := 2) (ret := none) (by decide) rfl ?_
  intro p e s m args below meth c s₁ B hml hv
  obtain ⟨rfl, hsz, hP, hK, hD0⟩ := hv
  have hr := B.returns
  have hlocks := B.notSynchronized
  have hts := atoms_spec (ws := zc_X8_openWorld :: mq_T) B.pre
  have hown : s.vm.findClass RX8 = some m.cls := findClass_of_methodNamed B.named
  subst hsz
  have hD := hD0.self (sz := s.heap.size)
  generalize hAe : va_A (wd_C a cI cL cB cZ z S) s.heap.size = A at hD ⊢
  have hA : ∀ q : Nat, s.heap.size ≤ q → A q := fun q h => by rw [← hAe]; exact Or.inr h
  have hl := lv_entry ([.ref (a 25)]) (n := 2) (Nat.le_of_ble_eq_true rfl)
  rw [lg_entry_eq]
  generalize (lg_sl ([.ref (a 25)]) ++ List.replicate (2 - (lg_sl ([.ref (a 25)])).length) Slot.unset).toArray = ls at hl ⊢
  have hl : lv_has ls 2 [(0, .ref (a 25))] := hl
  refine zw_X8_openWorld_0 (A := A) ⟨B.exec, B.bytes, hml, hown, hts, hK, hA⟩ (fun H locs ls pc dg hP hD hS => ?_) S s.heap [] ls h hl hP hD va_S.rf
  exact W.vret B.exec B.bytes hr (fun t ht hW => ⟨⟨_, rfl, rfl, by rw [ht]; exact hP, va_K.moved hW.alike hK, hD⟩, hS.F ht⟩) hS.2.2 dg
theorem zt_X8_openWorld_c : zc_X8_openWorld ∈ mq_T := mq_T_mem (mq_t4 (List.mem_of_getElem? (i := 123) rfl)) rfl
theorem zt_X8_openWorld_i : Cond.instanceMethod yX8_openWorld ∈ mq_T := mq_T_mem (mq_t4 (List.mem_of_getElem? (i := 122) rfl)) rfl
theorem zt_X8_openWorld_s : Cond.selects RX8 yX8_openWorld yX8_openWorld ∈ mq_T := mq_T_at 50 (by decide +kernel)
set_option maxHeartbeats 4000000 in
theorem zk_X8_openWorld {p : Program} {l : Launch} {e : Env} {R : Room} {s : State} {m : MethodId} {args : Array Value} {below : List Frame} {meth : Method} {c : Code} {A : Nat → Prop} {D : va_G} {a z : Nat → Nat} {cI cL cB cZ : ClassId} {Q : State → Prop} {cc : ByteArray} {nL idx pc N : Nat} {own : String} {c1 : Cond} {H : Heap} {locs : List Loc} {ls : Array Slot} {rest : List Value} {S : mq_St} {res : Unit × mq_St} (C : mq_C p s m args c A D cI cL cB cZ cc nL own c1) (hlk : Cond.methodLink own idx yX8_openWorld ∈ mq_T) (hR : zr_X8_openWorld.frames + 1 ≤ R.frames ∧ 8 + (2 + 11) + zr_X8_openWorld.locals ≤ R.locals) (h : zf_X8_openWorld N z S = some res) (hP : va_P D vwCl (wd_C a cI cL cB cZ z S) H) (hD : va_D A (wd_C a cI cL cB cZ z S)) (hS : va_S A s.heap H locs) (hls : ls.size = nL) (hrest : (rest.map fun v => v.category).sum ≤ 8) (hdg : decode cc pc = .ok (.invokevirtual idx, 3)) (kk : ∀ (H1 : Heap) (locs1 : List Loc), va_P D vwCl (wd_C a cI cL cB cZ z res.2) H1 → va_D A (wd_C a cI cL cB cZ z res.2) → va_S A s.heap H1 locs1 → W p l e R s m args below meth c H1 locs1 0 0 Q (F0 m (pc + 3) ls rest)) : W p l e R s m args below meth c H locs 0 0 Q (F0 m pc ls (.ref (a 25) :: rest)) := by
  obtain ⟨hx, hb, hml, hown, hts, hK, hA⟩ := C
  have hFc := mq_freeI hD hS hA
  refine va_callv (va_runV (As := []) (rest := rest) ⟨hx, hb, hml, hown, hts⟩ (zm_X8_openWorld l D a z cI cL cB cZ H.size N S res h) (cwV 0 hts (mq_goodL (mq_wsV hlk zt_X8_openWorld_i zt_X8_openWorld_s zt_ini_X8 zt_X8_openWorld_c)) rfl rfl rfl (by decide +kernel) hR) ⟨fun a U g mk q => ⟨q.1, q.2.1, q.2.2.1, va_K.moved (u := U) (U := U.calling g mk a) (Vm.Alike.refl U.vm) q.2.2.2.1, q.2.2.2.2⟩, zy_C_25 hK hP, fun U hU hW => ⟨rfl, by rw [hU], by rw [hU]; exact hP, va_K.moved hW.alike hK, hD.weaken (fun _ _ _ _ => trivial)⟩⟩ rfl rfl hls rfl (lv_room hrest) hdg ⟨Nat.zero_le _, Nat.zero_le _⟩) hS (fun q _ h => hFc q h) hFc (fun u t H1 locs ht hvm hw hB hz1 hk1 hS => ?_)
  subst hw
  obtain ⟨hP1, hK1, hD1⟩ := hB
  rw [ht] at hP1
  exact kk H1 locs hP1 (hD1.weaken (fun _ _ _ h => hFc _ h)) hS
theorem zt_m_X8_141 : Cond.methodLink RX8 141 yX8_leastToDo ∈ mq_T := mq_T_mem (mq_t4 (List.mem_of_getElem? (i := 63) rfl)) rfl
theorem zt_m_X8_153 : Cond.methodLink RX8 153 yX8_openWorld ∈ mq_T := mq_T_mem (mq_t4 (List.mem_of_getElem? (i := 120) rfl)) rfl
theorem zt_m_X8_150 : Cond.methodLink RX8 150 yX8_lookAtMay ∈ mq_T := mq_T_mem (mq_t4 (List.mem_of_getElem? (i := 96) rfl)) rfl
theorem zt_m_X8_147 : Cond.methodLink RX8 147 yX8_tryFirst ∈ mq_T := mq_T_mem (mq_t4 (List.mem_of_getElem? (i := 92) rfl)) rfl
theorem zt_m_X8_144 : Cond.methodLink RX8 144 yX8_widen ∈ mq_T := mq_T_mem (mq_t4 (List.mem_of_getElem? (i := 88) rfl)) rfl
theorem zt_m_X8_134 : Cond.methodLink RX8 134 yX8_goBack ∈ mq_T := mq_T_mem (mq_t4 (List.mem_of_getElem? (i := 39) rfl)) rfl
theorem zt_m_X8_138 : Cond.methodLink RX8 138 yX8_trySecond ∈ mq_T := mq_T_mem (mq_t4 (List.mem_of_getElem? (i := 43) rfl)) rfl
/-! ModalDesk$Tableau.goOn()V -/
def zr_X8_goOn : Room := { frames := 5, cells := 0, slots := 0, locals := 111 }
def zc_X8_goOn : Cond := .code yX8_goOn cX8_goOn 5 none
def zf_X8_goOn (N : Nat) (z : Nat → Nat) (S : mq_St) : Option (Unit × mq_St) := (if (S.1 17) = (-1 : Int32) then (mq_cl (zf_X8_leastToDo N z ((4 : Int32)) S) (fun q1v S3 => (mq_nI (q1v) (fun x4 => (if x4 = (-1 : Int32) then (mq_cl (zf_X8_leastToDo N z ((6 : Int32)) S3) (fun q5v S7 => (mq_nI (q5v) (fun x8 => (if x8 = (-1 : Int32) then (mq_cl (zf_X8_leastToDo N z ((5 : Int32)) S7) (fun q9v S11 => (mq_nI (q9v) (fun x12 => (if x12 = (-1 : Int32) then (mq_cl (zf_X8_leastToDo N z ((7 : Int32)) S11) (fun q13v S15 => (mq_nI (q13v) (fun x16 => (if x16 = (-1 : Int32) then (mq_cl (zf_X8_openWorld N z S15) (fun q17v S19 => (some ((), S19)))) else (mq_cl (zf_X8_lookAtMay N z (x16) S15) (fun q20v S22 => (some ((), S22))))))))) else (mq_cl (zf_X8_tryFirst N z (x12) S11) (fun q24v S26 => (some ((), S26))))))))) else (mq_cl (zf_X8_widen N z ((2 : Int32)) (x8) S7) (fun q28v S30 => (some ((), S30))))))))) else (mq_cl (zf_X8_widen N z ((1 : Int32)) (x4) S3) (fun q32v S34 => (some ((), S34))))))))) else (mq_cl (zf_X8_note N z ((0 : Int32)) ((S.1 17)) S) (fun q36v S38 => (if q36v = (0 : Int32) then (some ((), S38)) else (mq_cl (zf_X8_goBack N z S38) (fun q39v S41 => (if q39v = (0 : Int32) then (some ((), S41)) else (mq_cl (zf_X8_trySecond N z S41) (fun q42v S44 => (some ((), S44)))))))))))
set_option maxHeartbeats 4000000 in
set_option maxRecDepth 100000 in
theorem zw_X8_goOn_0 {p : Program} {l : Launch} {e : Env} {s : State} {m : MethodId} {args : Array Value} {below : List Frame} {meth : Method} {c : Code} {A : Nat → Prop} {D : va_G} {a z : Nat → Nat} {cI cL cB cZ : ClassId} {Q : State → Prop} {N : Nat} {res : Unit × mq_St} (C : mq_C p s m args c A D cI cL cB cZ cX8_goOn 5 RX8 zc_X8_goOn) (hret : ∀ (H : Heap) (locs : List Loc) (ls : Array Slot) (pc : Nat), decode cX8_goOn pc = .ok (.return_, 1) → va_P D vwCl (wd_C a cI cL cB cZ z res.2) H → va_D A (wd_C a cI cL cB cZ z res.2) → va_S A s.heap H locs → W p l e zr_X8_goOn s m args below meth c H locs 0 0 Q (F0 m pc ls [])) (S : mq_St) (H : Heap) (locs : List Loc) (ls : Array Slot) (h : zf_X8_goOn N z S = some res) (hl : lv_has ls 5 [(0, .ref (a 25))]) (hP : va_P D vwCl (wd_C a cI cL cB cZ z S) H) (hD : va_D A (wd_C a cI cL cB cZ z S)) (hS : va_S A s.heap H locs) : W p l e zr_X8_goOn s m args below meth c H locs 0 0 Q (F0 m 0 ls []) := by
  obtain ⟨hx, hb, hml, hown, hts, hK, hA⟩ := id C
  unfold zf_X8_goOn at h
  refine lv_aload_n hx hb dX8_goOn_0 rfl (lv_at hl 0 rfl) ?_
  refine va_get (D := D) (ci := 8) (v := .int ((S.1 17))) (C := RX8) (T := TX8) (N := 19) hx hb hts (zi_X8 _) hown hK hP 25 rfl rfl 16 (by decide) (hts _ (List.mem_cons_of_mem _ zt_f_X8_128)) (fun _ h9 => h9) rfl dX8_goOn_1 ?_
  refine lv_iconst (v := (-1 : Int32)) hx hb dX8_goOn_4 (by decide) ?_
  refine lv_icmp_eq (tgt := 32) hx hb dX8_goOn_5 (by decide) (fun c47 => ?_) (fun c47 => ?_)
  · replace h := mq_it c47 h
    refine lv_aload_n hx hb dX8_goOn_32 rfl (lv_at hl 0 rfl) ?_
    refine lv_iconst (v := (4 : Int32)) hx hb dX8_goOn_33 (by decide) ?_
    obtain ⟨q1, hc2, h⟩ := mq_cl_go h
    refine zk_X8_leastToDo C zt_m_X8_141 ⟨by decide, by decide⟩ hc2 hP hD hS hl.1 (Nat.le_of_ble_eq_true rfl) dX8_goOn_34 (fun H locs hP hD hS => ?_)
    obtain ⟨S3, eS3⟩ : ∃ y, y = q1.2 := ⟨_, rfl⟩
    rw [← eS3] at hP hD h
    refine lv_topi (fun x4 ex4 => ?_)
    replace h := mq_nI_go ex4 h
    refine lv_istore_n (lv' := [(1, .int (x4)), (0, .ref (a 25))]) hx hb dX8_goOn_37 rfl hl (by decide) rfl (fun ls hl => ?_)
    refine lv_iload_n hx hb dX8_goOn_38 rfl (lv_at hl 0 rfl) ?_
    refine lv_iconst (v := (-1 : Int32)) hx hb dX8_goOn_39 (by decide) ?_
    refine lv_icmp_eq (tgt := 50) hx hb dX8_goOn_40 (by decide) (fun c35 => ?_) (fun c35 => ?_)
    · replace h := mq_it c35 h
      refine lv_aload_n hx hb dX8_goOn_50 rfl (lv_at hl 1 rfl) ?_
      refine lv_bipush (v := (6 : Int32)) hx hb dX8_goOn_51 (by decide) ?_
      obtain ⟨q5, hc6, h⟩ := mq_cl_go h
      refine zk_X8_leastToDo C zt_m_X8_141 ⟨by decide, by decide⟩ hc6 hP hD hS hl.1 (Nat.le_of_ble_eq_true rfl) dX8_goOn_53 (fun H locs hP hD hS => ?_)
      obtain ⟨S7, eS7⟩ : ∃ y, y = q5.2 := ⟨_, rfl⟩
      rw [← eS7] at hP hD h
      refine lv_topi (fun x8 ex8 => ?_)
      replace h := mq_nI_go ex8 h
      refine lv_istore_n (lv' := [(2, .int (x8)), (1, .int (x4)), (0, .ref (a 25))]) hx hb dX8_goOn_56 rfl hl (by decide) rfl (fun ls hl => ?_)
      refine lv_iload_n hx hb dX8_goOn_57 rfl (lv_at hl 0 rfl) ?_
      refine lv_iconst (v := (-1 : Int32)) hx hb dX8_goOn_58 (by decide) ?_
      refine lv_icmp_eq (tgt := 69) hx hb dX8_goOn_59 (by decide) (fun c31 => ?_) (fun c31 => ?_)
      · replace h := mq_it c31 h
        refine lv_aload_n hx hb dX8_goOn_69 rfl (lv_at hl 2 rfl) ?_
        refine lv_iconst (v := (5 : Int32)) hx hb dX8_goOn_70 (by decide) ?_
        obtain ⟨q9, hc10, h⟩ := mq_cl_go h
        refine zk_X8_leastToDo C zt_m_X8_141 ⟨by decide, by decide⟩ hc10 hP hD hS hl.1 (Nat.le_of_ble_eq_true rfl) dX8_goOn_71 (fun H locs hP hD hS => ?_)
        obtain ⟨S11, eS11⟩ : ∃ y, y = q9.2 := ⟨_, rfl⟩
        rw [← eS11] at hP hD h
        refine lv_topi (fun x12 ex12 => ?_)
        replace h := mq_nI_go ex12 h
        refine lv_istore_n (lv' := [(3, .int (x12)), (2, .int (x8)), (1, .int (x4)), (0, .ref (a 25))]) hx hb dX8_goOn_74 rfl hl (by decide) rfl (fun ls hl => ?_)
        refine lv_iload_n hx hb dX8_goOn_75 rfl (lv_at hl 0 rfl) ?_
        refine lv_iconst (v := (-1 : Int32)) hx hb dX8_goOn_76 (by decide) ?_
        refine lv_icmp_eq (tgt := 86) hx hb dX8_goOn_77 (by decide) (fun c27 => ?_) (fun c27 => ?_)
        · replace h := mq_it c27 h
          refine lv_aload_n hx hb dX8_goOn_86 rfl (lv_at hl 3 rfl) ?_
          refine lv_bipush (v := (7 : Int32)) hx hb dX8_goOn_87 (by decide) ?_
          obtain ⟨q13, hc14, h⟩ := mq_cl_go h
          refine zk_X8_leastToDo C zt_m_X8_141 ⟨by decide, by decide⟩ hc14 hP hD hS hl.1 (Nat.le_of_ble_eq_true rfl) dX8_goOn_89 (fun H locs hP hD hS => ?_)
          obtain ⟨S15, eS15⟩ : ∃ y, y = q13.2 := ⟨_, rfl⟩
          rw [← eS15] at hP hD h
          refine lv_topi (fun x16 ex16 => ?_)
          replace h := mq_nI_go ex16 h
          refine lv_istore (lv' := [(4, .int (x16)), (3, .int (x12)), (2, .int (x8)), (1, .int (x4)), (0, .ref (a 25))]) hx hb dX8_goOn_92 hl (by decide) rfl (fun ls hl => ?_)
          refine lv_iload hx hb dX8_goOn_94 (lv_at hl 0 rfl) ?_
          refine lv_iconst (v := (-1 : Int32)) hx hb dX8_goOn_96 (by decide) ?_
          refine lv_icmp_eq (tgt := 109) hx hb dX8_goOn_97 (by decide) (fun c23 => ?_) (fun c23 => ?_)
          · replace h := mq_it c23 h
            refine lv_aload_n hx hb dX8_goOn_109 rfl (lv_at hl 4 rfl) ?_
            obtain ⟨q17, hc18, h⟩ := mq_cl_go h
            refine zk_X8_openWorld C zt_m_X8_153 ⟨by decide, by decide⟩ hc18 hP hD hS hl.1 (Nat.le_of_ble_eq_true rfl) dX8_goOn_110 (fun H locs hP hD hS => ?_)
            obtain ⟨S19, eS19⟩ : ∃ y, y = q17.2 := ⟨_, rfl⟩
            rw [← eS19] at hP hD h
            cases h
            exact hret H locs ls 113 dX8_goOn_113 hP hD hS
          · replace h := mq_if c23 h
            refine lv_aload_n hx hb dX8_goOn_100 rfl (lv_at hl 4 rfl) ?_
            refine lv_iload hx hb dX8_goOn_101 (lv_at hl 0 rfl) ?_
            obtain ⟨q20, hc21, h⟩ := mq_cl_go h
            refine zk_X8_lookAtMay C zt_m_X8_150 ⟨by decide, by decide⟩ hc21 hP hD hS hl.1 (Nat.le_of_ble_eq_true rfl) dX8_goOn_103 (fun H locs hP hD hS => ?_)
            obtain ⟨S22, eS22⟩ : ∃ y, y = q20.2 := ⟨_, rfl⟩
            rw [← eS22] at hP hD h
            refine lv_goto (tgt := 113) hx hb dX8_goOn_106 (by decide) ?_
            cases h
            exact hret H locs ls 113 dX8_goOn_113 hP hD hS
        · replace h := mq_if c27 h
          refine lv_aload_n hx hb dX8_goOn_80 rfl (lv_at hl 3 rfl) ?_
          refine lv_iload_n hx hb dX8_goOn_81 rfl (lv_at hl 0 rfl) ?_
          obtain ⟨q24, hc25, h⟩ := mq_cl_go h
          refine zk_X8_tryFirst C zt_m_X8_147 ⟨by decide, by decide⟩ hc25 hP hD hS hl.1 (Nat.le_of_ble_eq_true rfl) dX8_goOn_82 (fun H locs hP hD hS => ?_)
          obtain ⟨S26, eS26⟩ : ∃ y, y = q24.2 := ⟨_, rfl⟩
          rw [← eS26] at hP hD h
          cases h
          exact hret H locs ls 85 dX8_goOn_85 hP hD hS
      · replace h := mq_if c31 h
        refine lv_aload_n hx hb dX8_goOn_62 rfl (lv_at hl 2 rfl) ?_
        refine lv_iconst (v := (2 : Int32)) hx hb dX8_goOn_63 (by decide) ?_
        refine lv_iload_n hx hb dX8_goOn_64 rfl (lv_at hl 0 rfl) ?_
        obtain ⟨q28, hc29, h⟩ := mq_cl_go h
        refine zk_X8_widen C zt_m_X8_144 ⟨by decide, by decide⟩ hc29 hP hD hS hl.1 (Nat.le_of_ble_eq_true rfl) dX8_goOn_65 (fun H locs hP hD hS => ?_)
        obtain ⟨S30, eS30⟩ : ∃ y, y = q28.2 := ⟨_, rfl⟩
        rw [← eS30] at hP hD h
        cases h
        exact hret H locs ls 68 dX8_goOn_68 hP hD hS
    · replace h := mq_if c35 h
      refine lv_aload_n hx hb dX8_goOn_43 rfl (lv_at hl 1 rfl) ?_
      refine lv_iconst (v := (1 : Int32)) hx hb dX8_goOn_44 (by decide) ?_
      refine lv_iload_n hx hb dX8_goOn_45 rfl (lv_at hl 0 rfl) ?_
      obtain ⟨q32, hc33, h⟩ := mq_cl_go h
      refine zk_X8_widen C zt_m_X8_144 ⟨by decide, by decide⟩ hc33 hP hD hS hl.1 (Nat.le_of_ble_eq_true rfl) dX8_goOn_46 (fun H locs hP hD hS => ?_)
      obtain ⟨S34, eS34⟩ : ∃ y, y = q32.2 := ⟨_, rfl⟩
      rw [← eS34] at hP hD h
      cases h
      exact hret H locs ls 49 dX8_goOn_49 hP hD hS
  · replace h := mq_if c47 h
    refine lv_aload_n hx hb dX8_goOn_8 rfl (lv_at hl 0 rfl) ?_
    refine lv_iconst (v := (0 : Int32)) hx hb dX8_goOn_9 (by decide) ?_
    refine lv_aload_n hx hb dX8_goOn_10 rfl (lv_at hl 0 rfl) ?_
    refine va_get (D := D) (ci := 8) (v := .int ((S.1 17))) (C := RX8) (T := TX8) (N := 19) hx hb hts (zi_X8 _) hown hK hP 25 rfl rfl 16 (by decide) (hts _ (List.mem_cons_of_mem _ zt_f_X8_128)) (fun _ h9 => h9) rfl dX8_goOn_11 ?_
    obtain ⟨q36, hc37, h⟩ := mq_cl_go h
    refine zk_X8_note C zt_m_X8_131 ⟨by decide, by decide⟩ hc37 hP hD hS hl.1 (Nat.le_of_ble_eq_true rfl) dX8_goOn_14 (fun H locs hP hD hS => ?_)
    obtain ⟨S38, eS38⟩ : ∃ y, y = q36.2 := ⟨_, rfl⟩
    rw [← eS38] at hP hD h
    refine lv_if_eq (tgt := 31) hx hb dX8_goOn_17 (by decide) (fun c46 => ?_) (fun c46 => ?_)
    · replace h := mq_it c46 h
      cases h
      exact hret H locs ls 31 dX8_goOn_31 hP hD hS
    · replace h := mq_if c46 h
      refine lv_aload_n hx hb dX8_goOn_20 rfl (lv_at hl 0 rfl) ?_
      obtain ⟨q39, hc40, h⟩ := mq_cl_go h
      refine zk_X8_goBack C zt_m_X8_134 ⟨by decide, by decide⟩ hc40 hP hD hS hl.1 (Nat.le_of_ble_eq_true rfl) dX8_goOn_21 (fun H locs hP hD hS => ?_)
      obtain ⟨S41, eS41⟩ : ∃ y, y = q39.2 := ⟨_, rfl⟩
      rw [← eS41] at hP hD h
      refine lv_if_eq (tgt := 31) hx hb dX8_goOn_24 (by decide) (fun c45 => ?_) (fun c45 => ?_)
      · replace h := mq_it c45 h
        cases h
        exact hret H locs ls 31 dX8_goOn_31 hP hD hS
      · replace h := mq_if c45 h
        refine lv_aload_n hx hb dX8_goOn_27 rfl (lv_at hl 0 rfl) ?_
        obtain ⟨q42, hc43, h⟩ := mq_cl_go h
        refine zk_X8_trySecond C zt_m_X8_138 ⟨by decide, by decide⟩ hc43 hP hD hS hl.1 (Nat.le_of_ble_eq_true rfl) dX8_goOn_28 (fun H locs hP hD hS => ?_)
        obtain ⟨S44, eS44⟩ : ∃ y, y = q42.2 := ⟨_, rfl⟩
        rw [← eS44] at hP hD h
        cases h
        exact hret H locs ls 31 dX8_goOn_31 hP hD hS
set_option maxHeartbeats 4000000 in
set_option maxRecDepth 100000 in
theorem zm_X8_goOn (l : Launch) (D : va_G) (a z : Nat → Nat) (cI cL cB cZ : ClassId) (sz N : Nat) (S : mq_St) (res : Unit × mq_St) (h : zf_X8_goOn N z S = some res) : Met l yX8_goOn (zc_X8_goOn :: mq_T) zr_X8_goOn (va_Pc [.ref (a 25)] (fun U => U.heap.size = sz ∧ va_P D vwCl (wd_C a cI cL cB cZ z S) U.heap ∧ va_K D vwCl (mq_tys cI cL cB cZ) U ∧ va_D (fun _ => True) (wd_C a cI cL cB cZ z S))) (va_Qv (fun u : mq_St => u = res.2) (fun u t => va_P D vwCl (wd_C a cI cL cB cZ z u) t.heap ∧ va_K D vwCl (mq_tys cI cL cB cZ) t ∧ va_D (va_A (wd_C a cI cL cB cZ z S) sz) (wd_C a cI cL cB cZ z u)) (va_A (wd_C a cI cL cB cZ z S) sz)) 0 0 (va_A (wd_C a cI cL cB cZ z S) sz) := by
  refine Met.ofW (cc := cX8_goOn) (maxL := 5) (ret := none) (by decide) rfl ?_
  intro p e s m args below meth c s₁ B hml hv
  obtain ⟨rfl, hsz, hP, hK, hD0⟩ := hv
  have hr := B.returns
  have hlocks := B.notSynchronized
  have hts := atoms_spec (ws := zc_X8_goOn :: mq_T) B.pre
  have hown : s.vm.findClass RX8 = some m.cls := findClass_of_methodNamed B.named
  subst hsz
  have hD := hD0.self (sz := s.heap.size)
  generalize hAe : va_A (wd_C a cI cL cB cZ z S) s.heap.size = A at hD ⊢
  have hA : ∀ q : Nat, s.heap.size ≤ q → A q := fun q h => by rw [← hAe]; exact Or.inr h
  have hl := lv_entry ([.ref (a 25)]) (n := 5) (Nat.le_of_ble_eq_true rfl)
  rw [lg_entry_eq]
  generalize (lg_sl ([.ref (a 25)]) ++ List.replicate (5 - (lg_sl ([.ref (a 25)])).length) Slot.unset).toArray = ls at hl ⊢
  have hl : lv_has ls 5 [(0, .ref (a 25))] := hl
  refine zw_X8_goOn_0 (A := A) ⟨B.exec, B.bytes, hml, hown, hts, hK, hA⟩ (fun H locs ls pc dg hP hD hS => ?_) S s.heap [] ls h hl hP hD va_S.rf
  exact W.vret B.exec B.bytes hr (fun t ht hW => ⟨⟨_, rfl, rfl, by rw [ht]; exact hP, va_K.moved hW.alike hK, hD⟩, hS.F ht⟩) hS.2.2 dg
theorem zt_X8_goOn_c : zc_X8_goOn ∈ mq_T := mq_T_mem (mq_t4 (List.mem_of_getElem? (i := 30) rfl)) rfl
theorem zt_X8_goOn_i : Cond.instanceMethod yX8_goOn ∈ mq_T := mq_T_mem (mq_t4 (List.mem_of_getElem? (i := 29) rfl)) rfl
theorem zt_X8_goOn_s : Cond.selects RX8 yX8_goOn yX8_goOn ∈ mq_T := mq_T_at 36 (by decide +kernel)
set_option maxHeartbeats 4000000 in
theorem zk_X8_goOn {p : Program} {l : Launch} {e : Env} {R : Room} {s : State} {m : MethodId} {args : Array Value} {below : List Frame} {meth : Method} {c : Code} {A : Nat → Prop} {D : va_G} {a z : Nat → Nat} {cI cL cB cZ : ClassId} {Q : State → Prop} {cc : ByteArray} {nL idx pc N : Nat} {own : String} {c1 : Cond} {H : Heap} {locs : List Loc} {ls : Array Slot} {rest : List Value} {S : mq_St} {res : Unit × mq_St} (C : mq_C p s m args c A D cI cL cB cZ cc nL own c1) (hlk : Cond.methodLink own idx yX8_goOn ∈ mq_T) (hR : zr_X8_goOn.frames + 1 ≤ R.frames ∧ 8 + (5 + 11) + zr_X8_goOn.locals ≤ R.locals) (h : zf_X8_goOn N z S = some res) (hP : va_P D vwCl (wd_C a cI cL cB cZ z S) H) (hD : va_D A (wd_C a cI cL cB cZ z S)) (hS : va_S A s.heap H locs) (hls : ls.size = nL) (hrest : (rest.map fun v => v.category).sum ≤ 8) (hdg : decode cc pc = .ok (.invokevirtual idx, 3)) (kk : ∀ (H1 : Heap) (locs1 : List Loc), va_P D vwCl (wd_C a cI cL cB cZ z res.2) H1 → va_D A (wd_C a cI cL cB cZ z res.2) → va_S A s.heap H1 locs1 → W p l e R s m args below meth c H1 locs1 0 0 Q (F0 m (pc + 3) ls rest)) : W p l e R s m args below meth c H locs 0 0 Q (F0 m pc ls (.ref (a 25) :: rest)) := by
  obtain ⟨hx, hb, hml, hown, hts, hK, hA⟩ := C
  have hFc := mq_freeI hD hS hA
  refine va_callv (va_runV (As := []) (rest := rest) ⟨hx, hb, hml, hown, hts⟩ (zm_X8_goOn l D a z cI cL cB cZ H.size N S res h) (cwV 0 hts (mq_goodL (mq_wsV hlk zt_X8_goOn_i zt_X8_goOn_s zt_ini_X8 zt_X8_goOn_c)) rfl rfl rfl (by decide +kernel) hR) ⟨fun a U g mk q => ⟨q.1, q.2.1, q.2.2.1, va_K.moved (u := U) (U := U.calling g mk a) (Vm.Alike.refl U.vm) q.2.2.2.1, q.2.2.2.2⟩, zy_C_25 hK hP, fun U hU hW => ⟨rfl, by rw [hU], by rw [hU]; exact hP, va_K.moved hW.alike hK, hD.weaken (fun _ _ _ _ => trivial)⟩⟩ rfl rfl hls rfl (lv_room hrest) hdg ⟨Nat.zero_le _, Nat.zero_le _⟩) hS (fun q _ h => hFc q h) hFc (fun u t H1 locs ht hvm hw hB hz1 hk1 hS => ?_)
  subst hw
  obtain ⟨hP1, hK1, hD1⟩ := hB
  rw [ht] at hP1
  exact kk H1 locs hP1 (hD1.weaken (fun _ _ _ h => hFc _ h)) hS
/-! ModalDesk$Tableau.lines()LModalDesk$Lines; -/
def zr_X8_lines : Room := { frames := 0, cells := 0, slots := 0, locals := 0 }
def zc_X8_lines : Cond := .code yX8_lines cX8_lines 1 (some (.object "ModalDesk$Lines"))
def zf_X8_lines (N : Nat) (z : Nat → Nat) (S : mq_St) : Option (Unit) := (some (()))
set_option maxHeartbeats 4000000 in
set_option maxRecDepth 100000 in
theorem zw_X8_lines_0 {p : Program} {l : Launch} {e : Env} {s : State} {m : MethodId} {args : Array Value} {below : List Frame} {meth : Method} {c : Code} {A : Nat → Prop} {D : va_G} {a z : Nat → Nat} {cI cL cB cZ : ClassId} {Q : State → Prop} {N : Nat} {S : mq_St} {res : Unit} (C : mq_C p s m args c A D cI cL cB cZ cX8_lines 1 RX8 zc_X8_lines) (hret : ∀ (H : Heap) (locs : List Loc) (ls : Array Slot) (pc : Nat), decode cX8_lines pc = .ok (.areturn, 1) → va_P D vwCl (wd_C a cI cL cB cZ z S) H → va_D A (wd_C a cI cL cB cZ z S) → va_S A s.heap H locs → W p l e zr_X8_lines s m args below meth c H locs 0 0 Q (F0 m pc ls [.ref (a 41)])) (H : Heap) (locs : List Loc) (ls : Array Slot) (h : zf_X8_lines N z S = some res) (hl : lv_has ls 1 [(0, .ref (a 25))]) (hP : va_P D vwCl (wd_C a cI cL cB cZ z S) H) (hD : va_D A (wd_C a cI cL cB cZ z S)) (hS : va_S A s.heap H locs) : W p l e zr_X8_lines s m args below meth c H locs 0 0 Q (F0 m 0 ls []) := by
  obtain ⟨hx, hb, hml, hown, hts, hK, hA⟩ := id C
  unfold zf_X8_lines at h
  refine lv_aload_n hx hb dX8_lines_0 rfl (lv_at hl 0 rfl) ?_
  refine va_get (D := D) (ci := 8) (v := .ref (a 41)) (C := RX8) (T := TX8) (N := 19) hx hb hts (zi_X8 _) hown hK hP 25 rfl rfl 11 (by decide) (hts _ (List.mem_cons_of_mem _ zt_f_X8_49)) (fun _ h9 => h9) rfl dX8_lines_1 ?_
  cases h
  exact hret H locs ls 4 dX8_lines_4 hP hD hS
set_option maxHeartbeats 4000000 in
set_option maxRecDepth 100000 in
theorem zm_X8_lines (l : Launch) (D : va_G) (a z : Nat → Nat) (cI cL cB cZ : ClassId) (sz N : Nat) (S : mq_St) (res : Unit) (h : zf_X8_lines N z S = some res) : Met l yX8_lines (zc_X8_lines :: mq_T) zr_X8_lines (va_Pc [.ref (a 25)] (fun U => U.heap.size = sz ∧ va_P D vwCl (wd_C a cI cL cB cZ z S) U.heap ∧ va_K D vwCl (mq_tys cI cL cB cZ) U ∧ va_D (fun _ => True) (wd_C a cI cL cB cZ z S))) (va_Qr (fun u : mq_St => u = S) (fun u b t => b = a 41 ∧ va_P D vwCl (wd_C a cI cL cB cZ z u) t.heap ∧ va_K D vwCl (mq_tys cI cL cB cZ) t ∧ va_D (va_A (wd_C a cI cL cB cZ z S) sz) (wd_C a cI cL cB cZ z u)) (va_A (wd_C a cI cL cB cZ z S) sz)) 0 0 (va_A (wd_C a cI cL cB cZ z S) sz) := by
  refine Met.ofW (cc := cX8_lines) (maxL := 1) (ret := (some (.object "ModalDesk$Lines"))) (by decide) rfl ?_
  intro p e s m args below meth c s₁ B hml hv
  obtain ⟨rfl, hsz, hP, hK, hD0⟩ := hv
  have hr := B.returns
  have hlocks := B.notSynchronized
  have hts := atoms_spec (ws := zc_X8_lines :: mq_T) B.pre
  have hown : s.vm.findClass RX8 = some m.cls := findClass_of_methodNamed B.named
  subst hsz
  have hD := hD0.self (sz := s.heap.size)
  generalize hAe : va_A (wd_C a cI cL cB cZ z S) s.heap.size = A at hD ⊢
  have hA : ∀ q : Nat, s.heap.size ≤ q → A q := fun q h => by rw [← hAe]; exact Or.inr h
  have hl := lv_entry ([.ref (a 25)]) (n := 1) (Nat.le_of_ble_eq_true rfl)
  rw [lg_entry_eq]
  generalize (lg_sl ([.ref (a 25)]) ++ List.replicate (1 - (lg_sl ([.ref (a 25)])).length) Slot.unset).toArray = ls at hl ⊢
  have hl : lv_has ls 1 [(0, .ref (a 25))] := hl
  refine zw_X8_lines_0 (A := A) ⟨B.exec, B.bytes, hml, hown, hts, hK, hA⟩ (fun H locs ls pc dg hP hD hS => ?_) s.heap [] ls h hl hP hD va_S.rf
  exact W.aret B.exec B.bytes hr (Or.inl ⟨_, rfl⟩) (Or.inr ⟨_, rfl⟩) (fun t ht hW => ⟨⟨_, _, rfl, rfl, rfl, by rw [ht]; exact hP, va_K.moved hW.alike hK, hD⟩, hS.F ht⟩) hS.2.2 dg
theorem zt_X8_lines_c : zc_X8_lines ∈ mq_T := mq_T_mem (mq_t4 (List.mem_of_getElem? (i := 127) rfl)) rfl
theorem zt_X8_lines_i : Cond.instanceMethod yX8_lines ∈ mq_T := mq_T_mem (mq_t4 (List.mem_of_getElem? (i := 125) rfl)) rfl
theorem zt_X8_lines_s : Cond.selects RX8 yX8_lines yX8_lines ∈ mq_T := mq_T_mem (mq_t4 (List.mem_of_getElem? (i := 126) rfl)) rfl
set_option maxHeartbeats 4000000 in
theorem zk_X8_lines {p : Program} {l : Launch} {e : Env} {R : Room} {s : State} {m : MethodId} {args : Array Value} {below : List Frame} {meth : Method} {c : Code} {A : Nat → Prop} {D : va_G} {a z : Nat → Nat} {cI cL cB cZ : ClassId} {Q : State → Prop} {cc : ByteArray} {nL idx pc N : Nat} {own : String} {c1 : Cond} {H : Heap} {locs : List Loc} {ls : Array Slot} {rest : List Value} {S : mq_St} {res : Unit} (C : mq_C p s m args c A D cI cL cB cZ cc nL own c1) (hlk : Cond.methodLink own idx yX8_lines ∈ mq_T) (hR : zr_X8_lines.frames + 1 ≤ R.frames ∧ 8 + (1 + 11) + zr_X8_lines.locals ≤ R.locals) (h : zf_X8_lines N z S = some res) (hP : va_P D vwCl (wd_C a cI cL cB cZ z S) H) (hD : va_D A (wd_C a cI cL cB cZ z S)) (hS : va_S A s.heap H locs) (hls : ls.size = nL) (hrest : (rest.map fun v => v.category).sum ≤ 8) (hdg : decode cc pc = .ok (.invokevirtual idx, 3)) (kk : ∀ (H1 : Heap) (locs1 : List Loc), va_P D vwCl (wd_C a cI cL cB cZ z S) H1 → va_D A (wd_C a cI cL cB cZ z S) → va_S A s.heap H1 locs1 → W p l e R s m args below meth c H1 locs1 0 0 Q (F0 m (pc + 3) ls (.ref (a 41) :: rest))) : W p l e R s m args below meth c H locs 0 0 Q (F0 m pc ls (.ref (a 25) :: rest)) := by
  obtain ⟨hx, hb, hml, hown, hts, hK, hA⟩ := C
  have hFc := mq_freeI hD hS hA
  refine va_callr (va_runV (As := []) (rest := rest) ⟨hx, hb, hml, hown, hts⟩ (zm_X8_lines l D a z cI cL cB cZ H.size N S res h) (cwV 0 hts (mq_goodL (mq_wsV hlk zt_X8_lines_i zt_X8_lines_s zt_ini_X8 zt_X8_lines_c)) rfl rfl rfl (by decide +kernel) hR) ⟨fun a U g mk q => ⟨q.1, q.2.1, q.2.2.1, va_K.moved (u := U) (U := U.calling g mk a) (Vm.Alike.refl U.vm) q.2.2.2.1, q.2.2.2.2⟩, zy_C_25 hK hP, fun U hU hW => ⟨rfl, by rw [hU], by rw [hU]; exact hP, va_K.moved hW.alike hK, hD.weaken (fun _ _ _ _ => trivial)⟩⟩ rfl rfl hls rfl (lv_room hrest) hdg ⟨Nat.zero_le _, Nat.zero_le _⟩) hS (fun q _ h => hFc q h) hFc (fun u b t H1 locs ht hvm hw hB hz1 hk1 hS => ?_)
  subst hw
  obtain ⟨rfl, hB⟩ := hB
  obtain ⟨hP1, hK1, hD1⟩ := hB
  rw [ht] at hP1
  exact kk H1 locs hP1 (hD1.weaken (fun _ _ _ h => hFc _ h)) hS
theorem zs_wd_C_i_25_18 (a z : Nat → Nat) (cI cL cB cZ : ClassId) (S : mq_St) (v : Int32) : (wd_C a cI cL cB cZ z S).set 25 (a 25, .inr (8, ([.ref (a 7), .ref (a 33), .ref (a 35), .ref (a 37), .ref (a 26), .ref (a 27), .ref (a 28), .ref (a 29), .ref (a 30), .ref (a 31), .ref (a 39), .ref (a 41), .ref (a 32), .int (S.1 14), .int (S.1 15), .int (S.1 16), .int (S.1 17), .int (S.1 18), .int (S.1 19)] : List Value).set 17 (.int v))) = (wd_C a cI cL cB cZ z (mq_si S 18 v)) := rfl
theorem zt_m_X8_79 : Cond.methodLink RX8 79 yX6_empty ∈ mq_T := mq_T_mem (mq_t4 (List.mem_of_getElem? (i := 8) rfl)) rfl
theorem zt_k_X8_89 : Cond.constant RX8 89 ((1000000 : Int32)) ∈ mq_T := mq_T_mem (mq_t4 (List.mem_of_getElem? (i := 26) rfl)) rfl
theorem zt_m_X8_90 : Cond.methodLink RX8 90 yX8_goOn ∈ mq_T := mq_T_mem (mq_t4 (List.mem_of_getElem? (i := 27) rfl)) rfl
/-! ModalDesk$Tableau.run(II)I -/
def zr_X8_run : Room := { frames := 6, cells := 0, slots := 0, locals := 135 }
def zc_X8_run : Cond := .code yX8_run cX8_run 4 (some .int)
def zf_X8_run_97 (N : Nat) (z : Nat → Nat) (S : mq_St) : Option (Int32 × mq_St) := (some ((S.1 19), S))
def zf_X8_run_73b (N : Nat) (z : Nat → Nat) (k73 : Int32 → mq_St → Option (Int32 × mq_St)) (v3 : Int32) (S : mq_St) : Option (Int32 × mq_St) := (if (1000000 : Int32) ≤ v3 then (zf_X8_run_97 N z S) else (if (S.1 19) = (2 : Int32) then (mq_cl (zf_X8_goOn N z S) (fun q23v S25 => (mq_nI (v3 + (1 : Int32)) (fun x26 => (k73 (x26) S25))))) else (zf_X8_run_97 N z S)))
def zf_X8_run_73 (N : Nat) (z : Nat → Nat) : Nat → Int32 → mq_St → Option (Int32 × mq_St)
  | 0, _, _ => none
  | n + 1, v3, S => zf_X8_run_73b N z (fun v3 S => zf_X8_run_73 N z n v3 S) v3 S
def zf_X8_run_30b (N : Nat) (z : Nat → Nat) (k30 : Int32 → Int32 → mq_St → Option (Int32 × mq_St)) (v1 : Int32) (v3 : Int32) (S : mq_St) : Option (Int32 × mq_St) := (if (4 : Int32) ≤ v3 then (mq_cl (zf_X6_empty N (fun k => [305].getD k 0) ((0 : Int32)) (mq_pull S [] [] [2])) (fun q9v q9s => mq_nS (mq_push S q9s [] [] [2]) (fun S11 => (mq_cl (zf_X6_put N (fun k => [305].getD k 0) ((0 : Int32)) (v1) (mq_pull S11 [] [] [2])) (fun q12v q12s => mq_nS (mq_push S11 q12s [] [] [2]) (fun S14 => (mq_cl (zf_X8_beginWorld N z ((-1 : Int32)) ((1 : Int32)) S14) (fun q15v S17 => (mq_nI ((0 : Int32)) (fun x18 => (zf_X8_run_73 N z N (x18) S17))))))))))) else (mq_ck (v3) 4 (mq_nS (mq_sa S 21 (upd (S.2.1 21) (v3).toNatClampNeg ((0 : Int32)))) (fun S20 => (mq_nI (v3 + (1 : Int32)) (fun x21 => (k30 (v1) (x21) S20)))))))
def zf_X8_run_30 (N : Nat) (z : Nat → Nat) : Nat → Int32 → Int32 → mq_St → Option (Int32 × mq_St)
  | 0, _, _, _ => none
  | n + 1, v1, v3, S => zf_X8_run_30b N z (fun v1 v3 S => zf_X8_run_30 N z n v1 v3 S) v1 v3 S
def zf_X8_run (N : Nat) (z : Nat → Nat) (v1 : Int32) (v2 : Int32) (S : mq_St) : Option (Int32 × mq_St) := (mq_nS (mq_si S 18 (v2)) (fun S1 => (mq_nS (mq_si S1 19 ((2 : Int32))) (fun S2 => (mq_nS (mq_si S2 14 ((0 : Int32))) (fun S3 => (mq_nS (mq_si S3 15 ((0 : Int32))) (fun S4 => (mq_cl (zf_X3_shorten N z ((0 : Int32)) (mq_pull S4 [20] [22] [])) (fun q5v q5s => mq_nS (mq_push S4 q5s [20] [22] []) (fun S7 => (mq_nI ((0 : Int32)) (fun x8 => (zf_X8_run_30 N z N (v1) (x8) S7))))))))))))))
set_option maxHeartbeats 4000000 in
set_option maxRecDepth 100000 in
theorem zw_X8_run_97 {p : Program} {l : Launch} {e : Env} {s : State} {m : MethodId} {args : Array Value} {below : List Frame} {meth : Method} {c : Code} {A : Nat → Prop} {D : va_G} {a z : Nat → Nat} {cI cL cB cZ : ClassId} {Q : State → Prop} {N : Nat} {res : Int32 × mq_St} (C : mq_C p s m args c A D cI cL cB cZ cX8_run 4 RX8 zc_X8_run) (hret : ∀ (H : Heap) (locs : List Loc) (ls : Array Slot) (pc : Nat), decode cX8_run pc = .ok (.ireturn, 1) → va_P D vwCl (wd_C a cI cL cB cZ z res.2) H → va_D A (wd_C a cI cL cB cZ z res.2) → va_S A s.heap H locs → W p l e zr_X8_run s m args below meth c H locs 0 0 Q (F0 m pc ls [.int res.1])) (S : mq_St) (H : Heap) (locs : List Loc) (ls : Array Slot) (h : zf_X8_run_97 N z S = some res) (hl : lv_has ls 4 [(0, .ref (a 25))]) (hP : va_P D vwCl (wd_C a cI cL cB cZ z S) H) (hD : va_D A (wd_C a cI cL cB cZ z S)) (hS : va_S A s.heap H locs) : W p l e zr_X8_run s m args below meth c H locs 0 0 Q (F0 m 97 ls []) := by
  obtain ⟨hx, hb, hml, hown, hts, hK, hA⟩ := id C
  unfold zf_X8_run_97 at h
  refine lv_aload_n hx hb dX8_run_97 rfl (lv_at hl 0 rfl) ?_
  refine va_get (D := D) (ci := 8) (v := .int ((S.1 19))) (C := RX8) (T := TX8) (N := 19) hx hb hts (zi_X8 _) hown hK hP 25 rfl rfl 18 (by decide) (hts _ (List.mem_cons_of_mem _ zt_f_X8_67)) (fun _ h9 => h9) rfl dX8_run_98 ?_
  cases h
  exact hret H locs ls 101 dX8_run_101 hP hD hS
set_option maxHeartbeats 4000000 in
set_option maxRecDepth 100000 in
theorem zw_X8_run_73b {p : Program} {l : Launch} {e : Env} {s : State} {m : MethodId} {args : Array Value} {below : List Frame} {meth : Method} {c : Code} {A : Nat → Prop} {D : va_G} {a z : Nat → Nat} {cI cL cB cZ : ClassId} {Q : State → Prop} {N : Nat} {res : Int32 × mq_St} {k73 : Int32 → mq_St → Option (Int32 × mq_St)} (C : mq_C p s m args c A D cI cL cB cZ cX8_run 4 RX8 zc_X8_run) (hret : ∀ (H : Heap) (locs : List Loc) (ls : Array Slot) (pc : Nat), decode cX8_run pc = .ok (.ireturn, 1) → va_P D vwCl (wd_C a cI cL cB cZ z res.2) H → va_D A (wd_C a cI cL cB cZ z res.2) → va_S A s.heap H locs → W p l e zr_X8_run s m args below meth c H locs 0 0 Q (F0 m pc ls [.int res.1])) (hk73 : ∀ (v3 : Int32) (S : mq_St) (H : Heap) (locs : List Loc) (ls : Array Slot), k73 v3 S = some res → lv_has ls 4 [(0, .ref (a 25)), (3, .int (v3))] → va_P D vwCl (wd_C a cI cL cB cZ z S) H → va_D A (wd_C a cI cL cB cZ z S) → va_S A s.heap H locs → W p l e zr_X8_run s m args below meth c H locs 0 0 Q (F0 m 73 ls [])) (v3 : Int32) (S : mq_St) (H : Heap) (locs : List Loc) (ls : Array Slot) (h : zf_X8_run_73b N z k73 v3 S = some res) (hl : lv_has ls 4 [(0, .ref (a 25)), (3, .int (v3))]) (hP : va_P D vwCl (wd_C a cI cL cB cZ z S) H) (hD : va_D A (wd_C a cI cL cB cZ z S)) (hS : va_S A s.heap H locs) : W p l e zr_X8_run s m args below meth c H locs 0 0 Q (F0 m 73 ls []) := by
  obtain ⟨hx, hb, hml, hown, hts, hK, hA⟩ := id C
  unfold zf_X8_run_73b at h
  refine lv_iload_n hx hb dX8_run_73 rfl (lv_at hl 1 rfl) ?_
  refine lv_ldc (v := (1000000 : Int32)) hx hb hown (hts _ (List.mem_cons_of_mem _ zt_k_X8_89)) dX8_run_74 ?_
  refine lv_icmp_ge (tgt := 97) hx hb dX8_run_76 (by decide) (fun c28 => ?_) (fun c28 => ?_)
  · replace h := mq_it c28 h
    exact zw_X8_run_97 C hret S H locs ls h (lv_sub hl [0] rfl) hP hD hS
  · replace h := mq_if c28 h
    refine lv_aload_n hx hb dX8_run_79 rfl (lv_at hl 0 rfl) ?_
    refine va_get (D := D) (ci := 8) (v := .int ((S.1 19))) (C := RX8) (T := TX8) (N := 19) hx hb hts (zi_X8 _) hown hK hP 25 rfl rfl 18 (by decide) (hts _ (List.mem_cons_of_mem _ zt_f_X8_67)) (fun _ h9 => h9) rfl dX8_run_80 ?_
    refine lv_iconst (v := (2 : Int32)) hx hb dX8_run_83 (by decide) ?_
    refine lv_icmp_ne (tgt := 97) hx hb dX8_run_84 (by decide) (fun c27 => ?_) (fun c27 => ?_)
    · replace h := mq_if c27 h
      exact zw_X8_run_97 C hret S H locs ls h (lv_sub hl [0] rfl) hP hD hS
    · replace h := mq_it (by simpa using c27) h
      refine lv_aload_n hx hb dX8_run_87 rfl (lv_at hl 0 rfl) ?_
      obtain ⟨q23, hc24, h⟩ := mq_cl_go h
      refine zk_X8_goOn C zt_m_X8_90 ⟨by decide, by decide⟩ hc24 hP hD hS hl.1 (Nat.le_of_ble_eq_true rfl) dX8_run_88 (fun H locs hP hD hS => ?_)
      obtain ⟨S25, eS25⟩ : ∃ y, y = q23.2 := ⟨_, rfl⟩
      rw [← eS25] at hP hD h
      obtain ⟨x26, ex26⟩ : ∃ y : Int32, y = v3 + (1 : Int32) := ⟨_, rfl⟩
      replace h := mq_nI_go ex26 h
      refine lv_iinc (v := x26) (lv' := [(3, .int (x26)), (0, .ref (a 25))]) hx hb dX8_run_91 hl (k := 1) rfl (by rw [ex26]; rfl) (by decide) rfl (fun ls hl => ?_)
      refine lv_goto (tgt := 73) hx hb dX8_run_94 (by decide) ?_
      exact hk73 (x26) S25 H locs ls h (lv_sub hl [1, 0] rfl) hP hD hS
set_option maxHeartbeats 4000000 in
set_option maxRecDepth 100000 in
theorem zw_X8_run_73 {p : Program} {l : Launch} {e : Env} {s : State} {m : MethodId} {args : Array Value} {below : List Frame} {meth : Method} {c : Code} {A : Nat → Prop} {D : va_G} {a z : Nat → Nat} {cI cL cB cZ : ClassId} {Q : State → Prop} {N : Nat} {res : Int32 × mq_St} (C : mq_C p s m args c A D cI cL cB cZ cX8_run 4 RX8 zc_X8_run) (hret : ∀ (H : Heap) (locs : List Loc) (ls : Array Slot) (pc : Nat), decode cX8_run pc = .ok (.ireturn, 1) → va_P D vwCl (wd_C a cI cL cB cZ z res.2) H → va_D A (wd_C a cI cL cB cZ z res.2) → va_S A s.heap H locs → W p l e zr_X8_run s m args below meth c H locs 0 0 Q (F0 m pc ls [.int res.1])) : ∀ (n : Nat) (v3 : Int32) (S : mq_St) (H : Heap) (locs : List Loc) (ls : Array Slot) (h : zf_X8_run_73 N z n v3 S = some res) (hl : lv_has ls 4 [(0, .ref (a 25)), (3, .int (v3))]) (hP : va_P D vwCl (wd_C a cI cL cB cZ z S) H) (hD : va_D A (wd_C a cI cL cB cZ z S)) (hS : va_S A s.heap H locs), W p l e zr_X8_run s m args below meth c H locs 0 0 Q (F0 m 73 ls []) := by
  intro n
  induction n with
  | zero =>
    intro v3 S H locs ls h hl hP hD hS
    exact nomatch (show (none : Option (Int32 × mq_St)) = some res from h)
  | succ n ih =>
    intro v3 S H locs ls h hl hP hD hS
    exact zw_X8_run_73b C hret (fun v3 S H locs ls h hl hP hD hS => ih v3 S H locs ls h hl hP hD hS) v3 S H locs ls h hl hP hD hS
set_option maxHeartbeats 4000000 in
set_option maxRecDepth 100000 in
theorem zw_X8_run_30b {p : Program} {l : Launch} {e : Env} {s : State} {m : MethodId} {args : Array Value} {below : List Frame} {meth : Method} {c : Code} {A : Nat → Prop} {D : va_G} {a z : Nat → Nat} {cI cL cB cZ : ClassId} {Q : State → Prop} {N : Nat} {res : Int32 × mq_St} {k30 : Int32 → Int32 → mq_St → Option (Int32 × mq_St)} (C : mq_C p s m args c A D cI cL cB cZ cX8_run 4 RX8 zc_X8_run) (hret : ∀ (H : Heap) (locs : List Loc) (ls : Array Slot) (pc : Nat), decode cX8_run pc = .ok (.ireturn, 1) → va_P D vwCl (wd_C a cI cL cB cZ z res.2) H → va_D A (wd_C a cI cL cB cZ z res.2) → va_S A s.heap H locs → W p l e zr_X8_run s m args below meth c H locs 0 0 Q (F0 m pc ls [.int res.1])) (hk30 : ∀ (v1 : Int32) (v3 : Int32) (S : mq_St) (H : Heap) (locs : List Loc) (ls : Array Slot), k30 v1 v3 S = some res → lv_has ls 4 [(0, .ref (a 25)), (1, .int (v1)), (3, .int (v3))] → va_P D vwCl (wd_C a cI cL cB cZ z S) H → va_D A (wd_C a cI cL cB cZ z S) → va_S A s.heap H locs → W p l e zr_X8_run s m args below meth c H locs 0 0 Q (F0 m 30 ls [])) (v1 : Int32) (v3 : Int32) (S : mq_St) (H : Heap) (locs : List Loc) (ls : Array Slot) (h : zf_X8_run_30b N z k30 v1 v3 S = some res) (hl : lv_has ls 4 [(0, .ref (a 25)), (1, .int (v1)), (3, .int (v3))]) (hP : va_P D vwCl (wd_C a cI cL cB cZ z S) H) (hD : va_D A (wd_C a cI cL cB cZ z S)) (hS : va_S A s.heap H locs) : W p l e zr_X8_run s m args below meth c H locs 0 0 Q (F0 m 30 ls []) := by
  obtain ⟨hx, hb, hml, hown, hts, hK, hA⟩ := id C
  unfold zf_X8_run_30b at h
  refine lv_iload_n hx hb dX8_run_30 rfl (lv_at hl 2 rfl) ?_
  refine lv_iconst (v := (4 : Int32)) hx hb dX8_run_31 (by decide) ?_
  refine lv_icmp_ge (tgt := 48) hx hb dX8_run_32 (by decide) (fun c22 => ?_) (fun c22 => ?_)
  · replace h := mq_it c22 h
    refine lv_aload_n hx hb dX8_run_48 rfl (lv_at hl 0 rfl) ?_
    refine va_get (D := D) (ci := 8) (v := .ref (a 33)) (C := RX8) (T := TX8) (N := 19) hx hb hts (zi_X8 _) hown hK hP 25 rfl rfl 1 (by decide) (hts _ (List.mem_cons_of_mem _ zt_f_X8_14)) (fun _ h9 => h9) rfl dX8_run_49 ?_
    refine lv_iconst (v := (0 : Int32)) hx hb dX8_run_52 (by decide) ?_
    obtain ⟨q9, hc10, h⟩ := mq_cl_go h
    refine zv_X6_empty (a := mq_ad a [33, 34]) (z := (fun k => [305].getD k 0)) [33, 34] C zt_m_X8_79 ⟨by decide, by decide⟩ hc10 rfl (by decide) (ws' := (wd_C a cI cL cB cZ z (mq_push S q9.2 [] [] [2]))) (zx_wd_C_wd_S_33_34 _ _ _ _ _ _ _ _) hP hD hS hl.1 (Nat.le_of_ble_eq_true rfl) dX8_run_53 (fun H locs hP hD hS => ?_)
    obtain ⟨S11, eS11⟩ : ∃ y, y = mq_push S q9.2 [] [] [2] := ⟨_, rfl⟩
    replace h := mq_nS_go eS11 h
    rw [← eS11] at hP hD
    refine lv_aload_n hx hb dX8_run_56 rfl (lv_at hl 0 rfl) ?_
    refine va_get (D := D) (ci := 8) (v := .ref (a 33)) (C := RX8) (T := TX8) (N := 19) hx hb hts (zi_X8 _) hown hK hP 25 rfl rfl 1 (by decide) (hts _ (List.mem_cons_of_mem _ zt_f_X8_14)) (fun _ h9 => h9) rfl dX8_run_57 ?_
    refine lv_iconst (v := (0 : Int32)) hx hb dX8_run_60 (by decide) ?_
    refine lv_iload_n hx hb dX8_run_61 rfl (lv_at hl 1 rfl) ?_
    obtain ⟨q12, hc13, h⟩ := mq_cl_go h
    refine zv_X6_put (a := mq_ad a [33, 34]) (z := (fun k => [305].getD k 0)) [33, 34] C zt_m_X8_82 ⟨by decide, by decide⟩ hc13 rfl (by decide) (ws' := (wd_C a cI cL cB cZ z (mq_push S11 q12.2 [] [] [2]))) (zx_wd_C_wd_S_33_34 _ _ _ _ _ _ _ _) hP hD hS hl.1 (Nat.le_of_ble_eq_true rfl) dX8_run_62 (fun H locs hP hD hS => ?_)
    obtain ⟨S14, eS14⟩ : ∃ y, y = mq_push S11 q12.2 [] [] [2] := ⟨_, rfl⟩
    replace h := mq_nS_go eS14 h
    rw [← eS14] at hP hD
    refine lv_aload_n hx hb dX8_run_65 rfl (lv_at hl 0 rfl) ?_
    refine lv_iconst (v := (-1 : Int32)) hx hb dX8_run_66 (by decide) ?_
    refine lv_iconst (v := (1 : Int32)) hx hb dX8_run_67 (by decide) ?_
    obtain ⟨q15, hc16, h⟩ := mq_cl_go h
    refine zk_X8_beginWorld C zt_m_X8_86 ⟨by decide, by decide⟩ hc16 hP hD hS hl.1 (Nat.le_of_ble_eq_true rfl) dX8_run_68 (fun H locs hP hD hS => ?_)
    obtain ⟨S17, eS17⟩ : ∃ y, y = q15.2 := ⟨_, rfl⟩
    rw [← eS17] at hP hD h
    refine lv_iconst (v := (0 : Int32)) hx hb dX8_run_71 (by decide) ?_
    refine lv_topi (fun x18 ex18 => ?_)
    replace h := mq_nI_go ex18 h
    refine lv_istore_n (lv' := [(3, .int (x18)), (0, .ref (a 25)), (1, .int (v1))]) hx hb dX8_run_72 rfl hl (by decide) rfl (fun ls hl => ?_)
    exact zw_X8_run_73 C hret N (x18) S17 H locs ls h (lv_sub hl [1, 0] rfl) hP hD hS
  · replace h := mq_if c22 h
    refine lv_aload_n hx hb dX8_run_35 rfl (lv_at hl 0 rfl) ?_
    refine va_get (D := D) (ci := 8) (v := .ref (a 32)) (C := RX8) (T := TX8) (N := 19) hx hb hts (zi_X8 _) hown hK hP 25 rfl rfl 12 (by decide) (hts _ (List.mem_cons_of_mem _ zt_f_X8_53)) (fun _ h9 => h9) rfl dX8_run_36 ?_
    refine lv_iload_n hx hb dX8_run_39 rfl (lv_at hl 2 rfl) ?_
    refine lv_iconst (v := (0 : Int32)) hx hb dX8_run_40 (by decide) ?_
    have hi19 := mq_ck_in h
    replace h := mq_ck_go h
    refine mq_iast (w := wd_C a cI cL cB cZ z) (S := S) (f := S.2.1 21) hx hb hK hP hD hS 32 0 rfl rfl hi19 dX8_run_41 21 (zs_wd_C_a_32_21 _ _ _ _ _ _ _ _) (fun S20 eS20 H locs hP hD hS => ?_)
    replace h := mq_nS_go eS20 h
    obtain ⟨x21, ex21⟩ : ∃ y : Int32, y = v3 + (1 : Int32) := ⟨_, rfl⟩
    replace h := mq_nI_go ex21 h
    refine lv_iinc (v := x21) (lv' := [(3, .int (x21)), (0, .ref (a 25)), (1, .int (v1))]) hx hb dX8_run_42 hl (k := 2) rfl (by rw [ex21]; rfl) (by decide) rfl (fun ls hl => ?_)
    refine lv_goto (tgt := 30) hx hb dX8_run_45 (by decide) ?_
    exact hk30 (v1) (x21) S20 H locs ls h (lv_sub hl [1, 2, 0] rfl) hP hD hS
set_option maxHeartbeats 4000000 in
set_option maxRecDepth 100000 in
theorem zw_X8_run_30 {p : Program} {l : Launch} {e : Env} {s : State} {m : MethodId} {args : Array Value} {below : List Frame} {meth : Method} {c : Code} {A : Nat → Prop} {D : va_G} {a z : Nat → Nat} {cI cL cB cZ : ClassId} {Q : State → Prop} {N : Nat} {res : Int32 × mq_St} (C : mq_C p s m args c A D cI cL cB cZ cX8_run 4 RX8 zc_X8_run) (hret : ∀ (H : Heap) (locs : List Loc) (ls : Array Slot) (pc : Nat), decode cX8_run pc = .ok (.ireturn, 1) → va_P D vwCl (wd_C a cI cL cB cZ z res.2) H → va_D A (wd_C a cI cL cB cZ z res.2) → va_S A s.heap H locs → W p l e zr_X8_run s m args below meth c H locs 0 0 Q (F0 m pc ls [.int res.1])) : ∀ (n : Nat) (v1 : Int32) (v3 : Int32) (S : mq_St) (H : Heap) (locs : List Loc) (ls : Array Slot) (h : zf_X8_run_30 N z n v1 v3 S = some res) (hl : lv_has ls 4 [(0, .ref (a 25)), (1, .int (v1)), (3, .int (v3))]) (hP : va_P D vwCl (wd_C a cI cL cB cZ z S) H) (hD : va_D A (wd_C a cI cL cB cZ z S)) (hS : va_S A s.heap H locs), W p l e zr_X8_run s m args below meth c H locs 0 0 Q (F0 m 30 ls []) := by
  intro n
  induction n with
  | zero =>
    intro v1 v3 S H locs ls h hl hP hD hS
    exact nomatch (show (none : Option (Int32 × mq_St)) = some res from h)
  | succ n ih =>
    intro v1 v3 S H locs ls h hl hP hD hS
    exact zw_X8_run_30b C hret (fun v1 v3 S H locs ls h hl hP hD hS => ih v1 v3 S H locs ls h hl hP hD hS) v1 v3 S H locs ls h hl hP hD hS
set_option maxHeartbeats 4000000 in
set_option maxRecDepth 100000 in
theorem zw_X8_run_0 {p : Program} {l : Launch} {e : Env} {s : State} {m : MethodId} {args : Array Value} {below : List Frame} {meth : Method} {c : Code} {A : Nat → Prop} {D : va_G} {a z : Nat → Nat} {cI cL cB cZ : ClassId} {Q : State → Prop} {N : Nat} {res : Int32 × mq_St} (C : mq_C p s m args c A D cI cL cB cZ cX8_run 4 RX8 zc_X8_run) (hret : ∀ (H : Heap) (locs : List Loc) (ls : Array Slot) (pc : Nat), decode cX8_run pc = .ok (.ireturn, 1) → va_P D vwCl (wd_C a cI cL cB cZ z res.2) H → va_D A (wd_C a cI cL cB cZ z res.2) → va_S A s.heap H locs → W p l e zr_X8_run s m args below meth c H locs 0 0 Q (F0 m pc ls [.int res.1])) (v1 : Int32) (v2 : Int32) (S : mq_St) (H : Heap) (locs : List Loc) (ls : Array Slot) (h : zf_X8_run N z v1 v2 S = some res) (hl : lv_has ls 4 [(0, .ref (a 25)), (1, .int (v1)), (2, .int (v2))]) (hP : va_P D vwCl (wd_C a cI cL cB cZ z S) H) (hD : va_D A (wd_C a cI cL cB cZ z S)) (hS : va_S A s.heap H locs) : W p l e zr_X8_run s m args below meth c H locs 0 0 Q (F0 m 0 ls []) := by
  obtain ⟨hx, hb, hml, hown, hts, hK, hA⟩ := id C
  unfold zf_X8_run at h
  refine lv_aload_n hx hb dX8_run_0 rfl (lv_at hl 0 rfl) ?_
  refine lv_iload_n hx hb dX8_run_1 rfl (lv_at hl 2 rfl) ?_
  refine mq_put (w := wd_C a cI cL cB cZ z) (S := S) (D := D) (ci := 8) (v := v2) (ty := .int) (C := RX8) (T := TX8) (N := 19) hx hb hts (zi_X8 _) tyX8 tyX8_ok nmX8 hown hK hP hD hS 25 rfl rfl 17 (by decide) (hts _ (List.mem_cons_of_mem _ zt_f_X8_63)) (fun _ h9 => h9) rfl (by decide +kernel) rfl rfl (Nat.le_of_ble_eq_true rfl) dX8_run_2 18 (zs_wd_C_i_25_18 _ _ _ _ _ _ _ _) (fun S1 eS1 H locs hP hD hS => ?_)
  replace h := mq_nS_go eS1 h
  refine lv_aload_n hx hb dX8_run_5 rfl (lv_at hl 0 rfl) ?_
  refine lv_iconst (v := (2 : Int32)) hx hb dX8_run_6 (by decide) ?_
  refine mq_put (w := wd_C a cI cL cB cZ z) (S := S1) (D := D) (ci := 8) (v := (2 : Int32)) (ty := .int) (C := RX8) (T := TX8) (N := 19) hx hb hts (zi_X8 _) tyX8 tyX8_ok nmX8 hown hK hP hD hS 25 rfl rfl 18 (by decide) (hts _ (List.mem_cons_of_mem _ zt_f_X8_67)) (fun _ h9 => h9) rfl (by decide +kernel) rfl rfl (Nat.le_of_ble_eq_true rfl) dX8_run_7 19 (zs_wd_C_i_25_19 _ _ _ _ _ _ _ _) (fun S2 eS2 H locs hP hD hS => ?_)
  replace h := mq_nS_go eS2 h
  refine lv_aload_n hx hb dX8_run_10 rfl (lv_at hl 0 rfl) ?_
  refine lv_iconst (v := (0 : Int32)) hx hb dX8_run_11 (by decide) ?_
  refine mq_put (w := wd_C a cI cL cB cZ z) (S := S2) (D := D) (ci := 8) (v := (0 : Int32)) (ty := .int) (C := RX8) (T := TX8) (N := 19) hx hb hts (zi_X8 _) tyX8 tyX8_ok nmX8 hown hK hP hD hS 25 rfl rfl 13 (by decide) (hts _ (List.mem_cons_of_mem _ zt_f_X8_70)) (fun _ h9 => h9) rfl (by decide +kernel) rfl rfl (Nat.le_of_ble_eq_true rfl) dX8_run_12 14 (zs_wd_C_i_25_14 _ _ _ _ _ _ _ _) (fun S3 eS3 H locs hP hD hS => ?_)
  replace h := mq_nS_go eS3 h
  refine lv_aload_n hx hb dX8_run_15 rfl (lv_at hl 0 rfl) ?_
  refine lv_iconst (v := (0 : Int32)) hx hb dX8_run_16 (by decide) ?_
  refine mq_put (w := wd_C a cI cL cB cZ z) (S := S3) (D := D) (ci := 8) (v := (0 : Int32)) (ty := .int) (C := RX8) (T := TX8) (N := 19) hx hb hts (zi_X8 _) tyX8 tyX8_ok nmX8 hown hK hP hD hS 25 rfl rfl 14 (by decide) (hts _ (List.mem_cons_of_mem _ zt_f_X8_73)) (fun _ h9 => h9) rfl (by decide +kernel) rfl rfl (Nat.le_of_ble_eq_true rfl) dX8_run_17 15 (zs_wd_C_i_25_15 _ _ _ _ _ _ _ _) (fun S4 eS4 H locs hP hD hS => ?_)
  replace h := mq_nS_go eS4 h
  refine lv_aload_n hx hb dX8_run_20 rfl (lv_at hl 0 rfl) ?_
  refine va_get (D := D) (ci := 8) (v := .ref (a 41)) (C := RX8) (T := TX8) (N := 19) hx hb hts (zi_X8 _) hown hK hP 25 rfl rfl 11 (by decide) (hts _ (List.mem_cons_of_mem _ zt_f_X8_49)) (fun _ h9 => h9) rfl dX8_run_21 ?_
  refine lv_iconst (v := (0 : Int32)) hx hb dX8_run_24 (by decide) ?_
  obtain ⟨q5, hc6, h⟩ := mq_cl_go h
  refine zv_X3_shorten (a := mq_ad a [41, 42]) (z := z) [41, 42] C zt_m_X8_76 ⟨by decide, by decide⟩ hc6 rfl (by decide) (ws' := (wd_C a cI cL cB cZ z (mq_push S4 q5.2 [20] [22] []))) (zx_wd_C_wd_L_41_42 _ _ _ _ _ _ _ _) hP hD hS hl.1 (Nat.le_of_ble_eq_true rfl) dX8_run_25 (fun H locs hP hD hS => ?_)
  obtain ⟨S7, eS7⟩ : ∃ y, y = mq_push S4 q5.2 [20] [22] [] := ⟨_, rfl⟩
  replace h := mq_nS_go eS7 h
  rw [← eS7] at hP hD
  refine lv_iconst (v := (0 : Int32)) hx hb dX8_run_28 (by decide) ?_
  refine lv_topi (fun x8 ex8 => ?_)
  replace h := mq_nI_go ex8 h
  refine lv_istore_n (lv' := [(3, .int (x8)), (0, .ref (a 25)), (1, .int (v1)), (2, .int (v2))]) hx hb dX8_run_29 rfl hl (by decide) rfl (fun ls hl => ?_)
  exact zw_X8_run_30 C hret N (v1) (x8) S7 H locs ls h (lv_sub hl [1, 2, 0] rfl) hP hD hS
set_option maxHeartbeats 4000000 in
set_option maxRecDepth 100000 in
theorem zm_X8_run (l : Launch) (D : va_G) (a z : Nat → Nat) (cI cL cB cZ : ClassId) (sz N : Nat) (v1 : Int32) (v2 : Int32) (S : mq_St) (res : Int32 × mq_St) (h : zf_X8_run N z v1 v2 S = some res) : Met l yX8_run (zc_X8_run :: mq_T) zr_X8_run (va_Pc [.ref (a 25), .int (v1), .int (v2)] (fun U => U.heap.size = sz ∧ va_P D vwCl (wd_C a cI cL cB cZ z S) U.heap ∧ va_K D vwCl (mq_tys cI cL cB cZ) U ∧ va_D (fun _ => True) (wd_C a cI cL cB cZ z S))) (va_Qi (fun (r : Int32) (u : mq_St) => r = res.1 ∧ u = res.2) (fun u t => va_P D vwCl (wd_C a cI cL cB cZ z u) t.heap ∧ va_K D vwCl (mq_tys cI cL cB cZ) t ∧ va_D (va_A (wd_C a cI cL cB cZ z S) sz) (wd_C a cI cL cB cZ z u)) (va_A (wd_C a cI cL cB cZ z S) sz)) 0 0 (va_A (wd_C a cI cL cB cZ z S) sz) := by
  refine Met.ofW (cc := cX8_run) (maxL := 4) (ret := (some .int)) (by decide) rfl ?_
  intro p e s m args below meth c s₁ B hml hv
  obtain ⟨rfl, hsz, hP, hK, hD0⟩ := hv
  have hr := B.returns
  have hlocks := B.notSynchronized
  have hts := atoms_spec (ws := zc_X8_run :: mq_T) B.pre
  have hown : s.vm.findClass RX8 = some m.cls := findClass_of_methodNamed B.named
  subst hsz
  have hD := hD0.self (sz := s.heap.size)
  generalize hAe : va_A (wd_C a cI cL cB cZ z S) s.heap.size = A at hD ⊢
  have hA : ∀ q : Nat, s.heap.size ≤ q → A q := fun q h => by rw [← hAe]; exact Or.inr h
  have hl := lv_entry ([.ref (a 25), .int (v1), .int (v2)]) (n := 4) (Nat.le_of_ble_eq_true rfl)
  rw [lg_entry_eq]
  generalize (lg_sl ([.ref (a 25), .int (v1), .int (v2)]) ++ List.replicate (4 - (lg_sl ([.ref (a 25), .int (v1), .int (v2)])).length) Slot.unset).toArray = ls at hl ⊢
  have hl : lv_has ls 4 [(0, .ref (a 25)), (1, .int (v1)), (2, .int (v2))] := hl
  refine zw_X8_run_0 (A := A) ⟨B.exec, B.bytes, hml, hown, hts, hK, hA⟩ (fun H locs ls pc dg hP hD hS => ?_) v1 v2 S s.heap [] ls h hl hP hD va_S.rf
  exact W.iret B.exec B.bytes hr (fun t ht hW => ⟨⟨_, _, rfl, ⟨rfl, rfl⟩, by rw [ht]; exact hP, va_K.moved hW.alike hK, hD⟩, hS.F ht⟩) hS.2.2 dg
theorem zt_X8_run_c : zc_X8_run ∈ mq_T := mq_T_mem (mq_t4 (List.mem_of_getElem? (i := 3) rfl)) rfl
theorem zt_X8_run_i : Cond.instanceMethod yX8_run ∈ mq_T := mq_T_mem (mq_t4 (List.mem_of_getElem? (i := 1) rfl)) rfl
theorem zt_X8_run_s : Cond.selects RX8 yX8_run yX8_run ∈ mq_T := mq_T_mem (mq_t4 (List.mem_of_getElem? (i := 2) rfl)) rfl
set_option maxHeartbeats 4000000 in
theorem zk_X8_run {p : Program} {l : Launch} {e : Env} {R : Room} {s : State} {m : MethodId} {args : Array Value} {below : List Frame} {meth : Method} {c : Code} {A : Nat → Prop} {D : va_G} {a z : Nat → Nat} {cI cL cB cZ : ClassId} {Q : State → Prop} {cc : ByteArray} {nL idx pc N : Nat} {own : String} {c1 : Cond} {H : Heap} {locs : List Loc} {ls : Array Slot} {rest : List Value} {S : mq_St} {res : Int32 × mq_St} {v1 : Int32} {v2 : Int32} (C : mq_C p s m args c A D cI cL cB cZ cc nL own c1) (hlk : Cond.methodLink own idx yX8_run ∈ mq_T) (hR : zr_X8_run.frames + 1 ≤ R.frames ∧ 8 + (4 + 11) + zr_X8_run.locals ≤ R.locals) (h : zf_X8_run N z v1 v2 S = some res) (hP : va_P D vwCl (wd_C a cI cL cB cZ z S) H) (hD : va_D A (wd_C a cI cL cB cZ z S)) (hS : va_S A s.heap H locs) (hls : ls.size = nL) (hrest : (rest.map fun v => v.category).sum ≤ 8) (hdg : decode cc pc = .ok (.invokevirtual idx, 3)) (kk : ∀ (H1 : Heap) (locs1 : List Loc), va_P D vwCl (wd_C a cI cL cB cZ z res.2) H1 → va_D A (wd_C a cI cL cB cZ z res.2) → va_S A s.heap H1 locs1 → W p l e R s m args below meth c H1 locs1 0 0 Q (F0 m (pc + 3) ls (.int res.1 :: rest))) : W p l e R s m args below meth c H locs 0 0 Q (F0 m pc ls (.int (v2) :: .int (v1) :: .ref (a 25) :: rest)) := by
  obtain ⟨hx, hb, hml, hown, hts, hK, hA⟩ := C
  have hFc := mq_freeI hD hS hA
  refine va_calli (va_runV (As := [.int (v1), .int (v2)]) (rest := rest) ⟨hx, hb, hml, hown, hts⟩ (zm_X8_run l D a z cI cL cB cZ H.size N v1 v2 S res h) (cwV 2 hts (mq_goodL (mq_wsV hlk zt_X8_run_i zt_X8_run_s zt_ini_X8 zt_X8_run_c)) rfl rfl rfl (by decide +kernel) hR) ⟨fun a U g mk q => ⟨q.1, q.2.1, q.2.2.1, va_K.moved (u := U) (U := U.calling g mk a) (Vm.Alike.refl U.vm) q.2.2.2.1, q.2.2.2.2⟩, zy_C_25 hK hP, fun U hU hW => ⟨rfl, by rw [hU], by rw [hU]; exact hP, va_K.moved hW.alike hK, hD.weaken (fun _ _ _ _ => trivial)⟩⟩ rfl rfl hls rfl (lv_room hrest) hdg ⟨Nat.zero_le _, Nat.zero_le _⟩) hS (fun q _ h => hFc q h) hFc (fun r u t H1 locs ht hvm hw hB hz1 hk1 hS => ?_)
  obtain ⟨rfl, rfl⟩ := hw
  obtain ⟨hP1, hK1, hD1⟩ := hB
  rw [ht] at hP1
  exact kk H1 locs hP1 (hD1.weaken (fun _ _ _ h => hFc _ h)) hS
