/-! ModalDeskModel.fault(I)I -/
def zr_X11_fault : Room := { frames := 0, cells := 0, slots := 0, locals := 0 }
def zc_X11_fault : Cond := .code yX11_fault cX11_fault 2 (some .int)
def zf_X11_fault (N : Nat) (z : Nat → Nat) (v1 : Int32) (S : mq_St) : Option (Int32 × mq_St) := (mq_nS (mq_si S 0 ((0 : Int32))) (fun S1 => (if v1 = (0 : Int32) then (some ((S1.1 4), S1)) else (if v1 = (1 : Int32) then (some ((S1.1 5), S1)) else (some ((-1 : Int32), S1))))))
set_option maxHeartbeats 4000000 in
set_option maxRecDepth 100000 in
theorem zw_X11_fault_0 {p : Program} {l : Launch} {e : Env} {s : State} {m : MethodId} {args : Array Value} {below : List Frame} {meth : Method} {c : Code} {A : Nat → Prop} {D : va_G} {a z : Nat → Nat} {cI cL cB cZ : ClassId} {Q : State → Prop} {N : Nat} {res : Int32 × mq_St} (C : mq_C p s m args c A D cI cL cB cZ cX11_fault 2 RX11 zc_X11_fault) (hret : ∀ (H : Heap) (locs : List Loc) (ls : Array Slot) (pc : Nat), decode cX11_fault pc = .ok (.ireturn, 1) → va_P D vwCl (wd_R a cI cL cB cZ z res.2) H → va_D A (wd_R a cI cL cB cZ z res.2) → va_S A s.heap H locs → W p l e zr_X11_fault s m args below meth c H locs 0 0 Q (F0 m pc ls [.int res.1])) (v1 : Int32) (S : mq_St) (H : Heap) (locs : List Loc) (ls : Array Slot) (h : zf_X11_fault N z v1 S = some res) (hl : lv_has ls 2 [(0, .ref (a 0)), (1, .int (v1))]) (hP : va_P D vwCl (wd_R a cI cL cB cZ z S) H) (hD : va_D A (wd_R a cI cL cB cZ z S)) (hS : va_S A s.heap H locs) : W p l e zr_X11_fault s m args below meth c H locs 0 0 Q (F0 m 0 ls []) := by
  obtain ⟨hx, hb, hml, hown, hts, hK, hA⟩ := id C
  unfold zf_X11_fault at h
  refine lv_aload_n hx hb dX11_fault_0 rfl (lv_at hl 0 rfl) ?_
  refine lv_iconst (v := (0 : Int32)) hx hb dX11_fault_1 (by decide) ?_
  refine mq_put (w := wd_R a cI cL cB cZ z) (S := S) (D := D) (ci := 11) (v := (0 : Int32)) (ty := .int) (C := RX11) (T := TX11) (N := 76) hx hb hts (zi_X11 _) tyX11 tyX11_ok nmX11 hown hK hP hD hS 0 rfl rfl 0 (by decide) (hts _ (List.mem_cons_of_mem _ zt_f_X11_151)) (fun _ h9 => h9) rfl (by decide +kernel) rfl rfl (Nat.le_of_ble_eq_true rfl) dX11_fault_2 0 (zs_wd_R_i_0_0 _ _ _ _ _ _ _ _) (fun S1 eS1 H locs hP hD hS => ?_)
  replace h := mq_nS_go eS1 h
  refine lv_iload_n hx hb dX11_fault_5 rfl (lv_at hl 1 rfl) ?_
  refine lv_if_ne (tgt := 16) hx hb dX11_fault_6 (by decide) (fun c3 => ?_) (fun c3 => ?_)
  · replace h := mq_if c3 h
    refine lv_iload_n hx hb dX11_fault_16 rfl (lv_at hl 1 rfl) ?_
    refine lv_iconst (v := (1 : Int32)) hx hb dX11_fault_17 (by decide) ?_
    refine lv_icmp_ne (tgt := 28) hx hb dX11_fault_18 (by decide) (fun c2 => ?_) (fun c2 => ?_)
    · replace h := mq_if c2 h
      refine lv_iconst (v := (-1 : Int32)) hx hb dX11_fault_28 (by decide) ?_
      cases h
      exact hret H locs ls 29 dX11_fault_29 hP hD hS
    · replace h := mq_it (by simpa using c2) h
      refine lv_aload_n hx hb dX11_fault_21 rfl (lv_at hl 0 rfl) ?_
      refine va_get (D := D) (ci := 11) (v := .int ((S1.1 5))) (C := RX11) (T := TX11) (N := 76) hx hb hts (zi_X11 _) hown hK hP 0 rfl rfl 12 (by decide) (hts _ (List.mem_cons_of_mem _ zt_f_X11_36)) (fun _ h9 => h9) rfl dX11_fault_22 ?_
      refine lv_goto (tgt := 29) hx hb dX11_fault_25 (by decide) ?_
      cases h
      exact hret H locs ls 29 dX11_fault_29 hP hD hS
  · replace h := mq_it (by simpa using c3) h
    refine lv_aload_n hx hb dX11_fault_9 rfl (lv_at hl 0 rfl) ?_
    refine va_get (D := D) (ci := 11) (v := .int ((S1.1 4))) (C := RX11) (T := TX11) (N := 76) hx hb hts (zi_X11 _) hown hK hP 0 rfl rfl 11 (by decide) (hts _ (List.mem_cons_of_mem _ zt_f_X11_255)) (fun _ h9 => h9) rfl dX11_fault_10 ?_
    refine lv_goto (tgt := 29) hx hb dX11_fault_13 (by decide) ?_
    cases h
    exact hret H locs ls 29 dX11_fault_29 hP hD hS
set_option maxHeartbeats 4000000 in
set_option maxRecDepth 100000 in
theorem zm_X11_fault (l : Launch) (D : va_G) (a z : Nat → Nat) (cI cL cB cZ : ClassId) (sz N : Nat) (v1 : Int32) (S : mq_St) (res : Int32 × mq_St) (h : zf_X11_fault N z v1 S = some res) : Met l yX11_fault (zc_X11_fault :: mq_T) zr_X11_fault (va_Pc [.ref (a 0), .int (v1)] (fun U => U.heap.size = sz ∧ va_P D vwCl (wd_R a cI cL cB cZ z S) U.heap ∧ va_K D vwCl (mq_tys cI cL cB cZ) U ∧ va_D (fun _ => True) (wd_R a cI cL cB cZ z S))) (va_Qi (fun (r : Int32) (u : mq_St) => r = res.1 ∧ u = res.2) (fun u t => va_P D vwCl (wd_R a cI cL cB cZ z u) t.heap ∧ va_K D vwCl (mq_tys cI cL cB cZ) t ∧ va_D (va_A (wd_R a cI cL cB cZ z S) sz) (wd_R a cI cL cB cZ z u)) (va_A (wd_R a cI cL cB cZ z S) sz)) 0 0 (va_A (wd_R a cI cL cB cZ z S) sz) := by
  refine Met.ofW (cc := cX11_fault) (maxL := 2) (ret := (some .int)) (by decide) rfl ?_
  intro p e s m args below meth c s₁ B hml hv
  obtain ⟨rfl, hsz, hP, hK, hD0⟩ := hv
  have hr := B.returns
  have hlocks := B.notSynchronized
  have hts := atoms_spec (ws := zc_X11_fault :: mq_T) B.pre
  have hown : s.vm.findClass RX11 = some m.cls := findClass_of_methodNamed B.named
  subst hsz
  have hD := hD0.self (sz := s.heap.size)
  generalize hAe : va_A (wd_R a cI cL cB cZ z S) s.heap.size = A at hD ⊢
  have hA : ∀ q : Nat, s.heap.size ≤ q → A q := fun q h => by rw [← hAe]; exact Or.inr h
  have hl := lv_entry ([.ref (a 0), .int (v1)]) (n := 2) (Nat.le_of_ble_eq_true rfl)
  rw [lg_entry_eq]
  generalize (lg_sl ([.ref (a 0), .int (v1)]) ++ List.replicate (2 - (lg_sl ([.ref (a 0), .int (v1)])).length) Slot.unset).toArray = ls at hl ⊢
  have hl : lv_has ls 2 [(0, .ref (a 0)), (1, .int (v1))] := hl
  refine zw_X11_fault_0 (A := A) ⟨B.exec, B.bytes, hml, hown, hts, hK, hA⟩ (fun H locs ls pc dg hP hD hS => ?_) v1 S s.heap [] ls h hl hP hD va_S.rf
  exact W.iret B.exec B.bytes hr (fun t ht hW => ⟨⟨_, _, rfl, ⟨rfl, rfl⟩, by rw [ht]; exact hP, va_K.moved hW.alike hK, hD⟩, hS.F ht⟩) hS.2.2 dg
theorem zt_X11_fault_c : zc_X11_fault ∈ mq_T := mq_T_mem (mq_t7 (List.mem_of_getElem? (i := 9) rfl)) rfl
theorem zt_X11_fault_i : Cond.instanceMethod yX11_fault ∈ mq_T := mq_T_mem (mq_t7 (List.mem_of_getElem? (i := 7) rfl)) rfl
theorem zt_X11_fault_s : Cond.selects RX11 yX11_fault yX11_fault ∈ mq_T := mq_T_mem (mq_t7 (List.mem_of_getElem? (i := 8) rfl)) rfl
theorem zt_f_X11_63 : Cond.fieldLink RX11 63 "ModalDeskModel" "turned" "[I" ∈ mq_T := mq_T_mem (mq_t5 (List.mem_of_getElem? (i := 198) rfl)) rfl
/-! ModalDeskModel.turnedOf(I)I -/
def zr_X11_turnedOf : Room := { frames := 1, cells := 0, slots := 0, locals := 24 }
def zc_X11_turnedOf : Cond := .code yX11_turnedOf cX11_turnedOf 4 (some .int)
def zf_X11_turnedOf_61 (N : Nat) (z : Nat → Nat) (v1 : Int32) (v2 : Int32) (t0 : Int32) (S : mq_St) : Option (Int32 × mq_St) := (mq_nI (t0) (fun x10 => (mq_ck (v1) 300 (if (S.2.1 2 (v1).toNatClampNeg) = 0 then (some ((1 : Int32), S)) else (if (S.2.1 2 (v1).toNatClampNeg) = 1 then (some ((0 : Int32), S)) else (if (S.2.1 2 (v1).toNatClampNeg) = 2 then (mq_ck (v1) 300 (mq_cl (zf_X11_make N z ((3 : Int32)) ((S.2.1 3 (v1).toNatClampNeg)) ((-1 : Int32)) S) (fun q16v S18 => (some (q16v, S18))))) else (if (S.2.1 2 (v1).toNatClampNeg) = 3 then (mq_ck (v1) 300 (mq_cl (zf_X11_make N z ((2 : Int32)) ((S.2.1 3 (v1).toNatClampNeg)) ((-1 : Int32)) S) (fun q21v S23 => (some (q21v, S23))))) else (if (S.2.1 2 (v1).toNatClampNeg) = 4 then (mq_cl (zf_X11_make N z ((5 : Int32)) (v2) (x10) S) (fun q25v S27 => (some (q25v, S27)))) else (if (S.2.1 2 (v1).toNatClampNeg) = 5 then (mq_cl (zf_X11_make N z ((4 : Int32)) (v2) (x10) S) (fun q29v S31 => (some (q29v, S31)))) else (if (S.2.1 2 (v1).toNatClampNeg) = 6 then (mq_cl (zf_X11_make N z ((7 : Int32)) (v2) ((-1 : Int32)) S) (fun q33v S35 => (some (q33v, S35)))) else (mq_cl (zf_X11_make N z ((6 : Int32)) (v2) ((-1 : Int32)) S) (fun q36v S38 => (some (q36v, S38))))))))))))))
def zf_X11_turnedOf_46 (N : Nat) (z : Nat → Nat) (v1 : Int32) (v2 : Int32) (S : mq_St) : Option (Int32 × mq_St) := (mq_ck (v1) 300 (mq_ck ((S.2.1 4 (v1).toNatClampNeg)) 300 (zf_X11_turnedOf_61 N z (v1) (v2) ((S.2.1 15 ((S.2.1 4 (v1).toNatClampNeg)).toNatClampNeg)) S)))
def zf_X11_turnedOf_25 (N : Nat) (z : Nat → Nat) (v1 : Int32) (t0 : Int32) (S : mq_St) : Option (Int32 × mq_St) := (mq_nI (t0) (fun x5 => (mq_ck (v1) 300 (if (S.2.1 2 (v1).toNatClampNeg) = (4 : Int32) then (zf_X11_turnedOf_46 N z (v1) (x5) S) else (mq_ck (v1) 300 (if (S.2.1 2 (v1).toNatClampNeg) = (5 : Int32) then (zf_X11_turnedOf_46 N z (v1) (x5) S) else (zf_X11_turnedOf_61 N z (v1) (x5) ((-1 : Int32)) S)))))))
def zf_X11_turnedOf (N : Nat) (z : Nat → Nat) (v1 : Int32) (S : mq_St) : Option (Int32 × mq_St) := (mq_ck (v1) 300 (if (S.2.1 2 (v1).toNatClampNeg) ≤ (3 : Int32) then (zf_X11_turnedOf_25 N z (v1) ((-1 : Int32)) S) else (mq_ck (v1) 300 (mq_ck ((S.2.1 3 (v1).toNatClampNeg)) 300 (zf_X11_turnedOf_25 N z (v1) ((S.2.1 15 ((S.2.1 3 (v1).toNatClampNeg)).toNatClampNeg)) S)))))
set_option maxHeartbeats 4000000 in
set_option maxRecDepth 100000 in
theorem zw_X11_turnedOf_61 {p : Program} {l : Launch} {e : Env} {s : State} {m : MethodId} {args : Array Value} {below : List Frame} {meth : Method} {c : Code} {A : Nat → Prop} {D : va_G} {a z : Nat → Nat} {cI cL cB cZ : ClassId} {Q : State → Prop} {N : Nat} {res : Int32 × mq_St} (C : mq_C p s m args c A D cI cL cB cZ cX11_turnedOf 4 RX11 zc_X11_turnedOf) (hret : ∀ (H : Heap) (locs : List Loc) (ls : Array Slot) (pc : Nat), decode cX11_turnedOf pc = .ok (.ireturn, 1) → va_P D vwCl (wd_R a cI cL cB cZ z res.2) H → va_D A (wd_R a cI cL cB cZ z res.2) → va_S A s.heap H locs → W p l e zr_X11_turnedOf s m args below meth c H locs 0 0 Q (F0 m pc ls [.int res.1])) (v1 : Int32) (v2 : Int32) (t0 : Int32) (S : mq_St) (H : Heap) (locs : List Loc) (ls : Array Slot) (h : zf_X11_turnedOf_61 N z v1 v2 t0 S = some res) (hl : lv_has ls 4 [(0, .ref (a 0)), (1, .int (v1)), (2, .int (v2))]) (hP : va_P D vwCl (wd_R a cI cL cB cZ z S) H) (hD : va_D A (wd_R a cI cL cB cZ z S)) (hS : va_S A s.heap H locs) : W p l e zr_X11_turnedOf s m args below meth c H locs 0 0 Q (F0 m 61 ls [.int (t0)]) := by
  obtain ⟨hx, hb, hml, hown, hts, hK, hA⟩ := id C
  unfold zf_X11_turnedOf_61 at h
  refine lv_topi (fun x10 ex10 => ?_)
  replace h := mq_nI_go ex10 h
  refine lv_istore_n (lv' := [(3, .int (x10)), (0, .ref (a 0)), (1, .int (v1)), (2, .int (v2))]) hx hb dX11_turnedOf_61 rfl hl (by decide) rfl (fun ls hl => ?_)
  refine lv_aload_n hx hb dX11_turnedOf_62 rfl (lv_at hl 1 rfl) ?_
  refine va_get (D := D) (ci := 11) (v := .ref (a 3)) (C := RX11) (T := TX11) (N := 76) hx hb hts (zi_X11 _) hown hK hP 0 rfl rfl 5 (by decide) (hts _ (List.mem_cons_of_mem _ zt_f_X11_16)) (fun _ h9 => h9) rfl dX11_turnedOf_63 ?_
  refine lv_iload_n hx hb dX11_turnedOf_66 rfl (lv_at hl 2 rfl) ?_
  have hi11 := mq_ck_in h
  replace h := mq_ck_go h
  refine va_iald (f := S.2.1 2) hx hb hK hP 3 0 rfl rfl hi11 dX11_turnedOf_67 ?_
  by_cases c12 : (S.2.1 2 (v1).toNatClampNeg) = 0
  · refine lv_tableIn (off := 44) (tgt := 112) hx hb dX11_turnedOf_68 (by rw [c12]; decide) (by rw [c12]; decide) (by rw [c12]; rfl) (by decide) ?_
    replace h := mq_it c12 h
    refine lv_iconst (v := (1 : Int32)) hx hb dX11_turnedOf_112 (by decide) ?_
    cases h
    exact hret H locs ls 113 dX11_turnedOf_113 hP hD hS
  replace h := mq_if c12 h
  by_cases c13 : (S.2.1 2 (v1).toNatClampNeg) = 1
  · refine lv_tableIn (off := 46) (tgt := 114) hx hb dX11_turnedOf_68 (by rw [c13]; decide) (by rw [c13]; decide) (by rw [c13]; rfl) (by decide) ?_
    replace h := mq_it c13 h
    refine lv_iconst (v := (0 : Int32)) hx hb dX11_turnedOf_114 (by decide) ?_
    cases h
    exact hret H locs ls 115 dX11_turnedOf_115 hP hD hS
  replace h := mq_if c13 h
  by_cases c14 : (S.2.1 2 (v1).toNatClampNeg) = 2
  · refine lv_tableIn (off := 48) (tgt := 116) hx hb dX11_turnedOf_68 (by rw [c14]; decide) (by rw [c14]; decide) (by rw [c14]; rfl) (by decide) ?_
    replace h := mq_it c14 h
    refine lv_aload_n hx hb dX11_turnedOf_116 rfl (lv_at hl 1 rfl) ?_
    refine lv_iconst (v := (3 : Int32)) hx hb dX11_turnedOf_117 (by decide) ?_
    refine lv_aload_n hx hb dX11_turnedOf_118 rfl (lv_at hl 1 rfl) ?_
    refine va_get (D := D) (ci := 11) (v := .ref (a 4)) (C := RX11) (T := TX11) (N := 76) hx hb hts (zi_X11 _) hown hK hP 0 rfl rfl 6 (by decide) (hts _ (List.mem_cons_of_mem _ zt_f_X11_20)) (fun _ h9 => h9) rfl dX11_turnedOf_119 ?_
    refine lv_iload_n hx hb dX11_turnedOf_122 rfl (lv_at hl 2 rfl) ?_
    have hi15 := mq_ck_in h
    replace h := mq_ck_go h
    refine va_iald (f := S.2.1 3) hx hb hK hP 4 0 rfl rfl hi15 dX11_turnedOf_123 ?_
    refine lv_iconst (v := (-1 : Int32)) hx hb dX11_turnedOf_124 (by decide) ?_
    obtain ⟨q16, hc17, h⟩ := mq_cl_go h
    refine zk_X11_make C zt_m_X11_242 ⟨by decide, by decide⟩ hc17 hP hD hS hl.1 (Nat.le_of_ble_eq_true rfl) dX11_turnedOf_125 (fun H locs hP hD hS => ?_)
    obtain ⟨S18, eS18⟩ : ∃ y, y = q16.2 := ⟨_, rfl⟩
    rw [← eS18] at hP hD h
    cases h
    exact hret H locs ls 128 dX11_turnedOf_128 hP hD hS
  replace h := mq_if c14 h
  by_cases c19 : (S.2.1 2 (v1).toNatClampNeg) = 3
  · refine lv_tableIn (off := 61) (tgt := 129) hx hb dX11_turnedOf_68 (by rw [c19]; decide) (by rw [c19]; decide) (by rw [c19]; rfl) (by decide) ?_
    replace h := mq_it c19 h
    refine lv_aload_n hx hb dX11_turnedOf_129 rfl (lv_at hl 1 rfl) ?_
    refine lv_iconst (v := (2 : Int32)) hx hb dX11_turnedOf_130 (by decide) ?_
    refine lv_aload_n hx hb dX11_turnedOf_131 rfl (lv_at hl 1 rfl) ?_
    refine va_get (D := D) (ci := 11) (v := .ref (a 4)) (C := RX11) (T := TX11) (N := 76) hx hb hts (zi_X11 _) hown hK hP 0 rfl rfl 6 (by decide) (hts _ (List.mem_cons_of_mem _ zt_f_X11_20)) (fun _ h9 => h9) rfl dX11_turnedOf_132 ?_
    refine lv_iload_n hx hb dX11_turnedOf_135 rfl (lv_at hl 2 rfl) ?_
    have hi20 := mq_ck_in h
    replace h := mq_ck_go h
    refine va_iald (f := S.2.1 3) hx hb hK hP 4 0 rfl rfl hi20 dX11_turnedOf_136 ?_
    refine lv_iconst (v := (-1 : Int32)) hx hb dX11_turnedOf_137 (by decide) ?_
    obtain ⟨q21, hc22, h⟩ := mq_cl_go h
    refine zk_X11_make C zt_m_X11_242 ⟨by decide, by decide⟩ hc22 hP hD hS hl.1 (Nat.le_of_ble_eq_true rfl) dX11_turnedOf_138 (fun H locs hP hD hS => ?_)
    obtain ⟨S23, eS23⟩ : ∃ y, y = q21.2 := ⟨_, rfl⟩
    rw [← eS23] at hP hD h
    cases h
    exact hret H locs ls 141 dX11_turnedOf_141 hP hD hS
  replace h := mq_if c19 h
  by_cases c24 : (S.2.1 2 (v1).toNatClampNeg) = 4
  · refine lv_tableIn (off := 74) (tgt := 142) hx hb dX11_turnedOf_68 (by rw [c24]; decide) (by rw [c24]; decide) (by rw [c24]; rfl) (by decide) ?_
    replace h := mq_it c24 h
    refine lv_aload_n hx hb dX11_turnedOf_142 rfl (lv_at hl 1 rfl) ?_
    refine lv_iconst (v := (5 : Int32)) hx hb dX11_turnedOf_143 (by decide) ?_
    refine lv_iload_n hx hb dX11_turnedOf_144 rfl (lv_at hl 3 rfl) ?_
    refine lv_iload_n hx hb dX11_turnedOf_145 rfl (lv_at hl 0 rfl) ?_
    obtain ⟨q25, hc26, h⟩ := mq_cl_go h
    refine zk_X11_make C zt_m_X11_242 ⟨by decide, by decide⟩ hc26 hP hD hS hl.1 (Nat.le_of_ble_eq_true rfl) dX11_turnedOf_146 (fun H locs hP hD hS => ?_)
    obtain ⟨S27, eS27⟩ : ∃ y, y = q25.2 := ⟨_, rfl⟩
    rw [← eS27] at hP hD h
    cases h
    exact hret H locs ls 149 dX11_turnedOf_149 hP hD hS
  replace h := mq_if c24 h
  by_cases c28 : (S.2.1 2 (v1).toNatClampNeg) = 5
  · refine lv_tableIn (off := 82) (tgt := 150) hx hb dX11_turnedOf_68 (by rw [c28]; decide) (by rw [c28]; decide) (by rw [c28]; rfl) (by decide) ?_
    replace h := mq_it c28 h
    refine lv_aload_n hx hb dX11_turnedOf_150 rfl (lv_at hl 1 rfl) ?_
    refine lv_iconst (v := (4 : Int32)) hx hb dX11_turnedOf_151 (by decide) ?_
    refine lv_iload_n hx hb dX11_turnedOf_152 rfl (lv_at hl 3 rfl) ?_
    refine lv_iload_n hx hb dX11_turnedOf_153 rfl (lv_at hl 0 rfl) ?_
    obtain ⟨q29, hc30, h⟩ := mq_cl_go h
    refine zk_X11_make C zt_m_X11_242 ⟨by decide, by decide⟩ hc30 hP hD hS hl.1 (Nat.le_of_ble_eq_true rfl) dX11_turnedOf_154 (fun H locs hP hD hS => ?_)
    obtain ⟨S31, eS31⟩ : ∃ y, y = q29.2 := ⟨_, rfl⟩
    rw [← eS31] at hP hD h
    cases h
    exact hret H locs ls 157 dX11_turnedOf_157 hP hD hS
  replace h := mq_if c28 h
  by_cases c32 : (S.2.1 2 (v1).toNatClampNeg) = 6
  · refine lv_tableIn (off := 90) (tgt := 158) hx hb dX11_turnedOf_68 (by rw [c32]; decide) (by rw [c32]; decide) (by rw [c32]; rfl) (by decide) ?_
    replace h := mq_it c32 h
    refine lv_aload_n hx hb dX11_turnedOf_158 rfl (lv_at hl 1 rfl) ?_
    refine lv_bipush (v := (7 : Int32)) hx hb dX11_turnedOf_159 (by decide) ?_
    refine lv_iload_n hx hb dX11_turnedOf_161 rfl (lv_at hl 3 rfl) ?_
    refine lv_iconst (v := (-1 : Int32)) hx hb dX11_turnedOf_162 (by decide) ?_
    obtain ⟨q33, hc34, h⟩ := mq_cl_go h
    refine zk_X11_make C zt_m_X11_242 ⟨by decide, by decide⟩ hc34 hP hD hS hl.1 (Nat.le_of_ble_eq_true rfl) dX11_turnedOf_163 (fun H locs hP hD hS => ?_)
    obtain ⟨S35, eS35⟩ : ∃ y, y = q33.2 := ⟨_, rfl⟩
    rw [← eS35] at hP hD h
    cases h
    exact hret H locs ls 166 dX11_turnedOf_166 hP hD hS
  replace h := mq_if c32 h
  have nc12 := lv_neT c12 (show Int32.toInt 0 = 0 by decide)
  have nc13 := lv_neT c13 (show Int32.toInt 1 = 1 by decide)
  have nc14 := lv_neT c14 (show Int32.toInt 2 = 2 by decide)
  have nc19 := lv_neT c19 (show Int32.toInt 3 = 3 by decide)
  have nc24 := lv_neT c24 (show Int32.toInt 4 = 4 by decide)
  have nc28 := lv_neT c28 (show Int32.toInt 5 = 5 by decide)
  have nc32 := lv_neT c32 (show Int32.toInt 6 = 6 by decide)
  refine lv_tableOut (tgt := 167) hx hb dX11_turnedOf_68 (by omega) (by decide) ?_
  refine lv_aload_n hx hb dX11_turnedOf_167 rfl (lv_at hl 1 rfl) ?_
  refine lv_bipush (v := (6 : Int32)) hx hb dX11_turnedOf_168 (by decide) ?_
  refine lv_iload_n hx hb dX11_turnedOf_170 rfl (lv_at hl 3 rfl) ?_
  refine lv_iconst (v := (-1 : Int32)) hx hb dX11_turnedOf_171 (by decide) ?_
  obtain ⟨q36, hc37, h⟩ := mq_cl_go h
  refine zk_X11_make C zt_m_X11_242 ⟨by decide, by decide⟩ hc37 hP hD hS hl.1 (Nat.le_of_ble_eq_true rfl) dX11_turnedOf_172 (fun H locs hP hD hS => ?_)
  obtain ⟨S38, eS38⟩ : ∃ y, y = q36.2 := ⟨_, rfl⟩
  rw [← eS38] at hP hD h
  cases h
  exact hret H locs ls 175 dX11_turnedOf_175 hP hD hS
set_option maxHeartbeats 4000000 in
set_option maxRecDepth 100000 in
theorem zw_X11_turnedOf_46 {p : Program} {l : Launch} {e : Env} {s : State} {m : MethodId} {args : Array Value} {below : List Frame} {meth : Method} {c : Code} {A : Nat → Prop} {D : va_G} {a z : Nat → Nat} {cI cL cB cZ : ClassId} {Q : State → Prop} {N : Nat} {res : Int32 × mq_St} (C : mq_C p s m args c A D cI cL cB cZ cX11_turnedOf 4 RX11 zc_X11_turnedOf) (hret : ∀ (H : Heap) (locs : List Loc) (ls : Array Slot) (pc : Nat), decode cX11_turnedOf pc = .ok (.ireturn, 1) → va_P D vwCl (wd_R a cI cL cB cZ z res.2) H → va_D A (wd_R a cI cL cB cZ z res.2) → va_S A s.heap H locs → W p l e zr_X11_turnedOf s m args below meth c H locs 0 0 Q (F0 m pc ls [.int res.1])) (v1 : Int32) (v2 : Int32) (S : mq_St) (H : Heap) (locs : List Loc) (ls : Array Slot) (h : zf_X11_turnedOf_46 N z v1 v2 S = some res) (hl : lv_has ls 4 [(0, .ref (a 0)), (1, .int (v1)), (2, .int (v2))]) (hP : va_P D vwCl (wd_R a cI cL cB cZ z S) H) (hD : va_D A (wd_R a cI cL cB cZ z S)) (hS : va_S A s.heap H locs) : W p l e zr_X11_turnedOf s m args below meth c H locs 0 0 Q (F0 m 46 ls []) := by
  obtain ⟨hx, hb, hml, hown, hts, hK, hA⟩ := id C
  unfold zf_X11_turnedOf_46 at h
  refine lv_aload_n hx hb dX11_turnedOf_46 rfl (lv_at hl 0 rfl) ?_
  refine va_get (D := D) (ci := 11) (v := .ref (a 16)) (C := RX11) (T := TX11) (N := 76) hx hb hts (zi_X11 _) hown hK hP 0 rfl rfl 33 (by decide) (hts _ (List.mem_cons_of_mem _ zt_f_X11_63)) (fun _ h9 => h9) rfl dX11_turnedOf_47 ?_
  refine lv_aload_n hx hb dX11_turnedOf_50 rfl (lv_at hl 0 rfl) ?_
  refine va_get (D := D) (ci := 11) (v := .ref (a 5)) (C := RX11) (T := TX11) (N := 76) hx hb hts (zi_X11 _) hown hK hP 0 rfl rfl 7 (by decide) (hts _ (List.mem_cons_of_mem _ zt_f_X11_23)) (fun _ h9 => h9) rfl dX11_turnedOf_51 ?_
  refine lv_iload_n hx hb dX11_turnedOf_54 rfl (lv_at hl 1 rfl) ?_
  have hi39 := mq_ck_in h
  replace h := mq_ck_go h
  refine va_iald (f := S.2.1 4) hx hb hK hP 5 0 rfl rfl hi39 dX11_turnedOf_55 ?_
  have hi40 := mq_ck_in h
  replace h := mq_ck_go h
  refine va_iald (f := S.2.1 15) hx hb hK hP 16 0 rfl rfl hi40 dX11_turnedOf_56 ?_
  refine lv_goto (tgt := 61) hx hb dX11_turnedOf_57 (by decide) ?_
  exact zw_X11_turnedOf_61 C hret (v1) (v2) ((S.2.1 15 ((S.2.1 4 (v1).toNatClampNeg)).toNatClampNeg)) S H locs ls h (lv_sub hl [0, 1, 2] rfl) hP hD hS
set_option maxHeartbeats 4000000 in
set_option maxRecDepth 100000 in
theorem zw_X11_turnedOf_25 {p : Program} {l : Launch} {e : Env} {s : State} {m : MethodId} {args : Array Value} {below : List Frame} {meth : Method} {c : Code} {A : Nat → Prop} {D : va_G} {a z : Nat → Nat} {cI cL cB cZ : ClassId} {Q : State → Prop} {N : Nat} {res : Int32 × mq_St} (C : mq_C p s m args c A D cI cL cB cZ cX11_turnedOf 4 RX11 zc_X11_turnedOf) (hret : ∀ (H : Heap) (locs : List Loc) (ls : Array Slot) (pc : Nat), decode cX11_turnedOf pc = .ok (.ireturn, 1) → va_P D vwCl (wd_R a cI cL cB cZ z res.2) H → va_D A (wd_R a cI cL cB cZ z res.2) → va_S A s.heap H locs → W p l e zr_X11_turnedOf s m args below meth c H locs 0 0 Q (F0 m pc ls [.int res.1])) (v1 : Int32) (t0 : Int32) (S : mq_St) (H : Heap) (locs : List Loc) (ls : Array Slot) (h : zf_X11_turnedOf_25 N z v1 t0 S = some res) (hl : lv_has ls 4 [(0, .ref (a 0)), (1, .int (v1))]) (hP : va_P D vwCl (wd_R a cI cL cB cZ z S) H) (hD : va_D A (wd_R a cI cL cB cZ z S)) (hS : va_S A s.heap H locs) : W p l e zr_X11_turnedOf s m args below meth c H locs 0 0 Q (F0 m 25 ls [.int (t0)]) := by
  obtain ⟨hx, hb, hml, hown, hts, hK, hA⟩ := id C
  unfold zf_X11_turnedOf_25 at h
  refine lv_topi (fun x5 ex5 => ?_)
  replace h := mq_nI_go ex5 h
  refine lv_istore_n (lv' := [(2, .int (x5)), (0, .ref (a 0)), (1, .int (v1))]) hx hb dX11_turnedOf_25 rfl hl (by decide) rfl (fun ls hl => ?_)
  refine lv_aload_n hx hb dX11_turnedOf_26 rfl (lv_at hl 1 rfl) ?_
  refine va_get (D := D) (ci := 11) (v := .ref (a 3)) (C := RX11) (T := TX11) (N := 76) hx hb hts (zi_X11 _) hown hK hP 0 rfl rfl 5 (by decide) (hts _ (List.mem_cons_of_mem _ zt_f_X11_16)) (fun _ h9 => h9) rfl dX11_turnedOf_27 ?_
  refine lv_iload_n hx hb dX11_turnedOf_30 rfl (lv_at hl 2 rfl) ?_
  have hi6 := mq_ck_in h
  replace h := mq_ck_go h
  refine va_iald (f := S.2.1 2) hx hb hK hP 3 0 rfl rfl hi6 dX11_turnedOf_31 ?_
  refine lv_iconst (v := (4 : Int32)) hx hb dX11_turnedOf_32 (by decide) ?_
  refine lv_icmp_eq (tgt := 46) hx hb dX11_turnedOf_33 (by decide) (fun c9 => ?_) (fun c9 => ?_)
  · replace h := mq_it c9 h
    exact zw_X11_turnedOf_46 C hret (v1) (x5) S H locs ls h (lv_sub hl [1, 2, 0] rfl) hP hD hS
  · replace h := mq_if c9 h
    refine lv_aload_n hx hb dX11_turnedOf_36 rfl (lv_at hl 1 rfl) ?_
    refine va_get (D := D) (ci := 11) (v := .ref (a 3)) (C := RX11) (T := TX11) (N := 76) hx hb hts (zi_X11 _) hown hK hP 0 rfl rfl 5 (by decide) (hts _ (List.mem_cons_of_mem _ zt_f_X11_16)) (fun _ h9 => h9) rfl dX11_turnedOf_37 ?_
    refine lv_iload_n hx hb dX11_turnedOf_40 rfl (lv_at hl 2 rfl) ?_
    have hi7 := mq_ck_in h
    replace h := mq_ck_go h
    refine va_iald (f := S.2.1 2) hx hb hK hP 3 0 rfl rfl hi7 dX11_turnedOf_41 ?_
    refine lv_iconst (v := (5 : Int32)) hx hb dX11_turnedOf_42 (by decide) ?_
    refine lv_icmp_ne (tgt := 60) hx hb dX11_turnedOf_43 (by decide) (fun c8 => ?_) (fun c8 => ?_)
    · replace h := mq_if c8 h
      refine lv_iconst (v := (-1 : Int32)) hx hb dX11_turnedOf_60 (by decide) ?_
      exact zw_X11_turnedOf_61 C hret (v1) (x5) ((-1 : Int32)) S H locs ls h (lv_sub hl [1, 2, 0] rfl) hP hD hS
    · replace h := mq_it (by simpa using c8) h
      exact zw_X11_turnedOf_46 C hret (v1) (x5) S H locs ls h (lv_sub hl [1, 2, 0] rfl) hP hD hS
set_option maxHeartbeats 4000000 in
set_option maxRecDepth 100000 in
theorem zw_X11_turnedOf_0 {p : Program} {l : Launch} {e : Env} {s : State} {m : MethodId} {args : Array Value} {below : List Frame} {meth : Method} {c : Code} {A : Nat → Prop} {D : va_G} {a z : Nat → Nat} {cI cL cB cZ : ClassId} {Q : State → Prop} {N : Nat} {res : Int32 × mq_St} (C : mq_C p s m args c A D cI cL cB cZ cX11_turnedOf 4 RX11 zc_X11_turnedOf) (hret : ∀ (H : Heap) (locs : List Loc) (ls : Array Slot) (pc : Nat), decode cX11_turnedOf pc = .ok (.ireturn, 1) → va_P D vwCl (wd_R a cI cL cB cZ z res.2) H → va_D A (wd_R a cI cL cB cZ z res.2) → va_S A s.heap H locs → W p l e zr_X11_turnedOf s m args below meth c H locs 0 0 Q (F0 m pc ls [.int res.1])) (v1 : Int32) (S : mq_St) (H : Heap) (locs : List Loc) (ls : Array Slot) (h : zf_X11_turnedOf N z v1 S = some res) (hl : lv_has ls 4 [(0, .ref (a 0)), (1, .int (v1))]) (hP : va_P D vwCl (wd_R a cI cL cB cZ z S) H) (hD : va_D A (wd_R a cI cL cB cZ z S)) (hS : va_S A s.heap H locs) : W p l e zr_X11_turnedOf s m args below meth c H locs 0 0 Q (F0 m 0 ls []) := by
  obtain ⟨hx, hb, hml, hown, hts, hK, hA⟩ := id C
  unfold zf_X11_turnedOf at h
  refine lv_aload_n hx hb dX11_turnedOf_0 rfl (lv_at hl 0 rfl) ?_
  refine va_get (D := D) (ci := 11) (v := .ref (a 3)) (C := RX11) (T := TX11) (N := 76) hx hb hts (zi_X11 _) hown hK hP 0 rfl rfl 5 (by decide) (hts _ (List.mem_cons_of_mem _ zt_f_X11_16)) (fun _ h9 => h9) rfl dX11_turnedOf_1 ?_
  refine lv_iload_n hx hb dX11_turnedOf_4 rfl (lv_at hl 1 rfl) ?_
  have hi1 := mq_ck_in h
  replace h := mq_ck_go h
  refine va_iald (f := S.2.1 2) hx hb hK hP 3 0 rfl rfl hi1 dX11_turnedOf_5 ?_
  refine lv_iconst (v := (3 : Int32)) hx hb dX11_turnedOf_6 (by decide) ?_
  refine lv_icmp_le (tgt := 24) hx hb dX11_turnedOf_7 (by decide) (fun c4 => ?_) (fun c4 => ?_)
  · replace h := mq_it c4 h
    refine lv_iconst (v := (-1 : Int32)) hx hb dX11_turnedOf_24 (by decide) ?_
    exact zw_X11_turnedOf_25 C hret (v1) ((-1 : Int32)) S H locs ls h (lv_sub hl [0, 1] rfl) hP hD hS
  · replace h := mq_if c4 h
    refine lv_aload_n hx hb dX11_turnedOf_10 rfl (lv_at hl 0 rfl) ?_
    refine va_get (D := D) (ci := 11) (v := .ref (a 16)) (C := RX11) (T := TX11) (N := 76) hx hb hts (zi_X11 _) hown hK hP 0 rfl rfl 33 (by decide) (hts _ (List.mem_cons_of_mem _ zt_f_X11_63)) (fun _ h9 => h9) rfl dX11_turnedOf_11 ?_
    refine lv_aload_n hx hb dX11_turnedOf_14 rfl (lv_at hl 0 rfl) ?_
    refine va_get (D := D) (ci := 11) (v := .ref (a 4)) (C := RX11) (T := TX11) (N := 76) hx hb hts (zi_X11 _) hown hK hP 0 rfl rfl 6 (by decide) (hts _ (List.mem_cons_of_mem _ zt_f_X11_20)) (fun _ h9 => h9) rfl dX11_turnedOf_15 ?_
    refine lv_iload_n hx hb dX11_turnedOf_18 rfl (lv_at hl 1 rfl) ?_
    have hi2 := mq_ck_in h
    replace h := mq_ck_go h
    refine va_iald (f := S.2.1 3) hx hb hK hP 4 0 rfl rfl hi2 dX11_turnedOf_19 ?_
    have hi3 := mq_ck_in h
    replace h := mq_ck_go h
    refine va_iald (f := S.2.1 15) hx hb hK hP 16 0 rfl rfl hi3 dX11_turnedOf_20 ?_
    refine lv_goto (tgt := 25) hx hb dX11_turnedOf_21 (by decide) ?_
    exact zw_X11_turnedOf_25 C hret (v1) ((S.2.1 15 ((S.2.1 3 (v1).toNatClampNeg)).toNatClampNeg)) S H locs ls h (lv_sub hl [0, 1] rfl) hP hD hS
set_option maxHeartbeats 4000000 in
set_option maxRecDepth 100000 in
theorem zm_X11_turnedOf (l : Launch) (D : va_G) (a z : Nat → Nat) (cI cL cB cZ : ClassId) (sz N : Nat) (v1 : Int32) (S : mq_St) (res : Int32 × mq_St) (h : zf_X11_turnedOf N z v1 S = some res) : Met l yX11_turnedOf (zc_X11_turnedOf :: mq_T) zr_X11_turnedOf (va_Pc [.ref (a 0), .int (v1)] (fun U => U.heap.size = sz ∧ va_P D vwCl (wd_R a cI cL cB cZ z S) U.heap ∧ va_K D vwCl (mq_tys cI cL cB cZ) U ∧ va_D (fun _ => True) (wd_R a cI cL cB cZ z S))) (va_Qi (fun (r : Int32) (u : mq_St) => r = res.1 ∧ u = res.2) (fun u t => va_P D vwCl (wd_R a cI cL cB cZ z u) t.heap ∧ va_K D vwCl (mq_tys cI cL cB cZ) t ∧ va_D (va_A (wd_R a cI cL cB cZ z S) sz) (wd_R a cI cL cB cZ z u)) (va_A (wd_R a cI cL cB cZ z S) sz)) 0 0 (va_A (wd_R a cI cL cB cZ z S) sz) := by
  refine Met.ofW (cc := cX11_turnedOf) (maxL := 4) (ret := (some .int)) (by decide) rfl ?_
  intro p e s m args below meth c s₁ B hml hv
  obtain ⟨rfl, hsz, hP, hK, hD0⟩ := hv
  have hr := B.returns
  have hlocks := B.notSynchronized
  have hts := atoms_spec (ws := zc_X11_turnedOf :: mq_T) B.pre
  have hown : s.vm.findClass RX11 = some m.cls := findClass_of_methodNamed B.named
  subst hsz
  have hD := hD0.self (sz := s.heap.size)
  generalize hAe : va_A (wd_R a cI cL cB cZ z S) s.heap.size = A at hD ⊢
  have hA : ∀ q : Nat, s.heap.size ≤ q → A q := fun q h => by rw [← hAe]; exact Or.inr h
  have hl := lv_entry ([.ref (a 0), .int (v1)]) (n := 4) (Nat.le_of_ble_eq_true rfl)
  rw [lg_entry_eq]
  generalize (lg_sl ([.ref (a 0), .int (v1)]) ++ List.replicate (4 - (lg_sl ([.ref (a 0), .int (v1)])).length) Slot.unset).toArray = ls at hl ⊢
  have hl : lv_has ls 4 [(0, .ref (a 0)), (1, .int (v1))] := hl
  refine zw_X11_turnedOf_0 (A := A) ⟨B.exec, B.bytes, hml, hown, hts, hK, hA⟩ (fun H locs ls pc dg hP hD hS => ?_) v1 S s.heap [] ls h hl hP hD va_S.rf
  exact W.iret B.exec B.bytes hr (fun t ht hW => ⟨⟨_, _, rfl, ⟨rfl, rfl⟩, by rw [ht]; exact hP, va_K.moved hW.alike hK, hD⟩, hS.F ht⟩) hS.2.2 dg
theorem zt_X11_turnedOf_c : zc_X11_turnedOf ∈ mq_T := mq_T_mem (mq_t7 (List.mem_of_getElem? (i := 25) rfl)) rfl
theorem zt_X11_turnedOf_i : Cond.instanceMethod yX11_turnedOf ∈ mq_T := mq_T_mem (mq_t7 (List.mem_of_getElem? (i := 24) rfl)) rfl
theorem zt_X11_turnedOf_s : Cond.selects RX11 yX11_turnedOf yX11_turnedOf ∈ mq_T := mq_T_at 83 (by decide +kernel)
set_option maxHeartbeats 4000000 in
theorem zk_X11_turnedOf {p : Program} {l : Launch} {e : Env} {R : Room} {s : State} {m : MethodId} {args : Array Value} {below : List Frame} {meth : Method} {c : Code} {A : Nat → Prop} {D : va_G} {a z : Nat → Nat} {cI cL cB cZ : ClassId} {Q : State → Prop} {cc : ByteArray} {nL idx pc N : Nat} {own : String} {c1 : Cond} {H : Heap} {locs : List Loc} {ls : Array Slot} {rest : List Value} {S : mq_St} {res : Int32 × mq_St} {v1 : Int32} (C : mq_C p s m args c A D cI cL cB cZ cc nL own c1) (hlk : Cond.methodLink own idx yX11_turnedOf ∈ mq_T) (hR : zr_X11_turnedOf.frames + 1 ≤ R.frames ∧ 8 + (4 + 11) + zr_X11_turnedOf.locals ≤ R.locals) (h : zf_X11_turnedOf N z v1 S = some res) (hP : va_P D vwCl (wd_R a cI cL cB cZ z S) H) (hD : va_D A (wd_R a cI cL cB cZ z S)) (hS : va_S A s.heap H locs) (hls : ls.size = nL) (hrest : (rest.map fun v => v.category).sum ≤ 8) (hdg : decode cc pc = .ok (.invokevirtual idx, 3)) (kk : ∀ (H1 : Heap) (locs1 : List Loc), va_P D vwCl (wd_R a cI cL cB cZ z res.2) H1 → va_D A (wd_R a cI cL cB cZ z res.2) → va_S A s.heap H1 locs1 → W p l e R s m args below meth c H1 locs1 0 0 Q (F0 m (pc + 3) ls (.int res.1 :: rest))) : W p l e R s m args below meth c H locs 0 0 Q (F0 m pc ls (.int (v1) :: .ref (a 0) :: rest)) := by
  obtain ⟨hx, hb, hml, hown, hts, hK, hA⟩ := C
  have hFc := mq_freeI hD hS hA
  refine va_calli (va_runV (As := [.int (v1)]) (rest := rest) ⟨hx, hb, hml, hown, hts⟩ (zm_X11_turnedOf l D a z cI cL cB cZ H.size N v1 S res h) (cwV 1 hts (mq_goodL (mq_wsV hlk zt_X11_turnedOf_i zt_X11_turnedOf_s zt_ini_X11 zt_X11_turnedOf_c)) rfl rfl rfl (by decide +kernel) hR) ⟨fun a U g mk q => ⟨q.1, q.2.1, q.2.2.1, va_K.moved (u := U) (U := U.calling g mk a) (Vm.Alike.refl U.vm) q.2.2.2.1, q.2.2.2.2⟩, zy_R_0 hK hP, fun U hU hW => ⟨rfl, by rw [hU], by rw [hU]; exact hP, va_K.moved hW.alike hK, hD.weaken (fun _ _ _ _ => trivial)⟩⟩ rfl rfl hls rfl (lv_room hrest) hdg ⟨Nat.zero_le _, Nat.zero_le _⟩) hS (fun q _ h => hFc q h) hFc (fun r u t H1 locs ht hvm hw hB hz1 hk1 hS => ?_)
  obtain ⟨rfl, rfl⟩ := hw
  obtain ⟨hP1, hK1, hD1⟩ := hB
  rw [ht] at hP1
  exact kk H1 locs hP1 (hD1.weaken (fun _ _ _ h => hFc _ h)) hS
theorem zt_m_X11_261 : Cond.methodLink RX11 261 yX11_turnedOf ∈ mq_T := mq_T_mem (mq_t7 (List.mem_of_getElem? (i := 22) rfl)) rfl
theorem zs_wd_R_a_16_15 (a z : Nat → Nat) (cI cL cB cZ : ClassId) (S : mq_St) (f : Nat → Int32) : (wd_R a cI cL cB cZ z S).set 16 (a 16, .inl (cI, 300, .inl f)) = (wd_R a cI cL cB cZ z (mq_sa S 15 f)) := rfl
/-! ModalDeskModel.turn(I)I -/
def zr_X11_turn : Room := { frames := 2, cells := 0, slots := 0, locals := 47 }
def zc_X11_turn : Cond := .code yX11_turn cX11_turn 4 (some .int)
def zf_X11_turn_148 (N : Nat) (z : Nat → Nat) (k9 : Int32 → Int32 → mq_St → Option (Int32 × mq_St)) (v1 : Int32) (v2 : Int32) (S : mq_St) : Option (Int32 × mq_St) := (k9 (v1) (v2) S)
def zf_X11_turn_134 (N : Nat) (z : Nat → Nat) (k9 : Int32 → Int32 → mq_St → Option (Int32 × mq_St)) (v1 : Int32) (v2 : Int32) (v3 : Int32) (S : mq_St) : Option (Int32 × mq_St) := (mq_cl (zf_X11_turnedOf N z (v3) S) (fun q24v S26 => (mq_ck (v3) 300 (mq_nS (mq_sa S26 15 (upd (S26.2.1 15) (v3).toNatClampNeg (q24v))) (fun S28 => (mq_nI (v2 + (-1 : Int32)) (fun x29 => (zf_X11_turn_148 N z k9 (v1) (x29) S28))))))))
def zf_X11_turn_101 (N : Nat) (z : Nat → Nat) (k9 : Int32 → Int32 → mq_St → Option (Int32 × mq_St)) (v1 : Int32) (v2 : Int32) (v3 : Int32) (S : mq_St) : Option (Int32 × mq_St) := (mq_ck (v3) 300 (mq_ck ((S.2.1 4 (v3).toNatClampNeg)) 300 (if (S.2.1 15 ((S.2.1 4 (v3).toNatClampNeg)).toNatClampNeg) = (-1 : Int32) then (mq_ck (v3) 300 (mq_ck (v2) 3000 (mq_nS (mq_sa S 14 (upd (S.2.1 14) (v2).toNatClampNeg ((S.2.1 4 (v3).toNatClampNeg)))) (fun S34 => (mq_nI (v2 + (1 : Int32)) (fun x35 => (zf_X11_turn_148 N z k9 (v1) (x35) S34))))))) else (zf_X11_turn_134 N z k9 (v1) (v2) (v3) S))))
def zf_X11_turn_81 (N : Nat) (z : Nat → Nat) (k9 : Int32 → Int32 → mq_St → Option (Int32 × mq_St)) (v1 : Int32) (v2 : Int32) (v3 : Int32) (S : mq_St) : Option (Int32 × mq_St) := (mq_ck (v3) 300 (if (S.2.1 2 (v3).toNatClampNeg) = (4 : Int32) then (zf_X11_turn_101 N z k9 (v1) (v2) (v3) S) else (mq_ck (v3) 300 (if (S.2.1 2 (v3).toNatClampNeg) = (5 : Int32) then (zf_X11_turn_101 N z k9 (v1) (v2) (v3) S) else (zf_X11_turn_134 N z k9 (v1) (v2) (v3) S)))))
def zf_X11_turn_9b (N : Nat) (z : Nat → Nat) (k9 : Int32 → Int32 → mq_St → Option (Int32 × mq_St)) (v1 : Int32) (v2 : Int32) (S : mq_St) : Option (Int32 × mq_St) := (if v2 ≤ (0 : Int32) then (mq_ck (v1) 300 (some ((S.2.1 15 (v1).toNatClampNeg), S))) else (mq_ck ((v2 - (1 : Int32))) 3000 (mq_nI ((S.2.1 14 ((v2 - (1 : Int32))).toNatClampNeg)) (fun x6 => (mq_ck (x6) 300 (if (S.2.1 15 (x6).toNatClampNeg) = (-1 : Int32) then (mq_ck (x6) 300 (if (S.2.1 2 (x6).toNatClampNeg) ≤ (3 : Int32) then (zf_X11_turn_81 N z k9 (v1) (v2) (x6) S) else (mq_ck (x6) 300 (mq_ck ((S.2.1 3 (x6).toNatClampNeg)) 300 (if (S.2.1 15 ((S.2.1 3 (x6).toNatClampNeg)).toNatClampNeg) = (-1 : Int32) then (mq_ck (x6) 300 (mq_ck (v2) 3000 (mq_nS (mq_sa S 14 (upd (S.2.1 14) (v2).toNatClampNeg ((S.2.1 3 (x6).toNatClampNeg)))) (fun S13 => (mq_nI (v2 + (1 : Int32)) (fun x14 => (zf_X11_turn_148 N z k9 (v1) (x14) S13))))))) else (zf_X11_turn_81 N z k9 (v1) (v2) (x6) S)))))) else (mq_nI (v2 + (-1 : Int32)) (fun x17 => (zf_X11_turn_148 N z k9 (v1) (x17) S)))))))))
def zf_X11_turn_9 (N : Nat) (z : Nat → Nat) : Nat → Int32 → Int32 → mq_St → Option (Int32 × mq_St)
  | 0, _, _, _ => none
  | n + 1, v1, v2, S => zf_X11_turn_9b N z (fun v1 v2 S => zf_X11_turn_9 N z n v1 v2 S) v1 v2 S
def zf_X11_turn (N : Nat) (z : Nat → Nat) (v1 : Int32) (S : mq_St) : Option (Int32 × mq_St) := (mq_ck ((0 : Int32)) 3000 (mq_nS (mq_sa S 14 (upd (S.2.1 14) ((0 : Int32)).toNatClampNeg (v1))) (fun S2 => (mq_nI ((1 : Int32)) (fun x3 => (zf_X11_turn_9 N z N (v1) (x3) S2))))))
set_option maxHeartbeats 4000000 in
set_option maxRecDepth 100000 in
theorem zw_X11_turn_148 {p : Program} {l : Launch} {e : Env} {s : State} {m : MethodId} {args : Array Value} {below : List Frame} {meth : Method} {c : Code} {A : Nat → Prop} {D : va_G} {a z : Nat → Nat} {cI cL cB cZ : ClassId} {Q : State → Prop} {N : Nat} {res : Int32 × mq_St} {k9 : Int32 → Int32 → mq_St → Option (Int32 × mq_St)} (C : mq_C p s m args c A D cI cL cB cZ cX11_turn 4 RX11 zc_X11_turn) (hret : ∀ (H : Heap) (locs : List Loc) (ls : Array Slot) (pc : Nat), decode cX11_turn pc = .ok (.ireturn, 1) → va_P D vwCl (wd_R a cI cL cB cZ z res.2) H → va_D A (wd_R a cI cL cB cZ z res.2) → va_S A s.heap H locs → W p l e zr_X11_turn s m args below meth c H locs 0 0 Q (F0 m pc ls [.int res.1])) (hk9 : ∀ (v1 : Int32) (v2 : Int32) (S : mq_St) (H : Heap) (locs : List Loc) (ls : Array Slot), k9 v1 v2 S = some res → lv_has ls 4 [(0, .ref (a 0)), (1, .int (v1)), (2, .int (v2))] → va_P D vwCl (wd_R a cI cL cB cZ z S) H → va_D A (wd_R a cI cL cB cZ z S) → va_S A s.heap H locs → W p l e zr_X11_turn s m args below meth c H locs 0 0 Q (F0 m 9 ls [])) (v1 : Int32) (v2 : Int32) (S : mq_St) (H : Heap) (locs : List Loc) (ls : Array Slot) (h : zf_X11_turn_148 N z k9 v1 v2 S = some res) (hl : lv_has ls 4 [(0, .ref (a 0)), (1, .int (v1)), (2, .int (v2))]) (hP : va_P D vwCl (wd_R a cI cL cB cZ z S) H) (hD : va_D A (wd_R a cI cL cB cZ z S)) (hS : va_S A s.heap H locs) : W p l e zr_X11_turn s m args below meth c H locs 0 0 Q (F0 m 148 ls []) := by
  obtain ⟨hx, hb, hml, hown, hts, hK, hA⟩ := id C
  unfold zf_X11_turn_148 at h
  refine lv_goto (tgt := 9) hx hb dX11_turn_148 (by decide) ?_
  exact hk9 (v1) (v2) S H locs ls h (lv_sub hl [0, 1, 2] rfl) hP hD hS
set_option maxHeartbeats 4000000 in
set_option maxRecDepth 100000 in
theorem zw_X11_turn_134 {p : Program} {l : Launch} {e : Env} {s : State} {m : MethodId} {args : Array Value} {below : List Frame} {meth : Method} {c : Code} {A : Nat → Prop} {D : va_G} {a z : Nat → Nat} {cI cL cB cZ : ClassId} {Q : State → Prop} {N : Nat} {res : Int32 × mq_St} {k9 : Int32 → Int32 → mq_St → Option (Int32 × mq_St)} (C : mq_C p s m args c A D cI cL cB cZ cX11_turn 4 RX11 zc_X11_turn) (hret : ∀ (H : Heap) (locs : List Loc) (ls : Array Slot) (pc : Nat), decode cX11_turn pc = .ok (.ireturn, 1) → va_P D vwCl (wd_R a cI cL cB cZ z res.2) H → va_D A (wd_R a cI cL cB cZ z res.2) → va_S A s.heap H locs → W p l e zr_X11_turn s m args below meth c H locs 0 0 Q (F0 m pc ls [.int res.1])) (hk9 : ∀ (v1 : Int32) (v2 : Int32) (S : mq_St) (H : Heap) (locs : List Loc) (ls : Array Slot), k9 v1 v2 S = some res → lv_has ls 4 [(0, .ref (a 0)), (1, .int (v1)), (2, .int (v2))] → va_P D vwCl (wd_R a cI cL cB cZ z S) H → va_D A (wd_R a cI cL cB cZ z S) → va_S A s.heap H locs → W p l e zr_X11_turn s m args below meth c H locs 0 0 Q (F0 m 9 ls [])) (v1 : Int32) (v2 : Int32) (v3 : Int32) (S : mq_St) (H : Heap) (locs : List Loc) (ls : Array Slot) (h : zf_X11_turn_134 N z k9 v1 v2 v3 S = some res) (hl : lv_has ls 4 [(0, .ref (a 0)), (1, .int (v1)), (2, .int (v2)), (3, .int (v3))]) (hP : va_P D vwCl (wd_R a cI cL cB cZ z S) H) (hD : va_D A (wd_R a cI cL cB cZ z S)) (hS : va_S A s.heap H locs) : W p l e zr_X11_turn s m args below meth c H locs 0 0 Q (F0 m 134 ls []) := by
  obtain ⟨hx, hb, hml, hown, hts, hK, hA⟩ := id C
  unfold zf_X11_turn_134 at h
  refine lv_aload_n hx hb dX11_turn_134 rfl (lv_at hl 0 rfl) ?_
  refine va_get (D := D) (ci := 11) (v := .ref (a 16)) (C := RX11) (T := TX11) (N := 76) hx hb hts (zi_X11 _) hown hK hP 0 rfl rfl 33 (by decide) (hts _ (List.mem_cons_of_mem _ zt_f_X11_63)) (fun _ h9 => h9) rfl dX11_turn_135 ?_
  refine lv_iload_n hx hb dX11_turn_138 rfl (lv_at hl 3 rfl) ?_
  refine lv_aload_n hx hb dX11_turn_139 rfl (lv_at hl 0 rfl) ?_
  refine lv_iload_n hx hb dX11_turn_140 rfl (lv_at hl 3 rfl) ?_
  obtain ⟨q24, hc25, h⟩ := mq_cl_go h
  refine zk_X11_turnedOf C zt_m_X11_261 ⟨by decide, by decide⟩ hc25 hP hD hS hl.1 (Nat.le_of_ble_eq_true rfl) dX11_turn_141 (fun H locs hP hD hS => ?_)
  obtain ⟨S26, eS26⟩ : ∃ y, y = q24.2 := ⟨_, rfl⟩
  rw [← eS26] at hP hD h
  have hi27 := mq_ck_in h
  replace h := mq_ck_go h
  refine mq_iast (w := wd_R a cI cL cB cZ z) (S := S26) (f := S26.2.1 15) hx hb hK hP hD hS 16 0 rfl rfl hi27 dX11_turn_144 15 (zs_wd_R_a_16_15 _ _ _ _ _ _ _ _) (fun S28 eS28 H locs hP hD hS => ?_)
  replace h := mq_nS_go eS28 h
  obtain ⟨x29, ex29⟩ : ∃ y : Int32, y = v2 + (-1 : Int32) := ⟨_, rfl⟩
  replace h := mq_nI_go ex29 h
  refine lv_iinc (v := x29) (lv' := [(2, .int (x29)), (0, .ref (a 0)), (1, .int (v1)), (3, .int (v3))]) hx hb dX11_turn_145 hl (k := 2) rfl (by rw [ex29]; rfl) (by decide) rfl (fun ls hl => ?_)
  exact zw_X11_turn_148 C hret hk9 (v1) (x29) S28 H locs ls h (lv_sub hl [1, 2, 0] rfl) hP hD hS
set_option maxHeartbeats 4000000 in
set_option maxRecDepth 100000 in
theorem zw_X11_turn_101 {p : Program} {l : Launch} {e : Env} {s : State} {m : MethodId} {args : Array Value} {below : List Frame} {meth : Method} {c : Code} {A : Nat → Prop} {D : va_G} {a z : Nat → Nat} {cI cL cB cZ : ClassId} {Q : State → Prop} {N : Nat} {res : Int32 × mq_St} {k9 : Int32 → Int32 → mq_St → Option (Int32 × mq_St)} (C : mq_C p s m args c A D cI cL cB cZ cX11_turn 4 RX11 zc_X11_turn) (hret : ∀ (H : Heap) (locs : List Loc) (ls : Array Slot) (pc : Nat), decode cX11_turn pc = .ok (.ireturn, 1) → va_P D vwCl (wd_R a cI cL cB cZ z res.2) H → va_D A (wd_R a cI cL cB cZ z res.2) → va_S A s.heap H locs → W p l e zr_X11_turn s m args below meth c H locs 0 0 Q (F0 m pc ls [.int res.1])) (hk9 : ∀ (v1 : Int32) (v2 : Int32) (S : mq_St) (H : Heap) (locs : List Loc) (ls : Array Slot), k9 v1 v2 S = some res → lv_has ls 4 [(0, .ref (a 0)), (1, .int (v1)), (2, .int (v2))] → va_P D vwCl (wd_R a cI cL cB cZ z S) H → va_D A (wd_R a cI cL cB cZ z S) → va_S A s.heap H locs → W p l e zr_X11_turn s m args below meth c H locs 0 0 Q (F0 m 9 ls [])) (v1 : Int32) (v2 : Int32) (v3 : Int32) (S : mq_St) (H : Heap) (locs : List Loc) (ls : Array Slot) (h : zf_X11_turn_101 N z k9 v1 v2 v3 S = some res) (hl : lv_has ls 4 [(0, .ref (a 0)), (1, .int (v1)), (2, .int (v2)), (3, .int (v3))]) (hP : va_P D vwCl (wd_R a cI cL cB cZ z S) H) (hD : va_D A (wd_R a cI cL cB cZ z S)) (hS : va_S A s.heap H locs) : W p l e zr_X11_turn s m args below meth c H locs 0 0 Q (F0 m 101 ls []) := by
  obtain ⟨hx, hb, hml, hown, hts, hK, hA⟩ := id C
  unfold zf_X11_turn_101 at h
  refine lv_aload_n hx hb dX11_turn_101 rfl (lv_at hl 0 rfl) ?_
  refine va_get (D := D) (ci := 11) (v := .ref (a 16)) (C := RX11) (T := TX11) (N := 76) hx hb hts (zi_X11 _) hown hK hP 0 rfl rfl 33 (by decide) (hts _ (List.mem_cons_of_mem _ zt_f_X11_63)) (fun _ h9 => h9) rfl dX11_turn_102 ?_
  refine lv_aload_n hx hb dX11_turn_105 rfl (lv_at hl 0 rfl) ?_
  refine va_get (D := D) (ci := 11) (v := .ref (a 5)) (C := RX11) (T := TX11) (N := 76) hx hb hts (zi_X11 _) hown hK hP 0 rfl rfl 7 (by decide) (hts _ (List.mem_cons_of_mem _ zt_f_X11_23)) (fun _ h9 => h9) rfl dX11_turn_106 ?_
  refine lv_iload_n hx hb dX11_turn_109 rfl (lv_at hl 3 rfl) ?_
  have hi30 := mq_ck_in h
  replace h := mq_ck_go h
  refine va_iald (f := S.2.1 4) hx hb hK hP 5 0 rfl rfl hi30 dX11_turn_110 ?_
  have hi31 := mq_ck_in h
  replace h := mq_ck_go h
  refine va_iald (f := S.2.1 15) hx hb hK hP 16 0 rfl rfl hi31 dX11_turn_111 ?_
  refine lv_iconst (v := (-1 : Int32)) hx hb dX11_turn_112 (by decide) ?_
  refine lv_icmp_ne (tgt := 134) hx hb dX11_turn_113 (by decide) (fun c36 => ?_) (fun c36 => ?_)
  · replace h := mq_if c36 h
    exact zw_X11_turn_134 C hret hk9 (v1) (v2) (v3) S H locs ls h (lv_sub hl [0, 1, 2, 3] rfl) hP hD hS
  · replace h := mq_it (by simpa using c36) h
    refine lv_aload_n hx hb dX11_turn_116 rfl (lv_at hl 0 rfl) ?_
    refine va_get (D := D) (ci := 11) (v := .ref (a 15)) (C := RX11) (T := TX11) (N := 76) hx hb hts (zi_X11 _) hown hK hP 0 rfl rfl 31 (by decide) (hts _ (List.mem_cons_of_mem _ zt_f_X11_60)) (fun _ h9 => h9) rfl dX11_turn_117 ?_
    refine lv_iload_n hx hb dX11_turn_120 rfl (lv_at hl 2 rfl) ?_
    refine lv_aload_n hx hb dX11_turn_121 rfl (lv_at hl 0 rfl) ?_
    refine va_get (D := D) (ci := 11) (v := .ref (a 5)) (C := RX11) (T := TX11) (N := 76) hx hb hts (zi_X11 _) hown hK hP 0 rfl rfl 7 (by decide) (hts _ (List.mem_cons_of_mem _ zt_f_X11_23)) (fun _ h9 => h9) rfl dX11_turn_122 ?_
    refine lv_iload_n hx hb dX11_turn_125 rfl (lv_at hl 3 rfl) ?_
    have hi32 := mq_ck_in h
    replace h := mq_ck_go h
    refine va_iald (f := S.2.1 4) hx hb hK hP 5 0 rfl rfl hi32 dX11_turn_126 ?_
    have hi33 := mq_ck_in h
    replace h := mq_ck_go h
    refine mq_iast (w := wd_R a cI cL cB cZ z) (S := S) (f := S.2.1 14) hx hb hK hP hD hS 15 0 rfl rfl hi33 dX11_turn_127 14 (zs_wd_R_a_15_14 _ _ _ _ _ _ _ _) (fun S34 eS34 H locs hP hD hS => ?_)
    replace h := mq_nS_go eS34 h
    obtain ⟨x35, ex35⟩ : ∃ y : Int32, y = v2 + (1 : Int32) := ⟨_, rfl⟩
    replace h := mq_nI_go ex35 h
    refine lv_iinc (v := x35) (lv' := [(2, .int (x35)), (0, .ref (a 0)), (1, .int (v1)), (3, .int (v3))]) hx hb dX11_turn_128 hl (k := 2) rfl (by rw [ex35]; rfl) (by decide) rfl (fun ls hl => ?_)
    refine lv_goto (tgt := 148) hx hb dX11_turn_131 (by decide) ?_
    exact zw_X11_turn_148 C hret hk9 (v1) (x35) S34 H locs ls h (lv_sub hl [1, 2, 0] rfl) hP hD hS
set_option maxHeartbeats 4000000 in
set_option maxRecDepth 100000 in
theorem zw_X11_turn_81 {p : Program} {l : Launch} {e : Env} {s : State} {m : MethodId} {args : Array Value} {below : List Frame} {meth : Method} {c : Code} {A : Nat → Prop} {D : va_G} {a z : Nat → Nat} {cI cL cB cZ : ClassId} {Q : State → Prop} {N : Nat} {res : Int32 × mq_St} {k9 : Int32 → Int32 → mq_St → Option (Int32 × mq_St)} (C : mq_C p s m args c A D cI cL cB cZ cX11_turn 4 RX11 zc_X11_turn) (hret : ∀ (H : Heap) (locs : List Loc) (ls : Array Slot) (pc : Nat), decode cX11_turn pc = .ok (.ireturn, 1) → va_P D vwCl (wd_R a cI cL cB cZ z res.2) H → va_D A (wd_R a cI cL cB cZ z res.2) → va_S A s.heap H locs → W p l e zr_X11_turn s m args below meth c H locs 0 0 Q (F0 m pc ls [.int res.1])) (hk9 : ∀ (v1 : Int32) (v2 : Int32) (S : mq_St) (H : Heap) (locs : List Loc) (ls : Array Slot), k9 v1 v2 S = some res → lv_has ls 4 [(0, .ref (a 0)), (1, .int (v1)), (2, .int (v2))] → va_P D vwCl (wd_R a cI cL cB cZ z S) H → va_D A (wd_R a cI cL cB cZ z S) → va_S A s.heap H locs → W p l e zr_X11_turn s m args below meth c H locs 0 0 Q (F0 m 9 ls [])) (v1 : Int32) (v2 : Int32) (v3 : Int32) (S : mq_St) (H : Heap) (locs : List Loc) (ls : Array Slot) (h : zf_X11_turn_81 N z k9 v1 v2 v3 S = some res) (hl : lv_has ls 4 [(0, .ref (a 0)), (1, .int (v1)), (2, .int (v2)), (3, .int (v3))]) (hP : va_P D vwCl (wd_R a cI cL cB cZ z S) H) (hD : va_D A (wd_R a cI cL cB cZ z S)) (hS : va_S A s.heap H locs) : W p l e zr_X11_turn s m args below meth c H locs 0 0 Q (F0 m 81 ls []) := by
  obtain ⟨hx, hb, hml, hown, hts, hK, hA⟩ := id C
  unfold zf_X11_turn_81 at h
  refine lv_aload_n hx hb dX11_turn_81 rfl (lv_at hl 0 rfl) ?_
  refine va_get (D := D) (ci := 11) (v := .ref (a 3)) (C := RX11) (T := TX11) (N := 76) hx hb hts (zi_X11 _) hown hK hP 0 rfl rfl 5 (by decide) (hts _ (List.mem_cons_of_mem _ zt_f_X11_16)) (fun _ h9 => h9) rfl dX11_turn_82 ?_
  refine lv_iload_n hx hb dX11_turn_85 rfl (lv_at hl 3 rfl) ?_
  have hi20 := mq_ck_in h
  replace h := mq_ck_go h
  refine va_iald (f := S.2.1 2) hx hb hK hP 3 0 rfl rfl hi20 dX11_turn_86 ?_
  refine lv_iconst (v := (4 : Int32)) hx hb dX11_turn_87 (by decide) ?_
  refine lv_icmp_eq (tgt := 101) hx hb dX11_turn_88 (by decide) (fun c23 => ?_) (fun c23 => ?_)
  · replace h := mq_it c23 h
    exact zw_X11_turn_101 C hret hk9 (v1) (v2) (v3) S H locs ls h (lv_sub hl [0, 1, 2, 3] rfl) hP hD hS
  · replace h := mq_if c23 h
    refine lv_aload_n hx hb dX11_turn_91 rfl (lv_at hl 0 rfl) ?_
    refine va_get (D := D) (ci := 11) (v := .ref (a 3)) (C := RX11) (T := TX11) (N := 76) hx hb hts (zi_X11 _) hown hK hP 0 rfl rfl 5 (by decide) (hts _ (List.mem_cons_of_mem _ zt_f_X11_16)) (fun _ h9 => h9) rfl dX11_turn_92 ?_
    refine lv_iload_n hx hb dX11_turn_95 rfl (lv_at hl 3 rfl) ?_
    have hi21 := mq_ck_in h
    replace h := mq_ck_go h
    refine va_iald (f := S.2.1 2) hx hb hK hP 3 0 rfl rfl hi21 dX11_turn_96 ?_
    refine lv_iconst (v := (5 : Int32)) hx hb dX11_turn_97 (by decide) ?_
    refine lv_icmp_ne (tgt := 134) hx hb dX11_turn_98 (by decide) (fun c22 => ?_) (fun c22 => ?_)
    · replace h := mq_if c22 h
      exact zw_X11_turn_134 C hret hk9 (v1) (v2) (v3) S H locs ls h (lv_sub hl [0, 1, 2, 3] rfl) hP hD hS
    · replace h := mq_it (by simpa using c22) h
      exact zw_X11_turn_101 C hret hk9 (v1) (v2) (v3) S H locs ls h (lv_sub hl [0, 1, 2, 3] rfl) hP hD hS
set_option maxHeartbeats 4000000 in
set_option maxRecDepth 100000 in
theorem zw_X11_turn_9b {p : Program} {l : Launch} {e : Env} {s : State} {m : MethodId} {args : Array Value} {below : List Frame} {meth : Method} {c : Code} {A : Nat → Prop} {D : va_G} {a z : Nat → Nat} {cI cL cB cZ : ClassId} {Q : State → Prop} {N : Nat} {res : Int32 × mq_St} {k9 : Int32 → Int32 → mq_St → Option (Int32 × mq_St)} (C : mq_C p s m args c A D cI cL cB cZ cX11_turn 4 RX11 zc_X11_turn) (hret : ∀ (H : Heap) (locs : List Loc) (ls : Array Slot) (pc : Nat), decode cX11_turn pc = .ok (.ireturn, 1) → va_P D vwCl (wd_R a cI cL cB cZ z res.2) H → va_D A (wd_R a cI cL cB cZ z res.2) → va_S A s.heap H locs → W p l e zr_X11_turn s m args below meth c H locs 0 0 Q (F0 m pc ls [.int res.1])) (hk9 : ∀ (v1 : Int32) (v2 : Int32) (S : mq_St) (H : Heap) (locs : List Loc) (ls : Array Slot), k9 v1 v2 S = some res → lv_has ls 4 [(0, .ref (a 0)), (1, .int (v1)), (2, .int (v2))] → va_P D vwCl (wd_R a cI cL cB cZ z S) H → va_D A (wd_R a cI cL cB cZ z S) → va_S A s.heap H locs → W p l e zr_X11_turn s m args below meth c H locs 0 0 Q (F0 m 9 ls [])) (v1 : Int32) (v2 : Int32) (S : mq_St) (H : Heap) (locs : List Loc) (ls : Array Slot) (h : zf_X11_turn_9b N z k9 v1 v2 S = some res) (hl : lv_has ls 4 [(0, .ref (a 0)), (1, .int (v1)), (2, .int (v2))]) (hP : va_P D vwCl (wd_R a cI cL cB cZ z S) H) (hD : va_D A (wd_R a cI cL cB cZ z S)) (hS : va_S A s.heap H locs) : W p l e zr_X11_turn s m args below meth c H locs 0 0 Q (F0 m 9 ls []) := by
  obtain ⟨hx, hb, hml, hown, hts, hK, hA⟩ := id C
  unfold zf_X11_turn_9b at h
  refine lv_iload_n hx hb dX11_turn_9 rfl (lv_at hl 2 rfl) ?_
  refine lv_if_le (tgt := 151) hx hb dX11_turn_10 (by decide) (fun c19 => ?_) (fun c19 => ?_)
  · replace h := mq_it c19 h
    refine lv_aload_n hx hb dX11_turn_151 rfl (lv_at hl 0 rfl) ?_
    refine va_get (D := D) (ci := 11) (v := .ref (a 16)) (C := RX11) (T := TX11) (N := 76) hx hb hts (zi_X11 _) hown hK hP 0 rfl rfl 33 (by decide) (hts _ (List.mem_cons_of_mem _ zt_f_X11_63)) (fun _ h9 => h9) rfl dX11_turn_152 ?_
    refine lv_iload_n hx hb dX11_turn_155 rfl (lv_at hl 1 rfl) ?_
    have hi4 := mq_ck_in h
    replace h := mq_ck_go h
    refine va_iald (f := S.2.1 15) hx hb hK hP 16 0 rfl rfl hi4 dX11_turn_156 ?_
    cases h
    exact hret H locs ls 157 dX11_turn_157 hP hD hS
  · replace h := mq_if c19 h
    refine lv_aload_n hx hb dX11_turn_13 rfl (lv_at hl 0 rfl) ?_
    refine va_get (D := D) (ci := 11) (v := .ref (a 15)) (C := RX11) (T := TX11) (N := 76) hx hb hts (zi_X11 _) hown hK hP 0 rfl rfl 31 (by decide) (hts _ (List.mem_cons_of_mem _ zt_f_X11_60)) (fun _ h9 => h9) rfl dX11_turn_14 ?_
    refine lv_iload_n hx hb dX11_turn_17 rfl (lv_at hl 2 rfl) ?_
    refine lv_iconst (v := (1 : Int32)) hx hb dX11_turn_18 (by decide) ?_
    refine lv_isub hx hb dX11_turn_19 ?_
    have hi5 := mq_ck_in h
    replace h := mq_ck_go h
    refine va_iald (f := S.2.1 14) hx hb hK hP 15 0 rfl rfl hi5 dX11_turn_20 ?_
    refine lv_topi (fun x6 ex6 => ?_)
    replace h := mq_nI_go ex6 h
    refine lv_istore_n (lv' := [(3, .int (x6)), (0, .ref (a 0)), (1, .int (v1)), (2, .int (v2))]) hx hb dX11_turn_21 rfl hl (by decide) rfl (fun ls hl => ?_)
    refine lv_aload_n hx hb dX11_turn_22 rfl (lv_at hl 1 rfl) ?_
    refine va_get (D := D) (ci := 11) (v := .ref (a 16)) (C := RX11) (T := TX11) (N := 76) hx hb hts (zi_X11 _) hown hK hP 0 rfl rfl 33 (by decide) (hts _ (List.mem_cons_of_mem _ zt_f_X11_63)) (fun _ h9 => h9) rfl dX11_turn_23 ?_
    refine lv_iload_n hx hb dX11_turn_26 rfl (lv_at hl 0 rfl) ?_
    have hi7 := mq_ck_in h
    replace h := mq_ck_go h
    refine va_iald (f := S.2.1 15) hx hb hK hP 16 0 rfl rfl hi7 dX11_turn_27 ?_
    refine lv_iconst (v := (-1 : Int32)) hx hb dX11_turn_28 (by decide) ?_
    refine lv_icmp_eq (tgt := 38) hx hb dX11_turn_29 (by decide) (fun c18 => ?_) (fun c18 => ?_)
    · replace h := mq_it c18 h
      refine lv_aload_n hx hb dX11_turn_38 rfl (lv_at hl 1 rfl) ?_
      refine va_get (D := D) (ci := 11) (v := .ref (a 3)) (C := RX11) (T := TX11) (N := 76) hx hb hts (zi_X11 _) hown hK hP 0 rfl rfl 5 (by decide) (hts _ (List.mem_cons_of_mem _ zt_f_X11_16)) (fun _ h9 => h9) rfl dX11_turn_39 ?_
      refine lv_iload_n hx hb dX11_turn_42 rfl (lv_at hl 0 rfl) ?_
      have hi8 := mq_ck_in h
      replace h := mq_ck_go h
      refine va_iald (f := S.2.1 2) hx hb hK hP 3 0 rfl rfl hi8 dX11_turn_43 ?_
      refine lv_iconst (v := (3 : Int32)) hx hb dX11_turn_44 (by decide) ?_
      refine lv_icmp_le (tgt := 81) hx hb dX11_turn_45 (by decide) (fun c16 => ?_) (fun c16 => ?_)
      · replace h := mq_it c16 h
        exact zw_X11_turn_81 C hret hk9 (v1) (v2) (x6) S H locs ls h (lv_sub hl [1, 2, 3, 0] rfl) hP hD hS
      · replace h := mq_if c16 h
        refine lv_aload_n hx hb dX11_turn_48 rfl (lv_at hl 1 rfl) ?_
        refine va_get (D := D) (ci := 11) (v := .ref (a 16)) (C := RX11) (T := TX11) (N := 76) hx hb hts (zi_X11 _) hown hK hP 0 rfl rfl 33 (by decide) (hts _ (List.mem_cons_of_mem _ zt_f_X11_63)) (fun _ h9 => h9) rfl dX11_turn_49 ?_
        refine lv_aload_n hx hb dX11_turn_52 rfl (lv_at hl 1 rfl) ?_
        refine va_get (D := D) (ci := 11) (v := .ref (a 4)) (C := RX11) (T := TX11) (N := 76) hx hb hts (zi_X11 _) hown hK hP 0 rfl rfl 6 (by decide) (hts _ (List.mem_cons_of_mem _ zt_f_X11_20)) (fun _ h9 => h9) rfl dX11_turn_53 ?_
        refine lv_iload_n hx hb dX11_turn_56 rfl (lv_at hl 0 rfl) ?_
        have hi9 := mq_ck_in h
        replace h := mq_ck_go h
        refine va_iald (f := S.2.1 3) hx hb hK hP 4 0 rfl rfl hi9 dX11_turn_57 ?_
        have hi10 := mq_ck_in h
        replace h := mq_ck_go h
        refine va_iald (f := S.2.1 15) hx hb hK hP 16 0 rfl rfl hi10 dX11_turn_58 ?_
        refine lv_iconst (v := (-1 : Int32)) hx hb dX11_turn_59 (by decide) ?_
        refine lv_icmp_ne (tgt := 81) hx hb dX11_turn_60 (by decide) (fun c15 => ?_) (fun c15 => ?_)
        · replace h := mq_if c15 h
          exact zw_X11_turn_81 C hret hk9 (v1) (v2) (x6) S H locs ls h (lv_sub hl [1, 2, 3, 0] rfl) hP hD hS
        · replace h := mq_it (by simpa using c15) h
          refine lv_aload_n hx hb dX11_turn_63 rfl (lv_at hl 1 rfl) ?_
          refine va_get (D := D) (ci := 11) (v := .ref (a 15)) (C := RX11) (T := TX11) (N := 76) hx hb hts (zi_X11 _) hown hK hP 0 rfl rfl 31 (by decide) (hts _ (List.mem_cons_of_mem _ zt_f_X11_60)) (fun _ h9 => h9) rfl dX11_turn_64 ?_
          refine lv_iload_n hx hb dX11_turn_67 rfl (lv_at hl 3 rfl) ?_
          refine lv_aload_n hx hb dX11_turn_68 rfl (lv_at hl 1 rfl) ?_
          refine va_get (D := D) (ci := 11) (v := .ref (a 4)) (C := RX11) (T := TX11) (N := 76) hx hb hts (zi_X11 _) hown hK hP 0 rfl rfl 6 (by decide) (hts _ (List.mem_cons_of_mem _ zt_f_X11_20)) (fun _ h9 => h9) rfl dX11_turn_69 ?_
          refine lv_iload_n hx hb dX11_turn_72 rfl (lv_at hl 0 rfl) ?_
          have hi11 := mq_ck_in h
          replace h := mq_ck_go h
          refine va_iald (f := S.2.1 3) hx hb hK hP 4 0 rfl rfl hi11 dX11_turn_73 ?_
          have hi12 := mq_ck_in h
          replace h := mq_ck_go h
          refine mq_iast (w := wd_R a cI cL cB cZ z) (S := S) (f := S.2.1 14) hx hb hK hP hD hS 15 0 rfl rfl hi12 dX11_turn_74 14 (zs_wd_R_a_15_14 _ _ _ _ _ _ _ _) (fun S13 eS13 H locs hP hD hS => ?_)
          replace h := mq_nS_go eS13 h
          obtain ⟨x14, ex14⟩ : ∃ y : Int32, y = v2 + (1 : Int32) := ⟨_, rfl⟩
          replace h := mq_nI_go ex14 h
          refine lv_iinc (v := x14) (lv' := [(2, .int (x14)), (3, .int (x6)), (0, .ref (a 0)), (1, .int (v1))]) hx hb dX11_turn_75 hl (k := 3) rfl (by rw [ex14]; rfl) (by decide) rfl (fun ls hl => ?_)
          refine lv_goto (tgt := 148) hx hb dX11_turn_78 (by decide) ?_
          exact zw_X11_turn_148 C hret hk9 (v1) (x14) S13 H locs ls h (lv_sub hl [2, 3, 0] rfl) hP hD hS
    · replace h := mq_if c18 h
      obtain ⟨x17, ex17⟩ : ∃ y : Int32, y = v2 + (-1 : Int32) := ⟨_, rfl⟩
      replace h := mq_nI_go ex17 h
      refine lv_iinc (v := x17) (lv' := [(2, .int (x17)), (3, .int (x6)), (0, .ref (a 0)), (1, .int (v1))]) hx hb dX11_turn_32 hl (k := 3) rfl (by rw [ex17]; rfl) (by decide) rfl (fun ls hl => ?_)
      refine lv_goto (tgt := 148) hx hb dX11_turn_35 (by decide) ?_
      exact zw_X11_turn_148 C hret hk9 (v1) (x17) S H locs ls h (lv_sub hl [2, 3, 0] rfl) hP hD hS
set_option maxHeartbeats 4000000 in
set_option maxRecDepth 100000 in
theorem zw_X11_turn_9 {p : Program} {l : Launch} {e : Env} {s : State} {m : MethodId} {args : Array Value} {below : List Frame} {meth : Method} {c : Code} {A : Nat → Prop} {D : va_G} {a z : Nat → Nat} {cI cL cB cZ : ClassId} {Q : State → Prop} {N : Nat} {res : Int32 × mq_St} (C : mq_C p s m args c A D cI cL cB cZ cX11_turn 4 RX11 zc_X11_turn) (hret : ∀ (H : Heap) (locs : List Loc) (ls : Array Slot) (pc : Nat), decode cX11_turn pc = .ok (.ireturn, 1) → va_P D vwCl (wd_R a cI cL cB cZ z res.2) H → va_D A (wd_R a cI cL cB cZ z res.2) → va_S A s.heap H locs → W p l e zr_X11_turn s m args below meth c H locs 0 0 Q (F0 m pc ls [.int res.1])) : ∀ (n : Nat) (v1 : Int32) (v2 : Int32) (S : mq_St) (H : Heap) (locs : List Loc) (ls : Array Slot) (h : zf_X11_turn_9 N z n v1 v2 S = some res) (hl : lv_has ls 4 [(0, .ref (a 0)), (1, .int (v1)), (2, .int (v2))]) (hP : va_P D vwCl (wd_R a cI cL cB cZ z S) H) (hD : va_D A (wd_R a cI cL cB cZ z S)) (hS : va_S A s.heap H locs), W p l e zr_X11_turn s m args below meth c H locs 0 0 Q (F0 m 9 ls []) := by
  intro n
  induction n with
  | zero =>
    intro v1 v2 S H locs ls h hl hP hD hS
    exact nomatch (show (none : Option (Int32 × mq_St)) = some res from h)
  | succ n ih =>
    intro v1 v2 S H locs ls h hl hP hD hS
    exact zw_X11_turn_9b C hret (fun v1 v2 S H locs ls h hl hP hD hS => ih v1 v2 S H locs ls h hl hP hD hS) v1 v2 S H locs ls h hl hP hD hS
set_option maxHeartbeats 4000000 in
set_option maxRecDepth 100000 in
theorem zw_X11_turn_0 {p : Program} {l : Launch} {e : Env} {s : State} {m : MethodId} {args : Array Value} {below : List Frame} {meth : Method} {c : Code} {A : Nat → Prop} {D : va_G} {a z : Nat → Nat} {cI cL cB cZ : ClassId} {Q : State → Prop} {N : Nat} {res : Int32 × mq_St} (C : mq_C p s m args c A D cI cL cB cZ cX11_turn 4 RX11 zc_X11_turn) (hret : ∀ (H : Heap) (locs : List Loc) (ls : Array Slot) (pc : Nat), decode cX11_turn pc = .ok (.ireturn, 1) → va_P D vwCl (wd_R a cI cL cB cZ z res.2) H → va_D A (wd_R a cI cL cB cZ z res.2) → va_S A s.heap H locs → W p l e zr_X11_turn s m args below meth c H locs 0 0 Q (F0 m pc ls [.int res.1])) (v1 : Int32) (S : mq_St) (H : Heap) (locs : List Loc) (ls : Array Slot) (h : zf_X11_turn N z v1 S = some res) (hl : lv_has ls 4 [(0, .ref (a 0)), (1, .int (v1))]) (hP : va_P D vwCl (wd_R a cI cL cB cZ z S) H) (hD : va_D A (wd_R a cI cL cB cZ z S)) (hS : va_S A s.heap H locs) : W p l e zr_X11_turn s m args below meth c H locs 0 0 Q (F0 m 0 ls []) := by
  obtain ⟨hx, hb, hml, hown, hts, hK, hA⟩ := id C
  unfold zf_X11_turn at h
  refine lv_aload_n hx hb dX11_turn_0 rfl (lv_at hl 0 rfl) ?_
  refine va_get (D := D) (ci := 11) (v := .ref (a 15)) (C := RX11) (T := TX11) (N := 76) hx hb hts (zi_X11 _) hown hK hP 0 rfl rfl 31 (by decide) (hts _ (List.mem_cons_of_mem _ zt_f_X11_60)) (fun _ h9 => h9) rfl dX11_turn_1 ?_
  refine lv_iconst (v := (0 : Int32)) hx hb dX11_turn_4 (by decide) ?_
  refine lv_iload_n hx hb dX11_turn_5 rfl (lv_at hl 1 rfl) ?_
  have hi1 := mq_ck_in h
  replace h := mq_ck_go h
  refine mq_iast (w := wd_R a cI cL cB cZ z) (S := S) (f := S.2.1 14) hx hb hK hP hD hS 15 0 rfl rfl hi1 dX11_turn_6 14 (zs_wd_R_a_15_14 _ _ _ _ _ _ _ _) (fun S2 eS2 H locs hP hD hS => ?_)
  replace h := mq_nS_go eS2 h
  refine lv_iconst (v := (1 : Int32)) hx hb dX11_turn_7 (by decide) ?_
  refine lv_topi (fun x3 ex3 => ?_)
  replace h := mq_nI_go ex3 h
  refine lv_istore_n (lv' := [(2, .int (x3)), (0, .ref (a 0)), (1, .int (v1))]) hx hb dX11_turn_8 rfl hl (by decide) rfl (fun ls hl => ?_)
  exact zw_X11_turn_9 C hret N (v1) (x3) S2 H locs ls h (lv_sub hl [1, 2, 0] rfl) hP hD hS
set_option maxHeartbeats 4000000 in
set_option maxRecDepth 100000 in
theorem zm_X11_turn (l : Launch) (D : va_G) (a z : Nat → Nat) (cI cL cB cZ : ClassId) (sz N : Nat) (v1 : Int32) (S : mq_St) (res : Int32 × mq_St) (h : zf_X11_turn N z v1 S = some res) : Met l yX11_turn (zc_X11_turn :: mq_T) zr_X11_turn (va_Pc [.ref (a 0), .int (v1)] (fun U => U.heap.size = sz ∧ va_P D vwCl (wd_R a cI cL cB cZ z S) U.heap ∧ va_K D vwCl (mq_tys cI cL cB cZ) U ∧ va_D (fun _ => True) (wd_R a cI cL cB cZ z S))) (va_Qi (fun (r : Int32) (u : mq_St) => r = res.1 ∧ u = res.2) (fun u t => va_P D vwCl (wd_R a cI cL cB cZ z u) t.heap ∧ va_K D vwCl (mq_tys cI cL cB cZ) t ∧ va_D (va_A (wd_R a cI cL cB cZ z S) sz) (wd_R a cI cL cB cZ z u)) (va_A (wd_R a cI cL cB cZ z S) sz)) 0 0 (va_A (wd_R a cI cL cB cZ z S) sz) := by
  refine Met.ofW (cc := cX11_turn) (maxL := 4) (ret := (some .int)) (by decide) rfl ?_
  intro p e s m args below meth c s₁ B hml hv
  obtain ⟨rfl, hsz, hP, hK, hD0⟩ := hv
  have hr := B.returns
  have hlocks := B.notSynchronized
  have hts := atoms_spec (ws := zc_X11_turn :: mq_T) B.pre
  have hown : s.vm.findClass RX11 = some m.cls := findClass_of_methodNamed B.named
  subst hsz
  have hD := hD0.self (sz := s.heap.size)
  generalize hAe : va_A (wd_R a cI cL cB cZ z S) s.heap.size = A at hD ⊢
  have hA : ∀ q : Nat, s.heap.size ≤ q → A q := fun q h => by rw [← hAe]; exact Or.inr h
  have hl := lv_entry ([.ref (a 0), .int (v1)]) (n := 4) (Nat.le_of_ble_eq_true rfl)
  rw [lg_entry_eq]
  generalize (lg_sl ([.ref (a 0), .int (v1)]) ++ List.replicate (4 - (lg_sl ([.ref (a 0), .int (v1)])).length) Slot.unset).toArray = ls at hl ⊢
  have hl : lv_has ls 4 [(0, .ref (a 0)), (1, .int (v1))] := hl
  refine zw_X11_turn_0 (A := A) ⟨B.exec, B.bytes, hml, hown, hts, hK, hA⟩ (fun H locs ls pc dg hP hD hS => ?_) v1 S s.heap [] ls h hl hP hD va_S.rf
  exact W.iret B.exec B.bytes hr (fun t ht hW => ⟨⟨_, _, rfl, ⟨rfl, rfl⟩, by rw [ht]; exact hP, va_K.moved hW.alike hK, hD⟩, hS.F ht⟩) hS.2.2 dg
theorem zt_X11_turn_c : zc_X11_turn ∈ mq_T := mq_T_mem (mq_t7 (List.mem_of_getElem? (i := 21) rfl)) rfl
theorem zt_X11_turn_i : Cond.instanceMethod yX11_turn ∈ mq_T := mq_T_mem (mq_t7 (List.mem_of_getElem? (i := 20) rfl)) rfl
theorem zt_X11_turn_s : Cond.selects RX11 yX11_turn yX11_turn ∈ mq_T := mq_T_at 82 (by decide +kernel)
set_option maxHeartbeats 4000000 in
theorem zk_X11_turn {p : Program} {l : Launch} {e : Env} {R : Room} {s : State} {m : MethodId} {args : Array Value} {below : List Frame} {meth : Method} {c : Code} {A : Nat → Prop} {D : va_G} {a z : Nat → Nat} {cI cL cB cZ : ClassId} {Q : State → Prop} {cc : ByteArray} {nL idx pc N : Nat} {own : String} {c1 : Cond} {H : Heap} {locs : List Loc} {ls : Array Slot} {rest : List Value} {S : mq_St} {res : Int32 × mq_St} {v1 : Int32} (C : mq_C p s m args c A D cI cL cB cZ cc nL own c1) (hlk : Cond.methodLink own idx yX11_turn ∈ mq_T) (hR : zr_X11_turn.frames + 1 ≤ R.frames ∧ 8 + (4 + 11) + zr_X11_turn.locals ≤ R.locals) (h : zf_X11_turn N z v1 S = some res) (hP : va_P D vwCl (wd_R a cI cL cB cZ z S) H) (hD : va_D A (wd_R a cI cL cB cZ z S)) (hS : va_S A s.heap H locs) (hls : ls.size = nL) (hrest : (rest.map fun v => v.category).sum ≤ 8) (hdg : decode cc pc = .ok (.invokevirtual idx, 3)) (kk : ∀ (H1 : Heap) (locs1 : List Loc), va_P D vwCl (wd_R a cI cL cB cZ z res.2) H1 → va_D A (wd_R a cI cL cB cZ z res.2) → va_S A s.heap H1 locs1 → W p l e R s m args below meth c H1 locs1 0 0 Q (F0 m (pc + 3) ls (.int res.1 :: rest))) : W p l e R s m args below meth c H locs 0 0 Q (F0 m pc ls (.int (v1) :: .ref (a 0) :: rest)) := by
  obtain ⟨hx, hb, hml, hown, hts, hK, hA⟩ := C
  have hFc := mq_freeI hD hS hA
  refine va_calli (va_runV (As := [.int (v1)]) (rest := rest) ⟨hx, hb, hml, hown, hts⟩ (zm_X11_turn l D a z cI cL cB cZ H.size N v1 S res h) (cwV 1 hts (mq_goodL (mq_wsV hlk zt_X11_turn_i zt_X11_turn_s zt_ini_X11 zt_X11_turn_c)) rfl rfl rfl (by decide +kernel) hR) ⟨fun a U g mk q => ⟨q.1, q.2.1, q.2.2.1, va_K.moved (u := U) (U := U.calling g mk a) (Vm.Alike.refl U.vm) q.2.2.2.1, q.2.2.2.2⟩, zy_R_0 hK hP, fun U hU hW => ⟨rfl, by rw [hU], by rw [hU]; exact hP, va_K.moved hW.alike hK, hD.weaken (fun _ _ _ _ => trivial)⟩⟩ rfl rfl hls rfl (lv_room hrest) hdg ⟨Nat.zero_le _, Nat.zero_le _⟩) hS (fun q _ h => hFc q h) hFc (fun r u t H1 locs ht hvm hw hB hz1 hk1 hS => ?_)
  obtain ⟨rfl, rfl⟩ := hw
  obtain ⟨hP1, hK1, hD1⟩ := hB
  rw [ht] at hP1
  exact kk H1 locs hP1 (hD1.weaken (fun _ _ _ h => hFc _ h)) hS
/-! ModalDeskModel.isFormula(I)Z -/
def zr_X11_isFormula : Room := { frames := 1, cells := 0, slots := 0, locals := 22 }
def zc_X11_isFormula : Cond := .code yX11_isFormula cX11_isFormula 2 (some .boolean)
def zf_X11_isFormula (N : Nat) (z : Nat → Nat) (v1 : Int32) (S : mq_St) : Option (Int32) := (mq_cp (zf_X11_in N z (v1) ((0 : Int32)) (((S.1 3) - (1 : Int32))) (mq_pull S [] [] [])) (fun q1 => (mq_cz (q1) (some (q1)))))
set_option maxHeartbeats 4000000 in
set_option maxRecDepth 100000 in
theorem zw_X11_isFormula_0 {p : Program} {l : Launch} {e : Env} {s : State} {m : MethodId} {args : Array Value} {below : List Frame} {meth : Method} {c : Code} {A : Nat → Prop} {D : va_G} {a z : Nat → Nat} {cI cL cB cZ : ClassId} {Q : State → Prop} {N : Nat} {S : mq_St} {res : Int32} (C : mq_C p s m args c A D cI cL cB cZ cX11_isFormula 2 RX11 zc_X11_isFormula) (hret : ∀ (H : Heap) (locs : List Loc) (ls : Array Slot) (pc : Nat), decode cX11_isFormula pc = .ok (.ireturn, 1) → narrow .boolean (.int res) = .int res → va_P D vwCl (wd_R a cI cL cB cZ z S) H → va_D A (wd_R a cI cL cB cZ z S) → va_S A s.heap H locs → W p l e zr_X11_isFormula s m args below meth c H locs 0 0 Q (F0 m pc ls [.int res])) (v1 : Int32) (H : Heap) (locs : List Loc) (ls : Array Slot) (h : zf_X11_isFormula N z v1 S = some res) (hl : lv_has ls 2 [(0, .ref (a 0)), (1, .int (v1))]) (hP : va_P D vwCl (wd_R a cI cL cB cZ z S) H) (hD : va_D A (wd_R a cI cL cB cZ z S)) (hS : va_S A s.heap H locs) : W p l e zr_X11_isFormula s m args below meth c H locs 0 0 Q (F0 m 0 ls []) := by
  obtain ⟨hx, hb, hml, hown, hts, hK, hA⟩ := id C
  unfold zf_X11_isFormula at h
  refine lv_iload_n hx hb dX11_isFormula_0 rfl (lv_at hl 1 rfl) ?_
  refine lv_iconst (v := (0 : Int32)) hx hb dX11_isFormula_1 (by decide) ?_
  refine lv_aload_n hx hb dX11_isFormula_2 rfl (lv_at hl 0 rfl) ?_
  refine va_get (D := D) (ci := 11) (v := .int ((S.1 3))) (C := RX11) (T := TX11) (N := 76) hx hb hts (zi_X11 _) hown hK hP 0 rfl rfl 8 (by decide) (hts _ (List.mem_cons_of_mem _ zt_f_X11_26)) (fun _ h9 => h9) rfl dX11_isFormula_3 ?_
  refine lv_iconst (v := (1 : Int32)) hx hb dX11_isFormula_6 (by decide) ?_
  refine lv_isub hx hb dX11_isFormula_7 ?_
  obtain ⟨q1, hc2, h⟩ := mq_cp_go h
  refine zv_X11_in (a := mq_ad a []) (z := z) [] C zt_m_X11_161 ⟨by decide, by decide⟩ hc2 rfl (by decide) hP hD hS hl.1 (Nat.le_of_ble_eq_true rfl) dX11_isFormula_8 (fun H locs hP hD hS => ?_)
  have hz3 := mq_cz_in h
  replace h := mq_cz_go h
  cases h
  exact hret H locs ls 11 dX11_isFormula_11 hz3.1 hP hD hS
set_option maxHeartbeats 4000000 in
set_option maxRecDepth 100000 in
theorem zm_X11_isFormula (l : Launch) (D : va_G) (a z : Nat → Nat) (cI cL cB cZ : ClassId) (sz N : Nat) (v1 : Int32) (S : mq_St) (res : Int32) (h : zf_X11_isFormula N z v1 S = some res) : Met l yX11_isFormula (zc_X11_isFormula :: mq_T) zr_X11_isFormula (va_Pc [.ref (a 0), .int (v1)] (fun U => U.heap.size = sz ∧ va_P D vwCl (wd_R a cI cL cB cZ z S) U.heap ∧ va_K D vwCl (mq_tys cI cL cB cZ) U ∧ va_D (fun _ => True) (wd_R a cI cL cB cZ z S))) (va_Qi (fun (r : Int32) (u : mq_St) => r = res ∧ u = S) (fun u t => va_P D vwCl (wd_R a cI cL cB cZ z u) t.heap ∧ va_K D vwCl (mq_tys cI cL cB cZ) t ∧ va_D (va_A (wd_R a cI cL cB cZ z S) sz) (wd_R a cI cL cB cZ z u)) (va_A (wd_R a cI cL cB cZ z S) sz)) 0 0 (va_A (wd_R a cI cL cB cZ z S) sz) := by
  refine Met.ofW (cc := cX11_isFormula) (maxL := 2) (ret := (some .boolean)) (by decide) rfl ?_
  intro p e s m args below meth c s₁ B hml hv
  obtain ⟨rfl, hsz, hP, hK, hD0⟩ := hv
  have hr := B.returns
  have hlocks := B.notSynchronized
  have hts := atoms_spec (ws := zc_X11_isFormula :: mq_T) B.pre
  have hown : s.vm.findClass RX11 = some m.cls := findClass_of_methodNamed B.named
  subst hsz
  have hD := hD0.self (sz := s.heap.size)
  generalize hAe : va_A (wd_R a cI cL cB cZ z S) s.heap.size = A at hD ⊢
  have hA : ∀ q : Nat, s.heap.size ≤ q → A q := fun q h => by rw [← hAe]; exact Or.inr h
  have hl := lv_entry ([.ref (a 0), .int (v1)]) (n := 2) (Nat.le_of_ble_eq_true rfl)
  rw [lg_entry_eq]
  generalize (lg_sl ([.ref (a 0), .int (v1)]) ++ List.replicate (2 - (lg_sl ([.ref (a 0), .int (v1)])).length) Slot.unset).toArray = ls at hl ⊢
  have hl : lv_has ls 2 [(0, .ref (a 0)), (1, .int (v1))] := hl
  refine zw_X11_isFormula_0 (A := A) ⟨B.exec, B.bytes, hml, hown, hts, hK, hA⟩ (fun H locs ls pc dg hz hP hD hS => ?_) v1 s.heap [] ls h hl hP hD va_S.rf
  exact W.zret B.exec B.bytes hr hz (fun t ht hW => ⟨⟨_, _, rfl, ⟨rfl, rfl⟩, by rw [ht]; exact hP, va_K.moved hW.alike hK, hD⟩, hS.F ht⟩) hS.2.2 dg
theorem zt_X11_isFormula_c : zc_X11_isFormula ∈ mq_T := mq_T_mem (mq_t7 (List.mem_of_getElem? (i := 17) rfl)) rfl
theorem zt_X11_isFormula_i : Cond.instanceMethod yX11_isFormula ∈ mq_T := mq_T_mem (mq_t7 (List.mem_of_getElem? (i := 16) rfl)) rfl
theorem zt_X11_isFormula_s : Cond.selects RX11 yX11_isFormula yX11_isFormula ∈ mq_T := mq_T_at 81 (by decide +kernel)
set_option maxHeartbeats 4000000 in
theorem zk_X11_isFormula {p : Program} {l : Launch} {e : Env} {R : Room} {s : State} {m : MethodId} {args : Array Value} {below : List Frame} {meth : Method} {c : Code} {A : Nat → Prop} {D : va_G} {a z : Nat → Nat} {cI cL cB cZ : ClassId} {Q : State → Prop} {cc : ByteArray} {nL idx pc N : Nat} {own : String} {c1 : Cond} {H : Heap} {locs : List Loc} {ls : Array Slot} {rest : List Value} {S : mq_St} {res : Int32} {v1 : Int32} (C : mq_C p s m args c A D cI cL cB cZ cc nL own c1) (hlk : Cond.methodLink own idx yX11_isFormula ∈ mq_T) (hR : zr_X11_isFormula.frames + 1 ≤ R.frames ∧ 8 + (2 + 11) + zr_X11_isFormula.locals ≤ R.locals) (h : zf_X11_isFormula N z v1 S = some res) (hP : va_P D vwCl (wd_R a cI cL cB cZ z S) H) (hD : va_D A (wd_R a cI cL cB cZ z S)) (hS : va_S A s.heap H locs) (hls : ls.size = nL) (hrest : (rest.map fun v => v.category).sum ≤ 8) (hdg : decode cc pc = .ok (.invokevirtual idx, 3)) (kk : ∀ (H1 : Heap) (locs1 : List Loc), va_P D vwCl (wd_R a cI cL cB cZ z S) H1 → va_D A (wd_R a cI cL cB cZ z S) → va_S A s.heap H1 locs1 → W p l e R s m args below meth c H1 locs1 0 0 Q (F0 m (pc + 3) ls (.int res :: rest))) : W p l e R s m args below meth c H locs 0 0 Q (F0 m pc ls (.int (v1) :: .ref (a 0) :: rest)) := by
  obtain ⟨hx, hb, hml, hown, hts, hK, hA⟩ := C
  have hFc := mq_freeI hD hS hA
  refine va_calli (va_runV (As := [.int (v1)]) (rest := rest) ⟨hx, hb, hml, hown, hts⟩ (zm_X11_isFormula l D a z cI cL cB cZ H.size N v1 S res h) (cwV 1 hts (mq_goodL (mq_wsV hlk zt_X11_isFormula_i zt_X11_isFormula_s zt_ini_X11 zt_X11_isFormula_c)) rfl rfl rfl (by decide +kernel) hR) ⟨fun a U g mk q => ⟨q.1, q.2.1, q.2.2.1, va_K.moved (u := U) (U := U.calling g mk a) (Vm.Alike.refl U.vm) q.2.2.2.1, q.2.2.2.2⟩, zy_R_0 hK hP, fun U hU hW => ⟨rfl, by rw [hU], by rw [hU]; exact hP, va_K.moved hW.alike hK, hD.weaken (fun _ _ _ _ => trivial)⟩⟩ rfl rfl hls rfl (lv_room hrest) hdg ⟨Nat.zero_le _, Nat.zero_le _⟩) hS (fun q _ h => hFc q h) hFc (fun r u t H1 locs ht hvm hw hB hz1 hk1 hS => ?_)
  obtain ⟨rfl, rfl⟩ := hw
  obtain ⟨hP1, hK1, hD1⟩ := hB
  rw [ht] at hP1
  exact kk H1 locs hP1 (hD1.weaken (fun _ _ _ h => hFc _ h)) hS
theorem zt_m_X11_264 : Cond.methodLink RX11 264 yX11_isFormula ∈ mq_T := mq_T_mem (mq_t7 (List.mem_of_getElem? (i := 14) rfl)) rfl
theorem zt_m_X11_267 : Cond.methodLink RX11 267 yX11_turn ∈ mq_T := mq_T_mem (mq_t7 (List.mem_of_getElem? (i := 18) rfl)) rfl
/-! ModalDeskModel.set(II)I -/
def zr_X11_set : Room := { frames := 3, cells := 0, slots := 0, locals := 70 }
def zc_X11_set : Cond := .code yX11_set cX11_set 5 (some .int)
def zf_X11_set_27b (N : Nat) (z : Nat → Nat) (k27 : Int32 → Int32 → Int32 → mq_St → Option (Int32 × mq_St)) (v1 : Int32) (v2 : Int32) (v3 : Int32) (S : mq_St) : Option (Int32 × mq_St) := (if (300 : Int32) ≤ v3 then (mq_nI ((S.1 3)) (fun x9 => (mq_cz ((0 : Int32)) (mq_nS (mq_si S 6 ((0 : Int32))) (fun S10 => (mq_cl (zf_X11_turn N z (v2) S10) (fun q12v S14 => (mq_nI (q12v) (fun x15 => (if (S14.1 6) = (0 : Int32) then (mq_ck (v1) 8 (mq_nS (mq_sa S14 5 (upd (S14.2.1 5) (v1).toNatClampNeg (v2))) (fun S17 => (mq_ck (v1) 8 (mq_nS (mq_sa S17 6 (upd (S17.2.1 6) (v1).toNatClampNeg (x15))) (fun S19 => (some (x15, S19)))))))) else (mq_nS (mq_si S14 3 (x9)) (fun S20 => (some ((-2 : Int32), S20)))))))))))))) else (mq_ck (v3) 300 (mq_nS (mq_sa S 15 (upd (S.2.1 15) (v3).toNatClampNeg ((-1 : Int32)))) (fun S23 => (mq_nI (v3 + (1 : Int32)) (fun x24 => (k27 (v1) (v2) (x24) S23)))))))
def zf_X11_set_27 (N : Nat) (z : Nat → Nat) : Nat → Int32 → Int32 → Int32 → mq_St → Option (Int32 × mq_St)
  | 0, _, _, _, _ => none
  | n + 1, v1, v2, v3, S => zf_X11_set_27b N z (fun v1 v2 v3 S => zf_X11_set_27 N z n v1 v2 v3 S) v1 v2 v3 S
def zf_X11_set (N : Nat) (z : Nat → Nat) (v1 : Int32) (v2 : Int32) (S : mq_St) : Option (Int32 × mq_St) := (mq_nS (mq_si S 0 ((0 : Int32))) (fun S1 => (mq_cp (zf_X11_in N z (v1) ((0 : Int32)) ((7 : Int32)) (mq_pull S1 [] [] [])) (fun q2 => (if q2 = (0 : Int32) then (some ((-1 : Int32), S1)) else (mq_cp (zf_X11_isFormula N z (v2) S1) (fun q4 => (if q4 = (0 : Int32) then (some ((-1 : Int32), S1)) else (mq_nI ((0 : Int32)) (fun x6 => (zf_X11_set_27 N z N (v1) (v2) (x6) S1)))))))))))
set_option maxHeartbeats 4000000 in
set_option maxRecDepth 100000 in
theorem zw_X11_set_27b {p : Program} {l : Launch} {e : Env} {s : State} {m : MethodId} {args : Array Value} {below : List Frame} {meth : Method} {c : Code} {A : Nat → Prop} {D : va_G} {a z : Nat → Nat} {cI cL cB cZ : ClassId} {Q : State → Prop} {N : Nat} {res : Int32 × mq_St} {k27 : Int32 → Int32 → Int32 → mq_St → Option (Int32 × mq_St)} (C : mq_C p s m args c A D cI cL cB cZ cX11_set 5 RX11 zc_X11_set) (hret : ∀ (H : Heap) (locs : List Loc) (ls : Array Slot) (pc : Nat), decode cX11_set pc = .ok (.ireturn, 1) → va_P D vwCl (wd_R a cI cL cB cZ z res.2) H → va_D A (wd_R a cI cL cB cZ z res.2) → va_S A s.heap H locs → W p l e zr_X11_set s m args below meth c H locs 0 0 Q (F0 m pc ls [.int res.1])) (hk27 : ∀ (v1 : Int32) (v2 : Int32) (v3 : Int32) (S : mq_St) (H : Heap) (locs : List Loc) (ls : Array Slot), k27 v1 v2 v3 S = some res → lv_has ls 5 [(0, .ref (a 0)), (1, .int (v1)), (2, .int (v2)), (3, .int (v3))] → va_P D vwCl (wd_R a cI cL cB cZ z S) H → va_D A (wd_R a cI cL cB cZ z S) → va_S A s.heap H locs → W p l e zr_X11_set s m args below meth c H locs 0 0 Q (F0 m 27 ls [])) (v1 : Int32) (v2 : Int32) (v3 : Int32) (S : mq_St) (H : Heap) (locs : List Loc) (ls : Array Slot) (h : zf_X11_set_27b N z k27 v1 v2 v3 S = some res) (hl : lv_has ls 5 [(0, .ref (a 0)), (1, .int (v1)), (2, .int (v2)), (3, .int (v3))]) (hP : va_P D vwCl (wd_R a cI cL cB cZ z S) H) (hD : va_D A (wd_R a cI cL cB cZ z S)) (hS : va_S A s.heap H locs) : W p l e zr_X11_set s m args below meth c H locs 0 0 Q (F0 m 27 ls []) := by
  obtain ⟨hx, hb, hml, hown, hts, hK, hA⟩ := id C
  unfold zf_X11_set_27b at h
  refine lv_iload_n hx hb dX11_set_27 rfl (lv_at hl 3 rfl) ?_
  refine lv_sipush (v := (300 : Int32)) hx hb dX11_set_28 (by decide) ?_
  refine lv_icmp_ge (tgt := 47) hx hb dX11_set_31 (by decide) (fun c25 => ?_) (fun c25 => ?_)
  · replace h := mq_it c25 h
    refine lv_aload_n hx hb dX11_set_47 rfl (lv_at hl 0 rfl) ?_
    refine va_get (D := D) (ci := 11) (v := .int ((S.1 3))) (C := RX11) (T := TX11) (N := 76) hx hb hts (zi_X11 _) hown hK hP 0 rfl rfl 8 (by decide) (hts _ (List.mem_cons_of_mem _ zt_f_X11_26)) (fun _ h9 => h9) rfl dX11_set_48 ?_
    refine lv_topi (fun x9 ex9 => ?_)
    replace h := mq_nI_go ex9 h
    refine lv_istore_n (lv' := [(3, .int (x9)), (0, .ref (a 0)), (1, .int (v1)), (2, .int (v2))]) hx hb dX11_set_51 rfl hl (by decide) rfl (fun ls hl => ?_)
    refine lv_aload_n hx hb dX11_set_52 rfl (lv_at hl 1 rfl) ?_
    refine lv_iconst (v := (0 : Int32)) hx hb dX11_set_53 (by decide) ?_
    have hz11 := mq_cz_in h
    replace h := mq_cz_go h
    refine mq_put (w := wd_R a cI cL cB cZ z) (S := S) (D := D) (ci := 11) (v := (0 : Int32)) (ty := .boolean) (C := RX11) (T := TX11) (N := 76) hx hb hts (zi_X11 _) tyX11 tyX11_ok nmX11 hown hK hP hD hS 0 rfl rfl 13 (by decide) (hts _ (List.mem_cons_of_mem _ zt_f_X11_168)) (fun _ h9 => h9) rfl (by decide +kernel) hz11.1 hz11.2 (Nat.le_of_ble_eq_true rfl) dX11_set_54 6 (zs_wd_R_i_0_6 _ _ _ _ _ _ _ _) (fun S10 eS10 H locs hP hD hS => ?_)
    replace h := mq_nS_go eS10 h
    refine lv_aload_n hx hb dX11_set_57 rfl (lv_at hl 1 rfl) ?_
    refine lv_iload_n hx hb dX11_set_58 rfl (lv_at hl 3 rfl) ?_
    obtain ⟨q12, hc13, h⟩ := mq_cl_go h
    refine zk_X11_turn C zt_m_X11_267 ⟨by decide, by decide⟩ hc13 hP hD hS hl.1 (Nat.le_of_ble_eq_true rfl) dX11_set_59 (fun H locs hP hD hS => ?_)
    obtain ⟨S14, eS14⟩ : ∃ y, y = q12.2 := ⟨_, rfl⟩
    rw [← eS14] at hP hD h
    refine lv_topi (fun x15 ex15 => ?_)
    replace h := mq_nI_go ex15 h
    refine lv_istore (lv' := [(4, .int (x15)), (3, .int (x9)), (0, .ref (a 0)), (1, .int (v1)), (2, .int (v2))]) hx hb dX11_set_62 hl (by decide) rfl (fun ls hl => ?_)
    refine lv_aload_n hx hb dX11_set_64 rfl (lv_at hl 2 rfl) ?_
    refine va_get (D := D) (ci := 11) (v := .int ((S14.1 6))) (C := RX11) (T := TX11) (N := 76) hx hb hts (zi_X11 _) hown hK hP 0 rfl rfl 13 (by decide) (hts _ (List.mem_cons_of_mem _ zt_f_X11_168)) (fun _ h9 => h9) rfl dX11_set_65 ?_
    refine lv_if_eq (tgt := 79) hx hb dX11_set_68 (by decide) (fun c21 => ?_) (fun c21 => ?_)
    · replace h := mq_it c21 h
      refine lv_aload_n hx hb dX11_set_79 rfl (lv_at hl 2 rfl) ?_
      refine va_get (D := D) (ci := 11) (v := .ref (a 6)) (C := RX11) (T := TX11) (N := 76) hx hb hts (zi_X11 _) hown hK hP 0 rfl rfl 9 (by decide) (hts _ (List.mem_cons_of_mem _ zt_f_X11_30)) (fun _ h9 => h9) rfl dX11_set_80 ?_
      refine lv_iload_n hx hb dX11_set_83 rfl (lv_at hl 3 rfl) ?_
      refine lv_iload_n hx hb dX11_set_84 rfl (lv_at hl 4 rfl) ?_
      have hi16 := mq_ck_in h
      replace h := mq_ck_go h
      refine mq_iast (w := wd_R a cI cL cB cZ z) (S := S14) (f := S14.2.1 5) hx hb hK hP hD hS 6 0 rfl rfl hi16 dX11_set_85 5 (zs_wd_R_a_6_5 _ _ _ _ _ _ _ _) (fun S17 eS17 H locs hP hD hS => ?_)
      replace h := mq_nS_go eS17 h
      refine lv_aload_n hx hb dX11_set_86 rfl (lv_at hl 2 rfl) ?_
      refine va_get (D := D) (ci := 11) (v := .ref (a 7)) (C := RX11) (T := TX11) (N := 76) hx hb hts (zi_X11 _) hown hK hP 0 rfl rfl 10 (by decide) (hts _ (List.mem_cons_of_mem _ zt_f_X11_33)) (fun _ h9 => h9) rfl dX11_set_87 ?_
      refine lv_iload_n hx hb dX11_set_90 rfl (lv_at hl 3 rfl) ?_
      refine lv_iload hx hb dX11_set_91 (lv_at hl 0 rfl) ?_
      have hi18 := mq_ck_in h
      replace h := mq_ck_go h
      refine mq_iast (w := wd_R a cI cL cB cZ z) (S := S17) (f := S17.2.1 6) hx hb hK hP hD hS 7 0 rfl rfl hi18 dX11_set_93 6 (zs_wd_R_a_7_6 _ _ _ _ _ _ _ _) (fun S19 eS19 H locs hP hD hS => ?_)
      replace h := mq_nS_go eS19 h
      refine lv_iload hx hb dX11_set_94 (lv_at hl 0 rfl) ?_
      cases h
      exact hret H locs ls 96 dX11_set_96 hP hD hS
    · replace h := mq_if c21 h
      refine lv_aload_n hx hb dX11_set_71 rfl (lv_at hl 2 rfl) ?_
      refine lv_iload_n hx hb dX11_set_72 rfl (lv_at hl 1 rfl) ?_
      refine mq_put (w := wd_R a cI cL cB cZ z) (S := S14) (D := D) (ci := 11) (v := x9) (ty := .int) (C := RX11) (T := TX11) (N := 76) hx hb hts (zi_X11 _) tyX11 tyX11_ok nmX11 hown hK hP hD hS 0 rfl rfl 8 (by decide) (hts _ (List.mem_cons_of_mem _ zt_f_X11_26)) (fun _ h9 => h9) rfl (by decide +kernel) rfl rfl (Nat.le_of_ble_eq_true rfl) dX11_set_73 3 (zs_wd_R_i_0_3 _ _ _ _ _ _ _ _) (fun S20 eS20 H locs hP hD hS => ?_)
      replace h := mq_nS_go eS20 h
      refine lv_bipush (v := (-2 : Int32)) hx hb dX11_set_76 (by decide) ?_
      cases h
      exact hret H locs ls 78 dX11_set_78 hP hD hS
  · replace h := mq_if c25 h
    refine lv_aload_n hx hb dX11_set_34 rfl (lv_at hl 0 rfl) ?_
    refine va_get (D := D) (ci := 11) (v := .ref (a 16)) (C := RX11) (T := TX11) (N := 76) hx hb hts (zi_X11 _) hown hK hP 0 rfl rfl 33 (by decide) (hts _ (List.mem_cons_of_mem _ zt_f_X11_63)) (fun _ h9 => h9) rfl dX11_set_35 ?_
    refine lv_iload_n hx hb dX11_set_38 rfl (lv_at hl 3 rfl) ?_
    refine lv_iconst (v := (-1 : Int32)) hx hb dX11_set_39 (by decide) ?_
    have hi22 := mq_ck_in h
    replace h := mq_ck_go h
    refine mq_iast (w := wd_R a cI cL cB cZ z) (S := S) (f := S.2.1 15) hx hb hK hP hD hS 16 0 rfl rfl hi22 dX11_set_40 15 (zs_wd_R_a_16_15 _ _ _ _ _ _ _ _) (fun S23 eS23 H locs hP hD hS => ?_)
    replace h := mq_nS_go eS23 h
    obtain ⟨x24, ex24⟩ : ∃ y : Int32, y = v3 + (1 : Int32) := ⟨_, rfl⟩
    replace h := mq_nI_go ex24 h
    refine lv_iinc (v := x24) (lv' := [(3, .int (x24)), (0, .ref (a 0)), (1, .int (v1)), (2, .int (v2))]) hx hb dX11_set_41 hl (k := 3) rfl (by rw [ex24]; rfl) (by decide) rfl (fun ls hl => ?_)
    refine lv_goto (tgt := 27) hx hb dX11_set_44 (by decide) ?_
    exact hk27 (v1) (v2) (x24) S23 H locs ls h (lv_sub hl [1, 2, 3, 0] rfl) hP hD hS
set_option maxHeartbeats 4000000 in
set_option maxRecDepth 100000 in
theorem zw_X11_set_27 {p : Program} {l : Launch} {e : Env} {s : State} {m : MethodId} {args : Array Value} {below : List Frame} {meth : Method} {c : Code} {A : Nat → Prop} {D : va_G} {a z : Nat → Nat} {cI cL cB cZ : ClassId} {Q : State → Prop} {N : Nat} {res : Int32 × mq_St} (C : mq_C p s m args c A D cI cL cB cZ cX11_set 5 RX11 zc_X11_set) (hret : ∀ (H : Heap) (locs : List Loc) (ls : Array Slot) (pc : Nat), decode cX11_set pc = .ok (.ireturn, 1) → va_P D vwCl (wd_R a cI cL cB cZ z res.2) H → va_D A (wd_R a cI cL cB cZ z res.2) → va_S A s.heap H locs → W p l e zr_X11_set s m args below meth c H locs 0 0 Q (F0 m pc ls [.int res.1])) : ∀ (n : Nat) (v1 : Int32) (v2 : Int32) (v3 : Int32) (S : mq_St) (H : Heap) (locs : List Loc) (ls : Array Slot) (h : zf_X11_set_27 N z n v1 v2 v3 S = some res) (hl : lv_has ls 5 [(0, .ref (a 0)), (1, .int (v1)), (2, .int (v2)), (3, .int (v3))]) (hP : va_P D vwCl (wd_R a cI cL cB cZ z S) H) (hD : va_D A (wd_R a cI cL cB cZ z S)) (hS : va_S A s.heap H locs), W p l e zr_X11_set s m args below meth c H locs 0 0 Q (F0 m 27 ls []) := by
  intro n
  induction n with
  | zero =>
    intro v1 v2 v3 S H locs ls h hl hP hD hS
    exact nomatch (show (none : Option (Int32 × mq_St)) = some res from h)
  | succ n ih =>
    intro v1 v2 v3 S H locs ls h hl hP hD hS
    exact zw_X11_set_27b C hret (fun v1 v2 v3 S H locs ls h hl hP hD hS => ih v1 v2 v3 S H locs ls h hl hP hD hS) v1 v2 v3 S H locs ls h hl hP hD hS
set_option maxHeartbeats 4000000 in
set_option maxRecDepth 100000 in
theorem zw_X11_set_0 {p : Program} {l : Launch} {e : Env} {s : State} {m : MethodId} {args : Array Value} {below : List Frame} {meth : Method} {c : Code} {A : Nat → Prop} {D : va_G} {a z : Nat → Nat} {cI cL cB cZ : ClassId} {Q : State → Prop} {N : Nat} {res : Int32 × mq_St} (C : mq_C p s m args c A D cI cL cB cZ cX11_set 5 RX11 zc_X11_set) (hret : ∀ (H : Heap) (locs : List Loc) (ls : Array Slot) (pc : Nat), decode cX11_set pc = .ok (.ireturn, 1) → va_P D vwCl (wd_R a cI cL cB cZ z res.2) H → va_D A (wd_R a cI cL cB cZ z res.2) → va_S A s.heap H locs → W p l e zr_X11_set s m args below meth c H locs 0 0 Q (F0 m pc ls [.int res.1])) (v1 : Int32) (v2 : Int32) (S : mq_St) (H : Heap) (locs : List Loc) (ls : Array Slot) (h : zf_X11_set N z v1 v2 S = some res) (hl : lv_has ls 5 [(0, .ref (a 0)), (1, .int (v1)), (2, .int (v2))]) (hP : va_P D vwCl (wd_R a cI cL cB cZ z S) H) (hD : va_D A (wd_R a cI cL cB cZ z S)) (hS : va_S A s.heap H locs) : W p l e zr_X11_set s m args below meth c H locs 0 0 Q (F0 m 0 ls []) := by
  obtain ⟨hx, hb, hml, hown, hts, hK, hA⟩ := id C
  unfold zf_X11_set at h
  refine lv_aload_n hx hb dX11_set_0 rfl (lv_at hl 0 rfl) ?_
  refine lv_iconst (v := (0 : Int32)) hx hb dX11_set_1 (by decide) ?_
  refine mq_put (w := wd_R a cI cL cB cZ z) (S := S) (D := D) (ci := 11) (v := (0 : Int32)) (ty := .int) (C := RX11) (T := TX11) (N := 76) hx hb hts (zi_X11 _) tyX11 tyX11_ok nmX11 hown hK hP hD hS 0 rfl rfl 0 (by decide) (hts _ (List.mem_cons_of_mem _ zt_f_X11_151)) (fun _ h9 => h9) rfl (by decide +kernel) rfl rfl (Nat.le_of_ble_eq_true rfl) dX11_set_2 0 (zs_wd_R_i_0_0 _ _ _ _ _ _ _ _) (fun S1 eS1 H locs hP hD hS => ?_)
  replace h := mq_nS_go eS1 h
  refine lv_iload_n hx hb dX11_set_5 rfl (lv_at hl 1 rfl) ?_
  refine lv_iconst (v := (0 : Int32)) hx hb dX11_set_6 (by decide) ?_
  refine lv_bipush (v := (7 : Int32)) hx hb dX11_set_7 (by decide) ?_
  obtain ⟨q2, hc3, h⟩ := mq_cp_go h
  refine zv_X11_in (a := mq_ad a []) (z := z) [] C zt_m_X11_161 ⟨by decide, by decide⟩ hc3 rfl (by decide) hP hD hS hl.1 (Nat.le_of_ble_eq_true rfl) dX11_set_9 (fun H locs hP hD hS => ?_)
  refine lv_if_eq (tgt := 23) hx hb dX11_set_12 (by decide) (fun c8 => ?_) (fun c8 => ?_)
  · replace h := mq_it c8 h
    refine lv_iconst (v := (-1 : Int32)) hx hb dX11_set_23 (by decide) ?_
    cases h
    exact hret H locs ls 24 dX11_set_24 hP hD hS
  · replace h := mq_if c8 h
    refine lv_aload_n hx hb dX11_set_15 rfl (lv_at hl 0 rfl) ?_
    refine lv_iload_n hx hb dX11_set_16 rfl (lv_at hl 2 rfl) ?_
    obtain ⟨q4, hc5, h⟩ := mq_cp_go h
    refine zk_X11_isFormula C zt_m_X11_264 ⟨by decide, by decide⟩ hc5 hP hD hS hl.1 (Nat.le_of_ble_eq_true rfl) dX11_set_17 (fun H locs hP hD hS => ?_)
    refine lv_if_ne (tgt := 25) hx hb dX11_set_20 (by decide) (fun c7 => ?_) (fun c7 => ?_)
    · replace h := mq_if c7 h
      refine lv_iconst (v := (0 : Int32)) hx hb dX11_set_25 (by decide) ?_
      refine lv_topi (fun x6 ex6 => ?_)
      replace h := mq_nI_go ex6 h
      refine lv_istore_n (lv' := [(3, .int (x6)), (0, .ref (a 0)), (1, .int (v1)), (2, .int (v2))]) hx hb dX11_set_26 rfl hl (by decide) rfl (fun ls hl => ?_)
      exact zw_X11_set_27 C hret N (v1) (v2) (x6) S1 H locs ls h (lv_sub hl [1, 2, 3, 0] rfl) hP hD hS
    · replace h := mq_it (by simpa using c7) h
      refine lv_iconst (v := (-1 : Int32)) hx hb dX11_set_23 (by decide) ?_
      cases h
      exact hret H locs ls 24 dX11_set_24 hP hD hS
set_option maxHeartbeats 4000000 in
set_option maxRecDepth 100000 in
theorem zm_X11_set (l : Launch) (D : va_G) (a z : Nat → Nat) (cI cL cB cZ : ClassId) (sz N : Nat) (v1 : Int32) (v2 : Int32) (S : mq_St) (res : Int32 × mq_St) (h : zf_X11_set N z v1 v2 S = some res) : Met l yX11_set (zc_X11_set :: mq_T) zr_X11_set (va_Pc [.ref (a 0), .int (v1), .int (v2)] (fun U => U.heap.size = sz ∧ va_P D vwCl (wd_R a cI cL cB cZ z S) U.heap ∧ va_K D vwCl (mq_tys cI cL cB cZ) U ∧ va_D (fun _ => True) (wd_R a cI cL cB cZ z S))) (va_Qi (fun (r : Int32) (u : mq_St) => r = res.1 ∧ u = res.2) (fun u t => va_P D vwCl (wd_R a cI cL cB cZ z u) t.heap ∧ va_K D vwCl (mq_tys cI cL cB cZ) t ∧ va_D (va_A (wd_R a cI cL cB cZ z S) sz) (wd_R a cI cL cB cZ z u)) (va_A (wd_R a cI cL cB cZ z S) sz)) 0 0 (va_A (wd_R a cI cL cB cZ z S) sz) := by
  refine Met.ofW (cc := cX11_set) (maxL := 5) (ret := (some .int)) (by decide) rfl ?_
  intro p e s m args below meth c s₁ B hml hv
  obtain ⟨rfl, hsz, hP, hK, hD0⟩ := hv
  have hr := B.returns
  have hlocks := B.notSynchronized
  have hts := atoms_spec (ws := zc_X11_set :: mq_T) B.pre
  have hown : s.vm.findClass RX11 = some m.cls := findClass_of_methodNamed B.named
  subst hsz
  have hD := hD0.self (sz := s.heap.size)
  generalize hAe : va_A (wd_R a cI cL cB cZ z S) s.heap.size = A at hD ⊢
  have hA : ∀ q : Nat, s.heap.size ≤ q → A q := fun q h => by rw [← hAe]; exact Or.inr h
  have hl := lv_entry ([.ref (a 0), .int (v1), .int (v2)]) (n := 5) (Nat.le_of_ble_eq_true rfl)
  rw [lg_entry_eq]
  generalize (lg_sl ([.ref (a 0), .int (v1), .int (v2)]) ++ List.replicate (5 - (lg_sl ([.ref (a 0), .int (v1), .int (v2)])).length) Slot.unset).toArray = ls at hl ⊢
  have hl : lv_has ls 5 [(0, .ref (a 0)), (1, .int (v1)), (2, .int (v2))] := hl
  refine zw_X11_set_0 (A := A) ⟨B.exec, B.bytes, hml, hown, hts, hK, hA⟩ (fun H locs ls pc dg hP hD hS => ?_) v1 v2 S s.heap [] ls h hl hP hD va_S.rf
  exact W.iret B.exec B.bytes hr (fun t ht hW => ⟨⟨_, _, rfl, ⟨rfl, rfl⟩, by rw [ht]; exact hP, va_K.moved hW.alike hK, hD⟩, hS.F ht⟩) hS.2.2 dg
theorem zt_X11_set_c : zc_X11_set ∈ mq_T := mq_T_mem (mq_t7 (List.mem_of_getElem? (i := 13) rfl)) rfl
theorem zt_X11_set_i : Cond.instanceMethod yX11_set ∈ mq_T := mq_T_mem (mq_t7 (List.mem_of_getElem? (i := 11) rfl)) rfl
theorem zt_X11_set_s : Cond.selects RX11 yX11_set yX11_set ∈ mq_T := mq_T_mem (mq_t7 (List.mem_of_getElem? (i := 12) rfl)) rfl
/-! ModalDeskModel.slot(II)I -/
def zr_X11_slot : Room := { frames := 1, cells := 0, slots := 0, locals := 22 }
def zc_X11_slot : Cond := .code yX11_slot cX11_slot 3 (some .int)
def zf_X11_slot (N : Nat) (z : Nat → Nat) (v1 : Int32) (v2 : Int32) (S : mq_St) : Option (Int32 × mq_St) := (mq_nS (mq_si S 0 ((0 : Int32))) (fun S1 => (mq_cp (zf_X11_in N z (v1) ((0 : Int32)) ((7 : Int32)) (mq_pull S1 [] [] [])) (fun q2 => (if q2 = (0 : Int32) then (some ((-1 : Int32), S1)) else (if v2 = (0 : Int32) then (mq_ck (v1) 8 (some ((S1.2.1 5 (v1).toNatClampNeg), S1))) else (if v2 = (1 : Int32) then (mq_ck (v1) 8 (some ((S1.2.1 6 (v1).toNatClampNeg), S1))) else (some ((-1 : Int32), S1)))))))))
set_option maxHeartbeats 4000000 in
set_option maxRecDepth 100000 in
theorem zw_X11_slot_0 {p : Program} {l : Launch} {e : Env} {s : State} {m : MethodId} {args : Array Value} {below : List Frame} {meth : Method} {c : Code} {A : Nat → Prop} {D : va_G} {a z : Nat → Nat} {cI cL cB cZ : ClassId} {Q : State → Prop} {N : Nat} {res : Int32 × mq_St} (C : mq_C p s m args c A D cI cL cB cZ cX11_slot 3 RX11 zc_X11_slot) (hret : ∀ (H : Heap) (locs : List Loc) (ls : Array Slot) (pc : Nat), decode cX11_slot pc = .ok (.ireturn, 1) → va_P D vwCl (wd_R a cI cL cB cZ z res.2) H → va_D A (wd_R a cI cL cB cZ z res.2) → va_S A s.heap H locs → W p l e zr_X11_slot s m args below meth c H locs 0 0 Q (F0 m pc ls [.int res.1])) (v1 : Int32) (v2 : Int32) (S : mq_St) (H : Heap) (locs : List Loc) (ls : Array Slot) (h : zf_X11_slot N z v1 v2 S = some res) (hl : lv_has ls 3 [(0, .ref (a 0)), (1, .int (v1)), (2, .int (v2))]) (hP : va_P D vwCl (wd_R a cI cL cB cZ z S) H) (hD : va_D A (wd_R a cI cL cB cZ z S)) (hS : va_S A s.heap H locs) : W p l e zr_X11_slot s m args below meth c H locs 0 0 Q (F0 m 0 ls []) := by
  obtain ⟨hx, hb, hml, hown, hts, hK, hA⟩ := id C
  unfold zf_X11_slot at h
  refine lv_aload_n hx hb dX11_slot_0 rfl (lv_at hl 0 rfl) ?_
  refine lv_iconst (v := (0 : Int32)) hx hb dX11_slot_1 (by decide) ?_
  refine mq_put (w := wd_R a cI cL cB cZ z) (S := S) (D := D) (ci := 11) (v := (0 : Int32)) (ty := .int) (C := RX11) (T := TX11) (N := 76) hx hb hts (zi_X11 _) tyX11 tyX11_ok nmX11 hown hK hP hD hS 0 rfl rfl 0 (by decide) (hts _ (List.mem_cons_of_mem _ zt_f_X11_151)) (fun _ h9 => h9) rfl (by decide +kernel) rfl rfl (Nat.le_of_ble_eq_true rfl) dX11_slot_2 0 (zs_wd_R_i_0_0 _ _ _ _ _ _ _ _) (fun S1 eS1 H locs hP hD hS => ?_)
  replace h := mq_nS_go eS1 h
  refine lv_iload_n hx hb dX11_slot_5 rfl (lv_at hl 1 rfl) ?_
  refine lv_iconst (v := (0 : Int32)) hx hb dX11_slot_6 (by decide) ?_
  refine lv_bipush (v := (7 : Int32)) hx hb dX11_slot_7 (by decide) ?_
  obtain ⟨q2, hc3, h⟩ := mq_cp_go h
  refine zv_X11_in (a := mq_ad a []) (z := z) [] C zt_m_X11_161 ⟨by decide, by decide⟩ hc3 rfl (by decide) hP hD hS hl.1 (Nat.le_of_ble_eq_true rfl) dX11_slot_9 (fun H locs hP hD hS => ?_)
  refine lv_if_ne (tgt := 19) hx hb dX11_slot_12 (by decide) (fun c8 => ?_) (fun c8 => ?_)
  · replace h := mq_if c8 h
    refine lv_iload_n hx hb dX11_slot_19 rfl (lv_at hl 2 rfl) ?_
    refine lv_if_ne (tgt := 32) hx hb dX11_slot_20 (by decide) (fun c7 => ?_) (fun c7 => ?_)
    · replace h := mq_if c7 h
      refine lv_iload_n hx hb dX11_slot_32 rfl (lv_at hl 2 rfl) ?_
      refine lv_iconst (v := (1 : Int32)) hx hb dX11_slot_33 (by decide) ?_
      refine lv_icmp_ne (tgt := 46) hx hb dX11_slot_34 (by decide) (fun c5 => ?_) (fun c5 => ?_)
      · replace h := mq_if c5 h
        refine lv_iconst (v := (-1 : Int32)) hx hb dX11_slot_46 (by decide) ?_
        cases h
        exact hret H locs ls 47 dX11_slot_47 hP hD hS
      · replace h := mq_it (by simpa using c5) h
        refine lv_aload_n hx hb dX11_slot_37 rfl (lv_at hl 0 rfl) ?_
        refine va_get (D := D) (ci := 11) (v := .ref (a 7)) (C := RX11) (T := TX11) (N := 76) hx hb hts (zi_X11 _) hown hK hP 0 rfl rfl 10 (by decide) (hts _ (List.mem_cons_of_mem _ zt_f_X11_33)) (fun _ h9 => h9) rfl dX11_slot_38 ?_
        refine lv_iload_n hx hb dX11_slot_41 rfl (lv_at hl 1 rfl) ?_
        have hi4 := mq_ck_in h
        replace h := mq_ck_go h
        refine va_iald (f := S1.2.1 6) hx hb hK hP 7 0 rfl rfl hi4 dX11_slot_42 ?_
        refine lv_goto (tgt := 47) hx hb dX11_slot_43 (by decide) ?_
        cases h
        exact hret H locs ls 47 dX11_slot_47 hP hD hS
    · replace h := mq_it (by simpa using c7) h
      refine lv_aload_n hx hb dX11_slot_23 rfl (lv_at hl 0 rfl) ?_
      refine va_get (D := D) (ci := 11) (v := .ref (a 6)) (C := RX11) (T := TX11) (N := 76) hx hb hts (zi_X11 _) hown hK hP 0 rfl rfl 9 (by decide) (hts _ (List.mem_cons_of_mem _ zt_f_X11_30)) (fun _ h9 => h9) rfl dX11_slot_24 ?_
      refine lv_iload_n hx hb dX11_slot_27 rfl (lv_at hl 1 rfl) ?_
      have hi6 := mq_ck_in h
      replace h := mq_ck_go h
      refine va_iald (f := S1.2.1 5) hx hb hK hP 6 0 rfl rfl hi6 dX11_slot_28 ?_
      refine lv_goto (tgt := 47) hx hb dX11_slot_29 (by decide) ?_
      cases h
      exact hret H locs ls 47 dX11_slot_47 hP hD hS
  · replace h := mq_it (by simpa using c8) h
    refine lv_iconst (v := (-1 : Int32)) hx hb dX11_slot_15 (by decide) ?_
    refine lv_goto (tgt := 47) hx hb dX11_slot_16 (by decide) ?_
    cases h
    exact hret H locs ls 47 dX11_slot_47 hP hD hS
set_option maxHeartbeats 4000000 in
set_option maxRecDepth 100000 in
theorem zm_X11_slot (l : Launch) (D : va_G) (a z : Nat → Nat) (cI cL cB cZ : ClassId) (sz N : Nat) (v1 : Int32) (v2 : Int32) (S : mq_St) (res : Int32 × mq_St) (h : zf_X11_slot N z v1 v2 S = some res) : Met l yX11_slot (zc_X11_slot :: mq_T) zr_X11_slot (va_Pc [.ref (a 0), .int (v1), .int (v2)] (fun U => U.heap.size = sz ∧ va_P D vwCl (wd_R a cI cL cB cZ z S) U.heap ∧ va_K D vwCl (mq_tys cI cL cB cZ) U ∧ va_D (fun _ => True) (wd_R a cI cL cB cZ z S))) (va_Qi (fun (r : Int32) (u : mq_St) => r = res.1 ∧ u = res.2) (fun u t => va_P D vwCl (wd_R a cI cL cB cZ z u) t.heap ∧ va_K D vwCl (mq_tys cI cL cB cZ) t ∧ va_D (va_A (wd_R a cI cL cB cZ z S) sz) (wd_R a cI cL cB cZ z u)) (va_A (wd_R a cI cL cB cZ z S) sz)) 0 0 (va_A (wd_R a cI cL cB cZ z S) sz) := by
  refine Met.ofW (cc := cX11_slot) (maxL := 3) (ret := (some .int)) (by decide) rfl ?_
  intro p e s m args below meth c s₁ B hml hv
  obtain ⟨rfl, hsz, hP, hK, hD0⟩ := hv
  have hr := B.returns
  have hlocks := B.notSynchronized
  have hts := atoms_spec (ws := zc_X11_slot :: mq_T) B.pre
  have hown : s.vm.findClass RX11 = some m.cls := findClass_of_methodNamed B.named
  subst hsz
  have hD := hD0.self (sz := s.heap.size)
  generalize hAe : va_A (wd_R a cI cL cB cZ z S) s.heap.size = A at hD ⊢
  have hA : ∀ q : Nat, s.heap.size ≤ q → A q := fun q h => by rw [← hAe]; exact Or.inr h
  have hl := lv_entry ([.ref (a 0), .int (v1), .int (v2)]) (n := 3) (Nat.le_of_ble_eq_true rfl)
  rw [lg_entry_eq]
  generalize (lg_sl ([.ref (a 0), .int (v1), .int (v2)]) ++ List.replicate (3 - (lg_sl ([.ref (a 0), .int (v1), .int (v2)])).length) Slot.unset).toArray = ls at hl ⊢
  have hl : lv_has ls 3 [(0, .ref (a 0)), (1, .int (v1)), (2, .int (v2))] := hl
  refine zw_X11_slot_0 (A := A) ⟨B.exec, B.bytes, hml, hown, hts, hK, hA⟩ (fun H locs ls pc dg hP hD hS => ?_) v1 v2 S s.heap [] ls h hl hP hD va_S.rf
  exact W.iret B.exec B.bytes hr (fun t ht hW => ⟨⟨_, _, rfl, ⟨rfl, rfl⟩, by rw [ht]; exact hP, va_K.moved hW.alike hK, hD⟩, hS.F ht⟩) hS.2.2 dg
theorem zt_X11_slot_c : zc_X11_slot ∈ mq_T := mq_T_mem (mq_t7 (List.mem_of_getElem? (i := 29) rfl)) rfl
theorem zt_X11_slot_i : Cond.instanceMethod yX11_slot ∈ mq_T := mq_T_mem (mq_t7 (List.mem_of_getElem? (i := 27) rfl)) rfl
theorem zt_X11_slot_s : Cond.selects RX11 yX11_slot yX11_slot ∈ mq_T := mq_T_mem (mq_t7 (List.mem_of_getElem? (i := 28) rfl)) rfl
/-! ModalDeskModel.formulas()I -/
def zr_X11_formulas : Room := { frames := 0, cells := 0, slots := 0, locals := 0 }
def zc_X11_formulas : Cond := .code yX11_formulas cX11_formulas 1 (some .int)
def zf_X11_formulas (N : Nat) (z : Nat → Nat) (S : mq_St) : Option (Int32 × mq_St) := (mq_nS (mq_si S 0 ((0 : Int32))) (fun S1 => (some ((S1.1 3), S1))))
set_option maxHeartbeats 4000000 in
set_option maxRecDepth 100000 in
theorem zw_X11_formulas_0 {p : Program} {l : Launch} {e : Env} {s : State} {m : MethodId} {args : Array Value} {below : List Frame} {meth : Method} {c : Code} {A : Nat → Prop} {D : va_G} {a z : Nat → Nat} {cI cL cB cZ : ClassId} {Q : State → Prop} {N : Nat} {res : Int32 × mq_St} (C : mq_C p s m args c A D cI cL cB cZ cX11_formulas 1 RX11 zc_X11_formulas) (hret : ∀ (H : Heap) (locs : List Loc) (ls : Array Slot) (pc : Nat), decode cX11_formulas pc = .ok (.ireturn, 1) → va_P D vwCl (wd_R a cI cL cB cZ z res.2) H → va_D A (wd_R a cI cL cB cZ z res.2) → va_S A s.heap H locs → W p l e zr_X11_formulas s m args below meth c H locs 0 0 Q (F0 m pc ls [.int res.1])) (S : mq_St) (H : Heap) (locs : List Loc) (ls : Array Slot) (h : zf_X11_formulas N z S = some res) (hl : lv_has ls 1 [(0, .ref (a 0))]) (hP : va_P D vwCl (wd_R a cI cL cB cZ z S) H) (hD : va_D A (wd_R a cI cL cB cZ z S)) (hS : va_S A s.heap H locs) : W p l e zr_X11_formulas s m args below meth c H locs 0 0 Q (F0 m 0 ls []) := by
  obtain ⟨hx, hb, hml, hown, hts, hK, hA⟩ := id C
  unfold zf_X11_formulas at h
  refine lv_aload_n hx hb dX11_formulas_0 rfl (lv_at hl 0 rfl) ?_
  refine lv_iconst (v := (0 : Int32)) hx hb dX11_formulas_1 (by decide) ?_
  refine mq_put (w := wd_R a cI cL cB cZ z) (S := S) (D := D) (ci := 11) (v := (0 : Int32)) (ty := .int) (C := RX11) (T := TX11) (N := 76) hx hb hts (zi_X11 _) tyX11 tyX11_ok nmX11 hown hK hP hD hS 0 rfl rfl 0 (by decide) (hts _ (List.mem_cons_of_mem _ zt_f_X11_151)) (fun _ h9 => h9) rfl (by decide +kernel) rfl rfl (Nat.le_of_ble_eq_true rfl) dX11_formulas_2 0 (zs_wd_R_i_0_0 _ _ _ _ _ _ _ _) (fun S1 eS1 H locs hP hD hS => ?_)
  replace h := mq_nS_go eS1 h
  refine lv_aload_n hx hb dX11_formulas_5 rfl (lv_at hl 0 rfl) ?_
  refine va_get (D := D) (ci := 11) (v := .int ((S1.1 3))) (C := RX11) (T := TX11) (N := 76) hx hb hts (zi_X11 _) hown hK hP 0 rfl rfl 8 (by decide) (hts _ (List.mem_cons_of_mem _ zt_f_X11_26)) (fun _ h9 => h9) rfl dX11_formulas_6 ?_
  cases h
  exact hret H locs ls 9 dX11_formulas_9 hP hD hS
set_option maxHeartbeats 4000000 in
set_option maxRecDepth 100000 in
theorem zm_X11_formulas (l : Launch) (D : va_G) (a z : Nat → Nat) (cI cL cB cZ : ClassId) (sz N : Nat) (S : mq_St) (res : Int32 × mq_St) (h : zf_X11_formulas N z S = some res) : Met l yX11_formulas (zc_X11_formulas :: mq_T) zr_X11_formulas (va_Pc [.ref (a 0)] (fun U => U.heap.size = sz ∧ va_P D vwCl (wd_R a cI cL cB cZ z S) U.heap ∧ va_K D vwCl (mq_tys cI cL cB cZ) U ∧ va_D (fun _ => True) (wd_R a cI cL cB cZ z S))) (va_Qi (fun (r : Int32) (u : mq_St) => r = res.1 ∧ u = res.2) (fun u t => va_P D vwCl (wd_R a cI cL cB cZ z u) t.heap ∧ va_K D vwCl (mq_tys cI cL cB cZ) t ∧ va_D (va_A (wd_R a cI cL cB cZ z S) sz) (wd_R a cI cL cB cZ z u)) (va_A (wd_R a cI cL cB cZ z S) sz)) 0 0 (va_A (wd_R a cI cL cB cZ z S) sz) := by
  refine Met.ofW (cc := cX11_formulas) (maxL := 1) (ret := (some .int)) (by decide) rfl ?_
  intro p e s m args below meth c s₁ B hml hv
  obtain ⟨rfl, hsz, hP, hK, hD0⟩ := hv
  have hr := B.returns
  have hlocks := B.notSynchronized
  have hts := atoms_spec (ws := zc_X11_formulas :: mq_T) B.pre
  have hown : s.vm.findClass RX11 = some m.cls := findClass_of_methodNamed B.named
  subst hsz
  have hD := hD0.self (sz := s.heap.size)
  generalize hAe : va_A (wd_R a cI cL cB cZ z S) s.heap.size = A at hD ⊢
  have hA : ∀ q : Nat, s.heap.size ≤ q → A q := fun q h => by rw [← hAe]; exact Or.inr h
  have hl := lv_entry ([.ref (a 0)]) (n := 1) (Nat.le_of_ble_eq_true rfl)
  rw [lg_entry_eq]
  generalize (lg_sl ([.ref (a 0)]) ++ List.replicate (1 - (lg_sl ([.ref (a 0)])).length) Slot.unset).toArray = ls at hl ⊢
  have hl : lv_has ls 1 [(0, .ref (a 0))] := hl
  refine zw_X11_formulas_0 (A := A) ⟨B.exec, B.bytes, hml, hown, hts, hK, hA⟩ (fun H locs ls pc dg hP hD hS => ?_) S s.heap [] ls h hl hP hD va_S.rf
  exact W.iret B.exec B.bytes hr (fun t ht hW => ⟨⟨_, _, rfl, ⟨rfl, rfl⟩, by rw [ht]; exact hP, va_K.moved hW.alike hK, hD⟩, hS.F ht⟩) hS.2.2 dg
theorem zt_X11_formulas_c : zc_X11_formulas ∈ mq_T := mq_T_mem (mq_t7 (List.mem_of_getElem? (i := 33) rfl)) rfl
theorem zt_X11_formulas_i : Cond.instanceMethod yX11_formulas ∈ mq_T := mq_T_mem (mq_t7 (List.mem_of_getElem? (i := 31) rfl)) rfl
theorem zt_X11_formulas_s : Cond.selects RX11 yX11_formulas yX11_formulas ∈ mq_T := mq_T_mem (mq_t7 (List.mem_of_getElem? (i := 32) rfl)) rfl
/-! ModalDeskModel.formula(II)I -/
def zr_X11_formula : Room := { frames := 2, cells := 0, slots := 0, locals := 43 }
def zc_X11_formula : Cond := .code yX11_formula cX11_formula 3 (some .int)
def zf_X11_formula (N : Nat) (z : Nat → Nat) (v1 : Int32) (v2 : Int32) (S : mq_St) : Option (Int32 × mq_St) := (mq_nS (mq_si S 0 ((0 : Int32))) (fun S1 => (mq_cp (zf_X11_isFormula N z (v1) S1) (fun q2 => (if q2 = (0 : Int32) then (some ((-1 : Int32), S1)) else (if v2 = (0 : Int32) then (mq_ck (v1) 300 (some ((S1.2.1 2 (v1).toNatClampNeg), S1))) else (if v2 = (1 : Int32) then (mq_ck (v1) 300 (some ((S1.2.1 3 (v1).toNatClampNeg), S1))) else (if v2 = (2 : Int32) then (mq_ck (v1) 300 (some ((S1.2.1 4 (v1).toNatClampNeg), S1))) else (some ((-1 : Int32), S1))))))))))
set_option maxHeartbeats 4000000 in
set_option maxRecDepth 100000 in
theorem zw_X11_formula_0 {p : Program} {l : Launch} {e : Env} {s : State} {m : MethodId} {args : Array Value} {below : List Frame} {meth : Method} {c : Code} {A : Nat → Prop} {D : va_G} {a z : Nat → Nat} {cI cL cB cZ : ClassId} {Q : State → Prop} {N : Nat} {res : Int32 × mq_St} (C : mq_C p s m args c A D cI cL cB cZ cX11_formula 3 RX11 zc_X11_formula) (hret : ∀ (H : Heap) (locs : List Loc) (ls : Array Slot) (pc : Nat), decode cX11_formula pc = .ok (.ireturn, 1) → va_P D vwCl (wd_R a cI cL cB cZ z res.2) H → va_D A (wd_R a cI cL cB cZ z res.2) → va_S A s.heap H locs → W p l e zr_X11_formula s m args below meth c H locs 0 0 Q (F0 m pc ls [.int res.1])) (v1 : Int32) (v2 : Int32) (S : mq_St) (H : Heap) (locs : List Loc) (ls : Array Slot) (h : zf_X11_formula N z v1 v2 S = some res) (hl : lv_has ls 3 [(0, .ref (a 0)), (1, .int (v1)), (2, .int (v2))]) (hP : va_P D vwCl (wd_R a cI cL cB cZ z S) H) (hD : va_D A (wd_R a cI cL cB cZ z S)) (hS : va_S A s.heap H locs) : W p l e zr_X11_formula s m args below meth c H locs 0 0 Q (F0 m 0 ls []) := by
  obtain ⟨hx, hb, hml, hown, hts, hK, hA⟩ := id C
  unfold zf_X11_formula at h
  refine lv_aload_n hx hb dX11_formula_0 rfl (lv_at hl 0 rfl) ?_
  refine lv_iconst (v := (0 : Int32)) hx hb dX11_formula_1 (by decide) ?_
  refine mq_put (w := wd_R a cI cL cB cZ z) (S := S) (D := D) (ci := 11) (v := (0 : Int32)) (ty := .int) (C := RX11) (T := TX11) (N := 76) hx hb hts (zi_X11 _) tyX11 tyX11_ok nmX11 hown hK hP hD hS 0 rfl rfl 0 (by decide) (hts _ (List.mem_cons_of_mem _ zt_f_X11_151)) (fun _ h9 => h9) rfl (by decide +kernel) rfl rfl (Nat.le_of_ble_eq_true rfl) dX11_formula_2 0 (zs_wd_R_i_0_0 _ _ _ _ _ _ _ _) (fun S1 eS1 H locs hP hD hS => ?_)
  replace h := mq_nS_go eS1 h
  refine lv_aload_n hx hb dX11_formula_5 rfl (lv_at hl 0 rfl) ?_
  refine lv_iload_n hx hb dX11_formula_6 rfl (lv_at hl 1 rfl) ?_
  obtain ⟨q2, hc3, h⟩ := mq_cp_go h
  refine zk_X11_isFormula C zt_m_X11_264 ⟨by decide, by decide⟩ hc3 hP hD hS hl.1 (Nat.le_of_ble_eq_true rfl) dX11_formula_7 (fun H locs hP hD hS => ?_)
  refine lv_if_ne (tgt := 17) hx hb dX11_formula_10 (by decide) (fun c10 => ?_) (fun c10 => ?_)
  · replace h := mq_if c10 h
    refine lv_iload_n hx hb dX11_formula_17 rfl (lv_at hl 2 rfl) ?_
    refine lv_if_ne (tgt := 30) hx hb dX11_formula_18 (by decide) (fun c9 => ?_) (fun c9 => ?_)
    · replace h := mq_if c9 h
      refine lv_iload_n hx hb dX11_formula_30 rfl (lv_at hl 2 rfl) ?_
      refine lv_iconst (v := (1 : Int32)) hx hb dX11_formula_31 (by decide) ?_
      refine lv_icmp_ne (tgt := 44) hx hb dX11_formula_32 (by decide) (fun c7 => ?_) (fun c7 => ?_)
      · replace h := mq_if c7 h
        refine lv_iload_n hx hb dX11_formula_44 rfl (lv_at hl 2 rfl) ?_
        refine lv_iconst (v := (2 : Int32)) hx hb dX11_formula_45 (by decide) ?_
        refine lv_icmp_ne (tgt := 58) hx hb dX11_formula_46 (by decide) (fun c5 => ?_) (fun c5 => ?_)
        · replace h := mq_if c5 h
          refine lv_iconst (v := (-1 : Int32)) hx hb dX11_formula_58 (by decide) ?_
          cases h
          exact hret H locs ls 59 dX11_formula_59 hP hD hS
        · replace h := mq_it (by simpa using c5) h
          refine lv_aload_n hx hb dX11_formula_49 rfl (lv_at hl 0 rfl) ?_
          refine va_get (D := D) (ci := 11) (v := .ref (a 5)) (C := RX11) (T := TX11) (N := 76) hx hb hts (zi_X11 _) hown hK hP 0 rfl rfl 7 (by decide) (hts _ (List.mem_cons_of_mem _ zt_f_X11_23)) (fun _ h9 => h9) rfl dX11_formula_50 ?_
          refine lv_iload_n hx hb dX11_formula_53 rfl (lv_at hl 1 rfl) ?_
          have hi4 := mq_ck_in h
          replace h := mq_ck_go h
          refine va_iald (f := S1.2.1 4) hx hb hK hP 5 0 rfl rfl hi4 dX11_formula_54 ?_
          refine lv_goto (tgt := 59) hx hb dX11_formula_55 (by decide) ?_
          cases h
          exact hret H locs ls 59 dX11_formula_59 hP hD hS
      · replace h := mq_it (by simpa using c7) h
        refine lv_aload_n hx hb dX11_formula_35 rfl (lv_at hl 0 rfl) ?_
        refine va_get (D := D) (ci := 11) (v := .ref (a 4)) (C := RX11) (T := TX11) (N := 76) hx hb hts (zi_X11 _) hown hK hP 0 rfl rfl 6 (by decide) (hts _ (List.mem_cons_of_mem _ zt_f_X11_20)) (fun _ h9 => h9) rfl dX11_formula_36 ?_
        refine lv_iload_n hx hb dX11_formula_39 rfl (lv_at hl 1 rfl) ?_
        have hi6 := mq_ck_in h
        replace h := mq_ck_go h
        refine va_iald (f := S1.2.1 3) hx hb hK hP 4 0 rfl rfl hi6 dX11_formula_40 ?_
        refine lv_goto (tgt := 59) hx hb dX11_formula_41 (by decide) ?_
        cases h
        exact hret H locs ls 59 dX11_formula_59 hP hD hS
    · replace h := mq_it (by simpa using c9) h
      refine lv_aload_n hx hb dX11_formula_21 rfl (lv_at hl 0 rfl) ?_
      refine va_get (D := D) (ci := 11) (v := .ref (a 3)) (C := RX11) (T := TX11) (N := 76) hx hb hts (zi_X11 _) hown hK hP 0 rfl rfl 5 (by decide) (hts _ (List.mem_cons_of_mem _ zt_f_X11_16)) (fun _ h9 => h9) rfl dX11_formula_22 ?_
      refine lv_iload_n hx hb dX11_formula_25 rfl (lv_at hl 1 rfl) ?_
      have hi8 := mq_ck_in h
      replace h := mq_ck_go h
      refine va_iald (f := S1.2.1 2) hx hb hK hP 3 0 rfl rfl hi8 dX11_formula_26 ?_
      refine lv_goto (tgt := 59) hx hb dX11_formula_27 (by decide) ?_
      cases h
      exact hret H locs ls 59 dX11_formula_59 hP hD hS
  · replace h := mq_it (by simpa using c10) h
    refine lv_iconst (v := (-1 : Int32)) hx hb dX11_formula_13 (by decide) ?_
    refine lv_goto (tgt := 59) hx hb dX11_formula_14 (by decide) ?_
    cases h
    exact hret H locs ls 59 dX11_formula_59 hP hD hS
set_option maxHeartbeats 4000000 in
set_option maxRecDepth 100000 in
theorem zm_X11_formula (l : Launch) (D : va_G) (a z : Nat → Nat) (cI cL cB cZ : ClassId) (sz N : Nat) (v1 : Int32) (v2 : Int32) (S : mq_St) (res : Int32 × mq_St) (h : zf_X11_formula N z v1 v2 S = some res) : Met l yX11_formula (zc_X11_formula :: mq_T) zr_X11_formula (va_Pc [.ref (a 0), .int (v1), .int (v2)] (fun U => U.heap.size = sz ∧ va_P D vwCl (wd_R a cI cL cB cZ z S) U.heap ∧ va_K D vwCl (mq_tys cI cL cB cZ) U ∧ va_D (fun _ => True) (wd_R a cI cL cB cZ z S))) (va_Qi (fun (r : Int32) (u : mq_St) => r = res.1 ∧ u = res.2) (fun u t => va_P D vwCl (wd_R a cI cL cB cZ z u) t.heap ∧ va_K D vwCl (mq_tys cI cL cB cZ) t ∧ va_D (va_A (wd_R a cI cL cB cZ z S) sz) (wd_R a cI cL cB cZ z u)) (va_A (wd_R a cI cL cB cZ z S) sz)) 0 0 (va_A (wd_R a cI cL cB cZ z S) sz) := by
  refine Met.ofW (cc := cX11_formula) (maxL := 3) (ret := (some .int)) (by decide) rfl ?_
  intro p e s m args below meth c s₁ B hml hv
  obtain ⟨rfl, hsz, hP, hK, hD0⟩ := hv
  have hr := B.returns
  have hlocks := B.notSynchronized
  have hts := atoms_spec (ws := zc_X11_formula :: mq_T) B.pre
  have hown : s.vm.findClass RX11 = some m.cls := findClass_of_methodNamed B.named
  subst hsz
  have hD := hD0.self (sz := s.heap.size)
  generalize hAe : va_A (wd_R a cI cL cB cZ z S) s.heap.size = A at hD ⊢
  have hA : ∀ q : Nat, s.heap.size ≤ q → A q := fun q h => by rw [← hAe]; exact Or.inr h
  have hl := lv_entry ([.ref (a 0), .int (v1), .int (v2)]) (n := 3) (Nat.le_of_ble_eq_true rfl)
  rw [lg_entry_eq]
  generalize (lg_sl ([.ref (a 0), .int (v1), .int (v2)]) ++ List.replicate (3 - (lg_sl ([.ref (a 0), .int (v1), .int (v2)])).length) Slot.unset).toArray = ls at hl ⊢
  have hl : lv_has ls 3 [(0, .ref (a 0)), (1, .int (v1)), (2, .int (v2))] := hl
  refine zw_X11_formula_0 (A := A) ⟨B.exec, B.bytes, hml, hown, hts, hK, hA⟩ (fun H locs ls pc dg hP hD hS => ?_) v1 v2 S s.heap [] ls h hl hP hD va_S.rf
  exact W.iret B.exec B.bytes hr (fun t ht hW => ⟨⟨_, _, rfl, ⟨rfl, rfl⟩, by rw [ht]; exact hP, va_K.moved hW.alike hK, hD⟩, hS.F ht⟩) hS.2.2 dg
theorem zt_X11_formula_c : zc_X11_formula ∈ mq_T := mq_T_mem (mq_t7 (List.mem_of_getElem? (i := 37) rfl)) rfl
theorem zt_X11_formula_i : Cond.instanceMethod yX11_formula ∈ mq_T := mq_T_mem (mq_t7 (List.mem_of_getElem? (i := 35) rfl)) rfl
theorem zt_X11_formula_s : Cond.selects RX11 yX11_formula yX11_formula ∈ mq_T := mq_T_mem (mq_t7 (List.mem_of_getElem? (i := 36) rfl)) rfl
theorem zs_wd_R_a_2_1 (a z : Nat → Nat) (cI cL cB cZ : ClassId) (S : mq_St) (f : Nat → Int32) : (wd_R a cI cL cB cZ z S).set 2 (a 2, .inl (cB, 4000, .inl f)) = (wd_R a cI cL cB cZ z (mq_sa S 1 f)) := rfl
theorem zs_wd_R_i_0_2 (a z : Nat → Nat) (cI cL cB cZ : ClassId) (S : mq_St) (v : Int32) : (wd_R a cI cL cB cZ z S).set 0 (a 0, .inr (11, ([.int (S.1 0), .ref (a 1), .int (S.1 1), .ref (a 2), .int (S.1 2), .ref (a 3), .ref (a 4), .ref (a 5), .int (S.1 3), .ref (a 6), .ref (a 7), .int (S.1 4), .int (S.1 5), .int (S.1 6), .ref (a 8), .ref (a 9), .ref (a 10), .ref (a 11), .ref (a 12), .int (S.1 7), .int (S.1 8), .int (S.1 9), .int (S.1 10), .int (S.1 11), .int (S.1 12), .int (S.1 13), .ref (a 13), .ref (a 14), .int (S.1 14), .int (S.1 15), .int (S.1 16), .ref (a 15), .int (S.1 17), .ref (a 16), .ref (a 17), .ref (a 18), .int (S.1 18), .int (S.1 19), .int (S.1 20), .int (S.1 21), .int (S.1 22), .int (S.1 23), .int (S.1 24), .int (S.1 25), .ref (a 19), .ref (a 20), .ref (a 21), .ref (a 22), .ref (a 23), .int (S.1 26), .ref (a 24), .ref (a 25), .int (S.1 27), .int (S.1 28), .ref (a 26), .ref (a 27), .ref (a 28), .ref (a 29), .ref (a 30), .ref (a 31), .ref (a 32), .int (S.1 29), .int (S.1 30), .ref (a 33), .ref (a 34), .int (S.1 31), .ref (a 35), .ref (a 36), .ref (a 37), .ref (a 38), .ref (a 39), .ref (a 40), .ref (a 41), .ref (a 42), .ref (a 43), .ref (a 44)] : List Value).set 4 (.int v))) = (wd_R a cI cL cB cZ z (mq_si S 2 v)) := rfl
/-! ModalDeskModel.tells(I)V -/
def zr_X11_tells : Room := { frames := 0, cells := 0, slots := 0, locals := 0 }
def zc_X11_tells : Cond := .code yX11_tells cX11_tells 2 none
def zf_X11_tells (N : Nat) (z : Nat → Nat) (v1 : Int32) (S : mq_St) : Option (Unit × mq_St) := (if (400 : Int32) ≤ (S.1 2) then (some ((), S)) else (mq_ck ((S.1 2)) 4000 (mq_nS (mq_sa S 1 (upd (S.2.1 1) ((S.1 2)).toNatClampNeg (vp_nar .byte (((v1).toInt8.toInt32))))) (fun S2 => (mq_nS (mq_si S2 2 (((S2.1 2) + (1 : Int32)))) (fun S3 => (some ((), S3))))))))
set_option maxHeartbeats 4000000 in
set_option maxRecDepth 100000 in
theorem zw_X11_tells_0 {p : Program} {l : Launch} {e : Env} {s : State} {m : MethodId} {args : Array Value} {below : List Frame} {meth : Method} {c : Code} {A : Nat → Prop} {D : va_G} {a z : Nat → Nat} {cI cL cB cZ : ClassId} {Q : State → Prop} {N : Nat} {res : Unit × mq_St} (C : mq_C p s m args c A D cI cL cB cZ cX11_tells 2 RX11 zc_X11_tells) (hret : ∀ (H : Heap) (locs : List Loc) (ls : Array Slot) (pc : Nat), decode cX11_tells pc = .ok (.return_, 1) → va_P D vwCl (wd_R a cI cL cB cZ z res.2) H → va_D A (wd_R a cI cL cB cZ z res.2) → va_S A s.heap H locs → W p l e zr_X11_tells s m args below meth c H locs 0 0 Q (F0 m pc ls [])) (v1 : Int32) (S : mq_St) (H : Heap) (locs : List Loc) (ls : Array Slot) (h : zf_X11_tells N z v1 S = some res) (hl : lv_has ls 2 [(0, .ref (a 0)), (1, .int (v1))]) (hP : va_P D vwCl (wd_R a cI cL cB cZ z S) H) (hD : va_D A (wd_R a cI cL cB cZ z S)) (hS : va_S A s.heap H locs) : W p l e zr_X11_tells s m args below meth c H locs 0 0 Q (F0 m 0 ls []) := by
  obtain ⟨hx, hb, hml, hown, hts, hK, hA⟩ := id C
  unfold zf_X11_tells at h
  refine lv_aload_n hx hb dX11_tells_0 rfl (lv_at hl 0 rfl) ?_
  refine va_get (D := D) (ci := 11) (v := .int ((S.1 2))) (C := RX11) (T := TX11) (N := 76) hx hb hts (zi_X11 _) hown hK hP 0 rfl rfl 4 (by decide) (hts _ (List.mem_cons_of_mem _ zt_f_X11_165)) (fun _ h9 => h9) rfl dX11_tells_1 ?_
  refine lv_sipush (v := (400 : Int32)) hx hb dX11_tells_4 (by decide) ?_
  refine lv_icmp_ge (tgt := 31) hx hb dX11_tells_7 (by decide) (fun c4 => ?_) (fun c4 => ?_)
  · replace h := mq_it c4 h
    cases h
    exact hret H locs ls 31 dX11_tells_31 hP hD hS
  · replace h := mq_if c4 h
    refine lv_aload_n hx hb dX11_tells_10 rfl (lv_at hl 0 rfl) ?_
    refine va_get (D := D) (ci := 11) (v := .ref (a 2)) (C := RX11) (T := TX11) (N := 76) hx hb hts (zi_X11 _) hown hK hP 0 rfl rfl 3 (by decide) (hts _ (List.mem_cons_of_mem _ zt_f_X11_13)) (fun _ h9 => h9) rfl dX11_tells_11 ?_
    refine lv_aload_n hx hb dX11_tells_14 rfl (lv_at hl 0 rfl) ?_
    refine va_get (D := D) (ci := 11) (v := .int ((S.1 2))) (C := RX11) (T := TX11) (N := 76) hx hb hts (zi_X11 _) hown hK hP 0 rfl rfl 4 (by decide) (hts _ (List.mem_cons_of_mem _ zt_f_X11_165)) (fun _ h9 => h9) rfl dX11_tells_15 ?_
    refine lv_iload_n hx hb dX11_tells_18 rfl (lv_at hl 1 rfl) ?_
    refine lv_i2b (v := (v1).toInt8.toInt32) hx hb dX11_tells_19 rfl ?_
    have hi1 := mq_ck_in h
    replace h := mq_ck_go h
    refine mq_bast (w := wd_R a cI cL cB cZ z) (S := S) (f := S.2.1 1) hx hb hK hP hD hS 2 2 rfl rfl hi1 dX11_tells_20 1 (zs_wd_R_a_2_1 _ _ _ _ _ _ _ _) (fun S2 eS2 H locs hP hD hS => ?_)
    replace h := mq_nS_go eS2 h
    refine lv_aload_n hx hb dX11_tells_21 rfl (lv_at hl 0 rfl) ?_
    refine lv_dup hx hb dX11_tells_22 rfl ?_
    refine va_get (D := D) (ci := 11) (v := .int ((S2.1 2))) (C := RX11) (T := TX11) (N := 76) hx hb hts (zi_X11 _) hown hK hP 0 rfl rfl 4 (by decide) (hts _ (List.mem_cons_of_mem _ zt_f_X11_165)) (fun _ h9 => h9) rfl dX11_tells_23 ?_
    refine lv_iconst (v := (1 : Int32)) hx hb dX11_tells_26 (by decide) ?_
    refine lv_iadd hx hb dX11_tells_27 ?_
    refine mq_put (w := wd_R a cI cL cB cZ z) (S := S2) (D := D) (ci := 11) (v := ((S2.1 2) + (1 : Int32))) (ty := .int) (C := RX11) (T := TX11) (N := 76) hx hb hts (zi_X11 _) tyX11 tyX11_ok nmX11 hown hK hP hD hS 0 rfl rfl 4 (by decide) (hts _ (List.mem_cons_of_mem _ zt_f_X11_165)) (fun _ h9 => h9) rfl (by decide +kernel) rfl rfl (Nat.le_of_ble_eq_true rfl) dX11_tells_28 2 (zs_wd_R_i_0_2 _ _ _ _ _ _ _ _) (fun S3 eS3 H locs hP hD hS => ?_)
    replace h := mq_nS_go eS3 h
    cases h
    exact hret H locs ls 31 dX11_tells_31 hP hD hS
set_option maxHeartbeats 4000000 in
set_option maxRecDepth 100000 in
theorem zm_X11_tells (l : Launch) (D : va_G) (a z : Nat → Nat) (cI cL cB cZ : ClassId) (sz N : Nat) (v1 : Int32) (S : mq_St) (res : Unit × mq_St) (h : zf_X11_tells N z v1 S = some res) : Met l yX11_tells (zc_X11_tells :: mq_T) zr_X11_tells (va_Pc [.ref (a 0), .int (v1)] (fun U => U.heap.size = sz ∧ va_P D vwCl (wd_R a cI cL cB cZ z S) U.heap ∧ va_K D vwCl (mq_tys cI cL cB cZ) U ∧ va_D (fun _ => True) (wd_R a cI cL cB cZ z S))) (va_Qv (fun u : mq_St => u = res.2) (fun u t => va_P D vwCl (wd_R a cI cL cB cZ z u) t.heap ∧ va_K D vwCl (mq_tys cI cL cB cZ) t ∧ va_D (va_A (wd_R a cI cL cB cZ z S) sz) (wd_R a cI cL cB cZ z u)) (va_A (wd_R a cI cL cB cZ z S) sz)) 0 0 (va_A (wd_R a cI cL cB cZ z S) sz) := by
  refine Met.ofW (cc := cX11_tells) (maxL := 2) (ret := none) (by decide) rfl ?_
  intro p e s m args below meth c s₁ B hml hv
  obtain ⟨rfl, hsz, hP, hK, hD0⟩ := hv
  have hr := B.returns
  have hlocks := B.notSynchronized
  have hts := atoms_spec (ws := zc_X11_tells :: mq_T) B.pre
  have hown : s.vm.findClass RX11 = some m.cls := findClass_of_methodNamed B.named
  subst hsz
  have hD := hD0.self (sz := s.heap.size)
  generalize hAe : va_A (wd_R a cI cL cB cZ z S) s.heap.size = A at hD ⊢
  have hA : ∀ q : Nat, s.heap.size ≤ q → A q := fun q h => by rw [← hAe]; exact Or.inr h
  have hl := lv_entry ([.ref (a 0), .int (v1)]) (n := 2) (Nat.le_of_ble_eq_true rfl)
  rw [lg_entry_eq]
  generalize (lg_sl ([.ref (a 0), .int (v1)]) ++ List.replicate (2 - (lg_sl ([.ref (a 0), .int (v1)])).length) Slot.unset).toArray = ls at hl ⊢
  have hl : lv_has ls 2 [(0, .ref (a 0)), (1, .int (v1))] := hl
  refine zw_X11_tells_0 (A := A) ⟨B.exec, B.bytes, hml, hown, hts, hK, hA⟩ (fun H locs ls pc dg hP hD hS => ?_) v1 S s.heap [] ls h hl hP hD va_S.rf
  exact W.vret B.exec B.bytes hr (fun t ht hW => ⟨⟨_, rfl, rfl, by rw [ht]; exact hP, va_K.moved hW.alike hK, hD⟩, hS.F ht⟩) hS.2.2 dg
theorem zt_X11_tells_c : zc_X11_tells ∈ mq_T := mq_T_mem (mq_t7 (List.mem_of_getElem? (i := 45) rfl)) rfl
theorem zt_X11_tells_i : Cond.instanceMethod yX11_tells ∈ mq_T := mq_T_mem (mq_t7 (List.mem_of_getElem? (i := 44) rfl)) rfl
theorem zt_X11_tells_s : Cond.selects RX11 yX11_tells yX11_tells ∈ mq_T := mq_T_at 84 (by decide +kernel)
set_option maxHeartbeats 4000000 in
theorem zk_X11_tells {p : Program} {l : Launch} {e : Env} {R : Room} {s : State} {m : MethodId} {args : Array Value} {below : List Frame} {meth : Method} {c : Code} {A : Nat → Prop} {D : va_G} {a z : Nat → Nat} {cI cL cB cZ : ClassId} {Q : State → Prop} {cc : ByteArray} {nL idx pc N : Nat} {own : String} {c1 : Cond} {H : Heap} {locs : List Loc} {ls : Array Slot} {rest : List Value} {S : mq_St} {res : Unit × mq_St} {v1 : Int32} (C : mq_C p s m args c A D cI cL cB cZ cc nL own c1) (hlk : Cond.methodLink own idx yX11_tells ∈ mq_T) (hR : zr_X11_tells.frames + 1 ≤ R.frames ∧ 8 + (2 + 11) + zr_X11_tells.locals ≤ R.locals) (h : zf_X11_tells N z v1 S = some res) (hP : va_P D vwCl (wd_R a cI cL cB cZ z S) H) (hD : va_D A (wd_R a cI cL cB cZ z S)) (hS : va_S A s.heap H locs) (hls : ls.size = nL) (hrest : (rest.map fun v => v.category).sum ≤ 8) (hdg : decode cc pc = .ok (.invokevirtual idx, 3)) (kk : ∀ (H1 : Heap) (locs1 : List Loc), va_P D vwCl (wd_R a cI cL cB cZ z res.2) H1 → va_D A (wd_R a cI cL cB cZ z res.2) → va_S A s.heap H1 locs1 → W p l e R s m args below meth c H1 locs1 0 0 Q (F0 m (pc + 3) ls rest)) : W p l e R s m args below meth c H locs 0 0 Q (F0 m pc ls (.int (v1) :: .ref (a 0) :: rest)) := by
  obtain ⟨hx, hb, hml, hown, hts, hK, hA⟩ := C
  have hFc := mq_freeI hD hS hA
  refine va_callv (va_runV (As := [.int (v1)]) (rest := rest) ⟨hx, hb, hml, hown, hts⟩ (zm_X11_tells l D a z cI cL cB cZ H.size N v1 S res h) (cwV 1 hts (mq_goodL (mq_wsV hlk zt_X11_tells_i zt_X11_tells_s zt_ini_X11 zt_X11_tells_c)) rfl rfl rfl (by decide +kernel) hR) ⟨fun a U g mk q => ⟨q.1, q.2.1, q.2.2.1, va_K.moved (u := U) (U := U.calling g mk a) (Vm.Alike.refl U.vm) q.2.2.2.1, q.2.2.2.2⟩, zy_R_0 hK hP, fun U hU hW => ⟨rfl, by rw [hU], by rw [hU]; exact hP, va_K.moved hW.alike hK, hD.weaken (fun _ _ _ _ => trivial)⟩⟩ rfl rfl hls rfl (lv_room hrest) hdg ⟨Nat.zero_le _, Nat.zero_le _⟩) hS (fun q _ h => hFc q h) hFc (fun u t H1 locs ht hvm hw hB hz1 hk1 hS => ?_)
  subst hw
  obtain ⟨hP1, hK1, hD1⟩ := hB
  rw [ht] at hP1
  exact kk H1 locs hP1 (hD1.weaken (fun _ _ _ h => hFc _ h)) hS
theorem zt_f_X11_66 : Cond.fieldLink RX11 66 "ModalDeskModel" "later" "[I" ∈ mq_T := mq_T_mem (mq_t5 (List.mem_of_getElem? (i := 199) rfl)) rfl
theorem zs_wd_R_a_17_16 (a z : Nat → Nat) (cI cL cB cZ : ClassId) (S : mq_St) (f : Nat → Int32) : (wd_R a cI cL cB cZ z S).set 17 (a 17, .inl (cI, 2000, .inl f)) = (wd_R a cI cL cB cZ z (mq_sa S 16 f)) := rfl
theorem zt_m_X11_270 : Cond.methodLink RX11 270 yX11_tells ∈ mq_T := mq_T_mem (mq_t7 (List.mem_of_getElem? (i := 42) rfl)) rfl
/-! ModalDeskModel.tell(I)I -/
def zr_X11_tell : Room := { frames := 2, cells := 0, slots := 0, locals := 43 }
def zc_X11_tell : Cond := .code yX11_tell cX11_tell 4 (some .int)
def zf_X11_tell_308 (N : Nat) (z : Nat → Nat) (k29 : Int32 → mq_St → Option (Int32 × mq_St)) (v2 : Int32) (S : mq_St) : Option (Int32 × mq_St) := (k29 (v2) S)
def zf_X11_tell_217 (N : Nat) (z : Nat → Nat) (k29 : Int32 → mq_St → Option (Int32 × mq_St)) (v2 : Int32) (v3 : Int32) (t1 : Int32) (S : mq_St) : Option (Int32 × mq_St) := (mq_cl (zf_X11_tells N z (t1) S) (fun q51v S53 => (mq_ck (v3) 300 (mq_ck (v2) 2000 (mq_nS (mq_sa S53 16 (upd (S53.2.1 16) (v2).toNatClampNeg ((S53.2.1 3 (v3).toNatClampNeg)))) (fun S56 => (mq_nI (v2 + (1 : Int32)) (fun x57 => (zf_X11_tell_308 N z k29 (x57) S56)))))))))
def zf_X11_tell_195 (N : Nat) (z : Nat → Nat) (k29 : Int32 → mq_St → Option (Int32 × mq_St)) (v2 : Int32) (v3 : Int32) (t1 : Int32) (S : mq_St) : Option (Int32 × mq_St) := (mq_cl (zf_X11_tells N z (t1) S) (fun q46v S48 => (mq_ck (v3) 300 (if (S48.2.1 2 (v3).toNatClampNeg) = (6 : Int32) then (zf_X11_tell_217 N z k29 (v2) (v3) ((93 : Int32)) S48) else (zf_X11_tell_217 N z k29 (v2) (v3) ((62 : Int32)) S48)))))
def zf_X11_tell_176 (N : Nat) (z : Nat → Nat) (k29 : Int32 → mq_St → Option (Int32 × mq_St)) (v2 : Int32) (v3 : Int32) (S : mq_St) : Option (Int32 × mq_St) := (mq_ck (v3) 300 (if (S.2.1 2 (v3).toNatClampNeg) = (6 : Int32) then (zf_X11_tell_195 N z k29 (v2) (v3) ((91 : Int32)) S) else (zf_X11_tell_195 N z k29 (v2) (v3) ((60 : Int32)) S)))
def zf_X11_tell_290 (N : Nat) (z : Nat → Nat) (k29 : Int32 → mq_St → Option (Int32 × mq_St)) (v2 : Int32) (v3 : Int32) (t1 : Int32) (t2 : Int32) (S : mq_St) : Option (Int32 × mq_St) := (mq_ck (t1) 2000 (mq_nS (mq_sa S 16 (upd (S.2.1 16) (t1).toNatClampNeg (t2))) (fun S69 => (mq_ck (v3) 300 (mq_ck ((v2 + (3 : Int32))) 2000 (mq_nS (mq_sa S69 16 (upd (S69.2.1 16) ((v2 + (3 : Int32))).toNatClampNeg ((S69.2.1 3 (v3).toNatClampNeg)))) (fun S72 => (mq_nI (v2 + (4 : Int32)) (fun x73 => (zf_X11_tell_308 N z k29 (x73) S72))))))))))
def zf_X11_tell_238 (N : Nat) (z : Nat → Nat) (k29 : Int32 → mq_St → Option (Int32 × mq_St)) (v2 : Int32) (v3 : Int32) (S : mq_St) : Option (Int32 × mq_St) := (mq_cl (zf_X11_tells N z ((40 : Int32)) S) (fun q58v S60 => (mq_ck (v2) 2000 (mq_nS (mq_sa S60 16 (upd (S60.2.1 16) (v2).toNatClampNeg ((-41 : Int32)))) (fun S62 => (mq_ck (v3) 300 (mq_ck ((v2 + (1 : Int32))) 2000 (mq_nS (mq_sa S62 16 (upd (S62.2.1 16) ((v2 + (1 : Int32))).toNatClampNeg ((S62.2.1 4 (v3).toNatClampNeg)))) (fun S65 => (mq_ck (v3) 300 (if (S65.2.1 2 (v3).toNatClampNeg) = (4 : Int32) then (zf_X11_tell_290 N z k29 (v2) (v3) ((v2 + (2 : Int32))) ((-38 : Int32)) S65) else (zf_X11_tell_290 N z k29 (v2) (v3) ((v2 + (2 : Int32))) ((-124 : Int32)) S65))))))))))))
def zf_X11_tell_311 (N : Nat) (z : Nat → Nat) (S : mq_St) : Option (Int32 × mq_St) := (some ((S.1 2), S))
def zf_X11_tell_29b (N : Nat) (z : Nat → Nat) (k29 : Int32 → mq_St → Option (Int32 × mq_St)) (v2 : Int32) (S : mq_St) : Option (Int32 × mq_St) := (if v2 ≤ (0 : Int32) then (zf_X11_tell_311 N z S) else (if (400 : Int32) ≤ (S.1 2) then (zf_X11_tell_311 N z S) else (mq_nI (v2 + (-1 : Int32)) (fun x9 => (mq_ck (x9) 2000 (mq_nI ((S.2.1 16 (x9).toNatClampNeg)) (fun x11 => (if (0 : Int32) ≤ x11 then (mq_ck (x11) 300 (if (S.2.1 2 (x11).toNatClampNeg) = 0 then (mq_cl (zf_X11_tells N z ((84 : Int32)) S) (fun q14v S16 => (zf_X11_tell_308 N z k29 (x9) S16))) else (if (S.2.1 2 (x11).toNatClampNeg) = 1 then (mq_cl (zf_X11_tells N z ((70 : Int32)) S) (fun q18v S20 => (zf_X11_tell_308 N z k29 (x9) S20))) else (if (S.2.1 2 (x11).toNatClampNeg) = 2 then (mq_ck (x11) 300 (mq_cl (zf_X11_tells N z (((97 : Int32) + (S.2.1 3 (x11).toNatClampNeg))) S) (fun q23v S25 => (zf_X11_tell_308 N z k29 (x9) S25)))) else (if (S.2.1 2 (x11).toNatClampNeg) = 3 then (mq_cl (zf_X11_tells N z ((33 : Int32)) S) (fun q27v S29 => (mq_ck (x11) 300 (mq_cl (zf_X11_tells N z (((97 : Int32) + (S29.2.1 3 (x11).toNatClampNeg))) S29) (fun q31v S33 => (zf_X11_tell_308 N z k29 (x9) S33)))))) else (if (S.2.1 2 (x11).toNatClampNeg) = 4 then (zf_X11_tell_238 N z k29 (x9) (x11) S) else (if (S.2.1 2 (x11).toNatClampNeg) = 5 then (zf_X11_tell_238 N z k29 (x9) (x11) S) else (if (S.2.1 2 (x11).toNatClampNeg) = 6 then (zf_X11_tell_176 N z k29 (x9) (x11) S) else (if (S.2.1 2 (x11).toNatClampNeg) = 7 then (zf_X11_tell_176 N z k29 (x9) (x11) S) else (zf_X11_tell_238 N z k29 (x9) (x11) S)))))))))) else (mq_cl (zf_X11_tells N z ((-x11)) S) (fun q38v S40 => (k29 (x9) S40)))))))))))
def zf_X11_tell_29 (N : Nat) (z : Nat → Nat) : Nat → Int32 → mq_St → Option (Int32 × mq_St)
  | 0, _, _ => none
  | n + 1, v2, S => zf_X11_tell_29b N z (fun v2 S => zf_X11_tell_29 N z n v2 S) v2 S
def zf_X11_tell (N : Nat) (z : Nat → Nat) (v1 : Int32) (S : mq_St) : Option (Int32 × mq_St) := (mq_nS (mq_si S 0 ((0 : Int32))) (fun S1 => (mq_cp (zf_X11_isFormula N z (v1) S1) (fun q2 => (if q2 = (0 : Int32) then (some ((-1 : Int32), S1)) else (mq_nS (mq_si S1 2 ((0 : Int32))) (fun S4 => (mq_ck ((0 : Int32)) 2000 (mq_nS (mq_sa S4 16 (upd (S4.2.1 16) ((0 : Int32)).toNatClampNeg (v1))) (fun S6 => (mq_nI ((1 : Int32)) (fun x7 => (zf_X11_tell_29 N z N (x7) S6)))))))))))))
set_option maxHeartbeats 4000000 in
set_option maxRecDepth 100000 in
theorem zw_X11_tell_308 {p : Program} {l : Launch} {e : Env} {s : State} {m : MethodId} {args : Array Value} {below : List Frame} {meth : Method} {c : Code} {A : Nat → Prop} {D : va_G} {a z : Nat → Nat} {cI cL cB cZ : ClassId} {Q : State → Prop} {N : Nat} {res : Int32 × mq_St} {k29 : Int32 → mq_St → Option (Int32 × mq_St)} (C : mq_C p s m args c A D cI cL cB cZ cX11_tell 4 RX11 zc_X11_tell) (hret : ∀ (H : Heap) (locs : List Loc) (ls : Array Slot) (pc : Nat), decode cX11_tell pc = .ok (.ireturn, 1) → va_P D vwCl (wd_R a cI cL cB cZ z res.2) H → va_D A (wd_R a cI cL cB cZ z res.2) → va_S A s.heap H locs → W p l e zr_X11_tell s m args below meth c H locs 0 0 Q (F0 m pc ls [.int res.1])) (hk29 : ∀ (v2 : Int32) (S : mq_St) (H : Heap) (locs : List Loc) (ls : Array Slot), k29 v2 S = some res → lv_has ls 4 [(0, .ref (a 0)), (2, .int (v2))] → va_P D vwCl (wd_R a cI cL cB cZ z S) H → va_D A (wd_R a cI cL cB cZ z S) → va_S A s.heap H locs → W p l e zr_X11_tell s m args below meth c H locs 0 0 Q (F0 m 29 ls [])) (v2 : Int32) (S : mq_St) (H : Heap) (locs : List Loc) (ls : Array Slot) (h : zf_X11_tell_308 N z k29 v2 S = some res) (hl : lv_has ls 4 [(0, .ref (a 0)), (2, .int (v2))]) (hP : va_P D vwCl (wd_R a cI cL cB cZ z S) H) (hD : va_D A (wd_R a cI cL cB cZ z S)) (hS : va_S A s.heap H locs) : W p l e zr_X11_tell s m args below meth c H locs 0 0 Q (F0 m 308 ls []) := by
  obtain ⟨hx, hb, hml, hown, hts, hK, hA⟩ := id C
  unfold zf_X11_tell_308 at h
  refine lv_goto (tgt := 29) hx hb dX11_tell_308 (by decide) ?_
  exact hk29 (v2) S H locs ls h (lv_sub hl [0, 1] rfl) hP hD hS
set_option maxHeartbeats 4000000 in
set_option maxRecDepth 100000 in
theorem zw_X11_tell_217 {p : Program} {l : Launch} {e : Env} {s : State} {m : MethodId} {args : Array Value} {below : List Frame} {meth : Method} {c : Code} {A : Nat → Prop} {D : va_G} {a z : Nat → Nat} {cI cL cB cZ : ClassId} {Q : State → Prop} {N : Nat} {res : Int32 × mq_St} {k29 : Int32 → mq_St → Option (Int32 × mq_St)} (C : mq_C p s m args c A D cI cL cB cZ cX11_tell 4 RX11 zc_X11_tell) (hret : ∀ (H : Heap) (locs : List Loc) (ls : Array Slot) (pc : Nat), decode cX11_tell pc = .ok (.ireturn, 1) → va_P D vwCl (wd_R a cI cL cB cZ z res.2) H → va_D A (wd_R a cI cL cB cZ z res.2) → va_S A s.heap H locs → W p l e zr_X11_tell s m args below meth c H locs 0 0 Q (F0 m pc ls [.int res.1])) (hk29 : ∀ (v2 : Int32) (S : mq_St) (H : Heap) (locs : List Loc) (ls : Array Slot), k29 v2 S = some res → lv_has ls 4 [(0, .ref (a 0)), (2, .int (v2))] → va_P D vwCl (wd_R a cI cL cB cZ z S) H → va_D A (wd_R a cI cL cB cZ z S) → va_S A s.heap H locs → W p l e zr_X11_tell s m args below meth c H locs 0 0 Q (F0 m 29 ls [])) (v2 : Int32) (v3 : Int32) (t1 : Int32) (S : mq_St) (H : Heap) (locs : List Loc) (ls : Array Slot) (h : zf_X11_tell_217 N z k29 v2 v3 t1 S = some res) (hl : lv_has ls 4 [(0, .ref (a 0)), (2, .int (v2)), (3, .int (v3))]) (hP : va_P D vwCl (wd_R a cI cL cB cZ z S) H) (hD : va_D A (wd_R a cI cL cB cZ z S)) (hS : va_S A s.heap H locs) : W p l e zr_X11_tell s m args below meth c H locs 0 0 Q (F0 m 217 ls [.int (t1), .ref (a 0)]) := by
  obtain ⟨hx, hb, hml, hown, hts, hK, hA⟩ := id C
  unfold zf_X11_tell_217 at h
  obtain ⟨q51, hc52, h⟩ := mq_cl_go h
  refine zk_X11_tells C zt_m_X11_270 ⟨by decide, by decide⟩ hc52 hP hD hS hl.1 (Nat.le_of_ble_eq_true rfl) dX11_tell_217 (fun H locs hP hD hS => ?_)
  obtain ⟨S53, eS53⟩ : ∃ y, y = q51.2 := ⟨_, rfl⟩
  rw [← eS53] at hP hD h
  refine lv_aload_n hx hb dX11_tell_220 rfl (lv_at hl 0 rfl) ?_
  refine va_get (D := D) (ci := 11) (v := .ref (a 17)) (C := RX11) (T := TX11) (N := 76) hx hb hts (zi_X11 _) hown hK hP 0 rfl rfl 34 (by decide) (hts _ (List.mem_cons_of_mem _ zt_f_X11_66)) (fun _ h9 => h9) rfl dX11_tell_221 ?_
  refine lv_iload_n hx hb dX11_tell_224 rfl (lv_at hl 1 rfl) ?_
  refine lv_aload_n hx hb dX11_tell_225 rfl (lv_at hl 0 rfl) ?_
  refine va_get (D := D) (ci := 11) (v := .ref (a 4)) (C := RX11) (T := TX11) (N := 76) hx hb hts (zi_X11 _) hown hK hP 0 rfl rfl 6 (by decide) (hts _ (List.mem_cons_of_mem _ zt_f_X11_20)) (fun _ h9 => h9) rfl dX11_tell_226 ?_
  refine lv_iload_n hx hb dX11_tell_229 rfl (lv_at hl 2 rfl) ?_
  have hi54 := mq_ck_in h
  replace h := mq_ck_go h
  refine va_iald (f := S53.2.1 3) hx hb hK hP 4 0 rfl rfl hi54 dX11_tell_230 ?_
  have hi55 := mq_ck_in h
  replace h := mq_ck_go h
  refine mq_iast (w := wd_R a cI cL cB cZ z) (S := S53) (f := S53.2.1 16) hx hb hK hP hD hS 17 0 rfl rfl hi55 dX11_tell_231 16 (zs_wd_R_a_17_16 _ _ _ _ _ _ _ _) (fun S56 eS56 H locs hP hD hS => ?_)
  replace h := mq_nS_go eS56 h
  obtain ⟨x57, ex57⟩ : ∃ y : Int32, y = v2 + (1 : Int32) := ⟨_, rfl⟩
  replace h := mq_nI_go ex57 h
  refine lv_iinc (v := x57) (lv' := [(2, .int (x57)), (0, .ref (a 0)), (3, .int (v3))]) hx hb dX11_tell_232 hl (k := 1) rfl (by rw [ex57]; rfl) (by decide) rfl (fun ls hl => ?_)
  refine lv_goto (tgt := 308) hx hb dX11_tell_235 (by decide) ?_
  exact zw_X11_tell_308 C hret hk29 (x57) S56 H locs ls h (lv_sub hl [1, 0] rfl) hP hD hS
set_option maxHeartbeats 4000000 in
set_option maxRecDepth 100000 in
theorem zw_X11_tell_195 {p : Program} {l : Launch} {e : Env} {s : State} {m : MethodId} {args : Array Value} {below : List Frame} {meth : Method} {c : Code} {A : Nat → Prop} {D : va_G} {a z : Nat → Nat} {cI cL cB cZ : ClassId} {Q : State → Prop} {N : Nat} {res : Int32 × mq_St} {k29 : Int32 → mq_St → Option (Int32 × mq_St)} (C : mq_C p s m args c A D cI cL cB cZ cX11_tell 4 RX11 zc_X11_tell) (hret : ∀ (H : Heap) (locs : List Loc) (ls : Array Slot) (pc : Nat), decode cX11_tell pc = .ok (.ireturn, 1) → va_P D vwCl (wd_R a cI cL cB cZ z res.2) H → va_D A (wd_R a cI cL cB cZ z res.2) → va_S A s.heap H locs → W p l e zr_X11_tell s m args below meth c H locs 0 0 Q (F0 m pc ls [.int res.1])) (hk29 : ∀ (v2 : Int32) (S : mq_St) (H : Heap) (locs : List Loc) (ls : Array Slot), k29 v2 S = some res → lv_has ls 4 [(0, .ref (a 0)), (2, .int (v2))] → va_P D vwCl (wd_R a cI cL cB cZ z S) H → va_D A (wd_R a cI cL cB cZ z S) → va_S A s.heap H locs → W p l e zr_X11_tell s m args below meth c H locs 0 0 Q (F0 m 29 ls [])) (v2 : Int32) (v3 : Int32) (t1 : Int32) (S : mq_St) (H : Heap) (locs : List Loc) (ls : Array Slot) (h : zf_X11_tell_195 N z k29 v2 v3 t1 S = some res) (hl : lv_has ls 4 [(0, .ref (a 0)), (2, .int (v2)), (3, .int (v3))]) (hP : va_P D vwCl (wd_R a cI cL cB cZ z S) H) (hD : va_D A (wd_R a cI cL cB cZ z S)) (hS : va_S A s.heap H locs) : W p l e zr_X11_tell s m args below meth c H locs 0 0 Q (F0 m 195 ls [.int (t1), .ref (a 0)]) := by
  obtain ⟨hx, hb, hml, hown, hts, hK, hA⟩ := id C
  unfold zf_X11_tell_195 at h
  obtain ⟨q46, hc47, h⟩ := mq_cl_go h
  refine zk_X11_tells C zt_m_X11_270 ⟨by decide, by decide⟩ hc47 hP hD hS hl.1 (Nat.le_of_ble_eq_true rfl) dX11_tell_195 (fun H locs hP hD hS => ?_)
  obtain ⟨S48, eS48⟩ : ∃ y, y = q46.2 := ⟨_, rfl⟩
  rw [← eS48] at hP hD h
  refine lv_aload_n hx hb dX11_tell_198 rfl (lv_at hl 0 rfl) ?_
  refine lv_aload_n hx hb dX11_tell_199 rfl (lv_at hl 0 rfl) ?_
  refine va_get (D := D) (ci := 11) (v := .ref (a 3)) (C := RX11) (T := TX11) (N := 76) hx hb hts (zi_X11 _) hown hK hP 0 rfl rfl 5 (by decide) (hts _ (List.mem_cons_of_mem _ zt_f_X11_16)) (fun _ h9 => h9) rfl dX11_tell_200 ?_
  refine lv_iload_n hx hb dX11_tell_203 rfl (lv_at hl 2 rfl) ?_
  have hi49 := mq_ck_in h
  replace h := mq_ck_go h
  refine va_iald (f := S48.2.1 2) hx hb hK hP 3 0 rfl rfl hi49 dX11_tell_204 ?_
  refine lv_bipush (v := (6 : Int32)) hx hb dX11_tell_205 (by decide) ?_
  refine lv_icmp_ne (tgt := 215) hx hb dX11_tell_207 (by decide) (fun c50 => ?_) (fun c50 => ?_)
  · replace h := mq_if c50 h
    refine lv_bipush (v := (62 : Int32)) hx hb dX11_tell_215 (by decide) ?_
    exact zw_X11_tell_217 C hret hk29 (v2) (v3) ((62 : Int32)) S48 H locs ls h (lv_sub hl [0, 1, 2] rfl) hP hD hS
  · replace h := mq_it (by simpa using c50) h
    refine lv_bipush (v := (93 : Int32)) hx hb dX11_tell_210 (by decide) ?_
    refine lv_goto (tgt := 217) hx hb dX11_tell_212 (by decide) ?_
    exact zw_X11_tell_217 C hret hk29 (v2) (v3) ((93 : Int32)) S48 H locs ls h (lv_sub hl [0, 1, 2] rfl) hP hD hS
set_option maxHeartbeats 4000000 in
set_option maxRecDepth 100000 in
theorem zw_X11_tell_176 {p : Program} {l : Launch} {e : Env} {s : State} {m : MethodId} {args : Array Value} {below : List Frame} {meth : Method} {c : Code} {A : Nat → Prop} {D : va_G} {a z : Nat → Nat} {cI cL cB cZ : ClassId} {Q : State → Prop} {N : Nat} {res : Int32 × mq_St} {k29 : Int32 → mq_St → Option (Int32 × mq_St)} (C : mq_C p s m args c A D cI cL cB cZ cX11_tell 4 RX11 zc_X11_tell) (hret : ∀ (H : Heap) (locs : List Loc) (ls : Array Slot) (pc : Nat), decode cX11_tell pc = .ok (.ireturn, 1) → va_P D vwCl (wd_R a cI cL cB cZ z res.2) H → va_D A (wd_R a cI cL cB cZ z res.2) → va_S A s.heap H locs → W p l e zr_X11_tell s m args below meth c H locs 0 0 Q (F0 m pc ls [.int res.1])) (hk29 : ∀ (v2 : Int32) (S : mq_St) (H : Heap) (locs : List Loc) (ls : Array Slot), k29 v2 S = some res → lv_has ls 4 [(0, .ref (a 0)), (2, .int (v2))] → va_P D vwCl (wd_R a cI cL cB cZ z S) H → va_D A (wd_R a cI cL cB cZ z S) → va_S A s.heap H locs → W p l e zr_X11_tell s m args below meth c H locs 0 0 Q (F0 m 29 ls [])) (v2 : Int32) (v3 : Int32) (S : mq_St) (H : Heap) (locs : List Loc) (ls : Array Slot) (h : zf_X11_tell_176 N z k29 v2 v3 S = some res) (hl : lv_has ls 4 [(0, .ref (a 0)), (2, .int (v2)), (3, .int (v3))]) (hP : va_P D vwCl (wd_R a cI cL cB cZ z S) H) (hD : va_D A (wd_R a cI cL cB cZ z S)) (hS : va_S A s.heap H locs) : W p l e zr_X11_tell s m args below meth c H locs 0 0 Q (F0 m 176 ls []) := by
  obtain ⟨hx, hb, hml, hown, hts, hK, hA⟩ := id C
  unfold zf_X11_tell_176 at h
  refine lv_aload_n hx hb dX11_tell_176 rfl (lv_at hl 0 rfl) ?_
  refine lv_aload_n hx hb dX11_tell_177 rfl (lv_at hl 0 rfl) ?_
  refine va_get (D := D) (ci := 11) (v := .ref (a 3)) (C := RX11) (T := TX11) (N := 76) hx hb hts (zi_X11 _) hown hK hP 0 rfl rfl 5 (by decide) (hts _ (List.mem_cons_of_mem _ zt_f_X11_16)) (fun _ h9 => h9) rfl dX11_tell_178 ?_
  refine lv_iload_n hx hb dX11_tell_181 rfl (lv_at hl 2 rfl) ?_
  have hi44 := mq_ck_in h
  replace h := mq_ck_go h
  refine va_iald (f := S.2.1 2) hx hb hK hP 3 0 rfl rfl hi44 dX11_tell_182 ?_
  refine lv_bipush (v := (6 : Int32)) hx hb dX11_tell_183 (by decide) ?_
  refine lv_icmp_ne (tgt := 193) hx hb dX11_tell_185 (by decide) (fun c45 => ?_) (fun c45 => ?_)
  · replace h := mq_if c45 h
    refine lv_bipush (v := (60 : Int32)) hx hb dX11_tell_193 (by decide) ?_
    exact zw_X11_tell_195 C hret hk29 (v2) (v3) ((60 : Int32)) S H locs ls h (lv_sub hl [0, 1, 2] rfl) hP hD hS
  · replace h := mq_it (by simpa using c45) h
    refine lv_bipush (v := (91 : Int32)) hx hb dX11_tell_188 (by decide) ?_
    refine lv_goto (tgt := 195) hx hb dX11_tell_190 (by decide) ?_
    exact zw_X11_tell_195 C hret hk29 (v2) (v3) ((91 : Int32)) S H locs ls h (lv_sub hl [0, 1, 2] rfl) hP hD hS
set_option maxHeartbeats 4000000 in
set_option maxRecDepth 100000 in
theorem zw_X11_tell_290 {p : Program} {l : Launch} {e : Env} {s : State} {m : MethodId} {args : Array Value} {below : List Frame} {meth : Method} {c : Code} {A : Nat → Prop} {D : va_G} {a z : Nat → Nat} {cI cL cB cZ : ClassId} {Q : State → Prop} {N : Nat} {res : Int32 × mq_St} {k29 : Int32 → mq_St → Option (Int32 × mq_St)} (C : mq_C p s m args c A D cI cL cB cZ cX11_tell 4 RX11 zc_X11_tell) (hret : ∀ (H : Heap) (locs : List Loc) (ls : Array Slot) (pc : Nat), decode cX11_tell pc = .ok (.ireturn, 1) → va_P D vwCl (wd_R a cI cL cB cZ z res.2) H → va_D A (wd_R a cI cL cB cZ z res.2) → va_S A s.heap H locs → W p l e zr_X11_tell s m args below meth c H locs 0 0 Q (F0 m pc ls [.int res.1])) (hk29 : ∀ (v2 : Int32) (S : mq_St) (H : Heap) (locs : List Loc) (ls : Array Slot), k29 v2 S = some res → lv_has ls 4 [(0, .ref (a 0)), (2, .int (v2))] → va_P D vwCl (wd_R a cI cL cB cZ z S) H → va_D A (wd_R a cI cL cB cZ z S) → va_S A s.heap H locs → W p l e zr_X11_tell s m args below meth c H locs 0 0 Q (F0 m 29 ls [])) (v2 : Int32) (v3 : Int32) (t1 : Int32) (t2 : Int32) (S : mq_St) (H : Heap) (locs : List Loc) (ls : Array Slot) (h : zf_X11_tell_290 N z k29 v2 v3 t1 t2 S = some res) (hl : lv_has ls 4 [(0, .ref (a 0)), (2, .int (v2)), (3, .int (v3))]) (hP : va_P D vwCl (wd_R a cI cL cB cZ z S) H) (hD : va_D A (wd_R a cI cL cB cZ z S)) (hS : va_S A s.heap H locs) : W p l e zr_X11_tell s m args below meth c H locs 0 0 Q (F0 m 290 ls [.int (t2), .int (t1), .ref (a 17)]) := by
  obtain ⟨hx, hb, hml, hown, hts, hK, hA⟩ := id C
  unfold zf_X11_tell_290 at h
  have hi68 := mq_ck_in h
  replace h := mq_ck_go h
  refine mq_iast (w := wd_R a cI cL cB cZ z) (S := S) (f := S.2.1 16) hx hb hK hP hD hS 17 0 rfl rfl hi68 dX11_tell_290 16 (zs_wd_R_a_17_16 _ _ _ _ _ _ _ _) (fun S69 eS69 H locs hP hD hS => ?_)
  replace h := mq_nS_go eS69 h
  refine lv_aload_n hx hb dX11_tell_291 rfl (lv_at hl 0 rfl) ?_
  refine va_get (D := D) (ci := 11) (v := .ref (a 17)) (C := RX11) (T := TX11) (N := 76) hx hb hts (zi_X11 _) hown hK hP 0 rfl rfl 34 (by decide) (hts _ (List.mem_cons_of_mem _ zt_f_X11_66)) (fun _ h9 => h9) rfl dX11_tell_292 ?_
  refine lv_iload_n hx hb dX11_tell_295 rfl (lv_at hl 1 rfl) ?_
  refine lv_iconst (v := (3 : Int32)) hx hb dX11_tell_296 (by decide) ?_
  refine lv_iadd hx hb dX11_tell_297 ?_
  refine lv_aload_n hx hb dX11_tell_298 rfl (lv_at hl 0 rfl) ?_
  refine va_get (D := D) (ci := 11) (v := .ref (a 4)) (C := RX11) (T := TX11) (N := 76) hx hb hts (zi_X11 _) hown hK hP 0 rfl rfl 6 (by decide) (hts _ (List.mem_cons_of_mem _ zt_f_X11_20)) (fun _ h9 => h9) rfl dX11_tell_299 ?_
  refine lv_iload_n hx hb dX11_tell_302 rfl (lv_at hl 2 rfl) ?_
  have hi70 := mq_ck_in h
  replace h := mq_ck_go h
  refine va_iald (f := S69.2.1 3) hx hb hK hP 4 0 rfl rfl hi70 dX11_tell_303 ?_
  have hi71 := mq_ck_in h
  replace h := mq_ck_go h
  refine mq_iast (w := wd_R a cI cL cB cZ z) (S := S69) (f := S69.2.1 16) hx hb hK hP hD hS 17 0 rfl rfl hi71 dX11_tell_304 16 (zs_wd_R_a_17_16 _ _ _ _ _ _ _ _) (fun S72 eS72 H locs hP hD hS => ?_)
  replace h := mq_nS_go eS72 h
  obtain ⟨x73, ex73⟩ : ∃ y : Int32, y = v2 + (4 : Int32) := ⟨_, rfl⟩
  replace h := mq_nI_go ex73 h
  refine lv_iinc (v := x73) (lv' := [(2, .int (x73)), (0, .ref (a 0)), (3, .int (v3))]) hx hb dX11_tell_305 hl (k := 1) rfl (by rw [ex73]; rfl) (by decide) rfl (fun ls hl => ?_)
  exact zw_X11_tell_308 C hret hk29 (x73) S72 H locs ls h (lv_sub hl [1, 0] rfl) hP hD hS
set_option maxHeartbeats 4000000 in
set_option maxRecDepth 100000 in
theorem zw_X11_tell_238 {p : Program} {l : Launch} {e : Env} {s : State} {m : MethodId} {args : Array Value} {below : List Frame} {meth : Method} {c : Code} {A : Nat → Prop} {D : va_G} {a z : Nat → Nat} {cI cL cB cZ : ClassId} {Q : State → Prop} {N : Nat} {res : Int32 × mq_St} {k29 : Int32 → mq_St → Option (Int32 × mq_St)} (C : mq_C p s m args c A D cI cL cB cZ cX11_tell 4 RX11 zc_X11_tell) (hret : ∀ (H : Heap) (locs : List Loc) (ls : Array Slot) (pc : Nat), decode cX11_tell pc = .ok (.ireturn, 1) → va_P D vwCl (wd_R a cI cL cB cZ z res.2) H → va_D A (wd_R a cI cL cB cZ z res.2) → va_S A s.heap H locs → W p l e zr_X11_tell s m args below meth c H locs 0 0 Q (F0 m pc ls [.int res.1])) (hk29 : ∀ (v2 : Int32) (S : mq_St) (H : Heap) (locs : List Loc) (ls : Array Slot), k29 v2 S = some res → lv_has ls 4 [(0, .ref (a 0)), (2, .int (v2))] → va_P D vwCl (wd_R a cI cL cB cZ z S) H → va_D A (wd_R a cI cL cB cZ z S) → va_S A s.heap H locs → W p l e zr_X11_tell s m args below meth c H locs 0 0 Q (F0 m 29 ls [])) (v2 : Int32) (v3 : Int32) (S : mq_St) (H : Heap) (locs : List Loc) (ls : Array Slot) (h : zf_X11_tell_238 N z k29 v2 v3 S = some res) (hl : lv_has ls 4 [(0, .ref (a 0)), (2, .int (v2)), (3, .int (v3))]) (hP : va_P D vwCl (wd_R a cI cL cB cZ z S) H) (hD : va_D A (wd_R a cI cL cB cZ z S)) (hS : va_S A s.heap H locs) : W p l e zr_X11_tell s m args below meth c H locs 0 0 Q (F0 m 238 ls []) := by
  obtain ⟨hx, hb, hml, hown, hts, hK, hA⟩ := id C
  unfold zf_X11_tell_238 at h
  refine lv_aload_n hx hb dX11_tell_238 rfl (lv_at hl 0 rfl) ?_
  refine lv_bipush (v := (40 : Int32)) hx hb dX11_tell_239 (by decide) ?_
  obtain ⟨q58, hc59, h⟩ := mq_cl_go h
  refine zk_X11_tells C zt_m_X11_270 ⟨by decide, by decide⟩ hc59 hP hD hS hl.1 (Nat.le_of_ble_eq_true rfl) dX11_tell_241 (fun H locs hP hD hS => ?_)
  obtain ⟨S60, eS60⟩ : ∃ y, y = q58.2 := ⟨_, rfl⟩
  rw [← eS60] at hP hD h
  refine lv_aload_n hx hb dX11_tell_244 rfl (lv_at hl 0 rfl) ?_
  refine va_get (D := D) (ci := 11) (v := .ref (a 17)) (C := RX11) (T := TX11) (N := 76) hx hb hts (zi_X11 _) hown hK hP 0 rfl rfl 34 (by decide) (hts _ (List.mem_cons_of_mem _ zt_f_X11_66)) (fun _ h9 => h9) rfl dX11_tell_245 ?_
  refine lv_iload_n hx hb dX11_tell_248 rfl (lv_at hl 1 rfl) ?_
  refine lv_bipush (v := (-41 : Int32)) hx hb dX11_tell_249 (by decide) ?_
  have hi61 := mq_ck_in h
  replace h := mq_ck_go h
  refine mq_iast (w := wd_R a cI cL cB cZ z) (S := S60) (f := S60.2.1 16) hx hb hK hP hD hS 17 0 rfl rfl hi61 dX11_tell_251 16 (zs_wd_R_a_17_16 _ _ _ _ _ _ _ _) (fun S62 eS62 H locs hP hD hS => ?_)
  replace h := mq_nS_go eS62 h
  refine lv_aload_n hx hb dX11_tell_252 rfl (lv_at hl 0 rfl) ?_
  refine va_get (D := D) (ci := 11) (v := .ref (a 17)) (C := RX11) (T := TX11) (N := 76) hx hb hts (zi_X11 _) hown hK hP 0 rfl rfl 34 (by decide) (hts _ (List.mem_cons_of_mem _ zt_f_X11_66)) (fun _ h9 => h9) rfl dX11_tell_253 ?_
  refine lv_iload_n hx hb dX11_tell_256 rfl (lv_at hl 1 rfl) ?_
  refine lv_iconst (v := (1 : Int32)) hx hb dX11_tell_257 (by decide) ?_
  refine lv_iadd hx hb dX11_tell_258 ?_
  refine lv_aload_n hx hb dX11_tell_259 rfl (lv_at hl 0 rfl) ?_
  refine va_get (D := D) (ci := 11) (v := .ref (a 5)) (C := RX11) (T := TX11) (N := 76) hx hb hts (zi_X11 _) hown hK hP 0 rfl rfl 7 (by decide) (hts _ (List.mem_cons_of_mem _ zt_f_X11_23)) (fun _ h9 => h9) rfl dX11_tell_260 ?_
  refine lv_iload_n hx hb dX11_tell_263 rfl (lv_at hl 2 rfl) ?_
  have hi63 := mq_ck_in h
  replace h := mq_ck_go h
  refine va_iald (f := S62.2.1 4) hx hb hK hP 5 0 rfl rfl hi63 dX11_tell_264 ?_
  have hi64 := mq_ck_in h
  replace h := mq_ck_go h
  refine mq_iast (w := wd_R a cI cL cB cZ z) (S := S62) (f := S62.2.1 16) hx hb hK hP hD hS 17 0 rfl rfl hi64 dX11_tell_265 16 (zs_wd_R_a_17_16 _ _ _ _ _ _ _ _) (fun S65 eS65 H locs hP hD hS => ?_)
  replace h := mq_nS_go eS65 h
  refine lv_aload_n hx hb dX11_tell_266 rfl (lv_at hl 0 rfl) ?_
  refine va_get (D := D) (ci := 11) (v := .ref (a 17)) (C := RX11) (T := TX11) (N := 76) hx hb hts (zi_X11 _) hown hK hP 0 rfl rfl 34 (by decide) (hts _ (List.mem_cons_of_mem _ zt_f_X11_66)) (fun _ h9 => h9) rfl dX11_tell_267 ?_
  refine lv_iload_n hx hb dX11_tell_270 rfl (lv_at hl 1 rfl) ?_
  refine lv_iconst (v := (2 : Int32)) hx hb dX11_tell_271 (by decide) ?_
  refine lv_iadd hx hb dX11_tell_272 ?_
  refine lv_aload_n hx hb dX11_tell_273 rfl (lv_at hl 0 rfl) ?_
  refine va_get (D := D) (ci := 11) (v := .ref (a 3)) (C := RX11) (T := TX11) (N := 76) hx hb hts (zi_X11 _) hown hK hP 0 rfl rfl 5 (by decide) (hts _ (List.mem_cons_of_mem _ zt_f_X11_16)) (fun _ h9 => h9) rfl dX11_tell_274 ?_
  refine lv_iload_n hx hb dX11_tell_277 rfl (lv_at hl 2 rfl) ?_
  have hi66 := mq_ck_in h
  replace h := mq_ck_go h
  refine va_iald (f := S65.2.1 2) hx hb hK hP 3 0 rfl rfl hi66 dX11_tell_278 ?_
  refine lv_iconst (v := (4 : Int32)) hx hb dX11_tell_279 (by decide) ?_
  refine lv_icmp_ne (tgt := 288) hx hb dX11_tell_280 (by decide) (fun c67 => ?_) (fun c67 => ?_)
  · replace h := mq_if c67 h
    refine lv_bipush (v := (-124 : Int32)) hx hb dX11_tell_288 (by decide) ?_
    exact zw_X11_tell_290 C hret hk29 (v2) (v3) ((v2 + (2 : Int32))) ((-124 : Int32)) S65 H locs ls h (lv_sub hl [0, 1, 2] rfl) hP hD hS
  · replace h := mq_it (by simpa using c67) h
    refine lv_bipush (v := (-38 : Int32)) hx hb dX11_tell_283 (by decide) ?_
    refine lv_goto (tgt := 290) hx hb dX11_tell_285 (by decide) ?_
    exact zw_X11_tell_290 C hret hk29 (v2) (v3) ((v2 + (2 : Int32))) ((-38 : Int32)) S65 H locs ls h (lv_sub hl [0, 1, 2] rfl) hP hD hS
set_option maxHeartbeats 4000000 in
set_option maxRecDepth 100000 in
theorem zw_X11_tell_311 {p : Program} {l : Launch} {e : Env} {s : State} {m : MethodId} {args : Array Value} {below : List Frame} {meth : Method} {c : Code} {A : Nat → Prop} {D : va_G} {a z : Nat → Nat} {cI cL cB cZ : ClassId} {Q : State → Prop} {N : Nat} {res : Int32 × mq_St} (C : mq_C p s m args c A D cI cL cB cZ cX11_tell 4 RX11 zc_X11_tell) (hret : ∀ (H : Heap) (locs : List Loc) (ls : Array Slot) (pc : Nat), decode cX11_tell pc = .ok (.ireturn, 1) → va_P D vwCl (wd_R a cI cL cB cZ z res.2) H → va_D A (wd_R a cI cL cB cZ z res.2) → va_S A s.heap H locs → W p l e zr_X11_tell s m args below meth c H locs 0 0 Q (F0 m pc ls [.int res.1])) (S : mq_St) (H : Heap) (locs : List Loc) (ls : Array Slot) (h : zf_X11_tell_311 N z S = some res) (hl : lv_has ls 4 [(0, .ref (a 0))]) (hP : va_P D vwCl (wd_R a cI cL cB cZ z S) H) (hD : va_D A (wd_R a cI cL cB cZ z S)) (hS : va_S A s.heap H locs) : W p l e zr_X11_tell s m args below meth c H locs 0 0 Q (F0 m 311 ls []) := by
  obtain ⟨hx, hb, hml, hown, hts, hK, hA⟩ := id C
  unfold zf_X11_tell_311 at h
  refine lv_aload_n hx hb dX11_tell_311 rfl (lv_at hl 0 rfl) ?_
  refine va_get (D := D) (ci := 11) (v := .int ((S.1 2))) (C := RX11) (T := TX11) (N := 76) hx hb hts (zi_X11 _) hown hK hP 0 rfl rfl 4 (by decide) (hts _ (List.mem_cons_of_mem _ zt_f_X11_165)) (fun _ h9 => h9) rfl dX11_tell_312 ?_
  cases h
  exact hret H locs ls 315 dX11_tell_315 hP hD hS
set_option maxHeartbeats 4000000 in
set_option maxRecDepth 100000 in
theorem zw_X11_tell_29b {p : Program} {l : Launch} {e : Env} {s : State} {m : MethodId} {args : Array Value} {below : List Frame} {meth : Method} {c : Code} {A : Nat → Prop} {D : va_G} {a z : Nat → Nat} {cI cL cB cZ : ClassId} {Q : State → Prop} {N : Nat} {res : Int32 × mq_St} {k29 : Int32 → mq_St → Option (Int32 × mq_St)} (C : mq_C p s m args c A D cI cL cB cZ cX11_tell 4 RX11 zc_X11_tell) (hret : ∀ (H : Heap) (locs : List Loc) (ls : Array Slot) (pc : Nat), decode cX11_tell pc = .ok (.ireturn, 1) → va_P D vwCl (wd_R a cI cL cB cZ z res.2) H → va_D A (wd_R a cI cL cB cZ z res.2) → va_S A s.heap H locs → W p l e zr_X11_tell s m args below meth c H locs 0 0 Q (F0 m pc ls [.int res.1])) (hk29 : ∀ (v2 : Int32) (S : mq_St) (H : Heap) (locs : List Loc) (ls : Array Slot), k29 v2 S = some res → lv_has ls 4 [(0, .ref (a 0)), (2, .int (v2))] → va_P D vwCl (wd_R a cI cL cB cZ z S) H → va_D A (wd_R a cI cL cB cZ z S) → va_S A s.heap H locs → W p l e zr_X11_tell s m args below meth c H locs 0 0 Q (F0 m 29 ls [])) (v2 : Int32) (S : mq_St) (H : Heap) (locs : List Loc) (ls : Array Slot) (h : zf_X11_tell_29b N z k29 v2 S = some res) (hl : lv_has ls 4 [(0, .ref (a 0)), (2, .int (v2))]) (hP : va_P D vwCl (wd_R a cI cL cB cZ z S) H) (hD : va_D A (wd_R a cI cL cB cZ z S)) (hS : va_S A s.heap H locs) : W p l e zr_X11_tell s m args below meth c H locs 0 0 Q (F0 m 29 ls []) := by
  obtain ⟨hx, hb, hml, hown, hts, hK, hA⟩ := id C
  unfold zf_X11_tell_29b at h
  refine lv_iload_n hx hb dX11_tell_29 rfl (lv_at hl 1 rfl) ?_
  refine lv_if_le (tgt := 311) hx hb dX11_tell_30 (by decide) (fun c43 => ?_) (fun c43 => ?_)
  · replace h := mq_it c43 h
    exact zw_X11_tell_311 C hret S H locs ls h (lv_sub hl [0] rfl) hP hD hS
  · replace h := mq_if c43 h
    refine lv_aload_n hx hb dX11_tell_33 rfl (lv_at hl 0 rfl) ?_
    refine va_get (D := D) (ci := 11) (v := .int ((S.1 2))) (C := RX11) (T := TX11) (N := 76) hx hb hts (zi_X11 _) hown hK hP 0 rfl rfl 4 (by decide) (hts _ (List.mem_cons_of_mem _ zt_f_X11_165)) (fun _ h9 => h9) rfl dX11_tell_34 ?_
    refine lv_sipush (v := (400 : Int32)) hx hb dX11_tell_37 (by decide) ?_
    refine lv_icmp_ge (tgt := 311) hx hb dX11_tell_40 (by decide) (fun c42 => ?_) (fun c42 => ?_)
    · replace h := mq_it c42 h
      exact zw_X11_tell_311 C hret S H locs ls h (lv_sub hl [0] rfl) hP hD hS
    · replace h := mq_if c42 h
      obtain ⟨x9, ex9⟩ : ∃ y : Int32, y = v2 + (-1 : Int32) := ⟨_, rfl⟩
      replace h := mq_nI_go ex9 h
      refine lv_iinc (v := x9) (lv' := [(2, .int (x9)), (0, .ref (a 0))]) hx hb dX11_tell_43 hl (k := 1) rfl (by rw [ex9]; rfl) (by decide) rfl (fun ls hl => ?_)
      refine lv_aload_n hx hb dX11_tell_46 rfl (lv_at hl 1 rfl) ?_
      refine va_get (D := D) (ci := 11) (v := .ref (a 17)) (C := RX11) (T := TX11) (N := 76) hx hb hts (zi_X11 _) hown hK hP 0 rfl rfl 34 (by decide) (hts _ (List.mem_cons_of_mem _ zt_f_X11_66)) (fun _ h9 => h9) rfl dX11_tell_47 ?_
      refine lv_iload_n hx hb dX11_tell_50 rfl (lv_at hl 0 rfl) ?_
      have hi10 := mq_ck_in h
      replace h := mq_ck_go h
      refine va_iald (f := S.2.1 16) hx hb hK hP 17 0 rfl rfl hi10 dX11_tell_51 ?_
      refine lv_topi (fun x11 ex11 => ?_)
      replace h := mq_nI_go ex11 h
      refine lv_istore_n (lv' := [(3, .int (x11)), (2, .int (x9)), (0, .ref (a 0))]) hx hb dX11_tell_52 rfl hl (by decide) rfl (fun ls hl => ?_)
      refine lv_iload_n hx hb dX11_tell_53 rfl (lv_at hl 0 rfl) ?_
      refine lv_if_ge (tgt := 66) hx hb dX11_tell_54 (by decide) (fun c41 => ?_) (fun c41 => ?_)
      · replace h := mq_it c41 h
        refine lv_aload_n hx hb dX11_tell_66 rfl (lv_at hl 2 rfl) ?_
        refine va_get (D := D) (ci := 11) (v := .ref (a 3)) (C := RX11) (T := TX11) (N := 76) hx hb hts (zi_X11 _) hown hK hP 0 rfl rfl 5 (by decide) (hts _ (List.mem_cons_of_mem _ zt_f_X11_16)) (fun _ h9 => h9) rfl dX11_tell_67 ?_
        refine lv_iload_n hx hb dX11_tell_70 rfl (lv_at hl 0 rfl) ?_
        have hi12 := mq_ck_in h
        replace h := mq_ck_go h
        refine va_iald (f := S.2.1 2) hx hb hK hP 3 0 rfl rfl hi12 dX11_tell_71 ?_
        by_cases c13 : (S.2.1 2 (x11).toNatClampNeg) = 0
        · refine lv_tableIn (off := 48) (tgt := 120) hx hb dX11_tell_72 (by rw [c13]; decide) (by rw [c13]; decide) (by rw [c13]; rfl) (by decide) ?_
          replace h := mq_it c13 h
          refine lv_aload_n hx hb dX11_tell_120 rfl (lv_at hl 2 rfl) ?_
          refine lv_bipush (v := (84 : Int32)) hx hb dX11_tell_121 (by decide) ?_
          obtain ⟨q14, hc15, h⟩ := mq_cl_go h
          refine zk_X11_tells C zt_m_X11_270 ⟨by decide, by decide⟩ hc15 hP hD hS hl.1 (Nat.le_of_ble_eq_true rfl) dX11_tell_123 (fun H locs hP hD hS => ?_)
          obtain ⟨S16, eS16⟩ : ∃ y, y = q14.2 := ⟨_, rfl⟩
          rw [← eS16] at hP hD h
          refine lv_goto (tgt := 308) hx hb dX11_tell_126 (by decide) ?_
          exact zw_X11_tell_308 C hret hk29 (x9) S16 H locs ls h (lv_sub hl [2, 1] rfl) hP hD hS
        replace h := mq_if c13 h
        by_cases c17 : (S.2.1 2 (x11).toNatClampNeg) = 1
        · refine lv_tableIn (off := 57) (tgt := 129) hx hb dX11_tell_72 (by rw [c17]; decide) (by rw [c17]; decide) (by rw [c17]; rfl) (by decide) ?_
          replace h := mq_it c17 h
          refine lv_aload_n hx hb dX11_tell_129 rfl (lv_at hl 2 rfl) ?_
          refine lv_bipush (v := (70 : Int32)) hx hb dX11_tell_130 (by decide) ?_
          obtain ⟨q18, hc19, h⟩ := mq_cl_go h
          refine zk_X11_tells C zt_m_X11_270 ⟨by decide, by decide⟩ hc19 hP hD hS hl.1 (Nat.le_of_ble_eq_true rfl) dX11_tell_132 (fun H locs hP hD hS => ?_)
          obtain ⟨S20, eS20⟩ : ∃ y, y = q18.2 := ⟨_, rfl⟩
          rw [← eS20] at hP hD h
          refine lv_goto (tgt := 308) hx hb dX11_tell_135 (by decide) ?_
          exact zw_X11_tell_308 C hret hk29 (x9) S20 H locs ls h (lv_sub hl [2, 1] rfl) hP hD hS
        replace h := mq_if c17 h
        by_cases c21 : (S.2.1 2 (x11).toNatClampNeg) = 2
        · refine lv_tableIn (off := 88) (tgt := 160) hx hb dX11_tell_72 (by rw [c21]; decide) (by rw [c21]; decide) (by rw [c21]; rfl) (by decide) ?_
          replace h := mq_it c21 h
          refine lv_aload_n hx hb dX11_tell_160 rfl (lv_at hl 2 rfl) ?_
          refine lv_bipush (v := (97 : Int32)) hx hb dX11_tell_161 (by decide) ?_
          refine lv_aload_n hx hb dX11_tell_163 rfl (lv_at hl 2 rfl) ?_
          refine va_get (D := D) (ci := 11) (v := .ref (a 4)) (C := RX11) (T := TX11) (N := 76) hx hb hts (zi_X11 _) hown hK hP 0 rfl rfl 6 (by decide) (hts _ (List.mem_cons_of_mem _ zt_f_X11_20)) (fun _ h9 => h9) rfl dX11_tell_164 ?_
          refine lv_iload_n hx hb dX11_tell_167 rfl (lv_at hl 0 rfl) ?_
          have hi22 := mq_ck_in h
          replace h := mq_ck_go h
          refine va_iald (f := S.2.1 3) hx hb hK hP 4 0 rfl rfl hi22 dX11_tell_168 ?_
          refine lv_iadd hx hb dX11_tell_169 ?_
          obtain ⟨q23, hc24, h⟩ := mq_cl_go h
          refine zk_X11_tells C zt_m_X11_270 ⟨by decide, by decide⟩ hc24 hP hD hS hl.1 (Nat.le_of_ble_eq_true rfl) dX11_tell_170 (fun H locs hP hD hS => ?_)
          obtain ⟨S25, eS25⟩ : ∃ y, y = q23.2 := ⟨_, rfl⟩
          rw [← eS25] at hP hD h
          refine lv_goto (tgt := 308) hx hb dX11_tell_173 (by decide) ?_
          exact zw_X11_tell_308 C hret hk29 (x9) S25 H locs ls h (lv_sub hl [2, 1] rfl) hP hD hS
        replace h := mq_if c21 h
        by_cases c26 : (S.2.1 2 (x11).toNatClampNeg) = 3
        · refine lv_tableIn (off := 66) (tgt := 138) hx hb dX11_tell_72 (by rw [c26]; decide) (by rw [c26]; decide) (by rw [c26]; rfl) (by decide) ?_
          replace h := mq_it c26 h
          refine lv_aload_n hx hb dX11_tell_138 rfl (lv_at hl 2 rfl) ?_
          refine lv_bipush (v := (33 : Int32)) hx hb dX11_tell_139 (by decide) ?_
          obtain ⟨q27, hc28, h⟩ := mq_cl_go h
          refine zk_X11_tells C zt_m_X11_270 ⟨by decide, by decide⟩ hc28 hP hD hS hl.1 (Nat.le_of_ble_eq_true rfl) dX11_tell_141 (fun H locs hP hD hS => ?_)
          obtain ⟨S29, eS29⟩ : ∃ y, y = q27.2 := ⟨_, rfl⟩
          rw [← eS29] at hP hD h
          refine lv_aload_n hx hb dX11_tell_144 rfl (lv_at hl 2 rfl) ?_
          refine lv_bipush (v := (97 : Int32)) hx hb dX11_tell_145 (by decide) ?_
          refine lv_aload_n hx hb dX11_tell_147 rfl (lv_at hl 2 rfl) ?_
          refine va_get (D := D) (ci := 11) (v := .ref (a 4)) (C := RX11) (T := TX11) (N := 76) hx hb hts (zi_X11 _) hown hK hP 0 rfl rfl 6 (by decide) (hts _ (List.mem_cons_of_mem _ zt_f_X11_20)) (fun _ h9 => h9) rfl dX11_tell_148 ?_
          refine lv_iload_n hx hb dX11_tell_151 rfl (lv_at hl 0 rfl) ?_
          have hi30 := mq_ck_in h
          replace h := mq_ck_go h
          refine va_iald (f := S29.2.1 3) hx hb hK hP 4 0 rfl rfl hi30 dX11_tell_152 ?_
          refine lv_iadd hx hb dX11_tell_153 ?_
          obtain ⟨q31, hc32, h⟩ := mq_cl_go h
          refine zk_X11_tells C zt_m_X11_270 ⟨by decide, by decide⟩ hc32 hP hD hS hl.1 (Nat.le_of_ble_eq_true rfl) dX11_tell_154 (fun H locs hP hD hS => ?_)
          obtain ⟨S33, eS33⟩ : ∃ y, y = q31.2 := ⟨_, rfl⟩
          rw [← eS33] at hP hD h
          refine lv_goto (tgt := 308) hx hb dX11_tell_157 (by decide) ?_
          exact zw_X11_tell_308 C hret hk29 (x9) S33 H locs ls h (lv_sub hl [2, 1] rfl) hP hD hS
        replace h := mq_if c26 h
        by_cases c34 : (S.2.1 2 (x11).toNatClampNeg) = 4
        · refine lv_tableIn (off := 166) (tgt := 238) hx hb dX11_tell_72 (by rw [c34]; decide) (by rw [c34]; decide) (by rw [c34]; rfl) (by decide) ?_
          replace h := mq_it c34 h
          exact zw_X11_tell_238 C hret hk29 (x9) (x11) S H locs ls h (lv_sub hl [2, 1, 0] rfl) hP hD hS
        replace h := mq_if c34 h
        by_cases c35 : (S.2.1 2 (x11).toNatClampNeg) = 5
        · refine lv_tableIn (off := 166) (tgt := 238) hx hb dX11_tell_72 (by rw [c35]; decide) (by rw [c35]; decide) (by rw [c35]; rfl) (by decide) ?_
          replace h := mq_it c35 h
          exact zw_X11_tell_238 C hret hk29 (x9) (x11) S H locs ls h (lv_sub hl [2, 1, 0] rfl) hP hD hS
        replace h := mq_if c35 h
        by_cases c36 : (S.2.1 2 (x11).toNatClampNeg) = 6
        · refine lv_tableIn (off := 104) (tgt := 176) hx hb dX11_tell_72 (by rw [c36]; decide) (by rw [c36]; decide) (by rw [c36]; rfl) (by decide) ?_
          replace h := mq_it c36 h
          exact zw_X11_tell_176 C hret hk29 (x9) (x11) S H locs ls h (lv_sub hl [2, 1, 0] rfl) hP hD hS
        replace h := mq_if c36 h
        by_cases c37 : (S.2.1 2 (x11).toNatClampNeg) = 7
        · refine lv_tableIn (off := 104) (tgt := 176) hx hb dX11_tell_72 (by rw [c37]; decide) (by rw [c37]; decide) (by rw [c37]; rfl) (by decide) ?_
          replace h := mq_it c37 h
          exact zw_X11_tell_176 C hret hk29 (x9) (x11) S H locs ls h (lv_sub hl [2, 1, 0] rfl) hP hD hS
        replace h := mq_if c37 h
        have nc13 := lv_neT c13 (show Int32.toInt 0 = 0 by decide)
        have nc17 := lv_neT c17 (show Int32.toInt 1 = 1 by decide)
        have nc21 := lv_neT c21 (show Int32.toInt 2 = 2 by decide)
        have nc26 := lv_neT c26 (show Int32.toInt 3 = 3 by decide)
        have nc34 := lv_neT c34 (show Int32.toInt 4 = 4 by decide)
        have nc35 := lv_neT c35 (show Int32.toInt 5 = 5 by decide)
        have nc36 := lv_neT c36 (show Int32.toInt 6 = 6 by decide)
        have nc37 := lv_neT c37 (show Int32.toInt 7 = 7 by decide)
        refine lv_tableOut (tgt := 238) hx hb dX11_tell_72 (by omega) (by decide) ?_
        exact zw_X11_tell_238 C hret hk29 (x9) (x11) S H locs ls h (lv_sub hl [2, 1, 0] rfl) hP hD hS
      · replace h := mq_if c41 h
        refine lv_aload_n hx hb dX11_tell_57 rfl (lv_at hl 2 rfl) ?_
        refine lv_iload_n hx hb dX11_tell_58 rfl (lv_at hl 0 rfl) ?_
        refine lv_ineg hx hb dX11_tell_59 ?_
        obtain ⟨q38, hc39, h⟩ := mq_cl_go h
        refine zk_X11_tells C zt_m_X11_270 ⟨by decide, by decide⟩ hc39 hP hD hS hl.1 (Nat.le_of_ble_eq_true rfl) dX11_tell_60 (fun H locs hP hD hS => ?_)
        obtain ⟨S40, eS40⟩ : ∃ y, y = q38.2 := ⟨_, rfl⟩
        rw [← eS40] at hP hD h
        refine lv_goto (tgt := 29) hx hb dX11_tell_63 (by decide) ?_
        exact hk29 (x9) S40 H locs ls h (lv_sub hl [2, 1] rfl) hP hD hS
set_option maxHeartbeats 4000000 in
set_option maxRecDepth 100000 in
theorem zw_X11_tell_29 {p : Program} {l : Launch} {e : Env} {s : State} {m : MethodId} {args : Array Value} {below : List Frame} {meth : Method} {c : Code} {A : Nat → Prop} {D : va_G} {a z : Nat → Nat} {cI cL cB cZ : ClassId} {Q : State → Prop} {N : Nat} {res : Int32 × mq_St} (C : mq_C p s m args c A D cI cL cB cZ cX11_tell 4 RX11 zc_X11_tell) (hret : ∀ (H : Heap) (locs : List Loc) (ls : Array Slot) (pc : Nat), decode cX11_tell pc = .ok (.ireturn, 1) → va_P D vwCl (wd_R a cI cL cB cZ z res.2) H → va_D A (wd_R a cI cL cB cZ z res.2) → va_S A s.heap H locs → W p l e zr_X11_tell s m args below meth c H locs 0 0 Q (F0 m pc ls [.int res.1])) : ∀ (n : Nat) (v2 : Int32) (S : mq_St) (H : Heap) (locs : List Loc) (ls : Array Slot) (h : zf_X11_tell_29 N z n v2 S = some res) (hl : lv_has ls 4 [(0, .ref (a 0)), (2, .int (v2))]) (hP : va_P D vwCl (wd_R a cI cL cB cZ z S) H) (hD : va_D A (wd_R a cI cL cB cZ z S)) (hS : va_S A s.heap H locs), W p l e zr_X11_tell s m args below meth c H locs 0 0 Q (F0 m 29 ls []) := by
  intro n
  induction n with
  | zero =>
    intro v2 S H locs ls h hl hP hD hS
    exact nomatch (show (none : Option (Int32 × mq_St)) = some res from h)
  | succ n ih =>
    intro v2 S H locs ls h hl hP hD hS
    exact zw_X11_tell_29b C hret (fun v2 S H locs ls h hl hP hD hS => ih v2 S H locs ls h hl hP hD hS) v2 S H locs ls h hl hP hD hS
set_option maxHeartbeats 4000000 in
set_option maxRecDepth 100000 in
theorem zw_X11_tell_0 {p : Program} {l : Launch} {e : Env} {s : State} {m : MethodId} {args : Array Value} {below : List Frame} {meth : Method} {c : Code} {A : Nat → Prop} {D : va_G} {a z : Nat → Nat} {cI cL cB cZ : ClassId} {Q : State → Prop} {N : Nat} {res : Int32 × mq_St} (C : mq_C p s m args c A D cI cL cB cZ cX11_tell 4 RX11 zc_X11_tell) (hret : ∀ (H : Heap) (locs : List Loc) (ls : Array Slot) (pc : Nat), decode cX11_tell pc = .ok (.ireturn, 1) → va_P D vwCl (wd_R a cI cL cB cZ z res.2) H → va_D A (wd_R a cI cL cB cZ z res.2) → va_S A s.heap H locs → W p l e zr_X11_tell s m args below meth c H locs 0 0 Q (F0 m pc ls [.int res.1])) (v1 : Int32) (S : mq_St) (H : Heap) (locs : List Loc) (ls : Array Slot) (h : zf_X11_tell N z v1 S = some res) (hl : lv_has ls 4 [(0, .ref (a 0)), (1, .int (v1))]) (hP : va_P D vwCl (wd_R a cI cL cB cZ z S) H) (hD : va_D A (wd_R a cI cL cB cZ z S)) (hS : va_S A s.heap H locs) : W p l e zr_X11_tell s m args below meth c H locs 0 0 Q (F0 m 0 ls []) := by
  obtain ⟨hx, hb, hml, hown, hts, hK, hA⟩ := id C
  unfold zf_X11_tell at h
  refine lv_aload_n hx hb dX11_tell_0 rfl (lv_at hl 0 rfl) ?_
  refine lv_iconst (v := (0 : Int32)) hx hb dX11_tell_1 (by decide) ?_
  refine mq_put (w := wd_R a cI cL cB cZ z) (S := S) (D := D) (ci := 11) (v := (0 : Int32)) (ty := .int) (C := RX11) (T := TX11) (N := 76) hx hb hts (zi_X11 _) tyX11 tyX11_ok nmX11 hown hK hP hD hS 0 rfl rfl 0 (by decide) (hts _ (List.mem_cons_of_mem _ zt_f_X11_151)) (fun _ h9 => h9) rfl (by decide +kernel) rfl rfl (Nat.le_of_ble_eq_true rfl) dX11_tell_2 0 (zs_wd_R_i_0_0 _ _ _ _ _ _ _ _) (fun S1 eS1 H locs hP hD hS => ?_)
  replace h := mq_nS_go eS1 h
  refine lv_aload_n hx hb dX11_tell_5 rfl (lv_at hl 0 rfl) ?_
  refine lv_iload_n hx hb dX11_tell_6 rfl (lv_at hl 1 rfl) ?_
  obtain ⟨q2, hc3, h⟩ := mq_cp_go h
  refine zk_X11_isFormula C zt_m_X11_264 ⟨by decide, by decide⟩ hc3 hP hD hS hl.1 (Nat.le_of_ble_eq_true rfl) dX11_tell_7 (fun H locs hP hD hS => ?_)
  refine lv_if_ne (tgt := 15) hx hb dX11_tell_10 (by decide) (fun c8 => ?_) (fun c8 => ?_)
  · replace h := mq_if c8 h
    refine lv_aload_n hx hb dX11_tell_15 rfl (lv_at hl 0 rfl) ?_
    refine lv_iconst (v := (0 : Int32)) hx hb dX11_tell_16 (by decide) ?_
    refine mq_put (w := wd_R a cI cL cB cZ z) (S := S1) (D := D) (ci := 11) (v := (0 : Int32)) (ty := .int) (C := RX11) (T := TX11) (N := 76) hx hb hts (zi_X11 _) tyX11 tyX11_ok nmX11 hown hK hP hD hS 0 rfl rfl 4 (by decide) (hts _ (List.mem_cons_of_mem _ zt_f_X11_165)) (fun _ h9 => h9) rfl (by decide +kernel) rfl rfl (Nat.le_of_ble_eq_true rfl) dX11_tell_17 2 (zs_wd_R_i_0_2 _ _ _ _ _ _ _ _) (fun S4 eS4 H locs hP hD hS => ?_)
    replace h := mq_nS_go eS4 h
    refine lv_aload_n hx hb dX11_tell_20 rfl (lv_at hl 0 rfl) ?_
    refine va_get (D := D) (ci := 11) (v := .ref (a 17)) (C := RX11) (T := TX11) (N := 76) hx hb hts (zi_X11 _) hown hK hP 0 rfl rfl 34 (by decide) (hts _ (List.mem_cons_of_mem _ zt_f_X11_66)) (fun _ h9 => h9) rfl dX11_tell_21 ?_
    refine lv_iconst (v := (0 : Int32)) hx hb dX11_tell_24 (by decide) ?_
    refine lv_iload_n hx hb dX11_tell_25 rfl (lv_at hl 1 rfl) ?_
    have hi5 := mq_ck_in h
    replace h := mq_ck_go h
    refine mq_iast (w := wd_R a cI cL cB cZ z) (S := S4) (f := S4.2.1 16) hx hb hK hP hD hS 17 0 rfl rfl hi5 dX11_tell_26 16 (zs_wd_R_a_17_16 _ _ _ _ _ _ _ _) (fun S6 eS6 H locs hP hD hS => ?_)
    replace h := mq_nS_go eS6 h
    refine lv_iconst (v := (1 : Int32)) hx hb dX11_tell_27 (by decide) ?_
    refine lv_topi (fun x7 ex7 => ?_)
    replace h := mq_nI_go ex7 h
    refine lv_istore_n (lv' := [(2, .int (x7)), (0, .ref (a 0)), (1, .int (v1))]) hx hb dX11_tell_28 rfl hl (by decide) rfl (fun ls hl => ?_)
    exact zw_X11_tell_29 C hret N (x7) S6 H locs ls h (lv_sub hl [1, 0] rfl) hP hD hS
  · replace h := mq_it (by simpa using c8) h
    refine lv_iconst (v := (-1 : Int32)) hx hb dX11_tell_13 (by decide) ?_
    cases h
    exact hret H locs ls 14 dX11_tell_14 hP hD hS
set_option maxHeartbeats 4000000 in
set_option maxRecDepth 100000 in
theorem zm_X11_tell (l : Launch) (D : va_G) (a z : Nat → Nat) (cI cL cB cZ : ClassId) (sz N : Nat) (v1 : Int32) (S : mq_St) (res : Int32 × mq_St) (h : zf_X11_tell N z v1 S = some res) : Met l yX11_tell (zc_X11_tell :: mq_T) zr_X11_tell (va_Pc [.ref (a 0), .int (v1)] (fun U => U.heap.size = sz ∧ va_P D vwCl (wd_R a cI cL cB cZ z S) U.heap ∧ va_K D vwCl (mq_tys cI cL cB cZ) U ∧ va_D (fun _ => True) (wd_R a cI cL cB cZ z S))) (va_Qi (fun (r : Int32) (u : mq_St) => r = res.1 ∧ u = res.2) (fun u t => va_P D vwCl (wd_R a cI cL cB cZ z u) t.heap ∧ va_K D vwCl (mq_tys cI cL cB cZ) t ∧ va_D (va_A (wd_R a cI cL cB cZ z S) sz) (wd_R a cI cL cB cZ z u)) (va_A (wd_R a cI cL cB cZ z S) sz)) 0 0 (va_A (wd_R a cI cL cB cZ z S) sz) := by
  refine Met.ofW (cc := cX11_tell) (maxL := 4) (ret := (some .int)) (by decide) rfl ?_
  intro p e s m args below meth c s₁ B hml hv
  obtain ⟨rfl, hsz, hP, hK, hD0⟩ := hv
  have hr := B.returns
  have hlocks := B.notSynchronized
  have hts := atoms_spec (ws := zc_X11_tell :: mq_T) B.pre
  have hown : s.vm.findClass RX11 = some m.cls := findClass_of_methodNamed B.named
  subst hsz
  have hD := hD0.self (sz := s.heap.size)
  generalize hAe : va_A (wd_R a cI cL cB cZ z S) s.heap.size = A at hD ⊢
  have hA : ∀ q : Nat, s.heap.size ≤ q → A q := fun q h => by rw [← hAe]; exact Or.inr h
  have hl := lv_entry ([.ref (a 0), .int (v1)]) (n := 4) (Nat.le_of_ble_eq_true rfl)
  rw [lg_entry_eq]
  generalize (lg_sl ([.ref (a 0), .int (v1)]) ++ List.replicate (4 - (lg_sl ([.ref (a 0), .int (v1)])).length) Slot.unset).toArray = ls at hl ⊢
  have hl : lv_has ls 4 [(0, .ref (a 0)), (1, .int (v1))] := hl
  refine zw_X11_tell_0 (A := A) ⟨B.exec, B.bytes, hml, hown, hts, hK, hA⟩ (fun H locs ls pc dg hP hD hS => ?_) v1 S s.heap [] ls h hl hP hD va_S.rf
  exact W.iret B.exec B.bytes hr (fun t ht hW => ⟨⟨_, _, rfl, ⟨rfl, rfl⟩, by rw [ht]; exact hP, va_K.moved hW.alike hK, hD⟩, hS.F ht⟩) hS.2.2 dg
theorem zt_X11_tell_c : zc_X11_tell ∈ mq_T := mq_T_mem (mq_t7 (List.mem_of_getElem? (i := 41) rfl)) rfl
theorem zt_X11_tell_i : Cond.instanceMethod yX11_tell ∈ mq_T := mq_T_mem (mq_t7 (List.mem_of_getElem? (i := 39) rfl)) rfl
theorem zt_X11_tell_s : Cond.selects RX11 yX11_tell yX11_tell ∈ mq_T := mq_T_mem (mq_t7 (List.mem_of_getElem? (i := 40) rfl)) rfl
theorem zt_f_X11_69 : Cond.fieldLink RX11 69 "ModalDeskModel" "now" "[I" ∈ mq_T := mq_T_mem (mq_t5 (List.mem_of_getElem? (i := 200) rfl)) rfl
theorem zt_m_X11_273 : Cond.methodLink RX11 273 yX11_isIn ∈ mq_T := mq_T_mem (mq_t7 (List.mem_of_getElem? (i := 73) rfl)) rfl
theorem zx_wd_R_wd_A1_18 (a z : Nat → Nat) (cI cL cB cZ : ClassId) (S X : mq_St) : mq_setM (wd_R a cI cL cB cZ z S) [18] (wd_A1 (mq_ad a [18]) cI cL cB cZ (fun k => [10].getD k 0) X) = (wd_R a cI cL cB cZ z (mq_push S X [] [17] [])) := rfl
/-! ModalDeskModel.hasOpposite(I)Z -/
def zr_X11_hasOpposite : Room := { frames := 1, cells := 0, slots := 0, locals := 22 }
def zc_X11_hasOpposite : Cond := .code yX11_hasOpposite cX11_hasOpposite 3 (some .boolean)
def zf_X11_hasOpposite_45 (N : Nat) (z : Nat → Nat) (S : mq_St) (k2 : Int32 → Int32 → Option (Int32)) (v1 : Int32) (v2 : Int32) : Option (Int32) := (mq_nI (v2 + (1 : Int32)) (fun x12 => (k2 (v1) (x12))))
def zf_X11_hasOpposite_2b (N : Nat) (z : Nat → Nat) (S : mq_St) (k2 : Int32 → Int32 → Option (Int32)) (v1 : Int32) (v2 : Int32) : Option (Int32) := (if (S.1 3) ≤ v2 then (mq_cz ((0 : Int32)) (some ((0 : Int32)))) else (mq_ck (v2) 300 (if (S.2.1 2 (v2).toNatClampNeg) = (3 : Int32) then (mq_ck (v2) 300 (mq_ck (v1) 300 (if (S.2.1 3 (v2).toNatClampNeg) = (S.2.1 3 (v1).toNatClampNeg) then (mq_cp (zf_X11_isIn N (fun k => [10].getD k 0) ((0 : Int32)) (v2) (mq_pull S [] [17] [])) (fun q6 => (mq_cz (q6) (some (q6))))) else (zf_X11_hasOpposite_45 N z S k2 (v1) (v2))))) else (zf_X11_hasOpposite_45 N z S k2 (v1) (v2)))))
def zf_X11_hasOpposite_2 (N : Nat) (z : Nat → Nat) (S : mq_St) : Nat → Int32 → Int32 → Option (Int32)
  | 0, _, _ => none
  | n + 1, v1, v2 => zf_X11_hasOpposite_2b N z S (fun v1 v2 => zf_X11_hasOpposite_2 N z S n v1 v2) v1 v2
def zf_X11_hasOpposite (N : Nat) (z : Nat → Nat) (v1 : Int32) (S : mq_St) : Option (Int32) := (mq_nI ((2 : Int32)) (fun x1 => (zf_X11_hasOpposite_2 N z S N (v1) (x1))))
set_option maxHeartbeats 4000000 in
set_option maxRecDepth 100000 in
theorem zw_X11_hasOpposite_45 {p : Program} {l : Launch} {e : Env} {s : State} {m : MethodId} {args : Array Value} {below : List Frame} {meth : Method} {c : Code} {A : Nat → Prop} {D : va_G} {a z : Nat → Nat} {cI cL cB cZ : ClassId} {Q : State → Prop} {N : Nat} {S : mq_St} {res : Int32} {k2 : Int32 → Int32 → Option (Int32)} (C : mq_C p s m args c A D cI cL cB cZ cX11_hasOpposite 3 RX11 zc_X11_hasOpposite) (hret : ∀ (H : Heap) (locs : List Loc) (ls : Array Slot) (pc : Nat), decode cX11_hasOpposite pc = .ok (.ireturn, 1) → narrow .boolean (.int res) = .int res → va_P D vwCl (wd_R a cI cL cB cZ z S) H → va_D A (wd_R a cI cL cB cZ z S) → va_S A s.heap H locs → W p l e zr_X11_hasOpposite s m args below meth c H locs 0 0 Q (F0 m pc ls [.int res])) (hk2 : ∀ (v1 : Int32) (v2 : Int32) (H : Heap) (locs : List Loc) (ls : Array Slot), k2 v1 v2 = some res → lv_has ls 3 [(0, .ref (a 0)), (1, .int (v1)), (2, .int (v2))] → va_P D vwCl (wd_R a cI cL cB cZ z S) H → va_D A (wd_R a cI cL cB cZ z S) → va_S A s.heap H locs → W p l e zr_X11_hasOpposite s m args below meth c H locs 0 0 Q (F0 m 2 ls [])) (v1 : Int32) (v2 : Int32) (H : Heap) (locs : List Loc) (ls : Array Slot) (h : zf_X11_hasOpposite_45 N z S k2 v1 v2 = some res) (hl : lv_has ls 3 [(0, .ref (a 0)), (1, .int (v1)), (2, .int (v2))]) (hP : va_P D vwCl (wd_R a cI cL cB cZ z S) H) (hD : va_D A (wd_R a cI cL cB cZ z S)) (hS : va_S A s.heap H locs) : W p l e zr_X11_hasOpposite s m args below meth c H locs 0 0 Q (F0 m 45 ls []) := by
  obtain ⟨hx, hb, hml, hown, hts, hK, hA⟩ := id C
  unfold zf_X11_hasOpposite_45 at h
  obtain ⟨x12, ex12⟩ : ∃ y : Int32, y = v2 + (1 : Int32) := ⟨_, rfl⟩
  replace h := mq_nI_go ex12 h
  refine lv_iinc (v := x12) (lv' := [(2, .int (x12)), (0, .ref (a 0)), (1, .int (v1))]) hx hb dX11_hasOpposite_45 hl (k := 2) rfl (by rw [ex12]; rfl) (by decide) rfl (fun ls hl => ?_)
  refine lv_goto (tgt := 2) hx hb dX11_hasOpposite_48 (by decide) ?_
  exact hk2 (v1) (x12) H locs ls h (lv_sub hl [1, 2, 0] rfl) hP hD hS
set_option maxHeartbeats 4000000 in
set_option maxRecDepth 100000 in
theorem zw_X11_hasOpposite_2b {p : Program} {l : Launch} {e : Env} {s : State} {m : MethodId} {args : Array Value} {below : List Frame} {meth : Method} {c : Code} {A : Nat → Prop} {D : va_G} {a z : Nat → Nat} {cI cL cB cZ : ClassId} {Q : State → Prop} {N : Nat} {S : mq_St} {res : Int32} {k2 : Int32 → Int32 → Option (Int32)} (C : mq_C p s m args c A D cI cL cB cZ cX11_hasOpposite 3 RX11 zc_X11_hasOpposite) (hret : ∀ (H : Heap) (locs : List Loc) (ls : Array Slot) (pc : Nat), decode cX11_hasOpposite pc = .ok (.ireturn, 1) → narrow .boolean (.int res) = .int res → va_P D vwCl (wd_R a cI cL cB cZ z S) H → va_D A (wd_R a cI cL cB cZ z S) → va_S A s.heap H locs → W p l e zr_X11_hasOpposite s m args below meth c H locs 0 0 Q (F0 m pc ls [.int res])) (hk2 : ∀ (v1 : Int32) (v2 : Int32) (H : Heap) (locs : List Loc) (ls : Array Slot), k2 v1 v2 = some res → lv_has ls 3 [(0, .ref (a 0)), (1, .int (v1)), (2, .int (v2))] → va_P D vwCl (wd_R a cI cL cB cZ z S) H → va_D A (wd_R a cI cL cB cZ z S) → va_S A s.heap H locs → W p l e zr_X11_hasOpposite s m args below meth c H locs 0 0 Q (F0 m 2 ls [])) (v1 : Int32) (v2 : Int32) (H : Heap) (locs : List Loc) (ls : Array Slot) (h : zf_X11_hasOpposite_2b N z S k2 v1 v2 = some res) (hl : lv_has ls 3 [(0, .ref (a 0)), (1, .int (v1)), (2, .int (v2))]) (hP : va_P D vwCl (wd_R a cI cL cB cZ z S) H) (hD : va_D A (wd_R a cI cL cB cZ z S)) (hS : va_S A s.heap H locs) : W p l e zr_X11_hasOpposite s m args below meth c H locs 0 0 Q (F0 m 2 ls []) := by
  obtain ⟨hx, hb, hml, hown, hts, hK, hA⟩ := id C
  unfold zf_X11_hasOpposite_2b at h
  refine lv_iload_n hx hb dX11_hasOpposite_2 rfl (lv_at hl 2 rfl) ?_
  refine lv_aload_n hx hb dX11_hasOpposite_3 rfl (lv_at hl 0 rfl) ?_
  refine va_get (D := D) (ci := 11) (v := .int ((S.1 3))) (C := RX11) (T := TX11) (N := 76) hx hb hts (zi_X11 _) hown hK hP 0 rfl rfl 8 (by decide) (hts _ (List.mem_cons_of_mem _ zt_f_X11_26)) (fun _ h9 => h9) rfl dX11_hasOpposite_4 ?_
  refine lv_icmp_ge (tgt := 51) hx hb dX11_hasOpposite_7 (by decide) (fun c11 => ?_) (fun c11 => ?_)
  · replace h := mq_it c11 h
    refine lv_iconst (v := (0 : Int32)) hx hb dX11_hasOpposite_51 (by decide) ?_
    have hz2 := mq_cz_in h
    replace h := mq_cz_go h
    cases h
    exact hret H locs ls 52 dX11_hasOpposite_52 hz2.1 hP hD hS
  · replace h := mq_if c11 h
    refine lv_aload_n hx hb dX11_hasOpposite_10 rfl (lv_at hl 0 rfl) ?_
    refine va_get (D := D) (ci := 11) (v := .ref (a 3)) (C := RX11) (T := TX11) (N := 76) hx hb hts (zi_X11 _) hown hK hP 0 rfl rfl 5 (by decide) (hts _ (List.mem_cons_of_mem _ zt_f_X11_16)) (fun _ h9 => h9) rfl dX11_hasOpposite_11 ?_
    refine lv_iload_n hx hb dX11_hasOpposite_14 rfl (lv_at hl 2 rfl) ?_
    have hi3 := mq_ck_in h
    replace h := mq_ck_go h
    refine va_iald (f := S.2.1 2) hx hb hK hP 3 0 rfl rfl hi3 dX11_hasOpposite_15 ?_
    refine lv_iconst (v := (3 : Int32)) hx hb dX11_hasOpposite_16 (by decide) ?_
    refine lv_icmp_ne (tgt := 45) hx hb dX11_hasOpposite_17 (by decide) (fun c10 => ?_) (fun c10 => ?_)
    · replace h := mq_if c10 h
      exact zw_X11_hasOpposite_45 C hret hk2 (v1) (v2) H locs ls h (lv_sub hl [0, 1, 2] rfl) hP hD hS
    · replace h := mq_it (by simpa using c10) h
      refine lv_aload_n hx hb dX11_hasOpposite_20 rfl (lv_at hl 0 rfl) ?_
      refine va_get (D := D) (ci := 11) (v := .ref (a 4)) (C := RX11) (T := TX11) (N := 76) hx hb hts (zi_X11 _) hown hK hP 0 rfl rfl 6 (by decide) (hts _ (List.mem_cons_of_mem _ zt_f_X11_20)) (fun _ h9 => h9) rfl dX11_hasOpposite_21 ?_
      refine lv_iload_n hx hb dX11_hasOpposite_24 rfl (lv_at hl 2 rfl) ?_
      have hi4 := mq_ck_in h
      replace h := mq_ck_go h
      refine va_iald (f := S.2.1 3) hx hb hK hP 4 0 rfl rfl hi4 dX11_hasOpposite_25 ?_
      refine lv_aload_n hx hb dX11_hasOpposite_26 rfl (lv_at hl 0 rfl) ?_
      refine va_get (D := D) (ci := 11) (v := .ref (a 4)) (C := RX11) (T := TX11) (N := 76) hx hb hts (zi_X11 _) hown hK hP 0 rfl rfl 6 (by decide) (hts _ (List.mem_cons_of_mem _ zt_f_X11_20)) (fun _ h9 => h9) rfl dX11_hasOpposite_27 ?_
      refine lv_iload_n hx hb dX11_hasOpposite_30 rfl (lv_at hl 1 rfl) ?_
      have hi5 := mq_ck_in h
      replace h := mq_ck_go h
      refine va_iald (f := S.2.1 3) hx hb hK hP 4 0 rfl rfl hi5 dX11_hasOpposite_31 ?_
      refine lv_icmp_ne (tgt := 45) hx hb dX11_hasOpposite_32 (by decide) (fun c9 => ?_) (fun c9 => ?_)
      · replace h := mq_if c9 h
        exact zw_X11_hasOpposite_45 C hret hk2 (v1) (v2) H locs ls h (lv_sub hl [0, 1, 2] rfl) hP hD hS
      · replace h := mq_it (by simpa using c9) h
        refine lv_aload_n hx hb dX11_hasOpposite_35 rfl (lv_at hl 0 rfl) ?_
        refine va_get (D := D) (ci := 11) (v := .ref (a 18)) (C := RX11) (T := TX11) (N := 76) hx hb hts (zi_X11 _) hown hK hP 0 rfl rfl 35 (by decide) (hts _ (List.mem_cons_of_mem _ zt_f_X11_69)) (fun _ h9 => h9) rfl dX11_hasOpposite_36 ?_
        refine lv_iconst (v := (0 : Int32)) hx hb dX11_hasOpposite_39 (by decide) ?_
        refine lv_iload_n hx hb dX11_hasOpposite_40 rfl (lv_at hl 2 rfl) ?_
        obtain ⟨q6, hc7, h⟩ := mq_cp_go h
        refine zv_X11_isIn (a := mq_ad a [18]) (z := (fun k => [10].getD k 0)) [18] C zt_m_X11_273 ⟨by decide, by decide⟩ hc7 rfl (by decide) hP hD hS hl.1 (Nat.le_of_ble_eq_true rfl) dX11_hasOpposite_41 (fun H locs hP hD hS => ?_)
        have hz8 := mq_cz_in h
        replace h := mq_cz_go h
        cases h
        exact hret H locs ls 44 dX11_hasOpposite_44 hz8.1 hP hD hS
set_option maxHeartbeats 4000000 in
set_option maxRecDepth 100000 in
theorem zw_X11_hasOpposite_2 {p : Program} {l : Launch} {e : Env} {s : State} {m : MethodId} {args : Array Value} {below : List Frame} {meth : Method} {c : Code} {A : Nat → Prop} {D : va_G} {a z : Nat → Nat} {cI cL cB cZ : ClassId} {Q : State → Prop} {N : Nat} {S : mq_St} {res : Int32} (C : mq_C p s m args c A D cI cL cB cZ cX11_hasOpposite 3 RX11 zc_X11_hasOpposite) (hret : ∀ (H : Heap) (locs : List Loc) (ls : Array Slot) (pc : Nat), decode cX11_hasOpposite pc = .ok (.ireturn, 1) → narrow .boolean (.int res) = .int res → va_P D vwCl (wd_R a cI cL cB cZ z S) H → va_D A (wd_R a cI cL cB cZ z S) → va_S A s.heap H locs → W p l e zr_X11_hasOpposite s m args below meth c H locs 0 0 Q (F0 m pc ls [.int res])) : ∀ (n : Nat) (v1 : Int32) (v2 : Int32) (H : Heap) (locs : List Loc) (ls : Array Slot) (h : zf_X11_hasOpposite_2 N z S n v1 v2 = some res) (hl : lv_has ls 3 [(0, .ref (a 0)), (1, .int (v1)), (2, .int (v2))]) (hP : va_P D vwCl (wd_R a cI cL cB cZ z S) H) (hD : va_D A (wd_R a cI cL cB cZ z S)) (hS : va_S A s.heap H locs), W p l e zr_X11_hasOpposite s m args below meth c H locs 0 0 Q (F0 m 2 ls []) := by
  intro n
  induction n with
  | zero =>
    intro v1 v2 H locs ls h hl hP hD hS
    exact nomatch (show (none : Option (Int32)) = some res from h)
  | succ n ih =>
    intro v1 v2 H locs ls h hl hP hD hS
    exact zw_X11_hasOpposite_2b C hret (fun v1 v2 H locs ls h hl hP hD hS => ih v1 v2 H locs ls h hl hP hD hS) v1 v2 H locs ls h hl hP hD hS
set_option maxHeartbeats 4000000 in
set_option maxRecDepth 100000 in
theorem zw_X11_hasOpposite_0 {p : Program} {l : Launch} {e : Env} {s : State} {m : MethodId} {args : Array Value} {below : List Frame} {meth : Method} {c : Code} {A : Nat → Prop} {D : va_G} {a z : Nat → Nat} {cI cL cB cZ : ClassId} {Q : State → Prop} {N : Nat} {S : mq_St} {res : Int32} (C : mq_C p s m args c A D cI cL cB cZ cX11_hasOpposite 3 RX11 zc_X11_hasOpposite) (hret : ∀ (H : Heap) (locs : List Loc) (ls : Array Slot) (pc : Nat), decode cX11_hasOpposite pc = .ok (.ireturn, 1) → narrow .boolean (.int res) = .int res → va_P D vwCl (wd_R a cI cL cB cZ z S) H → va_D A (wd_R a cI cL cB cZ z S) → va_S A s.heap H locs → W p l e zr_X11_hasOpposite s m args below meth c H locs 0 0 Q (F0 m pc ls [.int res])) (v1 : Int32) (H : Heap) (locs : List Loc) (ls : Array Slot) (h : zf_X11_hasOpposite N z v1 S = some res) (hl : lv_has ls 3 [(0, .ref (a 0)), (1, .int (v1))]) (hP : va_P D vwCl (wd_R a cI cL cB cZ z S) H) (hD : va_D A (wd_R a cI cL cB cZ z S)) (hS : va_S A s.heap H locs) : W p l e zr_X11_hasOpposite s m args below meth c H locs 0 0 Q (F0 m 0 ls []) := by
  obtain ⟨hx, hb, hml, hown, hts, hK, hA⟩ := id C
  unfold zf_X11_hasOpposite at h
  refine lv_iconst (v := (2 : Int32)) hx hb dX11_hasOpposite_0 (by decide) ?_
  refine lv_topi (fun x1 ex1 => ?_)
  replace h := mq_nI_go ex1 h
  refine lv_istore_n (lv' := [(2, .int (x1)), (0, .ref (a 0)), (1, .int (v1))]) hx hb dX11_hasOpposite_1 rfl hl (by decide) rfl (fun ls hl => ?_)
  exact zw_X11_hasOpposite_2 C hret N (v1) (x1) H locs ls h (lv_sub hl [1, 2, 0] rfl) hP hD hS
set_option maxHeartbeats 4000000 in
set_option maxRecDepth 100000 in
theorem zm_X11_hasOpposite (l : Launch) (D : va_G) (a z : Nat → Nat) (cI cL cB cZ : ClassId) (sz N : Nat) (v1 : Int32) (S : mq_St) (res : Int32) (h : zf_X11_hasOpposite N z v1 S = some res) : Met l yX11_hasOpposite (zc_X11_hasOpposite :: mq_T) zr_X11_hasOpposite (va_Pc [.ref (a 0), .int (v1)] (fun U => U.heap.size = sz ∧ va_P D vwCl (wd_R a cI cL cB cZ z S) U.heap ∧ va_K D vwCl (mq_tys cI cL cB cZ) U ∧ va_D (fun _ => True) (wd_R a cI cL cB cZ z S))) (va_Qi (fun (r : Int32) (u : mq_St) => r = res ∧ u = S) (fun u t => va_P D vwCl (wd_R a cI cL cB cZ z u) t.heap ∧ va_K D vwCl (mq_tys cI cL cB cZ) t ∧ va_D (va_A (wd_R a cI cL cB cZ z S) sz) (wd_R a cI cL cB cZ z u)) (va_A (wd_R a cI cL cB cZ z S) sz)) 0 0 (va_A (wd_R a cI cL cB cZ z S) sz) := by
  refine Met.ofW (cc := cX11_hasOpposite) (maxL := 3) (ret := (some .boolean)) (by decide) rfl ?_
  intro p e s m args below meth c s₁ B hml hv
  obtain ⟨rfl, hsz, hP, hK, hD0⟩ := hv
  have hr := B.returns
  have hlocks := B.notSynchronized
  have hts := atoms_spec (ws := zc_X11_hasOpposite :: mq_T) B.pre
  have hown : s.vm.findClass RX11 = some m.cls := findClass_of_methodNamed B.named
  subst hsz
  have hD := hD0.self (sz := s.heap.size)
  generalize hAe : va_A (wd_R a cI cL cB cZ z S) s.heap.size = A at hD ⊢
  have hA : ∀ q : Nat, s.heap.size ≤ q → A q := fun q h => by rw [← hAe]; exact Or.inr h
  have hl := lv_entry ([.ref (a 0), .int (v1)]) (n := 3) (Nat.le_of_ble_eq_true rfl)
  rw [lg_entry_eq]
  generalize (lg_sl ([.ref (a 0), .int (v1)]) ++ List.replicate (3 - (lg_sl ([.ref (a 0), .int (v1)])).length) Slot.unset).toArray = ls at hl ⊢
  have hl : lv_has ls 3 [(0, .ref (a 0)), (1, .int (v1))] := hl
  refine zw_X11_hasOpposite_0 (A := A) ⟨B.exec, B.bytes, hml, hown, hts, hK, hA⟩ (fun H locs ls pc dg hz hP hD hS => ?_) v1 s.heap [] ls h hl hP hD va_S.rf
  exact W.zret B.exec B.bytes hr hz (fun t ht hW => ⟨⟨_, _, rfl, ⟨rfl, rfl⟩, by rw [ht]; exact hP, va_K.moved hW.alike hK, hD⟩, hS.F ht⟩) hS.2.2 dg
theorem zt_X11_hasOpposite_c : zc_X11_hasOpposite ∈ mq_T := mq_T_mem (mq_t7 (List.mem_of_getElem? (i := 79) rfl)) rfl
theorem zt_X11_hasOpposite_i : Cond.instanceMethod yX11_hasOpposite ∈ mq_T := mq_T_mem (mq_t7 (List.mem_of_getElem? (i := 78) rfl)) rfl
theorem zt_X11_hasOpposite_s : Cond.selects RX11 yX11_hasOpposite yX11_hasOpposite ∈ mq_T := mq_T_at 89 (by decide +kernel)
set_option maxHeartbeats 4000000 in
theorem zk_X11_hasOpposite {p : Program} {l : Launch} {e : Env} {R : Room} {s : State} {m : MethodId} {args : Array Value} {below : List Frame} {meth : Method} {c : Code} {A : Nat → Prop} {D : va_G} {a z : Nat → Nat} {cI cL cB cZ : ClassId} {Q : State → Prop} {cc : ByteArray} {nL idx pc N : Nat} {own : String} {c1 : Cond} {H : Heap} {locs : List Loc} {ls : Array Slot} {rest : List Value} {S : mq_St} {res : Int32} {v1 : Int32} (C : mq_C p s m args c A D cI cL cB cZ cc nL own c1) (hlk : Cond.methodLink own idx yX11_hasOpposite ∈ mq_T) (hR : zr_X11_hasOpposite.frames + 1 ≤ R.frames ∧ 8 + (3 + 11) + zr_X11_hasOpposite.locals ≤ R.locals) (h : zf_X11_hasOpposite N z v1 S = some res) (hP : va_P D vwCl (wd_R a cI cL cB cZ z S) H) (hD : va_D A (wd_R a cI cL cB cZ z S)) (hS : va_S A s.heap H locs) (hls : ls.size = nL) (hrest : (rest.map fun v => v.category).sum ≤ 8) (hdg : decode cc pc = .ok (.invokevirtual idx, 3)) (kk : ∀ (H1 : Heap) (locs1 : List Loc), va_P D vwCl (wd_R a cI cL cB cZ z S) H1 → va_D A (wd_R a cI cL cB cZ z S) → va_S A s.heap H1 locs1 → W p l e R s m args below meth c H1 locs1 0 0 Q (F0 m (pc + 3) ls (.int res :: rest))) : W p l e R s m args below meth c H locs 0 0 Q (F0 m pc ls (.int (v1) :: .ref (a 0) :: rest)) := by
  obtain ⟨hx, hb, hml, hown, hts, hK, hA⟩ := C
  have hFc := mq_freeI hD hS hA
  refine va_calli (va_runV (As := [.int (v1)]) (rest := rest) ⟨hx, hb, hml, hown, hts⟩ (zm_X11_hasOpposite l D a z cI cL cB cZ H.size N v1 S res h) (cwV 1 hts (mq_goodL (mq_wsV hlk zt_X11_hasOpposite_i zt_X11_hasOpposite_s zt_ini_X11 zt_X11_hasOpposite_c)) rfl rfl rfl (by decide +kernel) hR) ⟨fun a U g mk q => ⟨q.1, q.2.1, q.2.2.1, va_K.moved (u := U) (U := U.calling g mk a) (Vm.Alike.refl U.vm) q.2.2.2.1, q.2.2.2.2⟩, zy_R_0 hK hP, fun U hU hW => ⟨rfl, by rw [hU], by rw [hU]; exact hP, va_K.moved hW.alike hK, hD.weaken (fun _ _ _ _ => trivial)⟩⟩ rfl rfl hls rfl (lv_room hrest) hdg ⟨Nat.zero_le _, Nat.zero_le _⟩) hS (fun q _ h => hFc q h) hFc (fun r u t H1 locs ht hvm hw hB hz1 hk1 hS => ?_)
  obtain ⟨rfl, rfl⟩ := hw
  obtain ⟨hP1, hK1, hD1⟩ := hB
  rw [ht] at hP1
  exact kk H1 locs hP1 (hD1.weaken (fun _ _ _ h => hFc _ h)) hS
theorem zt_m_X11_277 : Cond.methodLink RX11 277 yX11_hasOpposite ∈ mq_T := mq_T_mem (mq_t7 (List.mem_of_getElem? (i := 76) rfl)) rfl
/-! ModalDeskModel.clash()I -/
def zr_X11_clash : Room := { frames := 2, cells := 0, slots := 0, locals := 44 }
def zc_X11_clash : Cond := .code yX11_clash cX11_clash 2 (some .int)
def zf_X11_clash_56 (N : Nat) (z : Nat → Nat) (S : mq_St) (k16 : Int32 → Option (Int32)) (v1 : Int32) : Option (Int32) := (mq_nI (v1 + (1 : Int32)) (fun x14 => (k16 (x14))))
def zf_X11_clash_16b (N : Nat) (z : Nat → Nat) (S : mq_St) (k16 : Int32 → Option (Int32)) (v1 : Int32) : Option (Int32) := (if (S.1 3) ≤ v1 then (some ((-1 : Int32))) else (mq_ck (v1) 300 (if (S.2.1 2 (v1).toNatClampNeg) = (2 : Int32) then (mq_cp (zf_X11_isIn N (fun k => [10].getD k 0) ((0 : Int32)) (v1) (mq_pull S [] [17] [])) (fun q6 => (if q6 = (0 : Int32) then (zf_X11_clash_56 N z S k16 (v1)) else (mq_cp (zf_X11_hasOpposite N z (v1) S) (fun q8 => (if q8 = (0 : Int32) then (zf_X11_clash_56 N z S k16 (v1)) else (some (v1)))))))) else (zf_X11_clash_56 N z S k16 (v1)))))
def zf_X11_clash_16 (N : Nat) (z : Nat → Nat) (S : mq_St) : Nat → Int32 → Option (Int32)
  | 0, _ => none
  | n + 1, v1 => zf_X11_clash_16b N z S (fun v1 => zf_X11_clash_16 N z S n v1) v1
def zf_X11_clash (N : Nat) (z : Nat → Nat) (S : mq_St) : Option (Int32) := (mq_cp (zf_X11_isIn N (fun k => [10].getD k 0) ((0 : Int32)) ((1 : Int32)) (mq_pull S [] [17] [])) (fun q1 => (if q1 = (0 : Int32) then (mq_nI ((2 : Int32)) (fun x3 => (zf_X11_clash_16 N z S N (x3)))) else (some ((1 : Int32))))))
set_option maxHeartbeats 4000000 in
set_option maxRecDepth 100000 in
theorem zw_X11_clash_56 {p : Program} {l : Launch} {e : Env} {s : State} {m : MethodId} {args : Array Value} {below : List Frame} {meth : Method} {c : Code} {A : Nat → Prop} {D : va_G} {a z : Nat → Nat} {cI cL cB cZ : ClassId} {Q : State → Prop} {N : Nat} {S : mq_St} {res : Int32} {k16 : Int32 → Option (Int32)} (C : mq_C p s m args c A D cI cL cB cZ cX11_clash 2 RX11 zc_X11_clash) (hret : ∀ (H : Heap) (locs : List Loc) (ls : Array Slot) (pc : Nat), decode cX11_clash pc = .ok (.ireturn, 1) → va_P D vwCl (wd_R a cI cL cB cZ z S) H → va_D A (wd_R a cI cL cB cZ z S) → va_S A s.heap H locs → W p l e zr_X11_clash s m args below meth c H locs 0 0 Q (F0 m pc ls [.int res])) (hk16 : ∀ (v1 : Int32) (H : Heap) (locs : List Loc) (ls : Array Slot), k16 v1 = some res → lv_has ls 2 [(0, .ref (a 0)), (1, .int (v1))] → va_P D vwCl (wd_R a cI cL cB cZ z S) H → va_D A (wd_R a cI cL cB cZ z S) → va_S A s.heap H locs → W p l e zr_X11_clash s m args below meth c H locs 0 0 Q (F0 m 16 ls [])) (v1 : Int32) (H : Heap) (locs : List Loc) (ls : Array Slot) (h : zf_X11_clash_56 N z S k16 v1 = some res) (hl : lv_has ls 2 [(0, .ref (a 0)), (1, .int (v1))]) (hP : va_P D vwCl (wd_R a cI cL cB cZ z S) H) (hD : va_D A (wd_R a cI cL cB cZ z S)) (hS : va_S A s.heap H locs) : W p l e zr_X11_clash s m args below meth c H locs 0 0 Q (F0 m 56 ls []) := by
  obtain ⟨hx, hb, hml, hown, hts, hK, hA⟩ := id C
  unfold zf_X11_clash_56 at h
  obtain ⟨x14, ex14⟩ : ∃ y : Int32, y = v1 + (1 : Int32) := ⟨_, rfl⟩
  replace h := mq_nI_go ex14 h
  refine lv_iinc (v := x14) (lv' := [(1, .int (x14)), (0, .ref (a 0))]) hx hb dX11_clash_56 hl (k := 1) rfl (by rw [ex14]; rfl) (by decide) rfl (fun ls hl => ?_)
  refine lv_goto (tgt := 16) hx hb dX11_clash_59 (by decide) ?_
  exact hk16 (x14) H locs ls h (lv_sub hl [1, 0] rfl) hP hD hS
set_option maxHeartbeats 4000000 in
set_option maxRecDepth 100000 in
theorem zw_X11_clash_16b {p : Program} {l : Launch} {e : Env} {s : State} {m : MethodId} {args : Array Value} {below : List Frame} {meth : Method} {c : Code} {A : Nat → Prop} {D : va_G} {a z : Nat → Nat} {cI cL cB cZ : ClassId} {Q : State → Prop} {N : Nat} {S : mq_St} {res : Int32} {k16 : Int32 → Option (Int32)} (C : mq_C p s m args c A D cI cL cB cZ cX11_clash 2 RX11 zc_X11_clash) (hret : ∀ (H : Heap) (locs : List Loc) (ls : Array Slot) (pc : Nat), decode cX11_clash pc = .ok (.ireturn, 1) → va_P D vwCl (wd_R a cI cL cB cZ z S) H → va_D A (wd_R a cI cL cB cZ z S) → va_S A s.heap H locs → W p l e zr_X11_clash s m args below meth c H locs 0 0 Q (F0 m pc ls [.int res])) (hk16 : ∀ (v1 : Int32) (H : Heap) (locs : List Loc) (ls : Array Slot), k16 v1 = some res → lv_has ls 2 [(0, .ref (a 0)), (1, .int (v1))] → va_P D vwCl (wd_R a cI cL cB cZ z S) H → va_D A (wd_R a cI cL cB cZ z S) → va_S A s.heap H locs → W p l e zr_X11_clash s m args below meth c H locs 0 0 Q (F0 m 16 ls [])) (v1 : Int32) (H : Heap) (locs : List Loc) (ls : Array Slot) (h : zf_X11_clash_16b N z S k16 v1 = some res) (hl : lv_has ls 2 [(0, .ref (a 0)), (1, .int (v1))]) (hP : va_P D vwCl (wd_R a cI cL cB cZ z S) H) (hD : va_D A (wd_R a cI cL cB cZ z S)) (hS : va_S A s.heap H locs) : W p l e zr_X11_clash s m args below meth c H locs 0 0 Q (F0 m 16 ls []) := by
  obtain ⟨hx, hb, hml, hown, hts, hK, hA⟩ := id C
  unfold zf_X11_clash_16b at h
  refine lv_iload_n hx hb dX11_clash_16 rfl (lv_at hl 1 rfl) ?_
  refine lv_aload_n hx hb dX11_clash_17 rfl (lv_at hl 0 rfl) ?_
  refine va_get (D := D) (ci := 11) (v := .int ((S.1 3))) (C := RX11) (T := TX11) (N := 76) hx hb hts (zi_X11 _) hown hK hP 0 rfl rfl 8 (by decide) (hts _ (List.mem_cons_of_mem _ zt_f_X11_26)) (fun _ h9 => h9) rfl dX11_clash_18 ?_
  refine lv_icmp_ge (tgt := 62) hx hb dX11_clash_21 (by decide) (fun c13 => ?_) (fun c13 => ?_)
  · replace h := mq_it c13 h
    refine lv_iconst (v := (-1 : Int32)) hx hb dX11_clash_62 (by decide) ?_
    cases h
    exact hret H locs ls 63 dX11_clash_63 hP hD hS
  · replace h := mq_if c13 h
    refine lv_aload_n hx hb dX11_clash_24 rfl (lv_at hl 0 rfl) ?_
    refine va_get (D := D) (ci := 11) (v := .ref (a 3)) (C := RX11) (T := TX11) (N := 76) hx hb hts (zi_X11 _) hown hK hP 0 rfl rfl 5 (by decide) (hts _ (List.mem_cons_of_mem _ zt_f_X11_16)) (fun _ h9 => h9) rfl dX11_clash_25 ?_
    refine lv_iload_n hx hb dX11_clash_28 rfl (lv_at hl 1 rfl) ?_
    have hi5 := mq_ck_in h
    replace h := mq_ck_go h
    refine va_iald (f := S.2.1 2) hx hb hK hP 3 0 rfl rfl hi5 dX11_clash_29 ?_
    refine lv_iconst (v := (2 : Int32)) hx hb dX11_clash_30 (by decide) ?_
    refine lv_icmp_ne (tgt := 56) hx hb dX11_clash_31 (by decide) (fun c12 => ?_) (fun c12 => ?_)
    · replace h := mq_if c12 h
      exact zw_X11_clash_56 C hret hk16 (v1) H locs ls h (lv_sub hl [0, 1] rfl) hP hD hS
    · replace h := mq_it (by simpa using c12) h
      refine lv_aload_n hx hb dX11_clash_34 rfl (lv_at hl 0 rfl) ?_
      refine va_get (D := D) (ci := 11) (v := .ref (a 18)) (C := RX11) (T := TX11) (N := 76) hx hb hts (zi_X11 _) hown hK hP 0 rfl rfl 35 (by decide) (hts _ (List.mem_cons_of_mem _ zt_f_X11_69)) (fun _ h9 => h9) rfl dX11_clash_35 ?_
      refine lv_iconst (v := (0 : Int32)) hx hb dX11_clash_38 (by decide) ?_
      refine lv_iload_n hx hb dX11_clash_39 rfl (lv_at hl 1 rfl) ?_
      obtain ⟨q6, hc7, h⟩ := mq_cp_go h
      refine zv_X11_isIn (a := mq_ad a [18]) (z := (fun k => [10].getD k 0)) [18] C zt_m_X11_273 ⟨by decide, by decide⟩ hc7 rfl (by decide) hP hD hS hl.1 (Nat.le_of_ble_eq_true rfl) dX11_clash_40 (fun H locs hP hD hS => ?_)
      refine lv_if_eq (tgt := 56) hx hb dX11_clash_43 (by decide) (fun c11 => ?_) (fun c11 => ?_)
      · replace h := mq_it c11 h
        exact zw_X11_clash_56 C hret hk16 (v1) H locs ls h (lv_sub hl [0, 1] rfl) hP hD hS
      · replace h := mq_if c11 h
        refine lv_aload_n hx hb dX11_clash_46 rfl (lv_at hl 0 rfl) ?_
        refine lv_iload_n hx hb dX11_clash_47 rfl (lv_at hl 1 rfl) ?_
        obtain ⟨q8, hc9, h⟩ := mq_cp_go h
        refine zk_X11_hasOpposite C zt_m_X11_277 ⟨by decide, by decide⟩ hc9 hP hD hS hl.1 (Nat.le_of_ble_eq_true rfl) dX11_clash_48 (fun H locs hP hD hS => ?_)
        refine lv_if_eq (tgt := 56) hx hb dX11_clash_51 (by decide) (fun c10 => ?_) (fun c10 => ?_)
        · replace h := mq_it c10 h
          exact zw_X11_clash_56 C hret hk16 (v1) H locs ls h (lv_sub hl [0, 1] rfl) hP hD hS
        · replace h := mq_if c10 h
          refine lv_iload_n hx hb dX11_clash_54 rfl (lv_at hl 1 rfl) ?_
          cases h
          exact hret H locs ls 55 dX11_clash_55 hP hD hS
set_option maxHeartbeats 4000000 in
set_option maxRecDepth 100000 in
theorem zw_X11_clash_16 {p : Program} {l : Launch} {e : Env} {s : State} {m : MethodId} {args : Array Value} {below : List Frame} {meth : Method} {c : Code} {A : Nat → Prop} {D : va_G} {a z : Nat → Nat} {cI cL cB cZ : ClassId} {Q : State → Prop} {N : Nat} {S : mq_St} {res : Int32} (C : mq_C p s m args c A D cI cL cB cZ cX11_clash 2 RX11 zc_X11_clash) (hret : ∀ (H : Heap) (locs : List Loc) (ls : Array Slot) (pc : Nat), decode cX11_clash pc = .ok (.ireturn, 1) → va_P D vwCl (wd_R a cI cL cB cZ z S) H → va_D A (wd_R a cI cL cB cZ z S) → va_S A s.heap H locs → W p l e zr_X11_clash s m args below meth c H locs 0 0 Q (F0 m pc ls [.int res])) : ∀ (n : Nat) (v1 : Int32) (H : Heap) (locs : List Loc) (ls : Array Slot) (h : zf_X11_clash_16 N z S n v1 = some res) (hl : lv_has ls 2 [(0, .ref (a 0)), (1, .int (v1))]) (hP : va_P D vwCl (wd_R a cI cL cB cZ z S) H) (hD : va_D A (wd_R a cI cL cB cZ z S)) (hS : va_S A s.heap H locs), W p l e zr_X11_clash s m args below meth c H locs 0 0 Q (F0 m 16 ls []) := by
  intro n
  induction n with
  | zero =>
    intro v1 H locs ls h hl hP hD hS
    exact nomatch (show (none : Option (Int32)) = some res from h)
  | succ n ih =>
    intro v1 H locs ls h hl hP hD hS
    exact zw_X11_clash_16b C hret (fun v1 H locs ls h hl hP hD hS => ih v1 H locs ls h hl hP hD hS) v1 H locs ls h hl hP hD hS
set_option maxHeartbeats 4000000 in
set_option maxRecDepth 100000 in
theorem zw_X11_clash_0 {p : Program} {l : Launch} {e : Env} {s : State} {m : MethodId} {args : Array Value} {below : List Frame} {meth : Method} {c : Code} {A : Nat → Prop} {D : va_G} {a z : Nat → Nat} {cI cL cB cZ : ClassId} {Q : State → Prop} {N : Nat} {S : mq_St} {res : Int32} (C : mq_C p s m args c A D cI cL cB cZ cX11_clash 2 RX11 zc_X11_clash) (hret : ∀ (H : Heap) (locs : List Loc) (ls : Array Slot) (pc : Nat), decode cX11_clash pc = .ok (.ireturn, 1) → va_P D vwCl (wd_R a cI cL cB cZ z S) H → va_D A (wd_R a cI cL cB cZ z S) → va_S A s.heap H locs → W p l e zr_X11_clash s m args below meth c H locs 0 0 Q (F0 m pc ls [.int res])) (H : Heap) (locs : List Loc) (ls : Array Slot) (h : zf_X11_clash N z S = some res) (hl : lv_has ls 2 [(0, .ref (a 0))]) (hP : va_P D vwCl (wd_R a cI cL cB cZ z S) H) (hD : va_D A (wd_R a cI cL cB cZ z S)) (hS : va_S A s.heap H locs) : W p l e zr_X11_clash s m args below meth c H locs 0 0 Q (F0 m 0 ls []) := by
  obtain ⟨hx, hb, hml, hown, hts, hK, hA⟩ := id C
  unfold zf_X11_clash at h
  refine lv_aload_n hx hb dX11_clash_0 rfl (lv_at hl 0 rfl) ?_
  refine va_get (D := D) (ci := 11) (v := .ref (a 18)) (C := RX11) (T := TX11) (N := 76) hx hb hts (zi_X11 _) hown hK hP 0 rfl rfl 35 (by decide) (hts _ (List.mem_cons_of_mem _ zt_f_X11_69)) (fun _ h9 => h9) rfl dX11_clash_1 ?_
  refine lv_iconst (v := (0 : Int32)) hx hb dX11_clash_4 (by decide) ?_
  refine lv_iconst (v := (1 : Int32)) hx hb dX11_clash_5 (by decide) ?_
  obtain ⟨q1, hc2, h⟩ := mq_cp_go h
  refine zv_X11_isIn (a := mq_ad a [18]) (z := (fun k => [10].getD k 0)) [18] C zt_m_X11_273 ⟨by decide, by decide⟩ hc2 rfl (by decide) hP hD hS hl.1 (Nat.le_of_ble_eq_true rfl) dX11_clash_6 (fun H locs hP hD hS => ?_)
  refine lv_if_eq (tgt := 14) hx hb dX11_clash_9 (by decide) (fun c4 => ?_) (fun c4 => ?_)
  · replace h := mq_it c4 h
    refine lv_iconst (v := (2 : Int32)) hx hb dX11_clash_14 (by decide) ?_
    refine lv_topi (fun x3 ex3 => ?_)
    replace h := mq_nI_go ex3 h
    refine lv_istore_n (lv' := [(1, .int (x3)), (0, .ref (a 0))]) hx hb dX11_clash_15 rfl hl (by decide) rfl (fun ls hl => ?_)
    exact zw_X11_clash_16 C hret N (x3) H locs ls h (lv_sub hl [1, 0] rfl) hP hD hS
  · replace h := mq_if c4 h
    refine lv_iconst (v := (1 : Int32)) hx hb dX11_clash_12 (by decide) ?_
    cases h
    exact hret H locs ls 13 dX11_clash_13 hP hD hS
set_option maxHeartbeats 4000000 in
set_option maxRecDepth 100000 in
theorem zm_X11_clash (l : Launch) (D : va_G) (a z : Nat → Nat) (cI cL cB cZ : ClassId) (sz N : Nat) (S : mq_St) (res : Int32) (h : zf_X11_clash N z S = some res) : Met l yX11_clash (zc_X11_clash :: mq_T) zr_X11_clash (va_Pc [.ref (a 0)] (fun U => U.heap.size = sz ∧ va_P D vwCl (wd_R a cI cL cB cZ z S) U.heap ∧ va_K D vwCl (mq_tys cI cL cB cZ) U ∧ va_D (fun _ => True) (wd_R a cI cL cB cZ z S))) (va_Qi (fun (r : Int32) (u : mq_St) => r = res ∧ u = S) (fun u t => va_P D vwCl (wd_R a cI cL cB cZ z u) t.heap ∧ va_K D vwCl (mq_tys cI cL cB cZ) t ∧ va_D (va_A (wd_R a cI cL cB cZ z S) sz) (wd_R a cI cL cB cZ z u)) (va_A (wd_R a cI cL cB cZ z S) sz)) 0 0 (va_A (wd_R a cI cL cB cZ z S) sz) := by
  refine Met.ofW (cc := cX11_clash) (maxL := 2) (ret := (some .int)) (by decide) rfl ?_
  intro p e s m args below meth c s₁ B hml hv
  obtain ⟨rfl, hsz, hP, hK, hD0⟩ := hv
  have hr := B.returns
  have hlocks := B.notSynchronized
  have hts := atoms_spec (ws := zc_X11_clash :: mq_T) B.pre
  have hown : s.vm.findClass RX11 = some m.cls := findClass_of_methodNamed B.named
  subst hsz
  have hD := hD0.self (sz := s.heap.size)
  generalize hAe : va_A (wd_R a cI cL cB cZ z S) s.heap.size = A at hD ⊢
  have hA : ∀ q : Nat, s.heap.size ≤ q → A q := fun q h => by rw [← hAe]; exact Or.inr h
  have hl := lv_entry ([.ref (a 0)]) (n := 2) (Nat.le_of_ble_eq_true rfl)
  rw [lg_entry_eq]
  generalize (lg_sl ([.ref (a 0)]) ++ List.replicate (2 - (lg_sl ([.ref (a 0)])).length) Slot.unset).toArray = ls at hl ⊢
  have hl : lv_has ls 2 [(0, .ref (a 0))] := hl
  refine zw_X11_clash_0 (A := A) ⟨B.exec, B.bytes, hml, hown, hts, hK, hA⟩ (fun H locs ls pc dg hP hD hS => ?_) s.heap [] ls h hl hP hD va_S.rf
  exact W.iret B.exec B.bytes hr (fun t ht hW => ⟨⟨_, _, rfl, ⟨rfl, rfl⟩, by rw [ht]; exact hP, va_K.moved hW.alike hK, hD⟩, hS.F ht⟩) hS.2.2 dg
theorem zt_X11_clash_c : zc_X11_clash ∈ mq_T := mq_T_mem (mq_t7 (List.mem_of_getElem? (i := 72) rfl)) rfl
theorem zt_X11_clash_i : Cond.instanceMethod yX11_clash ∈ mq_T := mq_T_mem (mq_t7 (List.mem_of_getElem? (i := 71) rfl)) rfl
theorem zt_X11_clash_s : Cond.selects RX11 yX11_clash yX11_clash ∈ mq_T := mq_T_at 88 (by decide +kernel)
set_option maxHeartbeats 4000000 in
theorem zk_X11_clash {p : Program} {l : Launch} {e : Env} {R : Room} {s : State} {m : MethodId} {args : Array Value} {below : List Frame} {meth : Method} {c : Code} {A : Nat → Prop} {D : va_G} {a z : Nat → Nat} {cI cL cB cZ : ClassId} {Q : State → Prop} {cc : ByteArray} {nL idx pc N : Nat} {own : String} {c1 : Cond} {H : Heap} {locs : List Loc} {ls : Array Slot} {rest : List Value} {S : mq_St} {res : Int32} (C : mq_C p s m args c A D cI cL cB cZ cc nL own c1) (hlk : Cond.methodLink own idx yX11_clash ∈ mq_T) (hR : zr_X11_clash.frames + 1 ≤ R.frames ∧ 8 + (2 + 11) + zr_X11_clash.locals ≤ R.locals) (h : zf_X11_clash N z S = some res) (hP : va_P D vwCl (wd_R a cI cL cB cZ z S) H) (hD : va_D A (wd_R a cI cL cB cZ z S)) (hS : va_S A s.heap H locs) (hls : ls.size = nL) (hrest : (rest.map fun v => v.category).sum ≤ 8) (hdg : decode cc pc = .ok (.invokevirtual idx, 3)) (kk : ∀ (H1 : Heap) (locs1 : List Loc), va_P D vwCl (wd_R a cI cL cB cZ z S) H1 → va_D A (wd_R a cI cL cB cZ z S) → va_S A s.heap H1 locs1 → W p l e R s m args below meth c H1 locs1 0 0 Q (F0 m (pc + 3) ls (.int res :: rest))) : W p l e R s m args below meth c H locs 0 0 Q (F0 m pc ls (.ref (a 0) :: rest)) := by
  obtain ⟨hx, hb, hml, hown, hts, hK, hA⟩ := C
  have hFc := mq_freeI hD hS hA
  refine va_calli (va_runV (As := []) (rest := rest) ⟨hx, hb, hml, hown, hts⟩ (zm_X11_clash l D a z cI cL cB cZ H.size N S res h) (cwV 0 hts (mq_goodL (mq_wsV hlk zt_X11_clash_i zt_X11_clash_s zt_ini_X11 zt_X11_clash_c)) rfl rfl rfl (by decide +kernel) hR) ⟨fun a U g mk q => ⟨q.1, q.2.1, q.2.2.1, va_K.moved (u := U) (U := U.calling g mk a) (Vm.Alike.refl U.vm) q.2.2.2.1, q.2.2.2.2⟩, zy_R_0 hK hP, fun U hU hW => ⟨rfl, by rw [hU], by rw [hU]; exact hP, va_K.moved hW.alike hK, hD.weaken (fun _ _ _ _ => trivial)⟩⟩ rfl rfl hls rfl (lv_room hrest) hdg ⟨Nat.zero_le _, Nat.zero_le _⟩) hS (fun q _ h => hFc q h) hFc (fun r u t H1 locs ht hvm hw hB hz1 hk1 hS => ?_)
  obtain ⟨rfl, rfl⟩ := hw
  obtain ⟨hP1, hK1, hD1⟩ := hB
  rw [ht] at hP1
  exact kk H1 locs hP1 (hD1.weaken (fun _ _ _ h => hFc _ h)) hS
/-! ModalDeskModel.firstBoth()I -/
def zr_X11_firstBoth : Room := { frames := 1, cells := 0, slots := 0, locals := 22 }
def zc_X11_firstBoth : Cond := .code yX11_firstBoth cX11_firstBoth 2 (some .int)
def zf_X11_firstBoth_68 (N : Nat) (z : Nat → Nat) (S : mq_St) (k2 : Int32 → Option (Int32)) (v1 : Int32) : Option (Int32) := (mq_nI (v1 + (1 : Int32)) (fun x16 => (k2 (x16))))
def zf_X11_firstBoth_2b (N : Nat) (z : Nat → Nat) (S : mq_St) (k2 : Int32 → Option (Int32)) (v1 : Int32) : Option (Int32) := (if (S.1 3) ≤ v1 then (some ((-1 : Int32))) else (mq_ck (v1) 300 (if (S.2.1 2 (v1).toNatClampNeg) = (4 : Int32) then (mq_cp (zf_X11_isIn N (fun k => [10].getD k 0) ((0 : Int32)) (v1) (mq_pull S [] [17] [])) (fun q3 => (if q3 = (0 : Int32) then (zf_X11_firstBoth_68 N z S k2 (v1)) else (mq_ck (v1) 300 (mq_cp (zf_X11_isIn N (fun k => [10].getD k 0) ((0 : Int32)) ((S.2.1 3 (v1).toNatClampNeg)) (mq_pull S [] [17] [])) (fun q6 => (if q6 = (0 : Int32) then (some (v1)) else (mq_ck (v1) 300 (mq_cp (zf_X11_isIn N (fun k => [10].getD k 0) ((0 : Int32)) ((S.2.1 4 (v1).toNatClampNeg)) (mq_pull S [] [17] [])) (fun q9 => (if q9 = (0 : Int32) then (some (v1)) else (zf_X11_firstBoth_68 N z S k2 (v1))))))))))))) else (zf_X11_firstBoth_68 N z S k2 (v1)))))
def zf_X11_firstBoth_2 (N : Nat) (z : Nat → Nat) (S : mq_St) : Nat → Int32 → Option (Int32)
  | 0, _ => none
  | n + 1, v1 => zf_X11_firstBoth_2b N z S (fun v1 => zf_X11_firstBoth_2 N z S n v1) v1
def zf_X11_firstBoth (N : Nat) (z : Nat → Nat) (S : mq_St) : Option (Int32) := (mq_nI ((2 : Int32)) (fun x1 => (zf_X11_firstBoth_2 N z S N (x1))))
set_option maxHeartbeats 4000000 in
set_option maxRecDepth 100000 in
theorem zw_X11_firstBoth_68 {p : Program} {l : Launch} {e : Env} {s : State} {m : MethodId} {args : Array Value} {below : List Frame} {meth : Method} {c : Code} {A : Nat → Prop} {D : va_G} {a z : Nat → Nat} {cI cL cB cZ : ClassId} {Q : State → Prop} {N : Nat} {S : mq_St} {res : Int32} {k2 : Int32 → Option (Int32)} (C : mq_C p s m args c A D cI cL cB cZ cX11_firstBoth 2 RX11 zc_X11_firstBoth) (hret : ∀ (H : Heap) (locs : List Loc) (ls : Array Slot) (pc : Nat), decode cX11_firstBoth pc = .ok (.ireturn, 1) → va_P D vwCl (wd_R a cI cL cB cZ z S) H → va_D A (wd_R a cI cL cB cZ z S) → va_S A s.heap H locs → W p l e zr_X11_firstBoth s m args below meth c H locs 0 0 Q (F0 m pc ls [.int res])) (hk2 : ∀ (v1 : Int32) (H : Heap) (locs : List Loc) (ls : Array Slot), k2 v1 = some res → lv_has ls 2 [(0, .ref (a 0)), (1, .int (v1))] → va_P D vwCl (wd_R a cI cL cB cZ z S) H → va_D A (wd_R a cI cL cB cZ z S) → va_S A s.heap H locs → W p l e zr_X11_firstBoth s m args below meth c H locs 0 0 Q (F0 m 2 ls [])) (v1 : Int32) (H : Heap) (locs : List Loc) (ls : Array Slot) (h : zf_X11_firstBoth_68 N z S k2 v1 = some res) (hl : lv_has ls 2 [(0, .ref (a 0)), (1, .int (v1))]) (hP : va_P D vwCl (wd_R a cI cL cB cZ z S) H) (hD : va_D A (wd_R a cI cL cB cZ z S)) (hS : va_S A s.heap H locs) : W p l e zr_X11_firstBoth s m args below meth c H locs 0 0 Q (F0 m 68 ls []) := by
  obtain ⟨hx, hb, hml, hown, hts, hK, hA⟩ := id C
  unfold zf_X11_firstBoth_68 at h
  obtain ⟨x16, ex16⟩ : ∃ y : Int32, y = v1 + (1 : Int32) := ⟨_, rfl⟩
  replace h := mq_nI_go ex16 h
  refine lv_iinc (v := x16) (lv' := [(1, .int (x16)), (0, .ref (a 0))]) hx hb dX11_firstBoth_68 hl (k := 1) rfl (by rw [ex16]; rfl) (by decide) rfl (fun ls hl => ?_)
  refine lv_goto (tgt := 2) hx hb dX11_firstBoth_71 (by decide) ?_
  exact hk2 (x16) H locs ls h (lv_sub hl [1, 0] rfl) hP hD hS
set_option maxHeartbeats 4000000 in
set_option maxRecDepth 100000 in
theorem zw_X11_firstBoth_2b {p : Program} {l : Launch} {e : Env} {s : State} {m : MethodId} {args : Array Value} {below : List Frame} {meth : Method} {c : Code} {A : Nat → Prop} {D : va_G} {a z : Nat → Nat} {cI cL cB cZ : ClassId} {Q : State → Prop} {N : Nat} {S : mq_St} {res : Int32} {k2 : Int32 → Option (Int32)} (C : mq_C p s m args c A D cI cL cB cZ cX11_firstBoth 2 RX11 zc_X11_firstBoth) (hret : ∀ (H : Heap) (locs : List Loc) (ls : Array Slot) (pc : Nat), decode cX11_firstBoth pc = .ok (.ireturn, 1) → va_P D vwCl (wd_R a cI cL cB cZ z S) H → va_D A (wd_R a cI cL cB cZ z S) → va_S A s.heap H locs → W p l e zr_X11_firstBoth s m args below meth c H locs 0 0 Q (F0 m pc ls [.int res])) (hk2 : ∀ (v1 : Int32) (H : Heap) (locs : List Loc) (ls : Array Slot), k2 v1 = some res → lv_has ls 2 [(0, .ref (a 0)), (1, .int (v1))] → va_P D vwCl (wd_R a cI cL cB cZ z S) H → va_D A (wd_R a cI cL cB cZ z S) → va_S A s.heap H locs → W p l e zr_X11_firstBoth s m args below meth c H locs 0 0 Q (F0 m 2 ls [])) (v1 : Int32) (H : Heap) (locs : List Loc) (ls : Array Slot) (h : zf_X11_firstBoth_2b N z S k2 v1 = some res) (hl : lv_has ls 2 [(0, .ref (a 0)), (1, .int (v1))]) (hP : va_P D vwCl (wd_R a cI cL cB cZ z S) H) (hD : va_D A (wd_R a cI cL cB cZ z S)) (hS : va_S A s.heap H locs) : W p l e zr_X11_firstBoth s m args below meth c H locs 0 0 Q (F0 m 2 ls []) := by
  obtain ⟨hx, hb, hml, hown, hts, hK, hA⟩ := id C
  unfold zf_X11_firstBoth_2b at h
  refine lv_iload_n hx hb dX11_firstBoth_2 rfl (lv_at hl 1 rfl) ?_
  refine lv_aload_n hx hb dX11_firstBoth_3 rfl (lv_at hl 0 rfl) ?_
  refine va_get (D := D) (ci := 11) (v := .int ((S.1 3))) (C := RX11) (T := TX11) (N := 76) hx hb hts (zi_X11 _) hown hK hP 0 rfl rfl 8 (by decide) (hts _ (List.mem_cons_of_mem _ zt_f_X11_26)) (fun _ h9 => h9) rfl dX11_firstBoth_4 ?_
  refine lv_icmp_ge (tgt := 74) hx hb dX11_firstBoth_7 (by decide) (fun c15 => ?_) (fun c15 => ?_)
  · replace h := mq_it c15 h
    refine lv_iconst (v := (-1 : Int32)) hx hb dX11_firstBoth_74 (by decide) ?_
    cases h
    exact hret H locs ls 75 dX11_firstBoth_75 hP hD hS
  · replace h := mq_if c15 h
    refine lv_aload_n hx hb dX11_firstBoth_10 rfl (lv_at hl 0 rfl) ?_
    refine va_get (D := D) (ci := 11) (v := .ref (a 3)) (C := RX11) (T := TX11) (N := 76) hx hb hts (zi_X11 _) hown hK hP 0 rfl rfl 5 (by decide) (hts _ (List.mem_cons_of_mem _ zt_f_X11_16)) (fun _ h9 => h9) rfl dX11_firstBoth_11 ?_
    refine lv_iload_n hx hb dX11_firstBoth_14 rfl (lv_at hl 1 rfl) ?_
    have hi2 := mq_ck_in h
    replace h := mq_ck_go h
    refine va_iald (f := S.2.1 2) hx hb hK hP 3 0 rfl rfl hi2 dX11_firstBoth_15 ?_
    refine lv_iconst (v := (4 : Int32)) hx hb dX11_firstBoth_16 (by decide) ?_
    refine lv_icmp_ne (tgt := 68) hx hb dX11_firstBoth_17 (by decide) (fun c14 => ?_) (fun c14 => ?_)
    · replace h := mq_if c14 h
      exact zw_X11_firstBoth_68 C hret hk2 (v1) H locs ls h (lv_sub hl [0, 1] rfl) hP hD hS
    · replace h := mq_it (by simpa using c14) h
      refine lv_aload_n hx hb dX11_firstBoth_20 rfl (lv_at hl 0 rfl) ?_
      refine va_get (D := D) (ci := 11) (v := .ref (a 18)) (C := RX11) (T := TX11) (N := 76) hx hb hts (zi_X11 _) hown hK hP 0 rfl rfl 35 (by decide) (hts _ (List.mem_cons_of_mem _ zt_f_X11_69)) (fun _ h9 => h9) rfl dX11_firstBoth_21 ?_
      refine lv_iconst (v := (0 : Int32)) hx hb dX11_firstBoth_24 (by decide) ?_
      refine lv_iload_n hx hb dX11_firstBoth_25 rfl (lv_at hl 1 rfl) ?_
      obtain ⟨q3, hc4, h⟩ := mq_cp_go h
      refine zv_X11_isIn (a := mq_ad a [18]) (z := (fun k => [10].getD k 0)) [18] C zt_m_X11_273 ⟨by decide, by decide⟩ hc4 rfl (by decide) hP hD hS hl.1 (Nat.le_of_ble_eq_true rfl) dX11_firstBoth_26 (fun H locs hP hD hS => ?_)
      refine lv_if_eq (tgt := 68) hx hb dX11_firstBoth_29 (by decide) (fun c13 => ?_) (fun c13 => ?_)
      · replace h := mq_it c13 h
        exact zw_X11_firstBoth_68 C hret hk2 (v1) H locs ls h (lv_sub hl [0, 1] rfl) hP hD hS
      · replace h := mq_if c13 h
        refine lv_aload_n hx hb dX11_firstBoth_32 rfl (lv_at hl 0 rfl) ?_
        refine va_get (D := D) (ci := 11) (v := .ref (a 18)) (C := RX11) (T := TX11) (N := 76) hx hb hts (zi_X11 _) hown hK hP 0 rfl rfl 35 (by decide) (hts _ (List.mem_cons_of_mem _ zt_f_X11_69)) (fun _ h9 => h9) rfl dX11_firstBoth_33 ?_
        refine lv_iconst (v := (0 : Int32)) hx hb dX11_firstBoth_36 (by decide) ?_
        refine lv_aload_n hx hb dX11_firstBoth_37 rfl (lv_at hl 0 rfl) ?_
        refine va_get (D := D) (ci := 11) (v := .ref (a 4)) (C := RX11) (T := TX11) (N := 76) hx hb hts (zi_X11 _) hown hK hP 0 rfl rfl 6 (by decide) (hts _ (List.mem_cons_of_mem _ zt_f_X11_20)) (fun _ h9 => h9) rfl dX11_firstBoth_38 ?_
        refine lv_iload_n hx hb dX11_firstBoth_41 rfl (lv_at hl 1 rfl) ?_
        have hi5 := mq_ck_in h
        replace h := mq_ck_go h
        refine va_iald (f := S.2.1 3) hx hb hK hP 4 0 rfl rfl hi5 dX11_firstBoth_42 ?_
        obtain ⟨q6, hc7, h⟩ := mq_cp_go h
        refine zv_X11_isIn (a := mq_ad a [18]) (z := (fun k => [10].getD k 0)) [18] C zt_m_X11_273 ⟨by decide, by decide⟩ hc7 rfl (by decide) hP hD hS hl.1 (Nat.le_of_ble_eq_true rfl) dX11_firstBoth_43 (fun H locs hP hD hS => ?_)
        refine lv_if_eq (tgt := 66) hx hb dX11_firstBoth_46 (by decide) (fun c12 => ?_) (fun c12 => ?_)
        · replace h := mq_it c12 h
          refine lv_iload_n hx hb dX11_firstBoth_66 rfl (lv_at hl 1 rfl) ?_
          cases h
          exact hret H locs ls 67 dX11_firstBoth_67 hP hD hS
        · replace h := mq_if c12 h
          refine lv_aload_n hx hb dX11_firstBoth_49 rfl (lv_at hl 0 rfl) ?_
          refine va_get (D := D) (ci := 11) (v := .ref (a 18)) (C := RX11) (T := TX11) (N := 76) hx hb hts (zi_X11 _) hown hK hP 0 rfl rfl 35 (by decide) (hts _ (List.mem_cons_of_mem _ zt_f_X11_69)) (fun _ h9 => h9) rfl dX11_firstBoth_50 ?_
          refine lv_iconst (v := (0 : Int32)) hx hb dX11_firstBoth_53 (by decide) ?_
          refine lv_aload_n hx hb dX11_firstBoth_54 rfl (lv_at hl 0 rfl) ?_
          refine va_get (D := D) (ci := 11) (v := .ref (a 5)) (C := RX11) (T := TX11) (N := 76) hx hb hts (zi_X11 _) hown hK hP 0 rfl rfl 7 (by decide) (hts _ (List.mem_cons_of_mem _ zt_f_X11_23)) (fun _ h9 => h9) rfl dX11_firstBoth_55 ?_
          refine lv_iload_n hx hb dX11_firstBoth_58 rfl (lv_at hl 1 rfl) ?_
          have hi8 := mq_ck_in h
          replace h := mq_ck_go h
          refine va_iald (f := S.2.1 4) hx hb hK hP 5 0 rfl rfl hi8 dX11_firstBoth_59 ?_
          obtain ⟨q9, hc10, h⟩ := mq_cp_go h
          refine zv_X11_isIn (a := mq_ad a [18]) (z := (fun k => [10].getD k 0)) [18] C zt_m_X11_273 ⟨by decide, by decide⟩ hc10 rfl (by decide) hP hD hS hl.1 (Nat.le_of_ble_eq_true rfl) dX11_firstBoth_60 (fun H locs hP hD hS => ?_)
          refine lv_if_ne (tgt := 68) hx hb dX11_firstBoth_63 (by decide) (fun c11 => ?_) (fun c11 => ?_)
          · replace h := mq_if c11 h
            exact zw_X11_firstBoth_68 C hret hk2 (v1) H locs ls h (lv_sub hl [0, 1] rfl) hP hD hS
          · replace h := mq_it (by simpa using c11) h
            refine lv_iload_n hx hb dX11_firstBoth_66 rfl (lv_at hl 1 rfl) ?_
            cases h
            exact hret H locs ls 67 dX11_firstBoth_67 hP hD hS
set_option maxHeartbeats 4000000 in
set_option maxRecDepth 100000 in
theorem zw_X11_firstBoth_2 {p : Program} {l : Launch} {e : Env} {s : State} {m : MethodId} {args : Array Value} {below : List Frame} {meth : Method} {c : Code} {A : Nat → Prop} {D : va_G} {a z : Nat → Nat} {cI cL cB cZ : ClassId} {Q : State → Prop} {N : Nat} {S : mq_St} {res : Int32} (C : mq_C p s m args c A D cI cL cB cZ cX11_firstBoth 2 RX11 zc_X11_firstBoth) (hret : ∀ (H : Heap) (locs : List Loc) (ls : Array Slot) (pc : Nat), decode cX11_firstBoth pc = .ok (.ireturn, 1) → va_P D vwCl (wd_R a cI cL cB cZ z S) H → va_D A (wd_R a cI cL cB cZ z S) → va_S A s.heap H locs → W p l e zr_X11_firstBoth s m args below meth c H locs 0 0 Q (F0 m pc ls [.int res])) : ∀ (n : Nat) (v1 : Int32) (H : Heap) (locs : List Loc) (ls : Array Slot) (h : zf_X11_firstBoth_2 N z S n v1 = some res) (hl : lv_has ls 2 [(0, .ref (a 0)), (1, .int (v1))]) (hP : va_P D vwCl (wd_R a cI cL cB cZ z S) H) (hD : va_D A (wd_R a cI cL cB cZ z S)) (hS : va_S A s.heap H locs), W p l e zr_X11_firstBoth s m args below meth c H locs 0 0 Q (F0 m 2 ls []) := by
  intro n
  induction n with
  | zero =>
    intro v1 H locs ls h hl hP hD hS
    exact nomatch (show (none : Option (Int32)) = some res from h)
  | succ n ih =>
    intro v1 H locs ls h hl hP hD hS
    exact zw_X11_firstBoth_2b C hret (fun v1 H locs ls h hl hP hD hS => ih v1 H locs ls h hl hP hD hS) v1 H locs ls h hl hP hD hS
set_option maxHeartbeats 4000000 in
set_option maxRecDepth 100000 in
theorem zw_X11_firstBoth_0 {p : Program} {l : Launch} {e : Env} {s : State} {m : MethodId} {args : Array Value} {below : List Frame} {meth : Method} {c : Code} {A : Nat → Prop} {D : va_G} {a z : Nat → Nat} {cI cL cB cZ : ClassId} {Q : State → Prop} {N : Nat} {S : mq_St} {res : Int32} (C : mq_C p s m args c A D cI cL cB cZ cX11_firstBoth 2 RX11 zc_X11_firstBoth) (hret : ∀ (H : Heap) (locs : List Loc) (ls : Array Slot) (pc : Nat), decode cX11_firstBoth pc = .ok (.ireturn, 1) → va_P D vwCl (wd_R a cI cL cB cZ z S) H → va_D A (wd_R a cI cL cB cZ z S) → va_S A s.heap H locs → W p l e zr_X11_firstBoth s m args below meth c H locs 0 0 Q (F0 m pc ls [.int res])) (H : Heap) (locs : List Loc) (ls : Array Slot) (h : zf_X11_firstBoth N z S = some res) (hl : lv_has ls 2 [(0, .ref (a 0))]) (hP : va_P D vwCl (wd_R a cI cL cB cZ z S) H) (hD : va_D A (wd_R a cI cL cB cZ z S)) (hS : va_S A s.heap H locs) : W p l e zr_X11_firstBoth s m args below meth c H locs 0 0 Q (F0 m 0 ls []) := by
  obtain ⟨hx, hb, hml, hown, hts, hK, hA⟩ := id C
  unfold zf_X11_firstBoth at h
  refine lv_iconst (v := (2 : Int32)) hx hb dX11_firstBoth_0 (by decide) ?_
  refine lv_topi (fun x1 ex1 => ?_)
  replace h := mq_nI_go ex1 h
  refine lv_istore_n (lv' := [(1, .int (x1)), (0, .ref (a 0))]) hx hb dX11_firstBoth_1 rfl hl (by decide) rfl (fun ls hl => ?_)
  exact zw_X11_firstBoth_2 C hret N (x1) H locs ls h (lv_sub hl [1, 0] rfl) hP hD hS
set_option maxHeartbeats 4000000 in
set_option maxRecDepth 100000 in
theorem zm_X11_firstBoth (l : Launch) (D : va_G) (a z : Nat → Nat) (cI cL cB cZ : ClassId) (sz N : Nat) (S : mq_St) (res : Int32) (h : zf_X11_firstBoth N z S = some res) : Met l yX11_firstBoth (zc_X11_firstBoth :: mq_T) zr_X11_firstBoth (va_Pc [.ref (a 0)] (fun U => U.heap.size = sz ∧ va_P D vwCl (wd_R a cI cL cB cZ z S) U.heap ∧ va_K D vwCl (mq_tys cI cL cB cZ) U ∧ va_D (fun _ => True) (wd_R a cI cL cB cZ z S))) (va_Qi (fun (r : Int32) (u : mq_St) => r = res ∧ u = S) (fun u t => va_P D vwCl (wd_R a cI cL cB cZ z u) t.heap ∧ va_K D vwCl (mq_tys cI cL cB cZ) t ∧ va_D (va_A (wd_R a cI cL cB cZ z S) sz) (wd_R a cI cL cB cZ z u)) (va_A (wd_R a cI cL cB cZ z S) sz)) 0 0 (va_A (wd_R a cI cL cB cZ z S) sz) := by
  refine Met.ofW (cc := cX11_firstBoth) (maxL := 2) (ret := (some .int)) (by decide) rfl ?_
  intro p e s m args below meth c s₁ B hml hv
  obtain ⟨rfl, hsz, hP, hK, hD0⟩ := hv
  have hr := B.returns
  have hlocks := B.notSynchronized
  have hts := atoms_spec (ws := zc_X11_firstBoth :: mq_T) B.pre
  have hown : s.vm.findClass RX11 = some m.cls := findClass_of_methodNamed B.named
  subst hsz
  have hD := hD0.self (sz := s.heap.size)
  generalize hAe : va_A (wd_R a cI cL cB cZ z S) s.heap.size = A at hD ⊢
  have hA : ∀ q : Nat, s.heap.size ≤ q → A q := fun q h => by rw [← hAe]; exact Or.inr h
  have hl := lv_entry ([.ref (a 0)]) (n := 2) (Nat.le_of_ble_eq_true rfl)
  rw [lg_entry_eq]
  generalize (lg_sl ([.ref (a 0)]) ++ List.replicate (2 - (lg_sl ([.ref (a 0)])).length) Slot.unset).toArray = ls at hl ⊢
  have hl : lv_has ls 2 [(0, .ref (a 0))] := hl
  refine zw_X11_firstBoth_0 (A := A) ⟨B.exec, B.bytes, hml, hown, hts, hK, hA⟩ (fun H locs ls pc dg hP hD hS => ?_) s.heap [] ls h hl hP hD va_S.rf
  exact W.iret B.exec B.bytes hr (fun t ht hW => ⟨⟨_, _, rfl, ⟨rfl, rfl⟩, by rw [ht]; exact hP, va_K.moved hW.alike hK, hD⟩, hS.F ht⟩) hS.2.2 dg
theorem zt_X11_firstBoth_c : zc_X11_firstBoth ∈ mq_T := mq_T_mem (mq_t7 (List.mem_of_getElem? (i := 87) rfl)) rfl
theorem zt_X11_firstBoth_i : Cond.instanceMethod yX11_firstBoth ∈ mq_T := mq_T_mem (mq_t7 (List.mem_of_getElem? (i := 86) rfl)) rfl
theorem zt_X11_firstBoth_s : Cond.selects RX11 yX11_firstBoth yX11_firstBoth ∈ mq_T := mq_T_at 91 (by decide +kernel)
set_option maxHeartbeats 4000000 in
theorem zk_X11_firstBoth {p : Program} {l : Launch} {e : Env} {R : Room} {s : State} {m : MethodId} {args : Array Value} {below : List Frame} {meth : Method} {c : Code} {A : Nat → Prop} {D : va_G} {a z : Nat → Nat} {cI cL cB cZ : ClassId} {Q : State → Prop} {cc : ByteArray} {nL idx pc N : Nat} {own : String} {c1 : Cond} {H : Heap} {locs : List Loc} {ls : Array Slot} {rest : List Value} {S : mq_St} {res : Int32} (C : mq_C p s m args c A D cI cL cB cZ cc nL own c1) (hlk : Cond.methodLink own idx yX11_firstBoth ∈ mq_T) (hR : zr_X11_firstBoth.frames + 1 ≤ R.frames ∧ 8 + (2 + 11) + zr_X11_firstBoth.locals ≤ R.locals) (h : zf_X11_firstBoth N z S = some res) (hP : va_P D vwCl (wd_R a cI cL cB cZ z S) H) (hD : va_D A (wd_R a cI cL cB cZ z S)) (hS : va_S A s.heap H locs) (hls : ls.size = nL) (hrest : (rest.map fun v => v.category).sum ≤ 8) (hdg : decode cc pc = .ok (.invokevirtual idx, 3)) (kk : ∀ (H1 : Heap) (locs1 : List Loc), va_P D vwCl (wd_R a cI cL cB cZ z S) H1 → va_D A (wd_R a cI cL cB cZ z S) → va_S A s.heap H1 locs1 → W p l e R s m args below meth c H1 locs1 0 0 Q (F0 m (pc + 3) ls (.int res :: rest))) : W p l e R s m args below meth c H locs 0 0 Q (F0 m pc ls (.ref (a 0) :: rest)) := by
  obtain ⟨hx, hb, hml, hown, hts, hK, hA⟩ := C
  have hFc := mq_freeI hD hS hA
  refine va_calli (va_runV (As := []) (rest := rest) ⟨hx, hb, hml, hown, hts⟩ (zm_X11_firstBoth l D a z cI cL cB cZ H.size N S res h) (cwV 0 hts (mq_goodL (mq_wsV hlk zt_X11_firstBoth_i zt_X11_firstBoth_s zt_ini_X11 zt_X11_firstBoth_c)) rfl rfl rfl (by decide +kernel) hR) ⟨fun a U g mk q => ⟨q.1, q.2.1, q.2.2.1, va_K.moved (u := U) (U := U.calling g mk a) (Vm.Alike.refl U.vm) q.2.2.2.1, q.2.2.2.2⟩, zy_R_0 hK hP, fun U hU hW => ⟨rfl, by rw [hU], by rw [hU]; exact hP, va_K.moved hW.alike hK, hD.weaken (fun _ _ _ _ => trivial)⟩⟩ rfl rfl hls rfl (lv_room hrest) hdg ⟨Nat.zero_le _, Nat.zero_le _⟩) hS (fun q _ h => hFc q h) hFc (fun r u t H1 locs ht hvm hw hB hz1 hk1 hS => ?_)
  obtain ⟨rfl, rfl⟩ := hw
  obtain ⟨hP1, hK1, hD1⟩ := hB
  rw [ht] at hP1
  exact kk H1 locs hP1 (hD1.weaken (fun _ _ _ h => hFc _ h)) hS
