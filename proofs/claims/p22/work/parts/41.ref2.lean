theorem zs_wd_R_a_14_13 (a z : Nat → Nat) (cI cL cB cZ : ClassId) (S : mq_St) (f : Nat → Int32) : (wd_R a cI cL cB cZ z S).set 14 (a 14, .inl (cI, 410, .inl f)) = (wd_R a cI cL cB cZ z (mq_sa S 13 f)) := rfl
theorem zt_m_X11_207 : Cond.methodLink RX11 207 yX11_wrong ∈ mq_T := mq_T_mem (mq_t6 (List.mem_of_getElem? (i := 210) rfl)) rfl
/-! ModalDeskModel.opens(I)Z -/
def zr_X11_opens : Room := { frames := 1, cells := 0, slots := 0, locals := 21 }
def zc_X11_opens : Cond := .code yX11_opens cX11_opens 3 (some .boolean)
def zf_X11_opens (N : Nat) (z : Nat → Nat) (v1 : Int32) (S : mq_St) : Option (Int32 × mq_St) := (if (S.1 12) = (60 : Int32) then (mq_cl (zf_X11_wrong N z ((2 : Int32)) S) (fun q6v S8 => (mq_nI (q6v) (fun x9 => (mq_cz ((0 : Int32)) (some ((0 : Int32), S8))))))) else (mq_nS (mq_si S 12 (((S.1 12) + (1 : Int32)))) (fun S1 => (mq_ck ((S1.1 15)) 410 (mq_nS (mq_sa S1 13 (upd (S1.2.1 13) ((S1.1 15)).toNatClampNeg (v1))) (fun S3 => (mq_nS (mq_si S3 15 (((S3.1 15) + (1 : Int32)))) (fun S4 => (mq_cz ((1 : Int32)) (some ((1 : Int32), S4)))))))))))
set_option maxHeartbeats 4000000 in
set_option maxRecDepth 100000 in
theorem zw_X11_opens_0 {p : Program} {l : Launch} {e : Env} {s : State} {m : MethodId} {args : Array Value} {below : List Frame} {meth : Method} {c : Code} {A : Nat → Prop} {D : va_G} {a z : Nat → Nat} {cI cL cB cZ : ClassId} {Q : State → Prop} {N : Nat} {res : Int32 × mq_St} (C : mq_C p s m args c A D cI cL cB cZ cX11_opens 3 RX11 zc_X11_opens) (hret : ∀ (H : Heap) (locs : List Loc) (ls : Array Slot) (pc : Nat), decode cX11_opens pc = .ok (.ireturn, 1) → narrow .boolean (.int res.1) = .int res.1 → va_P D vwCl (wd_R a cI cL cB cZ z res.2) H → va_D A (wd_R a cI cL cB cZ z res.2) → va_S A s.heap H locs → W p l e zr_X11_opens s m args below meth c H locs 0 0 Q (F0 m pc ls [.int res.1])) (v1 : Int32) (S : mq_St) (H : Heap) (locs : List Loc) (ls : Array Slot) (h : zf_X11_opens N z v1 S = some res) (hl : lv_has ls 3 [(0, .ref (a 0)), (1, .int (v1))]) (hP : va_P D vwCl (wd_R a cI cL cB cZ z S) H) (hD : va_D A (wd_R a cI cL cB cZ z S)) (hS : va_S A s.heap H locs) : W p l e zr_X11_opens s m args below meth c H locs 0 0 Q (F0 m 0 ls []) := by
  obtain ⟨hx, hb, hml, hown, hts, hK, hA⟩ := id C
  unfold zf_X11_opens at h
  refine lv_aload_n hx hb dX11_opens_0 rfl (lv_at hl 0 rfl) ?_
  refine va_get (D := D) (ci := 11) (v := .int ((S.1 12))) (C := RX11) (T := TX11) (N := 76) hx hb hts (zi_X11 _) hown hK hP 0 rfl rfl 24 (by decide) (hts _ (List.mem_cons_of_mem _ zt_f_X11_204)) (fun _ h9 => h9) rfl dX11_opens_1 ?_
  refine lv_bipush (v := (60 : Int32)) hx hb dX11_opens_4 (by decide) ?_
  refine lv_icmp_ne (tgt := 17) hx hb dX11_opens_6 (by decide) (fun c11 => ?_) (fun c11 => ?_)
  · replace h := mq_if c11 h
    refine lv_aload_n hx hb dX11_opens_17 rfl (lv_at hl 0 rfl) ?_
    refine lv_dup hx hb dX11_opens_18 rfl ?_
    refine va_get (D := D) (ci := 11) (v := .int ((S.1 12))) (C := RX11) (T := TX11) (N := 76) hx hb hts (zi_X11 _) hown hK hP 0 rfl rfl 24 (by decide) (hts _ (List.mem_cons_of_mem _ zt_f_X11_204)) (fun _ h9 => h9) rfl dX11_opens_19 ?_
    refine lv_iconst (v := (1 : Int32)) hx hb dX11_opens_22 (by decide) ?_
    refine lv_iadd hx hb dX11_opens_23 ?_
    refine mq_put (w := wd_R a cI cL cB cZ z) (S := S) (D := D) (ci := 11) (v := ((S.1 12) + (1 : Int32))) (ty := .int) (C := RX11) (T := TX11) (N := 76) hx hb hts (zi_X11 _) tyX11 tyX11_ok nmX11 hown hK hP hD hS 0 rfl rfl 24 (by decide) (hts _ (List.mem_cons_of_mem _ zt_f_X11_204)) (fun _ h9 => h9) rfl (by decide +kernel) rfl rfl (Nat.le_of_ble_eq_true rfl) dX11_opens_24 12 (zs_wd_R_i_0_12 _ _ _ _ _ _ _ _) (fun S1 eS1 H locs hP hD hS => ?_)
    replace h := mq_nS_go eS1 h
    refine lv_aload_n hx hb dX11_opens_27 rfl (lv_at hl 0 rfl) ?_
    refine va_get (D := D) (ci := 11) (v := .ref (a 14)) (C := RX11) (T := TX11) (N := 76) hx hb hts (zi_X11 _) hown hK hP 0 rfl rfl 27 (by decide) (hts _ (List.mem_cons_of_mem _ zt_f_X11_57)) (fun _ h9 => h9) rfl dX11_opens_28 ?_
    refine lv_aload_n hx hb dX11_opens_31 rfl (lv_at hl 0 rfl) ?_
    refine va_get (D := D) (ci := 11) (v := .int ((S1.1 15))) (C := RX11) (T := TX11) (N := 76) hx hb hts (zi_X11 _) hown hK hP 0 rfl rfl 29 (by decide) (hts _ (List.mem_cons_of_mem _ zt_f_X11_194)) (fun _ h9 => h9) rfl dX11_opens_32 ?_
    refine lv_iload_n hx hb dX11_opens_35 rfl (lv_at hl 1 rfl) ?_
    have hi2 := mq_ck_in h
    replace h := mq_ck_go h
    refine mq_iast (w := wd_R a cI cL cB cZ z) (S := S1) (f := S1.2.1 13) hx hb hK hP hD hS 14 0 rfl rfl hi2 dX11_opens_36 13 (zs_wd_R_a_14_13 _ _ _ _ _ _ _ _) (fun S3 eS3 H locs hP hD hS => ?_)
    replace h := mq_nS_go eS3 h
    refine lv_aload_n hx hb dX11_opens_37 rfl (lv_at hl 0 rfl) ?_
    refine lv_dup hx hb dX11_opens_38 rfl ?_
    refine va_get (D := D) (ci := 11) (v := .int ((S3.1 15))) (C := RX11) (T := TX11) (N := 76) hx hb hts (zi_X11 _) hown hK hP 0 rfl rfl 29 (by decide) (hts _ (List.mem_cons_of_mem _ zt_f_X11_194)) (fun _ h9 => h9) rfl dX11_opens_39 ?_
    refine lv_iconst (v := (1 : Int32)) hx hb dX11_opens_42 (by decide) ?_
    refine lv_iadd hx hb dX11_opens_43 ?_
    refine mq_put (w := wd_R a cI cL cB cZ z) (S := S3) (D := D) (ci := 11) (v := ((S3.1 15) + (1 : Int32))) (ty := .int) (C := RX11) (T := TX11) (N := 76) hx hb hts (zi_X11 _) tyX11 tyX11_ok nmX11 hown hK hP hD hS 0 rfl rfl 29 (by decide) (hts _ (List.mem_cons_of_mem _ zt_f_X11_194)) (fun _ h9 => h9) rfl (by decide +kernel) rfl rfl (Nat.le_of_ble_eq_true rfl) dX11_opens_44 15 (zs_wd_R_i_0_15 _ _ _ _ _ _ _ _) (fun S4 eS4 H locs hP hD hS => ?_)
    replace h := mq_nS_go eS4 h
    refine lv_iconst (v := (1 : Int32)) hx hb dX11_opens_47 (by decide) ?_
    have hz5 := mq_cz_in h
    replace h := mq_cz_go h
    cases h
    exact hret H locs ls 48 dX11_opens_48 hz5.1 hP hD hS
  · replace h := mq_it (by simpa using c11) h
    refine lv_aload_n hx hb dX11_opens_9 rfl (lv_at hl 0 rfl) ?_
    refine lv_iconst (v := (2 : Int32)) hx hb dX11_opens_10 (by decide) ?_
    obtain ⟨q6, hc7, h⟩ := mq_cl_go h
    refine zk_X11_wrong C zt_m_X11_207 ⟨by decide, by decide⟩ hc7 hP hD hS hl.1 (Nat.le_of_ble_eq_true rfl) dX11_opens_11 (fun H locs hP hD hS => ?_)
    obtain ⟨S8, eS8⟩ : ∃ y, y = q6.2 := ⟨_, rfl⟩
    rw [← eS8] at hP hD h
    refine lv_topi (fun x9 ex9 => ?_)
    replace h := mq_nI_go ex9 h
    refine lv_istore_n (lv' := [(2, .int (x9)), (0, .ref (a 0)), (1, .int (v1))]) hx hb dX11_opens_14 rfl hl (by decide) rfl (fun ls hl => ?_)
    refine lv_iconst (v := (0 : Int32)) hx hb dX11_opens_15 (by decide) ?_
    have hz10 := mq_cz_in h
    replace h := mq_cz_go h
    cases h
    exact hret H locs ls 16 dX11_opens_16 hz10.1 hP hD hS
set_option maxHeartbeats 4000000 in
set_option maxRecDepth 100000 in
theorem zm_X11_opens (l : Launch) (D : va_G) (a z : Nat → Nat) (cI cL cB cZ : ClassId) (sz N : Nat) (v1 : Int32) (S : mq_St) (res : Int32 × mq_St) (h : zf_X11_opens N z v1 S = some res) : Met l yX11_opens (zc_X11_opens :: mq_T) zr_X11_opens (va_Pc [.ref (a 0), .int (v1)] (fun U => U.heap.size = sz ∧ va_P D vwCl (wd_R a cI cL cB cZ z S) U.heap ∧ va_K D vwCl (mq_tys cI cL cB cZ) U ∧ va_D (fun _ => True) (wd_R a cI cL cB cZ z S))) (va_Qi (fun (r : Int32) (u : mq_St) => r = res.1 ∧ u = res.2) (fun u t => va_P D vwCl (wd_R a cI cL cB cZ z u) t.heap ∧ va_K D vwCl (mq_tys cI cL cB cZ) t ∧ va_D (va_A (wd_R a cI cL cB cZ z S) sz) (wd_R a cI cL cB cZ z u)) (va_A (wd_R a cI cL cB cZ z S) sz)) 0 0 (va_A (wd_R a cI cL cB cZ z S) sz) := by
  refine Met.ofW (cc := cX11_opens) (maxL := 3) (ret := (some .boolean)) (by decide) rfl ?_
  intro p e s m args below meth c s₁ B hml hv
  obtain ⟨rfl, hsz, hP, hK, hD0⟩ := hv
  have hr := B.returns
  have hlocks := B.notSynchronized
  have hts := atoms_spec (ws := zc_X11_opens :: mq_T) B.pre
  have hown : s.vm.findClass RX11 = some m.cls := findClass_of_methodNamed B.named
  subst hsz
  have hD := hD0.self (sz := s.heap.size)
  generalize hAe : va_A (wd_R a cI cL cB cZ z S) s.heap.size = A at hD ⊢
  have hA : ∀ q : Nat, s.heap.size ≤ q → A q := fun q h => by rw [← hAe]; exact Or.inr h
  have hl := lv_entry ([.ref (a 0), .int (v1)]) (n := 3) (Nat.le_of_ble_eq_true rfl)
  rw [lg_entry_eq]
  generalize (lg_sl ([.ref (a 0), .int (v1)]) ++ List.replicate (3 - (lg_sl ([.ref (a 0), .int (v1)])).length) Slot.unset).toArray = ls at hl ⊢
  have hl : lv_has ls 3 [(0, .ref (a 0)), (1, .int (v1))] := hl
  refine zw_X11_opens_0 (A := A) ⟨B.exec, B.bytes, hml, hown, hts, hK, hA⟩ (fun H locs ls pc dg hz hP hD hS => ?_) v1 S s.heap [] ls h hl hP hD va_S.rf
  exact W.zret B.exec B.bytes hr hz (fun t ht hW => ⟨⟨_, _, rfl, ⟨rfl, rfl⟩, by rw [ht]; exact hP, va_K.moved hW.alike hK, hD⟩, hS.F ht⟩) hS.2.2 dg
theorem zt_X11_opens_c : zc_X11_opens ∈ mq_T := mq_T_mem (mq_t6 (List.mem_of_getElem? (i := 217) rfl)) rfl
theorem zt_X11_opens_i : Cond.instanceMethod yX11_opens ∈ mq_T := mq_T_mem (mq_t6 (List.mem_of_getElem? (i := 216) rfl)) rfl
theorem zt_X11_opens_s : Cond.selects RX11 yX11_opens yX11_opens ∈ mq_T := mq_T_at 73 (by decide +kernel)
set_option maxHeartbeats 4000000 in
theorem zk_X11_opens {p : Program} {l : Launch} {e : Env} {R : Room} {s : State} {m : MethodId} {args : Array Value} {below : List Frame} {meth : Method} {c : Code} {A : Nat → Prop} {D : va_G} {a z : Nat → Nat} {cI cL cB cZ : ClassId} {Q : State → Prop} {cc : ByteArray} {nL idx pc N : Nat} {own : String} {c1 : Cond} {H : Heap} {locs : List Loc} {ls : Array Slot} {rest : List Value} {S : mq_St} {res : Int32 × mq_St} {v1 : Int32} (C : mq_C p s m args c A D cI cL cB cZ cc nL own c1) (hlk : Cond.methodLink own idx yX11_opens ∈ mq_T) (hR : zr_X11_opens.frames + 1 ≤ R.frames ∧ 8 + (3 + 11) + zr_X11_opens.locals ≤ R.locals) (h : zf_X11_opens N z v1 S = some res) (hP : va_P D vwCl (wd_R a cI cL cB cZ z S) H) (hD : va_D A (wd_R a cI cL cB cZ z S)) (hS : va_S A s.heap H locs) (hls : ls.size = nL) (hrest : (rest.map fun v => v.category).sum ≤ 8) (hdg : decode cc pc = .ok (.invokevirtual idx, 3)) (kk : ∀ (H1 : Heap) (locs1 : List Loc), va_P D vwCl (wd_R a cI cL cB cZ z res.2) H1 → va_D A (wd_R a cI cL cB cZ z res.2) → va_S A s.heap H1 locs1 → W p l e R s m args below meth c H1 locs1 0 0 Q (F0 m (pc + 3) ls (.int res.1 :: rest))) : W p l e R s m args below meth c H locs 0 0 Q (F0 m pc ls (.int (v1) :: .ref (a 0) :: rest)) := by
  obtain ⟨hx, hb, hml, hown, hts, hK, hA⟩ := C
  have hFc := mq_freeI hD hS hA
  refine va_calli (va_runV (As := [.int (v1)]) (rest := rest) ⟨hx, hb, hml, hown, hts⟩ (zm_X11_opens l D a z cI cL cB cZ H.size N v1 S res h) (cwV 1 hts (mq_goodL (mq_wsV hlk zt_X11_opens_i zt_X11_opens_s zt_ini_X11 zt_X11_opens_c)) rfl rfl rfl (by decide +kernel) hR) ⟨fun a U g mk q => ⟨q.1, q.2.1, q.2.2.1, va_K.moved (u := U) (U := U.calling g mk a) (Vm.Alike.refl U.vm) q.2.2.2.1, q.2.2.2.2⟩, zy_R_0 hK hP, fun U hU hW => ⟨rfl, by rw [hU], by rw [hU]; exact hP, va_K.moved hW.alike hK, hD.weaken (fun _ _ _ _ => trivial)⟩⟩ rfl rfl hls rfl (lv_room hrest) hdg ⟨Nat.zero_le _, Nat.zero_le _⟩) hS (fun q _ h => hFc q h) hFc (fun r u t H1 locs ht hvm hw hB hz1 hk1 hS => ?_)
  obtain ⟨rfl, rfl⟩ := hw
  obtain ⟨hP1, hK1, hD1⟩ := hB
  rw [ht] at hP1
  exact kk H1 locs hP1 (hD1.weaken (fun _ _ _ h => hFc _ h)) hS
theorem zt_m_X11_210 : Cond.methodLink RX11 210 yX11_see ∈ mq_T := mq_T_mem (mq_t6 (List.mem_of_getElem? (i := 194) rfl)) rfl
theorem zt_m_X11_217 : Cond.methodLink RX11 217 yX11_opens ∈ mq_T := mq_T_mem (mq_t6 (List.mem_of_getElem? (i := 214) rfl)) rfl
theorem zt_f_X11_221 : Cond.fieldLink RX11 221 "ModalDeskModel" "brackets" "I" ∈ mq_T := mq_T_mem (mq_t5 (List.mem_of_getElem? (i := 195) rfl)) rfl
theorem zs_wd_R_i_0_16 (a z : Nat → Nat) (cI cL cB cZ : ClassId) (S : mq_St) (v : Int32) : (wd_R a cI cL cB cZ z S).set 0 (a 0, .inr (11, ([.int (S.1 0), .ref (a 1), .int (S.1 1), .ref (a 2), .int (S.1 2), .ref (a 3), .ref (a 4), .ref (a 5), .int (S.1 3), .ref (a 6), .ref (a 7), .int (S.1 4), .int (S.1 5), .int (S.1 6), .ref (a 8), .ref (a 9), .ref (a 10), .ref (a 11), .ref (a 12), .int (S.1 7), .int (S.1 8), .int (S.1 9), .int (S.1 10), .int (S.1 11), .int (S.1 12), .int (S.1 13), .ref (a 13), .ref (a 14), .int (S.1 14), .int (S.1 15), .int (S.1 16), .ref (a 15), .int (S.1 17), .ref (a 16), .ref (a 17), .ref (a 18), .int (S.1 18), .int (S.1 19), .int (S.1 20), .int (S.1 21), .int (S.1 22), .int (S.1 23), .int (S.1 24), .int (S.1 25), .ref (a 19), .ref (a 20), .ref (a 21), .ref (a 22), .ref (a 23), .int (S.1 26), .ref (a 24), .ref (a 25), .int (S.1 27), .int (S.1 28), .ref (a 26), .ref (a 27), .ref (a 28), .ref (a 29), .ref (a 30), .ref (a 31), .ref (a 32), .int (S.1 29), .int (S.1 30), .ref (a 33), .ref (a 34), .int (S.1 31), .ref (a 35), .ref (a 36), .ref (a 37), .ref (a 38), .ref (a 39), .ref (a 40), .ref (a 41), .ref (a 42), .ref (a 43), .ref (a 44)] : List Value).set 30 (.int v))) = (wd_R a cI cL cB cZ z (mq_si S 16 v)) := rfl
theorem zt_m_X11_214 : Cond.methodLink RX11 214 yX11_ahead ∈ mq_T := mq_T_mem (mq_t6 (List.mem_of_getElem? (i := 206) rfl)) rfl
/-! ModalDeskModel.operand()Z -/
def zr_X11_operand : Room := { frames := 3, cells := 0, slots := 0, locals := 66 }
def zc_X11_operand : Cond := .code yX11_operand cX11_operand 5 (some .boolean)
def zf_X11_operand_92 (N : Nat) (z : Nat → Nat) (t1 : Int32) (t2 : Int32) (S : mq_St) : Option (Int32 × mq_St) := (mq_ck (t1) 410 (mq_nS (mq_sa S 12 (upd (S.2.1 12) (t1).toNatClampNeg (t2))) (fun S66 => (mq_nS (mq_si S66 14 (((S66.1 14) + (1 : Int32)))) (fun S67 => (mq_cl (zf_X11_ahead N z S67) (fun q68v S70 => (mq_cz ((1 : Int32)) (some ((1 : Int32), S70))))))))))
def zf_X11_operand_28 (N : Nat) (z : Nat → Nat) (v1 : Int32) (S : mq_St) : Option (Int32 × mq_St) := (mq_nS (mq_si S 8 (((S.1 8) + (1 : Int32)))) (fun S50 => (if v1 = (84 : Int32) then (mq_cl (zf_X11_node N z ((0 : Int32)) ((-1 : Int32)) ((-1 : Int32)) S50) (fun q61v S63 => (zf_X11_operand_92 N z ((S50.1 14)) (q61v) S63))) else (if v1 = (70 : Int32) then (mq_cl (zf_X11_node N z ((1 : Int32)) ((-1 : Int32)) ((-1 : Int32)) S50) (fun q57v S59 => (zf_X11_operand_92 N z ((S50.1 14)) (q57v) S59))) else (mq_cl (zf_X11_node N z ((2 : Int32)) ((v1 - (97 : Int32))) ((-1 : Int32)) S50) (fun q51v S53 => (mq_cl (zf_X11_box N z (q51v) S53) (fun q54v S56 => (zf_X11_operand_92 N z ((S50.1 14)) (q54v) S56)))))))))
def zf_X11_operand_317 (N : Nat) (z : Nat → Nat) (t1 : Int32) (t2 : Int32) (S : mq_St) : Option (Int32 × mq_St) := (mq_nS (mq_si S 16 ((t1 + t2))) (fun S48 => (mq_cz ((0 : Int32)) (some ((0 : Int32), S48)))))
def zf_X11_operand_297 (N : Nat) (z : Nat → Nat) (v1 : Int32) (t1 : Int32) (t2 : Int32) (S : mq_St) : Option (Int32 × mq_St) := (mq_nS (mq_si S 8 ((t1 + t2))) (fun S46 => (if v1 = (40 : Int32) then (zf_X11_operand_317 N z ((S46.1 16)) ((1 : Int32)) S46) else (zf_X11_operand_317 N z ((S46.1 16)) ((0 : Int32)) S46))))
def zf_X11_operand_292 (N : Nat) (z : Nat → Nat) (v1 : Int32) (t1 : Int32) (S : mq_St) : Option (Int32 × mq_St) := (zf_X11_operand_297 N z (v1) (t1) ((2 : Int32)) S)
def zf_X11_operand_279 (N : Nat) (z : Nat → Nat) (v1 : Int32) (v2 : Int32) (v3 : Int32) (S : mq_St) : Option (Int32 × mq_St) := (if v2 = (0 : Int32) then (if v3 = (0 : Int32) then (zf_X11_operand_297 N z (v1) ((S.1 8)) ((1 : Int32)) S) else (zf_X11_operand_292 N z (v1) ((S.1 8)) S)) else (zf_X11_operand_292 N z (v1) ((S.1 8)) S))
def zf_X11_operand_272 (N : Nat) (z : Nat → Nat) (v1 : Int32) (v2 : Int32) (v3 : Int32) (S : mq_St) : Option (Int32 × mq_St) := (mq_cl (zf_X11_wrong N z ((3 : Int32)) S) (fun q40v S42 => (mq_nI (q40v) (fun x43 => (zf_X11_operand_279 N z (v1) (v2) (v3) S42)))))
def zf_X11_operand_251 (N : Nat) (z : Nat → Nat) (v1 : Int32) (v2 : Int32) (v3 : Int32) (t1 : Int32) (S : mq_St) : Option (Int32 × mq_St) := (mq_cl (zf_X11_opens N z (t1) S) (fun q32v S34 => (if q32v = (0 : Int32) then (mq_cz ((0 : Int32)) (some ((0 : Int32), S34))) else (if (S34.1 13) = (0 : Int32) then (if v2 = (0 : Int32) then (if v3 = (0 : Int32) then (zf_X11_operand_279 N z (v1) (v2) (v3) S34) else (zf_X11_operand_272 N z (v1) (v2) (v3) S34)) else (zf_X11_operand_272 N z (v1) (v2) (v3) S34)) else (zf_X11_operand_279 N z (v1) (v2) (v3) S34)))))
def zf_X11_operand_221 (N : Nat) (z : Nat → Nat) (v1 : Int32) (v2 : Int32) (v3 : Int32) (S : mq_St) : Option (Int32 × mq_St) := (if v1 = (40 : Int32) then (zf_X11_operand_251 N z (v1) (v2) (v3) ((0 : Int32)) S) else (if v1 = (33 : Int32) then (zf_X11_operand_251 N z (v1) (v2) (v3) ((1 : Int32)) S) else (if v2 = (0 : Int32) then (zf_X11_operand_251 N z (v1) (v2) (v3) ((3 : Int32)) S) else (zf_X11_operand_251 N z (v1) (v2) (v3) ((2 : Int32)) S))))
def zf_X11_operand_190 (N : Nat) (z : Nat → Nat) (v1 : Int32) (v2 : Int32) (t0 : Int32) (S : mq_St) : Option (Int32 × mq_St) := (mq_nI (t0) (fun x19 => (if v1 = (40 : Int32) then (zf_X11_operand_221 N z (v1) (v2) (x19) S) else (if v1 = (33 : Int32) then (zf_X11_operand_221 N z (v1) (v2) (x19) S) else (if v2 = (0 : Int32) then (if x19 = (0 : Int32) then (mq_cl (zf_X11_wrong N z ((1 : Int32)) S) (fun q20v S22 => (mq_nI (q20v) (fun x23 => (mq_cz ((0 : Int32)) (some ((0 : Int32), S22))))))) else (zf_X11_operand_221 N z (v1) (v2) (x19) S)) else (zf_X11_operand_221 N z (v1) (v2) (x19) S))))))
def zf_X11_operand_189 (N : Nat) (z : Nat → Nat) (v1 : Int32) (v2 : Int32) (S : mq_St) : Option (Int32 × mq_St) := (zf_X11_operand_190 N z (v1) (v2) ((0 : Int32)) S)
def zf_X11_operand_149 (N : Nat) (z : Nat → Nat) (v1 : Int32) (t0 : Int32) (S : mq_St) : Option (Int32 × mq_St) := (mq_nI (t0) (fun x14 => (if v1 = (60 : Int32) then (if (S.1 9) ≤ ((S.1 8) + (1 : Int32)) then (zf_X11_operand_189 N z (v1) (x14) S) else (mq_ck (((S.1 8) + (1 : Int32))) 4000 (if (S.2.1 0 (((S.1 8) + (1 : Int32))).toNatClampNeg) = (62 : Int32) then (zf_X11_operand_190 N z (v1) (x14) ((1 : Int32)) S) else (zf_X11_operand_189 N z (v1) (x14) S)))) else (zf_X11_operand_189 N z (v1) (x14) S))))
def zf_X11_operand_148 (N : Nat) (z : Nat → Nat) (v1 : Int32) (S : mq_St) : Option (Int32 × mq_St) := (zf_X11_operand_149 N z (v1) ((0 : Int32)) S)
def zf_X11_operand (N : Nat) (z : Nat → Nat) (S : mq_St) : Option (Int32 × mq_St) := (mq_cl (zf_X11_see N z S) (fun q1v S3 => (mq_nI (q1v) (fun x4 => (mq_cp (zf_X11_in N z (x4) ((97 : Int32)) ((122 : Int32)) (mq_pull S3 [] [] [])) (fun q5 => (if q5 = (0 : Int32) then (if x4 = (84 : Int32) then (zf_X11_operand_28 N z (x4) S3) else (if x4 = (70 : Int32) then (zf_X11_operand_28 N z (x4) S3) else (if x4 = (91 : Int32) then (if (S3.1 9) ≤ ((S3.1 8) + (1 : Int32)) then (zf_X11_operand_148 N z (x4) S3) else (mq_ck (((S3.1 8) + (1 : Int32))) 4000 (if (S3.2.1 0 (((S3.1 8) + (1 : Int32))).toNatClampNeg) = (93 : Int32) then (zf_X11_operand_149 N z (x4) ((1 : Int32)) S3) else (zf_X11_operand_148 N z (x4) S3)))) else (zf_X11_operand_148 N z (x4) S3)))) else (zf_X11_operand_28 N z (x4) S3))))))))
set_option maxHeartbeats 4000000 in
set_option maxRecDepth 100000 in
theorem zw_X11_operand_92 {p : Program} {l : Launch} {e : Env} {s : State} {m : MethodId} {args : Array Value} {below : List Frame} {meth : Method} {c : Code} {A : Nat → Prop} {D : va_G} {a z : Nat → Nat} {cI cL cB cZ : ClassId} {Q : State → Prop} {N : Nat} {res : Int32 × mq_St} (C : mq_C p s m args c A D cI cL cB cZ cX11_operand 5 RX11 zc_X11_operand) (hret : ∀ (H : Heap) (locs : List Loc) (ls : Array Slot) (pc : Nat), decode cX11_operand pc = .ok (.ireturn, 1) → narrow .boolean (.int res.1) = .int res.1 → va_P D vwCl (wd_R a cI cL cB cZ z res.2) H → va_D A (wd_R a cI cL cB cZ z res.2) → va_S A s.heap H locs → W p l e zr_X11_operand s m args below meth c H locs 0 0 Q (F0 m pc ls [.int res.1])) (t1 : Int32) (t2 : Int32) (S : mq_St) (H : Heap) (locs : List Loc) (ls : Array Slot) (h : zf_X11_operand_92 N z t1 t2 S = some res) (hl : lv_has ls 5 [(0, .ref (a 0))]) (hP : va_P D vwCl (wd_R a cI cL cB cZ z S) H) (hD : va_D A (wd_R a cI cL cB cZ z S)) (hS : va_S A s.heap H locs) : W p l e zr_X11_operand s m args below meth c H locs 0 0 Q (F0 m 92 ls [.int (t2), .int (t1), .ref (a 13)]) := by
  obtain ⟨hx, hb, hml, hown, hts, hK, hA⟩ := id C
  unfold zf_X11_operand_92 at h
  have hi65 := mq_ck_in h
  replace h := mq_ck_go h
  refine mq_iast (w := wd_R a cI cL cB cZ z) (S := S) (f := S.2.1 12) hx hb hK hP hD hS 13 0 rfl rfl hi65 dX11_operand_92 12 (zs_wd_R_a_13_12 _ _ _ _ _ _ _ _) (fun S66 eS66 H locs hP hD hS => ?_)
  replace h := mq_nS_go eS66 h
  refine lv_aload_n hx hb dX11_operand_93 rfl (lv_at hl 0 rfl) ?_
  refine lv_dup hx hb dX11_operand_94 rfl ?_
  refine va_get (D := D) (ci := 11) (v := .int ((S66.1 14))) (C := RX11) (T := TX11) (N := 76) hx hb hts (zi_X11 _) hown hK hP 0 rfl rfl 28 (by decide) (hts _ (List.mem_cons_of_mem _ zt_f_X11_197)) (fun _ h9 => h9) rfl dX11_operand_95 ?_
  refine lv_iconst (v := (1 : Int32)) hx hb dX11_operand_98 (by decide) ?_
  refine lv_iadd hx hb dX11_operand_99 ?_
  refine mq_put (w := wd_R a cI cL cB cZ z) (S := S66) (D := D) (ci := 11) (v := ((S66.1 14) + (1 : Int32))) (ty := .int) (C := RX11) (T := TX11) (N := 76) hx hb hts (zi_X11 _) tyX11 tyX11_ok nmX11 hown hK hP hD hS 0 rfl rfl 28 (by decide) (hts _ (List.mem_cons_of_mem _ zt_f_X11_197)) (fun _ h9 => h9) rfl (by decide +kernel) rfl rfl (Nat.le_of_ble_eq_true rfl) dX11_operand_100 14 (zs_wd_R_i_0_14 _ _ _ _ _ _ _ _) (fun S67 eS67 H locs hP hD hS => ?_)
  replace h := mq_nS_go eS67 h
  refine lv_aload_n hx hb dX11_operand_103 rfl (lv_at hl 0 rfl) ?_
  obtain ⟨q68, hc69, h⟩ := mq_cl_go h
  refine zk_X11_ahead C zt_m_X11_214 ⟨by decide, by decide⟩ hc69 hP hD hS hl.1 (Nat.le_of_ble_eq_true rfl) dX11_operand_104 (fun H locs hP hD hS => ?_)
  obtain ⟨S70, eS70⟩ : ∃ y, y = q68.2 := ⟨_, rfl⟩
  rw [← eS70] at hP hD h
  refine lv_iconst (v := (1 : Int32)) hx hb dX11_operand_107 (by decide) ?_
  have hz71 := mq_cz_in h
  replace h := mq_cz_go h
  cases h
  exact hret H locs ls 108 dX11_operand_108 hz71.1 hP hD hS
set_option maxHeartbeats 4000000 in
set_option maxRecDepth 100000 in
theorem zw_X11_operand_28 {p : Program} {l : Launch} {e : Env} {s : State} {m : MethodId} {args : Array Value} {below : List Frame} {meth : Method} {c : Code} {A : Nat → Prop} {D : va_G} {a z : Nat → Nat} {cI cL cB cZ : ClassId} {Q : State → Prop} {N : Nat} {res : Int32 × mq_St} (C : mq_C p s m args c A D cI cL cB cZ cX11_operand 5 RX11 zc_X11_operand) (hret : ∀ (H : Heap) (locs : List Loc) (ls : Array Slot) (pc : Nat), decode cX11_operand pc = .ok (.ireturn, 1) → narrow .boolean (.int res.1) = .int res.1 → va_P D vwCl (wd_R a cI cL cB cZ z res.2) H → va_D A (wd_R a cI cL cB cZ z res.2) → va_S A s.heap H locs → W p l e zr_X11_operand s m args below meth c H locs 0 0 Q (F0 m pc ls [.int res.1])) (v1 : Int32) (S : mq_St) (H : Heap) (locs : List Loc) (ls : Array Slot) (h : zf_X11_operand_28 N z v1 S = some res) (hl : lv_has ls 5 [(0, .ref (a 0)), (1, .int (v1))]) (hP : va_P D vwCl (wd_R a cI cL cB cZ z S) H) (hD : va_D A (wd_R a cI cL cB cZ z S)) (hS : va_S A s.heap H locs) : W p l e zr_X11_operand s m args below meth c H locs 0 0 Q (F0 m 28 ls []) := by
  obtain ⟨hx, hb, hml, hown, hts, hK, hA⟩ := id C
  unfold zf_X11_operand_28 at h
  refine lv_aload_n hx hb dX11_operand_28 rfl (lv_at hl 0 rfl) ?_
  refine lv_dup hx hb dX11_operand_29 rfl ?_
  refine va_get (D := D) (ci := 11) (v := .int ((S.1 8))) (C := RX11) (T := TX11) (N := 76) hx hb hts (zi_X11 _) hown hK hP 0 rfl rfl 20 (by decide) (hts _ (List.mem_cons_of_mem _ zt_f_X11_175)) (fun _ h9 => h9) rfl dX11_operand_30 ?_
  refine lv_iconst (v := (1 : Int32)) hx hb dX11_operand_33 (by decide) ?_
  refine lv_iadd hx hb dX11_operand_34 ?_
  refine mq_put (w := wd_R a cI cL cB cZ z) (S := S) (D := D) (ci := 11) (v := ((S.1 8) + (1 : Int32))) (ty := .int) (C := RX11) (T := TX11) (N := 76) hx hb hts (zi_X11 _) tyX11 tyX11_ok nmX11 hown hK hP hD hS 0 rfl rfl 20 (by decide) (hts _ (List.mem_cons_of_mem _ zt_f_X11_175)) (fun _ h9 => h9) rfl (by decide +kernel) rfl rfl (Nat.le_of_ble_eq_true rfl) dX11_operand_35 8 (zs_wd_R_i_0_8 _ _ _ _ _ _ _ _) (fun S50 eS50 H locs hP hD hS => ?_)
  replace h := mq_nS_go eS50 h
  refine lv_aload_n hx hb dX11_operand_38 rfl (lv_at hl 0 rfl) ?_
  refine va_get (D := D) (ci := 11) (v := .ref (a 13)) (C := RX11) (T := TX11) (N := 76) hx hb hts (zi_X11 _) hown hK hP 0 rfl rfl 26 (by decide) (hts _ (List.mem_cons_of_mem _ zt_f_X11_54)) (fun _ h9 => h9) rfl dX11_operand_39 ?_
  refine lv_aload_n hx hb dX11_operand_42 rfl (lv_at hl 0 rfl) ?_
  refine va_get (D := D) (ci := 11) (v := .int ((S50.1 14))) (C := RX11) (T := TX11) (N := 76) hx hb hts (zi_X11 _) hown hK hP 0 rfl rfl 28 (by decide) (hts _ (List.mem_cons_of_mem _ zt_f_X11_197)) (fun _ h9 => h9) rfl dX11_operand_43 ?_
  refine lv_iload_n hx hb dX11_operand_46 rfl (lv_at hl 1 rfl) ?_
  refine lv_bipush (v := (84 : Int32)) hx hb dX11_operand_47 (by decide) ?_
  refine lv_icmp_ne (tgt := 62) hx hb dX11_operand_49 (by decide) (fun c64 => ?_) (fun c64 => ?_)
  · replace h := mq_if c64 h
    refine lv_iload_n hx hb dX11_operand_62 rfl (lv_at hl 1 rfl) ?_
    refine lv_bipush (v := (70 : Int32)) hx hb dX11_operand_63 (by decide) ?_
    refine lv_icmp_ne (tgt := 78) hx hb dX11_operand_65 (by decide) (fun c60 => ?_) (fun c60 => ?_)
    · replace h := mq_if c60 h
      refine lv_aload_n hx hb dX11_operand_78 rfl (lv_at hl 0 rfl) ?_
      refine lv_aload_n hx hb dX11_operand_79 rfl (lv_at hl 0 rfl) ?_
      refine lv_iconst (v := (2 : Int32)) hx hb dX11_operand_80 (by decide) ?_
      refine lv_iload_n hx hb dX11_operand_81 rfl (lv_at hl 1 rfl) ?_
      refine lv_bipush (v := (97 : Int32)) hx hb dX11_operand_82 (by decide) ?_
      refine lv_isub hx hb dX11_operand_84 ?_
      refine lv_iconst (v := (-1 : Int32)) hx hb dX11_operand_85 (by decide) ?_
      obtain ⟨q51, hc52, h⟩ := mq_cl_go h
      refine zk_X11_node C zt_m_X11_190 ⟨by decide, by decide⟩ hc52 hP hD hS hl.1 (Nat.le_of_ble_eq_true rfl) dX11_operand_86 (fun H locs hP hD hS => ?_)
      obtain ⟨S53, eS53⟩ : ∃ y, y = q51.2 := ⟨_, rfl⟩
      rw [← eS53] at hP hD h
      obtain ⟨q54, hc55, h⟩ := mq_cl_go h
      refine zk_X11_box C zt_m_X11_200 ⟨by decide, by decide⟩ hc55 hP hD hS hl.1 (Nat.le_of_ble_eq_true rfl) dX11_operand_89 (fun H locs hP hD hS => ?_)
      obtain ⟨S56, eS56⟩ : ∃ y, y = q54.2 := ⟨_, rfl⟩
      rw [← eS56] at hP hD h
      exact zw_X11_operand_92 C hret ((S50.1 14)) (q54.1) S56 H locs ls h (lv_sub hl [0] rfl) hP hD hS
    · replace h := mq_it (by simpa using c60) h
      refine lv_aload_n hx hb dX11_operand_68 rfl (lv_at hl 0 rfl) ?_
      refine lv_iconst (v := (1 : Int32)) hx hb dX11_operand_69 (by decide) ?_
      refine lv_iconst (v := (-1 : Int32)) hx hb dX11_operand_70 (by decide) ?_
      refine lv_iconst (v := (-1 : Int32)) hx hb dX11_operand_71 (by decide) ?_
      obtain ⟨q57, hc58, h⟩ := mq_cl_go h
      refine zk_X11_node C zt_m_X11_190 ⟨by decide, by decide⟩ hc58 hP hD hS hl.1 (Nat.le_of_ble_eq_true rfl) dX11_operand_72 (fun H locs hP hD hS => ?_)
      obtain ⟨S59, eS59⟩ : ∃ y, y = q57.2 := ⟨_, rfl⟩
      rw [← eS59] at hP hD h
      refine lv_goto (tgt := 92) hx hb dX11_operand_75 (by decide) ?_
      exact zw_X11_operand_92 C hret ((S50.1 14)) (q57.1) S59 H locs ls h (lv_sub hl [0] rfl) hP hD hS
  · replace h := mq_it (by simpa using c64) h
    refine lv_aload_n hx hb dX11_operand_52 rfl (lv_at hl 0 rfl) ?_
    refine lv_iconst (v := (0 : Int32)) hx hb dX11_operand_53 (by decide) ?_
    refine lv_iconst (v := (-1 : Int32)) hx hb dX11_operand_54 (by decide) ?_
    refine lv_iconst (v := (-1 : Int32)) hx hb dX11_operand_55 (by decide) ?_
    obtain ⟨q61, hc62, h⟩ := mq_cl_go h
    refine zk_X11_node C zt_m_X11_190 ⟨by decide, by decide⟩ hc62 hP hD hS hl.1 (Nat.le_of_ble_eq_true rfl) dX11_operand_56 (fun H locs hP hD hS => ?_)
    obtain ⟨S63, eS63⟩ : ∃ y, y = q61.2 := ⟨_, rfl⟩
    rw [← eS63] at hP hD h
    refine lv_goto (tgt := 92) hx hb dX11_operand_59 (by decide) ?_
    exact zw_X11_operand_92 C hret ((S50.1 14)) (q61.1) S63 H locs ls h (lv_sub hl [0] rfl) hP hD hS
set_option maxHeartbeats 4000000 in
set_option maxRecDepth 100000 in
theorem zw_X11_operand_317 {p : Program} {l : Launch} {e : Env} {s : State} {m : MethodId} {args : Array Value} {below : List Frame} {meth : Method} {c : Code} {A : Nat → Prop} {D : va_G} {a z : Nat → Nat} {cI cL cB cZ : ClassId} {Q : State → Prop} {N : Nat} {res : Int32 × mq_St} (C : mq_C p s m args c A D cI cL cB cZ cX11_operand 5 RX11 zc_X11_operand) (hret : ∀ (H : Heap) (locs : List Loc) (ls : Array Slot) (pc : Nat), decode cX11_operand pc = .ok (.ireturn, 1) → narrow .boolean (.int res.1) = .int res.1 → va_P D vwCl (wd_R a cI cL cB cZ z res.2) H → va_D A (wd_R a cI cL cB cZ z res.2) → va_S A s.heap H locs → W p l e zr_X11_operand s m args below meth c H locs 0 0 Q (F0 m pc ls [.int res.1])) (t1 : Int32) (t2 : Int32) (S : mq_St) (H : Heap) (locs : List Loc) (ls : Array Slot) (h : zf_X11_operand_317 N z t1 t2 S = some res) (hl : lv_has ls 5 []) (hP : va_P D vwCl (wd_R a cI cL cB cZ z S) H) (hD : va_D A (wd_R a cI cL cB cZ z S)) (hS : va_S A s.heap H locs) : W p l e zr_X11_operand s m args below meth c H locs 0 0 Q (F0 m 317 ls [.int (t2), .int (t1), .ref (a 0)]) := by
  obtain ⟨hx, hb, hml, hown, hts, hK, hA⟩ := id C
  unfold zf_X11_operand_317 at h
  refine lv_iadd hx hb dX11_operand_317 ?_
  refine mq_put (w := wd_R a cI cL cB cZ z) (S := S) (D := D) (ci := 11) (v := (t1 + t2)) (ty := .int) (C := RX11) (T := TX11) (N := 76) hx hb hts (zi_X11 _) tyX11 tyX11_ok nmX11 hown hK hP hD hS 0 rfl rfl 30 (by decide) (hts _ (List.mem_cons_of_mem _ zt_f_X11_221)) (fun _ h9 => h9) rfl (by decide +kernel) rfl rfl (Nat.le_of_ble_eq_true rfl) dX11_operand_318 16 (zs_wd_R_i_0_16 _ _ _ _ _ _ _ _) (fun S48 eS48 H locs hP hD hS => ?_)
  replace h := mq_nS_go eS48 h
  refine lv_iconst (v := (0 : Int32)) hx hb dX11_operand_321 (by decide) ?_
  have hz49 := mq_cz_in h
  replace h := mq_cz_go h
  cases h
  exact hret H locs ls 322 dX11_operand_322 hz49.1 hP hD hS
set_option maxHeartbeats 4000000 in
set_option maxRecDepth 100000 in
theorem zw_X11_operand_297 {p : Program} {l : Launch} {e : Env} {s : State} {m : MethodId} {args : Array Value} {below : List Frame} {meth : Method} {c : Code} {A : Nat → Prop} {D : va_G} {a z : Nat → Nat} {cI cL cB cZ : ClassId} {Q : State → Prop} {N : Nat} {res : Int32 × mq_St} (C : mq_C p s m args c A D cI cL cB cZ cX11_operand 5 RX11 zc_X11_operand) (hret : ∀ (H : Heap) (locs : List Loc) (ls : Array Slot) (pc : Nat), decode cX11_operand pc = .ok (.ireturn, 1) → narrow .boolean (.int res.1) = .int res.1 → va_P D vwCl (wd_R a cI cL cB cZ z res.2) H → va_D A (wd_R a cI cL cB cZ z res.2) → va_S A s.heap H locs → W p l e zr_X11_operand s m args below meth c H locs 0 0 Q (F0 m pc ls [.int res.1])) (v1 : Int32) (t1 : Int32) (t2 : Int32) (S : mq_St) (H : Heap) (locs : List Loc) (ls : Array Slot) (h : zf_X11_operand_297 N z v1 t1 t2 S = some res) (hl : lv_has ls 5 [(0, .ref (a 0)), (1, .int (v1))]) (hP : va_P D vwCl (wd_R a cI cL cB cZ z S) H) (hD : va_D A (wd_R a cI cL cB cZ z S)) (hS : va_S A s.heap H locs) : W p l e zr_X11_operand s m args below meth c H locs 0 0 Q (F0 m 297 ls [.int (t2), .int (t1), .ref (a 0)]) := by
  obtain ⟨hx, hb, hml, hown, hts, hK, hA⟩ := id C
  unfold zf_X11_operand_297 at h
  refine lv_iadd hx hb dX11_operand_297 ?_
  refine mq_put (w := wd_R a cI cL cB cZ z) (S := S) (D := D) (ci := 11) (v := (t1 + t2)) (ty := .int) (C := RX11) (T := TX11) (N := 76) hx hb hts (zi_X11 _) tyX11 tyX11_ok nmX11 hown hK hP hD hS 0 rfl rfl 20 (by decide) (hts _ (List.mem_cons_of_mem _ zt_f_X11_175)) (fun _ h9 => h9) rfl (by decide +kernel) rfl rfl (Nat.le_of_ble_eq_true rfl) dX11_operand_298 8 (zs_wd_R_i_0_8 _ _ _ _ _ _ _ _) (fun S46 eS46 H locs hP hD hS => ?_)
  replace h := mq_nS_go eS46 h
  refine lv_aload_n hx hb dX11_operand_301 rfl (lv_at hl 0 rfl) ?_
  refine lv_dup hx hb dX11_operand_302 rfl ?_
  refine va_get (D := D) (ci := 11) (v := .int ((S46.1 16))) (C := RX11) (T := TX11) (N := 76) hx hb hts (zi_X11 _) hown hK hP 0 rfl rfl 30 (by decide) (hts _ (List.mem_cons_of_mem _ zt_f_X11_221)) (fun _ h9 => h9) rfl dX11_operand_303 ?_
  refine lv_iload_n hx hb dX11_operand_306 rfl (lv_at hl 1 rfl) ?_
  refine lv_bipush (v := (40 : Int32)) hx hb dX11_operand_307 (by decide) ?_
  refine lv_icmp_ne (tgt := 316) hx hb dX11_operand_309 (by decide) (fun c47 => ?_) (fun c47 => ?_)
  · replace h := mq_if c47 h
    refine lv_iconst (v := (0 : Int32)) hx hb dX11_operand_316 (by decide) ?_
    exact zw_X11_operand_317 C hret ((S46.1 16)) ((0 : Int32)) S46 H locs ls h (lv_sub hl [] rfl) hP hD hS
  · replace h := mq_it (by simpa using c47) h
    refine lv_iconst (v := (1 : Int32)) hx hb dX11_operand_312 (by decide) ?_
    refine lv_goto (tgt := 317) hx hb dX11_operand_313 (by decide) ?_
    exact zw_X11_operand_317 C hret ((S46.1 16)) ((1 : Int32)) S46 H locs ls h (lv_sub hl [] rfl) hP hD hS
set_option maxHeartbeats 4000000 in
set_option maxRecDepth 100000 in
theorem zw_X11_operand_292 {p : Program} {l : Launch} {e : Env} {s : State} {m : MethodId} {args : Array Value} {below : List Frame} {meth : Method} {c : Code} {A : Nat → Prop} {D : va_G} {a z : Nat → Nat} {cI cL cB cZ : ClassId} {Q : State → Prop} {N : Nat} {res : Int32 × mq_St} (C : mq_C p s m args c A D cI cL cB cZ cX11_operand 5 RX11 zc_X11_operand) (hret : ∀ (H : Heap) (locs : List Loc) (ls : Array Slot) (pc : Nat), decode cX11_operand pc = .ok (.ireturn, 1) → narrow .boolean (.int res.1) = .int res.1 → va_P D vwCl (wd_R a cI cL cB cZ z res.2) H → va_D A (wd_R a cI cL cB cZ z res.2) → va_S A s.heap H locs → W p l e zr_X11_operand s m args below meth c H locs 0 0 Q (F0 m pc ls [.int res.1])) (v1 : Int32) (t1 : Int32) (S : mq_St) (H : Heap) (locs : List Loc) (ls : Array Slot) (h : zf_X11_operand_292 N z v1 t1 S = some res) (hl : lv_has ls 5 [(0, .ref (a 0)), (1, .int (v1))]) (hP : va_P D vwCl (wd_R a cI cL cB cZ z S) H) (hD : va_D A (wd_R a cI cL cB cZ z S)) (hS : va_S A s.heap H locs) : W p l e zr_X11_operand s m args below meth c H locs 0 0 Q (F0 m 292 ls [.int (t1), .ref (a 0)]) := by
  obtain ⟨hx, hb, hml, hown, hts, hK, hA⟩ := id C
  unfold zf_X11_operand_292 at h
  refine lv_iconst (v := (2 : Int32)) hx hb dX11_operand_292 (by decide) ?_
  refine lv_goto (tgt := 297) hx hb dX11_operand_293 (by decide) ?_
  exact zw_X11_operand_297 C hret (v1) (t1) ((2 : Int32)) S H locs ls h (lv_sub hl [0, 1] rfl) hP hD hS
set_option maxHeartbeats 4000000 in
set_option maxRecDepth 100000 in
theorem zw_X11_operand_279 {p : Program} {l : Launch} {e : Env} {s : State} {m : MethodId} {args : Array Value} {below : List Frame} {meth : Method} {c : Code} {A : Nat → Prop} {D : va_G} {a z : Nat → Nat} {cI cL cB cZ : ClassId} {Q : State → Prop} {N : Nat} {res : Int32 × mq_St} (C : mq_C p s m args c A D cI cL cB cZ cX11_operand 5 RX11 zc_X11_operand) (hret : ∀ (H : Heap) (locs : List Loc) (ls : Array Slot) (pc : Nat), decode cX11_operand pc = .ok (.ireturn, 1) → narrow .boolean (.int res.1) = .int res.1 → va_P D vwCl (wd_R a cI cL cB cZ z res.2) H → va_D A (wd_R a cI cL cB cZ z res.2) → va_S A s.heap H locs → W p l e zr_X11_operand s m args below meth c H locs 0 0 Q (F0 m pc ls [.int res.1])) (v1 : Int32) (v2 : Int32) (v3 : Int32) (S : mq_St) (H : Heap) (locs : List Loc) (ls : Array Slot) (h : zf_X11_operand_279 N z v1 v2 v3 S = some res) (hl : lv_has ls 5 [(0, .ref (a 0)), (1, .int (v1)), (2, .int (v2)), (3, .int (v3))]) (hP : va_P D vwCl (wd_R a cI cL cB cZ z S) H) (hD : va_D A (wd_R a cI cL cB cZ z S)) (hS : va_S A s.heap H locs) : W p l e zr_X11_operand s m args below meth c H locs 0 0 Q (F0 m 279 ls []) := by
  obtain ⟨hx, hb, hml, hown, hts, hK, hA⟩ := id C
  unfold zf_X11_operand_279 at h
  refine lv_aload_n hx hb dX11_operand_279 rfl (lv_at hl 0 rfl) ?_
  refine lv_dup hx hb dX11_operand_280 rfl ?_
  refine va_get (D := D) (ci := 11) (v := .int ((S.1 8))) (C := RX11) (T := TX11) (N := 76) hx hb hts (zi_X11 _) hown hK hP 0 rfl rfl 20 (by decide) (hts _ (List.mem_cons_of_mem _ zt_f_X11_175)) (fun _ h9 => h9) rfl dX11_operand_281 ?_
  refine lv_iload_n hx hb dX11_operand_284 rfl (lv_at hl 2 rfl) ?_
  refine lv_if_ne (tgt := 292) hx hb dX11_operand_285 (by decide) (fun c45 => ?_) (fun c45 => ?_)
  · replace h := mq_if c45 h
    exact zw_X11_operand_292 C hret (v1) ((S.1 8)) S H locs ls h (lv_sub hl [0, 1] rfl) hP hD hS
  · replace h := mq_it (by simpa using c45) h
    refine lv_iload_n hx hb dX11_operand_288 rfl (lv_at hl 3 rfl) ?_
    refine lv_if_eq (tgt := 296) hx hb dX11_operand_289 (by decide) (fun c44 => ?_) (fun c44 => ?_)
    · replace h := mq_it c44 h
      refine lv_iconst (v := (1 : Int32)) hx hb dX11_operand_296 (by decide) ?_
      exact zw_X11_operand_297 C hret (v1) ((S.1 8)) ((1 : Int32)) S H locs ls h (lv_sub hl [0, 1] rfl) hP hD hS
    · replace h := mq_if c44 h
      exact zw_X11_operand_292 C hret (v1) ((S.1 8)) S H locs ls h (lv_sub hl [0, 1] rfl) hP hD hS
set_option maxHeartbeats 4000000 in
set_option maxRecDepth 100000 in
theorem zw_X11_operand_272 {p : Program} {l : Launch} {e : Env} {s : State} {m : MethodId} {args : Array Value} {below : List Frame} {meth : Method} {c : Code} {A : Nat → Prop} {D : va_G} {a z : Nat → Nat} {cI cL cB cZ : ClassId} {Q : State → Prop} {N : Nat} {res : Int32 × mq_St} (C : mq_C p s m args c A D cI cL cB cZ cX11_operand 5 RX11 zc_X11_operand) (hret : ∀ (H : Heap) (locs : List Loc) (ls : Array Slot) (pc : Nat), decode cX11_operand pc = .ok (.ireturn, 1) → narrow .boolean (.int res.1) = .int res.1 → va_P D vwCl (wd_R a cI cL cB cZ z res.2) H → va_D A (wd_R a cI cL cB cZ z res.2) → va_S A s.heap H locs → W p l e zr_X11_operand s m args below meth c H locs 0 0 Q (F0 m pc ls [.int res.1])) (v1 : Int32) (v2 : Int32) (v3 : Int32) (S : mq_St) (H : Heap) (locs : List Loc) (ls : Array Slot) (h : zf_X11_operand_272 N z v1 v2 v3 S = some res) (hl : lv_has ls 5 [(0, .ref (a 0)), (1, .int (v1)), (2, .int (v2)), (3, .int (v3))]) (hP : va_P D vwCl (wd_R a cI cL cB cZ z S) H) (hD : va_D A (wd_R a cI cL cB cZ z S)) (hS : va_S A s.heap H locs) : W p l e zr_X11_operand s m args below meth c H locs 0 0 Q (F0 m 272 ls []) := by
  obtain ⟨hx, hb, hml, hown, hts, hK, hA⟩ := id C
  unfold zf_X11_operand_272 at h
  refine lv_aload_n hx hb dX11_operand_272 rfl (lv_at hl 0 rfl) ?_
  refine lv_iconst (v := (3 : Int32)) hx hb dX11_operand_273 (by decide) ?_
  obtain ⟨q40, hc41, h⟩ := mq_cl_go h
  refine zk_X11_wrong C zt_m_X11_207 ⟨by decide, by decide⟩ hc41 hP hD hS hl.1 (Nat.le_of_ble_eq_true rfl) dX11_operand_274 (fun H locs hP hD hS => ?_)
  obtain ⟨S42, eS42⟩ : ∃ y, y = q40.2 := ⟨_, rfl⟩
  rw [← eS42] at hP hD h
  refine lv_topi (fun x43 ex43 => ?_)
  replace h := mq_nI_go ex43 h
  refine lv_istore (lv' := [(4, .int (x43)), (0, .ref (a 0)), (1, .int (v1)), (2, .int (v2)), (3, .int (v3))]) hx hb dX11_operand_277 hl (by decide) rfl (fun ls hl => ?_)
  exact zw_X11_operand_279 C hret (v1) (v2) (v3) S42 H locs ls h (lv_sub hl [1, 2, 3, 4] rfl) hP hD hS
set_option maxHeartbeats 4000000 in
set_option maxRecDepth 100000 in
theorem zw_X11_operand_251 {p : Program} {l : Launch} {e : Env} {s : State} {m : MethodId} {args : Array Value} {below : List Frame} {meth : Method} {c : Code} {A : Nat → Prop} {D : va_G} {a z : Nat → Nat} {cI cL cB cZ : ClassId} {Q : State → Prop} {N : Nat} {res : Int32 × mq_St} (C : mq_C p s m args c A D cI cL cB cZ cX11_operand 5 RX11 zc_X11_operand) (hret : ∀ (H : Heap) (locs : List Loc) (ls : Array Slot) (pc : Nat), decode cX11_operand pc = .ok (.ireturn, 1) → narrow .boolean (.int res.1) = .int res.1 → va_P D vwCl (wd_R a cI cL cB cZ z res.2) H → va_D A (wd_R a cI cL cB cZ z res.2) → va_S A s.heap H locs → W p l e zr_X11_operand s m args below meth c H locs 0 0 Q (F0 m pc ls [.int res.1])) (v1 : Int32) (v2 : Int32) (v3 : Int32) (t1 : Int32) (S : mq_St) (H : Heap) (locs : List Loc) (ls : Array Slot) (h : zf_X11_operand_251 N z v1 v2 v3 t1 S = some res) (hl : lv_has ls 5 [(0, .ref (a 0)), (1, .int (v1)), (2, .int (v2)), (3, .int (v3))]) (hP : va_P D vwCl (wd_R a cI cL cB cZ z S) H) (hD : va_D A (wd_R a cI cL cB cZ z S)) (hS : va_S A s.heap H locs) : W p l e zr_X11_operand s m args below meth c H locs 0 0 Q (F0 m 251 ls [.int (t1), .ref (a 0)]) := by
  obtain ⟨hx, hb, hml, hown, hts, hK, hA⟩ := id C
  unfold zf_X11_operand_251 at h
  obtain ⟨q32, hc33, h⟩ := mq_cl_go h
  refine zk_X11_opens C zt_m_X11_217 ⟨by decide, by decide⟩ hc33 hP hD hS hl.1 (Nat.le_of_ble_eq_true rfl) dX11_operand_251 (fun H locs hP hD hS => ?_)
  obtain ⟨S34, eS34⟩ : ∃ y, y = q32.2 := ⟨_, rfl⟩
  rw [← eS34] at hP hD h
  refine lv_if_eq (tgt := 321) hx hb dX11_operand_254 (by decide) (fun c39 => ?_) (fun c39 => ?_)
  · replace h := mq_it c39 h
    refine lv_iconst (v := (0 : Int32)) hx hb dX11_operand_321 (by decide) ?_
    have hz35 := mq_cz_in h
    replace h := mq_cz_go h
    cases h
    exact hret H locs ls 322 dX11_operand_322 hz35.1 hP hD hS
  · replace h := mq_if c39 h
    refine lv_aload_n hx hb dX11_operand_257 rfl (lv_at hl 0 rfl) ?_
    refine va_get (D := D) (ci := 11) (v := .int ((S34.1 13))) (C := RX11) (T := TX11) (N := 76) hx hb hts (zi_X11 _) hown hK hP 0 rfl rfl 25 (by decide) (hts _ (List.mem_cons_of_mem _ zt_f_X11_187)) (fun _ h9 => h9) rfl dX11_operand_258 ?_
    refine lv_if_ne (tgt := 279) hx hb dX11_operand_261 (by decide) (fun c38 => ?_) (fun c38 => ?_)
    · replace h := mq_if c38 h
      exact zw_X11_operand_279 C hret (v1) (v2) (v3) S34 H locs ls h (lv_sub hl [0, 1, 2, 3] rfl) hP hD hS
    · replace h := mq_it (by simpa using c38) h
      refine lv_iload_n hx hb dX11_operand_264 rfl (lv_at hl 2 rfl) ?_
      refine lv_if_ne (tgt := 272) hx hb dX11_operand_265 (by decide) (fun c37 => ?_) (fun c37 => ?_)
      · replace h := mq_if c37 h
        exact zw_X11_operand_272 C hret (v1) (v2) (v3) S34 H locs ls h (lv_sub hl [0, 1, 2, 3] rfl) hP hD hS
      · replace h := mq_it (by simpa using c37) h
        refine lv_iload_n hx hb dX11_operand_268 rfl (lv_at hl 3 rfl) ?_
        refine lv_if_eq (tgt := 279) hx hb dX11_operand_269 (by decide) (fun c36 => ?_) (fun c36 => ?_)
        · replace h := mq_it c36 h
          exact zw_X11_operand_279 C hret (v1) (v2) (v3) S34 H locs ls h (lv_sub hl [0, 1, 2, 3] rfl) hP hD hS
        · replace h := mq_if c36 h
          exact zw_X11_operand_272 C hret (v1) (v2) (v3) S34 H locs ls h (lv_sub hl [0, 1, 2, 3] rfl) hP hD hS
set_option maxHeartbeats 4000000 in
set_option maxRecDepth 100000 in
theorem zw_X11_operand_221 {p : Program} {l : Launch} {e : Env} {s : State} {m : MethodId} {args : Array Value} {below : List Frame} {meth : Method} {c : Code} {A : Nat → Prop} {D : va_G} {a z : Nat → Nat} {cI cL cB cZ : ClassId} {Q : State → Prop} {N : Nat} {res : Int32 × mq_St} (C : mq_C p s m args c A D cI cL cB cZ cX11_operand 5 RX11 zc_X11_operand) (hret : ∀ (H : Heap) (locs : List Loc) (ls : Array Slot) (pc : Nat), decode cX11_operand pc = .ok (.ireturn, 1) → narrow .boolean (.int res.1) = .int res.1 → va_P D vwCl (wd_R a cI cL cB cZ z res.2) H → va_D A (wd_R a cI cL cB cZ z res.2) → va_S A s.heap H locs → W p l e zr_X11_operand s m args below meth c H locs 0 0 Q (F0 m pc ls [.int res.1])) (v1 : Int32) (v2 : Int32) (v3 : Int32) (S : mq_St) (H : Heap) (locs : List Loc) (ls : Array Slot) (h : zf_X11_operand_221 N z v1 v2 v3 S = some res) (hl : lv_has ls 5 [(0, .ref (a 0)), (1, .int (v1)), (2, .int (v2)), (3, .int (v3))]) (hP : va_P D vwCl (wd_R a cI cL cB cZ z S) H) (hD : va_D A (wd_R a cI cL cB cZ z S)) (hS : va_S A s.heap H locs) : W p l e zr_X11_operand s m args below meth c H locs 0 0 Q (F0 m 221 ls []) := by
  obtain ⟨hx, hb, hml, hown, hts, hK, hA⟩ := id C
  unfold zf_X11_operand_221 at h
  refine lv_aload_n hx hb dX11_operand_221 rfl (lv_at hl 0 rfl) ?_
  refine lv_iload_n hx hb dX11_operand_222 rfl (lv_at hl 1 rfl) ?_
  refine lv_bipush (v := (40 : Int32)) hx hb dX11_operand_223 (by decide) ?_
  refine lv_icmp_ne (tgt := 232) hx hb dX11_operand_225 (by decide) (fun c31 => ?_) (fun c31 => ?_)
  · replace h := mq_if c31 h
    refine lv_iload_n hx hb dX11_operand_232 rfl (lv_at hl 1 rfl) ?_
    refine lv_bipush (v := (33 : Int32)) hx hb dX11_operand_233 (by decide) ?_
    refine lv_icmp_ne (tgt := 242) hx hb dX11_operand_235 (by decide) (fun c30 => ?_) (fun c30 => ?_)
    · replace h := mq_if c30 h
      refine lv_iload_n hx hb dX11_operand_242 rfl (lv_at hl 2 rfl) ?_
      refine lv_if_eq (tgt := 250) hx hb dX11_operand_243 (by decide) (fun c29 => ?_) (fun c29 => ?_)
      · replace h := mq_it c29 h
        refine lv_iconst (v := (3 : Int32)) hx hb dX11_operand_250 (by decide) ?_
        exact zw_X11_operand_251 C hret (v1) (v2) (v3) ((3 : Int32)) S H locs ls h (lv_sub hl [0, 1, 2, 3] rfl) hP hD hS
      · replace h := mq_if c29 h
        refine lv_iconst (v := (2 : Int32)) hx hb dX11_operand_246 (by decide) ?_
        refine lv_goto (tgt := 251) hx hb dX11_operand_247 (by decide) ?_
        exact zw_X11_operand_251 C hret (v1) (v2) (v3) ((2 : Int32)) S H locs ls h (lv_sub hl [0, 1, 2, 3] rfl) hP hD hS
    · replace h := mq_it (by simpa using c30) h
      refine lv_iconst (v := (1 : Int32)) hx hb dX11_operand_238 (by decide) ?_
      refine lv_goto (tgt := 251) hx hb dX11_operand_239 (by decide) ?_
      exact zw_X11_operand_251 C hret (v1) (v2) (v3) ((1 : Int32)) S H locs ls h (lv_sub hl [0, 1, 2, 3] rfl) hP hD hS
  · replace h := mq_it (by simpa using c31) h
    refine lv_iconst (v := (0 : Int32)) hx hb dX11_operand_228 (by decide) ?_
    refine lv_goto (tgt := 251) hx hb dX11_operand_229 (by decide) ?_
    exact zw_X11_operand_251 C hret (v1) (v2) (v3) ((0 : Int32)) S H locs ls h (lv_sub hl [0, 1, 2, 3] rfl) hP hD hS
set_option maxHeartbeats 4000000 in
set_option maxRecDepth 100000 in
theorem zw_X11_operand_190 {p : Program} {l : Launch} {e : Env} {s : State} {m : MethodId} {args : Array Value} {below : List Frame} {meth : Method} {c : Code} {A : Nat → Prop} {D : va_G} {a z : Nat → Nat} {cI cL cB cZ : ClassId} {Q : State → Prop} {N : Nat} {res : Int32 × mq_St} (C : mq_C p s m args c A D cI cL cB cZ cX11_operand 5 RX11 zc_X11_operand) (hret : ∀ (H : Heap) (locs : List Loc) (ls : Array Slot) (pc : Nat), decode cX11_operand pc = .ok (.ireturn, 1) → narrow .boolean (.int res.1) = .int res.1 → va_P D vwCl (wd_R a cI cL cB cZ z res.2) H → va_D A (wd_R a cI cL cB cZ z res.2) → va_S A s.heap H locs → W p l e zr_X11_operand s m args below meth c H locs 0 0 Q (F0 m pc ls [.int res.1])) (v1 : Int32) (v2 : Int32) (t0 : Int32) (S : mq_St) (H : Heap) (locs : List Loc) (ls : Array Slot) (h : zf_X11_operand_190 N z v1 v2 t0 S = some res) (hl : lv_has ls 5 [(0, .ref (a 0)), (1, .int (v1)), (2, .int (v2))]) (hP : va_P D vwCl (wd_R a cI cL cB cZ z S) H) (hD : va_D A (wd_R a cI cL cB cZ z S)) (hS : va_S A s.heap H locs) : W p l e zr_X11_operand s m args below meth c H locs 0 0 Q (F0 m 190 ls [.int (t0)]) := by
  obtain ⟨hx, hb, hml, hown, hts, hK, hA⟩ := id C
  unfold zf_X11_operand_190 at h
  refine lv_topi (fun x19 ex19 => ?_)
  replace h := mq_nI_go ex19 h
  refine lv_istore_n (lv' := [(3, .int (x19)), (0, .ref (a 0)), (1, .int (v1)), (2, .int (v2))]) hx hb dX11_operand_190 rfl hl (by decide) rfl (fun ls hl => ?_)
  refine lv_iload_n hx hb dX11_operand_191 rfl (lv_at hl 2 rfl) ?_
  refine lv_bipush (v := (40 : Int32)) hx hb dX11_operand_192 (by decide) ?_
  refine lv_icmp_eq (tgt := 221) hx hb dX11_operand_194 (by decide) (fun c28 => ?_) (fun c28 => ?_)
  · replace h := mq_it c28 h
    exact zw_X11_operand_221 C hret (v1) (v2) (x19) S H locs ls h (lv_sub hl [1, 2, 3, 0] rfl) hP hD hS
  · replace h := mq_if c28 h
    refine lv_iload_n hx hb dX11_operand_197 rfl (lv_at hl 2 rfl) ?_
    refine lv_bipush (v := (33 : Int32)) hx hb dX11_operand_198 (by decide) ?_
    refine lv_icmp_eq (tgt := 221) hx hb dX11_operand_200 (by decide) (fun c27 => ?_) (fun c27 => ?_)
    · replace h := mq_it c27 h
      exact zw_X11_operand_221 C hret (v1) (v2) (x19) S H locs ls h (lv_sub hl [1, 2, 3, 0] rfl) hP hD hS
    · replace h := mq_if c27 h
      refine lv_iload_n hx hb dX11_operand_203 rfl (lv_at hl 3 rfl) ?_
      refine lv_if_ne (tgt := 221) hx hb dX11_operand_204 (by decide) (fun c26 => ?_) (fun c26 => ?_)
      · replace h := mq_if c26 h
        exact zw_X11_operand_221 C hret (v1) (v2) (x19) S H locs ls h (lv_sub hl [1, 2, 3, 0] rfl) hP hD hS
      · replace h := mq_it (by simpa using c26) h
        refine lv_iload_n hx hb dX11_operand_207 rfl (lv_at hl 0 rfl) ?_
        refine lv_if_ne (tgt := 221) hx hb dX11_operand_208 (by decide) (fun c25 => ?_) (fun c25 => ?_)
        · replace h := mq_if c25 h
          exact zw_X11_operand_221 C hret (v1) (v2) (x19) S H locs ls h (lv_sub hl [1, 2, 3, 0] rfl) hP hD hS
        · replace h := mq_it (by simpa using c25) h
          refine lv_aload_n hx hb dX11_operand_211 rfl (lv_at hl 1 rfl) ?_
          refine lv_iconst (v := (1 : Int32)) hx hb dX11_operand_212 (by decide) ?_
          obtain ⟨q20, hc21, h⟩ := mq_cl_go h
          refine zk_X11_wrong C zt_m_X11_207 ⟨by decide, by decide⟩ hc21 hP hD hS hl.1 (Nat.le_of_ble_eq_true rfl) dX11_operand_213 (fun H locs hP hD hS => ?_)
          obtain ⟨S22, eS22⟩ : ∃ y, y = q20.2 := ⟨_, rfl⟩
          rw [← eS22] at hP hD h
          refine lv_topi (fun x23 ex23 => ?_)
          replace h := mq_nI_go ex23 h
          refine lv_istore (lv' := [(4, .int (x23)), (3, .int (x19)), (0, .ref (a 0)), (1, .int (v1)), (2, .int (v2))]) hx hb dX11_operand_216 hl (by decide) rfl (fun ls hl => ?_)
          refine lv_goto (tgt := 321) hx hb dX11_operand_218 (by decide) ?_
          refine lv_iconst (v := (0 : Int32)) hx hb dX11_operand_321 (by decide) ?_
          have hz24 := mq_cz_in h
          replace h := mq_cz_go h
          cases h
          exact hret H locs ls 322 dX11_operand_322 hz24.1 hP hD hS
set_option maxHeartbeats 4000000 in
set_option maxRecDepth 100000 in
theorem zw_X11_operand_189 {p : Program} {l : Launch} {e : Env} {s : State} {m : MethodId} {args : Array Value} {below : List Frame} {meth : Method} {c : Code} {A : Nat → Prop} {D : va_G} {a z : Nat → Nat} {cI cL cB cZ : ClassId} {Q : State → Prop} {N : Nat} {res : Int32 × mq_St} (C : mq_C p s m args c A D cI cL cB cZ cX11_operand 5 RX11 zc_X11_operand) (hret : ∀ (H : Heap) (locs : List Loc) (ls : Array Slot) (pc : Nat), decode cX11_operand pc = .ok (.ireturn, 1) → narrow .boolean (.int res.1) = .int res.1 → va_P D vwCl (wd_R a cI cL cB cZ z res.2) H → va_D A (wd_R a cI cL cB cZ z res.2) → va_S A s.heap H locs → W p l e zr_X11_operand s m args below meth c H locs 0 0 Q (F0 m pc ls [.int res.1])) (v1 : Int32) (v2 : Int32) (S : mq_St) (H : Heap) (locs : List Loc) (ls : Array Slot) (h : zf_X11_operand_189 N z v1 v2 S = some res) (hl : lv_has ls 5 [(0, .ref (a 0)), (1, .int (v1)), (2, .int (v2))]) (hP : va_P D vwCl (wd_R a cI cL cB cZ z S) H) (hD : va_D A (wd_R a cI cL cB cZ z S)) (hS : va_S A s.heap H locs) : W p l e zr_X11_operand s m args below meth c H locs 0 0 Q (F0 m 189 ls []) := by
  obtain ⟨hx, hb, hml, hown, hts, hK, hA⟩ := id C
  unfold zf_X11_operand_189 at h
  refine lv_iconst (v := (0 : Int32)) hx hb dX11_operand_189 (by decide) ?_
  exact zw_X11_operand_190 C hret (v1) (v2) ((0 : Int32)) S H locs ls h (lv_sub hl [0, 1, 2] rfl) hP hD hS
set_option maxHeartbeats 4000000 in
set_option maxRecDepth 100000 in
theorem zw_X11_operand_149 {p : Program} {l : Launch} {e : Env} {s : State} {m : MethodId} {args : Array Value} {below : List Frame} {meth : Method} {c : Code} {A : Nat → Prop} {D : va_G} {a z : Nat → Nat} {cI cL cB cZ : ClassId} {Q : State → Prop} {N : Nat} {res : Int32 × mq_St} (C : mq_C p s m args c A D cI cL cB cZ cX11_operand 5 RX11 zc_X11_operand) (hret : ∀ (H : Heap) (locs : List Loc) (ls : Array Slot) (pc : Nat), decode cX11_operand pc = .ok (.ireturn, 1) → narrow .boolean (.int res.1) = .int res.1 → va_P D vwCl (wd_R a cI cL cB cZ z res.2) H → va_D A (wd_R a cI cL cB cZ z res.2) → va_S A s.heap H locs → W p l e zr_X11_operand s m args below meth c H locs 0 0 Q (F0 m pc ls [.int res.1])) (v1 : Int32) (t0 : Int32) (S : mq_St) (H : Heap) (locs : List Loc) (ls : Array Slot) (h : zf_X11_operand_149 N z v1 t0 S = some res) (hl : lv_has ls 5 [(0, .ref (a 0)), (1, .int (v1))]) (hP : va_P D vwCl (wd_R a cI cL cB cZ z S) H) (hD : va_D A (wd_R a cI cL cB cZ z S)) (hS : va_S A s.heap H locs) : W p l e zr_X11_operand s m args below meth c H locs 0 0 Q (F0 m 149 ls [.int (t0)]) := by
  obtain ⟨hx, hb, hml, hown, hts, hK, hA⟩ := id C
  unfold zf_X11_operand_149 at h
  refine lv_topi (fun x14 ex14 => ?_)
  replace h := mq_nI_go ex14 h
  refine lv_istore_n (lv' := [(2, .int (x14)), (0, .ref (a 0)), (1, .int (v1))]) hx hb dX11_operand_149 rfl hl (by decide) rfl (fun ls hl => ?_)
  refine lv_iload_n hx hb dX11_operand_150 rfl (lv_at hl 2 rfl) ?_
  refine lv_bipush (v := (60 : Int32)) hx hb dX11_operand_151 (by decide) ?_
  refine lv_icmp_ne (tgt := 189) hx hb dX11_operand_153 (by decide) (fun c18 => ?_) (fun c18 => ?_)
  · replace h := mq_if c18 h
    exact zw_X11_operand_189 C hret (v1) (x14) S H locs ls h (lv_sub hl [1, 2, 0] rfl) hP hD hS
  · replace h := mq_it (by simpa using c18) h
    refine lv_aload_n hx hb dX11_operand_156 rfl (lv_at hl 1 rfl) ?_
    refine va_get (D := D) (ci := 11) (v := .int ((S.1 8))) (C := RX11) (T := TX11) (N := 76) hx hb hts (zi_X11 _) hown hK hP 0 rfl rfl 20 (by decide) (hts _ (List.mem_cons_of_mem _ zt_f_X11_175)) (fun _ h9 => h9) rfl dX11_operand_157 ?_
    refine lv_iconst (v := (1 : Int32)) hx hb dX11_operand_160 (by decide) ?_
    refine lv_iadd hx hb dX11_operand_161 ?_
    refine lv_aload_n hx hb dX11_operand_162 rfl (lv_at hl 1 rfl) ?_
    refine va_get (D := D) (ci := 11) (v := .int ((S.1 9))) (C := RX11) (T := TX11) (N := 76) hx hb hts (zi_X11 _) hown hK hP 0 rfl rfl 21 (by decide) (hts _ (List.mem_cons_of_mem _ zt_f_X11_178)) (fun _ h9 => h9) rfl dX11_operand_163 ?_
    refine lv_icmp_ge (tgt := 189) hx hb dX11_operand_166 (by decide) (fun c17 => ?_) (fun c17 => ?_)
    · replace h := mq_it c17 h
      exact zw_X11_operand_189 C hret (v1) (x14) S H locs ls h (lv_sub hl [1, 2, 0] rfl) hP hD hS
    · replace h := mq_if c17 h
      refine lv_aload_n hx hb dX11_operand_169 rfl (lv_at hl 1 rfl) ?_
      refine va_get (D := D) (ci := 11) (v := .ref (a 1)) (C := RX11) (T := TX11) (N := 76) hx hb hts (zi_X11 _) hown hK hP 0 rfl rfl 1 (by decide) (hts _ (List.mem_cons_of_mem _ zt_f_X11_7)) (fun _ h9 => h9) rfl dX11_operand_170 ?_
      refine lv_aload_n hx hb dX11_operand_173 rfl (lv_at hl 1 rfl) ?_
      refine va_get (D := D) (ci := 11) (v := .int ((S.1 8))) (C := RX11) (T := TX11) (N := 76) hx hb hts (zi_X11 _) hown hK hP 0 rfl rfl 20 (by decide) (hts _ (List.mem_cons_of_mem _ zt_f_X11_175)) (fun _ h9 => h9) rfl dX11_operand_174 ?_
      refine lv_iconst (v := (1 : Int32)) hx hb dX11_operand_177 (by decide) ?_
      refine lv_iadd hx hb dX11_operand_178 ?_
      have hi15 := mq_ck_in h
      replace h := mq_ck_go h
      refine va_bald (f := S.2.1 0) hx hb hK hP 1 2 rfl rfl hi15 dX11_operand_179 ?_
      refine lv_bipush (v := (62 : Int32)) hx hb dX11_operand_180 (by decide) ?_
      refine lv_icmp_ne (tgt := 189) hx hb dX11_operand_182 (by decide) (fun c16 => ?_) (fun c16 => ?_)
      · replace h := mq_if c16 h
        exact zw_X11_operand_189 C hret (v1) (x14) S H locs ls h (lv_sub hl [1, 2, 0] rfl) hP hD hS
      · replace h := mq_it (by simpa using c16) h
        refine lv_iconst (v := (1 : Int32)) hx hb dX11_operand_185 (by decide) ?_
        refine lv_goto (tgt := 190) hx hb dX11_operand_186 (by decide) ?_
        exact zw_X11_operand_190 C hret (v1) (x14) ((1 : Int32)) S H locs ls h (lv_sub hl [1, 2, 0] rfl) hP hD hS
set_option maxHeartbeats 4000000 in
set_option maxRecDepth 100000 in
theorem zw_X11_operand_148 {p : Program} {l : Launch} {e : Env} {s : State} {m : MethodId} {args : Array Value} {below : List Frame} {meth : Method} {c : Code} {A : Nat → Prop} {D : va_G} {a z : Nat → Nat} {cI cL cB cZ : ClassId} {Q : State → Prop} {N : Nat} {res : Int32 × mq_St} (C : mq_C p s m args c A D cI cL cB cZ cX11_operand 5 RX11 zc_X11_operand) (hret : ∀ (H : Heap) (locs : List Loc) (ls : Array Slot) (pc : Nat), decode cX11_operand pc = .ok (.ireturn, 1) → narrow .boolean (.int res.1) = .int res.1 → va_P D vwCl (wd_R a cI cL cB cZ z res.2) H → va_D A (wd_R a cI cL cB cZ z res.2) → va_S A s.heap H locs → W p l e zr_X11_operand s m args below meth c H locs 0 0 Q (F0 m pc ls [.int res.1])) (v1 : Int32) (S : mq_St) (H : Heap) (locs : List Loc) (ls : Array Slot) (h : zf_X11_operand_148 N z v1 S = some res) (hl : lv_has ls 5 [(0, .ref (a 0)), (1, .int (v1))]) (hP : va_P D vwCl (wd_R a cI cL cB cZ z S) H) (hD : va_D A (wd_R a cI cL cB cZ z S)) (hS : va_S A s.heap H locs) : W p l e zr_X11_operand s m args below meth c H locs 0 0 Q (F0 m 148 ls []) := by
  obtain ⟨hx, hb, hml, hown, hts, hK, hA⟩ := id C
  unfold zf_X11_operand_148 at h
  refine lv_iconst (v := (0 : Int32)) hx hb dX11_operand_148 (by decide) ?_
  exact zw_X11_operand_149 C hret (v1) ((0 : Int32)) S H locs ls h (lv_sub hl [0, 1] rfl) hP hD hS
set_option maxHeartbeats 4000000 in
set_option maxRecDepth 100000 in
theorem zw_X11_operand_0 {p : Program} {l : Launch} {e : Env} {s : State} {m : MethodId} {args : Array Value} {below : List Frame} {meth : Method} {c : Code} {A : Nat → Prop} {D : va_G} {a z : Nat → Nat} {cI cL cB cZ : ClassId} {Q : State → Prop} {N : Nat} {res : Int32 × mq_St} (C : mq_C p s m args c A D cI cL cB cZ cX11_operand 5 RX11 zc_X11_operand) (hret : ∀ (H : Heap) (locs : List Loc) (ls : Array Slot) (pc : Nat), decode cX11_operand pc = .ok (.ireturn, 1) → narrow .boolean (.int res.1) = .int res.1 → va_P D vwCl (wd_R a cI cL cB cZ z res.2) H → va_D A (wd_R a cI cL cB cZ z res.2) → va_S A s.heap H locs → W p l e zr_X11_operand s m args below meth c H locs 0 0 Q (F0 m pc ls [.int res.1])) (S : mq_St) (H : Heap) (locs : List Loc) (ls : Array Slot) (h : zf_X11_operand N z S = some res) (hl : lv_has ls 5 [(0, .ref (a 0))]) (hP : va_P D vwCl (wd_R a cI cL cB cZ z S) H) (hD : va_D A (wd_R a cI cL cB cZ z S)) (hS : va_S A s.heap H locs) : W p l e zr_X11_operand s m args below meth c H locs 0 0 Q (F0 m 0 ls []) := by
  obtain ⟨hx, hb, hml, hown, hts, hK, hA⟩ := id C
  unfold zf_X11_operand at h
  refine lv_aload_n hx hb dX11_operand_0 rfl (lv_at hl 0 rfl) ?_
  obtain ⟨q1, hc2, h⟩ := mq_cl_go h
  refine zk_X11_see C zt_m_X11_210 ⟨by decide, by decide⟩ hc2 hP hD hS hl.1 (Nat.le_of_ble_eq_true rfl) dX11_operand_1 (fun H locs hP hD hS => ?_)
  obtain ⟨S3, eS3⟩ : ∃ y, y = q1.2 := ⟨_, rfl⟩
  rw [← eS3] at hP hD h
  refine lv_topi (fun x4 ex4 => ?_)
  replace h := mq_nI_go ex4 h
  refine lv_istore_n (lv' := [(1, .int (x4)), (0, .ref (a 0))]) hx hb dX11_operand_4 rfl hl (by decide) rfl (fun ls hl => ?_)
  refine lv_iload_n hx hb dX11_operand_5 rfl (lv_at hl 0 rfl) ?_
  refine lv_bipush (v := (97 : Int32)) hx hb dX11_operand_6 (by decide) ?_
  refine lv_bipush (v := (122 : Int32)) hx hb dX11_operand_8 (by decide) ?_
  obtain ⟨q5, hc6, h⟩ := mq_cp_go h
  refine zv_X11_in (a := mq_ad a []) (z := z) [] C zt_m_X11_161 ⟨by decide, by decide⟩ hc6 rfl (by decide) hP hD hS hl.1 (Nat.le_of_ble_eq_true rfl) dX11_operand_10 (fun H locs hP hD hS => ?_)
  refine lv_if_ne (tgt := 28) hx hb dX11_operand_13 (by decide) (fun c13 => ?_) (fun c13 => ?_)
  · replace h := mq_if c13 h
    exact zw_X11_operand_28 C hret (x4) S3 H locs ls h (lv_sub hl [1, 0] rfl) hP hD hS
  · replace h := mq_it (by simpa using c13) h
    refine lv_iload_n hx hb dX11_operand_16 rfl (lv_at hl 0 rfl) ?_
    refine lv_bipush (v := (84 : Int32)) hx hb dX11_operand_17 (by decide) ?_
    refine lv_icmp_eq (tgt := 28) hx hb dX11_operand_19 (by decide) (fun c12 => ?_) (fun c12 => ?_)
    · replace h := mq_it c12 h
      exact zw_X11_operand_28 C hret (x4) S3 H locs ls h (lv_sub hl [1, 0] rfl) hP hD hS
    · replace h := mq_if c12 h
      refine lv_iload_n hx hb dX11_operand_22 rfl (lv_at hl 0 rfl) ?_
      refine lv_bipush (v := (70 : Int32)) hx hb dX11_operand_23 (by decide) ?_
      refine lv_icmp_ne (tgt := 109) hx hb dX11_operand_25 (by decide) (fun c11 => ?_) (fun c11 => ?_)
      · replace h := mq_if c11 h
        refine lv_iload_n hx hb dX11_operand_109 rfl (lv_at hl 0 rfl) ?_
        refine lv_bipush (v := (91 : Int32)) hx hb dX11_operand_110 (by decide) ?_
        refine lv_icmp_ne (tgt := 148) hx hb dX11_operand_112 (by decide) (fun c10 => ?_) (fun c10 => ?_)
        · replace h := mq_if c10 h
          exact zw_X11_operand_148 C hret (x4) S3 H locs ls h (lv_sub hl [1, 0] rfl) hP hD hS
        · replace h := mq_it (by simpa using c10) h
          refine lv_aload_n hx hb dX11_operand_115 rfl (lv_at hl 1 rfl) ?_
          refine va_get (D := D) (ci := 11) (v := .int ((S3.1 8))) (C := RX11) (T := TX11) (N := 76) hx hb hts (zi_X11 _) hown hK hP 0 rfl rfl 20 (by decide) (hts _ (List.mem_cons_of_mem _ zt_f_X11_175)) (fun _ h9 => h9) rfl dX11_operand_116 ?_
          refine lv_iconst (v := (1 : Int32)) hx hb dX11_operand_119 (by decide) ?_
          refine lv_iadd hx hb dX11_operand_120 ?_
          refine lv_aload_n hx hb dX11_operand_121 rfl (lv_at hl 1 rfl) ?_
          refine va_get (D := D) (ci := 11) (v := .int ((S3.1 9))) (C := RX11) (T := TX11) (N := 76) hx hb hts (zi_X11 _) hown hK hP 0 rfl rfl 21 (by decide) (hts _ (List.mem_cons_of_mem _ zt_f_X11_178)) (fun _ h9 => h9) rfl dX11_operand_122 ?_
          refine lv_icmp_ge (tgt := 148) hx hb dX11_operand_125 (by decide) (fun c9 => ?_) (fun c9 => ?_)
          · replace h := mq_it c9 h
            exact zw_X11_operand_148 C hret (x4) S3 H locs ls h (lv_sub hl [1, 0] rfl) hP hD hS
          · replace h := mq_if c9 h
            refine lv_aload_n hx hb dX11_operand_128 rfl (lv_at hl 1 rfl) ?_
            refine va_get (D := D) (ci := 11) (v := .ref (a 1)) (C := RX11) (T := TX11) (N := 76) hx hb hts (zi_X11 _) hown hK hP 0 rfl rfl 1 (by decide) (hts _ (List.mem_cons_of_mem _ zt_f_X11_7)) (fun _ h9 => h9) rfl dX11_operand_129 ?_
            refine lv_aload_n hx hb dX11_operand_132 rfl (lv_at hl 1 rfl) ?_
            refine va_get (D := D) (ci := 11) (v := .int ((S3.1 8))) (C := RX11) (T := TX11) (N := 76) hx hb hts (zi_X11 _) hown hK hP 0 rfl rfl 20 (by decide) (hts _ (List.mem_cons_of_mem _ zt_f_X11_175)) (fun _ h9 => h9) rfl dX11_operand_133 ?_
            refine lv_iconst (v := (1 : Int32)) hx hb dX11_operand_136 (by decide) ?_
            refine lv_iadd hx hb dX11_operand_137 ?_
            have hi7 := mq_ck_in h
            replace h := mq_ck_go h
            refine va_bald (f := S3.2.1 0) hx hb hK hP 1 2 rfl rfl hi7 dX11_operand_138 ?_
            refine lv_bipush (v := (93 : Int32)) hx hb dX11_operand_139 (by decide) ?_
            refine lv_icmp_ne (tgt := 148) hx hb dX11_operand_141 (by decide) (fun c8 => ?_) (fun c8 => ?_)
            · replace h := mq_if c8 h
              exact zw_X11_operand_148 C hret (x4) S3 H locs ls h (lv_sub hl [1, 0] rfl) hP hD hS
            · replace h := mq_it (by simpa using c8) h
              refine lv_iconst (v := (1 : Int32)) hx hb dX11_operand_144 (by decide) ?_
              refine lv_goto (tgt := 149) hx hb dX11_operand_145 (by decide) ?_
              exact zw_X11_operand_149 C hret (x4) ((1 : Int32)) S3 H locs ls h (lv_sub hl [1, 0] rfl) hP hD hS
      · replace h := mq_it (by simpa using c11) h
        exact zw_X11_operand_28 C hret (x4) S3 H locs ls h (lv_sub hl [1, 0] rfl) hP hD hS
set_option maxHeartbeats 4000000 in
set_option maxRecDepth 100000 in
theorem zm_X11_operand (l : Launch) (D : va_G) (a z : Nat → Nat) (cI cL cB cZ : ClassId) (sz N : Nat) (S : mq_St) (res : Int32 × mq_St) (h : zf_X11_operand N z S = some res) : Met l yX11_operand (zc_X11_operand :: mq_T) zr_X11_operand (va_Pc [.ref (a 0)] (fun U => U.heap.size = sz ∧ va_P D vwCl (wd_R a cI cL cB cZ z S) U.heap ∧ va_K D vwCl (mq_tys cI cL cB cZ) U ∧ va_D (fun _ => True) (wd_R a cI cL cB cZ z S))) (va_Qi (fun (r : Int32) (u : mq_St) => r = res.1 ∧ u = res.2) (fun u t => va_P D vwCl (wd_R a cI cL cB cZ z u) t.heap ∧ va_K D vwCl (mq_tys cI cL cB cZ) t ∧ va_D (va_A (wd_R a cI cL cB cZ z S) sz) (wd_R a cI cL cB cZ z u)) (va_A (wd_R a cI cL cB cZ z S) sz)) 0 0 (va_A (wd_R a cI cL cB cZ z S) sz) := by
  refine Met.ofW (cc := cX11_operand) (maxL := 5) (ret := (some .boolean)) (by decide) rfl ?_
  intro p e s m args below meth c s₁ B hml hv
  obtain ⟨rfl, hsz, hP, hK, hD0⟩ := hv
  have hr := B.returns
  have hlocks := B.notSynchronized
  have hts := atoms_spec (ws := zc_X11_operand :: mq_T) B.pre
  have hown : s.vm.findClass RX11 = some m.cls := findClass_of_methodNamed B.named
  subst hsz
  have hD := hD0.self (sz := s.heap.size)
  generalize hAe : va_A (wd_R a cI cL cB cZ z S) s.heap.size = A at hD ⊢
  have hA : ∀ q : Nat, s.heap.size ≤ q → A q := fun q h => by rw [← hAe]; exact Or.inr h
  have hl := lv_entry ([.ref (a 0)]) (n := 5) (Nat.le_of_ble_eq_true rfl)
  rw [lg_entry_eq]
  generalize (lg_sl ([.ref (a 0)]) ++ List.replicate (5 - (lg_sl ([.ref (a 0)])).length) Slot.unset).toArray = ls at hl ⊢
  have hl : lv_has ls 5 [(0, .ref (a 0))] := hl
  refine zw_X11_operand_0 (A := A) ⟨B.exec, B.bytes, hml, hown, hts, hK, hA⟩ (fun H locs ls pc dg hz hP hD hS => ?_) S s.heap [] ls h hl hP hD va_S.rf
  exact W.zret B.exec B.bytes hr hz (fun t ht hW => ⟨⟨_, _, rfl, ⟨rfl, rfl⟩, by rw [ht]; exact hP, va_K.moved hW.alike hK, hD⟩, hS.F ht⟩) hS.2.2 dg
theorem zt_X11_operand_c : zc_X11_operand ∈ mq_T := mq_T_mem (mq_t6 (List.mem_of_getElem? (i := 193) rfl)) rfl
theorem zt_X11_operand_i : Cond.instanceMethod yX11_operand ∈ mq_T := mq_T_mem (mq_t6 (List.mem_of_getElem? (i := 192) rfl)) rfl
theorem zt_X11_operand_s : Cond.selects RX11 yX11_operand yX11_operand ∈ mq_T := mq_T_at 67 (by decide +kernel)
set_option maxHeartbeats 4000000 in
theorem zk_X11_operand {p : Program} {l : Launch} {e : Env} {R : Room} {s : State} {m : MethodId} {args : Array Value} {below : List Frame} {meth : Method} {c : Code} {A : Nat → Prop} {D : va_G} {a z : Nat → Nat} {cI cL cB cZ : ClassId} {Q : State → Prop} {cc : ByteArray} {nL idx pc N : Nat} {own : String} {c1 : Cond} {H : Heap} {locs : List Loc} {ls : Array Slot} {rest : List Value} {S : mq_St} {res : Int32 × mq_St} (C : mq_C p s m args c A D cI cL cB cZ cc nL own c1) (hlk : Cond.methodLink own idx yX11_operand ∈ mq_T) (hR : zr_X11_operand.frames + 1 ≤ R.frames ∧ 8 + (5 + 11) + zr_X11_operand.locals ≤ R.locals) (h : zf_X11_operand N z S = some res) (hP : va_P D vwCl (wd_R a cI cL cB cZ z S) H) (hD : va_D A (wd_R a cI cL cB cZ z S)) (hS : va_S A s.heap H locs) (hls : ls.size = nL) (hrest : (rest.map fun v => v.category).sum ≤ 8) (hdg : decode cc pc = .ok (.invokevirtual idx, 3)) (kk : ∀ (H1 : Heap) (locs1 : List Loc), va_P D vwCl (wd_R a cI cL cB cZ z res.2) H1 → va_D A (wd_R a cI cL cB cZ z res.2) → va_S A s.heap H1 locs1 → W p l e R s m args below meth c H1 locs1 0 0 Q (F0 m (pc + 3) ls (.int res.1 :: rest))) : W p l e R s m args below meth c H locs 0 0 Q (F0 m pc ls (.ref (a 0) :: rest)) := by
  obtain ⟨hx, hb, hml, hown, hts, hK, hA⟩ := C
  have hFc := mq_freeI hD hS hA
  refine va_calli (va_runV (As := []) (rest := rest) ⟨hx, hb, hml, hown, hts⟩ (zm_X11_operand l D a z cI cL cB cZ H.size N S res h) (cwV 0 hts (mq_goodL (mq_wsV hlk zt_X11_operand_i zt_X11_operand_s zt_ini_X11 zt_X11_operand_c)) rfl rfl rfl (by decide +kernel) hR) ⟨fun a U g mk q => ⟨q.1, q.2.1, q.2.2.1, va_K.moved (u := U) (U := U.calling g mk a) (Vm.Alike.refl U.vm) q.2.2.2.1, q.2.2.2.2⟩, zy_R_0 hK hP, fun U hU hW => ⟨rfl, by rw [hU], by rw [hU]; exact hP, va_K.moved hW.alike hK, hD.weaken (fun _ _ _ _ => trivial)⟩⟩ rfl rfl hls rfl (lv_room hrest) hdg ⟨Nat.zero_le _, Nat.zero_le _⟩) hS (fun q _ h => hFc q h) hFc (fun r u t H1 locs ht hvm hw hB hz1 hk1 hS => ?_)
  obtain ⟨rfl, rfl⟩ := hw
  obtain ⟨hP1, hK1, hD1⟩ := hB
  rw [ht] at hP1
  exact kk H1 locs hP1 (hD1.weaken (fun _ _ _ h => hFc _ h)) hS
theorem zt_m_X11_224 : Cond.methodLink RX11 224 yX11_operand ∈ mq_T := mq_T_mem (mq_t6 (List.mem_of_getElem? (i := 190) rfl)) rfl
theorem zt_m_X11_228 : Cond.methodLink RX11 228 yX11_joins ∈ mq_T := mq_T_mem (mq_t6 (List.mem_of_getElem? (i := 218) rfl)) rfl
/-! ModalDeskModel.whole()I -/
def zr_X11_whole : Room := { frames := 4, cells := 0, slots := 0, locals := 90 }
def zc_X11_whole : Cond := .code yX11_whole cX11_whole 5 (some .int)
def zf_X11_whole_142 (N : Nat) (z : Nat → Nat) (k17 : Int32 → mq_St → Option (Int32 × mq_St)) (k85 : Int32 → Int32 → Int32 → mq_St → Option (Int32 × mq_St)) (v1 : Int32) (v2 : Int32) (v3 : Int32) (S : mq_St) : Option (Int32 × mq_St) := (mq_cl (zf_X11_joins N z S) (fun q28v S30 => (k85 (v1) (v2) (v3) S30)))
def zf_X11_whole_273 (N : Nat) (z : Nat → Nat) (k17 : Int32 → mq_St → Option (Int32 × mq_St)) (v1 : Int32) (S : mq_St) : Option (Int32 × mq_St) := (k17 (v1) S)
def zf_X11_whole_249 (N : Nat) (z : Nat → Nat) (k17 : Int32 → mq_St → Option (Int32 × mq_St)) (v1 : Int32) (S : mq_St) : Option (Int32 × mq_St) := (if (S.1 16) ≤ (0 : Int32) then (mq_ck ((0 : Int32)) 410 (some ((S.2.1 12 ((0 : Int32)).toNatClampNeg), S))) else (mq_cl (zf_X11_wrong N z ((1 : Int32)) S) (fun q47v S49 => (mq_nI (q47v) (fun x50 => (zf_X11_whole_273 N z k17 (v1) S49))))))
def zf_X11_whole_149 (N : Nat) (z : Nat → Nat) (k17 : Int32 → mq_St → Option (Int32 × mq_St)) (v1 : Int32) (v2 : Int32) (v3 : Int32) (S : mq_St) : Option (Int32 × mq_St) := (if v3 = (-1 : Int32) then (if v2 = (41 : Int32) then (if (S.1 16) ≤ (0 : Int32) then (zf_X11_whole_249 N z k17 (v1) S) else (mq_nS (mq_si S 8 (((S.1 8) + (1 : Int32)))) (fun S31 => (mq_nS (mq_si S31 16 (((S31.1 16) - (1 : Int32)))) (fun S32 => (mq_nS (mq_si S32 15 (((S32.1 15) - (1 : Int32)))) (fun S33 => (mq_nS (mq_si S33 12 (((S33.1 12) - (1 : Int32)))) (fun S34 => (mq_cl (zf_X11_ahead N z S34) (fun q35v S37 => (zf_X11_whole_273 N z k17 (v1) S37)))))))))))) else (zf_X11_whole_249 N z k17 (v1) S)) else (mq_nS (mq_si S 8 (((S.1 8) + (1 : Int32)))) (fun S40 => (mq_ck ((S40.1 15)) 410 (mq_nS (mq_sa S40 13 (upd (S40.2.1 13) ((S40.1 15)).toNatClampNeg (v3))) (fun S42 => (mq_nS (mq_si S42 15 (((S42.1 15) + (1 : Int32)))) (fun S43 => (mq_nI ((0 : Int32)) (fun x44 => (zf_X11_whole_273 N z k17 (x44) S43)))))))))))
def zf_X11_whole_85b (N : Nat) (z : Nat → Nat) (k17 : Int32 → mq_St → Option (Int32 × mq_St)) (k85 : Int32 → Int32 → Int32 → mq_St → Option (Int32 × mq_St)) (v1 : Int32) (v2 : Int32) (v3 : Int32) (S : mq_St) : Option (Int32 × mq_St) := (if (S.1 15) ≤ (0 : Int32) then (zf_X11_whole_149 N z k17 (v1) (v2) (v3) S) else (mq_ck (((S.1 15) - (1 : Int32))) 410 (if (S.2.1 13 (((S.1 15) - (1 : Int32))).toNatClampNeg) ≤ (3 : Int32) then (zf_X11_whole_149 N z k17 (v1) (v2) (v3) S) else (mq_ck (((S.1 15) - (1 : Int32))) 410 (if v3 < (S.2.1 13 (((S.1 15) - (1 : Int32))).toNatClampNeg) then (zf_X11_whole_142 N z k17 k85 (v1) (v2) (v3) S) else (mq_ck (((S.1 15) - (1 : Int32))) 410 (if (S.2.1 13 (((S.1 15) - (1 : Int32))).toNatClampNeg) = v3 then (if v3 = (5 : Int32) then (zf_X11_whole_149 N z k17 (v1) (v2) (v3) S) else (zf_X11_whole_142 N z k17 k85 (v1) (v2) (v3) S)) else (zf_X11_whole_149 N z k17 (v1) (v2) (v3) S))))))))
def zf_X11_whole_85 (N : Nat) (z : Nat → Nat) (k17 : Int32 → mq_St → Option (Int32 × mq_St)) : Nat → Int32 → Int32 → Int32 → mq_St → Option (Int32 × mq_St)
  | 0, _, _, _, _ => none
  | n + 1, v1, v2, v3, S => zf_X11_whole_85b N z k17 (fun v1 v2 v3 S => zf_X11_whole_85 N z k17 n v1 v2 v3 S) v1 v2 v3 S
def zf_X11_whole_84 (N : Nat) (z : Nat → Nat) (k17 : Int32 → mq_St → Option (Int32 × mq_St)) (v1 : Int32) (v2 : Int32) (t0 : Int32) (S : mq_St) : Option (Int32 × mq_St) := (mq_nI (t0) (fun x19 => (zf_X11_whole_85 N z k17 N (v1) (v2) (x19) S)))
def zf_X11_whole_17b (N : Nat) (z : Nat → Nat) (k17 : Int32 → mq_St → Option (Int32 × mq_St)) (v1 : Int32) (S : mq_St) : Option (Int32 × mq_St) := (if (S.1 10) = (0 : Int32) then (if v1 = (0 : Int32) then (mq_cl (zf_X11_operand N z S) (fun q13v S15 => (mq_nI (q13v) (fun x16 => (k17 (x16) S15))))) else (mq_cl (zf_X11_see N z S) (fun q5v S7 => (mq_nI (q5v) (fun x8 => (if x8 = (61 : Int32) then (zf_X11_whole_84 N z k17 (v1) (x8) ((4 : Int32)) S7) else (if x8 = (62 : Int32) then (zf_X11_whole_84 N z k17 (v1) (x8) ((5 : Int32)) S7) else (if x8 = (124 : Int32) then (zf_X11_whole_84 N z k17 (v1) (x8) ((6 : Int32)) S7) else (if x8 = (38 : Int32) then (zf_X11_whole_84 N z k17 (v1) (x8) ((7 : Int32)) S7) else (zf_X11_whole_84 N z k17 (v1) (x8) ((-1 : Int32)) S7)))))))))) else (some ((0 : Int32), S)))
def zf_X11_whole_17 (N : Nat) (z : Nat → Nat) : Nat → Int32 → mq_St → Option (Int32 × mq_St)
  | 0, _, _ => none
  | n + 1, v1, S => zf_X11_whole_17b N z (fun v1 S => zf_X11_whole_17 N z n v1 S) v1 S
def zf_X11_whole (N : Nat) (z : Nat → Nat) (S : mq_St) : Option (Int32 × mq_St) := (mq_nS (mq_si S 14 ((0 : Int32))) (fun S1 => (mq_nS (mq_si S1 15 ((0 : Int32))) (fun S2 => (mq_nS (mq_si S2 16 ((0 : Int32))) (fun S3 => (mq_nI ((0 : Int32)) (fun x4 => (zf_X11_whole_17 N z N (x4) S3)))))))))
set_option maxHeartbeats 4000000 in
set_option maxRecDepth 100000 in
theorem zw_X11_whole_142 {p : Program} {l : Launch} {e : Env} {s : State} {m : MethodId} {args : Array Value} {below : List Frame} {meth : Method} {c : Code} {A : Nat → Prop} {D : va_G} {a z : Nat → Nat} {cI cL cB cZ : ClassId} {Q : State → Prop} {N : Nat} {res : Int32 × mq_St} {k17 : Int32 → mq_St → Option (Int32 × mq_St)} {k85 : Int32 → Int32 → Int32 → mq_St → Option (Int32 × mq_St)} (C : mq_C p s m args c A D cI cL cB cZ cX11_whole 5 RX11 zc_X11_whole) (hret : ∀ (H : Heap) (locs : List Loc) (ls : Array Slot) (pc : Nat), decode cX11_whole pc = .ok (.ireturn, 1) → va_P D vwCl (wd_R a cI cL cB cZ z res.2) H → va_D A (wd_R a cI cL cB cZ z res.2) → va_S A s.heap H locs → W p l e zr_X11_whole s m args below meth c H locs 0 0 Q (F0 m pc ls [.int res.1])) (hk17 : ∀ (v1 : Int32) (S : mq_St) (H : Heap) (locs : List Loc) (ls : Array Slot), k17 v1 S = some res → lv_has ls 5 [(0, .ref (a 0)), (1, .int (v1))] → va_P D vwCl (wd_R a cI cL cB cZ z S) H → va_D A (wd_R a cI cL cB cZ z S) → va_S A s.heap H locs → W p l e zr_X11_whole s m args below meth c H locs 0 0 Q (F0 m 17 ls [])) (hk85 : ∀ (v1 : Int32) (v2 : Int32) (v3 : Int32) (S : mq_St) (H : Heap) (locs : List Loc) (ls : Array Slot), k85 v1 v2 v3 S = some res → lv_has ls 5 [(0, .ref (a 0)), (1, .int (v1)), (2, .int (v2)), (3, .int (v3))] → va_P D vwCl (wd_R a cI cL cB cZ z S) H → va_D A (wd_R a cI cL cB cZ z S) → va_S A s.heap H locs → W p l e zr_X11_whole s m args below meth c H locs 0 0 Q (F0 m 85 ls [])) (v1 : Int32) (v2 : Int32) (v3 : Int32) (S : mq_St) (H : Heap) (locs : List Loc) (ls : Array Slot) (h : zf_X11_whole_142 N z k17 k85 v1 v2 v3 S = some res) (hl : lv_has ls 5 [(0, .ref (a 0)), (1, .int (v1)), (2, .int (v2)), (3, .int (v3))]) (hP : va_P D vwCl (wd_R a cI cL cB cZ z S) H) (hD : va_D A (wd_R a cI cL cB cZ z S)) (hS : va_S A s.heap H locs) : W p l e zr_X11_whole s m args below meth c H locs 0 0 Q (F0 m 142 ls []) := by
  obtain ⟨hx, hb, hml, hown, hts, hK, hA⟩ := id C
  unfold zf_X11_whole_142 at h
  refine lv_aload_n hx hb dX11_whole_142 rfl (lv_at hl 0 rfl) ?_
  obtain ⟨q28, hc29, h⟩ := mq_cl_go h
  refine zk_X11_joins C zt_m_X11_228 ⟨by decide, by decide⟩ hc29 hP hD hS hl.1 (Nat.le_of_ble_eq_true rfl) dX11_whole_143 (fun H locs hP hD hS => ?_)
  obtain ⟨S30, eS30⟩ : ∃ y, y = q28.2 := ⟨_, rfl⟩
  rw [← eS30] at hP hD h
  refine lv_goto (tgt := 85) hx hb dX11_whole_146 (by decide) ?_
  exact hk85 (v1) (v2) (v3) S30 H locs ls h (lv_sub hl [0, 1, 2, 3] rfl) hP hD hS
set_option maxHeartbeats 4000000 in
set_option maxRecDepth 100000 in
theorem zw_X11_whole_273 {p : Program} {l : Launch} {e : Env} {s : State} {m : MethodId} {args : Array Value} {below : List Frame} {meth : Method} {c : Code} {A : Nat → Prop} {D : va_G} {a z : Nat → Nat} {cI cL cB cZ : ClassId} {Q : State → Prop} {N : Nat} {res : Int32 × mq_St} {k17 : Int32 → mq_St → Option (Int32 × mq_St)} (C : mq_C p s m args c A D cI cL cB cZ cX11_whole 5 RX11 zc_X11_whole) (hret : ∀ (H : Heap) (locs : List Loc) (ls : Array Slot) (pc : Nat), decode cX11_whole pc = .ok (.ireturn, 1) → va_P D vwCl (wd_R a cI cL cB cZ z res.2) H → va_D A (wd_R a cI cL cB cZ z res.2) → va_S A s.heap H locs → W p l e zr_X11_whole s m args below meth c H locs 0 0 Q (F0 m pc ls [.int res.1])) (hk17 : ∀ (v1 : Int32) (S : mq_St) (H : Heap) (locs : List Loc) (ls : Array Slot), k17 v1 S = some res → lv_has ls 5 [(0, .ref (a 0)), (1, .int (v1))] → va_P D vwCl (wd_R a cI cL cB cZ z S) H → va_D A (wd_R a cI cL cB cZ z S) → va_S A s.heap H locs → W p l e zr_X11_whole s m args below meth c H locs 0 0 Q (F0 m 17 ls [])) (v1 : Int32) (S : mq_St) (H : Heap) (locs : List Loc) (ls : Array Slot) (h : zf_X11_whole_273 N z k17 v1 S = some res) (hl : lv_has ls 5 [(0, .ref (a 0)), (1, .int (v1))]) (hP : va_P D vwCl (wd_R a cI cL cB cZ z S) H) (hD : va_D A (wd_R a cI cL cB cZ z S)) (hS : va_S A s.heap H locs) : W p l e zr_X11_whole s m args below meth c H locs 0 0 Q (F0 m 273 ls []) := by
  obtain ⟨hx, hb, hml, hown, hts, hK, hA⟩ := id C
  unfold zf_X11_whole_273 at h
  refine lv_goto (tgt := 17) hx hb dX11_whole_273 (by decide) ?_
  exact hk17 (v1) S H locs ls h (lv_sub hl [0, 1] rfl) hP hD hS
set_option maxHeartbeats 4000000 in
set_option maxRecDepth 100000 in
theorem zw_X11_whole_249 {p : Program} {l : Launch} {e : Env} {s : State} {m : MethodId} {args : Array Value} {below : List Frame} {meth : Method} {c : Code} {A : Nat → Prop} {D : va_G} {a z : Nat → Nat} {cI cL cB cZ : ClassId} {Q : State → Prop} {N : Nat} {res : Int32 × mq_St} {k17 : Int32 → mq_St → Option (Int32 × mq_St)} (C : mq_C p s m args c A D cI cL cB cZ cX11_whole 5 RX11 zc_X11_whole) (hret : ∀ (H : Heap) (locs : List Loc) (ls : Array Slot) (pc : Nat), decode cX11_whole pc = .ok (.ireturn, 1) → va_P D vwCl (wd_R a cI cL cB cZ z res.2) H → va_D A (wd_R a cI cL cB cZ z res.2) → va_S A s.heap H locs → W p l e zr_X11_whole s m args below meth c H locs 0 0 Q (F0 m pc ls [.int res.1])) (hk17 : ∀ (v1 : Int32) (S : mq_St) (H : Heap) (locs : List Loc) (ls : Array Slot), k17 v1 S = some res → lv_has ls 5 [(0, .ref (a 0)), (1, .int (v1))] → va_P D vwCl (wd_R a cI cL cB cZ z S) H → va_D A (wd_R a cI cL cB cZ z S) → va_S A s.heap H locs → W p l e zr_X11_whole s m args below meth c H locs 0 0 Q (F0 m 17 ls [])) (v1 : Int32) (S : mq_St) (H : Heap) (locs : List Loc) (ls : Array Slot) (h : zf_X11_whole_249 N z k17 v1 S = some res) (hl : lv_has ls 5 [(0, .ref (a 0)), (1, .int (v1))]) (hP : va_P D vwCl (wd_R a cI cL cB cZ z S) H) (hD : va_D A (wd_R a cI cL cB cZ z S)) (hS : va_S A s.heap H locs) : W p l e zr_X11_whole s m args below meth c H locs 0 0 Q (F0 m 249 ls []) := by
  obtain ⟨hx, hb, hml, hown, hts, hK, hA⟩ := id C
  unfold zf_X11_whole_249 at h
  refine lv_aload_n hx hb dX11_whole_249 rfl (lv_at hl 0 rfl) ?_
  refine va_get (D := D) (ci := 11) (v := .int ((S.1 16))) (C := RX11) (T := TX11) (N := 76) hx hb hts (zi_X11 _) hown hK hP 0 rfl rfl 30 (by decide) (hts _ (List.mem_cons_of_mem _ zt_f_X11_221)) (fun _ h9 => h9) rfl dX11_whole_250 ?_
  refine lv_if_le (tgt := 266) hx hb dX11_whole_253 (by decide) (fun c51 => ?_) (fun c51 => ?_)
  · replace h := mq_it c51 h
    refine lv_aload_n hx hb dX11_whole_266 rfl (lv_at hl 0 rfl) ?_
    refine va_get (D := D) (ci := 11) (v := .ref (a 13)) (C := RX11) (T := TX11) (N := 76) hx hb hts (zi_X11 _) hown hK hP 0 rfl rfl 26 (by decide) (hts _ (List.mem_cons_of_mem _ zt_f_X11_54)) (fun _ h9 => h9) rfl dX11_whole_267 ?_
    refine lv_iconst (v := (0 : Int32)) hx hb dX11_whole_270 (by decide) ?_
    have hi46 := mq_ck_in h
    replace h := mq_ck_go h
    refine va_iald (f := S.2.1 12) hx hb hK hP 13 0 rfl rfl hi46 dX11_whole_271 ?_
    cases h
    exact hret H locs ls 272 dX11_whole_272 hP hD hS
  · replace h := mq_if c51 h
    refine lv_aload_n hx hb dX11_whole_256 rfl (lv_at hl 0 rfl) ?_
    refine lv_iconst (v := (1 : Int32)) hx hb dX11_whole_257 (by decide) ?_
    obtain ⟨q47, hc48, h⟩ := mq_cl_go h
    refine zk_X11_wrong C zt_m_X11_207 ⟨by decide, by decide⟩ hc48 hP hD hS hl.1 (Nat.le_of_ble_eq_true rfl) dX11_whole_258 (fun H locs hP hD hS => ?_)
    obtain ⟨S49, eS49⟩ : ∃ y, y = q47.2 := ⟨_, rfl⟩
    rw [← eS49] at hP hD h
    refine lv_topi (fun x50 ex50 => ?_)
    replace h := mq_nI_go ex50 h
    refine lv_istore (lv' := [(4, .int (x50)), (0, .ref (a 0)), (1, .int (v1))]) hx hb dX11_whole_261 hl (by decide) rfl (fun ls hl => ?_)
    refine lv_goto (tgt := 273) hx hb dX11_whole_263 (by decide) ?_
    exact zw_X11_whole_273 C hret hk17 (v1) S49 H locs ls h (lv_sub hl [1, 2] rfl) hP hD hS
set_option maxHeartbeats 4000000 in
set_option maxRecDepth 100000 in
theorem zw_X11_whole_149 {p : Program} {l : Launch} {e : Env} {s : State} {m : MethodId} {args : Array Value} {below : List Frame} {meth : Method} {c : Code} {A : Nat → Prop} {D : va_G} {a z : Nat → Nat} {cI cL cB cZ : ClassId} {Q : State → Prop} {N : Nat} {res : Int32 × mq_St} {k17 : Int32 → mq_St → Option (Int32 × mq_St)} (C : mq_C p s m args c A D cI cL cB cZ cX11_whole 5 RX11 zc_X11_whole) (hret : ∀ (H : Heap) (locs : List Loc) (ls : Array Slot) (pc : Nat), decode cX11_whole pc = .ok (.ireturn, 1) → va_P D vwCl (wd_R a cI cL cB cZ z res.2) H → va_D A (wd_R a cI cL cB cZ z res.2) → va_S A s.heap H locs → W p l e zr_X11_whole s m args below meth c H locs 0 0 Q (F0 m pc ls [.int res.1])) (hk17 : ∀ (v1 : Int32) (S : mq_St) (H : Heap) (locs : List Loc) (ls : Array Slot), k17 v1 S = some res → lv_has ls 5 [(0, .ref (a 0)), (1, .int (v1))] → va_P D vwCl (wd_R a cI cL cB cZ z S) H → va_D A (wd_R a cI cL cB cZ z S) → va_S A s.heap H locs → W p l e zr_X11_whole s m args below meth c H locs 0 0 Q (F0 m 17 ls [])) (v1 : Int32) (v2 : Int32) (v3 : Int32) (S : mq_St) (H : Heap) (locs : List Loc) (ls : Array Slot) (h : zf_X11_whole_149 N z k17 v1 v2 v3 S = some res) (hl : lv_has ls 5 [(0, .ref (a 0)), (1, .int (v1)), (2, .int (v2)), (3, .int (v3))]) (hP : va_P D vwCl (wd_R a cI cL cB cZ z S) H) (hD : va_D A (wd_R a cI cL cB cZ z S)) (hS : va_S A s.heap H locs) : W p l e zr_X11_whole s m args below meth c H locs 0 0 Q (F0 m 149 ls []) := by
  obtain ⟨hx, hb, hml, hown, hts, hK, hA⟩ := id C
  unfold zf_X11_whole_149 at h
  refine lv_iload_n hx hb dX11_whole_149 rfl (lv_at hl 3 rfl) ?_
  refine lv_iconst (v := (-1 : Int32)) hx hb dX11_whole_150 (by decide) ?_
  refine lv_icmp_eq (tgt := 189) hx hb dX11_whole_151 (by decide) (fun c45 => ?_) (fun c45 => ?_)
  · replace h := mq_it c45 h
    refine lv_iload_n hx hb dX11_whole_189 rfl (lv_at hl 2 rfl) ?_
    refine lv_bipush (v := (41 : Int32)) hx hb dX11_whole_190 (by decide) ?_
    refine lv_icmp_ne (tgt := 249) hx hb dX11_whole_192 (by decide) (fun c39 => ?_) (fun c39 => ?_)
    · replace h := mq_if c39 h
      exact zw_X11_whole_249 C hret hk17 (v1) S H locs ls h (lv_sub hl [0, 1] rfl) hP hD hS
    · replace h := mq_it (by simpa using c39) h
      refine lv_aload_n hx hb dX11_whole_195 rfl (lv_at hl 0 rfl) ?_
      refine va_get (D := D) (ci := 11) (v := .int ((S.1 16))) (C := RX11) (T := TX11) (N := 76) hx hb hts (zi_X11 _) hown hK hP 0 rfl rfl 30 (by decide) (hts _ (List.mem_cons_of_mem _ zt_f_X11_221)) (fun _ h9 => h9) rfl dX11_whole_196 ?_
      refine lv_if_le (tgt := 249) hx hb dX11_whole_199 (by decide) (fun c38 => ?_) (fun c38 => ?_)
      · replace h := mq_it c38 h
        exact zw_X11_whole_249 C hret hk17 (v1) S H locs ls h (lv_sub hl [0, 1] rfl) hP hD hS
      · replace h := mq_if c38 h
        refine lv_aload_n hx hb dX11_whole_202 rfl (lv_at hl 0 rfl) ?_
        refine lv_dup hx hb dX11_whole_203 rfl ?_
        refine va_get (D := D) (ci := 11) (v := .int ((S.1 8))) (C := RX11) (T := TX11) (N := 76) hx hb hts (zi_X11 _) hown hK hP 0 rfl rfl 20 (by decide) (hts _ (List.mem_cons_of_mem _ zt_f_X11_175)) (fun _ h9 => h9) rfl dX11_whole_204 ?_
        refine lv_iconst (v := (1 : Int32)) hx hb dX11_whole_207 (by decide) ?_
        refine lv_iadd hx hb dX11_whole_208 ?_
        refine mq_put (w := wd_R a cI cL cB cZ z) (S := S) (D := D) (ci := 11) (v := ((S.1 8) + (1 : Int32))) (ty := .int) (C := RX11) (T := TX11) (N := 76) hx hb hts (zi_X11 _) tyX11 tyX11_ok nmX11 hown hK hP hD hS 0 rfl rfl 20 (by decide) (hts _ (List.mem_cons_of_mem _ zt_f_X11_175)) (fun _ h9 => h9) rfl (by decide +kernel) rfl rfl (Nat.le_of_ble_eq_true rfl) dX11_whole_209 8 (zs_wd_R_i_0_8 _ _ _ _ _ _ _ _) (fun S31 eS31 H locs hP hD hS => ?_)
        replace h := mq_nS_go eS31 h
        refine lv_aload_n hx hb dX11_whole_212 rfl (lv_at hl 0 rfl) ?_
        refine lv_dup hx hb dX11_whole_213 rfl ?_
        refine va_get (D := D) (ci := 11) (v := .int ((S31.1 16))) (C := RX11) (T := TX11) (N := 76) hx hb hts (zi_X11 _) hown hK hP 0 rfl rfl 30 (by decide) (hts _ (List.mem_cons_of_mem _ zt_f_X11_221)) (fun _ h9 => h9) rfl dX11_whole_214 ?_
        refine lv_iconst (v := (1 : Int32)) hx hb dX11_whole_217 (by decide) ?_
        refine lv_isub hx hb dX11_whole_218 ?_
        refine mq_put (w := wd_R a cI cL cB cZ z) (S := S31) (D := D) (ci := 11) (v := ((S31.1 16) - (1 : Int32))) (ty := .int) (C := RX11) (T := TX11) (N := 76) hx hb hts (zi_X11 _) tyX11 tyX11_ok nmX11 hown hK hP hD hS 0 rfl rfl 30 (by decide) (hts _ (List.mem_cons_of_mem _ zt_f_X11_221)) (fun _ h9 => h9) rfl (by decide +kernel) rfl rfl (Nat.le_of_ble_eq_true rfl) dX11_whole_219 16 (zs_wd_R_i_0_16 _ _ _ _ _ _ _ _) (fun S32 eS32 H locs hP hD hS => ?_)
        replace h := mq_nS_go eS32 h
        refine lv_aload_n hx hb dX11_whole_222 rfl (lv_at hl 0 rfl) ?_
        refine lv_dup hx hb dX11_whole_223 rfl ?_
        refine va_get (D := D) (ci := 11) (v := .int ((S32.1 15))) (C := RX11) (T := TX11) (N := 76) hx hb hts (zi_X11 _) hown hK hP 0 rfl rfl 29 (by decide) (hts _ (List.mem_cons_of_mem _ zt_f_X11_194)) (fun _ h9 => h9) rfl dX11_whole_224 ?_
        refine lv_iconst (v := (1 : Int32)) hx hb dX11_whole_227 (by decide) ?_
        refine lv_isub hx hb dX11_whole_228 ?_
        refine mq_put (w := wd_R a cI cL cB cZ z) (S := S32) (D := D) (ci := 11) (v := ((S32.1 15) - (1 : Int32))) (ty := .int) (C := RX11) (T := TX11) (N := 76) hx hb hts (zi_X11 _) tyX11 tyX11_ok nmX11 hown hK hP hD hS 0 rfl rfl 29 (by decide) (hts _ (List.mem_cons_of_mem _ zt_f_X11_194)) (fun _ h9 => h9) rfl (by decide +kernel) rfl rfl (Nat.le_of_ble_eq_true rfl) dX11_whole_229 15 (zs_wd_R_i_0_15 _ _ _ _ _ _ _ _) (fun S33 eS33 H locs hP hD hS => ?_)
        replace h := mq_nS_go eS33 h
        refine lv_aload_n hx hb dX11_whole_232 rfl (lv_at hl 0 rfl) ?_
        refine lv_dup hx hb dX11_whole_233 rfl ?_
        refine va_get (D := D) (ci := 11) (v := .int ((S33.1 12))) (C := RX11) (T := TX11) (N := 76) hx hb hts (zi_X11 _) hown hK hP 0 rfl rfl 24 (by decide) (hts _ (List.mem_cons_of_mem _ zt_f_X11_204)) (fun _ h9 => h9) rfl dX11_whole_234 ?_
        refine lv_iconst (v := (1 : Int32)) hx hb dX11_whole_237 (by decide) ?_
        refine lv_isub hx hb dX11_whole_238 ?_
        refine mq_put (w := wd_R a cI cL cB cZ z) (S := S33) (D := D) (ci := 11) (v := ((S33.1 12) - (1 : Int32))) (ty := .int) (C := RX11) (T := TX11) (N := 76) hx hb hts (zi_X11 _) tyX11 tyX11_ok nmX11 hown hK hP hD hS 0 rfl rfl 24 (by decide) (hts _ (List.mem_cons_of_mem _ zt_f_X11_204)) (fun _ h9 => h9) rfl (by decide +kernel) rfl rfl (Nat.le_of_ble_eq_true rfl) dX11_whole_239 12 (zs_wd_R_i_0_12 _ _ _ _ _ _ _ _) (fun S34 eS34 H locs hP hD hS => ?_)
        replace h := mq_nS_go eS34 h
        refine lv_aload_n hx hb dX11_whole_242 rfl (lv_at hl 0 rfl) ?_
        obtain ⟨q35, hc36, h⟩ := mq_cl_go h
        refine zk_X11_ahead C zt_m_X11_214 ⟨by decide, by decide⟩ hc36 hP hD hS hl.1 (Nat.le_of_ble_eq_true rfl) dX11_whole_243 (fun H locs hP hD hS => ?_)
        obtain ⟨S37, eS37⟩ : ∃ y, y = q35.2 := ⟨_, rfl⟩
        rw [← eS37] at hP hD h
        refine lv_goto (tgt := 273) hx hb dX11_whole_246 (by decide) ?_
        exact zw_X11_whole_273 C hret hk17 (v1) S37 H locs ls h (lv_sub hl [0, 1] rfl) hP hD hS
  · replace h := mq_if c45 h
    refine lv_aload_n hx hb dX11_whole_154 rfl (lv_at hl 0 rfl) ?_
    refine lv_dup hx hb dX11_whole_155 rfl ?_
    refine va_get (D := D) (ci := 11) (v := .int ((S.1 8))) (C := RX11) (T := TX11) (N := 76) hx hb hts (zi_X11 _) hown hK hP 0 rfl rfl 20 (by decide) (hts _ (List.mem_cons_of_mem _ zt_f_X11_175)) (fun _ h9 => h9) rfl dX11_whole_156 ?_
    refine lv_iconst (v := (1 : Int32)) hx hb dX11_whole_159 (by decide) ?_
    refine lv_iadd hx hb dX11_whole_160 ?_
    refine mq_put (w := wd_R a cI cL cB cZ z) (S := S) (D := D) (ci := 11) (v := ((S.1 8) + (1 : Int32))) (ty := .int) (C := RX11) (T := TX11) (N := 76) hx hb hts (zi_X11 _) tyX11 tyX11_ok nmX11 hown hK hP hD hS 0 rfl rfl 20 (by decide) (hts _ (List.mem_cons_of_mem _ zt_f_X11_175)) (fun _ h9 => h9) rfl (by decide +kernel) rfl rfl (Nat.le_of_ble_eq_true rfl) dX11_whole_161 8 (zs_wd_R_i_0_8 _ _ _ _ _ _ _ _) (fun S40 eS40 H locs hP hD hS => ?_)
    replace h := mq_nS_go eS40 h
    refine lv_aload_n hx hb dX11_whole_164 rfl (lv_at hl 0 rfl) ?_
    refine va_get (D := D) (ci := 11) (v := .ref (a 14)) (C := RX11) (T := TX11) (N := 76) hx hb hts (zi_X11 _) hown hK hP 0 rfl rfl 27 (by decide) (hts _ (List.mem_cons_of_mem _ zt_f_X11_57)) (fun _ h9 => h9) rfl dX11_whole_165 ?_
    refine lv_aload_n hx hb dX11_whole_168 rfl (lv_at hl 0 rfl) ?_
    refine va_get (D := D) (ci := 11) (v := .int ((S40.1 15))) (C := RX11) (T := TX11) (N := 76) hx hb hts (zi_X11 _) hown hK hP 0 rfl rfl 29 (by decide) (hts _ (List.mem_cons_of_mem _ zt_f_X11_194)) (fun _ h9 => h9) rfl dX11_whole_169 ?_
    refine lv_iload_n hx hb dX11_whole_172 rfl (lv_at hl 3 rfl) ?_
    have hi41 := mq_ck_in h
    replace h := mq_ck_go h
    refine mq_iast (w := wd_R a cI cL cB cZ z) (S := S40) (f := S40.2.1 13) hx hb hK hP hD hS 14 0 rfl rfl hi41 dX11_whole_173 13 (zs_wd_R_a_14_13 _ _ _ _ _ _ _ _) (fun S42 eS42 H locs hP hD hS => ?_)
    replace h := mq_nS_go eS42 h
    refine lv_aload_n hx hb dX11_whole_174 rfl (lv_at hl 0 rfl) ?_
    refine lv_dup hx hb dX11_whole_175 rfl ?_
    refine va_get (D := D) (ci := 11) (v := .int ((S42.1 15))) (C := RX11) (T := TX11) (N := 76) hx hb hts (zi_X11 _) hown hK hP 0 rfl rfl 29 (by decide) (hts _ (List.mem_cons_of_mem _ zt_f_X11_194)) (fun _ h9 => h9) rfl dX11_whole_176 ?_
    refine lv_iconst (v := (1 : Int32)) hx hb dX11_whole_179 (by decide) ?_
    refine lv_iadd hx hb dX11_whole_180 ?_
    refine mq_put (w := wd_R a cI cL cB cZ z) (S := S42) (D := D) (ci := 11) (v := ((S42.1 15) + (1 : Int32))) (ty := .int) (C := RX11) (T := TX11) (N := 76) hx hb hts (zi_X11 _) tyX11 tyX11_ok nmX11 hown hK hP hD hS 0 rfl rfl 29 (by decide) (hts _ (List.mem_cons_of_mem _ zt_f_X11_194)) (fun _ h9 => h9) rfl (by decide +kernel) rfl rfl (Nat.le_of_ble_eq_true rfl) dX11_whole_181 15 (zs_wd_R_i_0_15 _ _ _ _ _ _ _ _) (fun S43 eS43 H locs hP hD hS => ?_)
    replace h := mq_nS_go eS43 h
    refine lv_iconst (v := (0 : Int32)) hx hb dX11_whole_184 (by decide) ?_
    refine lv_topi (fun x44 ex44 => ?_)
    replace h := mq_nI_go ex44 h
    refine lv_istore_n (lv' := [(1, .int (x44)), (0, .ref (a 0)), (2, .int (v2)), (3, .int (v3))]) hx hb dX11_whole_185 rfl hl (by decide) rfl (fun ls hl => ?_)
    refine lv_goto (tgt := 273) hx hb dX11_whole_186 (by decide) ?_
    exact zw_X11_whole_273 C hret hk17 (x44) S43 H locs ls h (lv_sub hl [1, 0] rfl) hP hD hS
set_option maxHeartbeats 4000000 in
set_option maxRecDepth 100000 in
theorem zw_X11_whole_85b {p : Program} {l : Launch} {e : Env} {s : State} {m : MethodId} {args : Array Value} {below : List Frame} {meth : Method} {c : Code} {A : Nat → Prop} {D : va_G} {a z : Nat → Nat} {cI cL cB cZ : ClassId} {Q : State → Prop} {N : Nat} {res : Int32 × mq_St} {k17 : Int32 → mq_St → Option (Int32 × mq_St)} {k85 : Int32 → Int32 → Int32 → mq_St → Option (Int32 × mq_St)} (C : mq_C p s m args c A D cI cL cB cZ cX11_whole 5 RX11 zc_X11_whole) (hret : ∀ (H : Heap) (locs : List Loc) (ls : Array Slot) (pc : Nat), decode cX11_whole pc = .ok (.ireturn, 1) → va_P D vwCl (wd_R a cI cL cB cZ z res.2) H → va_D A (wd_R a cI cL cB cZ z res.2) → va_S A s.heap H locs → W p l e zr_X11_whole s m args below meth c H locs 0 0 Q (F0 m pc ls [.int res.1])) (hk17 : ∀ (v1 : Int32) (S : mq_St) (H : Heap) (locs : List Loc) (ls : Array Slot), k17 v1 S = some res → lv_has ls 5 [(0, .ref (a 0)), (1, .int (v1))] → va_P D vwCl (wd_R a cI cL cB cZ z S) H → va_D A (wd_R a cI cL cB cZ z S) → va_S A s.heap H locs → W p l e zr_X11_whole s m args below meth c H locs 0 0 Q (F0 m 17 ls [])) (hk85 : ∀ (v1 : Int32) (v2 : Int32) (v3 : Int32) (S : mq_St) (H : Heap) (locs : List Loc) (ls : Array Slot), k85 v1 v2 v3 S = some res → lv_has ls 5 [(0, .ref (a 0)), (1, .int (v1)), (2, .int (v2)), (3, .int (v3))] → va_P D vwCl (wd_R a cI cL cB cZ z S) H → va_D A (wd_R a cI cL cB cZ z S) → va_S A s.heap H locs → W p l e zr_X11_whole s m args below meth c H locs 0 0 Q (F0 m 85 ls [])) (v1 : Int32) (v2 : Int32) (v3 : Int32) (S : mq_St) (H : Heap) (locs : List Loc) (ls : Array Slot) (h : zf_X11_whole_85b N z k17 k85 v1 v2 v3 S = some res) (hl : lv_has ls 5 [(0, .ref (a 0)), (1, .int (v1)), (2, .int (v2)), (3, .int (v3))]) (hP : va_P D vwCl (wd_R a cI cL cB cZ z S) H) (hD : va_D A (wd_R a cI cL cB cZ z S)) (hS : va_S A s.heap H locs) : W p l e zr_X11_whole s m args below meth c H locs 0 0 Q (F0 m 85 ls []) := by
  obtain ⟨hx, hb, hml, hown, hts, hK, hA⟩ := id C
  unfold zf_X11_whole_85b at h
  refine lv_aload_n hx hb dX11_whole_85 rfl (lv_at hl 0 rfl) ?_
  refine va_get (D := D) (ci := 11) (v := .int ((S.1 15))) (C := RX11) (T := TX11) (N := 76) hx hb hts (zi_X11 _) hown hK hP 0 rfl rfl 29 (by decide) (hts _ (List.mem_cons_of_mem _ zt_f_X11_194)) (fun _ h9 => h9) rfl dX11_whole_86 ?_
  refine lv_if_le (tgt := 149) hx hb dX11_whole_89 (by decide) (fun c27 => ?_) (fun c27 => ?_)
  · replace h := mq_it c27 h
    exact zw_X11_whole_149 C hret hk17 (v1) (v2) (v3) S H locs ls h (lv_sub hl [0, 1, 2, 3] rfl) hP hD hS
  · replace h := mq_if c27 h
    refine lv_aload_n hx hb dX11_whole_92 rfl (lv_at hl 0 rfl) ?_
    refine va_get (D := D) (ci := 11) (v := .ref (a 14)) (C := RX11) (T := TX11) (N := 76) hx hb hts (zi_X11 _) hown hK hP 0 rfl rfl 27 (by decide) (hts _ (List.mem_cons_of_mem _ zt_f_X11_57)) (fun _ h9 => h9) rfl dX11_whole_93 ?_
    refine lv_aload_n hx hb dX11_whole_96 rfl (lv_at hl 0 rfl) ?_
    refine va_get (D := D) (ci := 11) (v := .int ((S.1 15))) (C := RX11) (T := TX11) (N := 76) hx hb hts (zi_X11 _) hown hK hP 0 rfl rfl 29 (by decide) (hts _ (List.mem_cons_of_mem _ zt_f_X11_194)) (fun _ h9 => h9) rfl dX11_whole_97 ?_
    refine lv_iconst (v := (1 : Int32)) hx hb dX11_whole_100 (by decide) ?_
    refine lv_isub hx hb dX11_whole_101 ?_
    have hi20 := mq_ck_in h
    replace h := mq_ck_go h
    refine va_iald (f := S.2.1 13) hx hb hK hP 14 0 rfl rfl hi20 dX11_whole_102 ?_
    refine lv_iconst (v := (3 : Int32)) hx hb dX11_whole_103 (by decide) ?_
    refine lv_icmp_le (tgt := 149) hx hb dX11_whole_104 (by decide) (fun c26 => ?_) (fun c26 => ?_)
    · replace h := mq_it c26 h
      exact zw_X11_whole_149 C hret hk17 (v1) (v2) (v3) S H locs ls h (lv_sub hl [0, 1, 2, 3] rfl) hP hD hS
    · replace h := mq_if c26 h
      refine lv_aload_n hx hb dX11_whole_107 rfl (lv_at hl 0 rfl) ?_
      refine va_get (D := D) (ci := 11) (v := .ref (a 14)) (C := RX11) (T := TX11) (N := 76) hx hb hts (zi_X11 _) hown hK hP 0 rfl rfl 27 (by decide) (hts _ (List.mem_cons_of_mem _ zt_f_X11_57)) (fun _ h9 => h9) rfl dX11_whole_108 ?_
      refine lv_aload_n hx hb dX11_whole_111 rfl (lv_at hl 0 rfl) ?_
      refine va_get (D := D) (ci := 11) (v := .int ((S.1 15))) (C := RX11) (T := TX11) (N := 76) hx hb hts (zi_X11 _) hown hK hP 0 rfl rfl 29 (by decide) (hts _ (List.mem_cons_of_mem _ zt_f_X11_194)) (fun _ h9 => h9) rfl dX11_whole_112 ?_
      refine lv_iconst (v := (1 : Int32)) hx hb dX11_whole_115 (by decide) ?_
      refine lv_isub hx hb dX11_whole_116 ?_
      have hi21 := mq_ck_in h
      replace h := mq_ck_go h
      refine va_iald (f := S.2.1 13) hx hb hK hP 14 0 rfl rfl hi21 dX11_whole_117 ?_
      refine lv_iload_n hx hb dX11_whole_118 rfl (lv_at hl 3 rfl) ?_
      refine lv_icmp_gt (tgt := 142) hx hb dX11_whole_119 (by decide) (fun c25 => ?_) (fun c25 => ?_)
      · replace h := mq_it c25 h
        exact zw_X11_whole_142 C hret hk17 hk85 (v1) (v2) (v3) S H locs ls h (lv_sub hl [0, 1, 2, 3] rfl) hP hD hS
      · replace h := mq_if c25 h
        refine lv_aload_n hx hb dX11_whole_122 rfl (lv_at hl 0 rfl) ?_
        refine va_get (D := D) (ci := 11) (v := .ref (a 14)) (C := RX11) (T := TX11) (N := 76) hx hb hts (zi_X11 _) hown hK hP 0 rfl rfl 27 (by decide) (hts _ (List.mem_cons_of_mem _ zt_f_X11_57)) (fun _ h9 => h9) rfl dX11_whole_123 ?_
        refine lv_aload_n hx hb dX11_whole_126 rfl (lv_at hl 0 rfl) ?_
        refine va_get (D := D) (ci := 11) (v := .int ((S.1 15))) (C := RX11) (T := TX11) (N := 76) hx hb hts (zi_X11 _) hown hK hP 0 rfl rfl 29 (by decide) (hts _ (List.mem_cons_of_mem _ zt_f_X11_194)) (fun _ h9 => h9) rfl dX11_whole_127 ?_
        refine lv_iconst (v := (1 : Int32)) hx hb dX11_whole_130 (by decide) ?_
        refine lv_isub hx hb dX11_whole_131 ?_
        have hi22 := mq_ck_in h
        replace h := mq_ck_go h
        refine va_iald (f := S.2.1 13) hx hb hK hP 14 0 rfl rfl hi22 dX11_whole_132 ?_
        refine lv_iload_n hx hb dX11_whole_133 rfl (lv_at hl 3 rfl) ?_
        refine lv_icmp_ne (tgt := 149) hx hb dX11_whole_134 (by decide) (fun c24 => ?_) (fun c24 => ?_)
        · replace h := mq_if c24 h
          exact zw_X11_whole_149 C hret hk17 (v1) (v2) (v3) S H locs ls h (lv_sub hl [0, 1, 2, 3] rfl) hP hD hS
        · replace h := mq_it (by simpa using c24) h
          refine lv_iload_n hx hb dX11_whole_137 rfl (lv_at hl 3 rfl) ?_
          refine lv_iconst (v := (5 : Int32)) hx hb dX11_whole_138 (by decide) ?_
          refine lv_icmp_eq (tgt := 149) hx hb dX11_whole_139 (by decide) (fun c23 => ?_) (fun c23 => ?_)
          · replace h := mq_it c23 h
            exact zw_X11_whole_149 C hret hk17 (v1) (v2) (v3) S H locs ls h (lv_sub hl [0, 1, 2, 3] rfl) hP hD hS
          · replace h := mq_if c23 h
            exact zw_X11_whole_142 C hret hk17 hk85 (v1) (v2) (v3) S H locs ls h (lv_sub hl [0, 1, 2, 3] rfl) hP hD hS
set_option maxHeartbeats 4000000 in
set_option maxRecDepth 100000 in
theorem zw_X11_whole_85 {p : Program} {l : Launch} {e : Env} {s : State} {m : MethodId} {args : Array Value} {below : List Frame} {meth : Method} {c : Code} {A : Nat → Prop} {D : va_G} {a z : Nat → Nat} {cI cL cB cZ : ClassId} {Q : State → Prop} {N : Nat} {res : Int32 × mq_St} {k17 : Int32 → mq_St → Option (Int32 × mq_St)} (C : mq_C p s m args c A D cI cL cB cZ cX11_whole 5 RX11 zc_X11_whole) (hret : ∀ (H : Heap) (locs : List Loc) (ls : Array Slot) (pc : Nat), decode cX11_whole pc = .ok (.ireturn, 1) → va_P D vwCl (wd_R a cI cL cB cZ z res.2) H → va_D A (wd_R a cI cL cB cZ z res.2) → va_S A s.heap H locs → W p l e zr_X11_whole s m args below meth c H locs 0 0 Q (F0 m pc ls [.int res.1])) (hk17 : ∀ (v1 : Int32) (S : mq_St) (H : Heap) (locs : List Loc) (ls : Array Slot), k17 v1 S = some res → lv_has ls 5 [(0, .ref (a 0)), (1, .int (v1))] → va_P D vwCl (wd_R a cI cL cB cZ z S) H → va_D A (wd_R a cI cL cB cZ z S) → va_S A s.heap H locs → W p l e zr_X11_whole s m args below meth c H locs 0 0 Q (F0 m 17 ls [])) : ∀ (n : Nat) (v1 : Int32) (v2 : Int32) (v3 : Int32) (S : mq_St) (H : Heap) (locs : List Loc) (ls : Array Slot) (h : zf_X11_whole_85 N z k17 n v1 v2 v3 S = some res) (hl : lv_has ls 5 [(0, .ref (a 0)), (1, .int (v1)), (2, .int (v2)), (3, .int (v3))]) (hP : va_P D vwCl (wd_R a cI cL cB cZ z S) H) (hD : va_D A (wd_R a cI cL cB cZ z S)) (hS : va_S A s.heap H locs), W p l e zr_X11_whole s m args below meth c H locs 0 0 Q (F0 m 85 ls []) := by
  intro n
  induction n with
  | zero =>
    intro v1 v2 v3 S H locs ls h hl hP hD hS
    exact nomatch (show (none : Option (Int32 × mq_St)) = some res from h)
  | succ n ih =>
    intro v1 v2 v3 S H locs ls h hl hP hD hS
    exact zw_X11_whole_85b C hret hk17 (fun v1 v2 v3 S H locs ls h hl hP hD hS => ih v1 v2 v3 S H locs ls h hl hP hD hS) v1 v2 v3 S H locs ls h hl hP hD hS
set_option maxHeartbeats 4000000 in
set_option maxRecDepth 100000 in
theorem zw_X11_whole_84 {p : Program} {l : Launch} {e : Env} {s : State} {m : MethodId} {args : Array Value} {below : List Frame} {meth : Method} {c : Code} {A : Nat → Prop} {D : va_G} {a z : Nat → Nat} {cI cL cB cZ : ClassId} {Q : State → Prop} {N : Nat} {res : Int32 × mq_St} {k17 : Int32 → mq_St → Option (Int32 × mq_St)} (C : mq_C p s m args c A D cI cL cB cZ cX11_whole 5 RX11 zc_X11_whole) (hret : ∀ (H : Heap) (locs : List Loc) (ls : Array Slot) (pc : Nat), decode cX11_whole pc = .ok (.ireturn, 1) → va_P D vwCl (wd_R a cI cL cB cZ z res.2) H → va_D A (wd_R a cI cL cB cZ z res.2) → va_S A s.heap H locs → W p l e zr_X11_whole s m args below meth c H locs 0 0 Q (F0 m pc ls [.int res.1])) (hk17 : ∀ (v1 : Int32) (S : mq_St) (H : Heap) (locs : List Loc) (ls : Array Slot), k17 v1 S = some res → lv_has ls 5 [(0, .ref (a 0)), (1, .int (v1))] → va_P D vwCl (wd_R a cI cL cB cZ z S) H → va_D A (wd_R a cI cL cB cZ z S) → va_S A s.heap H locs → W p l e zr_X11_whole s m args below meth c H locs 0 0 Q (F0 m 17 ls [])) (v1 : Int32) (v2 : Int32) (t0 : Int32) (S : mq_St) (H : Heap) (locs : List Loc) (ls : Array Slot) (h : zf_X11_whole_84 N z k17 v1 v2 t0 S = some res) (hl : lv_has ls 5 [(0, .ref (a 0)), (1, .int (v1)), (2, .int (v2))]) (hP : va_P D vwCl (wd_R a cI cL cB cZ z S) H) (hD : va_D A (wd_R a cI cL cB cZ z S)) (hS : va_S A s.heap H locs) : W p l e zr_X11_whole s m args below meth c H locs 0 0 Q (F0 m 84 ls [.int (t0)]) := by
  obtain ⟨hx, hb, hml, hown, hts, hK, hA⟩ := id C
  unfold zf_X11_whole_84 at h
  refine lv_topi (fun x19 ex19 => ?_)
  replace h := mq_nI_go ex19 h
  refine lv_istore_n (lv' := [(3, .int (x19)), (0, .ref (a 0)), (1, .int (v1)), (2, .int (v2))]) hx hb dX11_whole_84 rfl hl (by decide) rfl (fun ls hl => ?_)
  exact zw_X11_whole_85 C hret hk17 N (v1) (v2) (x19) S H locs ls h (lv_sub hl [1, 2, 3, 0] rfl) hP hD hS
set_option maxHeartbeats 4000000 in
set_option maxRecDepth 100000 in
theorem zw_X11_whole_17b {p : Program} {l : Launch} {e : Env} {s : State} {m : MethodId} {args : Array Value} {below : List Frame} {meth : Method} {c : Code} {A : Nat → Prop} {D : va_G} {a z : Nat → Nat} {cI cL cB cZ : ClassId} {Q : State → Prop} {N : Nat} {res : Int32 × mq_St} {k17 : Int32 → mq_St → Option (Int32 × mq_St)} (C : mq_C p s m args c A D cI cL cB cZ cX11_whole 5 RX11 zc_X11_whole) (hret : ∀ (H : Heap) (locs : List Loc) (ls : Array Slot) (pc : Nat), decode cX11_whole pc = .ok (.ireturn, 1) → va_P D vwCl (wd_R a cI cL cB cZ z res.2) H → va_D A (wd_R a cI cL cB cZ z res.2) → va_S A s.heap H locs → W p l e zr_X11_whole s m args below meth c H locs 0 0 Q (F0 m pc ls [.int res.1])) (hk17 : ∀ (v1 : Int32) (S : mq_St) (H : Heap) (locs : List Loc) (ls : Array Slot), k17 v1 S = some res → lv_has ls 5 [(0, .ref (a 0)), (1, .int (v1))] → va_P D vwCl (wd_R a cI cL cB cZ z S) H → va_D A (wd_R a cI cL cB cZ z S) → va_S A s.heap H locs → W p l e zr_X11_whole s m args below meth c H locs 0 0 Q (F0 m 17 ls [])) (v1 : Int32) (S : mq_St) (H : Heap) (locs : List Loc) (ls : Array Slot) (h : zf_X11_whole_17b N z k17 v1 S = some res) (hl : lv_has ls 5 [(0, .ref (a 0)), (1, .int (v1))]) (hP : va_P D vwCl (wd_R a cI cL cB cZ z S) H) (hD : va_D A (wd_R a cI cL cB cZ z S)) (hS : va_S A s.heap H locs) : W p l e zr_X11_whole s m args below meth c H locs 0 0 Q (F0 m 17 ls []) := by
  obtain ⟨hx, hb, hml, hown, hts, hK, hA⟩ := id C
  unfold zf_X11_whole_17b at h
  refine lv_aload_n hx hb dX11_whole_17 rfl (lv_at hl 0 rfl) ?_
  refine va_get (D := D) (ci := 11) (v := .int ((S.1 10))) (C := RX11) (T := TX11) (N := 76) hx hb hts (zi_X11 _) hown hK hP 0 rfl rfl 22 (by decide) (hts _ (List.mem_cons_of_mem _ zt_f_X11_181)) (fun _ h9 => h9) rfl dX11_whole_18 ?_
  refine lv_if_ne (tgt := 276) hx hb dX11_whole_21 (by decide) (fun c18 => ?_) (fun c18 => ?_)
  · replace h := mq_if c18 h
    refine lv_iconst (v := (0 : Int32)) hx hb dX11_whole_276 (by decide) ?_
    cases h
    exact hret H locs ls 277 dX11_whole_277 hP hD hS
  · replace h := mq_it (by simpa using c18) h
    refine lv_iload_n hx hb dX11_whole_24 rfl (lv_at hl 1 rfl) ?_
    refine lv_if_ne (tgt := 36) hx hb dX11_whole_25 (by decide) (fun c17 => ?_) (fun c17 => ?_)
    · replace h := mq_if c17 h
      refine lv_aload_n hx hb dX11_whole_36 rfl (lv_at hl 0 rfl) ?_
      obtain ⟨q5, hc6, h⟩ := mq_cl_go h
      refine zk_X11_see C zt_m_X11_210 ⟨by decide, by decide⟩ hc6 hP hD hS hl.1 (Nat.le_of_ble_eq_true rfl) dX11_whole_37 (fun H locs hP hD hS => ?_)
      obtain ⟨S7, eS7⟩ : ∃ y, y = q5.2 := ⟨_, rfl⟩
      rw [← eS7] at hP hD h
      refine lv_topi (fun x8 ex8 => ?_)
      replace h := mq_nI_go ex8 h
      refine lv_istore_n (lv' := [(2, .int (x8)), (0, .ref (a 0)), (1, .int (v1))]) hx hb dX11_whole_40 rfl hl (by decide) rfl (fun ls hl => ?_)
      refine lv_iload_n hx hb dX11_whole_41 rfl (lv_at hl 0 rfl) ?_
      refine lv_bipush (v := (61 : Int32)) hx hb dX11_whole_42 (by decide) ?_
      refine lv_icmp_ne (tgt := 51) hx hb dX11_whole_44 (by decide) (fun c12 => ?_) (fun c12 => ?_)
      · replace h := mq_if c12 h
        refine lv_iload_n hx hb dX11_whole_51 rfl (lv_at hl 0 rfl) ?_
        refine lv_bipush (v := (62 : Int32)) hx hb dX11_whole_52 (by decide) ?_
        refine lv_icmp_ne (tgt := 61) hx hb dX11_whole_54 (by decide) (fun c11 => ?_) (fun c11 => ?_)
        · replace h := mq_if c11 h
          refine lv_iload_n hx hb dX11_whole_61 rfl (lv_at hl 0 rfl) ?_
          refine lv_bipush (v := (124 : Int32)) hx hb dX11_whole_62 (by decide) ?_
          refine lv_icmp_ne (tgt := 72) hx hb dX11_whole_64 (by decide) (fun c10 => ?_) (fun c10 => ?_)
          · replace h := mq_if c10 h
            refine lv_iload_n hx hb dX11_whole_72 rfl (lv_at hl 0 rfl) ?_
            refine lv_bipush (v := (38 : Int32)) hx hb dX11_whole_73 (by decide) ?_
            refine lv_icmp_ne (tgt := 83) hx hb dX11_whole_75 (by decide) (fun c9 => ?_) (fun c9 => ?_)
            · replace h := mq_if c9 h
              refine lv_iconst (v := (-1 : Int32)) hx hb dX11_whole_83 (by decide) ?_
              exact zw_X11_whole_84 C hret hk17 (v1) (x8) ((-1 : Int32)) S7 H locs ls h (lv_sub hl [1, 2, 0] rfl) hP hD hS
            · replace h := mq_it (by simpa using c9) h
              refine lv_bipush (v := (7 : Int32)) hx hb dX11_whole_78 (by decide) ?_
              refine lv_goto (tgt := 84) hx hb dX11_whole_80 (by decide) ?_
              exact zw_X11_whole_84 C hret hk17 (v1) (x8) ((7 : Int32)) S7 H locs ls h (lv_sub hl [1, 2, 0] rfl) hP hD hS
          · replace h := mq_it (by simpa using c10) h
            refine lv_bipush (v := (6 : Int32)) hx hb dX11_whole_67 (by decide) ?_
            refine lv_goto (tgt := 84) hx hb dX11_whole_69 (by decide) ?_
            exact zw_X11_whole_84 C hret hk17 (v1) (x8) ((6 : Int32)) S7 H locs ls h (lv_sub hl [1, 2, 0] rfl) hP hD hS
        · replace h := mq_it (by simpa using c11) h
          refine lv_iconst (v := (5 : Int32)) hx hb dX11_whole_57 (by decide) ?_
          refine lv_goto (tgt := 84) hx hb dX11_whole_58 (by decide) ?_
          exact zw_X11_whole_84 C hret hk17 (v1) (x8) ((5 : Int32)) S7 H locs ls h (lv_sub hl [1, 2, 0] rfl) hP hD hS
      · replace h := mq_it (by simpa using c12) h
        refine lv_iconst (v := (4 : Int32)) hx hb dX11_whole_47 (by decide) ?_
        refine lv_goto (tgt := 84) hx hb dX11_whole_48 (by decide) ?_
        exact zw_X11_whole_84 C hret hk17 (v1) (x8) ((4 : Int32)) S7 H locs ls h (lv_sub hl [1, 2, 0] rfl) hP hD hS
    · replace h := mq_it (by simpa using c17) h
      refine lv_aload_n hx hb dX11_whole_28 rfl (lv_at hl 0 rfl) ?_
      obtain ⟨q13, hc14, h⟩ := mq_cl_go h
      refine zk_X11_operand C zt_m_X11_224 ⟨by decide, by decide⟩ hc14 hP hD hS hl.1 (Nat.le_of_ble_eq_true rfl) dX11_whole_29 (fun H locs hP hD hS => ?_)
      obtain ⟨S15, eS15⟩ : ∃ y, y = q13.2 := ⟨_, rfl⟩
      rw [← eS15] at hP hD h
      refine lv_topi (fun x16 ex16 => ?_)
      replace h := mq_nI_go ex16 h
      refine lv_istore_n (lv' := [(1, .int (x16)), (0, .ref (a 0))]) hx hb dX11_whole_32 rfl hl (by decide) rfl (fun ls hl => ?_)
      refine lv_goto (tgt := 17) hx hb dX11_whole_33 (by decide) ?_
      exact hk17 (x16) S15 H locs ls h (lv_sub hl [1, 0] rfl) hP hD hS
set_option maxHeartbeats 4000000 in
set_option maxRecDepth 100000 in
theorem zw_X11_whole_17 {p : Program} {l : Launch} {e : Env} {s : State} {m : MethodId} {args : Array Value} {below : List Frame} {meth : Method} {c : Code} {A : Nat → Prop} {D : va_G} {a z : Nat → Nat} {cI cL cB cZ : ClassId} {Q : State → Prop} {N : Nat} {res : Int32 × mq_St} (C : mq_C p s m args c A D cI cL cB cZ cX11_whole 5 RX11 zc_X11_whole) (hret : ∀ (H : Heap) (locs : List Loc) (ls : Array Slot) (pc : Nat), decode cX11_whole pc = .ok (.ireturn, 1) → va_P D vwCl (wd_R a cI cL cB cZ z res.2) H → va_D A (wd_R a cI cL cB cZ z res.2) → va_S A s.heap H locs → W p l e zr_X11_whole s m args below meth c H locs 0 0 Q (F0 m pc ls [.int res.1])) : ∀ (n : Nat) (v1 : Int32) (S : mq_St) (H : Heap) (locs : List Loc) (ls : Array Slot) (h : zf_X11_whole_17 N z n v1 S = some res) (hl : lv_has ls 5 [(0, .ref (a 0)), (1, .int (v1))]) (hP : va_P D vwCl (wd_R a cI cL cB cZ z S) H) (hD : va_D A (wd_R a cI cL cB cZ z S)) (hS : va_S A s.heap H locs), W p l e zr_X11_whole s m args below meth c H locs 0 0 Q (F0 m 17 ls []) := by
  intro n
  induction n with
  | zero =>
    intro v1 S H locs ls h hl hP hD hS
    exact nomatch (show (none : Option (Int32 × mq_St)) = some res from h)
  | succ n ih =>
    intro v1 S H locs ls h hl hP hD hS
    exact zw_X11_whole_17b C hret (fun v1 S H locs ls h hl hP hD hS => ih v1 S H locs ls h hl hP hD hS) v1 S H locs ls h hl hP hD hS
set_option maxHeartbeats 4000000 in
set_option maxRecDepth 100000 in
theorem zw_X11_whole_0 {p : Program} {l : Launch} {e : Env} {s : State} {m : MethodId} {args : Array Value} {below : List Frame} {meth : Method} {c : Code} {A : Nat → Prop} {D : va_G} {a z : Nat → Nat} {cI cL cB cZ : ClassId} {Q : State → Prop} {N : Nat} {res : Int32 × mq_St} (C : mq_C p s m args c A D cI cL cB cZ cX11_whole 5 RX11 zc_X11_whole) (hret : ∀ (H : Heap) (locs : List Loc) (ls : Array Slot) (pc : Nat), decode cX11_whole pc = .ok (.ireturn, 1) → va_P D vwCl (wd_R a cI cL cB cZ z res.2) H → va_D A (wd_R a cI cL cB cZ z res.2) → va_S A s.heap H locs → W p l e zr_X11_whole s m args below meth c H locs 0 0 Q (F0 m pc ls [.int res.1])) (S : mq_St) (H : Heap) (locs : List Loc) (ls : Array Slot) (h : zf_X11_whole N z S = some res) (hl : lv_has ls 5 [(0, .ref (a 0))]) (hP : va_P D vwCl (wd_R a cI cL cB cZ z S) H) (hD : va_D A (wd_R a cI cL cB cZ z S)) (hS : va_S A s.heap H locs) : W p l e zr_X11_whole s m args below meth c H locs 0 0 Q (F0 m 0 ls []) := by
  obtain ⟨hx, hb, hml, hown, hts, hK, hA⟩ := id C
  unfold zf_X11_whole at h
  refine lv_aload_n hx hb dX11_whole_0 rfl (lv_at hl 0 rfl) ?_
  refine lv_iconst (v := (0 : Int32)) hx hb dX11_whole_1 (by decide) ?_
  refine mq_put (w := wd_R a cI cL cB cZ z) (S := S) (D := D) (ci := 11) (v := (0 : Int32)) (ty := .int) (C := RX11) (T := TX11) (N := 76) hx hb hts (zi_X11 _) tyX11 tyX11_ok nmX11 hown hK hP hD hS 0 rfl rfl 28 (by decide) (hts _ (List.mem_cons_of_mem _ zt_f_X11_197)) (fun _ h9 => h9) rfl (by decide +kernel) rfl rfl (Nat.le_of_ble_eq_true rfl) dX11_whole_2 14 (zs_wd_R_i_0_14 _ _ _ _ _ _ _ _) (fun S1 eS1 H locs hP hD hS => ?_)
  replace h := mq_nS_go eS1 h
  refine lv_aload_n hx hb dX11_whole_5 rfl (lv_at hl 0 rfl) ?_
  refine lv_iconst (v := (0 : Int32)) hx hb dX11_whole_6 (by decide) ?_
  refine mq_put (w := wd_R a cI cL cB cZ z) (S := S1) (D := D) (ci := 11) (v := (0 : Int32)) (ty := .int) (C := RX11) (T := TX11) (N := 76) hx hb hts (zi_X11 _) tyX11 tyX11_ok nmX11 hown hK hP hD hS 0 rfl rfl 29 (by decide) (hts _ (List.mem_cons_of_mem _ zt_f_X11_194)) (fun _ h9 => h9) rfl (by decide +kernel) rfl rfl (Nat.le_of_ble_eq_true rfl) dX11_whole_7 15 (zs_wd_R_i_0_15 _ _ _ _ _ _ _ _) (fun S2 eS2 H locs hP hD hS => ?_)
  replace h := mq_nS_go eS2 h
  refine lv_aload_n hx hb dX11_whole_10 rfl (lv_at hl 0 rfl) ?_
  refine lv_iconst (v := (0 : Int32)) hx hb dX11_whole_11 (by decide) ?_
  refine mq_put (w := wd_R a cI cL cB cZ z) (S := S2) (D := D) (ci := 11) (v := (0 : Int32)) (ty := .int) (C := RX11) (T := TX11) (N := 76) hx hb hts (zi_X11 _) tyX11 tyX11_ok nmX11 hown hK hP hD hS 0 rfl rfl 30 (by decide) (hts _ (List.mem_cons_of_mem _ zt_f_X11_221)) (fun _ h9 => h9) rfl (by decide +kernel) rfl rfl (Nat.le_of_ble_eq_true rfl) dX11_whole_12 16 (zs_wd_R_i_0_16 _ _ _ _ _ _ _ _) (fun S3 eS3 H locs hP hD hS => ?_)
  replace h := mq_nS_go eS3 h
  refine lv_iconst (v := (0 : Int32)) hx hb dX11_whole_15 (by decide) ?_
  refine lv_topi (fun x4 ex4 => ?_)
  replace h := mq_nI_go ex4 h
  refine lv_istore_n (lv' := [(1, .int (x4)), (0, .ref (a 0))]) hx hb dX11_whole_16 rfl hl (by decide) rfl (fun ls hl => ?_)
  exact zw_X11_whole_17 C hret N (x4) S3 H locs ls h (lv_sub hl [1, 0] rfl) hP hD hS
set_option maxHeartbeats 4000000 in
set_option maxRecDepth 100000 in
theorem zm_X11_whole (l : Launch) (D : va_G) (a z : Nat → Nat) (cI cL cB cZ : ClassId) (sz N : Nat) (S : mq_St) (res : Int32 × mq_St) (h : zf_X11_whole N z S = some res) : Met l yX11_whole (zc_X11_whole :: mq_T) zr_X11_whole (va_Pc [.ref (a 0)] (fun U => U.heap.size = sz ∧ va_P D vwCl (wd_R a cI cL cB cZ z S) U.heap ∧ va_K D vwCl (mq_tys cI cL cB cZ) U ∧ va_D (fun _ => True) (wd_R a cI cL cB cZ z S))) (va_Qi (fun (r : Int32) (u : mq_St) => r = res.1 ∧ u = res.2) (fun u t => va_P D vwCl (wd_R a cI cL cB cZ z u) t.heap ∧ va_K D vwCl (mq_tys cI cL cB cZ) t ∧ va_D (va_A (wd_R a cI cL cB cZ z S) sz) (wd_R a cI cL cB cZ z u)) (va_A (wd_R a cI cL cB cZ z S) sz)) 0 0 (va_A (wd_R a cI cL cB cZ z S) sz) := by
  refine Met.ofW (cc := cX11_whole) (maxL := 5) (ret := (some .int)) (by decide) rfl ?_
  intro p e s m args below meth c s₁ B hml hv
  obtain ⟨rfl, hsz, hP, hK, hD0⟩ := hv
  have hr := B.returns
  have hlocks := B.notSynchronized
  have hts := atoms_spec (ws := zc_X11_whole :: mq_T) B.pre
  have hown : s.vm.findClass RX11 = some m.cls := findClass_of_methodNamed B.named
  subst hsz
  have hD := hD0.self (sz := s.heap.size)
  generalize hAe : va_A (wd_R a cI cL cB cZ z S) s.heap.size = A at hD ⊢
  have hA : ∀ q : Nat, s.heap.size ≤ q → A q := fun q h => by rw [← hAe]; exact Or.inr h
  have hl := lv_entry ([.ref (a 0)]) (n := 5) (Nat.le_of_ble_eq_true rfl)
  rw [lg_entry_eq]
  generalize (lg_sl ([.ref (a 0)]) ++ List.replicate (5 - (lg_sl ([.ref (a 0)])).length) Slot.unset).toArray = ls at hl ⊢
  have hl : lv_has ls 5 [(0, .ref (a 0))] := hl
  refine zw_X11_whole_0 (A := A) ⟨B.exec, B.bytes, hml, hown, hts, hK, hA⟩ (fun H locs ls pc dg hP hD hS => ?_) S s.heap [] ls h hl hP hD va_S.rf
  exact W.iret B.exec B.bytes hr (fun t ht hW => ⟨⟨_, _, rfl, ⟨rfl, rfl⟩, by rw [ht]; exact hP, va_K.moved hW.alike hK, hD⟩, hS.F ht⟩) hS.2.2 dg
theorem zt_X11_whole_c : zc_X11_whole ∈ mq_T := mq_T_mem (mq_t6 (List.mem_of_getElem? (i := 189) rfl)) rfl
theorem zt_X11_whole_i : Cond.instanceMethod yX11_whole ∈ mq_T := mq_T_mem (mq_t6 (List.mem_of_getElem? (i := 188) rfl)) rfl
theorem zt_X11_whole_s : Cond.selects RX11 yX11_whole yX11_whole ∈ mq_T := mq_T_at 66 (by decide +kernel)
set_option maxHeartbeats 4000000 in
theorem zk_X11_whole {p : Program} {l : Launch} {e : Env} {R : Room} {s : State} {m : MethodId} {args : Array Value} {below : List Frame} {meth : Method} {c : Code} {A : Nat → Prop} {D : va_G} {a z : Nat → Nat} {cI cL cB cZ : ClassId} {Q : State → Prop} {cc : ByteArray} {nL idx pc N : Nat} {own : String} {c1 : Cond} {H : Heap} {locs : List Loc} {ls : Array Slot} {rest : List Value} {S : mq_St} {res : Int32 × mq_St} (C : mq_C p s m args c A D cI cL cB cZ cc nL own c1) (hlk : Cond.methodLink own idx yX11_whole ∈ mq_T) (hR : zr_X11_whole.frames + 1 ≤ R.frames ∧ 8 + (5 + 11) + zr_X11_whole.locals ≤ R.locals) (h : zf_X11_whole N z S = some res) (hP : va_P D vwCl (wd_R a cI cL cB cZ z S) H) (hD : va_D A (wd_R a cI cL cB cZ z S)) (hS : va_S A s.heap H locs) (hls : ls.size = nL) (hrest : (rest.map fun v => v.category).sum ≤ 8) (hdg : decode cc pc = .ok (.invokevirtual idx, 3)) (kk : ∀ (H1 : Heap) (locs1 : List Loc), va_P D vwCl (wd_R a cI cL cB cZ z res.2) H1 → va_D A (wd_R a cI cL cB cZ z res.2) → va_S A s.heap H1 locs1 → W p l e R s m args below meth c H1 locs1 0 0 Q (F0 m (pc + 3) ls (.int res.1 :: rest))) : W p l e R s m args below meth c H locs 0 0 Q (F0 m pc ls (.ref (a 0) :: rest)) := by
  obtain ⟨hx, hb, hml, hown, hts, hK, hA⟩ := C
  have hFc := mq_freeI hD hS hA
  refine va_calli (va_runV (As := []) (rest := rest) ⟨hx, hb, hml, hown, hts⟩ (zm_X11_whole l D a z cI cL cB cZ H.size N S res h) (cwV 0 hts (mq_goodL (mq_wsV hlk zt_X11_whole_i zt_X11_whole_s zt_ini_X11 zt_X11_whole_c)) rfl rfl rfl (by decide +kernel) hR) ⟨fun a U g mk q => ⟨q.1, q.2.1, q.2.2.1, va_K.moved (u := U) (U := U.calling g mk a) (Vm.Alike.refl U.vm) q.2.2.2.1, q.2.2.2.2⟩, zy_R_0 hK hP, fun U hU hW => ⟨rfl, by rw [hU], by rw [hU]; exact hP, va_K.moved hW.alike hK, hD.weaken (fun _ _ _ _ => trivial)⟩⟩ rfl rfl hls rfl (lv_room hrest) hdg ⟨Nat.zero_le _, Nat.zero_le _⟩) hS (fun q _ h => hFc q h) hFc (fun r u t H1 locs ht hvm hw hB hz1 hk1 hS => ?_)
  obtain ⟨rfl, rfl⟩ := hw
  obtain ⟨hP1, hK1, hD1⟩ := hB
  rw [ht] at hP1
  exact kk H1 locs hP1 (hD1.weaken (fun _ _ _ h => hFc _ h)) hS
theorem zt_f_X11_60 : Cond.fieldLink RX11 60 "ModalDeskModel" "wanted" "[I" ∈ mq_T := mq_T_mem (mq_t5 (List.mem_of_getElem? (i := 196) rfl)) rfl
theorem zt_f_X11_231 : Cond.fieldLink RX11 231 "ModalDeskModel" "wantedMany" "I" ∈ mq_T := mq_T_mem (mq_t5 (List.mem_of_getElem? (i := 197) rfl)) rfl
theorem zs_wd_R_a_15_14 (a z : Nat → Nat) (cI cL cB cZ : ClassId) (S : mq_St) (f : Nat → Int32) : (wd_R a cI cL cB cZ z S).set 15 (a 15, .inl (cI, 3000, .inl f)) = (wd_R a cI cL cB cZ z (mq_sa S 14 f)) := rfl
theorem zs_wd_R_i_0_17 (a z : Nat → Nat) (cI cL cB cZ : ClassId) (S : mq_St) (v : Int32) : (wd_R a cI cL cB cZ z S).set 0 (a 0, .inr (11, ([.int (S.1 0), .ref (a 1), .int (S.1 1), .ref (a 2), .int (S.1 2), .ref (a 3), .ref (a 4), .ref (a 5), .int (S.1 3), .ref (a 6), .ref (a 7), .int (S.1 4), .int (S.1 5), .int (S.1 6), .ref (a 8), .ref (a 9), .ref (a 10), .ref (a 11), .ref (a 12), .int (S.1 7), .int (S.1 8), .int (S.1 9), .int (S.1 10), .int (S.1 11), .int (S.1 12), .int (S.1 13), .ref (a 13), .ref (a 14), .int (S.1 14), .int (S.1 15), .int (S.1 16), .ref (a 15), .int (S.1 17), .ref (a 16), .ref (a 17), .ref (a 18), .int (S.1 18), .int (S.1 19), .int (S.1 20), .int (S.1 21), .int (S.1 22), .int (S.1 23), .int (S.1 24), .int (S.1 25), .ref (a 19), .ref (a 20), .ref (a 21), .ref (a 22), .ref (a 23), .int (S.1 26), .ref (a 24), .ref (a 25), .int (S.1 27), .int (S.1 28), .ref (a 26), .ref (a 27), .ref (a 28), .ref (a 29), .ref (a 30), .ref (a 31), .ref (a 32), .int (S.1 29), .int (S.1 30), .ref (a 33), .ref (a 34), .int (S.1 31), .ref (a 35), .ref (a 36), .ref (a 37), .ref (a 38), .ref (a 39), .ref (a 40), .ref (a 41), .ref (a 42), .ref (a 43), .ref (a 44)] : List Value).set 32 (.int v))) = (wd_R a cI cL cB cZ z (mq_si S 17 v)) := rfl
/-! ModalDeskModel.isMade(IZ)Z -/
def zr_X11_isMade : Room := { frames := 0, cells := 0, slots := 0, locals := 0 }
def zc_X11_isMade : Cond := .code yX11_isMade cX11_isMade 3 (some .boolean)
def zf_X11_isMade_45 (N : Nat) (z : Nat → Nat) (t1 : Int32) (t2 : Int32) (t3 : Int32) (S : mq_St) : Option (Int32 × mq_St) := (mq_ck (t1) 3000 (mq_nS (mq_sa S 14 (upd (S.2.1 14) (t1).toNatClampNeg ((t2 + t3)))) (fun S8 => (mq_nS (mq_si S8 17 (((S8.1 17) + (1 : Int32)))) (fun S9 => (mq_cz ((0 : Int32)) (some ((0 : Int32), S9))))))))
def zf_X11_isMade_19 (N : Nat) (z : Nat → Nat) (v1 : Int32) (v2 : Int32) (t0 : Int32) (S : mq_St) : Option (Int32 × mq_St) := (if t0 = (-1 : Int32) then (if v2 = (0 : Int32) then (zf_X11_isMade_45 N z ((S.1 17)) (((2 : Int32) * v1)) ((1 : Int32)) S) else (zf_X11_isMade_45 N z ((S.1 17)) (((2 : Int32) * v1)) ((0 : Int32)) S)) else (mq_cz ((1 : Int32)) (some ((1 : Int32), S))))
def zf_X11_isMade (N : Nat) (z : Nat → Nat) (v1 : Int32) (v2 : Int32) (S : mq_St) : Option (Int32 × mq_St) := (if v2 = (0 : Int32) then (mq_ck (v1) 3000 (zf_X11_isMade_19 N z (v1) (v2) ((S.2.1 11 (v1).toNatClampNeg)) S)) else (mq_ck (v1) 3000 (zf_X11_isMade_19 N z (v1) (v2) ((S.2.1 10 (v1).toNatClampNeg)) S)))
set_option maxHeartbeats 4000000 in
set_option maxRecDepth 100000 in
theorem zw_X11_isMade_45 {p : Program} {l : Launch} {e : Env} {s : State} {m : MethodId} {args : Array Value} {below : List Frame} {meth : Method} {c : Code} {A : Nat → Prop} {D : va_G} {a z : Nat → Nat} {cI cL cB cZ : ClassId} {Q : State → Prop} {N : Nat} {res : Int32 × mq_St} (C : mq_C p s m args c A D cI cL cB cZ cX11_isMade 3 RX11 zc_X11_isMade) (hret : ∀ (H : Heap) (locs : List Loc) (ls : Array Slot) (pc : Nat), decode cX11_isMade pc = .ok (.ireturn, 1) → narrow .boolean (.int res.1) = .int res.1 → va_P D vwCl (wd_R a cI cL cB cZ z res.2) H → va_D A (wd_R a cI cL cB cZ z res.2) → va_S A s.heap H locs → W p l e zr_X11_isMade s m args below meth c H locs 0 0 Q (F0 m pc ls [.int res.1])) (t1 : Int32) (t2 : Int32) (t3 : Int32) (S : mq_St) (H : Heap) (locs : List Loc) (ls : Array Slot) (h : zf_X11_isMade_45 N z t1 t2 t3 S = some res) (hl : lv_has ls 3 [(0, .ref (a 0))]) (hP : va_P D vwCl (wd_R a cI cL cB cZ z S) H) (hD : va_D A (wd_R a cI cL cB cZ z S)) (hS : va_S A s.heap H locs) : W p l e zr_X11_isMade s m args below meth c H locs 0 0 Q (F0 m 45 ls [.int (t3), .int (t2), .int (t1), .ref (a 15)]) := by
  obtain ⟨hx, hb, hml, hown, hts, hK, hA⟩ := id C
  unfold zf_X11_isMade_45 at h
  refine lv_iadd hx hb dX11_isMade_45 ?_
  have hi7 := mq_ck_in h
  replace h := mq_ck_go h
  refine mq_iast (w := wd_R a cI cL cB cZ z) (S := S) (f := S.2.1 14) hx hb hK hP hD hS 15 0 rfl rfl hi7 dX11_isMade_46 14 (zs_wd_R_a_15_14 _ _ _ _ _ _ _ _) (fun S8 eS8 H locs hP hD hS => ?_)
  replace h := mq_nS_go eS8 h
  refine lv_aload_n hx hb dX11_isMade_47 rfl (lv_at hl 0 rfl) ?_
  refine lv_dup hx hb dX11_isMade_48 rfl ?_
  refine va_get (D := D) (ci := 11) (v := .int ((S8.1 17))) (C := RX11) (T := TX11) (N := 76) hx hb hts (zi_X11 _) hown hK hP 0 rfl rfl 32 (by decide) (hts _ (List.mem_cons_of_mem _ zt_f_X11_231)) (fun _ h9 => h9) rfl dX11_isMade_49 ?_
  refine lv_iconst (v := (1 : Int32)) hx hb dX11_isMade_52 (by decide) ?_
  refine lv_iadd hx hb dX11_isMade_53 ?_
  refine mq_put (w := wd_R a cI cL cB cZ z) (S := S8) (D := D) (ci := 11) (v := ((S8.1 17) + (1 : Int32))) (ty := .int) (C := RX11) (T := TX11) (N := 76) hx hb hts (zi_X11 _) tyX11 tyX11_ok nmX11 hown hK hP hD hS 0 rfl rfl 32 (by decide) (hts _ (List.mem_cons_of_mem _ zt_f_X11_231)) (fun _ h9 => h9) rfl (by decide +kernel) rfl rfl (Nat.le_of_ble_eq_true rfl) dX11_isMade_54 17 (zs_wd_R_i_0_17 _ _ _ _ _ _ _ _) (fun S9 eS9 H locs hP hD hS => ?_)
  replace h := mq_nS_go eS9 h
  refine lv_iconst (v := (0 : Int32)) hx hb dX11_isMade_57 (by decide) ?_
  have hz10 := mq_cz_in h
  replace h := mq_cz_go h
  cases h
  exact hret H locs ls 58 dX11_isMade_58 hz10.1 hP hD hS
set_option maxHeartbeats 4000000 in
set_option maxRecDepth 100000 in
theorem zw_X11_isMade_19 {p : Program} {l : Launch} {e : Env} {s : State} {m : MethodId} {args : Array Value} {below : List Frame} {meth : Method} {c : Code} {A : Nat → Prop} {D : va_G} {a z : Nat → Nat} {cI cL cB cZ : ClassId} {Q : State → Prop} {N : Nat} {res : Int32 × mq_St} (C : mq_C p s m args c A D cI cL cB cZ cX11_isMade 3 RX11 zc_X11_isMade) (hret : ∀ (H : Heap) (locs : List Loc) (ls : Array Slot) (pc : Nat), decode cX11_isMade pc = .ok (.ireturn, 1) → narrow .boolean (.int res.1) = .int res.1 → va_P D vwCl (wd_R a cI cL cB cZ z res.2) H → va_D A (wd_R a cI cL cB cZ z res.2) → va_S A s.heap H locs → W p l e zr_X11_isMade s m args below meth c H locs 0 0 Q (F0 m pc ls [.int res.1])) (v1 : Int32) (v2 : Int32) (t0 : Int32) (S : mq_St) (H : Heap) (locs : List Loc) (ls : Array Slot) (h : zf_X11_isMade_19 N z v1 v2 t0 S = some res) (hl : lv_has ls 3 [(0, .ref (a 0)), (1, .int (v1)), (2, .int (v2))]) (hP : va_P D vwCl (wd_R a cI cL cB cZ z S) H) (hD : va_D A (wd_R a cI cL cB cZ z S)) (hS : va_S A s.heap H locs) : W p l e zr_X11_isMade s m args below meth c H locs 0 0 Q (F0 m 19 ls [.int (t0)]) := by
  obtain ⟨hx, hb, hml, hown, hts, hK, hA⟩ := id C
  unfold zf_X11_isMade_19 at h
  refine lv_iconst (v := (-1 : Int32)) hx hb dX11_isMade_19 (by decide) ?_
  refine lv_icmp_eq (tgt := 25) hx hb dX11_isMade_20 (by decide) (fun c6 => ?_) (fun c6 => ?_)
  · replace h := mq_it c6 h
    refine lv_aload_n hx hb dX11_isMade_25 rfl (lv_at hl 0 rfl) ?_
    refine va_get (D := D) (ci := 11) (v := .ref (a 15)) (C := RX11) (T := TX11) (N := 76) hx hb hts (zi_X11 _) hown hK hP 0 rfl rfl 31 (by decide) (hts _ (List.mem_cons_of_mem _ zt_f_X11_60)) (fun _ h9 => h9) rfl dX11_isMade_26 ?_
    refine lv_aload_n hx hb dX11_isMade_29 rfl (lv_at hl 0 rfl) ?_
    refine va_get (D := D) (ci := 11) (v := .int ((S.1 17))) (C := RX11) (T := TX11) (N := 76) hx hb hts (zi_X11 _) hown hK hP 0 rfl rfl 32 (by decide) (hts _ (List.mem_cons_of_mem _ zt_f_X11_231)) (fun _ h9 => h9) rfl dX11_isMade_30 ?_
    refine lv_iconst (v := (2 : Int32)) hx hb dX11_isMade_33 (by decide) ?_
    refine lv_iload_n hx hb dX11_isMade_34 rfl (lv_at hl 1 rfl) ?_
    refine lv_imul hx hb dX11_isMade_35 ?_
    refine lv_iload_n hx hb dX11_isMade_36 rfl (lv_at hl 2 rfl) ?_
    refine lv_if_eq (tgt := 44) hx hb dX11_isMade_37 (by decide) (fun c4 => ?_) (fun c4 => ?_)
    · replace h := mq_it c4 h
      refine lv_iconst (v := (1 : Int32)) hx hb dX11_isMade_44 (by decide) ?_
      exact zw_X11_isMade_45 C hret ((S.1 17)) (((2 : Int32) * v1)) ((1 : Int32)) S H locs ls h (lv_sub hl [0] rfl) hP hD hS
    · replace h := mq_if c4 h
      refine lv_iconst (v := (0 : Int32)) hx hb dX11_isMade_40 (by decide) ?_
      refine lv_goto (tgt := 45) hx hb dX11_isMade_41 (by decide) ?_
      exact zw_X11_isMade_45 C hret ((S.1 17)) (((2 : Int32) * v1)) ((0 : Int32)) S H locs ls h (lv_sub hl [0] rfl) hP hD hS
  · replace h := mq_if c6 h
    refine lv_iconst (v := (1 : Int32)) hx hb dX11_isMade_23 (by decide) ?_
    have hz5 := mq_cz_in h
    replace h := mq_cz_go h
    cases h
    exact hret H locs ls 24 dX11_isMade_24 hz5.1 hP hD hS
set_option maxHeartbeats 4000000 in
set_option maxRecDepth 100000 in
theorem zw_X11_isMade_0 {p : Program} {l : Launch} {e : Env} {s : State} {m : MethodId} {args : Array Value} {below : List Frame} {meth : Method} {c : Code} {A : Nat → Prop} {D : va_G} {a z : Nat → Nat} {cI cL cB cZ : ClassId} {Q : State → Prop} {N : Nat} {res : Int32 × mq_St} (C : mq_C p s m args c A D cI cL cB cZ cX11_isMade 3 RX11 zc_X11_isMade) (hret : ∀ (H : Heap) (locs : List Loc) (ls : Array Slot) (pc : Nat), decode cX11_isMade pc = .ok (.ireturn, 1) → narrow .boolean (.int res.1) = .int res.1 → va_P D vwCl (wd_R a cI cL cB cZ z res.2) H → va_D A (wd_R a cI cL cB cZ z res.2) → va_S A s.heap H locs → W p l e zr_X11_isMade s m args below meth c H locs 0 0 Q (F0 m pc ls [.int res.1])) (v1 : Int32) (v2 : Int32) (S : mq_St) (H : Heap) (locs : List Loc) (ls : Array Slot) (h : zf_X11_isMade N z v1 v2 S = some res) (hl : lv_has ls 3 [(0, .ref (a 0)), (1, .int (v1)), (2, .int (v2))]) (hP : va_P D vwCl (wd_R a cI cL cB cZ z S) H) (hD : va_D A (wd_R a cI cL cB cZ z S)) (hS : va_S A s.heap H locs) : W p l e zr_X11_isMade s m args below meth c H locs 0 0 Q (F0 m 0 ls []) := by
  obtain ⟨hx, hb, hml, hown, hts, hK, hA⟩ := id C
  unfold zf_X11_isMade at h
  refine lv_iload_n hx hb dX11_isMade_0 rfl (lv_at hl 2 rfl) ?_
  refine lv_if_eq (tgt := 13) hx hb dX11_isMade_1 (by decide) (fun c3 => ?_) (fun c3 => ?_)
  · replace h := mq_it c3 h
    refine lv_aload_n hx hb dX11_isMade_13 rfl (lv_at hl 0 rfl) ?_
    refine va_get (D := D) (ci := 11) (v := .ref (a 12)) (C := RX11) (T := TX11) (N := 76) hx hb hts (zi_X11 _) hown hK hP 0 rfl rfl 18 (by decide) (hts _ (List.mem_cons_of_mem _ zt_f_X11_51)) (fun _ h9 => h9) rfl dX11_isMade_14 ?_
    refine lv_iload_n hx hb dX11_isMade_17 rfl (lv_at hl 1 rfl) ?_
    have hi1 := mq_ck_in h
    replace h := mq_ck_go h
    refine va_iald (f := S.2.1 11) hx hb hK hP 12 0 rfl rfl hi1 dX11_isMade_18 ?_
    exact zw_X11_isMade_19 C hret (v1) (v2) ((S.2.1 11 (v1).toNatClampNeg)) S H locs ls h (lv_sub hl [0, 1, 2] rfl) hP hD hS
  · replace h := mq_if c3 h
    refine lv_aload_n hx hb dX11_isMade_4 rfl (lv_at hl 0 rfl) ?_
    refine va_get (D := D) (ci := 11) (v := .ref (a 11)) (C := RX11) (T := TX11) (N := 76) hx hb hts (zi_X11 _) hown hK hP 0 rfl rfl 17 (by decide) (hts _ (List.mem_cons_of_mem _ zt_f_X11_48)) (fun _ h9 => h9) rfl dX11_isMade_5 ?_
    refine lv_iload_n hx hb dX11_isMade_8 rfl (lv_at hl 1 rfl) ?_
    have hi2 := mq_ck_in h
    replace h := mq_ck_go h
    refine va_iald (f := S.2.1 10) hx hb hK hP 11 0 rfl rfl hi2 dX11_isMade_9 ?_
    refine lv_goto (tgt := 19) hx hb dX11_isMade_10 (by decide) ?_
    exact zw_X11_isMade_19 C hret (v1) (v2) ((S.2.1 10 (v1).toNatClampNeg)) S H locs ls h (lv_sub hl [0, 1, 2] rfl) hP hD hS
set_option maxHeartbeats 4000000 in
set_option maxRecDepth 100000 in
theorem zm_X11_isMade (l : Launch) (D : va_G) (a z : Nat → Nat) (cI cL cB cZ : ClassId) (sz N : Nat) (v1 : Int32) (v2 : Int32) (S : mq_St) (res : Int32 × mq_St) (h : zf_X11_isMade N z v1 v2 S = some res) : Met l yX11_isMade (zc_X11_isMade :: mq_T) zr_X11_isMade (va_Pc [.ref (a 0), .int (v1), .int (v2)] (fun U => U.heap.size = sz ∧ va_P D vwCl (wd_R a cI cL cB cZ z S) U.heap ∧ va_K D vwCl (mq_tys cI cL cB cZ) U ∧ va_D (fun _ => True) (wd_R a cI cL cB cZ z S))) (va_Qi (fun (r : Int32) (u : mq_St) => r = res.1 ∧ u = res.2) (fun u t => va_P D vwCl (wd_R a cI cL cB cZ z u) t.heap ∧ va_K D vwCl (mq_tys cI cL cB cZ) t ∧ va_D (va_A (wd_R a cI cL cB cZ z S) sz) (wd_R a cI cL cB cZ z u)) (va_A (wd_R a cI cL cB cZ z S) sz)) 0 0 (va_A (wd_R a cI cL cB cZ z S) sz) := by
  refine Met.ofW (cc := cX11_isMade) (maxL := 3) (ret := (some .boolean)) (by decide) rfl ?_
  intro p e s m args below meth c s₁ B hml hv
  obtain ⟨rfl, hsz, hP, hK, hD0⟩ := hv
  have hr := B.returns
  have hlocks := B.notSynchronized
  have hts := atoms_spec (ws := zc_X11_isMade :: mq_T) B.pre
  have hown : s.vm.findClass RX11 = some m.cls := findClass_of_methodNamed B.named
  subst hsz
  have hD := hD0.self (sz := s.heap.size)
  generalize hAe : va_A (wd_R a cI cL cB cZ z S) s.heap.size = A at hD ⊢
  have hA : ∀ q : Nat, s.heap.size ≤ q → A q := fun q h => by rw [← hAe]; exact Or.inr h
  have hl := lv_entry ([.ref (a 0), .int (v1), .int (v2)]) (n := 3) (Nat.le_of_ble_eq_true rfl)
  rw [lg_entry_eq]
  generalize (lg_sl ([.ref (a 0), .int (v1), .int (v2)]) ++ List.replicate (3 - (lg_sl ([.ref (a 0), .int (v1), .int (v2)])).length) Slot.unset).toArray = ls at hl ⊢
  have hl : lv_has ls 3 [(0, .ref (a 0)), (1, .int (v1)), (2, .int (v2))] := hl
  refine zw_X11_isMade_0 (A := A) ⟨B.exec, B.bytes, hml, hown, hts, hK, hA⟩ (fun H locs ls pc dg hz hP hD hS => ?_) v1 v2 S s.heap [] ls h hl hP hD va_S.rf
  exact W.zret B.exec B.bytes hr hz (fun t ht hW => ⟨⟨_, _, rfl, ⟨rfl, rfl⟩, by rw [ht]; exact hP, va_K.moved hW.alike hK, hD⟩, hS.F ht⟩) hS.2.2 dg
theorem zt_X11_isMade_c : zc_X11_isMade ∈ mq_T := mq_T_mem (mq_t6 (List.mem_of_getElem? (i := 229) rfl)) rfl
theorem zt_X11_isMade_i : Cond.instanceMethod yX11_isMade ∈ mq_T := mq_T_mem (mq_t6 (List.mem_of_getElem? (i := 228) rfl)) rfl
theorem zt_X11_isMade_s : Cond.selects RX11 yX11_isMade yX11_isMade ∈ mq_T := mq_T_at 76 (by decide +kernel)
set_option maxHeartbeats 4000000 in
theorem zk_X11_isMade {p : Program} {l : Launch} {e : Env} {R : Room} {s : State} {m : MethodId} {args : Array Value} {below : List Frame} {meth : Method} {c : Code} {A : Nat → Prop} {D : va_G} {a z : Nat → Nat} {cI cL cB cZ : ClassId} {Q : State → Prop} {cc : ByteArray} {nL idx pc N : Nat} {own : String} {c1 : Cond} {H : Heap} {locs : List Loc} {ls : Array Slot} {rest : List Value} {S : mq_St} {res : Int32 × mq_St} {v1 : Int32} {v2 : Int32} (C : mq_C p s m args c A D cI cL cB cZ cc nL own c1) (hlk : Cond.methodLink own idx yX11_isMade ∈ mq_T) (hR : zr_X11_isMade.frames + 1 ≤ R.frames ∧ 8 + (3 + 11) + zr_X11_isMade.locals ≤ R.locals) (h : zf_X11_isMade N z v1 v2 S = some res) (hP : va_P D vwCl (wd_R a cI cL cB cZ z S) H) (hD : va_D A (wd_R a cI cL cB cZ z S)) (hS : va_S A s.heap H locs) (hls : ls.size = nL) (hrest : (rest.map fun v => v.category).sum ≤ 8) (hdg : decode cc pc = .ok (.invokevirtual idx, 3)) (kk : ∀ (H1 : Heap) (locs1 : List Loc), va_P D vwCl (wd_R a cI cL cB cZ z res.2) H1 → va_D A (wd_R a cI cL cB cZ z res.2) → va_S A s.heap H1 locs1 → W p l e R s m args below meth c H1 locs1 0 0 Q (F0 m (pc + 3) ls (.int res.1 :: rest))) : W p l e R s m args below meth c H locs 0 0 Q (F0 m pc ls (.int (v2) :: .int (v1) :: .ref (a 0) :: rest)) := by
  obtain ⟨hx, hb, hml, hown, hts, hK, hA⟩ := C
  have hFc := mq_freeI hD hS hA
  refine va_calli (va_runV (As := [.int (v1), .int (v2)]) (rest := rest) ⟨hx, hb, hml, hown, hts⟩ (zm_X11_isMade l D a z cI cL cB cZ H.size N v1 v2 S res h) (cwV 2 hts (mq_goodL (mq_wsV hlk zt_X11_isMade_i zt_X11_isMade_s zt_ini_X11 zt_X11_isMade_c)) rfl rfl rfl (by decide +kernel) hR) ⟨fun a U g mk q => ⟨q.1, q.2.1, q.2.2.1, va_K.moved (u := U) (U := U.calling g mk a) (Vm.Alike.refl U.vm) q.2.2.2.1, q.2.2.2.2⟩, zy_R_0 hK hP, fun U hU hW => ⟨rfl, by rw [hU], by rw [hU]; exact hP, va_K.moved hW.alike hK, hD.weaken (fun _ _ _ _ => trivial)⟩⟩ rfl rfl hls rfl (lv_room hrest) hdg ⟨Nat.zero_le _, Nat.zero_le _⟩) hS (fun q _ h => hFc q h) hFc (fun r u t H1 locs ht hvm hw hB hz1 hk1 hS => ?_)
  obtain ⟨rfl, rfl⟩ := hw
  obtain ⟨hP1, hK1, hD1⟩ := hB
  rw [ht] at hP1
  exact kk H1 locs hP1 (hD1.weaken (fun _ _ _ h => hFc _ h)) hS
/-! ModalDeskModel.has(IZ)I -/
def zr_X11_has : Room := { frames := 0, cells := 0, slots := 0, locals := 0 }
def zc_X11_has : Cond := .code yX11_has cX11_has 3 (some .int)
def zf_X11_has (N : Nat) (z : Nat → Nat) (v1 : Int32) (v2 : Int32) (S : mq_St) : Option (Int32) := (if v2 = (0 : Int32) then (mq_ck (v1) 3000 (some ((S.2.1 11 (v1).toNatClampNeg)))) else (mq_ck (v1) 3000 (some ((S.2.1 10 (v1).toNatClampNeg)))))
set_option maxHeartbeats 4000000 in
set_option maxRecDepth 100000 in
theorem zw_X11_has_0 {p : Program} {l : Launch} {e : Env} {s : State} {m : MethodId} {args : Array Value} {below : List Frame} {meth : Method} {c : Code} {A : Nat → Prop} {D : va_G} {a z : Nat → Nat} {cI cL cB cZ : ClassId} {Q : State → Prop} {N : Nat} {S : mq_St} {res : Int32} (C : mq_C p s m args c A D cI cL cB cZ cX11_has 3 RX11 zc_X11_has) (hret : ∀ (H : Heap) (locs : List Loc) (ls : Array Slot) (pc : Nat), decode cX11_has pc = .ok (.ireturn, 1) → va_P D vwCl (wd_R a cI cL cB cZ z S) H → va_D A (wd_R a cI cL cB cZ z S) → va_S A s.heap H locs → W p l e zr_X11_has s m args below meth c H locs 0 0 Q (F0 m pc ls [.int res])) (v1 : Int32) (v2 : Int32) (H : Heap) (locs : List Loc) (ls : Array Slot) (h : zf_X11_has N z v1 v2 S = some res) (hl : lv_has ls 3 [(0, .ref (a 0)), (1, .int (v1)), (2, .int (v2))]) (hP : va_P D vwCl (wd_R a cI cL cB cZ z S) H) (hD : va_D A (wd_R a cI cL cB cZ z S)) (hS : va_S A s.heap H locs) : W p l e zr_X11_has s m args below meth c H locs 0 0 Q (F0 m 0 ls []) := by
  obtain ⟨hx, hb, hml, hown, hts, hK, hA⟩ := id C
  unfold zf_X11_has at h
  refine lv_iload_n hx hb dX11_has_0 rfl (lv_at hl 2 rfl) ?_
  refine lv_if_eq (tgt := 13) hx hb dX11_has_1 (by decide) (fun c3 => ?_) (fun c3 => ?_)
  · replace h := mq_it c3 h
    refine lv_aload_n hx hb dX11_has_13 rfl (lv_at hl 0 rfl) ?_
    refine va_get (D := D) (ci := 11) (v := .ref (a 12)) (C := RX11) (T := TX11) (N := 76) hx hb hts (zi_X11 _) hown hK hP 0 rfl rfl 18 (by decide) (hts _ (List.mem_cons_of_mem _ zt_f_X11_51)) (fun _ h9 => h9) rfl dX11_has_14 ?_
    refine lv_iload_n hx hb dX11_has_17 rfl (lv_at hl 1 rfl) ?_
    have hi1 := mq_ck_in h
    replace h := mq_ck_go h
    refine va_iald (f := S.2.1 11) hx hb hK hP 12 0 rfl rfl hi1 dX11_has_18 ?_
    cases h
    exact hret H locs ls 19 dX11_has_19 hP hD hS
  · replace h := mq_if c3 h
    refine lv_aload_n hx hb dX11_has_4 rfl (lv_at hl 0 rfl) ?_
    refine va_get (D := D) (ci := 11) (v := .ref (a 11)) (C := RX11) (T := TX11) (N := 76) hx hb hts (zi_X11 _) hown hK hP 0 rfl rfl 17 (by decide) (hts _ (List.mem_cons_of_mem _ zt_f_X11_48)) (fun _ h9 => h9) rfl dX11_has_5 ?_
    refine lv_iload_n hx hb dX11_has_8 rfl (lv_at hl 1 rfl) ?_
    have hi2 := mq_ck_in h
    replace h := mq_ck_go h
    refine va_iald (f := S.2.1 10) hx hb hK hP 11 0 rfl rfl hi2 dX11_has_9 ?_
    refine lv_goto (tgt := 19) hx hb dX11_has_10 (by decide) ?_
    cases h
    exact hret H locs ls 19 dX11_has_19 hP hD hS
set_option maxHeartbeats 4000000 in
set_option maxRecDepth 100000 in
theorem zm_X11_has (l : Launch) (D : va_G) (a z : Nat → Nat) (cI cL cB cZ : ClassId) (sz N : Nat) (v1 : Int32) (v2 : Int32) (S : mq_St) (res : Int32) (h : zf_X11_has N z v1 v2 S = some res) : Met l yX11_has (zc_X11_has :: mq_T) zr_X11_has (va_Pc [.ref (a 0), .int (v1), .int (v2)] (fun U => U.heap.size = sz ∧ va_P D vwCl (wd_R a cI cL cB cZ z S) U.heap ∧ va_K D vwCl (mq_tys cI cL cB cZ) U ∧ va_D (fun _ => True) (wd_R a cI cL cB cZ z S))) (va_Qi (fun (r : Int32) (u : mq_St) => r = res ∧ u = S) (fun u t => va_P D vwCl (wd_R a cI cL cB cZ z u) t.heap ∧ va_K D vwCl (mq_tys cI cL cB cZ) t ∧ va_D (va_A (wd_R a cI cL cB cZ z S) sz) (wd_R a cI cL cB cZ z u)) (va_A (wd_R a cI cL cB cZ z S) sz)) 0 0 (va_A (wd_R a cI cL cB cZ z S) sz) := by
  refine Met.ofW (cc := cX11_has) (maxL := 3) (ret := (some .int)) (by decide) rfl ?_
  intro p e s m args below meth c s₁ B hml hv
  obtain ⟨rfl, hsz, hP, hK, hD0⟩ := hv
  have hr := B.returns
  have hlocks := B.notSynchronized
  have hts := atoms_spec (ws := zc_X11_has :: mq_T) B.pre
  have hown : s.vm.findClass RX11 = some m.cls := findClass_of_methodNamed B.named
  subst hsz
  have hD := hD0.self (sz := s.heap.size)
  generalize hAe : va_A (wd_R a cI cL cB cZ z S) s.heap.size = A at hD ⊢
  have hA : ∀ q : Nat, s.heap.size ≤ q → A q := fun q h => by rw [← hAe]; exact Or.inr h
  have hl := lv_entry ([.ref (a 0), .int (v1), .int (v2)]) (n := 3) (Nat.le_of_ble_eq_true rfl)
  rw [lg_entry_eq]
  generalize (lg_sl ([.ref (a 0), .int (v1), .int (v2)]) ++ List.replicate (3 - (lg_sl ([.ref (a 0), .int (v1), .int (v2)])).length) Slot.unset).toArray = ls at hl ⊢
  have hl : lv_has ls 3 [(0, .ref (a 0)), (1, .int (v1)), (2, .int (v2))] := hl
  refine zw_X11_has_0 (A := A) ⟨B.exec, B.bytes, hml, hown, hts, hK, hA⟩ (fun H locs ls pc dg hP hD hS => ?_) v1 v2 s.heap [] ls h hl hP hD va_S.rf
  exact W.iret B.exec B.bytes hr (fun t ht hW => ⟨⟨_, _, rfl, ⟨rfl, rfl⟩, by rw [ht]; exact hP, va_K.moved hW.alike hK, hD⟩, hS.F ht⟩) hS.2.2 dg
theorem zt_X11_has_c : zc_X11_has ∈ mq_T := mq_T_mem (mq_t6 (List.mem_of_getElem? (i := 233) rfl)) rfl
theorem zt_X11_has_i : Cond.instanceMethod yX11_has ∈ mq_T := mq_T_mem (mq_t6 (List.mem_of_getElem? (i := 232) rfl)) rfl
theorem zt_X11_has_s : Cond.selects RX11 yX11_has yX11_has ∈ mq_T := mq_T_at 77 (by decide +kernel)
set_option maxHeartbeats 4000000 in
theorem zk_X11_has {p : Program} {l : Launch} {e : Env} {R : Room} {s : State} {m : MethodId} {args : Array Value} {below : List Frame} {meth : Method} {c : Code} {A : Nat → Prop} {D : va_G} {a z : Nat → Nat} {cI cL cB cZ : ClassId} {Q : State → Prop} {cc : ByteArray} {nL idx pc N : Nat} {own : String} {c1 : Cond} {H : Heap} {locs : List Loc} {ls : Array Slot} {rest : List Value} {S : mq_St} {res : Int32} {v1 : Int32} {v2 : Int32} (C : mq_C p s m args c A D cI cL cB cZ cc nL own c1) (hlk : Cond.methodLink own idx yX11_has ∈ mq_T) (hR : zr_X11_has.frames + 1 ≤ R.frames ∧ 8 + (3 + 11) + zr_X11_has.locals ≤ R.locals) (h : zf_X11_has N z v1 v2 S = some res) (hP : va_P D vwCl (wd_R a cI cL cB cZ z S) H) (hD : va_D A (wd_R a cI cL cB cZ z S)) (hS : va_S A s.heap H locs) (hls : ls.size = nL) (hrest : (rest.map fun v => v.category).sum ≤ 8) (hdg : decode cc pc = .ok (.invokevirtual idx, 3)) (kk : ∀ (H1 : Heap) (locs1 : List Loc), va_P D vwCl (wd_R a cI cL cB cZ z S) H1 → va_D A (wd_R a cI cL cB cZ z S) → va_S A s.heap H1 locs1 → W p l e R s m args below meth c H1 locs1 0 0 Q (F0 m (pc + 3) ls (.int res :: rest))) : W p l e R s m args below meth c H locs 0 0 Q (F0 m pc ls (.int (v2) :: .int (v1) :: .ref (a 0) :: rest)) := by
  obtain ⟨hx, hb, hml, hown, hts, hK, hA⟩ := C
  have hFc := mq_freeI hD hS hA
  refine va_calli (va_runV (As := [.int (v1), .int (v2)]) (rest := rest) ⟨hx, hb, hml, hown, hts⟩ (zm_X11_has l D a z cI cL cB cZ H.size N v1 v2 S res h) (cwV 2 hts (mq_goodL (mq_wsV hlk zt_X11_has_i zt_X11_has_s zt_ini_X11 zt_X11_has_c)) rfl rfl rfl (by decide +kernel) hR) ⟨fun a U g mk q => ⟨q.1, q.2.1, q.2.2.1, va_K.moved (u := U) (U := U.calling g mk a) (Vm.Alike.refl U.vm) q.2.2.2.1, q.2.2.2.2⟩, zy_R_0 hK hP, fun U hU hW => ⟨rfl, by rw [hU], by rw [hU]; exact hP, va_K.moved hW.alike hK, hD.weaken (fun _ _ _ _ => trivial)⟩⟩ rfl rfl hls rfl (lv_room hrest) hdg ⟨Nat.zero_le _, Nat.zero_le _⟩) hS (fun q _ h => hFc q h) hFc (fun r u t H1 locs ht hvm hw hB hz1 hk1 hS => ?_)
  obtain ⟨rfl, rfl⟩ := hw
  obtain ⟨hP1, hK1, hD1⟩ := hB
  rw [ht] at hP1
  exact kk H1 locs hP1 (hD1.weaken (fun _ _ _ h => hFc _ h)) hS
theorem zt_m_X11_234 : Cond.methodLink RX11 234 yX11_isMade ∈ mq_T := mq_T_mem (mq_t6 (List.mem_of_getElem? (i := 226) rfl)) rfl
theorem zt_m_X11_238 : Cond.methodLink RX11 238 yX11_has ∈ mq_T := mq_T_mem (mq_t6 (List.mem_of_getElem? (i := 230) rfl)) rfl
theorem zt_m_X11_242 : Cond.methodLink RX11 242 yX11_make ∈ mq_T := mq_T_mem (mq_t6 (List.mem_of_getElem? (i := 238) rfl)) rfl
/-! ModalDeskModel.pair(IIZIZ)I -/
def zr_X11_pair : Room := { frames := 1, cells := 0, slots := 0, locals := 24 }
def zc_X11_pair : Cond := .code yX11_pair cX11_pair 6 (some .int)
def zf_X11_pair (N : Nat) (z : Nat → Nat) (v1 : Int32) (v2 : Int32) (v3 : Int32) (v4 : Int32) (v5 : Int32) (S : mq_St) : Option (Int32 × mq_St) := (mq_cl (zf_X11_isMade N z (v2) (v3) S) (fun q1v S3 => (if q1v = (0 : Int32) then (some ((-1 : Int32), S3)) else (mq_cl (zf_X11_isMade N z (v4) (v5) S3) (fun q4v S6 => (if q4v = (0 : Int32) then (some ((-1 : Int32), S6)) else (mq_cp (zf_X11_has N z (v2) (v3) S6) (fun q7 => (mq_cp (zf_X11_has N z (v4) (v5) S6) (fun q9 => (mq_cl (zf_X11_make N z (v1) (q7) (q9) S6) (fun q11v S13 => (some (q11v, S13))))))))))))))
set_option maxHeartbeats 4000000 in
set_option maxRecDepth 100000 in
theorem zw_X11_pair_0 {p : Program} {l : Launch} {e : Env} {s : State} {m : MethodId} {args : Array Value} {below : List Frame} {meth : Method} {c : Code} {A : Nat → Prop} {D : va_G} {a z : Nat → Nat} {cI cL cB cZ : ClassId} {Q : State → Prop} {N : Nat} {res : Int32 × mq_St} (C : mq_C p s m args c A D cI cL cB cZ cX11_pair 6 RX11 zc_X11_pair) (hret : ∀ (H : Heap) (locs : List Loc) (ls : Array Slot) (pc : Nat), decode cX11_pair pc = .ok (.ireturn, 1) → va_P D vwCl (wd_R a cI cL cB cZ z res.2) H → va_D A (wd_R a cI cL cB cZ z res.2) → va_S A s.heap H locs → W p l e zr_X11_pair s m args below meth c H locs 0 0 Q (F0 m pc ls [.int res.1])) (v1 : Int32) (v2 : Int32) (v3 : Int32) (v4 : Int32) (v5 : Int32) (S : mq_St) (H : Heap) (locs : List Loc) (ls : Array Slot) (h : zf_X11_pair N z v1 v2 v3 v4 v5 S = some res) (hl : lv_has ls 6 [(0, .ref (a 0)), (1, .int (v1)), (2, .int (v2)), (3, .int (v3)), (4, .int (v4)), (5, .int (v5))]) (hP : va_P D vwCl (wd_R a cI cL cB cZ z S) H) (hD : va_D A (wd_R a cI cL cB cZ z S)) (hS : va_S A s.heap H locs) : W p l e zr_X11_pair s m args below meth c H locs 0 0 Q (F0 m 0 ls []) := by
  obtain ⟨hx, hb, hml, hown, hts, hK, hA⟩ := id C
  unfold zf_X11_pair at h
  refine lv_aload_n hx hb dX11_pair_0 rfl (lv_at hl 0 rfl) ?_
  refine lv_iload_n hx hb dX11_pair_1 rfl (lv_at hl 2 rfl) ?_
  refine lv_iload_n hx hb dX11_pair_2 rfl (lv_at hl 3 rfl) ?_
  obtain ⟨q1, hc2, h⟩ := mq_cl_go h
  refine zk_X11_isMade C zt_m_X11_234 ⟨by decide, by decide⟩ hc2 hP hD hS hl.1 (Nat.le_of_ble_eq_true rfl) dX11_pair_3 (fun H locs hP hD hS => ?_)
  obtain ⟨S3, eS3⟩ : ∃ y, y = q1.2 := ⟨_, rfl⟩
  rw [← eS3] at hP hD h
  refine lv_if_eq (tgt := 20) hx hb dX11_pair_6 (by decide) (fun c15 => ?_) (fun c15 => ?_)
  · replace h := mq_it c15 h
    refine lv_iconst (v := (-1 : Int32)) hx hb dX11_pair_20 (by decide) ?_
    cases h
    exact hret H locs ls 21 dX11_pair_21 hP hD hS
  · replace h := mq_if c15 h
    refine lv_aload_n hx hb dX11_pair_9 rfl (lv_at hl 0 rfl) ?_
    refine lv_iload hx hb dX11_pair_10 (lv_at hl 4 rfl) ?_
    refine lv_iload hx hb dX11_pair_12 (lv_at hl 5 rfl) ?_
    obtain ⟨q4, hc5, h⟩ := mq_cl_go h
    refine zk_X11_isMade C zt_m_X11_234 ⟨by decide, by decide⟩ hc5 hP hD hS hl.1 (Nat.le_of_ble_eq_true rfl) dX11_pair_14 (fun H locs hP hD hS => ?_)
    obtain ⟨S6, eS6⟩ : ∃ y, y = q4.2 := ⟨_, rfl⟩
    rw [← eS6] at hP hD h
    refine lv_if_ne (tgt := 22) hx hb dX11_pair_17 (by decide) (fun c14 => ?_) (fun c14 => ?_)
    · replace h := mq_if c14 h
      refine lv_aload_n hx hb dX11_pair_22 rfl (lv_at hl 0 rfl) ?_
      refine lv_iload_n hx hb dX11_pair_23 rfl (lv_at hl 1 rfl) ?_
      refine lv_aload_n hx hb dX11_pair_24 rfl (lv_at hl 0 rfl) ?_
      refine lv_iload_n hx hb dX11_pair_25 rfl (lv_at hl 2 rfl) ?_
      refine lv_iload_n hx hb dX11_pair_26 rfl (lv_at hl 3 rfl) ?_
      obtain ⟨q7, hc8, h⟩ := mq_cp_go h
      refine zk_X11_has C zt_m_X11_238 ⟨by decide, by decide⟩ hc8 hP hD hS hl.1 (Nat.le_of_ble_eq_true rfl) dX11_pair_27 (fun H locs hP hD hS => ?_)
      refine lv_aload_n hx hb dX11_pair_30 rfl (lv_at hl 0 rfl) ?_
      refine lv_iload hx hb dX11_pair_31 (lv_at hl 4 rfl) ?_
      refine lv_iload hx hb dX11_pair_33 (lv_at hl 5 rfl) ?_
      obtain ⟨q9, hc10, h⟩ := mq_cp_go h
      refine zk_X11_has C zt_m_X11_238 ⟨by decide, by decide⟩ hc10 hP hD hS hl.1 (Nat.le_of_ble_eq_true rfl) dX11_pair_35 (fun H locs hP hD hS => ?_)
      obtain ⟨q11, hc12, h⟩ := mq_cl_go h
      refine zk_X11_make C zt_m_X11_242 ⟨by decide, by decide⟩ hc12 hP hD hS hl.1 (Nat.le_of_ble_eq_true rfl) dX11_pair_38 (fun H locs hP hD hS => ?_)
      obtain ⟨S13, eS13⟩ : ∃ y, y = q11.2 := ⟨_, rfl⟩
      rw [← eS13] at hP hD h
      cases h
      exact hret H locs ls 41 dX11_pair_41 hP hD hS
    · replace h := mq_it (by simpa using c14) h
      refine lv_iconst (v := (-1 : Int32)) hx hb dX11_pair_20 (by decide) ?_
      cases h
      exact hret H locs ls 21 dX11_pair_21 hP hD hS
set_option maxHeartbeats 4000000 in
set_option maxRecDepth 100000 in
theorem zm_X11_pair (l : Launch) (D : va_G) (a z : Nat → Nat) (cI cL cB cZ : ClassId) (sz N : Nat) (v1 : Int32) (v2 : Int32) (v3 : Int32) (v4 : Int32) (v5 : Int32) (S : mq_St) (res : Int32 × mq_St) (h : zf_X11_pair N z v1 v2 v3 v4 v5 S = some res) : Met l yX11_pair (zc_X11_pair :: mq_T) zr_X11_pair (va_Pc [.ref (a 0), .int (v1), .int (v2), .int (v3), .int (v4), .int (v5)] (fun U => U.heap.size = sz ∧ va_P D vwCl (wd_R a cI cL cB cZ z S) U.heap ∧ va_K D vwCl (mq_tys cI cL cB cZ) U ∧ va_D (fun _ => True) (wd_R a cI cL cB cZ z S))) (va_Qi (fun (r : Int32) (u : mq_St) => r = res.1 ∧ u = res.2) (fun u t => va_P D vwCl (wd_R a cI cL cB cZ z u) t.heap ∧ va_K D vwCl (mq_tys cI cL cB cZ) t ∧ va_D (va_A (wd_R a cI cL cB cZ z S) sz) (wd_R a cI cL cB cZ z u)) (va_A (wd_R a cI cL cB cZ z S) sz)) 0 0 (va_A (wd_R a cI cL cB cZ z S) sz) := by
  refine Met.ofW (cc := cX11_pair) (maxL := 6) (ret := (some .int)) (by decide) rfl ?_
  intro p e s m args below meth c s₁ B hml hv
  obtain ⟨rfl, hsz, hP, hK, hD0⟩ := hv
  have hr := B.returns
  have hlocks := B.notSynchronized
  have hts := atoms_spec (ws := zc_X11_pair :: mq_T) B.pre
  have hown : s.vm.findClass RX11 = some m.cls := findClass_of_methodNamed B.named
  subst hsz
  have hD := hD0.self (sz := s.heap.size)
  generalize hAe : va_A (wd_R a cI cL cB cZ z S) s.heap.size = A at hD ⊢
  have hA : ∀ q : Nat, s.heap.size ≤ q → A q := fun q h => by rw [← hAe]; exact Or.inr h
  have hl := lv_entry ([.ref (a 0), .int (v1), .int (v2), .int (v3), .int (v4), .int (v5)]) (n := 6) (Nat.le_of_ble_eq_true rfl)
  rw [lg_entry_eq]
  generalize (lg_sl ([.ref (a 0), .int (v1), .int (v2), .int (v3), .int (v4), .int (v5)]) ++ List.replicate (6 - (lg_sl ([.ref (a 0), .int (v1), .int (v2), .int (v3), .int (v4), .int (v5)])).length) Slot.unset).toArray = ls at hl ⊢
  have hl : lv_has ls 6 [(0, .ref (a 0)), (1, .int (v1)), (2, .int (v2)), (3, .int (v3)), (4, .int (v4)), (5, .int (v5))] := hl
  refine zw_X11_pair_0 (A := A) ⟨B.exec, B.bytes, hml, hown, hts, hK, hA⟩ (fun H locs ls pc dg hP hD hS => ?_) v1 v2 v3 v4 v5 S s.heap [] ls h hl hP hD va_S.rf
  exact W.iret B.exec B.bytes hr (fun t ht hW => ⟨⟨_, _, rfl, ⟨rfl, rfl⟩, by rw [ht]; exact hP, va_K.moved hW.alike hK, hD⟩, hS.F ht⟩) hS.2.2 dg
theorem zt_X11_pair_c : zc_X11_pair ∈ mq_T := mq_T_mem (mq_t7 (List.mem_of_getElem? (i := 5) rfl)) rfl
theorem zt_X11_pair_i : Cond.instanceMethod yX11_pair ∈ mq_T := mq_T_mem (mq_t7 (List.mem_of_getElem? (i := 4) rfl)) rfl
theorem zt_X11_pair_s : Cond.selects RX11 yX11_pair yX11_pair ∈ mq_T := mq_T_at 80 (by decide +kernel)
set_option maxHeartbeats 4000000 in
theorem zk_X11_pair {p : Program} {l : Launch} {e : Env} {R : Room} {s : State} {m : MethodId} {args : Array Value} {below : List Frame} {meth : Method} {c : Code} {A : Nat → Prop} {D : va_G} {a z : Nat → Nat} {cI cL cB cZ : ClassId} {Q : State → Prop} {cc : ByteArray} {nL idx pc N : Nat} {own : String} {c1 : Cond} {H : Heap} {locs : List Loc} {ls : Array Slot} {rest : List Value} {S : mq_St} {res : Int32 × mq_St} {v1 : Int32} {v2 : Int32} {v3 : Int32} {v4 : Int32} {v5 : Int32} (C : mq_C p s m args c A D cI cL cB cZ cc nL own c1) (hlk : Cond.methodLink own idx yX11_pair ∈ mq_T) (hR : zr_X11_pair.frames + 1 ≤ R.frames ∧ 8 + (6 + 11) + zr_X11_pair.locals ≤ R.locals) (h : zf_X11_pair N z v1 v2 v3 v4 v5 S = some res) (hP : va_P D vwCl (wd_R a cI cL cB cZ z S) H) (hD : va_D A (wd_R a cI cL cB cZ z S)) (hS : va_S A s.heap H locs) (hls : ls.size = nL) (hrest : (rest.map fun v => v.category).sum ≤ 8) (hdg : decode cc pc = .ok (.invokevirtual idx, 3)) (kk : ∀ (H1 : Heap) (locs1 : List Loc), va_P D vwCl (wd_R a cI cL cB cZ z res.2) H1 → va_D A (wd_R a cI cL cB cZ z res.2) → va_S A s.heap H1 locs1 → W p l e R s m args below meth c H1 locs1 0 0 Q (F0 m (pc + 3) ls (.int res.1 :: rest))) : W p l e R s m args below meth c H locs 0 0 Q (F0 m pc ls (.int (v5) :: .int (v4) :: .int (v3) :: .int (v2) :: .int (v1) :: .ref (a 0) :: rest)) := by
  obtain ⟨hx, hb, hml, hown, hts, hK, hA⟩ := C
  have hFc := mq_freeI hD hS hA
  refine va_calli (va_runV (As := [.int (v1), .int (v2), .int (v3), .int (v4), .int (v5)]) (rest := rest) ⟨hx, hb, hml, hown, hts⟩ (zm_X11_pair l D a z cI cL cB cZ H.size N v1 v2 v3 v4 v5 S res h) (cwV 5 hts (mq_goodL (mq_wsV hlk zt_X11_pair_i zt_X11_pair_s zt_ini_X11 zt_X11_pair_c)) rfl rfl rfl (by decide +kernel) hR) ⟨fun a U g mk q => ⟨q.1, q.2.1, q.2.2.1, va_K.moved (u := U) (U := U.calling g mk a) (Vm.Alike.refl U.vm) q.2.2.2.1, q.2.2.2.2⟩, zy_R_0 hK hP, fun U hU hW => ⟨rfl, by rw [hU], by rw [hU]; exact hP, va_K.moved hW.alike hK, hD.weaken (fun _ _ _ _ => trivial)⟩⟩ rfl rfl hls rfl (lv_room hrest) hdg ⟨Nat.zero_le _, Nat.zero_le _⟩) hS (fun q _ h => hFc q h) hFc (fun r u t H1 locs ht hvm hw hB hz1 hk1 hS => ?_)
  obtain ⟨rfl, rfl⟩ := hw
  obtain ⟨hP1, hK1, hD1⟩ := hB
  rw [ht] at hP1
  exact kk H1 locs hP1 (hD1.weaken (fun _ _ _ h => hFc _ h)) hS
theorem zt_m_X11_245 : Cond.methodLink RX11 245 yX11_pair ∈ mq_T := mq_T_mem (mq_t7 (List.mem_of_getElem? (i := 2) rfl)) rfl
/-! ModalDeskModel.madeOf(IZ)I -/
def zr_X11_madeOf : Room := { frames := 2, cells := 0, slots := 0, locals := 49 }
def zc_X11_madeOf : Cond := .code yX11_madeOf cX11_madeOf 7 (some .int)
def zf_X11_madeOf_102 (N : Nat) (z : Nat → Nat) (v3 : Int32) (t1 : Int32) (S : mq_St) : Option (Int32 × mq_St) := (mq_cl (zf_X11_make N z (t1) (v3) ((-1 : Int32)) S) (fun q77v S79 => (some (q77v, S79))))
def zf_X11_madeOf_136 (N : Nat) (z : Nat → Nat) (t1 : Int32) (t2 : Int32) (S : mq_St) : Option (Int32 × mq_St) := (mq_cp (zf_X11_has N z (t1) (t2) S) (fun q75 => (some (q75, S))))
def zf_X11_madeOf_119 (N : Nat) (z : Nat → Nat) (v2 : Int32) (v3 : Int32) (t1 : Int32) (t2 : Int32) (S : mq_St) : Option (Int32 × mq_St) := (mq_cl (zf_X11_isMade N z (t1) (t2) S) (fun q70v S72 => (if q70v = (0 : Int32) then (some ((-1 : Int32), S72)) else (if v2 = (0 : Int32) then (zf_X11_madeOf_136 N z (v3) ((1 : Int32)) S72) else (zf_X11_madeOf_136 N z (v3) ((0 : Int32)) S72)))))
def zf_X11_madeOf_154 (N : Nat) (z : Nat → Nat) (v2 : Int32) (v3 : Int32) (v4 : Int32) (t1 : Int32) (S : mq_St) : Option (Int32 × mq_St) := (mq_cl (zf_X11_pair N z (t1) (v3) (v2) (v4) (v2) S) (fun q67v S69 => (some (q67v, S69))))
def zf_X11_madeOf_173 (N : Nat) (z : Nat → Nat) (v2 : Int32) (v3 : Int32) (v4 : Int32) (t1 : Int32) (S : mq_St) : Option (Int32 × mq_St) := (mq_cl (zf_X11_pair N z (t1) (v3) (v2) (v4) (v2) S) (fun q64v S66 => (some (q64v, S66))))
def zf_X11_madeOf_202 (N : Nat) (z : Nat → Nat) (v2 : Int32) (v4 : Int32) (t1 : Int32) (t2 : Int32) (t3 : Int32) (S : mq_St) : Option (Int32 × mq_St) := (mq_cl (zf_X11_pair N z (t1) (t2) (t3) (v4) (v2) S) (fun q61v S63 => (some (q61v, S63))))
def zf_X11_madeOf_192 (N : Nat) (z : Nat → Nat) (v2 : Int32) (v3 : Int32) (v4 : Int32) (t1 : Int32) (S : mq_St) : Option (Int32 × mq_St) := (if v2 = (0 : Int32) then (zf_X11_madeOf_202 N z (v2) (v4) (t1) (v3) ((1 : Int32)) S) else (zf_X11_madeOf_202 N z (v2) (v4) (t1) (v3) ((0 : Int32)) S))
def zf_X11_madeOf_295 (N : Nat) (z : Nat → Nat) (v5 : Int32) (v6 : Int32) (t1 : Int32) (S : mq_St) : Option (Int32 × mq_St) := (mq_cl (zf_X11_make N z (t1) (v5) (v6) S) (fun q53v S55 => (some (q53v, S55))))
def zf_X11_madeOf_273 (N : Nat) (z : Nat → Nat) (v2 : Int32) (v5 : Int32) (t0 : Int32) (S : mq_St) : Option (Int32 × mq_St) := (mq_nI (t0) (fun x50 => (if x50 = (-1 : Int32) then (some ((-1 : Int32), S)) else (if v2 = (0 : Int32) then (zf_X11_madeOf_295 N z (v5) (x50) ((5 : Int32)) S) else (zf_X11_madeOf_295 N z (v5) (x50) ((4 : Int32)) S)))))
def zf_X11_madeOf_270 (N : Nat) (z : Nat → Nat) (v2 : Int32) (v5 : Int32) (t1 : Int32) (t2 : Int32) (t3 : Int32) (t4 : Int32) (t5 : Int32) (S : mq_St) : Option (Int32 × mq_St) := (mq_cl (zf_X11_pair N z (t1) (t2) (t3) (t4) (t5) S) (fun q57v S59 => (zf_X11_madeOf_273 N z (v2) (v5) (q57v) S59)))
def zf_X11_madeOf_257 (N : Nat) (z : Nat → Nat) (v2 : Int32) (v3 : Int32) (v4 : Int32) (v5 : Int32) (t1 : Int32) (S : mq_St) : Option (Int32 × mq_St) := (if v2 = (0 : Int32) then (zf_X11_madeOf_270 N z (v2) (v5) (t1) (v3) (v2) (v4) ((1 : Int32)) S) else (zf_X11_madeOf_270 N z (v2) (v5) (t1) (v3) (v2) (v4) ((0 : Int32)) S))
def zf_X11_madeOf_229 (N : Nat) (z : Nat → Nat) (v2 : Int32) (v3 : Int32) (v4 : Int32) (t1 : Int32) (t2 : Int32) (t3 : Int32) (S : mq_St) : Option (Int32 × mq_St) := (mq_cl (zf_X11_pair N z (t1) (t2) (t3) (v4) (v2) S) (fun q44v S46 => (mq_nI (q44v) (fun x47 => (if x47 = (-1 : Int32) then (zf_X11_madeOf_273 N z (v2) (x47) ((-1 : Int32)) S46) else (if v2 = (0 : Int32) then (zf_X11_madeOf_257 N z (v2) (v3) (v4) (x47) ((4 : Int32)) S46) else (zf_X11_madeOf_257 N z (v2) (v3) (v4) (x47) ((5 : Int32)) S46)))))))
def zf_X11_madeOf_219 (N : Nat) (z : Nat → Nat) (v2 : Int32) (v3 : Int32) (v4 : Int32) (t1 : Int32) (S : mq_St) : Option (Int32 × mq_St) := (if v2 = (0 : Int32) then (zf_X11_madeOf_229 N z (v2) (v3) (v4) (t1) (v3) ((1 : Int32)) S) else (zf_X11_madeOf_229 N z (v2) (v3) (v4) (t1) (v3) ((0 : Int32)) S))
def zf_X11_madeOf_324 (N : Nat) (z : Nat → Nat) (v2 : Int32) (v3 : Int32) (t1 : Int32) (S : mq_St) : Option (Int32 × mq_St) := (mq_cp (zf_X11_has N z (v3) (v2) S) (fun q38 => (mq_cl (zf_X11_make N z (t1) (q38) ((-1 : Int32)) S) (fun q40v S42 => (some (q40v, S42))))))
def zf_X11_madeOf_360 (N : Nat) (z : Nat → Nat) (v2 : Int32) (v3 : Int32) (t1 : Int32) (S : mq_St) : Option (Int32 × mq_St) := (mq_cp (zf_X11_has N z (v3) (v2) S) (fun q33 => (mq_cl (zf_X11_make N z (t1) (q33) ((-1 : Int32)) S) (fun q35v S37 => (some (q35v, S37))))))
def zf_X11_madeOf (N : Nat) (z : Nat → Nat) (v1 : Int32) (v2 : Int32) (S : mq_St) : Option (Int32 × mq_St) := (mq_ck (v1) 3000 (mq_nI ((S.2.1 8 (v1).toNatClampNeg)) (fun x2 => (mq_ck (v1) 3000 (mq_nI ((S.2.1 9 (v1).toNatClampNeg)) (fun x4 => (mq_ck (v1) 3000 (if (S.2.1 7 (v1).toNatClampNeg) = 0 then (if v2 = (0 : Int32) then (some ((1 : Int32), S)) else (some ((0 : Int32), S))) else (if (S.2.1 7 (v1).toNatClampNeg) = 1 then (if v2 = (0 : Int32) then (some ((0 : Int32), S)) else (some ((1 : Int32), S))) else (if (S.2.1 7 (v1).toNatClampNeg) = 2 then (if v2 = (0 : Int32) then (zf_X11_madeOf_102 N z (x2) ((3 : Int32)) S) else (zf_X11_madeOf_102 N z (x2) ((2 : Int32)) S)) else (if (S.2.1 7 (v1).toNatClampNeg) = 3 then (if v2 = (0 : Int32) then (zf_X11_madeOf_119 N z (v2) (x2) (x2) ((1 : Int32)) S) else (zf_X11_madeOf_119 N z (v2) (x2) (x2) ((0 : Int32)) S)) else (if (S.2.1 7 (v1).toNatClampNeg) = 4 then (if v2 = (0 : Int32) then (zf_X11_madeOf_154 N z (v2) (x2) (x4) ((5 : Int32)) S) else (zf_X11_madeOf_154 N z (v2) (x2) (x4) ((4 : Int32)) S)) else (if (S.2.1 7 (v1).toNatClampNeg) = 5 then (if v2 = (0 : Int32) then (zf_X11_madeOf_173 N z (v2) (x2) (x4) ((4 : Int32)) S) else (zf_X11_madeOf_173 N z (v2) (x2) (x4) ((5 : Int32)) S)) else (if (S.2.1 7 (v1).toNatClampNeg) = 6 then (if v2 = (0 : Int32) then (zf_X11_madeOf_192 N z (v2) (x2) (x4) ((4 : Int32)) S) else (zf_X11_madeOf_192 N z (v2) (x2) (x4) ((5 : Int32)) S)) else (if (S.2.1 7 (v1).toNatClampNeg) = 7 then (if v2 = (0 : Int32) then (zf_X11_madeOf_219 N z (v2) (x2) (x4) ((4 : Int32)) S) else (zf_X11_madeOf_219 N z (v2) (x2) (x4) ((5 : Int32)) S)) else (if (S.2.1 7 (v1).toNatClampNeg) = 8 then (mq_cl (zf_X11_isMade N z (x2) (v2) S) (fun q23v S25 => (if q23v = (0 : Int32) then (some ((-1 : Int32), S25)) else (if v2 = (0 : Int32) then (zf_X11_madeOf_324 N z (v2) (x2) ((7 : Int32)) S25) else (zf_X11_madeOf_324 N z (v2) (x2) ((6 : Int32)) S25))))) else (mq_cl (zf_X11_isMade N z (x2) (v2) S) (fun q28v S30 => (if q28v = (0 : Int32) then (some ((-1 : Int32), S30)) else (if v2 = (0 : Int32) then (zf_X11_madeOf_360 N z (v2) (x2) ((6 : Int32)) S30) else (zf_X11_madeOf_360 N z (v2) (x2) ((7 : Int32)) S30)))))))))))))))))))))
set_option maxHeartbeats 4000000 in
set_option maxRecDepth 100000 in
theorem zw_X11_madeOf_102 {p : Program} {l : Launch} {e : Env} {s : State} {m : MethodId} {args : Array Value} {below : List Frame} {meth : Method} {c : Code} {A : Nat → Prop} {D : va_G} {a z : Nat → Nat} {cI cL cB cZ : ClassId} {Q : State → Prop} {N : Nat} {res : Int32 × mq_St} (C : mq_C p s m args c A D cI cL cB cZ cX11_madeOf 7 RX11 zc_X11_madeOf) (hret : ∀ (H : Heap) (locs : List Loc) (ls : Array Slot) (pc : Nat), decode cX11_madeOf pc = .ok (.ireturn, 1) → va_P D vwCl (wd_R a cI cL cB cZ z res.2) H → va_D A (wd_R a cI cL cB cZ z res.2) → va_S A s.heap H locs → W p l e zr_X11_madeOf s m args below meth c H locs 0 0 Q (F0 m pc ls [.int res.1])) (v3 : Int32) (t1 : Int32) (S : mq_St) (H : Heap) (locs : List Loc) (ls : Array Slot) (h : zf_X11_madeOf_102 N z v3 t1 S = some res) (hl : lv_has ls 7 [(3, .int (v3))]) (hP : va_P D vwCl (wd_R a cI cL cB cZ z S) H) (hD : va_D A (wd_R a cI cL cB cZ z S)) (hS : va_S A s.heap H locs) : W p l e zr_X11_madeOf s m args below meth c H locs 0 0 Q (F0 m 102 ls [.int (t1), .ref (a 0)]) := by
  obtain ⟨hx, hb, hml, hown, hts, hK, hA⟩ := id C
  unfold zf_X11_madeOf_102 at h
  refine lv_iload_n hx hb dX11_madeOf_102 rfl (lv_at hl 0 rfl) ?_
  refine lv_iconst (v := (-1 : Int32)) hx hb dX11_madeOf_103 (by decide) ?_
  obtain ⟨q77, hc78, h⟩ := mq_cl_go h
  refine zk_X11_make C zt_m_X11_242 ⟨by decide, by decide⟩ hc78 hP hD hS hl.1 (Nat.le_of_ble_eq_true rfl) dX11_madeOf_104 (fun H locs hP hD hS => ?_)
  obtain ⟨S79, eS79⟩ : ∃ y, y = q77.2 := ⟨_, rfl⟩
  rw [← eS79] at hP hD h
  cases h
  exact hret H locs ls 107 dX11_madeOf_107 hP hD hS
set_option maxHeartbeats 4000000 in
set_option maxRecDepth 100000 in
theorem zw_X11_madeOf_136 {p : Program} {l : Launch} {e : Env} {s : State} {m : MethodId} {args : Array Value} {below : List Frame} {meth : Method} {c : Code} {A : Nat → Prop} {D : va_G} {a z : Nat → Nat} {cI cL cB cZ : ClassId} {Q : State → Prop} {N : Nat} {res : Int32 × mq_St} (C : mq_C p s m args c A D cI cL cB cZ cX11_madeOf 7 RX11 zc_X11_madeOf) (hret : ∀ (H : Heap) (locs : List Loc) (ls : Array Slot) (pc : Nat), decode cX11_madeOf pc = .ok (.ireturn, 1) → va_P D vwCl (wd_R a cI cL cB cZ z res.2) H → va_D A (wd_R a cI cL cB cZ z res.2) → va_S A s.heap H locs → W p l e zr_X11_madeOf s m args below meth c H locs 0 0 Q (F0 m pc ls [.int res.1])) (t1 : Int32) (t2 : Int32) (S : mq_St) (H : Heap) (locs : List Loc) (ls : Array Slot) (h : zf_X11_madeOf_136 N z t1 t2 S = some res) (hl : lv_has ls 7 []) (hP : va_P D vwCl (wd_R a cI cL cB cZ z S) H) (hD : va_D A (wd_R a cI cL cB cZ z S)) (hS : va_S A s.heap H locs) : W p l e zr_X11_madeOf s m args below meth c H locs 0 0 Q (F0 m 136 ls [.int (t2), .int (t1), .ref (a 0)]) := by
  obtain ⟨hx, hb, hml, hown, hts, hK, hA⟩ := id C
  unfold zf_X11_madeOf_136 at h
  obtain ⟨q75, hc76, h⟩ := mq_cp_go h
  refine zk_X11_has C zt_m_X11_238 ⟨by decide, by decide⟩ hc76 hP hD hS hl.1 (Nat.le_of_ble_eq_true rfl) dX11_madeOf_136 (fun H locs hP hD hS => ?_)
  refine lv_goto (tgt := 143) hx hb dX11_madeOf_139 (by decide) ?_
  cases h
  exact hret H locs ls 143 dX11_madeOf_143 hP hD hS
set_option maxHeartbeats 4000000 in
set_option maxRecDepth 100000 in
theorem zw_X11_madeOf_119 {p : Program} {l : Launch} {e : Env} {s : State} {m : MethodId} {args : Array Value} {below : List Frame} {meth : Method} {c : Code} {A : Nat → Prop} {D : va_G} {a z : Nat → Nat} {cI cL cB cZ : ClassId} {Q : State → Prop} {N : Nat} {res : Int32 × mq_St} (C : mq_C p s m args c A D cI cL cB cZ cX11_madeOf 7 RX11 zc_X11_madeOf) (hret : ∀ (H : Heap) (locs : List Loc) (ls : Array Slot) (pc : Nat), decode cX11_madeOf pc = .ok (.ireturn, 1) → va_P D vwCl (wd_R a cI cL cB cZ z res.2) H → va_D A (wd_R a cI cL cB cZ z res.2) → va_S A s.heap H locs → W p l e zr_X11_madeOf s m args below meth c H locs 0 0 Q (F0 m pc ls [.int res.1])) (v2 : Int32) (v3 : Int32) (t1 : Int32) (t2 : Int32) (S : mq_St) (H : Heap) (locs : List Loc) (ls : Array Slot) (h : zf_X11_madeOf_119 N z v2 v3 t1 t2 S = some res) (hl : lv_has ls 7 [(0, .ref (a 0)), (2, .int (v2)), (3, .int (v3))]) (hP : va_P D vwCl (wd_R a cI cL cB cZ z S) H) (hD : va_D A (wd_R a cI cL cB cZ z S)) (hS : va_S A s.heap H locs) : W p l e zr_X11_madeOf s m args below meth c H locs 0 0 Q (F0 m 119 ls [.int (t2), .int (t1), .ref (a 0)]) := by
  obtain ⟨hx, hb, hml, hown, hts, hK, hA⟩ := id C
  unfold zf_X11_madeOf_119 at h
  obtain ⟨q70, hc71, h⟩ := mq_cl_go h
  refine zk_X11_isMade C zt_m_X11_234 ⟨by decide, by decide⟩ hc71 hP hD hS hl.1 (Nat.le_of_ble_eq_true rfl) dX11_madeOf_119 (fun H locs hP hD hS => ?_)
  obtain ⟨S72, eS72⟩ : ∃ y, y = q70.2 := ⟨_, rfl⟩
  rw [← eS72] at hP hD h
  refine lv_if_eq (tgt := 142) hx hb dX11_madeOf_122 (by decide) (fun c74 => ?_) (fun c74 => ?_)
  · replace h := mq_it c74 h
    refine lv_iconst (v := (-1 : Int32)) hx hb dX11_madeOf_142 (by decide) ?_
    cases h
    exact hret H locs ls 143 dX11_madeOf_143 hP hD hS
  · replace h := mq_if c74 h
    refine lv_aload_n hx hb dX11_madeOf_125 rfl (lv_at hl 0 rfl) ?_
    refine lv_iload_n hx hb dX11_madeOf_126 rfl (lv_at hl 2 rfl) ?_
    refine lv_iload_n hx hb dX11_madeOf_127 rfl (lv_at hl 1 rfl) ?_
    refine lv_if_ne (tgt := 135) hx hb dX11_madeOf_128 (by decide) (fun c73 => ?_) (fun c73 => ?_)
    · replace h := mq_if c73 h
      refine lv_iconst (v := (0 : Int32)) hx hb dX11_madeOf_135 (by decide) ?_
      exact zw_X11_madeOf_136 C hret (v3) ((0 : Int32)) S72 H locs ls h (lv_sub hl [] rfl) hP hD hS
    · replace h := mq_it (by simpa using c73) h
      refine lv_iconst (v := (1 : Int32)) hx hb dX11_madeOf_131 (by decide) ?_
      refine lv_goto (tgt := 136) hx hb dX11_madeOf_132 (by decide) ?_
      exact zw_X11_madeOf_136 C hret (v3) ((1 : Int32)) S72 H locs ls h (lv_sub hl [] rfl) hP hD hS
set_option maxHeartbeats 4000000 in
set_option maxRecDepth 100000 in
theorem zw_X11_madeOf_154 {p : Program} {l : Launch} {e : Env} {s : State} {m : MethodId} {args : Array Value} {below : List Frame} {meth : Method} {c : Code} {A : Nat → Prop} {D : va_G} {a z : Nat → Nat} {cI cL cB cZ : ClassId} {Q : State → Prop} {N : Nat} {res : Int32 × mq_St} (C : mq_C p s m args c A D cI cL cB cZ cX11_madeOf 7 RX11 zc_X11_madeOf) (hret : ∀ (H : Heap) (locs : List Loc) (ls : Array Slot) (pc : Nat), decode cX11_madeOf pc = .ok (.ireturn, 1) → va_P D vwCl (wd_R a cI cL cB cZ z res.2) H → va_D A (wd_R a cI cL cB cZ z res.2) → va_S A s.heap H locs → W p l e zr_X11_madeOf s m args below meth c H locs 0 0 Q (F0 m pc ls [.int res.1])) (v2 : Int32) (v3 : Int32) (v4 : Int32) (t1 : Int32) (S : mq_St) (H : Heap) (locs : List Loc) (ls : Array Slot) (h : zf_X11_madeOf_154 N z v2 v3 v4 t1 S = some res) (hl : lv_has ls 7 [(2, .int (v2)), (3, .int (v3)), (4, .int (v4))]) (hP : va_P D vwCl (wd_R a cI cL cB cZ z S) H) (hD : va_D A (wd_R a cI cL cB cZ z S)) (hS : va_S A s.heap H locs) : W p l e zr_X11_madeOf s m args below meth c H locs 0 0 Q (F0 m 154 ls [.int (t1), .ref (a 0)]) := by
  obtain ⟨hx, hb, hml, hown, hts, hK, hA⟩ := id C
  unfold zf_X11_madeOf_154 at h
  refine lv_iload_n hx hb dX11_madeOf_154 rfl (lv_at hl 1 rfl) ?_
  refine lv_iload_n hx hb dX11_madeOf_155 rfl (lv_at hl 0 rfl) ?_
  refine lv_iload hx hb dX11_madeOf_156 (lv_at hl 2 rfl) ?_
  refine lv_iload_n hx hb dX11_madeOf_158 rfl (lv_at hl 0 rfl) ?_
  obtain ⟨q67, hc68, h⟩ := mq_cl_go h
  refine zk_X11_pair C zt_m_X11_245 ⟨by decide, by decide⟩ hc68 hP hD hS hl.1 (Nat.le_of_ble_eq_true rfl) dX11_madeOf_159 (fun H locs hP hD hS => ?_)
  obtain ⟨S69, eS69⟩ : ∃ y, y = q67.2 := ⟨_, rfl⟩
  rw [← eS69] at hP hD h
  cases h
  exact hret H locs ls 162 dX11_madeOf_162 hP hD hS
set_option maxHeartbeats 4000000 in
set_option maxRecDepth 100000 in
theorem zw_X11_madeOf_173 {p : Program} {l : Launch} {e : Env} {s : State} {m : MethodId} {args : Array Value} {below : List Frame} {meth : Method} {c : Code} {A : Nat → Prop} {D : va_G} {a z : Nat → Nat} {cI cL cB cZ : ClassId} {Q : State → Prop} {N : Nat} {res : Int32 × mq_St} (C : mq_C p s m args c A D cI cL cB cZ cX11_madeOf 7 RX11 zc_X11_madeOf) (hret : ∀ (H : Heap) (locs : List Loc) (ls : Array Slot) (pc : Nat), decode cX11_madeOf pc = .ok (.ireturn, 1) → va_P D vwCl (wd_R a cI cL cB cZ z res.2) H → va_D A (wd_R a cI cL cB cZ z res.2) → va_S A s.heap H locs → W p l e zr_X11_madeOf s m args below meth c H locs 0 0 Q (F0 m pc ls [.int res.1])) (v2 : Int32) (v3 : Int32) (v4 : Int32) (t1 : Int32) (S : mq_St) (H : Heap) (locs : List Loc) (ls : Array Slot) (h : zf_X11_madeOf_173 N z v2 v3 v4 t1 S = some res) (hl : lv_has ls 7 [(2, .int (v2)), (3, .int (v3)), (4, .int (v4))]) (hP : va_P D vwCl (wd_R a cI cL cB cZ z S) H) (hD : va_D A (wd_R a cI cL cB cZ z S)) (hS : va_S A s.heap H locs) : W p l e zr_X11_madeOf s m args below meth c H locs 0 0 Q (F0 m 173 ls [.int (t1), .ref (a 0)]) := by
  obtain ⟨hx, hb, hml, hown, hts, hK, hA⟩ := id C
  unfold zf_X11_madeOf_173 at h
  refine lv_iload_n hx hb dX11_madeOf_173 rfl (lv_at hl 1 rfl) ?_
  refine lv_iload_n hx hb dX11_madeOf_174 rfl (lv_at hl 0 rfl) ?_
  refine lv_iload hx hb dX11_madeOf_175 (lv_at hl 2 rfl) ?_
  refine lv_iload_n hx hb dX11_madeOf_177 rfl (lv_at hl 0 rfl) ?_
  obtain ⟨q64, hc65, h⟩ := mq_cl_go h
  refine zk_X11_pair C zt_m_X11_245 ⟨by decide, by decide⟩ hc65 hP hD hS hl.1 (Nat.le_of_ble_eq_true rfl) dX11_madeOf_178 (fun H locs hP hD hS => ?_)
  obtain ⟨S66, eS66⟩ : ∃ y, y = q64.2 := ⟨_, rfl⟩
  rw [← eS66] at hP hD h
  cases h
  exact hret H locs ls 181 dX11_madeOf_181 hP hD hS
set_option maxHeartbeats 4000000 in
set_option maxRecDepth 100000 in
theorem zw_X11_madeOf_202 {p : Program} {l : Launch} {e : Env} {s : State} {m : MethodId} {args : Array Value} {below : List Frame} {meth : Method} {c : Code} {A : Nat → Prop} {D : va_G} {a z : Nat → Nat} {cI cL cB cZ : ClassId} {Q : State → Prop} {N : Nat} {res : Int32 × mq_St} (C : mq_C p s m args c A D cI cL cB cZ cX11_madeOf 7 RX11 zc_X11_madeOf) (hret : ∀ (H : Heap) (locs : List Loc) (ls : Array Slot) (pc : Nat), decode cX11_madeOf pc = .ok (.ireturn, 1) → va_P D vwCl (wd_R a cI cL cB cZ z res.2) H → va_D A (wd_R a cI cL cB cZ z res.2) → va_S A s.heap H locs → W p l e zr_X11_madeOf s m args below meth c H locs 0 0 Q (F0 m pc ls [.int res.1])) (v2 : Int32) (v4 : Int32) (t1 : Int32) (t2 : Int32) (t3 : Int32) (S : mq_St) (H : Heap) (locs : List Loc) (ls : Array Slot) (h : zf_X11_madeOf_202 N z v2 v4 t1 t2 t3 S = some res) (hl : lv_has ls 7 [(2, .int (v2)), (4, .int (v4))]) (hP : va_P D vwCl (wd_R a cI cL cB cZ z S) H) (hD : va_D A (wd_R a cI cL cB cZ z S)) (hS : va_S A s.heap H locs) : W p l e zr_X11_madeOf s m args below meth c H locs 0 0 Q (F0 m 202 ls [.int (t3), .int (t2), .int (t1), .ref (a 0)]) := by
  obtain ⟨hx, hb, hml, hown, hts, hK, hA⟩ := id C
  unfold zf_X11_madeOf_202 at h
  refine lv_iload hx hb dX11_madeOf_202 (lv_at hl 1 rfl) ?_
  refine lv_iload_n hx hb dX11_madeOf_204 rfl (lv_at hl 0 rfl) ?_
  obtain ⟨q61, hc62, h⟩ := mq_cl_go h
  refine zk_X11_pair C zt_m_X11_245 ⟨by decide, by decide⟩ hc62 hP hD hS hl.1 (Nat.le_of_ble_eq_true rfl) dX11_madeOf_205 (fun H locs hP hD hS => ?_)
  obtain ⟨S63, eS63⟩ : ∃ y, y = q61.2 := ⟨_, rfl⟩
  rw [← eS63] at hP hD h
  cases h
  exact hret H locs ls 208 dX11_madeOf_208 hP hD hS
set_option maxHeartbeats 4000000 in
set_option maxRecDepth 100000 in
theorem zw_X11_madeOf_192 {p : Program} {l : Launch} {e : Env} {s : State} {m : MethodId} {args : Array Value} {below : List Frame} {meth : Method} {c : Code} {A : Nat → Prop} {D : va_G} {a z : Nat → Nat} {cI cL cB cZ : ClassId} {Q : State → Prop} {N : Nat} {res : Int32 × mq_St} (C : mq_C p s m args c A D cI cL cB cZ cX11_madeOf 7 RX11 zc_X11_madeOf) (hret : ∀ (H : Heap) (locs : List Loc) (ls : Array Slot) (pc : Nat), decode cX11_madeOf pc = .ok (.ireturn, 1) → va_P D vwCl (wd_R a cI cL cB cZ z res.2) H → va_D A (wd_R a cI cL cB cZ z res.2) → va_S A s.heap H locs → W p l e zr_X11_madeOf s m args below meth c H locs 0 0 Q (F0 m pc ls [.int res.1])) (v2 : Int32) (v3 : Int32) (v4 : Int32) (t1 : Int32) (S : mq_St) (H : Heap) (locs : List Loc) (ls : Array Slot) (h : zf_X11_madeOf_192 N z v2 v3 v4 t1 S = some res) (hl : lv_has ls 7 [(2, .int (v2)), (3, .int (v3)), (4, .int (v4))]) (hP : va_P D vwCl (wd_R a cI cL cB cZ z S) H) (hD : va_D A (wd_R a cI cL cB cZ z S)) (hS : va_S A s.heap H locs) : W p l e zr_X11_madeOf s m args below meth c H locs 0 0 Q (F0 m 192 ls [.int (t1), .ref (a 0)]) := by
  obtain ⟨hx, hb, hml, hown, hts, hK, hA⟩ := id C
  unfold zf_X11_madeOf_192 at h
  refine lv_iload_n hx hb dX11_madeOf_192 rfl (lv_at hl 1 rfl) ?_
  refine lv_iload_n hx hb dX11_madeOf_193 rfl (lv_at hl 0 rfl) ?_
  refine lv_if_ne (tgt := 201) hx hb dX11_madeOf_194 (by decide) (fun c60 => ?_) (fun c60 => ?_)
  · replace h := mq_if c60 h
    refine lv_iconst (v := (0 : Int32)) hx hb dX11_madeOf_201 (by decide) ?_
    exact zw_X11_madeOf_202 C hret (v2) (v4) (t1) (v3) ((0 : Int32)) S H locs ls h (lv_sub hl [0, 2] rfl) hP hD hS
  · replace h := mq_it (by simpa using c60) h
    refine lv_iconst (v := (1 : Int32)) hx hb dX11_madeOf_197 (by decide) ?_
    refine lv_goto (tgt := 202) hx hb dX11_madeOf_198 (by decide) ?_
    exact zw_X11_madeOf_202 C hret (v2) (v4) (t1) (v3) ((1 : Int32)) S H locs ls h (lv_sub hl [0, 2] rfl) hP hD hS
set_option maxHeartbeats 4000000 in
set_option maxRecDepth 100000 in
theorem zw_X11_madeOf_295 {p : Program} {l : Launch} {e : Env} {s : State} {m : MethodId} {args : Array Value} {below : List Frame} {meth : Method} {c : Code} {A : Nat → Prop} {D : va_G} {a z : Nat → Nat} {cI cL cB cZ : ClassId} {Q : State → Prop} {N : Nat} {res : Int32 × mq_St} (C : mq_C p s m args c A D cI cL cB cZ cX11_madeOf 7 RX11 zc_X11_madeOf) (hret : ∀ (H : Heap) (locs : List Loc) (ls : Array Slot) (pc : Nat), decode cX11_madeOf pc = .ok (.ireturn, 1) → va_P D vwCl (wd_R a cI cL cB cZ z res.2) H → va_D A (wd_R a cI cL cB cZ z res.2) → va_S A s.heap H locs → W p l e zr_X11_madeOf s m args below meth c H locs 0 0 Q (F0 m pc ls [.int res.1])) (v5 : Int32) (v6 : Int32) (t1 : Int32) (S : mq_St) (H : Heap) (locs : List Loc) (ls : Array Slot) (h : zf_X11_madeOf_295 N z v5 v6 t1 S = some res) (hl : lv_has ls 7 [(5, .int (v5)), (6, .int (v6))]) (hP : va_P D vwCl (wd_R a cI cL cB cZ z S) H) (hD : va_D A (wd_R a cI cL cB cZ z S)) (hS : va_S A s.heap H locs) : W p l e zr_X11_madeOf s m args below meth c H locs 0 0 Q (F0 m 295 ls [.int (t1), .ref (a 0)]) := by
  obtain ⟨hx, hb, hml, hown, hts, hK, hA⟩ := id C
  unfold zf_X11_madeOf_295 at h
  refine lv_iload hx hb dX11_madeOf_295 (lv_at hl 0 rfl) ?_
  refine lv_iload hx hb dX11_madeOf_297 (lv_at hl 1 rfl) ?_
  obtain ⟨q53, hc54, h⟩ := mq_cl_go h
  refine zk_X11_make C zt_m_X11_242 ⟨by decide, by decide⟩ hc54 hP hD hS hl.1 (Nat.le_of_ble_eq_true rfl) dX11_madeOf_299 (fun H locs hP hD hS => ?_)
  obtain ⟨S55, eS55⟩ : ∃ y, y = q53.2 := ⟨_, rfl⟩
  rw [← eS55] at hP hD h
  cases h
  exact hret H locs ls 302 dX11_madeOf_302 hP hD hS
set_option maxHeartbeats 4000000 in
set_option maxRecDepth 100000 in
theorem zw_X11_madeOf_273 {p : Program} {l : Launch} {e : Env} {s : State} {m : MethodId} {args : Array Value} {below : List Frame} {meth : Method} {c : Code} {A : Nat → Prop} {D : va_G} {a z : Nat → Nat} {cI cL cB cZ : ClassId} {Q : State → Prop} {N : Nat} {res : Int32 × mq_St} (C : mq_C p s m args c A D cI cL cB cZ cX11_madeOf 7 RX11 zc_X11_madeOf) (hret : ∀ (H : Heap) (locs : List Loc) (ls : Array Slot) (pc : Nat), decode cX11_madeOf pc = .ok (.ireturn, 1) → va_P D vwCl (wd_R a cI cL cB cZ z res.2) H → va_D A (wd_R a cI cL cB cZ z res.2) → va_S A s.heap H locs → W p l e zr_X11_madeOf s m args below meth c H locs 0 0 Q (F0 m pc ls [.int res.1])) (v2 : Int32) (v5 : Int32) (t0 : Int32) (S : mq_St) (H : Heap) (locs : List Loc) (ls : Array Slot) (h : zf_X11_madeOf_273 N z v2 v5 t0 S = some res) (hl : lv_has ls 7 [(0, .ref (a 0)), (2, .int (v2)), (5, .int (v5))]) (hP : va_P D vwCl (wd_R a cI cL cB cZ z S) H) (hD : va_D A (wd_R a cI cL cB cZ z S)) (hS : va_S A s.heap H locs) : W p l e zr_X11_madeOf s m args below meth c H locs 0 0 Q (F0 m 273 ls [.int (t0)]) := by
  obtain ⟨hx, hb, hml, hown, hts, hK, hA⟩ := id C
  unfold zf_X11_madeOf_273 at h
  refine lv_topi (fun x50 ex50 => ?_)
  replace h := mq_nI_go ex50 h
  refine lv_istore (lv' := [(6, .int (x50)), (0, .ref (a 0)), (2, .int (v2)), (5, .int (v5))]) hx hb dX11_madeOf_273 hl (by decide) rfl (fun ls hl => ?_)
  refine lv_iload hx hb dX11_madeOf_275 (lv_at hl 0 rfl) ?_
  refine lv_iconst (v := (-1 : Int32)) hx hb dX11_madeOf_277 (by decide) ?_
  refine lv_icmp_ne (tgt := 285) hx hb dX11_madeOf_278 (by decide) (fun c52 => ?_) (fun c52 => ?_)
  · replace h := mq_if c52 h
    refine lv_aload_n hx hb dX11_madeOf_285 rfl (lv_at hl 1 rfl) ?_
    refine lv_iload_n hx hb dX11_madeOf_286 rfl (lv_at hl 2 rfl) ?_
    refine lv_if_eq (tgt := 294) hx hb dX11_madeOf_287 (by decide) (fun c51 => ?_) (fun c51 => ?_)
    · replace h := mq_it c51 h
      refine lv_iconst (v := (5 : Int32)) hx hb dX11_madeOf_294 (by decide) ?_
      exact zw_X11_madeOf_295 C hret (v5) (x50) ((5 : Int32)) S H locs ls h (lv_sub hl [3, 0] rfl) hP hD hS
    · replace h := mq_if c51 h
      refine lv_iconst (v := (4 : Int32)) hx hb dX11_madeOf_290 (by decide) ?_
      refine lv_goto (tgt := 295) hx hb dX11_madeOf_291 (by decide) ?_
      exact zw_X11_madeOf_295 C hret (v5) (x50) ((4 : Int32)) S H locs ls h (lv_sub hl [3, 0] rfl) hP hD hS
  · replace h := mq_it (by simpa using c52) h
    refine lv_iconst (v := (-1 : Int32)) hx hb dX11_madeOf_281 (by decide) ?_
    refine lv_goto (tgt := 302) hx hb dX11_madeOf_282 (by decide) ?_
    cases h
    exact hret H locs ls 302 dX11_madeOf_302 hP hD hS
set_option maxHeartbeats 4000000 in
set_option maxRecDepth 100000 in
theorem zw_X11_madeOf_270 {p : Program} {l : Launch} {e : Env} {s : State} {m : MethodId} {args : Array Value} {below : List Frame} {meth : Method} {c : Code} {A : Nat → Prop} {D : va_G} {a z : Nat → Nat} {cI cL cB cZ : ClassId} {Q : State → Prop} {N : Nat} {res : Int32 × mq_St} (C : mq_C p s m args c A D cI cL cB cZ cX11_madeOf 7 RX11 zc_X11_madeOf) (hret : ∀ (H : Heap) (locs : List Loc) (ls : Array Slot) (pc : Nat), decode cX11_madeOf pc = .ok (.ireturn, 1) → va_P D vwCl (wd_R a cI cL cB cZ z res.2) H → va_D A (wd_R a cI cL cB cZ z res.2) → va_S A s.heap H locs → W p l e zr_X11_madeOf s m args below meth c H locs 0 0 Q (F0 m pc ls [.int res.1])) (v2 : Int32) (v5 : Int32) (t1 : Int32) (t2 : Int32) (t3 : Int32) (t4 : Int32) (t5 : Int32) (S : mq_St) (H : Heap) (locs : List Loc) (ls : Array Slot) (h : zf_X11_madeOf_270 N z v2 v5 t1 t2 t3 t4 t5 S = some res) (hl : lv_has ls 7 [(0, .ref (a 0)), (2, .int (v2)), (5, .int (v5))]) (hP : va_P D vwCl (wd_R a cI cL cB cZ z S) H) (hD : va_D A (wd_R a cI cL cB cZ z S)) (hS : va_S A s.heap H locs) : W p l e zr_X11_madeOf s m args below meth c H locs 0 0 Q (F0 m 270 ls [.int (t5), .int (t4), .int (t3), .int (t2), .int (t1), .ref (a 0)]) := by
  obtain ⟨hx, hb, hml, hown, hts, hK, hA⟩ := id C
  unfold zf_X11_madeOf_270 at h
  obtain ⟨q57, hc58, h⟩ := mq_cl_go h
  refine zk_X11_pair C zt_m_X11_245 ⟨by decide, by decide⟩ hc58 hP hD hS hl.1 (Nat.le_of_ble_eq_true rfl) dX11_madeOf_270 (fun H locs hP hD hS => ?_)
  obtain ⟨S59, eS59⟩ : ∃ y, y = q57.2 := ⟨_, rfl⟩
  rw [← eS59] at hP hD h
  exact zw_X11_madeOf_273 C hret (v2) (v5) (q57.1) S59 H locs ls h (lv_sub hl [0, 1, 2] rfl) hP hD hS
set_option maxHeartbeats 4000000 in
set_option maxRecDepth 100000 in
theorem zw_X11_madeOf_257 {p : Program} {l : Launch} {e : Env} {s : State} {m : MethodId} {args : Array Value} {below : List Frame} {meth : Method} {c : Code} {A : Nat → Prop} {D : va_G} {a z : Nat → Nat} {cI cL cB cZ : ClassId} {Q : State → Prop} {N : Nat} {res : Int32 × mq_St} (C : mq_C p s m args c A D cI cL cB cZ cX11_madeOf 7 RX11 zc_X11_madeOf) (hret : ∀ (H : Heap) (locs : List Loc) (ls : Array Slot) (pc : Nat), decode cX11_madeOf pc = .ok (.ireturn, 1) → va_P D vwCl (wd_R a cI cL cB cZ z res.2) H → va_D A (wd_R a cI cL cB cZ z res.2) → va_S A s.heap H locs → W p l e zr_X11_madeOf s m args below meth c H locs 0 0 Q (F0 m pc ls [.int res.1])) (v2 : Int32) (v3 : Int32) (v4 : Int32) (v5 : Int32) (t1 : Int32) (S : mq_St) (H : Heap) (locs : List Loc) (ls : Array Slot) (h : zf_X11_madeOf_257 N z v2 v3 v4 v5 t1 S = some res) (hl : lv_has ls 7 [(0, .ref (a 0)), (2, .int (v2)), (3, .int (v3)), (4, .int (v4)), (5, .int (v5))]) (hP : va_P D vwCl (wd_R a cI cL cB cZ z S) H) (hD : va_D A (wd_R a cI cL cB cZ z S)) (hS : va_S A s.heap H locs) : W p l e zr_X11_madeOf s m args below meth c H locs 0 0 Q (F0 m 257 ls [.int (t1), .ref (a 0)]) := by
  obtain ⟨hx, hb, hml, hown, hts, hK, hA⟩ := id C
  unfold zf_X11_madeOf_257 at h
  refine lv_iload_n hx hb dX11_madeOf_257 rfl (lv_at hl 2 rfl) ?_
  refine lv_iload_n hx hb dX11_madeOf_258 rfl (lv_at hl 1 rfl) ?_
  refine lv_iload hx hb dX11_madeOf_259 (lv_at hl 3 rfl) ?_
  refine lv_iload_n hx hb dX11_madeOf_261 rfl (lv_at hl 1 rfl) ?_
  refine lv_if_ne (tgt := 269) hx hb dX11_madeOf_262 (by decide) (fun c56 => ?_) (fun c56 => ?_)
  · replace h := mq_if c56 h
    refine lv_iconst (v := (0 : Int32)) hx hb dX11_madeOf_269 (by decide) ?_
    exact zw_X11_madeOf_270 C hret (v2) (v5) (t1) (v3) (v2) (v4) ((0 : Int32)) S H locs ls h (lv_sub hl [0, 1, 4] rfl) hP hD hS
  · replace h := mq_it (by simpa using c56) h
    refine lv_iconst (v := (1 : Int32)) hx hb dX11_madeOf_265 (by decide) ?_
    refine lv_goto (tgt := 270) hx hb dX11_madeOf_266 (by decide) ?_
    exact zw_X11_madeOf_270 C hret (v2) (v5) (t1) (v3) (v2) (v4) ((1 : Int32)) S H locs ls h (lv_sub hl [0, 1, 4] rfl) hP hD hS
set_option maxHeartbeats 4000000 in
set_option maxRecDepth 100000 in
theorem zw_X11_madeOf_229 {p : Program} {l : Launch} {e : Env} {s : State} {m : MethodId} {args : Array Value} {below : List Frame} {meth : Method} {c : Code} {A : Nat → Prop} {D : va_G} {a z : Nat → Nat} {cI cL cB cZ : ClassId} {Q : State → Prop} {N : Nat} {res : Int32 × mq_St} (C : mq_C p s m args c A D cI cL cB cZ cX11_madeOf 7 RX11 zc_X11_madeOf) (hret : ∀ (H : Heap) (locs : List Loc) (ls : Array Slot) (pc : Nat), decode cX11_madeOf pc = .ok (.ireturn, 1) → va_P D vwCl (wd_R a cI cL cB cZ z res.2) H → va_D A (wd_R a cI cL cB cZ z res.2) → va_S A s.heap H locs → W p l e zr_X11_madeOf s m args below meth c H locs 0 0 Q (F0 m pc ls [.int res.1])) (v2 : Int32) (v3 : Int32) (v4 : Int32) (t1 : Int32) (t2 : Int32) (t3 : Int32) (S : mq_St) (H : Heap) (locs : List Loc) (ls : Array Slot) (h : zf_X11_madeOf_229 N z v2 v3 v4 t1 t2 t3 S = some res) (hl : lv_has ls 7 [(0, .ref (a 0)), (2, .int (v2)), (3, .int (v3)), (4, .int (v4))]) (hP : va_P D vwCl (wd_R a cI cL cB cZ z S) H) (hD : va_D A (wd_R a cI cL cB cZ z S)) (hS : va_S A s.heap H locs) : W p l e zr_X11_madeOf s m args below meth c H locs 0 0 Q (F0 m 229 ls [.int (t3), .int (t2), .int (t1), .ref (a 0)]) := by
  obtain ⟨hx, hb, hml, hown, hts, hK, hA⟩ := id C
  unfold zf_X11_madeOf_229 at h
  refine lv_iload hx hb dX11_madeOf_229 (lv_at hl 3 rfl) ?_
  refine lv_iload_n hx hb dX11_madeOf_231 rfl (lv_at hl 1 rfl) ?_
  obtain ⟨q44, hc45, h⟩ := mq_cl_go h
  refine zk_X11_pair C zt_m_X11_245 ⟨by decide, by decide⟩ hc45 hP hD hS hl.1 (Nat.le_of_ble_eq_true rfl) dX11_madeOf_232 (fun H locs hP hD hS => ?_)
  obtain ⟨S46, eS46⟩ : ∃ y, y = q44.2 := ⟨_, rfl⟩
  rw [← eS46] at hP hD h
  refine lv_topi (fun x47 ex47 => ?_)
  replace h := mq_nI_go ex47 h
  refine lv_istore (lv' := [(5, .int (x47)), (0, .ref (a 0)), (2, .int (v2)), (3, .int (v3)), (4, .int (v4))]) hx hb dX11_madeOf_235 hl (by decide) rfl (fun ls hl => ?_)
  refine lv_iload hx hb dX11_madeOf_237 (lv_at hl 0 rfl) ?_
  refine lv_iconst (v := (-1 : Int32)) hx hb dX11_madeOf_239 (by decide) ?_
  refine lv_icmp_ne (tgt := 247) hx hb dX11_madeOf_240 (by decide) (fun c49 => ?_) (fun c49 => ?_)
  · replace h := mq_if c49 h
    refine lv_aload_n hx hb dX11_madeOf_247 rfl (lv_at hl 1 rfl) ?_
    refine lv_iload_n hx hb dX11_madeOf_248 rfl (lv_at hl 2 rfl) ?_
    refine lv_if_eq (tgt := 256) hx hb dX11_madeOf_249 (by decide) (fun c48 => ?_) (fun c48 => ?_)
    · replace h := mq_it c48 h
      refine lv_iconst (v := (4 : Int32)) hx hb dX11_madeOf_256 (by decide) ?_
      exact zw_X11_madeOf_257 C hret (v2) (v3) (v4) (x47) ((4 : Int32)) S46 H locs ls h (lv_sub hl [1, 2, 3, 4, 0] rfl) hP hD hS
    · replace h := mq_if c48 h
      refine lv_iconst (v := (5 : Int32)) hx hb dX11_madeOf_252 (by decide) ?_
      refine lv_goto (tgt := 257) hx hb dX11_madeOf_253 (by decide) ?_
      exact zw_X11_madeOf_257 C hret (v2) (v3) (v4) (x47) ((5 : Int32)) S46 H locs ls h (lv_sub hl [1, 2, 3, 4, 0] rfl) hP hD hS
  · replace h := mq_it (by simpa using c49) h
    refine lv_iconst (v := (-1 : Int32)) hx hb dX11_madeOf_243 (by decide) ?_
    refine lv_goto (tgt := 273) hx hb dX11_madeOf_244 (by decide) ?_
    exact zw_X11_madeOf_273 C hret (v2) (x47) ((-1 : Int32)) S46 H locs ls h (lv_sub hl [1, 2, 0] rfl) hP hD hS
set_option maxHeartbeats 4000000 in
set_option maxRecDepth 100000 in
theorem zw_X11_madeOf_219 {p : Program} {l : Launch} {e : Env} {s : State} {m : MethodId} {args : Array Value} {below : List Frame} {meth : Method} {c : Code} {A : Nat → Prop} {D : va_G} {a z : Nat → Nat} {cI cL cB cZ : ClassId} {Q : State → Prop} {N : Nat} {res : Int32 × mq_St} (C : mq_C p s m args c A D cI cL cB cZ cX11_madeOf 7 RX11 zc_X11_madeOf) (hret : ∀ (H : Heap) (locs : List Loc) (ls : Array Slot) (pc : Nat), decode cX11_madeOf pc = .ok (.ireturn, 1) → va_P D vwCl (wd_R a cI cL cB cZ z res.2) H → va_D A (wd_R a cI cL cB cZ z res.2) → va_S A s.heap H locs → W p l e zr_X11_madeOf s m args below meth c H locs 0 0 Q (F0 m pc ls [.int res.1])) (v2 : Int32) (v3 : Int32) (v4 : Int32) (t1 : Int32) (S : mq_St) (H : Heap) (locs : List Loc) (ls : Array Slot) (h : zf_X11_madeOf_219 N z v2 v3 v4 t1 S = some res) (hl : lv_has ls 7 [(0, .ref (a 0)), (2, .int (v2)), (3, .int (v3)), (4, .int (v4))]) (hP : va_P D vwCl (wd_R a cI cL cB cZ z S) H) (hD : va_D A (wd_R a cI cL cB cZ z S)) (hS : va_S A s.heap H locs) : W p l e zr_X11_madeOf s m args below meth c H locs 0 0 Q (F0 m 219 ls [.int (t1), .ref (a 0)]) := by
  obtain ⟨hx, hb, hml, hown, hts, hK, hA⟩ := id C
  unfold zf_X11_madeOf_219 at h
  refine lv_iload_n hx hb dX11_madeOf_219 rfl (lv_at hl 2 rfl) ?_
  refine lv_iload_n hx hb dX11_madeOf_220 rfl (lv_at hl 1 rfl) ?_
  refine lv_if_ne (tgt := 228) hx hb dX11_madeOf_221 (by decide) (fun c43 => ?_) (fun c43 => ?_)
  · replace h := mq_if c43 h
    refine lv_iconst (v := (0 : Int32)) hx hb dX11_madeOf_228 (by decide) ?_
    exact zw_X11_madeOf_229 C hret (v2) (v3) (v4) (t1) (v3) ((0 : Int32)) S H locs ls h (lv_sub hl [0, 1, 2, 3] rfl) hP hD hS
  · replace h := mq_it (by simpa using c43) h
    refine lv_iconst (v := (1 : Int32)) hx hb dX11_madeOf_224 (by decide) ?_
    refine lv_goto (tgt := 229) hx hb dX11_madeOf_225 (by decide) ?_
    exact zw_X11_madeOf_229 C hret (v2) (v3) (v4) (t1) (v3) ((1 : Int32)) S H locs ls h (lv_sub hl [0, 1, 2, 3] rfl) hP hD hS
set_option maxHeartbeats 4000000 in
set_option maxRecDepth 100000 in
theorem zw_X11_madeOf_324 {p : Program} {l : Launch} {e : Env} {s : State} {m : MethodId} {args : Array Value} {below : List Frame} {meth : Method} {c : Code} {A : Nat → Prop} {D : va_G} {a z : Nat → Nat} {cI cL cB cZ : ClassId} {Q : State → Prop} {N : Nat} {res : Int32 × mq_St} (C : mq_C p s m args c A D cI cL cB cZ cX11_madeOf 7 RX11 zc_X11_madeOf) (hret : ∀ (H : Heap) (locs : List Loc) (ls : Array Slot) (pc : Nat), decode cX11_madeOf pc = .ok (.ireturn, 1) → va_P D vwCl (wd_R a cI cL cB cZ z res.2) H → va_D A (wd_R a cI cL cB cZ z res.2) → va_S A s.heap H locs → W p l e zr_X11_madeOf s m args below meth c H locs 0 0 Q (F0 m pc ls [.int res.1])) (v2 : Int32) (v3 : Int32) (t1 : Int32) (S : mq_St) (H : Heap) (locs : List Loc) (ls : Array Slot) (h : zf_X11_madeOf_324 N z v2 v3 t1 S = some res) (hl : lv_has ls 7 [(0, .ref (a 0)), (2, .int (v2)), (3, .int (v3))]) (hP : va_P D vwCl (wd_R a cI cL cB cZ z S) H) (hD : va_D A (wd_R a cI cL cB cZ z S)) (hS : va_S A s.heap H locs) : W p l e zr_X11_madeOf s m args below meth c H locs 0 0 Q (F0 m 324 ls [.int (t1), .ref (a 0)]) := by
  obtain ⟨hx, hb, hml, hown, hts, hK, hA⟩ := id C
  unfold zf_X11_madeOf_324 at h
  refine lv_aload_n hx hb dX11_madeOf_324 rfl (lv_at hl 0 rfl) ?_
  refine lv_iload_n hx hb dX11_madeOf_325 rfl (lv_at hl 2 rfl) ?_
  refine lv_iload_n hx hb dX11_madeOf_326 rfl (lv_at hl 1 rfl) ?_
  obtain ⟨q38, hc39, h⟩ := mq_cp_go h
  refine zk_X11_has C zt_m_X11_238 ⟨by decide, by decide⟩ hc39 hP hD hS hl.1 (Nat.le_of_ble_eq_true rfl) dX11_madeOf_327 (fun H locs hP hD hS => ?_)
  refine lv_iconst (v := (-1 : Int32)) hx hb dX11_madeOf_330 (by decide) ?_
  obtain ⟨q40, hc41, h⟩ := mq_cl_go h
  refine zk_X11_make C zt_m_X11_242 ⟨by decide, by decide⟩ hc41 hP hD hS hl.1 (Nat.le_of_ble_eq_true rfl) dX11_madeOf_331 (fun H locs hP hD hS => ?_)
  obtain ⟨S42, eS42⟩ : ∃ y, y = q40.2 := ⟨_, rfl⟩
  rw [← eS42] at hP hD h
  refine lv_goto (tgt := 338) hx hb dX11_madeOf_334 (by decide) ?_
  cases h
  exact hret H locs ls 338 dX11_madeOf_338 hP hD hS
set_option maxHeartbeats 4000000 in
set_option maxRecDepth 100000 in
theorem zw_X11_madeOf_360 {p : Program} {l : Launch} {e : Env} {s : State} {m : MethodId} {args : Array Value} {below : List Frame} {meth : Method} {c : Code} {A : Nat → Prop} {D : va_G} {a z : Nat → Nat} {cI cL cB cZ : ClassId} {Q : State → Prop} {N : Nat} {res : Int32 × mq_St} (C : mq_C p s m args c A D cI cL cB cZ cX11_madeOf 7 RX11 zc_X11_madeOf) (hret : ∀ (H : Heap) (locs : List Loc) (ls : Array Slot) (pc : Nat), decode cX11_madeOf pc = .ok (.ireturn, 1) → va_P D vwCl (wd_R a cI cL cB cZ z res.2) H → va_D A (wd_R a cI cL cB cZ z res.2) → va_S A s.heap H locs → W p l e zr_X11_madeOf s m args below meth c H locs 0 0 Q (F0 m pc ls [.int res.1])) (v2 : Int32) (v3 : Int32) (t1 : Int32) (S : mq_St) (H : Heap) (locs : List Loc) (ls : Array Slot) (h : zf_X11_madeOf_360 N z v2 v3 t1 S = some res) (hl : lv_has ls 7 [(0, .ref (a 0)), (2, .int (v2)), (3, .int (v3))]) (hP : va_P D vwCl (wd_R a cI cL cB cZ z S) H) (hD : va_D A (wd_R a cI cL cB cZ z S)) (hS : va_S A s.heap H locs) : W p l e zr_X11_madeOf s m args below meth c H locs 0 0 Q (F0 m 360 ls [.int (t1), .ref (a 0)]) := by
  obtain ⟨hx, hb, hml, hown, hts, hK, hA⟩ := id C
  unfold zf_X11_madeOf_360 at h
  refine lv_aload_n hx hb dX11_madeOf_360 rfl (lv_at hl 0 rfl) ?_
  refine lv_iload_n hx hb dX11_madeOf_361 rfl (lv_at hl 2 rfl) ?_
  refine lv_iload_n hx hb dX11_madeOf_362 rfl (lv_at hl 1 rfl) ?_
  obtain ⟨q33, hc34, h⟩ := mq_cp_go h
  refine zk_X11_has C zt_m_X11_238 ⟨by decide, by decide⟩ hc34 hP hD hS hl.1 (Nat.le_of_ble_eq_true rfl) dX11_madeOf_363 (fun H locs hP hD hS => ?_)
  refine lv_iconst (v := (-1 : Int32)) hx hb dX11_madeOf_366 (by decide) ?_
  obtain ⟨q35, hc36, h⟩ := mq_cl_go h
  refine zk_X11_make C zt_m_X11_242 ⟨by decide, by decide⟩ hc36 hP hD hS hl.1 (Nat.le_of_ble_eq_true rfl) dX11_madeOf_367 (fun H locs hP hD hS => ?_)
  obtain ⟨S37, eS37⟩ : ∃ y, y = q35.2 := ⟨_, rfl⟩
  rw [← eS37] at hP hD h
  refine lv_goto (tgt := 374) hx hb dX11_madeOf_370 (by decide) ?_
  cases h
  exact hret H locs ls 374 dX11_madeOf_374 hP hD hS
set_option maxHeartbeats 4000000 in
set_option maxRecDepth 100000 in
theorem zw_X11_madeOf_0 {p : Program} {l : Launch} {e : Env} {s : State} {m : MethodId} {args : Array Value} {below : List Frame} {meth : Method} {c : Code} {A : Nat → Prop} {D : va_G} {a z : Nat → Nat} {cI cL cB cZ : ClassId} {Q : State → Prop} {N : Nat} {res : Int32 × mq_St} (C : mq_C p s m args c A D cI cL cB cZ cX11_madeOf 7 RX11 zc_X11_madeOf) (hret : ∀ (H : Heap) (locs : List Loc) (ls : Array Slot) (pc : Nat), decode cX11_madeOf pc = .ok (.ireturn, 1) → va_P D vwCl (wd_R a cI cL cB cZ z res.2) H → va_D A (wd_R a cI cL cB cZ z res.2) → va_S A s.heap H locs → W p l e zr_X11_madeOf s m args below meth c H locs 0 0 Q (F0 m pc ls [.int res.1])) (v1 : Int32) (v2 : Int32) (S : mq_St) (H : Heap) (locs : List Loc) (ls : Array Slot) (h : zf_X11_madeOf N z v1 v2 S = some res) (hl : lv_has ls 7 [(0, .ref (a 0)), (1, .int (v1)), (2, .int (v2))]) (hP : va_P D vwCl (wd_R a cI cL cB cZ z S) H) (hD : va_D A (wd_R a cI cL cB cZ z S)) (hS : va_S A s.heap H locs) : W p l e zr_X11_madeOf s m args below meth c H locs 0 0 Q (F0 m 0 ls []) := by
  obtain ⟨hx, hb, hml, hown, hts, hK, hA⟩ := id C
  unfold zf_X11_madeOf at h
  refine lv_aload_n hx hb dX11_madeOf_0 rfl (lv_at hl 0 rfl) ?_
  refine va_get (D := D) (ci := 11) (v := .ref (a 9)) (C := RX11) (T := TX11) (N := 76) hx hb hts (zi_X11 _) hown hK hP 0 rfl rfl 15 (by decide) (hts _ (List.mem_cons_of_mem _ zt_f_X11_42)) (fun _ h9 => h9) rfl dX11_madeOf_1 ?_
  refine lv_iload_n hx hb dX11_madeOf_4 rfl (lv_at hl 1 rfl) ?_
  have hi1 := mq_ck_in h
  replace h := mq_ck_go h
  refine va_iald (f := S.2.1 8) hx hb hK hP 9 0 rfl rfl hi1 dX11_madeOf_5 ?_
  refine lv_topi (fun x2 ex2 => ?_)
  replace h := mq_nI_go ex2 h
  refine lv_istore_n (lv' := [(3, .int (x2)), (0, .ref (a 0)), (1, .int (v1)), (2, .int (v2))]) hx hb dX11_madeOf_6 rfl hl (by decide) rfl (fun ls hl => ?_)
  refine lv_aload_n hx hb dX11_madeOf_7 rfl (lv_at hl 1 rfl) ?_
  refine va_get (D := D) (ci := 11) (v := .ref (a 10)) (C := RX11) (T := TX11) (N := 76) hx hb hts (zi_X11 _) hown hK hP 0 rfl rfl 16 (by decide) (hts _ (List.mem_cons_of_mem _ zt_f_X11_45)) (fun _ h9 => h9) rfl dX11_madeOf_8 ?_
  refine lv_iload_n hx hb dX11_madeOf_11 rfl (lv_at hl 2 rfl) ?_
  have hi3 := mq_ck_in h
  replace h := mq_ck_go h
  refine va_iald (f := S.2.1 9) hx hb hK hP 10 0 rfl rfl hi3 dX11_madeOf_12 ?_
  refine lv_topi (fun x4 ex4 => ?_)
  replace h := mq_nI_go ex4 h
  refine lv_istore (lv' := [(4, .int (x4)), (3, .int (x2)), (0, .ref (a 0)), (1, .int (v1)), (2, .int (v2))]) hx hb dX11_madeOf_13 hl (by decide) rfl (fun ls hl => ?_)
  refine lv_aload_n hx hb dX11_madeOf_15 rfl (lv_at hl 2 rfl) ?_
  refine va_get (D := D) (ci := 11) (v := .ref (a 8)) (C := RX11) (T := TX11) (N := 76) hx hb hts (zi_X11 _) hown hK hP 0 rfl rfl 14 (by decide) (hts _ (List.mem_cons_of_mem _ zt_f_X11_39)) (fun _ h9 => h9) rfl dX11_madeOf_16 ?_
  refine lv_iload_n hx hb dX11_madeOf_19 rfl (lv_at hl 3 rfl) ?_
  have hi5 := mq_ck_in h
  replace h := mq_ck_go h
  refine va_iald (f := S.2.1 7) hx hb hK hP 8 0 rfl rfl hi5 dX11_madeOf_20 ?_
  by_cases c6 : (S.2.1 7 (v1).toNatClampNeg) = 0
  · refine lv_tableIn (off := 51) (tgt := 72) hx hb dX11_madeOf_21 (by rw [c6]; decide) (by rw [c6]; decide) (by rw [c6]; rfl) (by decide) ?_
    replace h := mq_it c6 h
    refine lv_iload_n hx hb dX11_madeOf_72 rfl (lv_at hl 4 rfl) ?_
    refine lv_if_eq (tgt := 80) hx hb dX11_madeOf_73 (by decide) (fun c7 => ?_) (fun c7 => ?_)
    · replace h := mq_it c7 h
      refine lv_iconst (v := (1 : Int32)) hx hb dX11_madeOf_80 (by decide) ?_
      cases h
      exact hret H locs ls 81 dX11_madeOf_81 hP hD hS
    · replace h := mq_if c7 h
      refine lv_iconst (v := (0 : Int32)) hx hb dX11_madeOf_76 (by decide) ?_
      refine lv_goto (tgt := 81) hx hb dX11_madeOf_77 (by decide) ?_
      cases h
      exact hret H locs ls 81 dX11_madeOf_81 hP hD hS
  replace h := mq_if c6 h
  by_cases c8 : (S.2.1 7 (v1).toNatClampNeg) = 1
  · refine lv_tableIn (off := 61) (tgt := 82) hx hb dX11_madeOf_21 (by rw [c8]; decide) (by rw [c8]; decide) (by rw [c8]; rfl) (by decide) ?_
    replace h := mq_it c8 h
    refine lv_iload_n hx hb dX11_madeOf_82 rfl (lv_at hl 4 rfl) ?_
    refine lv_if_eq (tgt := 90) hx hb dX11_madeOf_83 (by decide) (fun c9 => ?_) (fun c9 => ?_)
    · replace h := mq_it c9 h
      refine lv_iconst (v := (0 : Int32)) hx hb dX11_madeOf_90 (by decide) ?_
      cases h
      exact hret H locs ls 91 dX11_madeOf_91 hP hD hS
    · replace h := mq_if c9 h
      refine lv_iconst (v := (1 : Int32)) hx hb dX11_madeOf_86 (by decide) ?_
      refine lv_goto (tgt := 91) hx hb dX11_madeOf_87 (by decide) ?_
      cases h
      exact hret H locs ls 91 dX11_madeOf_91 hP hD hS
  replace h := mq_if c8 h
  by_cases c10 : (S.2.1 7 (v1).toNatClampNeg) = 2
  · refine lv_tableIn (off := 71) (tgt := 92) hx hb dX11_madeOf_21 (by rw [c10]; decide) (by rw [c10]; decide) (by rw [c10]; rfl) (by decide) ?_
    replace h := mq_it c10 h
    refine lv_aload_n hx hb dX11_madeOf_92 rfl (lv_at hl 2 rfl) ?_
    refine lv_iload_n hx hb dX11_madeOf_93 rfl (lv_at hl 4 rfl) ?_
    refine lv_if_eq (tgt := 101) hx hb dX11_madeOf_94 (by decide) (fun c11 => ?_) (fun c11 => ?_)
    · replace h := mq_it c11 h
      refine lv_iconst (v := (3 : Int32)) hx hb dX11_madeOf_101 (by decide) ?_
      exact zw_X11_madeOf_102 C hret (x2) ((3 : Int32)) S H locs ls h (lv_sub hl [1] rfl) hP hD hS
    · replace h := mq_if c11 h
      refine lv_iconst (v := (2 : Int32)) hx hb dX11_madeOf_97 (by decide) ?_
      refine lv_goto (tgt := 102) hx hb dX11_madeOf_98 (by decide) ?_
      exact zw_X11_madeOf_102 C hret (x2) ((2 : Int32)) S H locs ls h (lv_sub hl [1] rfl) hP hD hS
  replace h := mq_if c10 h
  by_cases c12 : (S.2.1 7 (v1).toNatClampNeg) = 3
  · refine lv_tableIn (off := 87) (tgt := 108) hx hb dX11_madeOf_21 (by rw [c12]; decide) (by rw [c12]; decide) (by rw [c12]; rfl) (by decide) ?_
    replace h := mq_it c12 h
    refine lv_aload_n hx hb dX11_madeOf_108 rfl (lv_at hl 2 rfl) ?_
    refine lv_iload_n hx hb dX11_madeOf_109 rfl (lv_at hl 1 rfl) ?_
    refine lv_iload_n hx hb dX11_madeOf_110 rfl (lv_at hl 4 rfl) ?_
    refine lv_if_ne (tgt := 118) hx hb dX11_madeOf_111 (by decide) (fun c13 => ?_) (fun c13 => ?_)
    · replace h := mq_if c13 h
      refine lv_iconst (v := (0 : Int32)) hx hb dX11_madeOf_118 (by decide) ?_
      exact zw_X11_madeOf_119 C hret (v2) (x2) (x2) ((0 : Int32)) S H locs ls h (lv_sub hl [2, 4, 1] rfl) hP hD hS
    · replace h := mq_it (by simpa using c13) h
      refine lv_iconst (v := (1 : Int32)) hx hb dX11_madeOf_114 (by decide) ?_
      refine lv_goto (tgt := 119) hx hb dX11_madeOf_115 (by decide) ?_
      exact zw_X11_madeOf_119 C hret (v2) (x2) (x2) ((1 : Int32)) S H locs ls h (lv_sub hl [2, 4, 1] rfl) hP hD hS
  replace h := mq_if c12 h
  by_cases c14 : (S.2.1 7 (v1).toNatClampNeg) = 4
  · refine lv_tableIn (off := 123) (tgt := 144) hx hb dX11_madeOf_21 (by rw [c14]; decide) (by rw [c14]; decide) (by rw [c14]; rfl) (by decide) ?_
    replace h := mq_it c14 h
    refine lv_aload_n hx hb dX11_madeOf_144 rfl (lv_at hl 2 rfl) ?_
    refine lv_iload_n hx hb dX11_madeOf_145 rfl (lv_at hl 4 rfl) ?_
    refine lv_if_eq (tgt := 153) hx hb dX11_madeOf_146 (by decide) (fun c15 => ?_) (fun c15 => ?_)
    · replace h := mq_it c15 h
      refine lv_iconst (v := (5 : Int32)) hx hb dX11_madeOf_153 (by decide) ?_
      exact zw_X11_madeOf_154 C hret (v2) (x2) (x4) ((5 : Int32)) S H locs ls h (lv_sub hl [4, 1, 0] rfl) hP hD hS
    · replace h := mq_if c15 h
      refine lv_iconst (v := (4 : Int32)) hx hb dX11_madeOf_149 (by decide) ?_
      refine lv_goto (tgt := 154) hx hb dX11_madeOf_150 (by decide) ?_
      exact zw_X11_madeOf_154 C hret (v2) (x2) (x4) ((4 : Int32)) S H locs ls h (lv_sub hl [4, 1, 0] rfl) hP hD hS
  replace h := mq_if c14 h
  by_cases c16 : (S.2.1 7 (v1).toNatClampNeg) = 5
  · refine lv_tableIn (off := 142) (tgt := 163) hx hb dX11_madeOf_21 (by rw [c16]; decide) (by rw [c16]; decide) (by rw [c16]; rfl) (by decide) ?_
    replace h := mq_it c16 h
    refine lv_aload_n hx hb dX11_madeOf_163 rfl (lv_at hl 2 rfl) ?_
    refine lv_iload_n hx hb dX11_madeOf_164 rfl (lv_at hl 4 rfl) ?_
    refine lv_if_eq (tgt := 172) hx hb dX11_madeOf_165 (by decide) (fun c17 => ?_) (fun c17 => ?_)
    · replace h := mq_it c17 h
      refine lv_iconst (v := (4 : Int32)) hx hb dX11_madeOf_172 (by decide) ?_
      exact zw_X11_madeOf_173 C hret (v2) (x2) (x4) ((4 : Int32)) S H locs ls h (lv_sub hl [4, 1, 0] rfl) hP hD hS
    · replace h := mq_if c17 h
      refine lv_iconst (v := (5 : Int32)) hx hb dX11_madeOf_168 (by decide) ?_
      refine lv_goto (tgt := 173) hx hb dX11_madeOf_169 (by decide) ?_
      exact zw_X11_madeOf_173 C hret (v2) (x2) (x4) ((5 : Int32)) S H locs ls h (lv_sub hl [4, 1, 0] rfl) hP hD hS
  replace h := mq_if c16 h
  by_cases c18 : (S.2.1 7 (v1).toNatClampNeg) = 6
  · refine lv_tableIn (off := 161) (tgt := 182) hx hb dX11_madeOf_21 (by rw [c18]; decide) (by rw [c18]; decide) (by rw [c18]; rfl) (by decide) ?_
    replace h := mq_it c18 h
    refine lv_aload_n hx hb dX11_madeOf_182 rfl (lv_at hl 2 rfl) ?_
    refine lv_iload_n hx hb dX11_madeOf_183 rfl (lv_at hl 4 rfl) ?_
    refine lv_if_eq (tgt := 191) hx hb dX11_madeOf_184 (by decide) (fun c19 => ?_) (fun c19 => ?_)
    · replace h := mq_it c19 h
      refine lv_iconst (v := (4 : Int32)) hx hb dX11_madeOf_191 (by decide) ?_
      exact zw_X11_madeOf_192 C hret (v2) (x2) (x4) ((4 : Int32)) S H locs ls h (lv_sub hl [4, 1, 0] rfl) hP hD hS
    · replace h := mq_if c19 h
      refine lv_iconst (v := (5 : Int32)) hx hb dX11_madeOf_187 (by decide) ?_
      refine lv_goto (tgt := 192) hx hb dX11_madeOf_188 (by decide) ?_
      exact zw_X11_madeOf_192 C hret (v2) (x2) (x4) ((5 : Int32)) S H locs ls h (lv_sub hl [4, 1, 0] rfl) hP hD hS
  replace h := mq_if c18 h
  by_cases c20 : (S.2.1 7 (v1).toNatClampNeg) = 7
  · refine lv_tableIn (off := 188) (tgt := 209) hx hb dX11_madeOf_21 (by rw [c20]; decide) (by rw [c20]; decide) (by rw [c20]; rfl) (by decide) ?_
    replace h := mq_it c20 h
    refine lv_aload_n hx hb dX11_madeOf_209 rfl (lv_at hl 2 rfl) ?_
    refine lv_iload_n hx hb dX11_madeOf_210 rfl (lv_at hl 4 rfl) ?_
    refine lv_if_eq (tgt := 218) hx hb dX11_madeOf_211 (by decide) (fun c21 => ?_) (fun c21 => ?_)
    · replace h := mq_it c21 h
      refine lv_iconst (v := (4 : Int32)) hx hb dX11_madeOf_218 (by decide) ?_
      exact zw_X11_madeOf_219 C hret (v2) (x2) (x4) ((4 : Int32)) S H locs ls h (lv_sub hl [2, 4, 1, 0] rfl) hP hD hS
    · replace h := mq_if c21 h
      refine lv_iconst (v := (5 : Int32)) hx hb dX11_madeOf_214 (by decide) ?_
      refine lv_goto (tgt := 219) hx hb dX11_madeOf_215 (by decide) ?_
      exact zw_X11_madeOf_219 C hret (v2) (x2) (x4) ((5 : Int32)) S H locs ls h (lv_sub hl [2, 4, 1, 0] rfl) hP hD hS
  replace h := mq_if c20 h
  by_cases c22 : (S.2.1 7 (v1).toNatClampNeg) = 8
  · refine lv_tableIn (off := 282) (tgt := 303) hx hb dX11_madeOf_21 (by rw [c22]; decide) (by rw [c22]; decide) (by rw [c22]; rfl) (by decide) ?_
    replace h := mq_it c22 h
    refine lv_aload_n hx hb dX11_madeOf_303 rfl (lv_at hl 2 rfl) ?_
    refine lv_iload_n hx hb dX11_madeOf_304 rfl (lv_at hl 1 rfl) ?_
    refine lv_iload_n hx hb dX11_madeOf_305 rfl (lv_at hl 4 rfl) ?_
    obtain ⟨q23, hc24, h⟩ := mq_cl_go h
    refine zk_X11_isMade C zt_m_X11_234 ⟨by decide, by decide⟩ hc24 hP hD hS hl.1 (Nat.le_of_ble_eq_true rfl) dX11_madeOf_306 (fun H locs hP hD hS => ?_)
    obtain ⟨S25, eS25⟩ : ∃ y, y = q23.2 := ⟨_, rfl⟩
    rw [← eS25] at hP hD h
    refine lv_if_eq (tgt := 337) hx hb dX11_madeOf_309 (by decide) (fun c27 => ?_) (fun c27 => ?_)
    · replace h := mq_it c27 h
      refine lv_iconst (v := (-1 : Int32)) hx hb dX11_madeOf_337 (by decide) ?_
      cases h
      exact hret H locs ls 338 dX11_madeOf_338 hP hD hS
    · replace h := mq_if c27 h
      refine lv_aload_n hx hb dX11_madeOf_312 rfl (lv_at hl 2 rfl) ?_
      refine lv_iload_n hx hb dX11_madeOf_313 rfl (lv_at hl 4 rfl) ?_
      refine lv_if_eq (tgt := 322) hx hb dX11_madeOf_314 (by decide) (fun c26 => ?_) (fun c26 => ?_)
      · replace h := mq_it c26 h
        refine lv_bipush (v := (7 : Int32)) hx hb dX11_madeOf_322 (by decide) ?_
        exact zw_X11_madeOf_324 C hret (v2) (x2) ((7 : Int32)) S25 H locs ls h (lv_sub hl [2, 4, 1] rfl) hP hD hS
      · replace h := mq_if c26 h
        refine lv_bipush (v := (6 : Int32)) hx hb dX11_madeOf_317 (by decide) ?_
        refine lv_goto (tgt := 324) hx hb dX11_madeOf_319 (by decide) ?_
        exact zw_X11_madeOf_324 C hret (v2) (x2) ((6 : Int32)) S25 H locs ls h (lv_sub hl [2, 4, 1] rfl) hP hD hS
  replace h := mq_if c22 h
  have nc6 := lv_neT c6 (show Int32.toInt 0 = 0 by decide)
  have nc8 := lv_neT c8 (show Int32.toInt 1 = 1 by decide)
  have nc10 := lv_neT c10 (show Int32.toInt 2 = 2 by decide)
  have nc12 := lv_neT c12 (show Int32.toInt 3 = 3 by decide)
  have nc14 := lv_neT c14 (show Int32.toInt 4 = 4 by decide)
  have nc16 := lv_neT c16 (show Int32.toInt 5 = 5 by decide)
  have nc18 := lv_neT c18 (show Int32.toInt 6 = 6 by decide)
  have nc20 := lv_neT c20 (show Int32.toInt 7 = 7 by decide)
  have nc22 := lv_neT c22 (show Int32.toInt 8 = 8 by decide)
  refine lv_tableOut (tgt := 339) hx hb dX11_madeOf_21 (by omega) (by decide) ?_
  refine lv_aload_n hx hb dX11_madeOf_339 rfl (lv_at hl 2 rfl) ?_
  refine lv_iload_n hx hb dX11_madeOf_340 rfl (lv_at hl 1 rfl) ?_
  refine lv_iload_n hx hb dX11_madeOf_341 rfl (lv_at hl 4 rfl) ?_
  obtain ⟨q28, hc29, h⟩ := mq_cl_go h
  refine zk_X11_isMade C zt_m_X11_234 ⟨by decide, by decide⟩ hc29 hP hD hS hl.1 (Nat.le_of_ble_eq_true rfl) dX11_madeOf_342 (fun H locs hP hD hS => ?_)
  obtain ⟨S30, eS30⟩ : ∃ y, y = q28.2 := ⟨_, rfl⟩
  rw [← eS30] at hP hD h
  refine lv_if_eq (tgt := 373) hx hb dX11_madeOf_345 (by decide) (fun c32 => ?_) (fun c32 => ?_)
  · replace h := mq_it c32 h
    refine lv_iconst (v := (-1 : Int32)) hx hb dX11_madeOf_373 (by decide) ?_
    cases h
    exact hret H locs ls 374 dX11_madeOf_374 hP hD hS
  · replace h := mq_if c32 h
    refine lv_aload_n hx hb dX11_madeOf_348 rfl (lv_at hl 2 rfl) ?_
    refine lv_iload_n hx hb dX11_madeOf_349 rfl (lv_at hl 4 rfl) ?_
    refine lv_if_eq (tgt := 358) hx hb dX11_madeOf_350 (by decide) (fun c31 => ?_) (fun c31 => ?_)
    · replace h := mq_it c31 h
      refine lv_bipush (v := (6 : Int32)) hx hb dX11_madeOf_358 (by decide) ?_
      exact zw_X11_madeOf_360 C hret (v2) (x2) ((6 : Int32)) S30 H locs ls h (lv_sub hl [2, 4, 1] rfl) hP hD hS
    · replace h := mq_if c31 h
      refine lv_bipush (v := (7 : Int32)) hx hb dX11_madeOf_353 (by decide) ?_
      refine lv_goto (tgt := 360) hx hb dX11_madeOf_355 (by decide) ?_
      exact zw_X11_madeOf_360 C hret (v2) (x2) ((7 : Int32)) S30 H locs ls h (lv_sub hl [2, 4, 1] rfl) hP hD hS
set_option maxHeartbeats 4000000 in
set_option maxRecDepth 100000 in
theorem zm_X11_madeOf (l : Launch) (D : va_G) (a z : Nat → Nat) (cI cL cB cZ : ClassId) (sz N : Nat) (v1 : Int32) (v2 : Int32) (S : mq_St) (res : Int32 × mq_St) (h : zf_X11_madeOf N z v1 v2 S = some res) : Met l yX11_madeOf (zc_X11_madeOf :: mq_T) zr_X11_madeOf (va_Pc [.ref (a 0), .int (v1), .int (v2)] (fun U => U.heap.size = sz ∧ va_P D vwCl (wd_R a cI cL cB cZ z S) U.heap ∧ va_K D vwCl (mq_tys cI cL cB cZ) U ∧ va_D (fun _ => True) (wd_R a cI cL cB cZ z S))) (va_Qi (fun (r : Int32) (u : mq_St) => r = res.1 ∧ u = res.2) (fun u t => va_P D vwCl (wd_R a cI cL cB cZ z u) t.heap ∧ va_K D vwCl (mq_tys cI cL cB cZ) t ∧ va_D (va_A (wd_R a cI cL cB cZ z S) sz) (wd_R a cI cL cB cZ z u)) (va_A (wd_R a cI cL cB cZ z S) sz)) 0 0 (va_A (wd_R a cI cL cB cZ z S) sz) := by
  refine Met.ofW (cc := cX11_madeOf) (maxL := 7) (ret := (some .int)) (by decide) rfl ?_
  intro p e s m args below meth c s₁ B hml hv
  obtain ⟨rfl, hsz, hP, hK, hD0⟩ := hv
  have hr := B.returns
  have hlocks := B.notSynchronized
  have hts := atoms_spec (ws := zc_X11_madeOf :: mq_T) B.pre
  have hown : s.vm.findClass RX11 = some m.cls := findClass_of_methodNamed B.named
  subst hsz
  have hD := hD0.self (sz := s.heap.size)
  generalize hAe : va_A (wd_R a cI cL cB cZ z S) s.heap.size = A at hD ⊢
  have hA : ∀ q : Nat, s.heap.size ≤ q → A q := fun q h => by rw [← hAe]; exact Or.inr h
  have hl := lv_entry ([.ref (a 0), .int (v1), .int (v2)]) (n := 7) (Nat.le_of_ble_eq_true rfl)
  rw [lg_entry_eq]
  generalize (lg_sl ([.ref (a 0), .int (v1), .int (v2)]) ++ List.replicate (7 - (lg_sl ([.ref (a 0), .int (v1), .int (v2)])).length) Slot.unset).toArray = ls at hl ⊢
  have hl : lv_has ls 7 [(0, .ref (a 0)), (1, .int (v1)), (2, .int (v2))] := hl
  refine zw_X11_madeOf_0 (A := A) ⟨B.exec, B.bytes, hml, hown, hts, hK, hA⟩ (fun H locs ls pc dg hP hD hS => ?_) v1 v2 S s.heap [] ls h hl hP hD va_S.rf
  exact W.iret B.exec B.bytes hr (fun t ht hW => ⟨⟨_, _, rfl, ⟨rfl, rfl⟩, by rw [ht]; exact hP, va_K.moved hW.alike hK, hD⟩, hS.F ht⟩) hS.2.2 dg
theorem zt_X11_madeOf_c : zc_X11_madeOf ∈ mq_T := mq_T_mem (mq_t6 (List.mem_of_getElem? (i := 237) rfl)) rfl
theorem zt_X11_madeOf_i : Cond.instanceMethod yX11_madeOf ∈ mq_T := mq_T_mem (mq_t6 (List.mem_of_getElem? (i := 236) rfl)) rfl
theorem zt_X11_madeOf_s : Cond.selects RX11 yX11_madeOf yX11_madeOf ∈ mq_T := mq_T_at 78 (by decide +kernel)
set_option maxHeartbeats 4000000 in
theorem zk_X11_madeOf {p : Program} {l : Launch} {e : Env} {R : Room} {s : State} {m : MethodId} {args : Array Value} {below : List Frame} {meth : Method} {c : Code} {A : Nat → Prop} {D : va_G} {a z : Nat → Nat} {cI cL cB cZ : ClassId} {Q : State → Prop} {cc : ByteArray} {nL idx pc N : Nat} {own : String} {c1 : Cond} {H : Heap} {locs : List Loc} {ls : Array Slot} {rest : List Value} {S : mq_St} {res : Int32 × mq_St} {v1 : Int32} {v2 : Int32} (C : mq_C p s m args c A D cI cL cB cZ cc nL own c1) (hlk : Cond.methodLink own idx yX11_madeOf ∈ mq_T) (hR : zr_X11_madeOf.frames + 1 ≤ R.frames ∧ 8 + (7 + 11) + zr_X11_madeOf.locals ≤ R.locals) (h : zf_X11_madeOf N z v1 v2 S = some res) (hP : va_P D vwCl (wd_R a cI cL cB cZ z S) H) (hD : va_D A (wd_R a cI cL cB cZ z S)) (hS : va_S A s.heap H locs) (hls : ls.size = nL) (hrest : (rest.map fun v => v.category).sum ≤ 8) (hdg : decode cc pc = .ok (.invokevirtual idx, 3)) (kk : ∀ (H1 : Heap) (locs1 : List Loc), va_P D vwCl (wd_R a cI cL cB cZ z res.2) H1 → va_D A (wd_R a cI cL cB cZ z res.2) → va_S A s.heap H1 locs1 → W p l e R s m args below meth c H1 locs1 0 0 Q (F0 m (pc + 3) ls (.int res.1 :: rest))) : W p l e R s m args below meth c H locs 0 0 Q (F0 m pc ls (.int (v2) :: .int (v1) :: .ref (a 0) :: rest)) := by
  obtain ⟨hx, hb, hml, hown, hts, hK, hA⟩ := C
  have hFc := mq_freeI hD hS hA
  refine va_calli (va_runV (As := [.int (v1), .int (v2)]) (rest := rest) ⟨hx, hb, hml, hown, hts⟩ (zm_X11_madeOf l D a z cI cL cB cZ H.size N v1 v2 S res h) (cwV 2 hts (mq_goodL (mq_wsV hlk zt_X11_madeOf_i zt_X11_madeOf_s zt_ini_X11 zt_X11_madeOf_c)) rfl rfl rfl (by decide +kernel) hR) ⟨fun a U g mk q => ⟨q.1, q.2.1, q.2.2.1, va_K.moved (u := U) (U := U.calling g mk a) (Vm.Alike.refl U.vm) q.2.2.2.1, q.2.2.2.2⟩, zy_R_0 hK hP, fun U hU hW => ⟨rfl, by rw [hU], by rw [hU]; exact hP, va_K.moved hW.alike hK, hD.weaken (fun _ _ _ _ => trivial)⟩⟩ rfl rfl hls rfl (lv_room hrest) hdg ⟨Nat.zero_le _, Nat.zero_le _⟩) hS (fun q _ h => hFc q h) hFc (fun r u t H1 locs ht hvm hw hB hz1 hk1 hS => ?_)
  obtain ⟨rfl, rfl⟩ := hw
  obtain ⟨hP1, hK1, hD1⟩ := hB
  rw [ht] at hP1
  exact kk H1 locs hP1 (hD1.weaken (fun _ _ _ h => hFc _ h)) hS
theorem zt_m_X11_249 : Cond.methodLink RX11 249 yX11_madeOf ∈ mq_T := mq_T_mem (mq_t6 (List.mem_of_getElem? (i := 234) rfl)) rfl
/-! ModalDeskModel.makes(IZ)I -/
def zr_X11_makes : Room := { frames := 3, cells := 0, slots := 0, locals := 75 }
def zc_X11_makes : Cond := .code yX11_makes cX11_makes 9 (some .int)
def zf_X11_makes_156 (N : Nat) (z : Nat → Nat) (k12 : Int32 → Int32 → mq_St → Option (Int32 × mq_St)) (v1 : Int32) (v2 : Int32) (S : mq_St) : Option (Int32 × mq_St) := (k12 (v1) (v2) S)
def zf_X11_makes_103 (N : Nat) (z : Nat → Nat) (k12 : Int32 → Int32 → mq_St → Option (Int32 × mq_St)) (v1 : Int32) (v2 : Int32) (v5 : Int32) (v6 : Int32) (v7 : Int32) (t0 : Int32) (S : mq_St) : Option (Int32 × mq_St) := (mq_nI (t0) (fun x24 => (if x24 = (-1 : Int32) then (zf_X11_makes_156 N z k12 (v1) (v2) S) else (if (S.1 17) = v7 then (mq_nS (mq_si S 17 (((S.1 17) - (1 : Int32)))) (fun S25 => (if v6 = (0 : Int32) then (mq_ck (v5) 3000 (mq_nS (mq_sa S25 11 (upd (S25.2.1 11) (v5).toNatClampNeg (x24))) (fun S27 => (zf_X11_makes_156 N z k12 (v1) (v2) S27)))) else (mq_ck (v5) 3000 (mq_nS (mq_sa S25 10 (upd (S25.2.1 10) (v5).toNatClampNeg (x24))) (fun S29 => (zf_X11_makes_156 N z k12 (v1) (v2) S29))))))) else (zf_X11_makes_156 N z k12 (v1) (v2) S)))))
def zf_X11_makes_80 (N : Nat) (z : Nat → Nat) (k12 : Int32 → Int32 → mq_St → Option (Int32 × mq_St)) (v1 : Int32) (v2 : Int32) (v5 : Int32) (v6 : Int32) (v7 : Int32) (t0 : Int32) (S : mq_St) : Option (Int32 × mq_St) := (if t0 = (-1 : Int32) then (mq_cl (zf_X11_madeOf N z (v5) (v6) S) (fun q18v S20 => (zf_X11_makes_103 N z k12 (v1) (v2) (v5) (v6) (v7) (q18v) S20))) else (mq_cp (zf_X11_has N z (v5) (v6) S) (fun q21 => (zf_X11_makes_103 N z k12 (v1) (v2) (v5) (v6) (v7) (q21) S))))
def zf_X11_makes_50 (N : Nat) (z : Nat → Nat) (k12 : Int32 → Int32 → mq_St → Option (Int32 × mq_St)) (v1 : Int32) (v2 : Int32) (v5 : Int32) (t0 : Int32) (S : mq_St) : Option (Int32 × mq_St) := (mq_nI (t0) (fun x13 => (mq_nI ((S.1 17)) (fun x14 => (if x13 = (0 : Int32) then (mq_ck (v5) 3000 (zf_X11_makes_80 N z k12 (v1) (v2) (v5) (x13) (x14) ((S.2.1 11 (v5).toNatClampNeg)) S)) else (mq_ck (v5) 3000 (zf_X11_makes_80 N z k12 (v1) (v2) (v5) (x13) (x14) ((S.2.1 10 (v5).toNatClampNeg)) S)))))))
def zf_X11_makes_12b (N : Nat) (z : Nat → Nat) (k12 : Int32 → Int32 → mq_St → Option (Int32 × mq_St)) (v1 : Int32) (v2 : Int32) (S : mq_St) : Option (Int32 × mq_St) := (if (S.1 17) ≤ (0 : Int32) then (mq_cp (zf_X11_has N z (v1) (v2) S) (fun q6 => (some (q6, S)))) else (mq_ck (((S.1 17) - (1 : Int32))) 3000 (mq_nI ((S.2.1 14 (((S.1 17) - (1 : Int32))).toNatClampNeg)) (fun x9 => (mq_nI ((x9 / (2 : Int32))) (fun x10 => (if (x9 - x9 / (2 : Int32) * (2 : Int32)) = (0 : Int32) then (zf_X11_makes_50 N z k12 (v1) (v2) (x10) ((1 : Int32)) S) else (zf_X11_makes_50 N z k12 (v1) (v2) (x10) ((0 : Int32)) S))))))))
def zf_X11_makes_12 (N : Nat) (z : Nat → Nat) : Nat → Int32 → Int32 → mq_St → Option (Int32 × mq_St)
  | 0, _, _, _ => none
  | n + 1, v1, v2, S => zf_X11_makes_12b N z (fun v1 v2 S => zf_X11_makes_12 N z n v1 v2 S) v1 v2 S
def zf_X11_makes (N : Nat) (z : Nat → Nat) (v1 : Int32) (v2 : Int32) (S : mq_St) : Option (Int32 × mq_St) := (mq_nS (mq_si S 17 ((0 : Int32))) (fun S1 => (mq_cl (zf_X11_isMade N z (v1) (v2) S1) (fun q2v S4 => (mq_nI (q2v) (fun x5 => (zf_X11_makes_12 N z N (v1) (v2) S4)))))))
set_option maxHeartbeats 4000000 in
set_option maxRecDepth 100000 in
theorem zw_X11_makes_156 {p : Program} {l : Launch} {e : Env} {s : State} {m : MethodId} {args : Array Value} {below : List Frame} {meth : Method} {c : Code} {A : Nat → Prop} {D : va_G} {a z : Nat → Nat} {cI cL cB cZ : ClassId} {Q : State → Prop} {N : Nat} {res : Int32 × mq_St} {k12 : Int32 → Int32 → mq_St → Option (Int32 × mq_St)} (C : mq_C p s m args c A D cI cL cB cZ cX11_makes 9 RX11 zc_X11_makes) (hret : ∀ (H : Heap) (locs : List Loc) (ls : Array Slot) (pc : Nat), decode cX11_makes pc = .ok (.ireturn, 1) → va_P D vwCl (wd_R a cI cL cB cZ z res.2) H → va_D A (wd_R a cI cL cB cZ z res.2) → va_S A s.heap H locs → W p l e zr_X11_makes s m args below meth c H locs 0 0 Q (F0 m pc ls [.int res.1])) (hk12 : ∀ (v1 : Int32) (v2 : Int32) (S : mq_St) (H : Heap) (locs : List Loc) (ls : Array Slot), k12 v1 v2 S = some res → lv_has ls 9 [(0, .ref (a 0)), (1, .int (v1)), (2, .int (v2))] → va_P D vwCl (wd_R a cI cL cB cZ z S) H → va_D A (wd_R a cI cL cB cZ z S) → va_S A s.heap H locs → W p l e zr_X11_makes s m args below meth c H locs 0 0 Q (F0 m 12 ls [])) (v1 : Int32) (v2 : Int32) (S : mq_St) (H : Heap) (locs : List Loc) (ls : Array Slot) (h : zf_X11_makes_156 N z k12 v1 v2 S = some res) (hl : lv_has ls 9 [(0, .ref (a 0)), (1, .int (v1)), (2, .int (v2))]) (hP : va_P D vwCl (wd_R a cI cL cB cZ z S) H) (hD : va_D A (wd_R a cI cL cB cZ z S)) (hS : va_S A s.heap H locs) : W p l e zr_X11_makes s m args below meth c H locs 0 0 Q (F0 m 156 ls []) := by
  obtain ⟨hx, hb, hml, hown, hts, hK, hA⟩ := id C
  unfold zf_X11_makes_156 at h
  refine lv_goto (tgt := 12) hx hb dX11_makes_156 (by decide) ?_
  exact hk12 (v1) (v2) S H locs ls h (lv_sub hl [0, 1, 2] rfl) hP hD hS
set_option maxHeartbeats 4000000 in
set_option maxRecDepth 100000 in
theorem zw_X11_makes_103 {p : Program} {l : Launch} {e : Env} {s : State} {m : MethodId} {args : Array Value} {below : List Frame} {meth : Method} {c : Code} {A : Nat → Prop} {D : va_G} {a z : Nat → Nat} {cI cL cB cZ : ClassId} {Q : State → Prop} {N : Nat} {res : Int32 × mq_St} {k12 : Int32 → Int32 → mq_St → Option (Int32 × mq_St)} (C : mq_C p s m args c A D cI cL cB cZ cX11_makes 9 RX11 zc_X11_makes) (hret : ∀ (H : Heap) (locs : List Loc) (ls : Array Slot) (pc : Nat), decode cX11_makes pc = .ok (.ireturn, 1) → va_P D vwCl (wd_R a cI cL cB cZ z res.2) H → va_D A (wd_R a cI cL cB cZ z res.2) → va_S A s.heap H locs → W p l e zr_X11_makes s m args below meth c H locs 0 0 Q (F0 m pc ls [.int res.1])) (hk12 : ∀ (v1 : Int32) (v2 : Int32) (S : mq_St) (H : Heap) (locs : List Loc) (ls : Array Slot), k12 v1 v2 S = some res → lv_has ls 9 [(0, .ref (a 0)), (1, .int (v1)), (2, .int (v2))] → va_P D vwCl (wd_R a cI cL cB cZ z S) H → va_D A (wd_R a cI cL cB cZ z S) → va_S A s.heap H locs → W p l e zr_X11_makes s m args below meth c H locs 0 0 Q (F0 m 12 ls [])) (v1 : Int32) (v2 : Int32) (v5 : Int32) (v6 : Int32) (v7 : Int32) (t0 : Int32) (S : mq_St) (H : Heap) (locs : List Loc) (ls : Array Slot) (h : zf_X11_makes_103 N z k12 v1 v2 v5 v6 v7 t0 S = some res) (hl : lv_has ls 9 [(0, .ref (a 0)), (1, .int (v1)), (2, .int (v2)), (5, .int (v5)), (6, .int (v6)), (7, .int (v7))]) (hP : va_P D vwCl (wd_R a cI cL cB cZ z S) H) (hD : va_D A (wd_R a cI cL cB cZ z S)) (hS : va_S A s.heap H locs) : W p l e zr_X11_makes s m args below meth c H locs 0 0 Q (F0 m 103 ls [.int (t0)]) := by
  obtain ⟨hx, hb, hml, hown, hts, hK, hA⟩ := id C
  unfold zf_X11_makes_103 at h
  refine lv_topi (fun x24 ex24 => ?_)
  replace h := mq_nI_go ex24 h
  refine lv_istore (lv' := [(8, .int (x24)), (0, .ref (a 0)), (1, .int (v1)), (2, .int (v2)), (5, .int (v5)), (6, .int (v6)), (7, .int (v7))]) hx hb dX11_makes_103 hl (by decide) rfl (fun ls hl => ?_)
  refine lv_iload hx hb dX11_makes_105 (lv_at hl 0 rfl) ?_
  refine lv_iconst (v := (-1 : Int32)) hx hb dX11_makes_107 (by decide) ?_
  refine lv_icmp_eq (tgt := 156) hx hb dX11_makes_108 (by decide) (fun c32 => ?_) (fun c32 => ?_)
  · replace h := mq_it c32 h
    exact zw_X11_makes_156 C hret hk12 (v1) (v2) S H locs ls h (lv_sub hl [1, 2, 3] rfl) hP hD hS
  · replace h := mq_if c32 h
    refine lv_aload_n hx hb dX11_makes_111 rfl (lv_at hl 1 rfl) ?_
    refine va_get (D := D) (ci := 11) (v := .int ((S.1 17))) (C := RX11) (T := TX11) (N := 76) hx hb hts (zi_X11 _) hown hK hP 0 rfl rfl 32 (by decide) (hts _ (List.mem_cons_of_mem _ zt_f_X11_231)) (fun _ h9 => h9) rfl dX11_makes_112 ?_
    refine lv_iload hx hb dX11_makes_115 (lv_at hl 6 rfl) ?_
    refine lv_icmp_ne (tgt := 156) hx hb dX11_makes_117 (by decide) (fun c31 => ?_) (fun c31 => ?_)
    · replace h := mq_if c31 h
      exact zw_X11_makes_156 C hret hk12 (v1) (v2) S H locs ls h (lv_sub hl [1, 2, 3] rfl) hP hD hS
    · replace h := mq_it (by simpa using c31) h
      refine lv_aload_n hx hb dX11_makes_120 rfl (lv_at hl 1 rfl) ?_
      refine lv_dup hx hb dX11_makes_121 rfl ?_
      refine va_get (D := D) (ci := 11) (v := .int ((S.1 17))) (C := RX11) (T := TX11) (N := 76) hx hb hts (zi_X11 _) hown hK hP 0 rfl rfl 32 (by decide) (hts _ (List.mem_cons_of_mem _ zt_f_X11_231)) (fun _ h9 => h9) rfl dX11_makes_122 ?_
      refine lv_iconst (v := (1 : Int32)) hx hb dX11_makes_125 (by decide) ?_
      refine lv_isub hx hb dX11_makes_126 ?_
      refine mq_put (w := wd_R a cI cL cB cZ z) (S := S) (D := D) (ci := 11) (v := ((S.1 17) - (1 : Int32))) (ty := .int) (C := RX11) (T := TX11) (N := 76) hx hb hts (zi_X11 _) tyX11 tyX11_ok nmX11 hown hK hP hD hS 0 rfl rfl 32 (by decide) (hts _ (List.mem_cons_of_mem _ zt_f_X11_231)) (fun _ h9 => h9) rfl (by decide +kernel) rfl rfl (Nat.le_of_ble_eq_true rfl) dX11_makes_127 17 (zs_wd_R_i_0_17 _ _ _ _ _ _ _ _) (fun S25 eS25 H locs hP hD hS => ?_)
      replace h := mq_nS_go eS25 h
      refine lv_iload hx hb dX11_makes_130 (lv_at hl 5 rfl) ?_
      refine lv_if_eq (tgt := 147) hx hb dX11_makes_132 (by decide) (fun c30 => ?_) (fun c30 => ?_)
      · replace h := mq_it c30 h
        refine lv_aload_n hx hb dX11_makes_147 rfl (lv_at hl 1 rfl) ?_
        refine va_get (D := D) (ci := 11) (v := .ref (a 12)) (C := RX11) (T := TX11) (N := 76) hx hb hts (zi_X11 _) hown hK hP 0 rfl rfl 18 (by decide) (hts _ (List.mem_cons_of_mem _ zt_f_X11_51)) (fun _ h9 => h9) rfl dX11_makes_148 ?_
        refine lv_iload hx hb dX11_makes_151 (lv_at hl 4 rfl) ?_
        refine lv_iload hx hb dX11_makes_153 (lv_at hl 0 rfl) ?_
        have hi26 := mq_ck_in h
        replace h := mq_ck_go h
        refine mq_iast (w := wd_R a cI cL cB cZ z) (S := S25) (f := S25.2.1 11) hx hb hK hP hD hS 12 0 rfl rfl hi26 dX11_makes_155 11 (zs_wd_R_a_12_11 _ _ _ _ _ _ _ _) (fun S27 eS27 H locs hP hD hS => ?_)
        replace h := mq_nS_go eS27 h
        exact zw_X11_makes_156 C hret hk12 (v1) (v2) S27 H locs ls h (lv_sub hl [1, 2, 3] rfl) hP hD hS
      · replace h := mq_if c30 h
        refine lv_aload_n hx hb dX11_makes_135 rfl (lv_at hl 1 rfl) ?_
        refine va_get (D := D) (ci := 11) (v := .ref (a 11)) (C := RX11) (T := TX11) (N := 76) hx hb hts (zi_X11 _) hown hK hP 0 rfl rfl 17 (by decide) (hts _ (List.mem_cons_of_mem _ zt_f_X11_48)) (fun _ h9 => h9) rfl dX11_makes_136 ?_
        refine lv_iload hx hb dX11_makes_139 (lv_at hl 4 rfl) ?_
        refine lv_iload hx hb dX11_makes_141 (lv_at hl 0 rfl) ?_
        have hi28 := mq_ck_in h
        replace h := mq_ck_go h
        refine mq_iast (w := wd_R a cI cL cB cZ z) (S := S25) (f := S25.2.1 10) hx hb hK hP hD hS 11 0 rfl rfl hi28 dX11_makes_143 10 (zs_wd_R_a_11_10 _ _ _ _ _ _ _ _) (fun S29 eS29 H locs hP hD hS => ?_)
        replace h := mq_nS_go eS29 h
        refine lv_goto (tgt := 156) hx hb dX11_makes_144 (by decide) ?_
        exact zw_X11_makes_156 C hret hk12 (v1) (v2) S29 H locs ls h (lv_sub hl [1, 2, 3] rfl) hP hD hS
set_option maxHeartbeats 4000000 in
set_option maxRecDepth 100000 in
theorem zw_X11_makes_80 {p : Program} {l : Launch} {e : Env} {s : State} {m : MethodId} {args : Array Value} {below : List Frame} {meth : Method} {c : Code} {A : Nat → Prop} {D : va_G} {a z : Nat → Nat} {cI cL cB cZ : ClassId} {Q : State → Prop} {N : Nat} {res : Int32 × mq_St} {k12 : Int32 → Int32 → mq_St → Option (Int32 × mq_St)} (C : mq_C p s m args c A D cI cL cB cZ cX11_makes 9 RX11 zc_X11_makes) (hret : ∀ (H : Heap) (locs : List Loc) (ls : Array Slot) (pc : Nat), decode cX11_makes pc = .ok (.ireturn, 1) → va_P D vwCl (wd_R a cI cL cB cZ z res.2) H → va_D A (wd_R a cI cL cB cZ z res.2) → va_S A s.heap H locs → W p l e zr_X11_makes s m args below meth c H locs 0 0 Q (F0 m pc ls [.int res.1])) (hk12 : ∀ (v1 : Int32) (v2 : Int32) (S : mq_St) (H : Heap) (locs : List Loc) (ls : Array Slot), k12 v1 v2 S = some res → lv_has ls 9 [(0, .ref (a 0)), (1, .int (v1)), (2, .int (v2))] → va_P D vwCl (wd_R a cI cL cB cZ z S) H → va_D A (wd_R a cI cL cB cZ z S) → va_S A s.heap H locs → W p l e zr_X11_makes s m args below meth c H locs 0 0 Q (F0 m 12 ls [])) (v1 : Int32) (v2 : Int32) (v5 : Int32) (v6 : Int32) (v7 : Int32) (t0 : Int32) (S : mq_St) (H : Heap) (locs : List Loc) (ls : Array Slot) (h : zf_X11_makes_80 N z k12 v1 v2 v5 v6 v7 t0 S = some res) (hl : lv_has ls 9 [(0, .ref (a 0)), (1, .int (v1)), (2, .int (v2)), (5, .int (v5)), (6, .int (v6)), (7, .int (v7))]) (hP : va_P D vwCl (wd_R a cI cL cB cZ z S) H) (hD : va_D A (wd_R a cI cL cB cZ z S)) (hS : va_S A s.heap H locs) : W p l e zr_X11_makes s m args below meth c H locs 0 0 Q (F0 m 80 ls [.int (t0)]) := by
  obtain ⟨hx, hb, hml, hown, hts, hK, hA⟩ := id C
  unfold zf_X11_makes_80 at h
  refine lv_iconst (v := (-1 : Int32)) hx hb dX11_makes_80 (by decide) ?_
  refine lv_icmp_eq (tgt := 95) hx hb dX11_makes_81 (by decide) (fun c23 => ?_) (fun c23 => ?_)
  · replace h := mq_it c23 h
    refine lv_aload_n hx hb dX11_makes_95 rfl (lv_at hl 0 rfl) ?_
    refine lv_iload hx hb dX11_makes_96 (lv_at hl 3 rfl) ?_
    refine lv_iload hx hb dX11_makes_98 (lv_at hl 4 rfl) ?_
    obtain ⟨q18, hc19, h⟩ := mq_cl_go h
    refine zk_X11_madeOf C zt_m_X11_249 ⟨by decide, by decide⟩ hc19 hP hD hS hl.1 (Nat.le_of_ble_eq_true rfl) dX11_makes_100 (fun H locs hP hD hS => ?_)
    obtain ⟨S20, eS20⟩ : ∃ y, y = q18.2 := ⟨_, rfl⟩
    rw [← eS20] at hP hD h
    exact zw_X11_makes_103 C hret hk12 (v1) (v2) (v5) (v6) (v7) (q18.1) S20 H locs ls h (lv_sub hl [0, 1, 2, 3, 4, 5] rfl) hP hD hS
  · replace h := mq_if c23 h
    refine lv_aload_n hx hb dX11_makes_84 rfl (lv_at hl 0 rfl) ?_
    refine lv_iload hx hb dX11_makes_85 (lv_at hl 3 rfl) ?_
    refine lv_iload hx hb dX11_makes_87 (lv_at hl 4 rfl) ?_
    obtain ⟨q21, hc22, h⟩ := mq_cp_go h
    refine zk_X11_has C zt_m_X11_238 ⟨by decide, by decide⟩ hc22 hP hD hS hl.1 (Nat.le_of_ble_eq_true rfl) dX11_makes_89 (fun H locs hP hD hS => ?_)
    refine lv_goto (tgt := 103) hx hb dX11_makes_92 (by decide) ?_
    exact zw_X11_makes_103 C hret hk12 (v1) (v2) (v5) (v6) (v7) (q21) S H locs ls h (lv_sub hl [0, 1, 2, 3, 4, 5] rfl) hP hD hS
set_option maxHeartbeats 4000000 in
set_option maxRecDepth 100000 in
theorem zw_X11_makes_50 {p : Program} {l : Launch} {e : Env} {s : State} {m : MethodId} {args : Array Value} {below : List Frame} {meth : Method} {c : Code} {A : Nat → Prop} {D : va_G} {a z : Nat → Nat} {cI cL cB cZ : ClassId} {Q : State → Prop} {N : Nat} {res : Int32 × mq_St} {k12 : Int32 → Int32 → mq_St → Option (Int32 × mq_St)} (C : mq_C p s m args c A D cI cL cB cZ cX11_makes 9 RX11 zc_X11_makes) (hret : ∀ (H : Heap) (locs : List Loc) (ls : Array Slot) (pc : Nat), decode cX11_makes pc = .ok (.ireturn, 1) → va_P D vwCl (wd_R a cI cL cB cZ z res.2) H → va_D A (wd_R a cI cL cB cZ z res.2) → va_S A s.heap H locs → W p l e zr_X11_makes s m args below meth c H locs 0 0 Q (F0 m pc ls [.int res.1])) (hk12 : ∀ (v1 : Int32) (v2 : Int32) (S : mq_St) (H : Heap) (locs : List Loc) (ls : Array Slot), k12 v1 v2 S = some res → lv_has ls 9 [(0, .ref (a 0)), (1, .int (v1)), (2, .int (v2))] → va_P D vwCl (wd_R a cI cL cB cZ z S) H → va_D A (wd_R a cI cL cB cZ z S) → va_S A s.heap H locs → W p l e zr_X11_makes s m args below meth c H locs 0 0 Q (F0 m 12 ls [])) (v1 : Int32) (v2 : Int32) (v5 : Int32) (t0 : Int32) (S : mq_St) (H : Heap) (locs : List Loc) (ls : Array Slot) (h : zf_X11_makes_50 N z k12 v1 v2 v5 t0 S = some res) (hl : lv_has ls 9 [(0, .ref (a 0)), (1, .int (v1)), (2, .int (v2)), (5, .int (v5))]) (hP : va_P D vwCl (wd_R a cI cL cB cZ z S) H) (hD : va_D A (wd_R a cI cL cB cZ z S)) (hS : va_S A s.heap H locs) : W p l e zr_X11_makes s m args below meth c H locs 0 0 Q (F0 m 50 ls [.int (t0)]) := by
  obtain ⟨hx, hb, hml, hown, hts, hK, hA⟩ := id C
  unfold zf_X11_makes_50 at h
  refine lv_topi (fun x13 ex13 => ?_)
  replace h := mq_nI_go ex13 h
  refine lv_istore (lv' := [(6, .int (x13)), (0, .ref (a 0)), (1, .int (v1)), (2, .int (v2)), (5, .int (v5))]) hx hb dX11_makes_50 hl (by decide) rfl (fun ls hl => ?_)
  refine lv_aload_n hx hb dX11_makes_52 rfl (lv_at hl 1 rfl) ?_
  refine va_get (D := D) (ci := 11) (v := .int ((S.1 17))) (C := RX11) (T := TX11) (N := 76) hx hb hts (zi_X11 _) hown hK hP 0 rfl rfl 32 (by decide) (hts _ (List.mem_cons_of_mem _ zt_f_X11_231)) (fun _ h9 => h9) rfl dX11_makes_53 ?_
  refine lv_topi (fun x14 ex14 => ?_)
  replace h := mq_nI_go ex14 h
  refine lv_istore (lv' := [(7, .int (x14)), (6, .int (x13)), (0, .ref (a 0)), (1, .int (v1)), (2, .int (v2)), (5, .int (v5))]) hx hb dX11_makes_56 hl (by decide) rfl (fun ls hl => ?_)
  refine lv_iload hx hb dX11_makes_58 (lv_at hl 1 rfl) ?_
  refine lv_if_eq (tgt := 73) hx hb dX11_makes_60 (by decide) (fun c17 => ?_) (fun c17 => ?_)
  · replace h := mq_it c17 h
    refine lv_aload_n hx hb dX11_makes_73 rfl (lv_at hl 2 rfl) ?_
    refine va_get (D := D) (ci := 11) (v := .ref (a 12)) (C := RX11) (T := TX11) (N := 76) hx hb hts (zi_X11 _) hown hK hP 0 rfl rfl 18 (by decide) (hts _ (List.mem_cons_of_mem _ zt_f_X11_51)) (fun _ h9 => h9) rfl dX11_makes_74 ?_
    refine lv_iload hx hb dX11_makes_77 (lv_at hl 5 rfl) ?_
    have hi15 := mq_ck_in h
    replace h := mq_ck_go h
    refine va_iald (f := S.2.1 11) hx hb hK hP 12 0 rfl rfl hi15 dX11_makes_79 ?_
    exact zw_X11_makes_80 C hret hk12 (v1) (v2) (v5) (x13) (x14) ((S.2.1 11 (v5).toNatClampNeg)) S H locs ls h (lv_sub hl [2, 3, 4, 5, 1, 0] rfl) hP hD hS
  · replace h := mq_if c17 h
    refine lv_aload_n hx hb dX11_makes_63 rfl (lv_at hl 2 rfl) ?_
    refine va_get (D := D) (ci := 11) (v := .ref (a 11)) (C := RX11) (T := TX11) (N := 76) hx hb hts (zi_X11 _) hown hK hP 0 rfl rfl 17 (by decide) (hts _ (List.mem_cons_of_mem _ zt_f_X11_48)) (fun _ h9 => h9) rfl dX11_makes_64 ?_
    refine lv_iload hx hb dX11_makes_67 (lv_at hl 5 rfl) ?_
    have hi16 := mq_ck_in h
    replace h := mq_ck_go h
    refine va_iald (f := S.2.1 10) hx hb hK hP 11 0 rfl rfl hi16 dX11_makes_69 ?_
    refine lv_goto (tgt := 80) hx hb dX11_makes_70 (by decide) ?_
    exact zw_X11_makes_80 C hret hk12 (v1) (v2) (v5) (x13) (x14) ((S.2.1 10 (v5).toNatClampNeg)) S H locs ls h (lv_sub hl [2, 3, 4, 5, 1, 0] rfl) hP hD hS
set_option maxHeartbeats 4000000 in
set_option maxRecDepth 100000 in
theorem zw_X11_makes_12b {p : Program} {l : Launch} {e : Env} {s : State} {m : MethodId} {args : Array Value} {below : List Frame} {meth : Method} {c : Code} {A : Nat → Prop} {D : va_G} {a z : Nat → Nat} {cI cL cB cZ : ClassId} {Q : State → Prop} {N : Nat} {res : Int32 × mq_St} {k12 : Int32 → Int32 → mq_St → Option (Int32 × mq_St)} (C : mq_C p s m args c A D cI cL cB cZ cX11_makes 9 RX11 zc_X11_makes) (hret : ∀ (H : Heap) (locs : List Loc) (ls : Array Slot) (pc : Nat), decode cX11_makes pc = .ok (.ireturn, 1) → va_P D vwCl (wd_R a cI cL cB cZ z res.2) H → va_D A (wd_R a cI cL cB cZ z res.2) → va_S A s.heap H locs → W p l e zr_X11_makes s m args below meth c H locs 0 0 Q (F0 m pc ls [.int res.1])) (hk12 : ∀ (v1 : Int32) (v2 : Int32) (S : mq_St) (H : Heap) (locs : List Loc) (ls : Array Slot), k12 v1 v2 S = some res → lv_has ls 9 [(0, .ref (a 0)), (1, .int (v1)), (2, .int (v2))] → va_P D vwCl (wd_R a cI cL cB cZ z S) H → va_D A (wd_R a cI cL cB cZ z S) → va_S A s.heap H locs → W p l e zr_X11_makes s m args below meth c H locs 0 0 Q (F0 m 12 ls [])) (v1 : Int32) (v2 : Int32) (S : mq_St) (H : Heap) (locs : List Loc) (ls : Array Slot) (h : zf_X11_makes_12b N z k12 v1 v2 S = some res) (hl : lv_has ls 9 [(0, .ref (a 0)), (1, .int (v1)), (2, .int (v2))]) (hP : va_P D vwCl (wd_R a cI cL cB cZ z S) H) (hD : va_D A (wd_R a cI cL cB cZ z S)) (hS : va_S A s.heap H locs) : W p l e zr_X11_makes s m args below meth c H locs 0 0 Q (F0 m 12 ls []) := by
  obtain ⟨hx, hb, hml, hown, hts, hK, hA⟩ := id C
  unfold zf_X11_makes_12b at h
  refine lv_aload_n hx hb dX11_makes_12 rfl (lv_at hl 0 rfl) ?_
  refine va_get (D := D) (ci := 11) (v := .int ((S.1 17))) (C := RX11) (T := TX11) (N := 76) hx hb hts (zi_X11 _) hown hK hP 0 rfl rfl 32 (by decide) (hts _ (List.mem_cons_of_mem _ zt_f_X11_231)) (fun _ h9 => h9) rfl dX11_makes_13 ?_
  refine lv_if_le (tgt := 159) hx hb dX11_makes_16 (by decide) (fun c12 => ?_) (fun c12 => ?_)
  · replace h := mq_it c12 h
    refine lv_aload_n hx hb dX11_makes_159 rfl (lv_at hl 0 rfl) ?_
    refine lv_iload_n hx hb dX11_makes_160 rfl (lv_at hl 1 rfl) ?_
    refine lv_iload_n hx hb dX11_makes_161 rfl (lv_at hl 2 rfl) ?_
    obtain ⟨q6, hc7, h⟩ := mq_cp_go h
    refine zk_X11_has C zt_m_X11_238 ⟨by decide, by decide⟩ hc7 hP hD hS hl.1 (Nat.le_of_ble_eq_true rfl) dX11_makes_162 (fun H locs hP hD hS => ?_)
    cases h
    exact hret H locs ls 165 dX11_makes_165 hP hD hS
  · replace h := mq_if c12 h
    refine lv_aload_n hx hb dX11_makes_19 rfl (lv_at hl 0 rfl) ?_
    refine va_get (D := D) (ci := 11) (v := .ref (a 15)) (C := RX11) (T := TX11) (N := 76) hx hb hts (zi_X11 _) hown hK hP 0 rfl rfl 31 (by decide) (hts _ (List.mem_cons_of_mem _ zt_f_X11_60)) (fun _ h9 => h9) rfl dX11_makes_20 ?_
    refine lv_aload_n hx hb dX11_makes_23 rfl (lv_at hl 0 rfl) ?_
    refine va_get (D := D) (ci := 11) (v := .int ((S.1 17))) (C := RX11) (T := TX11) (N := 76) hx hb hts (zi_X11 _) hown hK hP 0 rfl rfl 32 (by decide) (hts _ (List.mem_cons_of_mem _ zt_f_X11_231)) (fun _ h9 => h9) rfl dX11_makes_24 ?_
    refine lv_iconst (v := (1 : Int32)) hx hb dX11_makes_27 (by decide) ?_
    refine lv_isub hx hb dX11_makes_28 ?_
    have hi8 := mq_ck_in h
    replace h := mq_ck_go h
    refine va_iald (f := S.2.1 14) hx hb hK hP 15 0 rfl rfl hi8 dX11_makes_29 ?_
    refine lv_topi (fun x9 ex9 => ?_)
    replace h := mq_nI_go ex9 h
    refine lv_istore (lv' := [(4, .int (x9)), (0, .ref (a 0)), (1, .int (v1)), (2, .int (v2))]) hx hb dX11_makes_30 hl (by decide) rfl (fun ls hl => ?_)
    refine lv_iload hx hb dX11_makes_32 (lv_at hl 0 rfl) ?_
    refine lv_iconst (v := (2 : Int32)) hx hb dX11_makes_34 (by decide) ?_
    refine lv_idiv hx hb dX11_makes_35 (by decide) ?_
    refine lv_topi (fun x10 ex10 => ?_)
    replace h := mq_nI_go ex10 h
    refine lv_istore (lv' := [(5, .int (x10)), (4, .int (x9)), (0, .ref (a 0)), (1, .int (v1)), (2, .int (v2))]) hx hb dX11_makes_36 hl (by decide) rfl (fun ls hl => ?_)
    refine lv_iload hx hb dX11_makes_38 (lv_at hl 1 rfl) ?_
    refine lv_iconst (v := (2 : Int32)) hx hb dX11_makes_40 (by decide) ?_
    refine lv_irem hx hb dX11_makes_41 (by decide) ?_
    refine lv_if_ne (tgt := 49) hx hb dX11_makes_42 (by decide) (fun c11 => ?_) (fun c11 => ?_)
    · replace h := mq_if c11 h
      refine lv_iconst (v := (0 : Int32)) hx hb dX11_makes_49 (by decide) ?_
      exact zw_X11_makes_50 C hret hk12 (v1) (v2) (x10) ((0 : Int32)) S H locs ls h (lv_sub hl [2, 3, 4, 0] rfl) hP hD hS
    · replace h := mq_it (by simpa using c11) h
      refine lv_iconst (v := (1 : Int32)) hx hb dX11_makes_45 (by decide) ?_
      refine lv_goto (tgt := 50) hx hb dX11_makes_46 (by decide) ?_
      exact zw_X11_makes_50 C hret hk12 (v1) (v2) (x10) ((1 : Int32)) S H locs ls h (lv_sub hl [2, 3, 4, 0] rfl) hP hD hS
set_option maxHeartbeats 4000000 in
set_option maxRecDepth 100000 in
theorem zw_X11_makes_12 {p : Program} {l : Launch} {e : Env} {s : State} {m : MethodId} {args : Array Value} {below : List Frame} {meth : Method} {c : Code} {A : Nat → Prop} {D : va_G} {a z : Nat → Nat} {cI cL cB cZ : ClassId} {Q : State → Prop} {N : Nat} {res : Int32 × mq_St} (C : mq_C p s m args c A D cI cL cB cZ cX11_makes 9 RX11 zc_X11_makes) (hret : ∀ (H : Heap) (locs : List Loc) (ls : Array Slot) (pc : Nat), decode cX11_makes pc = .ok (.ireturn, 1) → va_P D vwCl (wd_R a cI cL cB cZ z res.2) H → va_D A (wd_R a cI cL cB cZ z res.2) → va_S A s.heap H locs → W p l e zr_X11_makes s m args below meth c H locs 0 0 Q (F0 m pc ls [.int res.1])) : ∀ (n : Nat) (v1 : Int32) (v2 : Int32) (S : mq_St) (H : Heap) (locs : List Loc) (ls : Array Slot) (h : zf_X11_makes_12 N z n v1 v2 S = some res) (hl : lv_has ls 9 [(0, .ref (a 0)), (1, .int (v1)), (2, .int (v2))]) (hP : va_P D vwCl (wd_R a cI cL cB cZ z S) H) (hD : va_D A (wd_R a cI cL cB cZ z S)) (hS : va_S A s.heap H locs), W p l e zr_X11_makes s m args below meth c H locs 0 0 Q (F0 m 12 ls []) := by
  intro n
  induction n with
  | zero =>
    intro v1 v2 S H locs ls h hl hP hD hS
    exact nomatch (show (none : Option (Int32 × mq_St)) = some res from h)
  | succ n ih =>
    intro v1 v2 S H locs ls h hl hP hD hS
    exact zw_X11_makes_12b C hret (fun v1 v2 S H locs ls h hl hP hD hS => ih v1 v2 S H locs ls h hl hP hD hS) v1 v2 S H locs ls h hl hP hD hS
set_option maxHeartbeats 4000000 in
set_option maxRecDepth 100000 in
theorem zw_X11_makes_0 {p : Program} {l : Launch} {e : Env} {s : State} {m : MethodId} {args : Array Value} {below : List Frame} {meth : Method} {c : Code} {A : Nat → Prop} {D : va_G} {a z : Nat → Nat} {cI cL cB cZ : ClassId} {Q : State → Prop} {N : Nat} {res : Int32 × mq_St} (C : mq_C p s m args c A D cI cL cB cZ cX11_makes 9 RX11 zc_X11_makes) (hret : ∀ (H : Heap) (locs : List Loc) (ls : Array Slot) (pc : Nat), decode cX11_makes pc = .ok (.ireturn, 1) → va_P D vwCl (wd_R a cI cL cB cZ z res.2) H → va_D A (wd_R a cI cL cB cZ z res.2) → va_S A s.heap H locs → W p l e zr_X11_makes s m args below meth c H locs 0 0 Q (F0 m pc ls [.int res.1])) (v1 : Int32) (v2 : Int32) (S : mq_St) (H : Heap) (locs : List Loc) (ls : Array Slot) (h : zf_X11_makes N z v1 v2 S = some res) (hl : lv_has ls 9 [(0, .ref (a 0)), (1, .int (v1)), (2, .int (v2))]) (hP : va_P D vwCl (wd_R a cI cL cB cZ z S) H) (hD : va_D A (wd_R a cI cL cB cZ z S)) (hS : va_S A s.heap H locs) : W p l e zr_X11_makes s m args below meth c H locs 0 0 Q (F0 m 0 ls []) := by
  obtain ⟨hx, hb, hml, hown, hts, hK, hA⟩ := id C
  unfold zf_X11_makes at h
  refine lv_aload_n hx hb dX11_makes_0 rfl (lv_at hl 0 rfl) ?_
  refine lv_iconst (v := (0 : Int32)) hx hb dX11_makes_1 (by decide) ?_
  refine mq_put (w := wd_R a cI cL cB cZ z) (S := S) (D := D) (ci := 11) (v := (0 : Int32)) (ty := .int) (C := RX11) (T := TX11) (N := 76) hx hb hts (zi_X11 _) tyX11 tyX11_ok nmX11 hown hK hP hD hS 0 rfl rfl 32 (by decide) (hts _ (List.mem_cons_of_mem _ zt_f_X11_231)) (fun _ h9 => h9) rfl (by decide +kernel) rfl rfl (Nat.le_of_ble_eq_true rfl) dX11_makes_2 17 (zs_wd_R_i_0_17 _ _ _ _ _ _ _ _) (fun S1 eS1 H locs hP hD hS => ?_)
  replace h := mq_nS_go eS1 h
  refine lv_aload_n hx hb dX11_makes_5 rfl (lv_at hl 0 rfl) ?_
  refine lv_iload_n hx hb dX11_makes_6 rfl (lv_at hl 1 rfl) ?_
  refine lv_iload_n hx hb dX11_makes_7 rfl (lv_at hl 2 rfl) ?_
  obtain ⟨q2, hc3, h⟩ := mq_cl_go h
  refine zk_X11_isMade C zt_m_X11_234 ⟨by decide, by decide⟩ hc3 hP hD hS hl.1 (Nat.le_of_ble_eq_true rfl) dX11_makes_8 (fun H locs hP hD hS => ?_)
  obtain ⟨S4, eS4⟩ : ∃ y, y = q2.2 := ⟨_, rfl⟩
  rw [← eS4] at hP hD h
  refine lv_topi (fun x5 ex5 => ?_)
  replace h := mq_nI_go ex5 h
  refine lv_istore_n (lv' := [(3, .int (x5)), (0, .ref (a 0)), (1, .int (v1)), (2, .int (v2))]) hx hb dX11_makes_11 rfl hl (by decide) rfl (fun ls hl => ?_)
  exact zw_X11_makes_12 C hret N (v1) (v2) S4 H locs ls h (lv_sub hl [1, 2, 3] rfl) hP hD hS
set_option maxHeartbeats 4000000 in
set_option maxRecDepth 100000 in
theorem zm_X11_makes (l : Launch) (D : va_G) (a z : Nat → Nat) (cI cL cB cZ : ClassId) (sz N : Nat) (v1 : Int32) (v2 : Int32) (S : mq_St) (res : Int32 × mq_St) (h : zf_X11_makes N z v1 v2 S = some res) : Met l yX11_makes (zc_X11_makes :: mq_T) zr_X11_makes (va_Pc [.ref (a 0), .int (v1), .int (v2)] (fun U => U.heap.size = sz ∧ va_P D vwCl (wd_R a cI cL cB cZ z S) U.heap ∧ va_K D vwCl (mq_tys cI cL cB cZ) U ∧ va_D (fun _ => True) (wd_R a cI cL cB cZ z S))) (va_Qi (fun (r : Int32) (u : mq_St) => r = res.1 ∧ u = res.2) (fun u t => va_P D vwCl (wd_R a cI cL cB cZ z u) t.heap ∧ va_K D vwCl (mq_tys cI cL cB cZ) t ∧ va_D (va_A (wd_R a cI cL cB cZ z S) sz) (wd_R a cI cL cB cZ z u)) (va_A (wd_R a cI cL cB cZ z S) sz)) 0 0 (va_A (wd_R a cI cL cB cZ z S) sz) := by
  refine Met.ofW (cc := cX11_makes) (maxL := 9) (ret := (some .int)) (by decide) rfl ?_
  intro p e s m args below meth c s₁ B hml hv
  obtain ⟨rfl, hsz, hP, hK, hD0⟩ := hv
  have hr := B.returns
  have hlocks := B.notSynchronized
  have hts := atoms_spec (ws := zc_X11_makes :: mq_T) B.pre
  have hown : s.vm.findClass RX11 = some m.cls := findClass_of_methodNamed B.named
  subst hsz
  have hD := hD0.self (sz := s.heap.size)
  generalize hAe : va_A (wd_R a cI cL cB cZ z S) s.heap.size = A at hD ⊢
  have hA : ∀ q : Nat, s.heap.size ≤ q → A q := fun q h => by rw [← hAe]; exact Or.inr h
  have hl := lv_entry ([.ref (a 0), .int (v1), .int (v2)]) (n := 9) (Nat.le_of_ble_eq_true rfl)
  rw [lg_entry_eq]
  generalize (lg_sl ([.ref (a 0), .int (v1), .int (v2)]) ++ List.replicate (9 - (lg_sl ([.ref (a 0), .int (v1), .int (v2)])).length) Slot.unset).toArray = ls at hl ⊢
  have hl : lv_has ls 9 [(0, .ref (a 0)), (1, .int (v1)), (2, .int (v2))] := hl
  refine zw_X11_makes_0 (A := A) ⟨B.exec, B.bytes, hml, hown, hts, hK, hA⟩ (fun H locs ls pc dg hP hD hS => ?_) v1 v2 S s.heap [] ls h hl hP hD va_S.rf
  exact W.iret B.exec B.bytes hr (fun t ht hW => ⟨⟨_, _, rfl, ⟨rfl, rfl⟩, by rw [ht]; exact hP, va_K.moved hW.alike hK, hD⟩, hS.F ht⟩) hS.2.2 dg
theorem zt_X11_makes_c : zc_X11_makes ∈ mq_T := mq_T_mem (mq_t6 (List.mem_of_getElem? (i := 225) rfl)) rfl
theorem zt_X11_makes_i : Cond.instanceMethod yX11_makes ∈ mq_T := mq_T_mem (mq_t6 (List.mem_of_getElem? (i := 224) rfl)) rfl
theorem zt_X11_makes_s : Cond.selects RX11 yX11_makes yX11_makes ∈ mq_T := mq_T_at 75 (by decide +kernel)
set_option maxHeartbeats 4000000 in
theorem zk_X11_makes {p : Program} {l : Launch} {e : Env} {R : Room} {s : State} {m : MethodId} {args : Array Value} {below : List Frame} {meth : Method} {c : Code} {A : Nat → Prop} {D : va_G} {a z : Nat → Nat} {cI cL cB cZ : ClassId} {Q : State → Prop} {cc : ByteArray} {nL idx pc N : Nat} {own : String} {c1 : Cond} {H : Heap} {locs : List Loc} {ls : Array Slot} {rest : List Value} {S : mq_St} {res : Int32 × mq_St} {v1 : Int32} {v2 : Int32} (C : mq_C p s m args c A D cI cL cB cZ cc nL own c1) (hlk : Cond.methodLink own idx yX11_makes ∈ mq_T) (hR : zr_X11_makes.frames + 1 ≤ R.frames ∧ 8 + (9 + 11) + zr_X11_makes.locals ≤ R.locals) (h : zf_X11_makes N z v1 v2 S = some res) (hP : va_P D vwCl (wd_R a cI cL cB cZ z S) H) (hD : va_D A (wd_R a cI cL cB cZ z S)) (hS : va_S A s.heap H locs) (hls : ls.size = nL) (hrest : (rest.map fun v => v.category).sum ≤ 8) (hdg : decode cc pc = .ok (.invokevirtual idx, 3)) (kk : ∀ (H1 : Heap) (locs1 : List Loc), va_P D vwCl (wd_R a cI cL cB cZ z res.2) H1 → va_D A (wd_R a cI cL cB cZ z res.2) → va_S A s.heap H1 locs1 → W p l e R s m args below meth c H1 locs1 0 0 Q (F0 m (pc + 3) ls (.int res.1 :: rest))) : W p l e R s m args below meth c H locs 0 0 Q (F0 m pc ls (.int (v2) :: .int (v1) :: .ref (a 0) :: rest)) := by
  obtain ⟨hx, hb, hml, hown, hts, hK, hA⟩ := C
  have hFc := mq_freeI hD hS hA
  refine va_calli (va_runV (As := [.int (v1), .int (v2)]) (rest := rest) ⟨hx, hb, hml, hown, hts⟩ (zm_X11_makes l D a z cI cL cB cZ H.size N v1 v2 S res h) (cwV 2 hts (mq_goodL (mq_wsV hlk zt_X11_makes_i zt_X11_makes_s zt_ini_X11 zt_X11_makes_c)) rfl rfl rfl (by decide +kernel) hR) ⟨fun a U g mk q => ⟨q.1, q.2.1, q.2.2.1, va_K.moved (u := U) (U := U.calling g mk a) (Vm.Alike.refl U.vm) q.2.2.2.1, q.2.2.2.2⟩, zy_R_0 hK hP, fun U hU hW => ⟨rfl, by rw [hU], by rw [hU]; exact hP, va_K.moved hW.alike hK, hD.weaken (fun _ _ _ _ => trivial)⟩⟩ rfl rfl hls rfl (lv_room hrest) hdg ⟨Nat.zero_le _, Nat.zero_le _⟩) hS (fun q _ h => hFc q h) hFc (fun r u t H1 locs ht hvm hw hB hz1 hk1 hS => ?_)
  obtain ⟨rfl, rfl⟩ := hw
  obtain ⟨hP1, hK1, hD1⟩ := hB
  rw [ht] at hP1
  exact kk H1 locs hP1 (hD1.weaken (fun _ _ _ h => hFc _ h)) hS
theorem zs_wd_R_i_0_9 (a z : Nat → Nat) (cI cL cB cZ : ClassId) (S : mq_St) (v : Int32) : (wd_R a cI cL cB cZ z S).set 0 (a 0, .inr (11, ([.int (S.1 0), .ref (a 1), .int (S.1 1), .ref (a 2), .int (S.1 2), .ref (a 3), .ref (a 4), .ref (a 5), .int (S.1 3), .ref (a 6), .ref (a 7), .int (S.1 4), .int (S.1 5), .int (S.1 6), .ref (a 8), .ref (a 9), .ref (a 10), .ref (a 11), .ref (a 12), .int (S.1 7), .int (S.1 8), .int (S.1 9), .int (S.1 10), .int (S.1 11), .int (S.1 12), .int (S.1 13), .ref (a 13), .ref (a 14), .int (S.1 14), .int (S.1 15), .int (S.1 16), .ref (a 15), .int (S.1 17), .ref (a 16), .ref (a 17), .ref (a 18), .int (S.1 18), .int (S.1 19), .int (S.1 20), .int (S.1 21), .int (S.1 22), .int (S.1 23), .int (S.1 24), .int (S.1 25), .ref (a 19), .ref (a 20), .ref (a 21), .ref (a 22), .ref (a 23), .int (S.1 26), .ref (a 24), .ref (a 25), .int (S.1 27), .int (S.1 28), .ref (a 26), .ref (a 27), .ref (a 28), .ref (a 29), .ref (a 30), .ref (a 31), .ref (a 32), .int (S.1 29), .int (S.1 30), .ref (a 33), .ref (a 34), .int (S.1 31), .ref (a 35), .ref (a 36), .ref (a 37), .ref (a 38), .ref (a 39), .ref (a 40), .ref (a 41), .ref (a 42), .ref (a 43), .ref (a 44)] : List Value).set 21 (.int v))) = (wd_R a cI cL cB cZ z (mq_si S 9 v)) := rfl
theorem zs_wd_R_i_0_13 (a z : Nat → Nat) (cI cL cB cZ : ClassId) (S : mq_St) (v : Int32) : (wd_R a cI cL cB cZ z S).set 0 (a 0, .inr (11, ([.int (S.1 0), .ref (a 1), .int (S.1 1), .ref (a 2), .int (S.1 2), .ref (a 3), .ref (a 4), .ref (a 5), .int (S.1 3), .ref (a 6), .ref (a 7), .int (S.1 4), .int (S.1 5), .int (S.1 6), .ref (a 8), .ref (a 9), .ref (a 10), .ref (a 11), .ref (a 12), .int (S.1 7), .int (S.1 8), .int (S.1 9), .int (S.1 10), .int (S.1 11), .int (S.1 12), .int (S.1 13), .ref (a 13), .ref (a 14), .int (S.1 14), .int (S.1 15), .int (S.1 16), .ref (a 15), .int (S.1 17), .ref (a 16), .ref (a 17), .ref (a 18), .int (S.1 18), .int (S.1 19), .int (S.1 20), .int (S.1 21), .int (S.1 22), .int (S.1 23), .int (S.1 24), .int (S.1 25), .ref (a 19), .ref (a 20), .ref (a 21), .ref (a 22), .ref (a 23), .int (S.1 26), .ref (a 24), .ref (a 25), .int (S.1 27), .int (S.1 28), .ref (a 26), .ref (a 27), .ref (a 28), .ref (a 29), .ref (a 30), .ref (a 31), .ref (a 32), .int (S.1 29), .int (S.1 30), .ref (a 33), .ref (a 34), .int (S.1 31), .ref (a 35), .ref (a 36), .ref (a 37), .ref (a 38), .ref (a 39), .ref (a 40), .ref (a 41), .ref (a 42), .ref (a 43), .ref (a 44)] : List Value).set 25 (.int v))) = (wd_R a cI cL cB cZ z (mq_si S 13 v)) := rfl
theorem zt_m_X11_252 : Cond.methodLink RX11 252 yX11_whole ∈ mq_T := mq_T_mem (mq_t6 (List.mem_of_getElem? (i := 186) rfl)) rfl
theorem zt_f_X11_255 : Cond.fieldLink RX11 255 "ModalDeskModel" "lastFault" "I" ∈ mq_T := mq_T_mem (mq_t5 (List.mem_of_getElem? (i := 176) rfl)) rfl
theorem zs_wd_R_i_0_4 (a z : Nat → Nat) (cI cL cB cZ : ClassId) (S : mq_St) (v : Int32) : (wd_R a cI cL cB cZ z S).set 0 (a 0, .inr (11, ([.int (S.1 0), .ref (a 1), .int (S.1 1), .ref (a 2), .int (S.1 2), .ref (a 3), .ref (a 4), .ref (a 5), .int (S.1 3), .ref (a 6), .ref (a 7), .int (S.1 4), .int (S.1 5), .int (S.1 6), .ref (a 8), .ref (a 9), .ref (a 10), .ref (a 11), .ref (a 12), .int (S.1 7), .int (S.1 8), .int (S.1 9), .int (S.1 10), .int (S.1 11), .int (S.1 12), .int (S.1 13), .ref (a 13), .ref (a 14), .int (S.1 14), .int (S.1 15), .int (S.1 16), .ref (a 15), .int (S.1 17), .ref (a 16), .ref (a 17), .ref (a 18), .int (S.1 18), .int (S.1 19), .int (S.1 20), .int (S.1 21), .int (S.1 22), .int (S.1 23), .int (S.1 24), .int (S.1 25), .ref (a 19), .ref (a 20), .ref (a 21), .ref (a 22), .ref (a 23), .int (S.1 26), .ref (a 24), .ref (a 25), .int (S.1 27), .int (S.1 28), .ref (a 26), .ref (a 27), .ref (a 28), .ref (a 29), .ref (a 30), .ref (a 31), .ref (a 32), .int (S.1 29), .int (S.1 30), .ref (a 33), .ref (a 34), .int (S.1 31), .ref (a 35), .ref (a 36), .ref (a 37), .ref (a 38), .ref (a 39), .ref (a 40), .ref (a 41), .ref (a 42), .ref (a 43), .ref (a 44)] : List Value).set 11 (.int v))) = (wd_R a cI cL cB cZ z (mq_si S 4 v)) := rfl
theorem zt_f_X11_36 : Cond.fieldLink RX11 36 "ModalDeskModel" "lastPlace" "I" ∈ mq_T := mq_T_mem (mq_t5 (List.mem_of_getElem? (i := 177) rfl)) rfl
theorem zs_wd_R_i_0_5 (a z : Nat → Nat) (cI cL cB cZ : ClassId) (S : mq_St) (v : Int32) : (wd_R a cI cL cB cZ z S).set 0 (a 0, .inr (11, ([.int (S.1 0), .ref (a 1), .int (S.1 1), .ref (a 2), .int (S.1 2), .ref (a 3), .ref (a 4), .ref (a 5), .int (S.1 3), .ref (a 6), .ref (a 7), .int (S.1 4), .int (S.1 5), .int (S.1 6), .ref (a 8), .ref (a 9), .ref (a 10), .ref (a 11), .ref (a 12), .int (S.1 7), .int (S.1 8), .int (S.1 9), .int (S.1 10), .int (S.1 11), .int (S.1 12), .int (S.1 13), .ref (a 13), .ref (a 14), .int (S.1 14), .int (S.1 15), .int (S.1 16), .ref (a 15), .int (S.1 17), .ref (a 16), .ref (a 17), .ref (a 18), .int (S.1 18), .int (S.1 19), .int (S.1 20), .int (S.1 21), .int (S.1 22), .int (S.1 23), .int (S.1 24), .int (S.1 25), .ref (a 19), .ref (a 20), .ref (a 21), .ref (a 22), .ref (a 23), .int (S.1 26), .ref (a 24), .ref (a 25), .int (S.1 27), .int (S.1 28), .ref (a 26), .ref (a 27), .ref (a 28), .ref (a 29), .ref (a 30), .ref (a 31), .ref (a 32), .int (S.1 29), .int (S.1 30), .ref (a 33), .ref (a 34), .int (S.1 31), .ref (a 35), .ref (a 36), .ref (a 37), .ref (a 38), .ref (a 39), .ref (a 40), .ref (a 41), .ref (a 42), .ref (a 43), .ref (a 44)] : List Value).set 12 (.int v))) = (wd_R a cI cL cB cZ z (mq_si S 5 v)) := rfl
theorem zt_m_X11_258 : Cond.methodLink RX11 258 yX11_makes ∈ mq_T := mq_T_mem (mq_t6 (List.mem_of_getElem? (i := 222) rfl)) rfl
theorem zt_f_X11_30 : Cond.fieldLink RX11 30 "ModalDeskModel" "slotYes" "[I" ∈ mq_T := mq_T_mem (mq_t5 (List.mem_of_getElem? (i := 174) rfl)) rfl
theorem zs_wd_R_a_6_5 (a z : Nat → Nat) (cI cL cB cZ : ClassId) (S : mq_St) (f : Nat → Int32) : (wd_R a cI cL cB cZ z S).set 6 (a 6, .inl (cI, 8, .inl f)) = (wd_R a cI cL cB cZ z (mq_sa S 5 f)) := rfl
theorem zt_f_X11_33 : Cond.fieldLink RX11 33 "ModalDeskModel" "slotNo" "[I" ∈ mq_T := mq_T_mem (mq_t5 (List.mem_of_getElem? (i := 175) rfl)) rfl
theorem zs_wd_R_a_7_6 (a z : Nat → Nat) (cI cL cB cZ : ClassId) (S : mq_St) (f : Nat → Int32) : (wd_R a cI cL cB cZ z S).set 7 (a 7, .inl (cI, 8, .inl f)) = (wd_R a cI cL cB cZ z (mq_sa S 6 f)) := rfl
/-! ModalDeskModel.read(IZ)I -/
def zr_X11_read : Room := { frames := 5, cells := 0, slots := 0, locals := 114 }
def zc_X11_read : Cond := .code yX11_read cX11_read 8 (some .int)
def zf_X11_read_151 (N : Nat) (z : Nat → Nat) (v1 : Int32) (v4 : Int32) (t1 : Int32) (S : mq_St) : Option (Int32 × mq_St) := (mq_nS (mq_si S 5 (t1)) (fun S33 => (if (S33.1 10) = (0 : Int32) then (mq_nI ((S33.1 3)) (fun x34 => (mq_cz ((0 : Int32)) (mq_nS (mq_si S33 6 ((0 : Int32))) (fun S35 => (mq_cl (zf_X11_makes N z (v4) ((1 : Int32)) S35) (fun q37v S39 => (mq_nI (q37v) (fun x40 => (mq_cl (zf_X11_makes N z (v4) ((0 : Int32)) S39) (fun q41v S43 => (mq_nI (q41v) (fun x44 => (if (S43.1 6) = (0 : Int32) then (mq_ck (v1) 8 (mq_nS (mq_sa S43 5 (upd (S43.2.1 5) (v1).toNatClampNeg (x40))) (fun S46 => (mq_ck (v1) 8 (mq_nS (mq_sa S46 6 (upd (S46.2.1 6) (v1).toNatClampNeg (x44))) (fun S48 => (some (x40, S48)))))))) else (mq_nS (mq_si S43 3 (x34)) (fun S49 => (mq_nS (mq_si S49 4 ((4 : Int32))) (fun S50 => (some ((-2 : Int32), S50)))))))))))))))))))) else (some ((-2 : Int32), S33)))))
def zf_X11_read_127 (N : Nat) (z : Nat → Nat) (v1 : Int32) (v4 : Int32) (S : mq_St) : Option (Int32 × mq_St) := (mq_nS (mq_si S 4 ((S.1 10))) (fun S31 => (if (S31.1 10) = (0 : Int32) then (zf_X11_read_151 N z (v1) (v4) ((-1 : Int32)) S31) else (zf_X11_read_151 N z (v1) (v4) ((S31.1 11)) S31))))
def zf_X11_read_120 (N : Nat) (z : Nat → Nat) (v1 : Int32) (v4 : Int32) (S : mq_St) : Option (Int32 × mq_St) := (mq_cl (zf_X11_wrong N z ((1 : Int32)) S) (fun q27v S29 => (mq_nI (q27v) (fun x30 => (zf_X11_read_127 N z (v1) (v4) S29)))))
def zf_X11_read_92 (N : Nat) (z : Nat → Nat) (v1 : Int32) (v3 : Int32) (t1 : Int32) (S : mq_St) : Option (Int32 × mq_St) := (mq_cz (t1) (mq_nS (mq_si S 13 (t1)) (fun S15 => (mq_cl (zf_X11_whole N z S15) (fun q17v S19 => (mq_nI (q17v) (fun x20 => (if (S19.1 10) = (0 : Int32) then (mq_cl (zf_X11_see N z S19) (fun q21v S23 => (if q21v = (-1 : Int32) then (if v3 = (0 : Int32) then (zf_X11_read_127 N z (v1) (x20) S23) else (zf_X11_read_120 N z (v1) (x20) S23)) else (zf_X11_read_120 N z (v1) (x20) S23)))) else (zf_X11_read_127 N z (v1) (x20) S19)))))))))
def zf_X11_read_56 (N : Nat) (z : Nat → Nat) (v1 : Int32) (v2 : Int32) (t0 : Int32) (S : mq_St) : Option (Int32 × mq_St) := (mq_nI (t0) (fun x8 => (mq_nS (mq_si S 1 ((0 : Int32))) (fun S9 => (mq_nS (mq_si S9 8 ((0 : Int32))) (fun S10 => (mq_nS (mq_si S10 7 ((0 : Int32))) (fun S11 => (mq_nS (mq_si S11 12 ((0 : Int32))) (fun S12 => (mq_nS (mq_si S12 10 ((0 : Int32))) (fun S13 => (if v2 = (0 : Int32) then (zf_X11_read_92 N z (v1) (x8) ((1 : Int32)) S13) else (zf_X11_read_92 N z (v1) (x8) ((0 : Int32)) S13))))))))))))))
def zf_X11_read_38 (N : Nat) (z : Nat → Nat) (v1 : Int32) (v2 : Int32) (t1 : Int32) (S : mq_St) : Option (Int32 × mq_St) := (mq_nS (mq_si S 9 (t1)) (fun S6 => (if (S6.1 1) ≤ (400 : Int32) then (zf_X11_read_56 N z (v1) (v2) ((0 : Int32)) S6) else (zf_X11_read_56 N z (v1) (v2) ((1 : Int32)) S6))))
def zf_X11_read (N : Nat) (z : Nat → Nat) (v1 : Int32) (v2 : Int32) (S : mq_St) : Option (Int32 × mq_St) := (mq_nS (mq_si S 0 ((0 : Int32))) (fun S1 => (mq_cp (zf_X11_in N z (v1) ((0 : Int32)) ((7 : Int32)) (mq_pull S1 [] [] [])) (fun q2 => (if q2 = (0 : Int32) then (some ((-1 : Int32), S1)) else (if (400 : Int32) ≤ (S1.1 1) then (zf_X11_read_38 N z (v1) (v2) ((400 : Int32)) S1) else (zf_X11_read_38 N z (v1) (v2) ((S1.1 1)) S1)))))))
set_option maxHeartbeats 4000000 in
set_option maxRecDepth 100000 in
theorem zw_X11_read_151 {p : Program} {l : Launch} {e : Env} {s : State} {m : MethodId} {args : Array Value} {below : List Frame} {meth : Method} {c : Code} {A : Nat → Prop} {D : va_G} {a z : Nat → Nat} {cI cL cB cZ : ClassId} {Q : State → Prop} {N : Nat} {res : Int32 × mq_St} (C : mq_C p s m args c A D cI cL cB cZ cX11_read 8 RX11 zc_X11_read) (hret : ∀ (H : Heap) (locs : List Loc) (ls : Array Slot) (pc : Nat), decode cX11_read pc = .ok (.ireturn, 1) → va_P D vwCl (wd_R a cI cL cB cZ z res.2) H → va_D A (wd_R a cI cL cB cZ z res.2) → va_S A s.heap H locs → W p l e zr_X11_read s m args below meth c H locs 0 0 Q (F0 m pc ls [.int res.1])) (v1 : Int32) (v4 : Int32) (t1 : Int32) (S : mq_St) (H : Heap) (locs : List Loc) (ls : Array Slot) (h : zf_X11_read_151 N z v1 v4 t1 S = some res) (hl : lv_has ls 8 [(0, .ref (a 0)), (1, .int (v1)), (4, .int (v4))]) (hP : va_P D vwCl (wd_R a cI cL cB cZ z S) H) (hD : va_D A (wd_R a cI cL cB cZ z S)) (hS : va_S A s.heap H locs) : W p l e zr_X11_read s m args below meth c H locs 0 0 Q (F0 m 151 ls [.int (t1), .ref (a 0)]) := by
  obtain ⟨hx, hb, hml, hown, hts, hK, hA⟩ := id C
  unfold zf_X11_read_151 at h
  refine mq_put (w := wd_R a cI cL cB cZ z) (S := S) (D := D) (ci := 11) (v := t1) (ty := .int) (C := RX11) (T := TX11) (N := 76) hx hb hts (zi_X11 _) tyX11 tyX11_ok nmX11 hown hK hP hD hS 0 rfl rfl 12 (by decide) (hts _ (List.mem_cons_of_mem _ zt_f_X11_36)) (fun _ h9 => h9) rfl (by decide +kernel) rfl rfl (Nat.le_of_ble_eq_true rfl) dX11_read_151 5 (zs_wd_R_i_0_5 _ _ _ _ _ _ _ _) (fun S33 eS33 H locs hP hD hS => ?_)
  replace h := mq_nS_go eS33 h
  refine lv_aload_n hx hb dX11_read_154 rfl (lv_at hl 0 rfl) ?_
  refine va_get (D := D) (ci := 11) (v := .int ((S33.1 10))) (C := RX11) (T := TX11) (N := 76) hx hb hts (zi_X11 _) hown hK hP 0 rfl rfl 22 (by decide) (hts _ (List.mem_cons_of_mem _ zt_f_X11_181)) (fun _ h9 => h9) rfl dX11_read_155 ?_
  refine lv_if_eq (tgt := 164) hx hb dX11_read_158 (by decide) (fun c52 => ?_) (fun c52 => ?_)
  · replace h := mq_it c52 h
    refine lv_aload_n hx hb dX11_read_164 rfl (lv_at hl 0 rfl) ?_
    refine va_get (D := D) (ci := 11) (v := .int ((S33.1 3))) (C := RX11) (T := TX11) (N := 76) hx hb hts (zi_X11 _) hown hK hP 0 rfl rfl 8 (by decide) (hts _ (List.mem_cons_of_mem _ zt_f_X11_26)) (fun _ h9 => h9) rfl dX11_read_165 ?_
    refine lv_topi (fun x34 ex34 => ?_)
    replace h := mq_nI_go ex34 h
    refine lv_istore (lv' := [(5, .int (x34)), (0, .ref (a 0)), (1, .int (v1)), (4, .int (v4))]) hx hb dX11_read_168 hl (by decide) rfl (fun ls hl => ?_)
    refine lv_aload_n hx hb dX11_read_170 rfl (lv_at hl 1 rfl) ?_
    refine lv_iconst (v := (0 : Int32)) hx hb dX11_read_171 (by decide) ?_
    have hz36 := mq_cz_in h
    replace h := mq_cz_go h
    refine mq_put (w := wd_R a cI cL cB cZ z) (S := S33) (D := D) (ci := 11) (v := (0 : Int32)) (ty := .boolean) (C := RX11) (T := TX11) (N := 76) hx hb hts (zi_X11 _) tyX11 tyX11_ok nmX11 hown hK hP hD hS 0 rfl rfl 13 (by decide) (hts _ (List.mem_cons_of_mem _ zt_f_X11_168)) (fun _ h9 => h9) rfl (by decide +kernel) hz36.1 hz36.2 (Nat.le_of_ble_eq_true rfl) dX11_read_172 6 (zs_wd_R_i_0_6 _ _ _ _ _ _ _ _) (fun S35 eS35 H locs hP hD hS => ?_)
    replace h := mq_nS_go eS35 h
    refine lv_aload_n hx hb dX11_read_175 rfl (lv_at hl 1 rfl) ?_
    refine lv_iload hx hb dX11_read_176 (lv_at hl 3 rfl) ?_
    refine lv_iconst (v := (1 : Int32)) hx hb dX11_read_178 (by decide) ?_
    obtain ⟨q37, hc38, h⟩ := mq_cl_go h
    refine zk_X11_makes C zt_m_X11_258 ⟨by decide, by decide⟩ hc38 hP hD hS hl.1 (Nat.le_of_ble_eq_true rfl) dX11_read_179 (fun H locs hP hD hS => ?_)
    obtain ⟨S39, eS39⟩ : ∃ y, y = q37.2 := ⟨_, rfl⟩
    rw [← eS39] at hP hD h
    refine lv_topi (fun x40 ex40 => ?_)
    replace h := mq_nI_go ex40 h
    refine lv_istore (lv' := [(6, .int (x40)), (5, .int (x34)), (0, .ref (a 0)), (1, .int (v1)), (4, .int (v4))]) hx hb dX11_read_182 hl (by decide) rfl (fun ls hl => ?_)
    refine lv_aload_n hx hb dX11_read_184 rfl (lv_at hl 2 rfl) ?_
    refine lv_iload hx hb dX11_read_185 (lv_at hl 4 rfl) ?_
    refine lv_iconst (v := (0 : Int32)) hx hb dX11_read_187 (by decide) ?_
    obtain ⟨q41, hc42, h⟩ := mq_cl_go h
    refine zk_X11_makes C zt_m_X11_258 ⟨by decide, by decide⟩ hc42 hP hD hS hl.1 (Nat.le_of_ble_eq_true rfl) dX11_read_188 (fun H locs hP hD hS => ?_)
    obtain ⟨S43, eS43⟩ : ∃ y, y = q41.2 := ⟨_, rfl⟩
    rw [← eS43] at hP hD h
    refine lv_topi (fun x44 ex44 => ?_)
    replace h := mq_nI_go ex44 h
    refine lv_istore (lv' := [(7, .int (x44)), (6, .int (x40)), (5, .int (x34)), (0, .ref (a 0)), (1, .int (v1)), (4, .int (v4))]) hx hb dX11_read_191 hl (by decide) rfl (fun ls hl => ?_)
    refine lv_aload_n hx hb dX11_read_193 rfl (lv_at hl 3 rfl) ?_
    refine va_get (D := D) (ci := 11) (v := .int ((S43.1 6))) (C := RX11) (T := TX11) (N := 76) hx hb hts (zi_X11 _) hown hK hP 0 rfl rfl 13 (by decide) (hts _ (List.mem_cons_of_mem _ zt_f_X11_168)) (fun _ h9 => h9) rfl dX11_read_194 ?_
    refine lv_if_eq (tgt := 214) hx hb dX11_read_197 (by decide) (fun c51 => ?_) (fun c51 => ?_)
    · replace h := mq_it c51 h
      refine lv_aload_n hx hb dX11_read_214 rfl (lv_at hl 3 rfl) ?_
      refine va_get (D := D) (ci := 11) (v := .ref (a 6)) (C := RX11) (T := TX11) (N := 76) hx hb hts (zi_X11 _) hown hK hP 0 rfl rfl 9 (by decide) (hts _ (List.mem_cons_of_mem _ zt_f_X11_30)) (fun _ h9 => h9) rfl dX11_read_215 ?_
      refine lv_iload_n hx hb dX11_read_218 rfl (lv_at hl 4 rfl) ?_
      refine lv_iload hx hb dX11_read_219 (lv_at hl 1 rfl) ?_
      have hi45 := mq_ck_in h
      replace h := mq_ck_go h
      refine mq_iast (w := wd_R a cI cL cB cZ z) (S := S43) (f := S43.2.1 5) hx hb hK hP hD hS 6 0 rfl rfl hi45 dX11_read_221 5 (zs_wd_R_a_6_5 _ _ _ _ _ _ _ _) (fun S46 eS46 H locs hP hD hS => ?_)
      replace h := mq_nS_go eS46 h
      refine lv_aload_n hx hb dX11_read_222 rfl (lv_at hl 3 rfl) ?_
      refine va_get (D := D) (ci := 11) (v := .ref (a 7)) (C := RX11) (T := TX11) (N := 76) hx hb hts (zi_X11 _) hown hK hP 0 rfl rfl 10 (by decide) (hts _ (List.mem_cons_of_mem _ zt_f_X11_33)) (fun _ h9 => h9) rfl dX11_read_223 ?_
      refine lv_iload_n hx hb dX11_read_226 rfl (lv_at hl 4 rfl) ?_
      refine lv_iload hx hb dX11_read_227 (lv_at hl 0 rfl) ?_
      have hi47 := mq_ck_in h
      replace h := mq_ck_go h
      refine mq_iast (w := wd_R a cI cL cB cZ z) (S := S46) (f := S46.2.1 6) hx hb hK hP hD hS 7 0 rfl rfl hi47 dX11_read_229 6 (zs_wd_R_a_7_6 _ _ _ _ _ _ _ _) (fun S48 eS48 H locs hP hD hS => ?_)
      replace h := mq_nS_go eS48 h
      refine lv_iload hx hb dX11_read_230 (lv_at hl 1 rfl) ?_
      cases h
      exact hret H locs ls 232 dX11_read_232 hP hD hS
    · replace h := mq_if c51 h
      refine lv_aload_n hx hb dX11_read_200 rfl (lv_at hl 3 rfl) ?_
      refine lv_iload hx hb dX11_read_201 (lv_at hl 2 rfl) ?_
      refine mq_put (w := wd_R a cI cL cB cZ z) (S := S43) (D := D) (ci := 11) (v := x34) (ty := .int) (C := RX11) (T := TX11) (N := 76) hx hb hts (zi_X11 _) tyX11 tyX11_ok nmX11 hown hK hP hD hS 0 rfl rfl 8 (by decide) (hts _ (List.mem_cons_of_mem _ zt_f_X11_26)) (fun _ h9 => h9) rfl (by decide +kernel) rfl rfl (Nat.le_of_ble_eq_true rfl) dX11_read_203 3 (zs_wd_R_i_0_3 _ _ _ _ _ _ _ _) (fun S49 eS49 H locs hP hD hS => ?_)
      replace h := mq_nS_go eS49 h
      refine lv_aload_n hx hb dX11_read_206 rfl (lv_at hl 3 rfl) ?_
      refine lv_iconst (v := (4 : Int32)) hx hb dX11_read_207 (by decide) ?_
      refine mq_put (w := wd_R a cI cL cB cZ z) (S := S49) (D := D) (ci := 11) (v := (4 : Int32)) (ty := .int) (C := RX11) (T := TX11) (N := 76) hx hb hts (zi_X11 _) tyX11 tyX11_ok nmX11 hown hK hP hD hS 0 rfl rfl 11 (by decide) (hts _ (List.mem_cons_of_mem _ zt_f_X11_255)) (fun _ h9 => h9) rfl (by decide +kernel) rfl rfl (Nat.le_of_ble_eq_true rfl) dX11_read_208 4 (zs_wd_R_i_0_4 _ _ _ _ _ _ _ _) (fun S50 eS50 H locs hP hD hS => ?_)
      replace h := mq_nS_go eS50 h
      refine lv_bipush (v := (-2 : Int32)) hx hb dX11_read_211 (by decide) ?_
      cases h
      exact hret H locs ls 213 dX11_read_213 hP hD hS
  · replace h := mq_if c52 h
    refine lv_bipush (v := (-2 : Int32)) hx hb dX11_read_161 (by decide) ?_
    cases h
    exact hret H locs ls 163 dX11_read_163 hP hD hS
set_option maxHeartbeats 4000000 in
set_option maxRecDepth 100000 in
theorem zw_X11_read_127 {p : Program} {l : Launch} {e : Env} {s : State} {m : MethodId} {args : Array Value} {below : List Frame} {meth : Method} {c : Code} {A : Nat → Prop} {D : va_G} {a z : Nat → Nat} {cI cL cB cZ : ClassId} {Q : State → Prop} {N : Nat} {res : Int32 × mq_St} (C : mq_C p s m args c A D cI cL cB cZ cX11_read 8 RX11 zc_X11_read) (hret : ∀ (H : Heap) (locs : List Loc) (ls : Array Slot) (pc : Nat), decode cX11_read pc = .ok (.ireturn, 1) → va_P D vwCl (wd_R a cI cL cB cZ z res.2) H → va_D A (wd_R a cI cL cB cZ z res.2) → va_S A s.heap H locs → W p l e zr_X11_read s m args below meth c H locs 0 0 Q (F0 m pc ls [.int res.1])) (v1 : Int32) (v4 : Int32) (S : mq_St) (H : Heap) (locs : List Loc) (ls : Array Slot) (h : zf_X11_read_127 N z v1 v4 S = some res) (hl : lv_has ls 8 [(0, .ref (a 0)), (1, .int (v1)), (4, .int (v4))]) (hP : va_P D vwCl (wd_R a cI cL cB cZ z S) H) (hD : va_D A (wd_R a cI cL cB cZ z S)) (hS : va_S A s.heap H locs) : W p l e zr_X11_read s m args below meth c H locs 0 0 Q (F0 m 127 ls []) := by
  obtain ⟨hx, hb, hml, hown, hts, hK, hA⟩ := id C
  unfold zf_X11_read_127 at h
  refine lv_aload_n hx hb dX11_read_127 rfl (lv_at hl 0 rfl) ?_
  refine lv_aload_n hx hb dX11_read_128 rfl (lv_at hl 0 rfl) ?_
  refine va_get (D := D) (ci := 11) (v := .int ((S.1 10))) (C := RX11) (T := TX11) (N := 76) hx hb hts (zi_X11 _) hown hK hP 0 rfl rfl 22 (by decide) (hts _ (List.mem_cons_of_mem _ zt_f_X11_181)) (fun _ h9 => h9) rfl dX11_read_129 ?_
  refine mq_put (w := wd_R a cI cL cB cZ z) (S := S) (D := D) (ci := 11) (v := (S.1 10)) (ty := .int) (C := RX11) (T := TX11) (N := 76) hx hb hts (zi_X11 _) tyX11 tyX11_ok nmX11 hown hK hP hD hS 0 rfl rfl 11 (by decide) (hts _ (List.mem_cons_of_mem _ zt_f_X11_255)) (fun _ h9 => h9) rfl (by decide +kernel) rfl rfl (Nat.le_of_ble_eq_true rfl) dX11_read_132 4 (zs_wd_R_i_0_4 _ _ _ _ _ _ _ _) (fun S31 eS31 H locs hP hD hS => ?_)
  replace h := mq_nS_go eS31 h
  refine lv_aload_n hx hb dX11_read_135 rfl (lv_at hl 0 rfl) ?_
  refine lv_aload_n hx hb dX11_read_136 rfl (lv_at hl 0 rfl) ?_
  refine va_get (D := D) (ci := 11) (v := .int ((S31.1 10))) (C := RX11) (T := TX11) (N := 76) hx hb hts (zi_X11 _) hown hK hP 0 rfl rfl 22 (by decide) (hts _ (List.mem_cons_of_mem _ zt_f_X11_181)) (fun _ h9 => h9) rfl dX11_read_137 ?_
  refine lv_if_ne (tgt := 147) hx hb dX11_read_140 (by decide) (fun c32 => ?_) (fun c32 => ?_)
  · replace h := mq_if c32 h
    refine lv_aload_n hx hb dX11_read_147 rfl (lv_at hl 0 rfl) ?_
    refine va_get (D := D) (ci := 11) (v := .int ((S31.1 11))) (C := RX11) (T := TX11) (N := 76) hx hb hts (zi_X11 _) hown hK hP 0 rfl rfl 23 (by decide) (hts _ (List.mem_cons_of_mem _ zt_f_X11_184)) (fun _ h9 => h9) rfl dX11_read_148 ?_
    exact zw_X11_read_151 C hret (v1) (v4) ((S31.1 11)) S31 H locs ls h (lv_sub hl [0, 1, 2] rfl) hP hD hS
  · replace h := mq_it (by simpa using c32) h
    refine lv_iconst (v := (-1 : Int32)) hx hb dX11_read_143 (by decide) ?_
    refine lv_goto (tgt := 151) hx hb dX11_read_144 (by decide) ?_
    exact zw_X11_read_151 C hret (v1) (v4) ((-1 : Int32)) S31 H locs ls h (lv_sub hl [0, 1, 2] rfl) hP hD hS
set_option maxHeartbeats 4000000 in
set_option maxRecDepth 100000 in
theorem zw_X11_read_120 {p : Program} {l : Launch} {e : Env} {s : State} {m : MethodId} {args : Array Value} {below : List Frame} {meth : Method} {c : Code} {A : Nat → Prop} {D : va_G} {a z : Nat → Nat} {cI cL cB cZ : ClassId} {Q : State → Prop} {N : Nat} {res : Int32 × mq_St} (C : mq_C p s m args c A D cI cL cB cZ cX11_read 8 RX11 zc_X11_read) (hret : ∀ (H : Heap) (locs : List Loc) (ls : Array Slot) (pc : Nat), decode cX11_read pc = .ok (.ireturn, 1) → va_P D vwCl (wd_R a cI cL cB cZ z res.2) H → va_D A (wd_R a cI cL cB cZ z res.2) → va_S A s.heap H locs → W p l e zr_X11_read s m args below meth c H locs 0 0 Q (F0 m pc ls [.int res.1])) (v1 : Int32) (v4 : Int32) (S : mq_St) (H : Heap) (locs : List Loc) (ls : Array Slot) (h : zf_X11_read_120 N z v1 v4 S = some res) (hl : lv_has ls 8 [(0, .ref (a 0)), (1, .int (v1)), (4, .int (v4))]) (hP : va_P D vwCl (wd_R a cI cL cB cZ z S) H) (hD : va_D A (wd_R a cI cL cB cZ z S)) (hS : va_S A s.heap H locs) : W p l e zr_X11_read s m args below meth c H locs 0 0 Q (F0 m 120 ls []) := by
  obtain ⟨hx, hb, hml, hown, hts, hK, hA⟩ := id C
  unfold zf_X11_read_120 at h
  refine lv_aload_n hx hb dX11_read_120 rfl (lv_at hl 0 rfl) ?_
  refine lv_iconst (v := (1 : Int32)) hx hb dX11_read_121 (by decide) ?_
  obtain ⟨q27, hc28, h⟩ := mq_cl_go h
  refine zk_X11_wrong C zt_m_X11_207 ⟨by decide, by decide⟩ hc28 hP hD hS hl.1 (Nat.le_of_ble_eq_true rfl) dX11_read_122 (fun H locs hP hD hS => ?_)
  obtain ⟨S29, eS29⟩ : ∃ y, y = q27.2 := ⟨_, rfl⟩
  rw [← eS29] at hP hD h
  refine lv_topi (fun x30 ex30 => ?_)
  replace h := mq_nI_go ex30 h
  refine lv_istore (lv' := [(5, .int (x30)), (0, .ref (a 0)), (1, .int (v1)), (4, .int (v4))]) hx hb dX11_read_125 hl (by decide) rfl (fun ls hl => ?_)
  exact zw_X11_read_127 C hret (v1) (v4) S29 H locs ls h (lv_sub hl [1, 2, 3] rfl) hP hD hS
set_option maxHeartbeats 4000000 in
set_option maxRecDepth 100000 in
theorem zw_X11_read_92 {p : Program} {l : Launch} {e : Env} {s : State} {m : MethodId} {args : Array Value} {below : List Frame} {meth : Method} {c : Code} {A : Nat → Prop} {D : va_G} {a z : Nat → Nat} {cI cL cB cZ : ClassId} {Q : State → Prop} {N : Nat} {res : Int32 × mq_St} (C : mq_C p s m args c A D cI cL cB cZ cX11_read 8 RX11 zc_X11_read) (hret : ∀ (H : Heap) (locs : List Loc) (ls : Array Slot) (pc : Nat), decode cX11_read pc = .ok (.ireturn, 1) → va_P D vwCl (wd_R a cI cL cB cZ z res.2) H → va_D A (wd_R a cI cL cB cZ z res.2) → va_S A s.heap H locs → W p l e zr_X11_read s m args below meth c H locs 0 0 Q (F0 m pc ls [.int res.1])) (v1 : Int32) (v3 : Int32) (t1 : Int32) (S : mq_St) (H : Heap) (locs : List Loc) (ls : Array Slot) (h : zf_X11_read_92 N z v1 v3 t1 S = some res) (hl : lv_has ls 8 [(0, .ref (a 0)), (1, .int (v1)), (3, .int (v3))]) (hP : va_P D vwCl (wd_R a cI cL cB cZ z S) H) (hD : va_D A (wd_R a cI cL cB cZ z S)) (hS : va_S A s.heap H locs) : W p l e zr_X11_read s m args below meth c H locs 0 0 Q (F0 m 92 ls [.int (t1), .ref (a 0)]) := by
  obtain ⟨hx, hb, hml, hown, hts, hK, hA⟩ := id C
  unfold zf_X11_read_92 at h
  have hz16 := mq_cz_in h
  replace h := mq_cz_go h
  refine mq_put (w := wd_R a cI cL cB cZ z) (S := S) (D := D) (ci := 11) (v := t1) (ty := .boolean) (C := RX11) (T := TX11) (N := 76) hx hb hts (zi_X11 _) tyX11 tyX11_ok nmX11 hown hK hP hD hS 0 rfl rfl 25 (by decide) (hts _ (List.mem_cons_of_mem _ zt_f_X11_187)) (fun _ h9 => h9) rfl (by decide +kernel) hz16.1 hz16.2 (Nat.le_of_ble_eq_true rfl) dX11_read_92 13 (zs_wd_R_i_0_13 _ _ _ _ _ _ _ _) (fun S15 eS15 H locs hP hD hS => ?_)
  replace h := mq_nS_go eS15 h
  refine lv_aload_n hx hb dX11_read_95 rfl (lv_at hl 0 rfl) ?_
  obtain ⟨q17, hc18, h⟩ := mq_cl_go h
  refine zk_X11_whole C zt_m_X11_252 ⟨by decide, by decide⟩ hc18 hP hD hS hl.1 (Nat.le_of_ble_eq_true rfl) dX11_read_96 (fun H locs hP hD hS => ?_)
  obtain ⟨S19, eS19⟩ : ∃ y, y = q17.2 := ⟨_, rfl⟩
  rw [← eS19] at hP hD h
  refine lv_topi (fun x20 ex20 => ?_)
  replace h := mq_nI_go ex20 h
  refine lv_istore (lv' := [(4, .int (x20)), (0, .ref (a 0)), (1, .int (v1)), (3, .int (v3))]) hx hb dX11_read_99 hl (by decide) rfl (fun ls hl => ?_)
  refine lv_aload_n hx hb dX11_read_101 rfl (lv_at hl 1 rfl) ?_
  refine va_get (D := D) (ci := 11) (v := .int ((S19.1 10))) (C := RX11) (T := TX11) (N := 76) hx hb hts (zi_X11 _) hown hK hP 0 rfl rfl 22 (by decide) (hts _ (List.mem_cons_of_mem _ zt_f_X11_181)) (fun _ h9 => h9) rfl dX11_read_102 ?_
  refine lv_if_ne (tgt := 127) hx hb dX11_read_105 (by decide) (fun c26 => ?_) (fun c26 => ?_)
  · replace h := mq_if c26 h
    exact zw_X11_read_127 C hret (v1) (x20) S19 H locs ls h (lv_sub hl [1, 2, 0] rfl) hP hD hS
  · replace h := mq_it (by simpa using c26) h
    refine lv_aload_n hx hb dX11_read_108 rfl (lv_at hl 1 rfl) ?_
    obtain ⟨q21, hc22, h⟩ := mq_cl_go h
    refine zk_X11_see C zt_m_X11_210 ⟨by decide, by decide⟩ hc22 hP hD hS hl.1 (Nat.le_of_ble_eq_true rfl) dX11_read_109 (fun H locs hP hD hS => ?_)
    obtain ⟨S23, eS23⟩ : ∃ y, y = q21.2 := ⟨_, rfl⟩
    rw [← eS23] at hP hD h
    refine lv_iconst (v := (-1 : Int32)) hx hb dX11_read_112 (by decide) ?_
    refine lv_icmp_ne (tgt := 120) hx hb dX11_read_113 (by decide) (fun c25 => ?_) (fun c25 => ?_)
    · replace h := mq_if c25 h
      exact zw_X11_read_120 C hret (v1) (x20) S23 H locs ls h (lv_sub hl [1, 2, 0] rfl) hP hD hS
    · replace h := mq_it (by simpa using c25) h
      refine lv_iload_n hx hb dX11_read_116 rfl (lv_at hl 3 rfl) ?_
      refine lv_if_eq (tgt := 127) hx hb dX11_read_117 (by decide) (fun c24 => ?_) (fun c24 => ?_)
      · replace h := mq_it c24 h
        exact zw_X11_read_127 C hret (v1) (x20) S23 H locs ls h (lv_sub hl [1, 2, 0] rfl) hP hD hS
      · replace h := mq_if c24 h
        exact zw_X11_read_120 C hret (v1) (x20) S23 H locs ls h (lv_sub hl [1, 2, 0] rfl) hP hD hS
set_option maxHeartbeats 4000000 in
set_option maxRecDepth 100000 in
theorem zw_X11_read_56 {p : Program} {l : Launch} {e : Env} {s : State} {m : MethodId} {args : Array Value} {below : List Frame} {meth : Method} {c : Code} {A : Nat → Prop} {D : va_G} {a z : Nat → Nat} {cI cL cB cZ : ClassId} {Q : State → Prop} {N : Nat} {res : Int32 × mq_St} (C : mq_C p s m args c A D cI cL cB cZ cX11_read 8 RX11 zc_X11_read) (hret : ∀ (H : Heap) (locs : List Loc) (ls : Array Slot) (pc : Nat), decode cX11_read pc = .ok (.ireturn, 1) → va_P D vwCl (wd_R a cI cL cB cZ z res.2) H → va_D A (wd_R a cI cL cB cZ z res.2) → va_S A s.heap H locs → W p l e zr_X11_read s m args below meth c H locs 0 0 Q (F0 m pc ls [.int res.1])) (v1 : Int32) (v2 : Int32) (t0 : Int32) (S : mq_St) (H : Heap) (locs : List Loc) (ls : Array Slot) (h : zf_X11_read_56 N z v1 v2 t0 S = some res) (hl : lv_has ls 8 [(0, .ref (a 0)), (1, .int (v1)), (2, .int (v2))]) (hP : va_P D vwCl (wd_R a cI cL cB cZ z S) H) (hD : va_D A (wd_R a cI cL cB cZ z S)) (hS : va_S A s.heap H locs) : W p l e zr_X11_read s m args below meth c H locs 0 0 Q (F0 m 56 ls [.int (t0)]) := by
  obtain ⟨hx, hb, hml, hown, hts, hK, hA⟩ := id C
  unfold zf_X11_read_56 at h
  refine lv_topi (fun x8 ex8 => ?_)
  replace h := mq_nI_go ex8 h
  refine lv_istore_n (lv' := [(3, .int (x8)), (0, .ref (a 0)), (1, .int (v1)), (2, .int (v2))]) hx hb dX11_read_56 rfl hl (by decide) rfl (fun ls hl => ?_)
  refine lv_aload_n hx hb dX11_read_57 rfl (lv_at hl 1 rfl) ?_
  refine lv_iconst (v := (0 : Int32)) hx hb dX11_read_58 (by decide) ?_
  refine mq_put (w := wd_R a cI cL cB cZ z) (S := S) (D := D) (ci := 11) (v := (0 : Int32)) (ty := .int) (C := RX11) (T := TX11) (N := 76) hx hb hts (zi_X11 _) tyX11 tyX11_ok nmX11 hown hK hP hD hS 0 rfl rfl 2 (by decide) (hts _ (List.mem_cons_of_mem _ zt_f_X11_154)) (fun _ h9 => h9) rfl (by decide +kernel) rfl rfl (Nat.le_of_ble_eq_true rfl) dX11_read_59 1 (zs_wd_R_i_0_1 _ _ _ _ _ _ _ _) (fun S9 eS9 H locs hP hD hS => ?_)
  replace h := mq_nS_go eS9 h
  refine lv_aload_n hx hb dX11_read_62 rfl (lv_at hl 1 rfl) ?_
  refine lv_iconst (v := (0 : Int32)) hx hb dX11_read_63 (by decide) ?_
  refine mq_put (w := wd_R a cI cL cB cZ z) (S := S9) (D := D) (ci := 11) (v := (0 : Int32)) (ty := .int) (C := RX11) (T := TX11) (N := 76) hx hb hts (zi_X11 _) tyX11 tyX11_ok nmX11 hown hK hP hD hS 0 rfl rfl 20 (by decide) (hts _ (List.mem_cons_of_mem _ zt_f_X11_175)) (fun _ h9 => h9) rfl (by decide +kernel) rfl rfl (Nat.le_of_ble_eq_true rfl) dX11_read_64 8 (zs_wd_R_i_0_8 _ _ _ _ _ _ _ _) (fun S10 eS10 H locs hP hD hS => ?_)
  replace h := mq_nS_go eS10 h
  refine lv_aload_n hx hb dX11_read_67 rfl (lv_at hl 1 rfl) ?_
  refine lv_iconst (v := (0 : Int32)) hx hb dX11_read_68 (by decide) ?_
  refine mq_put (w := wd_R a cI cL cB cZ z) (S := S10) (D := D) (ci := 11) (v := (0 : Int32)) (ty := .int) (C := RX11) (T := TX11) (N := 76) hx hb hts (zi_X11 _) tyX11 tyX11_ok nmX11 hown hK hP hD hS 0 rfl rfl 19 (by decide) (hts _ (List.mem_cons_of_mem _ zt_f_X11_172)) (fun _ h9 => h9) rfl (by decide +kernel) rfl rfl (Nat.le_of_ble_eq_true rfl) dX11_read_69 7 (zs_wd_R_i_0_7 _ _ _ _ _ _ _ _) (fun S11 eS11 H locs hP hD hS => ?_)
  replace h := mq_nS_go eS11 h
  refine lv_aload_n hx hb dX11_read_72 rfl (lv_at hl 1 rfl) ?_
  refine lv_iconst (v := (0 : Int32)) hx hb dX11_read_73 (by decide) ?_
  refine mq_put (w := wd_R a cI cL cB cZ z) (S := S11) (D := D) (ci := 11) (v := (0 : Int32)) (ty := .int) (C := RX11) (T := TX11) (N := 76) hx hb hts (zi_X11 _) tyX11 tyX11_ok nmX11 hown hK hP hD hS 0 rfl rfl 24 (by decide) (hts _ (List.mem_cons_of_mem _ zt_f_X11_204)) (fun _ h9 => h9) rfl (by decide +kernel) rfl rfl (Nat.le_of_ble_eq_true rfl) dX11_read_74 12 (zs_wd_R_i_0_12 _ _ _ _ _ _ _ _) (fun S12 eS12 H locs hP hD hS => ?_)
  replace h := mq_nS_go eS12 h
  refine lv_aload_n hx hb dX11_read_77 rfl (lv_at hl 1 rfl) ?_
  refine lv_iconst (v := (0 : Int32)) hx hb dX11_read_78 (by decide) ?_
  refine mq_put (w := wd_R a cI cL cB cZ z) (S := S12) (D := D) (ci := 11) (v := (0 : Int32)) (ty := .int) (C := RX11) (T := TX11) (N := 76) hx hb hts (zi_X11 _) tyX11 tyX11_ok nmX11 hown hK hP hD hS 0 rfl rfl 22 (by decide) (hts _ (List.mem_cons_of_mem _ zt_f_X11_181)) (fun _ h9 => h9) rfl (by decide +kernel) rfl rfl (Nat.le_of_ble_eq_true rfl) dX11_read_79 10 (zs_wd_R_i_0_10 _ _ _ _ _ _ _ _) (fun S13 eS13 H locs hP hD hS => ?_)
  replace h := mq_nS_go eS13 h
  refine lv_aload_n hx hb dX11_read_82 rfl (lv_at hl 1 rfl) ?_
  refine lv_iload_n hx hb dX11_read_83 rfl (lv_at hl 3 rfl) ?_
  refine lv_if_ne (tgt := 91) hx hb dX11_read_84 (by decide) (fun c14 => ?_) (fun c14 => ?_)
  · replace h := mq_if c14 h
    refine lv_iconst (v := (0 : Int32)) hx hb dX11_read_91 (by decide) ?_
    exact zw_X11_read_92 C hret (v1) (x8) ((0 : Int32)) S13 H locs ls h (lv_sub hl [1, 2, 0] rfl) hP hD hS
  · replace h := mq_it (by simpa using c14) h
    refine lv_iconst (v := (1 : Int32)) hx hb dX11_read_87 (by decide) ?_
    refine lv_goto (tgt := 92) hx hb dX11_read_88 (by decide) ?_
    exact zw_X11_read_92 C hret (v1) (x8) ((1 : Int32)) S13 H locs ls h (lv_sub hl [1, 2, 0] rfl) hP hD hS
set_option maxHeartbeats 4000000 in
set_option maxRecDepth 100000 in
theorem zw_X11_read_38 {p : Program} {l : Launch} {e : Env} {s : State} {m : MethodId} {args : Array Value} {below : List Frame} {meth : Method} {c : Code} {A : Nat → Prop} {D : va_G} {a z : Nat → Nat} {cI cL cB cZ : ClassId} {Q : State → Prop} {N : Nat} {res : Int32 × mq_St} (C : mq_C p s m args c A D cI cL cB cZ cX11_read 8 RX11 zc_X11_read) (hret : ∀ (H : Heap) (locs : List Loc) (ls : Array Slot) (pc : Nat), decode cX11_read pc = .ok (.ireturn, 1) → va_P D vwCl (wd_R a cI cL cB cZ z res.2) H → va_D A (wd_R a cI cL cB cZ z res.2) → va_S A s.heap H locs → W p l e zr_X11_read s m args below meth c H locs 0 0 Q (F0 m pc ls [.int res.1])) (v1 : Int32) (v2 : Int32) (t1 : Int32) (S : mq_St) (H : Heap) (locs : List Loc) (ls : Array Slot) (h : zf_X11_read_38 N z v1 v2 t1 S = some res) (hl : lv_has ls 8 [(0, .ref (a 0)), (1, .int (v1)), (2, .int (v2))]) (hP : va_P D vwCl (wd_R a cI cL cB cZ z S) H) (hD : va_D A (wd_R a cI cL cB cZ z S)) (hS : va_S A s.heap H locs) : W p l e zr_X11_read s m args below meth c H locs 0 0 Q (F0 m 38 ls [.int (t1), .ref (a 0)]) := by
  obtain ⟨hx, hb, hml, hown, hts, hK, hA⟩ := id C
  unfold zf_X11_read_38 at h
  refine mq_put (w := wd_R a cI cL cB cZ z) (S := S) (D := D) (ci := 11) (v := t1) (ty := .int) (C := RX11) (T := TX11) (N := 76) hx hb hts (zi_X11 _) tyX11 tyX11_ok nmX11 hown hK hP hD hS 0 rfl rfl 21 (by decide) (hts _ (List.mem_cons_of_mem _ zt_f_X11_178)) (fun _ h9 => h9) rfl (by decide +kernel) rfl rfl (Nat.le_of_ble_eq_true rfl) dX11_read_38 9 (zs_wd_R_i_0_9 _ _ _ _ _ _ _ _) (fun S6 eS6 H locs hP hD hS => ?_)
  replace h := mq_nS_go eS6 h
  refine lv_aload_n hx hb dX11_read_41 rfl (lv_at hl 0 rfl) ?_
  refine va_get (D := D) (ci := 11) (v := .int ((S6.1 1))) (C := RX11) (T := TX11) (N := 76) hx hb hts (zi_X11 _) hown hK hP 0 rfl rfl 2 (by decide) (hts _ (List.mem_cons_of_mem _ zt_f_X11_154)) (fun _ h9 => h9) rfl dX11_read_42 ?_
  refine lv_sipush (v := (400 : Int32)) hx hb dX11_read_45 (by decide) ?_
  refine lv_icmp_le (tgt := 55) hx hb dX11_read_48 (by decide) (fun c7 => ?_) (fun c7 => ?_)
  · replace h := mq_it c7 h
    refine lv_iconst (v := (0 : Int32)) hx hb dX11_read_55 (by decide) ?_
    exact zw_X11_read_56 C hret (v1) (v2) ((0 : Int32)) S6 H locs ls h (lv_sub hl [0, 1, 2] rfl) hP hD hS
  · replace h := mq_if c7 h
    refine lv_iconst (v := (1 : Int32)) hx hb dX11_read_51 (by decide) ?_
    refine lv_goto (tgt := 56) hx hb dX11_read_52 (by decide) ?_
    exact zw_X11_read_56 C hret (v1) (v2) ((1 : Int32)) S6 H locs ls h (lv_sub hl [0, 1, 2] rfl) hP hD hS
set_option maxHeartbeats 4000000 in
set_option maxRecDepth 100000 in
theorem zw_X11_read_0 {p : Program} {l : Launch} {e : Env} {s : State} {m : MethodId} {args : Array Value} {below : List Frame} {meth : Method} {c : Code} {A : Nat → Prop} {D : va_G} {a z : Nat → Nat} {cI cL cB cZ : ClassId} {Q : State → Prop} {N : Nat} {res : Int32 × mq_St} (C : mq_C p s m args c A D cI cL cB cZ cX11_read 8 RX11 zc_X11_read) (hret : ∀ (H : Heap) (locs : List Loc) (ls : Array Slot) (pc : Nat), decode cX11_read pc = .ok (.ireturn, 1) → va_P D vwCl (wd_R a cI cL cB cZ z res.2) H → va_D A (wd_R a cI cL cB cZ z res.2) → va_S A s.heap H locs → W p l e zr_X11_read s m args below meth c H locs 0 0 Q (F0 m pc ls [.int res.1])) (v1 : Int32) (v2 : Int32) (S : mq_St) (H : Heap) (locs : List Loc) (ls : Array Slot) (h : zf_X11_read N z v1 v2 S = some res) (hl : lv_has ls 8 [(0, .ref (a 0)), (1, .int (v1)), (2, .int (v2))]) (hP : va_P D vwCl (wd_R a cI cL cB cZ z S) H) (hD : va_D A (wd_R a cI cL cB cZ z S)) (hS : va_S A s.heap H locs) : W p l e zr_X11_read s m args below meth c H locs 0 0 Q (F0 m 0 ls []) := by
  obtain ⟨hx, hb, hml, hown, hts, hK, hA⟩ := id C
  unfold zf_X11_read at h
  refine lv_aload_n hx hb dX11_read_0 rfl (lv_at hl 0 rfl) ?_
  refine lv_iconst (v := (0 : Int32)) hx hb dX11_read_1 (by decide) ?_
  refine mq_put (w := wd_R a cI cL cB cZ z) (S := S) (D := D) (ci := 11) (v := (0 : Int32)) (ty := .int) (C := RX11) (T := TX11) (N := 76) hx hb hts (zi_X11 _) tyX11 tyX11_ok nmX11 hown hK hP hD hS 0 rfl rfl 0 (by decide) (hts _ (List.mem_cons_of_mem _ zt_f_X11_151)) (fun _ h9 => h9) rfl (by decide +kernel) rfl rfl (Nat.le_of_ble_eq_true rfl) dX11_read_2 0 (zs_wd_R_i_0_0 _ _ _ _ _ _ _ _) (fun S1 eS1 H locs hP hD hS => ?_)
  replace h := mq_nS_go eS1 h
  refine lv_iload_n hx hb dX11_read_5 rfl (lv_at hl 1 rfl) ?_
  refine lv_iconst (v := (0 : Int32)) hx hb dX11_read_6 (by decide) ?_
  refine lv_bipush (v := (7 : Int32)) hx hb dX11_read_7 (by decide) ?_
  obtain ⟨q2, hc3, h⟩ := mq_cp_go h
  refine zv_X11_in (a := mq_ad a []) (z := z) [] C zt_m_X11_161 ⟨by decide, by decide⟩ hc3 rfl (by decide) hP hD hS hl.1 (Nat.le_of_ble_eq_true rfl) dX11_read_9 (fun H locs hP hD hS => ?_)
  refine lv_if_ne (tgt := 17) hx hb dX11_read_12 (by decide) (fun c5 => ?_) (fun c5 => ?_)
  · replace h := mq_if c5 h
    refine lv_aload_n hx hb dX11_read_17 rfl (lv_at hl 0 rfl) ?_
    refine lv_aload_n hx hb dX11_read_18 rfl (lv_at hl 0 rfl) ?_
    refine va_get (D := D) (ci := 11) (v := .int ((S1.1 1))) (C := RX11) (T := TX11) (N := 76) hx hb hts (zi_X11 _) hown hK hP 0 rfl rfl 2 (by decide) (hts _ (List.mem_cons_of_mem _ zt_f_X11_154)) (fun _ h9 => h9) rfl dX11_read_19 ?_
    refine lv_sipush (v := (400 : Int32)) hx hb dX11_read_22 (by decide) ?_
    refine lv_icmp_ge (tgt := 35) hx hb dX11_read_25 (by decide) (fun c4 => ?_) (fun c4 => ?_)
    · replace h := mq_it c4 h
      refine lv_sipush (v := (400 : Int32)) hx hb dX11_read_35 (by decide) ?_
      exact zw_X11_read_38 C hret (v1) (v2) ((400 : Int32)) S1 H locs ls h (lv_sub hl [0, 1, 2] rfl) hP hD hS
    · replace h := mq_if c4 h
      refine lv_aload_n hx hb dX11_read_28 rfl (lv_at hl 0 rfl) ?_
      refine va_get (D := D) (ci := 11) (v := .int ((S1.1 1))) (C := RX11) (T := TX11) (N := 76) hx hb hts (zi_X11 _) hown hK hP 0 rfl rfl 2 (by decide) (hts _ (List.mem_cons_of_mem _ zt_f_X11_154)) (fun _ h9 => h9) rfl dX11_read_29 ?_
      refine lv_goto (tgt := 38) hx hb dX11_read_32 (by decide) ?_
      exact zw_X11_read_38 C hret (v1) (v2) ((S1.1 1)) S1 H locs ls h (lv_sub hl [0, 1, 2] rfl) hP hD hS
  · replace h := mq_it (by simpa using c5) h
    refine lv_iconst (v := (-1 : Int32)) hx hb dX11_read_15 (by decide) ?_
    cases h
    exact hret H locs ls 16 dX11_read_16 hP hD hS
set_option maxHeartbeats 4000000 in
set_option maxRecDepth 100000 in
theorem zm_X11_read (l : Launch) (D : va_G) (a z : Nat → Nat) (cI cL cB cZ : ClassId) (sz N : Nat) (v1 : Int32) (v2 : Int32) (S : mq_St) (res : Int32 × mq_St) (h : zf_X11_read N z v1 v2 S = some res) : Met l yX11_read (zc_X11_read :: mq_T) zr_X11_read (va_Pc [.ref (a 0), .int (v1), .int (v2)] (fun U => U.heap.size = sz ∧ va_P D vwCl (wd_R a cI cL cB cZ z S) U.heap ∧ va_K D vwCl (mq_tys cI cL cB cZ) U ∧ va_D (fun _ => True) (wd_R a cI cL cB cZ z S))) (va_Qi (fun (r : Int32) (u : mq_St) => r = res.1 ∧ u = res.2) (fun u t => va_P D vwCl (wd_R a cI cL cB cZ z u) t.heap ∧ va_K D vwCl (mq_tys cI cL cB cZ) t ∧ va_D (va_A (wd_R a cI cL cB cZ z S) sz) (wd_R a cI cL cB cZ z u)) (va_A (wd_R a cI cL cB cZ z S) sz)) 0 0 (va_A (wd_R a cI cL cB cZ z S) sz) := by
  refine Met.ofW (cc := cX11_read) (maxL := 8) (ret := (some .int)) (by decide) rfl ?_
  intro p e s m args below meth c s₁ B hml hv
  obtain ⟨rfl, hsz, hP, hK, hD0⟩ := hv
  have hr := B.returns
  have hlocks := B.notSynchronized
  have hts := atoms_spec (ws := zc_X11_read :: mq_T) B.pre
  have hown : s.vm.findClass RX11 = some m.cls := findClass_of_methodNamed B.named
  subst hsz
  have hD := hD0.self (sz := s.heap.size)
  generalize hAe : va_A (wd_R a cI cL cB cZ z S) s.heap.size = A at hD ⊢
  have hA : ∀ q : Nat, s.heap.size ≤ q → A q := fun q h => by rw [← hAe]; exact Or.inr h
  have hl := lv_entry ([.ref (a 0), .int (v1), .int (v2)]) (n := 8) (Nat.le_of_ble_eq_true rfl)
  rw [lg_entry_eq]
  generalize (lg_sl ([.ref (a 0), .int (v1), .int (v2)]) ++ List.replicate (8 - (lg_sl ([.ref (a 0), .int (v1), .int (v2)])).length) Slot.unset).toArray = ls at hl ⊢
  have hl : lv_has ls 8 [(0, .ref (a 0)), (1, .int (v1)), (2, .int (v2))] := hl
  refine zw_X11_read_0 (A := A) ⟨B.exec, B.bytes, hml, hown, hts, hK, hA⟩ (fun H locs ls pc dg hP hD hS => ?_) v1 v2 S s.heap [] ls h hl hP hD va_S.rf
  exact W.iret B.exec B.bytes hr (fun t ht hW => ⟨⟨_, _, rfl, ⟨rfl, rfl⟩, by rw [ht]; exact hP, va_K.moved hW.alike hK, hD⟩, hS.F ht⟩) hS.2.2 dg
theorem zt_X11_read_c : zc_X11_read ∈ mq_T := mq_T_mem (mq_t6 (List.mem_of_getElem? (i := 185) rfl)) rfl
theorem zt_X11_read_i : Cond.instanceMethod yX11_read ∈ mq_T := mq_T_mem (mq_t6 (List.mem_of_getElem? (i := 183) rfl)) rfl
theorem zt_X11_read_s : Cond.selects RX11 yX11_read yX11_read ∈ mq_T := mq_T_mem (mq_t6 (List.mem_of_getElem? (i := 184) rfl)) rfl
