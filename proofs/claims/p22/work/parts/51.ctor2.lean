def wd_K (a : Nat → Nat) (cI cL cB cZ : ClassId) (z : Nat → Nat) (S : mq_St) : va_W := [(a 0, .inr (7, [.ref (a 1), .ref (a 2), .ref (a 3), .ref (a 4), .ref (a 5), .int (S.1 0)])), (a 1, .inl (cI, 300, .inl (S.2.1 0))), (a 2, .inl (cI, 300, .inl (S.2.1 1))), (a 3, .inl (cI, 300, .inl (S.2.1 2))), (a 4, .inl (cI, 300, .inl (S.2.1 3))), (a 5, .inr (6, [.ref (a 6)])), (a 6, .inl (cL, 40, .inr (.inl (S.2.2 0))))]
/-! ModalDesk$Stock.has(I)Z -/
def zr_X7k_has : Room := { frames := 0, cells := 0, slots := 0, locals := 0 }
def zc_X7k_has : Cond := .code yX7_has cX7_has 2 (some .boolean)
def zf_X7k_has (N : Nat) (z : Nat → Nat) (v1 : Int32) (S : mq_St) : Option (Int32) := (if v1 < (0 : Int32) then (mq_cz ((0 : Int32)) (some ((0 : Int32)))) else (if (S.1 0) ≤ v1 then (mq_cz ((0 : Int32)) (some ((0 : Int32)))) else (mq_cz ((1 : Int32)) (some ((1 : Int32))))))
set_option maxHeartbeats 4000000 in
set_option maxRecDepth 100000 in
theorem zw_X7k_has_0 {p : Program} {l : Launch} {e : Env} {s : State} {m : MethodId} {args : Array Value} {below : List Frame} {meth : Method} {c : Code} {A : Nat → Prop} {D : va_G} {a z : Nat → Nat} {cI cL cB cZ : ClassId} {Q : State → Prop} {N : Nat} {S : mq_St} {res : Int32} (C : mq_C p s m args c A D cI cL cB cZ cX7_has 2 RX7 zc_X7k_has) (hret : ∀ (H : Heap) (locs : List Loc) (ls : Array Slot) (pc : Nat), decode cX7_has pc = .ok (.ireturn, 1) → narrow .boolean (.int res) = .int res → va_P D vwCl (wd_K a cI cL cB cZ z S) H → va_D A (wd_K a cI cL cB cZ z S) → va_S A s.heap H locs → W p l e zr_X7k_has s m args below meth c H locs 0 0 Q (F0 m pc ls [.int res])) (v1 : Int32) (H : Heap) (locs : List Loc) (ls : Array Slot) (h : zf_X7k_has N z v1 S = some res) (hl : lv_has ls 2 [(0, .ref (a 0)), (1, .int (v1))]) (hP : va_P D vwCl (wd_K a cI cL cB cZ z S) H) (hD : va_D A (wd_K a cI cL cB cZ z S)) (hS : va_S A s.heap H locs) : W p l e zr_X7k_has s m args below meth c H locs 0 0 Q (F0 m 0 ls []) := by
  obtain ⟨hx, hb, hml, hown, hts, hK, hA⟩ := id C
  unfold zf_X7k_has at h
  refine lv_iload_n hx hb dX7_has_0 rfl (lv_at hl 1 rfl) ?_
  refine lv_if_lt (tgt := 16) hx hb dX7_has_1 (by decide) (fun c5 => ?_) (fun c5 => ?_)
  · replace h := mq_it c5 h
    refine lv_iconst (v := (0 : Int32)) hx hb dX7_has_16 (by decide) ?_
    have hz1 := mq_cz_in h
    replace h := mq_cz_go h
    cases h
    exact hret H locs ls 17 dX7_has_17 hz1.1 hP hD hS
  · replace h := mq_if c5 h
    refine lv_iload_n hx hb dX7_has_4 rfl (lv_at hl 1 rfl) ?_
    refine lv_aload_n hx hb dX7_has_5 rfl (lv_at hl 0 rfl) ?_
    refine va_get (D := D) (ci := 7) (v := .int ((S.1 0))) (C := RX7) (T := TX7) (N := 6) hx hb hts (zi_X7 _) hown hK hP 0 rfl rfl 5 (by decide) (hts _ (List.mem_cons_of_mem _ zt_f_X7_41)) (fun _ h9 => h9) rfl dX7_has_6 ?_
    refine lv_icmp_ge (tgt := 16) hx hb dX7_has_9 (by decide) (fun c4 => ?_) (fun c4 => ?_)
    · replace h := mq_it c4 h
      refine lv_iconst (v := (0 : Int32)) hx hb dX7_has_16 (by decide) ?_
      have hz2 := mq_cz_in h
      replace h := mq_cz_go h
      cases h
      exact hret H locs ls 17 dX7_has_17 hz2.1 hP hD hS
    · replace h := mq_if c4 h
      refine lv_iconst (v := (1 : Int32)) hx hb dX7_has_12 (by decide) ?_
      refine lv_goto (tgt := 17) hx hb dX7_has_13 (by decide) ?_
      have hz3 := mq_cz_in h
      replace h := mq_cz_go h
      cases h
      exact hret H locs ls 17 dX7_has_17 hz3.1 hP hD hS
set_option maxHeartbeats 4000000 in
set_option maxRecDepth 100000 in
theorem zm_X7k_has (l : Launch) (D : va_G) (a z : Nat → Nat) (cI cL cB cZ : ClassId) (sz N : Nat) (v1 : Int32) (S : mq_St) (res : Int32) (h : zf_X7k_has N z v1 S = some res) : Met l yX7_has (zc_X7k_has :: mq_T) zr_X7k_has (va_Pc [.ref (a 0), .int (v1)] (fun U => U.heap.size = sz ∧ va_P D vwCl (wd_K a cI cL cB cZ z S) U.heap ∧ va_K D vwCl (mq_tys cI cL cB cZ) U ∧ va_D (fun _ => True) (wd_K a cI cL cB cZ z S))) (va_Qi (fun (r : Int32) (u : mq_St) => r = res ∧ u = S) (fun u t => va_P D vwCl (wd_K a cI cL cB cZ z u) t.heap ∧ va_K D vwCl (mq_tys cI cL cB cZ) t ∧ va_D (va_A (wd_K a cI cL cB cZ z S) sz) (wd_K a cI cL cB cZ z u)) (va_A (wd_K a cI cL cB cZ z S) sz)) 0 0 (va_A (wd_K a cI cL cB cZ z S) sz) := by
  refine Met.ofW (cc := cX7_has) (maxL := 2) (ret := (some .boolean)) (by decide) rfl ?_
  intro p e s m args below meth c s₁ B hml hv
  obtain ⟨rfl, hsz, hP, hK, hD0⟩ := hv
  have hr := B.returns
  have hlocks := B.notSynchronized
  have hts := atoms_spec (ws := zc_X7k_has :: mq_T) B.pre
  have hown : s.vm.findClass RX7 = some m.cls := findClass_of_methodNamed B.named
  subst hsz
  have hD := hD0.self (sz := s.heap.size)
  generalize hAe : va_A (wd_K a cI cL cB cZ z S) s.heap.size = A at hD ⊢
  have hA : ∀ q : Nat, s.heap.size ≤ q → A q := fun q h => by rw [← hAe]; exact Or.inr h
  have hl := lv_entry ([.ref (a 0), .int (v1)]) (n := 2) (Nat.le_of_ble_eq_true rfl)
  rw [lg_entry_eq]
  generalize (lg_sl ([.ref (a 0), .int (v1)]) ++ List.replicate (2 - (lg_sl ([.ref (a 0), .int (v1)])).length) Slot.unset).toArray = ls at hl ⊢
  have hl : lv_has ls 2 [(0, .ref (a 0)), (1, .int (v1))] := hl
  refine zw_X7k_has_0 (A := A) ⟨B.exec, B.bytes, hml, hown, hts, hK, hA⟩ (fun H locs ls pc dg hz hP hD hS => ?_) v1 s.heap [] ls h hl hP hD va_S.rf
  exact W.zret B.exec B.bytes hr hz (fun t ht hW => ⟨⟨_, _, rfl, ⟨rfl, rfl⟩, by rw [ht]; exact hP, va_K.moved hW.alike hK, hD⟩, hS.F ht⟩) hS.2.2 dg
theorem zt_X7k_has_c : zc_X7k_has ∈ mq_T := mq_T_mem (mq_t1 (List.mem_of_getElem? (i := 80) rfl)) rfl
theorem zt_X7k_has_i : Cond.instanceMethod yX7_has ∈ mq_T := mq_T_mem (mq_t1 (List.mem_of_getElem? (i := 78) rfl)) rfl
theorem zt_X7k_has_s : Cond.selects RX7 yX7_has yX7_has ∈ mq_T := mq_T_mem (mq_t1 (List.mem_of_getElem? (i := 79) rfl)) rfl
set_option maxHeartbeats 4000000 in
theorem zk_X7k_has {p : Program} {l : Launch} {e : Env} {R : Room} {s : State} {m : MethodId} {args : Array Value} {below : List Frame} {meth : Method} {c : Code} {A : Nat → Prop} {D : va_G} {a z : Nat → Nat} {cI cL cB cZ : ClassId} {Q : State → Prop} {cc : ByteArray} {nL idx pc N : Nat} {own : String} {c1 : Cond} {H : Heap} {locs : List Loc} {ls : Array Slot} {rest : List Value} {S : mq_St} {res : Int32} {v1 : Int32} (C : mq_C p s m args c A D cI cL cB cZ cc nL own c1) (hlk : Cond.methodLink own idx yX7_has ∈ mq_T) (hR : zr_X7k_has.frames + 1 ≤ R.frames ∧ 8 + (2 + 11) + zr_X7k_has.locals ≤ R.locals) (h : zf_X7k_has N z v1 S = some res) (hP : va_P D vwCl (wd_K a cI cL cB cZ z S) H) (hD : va_D A (wd_K a cI cL cB cZ z S)) (hS : va_S A s.heap H locs) (hls : ls.size = nL) (hrest : (rest.map fun v => v.category).sum ≤ 8) (hdg : decode cc pc = .ok (.invokevirtual idx, 3)) (kk : ∀ (H1 : Heap) (locs1 : List Loc), va_P D vwCl (wd_K a cI cL cB cZ z S) H1 → va_D A (wd_K a cI cL cB cZ z S) → va_S A s.heap H1 locs1 → W p l e R s m args below meth c H1 locs1 0 0 Q (F0 m (pc + 3) ls (.int res :: rest))) : W p l e R s m args below meth c H locs 0 0 Q (F0 m pc ls (.int (v1) :: .ref (a 0) :: rest)) := by
  obtain ⟨hx, hb, hml, hown, hts, hK, hA⟩ := C
  have hFc := mq_freeI hD hS hA
  refine va_calli (va_runV (As := [.int (v1)]) (rest := rest) ⟨hx, hb, hml, hown, hts⟩ (zm_X7k_has l D a z cI cL cB cZ H.size N v1 S res h) (cwV 1 hts (mq_goodL (mq_wsV hlk zt_X7k_has_i zt_X7k_has_s zt_ini_X7 zt_X7k_has_c)) rfl rfl rfl (by decide +kernel) hR) ⟨fun a U g mk q => ⟨q.1, q.2.1, q.2.2.1, va_K.moved (u := U) (U := U.calling g mk a) (Vm.Alike.refl U.vm) q.2.2.2.1, q.2.2.2.2⟩, va_recv hK hP (ci := 7) (q0 := 0) rfl rfl, fun U hU hW => ⟨rfl, by rw [hU], by rw [hU]; exact hP, va_K.moved hW.alike hK, hD.weaken (fun _ _ _ _ => trivial)⟩⟩ rfl rfl hls rfl (lv_room hrest) hdg ⟨Nat.zero_le _, Nat.zero_le _⟩) hS (fun q _ h => hFc q h) hFc (fun r u t H1 locs ht hvm hw hB hz1 hk1 hS => ?_)
  obtain ⟨rfl, rfl⟩ := hw
  obtain ⟨hP1, hK1, hD1⟩ := hB
  rw [ht] at hP1
  exact kk H1 locs hP1 (hD1.weaken (fun _ _ _ h => hFc _ h)) hS
theorem zx_wd_K_wd_S_5_6 (a z : Nat → Nat) (cI cL cB cZ : ClassId) (S X : mq_St) : mq_setM (wd_K a cI cL cB cZ z S) [5, 6] (wd_S (mq_ad a [5, 6]) cI cL cB cZ (fun k => [40].getD k 0) X) = (wd_K a cI cL cB cZ z (mq_push S X [] [] [0])) := rfl
/-! ModalDesk$Stock.append(III)I -/
def zr_X7k_append : Room := { frames := 2, cells := 0, slots := 0, locals := 44 }
def zc_X7k_append : Cond := .code yX7_append cX7_append 5 (some .int)
def zf_X7k_append (N : Nat) (z : Nat → Nat) (v1 : Int32) (v2 : Int32) (v3 : Int32) (S : mq_St) : Option (Int32 × mq_St) := (if (S.1 0) < (300 : Int32) then (mq_nI ((S.1 0)) (fun x1 => (mq_nS (mq_si S 0 (((S.1 0) + (1 : Int32)))) (fun S2 => (mq_ck (x1) 300 (mq_nS (mq_sa S2 0 (upd (S2.2.1 0) (x1).toNatClampNeg (v1))) (fun S4 => (mq_ck (x1) 300 (mq_nS (mq_sa S4 1 (upd (S4.2.1 1) (x1).toNatClampNeg (v2))) (fun S6 => (mq_ck (x1) 300 (mq_nS (mq_sa S6 2 (upd (S6.2.1 2) (x1).toNatClampNeg (v3))) (fun S8 => (mq_ck (x1) 300 (mq_nS (mq_sa S8 3 (upd (S8.2.1 3) (x1).toNatClampNeg ((-1 : Int32)))) (fun S10 => (mq_cl (zf_X6_put N (fun k => [40].getD k 0) (v1) (x1) (mq_pull S10 [] [] [0])) (fun q11v q11s => mq_nS (mq_push S10 q11s [] [] [0]) (fun S13 => (some (x1, S13))))))))))))))))))))) else (some ((-1 : Int32), S)))
set_option maxHeartbeats 4000000 in
set_option maxRecDepth 100000 in
theorem zw_X7k_append_0 {p : Program} {l : Launch} {e : Env} {s : State} {m : MethodId} {args : Array Value} {below : List Frame} {meth : Method} {c : Code} {A : Nat → Prop} {D : va_G} {a z : Nat → Nat} {cI cL cB cZ : ClassId} {Q : State → Prop} {N : Nat} {res : Int32 × mq_St} (C : mq_C p s m args c A D cI cL cB cZ cX7_append 5 RX7 zc_X7k_append) (hret : ∀ (H : Heap) (locs : List Loc) (ls : Array Slot) (pc : Nat), decode cX7_append pc = .ok (.ireturn, 1) → va_P D vwCl (wd_K a cI cL cB cZ z res.2) H → va_D A (wd_K a cI cL cB cZ z res.2) → va_S A s.heap H locs → W p l e zr_X7k_append s m args below meth c H locs 0 0 Q (F0 m pc ls [.int res.1])) (v1 : Int32) (v2 : Int32) (v3 : Int32) (S : mq_St) (H : Heap) (locs : List Loc) (ls : Array Slot) (h : zf_X7k_append N z v1 v2 v3 S = some res) (hl : lv_has ls 5 [(0, .ref (a 0)), (1, .int (v1)), (2, .int (v2)), (3, .int (v3))]) (hP : va_P D vwCl (wd_K a cI cL cB cZ z S) H) (hD : va_D A (wd_K a cI cL cB cZ z S)) (hS : va_S A s.heap H locs) : W p l e zr_X7k_append s m args below meth c H locs 0 0 Q (F0 m 0 ls []) := by
  obtain ⟨hx, hb, hml, hown, hts, hK, hA⟩ := id C
  unfold zf_X7k_append at h
  refine lv_aload_n hx hb dX7_append_0 rfl (lv_at hl 0 rfl) ?_
  refine va_get (D := D) (ci := 7) (v := .int ((S.1 0))) (C := RX7) (T := TX7) (N := 6) hx hb hts (zi_X7 _) hown hK hP 0 rfl rfl 5 (by decide) (hts _ (List.mem_cons_of_mem _ zt_f_X7_41)) (fun _ h9 => h9) rfl dX7_append_1 ?_
  refine lv_sipush (v := (300 : Int32)) hx hb dX7_append_4 (by decide) ?_
  refine lv_icmp_lt (tgt := 12) hx hb dX7_append_7 (by decide) (fun c14 => ?_) (fun c14 => ?_)
  · replace h := mq_it c14 h
    refine lv_aload_n hx hb dX7_append_12 rfl (lv_at hl 0 rfl) ?_
    refine va_get (D := D) (ci := 7) (v := .int ((S.1 0))) (C := RX7) (T := TX7) (N := 6) hx hb hts (zi_X7 _) hown hK hP 0 rfl rfl 5 (by decide) (hts _ (List.mem_cons_of_mem _ zt_f_X7_41)) (fun _ h9 => h9) rfl dX7_append_13 ?_
    refine lv_topi (fun x1 ex1 => ?_)
    replace h := mq_nI_go ex1 h
    refine lv_istore (lv' := [(4, .int (x1)), (0, .ref (a 0)), (1, .int (v1)), (2, .int (v2)), (3, .int (v3))]) hx hb dX7_append_16 hl (by decide) rfl (fun ls hl => ?_)
    refine lv_aload_n hx hb dX7_append_18 rfl (lv_at hl 1 rfl) ?_
    refine lv_dup hx hb dX7_append_19 rfl ?_
    refine va_get (D := D) (ci := 7) (v := .int ((S.1 0))) (C := RX7) (T := TX7) (N := 6) hx hb hts (zi_X7 _) hown hK hP 0 rfl rfl 5 (by decide) (hts _ (List.mem_cons_of_mem _ zt_f_X7_41)) (fun _ h9 => h9) rfl dX7_append_20 ?_
    refine lv_iconst (v := (1 : Int32)) hx hb dX7_append_23 (by decide) ?_
    refine lv_iadd hx hb dX7_append_24 ?_
    refine mq_put (w := wd_K a cI cL cB cZ z) (S := S) (D := D) (ci := 7) (v := ((S.1 0) + (1 : Int32))) (ty := .int) (C := RX7) (T := TX7) (N := 6) hx hb hts (zi_X7 _) tyX7 tyX7_ok nmX7 hown hK hP hD hS 0 rfl rfl 5 (by decide) (hts _ (List.mem_cons_of_mem _ zt_f_X7_41)) (fun _ h9 => h9) rfl (by decide +kernel) rfl rfl (Nat.le_of_ble_eq_true rfl) dX7_append_25 0 rfl (fun S2 eS2 H locs hP hD hS => ?_)
    replace h := mq_nS_go eS2 h
    refine lv_aload_n hx hb dX7_append_28 rfl (lv_at hl 1 rfl) ?_
    refine va_get (D := D) (ci := 7) (v := .ref (a 1)) (C := RX7) (T := TX7) (N := 6) hx hb hts (zi_X7 _) hown hK hP 0 rfl rfl 0 (by decide) (hts _ (List.mem_cons_of_mem _ zt_f_X7_9)) (fun _ h9 => h9) rfl dX7_append_29 ?_
    refine lv_iload hx hb dX7_append_32 (lv_at hl 0 rfl) ?_
    refine lv_iload_n hx hb dX7_append_34 rfl (lv_at hl 2 rfl) ?_
    have hi3 := mq_ck_in h
    replace h := mq_ck_go h
    refine mq_iast (w := wd_K a cI cL cB cZ z) (S := S2) (f := S2.2.1 0) hx hb hK hP hD hS 1 0 rfl rfl hi3 dX7_append_35 0 rfl (fun S4 eS4 H locs hP hD hS => ?_)
    replace h := mq_nS_go eS4 h
    refine lv_aload_n hx hb dX7_append_36 rfl (lv_at hl 1 rfl) ?_
    refine va_get (D := D) (ci := 7) (v := .ref (a 2)) (C := RX7) (T := TX7) (N := 6) hx hb hts (zi_X7 _) hown hK hP 0 rfl rfl 1 (by decide) (hts _ (List.mem_cons_of_mem _ zt_f_X7_15)) (fun _ h9 => h9) rfl dX7_append_37 ?_
    refine lv_iload hx hb dX7_append_40 (lv_at hl 0 rfl) ?_
    refine lv_iload_n hx hb dX7_append_42 rfl (lv_at hl 3 rfl) ?_
    have hi5 := mq_ck_in h
    replace h := mq_ck_go h
    refine mq_iast (w := wd_K a cI cL cB cZ z) (S := S4) (f := S4.2.1 1) hx hb hK hP hD hS 2 0 rfl rfl hi5 dX7_append_43 1 rfl (fun S6 eS6 H locs hP hD hS => ?_)
    replace h := mq_nS_go eS6 h
    refine lv_aload_n hx hb dX7_append_44 rfl (lv_at hl 1 rfl) ?_
    refine va_get (D := D) (ci := 7) (v := .ref (a 3)) (C := RX7) (T := TX7) (N := 6) hx hb hts (zi_X7 _) hown hK hP 0 rfl rfl 2 (by decide) (hts _ (List.mem_cons_of_mem _ zt_f_X7_18)) (fun _ h9 => h9) rfl dX7_append_45 ?_
    refine lv_iload hx hb dX7_append_48 (lv_at hl 0 rfl) ?_
    refine lv_iload_n hx hb dX7_append_50 rfl (lv_at hl 4 rfl) ?_
    have hi7 := mq_ck_in h
    replace h := mq_ck_go h
    refine mq_iast (w := wd_K a cI cL cB cZ z) (S := S6) (f := S6.2.1 2) hx hb hK hP hD hS 3 0 rfl rfl hi7 dX7_append_51 2 rfl (fun S8 eS8 H locs hP hD hS => ?_)
    replace h := mq_nS_go eS8 h
    refine lv_aload_n hx hb dX7_append_52 rfl (lv_at hl 1 rfl) ?_
    refine va_get (D := D) (ci := 7) (v := .ref (a 4)) (C := RX7) (T := TX7) (N := 6) hx hb hts (zi_X7 _) hown hK hP 0 rfl rfl 3 (by decide) (hts _ (List.mem_cons_of_mem _ zt_f_X7_21)) (fun _ h9 => h9) rfl dX7_append_53 ?_
    refine lv_iload hx hb dX7_append_56 (lv_at hl 0 rfl) ?_
    refine lv_iconst (v := (-1 : Int32)) hx hb dX7_append_58 (by decide) ?_
    have hi9 := mq_ck_in h
    replace h := mq_ck_go h
    refine mq_iast (w := wd_K a cI cL cB cZ z) (S := S8) (f := S8.2.1 3) hx hb hK hP hD hS 4 0 rfl rfl hi9 dX7_append_59 3 rfl (fun S10 eS10 H locs hP hD hS => ?_)
    replace h := mq_nS_go eS10 h
    refine lv_aload_n hx hb dX7_append_60 rfl (lv_at hl 1 rfl) ?_
    refine va_get (D := D) (ci := 7) (v := .ref (a 5)) (C := RX7) (T := TX7) (N := 6) hx hb hts (zi_X7 _) hown hK hP 0 rfl rfl 4 (by decide) (hts _ (List.mem_cons_of_mem _ zt_f_X7_29)) (fun _ h9 => h9) rfl dX7_append_61 ?_
    refine lv_iload_n hx hb dX7_append_64 rfl (lv_at hl 2 rfl) ?_
    refine lv_iload hx hb dX7_append_65 (lv_at hl 0 rfl) ?_
    obtain ⟨q11, hc12, h⟩ := mq_cl_go h
    refine zv_X6_put (a := mq_ad a [5, 6]) (z := (fun k => [40].getD k 0)) [5, 6] C zt_m_X7_55 ⟨by decide, by decide⟩ hc12 rfl (by decide) (ws' := (wd_K a cI cL cB cZ z (mq_push S10 q11.2 [] [] [0]))) (zx_wd_K_wd_S_5_6 _ _ _ _ _ _ _ _) hP hD hS hl.1 (Nat.le_of_ble_eq_true rfl) dX7_append_67 (fun H locs hP hD hS => ?_)
    obtain ⟨S13, eS13⟩ : ∃ y, y = mq_push S10 q11.2 [] [] [0] := ⟨_, rfl⟩
    replace h := mq_nS_go eS13 h
    rw [← eS13] at hP hD
    refine lv_iload hx hb dX7_append_70 (lv_at hl 0 rfl) ?_
    cases h
    exact hret H locs ls 72 dX7_append_72 hP hD hS
  · replace h := mq_if c14 h
    refine lv_iconst (v := (-1 : Int32)) hx hb dX7_append_10 (by decide) ?_
    cases h
    exact hret H locs ls 11 dX7_append_11 hP hD hS
set_option maxHeartbeats 4000000 in
set_option maxRecDepth 100000 in
theorem zm_X7k_append (l : Launch) (D : va_G) (a z : Nat → Nat) (cI cL cB cZ : ClassId) (sz N : Nat) (v1 : Int32) (v2 : Int32) (v3 : Int32) (S : mq_St) (res : Int32 × mq_St) (h : zf_X7k_append N z v1 v2 v3 S = some res) : Met l yX7_append (zc_X7k_append :: mq_T) zr_X7k_append (va_Pc [.ref (a 0), .int (v1), .int (v2), .int (v3)] (fun U => U.heap.size = sz ∧ va_P D vwCl (wd_K a cI cL cB cZ z S) U.heap ∧ va_K D vwCl (mq_tys cI cL cB cZ) U ∧ va_D (fun _ => True) (wd_K a cI cL cB cZ z S))) (va_Qi (fun (r : Int32) (u : mq_St) => r = res.1 ∧ u = res.2) (fun u t => va_P D vwCl (wd_K a cI cL cB cZ z u) t.heap ∧ va_K D vwCl (mq_tys cI cL cB cZ) t ∧ va_D (va_A (wd_K a cI cL cB cZ z S) sz) (wd_K a cI cL cB cZ z u)) (va_A (wd_K a cI cL cB cZ z S) sz)) 0 0 (va_A (wd_K a cI cL cB cZ z S) sz) := by
  refine Met.ofW (cc := cX7_append) (maxL := 5) (ret := (some .int)) (by decide) rfl ?_
  intro p e s m args below meth c s₁ B hml hv
  obtain ⟨rfl, hsz, hP, hK, hD0⟩ := hv
  have hr := B.returns
  have hlocks := B.notSynchronized
  have hts := atoms_spec (ws := zc_X7k_append :: mq_T) B.pre
  have hown : s.vm.findClass RX7 = some m.cls := findClass_of_methodNamed B.named
  subst hsz
  have hD := hD0.self (sz := s.heap.size)
  generalize hAe : va_A (wd_K a cI cL cB cZ z S) s.heap.size = A at hD ⊢
  have hA : ∀ q : Nat, s.heap.size ≤ q → A q := fun q h => by rw [← hAe]; exact Or.inr h
  have hl := lv_entry ([.ref (a 0), .int (v1), .int (v2), .int (v3)]) (n := 5) (Nat.le_of_ble_eq_true rfl)
  rw [lg_entry_eq]
  generalize (lg_sl ([.ref (a 0), .int (v1), .int (v2), .int (v3)]) ++ List.replicate (5 - (lg_sl ([.ref (a 0), .int (v1), .int (v2), .int (v3)])).length) Slot.unset).toArray = ls at hl ⊢
  have hl : lv_has ls 5 [(0, .ref (a 0)), (1, .int (v1)), (2, .int (v2)), (3, .int (v3))] := hl
  refine zw_X7k_append_0 (A := A) ⟨B.exec, B.bytes, hml, hown, hts, hK, hA⟩ (fun H locs ls pc dg hP hD hS => ?_) v1 v2 v3 S s.heap [] ls h hl hP hD va_S.rf
  exact W.iret B.exec B.bytes hr (fun t ht hW => ⟨⟨_, _, rfl, ⟨rfl, rfl⟩, by rw [ht]; exact hP, va_K.moved hW.alike hK, hD⟩, hS.F ht⟩) hS.2.2 dg
theorem zt_X7k_append_c : zc_X7k_append ∈ mq_T := mq_T_mem (mq_t1 (List.mem_of_getElem? (i := 64) rfl)) rfl
theorem zt_X7k_append_i : Cond.instanceMethod yX7_append ∈ mq_T := mq_T_mem (mq_t1 (List.mem_of_getElem? (i := 63) rfl)) rfl
theorem zt_X7k_append_s : Cond.selects RX7 yX7_append yX7_append ∈ mq_T := mq_T_at 0 (by decide +kernel)
/-! ModalDesk$Stock.pair(II)V -/
def zr_X7k_pair : Room := { frames := 1, cells := 0, slots := 0, locals := 21 }
def zc_X7k_pair : Cond := .code yX7_pair cX7_pair 3 none
def zf_X7k_pair (N : Nat) (z : Nat → Nat) (v1 : Int32) (v2 : Int32) (S : mq_St) : Option (Unit × mq_St) := (mq_cp (zf_X7k_has N z (v1) S) (fun q1 => (if q1 = (0 : Int32) then (some ((), S)) else (mq_cp (zf_X7k_has N z (v2) S) (fun q3 => (if q3 = (0 : Int32) then (some ((), S)) else (mq_ck (v1) 300 (mq_nS (mq_sa S 3 (upd (S.2.1 3) (v1).toNatClampNeg (v2))) (fun S6 => (mq_ck (v2) 300 (mq_nS (mq_sa S6 3 (upd (S6.2.1 3) (v2).toNatClampNeg (v1))) (fun S8 => (some ((), S8))))))))))))))
set_option maxHeartbeats 4000000 in
set_option maxRecDepth 100000 in
theorem zw_X7k_pair_0 {p : Program} {l : Launch} {e : Env} {s : State} {m : MethodId} {args : Array Value} {below : List Frame} {meth : Method} {c : Code} {A : Nat → Prop} {D : va_G} {a z : Nat → Nat} {cI cL cB cZ : ClassId} {Q : State → Prop} {N : Nat} {res : Unit × mq_St} (C : mq_C p s m args c A D cI cL cB cZ cX7_pair 3 RX7 zc_X7k_pair) (hret : ∀ (H : Heap) (locs : List Loc) (ls : Array Slot) (pc : Nat), decode cX7_pair pc = .ok (.return_, 1) → va_P D vwCl (wd_K a cI cL cB cZ z res.2) H → va_D A (wd_K a cI cL cB cZ z res.2) → va_S A s.heap H locs → W p l e zr_X7k_pair s m args below meth c H locs 0 0 Q (F0 m pc ls [])) (v1 : Int32) (v2 : Int32) (S : mq_St) (H : Heap) (locs : List Loc) (ls : Array Slot) (h : zf_X7k_pair N z v1 v2 S = some res) (hl : lv_has ls 3 [(0, .ref (a 0)), (1, .int (v1)), (2, .int (v2))]) (hP : va_P D vwCl (wd_K a cI cL cB cZ z S) H) (hD : va_D A (wd_K a cI cL cB cZ z S)) (hS : va_S A s.heap H locs) : W p l e zr_X7k_pair s m args below meth c H locs 0 0 Q (F0 m 0 ls []) := by
  obtain ⟨hx, hb, hml, hown, hts, hK, hA⟩ := id C
  unfold zf_X7k_pair at h
  refine lv_aload_n hx hb dX7_pair_0 rfl (lv_at hl 0 rfl) ?_
  refine lv_iload_n hx hb dX7_pair_1 rfl (lv_at hl 1 rfl) ?_
  obtain ⟨q1, hc2, h⟩ := mq_cp_go h
  refine zk_X7k_has C zt_m_X7_45 ⟨by decide, by decide⟩ hc2 hP hD hS hl.1 (Nat.le_of_ble_eq_true rfl) dX7_pair_2 (fun H locs hP hD hS => ?_)
  refine lv_if_eq (tgt := 30) hx hb dX7_pair_5 (by decide) (fun c10 => ?_) (fun c10 => ?_)
  · replace h := mq_it c10 h
    cases h
    exact hret H locs ls 30 dX7_pair_30 hP hD hS
  · replace h := mq_if c10 h
    refine lv_aload_n hx hb dX7_pair_8 rfl (lv_at hl 0 rfl) ?_
    refine lv_iload_n hx hb dX7_pair_9 rfl (lv_at hl 2 rfl) ?_
    obtain ⟨q3, hc4, h⟩ := mq_cp_go h
    refine zk_X7k_has C zt_m_X7_45 ⟨by decide, by decide⟩ hc4 hP hD hS hl.1 (Nat.le_of_ble_eq_true rfl) dX7_pair_10 (fun H locs hP hD hS => ?_)
    refine lv_if_eq (tgt := 30) hx hb dX7_pair_13 (by decide) (fun c9 => ?_) (fun c9 => ?_)
    · replace h := mq_it c9 h
      cases h
      exact hret H locs ls 30 dX7_pair_30 hP hD hS
    · replace h := mq_if c9 h
      refine lv_aload_n hx hb dX7_pair_16 rfl (lv_at hl 0 rfl) ?_
      refine va_get (D := D) (ci := 7) (v := .ref (a 4)) (C := RX7) (T := TX7) (N := 6) hx hb hts (zi_X7 _) hown hK hP 0 rfl rfl 3 (by decide) (hts _ (List.mem_cons_of_mem _ zt_f_X7_21)) (fun _ h9 => h9) rfl dX7_pair_17 ?_
      refine lv_iload_n hx hb dX7_pair_20 rfl (lv_at hl 1 rfl) ?_
      refine lv_iload_n hx hb dX7_pair_21 rfl (lv_at hl 2 rfl) ?_
      have hi5 := mq_ck_in h
      replace h := mq_ck_go h
      refine mq_iast (w := wd_K a cI cL cB cZ z) (S := S) (f := S.2.1 3) hx hb hK hP hD hS 4 0 rfl rfl hi5 dX7_pair_22 3 rfl (fun S6 eS6 H locs hP hD hS => ?_)
      replace h := mq_nS_go eS6 h
      refine lv_aload_n hx hb dX7_pair_23 rfl (lv_at hl 0 rfl) ?_
      refine va_get (D := D) (ci := 7) (v := .ref (a 4)) (C := RX7) (T := TX7) (N := 6) hx hb hts (zi_X7 _) hown hK hP 0 rfl rfl 3 (by decide) (hts _ (List.mem_cons_of_mem _ zt_f_X7_21)) (fun _ h9 => h9) rfl dX7_pair_24 ?_
      refine lv_iload_n hx hb dX7_pair_27 rfl (lv_at hl 2 rfl) ?_
      refine lv_iload_n hx hb dX7_pair_28 rfl (lv_at hl 1 rfl) ?_
      have hi7 := mq_ck_in h
      replace h := mq_ck_go h
      refine mq_iast (w := wd_K a cI cL cB cZ z) (S := S6) (f := S6.2.1 3) hx hb hK hP hD hS 4 0 rfl rfl hi7 dX7_pair_29 3 rfl (fun S8 eS8 H locs hP hD hS => ?_)
      replace h := mq_nS_go eS8 h
      cases h
      exact hret H locs ls 30 dX7_pair_30 hP hD hS
set_option maxHeartbeats 4000000 in
set_option maxRecDepth 100000 in
theorem zm_X7k_pair (l : Launch) (D : va_G) (a z : Nat → Nat) (cI cL cB cZ : ClassId) (sz N : Nat) (v1 : Int32) (v2 : Int32) (S : mq_St) (res : Unit × mq_St) (h : zf_X7k_pair N z v1 v2 S = some res) : Met l yX7_pair (zc_X7k_pair :: mq_T) zr_X7k_pair (va_Pc [.ref (a 0), .int (v1), .int (v2)] (fun U => U.heap.size = sz ∧ va_P D vwCl (wd_K a cI cL cB cZ z S) U.heap ∧ va_K D vwCl (mq_tys cI cL cB cZ) U ∧ va_D (fun _ => True) (wd_K a cI cL cB cZ z S))) (va_Qv (fun u : mq_St => u = res.2) (fun u t => va_P D vwCl (wd_K a cI cL cB cZ z u) t.heap ∧ va_K D vwCl (mq_tys cI cL cB cZ) t ∧ va_D (va_A (wd_K a cI cL cB cZ z S) sz) (wd_K a cI cL cB cZ z u)) (va_A (wd_K a cI cL cB cZ z S) sz)) 0 0 (va_A (wd_K a cI cL cB cZ z S) sz) := by
  refine Met.ofW (cc := cX7_pair) (maxL := 3) (ret := none) (by decide) rfl ?_
  intro p e s m args below meth c s₁ B hml hv
  obtain ⟨rfl, hsz, hP, hK, hD0⟩ := hv
  have hr := B.returns
  have hlocks := B.notSynchronized
  have hts := atoms_spec (ws := zc_X7k_pair :: mq_T) B.pre
  have hown : s.vm.findClass RX7 = some m.cls := findClass_of_methodNamed B.named
  subst hsz
  have hD := hD0.self (sz := s.heap.size)
  generalize hAe : va_A (wd_K a cI cL cB cZ z S) s.heap.size = A at hD ⊢
  have hA : ∀ q : Nat, s.heap.size ≤ q → A q := fun q h => by rw [← hAe]; exact Or.inr h
  have hl := lv_entry ([.ref (a 0), .int (v1), .int (v2)]) (n := 3) (Nat.le_of_ble_eq_true rfl)
  rw [lg_entry_eq]
  generalize (lg_sl ([.ref (a 0), .int (v1), .int (v2)]) ++ List.replicate (3 - (lg_sl ([.ref (a 0), .int (v1), .int (v2)])).length) Slot.unset).toArray = ls at hl ⊢
  have hl : lv_has ls 3 [(0, .ref (a 0)), (1, .int (v1)), (2, .int (v2))] := hl
  refine zw_X7k_pair_0 (A := A) ⟨B.exec, B.bytes, hml, hown, hts, hK, hA⟩ (fun H locs ls pc dg hP hD hS => ?_) v1 v2 S s.heap [] ls h hl hP hD va_S.rf
  exact W.vret B.exec B.bytes hr (fun t ht hW => ⟨⟨_, rfl, rfl, by rw [ht]; exact hP, va_K.moved hW.alike hK, hD⟩, hS.F ht⟩) hS.2.2 dg
theorem zt_X7k_pair_c : zc_X7k_pair ∈ mq_T := mq_T_mem (mq_t1 (List.mem_of_getElem? (i := 76) rfl)) rfl
theorem zt_X7k_pair_i : Cond.instanceMethod yX7_pair ∈ mq_T := mq_T_mem (mq_t1 (List.mem_of_getElem? (i := 74) rfl)) rfl
theorem zt_X7k_pair_s : Cond.selects RX7 yX7_pair yX7_pair ∈ mq_T := mq_T_mem (mq_t1 (List.mem_of_getElem? (i := 75) rfl)) rfl
set_option maxHeartbeats 4000000 in
theorem zK_X7k_append {p : Program} {l : Launch} {e : Env} {R : Room} {s : State} {m : MethodId} {args : Array Value} {below : List Frame} {meth : Method} {c : Code} {A : Nat → Prop} {D : va_G} {a z : Nat → Nat} {cI cL cB cZ : ClassId} {Q : State → Prop} {cc : ByteArray} {nL idx pc N : Nat} {own : String} {c1 : Cond} {H : Heap} {locs : List Loc} {ls : Array Slot} {rest : List Value} {S : mq_St} {res : Int32 × mq_St} {v1 : Int32} {v2 : Int32} {v3 : Int32} {cells slots : Nat} (C : mq_C p s m args c A D cI cL cB cZ cc nL own c1) (hcs : cells ≤ R.cells ∧ slots ≤ R.slots) (hlk : Cond.methodLink own idx yX7_append ∈ mq_T) (hR : zr_X7k_append.frames + 1 ≤ R.frames ∧ 8 + (5 + 11) + zr_X7k_append.locals ≤ R.locals) (h : zf_X7k_append N z v1 v2 v3 S = some res) (hP : va_P D vwCl (wd_K a cI cL cB cZ z S) H) (hD : va_D A (wd_K a cI cL cB cZ z S)) (hS : va_S A s.heap H locs) (hls : ls.size = nL) (hrest : (rest.map fun v => v.category).sum ≤ 8) (hdg : decode cc pc = .ok (.invokevirtual idx, 3)) (kk : ∀ (H1 : Heap) (locs1 : List Loc), va_P D vwCl (wd_K a cI cL cB cZ z res.2) H1 → va_D A (wd_K a cI cL cB cZ z res.2) → va_S A s.heap H1 locs1 → W p l e R s m args below meth c H1 locs1 cells slots Q (F0 m (pc + 3) ls (.int res.1 :: rest))) : W p l e R s m args below meth c H locs cells slots Q (F0 m pc ls (.int (v3) :: .int (v2) :: .int (v1) :: .ref (a 0) :: rest)) := by
  obtain ⟨hx, hb, hml, hown, hts, hK, hA⟩ := C
  have hFc := mq_freeI hD hS hA
  refine va_calli (va_runV (As := [.int (v1), .int (v2), .int (v3)]) (rest := rest) ⟨hx, hb, hml, hown, hts⟩ (zm_X7k_append l D a z cI cL cB cZ H.size N v1 v2 v3 S res h) (cwV 3 hts (mq_goodL (mq_wsV hlk zt_X7k_append_i zt_X7k_append_s zt_ini_X7 zt_X7k_append_c)) rfl rfl rfl (by decide +kernel) hR) ⟨fun a U g mk q => ⟨q.1, q.2.1, q.2.2.1, va_K.moved (u := U) (U := U.calling g mk a) (Vm.Alike.refl U.vm) q.2.2.2.1, q.2.2.2.2⟩, va_recv hK hP (ci := 7) (q0 := 0) rfl rfl, fun U hU hW => ⟨rfl, by rw [hU], by rw [hU]; exact hP, va_K.moved hW.alike hK, hD.weaken (fun _ _ _ _ => trivial)⟩⟩ rfl rfl hls rfl (lv_room hrest) hdg hcs) hS (fun q _ h => hFc q h) hFc (fun r u t H1 locs ht hvm hw hB hz1 hk1 hS => ?_)
  obtain ⟨rfl, rfl⟩ := hw
  obtain ⟨hP1, hK1, hD1⟩ := hB
  rw [ht] at hP1
  exact kk H1 locs hP1 (hD1.weaken (fun _ _ _ h => hFc _ h)) hS
set_option maxHeartbeats 4000000 in
theorem zK_X7k_pair {p : Program} {l : Launch} {e : Env} {R : Room} {s : State} {m : MethodId} {args : Array Value} {below : List Frame} {meth : Method} {c : Code} {A : Nat → Prop} {D : va_G} {a z : Nat → Nat} {cI cL cB cZ : ClassId} {Q : State → Prop} {cc : ByteArray} {nL idx pc N : Nat} {own : String} {c1 : Cond} {H : Heap} {locs : List Loc} {ls : Array Slot} {rest : List Value} {S : mq_St} {res : Unit × mq_St} {v1 : Int32} {v2 : Int32} {cells slots : Nat} (C : mq_C p s m args c A D cI cL cB cZ cc nL own c1) (hcs : cells ≤ R.cells ∧ slots ≤ R.slots) (hlk : Cond.methodLink own idx yX7_pair ∈ mq_T) (hR : zr_X7k_pair.frames + 1 ≤ R.frames ∧ 8 + (3 + 11) + zr_X7k_pair.locals ≤ R.locals) (h : zf_X7k_pair N z v1 v2 S = some res) (hP : va_P D vwCl (wd_K a cI cL cB cZ z S) H) (hD : va_D A (wd_K a cI cL cB cZ z S)) (hS : va_S A s.heap H locs) (hls : ls.size = nL) (hrest : (rest.map fun v => v.category).sum ≤ 8) (hdg : decode cc pc = .ok (.invokevirtual idx, 3)) (kk : ∀ (H1 : Heap) (locs1 : List Loc), va_P D vwCl (wd_K a cI cL cB cZ z res.2) H1 → va_D A (wd_K a cI cL cB cZ z res.2) → va_S A s.heap H1 locs1 → W p l e R s m args below meth c H1 locs1 cells slots Q (F0 m (pc + 3) ls rest)) : W p l e R s m args below meth c H locs cells slots Q (F0 m pc ls (.int (v2) :: .int (v1) :: .ref (a 0) :: rest)) := by
  obtain ⟨hx, hb, hml, hown, hts, hK, hA⟩ := C
  have hFc := mq_freeI hD hS hA
  refine va_callv (va_runV (As := [.int (v1), .int (v2)]) (rest := rest) ⟨hx, hb, hml, hown, hts⟩ (zm_X7k_pair l D a z cI cL cB cZ H.size N v1 v2 S res h) (cwV 2 hts (mq_goodL (mq_wsV hlk zt_X7k_pair_i zt_X7k_pair_s zt_ini_X7 zt_X7k_pair_c)) rfl rfl rfl (by decide +kernel) hR) ⟨fun a U g mk q => ⟨q.1, q.2.1, q.2.2.1, va_K.moved (u := U) (U := U.calling g mk a) (Vm.Alike.refl U.vm) q.2.2.2.1, q.2.2.2.2⟩, va_recv hK hP (ci := 7) (q0 := 0) rfl rfl, fun U hU hW => ⟨rfl, by rw [hU], by rw [hU]; exact hP, va_K.moved hW.alike hK, hD.weaken (fun _ _ _ _ => trivial)⟩⟩ rfl rfl hls rfl (lv_room hrest) hdg hcs) hS (fun q _ h => hFc q h) hFc (fun u t H1 locs ht hvm hw hB hz1 hk1 hS => ?_)
  subst hw
  obtain ⟨hP1, hK1, hD1⟩ := hB
  rw [ht] at hP1
  exact kk H1 locs hP1 (hD1.weaken (fun _ _ _ h => hFc _ h)) hS
theorem zt_m_X7_3 : Cond.methodLink RX7 3 objectInit ∈ mq_T := mq_T_mem (mq_t1 (List.mem_of_getElem? (i := 46) rfl)) rfl
theorem zt_c_X7_24 : Cond.classLink RX7 24 RX6 ∈ mq_T := mq_T_mem (mq_t1 (List.mem_of_getElem? (i := 47) rfl)) rfl
theorem zt_m_X7_26 : Cond.methodLink RX7 26 yX6_init ∈ mq_T := mq_T_mem (mq_t1 (List.mem_of_getElem? (i := 49) rfl)) rfl
def zr_X7_init : Room := { frames := 3, cells := 6, slots := 1241, locals := 68 }
def zc_X7_init : Cond := .code yX7_init cX7_init 1 none
theorem zt_m_X7_37 : Cond.methodLink RX7 37 yX7_pair ∈ mq_T := mq_T_mem (mq_t1 (List.mem_of_getElem? (i := 73) rfl)) rfl
/-! ModalDesk$Stock.<init>()V -/
def zf_X7_init_t (N : Nat) (z : Nat → Nat) (S : mq_St) : Option (Unit × mq_St) := (mq_cl (zf_X7k_append N z ((0 : Int32)) ((-1 : Int32)) ((-1 : Int32)) S) (fun q1v S3 => (mq_cl (zf_X7k_append N z ((1 : Int32)) ((-1 : Int32)) ((-1 : Int32)) S3) (fun q4v S6 => (mq_cl (zf_X7k_pair N z (q1v) (q4v) S6) (fun q7v S9 => (some ((), S9))))))))
set_option maxHeartbeats 4000000 in
set_option maxRecDepth 100000 in
theorem zw_X7_init_t_0 {p : Program} {l : Launch} {e : Env} {s : State} {m : MethodId} {args : Array Value} {below : List Frame} {meth : Method} {c : Code} {A : Nat → Prop} {D : va_G} {a z : Nat → Nat} {cI cL cB cZ : ClassId} {Q : State → Prop} {cells slots : Nat} {N : Nat} {res : Unit × mq_St} (C : mq_C p s m args c A D cI cL cB cZ cX7_init 1 RX7 zc_X7_init) (hcs : cells ≤ zr_X7_init.cells ∧ slots ≤ zr_X7_init.slots) (hret : ∀ (H : Heap) (locs : List Loc) (ls : Array Slot) (pc : Nat), decode cX7_init pc = .ok (.return_, 1) → va_P D vwCl (wd_K a cI cL cB cZ z res.2) H → va_D A (wd_K a cI cL cB cZ z res.2) → va_S A s.heap H locs → W p l e zr_X7_init s m args below meth c H locs cells slots Q (F0 m pc ls [])) (S : mq_St) (H : Heap) (locs : List Loc) (ls : Array Slot) (h : zf_X7_init_t N z S = some res) (hl : lv_has ls 1 [(0, .ref (a 0))]) (hP : va_P D vwCl (wd_K a cI cL cB cZ z S) H) (hD : va_D A (wd_K a cI cL cB cZ z S)) (hS : va_S A s.heap H locs) : W p l e zr_X7_init s m args below meth c H locs cells slots Q (F0 m 53 ls []) := by
  obtain ⟨hx, hb, hml, hown, hts, hK, hA⟩ := id C
  unfold zf_X7_init_t at h
  refine lv_aload_n hx hb dX7_init_53 rfl (lv_at hl 0 rfl) ?_
  refine lv_aload_n hx hb dX7_init_54 rfl (lv_at hl 0 rfl) ?_
  refine lv_iconst (v := (0 : Int32)) hx hb dX7_init_55 (by decide) ?_
  refine lv_iconst (v := (-1 : Int32)) hx hb dX7_init_56 (by decide) ?_
  refine lv_iconst (v := (-1 : Int32)) hx hb dX7_init_57 (by decide) ?_
  obtain ⟨q1, hc2, h⟩ := mq_cl_go h
  refine zK_X7k_append C hcs zt_m_X7_33 ⟨by decide, by decide⟩ hc2 hP hD hS hl.1 (Nat.le_of_ble_eq_true rfl) dX7_init_58 (fun H locs hP hD hS => ?_)
  obtain ⟨S3, eS3⟩ : ∃ y, y = q1.2 := ⟨_, rfl⟩
  rw [← eS3] at hP hD h
  refine lv_aload_n hx hb dX7_init_61 rfl (lv_at hl 0 rfl) ?_
  refine lv_iconst (v := (1 : Int32)) hx hb dX7_init_62 (by decide) ?_
  refine lv_iconst (v := (-1 : Int32)) hx hb dX7_init_63 (by decide) ?_
  refine lv_iconst (v := (-1 : Int32)) hx hb dX7_init_64 (by decide) ?_
  obtain ⟨q4, hc5, h⟩ := mq_cl_go h
  refine zK_X7k_append C hcs zt_m_X7_33 ⟨by decide, by decide⟩ hc5 hP hD hS hl.1 (Nat.le_of_ble_eq_true rfl) dX7_init_65 (fun H locs hP hD hS => ?_)
  obtain ⟨S6, eS6⟩ : ∃ y, y = q4.2 := ⟨_, rfl⟩
  rw [← eS6] at hP hD h
  obtain ⟨q7, hc8, h⟩ := mq_cl_go h
  refine zK_X7k_pair C hcs zt_m_X7_37 ⟨by decide, by decide⟩ hc8 hP hD hS hl.1 (Nat.le_of_ble_eq_true rfl) dX7_init_68 (fun H locs hP hD hS => ?_)
  obtain ⟨S9, eS9⟩ : ∃ y, y = q7.2 := ⟨_, rfl⟩
  rw [← eS9] at hP hD h
  cases h
  exact hret H locs ls 71 dX7_init_71 hP hD hS
/-! the constructor ModalDesk$Stock()V -/
set_option maxHeartbeats 8000000 in
set_option maxRecDepth 100000 in
theorem zn_X7_init (l : Launch) (D : va_G) (cI cL cB cZ : ClassId) (sz h0 : Nat) (N : Nat) (z : Nat → Nat) (S2 : mq_St) (hs : zf_X7_init_t N z mq_Z = some ((), S2)) : Met l yX7_init (zc_X7_init :: mq_T) zr_X7_init (va_Pc [.ref h0] (fun U => U.heap.size = sz ∧ va_P D vwCl [(h0, .inr (7, [.null, .null, .null, .null, .null, .int 0]))] U.heap ∧ va_K D vwCl (mq_tys cI cL cB cZ) U ∧ va_D (fun _ => True) [(h0, .inr (7, [.null, .null, .null, .null, .null, .int 0]))])) (va_Qv (fun _ : Unit => True) (fun _ t => ∃ (q1 q2 q3 q4 q5 q6 : Nat), va_P D vwCl (wd_K (mq_l [h0, q1, q2, q3, q4, q5, q6]) cI cL cB cZ z S2) t.heap ∧ va_K D vwCl (mq_tys cI cL cB cZ) t ∧ va_D (va_A [(h0, .inr (7, [.null, .null, .null, .null, .null, .int 0]))] sz) (wd_K (mq_l [h0, q1, q2, q3, q4, q5, q6]) cI cL cB cZ z S2)) (va_A [(h0, .inr (7, [.null, .null, .null, .null, .null, .int 0]))] sz)) 6 1241 (va_A [(h0, .inr (7, [.null, .null, .null, .null, .null, .int 0]))] sz) := by
  refine Met.ofW (cc := cX7_init) (maxL := 1) (ret := none) (by decide) rfl ?_
  intro p e s m args below meth c s₁ B hml hv
  obtain ⟨rfl, hsz, hP, hK, hD0⟩ := hv
  have hx := B.exec
  have hb := B.bytes
  have hr := B.returns
  have hlocks := B.notSynchronized
  have hin : meth.name = "<init>" := (name_of_methodNamed B.named B.method).1
  have hts := atoms_spec (ws := zc_X7_init :: mq_T) B.pre
  have hown : s.vm.findClass RX7 = some m.cls := findClass_of_methodNamed B.named
  subst hsz
  have hD := hD0.self (sz := s.heap.size)
  generalize hAe : va_A [(h0, .inr (7, [.null, .null, .null, .null, .null, .int 0]))] s.heap.size = A at hD ⊢
  have hA : ∀ q : Nat, s.heap.size ≤ q → A q := fun q h => by rw [← hAe]; exact Or.inr h
  have hS : va_S A s.heap s.heap [] := va_S.rf
  have hP : va_P D vwCl [(h0, .inr (7, [.null, .null, .null, .null, .null, .int 0]))] s.heap := hP
  have hl := lv_entry ([.ref h0]) (n := 1) (Nat.le_of_ble_eq_true rfl)
  rw [lg_entry_eq]
  generalize (lg_sl ([.ref h0]) ++ List.replicate (1 - (lg_sl ([.ref h0])).length) Slot.unset).toArray = ls at hl ⊢
  have hl : lv_has ls 1 [(0, .ref h0)] := hl
  refine lv_aload_n hx hb dX7_init_0 rfl (lv_at hl 0 rfl) ?_
  refine W.objInit hx hb hown (hts _ (List.mem_cons_of_mem _ zt_m_X7_3)) (hts _ (List.mem_cons_of_mem _ zt_obj_i)) (hts _ (List.mem_cons_of_mem _ zt_obj_c)) rfl (by rw [hml]; exact hl.1) rfl dX7_init_1 (Nat.le_of_ble_eq_true rfl) (Nat.le_of_ble_eq_true rfl) ?_
  refine W.eq (g2 := F0 m 4 ls []) rfl ?_
  refine lv_aload_n hx hb dX7_init_4 rfl (lv_at hl 0 rfl) ?_
  refine lv_sipush (v := (300 : Int32)) hx hb dX7_init_5 (by decide) ?_
  refine mq_newaI (N' := 300) (n := (300 : Int32)) hx hb (hts _ (List.mem_cons_of_mem _ zt_arr_I)) hK hP hD hS hA (by decide) (by decide) (by decide) (Nat.le_of_ble_eq_true rfl) (Nat.le_of_ble_eq_true rfl) dX7_init_8 (fun q1 H hP hD hS => ?_)
  have hP : va_P D vwCl [(h0, .inr (7, [.null, .null, .null, .null, .null, .int 0])), (q1, .inl (cI, 300, .inl (fun _ => 0)))] H := hP
  have hD : va_D A [(h0, .inr (7, [.null, .null, .null, .null, .null, .int 0])), (q1, .inl (cI, 300, .inl (fun _ => 0)))] := hD
  refine va_putF (D := D) (ci := 7) (v := .ref q1) (ty := (.array .int)) (C := RX7) (T := TX7) (N := 6) hx hb hts (zi_X7 _) tyX7 tyX7_ok nmX7 hown hK hP hD hS 0 rfl rfl 0 (by decide) (hts _ (List.mem_cons_of_mem _ zt_f_X7_9)) (fun _ h9 => h9) rfl hin rfl (by decide +kernel) rfl rfl (Nat.le_of_ble_eq_true rfl) dX7_init_10 (fun H locs hP hD hS => ?_)
  have hP : va_P D vwCl [(h0, .inr (7, [.ref q1, .null, .null, .null, .null, .int 0])), (q1, .inl (cI, 300, .inl (fun _ => 0)))] H := hP
  have hD : va_D A [(h0, .inr (7, [.ref q1, .null, .null, .null, .null, .int 0])), (q1, .inl (cI, 300, .inl (fun _ => 0)))] := hD
  refine lv_aload_n hx hb dX7_init_13 rfl (lv_at hl 0 rfl) ?_
  refine lv_sipush (v := (300 : Int32)) hx hb dX7_init_14 (by decide) ?_
  refine mq_newaI (N' := 300) (n := (300 : Int32)) hx hb (hts _ (List.mem_cons_of_mem _ zt_arr_I)) hK hP hD hS hA (by decide) (by decide) (by decide) (Nat.le_of_ble_eq_true rfl) (Nat.le_of_ble_eq_true rfl) dX7_init_17 (fun q2 H hP hD hS => ?_)
  have hP : va_P D vwCl [(h0, .inr (7, [.ref q1, .null, .null, .null, .null, .int 0])), (q1, .inl (cI, 300, .inl (fun _ => 0))), (q2, .inl (cI, 300, .inl (fun _ => 0)))] H := hP
  have hD : va_D A [(h0, .inr (7, [.ref q1, .null, .null, .null, .null, .int 0])), (q1, .inl (cI, 300, .inl (fun _ => 0))), (q2, .inl (cI, 300, .inl (fun _ => 0)))] := hD
  refine va_putF (D := D) (ci := 7) (v := .ref q2) (ty := (.array .int)) (C := RX7) (T := TX7) (N := 6) hx hb hts (zi_X7 _) tyX7 tyX7_ok nmX7 hown hK hP hD hS 0 rfl rfl 1 (by decide) (hts _ (List.mem_cons_of_mem _ zt_f_X7_15)) (fun _ h9 => h9) rfl hin rfl (by decide +kernel) rfl rfl (Nat.le_of_ble_eq_true rfl) dX7_init_19 (fun H locs hP hD hS => ?_)
  have hP : va_P D vwCl [(h0, .inr (7, [.ref q1, .ref q2, .null, .null, .null, .int 0])), (q1, .inl (cI, 300, .inl (fun _ => 0))), (q2, .inl (cI, 300, .inl (fun _ => 0)))] H := hP
  have hD : va_D A [(h0, .inr (7, [.ref q1, .ref q2, .null, .null, .null, .int 0])), (q1, .inl (cI, 300, .inl (fun _ => 0))), (q2, .inl (cI, 300, .inl (fun _ => 0)))] := hD
  refine lv_aload_n hx hb dX7_init_22 rfl (lv_at hl 0 rfl) ?_
  refine lv_sipush (v := (300 : Int32)) hx hb dX7_init_23 (by decide) ?_
  refine mq_newaI (N' := 300) (n := (300 : Int32)) hx hb (hts _ (List.mem_cons_of_mem _ zt_arr_I)) hK hP hD hS hA (by decide) (by decide) (by decide) (Nat.le_of_ble_eq_true rfl) (Nat.le_of_ble_eq_true rfl) dX7_init_26 (fun q3 H hP hD hS => ?_)
  have hP : va_P D vwCl [(h0, .inr (7, [.ref q1, .ref q2, .null, .null, .null, .int 0])), (q1, .inl (cI, 300, .inl (fun _ => 0))), (q2, .inl (cI, 300, .inl (fun _ => 0))), (q3, .inl (cI, 300, .inl (fun _ => 0)))] H := hP
  have hD : va_D A [(h0, .inr (7, [.ref q1, .ref q2, .null, .null, .null, .int 0])), (q1, .inl (cI, 300, .inl (fun _ => 0))), (q2, .inl (cI, 300, .inl (fun _ => 0))), (q3, .inl (cI, 300, .inl (fun _ => 0)))] := hD
  refine va_putF (D := D) (ci := 7) (v := .ref q3) (ty := (.array .int)) (C := RX7) (T := TX7) (N := 6) hx hb hts (zi_X7 _) tyX7 tyX7_ok nmX7 hown hK hP hD hS 0 rfl rfl 2 (by decide) (hts _ (List.mem_cons_of_mem _ zt_f_X7_18)) (fun _ h9 => h9) rfl hin rfl (by decide +kernel) rfl rfl (Nat.le_of_ble_eq_true rfl) dX7_init_28 (fun H locs hP hD hS => ?_)
  have hP : va_P D vwCl [(h0, .inr (7, [.ref q1, .ref q2, .ref q3, .null, .null, .int 0])), (q1, .inl (cI, 300, .inl (fun _ => 0))), (q2, .inl (cI, 300, .inl (fun _ => 0))), (q3, .inl (cI, 300, .inl (fun _ => 0)))] H := hP
  have hD : va_D A [(h0, .inr (7, [.ref q1, .ref q2, .ref q3, .null, .null, .int 0])), (q1, .inl (cI, 300, .inl (fun _ => 0))), (q2, .inl (cI, 300, .inl (fun _ => 0))), (q3, .inl (cI, 300, .inl (fun _ => 0)))] := hD
  refine lv_aload_n hx hb dX7_init_31 rfl (lv_at hl 0 rfl) ?_
  refine lv_sipush (v := (300 : Int32)) hx hb dX7_init_32 (by decide) ?_
  refine mq_newaI (N' := 300) (n := (300 : Int32)) hx hb (hts _ (List.mem_cons_of_mem _ zt_arr_I)) hK hP hD hS hA (by decide) (by decide) (by decide) (Nat.le_of_ble_eq_true rfl) (Nat.le_of_ble_eq_true rfl) dX7_init_35 (fun q4 H hP hD hS => ?_)
  have hP : va_P D vwCl [(h0, .inr (7, [.ref q1, .ref q2, .ref q3, .null, .null, .int 0])), (q1, .inl (cI, 300, .inl (fun _ => 0))), (q2, .inl (cI, 300, .inl (fun _ => 0))), (q3, .inl (cI, 300, .inl (fun _ => 0))), (q4, .inl (cI, 300, .inl (fun _ => 0)))] H := hP
  have hD : va_D A [(h0, .inr (7, [.ref q1, .ref q2, .ref q3, .null, .null, .int 0])), (q1, .inl (cI, 300, .inl (fun _ => 0))), (q2, .inl (cI, 300, .inl (fun _ => 0))), (q3, .inl (cI, 300, .inl (fun _ => 0))), (q4, .inl (cI, 300, .inl (fun _ => 0)))] := hD
  refine va_putF (D := D) (ci := 7) (v := .ref q4) (ty := (.array .int)) (C := RX7) (T := TX7) (N := 6) hx hb hts (zi_X7 _) tyX7 tyX7_ok nmX7 hown hK hP hD hS 0 rfl rfl 3 (by decide) (hts _ (List.mem_cons_of_mem _ zt_f_X7_21)) (fun _ h9 => h9) rfl hin rfl (by decide +kernel) rfl rfl (Nat.le_of_ble_eq_true rfl) dX7_init_37 (fun H locs hP hD hS => ?_)
  have hP : va_P D vwCl [(h0, .inr (7, [.ref q1, .ref q2, .ref q3, .ref q4, .null, .int 0])), (q1, .inl (cI, 300, .inl (fun _ => 0))), (q2, .inl (cI, 300, .inl (fun _ => 0))), (q3, .inl (cI, 300, .inl (fun _ => 0))), (q4, .inl (cI, 300, .inl (fun _ => 0)))] H := hP
  have hD : va_D A [(h0, .inr (7, [.ref q1, .ref q2, .ref q3, .ref q4, .null, .int 0])), (q1, .inl (cI, 300, .inl (fun _ => 0))), (q2, .inl (cI, 300, .inl (fun _ => 0))), (q3, .inl (cI, 300, .inl (fun _ => 0))), (q4, .inl (cI, 300, .inl (fun _ => 0)))] := hD
  refine lv_aload_n hx hb dX7_init_40 rfl (lv_at hl 0 rfl) ?_
  refine va_new (ci := 6) (fs := [.null]) (C := RX6) (T := TX6) (N := 1) hx hb hts (zi_X6 _) tyX6 tyX6_ok hown (hts _ (List.mem_cons_of_mem _ zt_c_X7_24)) (hts _ (List.mem_cons_of_mem _ zt_inst_X6)) (hts _ (List.mem_cons_of_mem _ zt_ini_X6)) hK hP hD hS hA rfl (by decide +kernel) (Nat.le_of_ble_eq_true rfl) (Nat.le_of_ble_eq_true rfl) dX7_init_41 (fun q5 H hP hD hS => ?_)
  have hP : va_P D vwCl [(h0, .inr (7, [.ref q1, .ref q2, .ref q3, .ref q4, .null, .int 0])), (q1, .inl (cI, 300, .inl (fun _ => 0))), (q2, .inl (cI, 300, .inl (fun _ => 0))), (q3, .inl (cI, 300, .inl (fun _ => 0))), (q4, .inl (cI, 300, .inl (fun _ => 0))), (q5, .inr (6, [.null]))] H := hP
  have hD : va_D A [(h0, .inr (7, [.ref q1, .ref q2, .ref q3, .ref q4, .null, .int 0])), (q1, .inl (cI, 300, .inl (fun _ => 0))), (q2, .inl (cI, 300, .inl (fun _ => 0))), (q3, .inl (cI, 300, .inl (fun _ => 0))), (q4, .inl (cI, 300, .inl (fun _ => 0))), (q5, .inr (6, [.null]))] := hD
  refine lv_dup hx hb dX7_init_44 rfl ?_
  refine lv_bipush (v := (8 : Int32)) hx hb dX7_init_45 (by decide) ?_
  have hPc := hP.sub (ws' := [(q5, .inr (6, [.null]))]) [5] rfl
  have hDc := hD.sub (ws' := [(q5, .inr (6, [.null]))]) [5] (by decide) rfl
  have hFc := va_free (wc := [(q5, .inr (6, [.null]))]) hD hS hA [5] rfl
  refine va_callv (va_runI (As := [.int ((8 : Int32))]) (rest := [.ref q5, .ref h0]) ⟨hx, hb, hml, hown, hts⟩ (zn_X6_init l D cI cL cB cZ H.size q5 (8 : Int32) 40 (by decide) (by decide) (by decide)) (cwI 1 hts (mq_goodL (c1 := zc_X7_init) (ws := zc_X6_init :: mq_T) (fun w hw => (List.mem_cons.mp hw).elim (fun e => e ▸ zt_X6_init_c) id)) rfl rfl rfl (hts _ (List.mem_cons_of_mem _ zt_ini_X6)) (hts _ (List.mem_cons_of_mem _ zt_m_X7_26)) (hts _ (List.mem_cons_of_mem _ zt_X6_init_i)) rfl (by decide +kernel) ⟨Nat.le_of_ble_eq_true rfl, Nat.le_of_ble_eq_true rfl⟩) ⟨fun a U g mk q => ⟨q.1, q.2.1, q.2.2.1, va_K.moved (u := U) (U := U.calling g mk a) (Vm.Alike.refl U.vm) q.2.2.2.1, q.2.2.2.2⟩, fun U hU hW => ⟨rfl, by rw [hU], by rw [hU]; exact hPc, va_K.moved hW.alike hK, hDc.weaken (fun _ _ _ _ => trivial)⟩⟩ rfl rfl hl.1 rfl (lv_room (Nat.le_of_ble_eq_true rfl)) dX7_init_47 ⟨Nat.le_of_ble_eq_true rfl, Nat.le_of_ble_eq_true rfl⟩) hS (fun q _ h => hFc q h) hFc (fun u t H1 locs ht hvm hw hB hz1 hk1 hS => ?_)
  obtain ⟨q6, hP1, hK1, hD1⟩ := hB
  rw [ht] at hP1
  obtain ⟨hP, hD⟩ := va_join (wr := [(h0, .inr (7, [.ref q1, .ref q2, .ref q3, .ref q4, .null, .int 0])), (q1, .inl (cI, 300, .inl (fun _ => 0))), (q2, .inl (cI, 300, .inl (fun _ => 0))), (q3, .inl (cI, 300, .inl (fun _ => 0))), (q4, .inl (cI, 300, .inl (fun _ => 0)))]) (w1 := [(q5, .inr (6, [.ref q6])), (q6, .inl (cL, 40, .inr (.inl (fun _ => 0))))]) hP hD [5] [0, 1, 2, 3, 4] rfl rfl (by decide) (by decide) hk1 hFc hP1 hD1
  generalize H1 = H at hP hS ⊢
  have hP : va_P D vwCl [(h0, .inr (7, [.ref q1, .ref q2, .ref q3, .ref q4, .null, .int 0])), (q1, .inl (cI, 300, .inl (fun _ => 0))), (q2, .inl (cI, 300, .inl (fun _ => 0))), (q3, .inl (cI, 300, .inl (fun _ => 0))), (q4, .inl (cI, 300, .inl (fun _ => 0))), (q5, .inr (6, [.ref q6])), (q6, .inl (cL, 40, .inr (.inl (fun _ => 0))))] H := hP
  have hD : va_D A [(h0, .inr (7, [.ref q1, .ref q2, .ref q3, .ref q4, .null, .int 0])), (q1, .inl (cI, 300, .inl (fun _ => 0))), (q2, .inl (cI, 300, .inl (fun _ => 0))), (q3, .inl (cI, 300, .inl (fun _ => 0))), (q4, .inl (cI, 300, .inl (fun _ => 0))), (q5, .inr (6, [.ref q6])), (q6, .inl (cL, 40, .inr (.inl (fun _ => 0))))] := hD
  refine va_putF (D := D) (ci := 7) (v := .ref q5) (ty := (.object "ModalDesk$Sets")) (C := RX7) (T := TX7) (N := 6) hx hb hts (zi_X7 _) tyX7 tyX7_ok nmX7 hown hK hP hD hS 0 rfl rfl 4 (by decide) (hts _ (List.mem_cons_of_mem _ zt_f_X7_29)) (fun _ h9 => h9) rfl hin rfl (by decide +kernel) rfl rfl (Nat.le_of_ble_eq_true rfl) dX7_init_50 (fun H locs hP hD hS => ?_)
  have hP : va_P D vwCl [(h0, .inr (7, [.ref q1, .ref q2, .ref q3, .ref q4, .ref q5, .int 0])), (q1, .inl (cI, 300, .inl (fun _ => 0))), (q2, .inl (cI, 300, .inl (fun _ => 0))), (q3, .inl (cI, 300, .inl (fun _ => 0))), (q4, .inl (cI, 300, .inl (fun _ => 0))), (q5, .inr (6, [.ref q6])), (q6, .inl (cL, 40, .inr (.inl (fun _ => 0))))] H := hP
  have hD : va_D A [(h0, .inr (7, [.ref q1, .ref q2, .ref q3, .ref q4, .ref q5, .int 0])), (q1, .inl (cI, 300, .inl (fun _ => 0))), (q2, .inl (cI, 300, .inl (fun _ => 0))), (q3, .inl (cI, 300, .inl (fun _ => 0))), (q4, .inl (cI, 300, .inl (fun _ => 0))), (q5, .inr (6, [.ref q6])), (q6, .inl (cL, 40, .inr (.inl (fun _ => 0))))] := hD
  have hP : va_P D vwCl (wd_K (mq_l [h0, q1, q2, q3, q4, q5, q6]) cI cL cB cZ z mq_Z) H := hP.sub [0, 1, 2, 3, 4, 5, 6] rfl
  have hD : va_D A (wd_K (mq_l [h0, q1, q2, q3, q4, q5, q6]) cI cL cB cZ z mq_Z) := hD.sub [0, 1, 2, 3, 4, 5, 6] (by decide) rfl
  refine zw_X7_init_t_0 (a := (mq_l [h0, q1, q2, q3, q4, q5, q6])) ⟨hx, hb, hml, hown, hts, hK, hA⟩ ⟨Nat.le_of_ble_eq_true rfl, Nat.le_of_ble_eq_true rfl⟩ (fun H locs ls pc dg hP hD hS => ?_) mq_Z H locs ls hs (lv_sub hl [0] rfl) hP hD hS
  exact W.vret hx hb hr (fun t ht hW => ⟨⟨(), rfl, trivial, q1, q2, q3, q4, q5, q6, by rw [ht]; exact hP, va_K.moved hW.alike hK, hD⟩, hS.F ht⟩) hS.2.2 dg
