theorem zt_f_X2_31 : Cond.fieldLink RX2 31 "ModalDesk$Draft" "size" "I" ∈ mq_T := mq_T_mem (mq_t1 (List.mem_of_getElem? (i := 112) rfl)) rfl
theorem zi_X2 (c1 : Cond) : ∀ w ∈ u_ws RX2 TX2 8, w ∈ c1 :: mq_T := fun w h => List.mem_cons_of_mem _ (mq_T_mem (mq_inl [(1, 114), (1, 116), (1, 118), (1, 120), (1, 122), (1, 124), (1, 126), (1, 128)] (by decide +kernel) w h) ((by decide +kernel : ∀ w ∈ u_ws RX2 TX2 8, goodWord w = true) w h))
theorem zs_wd_C_i_14_3 (a z : Nat → Nat) (cI cL cB cZ : ClassId) (S : mq_St) (v : Int32) : (wd_C a cI cL cB cZ z S).set 14 (a 14, .inr (2, ([.ref (a 7), .ref (a 15), .ref (a 16), .ref (a 17), .ref (a 18), .ref (a 19), .int (S.1 3), .int (S.1 4)] : List Value).set 6 (.int v))) = (wd_C a cI cL cB cZ z (mq_si S 3 v)) := rfl
theorem zt_f_X2_11 : Cond.fieldLink RX2 11 "ModalDesk$Draft" "sorts" "[I" ∈ mq_T := mq_T_mem (mq_t1 (List.mem_of_getElem? (i := 107) rfl)) rfl
theorem zs_wd_C_a_15_8 (a z : Nat → Nat) (cI cL cB cZ : ClassId) (S : mq_St) (f : Nat → Int32) : (wd_C a cI cL cB cZ z S).set 15 (a 15, .inl (cI, 150, .inl f)) = (wd_C a cI cL cB cZ z (mq_sa S 8 f)) := rfl
theorem zt_f_X2_15 : Cond.fieldLink RX2 15 "ModalDesk$Draft" "firsts" "[I" ∈ mq_T := mq_T_mem (mq_t1 (List.mem_of_getElem? (i := 108) rfl)) rfl
theorem zs_wd_C_a_16_9 (a z : Nat → Nat) (cI cL cB cZ : ClassId) (S : mq_St) (f : Nat → Int32) : (wd_C a cI cL cB cZ z S).set 16 (a 16, .inl (cI, 150, .inl f)) = (wd_C a cI cL cB cZ z (mq_sa S 9 f)) := rfl
theorem zt_f_X2_18 : Cond.fieldLink RX2 18 "ModalDesk$Draft" "seconds" "[I" ∈ mq_T := mq_T_mem (mq_t1 (List.mem_of_getElem? (i := 109) rfl)) rfl
theorem zs_wd_C_a_17_10 (a z : Nat → Nat) (cI cL cB cZ : ClassId) (S : mq_St) (f : Nat → Int32) : (wd_C a cI cL cB cZ z S).set 17 (a 17, .inl (cI, 150, .inl f)) = (wd_C a cI cL cB cZ z (mq_sa S 10 f)) := rfl
theorem zt_f_X2_21 : Cond.fieldLink RX2 21 "ModalDesk$Draft" "numbers" "[I" ∈ mq_T := mq_T_mem (mq_t1 (List.mem_of_getElem? (i := 110) rfl)) rfl
theorem zs_wd_C_a_18_11 (a z : Nat → Nat) (cI cL cB cZ : ClassId) (S : mq_St) (f : Nat → Int32) : (wd_C a cI cL cB cZ z S).set 18 (a 18, .inl (cI, 300, .inl f)) = (wd_C a cI cL cB cZ z (mq_sa S 11 f)) := rfl
theorem zt_f_X2_35 : Cond.fieldLink RX2 35 "ModalDesk$Draft" "over" "Z" ∈ mq_T := mq_T_mem (mq_t1 (List.mem_of_getElem? (i := 113) rfl)) rfl
theorem zs_wd_C_i_14_4 (a z : Nat → Nat) (cI cL cB cZ : ClassId) (S : mq_St) (v : Int32) : (wd_C a cI cL cB cZ z S).set 14 (a 14, .inr (2, ([.ref (a 7), .ref (a 15), .ref (a 16), .ref (a 17), .ref (a 18), .ref (a 19), .int (S.1 3), .int (S.1 4)] : List Value).set 7 (.int v))) = (wd_C a cI cL cB cZ z (mq_si S 4 v)) := rfl
/-! ModalDesk$Draft.node(III)I -/
def zr_X2_node : Room := { frames := 0, cells := 0, slots := 0, locals := 0 }
def zc_X2_node : Cond := .code yX2_node cX2_node 5 (some .int)
def zf_X2_node_50 (N : Nat) (z : Nat → Nat) (k3 : Int32 → Int32 → Int32 → Int32 → mq_St → Option (Int32 × mq_St)) (v1 : Int32) (v2 : Int32) (v3 : Int32) (v4 : Int32) (S : mq_St) : Option (Int32 × mq_St) := (mq_nI (v4 + (1 : Int32)) (fun x24 => (k3 (v1) (v2) (v3) (x24) S)))
def zf_X2_node_3b (N : Nat) (z : Nat → Nat) (k3 : Int32 → Int32 → Int32 → Int32 → mq_St → Option (Int32 × mq_St)) (v1 : Int32) (v2 : Int32) (v3 : Int32) (v4 : Int32) (S : mq_St) : Option (Int32 × mq_St) := (if (S.1 3) ≤ v4 then (if (S.1 3) < (150 : Int32) then (mq_nI ((S.1 3)) (fun x2 => (mq_nS (mq_si S 3 (((S.1 3) + (1 : Int32)))) (fun S3 => (mq_ck (x2) 150 (mq_nS (mq_sa S3 8 (upd (S3.2.1 8) (x2).toNatClampNeg (v1))) (fun S5 => (mq_ck (x2) 150 (mq_nS (mq_sa S5 9 (upd (S5.2.1 9) (x2).toNatClampNeg (v2))) (fun S7 => (mq_ck (x2) 150 (mq_nS (mq_sa S7 10 (upd (S7.2.1 10) (x2).toNatClampNeg (v3))) (fun S9 => (mq_ck (((2 : Int32) * x2)) 300 (mq_nS (mq_sa S9 11 (upd (S9.2.1 11) (((2 : Int32) * x2)).toNatClampNeg ((-1 : Int32)))) (fun S11 => (mq_ck ((((2 : Int32) * x2) + (1 : Int32))) 300 (mq_nS (mq_sa S11 11 (upd (S11.2.1 11) ((((2 : Int32) * x2) + (1 : Int32))).toNatClampNeg ((-1 : Int32)))) (fun S13 => (some (((2 : Int32) * x2), S13))))))))))))))))))))) else (mq_cz ((1 : Int32)) (mq_nS (mq_si S 4 ((1 : Int32))) (fun S14 => (some ((0 : Int32), S14)))))) else (mq_ck (v4) 150 (if (S.2.1 8 (v4).toNatClampNeg) = v1 then (mq_ck (v4) 150 (if (S.2.1 9 (v4).toNatClampNeg) = v2 then (mq_ck (v4) 150 (if (S.2.1 10 (v4).toNatClampNeg) = v3 then (some (((2 : Int32) * v4), S)) else (zf_X2_node_50 N z k3 (v1) (v2) (v3) (v4) S))) else (zf_X2_node_50 N z k3 (v1) (v2) (v3) (v4) S))) else (zf_X2_node_50 N z k3 (v1) (v2) (v3) (v4) S))))
def zf_X2_node_3 (N : Nat) (z : Nat → Nat) : Nat → Int32 → Int32 → Int32 → Int32 → mq_St → Option (Int32 × mq_St)
  | 0, _, _, _, _, _ => none
  | n + 1, v1, v2, v3, v4, S => zf_X2_node_3b N z (fun v1 v2 v3 v4 S => zf_X2_node_3 N z n v1 v2 v3 v4 S) v1 v2 v3 v4 S
def zf_X2_node (N : Nat) (z : Nat → Nat) (v1 : Int32) (v2 : Int32) (v3 : Int32) (S : mq_St) : Option (Int32 × mq_St) := (mq_nI ((0 : Int32)) (fun x1 => (zf_X2_node_3 N z N (v1) (v2) (v3) (x1) S)))
set_option maxHeartbeats 4000000 in
set_option maxRecDepth 100000 in
theorem zw_X2_node_50 {p : Program} {l : Launch} {e : Env} {s : State} {m : MethodId} {args : Array Value} {below : List Frame} {meth : Method} {c : Code} {A : Nat → Prop} {D : va_G} {a z : Nat → Nat} {cI cL cB cZ : ClassId} {Q : State → Prop} {N : Nat} {res : Int32 × mq_St} {k3 : Int32 → Int32 → Int32 → Int32 → mq_St → Option (Int32 × mq_St)} (C : mq_C p s m args c A D cI cL cB cZ cX2_node 5 RX2 zc_X2_node) (hret : ∀ (H : Heap) (locs : List Loc) (ls : Array Slot) (pc : Nat), decode cX2_node pc = .ok (.ireturn, 1) → va_P D vwCl (wd_C a cI cL cB cZ z res.2) H → va_D A (wd_C a cI cL cB cZ z res.2) → va_S A s.heap H locs → W p l e zr_X2_node s m args below meth c H locs 0 0 Q (F0 m pc ls [.int res.1])) (hk3 : ∀ (v1 : Int32) (v2 : Int32) (v3 : Int32) (v4 : Int32) (S : mq_St) (H : Heap) (locs : List Loc) (ls : Array Slot), k3 v1 v2 v3 v4 S = some res → lv_has ls 5 [(0, .ref (a 14)), (1, .int (v1)), (2, .int (v2)), (3, .int (v3)), (4, .int (v4))] → va_P D vwCl (wd_C a cI cL cB cZ z S) H → va_D A (wd_C a cI cL cB cZ z S) → va_S A s.heap H locs → W p l e zr_X2_node s m args below meth c H locs 0 0 Q (F0 m 3 ls [])) (v1 : Int32) (v2 : Int32) (v3 : Int32) (v4 : Int32) (S : mq_St) (H : Heap) (locs : List Loc) (ls : Array Slot) (h : zf_X2_node_50 N z k3 v1 v2 v3 v4 S = some res) (hl : lv_has ls 5 [(0, .ref (a 14)), (1, .int (v1)), (2, .int (v2)), (3, .int (v3)), (4, .int (v4))]) (hP : va_P D vwCl (wd_C a cI cL cB cZ z S) H) (hD : va_D A (wd_C a cI cL cB cZ z S)) (hS : va_S A s.heap H locs) : W p l e zr_X2_node s m args below meth c H locs 0 0 Q (F0 m 50 ls []) := by
  obtain ⟨hx, hb, hml, hown, hts, hK, hA⟩ := id C
  unfold zf_X2_node_50 at h
  obtain ⟨x24, ex24⟩ : ∃ y : Int32, y = v4 + (1 : Int32) := ⟨_, rfl⟩
  replace h := mq_nI_go ex24 h
  refine lv_iinc (v := x24) (lv' := [(4, .int (x24)), (0, .ref (a 14)), (1, .int (v1)), (2, .int (v2)), (3, .int (v3))]) hx hb dX2_node_50 hl (k := 4) rfl (by rw [ex24]; rfl) (by decide) rfl (fun ls hl => ?_)
  refine lv_goto (tgt := 3) hx hb dX2_node_53 (by decide) ?_
  exact hk3 (v1) (v2) (v3) (x24) S H locs ls h (lv_sub hl [1, 2, 3, 4, 0] rfl) hP hD hS
set_option maxHeartbeats 4000000 in
set_option maxRecDepth 100000 in
theorem zw_X2_node_3b {p : Program} {l : Launch} {e : Env} {s : State} {m : MethodId} {args : Array Value} {below : List Frame} {meth : Method} {c : Code} {A : Nat → Prop} {D : va_G} {a z : Nat → Nat} {cI cL cB cZ : ClassId} {Q : State → Prop} {N : Nat} {res : Int32 × mq_St} {k3 : Int32 → Int32 → Int32 → Int32 → mq_St → Option (Int32 × mq_St)} (C : mq_C p s m args c A D cI cL cB cZ cX2_node 5 RX2 zc_X2_node) (hret : ∀ (H : Heap) (locs : List Loc) (ls : Array Slot) (pc : Nat), decode cX2_node pc = .ok (.ireturn, 1) → va_P D vwCl (wd_C a cI cL cB cZ z res.2) H → va_D A (wd_C a cI cL cB cZ z res.2) → va_S A s.heap H locs → W p l e zr_X2_node s m args below meth c H locs 0 0 Q (F0 m pc ls [.int res.1])) (hk3 : ∀ (v1 : Int32) (v2 : Int32) (v3 : Int32) (v4 : Int32) (S : mq_St) (H : Heap) (locs : List Loc) (ls : Array Slot), k3 v1 v2 v3 v4 S = some res → lv_has ls 5 [(0, .ref (a 14)), (1, .int (v1)), (2, .int (v2)), (3, .int (v3)), (4, .int (v4))] → va_P D vwCl (wd_C a cI cL cB cZ z S) H → va_D A (wd_C a cI cL cB cZ z S) → va_S A s.heap H locs → W p l e zr_X2_node s m args below meth c H locs 0 0 Q (F0 m 3 ls [])) (v1 : Int32) (v2 : Int32) (v3 : Int32) (v4 : Int32) (S : mq_St) (H : Heap) (locs : List Loc) (ls : Array Slot) (h : zf_X2_node_3b N z k3 v1 v2 v3 v4 S = some res) (hl : lv_has ls 5 [(0, .ref (a 14)), (1, .int (v1)), (2, .int (v2)), (3, .int (v3)), (4, .int (v4))]) (hP : va_P D vwCl (wd_C a cI cL cB cZ z S) H) (hD : va_D A (wd_C a cI cL cB cZ z S)) (hS : va_S A s.heap H locs) : W p l e zr_X2_node s m args below meth c H locs 0 0 Q (F0 m 3 ls []) := by
  obtain ⟨hx, hb, hml, hown, hts, hK, hA⟩ := id C
  unfold zf_X2_node_3b at h
  refine lv_iload hx hb dX2_node_3 (lv_at hl 4 rfl) ?_
  refine lv_aload_n hx hb dX2_node_5 rfl (lv_at hl 0 rfl) ?_
  refine va_get (D := D) (ci := 2) (v := .int ((S.1 3))) (C := RX2) (T := TX2) (N := 8) hx hb hts (zi_X2 _) hown hK hP 14 rfl rfl 6 (by decide) (hts _ (List.mem_cons_of_mem _ zt_f_X2_31)) (fun _ h9 => h9) rfl dX2_node_6 ?_
  refine lv_icmp_ge (tgt := 56) hx hb dX2_node_9 (by decide) (fun c23 => ?_) (fun c23 => ?_)
  · replace h := mq_it c23 h
    refine lv_aload_n hx hb dX2_node_56 rfl (lv_at hl 0 rfl) ?_
    refine va_get (D := D) (ci := 2) (v := .int ((S.1 3))) (C := RX2) (T := TX2) (N := 8) hx hb hts (zi_X2 _) hown hK hP 14 rfl rfl 6 (by decide) (hts _ (List.mem_cons_of_mem _ zt_f_X2_31)) (fun _ h9 => h9) rfl dX2_node_57 ?_
    refine lv_sipush (v := (150 : Int32)) hx hb dX2_node_60 (by decide) ?_
    refine lv_icmp_lt (tgt := 73) hx hb dX2_node_63 (by decide) (fun c16 => ?_) (fun c16 => ?_)
    · replace h := mq_it c16 h
      refine lv_aload_n hx hb dX2_node_73 rfl (lv_at hl 0 rfl) ?_
      refine va_get (D := D) (ci := 2) (v := .int ((S.1 3))) (C := RX2) (T := TX2) (N := 8) hx hb hts (zi_X2 _) hown hK hP 14 rfl rfl 6 (by decide) (hts _ (List.mem_cons_of_mem _ zt_f_X2_31)) (fun _ h9 => h9) rfl dX2_node_74 ?_
      refine lv_topi (fun x2 ex2 => ?_)
      replace h := mq_nI_go ex2 h
      refine lv_istore (lv' := [(4, .int (x2)), (0, .ref (a 14)), (1, .int (v1)), (2, .int (v2)), (3, .int (v3))]) hx hb dX2_node_77 hl (by decide) rfl (fun ls hl => ?_)
      refine lv_aload_n hx hb dX2_node_79 rfl (lv_at hl 1 rfl) ?_
      refine lv_dup hx hb dX2_node_80 rfl ?_
      refine va_get (D := D) (ci := 2) (v := .int ((S.1 3))) (C := RX2) (T := TX2) (N := 8) hx hb hts (zi_X2 _) hown hK hP 14 rfl rfl 6 (by decide) (hts _ (List.mem_cons_of_mem _ zt_f_X2_31)) (fun _ h9 => h9) rfl dX2_node_81 ?_
      refine lv_iconst (v := (1 : Int32)) hx hb dX2_node_84 (by decide) ?_
      refine lv_iadd hx hb dX2_node_85 ?_
      refine mq_put (w := wd_C a cI cL cB cZ z) (S := S) (D := D) (ci := 2) (v := ((S.1 3) + (1 : Int32))) (ty := .int) (C := RX2) (T := TX2) (N := 8) hx hb hts (zi_X2 _) tyX2 tyX2_ok nmX2 hown hK hP hD hS 14 rfl rfl 6 (by decide) (hts _ (List.mem_cons_of_mem _ zt_f_X2_31)) (fun _ h9 => h9) rfl (by decide +kernel) rfl rfl (Nat.le_of_ble_eq_true rfl) dX2_node_86 3 (zs_wd_C_i_14_3 _ _ _ _ _ _ _ _) (fun S3 eS3 H locs hP hD hS => ?_)
      replace h := mq_nS_go eS3 h
      refine lv_aload_n hx hb dX2_node_89 rfl (lv_at hl 1 rfl) ?_
      refine va_get (D := D) (ci := 2) (v := .ref (a 15)) (C := RX2) (T := TX2) (N := 8) hx hb hts (zi_X2 _) hown hK hP 14 rfl rfl 1 (by decide) (hts _ (List.mem_cons_of_mem _ zt_f_X2_11)) (fun _ h9 => h9) rfl dX2_node_90 ?_
      refine lv_iload hx hb dX2_node_93 (lv_at hl 0 rfl) ?_
      refine lv_iload_n hx hb dX2_node_95 rfl (lv_at hl 2 rfl) ?_
      have hi4 := mq_ck_in h
      replace h := mq_ck_go h
      refine mq_iast (w := wd_C a cI cL cB cZ z) (S := S3) (f := S3.2.1 8) hx hb hK hP hD hS 15 0 rfl rfl hi4 dX2_node_96 8 (zs_wd_C_a_15_8 _ _ _ _ _ _ _ _) (fun S5 eS5 H locs hP hD hS => ?_)
      replace h := mq_nS_go eS5 h
      refine lv_aload_n hx hb dX2_node_97 rfl (lv_at hl 1 rfl) ?_
      refine va_get (D := D) (ci := 2) (v := .ref (a 16)) (C := RX2) (T := TX2) (N := 8) hx hb hts (zi_X2 _) hown hK hP 14 rfl rfl 2 (by decide) (hts _ (List.mem_cons_of_mem _ zt_f_X2_15)) (fun _ h9 => h9) rfl dX2_node_98 ?_
      refine lv_iload hx hb dX2_node_101 (lv_at hl 0 rfl) ?_
      refine lv_iload_n hx hb dX2_node_103 rfl (lv_at hl 3 rfl) ?_
      have hi6 := mq_ck_in h
      replace h := mq_ck_go h
      refine mq_iast (w := wd_C a cI cL cB cZ z) (S := S5) (f := S5.2.1 9) hx hb hK hP hD hS 16 0 rfl rfl hi6 dX2_node_104 9 (zs_wd_C_a_16_9 _ _ _ _ _ _ _ _) (fun S7 eS7 H locs hP hD hS => ?_)
      replace h := mq_nS_go eS7 h
      refine lv_aload_n hx hb dX2_node_105 rfl (lv_at hl 1 rfl) ?_
      refine va_get (D := D) (ci := 2) (v := .ref (a 17)) (C := RX2) (T := TX2) (N := 8) hx hb hts (zi_X2 _) hown hK hP 14 rfl rfl 3 (by decide) (hts _ (List.mem_cons_of_mem _ zt_f_X2_18)) (fun _ h9 => h9) rfl dX2_node_106 ?_
      refine lv_iload hx hb dX2_node_109 (lv_at hl 0 rfl) ?_
      refine lv_iload_n hx hb dX2_node_111 rfl (lv_at hl 4 rfl) ?_
      have hi8 := mq_ck_in h
      replace h := mq_ck_go h
      refine mq_iast (w := wd_C a cI cL cB cZ z) (S := S7) (f := S7.2.1 10) hx hb hK hP hD hS 17 0 rfl rfl hi8 dX2_node_112 10 (zs_wd_C_a_17_10 _ _ _ _ _ _ _ _) (fun S9 eS9 H locs hP hD hS => ?_)
      replace h := mq_nS_go eS9 h
      refine lv_aload_n hx hb dX2_node_113 rfl (lv_at hl 1 rfl) ?_
      refine va_get (D := D) (ci := 2) (v := .ref (a 18)) (C := RX2) (T := TX2) (N := 8) hx hb hts (zi_X2 _) hown hK hP 14 rfl rfl 4 (by decide) (hts _ (List.mem_cons_of_mem _ zt_f_X2_21)) (fun _ h9 => h9) rfl dX2_node_114 ?_
      refine lv_iconst (v := (2 : Int32)) hx hb dX2_node_117 (by decide) ?_
      refine lv_iload hx hb dX2_node_118 (lv_at hl 0 rfl) ?_
      refine lv_imul hx hb dX2_node_120 ?_
      refine lv_iconst (v := (-1 : Int32)) hx hb dX2_node_121 (by decide) ?_
      have hi10 := mq_ck_in h
      replace h := mq_ck_go h
      refine mq_iast (w := wd_C a cI cL cB cZ z) (S := S9) (f := S9.2.1 11) hx hb hK hP hD hS 18 0 rfl rfl hi10 dX2_node_122 11 (zs_wd_C_a_18_11 _ _ _ _ _ _ _ _) (fun S11 eS11 H locs hP hD hS => ?_)
      replace h := mq_nS_go eS11 h
      refine lv_aload_n hx hb dX2_node_123 rfl (lv_at hl 1 rfl) ?_
      refine va_get (D := D) (ci := 2) (v := .ref (a 18)) (C := RX2) (T := TX2) (N := 8) hx hb hts (zi_X2 _) hown hK hP 14 rfl rfl 4 (by decide) (hts _ (List.mem_cons_of_mem _ zt_f_X2_21)) (fun _ h9 => h9) rfl dX2_node_124 ?_
      refine lv_iconst (v := (2 : Int32)) hx hb dX2_node_127 (by decide) ?_
      refine lv_iload hx hb dX2_node_128 (lv_at hl 0 rfl) ?_
      refine lv_imul hx hb dX2_node_130 ?_
      refine lv_iconst (v := (1 : Int32)) hx hb dX2_node_131 (by decide) ?_
      refine lv_iadd hx hb dX2_node_132 ?_
      refine lv_iconst (v := (-1 : Int32)) hx hb dX2_node_133 (by decide) ?_
      have hi12 := mq_ck_in h
      replace h := mq_ck_go h
      refine mq_iast (w := wd_C a cI cL cB cZ z) (S := S11) (f := S11.2.1 11) hx hb hK hP hD hS 18 0 rfl rfl hi12 dX2_node_134 11 (zs_wd_C_a_18_11 _ _ _ _ _ _ _ _) (fun S13 eS13 H locs hP hD hS => ?_)
      replace h := mq_nS_go eS13 h
      refine lv_iconst (v := (2 : Int32)) hx hb dX2_node_135 (by decide) ?_
      refine lv_iload hx hb dX2_node_136 (lv_at hl 0 rfl) ?_
      refine lv_imul hx hb dX2_node_138 ?_
      cases h
      exact hret H locs ls 139 dX2_node_139 hP hD hS
    · replace h := mq_if c16 h
      refine lv_aload_n hx hb dX2_node_66 rfl (lv_at hl 0 rfl) ?_
      refine lv_iconst (v := (1 : Int32)) hx hb dX2_node_67 (by decide) ?_
      have hz15 := mq_cz_in h
      replace h := mq_cz_go h
      refine mq_put (w := wd_C a cI cL cB cZ z) (S := S) (D := D) (ci := 2) (v := (1 : Int32)) (ty := .boolean) (C := RX2) (T := TX2) (N := 8) hx hb hts (zi_X2 _) tyX2 tyX2_ok nmX2 hown hK hP hD hS 14 rfl rfl 7 (by decide) (hts _ (List.mem_cons_of_mem _ zt_f_X2_35)) (fun _ h9 => h9) rfl (by decide +kernel) hz15.1 hz15.2 (Nat.le_of_ble_eq_true rfl) dX2_node_68 4 (zs_wd_C_i_14_4 _ _ _ _ _ _ _ _) (fun S14 eS14 H locs hP hD hS => ?_)
      replace h := mq_nS_go eS14 h
      refine lv_iconst (v := (0 : Int32)) hx hb dX2_node_71 (by decide) ?_
      cases h
      exact hret H locs ls 72 dX2_node_72 hP hD hS
  · replace h := mq_if c23 h
    refine lv_aload_n hx hb dX2_node_12 rfl (lv_at hl 0 rfl) ?_
    refine va_get (D := D) (ci := 2) (v := .ref (a 15)) (C := RX2) (T := TX2) (N := 8) hx hb hts (zi_X2 _) hown hK hP 14 rfl rfl 1 (by decide) (hts _ (List.mem_cons_of_mem _ zt_f_X2_11)) (fun _ h9 => h9) rfl dX2_node_13 ?_
    refine lv_iload hx hb dX2_node_16 (lv_at hl 4 rfl) ?_
    have hi17 := mq_ck_in h
    replace h := mq_ck_go h
    refine va_iald (f := S.2.1 8) hx hb hK hP 15 0 rfl rfl hi17 dX2_node_18 ?_
    refine lv_iload_n hx hb dX2_node_19 rfl (lv_at hl 1 rfl) ?_
    refine lv_icmp_ne (tgt := 50) hx hb dX2_node_20 (by decide) (fun c22 => ?_) (fun c22 => ?_)
    · replace h := mq_if c22 h
      exact zw_X2_node_50 C hret hk3 (v1) (v2) (v3) (v4) S H locs ls h (lv_sub hl [0, 1, 2, 3, 4] rfl) hP hD hS
    · replace h := mq_it (by simpa using c22) h
      refine lv_aload_n hx hb dX2_node_23 rfl (lv_at hl 0 rfl) ?_
      refine va_get (D := D) (ci := 2) (v := .ref (a 16)) (C := RX2) (T := TX2) (N := 8) hx hb hts (zi_X2 _) hown hK hP 14 rfl rfl 2 (by decide) (hts _ (List.mem_cons_of_mem _ zt_f_X2_15)) (fun _ h9 => h9) rfl dX2_node_24 ?_
      refine lv_iload hx hb dX2_node_27 (lv_at hl 4 rfl) ?_
      have hi18 := mq_ck_in h
      replace h := mq_ck_go h
      refine va_iald (f := S.2.1 9) hx hb hK hP 16 0 rfl rfl hi18 dX2_node_29 ?_
      refine lv_iload_n hx hb dX2_node_30 rfl (lv_at hl 2 rfl) ?_
      refine lv_icmp_ne (tgt := 50) hx hb dX2_node_31 (by decide) (fun c21 => ?_) (fun c21 => ?_)
      · replace h := mq_if c21 h
        exact zw_X2_node_50 C hret hk3 (v1) (v2) (v3) (v4) S H locs ls h (lv_sub hl [0, 1, 2, 3, 4] rfl) hP hD hS
      · replace h := mq_it (by simpa using c21) h
        refine lv_aload_n hx hb dX2_node_34 rfl (lv_at hl 0 rfl) ?_
        refine va_get (D := D) (ci := 2) (v := .ref (a 17)) (C := RX2) (T := TX2) (N := 8) hx hb hts (zi_X2 _) hown hK hP 14 rfl rfl 3 (by decide) (hts _ (List.mem_cons_of_mem _ zt_f_X2_18)) (fun _ h9 => h9) rfl dX2_node_35 ?_
        refine lv_iload hx hb dX2_node_38 (lv_at hl 4 rfl) ?_
        have hi19 := mq_ck_in h
        replace h := mq_ck_go h
        refine va_iald (f := S.2.1 10) hx hb hK hP 17 0 rfl rfl hi19 dX2_node_40 ?_
        refine lv_iload_n hx hb dX2_node_41 rfl (lv_at hl 3 rfl) ?_
        refine lv_icmp_ne (tgt := 50) hx hb dX2_node_42 (by decide) (fun c20 => ?_) (fun c20 => ?_)
        · replace h := mq_if c20 h
          exact zw_X2_node_50 C hret hk3 (v1) (v2) (v3) (v4) S H locs ls h (lv_sub hl [0, 1, 2, 3, 4] rfl) hP hD hS
        · replace h := mq_it (by simpa using c20) h
          refine lv_iconst (v := (2 : Int32)) hx hb dX2_node_45 (by decide) ?_
          refine lv_iload hx hb dX2_node_46 (lv_at hl 4 rfl) ?_
          refine lv_imul hx hb dX2_node_48 ?_
          cases h
          exact hret H locs ls 49 dX2_node_49 hP hD hS
set_option maxHeartbeats 4000000 in
set_option maxRecDepth 100000 in
theorem zw_X2_node_3 {p : Program} {l : Launch} {e : Env} {s : State} {m : MethodId} {args : Array Value} {below : List Frame} {meth : Method} {c : Code} {A : Nat → Prop} {D : va_G} {a z : Nat → Nat} {cI cL cB cZ : ClassId} {Q : State → Prop} {N : Nat} {res : Int32 × mq_St} (C : mq_C p s m args c A D cI cL cB cZ cX2_node 5 RX2 zc_X2_node) (hret : ∀ (H : Heap) (locs : List Loc) (ls : Array Slot) (pc : Nat), decode cX2_node pc = .ok (.ireturn, 1) → va_P D vwCl (wd_C a cI cL cB cZ z res.2) H → va_D A (wd_C a cI cL cB cZ z res.2) → va_S A s.heap H locs → W p l e zr_X2_node s m args below meth c H locs 0 0 Q (F0 m pc ls [.int res.1])) : ∀ (n : Nat) (v1 : Int32) (v2 : Int32) (v3 : Int32) (v4 : Int32) (S : mq_St) (H : Heap) (locs : List Loc) (ls : Array Slot) (h : zf_X2_node_3 N z n v1 v2 v3 v4 S = some res) (hl : lv_has ls 5 [(0, .ref (a 14)), (1, .int (v1)), (2, .int (v2)), (3, .int (v3)), (4, .int (v4))]) (hP : va_P D vwCl (wd_C a cI cL cB cZ z S) H) (hD : va_D A (wd_C a cI cL cB cZ z S)) (hS : va_S A s.heap H locs), W p l e zr_X2_node s m args below meth c H locs 0 0 Q (F0 m 3 ls []) := by
  intro n
  induction n with
  | zero =>
    intro v1 v2 v3 v4 S H locs ls h hl hP hD hS
    exact nomatch (show (none : Option (Int32 × mq_St)) = some res from h)
  | succ n ih =>
    intro v1 v2 v3 v4 S H locs ls h hl hP hD hS
    exact zw_X2_node_3b C hret (fun v1 v2 v3 v4 S H locs ls h hl hP hD hS => ih v1 v2 v3 v4 S H locs ls h hl hP hD hS) v1 v2 v3 v4 S H locs ls h hl hP hD hS
set_option maxHeartbeats 4000000 in
set_option maxRecDepth 100000 in
theorem zw_X2_node_0 {p : Program} {l : Launch} {e : Env} {s : State} {m : MethodId} {args : Array Value} {below : List Frame} {meth : Method} {c : Code} {A : Nat → Prop} {D : va_G} {a z : Nat → Nat} {cI cL cB cZ : ClassId} {Q : State → Prop} {N : Nat} {res : Int32 × mq_St} (C : mq_C p s m args c A D cI cL cB cZ cX2_node 5 RX2 zc_X2_node) (hret : ∀ (H : Heap) (locs : List Loc) (ls : Array Slot) (pc : Nat), decode cX2_node pc = .ok (.ireturn, 1) → va_P D vwCl (wd_C a cI cL cB cZ z res.2) H → va_D A (wd_C a cI cL cB cZ z res.2) → va_S A s.heap H locs → W p l e zr_X2_node s m args below meth c H locs 0 0 Q (F0 m pc ls [.int res.1])) (v1 : Int32) (v2 : Int32) (v3 : Int32) (S : mq_St) (H : Heap) (locs : List Loc) (ls : Array Slot) (h : zf_X2_node N z v1 v2 v3 S = some res) (hl : lv_has ls 5 [(0, .ref (a 14)), (1, .int (v1)), (2, .int (v2)), (3, .int (v3))]) (hP : va_P D vwCl (wd_C a cI cL cB cZ z S) H) (hD : va_D A (wd_C a cI cL cB cZ z S)) (hS : va_S A s.heap H locs) : W p l e zr_X2_node s m args below meth c H locs 0 0 Q (F0 m 0 ls []) := by
  obtain ⟨hx, hb, hml, hown, hts, hK, hA⟩ := id C
  unfold zf_X2_node at h
  refine lv_iconst (v := (0 : Int32)) hx hb dX2_node_0 (by decide) ?_
  refine lv_topi (fun x1 ex1 => ?_)
  replace h := mq_nI_go ex1 h
  refine lv_istore (lv' := [(4, .int (x1)), (0, .ref (a 14)), (1, .int (v1)), (2, .int (v2)), (3, .int (v3))]) hx hb dX2_node_1 hl (by decide) rfl (fun ls hl => ?_)
  exact zw_X2_node_3 C hret N (v1) (v2) (v3) (x1) S H locs ls h (lv_sub hl [1, 2, 3, 4, 0] rfl) hP hD hS
set_option maxHeartbeats 4000000 in
set_option maxRecDepth 100000 in
theorem zm_X2_node (l : Launch) (D : va_G) (a z : Nat → Nat) (cI cL cB cZ : ClassId) (sz N : Nat) (v1 : Int32) (v2 : Int32) (v3 : Int32) (S : mq_St) (res : Int32 × mq_St) (h : zf_X2_node N z v1 v2 v3 S = some res) : Met l yX2_node (zc_X2_node :: mq_T) zr_X2_node (va_Pc [.ref (a 14), .int (v1), .int (v2), .int (v3)] (fun U => U.heap.size = sz ∧ va_P D vwCl (wd_C a cI cL cB cZ z S) U.heap ∧ va_K D vwCl (mq_tys cI cL cB cZ) U ∧ va_D (fun _ => True) (wd_C a cI cL cB cZ z S))) (va_Qi (fun (r : Int32) (u : mq_St) => r = res.1 ∧ u = res.2) (fun u t => va_P D vwCl (wd_C a cI cL cB cZ z u) t.heap ∧ va_K D vwCl (mq_tys cI cL cB cZ) t ∧ va_D (va_A (wd_C a cI cL cB cZ z S) sz) (wd_C a cI cL cB cZ z u)) (va_A (wd_C a cI cL cB cZ z S) sz)) 0 0 (va_A (wd_C a cI cL cB cZ z S) sz) := by
  refine Met.ofW (cc := cX2_node) (maxL := 5) (ret := (some .int)) (by decide) rfl ?_
  intro p e s m args below meth c s₁ B hml hv
  obtain ⟨rfl, hsz, hP, hK, hD0⟩ := hv
  have hr := B.returns
  have hlocks := B.notSynchronized
  have hts := atoms_spec (ws := zc_X2_node :: mq_T) B.pre
  have hown : s.vm.findClass RX2 = some m.cls := findClass_of_methodNamed B.named
  subst hsz
  have hD := hD0.self (sz := s.heap.size)
  generalize hAe : va_A (wd_C a cI cL cB cZ z S) s.heap.size = A at hD ⊢
  have hA : ∀ q : Nat, s.heap.size ≤ q → A q := fun q h => by rw [← hAe]; exact Or.inr h
  have hl := lv_entry ([.ref (a 14), .int (v1), .int (v2), .int (v3)]) (n := 5) (Nat.le_of_ble_eq_true rfl)
  rw [lg_entry_eq]
  generalize (lg_sl ([.ref (a 14), .int (v1), .int (v2), .int (v3)]) ++ List.replicate (5 - (lg_sl ([.ref (a 14), .int (v1), .int (v2), .int (v3)])).length) Slot.unset).toArray = ls at hl ⊢
  have hl : lv_has ls 5 [(0, .ref (a 14)), (1, .int (v1)), (2, .int (v2)), (3, .int (v3))] := hl
  refine zw_X2_node_0 (A := A) ⟨B.exec, B.bytes, hml, hown, hts, hK, hA⟩ (fun H locs ls pc dg hP hD hS => ?_) v1 v2 v3 S s.heap [] ls h hl hP hD va_S.rf
  exact W.iret B.exec B.bytes hr (fun t ht hW => ⟨⟨_, _, rfl, ⟨rfl, rfl⟩, by rw [ht]; exact hP, va_K.moved hW.alike hK, hD⟩, hS.F ht⟩) hS.2.2 dg
theorem zt_X2_node_c : zc_X2_node ∈ mq_T := mq_T_mem (mq_t2 (List.mem_of_getElem? (i := 211) rfl)) rfl
theorem zt_X2_node_i : Cond.instanceMethod yX2_node ∈ mq_T := mq_T_mem (mq_t2 (List.mem_of_getElem? (i := 210) rfl)) rfl
theorem zt_X2_node_s : Cond.selects RX2 yX2_node yX2_node ∈ mq_T := mq_T_at 3 (by decide +kernel)
theorem zt_ini_X2 : Cond.initialized RX2 ∈ mq_T := mq_T_mem (mq_t1 (List.mem_of_getElem? (i := 6) rfl)) rfl
set_option maxHeartbeats 4000000 in
theorem zk_X2_node {p : Program} {l : Launch} {e : Env} {R : Room} {s : State} {m : MethodId} {args : Array Value} {below : List Frame} {meth : Method} {c : Code} {A : Nat → Prop} {D : va_G} {a z : Nat → Nat} {cI cL cB cZ : ClassId} {Q : State → Prop} {cc : ByteArray} {nL idx pc N : Nat} {own : String} {c1 : Cond} {H : Heap} {locs : List Loc} {ls : Array Slot} {rest : List Value} {S : mq_St} {res : Int32 × mq_St} {v1 : Int32} {v2 : Int32} {v3 : Int32} (C : mq_C p s m args c A D cI cL cB cZ cc nL own c1) (hlk : Cond.methodLink own idx yX2_node ∈ mq_T) (hR : zr_X2_node.frames + 1 ≤ R.frames ∧ 8 + (5 + 11) + zr_X2_node.locals ≤ R.locals) (h : zf_X2_node N z v1 v2 v3 S = some res) (hP : va_P D vwCl (wd_C a cI cL cB cZ z S) H) (hD : va_D A (wd_C a cI cL cB cZ z S)) (hS : va_S A s.heap H locs) (hls : ls.size = nL) (hrest : (rest.map fun v => v.category).sum ≤ 8) (hdg : decode cc pc = .ok (.invokevirtual idx, 3)) (kk : ∀ (H1 : Heap) (locs1 : List Loc), va_P D vwCl (wd_C a cI cL cB cZ z res.2) H1 → va_D A (wd_C a cI cL cB cZ z res.2) → va_S A s.heap H1 locs1 → W p l e R s m args below meth c H1 locs1 0 0 Q (F0 m (pc + 3) ls (.int res.1 :: rest))) : W p l e R s m args below meth c H locs 0 0 Q (F0 m pc ls (.int (v3) :: .int (v2) :: .int (v1) :: .ref (a 14) :: rest)) := by
  obtain ⟨hx, hb, hml, hown, hts, hK, hA⟩ := C
  have hFc := mq_freeI hD hS hA
  refine va_calli (va_runV (As := [.int (v1), .int (v2), .int (v3)]) (rest := rest) ⟨hx, hb, hml, hown, hts⟩ (zm_X2_node l D a z cI cL cB cZ H.size N v1 v2 v3 S res h) (cwV 3 hts (mq_goodL (mq_wsV hlk zt_X2_node_i zt_X2_node_s zt_ini_X2 zt_X2_node_c)) rfl rfl rfl (by decide +kernel) hR) ⟨fun a U g mk q => ⟨q.1, q.2.1, q.2.2.1, va_K.moved (u := U) (U := U.calling g mk a) (Vm.Alike.refl U.vm) q.2.2.2.1, q.2.2.2.2⟩, zy_C_14 hK hP, fun U hU hW => ⟨rfl, by rw [hU], by rw [hU]; exact hP, va_K.moved hW.alike hK, hD.weaken (fun _ _ _ _ => trivial)⟩⟩ rfl rfl hls rfl (lv_room hrest) hdg ⟨Nat.zero_le _, Nat.zero_le _⟩) hS (fun q _ h => hFc q h) hFc (fun r u t H1 locs ht hvm hw hB hz1 hk1 hS => ?_)
  obtain ⟨rfl, rfl⟩ := hw
  obtain ⟨hP1, hK1, hD1⟩ := hB
  rw [ht] at hP1
  exact kk H1 locs hP1 (hD1.weaken (fun _ _ _ h => hFc _ h)) hS
theorem zt_m_X2_39 : Cond.methodLink RX2 39 yX2_node ∈ mq_T := mq_T_mem (mq_t2 (List.mem_of_getElem? (i := 208) rfl)) rfl
/-! ModalDesk$Draft.both(II)I -/
def zr_X2_both : Room := { frames := 1, cells := 0, slots := 0, locals := 24 }
def zc_X2_both : Cond := .code yX2_both cX2_both 3 (some .int)
def zf_X2_both (N : Nat) (z : Nat → Nat) (v1 : Int32) (v2 : Int32) (S : mq_St) : Option (Int32 × mq_St) := (mq_cl (zf_X2_node N z ((4 : Int32)) (v1) (v2) S) (fun q1v S3 => (some (q1v, S3))))
set_option maxHeartbeats 4000000 in
set_option maxRecDepth 100000 in
theorem zw_X2_both_0 {p : Program} {l : Launch} {e : Env} {s : State} {m : MethodId} {args : Array Value} {below : List Frame} {meth : Method} {c : Code} {A : Nat → Prop} {D : va_G} {a z : Nat → Nat} {cI cL cB cZ : ClassId} {Q : State → Prop} {N : Nat} {res : Int32 × mq_St} (C : mq_C p s m args c A D cI cL cB cZ cX2_both 3 RX2 zc_X2_both) (hret : ∀ (H : Heap) (locs : List Loc) (ls : Array Slot) (pc : Nat), decode cX2_both pc = .ok (.ireturn, 1) → va_P D vwCl (wd_C a cI cL cB cZ z res.2) H → va_D A (wd_C a cI cL cB cZ z res.2) → va_S A s.heap H locs → W p l e zr_X2_both s m args below meth c H locs 0 0 Q (F0 m pc ls [.int res.1])) (v1 : Int32) (v2 : Int32) (S : mq_St) (H : Heap) (locs : List Loc) (ls : Array Slot) (h : zf_X2_both N z v1 v2 S = some res) (hl : lv_has ls 3 [(0, .ref (a 14)), (1, .int (v1)), (2, .int (v2))]) (hP : va_P D vwCl (wd_C a cI cL cB cZ z S) H) (hD : va_D A (wd_C a cI cL cB cZ z S)) (hS : va_S A s.heap H locs) : W p l e zr_X2_both s m args below meth c H locs 0 0 Q (F0 m 0 ls []) := by
  obtain ⟨hx, hb, hml, hown, hts, hK, hA⟩ := id C
  unfold zf_X2_both at h
  refine lv_aload_n hx hb dX2_both_0 rfl (lv_at hl 0 rfl) ?_
  refine lv_iconst (v := (4 : Int32)) hx hb dX2_both_1 (by decide) ?_
  refine lv_iload_n hx hb dX2_both_2 rfl (lv_at hl 1 rfl) ?_
  refine lv_iload_n hx hb dX2_both_3 rfl (lv_at hl 2 rfl) ?_
  obtain ⟨q1, hc2, h⟩ := mq_cl_go h
  refine zk_X2_node C zt_m_X2_39 ⟨by decide, by decide⟩ hc2 hP hD hS hl.1 (Nat.le_of_ble_eq_true rfl) dX2_both_4 (fun H locs hP hD hS => ?_)
  obtain ⟨S3, eS3⟩ : ∃ y, y = q1.2 := ⟨_, rfl⟩
  rw [← eS3] at hP hD h
  cases h
  exact hret H locs ls 7 dX2_both_7 hP hD hS
set_option maxHeartbeats 4000000 in
set_option maxRecDepth 100000 in
theorem zm_X2_both (l : Launch) (D : va_G) (a z : Nat → Nat) (cI cL cB cZ : ClassId) (sz N : Nat) (v1 : Int32) (v2 : Int32) (S : mq_St) (res : Int32 × mq_St) (h : zf_X2_both N z v1 v2 S = some res) : Met l yX2_both (zc_X2_both :: mq_T) zr_X2_both (va_Pc [.ref (a 14), .int (v1), .int (v2)] (fun U => U.heap.size = sz ∧ va_P D vwCl (wd_C a cI cL cB cZ z S) U.heap ∧ va_K D vwCl (mq_tys cI cL cB cZ) U ∧ va_D (fun _ => True) (wd_C a cI cL cB cZ z S))) (va_Qi (fun (r : Int32) (u : mq_St) => r = res.1 ∧ u = res.2) (fun u t => va_P D vwCl (wd_C a cI cL cB cZ z u) t.heap ∧ va_K D vwCl (mq_tys cI cL cB cZ) t ∧ va_D (va_A (wd_C a cI cL cB cZ z S) sz) (wd_C a cI cL cB cZ z u)) (va_A (wd_C a cI cL cB cZ z S) sz)) 0 0 (va_A (wd_C a cI cL cB cZ z S) sz) := by
  refine Met.ofW (cc := cX2_both) (maxL := 3) (ret := (some .int)) (by decide) rfl ?_
  intro p e s m args below meth c s₁ B hml hv
  obtain ⟨rfl, hsz, hP, hK, hD0⟩ := hv
  have hr := B.returns
  have hlocks := B.notSynchronized
  have hts := atoms_spec (ws := zc_X2_both :: mq_T) B.pre
  have hown : s.vm.findClass RX2 = some m.cls := findClass_of_methodNamed B.named
  subst hsz
  have hD := hD0.self (sz := s.heap.size)
  generalize hAe : va_A (wd_C a cI cL cB cZ z S) s.heap.size = A at hD ⊢
  have hA : ∀ q : Nat, s.heap.size ≤ q → A q := fun q h => by rw [← hAe]; exact Or.inr h
  have hl := lv_entry ([.ref (a 14), .int (v1), .int (v2)]) (n := 3) (Nat.le_of_ble_eq_true rfl)
  rw [lg_entry_eq]
  generalize (lg_sl ([.ref (a 14), .int (v1), .int (v2)]) ++ List.replicate (3 - (lg_sl ([.ref (a 14), .int (v1), .int (v2)])).length) Slot.unset).toArray = ls at hl ⊢
  have hl : lv_has ls 3 [(0, .ref (a 14)), (1, .int (v1)), (2, .int (v2))] := hl
  refine zw_X2_both_0 (A := A) ⟨B.exec, B.bytes, hml, hown, hts, hK, hA⟩ (fun H locs ls pc dg hP hD hS => ?_) v1 v2 S s.heap [] ls h hl hP hD va_S.rf
  exact W.iret B.exec B.bytes hr (fun t ht hW => ⟨⟨_, _, rfl, ⟨rfl, rfl⟩, by rw [ht]; exact hP, va_K.moved hW.alike hK, hD⟩, hS.F ht⟩) hS.2.2 dg
theorem zt_X2_both_c : zc_X2_both ∈ mq_T := mq_T_mem (mq_t3 (List.mem_of_getElem? (i := 64) rfl)) rfl
theorem zt_X2_both_i : Cond.instanceMethod yX2_both ∈ mq_T := mq_T_mem (mq_t3 (List.mem_of_getElem? (i := 62) rfl)) rfl
theorem zt_X2_both_s : Cond.selects RX2 yX2_both yX2_both ∈ mq_T := mq_T_mem (mq_t3 (List.mem_of_getElem? (i := 63) rfl)) rfl
set_option maxHeartbeats 4000000 in
theorem zk_X2_both {p : Program} {l : Launch} {e : Env} {R : Room} {s : State} {m : MethodId} {args : Array Value} {below : List Frame} {meth : Method} {c : Code} {A : Nat → Prop} {D : va_G} {a z : Nat → Nat} {cI cL cB cZ : ClassId} {Q : State → Prop} {cc : ByteArray} {nL idx pc N : Nat} {own : String} {c1 : Cond} {H : Heap} {locs : List Loc} {ls : Array Slot} {rest : List Value} {S : mq_St} {res : Int32 × mq_St} {v1 : Int32} {v2 : Int32} (C : mq_C p s m args c A D cI cL cB cZ cc nL own c1) (hlk : Cond.methodLink own idx yX2_both ∈ mq_T) (hR : zr_X2_both.frames + 1 ≤ R.frames ∧ 8 + (3 + 11) + zr_X2_both.locals ≤ R.locals) (h : zf_X2_both N z v1 v2 S = some res) (hP : va_P D vwCl (wd_C a cI cL cB cZ z S) H) (hD : va_D A (wd_C a cI cL cB cZ z S)) (hS : va_S A s.heap H locs) (hls : ls.size = nL) (hrest : (rest.map fun v => v.category).sum ≤ 8) (hdg : decode cc pc = .ok (.invokevirtual idx, 3)) (kk : ∀ (H1 : Heap) (locs1 : List Loc), va_P D vwCl (wd_C a cI cL cB cZ z res.2) H1 → va_D A (wd_C a cI cL cB cZ z res.2) → va_S A s.heap H1 locs1 → W p l e R s m args below meth c H1 locs1 0 0 Q (F0 m (pc + 3) ls (.int res.1 :: rest))) : W p l e R s m args below meth c H locs 0 0 Q (F0 m pc ls (.int (v2) :: .int (v1) :: .ref (a 14) :: rest)) := by
  obtain ⟨hx, hb, hml, hown, hts, hK, hA⟩ := C
  have hFc := mq_freeI hD hS hA
  refine va_calli (va_runV (As := [.int (v1), .int (v2)]) (rest := rest) ⟨hx, hb, hml, hown, hts⟩ (zm_X2_both l D a z cI cL cB cZ H.size N v1 v2 S res h) (cwV 2 hts (mq_goodL (mq_wsV hlk zt_X2_both_i zt_X2_both_s zt_ini_X2 zt_X2_both_c)) rfl rfl rfl (by decide +kernel) hR) ⟨fun a U g mk q => ⟨q.1, q.2.1, q.2.2.1, va_K.moved (u := U) (U := U.calling g mk a) (Vm.Alike.refl U.vm) q.2.2.2.1, q.2.2.2.2⟩, zy_C_14 hK hP, fun U hU hW => ⟨rfl, by rw [hU], by rw [hU]; exact hP, va_K.moved hW.alike hK, hD.weaken (fun _ _ _ _ => trivial)⟩⟩ rfl rfl hls rfl (lv_room hrest) hdg ⟨Nat.zero_le _, Nat.zero_le _⟩) hS (fun q _ h => hFc q h) hFc (fun r u t H1 locs ht hvm hw hB hz1 hk1 hS => ?_)
  obtain ⟨rfl, rfl⟩ := hw
  obtain ⟨hP1, hK1, hD1⟩ := hB
  rw [ht] at hP1
  exact kk H1 locs hP1 (hD1.weaken (fun _ _ _ h => hFc _ h)) hS
/-! ModalDesk$Draft.isMark(I)Z -/
def zr_X2_isMark : Room := { frames := 0, cells := 0, slots := 0, locals := 0 }
def zc_X2_isMark : Cond := .code yX2_isMark cX2_isMark 2 (some .boolean)
def zf_X2_isMark (N : Nat) (z : Nat → Nat) (v1 : Int32) (S : mq_St) : Option (Int32) := (if v1 < (0 : Int32) then (mq_cz ((0 : Int32)) (some ((0 : Int32)))) else (if (S.1 3) ≤ (v1 >>> ((1 : Int32) &&& (31 : Int32))) then (mq_cz ((0 : Int32)) (some ((0 : Int32)))) else (mq_cz ((1 : Int32)) (some ((1 : Int32))))))
set_option maxHeartbeats 4000000 in
set_option maxRecDepth 100000 in
theorem zw_X2_isMark_0 {p : Program} {l : Launch} {e : Env} {s : State} {m : MethodId} {args : Array Value} {below : List Frame} {meth : Method} {c : Code} {A : Nat → Prop} {D : va_G} {a z : Nat → Nat} {cI cL cB cZ : ClassId} {Q : State → Prop} {N : Nat} {S : mq_St} {res : Int32} (C : mq_C p s m args c A D cI cL cB cZ cX2_isMark 2 RX2 zc_X2_isMark) (hret : ∀ (H : Heap) (locs : List Loc) (ls : Array Slot) (pc : Nat), decode cX2_isMark pc = .ok (.ireturn, 1) → narrow .boolean (.int res) = .int res → va_P D vwCl (wd_C a cI cL cB cZ z S) H → va_D A (wd_C a cI cL cB cZ z S) → va_S A s.heap H locs → W p l e zr_X2_isMark s m args below meth c H locs 0 0 Q (F0 m pc ls [.int res])) (v1 : Int32) (H : Heap) (locs : List Loc) (ls : Array Slot) (h : zf_X2_isMark N z v1 S = some res) (hl : lv_has ls 2 [(0, .ref (a 14)), (1, .int (v1))]) (hP : va_P D vwCl (wd_C a cI cL cB cZ z S) H) (hD : va_D A (wd_C a cI cL cB cZ z S)) (hS : va_S A s.heap H locs) : W p l e zr_X2_isMark s m args below meth c H locs 0 0 Q (F0 m 0 ls []) := by
  obtain ⟨hx, hb, hml, hown, hts, hK, hA⟩ := id C
  unfold zf_X2_isMark at h
  refine lv_iload_n hx hb dX2_isMark_0 rfl (lv_at hl 1 rfl) ?_
  refine lv_if_lt (tgt := 18) hx hb dX2_isMark_1 (by decide) (fun c5 => ?_) (fun c5 => ?_)
  · replace h := mq_it c5 h
    refine lv_iconst (v := (0 : Int32)) hx hb dX2_isMark_18 (by decide) ?_
    have hz1 := mq_cz_in h
    replace h := mq_cz_go h
    cases h
    exact hret H locs ls 19 dX2_isMark_19 hz1.1 hP hD hS
  · replace h := mq_if c5 h
    refine lv_iload_n hx hb dX2_isMark_4 rfl (lv_at hl 1 rfl) ?_
    refine lv_iconst (v := (1 : Int32)) hx hb dX2_isMark_5 (by decide) ?_
    refine lv_ishr hx hb dX2_isMark_6 ?_
    refine lv_aload_n hx hb dX2_isMark_7 rfl (lv_at hl 0 rfl) ?_
    refine va_get (D := D) (ci := 2) (v := .int ((S.1 3))) (C := RX2) (T := TX2) (N := 8) hx hb hts (zi_X2 _) hown hK hP 14 rfl rfl 6 (by decide) (hts _ (List.mem_cons_of_mem _ zt_f_X2_31)) (fun _ h9 => h9) rfl dX2_isMark_8 ?_
    refine lv_icmp_ge (tgt := 18) hx hb dX2_isMark_11 (by decide) (fun c4 => ?_) (fun c4 => ?_)
    · replace h := mq_it c4 h
      refine lv_iconst (v := (0 : Int32)) hx hb dX2_isMark_18 (by decide) ?_
      have hz2 := mq_cz_in h
      replace h := mq_cz_go h
      cases h
      exact hret H locs ls 19 dX2_isMark_19 hz2.1 hP hD hS
    · replace h := mq_if c4 h
      refine lv_iconst (v := (1 : Int32)) hx hb dX2_isMark_14 (by decide) ?_
      refine lv_goto (tgt := 19) hx hb dX2_isMark_15 (by decide) ?_
      have hz3 := mq_cz_in h
      replace h := mq_cz_go h
      cases h
      exact hret H locs ls 19 dX2_isMark_19 hz3.1 hP hD hS
set_option maxHeartbeats 4000000 in
set_option maxRecDepth 100000 in
theorem zm_X2_isMark (l : Launch) (D : va_G) (a z : Nat → Nat) (cI cL cB cZ : ClassId) (sz N : Nat) (v1 : Int32) (S : mq_St) (res : Int32) (h : zf_X2_isMark N z v1 S = some res) : Met l yX2_isMark (zc_X2_isMark :: mq_T) zr_X2_isMark (va_Pc [.ref (a 14), .int (v1)] (fun U => U.heap.size = sz ∧ va_P D vwCl (wd_C a cI cL cB cZ z S) U.heap ∧ va_K D vwCl (mq_tys cI cL cB cZ) U ∧ va_D (fun _ => True) (wd_C a cI cL cB cZ z S))) (va_Qi (fun (r : Int32) (u : mq_St) => r = res ∧ u = S) (fun u t => va_P D vwCl (wd_C a cI cL cB cZ z u) t.heap ∧ va_K D vwCl (mq_tys cI cL cB cZ) t ∧ va_D (va_A (wd_C a cI cL cB cZ z S) sz) (wd_C a cI cL cB cZ z u)) (va_A (wd_C a cI cL cB cZ z S) sz)) 0 0 (va_A (wd_C a cI cL cB cZ z S) sz) := by
  refine Met.ofW (cc := cX2_isMark) (maxL := 2) (ret := (some .boolean)) (by decide) rfl ?_
  intro p e s m args below meth c s₁ B hml hv
  obtain ⟨rfl, hsz, hP, hK, hD0⟩ := hv
  have hr := B.returns
  have hlocks := B.notSynchronized
  have hts := atoms_spec (ws := zc_X2_isMark :: mq_T) B.pre
  have hown : s.vm.findClass RX2 = some m.cls := findClass_of_methodNamed B.named
  subst hsz
  have hD := hD0.self (sz := s.heap.size)
  generalize hAe : va_A (wd_C a cI cL cB cZ z S) s.heap.size = A at hD ⊢
  have hA : ∀ q : Nat, s.heap.size ≤ q → A q := fun q h => by rw [← hAe]; exact Or.inr h
  have hl := lv_entry ([.ref (a 14), .int (v1)]) (n := 2) (Nat.le_of_ble_eq_true rfl)
  rw [lg_entry_eq]
  generalize (lg_sl ([.ref (a 14), .int (v1)]) ++ List.replicate (2 - (lg_sl ([.ref (a 14), .int (v1)])).length) Slot.unset).toArray = ls at hl ⊢
  have hl : lv_has ls 2 [(0, .ref (a 14)), (1, .int (v1))] := hl
  refine zw_X2_isMark_0 (A := A) ⟨B.exec, B.bytes, hml, hown, hts, hK, hA⟩ (fun H locs ls pc dg hz hP hD hS => ?_) v1 s.heap [] ls h hl hP hD va_S.rf
  exact W.zret B.exec B.bytes hr hz (fun t ht hW => ⟨⟨_, _, rfl, ⟨rfl, rfl⟩, by rw [ht]; exact hP, va_K.moved hW.alike hK, hD⟩, hS.F ht⟩) hS.2.2 dg
theorem zt_X2_isMark_c : zc_X2_isMark ∈ mq_T := mq_T_mem (mq_t3 (List.mem_of_getElem? (i := 106) rfl)) rfl
theorem zt_X2_isMark_i : Cond.instanceMethod yX2_isMark ∈ mq_T := mq_T_mem (mq_t3 (List.mem_of_getElem? (i := 105) rfl)) rfl
theorem zt_X2_isMark_s : Cond.selects RX2 yX2_isMark yX2_isMark ∈ mq_T := mq_T_at 22 (by decide +kernel)
set_option maxHeartbeats 4000000 in
theorem zk_X2_isMark {p : Program} {l : Launch} {e : Env} {R : Room} {s : State} {m : MethodId} {args : Array Value} {below : List Frame} {meth : Method} {c : Code} {A : Nat → Prop} {D : va_G} {a z : Nat → Nat} {cI cL cB cZ : ClassId} {Q : State → Prop} {cc : ByteArray} {nL idx pc N : Nat} {own : String} {c1 : Cond} {H : Heap} {locs : List Loc} {ls : Array Slot} {rest : List Value} {S : mq_St} {res : Int32} {v1 : Int32} (C : mq_C p s m args c A D cI cL cB cZ cc nL own c1) (hlk : Cond.methodLink own idx yX2_isMark ∈ mq_T) (hR : zr_X2_isMark.frames + 1 ≤ R.frames ∧ 8 + (2 + 11) + zr_X2_isMark.locals ≤ R.locals) (h : zf_X2_isMark N z v1 S = some res) (hP : va_P D vwCl (wd_C a cI cL cB cZ z S) H) (hD : va_D A (wd_C a cI cL cB cZ z S)) (hS : va_S A s.heap H locs) (hls : ls.size = nL) (hrest : (rest.map fun v => v.category).sum ≤ 8) (hdg : decode cc pc = .ok (.invokevirtual idx, 3)) (kk : ∀ (H1 : Heap) (locs1 : List Loc), va_P D vwCl (wd_C a cI cL cB cZ z S) H1 → va_D A (wd_C a cI cL cB cZ z S) → va_S A s.heap H1 locs1 → W p l e R s m args below meth c H1 locs1 0 0 Q (F0 m (pc + 3) ls (.int res :: rest))) : W p l e R s m args below meth c H locs 0 0 Q (F0 m pc ls (.int (v1) :: .ref (a 14) :: rest)) := by
  obtain ⟨hx, hb, hml, hown, hts, hK, hA⟩ := C
  have hFc := mq_freeI hD hS hA
  refine va_calli (va_runV (As := [.int (v1)]) (rest := rest) ⟨hx, hb, hml, hown, hts⟩ (zm_X2_isMark l D a z cI cL cB cZ H.size N v1 S res h) (cwV 1 hts (mq_goodL (mq_wsV hlk zt_X2_isMark_i zt_X2_isMark_s zt_ini_X2 zt_X2_isMark_c)) rfl rfl rfl (by decide +kernel) hR) ⟨fun a U g mk q => ⟨q.1, q.2.1, q.2.2.1, va_K.moved (u := U) (U := U.calling g mk a) (Vm.Alike.refl U.vm) q.2.2.2.1, q.2.2.2.2⟩, zy_C_14 hK hP, fun U hU hW => ⟨rfl, by rw [hU], by rw [hU]; exact hP, va_K.moved hW.alike hK, hD.weaken (fun _ _ _ _ => trivial)⟩⟩ rfl rfl hls rfl (lv_room hrest) hdg ⟨Nat.zero_le _, Nat.zero_le _⟩) hS (fun q _ h => hFc q h) hFc (fun r u t H1 locs ht hvm hw hB hz1 hk1 hS => ?_)
  obtain ⟨rfl, rfl⟩ := hw
  obtain ⟨hP1, hK1, hD1⟩ := hB
  rw [ht] at hP1
  exact kk H1 locs hP1 (hD1.weaken (fun _ _ _ h => hFc _ h)) hS
theorem zt_m_X2_67 : Cond.methodLink RX2 67 yX2_isMark ∈ mq_T := mq_T_mem (mq_t3 (List.mem_of_getElem? (i := 103) rfl)) rfl
/-! ModalDesk$Draft.firstPart(I)I -/
def zr_X2_firstPart : Room := { frames := 1, cells := 0, slots := 0, locals := 21 }
def zc_X2_firstPart : Cond := .code yX2_firstPart cX2_firstPart 2 (some .int)
def zf_X2_firstPart (N : Nat) (z : Nat → Nat) (v1 : Int32) (S : mq_St) : Option (Int32) := (mq_cp (zf_X2_isMark N z (v1) S) (fun q1 => (if q1 = (0 : Int32) then (some ((-1 : Int32))) else (mq_ck ((v1 >>> ((1 : Int32) &&& (31 : Int32)))) 150 (if (S.2.1 8 ((v1 >>> ((1 : Int32) &&& (31 : Int32)))).toNatClampNeg) < (4 : Int32) then (some ((-1 : Int32))) else (mq_ck ((v1 >>> ((1 : Int32) &&& (31 : Int32)))) 150 (some (((S.2.1 9 ((v1 >>> ((1 : Int32) &&& (31 : Int32)))).toNatClampNeg) ^^^ (v1 &&& (1 : Int32)))))))))))
set_option maxHeartbeats 4000000 in
set_option maxRecDepth 100000 in
theorem zw_X2_firstPart_0 {p : Program} {l : Launch} {e : Env} {s : State} {m : MethodId} {args : Array Value} {below : List Frame} {meth : Method} {c : Code} {A : Nat → Prop} {D : va_G} {a z : Nat → Nat} {cI cL cB cZ : ClassId} {Q : State → Prop} {N : Nat} {S : mq_St} {res : Int32} (C : mq_C p s m args c A D cI cL cB cZ cX2_firstPart 2 RX2 zc_X2_firstPart) (hret : ∀ (H : Heap) (locs : List Loc) (ls : Array Slot) (pc : Nat), decode cX2_firstPart pc = .ok (.ireturn, 1) → va_P D vwCl (wd_C a cI cL cB cZ z S) H → va_D A (wd_C a cI cL cB cZ z S) → va_S A s.heap H locs → W p l e zr_X2_firstPart s m args below meth c H locs 0 0 Q (F0 m pc ls [.int res])) (v1 : Int32) (H : Heap) (locs : List Loc) (ls : Array Slot) (h : zf_X2_firstPart N z v1 S = some res) (hl : lv_has ls 2 [(0, .ref (a 14)), (1, .int (v1))]) (hP : va_P D vwCl (wd_C a cI cL cB cZ z S) H) (hD : va_D A (wd_C a cI cL cB cZ z S)) (hS : va_S A s.heap H locs) : W p l e zr_X2_firstPart s m args below meth c H locs 0 0 Q (F0 m 0 ls []) := by
  obtain ⟨hx, hb, hml, hown, hts, hK, hA⟩ := id C
  unfold zf_X2_firstPart at h
  refine lv_aload_n hx hb dX2_firstPart_0 rfl (lv_at hl 0 rfl) ?_
  refine lv_iload_n hx hb dX2_firstPart_1 rfl (lv_at hl 1 rfl) ?_
  obtain ⟨q1, hc2, h⟩ := mq_cp_go h
  refine zk_X2_isMark C zt_m_X2_67 ⟨by decide, by decide⟩ hc2 hP hD hS hl.1 (Nat.le_of_ble_eq_true rfl) dX2_firstPart_2 (fun H locs hP hD hS => ?_)
  refine lv_if_eq (tgt := 35) hx hb dX2_firstPart_5 (by decide) (fun c6 => ?_) (fun c6 => ?_)
  · replace h := mq_it c6 h
    refine lv_iconst (v := (-1 : Int32)) hx hb dX2_firstPart_35 (by decide) ?_
    cases h
    exact hret H locs ls 36 dX2_firstPart_36 hP hD hS
  · replace h := mq_if c6 h
    refine lv_aload_n hx hb dX2_firstPart_8 rfl (lv_at hl 0 rfl) ?_
    refine va_get (D := D) (ci := 2) (v := .ref (a 15)) (C := RX2) (T := TX2) (N := 8) hx hb hts (zi_X2 _) hown hK hP 14 rfl rfl 1 (by decide) (hts _ (List.mem_cons_of_mem _ zt_f_X2_11)) (fun _ h9 => h9) rfl dX2_firstPart_9 ?_
    refine lv_iload_n hx hb dX2_firstPart_12 rfl (lv_at hl 1 rfl) ?_
    refine lv_iconst (v := (1 : Int32)) hx hb dX2_firstPart_13 (by decide) ?_
    refine lv_ishr hx hb dX2_firstPart_14 ?_
    have hi3 := mq_ck_in h
    replace h := mq_ck_go h
    refine va_iald (f := S.2.1 8) hx hb hK hP 15 0 rfl rfl hi3 dX2_firstPart_15 ?_
    refine lv_iconst (v := (4 : Int32)) hx hb dX2_firstPart_16 (by decide) ?_
    refine lv_icmp_lt (tgt := 35) hx hb dX2_firstPart_17 (by decide) (fun c5 => ?_) (fun c5 => ?_)
    · replace h := mq_it c5 h
      refine lv_iconst (v := (-1 : Int32)) hx hb dX2_firstPart_35 (by decide) ?_
      cases h
      exact hret H locs ls 36 dX2_firstPart_36 hP hD hS
    · replace h := mq_if c5 h
      refine lv_aload_n hx hb dX2_firstPart_20 rfl (lv_at hl 0 rfl) ?_
      refine va_get (D := D) (ci := 2) (v := .ref (a 16)) (C := RX2) (T := TX2) (N := 8) hx hb hts (zi_X2 _) hown hK hP 14 rfl rfl 2 (by decide) (hts _ (List.mem_cons_of_mem _ zt_f_X2_15)) (fun _ h9 => h9) rfl dX2_firstPart_21 ?_
      refine lv_iload_n hx hb dX2_firstPart_24 rfl (lv_at hl 1 rfl) ?_
      refine lv_iconst (v := (1 : Int32)) hx hb dX2_firstPart_25 (by decide) ?_
      refine lv_ishr hx hb dX2_firstPart_26 ?_
      have hi4 := mq_ck_in h
      replace h := mq_ck_go h
      refine va_iald (f := S.2.1 9) hx hb hK hP 16 0 rfl rfl hi4 dX2_firstPart_27 ?_
      refine lv_iload_n hx hb dX2_firstPart_28 rfl (lv_at hl 1 rfl) ?_
      refine lv_iconst (v := (1 : Int32)) hx hb dX2_firstPart_29 (by decide) ?_
      refine lv_iand hx hb dX2_firstPart_30 ?_
      refine lv_ixor hx hb dX2_firstPart_31 ?_
      refine lv_goto (tgt := 36) hx hb dX2_firstPart_32 (by decide) ?_
      cases h
      exact hret H locs ls 36 dX2_firstPart_36 hP hD hS
set_option maxHeartbeats 4000000 in
set_option maxRecDepth 100000 in
theorem zm_X2_firstPart (l : Launch) (D : va_G) (a z : Nat → Nat) (cI cL cB cZ : ClassId) (sz N : Nat) (v1 : Int32) (S : mq_St) (res : Int32) (h : zf_X2_firstPart N z v1 S = some res) : Met l yX2_firstPart (zc_X2_firstPart :: mq_T) zr_X2_firstPart (va_Pc [.ref (a 14), .int (v1)] (fun U => U.heap.size = sz ∧ va_P D vwCl (wd_C a cI cL cB cZ z S) U.heap ∧ va_K D vwCl (mq_tys cI cL cB cZ) U ∧ va_D (fun _ => True) (wd_C a cI cL cB cZ z S))) (va_Qi (fun (r : Int32) (u : mq_St) => r = res ∧ u = S) (fun u t => va_P D vwCl (wd_C a cI cL cB cZ z u) t.heap ∧ va_K D vwCl (mq_tys cI cL cB cZ) t ∧ va_D (va_A (wd_C a cI cL cB cZ z S) sz) (wd_C a cI cL cB cZ z u)) (va_A (wd_C a cI cL cB cZ z S) sz)) 0 0 (va_A (wd_C a cI cL cB cZ z S) sz) := by
  refine Met.ofW (cc := cX2_firstPart) (maxL := 2) (ret := (some .int)) (by decide) rfl ?_
  intro p e s m args below meth c s₁ B hml hv
  obtain ⟨rfl, hsz, hP, hK, hD0⟩ := hv
  have hr := B.returns
  have hlocks := B.notSynchronized
  have hts := atoms_spec (ws := zc_X2_firstPart :: mq_T) B.pre
  have hown : s.vm.findClass RX2 = some m.cls := findClass_of_methodNamed B.named
  subst hsz
  have hD := hD0.self (sz := s.heap.size)
  generalize hAe : va_A (wd_C a cI cL cB cZ z S) s.heap.size = A at hD ⊢
  have hA : ∀ q : Nat, s.heap.size ≤ q → A q := fun q h => by rw [← hAe]; exact Or.inr h
  have hl := lv_entry ([.ref (a 14), .int (v1)]) (n := 2) (Nat.le_of_ble_eq_true rfl)
  rw [lg_entry_eq]
  generalize (lg_sl ([.ref (a 14), .int (v1)]) ++ List.replicate (2 - (lg_sl ([.ref (a 14), .int (v1)])).length) Slot.unset).toArray = ls at hl ⊢
  have hl : lv_has ls 2 [(0, .ref (a 14)), (1, .int (v1))] := hl
  refine zw_X2_firstPart_0 (A := A) ⟨B.exec, B.bytes, hml, hown, hts, hK, hA⟩ (fun H locs ls pc dg hP hD hS => ?_) v1 s.heap [] ls h hl hP hD va_S.rf
  exact W.iret B.exec B.bytes hr (fun t ht hW => ⟨⟨_, _, rfl, ⟨rfl, rfl⟩, by rw [ht]; exact hP, va_K.moved hW.alike hK, hD⟩, hS.F ht⟩) hS.2.2 dg
theorem zt_X2_firstPart_c : zc_X2_firstPart ∈ mq_T := mq_T_mem (mq_t3 (List.mem_of_getElem? (i := 102) rfl)) rfl
theorem zt_X2_firstPart_i : Cond.instanceMethod yX2_firstPart ∈ mq_T := mq_T_mem (mq_t3 (List.mem_of_getElem? (i := 101) rfl)) rfl
theorem zt_X2_firstPart_s : Cond.selects RX2 yX2_firstPart yX2_firstPart ∈ mq_T := mq_T_at 21 (by decide +kernel)
set_option maxHeartbeats 4000000 in
theorem zk_X2_firstPart {p : Program} {l : Launch} {e : Env} {R : Room} {s : State} {m : MethodId} {args : Array Value} {below : List Frame} {meth : Method} {c : Code} {A : Nat → Prop} {D : va_G} {a z : Nat → Nat} {cI cL cB cZ : ClassId} {Q : State → Prop} {cc : ByteArray} {nL idx pc N : Nat} {own : String} {c1 : Cond} {H : Heap} {locs : List Loc} {ls : Array Slot} {rest : List Value} {S : mq_St} {res : Int32} {v1 : Int32} (C : mq_C p s m args c A D cI cL cB cZ cc nL own c1) (hlk : Cond.methodLink own idx yX2_firstPart ∈ mq_T) (hR : zr_X2_firstPart.frames + 1 ≤ R.frames ∧ 8 + (2 + 11) + zr_X2_firstPart.locals ≤ R.locals) (h : zf_X2_firstPart N z v1 S = some res) (hP : va_P D vwCl (wd_C a cI cL cB cZ z S) H) (hD : va_D A (wd_C a cI cL cB cZ z S)) (hS : va_S A s.heap H locs) (hls : ls.size = nL) (hrest : (rest.map fun v => v.category).sum ≤ 8) (hdg : decode cc pc = .ok (.invokevirtual idx, 3)) (kk : ∀ (H1 : Heap) (locs1 : List Loc), va_P D vwCl (wd_C a cI cL cB cZ z S) H1 → va_D A (wd_C a cI cL cB cZ z S) → va_S A s.heap H1 locs1 → W p l e R s m args below meth c H1 locs1 0 0 Q (F0 m (pc + 3) ls (.int res :: rest))) : W p l e R s m args below meth c H locs 0 0 Q (F0 m pc ls (.int (v1) :: .ref (a 14) :: rest)) := by
  obtain ⟨hx, hb, hml, hown, hts, hK, hA⟩ := C
  have hFc := mq_freeI hD hS hA
  refine va_calli (va_runV (As := [.int (v1)]) (rest := rest) ⟨hx, hb, hml, hown, hts⟩ (zm_X2_firstPart l D a z cI cL cB cZ H.size N v1 S res h) (cwV 1 hts (mq_goodL (mq_wsV hlk zt_X2_firstPart_i zt_X2_firstPart_s zt_ini_X2 zt_X2_firstPart_c)) rfl rfl rfl (by decide +kernel) hR) ⟨fun a U g mk q => ⟨q.1, q.2.1, q.2.2.1, va_K.moved (u := U) (U := U.calling g mk a) (Vm.Alike.refl U.vm) q.2.2.2.1, q.2.2.2.2⟩, zy_C_14 hK hP, fun U hU hW => ⟨rfl, by rw [hU], by rw [hU]; exact hP, va_K.moved hW.alike hK, hD.weaken (fun _ _ _ _ => trivial)⟩⟩ rfl rfl hls rfl (lv_room hrest) hdg ⟨Nat.zero_le _, Nat.zero_le _⟩) hS (fun q _ h => hFc q h) hFc (fun r u t H1 locs ht hvm hw hB hz1 hk1 hS => ?_)
  obtain ⟨rfl, rfl⟩ := hw
  obtain ⟨hP1, hK1, hD1⟩ := hB
  rw [ht] at hP1
  exact kk H1 locs hP1 (hD1.weaken (fun _ _ _ h => hFc _ h)) hS
/-! ModalDesk$Draft.numberOf(I)I -/
def zr_X2_numberOf : Room := { frames := 1, cells := 0, slots := 0, locals := 21 }
def zc_X2_numberOf : Cond := .code yX2_numberOf cX2_numberOf 2 (some .int)
def zf_X2_numberOf (N : Nat) (z : Nat → Nat) (v1 : Int32) (S : mq_St) : Option (Int32) := (mq_cp (zf_X2_isMark N z (v1) S) (fun q1 => (if q1 = (0 : Int32) then (some ((-1 : Int32))) else (mq_ck (v1) 300 (some ((S.2.1 11 (v1).toNatClampNeg)))))))
set_option maxHeartbeats 4000000 in
set_option maxRecDepth 100000 in
theorem zw_X2_numberOf_0 {p : Program} {l : Launch} {e : Env} {s : State} {m : MethodId} {args : Array Value} {below : List Frame} {meth : Method} {c : Code} {A : Nat → Prop} {D : va_G} {a z : Nat → Nat} {cI cL cB cZ : ClassId} {Q : State → Prop} {N : Nat} {S : mq_St} {res : Int32} (C : mq_C p s m args c A D cI cL cB cZ cX2_numberOf 2 RX2 zc_X2_numberOf) (hret : ∀ (H : Heap) (locs : List Loc) (ls : Array Slot) (pc : Nat), decode cX2_numberOf pc = .ok (.ireturn, 1) → va_P D vwCl (wd_C a cI cL cB cZ z S) H → va_D A (wd_C a cI cL cB cZ z S) → va_S A s.heap H locs → W p l e zr_X2_numberOf s m args below meth c H locs 0 0 Q (F0 m pc ls [.int res])) (v1 : Int32) (H : Heap) (locs : List Loc) (ls : Array Slot) (h : zf_X2_numberOf N z v1 S = some res) (hl : lv_has ls 2 [(0, .ref (a 14)), (1, .int (v1))]) (hP : va_P D vwCl (wd_C a cI cL cB cZ z S) H) (hD : va_D A (wd_C a cI cL cB cZ z S)) (hS : va_S A s.heap H locs) : W p l e zr_X2_numberOf s m args below meth c H locs 0 0 Q (F0 m 0 ls []) := by
  obtain ⟨hx, hb, hml, hown, hts, hK, hA⟩ := id C
  unfold zf_X2_numberOf at h
  refine lv_aload_n hx hb dX2_numberOf_0 rfl (lv_at hl 0 rfl) ?_
  refine lv_iload_n hx hb dX2_numberOf_1 rfl (lv_at hl 1 rfl) ?_
  obtain ⟨q1, hc2, h⟩ := mq_cp_go h
  refine zk_X2_isMark C zt_m_X2_67 ⟨by decide, by decide⟩ hc2 hP hD hS hl.1 (Nat.le_of_ble_eq_true rfl) dX2_numberOf_2 (fun H locs hP hD hS => ?_)
  refine lv_if_eq (tgt := 17) hx hb dX2_numberOf_5 (by decide) (fun c4 => ?_) (fun c4 => ?_)
  · replace h := mq_it c4 h
    refine lv_iconst (v := (-1 : Int32)) hx hb dX2_numberOf_17 (by decide) ?_
    cases h
    exact hret H locs ls 18 dX2_numberOf_18 hP hD hS
  · replace h := mq_if c4 h
    refine lv_aload_n hx hb dX2_numberOf_8 rfl (lv_at hl 0 rfl) ?_
    refine va_get (D := D) (ci := 2) (v := .ref (a 18)) (C := RX2) (T := TX2) (N := 8) hx hb hts (zi_X2 _) hown hK hP 14 rfl rfl 4 (by decide) (hts _ (List.mem_cons_of_mem _ zt_f_X2_21)) (fun _ h9 => h9) rfl dX2_numberOf_9 ?_
    refine lv_iload_n hx hb dX2_numberOf_12 rfl (lv_at hl 1 rfl) ?_
    have hi3 := mq_ck_in h
    replace h := mq_ck_go h
    refine va_iald (f := S.2.1 11) hx hb hK hP 18 0 rfl rfl hi3 dX2_numberOf_13 ?_
    refine lv_goto (tgt := 18) hx hb dX2_numberOf_14 (by decide) ?_
    cases h
    exact hret H locs ls 18 dX2_numberOf_18 hP hD hS
set_option maxHeartbeats 4000000 in
set_option maxRecDepth 100000 in
theorem zm_X2_numberOf (l : Launch) (D : va_G) (a z : Nat → Nat) (cI cL cB cZ : ClassId) (sz N : Nat) (v1 : Int32) (S : mq_St) (res : Int32) (h : zf_X2_numberOf N z v1 S = some res) : Met l yX2_numberOf (zc_X2_numberOf :: mq_T) zr_X2_numberOf (va_Pc [.ref (a 14), .int (v1)] (fun U => U.heap.size = sz ∧ va_P D vwCl (wd_C a cI cL cB cZ z S) U.heap ∧ va_K D vwCl (mq_tys cI cL cB cZ) U ∧ va_D (fun _ => True) (wd_C a cI cL cB cZ z S))) (va_Qi (fun (r : Int32) (u : mq_St) => r = res ∧ u = S) (fun u t => va_P D vwCl (wd_C a cI cL cB cZ z u) t.heap ∧ va_K D vwCl (mq_tys cI cL cB cZ) t ∧ va_D (va_A (wd_C a cI cL cB cZ z S) sz) (wd_C a cI cL cB cZ z u)) (va_A (wd_C a cI cL cB cZ z S) sz)) 0 0 (va_A (wd_C a cI cL cB cZ z S) sz) := by
  refine Met.ofW (cc := cX2_numberOf) (maxL := 2) (ret := (some .int)) (by decide) rfl ?_
  intro p e s m args below meth c s₁ B hml hv
  obtain ⟨rfl, hsz, hP, hK, hD0⟩ := hv
  have hr := B.returns
  have hlocks := B.notSynchronized
  have hts := atoms_spec (ws := zc_X2_numberOf :: mq_T) B.pre
  have hown : s.vm.findClass RX2 = some m.cls := findClass_of_methodNamed B.named
  subst hsz
  have hD := hD0.self (sz := s.heap.size)
  generalize hAe : va_A (wd_C a cI cL cB cZ z S) s.heap.size = A at hD ⊢
  have hA : ∀ q : Nat, s.heap.size ≤ q → A q := fun q h => by rw [← hAe]; exact Or.inr h
  have hl := lv_entry ([.ref (a 14), .int (v1)]) (n := 2) (Nat.le_of_ble_eq_true rfl)
  rw [lg_entry_eq]
  generalize (lg_sl ([.ref (a 14), .int (v1)]) ++ List.replicate (2 - (lg_sl ([.ref (a 14), .int (v1)])).length) Slot.unset).toArray = ls at hl ⊢
  have hl : lv_has ls 2 [(0, .ref (a 14)), (1, .int (v1))] := hl
  refine zw_X2_numberOf_0 (A := A) ⟨B.exec, B.bytes, hml, hown, hts, hK, hA⟩ (fun H locs ls pc dg hP hD hS => ?_) v1 s.heap [] ls h hl hP hD va_S.rf
  exact W.iret B.exec B.bytes hr (fun t ht hW => ⟨⟨_, _, rfl, ⟨rfl, rfl⟩, by rw [ht]; exact hP, va_K.moved hW.alike hK, hD⟩, hS.F ht⟩) hS.2.2 dg
theorem zt_X2_numberOf_c : zc_X2_numberOf ∈ mq_T := mq_T_mem (mq_t3 (List.mem_of_getElem? (i := 110) rfl)) rfl
theorem zt_X2_numberOf_i : Cond.instanceMethod yX2_numberOf ∈ mq_T := mq_T_mem (mq_t3 (List.mem_of_getElem? (i := 109) rfl)) rfl
theorem zt_X2_numberOf_s : Cond.selects RX2 yX2_numberOf yX2_numberOf ∈ mq_T := mq_T_at 23 (by decide +kernel)
set_option maxHeartbeats 4000000 in
theorem zk_X2_numberOf {p : Program} {l : Launch} {e : Env} {R : Room} {s : State} {m : MethodId} {args : Array Value} {below : List Frame} {meth : Method} {c : Code} {A : Nat → Prop} {D : va_G} {a z : Nat → Nat} {cI cL cB cZ : ClassId} {Q : State → Prop} {cc : ByteArray} {nL idx pc N : Nat} {own : String} {c1 : Cond} {H : Heap} {locs : List Loc} {ls : Array Slot} {rest : List Value} {S : mq_St} {res : Int32} {v1 : Int32} (C : mq_C p s m args c A D cI cL cB cZ cc nL own c1) (hlk : Cond.methodLink own idx yX2_numberOf ∈ mq_T) (hR : zr_X2_numberOf.frames + 1 ≤ R.frames ∧ 8 + (2 + 11) + zr_X2_numberOf.locals ≤ R.locals) (h : zf_X2_numberOf N z v1 S = some res) (hP : va_P D vwCl (wd_C a cI cL cB cZ z S) H) (hD : va_D A (wd_C a cI cL cB cZ z S)) (hS : va_S A s.heap H locs) (hls : ls.size = nL) (hrest : (rest.map fun v => v.category).sum ≤ 8) (hdg : decode cc pc = .ok (.invokevirtual idx, 3)) (kk : ∀ (H1 : Heap) (locs1 : List Loc), va_P D vwCl (wd_C a cI cL cB cZ z S) H1 → va_D A (wd_C a cI cL cB cZ z S) → va_S A s.heap H1 locs1 → W p l e R s m args below meth c H1 locs1 0 0 Q (F0 m (pc + 3) ls (.int res :: rest))) : W p l e R s m args below meth c H locs 0 0 Q (F0 m pc ls (.int (v1) :: .ref (a 14) :: rest)) := by
  obtain ⟨hx, hb, hml, hown, hts, hK, hA⟩ := C
  have hFc := mq_freeI hD hS hA
  refine va_calli (va_runV (As := [.int (v1)]) (rest := rest) ⟨hx, hb, hml, hown, hts⟩ (zm_X2_numberOf l D a z cI cL cB cZ H.size N v1 S res h) (cwV 1 hts (mq_goodL (mq_wsV hlk zt_X2_numberOf_i zt_X2_numberOf_s zt_ini_X2 zt_X2_numberOf_c)) rfl rfl rfl (by decide +kernel) hR) ⟨fun a U g mk q => ⟨q.1, q.2.1, q.2.2.1, va_K.moved (u := U) (U := U.calling g mk a) (Vm.Alike.refl U.vm) q.2.2.2.1, q.2.2.2.2⟩, zy_C_14 hK hP, fun U hU hW => ⟨rfl, by rw [hU], by rw [hU]; exact hP, va_K.moved hW.alike hK, hD.weaken (fun _ _ _ _ => trivial)⟩⟩ rfl rfl hls rfl (lv_room hrest) hdg ⟨Nat.zero_le _, Nat.zero_le _⟩) hS (fun q _ h => hFc q h) hFc (fun r u t H1 locs ht hvm hw hB hz1 hk1 hS => ?_)
  obtain ⟨rfl, rfl⟩ := hw
  obtain ⟨hP1, hK1, hD1⟩ := hB
  rw [ht] at hP1
  exact kk H1 locs hP1 (hD1.weaken (fun _ _ _ h => hFc _ h)) hS
/-! ModalDesk$Draft.secondPart(I)I -/
def zr_X2_secondPart : Room := { frames := 1, cells := 0, slots := 0, locals := 21 }
def zc_X2_secondPart : Cond := .code yX2_secondPart cX2_secondPart 2 (some .int)
def zf_X2_secondPart (N : Nat) (z : Nat → Nat) (v1 : Int32) (S : mq_St) : Option (Int32) := (mq_cp (zf_X2_isMark N z (v1) S) (fun q1 => (if q1 = (0 : Int32) then (some ((-1 : Int32))) else (mq_ck ((v1 >>> ((1 : Int32) &&& (31 : Int32)))) 150 (if (S.2.1 8 ((v1 >>> ((1 : Int32) &&& (31 : Int32)))).toNatClampNeg) = (4 : Int32) then (mq_ck ((v1 >>> ((1 : Int32) &&& (31 : Int32)))) 150 (some (((S.2.1 10 ((v1 >>> ((1 : Int32) &&& (31 : Int32)))).toNatClampNeg) ^^^ (v1 &&& (1 : Int32)))))) else (some ((-1 : Int32))))))))
set_option maxHeartbeats 4000000 in
set_option maxRecDepth 100000 in
theorem zw_X2_secondPart_0 {p : Program} {l : Launch} {e : Env} {s : State} {m : MethodId} {args : Array Value} {below : List Frame} {meth : Method} {c : Code} {A : Nat → Prop} {D : va_G} {a z : Nat → Nat} {cI cL cB cZ : ClassId} {Q : State → Prop} {N : Nat} {S : mq_St} {res : Int32} (C : mq_C p s m args c A D cI cL cB cZ cX2_secondPart 2 RX2 zc_X2_secondPart) (hret : ∀ (H : Heap) (locs : List Loc) (ls : Array Slot) (pc : Nat), decode cX2_secondPart pc = .ok (.ireturn, 1) → va_P D vwCl (wd_C a cI cL cB cZ z S) H → va_D A (wd_C a cI cL cB cZ z S) → va_S A s.heap H locs → W p l e zr_X2_secondPart s m args below meth c H locs 0 0 Q (F0 m pc ls [.int res])) (v1 : Int32) (H : Heap) (locs : List Loc) (ls : Array Slot) (h : zf_X2_secondPart N z v1 S = some res) (hl : lv_has ls 2 [(0, .ref (a 14)), (1, .int (v1))]) (hP : va_P D vwCl (wd_C a cI cL cB cZ z S) H) (hD : va_D A (wd_C a cI cL cB cZ z S)) (hS : va_S A s.heap H locs) : W p l e zr_X2_secondPart s m args below meth c H locs 0 0 Q (F0 m 0 ls []) := by
  obtain ⟨hx, hb, hml, hown, hts, hK, hA⟩ := id C
  unfold zf_X2_secondPart at h
  refine lv_aload_n hx hb dX2_secondPart_0 rfl (lv_at hl 0 rfl) ?_
  refine lv_iload_n hx hb dX2_secondPart_1 rfl (lv_at hl 1 rfl) ?_
  obtain ⟨q1, hc2, h⟩ := mq_cp_go h
  refine zk_X2_isMark C zt_m_X2_67 ⟨by decide, by decide⟩ hc2 hP hD hS hl.1 (Nat.le_of_ble_eq_true rfl) dX2_secondPart_2 (fun H locs hP hD hS => ?_)
  refine lv_if_eq (tgt := 35) hx hb dX2_secondPart_5 (by decide) (fun c6 => ?_) (fun c6 => ?_)
  · replace h := mq_it c6 h
    refine lv_iconst (v := (-1 : Int32)) hx hb dX2_secondPart_35 (by decide) ?_
    cases h
    exact hret H locs ls 36 dX2_secondPart_36 hP hD hS
  · replace h := mq_if c6 h
    refine lv_aload_n hx hb dX2_secondPart_8 rfl (lv_at hl 0 rfl) ?_
    refine va_get (D := D) (ci := 2) (v := .ref (a 15)) (C := RX2) (T := TX2) (N := 8) hx hb hts (zi_X2 _) hown hK hP 14 rfl rfl 1 (by decide) (hts _ (List.mem_cons_of_mem _ zt_f_X2_11)) (fun _ h9 => h9) rfl dX2_secondPart_9 ?_
    refine lv_iload_n hx hb dX2_secondPart_12 rfl (lv_at hl 1 rfl) ?_
    refine lv_iconst (v := (1 : Int32)) hx hb dX2_secondPart_13 (by decide) ?_
    refine lv_ishr hx hb dX2_secondPart_14 ?_
    have hi3 := mq_ck_in h
    replace h := mq_ck_go h
    refine va_iald (f := S.2.1 8) hx hb hK hP 15 0 rfl rfl hi3 dX2_secondPart_15 ?_
    refine lv_iconst (v := (4 : Int32)) hx hb dX2_secondPart_16 (by decide) ?_
    refine lv_icmp_ne (tgt := 35) hx hb dX2_secondPart_17 (by decide) (fun c5 => ?_) (fun c5 => ?_)
    · replace h := mq_if c5 h
      refine lv_iconst (v := (-1 : Int32)) hx hb dX2_secondPart_35 (by decide) ?_
      cases h
      exact hret H locs ls 36 dX2_secondPart_36 hP hD hS
    · replace h := mq_it (by simpa using c5) h
      refine lv_aload_n hx hb dX2_secondPart_20 rfl (lv_at hl 0 rfl) ?_
      refine va_get (D := D) (ci := 2) (v := .ref (a 17)) (C := RX2) (T := TX2) (N := 8) hx hb hts (zi_X2 _) hown hK hP 14 rfl rfl 3 (by decide) (hts _ (List.mem_cons_of_mem _ zt_f_X2_18)) (fun _ h9 => h9) rfl dX2_secondPart_21 ?_
      refine lv_iload_n hx hb dX2_secondPart_24 rfl (lv_at hl 1 rfl) ?_
      refine lv_iconst (v := (1 : Int32)) hx hb dX2_secondPart_25 (by decide) ?_
      refine lv_ishr hx hb dX2_secondPart_26 ?_
      have hi4 := mq_ck_in h
      replace h := mq_ck_go h
      refine va_iald (f := S.2.1 10) hx hb hK hP 17 0 rfl rfl hi4 dX2_secondPart_27 ?_
      refine lv_iload_n hx hb dX2_secondPart_28 rfl (lv_at hl 1 rfl) ?_
      refine lv_iconst (v := (1 : Int32)) hx hb dX2_secondPart_29 (by decide) ?_
      refine lv_iand hx hb dX2_secondPart_30 ?_
      refine lv_ixor hx hb dX2_secondPart_31 ?_
      refine lv_goto (tgt := 36) hx hb dX2_secondPart_32 (by decide) ?_
      cases h
      exact hret H locs ls 36 dX2_secondPart_36 hP hD hS
set_option maxHeartbeats 4000000 in
set_option maxRecDepth 100000 in
theorem zm_X2_secondPart (l : Launch) (D : va_G) (a z : Nat → Nat) (cI cL cB cZ : ClassId) (sz N : Nat) (v1 : Int32) (S : mq_St) (res : Int32) (h : zf_X2_secondPart N z v1 S = some res) : Met l yX2_secondPart (zc_X2_secondPart :: mq_T) zr_X2_secondPart (va_Pc [.ref (a 14), .int (v1)] (fun U => U.heap.size = sz ∧ va_P D vwCl (wd_C a cI cL cB cZ z S) U.heap ∧ va_K D vwCl (mq_tys cI cL cB cZ) U ∧ va_D (fun _ => True) (wd_C a cI cL cB cZ z S))) (va_Qi (fun (r : Int32) (u : mq_St) => r = res ∧ u = S) (fun u t => va_P D vwCl (wd_C a cI cL cB cZ z u) t.heap ∧ va_K D vwCl (mq_tys cI cL cB cZ) t ∧ va_D (va_A (wd_C a cI cL cB cZ z S) sz) (wd_C a cI cL cB cZ z u)) (va_A (wd_C a cI cL cB cZ z S) sz)) 0 0 (va_A (wd_C a cI cL cB cZ z S) sz) := by
  refine Met.ofW (cc := cX2_secondPart) (maxL := 2) (ret := (some .int)) (by decide) rfl ?_
  intro p e s m args below meth c s₁ B hml hv
  obtain ⟨rfl, hsz, hP, hK, hD0⟩ := hv
  have hr := B.returns
  have hlocks := B.notSynchronized
  have hts := atoms_spec (ws := zc_X2_secondPart :: mq_T) B.pre
  have hown : s.vm.findClass RX2 = some m.cls := findClass_of_methodNamed B.named
  subst hsz
  have hD := hD0.self (sz := s.heap.size)
  generalize hAe : va_A (wd_C a cI cL cB cZ z S) s.heap.size = A at hD ⊢
  have hA : ∀ q : Nat, s.heap.size ≤ q → A q := fun q h => by rw [← hAe]; exact Or.inr h
  have hl := lv_entry ([.ref (a 14), .int (v1)]) (n := 2) (Nat.le_of_ble_eq_true rfl)
  rw [lg_entry_eq]
  generalize (lg_sl ([.ref (a 14), .int (v1)]) ++ List.replicate (2 - (lg_sl ([.ref (a 14), .int (v1)])).length) Slot.unset).toArray = ls at hl ⊢
  have hl : lv_has ls 2 [(0, .ref (a 14)), (1, .int (v1))] := hl
  refine zw_X2_secondPart_0 (A := A) ⟨B.exec, B.bytes, hml, hown, hts, hK, hA⟩ (fun H locs ls pc dg hP hD hS => ?_) v1 s.heap [] ls h hl hP hD va_S.rf
  exact W.iret B.exec B.bytes hr (fun t ht hW => ⟨⟨_, _, rfl, ⟨rfl, rfl⟩, by rw [ht]; exact hP, va_K.moved hW.alike hK, hD⟩, hS.F ht⟩) hS.2.2 dg
theorem zt_X2_secondPart_c : zc_X2_secondPart ∈ mq_T := mq_T_mem (mq_t3 (List.mem_of_getElem? (i := 114) rfl)) rfl
theorem zt_X2_secondPart_i : Cond.instanceMethod yX2_secondPart ∈ mq_T := mq_T_mem (mq_t3 (List.mem_of_getElem? (i := 113) rfl)) rfl
theorem zt_X2_secondPart_s : Cond.selects RX2 yX2_secondPart yX2_secondPart ∈ mq_T := mq_T_at 24 (by decide +kernel)
set_option maxHeartbeats 4000000 in
theorem zk_X2_secondPart {p : Program} {l : Launch} {e : Env} {R : Room} {s : State} {m : MethodId} {args : Array Value} {below : List Frame} {meth : Method} {c : Code} {A : Nat → Prop} {D : va_G} {a z : Nat → Nat} {cI cL cB cZ : ClassId} {Q : State → Prop} {cc : ByteArray} {nL idx pc N : Nat} {own : String} {c1 : Cond} {H : Heap} {locs : List Loc} {ls : Array Slot} {rest : List Value} {S : mq_St} {res : Int32} {v1 : Int32} (C : mq_C p s m args c A D cI cL cB cZ cc nL own c1) (hlk : Cond.methodLink own idx yX2_secondPart ∈ mq_T) (hR : zr_X2_secondPart.frames + 1 ≤ R.frames ∧ 8 + (2 + 11) + zr_X2_secondPart.locals ≤ R.locals) (h : zf_X2_secondPart N z v1 S = some res) (hP : va_P D vwCl (wd_C a cI cL cB cZ z S) H) (hD : va_D A (wd_C a cI cL cB cZ z S)) (hS : va_S A s.heap H locs) (hls : ls.size = nL) (hrest : (rest.map fun v => v.category).sum ≤ 8) (hdg : decode cc pc = .ok (.invokevirtual idx, 3)) (kk : ∀ (H1 : Heap) (locs1 : List Loc), va_P D vwCl (wd_C a cI cL cB cZ z S) H1 → va_D A (wd_C a cI cL cB cZ z S) → va_S A s.heap H1 locs1 → W p l e R s m args below meth c H1 locs1 0 0 Q (F0 m (pc + 3) ls (.int res :: rest))) : W p l e R s m args below meth c H locs 0 0 Q (F0 m pc ls (.int (v1) :: .ref (a 14) :: rest)) := by
  obtain ⟨hx, hb, hml, hown, hts, hK, hA⟩ := C
  have hFc := mq_freeI hD hS hA
  refine va_calli (va_runV (As := [.int (v1)]) (rest := rest) ⟨hx, hb, hml, hown, hts⟩ (zm_X2_secondPart l D a z cI cL cB cZ H.size N v1 S res h) (cwV 1 hts (mq_goodL (mq_wsV hlk zt_X2_secondPart_i zt_X2_secondPart_s zt_ini_X2 zt_X2_secondPart_c)) rfl rfl rfl (by decide +kernel) hR) ⟨fun a U g mk q => ⟨q.1, q.2.1, q.2.2.1, va_K.moved (u := U) (U := U.calling g mk a) (Vm.Alike.refl U.vm) q.2.2.2.1, q.2.2.2.2⟩, zy_C_14 hK hP, fun U hU hW => ⟨rfl, by rw [hU], by rw [hU]; exact hP, va_K.moved hW.alike hK, hD.weaken (fun _ _ _ _ => trivial)⟩⟩ rfl rfl hls rfl (lv_room hrest) hdg ⟨Nat.zero_le _, Nat.zero_le _⟩) hS (fun q _ h => hFc q h) hFc (fun r u t H1 locs ht hvm hw hB hz1 hk1 hS => ?_)
  obtain ⟨rfl, rfl⟩ := hw
  obtain ⟨hP1, hK1, hD1⟩ := hB
  rw [ht] at hP1
  exact kk H1 locs hP1 (hD1.weaken (fun _ _ _ h => hFc _ h)) hS
theorem zt_m_X2_70 : Cond.methodLink RX2 70 yX2_firstPart ∈ mq_T := mq_T_mem (mq_t3 (List.mem_of_getElem? (i := 99) rfl)) rfl
theorem zt_m_X2_59 : Cond.methodLink RX2 59 yX2_numberOf ∈ mq_T := mq_T_mem (mq_t3 (List.mem_of_getElem? (i := 107) rfl)) rfl
theorem zt_m_X2_73 : Cond.methodLink RX2 73 yX2_secondPart ∈ mq_T := mq_T_mem (mq_t3 (List.mem_of_getElem? (i := 111) rfl)) rfl
/-! ModalDesk$Draft.partToMake(I)I -/
def zr_X2_partToMake : Room := { frames := 2, cells := 0, slots := 0, locals := 42 }
def zc_X2_partToMake : Cond := .code yX2_partToMake cX2_partToMake 4 (some .int)
def zf_X2_partToMake_22 (N : Nat) (z : Nat → Nat) (S : mq_St) (v1 : Int32) : Option (Int32) := (mq_cp (zf_X2_secondPart N z (v1) S) (fun q8 => (mq_nI (q8) (fun x10 => (if x10 = (-1 : Int32) then (some ((-1 : Int32))) else (mq_cp (zf_X2_numberOf N z (x10) S) (fun q11 => (if q11 = (-1 : Int32) then (some (x10)) else (some ((-1 : Int32)))))))))))
def zf_X2_partToMake (N : Nat) (z : Nat → Nat) (v1 : Int32) (S : mq_St) : Option (Int32) := (mq_cp (zf_X2_firstPart N z (v1) S) (fun q1 => (mq_nI (q1) (fun x3 => (if x3 = (-1 : Int32) then (zf_X2_partToMake_22 N z S (v1)) else (mq_cp (zf_X2_numberOf N z (x3) S) (fun q4 => (if q4 = (-1 : Int32) then (some (x3)) else (zf_X2_partToMake_22 N z S (v1))))))))))
set_option maxHeartbeats 4000000 in
set_option maxRecDepth 100000 in
theorem zw_X2_partToMake_22 {p : Program} {l : Launch} {e : Env} {s : State} {m : MethodId} {args : Array Value} {below : List Frame} {meth : Method} {c : Code} {A : Nat → Prop} {D : va_G} {a z : Nat → Nat} {cI cL cB cZ : ClassId} {Q : State → Prop} {N : Nat} {S : mq_St} {res : Int32} (C : mq_C p s m args c A D cI cL cB cZ cX2_partToMake 4 RX2 zc_X2_partToMake) (hret : ∀ (H : Heap) (locs : List Loc) (ls : Array Slot) (pc : Nat), decode cX2_partToMake pc = .ok (.ireturn, 1) → va_P D vwCl (wd_C a cI cL cB cZ z S) H → va_D A (wd_C a cI cL cB cZ z S) → va_S A s.heap H locs → W p l e zr_X2_partToMake s m args below meth c H locs 0 0 Q (F0 m pc ls [.int res])) (v1 : Int32) (H : Heap) (locs : List Loc) (ls : Array Slot) (h : zf_X2_partToMake_22 N z S v1 = some res) (hl : lv_has ls 4 [(0, .ref (a 14)), (1, .int (v1))]) (hP : va_P D vwCl (wd_C a cI cL cB cZ z S) H) (hD : va_D A (wd_C a cI cL cB cZ z S)) (hS : va_S A s.heap H locs) : W p l e zr_X2_partToMake s m args below meth c H locs 0 0 Q (F0 m 22 ls []) := by
  obtain ⟨hx, hb, hml, hown, hts, hK, hA⟩ := id C
  unfold zf_X2_partToMake_22 at h
  refine lv_aload_n hx hb dX2_partToMake_22 rfl (lv_at hl 0 rfl) ?_
  refine lv_iload_n hx hb dX2_partToMake_23 rfl (lv_at hl 1 rfl) ?_
  obtain ⟨q8, hc9, h⟩ := mq_cp_go h
  refine zk_X2_secondPart C zt_m_X2_73 ⟨by decide, by decide⟩ hc9 hP hD hS hl.1 (Nat.le_of_ble_eq_true rfl) dX2_partToMake_24 (fun H locs hP hD hS => ?_)
  refine lv_topi (fun x10 ex10 => ?_)
  replace h := mq_nI_go ex10 h
  refine lv_istore_n (lv' := [(3, .int (x10)), (0, .ref (a 14)), (1, .int (v1))]) hx hb dX2_partToMake_27 rfl hl (by decide) rfl (fun ls hl => ?_)
  refine lv_iload_n hx hb dX2_partToMake_28 rfl (lv_at hl 0 rfl) ?_
  refine lv_iconst (v := (-1 : Int32)) hx hb dX2_partToMake_29 (by decide) ?_
  refine lv_icmp_eq (tgt := 46) hx hb dX2_partToMake_30 (by decide) (fun c14 => ?_) (fun c14 => ?_)
  · replace h := mq_it c14 h
    refine lv_iconst (v := (-1 : Int32)) hx hb dX2_partToMake_46 (by decide) ?_
    cases h
    exact hret H locs ls 47 dX2_partToMake_47 hP hD hS
  · replace h := mq_if c14 h
    refine lv_aload_n hx hb dX2_partToMake_33 rfl (lv_at hl 1 rfl) ?_
    refine lv_iload_n hx hb dX2_partToMake_34 rfl (lv_at hl 0 rfl) ?_
    obtain ⟨q11, hc12, h⟩ := mq_cp_go h
    refine zk_X2_numberOf C zt_m_X2_59 ⟨by decide, by decide⟩ hc12 hP hD hS hl.1 (Nat.le_of_ble_eq_true rfl) dX2_partToMake_35 (fun H locs hP hD hS => ?_)
    refine lv_iconst (v := (-1 : Int32)) hx hb dX2_partToMake_38 (by decide) ?_
    refine lv_icmp_ne (tgt := 46) hx hb dX2_partToMake_39 (by decide) (fun c13 => ?_) (fun c13 => ?_)
    · replace h := mq_if c13 h
      refine lv_iconst (v := (-1 : Int32)) hx hb dX2_partToMake_46 (by decide) ?_
      cases h
      exact hret H locs ls 47 dX2_partToMake_47 hP hD hS
    · replace h := mq_it (by simpa using c13) h
      refine lv_iload_n hx hb dX2_partToMake_42 rfl (lv_at hl 0 rfl) ?_
      refine lv_goto (tgt := 47) hx hb dX2_partToMake_43 (by decide) ?_
      cases h
      exact hret H locs ls 47 dX2_partToMake_47 hP hD hS
set_option maxHeartbeats 4000000 in
set_option maxRecDepth 100000 in
theorem zw_X2_partToMake_0 {p : Program} {l : Launch} {e : Env} {s : State} {m : MethodId} {args : Array Value} {below : List Frame} {meth : Method} {c : Code} {A : Nat → Prop} {D : va_G} {a z : Nat → Nat} {cI cL cB cZ : ClassId} {Q : State → Prop} {N : Nat} {S : mq_St} {res : Int32} (C : mq_C p s m args c A D cI cL cB cZ cX2_partToMake 4 RX2 zc_X2_partToMake) (hret : ∀ (H : Heap) (locs : List Loc) (ls : Array Slot) (pc : Nat), decode cX2_partToMake pc = .ok (.ireturn, 1) → va_P D vwCl (wd_C a cI cL cB cZ z S) H → va_D A (wd_C a cI cL cB cZ z S) → va_S A s.heap H locs → W p l e zr_X2_partToMake s m args below meth c H locs 0 0 Q (F0 m pc ls [.int res])) (v1 : Int32) (H : Heap) (locs : List Loc) (ls : Array Slot) (h : zf_X2_partToMake N z v1 S = some res) (hl : lv_has ls 4 [(0, .ref (a 14)), (1, .int (v1))]) (hP : va_P D vwCl (wd_C a cI cL cB cZ z S) H) (hD : va_D A (wd_C a cI cL cB cZ z S)) (hS : va_S A s.heap H locs) : W p l e zr_X2_partToMake s m args below meth c H locs 0 0 Q (F0 m 0 ls []) := by
  obtain ⟨hx, hb, hml, hown, hts, hK, hA⟩ := id C
  unfold zf_X2_partToMake at h
  refine lv_aload_n hx hb dX2_partToMake_0 rfl (lv_at hl 0 rfl) ?_
  refine lv_iload_n hx hb dX2_partToMake_1 rfl (lv_at hl 1 rfl) ?_
  obtain ⟨q1, hc2, h⟩ := mq_cp_go h
  refine zk_X2_firstPart C zt_m_X2_70 ⟨by decide, by decide⟩ hc2 hP hD hS hl.1 (Nat.le_of_ble_eq_true rfl) dX2_partToMake_2 (fun H locs hP hD hS => ?_)
  refine lv_topi (fun x3 ex3 => ?_)
  replace h := mq_nI_go ex3 h
  refine lv_istore_n (lv' := [(2, .int (x3)), (0, .ref (a 14)), (1, .int (v1))]) hx hb dX2_partToMake_5 rfl hl (by decide) rfl (fun ls hl => ?_)
  refine lv_iload_n hx hb dX2_partToMake_6 rfl (lv_at hl 0 rfl) ?_
  refine lv_iconst (v := (-1 : Int32)) hx hb dX2_partToMake_7 (by decide) ?_
  refine lv_icmp_eq (tgt := 22) hx hb dX2_partToMake_8 (by decide) (fun c7 => ?_) (fun c7 => ?_)
  · replace h := mq_it c7 h
    exact zw_X2_partToMake_22 C hret (v1) H locs ls h (lv_sub hl [1, 2] rfl) hP hD hS
  · replace h := mq_if c7 h
    refine lv_aload_n hx hb dX2_partToMake_11 rfl (lv_at hl 1 rfl) ?_
    refine lv_iload_n hx hb dX2_partToMake_12 rfl (lv_at hl 0 rfl) ?_
    obtain ⟨q4, hc5, h⟩ := mq_cp_go h
    refine zk_X2_numberOf C zt_m_X2_59 ⟨by decide, by decide⟩ hc5 hP hD hS hl.1 (Nat.le_of_ble_eq_true rfl) dX2_partToMake_13 (fun H locs hP hD hS => ?_)
    refine lv_iconst (v := (-1 : Int32)) hx hb dX2_partToMake_16 (by decide) ?_
    refine lv_icmp_ne (tgt := 22) hx hb dX2_partToMake_17 (by decide) (fun c6 => ?_) (fun c6 => ?_)
    · replace h := mq_if c6 h
      exact zw_X2_partToMake_22 C hret (v1) H locs ls h (lv_sub hl [1, 2] rfl) hP hD hS
    · replace h := mq_it (by simpa using c6) h
      refine lv_iload_n hx hb dX2_partToMake_20 rfl (lv_at hl 0 rfl) ?_
      cases h
      exact hret H locs ls 21 dX2_partToMake_21 hP hD hS
set_option maxHeartbeats 4000000 in
set_option maxRecDepth 100000 in
theorem zm_X2_partToMake (l : Launch) (D : va_G) (a z : Nat → Nat) (cI cL cB cZ : ClassId) (sz N : Nat) (v1 : Int32) (S : mq_St) (res : Int32) (h : zf_X2_partToMake N z v1 S = some res) : Met l yX2_partToMake (zc_X2_partToMake :: mq_T) zr_X2_partToMake (va_Pc [.ref (a 14), .int (v1)] (fun U => U.heap.size = sz ∧ va_P D vwCl (wd_C a cI cL cB cZ z S) U.heap ∧ va_K D vwCl (mq_tys cI cL cB cZ) U ∧ va_D (fun _ => True) (wd_C a cI cL cB cZ z S))) (va_Qi (fun (r : Int32) (u : mq_St) => r = res ∧ u = S) (fun u t => va_P D vwCl (wd_C a cI cL cB cZ z u) t.heap ∧ va_K D vwCl (mq_tys cI cL cB cZ) t ∧ va_D (va_A (wd_C a cI cL cB cZ z S) sz) (wd_C a cI cL cB cZ z u)) (va_A (wd_C a cI cL cB cZ z S) sz)) 0 0 (va_A (wd_C a cI cL cB cZ z S) sz) := by
  refine Met.ofW (cc := cX2_partToMake) (maxL := 4) (ret := (some .int)) (by decide) rfl ?_
  intro p e s m args below meth c s₁ B hml hv
  obtain ⟨rfl, hsz, hP, hK, hD0⟩ := hv
  have hr := B.returns
  have hlocks := B.notSynchronized
  have hts := atoms_spec (ws := zc_X2_partToMake :: mq_T) B.pre
  have hown : s.vm.findClass RX2 = some m.cls := findClass_of_methodNamed B.named
  subst hsz
  have hD := hD0.self (sz := s.heap.size)
  generalize hAe : va_A (wd_C a cI cL cB cZ z S) s.heap.size = A at hD ⊢
  have hA : ∀ q : Nat, s.heap.size ≤ q → A q := fun q h => by rw [← hAe]; exact Or.inr h
  have hl := lv_entry ([.ref (a 14), .int (v1)]) (n := 4) (Nat.le_of_ble_eq_true rfl)
  rw [lg_entry_eq]
  generalize (lg_sl ([.ref (a 14), .int (v1)]) ++ List.replicate (4 - (lg_sl ([.ref (a 14), .int (v1)])).length) Slot.unset).toArray = ls at hl ⊢
  have hl : lv_has ls 4 [(0, .ref (a 14)), (1, .int (v1))] := hl
  refine zw_X2_partToMake_0 (A := A) ⟨B.exec, B.bytes, hml, hown, hts, hK, hA⟩ (fun H locs ls pc dg hP hD hS => ?_) v1 s.heap [] ls h hl hP hD va_S.rf
  exact W.iret B.exec B.bytes hr (fun t ht hW => ⟨⟨_, _, rfl, ⟨rfl, rfl⟩, by rw [ht]; exact hP, va_K.moved hW.alike hK, hD⟩, hS.F ht⟩) hS.2.2 dg
theorem zt_X2_partToMake_c : zc_X2_partToMake ∈ mq_T := mq_T_mem (mq_t3 (List.mem_of_getElem? (i := 98) rfl)) rfl
theorem zt_X2_partToMake_i : Cond.instanceMethod yX2_partToMake ∈ mq_T := mq_T_mem (mq_t3 (List.mem_of_getElem? (i := 97) rfl)) rfl
theorem zt_X2_partToMake_s : Cond.selects RX2 yX2_partToMake yX2_partToMake ∈ mq_T := mq_T_at 20 (by decide +kernel)
set_option maxHeartbeats 4000000 in
theorem zk_X2_partToMake {p : Program} {l : Launch} {e : Env} {R : Room} {s : State} {m : MethodId} {args : Array Value} {below : List Frame} {meth : Method} {c : Code} {A : Nat → Prop} {D : va_G} {a z : Nat → Nat} {cI cL cB cZ : ClassId} {Q : State → Prop} {cc : ByteArray} {nL idx pc N : Nat} {own : String} {c1 : Cond} {H : Heap} {locs : List Loc} {ls : Array Slot} {rest : List Value} {S : mq_St} {res : Int32} {v1 : Int32} (C : mq_C p s m args c A D cI cL cB cZ cc nL own c1) (hlk : Cond.methodLink own idx yX2_partToMake ∈ mq_T) (hR : zr_X2_partToMake.frames + 1 ≤ R.frames ∧ 8 + (4 + 11) + zr_X2_partToMake.locals ≤ R.locals) (h : zf_X2_partToMake N z v1 S = some res) (hP : va_P D vwCl (wd_C a cI cL cB cZ z S) H) (hD : va_D A (wd_C a cI cL cB cZ z S)) (hS : va_S A s.heap H locs) (hls : ls.size = nL) (hrest : (rest.map fun v => v.category).sum ≤ 8) (hdg : decode cc pc = .ok (.invokevirtual idx, 3)) (kk : ∀ (H1 : Heap) (locs1 : List Loc), va_P D vwCl (wd_C a cI cL cB cZ z S) H1 → va_D A (wd_C a cI cL cB cZ z S) → va_S A s.heap H1 locs1 → W p l e R s m args below meth c H1 locs1 0 0 Q (F0 m (pc + 3) ls (.int res :: rest))) : W p l e R s m args below meth c H locs 0 0 Q (F0 m pc ls (.int (v1) :: .ref (a 14) :: rest)) := by
  obtain ⟨hx, hb, hml, hown, hts, hK, hA⟩ := C
  have hFc := mq_freeI hD hS hA
  refine va_calli (va_runV (As := [.int (v1)]) (rest := rest) ⟨hx, hb, hml, hown, hts⟩ (zm_X2_partToMake l D a z cI cL cB cZ H.size N v1 S res h) (cwV 1 hts (mq_goodL (mq_wsV hlk zt_X2_partToMake_i zt_X2_partToMake_s zt_ini_X2 zt_X2_partToMake_c)) rfl rfl rfl (by decide +kernel) hR) ⟨fun a U g mk q => ⟨q.1, q.2.1, q.2.2.1, va_K.moved (u := U) (U := U.calling g mk a) (Vm.Alike.refl U.vm) q.2.2.2.1, q.2.2.2.2⟩, zy_C_14 hK hP, fun U hU hW => ⟨rfl, by rw [hU], by rw [hU]; exact hP, va_K.moved hW.alike hK, hD.weaken (fun _ _ _ _ => trivial)⟩⟩ rfl rfl hls rfl (lv_room hrest) hdg ⟨Nat.zero_le _, Nat.zero_le _⟩) hS (fun q _ h => hFc q h) hFc (fun r u t H1 locs ht hvm hw hB hz1 hk1 hS => ?_)
  obtain ⟨rfl, rfl⟩ := hw
  obtain ⟨hP1, hK1, hD1⟩ := hB
  rw [ht] at hP1
  exact kk H1 locs hP1 (hD1.weaken (fun _ _ _ h => hFc _ h)) hS
theorem zt_f_X2_27 : Cond.fieldLink RX2 27 "ModalDesk$Draft" "stock" "LModalDesk$Stock;" ∈ mq_T := mq_T_mem (mq_t1 (List.mem_of_getElem? (i := 106) rfl)) rfl
theorem zt_m_X2_76 : Cond.methodLink RX2 76 yX7_make ∈ mq_T := mq_T_mem (mq_t3 (List.mem_of_getElem? (i := 119) rfl)) rfl
/-! ModalDesk$Draft.number(I)Z -/
def zr_X2_number : Room := { frames := 4, cells := 0, slots := 0, locals := 92 }
def zc_X2_number : Cond := .code yX2_number cX2_number 5 (some .boolean)
def zf_X2_number_90 (N : Nat) (z : Nat → Nat) (v1 : Int32) (S : mq_St) : Option (Int32 × mq_St) := (mq_ck (v1) 300 (if (S.2.1 11 (v1).toNatClampNeg) = (-1 : Int32) then (mq_cz ((0 : Int32)) (some ((0 : Int32), S))) else (mq_cz ((1 : Int32)) (some ((1 : Int32), S)))))
def zf_X2_number_52 (N : Nat) (z : Nat → Nat) (v1 : Int32) (v2 : Int32) (t0 : Int32) (S : mq_St) : Option (Int32 × mq_St) := (mq_nI (t0) (fun x15 => (mq_cp (zf_X2_secondPart N z (v1) S) (fun q16 => (mq_cp (zf_X2_numberOf N z (q16) S) (fun q18 => (mq_nI (q18) (fun x20 => (mq_ck (v2) 150 (mq_cl (zf_X7_make N z (((S.2.1 8 (v2).toNatClampNeg) ||| (v1 &&& (1 : Int32)))) (x15) (x20) S) (fun q22v S24 => (mq_ck (v1) 300 (mq_nS (mq_sa S24 11 (upd (S24.2.1 11) (v1).toNatClampNeg (q22v))) (fun S26 => (zf_X2_number_90 N z (v1) S26)))))))))))))))
def zf_X2_number (N : Nat) (z : Nat → Nat) (v1 : Int32) (S : mq_St) : Option (Int32 × mq_St) := (mq_cp (zf_X2_isMark N z (v1) S) (fun q1 => (if q1 = (0 : Int32) then (mq_cz ((0 : Int32)) (some ((0 : Int32), S))) else (mq_ck (v1) 300 (if (S.2.1 11 (v1).toNatClampNeg) = (-1 : Int32) then (mq_nI ((v1 >>> ((1 : Int32) &&& (31 : Int32)))) (fun x4 => (mq_ck (x4) 150 (if (S.2.1 8 (x4).toNatClampNeg) < (4 : Int32) then (mq_ck (x4) 150 (zf_X2_number_52 N z (v1) (x4) ((S.2.1 9 (x4).toNatClampNeg)) S)) else (mq_cp (zf_X2_firstPart N z (v1) S) (fun q7 => (mq_cp (zf_X2_numberOf N z (q7) S) (fun q9 => (zf_X2_number_52 N z (v1) (x4) (q9) S))))))))) else (zf_X2_number_90 N z (v1) S))))))
set_option maxHeartbeats 4000000 in
set_option maxRecDepth 100000 in
theorem zw_X2_number_90 {p : Program} {l : Launch} {e : Env} {s : State} {m : MethodId} {args : Array Value} {below : List Frame} {meth : Method} {c : Code} {A : Nat → Prop} {D : va_G} {a z : Nat → Nat} {cI cL cB cZ : ClassId} {Q : State → Prop} {N : Nat} {res : Int32 × mq_St} (C : mq_C p s m args c A D cI cL cB cZ cX2_number 5 RX2 zc_X2_number) (hret : ∀ (H : Heap) (locs : List Loc) (ls : Array Slot) (pc : Nat), decode cX2_number pc = .ok (.ireturn, 1) → narrow .boolean (.int res.1) = .int res.1 → va_P D vwCl (wd_C a cI cL cB cZ z res.2) H → va_D A (wd_C a cI cL cB cZ z res.2) → va_S A s.heap H locs → W p l e zr_X2_number s m args below meth c H locs 0 0 Q (F0 m pc ls [.int res.1])) (v1 : Int32) (S : mq_St) (H : Heap) (locs : List Loc) (ls : Array Slot) (h : zf_X2_number_90 N z v1 S = some res) (hl : lv_has ls 5 [(0, .ref (a 14)), (1, .int (v1))]) (hP : va_P D vwCl (wd_C a cI cL cB cZ z S) H) (hD : va_D A (wd_C a cI cL cB cZ z S)) (hS : va_S A s.heap H locs) : W p l e zr_X2_number s m args below meth c H locs 0 0 Q (F0 m 90 ls []) := by
  obtain ⟨hx, hb, hml, hown, hts, hK, hA⟩ := id C
  unfold zf_X2_number_90 at h
  refine lv_aload_n hx hb dX2_number_90 rfl (lv_at hl 0 rfl) ?_
  refine va_get (D := D) (ci := 2) (v := .ref (a 18)) (C := RX2) (T := TX2) (N := 8) hx hb hts (zi_X2 _) hown hK hP 14 rfl rfl 4 (by decide) (hts _ (List.mem_cons_of_mem _ zt_f_X2_21)) (fun _ h9 => h9) rfl dX2_number_91 ?_
  refine lv_iload_n hx hb dX2_number_94 rfl (lv_at hl 1 rfl) ?_
  have hi27 := mq_ck_in h
  replace h := mq_ck_go h
  refine va_iald (f := S.2.1 11) hx hb hK hP 18 0 rfl rfl hi27 dX2_number_95 ?_
  refine lv_iconst (v := (-1 : Int32)) hx hb dX2_number_96 (by decide) ?_
  refine lv_icmp_eq (tgt := 104) hx hb dX2_number_97 (by decide) (fun c30 => ?_) (fun c30 => ?_)
  · replace h := mq_it c30 h
    refine lv_iconst (v := (0 : Int32)) hx hb dX2_number_104 (by decide) ?_
    have hz28 := mq_cz_in h
    replace h := mq_cz_go h
    cases h
    exact hret H locs ls 105 dX2_number_105 hz28.1 hP hD hS
  · replace h := mq_if c30 h
    refine lv_iconst (v := (1 : Int32)) hx hb dX2_number_100 (by decide) ?_
    refine lv_goto (tgt := 105) hx hb dX2_number_101 (by decide) ?_
    have hz29 := mq_cz_in h
    replace h := mq_cz_go h
    cases h
    exact hret H locs ls 105 dX2_number_105 hz29.1 hP hD hS
set_option maxHeartbeats 4000000 in
set_option maxRecDepth 100000 in
theorem zw_X2_number_52 {p : Program} {l : Launch} {e : Env} {s : State} {m : MethodId} {args : Array Value} {below : List Frame} {meth : Method} {c : Code} {A : Nat → Prop} {D : va_G} {a z : Nat → Nat} {cI cL cB cZ : ClassId} {Q : State → Prop} {N : Nat} {res : Int32 × mq_St} (C : mq_C p s m args c A D cI cL cB cZ cX2_number 5 RX2 zc_X2_number) (hret : ∀ (H : Heap) (locs : List Loc) (ls : Array Slot) (pc : Nat), decode cX2_number pc = .ok (.ireturn, 1) → narrow .boolean (.int res.1) = .int res.1 → va_P D vwCl (wd_C a cI cL cB cZ z res.2) H → va_D A (wd_C a cI cL cB cZ z res.2) → va_S A s.heap H locs → W p l e zr_X2_number s m args below meth c H locs 0 0 Q (F0 m pc ls [.int res.1])) (v1 : Int32) (v2 : Int32) (t0 : Int32) (S : mq_St) (H : Heap) (locs : List Loc) (ls : Array Slot) (h : zf_X2_number_52 N z v1 v2 t0 S = some res) (hl : lv_has ls 5 [(0, .ref (a 14)), (1, .int (v1)), (2, .int (v2))]) (hP : va_P D vwCl (wd_C a cI cL cB cZ z S) H) (hD : va_D A (wd_C a cI cL cB cZ z S)) (hS : va_S A s.heap H locs) : W p l e zr_X2_number s m args below meth c H locs 0 0 Q (F0 m 52 ls [.int (t0)]) := by
  obtain ⟨hx, hb, hml, hown, hts, hK, hA⟩ := id C
  unfold zf_X2_number_52 at h
  refine lv_topi (fun x15 ex15 => ?_)
  replace h := mq_nI_go ex15 h
  refine lv_istore_n (lv' := [(3, .int (x15)), (0, .ref (a 14)), (1, .int (v1)), (2, .int (v2))]) hx hb dX2_number_52 rfl hl (by decide) rfl (fun ls hl => ?_)
  refine lv_aload_n hx hb dX2_number_53 rfl (lv_at hl 1 rfl) ?_
  refine lv_aload_n hx hb dX2_number_54 rfl (lv_at hl 1 rfl) ?_
  refine lv_iload_n hx hb dX2_number_55 rfl (lv_at hl 2 rfl) ?_
  obtain ⟨q16, hc17, h⟩ := mq_cp_go h
  refine zk_X2_secondPart C zt_m_X2_73 ⟨by decide, by decide⟩ hc17 hP hD hS hl.1 (Nat.le_of_ble_eq_true rfl) dX2_number_56 (fun H locs hP hD hS => ?_)
  obtain ⟨q18, hc19, h⟩ := mq_cp_go h
  refine zk_X2_numberOf C zt_m_X2_59 ⟨by decide, by decide⟩ hc19 hP hD hS hl.1 (Nat.le_of_ble_eq_true rfl) dX2_number_59 (fun H locs hP hD hS => ?_)
  refine lv_topi (fun x20 ex20 => ?_)
  replace h := mq_nI_go ex20 h
  refine lv_istore (lv' := [(4, .int (x20)), (3, .int (x15)), (0, .ref (a 14)), (1, .int (v1)), (2, .int (v2))]) hx hb dX2_number_62 hl (by decide) rfl (fun ls hl => ?_)
  refine lv_aload_n hx hb dX2_number_64 rfl (lv_at hl 2 rfl) ?_
  refine va_get (D := D) (ci := 2) (v := .ref (a 18)) (C := RX2) (T := TX2) (N := 8) hx hb hts (zi_X2 _) hown hK hP 14 rfl rfl 4 (by decide) (hts _ (List.mem_cons_of_mem _ zt_f_X2_21)) (fun _ h9 => h9) rfl dX2_number_65 ?_
  refine lv_iload_n hx hb dX2_number_68 rfl (lv_at hl 3 rfl) ?_
  refine lv_aload_n hx hb dX2_number_69 rfl (lv_at hl 2 rfl) ?_
  refine va_get (D := D) (ci := 2) (v := .ref (a 7)) (C := RX2) (T := TX2) (N := 8) hx hb hts (zi_X2 _) hown hK hP 14 rfl rfl 0 (by decide) (hts _ (List.mem_cons_of_mem _ zt_f_X2_27)) (fun _ h9 => h9) rfl dX2_number_70 ?_
  refine lv_aload_n hx hb dX2_number_73 rfl (lv_at hl 2 rfl) ?_
  refine va_get (D := D) (ci := 2) (v := .ref (a 15)) (C := RX2) (T := TX2) (N := 8) hx hb hts (zi_X2 _) hown hK hP 14 rfl rfl 1 (by decide) (hts _ (List.mem_cons_of_mem _ zt_f_X2_11)) (fun _ h9 => h9) rfl dX2_number_74 ?_
  refine lv_iload_n hx hb dX2_number_77 rfl (lv_at hl 4 rfl) ?_
  have hi21 := mq_ck_in h
  replace h := mq_ck_go h
  refine va_iald (f := S.2.1 8) hx hb hK hP 15 0 rfl rfl hi21 dX2_number_78 ?_
  refine lv_iload_n hx hb dX2_number_79 rfl (lv_at hl 3 rfl) ?_
  refine lv_iconst (v := (1 : Int32)) hx hb dX2_number_80 (by decide) ?_
  refine lv_iand hx hb dX2_number_81 ?_
  refine lv_ior hx hb dX2_number_82 ?_
  refine lv_iload_n hx hb dX2_number_83 rfl (lv_at hl 1 rfl) ?_
  refine lv_iload hx hb dX2_number_84 (lv_at hl 0 rfl) ?_
  obtain ⟨q22, hc23, h⟩ := mq_cl_go h
  refine zk_X7_make C zt_m_X2_76 ⟨by decide, by decide⟩ hc23 hP hD hS hl.1 (Nat.le_of_ble_eq_true rfl) dX2_number_86 (fun H locs hP hD hS => ?_)
  obtain ⟨S24, eS24⟩ : ∃ y, y = q22.2 := ⟨_, rfl⟩
  rw [← eS24] at hP hD h
  have hi25 := mq_ck_in h
  replace h := mq_ck_go h
  refine mq_iast (w := wd_C a cI cL cB cZ z) (S := S24) (f := S24.2.1 11) hx hb hK hP hD hS 18 0 rfl rfl hi25 dX2_number_89 11 (zs_wd_C_a_18_11 _ _ _ _ _ _ _ _) (fun S26 eS26 H locs hP hD hS => ?_)
  replace h := mq_nS_go eS26 h
  exact zw_X2_number_90 C hret (v1) S26 H locs ls h (lv_sub hl [2, 3] rfl) hP hD hS
set_option maxHeartbeats 4000000 in
set_option maxRecDepth 100000 in
theorem zw_X2_number_0 {p : Program} {l : Launch} {e : Env} {s : State} {m : MethodId} {args : Array Value} {below : List Frame} {meth : Method} {c : Code} {A : Nat → Prop} {D : va_G} {a z : Nat → Nat} {cI cL cB cZ : ClassId} {Q : State → Prop} {N : Nat} {res : Int32 × mq_St} (C : mq_C p s m args c A D cI cL cB cZ cX2_number 5 RX2 zc_X2_number) (hret : ∀ (H : Heap) (locs : List Loc) (ls : Array Slot) (pc : Nat), decode cX2_number pc = .ok (.ireturn, 1) → narrow .boolean (.int res.1) = .int res.1 → va_P D vwCl (wd_C a cI cL cB cZ z res.2) H → va_D A (wd_C a cI cL cB cZ z res.2) → va_S A s.heap H locs → W p l e zr_X2_number s m args below meth c H locs 0 0 Q (F0 m pc ls [.int res.1])) (v1 : Int32) (S : mq_St) (H : Heap) (locs : List Loc) (ls : Array Slot) (h : zf_X2_number N z v1 S = some res) (hl : lv_has ls 5 [(0, .ref (a 14)), (1, .int (v1))]) (hP : va_P D vwCl (wd_C a cI cL cB cZ z S) H) (hD : va_D A (wd_C a cI cL cB cZ z S)) (hS : va_S A s.heap H locs) : W p l e zr_X2_number s m args below meth c H locs 0 0 Q (F0 m 0 ls []) := by
  obtain ⟨hx, hb, hml, hown, hts, hK, hA⟩ := id C
  unfold zf_X2_number at h
  refine lv_aload_n hx hb dX2_number_0 rfl (lv_at hl 0 rfl) ?_
  refine lv_iload_n hx hb dX2_number_1 rfl (lv_at hl 1 rfl) ?_
  obtain ⟨q1, hc2, h⟩ := mq_cp_go h
  refine zk_X2_isMark C zt_m_X2_67 ⟨by decide, by decide⟩ hc2 hP hD hS hl.1 (Nat.le_of_ble_eq_true rfl) dX2_number_2 (fun H locs hP hD hS => ?_)
  refine lv_if_ne (tgt := 10) hx hb dX2_number_5 (by decide) (fun c14 => ?_) (fun c14 => ?_)
  · replace h := mq_if c14 h
    refine lv_aload_n hx hb dX2_number_10 rfl (lv_at hl 0 rfl) ?_
    refine va_get (D := D) (ci := 2) (v := .ref (a 18)) (C := RX2) (T := TX2) (N := 8) hx hb hts (zi_X2 _) hown hK hP 14 rfl rfl 4 (by decide) (hts _ (List.mem_cons_of_mem _ zt_f_X2_21)) (fun _ h9 => h9) rfl dX2_number_11 ?_
    refine lv_iload_n hx hb dX2_number_14 rfl (lv_at hl 1 rfl) ?_
    have hi3 := mq_ck_in h
    replace h := mq_ck_go h
    refine va_iald (f := S.2.1 11) hx hb hK hP 18 0 rfl rfl hi3 dX2_number_15 ?_
    refine lv_iconst (v := (-1 : Int32)) hx hb dX2_number_16 (by decide) ?_
    refine lv_icmp_ne (tgt := 90) hx hb dX2_number_17 (by decide) (fun c12 => ?_) (fun c12 => ?_)
    · replace h := mq_if c12 h
      exact zw_X2_number_90 C hret (v1) S H locs ls h (lv_sub hl [0, 1] rfl) hP hD hS
    · replace h := mq_it (by simpa using c12) h
      refine lv_iload_n hx hb dX2_number_20 rfl (lv_at hl 1 rfl) ?_
      refine lv_iconst (v := (1 : Int32)) hx hb dX2_number_21 (by decide) ?_
      refine lv_ishr hx hb dX2_number_22 ?_
      refine lv_topi (fun x4 ex4 => ?_)
      replace h := mq_nI_go ex4 h
      refine lv_istore_n (lv' := [(2, .int (x4)), (0, .ref (a 14)), (1, .int (v1))]) hx hb dX2_number_23 rfl hl (by decide) rfl (fun ls hl => ?_)
      refine lv_aload_n hx hb dX2_number_24 rfl (lv_at hl 1 rfl) ?_
      refine va_get (D := D) (ci := 2) (v := .ref (a 15)) (C := RX2) (T := TX2) (N := 8) hx hb hts (zi_X2 _) hown hK hP 14 rfl rfl 1 (by decide) (hts _ (List.mem_cons_of_mem _ zt_f_X2_11)) (fun _ h9 => h9) rfl dX2_number_25 ?_
      refine lv_iload_n hx hb dX2_number_28 rfl (lv_at hl 0 rfl) ?_
      have hi5 := mq_ck_in h
      replace h := mq_ck_go h
      refine va_iald (f := S.2.1 8) hx hb hK hP 15 0 rfl rfl hi5 dX2_number_29 ?_
      refine lv_iconst (v := (4 : Int32)) hx hb dX2_number_30 (by decide) ?_
      refine lv_icmp_lt (tgt := 46) hx hb dX2_number_31 (by decide) (fun c11 => ?_) (fun c11 => ?_)
      · replace h := mq_it c11 h
        refine lv_aload_n hx hb dX2_number_46 rfl (lv_at hl 1 rfl) ?_
        refine va_get (D := D) (ci := 2) (v := .ref (a 16)) (C := RX2) (T := TX2) (N := 8) hx hb hts (zi_X2 _) hown hK hP 14 rfl rfl 2 (by decide) (hts _ (List.mem_cons_of_mem _ zt_f_X2_15)) (fun _ h9 => h9) rfl dX2_number_47 ?_
        refine lv_iload_n hx hb dX2_number_50 rfl (lv_at hl 0 rfl) ?_
        have hi6 := mq_ck_in h
        replace h := mq_ck_go h
        refine va_iald (f := S.2.1 9) hx hb hK hP 16 0 rfl rfl hi6 dX2_number_51 ?_
        exact zw_X2_number_52 C hret (v1) (x4) ((S.2.1 9 (x4).toNatClampNeg)) S H locs ls h (lv_sub hl [1, 2, 0] rfl) hP hD hS
      · replace h := mq_if c11 h
        refine lv_aload_n hx hb dX2_number_34 rfl (lv_at hl 1 rfl) ?_
        refine lv_aload_n hx hb dX2_number_35 rfl (lv_at hl 1 rfl) ?_
        refine lv_iload_n hx hb dX2_number_36 rfl (lv_at hl 2 rfl) ?_
        obtain ⟨q7, hc8, h⟩ := mq_cp_go h
        refine zk_X2_firstPart C zt_m_X2_70 ⟨by decide, by decide⟩ hc8 hP hD hS hl.1 (Nat.le_of_ble_eq_true rfl) dX2_number_37 (fun H locs hP hD hS => ?_)
        obtain ⟨q9, hc10, h⟩ := mq_cp_go h
        refine zk_X2_numberOf C zt_m_X2_59 ⟨by decide, by decide⟩ hc10 hP hD hS hl.1 (Nat.le_of_ble_eq_true rfl) dX2_number_40 (fun H locs hP hD hS => ?_)
        refine lv_goto (tgt := 52) hx hb dX2_number_43 (by decide) ?_
        exact zw_X2_number_52 C hret (v1) (x4) (q9) S H locs ls h (lv_sub hl [1, 2, 0] rfl) hP hD hS
  · replace h := mq_it (by simpa using c14) h
    refine lv_iconst (v := (0 : Int32)) hx hb dX2_number_8 (by decide) ?_
    have hz13 := mq_cz_in h
    replace h := mq_cz_go h
    cases h
    exact hret H locs ls 9 dX2_number_9 hz13.1 hP hD hS
set_option maxHeartbeats 4000000 in
set_option maxRecDepth 100000 in
theorem zm_X2_number (l : Launch) (D : va_G) (a z : Nat → Nat) (cI cL cB cZ : ClassId) (sz N : Nat) (v1 : Int32) (S : mq_St) (res : Int32 × mq_St) (h : zf_X2_number N z v1 S = some res) : Met l yX2_number (zc_X2_number :: mq_T) zr_X2_number (va_Pc [.ref (a 14), .int (v1)] (fun U => U.heap.size = sz ∧ va_P D vwCl (wd_C a cI cL cB cZ z S) U.heap ∧ va_K D vwCl (mq_tys cI cL cB cZ) U ∧ va_D (fun _ => True) (wd_C a cI cL cB cZ z S))) (va_Qi (fun (r : Int32) (u : mq_St) => r = res.1 ∧ u = res.2) (fun u t => va_P D vwCl (wd_C a cI cL cB cZ z u) t.heap ∧ va_K D vwCl (mq_tys cI cL cB cZ) t ∧ va_D (va_A (wd_C a cI cL cB cZ z S) sz) (wd_C a cI cL cB cZ z u)) (va_A (wd_C a cI cL cB cZ z S) sz)) 0 0 (va_A (wd_C a cI cL cB cZ z S) sz) := by
  refine Met.ofW (cc := cX2_number) (maxL := 5) (ret := (some .boolean)) (by decide) rfl ?_
  intro p e s m args below meth c s₁ B hml hv
  obtain ⟨rfl, hsz, hP, hK, hD0⟩ := hv
  have hr := B.returns
  have hlocks := B.notSynchronized
  have hts := atoms_spec (ws := zc_X2_number :: mq_T) B.pre
  have hown : s.vm.findClass RX2 = some m.cls := findClass_of_methodNamed B.named
  subst hsz
  have hD := hD0.self (sz := s.heap.size)
  generalize hAe : va_A (wd_C a cI cL cB cZ z S) s.heap.size = A at hD ⊢
  have hA : ∀ q : Nat, s.heap.size ≤ q → A q := fun q h => by rw [← hAe]; exact Or.inr h
  have hl := lv_entry ([.ref (a 14), .int (v1)]) (n := 5) (Nat.le_of_ble_eq_true rfl)
  rw [lg_entry_eq]
  generalize (lg_sl ([.ref (a 14), .int (v1)]) ++ List.replicate (5 - (lg_sl ([.ref (a 14), .int (v1)])).length) Slot.unset).toArray = ls at hl ⊢
  have hl : lv_has ls 5 [(0, .ref (a 14)), (1, .int (v1))] := hl
  refine zw_X2_number_0 (A := A) ⟨B.exec, B.bytes, hml, hown, hts, hK, hA⟩ (fun H locs ls pc dg hz hP hD hS => ?_) v1 S s.heap [] ls h hl hP hD va_S.rf
  exact W.zret B.exec B.bytes hr hz (fun t ht hW => ⟨⟨_, _, rfl, ⟨rfl, rfl⟩, by rw [ht]; exact hP, va_K.moved hW.alike hK, hD⟩, hS.F ht⟩) hS.2.2 dg
theorem zt_X2_number_c : zc_X2_number ∈ mq_T := mq_T_mem (mq_t3 (List.mem_of_getElem? (i := 118) rfl)) rfl
theorem zt_X2_number_i : Cond.instanceMethod yX2_number ∈ mq_T := mq_T_mem (mq_t3 (List.mem_of_getElem? (i := 117) rfl)) rfl
theorem zt_X2_number_s : Cond.selects RX2 yX2_number yX2_number ∈ mq_T := mq_T_at 25 (by decide +kernel)
set_option maxHeartbeats 4000000 in
theorem zk_X2_number {p : Program} {l : Launch} {e : Env} {R : Room} {s : State} {m : MethodId} {args : Array Value} {below : List Frame} {meth : Method} {c : Code} {A : Nat → Prop} {D : va_G} {a z : Nat → Nat} {cI cL cB cZ : ClassId} {Q : State → Prop} {cc : ByteArray} {nL idx pc N : Nat} {own : String} {c1 : Cond} {H : Heap} {locs : List Loc} {ls : Array Slot} {rest : List Value} {S : mq_St} {res : Int32 × mq_St} {v1 : Int32} (C : mq_C p s m args c A D cI cL cB cZ cc nL own c1) (hlk : Cond.methodLink own idx yX2_number ∈ mq_T) (hR : zr_X2_number.frames + 1 ≤ R.frames ∧ 8 + (5 + 11) + zr_X2_number.locals ≤ R.locals) (h : zf_X2_number N z v1 S = some res) (hP : va_P D vwCl (wd_C a cI cL cB cZ z S) H) (hD : va_D A (wd_C a cI cL cB cZ z S)) (hS : va_S A s.heap H locs) (hls : ls.size = nL) (hrest : (rest.map fun v => v.category).sum ≤ 8) (hdg : decode cc pc = .ok (.invokevirtual idx, 3)) (kk : ∀ (H1 : Heap) (locs1 : List Loc), va_P D vwCl (wd_C a cI cL cB cZ z res.2) H1 → va_D A (wd_C a cI cL cB cZ z res.2) → va_S A s.heap H1 locs1 → W p l e R s m args below meth c H1 locs1 0 0 Q (F0 m (pc + 3) ls (.int res.1 :: rest))) : W p l e R s m args below meth c H locs 0 0 Q (F0 m pc ls (.int (v1) :: .ref (a 14) :: rest)) := by
  obtain ⟨hx, hb, hml, hown, hts, hK, hA⟩ := C
  have hFc := mq_freeI hD hS hA
  refine va_calli (va_runV (As := [.int (v1)]) (rest := rest) ⟨hx, hb, hml, hown, hts⟩ (zm_X2_number l D a z cI cL cB cZ H.size N v1 S res h) (cwV 1 hts (mq_goodL (mq_wsV hlk zt_X2_number_i zt_X2_number_s zt_ini_X2 zt_X2_number_c)) rfl rfl rfl (by decide +kernel) hR) ⟨fun a U g mk q => ⟨q.1, q.2.1, q.2.2.1, va_K.moved (u := U) (U := U.calling g mk a) (Vm.Alike.refl U.vm) q.2.2.2.1, q.2.2.2.2⟩, zy_C_14 hK hP, fun U hU hW => ⟨rfl, by rw [hU], by rw [hU]; exact hP, va_K.moved hW.alike hK, hD.weaken (fun _ _ _ _ => trivial)⟩⟩ rfl rfl hls rfl (lv_room hrest) hdg ⟨Nat.zero_le _, Nat.zero_le _⟩) hS (fun q _ h => hFc q h) hFc (fun r u t H1 locs ht hvm hw hB hz1 hk1 hS => ?_)
  obtain ⟨rfl, rfl⟩ := hw
  obtain ⟨hP1, hK1, hD1⟩ := hB
  rw [ht] at hP1
  exact kk H1 locs hP1 (hD1.weaken (fun _ _ _ h => hFc _ h)) hS
theorem zt_f_X2_24 : Cond.fieldLink RX2 24 "ModalDesk$Draft" "way" "[I" ∈ mq_T := mq_T_mem (mq_t1 (List.mem_of_getElem? (i := 111) rfl)) rfl
theorem zs_wd_C_a_19_12 (a z : Nat → Nat) (cI cL cB cZ : ClassId) (S : mq_St) (f : Nat → Int32) : (wd_C a cI cL cB cZ z S).set 19 (a 19, .inl (cI, 150, .inl f)) = (wd_C a cI cL cB cZ z (mq_sa S 12 f)) := rfl
/-! ModalDesk$Draft.push(II)V -/
def zr_X2_push : Room := { frames := 0, cells := 0, slots := 0, locals := 0 }
def zc_X2_push : Cond := .code yX2_push cX2_push 3 none
def zf_X2_push (N : Nat) (z : Nat → Nat) (v1 : Int32) (v2 : Int32) (S : mq_St) : Option (Unit × mq_St) := (if v1 < (0 : Int32) then (some ((), S)) else (if (150 : Int32) ≤ v1 then (some ((), S)) else (mq_ck (v1) 150 (mq_nS (mq_sa S 12 (upd (S.2.1 12) (v1).toNatClampNeg (v2))) (fun S2 => (some ((), S2)))))))
set_option maxHeartbeats 4000000 in
set_option maxRecDepth 100000 in
theorem zw_X2_push_0 {p : Program} {l : Launch} {e : Env} {s : State} {m : MethodId} {args : Array Value} {below : List Frame} {meth : Method} {c : Code} {A : Nat → Prop} {D : va_G} {a z : Nat → Nat} {cI cL cB cZ : ClassId} {Q : State → Prop} {N : Nat} {res : Unit × mq_St} (C : mq_C p s m args c A D cI cL cB cZ cX2_push 3 RX2 zc_X2_push) (hret : ∀ (H : Heap) (locs : List Loc) (ls : Array Slot) (pc : Nat), decode cX2_push pc = .ok (.return_, 1) → va_P D vwCl (wd_C a cI cL cB cZ z res.2) H → va_D A (wd_C a cI cL cB cZ z res.2) → va_S A s.heap H locs → W p l e zr_X2_push s m args below meth c H locs 0 0 Q (F0 m pc ls [])) (v1 : Int32) (v2 : Int32) (S : mq_St) (H : Heap) (locs : List Loc) (ls : Array Slot) (h : zf_X2_push N z v1 v2 S = some res) (hl : lv_has ls 3 [(0, .ref (a 14)), (1, .int (v1)), (2, .int (v2))]) (hP : va_P D vwCl (wd_C a cI cL cB cZ z S) H) (hD : va_D A (wd_C a cI cL cB cZ z S)) (hS : va_S A s.heap H locs) : W p l e zr_X2_push s m args below meth c H locs 0 0 Q (F0 m 0 ls []) := by
  obtain ⟨hx, hb, hml, hown, hts, hK, hA⟩ := id C
  unfold zf_X2_push at h
  refine lv_iload_n hx hb dX2_push_0 rfl (lv_at hl 1 rfl) ?_
  refine lv_if_lt (tgt := 20) hx hb dX2_push_1 (by decide) (fun c4 => ?_) (fun c4 => ?_)
  · replace h := mq_it c4 h
    cases h
    exact hret H locs ls 20 dX2_push_20 hP hD hS
  · replace h := mq_if c4 h
    refine lv_iload_n hx hb dX2_push_4 rfl (lv_at hl 1 rfl) ?_
    refine lv_aload_n hx hb dX2_push_5 rfl (lv_at hl 0 rfl) ?_
    refine va_get (D := D) (ci := 2) (v := .ref (a 19)) (C := RX2) (T := TX2) (N := 8) hx hb hts (zi_X2 _) hown hK hP 14 rfl rfl 5 (by decide) (hts _ (List.mem_cons_of_mem _ zt_f_X2_24)) (fun _ h9 => h9) rfl dX2_push_6 ?_
    refine va_alen hx hb hK hP 19 0 (v := (150 : Int32)) rfl rfl (show Int32.ofNat 150 = 150 by decide) dX2_push_9 ?_
    refine lv_icmp_ge (tgt := 20) hx hb dX2_push_10 (by decide) (fun c3 => ?_) (fun c3 => ?_)
    · replace h := mq_it c3 h
      cases h
      exact hret H locs ls 20 dX2_push_20 hP hD hS
    · replace h := mq_if c3 h
      refine lv_aload_n hx hb dX2_push_13 rfl (lv_at hl 0 rfl) ?_
      refine va_get (D := D) (ci := 2) (v := .ref (a 19)) (C := RX2) (T := TX2) (N := 8) hx hb hts (zi_X2 _) hown hK hP 14 rfl rfl 5 (by decide) (hts _ (List.mem_cons_of_mem _ zt_f_X2_24)) (fun _ h9 => h9) rfl dX2_push_14 ?_
      refine lv_iload_n hx hb dX2_push_17 rfl (lv_at hl 1 rfl) ?_
      refine lv_iload_n hx hb dX2_push_18 rfl (lv_at hl 2 rfl) ?_
      have hi1 := mq_ck_in h
      replace h := mq_ck_go h
      refine mq_iast (w := wd_C a cI cL cB cZ z) (S := S) (f := S.2.1 12) hx hb hK hP hD hS 19 0 rfl rfl hi1 dX2_push_19 12 (zs_wd_C_a_19_12 _ _ _ _ _ _ _ _) (fun S2 eS2 H locs hP hD hS => ?_)
      replace h := mq_nS_go eS2 h
      cases h
      exact hret H locs ls 20 dX2_push_20 hP hD hS
set_option maxHeartbeats 4000000 in
set_option maxRecDepth 100000 in
theorem zm_X2_push (l : Launch) (D : va_G) (a z : Nat → Nat) (cI cL cB cZ : ClassId) (sz N : Nat) (v1 : Int32) (v2 : Int32) (S : mq_St) (res : Unit × mq_St) (h : zf_X2_push N z v1 v2 S = some res) : Met l yX2_push (zc_X2_push :: mq_T) zr_X2_push (va_Pc [.ref (a 14), .int (v1), .int (v2)] (fun U => U.heap.size = sz ∧ va_P D vwCl (wd_C a cI cL cB cZ z S) U.heap ∧ va_K D vwCl (mq_tys cI cL cB cZ) U ∧ va_D (fun _ => True) (wd_C a cI cL cB cZ z S))) (va_Qv (fun u : mq_St => u = res.2) (fun u t => va_P D vwCl (wd_C a cI cL cB cZ z u) t.heap ∧ va_K D vwCl (mq_tys cI cL cB cZ) t ∧ va_D (va_A (wd_C a cI cL cB cZ z S) sz) (wd_C a cI cL cB cZ z u)) (va_A (wd_C a cI cL cB cZ z S) sz)) 0 0 (va_A (wd_C a cI cL cB cZ z S) sz) := by
  refine Met.ofW (cc := cX2_push) (maxL := 3) (ret := none) (by decide) rfl ?_
  intro p e s m args below meth c s₁ B hml hv
  obtain ⟨rfl, hsz, hP, hK, hD0⟩ := hv
  have hr := B.returns
  have hlocks := B.notSynchronized
  have hts := atoms_spec (ws := zc_X2_push :: mq_T) B.pre
  have hown : s.vm.findClass RX2 = some m.cls := findClass_of_methodNamed B.named
  subst hsz
  have hD := hD0.self (sz := s.heap.size)
  generalize hAe : va_A (wd_C a cI cL cB cZ z S) s.heap.size = A at hD ⊢
  have hA : ∀ q : Nat, s.heap.size ≤ q → A q := fun q h => by rw [← hAe]; exact Or.inr h
  have hl := lv_entry ([.ref (a 14), .int (v1), .int (v2)]) (n := 3) (Nat.le_of_ble_eq_true rfl)
  rw [lg_entry_eq]
  generalize (lg_sl ([.ref (a 14), .int (v1), .int (v2)]) ++ List.replicate (3 - (lg_sl ([.ref (a 14), .int (v1), .int (v2)])).length) Slot.unset).toArray = ls at hl ⊢
  have hl : lv_has ls 3 [(0, .ref (a 14)), (1, .int (v1)), (2, .int (v2))] := hl
  refine zw_X2_push_0 (A := A) ⟨B.exec, B.bytes, hml, hown, hts, hK, hA⟩ (fun H locs ls pc dg hP hD hS => ?_) v1 v2 S s.heap [] ls h hl hP hD va_S.rf
  exact W.vret B.exec B.bytes hr (fun t ht hW => ⟨⟨_, rfl, rfl, by rw [ht]; exact hP, va_K.moved hW.alike hK, hD⟩, hS.F ht⟩) hS.2.2 dg
theorem zt_X2_push_c : zc_X2_push ∈ mq_T := mq_T_mem (mq_t3 (List.mem_of_getElem? (i := 130) rfl)) rfl
theorem zt_X2_push_i : Cond.instanceMethod yX2_push ∈ mq_T := mq_T_mem (mq_t3 (List.mem_of_getElem? (i := 129) rfl)) rfl
theorem zt_X2_push_s : Cond.selects RX2 yX2_push yX2_push ∈ mq_T := mq_T_at 27 (by decide +kernel)
set_option maxHeartbeats 4000000 in
theorem zk_X2_push {p : Program} {l : Launch} {e : Env} {R : Room} {s : State} {m : MethodId} {args : Array Value} {below : List Frame} {meth : Method} {c : Code} {A : Nat → Prop} {D : va_G} {a z : Nat → Nat} {cI cL cB cZ : ClassId} {Q : State → Prop} {cc : ByteArray} {nL idx pc N : Nat} {own : String} {c1 : Cond} {H : Heap} {locs : List Loc} {ls : Array Slot} {rest : List Value} {S : mq_St} {res : Unit × mq_St} {v1 : Int32} {v2 : Int32} (C : mq_C p s m args c A D cI cL cB cZ cc nL own c1) (hlk : Cond.methodLink own idx yX2_push ∈ mq_T) (hR : zr_X2_push.frames + 1 ≤ R.frames ∧ 8 + (3 + 11) + zr_X2_push.locals ≤ R.locals) (h : zf_X2_push N z v1 v2 S = some res) (hP : va_P D vwCl (wd_C a cI cL cB cZ z S) H) (hD : va_D A (wd_C a cI cL cB cZ z S)) (hS : va_S A s.heap H locs) (hls : ls.size = nL) (hrest : (rest.map fun v => v.category).sum ≤ 8) (hdg : decode cc pc = .ok (.invokevirtual idx, 3)) (kk : ∀ (H1 : Heap) (locs1 : List Loc), va_P D vwCl (wd_C a cI cL cB cZ z res.2) H1 → va_D A (wd_C a cI cL cB cZ z res.2) → va_S A s.heap H1 locs1 → W p l e R s m args below meth c H1 locs1 0 0 Q (F0 m (pc + 3) ls rest)) : W p l e R s m args below meth c H locs 0 0 Q (F0 m pc ls (.int (v2) :: .int (v1) :: .ref (a 14) :: rest)) := by
  obtain ⟨hx, hb, hml, hown, hts, hK, hA⟩ := C
  have hFc := mq_freeI hD hS hA
  refine va_callv (va_runV (As := [.int (v1), .int (v2)]) (rest := rest) ⟨hx, hb, hml, hown, hts⟩ (zm_X2_push l D a z cI cL cB cZ H.size N v1 v2 S res h) (cwV 2 hts (mq_goodL (mq_wsV hlk zt_X2_push_i zt_X2_push_s zt_ini_X2 zt_X2_push_c)) rfl rfl rfl (by decide +kernel) hR) ⟨fun a U g mk q => ⟨q.1, q.2.1, q.2.2.1, va_K.moved (u := U) (U := U.calling g mk a) (Vm.Alike.refl U.vm) q.2.2.2.1, q.2.2.2.2⟩, zy_C_14 hK hP, fun U hU hW => ⟨rfl, by rw [hU], by rw [hU]; exact hP, va_K.moved hW.alike hK, hD.weaken (fun _ _ _ _ => trivial)⟩⟩ rfl rfl hls rfl (lv_room hrest) hdg ⟨Nat.zero_le _, Nat.zero_le _⟩) hS (fun q _ h => hFc q h) hFc (fun u t H1 locs ht hvm hw hB hz1 hk1 hS => ?_)
  subst hw
  obtain ⟨hP1, hK1, hD1⟩ := hB
  rw [ht] at hP1
  exact kk H1 locs hP1 (hD1.weaken (fun _ _ _ h => hFc _ h)) hS
theorem zt_k_X2_47 : Cond.constant RX2 47 ((1000000 : Int32)) ∈ mq_T := mq_T_mem (mq_t3 (List.mem_of_getElem? (i := 94) rfl)) rfl
theorem zt_m_X2_48 : Cond.methodLink RX2 48 yX2_partToMake ∈ mq_T := mq_T_mem (mq_t3 (List.mem_of_getElem? (i := 95) rfl)) rfl
theorem zt_m_X2_55 : Cond.methodLink RX2 55 yX2_push ∈ mq_T := mq_T_mem (mq_t3 (List.mem_of_getElem? (i := 127) rfl)) rfl
theorem zt_m_X2_51 : Cond.methodLink RX2 51 yX2_number ∈ mq_T := mq_T_mem (mq_t3 (List.mem_of_getElem? (i := 115) rfl)) rfl
/-! ModalDesk$Draft.build(I)I -/
def zr_X2_build : Room := { frames := 5, cells := 0, slots := 0, locals := 116 }
def zc_X2_build : Cond := .code yX2_build cX2_build 5 (some .int)
def zf_X2_build_79 (N : Nat) (z : Nat → Nat) (k11 : Int32 → Int32 → Int32 → mq_St → Option (Int32 × mq_St)) (v1 : Int32) (v2 : Int32) (v3 : Int32) (S : mq_St) : Option (Int32 × mq_St) := (mq_nI (v3 + (1 : Int32)) (fun x23 => (k11 (v1) (v2) (x23) S)))
def zf_X2_build_85 (N : Nat) (z : Nat → Nat) (v1 : Int32) (S : mq_St) : Option (Int32 × mq_St) := (mq_cp (zf_X2_numberOf N z (v1) S) (fun q24 => (some (q24, S))))
def zf_X2_build_11b (N : Nat) (z : Nat → Nat) (k11 : Int32 → Int32 → Int32 → mq_St → Option (Int32 × mq_St)) (v1 : Int32) (v2 : Int32) (v3 : Int32) (S : mq_St) : Option (Int32 × mq_St) := (if (1000000 : Int32) ≤ v3 then (zf_X2_build_85 N z (v1) S) else (if v2 < (0 : Int32) then (zf_X2_build_85 N z (v1) S) else (if (150 : Int32) ≤ v2 then (zf_X2_build_85 N z (v1) S) else (mq_ck (v2) 150 (mq_cp (zf_X2_partToMake N z ((S.2.1 12 (v2).toNatClampNeg)) S) (fun q6 => (mq_nI (q6) (fun x8 => (if x8 = (-1 : Int32) then (mq_ck (v2) 150 (mq_cl (zf_X2_number N z ((S.2.1 12 (v2).toNatClampNeg)) S) (fun q14v S16 => (if q14v = (0 : Int32) then (some ((-1 : Int32), S16)) else (mq_nI (v2 + (-1 : Int32)) (fun x17 => (zf_X2_build_79 N z k11 (v1) (x17) (v3) S16))))))) else (mq_nI (v2 + (1 : Int32)) (fun x9 => (mq_cl (zf_X2_push N z (x9) (x8) S) (fun q10v S12 => (zf_X2_build_79 N z k11 (v1) (x9) (v3) S12))))))))))))))
def zf_X2_build_11 (N : Nat) (z : Nat → Nat) : Nat → Int32 → Int32 → Int32 → mq_St → Option (Int32 × mq_St)
  | 0, _, _, _, _ => none
  | n + 1, v1, v2, v3, S => zf_X2_build_11b N z (fun v1 v2 v3 S => zf_X2_build_11 N z n v1 v2 v3 S) v1 v2 v3 S
def zf_X2_build (N : Nat) (z : Nat → Nat) (v1 : Int32) (S : mq_St) : Option (Int32 × mq_St) := (mq_nI ((0 : Int32)) (fun x1 => (mq_ck (x1) 150 (mq_nS (mq_sa S 12 (upd (S.2.1 12) (x1).toNatClampNeg (v1))) (fun S3 => (mq_nI ((0 : Int32)) (fun x4 => (zf_X2_build_11 N z N (v1) (x1) (x4) S3))))))))
set_option maxHeartbeats 4000000 in
set_option maxRecDepth 100000 in
theorem zw_X2_build_79 {p : Program} {l : Launch} {e : Env} {s : State} {m : MethodId} {args : Array Value} {below : List Frame} {meth : Method} {c : Code} {A : Nat → Prop} {D : va_G} {a z : Nat → Nat} {cI cL cB cZ : ClassId} {Q : State → Prop} {N : Nat} {res : Int32 × mq_St} {k11 : Int32 → Int32 → Int32 → mq_St → Option (Int32 × mq_St)} (C : mq_C p s m args c A D cI cL cB cZ cX2_build 5 RX2 zc_X2_build) (hret : ∀ (H : Heap) (locs : List Loc) (ls : Array Slot) (pc : Nat), decode cX2_build pc = .ok (.ireturn, 1) → va_P D vwCl (wd_C a cI cL cB cZ z res.2) H → va_D A (wd_C a cI cL cB cZ z res.2) → va_S A s.heap H locs → W p l e zr_X2_build s m args below meth c H locs 0 0 Q (F0 m pc ls [.int res.1])) (hk11 : ∀ (v1 : Int32) (v2 : Int32) (v3 : Int32) (S : mq_St) (H : Heap) (locs : List Loc) (ls : Array Slot), k11 v1 v2 v3 S = some res → lv_has ls 5 [(0, .ref (a 14)), (1, .int (v1)), (2, .int (v2)), (3, .int (v3))] → va_P D vwCl (wd_C a cI cL cB cZ z S) H → va_D A (wd_C a cI cL cB cZ z S) → va_S A s.heap H locs → W p l e zr_X2_build s m args below meth c H locs 0 0 Q (F0 m 11 ls [])) (v1 : Int32) (v2 : Int32) (v3 : Int32) (S : mq_St) (H : Heap) (locs : List Loc) (ls : Array Slot) (h : zf_X2_build_79 N z k11 v1 v2 v3 S = some res) (hl : lv_has ls 5 [(0, .ref (a 14)), (1, .int (v1)), (2, .int (v2)), (3, .int (v3))]) (hP : va_P D vwCl (wd_C a cI cL cB cZ z S) H) (hD : va_D A (wd_C a cI cL cB cZ z S)) (hS : va_S A s.heap H locs) : W p l e zr_X2_build s m args below meth c H locs 0 0 Q (F0 m 79 ls []) := by
  obtain ⟨hx, hb, hml, hown, hts, hK, hA⟩ := id C
  unfold zf_X2_build_79 at h
  obtain ⟨x23, ex23⟩ : ∃ y : Int32, y = v3 + (1 : Int32) := ⟨_, rfl⟩
  replace h := mq_nI_go ex23 h
  refine lv_iinc (v := x23) (lv' := [(3, .int (x23)), (0, .ref (a 14)), (1, .int (v1)), (2, .int (v2))]) hx hb dX2_build_79 hl (k := 3) rfl (by rw [ex23]; rfl) (by decide) rfl (fun ls hl => ?_)
  refine lv_goto (tgt := 11) hx hb dX2_build_82 (by decide) ?_
  exact hk11 (v1) (v2) (x23) S H locs ls h (lv_sub hl [1, 2, 3, 0] rfl) hP hD hS
set_option maxHeartbeats 4000000 in
set_option maxRecDepth 100000 in
theorem zw_X2_build_85 {p : Program} {l : Launch} {e : Env} {s : State} {m : MethodId} {args : Array Value} {below : List Frame} {meth : Method} {c : Code} {A : Nat → Prop} {D : va_G} {a z : Nat → Nat} {cI cL cB cZ : ClassId} {Q : State → Prop} {N : Nat} {res : Int32 × mq_St} (C : mq_C p s m args c A D cI cL cB cZ cX2_build 5 RX2 zc_X2_build) (hret : ∀ (H : Heap) (locs : List Loc) (ls : Array Slot) (pc : Nat), decode cX2_build pc = .ok (.ireturn, 1) → va_P D vwCl (wd_C a cI cL cB cZ z res.2) H → va_D A (wd_C a cI cL cB cZ z res.2) → va_S A s.heap H locs → W p l e zr_X2_build s m args below meth c H locs 0 0 Q (F0 m pc ls [.int res.1])) (v1 : Int32) (S : mq_St) (H : Heap) (locs : List Loc) (ls : Array Slot) (h : zf_X2_build_85 N z v1 S = some res) (hl : lv_has ls 5 [(0, .ref (a 14)), (1, .int (v1))]) (hP : va_P D vwCl (wd_C a cI cL cB cZ z S) H) (hD : va_D A (wd_C a cI cL cB cZ z S)) (hS : va_S A s.heap H locs) : W p l e zr_X2_build s m args below meth c H locs 0 0 Q (F0 m 85 ls []) := by
  obtain ⟨hx, hb, hml, hown, hts, hK, hA⟩ := id C
  unfold zf_X2_build_85 at h
  refine lv_aload_n hx hb dX2_build_85 rfl (lv_at hl 0 rfl) ?_
  refine lv_iload_n hx hb dX2_build_86 rfl (lv_at hl 1 rfl) ?_
  obtain ⟨q24, hc25, h⟩ := mq_cp_go h
  refine zk_X2_numberOf C zt_m_X2_59 ⟨by decide, by decide⟩ hc25 hP hD hS hl.1 (Nat.le_of_ble_eq_true rfl) dX2_build_87 (fun H locs hP hD hS => ?_)
  cases h
  exact hret H locs ls 90 dX2_build_90 hP hD hS
set_option maxHeartbeats 4000000 in
set_option maxRecDepth 100000 in
theorem zw_X2_build_11b {p : Program} {l : Launch} {e : Env} {s : State} {m : MethodId} {args : Array Value} {below : List Frame} {meth : Method} {c : Code} {A : Nat → Prop} {D : va_G} {a z : Nat → Nat} {cI cL cB cZ : ClassId} {Q : State → Prop} {N : Nat} {res : Int32 × mq_St} {k11 : Int32 → Int32 → Int32 → mq_St → Option (Int32 × mq_St)} (C : mq_C p s m args c A D cI cL cB cZ cX2_build 5 RX2 zc_X2_build) (hret : ∀ (H : Heap) (locs : List Loc) (ls : Array Slot) (pc : Nat), decode cX2_build pc = .ok (.ireturn, 1) → va_P D vwCl (wd_C a cI cL cB cZ z res.2) H → va_D A (wd_C a cI cL cB cZ z res.2) → va_S A s.heap H locs → W p l e zr_X2_build s m args below meth c H locs 0 0 Q (F0 m pc ls [.int res.1])) (hk11 : ∀ (v1 : Int32) (v2 : Int32) (v3 : Int32) (S : mq_St) (H : Heap) (locs : List Loc) (ls : Array Slot), k11 v1 v2 v3 S = some res → lv_has ls 5 [(0, .ref (a 14)), (1, .int (v1)), (2, .int (v2)), (3, .int (v3))] → va_P D vwCl (wd_C a cI cL cB cZ z S) H → va_D A (wd_C a cI cL cB cZ z S) → va_S A s.heap H locs → W p l e zr_X2_build s m args below meth c H locs 0 0 Q (F0 m 11 ls [])) (v1 : Int32) (v2 : Int32) (v3 : Int32) (S : mq_St) (H : Heap) (locs : List Loc) (ls : Array Slot) (h : zf_X2_build_11b N z k11 v1 v2 v3 S = some res) (hl : lv_has ls 5 [(0, .ref (a 14)), (1, .int (v1)), (2, .int (v2)), (3, .int (v3))]) (hP : va_P D vwCl (wd_C a cI cL cB cZ z S) H) (hD : va_D A (wd_C a cI cL cB cZ z S)) (hS : va_S A s.heap H locs) : W p l e zr_X2_build s m args below meth c H locs 0 0 Q (F0 m 11 ls []) := by
  obtain ⟨hx, hb, hml, hown, hts, hK, hA⟩ := id C
  unfold zf_X2_build_11b at h
  refine lv_iload_n hx hb dX2_build_11 rfl (lv_at hl 3 rfl) ?_
  refine lv_ldc (v := (1000000 : Int32)) hx hb hown (hts _ (List.mem_cons_of_mem _ zt_k_X2_47)) dX2_build_12 ?_
  refine lv_icmp_ge (tgt := 85) hx hb dX2_build_14 (by decide) (fun c22 => ?_) (fun c22 => ?_)
  · replace h := mq_it c22 h
    exact zw_X2_build_85 C hret (v1) S H locs ls h (lv_sub hl [0, 1] rfl) hP hD hS
  · replace h := mq_if c22 h
    refine lv_iload_n hx hb dX2_build_17 rfl (lv_at hl 2 rfl) ?_
    refine lv_if_lt (tgt := 85) hx hb dX2_build_18 (by decide) (fun c21 => ?_) (fun c21 => ?_)
    · replace h := mq_it c21 h
      exact zw_X2_build_85 C hret (v1) S H locs ls h (lv_sub hl [0, 1] rfl) hP hD hS
    · replace h := mq_if c21 h
      refine lv_iload_n hx hb dX2_build_21 rfl (lv_at hl 2 rfl) ?_
      refine lv_aload_n hx hb dX2_build_22 rfl (lv_at hl 0 rfl) ?_
      refine va_get (D := D) (ci := 2) (v := .ref (a 19)) (C := RX2) (T := TX2) (N := 8) hx hb hts (zi_X2 _) hown hK hP 14 rfl rfl 5 (by decide) (hts _ (List.mem_cons_of_mem _ zt_f_X2_24)) (fun _ h9 => h9) rfl dX2_build_23 ?_
      refine va_alen hx hb hK hP 19 0 (v := (150 : Int32)) rfl rfl (show Int32.ofNat 150 = 150 by decide) dX2_build_26 ?_
      refine lv_icmp_ge (tgt := 85) hx hb dX2_build_27 (by decide) (fun c20 => ?_) (fun c20 => ?_)
      · replace h := mq_it c20 h
        exact zw_X2_build_85 C hret (v1) S H locs ls h (lv_sub hl [0, 1] rfl) hP hD hS
      · replace h := mq_if c20 h
        refine lv_aload_n hx hb dX2_build_30 rfl (lv_at hl 0 rfl) ?_
        refine lv_aload_n hx hb dX2_build_31 rfl (lv_at hl 0 rfl) ?_
        refine va_get (D := D) (ci := 2) (v := .ref (a 19)) (C := RX2) (T := TX2) (N := 8) hx hb hts (zi_X2 _) hown hK hP 14 rfl rfl 5 (by decide) (hts _ (List.mem_cons_of_mem _ zt_f_X2_24)) (fun _ h9 => h9) rfl dX2_build_32 ?_
        refine lv_iload_n hx hb dX2_build_35 rfl (lv_at hl 2 rfl) ?_
        have hi5 := mq_ck_in h
        replace h := mq_ck_go h
        refine va_iald (f := S.2.1 12) hx hb hK hP 19 0 rfl rfl hi5 dX2_build_36 ?_
        obtain ⟨q6, hc7, h⟩ := mq_cp_go h
        refine zk_X2_partToMake C zt_m_X2_48 ⟨by decide, by decide⟩ hc7 hP hD hS hl.1 (Nat.le_of_ble_eq_true rfl) dX2_build_37 (fun H locs hP hD hS => ?_)
        refine lv_topi (fun x8 ex8 => ?_)
        replace h := mq_nI_go ex8 h
        refine lv_istore (lv' := [(4, .int (x8)), (0, .ref (a 14)), (1, .int (v1)), (2, .int (v2)), (3, .int (v3))]) hx hb dX2_build_40 hl (by decide) rfl (fun ls hl => ?_)
        refine lv_iload hx hb dX2_build_42 (lv_at hl 0 rfl) ?_
        refine lv_iconst (v := (-1 : Int32)) hx hb dX2_build_44 (by decide) ?_
        refine lv_icmp_ne (tgt := 69) hx hb dX2_build_45 (by decide) (fun c19 => ?_) (fun c19 => ?_)
        · replace h := mq_if c19 h
          obtain ⟨x9, ex9⟩ : ∃ y : Int32, y = v2 + (1 : Int32) := ⟨_, rfl⟩
          replace h := mq_nI_go ex9 h
          refine lv_iinc (v := x9) (lv' := [(2, .int (x9)), (4, .int (x8)), (0, .ref (a 14)), (1, .int (v1)), (3, .int (v3))]) hx hb dX2_build_69 hl (k := 3) rfl (by rw [ex9]; rfl) (by decide) rfl (fun ls hl => ?_)
          refine lv_aload_n hx hb dX2_build_72 rfl (lv_at hl 2 rfl) ?_
          refine lv_iload_n hx hb dX2_build_73 rfl (lv_at hl 0 rfl) ?_
          refine lv_iload hx hb dX2_build_74 (lv_at hl 1 rfl) ?_
          obtain ⟨q10, hc11, h⟩ := mq_cl_go h
          refine zk_X2_push C zt_m_X2_55 ⟨by decide, by decide⟩ hc11 hP hD hS hl.1 (Nat.le_of_ble_eq_true rfl) dX2_build_76 (fun H locs hP hD hS => ?_)
          obtain ⟨S12, eS12⟩ : ∃ y, y = q10.2 := ⟨_, rfl⟩
          rw [← eS12] at hP hD h
          exact zw_X2_build_79 C hret hk11 (v1) (x9) (v3) S12 H locs ls h (lv_sub hl [2, 3, 0, 4] rfl) hP hD hS
        · replace h := mq_it (by simpa using c19) h
          refine lv_aload_n hx hb dX2_build_48 rfl (lv_at hl 1 rfl) ?_
          refine lv_aload_n hx hb dX2_build_49 rfl (lv_at hl 1 rfl) ?_
          refine va_get (D := D) (ci := 2) (v := .ref (a 19)) (C := RX2) (T := TX2) (N := 8) hx hb hts (zi_X2 _) hown hK hP 14 rfl rfl 5 (by decide) (hts _ (List.mem_cons_of_mem _ zt_f_X2_24)) (fun _ h9 => h9) rfl dX2_build_50 ?_
          refine lv_iload_n hx hb dX2_build_53 rfl (lv_at hl 3 rfl) ?_
          have hi13 := mq_ck_in h
          replace h := mq_ck_go h
          refine va_iald (f := S.2.1 12) hx hb hK hP 19 0 rfl rfl hi13 dX2_build_54 ?_
          obtain ⟨q14, hc15, h⟩ := mq_cl_go h
          refine zk_X2_number C zt_m_X2_51 ⟨by decide, by decide⟩ hc15 hP hD hS hl.1 (Nat.le_of_ble_eq_true rfl) dX2_build_55 (fun H locs hP hD hS => ?_)
          obtain ⟨S16, eS16⟩ : ∃ y, y = q14.2 := ⟨_, rfl⟩
          rw [← eS16] at hP hD h
          refine lv_if_ne (tgt := 63) hx hb dX2_build_58 (by decide) (fun c18 => ?_) (fun c18 => ?_)
          · replace h := mq_if c18 h
            obtain ⟨x17, ex17⟩ : ∃ y : Int32, y = v2 + (-1 : Int32) := ⟨_, rfl⟩
            replace h := mq_nI_go ex17 h
            refine lv_iinc (v := x17) (lv' := [(2, .int (x17)), (4, .int (x8)), (0, .ref (a 14)), (1, .int (v1)), (3, .int (v3))]) hx hb dX2_build_63 hl (k := 3) rfl (by rw [ex17]; rfl) (by decide) rfl (fun ls hl => ?_)
            refine lv_goto (tgt := 79) hx hb dX2_build_66 (by decide) ?_
            exact zw_X2_build_79 C hret hk11 (v1) (x17) (v3) S16 H locs ls h (lv_sub hl [2, 3, 0, 4] rfl) hP hD hS
          · replace h := mq_it (by simpa using c18) h
            refine lv_iconst (v := (-1 : Int32)) hx hb dX2_build_61 (by decide) ?_
            cases h
            exact hret H locs ls 62 dX2_build_62 hP hD hS
set_option maxHeartbeats 4000000 in
set_option maxRecDepth 100000 in
theorem zw_X2_build_11 {p : Program} {l : Launch} {e : Env} {s : State} {m : MethodId} {args : Array Value} {below : List Frame} {meth : Method} {c : Code} {A : Nat → Prop} {D : va_G} {a z : Nat → Nat} {cI cL cB cZ : ClassId} {Q : State → Prop} {N : Nat} {res : Int32 × mq_St} (C : mq_C p s m args c A D cI cL cB cZ cX2_build 5 RX2 zc_X2_build) (hret : ∀ (H : Heap) (locs : List Loc) (ls : Array Slot) (pc : Nat), decode cX2_build pc = .ok (.ireturn, 1) → va_P D vwCl (wd_C a cI cL cB cZ z res.2) H → va_D A (wd_C a cI cL cB cZ z res.2) → va_S A s.heap H locs → W p l e zr_X2_build s m args below meth c H locs 0 0 Q (F0 m pc ls [.int res.1])) : ∀ (n : Nat) (v1 : Int32) (v2 : Int32) (v3 : Int32) (S : mq_St) (H : Heap) (locs : List Loc) (ls : Array Slot) (h : zf_X2_build_11 N z n v1 v2 v3 S = some res) (hl : lv_has ls 5 [(0, .ref (a 14)), (1, .int (v1)), (2, .int (v2)), (3, .int (v3))]) (hP : va_P D vwCl (wd_C a cI cL cB cZ z S) H) (hD : va_D A (wd_C a cI cL cB cZ z S)) (hS : va_S A s.heap H locs), W p l e zr_X2_build s m args below meth c H locs 0 0 Q (F0 m 11 ls []) := by
  intro n
  induction n with
  | zero =>
    intro v1 v2 v3 S H locs ls h hl hP hD hS
    exact nomatch (show (none : Option (Int32 × mq_St)) = some res from h)
  | succ n ih =>
    intro v1 v2 v3 S H locs ls h hl hP hD hS
    exact zw_X2_build_11b C hret (fun v1 v2 v3 S H locs ls h hl hP hD hS => ih v1 v2 v3 S H locs ls h hl hP hD hS) v1 v2 v3 S H locs ls h hl hP hD hS
set_option maxHeartbeats 4000000 in
set_option maxRecDepth 100000 in
theorem zw_X2_build_0 {p : Program} {l : Launch} {e : Env} {s : State} {m : MethodId} {args : Array Value} {below : List Frame} {meth : Method} {c : Code} {A : Nat → Prop} {D : va_G} {a z : Nat → Nat} {cI cL cB cZ : ClassId} {Q : State → Prop} {N : Nat} {res : Int32 × mq_St} (C : mq_C p s m args c A D cI cL cB cZ cX2_build 5 RX2 zc_X2_build) (hret : ∀ (H : Heap) (locs : List Loc) (ls : Array Slot) (pc : Nat), decode cX2_build pc = .ok (.ireturn, 1) → va_P D vwCl (wd_C a cI cL cB cZ z res.2) H → va_D A (wd_C a cI cL cB cZ z res.2) → va_S A s.heap H locs → W p l e zr_X2_build s m args below meth c H locs 0 0 Q (F0 m pc ls [.int res.1])) (v1 : Int32) (S : mq_St) (H : Heap) (locs : List Loc) (ls : Array Slot) (h : zf_X2_build N z v1 S = some res) (hl : lv_has ls 5 [(0, .ref (a 14)), (1, .int (v1))]) (hP : va_P D vwCl (wd_C a cI cL cB cZ z S) H) (hD : va_D A (wd_C a cI cL cB cZ z S)) (hS : va_S A s.heap H locs) : W p l e zr_X2_build s m args below meth c H locs 0 0 Q (F0 m 0 ls []) := by
  obtain ⟨hx, hb, hml, hown, hts, hK, hA⟩ := id C
  unfold zf_X2_build at h
  refine lv_iconst (v := (0 : Int32)) hx hb dX2_build_0 (by decide) ?_
  refine lv_topi (fun x1 ex1 => ?_)
  replace h := mq_nI_go ex1 h
  refine lv_istore_n (lv' := [(2, .int (x1)), (0, .ref (a 14)), (1, .int (v1))]) hx hb dX2_build_1 rfl hl (by decide) rfl (fun ls hl => ?_)
  refine lv_aload_n hx hb dX2_build_2 rfl (lv_at hl 1 rfl) ?_
  refine va_get (D := D) (ci := 2) (v := .ref (a 19)) (C := RX2) (T := TX2) (N := 8) hx hb hts (zi_X2 _) hown hK hP 14 rfl rfl 5 (by decide) (hts _ (List.mem_cons_of_mem _ zt_f_X2_24)) (fun _ h9 => h9) rfl dX2_build_3 ?_
  refine lv_iload_n hx hb dX2_build_6 rfl (lv_at hl 0 rfl) ?_
  refine lv_iload_n hx hb dX2_build_7 rfl (lv_at hl 2 rfl) ?_
  have hi2 := mq_ck_in h
  replace h := mq_ck_go h
  refine mq_iast (w := wd_C a cI cL cB cZ z) (S := S) (f := S.2.1 12) hx hb hK hP hD hS 19 0 rfl rfl hi2 dX2_build_8 12 (zs_wd_C_a_19_12 _ _ _ _ _ _ _ _) (fun S3 eS3 H locs hP hD hS => ?_)
  replace h := mq_nS_go eS3 h
  refine lv_iconst (v := (0 : Int32)) hx hb dX2_build_9 (by decide) ?_
  refine lv_topi (fun x4 ex4 => ?_)
  replace h := mq_nI_go ex4 h
  refine lv_istore_n (lv' := [(3, .int (x4)), (2, .int (x1)), (0, .ref (a 14)), (1, .int (v1))]) hx hb dX2_build_10 rfl hl (by decide) rfl (fun ls hl => ?_)
  exact zw_X2_build_11 C hret N (v1) (x1) (x4) S3 H locs ls h (lv_sub hl [2, 3, 1, 0] rfl) hP hD hS
set_option maxHeartbeats 4000000 in
set_option maxRecDepth 100000 in
theorem zm_X2_build (l : Launch) (D : va_G) (a z : Nat → Nat) (cI cL cB cZ : ClassId) (sz N : Nat) (v1 : Int32) (S : mq_St) (res : Int32 × mq_St) (h : zf_X2_build N z v1 S = some res) : Met l yX2_build (zc_X2_build :: mq_T) zr_X2_build (va_Pc [.ref (a 14), .int (v1)] (fun U => U.heap.size = sz ∧ va_P D vwCl (wd_C a cI cL cB cZ z S) U.heap ∧ va_K D vwCl (mq_tys cI cL cB cZ) U ∧ va_D (fun _ => True) (wd_C a cI cL cB cZ z S))) (va_Qi (fun (r : Int32) (u : mq_St) => r = res.1 ∧ u = res.2) (fun u t => va_P D vwCl (wd_C a cI cL cB cZ z u) t.heap ∧ va_K D vwCl (mq_tys cI cL cB cZ) t ∧ va_D (va_A (wd_C a cI cL cB cZ z S) sz) (wd_C a cI cL cB cZ z u)) (va_A (wd_C a cI cL cB cZ z S) sz)) 0 0 (va_A (wd_C a cI cL cB cZ z S) sz) := by
  refine Met.ofW (cc := cX2_build) (maxL := 5) (ret := (some .int)) (by decide) rfl ?_
  intro p e s m args below meth c s₁ B hml hv
  obtain ⟨rfl, hsz, hP, hK, hD0⟩ := hv
  have hr := B.returns
  have hlocks := B.notSynchronized
  have hts := atoms_spec (ws := zc_X2_build :: mq_T) B.pre
  have hown : s.vm.findClass RX2 = some m.cls := findClass_of_methodNamed B.named
  subst hsz
  have hD := hD0.self (sz := s.heap.size)
  generalize hAe : va_A (wd_C a cI cL cB cZ z S) s.heap.size = A at hD ⊢
  have hA : ∀ q : Nat, s.heap.size ≤ q → A q := fun q h => by rw [← hAe]; exact Or.inr h
  have hl := lv_entry ([.ref (a 14), .int (v1)]) (n := 5) (Nat.le_of_ble_eq_true rfl)
  rw [lg_entry_eq]
  generalize (lg_sl ([.ref (a 14), .int (v1)]) ++ List.replicate (5 - (lg_sl ([.ref (a 14), .int (v1)])).length) Slot.unset).toArray = ls at hl ⊢
  have hl : lv_has ls 5 [(0, .ref (a 14)), (1, .int (v1))] := hl
  refine zw_X2_build_0 (A := A) ⟨B.exec, B.bytes, hml, hown, hts, hK, hA⟩ (fun H locs ls pc dg hP hD hS => ?_) v1 S s.heap [] ls h hl hP hD va_S.rf
  exact W.iret B.exec B.bytes hr (fun t ht hW => ⟨⟨_, _, rfl, ⟨rfl, rfl⟩, by rw [ht]; exact hP, va_K.moved hW.alike hK, hD⟩, hS.F ht⟩) hS.2.2 dg
theorem zt_X2_build_c : zc_X2_build ∈ mq_T := mq_T_mem (mq_t3 (List.mem_of_getElem? (i := 93) rfl)) rfl
theorem zt_X2_build_i : Cond.instanceMethod yX2_build ∈ mq_T := mq_T_mem (mq_t3 (List.mem_of_getElem? (i := 91) rfl)) rfl
theorem zt_X2_build_s : Cond.selects RX2 yX2_build yX2_build ∈ mq_T := mq_T_mem (mq_t3 (List.mem_of_getElem? (i := 92) rfl)) rfl
set_option maxHeartbeats 4000000 in
theorem zk_X2_build {p : Program} {l : Launch} {e : Env} {R : Room} {s : State} {m : MethodId} {args : Array Value} {below : List Frame} {meth : Method} {c : Code} {A : Nat → Prop} {D : va_G} {a z : Nat → Nat} {cI cL cB cZ : ClassId} {Q : State → Prop} {cc : ByteArray} {nL idx pc N : Nat} {own : String} {c1 : Cond} {H : Heap} {locs : List Loc} {ls : Array Slot} {rest : List Value} {S : mq_St} {res : Int32 × mq_St} {v1 : Int32} (C : mq_C p s m args c A D cI cL cB cZ cc nL own c1) (hlk : Cond.methodLink own idx yX2_build ∈ mq_T) (hR : zr_X2_build.frames + 1 ≤ R.frames ∧ 8 + (5 + 11) + zr_X2_build.locals ≤ R.locals) (h : zf_X2_build N z v1 S = some res) (hP : va_P D vwCl (wd_C a cI cL cB cZ z S) H) (hD : va_D A (wd_C a cI cL cB cZ z S)) (hS : va_S A s.heap H locs) (hls : ls.size = nL) (hrest : (rest.map fun v => v.category).sum ≤ 8) (hdg : decode cc pc = .ok (.invokevirtual idx, 3)) (kk : ∀ (H1 : Heap) (locs1 : List Loc), va_P D vwCl (wd_C a cI cL cB cZ z res.2) H1 → va_D A (wd_C a cI cL cB cZ z res.2) → va_S A s.heap H1 locs1 → W p l e R s m args below meth c H1 locs1 0 0 Q (F0 m (pc + 3) ls (.int res.1 :: rest))) : W p l e R s m args below meth c H locs 0 0 Q (F0 m pc ls (.int (v1) :: .ref (a 14) :: rest)) := by
  obtain ⟨hx, hb, hml, hown, hts, hK, hA⟩ := C
  have hFc := mq_freeI hD hS hA
  refine va_calli (va_runV (As := [.int (v1)]) (rest := rest) ⟨hx, hb, hml, hown, hts⟩ (zm_X2_build l D a z cI cL cB cZ H.size N v1 S res h) (cwV 1 hts (mq_goodL (mq_wsV hlk zt_X2_build_i zt_X2_build_s zt_ini_X2 zt_X2_build_c)) rfl rfl rfl (by decide +kernel) hR) ⟨fun a U g mk q => ⟨q.1, q.2.1, q.2.2.1, va_K.moved (u := U) (U := U.calling g mk a) (Vm.Alike.refl U.vm) q.2.2.2.1, q.2.2.2.2⟩, zy_C_14 hK hP, fun U hU hW => ⟨rfl, by rw [hU], by rw [hU]; exact hP, va_K.moved hW.alike hK, hD.weaken (fun _ _ _ _ => trivial)⟩⟩ rfl rfl hls rfl (lv_room hrest) hdg ⟨Nat.zero_le _, Nat.zero_le _⟩) hS (fun q _ h => hFc q h) hFc (fun r u t H1 locs ht hvm hw hB hz1 hk1 hS => ?_)
  obtain ⟨rfl, rfl⟩ := hw
  obtain ⟨hP1, hK1, hD1⟩ := hB
  rw [ht] at hP1
  exact kk H1 locs hP1 (hD1.weaken (fun _ _ _ h => hFc _ h)) hS
/-! ModalDesk$Draft.clear()V -/
def zr_X2_clear : Room := { frames := 1, cells := 0, slots := 0, locals := 24 }
def zc_X2_clear : Cond := .code yX2_clear cX2_clear 1 none
def zf_X2_clear (N : Nat) (z : Nat → Nat) (S : mq_St) : Option (Unit × mq_St) := (mq_nS (mq_si S 3 ((0 : Int32))) (fun S1 => (mq_cz ((0 : Int32)) (mq_nS (mq_si S1 4 ((0 : Int32))) (fun S2 => (mq_cl (zf_X2_node N z ((0 : Int32)) ((-1 : Int32)) ((-1 : Int32)) S2) (fun q4v S6 => (some ((), S6)))))))))
set_option maxHeartbeats 4000000 in
set_option maxRecDepth 100000 in
theorem zw_X2_clear_0 {p : Program} {l : Launch} {e : Env} {s : State} {m : MethodId} {args : Array Value} {below : List Frame} {meth : Method} {c : Code} {A : Nat → Prop} {D : va_G} {a z : Nat → Nat} {cI cL cB cZ : ClassId} {Q : State → Prop} {N : Nat} {res : Unit × mq_St} (C : mq_C p s m args c A D cI cL cB cZ cX2_clear 1 RX2 zc_X2_clear) (hret : ∀ (H : Heap) (locs : List Loc) (ls : Array Slot) (pc : Nat), decode cX2_clear pc = .ok (.return_, 1) → va_P D vwCl (wd_C a cI cL cB cZ z res.2) H → va_D A (wd_C a cI cL cB cZ z res.2) → va_S A s.heap H locs → W p l e zr_X2_clear s m args below meth c H locs 0 0 Q (F0 m pc ls [])) (S : mq_St) (H : Heap) (locs : List Loc) (ls : Array Slot) (h : zf_X2_clear N z S = some res) (hl : lv_has ls 1 [(0, .ref (a 14))]) (hP : va_P D vwCl (wd_C a cI cL cB cZ z S) H) (hD : va_D A (wd_C a cI cL cB cZ z S)) (hS : va_S A s.heap H locs) : W p l e zr_X2_clear s m args below meth c H locs 0 0 Q (F0 m 0 ls []) := by
  obtain ⟨hx, hb, hml, hown, hts, hK, hA⟩ := id C
  unfold zf_X2_clear at h
  refine lv_aload_n hx hb dX2_clear_0 rfl (lv_at hl 0 rfl) ?_
  refine lv_iconst (v := (0 : Int32)) hx hb dX2_clear_1 (by decide) ?_
  refine mq_put (w := wd_C a cI cL cB cZ z) (S := S) (D := D) (ci := 2) (v := (0 : Int32)) (ty := .int) (C := RX2) (T := TX2) (N := 8) hx hb hts (zi_X2 _) tyX2 tyX2_ok nmX2 hown hK hP hD hS 14 rfl rfl 6 (by decide) (hts _ (List.mem_cons_of_mem _ zt_f_X2_31)) (fun _ h9 => h9) rfl (by decide +kernel) rfl rfl (Nat.le_of_ble_eq_true rfl) dX2_clear_2 3 (zs_wd_C_i_14_3 _ _ _ _ _ _ _ _) (fun S1 eS1 H locs hP hD hS => ?_)
  replace h := mq_nS_go eS1 h
  refine lv_aload_n hx hb dX2_clear_5 rfl (lv_at hl 0 rfl) ?_
  refine lv_iconst (v := (0 : Int32)) hx hb dX2_clear_6 (by decide) ?_
  have hz3 := mq_cz_in h
  replace h := mq_cz_go h
  refine mq_put (w := wd_C a cI cL cB cZ z) (S := S1) (D := D) (ci := 2) (v := (0 : Int32)) (ty := .boolean) (C := RX2) (T := TX2) (N := 8) hx hb hts (zi_X2 _) tyX2 tyX2_ok nmX2 hown hK hP hD hS 14 rfl rfl 7 (by decide) (hts _ (List.mem_cons_of_mem _ zt_f_X2_35)) (fun _ h9 => h9) rfl (by decide +kernel) hz3.1 hz3.2 (Nat.le_of_ble_eq_true rfl) dX2_clear_7 4 (zs_wd_C_i_14_4 _ _ _ _ _ _ _ _) (fun S2 eS2 H locs hP hD hS => ?_)
  replace h := mq_nS_go eS2 h
  refine lv_aload_n hx hb dX2_clear_10 rfl (lv_at hl 0 rfl) ?_
  refine lv_iconst (v := (0 : Int32)) hx hb dX2_clear_11 (by decide) ?_
  refine lv_iconst (v := (-1 : Int32)) hx hb dX2_clear_12 (by decide) ?_
  refine lv_iconst (v := (-1 : Int32)) hx hb dX2_clear_13 (by decide) ?_
  obtain ⟨q4, hc5, h⟩ := mq_cl_go h
  refine zk_X2_node C zt_m_X2_39 ⟨by decide, by decide⟩ hc5 hP hD hS hl.1 (Nat.le_of_ble_eq_true rfl) dX2_clear_14 (fun H locs hP hD hS => ?_)
  obtain ⟨S6, eS6⟩ : ∃ y, y = q4.2 := ⟨_, rfl⟩
  rw [← eS6] at hP hD h
  refine lv_pop hx hb dX2_clear_17 rfl ?_
  cases h
  exact hret H locs ls 18 dX2_clear_18 hP hD hS
set_option maxHeartbeats 4000000 in
set_option maxRecDepth 100000 in
theorem zm_X2_clear (l : Launch) (D : va_G) (a z : Nat → Nat) (cI cL cB cZ : ClassId) (sz N : Nat) (S : mq_St) (res : Unit × mq_St) (h : zf_X2_clear N z S = some res) : Met l yX2_clear (zc_X2_clear :: mq_T) zr_X2_clear (va_Pc [.ref (a 14)] (fun U => U.heap.size = sz ∧ va_P D vwCl (wd_C a cI cL cB cZ z S) U.heap ∧ va_K D vwCl (mq_tys cI cL cB cZ) U ∧ va_D (fun _ => True) (wd_C a cI cL cB cZ z S))) (va_Qv (fun u : mq_St => u = res.2) (fun u t => va_P D vwCl (wd_C a cI cL cB cZ z u) t.heap ∧ va_K D vwCl (mq_tys cI cL cB cZ) t ∧ va_D (va_A (wd_C a cI cL cB cZ z S) sz) (wd_C a cI cL cB cZ z u)) (va_A (wd_C a cI cL cB cZ z S) sz)) 0 0 (va_A (wd_C a cI cL cB cZ z S) sz) := by
  refine Met.ofW (cc := cX2_clear) (maxL := 1) (ret := none) (by decide) rfl ?_
  intro p e s m args below meth c s₁ B hml hv
  obtain ⟨rfl, hsz, hP, hK, hD0⟩ := hv
  have hr := B.returns
  have hlocks := B.notSynchronized
  have hts := atoms_spec (ws := zc_X2_clear :: mq_T) B.pre
  have hown : s.vm.findClass RX2 = some m.cls := findClass_of_methodNamed B.named
  subst hsz
  have hD := hD0.self (sz := s.heap.size)
  generalize hAe : va_A (wd_C a cI cL cB cZ z S) s.heap.size = A at hD ⊢
  have hA : ∀ q : Nat, s.heap.size ≤ q → A q := fun q h => by rw [← hAe]; exact Or.inr h
  have hl := lv_entry ([.ref (a 14)]) (n := 1) (Nat.le_of_ble_eq_true rfl)
  rw [lg_entry_eq]
  generalize (lg_sl ([.ref (a 14)]) ++ List.replicate (1 - (lg_sl ([.ref (a 14)])).length) Slot.unset).toArray = ls at hl ⊢
  have hl : lv_has ls 1 [(0, .ref (a 14))] := hl
  refine zw_X2_clear_0 (A := A) ⟨B.exec, B.bytes, hml, hown, hts, hK, hA⟩ (fun H locs ls pc dg hP hD hS => ?_) S s.heap [] ls h hl hP hD va_S.rf
  exact W.vret B.exec B.bytes hr (fun t ht hW => ⟨⟨_, rfl, rfl, by rw [ht]; exact hP, va_K.moved hW.alike hK, hD⟩, hS.F ht⟩) hS.2.2 dg
theorem zt_X2_clear_c : zc_X2_clear ∈ mq_T := mq_T_mem (mq_t2 (List.mem_of_getElem? (i := 207) rfl)) rfl
theorem zt_X2_clear_i : Cond.instanceMethod yX2_clear ∈ mq_T := mq_T_mem (mq_t2 (List.mem_of_getElem? (i := 205) rfl)) rfl
theorem zt_X2_clear_s : Cond.selects RX2 yX2_clear yX2_clear ∈ mq_T := mq_T_mem (mq_t2 (List.mem_of_getElem? (i := 206) rfl)) rfl
set_option maxHeartbeats 4000000 in
theorem zk_X2_clear {p : Program} {l : Launch} {e : Env} {R : Room} {s : State} {m : MethodId} {args : Array Value} {below : List Frame} {meth : Method} {c : Code} {A : Nat → Prop} {D : va_G} {a z : Nat → Nat} {cI cL cB cZ : ClassId} {Q : State → Prop} {cc : ByteArray} {nL idx pc N : Nat} {own : String} {c1 : Cond} {H : Heap} {locs : List Loc} {ls : Array Slot} {rest : List Value} {S : mq_St} {res : Unit × mq_St} (C : mq_C p s m args c A D cI cL cB cZ cc nL own c1) (hlk : Cond.methodLink own idx yX2_clear ∈ mq_T) (hR : zr_X2_clear.frames + 1 ≤ R.frames ∧ 8 + (1 + 11) + zr_X2_clear.locals ≤ R.locals) (h : zf_X2_clear N z S = some res) (hP : va_P D vwCl (wd_C a cI cL cB cZ z S) H) (hD : va_D A (wd_C a cI cL cB cZ z S)) (hS : va_S A s.heap H locs) (hls : ls.size = nL) (hrest : (rest.map fun v => v.category).sum ≤ 8) (hdg : decode cc pc = .ok (.invokevirtual idx, 3)) (kk : ∀ (H1 : Heap) (locs1 : List Loc), va_P D vwCl (wd_C a cI cL cB cZ z res.2) H1 → va_D A (wd_C a cI cL cB cZ z res.2) → va_S A s.heap H1 locs1 → W p l e R s m args below meth c H1 locs1 0 0 Q (F0 m (pc + 3) ls rest)) : W p l e R s m args below meth c H locs 0 0 Q (F0 m pc ls (.ref (a 14) :: rest)) := by
  obtain ⟨hx, hb, hml, hown, hts, hK, hA⟩ := C
  have hFc := mq_freeI hD hS hA
  refine va_callv (va_runV (As := []) (rest := rest) ⟨hx, hb, hml, hown, hts⟩ (zm_X2_clear l D a z cI cL cB cZ H.size N S res h) (cwV 0 hts (mq_goodL (mq_wsV hlk zt_X2_clear_i zt_X2_clear_s zt_ini_X2 zt_X2_clear_c)) rfl rfl rfl (by decide +kernel) hR) ⟨fun a U g mk q => ⟨q.1, q.2.1, q.2.2.1, va_K.moved (u := U) (U := U.calling g mk a) (Vm.Alike.refl U.vm) q.2.2.2.1, q.2.2.2.2⟩, zy_C_14 hK hP, fun U hU hW => ⟨rfl, by rw [hU], by rw [hU]; exact hP, va_K.moved hW.alike hK, hD.weaken (fun _ _ _ _ => trivial)⟩⟩ rfl rfl hls rfl (lv_room hrest) hdg ⟨Nat.zero_le _, Nat.zero_le _⟩) hS (fun q _ h => hFc q h) hFc (fun u t H1 locs ht hvm hw hB hz1 hk1 hS => ?_)
  subst hw
  obtain ⟨hP1, hK1, hD1⟩ := hB
  rw [ht] at hP1
  exact kk H1 locs hP1 (hD1.weaken (fun _ _ _ h => hFc _ h)) hS
/-! ModalDesk$Draft.deny(I)I -/
def zr_X2_deny : Room := { frames := 0, cells := 0, slots := 0, locals := 0 }
def zc_X2_deny : Cond := .code yX2_deny cX2_deny 1 (some .int)
def zf_X2_deny (N : Nat) (z : Nat → Nat) (v0 : Int32) (S : mq_St) : Option (Int32) := (some ((v0 ^^^ (1 : Int32))))
set_option maxHeartbeats 4000000 in
set_option maxRecDepth 100000 in
theorem zw_X2_deny_0 {p : Program} {l : Launch} {e : Env} {s : State} {m : MethodId} {args : Array Value} {below : List Frame} {meth : Method} {c : Code} {A : Nat → Prop} {D : va_G} {a z : Nat → Nat} {cI cL cB cZ : ClassId} {Q : State → Prop} {N : Nat} {S : mq_St} {res : Int32} (C : mq_C p s m args c A D cI cL cB cZ cX2_deny 1 RX2 zc_X2_deny) (hret : ∀ (H : Heap) (locs : List Loc) (ls : Array Slot) (pc : Nat), decode cX2_deny pc = .ok (.ireturn, 1) → va_P D vwCl (wd_0 a cI cL cB cZ z S) H → va_D A (wd_0 a cI cL cB cZ z S) → va_S A s.heap H locs → W p l e zr_X2_deny s m args below meth c H locs 0 0 Q (F0 m pc ls [.int res])) (v0 : Int32) (H : Heap) (locs : List Loc) (ls : Array Slot) (h : zf_X2_deny N z v0 S = some res) (hl : lv_has ls 1 [(0, .int (v0))]) (hP : va_P D vwCl (wd_0 a cI cL cB cZ z S) H) (hD : va_D A (wd_0 a cI cL cB cZ z S)) (hS : va_S A s.heap H locs) : W p l e zr_X2_deny s m args below meth c H locs 0 0 Q (F0 m 0 ls []) := by
  obtain ⟨hx, hb, hml, hown, hts, hK, hA⟩ := id C
  unfold zf_X2_deny at h
  refine lv_iload_n hx hb dX2_deny_0 rfl (lv_at hl 0 rfl) ?_
  refine lv_iconst (v := (1 : Int32)) hx hb dX2_deny_1 (by decide) ?_
  refine lv_ixor hx hb dX2_deny_2 ?_
  cases h
  exact hret H locs ls 3 dX2_deny_3 hP hD hS
set_option maxHeartbeats 4000000 in
set_option maxRecDepth 100000 in
theorem zm_X2_deny (l : Launch) (D : va_G) (a z : Nat → Nat) (cI cL cB cZ : ClassId) (sz N : Nat) (v0 : Int32) (S : mq_St) (res : Int32) (h : zf_X2_deny N z v0 S = some res) : Met l yX2_deny (zc_X2_deny :: mq_T) zr_X2_deny (va_Pc [.int (v0)] (fun U => U.heap.size = sz ∧ va_P D vwCl (wd_0 a cI cL cB cZ z S) U.heap ∧ va_K D vwCl (mq_tys cI cL cB cZ) U ∧ va_D (fun _ => True) (wd_0 a cI cL cB cZ z S))) (va_Qi (fun (r : Int32) (u : mq_St) => r = res ∧ u = S) (fun u t => va_P D vwCl (wd_0 a cI cL cB cZ z u) t.heap ∧ va_K D vwCl (mq_tys cI cL cB cZ) t ∧ va_D (va_A (wd_0 a cI cL cB cZ z S) sz) (wd_0 a cI cL cB cZ z u)) (va_A (wd_0 a cI cL cB cZ z S) sz)) 0 0 (va_A (wd_0 a cI cL cB cZ z S) sz) := by
  refine Met.ofW (cc := cX2_deny) (maxL := 1) (ret := (some .int)) (by decide) rfl ?_
  intro p e s m args below meth c s₁ B hml hv
  obtain ⟨rfl, hsz, hP, hK, hD0⟩ := hv
  have hr := B.returns
  have hlocks := B.notSynchronized
  have hts := atoms_spec (ws := zc_X2_deny :: mq_T) B.pre
  have hown : s.vm.findClass RX2 = some m.cls := findClass_of_methodNamed B.named
  subst hsz
  have hD := hD0.self (sz := s.heap.size)
  generalize hAe : va_A (wd_0 a cI cL cB cZ z S) s.heap.size = A at hD ⊢
  have hA : ∀ q : Nat, s.heap.size ≤ q → A q := fun q h => by rw [← hAe]; exact Or.inr h
  have hl := lv_entry ([.int (v0)]) (n := 1) (Nat.le_of_ble_eq_true rfl)
  rw [lg_entry_eq]
  generalize (lg_sl ([.int (v0)]) ++ List.replicate (1 - (lg_sl ([.int (v0)])).length) Slot.unset).toArray = ls at hl ⊢
  have hl : lv_has ls 1 [(0, .int (v0))] := hl
  refine zw_X2_deny_0 (A := A) ⟨B.exec, B.bytes, hml, hown, hts, hK, hA⟩ (fun H locs ls pc dg hP hD hS => ?_) v0 s.heap [] ls h hl hP hD va_S.rf
  exact W.iret B.exec B.bytes hr (fun t ht hW => ⟨⟨_, _, rfl, ⟨rfl, rfl⟩, by rw [ht]; exact hP, va_K.moved hW.alike hK, hD⟩, hS.F ht⟩) hS.2.2 dg
theorem zt_X2_deny_c : zc_X2_deny ∈ mq_T := mq_T_mem (mq_t3 (List.mem_of_getElem? (i := 19) rfl)) rfl
theorem zt_X2_deny_s : Cond.static yX2_deny ∈ mq_T := mq_T_mem (mq_t3 (List.mem_of_getElem? (i := 18) rfl)) rfl
set_option maxHeartbeats 4000000 in
theorem zv_X2_deny {p : Program} {l : Launch} {e : Env} {R : Room} {s : State} {m : MethodId} {args : Array Value} {below : List Frame} {meth : Method} {c : Code} {A : Nat → Prop} {D : va_G} {a z : Nat → Nat} {cI cL cB cZ : ClassId} {Q : State → Prop} {cc : ByteArray} {nL idx pc N : Nat} {own : String} {c1 : Cond} {H : Heap} {locs : List Loc} {ls : Array Slot} {rest : List Value} {S : mq_St} {res : Int32} {v0 : Int32} {ws : va_W} (is : List Nat) (C : mq_C p s m args c A D cI cL cB cZ cc nL own c1) (hlk : Cond.methodLink own idx yX2_deny ∈ mq_T) (hR : zr_X2_deny.frames + 1 ≤ R.frames ∧ 8 + (1 + 11) + zr_X2_deny.locals ≤ R.locals) (h : zf_X2_deny N z v0 S = some res) (hC : is.map (fun i => ws[i]?) = (wd_0 a cI cL cB cZ z S).map some) (hnd : va_nd is = true) (hP : va_P D vwCl ws H) (hD : va_D A ws) (hS : va_S A s.heap H locs) (hls : ls.size = nL) (hrest : (rest.map fun v => v.category).sum ≤ 8) (hdg : decode cc pc = .ok (.invokestatic idx, 3)) (kk : ∀ (H1 : Heap) (locs1 : List Loc), va_P D vwCl ws H1 → va_D A ws → va_S A s.heap H1 locs1 → W p l e R s m args below meth c H1 locs1 0 0 Q (F0 m (pc + 3) ls (.int res :: rest))) : W p l e R s m args below meth c H locs 0 0 Q (F0 m pc ls (.int (v0) :: rest)) := by
  obtain ⟨hx, hb, hml, hown, hts, hK, hA⟩ := C
  have hPc := mq_subP hP is hC
  have hDc := hD.sub is hnd hC
  have hFc := va_free hD hS hA is hC
  refine va_calli (va_runS (As := [.int (v0)]) (rest := rest) ⟨hx, hb, hml, hown, hts⟩ (zm_X2_deny l D a z cI cL cB cZ H.size N v0 S res h) (va_cwS 1 hts (mq_goodL (mq_wsS hlk zt_X2_deny_s zt_ini_X2 zt_X2_deny_c)) rfl rfl rfl (by decide +kernel) hR) ⟨fun a U g mk q => ⟨q.1, q.2.1, q.2.2.1, va_K.moved (u := U) (U := U.calling g mk a) (Vm.Alike.refl U.vm) q.2.2.2.1, q.2.2.2.2⟩, fun U hU hW => ⟨rfl, by rw [hU], by rw [hU]; exact hPc, va_K.moved hW.alike hK, hDc.weaken (fun _ _ _ _ => trivial)⟩⟩ rfl rfl hls rfl (lv_room hrest) hdg ⟨Nat.zero_le _, Nat.zero_le _⟩) hS (fun q _ h => hFc q h) hFc (fun r u t H1 locs ht hvm hw1 hB hz1 hk1 hS => ?_)
  obtain ⟨rfl, rfl⟩ := hw1
  obtain ⟨hP1, hK1, hD1⟩ := hB
  rw [ht] at hP1
  obtain ⟨hP2, hD2⟩ := mq_join hP hD is hC rfl hk1 hP1
  rw [mq_setM_same is _ ws hC] at hP2 hD2
  exact kk H1 locs hP2 hD2 hS
theorem zt_m_X2_43 : Cond.methodLink RX2 43 yX2_deny ∈ mq_T := mq_T_mem (mq_t3 (List.mem_of_getElem? (i := 52) rfl)) rfl
/-! ModalDesk$Draft.either(II)I -/
def zr_X2_either : Room := { frames := 1, cells := 0, slots := 0, locals := 24 }
def zc_X2_either : Cond := .code yX2_either cX2_either 3 (some .int)
def zf_X2_either (N : Nat) (z : Nat → Nat) (v1 : Int32) (v2 : Int32) (S : mq_St) : Option (Int32 × mq_St) := (mq_cp (zf_X2_deny N z (v1) (mq_pull S [] [] [])) (fun q1 => (mq_cp (zf_X2_deny N z (v2) (mq_pull S [] [] [])) (fun q3 => (mq_cl (zf_X2_node N z ((4 : Int32)) (q1) (q3) S) (fun q5v S7 => (mq_cp (zf_X2_deny N z (q5v) (mq_pull S7 [] [] [])) (fun q8 => (some (q8, S7))))))))))
set_option maxHeartbeats 4000000 in
set_option maxRecDepth 100000 in
theorem zw_X2_either_0 {p : Program} {l : Launch} {e : Env} {s : State} {m : MethodId} {args : Array Value} {below : List Frame} {meth : Method} {c : Code} {A : Nat → Prop} {D : va_G} {a z : Nat → Nat} {cI cL cB cZ : ClassId} {Q : State → Prop} {N : Nat} {res : Int32 × mq_St} (C : mq_C p s m args c A D cI cL cB cZ cX2_either 3 RX2 zc_X2_either) (hret : ∀ (H : Heap) (locs : List Loc) (ls : Array Slot) (pc : Nat), decode cX2_either pc = .ok (.ireturn, 1) → va_P D vwCl (wd_C a cI cL cB cZ z res.2) H → va_D A (wd_C a cI cL cB cZ z res.2) → va_S A s.heap H locs → W p l e zr_X2_either s m args below meth c H locs 0 0 Q (F0 m pc ls [.int res.1])) (v1 : Int32) (v2 : Int32) (S : mq_St) (H : Heap) (locs : List Loc) (ls : Array Slot) (h : zf_X2_either N z v1 v2 S = some res) (hl : lv_has ls 3 [(0, .ref (a 14)), (1, .int (v1)), (2, .int (v2))]) (hP : va_P D vwCl (wd_C a cI cL cB cZ z S) H) (hD : va_D A (wd_C a cI cL cB cZ z S)) (hS : va_S A s.heap H locs) : W p l e zr_X2_either s m args below meth c H locs 0 0 Q (F0 m 0 ls []) := by
  obtain ⟨hx, hb, hml, hown, hts, hK, hA⟩ := id C
  unfold zf_X2_either at h
  refine lv_aload_n hx hb dX2_either_0 rfl (lv_at hl 0 rfl) ?_
  refine lv_iconst (v := (4 : Int32)) hx hb dX2_either_1 (by decide) ?_
  refine lv_iload_n hx hb dX2_either_2 rfl (lv_at hl 1 rfl) ?_
  obtain ⟨q1, hc2, h⟩ := mq_cp_go h
  refine zv_X2_deny (a := mq_ad a []) (z := z) [] C zt_m_X2_43 ⟨by decide, by decide⟩ hc2 rfl (by decide) hP hD hS hl.1 (Nat.le_of_ble_eq_true rfl) dX2_either_3 (fun H locs hP hD hS => ?_)
  refine lv_iload_n hx hb dX2_either_6 rfl (lv_at hl 2 rfl) ?_
  obtain ⟨q3, hc4, h⟩ := mq_cp_go h
  refine zv_X2_deny (a := mq_ad a []) (z := z) [] C zt_m_X2_43 ⟨by decide, by decide⟩ hc4 rfl (by decide) hP hD hS hl.1 (Nat.le_of_ble_eq_true rfl) dX2_either_7 (fun H locs hP hD hS => ?_)
  obtain ⟨q5, hc6, h⟩ := mq_cl_go h
  refine zk_X2_node C zt_m_X2_39 ⟨by decide, by decide⟩ hc6 hP hD hS hl.1 (Nat.le_of_ble_eq_true rfl) dX2_either_10 (fun H locs hP hD hS => ?_)
  obtain ⟨S7, eS7⟩ : ∃ y, y = q5.2 := ⟨_, rfl⟩
  rw [← eS7] at hP hD h
  obtain ⟨q8, hc9, h⟩ := mq_cp_go h
  refine zv_X2_deny (a := mq_ad a []) (z := z) [] C zt_m_X2_43 ⟨by decide, by decide⟩ hc9 rfl (by decide) hP hD hS hl.1 (Nat.le_of_ble_eq_true rfl) dX2_either_13 (fun H locs hP hD hS => ?_)
  cases h
  exact hret H locs ls 16 dX2_either_16 hP hD hS
set_option maxHeartbeats 4000000 in
set_option maxRecDepth 100000 in
theorem zm_X2_either (l : Launch) (D : va_G) (a z : Nat → Nat) (cI cL cB cZ : ClassId) (sz N : Nat) (v1 : Int32) (v2 : Int32) (S : mq_St) (res : Int32 × mq_St) (h : zf_X2_either N z v1 v2 S = some res) : Met l yX2_either (zc_X2_either :: mq_T) zr_X2_either (va_Pc [.ref (a 14), .int (v1), .int (v2)] (fun U => U.heap.size = sz ∧ va_P D vwCl (wd_C a cI cL cB cZ z S) U.heap ∧ va_K D vwCl (mq_tys cI cL cB cZ) U ∧ va_D (fun _ => True) (wd_C a cI cL cB cZ z S))) (va_Qi (fun (r : Int32) (u : mq_St) => r = res.1 ∧ u = res.2) (fun u t => va_P D vwCl (wd_C a cI cL cB cZ z u) t.heap ∧ va_K D vwCl (mq_tys cI cL cB cZ) t ∧ va_D (va_A (wd_C a cI cL cB cZ z S) sz) (wd_C a cI cL cB cZ z u)) (va_A (wd_C a cI cL cB cZ z S) sz)) 0 0 (va_A (wd_C a cI cL cB cZ z S) sz) := by
  refine Met.ofW (cc := cX2_either) (maxL := 3) (ret := (some .int)) (by decide) rfl ?_
  intro p e s m args below meth c s₁ B hml hv
  obtain ⟨rfl, hsz, hP, hK, hD0⟩ := hv
  have hr := B.returns
  have hlocks := B.notSynchronized
  have hts := atoms_spec (ws := zc_X2_either :: mq_T) B.pre
  have hown : s.vm.findClass RX2 = some m.cls := findClass_of_methodNamed B.named
  subst hsz
  have hD := hD0.self (sz := s.heap.size)
  generalize hAe : va_A (wd_C a cI cL cB cZ z S) s.heap.size = A at hD ⊢
  have hA : ∀ q : Nat, s.heap.size ≤ q → A q := fun q h => by rw [← hAe]; exact Or.inr h
  have hl := lv_entry ([.ref (a 14), .int (v1), .int (v2)]) (n := 3) (Nat.le_of_ble_eq_true rfl)
  rw [lg_entry_eq]
  generalize (lg_sl ([.ref (a 14), .int (v1), .int (v2)]) ++ List.replicate (3 - (lg_sl ([.ref (a 14), .int (v1), .int (v2)])).length) Slot.unset).toArray = ls at hl ⊢
  have hl : lv_has ls 3 [(0, .ref (a 14)), (1, .int (v1)), (2, .int (v2))] := hl
  refine zw_X2_either_0 (A := A) ⟨B.exec, B.bytes, hml, hown, hts, hK, hA⟩ (fun H locs ls pc dg hP hD hS => ?_) v1 v2 S s.heap [] ls h hl hP hD va_S.rf
  exact W.iret B.exec B.bytes hr (fun t ht hW => ⟨⟨_, _, rfl, ⟨rfl, rfl⟩, by rw [ht]; exact hP, va_K.moved hW.alike hK, hD⟩, hS.F ht⟩) hS.2.2 dg
theorem zt_X2_either_c : zc_X2_either ∈ mq_T := mq_T_mem (mq_t3 (List.mem_of_getElem? (i := 68) rfl)) rfl
theorem zt_X2_either_i : Cond.instanceMethod yX2_either ∈ mq_T := mq_T_mem (mq_t3 (List.mem_of_getElem? (i := 66) rfl)) rfl
theorem zt_X2_either_s : Cond.selects RX2 yX2_either yX2_either ∈ mq_T := mq_T_mem (mq_t3 (List.mem_of_getElem? (i := 67) rfl)) rfl
set_option maxHeartbeats 4000000 in
theorem zk_X2_either {p : Program} {l : Launch} {e : Env} {R : Room} {s : State} {m : MethodId} {args : Array Value} {below : List Frame} {meth : Method} {c : Code} {A : Nat → Prop} {D : va_G} {a z : Nat → Nat} {cI cL cB cZ : ClassId} {Q : State → Prop} {cc : ByteArray} {nL idx pc N : Nat} {own : String} {c1 : Cond} {H : Heap} {locs : List Loc} {ls : Array Slot} {rest : List Value} {S : mq_St} {res : Int32 × mq_St} {v1 : Int32} {v2 : Int32} (C : mq_C p s m args c A D cI cL cB cZ cc nL own c1) (hlk : Cond.methodLink own idx yX2_either ∈ mq_T) (hR : zr_X2_either.frames + 1 ≤ R.frames ∧ 8 + (3 + 11) + zr_X2_either.locals ≤ R.locals) (h : zf_X2_either N z v1 v2 S = some res) (hP : va_P D vwCl (wd_C a cI cL cB cZ z S) H) (hD : va_D A (wd_C a cI cL cB cZ z S)) (hS : va_S A s.heap H locs) (hls : ls.size = nL) (hrest : (rest.map fun v => v.category).sum ≤ 8) (hdg : decode cc pc = .ok (.invokevirtual idx, 3)) (kk : ∀ (H1 : Heap) (locs1 : List Loc), va_P D vwCl (wd_C a cI cL cB cZ z res.2) H1 → va_D A (wd_C a cI cL cB cZ z res.2) → va_S A s.heap H1 locs1 → W p l e R s m args below meth c H1 locs1 0 0 Q (F0 m (pc + 3) ls (.int res.1 :: rest))) : W p l e R s m args below meth c H locs 0 0 Q (F0 m pc ls (.int (v2) :: .int (v1) :: .ref (a 14) :: rest)) := by
  obtain ⟨hx, hb, hml, hown, hts, hK, hA⟩ := C
  have hFc := mq_freeI hD hS hA
  refine va_calli (va_runV (As := [.int (v1), .int (v2)]) (rest := rest) ⟨hx, hb, hml, hown, hts⟩ (zm_X2_either l D a z cI cL cB cZ H.size N v1 v2 S res h) (cwV 2 hts (mq_goodL (mq_wsV hlk zt_X2_either_i zt_X2_either_s zt_ini_X2 zt_X2_either_c)) rfl rfl rfl (by decide +kernel) hR) ⟨fun a U g mk q => ⟨q.1, q.2.1, q.2.2.1, va_K.moved (u := U) (U := U.calling g mk a) (Vm.Alike.refl U.vm) q.2.2.2.1, q.2.2.2.2⟩, zy_C_14 hK hP, fun U hU hW => ⟨rfl, by rw [hU], by rw [hU]; exact hP, va_K.moved hW.alike hK, hD.weaken (fun _ _ _ _ => trivial)⟩⟩ rfl rfl hls rfl (lv_room hrest) hdg ⟨Nat.zero_le _, Nat.zero_le _⟩) hS (fun q _ h => hFc q h) hFc (fun r u t H1 locs ht hvm hw hB hz1 hk1 hS => ?_)
  obtain ⟨rfl, rfl⟩ := hw
  obtain ⟨hP1, hK1, hD1⟩ := hB
  rw [ht] at hP1
  exact kk H1 locs hP1 (hD1.weaken (fun _ _ _ h => hFc _ h)) hS
/-! ModalDesk$Draft.isOver()Z -/
def zr_X2_isOver : Room := { frames := 0, cells := 0, slots := 0, locals := 0 }
def zc_X2_isOver : Cond := .code yX2_isOver cX2_isOver 1 (some .boolean)
def zf_X2_isOver (N : Nat) (z : Nat → Nat) (S : mq_St) : Option (Int32) := (mq_cz ((S.1 4)) (some ((S.1 4))))
set_option maxHeartbeats 4000000 in
set_option maxRecDepth 100000 in
theorem zw_X2_isOver_0 {p : Program} {l : Launch} {e : Env} {s : State} {m : MethodId} {args : Array Value} {below : List Frame} {meth : Method} {c : Code} {A : Nat → Prop} {D : va_G} {a z : Nat → Nat} {cI cL cB cZ : ClassId} {Q : State → Prop} {N : Nat} {S : mq_St} {res : Int32} (C : mq_C p s m args c A D cI cL cB cZ cX2_isOver 1 RX2 zc_X2_isOver) (hret : ∀ (H : Heap) (locs : List Loc) (ls : Array Slot) (pc : Nat), decode cX2_isOver pc = .ok (.ireturn, 1) → narrow .boolean (.int res) = .int res → va_P D vwCl (wd_C a cI cL cB cZ z S) H → va_D A (wd_C a cI cL cB cZ z S) → va_S A s.heap H locs → W p l e zr_X2_isOver s m args below meth c H locs 0 0 Q (F0 m pc ls [.int res])) (H : Heap) (locs : List Loc) (ls : Array Slot) (h : zf_X2_isOver N z S = some res) (hl : lv_has ls 1 [(0, .ref (a 14))]) (hP : va_P D vwCl (wd_C a cI cL cB cZ z S) H) (hD : va_D A (wd_C a cI cL cB cZ z S)) (hS : va_S A s.heap H locs) : W p l e zr_X2_isOver s m args below meth c H locs 0 0 Q (F0 m 0 ls []) := by
  obtain ⟨hx, hb, hml, hown, hts, hK, hA⟩ := id C
  unfold zf_X2_isOver at h
  refine lv_aload_n hx hb dX2_isOver_0 rfl (lv_at hl 0 rfl) ?_
  refine va_get (D := D) (ci := 2) (v := .int ((S.1 4))) (C := RX2) (T := TX2) (N := 8) hx hb hts (zi_X2 _) hown hK hP 14 rfl rfl 7 (by decide) (hts _ (List.mem_cons_of_mem _ zt_f_X2_35)) (fun _ h9 => h9) rfl dX2_isOver_1 ?_
  have hz1 := mq_cz_in h
  replace h := mq_cz_go h
  cases h
  exact hret H locs ls 4 dX2_isOver_4 hz1.1 hP hD hS
set_option maxHeartbeats 4000000 in
set_option maxRecDepth 100000 in
theorem zm_X2_isOver (l : Launch) (D : va_G) (a z : Nat → Nat) (cI cL cB cZ : ClassId) (sz N : Nat) (S : mq_St) (res : Int32) (h : zf_X2_isOver N z S = some res) : Met l yX2_isOver (zc_X2_isOver :: mq_T) zr_X2_isOver (va_Pc [.ref (a 14)] (fun U => U.heap.size = sz ∧ va_P D vwCl (wd_C a cI cL cB cZ z S) U.heap ∧ va_K D vwCl (mq_tys cI cL cB cZ) U ∧ va_D (fun _ => True) (wd_C a cI cL cB cZ z S))) (va_Qi (fun (r : Int32) (u : mq_St) => r = res ∧ u = S) (fun u t => va_P D vwCl (wd_C a cI cL cB cZ z u) t.heap ∧ va_K D vwCl (mq_tys cI cL cB cZ) t ∧ va_D (va_A (wd_C a cI cL cB cZ z S) sz) (wd_C a cI cL cB cZ z u)) (va_A (wd_C a cI cL cB cZ z S) sz)) 0 0 (va_A (wd_C a cI cL cB cZ z S) sz) := by
  refine Met.ofW (cc := cX2_isOver) (maxL := 1) (ret := (some .boolean)) (by decide) rfl ?_
  intro p e s m args below meth c s₁ B hml hv
  obtain ⟨rfl, hsz, hP, hK, hD0⟩ := hv
  have hr := B.returns
  have hlocks := B.notSynchronized
  have hts := atoms_spec (ws := zc_X2_isOver :: mq_T) B.pre
  have hown : s.vm.findClass RX2 = some m.cls := findClass_of_methodNamed B.named
  subst hsz
  have hD := hD0.self (sz := s.heap.size)
  generalize hAe : va_A (wd_C a cI cL cB cZ z S) s.heap.size = A at hD ⊢
  have hA : ∀ q : Nat, s.heap.size ≤ q → A q := fun q h => by rw [← hAe]; exact Or.inr h
  have hl := lv_entry ([.ref (a 14)]) (n := 1) (Nat.le_of_ble_eq_true rfl)
  rw [lg_entry_eq]
  generalize (lg_sl ([.ref (a 14)]) ++ List.replicate (1 - (lg_sl ([.ref (a 14)])).length) Slot.unset).toArray = ls at hl ⊢
  have hl : lv_has ls 1 [(0, .ref (a 14))] := hl
  refine zw_X2_isOver_0 (A := A) ⟨B.exec, B.bytes, hml, hown, hts, hK, hA⟩ (fun H locs ls pc dg hz hP hD hS => ?_) s.heap [] ls h hl hP hD va_S.rf
  exact W.zret B.exec B.bytes hr hz (fun t ht hW => ⟨⟨_, _, rfl, ⟨rfl, rfl⟩, by rw [ht]; exact hP, va_K.moved hW.alike hK, hD⟩, hS.F ht⟩) hS.2.2 dg
theorem zt_X2_isOver_c : zc_X2_isOver ∈ mq_T := mq_T_mem (mq_t3 (List.mem_of_getElem? (i := 89) rfl)) rfl
theorem zt_X2_isOver_i : Cond.instanceMethod yX2_isOver ∈ mq_T := mq_T_mem (mq_t3 (List.mem_of_getElem? (i := 87) rfl)) rfl
theorem zt_X2_isOver_s : Cond.selects RX2 yX2_isOver yX2_isOver ∈ mq_T := mq_T_mem (mq_t3 (List.mem_of_getElem? (i := 88) rfl)) rfl
set_option maxHeartbeats 4000000 in
theorem zk_X2_isOver {p : Program} {l : Launch} {e : Env} {R : Room} {s : State} {m : MethodId} {args : Array Value} {below : List Frame} {meth : Method} {c : Code} {A : Nat → Prop} {D : va_G} {a z : Nat → Nat} {cI cL cB cZ : ClassId} {Q : State → Prop} {cc : ByteArray} {nL idx pc N : Nat} {own : String} {c1 : Cond} {H : Heap} {locs : List Loc} {ls : Array Slot} {rest : List Value} {S : mq_St} {res : Int32} (C : mq_C p s m args c A D cI cL cB cZ cc nL own c1) (hlk : Cond.methodLink own idx yX2_isOver ∈ mq_T) (hR : zr_X2_isOver.frames + 1 ≤ R.frames ∧ 8 + (1 + 11) + zr_X2_isOver.locals ≤ R.locals) (h : zf_X2_isOver N z S = some res) (hP : va_P D vwCl (wd_C a cI cL cB cZ z S) H) (hD : va_D A (wd_C a cI cL cB cZ z S)) (hS : va_S A s.heap H locs) (hls : ls.size = nL) (hrest : (rest.map fun v => v.category).sum ≤ 8) (hdg : decode cc pc = .ok (.invokevirtual idx, 3)) (kk : ∀ (H1 : Heap) (locs1 : List Loc), va_P D vwCl (wd_C a cI cL cB cZ z S) H1 → va_D A (wd_C a cI cL cB cZ z S) → va_S A s.heap H1 locs1 → W p l e R s m args below meth c H1 locs1 0 0 Q (F0 m (pc + 3) ls (.int res :: rest))) : W p l e R s m args below meth c H locs 0 0 Q (F0 m pc ls (.ref (a 14) :: rest)) := by
  obtain ⟨hx, hb, hml, hown, hts, hK, hA⟩ := C
  have hFc := mq_freeI hD hS hA
  refine va_calli (va_runV (As := []) (rest := rest) ⟨hx, hb, hml, hown, hts⟩ (zm_X2_isOver l D a z cI cL cB cZ H.size N S res h) (cwV 0 hts (mq_goodL (mq_wsV hlk zt_X2_isOver_i zt_X2_isOver_s zt_ini_X2 zt_X2_isOver_c)) rfl rfl rfl (by decide +kernel) hR) ⟨fun a U g mk q => ⟨q.1, q.2.1, q.2.2.1, va_K.moved (u := U) (U := U.calling g mk a) (Vm.Alike.refl U.vm) q.2.2.2.1, q.2.2.2.2⟩, zy_C_14 hK hP, fun U hU hW => ⟨rfl, by rw [hU], by rw [hU]; exact hP, va_K.moved hW.alike hK, hD.weaken (fun _ _ _ _ => trivial)⟩⟩ rfl rfl hls rfl (lv_room hrest) hdg ⟨Nat.zero_le _, Nat.zero_le _⟩) hS (fun q _ h => hFc q h) hFc (fun r u t H1 locs ht hvm hw hB hz1 hk1 hS => ?_)
  obtain ⟨rfl, rfl⟩ := hw
  obtain ⟨hP1, hK1, hD1⟩ := hB
  rw [ht] at hP1
  exact kk H1 locs hP1 (hD1.weaken (fun _ _ _ h => hFc _ h)) hS
/-! ModalDesk$Draft.letter(I)I -/
def zr_X2_letter : Room := { frames := 1, cells := 0, slots := 0, locals := 24 }
def zc_X2_letter : Cond := .code yX2_letter cX2_letter 2 (some .int)
def zf_X2_letter (N : Nat) (z : Nat → Nat) (v1 : Int32) (S : mq_St) : Option (Int32 × mq_St) := (mq_cl (zf_X2_node N z ((2 : Int32)) (v1) ((-1 : Int32)) S) (fun q1v S3 => (some (q1v, S3))))
set_option maxHeartbeats 4000000 in
set_option maxRecDepth 100000 in
theorem zw_X2_letter_0 {p : Program} {l : Launch} {e : Env} {s : State} {m : MethodId} {args : Array Value} {below : List Frame} {meth : Method} {c : Code} {A : Nat → Prop} {D : va_G} {a z : Nat → Nat} {cI cL cB cZ : ClassId} {Q : State → Prop} {N : Nat} {res : Int32 × mq_St} (C : mq_C p s m args c A D cI cL cB cZ cX2_letter 2 RX2 zc_X2_letter) (hret : ∀ (H : Heap) (locs : List Loc) (ls : Array Slot) (pc : Nat), decode cX2_letter pc = .ok (.ireturn, 1) → va_P D vwCl (wd_C a cI cL cB cZ z res.2) H → va_D A (wd_C a cI cL cB cZ z res.2) → va_S A s.heap H locs → W p l e zr_X2_letter s m args below meth c H locs 0 0 Q (F0 m pc ls [.int res.1])) (v1 : Int32) (S : mq_St) (H : Heap) (locs : List Loc) (ls : Array Slot) (h : zf_X2_letter N z v1 S = some res) (hl : lv_has ls 2 [(0, .ref (a 14)), (1, .int (v1))]) (hP : va_P D vwCl (wd_C a cI cL cB cZ z S) H) (hD : va_D A (wd_C a cI cL cB cZ z S)) (hS : va_S A s.heap H locs) : W p l e zr_X2_letter s m args below meth c H locs 0 0 Q (F0 m 0 ls []) := by
  obtain ⟨hx, hb, hml, hown, hts, hK, hA⟩ := id C
  unfold zf_X2_letter at h
  refine lv_aload_n hx hb dX2_letter_0 rfl (lv_at hl 0 rfl) ?_
  refine lv_iconst (v := (2 : Int32)) hx hb dX2_letter_1 (by decide) ?_
  refine lv_iload_n hx hb dX2_letter_2 rfl (lv_at hl 1 rfl) ?_
  refine lv_iconst (v := (-1 : Int32)) hx hb dX2_letter_3 (by decide) ?_
  obtain ⟨q1, hc2, h⟩ := mq_cl_go h
  refine zk_X2_node C zt_m_X2_39 ⟨by decide, by decide⟩ hc2 hP hD hS hl.1 (Nat.le_of_ble_eq_true rfl) dX2_letter_4 (fun H locs hP hD hS => ?_)
  obtain ⟨S3, eS3⟩ : ∃ y, y = q1.2 := ⟨_, rfl⟩
  rw [← eS3] at hP hD h
  cases h
  exact hret H locs ls 7 dX2_letter_7 hP hD hS
set_option maxHeartbeats 4000000 in
set_option maxRecDepth 100000 in
theorem zm_X2_letter (l : Launch) (D : va_G) (a z : Nat → Nat) (cI cL cB cZ : ClassId) (sz N : Nat) (v1 : Int32) (S : mq_St) (res : Int32 × mq_St) (h : zf_X2_letter N z v1 S = some res) : Met l yX2_letter (zc_X2_letter :: mq_T) zr_X2_letter (va_Pc [.ref (a 14), .int (v1)] (fun U => U.heap.size = sz ∧ va_P D vwCl (wd_C a cI cL cB cZ z S) U.heap ∧ va_K D vwCl (mq_tys cI cL cB cZ) U ∧ va_D (fun _ => True) (wd_C a cI cL cB cZ z S))) (va_Qi (fun (r : Int32) (u : mq_St) => r = res.1 ∧ u = res.2) (fun u t => va_P D vwCl (wd_C a cI cL cB cZ z u) t.heap ∧ va_K D vwCl (mq_tys cI cL cB cZ) t ∧ va_D (va_A (wd_C a cI cL cB cZ z S) sz) (wd_C a cI cL cB cZ z u)) (va_A (wd_C a cI cL cB cZ z S) sz)) 0 0 (va_A (wd_C a cI cL cB cZ z S) sz) := by
  refine Met.ofW (cc := cX2_letter) (maxL := 2) (ret := (some .int)) (by decide) rfl ?_
  intro p e s m args below meth c s₁ B hml hv
  obtain ⟨rfl, hsz, hP, hK, hD0⟩ := hv
  have hr := B.returns
  have hlocks := B.notSynchronized
  have hts := atoms_spec (ws := zc_X2_letter :: mq_T) B.pre
  have hown : s.vm.findClass RX2 = some m.cls := findClass_of_methodNamed B.named
  subst hsz
  have hD := hD0.self (sz := s.heap.size)
  generalize hAe : va_A (wd_C a cI cL cB cZ z S) s.heap.size = A at hD ⊢
  have hA : ∀ q : Nat, s.heap.size ≤ q → A q := fun q h => by rw [← hAe]; exact Or.inr h
  have hl := lv_entry ([.ref (a 14), .int (v1)]) (n := 2) (Nat.le_of_ble_eq_true rfl)
  rw [lg_entry_eq]
  generalize (lg_sl ([.ref (a 14), .int (v1)]) ++ List.replicate (2 - (lg_sl ([.ref (a 14), .int (v1)])).length) Slot.unset).toArray = ls at hl ⊢
  have hl : lv_has ls 2 [(0, .ref (a 14)), (1, .int (v1))] := hl
  refine zw_X2_letter_0 (A := A) ⟨B.exec, B.bytes, hml, hown, hts, hK, hA⟩ (fun H locs ls pc dg hP hD hS => ?_) v1 S s.heap [] ls h hl hP hD va_S.rf
  exact W.iret B.exec B.bytes hr (fun t ht hW => ⟨⟨_, _, rfl, ⟨rfl, rfl⟩, by rw [ht]; exact hP, va_K.moved hW.alike hK, hD⟩, hS.F ht⟩) hS.2.2 dg
theorem zt_X2_letter_c : zc_X2_letter ∈ mq_T := mq_T_mem (mq_t3 (List.mem_of_getElem? (i := 23) rfl)) rfl
theorem zt_X2_letter_i : Cond.instanceMethod yX2_letter ∈ mq_T := mq_T_mem (mq_t3 (List.mem_of_getElem? (i := 21) rfl)) rfl
theorem zt_X2_letter_s : Cond.selects RX2 yX2_letter yX2_letter ∈ mq_T := mq_T_mem (mq_t3 (List.mem_of_getElem? (i := 22) rfl)) rfl
set_option maxHeartbeats 4000000 in
theorem zk_X2_letter {p : Program} {l : Launch} {e : Env} {R : Room} {s : State} {m : MethodId} {args : Array Value} {below : List Frame} {meth : Method} {c : Code} {A : Nat → Prop} {D : va_G} {a z : Nat → Nat} {cI cL cB cZ : ClassId} {Q : State → Prop} {cc : ByteArray} {nL idx pc N : Nat} {own : String} {c1 : Cond} {H : Heap} {locs : List Loc} {ls : Array Slot} {rest : List Value} {S : mq_St} {res : Int32 × mq_St} {v1 : Int32} (C : mq_C p s m args c A D cI cL cB cZ cc nL own c1) (hlk : Cond.methodLink own idx yX2_letter ∈ mq_T) (hR : zr_X2_letter.frames + 1 ≤ R.frames ∧ 8 + (2 + 11) + zr_X2_letter.locals ≤ R.locals) (h : zf_X2_letter N z v1 S = some res) (hP : va_P D vwCl (wd_C a cI cL cB cZ z S) H) (hD : va_D A (wd_C a cI cL cB cZ z S)) (hS : va_S A s.heap H locs) (hls : ls.size = nL) (hrest : (rest.map fun v => v.category).sum ≤ 8) (hdg : decode cc pc = .ok (.invokevirtual idx, 3)) (kk : ∀ (H1 : Heap) (locs1 : List Loc), va_P D vwCl (wd_C a cI cL cB cZ z res.2) H1 → va_D A (wd_C a cI cL cB cZ z res.2) → va_S A s.heap H1 locs1 → W p l e R s m args below meth c H1 locs1 0 0 Q (F0 m (pc + 3) ls (.int res.1 :: rest))) : W p l e R s m args below meth c H locs 0 0 Q (F0 m pc ls (.int (v1) :: .ref (a 14) :: rest)) := by
  obtain ⟨hx, hb, hml, hown, hts, hK, hA⟩ := C
  have hFc := mq_freeI hD hS hA
  refine va_calli (va_runV (As := [.int (v1)]) (rest := rest) ⟨hx, hb, hml, hown, hts⟩ (zm_X2_letter l D a z cI cL cB cZ H.size N v1 S res h) (cwV 1 hts (mq_goodL (mq_wsV hlk zt_X2_letter_i zt_X2_letter_s zt_ini_X2 zt_X2_letter_c)) rfl rfl rfl (by decide +kernel) hR) ⟨fun a U g mk q => ⟨q.1, q.2.1, q.2.2.1, va_K.moved (u := U) (U := U.calling g mk a) (Vm.Alike.refl U.vm) q.2.2.2.1, q.2.2.2.2⟩, zy_C_14 hK hP, fun U hU hW => ⟨rfl, by rw [hU], by rw [hU]; exact hP, va_K.moved hW.alike hK, hD.weaken (fun _ _ _ _ => trivial)⟩⟩ rfl rfl hls rfl (lv_room hrest) hdg ⟨Nat.zero_le _, Nat.zero_le _⟩) hS (fun q _ h => hFc q h) hFc (fun r u t H1 locs ht hvm hw hB hz1 hk1 hS => ?_)
  obtain ⟨rfl, rfl⟩ := hw
  obtain ⟨hP1, hK1, hD1⟩ := hB
  rw [ht] at hP1
  exact kk H1 locs hP1 (hD1.weaken (fun _ _ _ h => hFc _ h)) hS
/-! ModalDesk$Draft.may(I)I -/
def zr_X2_may : Room := { frames := 1, cells := 0, slots := 0, locals := 24 }
def zc_X2_may : Cond := .code yX2_may cX2_may 2 (some .int)
def zf_X2_may (N : Nat) (z : Nat → Nat) (v1 : Int32) (S : mq_St) : Option (Int32 × mq_St) := (mq_cp (zf_X2_deny N z (v1) (mq_pull S [] [] [])) (fun q1 => (mq_cl (zf_X2_node N z ((6 : Int32)) (q1) ((-1 : Int32)) S) (fun q3v S5 => (mq_cp (zf_X2_deny N z (q3v) (mq_pull S5 [] [] [])) (fun q6 => (some (q6, S5))))))))
set_option maxHeartbeats 4000000 in
set_option maxRecDepth 100000 in
theorem zw_X2_may_0 {p : Program} {l : Launch} {e : Env} {s : State} {m : MethodId} {args : Array Value} {below : List Frame} {meth : Method} {c : Code} {A : Nat → Prop} {D : va_G} {a z : Nat → Nat} {cI cL cB cZ : ClassId} {Q : State → Prop} {N : Nat} {res : Int32 × mq_St} (C : mq_C p s m args c A D cI cL cB cZ cX2_may 2 RX2 zc_X2_may) (hret : ∀ (H : Heap) (locs : List Loc) (ls : Array Slot) (pc : Nat), decode cX2_may pc = .ok (.ireturn, 1) → va_P D vwCl (wd_C a cI cL cB cZ z res.2) H → va_D A (wd_C a cI cL cB cZ z res.2) → va_S A s.heap H locs → W p l e zr_X2_may s m args below meth c H locs 0 0 Q (F0 m pc ls [.int res.1])) (v1 : Int32) (S : mq_St) (H : Heap) (locs : List Loc) (ls : Array Slot) (h : zf_X2_may N z v1 S = some res) (hl : lv_has ls 2 [(0, .ref (a 14)), (1, .int (v1))]) (hP : va_P D vwCl (wd_C a cI cL cB cZ z S) H) (hD : va_D A (wd_C a cI cL cB cZ z S)) (hS : va_S A s.heap H locs) : W p l e zr_X2_may s m args below meth c H locs 0 0 Q (F0 m 0 ls []) := by
  obtain ⟨hx, hb, hml, hown, hts, hK, hA⟩ := id C
  unfold zf_X2_may at h
  refine lv_aload_n hx hb dX2_may_0 rfl (lv_at hl 0 rfl) ?_
  refine lv_bipush (v := (6 : Int32)) hx hb dX2_may_1 (by decide) ?_
  refine lv_iload_n hx hb dX2_may_3 rfl (lv_at hl 1 rfl) ?_
  obtain ⟨q1, hc2, h⟩ := mq_cp_go h
  refine zv_X2_deny (a := mq_ad a []) (z := z) [] C zt_m_X2_43 ⟨by decide, by decide⟩ hc2 rfl (by decide) hP hD hS hl.1 (Nat.le_of_ble_eq_true rfl) dX2_may_4 (fun H locs hP hD hS => ?_)
  refine lv_iconst (v := (-1 : Int32)) hx hb dX2_may_7 (by decide) ?_
  obtain ⟨q3, hc4, h⟩ := mq_cl_go h
  refine zk_X2_node C zt_m_X2_39 ⟨by decide, by decide⟩ hc4 hP hD hS hl.1 (Nat.le_of_ble_eq_true rfl) dX2_may_8 (fun H locs hP hD hS => ?_)
  obtain ⟨S5, eS5⟩ : ∃ y, y = q3.2 := ⟨_, rfl⟩
  rw [← eS5] at hP hD h
  obtain ⟨q6, hc7, h⟩ := mq_cp_go h
  refine zv_X2_deny (a := mq_ad a []) (z := z) [] C zt_m_X2_43 ⟨by decide, by decide⟩ hc7 rfl (by decide) hP hD hS hl.1 (Nat.le_of_ble_eq_true rfl) dX2_may_11 (fun H locs hP hD hS => ?_)
  cases h
  exact hret H locs ls 14 dX2_may_14 hP hD hS
set_option maxHeartbeats 4000000 in
set_option maxRecDepth 100000 in
theorem zm_X2_may (l : Launch) (D : va_G) (a z : Nat → Nat) (cI cL cB cZ : ClassId) (sz N : Nat) (v1 : Int32) (S : mq_St) (res : Int32 × mq_St) (h : zf_X2_may N z v1 S = some res) : Met l yX2_may (zc_X2_may :: mq_T) zr_X2_may (va_Pc [.ref (a 14), .int (v1)] (fun U => U.heap.size = sz ∧ va_P D vwCl (wd_C a cI cL cB cZ z S) U.heap ∧ va_K D vwCl (mq_tys cI cL cB cZ) U ∧ va_D (fun _ => True) (wd_C a cI cL cB cZ z S))) (va_Qi (fun (r : Int32) (u : mq_St) => r = res.1 ∧ u = res.2) (fun u t => va_P D vwCl (wd_C a cI cL cB cZ z u) t.heap ∧ va_K D vwCl (mq_tys cI cL cB cZ) t ∧ va_D (va_A (wd_C a cI cL cB cZ z S) sz) (wd_C a cI cL cB cZ z u)) (va_A (wd_C a cI cL cB cZ z S) sz)) 0 0 (va_A (wd_C a cI cL cB cZ z S) sz) := by
  refine Met.ofW (cc := cX2_may) (maxL := 2) (ret := (some .int)) (by decide) rfl ?_
  intro p e s m args below meth c s₁ B hml hv
  obtain ⟨rfl, hsz, hP, hK, hD0⟩ := hv
  have hr := B.returns
  have hlocks := B.notSynchronized
  have hts := atoms_spec (ws := zc_X2_may :: mq_T) B.pre
  have hown : s.vm.findClass RX2 = some m.cls := findClass_of_methodNamed B.named
  subst hsz
  have hD := hD0.self (sz := s.heap.size)
  generalize hAe : va_A (wd_C a cI cL cB cZ z S) s.heap.size = A at hD ⊢
  have hA : ∀ q : Nat, s.heap.size ≤ q → A q := fun q h => by rw [← hAe]; exact Or.inr h
  have hl := lv_entry ([.ref (a 14), .int (v1)]) (n := 2) (Nat.le_of_ble_eq_true rfl)
  rw [lg_entry_eq]
  generalize (lg_sl ([.ref (a 14), .int (v1)]) ++ List.replicate (2 - (lg_sl ([.ref (a 14), .int (v1)])).length) Slot.unset).toArray = ls at hl ⊢
  have hl : lv_has ls 2 [(0, .ref (a 14)), (1, .int (v1))] := hl
  refine zw_X2_may_0 (A := A) ⟨B.exec, B.bytes, hml, hown, hts, hK, hA⟩ (fun H locs ls pc dg hP hD hS => ?_) v1 S s.heap [] ls h hl hP hD va_S.rf
  exact W.iret B.exec B.bytes hr (fun t ht hW => ⟨⟨_, _, rfl, ⟨rfl, rfl⟩, by rw [ht]; exact hP, va_K.moved hW.alike hK, hD⟩, hS.F ht⟩) hS.2.2 dg
theorem zt_X2_may_c : zc_X2_may ∈ mq_T := mq_T_mem (mq_t3 (List.mem_of_getElem? (i := 51) rfl)) rfl
theorem zt_X2_may_i : Cond.instanceMethod yX2_may ∈ mq_T := mq_T_mem (mq_t3 (List.mem_of_getElem? (i := 49) rfl)) rfl
theorem zt_X2_may_s : Cond.selects RX2 yX2_may yX2_may ∈ mq_T := mq_T_mem (mq_t3 (List.mem_of_getElem? (i := 50) rfl)) rfl
set_option maxHeartbeats 4000000 in
theorem zk_X2_may {p : Program} {l : Launch} {e : Env} {R : Room} {s : State} {m : MethodId} {args : Array Value} {below : List Frame} {meth : Method} {c : Code} {A : Nat → Prop} {D : va_G} {a z : Nat → Nat} {cI cL cB cZ : ClassId} {Q : State → Prop} {cc : ByteArray} {nL idx pc N : Nat} {own : String} {c1 : Cond} {H : Heap} {locs : List Loc} {ls : Array Slot} {rest : List Value} {S : mq_St} {res : Int32 × mq_St} {v1 : Int32} (C : mq_C p s m args c A D cI cL cB cZ cc nL own c1) (hlk : Cond.methodLink own idx yX2_may ∈ mq_T) (hR : zr_X2_may.frames + 1 ≤ R.frames ∧ 8 + (2 + 11) + zr_X2_may.locals ≤ R.locals) (h : zf_X2_may N z v1 S = some res) (hP : va_P D vwCl (wd_C a cI cL cB cZ z S) H) (hD : va_D A (wd_C a cI cL cB cZ z S)) (hS : va_S A s.heap H locs) (hls : ls.size = nL) (hrest : (rest.map fun v => v.category).sum ≤ 8) (hdg : decode cc pc = .ok (.invokevirtual idx, 3)) (kk : ∀ (H1 : Heap) (locs1 : List Loc), va_P D vwCl (wd_C a cI cL cB cZ z res.2) H1 → va_D A (wd_C a cI cL cB cZ z res.2) → va_S A s.heap H1 locs1 → W p l e R s m args below meth c H1 locs1 0 0 Q (F0 m (pc + 3) ls (.int res.1 :: rest))) : W p l e R s m args below meth c H locs 0 0 Q (F0 m pc ls (.int (v1) :: .ref (a 14) :: rest)) := by
  obtain ⟨hx, hb, hml, hown, hts, hK, hA⟩ := C
  have hFc := mq_freeI hD hS hA
  refine va_calli (va_runV (As := [.int (v1)]) (rest := rest) ⟨hx, hb, hml, hown, hts⟩ (zm_X2_may l D a z cI cL cB cZ H.size N v1 S res h) (cwV 1 hts (mq_goodL (mq_wsV hlk zt_X2_may_i zt_X2_may_s zt_ini_X2 zt_X2_may_c)) rfl rfl rfl (by decide +kernel) hR) ⟨fun a U g mk q => ⟨q.1, q.2.1, q.2.2.1, va_K.moved (u := U) (U := U.calling g mk a) (Vm.Alike.refl U.vm) q.2.2.2.1, q.2.2.2.2⟩, zy_C_14 hK hP, fun U hU hW => ⟨rfl, by rw [hU], by rw [hU]; exact hP, va_K.moved hW.alike hK, hD.weaken (fun _ _ _ _ => trivial)⟩⟩ rfl rfl hls rfl (lv_room hrest) hdg ⟨Nat.zero_le _, Nat.zero_le _⟩) hS (fun q _ h => hFc q h) hFc (fun r u t H1 locs ht hvm hw hB hz1 hk1 hS => ?_)
  obtain ⟨rfl, rfl⟩ := hw
  obtain ⟨hP1, hK1, hD1⟩ := hB
  rw [ht] at hP1
  exact kk H1 locs hP1 (hD1.weaken (fun _ _ _ h => hFc _ h)) hS
/-! ModalDesk$Draft.need(I)I -/
def zr_X2_need : Room := { frames := 1, cells := 0, slots := 0, locals := 24 }
def zc_X2_need : Cond := .code yX2_need cX2_need 2 (some .int)
def zf_X2_need (N : Nat) (z : Nat → Nat) (v1 : Int32) (S : mq_St) : Option (Int32 × mq_St) := (mq_cl (zf_X2_node N z ((6 : Int32)) (v1) ((-1 : Int32)) S) (fun q1v S3 => (some (q1v, S3))))
set_option maxHeartbeats 4000000 in
set_option maxRecDepth 100000 in
theorem zw_X2_need_0 {p : Program} {l : Launch} {e : Env} {s : State} {m : MethodId} {args : Array Value} {below : List Frame} {meth : Method} {c : Code} {A : Nat → Prop} {D : va_G} {a z : Nat → Nat} {cI cL cB cZ : ClassId} {Q : State → Prop} {N : Nat} {res : Int32 × mq_St} (C : mq_C p s m args c A D cI cL cB cZ cX2_need 2 RX2 zc_X2_need) (hret : ∀ (H : Heap) (locs : List Loc) (ls : Array Slot) (pc : Nat), decode cX2_need pc = .ok (.ireturn, 1) → va_P D vwCl (wd_C a cI cL cB cZ z res.2) H → va_D A (wd_C a cI cL cB cZ z res.2) → va_S A s.heap H locs → W p l e zr_X2_need s m args below meth c H locs 0 0 Q (F0 m pc ls [.int res.1])) (v1 : Int32) (S : mq_St) (H : Heap) (locs : List Loc) (ls : Array Slot) (h : zf_X2_need N z v1 S = some res) (hl : lv_has ls 2 [(0, .ref (a 14)), (1, .int (v1))]) (hP : va_P D vwCl (wd_C a cI cL cB cZ z S) H) (hD : va_D A (wd_C a cI cL cB cZ z S)) (hS : va_S A s.heap H locs) : W p l e zr_X2_need s m args below meth c H locs 0 0 Q (F0 m 0 ls []) := by
  obtain ⟨hx, hb, hml, hown, hts, hK, hA⟩ := id C
  unfold zf_X2_need at h
  refine lv_aload_n hx hb dX2_need_0 rfl (lv_at hl 0 rfl) ?_
  refine lv_bipush (v := (6 : Int32)) hx hb dX2_need_1 (by decide) ?_
  refine lv_iload_n hx hb dX2_need_3 rfl (lv_at hl 1 rfl) ?_
  refine lv_iconst (v := (-1 : Int32)) hx hb dX2_need_4 (by decide) ?_
  obtain ⟨q1, hc2, h⟩ := mq_cl_go h
  refine zk_X2_node C zt_m_X2_39 ⟨by decide, by decide⟩ hc2 hP hD hS hl.1 (Nat.le_of_ble_eq_true rfl) dX2_need_5 (fun H locs hP hD hS => ?_)
  obtain ⟨S3, eS3⟩ : ∃ y, y = q1.2 := ⟨_, rfl⟩
  rw [← eS3] at hP hD h
  cases h
  exact hret H locs ls 8 dX2_need_8 hP hD hS
set_option maxHeartbeats 4000000 in
set_option maxRecDepth 100000 in
theorem zm_X2_need (l : Launch) (D : va_G) (a z : Nat → Nat) (cI cL cB cZ : ClassId) (sz N : Nat) (v1 : Int32) (S : mq_St) (res : Int32 × mq_St) (h : zf_X2_need N z v1 S = some res) : Met l yX2_need (zc_X2_need :: mq_T) zr_X2_need (va_Pc [.ref (a 14), .int (v1)] (fun U => U.heap.size = sz ∧ va_P D vwCl (wd_C a cI cL cB cZ z S) U.heap ∧ va_K D vwCl (mq_tys cI cL cB cZ) U ∧ va_D (fun _ => True) (wd_C a cI cL cB cZ z S))) (va_Qi (fun (r : Int32) (u : mq_St) => r = res.1 ∧ u = res.2) (fun u t => va_P D vwCl (wd_C a cI cL cB cZ z u) t.heap ∧ va_K D vwCl (mq_tys cI cL cB cZ) t ∧ va_D (va_A (wd_C a cI cL cB cZ z S) sz) (wd_C a cI cL cB cZ z u)) (va_A (wd_C a cI cL cB cZ z S) sz)) 0 0 (va_A (wd_C a cI cL cB cZ z S) sz) := by
  refine Met.ofW (cc := cX2_need) (maxL := 2) (ret := (some .int)) (by decide) rfl ?_
  intro p e s m args below meth c s₁ B hml hv
  obtain ⟨rfl, hsz, hP, hK, hD0⟩ := hv
  have hr := B.returns
  have hlocks := B.notSynchronized
  have hts := atoms_spec (ws := zc_X2_need :: mq_T) B.pre
  have hown : s.vm.findClass RX2 = some m.cls := findClass_of_methodNamed B.named
  subst hsz
  have hD := hD0.self (sz := s.heap.size)
  generalize hAe : va_A (wd_C a cI cL cB cZ z S) s.heap.size = A at hD ⊢
  have hA : ∀ q : Nat, s.heap.size ≤ q → A q := fun q h => by rw [← hAe]; exact Or.inr h
  have hl := lv_entry ([.ref (a 14), .int (v1)]) (n := 2) (Nat.le_of_ble_eq_true rfl)
  rw [lg_entry_eq]
  generalize (lg_sl ([.ref (a 14), .int (v1)]) ++ List.replicate (2 - (lg_sl ([.ref (a 14), .int (v1)])).length) Slot.unset).toArray = ls at hl ⊢
  have hl : lv_has ls 2 [(0, .ref (a 14)), (1, .int (v1))] := hl
  refine zw_X2_need_0 (A := A) ⟨B.exec, B.bytes, hml, hown, hts, hK, hA⟩ (fun H locs ls pc dg hP hD hS => ?_) v1 S s.heap [] ls h hl hP hD va_S.rf
  exact W.iret B.exec B.bytes hr (fun t ht hW => ⟨⟨_, _, rfl, ⟨rfl, rfl⟩, by rw [ht]; exact hP, va_K.moved hW.alike hK, hD⟩, hS.F ht⟩) hS.2.2 dg
theorem zt_X2_need_c : zc_X2_need ∈ mq_T := mq_T_mem (mq_t3 (List.mem_of_getElem? (i := 27) rfl)) rfl
theorem zt_X2_need_i : Cond.instanceMethod yX2_need ∈ mq_T := mq_T_mem (mq_t3 (List.mem_of_getElem? (i := 25) rfl)) rfl
theorem zt_X2_need_s : Cond.selects RX2 yX2_need yX2_need ∈ mq_T := mq_T_mem (mq_t3 (List.mem_of_getElem? (i := 26) rfl)) rfl
set_option maxHeartbeats 4000000 in
theorem zk_X2_need {p : Program} {l : Launch} {e : Env} {R : Room} {s : State} {m : MethodId} {args : Array Value} {below : List Frame} {meth : Method} {c : Code} {A : Nat → Prop} {D : va_G} {a z : Nat → Nat} {cI cL cB cZ : ClassId} {Q : State → Prop} {cc : ByteArray} {nL idx pc N : Nat} {own : String} {c1 : Cond} {H : Heap} {locs : List Loc} {ls : Array Slot} {rest : List Value} {S : mq_St} {res : Int32 × mq_St} {v1 : Int32} (C : mq_C p s m args c A D cI cL cB cZ cc nL own c1) (hlk : Cond.methodLink own idx yX2_need ∈ mq_T) (hR : zr_X2_need.frames + 1 ≤ R.frames ∧ 8 + (2 + 11) + zr_X2_need.locals ≤ R.locals) (h : zf_X2_need N z v1 S = some res) (hP : va_P D vwCl (wd_C a cI cL cB cZ z S) H) (hD : va_D A (wd_C a cI cL cB cZ z S)) (hS : va_S A s.heap H locs) (hls : ls.size = nL) (hrest : (rest.map fun v => v.category).sum ≤ 8) (hdg : decode cc pc = .ok (.invokevirtual idx, 3)) (kk : ∀ (H1 : Heap) (locs1 : List Loc), va_P D vwCl (wd_C a cI cL cB cZ z res.2) H1 → va_D A (wd_C a cI cL cB cZ z res.2) → va_S A s.heap H1 locs1 → W p l e R s m args below meth c H1 locs1 0 0 Q (F0 m (pc + 3) ls (.int res.1 :: rest))) : W p l e R s m args below meth c H locs 0 0 Q (F0 m pc ls (.int (v1) :: .ref (a 14) :: rest)) := by
  obtain ⟨hx, hb, hml, hown, hts, hK, hA⟩ := C
  have hFc := mq_freeI hD hS hA
  refine va_calli (va_runV (As := [.int (v1)]) (rest := rest) ⟨hx, hb, hml, hown, hts⟩ (zm_X2_need l D a z cI cL cB cZ H.size N v1 S res h) (cwV 1 hts (mq_goodL (mq_wsV hlk zt_X2_need_i zt_X2_need_s zt_ini_X2 zt_X2_need_c)) rfl rfl rfl (by decide +kernel) hR) ⟨fun a U g mk q => ⟨q.1, q.2.1, q.2.2.1, va_K.moved (u := U) (U := U.calling g mk a) (Vm.Alike.refl U.vm) q.2.2.2.1, q.2.2.2.2⟩, zy_C_14 hK hP, fun U hU hW => ⟨rfl, by rw [hU], by rw [hU]; exact hP, va_K.moved hW.alike hK, hD.weaken (fun _ _ _ _ => trivial)⟩⟩ rfl rfl hls rfl (lv_room hrest) hdg ⟨Nat.zero_le _, Nat.zero_le _⟩) hS (fun q _ h => hFc q h) hFc (fun r u t H1 locs ht hvm hw hB hz1 hk1 hS => ?_)
  obtain ⟨rfl, rfl⟩ := hw
  obtain ⟨hP1, hK1, hD1⟩ := hB
  rw [ht] at hP1
  exact kk H1 locs hP1 (hD1.weaken (fun _ _ _ h => hFc _ h)) hS
theorem zt_m_X2_62 : Cond.methodLink RX2 62 yX7_pair ∈ mq_T := mq_T_mem (mq_t3 (List.mem_of_getElem? (i := 145) rfl)) rfl
/-! ModalDesk$Draft.pairAll()V -/
def zr_X2_pairAll : Room := { frames := 2, cells := 0, slots := 0, locals := 43 }
def zc_X2_pairAll : Cond := .code yX2_pairAll cX2_pairAll 2 none
def zf_X2_pairAll_2b (N : Nat) (z : Nat → Nat) (k2 : Int32 → mq_St → Option (Unit × mq_St)) (v1 : Int32) (S : mq_St) : Option (Unit × mq_St) := (if (S.1 3) ≤ v1 then (some ((), S)) else (mq_ck (((2 : Int32) * v1)) 300 (mq_ck ((((2 : Int32) * v1) + (1 : Int32))) 300 (mq_cl (zf_X7_pair N z ((S.2.1 11 (((2 : Int32) * v1)).toNatClampNeg)) ((S.2.1 11 ((((2 : Int32) * v1) + (1 : Int32))).toNatClampNeg)) S) (fun q4v S6 => (mq_nI (v1 + (1 : Int32)) (fun x7 => (k2 (x7) S6))))))))
def zf_X2_pairAll_2 (N : Nat) (z : Nat → Nat) : Nat → Int32 → mq_St → Option (Unit × mq_St)
  | 0, _, _ => none
  | n + 1, v1, S => zf_X2_pairAll_2b N z (fun v1 S => zf_X2_pairAll_2 N z n v1 S) v1 S
def zf_X2_pairAll (N : Nat) (z : Nat → Nat) (S : mq_St) : Option (Unit × mq_St) := (mq_nI ((0 : Int32)) (fun x1 => (zf_X2_pairAll_2 N z N (x1) S)))
set_option maxHeartbeats 4000000 in
set_option maxRecDepth 100000 in
theorem zw_X2_pairAll_2b {p : Program} {l : Launch} {e : Env} {s : State} {m : MethodId} {args : Array Value} {below : List Frame} {meth : Method} {c : Code} {A : Nat → Prop} {D : va_G} {a z : Nat → Nat} {cI cL cB cZ : ClassId} {Q : State → Prop} {N : Nat} {res : Unit × mq_St} {k2 : Int32 → mq_St → Option (Unit × mq_St)} (C : mq_C p s m args c A D cI cL cB cZ cX2_pairAll 2 RX2 zc_X2_pairAll) (hret : ∀ (H : Heap) (locs : List Loc) (ls : Array Slot) (pc : Nat), decode cX2_pairAll pc = .ok (.return_, 1) → va_P D vwCl (wd_C a cI cL cB cZ z res.2) H → va_D A (wd_C a cI cL cB cZ z res.2) → va_S A s.heap H locs → W p l e zr_X2_pairAll s m args below meth c H locs 0 0 Q (F0 m pc ls [])) (hk2 : ∀ (v1 : Int32) (S : mq_St) (H : Heap) (locs : List Loc) (ls : Array Slot), k2 v1 S = some res → lv_has ls 2 [(0, .ref (a 14)), (1, .int (v1))] → va_P D vwCl (wd_C a cI cL cB cZ z S) H → va_D A (wd_C a cI cL cB cZ z S) → va_S A s.heap H locs → W p l e zr_X2_pairAll s m args below meth c H locs 0 0 Q (F0 m 2 ls [])) (v1 : Int32) (S : mq_St) (H : Heap) (locs : List Loc) (ls : Array Slot) (h : zf_X2_pairAll_2b N z k2 v1 S = some res) (hl : lv_has ls 2 [(0, .ref (a 14)), (1, .int (v1))]) (hP : va_P D vwCl (wd_C a cI cL cB cZ z S) H) (hD : va_D A (wd_C a cI cL cB cZ z S)) (hS : va_S A s.heap H locs) : W p l e zr_X2_pairAll s m args below meth c H locs 0 0 Q (F0 m 2 ls []) := by
  obtain ⟨hx, hb, hml, hown, hts, hK, hA⟩ := id C
  unfold zf_X2_pairAll_2b at h
  refine lv_iload_n hx hb dX2_pairAll_2 rfl (lv_at hl 1 rfl) ?_
  refine lv_aload_n hx hb dX2_pairAll_3 rfl (lv_at hl 0 rfl) ?_
  refine va_get (D := D) (ci := 2) (v := .int ((S.1 3))) (C := RX2) (T := TX2) (N := 8) hx hb hts (zi_X2 _) hown hK hP 14 rfl rfl 6 (by decide) (hts _ (List.mem_cons_of_mem _ zt_f_X2_31)) (fun _ h9 => h9) rfl dX2_pairAll_4 ?_
  refine lv_icmp_ge (tgt := 41) hx hb dX2_pairAll_7 (by decide) (fun c8 => ?_) (fun c8 => ?_)
  · replace h := mq_it c8 h
    cases h
    exact hret H locs ls 41 dX2_pairAll_41 hP hD hS
  · replace h := mq_if c8 h
    refine lv_aload_n hx hb dX2_pairAll_10 rfl (lv_at hl 0 rfl) ?_
    refine va_get (D := D) (ci := 2) (v := .ref (a 7)) (C := RX2) (T := TX2) (N := 8) hx hb hts (zi_X2 _) hown hK hP 14 rfl rfl 0 (by decide) (hts _ (List.mem_cons_of_mem _ zt_f_X2_27)) (fun _ h9 => h9) rfl dX2_pairAll_11 ?_
    refine lv_aload_n hx hb dX2_pairAll_14 rfl (lv_at hl 0 rfl) ?_
    refine va_get (D := D) (ci := 2) (v := .ref (a 18)) (C := RX2) (T := TX2) (N := 8) hx hb hts (zi_X2 _) hown hK hP 14 rfl rfl 4 (by decide) (hts _ (List.mem_cons_of_mem _ zt_f_X2_21)) (fun _ h9 => h9) rfl dX2_pairAll_15 ?_
    refine lv_iconst (v := (2 : Int32)) hx hb dX2_pairAll_18 (by decide) ?_
    refine lv_iload_n hx hb dX2_pairAll_19 rfl (lv_at hl 1 rfl) ?_
    refine lv_imul hx hb dX2_pairAll_20 ?_
    have hi2 := mq_ck_in h
    replace h := mq_ck_go h
    refine va_iald (f := S.2.1 11) hx hb hK hP 18 0 rfl rfl hi2 dX2_pairAll_21 ?_
    refine lv_aload_n hx hb dX2_pairAll_22 rfl (lv_at hl 0 rfl) ?_
    refine va_get (D := D) (ci := 2) (v := .ref (a 18)) (C := RX2) (T := TX2) (N := 8) hx hb hts (zi_X2 _) hown hK hP 14 rfl rfl 4 (by decide) (hts _ (List.mem_cons_of_mem _ zt_f_X2_21)) (fun _ h9 => h9) rfl dX2_pairAll_23 ?_
    refine lv_iconst (v := (2 : Int32)) hx hb dX2_pairAll_26 (by decide) ?_
    refine lv_iload_n hx hb dX2_pairAll_27 rfl (lv_at hl 1 rfl) ?_
    refine lv_imul hx hb dX2_pairAll_28 ?_
    refine lv_iconst (v := (1 : Int32)) hx hb dX2_pairAll_29 (by decide) ?_
    refine lv_iadd hx hb dX2_pairAll_30 ?_
    have hi3 := mq_ck_in h
    replace h := mq_ck_go h
    refine va_iald (f := S.2.1 11) hx hb hK hP 18 0 rfl rfl hi3 dX2_pairAll_31 ?_
    obtain ⟨q4, hc5, h⟩ := mq_cl_go h
    refine zk_X7_pair C zt_m_X2_62 ⟨by decide, by decide⟩ hc5 hP hD hS hl.1 (Nat.le_of_ble_eq_true rfl) dX2_pairAll_32 (fun H locs hP hD hS => ?_)
    obtain ⟨S6, eS6⟩ : ∃ y, y = q4.2 := ⟨_, rfl⟩
    rw [← eS6] at hP hD h
    obtain ⟨x7, ex7⟩ : ∃ y : Int32, y = v1 + (1 : Int32) := ⟨_, rfl⟩
    replace h := mq_nI_go ex7 h
    refine lv_iinc (v := x7) (lv' := [(1, .int (x7)), (0, .ref (a 14))]) hx hb dX2_pairAll_35 hl (k := 1) rfl (by rw [ex7]; rfl) (by decide) rfl (fun ls hl => ?_)
    refine lv_goto (tgt := 2) hx hb dX2_pairAll_38 (by decide) ?_
    exact hk2 (x7) S6 H locs ls h (lv_sub hl [1, 0] rfl) hP hD hS
set_option maxHeartbeats 4000000 in
set_option maxRecDepth 100000 in
theorem zw_X2_pairAll_2 {p : Program} {l : Launch} {e : Env} {s : State} {m : MethodId} {args : Array Value} {below : List Frame} {meth : Method} {c : Code} {A : Nat → Prop} {D : va_G} {a z : Nat → Nat} {cI cL cB cZ : ClassId} {Q : State → Prop} {N : Nat} {res : Unit × mq_St} (C : mq_C p s m args c A D cI cL cB cZ cX2_pairAll 2 RX2 zc_X2_pairAll) (hret : ∀ (H : Heap) (locs : List Loc) (ls : Array Slot) (pc : Nat), decode cX2_pairAll pc = .ok (.return_, 1) → va_P D vwCl (wd_C a cI cL cB cZ z res.2) H → va_D A (wd_C a cI cL cB cZ z res.2) → va_S A s.heap H locs → W p l e zr_X2_pairAll s m args below meth c H locs 0 0 Q (F0 m pc ls [])) : ∀ (n : Nat) (v1 : Int32) (S : mq_St) (H : Heap) (locs : List Loc) (ls : Array Slot) (h : zf_X2_pairAll_2 N z n v1 S = some res) (hl : lv_has ls 2 [(0, .ref (a 14)), (1, .int (v1))]) (hP : va_P D vwCl (wd_C a cI cL cB cZ z S) H) (hD : va_D A (wd_C a cI cL cB cZ z S)) (hS : va_S A s.heap H locs), W p l e zr_X2_pairAll s m args below meth c H locs 0 0 Q (F0 m 2 ls []) := by
  intro n
  induction n with
  | zero =>
    intro v1 S H locs ls h hl hP hD hS
    exact nomatch (show (none : Option (Unit × mq_St)) = some res from h)
  | succ n ih =>
    intro v1 S H locs ls h hl hP hD hS
    exact zw_X2_pairAll_2b C hret (fun v1 S H locs ls h hl hP hD hS => ih v1 S H locs ls h hl hP hD hS) v1 S H locs ls h hl hP hD hS
set_option maxHeartbeats 4000000 in
set_option maxRecDepth 100000 in
theorem zw_X2_pairAll_0 {p : Program} {l : Launch} {e : Env} {s : State} {m : MethodId} {args : Array Value} {below : List Frame} {meth : Method} {c : Code} {A : Nat → Prop} {D : va_G} {a z : Nat → Nat} {cI cL cB cZ : ClassId} {Q : State → Prop} {N : Nat} {res : Unit × mq_St} (C : mq_C p s m args c A D cI cL cB cZ cX2_pairAll 2 RX2 zc_X2_pairAll) (hret : ∀ (H : Heap) (locs : List Loc) (ls : Array Slot) (pc : Nat), decode cX2_pairAll pc = .ok (.return_, 1) → va_P D vwCl (wd_C a cI cL cB cZ z res.2) H → va_D A (wd_C a cI cL cB cZ z res.2) → va_S A s.heap H locs → W p l e zr_X2_pairAll s m args below meth c H locs 0 0 Q (F0 m pc ls [])) (S : mq_St) (H : Heap) (locs : List Loc) (ls : Array Slot) (h : zf_X2_pairAll N z S = some res) (hl : lv_has ls 2 [(0, .ref (a 14))]) (hP : va_P D vwCl (wd_C a cI cL cB cZ z S) H) (hD : va_D A (wd_C a cI cL cB cZ z S)) (hS : va_S A s.heap H locs) : W p l e zr_X2_pairAll s m args below meth c H locs 0 0 Q (F0 m 0 ls []) := by
  obtain ⟨hx, hb, hml, hown, hts, hK, hA⟩ := id C
  unfold zf_X2_pairAll at h
  refine lv_iconst (v := (0 : Int32)) hx hb dX2_pairAll_0 (by decide) ?_
  refine lv_topi (fun x1 ex1 => ?_)
  replace h := mq_nI_go ex1 h
  refine lv_istore_n (lv' := [(1, .int (x1)), (0, .ref (a 14))]) hx hb dX2_pairAll_1 rfl hl (by decide) rfl (fun ls hl => ?_)
  exact zw_X2_pairAll_2 C hret N (x1) S H locs ls h (lv_sub hl [1, 0] rfl) hP hD hS
set_option maxHeartbeats 4000000 in
set_option maxRecDepth 100000 in
theorem zm_X2_pairAll (l : Launch) (D : va_G) (a z : Nat → Nat) (cI cL cB cZ : ClassId) (sz N : Nat) (S : mq_St) (res : Unit × mq_St) (h : zf_X2_pairAll N z S = some res) : Met l yX2_pairAll (zc_X2_pairAll :: mq_T) zr_X2_pairAll (va_Pc [.ref (a 14)] (fun U => U.heap.size = sz ∧ va_P D vwCl (wd_C a cI cL cB cZ z S) U.heap ∧ va_K D vwCl (mq_tys cI cL cB cZ) U ∧ va_D (fun _ => True) (wd_C a cI cL cB cZ z S))) (va_Qv (fun u : mq_St => u = res.2) (fun u t => va_P D vwCl (wd_C a cI cL cB cZ z u) t.heap ∧ va_K D vwCl (mq_tys cI cL cB cZ) t ∧ va_D (va_A (wd_C a cI cL cB cZ z S) sz) (wd_C a cI cL cB cZ z u)) (va_A (wd_C a cI cL cB cZ z S) sz)) 0 0 (va_A (wd_C a cI cL cB cZ z S) sz) := by
  refine Met.ofW (cc := cX2_pairAll) (maxL := 2) (ret := none) (by decide) rfl ?_
  intro p e s m args below meth c s₁ B hml hv
  obtain ⟨rfl, hsz, hP, hK, hD0⟩ := hv
  have hr := B.returns
  have hlocks := B.notSynchronized
  have hts := atoms_spec (ws := zc_X2_pairAll :: mq_T) B.pre
  have hown : s.vm.findClass RX2 = some m.cls := findClass_of_methodNamed B.named
  subst hsz
  have hD := hD0.self (sz := s.heap.size)
  generalize hAe : va_A (wd_C a cI cL cB cZ z S) s.heap.size = A at hD ⊢
  have hA : ∀ q : Nat, s.heap.size ≤ q → A q := fun q h => by rw [← hAe]; exact Or.inr h
  have hl := lv_entry ([.ref (a 14)]) (n := 2) (Nat.le_of_ble_eq_true rfl)
  rw [lg_entry_eq]
  generalize (lg_sl ([.ref (a 14)]) ++ List.replicate (2 - (lg_sl ([.ref (a 14)])).length) Slot.unset).toArray = ls at hl ⊢
  have hl : lv_has ls 2 [(0, .ref (a 14))] := hl
  refine zw_X2_pairAll_0 (A := A) ⟨B.exec, B.bytes, hml, hown, hts, hK, hA⟩ (fun H locs ls pc dg hP hD hS => ?_) S s.heap [] ls h hl hP hD va_S.rf
  exact W.vret B.exec B.bytes hr (fun t ht hW => ⟨⟨_, rfl, rfl, by rw [ht]; exact hP, va_K.moved hW.alike hK, hD⟩, hS.F ht⟩) hS.2.2 dg
theorem zt_X2_pairAll_c : zc_X2_pairAll ∈ mq_T := mq_T_mem (mq_t3 (List.mem_of_getElem? (i := 144) rfl)) rfl
theorem zt_X2_pairAll_i : Cond.instanceMethod yX2_pairAll ∈ mq_T := mq_T_mem (mq_t3 (List.mem_of_getElem? (i := 142) rfl)) rfl
theorem zt_X2_pairAll_s : Cond.selects RX2 yX2_pairAll yX2_pairAll ∈ mq_T := mq_T_mem (mq_t3 (List.mem_of_getElem? (i := 143) rfl)) rfl
set_option maxHeartbeats 4000000 in
theorem zk_X2_pairAll {p : Program} {l : Launch} {e : Env} {R : Room} {s : State} {m : MethodId} {args : Array Value} {below : List Frame} {meth : Method} {c : Code} {A : Nat → Prop} {D : va_G} {a z : Nat → Nat} {cI cL cB cZ : ClassId} {Q : State → Prop} {cc : ByteArray} {nL idx pc N : Nat} {own : String} {c1 : Cond} {H : Heap} {locs : List Loc} {ls : Array Slot} {rest : List Value} {S : mq_St} {res : Unit × mq_St} (C : mq_C p s m args c A D cI cL cB cZ cc nL own c1) (hlk : Cond.methodLink own idx yX2_pairAll ∈ mq_T) (hR : zr_X2_pairAll.frames + 1 ≤ R.frames ∧ 8 + (2 + 11) + zr_X2_pairAll.locals ≤ R.locals) (h : zf_X2_pairAll N z S = some res) (hP : va_P D vwCl (wd_C a cI cL cB cZ z S) H) (hD : va_D A (wd_C a cI cL cB cZ z S)) (hS : va_S A s.heap H locs) (hls : ls.size = nL) (hrest : (rest.map fun v => v.category).sum ≤ 8) (hdg : decode cc pc = .ok (.invokevirtual idx, 3)) (kk : ∀ (H1 : Heap) (locs1 : List Loc), va_P D vwCl (wd_C a cI cL cB cZ z res.2) H1 → va_D A (wd_C a cI cL cB cZ z res.2) → va_S A s.heap H1 locs1 → W p l e R s m args below meth c H1 locs1 0 0 Q (F0 m (pc + 3) ls rest)) : W p l e R s m args below meth c H locs 0 0 Q (F0 m pc ls (.ref (a 14) :: rest)) := by
  obtain ⟨hx, hb, hml, hown, hts, hK, hA⟩ := C
  have hFc := mq_freeI hD hS hA
  refine va_callv (va_runV (As := []) (rest := rest) ⟨hx, hb, hml, hown, hts⟩ (zm_X2_pairAll l D a z cI cL cB cZ H.size N S res h) (cwV 0 hts (mq_goodL (mq_wsV hlk zt_X2_pairAll_i zt_X2_pairAll_s zt_ini_X2 zt_X2_pairAll_c)) rfl rfl rfl (by decide +kernel) hR) ⟨fun a U g mk q => ⟨q.1, q.2.1, q.2.2.1, va_K.moved (u := U) (U := U.calling g mk a) (Vm.Alike.refl U.vm) q.2.2.2.1, q.2.2.2.2⟩, zy_C_14 hK hP, fun U hU hW => ⟨rfl, by rw [hU], by rw [hU]; exact hP, va_K.moved hW.alike hK, hD.weaken (fun _ _ _ _ => trivial)⟩⟩ rfl rfl hls rfl (lv_room hrest) hdg ⟨Nat.zero_le _, Nat.zero_le _⟩) hS (fun q _ h => hFc q h) hFc (fun u t H1 locs ht hvm hw hB hz1 hk1 hS => ?_)
  subst hw
  obtain ⟨hP1, hK1, hD1⟩ := hB
  rw [ht] at hP1
  exact kk H1 locs hP1 (hD1.weaken (fun _ _ _ h => hFc _ h)) hS
