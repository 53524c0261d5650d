theorem zt_f_X1_28 : Cond.fieldLink RX1 28 "ModalDesk$Checker" "held" "LModalDesk$Sets;" ∈ mq_T := mq_T_mem (mq_t2 (List.mem_of_getElem? (i := 45) rfl)) rfl
theorem zi_X1 (c1 : Cond) : ∀ w ∈ u_ws RX1 TX1 5, w ∈ c1 :: mq_T := fun w h => List.mem_cons_of_mem _ (mq_T_mem (mq_inl [(2, 47), (2, 49), (2, 51), (2, 53), (2, 55)] (by decide +kernel) w h) ((by decide +kernel : ∀ w ∈ u_ws RX1 TX1 5, goodWord w = true) w h))
theorem zt_f_X1_44 : Cond.fieldLink RX1 44 "ModalDesk$Checker" "heldCount" "I" ∈ mq_T := mq_T_mem (mq_t2 (List.mem_of_getElem? (i := 46) rfl)) rfl
theorem zt_f_X1_14 : Cond.fieldLink RX1 14 "ModalDesk$Checker" "current" "LModalDesk$Sets;" ∈ mq_T := mq_T_mem (mq_t2 (List.mem_of_getElem? (i := 44) rfl)) rfl
theorem zt_m_X1_62 : Cond.methodLink RX1 62 yX6_copy ∈ mq_T := mq_T_mem (mq_t4 (List.mem_of_getElem? (i := 210) rfl)) rfl
theorem zx_wd_C_wd_SS_39_40_44_45 (a z : Nat → Nat) (cI cL cB cZ : ClassId) (S X : mq_St) : mq_setM (wd_C a cI cL cB cZ z S) [39, 40, 44, 45] (wd_SS (mq_ad a [39, 40, 44, 45]) cI cL cB cZ (fun k => [3330, 5].getD k 0) X) = (wd_C a cI cL cB cZ z (mq_push S X [] [] [5, 6])) := rfl
theorem zt_f_X1_24 : Cond.fieldLink RX1 24 "ModalDesk$Checker" "stock" "LModalDesk$Stock;" ∈ mq_T := mq_T_mem (mq_t2 (List.mem_of_getElem? (i := 43) rfl)) rfl
theorem zt_m_X1_74 : Cond.methodLink RX1 74 yX7_secondOf ∈ mq_T := mq_T_mem (mq_t4 (List.mem_of_getElem? (i := 211) rfl)) rfl
theorem zt_m_X1_40 : Cond.methodLink RX1 40 yX6_put ∈ mq_T := mq_T_mem (mq_t4 (List.mem_of_getElem? (i := 197) rfl)) rfl
theorem zx_wd_C_wd_S_39_40 (a z : Nat → Nat) (cI cL cB cZ : ClassId) (S X : mq_St) : mq_setM (wd_C a cI cL cB cZ z S) [39, 40] (wd_S (mq_ad a [39, 40]) cI cL cB cZ (fun k => [3330].getD k 0) X) = (wd_C a cI cL cB cZ z (mq_push S X [] [] [5])) := rfl
theorem zs_wd_C_i_43_21 (a z : Nat → Nat) (cI cL cB cZ : ClassId) (S : mq_St) (v : Int32) : (wd_C a cI cL cB cZ z S).set 43 (a 43, .inr (1, ([.ref (a 3), .ref (a 7), .ref (a 44), .ref (a 39), .int (S.1 21)] : List Value).set 4 (.int v))) = (wd_C a cI cL cB cZ z (mq_si S 21 v)) := rfl
theorem zt_m_X1_77 : Cond.methodLink RX1 77 yX7_bySort ∈ mq_T := mq_T_mem (mq_t4 (List.mem_of_getElem? (i := 212) rfl)) rfl
theorem zt_m_X1_81 : Cond.methodLink RX1 81 yX6_meet ∈ mq_T := mq_T_mem (mq_t4 (List.mem_of_getElem? (i := 213) rfl)) rfl
theorem zx_wd_C_wd_SS_44_45_12_13 (a z : Nat → Nat) (cI cL cB cZ : ClassId) (S X : mq_St) : mq_setM (wd_C a cI cL cB cZ z S) [44, 45, 12, 13] (wd_SS (mq_ad a [44, 45, 12, 13]) cI cL cB cZ (fun k => [5, 40].getD k 0) X) = (wd_C a cI cL cB cZ z (mq_push S X [] [] [6, 0])) := rfl
theorem zt_m_X1_84 : Cond.methodLink RX1 84 yX7_firstOf ∈ mq_T := mq_T_mem (mq_t4 (List.mem_of_getElem? (i := 214) rfl)) rfl
theorem zx_wd_C_wd_S_44_45 (a z : Nat → Nat) (cI cL cB cZ : ClassId) (S X : mq_St) : mq_setM (wd_C a cI cL cB cZ z S) [44, 45] (wd_S (mq_ad a [44, 45]) cI cL cB cZ (fun k => [5].getD k 0) X) = (wd_C a cI cL cB cZ z (mq_push S X [] [] [6])) := rfl
/-! ModalDesk$Checker.apply(II)V -/
def zr_X1_apply : Room := { frames := 2, cells := 0, slots := 0, locals := 47 }
def zc_X1_apply : Cond := .code yX1_apply cX1_apply 3 none
def zf_X1_apply_72 (N : Nat) (z : Nat → Nat) (v1 : Int32) (v2 : Int32) (S : mq_St) : Option (Unit × mq_St) := (mq_cp (zf_X7_firstOf N z (v2) S) (fun q17 => (mq_cl (zf_X6_put N (fun k => [5].getD k 0) ((0 : Int32)) (q17) (mq_pull S [] [] [6])) (fun q19v q19s => mq_nS (mq_push S q19s [] [] [6]) (fun S21 => (if v1 = (1 : Int32) then (mq_cp (zf_X7_secondOf N z (v2) S21) (fun q22 => (mq_cl (zf_X6_put N (fun k => [5].getD k 0) ((0 : Int32)) (q22) (mq_pull S21 [] [] [6])) (fun q24v q24s => mq_nS (mq_push S21 q24s [] [] [6]) (fun S26 => (some ((), S26))))))) else (some ((), S21))))))))
def zf_X1_apply_50 (N : Nat) (z : Nat → Nat) (v1 : Int32) (v2 : Int32) (S : mq_St) : Option (Unit × mq_St) := (if v1 = (4 : Int32) then (mq_cp (zf_X7_bySort N z S) (fun q11 => (mq_cl (zf_X6_meet N (fun k => [5, 40].getD k 0) ((0 : Int32)) ((6 : Int32)) (mq_pull S [] [] [6, 0])) (fun q13v q13s => mq_nS (mq_push S q13s [] [] [6, 0]) (fun S15 => (zf_X1_apply_72 N z (v1) (v2) S15)))))) else (zf_X1_apply_72 N z (v1) (v2) S))
def zf_X1_apply (N : Nat) (z : Nat → Nat) (v1 : Int32) (v2 : Int32) (S : mq_St) : Option (Unit × mq_St) := (if v1 = (3 : Int32) then (mq_cl (zf_X6_copy N (fun k => [3330, 5].getD k 0) ((S.1 21)) ((0 : Int32)) (mq_pull S [] [] [5, 6])) (fun q1v q1s => mq_nS (mq_push S q1s [] [] [5, 6]) (fun S3 => (mq_cp (zf_X7_secondOf N z (v2) S3) (fun q4 => (mq_cl (zf_X6_put N (fun k => [3330].getD k 0) ((S3.1 21)) (q4) (mq_pull S3 [] [] [5])) (fun q6v q6s => mq_nS (mq_push S3 q6s [] [] [5]) (fun S8 => (mq_nS (mq_si S8 21 (((S8.1 21) + (1 : Int32)))) (fun S9 => (zf_X1_apply_50 N z (v1) (v2) S9))))))))))) else (zf_X1_apply_50 N z (v1) (v2) S))
set_option maxHeartbeats 4000000 in
set_option maxRecDepth 100000 in
theorem zw_X1_apply_72 {p : Program} {l : Launch} {e : Env} {s : State} {m : MethodId} {args : Array Value} {below : List Frame} {meth : Method} {c : Code} {A : Nat → Prop} {D : va_G} {a z : Nat → Nat} {cI cL cB cZ : ClassId} {Q : State → Prop} {N : Nat} {res : Unit × mq_St} (C : mq_C p s m args c A D cI cL cB cZ cX1_apply 3 RX1 zc_X1_apply) (hret : ∀ (H : Heap) (locs : List Loc) (ls : Array Slot) (pc : Nat), decode cX1_apply pc = .ok (.return_, 1) → va_P D vwCl (wd_C a cI cL cB cZ z res.2) H → va_D A (wd_C a cI cL cB cZ z res.2) → va_S A s.heap H locs → W p l e zr_X1_apply s m args below meth c H locs 0 0 Q (F0 m pc ls [])) (v1 : Int32) (v2 : Int32) (S : mq_St) (H : Heap) (locs : List Loc) (ls : Array Slot) (h : zf_X1_apply_72 N z v1 v2 S = some res) (hl : lv_has ls 3 [(0, .ref (a 43)), (1, .int (v1)), (2, .int (v2))]) (hP : va_P D vwCl (wd_C a cI cL cB cZ z S) H) (hD : va_D A (wd_C a cI cL cB cZ z S)) (hS : va_S A s.heap H locs) : W p l e zr_X1_apply s m args below meth c H locs 0 0 Q (F0 m 72 ls []) := by
  obtain ⟨hx, hb, hml, hown, hts, hK, hA⟩ := id C
  unfold zf_X1_apply_72 at h
  refine lv_aload_n hx hb dX1_apply_72 rfl (lv_at hl 0 rfl) ?_
  refine va_get (D := D) (ci := 1) (v := .ref (a 44)) (C := RX1) (T := TX1) (N := 5) hx hb hts (zi_X1 _) hown hK hP 43 rfl rfl 2 (by decide) (hts _ (List.mem_cons_of_mem _ zt_f_X1_14)) (fun _ h9 => h9) rfl dX1_apply_73 ?_
  refine lv_iconst (v := (0 : Int32)) hx hb dX1_apply_76 (by decide) ?_
  refine lv_aload_n hx hb dX1_apply_77 rfl (lv_at hl 0 rfl) ?_
  refine va_get (D := D) (ci := 1) (v := .ref (a 7)) (C := RX1) (T := TX1) (N := 5) hx hb hts (zi_X1 _) hown hK hP 43 rfl rfl 1 (by decide) (hts _ (List.mem_cons_of_mem _ zt_f_X1_24)) (fun _ h9 => h9) rfl dX1_apply_78 ?_
  refine lv_iload_n hx hb dX1_apply_81 rfl (lv_at hl 2 rfl) ?_
  obtain ⟨q17, hc18, h⟩ := mq_cp_go h
  refine zk_X7_firstOf C zt_m_X1_84 ⟨by decide, by decide⟩ hc18 hP hD hS hl.1 (Nat.le_of_ble_eq_true rfl) dX1_apply_82 (fun H locs hP hD hS => ?_)
  obtain ⟨q19, hc20, h⟩ := mq_cl_go h
  refine zv_X6_put (a := mq_ad a [44, 45]) (z := (fun k => [5].getD k 0)) [44, 45] C zt_m_X1_40 ⟨by decide, by decide⟩ hc20 rfl (by decide) (ws' := (wd_C a cI cL cB cZ z (mq_push S q19.2 [] [] [6]))) (zx_wd_C_wd_S_44_45 _ _ _ _ _ _ _ _) hP hD hS hl.1 (Nat.le_of_ble_eq_true rfl) dX1_apply_85 (fun H locs hP hD hS => ?_)
  obtain ⟨S21, eS21⟩ : ∃ y, y = mq_push S q19.2 [] [] [6] := ⟨_, rfl⟩
  replace h := mq_nS_go eS21 h
  rw [← eS21] at hP hD
  refine lv_iload_n hx hb dX1_apply_88 rfl (lv_at hl 1 rfl) ?_
  refine lv_iconst (v := (1 : Int32)) hx hb dX1_apply_89 (by decide) ?_
  refine lv_icmp_ne (tgt := 109) hx hb dX1_apply_90 (by decide) (fun c27 => ?_) (fun c27 => ?_)
  · replace h := mq_if c27 h
    cases h
    exact hret H locs ls 109 dX1_apply_109 hP hD hS
  · replace h := mq_it (by simpa using c27) h
    refine lv_aload_n hx hb dX1_apply_93 rfl (lv_at hl 0 rfl) ?_
    refine va_get (D := D) (ci := 1) (v := .ref (a 44)) (C := RX1) (T := TX1) (N := 5) hx hb hts (zi_X1 _) hown hK hP 43 rfl rfl 2 (by decide) (hts _ (List.mem_cons_of_mem _ zt_f_X1_14)) (fun _ h9 => h9) rfl dX1_apply_94 ?_
    refine lv_iconst (v := (0 : Int32)) hx hb dX1_apply_97 (by decide) ?_
    refine lv_aload_n hx hb dX1_apply_98 rfl (lv_at hl 0 rfl) ?_
    refine va_get (D := D) (ci := 1) (v := .ref (a 7)) (C := RX1) (T := TX1) (N := 5) hx hb hts (zi_X1 _) hown hK hP 43 rfl rfl 1 (by decide) (hts _ (List.mem_cons_of_mem _ zt_f_X1_24)) (fun _ h9 => h9) rfl dX1_apply_99 ?_
    refine lv_iload_n hx hb dX1_apply_102 rfl (lv_at hl 2 rfl) ?_
    obtain ⟨q22, hc23, h⟩ := mq_cp_go h
    refine zk_X7_secondOf C zt_m_X1_74 ⟨by decide, by decide⟩ hc23 hP hD hS hl.1 (Nat.le_of_ble_eq_true rfl) dX1_apply_103 (fun H locs hP hD hS => ?_)
    obtain ⟨q24, hc25, h⟩ := mq_cl_go h
    refine zv_X6_put (a := mq_ad a [44, 45]) (z := (fun k => [5].getD k 0)) [44, 45] C zt_m_X1_40 ⟨by decide, by decide⟩ hc25 rfl (by decide) (ws' := (wd_C a cI cL cB cZ z (mq_push S21 q24.2 [] [] [6]))) (zx_wd_C_wd_S_44_45 _ _ _ _ _ _ _ _) hP hD hS hl.1 (Nat.le_of_ble_eq_true rfl) dX1_apply_106 (fun H locs hP hD hS => ?_)
    obtain ⟨S26, eS26⟩ : ∃ y, y = mq_push S21 q24.2 [] [] [6] := ⟨_, rfl⟩
    replace h := mq_nS_go eS26 h
    rw [← eS26] at hP hD
    cases h
    exact hret H locs ls 109 dX1_apply_109 hP hD hS
set_option maxHeartbeats 4000000 in
set_option maxRecDepth 100000 in
theorem zw_X1_apply_50 {p : Program} {l : Launch} {e : Env} {s : State} {m : MethodId} {args : Array Value} {below : List Frame} {meth : Method} {c : Code} {A : Nat → Prop} {D : va_G} {a z : Nat → Nat} {cI cL cB cZ : ClassId} {Q : State → Prop} {N : Nat} {res : Unit × mq_St} (C : mq_C p s m args c A D cI cL cB cZ cX1_apply 3 RX1 zc_X1_apply) (hret : ∀ (H : Heap) (locs : List Loc) (ls : Array Slot) (pc : Nat), decode cX1_apply pc = .ok (.return_, 1) → va_P D vwCl (wd_C a cI cL cB cZ z res.2) H → va_D A (wd_C a cI cL cB cZ z res.2) → va_S A s.heap H locs → W p l e zr_X1_apply s m args below meth c H locs 0 0 Q (F0 m pc ls [])) (v1 : Int32) (v2 : Int32) (S : mq_St) (H : Heap) (locs : List Loc) (ls : Array Slot) (h : zf_X1_apply_50 N z v1 v2 S = some res) (hl : lv_has ls 3 [(0, .ref (a 43)), (1, .int (v1)), (2, .int (v2))]) (hP : va_P D vwCl (wd_C a cI cL cB cZ z S) H) (hD : va_D A (wd_C a cI cL cB cZ z S)) (hS : va_S A s.heap H locs) : W p l e zr_X1_apply s m args below meth c H locs 0 0 Q (F0 m 50 ls []) := by
  obtain ⟨hx, hb, hml, hown, hts, hK, hA⟩ := id C
  unfold zf_X1_apply_50 at h
  refine lv_iload_n hx hb dX1_apply_50 rfl (lv_at hl 1 rfl) ?_
  refine lv_iconst (v := (4 : Int32)) hx hb dX1_apply_51 (by decide) ?_
  refine lv_icmp_ne (tgt := 72) hx hb dX1_apply_52 (by decide) (fun c16 => ?_) (fun c16 => ?_)
  · replace h := mq_if c16 h
    exact zw_X1_apply_72 C hret (v1) (v2) S H locs ls h (lv_sub hl [0, 1, 2] rfl) hP hD hS
  · replace h := mq_it (by simpa using c16) h
    refine lv_aload_n hx hb dX1_apply_55 rfl (lv_at hl 0 rfl) ?_
    refine va_get (D := D) (ci := 1) (v := .ref (a 44)) (C := RX1) (T := TX1) (N := 5) hx hb hts (zi_X1 _) hown hK hP 43 rfl rfl 2 (by decide) (hts _ (List.mem_cons_of_mem _ zt_f_X1_14)) (fun _ h9 => h9) rfl dX1_apply_56 ?_
    refine lv_iconst (v := (0 : Int32)) hx hb dX1_apply_59 (by decide) ?_
    refine lv_aload_n hx hb dX1_apply_60 rfl (lv_at hl 0 rfl) ?_
    refine va_get (D := D) (ci := 1) (v := .ref (a 7)) (C := RX1) (T := TX1) (N := 5) hx hb hts (zi_X1 _) hown hK hP 43 rfl rfl 1 (by decide) (hts _ (List.mem_cons_of_mem _ zt_f_X1_24)) (fun _ h9 => h9) rfl dX1_apply_61 ?_
    obtain ⟨q11, hc12, h⟩ := mq_cp_go h
    refine zk_X7_bySort C zt_m_X1_77 ⟨by decide, by decide⟩ hc12 hP hD hS hl.1 (Nat.le_of_ble_eq_true rfl) dX1_apply_64 (fun H locs hP hD hS => ?_)
    refine lv_bipush (v := (6 : Int32)) hx hb dX1_apply_67 (by decide) ?_
    obtain ⟨q13, hc14, h⟩ := mq_cl_go h
    refine zv_X6_meet (a := mq_ad a [44, 45, 12, 13]) (z := (fun k => [5, 40].getD k 0)) [44, 45, 12, 13] C zt_m_X1_81 ⟨by decide, by decide⟩ hc14 rfl (by decide) (ws' := (wd_C a cI cL cB cZ z (mq_push S q13.2 [] [] [6, 0]))) (zx_wd_C_wd_SS_44_45_12_13 _ _ _ _ _ _ _ _) hP hD hS hl.1 (Nat.le_of_ble_eq_true rfl) dX1_apply_69 (fun H locs hP hD hS => ?_)
    obtain ⟨S15, eS15⟩ : ∃ y, y = mq_push S q13.2 [] [] [6, 0] := ⟨_, rfl⟩
    replace h := mq_nS_go eS15 h
    rw [← eS15] at hP hD
    exact zw_X1_apply_72 C hret (v1) (v2) S15 H locs ls h (lv_sub hl [0, 1, 2] rfl) hP hD hS
set_option maxHeartbeats 4000000 in
set_option maxRecDepth 100000 in
theorem zw_X1_apply_0 {p : Program} {l : Launch} {e : Env} {s : State} {m : MethodId} {args : Array Value} {below : List Frame} {meth : Method} {c : Code} {A : Nat → Prop} {D : va_G} {a z : Nat → Nat} {cI cL cB cZ : ClassId} {Q : State → Prop} {N : Nat} {res : Unit × mq_St} (C : mq_C p s m args c A D cI cL cB cZ cX1_apply 3 RX1 zc_X1_apply) (hret : ∀ (H : Heap) (locs : List Loc) (ls : Array Slot) (pc : Nat), decode cX1_apply pc = .ok (.return_, 1) → va_P D vwCl (wd_C a cI cL cB cZ z res.2) H → va_D A (wd_C a cI cL cB cZ z res.2) → va_S A s.heap H locs → W p l e zr_X1_apply s m args below meth c H locs 0 0 Q (F0 m pc ls [])) (v1 : Int32) (v2 : Int32) (S : mq_St) (H : Heap) (locs : List Loc) (ls : Array Slot) (h : zf_X1_apply N z v1 v2 S = some res) (hl : lv_has ls 3 [(0, .ref (a 43)), (1, .int (v1)), (2, .int (v2))]) (hP : va_P D vwCl (wd_C a cI cL cB cZ z S) H) (hD : va_D A (wd_C a cI cL cB cZ z S)) (hS : va_S A s.heap H locs) : W p l e zr_X1_apply s m args below meth c H locs 0 0 Q (F0 m 0 ls []) := by
  obtain ⟨hx, hb, hml, hown, hts, hK, hA⟩ := id C
  unfold zf_X1_apply at h
  refine lv_iload_n hx hb dX1_apply_0 rfl (lv_at hl 1 rfl) ?_
  refine lv_iconst (v := (3 : Int32)) hx hb dX1_apply_1 (by decide) ?_
  refine lv_icmp_ne (tgt := 50) hx hb dX1_apply_2 (by decide) (fun c10 => ?_) (fun c10 => ?_)
  · replace h := mq_if c10 h
    exact zw_X1_apply_50 C hret (v1) (v2) S H locs ls h (lv_sub hl [0, 1, 2] rfl) hP hD hS
  · replace h := mq_it (by simpa using c10) h
    refine lv_aload_n hx hb dX1_apply_5 rfl (lv_at hl 0 rfl) ?_
    refine va_get (D := D) (ci := 1) (v := .ref (a 39)) (C := RX1) (T := TX1) (N := 5) hx hb hts (zi_X1 _) hown hK hP 43 rfl rfl 3 (by decide) (hts _ (List.mem_cons_of_mem _ zt_f_X1_28)) (fun _ h9 => h9) rfl dX1_apply_6 ?_
    refine lv_aload_n hx hb dX1_apply_9 rfl (lv_at hl 0 rfl) ?_
    refine va_get (D := D) (ci := 1) (v := .int ((S.1 21))) (C := RX1) (T := TX1) (N := 5) hx hb hts (zi_X1 _) hown hK hP 43 rfl rfl 4 (by decide) (hts _ (List.mem_cons_of_mem _ zt_f_X1_44)) (fun _ h9 => h9) rfl dX1_apply_10 ?_
    refine lv_aload_n hx hb dX1_apply_13 rfl (lv_at hl 0 rfl) ?_
    refine va_get (D := D) (ci := 1) (v := .ref (a 44)) (C := RX1) (T := TX1) (N := 5) hx hb hts (zi_X1 _) hown hK hP 43 rfl rfl 2 (by decide) (hts _ (List.mem_cons_of_mem _ zt_f_X1_14)) (fun _ h9 => h9) rfl dX1_apply_14 ?_
    refine lv_iconst (v := (0 : Int32)) hx hb dX1_apply_17 (by decide) ?_
    obtain ⟨q1, hc2, h⟩ := mq_cl_go h
    refine zv_X6_copy (a := mq_ad a [39, 40, 44, 45]) (z := (fun k => [3330, 5].getD k 0)) [39, 40, 44, 45] C zt_m_X1_62 ⟨by decide, by decide⟩ hc2 rfl (by decide) (ws' := (wd_C a cI cL cB cZ z (mq_push S q1.2 [] [] [5, 6]))) (zx_wd_C_wd_SS_39_40_44_45 _ _ _ _ _ _ _ _) hP hD hS hl.1 (Nat.le_of_ble_eq_true rfl) dX1_apply_18 (fun H locs hP hD hS => ?_)
    obtain ⟨S3, eS3⟩ : ∃ y, y = mq_push S q1.2 [] [] [5, 6] := ⟨_, rfl⟩
    replace h := mq_nS_go eS3 h
    rw [← eS3] at hP hD
    refine lv_aload_n hx hb dX1_apply_21 rfl (lv_at hl 0 rfl) ?_
    refine va_get (D := D) (ci := 1) (v := .ref (a 39)) (C := RX1) (T := TX1) (N := 5) hx hb hts (zi_X1 _) hown hK hP 43 rfl rfl 3 (by decide) (hts _ (List.mem_cons_of_mem _ zt_f_X1_28)) (fun _ h9 => h9) rfl dX1_apply_22 ?_
    refine lv_aload_n hx hb dX1_apply_25 rfl (lv_at hl 0 rfl) ?_
    refine va_get (D := D) (ci := 1) (v := .int ((S3.1 21))) (C := RX1) (T := TX1) (N := 5) hx hb hts (zi_X1 _) hown hK hP 43 rfl rfl 4 (by decide) (hts _ (List.mem_cons_of_mem _ zt_f_X1_44)) (fun _ h9 => h9) rfl dX1_apply_26 ?_
    refine lv_aload_n hx hb dX1_apply_29 rfl (lv_at hl 0 rfl) ?_
    refine va_get (D := D) (ci := 1) (v := .ref (a 7)) (C := RX1) (T := TX1) (N := 5) hx hb hts (zi_X1 _) hown hK hP 43 rfl rfl 1 (by decide) (hts _ (List.mem_cons_of_mem _ zt_f_X1_24)) (fun _ h9 => h9) rfl dX1_apply_30 ?_
    refine lv_iload_n hx hb dX1_apply_33 rfl (lv_at hl 2 rfl) ?_
    obtain ⟨q4, hc5, h⟩ := mq_cp_go h
    refine zk_X7_secondOf C zt_m_X1_74 ⟨by decide, by decide⟩ hc5 hP hD hS hl.1 (Nat.le_of_ble_eq_true rfl) dX1_apply_34 (fun H locs hP hD hS => ?_)
    obtain ⟨q6, hc7, h⟩ := mq_cl_go h
    refine zv_X6_put (a := mq_ad a [39, 40]) (z := (fun k => [3330].getD k 0)) [39, 40] C zt_m_X1_40 ⟨by decide, by decide⟩ hc7 rfl (by decide) (ws' := (wd_C a cI cL cB cZ z (mq_push S3 q6.2 [] [] [5]))) (zx_wd_C_wd_S_39_40 _ _ _ _ _ _ _ _) hP hD hS hl.1 (Nat.le_of_ble_eq_true rfl) dX1_apply_37 (fun H locs hP hD hS => ?_)
    obtain ⟨S8, eS8⟩ : ∃ y, y = mq_push S3 q6.2 [] [] [5] := ⟨_, rfl⟩
    replace h := mq_nS_go eS8 h
    rw [← eS8] at hP hD
    refine lv_aload_n hx hb dX1_apply_40 rfl (lv_at hl 0 rfl) ?_
    refine lv_dup hx hb dX1_apply_41 rfl ?_
    refine va_get (D := D) (ci := 1) (v := .int ((S8.1 21))) (C := RX1) (T := TX1) (N := 5) hx hb hts (zi_X1 _) hown hK hP 43 rfl rfl 4 (by decide) (hts _ (List.mem_cons_of_mem _ zt_f_X1_44)) (fun _ h9 => h9) rfl dX1_apply_42 ?_
    refine lv_iconst (v := (1 : Int32)) hx hb dX1_apply_45 (by decide) ?_
    refine lv_iadd hx hb dX1_apply_46 ?_
    refine mq_put (w := wd_C a cI cL cB cZ z) (S := S8) (D := D) (ci := 1) (v := ((S8.1 21) + (1 : Int32))) (ty := .int) (C := RX1) (T := TX1) (N := 5) hx hb hts (zi_X1 _) tyX1 tyX1_ok nmX1 hown hK hP hD hS 43 rfl rfl 4 (by decide) (hts _ (List.mem_cons_of_mem _ zt_f_X1_44)) (fun _ h9 => h9) rfl (by decide +kernel) rfl rfl (Nat.le_of_ble_eq_true rfl) dX1_apply_47 21 (zs_wd_C_i_43_21 _ _ _ _ _ _ _ _) (fun S9 eS9 H locs hP hD hS => ?_)
    replace h := mq_nS_go eS9 h
    exact zw_X1_apply_50 C hret (v1) (v2) S9 H locs ls h (lv_sub hl [0, 1, 2] rfl) hP hD hS
set_option maxHeartbeats 4000000 in
set_option maxRecDepth 100000 in
theorem zm_X1_apply (l : Launch) (D : va_G) (a z : Nat → Nat) (cI cL cB cZ : ClassId) (sz N : Nat) (v1 : Int32) (v2 : Int32) (S : mq_St) (res : Unit × mq_St) (h : zf_X1_apply N z v1 v2 S = some res) : Met l yX1_apply (zc_X1_apply :: mq_T) zr_X1_apply (va_Pc [.ref (a 43), .int (v1), .int (v2)] (fun U => U.heap.size = sz ∧ va_P D vwCl (wd_C a cI cL cB cZ z S) U.heap ∧ va_K D vwCl (mq_tys cI cL cB cZ) U ∧ va_D (fun _ => True) (wd_C a cI cL cB cZ z S))) (va_Qv (fun u : mq_St => u = res.2) (fun u t => va_P D vwCl (wd_C a cI cL cB cZ z u) t.heap ∧ va_K D vwCl (mq_tys cI cL cB cZ) t ∧ va_D (va_A (wd_C a cI cL cB cZ z S) sz) (wd_C a cI cL cB cZ z u)) (va_A (wd_C a cI cL cB cZ z S) sz)) 0 0 (va_A (wd_C a cI cL cB cZ z S) sz) := by
  refine Met.ofW (cc := cX1_apply) (maxL := 3) (ret := none) (by decide) rfl ?_
  intro p e s m args below meth c s₁ B hml hv
  obtain ⟨rfl, hsz, hP, hK, hD0⟩ := hv
  have hr := B.returns
  have hlocks := B.notSynchronized
  have hts := atoms_spec (ws := zc_X1_apply :: mq_T) B.pre
  have hown : s.vm.findClass RX1 = some m.cls := findClass_of_methodNamed B.named
  subst hsz
  have hD := hD0.self (sz := s.heap.size)
  generalize hAe : va_A (wd_C a cI cL cB cZ z S) s.heap.size = A at hD ⊢
  have hA : ∀ q : Nat, s.heap.size ≤ q → A q := fun q h => by rw [← hAe]; exact Or.inr h
  have hl := lv_entry ([.ref (a 43), .int (v1), .int (v2)]) (n := 3) (Nat.le_of_ble_eq_true rfl)
  rw [lg_entry_eq]
  generalize (lg_sl ([.ref (a 43), .int (v1), .int (v2)]) ++ List.replicate (3 - (lg_sl ([.ref (a 43), .int (v1), .int (v2)])).length) Slot.unset).toArray = ls at hl ⊢
  have hl : lv_has ls 3 [(0, .ref (a 43)), (1, .int (v1)), (2, .int (v2))] := hl
  refine zw_X1_apply_0 (A := A) ⟨B.exec, B.bytes, hml, hown, hts, hK, hA⟩ (fun H locs ls pc dg hP hD hS => ?_) v1 v2 S s.heap [] ls h hl hP hD va_S.rf
  exact W.vret B.exec B.bytes hr (fun t ht hW => ⟨⟨_, rfl, rfl, by rw [ht]; exact hP, va_K.moved hW.alike hK, hD⟩, hS.F ht⟩) hS.2.2 dg
theorem zt_X1_apply_c : zc_X1_apply ∈ mq_T := mq_T_mem (mq_t4 (List.mem_of_getElem? (i := 209) rfl)) rfl
theorem zt_X1_apply_i : Cond.instanceMethod yX1_apply ∈ mq_T := mq_T_mem (mq_t4 (List.mem_of_getElem? (i := 208) rfl)) rfl
theorem zt_X1_apply_s : Cond.selects RX1 yX1_apply yX1_apply ∈ mq_T := mq_T_at 53 (by decide +kernel)
theorem zt_ini_X1 : Cond.initialized RX1 ∈ mq_T := mq_T_mem (mq_t1 (List.mem_of_getElem? (i := 11) rfl)) rfl
set_option maxHeartbeats 4000000 in
theorem zk_X1_apply {p : Program} {l : Launch} {e : Env} {R : Room} {s : State} {m : MethodId} {args : Array Value} {below : List Frame} {meth : Method} {c : Code} {A : Nat → Prop} {D : va_G} {a z : Nat → Nat} {cI cL cB cZ : ClassId} {Q : State → Prop} {cc : ByteArray} {nL idx pc N : Nat} {own : String} {c1 : Cond} {H : Heap} {locs : List Loc} {ls : Array Slot} {rest : List Value} {S : mq_St} {res : Unit × mq_St} {v1 : Int32} {v2 : Int32} (C : mq_C p s m args c A D cI cL cB cZ cc nL own c1) (hlk : Cond.methodLink own idx yX1_apply ∈ mq_T) (hR : zr_X1_apply.frames + 1 ≤ R.frames ∧ 8 + (3 + 11) + zr_X1_apply.locals ≤ R.locals) (h : zf_X1_apply N z v1 v2 S = some res) (hP : va_P D vwCl (wd_C a cI cL cB cZ z S) H) (hD : va_D A (wd_C a cI cL cB cZ z S)) (hS : va_S A s.heap H locs) (hls : ls.size = nL) (hrest : (rest.map fun v => v.category).sum ≤ 8) (hdg : decode cc pc = .ok (.invokevirtual idx, 3)) (kk : ∀ (H1 : Heap) (locs1 : List Loc), va_P D vwCl (wd_C a cI cL cB cZ z res.2) H1 → va_D A (wd_C a cI cL cB cZ z res.2) → va_S A s.heap H1 locs1 → W p l e R s m args below meth c H1 locs1 0 0 Q (F0 m (pc + 3) ls rest)) : W p l e R s m args below meth c H locs 0 0 Q (F0 m pc ls (.int (v2) :: .int (v1) :: .ref (a 43) :: rest)) := by
  obtain ⟨hx, hb, hml, hown, hts, hK, hA⟩ := C
  have hFc := mq_freeI hD hS hA
  refine va_callv (va_runV (As := [.int (v1), .int (v2)]) (rest := rest) ⟨hx, hb, hml, hown, hts⟩ (zm_X1_apply l D a z cI cL cB cZ H.size N v1 v2 S res h) (cwV 2 hts (mq_goodL (mq_wsV hlk zt_X1_apply_i zt_X1_apply_s zt_ini_X1 zt_X1_apply_c)) rfl rfl rfl (by decide +kernel) hR) ⟨fun a U g mk q => ⟨q.1, q.2.1, q.2.2.1, va_K.moved (u := U) (U := U.calling g mk a) (Vm.Alike.refl U.vm) q.2.2.2.1, q.2.2.2.2⟩, zy_C_43 hK hP, fun U hU hW => ⟨rfl, by rw [hU], by rw [hU]; exact hP, va_K.moved hW.alike hK, hD.weaken (fun _ _ _ _ => trivial)⟩⟩ rfl rfl hls rfl (lv_room hrest) hdg ⟨Nat.zero_le _, Nat.zero_le _⟩) hS (fun q _ h => hFc q h) hFc (fun u t H1 locs ht hvm hw hB hz1 hk1 hS => ?_)
  subst hw
  obtain ⟨hP1, hK1, hD1⟩ := hB
  rw [ht] at hP1
  exact kk H1 locs hP1 (hD1.weaken (fun _ _ _ h => hFc _ h)) hS
theorem zt_m_X1_66 : Cond.methodLink RX1 66 yX7_sortOf ∈ mq_T := mq_T_mem (mq_t4 (List.mem_of_getElem? (i := 204) rfl)) rfl
theorem zt_m_X1_71 : Cond.methodLink RX1 71 yX7_denialOf ∈ mq_T := mq_T_mem (mq_t4 (List.mem_of_getElem? (i := 205) rfl)) rfl
theorem zt_m_X1_52 : Cond.methodLink RX1 52 yX6_has ∈ mq_T := mq_T_mem (mq_t4 (List.mem_of_getElem? (i := 199) rfl)) rfl
/-! ModalDesk$Checker.isAllowed(II)Z -/
def zr_X1_isAllowed : Room := { frames := 2, cells := 0, slots := 0, locals := 44 }
def zc_X1_isAllowed : Cond := .code yX1_isAllowed cX1_isAllowed 4 (some .boolean)
def zf_X1_isAllowed_73 (N : Nat) (z : Nat → Nat) (S : mq_St) : Option (Int32) := (mq_cz ((1 : Int32)) (some ((1 : Int32))))
def zf_X1_isAllowed (N : Nat) (z : Nat → Nat) (v1 : Int32) (v2 : Int32) (S : mq_St) : Option (Int32) := (mq_cp (zf_X7_sortOf N z (v2) S) (fun q1 => (mq_nI (q1) (fun x3 => (if v1 = 0 then (if x3 = (1 : Int32) then (zf_X1_isAllowed_73 N z S) else (if x3 = (2 : Int32) then (mq_cp (zf_X7_denialOf N z (v2) S) (fun q6 => (mq_cp (zf_X6_has N (fun k => [5].getD k 0) ((0 : Int32)) (q6) (mq_pull S [] [] [6])) (fun q8 => (if q8 = (0 : Int32) then (mq_cz ((0 : Int32)) (some ((0 : Int32)))) else (zf_X1_isAllowed_73 N z S)))))) else (mq_cz ((0 : Int32)) (some ((0 : Int32)))))) else (if v1 = 1 then (if x3 = (4 : Int32) then (mq_cz ((1 : Int32)) (some ((1 : Int32)))) else (mq_cz ((0 : Int32)) (some ((0 : Int32))))) else (if v1 = 2 then (if x3 = (6 : Int32) then (mq_cz ((1 : Int32)) (some ((1 : Int32)))) else (mq_cz ((0 : Int32)) (some ((0 : Int32))))) else (if v1 = 3 then (if x3 = (5 : Int32) then (if (666 : Int32) ≤ (S.1 21) then (mq_cz ((0 : Int32)) (some ((0 : Int32)))) else (mq_cz ((1 : Int32)) (some ((1 : Int32))))) else (mq_cz ((0 : Int32)) (some ((0 : Int32))))) else (if v1 = 4 then (if x3 = (7 : Int32) then (mq_cz ((1 : Int32)) (some ((1 : Int32)))) else (mq_cz ((0 : Int32)) (some ((0 : Int32))))) else (mq_cz ((0 : Int32)) (some ((0 : Int32)))))))))))))
set_option maxHeartbeats 4000000 in
set_option maxRecDepth 100000 in
theorem zw_X1_isAllowed_73 {p : Program} {l : Launch} {e : Env} {s : State} {m : MethodId} {args : Array Value} {below : List Frame} {meth : Method} {c : Code} {A : Nat → Prop} {D : va_G} {a z : Nat → Nat} {cI cL cB cZ : ClassId} {Q : State → Prop} {N : Nat} {S : mq_St} {res : Int32} (C : mq_C p s m args c A D cI cL cB cZ cX1_isAllowed 4 RX1 zc_X1_isAllowed) (hret : ∀ (H : Heap) (locs : List Loc) (ls : Array Slot) (pc : Nat), decode cX1_isAllowed pc = .ok (.ireturn, 1) → narrow .boolean (.int res) = .int res → va_P D vwCl (wd_C a cI cL cB cZ z S) H → va_D A (wd_C a cI cL cB cZ z S) → va_S A s.heap H locs → W p l e zr_X1_isAllowed s m args below meth c H locs 0 0 Q (F0 m pc ls [.int res])) (H : Heap) (locs : List Loc) (ls : Array Slot) (h : zf_X1_isAllowed_73 N z S = some res) (hl : lv_has ls 4 []) (hP : va_P D vwCl (wd_C a cI cL cB cZ z S) H) (hD : va_D A (wd_C a cI cL cB cZ z S)) (hS : va_S A s.heap H locs) : W p l e zr_X1_isAllowed s m args below meth c H locs 0 0 Q (F0 m 73 ls []) := by
  obtain ⟨hx, hb, hml, hown, hts, hK, hA⟩ := id C
  unfold zf_X1_isAllowed_73 at h
  refine lv_iconst (v := (1 : Int32)) hx hb dX1_isAllowed_73 (by decide) ?_
  refine lv_goto (tgt := 78) hx hb dX1_isAllowed_74 (by decide) ?_
  have hz33 := mq_cz_in h
  replace h := mq_cz_go h
  cases h
  exact hret H locs ls 78 dX1_isAllowed_78 hz33.1 hP hD hS
set_option maxHeartbeats 4000000 in
set_option maxRecDepth 100000 in
theorem zw_X1_isAllowed_0 {p : Program} {l : Launch} {e : Env} {s : State} {m : MethodId} {args : Array Value} {below : List Frame} {meth : Method} {c : Code} {A : Nat → Prop} {D : va_G} {a z : Nat → Nat} {cI cL cB cZ : ClassId} {Q : State → Prop} {N : Nat} {S : mq_St} {res : Int32} (C : mq_C p s m args c A D cI cL cB cZ cX1_isAllowed 4 RX1 zc_X1_isAllowed) (hret : ∀ (H : Heap) (locs : List Loc) (ls : Array Slot) (pc : Nat), decode cX1_isAllowed pc = .ok (.ireturn, 1) → narrow .boolean (.int res) = .int res → va_P D vwCl (wd_C a cI cL cB cZ z S) H → va_D A (wd_C a cI cL cB cZ z S) → va_S A s.heap H locs → W p l e zr_X1_isAllowed s m args below meth c H locs 0 0 Q (F0 m pc ls [.int res])) (v1 : Int32) (v2 : Int32) (H : Heap) (locs : List Loc) (ls : Array Slot) (h : zf_X1_isAllowed N z v1 v2 S = some res) (hl : lv_has ls 4 [(0, .ref (a 43)), (1, .int (v1)), (2, .int (v2))]) (hP : va_P D vwCl (wd_C a cI cL cB cZ z S) H) (hD : va_D A (wd_C a cI cL cB cZ z S)) (hS : va_S A s.heap H locs) : W p l e zr_X1_isAllowed s m args below meth c H locs 0 0 Q (F0 m 0 ls []) := by
  obtain ⟨hx, hb, hml, hown, hts, hK, hA⟩ := id C
  unfold zf_X1_isAllowed at h
  refine lv_aload_n hx hb dX1_isAllowed_0 rfl (lv_at hl 0 rfl) ?_
  refine va_get (D := D) (ci := 1) (v := .ref (a 7)) (C := RX1) (T := TX1) (N := 5) hx hb hts (zi_X1 _) hown hK hP 43 rfl rfl 1 (by decide) (hts _ (List.mem_cons_of_mem _ zt_f_X1_24)) (fun _ h9 => h9) rfl dX1_isAllowed_1 ?_
  refine lv_iload_n hx hb dX1_isAllowed_4 rfl (lv_at hl 2 rfl) ?_
  obtain ⟨q1, hc2, h⟩ := mq_cp_go h
  refine zk_X7_sortOf C zt_m_X1_66 ⟨by decide, by decide⟩ hc2 hP hD hS hl.1 (Nat.le_of_ble_eq_true rfl) dX1_isAllowed_5 (fun H locs hP hD hS => ?_)
  refine lv_topi (fun x3 ex3 => ?_)
  replace h := mq_nI_go ex3 h
  refine lv_istore_n (lv' := [(3, .int (x3)), (0, .ref (a 43)), (1, .int (v1)), (2, .int (v2))]) hx hb dX1_isAllowed_8 rfl hl (by decide) rfl (fun ls hl => ?_)
  refine lv_iload_n hx hb dX1_isAllowed_9 rfl (lv_at hl 2 rfl) ?_
  by_cases c4 : v1 = 0
  · refine lv_tableIn (off := 34) (tgt := 44) hx hb dX1_isAllowed_10 (by rw [c4]; decide) (by rw [c4]; decide) (by rw [c4]; rfl) (by decide) ?_
    replace h := mq_it c4 h
    refine lv_iload_n hx hb dX1_isAllowed_44 rfl (lv_at hl 0 rfl) ?_
    refine lv_iconst (v := (1 : Int32)) hx hb dX1_isAllowed_45 (by decide) ?_
    refine lv_icmp_eq (tgt := 73) hx hb dX1_isAllowed_46 (by decide) (fun c13 => ?_) (fun c13 => ?_)
    · replace h := mq_it c13 h
      exact zw_X1_isAllowed_73 C hret H locs ls h (lv_sub hl [] rfl) hP hD hS
    · replace h := mq_if c13 h
      refine lv_iload_n hx hb dX1_isAllowed_49 rfl (lv_at hl 0 rfl) ?_
      refine lv_iconst (v := (2 : Int32)) hx hb dX1_isAllowed_50 (by decide) ?_
      refine lv_icmp_ne (tgt := 77) hx hb dX1_isAllowed_51 (by decide) (fun c12 => ?_) (fun c12 => ?_)
      · replace h := mq_if c12 h
        refine lv_iconst (v := (0 : Int32)) hx hb dX1_isAllowed_77 (by decide) ?_
        have hz5 := mq_cz_in h
        replace h := mq_cz_go h
        cases h
        exact hret H locs ls 78 dX1_isAllowed_78 hz5.1 hP hD hS
      · replace h := mq_it (by simpa using c12) h
        refine lv_aload_n hx hb dX1_isAllowed_54 rfl (lv_at hl 1 rfl) ?_
        refine va_get (D := D) (ci := 1) (v := .ref (a 44)) (C := RX1) (T := TX1) (N := 5) hx hb hts (zi_X1 _) hown hK hP 43 rfl rfl 2 (by decide) (hts _ (List.mem_cons_of_mem _ zt_f_X1_14)) (fun _ h9 => h9) rfl dX1_isAllowed_55 ?_
        refine lv_iconst (v := (0 : Int32)) hx hb dX1_isAllowed_58 (by decide) ?_
        refine lv_aload_n hx hb dX1_isAllowed_59 rfl (lv_at hl 1 rfl) ?_
        refine va_get (D := D) (ci := 1) (v := .ref (a 7)) (C := RX1) (T := TX1) (N := 5) hx hb hts (zi_X1 _) hown hK hP 43 rfl rfl 1 (by decide) (hts _ (List.mem_cons_of_mem _ zt_f_X1_24)) (fun _ h9 => h9) rfl dX1_isAllowed_60 ?_
        refine lv_iload_n hx hb dX1_isAllowed_63 rfl (lv_at hl 3 rfl) ?_
        obtain ⟨q6, hc7, h⟩ := mq_cp_go h
        refine zk_X7_denialOf C zt_m_X1_71 ⟨by decide, by decide⟩ hc7 hP hD hS hl.1 (Nat.le_of_ble_eq_true rfl) dX1_isAllowed_64 (fun H locs hP hD hS => ?_)
        obtain ⟨q8, hc9, h⟩ := mq_cp_go h
        refine zv_X6_has (a := mq_ad a [44, 45]) (z := (fun k => [5].getD k 0)) [44, 45] C zt_m_X1_52 ⟨by decide, by decide⟩ hc9 rfl (by decide) hP hD hS hl.1 (Nat.le_of_ble_eq_true rfl) dX1_isAllowed_67 (fun H locs hP hD hS => ?_)
        refine lv_if_eq (tgt := 77) hx hb dX1_isAllowed_70 (by decide) (fun c11 => ?_) (fun c11 => ?_)
        · replace h := mq_it c11 h
          refine lv_iconst (v := (0 : Int32)) hx hb dX1_isAllowed_77 (by decide) ?_
          have hz10 := mq_cz_in h
          replace h := mq_cz_go h
          cases h
          exact hret H locs ls 78 dX1_isAllowed_78 hz10.1 hP hD hS
        · replace h := mq_if c11 h
          exact zw_X1_isAllowed_73 C hret H locs ls h (lv_sub hl [] rfl) hP hD hS
  replace h := mq_if c4 h
  by_cases c14 : v1 = 1
  · refine lv_tableIn (off := 69) (tgt := 79) hx hb dX1_isAllowed_10 (by rw [c14]; decide) (by rw [c14]; decide) (by rw [c14]; rfl) (by decide) ?_
    replace h := mq_it c14 h
    refine lv_iload_n hx hb dX1_isAllowed_79 rfl (lv_at hl 0 rfl) ?_
    refine lv_iconst (v := (4 : Int32)) hx hb dX1_isAllowed_80 (by decide) ?_
    refine lv_icmp_ne (tgt := 88) hx hb dX1_isAllowed_81 (by decide) (fun c17 => ?_) (fun c17 => ?_)
    · replace h := mq_if c17 h
      refine lv_iconst (v := (0 : Int32)) hx hb dX1_isAllowed_88 (by decide) ?_
      have hz15 := mq_cz_in h
      replace h := mq_cz_go h
      cases h
      exact hret H locs ls 89 dX1_isAllowed_89 hz15.1 hP hD hS
    · replace h := mq_it (by simpa using c17) h
      refine lv_iconst (v := (1 : Int32)) hx hb dX1_isAllowed_84 (by decide) ?_
      refine lv_goto (tgt := 89) hx hb dX1_isAllowed_85 (by decide) ?_
      have hz16 := mq_cz_in h
      replace h := mq_cz_go h
      cases h
      exact hret H locs ls 89 dX1_isAllowed_89 hz16.1 hP hD hS
  replace h := mq_if c14 h
  by_cases c18 : v1 = 2
  · refine lv_tableIn (off := 80) (tgt := 90) hx hb dX1_isAllowed_10 (by rw [c18]; decide) (by rw [c18]; decide) (by rw [c18]; rfl) (by decide) ?_
    replace h := mq_it c18 h
    refine lv_iload_n hx hb dX1_isAllowed_90 rfl (lv_at hl 0 rfl) ?_
    refine lv_bipush (v := (6 : Int32)) hx hb dX1_isAllowed_91 (by decide) ?_
    refine lv_icmp_ne (tgt := 100) hx hb dX1_isAllowed_93 (by decide) (fun c21 => ?_) (fun c21 => ?_)
    · replace h := mq_if c21 h
      refine lv_iconst (v := (0 : Int32)) hx hb dX1_isAllowed_100 (by decide) ?_
      have hz19 := mq_cz_in h
      replace h := mq_cz_go h
      cases h
      exact hret H locs ls 101 dX1_isAllowed_101 hz19.1 hP hD hS
    · replace h := mq_it (by simpa using c21) h
      refine lv_iconst (v := (1 : Int32)) hx hb dX1_isAllowed_96 (by decide) ?_
      refine lv_goto (tgt := 101) hx hb dX1_isAllowed_97 (by decide) ?_
      have hz20 := mq_cz_in h
      replace h := mq_cz_go h
      cases h
      exact hret H locs ls 101 dX1_isAllowed_101 hz20.1 hP hD hS
  replace h := mq_if c18 h
  by_cases c22 : v1 = 3
  · refine lv_tableIn (off := 92) (tgt := 102) hx hb dX1_isAllowed_10 (by rw [c22]; decide) (by rw [c22]; decide) (by rw [c22]; rfl) (by decide) ?_
    replace h := mq_it c22 h
    refine lv_iload_n hx hb dX1_isAllowed_102 rfl (lv_at hl 0 rfl) ?_
    refine lv_iconst (v := (5 : Int32)) hx hb dX1_isAllowed_103 (by decide) ?_
    refine lv_icmp_ne (tgt := 121) hx hb dX1_isAllowed_104 (by decide) (fun c27 => ?_) (fun c27 => ?_)
    · replace h := mq_if c27 h
      refine lv_iconst (v := (0 : Int32)) hx hb dX1_isAllowed_121 (by decide) ?_
      have hz23 := mq_cz_in h
      replace h := mq_cz_go h
      cases h
      exact hret H locs ls 122 dX1_isAllowed_122 hz23.1 hP hD hS
    · replace h := mq_it (by simpa using c27) h
      refine lv_aload_n hx hb dX1_isAllowed_107 rfl (lv_at hl 1 rfl) ?_
      refine va_get (D := D) (ci := 1) (v := .int ((S.1 21))) (C := RX1) (T := TX1) (N := 5) hx hb hts (zi_X1 _) hown hK hP 43 rfl rfl 4 (by decide) (hts _ (List.mem_cons_of_mem _ zt_f_X1_44)) (fun _ h9 => h9) rfl dX1_isAllowed_108 ?_
      refine lv_sipush (v := (666 : Int32)) hx hb dX1_isAllowed_111 (by decide) ?_
      refine lv_icmp_ge (tgt := 121) hx hb dX1_isAllowed_114 (by decide) (fun c26 => ?_) (fun c26 => ?_)
      · replace h := mq_it c26 h
        refine lv_iconst (v := (0 : Int32)) hx hb dX1_isAllowed_121 (by decide) ?_
        have hz24 := mq_cz_in h
        replace h := mq_cz_go h
        cases h
        exact hret H locs ls 122 dX1_isAllowed_122 hz24.1 hP hD hS
      · replace h := mq_if c26 h
        refine lv_iconst (v := (1 : Int32)) hx hb dX1_isAllowed_117 (by decide) ?_
        refine lv_goto (tgt := 122) hx hb dX1_isAllowed_118 (by decide) ?_
        have hz25 := mq_cz_in h
        replace h := mq_cz_go h
        cases h
        exact hret H locs ls 122 dX1_isAllowed_122 hz25.1 hP hD hS
  replace h := mq_if c22 h
  by_cases c28 : v1 = 4
  · refine lv_tableIn (off := 113) (tgt := 123) hx hb dX1_isAllowed_10 (by rw [c28]; decide) (by rw [c28]; decide) (by rw [c28]; rfl) (by decide) ?_
    replace h := mq_it c28 h
    refine lv_iload_n hx hb dX1_isAllowed_123 rfl (lv_at hl 0 rfl) ?_
    refine lv_bipush (v := (7 : Int32)) hx hb dX1_isAllowed_124 (by decide) ?_
    refine lv_icmp_ne (tgt := 133) hx hb dX1_isAllowed_126 (by decide) (fun c31 => ?_) (fun c31 => ?_)
    · replace h := mq_if c31 h
      refine lv_iconst (v := (0 : Int32)) hx hb dX1_isAllowed_133 (by decide) ?_
      have hz29 := mq_cz_in h
      replace h := mq_cz_go h
      cases h
      exact hret H locs ls 134 dX1_isAllowed_134 hz29.1 hP hD hS
    · replace h := mq_it (by simpa using c31) h
      refine lv_iconst (v := (1 : Int32)) hx hb dX1_isAllowed_129 (by decide) ?_
      refine lv_goto (tgt := 134) hx hb dX1_isAllowed_130 (by decide) ?_
      have hz30 := mq_cz_in h
      replace h := mq_cz_go h
      cases h
      exact hret H locs ls 134 dX1_isAllowed_134 hz30.1 hP hD hS
  replace h := mq_if c28 h
  have nc4 := lv_neT c4 (show Int32.toInt 0 = 0 by decide)
  have nc14 := lv_neT c14 (show Int32.toInt 1 = 1 by decide)
  have nc18 := lv_neT c18 (show Int32.toInt 2 = 2 by decide)
  have nc22 := lv_neT c22 (show Int32.toInt 3 = 3 by decide)
  have nc28 := lv_neT c28 (show Int32.toInt 4 = 4 by decide)
  refine lv_tableOut (tgt := 135) hx hb dX1_isAllowed_10 (by omega) (by decide) ?_
  refine lv_iconst (v := (0 : Int32)) hx hb dX1_isAllowed_135 (by decide) ?_
  have hz32 := mq_cz_in h
  replace h := mq_cz_go h
  cases h
  exact hret H locs ls 136 dX1_isAllowed_136 hz32.1 hP hD hS
set_option maxHeartbeats 4000000 in
set_option maxRecDepth 100000 in
theorem zm_X1_isAllowed (l : Launch) (D : va_G) (a z : Nat → Nat) (cI cL cB cZ : ClassId) (sz N : Nat) (v1 : Int32) (v2 : Int32) (S : mq_St) (res : Int32) (h : zf_X1_isAllowed N z v1 v2 S = some res) : Met l yX1_isAllowed (zc_X1_isAllowed :: mq_T) zr_X1_isAllowed (va_Pc [.ref (a 43), .int (v1), .int (v2)] (fun U => U.heap.size = sz ∧ va_P D vwCl (wd_C a cI cL cB cZ z S) U.heap ∧ va_K D vwCl (mq_tys cI cL cB cZ) U ∧ va_D (fun _ => True) (wd_C a cI cL cB cZ z S))) (va_Qi (fun (r : Int32) (u : mq_St) => r = res ∧ u = S) (fun u t => va_P D vwCl (wd_C a cI cL cB cZ z u) t.heap ∧ va_K D vwCl (mq_tys cI cL cB cZ) t ∧ va_D (va_A (wd_C a cI cL cB cZ z S) sz) (wd_C a cI cL cB cZ z u)) (va_A (wd_C a cI cL cB cZ z S) sz)) 0 0 (va_A (wd_C a cI cL cB cZ z S) sz) := by
  refine Met.ofW (cc := cX1_isAllowed) (maxL := 4) (ret := (some .boolean)) (by decide) rfl ?_
  intro p e s m args below meth c s₁ B hml hv
  obtain ⟨rfl, hsz, hP, hK, hD0⟩ := hv
  have hr := B.returns
  have hlocks := B.notSynchronized
  have hts := atoms_spec (ws := zc_X1_isAllowed :: mq_T) B.pre
  have hown : s.vm.findClass RX1 = some m.cls := findClass_of_methodNamed B.named
  subst hsz
  have hD := hD0.self (sz := s.heap.size)
  generalize hAe : va_A (wd_C a cI cL cB cZ z S) s.heap.size = A at hD ⊢
  have hA : ∀ q : Nat, s.heap.size ≤ q → A q := fun q h => by rw [← hAe]; exact Or.inr h
  have hl := lv_entry ([.ref (a 43), .int (v1), .int (v2)]) (n := 4) (Nat.le_of_ble_eq_true rfl)
  rw [lg_entry_eq]
  generalize (lg_sl ([.ref (a 43), .int (v1), .int (v2)]) ++ List.replicate (4 - (lg_sl ([.ref (a 43), .int (v1), .int (v2)])).length) Slot.unset).toArray = ls at hl ⊢
  have hl : lv_has ls 4 [(0, .ref (a 43)), (1, .int (v1)), (2, .int (v2))] := hl
  refine zw_X1_isAllowed_0 (A := A) ⟨B.exec, B.bytes, hml, hown, hts, hK, hA⟩ (fun H locs ls pc dg hz hP hD hS => ?_) v1 v2 s.heap [] ls h hl hP hD va_S.rf
  exact W.zret B.exec B.bytes hr hz (fun t ht hW => ⟨⟨_, _, rfl, ⟨rfl, rfl⟩, by rw [ht]; exact hP, va_K.moved hW.alike hK, hD⟩, hS.F ht⟩) hS.2.2 dg
theorem zt_X1_isAllowed_c : zc_X1_isAllowed ∈ mq_T := mq_T_mem (mq_t4 (List.mem_of_getElem? (i := 203) rfl)) rfl
theorem zt_X1_isAllowed_i : Cond.instanceMethod yX1_isAllowed ∈ mq_T := mq_T_mem (mq_t4 (List.mem_of_getElem? (i := 202) rfl)) rfl
theorem zt_X1_isAllowed_s : Cond.selects RX1 yX1_isAllowed yX1_isAllowed ∈ mq_T := mq_T_at 52 (by decide +kernel)
set_option maxHeartbeats 4000000 in
theorem zk_X1_isAllowed {p : Program} {l : Launch} {e : Env} {R : Room} {s : State} {m : MethodId} {args : Array Value} {below : List Frame} {meth : Method} {c : Code} {A : Nat → Prop} {D : va_G} {a z : Nat → Nat} {cI cL cB cZ : ClassId} {Q : State → Prop} {cc : ByteArray} {nL idx pc N : Nat} {own : String} {c1 : Cond} {H : Heap} {locs : List Loc} {ls : Array Slot} {rest : List Value} {S : mq_St} {res : Int32} {v1 : Int32} {v2 : Int32} (C : mq_C p s m args c A D cI cL cB cZ cc nL own c1) (hlk : Cond.methodLink own idx yX1_isAllowed ∈ mq_T) (hR : zr_X1_isAllowed.frames + 1 ≤ R.frames ∧ 8 + (4 + 11) + zr_X1_isAllowed.locals ≤ R.locals) (h : zf_X1_isAllowed N z v1 v2 S = some res) (hP : va_P D vwCl (wd_C a cI cL cB cZ z S) H) (hD : va_D A (wd_C a cI cL cB cZ z S)) (hS : va_S A s.heap H locs) (hls : ls.size = nL) (hrest : (rest.map fun v => v.category).sum ≤ 8) (hdg : decode cc pc = .ok (.invokevirtual idx, 3)) (kk : ∀ (H1 : Heap) (locs1 : List Loc), va_P D vwCl (wd_C a cI cL cB cZ z S) H1 → va_D A (wd_C a cI cL cB cZ z S) → va_S A s.heap H1 locs1 → W p l e R s m args below meth c H1 locs1 0 0 Q (F0 m (pc + 3) ls (.int res :: rest))) : W p l e R s m args below meth c H locs 0 0 Q (F0 m pc ls (.int (v2) :: .int (v1) :: .ref (a 43) :: rest)) := by
  obtain ⟨hx, hb, hml, hown, hts, hK, hA⟩ := C
  have hFc := mq_freeI hD hS hA
  refine va_calli (va_runV (As := [.int (v1), .int (v2)]) (rest := rest) ⟨hx, hb, hml, hown, hts⟩ (zm_X1_isAllowed l D a z cI cL cB cZ H.size N v1 v2 S res h) (cwV 2 hts (mq_goodL (mq_wsV hlk zt_X1_isAllowed_i zt_X1_isAllowed_s zt_ini_X1 zt_X1_isAllowed_c)) rfl rfl rfl (by decide +kernel) hR) ⟨fun a U g mk q => ⟨q.1, q.2.1, q.2.2.1, va_K.moved (u := U) (U := U.calling g mk a) (Vm.Alike.refl U.vm) q.2.2.2.1, q.2.2.2.2⟩, zy_C_43 hK hP, fun U hU hW => ⟨rfl, by rw [hU], by rw [hU]; exact hP, va_K.moved hW.alike hK, hD.weaken (fun _ _ _ _ => trivial)⟩⟩ rfl rfl hls rfl (lv_room hrest) hdg ⟨Nat.zero_le _, Nat.zero_le _⟩) hS (fun q _ h => hFc q h) hFc (fun r u t H1 locs ht hvm hw hB hz1 hk1 hS => ?_)
  obtain ⟨rfl, rfl⟩ := hw
  obtain ⟨hP1, hK1, hD1⟩ := hB
  rw [ht] at hP1
  exact kk H1 locs hP1 (hD1.weaken (fun _ _ _ h => hFc _ h)) hS
theorem zt_f_X1_20 : Cond.fieldLink RX1 20 "ModalDesk$Checker" "tape" "LModalDesk$ByteRow;" ∈ mq_T := mq_T_mem (mq_t2 (List.mem_of_getElem? (i := 42) rfl)) rfl
theorem zt_m_X1_31 : Cond.methodLink RX1 31 yX0_size ∈ mq_T := mq_T_mem (mq_t4 (List.mem_of_getElem? (i := 195) rfl)) rfl
theorem zt_m_X1_37 : Cond.methodLink RX1 37 yX6_empty ∈ mq_T := mq_T_mem (mq_t4 (List.mem_of_getElem? (i := 196) rfl)) rfl
theorem zt_m_X1_48 : Cond.methodLink RX1 48 yX0_at ∈ mq_T := mq_T_mem (mq_t4 (List.mem_of_getElem? (i := 198) rfl)) rfl
theorem zt_m_X1_56 : Cond.methodLink RX1 56 yX1_isAllowed ∈ mq_T := mq_T_mem (mq_t4 (List.mem_of_getElem? (i := 200) rfl)) rfl
theorem zx_wd_C_wd_SS_44_45_39_40 (a z : Nat → Nat) (cI cL cB cZ : ClassId) (S X : mq_St) : mq_setM (wd_C a cI cL cB cZ z S) [44, 45, 39, 40] (wd_SS (mq_ad a [44, 45, 39, 40]) cI cL cB cZ (fun k => [5, 3330].getD k 0) X) = (wd_C a cI cL cB cZ z (mq_push S X [] [] [6, 5])) := rfl
theorem zt_m_X1_59 : Cond.methodLink RX1 59 yX1_apply ∈ mq_T := mq_T_mem (mq_t4 (List.mem_of_getElem? (i := 206) rfl)) rfl
/-! ModalDesk$Checker.isRight(I)Z -/
def zr_X1_isRight : Room := { frames := 3, cells := 0, slots := 0, locals := 69 }
def zc_X1_isRight : Cond := .code yX1_isRight cX1_isRight 7 (some .boolean)
def zf_X1_isRight_186 (N : Nat) (z : Nat → Nat) (k48 : Int32 → Int32 → mq_St → Option (Int32 × mq_St)) (v2 : Int32) (v3 : Int32) (S : mq_St) : Option (Int32 × mq_St) := (mq_nI (v3 + (1 : Int32)) (fun x47 => (k48 (v2) (x47) S)))
def zf_X1_isRight_48b (N : Nat) (z : Nat → Nat) (k48 : Int32 → Int32 → mq_St → Option (Int32 × mq_St)) (v2 : Int32) (v3 : Int32) (S : mq_St) : Option (Int32 × mq_St) := (if v2 ≤ v3 then (mq_cz ((0 : Int32)) (some ((0 : Int32), S))) else (mq_nI (((3 : Int32) * v3)) (fun x17 => (mq_cp (zf_X0_at N z (x17) (mq_pull S [0] [2] [])) (fun q18 => (mq_nI (q18) (fun x20 => (mq_cp (zf_X0_at N z ((x17 + (1 : Int32))) (mq_pull S [0] [2] [])) (fun q21 => (mq_cp (zf_X0_at N z ((x17 + (2 : Int32))) (mq_pull S [0] [2] [])) (fun q23 => (mq_nI ((((256 : Int32) * q21) + q23)) (fun x25 => (mq_cp (zf_X6_has N (fun k => [5].getD k 0) ((0 : Int32)) (x25) (mq_pull S [] [] [6])) (fun q26 => (if q26 = (0 : Int32) then (mq_cz ((0 : Int32)) (some ((0 : Int32), S))) else (mq_cp (zf_X1_isAllowed N z (x20) (x25) S) (fun q29 => (if q29 = (0 : Int32) then (mq_cz ((0 : Int32)) (some ((0 : Int32), S))) else (if x20 = (0 : Int32) then (if (S.1 21) = (0 : Int32) then (if v3 = (v2 - (1 : Int32)) then (mq_cz ((1 : Int32)) (some ((1 : Int32), S))) else (mq_cz ((0 : Int32)) (some ((0 : Int32), S)))) else (mq_nS (mq_si S 21 (((S.1 21) - (1 : Int32)))) (fun S31 => (mq_cl (zf_X6_copy N (fun k => [5, 3330].getD k 0) ((0 : Int32)) ((S31.1 21)) (mq_pull S31 [] [] [6, 5])) (fun q32v q32s => mq_nS (mq_push S31 q32s [] [] [6, 5]) (fun S34 => (zf_X1_isRight_186 N z k48 (v2) (v3) S34))))))) else (mq_cl (zf_X1_apply N z (x20) (x25) S) (fun q39v S41 => (zf_X1_isRight_186 N z k48 (v2) (v3) S41)))))))))))))))))))))))
def zf_X1_isRight_48 (N : Nat) (z : Nat → Nat) : Nat → Int32 → Int32 → mq_St → Option (Int32 × mq_St)
  | 0, _, _, _ => none
  | n + 1, v2, v3, S => zf_X1_isRight_48b N z (fun v2 v3 S => zf_X1_isRight_48 N z n v2 v3 S) v2 v3 S
def zf_X1_isRight (N : Nat) (z : Nat → Nat) (v1 : Int32) (S : mq_St) : Option (Int32 × mq_St) := (mq_cp (zf_X0_size N z (mq_pull S [0] [2] [])) (fun q1 => (if (q1 - q1 / (3 : Int32) * (3 : Int32)) = (0 : Int32) then (mq_cp (zf_X0_size N z (mq_pull S [0] [2] [])) (fun q3 => (mq_nI ((q3 / (3 : Int32))) (fun x5 => (mq_cl (zf_X6_empty N (fun k => [5].getD k 0) ((0 : Int32)) (mq_pull S [] [] [6])) (fun q6v q6s => mq_nS (mq_push S q6s [] [] [6]) (fun S8 => (mq_cl (zf_X6_put N (fun k => [5].getD k 0) ((0 : Int32)) (v1) (mq_pull S8 [] [] [6])) (fun q9v q9s => mq_nS (mq_push S8 q9s [] [] [6]) (fun S11 => (mq_nS (mq_si S11 21 ((0 : Int32))) (fun S12 => (mq_nI ((0 : Int32)) (fun x13 => (zf_X1_isRight_48 N z N (x5) (x13) S12))))))))))))))) else (mq_cz ((0 : Int32)) (some ((0 : Int32), S))))))
set_option maxHeartbeats 4000000 in
set_option maxRecDepth 100000 in
theorem zw_X1_isRight_186 {p : Program} {l : Launch} {e : Env} {s : State} {m : MethodId} {args : Array Value} {below : List Frame} {meth : Method} {c : Code} {A : Nat → Prop} {D : va_G} {a z : Nat → Nat} {cI cL cB cZ : ClassId} {Q : State → Prop} {N : Nat} {res : Int32 × mq_St} {k48 : Int32 → Int32 → mq_St → Option (Int32 × mq_St)} (C : mq_C p s m args c A D cI cL cB cZ cX1_isRight 7 RX1 zc_X1_isRight) (hret : ∀ (H : Heap) (locs : List Loc) (ls : Array Slot) (pc : Nat), decode cX1_isRight pc = .ok (.ireturn, 1) → narrow .boolean (.int res.1) = .int res.1 → va_P D vwCl (wd_C a cI cL cB cZ z res.2) H → va_D A (wd_C a cI cL cB cZ z res.2) → va_S A s.heap H locs → W p l e zr_X1_isRight s m args below meth c H locs 0 0 Q (F0 m pc ls [.int res.1])) (hk48 : ∀ (v2 : Int32) (v3 : Int32) (S : mq_St) (H : Heap) (locs : List Loc) (ls : Array Slot), k48 v2 v3 S = some res → lv_has ls 7 [(0, .ref (a 43)), (2, .int (v2)), (3, .int (v3))] → va_P D vwCl (wd_C a cI cL cB cZ z S) H → va_D A (wd_C a cI cL cB cZ z S) → va_S A s.heap H locs → W p l e zr_X1_isRight s m args below meth c H locs 0 0 Q (F0 m 48 ls [])) (v2 : Int32) (v3 : Int32) (S : mq_St) (H : Heap) (locs : List Loc) (ls : Array Slot) (h : zf_X1_isRight_186 N z k48 v2 v3 S = some res) (hl : lv_has ls 7 [(0, .ref (a 43)), (2, .int (v2)), (3, .int (v3))]) (hP : va_P D vwCl (wd_C a cI cL cB cZ z S) H) (hD : va_D A (wd_C a cI cL cB cZ z S)) (hS : va_S A s.heap H locs) : W p l e zr_X1_isRight s m args below meth c H locs 0 0 Q (F0 m 186 ls []) := by
  obtain ⟨hx, hb, hml, hown, hts, hK, hA⟩ := id C
  unfold zf_X1_isRight_186 at h
  obtain ⟨x47, ex47⟩ : ∃ y : Int32, y = v3 + (1 : Int32) := ⟨_, rfl⟩
  replace h := mq_nI_go ex47 h
  refine lv_iinc (v := x47) (lv' := [(3, .int (x47)), (0, .ref (a 43)), (2, .int (v2))]) hx hb dX1_isRight_186 hl (k := 2) rfl (by rw [ex47]; rfl) (by decide) rfl (fun ls hl => ?_)
  refine lv_goto (tgt := 48) hx hb dX1_isRight_189 (by decide) ?_
  exact hk48 (v2) (x47) S H locs ls h (lv_sub hl [1, 2, 0] rfl) hP hD hS
set_option maxHeartbeats 4000000 in
set_option maxRecDepth 100000 in
theorem zw_X1_isRight_48b {p : Program} {l : Launch} {e : Env} {s : State} {m : MethodId} {args : Array Value} {below : List Frame} {meth : Method} {c : Code} {A : Nat → Prop} {D : va_G} {a z : Nat → Nat} {cI cL cB cZ : ClassId} {Q : State → Prop} {N : Nat} {res : Int32 × mq_St} {k48 : Int32 → Int32 → mq_St → Option (Int32 × mq_St)} (C : mq_C p s m args c A D cI cL cB cZ cX1_isRight 7 RX1 zc_X1_isRight) (hret : ∀ (H : Heap) (locs : List Loc) (ls : Array Slot) (pc : Nat), decode cX1_isRight pc = .ok (.ireturn, 1) → narrow .boolean (.int res.1) = .int res.1 → va_P D vwCl (wd_C a cI cL cB cZ z res.2) H → va_D A (wd_C a cI cL cB cZ z res.2) → va_S A s.heap H locs → W p l e zr_X1_isRight s m args below meth c H locs 0 0 Q (F0 m pc ls [.int res.1])) (hk48 : ∀ (v2 : Int32) (v3 : Int32) (S : mq_St) (H : Heap) (locs : List Loc) (ls : Array Slot), k48 v2 v3 S = some res → lv_has ls 7 [(0, .ref (a 43)), (2, .int (v2)), (3, .int (v3))] → va_P D vwCl (wd_C a cI cL cB cZ z S) H → va_D A (wd_C a cI cL cB cZ z S) → va_S A s.heap H locs → W p l e zr_X1_isRight s m args below meth c H locs 0 0 Q (F0 m 48 ls [])) (v2 : Int32) (v3 : Int32) (S : mq_St) (H : Heap) (locs : List Loc) (ls : Array Slot) (h : zf_X1_isRight_48b N z k48 v2 v3 S = some res) (hl : lv_has ls 7 [(0, .ref (a 43)), (2, .int (v2)), (3, .int (v3))]) (hP : va_P D vwCl (wd_C a cI cL cB cZ z S) H) (hD : va_D A (wd_C a cI cL cB cZ z S)) (hS : va_S A s.heap H locs) : W p l e zr_X1_isRight s m args below meth c H locs 0 0 Q (F0 m 48 ls []) := by
  obtain ⟨hx, hb, hml, hown, hts, hK, hA⟩ := id C
  unfold zf_X1_isRight_48b at h
  refine lv_iload_n hx hb dX1_isRight_48 rfl (lv_at hl 2 rfl) ?_
  refine lv_iload_n hx hb dX1_isRight_49 rfl (lv_at hl 1 rfl) ?_
  refine lv_icmp_ge (tgt := 192) hx hb dX1_isRight_50 (by decide) (fun c46 => ?_) (fun c46 => ?_)
  · replace h := mq_it c46 h
    refine lv_iconst (v := (0 : Int32)) hx hb dX1_isRight_192 (by decide) ?_
    have hz16 := mq_cz_in h
    replace h := mq_cz_go h
    cases h
    exact hret H locs ls 193 dX1_isRight_193 hz16.1 hP hD hS
  · replace h := mq_if c46 h
    refine lv_iconst (v := (3 : Int32)) hx hb dX1_isRight_53 (by decide) ?_
    refine lv_iload_n hx hb dX1_isRight_54 rfl (lv_at hl 2 rfl) ?_
    refine lv_imul hx hb dX1_isRight_55 ?_
    refine lv_topi (fun x17 ex17 => ?_)
    replace h := mq_nI_go ex17 h
    refine lv_istore (lv' := [(4, .int (x17)), (0, .ref (a 43)), (2, .int (v2)), (3, .int (v3))]) hx hb dX1_isRight_56 hl (by decide) rfl (fun ls hl => ?_)
    refine lv_aload_n hx hb dX1_isRight_58 rfl (lv_at hl 1 rfl) ?_
    refine va_get (D := D) (ci := 1) (v := .ref (a 3)) (C := RX1) (T := TX1) (N := 5) hx hb hts (zi_X1 _) hown hK hP 43 rfl rfl 0 (by decide) (hts _ (List.mem_cons_of_mem _ zt_f_X1_20)) (fun _ h9 => h9) rfl dX1_isRight_59 ?_
    refine lv_iload hx hb dX1_isRight_62 (lv_at hl 0 rfl) ?_
    obtain ⟨q18, hc19, h⟩ := mq_cp_go h
    refine zv_X0_at (a := mq_ad a [3, 4]) (z := z) [3, 4] C zt_m_X1_48 ⟨by decide, by decide⟩ hc19 rfl (by decide) hP hD hS hl.1 (Nat.le_of_ble_eq_true rfl) dX1_isRight_64 (fun H locs hP hD hS => ?_)
    refine lv_topi (fun x20 ex20 => ?_)
    replace h := mq_nI_go ex20 h
    refine lv_istore (lv' := [(5, .int (x20)), (4, .int (x17)), (0, .ref (a 43)), (2, .int (v2)), (3, .int (v3))]) hx hb dX1_isRight_67 hl (by decide) rfl (fun ls hl => ?_)
    refine lv_sipush (v := (256 : Int32)) hx hb dX1_isRight_69 (by decide) ?_
    refine lv_aload_n hx hb dX1_isRight_72 rfl (lv_at hl 2 rfl) ?_
    refine va_get (D := D) (ci := 1) (v := .ref (a 3)) (C := RX1) (T := TX1) (N := 5) hx hb hts (zi_X1 _) hown hK hP 43 rfl rfl 0 (by decide) (hts _ (List.mem_cons_of_mem _ zt_f_X1_20)) (fun _ h9 => h9) rfl dX1_isRight_73 ?_
    refine lv_iload hx hb dX1_isRight_76 (lv_at hl 1 rfl) ?_
    refine lv_iconst (v := (1 : Int32)) hx hb dX1_isRight_78 (by decide) ?_
    refine lv_iadd hx hb dX1_isRight_79 ?_
    obtain ⟨q21, hc22, h⟩ := mq_cp_go h
    refine zv_X0_at (a := mq_ad a [3, 4]) (z := z) [3, 4] C zt_m_X1_48 ⟨by decide, by decide⟩ hc22 rfl (by decide) hP hD hS hl.1 (Nat.le_of_ble_eq_true rfl) dX1_isRight_80 (fun H locs hP hD hS => ?_)
    refine lv_imul hx hb dX1_isRight_83 ?_
    refine lv_aload_n hx hb dX1_isRight_84 rfl (lv_at hl 2 rfl) ?_
    refine va_get (D := D) (ci := 1) (v := .ref (a 3)) (C := RX1) (T := TX1) (N := 5) hx hb hts (zi_X1 _) hown hK hP 43 rfl rfl 0 (by decide) (hts _ (List.mem_cons_of_mem _ zt_f_X1_20)) (fun _ h9 => h9) rfl dX1_isRight_85 ?_
    refine lv_iload hx hb dX1_isRight_88 (lv_at hl 1 rfl) ?_
    refine lv_iconst (v := (2 : Int32)) hx hb dX1_isRight_90 (by decide) ?_
    refine lv_iadd hx hb dX1_isRight_91 ?_
    obtain ⟨q23, hc24, h⟩ := mq_cp_go h
    refine zv_X0_at (a := mq_ad a [3, 4]) (z := z) [3, 4] C zt_m_X1_48 ⟨by decide, by decide⟩ hc24 rfl (by decide) hP hD hS hl.1 (Nat.le_of_ble_eq_true rfl) dX1_isRight_92 (fun H locs hP hD hS => ?_)
    refine lv_iadd hx hb dX1_isRight_95 ?_
    refine lv_topi (fun x25 ex25 => ?_)
    replace h := mq_nI_go ex25 h
    refine lv_istore (lv' := [(6, .int (x25)), (5, .int (x20)), (4, .int (x17)), (0, .ref (a 43)), (2, .int (v2)), (3, .int (v3))]) hx hb dX1_isRight_96 hl (by decide) rfl (fun ls hl => ?_)
    refine lv_aload_n hx hb dX1_isRight_98 rfl (lv_at hl 3 rfl) ?_
    refine va_get (D := D) (ci := 1) (v := .ref (a 44)) (C := RX1) (T := TX1) (N := 5) hx hb hts (zi_X1 _) hown hK hP 43 rfl rfl 2 (by decide) (hts _ (List.mem_cons_of_mem _ zt_f_X1_14)) (fun _ h9 => h9) rfl dX1_isRight_99 ?_
    refine lv_iconst (v := (0 : Int32)) hx hb dX1_isRight_102 (by decide) ?_
    refine lv_iload hx hb dX1_isRight_103 (lv_at hl 0 rfl) ?_
    obtain ⟨q26, hc27, h⟩ := mq_cp_go h
    refine zv_X6_has (a := mq_ad a [44, 45]) (z := (fun k => [5].getD k 0)) [44, 45] C zt_m_X1_52 ⟨by decide, by decide⟩ hc27 rfl (by decide) hP hD hS hl.1 (Nat.le_of_ble_eq_true rfl) dX1_isRight_105 (fun H locs hP hD hS => ?_)
    refine lv_if_eq (tgt := 122) hx hb dX1_isRight_108 (by decide) (fun c45 => ?_) (fun c45 => ?_)
    · replace h := mq_it c45 h
      refine lv_iconst (v := (0 : Int32)) hx hb dX1_isRight_122 (by decide) ?_
      have hz28 := mq_cz_in h
      replace h := mq_cz_go h
      cases h
      exact hret H locs ls 123 dX1_isRight_123 hz28.1 hP hD hS
    · replace h := mq_if c45 h
      refine lv_aload_n hx hb dX1_isRight_111 rfl (lv_at hl 3 rfl) ?_
      refine lv_iload hx hb dX1_isRight_112 (lv_at hl 1 rfl) ?_
      refine lv_iload hx hb dX1_isRight_114 (lv_at hl 0 rfl) ?_
      obtain ⟨q29, hc30, h⟩ := mq_cp_go h
      refine zk_X1_isAllowed C zt_m_X1_56 ⟨by decide, by decide⟩ hc30 hP hD hS hl.1 (Nat.le_of_ble_eq_true rfl) dX1_isRight_116 (fun H locs hP hD hS => ?_)
      refine lv_if_ne (tgt := 124) hx hb dX1_isRight_119 (by decide) (fun c44 => ?_) (fun c44 => ?_)
      · replace h := mq_if c44 h
        refine lv_iload hx hb dX1_isRight_124 (lv_at hl 1 rfl) ?_
        refine lv_if_eq (tgt := 140) hx hb dX1_isRight_126 (by decide) (fun c42 => ?_) (fun c42 => ?_)
        · replace h := mq_it c42 h
          refine lv_aload_n hx hb dX1_isRight_140 rfl (lv_at hl 3 rfl) ?_
          refine va_get (D := D) (ci := 1) (v := .int ((S.1 21))) (C := RX1) (T := TX1) (N := 5) hx hb hts (zi_X1 _) hown hK hP 43 rfl rfl 4 (by decide) (hts _ (List.mem_cons_of_mem _ zt_f_X1_44)) (fun _ h9 => h9) rfl dX1_isRight_141 ?_
          refine lv_if_ne (tgt := 160) hx hb dX1_isRight_144 (by decide) (fun c38 => ?_) (fun c38 => ?_)
          · replace h := mq_if c38 h
            refine lv_aload_n hx hb dX1_isRight_160 rfl (lv_at hl 3 rfl) ?_
            refine lv_dup hx hb dX1_isRight_161 rfl ?_
            refine va_get (D := D) (ci := 1) (v := .int ((S.1 21))) (C := RX1) (T := TX1) (N := 5) hx hb hts (zi_X1 _) hown hK hP 43 rfl rfl 4 (by decide) (hts _ (List.mem_cons_of_mem _ zt_f_X1_44)) (fun _ h9 => h9) rfl dX1_isRight_162 ?_
            refine lv_iconst (v := (1 : Int32)) hx hb dX1_isRight_165 (by decide) ?_
            refine lv_isub hx hb dX1_isRight_166 ?_
            refine mq_put (w := wd_C a cI cL cB cZ z) (S := S) (D := D) (ci := 1) (v := ((S.1 21) - (1 : Int32))) (ty := .int) (C := RX1) (T := TX1) (N := 5) hx hb hts (zi_X1 _) tyX1 tyX1_ok nmX1 hown hK hP hD hS 43 rfl rfl 4 (by decide) (hts _ (List.mem_cons_of_mem _ zt_f_X1_44)) (fun _ h9 => h9) rfl (by decide +kernel) rfl rfl (Nat.le_of_ble_eq_true rfl) dX1_isRight_167 21 (zs_wd_C_i_43_21 _ _ _ _ _ _ _ _) (fun S31 eS31 H locs hP hD hS => ?_)
            replace h := mq_nS_go eS31 h
            refine lv_aload_n hx hb dX1_isRight_170 rfl (lv_at hl 3 rfl) ?_
            refine va_get (D := D) (ci := 1) (v := .ref (a 44)) (C := RX1) (T := TX1) (N := 5) hx hb hts (zi_X1 _) hown hK hP 43 rfl rfl 2 (by decide) (hts _ (List.mem_cons_of_mem _ zt_f_X1_14)) (fun _ h9 => h9) rfl dX1_isRight_171 ?_
            refine lv_iconst (v := (0 : Int32)) hx hb dX1_isRight_174 (by decide) ?_
            refine lv_aload_n hx hb dX1_isRight_175 rfl (lv_at hl 3 rfl) ?_
            refine va_get (D := D) (ci := 1) (v := .ref (a 39)) (C := RX1) (T := TX1) (N := 5) hx hb hts (zi_X1 _) hown hK hP 43 rfl rfl 3 (by decide) (hts _ (List.mem_cons_of_mem _ zt_f_X1_28)) (fun _ h9 => h9) rfl dX1_isRight_176 ?_
            refine lv_aload_n hx hb dX1_isRight_179 rfl (lv_at hl 3 rfl) ?_
            refine va_get (D := D) (ci := 1) (v := .int ((S31.1 21))) (C := RX1) (T := TX1) (N := 5) hx hb hts (zi_X1 _) hown hK hP 43 rfl rfl 4 (by decide) (hts _ (List.mem_cons_of_mem _ zt_f_X1_44)) (fun _ h9 => h9) rfl dX1_isRight_180 ?_
            obtain ⟨q32, hc33, h⟩ := mq_cl_go h
            refine zv_X6_copy (a := mq_ad a [44, 45, 39, 40]) (z := (fun k => [5, 3330].getD k 0)) [44, 45, 39, 40] C zt_m_X1_62 ⟨by decide, by decide⟩ hc33 rfl (by decide) (ws' := (wd_C a cI cL cB cZ z (mq_push S31 q32.2 [] [] [6, 5]))) (zx_wd_C_wd_SS_44_45_39_40 _ _ _ _ _ _ _ _) hP hD hS hl.1 (Nat.le_of_ble_eq_true rfl) dX1_isRight_183 (fun H locs hP hD hS => ?_)
            obtain ⟨S34, eS34⟩ : ∃ y, y = mq_push S31 q32.2 [] [] [6, 5] := ⟨_, rfl⟩
            replace h := mq_nS_go eS34 h
            rw [← eS34] at hP hD
            exact zw_X1_isRight_186 C hret hk48 (v2) (v3) S34 H locs ls h (lv_sub hl [3, 4, 5] rfl) hP hD hS
          · replace h := mq_it (by simpa using c38) h
            refine lv_iload_n hx hb dX1_isRight_147 rfl (lv_at hl 5 rfl) ?_
            refine lv_iload_n hx hb dX1_isRight_148 rfl (lv_at hl 4 rfl) ?_
            refine lv_iconst (v := (1 : Int32)) hx hb dX1_isRight_149 (by decide) ?_
            refine lv_isub hx hb dX1_isRight_150 ?_
            refine lv_icmp_ne (tgt := 158) hx hb dX1_isRight_151 (by decide) (fun c37 => ?_) (fun c37 => ?_)
            · replace h := mq_if c37 h
              refine lv_iconst (v := (0 : Int32)) hx hb dX1_isRight_158 (by decide) ?_
              have hz35 := mq_cz_in h
              replace h := mq_cz_go h
              cases h
              exact hret H locs ls 159 dX1_isRight_159 hz35.1 hP hD hS
            · replace h := mq_it (by simpa using c37) h
              refine lv_iconst (v := (1 : Int32)) hx hb dX1_isRight_154 (by decide) ?_
              refine lv_goto (tgt := 159) hx hb dX1_isRight_155 (by decide) ?_
              have hz36 := mq_cz_in h
              replace h := mq_cz_go h
              cases h
              exact hret H locs ls 159 dX1_isRight_159 hz36.1 hP hD hS
        · replace h := mq_if c42 h
          refine lv_aload_n hx hb dX1_isRight_129 rfl (lv_at hl 3 rfl) ?_
          refine lv_iload hx hb dX1_isRight_130 (lv_at hl 1 rfl) ?_
          refine lv_iload hx hb dX1_isRight_132 (lv_at hl 0 rfl) ?_
          obtain ⟨q39, hc40, h⟩ := mq_cl_go h
          refine zk_X1_apply C zt_m_X1_59 ⟨by decide, by decide⟩ hc40 hP hD hS hl.1 (Nat.le_of_ble_eq_true rfl) dX1_isRight_134 (fun H locs hP hD hS => ?_)
          obtain ⟨S41, eS41⟩ : ∃ y, y = q39.2 := ⟨_, rfl⟩
          rw [← eS41] at hP hD h
          refine lv_goto (tgt := 186) hx hb dX1_isRight_137 (by decide) ?_
          exact zw_X1_isRight_186 C hret hk48 (v2) (v3) S41 H locs ls h (lv_sub hl [3, 4, 5] rfl) hP hD hS
      · replace h := mq_it (by simpa using c44) h
        refine lv_iconst (v := (0 : Int32)) hx hb dX1_isRight_122 (by decide) ?_
        have hz43 := mq_cz_in h
        replace h := mq_cz_go h
        cases h
        exact hret H locs ls 123 dX1_isRight_123 hz43.1 hP hD hS
set_option maxHeartbeats 4000000 in
set_option maxRecDepth 100000 in
theorem zw_X1_isRight_48 {p : Program} {l : Launch} {e : Env} {s : State} {m : MethodId} {args : Array Value} {below : List Frame} {meth : Method} {c : Code} {A : Nat → Prop} {D : va_G} {a z : Nat → Nat} {cI cL cB cZ : ClassId} {Q : State → Prop} {N : Nat} {res : Int32 × mq_St} (C : mq_C p s m args c A D cI cL cB cZ cX1_isRight 7 RX1 zc_X1_isRight) (hret : ∀ (H : Heap) (locs : List Loc) (ls : Array Slot) (pc : Nat), decode cX1_isRight pc = .ok (.ireturn, 1) → narrow .boolean (.int res.1) = .int res.1 → va_P D vwCl (wd_C a cI cL cB cZ z res.2) H → va_D A (wd_C a cI cL cB cZ z res.2) → va_S A s.heap H locs → W p l e zr_X1_isRight s m args below meth c H locs 0 0 Q (F0 m pc ls [.int res.1])) : ∀ (n : Nat) (v2 : Int32) (v3 : Int32) (S : mq_St) (H : Heap) (locs : List Loc) (ls : Array Slot) (h : zf_X1_isRight_48 N z n v2 v3 S = some res) (hl : lv_has ls 7 [(0, .ref (a 43)), (2, .int (v2)), (3, .int (v3))]) (hP : va_P D vwCl (wd_C a cI cL cB cZ z S) H) (hD : va_D A (wd_C a cI cL cB cZ z S)) (hS : va_S A s.heap H locs), W p l e zr_X1_isRight s m args below meth c H locs 0 0 Q (F0 m 48 ls []) := by
  intro n
  induction n with
  | zero =>
    intro v2 v3 S H locs ls h hl hP hD hS
    exact nomatch (show (none : Option (Int32 × mq_St)) = some res from h)
  | succ n ih =>
    intro v2 v3 S H locs ls h hl hP hD hS
    exact zw_X1_isRight_48b C hret (fun v2 v3 S H locs ls h hl hP hD hS => ih v2 v3 S H locs ls h hl hP hD hS) v2 v3 S H locs ls h hl hP hD hS
set_option maxHeartbeats 4000000 in
set_option maxRecDepth 100000 in
theorem zw_X1_isRight_0 {p : Program} {l : Launch} {e : Env} {s : State} {m : MethodId} {args : Array Value} {below : List Frame} {meth : Method} {c : Code} {A : Nat → Prop} {D : va_G} {a z : Nat → Nat} {cI cL cB cZ : ClassId} {Q : State → Prop} {N : Nat} {res : Int32 × mq_St} (C : mq_C p s m args c A D cI cL cB cZ cX1_isRight 7 RX1 zc_X1_isRight) (hret : ∀ (H : Heap) (locs : List Loc) (ls : Array Slot) (pc : Nat), decode cX1_isRight pc = .ok (.ireturn, 1) → narrow .boolean (.int res.1) = .int res.1 → va_P D vwCl (wd_C a cI cL cB cZ z res.2) H → va_D A (wd_C a cI cL cB cZ z res.2) → va_S A s.heap H locs → W p l e zr_X1_isRight s m args below meth c H locs 0 0 Q (F0 m pc ls [.int res.1])) (v1 : Int32) (S : mq_St) (H : Heap) (locs : List Loc) (ls : Array Slot) (h : zf_X1_isRight N z v1 S = some res) (hl : lv_has ls 7 [(0, .ref (a 43)), (1, .int (v1))]) (hP : va_P D vwCl (wd_C a cI cL cB cZ z S) H) (hD : va_D A (wd_C a cI cL cB cZ z S)) (hS : va_S A s.heap H locs) : W p l e zr_X1_isRight s m args below meth c H locs 0 0 Q (F0 m 0 ls []) := by
  obtain ⟨hx, hb, hml, hown, hts, hK, hA⟩ := id C
  unfold zf_X1_isRight at h
  refine lv_aload_n hx hb dX1_isRight_0 rfl (lv_at hl 0 rfl) ?_
  refine va_get (D := D) (ci := 1) (v := .ref (a 3)) (C := RX1) (T := TX1) (N := 5) hx hb hts (zi_X1 _) hown hK hP 43 rfl rfl 0 (by decide) (hts _ (List.mem_cons_of_mem _ zt_f_X1_20)) (fun _ h9 => h9) rfl dX1_isRight_1 ?_
  obtain ⟨q1, hc2, h⟩ := mq_cp_go h
  refine zv_X0_size (a := mq_ad a [3, 4]) (z := z) [3, 4] C zt_m_X1_31 ⟨by decide, by decide⟩ hc2 rfl (by decide) hP hD hS hl.1 (Nat.le_of_ble_eq_true rfl) dX1_isRight_4 (fun H locs hP hD hS => ?_)
  refine lv_iconst (v := (3 : Int32)) hx hb dX1_isRight_7 (by decide) ?_
  refine lv_irem hx hb dX1_isRight_8 (by decide) ?_
  refine lv_if_eq (tgt := 14) hx hb dX1_isRight_9 (by decide) (fun c15 => ?_) (fun c15 => ?_)
  · replace h := mq_it c15 h
    refine lv_aload_n hx hb dX1_isRight_14 rfl (lv_at hl 0 rfl) ?_
    refine va_get (D := D) (ci := 1) (v := .ref (a 3)) (C := RX1) (T := TX1) (N := 5) hx hb hts (zi_X1 _) hown hK hP 43 rfl rfl 0 (by decide) (hts _ (List.mem_cons_of_mem _ zt_f_X1_20)) (fun _ h9 => h9) rfl dX1_isRight_15 ?_
    obtain ⟨q3, hc4, h⟩ := mq_cp_go h
    refine zv_X0_size (a := mq_ad a [3, 4]) (z := z) [3, 4] C zt_m_X1_31 ⟨by decide, by decide⟩ hc4 rfl (by decide) hP hD hS hl.1 (Nat.le_of_ble_eq_true rfl) dX1_isRight_18 (fun H locs hP hD hS => ?_)
    refine lv_iconst (v := (3 : Int32)) hx hb dX1_isRight_21 (by decide) ?_
    refine lv_idiv hx hb dX1_isRight_22 (by decide) ?_
    refine lv_topi (fun x5 ex5 => ?_)
    replace h := mq_nI_go ex5 h
    refine lv_istore_n (lv' := [(2, .int (x5)), (0, .ref (a 43)), (1, .int (v1))]) hx hb dX1_isRight_23 rfl hl (by decide) rfl (fun ls hl => ?_)
    refine lv_aload_n hx hb dX1_isRight_24 rfl (lv_at hl 1 rfl) ?_
    refine va_get (D := D) (ci := 1) (v := .ref (a 44)) (C := RX1) (T := TX1) (N := 5) hx hb hts (zi_X1 _) hown hK hP 43 rfl rfl 2 (by decide) (hts _ (List.mem_cons_of_mem _ zt_f_X1_14)) (fun _ h9 => h9) rfl dX1_isRight_25 ?_
    refine lv_iconst (v := (0 : Int32)) hx hb dX1_isRight_28 (by decide) ?_
    obtain ⟨q6, hc7, h⟩ := mq_cl_go h
    refine zv_X6_empty (a := mq_ad a [44, 45]) (z := (fun k => [5].getD k 0)) [44, 45] C zt_m_X1_37 ⟨by decide, by decide⟩ hc7 rfl (by decide) (ws' := (wd_C a cI cL cB cZ z (mq_push S q6.2 [] [] [6]))) (zx_wd_C_wd_S_44_45 _ _ _ _ _ _ _ _) hP hD hS hl.1 (Nat.le_of_ble_eq_true rfl) dX1_isRight_29 (fun H locs hP hD hS => ?_)
    obtain ⟨S8, eS8⟩ : ∃ y, y = mq_push S q6.2 [] [] [6] := ⟨_, rfl⟩
    replace h := mq_nS_go eS8 h
    rw [← eS8] at hP hD
    refine lv_aload_n hx hb dX1_isRight_32 rfl (lv_at hl 1 rfl) ?_
    refine va_get (D := D) (ci := 1) (v := .ref (a 44)) (C := RX1) (T := TX1) (N := 5) hx hb hts (zi_X1 _) hown hK hP 43 rfl rfl 2 (by decide) (hts _ (List.mem_cons_of_mem _ zt_f_X1_14)) (fun _ h9 => h9) rfl dX1_isRight_33 ?_
    refine lv_iconst (v := (0 : Int32)) hx hb dX1_isRight_36 (by decide) ?_
    refine lv_iload_n hx hb dX1_isRight_37 rfl (lv_at hl 2 rfl) ?_
    obtain ⟨q9, hc10, h⟩ := mq_cl_go h
    refine zv_X6_put (a := mq_ad a [44, 45]) (z := (fun k => [5].getD k 0)) [44, 45] C zt_m_X1_40 ⟨by decide, by decide⟩ hc10 rfl (by decide) (ws' := (wd_C a cI cL cB cZ z (mq_push S8 q9.2 [] [] [6]))) (zx_wd_C_wd_S_44_45 _ _ _ _ _ _ _ _) hP hD hS hl.1 (Nat.le_of_ble_eq_true rfl) dX1_isRight_38 (fun H locs hP hD hS => ?_)
    obtain ⟨S11, eS11⟩ : ∃ y, y = mq_push S8 q9.2 [] [] [6] := ⟨_, rfl⟩
    replace h := mq_nS_go eS11 h
    rw [← eS11] at hP hD
    refine lv_aload_n hx hb dX1_isRight_41 rfl (lv_at hl 1 rfl) ?_
    refine lv_iconst (v := (0 : Int32)) hx hb dX1_isRight_42 (by decide) ?_
    refine mq_put (w := wd_C a cI cL cB cZ z) (S := S11) (D := D) (ci := 1) (v := (0 : Int32)) (ty := .int) (C := RX1) (T := TX1) (N := 5) hx hb hts (zi_X1 _) tyX1 tyX1_ok nmX1 hown hK hP hD hS 43 rfl rfl 4 (by decide) (hts _ (List.mem_cons_of_mem _ zt_f_X1_44)) (fun _ h9 => h9) rfl (by decide +kernel) rfl rfl (Nat.le_of_ble_eq_true rfl) dX1_isRight_43 21 (zs_wd_C_i_43_21 _ _ _ _ _ _ _ _) (fun S12 eS12 H locs hP hD hS => ?_)
    replace h := mq_nS_go eS12 h
    refine lv_iconst (v := (0 : Int32)) hx hb dX1_isRight_46 (by decide) ?_
    refine lv_topi (fun x13 ex13 => ?_)
    replace h := mq_nI_go ex13 h
    refine lv_istore_n (lv' := [(3, .int (x13)), (2, .int (x5)), (0, .ref (a 43)), (1, .int (v1))]) hx hb dX1_isRight_47 rfl hl (by decide) rfl (fun ls hl => ?_)
    exact zw_X1_isRight_48 C hret N (x5) (x13) S12 H locs ls h (lv_sub hl [2, 1, 0] rfl) hP hD hS
  · replace h := mq_if c15 h
    refine lv_iconst (v := (0 : Int32)) hx hb dX1_isRight_12 (by decide) ?_
    have hz14 := mq_cz_in h
    replace h := mq_cz_go h
    cases h
    exact hret H locs ls 13 dX1_isRight_13 hz14.1 hP hD hS
set_option maxHeartbeats 4000000 in
set_option maxRecDepth 100000 in
theorem zm_X1_isRight (l : Launch) (D : va_G) (a z : Nat → Nat) (cI cL cB cZ : ClassId) (sz N : Nat) (v1 : Int32) (S : mq_St) (res : Int32 × mq_St) (h : zf_X1_isRight N z v1 S = some res) : Met l yX1_isRight (zc_X1_isRight :: mq_T) zr_X1_isRight (va_Pc [.ref (a 43), .int (v1)] (fun U => U.heap.size = sz ∧ va_P D vwCl (wd_C a cI cL cB cZ z S) U.heap ∧ va_K D vwCl (mq_tys cI cL cB cZ) U ∧ va_D (fun _ => True) (wd_C a cI cL cB cZ z S))) (va_Qi (fun (r : Int32) (u : mq_St) => r = res.1 ∧ u = res.2) (fun u t => va_P D vwCl (wd_C a cI cL cB cZ z u) t.heap ∧ va_K D vwCl (mq_tys cI cL cB cZ) t ∧ va_D (va_A (wd_C a cI cL cB cZ z S) sz) (wd_C a cI cL cB cZ z u)) (va_A (wd_C a cI cL cB cZ z S) sz)) 0 0 (va_A (wd_C a cI cL cB cZ z S) sz) := by
  refine Met.ofW (cc := cX1_isRight) (maxL := 7) (ret := (some .boolean)) (by decide) rfl ?_
  intro p e s m args below meth c s₁ B hml hv
  obtain ⟨rfl, hsz, hP, hK, hD0⟩ := hv
  have hr := B.returns
  have hlocks := B.notSynchronized
  have hts := atoms_spec (ws := zc_X1_isRight :: mq_T) B.pre
  have hown : s.vm.findClass RX1 = some m.cls := findClass_of_methodNamed B.named
  subst hsz
  have hD := hD0.self (sz := s.heap.size)
  generalize hAe : va_A (wd_C a cI cL cB cZ z S) s.heap.size = A at hD ⊢
  have hA : ∀ q : Nat, s.heap.size ≤ q → A q := fun q h => by rw [← hAe]; exact Or.inr h
  have hl := lv_entry ([.ref (a 43), .int (v1)]) (n := 7) (Nat.le_of_ble_eq_true rfl)
  rw [lg_entry_eq]
  generalize (lg_sl ([.ref (a 43), .int (v1)]) ++ List.replicate (7 - (lg_sl ([.ref (a 43), .int (v1)])).length) Slot.unset).toArray = ls at hl ⊢
  have hl : lv_has ls 7 [(0, .ref (a 43)), (1, .int (v1))] := hl
  refine zw_X1_isRight_0 (A := A) ⟨B.exec, B.bytes, hml, hown, hts, hK, hA⟩ (fun H locs ls pc dg hz hP hD hS => ?_) v1 S s.heap [] ls h hl hP hD va_S.rf
  exact W.zret B.exec B.bytes hr hz (fun t ht hW => ⟨⟨_, _, rfl, ⟨rfl, rfl⟩, by rw [ht]; exact hP, va_K.moved hW.alike hK, hD⟩, hS.F ht⟩) hS.2.2 dg
theorem zt_X1_isRight_c : zc_X1_isRight ∈ mq_T := mq_T_mem (mq_t4 (List.mem_of_getElem? (i := 194) rfl)) rfl
theorem zt_X1_isRight_i : Cond.instanceMethod yX1_isRight ∈ mq_T := mq_T_mem (mq_t4 (List.mem_of_getElem? (i := 192) rfl)) rfl
theorem zt_X1_isRight_s : Cond.selects RX1 yX1_isRight yX1_isRight ∈ mq_T := mq_T_mem (mq_t4 (List.mem_of_getElem? (i := 193) rfl)) rfl
set_option maxHeartbeats 4000000 in
theorem zk_X1_isRight {p : Program} {l : Launch} {e : Env} {R : Room} {s : State} {m : MethodId} {args : Array Value} {below : List Frame} {meth : Method} {c : Code} {A : Nat → Prop} {D : va_G} {a z : Nat → Nat} {cI cL cB cZ : ClassId} {Q : State → Prop} {cc : ByteArray} {nL idx pc N : Nat} {own : String} {c1 : Cond} {H : Heap} {locs : List Loc} {ls : Array Slot} {rest : List Value} {S : mq_St} {res : Int32 × mq_St} {v1 : Int32} (C : mq_C p s m args c A D cI cL cB cZ cc nL own c1) (hlk : Cond.methodLink own idx yX1_isRight ∈ mq_T) (hR : zr_X1_isRight.frames + 1 ≤ R.frames ∧ 8 + (7 + 11) + zr_X1_isRight.locals ≤ R.locals) (h : zf_X1_isRight N z v1 S = some res) (hP : va_P D vwCl (wd_C a cI cL cB cZ z S) H) (hD : va_D A (wd_C a cI cL cB cZ z S)) (hS : va_S A s.heap H locs) (hls : ls.size = nL) (hrest : (rest.map fun v => v.category).sum ≤ 8) (hdg : decode cc pc = .ok (.invokevirtual idx, 3)) (kk : ∀ (H1 : Heap) (locs1 : List Loc), va_P D vwCl (wd_C a cI cL cB cZ z res.2) H1 → va_D A (wd_C a cI cL cB cZ z res.2) → va_S A s.heap H1 locs1 → W p l e R s m args below meth c H1 locs1 0 0 Q (F0 m (pc + 3) ls (.int res.1 :: rest))) : W p l e R s m args below meth c H locs 0 0 Q (F0 m pc ls (.int (v1) :: .ref (a 43) :: rest)) := by
  obtain ⟨hx, hb, hml, hown, hts, hK, hA⟩ := C
  have hFc := mq_freeI hD hS hA
  refine va_calli (va_runV (As := [.int (v1)]) (rest := rest) ⟨hx, hb, hml, hown, hts⟩ (zm_X1_isRight l D a z cI cL cB cZ H.size N v1 S res h) (cwV 1 hts (mq_goodL (mq_wsV hlk zt_X1_isRight_i zt_X1_isRight_s zt_ini_X1 zt_X1_isRight_c)) rfl rfl rfl (by decide +kernel) hR) ⟨fun a U g mk q => ⟨q.1, q.2.1, q.2.2.1, va_K.moved (u := U) (U := U.calling g mk a) (Vm.Alike.refl U.vm) q.2.2.2.1, q.2.2.2.2⟩, zy_C_43 hK hP, fun U hU hW => ⟨rfl, by rw [hU], by rw [hU]; exact hP, va_K.moved hW.alike hK, hD.weaken (fun _ _ _ _ => trivial)⟩⟩ rfl rfl hls rfl (lv_room hrest) hdg ⟨Nat.zero_le _, Nat.zero_le _⟩) hS (fun q _ h => hFc q h) hFc (fun r u t H1 locs ht hvm hw hB hz1 hk1 hS => ?_)
  obtain ⟨rfl, rfl⟩ := hw
  obtain ⟨hP1, hK1, hD1⟩ := hB
  rw [ht] at hP1
  exact kk H1 locs hP1 (hD1.weaken (fun _ _ _ h => hFc _ h)) hS
