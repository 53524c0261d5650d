theorem zs_wd_R_a_40_39 (a z : Nat → Nat) (cI cL cB cZ : ClassId) (S : mq_St) (f : Nat → Int32) : (wd_R a cI cL cB cZ z S).set 40 (a 40, .inl (cI, 60, .inl f)) = (wd_R a cI cL cB cZ z (mq_sa S 39 f)) := rfl
theorem zt_m_X11_396 : Cond.methodLink RX11 396 yX11_look ∈ mq_T := mq_T_mem (mq_t7 (List.mem_of_getElem? (i := 176) rfl)) rfl
theorem zt_m_X11_399 : Cond.methodLink RX11 399 yX11_isAlike ∈ mq_T := mq_T_mem (mq_t7 (List.mem_of_getElem? (i := 184) rfl)) rfl
theorem zs_wd_R_a_43_42 (a z : Nat → Nat) (cI cL cB cZ : ClassId) (S : mq_St) (f : Nat → Int32) : (wd_R a cI cL cB cZ z S).set 43 (a 43, .inl (cI, 60, .inl f)) = (wd_R a cI cL cB cZ z (mq_sa S 42 f)) := rfl
theorem zt_m_X11_402 : Cond.methodLink RX11 402 yX11_settle ∈ mq_T := mq_T_mem (mq_t7 (List.mem_of_getElem? (i := 188) rfl)) rfl
theorem zs_wd_R_a_44_43 (a z : Nat → Nat) (cI cL cB cZ : ClassId) (S : mq_St) (f : Nat → Int32) : (wd_R a cI cL cB cZ z S).set 44 (a 44, .inl (cZ, 3600, .inl f)) = (wd_R a cI cL cB cZ z (mq_sa S 43 f)) := rfl
/-! ModalDeskModel.fold()I -/
def zr_X11_fold : Room := { frames := 2, cells := 0, slots := 0, locals := 45 }
def zc_X11_fold : Cond := .code yX11_fold cX11_fold 7 (some .int)
def zf_X11_fold_19b (N : Nat) (z : Nat → Nat) (k12 : Int32 → Int32 → mq_St → Option (Int32 × mq_St)) (k19 : Int32 → Int32 → Int32 → mq_St → Option (Int32 × mq_St)) (v1 : Int32) (v2 : Int32) (v3 : Int32) (S : mq_St) : Option (Int32 × mq_St) := (mq_ck (v3) 60 (mq_ck (v2) 60 (if (S.2.1 34 (v3).toNatClampNeg) = (S.2.1 34 (v2).toNatClampNeg) then (mq_ck (v2) 60 (mq_nS (mq_sa S 39 (upd (S.2.1 39) (v2).toNatClampNeg (v3))) (fun S10 => (mq_nI (v2 + (1 : Int32)) (fun x11 => (k12 (v1) (x11) S10)))))) else (mq_nI (v3 + (1 : Int32)) (fun x12 => (k19 (v1) (v2) (x12) S))))))
def zf_X11_fold_19 (N : Nat) (z : Nat → Nat) (k12 : Int32 → Int32 → mq_St → Option (Int32 × mq_St)) : Nat → Int32 → Int32 → Int32 → mq_St → Option (Int32 × mq_St)
  | 0, _, _, _, _ => none
  | n + 1, v1, v2, v3, S => zf_X11_fold_19b N z k12 (fun v1 v2 v3 S => zf_X11_fold_19 N z k12 n v1 v2 v3 S) v1 v2 v3 S
def zf_X11_fold_75b (N : Nat) (z : Nat → Nat) (k55 : Int32 → Int32 → mq_St → Option (Int32 × mq_St)) (k67 : Int32 → Int32 → Int32 → mq_St → Option (Int32 × mq_St)) (k75 : Int32 → Int32 → Int32 → Int32 → mq_St → Option (Int32 × mq_St)) (v1 : Int32) (v2 : Int32) (v3 : Int32) (v4 : Int32) (S : mq_St) : Option (Int32 × mq_St) := (mq_cp (zf_X11_isAlike N z (v4) (v3) S) (fun q25 => (if q25 = (0 : Int32) then (mq_nI (v4 + (1 : Int32)) (fun x30 => (k75 (v1) (v2) (v3) (x30) S))) else (mq_ck (v3) 60 (mq_nS (mq_sa S 40 (upd (S.2.1 40) (v3).toNatClampNeg (v4))) (fun S28 => (mq_nI (v3 + (1 : Int32)) (fun x29 => (k67 (v1) (v2) (x29) S28)))))))))
def zf_X11_fold_75 (N : Nat) (z : Nat → Nat) (k55 : Int32 → Int32 → mq_St → Option (Int32 × mq_St)) (k67 : Int32 → Int32 → Int32 → mq_St → Option (Int32 × mq_St)) : Nat → Int32 → Int32 → Int32 → Int32 → mq_St → Option (Int32 × mq_St)
  | 0, _, _, _, _, _ => none
  | n + 1, v1, v2, v3, v4, S => zf_X11_fold_75b N z k55 k67 (fun v1 v2 v3 v4 S => zf_X11_fold_75 N z k55 k67 n v1 v2 v3 v4 S) v1 v2 v3 v4 S
def zf_X11_fold_136 (N : Nat) (z : Nat → Nat) (k55 : Int32 → Int32 → mq_St → Option (Int32 × mq_St)) (k107 : Int32 → Int32 → Int32 → mq_St → Option (Int32 × mq_St)) (v1 : Int32) (v3 : Int32) (t0 : Int32) (S : mq_St) : Option (Int32 × mq_St) := (mq_nI (t0) (fun x37 => (mq_ck (v3) 60 (mq_ck (v3) 60 (mq_nS (mq_sa S 39 (upd (S.2.1 39) (v3).toNatClampNeg ((S.2.1 40 (v3).toNatClampNeg)))) (fun S40 => (mq_nI (v3 + (1 : Int32)) (fun x41 => (k107 (v1) (x37) (x41) S40)))))))))
def zf_X11_fold_131 (N : Nat) (z : Nat → Nat) (k55 : Int32 → Int32 → mq_St → Option (Int32 × mq_St)) (k107 : Int32 → Int32 → Int32 → mq_St → Option (Int32 × mq_St)) (v1 : Int32) (v3 : Int32) (S : mq_St) : Option (Int32 × mq_St) := (zf_X11_fold_136 N z k55 k107 (v1) (v3) ((1 : Int32)) S)
def zf_X11_fold_107b (N : Nat) (z : Nat → Nat) (k55 : Int32 → Int32 → mq_St → Option (Int32 × mq_St)) (k107 : Int32 → Int32 → Int32 → mq_St → Option (Int32 × mq_St)) (v1 : Int32) (v2 : Int32) (v3 : Int32) (S : mq_St) : Option (Int32 × mq_St) := (if v1 ≤ v3 then (k55 (v1) (v2) S) else (if v2 = (0 : Int32) then (mq_ck (v3) 60 (mq_ck (v3) 60 (if (S.2.1 40 (v3).toNatClampNeg) = (S.2.1 39 (v3).toNatClampNeg) then (zf_X11_fold_136 N z k55 k107 (v1) (v3) ((0 : Int32)) S) else (zf_X11_fold_131 N z k55 k107 (v1) (v3) S)))) else (zf_X11_fold_131 N z k55 k107 (v1) (v3) S)))
def zf_X11_fold_107 (N : Nat) (z : Nat → Nat) (k55 : Int32 → Int32 → mq_St → Option (Int32 × mq_St)) : Nat → Int32 → Int32 → Int32 → mq_St → Option (Int32 × mq_St)
  | 0, _, _, _, _ => none
  | n + 1, v1, v2, v3, S => zf_X11_fold_107b N z k55 (fun v1 v2 v3 S => zf_X11_fold_107 N z k55 n v1 v2 v3 S) v1 v2 v3 S
def zf_X11_fold_67b (N : Nat) (z : Nat → Nat) (k55 : Int32 → Int32 → mq_St → Option (Int32 × mq_St)) (k67 : Int32 → Int32 → Int32 → mq_St → Option (Int32 × mq_St)) (v1 : Int32) (v2 : Int32) (v3 : Int32) (S : mq_St) : Option (Int32 × mq_St) := (if v1 ≤ v3 then (mq_nI ((0 : Int32)) (fun x22 => (zf_X11_fold_107 N z k55 N (v1) (v2) (x22) S))) else (mq_nI ((0 : Int32)) (fun x23 => (zf_X11_fold_75 N z k55 k67 N (v1) (v2) (v3) (x23) S))))
def zf_X11_fold_67 (N : Nat) (z : Nat → Nat) (k55 : Int32 → Int32 → mq_St → Option (Int32 × mq_St)) : Nat → Int32 → Int32 → Int32 → mq_St → Option (Int32 × mq_St)
  | 0, _, _, _, _ => none
  | n + 1, v1, v2, v3, S => zf_X11_fold_67b N z k55 (fun v1 v2 v3 S => zf_X11_fold_67 N z k55 n v1 v2 v3 S) v1 v2 v3 S
def zf_X11_fold_192 (N : Nat) (z : Nat → Nat) (k163 : Int32 → Int32 → Int32 → mq_St → Option (Int32 × mq_St)) (v1 : Int32) (v3 : Int32) (v4 : Int32) (S : mq_St) : Option (Int32 × mq_St) := (mq_nI (v4 + (1 : Int32)) (fun x49 => (k163 (v1) (v3) (x49) S)))
def zf_X11_fold_305 (N : Nat) (z : Nat → Nat) (k201 : Int32 → Int32 → Int32 → mq_St → Option (Int32 × mq_St)) (k210 : Int32 → Int32 → Int32 → Int32 → mq_St → Option (Int32 × mq_St)) (k233 : Int32 → Int32 → Int32 → Int32 → Int32 → mq_St → Option (Int32 × mq_St)) (v1 : Int32) (v3 : Int32) (v4 : Int32) (v5 : Int32) (v6 : Int32) (t1 : Int32) (t2 : Int32) (S : mq_St) : Option (Int32 × mq_St) := (mq_ck (t1) 3600 (mq_nS (mq_sa S 43 (upd (S.2.1 43) (t1).toNatClampNeg (vp_nar .boolean (t2)))) (fun S72 => (mq_nI (v6 + (1 : Int32)) (fun x73 => (k233 (v1) (v3) (v4) (v5) (x73) S72))))))
def zf_X11_fold_300 (N : Nat) (z : Nat → Nat) (k201 : Int32 → Int32 → Int32 → mq_St → Option (Int32 × mq_St)) (k210 : Int32 → Int32 → Int32 → Int32 → mq_St → Option (Int32 × mq_St)) (k233 : Int32 → Int32 → Int32 → Int32 → Int32 → mq_St → Option (Int32 × mq_St)) (v1 : Int32) (v3 : Int32) (v4 : Int32) (v5 : Int32) (v6 : Int32) (t1 : Int32) (S : mq_St) : Option (Int32 × mq_St) := (zf_X11_fold_305 N z k201 k210 k233 (v1) (v3) (v4) (v5) (v6) (t1) ((1 : Int32)) S)
def zf_X11_fold_304 (N : Nat) (z : Nat → Nat) (k201 : Int32 → Int32 → Int32 → mq_St → Option (Int32 × mq_St)) (k210 : Int32 → Int32 → Int32 → Int32 → mq_St → Option (Int32 × mq_St)) (k233 : Int32 → Int32 → Int32 → Int32 → Int32 → mq_St → Option (Int32 × mq_St)) (v1 : Int32) (v3 : Int32) (v4 : Int32) (v5 : Int32) (v6 : Int32) (t1 : Int32) (S : mq_St) : Option (Int32 × mq_St) := (zf_X11_fold_305 N z k201 k210 k233 (v1) (v3) (v4) (v5) (v6) (t1) ((0 : Int32)) S)
def zf_X11_fold_233b (N : Nat) (z : Nat → Nat) (k201 : Int32 → Int32 → Int32 → mq_St → Option (Int32 × mq_St)) (k210 : Int32 → Int32 → Int32 → Int32 → mq_St → Option (Int32 × mq_St)) (k233 : Int32 → Int32 → Int32 → Int32 → Int32 → mq_St → Option (Int32 × mq_St)) (v1 : Int32) (v3 : Int32) (v4 : Int32) (v5 : Int32) (v6 : Int32) (S : mq_St) : Option (Int32 × mq_St) := (if v1 ≤ v6 then (mq_nI (v5 + (1 : Int32)) (fun x60 => (k210 (v1) (v3) (v4) (x60) S))) else (mq_ck ((((60 : Int32) * v4) + v5)) 3600 (if (S.2.1 43 ((((60 : Int32) * v4) + v5)).toNatClampNeg) = (0 : Int32) then (mq_ck (v6) 60 (mq_ck (v4) 60 (if (S.2.1 39 (v6).toNatClampNeg) = (S.2.1 42 (v4).toNatClampNeg) then (mq_ck (v5) 60 (mq_cp (zf_X11_seesGroup N z (v6) ((S.2.1 42 (v5).toNatClampNeg)) S) (fun q65 => (if q65 = (0 : Int32) then (zf_X11_fold_304 N z k201 k210 k233 (v1) (v3) (v4) (v5) (v6) ((((60 : Int32) * v4) + v5)) S) else (zf_X11_fold_300 N z k201 k210 k233 (v1) (v3) (v4) (v5) (v6) ((((60 : Int32) * v4) + v5)) S))))) else (zf_X11_fold_304 N z k201 k210 k233 (v1) (v3) (v4) (v5) (v6) ((((60 : Int32) * v4) + v5)) S)))) else (zf_X11_fold_300 N z k201 k210 k233 (v1) (v3) (v4) (v5) (v6) ((((60 : Int32) * v4) + v5)) S))))
def zf_X11_fold_233 (N : Nat) (z : Nat → Nat) (k201 : Int32 → Int32 → Int32 → mq_St → Option (Int32 × mq_St)) (k210 : Int32 → Int32 → Int32 → Int32 → mq_St → Option (Int32 × mq_St)) : Nat → Int32 → Int32 → Int32 → Int32 → Int32 → mq_St → Option (Int32 × mq_St)
  | 0, _, _, _, _, _, _ => none
  | n + 1, v1, v3, v4, v5, v6, S => zf_X11_fold_233b N z k201 k210 (fun v1 v3 v4 v5 v6 S => zf_X11_fold_233 N z k201 k210 n v1 v3 v4 v5 v6 S) v1 v3 v4 v5 v6 S
def zf_X11_fold_210b (N : Nat) (z : Nat → Nat) (k201 : Int32 → Int32 → Int32 → mq_St → Option (Int32 × mq_St)) (k210 : Int32 → Int32 → Int32 → Int32 → mq_St → Option (Int32 × mq_St)) (v1 : Int32) (v3 : Int32) (v4 : Int32) (v5 : Int32) (S : mq_St) : Option (Int32 × mq_St) := (if v3 ≤ v5 then (mq_nI (v4 + (1 : Int32)) (fun x55 => (k201 (v1) (v3) (x55) S))) else (mq_ck ((((60 : Int32) * v4) + v5)) 3600 (mq_nS (mq_sa S 43 (upd (S.2.1 43) ((((60 : Int32) * v4) + v5)).toNatClampNeg (vp_nar .boolean ((0 : Int32))))) (fun S57 => (mq_nI ((0 : Int32)) (fun x58 => (zf_X11_fold_233 N z k201 k210 N (v1) (v3) (v4) (v5) (x58) S57)))))))
def zf_X11_fold_210 (N : Nat) (z : Nat → Nat) (k201 : Int32 → Int32 → Int32 → mq_St → Option (Int32 × mq_St)) : Nat → Int32 → Int32 → Int32 → Int32 → mq_St → Option (Int32 × mq_St)
  | 0, _, _, _, _, _ => none
  | n + 1, v1, v3, v4, v5, S => zf_X11_fold_210b N z k201 (fun v1 v3 v4 v5 S => zf_X11_fold_210 N z k201 n v1 v3 v4 v5 S) v1 v3 v4 v5 S
def zf_X11_fold_201b (N : Nat) (z : Nat → Nat) (k201 : Int32 → Int32 → Int32 → mq_St → Option (Int32 × mq_St)) (v1 : Int32) (v3 : Int32) (v4 : Int32) (S : mq_St) : Option (Int32 × mq_St) := (if v3 ≤ v4 then (mq_cl (zf_X11_settle N z (v3) S) (fun q50v S52 => (some (v3, S52)))) else (mq_nI ((0 : Int32)) (fun x53 => (zf_X11_fold_210 N z k201 N (v1) (v3) (v4) (x53) S))))
def zf_X11_fold_201 (N : Nat) (z : Nat → Nat) : Nat → Int32 → Int32 → Int32 → mq_St → Option (Int32 × mq_St)
  | 0, _, _, _, _ => none
  | n + 1, v1, v3, v4, S => zf_X11_fold_201b N z (fun v1 v3 v4 S => zf_X11_fold_201 N z n v1 v3 v4 S) v1 v3 v4 S
def zf_X11_fold_163b (N : Nat) (z : Nat → Nat) (k163 : Int32 → Int32 → Int32 → mq_St → Option (Int32 × mq_St)) (v1 : Int32) (v3 : Int32) (v4 : Int32) (S : mq_St) : Option (Int32 × mq_St) := (if v1 ≤ v4 then (mq_nI ((0 : Int32)) (fun x42 => (zf_X11_fold_201 N z N (v1) (v3) (x42) S))) else (mq_ck (v4) 60 (if (S.2.1 39 (v4).toNatClampNeg) = v4 then (mq_ck (v3) 60 (mq_nS (mq_sa S 42 (upd (S.2.1 42) (v3).toNatClampNeg (v4))) (fun S45 => (mq_nI (v3 + (1 : Int32)) (fun x46 => (zf_X11_fold_192 N z k163 (v1) (x46) (v4) S45)))))) else (zf_X11_fold_192 N z k163 (v1) (v3) (v4) S))))
def zf_X11_fold_163 (N : Nat) (z : Nat → Nat) : Nat → Int32 → Int32 → Int32 → mq_St → Option (Int32 × mq_St)
  | 0, _, _, _, _ => none
  | n + 1, v1, v3, v4, S => zf_X11_fold_163b N z (fun v1 v3 v4 S => zf_X11_fold_163 N z n v1 v3 v4 S) v1 v3 v4 S
def zf_X11_fold_55b (N : Nat) (z : Nat → Nat) (k55 : Int32 → Int32 → mq_St → Option (Int32 × mq_St)) (v1 : Int32) (v2 : Int32) (S : mq_St) : Option (Int32 × mq_St) := (if v2 = (0 : Int32) then (mq_nI ((0 : Int32)) (fun x14 => (mq_nI ((0 : Int32)) (fun x15 => (zf_X11_fold_163 N z N (v1) (x14) (x15) S))))) else (mq_nI ((0 : Int32)) (fun x16 => (mq_cl (zf_X11_look N z S) (fun q17v S19 => (mq_nI ((0 : Int32)) (fun x20 => (zf_X11_fold_67 N z k55 N (v1) (x16) (x20) S19))))))))
def zf_X11_fold_55 (N : Nat) (z : Nat → Nat) : Nat → Int32 → Int32 → mq_St → Option (Int32 × mq_St)
  | 0, _, _, _ => none
  | n + 1, v1, v2, S => zf_X11_fold_55b N z (fun v1 v2 S => zf_X11_fold_55 N z n v1 v2 S) v1 v2 S
def zf_X11_fold_12b (N : Nat) (z : Nat → Nat) (k12 : Int32 → Int32 → mq_St → Option (Int32 × mq_St)) (v1 : Int32) (v2 : Int32) (S : mq_St) : Option (Int32 × mq_St) := (if v1 ≤ v2 then (mq_nI ((1 : Int32)) (fun x4 => (zf_X11_fold_55 N z N (v1) (x4) S))) else (mq_nI ((0 : Int32)) (fun x5 => (zf_X11_fold_19 N z k12 N (v1) (v2) (x5) S))))
def zf_X11_fold_12 (N : Nat) (z : Nat → Nat) : Nat → Int32 → Int32 → mq_St → Option (Int32 × mq_St)
  | 0, _, _, _ => none
  | n + 1, v1, v2, S => zf_X11_fold_12b N z (fun v1 v2 S => zf_X11_fold_12 N z n v1 v2 S) v1 v2 S
def zf_X11_fold (N : Nat) (z : Nat → Nat) (S : mq_St) : Option (Int32 × mq_St) := (mq_nS (mq_si S 0 ((0 : Int32))) (fun S1 => (mq_nI ((S1.1 31)) (fun x2 => (mq_nI ((0 : Int32)) (fun x3 => (zf_X11_fold_12 N z N (x2) (x3) S1)))))))
set_option maxHeartbeats 4000000 in
set_option maxRecDepth 100000 in
theorem zw_X11_fold_19b {p : Program} {l : Launch} {e : Env} {s : State} {m : MethodId} {args : Array Value} {below : List Frame} {meth : Method} {c : Code} {A : Nat → Prop} {D : va_G} {a z : Nat → Nat} {cI cL cB cZ : ClassId} {Q : State → Prop} {N : Nat} {res : Int32 × mq_St} {k12 : Int32 → Int32 → mq_St → Option (Int32 × mq_St)} {k19 : Int32 → Int32 → Int32 → mq_St → Option (Int32 × mq_St)} (C : mq_C p s m args c A D cI cL cB cZ cX11_fold 7 RX11 zc_X11_fold) (hret : ∀ (H : Heap) (locs : List Loc) (ls : Array Slot) (pc : Nat), decode cX11_fold pc = .ok (.ireturn, 1) → va_P D vwCl (wd_R a cI cL cB cZ z res.2) H → va_D A (wd_R a cI cL cB cZ z res.2) → va_S A s.heap H locs → W p l e zr_X11_fold s m args below meth c H locs 0 0 Q (F0 m pc ls [.int res.1])) (hk12 : ∀ (v1 : Int32) (v2 : Int32) (S : mq_St) (H : Heap) (locs : List Loc) (ls : Array Slot), k12 v1 v2 S = some res → lv_has ls 7 [(0, .ref (a 0)), (1, .int (v1)), (2, .int (v2))] → va_P D vwCl (wd_R a cI cL cB cZ z S) H → va_D A (wd_R a cI cL cB cZ z S) → va_S A s.heap H locs → W p l e zr_X11_fold s m args below meth c H locs 0 0 Q (F0 m 12 ls [])) (hk19 : ∀ (v1 : Int32) (v2 : Int32) (v3 : Int32) (S : mq_St) (H : Heap) (locs : List Loc) (ls : Array Slot), k19 v1 v2 v3 S = some res → lv_has ls 7 [(0, .ref (a 0)), (1, .int (v1)), (2, .int (v2)), (3, .int (v3))] → va_P D vwCl (wd_R a cI cL cB cZ z S) H → va_D A (wd_R a cI cL cB cZ z S) → va_S A s.heap H locs → W p l e zr_X11_fold s m args below meth c H locs 0 0 Q (F0 m 19 ls [])) (v1 : Int32) (v2 : Int32) (v3 : Int32) (S : mq_St) (H : Heap) (locs : List Loc) (ls : Array Slot) (h : zf_X11_fold_19b N z k12 k19 v1 v2 v3 S = some res) (hl : lv_has ls 7 [(0, .ref (a 0)), (1, .int (v1)), (2, .int (v2)), (3, .int (v3))]) (hP : va_P D vwCl (wd_R a cI cL cB cZ z S) H) (hD : va_D A (wd_R a cI cL cB cZ z S)) (hS : va_S A s.heap H locs) : W p l e zr_X11_fold s m args below meth c H locs 0 0 Q (F0 m 19 ls []) := by
  obtain ⟨hx, hb, hml, hown, hts, hK, hA⟩ := id C
  unfold zf_X11_fold_19b at h
  refine lv_aload_n hx hb dX11_fold_19 rfl (lv_at hl 0 rfl) ?_
  refine va_get (D := D) (ci := 11) (v := .ref (a 35)) (C := RX11) (T := TX11) (N := 76) hx hb hts (zi_X11 _) hown hK hP 0 rfl rfl 66 (by decide) (hts _ (List.mem_cons_of_mem _ zt_f_X11_121)) (fun _ h9 => h9) rfl dX11_fold_20 ?_
  refine lv_iload_n hx hb dX11_fold_23 rfl (lv_at hl 3 rfl) ?_
  have hi7 := mq_ck_in h
  replace h := mq_ck_go h
  refine va_iald (f := S.2.1 34) hx hb hK hP 35 0 rfl rfl hi7 dX11_fold_24 ?_
  refine lv_aload_n hx hb dX11_fold_25 rfl (lv_at hl 0 rfl) ?_
  refine va_get (D := D) (ci := 11) (v := .ref (a 35)) (C := RX11) (T := TX11) (N := 76) hx hb hts (zi_X11 _) hown hK hP 0 rfl rfl 66 (by decide) (hts _ (List.mem_cons_of_mem _ zt_f_X11_121)) (fun _ h9 => h9) rfl dX11_fold_26 ?_
  refine lv_iload_n hx hb dX11_fold_29 rfl (lv_at hl 2 rfl) ?_
  have hi8 := mq_ck_in h
  replace h := mq_ck_go h
  refine va_iald (f := S.2.1 34) hx hb hK hP 35 0 rfl rfl hi8 dX11_fold_30 ?_
  refine lv_icmp_eq (tgt := 40) hx hb dX11_fold_31 (by decide) (fun c13 => ?_) (fun c13 => ?_)
  · replace h := mq_it c13 h
    refine lv_aload_n hx hb dX11_fold_40 rfl (lv_at hl 0 rfl) ?_
    refine va_get (D := D) (ci := 11) (v := .ref (a 40)) (C := RX11) (T := TX11) (N := 76) hx hb hts (zi_X11 _) hown hK hP 0 rfl rfl 71 (by decide) (hts _ (List.mem_cons_of_mem _ zt_f_X11_136)) (fun _ h9 => h9) rfl dX11_fold_41 ?_
    refine lv_iload_n hx hb dX11_fold_44 rfl (lv_at hl 2 rfl) ?_
    refine lv_iload_n hx hb dX11_fold_45 rfl (lv_at hl 3 rfl) ?_
    have hi9 := mq_ck_in h
    replace h := mq_ck_go h
    refine mq_iast (w := wd_R a cI cL cB cZ z) (S := S) (f := S.2.1 39) hx hb hK hP hD hS 40 0 rfl rfl hi9 dX11_fold_46 39 (zs_wd_R_a_40_39 _ _ _ _ _ _ _ _) (fun S10 eS10 H locs hP hD hS => ?_)
    replace h := mq_nS_go eS10 h
    obtain ⟨x11, ex11⟩ : ∃ y : Int32, y = v2 + (1 : Int32) := ⟨_, rfl⟩
    replace h := mq_nI_go ex11 h
    refine lv_iinc (v := x11) (lv' := [(2, .int (x11)), (0, .ref (a 0)), (1, .int (v1)), (3, .int (v3))]) hx hb dX11_fold_47 hl (k := 2) rfl (by rw [ex11]; rfl) (by decide) rfl (fun ls hl => ?_)
    refine lv_goto (tgt := 12) hx hb dX11_fold_50 (by decide) ?_
    exact hk12 (v1) (x11) S10 H locs ls h (lv_sub hl [1, 2, 0] rfl) hP hD hS
  · replace h := mq_if c13 h
    obtain ⟨x12, ex12⟩ : ∃ y : Int32, y = v3 + (1 : Int32) := ⟨_, rfl⟩
    replace h := mq_nI_go ex12 h
    refine lv_iinc (v := x12) (lv' := [(3, .int (x12)), (0, .ref (a 0)), (1, .int (v1)), (2, .int (v2))]) hx hb dX11_fold_34 hl (k := 3) rfl (by rw [ex12]; rfl) (by decide) rfl (fun ls hl => ?_)
    refine lv_goto (tgt := 19) hx hb dX11_fold_37 (by decide) ?_
    exact hk19 (v1) (v2) (x12) S H locs ls h (lv_sub hl [1, 2, 3, 0] rfl) hP hD hS
set_option maxHeartbeats 4000000 in
set_option maxRecDepth 100000 in
theorem zw_X11_fold_19 {p : Program} {l : Launch} {e : Env} {s : State} {m : MethodId} {args : Array Value} {below : List Frame} {meth : Method} {c : Code} {A : Nat → Prop} {D : va_G} {a z : Nat → Nat} {cI cL cB cZ : ClassId} {Q : State → Prop} {N : Nat} {res : Int32 × mq_St} {k12 : Int32 → Int32 → mq_St → Option (Int32 × mq_St)} (C : mq_C p s m args c A D cI cL cB cZ cX11_fold 7 RX11 zc_X11_fold) (hret : ∀ (H : Heap) (locs : List Loc) (ls : Array Slot) (pc : Nat), decode cX11_fold pc = .ok (.ireturn, 1) → va_P D vwCl (wd_R a cI cL cB cZ z res.2) H → va_D A (wd_R a cI cL cB cZ z res.2) → va_S A s.heap H locs → W p l e zr_X11_fold s m args below meth c H locs 0 0 Q (F0 m pc ls [.int res.1])) (hk12 : ∀ (v1 : Int32) (v2 : Int32) (S : mq_St) (H : Heap) (locs : List Loc) (ls : Array Slot), k12 v1 v2 S = some res → lv_has ls 7 [(0, .ref (a 0)), (1, .int (v1)), (2, .int (v2))] → va_P D vwCl (wd_R a cI cL cB cZ z S) H → va_D A (wd_R a cI cL cB cZ z S) → va_S A s.heap H locs → W p l e zr_X11_fold s m args below meth c H locs 0 0 Q (F0 m 12 ls [])) : ∀ (n : Nat) (v1 : Int32) (v2 : Int32) (v3 : Int32) (S : mq_St) (H : Heap) (locs : List Loc) (ls : Array Slot) (h : zf_X11_fold_19 N z k12 n v1 v2 v3 S = some res) (hl : lv_has ls 7 [(0, .ref (a 0)), (1, .int (v1)), (2, .int (v2)), (3, .int (v3))]) (hP : va_P D vwCl (wd_R a cI cL cB cZ z S) H) (hD : va_D A (wd_R a cI cL cB cZ z S)) (hS : va_S A s.heap H locs), W p l e zr_X11_fold s m args below meth c H locs 0 0 Q (F0 m 19 ls []) := by
  intro n
  induction n with
  | zero =>
    intro v1 v2 v3 S H locs ls h hl hP hD hS
    exact nomatch (show (none : Option (Int32 × mq_St)) = some res from h)
  | succ n ih =>
    intro v1 v2 v3 S H locs ls h hl hP hD hS
    exact zw_X11_fold_19b C hret hk12 (fun v1 v2 v3 S H locs ls h hl hP hD hS => ih v1 v2 v3 S H locs ls h hl hP hD hS) v1 v2 v3 S H locs ls h hl hP hD hS
set_option maxHeartbeats 4000000 in
set_option maxRecDepth 100000 in
theorem zw_X11_fold_75b {p : Program} {l : Launch} {e : Env} {s : State} {m : MethodId} {args : Array Value} {below : List Frame} {meth : Method} {c : Code} {A : Nat → Prop} {D : va_G} {a z : Nat → Nat} {cI cL cB cZ : ClassId} {Q : State → Prop} {N : Nat} {res : Int32 × mq_St} {k55 : Int32 → Int32 → mq_St → Option (Int32 × mq_St)} {k67 : Int32 → Int32 → Int32 → mq_St → Option (Int32 × mq_St)} {k75 : Int32 → Int32 → Int32 → Int32 → mq_St → Option (Int32 × mq_St)} (C : mq_C p s m args c A D cI cL cB cZ cX11_fold 7 RX11 zc_X11_fold) (hret : ∀ (H : Heap) (locs : List Loc) (ls : Array Slot) (pc : Nat), decode cX11_fold pc = .ok (.ireturn, 1) → va_P D vwCl (wd_R a cI cL cB cZ z res.2) H → va_D A (wd_R a cI cL cB cZ z res.2) → va_S A s.heap H locs → W p l e zr_X11_fold s m args below meth c H locs 0 0 Q (F0 m pc ls [.int res.1])) (hk55 : ∀ (v1 : Int32) (v2 : Int32) (S : mq_St) (H : Heap) (locs : List Loc) (ls : Array Slot), k55 v1 v2 S = some res → lv_has ls 7 [(0, .ref (a 0)), (1, .int (v1)), (2, .int (v2))] → va_P D vwCl (wd_R a cI cL cB cZ z S) H → va_D A (wd_R a cI cL cB cZ z S) → va_S A s.heap H locs → W p l e zr_X11_fold s m args below meth c H locs 0 0 Q (F0 m 55 ls [])) (hk67 : ∀ (v1 : Int32) (v2 : Int32) (v3 : Int32) (S : mq_St) (H : Heap) (locs : List Loc) (ls : Array Slot), k67 v1 v2 v3 S = some res → lv_has ls 7 [(0, .ref (a 0)), (1, .int (v1)), (2, .int (v2)), (3, .int (v3))] → va_P D vwCl (wd_R a cI cL cB cZ z S) H → va_D A (wd_R a cI cL cB cZ z S) → va_S A s.heap H locs → W p l e zr_X11_fold s m args below meth c H locs 0 0 Q (F0 m 67 ls [])) (hk75 : ∀ (v1 : Int32) (v2 : Int32) (v3 : Int32) (v4 : Int32) (S : mq_St) (H : Heap) (locs : List Loc) (ls : Array Slot), k75 v1 v2 v3 v4 S = some res → lv_has ls 7 [(0, .ref (a 0)), (1, .int (v1)), (2, .int (v2)), (3, .int (v3)), (4, .int (v4))] → va_P D vwCl (wd_R a cI cL cB cZ z S) H → va_D A (wd_R a cI cL cB cZ z S) → va_S A s.heap H locs → W p l e zr_X11_fold s m args below meth c H locs 0 0 Q (F0 m 75 ls [])) (v1 : Int32) (v2 : Int32) (v3 : Int32) (v4 : Int32) (S : mq_St) (H : Heap) (locs : List Loc) (ls : Array Slot) (h : zf_X11_fold_75b N z k55 k67 k75 v1 v2 v3 v4 S = some res) (hl : lv_has ls 7 [(0, .ref (a 0)), (1, .int (v1)), (2, .int (v2)), (3, .int (v3)), (4, .int (v4))]) (hP : va_P D vwCl (wd_R a cI cL cB cZ z S) H) (hD : va_D A (wd_R a cI cL cB cZ z S)) (hS : va_S A s.heap H locs) : W p l e zr_X11_fold s m args below meth c H locs 0 0 Q (F0 m 75 ls []) := by
  obtain ⟨hx, hb, hml, hown, hts, hK, hA⟩ := id C
  unfold zf_X11_fold_75b at h
  refine lv_aload_n hx hb dX11_fold_75 rfl (lv_at hl 0 rfl) ?_
  refine lv_iload hx hb dX11_fold_76 (lv_at hl 4 rfl) ?_
  refine lv_iload_n hx hb dX11_fold_78 rfl (lv_at hl 3 rfl) ?_
  obtain ⟨q25, hc26, h⟩ := mq_cp_go h
  refine zk_X11_isAlike C zt_m_X11_399 ⟨by decide, by decide⟩ hc26 hP hD hS hl.1 (Nat.le_of_ble_eq_true rfl) dX11_fold_79 (fun H locs hP hD hS => ?_)
  refine lv_if_ne (tgt := 91) hx hb dX11_fold_82 (by decide) (fun c31 => ?_) (fun c31 => ?_)
  · replace h := mq_if c31 h
    refine lv_aload_n hx hb dX11_fold_91 rfl (lv_at hl 0 rfl) ?_
    refine va_get (D := D) (ci := 11) (v := .ref (a 41)) (C := RX11) (T := TX11) (N := 76) hx hb hts (zi_X11 _) hown hK hP 0 rfl rfl 72 (by decide) (hts _ (List.mem_cons_of_mem _ zt_f_X11_139)) (fun _ h9 => h9) rfl dX11_fold_92 ?_
    refine lv_iload_n hx hb dX11_fold_95 rfl (lv_at hl 3 rfl) ?_
    refine lv_iload hx hb dX11_fold_96 (lv_at hl 4 rfl) ?_
    have hi27 := mq_ck_in h
    replace h := mq_ck_go h
    refine mq_iast (w := wd_R a cI cL cB cZ z) (S := S) (f := S.2.1 40) hx hb hK hP hD hS 41 0 rfl rfl hi27 dX11_fold_98 40 (zs_wd_R_a_41_40 _ _ _ _ _ _ _ _) (fun S28 eS28 H locs hP hD hS => ?_)
    replace h := mq_nS_go eS28 h
    obtain ⟨x29, ex29⟩ : ∃ y : Int32, y = v3 + (1 : Int32) := ⟨_, rfl⟩
    replace h := mq_nI_go ex29 h
    refine lv_iinc (v := x29) (lv' := [(3, .int (x29)), (0, .ref (a 0)), (1, .int (v1)), (2, .int (v2)), (4, .int (v4))]) hx hb dX11_fold_99 hl (k := 3) rfl (by rw [ex29]; rfl) (by decide) rfl (fun ls hl => ?_)
    refine lv_goto (tgt := 67) hx hb dX11_fold_102 (by decide) ?_
    exact hk67 (v1) (v2) (x29) S28 H locs ls h (lv_sub hl [1, 2, 3, 0] rfl) hP hD hS
  · replace h := mq_it (by simpa using c31) h
    obtain ⟨x30, ex30⟩ : ∃ y : Int32, y = v4 + (1 : Int32) := ⟨_, rfl⟩
    replace h := mq_nI_go ex30 h
    refine lv_iinc (v := x30) (lv' := [(4, .int (x30)), (0, .ref (a 0)), (1, .int (v1)), (2, .int (v2)), (3, .int (v3))]) hx hb dX11_fold_85 hl (k := 4) rfl (by rw [ex30]; rfl) (by decide) rfl (fun ls hl => ?_)
    refine lv_goto (tgt := 75) hx hb dX11_fold_88 (by decide) ?_
    exact hk75 (v1) (v2) (v3) (x30) S H locs ls h (lv_sub hl [1, 2, 3, 4, 0] rfl) hP hD hS
set_option maxHeartbeats 4000000 in
set_option maxRecDepth 100000 in
theorem zw_X11_fold_75 {p : Program} {l : Launch} {e : Env} {s : State} {m : MethodId} {args : Array Value} {below : List Frame} {meth : Method} {c : Code} {A : Nat → Prop} {D : va_G} {a z : Nat → Nat} {cI cL cB cZ : ClassId} {Q : State → Prop} {N : Nat} {res : Int32 × mq_St} {k55 : Int32 → Int32 → mq_St → Option (Int32 × mq_St)} {k67 : Int32 → Int32 → Int32 → mq_St → Option (Int32 × mq_St)} (C : mq_C p s m args c A D cI cL cB cZ cX11_fold 7 RX11 zc_X11_fold) (hret : ∀ (H : Heap) (locs : List Loc) (ls : Array Slot) (pc : Nat), decode cX11_fold pc = .ok (.ireturn, 1) → va_P D vwCl (wd_R a cI cL cB cZ z res.2) H → va_D A (wd_R a cI cL cB cZ z res.2) → va_S A s.heap H locs → W p l e zr_X11_fold s m args below meth c H locs 0 0 Q (F0 m pc ls [.int res.1])) (hk55 : ∀ (v1 : Int32) (v2 : Int32) (S : mq_St) (H : Heap) (locs : List Loc) (ls : Array Slot), k55 v1 v2 S = some res → lv_has ls 7 [(0, .ref (a 0)), (1, .int (v1)), (2, .int (v2))] → va_P D vwCl (wd_R a cI cL cB cZ z S) H → va_D A (wd_R a cI cL cB cZ z S) → va_S A s.heap H locs → W p l e zr_X11_fold s m args below meth c H locs 0 0 Q (F0 m 55 ls [])) (hk67 : ∀ (v1 : Int32) (v2 : Int32) (v3 : Int32) (S : mq_St) (H : Heap) (locs : List Loc) (ls : Array Slot), k67 v1 v2 v3 S = some res → lv_has ls 7 [(0, .ref (a 0)), (1, .int (v1)), (2, .int (v2)), (3, .int (v3))] → va_P D vwCl (wd_R a cI cL cB cZ z S) H → va_D A (wd_R a cI cL cB cZ z S) → va_S A s.heap H locs → W p l e zr_X11_fold s m args below meth c H locs 0 0 Q (F0 m 67 ls [])) : ∀ (n : Nat) (v1 : Int32) (v2 : Int32) (v3 : Int32) (v4 : Int32) (S : mq_St) (H : Heap) (locs : List Loc) (ls : Array Slot) (h : zf_X11_fold_75 N z k55 k67 n v1 v2 v3 v4 S = some res) (hl : lv_has ls 7 [(0, .ref (a 0)), (1, .int (v1)), (2, .int (v2)), (3, .int (v3)), (4, .int (v4))]) (hP : va_P D vwCl (wd_R a cI cL cB cZ z S) H) (hD : va_D A (wd_R a cI cL cB cZ z S)) (hS : va_S A s.heap H locs), W p l e zr_X11_fold s m args below meth c H locs 0 0 Q (F0 m 75 ls []) := by
  intro n
  induction n with
  | zero =>
    intro v1 v2 v3 v4 S H locs ls h hl hP hD hS
    exact nomatch (show (none : Option (Int32 × mq_St)) = some res from h)
  | succ n ih =>
    intro v1 v2 v3 v4 S H locs ls h hl hP hD hS
    exact zw_X11_fold_75b C hret hk55 hk67 (fun v1 v2 v3 v4 S H locs ls h hl hP hD hS => ih v1 v2 v3 v4 S H locs ls h hl hP hD hS) v1 v2 v3 v4 S H locs ls h hl hP hD hS
set_option maxHeartbeats 4000000 in
set_option maxRecDepth 100000 in
theorem zw_X11_fold_136 {p : Program} {l : Launch} {e : Env} {s : State} {m : MethodId} {args : Array Value} {below : List Frame} {meth : Method} {c : Code} {A : Nat → Prop} {D : va_G} {a z : Nat → Nat} {cI cL cB cZ : ClassId} {Q : State → Prop} {N : Nat} {res : Int32 × mq_St} {k55 : Int32 → Int32 → mq_St → Option (Int32 × mq_St)} {k107 : Int32 → Int32 → Int32 → mq_St → Option (Int32 × mq_St)} (C : mq_C p s m args c A D cI cL cB cZ cX11_fold 7 RX11 zc_X11_fold) (hret : ∀ (H : Heap) (locs : List Loc) (ls : Array Slot) (pc : Nat), decode cX11_fold pc = .ok (.ireturn, 1) → va_P D vwCl (wd_R a cI cL cB cZ z res.2) H → va_D A (wd_R a cI cL cB cZ z res.2) → va_S A s.heap H locs → W p l e zr_X11_fold s m args below meth c H locs 0 0 Q (F0 m pc ls [.int res.1])) (hk55 : ∀ (v1 : Int32) (v2 : Int32) (S : mq_St) (H : Heap) (locs : List Loc) (ls : Array Slot), k55 v1 v2 S = some res → lv_has ls 7 [(0, .ref (a 0)), (1, .int (v1)), (2, .int (v2))] → va_P D vwCl (wd_R a cI cL cB cZ z S) H → va_D A (wd_R a cI cL cB cZ z S) → va_S A s.heap H locs → W p l e zr_X11_fold s m args below meth c H locs 0 0 Q (F0 m 55 ls [])) (hk107 : ∀ (v1 : Int32) (v2 : Int32) (v3 : Int32) (S : mq_St) (H : Heap) (locs : List Loc) (ls : Array Slot), k107 v1 v2 v3 S = some res → lv_has ls 7 [(0, .ref (a 0)), (1, .int (v1)), (2, .int (v2)), (3, .int (v3))] → va_P D vwCl (wd_R a cI cL cB cZ z S) H → va_D A (wd_R a cI cL cB cZ z S) → va_S A s.heap H locs → W p l e zr_X11_fold s m args below meth c H locs 0 0 Q (F0 m 107 ls [])) (v1 : Int32) (v3 : Int32) (t0 : Int32) (S : mq_St) (H : Heap) (locs : List Loc) (ls : Array Slot) (h : zf_X11_fold_136 N z k55 k107 v1 v3 t0 S = some res) (hl : lv_has ls 7 [(0, .ref (a 0)), (1, .int (v1)), (3, .int (v3))]) (hP : va_P D vwCl (wd_R a cI cL cB cZ z S) H) (hD : va_D A (wd_R a cI cL cB cZ z S)) (hS : va_S A s.heap H locs) : W p l e zr_X11_fold s m args below meth c H locs 0 0 Q (F0 m 136 ls [.int (t0)]) := by
  obtain ⟨hx, hb, hml, hown, hts, hK, hA⟩ := id C
  unfold zf_X11_fold_136 at h
  refine lv_topi (fun x37 ex37 => ?_)
  replace h := mq_nI_go ex37 h
  refine lv_istore_n (lv' := [(2, .int (x37)), (0, .ref (a 0)), (1, .int (v1)), (3, .int (v3))]) hx hb dX11_fold_136 rfl hl (by decide) rfl (fun ls hl => ?_)
  refine lv_aload_n hx hb dX11_fold_137 rfl (lv_at hl 1 rfl) ?_
  refine va_get (D := D) (ci := 11) (v := .ref (a 40)) (C := RX11) (T := TX11) (N := 76) hx hb hts (zi_X11 _) hown hK hP 0 rfl rfl 71 (by decide) (hts _ (List.mem_cons_of_mem _ zt_f_X11_136)) (fun _ h9 => h9) rfl dX11_fold_138 ?_
  refine lv_iload_n hx hb dX11_fold_141 rfl (lv_at hl 3 rfl) ?_
  refine lv_aload_n hx hb dX11_fold_142 rfl (lv_at hl 1 rfl) ?_
  refine va_get (D := D) (ci := 11) (v := .ref (a 41)) (C := RX11) (T := TX11) (N := 76) hx hb hts (zi_X11 _) hown hK hP 0 rfl rfl 72 (by decide) (hts _ (List.mem_cons_of_mem _ zt_f_X11_139)) (fun _ h9 => h9) rfl dX11_fold_143 ?_
  refine lv_iload_n hx hb dX11_fold_146 rfl (lv_at hl 3 rfl) ?_
  have hi38 := mq_ck_in h
  replace h := mq_ck_go h
  refine va_iald (f := S.2.1 40) hx hb hK hP 41 0 rfl rfl hi38 dX11_fold_147 ?_
  have hi39 := mq_ck_in h
  replace h := mq_ck_go h
  refine mq_iast (w := wd_R a cI cL cB cZ z) (S := S) (f := S.2.1 39) hx hb hK hP hD hS 40 0 rfl rfl hi39 dX11_fold_148 39 (zs_wd_R_a_40_39 _ _ _ _ _ _ _ _) (fun S40 eS40 H locs hP hD hS => ?_)
  replace h := mq_nS_go eS40 h
  obtain ⟨x41, ex41⟩ : ∃ y : Int32, y = v3 + (1 : Int32) := ⟨_, rfl⟩
  replace h := mq_nI_go ex41 h
  refine lv_iinc (v := x41) (lv' := [(3, .int (x41)), (2, .int (x37)), (0, .ref (a 0)), (1, .int (v1))]) hx hb dX11_fold_149 hl (k := 3) rfl (by rw [ex41]; rfl) (by decide) rfl (fun ls hl => ?_)
  refine lv_goto (tgt := 107) hx hb dX11_fold_152 (by decide) ?_
  exact hk107 (v1) (x37) (x41) S40 H locs ls h (lv_sub hl [2, 3, 1, 0] rfl) hP hD hS
set_option maxHeartbeats 4000000 in
set_option maxRecDepth 100000 in
theorem zw_X11_fold_131 {p : Program} {l : Launch} {e : Env} {s : State} {m : MethodId} {args : Array Value} {below : List Frame} {meth : Method} {c : Code} {A : Nat → Prop} {D : va_G} {a z : Nat → Nat} {cI cL cB cZ : ClassId} {Q : State → Prop} {N : Nat} {res : Int32 × mq_St} {k55 : Int32 → Int32 → mq_St → Option (Int32 × mq_St)} {k107 : Int32 → Int32 → Int32 → mq_St → Option (Int32 × mq_St)} (C : mq_C p s m args c A D cI cL cB cZ cX11_fold 7 RX11 zc_X11_fold) (hret : ∀ (H : Heap) (locs : List Loc) (ls : Array Slot) (pc : Nat), decode cX11_fold pc = .ok (.ireturn, 1) → va_P D vwCl (wd_R a cI cL cB cZ z res.2) H → va_D A (wd_R a cI cL cB cZ z res.2) → va_S A s.heap H locs → W p l e zr_X11_fold s m args below meth c H locs 0 0 Q (F0 m pc ls [.int res.1])) (hk55 : ∀ (v1 : Int32) (v2 : Int32) (S : mq_St) (H : Heap) (locs : List Loc) (ls : Array Slot), k55 v1 v2 S = some res → lv_has ls 7 [(0, .ref (a 0)), (1, .int (v1)), (2, .int (v2))] → va_P D vwCl (wd_R a cI cL cB cZ z S) H → va_D A (wd_R a cI cL cB cZ z S) → va_S A s.heap H locs → W p l e zr_X11_fold s m args below meth c H locs 0 0 Q (F0 m 55 ls [])) (hk107 : ∀ (v1 : Int32) (v2 : Int32) (v3 : Int32) (S : mq_St) (H : Heap) (locs : List Loc) (ls : Array Slot), k107 v1 v2 v3 S = some res → lv_has ls 7 [(0, .ref (a 0)), (1, .int (v1)), (2, .int (v2)), (3, .int (v3))] → va_P D vwCl (wd_R a cI cL cB cZ z S) H → va_D A (wd_R a cI cL cB cZ z S) → va_S A s.heap H locs → W p l e zr_X11_fold s m args below meth c H locs 0 0 Q (F0 m 107 ls [])) (v1 : Int32) (v3 : Int32) (S : mq_St) (H : Heap) (locs : List Loc) (ls : Array Slot) (h : zf_X11_fold_131 N z k55 k107 v1 v3 S = some res) (hl : lv_has ls 7 [(0, .ref (a 0)), (1, .int (v1)), (3, .int (v3))]) (hP : va_P D vwCl (wd_R a cI cL cB cZ z S) H) (hD : va_D A (wd_R a cI cL cB cZ z S)) (hS : va_S A s.heap H locs) : W p l e zr_X11_fold s m args below meth c H locs 0 0 Q (F0 m 131 ls []) := by
  obtain ⟨hx, hb, hml, hown, hts, hK, hA⟩ := id C
  unfold zf_X11_fold_131 at h
  refine lv_iconst (v := (1 : Int32)) hx hb dX11_fold_131 (by decide) ?_
  refine lv_goto (tgt := 136) hx hb dX11_fold_132 (by decide) ?_
  exact zw_X11_fold_136 C hret hk55 hk107 (v1) (v3) ((1 : Int32)) S H locs ls h (lv_sub hl [0, 1, 2] rfl) hP hD hS
set_option maxHeartbeats 4000000 in
set_option maxRecDepth 100000 in
theorem zw_X11_fold_107b {p : Program} {l : Launch} {e : Env} {s : State} {m : MethodId} {args : Array Value} {below : List Frame} {meth : Method} {c : Code} {A : Nat → Prop} {D : va_G} {a z : Nat → Nat} {cI cL cB cZ : ClassId} {Q : State → Prop} {N : Nat} {res : Int32 × mq_St} {k55 : Int32 → Int32 → mq_St → Option (Int32 × mq_St)} {k107 : Int32 → Int32 → Int32 → mq_St → Option (Int32 × mq_St)} (C : mq_C p s m args c A D cI cL cB cZ cX11_fold 7 RX11 zc_X11_fold) (hret : ∀ (H : Heap) (locs : List Loc) (ls : Array Slot) (pc : Nat), decode cX11_fold pc = .ok (.ireturn, 1) → va_P D vwCl (wd_R a cI cL cB cZ z res.2) H → va_D A (wd_R a cI cL cB cZ z res.2) → va_S A s.heap H locs → W p l e zr_X11_fold s m args below meth c H locs 0 0 Q (F0 m pc ls [.int res.1])) (hk55 : ∀ (v1 : Int32) (v2 : Int32) (S : mq_St) (H : Heap) (locs : List Loc) (ls : Array Slot), k55 v1 v2 S = some res → lv_has ls 7 [(0, .ref (a 0)), (1, .int (v1)), (2, .int (v2))] → va_P D vwCl (wd_R a cI cL cB cZ z S) H → va_D A (wd_R a cI cL cB cZ z S) → va_S A s.heap H locs → W p l e zr_X11_fold s m args below meth c H locs 0 0 Q (F0 m 55 ls [])) (hk107 : ∀ (v1 : Int32) (v2 : Int32) (v3 : Int32) (S : mq_St) (H : Heap) (locs : List Loc) (ls : Array Slot), k107 v1 v2 v3 S = some res → lv_has ls 7 [(0, .ref (a 0)), (1, .int (v1)), (2, .int (v2)), (3, .int (v3))] → va_P D vwCl (wd_R a cI cL cB cZ z S) H → va_D A (wd_R a cI cL cB cZ z S) → va_S A s.heap H locs → W p l e zr_X11_fold s m args below meth c H locs 0 0 Q (F0 m 107 ls [])) (v1 : Int32) (v2 : Int32) (v3 : Int32) (S : mq_St) (H : Heap) (locs : List Loc) (ls : Array Slot) (h : zf_X11_fold_107b N z k55 k107 v1 v2 v3 S = some res) (hl : lv_has ls 7 [(0, .ref (a 0)), (1, .int (v1)), (2, .int (v2)), (3, .int (v3))]) (hP : va_P D vwCl (wd_R a cI cL cB cZ z S) H) (hD : va_D A (wd_R a cI cL cB cZ z S)) (hS : va_S A s.heap H locs) : W p l e zr_X11_fold s m args below meth c H locs 0 0 Q (F0 m 107 ls []) := by
  obtain ⟨hx, hb, hml, hown, hts, hK, hA⟩ := id C
  unfold zf_X11_fold_107b at h
  refine lv_iload_n hx hb dX11_fold_107 rfl (lv_at hl 3 rfl) ?_
  refine lv_iload_n hx hb dX11_fold_108 rfl (lv_at hl 1 rfl) ?_
  refine lv_icmp_ge (tgt := 155) hx hb dX11_fold_109 (by decide) (fun c36 => ?_) (fun c36 => ?_)
  · replace h := mq_it c36 h
    refine lv_goto (tgt := 55) hx hb dX11_fold_155 (by decide) ?_
    exact hk55 (v1) (v2) S H locs ls h (lv_sub hl [0, 1, 2] rfl) hP hD hS
  · replace h := mq_if c36 h
    refine lv_iload_n hx hb dX11_fold_112 rfl (lv_at hl 2 rfl) ?_
    refine lv_if_ne (tgt := 131) hx hb dX11_fold_113 (by decide) (fun c35 => ?_) (fun c35 => ?_)
    · replace h := mq_if c35 h
      exact zw_X11_fold_131 C hret hk55 hk107 (v1) (v3) S H locs ls h (lv_sub hl [0, 1, 3] rfl) hP hD hS
    · replace h := mq_it (by simpa using c35) h
      refine lv_aload_n hx hb dX11_fold_116 rfl (lv_at hl 0 rfl) ?_
      refine va_get (D := D) (ci := 11) (v := .ref (a 41)) (C := RX11) (T := TX11) (N := 76) hx hb hts (zi_X11 _) hown hK hP 0 rfl rfl 72 (by decide) (hts _ (List.mem_cons_of_mem _ zt_f_X11_139)) (fun _ h9 => h9) rfl dX11_fold_117 ?_
      refine lv_iload_n hx hb dX11_fold_120 rfl (lv_at hl 3 rfl) ?_
      have hi32 := mq_ck_in h
      replace h := mq_ck_go h
      refine va_iald (f := S.2.1 40) hx hb hK hP 41 0 rfl rfl hi32 dX11_fold_121 ?_
      refine lv_aload_n hx hb dX11_fold_122 rfl (lv_at hl 0 rfl) ?_
      refine va_get (D := D) (ci := 11) (v := .ref (a 40)) (C := RX11) (T := TX11) (N := 76) hx hb hts (zi_X11 _) hown hK hP 0 rfl rfl 71 (by decide) (hts _ (List.mem_cons_of_mem _ zt_f_X11_136)) (fun _ h9 => h9) rfl dX11_fold_123 ?_
      refine lv_iload_n hx hb dX11_fold_126 rfl (lv_at hl 3 rfl) ?_
      have hi33 := mq_ck_in h
      replace h := mq_ck_go h
      refine va_iald (f := S.2.1 39) hx hb hK hP 40 0 rfl rfl hi33 dX11_fold_127 ?_
      refine lv_icmp_eq (tgt := 135) hx hb dX11_fold_128 (by decide) (fun c34 => ?_) (fun c34 => ?_)
      · replace h := mq_it c34 h
        refine lv_iconst (v := (0 : Int32)) hx hb dX11_fold_135 (by decide) ?_
        exact zw_X11_fold_136 C hret hk55 hk107 (v1) (v3) ((0 : Int32)) S H locs ls h (lv_sub hl [0, 1, 3] rfl) hP hD hS
      · replace h := mq_if c34 h
        exact zw_X11_fold_131 C hret hk55 hk107 (v1) (v3) S H locs ls h (lv_sub hl [0, 1, 3] rfl) hP hD hS
set_option maxHeartbeats 4000000 in
set_option maxRecDepth 100000 in
theorem zw_X11_fold_107 {p : Program} {l : Launch} {e : Env} {s : State} {m : MethodId} {args : Array Value} {below : List Frame} {meth : Method} {c : Code} {A : Nat → Prop} {D : va_G} {a z : Nat → Nat} {cI cL cB cZ : ClassId} {Q : State → Prop} {N : Nat} {res : Int32 × mq_St} {k55 : Int32 → Int32 → mq_St → Option (Int32 × mq_St)} (C : mq_C p s m args c A D cI cL cB cZ cX11_fold 7 RX11 zc_X11_fold) (hret : ∀ (H : Heap) (locs : List Loc) (ls : Array Slot) (pc : Nat), decode cX11_fold pc = .ok (.ireturn, 1) → va_P D vwCl (wd_R a cI cL cB cZ z res.2) H → va_D A (wd_R a cI cL cB cZ z res.2) → va_S A s.heap H locs → W p l e zr_X11_fold s m args below meth c H locs 0 0 Q (F0 m pc ls [.int res.1])) (hk55 : ∀ (v1 : Int32) (v2 : Int32) (S : mq_St) (H : Heap) (locs : List Loc) (ls : Array Slot), k55 v1 v2 S = some res → lv_has ls 7 [(0, .ref (a 0)), (1, .int (v1)), (2, .int (v2))] → va_P D vwCl (wd_R a cI cL cB cZ z S) H → va_D A (wd_R a cI cL cB cZ z S) → va_S A s.heap H locs → W p l e zr_X11_fold s m args below meth c H locs 0 0 Q (F0 m 55 ls [])) : ∀ (n : Nat) (v1 : Int32) (v2 : Int32) (v3 : Int32) (S : mq_St) (H : Heap) (locs : List Loc) (ls : Array Slot) (h : zf_X11_fold_107 N z k55 n v1 v2 v3 S = some res) (hl : lv_has ls 7 [(0, .ref (a 0)), (1, .int (v1)), (2, .int (v2)), (3, .int (v3))]) (hP : va_P D vwCl (wd_R a cI cL cB cZ z S) H) (hD : va_D A (wd_R a cI cL cB cZ z S)) (hS : va_S A s.heap H locs), W p l e zr_X11_fold s m args below meth c H locs 0 0 Q (F0 m 107 ls []) := by
  intro n
  induction n with
  | zero =>
    intro v1 v2 v3 S H locs ls h hl hP hD hS
    exact nomatch (show (none : Option (Int32 × mq_St)) = some res from h)
  | succ n ih =>
    intro v1 v2 v3 S H locs ls h hl hP hD hS
    exact zw_X11_fold_107b C hret hk55 (fun v1 v2 v3 S H locs ls h hl hP hD hS => ih v1 v2 v3 S H locs ls h hl hP hD hS) v1 v2 v3 S H locs ls h hl hP hD hS
set_option maxHeartbeats 4000000 in
set_option maxRecDepth 100000 in
theorem zw_X11_fold_67b {p : Program} {l : Launch} {e : Env} {s : State} {m : MethodId} {args : Array Value} {below : List Frame} {meth : Method} {c : Code} {A : Nat → Prop} {D : va_G} {a z : Nat → Nat} {cI cL cB cZ : ClassId} {Q : State → Prop} {N : Nat} {res : Int32 × mq_St} {k55 : Int32 → Int32 → mq_St → Option (Int32 × mq_St)} {k67 : Int32 → Int32 → Int32 → mq_St → Option (Int32 × mq_St)} (C : mq_C p s m args c A D cI cL cB cZ cX11_fold 7 RX11 zc_X11_fold) (hret : ∀ (H : Heap) (locs : List Loc) (ls : Array Slot) (pc : Nat), decode cX11_fold pc = .ok (.ireturn, 1) → va_P D vwCl (wd_R a cI cL cB cZ z res.2) H → va_D A (wd_R a cI cL cB cZ z res.2) → va_S A s.heap H locs → W p l e zr_X11_fold s m args below meth c H locs 0 0 Q (F0 m pc ls [.int res.1])) (hk55 : ∀ (v1 : Int32) (v2 : Int32) (S : mq_St) (H : Heap) (locs : List Loc) (ls : Array Slot), k55 v1 v2 S = some res → lv_has ls 7 [(0, .ref (a 0)), (1, .int (v1)), (2, .int (v2))] → va_P D vwCl (wd_R a cI cL cB cZ z S) H → va_D A (wd_R a cI cL cB cZ z S) → va_S A s.heap H locs → W p l e zr_X11_fold s m args below meth c H locs 0 0 Q (F0 m 55 ls [])) (hk67 : ∀ (v1 : Int32) (v2 : Int32) (v3 : Int32) (S : mq_St) (H : Heap) (locs : List Loc) (ls : Array Slot), k67 v1 v2 v3 S = some res → lv_has ls 7 [(0, .ref (a 0)), (1, .int (v1)), (2, .int (v2)), (3, .int (v3))] → va_P D vwCl (wd_R a cI cL cB cZ z S) H → va_D A (wd_R a cI cL cB cZ z S) → va_S A s.heap H locs → W p l e zr_X11_fold s m args below meth c H locs 0 0 Q (F0 m 67 ls [])) (v1 : Int32) (v2 : Int32) (v3 : Int32) (S : mq_St) (H : Heap) (locs : List Loc) (ls : Array Slot) (h : zf_X11_fold_67b N z k55 k67 v1 v2 v3 S = some res) (hl : lv_has ls 7 [(0, .ref (a 0)), (1, .int (v1)), (2, .int (v2)), (3, .int (v3))]) (hP : va_P D vwCl (wd_R a cI cL cB cZ z S) H) (hD : va_D A (wd_R a cI cL cB cZ z S)) (hS : va_S A s.heap H locs) : W p l e zr_X11_fold s m args below meth c H locs 0 0 Q (F0 m 67 ls []) := by
  obtain ⟨hx, hb, hml, hown, hts, hK, hA⟩ := id C
  unfold zf_X11_fold_67b at h
  refine lv_iload_n hx hb dX11_fold_67 rfl (lv_at hl 3 rfl) ?_
  refine lv_iload_n hx hb dX11_fold_68 rfl (lv_at hl 1 rfl) ?_
  refine lv_icmp_ge (tgt := 105) hx hb dX11_fold_69 (by decide) (fun c24 => ?_) (fun c24 => ?_)
  · replace h := mq_it c24 h
    refine lv_iconst (v := (0 : Int32)) hx hb dX11_fold_105 (by decide) ?_
    refine lv_topi (fun x22 ex22 => ?_)
    replace h := mq_nI_go ex22 h
    refine lv_istore_n (lv' := [(3, .int (x22)), (0, .ref (a 0)), (1, .int (v1)), (2, .int (v2))]) hx hb dX11_fold_106 rfl hl (by decide) rfl (fun ls hl => ?_)
    exact zw_X11_fold_107 C hret hk55 N (v1) (v2) (x22) S H locs ls h (lv_sub hl [1, 2, 3, 0] rfl) hP hD hS
  · replace h := mq_if c24 h
    refine lv_iconst (v := (0 : Int32)) hx hb dX11_fold_72 (by decide) ?_
    refine lv_topi (fun x23 ex23 => ?_)
    replace h := mq_nI_go ex23 h
    refine lv_istore (lv' := [(4, .int (x23)), (0, .ref (a 0)), (1, .int (v1)), (2, .int (v2)), (3, .int (v3))]) hx hb dX11_fold_73 hl (by decide) rfl (fun ls hl => ?_)
    exact zw_X11_fold_75 C hret hk55 hk67 N (v1) (v2) (v3) (x23) S H locs ls h (lv_sub hl [1, 2, 3, 4, 0] rfl) hP hD hS
set_option maxHeartbeats 4000000 in
set_option maxRecDepth 100000 in
theorem zw_X11_fold_67 {p : Program} {l : Launch} {e : Env} {s : State} {m : MethodId} {args : Array Value} {below : List Frame} {meth : Method} {c : Code} {A : Nat → Prop} {D : va_G} {a z : Nat → Nat} {cI cL cB cZ : ClassId} {Q : State → Prop} {N : Nat} {res : Int32 × mq_St} {k55 : Int32 → Int32 → mq_St → Option (Int32 × mq_St)} (C : mq_C p s m args c A D cI cL cB cZ cX11_fold 7 RX11 zc_X11_fold) (hret : ∀ (H : Heap) (locs : List Loc) (ls : Array Slot) (pc : Nat), decode cX11_fold pc = .ok (.ireturn, 1) → va_P D vwCl (wd_R a cI cL cB cZ z res.2) H → va_D A (wd_R a cI cL cB cZ z res.2) → va_S A s.heap H locs → W p l e zr_X11_fold s m args below meth c H locs 0 0 Q (F0 m pc ls [.int res.1])) (hk55 : ∀ (v1 : Int32) (v2 : Int32) (S : mq_St) (H : Heap) (locs : List Loc) (ls : Array Slot), k55 v1 v2 S = some res → lv_has ls 7 [(0, .ref (a 0)), (1, .int (v1)), (2, .int (v2))] → va_P D vwCl (wd_R a cI cL cB cZ z S) H → va_D A (wd_R a cI cL cB cZ z S) → va_S A s.heap H locs → W p l e zr_X11_fold s m args below meth c H locs 0 0 Q (F0 m 55 ls [])) : ∀ (n : Nat) (v1 : Int32) (v2 : Int32) (v3 : Int32) (S : mq_St) (H : Heap) (locs : List Loc) (ls : Array Slot) (h : zf_X11_fold_67 N z k55 n v1 v2 v3 S = some res) (hl : lv_has ls 7 [(0, .ref (a 0)), (1, .int (v1)), (2, .int (v2)), (3, .int (v3))]) (hP : va_P D vwCl (wd_R a cI cL cB cZ z S) H) (hD : va_D A (wd_R a cI cL cB cZ z S)) (hS : va_S A s.heap H locs), W p l e zr_X11_fold s m args below meth c H locs 0 0 Q (F0 m 67 ls []) := by
  intro n
  induction n with
  | zero =>
    intro v1 v2 v3 S H locs ls h hl hP hD hS
    exact nomatch (show (none : Option (Int32 × mq_St)) = some res from h)
  | succ n ih =>
    intro v1 v2 v3 S H locs ls h hl hP hD hS
    exact zw_X11_fold_67b C hret hk55 (fun v1 v2 v3 S H locs ls h hl hP hD hS => ih v1 v2 v3 S H locs ls h hl hP hD hS) v1 v2 v3 S H locs ls h hl hP hD hS
set_option maxHeartbeats 4000000 in
set_option maxRecDepth 100000 in
theorem zw_X11_fold_192 {p : Program} {l : Launch} {e : Env} {s : State} {m : MethodId} {args : Array Value} {below : List Frame} {meth : Method} {c : Code} {A : Nat → Prop} {D : va_G} {a z : Nat → Nat} {cI cL cB cZ : ClassId} {Q : State → Prop} {N : Nat} {res : Int32 × mq_St} {k163 : Int32 → Int32 → Int32 → mq_St → Option (Int32 × mq_St)} (C : mq_C p s m args c A D cI cL cB cZ cX11_fold 7 RX11 zc_X11_fold) (hret : ∀ (H : Heap) (locs : List Loc) (ls : Array Slot) (pc : Nat), decode cX11_fold pc = .ok (.ireturn, 1) → va_P D vwCl (wd_R a cI cL cB cZ z res.2) H → va_D A (wd_R a cI cL cB cZ z res.2) → va_S A s.heap H locs → W p l e zr_X11_fold s m args below meth c H locs 0 0 Q (F0 m pc ls [.int res.1])) (hk163 : ∀ (v1 : Int32) (v3 : Int32) (v4 : Int32) (S : mq_St) (H : Heap) (locs : List Loc) (ls : Array Slot), k163 v1 v3 v4 S = some res → lv_has ls 7 [(0, .ref (a 0)), (1, .int (v1)), (3, .int (v3)), (4, .int (v4))] → va_P D vwCl (wd_R a cI cL cB cZ z S) H → va_D A (wd_R a cI cL cB cZ z S) → va_S A s.heap H locs → W p l e zr_X11_fold s m args below meth c H locs 0 0 Q (F0 m 163 ls [])) (v1 : Int32) (v3 : Int32) (v4 : Int32) (S : mq_St) (H : Heap) (locs : List Loc) (ls : Array Slot) (h : zf_X11_fold_192 N z k163 v1 v3 v4 S = some res) (hl : lv_has ls 7 [(0, .ref (a 0)), (1, .int (v1)), (3, .int (v3)), (4, .int (v4))]) (hP : va_P D vwCl (wd_R a cI cL cB cZ z S) H) (hD : va_D A (wd_R a cI cL cB cZ z S)) (hS : va_S A s.heap H locs) : W p l e zr_X11_fold s m args below meth c H locs 0 0 Q (F0 m 192 ls []) := by
  obtain ⟨hx, hb, hml, hown, hts, hK, hA⟩ := id C
  unfold zf_X11_fold_192 at h
  obtain ⟨x49, ex49⟩ : ∃ y : Int32, y = v4 + (1 : Int32) := ⟨_, rfl⟩
  replace h := mq_nI_go ex49 h
  refine lv_iinc (v := x49) (lv' := [(4, .int (x49)), (0, .ref (a 0)), (1, .int (v1)), (3, .int (v3))]) hx hb dX11_fold_192 hl (k := 3) rfl (by rw [ex49]; rfl) (by decide) rfl (fun ls hl => ?_)
  refine lv_goto (tgt := 163) hx hb dX11_fold_195 (by decide) ?_
  exact hk163 (v1) (v3) (x49) S H locs ls h (lv_sub hl [1, 2, 3, 0] rfl) hP hD hS
set_option maxHeartbeats 4000000 in
set_option maxRecDepth 100000 in
theorem zw_X11_fold_305 {p : Program} {l : Launch} {e : Env} {s : State} {m : MethodId} {args : Array Value} {below : List Frame} {meth : Method} {c : Code} {A : Nat → Prop} {D : va_G} {a z : Nat → Nat} {cI cL cB cZ : ClassId} {Q : State → Prop} {N : Nat} {res : Int32 × mq_St} {k201 : Int32 → Int32 → Int32 → mq_St → Option (Int32 × mq_St)} {k210 : Int32 → Int32 → Int32 → Int32 → mq_St → Option (Int32 × mq_St)} {k233 : Int32 → Int32 → Int32 → Int32 → Int32 → mq_St → Option (Int32 × mq_St)} (C : mq_C p s m args c A D cI cL cB cZ cX11_fold 7 RX11 zc_X11_fold) (hret : ∀ (H : Heap) (locs : List Loc) (ls : Array Slot) (pc : Nat), decode cX11_fold pc = .ok (.ireturn, 1) → va_P D vwCl (wd_R a cI cL cB cZ z res.2) H → va_D A (wd_R a cI cL cB cZ z res.2) → va_S A s.heap H locs → W p l e zr_X11_fold s m args below meth c H locs 0 0 Q (F0 m pc ls [.int res.1])) (hk201 : ∀ (v1 : Int32) (v3 : Int32) (v4 : Int32) (S : mq_St) (H : Heap) (locs : List Loc) (ls : Array Slot), k201 v1 v3 v4 S = some res → lv_has ls 7 [(0, .ref (a 0)), (1, .int (v1)), (3, .int (v3)), (4, .int (v4))] → va_P D vwCl (wd_R a cI cL cB cZ z S) H → va_D A (wd_R a cI cL cB cZ z S) → va_S A s.heap H locs → W p l e zr_X11_fold s m args below meth c H locs 0 0 Q (F0 m 201 ls [])) (hk210 : ∀ (v1 : Int32) (v3 : Int32) (v4 : Int32) (v5 : Int32) (S : mq_St) (H : Heap) (locs : List Loc) (ls : Array Slot), k210 v1 v3 v4 v5 S = some res → lv_has ls 7 [(0, .ref (a 0)), (1, .int (v1)), (3, .int (v3)), (4, .int (v4)), (5, .int (v5))] → va_P D vwCl (wd_R a cI cL cB cZ z S) H → va_D A (wd_R a cI cL cB cZ z S) → va_S A s.heap H locs → W p l e zr_X11_fold s m args below meth c H locs 0 0 Q (F0 m 210 ls [])) (hk233 : ∀ (v1 : Int32) (v3 : Int32) (v4 : Int32) (v5 : Int32) (v6 : Int32) (S : mq_St) (H : Heap) (locs : List Loc) (ls : Array Slot), k233 v1 v3 v4 v5 v6 S = some res → lv_has ls 7 [(0, .ref (a 0)), (1, .int (v1)), (3, .int (v3)), (4, .int (v4)), (5, .int (v5)), (6, .int (v6))] → va_P D vwCl (wd_R a cI cL cB cZ z S) H → va_D A (wd_R a cI cL cB cZ z S) → va_S A s.heap H locs → W p l e zr_X11_fold s m args below meth c H locs 0 0 Q (F0 m 233 ls [])) (v1 : Int32) (v3 : Int32) (v4 : Int32) (v5 : Int32) (v6 : Int32) (t1 : Int32) (t2 : Int32) (S : mq_St) (H : Heap) (locs : List Loc) (ls : Array Slot) (h : zf_X11_fold_305 N z k201 k210 k233 v1 v3 v4 v5 v6 t1 t2 S = some res) (hl : lv_has ls 7 [(0, .ref (a 0)), (1, .int (v1)), (3, .int (v3)), (4, .int (v4)), (5, .int (v5)), (6, .int (v6))]) (hP : va_P D vwCl (wd_R a cI cL cB cZ z S) H) (hD : va_D A (wd_R a cI cL cB cZ z S)) (hS : va_S A s.heap H locs) : W p l e zr_X11_fold s m args below meth c H locs 0 0 Q (F0 m 305 ls [.int (t2), .int (t1), .ref (a 44)]) := by
  obtain ⟨hx, hb, hml, hown, hts, hK, hA⟩ := id C
  unfold zf_X11_fold_305 at h
  have hi71 := mq_ck_in h
  replace h := mq_ck_go h
  refine mq_zast (w := wd_R a cI cL cB cZ z) (S := S) (f := S.2.1 43) hx hb hK hP hD hS 44 3 rfl rfl hi71 dX11_fold_305 43 (zs_wd_R_a_44_43 _ _ _ _ _ _ _ _) (fun S72 eS72 H locs hP hD hS => ?_)
  replace h := mq_nS_go eS72 h
  obtain ⟨x73, ex73⟩ : ∃ y : Int32, y = v6 + (1 : Int32) := ⟨_, rfl⟩
  replace h := mq_nI_go ex73 h
  refine lv_iinc (v := x73) (lv' := [(6, .int (x73)), (0, .ref (a 0)), (1, .int (v1)), (3, .int (v3)), (4, .int (v4)), (5, .int (v5))]) hx hb dX11_fold_306 hl (k := 5) rfl (by rw [ex73]; rfl) (by decide) rfl (fun ls hl => ?_)
  refine lv_goto (tgt := 233) hx hb dX11_fold_309 (by decide) ?_
  exact hk233 (v1) (v3) (v4) (v5) (x73) S72 H locs ls h (lv_sub hl [1, 2, 3, 4, 5, 0] rfl) hP hD hS
set_option maxHeartbeats 4000000 in
set_option maxRecDepth 100000 in
theorem zw_X11_fold_300 {p : Program} {l : Launch} {e : Env} {s : State} {m : MethodId} {args : Array Value} {below : List Frame} {meth : Method} {c : Code} {A : Nat → Prop} {D : va_G} {a z : Nat → Nat} {cI cL cB cZ : ClassId} {Q : State → Prop} {N : Nat} {res : Int32 × mq_St} {k201 : Int32 → Int32 → Int32 → mq_St → Option (Int32 × mq_St)} {k210 : Int32 → Int32 → Int32 → Int32 → mq_St → Option (Int32 × mq_St)} {k233 : Int32 → Int32 → Int32 → Int32 → Int32 → mq_St → Option (Int32 × mq_St)} (C : mq_C p s m args c A D cI cL cB cZ cX11_fold 7 RX11 zc_X11_fold) (hret : ∀ (H : Heap) (locs : List Loc) (ls : Array Slot) (pc : Nat), decode cX11_fold pc = .ok (.ireturn, 1) → va_P D vwCl (wd_R a cI cL cB cZ z res.2) H → va_D A (wd_R a cI cL cB cZ z res.2) → va_S A s.heap H locs → W p l e zr_X11_fold s m args below meth c H locs 0 0 Q (F0 m pc ls [.int res.1])) (hk201 : ∀ (v1 : Int32) (v3 : Int32) (v4 : Int32) (S : mq_St) (H : Heap) (locs : List Loc) (ls : Array Slot), k201 v1 v3 v4 S = some res → lv_has ls 7 [(0, .ref (a 0)), (1, .int (v1)), (3, .int (v3)), (4, .int (v4))] → va_P D vwCl (wd_R a cI cL cB cZ z S) H → va_D A (wd_R a cI cL cB cZ z S) → va_S A s.heap H locs → W p l e zr_X11_fold s m args below meth c H locs 0 0 Q (F0 m 201 ls [])) (hk210 : ∀ (v1 : Int32) (v3 : Int32) (v4 : Int32) (v5 : Int32) (S : mq_St) (H : Heap) (locs : List Loc) (ls : Array Slot), k210 v1 v3 v4 v5 S = some res → lv_has ls 7 [(0, .ref (a 0)), (1, .int (v1)), (3, .int (v3)), (4, .int (v4)), (5, .int (v5))] → va_P D vwCl (wd_R a cI cL cB cZ z S) H → va_D A (wd_R a cI cL cB cZ z S) → va_S A s.heap H locs → W p l e zr_X11_fold s m args below meth c H locs 0 0 Q (F0 m 210 ls [])) (hk233 : ∀ (v1 : Int32) (v3 : Int32) (v4 : Int32) (v5 : Int32) (v6 : Int32) (S : mq_St) (H : Heap) (locs : List Loc) (ls : Array Slot), k233 v1 v3 v4 v5 v6 S = some res → lv_has ls 7 [(0, .ref (a 0)), (1, .int (v1)), (3, .int (v3)), (4, .int (v4)), (5, .int (v5)), (6, .int (v6))] → va_P D vwCl (wd_R a cI cL cB cZ z S) H → va_D A (wd_R a cI cL cB cZ z S) → va_S A s.heap H locs → W p l e zr_X11_fold s m args below meth c H locs 0 0 Q (F0 m 233 ls [])) (v1 : Int32) (v3 : Int32) (v4 : Int32) (v5 : Int32) (v6 : Int32) (t1 : Int32) (S : mq_St) (H : Heap) (locs : List Loc) (ls : Array Slot) (h : zf_X11_fold_300 N z k201 k210 k233 v1 v3 v4 v5 v6 t1 S = some res) (hl : lv_has ls 7 [(0, .ref (a 0)), (1, .int (v1)), (3, .int (v3)), (4, .int (v4)), (5, .int (v5)), (6, .int (v6))]) (hP : va_P D vwCl (wd_R a cI cL cB cZ z S) H) (hD : va_D A (wd_R a cI cL cB cZ z S)) (hS : va_S A s.heap H locs) : W p l e zr_X11_fold s m args below meth c H locs 0 0 Q (F0 m 300 ls [.int (t1), .ref (a 44)]) := by
  obtain ⟨hx, hb, hml, hown, hts, hK, hA⟩ := id C
  unfold zf_X11_fold_300 at h
  refine lv_iconst (v := (1 : Int32)) hx hb dX11_fold_300 (by decide) ?_
  refine lv_goto (tgt := 305) hx hb dX11_fold_301 (by decide) ?_
  exact zw_X11_fold_305 C hret hk201 hk210 hk233 (v1) (v3) (v4) (v5) (v6) (t1) ((1 : Int32)) S H locs ls h (lv_sub hl [0, 1, 2, 3, 4, 5] rfl) hP hD hS
set_option maxHeartbeats 4000000 in
set_option maxRecDepth 100000 in
theorem zw_X11_fold_304 {p : Program} {l : Launch} {e : Env} {s : State} {m : MethodId} {args : Array Value} {below : List Frame} {meth : Method} {c : Code} {A : Nat → Prop} {D : va_G} {a z : Nat → Nat} {cI cL cB cZ : ClassId} {Q : State → Prop} {N : Nat} {res : Int32 × mq_St} {k201 : Int32 → Int32 → Int32 → mq_St → Option (Int32 × mq_St)} {k210 : Int32 → Int32 → Int32 → Int32 → mq_St → Option (Int32 × mq_St)} {k233 : Int32 → Int32 → Int32 → Int32 → Int32 → mq_St → Option (Int32 × mq_St)} (C : mq_C p s m args c A D cI cL cB cZ cX11_fold 7 RX11 zc_X11_fold) (hret : ∀ (H : Heap) (locs : List Loc) (ls : Array Slot) (pc : Nat), decode cX11_fold pc = .ok (.ireturn, 1) → va_P D vwCl (wd_R a cI cL cB cZ z res.2) H → va_D A (wd_R a cI cL cB cZ z res.2) → va_S A s.heap H locs → W p l e zr_X11_fold s m args below meth c H locs 0 0 Q (F0 m pc ls [.int res.1])) (hk201 : ∀ (v1 : Int32) (v3 : Int32) (v4 : Int32) (S : mq_St) (H : Heap) (locs : List Loc) (ls : Array Slot), k201 v1 v3 v4 S = some res → lv_has ls 7 [(0, .ref (a 0)), (1, .int (v1)), (3, .int (v3)), (4, .int (v4))] → va_P D vwCl (wd_R a cI cL cB cZ z S) H → va_D A (wd_R a cI cL cB cZ z S) → va_S A s.heap H locs → W p l e zr_X11_fold s m args below meth c H locs 0 0 Q (F0 m 201 ls [])) (hk210 : ∀ (v1 : Int32) (v3 : Int32) (v4 : Int32) (v5 : Int32) (S : mq_St) (H : Heap) (locs : List Loc) (ls : Array Slot), k210 v1 v3 v4 v5 S = some res → lv_has ls 7 [(0, .ref (a 0)), (1, .int (v1)), (3, .int (v3)), (4, .int (v4)), (5, .int (v5))] → va_P D vwCl (wd_R a cI cL cB cZ z S) H → va_D A (wd_R a cI cL cB cZ z S) → va_S A s.heap H locs → W p l e zr_X11_fold s m args below meth c H locs 0 0 Q (F0 m 210 ls [])) (hk233 : ∀ (v1 : Int32) (v3 : Int32) (v4 : Int32) (v5 : Int32) (v6 : Int32) (S : mq_St) (H : Heap) (locs : List Loc) (ls : Array Slot), k233 v1 v3 v4 v5 v6 S = some res → lv_has ls 7 [(0, .ref (a 0)), (1, .int (v1)), (3, .int (v3)), (4, .int (v4)), (5, .int (v5)), (6, .int (v6))] → va_P D vwCl (wd_R a cI cL cB cZ z S) H → va_D A (wd_R a cI cL cB cZ z S) → va_S A s.heap H locs → W p l e zr_X11_fold s m args below meth c H locs 0 0 Q (F0 m 233 ls [])) (v1 : Int32) (v3 : Int32) (v4 : Int32) (v5 : Int32) (v6 : Int32) (t1 : Int32) (S : mq_St) (H : Heap) (locs : List Loc) (ls : Array Slot) (h : zf_X11_fold_304 N z k201 k210 k233 v1 v3 v4 v5 v6 t1 S = some res) (hl : lv_has ls 7 [(0, .ref (a 0)), (1, .int (v1)), (3, .int (v3)), (4, .int (v4)), (5, .int (v5)), (6, .int (v6))]) (hP : va_P D vwCl (wd_R a cI cL cB cZ z S) H) (hD : va_D A (wd_R a cI cL cB cZ z S)) (hS : va_S A s.heap H locs) : W p l e zr_X11_fold s m args below meth c H locs 0 0 Q (F0 m 304 ls [.int (t1), .ref (a 44)]) := by
  obtain ⟨hx, hb, hml, hown, hts, hK, hA⟩ := id C
  unfold zf_X11_fold_304 at h
  refine lv_iconst (v := (0 : Int32)) hx hb dX11_fold_304 (by decide) ?_
  exact zw_X11_fold_305 C hret hk201 hk210 hk233 (v1) (v3) (v4) (v5) (v6) (t1) ((0 : Int32)) S H locs ls h (lv_sub hl [0, 1, 2, 3, 4, 5] rfl) hP hD hS
set_option maxHeartbeats 4000000 in
set_option maxRecDepth 100000 in
theorem zw_X11_fold_233b {p : Program} {l : Launch} {e : Env} {s : State} {m : MethodId} {args : Array Value} {below : List Frame} {meth : Method} {c : Code} {A : Nat → Prop} {D : va_G} {a z : Nat → Nat} {cI cL cB cZ : ClassId} {Q : State → Prop} {N : Nat} {res : Int32 × mq_St} {k201 : Int32 → Int32 → Int32 → mq_St → Option (Int32 × mq_St)} {k210 : Int32 → Int32 → Int32 → Int32 → mq_St → Option (Int32 × mq_St)} {k233 : Int32 → Int32 → Int32 → Int32 → Int32 → mq_St → Option (Int32 × mq_St)} (C : mq_C p s m args c A D cI cL cB cZ cX11_fold 7 RX11 zc_X11_fold) (hret : ∀ (H : Heap) (locs : List Loc) (ls : Array Slot) (pc : Nat), decode cX11_fold pc = .ok (.ireturn, 1) → va_P D vwCl (wd_R a cI cL cB cZ z res.2) H → va_D A (wd_R a cI cL cB cZ z res.2) → va_S A s.heap H locs → W p l e zr_X11_fold s m args below meth c H locs 0 0 Q (F0 m pc ls [.int res.1])) (hk201 : ∀ (v1 : Int32) (v3 : Int32) (v4 : Int32) (S : mq_St) (H : Heap) (locs : List Loc) (ls : Array Slot), k201 v1 v3 v4 S = some res → lv_has ls 7 [(0, .ref (a 0)), (1, .int (v1)), (3, .int (v3)), (4, .int (v4))] → va_P D vwCl (wd_R a cI cL cB cZ z S) H → va_D A (wd_R a cI cL cB cZ z S) → va_S A s.heap H locs → W p l e zr_X11_fold s m args below meth c H locs 0 0 Q (F0 m 201 ls [])) (hk210 : ∀ (v1 : Int32) (v3 : Int32) (v4 : Int32) (v5 : Int32) (S : mq_St) (H : Heap) (locs : List Loc) (ls : Array Slot), k210 v1 v3 v4 v5 S = some res → lv_has ls 7 [(0, .ref (a 0)), (1, .int (v1)), (3, .int (v3)), (4, .int (v4)), (5, .int (v5))] → va_P D vwCl (wd_R a cI cL cB cZ z S) H → va_D A (wd_R a cI cL cB cZ z S) → va_S A s.heap H locs → W p l e zr_X11_fold s m args below meth c H locs 0 0 Q (F0 m 210 ls [])) (hk233 : ∀ (v1 : Int32) (v3 : Int32) (v4 : Int32) (v5 : Int32) (v6 : Int32) (S : mq_St) (H : Heap) (locs : List Loc) (ls : Array Slot), k233 v1 v3 v4 v5 v6 S = some res → lv_has ls 7 [(0, .ref (a 0)), (1, .int (v1)), (3, .int (v3)), (4, .int (v4)), (5, .int (v5)), (6, .int (v6))] → va_P D vwCl (wd_R a cI cL cB cZ z S) H → va_D A (wd_R a cI cL cB cZ z S) → va_S A s.heap H locs → W p l e zr_X11_fold s m args below meth c H locs 0 0 Q (F0 m 233 ls [])) (v1 : Int32) (v3 : Int32) (v4 : Int32) (v5 : Int32) (v6 : Int32) (S : mq_St) (H : Heap) (locs : List Loc) (ls : Array Slot) (h : zf_X11_fold_233b N z k201 k210 k233 v1 v3 v4 v5 v6 S = some res) (hl : lv_has ls 7 [(0, .ref (a 0)), (1, .int (v1)), (3, .int (v3)), (4, .int (v4)), (5, .int (v5)), (6, .int (v6))]) (hP : va_P D vwCl (wd_R a cI cL cB cZ z S) H) (hD : va_D A (wd_R a cI cL cB cZ z S)) (hS : va_S A s.heap H locs) : W p l e zr_X11_fold s m args below meth c H locs 0 0 Q (F0 m 233 ls []) := by
  obtain ⟨hx, hb, hml, hown, hts, hK, hA⟩ := id C
  unfold zf_X11_fold_233b at h
  refine lv_iload hx hb dX11_fold_233 (lv_at hl 5 rfl) ?_
  refine lv_iload_n hx hb dX11_fold_235 rfl (lv_at hl 1 rfl) ?_
  refine lv_icmp_ge (tgt := 312) hx hb dX11_fold_236 (by decide) (fun c70 => ?_) (fun c70 => ?_)
  · replace h := mq_it c70 h
    obtain ⟨x60, ex60⟩ : ∃ y : Int32, y = v5 + (1 : Int32) := ⟨_, rfl⟩
    replace h := mq_nI_go ex60 h
    refine lv_iinc (v := x60) (lv' := [(5, .int (x60)), (0, .ref (a 0)), (1, .int (v1)), (3, .int (v3)), (4, .int (v4)), (6, .int (v6))]) hx hb dX11_fold_312 hl (k := 4) rfl (by rw [ex60]; rfl) (by decide) rfl (fun ls hl => ?_)
    refine lv_goto (tgt := 210) hx hb dX11_fold_315 (by decide) ?_
    exact hk210 (v1) (v3) (v4) (x60) S H locs ls h (lv_sub hl [1, 2, 3, 4, 0] rfl) hP hD hS
  · replace h := mq_if c70 h
    refine lv_aload_n hx hb dX11_fold_239 rfl (lv_at hl 0 rfl) ?_
    refine va_get (D := D) (ci := 11) (v := .ref (a 44)) (C := RX11) (T := TX11) (N := 76) hx hb hts (zi_X11 _) hown hK hP 0 rfl rfl 75 (by decide) (hts _ (List.mem_cons_of_mem _ zt_f_X11_148)) (fun _ h9 => h9) rfl dX11_fold_240 ?_
    refine lv_bipush (v := (60 : Int32)) hx hb dX11_fold_243 (by decide) ?_
    refine lv_iload hx hb dX11_fold_245 (lv_at hl 3 rfl) ?_
    refine lv_imul hx hb dX11_fold_247 ?_
    refine lv_iload hx hb dX11_fold_248 (lv_at hl 4 rfl) ?_
    refine lv_iadd hx hb dX11_fold_250 ?_
    refine lv_aload_n hx hb dX11_fold_251 rfl (lv_at hl 0 rfl) ?_
    refine va_get (D := D) (ci := 11) (v := .ref (a 44)) (C := RX11) (T := TX11) (N := 76) hx hb hts (zi_X11 _) hown hK hP 0 rfl rfl 75 (by decide) (hts _ (List.mem_cons_of_mem _ zt_f_X11_148)) (fun _ h9 => h9) rfl dX11_fold_252 ?_
    refine lv_bipush (v := (60 : Int32)) hx hb dX11_fold_255 (by decide) ?_
    refine lv_iload hx hb dX11_fold_257 (lv_at hl 3 rfl) ?_
    refine lv_imul hx hb dX11_fold_259 ?_
    refine lv_iload hx hb dX11_fold_260 (lv_at hl 4 rfl) ?_
    refine lv_iadd hx hb dX11_fold_262 ?_
    have hi61 := mq_ck_in h
    replace h := mq_ck_go h
    refine va_zald (f := S.2.1 43) hx hb hK hP 44 3 rfl rfl hi61 dX11_fold_263 ?_
    refine lv_if_ne (tgt := 300) hx hb dX11_fold_264 (by decide) (fun c69 => ?_) (fun c69 => ?_)
    · replace h := mq_if c69 h
      exact zw_X11_fold_300 C hret hk201 hk210 hk233 (v1) (v3) (v4) (v5) (v6) ((((60 : Int32) * v4) + v5)) S H locs ls h (lv_sub hl [0, 1, 2, 3, 4, 5] rfl) hP hD hS
    · replace h := mq_it (by simpa using c69) h
      refine lv_aload_n hx hb dX11_fold_267 rfl (lv_at hl 0 rfl) ?_
      refine va_get (D := D) (ci := 11) (v := .ref (a 40)) (C := RX11) (T := TX11) (N := 76) hx hb hts (zi_X11 _) hown hK hP 0 rfl rfl 71 (by decide) (hts _ (List.mem_cons_of_mem _ zt_f_X11_136)) (fun _ h9 => h9) rfl dX11_fold_268 ?_
      refine lv_iload hx hb dX11_fold_271 (lv_at hl 5 rfl) ?_
      have hi62 := mq_ck_in h
      replace h := mq_ck_go h
      refine va_iald (f := S.2.1 39) hx hb hK hP 40 0 rfl rfl hi62 dX11_fold_273 ?_
      refine lv_aload_n hx hb dX11_fold_274 rfl (lv_at hl 0 rfl) ?_
      refine va_get (D := D) (ci := 11) (v := .ref (a 43)) (C := RX11) (T := TX11) (N := 76) hx hb hts (zi_X11 _) hown hK hP 0 rfl rfl 74 (by decide) (hts _ (List.mem_cons_of_mem _ zt_f_X11_145)) (fun _ h9 => h9) rfl dX11_fold_275 ?_
      refine lv_iload hx hb dX11_fold_278 (lv_at hl 3 rfl) ?_
      have hi63 := mq_ck_in h
      replace h := mq_ck_go h
      refine va_iald (f := S.2.1 42) hx hb hK hP 43 0 rfl rfl hi63 dX11_fold_280 ?_
      refine lv_icmp_ne (tgt := 304) hx hb dX11_fold_281 (by decide) (fun c68 => ?_) (fun c68 => ?_)
      · replace h := mq_if c68 h
        exact zw_X11_fold_304 C hret hk201 hk210 hk233 (v1) (v3) (v4) (v5) (v6) ((((60 : Int32) * v4) + v5)) S H locs ls h (lv_sub hl [0, 1, 2, 3, 4, 5] rfl) hP hD hS
      · replace h := mq_it (by simpa using c68) h
        refine lv_aload_n hx hb dX11_fold_284 rfl (lv_at hl 0 rfl) ?_
        refine lv_iload hx hb dX11_fold_285 (lv_at hl 5 rfl) ?_
        refine lv_aload_n hx hb dX11_fold_287 rfl (lv_at hl 0 rfl) ?_
        refine va_get (D := D) (ci := 11) (v := .ref (a 43)) (C := RX11) (T := TX11) (N := 76) hx hb hts (zi_X11 _) hown hK hP 0 rfl rfl 74 (by decide) (hts _ (List.mem_cons_of_mem _ zt_f_X11_145)) (fun _ h9 => h9) rfl dX11_fold_288 ?_
        refine lv_iload hx hb dX11_fold_291 (lv_at hl 4 rfl) ?_
        have hi64 := mq_ck_in h
        replace h := mq_ck_go h
        refine va_iald (f := S.2.1 42) hx hb hK hP 43 0 rfl rfl hi64 dX11_fold_293 ?_
        obtain ⟨q65, hc66, h⟩ := mq_cp_go h
        refine zk_X11_seesGroup C zt_m_X11_393 ⟨by decide, by decide⟩ hc66 hP hD hS hl.1 (Nat.le_of_ble_eq_true rfl) dX11_fold_294 (fun H locs hP hD hS => ?_)
        refine lv_if_eq (tgt := 304) hx hb dX11_fold_297 (by decide) (fun c67 => ?_) (fun c67 => ?_)
        · replace h := mq_it c67 h
          exact zw_X11_fold_304 C hret hk201 hk210 hk233 (v1) (v3) (v4) (v5) (v6) ((((60 : Int32) * v4) + v5)) S H locs ls h (lv_sub hl [0, 1, 2, 3, 4, 5] rfl) hP hD hS
        · replace h := mq_if c67 h
          exact zw_X11_fold_300 C hret hk201 hk210 hk233 (v1) (v3) (v4) (v5) (v6) ((((60 : Int32) * v4) + v5)) S H locs ls h (lv_sub hl [0, 1, 2, 3, 4, 5] rfl) hP hD hS
set_option maxHeartbeats 4000000 in
set_option maxRecDepth 100000 in
theorem zw_X11_fold_233 {p : Program} {l : Launch} {e : Env} {s : State} {m : MethodId} {args : Array Value} {below : List Frame} {meth : Method} {c : Code} {A : Nat → Prop} {D : va_G} {a z : Nat → Nat} {cI cL cB cZ : ClassId} {Q : State → Prop} {N : Nat} {res : Int32 × mq_St} {k201 : Int32 → Int32 → Int32 → mq_St → Option (Int32 × mq_St)} {k210 : Int32 → Int32 → Int32 → Int32 → mq_St → Option (Int32 × mq_St)} (C : mq_C p s m args c A D cI cL cB cZ cX11_fold 7 RX11 zc_X11_fold) (hret : ∀ (H : Heap) (locs : List Loc) (ls : Array Slot) (pc : Nat), decode cX11_fold pc = .ok (.ireturn, 1) → va_P D vwCl (wd_R a cI cL cB cZ z res.2) H → va_D A (wd_R a cI cL cB cZ z res.2) → va_S A s.heap H locs → W p l e zr_X11_fold s m args below meth c H locs 0 0 Q (F0 m pc ls [.int res.1])) (hk201 : ∀ (v1 : Int32) (v3 : Int32) (v4 : Int32) (S : mq_St) (H : Heap) (locs : List Loc) (ls : Array Slot), k201 v1 v3 v4 S = some res → lv_has ls 7 [(0, .ref (a 0)), (1, .int (v1)), (3, .int (v3)), (4, .int (v4))] → va_P D vwCl (wd_R a cI cL cB cZ z S) H → va_D A (wd_R a cI cL cB cZ z S) → va_S A s.heap H locs → W p l e zr_X11_fold s m args below meth c H locs 0 0 Q (F0 m 201 ls [])) (hk210 : ∀ (v1 : Int32) (v3 : Int32) (v4 : Int32) (v5 : Int32) (S : mq_St) (H : Heap) (locs : List Loc) (ls : Array Slot), k210 v1 v3 v4 v5 S = some res → lv_has ls 7 [(0, .ref (a 0)), (1, .int (v1)), (3, .int (v3)), (4, .int (v4)), (5, .int (v5))] → va_P D vwCl (wd_R a cI cL cB cZ z S) H → va_D A (wd_R a cI cL cB cZ z S) → va_S A s.heap H locs → W p l e zr_X11_fold s m args below meth c H locs 0 0 Q (F0 m 210 ls [])) : ∀ (n : Nat) (v1 : Int32) (v3 : Int32) (v4 : Int32) (v5 : Int32) (v6 : Int32) (S : mq_St) (H : Heap) (locs : List Loc) (ls : Array Slot) (h : zf_X11_fold_233 N z k201 k210 n v1 v3 v4 v5 v6 S = some res) (hl : lv_has ls 7 [(0, .ref (a 0)), (1, .int (v1)), (3, .int (v3)), (4, .int (v4)), (5, .int (v5)), (6, .int (v6))]) (hP : va_P D vwCl (wd_R a cI cL cB cZ z S) H) (hD : va_D A (wd_R a cI cL cB cZ z S)) (hS : va_S A s.heap H locs), W p l e zr_X11_fold s m args below meth c H locs 0 0 Q (F0 m 233 ls []) := by
  intro n
  induction n with
  | zero =>
    intro v1 v3 v4 v5 v6 S H locs ls h hl hP hD hS
    exact nomatch (show (none : Option (Int32 × mq_St)) = some res from h)
  | succ n ih =>
    intro v1 v3 v4 v5 v6 S H locs ls h hl hP hD hS
    exact zw_X11_fold_233b C hret hk201 hk210 (fun v1 v3 v4 v5 v6 S H locs ls h hl hP hD hS => ih v1 v3 v4 v5 v6 S H locs ls h hl hP hD hS) v1 v3 v4 v5 v6 S H locs ls h hl hP hD hS
set_option maxHeartbeats 4000000 in
set_option maxRecDepth 100000 in
theorem zw_X11_fold_210b {p : Program} {l : Launch} {e : Env} {s : State} {m : MethodId} {args : Array Value} {below : List Frame} {meth : Method} {c : Code} {A : Nat → Prop} {D : va_G} {a z : Nat → Nat} {cI cL cB cZ : ClassId} {Q : State → Prop} {N : Nat} {res : Int32 × mq_St} {k201 : Int32 → Int32 → Int32 → mq_St → Option (Int32 × mq_St)} {k210 : Int32 → Int32 → Int32 → Int32 → mq_St → Option (Int32 × mq_St)} (C : mq_C p s m args c A D cI cL cB cZ cX11_fold 7 RX11 zc_X11_fold) (hret : ∀ (H : Heap) (locs : List Loc) (ls : Array Slot) (pc : Nat), decode cX11_fold pc = .ok (.ireturn, 1) → va_P D vwCl (wd_R a cI cL cB cZ z res.2) H → va_D A (wd_R a cI cL cB cZ z res.2) → va_S A s.heap H locs → W p l e zr_X11_fold s m args below meth c H locs 0 0 Q (F0 m pc ls [.int res.1])) (hk201 : ∀ (v1 : Int32) (v3 : Int32) (v4 : Int32) (S : mq_St) (H : Heap) (locs : List Loc) (ls : Array Slot), k201 v1 v3 v4 S = some res → lv_has ls 7 [(0, .ref (a 0)), (1, .int (v1)), (3, .int (v3)), (4, .int (v4))] → va_P D vwCl (wd_R a cI cL cB cZ z S) H → va_D A (wd_R a cI cL cB cZ z S) → va_S A s.heap H locs → W p l e zr_X11_fold s m args below meth c H locs 0 0 Q (F0 m 201 ls [])) (hk210 : ∀ (v1 : Int32) (v3 : Int32) (v4 : Int32) (v5 : Int32) (S : mq_St) (H : Heap) (locs : List Loc) (ls : Array Slot), k210 v1 v3 v4 v5 S = some res → lv_has ls 7 [(0, .ref (a 0)), (1, .int (v1)), (3, .int (v3)), (4, .int (v4)), (5, .int (v5))] → va_P D vwCl (wd_R a cI cL cB cZ z S) H → va_D A (wd_R a cI cL cB cZ z S) → va_S A s.heap H locs → W p l e zr_X11_fold s m args below meth c H locs 0 0 Q (F0 m 210 ls [])) (v1 : Int32) (v3 : Int32) (v4 : Int32) (v5 : Int32) (S : mq_St) (H : Heap) (locs : List Loc) (ls : Array Slot) (h : zf_X11_fold_210b N z k201 k210 v1 v3 v4 v5 S = some res) (hl : lv_has ls 7 [(0, .ref (a 0)), (1, .int (v1)), (3, .int (v3)), (4, .int (v4)), (5, .int (v5))]) (hP : va_P D vwCl (wd_R a cI cL cB cZ z S) H) (hD : va_D A (wd_R a cI cL cB cZ z S)) (hS : va_S A s.heap H locs) : W p l e zr_X11_fold s m args below meth c H locs 0 0 Q (F0 m 210 ls []) := by
  obtain ⟨hx, hb, hml, hown, hts, hK, hA⟩ := id C
  unfold zf_X11_fold_210b at h
  refine lv_iload hx hb dX11_fold_210 (lv_at hl 4 rfl) ?_
  refine lv_iload_n hx hb dX11_fold_212 rfl (lv_at hl 2 rfl) ?_
  refine lv_icmp_ge (tgt := 318) hx hb dX11_fold_213 (by decide) (fun c59 => ?_) (fun c59 => ?_)
  · replace h := mq_it c59 h
    obtain ⟨x55, ex55⟩ : ∃ y : Int32, y = v4 + (1 : Int32) := ⟨_, rfl⟩
    replace h := mq_nI_go ex55 h
    refine lv_iinc (v := x55) (lv' := [(4, .int (x55)), (0, .ref (a 0)), (1, .int (v1)), (3, .int (v3)), (5, .int (v5))]) hx hb dX11_fold_318 hl (k := 3) rfl (by rw [ex55]; rfl) (by decide) rfl (fun ls hl => ?_)
    refine lv_goto (tgt := 201) hx hb dX11_fold_321 (by decide) ?_
    exact hk201 (v1) (v3) (x55) S H locs ls h (lv_sub hl [1, 2, 3, 0] rfl) hP hD hS
  · replace h := mq_if c59 h
    refine lv_aload_n hx hb dX11_fold_216 rfl (lv_at hl 0 rfl) ?_
    refine va_get (D := D) (ci := 11) (v := .ref (a 44)) (C := RX11) (T := TX11) (N := 76) hx hb hts (zi_X11 _) hown hK hP 0 rfl rfl 75 (by decide) (hts _ (List.mem_cons_of_mem _ zt_f_X11_148)) (fun _ h9 => h9) rfl dX11_fold_217 ?_
    refine lv_bipush (v := (60 : Int32)) hx hb dX11_fold_220 (by decide) ?_
    refine lv_iload hx hb dX11_fold_222 (lv_at hl 3 rfl) ?_
    refine lv_imul hx hb dX11_fold_224 ?_
    refine lv_iload hx hb dX11_fold_225 (lv_at hl 4 rfl) ?_
    refine lv_iadd hx hb dX11_fold_227 ?_
    refine lv_iconst (v := (0 : Int32)) hx hb dX11_fold_228 (by decide) ?_
    have hi56 := mq_ck_in h
    replace h := mq_ck_go h
    refine mq_zast (w := wd_R a cI cL cB cZ z) (S := S) (f := S.2.1 43) hx hb hK hP hD hS 44 3 rfl rfl hi56 dX11_fold_229 43 (zs_wd_R_a_44_43 _ _ _ _ _ _ _ _) (fun S57 eS57 H locs hP hD hS => ?_)
    replace h := mq_nS_go eS57 h
    refine lv_iconst (v := (0 : Int32)) hx hb dX11_fold_230 (by decide) ?_
    refine lv_topi (fun x58 ex58 => ?_)
    replace h := mq_nI_go ex58 h
    refine lv_istore (lv' := [(6, .int (x58)), (0, .ref (a 0)), (1, .int (v1)), (3, .int (v3)), (4, .int (v4)), (5, .int (v5))]) hx hb dX11_fold_231 hl (by decide) rfl (fun ls hl => ?_)
    exact zw_X11_fold_233 C hret hk201 hk210 N (v1) (v3) (v4) (v5) (x58) S57 H locs ls h (lv_sub hl [1, 2, 3, 4, 5, 0] rfl) hP hD hS
set_option maxHeartbeats 4000000 in
set_option maxRecDepth 100000 in
theorem zw_X11_fold_210 {p : Program} {l : Launch} {e : Env} {s : State} {m : MethodId} {args : Array Value} {below : List Frame} {meth : Method} {c : Code} {A : Nat → Prop} {D : va_G} {a z : Nat → Nat} {cI cL cB cZ : ClassId} {Q : State → Prop} {N : Nat} {res : Int32 × mq_St} {k201 : Int32 → Int32 → Int32 → mq_St → Option (Int32 × mq_St)} (C : mq_C p s m args c A D cI cL cB cZ cX11_fold 7 RX11 zc_X11_fold) (hret : ∀ (H : Heap) (locs : List Loc) (ls : Array Slot) (pc : Nat), decode cX11_fold pc = .ok (.ireturn, 1) → va_P D vwCl (wd_R a cI cL cB cZ z res.2) H → va_D A (wd_R a cI cL cB cZ z res.2) → va_S A s.heap H locs → W p l e zr_X11_fold s m args below meth c H locs 0 0 Q (F0 m pc ls [.int res.1])) (hk201 : ∀ (v1 : Int32) (v3 : Int32) (v4 : Int32) (S : mq_St) (H : Heap) (locs : List Loc) (ls : Array Slot), k201 v1 v3 v4 S = some res → lv_has ls 7 [(0, .ref (a 0)), (1, .int (v1)), (3, .int (v3)), (4, .int (v4))] → va_P D vwCl (wd_R a cI cL cB cZ z S) H → va_D A (wd_R a cI cL cB cZ z S) → va_S A s.heap H locs → W p l e zr_X11_fold s m args below meth c H locs 0 0 Q (F0 m 201 ls [])) : ∀ (n : Nat) (v1 : Int32) (v3 : Int32) (v4 : Int32) (v5 : Int32) (S : mq_St) (H : Heap) (locs : List Loc) (ls : Array Slot) (h : zf_X11_fold_210 N z k201 n v1 v3 v4 v5 S = some res) (hl : lv_has ls 7 [(0, .ref (a 0)), (1, .int (v1)), (3, .int (v3)), (4, .int (v4)), (5, .int (v5))]) (hP : va_P D vwCl (wd_R a cI cL cB cZ z S) H) (hD : va_D A (wd_R a cI cL cB cZ z S)) (hS : va_S A s.heap H locs), W p l e zr_X11_fold s m args below meth c H locs 0 0 Q (F0 m 210 ls []) := by
  intro n
  induction n with
  | zero =>
    intro v1 v3 v4 v5 S H locs ls h hl hP hD hS
    exact nomatch (show (none : Option (Int32 × mq_St)) = some res from h)
  | succ n ih =>
    intro v1 v3 v4 v5 S H locs ls h hl hP hD hS
    exact zw_X11_fold_210b C hret hk201 (fun v1 v3 v4 v5 S H locs ls h hl hP hD hS => ih v1 v3 v4 v5 S H locs ls h hl hP hD hS) v1 v3 v4 v5 S H locs ls h hl hP hD hS
set_option maxHeartbeats 4000000 in
set_option maxRecDepth 100000 in
theorem zw_X11_fold_201b {p : Program} {l : Launch} {e : Env} {s : State} {m : MethodId} {args : Array Value} {below : List Frame} {meth : Method} {c : Code} {A : Nat → Prop} {D : va_G} {a z : Nat → Nat} {cI cL cB cZ : ClassId} {Q : State → Prop} {N : Nat} {res : Int32 × mq_St} {k201 : Int32 → Int32 → Int32 → mq_St → Option (Int32 × mq_St)} (C : mq_C p s m args c A D cI cL cB cZ cX11_fold 7 RX11 zc_X11_fold) (hret : ∀ (H : Heap) (locs : List Loc) (ls : Array Slot) (pc : Nat), decode cX11_fold pc = .ok (.ireturn, 1) → va_P D vwCl (wd_R a cI cL cB cZ z res.2) H → va_D A (wd_R a cI cL cB cZ z res.2) → va_S A s.heap H locs → W p l e zr_X11_fold s m args below meth c H locs 0 0 Q (F0 m pc ls [.int res.1])) (hk201 : ∀ (v1 : Int32) (v3 : Int32) (v4 : Int32) (S : mq_St) (H : Heap) (locs : List Loc) (ls : Array Slot), k201 v1 v3 v4 S = some res → lv_has ls 7 [(0, .ref (a 0)), (1, .int (v1)), (3, .int (v3)), (4, .int (v4))] → va_P D vwCl (wd_R a cI cL cB cZ z S) H → va_D A (wd_R a cI cL cB cZ z S) → va_S A s.heap H locs → W p l e zr_X11_fold s m args below meth c H locs 0 0 Q (F0 m 201 ls [])) (v1 : Int32) (v3 : Int32) (v4 : Int32) (S : mq_St) (H : Heap) (locs : List Loc) (ls : Array Slot) (h : zf_X11_fold_201b N z k201 v1 v3 v4 S = some res) (hl : lv_has ls 7 [(0, .ref (a 0)), (1, .int (v1)), (3, .int (v3)), (4, .int (v4))]) (hP : va_P D vwCl (wd_R a cI cL cB cZ z S) H) (hD : va_D A (wd_R a cI cL cB cZ z S)) (hS : va_S A s.heap H locs) : W p l e zr_X11_fold s m args below meth c H locs 0 0 Q (F0 m 201 ls []) := by
  obtain ⟨hx, hb, hml, hown, hts, hK, hA⟩ := id C
  unfold zf_X11_fold_201b at h
  refine lv_iload hx hb dX11_fold_201 (lv_at hl 3 rfl) ?_
  refine lv_iload_n hx hb dX11_fold_203 rfl (lv_at hl 2 rfl) ?_
  refine lv_icmp_ge (tgt := 324) hx hb dX11_fold_204 (by decide) (fun c54 => ?_) (fun c54 => ?_)
  · replace h := mq_it c54 h
    refine lv_aload_n hx hb dX11_fold_324 rfl (lv_at hl 0 rfl) ?_
    refine lv_iload_n hx hb dX11_fold_325 rfl (lv_at hl 2 rfl) ?_
    obtain ⟨q50, hc51, h⟩ := mq_cl_go h
    refine zk_X11_settle C zt_m_X11_402 ⟨by decide, by decide⟩ hc51 hP hD hS hl.1 (Nat.le_of_ble_eq_true rfl) dX11_fold_326 (fun H locs hP hD hS => ?_)
    obtain ⟨S52, eS52⟩ : ∃ y, y = q50.2 := ⟨_, rfl⟩
    rw [← eS52] at hP hD h
    refine lv_iload_n hx hb dX11_fold_329 rfl (lv_at hl 2 rfl) ?_
    cases h
    exact hret H locs ls 330 dX11_fold_330 hP hD hS
  · replace h := mq_if c54 h
    refine lv_iconst (v := (0 : Int32)) hx hb dX11_fold_207 (by decide) ?_
    refine lv_topi (fun x53 ex53 => ?_)
    replace h := mq_nI_go ex53 h
    refine lv_istore (lv' := [(5, .int (x53)), (0, .ref (a 0)), (1, .int (v1)), (3, .int (v3)), (4, .int (v4))]) hx hb dX11_fold_208 hl (by decide) rfl (fun ls hl => ?_)
    exact zw_X11_fold_210 C hret hk201 N (v1) (v3) (v4) (x53) S H locs ls h (lv_sub hl [1, 2, 3, 4, 0] rfl) hP hD hS
set_option maxHeartbeats 4000000 in
set_option maxRecDepth 100000 in
theorem zw_X11_fold_201 {p : Program} {l : Launch} {e : Env} {s : State} {m : MethodId} {args : Array Value} {below : List Frame} {meth : Method} {c : Code} {A : Nat → Prop} {D : va_G} {a z : Nat → Nat} {cI cL cB cZ : ClassId} {Q : State → Prop} {N : Nat} {res : Int32 × mq_St} (C : mq_C p s m args c A D cI cL cB cZ cX11_fold 7 RX11 zc_X11_fold) (hret : ∀ (H : Heap) (locs : List Loc) (ls : Array Slot) (pc : Nat), decode cX11_fold pc = .ok (.ireturn, 1) → va_P D vwCl (wd_R a cI cL cB cZ z res.2) H → va_D A (wd_R a cI cL cB cZ z res.2) → va_S A s.heap H locs → W p l e zr_X11_fold s m args below meth c H locs 0 0 Q (F0 m pc ls [.int res.1])) : ∀ (n : Nat) (v1 : Int32) (v3 : Int32) (v4 : Int32) (S : mq_St) (H : Heap) (locs : List Loc) (ls : Array Slot) (h : zf_X11_fold_201 N z n v1 v3 v4 S = some res) (hl : lv_has ls 7 [(0, .ref (a 0)), (1, .int (v1)), (3, .int (v3)), (4, .int (v4))]) (hP : va_P D vwCl (wd_R a cI cL cB cZ z S) H) (hD : va_D A (wd_R a cI cL cB cZ z S)) (hS : va_S A s.heap H locs), W p l e zr_X11_fold s m args below meth c H locs 0 0 Q (F0 m 201 ls []) := by
  intro n
  induction n with
  | zero =>
    intro v1 v3 v4 S H locs ls h hl hP hD hS
    exact nomatch (show (none : Option (Int32 × mq_St)) = some res from h)
  | succ n ih =>
    intro v1 v3 v4 S H locs ls h hl hP hD hS
    exact zw_X11_fold_201b C hret (fun v1 v3 v4 S H locs ls h hl hP hD hS => ih v1 v3 v4 S H locs ls h hl hP hD hS) v1 v3 v4 S H locs ls h hl hP hD hS
set_option maxHeartbeats 4000000 in
set_option maxRecDepth 100000 in
theorem zw_X11_fold_163b {p : Program} {l : Launch} {e : Env} {s : State} {m : MethodId} {args : Array Value} {below : List Frame} {meth : Method} {c : Code} {A : Nat → Prop} {D : va_G} {a z : Nat → Nat} {cI cL cB cZ : ClassId} {Q : State → Prop} {N : Nat} {res : Int32 × mq_St} {k163 : Int32 → Int32 → Int32 → mq_St → Option (Int32 × mq_St)} (C : mq_C p s m args c A D cI cL cB cZ cX11_fold 7 RX11 zc_X11_fold) (hret : ∀ (H : Heap) (locs : List Loc) (ls : Array Slot) (pc : Nat), decode cX11_fold pc = .ok (.ireturn, 1) → va_P D vwCl (wd_R a cI cL cB cZ z res.2) H → va_D A (wd_R a cI cL cB cZ z res.2) → va_S A s.heap H locs → W p l e zr_X11_fold s m args below meth c H locs 0 0 Q (F0 m pc ls [.int res.1])) (hk163 : ∀ (v1 : Int32) (v3 : Int32) (v4 : Int32) (S : mq_St) (H : Heap) (locs : List Loc) (ls : Array Slot), k163 v1 v3 v4 S = some res → lv_has ls 7 [(0, .ref (a 0)), (1, .int (v1)), (3, .int (v3)), (4, .int (v4))] → va_P D vwCl (wd_R a cI cL cB cZ z S) H → va_D A (wd_R a cI cL cB cZ z S) → va_S A s.heap H locs → W p l e zr_X11_fold s m args below meth c H locs 0 0 Q (F0 m 163 ls [])) (v1 : Int32) (v3 : Int32) (v4 : Int32) (S : mq_St) (H : Heap) (locs : List Loc) (ls : Array Slot) (h : zf_X11_fold_163b N z k163 v1 v3 v4 S = some res) (hl : lv_has ls 7 [(0, .ref (a 0)), (1, .int (v1)), (3, .int (v3)), (4, .int (v4))]) (hP : va_P D vwCl (wd_R a cI cL cB cZ z S) H) (hD : va_D A (wd_R a cI cL cB cZ z S)) (hS : va_S A s.heap H locs) : W p l e zr_X11_fold s m args below meth c H locs 0 0 Q (F0 m 163 ls []) := by
  obtain ⟨hx, hb, hml, hown, hts, hK, hA⟩ := id C
  unfold zf_X11_fold_163b at h
  refine lv_iload hx hb dX11_fold_163 (lv_at hl 3 rfl) ?_
  refine lv_iload_n hx hb dX11_fold_165 rfl (lv_at hl 1 rfl) ?_
  refine lv_icmp_ge (tgt := 198) hx hb dX11_fold_166 (by decide) (fun c48 => ?_) (fun c48 => ?_)
  · replace h := mq_it c48 h
    refine lv_iconst (v := (0 : Int32)) hx hb dX11_fold_198 (by decide) ?_
    refine lv_topi (fun x42 ex42 => ?_)
    replace h := mq_nI_go ex42 h
    refine lv_istore (lv' := [(4, .int (x42)), (0, .ref (a 0)), (1, .int (v1)), (3, .int (v3))]) hx hb dX11_fold_199 hl (by decide) rfl (fun ls hl => ?_)
    exact zw_X11_fold_201 C hret N (v1) (v3) (x42) S H locs ls h (lv_sub hl [1, 2, 3, 0] rfl) hP hD hS
  · replace h := mq_if c48 h
    refine lv_aload_n hx hb dX11_fold_169 rfl (lv_at hl 0 rfl) ?_
    refine va_get (D := D) (ci := 11) (v := .ref (a 40)) (C := RX11) (T := TX11) (N := 76) hx hb hts (zi_X11 _) hown hK hP 0 rfl rfl 71 (by decide) (hts _ (List.mem_cons_of_mem _ zt_f_X11_136)) (fun _ h9 => h9) rfl dX11_fold_170 ?_
    refine lv_iload hx hb dX11_fold_173 (lv_at hl 3 rfl) ?_
    have hi43 := mq_ck_in h
    replace h := mq_ck_go h
    refine va_iald (f := S.2.1 39) hx hb hK hP 40 0 rfl rfl hi43 dX11_fold_175 ?_
    refine lv_iload hx hb dX11_fold_176 (lv_at hl 3 rfl) ?_
    refine lv_icmp_ne (tgt := 192) hx hb dX11_fold_178 (by decide) (fun c47 => ?_) (fun c47 => ?_)
    · replace h := mq_if c47 h
      exact zw_X11_fold_192 C hret hk163 (v1) (v3) (v4) S H locs ls h (lv_sub hl [0, 1, 2, 3] rfl) hP hD hS
    · replace h := mq_it (by simpa using c47) h
      refine lv_aload_n hx hb dX11_fold_181 rfl (lv_at hl 0 rfl) ?_
      refine va_get (D := D) (ci := 11) (v := .ref (a 43)) (C := RX11) (T := TX11) (N := 76) hx hb hts (zi_X11 _) hown hK hP 0 rfl rfl 74 (by decide) (hts _ (List.mem_cons_of_mem _ zt_f_X11_145)) (fun _ h9 => h9) rfl dX11_fold_182 ?_
      refine lv_iload_n hx hb dX11_fold_185 rfl (lv_at hl 2 rfl) ?_
      refine lv_iload hx hb dX11_fold_186 (lv_at hl 3 rfl) ?_
      have hi44 := mq_ck_in h
      replace h := mq_ck_go h
      refine mq_iast (w := wd_R a cI cL cB cZ z) (S := S) (f := S.2.1 42) hx hb hK hP hD hS 43 0 rfl rfl hi44 dX11_fold_188 42 (zs_wd_R_a_43_42 _ _ _ _ _ _ _ _) (fun S45 eS45 H locs hP hD hS => ?_)
      replace h := mq_nS_go eS45 h
      obtain ⟨x46, ex46⟩ : ∃ y : Int32, y = v3 + (1 : Int32) := ⟨_, rfl⟩
      replace h := mq_nI_go ex46 h
      refine lv_iinc (v := x46) (lv' := [(3, .int (x46)), (0, .ref (a 0)), (1, .int (v1)), (4, .int (v4))]) hx hb dX11_fold_189 hl (k := 2) rfl (by rw [ex46]; rfl) (by decide) rfl (fun ls hl => ?_)
      exact zw_X11_fold_192 C hret hk163 (v1) (x46) (v4) S45 H locs ls h (lv_sub hl [1, 2, 0, 3] rfl) hP hD hS
set_option maxHeartbeats 4000000 in
set_option maxRecDepth 100000 in
theorem zw_X11_fold_163 {p : Program} {l : Launch} {e : Env} {s : State} {m : MethodId} {args : Array Value} {below : List Frame} {meth : Method} {c : Code} {A : Nat → Prop} {D : va_G} {a z : Nat → Nat} {cI cL cB cZ : ClassId} {Q : State → Prop} {N : Nat} {res : Int32 × mq_St} (C : mq_C p s m args c A D cI cL cB cZ cX11_fold 7 RX11 zc_X11_fold) (hret : ∀ (H : Heap) (locs : List Loc) (ls : Array Slot) (pc : Nat), decode cX11_fold pc = .ok (.ireturn, 1) → va_P D vwCl (wd_R a cI cL cB cZ z res.2) H → va_D A (wd_R a cI cL cB cZ z res.2) → va_S A s.heap H locs → W p l e zr_X11_fold s m args below meth c H locs 0 0 Q (F0 m pc ls [.int res.1])) : ∀ (n : Nat) (v1 : Int32) (v3 : Int32) (v4 : Int32) (S : mq_St) (H : Heap) (locs : List Loc) (ls : Array Slot) (h : zf_X11_fold_163 N z n v1 v3 v4 S = some res) (hl : lv_has ls 7 [(0, .ref (a 0)), (1, .int (v1)), (3, .int (v3)), (4, .int (v4))]) (hP : va_P D vwCl (wd_R a cI cL cB cZ z S) H) (hD : va_D A (wd_R a cI cL cB cZ z S)) (hS : va_S A s.heap H locs), W p l e zr_X11_fold s m args below meth c H locs 0 0 Q (F0 m 163 ls []) := by
  intro n
  induction n with
  | zero =>
    intro v1 v3 v4 S H locs ls h hl hP hD hS
    exact nomatch (show (none : Option (Int32 × mq_St)) = some res from h)
  | succ n ih =>
    intro v1 v3 v4 S H locs ls h hl hP hD hS
    exact zw_X11_fold_163b C hret (fun v1 v3 v4 S H locs ls h hl hP hD hS => ih v1 v3 v4 S H locs ls h hl hP hD hS) v1 v3 v4 S H locs ls h hl hP hD hS
set_option maxHeartbeats 4000000 in
set_option maxRecDepth 100000 in
theorem zw_X11_fold_55b {p : Program} {l : Launch} {e : Env} {s : State} {m : MethodId} {args : Array Value} {below : List Frame} {meth : Method} {c : Code} {A : Nat → Prop} {D : va_G} {a z : Nat → Nat} {cI cL cB cZ : ClassId} {Q : State → Prop} {N : Nat} {res : Int32 × mq_St} {k55 : Int32 → Int32 → mq_St → Option (Int32 × mq_St)} (C : mq_C p s m args c A D cI cL cB cZ cX11_fold 7 RX11 zc_X11_fold) (hret : ∀ (H : Heap) (locs : List Loc) (ls : Array Slot) (pc : Nat), decode cX11_fold pc = .ok (.ireturn, 1) → va_P D vwCl (wd_R a cI cL cB cZ z res.2) H → va_D A (wd_R a cI cL cB cZ z res.2) → va_S A s.heap H locs → W p l e zr_X11_fold s m args below meth c H locs 0 0 Q (F0 m pc ls [.int res.1])) (hk55 : ∀ (v1 : Int32) (v2 : Int32) (S : mq_St) (H : Heap) (locs : List Loc) (ls : Array Slot), k55 v1 v2 S = some res → lv_has ls 7 [(0, .ref (a 0)), (1, .int (v1)), (2, .int (v2))] → va_P D vwCl (wd_R a cI cL cB cZ z S) H → va_D A (wd_R a cI cL cB cZ z S) → va_S A s.heap H locs → W p l e zr_X11_fold s m args below meth c H locs 0 0 Q (F0 m 55 ls [])) (v1 : Int32) (v2 : Int32) (S : mq_St) (H : Heap) (locs : List Loc) (ls : Array Slot) (h : zf_X11_fold_55b N z k55 v1 v2 S = some res) (hl : lv_has ls 7 [(0, .ref (a 0)), (1, .int (v1)), (2, .int (v2))]) (hP : va_P D vwCl (wd_R a cI cL cB cZ z S) H) (hD : va_D A (wd_R a cI cL cB cZ z S)) (hS : va_S A s.heap H locs) : W p l e zr_X11_fold s m args below meth c H locs 0 0 Q (F0 m 55 ls []) := by
  obtain ⟨hx, hb, hml, hown, hts, hK, hA⟩ := id C
  unfold zf_X11_fold_55b at h
  refine lv_iload_n hx hb dX11_fold_55 rfl (lv_at hl 2 rfl) ?_
  refine lv_if_eq (tgt := 158) hx hb dX11_fold_56 (by decide) (fun c21 => ?_) (fun c21 => ?_)
  · replace h := mq_it c21 h
    refine lv_iconst (v := (0 : Int32)) hx hb dX11_fold_158 (by decide) ?_
    refine lv_topi (fun x14 ex14 => ?_)
    replace h := mq_nI_go ex14 h
    refine lv_istore_n (lv' := [(3, .int (x14)), (0, .ref (a 0)), (1, .int (v1)), (2, .int (v2))]) hx hb dX11_fold_159 rfl hl (by decide) rfl (fun ls hl => ?_)
    refine lv_iconst (v := (0 : Int32)) hx hb dX11_fold_160 (by decide) ?_
    refine lv_topi (fun x15 ex15 => ?_)
    replace h := mq_nI_go ex15 h
    refine lv_istore (lv' := [(4, .int (x15)), (3, .int (x14)), (0, .ref (a 0)), (1, .int (v1)), (2, .int (v2))]) hx hb dX11_fold_161 hl (by decide) rfl (fun ls hl => ?_)
    exact zw_X11_fold_163 C hret N (v1) (x14) (x15) S H locs ls h (lv_sub hl [2, 3, 1, 0] rfl) hP hD hS
  · replace h := mq_if c21 h
    refine lv_iconst (v := (0 : Int32)) hx hb dX11_fold_59 (by decide) ?_
    refine lv_topi (fun x16 ex16 => ?_)
    replace h := mq_nI_go ex16 h
    refine lv_istore_n (lv' := [(2, .int (x16)), (0, .ref (a 0)), (1, .int (v1))]) hx hb dX11_fold_60 rfl hl (by decide) rfl (fun ls hl => ?_)
    refine lv_aload_n hx hb dX11_fold_61 rfl (lv_at hl 1 rfl) ?_
    obtain ⟨q17, hc18, h⟩ := mq_cl_go h
    refine zk_X11_look C zt_m_X11_396 ⟨by decide, by decide⟩ hc18 hP hD hS hl.1 (Nat.le_of_ble_eq_true rfl) dX11_fold_62 (fun H locs hP hD hS => ?_)
    obtain ⟨S19, eS19⟩ : ∃ y, y = q17.2 := ⟨_, rfl⟩
    rw [← eS19] at hP hD h
    refine lv_iconst (v := (0 : Int32)) hx hb dX11_fold_65 (by decide) ?_
    refine lv_topi (fun x20 ex20 => ?_)
    replace h := mq_nI_go ex20 h
    refine lv_istore_n (lv' := [(3, .int (x20)), (2, .int (x16)), (0, .ref (a 0)), (1, .int (v1))]) hx hb dX11_fold_66 rfl hl (by decide) rfl (fun ls hl => ?_)
    exact zw_X11_fold_67 C hret hk55 N (v1) (x16) (x20) S19 H locs ls h (lv_sub hl [2, 3, 1, 0] rfl) hP hD hS
set_option maxHeartbeats 4000000 in
set_option maxRecDepth 100000 in
theorem zw_X11_fold_55 {p : Program} {l : Launch} {e : Env} {s : State} {m : MethodId} {args : Array Value} {below : List Frame} {meth : Method} {c : Code} {A : Nat → Prop} {D : va_G} {a z : Nat → Nat} {cI cL cB cZ : ClassId} {Q : State → Prop} {N : Nat} {res : Int32 × mq_St} (C : mq_C p s m args c A D cI cL cB cZ cX11_fold 7 RX11 zc_X11_fold) (hret : ∀ (H : Heap) (locs : List Loc) (ls : Array Slot) (pc : Nat), decode cX11_fold pc = .ok (.ireturn, 1) → va_P D vwCl (wd_R a cI cL cB cZ z res.2) H → va_D A (wd_R a cI cL cB cZ z res.2) → va_S A s.heap H locs → W p l e zr_X11_fold s m args below meth c H locs 0 0 Q (F0 m pc ls [.int res.1])) : ∀ (n : Nat) (v1 : Int32) (v2 : Int32) (S : mq_St) (H : Heap) (locs : List Loc) (ls : Array Slot) (h : zf_X11_fold_55 N z n v1 v2 S = some res) (hl : lv_has ls 7 [(0, .ref (a 0)), (1, .int (v1)), (2, .int (v2))]) (hP : va_P D vwCl (wd_R a cI cL cB cZ z S) H) (hD : va_D A (wd_R a cI cL cB cZ z S)) (hS : va_S A s.heap H locs), W p l e zr_X11_fold s m args below meth c H locs 0 0 Q (F0 m 55 ls []) := by
  intro n
  induction n with
  | zero =>
    intro v1 v2 S H locs ls h hl hP hD hS
    exact nomatch (show (none : Option (Int32 × mq_St)) = some res from h)
  | succ n ih =>
    intro v1 v2 S H locs ls h hl hP hD hS
    exact zw_X11_fold_55b C hret (fun v1 v2 S H locs ls h hl hP hD hS => ih v1 v2 S H locs ls h hl hP hD hS) v1 v2 S H locs ls h hl hP hD hS
set_option maxHeartbeats 4000000 in
set_option maxRecDepth 100000 in
theorem zw_X11_fold_12b {p : Program} {l : Launch} {e : Env} {s : State} {m : MethodId} {args : Array Value} {below : List Frame} {meth : Method} {c : Code} {A : Nat → Prop} {D : va_G} {a z : Nat → Nat} {cI cL cB cZ : ClassId} {Q : State → Prop} {N : Nat} {res : Int32 × mq_St} {k12 : Int32 → Int32 → mq_St → Option (Int32 × mq_St)} (C : mq_C p s m args c A D cI cL cB cZ cX11_fold 7 RX11 zc_X11_fold) (hret : ∀ (H : Heap) (locs : List Loc) (ls : Array Slot) (pc : Nat), decode cX11_fold pc = .ok (.ireturn, 1) → va_P D vwCl (wd_R a cI cL cB cZ z res.2) H → va_D A (wd_R a cI cL cB cZ z res.2) → va_S A s.heap H locs → W p l e zr_X11_fold s m args below meth c H locs 0 0 Q (F0 m pc ls [.int res.1])) (hk12 : ∀ (v1 : Int32) (v2 : Int32) (S : mq_St) (H : Heap) (locs : List Loc) (ls : Array Slot), k12 v1 v2 S = some res → lv_has ls 7 [(0, .ref (a 0)), (1, .int (v1)), (2, .int (v2))] → va_P D vwCl (wd_R a cI cL cB cZ z S) H → va_D A (wd_R a cI cL cB cZ z S) → va_S A s.heap H locs → W p l e zr_X11_fold s m args below meth c H locs 0 0 Q (F0 m 12 ls [])) (v1 : Int32) (v2 : Int32) (S : mq_St) (H : Heap) (locs : List Loc) (ls : Array Slot) (h : zf_X11_fold_12b N z k12 v1 v2 S = some res) (hl : lv_has ls 7 [(0, .ref (a 0)), (1, .int (v1)), (2, .int (v2))]) (hP : va_P D vwCl (wd_R a cI cL cB cZ z S) H) (hD : va_D A (wd_R a cI cL cB cZ z S)) (hS : va_S A s.heap H locs) : W p l e zr_X11_fold s m args below meth c H locs 0 0 Q (F0 m 12 ls []) := by
  obtain ⟨hx, hb, hml, hown, hts, hK, hA⟩ := id C
  unfold zf_X11_fold_12b at h
  refine lv_iload_n hx hb dX11_fold_12 rfl (lv_at hl 2 rfl) ?_
  refine lv_iload_n hx hb dX11_fold_13 rfl (lv_at hl 1 rfl) ?_
  refine lv_icmp_ge (tgt := 53) hx hb dX11_fold_14 (by decide) (fun c6 => ?_) (fun c6 => ?_)
  · replace h := mq_it c6 h
    refine lv_iconst (v := (1 : Int32)) hx hb dX11_fold_53 (by decide) ?_
    refine lv_topi (fun x4 ex4 => ?_)
    replace h := mq_nI_go ex4 h
    refine lv_istore_n (lv' := [(2, .int (x4)), (0, .ref (a 0)), (1, .int (v1))]) hx hb dX11_fold_54 rfl hl (by decide) rfl (fun ls hl => ?_)
    exact zw_X11_fold_55 C hret N (v1) (x4) S H locs ls h (lv_sub hl [1, 2, 0] rfl) hP hD hS
  · replace h := mq_if c6 h
    refine lv_iconst (v := (0 : Int32)) hx hb dX11_fold_17 (by decide) ?_
    refine lv_topi (fun x5 ex5 => ?_)
    replace h := mq_nI_go ex5 h
    refine lv_istore_n (lv' := [(3, .int (x5)), (0, .ref (a 0)), (1, .int (v1)), (2, .int (v2))]) hx hb dX11_fold_18 rfl hl (by decide) rfl (fun ls hl => ?_)
    exact zw_X11_fold_19 C hret hk12 N (v1) (v2) (x5) S H locs ls h (lv_sub hl [1, 2, 3, 0] rfl) hP hD hS
set_option maxHeartbeats 4000000 in
set_option maxRecDepth 100000 in
theorem zw_X11_fold_12 {p : Program} {l : Launch} {e : Env} {s : State} {m : MethodId} {args : Array Value} {below : List Frame} {meth : Method} {c : Code} {A : Nat → Prop} {D : va_G} {a z : Nat → Nat} {cI cL cB cZ : ClassId} {Q : State → Prop} {N : Nat} {res : Int32 × mq_St} (C : mq_C p s m args c A D cI cL cB cZ cX11_fold 7 RX11 zc_X11_fold) (hret : ∀ (H : Heap) (locs : List Loc) (ls : Array Slot) (pc : Nat), decode cX11_fold pc = .ok (.ireturn, 1) → va_P D vwCl (wd_R a cI cL cB cZ z res.2) H → va_D A (wd_R a cI cL cB cZ z res.2) → va_S A s.heap H locs → W p l e zr_X11_fold s m args below meth c H locs 0 0 Q (F0 m pc ls [.int res.1])) : ∀ (n : Nat) (v1 : Int32) (v2 : Int32) (S : mq_St) (H : Heap) (locs : List Loc) (ls : Array Slot) (h : zf_X11_fold_12 N z n v1 v2 S = some res) (hl : lv_has ls 7 [(0, .ref (a 0)), (1, .int (v1)), (2, .int (v2))]) (hP : va_P D vwCl (wd_R a cI cL cB cZ z S) H) (hD : va_D A (wd_R a cI cL cB cZ z S)) (hS : va_S A s.heap H locs), W p l e zr_X11_fold s m args below meth c H locs 0 0 Q (F0 m 12 ls []) := by
  intro n
  induction n with
  | zero =>
    intro v1 v2 S H locs ls h hl hP hD hS
    exact nomatch (show (none : Option (Int32 × mq_St)) = some res from h)
  | succ n ih =>
    intro v1 v2 S H locs ls h hl hP hD hS
    exact zw_X11_fold_12b C hret (fun v1 v2 S H locs ls h hl hP hD hS => ih v1 v2 S H locs ls h hl hP hD hS) v1 v2 S H locs ls h hl hP hD hS
set_option maxHeartbeats 4000000 in
set_option maxRecDepth 100000 in
theorem zw_X11_fold_0 {p : Program} {l : Launch} {e : Env} {s : State} {m : MethodId} {args : Array Value} {below : List Frame} {meth : Method} {c : Code} {A : Nat → Prop} {D : va_G} {a z : Nat → Nat} {cI cL cB cZ : ClassId} {Q : State → Prop} {N : Nat} {res : Int32 × mq_St} (C : mq_C p s m args c A D cI cL cB cZ cX11_fold 7 RX11 zc_X11_fold) (hret : ∀ (H : Heap) (locs : List Loc) (ls : Array Slot) (pc : Nat), decode cX11_fold pc = .ok (.ireturn, 1) → va_P D vwCl (wd_R a cI cL cB cZ z res.2) H → va_D A (wd_R a cI cL cB cZ z res.2) → va_S A s.heap H locs → W p l e zr_X11_fold s m args below meth c H locs 0 0 Q (F0 m pc ls [.int res.1])) (S : mq_St) (H : Heap) (locs : List Loc) (ls : Array Slot) (h : zf_X11_fold N z S = some res) (hl : lv_has ls 7 [(0, .ref (a 0))]) (hP : va_P D vwCl (wd_R a cI cL cB cZ z S) H) (hD : va_D A (wd_R a cI cL cB cZ z S)) (hS : va_S A s.heap H locs) : W p l e zr_X11_fold s m args below meth c H locs 0 0 Q (F0 m 0 ls []) := by
  obtain ⟨hx, hb, hml, hown, hts, hK, hA⟩ := id C
  unfold zf_X11_fold at h
  refine lv_aload_n hx hb dX11_fold_0 rfl (lv_at hl 0 rfl) ?_
  refine lv_iconst (v := (0 : Int32)) hx hb dX11_fold_1 (by decide) ?_
  refine mq_put (w := wd_R a cI cL cB cZ z) (S := S) (D := D) (ci := 11) (v := (0 : Int32)) (ty := .int) (C := RX11) (T := TX11) (N := 76) hx hb hts (zi_X11 _) tyX11 tyX11_ok nmX11 hown hK hP hD hS 0 rfl rfl 0 (by decide) (hts _ (List.mem_cons_of_mem _ zt_f_X11_151)) (fun _ h9 => h9) rfl (by decide +kernel) rfl rfl (Nat.le_of_ble_eq_true rfl) dX11_fold_2 0 (zs_wd_R_i_0_0 _ _ _ _ _ _ _ _) (fun S1 eS1 H locs hP hD hS => ?_)
  replace h := mq_nS_go eS1 h
  refine lv_aload_n hx hb dX11_fold_5 rfl (lv_at hl 0 rfl) ?_
  refine va_get (D := D) (ci := 11) (v := .int ((S1.1 31))) (C := RX11) (T := TX11) (N := 76) hx hb hts (zi_X11 _) hown hK hP 0 rfl rfl 65 (by decide) (hts _ (List.mem_cons_of_mem _ zt_f_X11_375)) (fun _ h9 => h9) rfl dX11_fold_6 ?_
  refine lv_topi (fun x2 ex2 => ?_)
  replace h := mq_nI_go ex2 h
  refine lv_istore_n (lv' := [(1, .int (x2)), (0, .ref (a 0))]) hx hb dX11_fold_9 rfl hl (by decide) rfl (fun ls hl => ?_)
  refine lv_iconst (v := (0 : Int32)) hx hb dX11_fold_10 (by decide) ?_
  refine lv_topi (fun x3 ex3 => ?_)
  replace h := mq_nI_go ex3 h
  refine lv_istore_n (lv' := [(2, .int (x3)), (1, .int (x2)), (0, .ref (a 0))]) hx hb dX11_fold_11 rfl hl (by decide) rfl (fun ls hl => ?_)
  exact zw_X11_fold_12 C hret N (x2) (x3) S1 H locs ls h (lv_sub hl [2, 1, 0] rfl) hP hD hS
set_option maxHeartbeats 4000000 in
set_option maxRecDepth 100000 in
theorem zm_X11_fold (l : Launch) (D : va_G) (a z : Nat → Nat) (cI cL cB cZ : ClassId) (sz N : Nat) (S : mq_St) (res : Int32 × mq_St) (h : zf_X11_fold N z S = some res) : Met l yX11_fold (zc_X11_fold :: mq_T) zr_X11_fold (va_Pc [.ref (a 0)] (fun U => U.heap.size = sz ∧ va_P D vwCl (wd_R a cI cL cB cZ z S) U.heap ∧ va_K D vwCl (mq_tys cI cL cB cZ) U ∧ va_D (fun _ => True) (wd_R a cI cL cB cZ z S))) (va_Qi (fun (r : Int32) (u : mq_St) => r = res.1 ∧ u = res.2) (fun u t => va_P D vwCl (wd_R a cI cL cB cZ z u) t.heap ∧ va_K D vwCl (mq_tys cI cL cB cZ) t ∧ va_D (va_A (wd_R a cI cL cB cZ z S) sz) (wd_R a cI cL cB cZ z u)) (va_A (wd_R a cI cL cB cZ z S) sz)) 0 0 (va_A (wd_R a cI cL cB cZ z S) sz) := by
  refine Met.ofW (cc := cX11_fold) (maxL := 7) (ret := (some .int)) (by decide) rfl ?_
  intro p e s m args below meth c s₁ B hml hv
  obtain ⟨rfl, hsz, hP, hK, hD0⟩ := hv
  have hr := B.returns
  have hlocks := B.notSynchronized
  have hts := atoms_spec (ws := zc_X11_fold :: mq_T) B.pre
  have hown : s.vm.findClass RX11 = some m.cls := findClass_of_methodNamed B.named
  subst hsz
  have hD := hD0.self (sz := s.heap.size)
  generalize hAe : va_A (wd_R a cI cL cB cZ z S) s.heap.size = A at hD ⊢
  have hA : ∀ q : Nat, s.heap.size ≤ q → A q := fun q h => by rw [← hAe]; exact Or.inr h
  have hl := lv_entry ([.ref (a 0)]) (n := 7) (Nat.le_of_ble_eq_true rfl)
  rw [lg_entry_eq]
  generalize (lg_sl ([.ref (a 0)]) ++ List.replicate (7 - (lg_sl ([.ref (a 0)])).length) Slot.unset).toArray = ls at hl ⊢
  have hl : lv_has ls 7 [(0, .ref (a 0))] := hl
  refine zw_X11_fold_0 (A := A) ⟨B.exec, B.bytes, hml, hown, hts, hK, hA⟩ (fun H locs ls pc dg hP hD hS => ?_) S s.heap [] ls h hl hP hD va_S.rf
  exact W.iret B.exec B.bytes hr (fun t ht hW => ⟨⟨_, _, rfl, ⟨rfl, rfl⟩, by rw [ht]; exact hP, va_K.moved hW.alike hK, hD⟩, hS.F ht⟩) hS.2.2 dg
theorem zt_X11_fold_c : zc_X11_fold ∈ mq_T := mq_T_mem (mq_t7 (List.mem_of_getElem? (i := 175) rfl)) rfl
theorem zt_X11_fold_i : Cond.instanceMethod yX11_fold ∈ mq_T := mq_T_mem (mq_t7 (List.mem_of_getElem? (i := 173) rfl)) rfl
theorem zt_X11_fold_s : Cond.selects RX11 yX11_fold yX11_fold ∈ mq_T := mq_T_mem (mq_t7 (List.mem_of_getElem? (i := 174) rfl)) rfl
/-! ModalDeskModel.cut(I)I -/
def zr_X11_cut : Room := { frames := 2, cells := 0, slots := 0, locals := 43 }
def zc_X11_cut : Cond := .code yX11_cut cX11_cut 5 (some .int)
def zf_X11_cut_58 (N : Nat) (z : Nat → Nat) (k21 : Int32 → Int32 → Int32 → mq_St → Option (Int32 × mq_St)) (v1 : Int32) (v2 : Int32) (v3 : Int32) (S : mq_St) : Option (Int32 × mq_St) := (mq_nI (v3 + (1 : Int32)) (fun x17 => (k21 (v1) (v2) (x17) S)))
def zf_X11_cut_74b (N : Nat) (z : Nat → Nat) (k66 : Int32 → Int32 → mq_St → Option (Int32 × mq_St)) (k74 : Int32 → Int32 → Int32 → mq_St → Option (Int32 × mq_St)) (v2 : Int32) (v3 : Int32) (v4 : Int32) (S : mq_St) : Option (Int32 × mq_St) := (if v2 ≤ v4 then (mq_nI (v3 + (1 : Int32)) (fun x23 => (k66 (v2) (x23) S))) else (mq_ck (v3) 60 (mq_ck (v4) 60 (mq_ck ((((60 : Int32) * (S.2.1 42 (v3).toNatClampNeg)) + (S.2.1 42 (v4).toNatClampNeg))) 3600 (mq_ck ((((60 : Int32) * v3) + v4)) 3600 (mq_nS (mq_sa S 43 (upd (S.2.1 43) ((((60 : Int32) * v3) + v4)).toNatClampNeg (vp_nar .boolean ((S.2.1 35 ((((60 : Int32) * (S.2.1 42 (v3).toNatClampNeg)) + (S.2.1 42 (v4).toNatClampNeg))).toNatClampNeg))))) (fun S28 => (mq_nI (v4 + (1 : Int32)) (fun x29 => (k74 (v2) (v3) (x29) S28))))))))))
def zf_X11_cut_74 (N : Nat) (z : Nat → Nat) (k66 : Int32 → Int32 → mq_St → Option (Int32 × mq_St)) : Nat → Int32 → Int32 → Int32 → mq_St → Option (Int32 × mq_St)
  | 0, _, _, _, _ => none
  | n + 1, v2, v3, v4, S => zf_X11_cut_74b N z k66 (fun v2 v3 v4 S => zf_X11_cut_74 N z k66 n v2 v3 v4 S) v2 v3 v4 S
def zf_X11_cut_66b (N : Nat) (z : Nat → Nat) (k66 : Int32 → Int32 → mq_St → Option (Int32 × mq_St)) (v2 : Int32) (v3 : Int32) (S : mq_St) : Option (Int32 × mq_St) := (if v2 ≤ v3 then (mq_cl (zf_X11_settle N z (v2) S) (fun q18v S20 => (some (v2, S20)))) else (mq_nI ((0 : Int32)) (fun x21 => (zf_X11_cut_74 N z k66 N (v2) (v3) (x21) S))))
def zf_X11_cut_66 (N : Nat) (z : Nat → Nat) : Nat → Int32 → Int32 → mq_St → Option (Int32 × mq_St)
  | 0, _, _, _ => none
  | n + 1, v2, v3, S => zf_X11_cut_66b N z (fun v2 v3 S => zf_X11_cut_66 N z n v2 v3 S) v2 v3 S
def zf_X11_cut_21b (N : Nat) (z : Nat → Nat) (k21 : Int32 → Int32 → Int32 → mq_St → Option (Int32 × mq_St)) (v1 : Int32) (v2 : Int32) (v3 : Int32) (S : mq_St) : Option (Int32 × mq_St) := (if (S.1 31) ≤ v3 then (mq_nI ((0 : Int32)) (fun x9 => (zf_X11_cut_66 N z N (v2) (x9) S))) else (if v3 = v1 then (zf_X11_cut_58 N z k21 (v1) (v2) (v3) S) else (mq_ck ((((60 : Int32) * v1) + v3)) 3600 (if (S.2.1 35 ((((60 : Int32) * v1) + v3)).toNatClampNeg) = (0 : Int32) then (zf_X11_cut_58 N z k21 (v1) (v2) (v3) S) else (mq_ck (v2) 60 (mq_nS (mq_sa S 42 (upd (S.2.1 42) (v2).toNatClampNeg (v3))) (fun S12 => (mq_nI (v2 + (1 : Int32)) (fun x13 => (zf_X11_cut_58 N z k21 (v1) (x13) (v3) S12))))))))))
def zf_X11_cut_21 (N : Nat) (z : Nat → Nat) : Nat → Int32 → Int32 → Int32 → mq_St → Option (Int32 × mq_St)
  | 0, _, _, _, _ => none
  | n + 1, v1, v2, v3, S => zf_X11_cut_21b N z (fun v1 v2 v3 S => zf_X11_cut_21 N z n v1 v2 v3 S) v1 v2 v3 S
def zf_X11_cut (N : Nat) (z : Nat → Nat) (v1 : Int32) (S : mq_St) : Option (Int32 × mq_St) := (mq_cl (zf_X11_world0 N z (v1) S) (fun q1v S3 => (if q1v = (0 : Int32) then (some ((0 : Int32), S3)) else (mq_ck ((0 : Int32)) 60 (mq_nS (mq_sa S3 42 (upd (S3.2.1 42) ((0 : Int32)).toNatClampNeg (v1))) (fun S5 => (mq_nI ((1 : Int32)) (fun x6 => (mq_nI ((0 : Int32)) (fun x7 => (zf_X11_cut_21 N z N (v1) (x6) (x7) S5)))))))))))
set_option maxHeartbeats 4000000 in
set_option maxRecDepth 100000 in
theorem zw_X11_cut_58 {p : Program} {l : Launch} {e : Env} {s : State} {m : MethodId} {args : Array Value} {below : List Frame} {meth : Method} {c : Code} {A : Nat → Prop} {D : va_G} {a z : Nat → Nat} {cI cL cB cZ : ClassId} {Q : State → Prop} {N : Nat} {res : Int32 × mq_St} {k21 : Int32 → Int32 → Int32 → mq_St → Option (Int32 × mq_St)} (C : mq_C p s m args c A D cI cL cB cZ cX11_cut 5 RX11 zc_X11_cut) (hret : ∀ (H : Heap) (locs : List Loc) (ls : Array Slot) (pc : Nat), decode cX11_cut pc = .ok (.ireturn, 1) → va_P D vwCl (wd_R a cI cL cB cZ z res.2) H → va_D A (wd_R a cI cL cB cZ z res.2) → va_S A s.heap H locs → W p l e zr_X11_cut s m args below meth c H locs 0 0 Q (F0 m pc ls [.int res.1])) (hk21 : ∀ (v1 : Int32) (v2 : Int32) (v3 : Int32) (S : mq_St) (H : Heap) (locs : List Loc) (ls : Array Slot), k21 v1 v2 v3 S = some res → lv_has ls 5 [(0, .ref (a 0)), (1, .int (v1)), (2, .int (v2)), (3, .int (v3))] → va_P D vwCl (wd_R a cI cL cB cZ z S) H → va_D A (wd_R a cI cL cB cZ z S) → va_S A s.heap H locs → W p l e zr_X11_cut s m args below meth c H locs 0 0 Q (F0 m 21 ls [])) (v1 : Int32) (v2 : Int32) (v3 : Int32) (S : mq_St) (H : Heap) (locs : List Loc) (ls : Array Slot) (h : zf_X11_cut_58 N z k21 v1 v2 v3 S = some res) (hl : lv_has ls 5 [(0, .ref (a 0)), (1, .int (v1)), (2, .int (v2)), (3, .int (v3))]) (hP : va_P D vwCl (wd_R a cI cL cB cZ z S) H) (hD : va_D A (wd_R a cI cL cB cZ z S)) (hS : va_S A s.heap H locs) : W p l e zr_X11_cut s m args below meth c H locs 0 0 Q (F0 m 58 ls []) := by
  obtain ⟨hx, hb, hml, hown, hts, hK, hA⟩ := id C
  unfold zf_X11_cut_58 at h
  obtain ⟨x17, ex17⟩ : ∃ y : Int32, y = v3 + (1 : Int32) := ⟨_, rfl⟩
  replace h := mq_nI_go ex17 h
  refine lv_iinc (v := x17) (lv' := [(3, .int (x17)), (0, .ref (a 0)), (1, .int (v1)), (2, .int (v2))]) hx hb dX11_cut_58 hl (k := 3) rfl (by rw [ex17]; rfl) (by decide) rfl (fun ls hl => ?_)
  refine lv_goto (tgt := 21) hx hb dX11_cut_61 (by decide) ?_
  exact hk21 (v1) (v2) (x17) S H locs ls h (lv_sub hl [1, 2, 3, 0] rfl) hP hD hS
set_option maxHeartbeats 4000000 in
set_option maxRecDepth 100000 in
theorem zw_X11_cut_74b {p : Program} {l : Launch} {e : Env} {s : State} {m : MethodId} {args : Array Value} {below : List Frame} {meth : Method} {c : Code} {A : Nat → Prop} {D : va_G} {a z : Nat → Nat} {cI cL cB cZ : ClassId} {Q : State → Prop} {N : Nat} {res : Int32 × mq_St} {k66 : Int32 → Int32 → mq_St → Option (Int32 × mq_St)} {k74 : Int32 → Int32 → Int32 → mq_St → Option (Int32 × mq_St)} (C : mq_C p s m args c A D cI cL cB cZ cX11_cut 5 RX11 zc_X11_cut) (hret : ∀ (H : Heap) (locs : List Loc) (ls : Array Slot) (pc : Nat), decode cX11_cut pc = .ok (.ireturn, 1) → va_P D vwCl (wd_R a cI cL cB cZ z res.2) H → va_D A (wd_R a cI cL cB cZ z res.2) → va_S A s.heap H locs → W p l e zr_X11_cut s m args below meth c H locs 0 0 Q (F0 m pc ls [.int res.1])) (hk66 : ∀ (v2 : Int32) (v3 : Int32) (S : mq_St) (H : Heap) (locs : List Loc) (ls : Array Slot), k66 v2 v3 S = some res → lv_has ls 5 [(0, .ref (a 0)), (2, .int (v2)), (3, .int (v3))] → va_P D vwCl (wd_R a cI cL cB cZ z S) H → va_D A (wd_R a cI cL cB cZ z S) → va_S A s.heap H locs → W p l e zr_X11_cut s m args below meth c H locs 0 0 Q (F0 m 66 ls [])) (hk74 : ∀ (v2 : Int32) (v3 : Int32) (v4 : Int32) (S : mq_St) (H : Heap) (locs : List Loc) (ls : Array Slot), k74 v2 v3 v4 S = some res → lv_has ls 5 [(0, .ref (a 0)), (2, .int (v2)), (3, .int (v3)), (4, .int (v4))] → va_P D vwCl (wd_R a cI cL cB cZ z S) H → va_D A (wd_R a cI cL cB cZ z S) → va_S A s.heap H locs → W p l e zr_X11_cut s m args below meth c H locs 0 0 Q (F0 m 74 ls [])) (v2 : Int32) (v3 : Int32) (v4 : Int32) (S : mq_St) (H : Heap) (locs : List Loc) (ls : Array Slot) (h : zf_X11_cut_74b N z k66 k74 v2 v3 v4 S = some res) (hl : lv_has ls 5 [(0, .ref (a 0)), (2, .int (v2)), (3, .int (v3)), (4, .int (v4))]) (hP : va_P D vwCl (wd_R a cI cL cB cZ z S) H) (hD : va_D A (wd_R a cI cL cB cZ z S)) (hS : va_S A s.heap H locs) : W p l e zr_X11_cut s m args below meth c H locs 0 0 Q (F0 m 74 ls []) := by
  obtain ⟨hx, hb, hml, hown, hts, hK, hA⟩ := id C
  unfold zf_X11_cut_74b at h
  refine lv_iload hx hb dX11_cut_74 (lv_at hl 3 rfl) ?_
  refine lv_iload_n hx hb dX11_cut_76 rfl (lv_at hl 1 rfl) ?_
  refine lv_icmp_ge (tgt := 120) hx hb dX11_cut_77 (by decide) (fun c30 => ?_) (fun c30 => ?_)
  · replace h := mq_it c30 h
    obtain ⟨x23, ex23⟩ : ∃ y : Int32, y = v3 + (1 : Int32) := ⟨_, rfl⟩
    replace h := mq_nI_go ex23 h
    refine lv_iinc (v := x23) (lv' := [(3, .int (x23)), (0, .ref (a 0)), (2, .int (v2)), (4, .int (v4))]) hx hb dX11_cut_120 hl (k := 2) rfl (by rw [ex23]; rfl) (by decide) rfl (fun ls hl => ?_)
    refine lv_goto (tgt := 66) hx hb dX11_cut_123 (by decide) ?_
    exact hk66 (v2) (x23) S H locs ls h (lv_sub hl [1, 2, 0] rfl) hP hD hS
  · replace h := mq_if c30 h
    refine lv_aload_n hx hb dX11_cut_80 rfl (lv_at hl 0 rfl) ?_
    refine va_get (D := D) (ci := 11) (v := .ref (a 44)) (C := RX11) (T := TX11) (N := 76) hx hb hts (zi_X11 _) hown hK hP 0 rfl rfl 75 (by decide) (hts _ (List.mem_cons_of_mem _ zt_f_X11_148)) (fun _ h9 => h9) rfl dX11_cut_81 ?_
    refine lv_bipush (v := (60 : Int32)) hx hb dX11_cut_84 (by decide) ?_
    refine lv_iload_n hx hb dX11_cut_86 rfl (lv_at hl 2 rfl) ?_
    refine lv_imul hx hb dX11_cut_87 ?_
    refine lv_iload hx hb dX11_cut_88 (lv_at hl 3 rfl) ?_
    refine lv_iadd hx hb dX11_cut_90 ?_
    refine lv_aload_n hx hb dX11_cut_91 rfl (lv_at hl 0 rfl) ?_
    refine va_get (D := D) (ci := 11) (v := .ref (a 36)) (C := RX11) (T := TX11) (N := 76) hx hb hts (zi_X11 _) hown hK hP 0 rfl rfl 67 (by decide) (hts _ (List.mem_cons_of_mem _ zt_f_X11_124)) (fun _ h9 => h9) rfl dX11_cut_92 ?_
    refine lv_bipush (v := (60 : Int32)) hx hb dX11_cut_95 (by decide) ?_
    refine lv_aload_n hx hb dX11_cut_97 rfl (lv_at hl 0 rfl) ?_
    refine va_get (D := D) (ci := 11) (v := .ref (a 43)) (C := RX11) (T := TX11) (N := 76) hx hb hts (zi_X11 _) hown hK hP 0 rfl rfl 74 (by decide) (hts _ (List.mem_cons_of_mem _ zt_f_X11_145)) (fun _ h9 => h9) rfl dX11_cut_98 ?_
    refine lv_iload_n hx hb dX11_cut_101 rfl (lv_at hl 2 rfl) ?_
    have hi24 := mq_ck_in h
    replace h := mq_ck_go h
    refine va_iald (f := S.2.1 42) hx hb hK hP 43 0 rfl rfl hi24 dX11_cut_102 ?_
    refine lv_imul hx hb dX11_cut_103 ?_
    refine lv_aload_n hx hb dX11_cut_104 rfl (lv_at hl 0 rfl) ?_
    refine va_get (D := D) (ci := 11) (v := .ref (a 43)) (C := RX11) (T := TX11) (N := 76) hx hb hts (zi_X11 _) hown hK hP 0 rfl rfl 74 (by decide) (hts _ (List.mem_cons_of_mem _ zt_f_X11_145)) (fun _ h9 => h9) rfl dX11_cut_105 ?_
    refine lv_iload hx hb dX11_cut_108 (lv_at hl 3 rfl) ?_
    have hi25 := mq_ck_in h
    replace h := mq_ck_go h
    refine va_iald (f := S.2.1 42) hx hb hK hP 43 0 rfl rfl hi25 dX11_cut_110 ?_
    refine lv_iadd hx hb dX11_cut_111 ?_
    have hi26 := mq_ck_in h
    replace h := mq_ck_go h
    refine va_zald (f := S.2.1 35) hx hb hK hP 36 3 rfl rfl hi26 dX11_cut_112 ?_
    have hi27 := mq_ck_in h
    replace h := mq_ck_go h
    refine mq_zast (w := wd_R a cI cL cB cZ z) (S := S) (f := S.2.1 43) hx hb hK hP hD hS 44 3 rfl rfl hi27 dX11_cut_113 43 (zs_wd_R_a_44_43 _ _ _ _ _ _ _ _) (fun S28 eS28 H locs hP hD hS => ?_)
    replace h := mq_nS_go eS28 h
    obtain ⟨x29, ex29⟩ : ∃ y : Int32, y = v4 + (1 : Int32) := ⟨_, rfl⟩
    replace h := mq_nI_go ex29 h
    refine lv_iinc (v := x29) (lv' := [(4, .int (x29)), (0, .ref (a 0)), (2, .int (v2)), (3, .int (v3))]) hx hb dX11_cut_114 hl (k := 3) rfl (by rw [ex29]; rfl) (by decide) rfl (fun ls hl => ?_)
    refine lv_goto (tgt := 74) hx hb dX11_cut_117 (by decide) ?_
    exact hk74 (v2) (v3) (x29) S28 H locs ls h (lv_sub hl [1, 2, 3, 0] rfl) hP hD hS
set_option maxHeartbeats 4000000 in
set_option maxRecDepth 100000 in
theorem zw_X11_cut_74 {p : Program} {l : Launch} {e : Env} {s : State} {m : MethodId} {args : Array Value} {below : List Frame} {meth : Method} {c : Code} {A : Nat → Prop} {D : va_G} {a z : Nat → Nat} {cI cL cB cZ : ClassId} {Q : State → Prop} {N : Nat} {res : Int32 × mq_St} {k66 : Int32 → Int32 → mq_St → Option (Int32 × mq_St)} (C : mq_C p s m args c A D cI cL cB cZ cX11_cut 5 RX11 zc_X11_cut) (hret : ∀ (H : Heap) (locs : List Loc) (ls : Array Slot) (pc : Nat), decode cX11_cut pc = .ok (.ireturn, 1) → va_P D vwCl (wd_R a cI cL cB cZ z res.2) H → va_D A (wd_R a cI cL cB cZ z res.2) → va_S A s.heap H locs → W p l e zr_X11_cut s m args below meth c H locs 0 0 Q (F0 m pc ls [.int res.1])) (hk66 : ∀ (v2 : Int32) (v3 : Int32) (S : mq_St) (H : Heap) (locs : List Loc) (ls : Array Slot), k66 v2 v3 S = some res → lv_has ls 5 [(0, .ref (a 0)), (2, .int (v2)), (3, .int (v3))] → va_P D vwCl (wd_R a cI cL cB cZ z S) H → va_D A (wd_R a cI cL cB cZ z S) → va_S A s.heap H locs → W p l e zr_X11_cut s m args below meth c H locs 0 0 Q (F0 m 66 ls [])) : ∀ (n : Nat) (v2 : Int32) (v3 : Int32) (v4 : Int32) (S : mq_St) (H : Heap) (locs : List Loc) (ls : Array Slot) (h : zf_X11_cut_74 N z k66 n v2 v3 v4 S = some res) (hl : lv_has ls 5 [(0, .ref (a 0)), (2, .int (v2)), (3, .int (v3)), (4, .int (v4))]) (hP : va_P D vwCl (wd_R a cI cL cB cZ z S) H) (hD : va_D A (wd_R a cI cL cB cZ z S)) (hS : va_S A s.heap H locs), W p l e zr_X11_cut s m args below meth c H locs 0 0 Q (F0 m 74 ls []) := by
  intro n
  induction n with
  | zero =>
    intro v2 v3 v4 S H locs ls h hl hP hD hS
    exact nomatch (show (none : Option (Int32 × mq_St)) = some res from h)
  | succ n ih =>
    intro v2 v3 v4 S H locs ls h hl hP hD hS
    exact zw_X11_cut_74b C hret hk66 (fun v2 v3 v4 S H locs ls h hl hP hD hS => ih v2 v3 v4 S H locs ls h hl hP hD hS) v2 v3 v4 S H locs ls h hl hP hD hS
set_option maxHeartbeats 4000000 in
set_option maxRecDepth 100000 in
theorem zw_X11_cut_66b {p : Program} {l : Launch} {e : Env} {s : State} {m : MethodId} {args : Array Value} {below : List Frame} {meth : Method} {c : Code} {A : Nat → Prop} {D : va_G} {a z : Nat → Nat} {cI cL cB cZ : ClassId} {Q : State → Prop} {N : Nat} {res : Int32 × mq_St} {k66 : Int32 → Int32 → mq_St → Option (Int32 × mq_St)} (C : mq_C p s m args c A D cI cL cB cZ cX11_cut 5 RX11 zc_X11_cut) (hret : ∀ (H : Heap) (locs : List Loc) (ls : Array Slot) (pc : Nat), decode cX11_cut pc = .ok (.ireturn, 1) → va_P D vwCl (wd_R a cI cL cB cZ z res.2) H → va_D A (wd_R a cI cL cB cZ z res.2) → va_S A s.heap H locs → W p l e zr_X11_cut s m args below meth c H locs 0 0 Q (F0 m pc ls [.int res.1])) (hk66 : ∀ (v2 : Int32) (v3 : Int32) (S : mq_St) (H : Heap) (locs : List Loc) (ls : Array Slot), k66 v2 v3 S = some res → lv_has ls 5 [(0, .ref (a 0)), (2, .int (v2)), (3, .int (v3))] → va_P D vwCl (wd_R a cI cL cB cZ z S) H → va_D A (wd_R a cI cL cB cZ z S) → va_S A s.heap H locs → W p l e zr_X11_cut s m args below meth c H locs 0 0 Q (F0 m 66 ls [])) (v2 : Int32) (v3 : Int32) (S : mq_St) (H : Heap) (locs : List Loc) (ls : Array Slot) (h : zf_X11_cut_66b N z k66 v2 v3 S = some res) (hl : lv_has ls 5 [(0, .ref (a 0)), (2, .int (v2)), (3, .int (v3))]) (hP : va_P D vwCl (wd_R a cI cL cB cZ z S) H) (hD : va_D A (wd_R a cI cL cB cZ z S)) (hS : va_S A s.heap H locs) : W p l e zr_X11_cut s m args below meth c H locs 0 0 Q (F0 m 66 ls []) := by
  obtain ⟨hx, hb, hml, hown, hts, hK, hA⟩ := id C
  unfold zf_X11_cut_66b at h
  refine lv_iload_n hx hb dX11_cut_66 rfl (lv_at hl 2 rfl) ?_
  refine lv_iload_n hx hb dX11_cut_67 rfl (lv_at hl 1 rfl) ?_
  refine lv_icmp_ge (tgt := 126) hx hb dX11_cut_68 (by decide) (fun c22 => ?_) (fun c22 => ?_)
  · replace h := mq_it c22 h
    refine lv_aload_n hx hb dX11_cut_126 rfl (lv_at hl 0 rfl) ?_
    refine lv_iload_n hx hb dX11_cut_127 rfl (lv_at hl 1 rfl) ?_
    obtain ⟨q18, hc19, h⟩ := mq_cl_go h
    refine zk_X11_settle C zt_m_X11_402 ⟨by decide, by decide⟩ hc19 hP hD hS hl.1 (Nat.le_of_ble_eq_true rfl) dX11_cut_128 (fun H locs hP hD hS => ?_)
    obtain ⟨S20, eS20⟩ : ∃ y, y = q18.2 := ⟨_, rfl⟩
    rw [← eS20] at hP hD h
    refine lv_iload_n hx hb dX11_cut_131 rfl (lv_at hl 1 rfl) ?_
    cases h
    exact hret H locs ls 132 dX11_cut_132 hP hD hS
  · replace h := mq_if c22 h
    refine lv_iconst (v := (0 : Int32)) hx hb dX11_cut_71 (by decide) ?_
    refine lv_topi (fun x21 ex21 => ?_)
    replace h := mq_nI_go ex21 h
    refine lv_istore (lv' := [(4, .int (x21)), (0, .ref (a 0)), (2, .int (v2)), (3, .int (v3))]) hx hb dX11_cut_72 hl (by decide) rfl (fun ls hl => ?_)
    exact zw_X11_cut_74 C hret hk66 N (v2) (v3) (x21) S H locs ls h (lv_sub hl [1, 2, 3, 0] rfl) hP hD hS
set_option maxHeartbeats 4000000 in
set_option maxRecDepth 100000 in
theorem zw_X11_cut_66 {p : Program} {l : Launch} {e : Env} {s : State} {m : MethodId} {args : Array Value} {below : List Frame} {meth : Method} {c : Code} {A : Nat → Prop} {D : va_G} {a z : Nat → Nat} {cI cL cB cZ : ClassId} {Q : State → Prop} {N : Nat} {res : Int32 × mq_St} (C : mq_C p s m args c A D cI cL cB cZ cX11_cut 5 RX11 zc_X11_cut) (hret : ∀ (H : Heap) (locs : List Loc) (ls : Array Slot) (pc : Nat), decode cX11_cut pc = .ok (.ireturn, 1) → va_P D vwCl (wd_R a cI cL cB cZ z res.2) H → va_D A (wd_R a cI cL cB cZ z res.2) → va_S A s.heap H locs → W p l e zr_X11_cut s m args below meth c H locs 0 0 Q (F0 m pc ls [.int res.1])) : ∀ (n : Nat) (v2 : Int32) (v3 : Int32) (S : mq_St) (H : Heap) (locs : List Loc) (ls : Array Slot) (h : zf_X11_cut_66 N z n v2 v3 S = some res) (hl : lv_has ls 5 [(0, .ref (a 0)), (2, .int (v2)), (3, .int (v3))]) (hP : va_P D vwCl (wd_R a cI cL cB cZ z S) H) (hD : va_D A (wd_R a cI cL cB cZ z S)) (hS : va_S A s.heap H locs), W p l e zr_X11_cut s m args below meth c H locs 0 0 Q (F0 m 66 ls []) := by
  intro n
  induction n with
  | zero =>
    intro v2 v3 S H locs ls h hl hP hD hS
    exact nomatch (show (none : Option (Int32 × mq_St)) = some res from h)
  | succ n ih =>
    intro v2 v3 S H locs ls h hl hP hD hS
    exact zw_X11_cut_66b C hret (fun v2 v3 S H locs ls h hl hP hD hS => ih v2 v3 S H locs ls h hl hP hD hS) v2 v3 S H locs ls h hl hP hD hS
set_option maxHeartbeats 4000000 in
set_option maxRecDepth 100000 in
theorem zw_X11_cut_21b {p : Program} {l : Launch} {e : Env} {s : State} {m : MethodId} {args : Array Value} {below : List Frame} {meth : Method} {c : Code} {A : Nat → Prop} {D : va_G} {a z : Nat → Nat} {cI cL cB cZ : ClassId} {Q : State → Prop} {N : Nat} {res : Int32 × mq_St} {k21 : Int32 → Int32 → Int32 → mq_St → Option (Int32 × mq_St)} (C : mq_C p s m args c A D cI cL cB cZ cX11_cut 5 RX11 zc_X11_cut) (hret : ∀ (H : Heap) (locs : List Loc) (ls : Array Slot) (pc : Nat), decode cX11_cut pc = .ok (.ireturn, 1) → va_P D vwCl (wd_R a cI cL cB cZ z res.2) H → va_D A (wd_R a cI cL cB cZ z res.2) → va_S A s.heap H locs → W p l e zr_X11_cut s m args below meth c H locs 0 0 Q (F0 m pc ls [.int res.1])) (hk21 : ∀ (v1 : Int32) (v2 : Int32) (v3 : Int32) (S : mq_St) (H : Heap) (locs : List Loc) (ls : Array Slot), k21 v1 v2 v3 S = some res → lv_has ls 5 [(0, .ref (a 0)), (1, .int (v1)), (2, .int (v2)), (3, .int (v3))] → va_P D vwCl (wd_R a cI cL cB cZ z S) H → va_D A (wd_R a cI cL cB cZ z S) → va_S A s.heap H locs → W p l e zr_X11_cut s m args below meth c H locs 0 0 Q (F0 m 21 ls [])) (v1 : Int32) (v2 : Int32) (v3 : Int32) (S : mq_St) (H : Heap) (locs : List Loc) (ls : Array Slot) (h : zf_X11_cut_21b N z k21 v1 v2 v3 S = some res) (hl : lv_has ls 5 [(0, .ref (a 0)), (1, .int (v1)), (2, .int (v2)), (3, .int (v3))]) (hP : va_P D vwCl (wd_R a cI cL cB cZ z S) H) (hD : va_D A (wd_R a cI cL cB cZ z S)) (hS : va_S A s.heap H locs) : W p l e zr_X11_cut s m args below meth c H locs 0 0 Q (F0 m 21 ls []) := by
  obtain ⟨hx, hb, hml, hown, hts, hK, hA⟩ := id C
  unfold zf_X11_cut_21b at h
  refine lv_iload_n hx hb dX11_cut_21 rfl (lv_at hl 3 rfl) ?_
  refine lv_aload_n hx hb dX11_cut_22 rfl (lv_at hl 0 rfl) ?_
  refine va_get (D := D) (ci := 11) (v := .int ((S.1 31))) (C := RX11) (T := TX11) (N := 76) hx hb hts (zi_X11 _) hown hK hP 0 rfl rfl 65 (by decide) (hts _ (List.mem_cons_of_mem _ zt_f_X11_375)) (fun _ h9 => h9) rfl dX11_cut_23 ?_
  refine lv_icmp_ge (tgt := 64) hx hb dX11_cut_26 (by decide) (fun c16 => ?_) (fun c16 => ?_)
  · replace h := mq_it c16 h
    refine lv_iconst (v := (0 : Int32)) hx hb dX11_cut_64 (by decide) ?_
    refine lv_topi (fun x9 ex9 => ?_)
    replace h := mq_nI_go ex9 h
    refine lv_istore_n (lv' := [(3, .int (x9)), (0, .ref (a 0)), (1, .int (v1)), (2, .int (v2))]) hx hb dX11_cut_65 rfl hl (by decide) rfl (fun ls hl => ?_)
    exact zw_X11_cut_66 C hret N (v2) (x9) S H locs ls h (lv_sub hl [1, 3, 0] rfl) hP hD hS
  · replace h := mq_if c16 h
    refine lv_iload_n hx hb dX11_cut_29 rfl (lv_at hl 3 rfl) ?_
    refine lv_iload_n hx hb dX11_cut_30 rfl (lv_at hl 1 rfl) ?_
    refine lv_icmp_eq (tgt := 58) hx hb dX11_cut_31 (by decide) (fun c15 => ?_) (fun c15 => ?_)
    · replace h := mq_it c15 h
      exact zw_X11_cut_58 C hret hk21 (v1) (v2) (v3) S H locs ls h (lv_sub hl [0, 1, 2, 3] rfl) hP hD hS
    · replace h := mq_if c15 h
      refine lv_aload_n hx hb dX11_cut_34 rfl (lv_at hl 0 rfl) ?_
      refine va_get (D := D) (ci := 11) (v := .ref (a 36)) (C := RX11) (T := TX11) (N := 76) hx hb hts (zi_X11 _) hown hK hP 0 rfl rfl 67 (by decide) (hts _ (List.mem_cons_of_mem _ zt_f_X11_124)) (fun _ h9 => h9) rfl dX11_cut_35 ?_
      refine lv_bipush (v := (60 : Int32)) hx hb dX11_cut_38 (by decide) ?_
      refine lv_iload_n hx hb dX11_cut_40 rfl (lv_at hl 1 rfl) ?_
      refine lv_imul hx hb dX11_cut_41 ?_
      refine lv_iload_n hx hb dX11_cut_42 rfl (lv_at hl 3 rfl) ?_
      refine lv_iadd hx hb dX11_cut_43 ?_
      have hi10 := mq_ck_in h
      replace h := mq_ck_go h
      refine va_zald (f := S.2.1 35) hx hb hK hP 36 3 rfl rfl hi10 dX11_cut_44 ?_
      refine lv_if_eq (tgt := 58) hx hb dX11_cut_45 (by decide) (fun c14 => ?_) (fun c14 => ?_)
      · replace h := mq_it c14 h
        exact zw_X11_cut_58 C hret hk21 (v1) (v2) (v3) S H locs ls h (lv_sub hl [0, 1, 2, 3] rfl) hP hD hS
      · replace h := mq_if c14 h
        refine lv_aload_n hx hb dX11_cut_48 rfl (lv_at hl 0 rfl) ?_
        refine va_get (D := D) (ci := 11) (v := .ref (a 43)) (C := RX11) (T := TX11) (N := 76) hx hb hts (zi_X11 _) hown hK hP 0 rfl rfl 74 (by decide) (hts _ (List.mem_cons_of_mem _ zt_f_X11_145)) (fun _ h9 => h9) rfl dX11_cut_49 ?_
        refine lv_iload_n hx hb dX11_cut_52 rfl (lv_at hl 2 rfl) ?_
        refine lv_iload_n hx hb dX11_cut_53 rfl (lv_at hl 3 rfl) ?_
        have hi11 := mq_ck_in h
        replace h := mq_ck_go h
        refine mq_iast (w := wd_R a cI cL cB cZ z) (S := S) (f := S.2.1 42) hx hb hK hP hD hS 43 0 rfl rfl hi11 dX11_cut_54 42 (zs_wd_R_a_43_42 _ _ _ _ _ _ _ _) (fun S12 eS12 H locs hP hD hS => ?_)
        replace h := mq_nS_go eS12 h
        obtain ⟨x13, ex13⟩ : ∃ y : Int32, y = v2 + (1 : Int32) := ⟨_, rfl⟩
        replace h := mq_nI_go ex13 h
        refine lv_iinc (v := x13) (lv' := [(2, .int (x13)), (0, .ref (a 0)), (1, .int (v1)), (3, .int (v3))]) hx hb dX11_cut_55 hl (k := 2) rfl (by rw [ex13]; rfl) (by decide) rfl (fun ls hl => ?_)
        exact zw_X11_cut_58 C hret hk21 (v1) (x13) (v3) S12 H locs ls h (lv_sub hl [1, 2, 0, 3] rfl) hP hD hS
set_option maxHeartbeats 4000000 in
set_option maxRecDepth 100000 in
theorem zw_X11_cut_21 {p : Program} {l : Launch} {e : Env} {s : State} {m : MethodId} {args : Array Value} {below : List Frame} {meth : Method} {c : Code} {A : Nat → Prop} {D : va_G} {a z : Nat → Nat} {cI cL cB cZ : ClassId} {Q : State → Prop} {N : Nat} {res : Int32 × mq_St} (C : mq_C p s m args c A D cI cL cB cZ cX11_cut 5 RX11 zc_X11_cut) (hret : ∀ (H : Heap) (locs : List Loc) (ls : Array Slot) (pc : Nat), decode cX11_cut pc = .ok (.ireturn, 1) → va_P D vwCl (wd_R a cI cL cB cZ z res.2) H → va_D A (wd_R a cI cL cB cZ z res.2) → va_S A s.heap H locs → W p l e zr_X11_cut s m args below meth c H locs 0 0 Q (F0 m pc ls [.int res.1])) : ∀ (n : Nat) (v1 : Int32) (v2 : Int32) (v3 : Int32) (S : mq_St) (H : Heap) (locs : List Loc) (ls : Array Slot) (h : zf_X11_cut_21 N z n v1 v2 v3 S = some res) (hl : lv_has ls 5 [(0, .ref (a 0)), (1, .int (v1)), (2, .int (v2)), (3, .int (v3))]) (hP : va_P D vwCl (wd_R a cI cL cB cZ z S) H) (hD : va_D A (wd_R a cI cL cB cZ z S)) (hS : va_S A s.heap H locs), W p l e zr_X11_cut s m args below meth c H locs 0 0 Q (F0 m 21 ls []) := by
  intro n
  induction n with
  | zero =>
    intro v1 v2 v3 S H locs ls h hl hP hD hS
    exact nomatch (show (none : Option (Int32 × mq_St)) = some res from h)
  | succ n ih =>
    intro v1 v2 v3 S H locs ls h hl hP hD hS
    exact zw_X11_cut_21b C hret (fun v1 v2 v3 S H locs ls h hl hP hD hS => ih v1 v2 v3 S H locs ls h hl hP hD hS) v1 v2 v3 S H locs ls h hl hP hD hS
set_option maxHeartbeats 4000000 in
set_option maxRecDepth 100000 in
theorem zw_X11_cut_0 {p : Program} {l : Launch} {e : Env} {s : State} {m : MethodId} {args : Array Value} {below : List Frame} {meth : Method} {c : Code} {A : Nat → Prop} {D : va_G} {a z : Nat → Nat} {cI cL cB cZ : ClassId} {Q : State → Prop} {N : Nat} {res : Int32 × mq_St} (C : mq_C p s m args c A D cI cL cB cZ cX11_cut 5 RX11 zc_X11_cut) (hret : ∀ (H : Heap) (locs : List Loc) (ls : Array Slot) (pc : Nat), decode cX11_cut pc = .ok (.ireturn, 1) → va_P D vwCl (wd_R a cI cL cB cZ z res.2) H → va_D A (wd_R a cI cL cB cZ z res.2) → va_S A s.heap H locs → W p l e zr_X11_cut s m args below meth c H locs 0 0 Q (F0 m pc ls [.int res.1])) (v1 : Int32) (S : mq_St) (H : Heap) (locs : List Loc) (ls : Array Slot) (h : zf_X11_cut N z v1 S = some res) (hl : lv_has ls 5 [(0, .ref (a 0)), (1, .int (v1))]) (hP : va_P D vwCl (wd_R a cI cL cB cZ z S) H) (hD : va_D A (wd_R a cI cL cB cZ z S)) (hS : va_S A s.heap H locs) : W p l e zr_X11_cut s m args below meth c H locs 0 0 Q (F0 m 0 ls []) := by
  obtain ⟨hx, hb, hml, hown, hts, hK, hA⟩ := id C
  unfold zf_X11_cut at h
  refine lv_aload_n hx hb dX11_cut_0 rfl (lv_at hl 0 rfl) ?_
  refine lv_iload_n hx hb dX11_cut_1 rfl (lv_at hl 1 rfl) ?_
  obtain ⟨q1, hc2, h⟩ := mq_cl_go h
  refine zk_X11_world0 C zt_m_X11_384 ⟨by decide, by decide⟩ hc2 hP hD hS hl.1 (Nat.le_of_ble_eq_true rfl) dX11_cut_2 (fun H locs hP hD hS => ?_)
  obtain ⟨S3, eS3⟩ : ∃ y, y = q1.2 := ⟨_, rfl⟩
  rw [← eS3] at hP hD h
  refine lv_if_ne (tgt := 10) hx hb dX11_cut_5 (by decide) (fun c8 => ?_) (fun c8 => ?_)
  · replace h := mq_if c8 h
    refine lv_aload_n hx hb dX11_cut_10 rfl (lv_at hl 0 rfl) ?_
    refine va_get (D := D) (ci := 11) (v := .ref (a 43)) (C := RX11) (T := TX11) (N := 76) hx hb hts (zi_X11 _) hown hK hP 0 rfl rfl 74 (by decide) (hts _ (List.mem_cons_of_mem _ zt_f_X11_145)) (fun _ h9 => h9) rfl dX11_cut_11 ?_
    refine lv_iconst (v := (0 : Int32)) hx hb dX11_cut_14 (by decide) ?_
    refine lv_iload_n hx hb dX11_cut_15 rfl (lv_at hl 1 rfl) ?_
    have hi4 := mq_ck_in h
    replace h := mq_ck_go h
    refine mq_iast (w := wd_R a cI cL cB cZ z) (S := S3) (f := S3.2.1 42) hx hb hK hP hD hS 43 0 rfl rfl hi4 dX11_cut_16 42 (zs_wd_R_a_43_42 _ _ _ _ _ _ _ _) (fun S5 eS5 H locs hP hD hS => ?_)
    replace h := mq_nS_go eS5 h
    refine lv_iconst (v := (1 : Int32)) hx hb dX11_cut_17 (by decide) ?_
    refine lv_topi (fun x6 ex6 => ?_)
    replace h := mq_nI_go ex6 h
    refine lv_istore_n (lv' := [(2, .int (x6)), (0, .ref (a 0)), (1, .int (v1))]) hx hb dX11_cut_18 rfl hl (by decide) rfl (fun ls hl => ?_)
    refine lv_iconst (v := (0 : Int32)) hx hb dX11_cut_19 (by decide) ?_
    refine lv_topi (fun x7 ex7 => ?_)
    replace h := mq_nI_go ex7 h
    refine lv_istore_n (lv' := [(3, .int (x7)), (2, .int (x6)), (0, .ref (a 0)), (1, .int (v1))]) hx hb dX11_cut_20 rfl hl (by decide) rfl (fun ls hl => ?_)
    exact zw_X11_cut_21 C hret N (v1) (x6) (x7) S5 H locs ls h (lv_sub hl [2, 3, 1, 0] rfl) hP hD hS
  · replace h := mq_it (by simpa using c8) h
    refine lv_iconst (v := (0 : Int32)) hx hb dX11_cut_8 (by decide) ?_
    cases h
    exact hret H locs ls 9 dX11_cut_9 hP hD hS
set_option maxHeartbeats 4000000 in
set_option maxRecDepth 100000 in
theorem zm_X11_cut (l : Launch) (D : va_G) (a z : Nat → Nat) (cI cL cB cZ : ClassId) (sz N : Nat) (v1 : Int32) (S : mq_St) (res : Int32 × mq_St) (h : zf_X11_cut N z v1 S = some res) : Met l yX11_cut (zc_X11_cut :: mq_T) zr_X11_cut (va_Pc [.ref (a 0), .int (v1)] (fun U => U.heap.size = sz ∧ va_P D vwCl (wd_R a cI cL cB cZ z S) U.heap ∧ va_K D vwCl (mq_tys cI cL cB cZ) U ∧ va_D (fun _ => True) (wd_R a cI cL cB cZ z S))) (va_Qi (fun (r : Int32) (u : mq_St) => r = res.1 ∧ u = res.2) (fun u t => va_P D vwCl (wd_R a cI cL cB cZ z u) t.heap ∧ va_K D vwCl (mq_tys cI cL cB cZ) t ∧ va_D (va_A (wd_R a cI cL cB cZ z S) sz) (wd_R a cI cL cB cZ z u)) (va_A (wd_R a cI cL cB cZ z S) sz)) 0 0 (va_A (wd_R a cI cL cB cZ z S) sz) := by
  refine Met.ofW (cc := cX11_cut) (maxL := 5) (ret := (some .int)) (by decide) rfl ?_
  intro p e s m args below meth c s₁ B hml hv
  obtain ⟨rfl, hsz, hP, hK, hD0⟩ := hv
  have hr := B.returns
  have hlocks := B.notSynchronized
  have hts := atoms_spec (ws := zc_X11_cut :: mq_T) B.pre
  have hown : s.vm.findClass RX11 = some m.cls := findClass_of_methodNamed B.named
  subst hsz
  have hD := hD0.self (sz := s.heap.size)
  generalize hAe : va_A (wd_R a cI cL cB cZ z S) s.heap.size = A at hD ⊢
  have hA : ∀ q : Nat, s.heap.size ≤ q → A q := fun q h => by rw [← hAe]; exact Or.inr h
  have hl := lv_entry ([.ref (a 0), .int (v1)]) (n := 5) (Nat.le_of_ble_eq_true rfl)
  rw [lg_entry_eq]
  generalize (lg_sl ([.ref (a 0), .int (v1)]) ++ List.replicate (5 - (lg_sl ([.ref (a 0), .int (v1)])).length) Slot.unset).toArray = ls at hl ⊢
  have hl : lv_has ls 5 [(0, .ref (a 0)), (1, .int (v1))] := hl
  refine zw_X11_cut_0 (A := A) ⟨B.exec, B.bytes, hml, hown, hts, hK, hA⟩ (fun H locs ls pc dg hP hD hS => ?_) v1 S s.heap [] ls h hl hP hD va_S.rf
  exact W.iret B.exec B.bytes hr (fun t ht hW => ⟨⟨_, _, rfl, ⟨rfl, rfl⟩, by rw [ht]; exact hP, va_K.moved hW.alike hK, hD⟩, hS.F ht⟩) hS.2.2 dg
theorem zt_X11_cut_c : zc_X11_cut ∈ mq_T := mq_T_mem (mq_t7 (List.mem_of_getElem? (i := 195) rfl)) rfl
theorem zt_X11_cut_i : Cond.instanceMethod yX11_cut ∈ mq_T := mq_T_mem (mq_t7 (List.mem_of_getElem? (i := 193) rfl)) rfl
theorem zt_X11_cut_s : Cond.selects RX11 yX11_cut yX11_cut ∈ mq_T := mq_T_mem (mq_t7 (List.mem_of_getElem? (i := 194) rfl)) rfl
