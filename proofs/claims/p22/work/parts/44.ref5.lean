/-! ModalDeskModel.closed()Z -/
def zr_X11_closed : Room := { frames := 1, cells := 0, slots := 0, locals := 24 }
def zc_X11_closed : Cond := .code yX11_closed cX11_closed 1 (some .boolean)
def zf_X11_closed_zb (N : Nat) (z : Nat → Nat) (k0 : mq_St → Option (Int32 × mq_St)) (S : mq_St) : Option (Int32 × mq_St) := (if (S.1 27) ≤ (0 : Int32) then (mq_cz ((0 : Int32)) (some ((0 : Int32), S))) else (mq_nS (mq_si S 27 (((S.1 27) - (1 : Int32)))) (fun S2 => (mq_ck ((S2.1 27)) 470 (mq_nS (mq_si S2 24 ((S2.2.1 28 ((S2.1 27)).toNatClampNeg))) (fun S4 => (mq_ck ((S4.1 27)) 470 (mq_nS (mq_si S4 25 ((S4.2.1 27 ((S4.1 27)).toNatClampNeg))) (fun S6 => (mq_ck ((S6.1 27)) 470 (if (S6.2.1 25 ((S6.1 27)).toNatClampNeg) = (0 : Int32) then (k0 S6) else (mq_nS (mq_si S6 28 (((S6.1 28) - (1 : Int32)))) (fun S8 => (mq_cl (zf_X11_copy N (fun k => [4700, 10].getD k 0) (((10 : Int32) * (S8.1 27))) ((0 : Int32)) (mq_pull S8 [] [30, 17] [])) (fun q9v q9s => mq_nS (mq_push S8 q9s [] [30, 17] []) (fun S11 => (mq_cl (zf_X11_step N z S11) (fun q12v S14 => (if q12v = (0 : Int32) then (mq_cz ((0 : Int32)) (some ((0 : Int32), S14))) else (mq_ck ((S14.1 27)) 470 (mq_ck ((S14.2.1 26 ((S14.1 27)).toNatClampNeg)) 300 (mq_cl (zf_X11_put N (fun k => [10].getD k 0) ((0 : Int32)) ((S14.2.1 4 ((S14.2.1 26 ((S14.1 27)).toNatClampNeg)).toNatClampNeg)) (mq_pull S14 [] [17] [])) (fun q17v q17s => mq_nS (mq_push S14 q17s [] [17] []) (fun S19 => (mq_cz ((1 : Int32)) (some ((1 : Int32), S19)))))))))))))))))))))))))))
def zf_X11_closed_z (N : Nat) (z : Nat → Nat) : Nat → mq_St → Option (Int32 × mq_St)
  | 0, _ => none
  | n + 1, S => zf_X11_closed_zb N z (fun S => zf_X11_closed_z N z n S) S
def zf_X11_closed (N : Nat) (z : Nat → Nat) (S : mq_St) : Option (Int32 × mq_St) := (zf_X11_closed_z N z N S)
set_option maxHeartbeats 4000000 in
set_option maxRecDepth 100000 in
theorem zw_X11_closed_zb {p : Program} {l : Launch} {e : Env} {s : State} {m : MethodId} {args : Array Value} {below : List Frame} {meth : Method} {c : Code} {A : Nat → Prop} {D : va_G} {a z : Nat → Nat} {cI cL cB cZ : ClassId} {Q : State → Prop} {N : Nat} {res : Int32 × mq_St} {k0 : mq_St → Option (Int32 × mq_St)} (C : mq_C p s m args c A D cI cL cB cZ cX11_closed 1 RX11 zc_X11_closed) (hret : ∀ (H : Heap) (locs : List Loc) (ls : Array Slot) (pc : Nat), decode cX11_closed pc = .ok (.ireturn, 1) → narrow .boolean (.int res.1) = .int res.1 → va_P D vwCl (wd_R a cI cL cB cZ z res.2) H → va_D A (wd_R a cI cL cB cZ z res.2) → va_S A s.heap H locs → W p l e zr_X11_closed s m args below meth c H locs 0 0 Q (F0 m pc ls [.int res.1])) (hk0 : ∀ (S : mq_St) (H : Heap) (locs : List Loc) (ls : Array Slot), k0 S = some res → lv_has ls 1 [(0, .ref (a 0))] → va_P D vwCl (wd_R a cI cL cB cZ z S) H → va_D A (wd_R a cI cL cB cZ z S) → va_S A s.heap H locs → W p l e zr_X11_closed s m args below meth c H locs 0 0 Q (F0 m 0 ls [])) (S : mq_St) (H : Heap) (locs : List Loc) (ls : Array Slot) (h : zf_X11_closed_zb N z k0 S = some res) (hl : lv_has ls 1 [(0, .ref (a 0))]) (hP : va_P D vwCl (wd_R a cI cL cB cZ z S) H) (hD : va_D A (wd_R a cI cL cB cZ z S)) (hS : va_S A s.heap H locs) : W p l e zr_X11_closed s m args below meth c H locs 0 0 Q (F0 m 0 ls []) := by
  obtain ⟨hx, hb, hml, hown, hts, hK, hA⟩ := id C
  unfold zf_X11_closed_zb at h
  refine lv_aload_n hx hb dX11_closed_0 rfl (lv_at hl 0 rfl) ?_
  refine va_get (D := D) (ci := 11) (v := .int ((S.1 27))) (C := RX11) (T := TX11) (N := 76) hx hb hts (zi_X11 _) hown hK hP 0 rfl rfl 52 (by decide) (hts _ (List.mem_cons_of_mem _ zt_f_X11_292)) (fun _ h9 => h9) rfl dX11_closed_1 ?_
  refine lv_if_le (tgt := 117) hx hb dX11_closed_4 (by decide) (fun c24 => ?_) (fun c24 => ?_)
  · replace h := mq_it c24 h
    refine lv_iconst (v := (0 : Int32)) hx hb dX11_closed_117 (by decide) ?_
    have hz1 := mq_cz_in h
    replace h := mq_cz_go h
    cases h
    exact hret H locs ls 118 dX11_closed_118 hz1.1 hP hD hS
  · replace h := mq_if c24 h
    refine lv_aload_n hx hb dX11_closed_7 rfl (lv_at hl 0 rfl) ?_
    refine lv_dup hx hb dX11_closed_8 rfl ?_
    refine va_get (D := D) (ci := 11) (v := .int ((S.1 27))) (C := RX11) (T := TX11) (N := 76) hx hb hts (zi_X11 _) hown hK hP 0 rfl rfl 52 (by decide) (hts _ (List.mem_cons_of_mem _ zt_f_X11_292)) (fun _ h9 => h9) rfl dX11_closed_9 ?_
    refine lv_iconst (v := (1 : Int32)) hx hb dX11_closed_12 (by decide) ?_
    refine lv_isub hx hb dX11_closed_13 ?_
    refine mq_put (w := wd_R a cI cL cB cZ z) (S := S) (D := D) (ci := 11) (v := ((S.1 27) - (1 : Int32))) (ty := .int) (C := RX11) (T := TX11) (N := 76) hx hb hts (zi_X11 _) tyX11 tyX11_ok nmX11 hown hK hP hD hS 0 rfl rfl 52 (by decide) (hts _ (List.mem_cons_of_mem _ zt_f_X11_292)) (fun _ h9 => h9) rfl (by decide +kernel) rfl rfl (Nat.le_of_ble_eq_true rfl) dX11_closed_14 27 (zs_wd_R_i_0_27 _ _ _ _ _ _ _ _) (fun S2 eS2 H locs hP hD hS => ?_)
    replace h := mq_nS_go eS2 h
    refine lv_aload_n hx hb dX11_closed_17 rfl (lv_at hl 0 rfl) ?_
    refine lv_aload_n hx hb dX11_closed_18 rfl (lv_at hl 0 rfl) ?_
    refine va_get (D := D) (ci := 11) (v := .ref (a 29)) (C := RX11) (T := TX11) (N := 76) hx hb hts (zi_X11 _) hown hK hP 0 rfl rfl 57 (by decide) (hts _ (List.mem_cons_of_mem _ zt_f_X11_103)) (fun _ h9 => h9) rfl dX11_closed_19 ?_
    refine lv_aload_n hx hb dX11_closed_22 rfl (lv_at hl 0 rfl) ?_
    refine va_get (D := D) (ci := 11) (v := .int ((S2.1 27))) (C := RX11) (T := TX11) (N := 76) hx hb hts (zi_X11 _) hown hK hP 0 rfl rfl 52 (by decide) (hts _ (List.mem_cons_of_mem _ zt_f_X11_292)) (fun _ h9 => h9) rfl dX11_closed_23 ?_
    have hi3 := mq_ck_in h
    replace h := mq_ck_go h
    refine va_iald (f := S2.2.1 28) hx hb hK hP 29 0 rfl rfl hi3 dX11_closed_26 ?_
    refine mq_put (w := wd_R a cI cL cB cZ z) (S := S2) (D := D) (ci := 11) (v := (S2.2.1 28 ((S2.1 27)).toNatClampNeg)) (ty := .int) (C := RX11) (T := TX11) (N := 76) hx hb hts (zi_X11 _) tyX11 tyX11_ok nmX11 hown hK hP hD hS 0 rfl rfl 42 (by decide) (hts _ (List.mem_cons_of_mem _ zt_f_X11_298)) (fun _ h9 => h9) rfl (by decide +kernel) rfl rfl (Nat.le_of_ble_eq_true rfl) dX11_closed_27 24 (zs_wd_R_i_0_24 _ _ _ _ _ _ _ _) (fun S4 eS4 H locs hP hD hS => ?_)
    replace h := mq_nS_go eS4 h
    refine lv_aload_n hx hb dX11_closed_30 rfl (lv_at hl 0 rfl) ?_
    refine lv_aload_n hx hb dX11_closed_31 rfl (lv_at hl 0 rfl) ?_
    refine va_get (D := D) (ci := 11) (v := .ref (a 28)) (C := RX11) (T := TX11) (N := 76) hx hb hts (zi_X11 _) hown hK hP 0 rfl rfl 56 (by decide) (hts _ (List.mem_cons_of_mem _ zt_f_X11_100)) (fun _ h9 => h9) rfl dX11_closed_32 ?_
    refine lv_aload_n hx hb dX11_closed_35 rfl (lv_at hl 0 rfl) ?_
    refine va_get (D := D) (ci := 11) (v := .int ((S4.1 27))) (C := RX11) (T := TX11) (N := 76) hx hb hts (zi_X11 _) hown hK hP 0 rfl rfl 52 (by decide) (hts _ (List.mem_cons_of_mem _ zt_f_X11_292)) (fun _ h9 => h9) rfl dX11_closed_36 ?_
    have hi5 := mq_ck_in h
    replace h := mq_ck_go h
    refine va_iald (f := S4.2.1 27) hx hb hK hP 28 0 rfl rfl hi5 dX11_closed_39 ?_
    refine mq_put (w := wd_R a cI cL cB cZ z) (S := S4) (D := D) (ci := 11) (v := (S4.2.1 27 ((S4.1 27)).toNatClampNeg)) (ty := .int) (C := RX11) (T := TX11) (N := 76) hx hb hts (zi_X11 _) tyX11 tyX11_ok nmX11 hown hK hP hD hS 0 rfl rfl 43 (by decide) (hts _ (List.mem_cons_of_mem _ zt_f_X11_295)) (fun _ h9 => h9) rfl (by decide +kernel) rfl rfl (Nat.le_of_ble_eq_true rfl) dX11_closed_40 25 (zs_wd_R_i_0_25 _ _ _ _ _ _ _ _) (fun S6 eS6 H locs hP hD hS => ?_)
    replace h := mq_nS_go eS6 h
    refine lv_aload_n hx hb dX11_closed_43 rfl (lv_at hl 0 rfl) ?_
    refine va_get (D := D) (ci := 11) (v := .ref (a 26)) (C := RX11) (T := TX11) (N := 76) hx hb hts (zi_X11 _) hown hK hP 0 rfl rfl 54 (by decide) (hts _ (List.mem_cons_of_mem _ zt_f_X11_94)) (fun _ h9 => h9) rfl dX11_closed_44 ?_
    refine lv_aload_n hx hb dX11_closed_47 rfl (lv_at hl 0 rfl) ?_
    refine va_get (D := D) (ci := 11) (v := .int ((S6.1 27))) (C := RX11) (T := TX11) (N := 76) hx hb hts (zi_X11 _) hown hK hP 0 rfl rfl 52 (by decide) (hts _ (List.mem_cons_of_mem _ zt_f_X11_292)) (fun _ h9 => h9) rfl dX11_closed_48 ?_
    have hi7 := mq_ck_in h
    replace h := mq_ck_go h
    refine va_zald (f := S6.2.1 25) hx hb hK hP 26 3 rfl rfl hi7 dX11_closed_51 ?_
    refine lv_if_eq (tgt := 0) hx hb dX11_closed_52 (by decide) (fun c23 => ?_) (fun c23 => ?_)
    · replace h := mq_it c23 h
      exact hk0 S6 H locs ls h (lv_sub hl [0] rfl) hP hD hS
    · replace h := mq_if c23 h
      refine lv_aload_n hx hb dX11_closed_55 rfl (lv_at hl 0 rfl) ?_
      refine lv_dup hx hb dX11_closed_56 rfl ?_
      refine va_get (D := D) (ci := 11) (v := .int ((S6.1 28))) (C := RX11) (T := TX11) (N := 76) hx hb hts (zi_X11 _) hown hK hP 0 rfl rfl 53 (by decide) (hts _ (List.mem_cons_of_mem _ zt_f_X11_338)) (fun _ h9 => h9) rfl dX11_closed_57 ?_
      refine lv_iconst (v := (1 : Int32)) hx hb dX11_closed_60 (by decide) ?_
      refine lv_isub hx hb dX11_closed_61 ?_
      refine mq_put (w := wd_R a cI cL cB cZ z) (S := S6) (D := D) (ci := 11) (v := ((S6.1 28) - (1 : Int32))) (ty := .int) (C := RX11) (T := TX11) (N := 76) hx hb hts (zi_X11 _) tyX11 tyX11_ok nmX11 hown hK hP hD hS 0 rfl rfl 53 (by decide) (hts _ (List.mem_cons_of_mem _ zt_f_X11_338)) (fun _ h9 => h9) rfl (by decide +kernel) rfl rfl (Nat.le_of_ble_eq_true rfl) dX11_closed_62 28 (zs_wd_R_i_0_28 _ _ _ _ _ _ _ _) (fun S8 eS8 H locs hP hD hS => ?_)
      replace h := mq_nS_go eS8 h
      refine lv_aload_n hx hb dX11_closed_65 rfl (lv_at hl 0 rfl) ?_
      refine va_get (D := D) (ci := 11) (v := .ref (a 31)) (C := RX11) (T := TX11) (N := 76) hx hb hts (zi_X11 _) hown hK hP 0 rfl rfl 59 (by decide) (hts _ (List.mem_cons_of_mem _ zt_f_X11_109)) (fun _ h9 => h9) rfl dX11_closed_66 ?_
      refine lv_bipush (v := (10 : Int32)) hx hb dX11_closed_69 (by decide) ?_
      refine lv_aload_n hx hb dX11_closed_71 rfl (lv_at hl 0 rfl) ?_
      refine va_get (D := D) (ci := 11) (v := .int ((S8.1 27))) (C := RX11) (T := TX11) (N := 76) hx hb hts (zi_X11 _) hown hK hP 0 rfl rfl 52 (by decide) (hts _ (List.mem_cons_of_mem _ zt_f_X11_292)) (fun _ h9 => h9) rfl dX11_closed_72 ?_
      refine lv_imul hx hb dX11_closed_75 ?_
      refine lv_aload_n hx hb dX11_closed_76 rfl (lv_at hl 0 rfl) ?_
      refine va_get (D := D) (ci := 11) (v := .ref (a 18)) (C := RX11) (T := TX11) (N := 76) hx hb hts (zi_X11 _) hown hK hP 0 rfl rfl 35 (by decide) (hts _ (List.mem_cons_of_mem _ zt_f_X11_69)) (fun _ h9 => h9) rfl dX11_closed_77 ?_
      refine lv_iconst (v := (0 : Int32)) hx hb dX11_closed_80 (by decide) ?_
      obtain ⟨q9, hc10, h⟩ := mq_cl_go h
      refine zv_X11_copy (a := mq_ad a [31, 18]) (z := (fun k => [4700, 10].getD k 0)) [31, 18] C zt_m_X11_301 ⟨by decide, by decide⟩ hc10 rfl (by decide) (ws' := (wd_R a cI cL cB cZ z (mq_push S8 q9.2 [] [30, 17] []))) (zx_wd_R_wd_A2_31_18 _ _ _ _ _ _ _ _) hP hD hS hl.1 (Nat.le_of_ble_eq_true rfl) dX11_closed_81 (fun H locs hP hD hS => ?_)
      obtain ⟨S11, eS11⟩ : ∃ y, y = mq_push S8 q9.2 [] [30, 17] [] := ⟨_, rfl⟩
      replace h := mq_nS_go eS11 h
      rw [← eS11] at hP hD
      refine lv_aload_n hx hb dX11_closed_84 rfl (lv_at hl 0 rfl) ?_
      obtain ⟨q12, hc13, h⟩ := mq_cl_go h
      refine zk_X11_step C zt_m_X11_321 ⟨by decide, by decide⟩ hc13 hP hD hS hl.1 (Nat.le_of_ble_eq_true rfl) dX11_closed_85 (fun H locs hP hD hS => ?_)
      obtain ⟨S14, eS14⟩ : ∃ y, y = q12.2 := ⟨_, rfl⟩
      rw [← eS14] at hP hD h
      refine lv_if_ne (tgt := 93) hx hb dX11_closed_88 (by decide) (fun c22 => ?_) (fun c22 => ?_)
      · replace h := mq_if c22 h
        refine lv_aload_n hx hb dX11_closed_93 rfl (lv_at hl 0 rfl) ?_
        refine va_get (D := D) (ci := 11) (v := .ref (a 18)) (C := RX11) (T := TX11) (N := 76) hx hb hts (zi_X11 _) hown hK hP 0 rfl rfl 35 (by decide) (hts _ (List.mem_cons_of_mem _ zt_f_X11_69)) (fun _ h9 => h9) rfl dX11_closed_94 ?_
        refine lv_iconst (v := (0 : Int32)) hx hb dX11_closed_97 (by decide) ?_
        refine lv_aload_n hx hb dX11_closed_98 rfl (lv_at hl 0 rfl) ?_
        refine va_get (D := D) (ci := 11) (v := .ref (a 5)) (C := RX11) (T := TX11) (N := 76) hx hb hts (zi_X11 _) hown hK hP 0 rfl rfl 7 (by decide) (hts _ (List.mem_cons_of_mem _ zt_f_X11_23)) (fun _ h9 => h9) rfl dX11_closed_99 ?_
        refine lv_aload_n hx hb dX11_closed_102 rfl (lv_at hl 0 rfl) ?_
        refine va_get (D := D) (ci := 11) (v := .ref (a 27)) (C := RX11) (T := TX11) (N := 76) hx hb hts (zi_X11 _) hown hK hP 0 rfl rfl 55 (by decide) (hts _ (List.mem_cons_of_mem _ zt_f_X11_97)) (fun _ h9 => h9) rfl dX11_closed_103 ?_
        refine lv_aload_n hx hb dX11_closed_106 rfl (lv_at hl 0 rfl) ?_
        refine va_get (D := D) (ci := 11) (v := .int ((S14.1 27))) (C := RX11) (T := TX11) (N := 76) hx hb hts (zi_X11 _) hown hK hP 0 rfl rfl 52 (by decide) (hts _ (List.mem_cons_of_mem _ zt_f_X11_292)) (fun _ h9 => h9) rfl dX11_closed_107 ?_
        have hi15 := mq_ck_in h
        replace h := mq_ck_go h
        refine va_iald (f := S14.2.1 26) hx hb hK hP 27 0 rfl rfl hi15 dX11_closed_110 ?_
        have hi16 := mq_ck_in h
        replace h := mq_ck_go h
        refine va_iald (f := S14.2.1 4) hx hb hK hP 5 0 rfl rfl hi16 dX11_closed_111 ?_
        obtain ⟨q17, hc18, h⟩ := mq_cl_go h
        refine zv_X11_put (a := mq_ad a [18]) (z := (fun k => [10].getD k 0)) [18] C zt_m_X11_324 ⟨by decide, by decide⟩ hc18 rfl (by decide) (ws' := (wd_R a cI cL cB cZ z (mq_push S14 q17.2 [] [17] []))) (zx_wd_R_wd_A1_18 _ _ _ _ _ _ _ _) hP hD hS hl.1 (Nat.le_of_ble_eq_true rfl) dX11_closed_112 (fun H locs hP hD hS => ?_)
        obtain ⟨S19, eS19⟩ : ∃ y, y = mq_push S14 q17.2 [] [17] [] := ⟨_, rfl⟩
        replace h := mq_nS_go eS19 h
        rw [← eS19] at hP hD
        refine lv_iconst (v := (1 : Int32)) hx hb dX11_closed_115 (by decide) ?_
        have hz20 := mq_cz_in h
        replace h := mq_cz_go h
        cases h
        exact hret H locs ls 116 dX11_closed_116 hz20.1 hP hD hS
      · replace h := mq_it (by simpa using c22) h
        refine lv_iconst (v := (0 : Int32)) hx hb dX11_closed_91 (by decide) ?_
        have hz21 := mq_cz_in h
        replace h := mq_cz_go h
        cases h
        exact hret H locs ls 92 dX11_closed_92 hz21.1 hP hD hS
set_option maxHeartbeats 4000000 in
set_option maxRecDepth 100000 in
theorem zw_X11_closed_z {p : Program} {l : Launch} {e : Env} {s : State} {m : MethodId} {args : Array Value} {below : List Frame} {meth : Method} {c : Code} {A : Nat → Prop} {D : va_G} {a z : Nat → Nat} {cI cL cB cZ : ClassId} {Q : State → Prop} {N : Nat} {res : Int32 × mq_St} (C : mq_C p s m args c A D cI cL cB cZ cX11_closed 1 RX11 zc_X11_closed) (hret : ∀ (H : Heap) (locs : List Loc) (ls : Array Slot) (pc : Nat), decode cX11_closed pc = .ok (.ireturn, 1) → narrow .boolean (.int res.1) = .int res.1 → va_P D vwCl (wd_R a cI cL cB cZ z res.2) H → va_D A (wd_R a cI cL cB cZ z res.2) → va_S A s.heap H locs → W p l e zr_X11_closed s m args below meth c H locs 0 0 Q (F0 m pc ls [.int res.1])) : ∀ (n : Nat) (S : mq_St) (H : Heap) (locs : List Loc) (ls : Array Slot) (h : zf_X11_closed_z N z n S = some res) (hl : lv_has ls 1 [(0, .ref (a 0))]) (hP : va_P D vwCl (wd_R a cI cL cB cZ z S) H) (hD : va_D A (wd_R a cI cL cB cZ z S)) (hS : va_S A s.heap H locs), W p l e zr_X11_closed s m args below meth c H locs 0 0 Q (F0 m 0 ls []) := by
  intro n
  induction n with
  | zero =>
    intro S H locs ls h hl hP hD hS
    exact nomatch (show (none : Option (Int32 × mq_St)) = some res from h)
  | succ n ih =>
    intro S H locs ls h hl hP hD hS
    exact zw_X11_closed_zb C hret (fun S H locs ls h hl hP hD hS => ih S H locs ls h hl hP hD hS) S H locs ls h hl hP hD hS
set_option maxHeartbeats 4000000 in
set_option maxRecDepth 100000 in
theorem zw_X11_closed_0 {p : Program} {l : Launch} {e : Env} {s : State} {m : MethodId} {args : Array Value} {below : List Frame} {meth : Method} {c : Code} {A : Nat → Prop} {D : va_G} {a z : Nat → Nat} {cI cL cB cZ : ClassId} {Q : State → Prop} {N : Nat} {res : Int32 × mq_St} (C : mq_C p s m args c A D cI cL cB cZ cX11_closed 1 RX11 zc_X11_closed) (hret : ∀ (H : Heap) (locs : List Loc) (ls : Array Slot) (pc : Nat), decode cX11_closed pc = .ok (.ireturn, 1) → narrow .boolean (.int res.1) = .int res.1 → va_P D vwCl (wd_R a cI cL cB cZ z res.2) H → va_D A (wd_R a cI cL cB cZ z res.2) → va_S A s.heap H locs → W p l e zr_X11_closed s m args below meth c H locs 0 0 Q (F0 m pc ls [.int res.1])) (S : mq_St) (H : Heap) (locs : List Loc) (ls : Array Slot) (h : zf_X11_closed N z S = some res) (hl : lv_has ls 1 [(0, .ref (a 0))]) (hP : va_P D vwCl (wd_R a cI cL cB cZ z S) H) (hD : va_D A (wd_R a cI cL cB cZ z S)) (hS : va_S A s.heap H locs) : W p l e zr_X11_closed s m args below meth c H locs 0 0 Q (F0 m 0 ls []) := by
  obtain ⟨hx, hb, hml, hown, hts, hK, hA⟩ := id C
  unfold zf_X11_closed at h
  exact zw_X11_closed_z C hret N S H locs ls h (lv_sub hl [0] rfl) hP hD hS
set_option maxHeartbeats 4000000 in
set_option maxRecDepth 100000 in
theorem zm_X11_closed (l : Launch) (D : va_G) (a z : Nat → Nat) (cI cL cB cZ : ClassId) (sz N : Nat) (S : mq_St) (res : Int32 × mq_St) (h : zf_X11_closed N z S = some res) : Met l yX11_closed (zc_X11_closed :: mq_T) zr_X11_closed (va_Pc [.ref (a 0)] (fun U => U.heap.size = sz ∧ va_P D vwCl (wd_R a cI cL cB cZ z S) U.heap ∧ va_K D vwCl (mq_tys cI cL cB cZ) U ∧ va_D (fun _ => True) (wd_R a cI cL cB cZ z S))) (va_Qi (fun (r : Int32) (u : mq_St) => r = res.1 ∧ u = res.2) (fun u t => va_P D vwCl (wd_R a cI cL cB cZ z u) t.heap ∧ va_K D vwCl (mq_tys cI cL cB cZ) t ∧ va_D (va_A (wd_R a cI cL cB cZ z S) sz) (wd_R a cI cL cB cZ z u)) (va_A (wd_R a cI cL cB cZ z S) sz)) 0 0 (va_A (wd_R a cI cL cB cZ z S) sz) := by
  refine Met.ofW (cc := cX11_closed) (maxL := 1) (ret := (some .boolean)) (by decide) rfl ?_
  intro p e s m args below meth c s₁ B hml hv
  obtain ⟨rfl, hsz, hP, hK, hD0⟩ := hv
  have hr := B.returns
  have hlocks := B.notSynchronized
  have hts := atoms_spec (ws := zc_X11_closed :: mq_T) B.pre
  have hown : s.vm.findClass RX11 = some m.cls := findClass_of_methodNamed B.named
  subst hsz
  have hD := hD0.self (sz := s.heap.size)
  generalize hAe : va_A (wd_R a cI cL cB cZ z S) s.heap.size = A at hD ⊢
  have hA : ∀ q : Nat, s.heap.size ≤ q → A q := fun q h => by rw [← hAe]; exact Or.inr h
  have hl := lv_entry ([.ref (a 0)]) (n := 1) (Nat.le_of_ble_eq_true rfl)
  rw [lg_entry_eq]
  generalize (lg_sl ([.ref (a 0)]) ++ List.replicate (1 - (lg_sl ([.ref (a 0)])).length) Slot.unset).toArray = ls at hl ⊢
  have hl : lv_has ls 1 [(0, .ref (a 0))] := hl
  refine zw_X11_closed_0 (A := A) ⟨B.exec, B.bytes, hml, hown, hts, hK, hA⟩ (fun H locs ls pc dg hz hP hD hS => ?_) S s.heap [] ls h hl hP hD va_S.rf
  exact W.zret B.exec B.bytes hr hz (fun t ht hW => ⟨⟨_, _, rfl, ⟨rfl, rfl⟩, by rw [ht]; exact hP, va_K.moved hW.alike hK, hD⟩, hS.F ht⟩) hS.2.2 dg
theorem zt_X11_closed_c : zc_X11_closed ∈ mq_T := mq_T_mem (mq_t7 (List.mem_of_getElem? (i := 107) rfl)) rfl
theorem zt_X11_closed_i : Cond.instanceMethod yX11_closed ∈ mq_T := mq_T_mem (mq_t7 (List.mem_of_getElem? (i := 106) rfl)) rfl
theorem zt_X11_closed_s : Cond.selects RX11 yX11_closed yX11_closed ∈ mq_T := mq_T_at 96 (by decide +kernel)
set_option maxHeartbeats 4000000 in
theorem zk_X11_closed {p : Program} {l : Launch} {e : Env} {R : Room} {s : State} {m : MethodId} {args : Array Value} {below : List Frame} {meth : Method} {c : Code} {A : Nat → Prop} {D : va_G} {a z : Nat → Nat} {cI cL cB cZ : ClassId} {Q : State → Prop} {cc : ByteArray} {nL idx pc N : Nat} {own : String} {c1 : Cond} {H : Heap} {locs : List Loc} {ls : Array Slot} {rest : List Value} {S : mq_St} {res : Int32 × mq_St} (C : mq_C p s m args c A D cI cL cB cZ cc nL own c1) (hlk : Cond.methodLink own idx yX11_closed ∈ mq_T) (hR : zr_X11_closed.frames + 1 ≤ R.frames ∧ 8 + (1 + 11) + zr_X11_closed.locals ≤ R.locals) (h : zf_X11_closed N z S = some res) (hP : va_P D vwCl (wd_R a cI cL cB cZ z S) H) (hD : va_D A (wd_R a cI cL cB cZ z S)) (hS : va_S A s.heap H locs) (hls : ls.size = nL) (hrest : (rest.map fun v => v.category).sum ≤ 8) (hdg : decode cc pc = .ok (.invokevirtual idx, 3)) (kk : ∀ (H1 : Heap) (locs1 : List Loc), va_P D vwCl (wd_R a cI cL cB cZ z res.2) H1 → va_D A (wd_R a cI cL cB cZ z res.2) → va_S A s.heap H1 locs1 → W p l e R s m args below meth c H1 locs1 0 0 Q (F0 m (pc + 3) ls (.int res.1 :: rest))) : W p l e R s m args below meth c H locs 0 0 Q (F0 m pc ls (.ref (a 0) :: rest)) := by
  obtain ⟨hx, hb, hml, hown, hts, hK, hA⟩ := C
  have hFc := mq_freeI hD hS hA
  refine va_calli (va_runV (As := []) (rest := rest) ⟨hx, hb, hml, hown, hts⟩ (zm_X11_closed l D a z cI cL cB cZ H.size N S res h) (cwV 0 hts (mq_goodL (mq_wsV hlk zt_X11_closed_i zt_X11_closed_s zt_ini_X11 zt_X11_closed_c)) rfl rfl rfl (by decide +kernel) hR) ⟨fun a U g mk q => ⟨q.1, q.2.1, q.2.2.1, va_K.moved (u := U) (U := U.calling g mk a) (Vm.Alike.refl U.vm) q.2.2.2.1, q.2.2.2.2⟩, zy_R_0 hK hP, fun U hU hW => ⟨rfl, by rw [hU], by rw [hU]; exact hP, va_K.moved hW.alike hK, hD.weaken (fun _ _ _ _ => trivial)⟩⟩ rfl rfl hls rfl (lv_room hrest) hdg ⟨Nat.zero_le _, Nat.zero_le _⟩) hS (fun q _ h => hFc q h) hFc (fun r u t H1 locs ht hvm hw hB hz1 hk1 hS => ?_)
  obtain ⟨rfl, rfl⟩ := hw
  obtain ⟨hP1, hK1, hD1⟩ := hB
  rw [ht] at hP1
  exact kk H1 locs hP1 (hD1.weaken (fun _ _ _ h => hFc _ h)) hS
theorem zt_f_X11_75 : Cond.fieldLink RX11 75 "ModalDeskModel" "worldSet" "[I" ∈ mq_T := mq_T_mem (mq_t5 (List.mem_of_getElem? (i := 210) rfl)) rfl
theorem zx_wd_R_wd_A2_18_20 (a z : Nat → Nat) (cI cL cB cZ : ClassId) (S X : mq_St) : mq_setM (wd_R a cI cL cB cZ z S) [18, 20] (wd_A2 (mq_ad a [18, 20]) cI cL cB cZ (fun k => [10, 600].getD k 0) X) = (wd_R a cI cL cB cZ z (mq_push S X [] [17, 19] [])) := rfl
/-! ModalDeskModel.opened()Z -/
def zr_X11_opened : Room := { frames := 1, cells := 0, slots := 0, locals := 24 }
def zc_X11_opened : Cond := .code yX11_opened cX11_opened 2 (some .boolean)
def zf_X11_opened_75 (N : Nat) (z : Nat → Nat) (v1 : Int32) (S : mq_St) : Option (Int32 × mq_St) := (if (S.1 27) = (0 : Int32) then (mq_cz ((0 : Int32)) (some ((0 : Int32), S))) else (mq_ck (((S.1 27) - (1 : Int32))) 470 (mq_ck ((((60 : Int32) * (S.2.1 27 (((S.1 27) - (1 : Int32))).toNatClampNeg)) + v1)) 3600 (mq_nS (mq_sa S 22 (upd (S.2.1 22) ((((60 : Int32) * (S.2.1 27 (((S.1 27) - (1 : Int32))).toNatClampNeg)) + v1)).toNatClampNeg (vp_nar .boolean ((1 : Int32))))) (fun S13 => (mq_cz ((1 : Int32)) (some ((1 : Int32), S13))))))))
def zf_X11_opened_31b (N : Nat) (z : Nat → Nat) (k31 : Int32 → mq_St → Option (Int32 × mq_St)) (v1 : Int32) (S : mq_St) : Option (Int32 × mq_St) := (if (S.1 27) ≤ (0 : Int32) then (zf_X11_opened_75 N z (v1) S) else (mq_ck (((S.1 27) - (1 : Int32))) 470 (if (S.2.1 25 (((S.1 27) - (1 : Int32))).toNatClampNeg) = (0 : Int32) then (zf_X11_opened_75 N z (v1) S) else (mq_nS (mq_si S 27 (((S.1 27) - (1 : Int32)))) (fun S7 => (mq_nS (mq_si S7 28 (((S7.1 28) - (1 : Int32)))) (fun S8 => (k31 (v1) S8))))))))
def zf_X11_opened_31 (N : Nat) (z : Nat → Nat) : Nat → Int32 → mq_St → Option (Int32 × mq_St)
  | 0, _, _ => none
  | n + 1, v1, S => zf_X11_opened_31b N z (fun v1 S => zf_X11_opened_31 N z n v1 S) v1 S
def zf_X11_opened (N : Nat) (z : Nat → Nat) (S : mq_St) : Option (Int32 × mq_St) := (mq_nS (mq_si S 27 (((S.1 27) - (1 : Int32)))) (fun S1 => (mq_nI ((S1.1 25)) (fun x2 => (mq_cl (zf_X11_copy N (fun k => [10, 600].getD k 0) ((0 : Int32)) (((10 : Int32) * x2)) (mq_pull S1 [] [17, 19] [])) (fun q3v q3s => mq_nS (mq_push S1 q3s [] [17, 19] []) (fun S5 => (zf_X11_opened_31 N z N (x2) S5))))))))
set_option maxHeartbeats 4000000 in
set_option maxRecDepth 100000 in
theorem zw_X11_opened_75 {p : Program} {l : Launch} {e : Env} {s : State} {m : MethodId} {args : Array Value} {below : List Frame} {meth : Method} {c : Code} {A : Nat → Prop} {D : va_G} {a z : Nat → Nat} {cI cL cB cZ : ClassId} {Q : State → Prop} {N : Nat} {res : Int32 × mq_St} (C : mq_C p s m args c A D cI cL cB cZ cX11_opened 2 RX11 zc_X11_opened) (hret : ∀ (H : Heap) (locs : List Loc) (ls : Array Slot) (pc : Nat), decode cX11_opened pc = .ok (.ireturn, 1) → narrow .boolean (.int res.1) = .int res.1 → va_P D vwCl (wd_R a cI cL cB cZ z res.2) H → va_D A (wd_R a cI cL cB cZ z res.2) → va_S A s.heap H locs → W p l e zr_X11_opened s m args below meth c H locs 0 0 Q (F0 m pc ls [.int res.1])) (v1 : Int32) (S : mq_St) (H : Heap) (locs : List Loc) (ls : Array Slot) (h : zf_X11_opened_75 N z v1 S = some res) (hl : lv_has ls 2 [(0, .ref (a 0)), (1, .int (v1))]) (hP : va_P D vwCl (wd_R a cI cL cB cZ z S) H) (hD : va_D A (wd_R a cI cL cB cZ z S)) (hS : va_S A s.heap H locs) : W p l e zr_X11_opened s m args below meth c H locs 0 0 Q (F0 m 75 ls []) := by
  obtain ⟨hx, hb, hml, hown, hts, hK, hA⟩ := id C
  unfold zf_X11_opened_75 at h
  refine lv_aload_n hx hb dX11_opened_75 rfl (lv_at hl 0 rfl) ?_
  refine va_get (D := D) (ci := 11) (v := .int ((S.1 27))) (C := RX11) (T := TX11) (N := 76) hx hb hts (zi_X11 _) hown hK hP 0 rfl rfl 52 (by decide) (hts _ (List.mem_cons_of_mem _ zt_f_X11_292)) (fun _ h9 => h9) rfl dX11_opened_76 ?_
  refine lv_if_ne (tgt := 84) hx hb dX11_opened_79 (by decide) (fun c16 => ?_) (fun c16 => ?_)
  · replace h := mq_if c16 h
    refine lv_aload_n hx hb dX11_opened_84 rfl (lv_at hl 0 rfl) ?_
    refine va_get (D := D) (ci := 11) (v := .ref (a 23)) (C := RX11) (T := TX11) (N := 76) hx hb hts (zi_X11 _) hown hK hP 0 rfl rfl 48 (by decide) (hts _ (List.mem_cons_of_mem _ zt_f_X11_84)) (fun _ h9 => h9) rfl dX11_opened_85 ?_
    refine lv_bipush (v := (60 : Int32)) hx hb dX11_opened_88 (by decide) ?_
    refine lv_aload_n hx hb dX11_opened_90 rfl (lv_at hl 0 rfl) ?_
    refine va_get (D := D) (ci := 11) (v := .ref (a 28)) (C := RX11) (T := TX11) (N := 76) hx hb hts (zi_X11 _) hown hK hP 0 rfl rfl 56 (by decide) (hts _ (List.mem_cons_of_mem _ zt_f_X11_100)) (fun _ h9 => h9) rfl dX11_opened_91 ?_
    refine lv_aload_n hx hb dX11_opened_94 rfl (lv_at hl 0 rfl) ?_
    refine va_get (D := D) (ci := 11) (v := .int ((S.1 27))) (C := RX11) (T := TX11) (N := 76) hx hb hts (zi_X11 _) hown hK hP 0 rfl rfl 52 (by decide) (hts _ (List.mem_cons_of_mem _ zt_f_X11_292)) (fun _ h9 => h9) rfl dX11_opened_95 ?_
    refine lv_iconst (v := (1 : Int32)) hx hb dX11_opened_98 (by decide) ?_
    refine lv_isub hx hb dX11_opened_99 ?_
    have hi11 := mq_ck_in h
    replace h := mq_ck_go h
    refine va_iald (f := S.2.1 27) hx hb hK hP 28 0 rfl rfl hi11 dX11_opened_100 ?_
    refine lv_imul hx hb dX11_opened_101 ?_
    refine lv_iload_n hx hb dX11_opened_102 rfl (lv_at hl 1 rfl) ?_
    refine lv_iadd hx hb dX11_opened_103 ?_
    refine lv_iconst (v := (1 : Int32)) hx hb dX11_opened_104 (by decide) ?_
    have hi12 := mq_ck_in h
    replace h := mq_ck_go h
    refine mq_zast (w := wd_R a cI cL cB cZ z) (S := S) (f := S.2.1 22) hx hb hK hP hD hS 23 3 rfl rfl hi12 dX11_opened_105 22 (zs_wd_R_a_23_22 _ _ _ _ _ _ _ _) (fun S13 eS13 H locs hP hD hS => ?_)
    replace h := mq_nS_go eS13 h
    refine lv_iconst (v := (1 : Int32)) hx hb dX11_opened_106 (by decide) ?_
    have hz14 := mq_cz_in h
    replace h := mq_cz_go h
    cases h
    exact hret H locs ls 107 dX11_opened_107 hz14.1 hP hD hS
  · replace h := mq_it (by simpa using c16) h
    refine lv_iconst (v := (0 : Int32)) hx hb dX11_opened_82 (by decide) ?_
    have hz15 := mq_cz_in h
    replace h := mq_cz_go h
    cases h
    exact hret H locs ls 83 dX11_opened_83 hz15.1 hP hD hS
set_option maxHeartbeats 4000000 in
set_option maxRecDepth 100000 in
theorem zw_X11_opened_31b {p : Program} {l : Launch} {e : Env} {s : State} {m : MethodId} {args : Array Value} {below : List Frame} {meth : Method} {c : Code} {A : Nat → Prop} {D : va_G} {a z : Nat → Nat} {cI cL cB cZ : ClassId} {Q : State → Prop} {N : Nat} {res : Int32 × mq_St} {k31 : Int32 → mq_St → Option (Int32 × mq_St)} (C : mq_C p s m args c A D cI cL cB cZ cX11_opened 2 RX11 zc_X11_opened) (hret : ∀ (H : Heap) (locs : List Loc) (ls : Array Slot) (pc : Nat), decode cX11_opened pc = .ok (.ireturn, 1) → narrow .boolean (.int res.1) = .int res.1 → va_P D vwCl (wd_R a cI cL cB cZ z res.2) H → va_D A (wd_R a cI cL cB cZ z res.2) → va_S A s.heap H locs → W p l e zr_X11_opened s m args below meth c H locs 0 0 Q (F0 m pc ls [.int res.1])) (hk31 : ∀ (v1 : Int32) (S : mq_St) (H : Heap) (locs : List Loc) (ls : Array Slot), k31 v1 S = some res → lv_has ls 2 [(0, .ref (a 0)), (1, .int (v1))] → va_P D vwCl (wd_R a cI cL cB cZ z S) H → va_D A (wd_R a cI cL cB cZ z S) → va_S A s.heap H locs → W p l e zr_X11_opened s m args below meth c H locs 0 0 Q (F0 m 31 ls [])) (v1 : Int32) (S : mq_St) (H : Heap) (locs : List Loc) (ls : Array Slot) (h : zf_X11_opened_31b N z k31 v1 S = some res) (hl : lv_has ls 2 [(0, .ref (a 0)), (1, .int (v1))]) (hP : va_P D vwCl (wd_R a cI cL cB cZ z S) H) (hD : va_D A (wd_R a cI cL cB cZ z S)) (hS : va_S A s.heap H locs) : W p l e zr_X11_opened s m args below meth c H locs 0 0 Q (F0 m 31 ls []) := by
  obtain ⟨hx, hb, hml, hown, hts, hK, hA⟩ := id C
  unfold zf_X11_opened_31b at h
  refine lv_aload_n hx hb dX11_opened_31 rfl (lv_at hl 0 rfl) ?_
  refine va_get (D := D) (ci := 11) (v := .int ((S.1 27))) (C := RX11) (T := TX11) (N := 76) hx hb hts (zi_X11 _) hown hK hP 0 rfl rfl 52 (by decide) (hts _ (List.mem_cons_of_mem _ zt_f_X11_292)) (fun _ h9 => h9) rfl dX11_opened_32 ?_
  refine lv_if_le (tgt := 75) hx hb dX11_opened_35 (by decide) (fun c10 => ?_) (fun c10 => ?_)
  · replace h := mq_it c10 h
    exact zw_X11_opened_75 C hret (v1) S H locs ls h (lv_sub hl [0, 1] rfl) hP hD hS
  · replace h := mq_if c10 h
    refine lv_aload_n hx hb dX11_opened_38 rfl (lv_at hl 0 rfl) ?_
    refine va_get (D := D) (ci := 11) (v := .ref (a 26)) (C := RX11) (T := TX11) (N := 76) hx hb hts (zi_X11 _) hown hK hP 0 rfl rfl 54 (by decide) (hts _ (List.mem_cons_of_mem _ zt_f_X11_94)) (fun _ h9 => h9) rfl dX11_opened_39 ?_
    refine lv_aload_n hx hb dX11_opened_42 rfl (lv_at hl 0 rfl) ?_
    refine va_get (D := D) (ci := 11) (v := .int ((S.1 27))) (C := RX11) (T := TX11) (N := 76) hx hb hts (zi_X11 _) hown hK hP 0 rfl rfl 52 (by decide) (hts _ (List.mem_cons_of_mem _ zt_f_X11_292)) (fun _ h9 => h9) rfl dX11_opened_43 ?_
    refine lv_iconst (v := (1 : Int32)) hx hb dX11_opened_46 (by decide) ?_
    refine lv_isub hx hb dX11_opened_47 ?_
    have hi6 := mq_ck_in h
    replace h := mq_ck_go h
    refine va_zald (f := S.2.1 25) hx hb hK hP 26 3 rfl rfl hi6 dX11_opened_48 ?_
    refine lv_if_eq (tgt := 75) hx hb dX11_opened_49 (by decide) (fun c9 => ?_) (fun c9 => ?_)
    · replace h := mq_it c9 h
      exact zw_X11_opened_75 C hret (v1) S H locs ls h (lv_sub hl [0, 1] rfl) hP hD hS
    · replace h := mq_if c9 h
      refine lv_aload_n hx hb dX11_opened_52 rfl (lv_at hl 0 rfl) ?_
      refine lv_dup hx hb dX11_opened_53 rfl ?_
      refine va_get (D := D) (ci := 11) (v := .int ((S.1 27))) (C := RX11) (T := TX11) (N := 76) hx hb hts (zi_X11 _) hown hK hP 0 rfl rfl 52 (by decide) (hts _ (List.mem_cons_of_mem _ zt_f_X11_292)) (fun _ h9 => h9) rfl dX11_opened_54 ?_
      refine lv_iconst (v := (1 : Int32)) hx hb dX11_opened_57 (by decide) ?_
      refine lv_isub hx hb dX11_opened_58 ?_
      refine mq_put (w := wd_R a cI cL cB cZ z) (S := S) (D := D) (ci := 11) (v := ((S.1 27) - (1 : Int32))) (ty := .int) (C := RX11) (T := TX11) (N := 76) hx hb hts (zi_X11 _) tyX11 tyX11_ok nmX11 hown hK hP hD hS 0 rfl rfl 52 (by decide) (hts _ (List.mem_cons_of_mem _ zt_f_X11_292)) (fun _ h9 => h9) rfl (by decide +kernel) rfl rfl (Nat.le_of_ble_eq_true rfl) dX11_opened_59 27 (zs_wd_R_i_0_27 _ _ _ _ _ _ _ _) (fun S7 eS7 H locs hP hD hS => ?_)
      replace h := mq_nS_go eS7 h
      refine lv_aload_n hx hb dX11_opened_62 rfl (lv_at hl 0 rfl) ?_
      refine lv_dup hx hb dX11_opened_63 rfl ?_
      refine va_get (D := D) (ci := 11) (v := .int ((S7.1 28))) (C := RX11) (T := TX11) (N := 76) hx hb hts (zi_X11 _) hown hK hP 0 rfl rfl 53 (by decide) (hts _ (List.mem_cons_of_mem _ zt_f_X11_338)) (fun _ h9 => h9) rfl dX11_opened_64 ?_
      refine lv_iconst (v := (1 : Int32)) hx hb dX11_opened_67 (by decide) ?_
      refine lv_isub hx hb dX11_opened_68 ?_
      refine mq_put (w := wd_R a cI cL cB cZ z) (S := S7) (D := D) (ci := 11) (v := ((S7.1 28) - (1 : Int32))) (ty := .int) (C := RX11) (T := TX11) (N := 76) hx hb hts (zi_X11 _) tyX11 tyX11_ok nmX11 hown hK hP hD hS 0 rfl rfl 53 (by decide) (hts _ (List.mem_cons_of_mem _ zt_f_X11_338)) (fun _ h9 => h9) rfl (by decide +kernel) rfl rfl (Nat.le_of_ble_eq_true rfl) dX11_opened_69 28 (zs_wd_R_i_0_28 _ _ _ _ _ _ _ _) (fun S8 eS8 H locs hP hD hS => ?_)
      replace h := mq_nS_go eS8 h
      refine lv_goto (tgt := 31) hx hb dX11_opened_72 (by decide) ?_
      exact hk31 (v1) S8 H locs ls h (lv_sub hl [0, 1] rfl) hP hD hS
set_option maxHeartbeats 4000000 in
set_option maxRecDepth 100000 in
theorem zw_X11_opened_31 {p : Program} {l : Launch} {e : Env} {s : State} {m : MethodId} {args : Array Value} {below : List Frame} {meth : Method} {c : Code} {A : Nat → Prop} {D : va_G} {a z : Nat → Nat} {cI cL cB cZ : ClassId} {Q : State → Prop} {N : Nat} {res : Int32 × mq_St} (C : mq_C p s m args c A D cI cL cB cZ cX11_opened 2 RX11 zc_X11_opened) (hret : ∀ (H : Heap) (locs : List Loc) (ls : Array Slot) (pc : Nat), decode cX11_opened pc = .ok (.ireturn, 1) → narrow .boolean (.int res.1) = .int res.1 → va_P D vwCl (wd_R a cI cL cB cZ z res.2) H → va_D A (wd_R a cI cL cB cZ z res.2) → va_S A s.heap H locs → W p l e zr_X11_opened s m args below meth c H locs 0 0 Q (F0 m pc ls [.int res.1])) : ∀ (n : Nat) (v1 : Int32) (S : mq_St) (H : Heap) (locs : List Loc) (ls : Array Slot) (h : zf_X11_opened_31 N z n v1 S = some res) (hl : lv_has ls 2 [(0, .ref (a 0)), (1, .int (v1))]) (hP : va_P D vwCl (wd_R a cI cL cB cZ z S) H) (hD : va_D A (wd_R a cI cL cB cZ z S)) (hS : va_S A s.heap H locs), W p l e zr_X11_opened s m args below meth c H locs 0 0 Q (F0 m 31 ls []) := by
  intro n
  induction n with
  | zero =>
    intro v1 S H locs ls h hl hP hD hS
    exact nomatch (show (none : Option (Int32 × mq_St)) = some res from h)
  | succ n ih =>
    intro v1 S H locs ls h hl hP hD hS
    exact zw_X11_opened_31b C hret (fun v1 S H locs ls h hl hP hD hS => ih v1 S H locs ls h hl hP hD hS) v1 S H locs ls h hl hP hD hS
set_option maxHeartbeats 4000000 in
set_option maxRecDepth 100000 in
theorem zw_X11_opened_0 {p : Program} {l : Launch} {e : Env} {s : State} {m : MethodId} {args : Array Value} {below : List Frame} {meth : Method} {c : Code} {A : Nat → Prop} {D : va_G} {a z : Nat → Nat} {cI cL cB cZ : ClassId} {Q : State → Prop} {N : Nat} {res : Int32 × mq_St} (C : mq_C p s m args c A D cI cL cB cZ cX11_opened 2 RX11 zc_X11_opened) (hret : ∀ (H : Heap) (locs : List Loc) (ls : Array Slot) (pc : Nat), decode cX11_opened pc = .ok (.ireturn, 1) → narrow .boolean (.int res.1) = .int res.1 → va_P D vwCl (wd_R a cI cL cB cZ z res.2) H → va_D A (wd_R a cI cL cB cZ z res.2) → va_S A s.heap H locs → W p l e zr_X11_opened s m args below meth c H locs 0 0 Q (F0 m pc ls [.int res.1])) (S : mq_St) (H : Heap) (locs : List Loc) (ls : Array Slot) (h : zf_X11_opened N z S = some res) (hl : lv_has ls 2 [(0, .ref (a 0))]) (hP : va_P D vwCl (wd_R a cI cL cB cZ z S) H) (hD : va_D A (wd_R a cI cL cB cZ z S)) (hS : va_S A s.heap H locs) : W p l e zr_X11_opened s m args below meth c H locs 0 0 Q (F0 m 0 ls []) := by
  obtain ⟨hx, hb, hml, hown, hts, hK, hA⟩ := id C
  unfold zf_X11_opened at h
  refine lv_aload_n hx hb dX11_opened_0 rfl (lv_at hl 0 rfl) ?_
  refine lv_dup hx hb dX11_opened_1 rfl ?_
  refine va_get (D := D) (ci := 11) (v := .int ((S.1 27))) (C := RX11) (T := TX11) (N := 76) hx hb hts (zi_X11 _) hown hK hP 0 rfl rfl 52 (by decide) (hts _ (List.mem_cons_of_mem _ zt_f_X11_292)) (fun _ h9 => h9) rfl dX11_opened_2 ?_
  refine lv_iconst (v := (1 : Int32)) hx hb dX11_opened_5 (by decide) ?_
  refine lv_isub hx hb dX11_opened_6 ?_
  refine mq_put (w := wd_R a cI cL cB cZ z) (S := S) (D := D) (ci := 11) (v := ((S.1 27) - (1 : Int32))) (ty := .int) (C := RX11) (T := TX11) (N := 76) hx hb hts (zi_X11 _) tyX11 tyX11_ok nmX11 hown hK hP hD hS 0 rfl rfl 52 (by decide) (hts _ (List.mem_cons_of_mem _ zt_f_X11_292)) (fun _ h9 => h9) rfl (by decide +kernel) rfl rfl (Nat.le_of_ble_eq_true rfl) dX11_opened_7 27 (zs_wd_R_i_0_27 _ _ _ _ _ _ _ _) (fun S1 eS1 H locs hP hD hS => ?_)
  replace h := mq_nS_go eS1 h
  refine lv_aload_n hx hb dX11_opened_10 rfl (lv_at hl 0 rfl) ?_
  refine va_get (D := D) (ci := 11) (v := .int ((S1.1 25))) (C := RX11) (T := TX11) (N := 76) hx hb hts (zi_X11 _) hown hK hP 0 rfl rfl 43 (by decide) (hts _ (List.mem_cons_of_mem _ zt_f_X11_295)) (fun _ h9 => h9) rfl dX11_opened_11 ?_
  refine lv_topi (fun x2 ex2 => ?_)
  replace h := mq_nI_go ex2 h
  refine lv_istore_n (lv' := [(1, .int (x2)), (0, .ref (a 0))]) hx hb dX11_opened_14 rfl hl (by decide) rfl (fun ls hl => ?_)
  refine lv_aload_n hx hb dX11_opened_15 rfl (lv_at hl 1 rfl) ?_
  refine va_get (D := D) (ci := 11) (v := .ref (a 18)) (C := RX11) (T := TX11) (N := 76) hx hb hts (zi_X11 _) hown hK hP 0 rfl rfl 35 (by decide) (hts _ (List.mem_cons_of_mem _ zt_f_X11_69)) (fun _ h9 => h9) rfl dX11_opened_16 ?_
  refine lv_iconst (v := (0 : Int32)) hx hb dX11_opened_19 (by decide) ?_
  refine lv_aload_n hx hb dX11_opened_20 rfl (lv_at hl 1 rfl) ?_
  refine va_get (D := D) (ci := 11) (v := .ref (a 20)) (C := RX11) (T := TX11) (N := 76) hx hb hts (zi_X11 _) hown hK hP 0 rfl rfl 45 (by decide) (hts _ (List.mem_cons_of_mem _ zt_f_X11_75)) (fun _ h9 => h9) rfl dX11_opened_21 ?_
  refine lv_bipush (v := (10 : Int32)) hx hb dX11_opened_24 (by decide) ?_
  refine lv_iload_n hx hb dX11_opened_26 rfl (lv_at hl 0 rfl) ?_
  refine lv_imul hx hb dX11_opened_27 ?_
  obtain ⟨q3, hc4, h⟩ := mq_cl_go h
  refine zv_X11_copy (a := mq_ad a [18, 20]) (z := (fun k => [10, 600].getD k 0)) [18, 20] C zt_m_X11_301 ⟨by decide, by decide⟩ hc4 rfl (by decide) (ws' := (wd_R a cI cL cB cZ z (mq_push S1 q3.2 [] [17, 19] []))) (zx_wd_R_wd_A2_18_20 _ _ _ _ _ _ _ _) hP hD hS hl.1 (Nat.le_of_ble_eq_true rfl) dX11_opened_28 (fun H locs hP hD hS => ?_)
  obtain ⟨S5, eS5⟩ : ∃ y, y = mq_push S1 q3.2 [] [17, 19] [] := ⟨_, rfl⟩
  replace h := mq_nS_go eS5 h
  rw [← eS5] at hP hD
  exact zw_X11_opened_31 C hret N (x2) S5 H locs ls h (lv_sub hl [1, 0] rfl) hP hD hS
set_option maxHeartbeats 4000000 in
set_option maxRecDepth 100000 in
theorem zm_X11_opened (l : Launch) (D : va_G) (a z : Nat → Nat) (cI cL cB cZ : ClassId) (sz N : Nat) (S : mq_St) (res : Int32 × mq_St) (h : zf_X11_opened N z S = some res) : Met l yX11_opened (zc_X11_opened :: mq_T) zr_X11_opened (va_Pc [.ref (a 0)] (fun U => U.heap.size = sz ∧ va_P D vwCl (wd_R a cI cL cB cZ z S) U.heap ∧ va_K D vwCl (mq_tys cI cL cB cZ) U ∧ va_D (fun _ => True) (wd_R a cI cL cB cZ z S))) (va_Qi (fun (r : Int32) (u : mq_St) => r = res.1 ∧ u = res.2) (fun u t => va_P D vwCl (wd_R a cI cL cB cZ z u) t.heap ∧ va_K D vwCl (mq_tys cI cL cB cZ) t ∧ va_D (va_A (wd_R a cI cL cB cZ z S) sz) (wd_R a cI cL cB cZ z u)) (va_A (wd_R a cI cL cB cZ z S) sz)) 0 0 (va_A (wd_R a cI cL cB cZ z S) sz) := by
  refine Met.ofW (cc := cX11_opened) (maxL := 2) (ret := (some .boolean)) (by decide) rfl ?_
  intro p e s m args below meth c s₁ B hml hv
  obtain ⟨rfl, hsz, hP, hK, hD0⟩ := hv
  have hr := B.returns
  have hlocks := B.notSynchronized
  have hts := atoms_spec (ws := zc_X11_opened :: mq_T) B.pre
  have hown : s.vm.findClass RX11 = some m.cls := findClass_of_methodNamed B.named
  subst hsz
  have hD := hD0.self (sz := s.heap.size)
  generalize hAe : va_A (wd_R a cI cL cB cZ z S) s.heap.size = A at hD ⊢
  have hA : ∀ q : Nat, s.heap.size ≤ q → A q := fun q h => by rw [← hAe]; exact Or.inr h
  have hl := lv_entry ([.ref (a 0)]) (n := 2) (Nat.le_of_ble_eq_true rfl)
  rw [lg_entry_eq]
  generalize (lg_sl ([.ref (a 0)]) ++ List.replicate (2 - (lg_sl ([.ref (a 0)])).length) Slot.unset).toArray = ls at hl ⊢
  have hl : lv_has ls 2 [(0, .ref (a 0))] := hl
  refine zw_X11_opened_0 (A := A) ⟨B.exec, B.bytes, hml, hown, hts, hK, hA⟩ (fun H locs ls pc dg hz hP hD hS => ?_) S s.heap [] ls h hl hP hD va_S.rf
  exact W.zret B.exec B.bytes hr hz (fun t ht hW => ⟨⟨_, _, rfl, ⟨rfl, rfl⟩, by rw [ht]; exact hP, va_K.moved hW.alike hK, hD⟩, hS.F ht⟩) hS.2.2 dg
theorem zt_X11_opened_c : zc_X11_opened ∈ mq_T := mq_T_mem (mq_t7 (List.mem_of_getElem? (i := 127) rfl)) rfl
theorem zt_X11_opened_i : Cond.instanceMethod yX11_opened ∈ mq_T := mq_T_mem (mq_t7 (List.mem_of_getElem? (i := 126) rfl)) rfl
theorem zt_X11_opened_s : Cond.selects RX11 yX11_opened yX11_opened ∈ mq_T := mq_T_at 101 (by decide +kernel)
set_option maxHeartbeats 4000000 in
theorem zk_X11_opened {p : Program} {l : Launch} {e : Env} {R : Room} {s : State} {m : MethodId} {args : Array Value} {below : List Frame} {meth : Method} {c : Code} {A : Nat → Prop} {D : va_G} {a z : Nat → Nat} {cI cL cB cZ : ClassId} {Q : State → Prop} {cc : ByteArray} {nL idx pc N : Nat} {own : String} {c1 : Cond} {H : Heap} {locs : List Loc} {ls : Array Slot} {rest : List Value} {S : mq_St} {res : Int32 × mq_St} (C : mq_C p s m args c A D cI cL cB cZ cc nL own c1) (hlk : Cond.methodLink own idx yX11_opened ∈ mq_T) (hR : zr_X11_opened.frames + 1 ≤ R.frames ∧ 8 + (2 + 11) + zr_X11_opened.locals ≤ R.locals) (h : zf_X11_opened N z S = some res) (hP : va_P D vwCl (wd_R a cI cL cB cZ z S) H) (hD : va_D A (wd_R a cI cL cB cZ z S)) (hS : va_S A s.heap H locs) (hls : ls.size = nL) (hrest : (rest.map fun v => v.category).sum ≤ 8) (hdg : decode cc pc = .ok (.invokevirtual idx, 3)) (kk : ∀ (H1 : Heap) (locs1 : List Loc), va_P D vwCl (wd_R a cI cL cB cZ z res.2) H1 → va_D A (wd_R a cI cL cB cZ z res.2) → va_S A s.heap H1 locs1 → W p l e R s m args below meth c H1 locs1 0 0 Q (F0 m (pc + 3) ls (.int res.1 :: rest))) : W p l e R s m args below meth c H locs 0 0 Q (F0 m pc ls (.ref (a 0) :: rest)) := by
  obtain ⟨hx, hb, hml, hown, hts, hK, hA⟩ := C
  have hFc := mq_freeI hD hS hA
  refine va_calli (va_runV (As := []) (rest := rest) ⟨hx, hb, hml, hown, hts⟩ (zm_X11_opened l D a z cI cL cB cZ H.size N S res h) (cwV 0 hts (mq_goodL (mq_wsV hlk zt_X11_opened_i zt_X11_opened_s zt_ini_X11 zt_X11_opened_c)) rfl rfl rfl (by decide +kernel) hR) ⟨fun a U g mk q => ⟨q.1, q.2.1, q.2.2.1, va_K.moved (u := U) (U := U.calling g mk a) (Vm.Alike.refl U.vm) q.2.2.2.1, q.2.2.2.2⟩, zy_R_0 hK hP, fun U hU hW => ⟨rfl, by rw [hU], by rw [hU]; exact hP, va_K.moved hW.alike hK, hD.weaken (fun _ _ _ _ => trivial)⟩⟩ rfl rfl hls rfl (lv_room hrest) hdg ⟨Nat.zero_le _, Nat.zero_le _⟩) hS (fun q _ h => hFc q h) hFc (fun r u t H1 locs ht hvm hw hB hz1 hk1 hS => ?_)
  obtain ⟨rfl, rfl⟩ := hw
  obtain ⟨hP1, hK1, hD1⟩ := hB
  rw [ht] at hP1
  exact kk H1 locs hP1 (hD1.weaken (fun _ _ _ h => hFc _ h)) hS
theorem zs_wd_R_a_18_17 (a z : Nat → Nat) (cI cL cB cZ : ClassId) (S : mq_St) (f : Nat → Int32) : (wd_R a cI cL cB cZ z S).set 18 (a 18, .inl (cI, 10, .inl f)) = (wd_R a cI cL cB cZ z (mq_sa S 17 f)) := rfl
theorem zt_m_X11_356 : Cond.methodLink RX11 356 yX11_down ∈ mq_T := mq_T_mem (mq_t7 (List.mem_of_getElem? (i := 65) rfl)) rfl
theorem zt_m_X11_359 : Cond.methodLink RX11 359 yX11_closed ∈ mq_T := mq_T_mem (mq_t7 (List.mem_of_getElem? (i := 104) rfl)) rfl
theorem zt_m_X11_362 : Cond.methodLink RX11 362 yX11_mays ∈ mq_T := mq_T_mem (mq_t7 (List.mem_of_getElem? (i := 108) rfl)) rfl
theorem zt_m_X11_365 : Cond.methodLink RX11 365 yX11_opened ∈ mq_T := mq_T_mem (mq_t7 (List.mem_of_getElem? (i := 124) rfl)) rfl
/-! ModalDeskModel.tableau(I)I -/
def zr_X11_tableau : Room := { frames := 4, cells := 0, slots := 0, locals := 87 }
def zc_X11_tableau : Cond := .code yX11_tableau cX11_tableau 4 (some .int)
def zf_X11_tableau_130 (N : Nat) (z : Nat → Nat) (k82 : Int32 → mq_St → Option (Int32 × mq_St)) (S : mq_St) : Option (Int32 × mq_St) := (mq_cl (zf_X11_mays N z S) (fun q35v S37 => (mq_nI (q35v) (fun x38 => (if (S37.1 23) = (0 : Int32) then (if x38 = (0 : Int32) then (mq_cl (zf_X11_opened N z S37) (fun q39v S41 => (if q39v = (0 : Int32) then (some ((0 : Int32), S41)) else (k82 (x38) S41)))) else (k82 (x38) S37)) else (some ((S37.1 23), S37)))))))
def zf_X11_tableau_82b (N : Nat) (z : Nat → Nat) (k82 : Int32 → mq_St → Option (Int32 × mq_St)) (v2 : Int32) (S : mq_St) : Option (Int32 × mq_St) := (if v2 = (0 : Int32) then (zf_X11_tableau_130 N z k82 S) else (mq_cl (zf_X11_down N z S) (fun q22v S24 => (mq_nI (q22v) (fun x25 => (if (S24.1 23) = (0 : Int32) then (if x25 = (0 : Int32) then (zf_X11_tableau_130 N z k82 S24) else (mq_cl (zf_X11_closed N z S24) (fun q26v S28 => (mq_nI (q26v) (fun x29 => (if (S28.1 23) = (0 : Int32) then (if x29 = (0 : Int32) then (some ((1 : Int32), S28)) else (k82 (x29) S28)) else (some ((S28.1 23), S28)))))))) else (some ((S24.1 23), S24))))))))
def zf_X11_tableau_82 (N : Nat) (z : Nat → Nat) : Nat → Int32 → mq_St → Option (Int32 × mq_St)
  | 0, _, _ => none
  | n + 1, v2, S => zf_X11_tableau_82b N z (fun v2 S => zf_X11_tableau_82 N z n v2 S) v2 S
def zf_X11_tableau_47b (N : Nat) (z : Nat → Nat) (k47 : Int32 → Int32 → mq_St → Option (Int32 × mq_St)) (v1 : Int32) (v2 : Int32) (S : mq_St) : Option (Int32 × mq_St) := (if (10 : Int32) ≤ v2 then (mq_cl (zf_X11_put N (fun k => [10].getD k 0) ((0 : Int32)) (v1) (mq_pull S [] [17] [])) (fun q11v q11s => mq_nS (mq_push S q11s [] [17] []) (fun S13 => (mq_cl (zf_X11_begins N z ((-1 : Int32)) S13) (fun q14v S16 => (mq_nI ((1 : Int32)) (fun x17 => (zf_X11_tableau_82 N z N (x17) S16)))))))) else (mq_ck (v2) 10 (mq_nS (mq_sa S 17 (upd (S.2.1 17) (v2).toNatClampNeg ((0 : Int32)))) (fun S19 => (mq_nI (v2 + (1 : Int32)) (fun x20 => (k47 (v1) (x20) S19)))))))
def zf_X11_tableau_47 (N : Nat) (z : Nat → Nat) : Nat → Int32 → Int32 → mq_St → Option (Int32 × mq_St)
  | 0, _, _, _ => none
  | n + 1, v1, v2, S => zf_X11_tableau_47b N z (fun v1 v2 S => zf_X11_tableau_47 N z n v1 v2 S) v1 v2 S
def zf_X11_tableau (N : Nat) (z : Nat → Nat) (v1 : Int32) (S : mq_St) : Option (Int32 × mq_St) := (mq_nS (mq_si S 19 ((0 : Int32))) (fun S1 => (mq_nS (mq_si S1 20 ((0 : Int32))) (fun S2 => (mq_nS (mq_si S2 21 ((0 : Int32))) (fun S3 => (mq_nS (mq_si S3 22 ((0 : Int32))) (fun S4 => (mq_nS (mq_si S4 23 ((0 : Int32))) (fun S5 => (mq_nS (mq_si S5 24 ((0 : Int32))) (fun S6 => (mq_nS (mq_si S6 26 ((0 : Int32))) (fun S7 => (mq_nS (mq_si S7 27 ((0 : Int32))) (fun S8 => (mq_nS (mq_si S8 28 ((0 : Int32))) (fun S9 => (mq_nI ((0 : Int32)) (fun x10 => (zf_X11_tableau_47 N z N (v1) (x10) S9)))))))))))))))))))))
set_option maxHeartbeats 4000000 in
set_option maxRecDepth 100000 in
theorem zw_X11_tableau_130 {p : Program} {l : Launch} {e : Env} {s : State} {m : MethodId} {args : Array Value} {below : List Frame} {meth : Method} {c : Code} {A : Nat → Prop} {D : va_G} {a z : Nat → Nat} {cI cL cB cZ : ClassId} {Q : State → Prop} {N : Nat} {res : Int32 × mq_St} {k82 : Int32 → mq_St → Option (Int32 × mq_St)} (C : mq_C p s m args c A D cI cL cB cZ cX11_tableau 4 RX11 zc_X11_tableau) (hret : ∀ (H : Heap) (locs : List Loc) (ls : Array Slot) (pc : Nat), decode cX11_tableau pc = .ok (.ireturn, 1) → va_P D vwCl (wd_R a cI cL cB cZ z res.2) H → va_D A (wd_R a cI cL cB cZ z res.2) → va_S A s.heap H locs → W p l e zr_X11_tableau s m args below meth c H locs 0 0 Q (F0 m pc ls [.int res.1])) (hk82 : ∀ (v2 : Int32) (S : mq_St) (H : Heap) (locs : List Loc) (ls : Array Slot), k82 v2 S = some res → lv_has ls 4 [(0, .ref (a 0)), (2, .int (v2))] → va_P D vwCl (wd_R a cI cL cB cZ z S) H → va_D A (wd_R a cI cL cB cZ z S) → va_S A s.heap H locs → W p l e zr_X11_tableau s m args below meth c H locs 0 0 Q (F0 m 82 ls [])) (S : mq_St) (H : Heap) (locs : List Loc) (ls : Array Slot) (h : zf_X11_tableau_130 N z k82 S = some res) (hl : lv_has ls 4 [(0, .ref (a 0))]) (hP : va_P D vwCl (wd_R a cI cL cB cZ z S) H) (hD : va_D A (wd_R a cI cL cB cZ z S)) (hS : va_S A s.heap H locs) : W p l e zr_X11_tableau s m args below meth c H locs 0 0 Q (F0 m 130 ls []) := by
  obtain ⟨hx, hb, hml, hown, hts, hK, hA⟩ := id C
  unfold zf_X11_tableau_130 at h
  refine lv_aload_n hx hb dX11_tableau_130 rfl (lv_at hl 0 rfl) ?_
  obtain ⟨q35, hc36, h⟩ := mq_cl_go h
  refine zk_X11_mays C zt_m_X11_362 ⟨by decide, by decide⟩ hc36 hP hD hS hl.1 (Nat.le_of_ble_eq_true rfl) dX11_tableau_131 (fun H locs hP hD hS => ?_)
  obtain ⟨S37, eS37⟩ : ∃ y, y = q35.2 := ⟨_, rfl⟩
  rw [← eS37] at hP hD h
  refine lv_topi (fun x38 ex38 => ?_)
  replace h := mq_nI_go ex38 h
  refine lv_istore_n (lv' := [(2, .int (x38)), (0, .ref (a 0))]) hx hb dX11_tableau_134 rfl hl (by decide) rfl (fun ls hl => ?_)
  refine lv_aload_n hx hb dX11_tableau_135 rfl (lv_at hl 1 rfl) ?_
  refine va_get (D := D) (ci := 11) (v := .int ((S37.1 23))) (C := RX11) (T := TX11) (N := 76) hx hb hts (zi_X11 _) hown hK hP 0 rfl rfl 41 (by decide) (hts _ (List.mem_cons_of_mem _ zt_f_X11_286)) (fun _ h9 => h9) rfl dX11_tableau_136 ?_
  refine lv_if_eq (tgt := 147) hx hb dX11_tableau_139 (by decide) (fun c44 => ?_) (fun c44 => ?_)
  · replace h := mq_it c44 h
    refine lv_iload_n hx hb dX11_tableau_147 rfl (lv_at hl 0 rfl) ?_
    refine lv_if_ne (tgt := 82) hx hb dX11_tableau_148 (by decide) (fun c43 => ?_) (fun c43 => ?_)
    · replace h := mq_if c43 h
      exact hk82 (x38) S37 H locs ls h (lv_sub hl [1, 0] rfl) hP hD hS
    · replace h := mq_it (by simpa using c43) h
      refine lv_aload_n hx hb dX11_tableau_151 rfl (lv_at hl 1 rfl) ?_
      obtain ⟨q39, hc40, h⟩ := mq_cl_go h
      refine zk_X11_opened C zt_m_X11_365 ⟨by decide, by decide⟩ hc40 hP hD hS hl.1 (Nat.le_of_ble_eq_true rfl) dX11_tableau_152 (fun H locs hP hD hS => ?_)
      obtain ⟨S41, eS41⟩ : ∃ y, y = q39.2 := ⟨_, rfl⟩
      rw [← eS41] at hP hD h
      refine lv_if_ne (tgt := 82) hx hb dX11_tableau_155 (by decide) (fun c42 => ?_) (fun c42 => ?_)
      · replace h := mq_if c42 h
        exact hk82 (x38) S41 H locs ls h (lv_sub hl [1, 0] rfl) hP hD hS
      · replace h := mq_it (by simpa using c42) h
        refine lv_iconst (v := (0 : Int32)) hx hb dX11_tableau_158 (by decide) ?_
        cases h
        exact hret H locs ls 159 dX11_tableau_159 hP hD hS
  · replace h := mq_if c44 h
    refine lv_aload_n hx hb dX11_tableau_142 rfl (lv_at hl 1 rfl) ?_
    refine va_get (D := D) (ci := 11) (v := .int ((S37.1 23))) (C := RX11) (T := TX11) (N := 76) hx hb hts (zi_X11 _) hown hK hP 0 rfl rfl 41 (by decide) (hts _ (List.mem_cons_of_mem _ zt_f_X11_286)) (fun _ h9 => h9) rfl dX11_tableau_143 ?_
    cases h
    exact hret H locs ls 146 dX11_tableau_146 hP hD hS
set_option maxHeartbeats 4000000 in
set_option maxRecDepth 100000 in
theorem zw_X11_tableau_82b {p : Program} {l : Launch} {e : Env} {s : State} {m : MethodId} {args : Array Value} {below : List Frame} {meth : Method} {c : Code} {A : Nat → Prop} {D : va_G} {a z : Nat → Nat} {cI cL cB cZ : ClassId} {Q : State → Prop} {N : Nat} {res : Int32 × mq_St} {k82 : Int32 → mq_St → Option (Int32 × mq_St)} (C : mq_C p s m args c A D cI cL cB cZ cX11_tableau 4 RX11 zc_X11_tableau) (hret : ∀ (H : Heap) (locs : List Loc) (ls : Array Slot) (pc : Nat), decode cX11_tableau pc = .ok (.ireturn, 1) → va_P D vwCl (wd_R a cI cL cB cZ z res.2) H → va_D A (wd_R a cI cL cB cZ z res.2) → va_S A s.heap H locs → W p l e zr_X11_tableau s m args below meth c H locs 0 0 Q (F0 m pc ls [.int res.1])) (hk82 : ∀ (v2 : Int32) (S : mq_St) (H : Heap) (locs : List Loc) (ls : Array Slot), k82 v2 S = some res → lv_has ls 4 [(0, .ref (a 0)), (2, .int (v2))] → va_P D vwCl (wd_R a cI cL cB cZ z S) H → va_D A (wd_R a cI cL cB cZ z S) → va_S A s.heap H locs → W p l e zr_X11_tableau s m args below meth c H locs 0 0 Q (F0 m 82 ls [])) (v2 : Int32) (S : mq_St) (H : Heap) (locs : List Loc) (ls : Array Slot) (h : zf_X11_tableau_82b N z k82 v2 S = some res) (hl : lv_has ls 4 [(0, .ref (a 0)), (2, .int (v2))]) (hP : va_P D vwCl (wd_R a cI cL cB cZ z S) H) (hD : va_D A (wd_R a cI cL cB cZ z S)) (hS : va_S A s.heap H locs) : W p l e zr_X11_tableau s m args below meth c H locs 0 0 Q (F0 m 82 ls []) := by
  obtain ⟨hx, hb, hml, hown, hts, hK, hA⟩ := id C
  unfold zf_X11_tableau_82b at h
  refine lv_iload_n hx hb dX11_tableau_82 rfl (lv_at hl 1 rfl) ?_
  refine lv_if_eq (tgt := 130) hx hb dX11_tableau_83 (by decide) (fun c34 => ?_) (fun c34 => ?_)
  · replace h := mq_it c34 h
    exact zw_X11_tableau_130 C hret hk82 S H locs ls h (lv_sub hl [0] rfl) hP hD hS
  · replace h := mq_if c34 h
    refine lv_aload_n hx hb dX11_tableau_86 rfl (lv_at hl 0 rfl) ?_
    obtain ⟨q22, hc23, h⟩ := mq_cl_go h
    refine zk_X11_down C zt_m_X11_356 ⟨by decide, by decide⟩ hc23 hP hD hS hl.1 (Nat.le_of_ble_eq_true rfl) dX11_tableau_87 (fun H locs hP hD hS => ?_)
    obtain ⟨S24, eS24⟩ : ∃ y, y = q22.2 := ⟨_, rfl⟩
    rw [← eS24] at hP hD h
    refine lv_topi (fun x25 ex25 => ?_)
    replace h := mq_nI_go ex25 h
    refine lv_istore_n (lv' := [(3, .int (x25)), (0, .ref (a 0)), (2, .int (v2))]) hx hb dX11_tableau_90 rfl hl (by decide) rfl (fun ls hl => ?_)
    refine lv_aload_n hx hb dX11_tableau_91 rfl (lv_at hl 1 rfl) ?_
    refine va_get (D := D) (ci := 11) (v := .int ((S24.1 23))) (C := RX11) (T := TX11) (N := 76) hx hb hts (zi_X11 _) hown hK hP 0 rfl rfl 41 (by decide) (hts _ (List.mem_cons_of_mem _ zt_f_X11_286)) (fun _ h9 => h9) rfl dX11_tableau_92 ?_
    refine lv_if_eq (tgt := 103) hx hb dX11_tableau_95 (by decide) (fun c33 => ?_) (fun c33 => ?_)
    · replace h := mq_it c33 h
      refine lv_iload_n hx hb dX11_tableau_103 rfl (lv_at hl 0 rfl) ?_
      refine lv_if_eq (tgt := 130) hx hb dX11_tableau_104 (by decide) (fun c32 => ?_) (fun c32 => ?_)
      · replace h := mq_it c32 h
        exact zw_X11_tableau_130 C hret hk82 S24 H locs ls h (lv_sub hl [1] rfl) hP hD hS
      · replace h := mq_if c32 h
        refine lv_aload_n hx hb dX11_tableau_107 rfl (lv_at hl 1 rfl) ?_
        obtain ⟨q26, hc27, h⟩ := mq_cl_go h
        refine zk_X11_closed C zt_m_X11_359 ⟨by decide, by decide⟩ hc27 hP hD hS hl.1 (Nat.le_of_ble_eq_true rfl) dX11_tableau_108 (fun H locs hP hD hS => ?_)
        obtain ⟨S28, eS28⟩ : ∃ y, y = q26.2 := ⟨_, rfl⟩
        rw [← eS28] at hP hD h
        refine lv_topi (fun x29 ex29 => ?_)
        replace h := mq_nI_go ex29 h
        refine lv_istore_n (lv' := [(2, .int (x29)), (3, .int (x25)), (0, .ref (a 0))]) hx hb dX11_tableau_111 rfl hl (by decide) rfl (fun ls hl => ?_)
        refine lv_aload_n hx hb dX11_tableau_112 rfl (lv_at hl 2 rfl) ?_
        refine va_get (D := D) (ci := 11) (v := .int ((S28.1 23))) (C := RX11) (T := TX11) (N := 76) hx hb hts (zi_X11 _) hown hK hP 0 rfl rfl 41 (by decide) (hts _ (List.mem_cons_of_mem _ zt_f_X11_286)) (fun _ h9 => h9) rfl dX11_tableau_113 ?_
        refine lv_if_eq (tgt := 124) hx hb dX11_tableau_116 (by decide) (fun c31 => ?_) (fun c31 => ?_)
        · replace h := mq_it c31 h
          refine lv_iload_n hx hb dX11_tableau_124 rfl (lv_at hl 0 rfl) ?_
          refine lv_if_ne (tgt := 82) hx hb dX11_tableau_125 (by decide) (fun c30 => ?_) (fun c30 => ?_)
          · replace h := mq_if c30 h
            exact hk82 (x29) S28 H locs ls h (lv_sub hl [2, 0] rfl) hP hD hS
          · replace h := mq_it (by simpa using c30) h
            refine lv_iconst (v := (1 : Int32)) hx hb dX11_tableau_128 (by decide) ?_
            cases h
            exact hret H locs ls 129 dX11_tableau_129 hP hD hS
        · replace h := mq_if c31 h
          refine lv_aload_n hx hb dX11_tableau_119 rfl (lv_at hl 2 rfl) ?_
          refine va_get (D := D) (ci := 11) (v := .int ((S28.1 23))) (C := RX11) (T := TX11) (N := 76) hx hb hts (zi_X11 _) hown hK hP 0 rfl rfl 41 (by decide) (hts _ (List.mem_cons_of_mem _ zt_f_X11_286)) (fun _ h9 => h9) rfl dX11_tableau_120 ?_
          cases h
          exact hret H locs ls 123 dX11_tableau_123 hP hD hS
    · replace h := mq_if c33 h
      refine lv_aload_n hx hb dX11_tableau_98 rfl (lv_at hl 1 rfl) ?_
      refine va_get (D := D) (ci := 11) (v := .int ((S24.1 23))) (C := RX11) (T := TX11) (N := 76) hx hb hts (zi_X11 _) hown hK hP 0 rfl rfl 41 (by decide) (hts _ (List.mem_cons_of_mem _ zt_f_X11_286)) (fun _ h9 => h9) rfl dX11_tableau_99 ?_
      cases h
      exact hret H locs ls 102 dX11_tableau_102 hP hD hS
set_option maxHeartbeats 4000000 in
set_option maxRecDepth 100000 in
theorem zw_X11_tableau_82 {p : Program} {l : Launch} {e : Env} {s : State} {m : MethodId} {args : Array Value} {below : List Frame} {meth : Method} {c : Code} {A : Nat → Prop} {D : va_G} {a z : Nat → Nat} {cI cL cB cZ : ClassId} {Q : State → Prop} {N : Nat} {res : Int32 × mq_St} (C : mq_C p s m args c A D cI cL cB cZ cX11_tableau 4 RX11 zc_X11_tableau) (hret : ∀ (H : Heap) (locs : List Loc) (ls : Array Slot) (pc : Nat), decode cX11_tableau pc = .ok (.ireturn, 1) → va_P D vwCl (wd_R a cI cL cB cZ z res.2) H → va_D A (wd_R a cI cL cB cZ z res.2) → va_S A s.heap H locs → W p l e zr_X11_tableau s m args below meth c H locs 0 0 Q (F0 m pc ls [.int res.1])) : ∀ (n : Nat) (v2 : Int32) (S : mq_St) (H : Heap) (locs : List Loc) (ls : Array Slot) (h : zf_X11_tableau_82 N z n v2 S = some res) (hl : lv_has ls 4 [(0, .ref (a 0)), (2, .int (v2))]) (hP : va_P D vwCl (wd_R a cI cL cB cZ z S) H) (hD : va_D A (wd_R a cI cL cB cZ z S)) (hS : va_S A s.heap H locs), W p l e zr_X11_tableau s m args below meth c H locs 0 0 Q (F0 m 82 ls []) := by
  intro n
  induction n with
  | zero =>
    intro v2 S H locs ls h hl hP hD hS
    exact nomatch (show (none : Option (Int32 × mq_St)) = some res from h)
  | succ n ih =>
    intro v2 S H locs ls h hl hP hD hS
    exact zw_X11_tableau_82b C hret (fun v2 S H locs ls h hl hP hD hS => ih v2 S H locs ls h hl hP hD hS) v2 S H locs ls h hl hP hD hS
set_option maxHeartbeats 4000000 in
set_option maxRecDepth 100000 in
theorem zw_X11_tableau_47b {p : Program} {l : Launch} {e : Env} {s : State} {m : MethodId} {args : Array Value} {below : List Frame} {meth : Method} {c : Code} {A : Nat → Prop} {D : va_G} {a z : Nat → Nat} {cI cL cB cZ : ClassId} {Q : State → Prop} {N : Nat} {res : Int32 × mq_St} {k47 : Int32 → Int32 → mq_St → Option (Int32 × mq_St)} (C : mq_C p s m args c A D cI cL cB cZ cX11_tableau 4 RX11 zc_X11_tableau) (hret : ∀ (H : Heap) (locs : List Loc) (ls : Array Slot) (pc : Nat), decode cX11_tableau pc = .ok (.ireturn, 1) → va_P D vwCl (wd_R a cI cL cB cZ z res.2) H → va_D A (wd_R a cI cL cB cZ z res.2) → va_S A s.heap H locs → W p l e zr_X11_tableau s m args below meth c H locs 0 0 Q (F0 m pc ls [.int res.1])) (hk47 : ∀ (v1 : Int32) (v2 : Int32) (S : mq_St) (H : Heap) (locs : List Loc) (ls : Array Slot), k47 v1 v2 S = some res → lv_has ls 4 [(0, .ref (a 0)), (1, .int (v1)), (2, .int (v2))] → va_P D vwCl (wd_R a cI cL cB cZ z S) H → va_D A (wd_R a cI cL cB cZ z S) → va_S A s.heap H locs → W p l e zr_X11_tableau s m args below meth c H locs 0 0 Q (F0 m 47 ls [])) (v1 : Int32) (v2 : Int32) (S : mq_St) (H : Heap) (locs : List Loc) (ls : Array Slot) (h : zf_X11_tableau_47b N z k47 v1 v2 S = some res) (hl : lv_has ls 4 [(0, .ref (a 0)), (1, .int (v1)), (2, .int (v2))]) (hP : va_P D vwCl (wd_R a cI cL cB cZ z S) H) (hD : va_D A (wd_R a cI cL cB cZ z S)) (hS : va_S A s.heap H locs) : W p l e zr_X11_tableau s m args below meth c H locs 0 0 Q (F0 m 47 ls []) := by
  obtain ⟨hx, hb, hml, hown, hts, hK, hA⟩ := id C
  unfold zf_X11_tableau_47b at h
  refine lv_iload_n hx hb dX11_tableau_47 rfl (lv_at hl 2 rfl) ?_
  refine lv_bipush (v := (10 : Int32)) hx hb dX11_tableau_48 (by decide) ?_
  refine lv_icmp_ge (tgt := 66) hx hb dX11_tableau_50 (by decide) (fun c21 => ?_) (fun c21 => ?_)
  · replace h := mq_it c21 h
    refine lv_aload_n hx hb dX11_tableau_66 rfl (lv_at hl 0 rfl) ?_
    refine va_get (D := D) (ci := 11) (v := .ref (a 18)) (C := RX11) (T := TX11) (N := 76) hx hb hts (zi_X11 _) hown hK hP 0 rfl rfl 35 (by decide) (hts _ (List.mem_cons_of_mem _ zt_f_X11_69)) (fun _ h9 => h9) rfl dX11_tableau_67 ?_
    refine lv_iconst (v := (0 : Int32)) hx hb dX11_tableau_70 (by decide) ?_
    refine lv_iload_n hx hb dX11_tableau_71 rfl (lv_at hl 1 rfl) ?_
    obtain ⟨q11, hc12, h⟩ := mq_cl_go h
    refine zv_X11_put (a := mq_ad a [18]) (z := (fun k => [10].getD k 0)) [18] C zt_m_X11_324 ⟨by decide, by decide⟩ hc12 rfl (by decide) (ws' := (wd_R a cI cL cB cZ z (mq_push S q11.2 [] [17] []))) (zx_wd_R_wd_A1_18 _ _ _ _ _ _ _ _) hP hD hS hl.1 (Nat.le_of_ble_eq_true rfl) dX11_tableau_72 (fun H locs hP hD hS => ?_)
    obtain ⟨S13, eS13⟩ : ∃ y, y = mq_push S q11.2 [] [17] [] := ⟨_, rfl⟩
    replace h := mq_nS_go eS13 h
    rw [← eS13] at hP hD
    refine lv_aload_n hx hb dX11_tableau_75 rfl (lv_at hl 0 rfl) ?_
    refine lv_iconst (v := (-1 : Int32)) hx hb dX11_tableau_76 (by decide) ?_
    obtain ⟨q14, hc15, h⟩ := mq_cl_go h
    refine zk_X11_begins C zt_m_X11_350 ⟨by decide, by decide⟩ hc15 hP hD hS hl.1 (Nat.le_of_ble_eq_true rfl) dX11_tableau_77 (fun H locs hP hD hS => ?_)
    obtain ⟨S16, eS16⟩ : ∃ y, y = q14.2 := ⟨_, rfl⟩
    rw [← eS16] at hP hD h
    refine lv_iconst (v := (1 : Int32)) hx hb dX11_tableau_80 (by decide) ?_
    refine lv_topi (fun x17 ex17 => ?_)
    replace h := mq_nI_go ex17 h
    refine lv_istore_n (lv' := [(2, .int (x17)), (0, .ref (a 0)), (1, .int (v1))]) hx hb dX11_tableau_81 rfl hl (by decide) rfl (fun ls hl => ?_)
    exact zw_X11_tableau_82 C hret N (x17) S16 H locs ls h (lv_sub hl [1, 0] rfl) hP hD hS
  · replace h := mq_if c21 h
    refine lv_aload_n hx hb dX11_tableau_53 rfl (lv_at hl 0 rfl) ?_
    refine va_get (D := D) (ci := 11) (v := .ref (a 18)) (C := RX11) (T := TX11) (N := 76) hx hb hts (zi_X11 _) hown hK hP 0 rfl rfl 35 (by decide) (hts _ (List.mem_cons_of_mem _ zt_f_X11_69)) (fun _ h9 => h9) rfl dX11_tableau_54 ?_
    refine lv_iload_n hx hb dX11_tableau_57 rfl (lv_at hl 2 rfl) ?_
    refine lv_iconst (v := (0 : Int32)) hx hb dX11_tableau_58 (by decide) ?_
    have hi18 := mq_ck_in h
    replace h := mq_ck_go h
    refine mq_iast (w := wd_R a cI cL cB cZ z) (S := S) (f := S.2.1 17) hx hb hK hP hD hS 18 0 rfl rfl hi18 dX11_tableau_59 17 (zs_wd_R_a_18_17 _ _ _ _ _ _ _ _) (fun S19 eS19 H locs hP hD hS => ?_)
    replace h := mq_nS_go eS19 h
    obtain ⟨x20, ex20⟩ : ∃ y : Int32, y = v2 + (1 : Int32) := ⟨_, rfl⟩
    replace h := mq_nI_go ex20 h
    refine lv_iinc (v := x20) (lv' := [(2, .int (x20)), (0, .ref (a 0)), (1, .int (v1))]) hx hb dX11_tableau_60 hl (k := 2) rfl (by rw [ex20]; rfl) (by decide) rfl (fun ls hl => ?_)
    refine lv_goto (tgt := 47) hx hb dX11_tableau_63 (by decide) ?_
    exact hk47 (v1) (x20) S19 H locs ls h (lv_sub hl [1, 2, 0] rfl) hP hD hS
set_option maxHeartbeats 4000000 in
set_option maxRecDepth 100000 in
theorem zw_X11_tableau_47 {p : Program} {l : Launch} {e : Env} {s : State} {m : MethodId} {args : Array Value} {below : List Frame} {meth : Method} {c : Code} {A : Nat → Prop} {D : va_G} {a z : Nat → Nat} {cI cL cB cZ : ClassId} {Q : State → Prop} {N : Nat} {res : Int32 × mq_St} (C : mq_C p s m args c A D cI cL cB cZ cX11_tableau 4 RX11 zc_X11_tableau) (hret : ∀ (H : Heap) (locs : List Loc) (ls : Array Slot) (pc : Nat), decode cX11_tableau pc = .ok (.ireturn, 1) → va_P D vwCl (wd_R a cI cL cB cZ z res.2) H → va_D A (wd_R a cI cL cB cZ z res.2) → va_S A s.heap H locs → W p l e zr_X11_tableau s m args below meth c H locs 0 0 Q (F0 m pc ls [.int res.1])) : ∀ (n : Nat) (v1 : Int32) (v2 : Int32) (S : mq_St) (H : Heap) (locs : List Loc) (ls : Array Slot) (h : zf_X11_tableau_47 N z n v1 v2 S = some res) (hl : lv_has ls 4 [(0, .ref (a 0)), (1, .int (v1)), (2, .int (v2))]) (hP : va_P D vwCl (wd_R a cI cL cB cZ z S) H) (hD : va_D A (wd_R a cI cL cB cZ z S)) (hS : va_S A s.heap H locs), W p l e zr_X11_tableau s m args below meth c H locs 0 0 Q (F0 m 47 ls []) := by
  intro n
  induction n with
  | zero =>
    intro v1 v2 S H locs ls h hl hP hD hS
    exact nomatch (show (none : Option (Int32 × mq_St)) = some res from h)
  | succ n ih =>
    intro v1 v2 S H locs ls h hl hP hD hS
    exact zw_X11_tableau_47b C hret (fun v1 v2 S H locs ls h hl hP hD hS => ih v1 v2 S H locs ls h hl hP hD hS) v1 v2 S H locs ls h hl hP hD hS
set_option maxHeartbeats 4000000 in
set_option maxRecDepth 100000 in
theorem zw_X11_tableau_0 {p : Program} {l : Launch} {e : Env} {s : State} {m : MethodId} {args : Array Value} {below : List Frame} {meth : Method} {c : Code} {A : Nat → Prop} {D : va_G} {a z : Nat → Nat} {cI cL cB cZ : ClassId} {Q : State → Prop} {N : Nat} {res : Int32 × mq_St} (C : mq_C p s m args c A D cI cL cB cZ cX11_tableau 4 RX11 zc_X11_tableau) (hret : ∀ (H : Heap) (locs : List Loc) (ls : Array Slot) (pc : Nat), decode cX11_tableau pc = .ok (.ireturn, 1) → va_P D vwCl (wd_R a cI cL cB cZ z res.2) H → va_D A (wd_R a cI cL cB cZ z res.2) → va_S A s.heap H locs → W p l e zr_X11_tableau s m args below meth c H locs 0 0 Q (F0 m pc ls [.int res.1])) (v1 : Int32) (S : mq_St) (H : Heap) (locs : List Loc) (ls : Array Slot) (h : zf_X11_tableau N z v1 S = some res) (hl : lv_has ls 4 [(0, .ref (a 0)), (1, .int (v1))]) (hP : va_P D vwCl (wd_R a cI cL cB cZ z S) H) (hD : va_D A (wd_R a cI cL cB cZ z S)) (hS : va_S A s.heap H locs) : W p l e zr_X11_tableau s m args below meth c H locs 0 0 Q (F0 m 0 ls []) := by
  obtain ⟨hx, hb, hml, hown, hts, hK, hA⟩ := id C
  unfold zf_X11_tableau at h
  refine lv_aload_n hx hb dX11_tableau_0 rfl (lv_at hl 0 rfl) ?_
  refine lv_iconst (v := (0 : Int32)) hx hb dX11_tableau_1 (by decide) ?_
  refine mq_put (w := wd_R a cI cL cB cZ z) (S := S) (D := D) (ci := 11) (v := (0 : Int32)) (ty := .int) (C := RX11) (T := TX11) (N := 76) hx hb hts (zi_X11 _) tyX11 tyX11_ok nmX11 hown hK hP hD hS 0 rfl rfl 37 (by decide) (hts _ (List.mem_cons_of_mem _ zt_f_X11_280)) (fun _ h9 => h9) rfl (by decide +kernel) rfl rfl (Nat.le_of_ble_eq_true rfl) dX11_tableau_2 19 (zs_wd_R_i_0_19 _ _ _ _ _ _ _ _) (fun S1 eS1 H locs hP hD hS => ?_)
  replace h := mq_nS_go eS1 h
  refine lv_aload_n hx hb dX11_tableau_5 rfl (lv_at hl 0 rfl) ?_
  refine lv_iconst (v := (0 : Int32)) hx hb dX11_tableau_6 (by decide) ?_
  refine mq_put (w := wd_R a cI cL cB cZ z) (S := S1) (D := D) (ci := 11) (v := (0 : Int32)) (ty := .int) (C := RX11) (T := TX11) (N := 76) hx hb hts (zi_X11 _) tyX11 tyX11_ok nmX11 hown hK hP hD hS 0 rfl rfl 38 (by decide) (hts _ (List.mem_cons_of_mem _ zt_f_X11_305)) (fun _ h9 => h9) rfl (by decide +kernel) rfl rfl (Nat.le_of_ble_eq_true rfl) dX11_tableau_7 20 (zs_wd_R_i_0_20 _ _ _ _ _ _ _ _) (fun S2 eS2 H locs hP hD hS => ?_)
  replace h := mq_nS_go eS2 h
  refine lv_aload_n hx hb dX11_tableau_10 rfl (lv_at hl 0 rfl) ?_
  refine lv_iconst (v := (0 : Int32)) hx hb dX11_tableau_11 (by decide) ?_
  refine mq_put (w := wd_R a cI cL cB cZ z) (S := S2) (D := D) (ci := 11) (v := (0 : Int32)) (ty := .int) (C := RX11) (T := TX11) (N := 76) hx hb hts (zi_X11 _) tyX11 tyX11_ok nmX11 hown hK hP hD hS 0 rfl rfl 39 (by decide) (hts _ (List.mem_cons_of_mem _ zt_f_X11_353)) (fun _ h9 => h9) rfl (by decide +kernel) rfl rfl (Nat.le_of_ble_eq_true rfl) dX11_tableau_12 21 (zs_wd_R_i_0_21 _ _ _ _ _ _ _ _) (fun S3 eS3 H locs hP hD hS => ?_)
  replace h := mq_nS_go eS3 h
  refine lv_aload_n hx hb dX11_tableau_15 rfl (lv_at hl 0 rfl) ?_
  refine lv_iconst (v := (0 : Int32)) hx hb dX11_tableau_16 (by decide) ?_
  refine mq_put (w := wd_R a cI cL cB cZ z) (S := S3) (D := D) (ci := 11) (v := (0 : Int32)) (ty := .int) (C := RX11) (T := TX11) (N := 76) hx hb hts (zi_X11 _) tyX11 tyX11_ok nmX11 hown hK hP hD hS 0 rfl rfl 40 (by decide) (hts _ (List.mem_cons_of_mem _ zt_f_X11_308)) (fun _ h9 => h9) rfl (by decide +kernel) rfl rfl (Nat.le_of_ble_eq_true rfl) dX11_tableau_17 22 (zs_wd_R_i_0_22 _ _ _ _ _ _ _ _) (fun S4 eS4 H locs hP hD hS => ?_)
  replace h := mq_nS_go eS4 h
  refine lv_aload_n hx hb dX11_tableau_20 rfl (lv_at hl 0 rfl) ?_
  refine lv_iconst (v := (0 : Int32)) hx hb dX11_tableau_21 (by decide) ?_
  refine mq_put (w := wd_R a cI cL cB cZ z) (S := S4) (D := D) (ci := 11) (v := (0 : Int32)) (ty := .int) (C := RX11) (T := TX11) (N := 76) hx hb hts (zi_X11 _) tyX11 tyX11_ok nmX11 hown hK hP hD hS 0 rfl rfl 41 (by decide) (hts _ (List.mem_cons_of_mem _ zt_f_X11_286)) (fun _ h9 => h9) rfl (by decide +kernel) rfl rfl (Nat.le_of_ble_eq_true rfl) dX11_tableau_22 23 (zs_wd_R_i_0_23 _ _ _ _ _ _ _ _) (fun S5 eS5 H locs hP hD hS => ?_)
  replace h := mq_nS_go eS5 h
  refine lv_aload_n hx hb dX11_tableau_25 rfl (lv_at hl 0 rfl) ?_
  refine lv_iconst (v := (0 : Int32)) hx hb dX11_tableau_26 (by decide) ?_
  refine mq_put (w := wd_R a cI cL cB cZ z) (S := S5) (D := D) (ci := 11) (v := (0 : Int32)) (ty := .int) (C := RX11) (T := TX11) (N := 76) hx hb hts (zi_X11 _) tyX11 tyX11_ok nmX11 hown hK hP hD hS 0 rfl rfl 42 (by decide) (hts _ (List.mem_cons_of_mem _ zt_f_X11_298)) (fun _ h9 => h9) rfl (by decide +kernel) rfl rfl (Nat.le_of_ble_eq_true rfl) dX11_tableau_27 24 (zs_wd_R_i_0_24 _ _ _ _ _ _ _ _) (fun S6 eS6 H locs hP hD hS => ?_)
  replace h := mq_nS_go eS6 h
  refine lv_aload_n hx hb dX11_tableau_30 rfl (lv_at hl 0 rfl) ?_
  refine lv_iconst (v := (0 : Int32)) hx hb dX11_tableau_31 (by decide) ?_
  refine mq_put (w := wd_R a cI cL cB cZ z) (S := S6) (D := D) (ci := 11) (v := (0 : Int32)) (ty := .int) (C := RX11) (T := TX11) (N := 76) hx hb hts (zi_X11 _) tyX11 tyX11_ok nmX11 hown hK hP hD hS 0 rfl rfl 49 (by decide) (hts _ (List.mem_cons_of_mem _ zt_f_X11_289)) (fun _ h9 => h9) rfl (by decide +kernel) rfl rfl (Nat.le_of_ble_eq_true rfl) dX11_tableau_32 26 (zs_wd_R_i_0_26 _ _ _ _ _ _ _ _) (fun S7 eS7 H locs hP hD hS => ?_)
  replace h := mq_nS_go eS7 h
  refine lv_aload_n hx hb dX11_tableau_35 rfl (lv_at hl 0 rfl) ?_
  refine lv_iconst (v := (0 : Int32)) hx hb dX11_tableau_36 (by decide) ?_
  refine mq_put (w := wd_R a cI cL cB cZ z) (S := S7) (D := D) (ci := 11) (v := (0 : Int32)) (ty := .int) (C := RX11) (T := TX11) (N := 76) hx hb hts (zi_X11 _) tyX11 tyX11_ok nmX11 hown hK hP hD hS 0 rfl rfl 52 (by decide) (hts _ (List.mem_cons_of_mem _ zt_f_X11_292)) (fun _ h9 => h9) rfl (by decide +kernel) rfl rfl (Nat.le_of_ble_eq_true rfl) dX11_tableau_37 27 (zs_wd_R_i_0_27 _ _ _ _ _ _ _ _) (fun S8 eS8 H locs hP hD hS => ?_)
  replace h := mq_nS_go eS8 h
  refine lv_aload_n hx hb dX11_tableau_40 rfl (lv_at hl 0 rfl) ?_
  refine lv_iconst (v := (0 : Int32)) hx hb dX11_tableau_41 (by decide) ?_
  refine mq_put (w := wd_R a cI cL cB cZ z) (S := S8) (D := D) (ci := 11) (v := (0 : Int32)) (ty := .int) (C := RX11) (T := TX11) (N := 76) hx hb hts (zi_X11 _) tyX11 tyX11_ok nmX11 hown hK hP hD hS 0 rfl rfl 53 (by decide) (hts _ (List.mem_cons_of_mem _ zt_f_X11_338)) (fun _ h9 => h9) rfl (by decide +kernel) rfl rfl (Nat.le_of_ble_eq_true rfl) dX11_tableau_42 28 (zs_wd_R_i_0_28 _ _ _ _ _ _ _ _) (fun S9 eS9 H locs hP hD hS => ?_)
  replace h := mq_nS_go eS9 h
  refine lv_iconst (v := (0 : Int32)) hx hb dX11_tableau_45 (by decide) ?_
  refine lv_topi (fun x10 ex10 => ?_)
  replace h := mq_nI_go ex10 h
  refine lv_istore_n (lv' := [(2, .int (x10)), (0, .ref (a 0)), (1, .int (v1))]) hx hb dX11_tableau_46 rfl hl (by decide) rfl (fun ls hl => ?_)
  exact zw_X11_tableau_47 C hret N (v1) (x10) S9 H locs ls h (lv_sub hl [1, 2, 0] rfl) hP hD hS
set_option maxHeartbeats 4000000 in
set_option maxRecDepth 100000 in
theorem zm_X11_tableau (l : Launch) (D : va_G) (a z : Nat → Nat) (cI cL cB cZ : ClassId) (sz N : Nat) (v1 : Int32) (S : mq_St) (res : Int32 × mq_St) (h : zf_X11_tableau N z v1 S = some res) : Met l yX11_tableau (zc_X11_tableau :: mq_T) zr_X11_tableau (va_Pc [.ref (a 0), .int (v1)] (fun U => U.heap.size = sz ∧ va_P D vwCl (wd_R a cI cL cB cZ z S) U.heap ∧ va_K D vwCl (mq_tys cI cL cB cZ) U ∧ va_D (fun _ => True) (wd_R a cI cL cB cZ z S))) (va_Qi (fun (r : Int32) (u : mq_St) => r = res.1 ∧ u = res.2) (fun u t => va_P D vwCl (wd_R a cI cL cB cZ z u) t.heap ∧ va_K D vwCl (mq_tys cI cL cB cZ) t ∧ va_D (va_A (wd_R a cI cL cB cZ z S) sz) (wd_R a cI cL cB cZ z u)) (va_A (wd_R a cI cL cB cZ z S) sz)) 0 0 (va_A (wd_R a cI cL cB cZ z S) sz) := by
  refine Met.ofW (cc := cX11_tableau) (maxL := 4) (ret := (some .int)) (by decide) rfl ?_
  intro p e s m args below meth c s₁ B hml hv
  obtain ⟨rfl, hsz, hP, hK, hD0⟩ := hv
  have hr := B.returns
  have hlocks := B.notSynchronized
  have hts := atoms_spec (ws := zc_X11_tableau :: mq_T) B.pre
  have hown : s.vm.findClass RX11 = some m.cls := findClass_of_methodNamed B.named
  subst hsz
  have hD := hD0.self (sz := s.heap.size)
  generalize hAe : va_A (wd_R a cI cL cB cZ z S) s.heap.size = A at hD ⊢
  have hA : ∀ q : Nat, s.heap.size ≤ q → A q := fun q h => by rw [← hAe]; exact Or.inr h
  have hl := lv_entry ([.ref (a 0), .int (v1)]) (n := 4) (Nat.le_of_ble_eq_true rfl)
  rw [lg_entry_eq]
  generalize (lg_sl ([.ref (a 0), .int (v1)]) ++ List.replicate (4 - (lg_sl ([.ref (a 0), .int (v1)])).length) Slot.unset).toArray = ls at hl ⊢
  have hl : lv_has ls 4 [(0, .ref (a 0)), (1, .int (v1))] := hl
  refine zw_X11_tableau_0 (A := A) ⟨B.exec, B.bytes, hml, hown, hts, hK, hA⟩ (fun H locs ls pc dg hP hD hS => ?_) v1 S s.heap [] ls h hl hP hD va_S.rf
  exact W.iret B.exec B.bytes hr (fun t ht hW => ⟨⟨_, _, rfl, ⟨rfl, rfl⟩, by rw [ht]; exact hP, va_K.moved hW.alike hK, hD⟩, hS.F ht⟩) hS.2.2 dg
theorem zt_X11_tableau_c : zc_X11_tableau ∈ mq_T := mq_T_mem (mq_t7 (List.mem_of_getElem? (i := 54) rfl)) rfl
theorem zt_X11_tableau_i : Cond.instanceMethod yX11_tableau ∈ mq_T := mq_T_mem (mq_t7 (List.mem_of_getElem? (i := 53) rfl)) rfl
theorem zt_X11_tableau_s : Cond.selects RX11 yX11_tableau yX11_tableau ∈ mq_T := mq_T_at 85 (by decide +kernel)
set_option maxHeartbeats 4000000 in
theorem zk_X11_tableau {p : Program} {l : Launch} {e : Env} {R : Room} {s : State} {m : MethodId} {args : Array Value} {below : List Frame} {meth : Method} {c : Code} {A : Nat → Prop} {D : va_G} {a z : Nat → Nat} {cI cL cB cZ : ClassId} {Q : State → Prop} {cc : ByteArray} {nL idx pc N : Nat} {own : String} {c1 : Cond} {H : Heap} {locs : List Loc} {ls : Array Slot} {rest : List Value} {S : mq_St} {res : Int32 × mq_St} {v1 : Int32} (C : mq_C p s m args c A D cI cL cB cZ cc nL own c1) (hlk : Cond.methodLink own idx yX11_tableau ∈ mq_T) (hR : zr_X11_tableau.frames + 1 ≤ R.frames ∧ 8 + (4 + 11) + zr_X11_tableau.locals ≤ R.locals) (h : zf_X11_tableau N z v1 S = some res) (hP : va_P D vwCl (wd_R a cI cL cB cZ z S) H) (hD : va_D A (wd_R a cI cL cB cZ z S)) (hS : va_S A s.heap H locs) (hls : ls.size = nL) (hrest : (rest.map fun v => v.category).sum ≤ 8) (hdg : decode cc pc = .ok (.invokevirtual idx, 3)) (kk : ∀ (H1 : Heap) (locs1 : List Loc), va_P D vwCl (wd_R a cI cL cB cZ z res.2) H1 → va_D A (wd_R a cI cL cB cZ z res.2) → va_S A s.heap H1 locs1 → W p l e R s m args below meth c H1 locs1 0 0 Q (F0 m (pc + 3) ls (.int res.1 :: rest))) : W p l e R s m args below meth c H locs 0 0 Q (F0 m pc ls (.int (v1) :: .ref (a 0) :: rest)) := by
  obtain ⟨hx, hb, hml, hown, hts, hK, hA⟩ := C
  have hFc := mq_freeI hD hS hA
  refine va_calli (va_runV (As := [.int (v1)]) (rest := rest) ⟨hx, hb, hml, hown, hts⟩ (zm_X11_tableau l D a z cI cL cB cZ H.size N v1 S res h) (cwV 1 hts (mq_goodL (mq_wsV hlk zt_X11_tableau_i zt_X11_tableau_s zt_ini_X11 zt_X11_tableau_c)) rfl rfl rfl (by decide +kernel) hR) ⟨fun a U g mk q => ⟨q.1, q.2.1, q.2.2.1, va_K.moved (u := U) (U := U.calling g mk a) (Vm.Alike.refl U.vm) q.2.2.2.1, q.2.2.2.2⟩, zy_R_0 hK hP, fun U hU hW => ⟨rfl, by rw [hU], by rw [hU]; exact hP, va_K.moved hW.alike hK, hD.weaken (fun _ _ _ _ => trivial)⟩⟩ rfl rfl hls rfl (lv_room hrest) hdg ⟨Nat.zero_le _, Nat.zero_le _⟩) hS (fun q _ h => hFc q h) hFc (fun r u t H1 locs ht hvm hw hB hz1 hk1 hS => ?_)
  obtain ⟨rfl, rfl⟩ := hw
  obtain ⟨hP1, hK1, hD1⟩ := hB
  rw [ht] at hP1
  exact kk H1 locs hP1 (hD1.weaken (fun _ _ _ h => hFc _ h)) hS
theorem zt_f_X11_375 : Cond.fieldLink RX11 375 "ModalDeskModel" "modelWorlds" "I" ∈ mq_T := mq_T_mem (mq_t5 (List.mem_of_getElem? (i := 230) rfl)) rfl
theorem zs_wd_R_i_0_31 (a z : Nat → Nat) (cI cL cB cZ : ClassId) (S : mq_St) (v : Int32) : (wd_R a cI cL cB cZ z S).set 0 (a 0, .inr (11, ([.int (S.1 0), .ref (a 1), .int (S.1 1), .ref (a 2), .int (S.1 2), .ref (a 3), .ref (a 4), .ref (a 5), .int (S.1 3), .ref (a 6), .ref (a 7), .int (S.1 4), .int (S.1 5), .int (S.1 6), .ref (a 8), .ref (a 9), .ref (a 10), .ref (a 11), .ref (a 12), .int (S.1 7), .int (S.1 8), .int (S.1 9), .int (S.1 10), .int (S.1 11), .int (S.1 12), .int (S.1 13), .ref (a 13), .ref (a 14), .int (S.1 14), .int (S.1 15), .int (S.1 16), .ref (a 15), .int (S.1 17), .ref (a 16), .ref (a 17), .ref (a 18), .int (S.1 18), .int (S.1 19), .int (S.1 20), .int (S.1 21), .int (S.1 22), .int (S.1 23), .int (S.1 24), .int (S.1 25), .ref (a 19), .ref (a 20), .ref (a 21), .ref (a 22), .ref (a 23), .int (S.1 26), .ref (a 24), .ref (a 25), .int (S.1 27), .int (S.1 28), .ref (a 26), .ref (a 27), .ref (a 28), .ref (a 29), .ref (a 30), .ref (a 31), .ref (a 32), .int (S.1 29), .int (S.1 30), .ref (a 33), .ref (a 34), .int (S.1 31), .ref (a 35), .ref (a 36), .ref (a 37), .ref (a 38), .ref (a 39), .ref (a 40), .ref (a 41), .ref (a 42), .ref (a 43), .ref (a 44)] : List Value).set 65 (.int v))) = (wd_R a cI cL cB cZ z (mq_si S 31 v)) := rfl
theorem zt_f_X11_121 : Cond.fieldLink RX11 121 "ModalDeskModel" "modelLetters" "[I" ∈ mq_T := mq_T_mem (mq_t5 (List.mem_of_getElem? (i := 231) rfl)) rfl
theorem zs_wd_R_a_35_34 (a z : Nat → Nat) (cI cL cB cZ : ClassId) (S : mq_St) (f : Nat → Int32) : (wd_R a cI cL cB cZ z S).set 35 (a 35, .inl (cI, 60, .inl f)) = (wd_R a cI cL cB cZ z (mq_sa S 34 f)) := rfl
theorem zt_f_X11_127 : Cond.fieldLink RX11 127 "ModalDeskModel" "modelSizes" "[I" ∈ mq_T := mq_T_mem (mq_t5 (List.mem_of_getElem? (i := 233) rfl)) rfl
theorem zs_wd_R_a_37_36 (a z : Nat → Nat) (cI cL cB cZ : ClassId) (S : mq_St) (f : Nat → Int32) : (wd_R a cI cL cB cZ z S).set 37 (a 37, .inl (cI, 60, .inl f)) = (wd_R a cI cL cB cZ z (mq_sa S 36 f)) := rfl
theorem zt_f_X11_124 : Cond.fieldLink RX11 124 "ModalDeskModel" "modelSees" "[Z" ∈ mq_T := mq_T_mem (mq_t5 (List.mem_of_getElem? (i := 232) rfl)) rfl
theorem zs_wd_R_a_36_35 (a z : Nat → Nat) (cI cL cB cZ : ClassId) (S : mq_St) (f : Nat → Int32) : (wd_R a cI cL cB cZ z S).set 36 (a 36, .inl (cZ, 3600, .inl f)) = (wd_R a cI cL cB cZ z (mq_sa S 35 f)) := rfl
/-! ModalDeskModel.takeModel()V -/
def zr_X11_takeModel : Room := { frames := 1, cells := 0, slots := 0, locals := 22 }
def zc_X11_takeModel : Cond := .code yX11_takeModel cX11_takeModel 4 none
def zf_X11_takeModel_98 (N : Nat) (z : Nat → Nat) (k10 : Int32 → mq_St → Option (Unit × mq_St)) (k34 : Int32 → Int32 → mq_St → Option (Unit × mq_St)) (v1 : Int32) (v2 : Int32) (S : mq_St) : Option (Unit × mq_St) := (mq_nI (v2 + (1 : Int32)) (fun x24 => (k34 (v1) (x24) S)))
def zf_X11_takeModel_96 (N : Nat) (z : Nat → Nat) (k10 : Int32 → mq_St → Option (Unit × mq_St)) (k34 : Int32 → Int32 → mq_St → Option (Unit × mq_St)) (v1 : Int32) (v2 : Int32) (t1 : Int32) (t2 : Int32) (t3 : Int32) (S : mq_St) : Option (Unit × mq_St) := (mq_ck (t1) 60 (mq_nS (mq_sa S 34 (upd (S.2.1 34) (t1).toNatClampNeg ((t2 ||| t3)))) (fun S23 => (zf_X11_takeModel_98 N z k10 k34 (v1) (v2) S23))))
def zf_X11_takeModel_148 (N : Nat) (z : Nat → Nat) (k10 : Int32 → mq_St → Option (Unit × mq_St)) (k106 : Int32 → Int32 → mq_St → Option (Unit × mq_St)) (v1 : Int32) (v2 : Int32) (t1 : Int32) (t2 : Int32) (S : mq_St) : Option (Unit × mq_St) := (mq_ck (t1) 3600 (mq_nS (mq_sa S 35 (upd (S.2.1 35) (t1).toNatClampNeg (vp_nar .boolean (t2)))) (fun S31 => (mq_nI (v2 + (1 : Int32)) (fun x32 => (k106 (v1) (x32) S31))))))
def zf_X11_takeModel_143 (N : Nat) (z : Nat → Nat) (k10 : Int32 → mq_St → Option (Unit × mq_St)) (k106 : Int32 → Int32 → mq_St → Option (Unit × mq_St)) (v1 : Int32) (v2 : Int32) (t1 : Int32) (S : mq_St) : Option (Unit × mq_St) := (zf_X11_takeModel_148 N z k10 k106 (v1) (v2) (t1) ((1 : Int32)) S)
def zf_X11_takeModel_106b (N : Nat) (z : Nat → Nat) (k10 : Int32 → mq_St → Option (Unit × mq_St)) (k106 : Int32 → Int32 → mq_St → Option (Unit × mq_St)) (v1 : Int32) (v2 : Int32) (S : mq_St) : Option (Unit × mq_St) := (if (S.1 24) ≤ v2 then (mq_nI (v1 + (1 : Int32)) (fun x25 => (k10 (x25) S))) else (if v2 = v1 then (zf_X11_takeModel_143 N z k10 k106 (v1) (v2) ((((60 : Int32) * v1) + v2)) S) else (mq_ck ((((60 : Int32) * v1) + v2)) 3600 (if (S.2.1 22 ((((60 : Int32) * v1) + v2)).toNatClampNeg) = (0 : Int32) then (zf_X11_takeModel_148 N z k10 k106 (v1) (v2) ((((60 : Int32) * v1) + v2)) ((0 : Int32)) S) else (zf_X11_takeModel_143 N z k10 k106 (v1) (v2) ((((60 : Int32) * v1) + v2)) S)))))
def zf_X11_takeModel_106 (N : Nat) (z : Nat → Nat) (k10 : Int32 → mq_St → Option (Unit × mq_St)) : Nat → Int32 → Int32 → mq_St → Option (Unit × mq_St)
  | 0, _, _, _ => none
  | n + 1, v1, v2, S => zf_X11_takeModel_106b N z k10 (fun v1 v2 S => zf_X11_takeModel_106 N z k10 n v1 v2 S) v1 v2 S
def zf_X11_takeModel_34b (N : Nat) (z : Nat → Nat) (k10 : Int32 → mq_St → Option (Unit × mq_St)) (k34 : Int32 → Int32 → mq_St → Option (Unit × mq_St)) (v1 : Int32) (v2 : Int32) (S : mq_St) : Option (Unit × mq_St) := (if (S.1 3) ≤ v2 then (mq_nI ((0 : Int32)) (fun x10 => (zf_X11_takeModel_106 N z k10 N (v1) (x10) S))) else (mq_cp (zf_X11_isIn N (fun k => [600].getD k 0) (((10 : Int32) * v1)) (v2) (mq_pull S [] [19] [])) (fun q11 => (if q11 = (0 : Int32) then (zf_X11_takeModel_98 N z k10 k34 (v1) (v2) S) else (mq_ck (v1) 60 (mq_ck (v1) 60 (mq_nS (mq_sa S 36 (upd (S.2.1 36) (v1).toNatClampNeg (((S.2.1 36 (v1).toNatClampNeg) + (1 : Int32))))) (fun S15 => (mq_ck (v1) 60 (mq_ck (v2) 300 (if (S15.2.1 2 (v2).toNatClampNeg) = (2 : Int32) then (mq_ck (v2) 300 (zf_X11_takeModel_96 N z k10 k34 (v1) (v2) (v1) ((S15.2.1 34 (v1).toNatClampNeg)) (((1 : Int32) <<< ((S15.2.1 3 (v2).toNatClampNeg) &&& (31 : Int32)))) S15)) else (zf_X11_takeModel_96 N z k10 k34 (v1) (v2) (v1) ((S15.2.1 34 (v1).toNatClampNeg)) ((0 : Int32)) S15))))))))))))
def zf_X11_takeModel_34 (N : Nat) (z : Nat → Nat) (k10 : Int32 → mq_St → Option (Unit × mq_St)) : Nat → Int32 → Int32 → mq_St → Option (Unit × mq_St)
  | 0, _, _, _ => none
  | n + 1, v1, v2, S => zf_X11_takeModel_34b N z k10 (fun v1 v2 S => zf_X11_takeModel_34 N z k10 n v1 v2 S) v1 v2 S
def zf_X11_takeModel_248 (N : Nat) (z : Nat → Nat) (k163 : Int32 → mq_St → Option (Unit × mq_St)) (k173 : Int32 → Int32 → mq_St → Option (Unit × mq_St)) (k183 : Int32 → Int32 → Int32 → mq_St → Option (Unit × mq_St)) (v1 : Int32) (v2 : Int32) (v3 : Int32) (t1 : Int32) (t2 : Int32) (S : mq_St) : Option (Unit × mq_St) := (mq_ck (t1) 3600 (mq_nS (mq_sa S 35 (upd (S.2.1 35) (t1).toNatClampNeg (vp_nar .boolean (t2)))) (fun S46 => (mq_nI (v3 + (1 : Int32)) (fun x47 => (k183 (v1) (v2) (x47) S46))))))
def zf_X11_takeModel_243 (N : Nat) (z : Nat → Nat) (k163 : Int32 → mq_St → Option (Unit × mq_St)) (k173 : Int32 → Int32 → mq_St → Option (Unit × mq_St)) (k183 : Int32 → Int32 → Int32 → mq_St → Option (Unit × mq_St)) (v1 : Int32) (v2 : Int32) (v3 : Int32) (t1 : Int32) (S : mq_St) : Option (Unit × mq_St) := (zf_X11_takeModel_248 N z k163 k173 k183 (v1) (v2) (v3) (t1) ((1 : Int32)) S)
def zf_X11_takeModel_255 (N : Nat) (z : Nat → Nat) (k163 : Int32 → mq_St → Option (Unit × mq_St)) (k173 : Int32 → Int32 → mq_St → Option (Unit × mq_St)) (v1 : Int32) (v2 : Int32) (S : mq_St) : Option (Unit × mq_St) := (mq_nI (v2 + (1 : Int32)) (fun x48 => (k173 (v1) (x48) S)))
def zf_X11_takeModel_183b (N : Nat) (z : Nat → Nat) (k163 : Int32 → mq_St → Option (Unit × mq_St)) (k173 : Int32 → Int32 → mq_St → Option (Unit × mq_St)) (k183 : Int32 → Int32 → Int32 → mq_St → Option (Unit × mq_St)) (v1 : Int32) (v2 : Int32) (v3 : Int32) (S : mq_St) : Option (Unit × mq_St) := (if (S.1 24) ≤ v3 then (zf_X11_takeModel_255 N z k163 k173 (v1) (v2) S) else (mq_ck ((((60 : Int32) * v2) + v1)) 3600 (if (S.2.1 35 ((((60 : Int32) * v2) + v1)).toNatClampNeg) = (0 : Int32) then (zf_X11_takeModel_255 N z k163 k173 (v1) (v2) S) else (mq_ck ((((60 : Int32) * v2) + v3)) 3600 (if (S.2.1 35 ((((60 : Int32) * v2) + v3)).toNatClampNeg) = (0 : Int32) then (mq_ck ((((60 : Int32) * v1) + v3)) 3600 (if (S.2.1 35 ((((60 : Int32) * v1) + v3)).toNatClampNeg) = (0 : Int32) then (zf_X11_takeModel_248 N z k163 k173 k183 (v1) (v2) (v3) ((((60 : Int32) * v2) + v3)) ((0 : Int32)) S) else (zf_X11_takeModel_243 N z k163 k173 k183 (v1) (v2) (v3) ((((60 : Int32) * v2) + v3)) S))) else (zf_X11_takeModel_243 N z k163 k173 k183 (v1) (v2) (v3) ((((60 : Int32) * v2) + v3)) S))))))
def zf_X11_takeModel_183 (N : Nat) (z : Nat → Nat) (k163 : Int32 → mq_St → Option (Unit × mq_St)) (k173 : Int32 → Int32 → mq_St → Option (Unit × mq_St)) : Nat → Int32 → Int32 → Int32 → mq_St → Option (Unit × mq_St)
  | 0, _, _, _, _ => none
  | n + 1, v1, v2, v3, S => zf_X11_takeModel_183b N z k163 k173 (fun v1 v2 v3 S => zf_X11_takeModel_183 N z k163 k173 n v1 v2 v3 S) v1 v2 v3 S
def zf_X11_takeModel_173b (N : Nat) (z : Nat → Nat) (k163 : Int32 → mq_St → Option (Unit × mq_St)) (k173 : Int32 → Int32 → mq_St → Option (Unit × mq_St)) (v1 : Int32) (v2 : Int32) (S : mq_St) : Option (Unit × mq_St) := (if (S.1 24) ≤ v2 then (mq_nI (v1 + (1 : Int32)) (fun x35 => (k163 (x35) S))) else (mq_nI ((0 : Int32)) (fun x36 => (zf_X11_takeModel_183 N z k163 k173 N (v1) (v2) (x36) S))))
def zf_X11_takeModel_173 (N : Nat) (z : Nat → Nat) (k163 : Int32 → mq_St → Option (Unit × mq_St)) : Nat → Int32 → Int32 → mq_St → Option (Unit × mq_St)
  | 0, _, _, _ => none
  | n + 1, v1, v2, S => zf_X11_takeModel_173b N z k163 (fun v1 v2 S => zf_X11_takeModel_173 N z k163 n v1 v2 S) v1 v2 S
def zf_X11_takeModel_163b (N : Nat) (z : Nat → Nat) (k163 : Int32 → mq_St → Option (Unit × mq_St)) (v1 : Int32) (S : mq_St) : Option (Unit × mq_St) := (if (S.1 24) ≤ v1 then (some ((), S)) else (mq_nI ((0 : Int32)) (fun x33 => (zf_X11_takeModel_173 N z k163 N (v1) (x33) S))))
def zf_X11_takeModel_163 (N : Nat) (z : Nat → Nat) : Nat → Int32 → mq_St → Option (Unit × mq_St)
  | 0, _, _ => none
  | n + 1, v1, S => zf_X11_takeModel_163b N z (fun v1 S => zf_X11_takeModel_163 N z n v1 S) v1 S
def zf_X11_takeModel_10b (N : Nat) (z : Nat → Nat) (k10 : Int32 → mq_St → Option (Unit × mq_St)) (v1 : Int32) (S : mq_St) : Option (Unit × mq_St) := (if (S.1 24) ≤ v1 then (mq_nI ((0 : Int32)) (fun x3 => (zf_X11_takeModel_163 N z N (x3) S))) else (mq_ck (v1) 60 (mq_nS (mq_sa S 34 (upd (S.2.1 34) (v1).toNatClampNeg ((0 : Int32)))) (fun S5 => (mq_ck (v1) 60 (mq_nS (mq_sa S5 36 (upd (S5.2.1 36) (v1).toNatClampNeg ((0 : Int32)))) (fun S7 => (mq_nI ((0 : Int32)) (fun x8 => (zf_X11_takeModel_34 N z k10 N (v1) (x8) S7))))))))))
def zf_X11_takeModel_10 (N : Nat) (z : Nat → Nat) : Nat → Int32 → mq_St → Option (Unit × mq_St)
  | 0, _, _ => none
  | n + 1, v1, S => zf_X11_takeModel_10b N z (fun v1 S => zf_X11_takeModel_10 N z n v1 S) v1 S
def zf_X11_takeModel (N : Nat) (z : Nat → Nat) (S : mq_St) : Option (Unit × mq_St) := (mq_nS (mq_si S 31 ((S.1 24))) (fun S1 => (mq_nI ((0 : Int32)) (fun x2 => (zf_X11_takeModel_10 N z N (x2) S1)))))
set_option maxHeartbeats 4000000 in
set_option maxRecDepth 100000 in
theorem zw_X11_takeModel_98 {p : Program} {l : Launch} {e : Env} {s : State} {m : MethodId} {args : Array Value} {below : List Frame} {meth : Method} {c : Code} {A : Nat → Prop} {D : va_G} {a z : Nat → Nat} {cI cL cB cZ : ClassId} {Q : State → Prop} {N : Nat} {res : Unit × mq_St} {k10 : Int32 → mq_St → Option (Unit × mq_St)} {k34 : Int32 → Int32 → mq_St → Option (Unit × mq_St)} (C : mq_C p s m args c A D cI cL cB cZ cX11_takeModel 4 RX11 zc_X11_takeModel) (hret : ∀ (H : Heap) (locs : List Loc) (ls : Array Slot) (pc : Nat), decode cX11_takeModel pc = .ok (.return_, 1) → va_P D vwCl (wd_R a cI cL cB cZ z res.2) H → va_D A (wd_R a cI cL cB cZ z res.2) → va_S A s.heap H locs → W p l e zr_X11_takeModel s m args below meth c H locs 0 0 Q (F0 m pc ls [])) (hk10 : ∀ (v1 : Int32) (S : mq_St) (H : Heap) (locs : List Loc) (ls : Array Slot), k10 v1 S = some res → lv_has ls 4 [(0, .ref (a 0)), (1, .int (v1))] → va_P D vwCl (wd_R a cI cL cB cZ z S) H → va_D A (wd_R a cI cL cB cZ z S) → va_S A s.heap H locs → W p l e zr_X11_takeModel s m args below meth c H locs 0 0 Q (F0 m 10 ls [])) (hk34 : ∀ (v1 : Int32) (v2 : Int32) (S : mq_St) (H : Heap) (locs : List Loc) (ls : Array Slot), k34 v1 v2 S = some res → lv_has ls 4 [(0, .ref (a 0)), (1, .int (v1)), (2, .int (v2))] → va_P D vwCl (wd_R a cI cL cB cZ z S) H → va_D A (wd_R a cI cL cB cZ z S) → va_S A s.heap H locs → W p l e zr_X11_takeModel s m args below meth c H locs 0 0 Q (F0 m 34 ls [])) (v1 : Int32) (v2 : Int32) (S : mq_St) (H : Heap) (locs : List Loc) (ls : Array Slot) (h : zf_X11_takeModel_98 N z k10 k34 v1 v2 S = some res) (hl : lv_has ls 4 [(0, .ref (a 0)), (1, .int (v1)), (2, .int (v2))]) (hP : va_P D vwCl (wd_R a cI cL cB cZ z S) H) (hD : va_D A (wd_R a cI cL cB cZ z S)) (hS : va_S A s.heap H locs) : W p l e zr_X11_takeModel s m args below meth c H locs 0 0 Q (F0 m 98 ls []) := by
  obtain ⟨hx, hb, hml, hown, hts, hK, hA⟩ := id C
  unfold zf_X11_takeModel_98 at h
  obtain ⟨x24, ex24⟩ : ∃ y : Int32, y = v2 + (1 : Int32) := ⟨_, rfl⟩
  replace h := mq_nI_go ex24 h
  refine lv_iinc (v := x24) (lv' := [(2, .int (x24)), (0, .ref (a 0)), (1, .int (v1))]) hx hb dX11_takeModel_98 hl (k := 2) rfl (by rw [ex24]; rfl) (by decide) rfl (fun ls hl => ?_)
  refine lv_goto (tgt := 34) hx hb dX11_takeModel_101 (by decide) ?_
  exact hk34 (v1) (x24) S H locs ls h (lv_sub hl [1, 2, 0] rfl) hP hD hS
set_option maxHeartbeats 4000000 in
set_option maxRecDepth 100000 in
theorem zw_X11_takeModel_96 {p : Program} {l : Launch} {e : Env} {s : State} {m : MethodId} {args : Array Value} {below : List Frame} {meth : Method} {c : Code} {A : Nat → Prop} {D : va_G} {a z : Nat → Nat} {cI cL cB cZ : ClassId} {Q : State → Prop} {N : Nat} {res : Unit × mq_St} {k10 : Int32 → mq_St → Option (Unit × mq_St)} {k34 : Int32 → Int32 → mq_St → Option (Unit × mq_St)} (C : mq_C p s m args c A D cI cL cB cZ cX11_takeModel 4 RX11 zc_X11_takeModel) (hret : ∀ (H : Heap) (locs : List Loc) (ls : Array Slot) (pc : Nat), decode cX11_takeModel pc = .ok (.return_, 1) → va_P D vwCl (wd_R a cI cL cB cZ z res.2) H → va_D A (wd_R a cI cL cB cZ z res.2) → va_S A s.heap H locs → W p l e zr_X11_takeModel s m args below meth c H locs 0 0 Q (F0 m pc ls [])) (hk10 : ∀ (v1 : Int32) (S : mq_St) (H : Heap) (locs : List Loc) (ls : Array Slot), k10 v1 S = some res → lv_has ls 4 [(0, .ref (a 0)), (1, .int (v1))] → va_P D vwCl (wd_R a cI cL cB cZ z S) H → va_D A (wd_R a cI cL cB cZ z S) → va_S A s.heap H locs → W p l e zr_X11_takeModel s m args below meth c H locs 0 0 Q (F0 m 10 ls [])) (hk34 : ∀ (v1 : Int32) (v2 : Int32) (S : mq_St) (H : Heap) (locs : List Loc) (ls : Array Slot), k34 v1 v2 S = some res → lv_has ls 4 [(0, .ref (a 0)), (1, .int (v1)), (2, .int (v2))] → va_P D vwCl (wd_R a cI cL cB cZ z S) H → va_D A (wd_R a cI cL cB cZ z S) → va_S A s.heap H locs → W p l e zr_X11_takeModel s m args below meth c H locs 0 0 Q (F0 m 34 ls [])) (v1 : Int32) (v2 : Int32) (t1 : Int32) (t2 : Int32) (t3 : Int32) (S : mq_St) (H : Heap) (locs : List Loc) (ls : Array Slot) (h : zf_X11_takeModel_96 N z k10 k34 v1 v2 t1 t2 t3 S = some res) (hl : lv_has ls 4 [(0, .ref (a 0)), (1, .int (v1)), (2, .int (v2))]) (hP : va_P D vwCl (wd_R a cI cL cB cZ z S) H) (hD : va_D A (wd_R a cI cL cB cZ z S)) (hS : va_S A s.heap H locs) : W p l e zr_X11_takeModel s m args below meth c H locs 0 0 Q (F0 m 96 ls [.int (t3), .int (t2), .int (t1), .ref (a 35)]) := by
  obtain ⟨hx, hb, hml, hown, hts, hK, hA⟩ := id C
  unfold zf_X11_takeModel_96 at h
  refine lv_ior hx hb dX11_takeModel_96 ?_
  have hi22 := mq_ck_in h
  replace h := mq_ck_go h
  refine mq_iast (w := wd_R a cI cL cB cZ z) (S := S) (f := S.2.1 34) hx hb hK hP hD hS 35 0 rfl rfl hi22 dX11_takeModel_97 34 (zs_wd_R_a_35_34 _ _ _ _ _ _ _ _) (fun S23 eS23 H locs hP hD hS => ?_)
  replace h := mq_nS_go eS23 h
  exact zw_X11_takeModel_98 C hret hk10 hk34 (v1) (v2) S23 H locs ls h (lv_sub hl [0, 1, 2] rfl) hP hD hS
set_option maxHeartbeats 4000000 in
set_option maxRecDepth 100000 in
theorem zw_X11_takeModel_148 {p : Program} {l : Launch} {e : Env} {s : State} {m : MethodId} {args : Array Value} {below : List Frame} {meth : Method} {c : Code} {A : Nat → Prop} {D : va_G} {a z : Nat → Nat} {cI cL cB cZ : ClassId} {Q : State → Prop} {N : Nat} {res : Unit × mq_St} {k10 : Int32 → mq_St → Option (Unit × mq_St)} {k106 : Int32 → Int32 → mq_St → Option (Unit × mq_St)} (C : mq_C p s m args c A D cI cL cB cZ cX11_takeModel 4 RX11 zc_X11_takeModel) (hret : ∀ (H : Heap) (locs : List Loc) (ls : Array Slot) (pc : Nat), decode cX11_takeModel pc = .ok (.return_, 1) → va_P D vwCl (wd_R a cI cL cB cZ z res.2) H → va_D A (wd_R a cI cL cB cZ z res.2) → va_S A s.heap H locs → W p l e zr_X11_takeModel s m args below meth c H locs 0 0 Q (F0 m pc ls [])) (hk10 : ∀ (v1 : Int32) (S : mq_St) (H : Heap) (locs : List Loc) (ls : Array Slot), k10 v1 S = some res → lv_has ls 4 [(0, .ref (a 0)), (1, .int (v1))] → va_P D vwCl (wd_R a cI cL cB cZ z S) H → va_D A (wd_R a cI cL cB cZ z S) → va_S A s.heap H locs → W p l e zr_X11_takeModel s m args below meth c H locs 0 0 Q (F0 m 10 ls [])) (hk106 : ∀ (v1 : Int32) (v2 : Int32) (S : mq_St) (H : Heap) (locs : List Loc) (ls : Array Slot), k106 v1 v2 S = some res → lv_has ls 4 [(0, .ref (a 0)), (1, .int (v1)), (2, .int (v2))] → va_P D vwCl (wd_R a cI cL cB cZ z S) H → va_D A (wd_R a cI cL cB cZ z S) → va_S A s.heap H locs → W p l e zr_X11_takeModel s m args below meth c H locs 0 0 Q (F0 m 106 ls [])) (v1 : Int32) (v2 : Int32) (t1 : Int32) (t2 : Int32) (S : mq_St) (H : Heap) (locs : List Loc) (ls : Array Slot) (h : zf_X11_takeModel_148 N z k10 k106 v1 v2 t1 t2 S = some res) (hl : lv_has ls 4 [(0, .ref (a 0)), (1, .int (v1)), (2, .int (v2))]) (hP : va_P D vwCl (wd_R a cI cL cB cZ z S) H) (hD : va_D A (wd_R a cI cL cB cZ z S)) (hS : va_S A s.heap H locs) : W p l e zr_X11_takeModel s m args below meth c H locs 0 0 Q (F0 m 148 ls [.int (t2), .int (t1), .ref (a 36)]) := by
  obtain ⟨hx, hb, hml, hown, hts, hK, hA⟩ := id C
  unfold zf_X11_takeModel_148 at h
  have hi30 := mq_ck_in h
  replace h := mq_ck_go h
  refine mq_zast (w := wd_R a cI cL cB cZ z) (S := S) (f := S.2.1 35) hx hb hK hP hD hS 36 3 rfl rfl hi30 dX11_takeModel_148 35 (zs_wd_R_a_36_35 _ _ _ _ _ _ _ _) (fun S31 eS31 H locs hP hD hS => ?_)
  replace h := mq_nS_go eS31 h
  obtain ⟨x32, ex32⟩ : ∃ y : Int32, y = v2 + (1 : Int32) := ⟨_, rfl⟩
  replace h := mq_nI_go ex32 h
  refine lv_iinc (v := x32) (lv' := [(2, .int (x32)), (0, .ref (a 0)), (1, .int (v1))]) hx hb dX11_takeModel_149 hl (k := 2) rfl (by rw [ex32]; rfl) (by decide) rfl (fun ls hl => ?_)
  refine lv_goto (tgt := 106) hx hb dX11_takeModel_152 (by decide) ?_
  exact hk106 (v1) (x32) S31 H locs ls h (lv_sub hl [1, 2, 0] rfl) hP hD hS
set_option maxHeartbeats 4000000 in
set_option maxRecDepth 100000 in
theorem zw_X11_takeModel_143 {p : Program} {l : Launch} {e : Env} {s : State} {m : MethodId} {args : Array Value} {below : List Frame} {meth : Method} {c : Code} {A : Nat → Prop} {D : va_G} {a z : Nat → Nat} {cI cL cB cZ : ClassId} {Q : State → Prop} {N : Nat} {res : Unit × mq_St} {k10 : Int32 → mq_St → Option (Unit × mq_St)} {k106 : Int32 → Int32 → mq_St → Option (Unit × mq_St)} (C : mq_C p s m args c A D cI cL cB cZ cX11_takeModel 4 RX11 zc_X11_takeModel) (hret : ∀ (H : Heap) (locs : List Loc) (ls : Array Slot) (pc : Nat), decode cX11_takeModel pc = .ok (.return_, 1) → va_P D vwCl (wd_R a cI cL cB cZ z res.2) H → va_D A (wd_R a cI cL cB cZ z res.2) → va_S A s.heap H locs → W p l e zr_X11_takeModel s m args below meth c H locs 0 0 Q (F0 m pc ls [])) (hk10 : ∀ (v1 : Int32) (S : mq_St) (H : Heap) (locs : List Loc) (ls : Array Slot), k10 v1 S = some res → lv_has ls 4 [(0, .ref (a 0)), (1, .int (v1))] → va_P D vwCl (wd_R a cI cL cB cZ z S) H → va_D A (wd_R a cI cL cB cZ z S) → va_S A s.heap H locs → W p l e zr_X11_takeModel s m args below meth c H locs 0 0 Q (F0 m 10 ls [])) (hk106 : ∀ (v1 : Int32) (v2 : Int32) (S : mq_St) (H : Heap) (locs : List Loc) (ls : Array Slot), k106 v1 v2 S = some res → lv_has ls 4 [(0, .ref (a 0)), (1, .int (v1)), (2, .int (v2))] → va_P D vwCl (wd_R a cI cL cB cZ z S) H → va_D A (wd_R a cI cL cB cZ z S) → va_S A s.heap H locs → W p l e zr_X11_takeModel s m args below meth c H locs 0 0 Q (F0 m 106 ls [])) (v1 : Int32) (v2 : Int32) (t1 : Int32) (S : mq_St) (H : Heap) (locs : List Loc) (ls : Array Slot) (h : zf_X11_takeModel_143 N z k10 k106 v1 v2 t1 S = some res) (hl : lv_has ls 4 [(0, .ref (a 0)), (1, .int (v1)), (2, .int (v2))]) (hP : va_P D vwCl (wd_R a cI cL cB cZ z S) H) (hD : va_D A (wd_R a cI cL cB cZ z S)) (hS : va_S A s.heap H locs) : W p l e zr_X11_takeModel s m args below meth c H locs 0 0 Q (F0 m 143 ls [.int (t1), .ref (a 36)]) := by
  obtain ⟨hx, hb, hml, hown, hts, hK, hA⟩ := id C
  unfold zf_X11_takeModel_143 at h
  refine lv_iconst (v := (1 : Int32)) hx hb dX11_takeModel_143 (by decide) ?_
  refine lv_goto (tgt := 148) hx hb dX11_takeModel_144 (by decide) ?_
  exact zw_X11_takeModel_148 C hret hk10 hk106 (v1) (v2) (t1) ((1 : Int32)) S H locs ls h (lv_sub hl [0, 1, 2] rfl) hP hD hS
set_option maxHeartbeats 4000000 in
set_option maxRecDepth 100000 in
theorem zw_X11_takeModel_106b {p : Program} {l : Launch} {e : Env} {s : State} {m : MethodId} {args : Array Value} {below : List Frame} {meth : Method} {c : Code} {A : Nat → Prop} {D : va_G} {a z : Nat → Nat} {cI cL cB cZ : ClassId} {Q : State → Prop} {N : Nat} {res : Unit × mq_St} {k10 : Int32 → mq_St → Option (Unit × mq_St)} {k106 : Int32 → Int32 → mq_St → Option (Unit × mq_St)} (C : mq_C p s m args c A D cI cL cB cZ cX11_takeModel 4 RX11 zc_X11_takeModel) (hret : ∀ (H : Heap) (locs : List Loc) (ls : Array Slot) (pc : Nat), decode cX11_takeModel pc = .ok (.return_, 1) → va_P D vwCl (wd_R a cI cL cB cZ z res.2) H → va_D A (wd_R a cI cL cB cZ z res.2) → va_S A s.heap H locs → W p l e zr_X11_takeModel s m args below meth c H locs 0 0 Q (F0 m pc ls [])) (hk10 : ∀ (v1 : Int32) (S : mq_St) (H : Heap) (locs : List Loc) (ls : Array Slot), k10 v1 S = some res → lv_has ls 4 [(0, .ref (a 0)), (1, .int (v1))] → va_P D vwCl (wd_R a cI cL cB cZ z S) H → va_D A (wd_R a cI cL cB cZ z S) → va_S A s.heap H locs → W p l e zr_X11_takeModel s m args below meth c H locs 0 0 Q (F0 m 10 ls [])) (hk106 : ∀ (v1 : Int32) (v2 : Int32) (S : mq_St) (H : Heap) (locs : List Loc) (ls : Array Slot), k106 v1 v2 S = some res → lv_has ls 4 [(0, .ref (a 0)), (1, .int (v1)), (2, .int (v2))] → va_P D vwCl (wd_R a cI cL cB cZ z S) H → va_D A (wd_R a cI cL cB cZ z S) → va_S A s.heap H locs → W p l e zr_X11_takeModel s m args below meth c H locs 0 0 Q (F0 m 106 ls [])) (v1 : Int32) (v2 : Int32) (S : mq_St) (H : Heap) (locs : List Loc) (ls : Array Slot) (h : zf_X11_takeModel_106b N z k10 k106 v1 v2 S = some res) (hl : lv_has ls 4 [(0, .ref (a 0)), (1, .int (v1)), (2, .int (v2))]) (hP : va_P D vwCl (wd_R a cI cL cB cZ z S) H) (hD : va_D A (wd_R a cI cL cB cZ z S)) (hS : va_S A s.heap H locs) : W p l e zr_X11_takeModel s m args below meth c H locs 0 0 Q (F0 m 106 ls []) := by
  obtain ⟨hx, hb, hml, hown, hts, hK, hA⟩ := id C
  unfold zf_X11_takeModel_106b at h
  refine lv_iload_n hx hb dX11_takeModel_106 rfl (lv_at hl 2 rfl) ?_
  refine lv_aload_n hx hb dX11_takeModel_107 rfl (lv_at hl 0 rfl) ?_
  refine va_get (D := D) (ci := 11) (v := .int ((S.1 24))) (C := RX11) (T := TX11) (N := 76) hx hb hts (zi_X11 _) hown hK hP 0 rfl rfl 42 (by decide) (hts _ (List.mem_cons_of_mem _ zt_f_X11_298)) (fun _ h9 => h9) rfl dX11_takeModel_108 ?_
  refine lv_icmp_ge (tgt := 155) hx hb dX11_takeModel_111 (by decide) (fun c29 => ?_) (fun c29 => ?_)
  · replace h := mq_it c29 h
    obtain ⟨x25, ex25⟩ : ∃ y : Int32, y = v1 + (1 : Int32) := ⟨_, rfl⟩
    replace h := mq_nI_go ex25 h
    refine lv_iinc (v := x25) (lv' := [(1, .int (x25)), (0, .ref (a 0)), (2, .int (v2))]) hx hb dX11_takeModel_155 hl (k := 1) rfl (by rw [ex25]; rfl) (by decide) rfl (fun ls hl => ?_)
    refine lv_goto (tgt := 10) hx hb dX11_takeModel_158 (by decide) ?_
    exact hk10 (x25) S H locs ls h (lv_sub hl [1, 0] rfl) hP hD hS
  · replace h := mq_if c29 h
    refine lv_aload_n hx hb dX11_takeModel_114 rfl (lv_at hl 0 rfl) ?_
    refine va_get (D := D) (ci := 11) (v := .ref (a 36)) (C := RX11) (T := TX11) (N := 76) hx hb hts (zi_X11 _) hown hK hP 0 rfl rfl 67 (by decide) (hts _ (List.mem_cons_of_mem _ zt_f_X11_124)) (fun _ h9 => h9) rfl dX11_takeModel_115 ?_
    refine lv_bipush (v := (60 : Int32)) hx hb dX11_takeModel_118 (by decide) ?_
    refine lv_iload_n hx hb dX11_takeModel_120 rfl (lv_at hl 1 rfl) ?_
    refine lv_imul hx hb dX11_takeModel_121 ?_
    refine lv_iload_n hx hb dX11_takeModel_122 rfl (lv_at hl 2 rfl) ?_
    refine lv_iadd hx hb dX11_takeModel_123 ?_
    refine lv_iload_n hx hb dX11_takeModel_124 rfl (lv_at hl 2 rfl) ?_
    refine lv_iload_n hx hb dX11_takeModel_125 rfl (lv_at hl 1 rfl) ?_
    refine lv_icmp_eq (tgt := 143) hx hb dX11_takeModel_126 (by decide) (fun c28 => ?_) (fun c28 => ?_)
    · replace h := mq_it c28 h
      exact zw_X11_takeModel_143 C hret hk10 hk106 (v1) (v2) ((((60 : Int32) * v1) + v2)) S H locs ls h (lv_sub hl [0, 1, 2] rfl) hP hD hS
    · replace h := mq_if c28 h
      refine lv_aload_n hx hb dX11_takeModel_129 rfl (lv_at hl 0 rfl) ?_
      refine va_get (D := D) (ci := 11) (v := .ref (a 23)) (C := RX11) (T := TX11) (N := 76) hx hb hts (zi_X11 _) hown hK hP 0 rfl rfl 48 (by decide) (hts _ (List.mem_cons_of_mem _ zt_f_X11_84)) (fun _ h9 => h9) rfl dX11_takeModel_130 ?_
      refine lv_bipush (v := (60 : Int32)) hx hb dX11_takeModel_133 (by decide) ?_
      refine lv_iload_n hx hb dX11_takeModel_135 rfl (lv_at hl 1 rfl) ?_
      refine lv_imul hx hb dX11_takeModel_136 ?_
      refine lv_iload_n hx hb dX11_takeModel_137 rfl (lv_at hl 2 rfl) ?_
      refine lv_iadd hx hb dX11_takeModel_138 ?_
      have hi26 := mq_ck_in h
      replace h := mq_ck_go h
      refine va_zald (f := S.2.1 22) hx hb hK hP 23 3 rfl rfl hi26 dX11_takeModel_139 ?_
      refine lv_if_eq (tgt := 147) hx hb dX11_takeModel_140 (by decide) (fun c27 => ?_) (fun c27 => ?_)
      · replace h := mq_it c27 h
        refine lv_iconst (v := (0 : Int32)) hx hb dX11_takeModel_147 (by decide) ?_
        exact zw_X11_takeModel_148 C hret hk10 hk106 (v1) (v2) ((((60 : Int32) * v1) + v2)) ((0 : Int32)) S H locs ls h (lv_sub hl [0, 1, 2] rfl) hP hD hS
      · replace h := mq_if c27 h
        exact zw_X11_takeModel_143 C hret hk10 hk106 (v1) (v2) ((((60 : Int32) * v1) + v2)) S H locs ls h (lv_sub hl [0, 1, 2] rfl) hP hD hS
set_option maxHeartbeats 4000000 in
set_option maxRecDepth 100000 in
theorem zw_X11_takeModel_106 {p : Program} {l : Launch} {e : Env} {s : State} {m : MethodId} {args : Array Value} {below : List Frame} {meth : Method} {c : Code} {A : Nat → Prop} {D : va_G} {a z : Nat → Nat} {cI cL cB cZ : ClassId} {Q : State → Prop} {N : Nat} {res : Unit × mq_St} {k10 : Int32 → mq_St → Option (Unit × mq_St)} (C : mq_C p s m args c A D cI cL cB cZ cX11_takeModel 4 RX11 zc_X11_takeModel) (hret : ∀ (H : Heap) (locs : List Loc) (ls : Array Slot) (pc : Nat), decode cX11_takeModel pc = .ok (.return_, 1) → va_P D vwCl (wd_R a cI cL cB cZ z res.2) H → va_D A (wd_R a cI cL cB cZ z res.2) → va_S A s.heap H locs → W p l e zr_X11_takeModel s m args below meth c H locs 0 0 Q (F0 m pc ls [])) (hk10 : ∀ (v1 : Int32) (S : mq_St) (H : Heap) (locs : List Loc) (ls : Array Slot), k10 v1 S = some res → lv_has ls 4 [(0, .ref (a 0)), (1, .int (v1))] → va_P D vwCl (wd_R a cI cL cB cZ z S) H → va_D A (wd_R a cI cL cB cZ z S) → va_S A s.heap H locs → W p l e zr_X11_takeModel s m args below meth c H locs 0 0 Q (F0 m 10 ls [])) : ∀ (n : Nat) (v1 : Int32) (v2 : Int32) (S : mq_St) (H : Heap) (locs : List Loc) (ls : Array Slot) (h : zf_X11_takeModel_106 N z k10 n v1 v2 S = some res) (hl : lv_has ls 4 [(0, .ref (a 0)), (1, .int (v1)), (2, .int (v2))]) (hP : va_P D vwCl (wd_R a cI cL cB cZ z S) H) (hD : va_D A (wd_R a cI cL cB cZ z S)) (hS : va_S A s.heap H locs), W p l e zr_X11_takeModel s m args below meth c H locs 0 0 Q (F0 m 106 ls []) := by
  intro n
  induction n with
  | zero =>
    intro v1 v2 S H locs ls h hl hP hD hS
    exact nomatch (show (none : Option (Unit × mq_St)) = some res from h)
  | succ n ih =>
    intro v1 v2 S H locs ls h hl hP hD hS
    exact zw_X11_takeModel_106b C hret hk10 (fun v1 v2 S H locs ls h hl hP hD hS => ih v1 v2 S H locs ls h hl hP hD hS) v1 v2 S H locs ls h hl hP hD hS
set_option maxHeartbeats 4000000 in
set_option maxRecDepth 100000 in
theorem zw_X11_takeModel_34b {p : Program} {l : Launch} {e : Env} {s : State} {m : MethodId} {args : Array Value} {below : List Frame} {meth : Method} {c : Code} {A : Nat → Prop} {D : va_G} {a z : Nat → Nat} {cI cL cB cZ : ClassId} {Q : State → Prop} {N : Nat} {res : Unit × mq_St} {k10 : Int32 → mq_St → Option (Unit × mq_St)} {k34 : Int32 → Int32 → mq_St → Option (Unit × mq_St)} (C : mq_C p s m args c A D cI cL cB cZ cX11_takeModel 4 RX11 zc_X11_takeModel) (hret : ∀ (H : Heap) (locs : List Loc) (ls : Array Slot) (pc : Nat), decode cX11_takeModel pc = .ok (.return_, 1) → va_P D vwCl (wd_R a cI cL cB cZ z res.2) H → va_D A (wd_R a cI cL cB cZ z res.2) → va_S A s.heap H locs → W p l e zr_X11_takeModel s m args below meth c H locs 0 0 Q (F0 m pc ls [])) (hk10 : ∀ (v1 : Int32) (S : mq_St) (H : Heap) (locs : List Loc) (ls : Array Slot), k10 v1 S = some res → lv_has ls 4 [(0, .ref (a 0)), (1, .int (v1))] → va_P D vwCl (wd_R a cI cL cB cZ z S) H → va_D A (wd_R a cI cL cB cZ z S) → va_S A s.heap H locs → W p l e zr_X11_takeModel s m args below meth c H locs 0 0 Q (F0 m 10 ls [])) (hk34 : ∀ (v1 : Int32) (v2 : Int32) (S : mq_St) (H : Heap) (locs : List Loc) (ls : Array Slot), k34 v1 v2 S = some res → lv_has ls 4 [(0, .ref (a 0)), (1, .int (v1)), (2, .int (v2))] → va_P D vwCl (wd_R a cI cL cB cZ z S) H → va_D A (wd_R a cI cL cB cZ z S) → va_S A s.heap H locs → W p l e zr_X11_takeModel s m args below meth c H locs 0 0 Q (F0 m 34 ls [])) (v1 : Int32) (v2 : Int32) (S : mq_St) (H : Heap) (locs : List Loc) (ls : Array Slot) (h : zf_X11_takeModel_34b N z k10 k34 v1 v2 S = some res) (hl : lv_has ls 4 [(0, .ref (a 0)), (1, .int (v1)), (2, .int (v2))]) (hP : va_P D vwCl (wd_R a cI cL cB cZ z S) H) (hD : va_D A (wd_R a cI cL cB cZ z S)) (hS : va_S A s.heap H locs) : W p l e zr_X11_takeModel s m args below meth c H locs 0 0 Q (F0 m 34 ls []) := by
  obtain ⟨hx, hb, hml, hown, hts, hK, hA⟩ := id C
  unfold zf_X11_takeModel_34b at h
  refine lv_iload_n hx hb dX11_takeModel_34 rfl (lv_at hl 2 rfl) ?_
  refine lv_aload_n hx hb dX11_takeModel_35 rfl (lv_at hl 0 rfl) ?_
  refine va_get (D := D) (ci := 11) (v := .int ((S.1 3))) (C := RX11) (T := TX11) (N := 76) hx hb hts (zi_X11 _) hown hK hP 0 rfl rfl 8 (by decide) (hts _ (List.mem_cons_of_mem _ zt_f_X11_26)) (fun _ h9 => h9) rfl dX11_takeModel_36 ?_
  refine lv_icmp_ge (tgt := 104) hx hb dX11_takeModel_39 (by decide) (fun c21 => ?_) (fun c21 => ?_)
  · replace h := mq_it c21 h
    refine lv_iconst (v := (0 : Int32)) hx hb dX11_takeModel_104 (by decide) ?_
    refine lv_topi (fun x10 ex10 => ?_)
    replace h := mq_nI_go ex10 h
    refine lv_istore_n (lv' := [(2, .int (x10)), (0, .ref (a 0)), (1, .int (v1))]) hx hb dX11_takeModel_105 rfl hl (by decide) rfl (fun ls hl => ?_)
    exact zw_X11_takeModel_106 C hret hk10 N (v1) (x10) S H locs ls h (lv_sub hl [1, 2, 0] rfl) hP hD hS
  · replace h := mq_if c21 h
    refine lv_aload_n hx hb dX11_takeModel_42 rfl (lv_at hl 0 rfl) ?_
    refine va_get (D := D) (ci := 11) (v := .ref (a 20)) (C := RX11) (T := TX11) (N := 76) hx hb hts (zi_X11 _) hown hK hP 0 rfl rfl 45 (by decide) (hts _ (List.mem_cons_of_mem _ zt_f_X11_75)) (fun _ h9 => h9) rfl dX11_takeModel_43 ?_
    refine lv_bipush (v := (10 : Int32)) hx hb dX11_takeModel_46 (by decide) ?_
    refine lv_iload_n hx hb dX11_takeModel_48 rfl (lv_at hl 1 rfl) ?_
    refine lv_imul hx hb dX11_takeModel_49 ?_
    refine lv_iload_n hx hb dX11_takeModel_50 rfl (lv_at hl 2 rfl) ?_
    obtain ⟨q11, hc12, h⟩ := mq_cp_go h
    refine zv_X11_isIn (a := mq_ad a [20]) (z := (fun k => [600].getD k 0)) [20] C zt_m_X11_273 ⟨by decide, by decide⟩ hc12 rfl (by decide) hP hD hS hl.1 (Nat.le_of_ble_eq_true rfl) dX11_takeModel_51 (fun H locs hP hD hS => ?_)
    refine lv_if_eq (tgt := 98) hx hb dX11_takeModel_54 (by decide) (fun c20 => ?_) (fun c20 => ?_)
    · replace h := mq_it c20 h
      exact zw_X11_takeModel_98 C hret hk10 hk34 (v1) (v2) S H locs ls h (lv_sub hl [0, 1, 2] rfl) hP hD hS
    · replace h := mq_if c20 h
      refine lv_aload_n hx hb dX11_takeModel_57 rfl (lv_at hl 0 rfl) ?_
      refine va_get (D := D) (ci := 11) (v := .ref (a 37)) (C := RX11) (T := TX11) (N := 76) hx hb hts (zi_X11 _) hown hK hP 0 rfl rfl 68 (by decide) (hts _ (List.mem_cons_of_mem _ zt_f_X11_127)) (fun _ h9 => h9) rfl dX11_takeModel_58 ?_
      refine lv_iload_n hx hb dX11_takeModel_61 rfl (lv_at hl 1 rfl) ?_
      refine lv_dup2_11 hx hb dX11_takeModel_62 rfl rfl ?_
      have hi13 := mq_ck_in h
      replace h := mq_ck_go h
      refine va_iald (f := S.2.1 36) hx hb hK hP 37 0 rfl rfl hi13 dX11_takeModel_63 ?_
      refine lv_iconst (v := (1 : Int32)) hx hb dX11_takeModel_64 (by decide) ?_
      refine lv_iadd hx hb dX11_takeModel_65 ?_
      have hi14 := mq_ck_in h
      replace h := mq_ck_go h
      refine mq_iast (w := wd_R a cI cL cB cZ z) (S := S) (f := S.2.1 36) hx hb hK hP hD hS 37 0 rfl rfl hi14 dX11_takeModel_66 36 (zs_wd_R_a_37_36 _ _ _ _ _ _ _ _) (fun S15 eS15 H locs hP hD hS => ?_)
      replace h := mq_nS_go eS15 h
      refine lv_aload_n hx hb dX11_takeModel_67 rfl (lv_at hl 0 rfl) ?_
      refine va_get (D := D) (ci := 11) (v := .ref (a 35)) (C := RX11) (T := TX11) (N := 76) hx hb hts (zi_X11 _) hown hK hP 0 rfl rfl 66 (by decide) (hts _ (List.mem_cons_of_mem _ zt_f_X11_121)) (fun _ h9 => h9) rfl dX11_takeModel_68 ?_
      refine lv_iload_n hx hb dX11_takeModel_71 rfl (lv_at hl 1 rfl) ?_
      refine lv_dup2_11 hx hb dX11_takeModel_72 rfl rfl ?_
      have hi16 := mq_ck_in h
      replace h := mq_ck_go h
      refine va_iald (f := S15.2.1 34) hx hb hK hP 35 0 rfl rfl hi16 dX11_takeModel_73 ?_
      refine lv_aload_n hx hb dX11_takeModel_74 rfl (lv_at hl 0 rfl) ?_
      refine va_get (D := D) (ci := 11) (v := .ref (a 3)) (C := RX11) (T := TX11) (N := 76) hx hb hts (zi_X11 _) hown hK hP 0 rfl rfl 5 (by decide) (hts _ (List.mem_cons_of_mem _ zt_f_X11_16)) (fun _ h9 => h9) rfl dX11_takeModel_75 ?_
      refine lv_iload_n hx hb dX11_takeModel_78 rfl (lv_at hl 2 rfl) ?_
      have hi17 := mq_ck_in h
      replace h := mq_ck_go h
      refine va_iald (f := S15.2.1 2) hx hb hK hP 3 0 rfl rfl hi17 dX11_takeModel_79 ?_
      refine lv_iconst (v := (2 : Int32)) hx hb dX11_takeModel_80 (by decide) ?_
      refine lv_icmp_ne (tgt := 95) hx hb dX11_takeModel_81 (by decide) (fun c19 => ?_) (fun c19 => ?_)
      · replace h := mq_if c19 h
        refine lv_iconst (v := (0 : Int32)) hx hb dX11_takeModel_95 (by decide) ?_
        exact zw_X11_takeModel_96 C hret hk10 hk34 (v1) (v2) (v1) ((S15.2.1 34 (v1).toNatClampNeg)) ((0 : Int32)) S15 H locs ls h (lv_sub hl [0, 1, 2] rfl) hP hD hS
      · replace h := mq_it (by simpa using c19) h
        refine lv_iconst (v := (1 : Int32)) hx hb dX11_takeModel_84 (by decide) ?_
        refine lv_aload_n hx hb dX11_takeModel_85 rfl (lv_at hl 0 rfl) ?_
        refine va_get (D := D) (ci := 11) (v := .ref (a 4)) (C := RX11) (T := TX11) (N := 76) hx hb hts (zi_X11 _) hown hK hP 0 rfl rfl 6 (by decide) (hts _ (List.mem_cons_of_mem _ zt_f_X11_20)) (fun _ h9 => h9) rfl dX11_takeModel_86 ?_
        refine lv_iload_n hx hb dX11_takeModel_89 rfl (lv_at hl 2 rfl) ?_
        have hi18 := mq_ck_in h
        replace h := mq_ck_go h
        refine va_iald (f := S15.2.1 3) hx hb hK hP 4 0 rfl rfl hi18 dX11_takeModel_90 ?_
        refine lv_ishl hx hb dX11_takeModel_91 ?_
        refine lv_goto (tgt := 96) hx hb dX11_takeModel_92 (by decide) ?_
        exact zw_X11_takeModel_96 C hret hk10 hk34 (v1) (v2) (v1) ((S15.2.1 34 (v1).toNatClampNeg)) (((1 : Int32) <<< ((S15.2.1 3 (v2).toNatClampNeg) &&& (31 : Int32)))) S15 H locs ls h (lv_sub hl [0, 1, 2] rfl) hP hD hS
set_option maxHeartbeats 4000000 in
set_option maxRecDepth 100000 in
theorem zw_X11_takeModel_34 {p : Program} {l : Launch} {e : Env} {s : State} {m : MethodId} {args : Array Value} {below : List Frame} {meth : Method} {c : Code} {A : Nat → Prop} {D : va_G} {a z : Nat → Nat} {cI cL cB cZ : ClassId} {Q : State → Prop} {N : Nat} {res : Unit × mq_St} {k10 : Int32 → mq_St → Option (Unit × mq_St)} (C : mq_C p s m args c A D cI cL cB cZ cX11_takeModel 4 RX11 zc_X11_takeModel) (hret : ∀ (H : Heap) (locs : List Loc) (ls : Array Slot) (pc : Nat), decode cX11_takeModel pc = .ok (.return_, 1) → va_P D vwCl (wd_R a cI cL cB cZ z res.2) H → va_D A (wd_R a cI cL cB cZ z res.2) → va_S A s.heap H locs → W p l e zr_X11_takeModel s m args below meth c H locs 0 0 Q (F0 m pc ls [])) (hk10 : ∀ (v1 : Int32) (S : mq_St) (H : Heap) (locs : List Loc) (ls : Array Slot), k10 v1 S = some res → lv_has ls 4 [(0, .ref (a 0)), (1, .int (v1))] → va_P D vwCl (wd_R a cI cL cB cZ z S) H → va_D A (wd_R a cI cL cB cZ z S) → va_S A s.heap H locs → W p l e zr_X11_takeModel s m args below meth c H locs 0 0 Q (F0 m 10 ls [])) : ∀ (n : Nat) (v1 : Int32) (v2 : Int32) (S : mq_St) (H : Heap) (locs : List Loc) (ls : Array Slot) (h : zf_X11_takeModel_34 N z k10 n v1 v2 S = some res) (hl : lv_has ls 4 [(0, .ref (a 0)), (1, .int (v1)), (2, .int (v2))]) (hP : va_P D vwCl (wd_R a cI cL cB cZ z S) H) (hD : va_D A (wd_R a cI cL cB cZ z S)) (hS : va_S A s.heap H locs), W p l e zr_X11_takeModel s m args below meth c H locs 0 0 Q (F0 m 34 ls []) := by
  intro n
  induction n with
  | zero =>
    intro v1 v2 S H locs ls h hl hP hD hS
    exact nomatch (show (none : Option (Unit × mq_St)) = some res from h)
  | succ n ih =>
    intro v1 v2 S H locs ls h hl hP hD hS
    exact zw_X11_takeModel_34b C hret hk10 (fun v1 v2 S H locs ls h hl hP hD hS => ih v1 v2 S H locs ls h hl hP hD hS) v1 v2 S H locs ls h hl hP hD hS
set_option maxHeartbeats 4000000 in
set_option maxRecDepth 100000 in
theorem zw_X11_takeModel_248 {p : Program} {l : Launch} {e : Env} {s : State} {m : MethodId} {args : Array Value} {below : List Frame} {meth : Method} {c : Code} {A : Nat → Prop} {D : va_G} {a z : Nat → Nat} {cI cL cB cZ : ClassId} {Q : State → Prop} {N : Nat} {res : Unit × mq_St} {k163 : Int32 → mq_St → Option (Unit × mq_St)} {k173 : Int32 → Int32 → mq_St → Option (Unit × mq_St)} {k183 : Int32 → Int32 → Int32 → mq_St → Option (Unit × mq_St)} (C : mq_C p s m args c A D cI cL cB cZ cX11_takeModel 4 RX11 zc_X11_takeModel) (hret : ∀ (H : Heap) (locs : List Loc) (ls : Array Slot) (pc : Nat), decode cX11_takeModel pc = .ok (.return_, 1) → va_P D vwCl (wd_R a cI cL cB cZ z res.2) H → va_D A (wd_R a cI cL cB cZ z res.2) → va_S A s.heap H locs → W p l e zr_X11_takeModel s m args below meth c H locs 0 0 Q (F0 m pc ls [])) (hk163 : ∀ (v1 : Int32) (S : mq_St) (H : Heap) (locs : List Loc) (ls : Array Slot), k163 v1 S = some res → lv_has ls 4 [(0, .ref (a 0)), (1, .int (v1))] → va_P D vwCl (wd_R a cI cL cB cZ z S) H → va_D A (wd_R a cI cL cB cZ z S) → va_S A s.heap H locs → W p l e zr_X11_takeModel s m args below meth c H locs 0 0 Q (F0 m 163 ls [])) (hk173 : ∀ (v1 : Int32) (v2 : Int32) (S : mq_St) (H : Heap) (locs : List Loc) (ls : Array Slot), k173 v1 v2 S = some res → lv_has ls 4 [(0, .ref (a 0)), (1, .int (v1)), (2, .int (v2))] → va_P D vwCl (wd_R a cI cL cB cZ z S) H → va_D A (wd_R a cI cL cB cZ z S) → va_S A s.heap H locs → W p l e zr_X11_takeModel s m args below meth c H locs 0 0 Q (F0 m 173 ls [])) (hk183 : ∀ (v1 : Int32) (v2 : Int32) (v3 : Int32) (S : mq_St) (H : Heap) (locs : List Loc) (ls : Array Slot), k183 v1 v2 v3 S = some res → lv_has ls 4 [(0, .ref (a 0)), (1, .int (v1)), (2, .int (v2)), (3, .int (v3))] → va_P D vwCl (wd_R a cI cL cB cZ z S) H → va_D A (wd_R a cI cL cB cZ z S) → va_S A s.heap H locs → W p l e zr_X11_takeModel s m args below meth c H locs 0 0 Q (F0 m 183 ls [])) (v1 : Int32) (v2 : Int32) (v3 : Int32) (t1 : Int32) (t2 : Int32) (S : mq_St) (H : Heap) (locs : List Loc) (ls : Array Slot) (h : zf_X11_takeModel_248 N z k163 k173 k183 v1 v2 v3 t1 t2 S = some res) (hl : lv_has ls 4 [(0, .ref (a 0)), (1, .int (v1)), (2, .int (v2)), (3, .int (v3))]) (hP : va_P D vwCl (wd_R a cI cL cB cZ z S) H) (hD : va_D A (wd_R a cI cL cB cZ z S)) (hS : va_S A s.heap H locs) : W p l e zr_X11_takeModel s m args below meth c H locs 0 0 Q (F0 m 248 ls [.int (t2), .int (t1), .ref (a 36)]) := by
  obtain ⟨hx, hb, hml, hown, hts, hK, hA⟩ := id C
  unfold zf_X11_takeModel_248 at h
  have hi45 := mq_ck_in h
  replace h := mq_ck_go h
  refine mq_zast (w := wd_R a cI cL cB cZ z) (S := S) (f := S.2.1 35) hx hb hK hP hD hS 36 3 rfl rfl hi45 dX11_takeModel_248 35 (zs_wd_R_a_36_35 _ _ _ _ _ _ _ _) (fun S46 eS46 H locs hP hD hS => ?_)
  replace h := mq_nS_go eS46 h
  obtain ⟨x47, ex47⟩ : ∃ y : Int32, y = v3 + (1 : Int32) := ⟨_, rfl⟩
  replace h := mq_nI_go ex47 h
  refine lv_iinc (v := x47) (lv' := [(3, .int (x47)), (0, .ref (a 0)), (1, .int (v1)), (2, .int (v2))]) hx hb dX11_takeModel_249 hl (k := 3) rfl (by rw [ex47]; rfl) (by decide) rfl (fun ls hl => ?_)
  refine lv_goto (tgt := 183) hx hb dX11_takeModel_252 (by decide) ?_
  exact hk183 (v1) (v2) (x47) S46 H locs ls h (lv_sub hl [1, 2, 3, 0] rfl) hP hD hS
set_option maxHeartbeats 4000000 in
set_option maxRecDepth 100000 in
theorem zw_X11_takeModel_243 {p : Program} {l : Launch} {e : Env} {s : State} {m : MethodId} {args : Array Value} {below : List Frame} {meth : Method} {c : Code} {A : Nat → Prop} {D : va_G} {a z : Nat → Nat} {cI cL cB cZ : ClassId} {Q : State → Prop} {N : Nat} {res : Unit × mq_St} {k163 : Int32 → mq_St → Option (Unit × mq_St)} {k173 : Int32 → Int32 → mq_St → Option (Unit × mq_St)} {k183 : Int32 → Int32 → Int32 → mq_St → Option (Unit × mq_St)} (C : mq_C p s m args c A D cI cL cB cZ cX11_takeModel 4 RX11 zc_X11_takeModel) (hret : ∀ (H : Heap) (locs : List Loc) (ls : Array Slot) (pc : Nat), decode cX11_takeModel pc = .ok (.return_, 1) → va_P D vwCl (wd_R a cI cL cB cZ z res.2) H → va_D A (wd_R a cI cL cB cZ z res.2) → va_S A s.heap H locs → W p l e zr_X11_takeModel s m args below meth c H locs 0 0 Q (F0 m pc ls [])) (hk163 : ∀ (v1 : Int32) (S : mq_St) (H : Heap) (locs : List Loc) (ls : Array Slot), k163 v1 S = some res → lv_has ls 4 [(0, .ref (a 0)), (1, .int (v1))] → va_P D vwCl (wd_R a cI cL cB cZ z S) H → va_D A (wd_R a cI cL cB cZ z S) → va_S A s.heap H locs → W p l e zr_X11_takeModel s m args below meth c H locs 0 0 Q (F0 m 163 ls [])) (hk173 : ∀ (v1 : Int32) (v2 : Int32) (S : mq_St) (H : Heap) (locs : List Loc) (ls : Array Slot), k173 v1 v2 S = some res → lv_has ls 4 [(0, .ref (a 0)), (1, .int (v1)), (2, .int (v2))] → va_P D vwCl (wd_R a cI cL cB cZ z S) H → va_D A (wd_R a cI cL cB cZ z S) → va_S A s.heap H locs → W p l e zr_X11_takeModel s m args below meth c H locs 0 0 Q (F0 m 173 ls [])) (hk183 : ∀ (v1 : Int32) (v2 : Int32) (v3 : Int32) (S : mq_St) (H : Heap) (locs : List Loc) (ls : Array Slot), k183 v1 v2 v3 S = some res → lv_has ls 4 [(0, .ref (a 0)), (1, .int (v1)), (2, .int (v2)), (3, .int (v3))] → va_P D vwCl (wd_R a cI cL cB cZ z S) H → va_D A (wd_R a cI cL cB cZ z S) → va_S A s.heap H locs → W p l e zr_X11_takeModel s m args below meth c H locs 0 0 Q (F0 m 183 ls [])) (v1 : Int32) (v2 : Int32) (v3 : Int32) (t1 : Int32) (S : mq_St) (H : Heap) (locs : List Loc) (ls : Array Slot) (h : zf_X11_takeModel_243 N z k163 k173 k183 v1 v2 v3 t1 S = some res) (hl : lv_has ls 4 [(0, .ref (a 0)), (1, .int (v1)), (2, .int (v2)), (3, .int (v3))]) (hP : va_P D vwCl (wd_R a cI cL cB cZ z S) H) (hD : va_D A (wd_R a cI cL cB cZ z S)) (hS : va_S A s.heap H locs) : W p l e zr_X11_takeModel s m args below meth c H locs 0 0 Q (F0 m 243 ls [.int (t1), .ref (a 36)]) := by
  obtain ⟨hx, hb, hml, hown, hts, hK, hA⟩ := id C
  unfold zf_X11_takeModel_243 at h
  refine lv_iconst (v := (1 : Int32)) hx hb dX11_takeModel_243 (by decide) ?_
  refine lv_goto (tgt := 248) hx hb dX11_takeModel_244 (by decide) ?_
  exact zw_X11_takeModel_248 C hret hk163 hk173 hk183 (v1) (v2) (v3) (t1) ((1 : Int32)) S H locs ls h (lv_sub hl [0, 1, 2, 3] rfl) hP hD hS
set_option maxHeartbeats 4000000 in
set_option maxRecDepth 100000 in
theorem zw_X11_takeModel_255 {p : Program} {l : Launch} {e : Env} {s : State} {m : MethodId} {args : Array Value} {below : List Frame} {meth : Method} {c : Code} {A : Nat → Prop} {D : va_G} {a z : Nat → Nat} {cI cL cB cZ : ClassId} {Q : State → Prop} {N : Nat} {res : Unit × mq_St} {k163 : Int32 → mq_St → Option (Unit × mq_St)} {k173 : Int32 → Int32 → mq_St → Option (Unit × mq_St)} (C : mq_C p s m args c A D cI cL cB cZ cX11_takeModel 4 RX11 zc_X11_takeModel) (hret : ∀ (H : Heap) (locs : List Loc) (ls : Array Slot) (pc : Nat), decode cX11_takeModel pc = .ok (.return_, 1) → va_P D vwCl (wd_R a cI cL cB cZ z res.2) H → va_D A (wd_R a cI cL cB cZ z res.2) → va_S A s.heap H locs → W p l e zr_X11_takeModel s m args below meth c H locs 0 0 Q (F0 m pc ls [])) (hk163 : ∀ (v1 : Int32) (S : mq_St) (H : Heap) (locs : List Loc) (ls : Array Slot), k163 v1 S = some res → lv_has ls 4 [(0, .ref (a 0)), (1, .int (v1))] → va_P D vwCl (wd_R a cI cL cB cZ z S) H → va_D A (wd_R a cI cL cB cZ z S) → va_S A s.heap H locs → W p l e zr_X11_takeModel s m args below meth c H locs 0 0 Q (F0 m 163 ls [])) (hk173 : ∀ (v1 : Int32) (v2 : Int32) (S : mq_St) (H : Heap) (locs : List Loc) (ls : Array Slot), k173 v1 v2 S = some res → lv_has ls 4 [(0, .ref (a 0)), (1, .int (v1)), (2, .int (v2))] → va_P D vwCl (wd_R a cI cL cB cZ z S) H → va_D A (wd_R a cI cL cB cZ z S) → va_S A s.heap H locs → W p l e zr_X11_takeModel s m args below meth c H locs 0 0 Q (F0 m 173 ls [])) (v1 : Int32) (v2 : Int32) (S : mq_St) (H : Heap) (locs : List Loc) (ls : Array Slot) (h : zf_X11_takeModel_255 N z k163 k173 v1 v2 S = some res) (hl : lv_has ls 4 [(0, .ref (a 0)), (1, .int (v1)), (2, .int (v2))]) (hP : va_P D vwCl (wd_R a cI cL cB cZ z S) H) (hD : va_D A (wd_R a cI cL cB cZ z S)) (hS : va_S A s.heap H locs) : W p l e zr_X11_takeModel s m args below meth c H locs 0 0 Q (F0 m 255 ls []) := by
  obtain ⟨hx, hb, hml, hown, hts, hK, hA⟩ := id C
  unfold zf_X11_takeModel_255 at h
  obtain ⟨x48, ex48⟩ : ∃ y : Int32, y = v2 + (1 : Int32) := ⟨_, rfl⟩
  replace h := mq_nI_go ex48 h
  refine lv_iinc (v := x48) (lv' := [(2, .int (x48)), (0, .ref (a 0)), (1, .int (v1))]) hx hb dX11_takeModel_255 hl (k := 2) rfl (by rw [ex48]; rfl) (by decide) rfl (fun ls hl => ?_)
  refine lv_goto (tgt := 173) hx hb dX11_takeModel_258 (by decide) ?_
  exact hk173 (v1) (x48) S H locs ls h (lv_sub hl [1, 2, 0] rfl) hP hD hS
set_option maxHeartbeats 4000000 in
set_option maxRecDepth 100000 in
theorem zw_X11_takeModel_183b {p : Program} {l : Launch} {e : Env} {s : State} {m : MethodId} {args : Array Value} {below : List Frame} {meth : Method} {c : Code} {A : Nat → Prop} {D : va_G} {a z : Nat → Nat} {cI cL cB cZ : ClassId} {Q : State → Prop} {N : Nat} {res : Unit × mq_St} {k163 : Int32 → mq_St → Option (Unit × mq_St)} {k173 : Int32 → Int32 → mq_St → Option (Unit × mq_St)} {k183 : Int32 → Int32 → Int32 → mq_St → Option (Unit × mq_St)} (C : mq_C p s m args c A D cI cL cB cZ cX11_takeModel 4 RX11 zc_X11_takeModel) (hret : ∀ (H : Heap) (locs : List Loc) (ls : Array Slot) (pc : Nat), decode cX11_takeModel pc = .ok (.return_, 1) → va_P D vwCl (wd_R a cI cL cB cZ z res.2) H → va_D A (wd_R a cI cL cB cZ z res.2) → va_S A s.heap H locs → W p l e zr_X11_takeModel s m args below meth c H locs 0 0 Q (F0 m pc ls [])) (hk163 : ∀ (v1 : Int32) (S : mq_St) (H : Heap) (locs : List Loc) (ls : Array Slot), k163 v1 S = some res → lv_has ls 4 [(0, .ref (a 0)), (1, .int (v1))] → va_P D vwCl (wd_R a cI cL cB cZ z S) H → va_D A (wd_R a cI cL cB cZ z S) → va_S A s.heap H locs → W p l e zr_X11_takeModel s m args below meth c H locs 0 0 Q (F0 m 163 ls [])) (hk173 : ∀ (v1 : Int32) (v2 : Int32) (S : mq_St) (H : Heap) (locs : List Loc) (ls : Array Slot), k173 v1 v2 S = some res → lv_has ls 4 [(0, .ref (a 0)), (1, .int (v1)), (2, .int (v2))] → va_P D vwCl (wd_R a cI cL cB cZ z S) H → va_D A (wd_R a cI cL cB cZ z S) → va_S A s.heap H locs → W p l e zr_X11_takeModel s m args below meth c H locs 0 0 Q (F0 m 173 ls [])) (hk183 : ∀ (v1 : Int32) (v2 : Int32) (v3 : Int32) (S : mq_St) (H : Heap) (locs : List Loc) (ls : Array Slot), k183 v1 v2 v3 S = some res → lv_has ls 4 [(0, .ref (a 0)), (1, .int (v1)), (2, .int (v2)), (3, .int (v3))] → va_P D vwCl (wd_R a cI cL cB cZ z S) H → va_D A (wd_R a cI cL cB cZ z S) → va_S A s.heap H locs → W p l e zr_X11_takeModel s m args below meth c H locs 0 0 Q (F0 m 183 ls [])) (v1 : Int32) (v2 : Int32) (v3 : Int32) (S : mq_St) (H : Heap) (locs : List Loc) (ls : Array Slot) (h : zf_X11_takeModel_183b N z k163 k173 k183 v1 v2 v3 S = some res) (hl : lv_has ls 4 [(0, .ref (a 0)), (1, .int (v1)), (2, .int (v2)), (3, .int (v3))]) (hP : va_P D vwCl (wd_R a cI cL cB cZ z S) H) (hD : va_D A (wd_R a cI cL cB cZ z S)) (hS : va_S A s.heap H locs) : W p l e zr_X11_takeModel s m args below meth c H locs 0 0 Q (F0 m 183 ls []) := by
  obtain ⟨hx, hb, hml, hown, hts, hK, hA⟩ := id C
  unfold zf_X11_takeModel_183b at h
  refine lv_iload_n hx hb dX11_takeModel_183 rfl (lv_at hl 3 rfl) ?_
  refine lv_aload_n hx hb dX11_takeModel_184 rfl (lv_at hl 0 rfl) ?_
  refine va_get (D := D) (ci := 11) (v := .int ((S.1 24))) (C := RX11) (T := TX11) (N := 76) hx hb hts (zi_X11 _) hown hK hP 0 rfl rfl 42 (by decide) (hts _ (List.mem_cons_of_mem _ zt_f_X11_298)) (fun _ h9 => h9) rfl dX11_takeModel_185 ?_
  refine lv_icmp_ge (tgt := 255) hx hb dX11_takeModel_188 (by decide) (fun c44 => ?_) (fun c44 => ?_)
  · replace h := mq_it c44 h
    exact zw_X11_takeModel_255 C hret hk163 hk173 (v1) (v2) S H locs ls h (lv_sub hl [0, 1, 2] rfl) hP hD hS
  · replace h := mq_if c44 h
    refine lv_aload_n hx hb dX11_takeModel_191 rfl (lv_at hl 0 rfl) ?_
    refine va_get (D := D) (ci := 11) (v := .ref (a 36)) (C := RX11) (T := TX11) (N := 76) hx hb hts (zi_X11 _) hown hK hP 0 rfl rfl 67 (by decide) (hts _ (List.mem_cons_of_mem _ zt_f_X11_124)) (fun _ h9 => h9) rfl dX11_takeModel_192 ?_
    refine lv_bipush (v := (60 : Int32)) hx hb dX11_takeModel_195 (by decide) ?_
    refine lv_iload_n hx hb dX11_takeModel_197 rfl (lv_at hl 2 rfl) ?_
    refine lv_imul hx hb dX11_takeModel_198 ?_
    refine lv_iload_n hx hb dX11_takeModel_199 rfl (lv_at hl 1 rfl) ?_
    refine lv_iadd hx hb dX11_takeModel_200 ?_
    have hi38 := mq_ck_in h
    replace h := mq_ck_go h
    refine va_zald (f := S.2.1 35) hx hb hK hP 36 3 rfl rfl hi38 dX11_takeModel_201 ?_
    refine lv_if_eq (tgt := 255) hx hb dX11_takeModel_202 (by decide) (fun c43 => ?_) (fun c43 => ?_)
    · replace h := mq_it c43 h
      exact zw_X11_takeModel_255 C hret hk163 hk173 (v1) (v2) S H locs ls h (lv_sub hl [0, 1, 2] rfl) hP hD hS
    · replace h := mq_if c43 h
      refine lv_aload_n hx hb dX11_takeModel_205 rfl (lv_at hl 0 rfl) ?_
      refine va_get (D := D) (ci := 11) (v := .ref (a 36)) (C := RX11) (T := TX11) (N := 76) hx hb hts (zi_X11 _) hown hK hP 0 rfl rfl 67 (by decide) (hts _ (List.mem_cons_of_mem _ zt_f_X11_124)) (fun _ h9 => h9) rfl dX11_takeModel_206 ?_
      refine lv_bipush (v := (60 : Int32)) hx hb dX11_takeModel_209 (by decide) ?_
      refine lv_iload_n hx hb dX11_takeModel_211 rfl (lv_at hl 2 rfl) ?_
      refine lv_imul hx hb dX11_takeModel_212 ?_
      refine lv_iload_n hx hb dX11_takeModel_213 rfl (lv_at hl 3 rfl) ?_
      refine lv_iadd hx hb dX11_takeModel_214 ?_
      refine lv_aload_n hx hb dX11_takeModel_215 rfl (lv_at hl 0 rfl) ?_
      refine va_get (D := D) (ci := 11) (v := .ref (a 36)) (C := RX11) (T := TX11) (N := 76) hx hb hts (zi_X11 _) hown hK hP 0 rfl rfl 67 (by decide) (hts _ (List.mem_cons_of_mem _ zt_f_X11_124)) (fun _ h9 => h9) rfl dX11_takeModel_216 ?_
      refine lv_bipush (v := (60 : Int32)) hx hb dX11_takeModel_219 (by decide) ?_
      refine lv_iload_n hx hb dX11_takeModel_221 rfl (lv_at hl 2 rfl) ?_
      refine lv_imul hx hb dX11_takeModel_222 ?_
      refine lv_iload_n hx hb dX11_takeModel_223 rfl (lv_at hl 3 rfl) ?_
      refine lv_iadd hx hb dX11_takeModel_224 ?_
      have hi39 := mq_ck_in h
      replace h := mq_ck_go h
      refine va_zald (f := S.2.1 35) hx hb hK hP 36 3 rfl rfl hi39 dX11_takeModel_225 ?_
      refine lv_if_ne (tgt := 243) hx hb dX11_takeModel_226 (by decide) (fun c42 => ?_) (fun c42 => ?_)
      · replace h := mq_if c42 h
        exact zw_X11_takeModel_243 C hret hk163 hk173 hk183 (v1) (v2) (v3) ((((60 : Int32) * v2) + v3)) S H locs ls h (lv_sub hl [0, 1, 2, 3] rfl) hP hD hS
      · replace h := mq_it (by simpa using c42) h
        refine lv_aload_n hx hb dX11_takeModel_229 rfl (lv_at hl 0 rfl) ?_
        refine va_get (D := D) (ci := 11) (v := .ref (a 36)) (C := RX11) (T := TX11) (N := 76) hx hb hts (zi_X11 _) hown hK hP 0 rfl rfl 67 (by decide) (hts _ (List.mem_cons_of_mem _ zt_f_X11_124)) (fun _ h9 => h9) rfl dX11_takeModel_230 ?_
        refine lv_bipush (v := (60 : Int32)) hx hb dX11_takeModel_233 (by decide) ?_
        refine lv_iload_n hx hb dX11_takeModel_235 rfl (lv_at hl 1 rfl) ?_
        refine lv_imul hx hb dX11_takeModel_236 ?_
        refine lv_iload_n hx hb dX11_takeModel_237 rfl (lv_at hl 3 rfl) ?_
        refine lv_iadd hx hb dX11_takeModel_238 ?_
        have hi40 := mq_ck_in h
        replace h := mq_ck_go h
        refine va_zald (f := S.2.1 35) hx hb hK hP 36 3 rfl rfl hi40 dX11_takeModel_239 ?_
        refine lv_if_eq (tgt := 247) hx hb dX11_takeModel_240 (by decide) (fun c41 => ?_) (fun c41 => ?_)
        · replace h := mq_it c41 h
          refine lv_iconst (v := (0 : Int32)) hx hb dX11_takeModel_247 (by decide) ?_
          exact zw_X11_takeModel_248 C hret hk163 hk173 hk183 (v1) (v2) (v3) ((((60 : Int32) * v2) + v3)) ((0 : Int32)) S H locs ls h (lv_sub hl [0, 1, 2, 3] rfl) hP hD hS
        · replace h := mq_if c41 h
          exact zw_X11_takeModel_243 C hret hk163 hk173 hk183 (v1) (v2) (v3) ((((60 : Int32) * v2) + v3)) S H locs ls h (lv_sub hl [0, 1, 2, 3] rfl) hP hD hS
set_option maxHeartbeats 4000000 in
set_option maxRecDepth 100000 in
theorem zw_X11_takeModel_183 {p : Program} {l : Launch} {e : Env} {s : State} {m : MethodId} {args : Array Value} {below : List Frame} {meth : Method} {c : Code} {A : Nat → Prop} {D : va_G} {a z : Nat → Nat} {cI cL cB cZ : ClassId} {Q : State → Prop} {N : Nat} {res : Unit × mq_St} {k163 : Int32 → mq_St → Option (Unit × mq_St)} {k173 : Int32 → Int32 → mq_St → Option (Unit × mq_St)} (C : mq_C p s m args c A D cI cL cB cZ cX11_takeModel 4 RX11 zc_X11_takeModel) (hret : ∀ (H : Heap) (locs : List Loc) (ls : Array Slot) (pc : Nat), decode cX11_takeModel pc = .ok (.return_, 1) → va_P D vwCl (wd_R a cI cL cB cZ z res.2) H → va_D A (wd_R a cI cL cB cZ z res.2) → va_S A s.heap H locs → W p l e zr_X11_takeModel s m args below meth c H locs 0 0 Q (F0 m pc ls [])) (hk163 : ∀ (v1 : Int32) (S : mq_St) (H : Heap) (locs : List Loc) (ls : Array Slot), k163 v1 S = some res → lv_has ls 4 [(0, .ref (a 0)), (1, .int (v1))] → va_P D vwCl (wd_R a cI cL cB cZ z S) H → va_D A (wd_R a cI cL cB cZ z S) → va_S A s.heap H locs → W p l e zr_X11_takeModel s m args below meth c H locs 0 0 Q (F0 m 163 ls [])) (hk173 : ∀ (v1 : Int32) (v2 : Int32) (S : mq_St) (H : Heap) (locs : List Loc) (ls : Array Slot), k173 v1 v2 S = some res → lv_has ls 4 [(0, .ref (a 0)), (1, .int (v1)), (2, .int (v2))] → va_P D vwCl (wd_R a cI cL cB cZ z S) H → va_D A (wd_R a cI cL cB cZ z S) → va_S A s.heap H locs → W p l e zr_X11_takeModel s m args below meth c H locs 0 0 Q (F0 m 173 ls [])) : ∀ (n : Nat) (v1 : Int32) (v2 : Int32) (v3 : Int32) (S : mq_St) (H : Heap) (locs : List Loc) (ls : Array Slot) (h : zf_X11_takeModel_183 N z k163 k173 n v1 v2 v3 S = some res) (hl : lv_has ls 4 [(0, .ref (a 0)), (1, .int (v1)), (2, .int (v2)), (3, .int (v3))]) (hP : va_P D vwCl (wd_R a cI cL cB cZ z S) H) (hD : va_D A (wd_R a cI cL cB cZ z S)) (hS : va_S A s.heap H locs), W p l e zr_X11_takeModel s m args below meth c H locs 0 0 Q (F0 m 183 ls []) := by
  intro n
  induction n with
  | zero =>
    intro v1 v2 v3 S H locs ls h hl hP hD hS
    exact nomatch (show (none : Option (Unit × mq_St)) = some res from h)
  | succ n ih =>
    intro v1 v2 v3 S H locs ls h hl hP hD hS
    exact zw_X11_takeModel_183b C hret hk163 hk173 (fun v1 v2 v3 S H locs ls h hl hP hD hS => ih v1 v2 v3 S H locs ls h hl hP hD hS) v1 v2 v3 S H locs ls h hl hP hD hS
set_option maxHeartbeats 4000000 in
set_option maxRecDepth 100000 in
theorem zw_X11_takeModel_173b {p : Program} {l : Launch} {e : Env} {s : State} {m : MethodId} {args : Array Value} {below : List Frame} {meth : Method} {c : Code} {A : Nat → Prop} {D : va_G} {a z : Nat → Nat} {cI cL cB cZ : ClassId} {Q : State → Prop} {N : Nat} {res : Unit × mq_St} {k163 : Int32 → mq_St → Option (Unit × mq_St)} {k173 : Int32 → Int32 → mq_St → Option (Unit × mq_St)} (C : mq_C p s m args c A D cI cL cB cZ cX11_takeModel 4 RX11 zc_X11_takeModel) (hret : ∀ (H : Heap) (locs : List Loc) (ls : Array Slot) (pc : Nat), decode cX11_takeModel pc = .ok (.return_, 1) → va_P D vwCl (wd_R a cI cL cB cZ z res.2) H → va_D A (wd_R a cI cL cB cZ z res.2) → va_S A s.heap H locs → W p l e zr_X11_takeModel s m args below meth c H locs 0 0 Q (F0 m pc ls [])) (hk163 : ∀ (v1 : Int32) (S : mq_St) (H : Heap) (locs : List Loc) (ls : Array Slot), k163 v1 S = some res → lv_has ls 4 [(0, .ref (a 0)), (1, .int (v1))] → va_P D vwCl (wd_R a cI cL cB cZ z S) H → va_D A (wd_R a cI cL cB cZ z S) → va_S A s.heap H locs → W p l e zr_X11_takeModel s m args below meth c H locs 0 0 Q (F0 m 163 ls [])) (hk173 : ∀ (v1 : Int32) (v2 : Int32) (S : mq_St) (H : Heap) (locs : List Loc) (ls : Array Slot), k173 v1 v2 S = some res → lv_has ls 4 [(0, .ref (a 0)), (1, .int (v1)), (2, .int (v2))] → va_P D vwCl (wd_R a cI cL cB cZ z S) H → va_D A (wd_R a cI cL cB cZ z S) → va_S A s.heap H locs → W p l e zr_X11_takeModel s m args below meth c H locs 0 0 Q (F0 m 173 ls [])) (v1 : Int32) (v2 : Int32) (S : mq_St) (H : Heap) (locs : List Loc) (ls : Array Slot) (h : zf_X11_takeModel_173b N z k163 k173 v1 v2 S = some res) (hl : lv_has ls 4 [(0, .ref (a 0)), (1, .int (v1)), (2, .int (v2))]) (hP : va_P D vwCl (wd_R a cI cL cB cZ z S) H) (hD : va_D A (wd_R a cI cL cB cZ z S)) (hS : va_S A s.heap H locs) : W p l e zr_X11_takeModel s m args below meth c H locs 0 0 Q (F0 m 173 ls []) := by
  obtain ⟨hx, hb, hml, hown, hts, hK, hA⟩ := id C
  unfold zf_X11_takeModel_173b at h
  refine lv_iload_n hx hb dX11_takeModel_173 rfl (lv_at hl 2 rfl) ?_
  refine lv_aload_n hx hb dX11_takeModel_174 rfl (lv_at hl 0 rfl) ?_
  refine va_get (D := D) (ci := 11) (v := .int ((S.1 24))) (C := RX11) (T := TX11) (N := 76) hx hb hts (zi_X11 _) hown hK hP 0 rfl rfl 42 (by decide) (hts _ (List.mem_cons_of_mem _ zt_f_X11_298)) (fun _ h9 => h9) rfl dX11_takeModel_175 ?_
  refine lv_icmp_ge (tgt := 261) hx hb dX11_takeModel_178 (by decide) (fun c37 => ?_) (fun c37 => ?_)
  · replace h := mq_it c37 h
    obtain ⟨x35, ex35⟩ : ∃ y : Int32, y = v1 + (1 : Int32) := ⟨_, rfl⟩
    replace h := mq_nI_go ex35 h
    refine lv_iinc (v := x35) (lv' := [(1, .int (x35)), (0, .ref (a 0)), (2, .int (v2))]) hx hb dX11_takeModel_261 hl (k := 1) rfl (by rw [ex35]; rfl) (by decide) rfl (fun ls hl => ?_)
    refine lv_goto (tgt := 163) hx hb dX11_takeModel_264 (by decide) ?_
    exact hk163 (x35) S H locs ls h (lv_sub hl [1, 0] rfl) hP hD hS
  · replace h := mq_if c37 h
    refine lv_iconst (v := (0 : Int32)) hx hb dX11_takeModel_181 (by decide) ?_
    refine lv_topi (fun x36 ex36 => ?_)
    replace h := mq_nI_go ex36 h
    refine lv_istore_n (lv' := [(3, .int (x36)), (0, .ref (a 0)), (1, .int (v1)), (2, .int (v2))]) hx hb dX11_takeModel_182 rfl hl (by decide) rfl (fun ls hl => ?_)
    exact zw_X11_takeModel_183 C hret hk163 hk173 N (v1) (v2) (x36) S H locs ls h (lv_sub hl [1, 2, 3, 0] rfl) hP hD hS
set_option maxHeartbeats 4000000 in
set_option maxRecDepth 100000 in
theorem zw_X11_takeModel_173 {p : Program} {l : Launch} {e : Env} {s : State} {m : MethodId} {args : Array Value} {below : List Frame} {meth : Method} {c : Code} {A : Nat → Prop} {D : va_G} {a z : Nat → Nat} {cI cL cB cZ : ClassId} {Q : State → Prop} {N : Nat} {res : Unit × mq_St} {k163 : Int32 → mq_St → Option (Unit × mq_St)} (C : mq_C p s m args c A D cI cL cB cZ cX11_takeModel 4 RX11 zc_X11_takeModel) (hret : ∀ (H : Heap) (locs : List Loc) (ls : Array Slot) (pc : Nat), decode cX11_takeModel pc = .ok (.return_, 1) → va_P D vwCl (wd_R a cI cL cB cZ z res.2) H → va_D A (wd_R a cI cL cB cZ z res.2) → va_S A s.heap H locs → W p l e zr_X11_takeModel s m args below meth c H locs 0 0 Q (F0 m pc ls [])) (hk163 : ∀ (v1 : Int32) (S : mq_St) (H : Heap) (locs : List Loc) (ls : Array Slot), k163 v1 S = some res → lv_has ls 4 [(0, .ref (a 0)), (1, .int (v1))] → va_P D vwCl (wd_R a cI cL cB cZ z S) H → va_D A (wd_R a cI cL cB cZ z S) → va_S A s.heap H locs → W p l e zr_X11_takeModel s m args below meth c H locs 0 0 Q (F0 m 163 ls [])) : ∀ (n : Nat) (v1 : Int32) (v2 : Int32) (S : mq_St) (H : Heap) (locs : List Loc) (ls : Array Slot) (h : zf_X11_takeModel_173 N z k163 n v1 v2 S = some res) (hl : lv_has ls 4 [(0, .ref (a 0)), (1, .int (v1)), (2, .int (v2))]) (hP : va_P D vwCl (wd_R a cI cL cB cZ z S) H) (hD : va_D A (wd_R a cI cL cB cZ z S)) (hS : va_S A s.heap H locs), W p l e zr_X11_takeModel s m args below meth c H locs 0 0 Q (F0 m 173 ls []) := by
  intro n
  induction n with
  | zero =>
    intro v1 v2 S H locs ls h hl hP hD hS
    exact nomatch (show (none : Option (Unit × mq_St)) = some res from h)
  | succ n ih =>
    intro v1 v2 S H locs ls h hl hP hD hS
    exact zw_X11_takeModel_173b C hret hk163 (fun v1 v2 S H locs ls h hl hP hD hS => ih v1 v2 S H locs ls h hl hP hD hS) v1 v2 S H locs ls h hl hP hD hS
set_option maxHeartbeats 4000000 in
set_option maxRecDepth 100000 in
theorem zw_X11_takeModel_163b {p : Program} {l : Launch} {e : Env} {s : State} {m : MethodId} {args : Array Value} {below : List Frame} {meth : Method} {c : Code} {A : Nat → Prop} {D : va_G} {a z : Nat → Nat} {cI cL cB cZ : ClassId} {Q : State → Prop} {N : Nat} {res : Unit × mq_St} {k163 : Int32 → mq_St → Option (Unit × mq_St)} (C : mq_C p s m args c A D cI cL cB cZ cX11_takeModel 4 RX11 zc_X11_takeModel) (hret : ∀ (H : Heap) (locs : List Loc) (ls : Array Slot) (pc : Nat), decode cX11_takeModel pc = .ok (.return_, 1) → va_P D vwCl (wd_R a cI cL cB cZ z res.2) H → va_D A (wd_R a cI cL cB cZ z res.2) → va_S A s.heap H locs → W p l e zr_X11_takeModel s m args below meth c H locs 0 0 Q (F0 m pc ls [])) (hk163 : ∀ (v1 : Int32) (S : mq_St) (H : Heap) (locs : List Loc) (ls : Array Slot), k163 v1 S = some res → lv_has ls 4 [(0, .ref (a 0)), (1, .int (v1))] → va_P D vwCl (wd_R a cI cL cB cZ z S) H → va_D A (wd_R a cI cL cB cZ z S) → va_S A s.heap H locs → W p l e zr_X11_takeModel s m args below meth c H locs 0 0 Q (F0 m 163 ls [])) (v1 : Int32) (S : mq_St) (H : Heap) (locs : List Loc) (ls : Array Slot) (h : zf_X11_takeModel_163b N z k163 v1 S = some res) (hl : lv_has ls 4 [(0, .ref (a 0)), (1, .int (v1))]) (hP : va_P D vwCl (wd_R a cI cL cB cZ z S) H) (hD : va_D A (wd_R a cI cL cB cZ z S)) (hS : va_S A s.heap H locs) : W p l e zr_X11_takeModel s m args below meth c H locs 0 0 Q (F0 m 163 ls []) := by
  obtain ⟨hx, hb, hml, hown, hts, hK, hA⟩ := id C
  unfold zf_X11_takeModel_163b at h
  refine lv_iload_n hx hb dX11_takeModel_163 rfl (lv_at hl 1 rfl) ?_
  refine lv_aload_n hx hb dX11_takeModel_164 rfl (lv_at hl 0 rfl) ?_
  refine va_get (D := D) (ci := 11) (v := .int ((S.1 24))) (C := RX11) (T := TX11) (N := 76) hx hb hts (zi_X11 _) hown hK hP 0 rfl rfl 42 (by decide) (hts _ (List.mem_cons_of_mem _ zt_f_X11_298)) (fun _ h9 => h9) rfl dX11_takeModel_165 ?_
  refine lv_icmp_ge (tgt := 267) hx hb dX11_takeModel_168 (by decide) (fun c34 => ?_) (fun c34 => ?_)
  · replace h := mq_it c34 h
    cases h
    exact hret H locs ls 267 dX11_takeModel_267 hP hD hS
  · replace h := mq_if c34 h
    refine lv_iconst (v := (0 : Int32)) hx hb dX11_takeModel_171 (by decide) ?_
    refine lv_topi (fun x33 ex33 => ?_)
    replace h := mq_nI_go ex33 h
    refine lv_istore_n (lv' := [(2, .int (x33)), (0, .ref (a 0)), (1, .int (v1))]) hx hb dX11_takeModel_172 rfl hl (by decide) rfl (fun ls hl => ?_)
    exact zw_X11_takeModel_173 C hret hk163 N (v1) (x33) S H locs ls h (lv_sub hl [1, 2, 0] rfl) hP hD hS
set_option maxHeartbeats 4000000 in
set_option maxRecDepth 100000 in
theorem zw_X11_takeModel_163 {p : Program} {l : Launch} {e : Env} {s : State} {m : MethodId} {args : Array Value} {below : List Frame} {meth : Method} {c : Code} {A : Nat → Prop} {D : va_G} {a z : Nat → Nat} {cI cL cB cZ : ClassId} {Q : State → Prop} {N : Nat} {res : Unit × mq_St} (C : mq_C p s m args c A D cI cL cB cZ cX11_takeModel 4 RX11 zc_X11_takeModel) (hret : ∀ (H : Heap) (locs : List Loc) (ls : Array Slot) (pc : Nat), decode cX11_takeModel pc = .ok (.return_, 1) → va_P D vwCl (wd_R a cI cL cB cZ z res.2) H → va_D A (wd_R a cI cL cB cZ z res.2) → va_S A s.heap H locs → W p l e zr_X11_takeModel s m args below meth c H locs 0 0 Q (F0 m pc ls [])) : ∀ (n : Nat) (v1 : Int32) (S : mq_St) (H : Heap) (locs : List Loc) (ls : Array Slot) (h : zf_X11_takeModel_163 N z n v1 S = some res) (hl : lv_has ls 4 [(0, .ref (a 0)), (1, .int (v1))]) (hP : va_P D vwCl (wd_R a cI cL cB cZ z S) H) (hD : va_D A (wd_R a cI cL cB cZ z S)) (hS : va_S A s.heap H locs), W p l e zr_X11_takeModel s m args below meth c H locs 0 0 Q (F0 m 163 ls []) := by
  intro n
  induction n with
  | zero =>
    intro v1 S H locs ls h hl hP hD hS
    exact nomatch (show (none : Option (Unit × mq_St)) = some res from h)
  | succ n ih =>
    intro v1 S H locs ls h hl hP hD hS
    exact zw_X11_takeModel_163b C hret (fun v1 S H locs ls h hl hP hD hS => ih v1 S H locs ls h hl hP hD hS) v1 S H locs ls h hl hP hD hS
set_option maxHeartbeats 4000000 in
set_option maxRecDepth 100000 in
theorem zw_X11_takeModel_10b {p : Program} {l : Launch} {e : Env} {s : State} {m : MethodId} {args : Array Value} {below : List Frame} {meth : Method} {c : Code} {A : Nat → Prop} {D : va_G} {a z : Nat → Nat} {cI cL cB cZ : ClassId} {Q : State → Prop} {N : Nat} {res : Unit × mq_St} {k10 : Int32 → mq_St → Option (Unit × mq_St)} (C : mq_C p s m args c A D cI cL cB cZ cX11_takeModel 4 RX11 zc_X11_takeModel) (hret : ∀ (H : Heap) (locs : List Loc) (ls : Array Slot) (pc : Nat), decode cX11_takeModel pc = .ok (.return_, 1) → va_P D vwCl (wd_R a cI cL cB cZ z res.2) H → va_D A (wd_R a cI cL cB cZ z res.2) → va_S A s.heap H locs → W p l e zr_X11_takeModel s m args below meth c H locs 0 0 Q (F0 m pc ls [])) (hk10 : ∀ (v1 : Int32) (S : mq_St) (H : Heap) (locs : List Loc) (ls : Array Slot), k10 v1 S = some res → lv_has ls 4 [(0, .ref (a 0)), (1, .int (v1))] → va_P D vwCl (wd_R a cI cL cB cZ z S) H → va_D A (wd_R a cI cL cB cZ z S) → va_S A s.heap H locs → W p l e zr_X11_takeModel s m args below meth c H locs 0 0 Q (F0 m 10 ls [])) (v1 : Int32) (S : mq_St) (H : Heap) (locs : List Loc) (ls : Array Slot) (h : zf_X11_takeModel_10b N z k10 v1 S = some res) (hl : lv_has ls 4 [(0, .ref (a 0)), (1, .int (v1))]) (hP : va_P D vwCl (wd_R a cI cL cB cZ z S) H) (hD : va_D A (wd_R a cI cL cB cZ z S)) (hS : va_S A s.heap H locs) : W p l e zr_X11_takeModel s m args below meth c H locs 0 0 Q (F0 m 10 ls []) := by
  obtain ⟨hx, hb, hml, hown, hts, hK, hA⟩ := id C
  unfold zf_X11_takeModel_10b at h
  refine lv_iload_n hx hb dX11_takeModel_10 rfl (lv_at hl 1 rfl) ?_
  refine lv_aload_n hx hb dX11_takeModel_11 rfl (lv_at hl 0 rfl) ?_
  refine va_get (D := D) (ci := 11) (v := .int ((S.1 24))) (C := RX11) (T := TX11) (N := 76) hx hb hts (zi_X11 _) hown hK hP 0 rfl rfl 42 (by decide) (hts _ (List.mem_cons_of_mem _ zt_f_X11_298)) (fun _ h9 => h9) rfl dX11_takeModel_12 ?_
  refine lv_icmp_ge (tgt := 161) hx hb dX11_takeModel_15 (by decide) (fun c9 => ?_) (fun c9 => ?_)
  · replace h := mq_it c9 h
    refine lv_iconst (v := (0 : Int32)) hx hb dX11_takeModel_161 (by decide) ?_
    refine lv_topi (fun x3 ex3 => ?_)
    replace h := mq_nI_go ex3 h
    refine lv_istore_n (lv' := [(1, .int (x3)), (0, .ref (a 0))]) hx hb dX11_takeModel_162 rfl hl (by decide) rfl (fun ls hl => ?_)
    exact zw_X11_takeModel_163 C hret N (x3) S H locs ls h (lv_sub hl [1, 0] rfl) hP hD hS
  · replace h := mq_if c9 h
    refine lv_aload_n hx hb dX11_takeModel_18 rfl (lv_at hl 0 rfl) ?_
    refine va_get (D := D) (ci := 11) (v := .ref (a 35)) (C := RX11) (T := TX11) (N := 76) hx hb hts (zi_X11 _) hown hK hP 0 rfl rfl 66 (by decide) (hts _ (List.mem_cons_of_mem _ zt_f_X11_121)) (fun _ h9 => h9) rfl dX11_takeModel_19 ?_
    refine lv_iload_n hx hb dX11_takeModel_22 rfl (lv_at hl 1 rfl) ?_
    refine lv_iconst (v := (0 : Int32)) hx hb dX11_takeModel_23 (by decide) ?_
    have hi4 := mq_ck_in h
    replace h := mq_ck_go h
    refine mq_iast (w := wd_R a cI cL cB cZ z) (S := S) (f := S.2.1 34) hx hb hK hP hD hS 35 0 rfl rfl hi4 dX11_takeModel_24 34 (zs_wd_R_a_35_34 _ _ _ _ _ _ _ _) (fun S5 eS5 H locs hP hD hS => ?_)
    replace h := mq_nS_go eS5 h
    refine lv_aload_n hx hb dX11_takeModel_25 rfl (lv_at hl 0 rfl) ?_
    refine va_get (D := D) (ci := 11) (v := .ref (a 37)) (C := RX11) (T := TX11) (N := 76) hx hb hts (zi_X11 _) hown hK hP 0 rfl rfl 68 (by decide) (hts _ (List.mem_cons_of_mem _ zt_f_X11_127)) (fun _ h9 => h9) rfl dX11_takeModel_26 ?_
    refine lv_iload_n hx hb dX11_takeModel_29 rfl (lv_at hl 1 rfl) ?_
    refine lv_iconst (v := (0 : Int32)) hx hb dX11_takeModel_30 (by decide) ?_
    have hi6 := mq_ck_in h
    replace h := mq_ck_go h
    refine mq_iast (w := wd_R a cI cL cB cZ z) (S := S5) (f := S5.2.1 36) hx hb hK hP hD hS 37 0 rfl rfl hi6 dX11_takeModel_31 36 (zs_wd_R_a_37_36 _ _ _ _ _ _ _ _) (fun S7 eS7 H locs hP hD hS => ?_)
    replace h := mq_nS_go eS7 h
    refine lv_iconst (v := (0 : Int32)) hx hb dX11_takeModel_32 (by decide) ?_
    refine lv_topi (fun x8 ex8 => ?_)
    replace h := mq_nI_go ex8 h
    refine lv_istore_n (lv' := [(2, .int (x8)), (0, .ref (a 0)), (1, .int (v1))]) hx hb dX11_takeModel_33 rfl hl (by decide) rfl (fun ls hl => ?_)
    exact zw_X11_takeModel_34 C hret hk10 N (v1) (x8) S7 H locs ls h (lv_sub hl [1, 2, 0] rfl) hP hD hS
set_option maxHeartbeats 4000000 in
set_option maxRecDepth 100000 in
theorem zw_X11_takeModel_10 {p : Program} {l : Launch} {e : Env} {s : State} {m : MethodId} {args : Array Value} {below : List Frame} {meth : Method} {c : Code} {A : Nat → Prop} {D : va_G} {a z : Nat → Nat} {cI cL cB cZ : ClassId} {Q : State → Prop} {N : Nat} {res : Unit × mq_St} (C : mq_C p s m args c A D cI cL cB cZ cX11_takeModel 4 RX11 zc_X11_takeModel) (hret : ∀ (H : Heap) (locs : List Loc) (ls : Array Slot) (pc : Nat), decode cX11_takeModel pc = .ok (.return_, 1) → va_P D vwCl (wd_R a cI cL cB cZ z res.2) H → va_D A (wd_R a cI cL cB cZ z res.2) → va_S A s.heap H locs → W p l e zr_X11_takeModel s m args below meth c H locs 0 0 Q (F0 m pc ls [])) : ∀ (n : Nat) (v1 : Int32) (S : mq_St) (H : Heap) (locs : List Loc) (ls : Array Slot) (h : zf_X11_takeModel_10 N z n v1 S = some res) (hl : lv_has ls 4 [(0, .ref (a 0)), (1, .int (v1))]) (hP : va_P D vwCl (wd_R a cI cL cB cZ z S) H) (hD : va_D A (wd_R a cI cL cB cZ z S)) (hS : va_S A s.heap H locs), W p l e zr_X11_takeModel s m args below meth c H locs 0 0 Q (F0 m 10 ls []) := by
  intro n
  induction n with
  | zero =>
    intro v1 S H locs ls h hl hP hD hS
    exact nomatch (show (none : Option (Unit × mq_St)) = some res from h)
  | succ n ih =>
    intro v1 S H locs ls h hl hP hD hS
    exact zw_X11_takeModel_10b C hret (fun v1 S H locs ls h hl hP hD hS => ih v1 S H locs ls h hl hP hD hS) v1 S H locs ls h hl hP hD hS
set_option maxHeartbeats 4000000 in
set_option maxRecDepth 100000 in
theorem zw_X11_takeModel_0 {p : Program} {l : Launch} {e : Env} {s : State} {m : MethodId} {args : Array Value} {below : List Frame} {meth : Method} {c : Code} {A : Nat → Prop} {D : va_G} {a z : Nat → Nat} {cI cL cB cZ : ClassId} {Q : State → Prop} {N : Nat} {res : Unit × mq_St} (C : mq_C p s m args c A D cI cL cB cZ cX11_takeModel 4 RX11 zc_X11_takeModel) (hret : ∀ (H : Heap) (locs : List Loc) (ls : Array Slot) (pc : Nat), decode cX11_takeModel pc = .ok (.return_, 1) → va_P D vwCl (wd_R a cI cL cB cZ z res.2) H → va_D A (wd_R a cI cL cB cZ z res.2) → va_S A s.heap H locs → W p l e zr_X11_takeModel s m args below meth c H locs 0 0 Q (F0 m pc ls [])) (S : mq_St) (H : Heap) (locs : List Loc) (ls : Array Slot) (h : zf_X11_takeModel N z S = some res) (hl : lv_has ls 4 [(0, .ref (a 0))]) (hP : va_P D vwCl (wd_R a cI cL cB cZ z S) H) (hD : va_D A (wd_R a cI cL cB cZ z S)) (hS : va_S A s.heap H locs) : W p l e zr_X11_takeModel s m args below meth c H locs 0 0 Q (F0 m 0 ls []) := by
  obtain ⟨hx, hb, hml, hown, hts, hK, hA⟩ := id C
  unfold zf_X11_takeModel at h
  refine lv_aload_n hx hb dX11_takeModel_0 rfl (lv_at hl 0 rfl) ?_
  refine lv_aload_n hx hb dX11_takeModel_1 rfl (lv_at hl 0 rfl) ?_
  refine va_get (D := D) (ci := 11) (v := .int ((S.1 24))) (C := RX11) (T := TX11) (N := 76) hx hb hts (zi_X11 _) hown hK hP 0 rfl rfl 42 (by decide) (hts _ (List.mem_cons_of_mem _ zt_f_X11_298)) (fun _ h9 => h9) rfl dX11_takeModel_2 ?_
  refine mq_put (w := wd_R a cI cL cB cZ z) (S := S) (D := D) (ci := 11) (v := (S.1 24)) (ty := .int) (C := RX11) (T := TX11) (N := 76) hx hb hts (zi_X11 _) tyX11 tyX11_ok nmX11 hown hK hP hD hS 0 rfl rfl 65 (by decide) (hts _ (List.mem_cons_of_mem _ zt_f_X11_375)) (fun _ h9 => h9) rfl (by decide +kernel) rfl rfl (Nat.le_of_ble_eq_true rfl) dX11_takeModel_5 31 (zs_wd_R_i_0_31 _ _ _ _ _ _ _ _) (fun S1 eS1 H locs hP hD hS => ?_)
  replace h := mq_nS_go eS1 h
  refine lv_iconst (v := (0 : Int32)) hx hb dX11_takeModel_8 (by decide) ?_
  refine lv_topi (fun x2 ex2 => ?_)
  replace h := mq_nI_go ex2 h
  refine lv_istore_n (lv' := [(1, .int (x2)), (0, .ref (a 0))]) hx hb dX11_takeModel_9 rfl hl (by decide) rfl (fun ls hl => ?_)
  exact zw_X11_takeModel_10 C hret N (x2) S1 H locs ls h (lv_sub hl [1, 0] rfl) hP hD hS
set_option maxHeartbeats 4000000 in
set_option maxRecDepth 100000 in
theorem zm_X11_takeModel (l : Launch) (D : va_G) (a z : Nat → Nat) (cI cL cB cZ : ClassId) (sz N : Nat) (S : mq_St) (res : Unit × mq_St) (h : zf_X11_takeModel N z S = some res) : Met l yX11_takeModel (zc_X11_takeModel :: mq_T) zr_X11_takeModel (va_Pc [.ref (a 0)] (fun U => U.heap.size = sz ∧ va_P D vwCl (wd_R a cI cL cB cZ z S) U.heap ∧ va_K D vwCl (mq_tys cI cL cB cZ) U ∧ va_D (fun _ => True) (wd_R a cI cL cB cZ z S))) (va_Qv (fun u : mq_St => u = res.2) (fun u t => va_P D vwCl (wd_R a cI cL cB cZ z u) t.heap ∧ va_K D vwCl (mq_tys cI cL cB cZ) t ∧ va_D (va_A (wd_R a cI cL cB cZ z S) sz) (wd_R a cI cL cB cZ z u)) (va_A (wd_R a cI cL cB cZ z S) sz)) 0 0 (va_A (wd_R a cI cL cB cZ z S) sz) := by
  refine Met.ofW (cc := cX11_takeModel) (maxL := 4) (ret := none) (by decide) rfl ?_
  intro p e s m args below meth c s₁ B hml hv
  obtain ⟨rfl, hsz, hP, hK, hD0⟩ := hv
  have hr := B.returns
  have hlocks := B.notSynchronized
  have hts := atoms_spec (ws := zc_X11_takeModel :: mq_T) B.pre
  have hown : s.vm.findClass RX11 = some m.cls := findClass_of_methodNamed B.named
  subst hsz
  have hD := hD0.self (sz := s.heap.size)
  generalize hAe : va_A (wd_R a cI cL cB cZ z S) s.heap.size = A at hD ⊢
  have hA : ∀ q : Nat, s.heap.size ≤ q → A q := fun q h => by rw [← hAe]; exact Or.inr h
  have hl := lv_entry ([.ref (a 0)]) (n := 4) (Nat.le_of_ble_eq_true rfl)
  rw [lg_entry_eq]
  generalize (lg_sl ([.ref (a 0)]) ++ List.replicate (4 - (lg_sl ([.ref (a 0)])).length) Slot.unset).toArray = ls at hl ⊢
  have hl : lv_has ls 4 [(0, .ref (a 0))] := hl
  refine zw_X11_takeModel_0 (A := A) ⟨B.exec, B.bytes, hml, hown, hts, hK, hA⟩ (fun H locs ls pc dg hP hD hS => ?_) S s.heap [] ls h hl hP hD va_S.rf
  exact W.vret B.exec B.bytes hr (fun t ht hW => ⟨⟨_, rfl, rfl, by rw [ht]; exact hP, va_K.moved hW.alike hK, hD⟩, hS.F ht⟩) hS.2.2 dg
theorem zt_X11_takeModel_c : zc_X11_takeModel ∈ mq_T := mq_T_mem (mq_t7 (List.mem_of_getElem? (i := 131) rfl)) rfl
theorem zt_X11_takeModel_i : Cond.instanceMethod yX11_takeModel ∈ mq_T := mq_T_mem (mq_t7 (List.mem_of_getElem? (i := 130) rfl)) rfl
theorem zt_X11_takeModel_s : Cond.selects RX11 yX11_takeModel yX11_takeModel ∈ mq_T := mq_T_at 102 (by decide +kernel)
set_option maxHeartbeats 4000000 in
theorem zk_X11_takeModel {p : Program} {l : Launch} {e : Env} {R : Room} {s : State} {m : MethodId} {args : Array Value} {below : List Frame} {meth : Method} {c : Code} {A : Nat → Prop} {D : va_G} {a z : Nat → Nat} {cI cL cB cZ : ClassId} {Q : State → Prop} {cc : ByteArray} {nL idx pc N : Nat} {own : String} {c1 : Cond} {H : Heap} {locs : List Loc} {ls : Array Slot} {rest : List Value} {S : mq_St} {res : Unit × mq_St} (C : mq_C p s m args c A D cI cL cB cZ cc nL own c1) (hlk : Cond.methodLink own idx yX11_takeModel ∈ mq_T) (hR : zr_X11_takeModel.frames + 1 ≤ R.frames ∧ 8 + (4 + 11) + zr_X11_takeModel.locals ≤ R.locals) (h : zf_X11_takeModel N z S = some res) (hP : va_P D vwCl (wd_R a cI cL cB cZ z S) H) (hD : va_D A (wd_R a cI cL cB cZ z S)) (hS : va_S A s.heap H locs) (hls : ls.size = nL) (hrest : (rest.map fun v => v.category).sum ≤ 8) (hdg : decode cc pc = .ok (.invokevirtual idx, 3)) (kk : ∀ (H1 : Heap) (locs1 : List Loc), va_P D vwCl (wd_R a cI cL cB cZ z res.2) H1 → va_D A (wd_R a cI cL cB cZ z res.2) → va_S A s.heap H1 locs1 → W p l e R s m args below meth c H1 locs1 0 0 Q (F0 m (pc + 3) ls rest)) : W p l e R s m args below meth c H locs 0 0 Q (F0 m pc ls (.ref (a 0) :: rest)) := by
  obtain ⟨hx, hb, hml, hown, hts, hK, hA⟩ := C
  have hFc := mq_freeI hD hS hA
  refine va_callv (va_runV (As := []) (rest := rest) ⟨hx, hb, hml, hown, hts⟩ (zm_X11_takeModel l D a z cI cL cB cZ H.size N S res h) (cwV 0 hts (mq_goodL (mq_wsV hlk zt_X11_takeModel_i zt_X11_takeModel_s zt_ini_X11 zt_X11_takeModel_c)) rfl rfl rfl (by decide +kernel) hR) ⟨fun a U g mk q => ⟨q.1, q.2.1, q.2.2.1, va_K.moved (u := U) (U := U.calling g mk a) (Vm.Alike.refl U.vm) q.2.2.2.1, q.2.2.2.2⟩, zy_R_0 hK hP, fun U hU hW => ⟨rfl, by rw [hU], by rw [hU]; exact hP, va_K.moved hW.alike hK, hD.weaken (fun _ _ _ _ => trivial)⟩⟩ rfl rfl hls rfl (lv_room hrest) hdg ⟨Nat.zero_le _, Nat.zero_le _⟩) hS (fun q _ h => hFc q h) hFc (fun u t H1 locs ht hvm hw hB hz1 hk1 hS => ?_)
  subst hw
  obtain ⟨hP1, hK1, hD1⟩ := hB
  rw [ht] at hP1
  exact kk H1 locs hP1 (hD1.weaken (fun _ _ _ h => hFc _ h)) hS
theorem zt_k_X11_368 : Cond.constant RX11 368 ((100000 : Int32)) ∈ mq_T := mq_T_mem (mq_t7 (List.mem_of_getElem? (i := 50) rfl)) rfl
theorem zs_wd_R_i_0_18 (a z : Nat → Nat) (cI cL cB cZ : ClassId) (S : mq_St) (v : Int32) : (wd_R a cI cL cB cZ z S).set 0 (a 0, .inr (11, ([.int (S.1 0), .ref (a 1), .int (S.1 1), .ref (a 2), .int (S.1 2), .ref (a 3), .ref (a 4), .ref (a 5), .int (S.1 3), .ref (a 6), .ref (a 7), .int (S.1 4), .int (S.1 5), .int (S.1 6), .ref (a 8), .ref (a 9), .ref (a 10), .ref (a 11), .ref (a 12), .int (S.1 7), .int (S.1 8), .int (S.1 9), .int (S.1 10), .int (S.1 11), .int (S.1 12), .int (S.1 13), .ref (a 13), .ref (a 14), .int (S.1 14), .int (S.1 15), .int (S.1 16), .ref (a 15), .int (S.1 17), .ref (a 16), .ref (a 17), .ref (a 18), .int (S.1 18), .int (S.1 19), .int (S.1 20), .int (S.1 21), .int (S.1 22), .int (S.1 23), .int (S.1 24), .int (S.1 25), .ref (a 19), .ref (a 20), .ref (a 21), .ref (a 22), .ref (a 23), .int (S.1 26), .ref (a 24), .ref (a 25), .int (S.1 27), .int (S.1 28), .ref (a 26), .ref (a 27), .ref (a 28), .ref (a 29), .ref (a 30), .ref (a 31), .ref (a 32), .int (S.1 29), .int (S.1 30), .ref (a 33), .ref (a 34), .int (S.1 31), .ref (a 35), .ref (a 36), .ref (a 37), .ref (a 38), .ref (a 39), .ref (a 40), .ref (a 41), .ref (a 42), .ref (a 43), .ref (a 44)] : List Value).set 36 (.int v))) = (wd_R a cI cL cB cZ z (mq_si S 18 v)) := rfl
theorem zt_m_X11_369 : Cond.methodLink RX11 369 yX11_tableau ∈ mq_T := mq_T_mem (mq_t7 (List.mem_of_getElem? (i := 51) rfl)) rfl
theorem zt_f_X11_372 : Cond.fieldLink RX11 372 "ModalDeskModel" "hasProof" "Z" ∈ mq_T := mq_T_mem (mq_t5 (List.mem_of_getElem? (i := 226) rfl)) rfl
theorem zs_wd_R_i_0_29 (a z : Nat → Nat) (cI cL cB cZ : ClassId) (S : mq_St) (v : Int32) : (wd_R a cI cL cB cZ z S).set 0 (a 0, .inr (11, ([.int (S.1 0), .ref (a 1), .int (S.1 1), .ref (a 2), .int (S.1 2), .ref (a 3), .ref (a 4), .ref (a 5), .int (S.1 3), .ref (a 6), .ref (a 7), .int (S.1 4), .int (S.1 5), .int (S.1 6), .ref (a 8), .ref (a 9), .ref (a 10), .ref (a 11), .ref (a 12), .int (S.1 7), .int (S.1 8), .int (S.1 9), .int (S.1 10), .int (S.1 11), .int (S.1 12), .int (S.1 13), .ref (a 13), .ref (a 14), .int (S.1 14), .int (S.1 15), .int (S.1 16), .ref (a 15), .int (S.1 17), .ref (a 16), .ref (a 17), .ref (a 18), .int (S.1 18), .int (S.1 19), .int (S.1 20), .int (S.1 21), .int (S.1 22), .int (S.1 23), .int (S.1 24), .int (S.1 25), .ref (a 19), .ref (a 20), .ref (a 21), .ref (a 22), .ref (a 23), .int (S.1 26), .ref (a 24), .ref (a 25), .int (S.1 27), .int (S.1 28), .ref (a 26), .ref (a 27), .ref (a 28), .ref (a 29), .ref (a 30), .ref (a 31), .ref (a 32), .int (S.1 29), .int (S.1 30), .ref (a 33), .ref (a 34), .int (S.1 31), .ref (a 35), .ref (a 36), .ref (a 37), .ref (a 38), .ref (a 39), .ref (a 40), .ref (a 41), .ref (a 42), .ref (a 43), .ref (a 44)] : List Value).set 61 (.int v))) = (wd_R a cI cL cB cZ z (mq_si S 29 v)) := rfl
theorem zt_m_X11_381 : Cond.methodLink RX11 381 yX11_takeModel ∈ mq_T := mq_T_mem (mq_t7 (List.mem_of_getElem? (i := 128) rfl)) rfl
theorem zt_f_X11_378 : Cond.fieldLink RX11 378 "ModalDeskModel" "proofLines" "I" ∈ mq_T := mq_T_mem (mq_t5 (List.mem_of_getElem? (i := 227) rfl)) rfl
theorem zs_wd_R_i_0_30 (a z : Nat → Nat) (cI cL cB cZ : ClassId) (S : mq_St) (v : Int32) : (wd_R a cI cL cB cZ z S).set 0 (a 0, .inr (11, ([.int (S.1 0), .ref (a 1), .int (S.1 1), .ref (a 2), .int (S.1 2), .ref (a 3), .ref (a 4), .ref (a 5), .int (S.1 3), .ref (a 6), .ref (a 7), .int (S.1 4), .int (S.1 5), .int (S.1 6), .ref (a 8), .ref (a 9), .ref (a 10), .ref (a 11), .ref (a 12), .int (S.1 7), .int (S.1 8), .int (S.1 9), .int (S.1 10), .int (S.1 11), .int (S.1 12), .int (S.1 13), .ref (a 13), .ref (a 14), .int (S.1 14), .int (S.1 15), .int (S.1 16), .ref (a 15), .int (S.1 17), .ref (a 16), .ref (a 17), .ref (a 18), .int (S.1 18), .int (S.1 19), .int (S.1 20), .int (S.1 21), .int (S.1 22), .int (S.1 23), .int (S.1 24), .int (S.1 25), .ref (a 19), .ref (a 20), .ref (a 21), .ref (a 22), .ref (a 23), .int (S.1 26), .ref (a 24), .ref (a 25), .int (S.1 27), .int (S.1 28), .ref (a 26), .ref (a 27), .ref (a 28), .ref (a 29), .ref (a 30), .ref (a 31), .ref (a 32), .int (S.1 29), .int (S.1 30), .ref (a 33), .ref (a 34), .int (S.1 31), .ref (a 35), .ref (a 36), .ref (a 37), .ref (a 38), .ref (a 39), .ref (a 40), .ref (a 41), .ref (a 42), .ref (a 43), .ref (a 44)] : List Value).set 62 (.int v))) = (wd_R a cI cL cB cZ z (mq_si S 30 v)) := rfl
theorem zt_f_X11_115 : Cond.fieldLink RX11 115 "ModalDeskModel" "proofRule" "[I" ∈ mq_T := mq_T_mem (mq_t5 (List.mem_of_getElem? (i := 228) rfl)) rfl
theorem zs_wd_R_a_33_32 (a z : Nat → Nat) (cI cL cB cZ : ClassId) (S : mq_St) (f : Nat → Int32) : (wd_R a cI cL cB cZ z S).set 33 (a 33, .inl (cI, 1300, .inl f)) = (wd_R a cI cL cB cZ z (mq_sa S 32 f)) := rfl
theorem zt_f_X11_118 : Cond.fieldLink RX11 118 "ModalDeskModel" "proofNumber" "[I" ∈ mq_T := mq_T_mem (mq_t5 (List.mem_of_getElem? (i := 229) rfl)) rfl
theorem zs_wd_R_a_34_33 (a z : Nat → Nat) (cI cL cB cZ : ClassId) (S : mq_St) (f : Nat → Int32) : (wd_R a cI cL cB cZ z S).set 34 (a 34, .inl (cI, 1300, .inl f)) = (wd_R a cI cL cB cZ z (mq_sa S 33 f)) := rfl
/-! ModalDeskModel.prove(II)I -/
def zr_X11_prove : Room := { frames := 5, cells := 0, slots := 0, locals := 110 }
def zc_X11_prove : Cond := .code yX11_prove cX11_prove 5 (some .int)
def zf_X11_prove_80b (N : Nat) (z : Nat → Nat) (k80 : Int32 → Int32 → mq_St → Option (Int32 × mq_St)) (v3 : Int32) (v4 : Int32) (S : mq_St) : Option (Int32 × mq_St) := (if (S.1 26) ≤ v4 then (some (v3, S)) else (mq_ck (v4) 1300 (mq_ck (v4) 1300 (mq_nS (mq_sa S 32 (upd (S.2.1 32) (v4).toNatClampNeg ((S.2.1 23 (v4).toNatClampNeg)))) (fun S30 => (mq_ck (v4) 1300 (mq_ck (v4) 1300 (mq_nS (mq_sa S30 33 (upd (S30.2.1 33) (v4).toNatClampNeg ((S30.2.1 24 (v4).toNatClampNeg)))) (fun S33 => (mq_nI (v4 + (1 : Int32)) (fun x34 => (k80 (v3) (x34) S33))))))))))))
def zf_X11_prove_80 (N : Nat) (z : Nat → Nat) : Nat → Int32 → Int32 → mq_St → Option (Int32 × mq_St)
  | 0, _, _, _ => none
  | n + 1, v3, v4, S => zf_X11_prove_80b N z (fun v3 v4 S => zf_X11_prove_80 N z n v3 v4 S) v3 v4 S
def zf_X11_prove (N : Nat) (z : Nat → Nat) (v1 : Int32) (v2 : Int32) (S : mq_St) : Option (Int32 × mq_St) := (mq_nS (mq_si S 0 ((0 : Int32))) (fun S1 => (mq_cp (zf_X11_in N z (v1) ((0 : Int32)) ((7 : Int32)) (mq_pull S1 [] [] [])) (fun q2 => (if q2 = (0 : Int32) then (some ((-1 : Int32), S1)) else (mq_ck (v1) 8 (if (S1.2.1 5 (v1).toNatClampNeg) = (-1 : Int32) then (some ((-1 : Int32), S1)) else (mq_cp (zf_X11_in N z (v2) ((1 : Int32)) ((100000 : Int32)) (mq_pull S1 [] [] [])) (fun q5 => (if q5 = (0 : Int32) then (some ((-1 : Int32), S1)) else (mq_nS (mq_si S1 18 (v2)) (fun S7 => (mq_ck (v1) 8 (mq_cl (zf_X11_tableau N z ((S7.2.1 6 (v1).toNatClampNeg)) S7) (fun q9v S11 => (mq_nI (q9v) (fun x12 => (if x12 = (1 : Int32) then (mq_cz ((1 : Int32)) (mq_nS (mq_si S11 29 ((1 : Int32))) (fun S19 => (mq_nS (mq_si S19 31 ((0 : Int32))) (fun S21 => (mq_nS (mq_si S21 30 ((S21.1 26))) (fun S22 => (mq_nI ((0 : Int32)) (fun x23 => (zf_X11_prove_80 N z N (x12) (x23) S22)))))))))) else (if x12 = (0 : Int32) then (mq_cz ((0 : Int32)) (mq_nS (mq_si S11 29 ((0 : Int32))) (fun S13 => (mq_cl (zf_X11_takeModel N z S13) (fun q15v S17 => (some (x12, S17))))))) else (some (x12, S11)))))))))))))))))))))
set_option maxHeartbeats 4000000 in
set_option maxRecDepth 100000 in
theorem zw_X11_prove_80b {p : Program} {l : Launch} {e : Env} {s : State} {m : MethodId} {args : Array Value} {below : List Frame} {meth : Method} {c : Code} {A : Nat → Prop} {D : va_G} {a z : Nat → Nat} {cI cL cB cZ : ClassId} {Q : State → Prop} {N : Nat} {res : Int32 × mq_St} {k80 : Int32 → Int32 → mq_St → Option (Int32 × mq_St)} (C : mq_C p s m args c A D cI cL cB cZ cX11_prove 5 RX11 zc_X11_prove) (hret : ∀ (H : Heap) (locs : List Loc) (ls : Array Slot) (pc : Nat), decode cX11_prove pc = .ok (.ireturn, 1) → va_P D vwCl (wd_R a cI cL cB cZ z res.2) H → va_D A (wd_R a cI cL cB cZ z res.2) → va_S A s.heap H locs → W p l e zr_X11_prove s m args below meth c H locs 0 0 Q (F0 m pc ls [.int res.1])) (hk80 : ∀ (v3 : Int32) (v4 : Int32) (S : mq_St) (H : Heap) (locs : List Loc) (ls : Array Slot), k80 v3 v4 S = some res → lv_has ls 5 [(0, .ref (a 0)), (3, .int (v3)), (4, .int (v4))] → va_P D vwCl (wd_R a cI cL cB cZ z S) H → va_D A (wd_R a cI cL cB cZ z S) → va_S A s.heap H locs → W p l e zr_X11_prove s m args below meth c H locs 0 0 Q (F0 m 80 ls [])) (v3 : Int32) (v4 : Int32) (S : mq_St) (H : Heap) (locs : List Loc) (ls : Array Slot) (h : zf_X11_prove_80b N z k80 v3 v4 S = some res) (hl : lv_has ls 5 [(0, .ref (a 0)), (3, .int (v3)), (4, .int (v4))]) (hP : va_P D vwCl (wd_R a cI cL cB cZ z S) H) (hD : va_D A (wd_R a cI cL cB cZ z S)) (hS : va_S A s.heap H locs) : W p l e zr_X11_prove s m args below meth c H locs 0 0 Q (F0 m 80 ls []) := by
  obtain ⟨hx, hb, hml, hown, hts, hK, hA⟩ := id C
  unfold zf_X11_prove_80b at h
  refine lv_iload hx hb dX11_prove_80 (lv_at hl 2 rfl) ?_
  refine lv_aload_n hx hb dX11_prove_82 rfl (lv_at hl 0 rfl) ?_
  refine va_get (D := D) (ci := 11) (v := .int ((S.1 26))) (C := RX11) (T := TX11) (N := 76) hx hb hts (zi_X11 _) hown hK hP 0 rfl rfl 49 (by decide) (hts _ (List.mem_cons_of_mem _ zt_f_X11_289)) (fun _ h9 => h9) rfl dX11_prove_83 ?_
  refine lv_icmp_ge (tgt := 123) hx hb dX11_prove_86 (by decide) (fun c35 => ?_) (fun c35 => ?_)
  · replace h := mq_it c35 h
    refine lv_goto (tgt := 139) hx hb dX11_prove_123 (by decide) ?_
    refine lv_iload_n hx hb dX11_prove_139 rfl (lv_at hl 1 rfl) ?_
    cases h
    exact hret H locs ls 140 dX11_prove_140 hP hD hS
  · replace h := mq_if c35 h
    refine lv_aload_n hx hb dX11_prove_89 rfl (lv_at hl 0 rfl) ?_
    refine va_get (D := D) (ci := 11) (v := .ref (a 33)) (C := RX11) (T := TX11) (N := 76) hx hb hts (zi_X11 _) hown hK hP 0 rfl rfl 63 (by decide) (hts _ (List.mem_cons_of_mem _ zt_f_X11_115)) (fun _ h9 => h9) rfl dX11_prove_90 ?_
    refine lv_iload hx hb dX11_prove_93 (lv_at hl 2 rfl) ?_
    refine lv_aload_n hx hb dX11_prove_95 rfl (lv_at hl 0 rfl) ?_
    refine va_get (D := D) (ci := 11) (v := .ref (a 24)) (C := RX11) (T := TX11) (N := 76) hx hb hts (zi_X11 _) hown hK hP 0 rfl rfl 50 (by decide) (hts _ (List.mem_cons_of_mem _ zt_f_X11_88)) (fun _ h9 => h9) rfl dX11_prove_96 ?_
    refine lv_iload hx hb dX11_prove_99 (lv_at hl 2 rfl) ?_
    have hi28 := mq_ck_in h
    replace h := mq_ck_go h
    refine va_iald (f := S.2.1 23) hx hb hK hP 24 0 rfl rfl hi28 dX11_prove_101 ?_
    have hi29 := mq_ck_in h
    replace h := mq_ck_go h
    refine mq_iast (w := wd_R a cI cL cB cZ z) (S := S) (f := S.2.1 32) hx hb hK hP hD hS 33 0 rfl rfl hi29 dX11_prove_102 32 (zs_wd_R_a_33_32 _ _ _ _ _ _ _ _) (fun S30 eS30 H locs hP hD hS => ?_)
    replace h := mq_nS_go eS30 h
    refine lv_aload_n hx hb dX11_prove_103 rfl (lv_at hl 0 rfl) ?_
    refine va_get (D := D) (ci := 11) (v := .ref (a 34)) (C := RX11) (T := TX11) (N := 76) hx hb hts (zi_X11 _) hown hK hP 0 rfl rfl 64 (by decide) (hts _ (List.mem_cons_of_mem _ zt_f_X11_118)) (fun _ h9 => h9) rfl dX11_prove_104 ?_
    refine lv_iload hx hb dX11_prove_107 (lv_at hl 2 rfl) ?_
    refine lv_aload_n hx hb dX11_prove_109 rfl (lv_at hl 0 rfl) ?_
    refine va_get (D := D) (ci := 11) (v := .ref (a 25)) (C := RX11) (T := TX11) (N := 76) hx hb hts (zi_X11 _) hown hK hP 0 rfl rfl 51 (by decide) (hts _ (List.mem_cons_of_mem _ zt_f_X11_91)) (fun _ h9 => h9) rfl dX11_prove_110 ?_
    refine lv_iload hx hb dX11_prove_113 (lv_at hl 2 rfl) ?_
    have hi31 := mq_ck_in h
    replace h := mq_ck_go h
    refine va_iald (f := S30.2.1 24) hx hb hK hP 25 0 rfl rfl hi31 dX11_prove_115 ?_
    have hi32 := mq_ck_in h
    replace h := mq_ck_go h
    refine mq_iast (w := wd_R a cI cL cB cZ z) (S := S30) (f := S30.2.1 33) hx hb hK hP hD hS 34 0 rfl rfl hi32 dX11_prove_116 33 (zs_wd_R_a_34_33 _ _ _ _ _ _ _ _) (fun S33 eS33 H locs hP hD hS => ?_)
    replace h := mq_nS_go eS33 h
    obtain ⟨x34, ex34⟩ : ∃ y : Int32, y = v4 + (1 : Int32) := ⟨_, rfl⟩
    replace h := mq_nI_go ex34 h
    refine lv_iinc (v := x34) (lv' := [(4, .int (x34)), (0, .ref (a 0)), (3, .int (v3))]) hx hb dX11_prove_117 hl (k := 2) rfl (by rw [ex34]; rfl) (by decide) rfl (fun ls hl => ?_)
    refine lv_goto (tgt := 80) hx hb dX11_prove_120 (by decide) ?_
    exact hk80 (v3) (x34) S33 H locs ls h (lv_sub hl [1, 2, 0] rfl) hP hD hS
set_option maxHeartbeats 4000000 in
set_option maxRecDepth 100000 in
theorem zw_X11_prove_80 {p : Program} {l : Launch} {e : Env} {s : State} {m : MethodId} {args : Array Value} {below : List Frame} {meth : Method} {c : Code} {A : Nat → Prop} {D : va_G} {a z : Nat → Nat} {cI cL cB cZ : ClassId} {Q : State → Prop} {N : Nat} {res : Int32 × mq_St} (C : mq_C p s m args c A D cI cL cB cZ cX11_prove 5 RX11 zc_X11_prove) (hret : ∀ (H : Heap) (locs : List Loc) (ls : Array Slot) (pc : Nat), decode cX11_prove pc = .ok (.ireturn, 1) → va_P D vwCl (wd_R a cI cL cB cZ z res.2) H → va_D A (wd_R a cI cL cB cZ z res.2) → va_S A s.heap H locs → W p l e zr_X11_prove s m args below meth c H locs 0 0 Q (F0 m pc ls [.int res.1])) : ∀ (n : Nat) (v3 : Int32) (v4 : Int32) (S : mq_St) (H : Heap) (locs : List Loc) (ls : Array Slot) (h : zf_X11_prove_80 N z n v3 v4 S = some res) (hl : lv_has ls 5 [(0, .ref (a 0)), (3, .int (v3)), (4, .int (v4))]) (hP : va_P D vwCl (wd_R a cI cL cB cZ z S) H) (hD : va_D A (wd_R a cI cL cB cZ z S)) (hS : va_S A s.heap H locs), W p l e zr_X11_prove s m args below meth c H locs 0 0 Q (F0 m 80 ls []) := by
  intro n
  induction n with
  | zero =>
    intro v3 v4 S H locs ls h hl hP hD hS
    exact nomatch (show (none : Option (Int32 × mq_St)) = some res from h)
  | succ n ih =>
    intro v3 v4 S H locs ls h hl hP hD hS
    exact zw_X11_prove_80b C hret (fun v3 v4 S H locs ls h hl hP hD hS => ih v3 v4 S H locs ls h hl hP hD hS) v3 v4 S H locs ls h hl hP hD hS
set_option maxHeartbeats 4000000 in
set_option maxRecDepth 100000 in
theorem zw_X11_prove_0 {p : Program} {l : Launch} {e : Env} {s : State} {m : MethodId} {args : Array Value} {below : List Frame} {meth : Method} {c : Code} {A : Nat → Prop} {D : va_G} {a z : Nat → Nat} {cI cL cB cZ : ClassId} {Q : State → Prop} {N : Nat} {res : Int32 × mq_St} (C : mq_C p s m args c A D cI cL cB cZ cX11_prove 5 RX11 zc_X11_prove) (hret : ∀ (H : Heap) (locs : List Loc) (ls : Array Slot) (pc : Nat), decode cX11_prove pc = .ok (.ireturn, 1) → va_P D vwCl (wd_R a cI cL cB cZ z res.2) H → va_D A (wd_R a cI cL cB cZ z res.2) → va_S A s.heap H locs → W p l e zr_X11_prove s m args below meth c H locs 0 0 Q (F0 m pc ls [.int res.1])) (v1 : Int32) (v2 : Int32) (S : mq_St) (H : Heap) (locs : List Loc) (ls : Array Slot) (h : zf_X11_prove N z v1 v2 S = some res) (hl : lv_has ls 5 [(0, .ref (a 0)), (1, .int (v1)), (2, .int (v2))]) (hP : va_P D vwCl (wd_R a cI cL cB cZ z S) H) (hD : va_D A (wd_R a cI cL cB cZ z S)) (hS : va_S A s.heap H locs) : W p l e zr_X11_prove s m args below meth c H locs 0 0 Q (F0 m 0 ls []) := by
  obtain ⟨hx, hb, hml, hown, hts, hK, hA⟩ := id C
  unfold zf_X11_prove at h
  refine lv_aload_n hx hb dX11_prove_0 rfl (lv_at hl 0 rfl) ?_
  refine lv_iconst (v := (0 : Int32)) hx hb dX11_prove_1 (by decide) ?_
  refine mq_put (w := wd_R a cI cL cB cZ z) (S := S) (D := D) (ci := 11) (v := (0 : Int32)) (ty := .int) (C := RX11) (T := TX11) (N := 76) hx hb hts (zi_X11 _) tyX11 tyX11_ok nmX11 hown hK hP hD hS 0 rfl rfl 0 (by decide) (hts _ (List.mem_cons_of_mem _ zt_f_X11_151)) (fun _ h9 => h9) rfl (by decide +kernel) rfl rfl (Nat.le_of_ble_eq_true rfl) dX11_prove_2 0 (zs_wd_R_i_0_0 _ _ _ _ _ _ _ _) (fun S1 eS1 H locs hP hD hS => ?_)
  replace h := mq_nS_go eS1 h
  refine lv_iload_n hx hb dX11_prove_5 rfl (lv_at hl 1 rfl) ?_
  refine lv_iconst (v := (0 : Int32)) hx hb dX11_prove_6 (by decide) ?_
  refine lv_bipush (v := (7 : Int32)) hx hb dX11_prove_7 (by decide) ?_
  obtain ⟨q2, hc3, h⟩ := mq_cp_go h
  refine zv_X11_in (a := mq_ad a []) (z := z) [] C zt_m_X11_161 ⟨by decide, by decide⟩ hc3 rfl (by decide) hP hD hS hl.1 (Nat.le_of_ble_eq_true rfl) dX11_prove_9 (fun H locs hP hD hS => ?_)
  refine lv_if_eq (tgt := 36) hx hb dX11_prove_12 (by decide) (fun c27 => ?_) (fun c27 => ?_)
  · replace h := mq_it c27 h
    refine lv_iconst (v := (-1 : Int32)) hx hb dX11_prove_36 (by decide) ?_
    cases h
    exact hret H locs ls 37 dX11_prove_37 hP hD hS
  · replace h := mq_if c27 h
    refine lv_aload_n hx hb dX11_prove_15 rfl (lv_at hl 0 rfl) ?_
    refine va_get (D := D) (ci := 11) (v := .ref (a 6)) (C := RX11) (T := TX11) (N := 76) hx hb hts (zi_X11 _) hown hK hP 0 rfl rfl 9 (by decide) (hts _ (List.mem_cons_of_mem _ zt_f_X11_30)) (fun _ h9 => h9) rfl dX11_prove_16 ?_
    refine lv_iload_n hx hb dX11_prove_19 rfl (lv_at hl 1 rfl) ?_
    have hi4 := mq_ck_in h
    replace h := mq_ck_go h
    refine va_iald (f := S1.2.1 5) hx hb hK hP 6 0 rfl rfl hi4 dX11_prove_20 ?_
    refine lv_iconst (v := (-1 : Int32)) hx hb dX11_prove_21 (by decide) ?_
    refine lv_icmp_eq (tgt := 36) hx hb dX11_prove_22 (by decide) (fun c26 => ?_) (fun c26 => ?_)
    · replace h := mq_it c26 h
      refine lv_iconst (v := (-1 : Int32)) hx hb dX11_prove_36 (by decide) ?_
      cases h
      exact hret H locs ls 37 dX11_prove_37 hP hD hS
    · replace h := mq_if c26 h
      refine lv_iload_n hx hb dX11_prove_25 rfl (lv_at hl 2 rfl) ?_
      refine lv_iconst (v := (1 : Int32)) hx hb dX11_prove_26 (by decide) ?_
      refine lv_ldcw (v := (100000 : Int32)) hx hb hown (hts _ (List.mem_cons_of_mem _ zt_k_X11_368)) dX11_prove_27 ?_
      obtain ⟨q5, hc6, h⟩ := mq_cp_go h
      refine zv_X11_in (a := mq_ad a []) (z := z) [] C zt_m_X11_161 ⟨by decide, by decide⟩ hc6 rfl (by decide) hP hD hS hl.1 (Nat.le_of_ble_eq_true rfl) dX11_prove_30 (fun H locs hP hD hS => ?_)
      refine lv_if_ne (tgt := 38) hx hb dX11_prove_33 (by decide) (fun c25 => ?_) (fun c25 => ?_)
      · replace h := mq_if c25 h
        refine lv_aload_n hx hb dX11_prove_38 rfl (lv_at hl 0 rfl) ?_
        refine lv_iload_n hx hb dX11_prove_39 rfl (lv_at hl 2 rfl) ?_
        refine mq_put (w := wd_R a cI cL cB cZ z) (S := S1) (D := D) (ci := 11) (v := v2) (ty := .int) (C := RX11) (T := TX11) (N := 76) hx hb hts (zi_X11 _) tyX11 tyX11_ok nmX11 hown hK hP hD hS 0 rfl rfl 36 (by decide) (hts _ (List.mem_cons_of_mem _ zt_f_X11_283)) (fun _ h9 => h9) rfl (by decide +kernel) rfl rfl (Nat.le_of_ble_eq_true rfl) dX11_prove_40 18 (zs_wd_R_i_0_18 _ _ _ _ _ _ _ _) (fun S7 eS7 H locs hP hD hS => ?_)
        replace h := mq_nS_go eS7 h
        refine lv_aload_n hx hb dX11_prove_43 rfl (lv_at hl 0 rfl) ?_
        refine lv_aload_n hx hb dX11_prove_44 rfl (lv_at hl 0 rfl) ?_
        refine va_get (D := D) (ci := 11) (v := .ref (a 7)) (C := RX11) (T := TX11) (N := 76) hx hb hts (zi_X11 _) hown hK hP 0 rfl rfl 10 (by decide) (hts _ (List.mem_cons_of_mem _ zt_f_X11_33)) (fun _ h9 => h9) rfl dX11_prove_45 ?_
        refine lv_iload_n hx hb dX11_prove_48 rfl (lv_at hl 1 rfl) ?_
        have hi8 := mq_ck_in h
        replace h := mq_ck_go h
        refine va_iald (f := S7.2.1 6) hx hb hK hP 7 0 rfl rfl hi8 dX11_prove_49 ?_
        obtain ⟨q9, hc10, h⟩ := mq_cl_go h
        refine zk_X11_tableau C zt_m_X11_369 ⟨by decide, by decide⟩ hc10 hP hD hS hl.1 (Nat.le_of_ble_eq_true rfl) dX11_prove_50 (fun H locs hP hD hS => ?_)
        obtain ⟨S11, eS11⟩ : ∃ y, y = q9.2 := ⟨_, rfl⟩
        rw [← eS11] at hP hD h
        refine lv_topi (fun x12 ex12 => ?_)
        replace h := mq_nI_go ex12 h
        refine lv_istore_n (lv' := [(3, .int (x12)), (0, .ref (a 0)), (1, .int (v1)), (2, .int (v2))]) hx hb dX11_prove_53 rfl hl (by decide) rfl (fun ls hl => ?_)
        refine lv_iload_n hx hb dX11_prove_54 rfl (lv_at hl 0 rfl) ?_
        refine lv_iconst (v := (1 : Int32)) hx hb dX11_prove_55 (by decide) ?_
        refine lv_icmp_ne (tgt := 126) hx hb dX11_prove_56 (by decide) (fun c24 => ?_) (fun c24 => ?_)
        · replace h := mq_if c24 h
          refine lv_iload_n hx hb dX11_prove_126 rfl (lv_at hl 0 rfl) ?_
          refine lv_if_ne (tgt := 139) hx hb dX11_prove_127 (by decide) (fun c18 => ?_) (fun c18 => ?_)
          · replace h := mq_if c18 h
            refine lv_iload_n hx hb dX11_prove_139 rfl (lv_at hl 0 rfl) ?_
            cases h
            exact hret H locs ls 140 dX11_prove_140 hP hD hS
          · replace h := mq_it (by simpa using c18) h
            refine lv_aload_n hx hb dX11_prove_130 rfl (lv_at hl 1 rfl) ?_
            refine lv_iconst (v := (0 : Int32)) hx hb dX11_prove_131 (by decide) ?_
            have hz14 := mq_cz_in h
            replace h := mq_cz_go h
            refine mq_put (w := wd_R a cI cL cB cZ z) (S := S11) (D := D) (ci := 11) (v := (0 : Int32)) (ty := .boolean) (C := RX11) (T := TX11) (N := 76) hx hb hts (zi_X11 _) tyX11 tyX11_ok nmX11 hown hK hP hD hS 0 rfl rfl 61 (by decide) (hts _ (List.mem_cons_of_mem _ zt_f_X11_372)) (fun _ h9 => h9) rfl (by decide +kernel) hz14.1 hz14.2 (Nat.le_of_ble_eq_true rfl) dX11_prove_132 29 (zs_wd_R_i_0_29 _ _ _ _ _ _ _ _) (fun S13 eS13 H locs hP hD hS => ?_)
            replace h := mq_nS_go eS13 h
            refine lv_aload_n hx hb dX11_prove_135 rfl (lv_at hl 1 rfl) ?_
            obtain ⟨q15, hc16, h⟩ := mq_cl_go h
            refine zk_X11_takeModel C zt_m_X11_381 ⟨by decide, by decide⟩ hc16 hP hD hS hl.1 (Nat.le_of_ble_eq_true rfl) dX11_prove_136 (fun H locs hP hD hS => ?_)
            obtain ⟨S17, eS17⟩ : ∃ y, y = q15.2 := ⟨_, rfl⟩
            rw [← eS17] at hP hD h
            refine lv_iload_n hx hb dX11_prove_139 rfl (lv_at hl 0 rfl) ?_
            cases h
            exact hret H locs ls 140 dX11_prove_140 hP hD hS
        · replace h := mq_it (by simpa using c24) h
          refine lv_aload_n hx hb dX11_prove_59 rfl (lv_at hl 1 rfl) ?_
          refine lv_iconst (v := (1 : Int32)) hx hb dX11_prove_60 (by decide) ?_
          have hz20 := mq_cz_in h
          replace h := mq_cz_go h
          refine mq_put (w := wd_R a cI cL cB cZ z) (S := S11) (D := D) (ci := 11) (v := (1 : Int32)) (ty := .boolean) (C := RX11) (T := TX11) (N := 76) hx hb hts (zi_X11 _) tyX11 tyX11_ok nmX11 hown hK hP hD hS 0 rfl rfl 61 (by decide) (hts _ (List.mem_cons_of_mem _ zt_f_X11_372)) (fun _ h9 => h9) rfl (by decide +kernel) hz20.1 hz20.2 (Nat.le_of_ble_eq_true rfl) dX11_prove_61 29 (zs_wd_R_i_0_29 _ _ _ _ _ _ _ _) (fun S19 eS19 H locs hP hD hS => ?_)
          replace h := mq_nS_go eS19 h
          refine lv_aload_n hx hb dX11_prove_64 rfl (lv_at hl 1 rfl) ?_
          refine lv_iconst (v := (0 : Int32)) hx hb dX11_prove_65 (by decide) ?_
          refine mq_put (w := wd_R a cI cL cB cZ z) (S := S19) (D := D) (ci := 11) (v := (0 : Int32)) (ty := .int) (C := RX11) (T := TX11) (N := 76) hx hb hts (zi_X11 _) tyX11 tyX11_ok nmX11 hown hK hP hD hS 0 rfl rfl 65 (by decide) (hts _ (List.mem_cons_of_mem _ zt_f_X11_375)) (fun _ h9 => h9) rfl (by decide +kernel) rfl rfl (Nat.le_of_ble_eq_true rfl) dX11_prove_66 31 (zs_wd_R_i_0_31 _ _ _ _ _ _ _ _) (fun S21 eS21 H locs hP hD hS => ?_)
          replace h := mq_nS_go eS21 h
          refine lv_aload_n hx hb dX11_prove_69 rfl (lv_at hl 1 rfl) ?_
          refine lv_aload_n hx hb dX11_prove_70 rfl (lv_at hl 1 rfl) ?_
          refine va_get (D := D) (ci := 11) (v := .int ((S21.1 26))) (C := RX11) (T := TX11) (N := 76) hx hb hts (zi_X11 _) hown hK hP 0 rfl rfl 49 (by decide) (hts _ (List.mem_cons_of_mem _ zt_f_X11_289)) (fun _ h9 => h9) rfl dX11_prove_71 ?_
          refine mq_put (w := wd_R a cI cL cB cZ z) (S := S21) (D := D) (ci := 11) (v := (S21.1 26)) (ty := .int) (C := RX11) (T := TX11) (N := 76) hx hb hts (zi_X11 _) tyX11 tyX11_ok nmX11 hown hK hP hD hS 0 rfl rfl 62 (by decide) (hts _ (List.mem_cons_of_mem _ zt_f_X11_378)) (fun _ h9 => h9) rfl (by decide +kernel) rfl rfl (Nat.le_of_ble_eq_true rfl) dX11_prove_74 30 (zs_wd_R_i_0_30 _ _ _ _ _ _ _ _) (fun S22 eS22 H locs hP hD hS => ?_)
          replace h := mq_nS_go eS22 h
          refine lv_iconst (v := (0 : Int32)) hx hb dX11_prove_77 (by decide) ?_
          refine lv_topi (fun x23 ex23 => ?_)
          replace h := mq_nI_go ex23 h
          refine lv_istore (lv' := [(4, .int (x23)), (3, .int (x12)), (0, .ref (a 0)), (1, .int (v1)), (2, .int (v2))]) hx hb dX11_prove_78 hl (by decide) rfl (fun ls hl => ?_)
          exact zw_X11_prove_80 C hret N (x12) (x23) S22 H locs ls h (lv_sub hl [2, 1, 0] rfl) hP hD hS
      · replace h := mq_it (by simpa using c25) h
        refine lv_iconst (v := (-1 : Int32)) hx hb dX11_prove_36 (by decide) ?_
        cases h
        exact hret H locs ls 37 dX11_prove_37 hP hD hS
set_option maxHeartbeats 4000000 in
set_option maxRecDepth 100000 in
theorem zm_X11_prove (l : Launch) (D : va_G) (a z : Nat → Nat) (cI cL cB cZ : ClassId) (sz N : Nat) (v1 : Int32) (v2 : Int32) (S : mq_St) (res : Int32 × mq_St) (h : zf_X11_prove N z v1 v2 S = some res) : Met l yX11_prove (zc_X11_prove :: mq_T) zr_X11_prove (va_Pc [.ref (a 0), .int (v1), .int (v2)] (fun U => U.heap.size = sz ∧ va_P D vwCl (wd_R a cI cL cB cZ z S) U.heap ∧ va_K D vwCl (mq_tys cI cL cB cZ) U ∧ va_D (fun _ => True) (wd_R a cI cL cB cZ z S))) (va_Qi (fun (r : Int32) (u : mq_St) => r = res.1 ∧ u = res.2) (fun u t => va_P D vwCl (wd_R a cI cL cB cZ z u) t.heap ∧ va_K D vwCl (mq_tys cI cL cB cZ) t ∧ va_D (va_A (wd_R a cI cL cB cZ z S) sz) (wd_R a cI cL cB cZ z u)) (va_A (wd_R a cI cL cB cZ z S) sz)) 0 0 (va_A (wd_R a cI cL cB cZ z S) sz) := by
  refine Met.ofW (cc := cX11_prove) (maxL := 5) (ret := (some .int)) (by decide) rfl ?_
  intro p e s m args below meth c s₁ B hml hv
  obtain ⟨rfl, hsz, hP, hK, hD0⟩ := hv
  have hr := B.returns
  have hlocks := B.notSynchronized
  have hts := atoms_spec (ws := zc_X11_prove :: mq_T) B.pre
  have hown : s.vm.findClass RX11 = some m.cls := findClass_of_methodNamed B.named
  subst hsz
  have hD := hD0.self (sz := s.heap.size)
  generalize hAe : va_A (wd_R a cI cL cB cZ z S) s.heap.size = A at hD ⊢
  have hA : ∀ q : Nat, s.heap.size ≤ q → A q := fun q h => by rw [← hAe]; exact Or.inr h
  have hl := lv_entry ([.ref (a 0), .int (v1), .int (v2)]) (n := 5) (Nat.le_of_ble_eq_true rfl)
  rw [lg_entry_eq]
  generalize (lg_sl ([.ref (a 0), .int (v1), .int (v2)]) ++ List.replicate (5 - (lg_sl ([.ref (a 0), .int (v1), .int (v2)])).length) Slot.unset).toArray = ls at hl ⊢
  have hl : lv_has ls 5 [(0, .ref (a 0)), (1, .int (v1)), (2, .int (v2))] := hl
  refine zw_X11_prove_0 (A := A) ⟨B.exec, B.bytes, hml, hown, hts, hK, hA⟩ (fun H locs ls pc dg hP hD hS => ?_) v1 v2 S s.heap [] ls h hl hP hD va_S.rf
  exact W.iret B.exec B.bytes hr (fun t ht hW => ⟨⟨_, _, rfl, ⟨rfl, rfl⟩, by rw [ht]; exact hP, va_K.moved hW.alike hK, hD⟩, hS.F ht⟩) hS.2.2 dg
theorem zt_X11_prove_c : zc_X11_prove ∈ mq_T := mq_T_mem (mq_t7 (List.mem_of_getElem? (i := 49) rfl)) rfl
theorem zt_X11_prove_i : Cond.instanceMethod yX11_prove ∈ mq_T := mq_T_mem (mq_t7 (List.mem_of_getElem? (i := 47) rfl)) rfl
theorem zt_X11_prove_s : Cond.selects RX11 yX11_prove yX11_prove ∈ mq_T := mq_T_mem (mq_t7 (List.mem_of_getElem? (i := 48) rfl)) rfl
/-! ModalDeskModel.count(I)I -/
def zr_X11_count : Room := { frames := 0, cells := 0, slots := 0, locals := 0 }
def zc_X11_count : Cond := .code yX11_count cX11_count 2 (some .int)
def zf_X11_count (N : Nat) (z : Nat → Nat) (v1 : Int32) (S : mq_St) : Option (Int32 × mq_St) := (mq_nS (mq_si S 0 ((0 : Int32))) (fun S1 => (if v1 = (0 : Int32) then (some ((S1.1 19), S1)) else (if v1 = (1 : Int32) then (some ((S1.1 20), S1)) else (if v1 = (2 : Int32) then (some ((S1.1 21), S1)) else (if v1 = (3 : Int32) then (some ((S1.1 22), S1)) else (some ((-1 : Int32), S1))))))))
set_option maxHeartbeats 4000000 in
set_option maxRecDepth 100000 in
theorem zw_X11_count_0 {p : Program} {l : Launch} {e : Env} {s : State} {m : MethodId} {args : Array Value} {below : List Frame} {meth : Method} {c : Code} {A : Nat → Prop} {D : va_G} {a z : Nat → Nat} {cI cL cB cZ : ClassId} {Q : State → Prop} {N : Nat} {res : Int32 × mq_St} (C : mq_C p s m args c A D cI cL cB cZ cX11_count 2 RX11 zc_X11_count) (hret : ∀ (H : Heap) (locs : List Loc) (ls : Array Slot) (pc : Nat), decode cX11_count pc = .ok (.ireturn, 1) → va_P D vwCl (wd_R a cI cL cB cZ z res.2) H → va_D A (wd_R a cI cL cB cZ z res.2) → va_S A s.heap H locs → W p l e zr_X11_count s m args below meth c H locs 0 0 Q (F0 m pc ls [.int res.1])) (v1 : Int32) (S : mq_St) (H : Heap) (locs : List Loc) (ls : Array Slot) (h : zf_X11_count N z v1 S = some res) (hl : lv_has ls 2 [(0, .ref (a 0)), (1, .int (v1))]) (hP : va_P D vwCl (wd_R a cI cL cB cZ z S) H) (hD : va_D A (wd_R a cI cL cB cZ z S)) (hS : va_S A s.heap H locs) : W p l e zr_X11_count s m args below meth c H locs 0 0 Q (F0 m 0 ls []) := by
  obtain ⟨hx, hb, hml, hown, hts, hK, hA⟩ := id C
  unfold zf_X11_count at h
  refine lv_aload_n hx hb dX11_count_0 rfl (lv_at hl 0 rfl) ?_
  refine lv_iconst (v := (0 : Int32)) hx hb dX11_count_1 (by decide) ?_
  refine mq_put (w := wd_R a cI cL cB cZ z) (S := S) (D := D) (ci := 11) (v := (0 : Int32)) (ty := .int) (C := RX11) (T := TX11) (N := 76) hx hb hts (zi_X11 _) tyX11 tyX11_ok nmX11 hown hK hP hD hS 0 rfl rfl 0 (by decide) (hts _ (List.mem_cons_of_mem _ zt_f_X11_151)) (fun _ h9 => h9) rfl (by decide +kernel) rfl rfl (Nat.le_of_ble_eq_true rfl) dX11_count_2 0 (zs_wd_R_i_0_0 _ _ _ _ _ _ _ _) (fun S1 eS1 H locs hP hD hS => ?_)
  replace h := mq_nS_go eS1 h
  refine lv_iload_n hx hb dX11_count_5 rfl (lv_at hl 1 rfl) ?_
  refine lv_if_ne (tgt := 16) hx hb dX11_count_6 (by decide) (fun c5 => ?_) (fun c5 => ?_)
  · replace h := mq_if c5 h
    refine lv_iload_n hx hb dX11_count_16 rfl (lv_at hl 1 rfl) ?_
    refine lv_iconst (v := (1 : Int32)) hx hb dX11_count_17 (by decide) ?_
    refine lv_icmp_ne (tgt := 28) hx hb dX11_count_18 (by decide) (fun c4 => ?_) (fun c4 => ?_)
    · replace h := mq_if c4 h
      refine lv_iload_n hx hb dX11_count_28 rfl (lv_at hl 1 rfl) ?_
      refine lv_iconst (v := (2 : Int32)) hx hb dX11_count_29 (by decide) ?_
      refine lv_icmp_ne (tgt := 40) hx hb dX11_count_30 (by decide) (fun c3 => ?_) (fun c3 => ?_)
      · replace h := mq_if c3 h
        refine lv_iload_n hx hb dX11_count_40 rfl (lv_at hl 1 rfl) ?_
        refine lv_iconst (v := (3 : Int32)) hx hb dX11_count_41 (by decide) ?_
        refine lv_icmp_ne (tgt := 52) hx hb dX11_count_42 (by decide) (fun c2 => ?_) (fun c2 => ?_)
        · replace h := mq_if c2 h
          refine lv_iconst (v := (-1 : Int32)) hx hb dX11_count_52 (by decide) ?_
          cases h
          exact hret H locs ls 53 dX11_count_53 hP hD hS
        · replace h := mq_it (by simpa using c2) h
          refine lv_aload_n hx hb dX11_count_45 rfl (lv_at hl 0 rfl) ?_
          refine va_get (D := D) (ci := 11) (v := .int ((S1.1 22))) (C := RX11) (T := TX11) (N := 76) hx hb hts (zi_X11 _) hown hK hP 0 rfl rfl 40 (by decide) (hts _ (List.mem_cons_of_mem _ zt_f_X11_308)) (fun _ h9 => h9) rfl dX11_count_46 ?_
          refine lv_goto (tgt := 53) hx hb dX11_count_49 (by decide) ?_
          cases h
          exact hret H locs ls 53 dX11_count_53 hP hD hS
      · replace h := mq_it (by simpa using c3) h
        refine lv_aload_n hx hb dX11_count_33 rfl (lv_at hl 0 rfl) ?_
        refine va_get (D := D) (ci := 11) (v := .int ((S1.1 21))) (C := RX11) (T := TX11) (N := 76) hx hb hts (zi_X11 _) hown hK hP 0 rfl rfl 39 (by decide) (hts _ (List.mem_cons_of_mem _ zt_f_X11_353)) (fun _ h9 => h9) rfl dX11_count_34 ?_
        refine lv_goto (tgt := 53) hx hb dX11_count_37 (by decide) ?_
        cases h
        exact hret H locs ls 53 dX11_count_53 hP hD hS
    · replace h := mq_it (by simpa using c4) h
      refine lv_aload_n hx hb dX11_count_21 rfl (lv_at hl 0 rfl) ?_
      refine va_get (D := D) (ci := 11) (v := .int ((S1.1 20))) (C := RX11) (T := TX11) (N := 76) hx hb hts (zi_X11 _) hown hK hP 0 rfl rfl 38 (by decide) (hts _ (List.mem_cons_of_mem _ zt_f_X11_305)) (fun _ h9 => h9) rfl dX11_count_22 ?_
      refine lv_goto (tgt := 53) hx hb dX11_count_25 (by decide) ?_
      cases h
      exact hret H locs ls 53 dX11_count_53 hP hD hS
  · replace h := mq_it (by simpa using c5) h
    refine lv_aload_n hx hb dX11_count_9 rfl (lv_at hl 0 rfl) ?_
    refine va_get (D := D) (ci := 11) (v := .int ((S1.1 19))) (C := RX11) (T := TX11) (N := 76) hx hb hts (zi_X11 _) hown hK hP 0 rfl rfl 37 (by decide) (hts _ (List.mem_cons_of_mem _ zt_f_X11_280)) (fun _ h9 => h9) rfl dX11_count_10 ?_
    refine lv_goto (tgt := 53) hx hb dX11_count_13 (by decide) ?_
    cases h
    exact hret H locs ls 53 dX11_count_53 hP hD hS
set_option maxHeartbeats 4000000 in
set_option maxRecDepth 100000 in
theorem zm_X11_count (l : Launch) (D : va_G) (a z : Nat → Nat) (cI cL cB cZ : ClassId) (sz N : Nat) (v1 : Int32) (S : mq_St) (res : Int32 × mq_St) (h : zf_X11_count N z v1 S = some res) : Met l yX11_count (zc_X11_count :: mq_T) zr_X11_count (va_Pc [.ref (a 0), .int (v1)] (fun U => U.heap.size = sz ∧ va_P D vwCl (wd_R a cI cL cB cZ z S) U.heap ∧ va_K D vwCl (mq_tys cI cL cB cZ) U ∧ va_D (fun _ => True) (wd_R a cI cL cB cZ z S))) (va_Qi (fun (r : Int32) (u : mq_St) => r = res.1 ∧ u = res.2) (fun u t => va_P D vwCl (wd_R a cI cL cB cZ z u) t.heap ∧ va_K D vwCl (mq_tys cI cL cB cZ) t ∧ va_D (va_A (wd_R a cI cL cB cZ z S) sz) (wd_R a cI cL cB cZ z u)) (va_A (wd_R a cI cL cB cZ z S) sz)) 0 0 (va_A (wd_R a cI cL cB cZ z S) sz) := by
  refine Met.ofW (cc := cX11_count) (maxL := 2) (ret := (some .int)) (by decide) rfl ?_
  intro p e s m args below meth c s₁ B hml hv
  obtain ⟨rfl, hsz, hP, hK, hD0⟩ := hv
  have hr := B.returns
  have hlocks := B.notSynchronized
  have hts := atoms_spec (ws := zc_X11_count :: mq_T) B.pre
  have hown : s.vm.findClass RX11 = some m.cls := findClass_of_methodNamed B.named
  subst hsz
  have hD := hD0.self (sz := s.heap.size)
  generalize hAe : va_A (wd_R a cI cL cB cZ z S) s.heap.size = A at hD ⊢
  have hA : ∀ q : Nat, s.heap.size ≤ q → A q := fun q h => by rw [← hAe]; exact Or.inr h
  have hl := lv_entry ([.ref (a 0), .int (v1)]) (n := 2) (Nat.le_of_ble_eq_true rfl)
  rw [lg_entry_eq]
  generalize (lg_sl ([.ref (a 0), .int (v1)]) ++ List.replicate (2 - (lg_sl ([.ref (a 0), .int (v1)])).length) Slot.unset).toArray = ls at hl ⊢
  have hl : lv_has ls 2 [(0, .ref (a 0)), (1, .int (v1))] := hl
  refine zw_X11_count_0 (A := A) ⟨B.exec, B.bytes, hml, hown, hts, hK, hA⟩ (fun H locs ls pc dg hP hD hS => ?_) v1 S s.heap [] ls h hl hP hD va_S.rf
  exact W.iret B.exec B.bytes hr (fun t ht hW => ⟨⟨_, _, rfl, ⟨rfl, rfl⟩, by rw [ht]; exact hP, va_K.moved hW.alike hK, hD⟩, hS.F ht⟩) hS.2.2 dg
theorem zt_X11_count_c : zc_X11_count ∈ mq_T := mq_T_mem (mq_t7 (List.mem_of_getElem? (i := 135) rfl)) rfl
theorem zt_X11_count_i : Cond.instanceMethod yX11_count ∈ mq_T := mq_T_mem (mq_t7 (List.mem_of_getElem? (i := 133) rfl)) rfl
theorem zt_X11_count_s : Cond.selects RX11 yX11_count yX11_count ∈ mq_T := mq_T_mem (mq_t7 (List.mem_of_getElem? (i := 134) rfl)) rfl
/-! ModalDeskModel.proof()I -/
def zr_X11_proof : Room := { frames := 0, cells := 0, slots := 0, locals := 0 }
def zc_X11_proof : Cond := .code yX11_proof cX11_proof 2 (some .int)
def zf_X11_proof_16b (N : Nat) (z : Nat → Nat) (k16 : Int32 → mq_St → Option (Int32 × mq_St)) (v1 : Int32) (S : mq_St) : Option (Int32 × mq_St) := (if (S.1 30) ≤ v1 then (mq_nS (mq_si S 2 (((3 : Int32) * (S.1 30)))) (fun S4 => (some ((S4.1 2), S4)))) else (mq_ck (v1) 1300 (mq_ck (((3 : Int32) * v1)) 4000 (mq_nS (mq_sa S 1 (upd (S.2.1 1) (((3 : Int32) * v1)).toNatClampNeg (vp_nar .byte ((((S.2.1 32 (v1).toNatClampNeg)).toInt8.toInt32))))) (fun S7 => (mq_ck (v1) 1300 (mq_ck ((((3 : Int32) * v1) + (1 : Int32))) 4000 (mq_nS (mq_sa S7 1 (upd (S7.2.1 1) ((((3 : Int32) * v1) + (1 : Int32))).toNatClampNeg (vp_nar .byte (((((S7.2.1 33 (v1).toNatClampNeg) >>> ((8 : Int32) &&& (31 : Int32)))).toInt8.toInt32))))) (fun S10 => (mq_ck (v1) 1300 (mq_ck ((((3 : Int32) * v1) + (2 : Int32))) 4000 (mq_nS (mq_sa S10 1 (upd (S10.2.1 1) ((((3 : Int32) * v1) + (2 : Int32))).toNatClampNeg (vp_nar .byte ((((S10.2.1 33 (v1).toNatClampNeg)).toInt8.toInt32))))) (fun S13 => (mq_nI (v1 + (1 : Int32)) (fun x14 => (k16 (x14) S13))))))))))))))))
def zf_X11_proof_16 (N : Nat) (z : Nat → Nat) : Nat → Int32 → mq_St → Option (Int32 × mq_St)
  | 0, _, _ => none
  | n + 1, v1, S => zf_X11_proof_16b N z (fun v1 S => zf_X11_proof_16 N z n v1 S) v1 S
def zf_X11_proof (N : Nat) (z : Nat → Nat) (S : mq_St) : Option (Int32 × mq_St) := (mq_nS (mq_si S 0 ((0 : Int32))) (fun S1 => (if (S1.1 29) = (0 : Int32) then (some ((-1 : Int32), S1)) else (mq_nI ((0 : Int32)) (fun x2 => (zf_X11_proof_16 N z N (x2) S1))))))
set_option maxHeartbeats 4000000 in
set_option maxRecDepth 100000 in
theorem zw_X11_proof_16b {p : Program} {l : Launch} {e : Env} {s : State} {m : MethodId} {args : Array Value} {below : List Frame} {meth : Method} {c : Code} {A : Nat → Prop} {D : va_G} {a z : Nat → Nat} {cI cL cB cZ : ClassId} {Q : State → Prop} {N : Nat} {res : Int32 × mq_St} {k16 : Int32 → mq_St → Option (Int32 × mq_St)} (C : mq_C p s m args c A D cI cL cB cZ cX11_proof 2 RX11 zc_X11_proof) (hret : ∀ (H : Heap) (locs : List Loc) (ls : Array Slot) (pc : Nat), decode cX11_proof pc = .ok (.ireturn, 1) → va_P D vwCl (wd_R a cI cL cB cZ z res.2) H → va_D A (wd_R a cI cL cB cZ z res.2) → va_S A s.heap H locs → W p l e zr_X11_proof s m args below meth c H locs 0 0 Q (F0 m pc ls [.int res.1])) (hk16 : ∀ (v1 : Int32) (S : mq_St) (H : Heap) (locs : List Loc) (ls : Array Slot), k16 v1 S = some res → lv_has ls 2 [(0, .ref (a 0)), (1, .int (v1))] → va_P D vwCl (wd_R a cI cL cB cZ z S) H → va_D A (wd_R a cI cL cB cZ z S) → va_S A s.heap H locs → W p l e zr_X11_proof s m args below meth c H locs 0 0 Q (F0 m 16 ls [])) (v1 : Int32) (S : mq_St) (H : Heap) (locs : List Loc) (ls : Array Slot) (h : zf_X11_proof_16b N z k16 v1 S = some res) (hl : lv_has ls 2 [(0, .ref (a 0)), (1, .int (v1))]) (hP : va_P D vwCl (wd_R a cI cL cB cZ z S) H) (hD : va_D A (wd_R a cI cL cB cZ z S)) (hS : va_S A s.heap H locs) : W p l e zr_X11_proof s m args below meth c H locs 0 0 Q (F0 m 16 ls []) := by
  obtain ⟨hx, hb, hml, hown, hts, hK, hA⟩ := id C
  unfold zf_X11_proof_16b at h
  refine lv_iload_n hx hb dX11_proof_16 rfl (lv_at hl 1 rfl) ?_
  refine lv_aload_n hx hb dX11_proof_17 rfl (lv_at hl 0 rfl) ?_
  refine va_get (D := D) (ci := 11) (v := .int ((S.1 30))) (C := RX11) (T := TX11) (N := 76) hx hb hts (zi_X11 _) hown hK hP 0 rfl rfl 62 (by decide) (hts _ (List.mem_cons_of_mem _ zt_f_X11_378)) (fun _ h9 => h9) rfl dX11_proof_18 ?_
  refine lv_icmp_ge (tgt := 82) hx hb dX11_proof_21 (by decide) (fun c15 => ?_) (fun c15 => ?_)
  · replace h := mq_it c15 h
    refine lv_aload_n hx hb dX11_proof_82 rfl (lv_at hl 0 rfl) ?_
    refine lv_iconst (v := (3 : Int32)) hx hb dX11_proof_83 (by decide) ?_
    refine lv_aload_n hx hb dX11_proof_84 rfl (lv_at hl 0 rfl) ?_
    refine va_get (D := D) (ci := 11) (v := .int ((S.1 30))) (C := RX11) (T := TX11) (N := 76) hx hb hts (zi_X11 _) hown hK hP 0 rfl rfl 62 (by decide) (hts _ (List.mem_cons_of_mem _ zt_f_X11_378)) (fun _ h9 => h9) rfl dX11_proof_85 ?_
    refine lv_imul hx hb dX11_proof_88 ?_
    refine mq_put (w := wd_R a cI cL cB cZ z) (S := S) (D := D) (ci := 11) (v := ((3 : Int32) * (S.1 30))) (ty := .int) (C := RX11) (T := TX11) (N := 76) hx hb hts (zi_X11 _) tyX11 tyX11_ok nmX11 hown hK hP hD hS 0 rfl rfl 4 (by decide) (hts _ (List.mem_cons_of_mem _ zt_f_X11_165)) (fun _ h9 => h9) rfl (by decide +kernel) rfl rfl (Nat.le_of_ble_eq_true rfl) dX11_proof_89 2 (zs_wd_R_i_0_2 _ _ _ _ _ _ _ _) (fun S4 eS4 H locs hP hD hS => ?_)
    replace h := mq_nS_go eS4 h
    refine lv_aload_n hx hb dX11_proof_92 rfl (lv_at hl 0 rfl) ?_
    refine va_get (D := D) (ci := 11) (v := .int ((S4.1 2))) (C := RX11) (T := TX11) (N := 76) hx hb hts (zi_X11 _) hown hK hP 0 rfl rfl 4 (by decide) (hts _ (List.mem_cons_of_mem _ zt_f_X11_165)) (fun _ h9 => h9) rfl dX11_proof_93 ?_
    cases h
    exact hret H locs ls 96 dX11_proof_96 hP hD hS
  · replace h := mq_if c15 h
    refine lv_aload_n hx hb dX11_proof_24 rfl (lv_at hl 0 rfl) ?_
    refine va_get (D := D) (ci := 11) (v := .ref (a 2)) (C := RX11) (T := TX11) (N := 76) hx hb hts (zi_X11 _) hown hK hP 0 rfl rfl 3 (by decide) (hts _ (List.mem_cons_of_mem _ zt_f_X11_13)) (fun _ h9 => h9) rfl dX11_proof_25 ?_
    refine lv_iconst (v := (3 : Int32)) hx hb dX11_proof_28 (by decide) ?_
    refine lv_iload_n hx hb dX11_proof_29 rfl (lv_at hl 1 rfl) ?_
    refine lv_imul hx hb dX11_proof_30 ?_
    refine lv_aload_n hx hb dX11_proof_31 rfl (lv_at hl 0 rfl) ?_
    refine va_get (D := D) (ci := 11) (v := .ref (a 33)) (C := RX11) (T := TX11) (N := 76) hx hb hts (zi_X11 _) hown hK hP 0 rfl rfl 63 (by decide) (hts _ (List.mem_cons_of_mem _ zt_f_X11_115)) (fun _ h9 => h9) rfl dX11_proof_32 ?_
    refine lv_iload_n hx hb dX11_proof_35 rfl (lv_at hl 1 rfl) ?_
    have hi5 := mq_ck_in h
    replace h := mq_ck_go h
    refine va_iald (f := S.2.1 32) hx hb hK hP 33 0 rfl rfl hi5 dX11_proof_36 ?_
    refine lv_i2b (v := ((S.2.1 32 (v1).toNatClampNeg)).toInt8.toInt32) hx hb dX11_proof_37 rfl ?_
    have hi6 := mq_ck_in h
    replace h := mq_ck_go h
    refine mq_bast (w := wd_R a cI cL cB cZ z) (S := S) (f := S.2.1 1) hx hb hK hP hD hS 2 2 rfl rfl hi6 dX11_proof_38 1 (zs_wd_R_a_2_1 _ _ _ _ _ _ _ _) (fun S7 eS7 H locs hP hD hS => ?_)
    replace h := mq_nS_go eS7 h
    refine lv_aload_n hx hb dX11_proof_39 rfl (lv_at hl 0 rfl) ?_
    refine va_get (D := D) (ci := 11) (v := .ref (a 2)) (C := RX11) (T := TX11) (N := 76) hx hb hts (zi_X11 _) hown hK hP 0 rfl rfl 3 (by decide) (hts _ (List.mem_cons_of_mem _ zt_f_X11_13)) (fun _ h9 => h9) rfl dX11_proof_40 ?_
    refine lv_iconst (v := (3 : Int32)) hx hb dX11_proof_43 (by decide) ?_
    refine lv_iload_n hx hb dX11_proof_44 rfl (lv_at hl 1 rfl) ?_
    refine lv_imul hx hb dX11_proof_45 ?_
    refine lv_iconst (v := (1 : Int32)) hx hb dX11_proof_46 (by decide) ?_
    refine lv_iadd hx hb dX11_proof_47 ?_
    refine lv_aload_n hx hb dX11_proof_48 rfl (lv_at hl 0 rfl) ?_
    refine va_get (D := D) (ci := 11) (v := .ref (a 34)) (C := RX11) (T := TX11) (N := 76) hx hb hts (zi_X11 _) hown hK hP 0 rfl rfl 64 (by decide) (hts _ (List.mem_cons_of_mem _ zt_f_X11_118)) (fun _ h9 => h9) rfl dX11_proof_49 ?_
    refine lv_iload_n hx hb dX11_proof_52 rfl (lv_at hl 1 rfl) ?_
    have hi8 := mq_ck_in h
    replace h := mq_ck_go h
    refine va_iald (f := S7.2.1 33) hx hb hK hP 34 0 rfl rfl hi8 dX11_proof_53 ?_
    refine lv_bipush (v := (8 : Int32)) hx hb dX11_proof_54 (by decide) ?_
    refine lv_ishr hx hb dX11_proof_56 ?_
    refine lv_i2b (v := (((S7.2.1 33 (v1).toNatClampNeg) >>> ((8 : Int32) &&& (31 : Int32)))).toInt8.toInt32) hx hb dX11_proof_57 rfl ?_
    have hi9 := mq_ck_in h
    replace h := mq_ck_go h
    refine mq_bast (w := wd_R a cI cL cB cZ z) (S := S7) (f := S7.2.1 1) hx hb hK hP hD hS 2 2 rfl rfl hi9 dX11_proof_58 1 (zs_wd_R_a_2_1 _ _ _ _ _ _ _ _) (fun S10 eS10 H locs hP hD hS => ?_)
    replace h := mq_nS_go eS10 h
    refine lv_aload_n hx hb dX11_proof_59 rfl (lv_at hl 0 rfl) ?_
    refine va_get (D := D) (ci := 11) (v := .ref (a 2)) (C := RX11) (T := TX11) (N := 76) hx hb hts (zi_X11 _) hown hK hP 0 rfl rfl 3 (by decide) (hts _ (List.mem_cons_of_mem _ zt_f_X11_13)) (fun _ h9 => h9) rfl dX11_proof_60 ?_
    refine lv_iconst (v := (3 : Int32)) hx hb dX11_proof_63 (by decide) ?_
    refine lv_iload_n hx hb dX11_proof_64 rfl (lv_at hl 1 rfl) ?_
    refine lv_imul hx hb dX11_proof_65 ?_
    refine lv_iconst (v := (2 : Int32)) hx hb dX11_proof_66 (by decide) ?_
    refine lv_iadd hx hb dX11_proof_67 ?_
    refine lv_aload_n hx hb dX11_proof_68 rfl (lv_at hl 0 rfl) ?_
    refine va_get (D := D) (ci := 11) (v := .ref (a 34)) (C := RX11) (T := TX11) (N := 76) hx hb hts (zi_X11 _) hown hK hP 0 rfl rfl 64 (by decide) (hts _ (List.mem_cons_of_mem _ zt_f_X11_118)) (fun _ h9 => h9) rfl dX11_proof_69 ?_
    refine lv_iload_n hx hb dX11_proof_72 rfl (lv_at hl 1 rfl) ?_
    have hi11 := mq_ck_in h
    replace h := mq_ck_go h
    refine va_iald (f := S10.2.1 33) hx hb hK hP 34 0 rfl rfl hi11 dX11_proof_73 ?_
    refine lv_i2b (v := ((S10.2.1 33 (v1).toNatClampNeg)).toInt8.toInt32) hx hb dX11_proof_74 rfl ?_
    have hi12 := mq_ck_in h
    replace h := mq_ck_go h
    refine mq_bast (w := wd_R a cI cL cB cZ z) (S := S10) (f := S10.2.1 1) hx hb hK hP hD hS 2 2 rfl rfl hi12 dX11_proof_75 1 (zs_wd_R_a_2_1 _ _ _ _ _ _ _ _) (fun S13 eS13 H locs hP hD hS => ?_)
    replace h := mq_nS_go eS13 h
    obtain ⟨x14, ex14⟩ : ∃ y : Int32, y = v1 + (1 : Int32) := ⟨_, rfl⟩
    replace h := mq_nI_go ex14 h
    refine lv_iinc (v := x14) (lv' := [(1, .int (x14)), (0, .ref (a 0))]) hx hb dX11_proof_76 hl (k := 1) rfl (by rw [ex14]; rfl) (by decide) rfl (fun ls hl => ?_)
    refine lv_goto (tgt := 16) hx hb dX11_proof_79 (by decide) ?_
    exact hk16 (x14) S13 H locs ls h (lv_sub hl [1, 0] rfl) hP hD hS
set_option maxHeartbeats 4000000 in
set_option maxRecDepth 100000 in
theorem zw_X11_proof_16 {p : Program} {l : Launch} {e : Env} {s : State} {m : MethodId} {args : Array Value} {below : List Frame} {meth : Method} {c : Code} {A : Nat → Prop} {D : va_G} {a z : Nat → Nat} {cI cL cB cZ : ClassId} {Q : State → Prop} {N : Nat} {res : Int32 × mq_St} (C : mq_C p s m args c A D cI cL cB cZ cX11_proof 2 RX11 zc_X11_proof) (hret : ∀ (H : Heap) (locs : List Loc) (ls : Array Slot) (pc : Nat), decode cX11_proof pc = .ok (.ireturn, 1) → va_P D vwCl (wd_R a cI cL cB cZ z res.2) H → va_D A (wd_R a cI cL cB cZ z res.2) → va_S A s.heap H locs → W p l e zr_X11_proof s m args below meth c H locs 0 0 Q (F0 m pc ls [.int res.1])) : ∀ (n : Nat) (v1 : Int32) (S : mq_St) (H : Heap) (locs : List Loc) (ls : Array Slot) (h : zf_X11_proof_16 N z n v1 S = some res) (hl : lv_has ls 2 [(0, .ref (a 0)), (1, .int (v1))]) (hP : va_P D vwCl (wd_R a cI cL cB cZ z S) H) (hD : va_D A (wd_R a cI cL cB cZ z S)) (hS : va_S A s.heap H locs), W p l e zr_X11_proof s m args below meth c H locs 0 0 Q (F0 m 16 ls []) := by
  intro n
  induction n with
  | zero =>
    intro v1 S H locs ls h hl hP hD hS
    exact nomatch (show (none : Option (Int32 × mq_St)) = some res from h)
  | succ n ih =>
    intro v1 S H locs ls h hl hP hD hS
    exact zw_X11_proof_16b C hret (fun v1 S H locs ls h hl hP hD hS => ih v1 S H locs ls h hl hP hD hS) v1 S H locs ls h hl hP hD hS
set_option maxHeartbeats 4000000 in
set_option maxRecDepth 100000 in
theorem zw_X11_proof_0 {p : Program} {l : Launch} {e : Env} {s : State} {m : MethodId} {args : Array Value} {below : List Frame} {meth : Method} {c : Code} {A : Nat → Prop} {D : va_G} {a z : Nat → Nat} {cI cL cB cZ : ClassId} {Q : State → Prop} {N : Nat} {res : Int32 × mq_St} (C : mq_C p s m args c A D cI cL cB cZ cX11_proof 2 RX11 zc_X11_proof) (hret : ∀ (H : Heap) (locs : List Loc) (ls : Array Slot) (pc : Nat), decode cX11_proof pc = .ok (.ireturn, 1) → va_P D vwCl (wd_R a cI cL cB cZ z res.2) H → va_D A (wd_R a cI cL cB cZ z res.2) → va_S A s.heap H locs → W p l e zr_X11_proof s m args below meth c H locs 0 0 Q (F0 m pc ls [.int res.1])) (S : mq_St) (H : Heap) (locs : List Loc) (ls : Array Slot) (h : zf_X11_proof N z S = some res) (hl : lv_has ls 2 [(0, .ref (a 0))]) (hP : va_P D vwCl (wd_R a cI cL cB cZ z S) H) (hD : va_D A (wd_R a cI cL cB cZ z S)) (hS : va_S A s.heap H locs) : W p l e zr_X11_proof s m args below meth c H locs 0 0 Q (F0 m 0 ls []) := by
  obtain ⟨hx, hb, hml, hown, hts, hK, hA⟩ := id C
  unfold zf_X11_proof at h
  refine lv_aload_n hx hb dX11_proof_0 rfl (lv_at hl 0 rfl) ?_
  refine lv_iconst (v := (0 : Int32)) hx hb dX11_proof_1 (by decide) ?_
  refine mq_put (w := wd_R a cI cL cB cZ z) (S := S) (D := D) (ci := 11) (v := (0 : Int32)) (ty := .int) (C := RX11) (T := TX11) (N := 76) hx hb hts (zi_X11 _) tyX11 tyX11_ok nmX11 hown hK hP hD hS 0 rfl rfl 0 (by decide) (hts _ (List.mem_cons_of_mem _ zt_f_X11_151)) (fun _ h9 => h9) rfl (by decide +kernel) rfl rfl (Nat.le_of_ble_eq_true rfl) dX11_proof_2 0 (zs_wd_R_i_0_0 _ _ _ _ _ _ _ _) (fun S1 eS1 H locs hP hD hS => ?_)
  replace h := mq_nS_go eS1 h
  refine lv_aload_n hx hb dX11_proof_5 rfl (lv_at hl 0 rfl) ?_
  refine va_get (D := D) (ci := 11) (v := .int ((S1.1 29))) (C := RX11) (T := TX11) (N := 76) hx hb hts (zi_X11 _) hown hK hP 0 rfl rfl 61 (by decide) (hts _ (List.mem_cons_of_mem _ zt_f_X11_372)) (fun _ h9 => h9) rfl dX11_proof_6 ?_
  refine lv_if_ne (tgt := 14) hx hb dX11_proof_9 (by decide) (fun c3 => ?_) (fun c3 => ?_)
  · replace h := mq_if c3 h
    refine lv_iconst (v := (0 : Int32)) hx hb dX11_proof_14 (by decide) ?_
    refine lv_topi (fun x2 ex2 => ?_)
    replace h := mq_nI_go ex2 h
    refine lv_istore_n (lv' := [(1, .int (x2)), (0, .ref (a 0))]) hx hb dX11_proof_15 rfl hl (by decide) rfl (fun ls hl => ?_)
    exact zw_X11_proof_16 C hret N (x2) S1 H locs ls h (lv_sub hl [1, 0] rfl) hP hD hS
  · replace h := mq_it (by simpa using c3) h
    refine lv_iconst (v := (-1 : Int32)) hx hb dX11_proof_12 (by decide) ?_
    cases h
    exact hret H locs ls 13 dX11_proof_13 hP hD hS
set_option maxHeartbeats 4000000 in
set_option maxRecDepth 100000 in
theorem zm_X11_proof (l : Launch) (D : va_G) (a z : Nat → Nat) (cI cL cB cZ : ClassId) (sz N : Nat) (S : mq_St) (res : Int32 × mq_St) (h : zf_X11_proof N z S = some res) : Met l yX11_proof (zc_X11_proof :: mq_T) zr_X11_proof (va_Pc [.ref (a 0)] (fun U => U.heap.size = sz ∧ va_P D vwCl (wd_R a cI cL cB cZ z S) U.heap ∧ va_K D vwCl (mq_tys cI cL cB cZ) U ∧ va_D (fun _ => True) (wd_R a cI cL cB cZ z S))) (va_Qi (fun (r : Int32) (u : mq_St) => r = res.1 ∧ u = res.2) (fun u t => va_P D vwCl (wd_R a cI cL cB cZ z u) t.heap ∧ va_K D vwCl (mq_tys cI cL cB cZ) t ∧ va_D (va_A (wd_R a cI cL cB cZ z S) sz) (wd_R a cI cL cB cZ z u)) (va_A (wd_R a cI cL cB cZ z S) sz)) 0 0 (va_A (wd_R a cI cL cB cZ z S) sz) := by
  refine Met.ofW (cc := cX11_proof) (maxL := 2) (ret := (some .int)) (by decide) rfl ?_
  intro p e s m args below meth c s₁ B hml hv
  obtain ⟨rfl, hsz, hP, hK, hD0⟩ := hv
  have hr := B.returns
  have hlocks := B.notSynchronized
  have hts := atoms_spec (ws := zc_X11_proof :: mq_T) B.pre
  have hown : s.vm.findClass RX11 = some m.cls := findClass_of_methodNamed B.named
  subst hsz
  have hD := hD0.self (sz := s.heap.size)
  generalize hAe : va_A (wd_R a cI cL cB cZ z S) s.heap.size = A at hD ⊢
  have hA : ∀ q : Nat, s.heap.size ≤ q → A q := fun q h => by rw [← hAe]; exact Or.inr h
  have hl := lv_entry ([.ref (a 0)]) (n := 2) (Nat.le_of_ble_eq_true rfl)
  rw [lg_entry_eq]
  generalize (lg_sl ([.ref (a 0)]) ++ List.replicate (2 - (lg_sl ([.ref (a 0)])).length) Slot.unset).toArray = ls at hl ⊢
  have hl : lv_has ls 2 [(0, .ref (a 0))] := hl
  refine zw_X11_proof_0 (A := A) ⟨B.exec, B.bytes, hml, hown, hts, hK, hA⟩ (fun H locs ls pc dg hP hD hS => ?_) S s.heap [] ls h hl hP hD va_S.rf
  exact W.iret B.exec B.bytes hr (fun t ht hW => ⟨⟨_, _, rfl, ⟨rfl, rfl⟩, by rw [ht]; exact hP, va_K.moved hW.alike hK, hD⟩, hS.F ht⟩) hS.2.2 dg
theorem zt_X11_proof_c : zc_X11_proof ∈ mq_T := mq_T_mem (mq_t7 (List.mem_of_getElem? (i := 139) rfl)) rfl
theorem zt_X11_proof_i : Cond.instanceMethod yX11_proof ∈ mq_T := mq_T_mem (mq_t7 (List.mem_of_getElem? (i := 137) rfl)) rfl
theorem zt_X11_proof_s : Cond.selects RX11 yX11_proof yX11_proof ∈ mq_T := mq_T_mem (mq_t7 (List.mem_of_getElem? (i := 138) rfl)) rfl
theorem zt_f_X11_130 : Cond.fieldLink RX11 130 "ModalDeskModel" "owed" "[I" ∈ mq_T := mq_T_mem (mq_t5 (List.mem_of_getElem? (i := 234) rfl)) rfl
theorem zx_wd_R_wd_A2_38_18 (a z : Nat → Nat) (cI cL cB cZ : ClassId) (S X : mq_St) : mq_setM (wd_R a cI cL cB cZ z S) [38, 18] (wd_A2 (mq_ad a [38, 18]) cI cL cB cZ (fun k => [13340, 10].getD k 0) X) = (wd_R a cI cL cB cZ z (mq_push S X [] [37, 17] [])) := rfl
theorem zx_wd_R_wd_A2_18_38 (a z : Nat → Nat) (cI cL cB cZ : ClassId) (S X : mq_St) : mq_setM (wd_R a cI cL cB cZ z S) [18, 38] (wd_A2 (mq_ad a [18, 38]) cI cL cB cZ (fun k => [10, 13340].getD k 0) X) = (wd_R a cI cL cB cZ z (mq_push S X [] [17, 37] [])) := rfl
theorem zx_wd_R_wd_A1_38 (a z : Nat → Nat) (cI cL cB cZ : ClassId) (S X : mq_St) : mq_setM (wd_R a cI cL cB cZ z S) [38] (wd_A1 (mq_ad a [38]) cI cL cB cZ (fun k => [13340].getD k 0) X) = (wd_R a cI cL cB cZ z (mq_push S X [] [37] [])) := rfl
/-! ModalDeskModel.verify(I)I -/
def zr_X11_verify : Room := { frames := 2, cells := 0, slots := 0, locals := 44 }
def zc_X11_verify : Cond := .code yX11_verify cX11_verify 8 (some .int)
def zf_X11_verify_401 (N : Nat) (z : Nat → Nat) (k88 : Int32 → Int32 → Int32 → Int32 → mq_St → Option (Int32 × mq_St)) (v2 : Int32) (v3 : Int32) (v4 : Int32) (v5 : Int32) (S : mq_St) : Option (Int32 × mq_St) := (mq_nI (v5 + (3 : Int32)) (fun x57 => (k88 (v2) (v3) (v4) (x57) S)))
def zf_X11_verify_210 (N : Nat) (z : Nat → Nat) (k88 : Int32 → Int32 → Int32 → Int32 → mq_St → Option (Int32 × mq_St)) (v2 : Int32) (v3 : Int32) (v5 : Int32) (t0 : Int32) (S : mq_St) : Option (Int32 × mq_St) := (mq_nI (t0) (fun x51 => (if x51 = (0 : Int32) then (zf_X11_verify_401 N z k88 (v2) (v3) (x51) (v5) S) else (mq_nI (v3 + (-1 : Int32)) (fun x52 => (mq_cl (zf_X11_copy N (fun k => [13340, 10].getD k 0) (((10 : Int32) * x52)) ((0 : Int32)) (mq_pull S [] [37, 17] [])) (fun q53v q53s => mq_nS (mq_push S q53s [] [37, 17] []) (fun S55 => (zf_X11_verify_401 N z k88 (v2) (x52) (x51) (v5) S55)))))))))
def zf_X11_verify_201 (N : Nat) (z : Nat → Nat) (k88 : Int32 → Int32 → Int32 → Int32 → mq_St → Option (Int32 × mq_St)) (v2 : Int32) (v3 : Int32) (v5 : Int32) (S : mq_St) : Option (Int32 × mq_St) := (if v3 ≤ (0 : Int32) then (zf_X11_verify_210 N z k88 (v2) (v3) (v5) ((0 : Int32)) S) else (zf_X11_verify_210 N z k88 (v2) (v3) (v5) ((1 : Int32)) S))
def zf_X11_verify_337 (N : Nat) (z : Nat → Nat) (k88 : Int32 → Int32 → Int32 → Int32 → mq_St → Option (Int32 × mq_St)) (v2 : Int32) (v3 : Int32) (v4 : Int32) (v5 : Int32) (v6 : Int32) (v7 : Int32) (S : mq_St) : Option (Int32 × mq_St) := (if v6 = (4 : Int32) then (mq_cl (zf_X11_makeStart N z (v7) S) (fun q77v S79 => (mq_cl (zf_X11_copy N (fun k => [10, 10].getD k 0) ((0 : Int32)) ((0 : Int32)) (mq_pull S79 [] [31, 17] [])) (fun q80v q80s => mq_nS (mq_push S79 q80s [] [31, 17] []) (fun S82 => (zf_X11_verify_401 N z k88 (v2) (v3) (v4) (v5) S82)))))) else (mq_ck (v7) 300 (mq_cl (zf_X11_put N (fun k => [10].getD k 0) ((0 : Int32)) ((S.2.1 3 (v7).toNatClampNeg)) (mq_pull S [] [17] [])) (fun q69v q69s => mq_nS (mq_push S q69s [] [17] []) (fun S71 => (if v6 = (1 : Int32) then (mq_ck (v7) 300 (mq_cl (zf_X11_put N (fun k => [10].getD k 0) ((0 : Int32)) ((S71.2.1 4 (v7).toNatClampNeg)) (mq_pull S71 [] [17] [])) (fun q73v q73s => mq_nS (mq_push S71 q73s [] [17] []) (fun S75 => (zf_X11_verify_401 N z k88 (v2) (v3) (v4) (v5) S75))))) else (zf_X11_verify_401 N z k88 (v2) (v3) (v4) (v5) S71)))))))
def zf_X11_verify_289 (N : Nat) (z : Nat → Nat) (k88 : Int32 → Int32 → Int32 → Int32 → mq_St → Option (Int32 × mq_St)) (v2 : Int32) (v3 : Int32) (v4 : Int32) (v5 : Int32) (v6 : Int32) (v7 : Int32) (t0 : Int32) (t1 : Int32) (S : mq_St) : Option (Int32 × mq_St) := (if t0 = t1 then (if v6 = (3 : Int32) then (mq_cl (zf_X11_copy N (fun k => [10, 13340].getD k 0) ((0 : Int32)) (((10 : Int32) * v3)) (mq_pull S [] [17, 37] [])) (fun q58v q58s => mq_nS (mq_push S q58s [] [17, 37] []) (fun S60 => (mq_ck (v7) 300 (mq_cl (zf_X11_put N (fun k => [13340].getD k 0) (((10 : Int32) * v3)) ((S60.2.1 4 (v7).toNatClampNeg)) (mq_pull S60 [] [37] [])) (fun q62v q62s => mq_nS (mq_push S60 q62s [] [37] []) (fun S64 => (mq_nI (v3 + (1 : Int32)) (fun x65 => (zf_X11_verify_337 N z k88 (v2) (x65) (v4) (v5) (v6) (v7) S64)))))))))) else (zf_X11_verify_337 N z k88 (v2) (v3) (v4) (v5) (v6) (v7) S)) else (some ((0 : Int32), S)))
def zf_X11_verify_88b (N : Nat) (z : Nat → Nat) (k88 : Int32 → Int32 → Int32 → Int32 → mq_St → Option (Int32 × mq_St)) (v2 : Int32) (v3 : Int32) (v4 : Int32) (v5 : Int32) (S : mq_St) : Option (Int32 × mq_St) := (if v2 ≤ v5 then (if v4 = (0 : Int32) then (some ((1 : Int32), S)) else (some ((0 : Int32), S))) else (mq_ck (v5) 4000 (mq_nI (((S.2.1 0 (v5).toNatClampNeg) &&& (255 : Int32))) (fun x24 => (mq_ck ((v5 + (1 : Int32))) 4000 (mq_ck ((v5 + (2 : Int32))) 4000 (mq_nI (((((S.2.1 0 ((v5 + (1 : Int32))).toNatClampNeg) &&& (255 : Int32)) <<< ((8 : Int32) &&& (31 : Int32))) ||| ((S.2.1 0 ((v5 + (2 : Int32))).toNatClampNeg) &&& (255 : Int32)))) (fun x27 => (if v4 = (0 : Int32) then (some ((0 : Int32), S)) else (mq_cp (zf_X11_isFormula N z (x27) S) (fun q28 => (if q28 = (0 : Int32) then (some ((0 : Int32), S)) else (mq_cp (zf_X11_isIn N (fun k => [10].getD k 0) ((0 : Int32)) (x27) (mq_pull S [] [17] [])) (fun q30 => (if q30 = (0 : Int32) then (some ((0 : Int32), S)) else (if x24 = (0 : Int32) then (if x27 = (1 : Int32) then (zf_X11_verify_201 N z k88 (v2) (v3) (v5) S) else (mq_ck (x27) 300 (if (S.2.1 2 (x27).toNatClampNeg) = (2 : Int32) then (mq_cp (zf_X11_hasOpposite N z (x27) S) (fun q40 => (if q40 = (0 : Int32) then (some ((0 : Int32), S)) else (zf_X11_verify_201 N z k88 (v2) (v3) (v5) S)))) else (some ((0 : Int32), S))))) else (mq_cp (zf_X11_in N z (x24) ((1 : Int32)) ((4 : Int32)) (mq_pull S [] [] [])) (fun q32 => (if q32 = (0 : Int32) then (some ((0 : Int32), S)) else (mq_ck (x27) 300 (if x24 = (1 : Int32) then (zf_X11_verify_289 N z k88 (v2) (v3) (v4) (v5) (x24) (x27) ((S.2.1 2 (x27).toNatClampNeg)) ((4 : Int32)) S) else (if x24 = (2 : Int32) then (zf_X11_verify_289 N z k88 (v2) (v3) (v4) (v5) (x24) (x27) ((S.2.1 2 (x27).toNatClampNeg)) ((6 : Int32)) S) else (if x24 = (3 : Int32) then (zf_X11_verify_289 N z k88 (v2) (v3) (v4) (v5) (x24) (x27) ((S.2.1 2 (x27).toNatClampNeg)) ((5 : Int32)) S) else (zf_X11_verify_289 N z k88 (v2) (v3) (v4) (v5) (x24) (x27) ((S.2.1 2 (x27).toNatClampNeg)) ((7 : Int32)) S))))))))))))))))))))))))
def zf_X11_verify_88 (N : Nat) (z : Nat → Nat) : Nat → Int32 → Int32 → Int32 → Int32 → mq_St → Option (Int32 × mq_St)
  | 0, _, _, _, _, _ => none
  | n + 1, v2, v3, v4, v5, S => zf_X11_verify_88b N z (fun v2 v3 v4 v5 S => zf_X11_verify_88 N z n v2 v3 v4 v5 S) v2 v3 v4 v5 S
def zf_X11_verify_47b (N : Nat) (z : Nat → Nat) (k47 : Int32 → Int32 → Int32 → mq_St → Option (Int32 × mq_St)) (v1 : Int32) (v2 : Int32) (v3 : Int32) (S : mq_St) : Option (Int32 × mq_St) := (if (10 : Int32) ≤ v3 then (mq_ck (v1) 8 (mq_cl (zf_X11_put N (fun k => [10].getD k 0) ((0 : Int32)) ((S.2.1 6 (v1).toNatClampNeg)) (mq_pull S [] [17] [])) (fun q12v q12s => mq_nS (mq_push S q12s [] [17] []) (fun S14 => (mq_nI ((0 : Int32)) (fun x15 => (mq_nI ((1 : Int32)) (fun x16 => (mq_nI ((0 : Int32)) (fun x17 => (zf_X11_verify_88 N z N (v2) (x15) (x16) (x17) S14))))))))))) else (mq_ck (v3) 10 (mq_nS (mq_sa S 17 (upd (S.2.1 17) (v3).toNatClampNeg ((0 : Int32)))) (fun S19 => (mq_nI (v3 + (1 : Int32)) (fun x20 => (k47 (v1) (v2) (x20) S19)))))))
def zf_X11_verify_47 (N : Nat) (z : Nat → Nat) : Nat → Int32 → Int32 → Int32 → mq_St → Option (Int32 × mq_St)
  | 0, _, _, _, _ => none
  | n + 1, v1, v2, v3, S => zf_X11_verify_47b N z (fun v1 v2 v3 S => zf_X11_verify_47 N z n v1 v2 v3 S) v1 v2 v3 S
def zf_X11_verify (N : Nat) (z : Nat → Nat) (v1 : Int32) (S : mq_St) : Option (Int32 × mq_St) := (mq_nS (mq_si S 0 ((0 : Int32))) (fun S1 => (mq_cp (zf_X11_in N z (v1) ((0 : Int32)) ((7 : Int32)) (mq_pull S1 [] [] [])) (fun q2 => (if q2 = (0 : Int32) then (some ((-1 : Int32), S1)) else (mq_ck (v1) 8 (if (S1.2.1 5 (v1).toNatClampNeg) = (-1 : Int32) then (some ((-1 : Int32), S1)) else (mq_nI ((S1.1 1)) (fun x5 => (mq_nS (mq_si S1 1 ((0 : Int32))) (fun S6 => (if (x5 - x5 / (3 : Int32) * (3 : Int32)) = (0 : Int32) then (mq_nI ((0 : Int32)) (fun x7 => (zf_X11_verify_47 N z N (v1) (x5) (x7) S6))) else (some ((0 : Int32), S6))))))))))))))
set_option maxHeartbeats 4000000 in
set_option maxRecDepth 100000 in
theorem zw_X11_verify_401 {p : Program} {l : Launch} {e : Env} {s : State} {m : MethodId} {args : Array Value} {below : List Frame} {meth : Method} {c : Code} {A : Nat → Prop} {D : va_G} {a z : Nat → Nat} {cI cL cB cZ : ClassId} {Q : State → Prop} {N : Nat} {res : Int32 × mq_St} {k88 : Int32 → Int32 → Int32 → Int32 → mq_St → Option (Int32 × mq_St)} (C : mq_C p s m args c A D cI cL cB cZ cX11_verify 8 RX11 zc_X11_verify) (hret : ∀ (H : Heap) (locs : List Loc) (ls : Array Slot) (pc : Nat), decode cX11_verify pc = .ok (.ireturn, 1) → va_P D vwCl (wd_R a cI cL cB cZ z res.2) H → va_D A (wd_R a cI cL cB cZ z res.2) → va_S A s.heap H locs → W p l e zr_X11_verify s m args below meth c H locs 0 0 Q (F0 m pc ls [.int res.1])) (hk88 : ∀ (v2 : Int32) (v3 : Int32) (v4 : Int32) (v5 : Int32) (S : mq_St) (H : Heap) (locs : List Loc) (ls : Array Slot), k88 v2 v3 v4 v5 S = some res → lv_has ls 8 [(0, .ref (a 0)), (2, .int (v2)), (3, .int (v3)), (4, .int (v4)), (5, .int (v5))] → va_P D vwCl (wd_R a cI cL cB cZ z S) H → va_D A (wd_R a cI cL cB cZ z S) → va_S A s.heap H locs → W p l e zr_X11_verify s m args below meth c H locs 0 0 Q (F0 m 88 ls [])) (v2 : Int32) (v3 : Int32) (v4 : Int32) (v5 : Int32) (S : mq_St) (H : Heap) (locs : List Loc) (ls : Array Slot) (h : zf_X11_verify_401 N z k88 v2 v3 v4 v5 S = some res) (hl : lv_has ls 8 [(0, .ref (a 0)), (2, .int (v2)), (3, .int (v3)), (4, .int (v4)), (5, .int (v5))]) (hP : va_P D vwCl (wd_R a cI cL cB cZ z S) H) (hD : va_D A (wd_R a cI cL cB cZ z S)) (hS : va_S A s.heap H locs) : W p l e zr_X11_verify s m args below meth c H locs 0 0 Q (F0 m 401 ls []) := by
  obtain ⟨hx, hb, hml, hown, hts, hK, hA⟩ := id C
  unfold zf_X11_verify_401 at h
  obtain ⟨x57, ex57⟩ : ∃ y : Int32, y = v5 + (3 : Int32) := ⟨_, rfl⟩
  replace h := mq_nI_go ex57 h
  refine lv_iinc (v := x57) (lv' := [(5, .int (x57)), (0, .ref (a 0)), (2, .int (v2)), (3, .int (v3)), (4, .int (v4))]) hx hb dX11_verify_401 hl (k := 4) rfl (by rw [ex57]; rfl) (by decide) rfl (fun ls hl => ?_)
  refine lv_goto (tgt := 88) hx hb dX11_verify_404 (by decide) ?_
  exact hk88 (v2) (v3) (v4) (x57) S H locs ls h (lv_sub hl [1, 2, 3, 4, 0] rfl) hP hD hS
set_option maxHeartbeats 4000000 in
set_option maxRecDepth 100000 in
theorem zw_X11_verify_210 {p : Program} {l : Launch} {e : Env} {s : State} {m : MethodId} {args : Array Value} {below : List Frame} {meth : Method} {c : Code} {A : Nat → Prop} {D : va_G} {a z : Nat → Nat} {cI cL cB cZ : ClassId} {Q : State → Prop} {N : Nat} {res : Int32 × mq_St} {k88 : Int32 → Int32 → Int32 → Int32 → mq_St → Option (Int32 × mq_St)} (C : mq_C p s m args c A D cI cL cB cZ cX11_verify 8 RX11 zc_X11_verify) (hret : ∀ (H : Heap) (locs : List Loc) (ls : Array Slot) (pc : Nat), decode cX11_verify pc = .ok (.ireturn, 1) → va_P D vwCl (wd_R a cI cL cB cZ z res.2) H → va_D A (wd_R a cI cL cB cZ z res.2) → va_S A s.heap H locs → W p l e zr_X11_verify s m args below meth c H locs 0 0 Q (F0 m pc ls [.int res.1])) (hk88 : ∀ (v2 : Int32) (v3 : Int32) (v4 : Int32) (v5 : Int32) (S : mq_St) (H : Heap) (locs : List Loc) (ls : Array Slot), k88 v2 v3 v4 v5 S = some res → lv_has ls 8 [(0, .ref (a 0)), (2, .int (v2)), (3, .int (v3)), (4, .int (v4)), (5, .int (v5))] → va_P D vwCl (wd_R a cI cL cB cZ z S) H → va_D A (wd_R a cI cL cB cZ z S) → va_S A s.heap H locs → W p l e zr_X11_verify s m args below meth c H locs 0 0 Q (F0 m 88 ls [])) (v2 : Int32) (v3 : Int32) (v5 : Int32) (t0 : Int32) (S : mq_St) (H : Heap) (locs : List Loc) (ls : Array Slot) (h : zf_X11_verify_210 N z k88 v2 v3 v5 t0 S = some res) (hl : lv_has ls 8 [(0, .ref (a 0)), (2, .int (v2)), (3, .int (v3)), (5, .int (v5))]) (hP : va_P D vwCl (wd_R a cI cL cB cZ z S) H) (hD : va_D A (wd_R a cI cL cB cZ z S)) (hS : va_S A s.heap H locs) : W p l e zr_X11_verify s m args below meth c H locs 0 0 Q (F0 m 210 ls [.int (t0)]) := by
  obtain ⟨hx, hb, hml, hown, hts, hK, hA⟩ := id C
  unfold zf_X11_verify_210 at h
  refine lv_topi (fun x51 ex51 => ?_)
  replace h := mq_nI_go ex51 h
  refine lv_istore (lv' := [(4, .int (x51)), (0, .ref (a 0)), (2, .int (v2)), (3, .int (v3)), (5, .int (v5))]) hx hb dX11_verify_210 hl (by decide) rfl (fun ls hl => ?_)
  refine lv_iload hx hb dX11_verify_212 (lv_at hl 0 rfl) ?_
  refine lv_if_eq (tgt := 401) hx hb dX11_verify_214 (by decide) (fun c56 => ?_) (fun c56 => ?_)
  · replace h := mq_it c56 h
    exact zw_X11_verify_401 C hret hk88 (v2) (v3) (x51) (v5) S H locs ls h (lv_sub hl [1, 2, 3, 0, 4] rfl) hP hD hS
  · replace h := mq_if c56 h
    obtain ⟨x52, ex52⟩ : ∃ y : Int32, y = v3 + (-1 : Int32) := ⟨_, rfl⟩
    replace h := mq_nI_go ex52 h
    refine lv_iinc (v := x52) (lv' := [(3, .int (x52)), (4, .int (x51)), (0, .ref (a 0)), (2, .int (v2)), (5, .int (v5))]) hx hb dX11_verify_217 hl (k := 3) rfl (by rw [ex52]; rfl) (by decide) rfl (fun ls hl => ?_)
    refine lv_aload_n hx hb dX11_verify_220 rfl (lv_at hl 2 rfl) ?_
    refine va_get (D := D) (ci := 11) (v := .ref (a 38)) (C := RX11) (T := TX11) (N := 76) hx hb hts (zi_X11 _) hown hK hP 0 rfl rfl 69 (by decide) (hts _ (List.mem_cons_of_mem _ zt_f_X11_130)) (fun _ h9 => h9) rfl dX11_verify_221 ?_
    refine lv_bipush (v := (10 : Int32)) hx hb dX11_verify_224 (by decide) ?_
    refine lv_iload_n hx hb dX11_verify_226 rfl (lv_at hl 0 rfl) ?_
    refine lv_imul hx hb dX11_verify_227 ?_
    refine lv_aload_n hx hb dX11_verify_228 rfl (lv_at hl 2 rfl) ?_
    refine va_get (D := D) (ci := 11) (v := .ref (a 18)) (C := RX11) (T := TX11) (N := 76) hx hb hts (zi_X11 _) hown hK hP 0 rfl rfl 35 (by decide) (hts _ (List.mem_cons_of_mem _ zt_f_X11_69)) (fun _ h9 => h9) rfl dX11_verify_229 ?_
    refine lv_iconst (v := (0 : Int32)) hx hb dX11_verify_232 (by decide) ?_
    obtain ⟨q53, hc54, h⟩ := mq_cl_go h
    refine zv_X11_copy (a := mq_ad a [38, 18]) (z := (fun k => [13340, 10].getD k 0)) [38, 18] C zt_m_X11_301 ⟨by decide, by decide⟩ hc54 rfl (by decide) (ws' := (wd_R a cI cL cB cZ z (mq_push S q53.2 [] [37, 17] []))) (zx_wd_R_wd_A2_38_18 _ _ _ _ _ _ _ _) hP hD hS hl.1 (Nat.le_of_ble_eq_true rfl) dX11_verify_233 (fun H locs hP hD hS => ?_)
    obtain ⟨S55, eS55⟩ : ∃ y, y = mq_push S q53.2 [] [37, 17] [] := ⟨_, rfl⟩
    replace h := mq_nS_go eS55 h
    rw [← eS55] at hP hD
    refine lv_goto (tgt := 401) hx hb dX11_verify_236 (by decide) ?_
    exact zw_X11_verify_401 C hret hk88 (v2) (x52) (x51) (v5) S55 H locs ls h (lv_sub hl [2, 3, 0, 1, 4] rfl) hP hD hS
set_option maxHeartbeats 4000000 in
set_option maxRecDepth 100000 in
theorem zw_X11_verify_201 {p : Program} {l : Launch} {e : Env} {s : State} {m : MethodId} {args : Array Value} {below : List Frame} {meth : Method} {c : Code} {A : Nat → Prop} {D : va_G} {a z : Nat → Nat} {cI cL cB cZ : ClassId} {Q : State → Prop} {N : Nat} {res : Int32 × mq_St} {k88 : Int32 → Int32 → Int32 → Int32 → mq_St → Option (Int32 × mq_St)} (C : mq_C p s m args c A D cI cL cB cZ cX11_verify 8 RX11 zc_X11_verify) (hret : ∀ (H : Heap) (locs : List Loc) (ls : Array Slot) (pc : Nat), decode cX11_verify pc = .ok (.ireturn, 1) → va_P D vwCl (wd_R a cI cL cB cZ z res.2) H → va_D A (wd_R a cI cL cB cZ z res.2) → va_S A s.heap H locs → W p l e zr_X11_verify s m args below meth c H locs 0 0 Q (F0 m pc ls [.int res.1])) (hk88 : ∀ (v2 : Int32) (v3 : Int32) (v4 : Int32) (v5 : Int32) (S : mq_St) (H : Heap) (locs : List Loc) (ls : Array Slot), k88 v2 v3 v4 v5 S = some res → lv_has ls 8 [(0, .ref (a 0)), (2, .int (v2)), (3, .int (v3)), (4, .int (v4)), (5, .int (v5))] → va_P D vwCl (wd_R a cI cL cB cZ z S) H → va_D A (wd_R a cI cL cB cZ z S) → va_S A s.heap H locs → W p l e zr_X11_verify s m args below meth c H locs 0 0 Q (F0 m 88 ls [])) (v2 : Int32) (v3 : Int32) (v5 : Int32) (S : mq_St) (H : Heap) (locs : List Loc) (ls : Array Slot) (h : zf_X11_verify_201 N z k88 v2 v3 v5 S = some res) (hl : lv_has ls 8 [(0, .ref (a 0)), (2, .int (v2)), (3, .int (v3)), (5, .int (v5))]) (hP : va_P D vwCl (wd_R a cI cL cB cZ z S) H) (hD : va_D A (wd_R a cI cL cB cZ z S)) (hS : va_S A s.heap H locs) : W p l e zr_X11_verify s m args below meth c H locs 0 0 Q (F0 m 201 ls []) := by
  obtain ⟨hx, hb, hml, hown, hts, hK, hA⟩ := id C
  unfold zf_X11_verify_201 at h
  refine lv_iload_n hx hb dX11_verify_201 rfl (lv_at hl 2 rfl) ?_
  refine lv_if_le (tgt := 209) hx hb dX11_verify_202 (by decide) (fun c50 => ?_) (fun c50 => ?_)
  · replace h := mq_it c50 h
    refine lv_iconst (v := (0 : Int32)) hx hb dX11_verify_209 (by decide) ?_
    exact zw_X11_verify_210 C hret hk88 (v2) (v3) (v5) ((0 : Int32)) S H locs ls h (lv_sub hl [0, 1, 2, 3] rfl) hP hD hS
  · replace h := mq_if c50 h
    refine lv_iconst (v := (1 : Int32)) hx hb dX11_verify_205 (by decide) ?_
    refine lv_goto (tgt := 210) hx hb dX11_verify_206 (by decide) ?_
    exact zw_X11_verify_210 C hret hk88 (v2) (v3) (v5) ((1 : Int32)) S H locs ls h (lv_sub hl [0, 1, 2, 3] rfl) hP hD hS
set_option maxHeartbeats 4000000 in
set_option maxRecDepth 100000 in
theorem zw_X11_verify_337 {p : Program} {l : Launch} {e : Env} {s : State} {m : MethodId} {args : Array Value} {below : List Frame} {meth : Method} {c : Code} {A : Nat → Prop} {D : va_G} {a z : Nat → Nat} {cI cL cB cZ : ClassId} {Q : State → Prop} {N : Nat} {res : Int32 × mq_St} {k88 : Int32 → Int32 → Int32 → Int32 → mq_St → Option (Int32 × mq_St)} (C : mq_C p s m args c A D cI cL cB cZ cX11_verify 8 RX11 zc_X11_verify) (hret : ∀ (H : Heap) (locs : List Loc) (ls : Array Slot) (pc : Nat), decode cX11_verify pc = .ok (.ireturn, 1) → va_P D vwCl (wd_R a cI cL cB cZ z res.2) H → va_D A (wd_R a cI cL cB cZ z res.2) → va_S A s.heap H locs → W p l e zr_X11_verify s m args below meth c H locs 0 0 Q (F0 m pc ls [.int res.1])) (hk88 : ∀ (v2 : Int32) (v3 : Int32) (v4 : Int32) (v5 : Int32) (S : mq_St) (H : Heap) (locs : List Loc) (ls : Array Slot), k88 v2 v3 v4 v5 S = some res → lv_has ls 8 [(0, .ref (a 0)), (2, .int (v2)), (3, .int (v3)), (4, .int (v4)), (5, .int (v5))] → va_P D vwCl (wd_R a cI cL cB cZ z S) H → va_D A (wd_R a cI cL cB cZ z S) → va_S A s.heap H locs → W p l e zr_X11_verify s m args below meth c H locs 0 0 Q (F0 m 88 ls [])) (v2 : Int32) (v3 : Int32) (v4 : Int32) (v5 : Int32) (v6 : Int32) (v7 : Int32) (S : mq_St) (H : Heap) (locs : List Loc) (ls : Array Slot) (h : zf_X11_verify_337 N z k88 v2 v3 v4 v5 v6 v7 S = some res) (hl : lv_has ls 8 [(0, .ref (a 0)), (2, .int (v2)), (3, .int (v3)), (4, .int (v4)), (5, .int (v5)), (6, .int (v6)), (7, .int (v7))]) (hP : va_P D vwCl (wd_R a cI cL cB cZ z S) H) (hD : va_D A (wd_R a cI cL cB cZ z S)) (hS : va_S A s.heap H locs) : W p l e zr_X11_verify s m args below meth c H locs 0 0 Q (F0 m 337 ls []) := by
  obtain ⟨hx, hb, hml, hown, hts, hK, hA⟩ := id C
  unfold zf_X11_verify_337 at h
  refine lv_iload hx hb dX11_verify_337 (lv_at hl 5 rfl) ?_
  refine lv_iconst (v := (4 : Int32)) hx hb dX11_verify_339 (by decide) ?_
  refine lv_icmp_ne (tgt := 365) hx hb dX11_verify_340 (by decide) (fun c83 => ?_) (fun c83 => ?_)
  · replace h := mq_if c83 h
    refine lv_aload_n hx hb dX11_verify_365 rfl (lv_at hl 0 rfl) ?_
    refine va_get (D := D) (ci := 11) (v := .ref (a 18)) (C := RX11) (T := TX11) (N := 76) hx hb hts (zi_X11 _) hown hK hP 0 rfl rfl 35 (by decide) (hts _ (List.mem_cons_of_mem _ zt_f_X11_69)) (fun _ h9 => h9) rfl dX11_verify_366 ?_
    refine lv_iconst (v := (0 : Int32)) hx hb dX11_verify_369 (by decide) ?_
    refine lv_aload_n hx hb dX11_verify_370 rfl (lv_at hl 0 rfl) ?_
    refine va_get (D := D) (ci := 11) (v := .ref (a 4)) (C := RX11) (T := TX11) (N := 76) hx hb hts (zi_X11 _) hown hK hP 0 rfl rfl 6 (by decide) (hts _ (List.mem_cons_of_mem _ zt_f_X11_20)) (fun _ h9 => h9) rfl dX11_verify_371 ?_
    refine lv_iload hx hb dX11_verify_374 (lv_at hl 6 rfl) ?_
    have hi68 := mq_ck_in h
    replace h := mq_ck_go h
    refine va_iald (f := S.2.1 3) hx hb hK hP 4 0 rfl rfl hi68 dX11_verify_376 ?_
    obtain ⟨q69, hc70, h⟩ := mq_cl_go h
    refine zv_X11_put (a := mq_ad a [18]) (z := (fun k => [10].getD k 0)) [18] C zt_m_X11_324 ⟨by decide, by decide⟩ hc70 rfl (by decide) (ws' := (wd_R a cI cL cB cZ z (mq_push S q69.2 [] [17] []))) (zx_wd_R_wd_A1_18 _ _ _ _ _ _ _ _) hP hD hS hl.1 (Nat.le_of_ble_eq_true rfl) dX11_verify_377 (fun H locs hP hD hS => ?_)
    obtain ⟨S71, eS71⟩ : ∃ y, y = mq_push S q69.2 [] [17] [] := ⟨_, rfl⟩
    replace h := mq_nS_go eS71 h
    rw [← eS71] at hP hD
    refine lv_iload hx hb dX11_verify_380 (lv_at hl 5 rfl) ?_
    refine lv_iconst (v := (1 : Int32)) hx hb dX11_verify_382 (by decide) ?_
    refine lv_icmp_ne (tgt := 401) hx hb dX11_verify_383 (by decide) (fun c76 => ?_) (fun c76 => ?_)
    · replace h := mq_if c76 h
      exact zw_X11_verify_401 C hret hk88 (v2) (v3) (v4) (v5) S71 H locs ls h (lv_sub hl [0, 1, 2, 3, 4] rfl) hP hD hS
    · replace h := mq_it (by simpa using c76) h
      refine lv_aload_n hx hb dX11_verify_386 rfl (lv_at hl 0 rfl) ?_
      refine va_get (D := D) (ci := 11) (v := .ref (a 18)) (C := RX11) (T := TX11) (N := 76) hx hb hts (zi_X11 _) hown hK hP 0 rfl rfl 35 (by decide) (hts _ (List.mem_cons_of_mem _ zt_f_X11_69)) (fun _ h9 => h9) rfl dX11_verify_387 ?_
      refine lv_iconst (v := (0 : Int32)) hx hb dX11_verify_390 (by decide) ?_
      refine lv_aload_n hx hb dX11_verify_391 rfl (lv_at hl 0 rfl) ?_
      refine va_get (D := D) (ci := 11) (v := .ref (a 5)) (C := RX11) (T := TX11) (N := 76) hx hb hts (zi_X11 _) hown hK hP 0 rfl rfl 7 (by decide) (hts _ (List.mem_cons_of_mem _ zt_f_X11_23)) (fun _ h9 => h9) rfl dX11_verify_392 ?_
      refine lv_iload hx hb dX11_verify_395 (lv_at hl 6 rfl) ?_
      have hi72 := mq_ck_in h
      replace h := mq_ck_go h
      refine va_iald (f := S71.2.1 4) hx hb hK hP 5 0 rfl rfl hi72 dX11_verify_397 ?_
      obtain ⟨q73, hc74, h⟩ := mq_cl_go h
      refine zv_X11_put (a := mq_ad a [18]) (z := (fun k => [10].getD k 0)) [18] C zt_m_X11_324 ⟨by decide, by decide⟩ hc74 rfl (by decide) (ws' := (wd_R a cI cL cB cZ z (mq_push S71 q73.2 [] [17] []))) (zx_wd_R_wd_A1_18 _ _ _ _ _ _ _ _) hP hD hS hl.1 (Nat.le_of_ble_eq_true rfl) dX11_verify_398 (fun H locs hP hD hS => ?_)
      obtain ⟨S75, eS75⟩ : ∃ y, y = mq_push S71 q73.2 [] [17] [] := ⟨_, rfl⟩
      replace h := mq_nS_go eS75 h
      rw [← eS75] at hP hD
      exact zw_X11_verify_401 C hret hk88 (v2) (v3) (v4) (v5) S75 H locs ls h (lv_sub hl [0, 1, 2, 3, 4] rfl) hP hD hS
  · replace h := mq_it (by simpa using c83) h
    refine lv_aload_n hx hb dX11_verify_343 rfl (lv_at hl 0 rfl) ?_
    refine lv_iload hx hb dX11_verify_344 (lv_at hl 6 rfl) ?_
    obtain ⟨q77, hc78, h⟩ := mq_cl_go h
    refine zk_X11_makeStart C zt_m_X11_344 ⟨by decide, by decide⟩ hc78 hP hD hS hl.1 (Nat.le_of_ble_eq_true rfl) dX11_verify_346 (fun H locs hP hD hS => ?_)
    obtain ⟨S79, eS79⟩ : ∃ y, y = q77.2 := ⟨_, rfl⟩
    rw [← eS79] at hP hD h
    refine lv_aload_n hx hb dX11_verify_349 rfl (lv_at hl 0 rfl) ?_
    refine va_get (D := D) (ci := 11) (v := .ref (a 32)) (C := RX11) (T := TX11) (N := 76) hx hb hts (zi_X11 _) hown hK hP 0 rfl rfl 60 (by decide) (hts _ (List.mem_cons_of_mem _ zt_f_X11_112)) (fun _ h9 => h9) rfl dX11_verify_350 ?_
    refine lv_iconst (v := (0 : Int32)) hx hb dX11_verify_353 (by decide) ?_
    refine lv_aload_n hx hb dX11_verify_354 rfl (lv_at hl 0 rfl) ?_
    refine va_get (D := D) (ci := 11) (v := .ref (a 18)) (C := RX11) (T := TX11) (N := 76) hx hb hts (zi_X11 _) hown hK hP 0 rfl rfl 35 (by decide) (hts _ (List.mem_cons_of_mem _ zt_f_X11_69)) (fun _ h9 => h9) rfl dX11_verify_355 ?_
    refine lv_iconst (v := (0 : Int32)) hx hb dX11_verify_358 (by decide) ?_
    obtain ⟨q80, hc81, h⟩ := mq_cl_go h
    refine zv_X11_copy (a := mq_ad a [32, 18]) (z := (fun k => [10, 10].getD k 0)) [32, 18] C zt_m_X11_301 ⟨by decide, by decide⟩ hc81 rfl (by decide) (ws' := (wd_R a cI cL cB cZ z (mq_push S79 q80.2 [] [31, 17] []))) (zx_wd_R_wd_A2_32_18 _ _ _ _ _ _ _ _) hP hD hS hl.1 (Nat.le_of_ble_eq_true rfl) dX11_verify_359 (fun H locs hP hD hS => ?_)
    obtain ⟨S82, eS82⟩ : ∃ y, y = mq_push S79 q80.2 [] [31, 17] [] := ⟨_, rfl⟩
    replace h := mq_nS_go eS82 h
    rw [← eS82] at hP hD
    refine lv_goto (tgt := 401) hx hb dX11_verify_362 (by decide) ?_
    exact zw_X11_verify_401 C hret hk88 (v2) (v3) (v4) (v5) S82 H locs ls h (lv_sub hl [0, 1, 2, 3, 4] rfl) hP hD hS
set_option maxHeartbeats 4000000 in
set_option maxRecDepth 100000 in
theorem zw_X11_verify_289 {p : Program} {l : Launch} {e : Env} {s : State} {m : MethodId} {args : Array Value} {below : List Frame} {meth : Method} {c : Code} {A : Nat → Prop} {D : va_G} {a z : Nat → Nat} {cI cL cB cZ : ClassId} {Q : State → Prop} {N : Nat} {res : Int32 × mq_St} {k88 : Int32 → Int32 → Int32 → Int32 → mq_St → Option (Int32 × mq_St)} (C : mq_C p s m args c A D cI cL cB cZ cX11_verify 8 RX11 zc_X11_verify) (hret : ∀ (H : Heap) (locs : List Loc) (ls : Array Slot) (pc : Nat), decode cX11_verify pc = .ok (.ireturn, 1) → va_P D vwCl (wd_R a cI cL cB cZ z res.2) H → va_D A (wd_R a cI cL cB cZ z res.2) → va_S A s.heap H locs → W p l e zr_X11_verify s m args below meth c H locs 0 0 Q (F0 m pc ls [.int res.1])) (hk88 : ∀ (v2 : Int32) (v3 : Int32) (v4 : Int32) (v5 : Int32) (S : mq_St) (H : Heap) (locs : List Loc) (ls : Array Slot), k88 v2 v3 v4 v5 S = some res → lv_has ls 8 [(0, .ref (a 0)), (2, .int (v2)), (3, .int (v3)), (4, .int (v4)), (5, .int (v5))] → va_P D vwCl (wd_R a cI cL cB cZ z S) H → va_D A (wd_R a cI cL cB cZ z S) → va_S A s.heap H locs → W p l e zr_X11_verify s m args below meth c H locs 0 0 Q (F0 m 88 ls [])) (v2 : Int32) (v3 : Int32) (v4 : Int32) (v5 : Int32) (v6 : Int32) (v7 : Int32) (t0 : Int32) (t1 : Int32) (S : mq_St) (H : Heap) (locs : List Loc) (ls : Array Slot) (h : zf_X11_verify_289 N z k88 v2 v3 v4 v5 v6 v7 t0 t1 S = some res) (hl : lv_has ls 8 [(0, .ref (a 0)), (2, .int (v2)), (3, .int (v3)), (4, .int (v4)), (5, .int (v5)), (6, .int (v6)), (7, .int (v7))]) (hP : va_P D vwCl (wd_R a cI cL cB cZ z S) H) (hD : va_D A (wd_R a cI cL cB cZ z S)) (hS : va_S A s.heap H locs) : W p l e zr_X11_verify s m args below meth c H locs 0 0 Q (F0 m 289 ls [.int (t1), .int (t0)]) := by
  obtain ⟨hx, hb, hml, hown, hts, hK, hA⟩ := id C
  unfold zf_X11_verify_289 at h
  refine lv_icmp_eq (tgt := 294) hx hb dX11_verify_289 (by decide) (fun c67 => ?_) (fun c67 => ?_)
  · replace h := mq_it c67 h
    refine lv_iload hx hb dX11_verify_294 (lv_at hl 5 rfl) ?_
    refine lv_iconst (v := (3 : Int32)) hx hb dX11_verify_296 (by decide) ?_
    refine lv_icmp_ne (tgt := 337) hx hb dX11_verify_297 (by decide) (fun c66 => ?_) (fun c66 => ?_)
    · replace h := mq_if c66 h
      exact zw_X11_verify_337 C hret hk88 (v2) (v3) (v4) (v5) (v6) (v7) S H locs ls h (lv_sub hl [0, 1, 2, 3, 4, 5, 6] rfl) hP hD hS
    · replace h := mq_it (by simpa using c66) h
      refine lv_aload_n hx hb dX11_verify_300 rfl (lv_at hl 0 rfl) ?_
      refine va_get (D := D) (ci := 11) (v := .ref (a 18)) (C := RX11) (T := TX11) (N := 76) hx hb hts (zi_X11 _) hown hK hP 0 rfl rfl 35 (by decide) (hts _ (List.mem_cons_of_mem _ zt_f_X11_69)) (fun _ h9 => h9) rfl dX11_verify_301 ?_
      refine lv_iconst (v := (0 : Int32)) hx hb dX11_verify_304 (by decide) ?_
      refine lv_aload_n hx hb dX11_verify_305 rfl (lv_at hl 0 rfl) ?_
      refine va_get (D := D) (ci := 11) (v := .ref (a 38)) (C := RX11) (T := TX11) (N := 76) hx hb hts (zi_X11 _) hown hK hP 0 rfl rfl 69 (by decide) (hts _ (List.mem_cons_of_mem _ zt_f_X11_130)) (fun _ h9 => h9) rfl dX11_verify_306 ?_
      refine lv_bipush (v := (10 : Int32)) hx hb dX11_verify_309 (by decide) ?_
      refine lv_iload_n hx hb dX11_verify_311 rfl (lv_at hl 2 rfl) ?_
      refine lv_imul hx hb dX11_verify_312 ?_
      obtain ⟨q58, hc59, h⟩ := mq_cl_go h
      refine zv_X11_copy (a := mq_ad a [18, 38]) (z := (fun k => [10, 13340].getD k 0)) [18, 38] C zt_m_X11_301 ⟨by decide, by decide⟩ hc59 rfl (by decide) (ws' := (wd_R a cI cL cB cZ z (mq_push S q58.2 [] [17, 37] []))) (zx_wd_R_wd_A2_18_38 _ _ _ _ _ _ _ _) hP hD hS hl.1 (Nat.le_of_ble_eq_true rfl) dX11_verify_313 (fun H locs hP hD hS => ?_)
      obtain ⟨S60, eS60⟩ : ∃ y, y = mq_push S q58.2 [] [17, 37] [] := ⟨_, rfl⟩
      replace h := mq_nS_go eS60 h
      rw [← eS60] at hP hD
      refine lv_aload_n hx hb dX11_verify_316 rfl (lv_at hl 0 rfl) ?_
      refine va_get (D := D) (ci := 11) (v := .ref (a 38)) (C := RX11) (T := TX11) (N := 76) hx hb hts (zi_X11 _) hown hK hP 0 rfl rfl 69 (by decide) (hts _ (List.mem_cons_of_mem _ zt_f_X11_130)) (fun _ h9 => h9) rfl dX11_verify_317 ?_
      refine lv_bipush (v := (10 : Int32)) hx hb dX11_verify_320 (by decide) ?_
      refine lv_iload_n hx hb dX11_verify_322 rfl (lv_at hl 2 rfl) ?_
      refine lv_imul hx hb dX11_verify_323 ?_
      refine lv_aload_n hx hb dX11_verify_324 rfl (lv_at hl 0 rfl) ?_
      refine va_get (D := D) (ci := 11) (v := .ref (a 5)) (C := RX11) (T := TX11) (N := 76) hx hb hts (zi_X11 _) hown hK hP 0 rfl rfl 7 (by decide) (hts _ (List.mem_cons_of_mem _ zt_f_X11_23)) (fun _ h9 => h9) rfl dX11_verify_325 ?_
      refine lv_iload hx hb dX11_verify_328 (lv_at hl 6 rfl) ?_
      have hi61 := mq_ck_in h
      replace h := mq_ck_go h
      refine va_iald (f := S60.2.1 4) hx hb hK hP 5 0 rfl rfl hi61 dX11_verify_330 ?_
      obtain ⟨q62, hc63, h⟩ := mq_cl_go h
      refine zv_X11_put (a := mq_ad a [38]) (z := (fun k => [13340].getD k 0)) [38] C zt_m_X11_324 ⟨by decide, by decide⟩ hc63 rfl (by decide) (ws' := (wd_R a cI cL cB cZ z (mq_push S60 q62.2 [] [37] []))) (zx_wd_R_wd_A1_38 _ _ _ _ _ _ _ _) hP hD hS hl.1 (Nat.le_of_ble_eq_true rfl) dX11_verify_331 (fun H locs hP hD hS => ?_)
      obtain ⟨S64, eS64⟩ : ∃ y, y = mq_push S60 q62.2 [] [37] [] := ⟨_, rfl⟩
      replace h := mq_nS_go eS64 h
      rw [← eS64] at hP hD
      obtain ⟨x65, ex65⟩ : ∃ y : Int32, y = v3 + (1 : Int32) := ⟨_, rfl⟩
      replace h := mq_nI_go ex65 h
      refine lv_iinc (v := x65) (lv' := [(3, .int (x65)), (0, .ref (a 0)), (2, .int (v2)), (4, .int (v4)), (5, .int (v5)), (6, .int (v6)), (7, .int (v7))]) hx hb dX11_verify_334 hl (k := 2) rfl (by rw [ex65]; rfl) (by decide) rfl (fun ls hl => ?_)
      exact zw_X11_verify_337 C hret hk88 (v2) (x65) (v4) (v5) (v6) (v7) S64 H locs ls h (lv_sub hl [1, 2, 0, 3, 4, 5, 6] rfl) hP hD hS
  · replace h := mq_if c67 h
    refine lv_iconst (v := (0 : Int32)) hx hb dX11_verify_292 (by decide) ?_
    cases h
    exact hret H locs ls 293 dX11_verify_293 hP hD hS
set_option maxHeartbeats 4000000 in
set_option maxRecDepth 100000 in
theorem zw_X11_verify_88b {p : Program} {l : Launch} {e : Env} {s : State} {m : MethodId} {args : Array Value} {below : List Frame} {meth : Method} {c : Code} {A : Nat → Prop} {D : va_G} {a z : Nat → Nat} {cI cL cB cZ : ClassId} {Q : State → Prop} {N : Nat} {res : Int32 × mq_St} {k88 : Int32 → Int32 → Int32 → Int32 → mq_St → Option (Int32 × mq_St)} (C : mq_C p s m args c A D cI cL cB cZ cX11_verify 8 RX11 zc_X11_verify) (hret : ∀ (H : Heap) (locs : List Loc) (ls : Array Slot) (pc : Nat), decode cX11_verify pc = .ok (.ireturn, 1) → va_P D vwCl (wd_R a cI cL cB cZ z res.2) H → va_D A (wd_R a cI cL cB cZ z res.2) → va_S A s.heap H locs → W p l e zr_X11_verify s m args below meth c H locs 0 0 Q (F0 m pc ls [.int res.1])) (hk88 : ∀ (v2 : Int32) (v3 : Int32) (v4 : Int32) (v5 : Int32) (S : mq_St) (H : Heap) (locs : List Loc) (ls : Array Slot), k88 v2 v3 v4 v5 S = some res → lv_has ls 8 [(0, .ref (a 0)), (2, .int (v2)), (3, .int (v3)), (4, .int (v4)), (5, .int (v5))] → va_P D vwCl (wd_R a cI cL cB cZ z S) H → va_D A (wd_R a cI cL cB cZ z S) → va_S A s.heap H locs → W p l e zr_X11_verify s m args below meth c H locs 0 0 Q (F0 m 88 ls [])) (v2 : Int32) (v3 : Int32) (v4 : Int32) (v5 : Int32) (S : mq_St) (H : Heap) (locs : List Loc) (ls : Array Slot) (h : zf_X11_verify_88b N z k88 v2 v3 v4 v5 S = some res) (hl : lv_has ls 8 [(0, .ref (a 0)), (2, .int (v2)), (3, .int (v3)), (4, .int (v4)), (5, .int (v5))]) (hP : va_P D vwCl (wd_R a cI cL cB cZ z S) H) (hD : va_D A (wd_R a cI cL cB cZ z S)) (hS : va_S A s.heap H locs) : W p l e zr_X11_verify s m args below meth c H locs 0 0 Q (F0 m 88 ls []) := by
  obtain ⟨hx, hb, hml, hown, hts, hK, hA⟩ := id C
  unfold zf_X11_verify_88b at h
  refine lv_iload hx hb dX11_verify_88 (lv_at hl 4 rfl) ?_
  refine lv_iload_n hx hb dX11_verify_90 rfl (lv_at hl 1 rfl) ?_
  refine lv_icmp_ge (tgt := 407) hx hb dX11_verify_91 (by decide) (fun c49 => ?_) (fun c49 => ?_)
  · replace h := mq_it c49 h
    refine lv_iload hx hb dX11_verify_407 (lv_at hl 3 rfl) ?_
    refine lv_if_eq (tgt := 416) hx hb dX11_verify_409 (by decide) (fun c22 => ?_) (fun c22 => ?_)
    · replace h := mq_it c22 h
      refine lv_iconst (v := (1 : Int32)) hx hb dX11_verify_416 (by decide) ?_
      cases h
      exact hret H locs ls 417 dX11_verify_417 hP hD hS
    · replace h := mq_if c22 h
      refine lv_iconst (v := (0 : Int32)) hx hb dX11_verify_412 (by decide) ?_
      refine lv_goto (tgt := 417) hx hb dX11_verify_413 (by decide) ?_
      cases h
      exact hret H locs ls 417 dX11_verify_417 hP hD hS
  · replace h := mq_if c49 h
    refine lv_aload_n hx hb dX11_verify_94 rfl (lv_at hl 0 rfl) ?_
    refine va_get (D := D) (ci := 11) (v := .ref (a 1)) (C := RX11) (T := TX11) (N := 76) hx hb hts (zi_X11 _) hown hK hP 0 rfl rfl 1 (by decide) (hts _ (List.mem_cons_of_mem _ zt_f_X11_7)) (fun _ h9 => h9) rfl dX11_verify_95 ?_
    refine lv_iload hx hb dX11_verify_98 (lv_at hl 4 rfl) ?_
    have hi23 := mq_ck_in h
    replace h := mq_ck_go h
    refine va_bald (f := S.2.1 0) hx hb hK hP 1 2 rfl rfl hi23 dX11_verify_100 ?_
    refine lv_sipush (v := (255 : Int32)) hx hb dX11_verify_101 (by decide) ?_
    refine lv_iand hx hb dX11_verify_104 ?_
    refine lv_topi (fun x24 ex24 => ?_)
    replace h := mq_nI_go ex24 h
    refine lv_istore (lv' := [(6, .int (x24)), (0, .ref (a 0)), (2, .int (v2)), (3, .int (v3)), (4, .int (v4)), (5, .int (v5))]) hx hb dX11_verify_105 hl (by decide) rfl (fun ls hl => ?_)
    refine lv_aload_n hx hb dX11_verify_107 rfl (lv_at hl 1 rfl) ?_
    refine va_get (D := D) (ci := 11) (v := .ref (a 1)) (C := RX11) (T := TX11) (N := 76) hx hb hts (zi_X11 _) hown hK hP 0 rfl rfl 1 (by decide) (hts _ (List.mem_cons_of_mem _ zt_f_X11_7)) (fun _ h9 => h9) rfl dX11_verify_108 ?_
    refine lv_iload hx hb dX11_verify_111 (lv_at hl 5 rfl) ?_
    refine lv_iconst (v := (1 : Int32)) hx hb dX11_verify_113 (by decide) ?_
    refine lv_iadd hx hb dX11_verify_114 ?_
    have hi25 := mq_ck_in h
    replace h := mq_ck_go h
    refine va_bald (f := S.2.1 0) hx hb hK hP 1 2 rfl rfl hi25 dX11_verify_115 ?_
    refine lv_sipush (v := (255 : Int32)) hx hb dX11_verify_116 (by decide) ?_
    refine lv_iand hx hb dX11_verify_119 ?_
    refine lv_bipush (v := (8 : Int32)) hx hb dX11_verify_120 (by decide) ?_
    refine lv_ishl hx hb dX11_verify_122 ?_
    refine lv_aload_n hx hb dX11_verify_123 rfl (lv_at hl 1 rfl) ?_
    refine va_get (D := D) (ci := 11) (v := .ref (a 1)) (C := RX11) (T := TX11) (N := 76) hx hb hts (zi_X11 _) hown hK hP 0 rfl rfl 1 (by decide) (hts _ (List.mem_cons_of_mem _ zt_f_X11_7)) (fun _ h9 => h9) rfl dX11_verify_124 ?_
    refine lv_iload hx hb dX11_verify_127 (lv_at hl 5 rfl) ?_
    refine lv_iconst (v := (2 : Int32)) hx hb dX11_verify_129 (by decide) ?_
    refine lv_iadd hx hb dX11_verify_130 ?_
    have hi26 := mq_ck_in h
    replace h := mq_ck_go h
    refine va_bald (f := S.2.1 0) hx hb hK hP 1 2 rfl rfl hi26 dX11_verify_131 ?_
    refine lv_sipush (v := (255 : Int32)) hx hb dX11_verify_132 (by decide) ?_
    refine lv_iand hx hb dX11_verify_135 ?_
    refine lv_ior hx hb dX11_verify_136 ?_
    refine lv_topi (fun x27 ex27 => ?_)
    replace h := mq_nI_go ex27 h
    refine lv_istore (lv' := [(7, .int (x27)), (6, .int (x24)), (0, .ref (a 0)), (2, .int (v2)), (3, .int (v3)), (4, .int (v4)), (5, .int (v5))]) hx hb dX11_verify_137 hl (by decide) rfl (fun ls hl => ?_)
    refine lv_iload hx hb dX11_verify_139 (lv_at hl 5 rfl) ?_
    refine lv_if_eq (tgt := 166) hx hb dX11_verify_141 (by decide) (fun c48 => ?_) (fun c48 => ?_)
    · replace h := mq_it c48 h
      refine lv_iconst (v := (0 : Int32)) hx hb dX11_verify_166 (by decide) ?_
      cases h
      exact hret H locs ls 167 dX11_verify_167 hP hD hS
    · replace h := mq_if c48 h
      refine lv_aload_n hx hb dX11_verify_144 rfl (lv_at hl 2 rfl) ?_
      refine lv_iload hx hb dX11_verify_145 (lv_at hl 0 rfl) ?_
      obtain ⟨q28, hc29, h⟩ := mq_cp_go h
      refine zk_X11_isFormula C zt_m_X11_264 ⟨by decide, by decide⟩ hc29 hP hD hS hl.1 (Nat.le_of_ble_eq_true rfl) dX11_verify_147 (fun H locs hP hD hS => ?_)
      refine lv_if_eq (tgt := 166) hx hb dX11_verify_150 (by decide) (fun c47 => ?_) (fun c47 => ?_)
      · replace h := mq_it c47 h
        refine lv_iconst (v := (0 : Int32)) hx hb dX11_verify_166 (by decide) ?_
        cases h
        exact hret H locs ls 167 dX11_verify_167 hP hD hS
      · replace h := mq_if c47 h
        refine lv_aload_n hx hb dX11_verify_153 rfl (lv_at hl 2 rfl) ?_
        refine va_get (D := D) (ci := 11) (v := .ref (a 18)) (C := RX11) (T := TX11) (N := 76) hx hb hts (zi_X11 _) hown hK hP 0 rfl rfl 35 (by decide) (hts _ (List.mem_cons_of_mem _ zt_f_X11_69)) (fun _ h9 => h9) rfl dX11_verify_154 ?_
        refine lv_iconst (v := (0 : Int32)) hx hb dX11_verify_157 (by decide) ?_
        refine lv_iload hx hb dX11_verify_158 (lv_at hl 0 rfl) ?_
        obtain ⟨q30, hc31, h⟩ := mq_cp_go h
        refine zv_X11_isIn (a := mq_ad a [18]) (z := (fun k => [10].getD k 0)) [18] C zt_m_X11_273 ⟨by decide, by decide⟩ hc31 rfl (by decide) hP hD hS hl.1 (Nat.le_of_ble_eq_true rfl) dX11_verify_160 (fun H locs hP hD hS => ?_)
        refine lv_if_ne (tgt := 168) hx hb dX11_verify_163 (by decide) (fun c46 => ?_) (fun c46 => ?_)
        · replace h := mq_if c46 h
          refine lv_iload hx hb dX11_verify_168 (lv_at hl 1 rfl) ?_
          refine lv_if_ne (tgt := 239) hx hb dX11_verify_170 (by decide) (fun c45 => ?_) (fun c45 => ?_)
          · replace h := mq_if c45 h
            refine lv_iload hx hb dX11_verify_239 (lv_at hl 1 rfl) ?_
            refine lv_iconst (v := (1 : Int32)) hx hb dX11_verify_241 (by decide) ?_
            refine lv_iconst (v := (4 : Int32)) hx hb dX11_verify_242 (by decide) ?_
            obtain ⟨q32, hc33, h⟩ := mq_cp_go h
            refine zv_X11_in (a := mq_ad a []) (z := z) [] C zt_m_X11_161 ⟨by decide, by decide⟩ hc33 rfl (by decide) hP hD hS hl.1 (Nat.le_of_ble_eq_true rfl) dX11_verify_243 (fun H locs hP hD hS => ?_)
            refine lv_if_eq (tgt := 292) hx hb dX11_verify_246 (by decide) (fun c38 => ?_) (fun c38 => ?_)
            · replace h := mq_it c38 h
              refine lv_iconst (v := (0 : Int32)) hx hb dX11_verify_292 (by decide) ?_
              cases h
              exact hret H locs ls 293 dX11_verify_293 hP hD hS
            · replace h := mq_if c38 h
              refine lv_aload_n hx hb dX11_verify_249 rfl (lv_at hl 2 rfl) ?_
              refine va_get (D := D) (ci := 11) (v := .ref (a 3)) (C := RX11) (T := TX11) (N := 76) hx hb hts (zi_X11 _) hown hK hP 0 rfl rfl 5 (by decide) (hts _ (List.mem_cons_of_mem _ zt_f_X11_16)) (fun _ h9 => h9) rfl dX11_verify_250 ?_
              refine lv_iload hx hb dX11_verify_253 (lv_at hl 0 rfl) ?_
              have hi34 := mq_ck_in h
              replace h := mq_ck_go h
              refine va_iald (f := S.2.1 2) hx hb hK hP 3 0 rfl rfl hi34 dX11_verify_255 ?_
              refine lv_iload hx hb dX11_verify_256 (lv_at hl 1 rfl) ?_
              refine lv_iconst (v := (1 : Int32)) hx hb dX11_verify_258 (by decide) ?_
              refine lv_icmp_ne (tgt := 266) hx hb dX11_verify_259 (by decide) (fun c37 => ?_) (fun c37 => ?_)
              · replace h := mq_if c37 h
                refine lv_iload hx hb dX11_verify_266 (lv_at hl 1 rfl) ?_
                refine lv_iconst (v := (2 : Int32)) hx hb dX11_verify_268 (by decide) ?_
                refine lv_icmp_ne (tgt := 277) hx hb dX11_verify_269 (by decide) (fun c36 => ?_) (fun c36 => ?_)
                · replace h := mq_if c36 h
                  refine lv_iload hx hb dX11_verify_277 (lv_at hl 1 rfl) ?_
                  refine lv_iconst (v := (3 : Int32)) hx hb dX11_verify_279 (by decide) ?_
                  refine lv_icmp_ne (tgt := 287) hx hb dX11_verify_280 (by decide) (fun c35 => ?_) (fun c35 => ?_)
                  · replace h := mq_if c35 h
                    refine lv_bipush (v := (7 : Int32)) hx hb dX11_verify_287 (by decide) ?_
                    exact zw_X11_verify_289 C hret hk88 (v2) (v3) (v4) (v5) (x24) (x27) ((S.2.1 2 (x27).toNatClampNeg)) ((7 : Int32)) S H locs ls h (lv_sub hl [2, 3, 4, 5, 6, 1, 0] rfl) hP hD hS
                  · replace h := mq_it (by simpa using c35) h
                    refine lv_iconst (v := (5 : Int32)) hx hb dX11_verify_283 (by decide) ?_
                    refine lv_goto (tgt := 289) hx hb dX11_verify_284 (by decide) ?_
                    exact zw_X11_verify_289 C hret hk88 (v2) (v3) (v4) (v5) (x24) (x27) ((S.2.1 2 (x27).toNatClampNeg)) ((5 : Int32)) S H locs ls h (lv_sub hl [2, 3, 4, 5, 6, 1, 0] rfl) hP hD hS
                · replace h := mq_it (by simpa using c36) h
                  refine lv_bipush (v := (6 : Int32)) hx hb dX11_verify_272 (by decide) ?_
                  refine lv_goto (tgt := 289) hx hb dX11_verify_274 (by decide) ?_
                  exact zw_X11_verify_289 C hret hk88 (v2) (v3) (v4) (v5) (x24) (x27) ((S.2.1 2 (x27).toNatClampNeg)) ((6 : Int32)) S H locs ls h (lv_sub hl [2, 3, 4, 5, 6, 1, 0] rfl) hP hD hS
              · replace h := mq_it (by simpa using c37) h
                refine lv_iconst (v := (4 : Int32)) hx hb dX11_verify_262 (by decide) ?_
                refine lv_goto (tgt := 289) hx hb dX11_verify_263 (by decide) ?_
                exact zw_X11_verify_289 C hret hk88 (v2) (v3) (v4) (v5) (x24) (x27) ((S.2.1 2 (x27).toNatClampNeg)) ((4 : Int32)) S H locs ls h (lv_sub hl [2, 3, 4, 5, 6, 1, 0] rfl) hP hD hS
          · replace h := mq_it (by simpa using c45) h
            refine lv_iload hx hb dX11_verify_173 (lv_at hl 0 rfl) ?_
            refine lv_iconst (v := (1 : Int32)) hx hb dX11_verify_175 (by decide) ?_
            refine lv_icmp_eq (tgt := 201) hx hb dX11_verify_176 (by decide) (fun c44 => ?_) (fun c44 => ?_)
            · replace h := mq_it c44 h
              exact zw_X11_verify_201 C hret hk88 (v2) (v3) (v5) S H locs ls h (lv_sub hl [2, 3, 4, 6] rfl) hP hD hS
            · replace h := mq_if c44 h
              refine lv_aload_n hx hb dX11_verify_179 rfl (lv_at hl 2 rfl) ?_
              refine va_get (D := D) (ci := 11) (v := .ref (a 3)) (C := RX11) (T := TX11) (N := 76) hx hb hts (zi_X11 _) hown hK hP 0 rfl rfl 5 (by decide) (hts _ (List.mem_cons_of_mem _ zt_f_X11_16)) (fun _ h9 => h9) rfl dX11_verify_180 ?_
              refine lv_iload hx hb dX11_verify_183 (lv_at hl 0 rfl) ?_
              have hi39 := mq_ck_in h
              replace h := mq_ck_go h
              refine va_iald (f := S.2.1 2) hx hb hK hP 3 0 rfl rfl hi39 dX11_verify_185 ?_
              refine lv_iconst (v := (2 : Int32)) hx hb dX11_verify_186 (by decide) ?_
              refine lv_icmp_ne (tgt := 199) hx hb dX11_verify_187 (by decide) (fun c43 => ?_) (fun c43 => ?_)
              · replace h := mq_if c43 h
                refine lv_iconst (v := (0 : Int32)) hx hb dX11_verify_199 (by decide) ?_
                cases h
                exact hret H locs ls 200 dX11_verify_200 hP hD hS
              · replace h := mq_it (by simpa using c43) h
                refine lv_aload_n hx hb dX11_verify_190 rfl (lv_at hl 2 rfl) ?_
                refine lv_iload hx hb dX11_verify_191 (lv_at hl 0 rfl) ?_
                obtain ⟨q40, hc41, h⟩ := mq_cp_go h
                refine zk_X11_hasOpposite C zt_m_X11_277 ⟨by decide, by decide⟩ hc41 hP hD hS hl.1 (Nat.le_of_ble_eq_true rfl) dX11_verify_193 (fun H locs hP hD hS => ?_)
                refine lv_if_ne (tgt := 201) hx hb dX11_verify_196 (by decide) (fun c42 => ?_) (fun c42 => ?_)
                · replace h := mq_if c42 h
                  exact zw_X11_verify_201 C hret hk88 (v2) (v3) (v5) S H locs ls h (lv_sub hl [2, 3, 4, 6] rfl) hP hD hS
                · replace h := mq_it (by simpa using c42) h
                  refine lv_iconst (v := (0 : Int32)) hx hb dX11_verify_199 (by decide) ?_
                  cases h
                  exact hret H locs ls 200 dX11_verify_200 hP hD hS
        · replace h := mq_it (by simpa using c46) h
          refine lv_iconst (v := (0 : Int32)) hx hb dX11_verify_166 (by decide) ?_
          cases h
          exact hret H locs ls 167 dX11_verify_167 hP hD hS
set_option maxHeartbeats 4000000 in
set_option maxRecDepth 100000 in
theorem zw_X11_verify_88 {p : Program} {l : Launch} {e : Env} {s : State} {m : MethodId} {args : Array Value} {below : List Frame} {meth : Method} {c : Code} {A : Nat → Prop} {D : va_G} {a z : Nat → Nat} {cI cL cB cZ : ClassId} {Q : State → Prop} {N : Nat} {res : Int32 × mq_St} (C : mq_C p s m args c A D cI cL cB cZ cX11_verify 8 RX11 zc_X11_verify) (hret : ∀ (H : Heap) (locs : List Loc) (ls : Array Slot) (pc : Nat), decode cX11_verify pc = .ok (.ireturn, 1) → va_P D vwCl (wd_R a cI cL cB cZ z res.2) H → va_D A (wd_R a cI cL cB cZ z res.2) → va_S A s.heap H locs → W p l e zr_X11_verify s m args below meth c H locs 0 0 Q (F0 m pc ls [.int res.1])) : ∀ (n : Nat) (v2 : Int32) (v3 : Int32) (v4 : Int32) (v5 : Int32) (S : mq_St) (H : Heap) (locs : List Loc) (ls : Array Slot) (h : zf_X11_verify_88 N z n v2 v3 v4 v5 S = some res) (hl : lv_has ls 8 [(0, .ref (a 0)), (2, .int (v2)), (3, .int (v3)), (4, .int (v4)), (5, .int (v5))]) (hP : va_P D vwCl (wd_R a cI cL cB cZ z S) H) (hD : va_D A (wd_R a cI cL cB cZ z S)) (hS : va_S A s.heap H locs), W p l e zr_X11_verify s m args below meth c H locs 0 0 Q (F0 m 88 ls []) := by
  intro n
  induction n with
  | zero =>
    intro v2 v3 v4 v5 S H locs ls h hl hP hD hS
    exact nomatch (show (none : Option (Int32 × mq_St)) = some res from h)
  | succ n ih =>
    intro v2 v3 v4 v5 S H locs ls h hl hP hD hS
    exact zw_X11_verify_88b C hret (fun v2 v3 v4 v5 S H locs ls h hl hP hD hS => ih v2 v3 v4 v5 S H locs ls h hl hP hD hS) v2 v3 v4 v5 S H locs ls h hl hP hD hS
set_option maxHeartbeats 4000000 in
set_option maxRecDepth 100000 in
theorem zw_X11_verify_47b {p : Program} {l : Launch} {e : Env} {s : State} {m : MethodId} {args : Array Value} {below : List Frame} {meth : Method} {c : Code} {A : Nat → Prop} {D : va_G} {a z : Nat → Nat} {cI cL cB cZ : ClassId} {Q : State → Prop} {N : Nat} {res : Int32 × mq_St} {k47 : Int32 → Int32 → Int32 → mq_St → Option (Int32 × mq_St)} (C : mq_C p s m args c A D cI cL cB cZ cX11_verify 8 RX11 zc_X11_verify) (hret : ∀ (H : Heap) (locs : List Loc) (ls : Array Slot) (pc : Nat), decode cX11_verify pc = .ok (.ireturn, 1) → va_P D vwCl (wd_R a cI cL cB cZ z res.2) H → va_D A (wd_R a cI cL cB cZ z res.2) → va_S A s.heap H locs → W p l e zr_X11_verify s m args below meth c H locs 0 0 Q (F0 m pc ls [.int res.1])) (hk47 : ∀ (v1 : Int32) (v2 : Int32) (v3 : Int32) (S : mq_St) (H : Heap) (locs : List Loc) (ls : Array Slot), k47 v1 v2 v3 S = some res → lv_has ls 8 [(0, .ref (a 0)), (1, .int (v1)), (2, .int (v2)), (3, .int (v3))] → va_P D vwCl (wd_R a cI cL cB cZ z S) H → va_D A (wd_R a cI cL cB cZ z S) → va_S A s.heap H locs → W p l e zr_X11_verify s m args below meth c H locs 0 0 Q (F0 m 47 ls [])) (v1 : Int32) (v2 : Int32) (v3 : Int32) (S : mq_St) (H : Heap) (locs : List Loc) (ls : Array Slot) (h : zf_X11_verify_47b N z k47 v1 v2 v3 S = some res) (hl : lv_has ls 8 [(0, .ref (a 0)), (1, .int (v1)), (2, .int (v2)), (3, .int (v3))]) (hP : va_P D vwCl (wd_R a cI cL cB cZ z S) H) (hD : va_D A (wd_R a cI cL cB cZ z S)) (hS : va_S A s.heap H locs) : W p l e zr_X11_verify s m args below meth c H locs 0 0 Q (F0 m 47 ls []) := by
  obtain ⟨hx, hb, hml, hown, hts, hK, hA⟩ := id C
  unfold zf_X11_verify_47b at h
  refine lv_iload_n hx hb dX11_verify_47 rfl (lv_at hl 3 rfl) ?_
  refine lv_bipush (v := (10 : Int32)) hx hb dX11_verify_48 (by decide) ?_
  refine lv_icmp_ge (tgt := 66) hx hb dX11_verify_50 (by decide) (fun c21 => ?_) (fun c21 => ?_)
  · replace h := mq_it c21 h
    refine lv_aload_n hx hb dX11_verify_66 rfl (lv_at hl 0 rfl) ?_
    refine va_get (D := D) (ci := 11) (v := .ref (a 18)) (C := RX11) (T := TX11) (N := 76) hx hb hts (zi_X11 _) hown hK hP 0 rfl rfl 35 (by decide) (hts _ (List.mem_cons_of_mem _ zt_f_X11_69)) (fun _ h9 => h9) rfl dX11_verify_67 ?_
    refine lv_iconst (v := (0 : Int32)) hx hb dX11_verify_70 (by decide) ?_
    refine lv_aload_n hx hb dX11_verify_71 rfl (lv_at hl 0 rfl) ?_
    refine va_get (D := D) (ci := 11) (v := .ref (a 7)) (C := RX11) (T := TX11) (N := 76) hx hb hts (zi_X11 _) hown hK hP 0 rfl rfl 10 (by decide) (hts _ (List.mem_cons_of_mem _ zt_f_X11_33)) (fun _ h9 => h9) rfl dX11_verify_72 ?_
    refine lv_iload_n hx hb dX11_verify_75 rfl (lv_at hl 1 rfl) ?_
    have hi11 := mq_ck_in h
    replace h := mq_ck_go h
    refine va_iald (f := S.2.1 6) hx hb hK hP 7 0 rfl rfl hi11 dX11_verify_76 ?_
    obtain ⟨q12, hc13, h⟩ := mq_cl_go h
    refine zv_X11_put (a := mq_ad a [18]) (z := (fun k => [10].getD k 0)) [18] C zt_m_X11_324 ⟨by decide, by decide⟩ hc13 rfl (by decide) (ws' := (wd_R a cI cL cB cZ z (mq_push S q12.2 [] [17] []))) (zx_wd_R_wd_A1_18 _ _ _ _ _ _ _ _) hP hD hS hl.1 (Nat.le_of_ble_eq_true rfl) dX11_verify_77 (fun H locs hP hD hS => ?_)
    obtain ⟨S14, eS14⟩ : ∃ y, y = mq_push S q12.2 [] [17] [] := ⟨_, rfl⟩
    replace h := mq_nS_go eS14 h
    rw [← eS14] at hP hD
    refine lv_iconst (v := (0 : Int32)) hx hb dX11_verify_80 (by decide) ?_
    refine lv_topi (fun x15 ex15 => ?_)
    replace h := mq_nI_go ex15 h
    refine lv_istore_n (lv' := [(3, .int (x15)), (0, .ref (a 0)), (1, .int (v1)), (2, .int (v2))]) hx hb dX11_verify_81 rfl hl (by decide) rfl (fun ls hl => ?_)
    refine lv_iconst (v := (1 : Int32)) hx hb dX11_verify_82 (by decide) ?_
    refine lv_topi (fun x16 ex16 => ?_)
    replace h := mq_nI_go ex16 h
    refine lv_istore (lv' := [(4, .int (x16)), (3, .int (x15)), (0, .ref (a 0)), (1, .int (v1)), (2, .int (v2))]) hx hb dX11_verify_83 hl (by decide) rfl (fun ls hl => ?_)
    refine lv_iconst (v := (0 : Int32)) hx hb dX11_verify_85 (by decide) ?_
    refine lv_topi (fun x17 ex17 => ?_)
    replace h := mq_nI_go ex17 h
    refine lv_istore (lv' := [(5, .int (x17)), (4, .int (x16)), (3, .int (x15)), (0, .ref (a 0)), (1, .int (v1)), (2, .int (v2))]) hx hb dX11_verify_86 hl (by decide) rfl (fun ls hl => ?_)
    exact zw_X11_verify_88 C hret N (v2) (x15) (x16) (x17) S14 H locs ls h (lv_sub hl [3, 5, 2, 1, 0] rfl) hP hD hS
  · replace h := mq_if c21 h
    refine lv_aload_n hx hb dX11_verify_53 rfl (lv_at hl 0 rfl) ?_
    refine va_get (D := D) (ci := 11) (v := .ref (a 18)) (C := RX11) (T := TX11) (N := 76) hx hb hts (zi_X11 _) hown hK hP 0 rfl rfl 35 (by decide) (hts _ (List.mem_cons_of_mem _ zt_f_X11_69)) (fun _ h9 => h9) rfl dX11_verify_54 ?_
    refine lv_iload_n hx hb dX11_verify_57 rfl (lv_at hl 3 rfl) ?_
    refine lv_iconst (v := (0 : Int32)) hx hb dX11_verify_58 (by decide) ?_
    have hi18 := mq_ck_in h
    replace h := mq_ck_go h
    refine mq_iast (w := wd_R a cI cL cB cZ z) (S := S) (f := S.2.1 17) hx hb hK hP hD hS 18 0 rfl rfl hi18 dX11_verify_59 17 (zs_wd_R_a_18_17 _ _ _ _ _ _ _ _) (fun S19 eS19 H locs hP hD hS => ?_)
    replace h := mq_nS_go eS19 h
    obtain ⟨x20, ex20⟩ : ∃ y : Int32, y = v3 + (1 : Int32) := ⟨_, rfl⟩
    replace h := mq_nI_go ex20 h
    refine lv_iinc (v := x20) (lv' := [(3, .int (x20)), (0, .ref (a 0)), (1, .int (v1)), (2, .int (v2))]) hx hb dX11_verify_60 hl (k := 3) rfl (by rw [ex20]; rfl) (by decide) rfl (fun ls hl => ?_)
    refine lv_goto (tgt := 47) hx hb dX11_verify_63 (by decide) ?_
    exact hk47 (v1) (v2) (x20) S19 H locs ls h (lv_sub hl [1, 2, 3, 0] rfl) hP hD hS
set_option maxHeartbeats 4000000 in
set_option maxRecDepth 100000 in
theorem zw_X11_verify_47 {p : Program} {l : Launch} {e : Env} {s : State} {m : MethodId} {args : Array Value} {below : List Frame} {meth : Method} {c : Code} {A : Nat → Prop} {D : va_G} {a z : Nat → Nat} {cI cL cB cZ : ClassId} {Q : State → Prop} {N : Nat} {res : Int32 × mq_St} (C : mq_C p s m args c A D cI cL cB cZ cX11_verify 8 RX11 zc_X11_verify) (hret : ∀ (H : Heap) (locs : List Loc) (ls : Array Slot) (pc : Nat), decode cX11_verify pc = .ok (.ireturn, 1) → va_P D vwCl (wd_R a cI cL cB cZ z res.2) H → va_D A (wd_R a cI cL cB cZ z res.2) → va_S A s.heap H locs → W p l e zr_X11_verify s m args below meth c H locs 0 0 Q (F0 m pc ls [.int res.1])) : ∀ (n : Nat) (v1 : Int32) (v2 : Int32) (v3 : Int32) (S : mq_St) (H : Heap) (locs : List Loc) (ls : Array Slot) (h : zf_X11_verify_47 N z n v1 v2 v3 S = some res) (hl : lv_has ls 8 [(0, .ref (a 0)), (1, .int (v1)), (2, .int (v2)), (3, .int (v3))]) (hP : va_P D vwCl (wd_R a cI cL cB cZ z S) H) (hD : va_D A (wd_R a cI cL cB cZ z S)) (hS : va_S A s.heap H locs), W p l e zr_X11_verify s m args below meth c H locs 0 0 Q (F0 m 47 ls []) := by
  intro n
  induction n with
  | zero =>
    intro v1 v2 v3 S H locs ls h hl hP hD hS
    exact nomatch (show (none : Option (Int32 × mq_St)) = some res from h)
  | succ n ih =>
    intro v1 v2 v3 S H locs ls h hl hP hD hS
    exact zw_X11_verify_47b C hret (fun v1 v2 v3 S H locs ls h hl hP hD hS => ih v1 v2 v3 S H locs ls h hl hP hD hS) v1 v2 v3 S H locs ls h hl hP hD hS
set_option maxHeartbeats 4000000 in
set_option maxRecDepth 100000 in
theorem zw_X11_verify_0 {p : Program} {l : Launch} {e : Env} {s : State} {m : MethodId} {args : Array Value} {below : List Frame} {meth : Method} {c : Code} {A : Nat → Prop} {D : va_G} {a z : Nat → Nat} {cI cL cB cZ : ClassId} {Q : State → Prop} {N : Nat} {res : Int32 × mq_St} (C : mq_C p s m args c A D cI cL cB cZ cX11_verify 8 RX11 zc_X11_verify) (hret : ∀ (H : Heap) (locs : List Loc) (ls : Array Slot) (pc : Nat), decode cX11_verify pc = .ok (.ireturn, 1) → va_P D vwCl (wd_R a cI cL cB cZ z res.2) H → va_D A (wd_R a cI cL cB cZ z res.2) → va_S A s.heap H locs → W p l e zr_X11_verify s m args below meth c H locs 0 0 Q (F0 m pc ls [.int res.1])) (v1 : Int32) (S : mq_St) (H : Heap) (locs : List Loc) (ls : Array Slot) (h : zf_X11_verify N z v1 S = some res) (hl : lv_has ls 8 [(0, .ref (a 0)), (1, .int (v1))]) (hP : va_P D vwCl (wd_R a cI cL cB cZ z S) H) (hD : va_D A (wd_R a cI cL cB cZ z S)) (hS : va_S A s.heap H locs) : W p l e zr_X11_verify s m args below meth c H locs 0 0 Q (F0 m 0 ls []) := by
  obtain ⟨hx, hb, hml, hown, hts, hK, hA⟩ := id C
  unfold zf_X11_verify at h
  refine lv_aload_n hx hb dX11_verify_0 rfl (lv_at hl 0 rfl) ?_
  refine lv_iconst (v := (0 : Int32)) hx hb dX11_verify_1 (by decide) ?_
  refine mq_put (w := wd_R a cI cL cB cZ z) (S := S) (D := D) (ci := 11) (v := (0 : Int32)) (ty := .int) (C := RX11) (T := TX11) (N := 76) hx hb hts (zi_X11 _) tyX11 tyX11_ok nmX11 hown hK hP hD hS 0 rfl rfl 0 (by decide) (hts _ (List.mem_cons_of_mem _ zt_f_X11_151)) (fun _ h9 => h9) rfl (by decide +kernel) rfl rfl (Nat.le_of_ble_eq_true rfl) dX11_verify_2 0 (zs_wd_R_i_0_0 _ _ _ _ _ _ _ _) (fun S1 eS1 H locs hP hD hS => ?_)
  replace h := mq_nS_go eS1 h
  refine lv_iload_n hx hb dX11_verify_5 rfl (lv_at hl 1 rfl) ?_
  refine lv_iconst (v := (0 : Int32)) hx hb dX11_verify_6 (by decide) ?_
  refine lv_bipush (v := (7 : Int32)) hx hb dX11_verify_7 (by decide) ?_
  obtain ⟨q2, hc3, h⟩ := mq_cp_go h
  refine zv_X11_in (a := mq_ad a []) (z := z) [] C zt_m_X11_161 ⟨by decide, by decide⟩ hc3 rfl (by decide) hP hD hS hl.1 (Nat.le_of_ble_eq_true rfl) dX11_verify_9 (fun H locs hP hD hS => ?_)
  refine lv_if_eq (tgt := 25) hx hb dX11_verify_12 (by decide) (fun c10 => ?_) (fun c10 => ?_)
  · replace h := mq_it c10 h
    refine lv_iconst (v := (-1 : Int32)) hx hb dX11_verify_25 (by decide) ?_
    cases h
    exact hret H locs ls 26 dX11_verify_26 hP hD hS
  · replace h := mq_if c10 h
    refine lv_aload_n hx hb dX11_verify_15 rfl (lv_at hl 0 rfl) ?_
    refine va_get (D := D) (ci := 11) (v := .ref (a 6)) (C := RX11) (T := TX11) (N := 76) hx hb hts (zi_X11 _) hown hK hP 0 rfl rfl 9 (by decide) (hts _ (List.mem_cons_of_mem _ zt_f_X11_30)) (fun _ h9 => h9) rfl dX11_verify_16 ?_
    refine lv_iload_n hx hb dX11_verify_19 rfl (lv_at hl 1 rfl) ?_
    have hi4 := mq_ck_in h
    replace h := mq_ck_go h
    refine va_iald (f := S1.2.1 5) hx hb hK hP 6 0 rfl rfl hi4 dX11_verify_20 ?_
    refine lv_iconst (v := (-1 : Int32)) hx hb dX11_verify_21 (by decide) ?_
    refine lv_icmp_ne (tgt := 27) hx hb dX11_verify_22 (by decide) (fun c9 => ?_) (fun c9 => ?_)
    · replace h := mq_if c9 h
      refine lv_aload_n hx hb dX11_verify_27 rfl (lv_at hl 0 rfl) ?_
      refine va_get (D := D) (ci := 11) (v := .int ((S1.1 1))) (C := RX11) (T := TX11) (N := 76) hx hb hts (zi_X11 _) hown hK hP 0 rfl rfl 2 (by decide) (hts _ (List.mem_cons_of_mem _ zt_f_X11_154)) (fun _ h9 => h9) rfl dX11_verify_28 ?_
      refine lv_topi (fun x5 ex5 => ?_)
      replace h := mq_nI_go ex5 h
      refine lv_istore_n (lv' := [(2, .int (x5)), (0, .ref (a 0)), (1, .int (v1))]) hx hb dX11_verify_31 rfl hl (by decide) rfl (fun ls hl => ?_)
      refine lv_aload_n hx hb dX11_verify_32 rfl (lv_at hl 1 rfl) ?_
      refine lv_iconst (v := (0 : Int32)) hx hb dX11_verify_33 (by decide) ?_
      refine mq_put (w := wd_R a cI cL cB cZ z) (S := S1) (D := D) (ci := 11) (v := (0 : Int32)) (ty := .int) (C := RX11) (T := TX11) (N := 76) hx hb hts (zi_X11 _) tyX11 tyX11_ok nmX11 hown hK hP hD hS 0 rfl rfl 2 (by decide) (hts _ (List.mem_cons_of_mem _ zt_f_X11_154)) (fun _ h9 => h9) rfl (by decide +kernel) rfl rfl (Nat.le_of_ble_eq_true rfl) dX11_verify_34 1 (zs_wd_R_i_0_1 _ _ _ _ _ _ _ _) (fun S6 eS6 H locs hP hD hS => ?_)
      replace h := mq_nS_go eS6 h
      refine lv_iload_n hx hb dX11_verify_37 rfl (lv_at hl 0 rfl) ?_
      refine lv_iconst (v := (3 : Int32)) hx hb dX11_verify_38 (by decide) ?_
      refine lv_irem hx hb dX11_verify_39 (by decide) ?_
      refine lv_if_eq (tgt := 45) hx hb dX11_verify_40 (by decide) (fun c8 => ?_) (fun c8 => ?_)
      · replace h := mq_it c8 h
        refine lv_iconst (v := (0 : Int32)) hx hb dX11_verify_45 (by decide) ?_
        refine lv_topi (fun x7 ex7 => ?_)
        replace h := mq_nI_go ex7 h
        refine lv_istore_n (lv' := [(3, .int (x7)), (2, .int (x5)), (0, .ref (a 0)), (1, .int (v1))]) hx hb dX11_verify_46 rfl hl (by decide) rfl (fun ls hl => ?_)
        exact zw_X11_verify_47 C hret N (v1) (x5) (x7) S6 H locs ls h (lv_sub hl [2, 3, 1, 0] rfl) hP hD hS
      · replace h := mq_if c8 h
        refine lv_iconst (v := (0 : Int32)) hx hb dX11_verify_43 (by decide) ?_
        cases h
        exact hret H locs ls 44 dX11_verify_44 hP hD hS
    · replace h := mq_it (by simpa using c9) h
      refine lv_iconst (v := (-1 : Int32)) hx hb dX11_verify_25 (by decide) ?_
      cases h
      exact hret H locs ls 26 dX11_verify_26 hP hD hS
set_option maxHeartbeats 4000000 in
set_option maxRecDepth 100000 in
theorem zm_X11_verify (l : Launch) (D : va_G) (a z : Nat → Nat) (cI cL cB cZ : ClassId) (sz N : Nat) (v1 : Int32) (S : mq_St) (res : Int32 × mq_St) (h : zf_X11_verify N z v1 S = some res) : Met l yX11_verify (zc_X11_verify :: mq_T) zr_X11_verify (va_Pc [.ref (a 0), .int (v1)] (fun U => U.heap.size = sz ∧ va_P D vwCl (wd_R a cI cL cB cZ z S) U.heap ∧ va_K D vwCl (mq_tys cI cL cB cZ) U ∧ va_D (fun _ => True) (wd_R a cI cL cB cZ z S))) (va_Qi (fun (r : Int32) (u : mq_St) => r = res.1 ∧ u = res.2) (fun u t => va_P D vwCl (wd_R a cI cL cB cZ z u) t.heap ∧ va_K D vwCl (mq_tys cI cL cB cZ) t ∧ va_D (va_A (wd_R a cI cL cB cZ z S) sz) (wd_R a cI cL cB cZ z u)) (va_A (wd_R a cI cL cB cZ z S) sz)) 0 0 (va_A (wd_R a cI cL cB cZ z S) sz) := by
  refine Met.ofW (cc := cX11_verify) (maxL := 8) (ret := (some .int)) (by decide) rfl ?_
  intro p e s m args below meth c s₁ B hml hv
  obtain ⟨rfl, hsz, hP, hK, hD0⟩ := hv
  have hr := B.returns
  have hlocks := B.notSynchronized
  have hts := atoms_spec (ws := zc_X11_verify :: mq_T) B.pre
  have hown : s.vm.findClass RX11 = some m.cls := findClass_of_methodNamed B.named
  subst hsz
  have hD := hD0.self (sz := s.heap.size)
  generalize hAe : va_A (wd_R a cI cL cB cZ z S) s.heap.size = A at hD ⊢
  have hA : ∀ q : Nat, s.heap.size ≤ q → A q := fun q h => by rw [← hAe]; exact Or.inr h
  have hl := lv_entry ([.ref (a 0), .int (v1)]) (n := 8) (Nat.le_of_ble_eq_true rfl)
  rw [lg_entry_eq]
  generalize (lg_sl ([.ref (a 0), .int (v1)]) ++ List.replicate (8 - (lg_sl ([.ref (a 0), .int (v1)])).length) Slot.unset).toArray = ls at hl ⊢
  have hl : lv_has ls 8 [(0, .ref (a 0)), (1, .int (v1))] := hl
  refine zw_X11_verify_0 (A := A) ⟨B.exec, B.bytes, hml, hown, hts, hK, hA⟩ (fun H locs ls pc dg hP hD hS => ?_) v1 S s.heap [] ls h hl hP hD va_S.rf
  exact W.iret B.exec B.bytes hr (fun t ht hW => ⟨⟨_, _, rfl, ⟨rfl, rfl⟩, by rw [ht]; exact hP, va_K.moved hW.alike hK, hD⟩, hS.F ht⟩) hS.2.2 dg
theorem zt_X11_verify_c : zc_X11_verify ∈ mq_T := mq_T_mem (mq_t7 (List.mem_of_getElem? (i := 143) rfl)) rfl
theorem zt_X11_verify_i : Cond.instanceMethod yX11_verify ∈ mq_T := mq_T_mem (mq_t7 (List.mem_of_getElem? (i := 141) rfl)) rfl
theorem zt_X11_verify_s : Cond.selects RX11 yX11_verify yX11_verify ∈ mq_T := mq_T_mem (mq_t7 (List.mem_of_getElem? (i := 142) rfl)) rfl
