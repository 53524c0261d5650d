/-! The class's world.  desk.yesOf: cell 1, ints 0 of 8; desk.noOf: cell 2, ints 1 of 8; tape.words: cell 4, ints 2 of 1000; tape.size: number 0; told.words: cell 6, ints 3 of 1000; told.size: number 1; stock.sorts: cell 8, ints 4 of 300; stock.firsts: cell 9, ints 5 of 300; stock.seconds: cell 10, ints 6 of 300; stock.denials: cell 11, ints 7 of 300; stock.size: number 2; ofSort.words: cell 13, longs 0 of 40; draft.sorts: cell 15, ints 8 of 150; draft.firsts: cell 16, ints 9 of 150; draft.seconds: cell 17, ints 10 of 150; draft.numbers: cell 18, ints 11 of 300; draft.way: cell 19, ints 12 of 150; draft.size: number 3; draft.over: number 4; reader.signs: cell 21, ints 13 of 400; reader.marks: cell 22, ints 14 of 400; reader.signCount: number 5; reader.markCount: number 6; reader.open: number 7; reader.brackets: number 8; reader.operandDue: number 9; reader.intuitionistic: number 10; reader.fault: number 11; reader.place: number 12; writer.way: cell 24, ints 15 of 300; writer.depth: number 13; tableau.parents: cell 26, ints 16 of 60; tableau.depths: cell 27, ints 17 of 60; tableau.eithersAhead: cell 28, ints 18 of 60; tableau.linesAhead: cell 29, ints 19 of 60; tableau.leads: cell 30, longs 1 of 60; tableau.eithers: cell 31, ints 20 of 400; tableau.counts: cell 32, ints 21 of 4; tableau.eitherCount: number 14; tableau.worldCount: number 15; tableau.world: number 16; tableau.clash: number 17; tableau.fuel: number 18; tableau.verdict: number 19; starts.words: cell 34, longs 2 of 305; sets.words: cell 36, longs 3 of 300; left.words: cell 38, longs 4 of 300; held.words: cell 40, longs 5 of 3330; lines.rows: cell 42, ints 22 of 1299; lines.size: number 20; checker.heldCount: number 21; current.words: cell 45, longs 6 of 5; model.letters: cell 47, ints 23 of 60; model.seen: cell 48, longs 7 of 60; model.oldLetters: cell 49, ints 24 of 60; model.setSizes: cell 50, ints 25 of 60; model.becomes: cell 51, ints 26 of 60; model.origins: cell 52, ints 27 of 60; model.signs: cell 53, longs 8 of 60; model.truths: cell 54, longs 9 of 300; model.known: number 22; model.size: number 23; model.changed: number 24; proofAtHand.rows: cell 56, ints 28 of 1299; proofAtHand.size: number 25 -/
def wd_C (a : Nat → Nat) (cI cL cB cZ : ClassId) (z : Nat → Nat) (S : mq_St) : va_W := [(a 0, .inr (10, [.ref (a 3), .ref (a 5), .ref (a 7), .ref (a 14), .ref (a 20), .ref (a 23), .ref (a 25), .ref (a 43), .ref (a 46), .ref (a 55), .ref (a 1), .ref (a 2)])), (a 1, .inl (cI, 8, .inl (S.2.1 0))), (a 2, .inl (cI, 8, .inl (S.2.1 1))), (a 3, .inr (0, [.ref (a 4), .int (S.1 0)])), (a 4, .inl (cI, 1000, .inl (S.2.1 2))), (a 5, .inr (0, [.ref (a 6), .int (S.1 1)])), (a 6, .inl (cI, 1000, .inl (S.2.1 3))), (a 7, .inr (7, [.ref (a 8), .ref (a 9), .ref (a 10), .ref (a 11), .ref (a 12), .int (S.1 2)])), (a 8, .inl (cI, 300, .inl (S.2.1 4))), (a 9, .inl (cI, 300, .inl (S.2.1 5))), (a 10, .inl (cI, 300, .inl (S.2.1 6))), (a 11, .inl (cI, 300, .inl (S.2.1 7))), (a 12, .inr (6, [.ref (a 13)])), (a 13, .inl (cL, 40, .inr (.inl (S.2.2 0)))), (a 14, .inr (2, [.ref (a 7), .ref (a 15), .ref (a 16), .ref (a 17), .ref (a 18), .ref (a 19), .int (S.1 3), .int (S.1 4)])), (a 15, .inl (cI, 150, .inl (S.2.1 8))), (a 16, .inl (cI, 150, .inl (S.2.1 9))), (a 17, .inl (cI, 150, .inl (S.2.1 10))), (a 18, .inl (cI, 300, .inl (S.2.1 11))), (a 19, .inl (cI, 150, .inl (S.2.1 12))), (a 20, .inr (5, [.ref (a 3), .ref (a 14), .ref (a 21), .ref (a 22), .int (S.1 5), .int (S.1 6), .int (S.1 7), .int (S.1 8), .int (S.1 9), .int (S.1 10), .int (S.1 11), .int (S.1 12)])), (a 21, .inl (cI, 400, .inl (S.2.1 13))), (a 22, .inl (cI, 400, .inl (S.2.1 14))), (a 23, .inr (9, [.ref (a 5), .ref (a 7), .ref (a 24), .int (S.1 13)])), (a 24, .inl (cI, 300, .inl (S.2.1 15))), (a 25, .inr (8, [.ref (a 7), .ref (a 33), .ref (a 35), .ref (a 37), .ref (a 26), .ref (a 27), .ref (a 28), .ref (a 29), .ref (a 30), .ref (a 31), .ref (a 39), .ref (a 41), .ref (a 32), .int (S.1 14), .int (S.1 15), .int (S.1 16), .int (S.1 17), .int (S.1 18), .int (S.1 19)])), (a 26, .inl (cI, 60, .inl (S.2.1 16))), (a 27, .inl (cI, 60, .inl (S.2.1 17))), (a 28, .inl (cI, 60, .inl (S.2.1 18))), (a 29, .inl (cI, 60, .inl (S.2.1 19))), (a 30, .inl (cL, 60, .inr (.inl (S.2.2 1)))), (a 31, .inl (cI, 400, .inl (S.2.1 20))), (a 32, .inl (cI, 4, .inl (S.2.1 21))), (a 33, .inr (6, [.ref (a 34)])), (a 34, .inl (cL, 305, .inr (.inl (S.2.2 2)))), (a 35, .inr (6, [.ref (a 36)])), (a 36, .inl (cL, 300, .inr (.inl (S.2.2 3)))), (a 37, .inr (6, [.ref (a 38)])), (a 38, .inl (cL, 300, .inr (.inl (S.2.2 4)))), (a 39, .inr (6, [.ref (a 40)])), (a 40, .inl (cL, 3330, .inr (.inl (S.2.2 5)))), (a 41, .inr (3, [.ref (a 42), .int (S.1 20)])), (a 42, .inl (cI, 1299, .inl (S.2.1 22))), (a 43, .inr (1, [.ref (a 3), .ref (a 7), .ref (a 44), .ref (a 39), .int (S.1 21)])), (a 44, .inr (6, [.ref (a 45)])), (a 45, .inl (cL, 5, .inr (.inl (S.2.2 6)))), (a 46, .inr (4, [.ref (a 7), .ref (a 47), .ref (a 48), .ref (a 49), .ref (a 50), .ref (a 51), .ref (a 52), .ref (a 53), .ref (a 54), .int (S.1 22), .int (S.1 23), .int (S.1 24)])), (a 47, .inl (cI, 60, .inl (S.2.1 23))), (a 48, .inl (cL, 60, .inr (.inl (S.2.2 7)))), (a 49, .inl (cI, 60, .inl (S.2.1 24))), (a 50, .inl (cI, 60, .inl (S.2.1 25))), (a 51, .inl (cI, 60, .inl (S.2.1 26))), (a 52, .inl (cI, 60, .inl (S.2.1 27))), (a 53, .inl (cL, 60, .inr (.inl (S.2.2 8)))), (a 54, .inl (cL, 300, .inr (.inl (S.2.2 9)))), (a 55, .inr (3, [.ref (a 56), .int (S.1 25)])), (a 56, .inl (cI, 1299, .inl (S.2.1 28)))]
theorem zy_C_0 {s : State} {H : Heap} {D : va_G} {a z : Nat → Nat} {cI cL cB cZ : ClassId} {S : mq_St} (hK : va_K D vwCl (mq_tys cI cL cB cZ) s) (hP : va_P D vwCl (wd_C a cI cL cB cZ z S) H) : ∃ cell : Cell, H[a 0]? = some cell ∧ cell.vm.isStatics = false ∧ s.vm.findClass RX10 = some cell.cls := va_recv hK hP (ci := 10) (q0 := 0) rfl rfl
theorem zy_C_23 {s : State} {H : Heap} {D : va_G} {a z : Nat → Nat} {cI cL cB cZ : ClassId} {S : mq_St} (hK : va_K D vwCl (mq_tys cI cL cB cZ) s) (hP : va_P D vwCl (wd_C a cI cL cB cZ z S) H) : ∃ cell : Cell, H[a 23]? = some cell ∧ cell.vm.isStatics = false ∧ s.vm.findClass RX9 = some cell.cls := va_recv hK hP (ci := 9) (q0 := 23) rfl rfl
theorem zy_C_25 {s : State} {H : Heap} {D : va_G} {a z : Nat → Nat} {cI cL cB cZ : ClassId} {S : mq_St} (hK : va_K D vwCl (mq_tys cI cL cB cZ) s) (hP : va_P D vwCl (wd_C a cI cL cB cZ z S) H) : ∃ cell : Cell, H[a 25]? = some cell ∧ cell.vm.isStatics = false ∧ s.vm.findClass RX8 = some cell.cls := va_recv hK hP (ci := 8) (q0 := 25) rfl rfl
theorem zy_C_7 {s : State} {H : Heap} {D : va_G} {a z : Nat → Nat} {cI cL cB cZ : ClassId} {S : mq_St} (hK : va_K D vwCl (mq_tys cI cL cB cZ) s) (hP : va_P D vwCl (wd_C a cI cL cB cZ z S) H) : ∃ cell : Cell, H[a 7]? = some cell ∧ cell.vm.isStatics = false ∧ s.vm.findClass RX7 = some cell.cls := va_recv hK hP (ci := 7) (q0 := 7) rfl rfl
theorem zy_C_20 {s : State} {H : Heap} {D : va_G} {a z : Nat → Nat} {cI cL cB cZ : ClassId} {S : mq_St} (hK : va_K D vwCl (mq_tys cI cL cB cZ) s) (hP : va_P D vwCl (wd_C a cI cL cB cZ z S) H) : ∃ cell : Cell, H[a 20]? = some cell ∧ cell.vm.isStatics = false ∧ s.vm.findClass RX5 = some cell.cls := va_recv hK hP (ci := 5) (q0 := 20) rfl rfl
theorem zy_C_46 {s : State} {H : Heap} {D : va_G} {a z : Nat → Nat} {cI cL cB cZ : ClassId} {S : mq_St} (hK : va_K D vwCl (mq_tys cI cL cB cZ) s) (hP : va_P D vwCl (wd_C a cI cL cB cZ z S) H) : ∃ cell : Cell, H[a 46]? = some cell ∧ cell.vm.isStatics = false ∧ s.vm.findClass RX4 = some cell.cls := va_recv hK hP (ci := 4) (q0 := 46) rfl rfl
theorem zy_C_14 {s : State} {H : Heap} {D : va_G} {a z : Nat → Nat} {cI cL cB cZ : ClassId} {S : mq_St} (hK : va_K D vwCl (mq_tys cI cL cB cZ) s) (hP : va_P D vwCl (wd_C a cI cL cB cZ z S) H) : ∃ cell : Cell, H[a 14]? = some cell ∧ cell.vm.isStatics = false ∧ s.vm.findClass RX2 = some cell.cls := va_recv hK hP (ci := 2) (q0 := 14) rfl rfl
theorem zy_C_43 {s : State} {H : Heap} {D : va_G} {a z : Nat → Nat} {cI cL cB cZ : ClassId} {S : mq_St} (hK : va_K D vwCl (mq_tys cI cL cB cZ) s) (hP : va_P D vwCl (wd_C a cI cL cB cZ z S) H) : ∃ cell : Cell, H[a 43]? = some cell ∧ cell.vm.isStatics = false ∧ s.vm.findClass RX1 = some cell.cls := va_recv hK hP (ci := 1) (q0 := 43) rfl rfl
theorem zt_f_X7_41 : Cond.fieldLink RX7 41 "ModalDesk$Stock" "size" "I" ∈ mq_T := mq_T_mem (mq_t1 (List.mem_of_getElem? (i := 86) rfl)) rfl
theorem zi_X7 (c1 : Cond) : ∀ w ∈ u_ws RX7 TX7 6, w ∈ c1 :: mq_T := fun w h => List.mem_cons_of_mem _ (mq_T_mem (mq_inl [(1, 87), (1, 89), (1, 91), (1, 93), (1, 95), (1, 97)] (by decide +kernel) w h) ((by decide +kernel : ∀ w ∈ u_ws RX7 TX7 6, goodWord w = true) w h))
theorem zs_wd_C_i_7_2 (a z : Nat → Nat) (cI cL cB cZ : ClassId) (S : mq_St) (v : Int32) : (wd_C a cI cL cB cZ z S).set 7 (a 7, .inr (7, ([.ref (a 8), .ref (a 9), .ref (a 10), .ref (a 11), .ref (a 12), .int (S.1 2)] : List Value).set 5 (.int v))) = (wd_C a cI cL cB cZ z (mq_si S 2 v)) := rfl
theorem zt_f_X7_9 : Cond.fieldLink RX7 9 "ModalDesk$Stock" "sorts" "[I" ∈ mq_T := mq_T_mem (mq_t1 (List.mem_of_getElem? (i := 81) rfl)) rfl
theorem zs_wd_C_a_8_4 (a z : Nat → Nat) (cI cL cB cZ : ClassId) (S : mq_St) (f : Nat → Int32) : (wd_C a cI cL cB cZ z S).set 8 (a 8, .inl (cI, 300, .inl f)) = (wd_C a cI cL cB cZ z (mq_sa S 4 f)) := rfl
theorem zt_f_X7_15 : Cond.fieldLink RX7 15 "ModalDesk$Stock" "firsts" "[I" ∈ mq_T := mq_T_mem (mq_t1 (List.mem_of_getElem? (i := 82) rfl)) rfl
theorem zs_wd_C_a_9_5 (a z : Nat → Nat) (cI cL cB cZ : ClassId) (S : mq_St) (f : Nat → Int32) : (wd_C a cI cL cB cZ z S).set 9 (a 9, .inl (cI, 300, .inl f)) = (wd_C a cI cL cB cZ z (mq_sa S 5 f)) := rfl
theorem zt_f_X7_18 : Cond.fieldLink RX7 18 "ModalDesk$Stock" "seconds" "[I" ∈ mq_T := mq_T_mem (mq_t1 (List.mem_of_getElem? (i := 83) rfl)) rfl
theorem zs_wd_C_a_10_6 (a z : Nat → Nat) (cI cL cB cZ : ClassId) (S : mq_St) (f : Nat → Int32) : (wd_C a cI cL cB cZ z S).set 10 (a 10, .inl (cI, 300, .inl f)) = (wd_C a cI cL cB cZ z (mq_sa S 6 f)) := rfl
theorem zt_f_X7_21 : Cond.fieldLink RX7 21 "ModalDesk$Stock" "denials" "[I" ∈ mq_T := mq_T_mem (mq_t1 (List.mem_of_getElem? (i := 84) rfl)) rfl
theorem zs_wd_C_a_11_7 (a z : Nat → Nat) (cI cL cB cZ : ClassId) (S : mq_St) (f : Nat → Int32) : (wd_C a cI cL cB cZ z S).set 11 (a 11, .inl (cI, 300, .inl f)) = (wd_C a cI cL cB cZ z (mq_sa S 7 f)) := rfl
theorem zt_f_X7_29 : Cond.fieldLink RX7 29 "ModalDesk$Stock" "ofSort" "LModalDesk$Sets;" ∈ mq_T := mq_T_mem (mq_t1 (List.mem_of_getElem? (i := 85) rfl)) rfl
theorem zt_m_X7_55 : Cond.methodLink RX7 55 yX6_put ∈ mq_T := mq_T_mem (mq_t1 (List.mem_of_getElem? (i := 65) rfl)) rfl
theorem zx_wd_C_wd_S_12_13 (a z : Nat → Nat) (cI cL cB cZ : ClassId) (S X : mq_St) : mq_setM (wd_C a cI cL cB cZ z S) [12, 13] (wd_S (mq_ad a [12, 13]) cI cL cB cZ (fun k => [40].getD k 0) X) = (wd_C a cI cL cB cZ z (mq_push S X [] [] [0])) := rfl
/-! ModalDesk$Stock.append(III)I -/
def zr_X7_append : Room := { frames := 2, cells := 0, slots := 0, locals := 44 }
def zc_X7_append : Cond := .code yX7_append cX7_append 5 (some .int)
def zf_X7_append (N : Nat) (z : Nat → Nat) (v1 : Int32) (v2 : Int32) (v3 : Int32) (S : mq_St) : Option (Int32 × mq_St) := (if (S.1 2) < (300 : Int32) then (mq_nI ((S.1 2)) (fun x1 => (mq_nS (mq_si S 2 (((S.1 2) + (1 : Int32)))) (fun S2 => (mq_ck (x1) 300 (mq_nS (mq_sa S2 4 (upd (S2.2.1 4) (x1).toNatClampNeg (v1))) (fun S4 => (mq_ck (x1) 300 (mq_nS (mq_sa S4 5 (upd (S4.2.1 5) (x1).toNatClampNeg (v2))) (fun S6 => (mq_ck (x1) 300 (mq_nS (mq_sa S6 6 (upd (S6.2.1 6) (x1).toNatClampNeg (v3))) (fun S8 => (mq_ck (x1) 300 (mq_nS (mq_sa S8 7 (upd (S8.2.1 7) (x1).toNatClampNeg ((-1 : Int32)))) (fun S10 => (mq_cl (zf_X6_put N (fun k => [40].getD k 0) (v1) (x1) (mq_pull S10 [] [] [0])) (fun q11v q11s => mq_nS (mq_push S10 q11s [] [] [0]) (fun S13 => (some (x1, S13))))))))))))))))))))) else (some ((-1 : Int32), S)))
set_option maxHeartbeats 4000000 in
set_option maxRecDepth 100000 in
theorem zw_X7_append_0 {p : Program} {l : Launch} {e : Env} {s : State} {m : MethodId} {args : Array Value} {below : List Frame} {meth : Method} {c : Code} {A : Nat → Prop} {D : va_G} {a z : Nat → Nat} {cI cL cB cZ : ClassId} {Q : State → Prop} {N : Nat} {res : Int32 × mq_St} (C : mq_C p s m args c A D cI cL cB cZ cX7_append 5 RX7 zc_X7_append) (hret : ∀ (H : Heap) (locs : List Loc) (ls : Array Slot) (pc : Nat), decode cX7_append pc = .ok (.ireturn, 1) → va_P D vwCl (wd_C a cI cL cB cZ z res.2) H → va_D A (wd_C a cI cL cB cZ z res.2) → va_S A s.heap H locs → W p l e zr_X7_append s m args below meth c H locs 0 0 Q (F0 m pc ls [.int res.1])) (v1 : Int32) (v2 : Int32) (v3 : Int32) (S : mq_St) (H : Heap) (locs : List Loc) (ls : Array Slot) (h : zf_X7_append N z v1 v2 v3 S = some res) (hl : lv_has ls 5 [(0, .ref (a 7)), (1, .int (v1)), (2, .int (v2)), (3, .int (v3))]) (hP : va_P D vwCl (wd_C a cI cL cB cZ z S) H) (hD : va_D A (wd_C a cI cL cB cZ z S)) (hS : va_S A s.heap H locs) : W p l e zr_X7_append s m args below meth c H locs 0 0 Q (F0 m 0 ls []) := by
  obtain ⟨hx, hb, hml, hown, hts, hK, hA⟩ := id C
  unfold zf_X7_append at h
  refine lv_aload_n hx hb dX7_append_0 rfl (lv_at hl 0 rfl) ?_
  refine va_get (D := D) (ci := 7) (v := .int ((S.1 2))) (C := RX7) (T := TX7) (N := 6) hx hb hts (zi_X7 _) hown hK hP 7 rfl rfl 5 (by decide) (hts _ (List.mem_cons_of_mem _ zt_f_X7_41)) (fun _ h9 => h9) rfl dX7_append_1 ?_
  refine lv_sipush (v := (300 : Int32)) hx hb dX7_append_4 (by decide) ?_
  refine lv_icmp_lt (tgt := 12) hx hb dX7_append_7 (by decide) (fun c14 => ?_) (fun c14 => ?_)
  · replace h := mq_it c14 h
    refine lv_aload_n hx hb dX7_append_12 rfl (lv_at hl 0 rfl) ?_
    refine va_get (D := D) (ci := 7) (v := .int ((S.1 2))) (C := RX7) (T := TX7) (N := 6) hx hb hts (zi_X7 _) hown hK hP 7 rfl rfl 5 (by decide) (hts _ (List.mem_cons_of_mem _ zt_f_X7_41)) (fun _ h9 => h9) rfl dX7_append_13 ?_
    refine lv_topi (fun x1 ex1 => ?_)
    replace h := mq_nI_go ex1 h
    refine lv_istore (lv' := [(4, .int (x1)), (0, .ref (a 7)), (1, .int (v1)), (2, .int (v2)), (3, .int (v3))]) hx hb dX7_append_16 hl (by decide) rfl (fun ls hl => ?_)
    refine lv_aload_n hx hb dX7_append_18 rfl (lv_at hl 1 rfl) ?_
    refine lv_dup hx hb dX7_append_19 rfl ?_
    refine va_get (D := D) (ci := 7) (v := .int ((S.1 2))) (C := RX7) (T := TX7) (N := 6) hx hb hts (zi_X7 _) hown hK hP 7 rfl rfl 5 (by decide) (hts _ (List.mem_cons_of_mem _ zt_f_X7_41)) (fun _ h9 => h9) rfl dX7_append_20 ?_
    refine lv_iconst (v := (1 : Int32)) hx hb dX7_append_23 (by decide) ?_
    refine lv_iadd hx hb dX7_append_24 ?_
    refine mq_put (w := wd_C a cI cL cB cZ z) (S := S) (D := D) (ci := 7) (v := ((S.1 2) + (1 : Int32))) (ty := .int) (C := RX7) (T := TX7) (N := 6) hx hb hts (zi_X7 _) tyX7 tyX7_ok nmX7 hown hK hP hD hS 7 rfl rfl 5 (by decide) (hts _ (List.mem_cons_of_mem _ zt_f_X7_41)) (fun _ h9 => h9) rfl (by decide +kernel) rfl rfl (Nat.le_of_ble_eq_true rfl) dX7_append_25 2 (zs_wd_C_i_7_2 _ _ _ _ _ _ _ _) (fun S2 eS2 H locs hP hD hS => ?_)
    replace h := mq_nS_go eS2 h
    refine lv_aload_n hx hb dX7_append_28 rfl (lv_at hl 1 rfl) ?_
    refine va_get (D := D) (ci := 7) (v := .ref (a 8)) (C := RX7) (T := TX7) (N := 6) hx hb hts (zi_X7 _) hown hK hP 7 rfl rfl 0 (by decide) (hts _ (List.mem_cons_of_mem _ zt_f_X7_9)) (fun _ h9 => h9) rfl dX7_append_29 ?_
    refine lv_iload hx hb dX7_append_32 (lv_at hl 0 rfl) ?_
    refine lv_iload_n hx hb dX7_append_34 rfl (lv_at hl 2 rfl) ?_
    have hi3 := mq_ck_in h
    replace h := mq_ck_go h
    refine mq_iast (w := wd_C a cI cL cB cZ z) (S := S2) (f := S2.2.1 4) hx hb hK hP hD hS 8 0 rfl rfl hi3 dX7_append_35 4 (zs_wd_C_a_8_4 _ _ _ _ _ _ _ _) (fun S4 eS4 H locs hP hD hS => ?_)
    replace h := mq_nS_go eS4 h
    refine lv_aload_n hx hb dX7_append_36 rfl (lv_at hl 1 rfl) ?_
    refine va_get (D := D) (ci := 7) (v := .ref (a 9)) (C := RX7) (T := TX7) (N := 6) hx hb hts (zi_X7 _) hown hK hP 7 rfl rfl 1 (by decide) (hts _ (List.mem_cons_of_mem _ zt_f_X7_15)) (fun _ h9 => h9) rfl dX7_append_37 ?_
    refine lv_iload hx hb dX7_append_40 (lv_at hl 0 rfl) ?_
    refine lv_iload_n hx hb dX7_append_42 rfl (lv_at hl 3 rfl) ?_
    have hi5 := mq_ck_in h
    replace h := mq_ck_go h
    refine mq_iast (w := wd_C a cI cL cB cZ z) (S := S4) (f := S4.2.1 5) hx hb hK hP hD hS 9 0 rfl rfl hi5 dX7_append_43 5 (zs_wd_C_a_9_5 _ _ _ _ _ _ _ _) (fun S6 eS6 H locs hP hD hS => ?_)
    replace h := mq_nS_go eS6 h
    refine lv_aload_n hx hb dX7_append_44 rfl (lv_at hl 1 rfl) ?_
    refine va_get (D := D) (ci := 7) (v := .ref (a 10)) (C := RX7) (T := TX7) (N := 6) hx hb hts (zi_X7 _) hown hK hP 7 rfl rfl 2 (by decide) (hts _ (List.mem_cons_of_mem _ zt_f_X7_18)) (fun _ h9 => h9) rfl dX7_append_45 ?_
    refine lv_iload hx hb dX7_append_48 (lv_at hl 0 rfl) ?_
    refine lv_iload_n hx hb dX7_append_50 rfl (lv_at hl 4 rfl) ?_
    have hi7 := mq_ck_in h
    replace h := mq_ck_go h
    refine mq_iast (w := wd_C a cI cL cB cZ z) (S := S6) (f := S6.2.1 6) hx hb hK hP hD hS 10 0 rfl rfl hi7 dX7_append_51 6 (zs_wd_C_a_10_6 _ _ _ _ _ _ _ _) (fun S8 eS8 H locs hP hD hS => ?_)
    replace h := mq_nS_go eS8 h
    refine lv_aload_n hx hb dX7_append_52 rfl (lv_at hl 1 rfl) ?_
    refine va_get (D := D) (ci := 7) (v := .ref (a 11)) (C := RX7) (T := TX7) (N := 6) hx hb hts (zi_X7 _) hown hK hP 7 rfl rfl 3 (by decide) (hts _ (List.mem_cons_of_mem _ zt_f_X7_21)) (fun _ h9 => h9) rfl dX7_append_53 ?_
    refine lv_iload hx hb dX7_append_56 (lv_at hl 0 rfl) ?_
    refine lv_iconst (v := (-1 : Int32)) hx hb dX7_append_58 (by decide) ?_
    have hi9 := mq_ck_in h
    replace h := mq_ck_go h
    refine mq_iast (w := wd_C a cI cL cB cZ z) (S := S8) (f := S8.2.1 7) hx hb hK hP hD hS 11 0 rfl rfl hi9 dX7_append_59 7 (zs_wd_C_a_11_7 _ _ _ _ _ _ _ _) (fun S10 eS10 H locs hP hD hS => ?_)
    replace h := mq_nS_go eS10 h
    refine lv_aload_n hx hb dX7_append_60 rfl (lv_at hl 1 rfl) ?_
    refine va_get (D := D) (ci := 7) (v := .ref (a 12)) (C := RX7) (T := TX7) (N := 6) hx hb hts (zi_X7 _) hown hK hP 7 rfl rfl 4 (by decide) (hts _ (List.mem_cons_of_mem _ zt_f_X7_29)) (fun _ h9 => h9) rfl dX7_append_61 ?_
    refine lv_iload_n hx hb dX7_append_64 rfl (lv_at hl 2 rfl) ?_
    refine lv_iload hx hb dX7_append_65 (lv_at hl 0 rfl) ?_
    obtain ⟨q11, hc12, h⟩ := mq_cl_go h
    refine zv_X6_put (a := mq_ad a [12, 13]) (z := (fun k => [40].getD k 0)) [12, 13] C zt_m_X7_55 ⟨by decide, by decide⟩ hc12 rfl (by decide) (ws' := (wd_C a cI cL cB cZ z (mq_push S10 q11.2 [] [] [0]))) (zx_wd_C_wd_S_12_13 _ _ _ _ _ _ _ _) hP hD hS hl.1 (Nat.le_of_ble_eq_true rfl) dX7_append_67 (fun H locs hP hD hS => ?_)
    obtain ⟨S13, eS13⟩ : ∃ y, y = mq_push S10 q11.2 [] [] [0] := ⟨_, rfl⟩
    replace h := mq_nS_go eS13 h
    rw [← eS13] at hP hD
    refine lv_iload hx hb dX7_append_70 (lv_at hl 0 rfl) ?_
    cases h
    exact hret H locs ls 72 dX7_append_72 hP hD hS
  · replace h := mq_if c14 h
    refine lv_iconst (v := (-1 : Int32)) hx hb dX7_append_10 (by decide) ?_
    cases h
    exact hret H locs ls 11 dX7_append_11 hP hD hS
set_option maxHeartbeats 4000000 in
set_option maxRecDepth 100000 in
theorem zm_X7_append (l : Launch) (D : va_G) (a z : Nat → Nat) (cI cL cB cZ : ClassId) (sz N : Nat) (v1 : Int32) (v2 : Int32) (v3 : Int32) (S : mq_St) (res : Int32 × mq_St) (h : zf_X7_append N z v1 v2 v3 S = some res) : Met l yX7_append (zc_X7_append :: mq_T) zr_X7_append (va_Pc [.ref (a 7), .int (v1), .int (v2), .int (v3)] (fun U => U.heap.size = sz ∧ va_P D vwCl (wd_C a cI cL cB cZ z S) U.heap ∧ va_K D vwCl (mq_tys cI cL cB cZ) U ∧ va_D (fun _ => True) (wd_C a cI cL cB cZ z S))) (va_Qi (fun (r : Int32) (u : mq_St) => r = res.1 ∧ u = res.2) (fun u t => va_P D vwCl (wd_C a cI cL cB cZ z u) t.heap ∧ va_K D vwCl (mq_tys cI cL cB cZ) t ∧ va_D (va_A (wd_C a cI cL cB cZ z S) sz) (wd_C a cI cL cB cZ z u)) (va_A (wd_C a cI cL cB cZ z S) sz)) 0 0 (va_A (wd_C a cI cL cB cZ z S) sz) := by
  refine Met.ofW (cc := cX7_append) (maxL := 5) (ret := (some .int)) (by decide) rfl ?_
  intro p e s m args below meth c s₁ B hml hv
  obtain ⟨rfl, hsz, hP, hK, hD0⟩ := hv
  have hr := B.returns
  have hlocks := B.notSynchronized
  have hts := atoms_spec (ws := zc_X7_append :: mq_T) B.pre
  have hown : s.vm.findClass RX7 = some m.cls := findClass_of_methodNamed B.named
  subst hsz
  have hD := hD0.self (sz := s.heap.size)
  generalize hAe : va_A (wd_C a cI cL cB cZ z S) s.heap.size = A at hD ⊢
  have hA : ∀ q : Nat, s.heap.size ≤ q → A q := fun q h => by rw [← hAe]; exact Or.inr h
  have hl := lv_entry ([.ref (a 7), .int (v1), .int (v2), .int (v3)]) (n := 5) (Nat.le_of_ble_eq_true rfl)
  rw [lg_entry_eq]
  generalize (lg_sl ([.ref (a 7), .int (v1), .int (v2), .int (v3)]) ++ List.replicate (5 - (lg_sl ([.ref (a 7), .int (v1), .int (v2), .int (v3)])).length) Slot.unset).toArray = ls at hl ⊢
  have hl : lv_has ls 5 [(0, .ref (a 7)), (1, .int (v1)), (2, .int (v2)), (3, .int (v3))] := hl
  refine zw_X7_append_0 (A := A) ⟨B.exec, B.bytes, hml, hown, hts, hK, hA⟩ (fun H locs ls pc dg hP hD hS => ?_) v1 v2 v3 S s.heap [] ls h hl hP hD va_S.rf
  exact W.iret B.exec B.bytes hr (fun t ht hW => ⟨⟨_, _, rfl, ⟨rfl, rfl⟩, by rw [ht]; exact hP, va_K.moved hW.alike hK, hD⟩, hS.F ht⟩) hS.2.2 dg
theorem zt_X7_append_c : zc_X7_append ∈ mq_T := mq_T_mem (mq_t1 (List.mem_of_getElem? (i := 64) rfl)) rfl
theorem zt_X7_append_i : Cond.instanceMethod yX7_append ∈ mq_T := mq_T_mem (mq_t1 (List.mem_of_getElem? (i := 63) rfl)) rfl
theorem zt_X7_append_s : Cond.selects RX7 yX7_append yX7_append ∈ mq_T := mq_T_at 0 (by decide +kernel)
theorem zt_ini_X7 : Cond.initialized RX7 ∈ mq_T := mq_T_mem (mq_t1 (List.mem_of_getElem? (i := 3) rfl)) rfl
set_option maxHeartbeats 4000000 in
theorem zk_X7_append {p : Program} {l : Launch} {e : Env} {R : Room} {s : State} {m : MethodId} {args : Array Value} {below : List Frame} {meth : Method} {c : Code} {A : Nat → Prop} {D : va_G} {a z : Nat → Nat} {cI cL cB cZ : ClassId} {Q : State → Prop} {cc : ByteArray} {nL idx pc N : Nat} {own : String} {c1 : Cond} {H : Heap} {locs : List Loc} {ls : Array Slot} {rest : List Value} {S : mq_St} {res : Int32 × mq_St} {v1 : Int32} {v2 : Int32} {v3 : Int32} (C : mq_C p s m args c A D cI cL cB cZ cc nL own c1) (hlk : Cond.methodLink own idx yX7_append ∈ mq_T) (hR : zr_X7_append.frames + 1 ≤ R.frames ∧ 8 + (5 + 11) + zr_X7_append.locals ≤ R.locals) (h : zf_X7_append N z v1 v2 v3 S = some res) (hP : va_P D vwCl (wd_C a cI cL cB cZ z S) H) (hD : va_D A (wd_C a cI cL cB cZ z S)) (hS : va_S A s.heap H locs) (hls : ls.size = nL) (hrest : (rest.map fun v => v.category).sum ≤ 8) (hdg : decode cc pc = .ok (.invokevirtual idx, 3)) (kk : ∀ (H1 : Heap) (locs1 : List Loc), va_P D vwCl (wd_C a cI cL cB cZ z res.2) H1 → va_D A (wd_C a cI cL cB cZ z res.2) → va_S A s.heap H1 locs1 → W p l e R s m args below meth c H1 locs1 0 0 Q (F0 m (pc + 3) ls (.int res.1 :: rest))) : W p l e R s m args below meth c H locs 0 0 Q (F0 m pc ls (.int (v3) :: .int (v2) :: .int (v1) :: .ref (a 7) :: rest)) := by
  obtain ⟨hx, hb, hml, hown, hts, hK, hA⟩ := C
  have hFc := mq_freeI hD hS hA
  refine va_calli (va_runV (As := [.int (v1), .int (v2), .int (v3)]) (rest := rest) ⟨hx, hb, hml, hown, hts⟩ (zm_X7_append l D a z cI cL cB cZ H.size N v1 v2 v3 S res h) (cwV 3 hts (mq_goodL (mq_wsV hlk zt_X7_append_i zt_X7_append_s zt_ini_X7 zt_X7_append_c)) rfl rfl rfl (by decide +kernel) hR) ⟨fun a U g mk q => ⟨q.1, q.2.1, q.2.2.1, va_K.moved (u := U) (U := U.calling g mk a) (Vm.Alike.refl U.vm) q.2.2.2.1, q.2.2.2.2⟩, zy_C_7 hK hP, fun U hU hW => ⟨rfl, by rw [hU], by rw [hU]; exact hP, va_K.moved hW.alike hK, hD.weaken (fun _ _ _ _ => trivial)⟩⟩ rfl rfl hls rfl (lv_room hrest) hdg ⟨Nat.zero_le _, Nat.zero_le _⟩) hS (fun q _ h => hFc q h) hFc (fun r u t H1 locs ht hvm hw hB hz1 hk1 hS => ?_)
  obtain ⟨rfl, rfl⟩ := hw
  obtain ⟨hP1, hK1, hD1⟩ := hB
  rw [ht] at hP1
  exact kk H1 locs hP1 (hD1.weaken (fun _ _ _ h => hFc _ h)) hS
/-! ModalDesk$Stock.bySort()LModalDesk$Sets; -/
def zr_X7_bySort : Room := { frames := 0, cells := 0, slots := 0, locals := 0 }
def zc_X7_bySort : Cond := .code yX7_bySort cX7_bySort 1 (some (.object "ModalDesk$Sets"))
def zf_X7_bySort (N : Nat) (z : Nat → Nat) (S : mq_St) : Option (Unit) := (some (()))
set_option maxHeartbeats 4000000 in
set_option maxRecDepth 100000 in
theorem zw_X7_bySort_0 {p : Program} {l : Launch} {e : Env} {s : State} {m : MethodId} {args : Array Value} {below : List Frame} {meth : Method} {c : Code} {A : Nat → Prop} {D : va_G} {a z : Nat → Nat} {cI cL cB cZ : ClassId} {Q : State → Prop} {N : Nat} {S : mq_St} {res : Unit} (C : mq_C p s m args c A D cI cL cB cZ cX7_bySort 1 RX7 zc_X7_bySort) (hret : ∀ (H : Heap) (locs : List Loc) (ls : Array Slot) (pc : Nat), decode cX7_bySort pc = .ok (.areturn, 1) → va_P D vwCl (wd_C a cI cL cB cZ z S) H → va_D A (wd_C a cI cL cB cZ z S) → va_S A s.heap H locs → W p l e zr_X7_bySort s m args below meth c H locs 0 0 Q (F0 m pc ls [.ref (a 12)])) (H : Heap) (locs : List Loc) (ls : Array Slot) (h : zf_X7_bySort N z S = some res) (hl : lv_has ls 1 [(0, .ref (a 7))]) (hP : va_P D vwCl (wd_C a cI cL cB cZ z S) H) (hD : va_D A (wd_C a cI cL cB cZ z S)) (hS : va_S A s.heap H locs) : W p l e zr_X7_bySort s m args below meth c H locs 0 0 Q (F0 m 0 ls []) := by
  obtain ⟨hx, hb, hml, hown, hts, hK, hA⟩ := id C
  unfold zf_X7_bySort at h
  refine lv_aload_n hx hb dX7_bySort_0 rfl (lv_at hl 0 rfl) ?_
  refine va_get (D := D) (ci := 7) (v := .ref (a 12)) (C := RX7) (T := TX7) (N := 6) hx hb hts (zi_X7 _) hown hK hP 7 rfl rfl 4 (by decide) (hts _ (List.mem_cons_of_mem _ zt_f_X7_29)) (fun _ h9 => h9) rfl dX7_bySort_1 ?_
  cases h
  exact hret H locs ls 4 dX7_bySort_4 hP hD hS
set_option maxHeartbeats 4000000 in
set_option maxRecDepth 100000 in
theorem zm_X7_bySort (l : Launch) (D : va_G) (a z : Nat → Nat) (cI cL cB cZ : ClassId) (sz N : Nat) (S : mq_St) (res : Unit) (h : zf_X7_bySort N z S = some res) : Met l yX7_bySort (zc_X7_bySort :: mq_T) zr_X7_bySort (va_Pc [.ref (a 7)] (fun U => U.heap.size = sz ∧ va_P D vwCl (wd_C a cI cL cB cZ z S) U.heap ∧ va_K D vwCl (mq_tys cI cL cB cZ) U ∧ va_D (fun _ => True) (wd_C a cI cL cB cZ z S))) (va_Qr (fun u : mq_St => u = S) (fun u b t => b = a 12 ∧ va_P D vwCl (wd_C a cI cL cB cZ z u) t.heap ∧ va_K D vwCl (mq_tys cI cL cB cZ) t ∧ va_D (va_A (wd_C a cI cL cB cZ z S) sz) (wd_C a cI cL cB cZ z u)) (va_A (wd_C a cI cL cB cZ z S) sz)) 0 0 (va_A (wd_C a cI cL cB cZ z S) sz) := by
  refine Met.ofW (cc := cX7_bySort) (maxL := 1) (ret := (some (.object "ModalDesk$Sets"))) (by decide) rfl ?_
  intro p e s m args below meth c s₁ B hml hv
  obtain ⟨rfl, hsz, hP, hK, hD0⟩ := hv
  have hr := B.returns
  have hlocks := B.notSynchronized
  have hts := atoms_spec (ws := zc_X7_bySort :: mq_T) B.pre
  have hown : s.vm.findClass RX7 = some m.cls := findClass_of_methodNamed B.named
  subst hsz
  have hD := hD0.self (sz := s.heap.size)
  generalize hAe : va_A (wd_C a cI cL cB cZ z S) s.heap.size = A at hD ⊢
  have hA : ∀ q : Nat, s.heap.size ≤ q → A q := fun q h => by rw [← hAe]; exact Or.inr h
  have hl := lv_entry ([.ref (a 7)]) (n := 1) (Nat.le_of_ble_eq_true rfl)
  rw [lg_entry_eq]
  generalize (lg_sl ([.ref (a 7)]) ++ List.replicate (1 - (lg_sl ([.ref (a 7)])).length) Slot.unset).toArray = ls at hl ⊢
  have hl : lv_has ls 1 [(0, .ref (a 7))] := hl
  refine zw_X7_bySort_0 (A := A) ⟨B.exec, B.bytes, hml, hown, hts, hK, hA⟩ (fun H locs ls pc dg hP hD hS => ?_) s.heap [] ls h hl hP hD va_S.rf
  exact W.aret B.exec B.bytes hr (Or.inl ⟨_, rfl⟩) (Or.inr ⟨_, rfl⟩) (fun t ht hW => ⟨⟨_, _, rfl, rfl, rfl, by rw [ht]; exact hP, va_K.moved hW.alike hK, hD⟩, hS.F ht⟩) hS.2.2 dg
theorem zt_X7_bySort_c : zc_X7_bySort ∈ mq_T := mq_T_mem (mq_t4 (List.mem_of_getElem? (i := 70) rfl)) rfl
theorem zt_X7_bySort_i : Cond.instanceMethod yX7_bySort ∈ mq_T := mq_T_mem (mq_t4 (List.mem_of_getElem? (i := 68) rfl)) rfl
theorem zt_X7_bySort_s : Cond.selects RX7 yX7_bySort yX7_bySort ∈ mq_T := mq_T_mem (mq_t4 (List.mem_of_getElem? (i := 69) rfl)) rfl
set_option maxHeartbeats 4000000 in
theorem zk_X7_bySort {p : Program} {l : Launch} {e : Env} {R : Room} {s : State} {m : MethodId} {args : Array Value} {below : List Frame} {meth : Method} {c : Code} {A : Nat → Prop} {D : va_G} {a z : Nat → Nat} {cI cL cB cZ : ClassId} {Q : State → Prop} {cc : ByteArray} {nL idx pc N : Nat} {own : String} {c1 : Cond} {H : Heap} {locs : List Loc} {ls : Array Slot} {rest : List Value} {S : mq_St} {res : Unit} (C : mq_C p s m args c A D cI cL cB cZ cc nL own c1) (hlk : Cond.methodLink own idx yX7_bySort ∈ mq_T) (hR : zr_X7_bySort.frames + 1 ≤ R.frames ∧ 8 + (1 + 11) + zr_X7_bySort.locals ≤ R.locals) (h : zf_X7_bySort N z S = some res) (hP : va_P D vwCl (wd_C a cI cL cB cZ z S) H) (hD : va_D A (wd_C a cI cL cB cZ z S)) (hS : va_S A s.heap H locs) (hls : ls.size = nL) (hrest : (rest.map fun v => v.category).sum ≤ 8) (hdg : decode cc pc = .ok (.invokevirtual idx, 3)) (kk : ∀ (H1 : Heap) (locs1 : List Loc), va_P D vwCl (wd_C a cI cL cB cZ z S) H1 → va_D A (wd_C a cI cL cB cZ z S) → va_S A s.heap H1 locs1 → W p l e R s m args below meth c H1 locs1 0 0 Q (F0 m (pc + 3) ls (.ref (a 12) :: rest))) : W p l e R s m args below meth c H locs 0 0 Q (F0 m pc ls (.ref (a 7) :: rest)) := by
  obtain ⟨hx, hb, hml, hown, hts, hK, hA⟩ := C
  have hFc := mq_freeI hD hS hA
  refine va_callr (va_runV (As := []) (rest := rest) ⟨hx, hb, hml, hown, hts⟩ (zm_X7_bySort l D a z cI cL cB cZ H.size N S res h) (cwV 0 hts (mq_goodL (mq_wsV hlk zt_X7_bySort_i zt_X7_bySort_s zt_ini_X7 zt_X7_bySort_c)) rfl rfl rfl (by decide +kernel) hR) ⟨fun a U g mk q => ⟨q.1, q.2.1, q.2.2.1, va_K.moved (u := U) (U := U.calling g mk a) (Vm.Alike.refl U.vm) q.2.2.2.1, q.2.2.2.2⟩, zy_C_7 hK hP, fun U hU hW => ⟨rfl, by rw [hU], by rw [hU]; exact hP, va_K.moved hW.alike hK, hD.weaken (fun _ _ _ _ => trivial)⟩⟩ rfl rfl hls rfl (lv_room hrest) hdg ⟨Nat.zero_le _, Nat.zero_le _⟩) hS (fun q _ h => hFc q h) hFc (fun u b t H1 locs ht hvm hw hB hz1 hk1 hS => ?_)
  subst hw
  obtain ⟨rfl, hB⟩ := hB
  obtain ⟨hP1, hK1, hD1⟩ := hB
  rw [ht] at hP1
  exact kk H1 locs hP1 (hD1.weaken (fun _ _ _ h => hFc _ h)) hS
/-! ModalDesk$Stock.has(I)Z -/
def zr_X7_has : Room := { frames := 0, cells := 0, slots := 0, locals := 0 }
def zc_X7_has : Cond := .code yX7_has cX7_has 2 (some .boolean)
def zf_X7_has (N : Nat) (z : Nat → Nat) (v1 : Int32) (S : mq_St) : Option (Int32) := (if v1 < (0 : Int32) then (mq_cz ((0 : Int32)) (some ((0 : Int32)))) else (if (S.1 2) ≤ v1 then (mq_cz ((0 : Int32)) (some ((0 : Int32)))) else (mq_cz ((1 : Int32)) (some ((1 : Int32))))))
set_option maxHeartbeats 4000000 in
set_option maxRecDepth 100000 in
theorem zw_X7_has_0 {p : Program} {l : Launch} {e : Env} {s : State} {m : MethodId} {args : Array Value} {below : List Frame} {meth : Method} {c : Code} {A : Nat → Prop} {D : va_G} {a z : Nat → Nat} {cI cL cB cZ : ClassId} {Q : State → Prop} {N : Nat} {S : mq_St} {res : Int32} (C : mq_C p s m args c A D cI cL cB cZ cX7_has 2 RX7 zc_X7_has) (hret : ∀ (H : Heap) (locs : List Loc) (ls : Array Slot) (pc : Nat), decode cX7_has pc = .ok (.ireturn, 1) → narrow .boolean (.int res) = .int res → va_P D vwCl (wd_C a cI cL cB cZ z S) H → va_D A (wd_C a cI cL cB cZ z S) → va_S A s.heap H locs → W p l e zr_X7_has s m args below meth c H locs 0 0 Q (F0 m pc ls [.int res])) (v1 : Int32) (H : Heap) (locs : List Loc) (ls : Array Slot) (h : zf_X7_has N z v1 S = some res) (hl : lv_has ls 2 [(0, .ref (a 7)), (1, .int (v1))]) (hP : va_P D vwCl (wd_C a cI cL cB cZ z S) H) (hD : va_D A (wd_C a cI cL cB cZ z S)) (hS : va_S A s.heap H locs) : W p l e zr_X7_has s m args below meth c H locs 0 0 Q (F0 m 0 ls []) := by
  obtain ⟨hx, hb, hml, hown, hts, hK, hA⟩ := id C
  unfold zf_X7_has at h
  refine lv_iload_n hx hb dX7_has_0 rfl (lv_at hl 1 rfl) ?_
  refine lv_if_lt (tgt := 16) hx hb dX7_has_1 (by decide) (fun c5 => ?_) (fun c5 => ?_)
  · replace h := mq_it c5 h
    refine lv_iconst (v := (0 : Int32)) hx hb dX7_has_16 (by decide) ?_
    have hz1 := mq_cz_in h
    replace h := mq_cz_go h
    cases h
    exact hret H locs ls 17 dX7_has_17 hz1.1 hP hD hS
  · replace h := mq_if c5 h
    refine lv_iload_n hx hb dX7_has_4 rfl (lv_at hl 1 rfl) ?_
    refine lv_aload_n hx hb dX7_has_5 rfl (lv_at hl 0 rfl) ?_
    refine va_get (D := D) (ci := 7) (v := .int ((S.1 2))) (C := RX7) (T := TX7) (N := 6) hx hb hts (zi_X7 _) hown hK hP 7 rfl rfl 5 (by decide) (hts _ (List.mem_cons_of_mem _ zt_f_X7_41)) (fun _ h9 => h9) rfl dX7_has_6 ?_
    refine lv_icmp_ge (tgt := 16) hx hb dX7_has_9 (by decide) (fun c4 => ?_) (fun c4 => ?_)
    · replace h := mq_it c4 h
      refine lv_iconst (v := (0 : Int32)) hx hb dX7_has_16 (by decide) ?_
      have hz2 := mq_cz_in h
      replace h := mq_cz_go h
      cases h
      exact hret H locs ls 17 dX7_has_17 hz2.1 hP hD hS
    · replace h := mq_if c4 h
      refine lv_iconst (v := (1 : Int32)) hx hb dX7_has_12 (by decide) ?_
      refine lv_goto (tgt := 17) hx hb dX7_has_13 (by decide) ?_
      have hz3 := mq_cz_in h
      replace h := mq_cz_go h
      cases h
      exact hret H locs ls 17 dX7_has_17 hz3.1 hP hD hS
set_option maxHeartbeats 4000000 in
set_option maxRecDepth 100000 in
theorem zm_X7_has (l : Launch) (D : va_G) (a z : Nat → Nat) (cI cL cB cZ : ClassId) (sz N : Nat) (v1 : Int32) (S : mq_St) (res : Int32) (h : zf_X7_has N z v1 S = some res) : Met l yX7_has (zc_X7_has :: mq_T) zr_X7_has (va_Pc [.ref (a 7), .int (v1)] (fun U => U.heap.size = sz ∧ va_P D vwCl (wd_C a cI cL cB cZ z S) U.heap ∧ va_K D vwCl (mq_tys cI cL cB cZ) U ∧ va_D (fun _ => True) (wd_C a cI cL cB cZ z S))) (va_Qi (fun (r : Int32) (u : mq_St) => r = res ∧ u = S) (fun u t => va_P D vwCl (wd_C a cI cL cB cZ z u) t.heap ∧ va_K D vwCl (mq_tys cI cL cB cZ) t ∧ va_D (va_A (wd_C a cI cL cB cZ z S) sz) (wd_C a cI cL cB cZ z u)) (va_A (wd_C a cI cL cB cZ z S) sz)) 0 0 (va_A (wd_C a cI cL cB cZ z S) sz) := by
  refine Met.ofW (cc := cX7_has) (maxL := 2) (ret := (some .boolean)) (by decide) rfl ?_
  intro p e s m args below meth c s₁ B hml hv
  obtain ⟨rfl, hsz, hP, hK, hD0⟩ := hv
  have hr := B.returns
  have hlocks := B.notSynchronized
  have hts := atoms_spec (ws := zc_X7_has :: mq_T) B.pre
  have hown : s.vm.findClass RX7 = some m.cls := findClass_of_methodNamed B.named
  subst hsz
  have hD := hD0.self (sz := s.heap.size)
  generalize hAe : va_A (wd_C a cI cL cB cZ z S) s.heap.size = A at hD ⊢
  have hA : ∀ q : Nat, s.heap.size ≤ q → A q := fun q h => by rw [← hAe]; exact Or.inr h
  have hl := lv_entry ([.ref (a 7), .int (v1)]) (n := 2) (Nat.le_of_ble_eq_true rfl)
  rw [lg_entry_eq]
  generalize (lg_sl ([.ref (a 7), .int (v1)]) ++ List.replicate (2 - (lg_sl ([.ref (a 7), .int (v1)])).length) Slot.unset).toArray = ls at hl ⊢
  have hl : lv_has ls 2 [(0, .ref (a 7)), (1, .int (v1))] := hl
  refine zw_X7_has_0 (A := A) ⟨B.exec, B.bytes, hml, hown, hts, hK, hA⟩ (fun H locs ls pc dg hz hP hD hS => ?_) v1 s.heap [] ls h hl hP hD va_S.rf
  exact W.zret B.exec B.bytes hr hz (fun t ht hW => ⟨⟨_, _, rfl, ⟨rfl, rfl⟩, by rw [ht]; exact hP, va_K.moved hW.alike hK, hD⟩, hS.F ht⟩) hS.2.2 dg
theorem zt_X7_has_c : zc_X7_has ∈ mq_T := mq_T_mem (mq_t1 (List.mem_of_getElem? (i := 80) rfl)) rfl
theorem zt_X7_has_i : Cond.instanceMethod yX7_has ∈ mq_T := mq_T_mem (mq_t1 (List.mem_of_getElem? (i := 78) rfl)) rfl
theorem zt_X7_has_s : Cond.selects RX7 yX7_has yX7_has ∈ mq_T := mq_T_mem (mq_t1 (List.mem_of_getElem? (i := 79) rfl)) rfl
set_option maxHeartbeats 4000000 in
theorem zk_X7_has {p : Program} {l : Launch} {e : Env} {R : Room} {s : State} {m : MethodId} {args : Array Value} {below : List Frame} {meth : Method} {c : Code} {A : Nat → Prop} {D : va_G} {a z : Nat → Nat} {cI cL cB cZ : ClassId} {Q : State → Prop} {cc : ByteArray} {nL idx pc N : Nat} {own : String} {c1 : Cond} {H : Heap} {locs : List Loc} {ls : Array Slot} {rest : List Value} {S : mq_St} {res : Int32} {v1 : Int32} (C : mq_C p s m args c A D cI cL cB cZ cc nL own c1) (hlk : Cond.methodLink own idx yX7_has ∈ mq_T) (hR : zr_X7_has.frames + 1 ≤ R.frames ∧ 8 + (2 + 11) + zr_X7_has.locals ≤ R.locals) (h : zf_X7_has N z v1 S = some res) (hP : va_P D vwCl (wd_C a cI cL cB cZ z S) H) (hD : va_D A (wd_C a cI cL cB cZ z S)) (hS : va_S A s.heap H locs) (hls : ls.size = nL) (hrest : (rest.map fun v => v.category).sum ≤ 8) (hdg : decode cc pc = .ok (.invokevirtual idx, 3)) (kk : ∀ (H1 : Heap) (locs1 : List Loc), va_P D vwCl (wd_C a cI cL cB cZ z S) H1 → va_D A (wd_C a cI cL cB cZ z S) → va_S A s.heap H1 locs1 → W p l e R s m args below meth c H1 locs1 0 0 Q (F0 m (pc + 3) ls (.int res :: rest))) : W p l e R s m args below meth c H locs 0 0 Q (F0 m pc ls (.int (v1) :: .ref (a 7) :: rest)) := by
  obtain ⟨hx, hb, hml, hown, hts, hK, hA⟩ := C
  have hFc := mq_freeI hD hS hA
  refine va_calli (va_runV (As := [.int (v1)]) (rest := rest) ⟨hx, hb, hml, hown, hts⟩ (zm_X7_has l D a z cI cL cB cZ H.size N v1 S res h) (cwV 1 hts (mq_goodL (mq_wsV hlk zt_X7_has_i zt_X7_has_s zt_ini_X7 zt_X7_has_c)) rfl rfl rfl (by decide +kernel) hR) ⟨fun a U g mk q => ⟨q.1, q.2.1, q.2.2.1, va_K.moved (u := U) (U := U.calling g mk a) (Vm.Alike.refl U.vm) q.2.2.2.1, q.2.2.2.2⟩, zy_C_7 hK hP, fun U hU hW => ⟨rfl, by rw [hU], by rw [hU]; exact hP, va_K.moved hW.alike hK, hD.weaken (fun _ _ _ _ => trivial)⟩⟩ rfl rfl hls rfl (lv_room hrest) hdg ⟨Nat.zero_le _, Nat.zero_le _⟩) hS (fun q _ h => hFc q h) hFc (fun r u t H1 locs ht hvm hw hB hz1 hk1 hS => ?_)
  obtain ⟨rfl, rfl⟩ := hw
  obtain ⟨hP1, hK1, hD1⟩ := hB
  rw [ht] at hP1
  exact kk H1 locs hP1 (hD1.weaken (fun _ _ _ h => hFc _ h)) hS
theorem zt_m_X7_45 : Cond.methodLink RX7 45 yX7_has ∈ mq_T := mq_T_mem (mq_t1 (List.mem_of_getElem? (i := 77) rfl)) rfl
/-! ModalDesk$Stock.denialOf(I)I -/
def zr_X7_denialOf : Room := { frames := 1, cells := 0, slots := 0, locals := 21 }
def zc_X7_denialOf : Cond := .code yX7_denialOf cX7_denialOf 2 (some .int)
def zf_X7_denialOf (N : Nat) (z : Nat → Nat) (v1 : Int32) (S : mq_St) : Option (Int32) := (mq_cp (zf_X7_has N z (v1) S) (fun q1 => (if q1 = (0 : Int32) then (some ((-1 : Int32))) else (mq_ck (v1) 300 (some ((S.2.1 7 (v1).toNatClampNeg)))))))
set_option maxHeartbeats 4000000 in
set_option maxRecDepth 100000 in
theorem zw_X7_denialOf_0 {p : Program} {l : Launch} {e : Env} {s : State} {m : MethodId} {args : Array Value} {below : List Frame} {meth : Method} {c : Code} {A : Nat → Prop} {D : va_G} {a z : Nat → Nat} {cI cL cB cZ : ClassId} {Q : State → Prop} {N : Nat} {S : mq_St} {res : Int32} (C : mq_C p s m args c A D cI cL cB cZ cX7_denialOf 2 RX7 zc_X7_denialOf) (hret : ∀ (H : Heap) (locs : List Loc) (ls : Array Slot) (pc : Nat), decode cX7_denialOf pc = .ok (.ireturn, 1) → va_P D vwCl (wd_C a cI cL cB cZ z S) H → va_D A (wd_C a cI cL cB cZ z S) → va_S A s.heap H locs → W p l e zr_X7_denialOf s m args below meth c H locs 0 0 Q (F0 m pc ls [.int res])) (v1 : Int32) (H : Heap) (locs : List Loc) (ls : Array Slot) (h : zf_X7_denialOf N z v1 S = some res) (hl : lv_has ls 2 [(0, .ref (a 7)), (1, .int (v1))]) (hP : va_P D vwCl (wd_C a cI cL cB cZ z S) H) (hD : va_D A (wd_C a cI cL cB cZ z S)) (hS : va_S A s.heap H locs) : W p l e zr_X7_denialOf s m args below meth c H locs 0 0 Q (F0 m 0 ls []) := by
  obtain ⟨hx, hb, hml, hown, hts, hK, hA⟩ := id C
  unfold zf_X7_denialOf at h
  refine lv_aload_n hx hb dX7_denialOf_0 rfl (lv_at hl 0 rfl) ?_
  refine lv_iload_n hx hb dX7_denialOf_1 rfl (lv_at hl 1 rfl) ?_
  obtain ⟨q1, hc2, h⟩ := mq_cp_go h
  refine zk_X7_has C zt_m_X7_45 ⟨by decide, by decide⟩ hc2 hP hD hS hl.1 (Nat.le_of_ble_eq_true rfl) dX7_denialOf_2 (fun H locs hP hD hS => ?_)
  refine lv_if_eq (tgt := 17) hx hb dX7_denialOf_5 (by decide) (fun c4 => ?_) (fun c4 => ?_)
  · replace h := mq_it c4 h
    refine lv_iconst (v := (-1 : Int32)) hx hb dX7_denialOf_17 (by decide) ?_
    cases h
    exact hret H locs ls 18 dX7_denialOf_18 hP hD hS
  · replace h := mq_if c4 h
    refine lv_aload_n hx hb dX7_denialOf_8 rfl (lv_at hl 0 rfl) ?_
    refine va_get (D := D) (ci := 7) (v := .ref (a 11)) (C := RX7) (T := TX7) (N := 6) hx hb hts (zi_X7 _) hown hK hP 7 rfl rfl 3 (by decide) (hts _ (List.mem_cons_of_mem _ zt_f_X7_21)) (fun _ h9 => h9) rfl dX7_denialOf_9 ?_
    refine lv_iload_n hx hb dX7_denialOf_12 rfl (lv_at hl 1 rfl) ?_
    have hi3 := mq_ck_in h
    replace h := mq_ck_go h
    refine va_iald (f := S.2.1 7) hx hb hK hP 11 0 rfl rfl hi3 dX7_denialOf_13 ?_
    refine lv_goto (tgt := 18) hx hb dX7_denialOf_14 (by decide) ?_
    cases h
    exact hret H locs ls 18 dX7_denialOf_18 hP hD hS
set_option maxHeartbeats 4000000 in
set_option maxRecDepth 100000 in
theorem zm_X7_denialOf (l : Launch) (D : va_G) (a z : Nat → Nat) (cI cL cB cZ : ClassId) (sz N : Nat) (v1 : Int32) (S : mq_St) (res : Int32) (h : zf_X7_denialOf N z v1 S = some res) : Met l yX7_denialOf (zc_X7_denialOf :: mq_T) zr_X7_denialOf (va_Pc [.ref (a 7), .int (v1)] (fun U => U.heap.size = sz ∧ va_P D vwCl (wd_C a cI cL cB cZ z S) U.heap ∧ va_K D vwCl (mq_tys cI cL cB cZ) U ∧ va_D (fun _ => True) (wd_C a cI cL cB cZ z S))) (va_Qi (fun (r : Int32) (u : mq_St) => r = res ∧ u = S) (fun u t => va_P D vwCl (wd_C a cI cL cB cZ z u) t.heap ∧ va_K D vwCl (mq_tys cI cL cB cZ) t ∧ va_D (va_A (wd_C a cI cL cB cZ z S) sz) (wd_C a cI cL cB cZ z u)) (va_A (wd_C a cI cL cB cZ z S) sz)) 0 0 (va_A (wd_C a cI cL cB cZ z S) sz) := by
  refine Met.ofW (cc := cX7_denialOf) (maxL := 2) (ret := (some .int)) (by decide) rfl ?_
  intro p e s m args below meth c s₁ B hml hv
  obtain ⟨rfl, hsz, hP, hK, hD0⟩ := hv
  have hr := B.returns
  have hlocks := B.notSynchronized
  have hts := atoms_spec (ws := zc_X7_denialOf :: mq_T) B.pre
  have hown : s.vm.findClass RX7 = some m.cls := findClass_of_methodNamed B.named
  subst hsz
  have hD := hD0.self (sz := s.heap.size)
  generalize hAe : va_A (wd_C a cI cL cB cZ z S) s.heap.size = A at hD ⊢
  have hA : ∀ q : Nat, s.heap.size ≤ q → A q := fun q h => by rw [← hAe]; exact Or.inr h
  have hl := lv_entry ([.ref (a 7), .int (v1)]) (n := 2) (Nat.le_of_ble_eq_true rfl)
  rw [lg_entry_eq]
  generalize (lg_sl ([.ref (a 7), .int (v1)]) ++ List.replicate (2 - (lg_sl ([.ref (a 7), .int (v1)])).length) Slot.unset).toArray = ls at hl ⊢
  have hl : lv_has ls 2 [(0, .ref (a 7)), (1, .int (v1))] := hl
  refine zw_X7_denialOf_0 (A := A) ⟨B.exec, B.bytes, hml, hown, hts, hK, hA⟩ (fun H locs ls pc dg hP hD hS => ?_) v1 s.heap [] ls h hl hP hD va_S.rf
  exact W.iret B.exec B.bytes hr (fun t ht hW => ⟨⟨_, _, rfl, ⟨rfl, rfl⟩, by rw [ht]; exact hP, va_K.moved hW.alike hK, hD⟩, hS.F ht⟩) hS.2.2 dg
theorem zt_X7_denialOf_c : zc_X7_denialOf ∈ mq_T := mq_T_mem (mq_t3 (List.mem_of_getElem? (i := 167) rfl)) rfl
theorem zt_X7_denialOf_i : Cond.instanceMethod yX7_denialOf ∈ mq_T := mq_T_mem (mq_t3 (List.mem_of_getElem? (i := 165) rfl)) rfl
theorem zt_X7_denialOf_s : Cond.selects RX7 yX7_denialOf yX7_denialOf ∈ mq_T := mq_T_mem (mq_t3 (List.mem_of_getElem? (i := 166) rfl)) rfl
set_option maxHeartbeats 4000000 in
theorem zk_X7_denialOf {p : Program} {l : Launch} {e : Env} {R : Room} {s : State} {m : MethodId} {args : Array Value} {below : List Frame} {meth : Method} {c : Code} {A : Nat → Prop} {D : va_G} {a z : Nat → Nat} {cI cL cB cZ : ClassId} {Q : State → Prop} {cc : ByteArray} {nL idx pc N : Nat} {own : String} {c1 : Cond} {H : Heap} {locs : List Loc} {ls : Array Slot} {rest : List Value} {S : mq_St} {res : Int32} {v1 : Int32} (C : mq_C p s m args c A D cI cL cB cZ cc nL own c1) (hlk : Cond.methodLink own idx yX7_denialOf ∈ mq_T) (hR : zr_X7_denialOf.frames + 1 ≤ R.frames ∧ 8 + (2 + 11) + zr_X7_denialOf.locals ≤ R.locals) (h : zf_X7_denialOf N z v1 S = some res) (hP : va_P D vwCl (wd_C a cI cL cB cZ z S) H) (hD : va_D A (wd_C a cI cL cB cZ z S)) (hS : va_S A s.heap H locs) (hls : ls.size = nL) (hrest : (rest.map fun v => v.category).sum ≤ 8) (hdg : decode cc pc = .ok (.invokevirtual idx, 3)) (kk : ∀ (H1 : Heap) (locs1 : List Loc), va_P D vwCl (wd_C a cI cL cB cZ z S) H1 → va_D A (wd_C a cI cL cB cZ z S) → va_S A s.heap H1 locs1 → W p l e R s m args below meth c H1 locs1 0 0 Q (F0 m (pc + 3) ls (.int res :: rest))) : W p l e R s m args below meth c H locs 0 0 Q (F0 m pc ls (.int (v1) :: .ref (a 7) :: rest)) := by
  obtain ⟨hx, hb, hml, hown, hts, hK, hA⟩ := C
  have hFc := mq_freeI hD hS hA
  refine va_calli (va_runV (As := [.int (v1)]) (rest := rest) ⟨hx, hb, hml, hown, hts⟩ (zm_X7_denialOf l D a z cI cL cB cZ H.size N v1 S res h) (cwV 1 hts (mq_goodL (mq_wsV hlk zt_X7_denialOf_i zt_X7_denialOf_s zt_ini_X7 zt_X7_denialOf_c)) rfl rfl rfl (by decide +kernel) hR) ⟨fun a U g mk q => ⟨q.1, q.2.1, q.2.2.1, va_K.moved (u := U) (U := U.calling g mk a) (Vm.Alike.refl U.vm) q.2.2.2.1, q.2.2.2.2⟩, zy_C_7 hK hP, fun U hU hW => ⟨rfl, by rw [hU], by rw [hU]; exact hP, va_K.moved hW.alike hK, hD.weaken (fun _ _ _ _ => trivial)⟩⟩ rfl rfl hls rfl (lv_room hrest) hdg ⟨Nat.zero_le _, Nat.zero_le _⟩) hS (fun q _ h => hFc q h) hFc (fun r u t H1 locs ht hvm hw hB hz1 hk1 hS => ?_)
  obtain ⟨rfl, rfl⟩ := hw
  obtain ⟨hP1, hK1, hD1⟩ := hB
  rw [ht] at hP1
  exact kk H1 locs hP1 (hD1.weaken (fun _ _ _ h => hFc _ h)) hS
theorem zt_m_X7_52 : Cond.methodLink RX7 52 yX6_drop ∈ mq_T := mq_T_mem (mq_t3 (List.mem_of_getElem? (i := 136) rfl)) rfl
/-! ModalDesk$Stock.dropTo(I)V -/
def zr_X7_dropTo : Room := { frames := 2, cells := 0, slots := 0, locals := 44 }
def zc_X7_dropTo : Cond := .code yX7_dropTo cX7_dropTo 3 none
def zf_X7_dropTo_7b (N : Nat) (z : Nat → Nat) (k7 : Int32 → Int32 → mq_St → Option (Unit × mq_St)) (v1 : Int32) (v2 : Int32) (S : mq_St) : Option (Unit × mq_St) := (if v2 < v1 then (some ((), S)) else (if v2 < (0 : Int32) then (some ((), S)) else (mq_ck (v2) 300 (mq_cl (zf_X6_drop N (fun k => [40].getD k 0) ((S.2.1 4 (v2).toNatClampNeg)) (v2) (mq_pull S [] [] [0])) (fun q3v q3s => mq_nS (mq_push S q3s [] [] [0]) (fun S5 => (mq_nS (mq_si S5 2 (v2)) (fun S6 => (mq_nI (v2 + (-1 : Int32)) (fun x7 => (k7 (v1) (x7) S6)))))))))))
def zf_X7_dropTo_7 (N : Nat) (z : Nat → Nat) : Nat → Int32 → Int32 → mq_St → Option (Unit × mq_St)
  | 0, _, _, _ => none
  | n + 1, v1, v2, S => zf_X7_dropTo_7b N z (fun v1 v2 S => zf_X7_dropTo_7 N z n v1 v2 S) v1 v2 S
def zf_X7_dropTo (N : Nat) (z : Nat → Nat) (v1 : Int32) (S : mq_St) : Option (Unit × mq_St) := (mq_nI (((S.1 2) - (1 : Int32))) (fun x1 => (zf_X7_dropTo_7 N z N (v1) (x1) S)))
set_option maxHeartbeats 4000000 in
set_option maxRecDepth 100000 in
theorem zw_X7_dropTo_7b {p : Program} {l : Launch} {e : Env} {s : State} {m : MethodId} {args : Array Value} {below : List Frame} {meth : Method} {c : Code} {A : Nat → Prop} {D : va_G} {a z : Nat → Nat} {cI cL cB cZ : ClassId} {Q : State → Prop} {N : Nat} {res : Unit × mq_St} {k7 : Int32 → Int32 → mq_St → Option (Unit × mq_St)} (C : mq_C p s m args c A D cI cL cB cZ cX7_dropTo 3 RX7 zc_X7_dropTo) (hret : ∀ (H : Heap) (locs : List Loc) (ls : Array Slot) (pc : Nat), decode cX7_dropTo pc = .ok (.return_, 1) → va_P D vwCl (wd_C a cI cL cB cZ z res.2) H → va_D A (wd_C a cI cL cB cZ z res.2) → va_S A s.heap H locs → W p l e zr_X7_dropTo s m args below meth c H locs 0 0 Q (F0 m pc ls [])) (hk7 : ∀ (v1 : Int32) (v2 : Int32) (S : mq_St) (H : Heap) (locs : List Loc) (ls : Array Slot), k7 v1 v2 S = some res → lv_has ls 3 [(0, .ref (a 7)), (1, .int (v1)), (2, .int (v2))] → va_P D vwCl (wd_C a cI cL cB cZ z S) H → va_D A (wd_C a cI cL cB cZ z S) → va_S A s.heap H locs → W p l e zr_X7_dropTo s m args below meth c H locs 0 0 Q (F0 m 7 ls [])) (v1 : Int32) (v2 : Int32) (S : mq_St) (H : Heap) (locs : List Loc) (ls : Array Slot) (h : zf_X7_dropTo_7b N z k7 v1 v2 S = some res) (hl : lv_has ls 3 [(0, .ref (a 7)), (1, .int (v1)), (2, .int (v2))]) (hP : va_P D vwCl (wd_C a cI cL cB cZ z S) H) (hD : va_D A (wd_C a cI cL cB cZ z S)) (hS : va_S A s.heap H locs) : W p l e zr_X7_dropTo s m args below meth c H locs 0 0 Q (F0 m 7 ls []) := by
  obtain ⟨hx, hb, hml, hown, hts, hK, hA⟩ := id C
  unfold zf_X7_dropTo_7b at h
  refine lv_iload_n hx hb dX7_dropTo_7 rfl (lv_at hl 2 rfl) ?_
  refine lv_iload_n hx hb dX7_dropTo_8 rfl (lv_at hl 1 rfl) ?_
  refine lv_icmp_lt (tgt := 41) hx hb dX7_dropTo_9 (by decide) (fun c9 => ?_) (fun c9 => ?_)
  · replace h := mq_it c9 h
    cases h
    exact hret H locs ls 41 dX7_dropTo_41 hP hD hS
  · replace h := mq_if c9 h
    refine lv_iload_n hx hb dX7_dropTo_12 rfl (lv_at hl 2 rfl) ?_
    refine lv_if_lt (tgt := 41) hx hb dX7_dropTo_13 (by decide) (fun c8 => ?_) (fun c8 => ?_)
    · replace h := mq_it c8 h
      cases h
      exact hret H locs ls 41 dX7_dropTo_41 hP hD hS
    · replace h := mq_if c8 h
      refine lv_aload_n hx hb dX7_dropTo_16 rfl (lv_at hl 0 rfl) ?_
      refine va_get (D := D) (ci := 7) (v := .ref (a 12)) (C := RX7) (T := TX7) (N := 6) hx hb hts (zi_X7 _) hown hK hP 7 rfl rfl 4 (by decide) (hts _ (List.mem_cons_of_mem _ zt_f_X7_29)) (fun _ h9 => h9) rfl dX7_dropTo_17 ?_
      refine lv_aload_n hx hb dX7_dropTo_20 rfl (lv_at hl 0 rfl) ?_
      refine va_get (D := D) (ci := 7) (v := .ref (a 8)) (C := RX7) (T := TX7) (N := 6) hx hb hts (zi_X7 _) hown hK hP 7 rfl rfl 0 (by decide) (hts _ (List.mem_cons_of_mem _ zt_f_X7_9)) (fun _ h9 => h9) rfl dX7_dropTo_21 ?_
      refine lv_iload_n hx hb dX7_dropTo_24 rfl (lv_at hl 2 rfl) ?_
      have hi2 := mq_ck_in h
      replace h := mq_ck_go h
      refine va_iald (f := S.2.1 4) hx hb hK hP 8 0 rfl rfl hi2 dX7_dropTo_25 ?_
      refine lv_iload_n hx hb dX7_dropTo_26 rfl (lv_at hl 2 rfl) ?_
      obtain ⟨q3, hc4, h⟩ := mq_cl_go h
      refine zv_X6_drop (a := mq_ad a [12, 13]) (z := (fun k => [40].getD k 0)) [12, 13] C zt_m_X7_52 ⟨by decide, by decide⟩ hc4 rfl (by decide) (ws' := (wd_C a cI cL cB cZ z (mq_push S q3.2 [] [] [0]))) (zx_wd_C_wd_S_12_13 _ _ _ _ _ _ _ _) hP hD hS hl.1 (Nat.le_of_ble_eq_true rfl) dX7_dropTo_27 (fun H locs hP hD hS => ?_)
      obtain ⟨S5, eS5⟩ : ∃ y, y = mq_push S q3.2 [] [] [0] := ⟨_, rfl⟩
      replace h := mq_nS_go eS5 h
      rw [← eS5] at hP hD
      refine lv_aload_n hx hb dX7_dropTo_30 rfl (lv_at hl 0 rfl) ?_
      refine lv_iload_n hx hb dX7_dropTo_31 rfl (lv_at hl 2 rfl) ?_
      refine mq_put (w := wd_C a cI cL cB cZ z) (S := S5) (D := D) (ci := 7) (v := v2) (ty := .int) (C := RX7) (T := TX7) (N := 6) hx hb hts (zi_X7 _) tyX7 tyX7_ok nmX7 hown hK hP hD hS 7 rfl rfl 5 (by decide) (hts _ (List.mem_cons_of_mem _ zt_f_X7_41)) (fun _ h9 => h9) rfl (by decide +kernel) rfl rfl (Nat.le_of_ble_eq_true rfl) dX7_dropTo_32 2 (zs_wd_C_i_7_2 _ _ _ _ _ _ _ _) (fun S6 eS6 H locs hP hD hS => ?_)
      replace h := mq_nS_go eS6 h
      obtain ⟨x7, ex7⟩ : ∃ y : Int32, y = v2 + (-1 : Int32) := ⟨_, rfl⟩
      replace h := mq_nI_go ex7 h
      refine lv_iinc (v := x7) (lv' := [(2, .int (x7)), (0, .ref (a 7)), (1, .int (v1))]) hx hb dX7_dropTo_35 hl (k := 2) rfl (by rw [ex7]; rfl) (by decide) rfl (fun ls hl => ?_)
      refine lv_goto (tgt := 7) hx hb dX7_dropTo_38 (by decide) ?_
      exact hk7 (v1) (x7) S6 H locs ls h (lv_sub hl [1, 2, 0] rfl) hP hD hS
set_option maxHeartbeats 4000000 in
set_option maxRecDepth 100000 in
theorem zw_X7_dropTo_7 {p : Program} {l : Launch} {e : Env} {s : State} {m : MethodId} {args : Array Value} {below : List Frame} {meth : Method} {c : Code} {A : Nat → Prop} {D : va_G} {a z : Nat → Nat} {cI cL cB cZ : ClassId} {Q : State → Prop} {N : Nat} {res : Unit × mq_St} (C : mq_C p s m args c A D cI cL cB cZ cX7_dropTo 3 RX7 zc_X7_dropTo) (hret : ∀ (H : Heap) (locs : List Loc) (ls : Array Slot) (pc : Nat), decode cX7_dropTo pc = .ok (.return_, 1) → va_P D vwCl (wd_C a cI cL cB cZ z res.2) H → va_D A (wd_C a cI cL cB cZ z res.2) → va_S A s.heap H locs → W p l e zr_X7_dropTo s m args below meth c H locs 0 0 Q (F0 m pc ls [])) : ∀ (n : Nat) (v1 : Int32) (v2 : Int32) (S : mq_St) (H : Heap) (locs : List Loc) (ls : Array Slot) (h : zf_X7_dropTo_7 N z n v1 v2 S = some res) (hl : lv_has ls 3 [(0, .ref (a 7)), (1, .int (v1)), (2, .int (v2))]) (hP : va_P D vwCl (wd_C a cI cL cB cZ z S) H) (hD : va_D A (wd_C a cI cL cB cZ z S)) (hS : va_S A s.heap H locs), W p l e zr_X7_dropTo s m args below meth c H locs 0 0 Q (F0 m 7 ls []) := by
  intro n
  induction n with
  | zero =>
    intro v1 v2 S H locs ls h hl hP hD hS
    exact nomatch (show (none : Option (Unit × mq_St)) = some res from h)
  | succ n ih =>
    intro v1 v2 S H locs ls h hl hP hD hS
    exact zw_X7_dropTo_7b C hret (fun v1 v2 S H locs ls h hl hP hD hS => ih v1 v2 S H locs ls h hl hP hD hS) v1 v2 S H locs ls h hl hP hD hS
set_option maxHeartbeats 4000000 in
set_option maxRecDepth 100000 in
theorem zw_X7_dropTo_0 {p : Program} {l : Launch} {e : Env} {s : State} {m : MethodId} {args : Array Value} {below : List Frame} {meth : Method} {c : Code} {A : Nat → Prop} {D : va_G} {a z : Nat → Nat} {cI cL cB cZ : ClassId} {Q : State → Prop} {N : Nat} {res : Unit × mq_St} (C : mq_C p s m args c A D cI cL cB cZ cX7_dropTo 3 RX7 zc_X7_dropTo) (hret : ∀ (H : Heap) (locs : List Loc) (ls : Array Slot) (pc : Nat), decode cX7_dropTo pc = .ok (.return_, 1) → va_P D vwCl (wd_C a cI cL cB cZ z res.2) H → va_D A (wd_C a cI cL cB cZ z res.2) → va_S A s.heap H locs → W p l e zr_X7_dropTo s m args below meth c H locs 0 0 Q (F0 m pc ls [])) (v1 : Int32) (S : mq_St) (H : Heap) (locs : List Loc) (ls : Array Slot) (h : zf_X7_dropTo N z v1 S = some res) (hl : lv_has ls 3 [(0, .ref (a 7)), (1, .int (v1))]) (hP : va_P D vwCl (wd_C a cI cL cB cZ z S) H) (hD : va_D A (wd_C a cI cL cB cZ z S)) (hS : va_S A s.heap H locs) : W p l e zr_X7_dropTo s m args below meth c H locs 0 0 Q (F0 m 0 ls []) := by
  obtain ⟨hx, hb, hml, hown, hts, hK, hA⟩ := id C
  unfold zf_X7_dropTo at h
  refine lv_aload_n hx hb dX7_dropTo_0 rfl (lv_at hl 0 rfl) ?_
  refine va_get (D := D) (ci := 7) (v := .int ((S.1 2))) (C := RX7) (T := TX7) (N := 6) hx hb hts (zi_X7 _) hown hK hP 7 rfl rfl 5 (by decide) (hts _ (List.mem_cons_of_mem _ zt_f_X7_41)) (fun _ h9 => h9) rfl dX7_dropTo_1 ?_
  refine lv_iconst (v := (1 : Int32)) hx hb dX7_dropTo_4 (by decide) ?_
  refine lv_isub hx hb dX7_dropTo_5 ?_
  refine lv_topi (fun x1 ex1 => ?_)
  replace h := mq_nI_go ex1 h
  refine lv_istore_n (lv' := [(2, .int (x1)), (0, .ref (a 7)), (1, .int (v1))]) hx hb dX7_dropTo_6 rfl hl (by decide) rfl (fun ls hl => ?_)
  exact zw_X7_dropTo_7 C hret N (v1) (x1) S H locs ls h (lv_sub hl [1, 2, 0] rfl) hP hD hS
set_option maxHeartbeats 4000000 in
set_option maxRecDepth 100000 in
theorem zm_X7_dropTo (l : Launch) (D : va_G) (a z : Nat → Nat) (cI cL cB cZ : ClassId) (sz N : Nat) (v1 : Int32) (S : mq_St) (res : Unit × mq_St) (h : zf_X7_dropTo N z v1 S = some res) : Met l yX7_dropTo (zc_X7_dropTo :: mq_T) zr_X7_dropTo (va_Pc [.ref (a 7), .int (v1)] (fun U => U.heap.size = sz ∧ va_P D vwCl (wd_C a cI cL cB cZ z S) U.heap ∧ va_K D vwCl (mq_tys cI cL cB cZ) U ∧ va_D (fun _ => True) (wd_C a cI cL cB cZ z S))) (va_Qv (fun u : mq_St => u = res.2) (fun u t => va_P D vwCl (wd_C a cI cL cB cZ z u) t.heap ∧ va_K D vwCl (mq_tys cI cL cB cZ) t ∧ va_D (va_A (wd_C a cI cL cB cZ z S) sz) (wd_C a cI cL cB cZ z u)) (va_A (wd_C a cI cL cB cZ z S) sz)) 0 0 (va_A (wd_C a cI cL cB cZ z S) sz) := by
  refine Met.ofW (cc := cX7_dropTo) (maxL := 3) (ret := none) (by decide) rfl ?_
  intro p e s m args below meth c s₁ B hml hv
  obtain ⟨rfl, hsz, hP, hK, hD0⟩ := hv
  have hr := B.returns
  have hlocks := B.notSynchronized
  have hts := atoms_spec (ws := zc_X7_dropTo :: mq_T) B.pre
  have hown : s.vm.findClass RX7 = some m.cls := findClass_of_methodNamed B.named
  subst hsz
  have hD := hD0.self (sz := s.heap.size)
  generalize hAe : va_A (wd_C a cI cL cB cZ z S) s.heap.size = A at hD ⊢
  have hA : ∀ q : Nat, s.heap.size ≤ q → A q := fun q h => by rw [← hAe]; exact Or.inr h
  have hl := lv_entry ([.ref (a 7), .int (v1)]) (n := 3) (Nat.le_of_ble_eq_true rfl)
  rw [lg_entry_eq]
  generalize (lg_sl ([.ref (a 7), .int (v1)]) ++ List.replicate (3 - (lg_sl ([.ref (a 7), .int (v1)])).length) Slot.unset).toArray = ls at hl ⊢
  have hl : lv_has ls 3 [(0, .ref (a 7)), (1, .int (v1))] := hl
  refine zw_X7_dropTo_0 (A := A) ⟨B.exec, B.bytes, hml, hown, hts, hK, hA⟩ (fun H locs ls pc dg hP hD hS => ?_) v1 S s.heap [] ls h hl hP hD va_S.rf
  exact W.vret B.exec B.bytes hr (fun t ht hW => ⟨⟨_, rfl, rfl, by rw [ht]; exact hP, va_K.moved hW.alike hK, hD⟩, hS.F ht⟩) hS.2.2 dg
theorem zt_X7_dropTo_c : zc_X7_dropTo ∈ mq_T := mq_T_mem (mq_t3 (List.mem_of_getElem? (i := 135) rfl)) rfl
theorem zt_X7_dropTo_i : Cond.instanceMethod yX7_dropTo ∈ mq_T := mq_T_mem (mq_t3 (List.mem_of_getElem? (i := 133) rfl)) rfl
theorem zt_X7_dropTo_s : Cond.selects RX7 yX7_dropTo yX7_dropTo ∈ mq_T := mq_T_mem (mq_t3 (List.mem_of_getElem? (i := 134) rfl)) rfl
set_option maxHeartbeats 4000000 in
theorem zk_X7_dropTo {p : Program} {l : Launch} {e : Env} {R : Room} {s : State} {m : MethodId} {args : Array Value} {below : List Frame} {meth : Method} {c : Code} {A : Nat → Prop} {D : va_G} {a z : Nat → Nat} {cI cL cB cZ : ClassId} {Q : State → Prop} {cc : ByteArray} {nL idx pc N : Nat} {own : String} {c1 : Cond} {H : Heap} {locs : List Loc} {ls : Array Slot} {rest : List Value} {S : mq_St} {res : Unit × mq_St} {v1 : Int32} (C : mq_C p s m args c A D cI cL cB cZ cc nL own c1) (hlk : Cond.methodLink own idx yX7_dropTo ∈ mq_T) (hR : zr_X7_dropTo.frames + 1 ≤ R.frames ∧ 8 + (3 + 11) + zr_X7_dropTo.locals ≤ R.locals) (h : zf_X7_dropTo N z v1 S = some res) (hP : va_P D vwCl (wd_C a cI cL cB cZ z S) H) (hD : va_D A (wd_C a cI cL cB cZ z S)) (hS : va_S A s.heap H locs) (hls : ls.size = nL) (hrest : (rest.map fun v => v.category).sum ≤ 8) (hdg : decode cc pc = .ok (.invokevirtual idx, 3)) (kk : ∀ (H1 : Heap) (locs1 : List Loc), va_P D vwCl (wd_C a cI cL cB cZ z res.2) H1 → va_D A (wd_C a cI cL cB cZ z res.2) → va_S A s.heap H1 locs1 → W p l e R s m args below meth c H1 locs1 0 0 Q (F0 m (pc + 3) ls rest)) : W p l e R s m args below meth c H locs 0 0 Q (F0 m pc ls (.int (v1) :: .ref (a 7) :: rest)) := by
  obtain ⟨hx, hb, hml, hown, hts, hK, hA⟩ := C
  have hFc := mq_freeI hD hS hA
  refine va_callv (va_runV (As := [.int (v1)]) (rest := rest) ⟨hx, hb, hml, hown, hts⟩ (zm_X7_dropTo l D a z cI cL cB cZ H.size N v1 S res h) (cwV 1 hts (mq_goodL (mq_wsV hlk zt_X7_dropTo_i zt_X7_dropTo_s zt_ini_X7 zt_X7_dropTo_c)) rfl rfl rfl (by decide +kernel) hR) ⟨fun a U g mk q => ⟨q.1, q.2.1, q.2.2.1, va_K.moved (u := U) (U := U.calling g mk a) (Vm.Alike.refl U.vm) q.2.2.2.1, q.2.2.2.2⟩, zy_C_7 hK hP, fun U hU hW => ⟨rfl, by rw [hU], by rw [hU]; exact hP, va_K.moved hW.alike hK, hD.weaken (fun _ _ _ _ => trivial)⟩⟩ rfl rfl hls rfl (lv_room hrest) hdg ⟨Nat.zero_le _, Nat.zero_le _⟩) hS (fun q _ h => hFc q h) hFc (fun u t H1 locs ht hvm hw hB hz1 hk1 hS => ?_)
  subst hw
  obtain ⟨hP1, hK1, hD1⟩ := hB
  rw [ht] at hP1
  exact kk H1 locs hP1 (hD1.weaken (fun _ _ _ h => hFc _ h)) hS
/-! ModalDesk$Stock.find(III)I -/
def zr_X7_find : Room := { frames := 0, cells := 0, slots := 0, locals := 0 }
def zc_X7_find : Cond := .code yX7_find cX7_find 5 (some .int)
def zf_X7_find_48 (N : Nat) (z : Nat → Nat) (S : mq_St) (k3 : Int32 → Int32 → Int32 → Int32 → Option (Int32)) (v1 : Int32) (v2 : Int32) (v3 : Int32) (v4 : Int32) : Option (Int32) := (mq_nI (v4 + (1 : Int32)) (fun x9 => (k3 (v1) (v2) (v3) (x9))))
def zf_X7_find_3b (N : Nat) (z : Nat → Nat) (S : mq_St) (k3 : Int32 → Int32 → Int32 → Int32 → Option (Int32)) (v1 : Int32) (v2 : Int32) (v3 : Int32) (v4 : Int32) : Option (Int32) := (if (S.1 2) ≤ v4 then (some ((-1 : Int32))) else (mq_ck (v4) 300 (if (S.2.1 4 (v4).toNatClampNeg) = v1 then (mq_ck (v4) 300 (if (S.2.1 5 (v4).toNatClampNeg) = v2 then (mq_ck (v4) 300 (if (S.2.1 6 (v4).toNatClampNeg) = v3 then (some (v4)) else (zf_X7_find_48 N z S k3 (v1) (v2) (v3) (v4)))) else (zf_X7_find_48 N z S k3 (v1) (v2) (v3) (v4)))) else (zf_X7_find_48 N z S k3 (v1) (v2) (v3) (v4)))))
def zf_X7_find_3 (N : Nat) (z : Nat → Nat) (S : mq_St) : Nat → Int32 → Int32 → Int32 → Int32 → Option (Int32)
  | 0, _, _, _, _ => none
  | n + 1, v1, v2, v3, v4 => zf_X7_find_3b N z S (fun v1 v2 v3 v4 => zf_X7_find_3 N z S n v1 v2 v3 v4) v1 v2 v3 v4
def zf_X7_find (N : Nat) (z : Nat → Nat) (v1 : Int32) (v2 : Int32) (v3 : Int32) (S : mq_St) : Option (Int32) := (mq_nI ((0 : Int32)) (fun x1 => (zf_X7_find_3 N z S N (v1) (v2) (v3) (x1))))
set_option maxHeartbeats 4000000 in
set_option maxRecDepth 100000 in
theorem zw_X7_find_48 {p : Program} {l : Launch} {e : Env} {s : State} {m : MethodId} {args : Array Value} {below : List Frame} {meth : Method} {c : Code} {A : Nat → Prop} {D : va_G} {a z : Nat → Nat} {cI cL cB cZ : ClassId} {Q : State → Prop} {N : Nat} {S : mq_St} {res : Int32} {k3 : Int32 → Int32 → Int32 → Int32 → Option (Int32)} (C : mq_C p s m args c A D cI cL cB cZ cX7_find 5 RX7 zc_X7_find) (hret : ∀ (H : Heap) (locs : List Loc) (ls : Array Slot) (pc : Nat), decode cX7_find pc = .ok (.ireturn, 1) → va_P D vwCl (wd_C a cI cL cB cZ z S) H → va_D A (wd_C a cI cL cB cZ z S) → va_S A s.heap H locs → W p l e zr_X7_find s m args below meth c H locs 0 0 Q (F0 m pc ls [.int res])) (hk3 : ∀ (v1 : Int32) (v2 : Int32) (v3 : Int32) (v4 : Int32) (H : Heap) (locs : List Loc) (ls : Array Slot), k3 v1 v2 v3 v4 = some res → lv_has ls 5 [(0, .ref (a 7)), (1, .int (v1)), (2, .int (v2)), (3, .int (v3)), (4, .int (v4))] → va_P D vwCl (wd_C a cI cL cB cZ z S) H → va_D A (wd_C a cI cL cB cZ z S) → va_S A s.heap H locs → W p l e zr_X7_find s m args below meth c H locs 0 0 Q (F0 m 3 ls [])) (v1 : Int32) (v2 : Int32) (v3 : Int32) (v4 : Int32) (H : Heap) (locs : List Loc) (ls : Array Slot) (h : zf_X7_find_48 N z S k3 v1 v2 v3 v4 = some res) (hl : lv_has ls 5 [(0, .ref (a 7)), (1, .int (v1)), (2, .int (v2)), (3, .int (v3)), (4, .int (v4))]) (hP : va_P D vwCl (wd_C a cI cL cB cZ z S) H) (hD : va_D A (wd_C a cI cL cB cZ z S)) (hS : va_S A s.heap H locs) : W p l e zr_X7_find s m args below meth c H locs 0 0 Q (F0 m 48 ls []) := by
  obtain ⟨hx, hb, hml, hown, hts, hK, hA⟩ := id C
  unfold zf_X7_find_48 at h
  obtain ⟨x9, ex9⟩ : ∃ y : Int32, y = v4 + (1 : Int32) := ⟨_, rfl⟩
  replace h := mq_nI_go ex9 h
  refine lv_iinc (v := x9) (lv' := [(4, .int (x9)), (0, .ref (a 7)), (1, .int (v1)), (2, .int (v2)), (3, .int (v3))]) hx hb dX7_find_48 hl (k := 4) rfl (by rw [ex9]; rfl) (by decide) rfl (fun ls hl => ?_)
  refine lv_goto (tgt := 3) hx hb dX7_find_51 (by decide) ?_
  exact hk3 (v1) (v2) (v3) (x9) H locs ls h (lv_sub hl [1, 2, 3, 4, 0] rfl) hP hD hS
set_option maxHeartbeats 4000000 in
set_option maxRecDepth 100000 in
theorem zw_X7_find_3b {p : Program} {l : Launch} {e : Env} {s : State} {m : MethodId} {args : Array Value} {below : List Frame} {meth : Method} {c : Code} {A : Nat → Prop} {D : va_G} {a z : Nat → Nat} {cI cL cB cZ : ClassId} {Q : State → Prop} {N : Nat} {S : mq_St} {res : Int32} {k3 : Int32 → Int32 → Int32 → Int32 → Option (Int32)} (C : mq_C p s m args c A D cI cL cB cZ cX7_find 5 RX7 zc_X7_find) (hret : ∀ (H : Heap) (locs : List Loc) (ls : Array Slot) (pc : Nat), decode cX7_find pc = .ok (.ireturn, 1) → va_P D vwCl (wd_C a cI cL cB cZ z S) H → va_D A (wd_C a cI cL cB cZ z S) → va_S A s.heap H locs → W p l e zr_X7_find s m args below meth c H locs 0 0 Q (F0 m pc ls [.int res])) (hk3 : ∀ (v1 : Int32) (v2 : Int32) (v3 : Int32) (v4 : Int32) (H : Heap) (locs : List Loc) (ls : Array Slot), k3 v1 v2 v3 v4 = some res → lv_has ls 5 [(0, .ref (a 7)), (1, .int (v1)), (2, .int (v2)), (3, .int (v3)), (4, .int (v4))] → va_P D vwCl (wd_C a cI cL cB cZ z S) H → va_D A (wd_C a cI cL cB cZ z S) → va_S A s.heap H locs → W p l e zr_X7_find s m args below meth c H locs 0 0 Q (F0 m 3 ls [])) (v1 : Int32) (v2 : Int32) (v3 : Int32) (v4 : Int32) (H : Heap) (locs : List Loc) (ls : Array Slot) (h : zf_X7_find_3b N z S k3 v1 v2 v3 v4 = some res) (hl : lv_has ls 5 [(0, .ref (a 7)), (1, .int (v1)), (2, .int (v2)), (3, .int (v3)), (4, .int (v4))]) (hP : va_P D vwCl (wd_C a cI cL cB cZ z S) H) (hD : va_D A (wd_C a cI cL cB cZ z S)) (hS : va_S A s.heap H locs) : W p l e zr_X7_find s m args below meth c H locs 0 0 Q (F0 m 3 ls []) := by
  obtain ⟨hx, hb, hml, hown, hts, hK, hA⟩ := id C
  unfold zf_X7_find_3b at h
  refine lv_iload hx hb dX7_find_3 (lv_at hl 4 rfl) ?_
  refine lv_aload_n hx hb dX7_find_5 rfl (lv_at hl 0 rfl) ?_
  refine va_get (D := D) (ci := 7) (v := .int ((S.1 2))) (C := RX7) (T := TX7) (N := 6) hx hb hts (zi_X7 _) hown hK hP 7 rfl rfl 5 (by decide) (hts _ (List.mem_cons_of_mem _ zt_f_X7_41)) (fun _ h9 => h9) rfl dX7_find_6 ?_
  refine lv_icmp_ge (tgt := 54) hx hb dX7_find_9 (by decide) (fun c8 => ?_) (fun c8 => ?_)
  · replace h := mq_it c8 h
    refine lv_iconst (v := (-1 : Int32)) hx hb dX7_find_54 (by decide) ?_
    cases h
    exact hret H locs ls 55 dX7_find_55 hP hD hS
  · replace h := mq_if c8 h
    refine lv_aload_n hx hb dX7_find_12 rfl (lv_at hl 0 rfl) ?_
    refine va_get (D := D) (ci := 7) (v := .ref (a 8)) (C := RX7) (T := TX7) (N := 6) hx hb hts (zi_X7 _) hown hK hP 7 rfl rfl 0 (by decide) (hts _ (List.mem_cons_of_mem _ zt_f_X7_9)) (fun _ h9 => h9) rfl dX7_find_13 ?_
    refine lv_iload hx hb dX7_find_16 (lv_at hl 4 rfl) ?_
    have hi2 := mq_ck_in h
    replace h := mq_ck_go h
    refine va_iald (f := S.2.1 4) hx hb hK hP 8 0 rfl rfl hi2 dX7_find_18 ?_
    refine lv_iload_n hx hb dX7_find_19 rfl (lv_at hl 1 rfl) ?_
    refine lv_icmp_ne (tgt := 48) hx hb dX7_find_20 (by decide) (fun c7 => ?_) (fun c7 => ?_)
    · replace h := mq_if c7 h
      exact zw_X7_find_48 C hret hk3 (v1) (v2) (v3) (v4) H locs ls h (lv_sub hl [0, 1, 2, 3, 4] rfl) hP hD hS
    · replace h := mq_it (by simpa using c7) h
      refine lv_aload_n hx hb dX7_find_23 rfl (lv_at hl 0 rfl) ?_
      refine va_get (D := D) (ci := 7) (v := .ref (a 9)) (C := RX7) (T := TX7) (N := 6) hx hb hts (zi_X7 _) hown hK hP 7 rfl rfl 1 (by decide) (hts _ (List.mem_cons_of_mem _ zt_f_X7_15)) (fun _ h9 => h9) rfl dX7_find_24 ?_
      refine lv_iload hx hb dX7_find_27 (lv_at hl 4 rfl) ?_
      have hi3 := mq_ck_in h
      replace h := mq_ck_go h
      refine va_iald (f := S.2.1 5) hx hb hK hP 9 0 rfl rfl hi3 dX7_find_29 ?_
      refine lv_iload_n hx hb dX7_find_30 rfl (lv_at hl 2 rfl) ?_
      refine lv_icmp_ne (tgt := 48) hx hb dX7_find_31 (by decide) (fun c6 => ?_) (fun c6 => ?_)
      · replace h := mq_if c6 h
        exact zw_X7_find_48 C hret hk3 (v1) (v2) (v3) (v4) H locs ls h (lv_sub hl [0, 1, 2, 3, 4] rfl) hP hD hS
      · replace h := mq_it (by simpa using c6) h
        refine lv_aload_n hx hb dX7_find_34 rfl (lv_at hl 0 rfl) ?_
        refine va_get (D := D) (ci := 7) (v := .ref (a 10)) (C := RX7) (T := TX7) (N := 6) hx hb hts (zi_X7 _) hown hK hP 7 rfl rfl 2 (by decide) (hts _ (List.mem_cons_of_mem _ zt_f_X7_18)) (fun _ h9 => h9) rfl dX7_find_35 ?_
        refine lv_iload hx hb dX7_find_38 (lv_at hl 4 rfl) ?_
        have hi4 := mq_ck_in h
        replace h := mq_ck_go h
        refine va_iald (f := S.2.1 6) hx hb hK hP 10 0 rfl rfl hi4 dX7_find_40 ?_
        refine lv_iload_n hx hb dX7_find_41 rfl (lv_at hl 3 rfl) ?_
        refine lv_icmp_ne (tgt := 48) hx hb dX7_find_42 (by decide) (fun c5 => ?_) (fun c5 => ?_)
        · replace h := mq_if c5 h
          exact zw_X7_find_48 C hret hk3 (v1) (v2) (v3) (v4) H locs ls h (lv_sub hl [0, 1, 2, 3, 4] rfl) hP hD hS
        · replace h := mq_it (by simpa using c5) h
          refine lv_iload hx hb dX7_find_45 (lv_at hl 4 rfl) ?_
          cases h
          exact hret H locs ls 47 dX7_find_47 hP hD hS
set_option maxHeartbeats 4000000 in
set_option maxRecDepth 100000 in
theorem zw_X7_find_3 {p : Program} {l : Launch} {e : Env} {s : State} {m : MethodId} {args : Array Value} {below : List Frame} {meth : Method} {c : Code} {A : Nat → Prop} {D : va_G} {a z : Nat → Nat} {cI cL cB cZ : ClassId} {Q : State → Prop} {N : Nat} {S : mq_St} {res : Int32} (C : mq_C p s m args c A D cI cL cB cZ cX7_find 5 RX7 zc_X7_find) (hret : ∀ (H : Heap) (locs : List Loc) (ls : Array Slot) (pc : Nat), decode cX7_find pc = .ok (.ireturn, 1) → va_P D vwCl (wd_C a cI cL cB cZ z S) H → va_D A (wd_C a cI cL cB cZ z S) → va_S A s.heap H locs → W p l e zr_X7_find s m args below meth c H locs 0 0 Q (F0 m pc ls [.int res])) : ∀ (n : Nat) (v1 : Int32) (v2 : Int32) (v3 : Int32) (v4 : Int32) (H : Heap) (locs : List Loc) (ls : Array Slot) (h : zf_X7_find_3 N z S n v1 v2 v3 v4 = some res) (hl : lv_has ls 5 [(0, .ref (a 7)), (1, .int (v1)), (2, .int (v2)), (3, .int (v3)), (4, .int (v4))]) (hP : va_P D vwCl (wd_C a cI cL cB cZ z S) H) (hD : va_D A (wd_C a cI cL cB cZ z S)) (hS : va_S A s.heap H locs), W p l e zr_X7_find s m args below meth c H locs 0 0 Q (F0 m 3 ls []) := by
  intro n
  induction n with
  | zero =>
    intro v1 v2 v3 v4 H locs ls h hl hP hD hS
    exact nomatch (show (none : Option (Int32)) = some res from h)
  | succ n ih =>
    intro v1 v2 v3 v4 H locs ls h hl hP hD hS
    exact zw_X7_find_3b C hret (fun v1 v2 v3 v4 H locs ls h hl hP hD hS => ih v1 v2 v3 v4 H locs ls h hl hP hD hS) v1 v2 v3 v4 H locs ls h hl hP hD hS
set_option maxHeartbeats 4000000 in
set_option maxRecDepth 100000 in
theorem zw_X7_find_0 {p : Program} {l : Launch} {e : Env} {s : State} {m : MethodId} {args : Array Value} {below : List Frame} {meth : Method} {c : Code} {A : Nat → Prop} {D : va_G} {a z : Nat → Nat} {cI cL cB cZ : ClassId} {Q : State → Prop} {N : Nat} {S : mq_St} {res : Int32} (C : mq_C p s m args c A D cI cL cB cZ cX7_find 5 RX7 zc_X7_find) (hret : ∀ (H : Heap) (locs : List Loc) (ls : Array Slot) (pc : Nat), decode cX7_find pc = .ok (.ireturn, 1) → va_P D vwCl (wd_C a cI cL cB cZ z S) H → va_D A (wd_C a cI cL cB cZ z S) → va_S A s.heap H locs → W p l e zr_X7_find s m args below meth c H locs 0 0 Q (F0 m pc ls [.int res])) (v1 : Int32) (v2 : Int32) (v3 : Int32) (H : Heap) (locs : List Loc) (ls : Array Slot) (h : zf_X7_find N z v1 v2 v3 S = some res) (hl : lv_has ls 5 [(0, .ref (a 7)), (1, .int (v1)), (2, .int (v2)), (3, .int (v3))]) (hP : va_P D vwCl (wd_C a cI cL cB cZ z S) H) (hD : va_D A (wd_C a cI cL cB cZ z S)) (hS : va_S A s.heap H locs) : W p l e zr_X7_find s m args below meth c H locs 0 0 Q (F0 m 0 ls []) := by
  obtain ⟨hx, hb, hml, hown, hts, hK, hA⟩ := id C
  unfold zf_X7_find at h
  refine lv_iconst (v := (0 : Int32)) hx hb dX7_find_0 (by decide) ?_
  refine lv_topi (fun x1 ex1 => ?_)
  replace h := mq_nI_go ex1 h
  refine lv_istore (lv' := [(4, .int (x1)), (0, .ref (a 7)), (1, .int (v1)), (2, .int (v2)), (3, .int (v3))]) hx hb dX7_find_1 hl (by decide) rfl (fun ls hl => ?_)
  exact zw_X7_find_3 C hret N (v1) (v2) (v3) (x1) H locs ls h (lv_sub hl [1, 2, 3, 4, 0] rfl) hP hD hS
set_option maxHeartbeats 4000000 in
set_option maxRecDepth 100000 in
theorem zm_X7_find (l : Launch) (D : va_G) (a z : Nat → Nat) (cI cL cB cZ : ClassId) (sz N : Nat) (v1 : Int32) (v2 : Int32) (v3 : Int32) (S : mq_St) (res : Int32) (h : zf_X7_find N z v1 v2 v3 S = some res) : Met l yX7_find (zc_X7_find :: mq_T) zr_X7_find (va_Pc [.ref (a 7), .int (v1), .int (v2), .int (v3)] (fun U => U.heap.size = sz ∧ va_P D vwCl (wd_C a cI cL cB cZ z S) U.heap ∧ va_K D vwCl (mq_tys cI cL cB cZ) U ∧ va_D (fun _ => True) (wd_C a cI cL cB cZ z S))) (va_Qi (fun (r : Int32) (u : mq_St) => r = res ∧ u = S) (fun u t => va_P D vwCl (wd_C a cI cL cB cZ z u) t.heap ∧ va_K D vwCl (mq_tys cI cL cB cZ) t ∧ va_D (va_A (wd_C a cI cL cB cZ z S) sz) (wd_C a cI cL cB cZ z u)) (va_A (wd_C a cI cL cB cZ z S) sz)) 0 0 (va_A (wd_C a cI cL cB cZ z S) sz) := by
  refine Met.ofW (cc := cX7_find) (maxL := 5) (ret := (some .int)) (by decide) rfl ?_
  intro p e s m args below meth c s₁ B hml hv
  obtain ⟨rfl, hsz, hP, hK, hD0⟩ := hv
  have hr := B.returns
  have hlocks := B.notSynchronized
  have hts := atoms_spec (ws := zc_X7_find :: mq_T) B.pre
  have hown : s.vm.findClass RX7 = some m.cls := findClass_of_methodNamed B.named
  subst hsz
  have hD := hD0.self (sz := s.heap.size)
  generalize hAe : va_A (wd_C a cI cL cB cZ z S) s.heap.size = A at hD ⊢
  have hA : ∀ q : Nat, s.heap.size ≤ q → A q := fun q h => by rw [← hAe]; exact Or.inr h
  have hl := lv_entry ([.ref (a 7), .int (v1), .int (v2), .int (v3)]) (n := 5) (Nat.le_of_ble_eq_true rfl)
  rw [lg_entry_eq]
  generalize (lg_sl ([.ref (a 7), .int (v1), .int (v2), .int (v3)]) ++ List.replicate (5 - (lg_sl ([.ref (a 7), .int (v1), .int (v2), .int (v3)])).length) Slot.unset).toArray = ls at hl ⊢
  have hl : lv_has ls 5 [(0, .ref (a 7)), (1, .int (v1)), (2, .int (v2)), (3, .int (v3))] := hl
  refine zw_X7_find_0 (A := A) ⟨B.exec, B.bytes, hml, hown, hts, hK, hA⟩ (fun H locs ls pc dg hP hD hS => ?_) v1 v2 v3 s.heap [] ls h hl hP hD va_S.rf
  exact W.iret B.exec B.bytes hr (fun t ht hW => ⟨⟨_, _, rfl, ⟨rfl, rfl⟩, by rw [ht]; exact hP, va_K.moved hW.alike hK, hD⟩, hS.F ht⟩) hS.2.2 dg
theorem zt_X7_find_c : zc_X7_find ∈ mq_T := mq_T_mem (mq_t3 (List.mem_of_getElem? (i := 126) rfl)) rfl
theorem zt_X7_find_i : Cond.instanceMethod yX7_find ∈ mq_T := mq_T_mem (mq_t3 (List.mem_of_getElem? (i := 125) rfl)) rfl
theorem zt_X7_find_s : Cond.selects RX7 yX7_find yX7_find ∈ mq_T := mq_T_at 26 (by decide +kernel)
set_option maxHeartbeats 4000000 in
theorem zk_X7_find {p : Program} {l : Launch} {e : Env} {R : Room} {s : State} {m : MethodId} {args : Array Value} {below : List Frame} {meth : Method} {c : Code} {A : Nat → Prop} {D : va_G} {a z : Nat → Nat} {cI cL cB cZ : ClassId} {Q : State → Prop} {cc : ByteArray} {nL idx pc N : Nat} {own : String} {c1 : Cond} {H : Heap} {locs : List Loc} {ls : Array Slot} {rest : List Value} {S : mq_St} {res : Int32} {v1 : Int32} {v2 : Int32} {v3 : Int32} (C : mq_C p s m args c A D cI cL cB cZ cc nL own c1) (hlk : Cond.methodLink own idx yX7_find ∈ mq_T) (hR : zr_X7_find.frames + 1 ≤ R.frames ∧ 8 + (5 + 11) + zr_X7_find.locals ≤ R.locals) (h : zf_X7_find N z v1 v2 v3 S = some res) (hP : va_P D vwCl (wd_C a cI cL cB cZ z S) H) (hD : va_D A (wd_C a cI cL cB cZ z S)) (hS : va_S A s.heap H locs) (hls : ls.size = nL) (hrest : (rest.map fun v => v.category).sum ≤ 8) (hdg : decode cc pc = .ok (.invokevirtual idx, 3)) (kk : ∀ (H1 : Heap) (locs1 : List Loc), va_P D vwCl (wd_C a cI cL cB cZ z S) H1 → va_D A (wd_C a cI cL cB cZ z S) → va_S A s.heap H1 locs1 → W p l e R s m args below meth c H1 locs1 0 0 Q (F0 m (pc + 3) ls (.int res :: rest))) : W p l e R s m args below meth c H locs 0 0 Q (F0 m pc ls (.int (v3) :: .int (v2) :: .int (v1) :: .ref (a 7) :: rest)) := by
  obtain ⟨hx, hb, hml, hown, hts, hK, hA⟩ := C
  have hFc := mq_freeI hD hS hA
  refine va_calli (va_runV (As := [.int (v1), .int (v2), .int (v3)]) (rest := rest) ⟨hx, hb, hml, hown, hts⟩ (zm_X7_find l D a z cI cL cB cZ H.size N v1 v2 v3 S res h) (cwV 3 hts (mq_goodL (mq_wsV hlk zt_X7_find_i zt_X7_find_s zt_ini_X7 zt_X7_find_c)) rfl rfl rfl (by decide +kernel) hR) ⟨fun a U g mk q => ⟨q.1, q.2.1, q.2.2.1, va_K.moved (u := U) (U := U.calling g mk a) (Vm.Alike.refl U.vm) q.2.2.2.1, q.2.2.2.2⟩, zy_C_7 hK hP, fun U hU hW => ⟨rfl, by rw [hU], by rw [hU]; exact hP, va_K.moved hW.alike hK, hD.weaken (fun _ _ _ _ => trivial)⟩⟩ rfl rfl hls rfl (lv_room hrest) hdg ⟨Nat.zero_le _, Nat.zero_le _⟩) hS (fun q _ h => hFc q h) hFc (fun r u t H1 locs ht hvm hw hB hz1 hk1 hS => ?_)
  obtain ⟨rfl, rfl⟩ := hw
  obtain ⟨hP1, hK1, hD1⟩ := hB
  rw [ht] at hP1
  exact kk H1 locs hP1 (hD1.weaken (fun _ _ _ h => hFc _ h)) hS
/-! ModalDesk$Stock.firstOf(I)I -/
def zr_X7_firstOf : Room := { frames := 1, cells := 0, slots := 0, locals := 21 }
def zc_X7_firstOf : Cond := .code yX7_firstOf cX7_firstOf 2 (some .int)
def zf_X7_firstOf (N : Nat) (z : Nat → Nat) (v1 : Int32) (S : mq_St) : Option (Int32) := (mq_cp (zf_X7_has N z (v1) S) (fun q1 => (if q1 = (0 : Int32) then (some ((-1 : Int32))) else (mq_ck (v1) 300 (some ((S.2.1 5 (v1).toNatClampNeg)))))))
set_option maxHeartbeats 4000000 in
set_option maxRecDepth 100000 in
theorem zw_X7_firstOf_0 {p : Program} {l : Launch} {e : Env} {s : State} {m : MethodId} {args : Array Value} {below : List Frame} {meth : Method} {c : Code} {A : Nat → Prop} {D : va_G} {a z : Nat → Nat} {cI cL cB cZ : ClassId} {Q : State → Prop} {N : Nat} {S : mq_St} {res : Int32} (C : mq_C p s m args c A D cI cL cB cZ cX7_firstOf 2 RX7 zc_X7_firstOf) (hret : ∀ (H : Heap) (locs : List Loc) (ls : Array Slot) (pc : Nat), decode cX7_firstOf pc = .ok (.ireturn, 1) → va_P D vwCl (wd_C a cI cL cB cZ z S) H → va_D A (wd_C a cI cL cB cZ z S) → va_S A s.heap H locs → W p l e zr_X7_firstOf s m args below meth c H locs 0 0 Q (F0 m pc ls [.int res])) (v1 : Int32) (H : Heap) (locs : List Loc) (ls : Array Slot) (h : zf_X7_firstOf N z v1 S = some res) (hl : lv_has ls 2 [(0, .ref (a 7)), (1, .int (v1))]) (hP : va_P D vwCl (wd_C a cI cL cB cZ z S) H) (hD : va_D A (wd_C a cI cL cB cZ z S)) (hS : va_S A s.heap H locs) : W p l e zr_X7_firstOf s m args below meth c H locs 0 0 Q (F0 m 0 ls []) := by
  obtain ⟨hx, hb, hml, hown, hts, hK, hA⟩ := id C
  unfold zf_X7_firstOf at h
  refine lv_aload_n hx hb dX7_firstOf_0 rfl (lv_at hl 0 rfl) ?_
  refine lv_iload_n hx hb dX7_firstOf_1 rfl (lv_at hl 1 rfl) ?_
  obtain ⟨q1, hc2, h⟩ := mq_cp_go h
  refine zk_X7_has C zt_m_X7_45 ⟨by decide, by decide⟩ hc2 hP hD hS hl.1 (Nat.le_of_ble_eq_true rfl) dX7_firstOf_2 (fun H locs hP hD hS => ?_)
  refine lv_if_eq (tgt := 17) hx hb dX7_firstOf_5 (by decide) (fun c4 => ?_) (fun c4 => ?_)
  · replace h := mq_it c4 h
    refine lv_iconst (v := (-1 : Int32)) hx hb dX7_firstOf_17 (by decide) ?_
    cases h
    exact hret H locs ls 18 dX7_firstOf_18 hP hD hS
  · replace h := mq_if c4 h
    refine lv_aload_n hx hb dX7_firstOf_8 rfl (lv_at hl 0 rfl) ?_
    refine va_get (D := D) (ci := 7) (v := .ref (a 9)) (C := RX7) (T := TX7) (N := 6) hx hb hts (zi_X7 _) hown hK hP 7 rfl rfl 1 (by decide) (hts _ (List.mem_cons_of_mem _ zt_f_X7_15)) (fun _ h9 => h9) rfl dX7_firstOf_9 ?_
    refine lv_iload_n hx hb dX7_firstOf_12 rfl (lv_at hl 1 rfl) ?_
    have hi3 := mq_ck_in h
    replace h := mq_ck_go h
    refine va_iald (f := S.2.1 5) hx hb hK hP 9 0 rfl rfl hi3 dX7_firstOf_13 ?_
    refine lv_goto (tgt := 18) hx hb dX7_firstOf_14 (by decide) ?_
    cases h
    exact hret H locs ls 18 dX7_firstOf_18 hP hD hS
set_option maxHeartbeats 4000000 in
set_option maxRecDepth 100000 in
theorem zm_X7_firstOf (l : Launch) (D : va_G) (a z : Nat → Nat) (cI cL cB cZ : ClassId) (sz N : Nat) (v1 : Int32) (S : mq_St) (res : Int32) (h : zf_X7_firstOf N z v1 S = some res) : Met l yX7_firstOf (zc_X7_firstOf :: mq_T) zr_X7_firstOf (va_Pc [.ref (a 7), .int (v1)] (fun U => U.heap.size = sz ∧ va_P D vwCl (wd_C a cI cL cB cZ z S) U.heap ∧ va_K D vwCl (mq_tys cI cL cB cZ) U ∧ va_D (fun _ => True) (wd_C a cI cL cB cZ z S))) (va_Qi (fun (r : Int32) (u : mq_St) => r = res ∧ u = S) (fun u t => va_P D vwCl (wd_C a cI cL cB cZ z u) t.heap ∧ va_K D vwCl (mq_tys cI cL cB cZ) t ∧ va_D (va_A (wd_C a cI cL cB cZ z S) sz) (wd_C a cI cL cB cZ z u)) (va_A (wd_C a cI cL cB cZ z S) sz)) 0 0 (va_A (wd_C a cI cL cB cZ z S) sz) := by
  refine Met.ofW (cc := cX7_firstOf) (maxL := 2) (ret := (some .int)) (by decide) rfl ?_
  intro p e s m args below meth c s₁ B hml hv
  obtain ⟨rfl, hsz, hP, hK, hD0⟩ := hv
  have hr := B.returns
  have hlocks := B.notSynchronized
  have hts := atoms_spec (ws := zc_X7_firstOf :: mq_T) B.pre
  have hown : s.vm.findClass RX7 = some m.cls := findClass_of_methodNamed B.named
  subst hsz
  have hD := hD0.self (sz := s.heap.size)
  generalize hAe : va_A (wd_C a cI cL cB cZ z S) s.heap.size = A at hD ⊢
  have hA : ∀ q : Nat, s.heap.size ≤ q → A q := fun q h => by rw [← hAe]; exact Or.inr h
  have hl := lv_entry ([.ref (a 7), .int (v1)]) (n := 2) (Nat.le_of_ble_eq_true rfl)
  rw [lg_entry_eq]
  generalize (lg_sl ([.ref (a 7), .int (v1)]) ++ List.replicate (2 - (lg_sl ([.ref (a 7), .int (v1)])).length) Slot.unset).toArray = ls at hl ⊢
  have hl : lv_has ls 2 [(0, .ref (a 7)), (1, .int (v1))] := hl
  refine zw_X7_firstOf_0 (A := A) ⟨B.exec, B.bytes, hml, hown, hts, hK, hA⟩ (fun H locs ls pc dg hP hD hS => ?_) v1 s.heap [] ls h hl hP hD va_S.rf
  exact W.iret B.exec B.bytes hr (fun t ht hW => ⟨⟨_, _, rfl, ⟨rfl, rfl⟩, by rw [ht]; exact hP, va_K.moved hW.alike hK, hD⟩, hS.F ht⟩) hS.2.2 dg
theorem zt_X7_firstOf_c : zc_X7_firstOf ∈ mq_T := mq_T_mem (mq_t3 (List.mem_of_getElem? (i := 187) rfl)) rfl
theorem zt_X7_firstOf_i : Cond.instanceMethod yX7_firstOf ∈ mq_T := mq_T_mem (mq_t3 (List.mem_of_getElem? (i := 185) rfl)) rfl
theorem zt_X7_firstOf_s : Cond.selects RX7 yX7_firstOf yX7_firstOf ∈ mq_T := mq_T_mem (mq_t3 (List.mem_of_getElem? (i := 186) rfl)) rfl
set_option maxHeartbeats 4000000 in
theorem zk_X7_firstOf {p : Program} {l : Launch} {e : Env} {R : Room} {s : State} {m : MethodId} {args : Array Value} {below : List Frame} {meth : Method} {c : Code} {A : Nat → Prop} {D : va_G} {a z : Nat → Nat} {cI cL cB cZ : ClassId} {Q : State → Prop} {cc : ByteArray} {nL idx pc N : Nat} {own : String} {c1 : Cond} {H : Heap} {locs : List Loc} {ls : Array Slot} {rest : List Value} {S : mq_St} {res : Int32} {v1 : Int32} (C : mq_C p s m args c A D cI cL cB cZ cc nL own c1) (hlk : Cond.methodLink own idx yX7_firstOf ∈ mq_T) (hR : zr_X7_firstOf.frames + 1 ≤ R.frames ∧ 8 + (2 + 11) + zr_X7_firstOf.locals ≤ R.locals) (h : zf_X7_firstOf N z v1 S = some res) (hP : va_P D vwCl (wd_C a cI cL cB cZ z S) H) (hD : va_D A (wd_C a cI cL cB cZ z S)) (hS : va_S A s.heap H locs) (hls : ls.size = nL) (hrest : (rest.map fun v => v.category).sum ≤ 8) (hdg : decode cc pc = .ok (.invokevirtual idx, 3)) (kk : ∀ (H1 : Heap) (locs1 : List Loc), va_P D vwCl (wd_C a cI cL cB cZ z S) H1 → va_D A (wd_C a cI cL cB cZ z S) → va_S A s.heap H1 locs1 → W p l e R s m args below meth c H1 locs1 0 0 Q (F0 m (pc + 3) ls (.int res :: rest))) : W p l e R s m args below meth c H locs 0 0 Q (F0 m pc ls (.int (v1) :: .ref (a 7) :: rest)) := by
  obtain ⟨hx, hb, hml, hown, hts, hK, hA⟩ := C
  have hFc := mq_freeI hD hS hA
  refine va_calli (va_runV (As := [.int (v1)]) (rest := rest) ⟨hx, hb, hml, hown, hts⟩ (zm_X7_firstOf l D a z cI cL cB cZ H.size N v1 S res h) (cwV 1 hts (mq_goodL (mq_wsV hlk zt_X7_firstOf_i zt_X7_firstOf_s zt_ini_X7 zt_X7_firstOf_c)) rfl rfl rfl (by decide +kernel) hR) ⟨fun a U g mk q => ⟨q.1, q.2.1, q.2.2.1, va_K.moved (u := U) (U := U.calling g mk a) (Vm.Alike.refl U.vm) q.2.2.2.1, q.2.2.2.2⟩, zy_C_7 hK hP, fun U hU hW => ⟨rfl, by rw [hU], by rw [hU]; exact hP, va_K.moved hW.alike hK, hD.weaken (fun _ _ _ _ => trivial)⟩⟩ rfl rfl hls rfl (lv_room hrest) hdg ⟨Nat.zero_le _, Nat.zero_le _⟩) hS (fun q _ h => hFc q h) hFc (fun r u t H1 locs ht hvm hw hB hz1 hk1 hS => ?_)
  obtain ⟨rfl, rfl⟩ := hw
  obtain ⟨hP1, hK1, hD1⟩ := hB
  rw [ht] at hP1
  exact kk H1 locs hP1 (hD1.weaken (fun _ _ _ h => hFc _ h)) hS
theorem zt_m_X7_49 : Cond.methodLink RX7 49 yX7_find ∈ mq_T := mq_T_mem (mq_t3 (List.mem_of_getElem? (i := 123) rfl)) rfl
theorem zt_m_X7_33 : Cond.methodLink RX7 33 yX7_append ∈ mq_T := mq_T_mem (mq_t1 (List.mem_of_getElem? (i := 61) rfl)) rfl
/-! ModalDesk$Stock.make(III)I -/
def zr_X7_make : Room := { frames := 3, cells := 0, slots := 0, locals := 68 }
def zc_X7_make : Cond := .code yX7_make cX7_make 5 (some .int)
def zf_X7_make (N : Nat) (z : Nat → Nat) (v1 : Int32) (v2 : Int32) (v3 : Int32) (S : mq_St) : Option (Int32 × mq_St) := (mq_cp (zf_X7_find N z (v1) (v2) (v3) S) (fun q1 => (mq_nI (q1) (fun x3 => (if x3 = (-1 : Int32) then (mq_cl (zf_X7_append N z (v1) (v2) (v3) S) (fun q4v S6 => (some (q4v, S6)))) else (some (x3, S)))))))
set_option maxHeartbeats 4000000 in
set_option maxRecDepth 100000 in
theorem zw_X7_make_0 {p : Program} {l : Launch} {e : Env} {s : State} {m : MethodId} {args : Array Value} {below : List Frame} {meth : Method} {c : Code} {A : Nat → Prop} {D : va_G} {a z : Nat → Nat} {cI cL cB cZ : ClassId} {Q : State → Prop} {N : Nat} {res : Int32 × mq_St} (C : mq_C p s m args c A D cI cL cB cZ cX7_make 5 RX7 zc_X7_make) (hret : ∀ (H : Heap) (locs : List Loc) (ls : Array Slot) (pc : Nat), decode cX7_make pc = .ok (.ireturn, 1) → va_P D vwCl (wd_C a cI cL cB cZ z res.2) H → va_D A (wd_C a cI cL cB cZ z res.2) → va_S A s.heap H locs → W p l e zr_X7_make s m args below meth c H locs 0 0 Q (F0 m pc ls [.int res.1])) (v1 : Int32) (v2 : Int32) (v3 : Int32) (S : mq_St) (H : Heap) (locs : List Loc) (ls : Array Slot) (h : zf_X7_make N z v1 v2 v3 S = some res) (hl : lv_has ls 5 [(0, .ref (a 7)), (1, .int (v1)), (2, .int (v2)), (3, .int (v3))]) (hP : va_P D vwCl (wd_C a cI cL cB cZ z S) H) (hD : va_D A (wd_C a cI cL cB cZ z S)) (hS : va_S A s.heap H locs) : W p l e zr_X7_make s m args below meth c H locs 0 0 Q (F0 m 0 ls []) := by
  obtain ⟨hx, hb, hml, hown, hts, hK, hA⟩ := id C
  unfold zf_X7_make at h
  refine lv_aload_n hx hb dX7_make_0 rfl (lv_at hl 0 rfl) ?_
  refine lv_iload_n hx hb dX7_make_1 rfl (lv_at hl 1 rfl) ?_
  refine lv_iload_n hx hb dX7_make_2 rfl (lv_at hl 2 rfl) ?_
  refine lv_iload_n hx hb dX7_make_3 rfl (lv_at hl 3 rfl) ?_
  obtain ⟨q1, hc2, h⟩ := mq_cp_go h
  refine zk_X7_find C zt_m_X7_49 ⟨by decide, by decide⟩ hc2 hP hD hS hl.1 (Nat.le_of_ble_eq_true rfl) dX7_make_4 (fun H locs hP hD hS => ?_)
  refine lv_topi (fun x3 ex3 => ?_)
  replace h := mq_nI_go ex3 h
  refine lv_istore (lv' := [(4, .int (x3)), (0, .ref (a 7)), (1, .int (v1)), (2, .int (v2)), (3, .int (v3))]) hx hb dX7_make_7 hl (by decide) rfl (fun ls hl => ?_)
  refine lv_iload hx hb dX7_make_9 (lv_at hl 0 rfl) ?_
  refine lv_iconst (v := (-1 : Int32)) hx hb dX7_make_11 (by decide) ?_
  refine lv_icmp_eq (tgt := 20) hx hb dX7_make_12 (by decide) (fun c7 => ?_) (fun c7 => ?_)
  · replace h := mq_it c7 h
    refine lv_aload_n hx hb dX7_make_20 rfl (lv_at hl 1 rfl) ?_
    refine lv_iload_n hx hb dX7_make_21 rfl (lv_at hl 2 rfl) ?_
    refine lv_iload_n hx hb dX7_make_22 rfl (lv_at hl 3 rfl) ?_
    refine lv_iload_n hx hb dX7_make_23 rfl (lv_at hl 4 rfl) ?_
    obtain ⟨q4, hc5, h⟩ := mq_cl_go h
    refine zk_X7_append C zt_m_X7_33 ⟨by decide, by decide⟩ hc5 hP hD hS hl.1 (Nat.le_of_ble_eq_true rfl) dX7_make_24 (fun H locs hP hD hS => ?_)
    obtain ⟨S6, eS6⟩ : ∃ y, y = q4.2 := ⟨_, rfl⟩
    rw [← eS6] at hP hD h
    cases h
    exact hret H locs ls 27 dX7_make_27 hP hD hS
  · replace h := mq_if c7 h
    refine lv_iload hx hb dX7_make_15 (lv_at hl 0 rfl) ?_
    refine lv_goto (tgt := 27) hx hb dX7_make_17 (by decide) ?_
    cases h
    exact hret H locs ls 27 dX7_make_27 hP hD hS
set_option maxHeartbeats 4000000 in
set_option maxRecDepth 100000 in
theorem zm_X7_make (l : Launch) (D : va_G) (a z : Nat → Nat) (cI cL cB cZ : ClassId) (sz N : Nat) (v1 : Int32) (v2 : Int32) (v3 : Int32) (S : mq_St) (res : Int32 × mq_St) (h : zf_X7_make N z v1 v2 v3 S = some res) : Met l yX7_make (zc_X7_make :: mq_T) zr_X7_make (va_Pc [.ref (a 7), .int (v1), .int (v2), .int (v3)] (fun U => U.heap.size = sz ∧ va_P D vwCl (wd_C a cI cL cB cZ z S) U.heap ∧ va_K D vwCl (mq_tys cI cL cB cZ) U ∧ va_D (fun _ => True) (wd_C a cI cL cB cZ z S))) (va_Qi (fun (r : Int32) (u : mq_St) => r = res.1 ∧ u = res.2) (fun u t => va_P D vwCl (wd_C a cI cL cB cZ z u) t.heap ∧ va_K D vwCl (mq_tys cI cL cB cZ) t ∧ va_D (va_A (wd_C a cI cL cB cZ z S) sz) (wd_C a cI cL cB cZ z u)) (va_A (wd_C a cI cL cB cZ z S) sz)) 0 0 (va_A (wd_C a cI cL cB cZ z S) sz) := by
  refine Met.ofW (cc := cX7_make) (maxL := 5) (ret := (some .int)) (by decide) rfl ?_
  intro p e s m args below meth c s₁ B hml hv
  obtain ⟨rfl, hsz, hP, hK, hD0⟩ := hv
  have hr := B.returns
  have hlocks := B.notSynchronized
  have hts := atoms_spec (ws := zc_X7_make :: mq_T) B.pre
  have hown : s.vm.findClass RX7 = some m.cls := findClass_of_methodNamed B.named
  subst hsz
  have hD := hD0.self (sz := s.heap.size)
  generalize hAe : va_A (wd_C a cI cL cB cZ z S) s.heap.size = A at hD ⊢
  have hA : ∀ q : Nat, s.heap.size ≤ q → A q := fun q h => by rw [← hAe]; exact Or.inr h
  have hl := lv_entry ([.ref (a 7), .int (v1), .int (v2), .int (v3)]) (n := 5) (Nat.le_of_ble_eq_true rfl)
  rw [lg_entry_eq]
  generalize (lg_sl ([.ref (a 7), .int (v1), .int (v2), .int (v3)]) ++ List.replicate (5 - (lg_sl ([.ref (a 7), .int (v1), .int (v2), .int (v3)])).length) Slot.unset).toArray = ls at hl ⊢
  have hl : lv_has ls 5 [(0, .ref (a 7)), (1, .int (v1)), (2, .int (v2)), (3, .int (v3))] := hl
  refine zw_X7_make_0 (A := A) ⟨B.exec, B.bytes, hml, hown, hts, hK, hA⟩ (fun H locs ls pc dg hP hD hS => ?_) v1 v2 v3 S s.heap [] ls h hl hP hD va_S.rf
  exact W.iret B.exec B.bytes hr (fun t ht hW => ⟨⟨_, _, rfl, ⟨rfl, rfl⟩, by rw [ht]; exact hP, va_K.moved hW.alike hK, hD⟩, hS.F ht⟩) hS.2.2 dg
theorem zt_X7_make_c : zc_X7_make ∈ mq_T := mq_T_mem (mq_t3 (List.mem_of_getElem? (i := 122) rfl)) rfl
theorem zt_X7_make_i : Cond.instanceMethod yX7_make ∈ mq_T := mq_T_mem (mq_t3 (List.mem_of_getElem? (i := 120) rfl)) rfl
theorem zt_X7_make_s : Cond.selects RX7 yX7_make yX7_make ∈ mq_T := mq_T_mem (mq_t3 (List.mem_of_getElem? (i := 121) rfl)) rfl
set_option maxHeartbeats 4000000 in
theorem zk_X7_make {p : Program} {l : Launch} {e : Env} {R : Room} {s : State} {m : MethodId} {args : Array Value} {below : List Frame} {meth : Method} {c : Code} {A : Nat → Prop} {D : va_G} {a z : Nat → Nat} {cI cL cB cZ : ClassId} {Q : State → Prop} {cc : ByteArray} {nL idx pc N : Nat} {own : String} {c1 : Cond} {H : Heap} {locs : List Loc} {ls : Array Slot} {rest : List Value} {S : mq_St} {res : Int32 × mq_St} {v1 : Int32} {v2 : Int32} {v3 : Int32} (C : mq_C p s m args c A D cI cL cB cZ cc nL own c1) (hlk : Cond.methodLink own idx yX7_make ∈ mq_T) (hR : zr_X7_make.frames + 1 ≤ R.frames ∧ 8 + (5 + 11) + zr_X7_make.locals ≤ R.locals) (h : zf_X7_make N z v1 v2 v3 S = some res) (hP : va_P D vwCl (wd_C a cI cL cB cZ z S) H) (hD : va_D A (wd_C a cI cL cB cZ z S)) (hS : va_S A s.heap H locs) (hls : ls.size = nL) (hrest : (rest.map fun v => v.category).sum ≤ 8) (hdg : decode cc pc = .ok (.invokevirtual idx, 3)) (kk : ∀ (H1 : Heap) (locs1 : List Loc), va_P D vwCl (wd_C a cI cL cB cZ z res.2) H1 → va_D A (wd_C a cI cL cB cZ z res.2) → va_S A s.heap H1 locs1 → W p l e R s m args below meth c H1 locs1 0 0 Q (F0 m (pc + 3) ls (.int res.1 :: rest))) : W p l e R s m args below meth c H locs 0 0 Q (F0 m pc ls (.int (v3) :: .int (v2) :: .int (v1) :: .ref (a 7) :: rest)) := by
  obtain ⟨hx, hb, hml, hown, hts, hK, hA⟩ := C
  have hFc := mq_freeI hD hS hA
  refine va_calli (va_runV (As := [.int (v1), .int (v2), .int (v3)]) (rest := rest) ⟨hx, hb, hml, hown, hts⟩ (zm_X7_make l D a z cI cL cB cZ H.size N v1 v2 v3 S res h) (cwV 3 hts (mq_goodL (mq_wsV hlk zt_X7_make_i zt_X7_make_s zt_ini_X7 zt_X7_make_c)) rfl rfl rfl (by decide +kernel) hR) ⟨fun a U g mk q => ⟨q.1, q.2.1, q.2.2.1, va_K.moved (u := U) (U := U.calling g mk a) (Vm.Alike.refl U.vm) q.2.2.2.1, q.2.2.2.2⟩, zy_C_7 hK hP, fun U hU hW => ⟨rfl, by rw [hU], by rw [hU]; exact hP, va_K.moved hW.alike hK, hD.weaken (fun _ _ _ _ => trivial)⟩⟩ rfl rfl hls rfl (lv_room hrest) hdg ⟨Nat.zero_le _, Nat.zero_le _⟩) hS (fun q _ h => hFc q h) hFc (fun r u t H1 locs ht hvm hw hB hz1 hk1 hS => ?_)
  obtain ⟨rfl, rfl⟩ := hw
  obtain ⟨hP1, hK1, hD1⟩ := hB
  rw [ht] at hP1
  exact kk H1 locs hP1 (hD1.weaken (fun _ _ _ h => hFc _ h)) hS
/-! ModalDesk$Stock.pair(II)V -/
def zr_X7_pair : Room := { frames := 1, cells := 0, slots := 0, locals := 21 }
def zc_X7_pair : Cond := .code yX7_pair cX7_pair 3 none
def zf_X7_pair (N : Nat) (z : Nat → Nat) (v1 : Int32) (v2 : Int32) (S : mq_St) : Option (Unit × mq_St) := (mq_cp (zf_X7_has N z (v1) S) (fun q1 => (if q1 = (0 : Int32) then (some ((), S)) else (mq_cp (zf_X7_has N z (v2) S) (fun q3 => (if q3 = (0 : Int32) then (some ((), S)) else (mq_ck (v1) 300 (mq_nS (mq_sa S 7 (upd (S.2.1 7) (v1).toNatClampNeg (v2))) (fun S6 => (mq_ck (v2) 300 (mq_nS (mq_sa S6 7 (upd (S6.2.1 7) (v2).toNatClampNeg (v1))) (fun S8 => (some ((), S8))))))))))))))
set_option maxHeartbeats 4000000 in
set_option maxRecDepth 100000 in
theorem zw_X7_pair_0 {p : Program} {l : Launch} {e : Env} {s : State} {m : MethodId} {args : Array Value} {below : List Frame} {meth : Method} {c : Code} {A : Nat → Prop} {D : va_G} {a z : Nat → Nat} {cI cL cB cZ : ClassId} {Q : State → Prop} {N : Nat} {res : Unit × mq_St} (C : mq_C p s m args c A D cI cL cB cZ cX7_pair 3 RX7 zc_X7_pair) (hret : ∀ (H : Heap) (locs : List Loc) (ls : Array Slot) (pc : Nat), decode cX7_pair pc = .ok (.return_, 1) → va_P D vwCl (wd_C a cI cL cB cZ z res.2) H → va_D A (wd_C a cI cL cB cZ z res.2) → va_S A s.heap H locs → W p l e zr_X7_pair s m args below meth c H locs 0 0 Q (F0 m pc ls [])) (v1 : Int32) (v2 : Int32) (S : mq_St) (H : Heap) (locs : List Loc) (ls : Array Slot) (h : zf_X7_pair N z v1 v2 S = some res) (hl : lv_has ls 3 [(0, .ref (a 7)), (1, .int (v1)), (2, .int (v2))]) (hP : va_P D vwCl (wd_C a cI cL cB cZ z S) H) (hD : va_D A (wd_C a cI cL cB cZ z S)) (hS : va_S A s.heap H locs) : W p l e zr_X7_pair s m args below meth c H locs 0 0 Q (F0 m 0 ls []) := by
  obtain ⟨hx, hb, hml, hown, hts, hK, hA⟩ := id C
  unfold zf_X7_pair at h
  refine lv_aload_n hx hb dX7_pair_0 rfl (lv_at hl 0 rfl) ?_
  refine lv_iload_n hx hb dX7_pair_1 rfl (lv_at hl 1 rfl) ?_
  obtain ⟨q1, hc2, h⟩ := mq_cp_go h
  refine zk_X7_has C zt_m_X7_45 ⟨by decide, by decide⟩ hc2 hP hD hS hl.1 (Nat.le_of_ble_eq_true rfl) dX7_pair_2 (fun H locs hP hD hS => ?_)
  refine lv_if_eq (tgt := 30) hx hb dX7_pair_5 (by decide) (fun c10 => ?_) (fun c10 => ?_)
  · replace h := mq_it c10 h
    cases h
    exact hret H locs ls 30 dX7_pair_30 hP hD hS
  · replace h := mq_if c10 h
    refine lv_aload_n hx hb dX7_pair_8 rfl (lv_at hl 0 rfl) ?_
    refine lv_iload_n hx hb dX7_pair_9 rfl (lv_at hl 2 rfl) ?_
    obtain ⟨q3, hc4, h⟩ := mq_cp_go h
    refine zk_X7_has C zt_m_X7_45 ⟨by decide, by decide⟩ hc4 hP hD hS hl.1 (Nat.le_of_ble_eq_true rfl) dX7_pair_10 (fun H locs hP hD hS => ?_)
    refine lv_if_eq (tgt := 30) hx hb dX7_pair_13 (by decide) (fun c9 => ?_) (fun c9 => ?_)
    · replace h := mq_it c9 h
      cases h
      exact hret H locs ls 30 dX7_pair_30 hP hD hS
    · replace h := mq_if c9 h
      refine lv_aload_n hx hb dX7_pair_16 rfl (lv_at hl 0 rfl) ?_
      refine va_get (D := D) (ci := 7) (v := .ref (a 11)) (C := RX7) (T := TX7) (N := 6) hx hb hts (zi_X7 _) hown hK hP 7 rfl rfl 3 (by decide) (hts _ (List.mem_cons_of_mem _ zt_f_X7_21)) (fun _ h9 => h9) rfl dX7_pair_17 ?_
      refine lv_iload_n hx hb dX7_pair_20 rfl (lv_at hl 1 rfl) ?_
      refine lv_iload_n hx hb dX7_pair_21 rfl (lv_at hl 2 rfl) ?_
      have hi5 := mq_ck_in h
      replace h := mq_ck_go h
      refine mq_iast (w := wd_C a cI cL cB cZ z) (S := S) (f := S.2.1 7) hx hb hK hP hD hS 11 0 rfl rfl hi5 dX7_pair_22 7 (zs_wd_C_a_11_7 _ _ _ _ _ _ _ _) (fun S6 eS6 H locs hP hD hS => ?_)
      replace h := mq_nS_go eS6 h
      refine lv_aload_n hx hb dX7_pair_23 rfl (lv_at hl 0 rfl) ?_
      refine va_get (D := D) (ci := 7) (v := .ref (a 11)) (C := RX7) (T := TX7) (N := 6) hx hb hts (zi_X7 _) hown hK hP 7 rfl rfl 3 (by decide) (hts _ (List.mem_cons_of_mem _ zt_f_X7_21)) (fun _ h9 => h9) rfl dX7_pair_24 ?_
      refine lv_iload_n hx hb dX7_pair_27 rfl (lv_at hl 2 rfl) ?_
      refine lv_iload_n hx hb dX7_pair_28 rfl (lv_at hl 1 rfl) ?_
      have hi7 := mq_ck_in h
      replace h := mq_ck_go h
      refine mq_iast (w := wd_C a cI cL cB cZ z) (S := S6) (f := S6.2.1 7) hx hb hK hP hD hS 11 0 rfl rfl hi7 dX7_pair_29 7 (zs_wd_C_a_11_7 _ _ _ _ _ _ _ _) (fun S8 eS8 H locs hP hD hS => ?_)
      replace h := mq_nS_go eS8 h
      cases h
      exact hret H locs ls 30 dX7_pair_30 hP hD hS
set_option maxHeartbeats 4000000 in
set_option maxRecDepth 100000 in
theorem zm_X7_pair (l : Launch) (D : va_G) (a z : Nat → Nat) (cI cL cB cZ : ClassId) (sz N : Nat) (v1 : Int32) (v2 : Int32) (S : mq_St) (res : Unit × mq_St) (h : zf_X7_pair N z v1 v2 S = some res) : Met l yX7_pair (zc_X7_pair :: mq_T) zr_X7_pair (va_Pc [.ref (a 7), .int (v1), .int (v2)] (fun U => U.heap.size = sz ∧ va_P D vwCl (wd_C a cI cL cB cZ z S) U.heap ∧ va_K D vwCl (mq_tys cI cL cB cZ) U ∧ va_D (fun _ => True) (wd_C a cI cL cB cZ z S))) (va_Qv (fun u : mq_St => u = res.2) (fun u t => va_P D vwCl (wd_C a cI cL cB cZ z u) t.heap ∧ va_K D vwCl (mq_tys cI cL cB cZ) t ∧ va_D (va_A (wd_C a cI cL cB cZ z S) sz) (wd_C a cI cL cB cZ z u)) (va_A (wd_C a cI cL cB cZ z S) sz)) 0 0 (va_A (wd_C a cI cL cB cZ z S) sz) := by
  refine Met.ofW (cc := cX7_pair) (maxL := 3) (ret := none) (by decide) rfl ?_
  intro p e s m args below meth c s₁ B hml hv
  obtain ⟨rfl, hsz, hP, hK, hD0⟩ := hv
  have hr := B.returns
  have hlocks := B.notSynchronized
  have hts := atoms_spec (ws := zc_X7_pair :: mq_T) B.pre
  have hown : s.vm.findClass RX7 = some m.cls := findClass_of_methodNamed B.named
  subst hsz
  have hD := hD0.self (sz := s.heap.size)
  generalize hAe : va_A (wd_C a cI cL cB cZ z S) s.heap.size = A at hD ⊢
  have hA : ∀ q : Nat, s.heap.size ≤ q → A q := fun q h => by rw [← hAe]; exact Or.inr h
  have hl := lv_entry ([.ref (a 7), .int (v1), .int (v2)]) (n := 3) (Nat.le_of_ble_eq_true rfl)
  rw [lg_entry_eq]
  generalize (lg_sl ([.ref (a 7), .int (v1), .int (v2)]) ++ List.replicate (3 - (lg_sl ([.ref (a 7), .int (v1), .int (v2)])).length) Slot.unset).toArray = ls at hl ⊢
  have hl : lv_has ls 3 [(0, .ref (a 7)), (1, .int (v1)), (2, .int (v2))] := hl
  refine zw_X7_pair_0 (A := A) ⟨B.exec, B.bytes, hml, hown, hts, hK, hA⟩ (fun H locs ls pc dg hP hD hS => ?_) v1 v2 S s.heap [] ls h hl hP hD va_S.rf
  exact W.vret B.exec B.bytes hr (fun t ht hW => ⟨⟨_, rfl, rfl, by rw [ht]; exact hP, va_K.moved hW.alike hK, hD⟩, hS.F ht⟩) hS.2.2 dg
theorem zt_X7_pair_c : zc_X7_pair ∈ mq_T := mq_T_mem (mq_t1 (List.mem_of_getElem? (i := 76) rfl)) rfl
theorem zt_X7_pair_i : Cond.instanceMethod yX7_pair ∈ mq_T := mq_T_mem (mq_t1 (List.mem_of_getElem? (i := 74) rfl)) rfl
theorem zt_X7_pair_s : Cond.selects RX7 yX7_pair yX7_pair ∈ mq_T := mq_T_mem (mq_t1 (List.mem_of_getElem? (i := 75) rfl)) rfl
set_option maxHeartbeats 4000000 in
theorem zk_X7_pair {p : Program} {l : Launch} {e : Env} {R : Room} {s : State} {m : MethodId} {args : Array Value} {below : List Frame} {meth : Method} {c : Code} {A : Nat → Prop} {D : va_G} {a z : Nat → Nat} {cI cL cB cZ : ClassId} {Q : State → Prop} {cc : ByteArray} {nL idx pc N : Nat} {own : String} {c1 : Cond} {H : Heap} {locs : List Loc} {ls : Array Slot} {rest : List Value} {S : mq_St} {res : Unit × mq_St} {v1 : Int32} {v2 : Int32} (C : mq_C p s m args c A D cI cL cB cZ cc nL own c1) (hlk : Cond.methodLink own idx yX7_pair ∈ mq_T) (hR : zr_X7_pair.frames + 1 ≤ R.frames ∧ 8 + (3 + 11) + zr_X7_pair.locals ≤ R.locals) (h : zf_X7_pair N z v1 v2 S = some res) (hP : va_P D vwCl (wd_C a cI cL cB cZ z S) H) (hD : va_D A (wd_C a cI cL cB cZ z S)) (hS : va_S A s.heap H locs) (hls : ls.size = nL) (hrest : (rest.map fun v => v.category).sum ≤ 8) (hdg : decode cc pc = .ok (.invokevirtual idx, 3)) (kk : ∀ (H1 : Heap) (locs1 : List Loc), va_P D vwCl (wd_C a cI cL cB cZ z res.2) H1 → va_D A (wd_C a cI cL cB cZ z res.2) → va_S A s.heap H1 locs1 → W p l e R s m args below meth c H1 locs1 0 0 Q (F0 m (pc + 3) ls rest)) : W p l e R s m args below meth c H locs 0 0 Q (F0 m pc ls (.int (v2) :: .int (v1) :: .ref (a 7) :: rest)) := by
  obtain ⟨hx, hb, hml, hown, hts, hK, hA⟩ := C
  have hFc := mq_freeI hD hS hA
  refine va_callv (va_runV (As := [.int (v1), .int (v2)]) (rest := rest) ⟨hx, hb, hml, hown, hts⟩ (zm_X7_pair l D a z cI cL cB cZ H.size N v1 v2 S res h) (cwV 2 hts (mq_goodL (mq_wsV hlk zt_X7_pair_i zt_X7_pair_s zt_ini_X7 zt_X7_pair_c)) rfl rfl rfl (by decide +kernel) hR) ⟨fun a U g mk q => ⟨q.1, q.2.1, q.2.2.1, va_K.moved (u := U) (U := U.calling g mk a) (Vm.Alike.refl U.vm) q.2.2.2.1, q.2.2.2.2⟩, zy_C_7 hK hP, fun U hU hW => ⟨rfl, by rw [hU], by rw [hU]; exact hP, va_K.moved hW.alike hK, hD.weaken (fun _ _ _ _ => trivial)⟩⟩ rfl rfl hls rfl (lv_room hrest) hdg ⟨Nat.zero_le _, Nat.zero_le _⟩) hS (fun q _ h => hFc q h) hFc (fun u t H1 locs ht hvm hw hB hz1 hk1 hS => ?_)
  subst hw
  obtain ⟨hP1, hK1, hD1⟩ := hB
  rw [ht] at hP1
  exact kk H1 locs hP1 (hD1.weaken (fun _ _ _ h => hFc _ h)) hS
/-! ModalDesk$Stock.secondOf(I)I -/
def zr_X7_secondOf : Room := { frames := 1, cells := 0, slots := 0, locals := 21 }
def zc_X7_secondOf : Cond := .code yX7_secondOf cX7_secondOf 2 (some .int)
def zf_X7_secondOf (N : Nat) (z : Nat → Nat) (v1 : Int32) (S : mq_St) : Option (Int32) := (mq_cp (zf_X7_has N z (v1) S) (fun q1 => (if q1 = (0 : Int32) then (some ((-1 : Int32))) else (mq_ck (v1) 300 (some ((S.2.1 6 (v1).toNatClampNeg)))))))
set_option maxHeartbeats 4000000 in
set_option maxRecDepth 100000 in
theorem zw_X7_secondOf_0 {p : Program} {l : Launch} {e : Env} {s : State} {m : MethodId} {args : Array Value} {below : List Frame} {meth : Method} {c : Code} {A : Nat → Prop} {D : va_G} {a z : Nat → Nat} {cI cL cB cZ : ClassId} {Q : State → Prop} {N : Nat} {S : mq_St} {res : Int32} (C : mq_C p s m args c A D cI cL cB cZ cX7_secondOf 2 RX7 zc_X7_secondOf) (hret : ∀ (H : Heap) (locs : List Loc) (ls : Array Slot) (pc : Nat), decode cX7_secondOf pc = .ok (.ireturn, 1) → va_P D vwCl (wd_C a cI cL cB cZ z S) H → va_D A (wd_C a cI cL cB cZ z S) → va_S A s.heap H locs → W p l e zr_X7_secondOf s m args below meth c H locs 0 0 Q (F0 m pc ls [.int res])) (v1 : Int32) (H : Heap) (locs : List Loc) (ls : Array Slot) (h : zf_X7_secondOf N z v1 S = some res) (hl : lv_has ls 2 [(0, .ref (a 7)), (1, .int (v1))]) (hP : va_P D vwCl (wd_C a cI cL cB cZ z S) H) (hD : va_D A (wd_C a cI cL cB cZ z S)) (hS : va_S A s.heap H locs) : W p l e zr_X7_secondOf s m args below meth c H locs 0 0 Q (F0 m 0 ls []) := by
  obtain ⟨hx, hb, hml, hown, hts, hK, hA⟩ := id C
  unfold zf_X7_secondOf at h
  refine lv_aload_n hx hb dX7_secondOf_0 rfl (lv_at hl 0 rfl) ?_
  refine lv_iload_n hx hb dX7_secondOf_1 rfl (lv_at hl 1 rfl) ?_
  obtain ⟨q1, hc2, h⟩ := mq_cp_go h
  refine zk_X7_has C zt_m_X7_45 ⟨by decide, by decide⟩ hc2 hP hD hS hl.1 (Nat.le_of_ble_eq_true rfl) dX7_secondOf_2 (fun H locs hP hD hS => ?_)
  refine lv_if_eq (tgt := 17) hx hb dX7_secondOf_5 (by decide) (fun c4 => ?_) (fun c4 => ?_)
  · replace h := mq_it c4 h
    refine lv_iconst (v := (-1 : Int32)) hx hb dX7_secondOf_17 (by decide) ?_
    cases h
    exact hret H locs ls 18 dX7_secondOf_18 hP hD hS
  · replace h := mq_if c4 h
    refine lv_aload_n hx hb dX7_secondOf_8 rfl (lv_at hl 0 rfl) ?_
    refine va_get (D := D) (ci := 7) (v := .ref (a 10)) (C := RX7) (T := TX7) (N := 6) hx hb hts (zi_X7 _) hown hK hP 7 rfl rfl 2 (by decide) (hts _ (List.mem_cons_of_mem _ zt_f_X7_18)) (fun _ h9 => h9) rfl dX7_secondOf_9 ?_
    refine lv_iload_n hx hb dX7_secondOf_12 rfl (lv_at hl 1 rfl) ?_
    have hi3 := mq_ck_in h
    replace h := mq_ck_go h
    refine va_iald (f := S.2.1 6) hx hb hK hP 10 0 rfl rfl hi3 dX7_secondOf_13 ?_
    refine lv_goto (tgt := 18) hx hb dX7_secondOf_14 (by decide) ?_
    cases h
    exact hret H locs ls 18 dX7_secondOf_18 hP hD hS
set_option maxHeartbeats 4000000 in
set_option maxRecDepth 100000 in
theorem zm_X7_secondOf (l : Launch) (D : va_G) (a z : Nat → Nat) (cI cL cB cZ : ClassId) (sz N : Nat) (v1 : Int32) (S : mq_St) (res : Int32) (h : zf_X7_secondOf N z v1 S = some res) : Met l yX7_secondOf (zc_X7_secondOf :: mq_T) zr_X7_secondOf (va_Pc [.ref (a 7), .int (v1)] (fun U => U.heap.size = sz ∧ va_P D vwCl (wd_C a cI cL cB cZ z S) U.heap ∧ va_K D vwCl (mq_tys cI cL cB cZ) U ∧ va_D (fun _ => True) (wd_C a cI cL cB cZ z S))) (va_Qi (fun (r : Int32) (u : mq_St) => r = res ∧ u = S) (fun u t => va_P D vwCl (wd_C a cI cL cB cZ z u) t.heap ∧ va_K D vwCl (mq_tys cI cL cB cZ) t ∧ va_D (va_A (wd_C a cI cL cB cZ z S) sz) (wd_C a cI cL cB cZ z u)) (va_A (wd_C a cI cL cB cZ z S) sz)) 0 0 (va_A (wd_C a cI cL cB cZ z S) sz) := by
  refine Met.ofW (cc := cX7_secondOf) (maxL := 2) (ret := (some .int)) (by decide) rfl ?_
  intro p e s m args below meth c s₁ B hml hv
  obtain ⟨rfl, hsz, hP, hK, hD0⟩ := hv
  have hr := B.returns
  have hlocks := B.notSynchronized
  have hts := atoms_spec (ws := zc_X7_secondOf :: mq_T) B.pre
  have hown : s.vm.findClass RX7 = some m.cls := findClass_of_methodNamed B.named
  subst hsz
  have hD := hD0.self (sz := s.heap.size)
  generalize hAe : va_A (wd_C a cI cL cB cZ z S) s.heap.size = A at hD ⊢
  have hA : ∀ q : Nat, s.heap.size ≤ q → A q := fun q h => by rw [← hAe]; exact Or.inr h
  have hl := lv_entry ([.ref (a 7), .int (v1)]) (n := 2) (Nat.le_of_ble_eq_true rfl)
  rw [lg_entry_eq]
  generalize (lg_sl ([.ref (a 7), .int (v1)]) ++ List.replicate (2 - (lg_sl ([.ref (a 7), .int (v1)])).length) Slot.unset).toArray = ls at hl ⊢
  have hl : lv_has ls 2 [(0, .ref (a 7)), (1, .int (v1))] := hl
  refine zw_X7_secondOf_0 (A := A) ⟨B.exec, B.bytes, hml, hown, hts, hK, hA⟩ (fun H locs ls pc dg hP hD hS => ?_) v1 s.heap [] ls h hl hP hD va_S.rf
  exact W.iret B.exec B.bytes hr (fun t ht hW => ⟨⟨_, _, rfl, ⟨rfl, rfl⟩, by rw [ht]; exact hP, va_K.moved hW.alike hK, hD⟩, hS.F ht⟩) hS.2.2 dg
theorem zt_X7_secondOf_c : zc_X7_secondOf ∈ mq_T := mq_T_mem (mq_t3 (List.mem_of_getElem? (i := 191) rfl)) rfl
theorem zt_X7_secondOf_i : Cond.instanceMethod yX7_secondOf ∈ mq_T := mq_T_mem (mq_t3 (List.mem_of_getElem? (i := 189) rfl)) rfl
theorem zt_X7_secondOf_s : Cond.selects RX7 yX7_secondOf yX7_secondOf ∈ mq_T := mq_T_mem (mq_t3 (List.mem_of_getElem? (i := 190) rfl)) rfl
set_option maxHeartbeats 4000000 in
theorem zk_X7_secondOf {p : Program} {l : Launch} {e : Env} {R : Room} {s : State} {m : MethodId} {args : Array Value} {below : List Frame} {meth : Method} {c : Code} {A : Nat → Prop} {D : va_G} {a z : Nat → Nat} {cI cL cB cZ : ClassId} {Q : State → Prop} {cc : ByteArray} {nL idx pc N : Nat} {own : String} {c1 : Cond} {H : Heap} {locs : List Loc} {ls : Array Slot} {rest : List Value} {S : mq_St} {res : Int32} {v1 : Int32} (C : mq_C p s m args c A D cI cL cB cZ cc nL own c1) (hlk : Cond.methodLink own idx yX7_secondOf ∈ mq_T) (hR : zr_X7_secondOf.frames + 1 ≤ R.frames ∧ 8 + (2 + 11) + zr_X7_secondOf.locals ≤ R.locals) (h : zf_X7_secondOf N z v1 S = some res) (hP : va_P D vwCl (wd_C a cI cL cB cZ z S) H) (hD : va_D A (wd_C a cI cL cB cZ z S)) (hS : va_S A s.heap H locs) (hls : ls.size = nL) (hrest : (rest.map fun v => v.category).sum ≤ 8) (hdg : decode cc pc = .ok (.invokevirtual idx, 3)) (kk : ∀ (H1 : Heap) (locs1 : List Loc), va_P D vwCl (wd_C a cI cL cB cZ z S) H1 → va_D A (wd_C a cI cL cB cZ z S) → va_S A s.heap H1 locs1 → W p l e R s m args below meth c H1 locs1 0 0 Q (F0 m (pc + 3) ls (.int res :: rest))) : W p l e R s m args below meth c H locs 0 0 Q (F0 m pc ls (.int (v1) :: .ref (a 7) :: rest)) := by
  obtain ⟨hx, hb, hml, hown, hts, hK, hA⟩ := C
  have hFc := mq_freeI hD hS hA
  refine va_calli (va_runV (As := [.int (v1)]) (rest := rest) ⟨hx, hb, hml, hown, hts⟩ (zm_X7_secondOf l D a z cI cL cB cZ H.size N v1 S res h) (cwV 1 hts (mq_goodL (mq_wsV hlk zt_X7_secondOf_i zt_X7_secondOf_s zt_ini_X7 zt_X7_secondOf_c)) rfl rfl rfl (by decide +kernel) hR) ⟨fun a U g mk q => ⟨q.1, q.2.1, q.2.2.1, va_K.moved (u := U) (U := U.calling g mk a) (Vm.Alike.refl U.vm) q.2.2.2.1, q.2.2.2.2⟩, zy_C_7 hK hP, fun U hU hW => ⟨rfl, by rw [hU], by rw [hU]; exact hP, va_K.moved hW.alike hK, hD.weaken (fun _ _ _ _ => trivial)⟩⟩ rfl rfl hls rfl (lv_room hrest) hdg ⟨Nat.zero_le _, Nat.zero_le _⟩) hS (fun q _ h => hFc q h) hFc (fun r u t H1 locs ht hvm hw hB hz1 hk1 hS => ?_)
  obtain ⟨rfl, rfl⟩ := hw
  obtain ⟨hP1, hK1, hD1⟩ := hB
  rw [ht] at hP1
  exact kk H1 locs hP1 (hD1.weaken (fun _ _ _ h => hFc _ h)) hS
/-! ModalDesk$Stock.size()I -/
def zr_X7_size : Room := { frames := 0, cells := 0, slots := 0, locals := 0 }
def zc_X7_size : Cond := .code yX7_size cX7_size 1 (some .int)
def zf_X7_size (N : Nat) (z : Nat → Nat) (S : mq_St) : Option (Int32) := (some ((S.1 2)))
set_option maxHeartbeats 4000000 in
set_option maxRecDepth 100000 in
theorem zw_X7_size_0 {p : Program} {l : Launch} {e : Env} {s : State} {m : MethodId} {args : Array Value} {below : List Frame} {meth : Method} {c : Code} {A : Nat → Prop} {D : va_G} {a z : Nat → Nat} {cI cL cB cZ : ClassId} {Q : State → Prop} {N : Nat} {S : mq_St} {res : Int32} (C : mq_C p s m args c A D cI cL cB cZ cX7_size 1 RX7 zc_X7_size) (hret : ∀ (H : Heap) (locs : List Loc) (ls : Array Slot) (pc : Nat), decode cX7_size pc = .ok (.ireturn, 1) → va_P D vwCl (wd_C a cI cL cB cZ z S) H → va_D A (wd_C a cI cL cB cZ z S) → va_S A s.heap H locs → W p l e zr_X7_size s m args below meth c H locs 0 0 Q (F0 m pc ls [.int res])) (H : Heap) (locs : List Loc) (ls : Array Slot) (h : zf_X7_size N z S = some res) (hl : lv_has ls 1 [(0, .ref (a 7))]) (hP : va_P D vwCl (wd_C a cI cL cB cZ z S) H) (hD : va_D A (wd_C a cI cL cB cZ z S)) (hS : va_S A s.heap H locs) : W p l e zr_X7_size s m args below meth c H locs 0 0 Q (F0 m 0 ls []) := by
  obtain ⟨hx, hb, hml, hown, hts, hK, hA⟩ := id C
  unfold zf_X7_size at h
  refine lv_aload_n hx hb dX7_size_0 rfl (lv_at hl 0 rfl) ?_
  refine va_get (D := D) (ci := 7) (v := .int ((S.1 2))) (C := RX7) (T := TX7) (N := 6) hx hb hts (zi_X7 _) hown hK hP 7 rfl rfl 5 (by decide) (hts _ (List.mem_cons_of_mem _ zt_f_X7_41)) (fun _ h9 => h9) rfl dX7_size_1 ?_
  cases h
  exact hret H locs ls 4 dX7_size_4 hP hD hS
set_option maxHeartbeats 4000000 in
set_option maxRecDepth 100000 in
theorem zm_X7_size (l : Launch) (D : va_G) (a z : Nat → Nat) (cI cL cB cZ : ClassId) (sz N : Nat) (S : mq_St) (res : Int32) (h : zf_X7_size N z S = some res) : Met l yX7_size (zc_X7_size :: mq_T) zr_X7_size (va_Pc [.ref (a 7)] (fun U => U.heap.size = sz ∧ va_P D vwCl (wd_C a cI cL cB cZ z S) U.heap ∧ va_K D vwCl (mq_tys cI cL cB cZ) U ∧ va_D (fun _ => True) (wd_C a cI cL cB cZ z S))) (va_Qi (fun (r : Int32) (u : mq_St) => r = res ∧ u = S) (fun u t => va_P D vwCl (wd_C a cI cL cB cZ z u) t.heap ∧ va_K D vwCl (mq_tys cI cL cB cZ) t ∧ va_D (va_A (wd_C a cI cL cB cZ z S) sz) (wd_C a cI cL cB cZ z u)) (va_A (wd_C a cI cL cB cZ z S) sz)) 0 0 (va_A (wd_C a cI cL cB cZ z S) sz) := by
  refine Met.ofW (cc := cX7_size) (maxL := 1) (ret := (some .int)) (by decide) rfl ?_
  intro p e s m args below meth c s₁ B hml hv
  obtain ⟨rfl, hsz, hP, hK, hD0⟩ := hv
  have hr := B.returns
  have hlocks := B.notSynchronized
  have hts := atoms_spec (ws := zc_X7_size :: mq_T) B.pre
  have hown : s.vm.findClass RX7 = some m.cls := findClass_of_methodNamed B.named
  subst hsz
  have hD := hD0.self (sz := s.heap.size)
  generalize hAe : va_A (wd_C a cI cL cB cZ z S) s.heap.size = A at hD ⊢
  have hA : ∀ q : Nat, s.heap.size ≤ q → A q := fun q h => by rw [← hAe]; exact Or.inr h
  have hl := lv_entry ([.ref (a 7)]) (n := 1) (Nat.le_of_ble_eq_true rfl)
  rw [lg_entry_eq]
  generalize (lg_sl ([.ref (a 7)]) ++ List.replicate (1 - (lg_sl ([.ref (a 7)])).length) Slot.unset).toArray = ls at hl ⊢
  have hl : lv_has ls 1 [(0, .ref (a 7))] := hl
  refine zw_X7_size_0 (A := A) ⟨B.exec, B.bytes, hml, hown, hts, hK, hA⟩ (fun H locs ls pc dg hP hD hS => ?_) s.heap [] ls h hl hP hD va_S.rf
  exact W.iret B.exec B.bytes hr (fun t ht hW => ⟨⟨_, _, rfl, ⟨rfl, rfl⟩, by rw [ht]; exact hP, va_K.moved hW.alike hK, hD⟩, hS.F ht⟩) hS.2.2 dg
theorem zt_X7_size_c : zc_X7_size ∈ mq_T := mq_T_mem (mq_t3 (List.mem_of_getElem? (i := 85) rfl)) rfl
theorem zt_X7_size_i : Cond.instanceMethod yX7_size ∈ mq_T := mq_T_mem (mq_t3 (List.mem_of_getElem? (i := 83) rfl)) rfl
theorem zt_X7_size_s : Cond.selects RX7 yX7_size yX7_size ∈ mq_T := mq_T_mem (mq_t3 (List.mem_of_getElem? (i := 84) rfl)) rfl
set_option maxHeartbeats 4000000 in
theorem zk_X7_size {p : Program} {l : Launch} {e : Env} {R : Room} {s : State} {m : MethodId} {args : Array Value} {below : List Frame} {meth : Method} {c : Code} {A : Nat → Prop} {D : va_G} {a z : Nat → Nat} {cI cL cB cZ : ClassId} {Q : State → Prop} {cc : ByteArray} {nL idx pc N : Nat} {own : String} {c1 : Cond} {H : Heap} {locs : List Loc} {ls : Array Slot} {rest : List Value} {S : mq_St} {res : Int32} (C : mq_C p s m args c A D cI cL cB cZ cc nL own c1) (hlk : Cond.methodLink own idx yX7_size ∈ mq_T) (hR : zr_X7_size.frames + 1 ≤ R.frames ∧ 8 + (1 + 11) + zr_X7_size.locals ≤ R.locals) (h : zf_X7_size N z S = some res) (hP : va_P D vwCl (wd_C a cI cL cB cZ z S) H) (hD : va_D A (wd_C a cI cL cB cZ z S)) (hS : va_S A s.heap H locs) (hls : ls.size = nL) (hrest : (rest.map fun v => v.category).sum ≤ 8) (hdg : decode cc pc = .ok (.invokevirtual idx, 3)) (kk : ∀ (H1 : Heap) (locs1 : List Loc), va_P D vwCl (wd_C a cI cL cB cZ z S) H1 → va_D A (wd_C a cI cL cB cZ z S) → va_S A s.heap H1 locs1 → W p l e R s m args below meth c H1 locs1 0 0 Q (F0 m (pc + 3) ls (.int res :: rest))) : W p l e R s m args below meth c H locs 0 0 Q (F0 m pc ls (.ref (a 7) :: rest)) := by
  obtain ⟨hx, hb, hml, hown, hts, hK, hA⟩ := C
  have hFc := mq_freeI hD hS hA
  refine va_calli (va_runV (As := []) (rest := rest) ⟨hx, hb, hml, hown, hts⟩ (zm_X7_size l D a z cI cL cB cZ H.size N S res h) (cwV 0 hts (mq_goodL (mq_wsV hlk zt_X7_size_i zt_X7_size_s zt_ini_X7 zt_X7_size_c)) rfl rfl rfl (by decide +kernel) hR) ⟨fun a U g mk q => ⟨q.1, q.2.1, q.2.2.1, va_K.moved (u := U) (U := U.calling g mk a) (Vm.Alike.refl U.vm) q.2.2.2.1, q.2.2.2.2⟩, zy_C_7 hK hP, fun U hU hW => ⟨rfl, by rw [hU], by rw [hU]; exact hP, va_K.moved hW.alike hK, hD.weaken (fun _ _ _ _ => trivial)⟩⟩ rfl rfl hls rfl (lv_room hrest) hdg ⟨Nat.zero_le _, Nat.zero_le _⟩) hS (fun q _ h => hFc q h) hFc (fun r u t H1 locs ht hvm hw hB hz1 hk1 hS => ?_)
  obtain ⟨rfl, rfl⟩ := hw
  obtain ⟨hP1, hK1, hD1⟩ := hB
  rw [ht] at hP1
  exact kk H1 locs hP1 (hD1.weaken (fun _ _ _ h => hFc _ h)) hS
/-! ModalDesk$Stock.sortOf(I)I -/
def zr_X7_sortOf : Room := { frames := 1, cells := 0, slots := 0, locals := 21 }
def zc_X7_sortOf : Cond := .code yX7_sortOf cX7_sortOf 2 (some .int)
def zf_X7_sortOf (N : Nat) (z : Nat → Nat) (v1 : Int32) (S : mq_St) : Option (Int32) := (mq_cp (zf_X7_has N z (v1) S) (fun q1 => (if q1 = (0 : Int32) then (some ((-1 : Int32))) else (mq_ck (v1) 300 (some ((S.2.1 4 (v1).toNatClampNeg)))))))
set_option maxHeartbeats 4000000 in
set_option maxRecDepth 100000 in
theorem zw_X7_sortOf_0 {p : Program} {l : Launch} {e : Env} {s : State} {m : MethodId} {args : Array Value} {below : List Frame} {meth : Method} {c : Code} {A : Nat → Prop} {D : va_G} {a z : Nat → Nat} {cI cL cB cZ : ClassId} {Q : State → Prop} {N : Nat} {S : mq_St} {res : Int32} (C : mq_C p s m args c A D cI cL cB cZ cX7_sortOf 2 RX7 zc_X7_sortOf) (hret : ∀ (H : Heap) (locs : List Loc) (ls : Array Slot) (pc : Nat), decode cX7_sortOf pc = .ok (.ireturn, 1) → va_P D vwCl (wd_C a cI cL cB cZ z S) H → va_D A (wd_C a cI cL cB cZ z S) → va_S A s.heap H locs → W p l e zr_X7_sortOf s m args below meth c H locs 0 0 Q (F0 m pc ls [.int res])) (v1 : Int32) (H : Heap) (locs : List Loc) (ls : Array Slot) (h : zf_X7_sortOf N z v1 S = some res) (hl : lv_has ls 2 [(0, .ref (a 7)), (1, .int (v1))]) (hP : va_P D vwCl (wd_C a cI cL cB cZ z S) H) (hD : va_D A (wd_C a cI cL cB cZ z S)) (hS : va_S A s.heap H locs) : W p l e zr_X7_sortOf s m args below meth c H locs 0 0 Q (F0 m 0 ls []) := by
  obtain ⟨hx, hb, hml, hown, hts, hK, hA⟩ := id C
  unfold zf_X7_sortOf at h
  refine lv_aload_n hx hb dX7_sortOf_0 rfl (lv_at hl 0 rfl) ?_
  refine lv_iload_n hx hb dX7_sortOf_1 rfl (lv_at hl 1 rfl) ?_
  obtain ⟨q1, hc2, h⟩ := mq_cp_go h
  refine zk_X7_has C zt_m_X7_45 ⟨by decide, by decide⟩ hc2 hP hD hS hl.1 (Nat.le_of_ble_eq_true rfl) dX7_sortOf_2 (fun H locs hP hD hS => ?_)
  refine lv_if_eq (tgt := 17) hx hb dX7_sortOf_5 (by decide) (fun c4 => ?_) (fun c4 => ?_)
  · replace h := mq_it c4 h
    refine lv_iconst (v := (-1 : Int32)) hx hb dX7_sortOf_17 (by decide) ?_
    cases h
    exact hret H locs ls 18 dX7_sortOf_18 hP hD hS
  · replace h := mq_if c4 h
    refine lv_aload_n hx hb dX7_sortOf_8 rfl (lv_at hl 0 rfl) ?_
    refine va_get (D := D) (ci := 7) (v := .ref (a 8)) (C := RX7) (T := TX7) (N := 6) hx hb hts (zi_X7 _) hown hK hP 7 rfl rfl 0 (by decide) (hts _ (List.mem_cons_of_mem _ zt_f_X7_9)) (fun _ h9 => h9) rfl dX7_sortOf_9 ?_
    refine lv_iload_n hx hb dX7_sortOf_12 rfl (lv_at hl 1 rfl) ?_
    have hi3 := mq_ck_in h
    replace h := mq_ck_go h
    refine va_iald (f := S.2.1 4) hx hb hK hP 8 0 rfl rfl hi3 dX7_sortOf_13 ?_
    refine lv_goto (tgt := 18) hx hb dX7_sortOf_14 (by decide) ?_
    cases h
    exact hret H locs ls 18 dX7_sortOf_18 hP hD hS
set_option maxHeartbeats 4000000 in
set_option maxRecDepth 100000 in
theorem zm_X7_sortOf (l : Launch) (D : va_G) (a z : Nat → Nat) (cI cL cB cZ : ClassId) (sz N : Nat) (v1 : Int32) (S : mq_St) (res : Int32) (h : zf_X7_sortOf N z v1 S = some res) : Met l yX7_sortOf (zc_X7_sortOf :: mq_T) zr_X7_sortOf (va_Pc [.ref (a 7), .int (v1)] (fun U => U.heap.size = sz ∧ va_P D vwCl (wd_C a cI cL cB cZ z S) U.heap ∧ va_K D vwCl (mq_tys cI cL cB cZ) U ∧ va_D (fun _ => True) (wd_C a cI cL cB cZ z S))) (va_Qi (fun (r : Int32) (u : mq_St) => r = res ∧ u = S) (fun u t => va_P D vwCl (wd_C a cI cL cB cZ z u) t.heap ∧ va_K D vwCl (mq_tys cI cL cB cZ) t ∧ va_D (va_A (wd_C a cI cL cB cZ z S) sz) (wd_C a cI cL cB cZ z u)) (va_A (wd_C a cI cL cB cZ z S) sz)) 0 0 (va_A (wd_C a cI cL cB cZ z S) sz) := by
  refine Met.ofW (cc := cX7_sortOf) (maxL := 2) (ret := (some .int)) (by decide) rfl ?_
  intro p e s m args below meth c s₁ B hml hv
  obtain ⟨rfl, hsz, hP, hK, hD0⟩ := hv
  have hr := B.returns
  have hlocks := B.notSynchronized
  have hts := atoms_spec (ws := zc_X7_sortOf :: mq_T) B.pre
  have hown : s.vm.findClass RX7 = some m.cls := findClass_of_methodNamed B.named
  subst hsz
  have hD := hD0.self (sz := s.heap.size)
  generalize hAe : va_A (wd_C a cI cL cB cZ z S) s.heap.size = A at hD ⊢
  have hA : ∀ q : Nat, s.heap.size ≤ q → A q := fun q h => by rw [← hAe]; exact Or.inr h
  have hl := lv_entry ([.ref (a 7), .int (v1)]) (n := 2) (Nat.le_of_ble_eq_true rfl)
  rw [lg_entry_eq]
  generalize (lg_sl ([.ref (a 7), .int (v1)]) ++ List.replicate (2 - (lg_sl ([.ref (a 7), .int (v1)])).length) Slot.unset).toArray = ls at hl ⊢
  have hl : lv_has ls 2 [(0, .ref (a 7)), (1, .int (v1))] := hl
  refine zw_X7_sortOf_0 (A := A) ⟨B.exec, B.bytes, hml, hown, hts, hK, hA⟩ (fun H locs ls pc dg hP hD hS => ?_) v1 s.heap [] ls h hl hP hD va_S.rf
  exact W.iret B.exec B.bytes hr (fun t ht hW => ⟨⟨_, _, rfl, ⟨rfl, rfl⟩, by rw [ht]; exact hP, va_K.moved hW.alike hK, hD⟩, hS.F ht⟩) hS.2.2 dg
theorem zt_X7_sortOf_c : zc_X7_sortOf ∈ mq_T := mq_T_mem (mq_t3 (List.mem_of_getElem? (i := 183) rfl)) rfl
theorem zt_X7_sortOf_i : Cond.instanceMethod yX7_sortOf ∈ mq_T := mq_T_mem (mq_t3 (List.mem_of_getElem? (i := 181) rfl)) rfl
theorem zt_X7_sortOf_s : Cond.selects RX7 yX7_sortOf yX7_sortOf ∈ mq_T := mq_T_mem (mq_t3 (List.mem_of_getElem? (i := 182) rfl)) rfl
set_option maxHeartbeats 4000000 in
theorem zk_X7_sortOf {p : Program} {l : Launch} {e : Env} {R : Room} {s : State} {m : MethodId} {args : Array Value} {below : List Frame} {meth : Method} {c : Code} {A : Nat → Prop} {D : va_G} {a z : Nat → Nat} {cI cL cB cZ : ClassId} {Q : State → Prop} {cc : ByteArray} {nL idx pc N : Nat} {own : String} {c1 : Cond} {H : Heap} {locs : List Loc} {ls : Array Slot} {rest : List Value} {S : mq_St} {res : Int32} {v1 : Int32} (C : mq_C p s m args c A D cI cL cB cZ cc nL own c1) (hlk : Cond.methodLink own idx yX7_sortOf ∈ mq_T) (hR : zr_X7_sortOf.frames + 1 ≤ R.frames ∧ 8 + (2 + 11) + zr_X7_sortOf.locals ≤ R.locals) (h : zf_X7_sortOf N z v1 S = some res) (hP : va_P D vwCl (wd_C a cI cL cB cZ z S) H) (hD : va_D A (wd_C a cI cL cB cZ z S)) (hS : va_S A s.heap H locs) (hls : ls.size = nL) (hrest : (rest.map fun v => v.category).sum ≤ 8) (hdg : decode cc pc = .ok (.invokevirtual idx, 3)) (kk : ∀ (H1 : Heap) (locs1 : List Loc), va_P D vwCl (wd_C a cI cL cB cZ z S) H1 → va_D A (wd_C a cI cL cB cZ z S) → va_S A s.heap H1 locs1 → W p l e R s m args below meth c H1 locs1 0 0 Q (F0 m (pc + 3) ls (.int res :: rest))) : W p l e R s m args below meth c H locs 0 0 Q (F0 m pc ls (.int (v1) :: .ref (a 7) :: rest)) := by
  obtain ⟨hx, hb, hml, hown, hts, hK, hA⟩ := C
  have hFc := mq_freeI hD hS hA
  refine va_calli (va_runV (As := [.int (v1)]) (rest := rest) ⟨hx, hb, hml, hown, hts⟩ (zm_X7_sortOf l D a z cI cL cB cZ H.size N v1 S res h) (cwV 1 hts (mq_goodL (mq_wsV hlk zt_X7_sortOf_i zt_X7_sortOf_s zt_ini_X7 zt_X7_sortOf_c)) rfl rfl rfl (by decide +kernel) hR) ⟨fun a U g mk q => ⟨q.1, q.2.1, q.2.2.1, va_K.moved (u := U) (U := U.calling g mk a) (Vm.Alike.refl U.vm) q.2.2.2.1, q.2.2.2.2⟩, zy_C_7 hK hP, fun U hU hW => ⟨rfl, by rw [hU], by rw [hU]; exact hP, va_K.moved hW.alike hK, hD.weaken (fun _ _ _ _ => trivial)⟩⟩ rfl rfl hls rfl (lv_room hrest) hdg ⟨Nat.zero_le _, Nat.zero_le _⟩) hS (fun q _ h => hFc q h) hFc (fun r u t H1 locs ht hvm hw hB hz1 hk1 hS => ?_)
  obtain ⟨rfl, rfl⟩ := hw
  obtain ⟨hP1, hK1, hD1⟩ := hB
  rw [ht] at hP1
  exact kk H1 locs hP1 (hD1.weaken (fun _ _ _ h => hFc _ h)) hS
