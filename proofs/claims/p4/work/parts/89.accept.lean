/-! The class's reader: one sign, all signs. -/
theorem opc_at {s : Nat} (h : isAt s) : opc s = 9 := by
  unfold opc
  rw [if_neg (by omega), if_neg (by omega), if_neg (by omega), if_neg (by omega)]
theorem bic_no {s : Nat} (h : 4 ≤ bic s) : opc s = 9 ∧ ¬ isAt s ∧ s ≠ 41 ∧ bic s ≤ 7 ∧ (s = 62 ↔ bic s = 5) := by
  have hs : s = 61 ∨ s = 62 ∨ s = 124 ∨ s = 38 := by
    unfold bic at h
    repeat' split at h
    all_goals omega
  rcases hs with rfl | rfl | rfl | rfl <;> exact ⟨rfl, by decide, by decide, by decide, by decide⟩
theorem stA_nop {pl : Bool} {s : Nat} {G : List Nat} {V : List Tr} {od : Bool} (h : okA G V od) (h60 : nop G ≤ 60) (h0 : (stA pl s G V od).1 = 0) : nop (stA pl s G V od).2.1 ≤ 60 := by
  obtain ⟨h1, h2, h3, h4⟩ := h
  unfold stA at h0 ⊢
  cases od with
  | true =>
    rw [if_pos rfl] at h0 ⊢
    by_cases ha : isAt s
    · rw [if_pos ha]
      obtain ⟨a1, a2, a3, a4, a5, a6, a7, a8⟩ := aheadA_ok (pl := pl) G (atomT pl s :: V) h1 (by show V.length + 1 = _; rw [h3]; rfl) (fun v hv => by
        rcases List.mem_cons.mp hv with q | q
        · rw [q]; exact wf_atom ha
        · exact h4 v q)
      exact Nat.le_trans a5 h60
    · rw [if_neg ha] at h0 ⊢
      by_cases ho : opc s ≤ 3
      · rw [if_pos ho] at h0 ⊢
        by_cases h60' : 60 ≤ nop G
        · rw [if_pos h60'] at h0; exact absurd h0 (show ¬ (2 : Nat) = 0 by decide)
        · rw [if_neg h60'] at h0 ⊢
          by_cases hp : pl = false ∧ 2 ≤ opc s
          · rw [if_pos hp] at h0; exact absurd h0 (show ¬ (3 : Nat) = 0 by decide)
          · rw [if_neg hp]
            show nop (opc s :: G) ≤ 60
            rw [nop_c]
            split <;> omega
      · rw [if_neg ho] at h0; exact absurd h0 (show ¬ (1 : Nat) = 0 by decide)
  | false =>
    rw [if_neg (by decide)] at h0 ⊢
    have h2 := h2 rfl
    have h3 : V.length = nbi G + 1 := h3
    by_cases hb : 4 ≤ bic s
    · rw [if_pos hb]
      obtain ⟨a1, a2, a3, a4, a5, a6, a7, a8, a9⟩ := joinA_ok (pl := pl) (c := jc (bic s)) (by unfold jc; split <;> omega) G V h1 h2 h3 h4
      show nop (bic s :: _) ≤ 60
      rw [nop_c, if_neg (by omega), a6]
      exact h60
    · rw [if_neg hb] at h0 ⊢
      by_cases hc : s = 41 ∧ 0 < G.count 0
      · rw [if_pos hc]
        obtain ⟨a1, a2, a3, a4, a5, a6, a7, a8, a9⟩ := joinA_ok (pl := pl) (c := 4) (Nat.le_refl _) G V h1 h2 h3 h4
        obtain ⟨G', e⟩ := (joinA_4 (pl := pl) h1 h2 h3 h4).2 hc.2
        rw [e] at a1 a3 a6 ⊢
        rw [nbi_c, if_neg (by omega)] at a3
        obtain ⟨b1, b2, b3, b4, b5, b6, b7, b8⟩ := aheadA_ok (pl := pl) G' (joinA pl 4 G V).2 a1.2.2 a3 a4
        rw [nop_c] at a6
        exact Nat.le_trans b5 (by omega)
      · rw [if_neg hc] at h0; exact absurd h0 (show ¬ (1 : Nat) = 0 by decide)
section ACC
variable {N : Nat} {z : Nat → Nat} {pl : Bool}
theorem rdC_9 {S : mq_St} {G : List Nat} {V : List Tr} {od od' : Bool} {W : List Tr} (h : rdC S G V od pl W) : rdC (mq_si S 9 (if od' = true then 1 else 0)) G V od' pl W := by
  obtain ⟨c5, cG, c6, cV, c7, c8, c9, c10, cd, cu⟩ := h
  exact ⟨c5, cG, c6, cV, c7, c8, rfl, c10, dft_c cd rfl rfl rfl rfl rfl rfl, cu⟩
theorem rc_endOp {od : Bool} {S : mq_St} {G : List Nat} {V : List Tr} {W : List Tr} (hN : 500 ≤ N) (h : rdC S G V od pl W) (hG : okG G) (hV : V.length = nbi G + 1) (hw : ∀ v ∈ V, wf v) (hGl : G.length ≤ 400) (hVl : V.length ≤ 400) (h60 : nop G ≤ 60) :
    ∃ S' W', zf_X5_endOperand N z S = some ((), S') ∧ rdC S' (aheadA pl G V).1 (aheadA pl G V).2 false pl W' ∧ ag [3, 4, 5, 6, 7, 9] [8, 9, 10, 11, 14] [] S S' := by
  obtain ⟨S', W', a1, a2, a3⟩ := rc_end (N := N) (z := z) (pl := pl) (by omega) G V (mq_si S 9 0) W N (rdC_9 (od' := false) h) hG hV hw (by omega) hGl hVl h60
  refine ⟨S', W', ?_, a2, ag_tr (ag_si (by decide)) (ag_mono a3 (by decide) (by decide) (by decide))⟩
  unfold zf_X5_endOperand
  rw [mq_cz_0, nS_e, nI_e, show (mq_si S 9 0).1 5 = nI G.length from h.1]
  exact a1
theorem rc_joinTo {od : Bool} {S : mq_St} {G : List Nat} {V : List Tr} {W : List Tr} {r : Nat} (hN : 500 ≤ N) (hr : 1 ≤ r ∧ r ≤ 5) (h : rdC S G V od pl W) (hG : okG G) (ht : tp G) (hV : V.length = nbi G + 1) (hw : ∀ v ∈ V, wf v) (hGl : G.length ≤ 400) (hVl : V.length ≤ 400) :
    ∃ S' W', zf_X5_joinDownTo N z (nI r) S = some ((), S') ∧ rdC S' (joinA pl (r + 3) G V).1 (joinA pl (r + 3) G V).2 od pl W' ∧ ag [3, 4, 5, 6] [8, 9, 10, 11, 14] [] S S' := by
  obtain ⟨S', W', a1, a2, a3⟩ := rc_join (N := N) (z := z) (pl := pl) (od := od) (by omega) hr G V S W N h hG ht hV hw (by omega) hGl hVl
  refine ⟨S', W', ?_, a2, a3⟩
  unfold zf_X5_joinDownTo
  rw [nI_e, h.1]
  exact a1
theorem rc_accept {S : mq_St} {G : List Nat} {V : List Tr} {od : Bool} {W : List Tr} {s : Nat} (p : Int32) (hN : 500 ≤ N) (hs : s < 256) (h : rdC S G V od pl W) (hA : okA G V od) (h60 : nop G ≤ 60) (hGl : G.length < 400) (hVl : V.length < 400) :
    ((stA pl s G V od).1 = 0 → ∃ S' W', zf_X5_accept N z (nI s) p S = some ((), S') ∧ rdC S' (stA pl s G V od).2.1 (stA pl s G V od).2.2.1 (stA pl s G V od).2.2.2 pl W' ∧ ag [3, 4, 5, 6, 7, 8, 9] [8, 9, 10, 11, 13, 14] [] S S') ∧
    (¬ (stA pl s G V od).1 = 0 → zf_X5_accept N z (nI s) p S = some ((), mq_si (mq_si S 11 (nI (stA pl s G V od).1)) 12 p)) := by
  have hall := h
  obtain ⟨c5, cG, c6, cV, c7, c8, c9, c10, cd, cu⟩ := h
  obtain ⟨h1, h2, h3, h4⟩ := hA
  have fail : ∀ {k : Nat}, zf_X5_fail N z (nI k) p S = some ((), mq_si (mq_si S 11 (nI k)) 12 p) := fun {k} => by unfold zf_X5_fail; rw [nS_e, nS_e]
  have i10 : ((1 : Int32) = 0) = False := eq_false (by decide)
  cases od with
  | true =>
    have c9 : S.1 9 = 1 := c9
    by_cases ha : isAt s
    · have ho : ¬ opc s ≤ 3 := by rw [opc_at ha]; decide
      have E : zf_X5_accept N z (nI s) p S = mq_cl (zf_X5_markOfAtom N z (nI s) S) (fun v S24 => mq_cl (zf_X5_pushMark N z v S24) (fun _ S27 => mq_cl (zf_X5_endOperand N z S27) (fun _ S30 => some ((), S30)))) := by
        unfold zf_X5_accept zf_X5_canStand zf_X5_canStand_21 zf_X5_canStand_47
        simp only [c9, rc_atom hs, rc_open hs, rc_bin hs, mq_cz_0, mq_cz_1, mq_cp_s, if_pos ha, if_neg ho, i10, ↓reduceIte]
      have Q : stA pl s G V true = (0, (aheadA pl G (atomT pl s :: V)).1, (aheadA pl G (atomT pl s :: V)).2, false) := by
        unfold stA
        rw [if_pos rfl, if_pos ha]
      rw [E, Q]
      refine ⟨fun _ => ?_, fun q => absurd rfl q⟩
      obtain ⟨v', S1, W1, a1, a2, a3, a4, a5⟩ := dk_atom (N := N) (z := z) (pl := pl) (by omega) cd c10 ha
      rw [a1, mq_cl_s, rc_push (n := V.length) v' ((a5.1 6 (by decide)).trans c6) hVl, mq_cl_s]
      have k13 : S1.2.1 13 = S.2.1 13 := a5.2.1 13 (by decide)
      have k14 : S1.2.1 14 = S.2.1 14 := a5.2.1 14 (by decide)
      obtain ⟨S2, W2, b1, b2, b3⟩ := rc_endOp (N := N) (z := z) (pl := pl) (od := true) (S := mq_si (mq_sa S1 14 (upd (S1.2.1 14) V.length v')) 6 (nI (V.length + 1))) (G := G) (V := atomT pl s :: V) (W := W1) hN ⟨(a5.1 5 (by decide)).trans c5, by
        show onG (S1.2.1 13) G
        rw [k13]
        exact cG, rfl, ⟨by
        show RM W1 (upd (S1.2.1 14) V.length v' V.length) _
        rw [up_s]
        exact a3, by
        show onV W1 (upd (S1.2.1 14) V.length v') V
        rw [k14]
        exact onV_upd (Nat.le_refl _) (onV_exw a4 cV)⟩, (a5.1 7 (by decide)).trans c7, (a5.1 8 (by decide)).trans c8, (a5.1 9 (by decide)).trans c9, (a5.1 10 (by decide)).trans c10, dft_c a2 rfl rfl rfl rfl rfl rfl, used_go cu (fun v hv => ⟨v, List.mem_cons_of_mem _ hv, us_rf v⟩) a4 List.mem_cons_self⟩ h1 (by show V.length + 1 = _; rw [h3]; rfl) (fun v hv => by
        rcases List.mem_cons.mp hv with q | q
        · rw [q]; exact wf_atom ha
        · exact h4 v q) (by omega) (by show V.length + 1 ≤ 400; omega) h60
      refine ⟨S2, W2, by rw [b1, mq_cl_s], b2, ?_⟩
      refine ag_tr ?_ (ag_mono b3 (by decide) (by decide) (by decide))
      refine ag_tr ?_ (ag_si (by decide))
      refine ag_tr ?_ (ag_sa (by decide))
      exact ag_mono a5 (by decide) (by decide) (by decide)
    · by_cases ho : opc s ≤ 3
      · have E : zf_X5_accept N z (nI s) p S = mq_cl (zf_X5_acceptOpening N z (nI s) p S) (fun _ S34 => some ((), S34)) := by
          unfold zf_X5_accept zf_X5_canStand zf_X5_canStand_21 zf_X5_canStand_47
          simp only [c9, rc_atom hs, rc_open hs, rc_bin hs, mq_cz_0, mq_cz_1, mq_cp_s, if_neg ha, if_pos ho, i10, ↓reduceIte]
        have Q : stA pl s G V true = (if 60 ≤ nop G then (2, G, V, true) else if pl = false ∧ 2 ≤ opc s then (3, G, V, true) else (0, opc s :: G, V, true)) := by
          unfold stA
          rw [if_pos rfl, if_neg ha, if_pos ho]
        rw [E, Q]
        unfold zf_X5_acceptOpening zf_X5_acceptOpening_37 zf_X5_acceptOpening_46 zf_X5_acceptOpening_77
        rw [c7, c10]
        by_cases hq : 60 ≤ nop G
        · have e60 : ¬ nI (nop G) < (60 : Int32) := nI_nlt (a := nop G) (b := 60) hq (by omega)
          rw [if_neg e60, if_pos hq]
          refine ⟨fun q => absurd q (show ¬ (2 : Nat) = 0 by decide), fun _ => ?_⟩
          rw [show (2 : Int32) = nI 2 from rfl, fail, mq_cl_s, mq_cl_s]
        · have e60 : nI (nop G) < (60 : Int32) := nI_lt (a := nop G) (b := 60) (by omega) (by omega)
          rw [if_pos e60, if_neg hq]
          have ok : ∃ S' W', (mq_cl (mq_cl (zf_X5_pushSign N z (nI s) S) fun q11v S13 => mq_nS (mq_si S13 7 (S13.1 7 + 1)) fun S14 => if nI s = 40 then mq_nS (mq_si S14 8 (S14.1 8 + 1)) fun S16 => some ((), S16) else mq_nS (mq_si S14 8 (S14.1 8 + 0)) fun S16 => some ((), S16)) fun q32v S34 => some ((), S34)) = some ((), S') ∧ rdC S' (opc s :: G) V true pl W' ∧ ag [3, 4, 5, 6, 7, 8, 9] [8, 9, 10, 11, 13, 14] [] S S' := by
            have e40 : (nI s = (40 : Int32)) ↔ s = 40 := nI_eq (b := 40) (by omega) (by omega)
            have ec : (if nI s = 40 then mq_nS (mq_si (mq_si (mq_si (mq_sa S 13 (upd (S.2.1 13) G.length (nI s))) 5 (nI (G.length + 1))) 7 (nI (nop G + 1))) 8 (nI (G.count 0) + 1)) (fun S16 => some ((), S16)) else mq_nS (mq_si (mq_si (mq_si (mq_sa S 13 (upd (S.2.1 13) G.length (nI s))) 5 (nI (G.length + 1))) 7 (nI (nop G + 1))) 8 (nI (G.count 0) + 0)) (fun S16 => some ((), S16))) = some ((), mq_si (mq_si (mq_si (mq_sa S 13 (upd (S.2.1 13) G.length (nI s))) 5 (nI (G.length + 1))) 7 (nI (nop G + 1))) 8 (nI ((opc s :: G).count 0))) := by
              rw [cn0_c]
              by_cases q : s = 40
              · rw [if_pos (e40.mpr q), nS_e, nI_1, if_pos (by rw [q]; rfl)]
              · have : ¬ opc s = 0 := by
                  unfold opc
                  rw [if_neg q]
                  repeat' split
                  all_goals omega
                rw [if_neg (fun e => q (e40.mp e)), nS_e, if_neg this, show nI (G.count 0) + 0 = nI (G.count 0 + 0) from nI_add _ 0]
            refine ⟨mq_si (mq_si (mq_si (mq_sa S 13 (upd (S.2.1 13) G.length (nI s))) 5 (nI (G.length + 1))) 7 (nI (nop G + 1))) 8 (nI ((opc s :: G).count 0)), W, ?_, ?_, ?_⟩
            · rw [rc_sign (n := G.length) (nI s) c5 hGl, mq_cl_s, nS_e, show (mq_si (mq_sa S 13 (upd (S.2.1 13) G.length (nI s))) 5 (nI (G.length + 1))).1 7 + 1 = nI (nop G + 1) from by
                show S.1 7 + 1 = _
                rw [c7, nI_1], show (mq_si (mq_si (mq_sa S 13 (upd (S.2.1 13) G.length (nI s))) 5 (nI (G.length + 1))) 7 (nI (nop G + 1))).1 8 = nI (G.count 0) from c8, ec, mq_cl_s]
            · refine ⟨rfl, ⟨?_, onG_upd (Nat.le_refl _) cG⟩, c6, cV, ?_, rfl, c9, c10, dft_c cd rfl rfl rfl rfl rfl rfl, cu⟩
              · show upd (S.2.1 13) G.length (nI s) G.length = _
                rw [up_s, chr_o ho]
              · show nI (nop G + 1) = _
                rw [nop_c, if_pos ho]
            · refine ag_tr ?_ (ag_si (by decide))
              refine ag_tr ?_ (ag_si (by decide))
              refine ag_tr ?_ (ag_si (by decide))
              exact ag_sa (by decide)
          have e91 : (nI s = (91 : Int32)) ↔ s = 91 := nI_eq (b := 91) (by omega) (by omega)
          have e60' : (nI s = (60 : Int32)) ↔ s = 60 := nI_eq (b := 60) (by omega) (by omega)
          have o2 : 2 ≤ opc s ↔ s = 91 ∨ s = 60 := by
            unfold opc at ho ⊢
            by_cases a : s = 40
            · rw [if_pos a]; omega
            · rw [if_neg a] at ho ⊢
              by_cases b : s = 33
              · rw [if_pos b]; omega
              · rw [if_neg b] at ho ⊢
                by_cases c : s = 91
                · rw [if_pos c]; omega
                · rw [if_neg c] at ho ⊢
                  by_cases d : s = 60
                  · rw [if_pos d]; omega
                  · rw [if_neg d] at ho; omega
          cases pl with
          | true =>
            rw [if_pos rfl, if_neg (fun q : true = false ∧ _ => absurd q.1 (by decide))]
            exact ⟨fun _ => ok, fun q => absurd rfl q⟩
          | false =>
            have f3 : (mq_cl (mq_cl (zf_X5_fail N z 3 p S) fun q8v S10 => some ((), S10)) fun q32v S34 => some ((), S34)) = some ((), mq_si (mq_si S 11 (nI 3)) 12 p) := by
              rw [show (3 : Int32) = nI 3 from rfl, fail, mq_cl_s, mq_cl_s]
            have eF : ¬ (if false = true then (0 : Int32) else 1) = 0 := by decide
            rw [if_neg eF]
            by_cases q1 : s = 91
            · rw [if_pos (e91.mpr q1), if_pos ⟨rfl, o2.mpr (Or.inl q1)⟩]
              exact ⟨fun q => absurd q (show ¬ (3 : Nat) = 0 by decide), fun _ => f3⟩
            · rw [if_neg (fun e => q1 (e91.mp e))]
              by_cases q2 : s = 60
              · rw [if_pos (e60'.mpr q2), if_pos ⟨rfl, o2.mpr (Or.inr q2)⟩]
                exact ⟨fun q => absurd q (show ¬ (3 : Nat) = 0 by decide), fun _ => f3⟩
              · rw [if_neg (fun e => q2 (e60'.mp e)), if_neg (fun q : false = false ∧ _ => by have := o2.mp q.2; omega)]
                exact ⟨fun _ => ok, fun q => absurd rfl q⟩
      · have E : zf_X5_accept N z (nI s) p S = mq_cl (zf_X5_fail N z 1 p S) (fun _ S38 => some ((), S38)) := by
          unfold zf_X5_accept zf_X5_canStand zf_X5_canStand_21 zf_X5_canStand_47
          simp only [c9, rc_atom hs, rc_open hs, rc_bin hs, mq_cz_0, mq_cz_1, mq_cp_s, if_neg ha, if_neg ho, i10, ↓reduceIte]
        have Q : stA pl s G V true = (1, G, V, true) := by
          unfold stA
          rw [if_pos rfl, if_neg ha, if_neg ho]
        rw [E, Q]
        refine ⟨fun q => absurd q (show ¬ (1 : Nat) = 0 by decide), fun _ => ?_⟩
        rw [show (1 : Int32) = nI 1 from rfl, fail, mq_cl_s]
  | false =>
    have c9' : S.1 9 = 0 := c9
    have hff : ¬ (false = true) := by decide
    have h2 := h2 rfl
    have h3 : V.length = nbi G + 1 := h3
    have e41 : (nI s = (41 : Int32)) ↔ s = 41 := nI_eq (b := 41) (by omega) (by omega)
    by_cases hb : 4 ≤ bic s
    · obtain ⟨n1, n2, n3, n4, n5⟩ := bic_no hb
      have e0 : (0 : Int32) < nI (bic s - 3) := nI_lt (a := 0) (b := bic s - 3) (by omega) (by omega)
      have e62 : (nI s = (62 : Int32)) ↔ s = 62 := nI_eq (b := 62) (by omega) (by omega)
      have n1' : ¬ opc s ≤ 3 := by omega
      have n3' : ¬ nI s = (41 : Int32) := fun e => n3 (e41.mp e)
      have E : zf_X5_accept N z (nI s) p S = if nI s = (62 : Int32) then zf_X5_accept_98 N z (nI s) (nI (bic s - 3) + 1) S else zf_X5_accept_98 N z (nI s) (nI (bic s - 3)) S := by
        unfold zf_X5_accept zf_X5_canStand zf_X5_canStand_21 zf_X5_canStand_47
        simp only [c9', rc_atom hs, rc_open hs, rc_bin hs, mq_cz_0, mq_cz_1, mq_cp_s, if_neg n2, if_neg n1', if_neg n3', if_pos e0, i10, ↓reduceIte]
      have Q : stA pl s G V false = (0, bic s :: (joinA pl (jc (bic s)) G V).1, (joinA pl (jc (bic s)) G V).2, true) := by
        unfold stA
        rw [if_neg hff, if_pos hb]
      rw [E, Q]
      refine ⟨fun _ => ?_, fun q => absurd rfl q⟩
      have ej : (if nI s = (62 : Int32) then zf_X5_accept_98 N z (nI s) (nI (bic s - 3) + 1) S else zf_X5_accept_98 N z (nI s) (nI (bic s - 3)) S) = zf_X5_accept_98 N z (nI s) (nI (jc (bic s) - 3)) S := by
        unfold jc
        by_cases q : s = 62
        · rw [if_pos (e62.mpr q), if_pos (n5.mp q), nI_1, n5.mp q]
        · rw [if_neg (fun e => q (e62.mp e)), if_neg (fun e => q (n5.mpr e))]
      rw [ej]
      have hj : 4 ≤ jc (bic s) ∧ jc (bic s) ≤ 7 := by unfold jc; split <;> omega
      obtain ⟨S1, W1, a1, a2, a3⟩ := rc_joinTo (N := N) (z := z) (pl := pl) (r := jc (bic s) - 3) hN (by omega) hall h1 h2 h3 h4 (by omega) (by omega)
      rw [show jc (bic s) - 3 + 3 = jc (bic s) by omega] at a2
      obtain ⟨d1, d2, d3, d4, d5, d6, d7, d8, d9⟩ := joinA_ok (pl := pl) (c := jc (bic s)) hj.1 G V h1 h2 h3 h4
      unfold zf_X5_accept_98
      obtain ⟨k5, kG, k6, kV, k7, k8, k9, k10, kd, ku⟩ := a2
      rw [a1, mq_cl_s, rc_sign (n := (joinA pl (jc (bic s)) G V).1.length) (nI s) k5 (by omega), mq_cl_s, mq_cz_1, nS_e]
      refine ⟨_, W1, rfl, ⟨rfl, ⟨?_, onG_upd (Nat.le_refl _) kG⟩, k6, kV, ?_, ?_, rfl, k10, dft_c kd rfl rfl rfl rfl rfl rfl, ku⟩, ?_⟩
      · show upd (S1.2.1 13) _ (nI s) _ = _
        rw [up_s, chr_b hb]
      · show S1.1 7 = _
        rw [k7, nop_c, if_neg (by omega)]
        rfl
      · show S1.1 8 = _
        rw [k8, cn0_c, if_neg (by omega)]
        rfl
      · refine ag_tr ?_ (ag_si (by decide))
        refine ag_tr ?_ (ag_si (by decide))
        refine ag_tr ?_ (ag_sa (by decide))
        exact ag_mono a3 (by decide) (by decide) (by decide)
    · have hb0 : bic s = 0 := by
        unfold bic at hb ⊢
        repeat' split at hb
        all_goals first | omega | (repeat' split; all_goals omega)
      have e0 : ¬ (0 : Int32) < nI (bic s - 3) := by rw [hb0]; decide
      by_cases hc : s = 41
      · subst hc
        have e41 := e41.mpr rfl
        have m1 : ¬ isAt 41 := by decide
        have m2 : ¬ opc 41 ≤ 3 := by decide
        by_cases hn : 0 < G.count 0
        · have e8 : ¬ nI (G.count 0) ≤ 0 := nI_nle hn (by have := List.count_le_length (a := 0) (l := G); omega)
          have E : zf_X5_accept N z (nI 41) p S = mq_cl (zf_X5_joinDownTo N z 1 S) (fun _ S14 => mq_cl (zf_X5_closeBracket N z S14) (fun _ S17 => mq_cl (zf_X5_endOperand N z S17) (fun _ S20 => some ((), S20)))) := by
            unfold zf_X5_accept zf_X5_canStand zf_X5_canStand_21 zf_X5_canStand_47
            simp only [c9', c8, rc_atom hs, rc_open hs, rc_bin hs, mq_cz_0, mq_cz_1, mq_cp_s, if_neg m1, if_neg m2, if_neg e0, if_neg e8, if_pos e41, i10, ↓reduceIte]
          have Q : stA pl 41 G V false = (0, (aheadA pl (joinA pl 4 G V).1.tail (joinA pl 4 G V).2).1, (aheadA pl (joinA pl 4 G V).1.tail (joinA pl 4 G V).2).2, false) := by
            unfold stA
            rw [if_neg hff, if_neg hb, if_pos ⟨rfl, hn⟩]
          rw [E, Q]
          refine ⟨fun _ => ?_, fun q => absurd rfl q⟩
          obtain ⟨S1, W1, a1, a2, a3⟩ := rc_joinTo (N := N) (z := z) (pl := pl) (r := 1) hN (by omega) hall h1 h2 h3 h4 (by omega) (by omega)
          obtain ⟨d1, d2, d3, d4, d5, d6, d7, d8, d9⟩ := joinA_ok (pl := pl) (c := 4) (Nat.le_refl _) G V h1 h2 h3 h4
          obtain ⟨G', e⟩ := (joinA_4 (pl := pl) h1 h2 h3 h4).2 hn
          have a2 : rdC S1 (joinA pl 4 G V).1 (joinA pl 4 G V).2 false pl W1 := a2
          rw [e] at d1 d3 d8 d6 a2 ⊢
          rw [nbi_c, if_neg (by omega)] at d3
          have d8 : G'.length + 1 ≤ G.length := d8
          obtain ⟨k5, kG, k6, kV, k7, k8, k9, k10, kd, ku⟩ := a2
          rw [nop_c, if_pos (by omega)] at k7 d6
          rw [cn0_c, if_pos rfl] at k8
          unfold zf_X5_closeBracket
          have em : mq_max (S1.1 5 - 1) 0 = nI G'.length := by
            rw [k5]
            show mq_max (nI (G'.length + 1) - 1) 0 = _
            rw [nI_pred]
            unfold mq_max
            rw [if_neg (nI_pos (by omega))]
          rw [show (1 : Int32) = nI 1 from rfl, a1, mq_cl_s, show nI 1 = (1 : Int32) from rfl, nS_e, nS_e, nS_e, em, mq_cl_s]
          obtain ⟨S2, W2, b1, b2, b3⟩ := rc_endOp (N := N) (z := z) (pl := pl) (od := false) (S := mq_si (mq_si (mq_si S1 5 (nI G'.length)) 7 ((mq_si S1 5 (nI G'.length)).1 7 - 1)) 8 ((mq_si (mq_si S1 5 (nI G'.length)) 7 ((mq_si S1 5 (nI G'.length)).1 7 - 1)).1 8 - 1)) (G := G') (V := (joinA pl 4 G V).2) (W := W1) hN ⟨rfl, kG.2, k6, kV, by
            show S1.1 7 - 1 = _
            rw [k7, nI_pred], by
            show S1.1 8 - 1 = _
            rw [k8, nI_pred], k9, k10, dft_c kd rfl rfl rfl rfl rfl rfl, ku⟩ d1.2.2 d3 d4 (by omega) (by omega) (by omega)
          refine ⟨S2, W2, by rw [b1, mq_cl_s], b2, ?_⟩
          refine ag_tr ?_ (ag_mono b3 (by decide) (by decide) (by decide))
          refine ag_tr ?_ (ag_si (by decide))
          refine ag_tr ?_ (ag_si (by decide))
          refine ag_tr ?_ (ag_si (by decide))
          exact ag_mono a3 (by decide) (by decide) (by decide)
        · have hz : G.count 0 = 0 := by omega
          have e8 : nI (G.count 0) ≤ 0 := by rw [hz]; decide
          have E : zf_X5_accept N z (nI 41) p S = mq_cl (zf_X5_fail N z 1 p S) (fun _ S38 => some ((), S38)) := by
            unfold zf_X5_accept zf_X5_canStand zf_X5_canStand_21 zf_X5_canStand_47
            simp only [c9', c8, rc_atom hs, rc_open hs, rc_bin hs, mq_cz_0, mq_cz_1, mq_cp_s, if_neg m1, if_neg m2, if_neg e0, if_pos e8, if_pos e41, i10, ↓reduceIte]
          have Q : stA pl 41 G V false = (1, G, V, false) := by
            unfold stA
            rw [if_neg hff, if_neg hb, if_neg (fun q => hn q.2)]
          rw [E, Q]
          refine ⟨fun q => absurd q (show ¬ (1 : Nat) = 0 by decide), fun _ => ?_⟩
          rw [show (1 : Int32) = nI 1 from rfl, fail, mq_cl_s]
      · have n41 : ¬ nI s = (41 : Int32) := fun e => hc (e41.mp e)
        have E : zf_X5_accept N z (nI s) p S = mq_cl (zf_X5_fail N z 1 p S) (fun _ S38 => some ((), S38)) := by
          unfold zf_X5_accept zf_X5_canStand zf_X5_canStand_21 zf_X5_canStand_47
          simp only [c9', rc_atom hs, rc_open hs, rc_bin hs, mq_cz_0, mq_cz_1, mq_cp_s, if_neg e0, if_neg n41, i10, ↓reduceIte]
        have Q : stA pl s G V false = (1, G, V, false) := by
          unfold stA
          rw [if_neg hff, if_neg hb, if_neg (fun q => hc q.1)]
        rw [E, Q]
        refine ⟨fun q => absurd q (show ¬ (1 : Nat) = 0 by decide), fun _ => ?_⟩
        rw [show (1 : Int32) = nI 1 from rfl, fail, mq_cl_s]
end ACC
