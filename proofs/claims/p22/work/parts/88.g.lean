/-! 88.readd -/
section
/-! The class's reader: the end of an operand, one sign. -/
section RDD
variable {N : Nat} {z : Nat → Nat} {pl : Bool}
theorem rc_pre {S : mq_St} {g : Nat} (hg : g ≤ 7) : zf_X5_isPrefix N z (chr g) S = some (if 1 ≤ g ∧ g ≤ 3 then 1 else 0) := by
  unfold zf_X5_isPrefix zf_X5_isPrefix_18
  have : g = 0 ∨ g = 1 ∨ g = 2 ∨ g = 3 ∨ g = 4 ∨ g = 5 ∨ g = 6 ∨ g = 7 := by omega
  rcases this with rfl | rfl | rfl | rfl | rfl | rfl | rfl | rfl <;> rfl
theorem rc_end {od : Bool} (hN : 200 ≤ N) : ∀ (G : List Nat) (V : List Tr) (S : mq_St) (W : List Tr) (fuel : Nat), rdC S G V od pl W → okG G → V.length = nbi G + 1 → (∀ v ∈ V, wf v) → G.length < fuel → G.length ≤ 400 → V.length ≤ 400 → nop G ≤ 60 →
    ∃ S' W', zf_X5_endOperand_10 N z fuel (nI G.length) S = some ((), S') ∧ rdC S' (aheadA pl G V).1 (aheadA pl G V).2 od pl W' ∧ ag [3, 4, 5, 6, 7] [8, 9, 10, 11, 14] [] S S' := by
  intro G
  induction G with
  | nil =>
    intro V S W fuel h _ _ _ hf _ _ _
    obtain ⟨fu, rfl⟩ : ∃ q, fuel = q + 1 := ⟨fuel - 1, by omega⟩
    have e : aheadA pl [] V = ([], V) := by unfold aheadA; rfl
    rw [e]
    refine ⟨S, W, ?_, h, ag_rf⟩
    show zf_X5_endOperand_10b N z _ (nI 0) S = _
    unfold zf_X5_endOperand_10b
    rw [if_pos (by decide)]
  | cons g G ih =>
    intro V S W fuel h hG hV hw hf hGl hVl hop
    obtain ⟨fu, rfl⟩ : ∃ q, fuel = q + 1 := ⟨fuel - 1, by omega⟩
    have hf : G.length + 1 < fu + 1 := hf
    have hGl : G.length + 1 ≤ 400 := hGl
    have hall := h
    obtain ⟨c5, cG, c6, cV, c7, c8, c9, c10, cd, cu⟩ := h
    have c5 : S.1 5 = nI (G.length + 1) := c5
    have hg7 := hG.1
    have hsh : zf_X5_endOperand_10 N z (fu + 1) (nI (g :: G).length) S = zf_X5_endOperand_10b N z (fun v1 S => zf_X5_endOperand_10 N z fu v1 S) (nI (G.length + 1)) S := rfl
    rw [hsh]
    unfold zf_X5_endOperand_10b
    rw [if_neg (nI_nle (by omega) (by omega)), rc_top c5 (by omega), mq_cp_s, cG.1, rc_pre hg7, mq_cp_s]
    match V, hV, hw, hVl, c6, cV, cu, hall with
    | [], hV, _, _, _, _, _, _ => exact absurd hV (by show ¬ 0 = _; omega)
    | x :: V, hV, hw, hVl, c6, cV, cu, hall =>
      by_cases hg : 1 ≤ g ∧ g ≤ 3
      · have e : aheadA pl (g :: G) (x :: V) = aheadA pl G (pref pl g x :: V) := by rw [aheadA]; exact if_pos hg
        rw [e, if_pos hg, if_neg (by decide)]
        rw [nbi_c, if_neg (by omega)] at hV
        rw [nop_c, if_pos (by omega)] at c7 hop
        have hVl : V.length + 1 ≤ 400 := hVl
        have wx := hw x List.mem_cons_self
        rw [mq_cp_s, nI_e, nS_e, nS_e, c5, nI_pred, si_1, if_neg (by decide), c7, nI_pred]
        rw [rc_pop (n := V.length) (S := mq_si (mq_si S 5 (nI G.length)) 7 (nI (nop G))) c6 (by omega), mq_cl_s]
        obtain ⟨v', S1, W1, a1, a2, a3, a4, a5⟩ := dk_prefixed (N := N) (z := z) (S := mq_si (mq_si (mq_si S 5 (nI G.length)) 7 (nI (nop G))) 6 (nI V.length)) (pl := pl) (g := g) (v := S.2.1 14 V.length) hN (dft_c cd rfl rfl rfl rfl rfl rfl) c10 hg cV.1 wx
        have a1' : zf_X5_prefixed N z (chr g) ((mq_si (mq_si S 5 (nI G.length)) 7 (nI (nop G))).2.1 14 V.length) (mq_si (mq_si (mq_si S 5 (nI G.length)) 7 (nI (nop G))) 6 (nI V.length)) = some (v', S1) := a1
        rw [a1', mq_cl_s, rc_push (n := V.length) v' (a5.1 6 (by decide)) (by omega), mq_cl_s, pk_m1, nI_e]
        have k13 : S1.2.1 13 = S.2.1 13 := a5.2.1 13 (by decide)
        have k14 : S1.2.1 14 = S.2.1 14 := a5.2.1 14 (by decide)
        obtain ⟨S2, W2, b1, b2, b3⟩ := ih (pref pl g x :: V) (mq_si (mq_sa S1 14 (upd (S1.2.1 14) V.length v')) 6 (nI (V.length + 1))) W1 fu ⟨a5.1 5 (by decide), by
          show onG (S1.2.1 13) G
          rw [k13]
          exact cG.2, rfl, ⟨by
          show RM W1 (upd (S1.2.1 14) V.length v' V.length) _
          rw [up_s]
          exact a3, by
          show onV W1 (upd (S1.2.1 14) V.length v') V
          rw [k14]
          exact onV_upd (Nat.le_refl _) (onV_exw a4 cV.2)⟩, a5.1 7 (by decide), by
          show S1.1 8 = _
          rw [a5.1 8 (by decide)]
          show S.1 8 = _
          rw [c8, cn0_c, if_neg (by omega)]
          rfl, (a5.1 9 (by decide)).trans c9, (a5.1 10 (by decide)).trans c10, dft_c a2 rfl rfl rfl rfl rfl rfl, used_go cu (fun v hv => by
          rcases List.mem_cons.mp hv with q | q
          · rw [q]; exact ⟨_, List.mem_cons_self, us_pref pl g x⟩
          · exact ⟨v, List.mem_cons_of_mem _ q, us_rf v⟩) a4 List.mem_cons_self⟩ hG.2.2 hV (fun v hv => by
          rcases List.mem_cons.mp hv with q | q
          · rw [q]; exact wf_pref wx
          · exact hw v (List.mem_cons_of_mem _ q)) (by omega) (by omega) (by show V.length + 1 ≤ 400; omega) (by omega)
        refine ⟨S2, W2, b1, b2, ?_⟩
        refine ag_tr ?_ b3
        refine ag_tr ?_ (ag_si (by decide))
        refine ag_tr ?_ (ag_sa (by decide))
        refine ag_tr ?_ (ag_mono a5 (by decide) (by decide) (by decide))
        exact ag_tr (ag_tr (ag_si (by decide)) (ag_si (by decide))) (ag_si (by decide))
      · have e : aheadA pl (g :: G) (x :: V) = (g :: G, x :: V) := by rw [aheadA]; exact if_neg hg
        rw [e, if_neg hg, if_pos rfl]
        exact ⟨S, W, rfl, hall, ag_rf⟩
theorem rc_atom {S : mq_St} {s : Nat} (hs : s < 256) : zf_X5_isAtom N z (nI s) S = some (if isAt s then 1 else 0) := by
  unfold zf_X5_isAtom zf_X5_isAtom_12 zf_X5_isAtom_24
  have e84 : (nI s = (84 : Int32)) ↔ s = 84 := nI_eq (b := 84) (by omega) (by omega)
  have e70 : (nI s = (70 : Int32)) ↔ s = 70 := nI_eq (b := 70) (by omega) (by omega)
  have e97 : (nI s < (97 : Int32)) ↔ s < 97 := nI_ltI (b := 97) (by omega) (by omega)
  have e122 : (nI s ≤ (122 : Int32)) ↔ s ≤ 122 := nI_leI (b := 122) (by omega) (by omega)
  simp only [mq_cz_0, mq_cz_1, e84, e70, e97, e122]
  repeat' split
  all_goals first | rfl | (exfalso; omega)
theorem rc_open {S : mq_St} {s : Nat} (hs : s < 256) : zf_X5_isOpening N z (nI s) S = some (if opc s ≤ 3 then 1 else 0) := by
  unfold zf_X5_isOpening zf_X5_isOpening_13 zf_X5_isPrefix zf_X5_isPrefix_18 opc
  have e40 : (nI s = (40 : Int32)) ↔ s = 40 := nI_eq (b := 40) (by omega) (by omega)
  have e33 : (nI s = (33 : Int32)) ↔ s = 33 := nI_eq (b := 33) (by omega) (by omega)
  have e91 : (nI s = (91 : Int32)) ↔ s = 91 := nI_eq (b := 91) (by omega) (by omega)
  have e60 : (nI s = (60 : Int32)) ↔ s = 60 := nI_eq (b := 60) (by omega) (by omega)
  simp only [mq_cz_0, mq_cz_1, e40, e33, e91, e60]
  by_cases a : s = 40
  · rw [if_pos a, if_pos a]; rfl
  · rw [if_neg a, if_neg a]
    by_cases b : s = 33
    · rw [if_pos b, if_pos b]; rfl
    · rw [if_neg b, if_neg b]
      by_cases c : s = 91
      · rw [if_pos c, if_pos c]; rfl
      · rw [if_neg c, if_neg c]
        by_cases d : s = 60
        · rw [if_pos d, if_pos d]; rfl
        · rw [if_neg d, if_neg d]; rfl
theorem rc_bin {S : mq_St} {s : Nat} (hs : s < 256) : zf_X5_rankOf N z (nI s) S = some (nI (bic s - 3)) := by
  unfold zf_X5_rankOf bic
  have e38 : (nI s = 38) ↔ s = 38 := nI_eq (b := 38) (by omega) (by omega)
  have e61 : (nI s = 61) ↔ s = 61 := nI_eq (b := 61) (by omega) (by omega)
  have e62 : (nI s = 62) ↔ s = 62 := nI_eq (b := 62) (by omega) (by omega)
  have e124 : (nI s = 124) ↔ s = 124 := nI_eq (b := 124) (by omega) (by omega)
  simp only [e38, e61, e62, e124]
  repeat' split
  all_goals first | rfl | (exfalso; omega)
theorem chr_o {s : Nat} (h : opc s ≤ 3) : chr (opc s) = nI s := by
  unfold opc at h ⊢
  by_cases a : s = 40
  · rw [if_pos a, a]; rfl
  · rw [if_neg a] at h ⊢
    by_cases b : s = 33
    · rw [if_pos b, b]; rfl
    · rw [if_neg b] at h ⊢
      by_cases c : s = 91
      · rw [if_pos c, c]; rfl
      · rw [if_neg c] at h ⊢
        by_cases d : s = 60
        · rw [if_pos d, d]; rfl
        · rw [if_neg d] at h; exact absurd h (by decide)
theorem chr_b {s : Nat} (h : 4 ≤ bic s) : chr (bic s) = nI s := by
  unfold bic at h ⊢
  by_cases a : s = 61
  · rw [if_pos a, a]; rfl
  · rw [if_neg a] at h ⊢
    by_cases b : s = 62
    · rw [if_pos b, b]; rfl
    · rw [if_neg b] at h ⊢
      by_cases c : s = 124
      · rw [if_pos c, c]; rfl
      · rw [if_neg c] at h ⊢
        by_cases d : s = 38
        · rw [if_pos d, d]; rfl
        · rw [if_neg d] at h; exact absurd h (by decide)
end RDD
end
/-! 89.accept -/
section
/-! The class's reader: one sign, all signs. -/
theorem opc_at {s : Nat} (h : isAt s) : opc s = 9 := by
  unfold opc
  rw [if_neg (by omega), if_neg (by omega), if_neg (by omega), if_neg (by omega)]
theorem bic_no {s : Nat} (h : 4 ≤ bic s) : opc s = 9 ∧ ¬ isAt s ∧ s ≠ 41 ∧ bic s ≤ 7 ∧ (s = 62 ↔ bic s = 5) := by
  have hs : s = 61 ∨ s = 62 ∨ s = 124 ∨ s = 38 := by
    unfold bic at h
    repeat' split at h
    all_goals omega
  rcases hs with rfl | rfl | rfl | rfl <;> exact ⟨rfl, by decide, by decide, by decide, by decide⟩
theorem stA_nop {pl : Bool} {s : Nat} {G : List Nat} {V : List Tr} {od : Bool} (h : okA G V od) (h60 : nop G ≤ 60) (h0 : (stA pl s G V od).1 = 0) : nop (stA pl s G V od).2.1 ≤ 60 := by
  obtain ⟨h1, h2, h3, h4⟩ := h
  unfold stA at h0 ⊢
  cases od with
  | true =>
    rw [if_pos rfl] at h0 ⊢
    by_cases ha : isAt s
    · rw [if_pos ha]
      obtain ⟨a1, a2, a3, a4, a5, a6, a7, a8⟩ := aheadA_ok (pl := pl) G (atomT pl s :: V) h1 (by show V.length + 1 = _; rw [h3]; rfl) (fun v hv => by
        rcases List.mem_cons.mp hv with q | q
        · rw [q]; exact wf_atom ha
        · exact h4 v q)
      exact Nat.le_trans a5 h60
    · rw [if_neg ha] at h0 ⊢
      by_cases ho : opc s ≤ 3
      · rw [if_pos ho] at h0 ⊢
        by_cases h60' : 60 ≤ nop G
        · rw [if_pos h60'] at h0; exact absurd h0 (show ¬ (2 : Nat) = 0 by decide)
        · rw [if_neg h60'] at h0 ⊢
          by_cases hp : pl = false ∧ 2 ≤ opc s
          · rw [if_pos hp] at h0; exact absurd h0 (show ¬ (3 : Nat) = 0 by decide)
          · rw [if_neg hp]
            show nop (opc s :: G) ≤ 60
            rw [nop_c]
            split <;> omega
      · rw [if_neg ho] at h0; exact absurd h0 (show ¬ (1 : Nat) = 0 by decide)
  | false =>
    rw [if_neg (by decide)] at h0 ⊢
    have h2 := h2 rfl
    have h3 : V.length = nbi G + 1 := h3
    by_cases hb : 4 ≤ bic s
    · rw [if_pos hb]
      obtain ⟨a1, a2, a3, a4, a5, a6, a7, a8, a9⟩ := joinA_ok (pl := pl) (c := jc (bic s)) (by unfold jc; split <;> omega) G V h1 h2 h3 h4
      show nop (bic s :: _) ≤ 60
      rw [nop_c, if_neg (by omega), a6]
      exact h60
    · rw [if_neg hb] at h0 ⊢
      by_cases hc : s = 41 ∧ 0 < G.count 0
      · rw [if_pos hc]
        obtain ⟨a1, a2, a3, a4, a5, a6, a7, a8, a9⟩ := joinA_ok (pl := pl) (c := 4) (Nat.le_refl _) G V h1 h2 h3 h4
        obtain ⟨G', e⟩ := (joinA_4 (pl := pl) h1 h2 h3 h4).2 hc.2
        rw [e] at a1 a3 a6 ⊢
        rw [nbi_c, if_neg (by omega)] at a3
        obtain ⟨b1, b2, b3, b4, b5, b6, b7, b8⟩ := aheadA_ok (pl := pl) G' (joinA pl 4 G V).2 a1.2.2 a3 a4
        rw [nop_c] at a6
        exact Nat.le_trans b5 (by omega)
      · rw [if_neg hc] at h0; exact absurd h0 (show ¬ (1 : Nat) = 0 by decide)
section ACC
variable {N : Nat} {z : Nat → Nat} {pl : Bool}
theorem rdC_9 {S : mq_St} {G : List Nat} {V : List Tr} {od od' : Bool} {W : List Tr} (h : rdC S G V od pl W) : rdC (mq_si S 9 (if od' = true then 1 else 0)) G V od' pl W := by
  obtain ⟨c5, cG, c6, cV, c7, c8, c9, c10, cd, cu⟩ := h
  exact ⟨c5, cG, c6, cV, c7, c8, rfl, c10, dft_c cd rfl rfl rfl rfl rfl rfl, cu⟩
theorem rc_endOp {od : Bool} {S : mq_St} {G : List Nat} {V : List Tr} {W : List Tr} (hN : 500 ≤ N) (h : rdC S G V od pl W) (hG : okG G) (hV : V.length = nbi G + 1) (hw : ∀ v ∈ V, wf v) (hGl : G.length ≤ 400) (hVl : V.length ≤ 400) (h60 : nop G ≤ 60) :
    ∃ S' W', zf_X5_endOperand N z S = some ((), S') ∧ rdC S' (aheadA pl G V).1 (aheadA pl G V).2 false pl W' ∧ ag [3, 4, 5, 6, 7, 9] [8, 9, 10, 11, 14] [] S S' := by
  obtain ⟨S', W', a1, a2, a3⟩ := rc_end (N := N) (z := z) (pl := pl) (by omega) G V (mq_si S 9 0) W N (rdC_9 (od' := false) h) hG hV hw (by omega) hGl hVl h60
  refine ⟨S', W', ?_, a2, ag_tr (ag_si (by decide)) (ag_mono a3 (by decide) (by decide) (by decide))⟩
  unfold zf_X5_endOperand
  rw [mq_cz_0, nS_e, nI_e, show (mq_si S 9 0).1 5 = nI G.length from h.1]
  exact a1
theorem rc_joinTo {od : Bool} {S : mq_St} {G : List Nat} {V : List Tr} {W : List Tr} {r : Nat} (hN : 500 ≤ N) (hr : 1 ≤ r ∧ r ≤ 5) (h : rdC S G V od pl W) (hG : okG G) (ht : tp G) (hV : V.length = nbi G + 1) (hw : ∀ v ∈ V, wf v) (hGl : G.length ≤ 400) (hVl : V.length ≤ 400) :
    ∃ S' W', zf_X5_joinDownTo N z (nI r) S = some ((), S') ∧ rdC S' (joinA pl (r + 3) G V).1 (joinA pl (r + 3) G V).2 od pl W' ∧ ag [3, 4, 5, 6] [8, 9, 10, 11, 14] [] S S' := by
  obtain ⟨S', W', a1, a2, a3⟩ := rc_join (N := N) (z := z) (pl := pl) (od := od) (by omega) hr G V S W N h hG ht hV hw (by omega) hGl hVl
  refine ⟨S', W', ?_, a2, a3⟩
  unfold zf_X5_joinDownTo
  rw [nI_e, h.1]
  exact a1
theorem rc_accept {S : mq_St} {G : List Nat} {V : List Tr} {od : Bool} {W : List Tr} {s : Nat} (p : Int32) (hN : 500 ≤ N) (hs : s < 256) (h : rdC S G V od pl W) (hA : okA G V od) (h60 : nop G ≤ 60) (hGl : G.length < 400) (hVl : V.length < 400) :
    ((stA pl s G V od).1 = 0 → ∃ S' W', zf_X5_accept N z (nI s) p S = some ((), S') ∧ rdC S' (stA pl s G V od).2.1 (stA pl s G V od).2.2.1 (stA pl s G V od).2.2.2 pl W' ∧ ag [3, 4, 5, 6, 7, 8, 9] [8, 9, 10, 11, 13, 14] [] S S') ∧
    (¬ (stA pl s G V od).1 = 0 → zf_X5_accept N z (nI s) p S = some ((), mq_si (mq_si S 11 (nI (stA pl s G V od).1)) 12 p)) := by
  have hall := h
  obtain ⟨c5, cG, c6, cV, c7, c8, c9, c10, cd, cu⟩ := h
  obtain ⟨h1, h2, h3, h4⟩ := hA
  have fail : ∀ {k : Nat}, zf_X5_fail N z (nI k) p S = some ((), mq_si (mq_si S 11 (nI k)) 12 p) := fun {k} => by unfold zf_X5_fail; rw [nS_e, nS_e]
  have i10 : ((1 : Int32) = 0) = False := eq_false (by decide)
  cases od with
  | true =>
    have c9 : S.1 9 = 1 := c9
    by_cases ha : isAt s
    · have ho : ¬ opc s ≤ 3 := by rw [opc_at ha]; decide
      have E : zf_X5_accept N z (nI s) p S = mq_cl (zf_X5_markOfAtom N z (nI s) S) (fun v S24 => mq_cl (zf_X5_pushMark N z v S24) (fun _ S27 => mq_cl (zf_X5_endOperand N z S27) (fun _ S30 => some ((), S30)))) := by
        unfold zf_X5_accept zf_X5_canStand zf_X5_canStand_21 zf_X5_canStand_47
        simp only [c9, rc_atom hs, rc_open hs, rc_bin hs, mq_cz_0, mq_cz_1, mq_cp_s, if_pos ha, if_neg ho, i10, ↓reduceIte]
      have Q : stA pl s G V true = (0, (aheadA pl G (atomT pl s :: V)).1, (aheadA pl G (atomT pl s :: V)).2, false) := by
        unfold stA
        rw [if_pos rfl, if_pos ha]
      rw [E, Q]
      refine ⟨fun _ => ?_, fun q => absurd rfl q⟩
      obtain ⟨v', S1, W1, a1, a2, a3, a4, a5⟩ := dk_atom (N := N) (z := z) (pl := pl) (by omega) cd c10 ha
      rw [a1, mq_cl_s, rc_push (n := V.length) v' ((a5.1 6 (by decide)).trans c6) hVl, mq_cl_s]
      have k13 : S1.2.1 13 = S.2.1 13 := a5.2.1 13 (by decide)
      have k14 : S1.2.1 14 = S.2.1 14 := a5.2.1 14 (by decide)
      obtain ⟨S2, W2, b1, b2, b3⟩ := rc_endOp (N := N) (z := z) (pl := pl) (od := true) (S := mq_si (mq_sa S1 14 (upd (S1.2.1 14) V.length v')) 6 (nI (V.length + 1))) (G := G) (V := atomT pl s :: V) (W := W1) hN ⟨(a5.1 5 (by decide)).trans c5, by
        show onG (S1.2.1 13) G
        rw [k13]
        exact cG, rfl, ⟨by
        show RM W1 (upd (S1.2.1 14) V.length v' V.length) _
        rw [up_s]
        exact a3, by
        show onV W1 (upd (S1.2.1 14) V.length v') V
        rw [k14]
        exact onV_upd (Nat.le_refl _) (onV_exw a4 cV)⟩, (a5.1 7 (by decide)).trans c7, (a5.1 8 (by decide)).trans c8, (a5.1 9 (by decide)).trans c9, (a5.1 10 (by decide)).trans c10, dft_c a2 rfl rfl rfl rfl rfl rfl, used_go cu (fun v hv => ⟨v, List.mem_cons_of_mem _ hv, us_rf v⟩) a4 List.mem_cons_self⟩ h1 (by show V.length + 1 = _; rw [h3]; rfl) (fun v hv => by
        rcases List.mem_cons.mp hv with q | q
        · rw [q]; exact wf_atom ha
        · exact h4 v q) (by omega) (by show V.length + 1 ≤ 400; omega) h60
      refine ⟨S2, W2, by rw [b1, mq_cl_s], b2, ?_⟩
      refine ag_tr ?_ (ag_mono b3 (by decide) (by decide) (by decide))
      refine ag_tr ?_ (ag_si (by decide))
      refine ag_tr ?_ (ag_sa (by decide))
      exact ag_mono a5 (by decide) (by decide) (by decide)
    · by_cases ho : opc s ≤ 3
      · have E : zf_X5_accept N z (nI s) p S = mq_cl (zf_X5_acceptOpening N z (nI s) p S) (fun _ S34 => some ((), S34)) := by
          unfold zf_X5_accept zf_X5_canStand zf_X5_canStand_21 zf_X5_canStand_47
          simp only [c9, rc_atom hs, rc_open hs, rc_bin hs, mq_cz_0, mq_cz_1, mq_cp_s, if_neg ha, if_pos ho, i10, ↓reduceIte]
        have Q : stA pl s G V true = (if 60 ≤ nop G then (2, G, V, true) else if pl = false ∧ 2 ≤ opc s then (3, G, V, true) else (0, opc s :: G, V, true)) := by
          unfold stA
          rw [if_pos rfl, if_neg ha, if_pos ho]
        rw [E, Q]
        unfold zf_X5_acceptOpening zf_X5_acceptOpening_37 zf_X5_acceptOpening_46 zf_X5_acceptOpening_77
        rw [c7, c10]
        by_cases hq : 60 ≤ nop G
        · have e60 : ¬ nI (nop G) < (60 : Int32) := nI_nlt (a := nop G) (b := 60) hq (by omega)
          rw [if_neg e60, if_pos hq]
          refine ⟨fun q => absurd q (show ¬ (2 : Nat) = 0 by decide), fun _ => ?_⟩
          rw [show (2 : Int32) = nI 2 from rfl, fail, mq_cl_s, mq_cl_s]
        · have e60 : nI (nop G) < (60 : Int32) := nI_lt (a := nop G) (b := 60) (by omega) (by omega)
          rw [if_pos e60, if_neg hq]
          have ok : ∃ S' W', (mq_cl (mq_cl (zf_X5_pushSign N z (nI s) S) fun q11v S13 => mq_nS (mq_si S13 7 (S13.1 7 + 1)) fun S14 => if nI s = 40 then mq_nS (mq_si S14 8 (S14.1 8 + 1)) fun S16 => some ((), S16) else mq_nS (mq_si S14 8 (S14.1 8 + 0)) fun S16 => some ((), S16)) fun q32v S34 => some ((), S34)) = some ((), S') ∧ rdC S' (opc s :: G) V true pl W' ∧ ag [3, 4, 5, 6, 7, 8, 9] [8, 9, 10, 11, 13, 14] [] S S' := by
            have e40 : (nI s = (40 : Int32)) ↔ s = 40 := nI_eq (b := 40) (by omega) (by omega)
            have ec : (if nI s = 40 then mq_nS (mq_si (mq_si (mq_si (mq_sa S 13 (upd (S.2.1 13) G.length (nI s))) 5 (nI (G.length + 1))) 7 (nI (nop G + 1))) 8 (nI (G.count 0) + 1)) (fun S16 => some ((), S16)) else mq_nS (mq_si (mq_si (mq_si (mq_sa S 13 (upd (S.2.1 13) G.length (nI s))) 5 (nI (G.length + 1))) 7 (nI (nop G + 1))) 8 (nI (G.count 0) + 0)) (fun S16 => some ((), S16))) = some ((), mq_si (mq_si (mq_si (mq_sa S 13 (upd (S.2.1 13) G.length (nI s))) 5 (nI (G.length + 1))) 7 (nI (nop G + 1))) 8 (nI ((opc s :: G).count 0))) := by
              rw [cn0_c]
              by_cases q : s = 40
              · rw [if_pos (e40.mpr q), nS_e, nI_1, if_pos (by rw [q]; rfl)]
              · have : ¬ opc s = 0 := by
                  unfold opc
                  rw [if_neg q]
                  repeat' split
                  all_goals omega
                rw [if_neg (fun e => q (e40.mp e)), nS_e, if_neg this, show nI (G.count 0) + 0 = nI (G.count 0 + 0) from nI_add _ 0]
            refine ⟨mq_si (mq_si (mq_si (mq_sa S 13 (upd (S.2.1 13) G.length (nI s))) 5 (nI (G.length + 1))) 7 (nI (nop G + 1))) 8 (nI ((opc s :: G).count 0)), W, ?_, ?_, ?_⟩
            · rw [rc_sign (n := G.length) (nI s) c5 hGl, mq_cl_s, nS_e, show (mq_si (mq_sa S 13 (upd (S.2.1 13) G.length (nI s))) 5 (nI (G.length + 1))).1 7 + 1 = nI (nop G + 1) from by
                show S.1 7 + 1 = _
                rw [c7, nI_1], show (mq_si (mq_si (mq_sa S 13 (upd (S.2.1 13) G.length (nI s))) 5 (nI (G.length + 1))) 7 (nI (nop G + 1))).1 8 = nI (G.count 0) from c8, ec, mq_cl_s]
            · refine ⟨rfl, ⟨?_, onG_upd (Nat.le_refl _) cG⟩, c6, cV, ?_, rfl, c9, c10, dft_c cd rfl rfl rfl rfl rfl rfl, cu⟩
              · show upd (S.2.1 13) G.length (nI s) G.length = _
                rw [up_s, chr_o ho]
              · show nI (nop G + 1) = _
                rw [nop_c, if_pos ho]
            · refine ag_tr ?_ (ag_si (by decide))
              refine ag_tr ?_ (ag_si (by decide))
              refine ag_tr ?_ (ag_si (by decide))
              exact ag_sa (by decide)
          have e91 : (nI s = (91 : Int32)) ↔ s = 91 := nI_eq (b := 91) (by omega) (by omega)
          have e60' : (nI s = (60 : Int32)) ↔ s = 60 := nI_eq (b := 60) (by omega) (by omega)
          have o2 : 2 ≤ opc s ↔ s = 91 ∨ s = 60 := by
            unfold opc at ho ⊢
            by_cases a : s = 40
            · rw [if_pos a]; omega
            · rw [if_neg a] at ho ⊢
              by_cases b : s = 33
              · rw [if_pos b]; omega
              · rw [if_neg b] at ho ⊢
                by_cases c : s = 91
                · rw [if_pos c]; omega
                · rw [if_neg c] at ho ⊢
                  by_cases d : s = 60
                  · rw [if_pos d]; omega
                  · rw [if_neg d] at ho; omega
          cases pl with
          | true =>
            rw [if_pos rfl, if_neg (fun q : true = false ∧ _ => absurd q.1 (by decide))]
            exact ⟨fun _ => ok, fun q => absurd rfl q⟩
          | false =>
            have f3 : (mq_cl (mq_cl (zf_X5_fail N z 3 p S) fun q8v S10 => some ((), S10)) fun q32v S34 => some ((), S34)) = some ((), mq_si (mq_si S 11 (nI 3)) 12 p) := by
              rw [show (3 : Int32) = nI 3 from rfl, fail, mq_cl_s, mq_cl_s]
            have eF : ¬ (if false = true then (0 : Int32) else 1) = 0 := by decide
            rw [if_neg eF]
            by_cases q1 : s = 91
            · rw [if_pos (e91.mpr q1), if_pos ⟨rfl, o2.mpr (Or.inl q1)⟩]
              exact ⟨fun q => absurd q (show ¬ (3 : Nat) = 0 by decide), fun _ => f3⟩
            · rw [if_neg (fun e => q1 (e91.mp e))]
              by_cases q2 : s = 60
              · rw [if_pos (e60'.mpr q2), if_pos ⟨rfl, o2.mpr (Or.inr q2)⟩]
                exact ⟨fun q => absurd q (show ¬ (3 : Nat) = 0 by decide), fun _ => f3⟩
              · rw [if_neg (fun e => q2 (e60'.mp e)), if_neg (fun q : false = false ∧ _ => by have := o2.mp q.2; omega)]
                exact ⟨fun _ => ok, fun q => absurd rfl q⟩
      · have E : zf_X5_accept N z (nI s) p S = mq_cl (zf_X5_fail N z 1 p S) (fun _ S38 => some ((), S38)) := by
          unfold zf_X5_accept zf_X5_canStand zf_X5_canStand_21 zf_X5_canStand_47
          simp only [c9, rc_atom hs, rc_open hs, rc_bin hs, mq_cz_0, mq_cz_1, mq_cp_s, if_neg ha, if_neg ho, i10, ↓reduceIte]
        have Q : stA pl s G V true = (1, G, V, true) := by
          unfold stA
          rw [if_pos rfl, if_neg ha, if_neg ho]
        rw [E, Q]
        refine ⟨fun q => absurd q (show ¬ (1 : Nat) = 0 by decide), fun _ => ?_⟩
        rw [show (1 : Int32) = nI 1 from rfl, fail, mq_cl_s]
  | false =>
    have c9' : S.1 9 = 0 := c9
    have hff : ¬ (false = true) := by decide
    have h2 := h2 rfl
    have h3 : V.length = nbi G + 1 := h3
    have e41 : (nI s = (41 : Int32)) ↔ s = 41 := nI_eq (b := 41) (by omega) (by omega)
    by_cases hb : 4 ≤ bic s
    · obtain ⟨n1, n2, n3, n4, n5⟩ := bic_no hb
      have e0 : (0 : Int32) < nI (bic s - 3) := nI_lt (a := 0) (b := bic s - 3) (by omega) (by omega)
      have e62 : (nI s = (62 : Int32)) ↔ s = 62 := nI_eq (b := 62) (by omega) (by omega)
      have n1' : ¬ opc s ≤ 3 := by omega
      have n3' : ¬ nI s = (41 : Int32) := fun e => n3 (e41.mp e)
      have E : zf_X5_accept N z (nI s) p S = if nI s = (62 : Int32) then zf_X5_accept_98 N z (nI s) (nI (bic s - 3) + 1) S else zf_X5_accept_98 N z (nI s) (nI (bic s - 3)) S := by
        unfold zf_X5_accept zf_X5_canStand zf_X5_canStand_21 zf_X5_canStand_47
        simp only [c9', rc_atom hs, rc_open hs, rc_bin hs, mq_cz_0, mq_cz_1, mq_cp_s, if_neg n2, if_neg n1', if_neg n3', if_pos e0, i10, ↓reduceIte]
      have Q : stA pl s G V false = (0, bic s :: (joinA pl (jc (bic s)) G V).1, (joinA pl (jc (bic s)) G V).2, true) := by
        unfold stA
        rw [if_neg hff, if_pos hb]
      rw [E, Q]
      refine ⟨fun _ => ?_, fun q => absurd rfl q⟩
      have ej : (if nI s = (62 : Int32) then zf_X5_accept_98 N z (nI s) (nI (bic s - 3) + 1) S else zf_X5_accept_98 N z (nI s) (nI (bic s - 3)) S) = zf_X5_accept_98 N z (nI s) (nI (jc (bic s) - 3)) S := by
        unfold jc
        by_cases q : s = 62
        · rw [if_pos (e62.mpr q), if_pos (n5.mp q), nI_1, n5.mp q]
        · rw [if_neg (fun e => q (e62.mp e)), if_neg (fun e => q (n5.mpr e))]
      rw [ej]
      have hj : 4 ≤ jc (bic s) ∧ jc (bic s) ≤ 7 := by unfold jc; split <;> omega
      obtain ⟨S1, W1, a1, a2, a3⟩ := rc_joinTo (N := N) (z := z) (pl := pl) (r := jc (bic s) - 3) hN (by omega) hall h1 h2 h3 h4 (by omega) (by omega)
      rw [show jc (bic s) - 3 + 3 = jc (bic s) by omega] at a2
      obtain ⟨d1, d2, d3, d4, d5, d6, d7, d8, d9⟩ := joinA_ok (pl := pl) (c := jc (bic s)) hj.1 G V h1 h2 h3 h4
      unfold zf_X5_accept_98
      obtain ⟨k5, kG, k6, kV, k7, k8, k9, k10, kd, ku⟩ := a2
      rw [a1, mq_cl_s, rc_sign (n := (joinA pl (jc (bic s)) G V).1.length) (nI s) k5 (by omega), mq_cl_s, mq_cz_1, nS_e]
      refine ⟨_, W1, rfl, ⟨rfl, ⟨?_, onG_upd (Nat.le_refl _) kG⟩, k6, kV, ?_, ?_, rfl, k10, dft_c kd rfl rfl rfl rfl rfl rfl, ku⟩, ?_⟩
      · show upd (S1.2.1 13) _ (nI s) _ = _
        rw [up_s, chr_b hb]
      · show S1.1 7 = _
        rw [k7, nop_c, if_neg (by omega)]
        rfl
      · show S1.1 8 = _
        rw [k8, cn0_c, if_neg (by omega)]
        rfl
      · refine ag_tr ?_ (ag_si (by decide))
        refine ag_tr ?_ (ag_si (by decide))
        refine ag_tr ?_ (ag_sa (by decide))
        exact ag_mono a3 (by decide) (by decide) (by decide)
    · have hb0 : bic s = 0 := by
        unfold bic at hb ⊢
        repeat' split at hb
        all_goals first | omega | (repeat' split; all_goals omega)
      have e0 : ¬ (0 : Int32) < nI (bic s - 3) := by rw [hb0]; decide
      by_cases hc : s = 41
      · subst hc
        have e41 := e41.mpr rfl
        have m1 : ¬ isAt 41 := by decide
        have m2 : ¬ opc 41 ≤ 3 := by decide
        by_cases hn : 0 < G.count 0
        · have e8 : ¬ nI (G.count 0) ≤ 0 := nI_nle hn (by have := List.count_le_length (a := 0) (l := G); omega)
          have E : zf_X5_accept N z (nI 41) p S = mq_cl (zf_X5_joinDownTo N z 1 S) (fun _ S14 => mq_cl (zf_X5_closeBracket N z S14) (fun _ S17 => mq_cl (zf_X5_endOperand N z S17) (fun _ S20 => some ((), S20)))) := by
            unfold zf_X5_accept zf_X5_canStand zf_X5_canStand_21 zf_X5_canStand_47
            simp only [c9', c8, rc_atom hs, rc_open hs, rc_bin hs, mq_cz_0, mq_cz_1, mq_cp_s, if_neg m1, if_neg m2, if_neg e0, if_neg e8, if_pos e41, i10, ↓reduceIte]
          have Q : stA pl 41 G V false = (0, (aheadA pl (joinA pl 4 G V).1.tail (joinA pl 4 G V).2).1, (aheadA pl (joinA pl 4 G V).1.tail (joinA pl 4 G V).2).2, false) := by
            unfold stA
            rw [if_neg hff, if_neg hb, if_pos ⟨rfl, hn⟩]
          rw [E, Q]
          refine ⟨fun _ => ?_, fun q => absurd rfl q⟩
          obtain ⟨S1, W1, a1, a2, a3⟩ := rc_joinTo (N := N) (z := z) (pl := pl) (r := 1) hN (by omega) hall h1 h2 h3 h4 (by omega) (by omega)
          obtain ⟨d1, d2, d3, d4, d5, d6, d7, d8, d9⟩ := joinA_ok (pl := pl) (c := 4) (Nat.le_refl _) G V h1 h2 h3 h4
          obtain ⟨G', e⟩ := (joinA_4 (pl := pl) h1 h2 h3 h4).2 hn
          have a2 : rdC S1 (joinA pl 4 G V).1 (joinA pl 4 G V).2 false pl W1 := a2
          rw [e] at d1 d3 d8 d6 a2 ⊢
          rw [nbi_c, if_neg (by omega)] at d3
          have d8 : G'.length + 1 ≤ G.length := d8
          obtain ⟨k5, kG, k6, kV, k7, k8, k9, k10, kd, ku⟩ := a2
          rw [nop_c, if_pos (by omega)] at k7 d6
          rw [cn0_c, if_pos rfl] at k8
          unfold zf_X5_closeBracket
          have em : mq_max (S1.1 5 - 1) 0 = nI G'.length := by
            rw [k5]
            show mq_max (nI (G'.length + 1) - 1) 0 = _
            rw [nI_pred]
            unfold mq_max
            rw [if_neg (nI_pos (by omega))]
          rw [show (1 : Int32) = nI 1 from rfl, a1, mq_cl_s, show nI 1 = (1 : Int32) from rfl, nS_e, nS_e, nS_e, em, mq_cl_s]
          obtain ⟨S2, W2, b1, b2, b3⟩ := rc_endOp (N := N) (z := z) (pl := pl) (od := false) (S := mq_si (mq_si (mq_si S1 5 (nI G'.length)) 7 ((mq_si S1 5 (nI G'.length)).1 7 - 1)) 8 ((mq_si (mq_si S1 5 (nI G'.length)) 7 ((mq_si S1 5 (nI G'.length)).1 7 - 1)).1 8 - 1)) (G := G') (V := (joinA pl 4 G V).2) (W := W1) hN ⟨rfl, kG.2, k6, kV, by
            show S1.1 7 - 1 = _
            rw [k7, nI_pred], by
            show S1.1 8 - 1 = _
            rw [k8, nI_pred], k9, k10, dft_c kd rfl rfl rfl rfl rfl rfl, ku⟩ d1.2.2 d3 d4 (by omega) (by omega) (by omega)
          refine ⟨S2, W2, by rw [b1, mq_cl_s], b2, ?_⟩
          refine ag_tr ?_ (ag_mono b3 (by decide) (by decide) (by decide))
          refine ag_tr ?_ (ag_si (by decide))
          refine ag_tr ?_ (ag_si (by decide))
          refine ag_tr ?_ (ag_si (by decide))
          exact ag_mono a3 (by decide) (by decide) (by decide)
        · have hz : G.count 0 = 0 := by omega
          have e8 : nI (G.count 0) ≤ 0 := by rw [hz]; decide
          have E : zf_X5_accept N z (nI 41) p S = mq_cl (zf_X5_fail N z 1 p S) (fun _ S38 => some ((), S38)) := by
            unfold zf_X5_accept zf_X5_canStand zf_X5_canStand_21 zf_X5_canStand_47
            simp only [c9', c8, rc_atom hs, rc_open hs, rc_bin hs, mq_cz_0, mq_cz_1, mq_cp_s, if_neg m1, if_neg m2, if_neg e0, if_pos e8, if_pos e41, i10, ↓reduceIte]
          have Q : stA pl 41 G V false = (1, G, V, false) := by
            unfold stA
            rw [if_neg hff, if_neg hb, if_neg (fun q => hn q.2)]
          rw [E, Q]
          refine ⟨fun q => absurd q (show ¬ (1 : Nat) = 0 by decide), fun _ => ?_⟩
          rw [show (1 : Int32) = nI 1 from rfl, fail, mq_cl_s]
      · have n41 : ¬ nI s = (41 : Int32) := fun e => hc (e41.mp e)
        have E : zf_X5_accept N z (nI s) p S = mq_cl (zf_X5_fail N z 1 p S) (fun _ S38 => some ((), S38)) := by
          unfold zf_X5_accept zf_X5_canStand zf_X5_canStand_21 zf_X5_canStand_47
          simp only [c9', rc_atom hs, rc_open hs, rc_bin hs, mq_cz_0, mq_cz_1, mq_cp_s, if_neg e0, if_neg n41, i10, ↓reduceIte]
        have Q : stA pl s G V false = (1, G, V, false) := by
          unfold stA
          rw [if_neg hff, if_neg hb, if_neg (fun q => hc q.1)]
        rw [E, Q]
        refine ⟨fun q => absurd q (show ¬ (1 : Nat) = 0 by decide), fun _ => ?_⟩
        rw [show (1 : Int32) = nI 1 from rfl, fail, mq_cl_s]
end ACC
end
/-! 90.draw -/
section
/-! The class's reader: the whole text. -/
def Bt (w : Nat → Int32) (i : Nat) : Nat := (by_at w i).toNatClampNeg
theorem bt_is (w : Nat → Int32) (i : Nat) : by_at w i = nI (Bt w i) ∧ Bt w i < 256 := by
  obtain ⟨j, hj, e⟩ := pk_andE (mq_iushr (w (i / 4)) (nI (24 - 8 * (i % 4)))) (m := 255) 8 (by decide)
  have e : by_at w i = nI j := e
  have hj : j < 256 := hj
  unfold Bt
  rw [e, nI_clamp (by omega)]
  exact ⟨rfl, hj⟩
theorem sg_lt {B : Nat → Nat} (hB : ∀ i, B i < 256) (len p : Nat) : sg B len p < 256 := by
  have := hB p
  unfold sg
  repeat' split
  all_goals omega
section DRAW
variable {N : Nat} {z : Nat → Nat} {pl : Bool}
theorem ck_signAt {S : mq_St} {t p : Nat} (ht : S.1 0 = nI t) (h4 : t ≤ 4000) (hp : p < min t 400) : zf_X5_signAt N z (nI p) S = some (nI (sg (Bt (S.2.1 2)) (min t 400) p)) := by
  obtain ⟨e1, l1⟩ := bt_is (S.2.1 2) p
  obtain ⟨e2, l2⟩ := bt_is (S.2.1 2) (p + 1)
  have a0 := by_zat (N := N) (z := z) (S := mq_pull S [0] [2] []) (t := t) (i := p) ht h4 (by omega)
  have a0 : zf_X0_at N z (nI p) (mq_pull S [0] [2] []) = some (nI (Bt (S.2.1 2) p)) := by rw [a0, ← e1]; rfl
  unfold zf_X5_signAt
  rw [a0, mq_cp_s, nI_e, nI_1]
  have q10 : (nI (Bt (S.2.1 2) p) = (10 : Int32)) ↔ Bt (S.2.1 2) p = 10 := nI_eq (b := 10) (by omega) (by omega)
  have q91 : (nI (Bt (S.2.1 2) p) = (91 : Int32)) ↔ Bt (S.2.1 2) p = 91 := nI_eq (b := 91) (by omega) (by omega)
  have q60 : (nI (Bt (S.2.1 2) p) = (60 : Int32)) ↔ Bt (S.2.1 2) p = 60 := nI_eq (b := 60) (by omega) (by omega)
  have fin : ∀ x : Int32, ((x = 93) ↔ (p + 1 < min t 400 ∧ Bt (S.2.1 2) (p + 1) = 93)) → ((x = 62) ↔ (p + 1 < min t 400 ∧ Bt (S.2.1 2) (p + 1) = 62)) → zf_X5_signAt_32 N z S (nI (Bt (S.2.1 2) p)) x = some (nI (sg (Bt (S.2.1 2)) (min t 400) p)) := by
    intro x h93 h62
    unfold zf_X5_signAt_32 sg
    rw [nI_e]
    simp only [q10, q91, q60, h93, h62]
    by_cases a : Bt (S.2.1 2) p = 10
    · rw [if_pos a, if_pos a]; rfl
    · rw [if_neg a, if_neg a]
      by_cases b : Bt (S.2.1 2) p = 91
      · rw [if_pos b, if_pos b]
        by_cases c : p + 1 < min t 400 ∧ Bt (S.2.1 2) (p + 1) = 93
        · rw [if_pos c, if_pos c, b]
        · rw [if_neg c, if_neg c]; rfl
      · rw [if_neg b, if_neg b]
        by_cases c : Bt (S.2.1 2) p = 60
        · rw [if_pos c, if_pos c]
          by_cases d : p + 1 < min t 400 ∧ Bt (S.2.1 2) (p + 1) = 62
          · rw [if_pos d, if_pos d, c]
          · rw [if_neg d, if_neg d]; rfl
        · rw [if_neg c, if_neg c]
  by_cases h400 : 400 ≤ p + 1
  · have e400 : (400 : Int32) ≤ nI (p + 1) := nI_le (a := 400) h400 (by omega)
    rw [if_pos e400]
    exact fin (-1) ⟨fun q => absurd q (by decide), fun q => by omega⟩ ⟨fun q => absurd q (by decide), fun q => by omega⟩
  · have e400 : ¬ (400 : Int32) ≤ nI (p + 1) := nI_ge (b := 400) (by omega) (by omega)
    rw [if_neg e400]
    by_cases ht1 : p + 1 < t
    · have a1 := by_zat (N := N) (z := z) (S := mq_pull S [0] [2] []) (t := t) (i := p + 1) ht h4 ht1
      have a1 : zf_X0_at N z (nI (p + 1)) (mq_pull S [0] [2] []) = some (nI (Bt (S.2.1 2) (p + 1))) := by rw [a1, ← e2]; rfl
      rw [a1, mq_cp_s]
      have q93 : (nI (Bt (S.2.1 2) (p + 1)) = (93 : Int32)) ↔ Bt (S.2.1 2) (p + 1) = 93 := nI_eq (b := 93) (by omega) (by omega)
      have q62 : (nI (Bt (S.2.1 2) (p + 1)) = (62 : Int32)) ↔ Bt (S.2.1 2) (p + 1) = 62 := nI_eq (b := 62) (by omega) (by omega)
      exact fin _ ⟨fun q => ⟨by omega, q93.mp q⟩, fun q => q93.mpr q.2⟩ ⟨fun q => ⟨by omega, q62.mp q⟩, fun q => q62.mpr q.2⟩
    · have a1 := by_zat_out (N := N) (z := z) (S := mq_pull S [0] [2] []) (t := t) (nI (p + 1)) ht h4 (Or.inr (nI_le (by omega) (by omega)))
      rw [a1, mq_cp_s]
      exact fin (-1) ⟨fun q => absurd q (by decide), fun q => by omega⟩ ⟨fun q => absurd q (by decide), fun q => by omega⟩
theorem ag_rdC {S S' : mq_St} {t : Nat} (h : ag [3, 4, 5, 6, 7, 8, 9] [8, 9, 10, 11, 13, 14] [] S S') (ht : S.1 0 = nI t) : S'.1 0 = nI t ∧ S'.2.1 2 = S.2.1 2 ∧ S'.1 11 = S.1 11 ∧ S'.1 12 = S.1 12 := ⟨(h.1 0 (by decide)).trans ht, h.2.1 2 (by decide), h.1 11 (by decide), h.1 12 (by decide)⟩
theorem dr_stop {S : mq_St} {l p : Int32} {fuel : Nat} (h : ¬ S.1 11 = 0) : zf_X5_draw_21 N z (fuel + 1) l p S = zf_X5_draw_77 N z S := by
  show zf_X5_draw_21b N z _ l p S = _
  unfold zf_X5_draw_21b
  rw [if_neg h]
  by_cases q : l ≤ p
  · rw [if_pos q]
  · rw [if_neg q]
theorem dr_loop (hN : 500 ≤ N) {t : Nat} (h4 : t ≤ 4000) {B : Nat → Nat} : ∀ (fuel p : Nat) (S : mq_St) (G : List Nat) (V : List Tr) (od : Bool) (W : List Tr), S.1 0 = nI t → Bt (S.2.1 2) = B → rdC S G V od pl W → okA G V od → nop G ≤ 60 → G.length ≤ p → V.length ≤ p → p ≤ min t 400 → min t 400 - p < fuel → S.1 11 = 0 →
    ∃ S', zf_X5_draw_21 N z fuel (nI (min t 400)) (nI p) S = zf_X5_draw_77 N z S' ∧
      ((paA pl B (min t 400) fuel p G V od).1 = 0 → ∃ W', rdC S' (paA pl B (min t 400) fuel p G V od).2.2.1 (paA pl B (min t 400) fuel p G V od).2.2.2.1 (paA pl B (min t 400) fuel p G V od).2.2.2.2 pl W' ∧ okA (paA pl B (min t 400) fuel p G V od).2.2.1 (paA pl B (min t 400) fuel p G V od).2.2.2.1 (paA pl B (min t 400) fuel p G V od).2.2.2.2 ∧ (paA pl B (min t 400) fuel p G V od).2.2.1.length ≤ 400 ∧ (paA pl B (min t 400) fuel p G V od).2.2.2.1.length ≤ 400 ∧ S'.1 11 = 0 ∧ S'.1 12 = S.1 12) ∧
      (¬ (paA pl B (min t 400) fuel p G V od).1 = 0 → S'.1 11 = nI (paA pl B (min t 400) fuel p G V od).1 ∧ S'.1 12 = nI (paA pl B (min t 400) fuel p G V od).2.1 ∧ (paA pl B (min t 400) fuel p G V od).1 ≤ 3) ∧ ag [3, 4, 5, 6, 7, 8, 9, 11, 12] [8, 9, 10, 11, 13, 14] [] S S' := by
  intro fuel
  induction fuel with
  | zero => intro p S G V od W _ _ _ _ _ _ _ _ h; omega
  | succ fuel ih =>
    intro p S G V od W ht hB h hA h60 hG hV hp hf h11
    have hsh : zf_X5_draw_21 N z (fuel + 1) (nI (min t 400)) (nI p) S = zf_X5_draw_21b N z (fun v2 v3 S => zf_X5_draw_21 N z fuel v2 v3 S) (nI (min t 400)) (nI p) S := rfl
    rw [hsh]
    have hBl : ∀ i, B i < 256 := fun i => by rw [← hB]; exact (bt_is _ i).2
    have hs := sg_lt hBl (min t 400) p
    unfold zf_X5_draw_21b
    by_cases e : min t 400 ≤ p
    · rw [if_pos (nI_le e (by omega))]
      have Q : paA pl B (min t 400) (fuel + 1) p G V od = (0, p, G, V, od) := by rw [paA, if_pos e]
      rw [Q]
      exact ⟨S, rfl, fun _ => ⟨W, h, hA, by show G.length ≤ 400; omega, by show V.length ≤ 400; omega, h11, rfl⟩, fun q => absurd rfl q, ag_rf⟩
    · rw [if_neg (nI_ge (by omega) (by omega)), if_pos h11, ck_signAt ht h4 (by omega), mq_cp_s, nI_e, hB]
      have q32 : (nI (sg B (min t 400) p) = (32 : Int32)) ↔ sg B (min t 400) p = 32 := nI_eq (b := 32) (by omega) (by omega)
      have q91 : (nI (sg B (min t 400) p) = (91 : Int32)) ↔ sg B (min t 400) p = 91 := nI_eq (b := 91) (by omega) (by omega)
      have q60 : (nI (sg B (min t 400) p) = (60 : Int32)) ↔ sg B (min t 400) p = 60 := nI_eq (b := 60) (by omega) (by omega)
      have next : ∀ S1 : mq_St, zf_X5_draw_54 N z (fun v2 v3 S => zf_X5_draw_21 N z fuel v2 v3 S) (nI (min t 400)) (nI p) (nI (sg B (min t 400) p)) S1 = zf_X5_draw_21 N z fuel (nI (min t 400)) (nI (if sg B (min t 400) p = 91 ∨ sg B (min t 400) p = 60 then p + 2 else p + 1)) S1 := by
        intro S1
        unfold zf_X5_draw_54 zf_X5_draw_68 zf_X5_draw_71
        simp only [nI_e, nI_1, q91, q60]
        by_cases a : sg B (min t 400) p = 91
        · rw [if_pos a, if_pos (Or.inl a)]
        · rw [if_neg a]
          by_cases b : sg B (min t 400) p = 60
          · rw [if_pos b, if_pos (Or.inr b)]
          · rw [if_neg b, if_neg (fun q => q.elim a b)]
      by_cases hb : sg B (min t 400) p = 32
      · rw [if_pos (q32.mpr hb), next]
        have Q : paA pl B (min t 400) (fuel + 1) p G V od = paA pl B (min t 400) fuel (p + 1) G V od := by rw [paA, if_neg e, if_pos hb]
        rw [Q, if_neg (by omega)]
        exact ih (p + 1) S G V od W ht hB h hA h60 (by omega) (by omega) (by omega) (by omega) h11
      · rw [if_neg (fun q => hb (q32.mp q))]
        obtain ⟨acc1, acc2⟩ := rc_accept (N := N) (z := z) (pl := pl) (nI p) hN hs h hA h60 (by omega) (by omega)
        by_cases h0 : (stA pl (sg B (min t 400) p) G V od).1 = 0
        · obtain ⟨S1, W1, a1, a2, a3⟩ := acc1 h0
          have hok := stA_ok hA h0
          have hnp := stA_nop hA h60 h0
          obtain ⟨f0, f2, f11, f12⟩ := ag_rdC a3 ht
          have Q : paA pl B (min t 400) (fuel + 1) p G V od = paA pl B (min t 400) fuel (if sg B (min t 400) p = 91 ∨ sg B (min t 400) p = 60 then p + 2 else p + 1) (stA pl (sg B (min t 400) p) G V od).2.1 (stA pl (sg B (min t 400) p) G V od).2.2.1 (stA pl (sg B (min t 400) p) G V od).2.2.2 := by rw [paA, if_neg e, if_neg hb, if_pos h0]
          rw [a1, mq_cl_s, next, Q]
          have hp2 : p + 1 ≤ (if sg B (min t 400) p = 91 ∨ sg B (min t 400) p = 60 then p + 2 else p + 1) ∧ (if sg B (min t 400) p = 91 ∨ sg B (min t 400) p = 60 then p + 2 else p + 1) ≤ min t 400 := by
            by_cases q : sg B (min t 400) p = 91 ∨ sg B (min t 400) p = 60
            · rw [if_pos q]
              refine ⟨by omega, ?_⟩
              unfold sg at q
              by_cases b1 : B p = 10
              · rw [if_pos b1] at q; omega
              · rw [if_neg b1] at q
                by_cases b2 : B p = 91
                · rw [if_pos b2] at q
                  by_cases b3 : p + 1 < min t 400 ∧ B (p + 1) = 93
                  · omega
                  · rw [if_neg b3] at q; omega
                · rw [if_neg b2] at q
                  by_cases b4 : B p = 60
                  · rw [if_pos b4] at q
                    by_cases b5 : p + 1 < min t 400 ∧ B (p + 1) = 62
                    · omega
                    · rw [if_neg b5] at q; omega
                  · rw [if_neg b4] at q; omega
            · rw [if_neg q]; omega
          obtain ⟨S2, b1, b2, b3, b4⟩ := ih (if sg B (min t 400) p = 91 ∨ sg B (min t 400) p = 60 then p + 2 else p + 1) S1 _ _ _ W1 f0 (by rw [f2]; exact hB) a2 hok.1 hnp (by omega) (by omega) hp2.2 (by omega) (f11.trans h11)
          refine ⟨S2, b1, fun q => ?_, b3, ag_tr (ag_mono a3 (by decide) (by decide) (by decide)) b4⟩
          obtain ⟨W', c1, c2, c3, c4, c5, c6⟩ := b2 q
          exact ⟨W', c1, c2, c3, c4, c5, c6.trans f12⟩
        · have a1 := acc2 h0
          have Q : paA pl B (min t 400) (fuel + 1) p G V od = ((stA pl (sg B (min t 400) p) G V od).1, p, G, V, od) := by rw [paA, if_neg e, if_neg hb, if_neg h0]
          rw [a1, mq_cl_s, next, Q]
          have h3 : (stA pl (sg B (min t 400) p) G V od).1 ≤ 3 := by
            unfold stA
            repeat' split
            all_goals (first | exact Nat.zero_le _ | exact Nat.le_refl _ | exact (by decide : 1 ≤ 3) | exact (by decide : 2 ≤ 3))
          have hne : ¬ (mq_si (mq_si S 11 (nI (stA pl (sg B (min t 400) p) G V od).1)) 12 (nI p)).1 11 = 0 := by
            show ¬ nI _ = 0
            exact nI_ne0 (by omega) (by omega)
          obtain ⟨fu, rfl⟩ : ∃ q, fuel = q + 1 := ⟨fuel - 1, by omega⟩
          refine ⟨_, dr_stop hne, fun q => absurd q h0, fun _ => ⟨rfl, rfl, h3⟩, ag_tr (ag_si (by decide)) (ag_si (by decide))⟩
/-- what a text comes to: its FAULT and its place, or its tree -/
def fiA (pl : Bool) (B : Nat → Nat) (t n : Nat) : Nat × Nat × Tr :=
  if ¬ (paA pl B (min t 400) n 0 [] [] true).1 = 0 then ((paA pl B (min t 400) n 0 [] [] true).1, (paA pl B (min t 400) n 0 [] [] true).2.1, .num 0)
  else if 400 < t ∨ (paA pl B (min t 400) n 0 [] [] true).2.2.2.2 = true ∨ 0 < (paA pl B (min t 400) n 0 [] [] true).2.2.1.count 0 then (1, min t 400, .num 0)
  else (0, 0, (joinA pl 4 (paA pl B (min t 400) n 0 [] [] true).2.2.1 (paA pl B (min t 400) n 0 [] [] true).2.2.2.1).2.headD (.num 0))
theorem ck_begin {S : mq_St} (hN : 500 ≤ N) : ∃ S', zf_X5_begin N z (if pl = true then 0 else 1) S = some ((), S') ∧ rdC S' [] [] true pl [.num 0] ∧ S'.1 11 = 0 ∧ S'.1 12 = -1 ∧ ag [3, 4, 5, 6, 7, 8, 9, 10, 11, 12] [8, 9, 10, 11] [] S S' := by
  have hnode : zf_X2_node N z 0 (-1) (-1) (mq_si (mq_si S 3 0) 4 0) = some (0, mq_sa (mq_sa (mq_sa (mq_sa (mq_sa (mq_si (mq_si (mq_si S 3 0) 4 0) 3 1) 8 (upd (S.2.1 8) 0 0)) 9 (upd (S.2.1 9) 0 (-1))) 10 (upd (S.2.1 10) 0 (-1))) 11 (upd (S.2.1 11) 0 (-1))) 11 (upd (upd (S.2.1 11) 0 (-1)) 1 (-1))) := by
    unfold zf_X2_node
    rw [nI_e]
    obtain ⟨n, rfl⟩ : ∃ n, N = n + 1 := ⟨N - 1, by omega⟩
    show zf_X2_node_3b (n + 1) z _ 0 (-1) (-1) 0 _ = _
    unfold zf_X2_node_3b
    have e3 : (mq_si (mq_si S 3 0) 4 0).1 3 = 0 := rfl
    have i0 : vp_in (0 : Int32) 150 := vp_in_nI (n := 0) (by omega) (by omega)
    have j0 : vp_in (0 : Int32) 300 := vp_in_nI (n := 0) (by omega) (by omega)
    have j1 : vp_in (1 : Int32) 300 := vp_in_nI (n := 1) (by omega) (by omega)
    have c0 : (0 : Int32).toNatClampNeg = 0 := nI_clamp (n := 0) (by omega)
    have c1 : (1 : Int32).toNatClampNeg = 1 := nI_clamp (n := 1) (by omega)
    have p0 : (2 : Int32) * 0 = 0 := by decide
    have p1 : (0 : Int32) + 1 = 1 := by decide
    rw [e3, if_pos (by decide : (0 : Int32) ≤ 0), if_pos (by decide : (0 : Int32) < 150)]
    simp only [nI_e, nS_e, mq_ck_of i0, c0, p0, p1, mq_ck_of j0, mq_ck_of j1, c1, sa_2, sa_1, si_1, si_2, ↓reduceIte, Nat.reduceEqDiff]
  unfold zf_X5_begin zf_X2_clear zf_X5_fail
  have hcz : ∀ {α : Type} (k : Option α), mq_cz (if pl = true then 0 else 1) k = k := fun k => by
    cases pl with
    | true => exact mq_cz_0 k
    | false => exact mq_cz_1 k
  simp only [nS_e, mq_cz_0, mq_cz_1, hnode, mq_cl_s, hcz]
  refine ⟨_, rfl, ⟨rfl, trivial, rfl, trivial, rfl, rfl, rfl, rfl, ?_, fun w hw => Or.inl (List.mem_singleton.mp hw)⟩, rfl, rfl, ?_⟩
  · refine ⟨rfl, rfl, by decide, rfl, List.nodup_cons.mpr ⟨List.not_mem_nil, List.nodup_nil⟩, fun w hw => ?_, fun i t hi ht => ?_, fun j hj => ?_⟩
    · rw [List.mem_singleton.mp hw]
      exact ⟨Or.inl rfl, rfl⟩
    · have hi0 := (List.getElem?_eq_some_iff.mp ht).1
      have hi0 : i < 1 := hi0
      have e : i = 0 := by omega
      subst e
      have et : .num 0 = t := Option.some.inj ht
      rw [← et]
      exact Or.inl ⟨rfl, rfl, rfl, rfl⟩
    · have hj : j < 2 := hj
      show upd (upd (S.2.1 11) 0 (-1)) 1 (-1) j = -1
      have : j = 0 ∨ j = 1 := by omega
      rcases this with rfl | rfl
      · rw [up_o (by decide), up_s]
      · rw [up_s]
  · repeat' (first | exact ag_rf | refine ag_tr ?_ (ag_si (by decide)) | refine ag_tr ?_ (ag_sa (by decide)))
theorem ck_draw {S : mq_St} {t : Nat} (hN : 500 ≤ N) (ht : S.1 0 = nI t) (h4 : t ≤ 4000) :
    ∃ v S', zf_X5_draw N z (if pl = true then 0 else 1) S = some (v, S') ∧
      ((fiA pl (Bt (S.2.1 2)) t N).1 = 0 → S'.1 11 = 0 ∧ S'.1 12 = -1 ∧ ¬ v = -1 ∧ wf (fiA pl (Bt (S.2.1 2)) t N).2.2 ∧ ∃ W, dft S' W ∧ RM W v (fiA pl (Bt (S.2.1 2)) t N).2.2 ∧ ∀ w ∈ W, w = .num 0 ∨ us w (fiA pl (Bt (S.2.1 2)) t N).2.2) ∧
      (¬ (fiA pl (Bt (S.2.1 2)) t N).1 = 0 → v = -1 ∧ S'.1 11 = nI (fiA pl (Bt (S.2.1 2)) t N).1 ∧ S'.1 12 = nI (fiA pl (Bt (S.2.1 2)) t N).2.1) ∧ ag [3, 4, 5, 6, 7, 8, 9, 10, 11, 12] [8, 9, 10, 11, 13, 14] [] S S' := by
  obtain ⟨S1, a1, a2, a3, a4, a5⟩ := ck_begin (N := N) (z := z) (pl := pl) (S := S) hN
  have t1 : S1.1 0 = nI t := (a5.1 0 (by decide)).trans ht
  have w1 : S1.2.1 2 = S.2.1 2 := a5.2.1 2 (by decide)
  obtain ⟨S2, b1, b2, b3, b4⟩ := dr_loop (N := N) (z := z) (pl := pl) hN h4 (B := Bt (S.2.1 2)) N 0 S1 [] [] true [.num 0] t1 (by rw [w1]) a2 ⟨trivial, fun q => (by cases q), rfl, fun v hv => (by cases hv)⟩ (by decide) (by decide) (by decide) (by omega) (by omega) a3
  have t2 : S2.1 0 = nI t := (b4.1 0 (by decide)).trans t1
  have E : zf_X5_draw N z (if pl = true then 0 else 1) S = zf_X5_draw_77 N z S2 := by
    unfold zf_X5_draw
    rw [a1, mq_cl_s, show zf_X0_size N z (mq_pull S1 [0] [2] []) = some (S1.1 0) from rfl, mq_cp_s, t1, nI_e, nI_e]
    have em : mq_min (nI t) 400 = nI (min t 400) := by
      unfold mq_min
      by_cases q : 400 < t
      · have q2 : (400 : Int32) < nI t := nI_lt (a := 400) q (by omega)
        rw [if_pos q2, show min t 400 = 400 by omega]; rfl
      · have q2 : ¬ (400 : Int32) < nI t := nI_nlt (b := t) (a := 400) (by omega) (by omega)
        rw [if_neg q2, show min t 400 = t by omega]
    rw [em]
    exact b1
  rw [E]
  have g2 : ag [3, 4, 5, 6, 7, 8, 9, 10, 11, 12] [8, 9, 10, 11, 13, 14] [] S S2 := ag_tr (ag_mono a5 (by decide) (by decide) (by decide)) (ag_mono b4 (by decide) (by decide) (by decide))
  unfold fiA
  by_cases h0 : (paA pl (Bt (S.2.1 2)) (min t 400) N 0 [] [] true).1 = 0
  · rw [if_neg (fun q => q h0)]
    obtain ⟨W', c1, c2, c3, c4, c5, c6⟩ := b2 h0
    generalize hG : (paA pl (Bt (S.2.1 2)) (min t 400) N 0 [] [] true).2.2.1 = G at *
    generalize hV : (paA pl (Bt (S.2.1 2)) (min t 400) N 0 [] [] true).2.2.2.1 = V at *
    generalize ho : (paA pl (Bt (S.2.1 2)) (min t 400) N 0 [] [] true).2.2.2.2 = od at *
    unfold zf_X5_draw_77
    rw [if_pos c5]
    have flt : ∀ k : Nat, mq_cl (zf_X5_fail N z 1 (nI k) S2) (fun q14v S16 => some ((), S16)) = some ((), mq_si (mq_si S2 11 1) 12 (nI k)) := fun k => by unfold zf_X5_fail; rw [nS_e, nS_e, mq_cl_s]
    have end1 : ∀ k : Nat, zf_X5_draw_88 N z (mq_si (mq_si S2 11 1) 12 (nI k)) = some (-1, mq_si (mq_si S2 11 1) 12 (nI k)) := fun k => by
      unfold zf_X5_draw_88
      rw [if_neg (show ¬ (mq_si (mq_si S2 11 1) 12 (nI k)).1 11 = 0 by show ¬ (1 : Int32) = 0; decide)]
    have g3 : ∀ k : Nat, ag [3, 4, 5, 6, 7, 8, 9, 10, 11, 12] [8, 9, 10, 11, 13, 14] [] S (mq_si (mq_si S2 11 1) 12 (nI k)) := fun k => ag_tr (ag_tr g2 (ag_si (by decide))) (ag_si (by decide))
    unfold zf_X5_finish zf_X5_finish_38
    rw [show zf_X0_size N z (mq_pull S2 [0] [2] []) = some (S2.1 0) from rfl, mq_cp_s, mq_cp_s, t2]
    by_cases h400 : 400 < t
    · have e400 : ¬ nI t ≤ (400 : Int32) := nI_ge (a := 400) h400 (by omega)
      rw [if_neg e400, if_pos (Or.inl h400)]
      refine ⟨-1, mq_si (mq_si S2 11 1) 12 (nI 400), ?_, fun q => absurd q (show ¬ (1 : Nat) = 0 by decide), fun _ => ⟨rfl, rfl, ?_⟩, g3 _⟩
      · rw [show (400 : Int32) = nI 400 from rfl, flt, mq_cl_s, end1]
      · show nI 400 = nI (min t 400)
        rw [show min t 400 = 400 by omega]
    · have e400 : nI t ≤ (400 : Int32) := nI_le (b := 400) (by omega) (by omega)
      have em : min t 400 = t := by omega
      obtain ⟨k5, kG, k6, kV, k7, k8, k9, k10, kd, ku⟩ := c1
      have c1 : rdC S2 G V od pl W' := ⟨k5, kG, k6, kV, k7, k8, k9, k10, kd, ku⟩
      rw [if_pos e400, k9, k8]
      cases od with
      | true =>
        rw [if_neg (by decide), if_pos (Or.inr (Or.inl rfl))]
        refine ⟨-1, mq_si (mq_si S2 11 1) 12 (nI t), ?_, fun q => absurd q (show ¬ (1 : Nat) = 0 by decide), fun _ => ⟨rfl, rfl, ?_⟩, g3 _⟩
        · rw [flt, mq_cl_s, end1]
        · show nI t = nI (min t 400)
          rw [em]
      | false =>
        rw [if_pos (by decide)]
        by_cases hc : 0 < G.count 0
        · rw [if_neg (nI_nle hc (by have := List.count_le_length (a := 0) (l := G); omega)), if_pos (Or.inr (Or.inr hc))]
          refine ⟨-1, mq_si (mq_si S2 11 1) 12 (nI t), ?_, fun q => absurd q (show ¬ (1 : Nat) = 0 by decide), fun _ => ⟨rfl, rfl, ?_⟩, g3 _⟩
          · rw [flt, mq_cl_s, end1]
          · show nI t = nI (min t 400)
            rw [em]
        · have hz : G.count 0 = 0 := by omega
          rw [hz, if_pos (by decide), if_neg (by rintro (q | q | q) <;> first | omega | (cases q))]
          obtain ⟨h1, h2, h3, h5⟩ := c2
          have h2 := h2 rfl
          have h3 : V.length = nbi G + 1 := h3
          obtain ⟨S3, W3, d1, d2, d3⟩ := rc_joinTo (N := N) (z := z) (pl := pl) (r := 1) hN (by omega) c1 h1 h2 h3 h5 c3 c4
          obtain ⟨j1, j2, j3, j4, j5, j6, j7, j8, j9⟩ := joinA_ok (pl := pl) (c := 4) (Nat.le_refl _) G V h1 h2 h3 h5
          have jn := (joinA_4 (pl := pl) h1 h2 h3 h5).1 hz
          have d2 : rdC S3 (joinA pl 4 G V).1 (joinA pl 4 G V).2 false pl W3 := d2
          rw [jn] at j3 d2
          have j3 : (joinA pl 4 G V).2.length = 1 := j3
          obtain ⟨x, hx⟩ : ∃ x, (joinA pl 4 G V).2 = [x] := by
            match hq : (joinA pl 4 G V).2, j3 with
            | [x], _ => exact ⟨x, rfl⟩
          rw [hx] at d2 j4 ⊢
          obtain ⟨l5, lG, l6, lV, l7, l8, l9, l10, ld, lu⟩ := d2
          have hS3 : S3.1 11 = 0 := (d3.1 11 (by decide)).trans c5
          refine ⟨S3.2.1 14 0, mq_si S3 6 (nI 0), ?_, fun _ => ⟨hS3, ?_, ?_, j4 x List.mem_cons_self, W3, dft_c ld rfl rfl rfl rfl rfl rfl, lV.1, fun w hw => ?_⟩, fun q => absurd rfl q, ?_⟩
          · rw [show (1 : Int32) = nI 1 from rfl, d1, mq_cl_s, mq_cl_s]
            unfold zf_X5_draw_88
            rw [if_pos hS3, rc_pop (n := 0) l6 (by omega), mq_cl_s]
          · show S3.1 12 = -1
            rw [d3.1 12 (by decide), c6, a4]
          · obtain ⟨m, e, lm, -⟩ := lV.1
            have e : S3.2.1 14 0 = nI m := e
            rw [e]
            exact nI_nm1 (by omega)
          · rcases lu w hw with q | ⟨v, hv, q⟩
            · exact Or.inl q
            · rw [List.mem_singleton.mp hv] at q
              exact Or.inr q
          · exact ag_tr (ag_tr g2 (ag_mono d3 (by decide) (by decide) (by decide))) (ag_si (by decide))
  · rw [if_pos h0]
    obtain ⟨c1, c2, c3⟩ := b3 h0
    have hne : ¬ S2.1 11 = 0 := by rw [c1]; exact nI_ne0 (by omega) (by omega)
    refine ⟨-1, S2, ?_, fun q => absurd q h0, fun _ => ⟨rfl, c1, c2⟩, g2⟩
    unfold zf_X5_draw_77 zf_X5_draw_88
    rw [if_neg hne, if_neg hne]
end DRAW
end
/-! 91.build -/
section
/-! The class numbers what is drafted: build. -/
def dfb (S : mq_St) (W : List Tr) : Prop := S.1 3 = nI W.length ∧ W.length ≤ 150 ∧ W.Nodup ∧ (∀ w ∈ W, wf w ∧ po w = true) ∧ ∀ i t, W[i]? = some t → ent W i (S.2.1 8 i) (S.2.1 9 i) (S.2.1 10 i) t
theorem dfb_c {S S' : mq_St} {W : List Tr} (h : dfb S W) (e3 : S'.1 3 = S.1 3) (e8 : S'.2.1 8 = S.2.1 8) (e9 : S'.2.1 9 = S.2.1 9) (e10 : S'.2.1 10 = S.2.1 10) : dfb S' W := by
  unfold dfb
  rw [e3, e8, e9, e10]
  exact h
/-- what is numbered is numbered right -/
def nmb (D : Nat → Int32) (W : List Tr) (L : List En) : Prop := ∀ m t, mt W m t → D m = -1 ∨ ∃ k : Nat, D m = nI k ∧ pr t L k
/-- with a mark all below it are numbered -/
def clo (D : Nat → Int32) (W : List Tr) : Prop := ∀ j u, mt W j u → ¬ D j = -1 → ∀ j' u', mt W j' u' → u' ∈ sb u → ¬ D j' = -1
theorem nmb_app {D : Nat → Int32} {W : List Tr} {L : List En} (h : nmb D W L) (X : List En) : nmb D W (L ++ X) := fun m t q => by
  rcases h m t q with e | ⟨k, e, p⟩
  · exact Or.inl e
  · exact Or.inr ⟨k, e, pr_mono p X⟩
theorem mt_wf {W : List Tr} (hp : ∀ w ∈ W, wf w ∧ po w = true) {m : Nat} {t : Tr} (h : mt W m t) : wf t := by
  have := (hp _ (List.mem_of_getElem? h)).1
  by_cases q : m % 2 = 0
  · rw [if_pos q] at this; exact this
  · rw [if_neg q] at this
    rw [← du_du t]
    exact wf_du _ this
section BLD
variable {N : Nat} {z : Nat → Nat} {S : mq_St} {W : List Tr} {m : Nat} {t : Tr}
theorem bm_num (hm : m < 1000) : nI m >>> ((1 : Int32) &&& 31) = nI (m / 2) ∧ nI m &&& 1 = nI (m % 2) := by
  constructor
  · have := pk_shrN (n := m) (by omega) ((1 : Int32) &&& 31) 1 (by decide)
    simpa using this
  · have := pk_andN (n := m) (by omega) (m := 1) 1 (by decide)
    simpa using this
theorem bm_is (h : dfb S W) (hm : mt W m t) : zf_X2_isMark N z (nI m) S = some 1 := by
  have hl := mt_lt hm
  have := h.2.1
  unfold zf_X2_isMark
  rw [(bm_num (m := m) (by omega)).1, h.1, if_neg (nI_pos (by omega)), if_neg (nI_ge hl (by omega)), mq_cz_1]
theorem bm_no : zf_X2_isMark N z (-1) S = some 0 := by
  unfold zf_X2_isMark
  rw [if_pos (by decide), mq_cz_0]
theorem bn_of (h : dfb S W) (hm : mt W m t) : zf_X2_numberOf N z (nI m) S = some (S.2.1 11 m) := by
  have hl := mt_lt hm
  have := h.2.1
  unfold zf_X2_numberOf
  rw [bm_is h hm, mq_cp_s, if_neg (by decide), mq_ck_of (vp_in_nI (by omega) (by omega)), nI_clamp (by omega)]
theorem bn_no : zf_X2_numberOf N z (-1) S = some (-1) := by
  unfold zf_X2_numberOf
  rw [bm_no, mq_cp_s, if_pos rfl]
theorem b_first (h : dfb S W) (hm : mt W m t) : zf_X2_firstPart N z (nI m) S = if S.2.1 8 (m / 2) < 4 then some (-1) else some (S.2.1 9 (m / 2) ^^^ nI (m % 2)) := by
  have hl := mt_lt hm
  have := h.2.1
  have i1 : vp_in (nI (m / 2)) 150 := vp_in_nI (by omega) (by omega)
  unfold zf_X2_firstPart
  rw [bm_is h hm, mq_cp_s, if_neg (by decide), (bm_num (m := m) (by omega)).1, (bm_num (m := m) (by omega)).2, mq_ck_of i1, mq_ck_of i1, nI_clamp (by omega)]
theorem b_second (h : dfb S W) (hm : mt W m t) : zf_X2_secondPart N z (nI m) S = if S.2.1 8 (m / 2) = 4 then some (S.2.1 10 (m / 2) ^^^ nI (m % 2)) else some (-1) := by
  have hl := mt_lt hm
  have := h.2.1
  have i1 : vp_in (nI (m / 2)) 150 := vp_in_nI (by omega) (by omega)
  unfold zf_X2_secondPart
  rw [bm_is h hm, mq_cp_s, if_neg (by decide), (bm_num (m := m) (by omega)).1, (bm_num (m := m) (by omega)).2, mq_ck_of i1, mq_ck_of i1, nI_clamp (by omega)]
theorem mt_fl {a : Tr} (h : mt W m a) : mt W (fl m) (du a) := by
  unfold mt at h ⊢
  rw [fl_half, h]
  congr 1
  unfold fl
  by_cases c : m % 2 = 0
  · rw [if_pos c, if_pos c, if_neg (by omega), du_du]
  · rw [if_neg c, if_neg c, if_pos (by omega)]
theorem m1_num {L : List En} (h0 : ok0 L) (v : Nat) (hv : v < 2) : m1 (nI v, -1, -1) L = (v, L) := by
  have hv2 : v = 0 ∨ v = 1 := by omega
  unfold m1
  rcases hv2 with rfl | rfl
  · obtain ⟨a, b⟩ := ix_first (L := L) (e := (0, -1, -1)) (k := 0) (fun j hj => by omega) h0.1
    rw [show (nI 0, (-1 : Int32), (-1 : Int32)) = ((0, -1, -1) : En) from rfl, if_pos a, b]
  · obtain ⟨a, b⟩ := ix_first (L := L) (e := (1, -1, -1)) (k := 1) (fun j hj => by
      have : j = 0 := by omega
      rw [this, h0.1]
      decide) h0.2
    rw [show (nI 1, (-1 : Int32), (-1 : Int32)) = ((1, -1, -1) : En) from rfl, if_pos a, b]
/-- what numbering a mark asks for: no part, one, two -/
def kd (N : Nat) (z : Nat → Nat) (S : mq_St) (W : List Tr) (m : Nat) (t : Tr) : Prop :=
  (∃ (k : Nat) (v : Int32), zf_X2_firstPart N z (nI m) S = some (-1) ∧ zf_X2_secondPart N z (nI m) S = some (-1) ∧ S.2.1 8 (m / 2) < 4 ∧ (S.2.1 8 (m / 2) ||| nI (m % 2)) = nI k ∧ k < 8 ∧ S.2.1 9 (m / 2) = v ∧ sb t = [t] ∧ ∀ L, ok0 L → mk t L = m1 (nI k, v, -1) L) ∨
  (∃ (k x : Nat) (a : Tr), zf_X2_firstPart N z (nI m) S = some (nI x) ∧ zf_X2_secondPart N z (nI m) S = some (-1) ∧ ¬ S.2.1 8 (m / 2) < 4 ∧ (S.2.1 8 (m / 2) ||| nI (m % 2)) = nI k ∧ k < 8 ∧ mt W x a ∧ x / 2 < m / 2 ∧ sb t = t :: sb a ∧ ∀ L, mk t L = m1 (nI k, nI (mk a L).1, -1) (mk a L).2) ∨
  (∃ (k x y : Nat) (a b : Tr), zf_X2_firstPart N z (nI m) S = some (nI x) ∧ zf_X2_secondPart N z (nI m) S = some (nI y) ∧ ¬ S.2.1 8 (m / 2) < 4 ∧ (S.2.1 8 (m / 2) ||| nI (m % 2)) = nI k ∧ k < 8 ∧ mt W x a ∧ mt W y b ∧ x / 2 < m / 2 ∧ y / 2 < m / 2 ∧ sb t = t :: (sb a ++ sb b) ∧ ∀ L, mk t L = m1 (nI k, nI (mk a L).1, nI (mk b (mk a L).2).1) (mk b (mk a L).2).2)
theorem kd_is (h : dfb S W) (hm : mt W m t) : kd N z S W m t := by
  have hl := mt_lt hm
  have h150 := h.2.1
  have hen := h.2.2.2.2 (m / 2) _ hm
  have x0 : ∀ a : Nat, nI a ^^^ nI 0 = nI a := fun a => Int32.xor_zero
  have hpar : (m % 2 = 0 ∧ (if m % 2 = 0 then t else du t) = t) ∨ (m % 2 = 1 ∧ (if m % 2 = 0 then t else du t) = du t) := by
    by_cases q : m % 2 = 0
    · exact Or.inl ⟨q, if_pos q⟩
    · exact Or.inr ⟨by omega, if_neg q⟩
  have F := b_first (N := N) (z := z) h hm
  have G := b_second (N := N) (z := z) h hm
  rcases hpar with ⟨hp, e⟩ | ⟨hp, e⟩
  · rw [e] at hen
    rw [hp] at F G
    unfold kd
    rw [hp]
    rcases hen with ⟨s1, s2, s3, rfl⟩ | ⟨l, hl1, s1, s2, s3, rfl⟩ | ⟨x, y, a, b, s1, s2, s3, rfl, ma, mb, c1, c2⟩ | ⟨x, a, s1, s2, s3, rfl, ma, c1⟩
    · rw [s1, if_pos (by decide)] at F
      rw [s1, if_neg (by decide)] at G
      exact Or.inl ⟨0, -1, F, G, by rw [s1]; decide, by rw [s1]; rfl, by omega, s2, rfl, fun L h0 => (m1_num h0 0 (by omega)).symm⟩
    · rw [s1, if_pos (by decide)] at F
      rw [s1, if_neg (by decide)] at G
      refine Or.inl ⟨2, nI l, F, G, by rw [s1]; decide, by rw [s1]; rfl, by omega, s2, rfl, fun L h0 => ?_⟩
      show m1 (nI (2 + 2 * l % 2), nI (2 * l / 2), -1) L = _
      rw [show 2 + 2 * l % 2 = 2 by omega, show 2 * l / 2 = l by omega]
    · have u1 := mt_lt ma
      have u2 := mt_lt mb
      rw [s1, if_neg (by decide), s2, x0] at F
      rw [s1, if_pos rfl, s3, x0] at G
      exact Or.inr (Or.inr ⟨4, x, y, a, b, F, G, by rw [s1]; decide, by rw [s1]; rfl, by omega, ma, mb, c1, c2, rfl, fun L => rfl⟩)
    · have u1 := mt_lt ma
      rw [s1, if_neg (by decide), s2, x0] at F
      rw [s1, if_neg (by decide)] at G
      exact Or.inr (Or.inl ⟨6, x, a, F, G, by rw [s1]; decide, by rw [s1]; rfl, by omega, ma, c1, rfl, fun L => rfl⟩)
  · rw [e] at hen
    rw [hp] at F G
    unfold kd
    rw [hp]
    have ed : ∀ w : Tr, du t = w → t = du w := fun w q => by rw [← q, du_du]
    have x1 : ∀ a : Nat, a < 400 → nI a ^^^ nI 1 = nI (fl a) := fun a ha => xor_1 a ha
    rcases hen with ⟨s1, s2, s3, q⟩ | ⟨l, hl1, s1, s2, s3, q⟩ | ⟨x, y, a, b, s1, s2, s3, q, ma, mb, c1, c2⟩ | ⟨x, a, s1, s2, s3, q, ma, c1⟩
    · rw [ed _ q]
      rw [s1, if_pos (by decide)] at F
      rw [s1, if_neg (by decide)] at G
      exact Or.inl ⟨1, -1, F, G, by rw [s1]; decide, by rw [s1]; rfl, by omega, s2, rfl, fun L h0 => (m1_num h0 1 (by omega)).symm⟩
    · rw [ed _ q]
      rw [s1, if_pos (by decide)] at F
      rw [s1, if_neg (by decide)] at G
      refine Or.inl ⟨3, nI l, F, G, by rw [s1]; decide, by rw [s1]; rfl, by omega, s2, rfl, fun L h0 => ?_⟩
      show m1 (nI (2 + fl (2 * l) % 2), nI (fl (2 * l) / 2), -1) L = _
      have ef : fl (2 * l) = 2 * l + 1 := by unfold fl; rw [if_pos (by omega)]
      rw [ef, show 2 + (2 * l + 1) % 2 = 3 by omega, show (2 * l + 1) / 2 = l by omega]
    · rw [ed _ q]
      have u1 := mt_lt ma
      have u2 := mt_lt mb
      rw [s1, if_neg (by decide), s2, x1 x (by omega)] at F
      rw [s1, if_pos rfl, s3, x1 y (by omega)] at G
      exact Or.inr (Or.inr ⟨5, fl x, fl y, du a, du b, F, G, by rw [s1]; decide, by rw [s1]; rfl, by omega, mt_fl ma, mt_fl mb, by rw [fl_half]; exact c1, by rw [fl_half]; exact c2, rfl, fun L => rfl⟩)
    · rw [ed _ q]
      have u1 := mt_lt ma
      rw [s1, if_neg (by decide), s2, x1 x (by omega)] at F
      rw [s1, if_neg (by decide)] at G
      exact Or.inr (Or.inl ⟨7, fl x, du a, F, G, by rw [s1]; decide, by rw [s1]; rfl, by omega, mt_fl ma, by rw [fl_half]; exact c1, rfl, fun L => rfl⟩)
/-- a turn that makes a part's turn -/
theorem bs_push {v1 : Int32} {top turn fuel x : Nat} (ht : turn < 1000000) (htop : top < 149) (hw : S.2.1 12 top = nI m) (hp : zf_X2_partToMake N z (nI m) S = some (nI x)) (hx : x < 400) :
    zf_X2_build_11 N z (fuel + 1) v1 (nI top) (nI turn) S = zf_X2_build_11 N z fuel v1 (nI (top + 1)) (nI (turn + 1)) (mq_sa S 12 (upd (S.2.1 12) (top + 1) (nI x))) := by
  show zf_X2_build_11b N z _ v1 (nI top) (nI turn) S = _
  have e1 : ¬ (1000000 : Int32) ≤ nI turn := nI_ge (b := 1000000) ht (by omega)
  have e2 : ¬ (150 : Int32) ≤ nI top := nI_ge (b := 150) (by omega) (by omega)
  have e3 : ¬ (150 : Int32) ≤ nI (top + 1) := nI_ge (b := 150) (by omega) (by omega)
  unfold zf_X2_build_11b zf_X2_build_79 zf_X2_push
  rw [if_neg e1, if_neg (nI_pos (by omega)), if_neg e2, mq_ck_of (vp_in_nI (by omega) (by omega)), nI_clamp (by omega), hw, hp, mq_cp_s, nI_e, if_neg (nI_nm1 (by omega)), nI_1, nI_e, if_neg (nI_pos (by omega)), if_neg e3, mq_ck_of (vp_in_nI (by omega) (by omega)), nI_clamp (by omega), nS_e, mq_cl_s, nI_1, nI_e]
/-- a turn that numbers -/
theorem bs_num {v1 : Int32} {top turn fuel : Nat} (ht : turn < 1000000) (htop : top < 150) (hw : S.2.1 12 top = nI m) (hp : zf_X2_partToMake N z (nI m) S = some (-1)) :
    zf_X2_build_11 N z (fuel + 1) v1 (nI top) (nI turn) S = mq_cl (zf_X2_number N z (nI m) S) (fun q S16 => if q = 0 then some (-1, S16) else zf_X2_build_11 N z fuel v1 (nI top + (-1)) (nI (turn + 1)) S16) := by
  show zf_X2_build_11b N z _ v1 (nI top) (nI turn) S = _
  have e1 : ¬ (1000000 : Int32) ≤ nI turn := nI_ge (b := 1000000) ht (by omega)
  have e2 : ¬ (150 : Int32) ≤ nI top := nI_ge (b := 150) (by omega) (by omega)
  unfold zf_X2_build_11b zf_X2_build_79
  simp only [if_neg e1, if_neg (nI_pos (show top < 2 ^ 31 by omega)), if_neg e2, mq_ck_of (vp_in_nI htop (by omega)), nI_clamp (show top < 2 ^ 31 by omega), hw, hp, mq_cp_s, nI_e, nI_1, ↓reduceIte]
/-- the number is given, or there is no more room -/
theorem b_number {k : Nat} {x y : Int32} {L : List En} (hN : 400 ≤ N) (h : dfb S W) (hm : mt W m t) (hD : S.2.1 11 m = -1) (hL : tbC S L) (hk : k < 8) (hso : (S.2.1 8 (m / 2) ||| nI (m % 2)) = nI k)
    (h1 : (if S.2.1 8 (m / 2) < 4 then some (S.2.1 9 (m / 2)) else mq_cp (zf_X2_firstPart N z (nI m) S) (fun q => zf_X2_numberOf N z q S)) = some x) (h2 : mq_cp (zf_X2_secondPart N z (nI m) S) (fun q => zf_X2_numberOf N z q S) = some y) :
    ((m1 (nI k, x, y) L).2.length ≤ 300 → ∃ S', zf_X2_number N z (nI m) S = some (1, S') ∧ tbC S' (m1 (nI k, x, y) L).2 ∧ S'.2.1 11 = upd (S.2.1 11) m (nI (m1 (nI k, x, y) L).1) ∧ S'.2.1 12 = S.2.1 12 ∧ ag [2] [4, 5, 6, 7, 11] [0] S S' ∧ ∀ f, f < L.length → S'.2.1 7 f = S.2.1 7 f) ∧
    (300 < (m1 (nI k, x, y) L).2.length → ∃ S', zf_X2_number N z (nI m) S = some (0, S') ∧ tbC S' L ∧ ag [] [11] [] S S') := by
  have hl := mt_lt hm
  have h150 := h.2.1
  have i1 : vp_in (nI (m / 2)) 150 := vp_in_nI (by omega) (by omega)
  have c1 : (nI (m / 2)).toNatClampNeg = m / 2 := nI_clamp (by omega)
  have i2 : vp_in (nI m) 300 := vp_in_nI (by omega) (by omega)
  have c2 : (nI m).toNatClampNeg = m := nI_clamp (by omega)
  have E : zf_X2_number N z (nI m) S = mq_cl (zf_X7_make N z (nI k) x y S) (fun q S24 => zf_X2_number_90 N z (nI m) (mq_sa S24 11 (upd (S24.2.1 11) m q))) := by
    have E52 : ∀ v : Int32, zf_X2_number_52 N z (nI m) (nI (m / 2)) v S = mq_cl (zf_X7_make N z (nI k) v y S) (fun q S24 => zf_X2_number_90 N z (nI m) (mq_sa S24 11 (upd (S24.2.1 11) m q))) := by
      intro v
      unfold zf_X2_number_52
      cases hs : zf_X2_secondPart N z (nI m) S with
      | none => rw [hs] at h2; cases h2
      | some q =>
        rw [hs, mq_cp_s] at h2
        rw [nI_e, mq_cp_s, h2, mq_cp_s, nI_e, mq_ck_of i1, c1, (bm_num (m := m) (by omega)).2, hso]
        simp only [mq_ck_of i2, c2, nS_e]
    unfold zf_X2_number
    rw [bm_is h hm, mq_cp_s, if_neg (by decide), mq_ck_of i2, c2, if_pos hD, (bm_num (m := m) (by omega)).1, nI_e, mq_ck_of i1, mq_ck_of i1, c1]
    by_cases q4 : S.2.1 8 (m / 2) < 4
    · rw [if_pos q4] at h1 ⊢
      have : S.2.1 9 (m / 2) = x := Option.some.inj h1
      rw [this, E52]
    · rw [if_neg q4] at h1 ⊢
      cases hf : zf_X2_firstPart N z (nI m) S with
      | none => rw [hf] at h1; cases h1
      | some q =>
        rw [hf, mq_cp_s] at h1
        rw [mq_cp_s, h1, mq_cp_s, E52]
  obtain ⟨M1, M2⟩ := ck_make (N := N) (z := z) (a := x) (b := y) hN hL hk
  refine ⟨fun q => ?_, fun q => ?_⟩
  · obtain ⟨S1, a1, a2, a3, a4⟩ := M1 q
    have e11 : S1.2.1 11 = S.2.1 11 := a3.2.1 11 (by decide)
    refine ⟨mq_sa S1 11 (upd (S.2.1 11) m (nI (m1 (nI k, x, y) L).1)), ?_, a2, rfl, a3.2.1 12 (by decide), ag_tr (ag_mono a3 (by decide) (by decide) (by decide)) (ag_sa (by decide)), a4⟩
    have hlt : (m1 (nI k, x, y) L).1 < 300 := by
      have := List.idxOf_lt_length_of_mem (m1_mem (nI k, x, y) L)
      rw [← m1_idx] at this
      omega
    rw [E, a1, mq_cl_s, e11]
    unfold zf_X2_number_90
    rw [mq_ck_of i2, c2, show (mq_sa S1 11 (upd (S.2.1 11) m (nI (m1 (nI k, x, y) L).1))).2.1 11 m = nI (m1 (nI k, x, y) L).1 from up_s _ _ _, if_neg (nI_nm1 (by omega)), mq_cz_1]
  · have a1 := M2 q
    refine ⟨mq_sa S 11 (upd (S.2.1 11) m (-1)), ?_, hL, ag_sa (by decide)⟩
    rw [E, a1, mq_cl_s]
    unfold zf_X2_number_90
    rw [mq_ck_of i2, c2, show (mq_sa S 11 (upd (S.2.1 11) m (-1))).2.1 11 m = -1 from up_s _ _ _, if_pos rfl, mq_cz_0]
end BLD
end
/-! 92.build2 -/
section
/-! build: a mark on top of the way is numbered, with all its parts. -/
def bdA (N : Nat) (z : Nat → Nat) (W : List Tr) (i m : Nat) (t : Tr) (S : mq_St) (L : List En) (top turn fuel : Nat) (v1 : Int32) : Prop :=
  ((mk t L).2.length ≤ 300 → ∃ (S' : mq_St) (turn' fuel' : Nat), zf_X2_build_11 N z fuel v1 (nI top) (nI turn) S = zf_X2_build_11 N z fuel' v1 (nI top + (-1)) (nI turn') S' ∧ tbC S' (mk t L).2 ∧ nmb (S'.2.1 11) W (mk t L).2 ∧ clo (S'.2.1 11) W ∧ S'.2.1 11 m = nI (mk t L).1 ∧ (∀ j, ¬ S.2.1 11 j = -1 → S'.2.1 11 j = S.2.1 11 j) ∧ (∀ j, i ≤ j / 2 → j ≠ m → S'.2.1 11 j = S.2.1 11 j) ∧ (∀ j, j ≤ top → S'.2.1 12 j = S.2.1 12 j) ∧ (∀ K, 2 * i + 2 ≤ K → fuel + 2 * uc (S'.2.1 11) K + 1 ≤ fuel' + 2 * uc (S.2.1 11) K ∧ turn' + 2 * uc (S'.2.1 11) K + 1 ≤ turn + 2 * uc (S.2.1 11) K) ∧ (∀ f, L.length ≤ f → f < (mk t L).2.length → ∃ j, j < 2 * W.length ∧ S'.2.1 11 j = nI f) ∧ (∀ f, f < L.length → S'.2.1 7 f = S.2.1 7 f) ∧ ag [2] [4, 5, 6, 7, 11, 12] [0] S S') ∧
  (300 < (mk t L).2.length → ∃ S' X, zf_X2_build_11 N z fuel v1 (nI top) (nI turn) S = some (-1, S') ∧ tbC S' (L ++ X) ∧ (∀ f, f < L.length → S'.2.1 7 f = S.2.1 7 f) ∧ ag [2] [4, 5, 6, 7, 11, 12] [0] S S')
theorem fp_c {N : Nat} {z : Nat → Nat} {S S1 : mq_St} {v : Int32} (g : ag [2] [4, 5, 6, 7, 11, 12] [0] S S1) : zf_X2_firstPart N z v S1 = zf_X2_firstPart N z v S ∧ zf_X2_secondPart N z v S1 = zf_X2_secondPart N z v S := by
  have e3 := g.1 3 (by decide)
  have e8 := g.2.1 8 (by decide)
  have e9 := g.2.1 9 (by decide)
  have e10 := g.2.1 10 (by decide)
  constructor
  · unfold zf_X2_firstPart zf_X2_isMark
    rw [e3, e8, e9]
  · unfold zf_X2_secondPart zf_X2_isMark
    rw [e3, e8, e10]
theorem dfb_g {S S1 : mq_St} {W : List Tr} (h : dfb S W) (g : ag [2] [4, 5, 6, 7, 11, 12] [0] S S1) : dfb S1 W := dfb_c h (g.1 3 (by decide)) (g.2.1 8 (by decide)) (g.2.1 9 (by decide)) (g.2.1 10 (by decide))
/-- which part is to be made -/
theorem pm_no {N : Nat} {z : Nat → Nat} {S : mq_St} {v : Int32} (h1 : zf_X2_firstPart N z v S = some (-1)) (h2 : zf_X2_secondPart N z v S = some (-1)) : zf_X2_partToMake N z v S = some (-1) := by
  unfold zf_X2_partToMake zf_X2_partToMake_22
  rw [h1, mq_cp_s, nI_e, if_pos rfl, h2, mq_cp_s, nI_e, if_pos rfl]
theorem pm_1 {N x : Nat} {z : Nat → Nat} {S : mq_St} {v : Int32} (h1 : zf_X2_firstPart N z v S = some (nI x)) (hx : x < 400) (hn : zf_X2_numberOf N z (nI x) S = some (-1)) : zf_X2_partToMake N z v S = some (nI x) := by
  unfold zf_X2_partToMake
  rw [h1, mq_cp_s, nI_e, if_neg (nI_nm1 (by omega)), hn, mq_cp_s, if_pos rfl]
theorem pm_10 {N x : Nat} {z : Nat → Nat} {S : mq_St} {v n : Int32} (h1 : zf_X2_firstPart N z v S = some (nI x)) (hx : x < 400) (hn : zf_X2_numberOf N z (nI x) S = some n) (hn1 : ¬ n = -1) (h2 : zf_X2_secondPart N z v S = some (-1)) : zf_X2_partToMake N z v S = some (-1) := by
  unfold zf_X2_partToMake zf_X2_partToMake_22
  rw [h1, mq_cp_s, nI_e, if_neg (nI_nm1 (by omega)), hn, mq_cp_s, if_neg hn1, h2, mq_cp_s, nI_e, if_pos rfl]
theorem pm_2 {N x y : Nat} {z : Nat → Nat} {S : mq_St} {v n : Int32} (h1 : zf_X2_firstPart N z v S = some (nI x)) (hx : x < 400) (hn : zf_X2_numberOf N z (nI x) S = some n) (hn1 : ¬ n = -1) (h2 : zf_X2_secondPart N z v S = some (nI y)) (hy : y < 400) (hm : zf_X2_numberOf N z (nI y) S = some (-1)) : zf_X2_partToMake N z v S = some (nI y) := by
  unfold zf_X2_partToMake zf_X2_partToMake_22
  rw [h1, mq_cp_s, nI_e, if_neg (nI_nm1 (by omega)), hn, mq_cp_s, if_neg hn1, h2, mq_cp_s, nI_e, if_neg (nI_nm1 (by omega)), hm, mq_cp_s, if_pos rfl]
theorem pm_20 {N x y : Nat} {z : Nat → Nat} {S : mq_St} {v n k : Int32} (h1 : zf_X2_firstPart N z v S = some (nI x)) (hx : x < 400) (hn : zf_X2_numberOf N z (nI x) S = some n) (hn1 : ¬ n = -1) (h2 : zf_X2_secondPart N z v S = some (nI y)) (hy : y < 400) (hm : zf_X2_numberOf N z (nI y) S = some k) (hk : ¬ k = -1) : zf_X2_partToMake N z v S = some (-1) := by
  unfold zf_X2_partToMake zf_X2_partToMake_22
  rw [h1, mq_cp_s, nI_e, if_neg (nI_nm1 (by omega)), hn, mq_cp_s, if_neg hn1, h2, mq_cp_s, nI_e, if_neg (nI_nm1 (by omega)), hm, mq_cp_s, if_neg hk]
theorem bd_all {N : Nat} {z : Nat → Nat} (hN : 400 ≤ N) {W : List Tr} {v1 : Int32} : ∀ (i m : Nat) (t : Tr), m / 2 = i → mt W m t → ∀ (S : mq_St) (L : List En) (top turn fuel : Nat), tbC S L → ok0 L → dfb S W → nmb (S.2.1 11) W L → clo (S.2.1 11) W → S.2.1 12 top = nI m → S.2.1 11 m = -1 → top + i < 150 → turn + 2 * uc (S.2.1 11) (2 * i + 2) < 1000000 → 2 * uc (S.2.1 11) (2 * i + 2) ≤ fuel → bdA N z W i m t S L top turn fuel v1 := by
  intro i
  induction i using Nat.strongRecOn with
  | ind i ih =>
    intro m t hmi hm S L top turn fuel hL h0 hd hn hc hw hD htop hturn hfuel
    have hml := mt_lt hm
    have h150 := hd.2.1
    have hucm : uc (S.2.1 11) (2 * i) + 1 ≤ uc (S.2.1 11) (2 * i + 2) := by
      have u1 := uc_upd (v := 0) hD (by decide) (2 * i + 2) (by omega)
      have u2 := uc_ext (t := S.2.1 11) (t' := upd (S.2.1 11) m 0) (2 * i) (fun j hj => by rw [up_o (by omega)])
      have u3 := uc_mono (t := upd (S.2.1 11) m 0) (a := 2 * i) (2 * i + 2) (by omega)
      omega
    -- a part is numbered, or was so already
    have adv : ∀ (x : Nat) (a : Tr) (S1 : mq_St) (L1 : List En) (turn1 fuel1 : Nat), mt W x a → x / 2 < i → tbC S1 L1 → ok0 L1 → dfb S1 W → nmb (S1.2.1 11) W L1 → clo (S1.2.1 11) W → S1.2.1 12 top = nI m → (S1.2.1 11 x = -1 → zf_X2_partToMake N z (nI m) S1 = some (nI x)) → turn1 + 2 * uc (S1.2.1 11) (2 * i) + 1 < 1000000 → 2 * uc (S1.2.1 11) (2 * i) + 1 ≤ fuel1 →
        ((mk a L1).2.length ≤ 300 → ∃ (S' : mq_St) (turn' fuel' : Nat), zf_X2_build_11 N z fuel1 v1 (nI top) (nI turn1) S1 = zf_X2_build_11 N z fuel' v1 (nI top) (nI turn') S' ∧ tbC S' (mk a L1).2 ∧ nmb (S'.2.1 11) W (mk a L1).2 ∧ clo (S'.2.1 11) W ∧ S'.2.1 11 x = nI (mk a L1).1 ∧ (∀ j, ¬ S1.2.1 11 j = -1 → S'.2.1 11 j = S1.2.1 11 j) ∧ (∀ j, i ≤ j / 2 → S'.2.1 11 j = S1.2.1 11 j) ∧ (∀ j, j ≤ top → S'.2.1 12 j = S1.2.1 12 j) ∧ (∀ K, 2 * i ≤ K → fuel1 + 2 * uc (S'.2.1 11) K ≤ fuel' + 2 * uc (S1.2.1 11) K ∧ turn' + 2 * uc (S'.2.1 11) K ≤ turn1 + 2 * uc (S1.2.1 11) K) ∧ (∀ f, L1.length ≤ f → f < (mk a L1).2.length → ∃ j, j < 2 * W.length ∧ S'.2.1 11 j = nI f) ∧ (∀ f, f < L1.length → S'.2.1 7 f = S1.2.1 7 f) ∧ ag [2] [4, 5, 6, 7, 11, 12] [0] S1 S') ∧
        (300 < (mk a L1).2.length → ∃ S' X, zf_X2_build_11 N z fuel1 v1 (nI top) (nI turn1) S1 = some (-1, S') ∧ tbC S' (L1 ++ X) ∧ (∀ f, f < L1.length → S'.2.1 7 f = S1.2.1 7 f) ∧ ag [2] [4, 5, 6, 7, 11, 12] [0] S1 S') := by
      intro x a S1 L1 turn1 fuel1 hx hxi hL1 h01 hd1 hn1 hc1 hw1 hpm ht1 hf1
      have hxl := mt_lt hx
      rcases hn1 x a hx with hx1 | ⟨k, hk, hpr⟩
      · obtain ⟨fu, rfl⟩ : ∃ q, fuel1 = q + 1 := ⟨fuel1 - 1, by omega⟩
        have hux := uc_mono (t := S1.2.1 11) (a := 2 * (x / 2) + 2) (2 * i) (by omega)
        have E := bs_push (N := N) (z := z) (S := S1) (v1 := v1) (top := top) (turn := turn1) (fuel := fu) (x := x) (m := m) (by omega) (by omega) hw1 (hpm hx1) (by omega)
        obtain ⟨A, B⟩ := ih (x / 2) hxi x a rfl hx (mq_sa S1 12 (upd (S1.2.1 12) (top + 1) (nI x))) L1 (top + 1) (turn1 + 1) fu hL1 h01 (dfb_c hd1 rfl rfl rfl rfl) hn1 hc1 (up_s _ _ _) hx1 (by omega) (by show turn1 + 1 + 2 * uc (S1.2.1 11) (2 * (x / 2) + 2) < _; omega) (by show 2 * uc (S1.2.1 11) (2 * (x / 2) + 2) ≤ fu; omega)
        have gS : ag [2] [4, 5, 6, 7, 11, 12] [0] S1 (mq_sa S1 12 (upd (S1.2.1 12) (top + 1) (nI x))) := ag_sa (by decide)
        refine ⟨fun q => ?_, fun q => ?_⟩
        · obtain ⟨S', turn', fuel', a1, a2, a3, a3c, a4, a5, a6, a7, a8, a10, a11, a12⟩ := A q
          refine ⟨S', turn', fuel', E.trans (a1.trans (by rw [pk_m1])), a2, a3, a3c, a4, a5, fun j hj => a6 j (by omega) (fun e => by rw [e] at hj; omega), fun j hj => ?_, fun K hK => ?_, a10, a11, ag_tr gS a12⟩
          · rw [a7 j (by omega)]
            show upd (S1.2.1 12) (top + 1) (nI x) j = _
            rw [up_o (by omega)]
          · have a8 : fu + 2 * uc (S'.2.1 11) K + 1 ≤ fuel' + 2 * uc (S1.2.1 11) K ∧ turn' + 2 * uc (S'.2.1 11) K + 1 ≤ turn1 + 1 + 2 * uc (S1.2.1 11) K := a8 K (by omega)
            omega
        · obtain ⟨S', X, b1, b2, b3, b4⟩ := B q
          exact ⟨S', X, E.trans b1, b2, b3, ag_tr gS b4⟩
      · have e : mk a L1 = (k, L1) := hpr
        rw [e]
        refine ⟨fun q => ⟨S1, turn1, fuel1, rfl, hL1, hn1, hc1, hk, fun _ _ => rfl, fun _ _ => rfl, fun _ _ => rfl, fun K _ => ⟨Nat.le_refl _, Nat.le_refl _⟩, fun f h1 h2 => ?_, fun _ _ => rfl, ag_rf⟩, fun q => ?_⟩
        · have h2 : f < L1.length := h2
          omega
        · have := hL1.2.1
          have q : 300 < L1.length := q
          omega
    -- the last turn
    have fin : ∀ (k : Nat) (x y : Int32) (S2 : mq_St) (L2 : List En) (turn2 fuel2 : Nat), tbC S2 L2 → dfb S2 W → nmb (S2.2.1 11) W L2 → clo (S2.2.1 11) W → (∀ j u, mt W j u → u ∈ sb t → j ≠ m → ¬ S2.2.1 11 j = -1) → S2.2.1 12 top = nI m → S2.2.1 11 m = -1 → k < 8 → (S2.2.1 8 (m / 2) ||| nI (m % 2)) = nI k → (if S2.2.1 8 (m / 2) < 4 then some (S2.2.1 9 (m / 2)) else mq_cp (zf_X2_firstPart N z (nI m) S2) (fun q => zf_X2_numberOf N z q S2)) = some x → mq_cp (zf_X2_secondPart N z (nI m) S2) (fun q => zf_X2_numberOf N z q S2) = some y → zf_X2_partToMake N z (nI m) S2 = some (-1) → turn2 < 1000000 → 1 ≤ fuel2 →
        mk t L = m1 (nI k, x, y) L2 → (∀ j, ¬ S.2.1 11 j = -1 → S2.2.1 11 j = S.2.1 11 j) → (∀ j, i ≤ j / 2 → S2.2.1 11 j = S.2.1 11 j) → (∀ j, j ≤ top → S2.2.1 12 j = S.2.1 12 j) → (∀ K, 2 * i ≤ K → fuel + 2 * uc (S2.2.1 11) K ≤ fuel2 + 2 * uc (S.2.1 11) K ∧ turn2 + 2 * uc (S2.2.1 11) K ≤ turn + 2 * uc (S.2.1 11) K) → (∀ f, L.length ≤ f → f < L2.length → ∃ j, j < 2 * W.length ∧ S2.2.1 11 j = nI f) → (∀ f, f < L.length → S2.2.1 7 f = S.2.1 7 f) → (∃ X, L2 = L ++ X) → ag [2] [4, 5, 6, 7, 11, 12] [0] S S2 → zf_X2_build_11 N z fuel v1 (nI top) (nI turn) S = zf_X2_build_11 N z fuel2 v1 (nI top) (nI turn2) S2 → bdA N z W i m t S L top turn fuel v1 := by
      intro k x y S2 L2 turn2 fuel2 hL2 hd2 hn2 hc2 hsub hw2 hD2 hk hso h1 h2 hpm ht2 hf2 hmk g1 g2 g3 g4 g6 g7 ⟨X, hX⟩ g8 E0
      obtain ⟨fu, rfl⟩ : ∃ q, fuel2 = q + 1 := ⟨fuel2 - 1, by omega⟩
      have E := bs_num (N := N) (z := z) (S := S2) (v1 := v1) (top := top) (turn := turn2) (fuel := fu) (m := m) ht2 (by omega) hw2 hpm
      obtain ⟨A, B⟩ := b_number (N := N) (z := z) (k := k) (x := x) (y := y) hN hd2 hm hD2 hL2 hk hso h1 h2
      have hpt := pr_mk t L
      unfold bdA
      rw [hmk] at hpt ⊢
      refine ⟨fun q => ?_, fun q => ?_⟩
      · obtain ⟨S', a1, a2, a3, a4, a5, a6⟩ := A q
        obtain ⟨Y, hY, hY1⟩ := m1_ext (nI k, x, y) L2
        have hlt : (m1 (nI k, x, y) L2).1 < 300 := by
          have := List.idxOf_lt_length_of_mem (m1_mem (nI k, x, y) L2)
          rw [← m1_idx] at this
          omega
        refine ⟨S', turn2 + 1, fu, E0.trans (E.trans (by rw [a1, mq_cl_s, if_neg (by decide)])), a2, ?_, ?_, by rw [a3, up_s], ?_, ?_, ?_, fun K hK => ?_, ?_, ?_, ag_tr g8 (ag_mono a5 (by decide) (by decide) (by decide))⟩
        · intro j u hj
          rw [a3]
          by_cases e : j = m
          · subst e
            rw [up_s, mt_fn hj hm]
            exact Or.inr ⟨_, rfl, hpt⟩
          · rw [up_o e]
            have := nmb_app hn2 Y j u hj
            rw [← hY] at this
            exact this
        · intro j u hj hDj j' u' hj' hu'
          rw [a3] at hDj ⊢
          have hnm : ¬ nI (m1 (nI k, x, y) L2).1 = -1 := nI_nm1 (by omega)
          by_cases e' : j' = m
          · rw [e', up_s]; exact hnm
          · rw [up_o e']
            by_cases e : j = m
            · rw [e] at hj
              rw [mt_fn hj hm] at hu'
              exact hsub j' u' hj' hu' e'
            · rw [up_o e] at hDj
              exact hc2 j u hj hDj j' u' hj' hu'
        · intro j hj
          rw [a3, up_o (fun e => hj (by rw [e]; exact hD))]
          exact g1 j hj
        · intro j hj hjm
          rw [a3, up_o hjm]
          exact g2 j hj
        · intro j hj
          rw [a4]
          exact g3 j hj
        · have hu := uc_upd (v := nI (m1 (nI k, x, y) L2).1) hD2 (nI_nm1 (by omega)) K (by omega)
          rw [← a3] at hu
          have := g4 K (by omega)
          omega
        · intro f hf1 hf2
          by_cases hf : f < L2.length
          · obtain ⟨j, j1, j2⟩ := g6 f hf1 hf
            refine ⟨j, j1, ?_⟩
            rw [a3, up_o (fun e => by rw [e, hD2] at j2; exact absurd j2.symm (nI_nm1 (by have := hL2.2.1; omega)))]
            exact j2
          · refine ⟨m, by omega, ?_⟩
            rw [a3, up_s]
            have hne : ¬ (nI k, x, y) ∈ L2 := fun hme => by
              unfold m1 at hf2
              rw [if_pos hme] at hf2
              exact hf hf2
            have e1 : m1 (nI k, x, y) L2 = (L2.length, L2 ++ [(nI k, x, y)]) := by
              unfold m1
              rw [if_neg hne]
            rw [e1] at hf2 ⊢
            have hf2 : f < (L2 ++ [(nI k, x, y)]).length := hf2
            rw [List.length_append] at hf2
            have hf2 : f < L2.length + 1 := hf2
            have : f = L2.length := by omega
            rw [this]
        · intro f hf
          rw [a6 f (by rw [hX, List.length_append]; omega)]
          exact g7 f hf
      · obtain ⟨S', b1, b2, b3⟩ := B q
        refine ⟨S', X, E0.trans (E.trans (by rw [b1, mq_cl_s, if_pos rfl])), by rw [← hX]; exact b2, fun f hf => ?_, ag_tr g8 (ag_mono b3 (by decide) (by decide) (by decide))⟩
        rw [b3.2.1 7 (by decide)]
        exact g7 f hf
    rcases kd_is (N := N) (z := z) hd hm with ⟨k, v, p1, p2, p3, p4, p5, p6, psb, p7⟩ | ⟨k, x, a, p1, p2, p3, p4, p5, ma, c1, psb, p7⟩ | ⟨k, x, y, a, b, p1, p2, p3, p4, p5, ma, mb, c1, c2, psb, p7⟩
    · exact fin k v (-1) S L turn fuel hL hd hn hc (fun j u hj hu hjm => by
        rw [psb, List.mem_singleton] at hu
        rw [hu] at hj
        exact absurd (mt_inj hd.2.2.1 hd.2.2.2.1 hj hm) hjm) hw hD p5 p4 (by rw [if_pos p3, p6]) (by rw [p2, mq_cp_s, bn_no]) (pm_no p1 p2) (by omega) (by omega) (p7 L h0) (fun _ _ => rfl) (fun _ _ => rfl) (fun _ _ => rfl) (fun K _ => ⟨Nat.le_refl _, Nat.le_refl _⟩) (fun f h1 h2 => by omega) (fun _ _ => rfl) ⟨[], (List.append_nil L).symm⟩ ag_rf rfl
    · have hxl := mt_lt ma
      obtain ⟨A, B⟩ := adv x a S L turn fuel ma (by omega) hL h0 hd hn hc hw (fun q => pm_1 p1 (by omega) (by rw [bn_of hd ma, q])) (by omega) (by omega)
      by_cases q : (mk a L).2.length ≤ 300
      · obtain ⟨S1, turn1, fuel1, a1, a2, a3, a3c, a4, a5, a6, a7, a8, a10, a11, a12⟩ := A q
        have a8i := a8 (2 * i) (Nat.le_refl _)
        have hd1 := dfb_g hd a12
        obtain ⟨f1, f2⟩ := fp_c (N := N) (z := z) (v := nI m) a12
        rw [p1] at f1
        rw [p2] at f2
        have hlt : (mk a L).1 < 300 := by
          have hwa := mt_wf hd.2.2.2.1 ma
          obtain ⟨X, hX⟩ := mk_ext a L
          have := pr_lt hwa (by rw [hX]; exact ok0_app h0 X) (pr_mk a L)
          omega
        have hnm : ¬ nI (mk a L).1 = -1 := nI_nm1 (by omega)
        exact fin k (nI (mk a L).1) (-1) S1 (mk a L).2 turn1 fuel1 a2 hd1 a3 a3c (fun j u hj hu hjm => by
          rw [psb, List.mem_cons] at hu
          rcases hu with hu | hu
          · rw [hu] at hj
            exact absurd (mt_inj hd.2.2.1 hd.2.2.2.1 hj hm) hjm
          · exact a3c x a ma (by rw [a4]; exact hnm) j u hj hu) ((a7 top (Nat.le_refl _)).trans hw) ((a6 m (by omega)).trans hD) p5 (by rw [a12.2.1 8 (by decide)]; exact p4) (by rw [a12.2.1 8 (by decide), if_neg p3, f1, mq_cp_s, bn_of hd1 ma, a4]) (by rw [f2, mq_cp_s, bn_no]) (pm_10 f1 (by omega) (by rw [bn_of hd1 ma, a4]) hnm f2) (by omega) (by omega) (p7 L) a5 a6 a7 a8 a10 a11 (mk_ext a L) a12 a1
      · obtain ⟨S1, X, b1, b2, b3, b4⟩ := B (by omega)
        refine ⟨fun q2 => ?_, fun _ => ⟨S1, X, b1, b2, b3, b4⟩⟩
        rw [p7 L] at q2
        obtain ⟨Y, hY, -⟩ := m1_ext (nI k, nI (mk a L).1, -1) (mk a L).2
        rw [hY, List.length_append] at q2
        omega
    · have hxl := mt_lt ma
      have hyl := mt_lt mb
      obtain ⟨A, B⟩ := adv x a S L turn fuel ma (by omega) hL h0 hd hn hc hw (fun q => pm_1 p1 (by omega) (by rw [bn_of hd ma, q])) (by omega) (by omega)
      have hlong : ∀ M : List En, (∃ X, (mk b (mk a L).2).2 = M ++ X) → 300 < M.length → 300 < (mk t L).2.length := by
        rintro M ⟨X, hX⟩ hM
        rw [p7 L]
        obtain ⟨Y, hY, -⟩ := m1_ext (nI k, nI (mk a L).1, nI (mk b (mk a L).2).1) (mk b (mk a L).2).2
        rw [hY, hX, List.length_append, List.length_append]
        omega
      by_cases q : (mk a L).2.length ≤ 300
      · obtain ⟨S1, turn1, fuel1, a1, a2, a3, a3c, a4, a5, a6, a7, a8, a10, a11, a12⟩ := A q
        have a8i := a8 (2 * i) (Nat.le_refl _)
        have hd1 := dfb_g hd a12
        obtain ⟨f1, f2⟩ := fp_c (N := N) (z := z) (v := nI m) a12
        rw [p1] at f1
        rw [p2] at f2
        obtain ⟨X1, hX1⟩ := mk_ext a L
        have h01 : ok0 (mk a L).2 := by rw [hX1]; exact ok0_app h0 X1
        have hlt : (mk a L).1 < 300 := by
          have := pr_lt (mt_wf hd.2.2.2.1 ma) h01 (pr_mk a L)
          omega
        have hnm : ¬ nI (mk a L).1 = -1 := nI_nm1 (by omega)
        obtain ⟨A2, B2⟩ := adv y b S1 (mk a L).2 turn1 fuel1 mb (by omega) a2 h01 hd1 a3 a3c ((a7 top (Nat.le_refl _)).trans hw) (fun q2 => pm_2 f1 (by omega) (by rw [bn_of hd1 ma, a4]) hnm f2 (by omega) (by rw [bn_of hd1 mb, q2])) (by omega) (by omega)
        by_cases q2 : (mk b (mk a L).2).2.length ≤ 300
        · obtain ⟨S2, turn2, fuel2, d1, d2, d3, d3c, d4, d5, d6, d7, d8, d10, d11, d12⟩ := A2 q2
          have d8i := d8 (2 * i) (Nat.le_refl _)
          have g12 := ag_tr a12 d12
          have hd2 := dfb_g hd g12
          obtain ⟨e1, e2⟩ := fp_c (N := N) (z := z) (v := nI m) g12
          rw [p1] at e1
          rw [p2] at e2
          obtain ⟨X2, hX2⟩ := mk_ext b (mk a L).2
          have h02 : ok0 (mk b (mk a L).2).2 := by rw [hX2]; exact ok0_app h01 X2
          have hlt2 : (mk b (mk a L).2).1 < 300 := by
            have := pr_lt (mt_wf hd.2.2.2.1 mb) h02 (pr_mk b (mk a L).2)
            omega
          have hnm2 : ¬ nI (mk b (mk a L).2).1 = -1 := nI_nm1 (by omega)
          have d4x : S2.2.1 11 x = nI (mk a L).1 := (d5 x (by rw [a4]; exact hnm)).trans a4
          have dm : S2.2.1 11 m = -1 := (d6 m (by omega)).trans ((a6 m (by omega)).trans hD)
          refine fin k (nI (mk a L).1) (nI (mk b (mk a L).2).1) S2 (mk b (mk a L).2).2 turn2 fuel2 d2 hd2 d3 d3c (fun j u hj hu hjm => ?_) ((d7 top (Nat.le_refl _)).trans ((a7 top (Nat.le_refl _)).trans hw)) dm p5 (by rw [g12.2.1 8 (by decide)]; exact p4) (by rw [g12.2.1 8 (by decide), if_neg p3, e1, mq_cp_s, bn_of hd2 ma, d4x]) (by rw [e2, mq_cp_s, bn_of hd2 mb, d4]) (pm_20 e1 (by omega) (by rw [bn_of hd2 ma, d4x]) hnm e2 (by omega) (by rw [bn_of hd2 mb, d4]) hnm2) (by omega) (by omega) (p7 L) (fun j hj => ?_) (fun j hj => (d6 j hj).trans (a6 j hj)) (fun j hj => (d7 j hj).trans (a7 j hj)) (fun K hK => by have := a8 K hK; have := d8 K hK; omega) (fun f hf1 hf2 => ?_) (fun f hf => ?_) ⟨X1 ++ X2, by rw [hX2, hX1, List.append_assoc]⟩ g12 (a1.trans d1)
          · rw [psb, List.mem_cons, List.mem_append] at hu
            rcases hu with hu | hu | hu
            · rw [hu] at hj
              exact absurd (mt_inj hd.2.2.1 hd.2.2.2.1 hj hm) hjm
            · exact d3c x a ma (by rw [d4x]; exact hnm) j u hj hu
            · exact d3c y b mb (by rw [d4]; exact hnm2) j u hj hu
          · rw [d5 j (by rw [a5 j hj]; exact hj), a5 j hj]
          · by_cases hf : f < (mk a L).2.length
            · obtain ⟨j, j1, j2⟩ := a10 f hf1 hf
              exact ⟨j, j1, by rw [d5 j (by rw [j2]; exact nI_nm1 (by omega)), j2]⟩
            · exact d10 f (by omega) hf2
          · rw [d11 f (by rw [hX1, List.length_append]; omega), a11 f hf]
        · obtain ⟨S2, X, b1, b2, b3, b4⟩ := B2 (by omega)
          have hlong' := hlong (mk b (mk a L).2).2 ⟨[], (List.append_nil _).symm⟩ (by omega)
          refine ⟨fun q3 => by omega, fun _ => ⟨S2, X1 ++ X, a1.trans b1, by rw [← List.append_assoc, ← hX1]; exact b2, fun f hf => ?_, ag_tr a12 b4⟩⟩
          rw [b3 f (by rw [hX1, List.length_append]; omega), a11 f hf]
      · obtain ⟨S1, X, b1, b2, b3, b4⟩ := B (by omega)
        have hlong' := hlong (mk a L).2 (mk_ext b (mk a L).2) (by omega)
        exact ⟨fun q2 => by omega, fun _ => ⟨S1, X, b1, b2, b3, b4⟩⟩
end
/-! 93.fill -/
section
/-! build whole, dropTo, pairAll; the table in good order; denials. -/
section FILL
variable {N : Nat} {z : Nat → Nat} {S : mq_St} {W : List Tr} {L : List En}
theorem ck_build {m : Nat} {t : Tr} (hN : 1000 ≤ N) (hm : mt W m t) (hL : tbC S L) (h0 : ok0 L) (hd : dfb S W) (hn : nmb (S.2.1 11) W L) (hc : clo (S.2.1 11) W) (hD : S.2.1 11 m = -1) :
    ((mk t L).2.length ≤ 300 → ∃ S', zf_X2_build N z (nI m) S = some (nI (mk t L).1, S') ∧ tbC S' (mk t L).2 ∧ nmb (S'.2.1 11) W (mk t L).2 ∧ clo (S'.2.1 11) W ∧ S'.2.1 11 m = nI (mk t L).1 ∧ (∀ j, ¬ S.2.1 11 j = -1 → S'.2.1 11 j = S.2.1 11 j) ∧ (∀ j, m / 2 ≤ j / 2 → j ≠ m → S'.2.1 11 j = S.2.1 11 j) ∧ (∀ f, L.length ≤ f → f < (mk t L).2.length → ∃ j, j < 2 * W.length ∧ S'.2.1 11 j = nI f) ∧ (∀ f, f < L.length → S'.2.1 7 f = S.2.1 7 f) ∧ ag [2] [4, 5, 6, 7, 11, 12] [0] S S') ∧
    (300 < (mk t L).2.length → ∃ S' X, zf_X2_build N z (nI m) S = some (-1, S') ∧ tbC S' (L ++ X) ∧ (∀ f, f < L.length → S'.2.1 7 f = S.2.1 7 f) ∧ ag [2] [4, 5, 6, 7, 11, 12] [0] S S') := by
  have hl := mt_lt hm
  have h150 := hd.2.1
  have E : zf_X2_build N z (nI m) S = zf_X2_build_11 N z N (nI m) (nI 0) (nI 0) (mq_sa S 12 (upd (S.2.1 12) 0 (nI m))) := by
    have i0 : vp_in (0 : Int32) 150 := vp_in_nI (n := 0) (by omega) (by omega)
    unfold zf_X2_build
    rw [nI_e, mq_ck_of i0, show (0 : Int32).toNatClampNeg = 0 from nI_clamp (n := 0) (by omega), nS_e, nI_e]
    rfl
  have gS : ag [2] [4, 5, 6, 7, 11, 12] [0] S (mq_sa S 12 (upd (S.2.1 12) 0 (nI m))) := ag_sa (by decide)
  have hu := uc_le (S.2.1 11) (2 * (m / 2) + 2)
  obtain ⟨A, B⟩ := bd_all (N := N) (z := z) (v1 := nI m) (by omega) (m / 2) m t rfl hm (mq_sa S 12 (upd (S.2.1 12) 0 (nI m))) L 0 0 N hL h0 (dfb_c hd rfl rfl rfl rfl) hn hc (show upd (S.2.1 12) 0 (nI m) 0 = nI m from up_s _ _ _) hD (by omega) (by show 0 + 2 * uc (S.2.1 11) _ < _; omega) (by show 2 * uc (S.2.1 11) _ ≤ _; omega)
  refine ⟨fun q => ?_, fun q => ?_⟩
  · obtain ⟨S', turn', fuel', a1, a2, a3, a3c, a4, a5, a6, a7, a8, a9, a10, a11⟩ := A q
    refine ⟨S', ?_, a2, a3, a3c, a4, a5, a6, a9, a10, ag_tr gS a11⟩
    rw [E, a1]
    have hf : 1 ≤ fuel' := by
      have := (a8 (2 * (m / 2) + 2) (Nat.le_refl _)).1
      have hu' : uc ((mq_sa S 12 (upd (S.2.1 12) 0 (nI m))).2.1 11) (2 * (m / 2) + 2) ≤ 2 * (m / 2) + 2 := hu
      omega
    obtain ⟨fu, rfl⟩ : ∃ q, fuel' = q + 1 := ⟨fuel' - 1, by omega⟩
    have hd' := dfb_g hd (ag_tr gS a11)
    have e85 : zf_X2_build_85 N z (nI m) S' = some (nI (mk t L).1, S') := by
      unfold zf_X2_build_85
      rw [bn_of hd' hm, mq_cp_s, a4]
    show zf_X2_build_11b N z _ (nI m) (nI 0 + (-1)) (nI turn') S' = _
    unfold zf_X2_build_11b
    rw [e85, if_pos (by decide : nI 0 + (-1) < (0 : Int32))]
    by_cases qt : (1000000 : Int32) ≤ nI turn'
    · rw [if_pos qt]
    · rw [if_neg qt]
  · obtain ⟨S', X, b1, b2, b3, b4⟩ := B q
    exact ⟨S', X, E.trans b1, b2, b3, ag_tr gS b4⟩
theorem drop_loop {L : List En} : ∀ (n fuel : Nat) (S : mq_St) (X : List En), X.length = n → tbC S (L ++ X) → n < fuel → ∃ S', zf_X7_dropTo_7 N z fuel (nI L.length) (nI (L.length + n) - 1) S = some ((), S') ∧ tbC S' L ∧ ag [2] [] [0] S S' := by
  intro n
  induction n with
  | zero =>
    intro fuel S X hX h hf
    obtain ⟨fu, rfl⟩ : ∃ q, fuel = q + 1 := ⟨fuel - 1, by omega⟩
    have hx : X = [] := List.eq_nil_of_length_eq_zero hX
    rw [hx, List.append_nil] at h
    refine ⟨S, ?_, h, ag_rf⟩
    show zf_X7_dropTo_7b N z _ (nI L.length) (nI (L.length + 0) - 1) S = _
    unfold zf_X7_dropTo_7b
    have hl := h.2.1
    have e : nI (L.length + 0) - 1 < nI L.length := by
      rw [Int32.lt_iff_toInt_lt, show (nI (L.length + 0) - 1).toInt = ((L.length + 0 : Nat) : Int) - 1 from pk_sub_toInt (a := L.length + 0) (b := 1) (by omega) (by omega), nI_toInt (by omega)]
      omega
    rw [if_pos e]
  | succ n ih =>
    intro fuel S X hX h hf
    obtain ⟨fu, rfl⟩ : ∃ q, fuel = q + 1 := ⟨fuel - 1, by omega⟩
    obtain ⟨h1, h2, h3, h4, h5⟩ := h
    rw [List.length_append, hX] at h2
    have hlen : (L ++ X).length = L.length + n + 1 := by rw [List.length_append, hX]; omega
    have e1 : nI (L.length + (n + 1)) - 1 = nI (L.length + n) := nI_pred (L.length + n)
    obtain ⟨k, hk, ek⟩ := h5 (L.length + n) (by omega)
    show ∃ S', zf_X7_dropTo_7b N z (fun v1 v2 S => zf_X7_dropTo_7 N z fu v1 v2 S) (nI L.length) (nI (L.length + (n + 1)) - 1) S = some ((), S') ∧ _
    unfold zf_X7_dropTo_7b
    rw [e1, if_neg (nI_nlt (a := L.length + n) (b := L.length) (by omega) (by omega)), if_neg (nI_pos (by omega)), mq_ck_of (vp_in_nI (by omega) (by omega)), nI_clamp (by omega), ek]
    obtain ⟨w', p1, p2⟩ := se_drop (N := N) (R := 8) (z := fun k => [40].getD k 0) (S := mq_pull S [] [] [0]) (r := k) (f := L.length + n) rfl (by omega) hk (by omega)
    have p1' : zf_X6_drop N (fun k => [40].getD k 0) (nI k) (nI (L.length + n)) (mq_pull S [] [] [0]) = some ((), mq_sl (mq_pull S [] [] [0]) 0 w') := p1
    rw [p1', mq_cl_s, nS_e, nS_e, show nI (L.length + n) + (-1) = nI (L.length + n) - 1 from by rw [Int32.sub_eq_add_neg], nI_e]
    have hX0 : X ≠ [] := fun e => by rw [e] at hX; cases hX
    obtain ⟨S', a1, a2, a3⟩ := ih fu (mq_si (mq_push S (mq_sl (mq_pull S [] [] [0]) 0 w') [] [] [0]) 2 (nI (L.length + n))) X.dropLast (by rw [List.length_dropLast, hX]; rfl) ⟨by
      show nI (L.length + n) = nI (L ++ X.dropLast).length
      rw [List.length_append, List.length_dropLast, hX]; rfl, by
      rw [List.length_append, List.length_dropLast, hX]; omega, fun f hf => by
      rw [List.length_append, List.length_dropLast, hX] at hf
      have hf : f < L.length + n := hf
      have := h3 f (by omega)
      show (L ++ X.dropLast)[f]? = some (S.2.1 4 f, S.2.1 5 f, S.2.1 6 f)
      rw [← this]
      by_cases q : f < L.length
      · rw [List.getElem?_append_left q, List.getElem?_append_left q]
      · rw [List.getElem?_append_right (by omega), List.getElem?_append_right (by omega), List.getElem?_dropLast, if_pos (by omega)], fun s f hs hf => by
      show lb w' s f = decide (f < (L ++ X.dropLast).length ∧ S.2.1 4 f = nI s)
      rw [p2 s f hf, List.length_append, List.length_dropLast, hX]
      show (lb (S.2.2 0) s f && _) = decide (f < L.length + n ∧ S.2.1 4 f = nI s)
      rw [h4 s f hs hf, hlen]
      by_cases q : f = L.length + n
      · subst q
        rw [ek]
        by_cases q2 : k = s
        · subst q2; simp
        · rw [decide_eq_false (fun e : _ ∧ nI k = nI s => q2 (sp_inj e.2 (by omega) (by omega)))]
          simp
      · rw [decide_eq_false (fun e : s = k ∧ f = L.length + n => q e.2), Bool.not_false, Bool.and_true, decide_eq_decide]
        constructor
        · rintro ⟨x, y⟩; exact ⟨by omega, y⟩
        · rintro ⟨x, y⟩; exact ⟨by omega, y⟩, fun f hf => by
      rw [List.length_append, List.length_dropLast, hX] at hf
      have hf : f < L.length + n := hf
      exact h5 f (by omega)⟩ (by omega)
    refine ⟨S', a1, a2, ?_⟩
    refine ag_tr ?_ a3
    refine ag_tr ?_ (ag_si (by decide))
    exact ag_mono ag_push (by decide) (by decide) (by decide)
theorem ck_dropTo {L X : List En} (hN : 1000 ≤ N) (h : tbC S (L ++ X)) : ∃ S', zf_X7_dropTo N z (nI L.length) S = some ((), S') ∧ tbC S' L ∧ ag [2] [] [0] S S' := by
  have hl := h.2.1
  rw [List.length_append] at hl
  obtain ⟨S', a1, a2, a3⟩ := drop_loop (N := N) (z := z) (L := L) X.length N S X rfl h (by omega)
  refine ⟨S', ?_, a2, a3⟩
  unfold zf_X7_dropTo
  rw [nI_e, h.1, List.length_append]
  exact a1
end FILL
/-- parts come ahead -/
def ord (L : List En) : Prop := ∀ f e, L[f]? = some e → (e.1 = 4 ∨ e.1 = 5 → (∃ x : Nat, x < f ∧ e.2.1 = nI x) ∧ ∃ y : Nat, y < f ∧ e.2.2 = nI y) ∧ (e.1 = 6 ∨ e.1 = 7 → ∃ x : Nat, x < f ∧ e.2.1 = nI x)
theorem m1_ord {L : List En} {e : En} (h : ord L) (h1 : e.1 = 4 ∨ e.1 = 5 → (∃ x : Nat, x < L.length ∧ e.2.1 = nI x) ∧ ∃ y : Nat, y < L.length ∧ e.2.2 = nI y) (h2 : e.1 = 6 ∨ e.1 = 7 → ∃ x : Nat, x < L.length ∧ e.2.1 = nI x) : ord (m1 e L).2 := by
  unfold m1
  by_cases q : e ∈ L
  · rw [if_pos q]; exact h
  · rw [if_neg q]
    intro f u hu
    have hu : (L ++ [e])[f]? = some u := hu
    by_cases hf : f < L.length
    · rw [List.getElem?_append_left hf] at hu
      exact h f u hu
    · have hl := (List.getElem?_eq_some_iff.mp hu).1
      rw [List.length_append] at hl
      have hl : f < L.length + 1 := hl
      have ef : f = L.length := by omega
      rw [ef, List.getElem?_append_right (Nat.le_refl _), Nat.sub_self] at hu
      have : e = u := Option.some.inj hu
      rw [← this, ef]
      exact ⟨h1, h2⟩
theorem mk_ok0 {t : Tr} {L : List En} (h : ok0 L) : ok0 (mk t L).2 := by
  obtain ⟨X, e⟩ := mk_ext t L
  rw [e]
  exact ok0_app h X
theorem mk_ord : ∀ {t : Tr} {L : List En}, wf t → ok0 L → ord L → ord (mk t L).2
  | .num _, _, _, _, h => h
  | .var i, L, _, _, h => m1_ord h (fun q => by
      have q : nI (2 + i % 2) = 4 ∨ nI (2 + i % 2) = 5 := q
      have hv : ∀ n : Nat, ¬ (nI (2 + n % 2) = 4 ∨ nI (2 + n % 2) = 5) := fun n e => by
        rcases e with e | e
        · have := sp_inj (b := 4) e (by omega) (by omega); omega
        · have := sp_inj (b := 5) e (by omega) (by omega); omega
      exact absurd q (hv i)) (fun q => by
      have q : nI (2 + i % 2) = 6 ∨ nI (2 + i % 2) = 7 := q
      have hv : ∀ n : Nat, ¬ (nI (2 + n % 2) = 6 ∨ nI (2 + n % 2) = 7) := fun n e => by
        rcases e with e | e
        · have := sp_inj (b := 6) e (by omega) (by omega); omega
        · have := sp_inj (b := 7) e (by omega) (by omega); omega
      exact absurd q (hv i))
  | .add a b, L, w, h0, h => by
    have h1 := mk_ord w.1 h0 h
    have k1 := mk_ok0 (t := a) h0
    have h2 := mk_ord w.2 k1 h1
    have p1 := pr_lt w.1 k1 (pr_mk a L)
    have p2 := pr_lt w.2 (mk_ok0 k1) (pr_mk b (mk a L).2)
    have p3 := mk_len b (mk a L).2
    exact m1_ord h2 (fun _ => ⟨⟨_, by omega, rfl⟩, ⟨_, p2, rfl⟩⟩) (fun q => ⟨_, by omega, rfl⟩)
  | .sub a b, L, w, h0, h => by
    have h1 := mk_ord w.1 h0 h
    have k1 := mk_ok0 (t := a) h0
    have h2 := mk_ord w.2 k1 h1
    have p1 := pr_lt w.1 k1 (pr_mk a L)
    have p2 := pr_lt w.2 (mk_ok0 k1) (pr_mk b (mk a L).2)
    have p3 := mk_len b (mk a L).2
    exact m1_ord h2 (fun _ => ⟨⟨_, by omega, rfl⟩, ⟨_, p2, rfl⟩⟩) (fun q => ⟨_, by omega, rfl⟩)
  | .neg _, _, w, _, _ => w.elim
  | .mulL _ a, L, w, h0, h => by
    have h1 := mk_ord w.2 h0 h
    have p1 := pr_lt w.2 (mk_ok0 h0) (pr_mk a L)
    exact m1_ord h1 (fun q => absurd q (by show ¬ ((6 : Int32) = 4 ∨ (6 : Int32) = 5); decide)) (fun q => ⟨_, p1, rfl⟩)
  | .mulR a _, L, w, h0, h => by
    have h1 := mk_ord w.2 h0 h
    have p1 := pr_lt w.2 (mk_ok0 h0) (pr_mk a L)
    exact m1_ord h1 (fun q => absurd q (by show ¬ ((7 : Int32) = 4 ∨ (7 : Int32) = 5); decide)) (fun q => ⟨_, p1, rfl⟩)
/-- a table in good order: all entries are of trees, and their denials are there -/
def gtb (L : List En) : Prop := ok0 L ∧ L.length ≤ 300 ∧ ord L ∧ ∀ f, f < L.length → ∃ s, wf s ∧ pr s L f ∧ ∃ g, pr (du s) L g
noncomputable def dd (L : List En) (f : Nat) : Nat := @dite _ (∃ g s, wf s ∧ pr s L f ∧ pr (du s) L g) (Classical.propDecidable _) (fun h => Classical.choose h) (fun _ => 0)
theorem dd_is {L : List En} (h0 : ok0 L) (hl : L.length < 2147483648) {s : Tr} {f g : Nat} (w : wf s) (h1 : pr s L f) (h2 : pr (du s) L g) : dd L f = g := by
  have h : ∃ g s, wf s ∧ pr s L f ∧ pr (du s) L g := ⟨g, s, w, h1, h2⟩
  unfold dd
  rw [dif_pos h]
  obtain ⟨u, wu, p1, p2⟩ := Classical.choose_spec h
  have := pr_inj h0 hl wu w p1 h1
  rw [this] at p2
  exact pr_fn p2 h2
end
/-! 94.fill2 -/
section
/-! The table in good order as set() and tell() ask for it; pairs; fill. -/
theorem pr_ix {L : List En} (h0 : ok0 L) {s : Tr} {f : Nat} (w : wf s) (h : pr s L f) : ∀ e, L[f]? = some e → f = L.idxOf e := by
  intro e he
  have hg := pr_get w h0 h
  rw [he] at hg
  have hg := Option.some.inj hg
  cases s with
  | num v =>
    have hv : v = 0 ∨ v = 1 := w
    rcases hv with rfl | rfl
    · have hf : f = 0 := pr_num.mp h
      rw [hf] at he ⊢
      exact (ix_first (fun j hj => by omega) he).2.symm
    · have hf : f = 1 := pr_num.mp h
      rw [hf] at he ⊢
      refine (ix_first (fun j hj => ?_) he).2.symm
      have : j = 0 := by omega
      rw [this, h0.1, hg]
      exact fun q => absurd (congrArg Prod.fst (Option.some.inj q)) (by show ¬ (0 : Int32) = 1; decide)
  | var i => rw [hg]; exact (pr_var.mp h).2
  | add a b =>
    obtain ⟨x, y, ha, hb, -, hk⟩ := pr_add.mp h
    rw [hg, hk]
    show _ = L.idxOf (4, nI (mk a L).1, nI (mk b L).1)
    rw [show mk a L = (x, L) from ha, show mk b L = (y, L) from hb]
  | sub a b =>
    obtain ⟨x, y, ha, hb, -, hk⟩ := pr_sub.mp h
    rw [hg, hk]
    show _ = L.idxOf (5, nI (mk a L).1, nI (mk b L).1)
    rw [show mk a L = (x, L) from ha, show mk b L = (y, L) from hb]
  | neg _ => exact w.elim
  | mulL _ a =>
    obtain ⟨x, ha, -, hk⟩ := pr_mulL.mp h
    rw [hg, hk]
    show _ = L.idxOf (6, nI (mk a L).1, -1)
    rw [show mk a L = (x, L) from ha]
  | mulR a _ =>
    obtain ⟨x, ha, -, hk⟩ := pr_mulR.mp h
    rw [hg, hk]
    show _ = L.idxOf (7, nI (mk a L).1, -1)
    rw [show mk a L = (x, L) from ha]
theorem gtb_fw {L : List En} (h : gtb L) {so on tw : Nat → Int32} (hs : ∀ f, f < L.length → L[f]? = some (so f, on f, tw f)) : fw L.length so on tw (dd L) := by
  obtain ⟨h0, h3, ho, ht⟩ := h
  have hl : L.length < 2147483648 := by omega
  have h2 : 1 < L.length := (List.getElem?_eq_some_iff.mp h0.2).1
  have key : ∀ f, f < L.length → ∃ s g, wf s ∧ pr s L f ∧ pr (du s) L g ∧ dd L f = g := fun f hf => by
    obtain ⟨s, w, p1, g, p2⟩ := ht f hf
    exact ⟨s, g, w, p1, p2, dd_is h0 hl w p1 p2⟩
  refine ⟨h2, h3, ?_, ?_, ?_⟩
  · intro f g hf hg e1 e2 e3
    obtain ⟨s, w, p, -⟩ := ht f hf
    obtain ⟨u, wu, pu, -⟩ := ht g hg
    have a := pr_ix h0 w p _ (hs f hf)
    have b := pr_ix h0 wu pu _ (hs g hg)
    rw [a, b, e1, e2, e3]
  · intro f hf
    obtain ⟨s, g, w, p1, p2, e⟩ := key f hf
    rw [e]
    exact pr_lt (wf_du s w) h0 p2
  · intro f hf
    obtain ⟨s, g, w, p1, p2, e⟩ := key f hf
    have hg := pr_lt (wf_du s w) h0 p2
    have E1 := Option.some.inj ((hs f hf).symm.trans (pr_get w h0 p1))
    have E2 := Option.some.inj ((hs g hg).symm.trans (pr_get (wf_du s w) h0 p2))
    rw [e]
    have f1 : so f = (ee L s).1 := congrArg Prod.fst E1
    have f2 : on f = (ee L s).2.1 := congrArg (fun q : En => q.2.1) E1
    have f3 : tw f = (ee L s).2.2 := congrArg (fun q : En => q.2.2) E1
    have g1 : so g = (ee L (du s)).1 := congrArg Prod.fst E2
    have g2 : on g = (ee L (du s)).2.1 := congrArg (fun q : En => q.2.1) E2
    have g3 : tw g = (ee L (du s)).2.2 := congrArg (fun q : En => q.2.2) E2
    have hof := ho f _ (hs f hf)
    cases s with
    | num v =>
      have hv : v = 0 ∨ v = 1 := w
      have k1 := pr_num.mp p1
      have k2 := pr_num.mp p2
      rcases hv with rfl | rfl
      · exact Or.inl ⟨k1, f1, k2⟩
      · exact Or.inr (Or.inl ⟨k1, f1, k2⟩)
    | var i =>
      have hv : ∀ n : Nat, n < 52 → so f = nI (2 + n % 2) → on f = nI (n / 2) → so g = nI (2 + fl n % 2) → on g = nI (fl n / 2) → ((so f = 2 ∧ so g = 3) ∨ (so f = 3 ∧ so g = 2)) ∧ on g = on f ∧ ∃ l : Nat, l < 26 ∧ on f = nI l := by
        intro n hn a1 a2 a3 a4
        rw [fl_half] at a4
        refine ⟨?_, by rw [a2, a4], n / 2, by omega, a2⟩
        unfold fl at a3
        by_cases q : n % 2 = 0
        · rw [if_pos q, show 2 + (n + 1) % 2 = 3 by omega] at a3
          rw [q] at a1
          exact Or.inl ⟨a1, a3⟩
        · rw [if_neg q, show 2 + (n - 1) % 2 = 2 by omega] at a3
          rw [show n % 2 = 1 by omega] at a1
          exact Or.inr ⟨a1, a3⟩
      obtain ⟨q1, q2, q3⟩ := hv i w f1 f2 g1 g2
      exact Or.inr (Or.inr (Or.inl ⟨q1, q2, g3, f3, q3⟩))
    | add a b =>
      obtain ⟨x, y, ha, hb, -⟩ := pr_add.mp p1
      obtain ⟨x', y', ha', hb', -⟩ := pr_sub.mp p2
      have e1 : (ee L (.add a b)) = (4, nI x, nI y) := by
        show ((4, nI (mk a L).1, nI (mk b L).1) : En) = _
        rw [show mk a L = (x, L) from ha, show mk b L = (y, L) from hb]
      have e2 : (ee L (du (.add a b))) = (5, nI x', nI y') := by
        show ((5, nI (mk (du a) L).1, nI (mk (du b) L).1) : En) = _
        rw [show mk (du a) L = (x', L) from ha', show mk (du b) L = (y', L) from hb']
      rw [e1] at f1 f2 f3
      rw [e2] at g1 g2 g3
      obtain ⟨⟨u, u1, u2⟩, ⟨v, v1, v2⟩⟩ := hof.1 (Or.inl f1)
      have xl := pr_lt w.1 h0 ha
      have yl := pr_lt w.2 h0 hb
      have eu : u = x := sp_inj (u2.symm.trans f2) (by omega) (by omega)
      have ev : v = y := sp_inj (v2.symm.trans f3) (by omega) (by omega)
      refine Or.inr (Or.inr (Or.inr (Or.inl ⟨Or.inl ⟨f1, g1⟩, x, y, by omega, by omega, f2, f3, ?_, ?_⟩)))
      · rw [dd_is h0 hl w.1 ha ha']; exact g2
      · rw [dd_is h0 hl w.2 hb hb']; exact g3
    | sub a b =>
      obtain ⟨x, y, ha, hb, -⟩ := pr_sub.mp p1
      obtain ⟨x', y', ha', hb', -⟩ := pr_add.mp p2
      have e1 : (ee L (.sub a b)) = (5, nI x, nI y) := by
        show ((5, nI (mk a L).1, nI (mk b L).1) : En) = _
        rw [show mk a L = (x, L) from ha, show mk b L = (y, L) from hb]
      have e2 : (ee L (du (.sub a b))) = (4, nI x', nI y') := by
        show ((4, nI (mk (du a) L).1, nI (mk (du b) L).1) : En) = _
        rw [show mk (du a) L = (x', L) from ha', show mk (du b) L = (y', L) from hb']
      rw [e1] at f1 f2 f3
      rw [e2] at g1 g2 g3
      obtain ⟨⟨u, u1, u2⟩, ⟨v, v1, v2⟩⟩ := hof.1 (Or.inr f1)
      have xl := pr_lt w.1 h0 ha
      have yl := pr_lt w.2 h0 hb
      have eu : u = x := sp_inj (u2.symm.trans f2) (by omega) (by omega)
      have ev : v = y := sp_inj (v2.symm.trans f3) (by omega) (by omega)
      refine Or.inr (Or.inr (Or.inr (Or.inl ⟨Or.inr ⟨f1, g1⟩, x, y, by omega, by omega, f2, f3, ?_, ?_⟩)))
      · rw [dd_is h0 hl w.1 ha ha']; exact g2
      · rw [dd_is h0 hl w.2 hb hb']; exact g3
    | neg _ => exact w.elim
    | mulL k a =>
      obtain ⟨x, ha, -⟩ := pr_mulL.mp p1
      obtain ⟨x', ha', -⟩ := pr_mulR.mp p2
      have e1 : (ee L (.mulL k a)) = (6, nI x, -1) := by
        show ((6, nI (mk a L).1, -1) : En) = _
        rw [show mk a L = (x, L) from ha]
      have e2 : (ee L (du (.mulL k a))) = (7, nI x', -1) := by
        show ((7, nI (mk (du a) L).1, -1) : En) = _
        rw [show mk (du a) L = (x', L) from ha']
      rw [e1] at f1 f2 f3
      rw [e2] at g1 g2 g3
      obtain ⟨u, u1, u2⟩ := hof.2 (Or.inl f1)
      have xl := pr_lt w.2 h0 ha
      have eu : u = x := sp_inj (u2.symm.trans f2) (by omega) (by omega)
      refine Or.inr (Or.inr (Or.inr (Or.inr ⟨Or.inl ⟨f1, g1⟩, f3, g3, x, by omega, f2, ?_⟩)))
      rw [dd_is h0 hl w.2 ha ha']; exact g2
    | mulR a k =>
      obtain ⟨x, ha, -⟩ := pr_mulR.mp p1
      obtain ⟨x', ha', -⟩ := pr_mulL.mp p2
      have e1 : (ee L (.mulR a k)) = (7, nI x, -1) := by
        show ((7, nI (mk a L).1, -1) : En) = _
        rw [show mk a L = (x, L) from ha]
      have e2 : (ee L (du (.mulR a k))) = (6, nI x', -1) := by
        show ((6, nI (mk (du a) L).1, -1) : En) = _
        rw [show mk (du a) L = (x', L) from ha']
      rw [e1] at f1 f2 f3
      rw [e2] at g1 g2 g3
      obtain ⟨u, u1, u2⟩ := hof.2 (Or.inr f1)
      have xl := pr_lt w.2 h0 ha
      have eu : u = x := sp_inj (u2.symm.trans f2) (by omega) (by omega)
      refine Or.inr (Or.inr (Or.inr (Or.inr ⟨Or.inr ⟨f1, g1⟩, f3, g3, x, by omega, f2, ?_⟩)))
      rw [dd_is h0 hl w.2 ha ha']; exact g2
section PAIR
variable {N : Nat} {z : Nat → Nat} {W : List Tr} {L : List En}
/-- the table tells what denies what, as far as the nodes below i and the first n go -/
theorem pair_loop (h0 : ok0 L) (hl3 : L.length ≤ 300) (hw : ∀ w ∈ W, wf w ∧ po w = true) (h150 : W.length ≤ 150) : ∀ (fuel i : Nat) (S : mq_St), i ≤ W.length → W.length - i < fuel → S.1 3 = nI W.length → S.1 2 = nI L.length → nmb (S.2.1 11) W L →
    ∃ S', zf_X2_pairAll_2 N z fuel (nI i) S = some ((), S') ∧ (∀ f, f < L.length → S.2.1 7 f = nI (dd L f) → S'.2.1 7 f = nI (dd L f)) ∧ (∀ j f g, i ≤ j / 2 → j / 2 < W.length → S.2.1 11 j = nI f → f < L.length → S.2.1 11 (fl j) = nI g → g < L.length → S'.2.1 7 f = nI (dd L f)) ∧ ag [] [7] [] S S' := by
  intro fuel
  induction fuel with
  | zero => intro i S _ h; omega
  | succ fuel ih =>
    intro i S hi hf h3 h2 hn
    show ∃ S', zf_X2_pairAll_2b N z (fun v1 S => zf_X2_pairAll_2 N z fuel v1 S) (nI i) S = some ((), S') ∧ _
    unfold zf_X2_pairAll_2b
    rw [h3]
    by_cases e : i = W.length
    · subst e
      rw [if_pos (nI_le (Nat.le_refl _) (by omega))]
      exact ⟨S, rfl, fun _ _ q => q, fun j f g h1 h2 => by omega, ag_rf⟩
    · have p2 : (2 : Int32) * nI i = nI (2 * i) := pk_mul 2 i
      obtain ⟨u, hu⟩ : ∃ u, W[i]? = some u := ⟨W[i]'(by omega), List.getElem?_eq_getElem (by omega)⟩
      have m0 : mt W (2 * i) u := by unfold mt; rw [if_pos (by omega), show 2 * i / 2 = i by omega]; exact hu
      have ef : fl (2 * i) = 2 * i + 1 := by unfold fl; rw [if_pos (by omega)]
      have ef1 : fl (2 * i + 1) = 2 * i := by unfold fl; rw [if_neg (by omega)]; omega
      have m1' : mt W (2 * i + 1) (du u) := by have := mt_fl m0; rw [ef] at this; exact this
      have wu := (hw u (List.mem_of_getElem? hu)).1
      rw [if_neg (nI_ge (a := i) (b := W.length) (by omega) (by omega)), p2, nI_1, mq_ck_of (vp_in_nI (by omega) (by omega)), mq_ck_of (vp_in_nI (by omega) (by omega)), nI_clamp (by omega), nI_clamp (by omega)]
      -- the pair
      have hpair : ∃ S1, zf_X7_pair N z (S.2.1 11 (2 * i)) (S.2.1 11 (2 * i + 1)) S = some ((), S1) ∧ (∀ f, f < L.length → S.2.1 7 f = nI (dd L f) → S1.2.1 7 f = nI (dd L f)) ∧ (∀ f g, S.2.1 11 (2 * i) = nI f → f < L.length → S.2.1 11 (2 * i + 1) = nI g → g < L.length → S1.2.1 7 f = nI (dd L f) ∧ S1.2.1 7 g = nI (dd L g)) ∧ ag [] [7] [] S S1 := by
        unfold zf_X7_pair
        rw [ck_has, ck_has, h2]
        have no1 : ∀ v : Int32, v = -1 → (v < 0 ∨ nI L.length ≤ v) := fun v q => Or.inl (by rw [q]; decide)
        rcases hn _ _ m0 with q0 | ⟨f, q0, pf⟩
        · rw [if_pos (no1 _ q0), mq_cp_s, if_pos rfl]
          refine ⟨S, rfl, fun _ _ q => q, fun f g e1 hf' => ?_, ag_rf⟩
          rw [q0] at e1
          exact absurd e1.symm (nI_nm1 (by omega))
        · have fl' := pr_lt wu h0 pf
          have hnf : ¬ (nI f < 0 ∨ nI L.length ≤ nI f) := by
            rintro (q | q)
            · exact nI_pos (by omega) q
            · exact nI_ge fl' (by omega) q
          rw [q0, if_neg hnf, mq_cp_s, if_neg (by decide)]
          rcases hn _ _ m1' with q1 | ⟨g, q1, pg⟩
          · rw [if_pos (no1 _ q1), mq_cp_s, if_pos rfl]
            refine ⟨S, rfl, fun _ _ q => q, fun f' g' _ _ e1 hg' => ?_, ag_rf⟩
            rw [q1] at e1
            exact absurd e1.symm (nI_nm1 (by omega))
          · have gl := pr_lt (wf_du u wu) h0 pg
            have hng : ¬ (nI g < 0 ∨ nI L.length ≤ nI g) := by
              rintro (q | q)
              · exact nI_pos (by omega) q
              · exact nI_ge gl (by omega) q
            have d1 := dd_is h0 (by omega) wu pf pg
            have d2 := dd_is h0 (by omega) (wf_du u wu) pg (by rw [du_du]; exact pf)
            rw [q1, if_neg hng, mq_cp_s, if_neg (by decide), mq_ck_of (vp_in_nI (by omega) (by omega)), nI_clamp (by omega), nS_e, mq_ck_of (vp_in_nI (by omega) (by omega)), nI_clamp (by omega), nS_e]
            have val : ∀ x, (upd (upd (S.2.1 7) f (nI g)) g (nI f)) x = if x = g then nI (dd L g) else if x = f then nI (dd L f) else S.2.1 7 x := fun x => by
              unfold upd
              rw [d1, d2]
            refine ⟨mq_sa (mq_sa S 7 (upd (S.2.1 7) f (nI g))) 7 (upd (upd (S.2.1 7) f (nI g)) g (nI f)), rfl, fun x hx q => ?_, fun f' g' e1 hf' e2 hg' => ?_, ag_tr (ag_sa (by decide)) (ag_sa (by decide))⟩
            · show (upd (upd (S.2.1 7) f (nI g)) g (nI f)) x = _
              rw [val]
              by_cases a : x = g
              · rw [if_pos a, a]
              · rw [if_neg a]
                by_cases b : x = f
                · rw [if_pos b, b]
                · rw [if_neg b]; exact q
            · have e1 : f' = f := (sp_inj e1 (by omega) (by omega)).symm
              have e2 : g' = g := (sp_inj e2 (by omega) (by omega)).symm
              subst e1 e2
              constructor
              · show (upd (upd (S.2.1 7) f' (nI g')) g' (nI f')) f' = _
                rw [val]
                by_cases a : f' = g'
                · rw [if_pos a, a]
                · rw [if_neg a, if_pos rfl]
              · show (upd (upd (S.2.1 7) f' (nI g')) g' (nI f')) g' = _
                rw [val, if_pos rfl]
      obtain ⟨S1, a1, a2, a3, a4⟩ := hpair
      have e11 : S1.2.1 11 = S.2.1 11 := a4.2.1 11 (by decide)
      obtain ⟨S2, b1, b2, b3, b4⟩ := ih (i + 1) S1 (by omega) (by omega) ((a4.1 3 (by decide)).trans h3) ((a4.1 2 (by decide)).trans h2) (by rw [e11]; exact hn)
      refine ⟨S2, by rw [a1, mq_cl_s, nI_1, nI_e]; exact b1, fun f hf' q => b2 f hf' (a2 f hf' q), fun j f g h1 h2' e1 hf' e2 hg' => ?_, ag_tr a4 b4⟩
      by_cases q : i + 1 ≤ j / 2
      · exact b3 j f g q h2' (by rw [e11]; exact e1) hf' (by rw [e11]; exact e2) hg'
      · have hj : j = 2 * i ∨ j = 2 * i + 1 := by omega
        rcases hj with rfl | rfl
        · rw [ef] at e2
          exact b2 f hf' (a3 f g e1 hf' e2 hg').1
        · rw [ef1] at e2
          exact b2 f hf' (a3 g f e2 hg' e1 hf').2
end PAIR
end
/-! 95.fill3 -/
section
/-! fill: YES and NO of what is drafted. -/
theorem tbC_c {S S' : mq_St} {L : List En} (h : tbC S L) (e2 : S'.1 2 = S.1 2) (e4 : S'.2.1 4 = S.2.1 4) (e5 : S'.2.1 5 = S.2.1 5) (e6 : S'.2.1 6 = S.2.1 6) (e0 : S'.2.2 0 = S.2.2 0) : tbC S' L := by
  unfold tbC
  rw [e2, e4, e5, e6, e0]
  exact h
theorem us_pr {L : List En} {t w : Tr} {k k' : Nat} (wt : wf t) (h : pr t L k) (h' : pr (du t) L k') (hu : us w t) : (∃ j, pr w L j) ∧ ∃ j, pr (du w) L j := by
  rcases hu with hu | hu
  · exact ⟨pr_sb wt h w hu, pr_sb (wf_du t wt) h' (du w) (sb_dd.mpr hu)⟩
  · refine ⟨?_, pr_sb wt h (du w) hu⟩
    have := pr_sb (wf_du t wt) h' (du (du w)) (sb_dd.mpr hu)
    rw [du_du] at this
    exact this
/-- too many nodes: too many FORMULAS -/
theorem over_many {L : List En} {t : Tr} {W : List Tr} (h0 : ok0 L) (wt : wf t) (hn : W.Nodup) (hp : ∀ w ∈ W, wf w ∧ po w = true) (hu : ∀ w ∈ W, w = .num 0 ∨ us w t) (h151 : 150 < W.length) : 300 < (mk (du t) (mk t L).2).2.length := by
  by_cases hl : (mk (du t) (mk t L).2).2.length < 2147483648
  · have k0 : ok0 (mk (du t) (mk t L).2).2 := mk_ok0 (mk_ok0 h0)
    obtain ⟨X, hX⟩ := mk_ext (du t) (mk t L).2
    have p1 : pr t (mk (du t) (mk t L).2).2 (mk t L).1 := by rw [hX]; exact pr_mono (pr_mk t L) X
    have p2 := pr_mk (du t) (mk t L).2
    have := many k0 hl hn (fun w hw => by
      refine ⟨(hp w hw).2, (hp w hw).1, ?_⟩
      rcases hu w hw with e | e
      · rw [e]
        exact ⟨⟨_, pr_num.mpr rfl⟩, ⟨_, pr_num.mpr rfl⟩⟩
      · exact us_pr wt p1 p2 e)
    omega
  · omega
theorem ck_fill {N : Nat} {z : Nat → Nat} {S : mq_St} {W : List Tr} {L : List En} {v : Int32} {t : Tr} {s : Nat} (hN : 1000 ≤ N) (hs : s < 8) (hd : dft S W) (hv : RM W v t) (wt : wf t) (hu : ∀ w ∈ W, w = .num 0 ∨ us w t) (hL : tbC S L) (hg : gtb L) (hde : ∀ f, f < L.length → S.2.1 7 f = nI (dd L f)) :
    ((mk (du t) (mk t L).2).2.length ≤ 300 → ∃ S', zf_X10_fill N z (nI s) v S = some (1, S') ∧ tbC S' (mk (du t) (mk t L).2).2 ∧ gtb (mk (du t) (mk t L).2).2 ∧ (∀ f, f < (mk (du t) (mk t L).2).2.length → S'.2.1 7 f = nI (dd (mk (du t) (mk t L).2).2 f)) ∧ S'.2.1 0 = upd (S.2.1 0) s (nI (mk t L).1) ∧ S'.2.1 1 = upd (S.2.1 1) s (nI (mk (du t) (mk t L).2).1) ∧ ag [2] [0, 1, 4, 5, 6, 7, 11, 12] [0] S S') ∧
    (300 < (mk (du t) (mk t L).2).2.length → ∃ S', zf_X10_fill N z (nI s) v S = some (0, S') ∧ tbC S' L ∧ (∀ f, f < L.length → S'.2.1 7 f = nI (dd L f)) ∧ ag [2] [4, 5, 6, 7, 11, 12] [0] S S') := by
  obtain ⟨h0, hl3, hor, htr⟩ := hg
  obtain ⟨d3, d4, d151, dW0, dnd, dpo, dent, dnum⟩ := hd
  have fail : ∀ (S1 : mq_St) (X : List En) (x : Int32), tbC S1 (L ++ X) → (∀ f, f < L.length → S1.2.1 7 f = S.2.1 7 f) → ag [2] [4, 5, 6, 7, 11, 12] [0] S S1 → ∃ S', zf_X10_fill_53 N z (nI s) (nI L.length) x (-1) S1 = some (0, S') ∧ tbC S' L ∧ (∀ f, f < L.length → S'.2.1 7 f = nI (dd L f)) ∧ ag [2] [4, 5, 6, 7, 11, 12] [0] S S' := by
    intro S1 X x hT hden g1
    obtain ⟨S', a1, a2, a3⟩ := ck_dropTo (N := N) (z := z) hN hT
    refine ⟨S', ?_, a2, fun f hf => ?_, ag_tr g1 (ag_mono a3 (by decide) (by decide) (by decide))⟩
    · unfold zf_X10_fill_53
      rw [nI_e, if_pos rfl, a1, mq_cl_s, mq_cz_0]
    · rw [a3.2.1 7 (by decide), hden f hf, hde f hf]
  unfold zf_X10_fill
  rw [show zf_X7_size N z S = some (S.1 2) from rfl, mq_cp_s, hL.1, nI_e]
  have eov : zf_X2_isOver N z S = some (S.1 4) := by
    unfold zf_X2_isOver
    rw [d4]
    by_cases q : W.length ≤ 150
    · rw [if_pos q, mq_cz_0]
    · rw [if_neg q, mq_cz_1]
  rw [eov, mq_cp_s, d4]
  by_cases hov : W.length ≤ 150
  · rw [if_pos hov, if_pos rfl]
    obtain ⟨m, rfl, m400, hm⟩ := hv
    have hm := hm hov
    have hml := mt_lt hm
    have emin : min W.length 150 = W.length := by omega
    rw [emin] at d3 dnum
    have hdf : dfb S W := ⟨d3, hov, dnd, dpo, fun i u hu => dent i u (by have := (List.getElem?_eq_some_iff.mp hu).1; omega) hu⟩
    have hall : ∀ j u, mt W j u → S.2.1 11 j = -1 := fun j u hj => dnum j (by have := mt_lt hj; omega)
    obtain ⟨A, B⟩ := ck_build (N := N) (z := z) hN hm hL h0 hdf (fun j u hj => Or.inl (hall j u hj)) (fun j u hj q => absurd (hall j u hj) q) (hall m t hm)
    by_cases q1 : (mk t L).2.length ≤ 300
    · obtain ⟨S1, a1, a2, a3, a3c, a4, a5, a6, a7, a8, a9⟩ := A q1
      obtain ⟨X1, hX1⟩ := mk_ext t L
      have k1 : ok0 (mk t L).2 := mk_ok0 h0
      have hlt1 := pr_lt wt k1 (pr_mk t L)
      have hn1 : ¬ nI (mk t L).1 = -1 := nI_nm1 (by omega)
      have hfm := mt_fl hm
      have hfne : fl m ≠ m := by unfold fl; split <;> omega
      have hdf1 := dfb_g hdf a9
      obtain ⟨A2, B2⟩ := ck_build (N := N) (z := z) (S := S1) hN hfm a2 k1 hdf1 a3 a3c (by rw [a6 (fl m) (by rw [fl_half]; exact Nat.le_refl _) hfne]; exact hall _ _ hfm)
      rw [a1, mq_cl_s]
      unfold zf_X10_fill_30 zf_X2_deny
      rw [nI_e, if_neg hn1, mq_cp_s, xor_1 m m400]
      refine ⟨fun q2 => ?_, fun q2 => ?_⟩
      · obtain ⟨S2, b1, b2, b3, b3c, b4, b5, b6, b7, b8, b9⟩ := A2 q2
        have g2 := ag_tr a9 b9
        obtain ⟨X2, hX2⟩ := mk_ext (du t) (mk t L).2
        have k2 : ok0 (mk (du t) (mk t L).2).2 := mk_ok0 k1
        have hlt2 := pr_lt (wf_du t wt) k2 (pr_mk (du t) (mk t L).2)
        have hn2 : ¬ nI (mk (du t) (mk t L).2).1 = -1 := nI_nm1 (by omega)
        have D2m : S2.2.1 11 m = nI (mk t L).1 := (b5 m (by rw [a4]; exact hn1)).trans a4
        have p1 : pr t (mk (du t) (mk t L).2).2 (mk t L).1 := by rw [hX2]; exact pr_mono (pr_mk t L) X2
        have p2 := pr_mk (du t) (mk t L).2
        -- all marks of nodes that are used are numbered
        have hnumd : ∀ j u, mt W j u → us u t → ¬ S2.2.1 11 j = -1 := by
          intro j u hj hus
          rcases hus with q | q
          · exact b3c m t hm (by rw [D2m]; exact hn1) j u hj q
          · refine b3c (fl m) (du t) hfm (by rw [b4]; exact hn2) j u hj ?_
            rw [← du_du u]
            exact sb_dd.mpr q
        have husd : ∀ j u, mt W j u → (u = .num 0 ∨ u = .num 1) ∨ us u t := by
          intro j u hj
          have := hu _ (List.mem_of_getElem? hj)
          by_cases e : j % 2 = 0
          · rw [if_pos e] at this
            rcases this with q | q
            · exact Or.inl (Or.inl q)
            · exact Or.inr q
          · rw [if_neg e] at this
            rcases this with q | q
            · refine Or.inl (Or.inr ?_)
              rw [← du_du u, q]
              rfl
            · refine Or.inr ?_
              have := us_dl q
              rw [du_du] at this
              exact this
        have hnew : ∀ f, L.length ≤ f → f < (mk (du t) (mk t L).2).2.length → ∃ j u, mt W j u ∧ S2.2.1 11 j = nI f ∧ pr u (mk (du t) (mk t L).2).2 f ∧ us u t := by
          intro f hf1 hf2
          have hj : ∃ j, j < 2 * W.length ∧ S2.2.1 11 j = nI f := by
            by_cases q : f < (mk t L).2.length
            · obtain ⟨j, j1, j2⟩ := a7 f hf1 q
              exact ⟨j, j1, (b5 j (by rw [j2]; exact nI_nm1 (by omega))).trans j2⟩
            · exact b7 f (by omega) hf2
          obtain ⟨j, j1, j2⟩ := hj
          obtain ⟨w, hw⟩ : ∃ w, W[j / 2]? = some w := ⟨W[j / 2]'(by omega), List.getElem?_eq_getElem (by omega)⟩
          have hmt : ∃ u, mt W j u := by
            by_cases e : j % 2 = 0
            · exact ⟨w, by unfold mt; rw [if_pos e]; exact hw⟩
            · exact ⟨du w, by unfold mt; rw [if_neg e, du_du]; exact hw⟩
          obtain ⟨u, hmu⟩ := hmt
          rcases b3 j u hmu with e | ⟨k, e, hpr⟩
          · rw [e] at j2; exact absurd j2.symm (nI_nm1 (by omega))
          · have hkl := pr_lt (mt_wf dpo hmu) k2 hpr
            have ek : k = f := sp_inj (e.symm.trans j2) (by omega) (by omega)
            rw [ek] at hpr
            refine ⟨j, u, hmu, j2, hpr, ?_⟩
            rcases husd j u hmu with (q | q) | q
            · rw [q] at hpr
              have : f = 0 := pr_num.mp hpr
              have := (List.getElem?_eq_some_iff.mp h0.2).1
              omega
            · rw [q] at hpr
              have : f = 1 := pr_num.mp hpr
              have := (List.getElem?_eq_some_iff.mp h0.2).1
              omega
            · exact q
        have hgt2 : gtb (mk (du t) (mk t L).2).2 := by
          refine ⟨k2, q2, mk_ord (wf_du t wt) k1 (mk_ord wt h0 hor), fun f hf => ?_⟩
          by_cases q : f < L.length
          · obtain ⟨s', w', p', g', pg'⟩ := htr f q
            rw [hX2, hX1, List.append_assoc]
            exact ⟨s', w', pr_mono p' _, g', pr_mono pg' _⟩
          · obtain ⟨j, u, hmu, -, hpr, hus⟩ := hnew f (by omega) hf
            exact ⟨u, mt_wf dpo hmu, hpr, (us_pr wt p1 p2 hus).2⟩
        have hdold : ∀ f, f < L.length → dd (mk (du t) (mk t L).2).2 f = dd L f := by
          intro f hf
          obtain ⟨s', w', p', g', pg'⟩ := htr f hf
          rw [dd_is h0 (by omega) w' p' pg']
          refine dd_is k2 (by omega) w' ?_ ?_
          · rw [hX2, hX1, List.append_assoc]; exact pr_mono p' _
          · rw [hX2, hX1, List.append_assoc]; exact pr_mono pg' _
        have hdf2 := dfb_g hdf g2
        obtain ⟨S3, c1, c2, c3, c4⟩ := pair_loop (N := N) (z := z) k2 q2 dpo hov N 0 S2 (by omega) (by omega) hdf2.1 b2.1 b3
        have e8 : vp_in (nI s) 8 := vp_in_nI hs (by omega)
        have ec : (nI s).toNatClampNeg = s := nI_clamp (by omega)
        refine ⟨mq_sa (mq_sa S3 0 (upd (S3.2.1 0) s (nI (mk t L).1))) 1 (upd (S3.2.1 1) s (nI (mk (du t) (mk t L).2).1)), ?_, ?_, hgt2, ?_, ?_, ?_, ?_⟩
        · rw [b1, mq_cl_s]
          unfold zf_X10_fill_53 zf_X2_pairAll
          have c1' : zf_X2_pairAll_2 N z N 0 S2 = some ((), S3) := c1
          rw [nI_e, if_neg hn2, nI_e, c1', mq_cl_s, mq_ck_of e8, nS_e, mq_ck_of e8, nS_e, mq_cz_1, ec]
          rfl
        · exact tbC_c b2 (c4.1 2 (by decide)) (c4.2.1 4 (by decide)) (c4.2.1 5 (by decide)) (c4.2.1 6 (by decide)) (c4.2.2 0 (by decide))
        · intro f hf
          show S3.2.1 7 f = _
          by_cases q : f < L.length
          · apply c2 f hf
            rw [b8 f (by rw [hX1, List.length_append]; omega), a8 f q, hde f q, hdold f q]
          · obtain ⟨j, u, hmu, j2, hpr, hus⟩ := hnew f (by omega) hf
            have hmf := mt_fl hmu
            have hnd : ¬ S2.2.1 11 (fl j) = -1 := hnumd (fl j) (du u) hmf (us_dl hus)
            rcases b3 _ _ hmf with e | ⟨g, e, hpg⟩
            · exact absurd e hnd
            · exact c3 j f g (by omega) (mt_lt hmu) j2 hf e (pr_lt (wf_du u (mt_wf dpo hmu)) k2 hpg)
        · show upd (S3.2.1 0) s _ = _
          rw [c4.2.1 0 (by decide), g2.2.1 0 (by decide)]
        · show upd (S3.2.1 1) s _ = _
          rw [c4.2.1 1 (by decide), g2.2.1 1 (by decide)]
        · refine ag_tr ?_ (ag_sa (by decide))
          refine ag_tr ?_ (ag_sa (by decide))
          exact ag_tr (ag_mono g2 (by decide) (by decide) (by decide)) (ag_mono c4 (by decide) (by decide) (by decide))
      · obtain ⟨S2, X, b1, b2, b3, b4⟩ := B2 q2
        rw [b1, mq_cl_s]
        exact fail S2 (X1 ++ X) _ (by rw [← List.append_assoc, ← hX1]; exact b2) (fun f hf => by rw [b3 f (by rw [hX1, List.length_append]; omega), a8 f hf]) (ag_tr a9 b4)
    · obtain ⟨S1, X, b1, b2, b3, b4⟩ := B (by omega)
      have hlong : 300 < (mk (du t) (mk t L).2).2.length := by have := mk_len (du t) (mk t L).2; omega
      rw [b1, mq_cl_s]
      unfold zf_X10_fill_30
      rw [nI_e, if_pos rfl]
      exact ⟨fun q2 => by omega, fun _ => fail S1 X (-1) b2 b3 b4⟩
  · rw [if_neg hov, if_neg (by decide)]
    have hlong := over_many (L := L) h0 wt dnd dpo hu (by omega)
    unfold zf_X10_fill_30
    rw [nI_e, if_pos rfl]
    exact ⟨fun q2 => by omega, fun _ => fail S [] (-1) (by rw [List.append_nil]; exact hL) (fun _ _ => rfl) ag_rf⟩
end
/-! 96.refn -/
section
/-! The reference's nodes as trees. -/
def entR (T : List Tr) (k a b : Int32) (t : Tr) : Prop :=
  (k = 0 ∧ t = .num 0) ∨ (k = 1 ∧ t = .num 1) ∨ (∃ l : Nat, l < 26 ∧ k = 2 ∧ a = nI l ∧ t = .var (2 * l)) ∨
  (∃ (x : Nat) (u : Tr), a = nI x ∧ T[x]? = some u ∧ ((k = 3 ∧ t = du u) ∨ (k = 8 ∧ t = .mulL 0 u) ∨ (k = 9 ∧ t = .mulR u 0))) ∨
  (∃ (x y : Nat) (u v : Tr), a = nI x ∧ b = nI y ∧ T[x]? = some u ∧ T[y]? = some v ∧ ((k = 4 ∧ t = .add u v) ∨ (k = 5 ∧ t = .sub u v) ∨ (k = 6 ∧ t = .sub (du u) v) ∨ (k = 7 ∧ t = .add (.sub (du u) v) (.sub u (du v)))))
/-- each node by those ahead of it -/
def ndR (S : mq_St) (T : List Tr) : Prop := S.1 7 = nI T.length ∧ T.length ≤ 3000 ∧ (∀ t ∈ T, wf t) ∧ (∀ x t, T[x]? = some t → entR (T.take x) (S.2.1 7 x) (S.2.1 8 x) (S.2.1 9 x) t) ∧ ∀ x, x < T.length → S.2.1 10 x = -1 ∧ S.2.1 11 x = -1
theorem ndR_c {S S' : mq_St} {T : List Tr} (h : ndR S T) (e7 : S'.1 7 = S.1 7) (a7 : S'.2.1 7 = S.2.1 7) (a8 : S'.2.1 8 = S.2.1 8) (a9 : S'.2.1 9 = S.2.1 9) (a10 : S'.2.1 10 = S.2.1 10) (a11 : S'.2.1 11 = S.2.1 11) : ndR S' T := by
  unfold ndR
  rw [e7, a7, a8, a9, a10, a11]
  exact h
def RV (T : List Tr) (v : Int32) (t : Tr) : Prop := ∃ x : Nat, v = nI x ∧ T[x]? = some t
theorem RV_app {T : List Tr} {v : Int32} {t : Tr} (h : RV T v t) (X : List Tr) : RV (T ++ X) v t := by
  obtain ⟨x, e, hx⟩ := h
  exact ⟨x, e, by rw [List.getElem?_append_left (List.getElem?_eq_some_iff.mp hx).1]; exact hx⟩
theorem RV_wf {S : mq_St} {T : List Tr} {v : Int32} {t : Tr} (h : ndR S T) (hv : RV T v t) : wf t := by
  obtain ⟨x, e, hx⟩ := hv
  exact h.2.2.1 t (List.mem_of_getElem? hx)
section RN
variable {N : Nat} {z : Nat → Nat} {S : mq_St} {T : List Tr}
theorem rn_node {k a b : Int32} {t : Tr} (h : ndR S T) (hl : T.length < 3000) (w : wf t) (he : entR T k a b t) : ∃ S', zf_X11_node N z k a b S = some (nI T.length, S') ∧ ndR S' (T ++ [t]) ∧ RV (T ++ [t]) (nI T.length) t ∧ ag [7] [7, 8, 9, 10, 11] [] S S' := by
  obtain ⟨h7, h3, hw, hent, hy⟩ := h
  have i1 : vp_in (nI T.length) 3000 := vp_in_nI hl (by omega)
  have c1 : (nI T.length).toNatClampNeg = T.length := nI_clamp (by omega)
  have hlen : (T ++ [t]).length = T.length + 1 := by rw [List.length_append]; rfl
  refine ⟨mq_si (mq_sa (mq_sa (mq_sa (mq_sa (mq_sa S 7 (upd (S.2.1 7) T.length k)) 8 (upd (S.2.1 8) T.length a)) 9 (upd (S.2.1 9) T.length b)) 10 (upd (S.2.1 10) T.length (-1))) 11 (upd (S.2.1 11) T.length (-1))) 7 (nI (T.length + 1)), ?_, ⟨?_, by omega, ?_, ?_, ?_⟩, ⟨T.length, rfl, ?_⟩, ?_⟩
  · unfold zf_X11_node
    simp only [nS_e, sa_1, h7, mq_ck_of i1, c1, nI_1, si_1, ↓reduceIte, nI_pred]
    rfl
  · show nI (T.length + 1) = _
    rw [hlen]
  · intro u hu
    rcases List.mem_append.mp hu with q | q
    · exact hw u q
    · rw [List.mem_singleton.mp q]; exact w
  · intro x u hu
    show entR ((T ++ [t]).take x) (upd (S.2.1 7) T.length k x) (upd (S.2.1 8) T.length a x) (upd (S.2.1 9) T.length b x) u
    by_cases e : x = T.length
    · rw [e, up_s, up_s, up_s, List.take_left]
      rw [e, List.getElem?_append_right (Nat.le_refl _), Nat.sub_self] at hu
      have : t = u := Option.some.inj hu
      rw [← this]
      exact he
    · have hx := (List.getElem?_eq_some_iff.mp hu).1
      rw [List.getElem?_append_left (by omega)] at hu
      rw [up_o e, up_o e, up_o e, List.take_append_of_le_length (by omega)]
      exact hent x u hu
  · intro x hx
    show upd (S.2.1 10) T.length (-1) x = -1 ∧ upd (S.2.1 11) T.length (-1) x = -1
    by_cases e : x = T.length
    · rw [e, up_s, up_s]; exact ⟨rfl, rfl⟩
    · rw [up_o e, up_o e]; exact hy x (by omega)
  · rw [List.getElem?_append_right (Nat.le_refl _), Nat.sub_self]; rfl
  · refine ag_tr ?_ (ag_si (by decide))
    refine ag_tr ?_ (ag_sa (by decide))
    refine ag_tr ?_ (ag_sa (by decide))
    refine ag_tr ?_ (ag_sa (by decide))
    refine ag_tr ?_ (ag_sa (by decide))
    exact ag_sa (by decide)
theorem rn_box {pl : Bool} {v : Int32} {t : Tr} (h : ndR S T) (h13 : S.1 13 = if pl = true then 1 else 0) (hl : T.length < 3000) (hv : RV T v t) : ∃ v' S' X, zf_X11_box N z v S = some (v', S') ∧ ndR S' (T ++ X) ∧ X.length ≤ 1 ∧ RV (T ++ X) v' (if pl = true then t else .mulL 0 t) ∧ ag [7] [7, 8, 9, 10, 11] [] S S' := by
  unfold zf_X11_box
  rw [h13]
  cases pl with
  | true =>
    rw [if_neg (by decide)]
    exact ⟨v, S, [], rfl, by rw [List.append_nil]; exact h, by decide, by rw [List.append_nil]; exact hv, ag_rf⟩
  | false =>
    rw [if_pos (by decide)]
    have w := RV_wf h hv
    obtain ⟨x, e, hx⟩ := hv
    obtain ⟨S', a1, a2, a3, a4⟩ := rn_node (N := N) (z := z) (k := 8) (a := v) (b := -1) (t := .mulL 0 t) h hl ⟨rfl, w⟩ (Or.inr (Or.inr (Or.inr (Or.inl ⟨x, t, e, hx, Or.inr (Or.inl ⟨rfl, rfl⟩)⟩))))
    exact ⟨_, S', [.mulL 0 t], by rw [a1, mq_cl_s], a2, Nat.le_refl _, a3, a4⟩
/-- what a sign of two makes of two values -/
theorem rn_comb {pl : Bool} {g : Nat} {v w : Int32} {x y : Tr} (h : ndR S T) (h13 : S.1 13 = if pl = true then 1 else 0) (hl : T.length + 5 < 3000) (hg : 4 ≤ g ∧ g ≤ 7) (hv : RV T v x) (hw : RV T w y) (k : Int32 → mq_St → Option (Unit × mq_St)) :
    ∃ v' S' X, (if nI g = 5 then mq_cl (zf_X11_node N z 6 v w S) (fun q S11 => mq_cl (zf_X11_box N z q S11) k) else if nI g = 6 then mq_cl (zf_X11_node N z 5 v w S) k else if nI g = 7 then mq_cl (zf_X11_node N z 4 v w S) k else if S.1 13 = 0 then mq_cl (zf_X11_node N z 6 v w S) (fun q26 S28 => mq_cl (zf_X11_box N z q26 S28) (fun q29 S31 => mq_cl (zf_X11_node N z 6 w v S31) (fun q32 S34 => mq_cl (zf_X11_box N z q32 S34) (fun q35 S37 => mq_cl (zf_X11_node N z 4 q29 q35 S37) k)))) else mq_cl (zf_X11_node N z 7 v w S) k) = k v' S' ∧ ndR S' (T ++ X) ∧ X.length ≤ 5 ∧ RV (T ++ X) v' (comb pl g x y) ∧ ag [7] [7, 8, 9, 10, 11] [] S S' := by
  have wx := RV_wf h hv
  have wy := RV_wf h hw
  obtain ⟨i, ev, hi⟩ := hv
  obtain ⟨j, ew, hj⟩ := hw
  have two : ∀ {kk : Int32} {t : Tr} (S1 : mq_St) (T1 : List Tr) (v w : Int32) (x y : Tr), ndR S1 T1 → T1.length < 3000 → wf t → RV T1 v x → RV T1 w y → ((kk = 4 ∧ t = .add x y) ∨ (kk = 5 ∧ t = .sub x y) ∨ (kk = 6 ∧ t = .sub (du x) y) ∨ (kk = 7 ∧ t = .add (.sub (du x) y) (.sub x (du y)))) → ∃ S', zf_X11_node N z kk v w S1 = some (nI T1.length, S') ∧ ndR S' (T1 ++ [t]) ∧ RV (T1 ++ [t]) (nI T1.length) t ∧ ag [7] [7, 8, 9, 10, 11] [] S1 S' := by
    intro kk t S1 T1 v w x y h1 hl1 wt ⟨i, ev, hi⟩ ⟨j, ew, hj⟩ hk
    exact rn_node h1 hl1 wt (Or.inr (Or.inr (Or.inr (Or.inr ⟨i, j, x, y, ev, ew, hi, hj, hk⟩))))
  have hg4 : g = 7 ∨ g = 6 ∨ g = 5 ∨ g = 4 := by omega
  rcases hg4 with rfl | rfl | rfl | rfl
  · obtain ⟨S', a1, a2, a3, a4⟩ := two (kk := 4) (t := .add x y) S T v w x y h (by omega) ⟨wx, wy⟩ ⟨i, ev, hi⟩ ⟨j, ew, hj⟩ (Or.inl ⟨rfl, rfl⟩)
    refine ⟨_, S', [.add x y], ?_, a2, (by show 1 ≤ 5; omega), a3, a4⟩
    rw [if_neg (by decide), if_neg (by decide), if_pos (by decide), a1, mq_cl_s]
  · obtain ⟨S', a1, a2, a3, a4⟩ := two (kk := 5) (t := .sub x y) S T v w x y h (by omega) ⟨wx, wy⟩ ⟨i, ev, hi⟩ ⟨j, ew, hj⟩ (Or.inr (Or.inl ⟨rfl, rfl⟩))
    refine ⟨_, S', [.sub x y], ?_, a2, (by show 1 ≤ 5; omega), a3, a4⟩
    rw [if_neg (by decide), if_pos (by decide), a1, mq_cl_s]
  · obtain ⟨S1, a1, a2, a3, a4⟩ := two (kk := 6) (t := .sub (du x) y) S T v w x y h (by omega) ⟨wf_du x wx, wy⟩ ⟨i, ev, hi⟩ ⟨j, ew, hj⟩ (Or.inr (Or.inr (Or.inl ⟨rfl, rfl⟩)))
    obtain ⟨v2, S2, X, b1, b2, b3, b4, b5⟩ := rn_box (N := N) (z := z) (pl := pl) a2 ((a4.1 13 (by decide)).trans h13) (by rw [List.length_append]; show T.length + 1 < 3000; omega) a3
    refine ⟨v2, S2, [.sub (du x) y] ++ X, ?_, by rw [← List.append_assoc]; exact b2, by rw [List.length_append]; show 1 + X.length ≤ 5; omega, by rw [← List.append_assoc]; exact b4, ag_tr a4 b5⟩
    rw [if_pos (by decide), a1, mq_cl_s, b1, mq_cl_s]
  · rw [if_neg (by decide), if_neg (by decide), if_neg (by decide), h13]
    cases pl with
    | true =>
      obtain ⟨S', a1, a2, a3, a4⟩ := two (kk := 7) (t := .add (.sub (du x) y) (.sub x (du y))) S T v w x y h (by omega) ⟨⟨wf_du x wx, wy⟩, wx, wf_du y wy⟩ ⟨i, ev, hi⟩ ⟨j, ew, hj⟩ (Or.inr (Or.inr (Or.inr ⟨rfl, rfl⟩)))
      refine ⟨_, S', [.add (.sub (du x) y) (.sub x (du y))], ?_, a2, (by show 1 ≤ 5; omega), a3, a4⟩
      rw [if_neg (by decide), a1, mq_cl_s]
    | false =>
      rw [if_pos (by decide)]
      have h13' : S.1 13 = 0 := h13
      obtain ⟨S1, a1, a2, a3, a4⟩ := two (kk := 6) (t := .sub (du x) y) S T v w x y h (by omega) ⟨wf_du x wx, wy⟩ ⟨i, ev, hi⟩ ⟨j, ew, hj⟩ (Or.inr (Or.inr (Or.inl ⟨rfl, rfl⟩)))
      have l1 : (T ++ [Int.Internal.Linear.Expr.sub (du x) y]).length = T.length + 1 := by rw [List.length_append]; rfl
      obtain ⟨v2, S2, X2, b1, b2, b3, b4, b5⟩ := rn_box (N := N) (z := z) (pl := false) a2 ((a4.1 13 (by decide)).trans h13') (by omega) a3
      have l2 : (T ++ [Int.Internal.Linear.Expr.sub (du x) y] ++ X2).length ≤ T.length + 2 := by rw [List.length_append]; omega
      obtain ⟨S3, c1, c2, c3, c4⟩ := two (kk := 6) (t := .sub (du y) x) S2 _ w v y x b2 (by omega) ⟨wf_du y wy, wx⟩ (RV_app (RV_app ⟨j, ew, hj⟩ _) _) (RV_app (RV_app ⟨i, ev, hi⟩ _) _) (Or.inr (Or.inr (Or.inl ⟨rfl, rfl⟩)))
      have l3 : (T ++ [Int.Internal.Linear.Expr.sub (du x) y] ++ X2 ++ [Int.Internal.Linear.Expr.sub (du y) x]).length ≤ T.length + 3 := by rw [List.length_append]; show _ + 1 ≤ _; omega
      obtain ⟨v4, S4, X4, d1, d2, d3, d4, d5⟩ := rn_box (N := N) (z := z) (pl := false) c2 ((c4.1 13 (by decide)).trans ((b5.1 13 (by decide)).trans ((a4.1 13 (by decide)).trans h13'))) (by omega) c3
      have l4 : (T ++ [Int.Internal.Linear.Expr.sub (du x) y] ++ X2 ++ [Int.Internal.Linear.Expr.sub (du y) x] ++ X4).length ≤ T.length + 4 := by rw [List.length_append]; omega
      obtain ⟨S5, e1, e2, e3, e4⟩ := two (kk := 4) (t := .add (.mulL 0 (.sub (du x) y)) (.mulL 0 (.sub (du y) x))) S4 _ v2 v4 (.mulL 0 (.sub (du x) y)) (.mulL 0 (.sub (du y) x)) d2 (by omega) ⟨⟨rfl, wf_du x wx, wy⟩, rfl, wf_du y wy, wx⟩ (RV_app (RV_app b4 _) _) d4 (Or.inl ⟨rfl, rfl⟩)
      refine ⟨nI (T ++ [Int.Internal.Linear.Expr.sub (du x) y] ++ X2 ++ [Int.Internal.Linear.Expr.sub (du y) x] ++ X4).length, S5, [.sub (du x) y] ++ X2 ++ [.sub (du y) x] ++ X4 ++ [.add (.mulL 0 (.sub (du x) y)) (.mulL 0 (.sub (du y) x))], ?_, ?_, ?_, ?_, ag_tr (ag_tr (ag_tr (ag_tr a4 b5) c4) d5) e4⟩
      · rw [a1, mq_cl_s, b1, mq_cl_s, c1, mq_cl_s, d1, mq_cl_s, e1, mq_cl_s]
      · simp only [← List.append_assoc]; exact e2
      · simp only [List.length_append]
        show 1 + X2.length + 1 + X4.length + 1 ≤ 5
        omega
      · simp only [← List.append_assoc]; exact e3
theorem rn_pref {pl : Bool} {g : Nat} {v : Int32} {x : Tr} (h : ndR S T) (h13 : S.1 13 = if pl = true then 1 else 0) (hl : T.length + 5 < 3000) (hg : 1 ≤ g ∧ g ≤ 3) (hv : RV T v x) (k : Int32 → mq_St → Option (Unit × mq_St)) :
    ∃ v' S' X, (if nI g = 1 then mq_cl (zf_X11_node N z 3 v (-1) S) (fun q S13 => mq_cl (zf_X11_box N z q S13) k) else if nI g = 2 then mq_cl (zf_X11_node N z 8 v (-1) S) k else mq_cl (zf_X11_node N z 9 v (-1) S) k) = k v' S' ∧ ndR S' (T ++ X) ∧ X.length ≤ 5 ∧ RV (T ++ X) v' (pref pl g x) ∧ ag [7] [7, 8, 9, 10, 11] [] S S' := by
  have wx := RV_wf h hv
  obtain ⟨i, ev, hi⟩ := hv
  have hg4 : g = 1 ∨ g = 2 ∨ g = 3 := by omega
  rcases hg4 with rfl | rfl | rfl
  · obtain ⟨S1, a1, a2, a3, a4⟩ := rn_node (N := N) (z := z) (k := 3) (a := v) (b := -1) (t := du x) h (by omega) (wf_du x wx) (Or.inr (Or.inr (Or.inr (Or.inl ⟨i, x, ev, hi, Or.inl ⟨rfl, rfl⟩⟩))))
    obtain ⟨v2, S2, X, b1, b2, b3, b4, b5⟩ := rn_box (N := N) (z := z) (pl := pl) a2 ((a4.1 13 (by decide)).trans h13) (by rw [List.length_append]; show T.length + 1 < 3000; omega) a3
    refine ⟨v2, S2, [du x] ++ X, ?_, by rw [← List.append_assoc]; exact b2, by rw [List.length_append]; show 1 + X.length ≤ 5; omega, by rw [← List.append_assoc]; exact b4, ag_tr a4 b5⟩
    rw [if_pos (by decide), a1, mq_cl_s, b1, mq_cl_s]
  · obtain ⟨S1, a1, a2, a3, a4⟩ := rn_node (N := N) (z := z) (k := 8) (a := v) (b := -1) (t := .mulL 0 x) h (by omega) ⟨rfl, wx⟩ (Or.inr (Or.inr (Or.inr (Or.inl ⟨i, x, ev, hi, Or.inr (Or.inl ⟨rfl, rfl⟩)⟩))))
    refine ⟨_, S1, [.mulL 0 x], ?_, a2, (by show 1 ≤ 5; omega), a3, a4⟩
    rw [if_neg (by decide), if_pos (by decide), a1, mq_cl_s]
  · obtain ⟨S1, a1, a2, a3, a4⟩ := rn_node (N := N) (z := z) (k := 9) (a := v) (b := -1) (t := .mulR x 0) h (by omega) ⟨rfl, wx⟩ (Or.inr (Or.inr (Or.inr (Or.inl ⟨i, x, ev, hi, Or.inr (Or.inr ⟨rfl, rfl⟩)⟩))))
    refine ⟨_, S1, [.mulR x 0], ?_, a2, (by show 1 ≤ 5; omega), a3, a4⟩
    rw [if_neg (by decide), if_neg (by decide), a1, mq_cl_s]
end RN
end
/-! 97.refp -/
section
/-! The reference's reader: blanks, joins, what stands ahead. -/
theorem si_id {S : mq_St} {k : Nat} {v : Int32} (h : S.1 k = v) : mq_si S k v = S := by
  unfold mq_si
  refine Prod.ext ?_ rfl
  funext j
  show (if j = k then v else S.1 j) = S.1 j
  by_cases e : j = k
  · rw [if_pos e, e, h]
  · rw [if_neg e]
/-- the reference's bytes -/
def tpR (S : mq_St) (B : Nat → Nat) (len : Nat) : Prop := len ≤ 400 ∧ ∀ i, i < len → S.2.1 0 i &&& 255 = nI (B i) ∧ B i < 256 ∧ ∀ v : Nat, v < 128 → (S.2.1 0 i = nI v ↔ B i = v)
def nx (B : Nat → Nat) (len : Nat) : Nat → Nat → Nat
  | 0, p => p
  | n + 1, p => if p < len ∧ (B p = 32 ∨ B p = 10) then nx B len n (p + 1) else p
section RP
variable {N : Nat} {z : Nat → Nat} {S : mq_St} {B : Nat → Nat} {len : Nat}
theorem rs_see : ∀ (n fuel p : Nat) (S : mq_St), len - p ≤ n → n < fuel → tpR S B len → S.1 9 = nI len → S.1 8 = nI p → p ≤ len → zf_X11_see_z N z fuel S = some (if nx B len n p < len then nI (B (nx B len n p)) else -1, mq_si S 8 (nI (nx B len n p))) := by
  intro n
  induction n with
  | zero =>
    intro fuel p S hn hf hB h9 h8 hp
    obtain ⟨fu, rfl⟩ : ∃ q, fuel = q + 1 := ⟨fuel - 1, by omega⟩
    have e : p = len := by omega
    have hl := hB.1
    show zf_X11_see_zb N z _ S = _
    unfold zf_X11_see_zb zf_X11_see_52
    rw [h9, h8, if_pos (nI_le (by omega) (by omega)), if_pos (nI_le (by omega) (by omega))]
    show _ = some (if p < len then _ else _, mq_si S 8 (nI p))
    rw [if_neg (by omega), si_id h8]
  | succ n ih =>
    intro fuel p S hn hf hB h9 h8 hp
    obtain ⟨fu, rfl⟩ : ∃ q, fuel = q + 1 := ⟨fuel - 1, by omega⟩
    have hl := hB.1
    show zf_X11_see_zb N z (fun S => zf_X11_see_z N z fu S) S = _
    unfold zf_X11_see_zb zf_X11_see_52 zf_X11_see_39
    rw [h9, h8]
    by_cases e : len ≤ p
    · have ex : nx B len (n + 1) p = p := by rw [nx, if_neg (fun q => by omega)]
      rw [if_pos (nI_le (by omega) (by omega)), if_pos (nI_le (by omega) (by omega)), ex, if_neg (by omega), si_id h8]
    · obtain ⟨b1, b2, b3⟩ := hB.2 p (by omega)
      have i1 : vp_in (nI p) 4000 := vp_in_nI (by omega) (by omega)
      have c1 : (nI p).toNatClampNeg = p := nI_clamp (by omega)
      have q32 : (S.2.1 0 p = (32 : Int32)) ↔ B p = 32 := b3 32 (by omega)
      have q10 : (S.2.1 0 p = (10 : Int32)) ↔ B p = 10 := b3 10 (by omega)
      rw [if_neg (nI_ge (by omega) (by omega)), if_neg (nI_ge (by omega) (by omega))]
      simp only [mq_ck_of i1, c1, q32, q10, nS_e, nI_1, b1]
      by_cases hb : B p = 32 ∨ B p = 10
      · have ex : nx B len (n + 1) p = nx B len n (p + 1) := by rw [nx, if_pos ⟨by omega, hb⟩]
        have go := ih fu (p + 1) (mq_si S 8 (nI (p + 1))) (by omega) (by omega) hB h9 rfl (by omega)
        rw [si_si] at go
        rw [ex]
        rcases hb with q | q
        · rw [if_pos q]; exact go
        · by_cases q' : B p = 32
          · rw [if_pos q']; exact go
          · rw [if_neg q', if_pos q]; exact go
      · have ex : nx B len (n + 1) p = p := by rw [nx, if_neg (fun q => hb q.2)]
        rw [if_neg (fun q => hb (Or.inl q)), if_neg (fun q => hb (Or.inr q)), ex, if_pos (by omega), si_id h8]
theorem rs_blank {p : Nat} (hN : 500 ≤ N) (hB : tpR S B len) (h9 : S.1 9 = nI len) (h8 : S.1 8 = nI p) (hp : p < len) (hb : B p = 32 ∨ B p = 10) : zf_X11_see N z S = zf_X11_see N z (mq_si S 8 (nI (p + 1))) := by
  have hl := hB.1
  have a := rs_see (N := N) (z := z) (len - p) N p S (by omega) (by omega) hB h9 h8 (by omega)
  have b := rs_see (N := N) (z := z) (len - (p + 1)) N (p + 1) (mq_si S 8 (nI (p + 1))) (by omega) (by omega) hB h9 rfl (by omega)
  rw [si_si] at b
  have ex : nx B len (len - p) p = nx B len (len - (p + 1)) (p + 1) := by
    have : len - p = (len - (p + 1)) + 1 := by omega
    rw [this, nx, if_pos ⟨hp, hb⟩]
  rw [ex] at a
  unfold zf_X11_see
  rw [a, b]
theorem rs_here {p : Nat} (hN : 500 ≤ N) (hB : tpR S B len) (h9 : S.1 9 = nI len) (h8 : S.1 8 = nI p) (hp : p < len) (hb : ¬ (B p = 32 ∨ B p = 10)) : zf_X11_see N z S = some (nI (B p), S) := by
  have hl := hB.1
  have a := rs_see (N := N) (z := z) (len - p) N p S (by omega) (by omega) hB h9 h8 (by omega)
  have ex : nx B len (len - p) p = p := by
    have : len - p = (len - (p + 1)) + 1 := by omega
    rw [this, nx, if_neg (fun q => hb q.2)]
  rw [ex, if_pos hp, si_id h8] at a
  exact a
theorem rs_end (hN : 500 ≤ N) (hB : tpR S B len) (h9 : S.1 9 = nI len) (h8 : S.1 8 = nI len) : zf_X11_see N z S = some (-1, S) := by
  have hl := hB.1
  have a := rs_see (N := N) (z := z) 0 N len S (by omega) (by omega) hB h9 h8 (by omega)
  have ex : nx B len 0 len = len := rfl
  rw [ex, if_neg (by omega), si_id h8] at a
  exact a
end RP
def onGR (arr : Nat → Int32) : List Nat → Prop
  | [] => True
  | g :: G => arr G.length = nI g ∧ onGR arr G
def onVR (T : List Tr) (arr : Nat → Int32) : List Tr → Prop
  | [] => True
  | t :: V => RV T (arr V.length) t ∧ onVR T arr V
theorem onGR_upd {arr : Nat → Int32} {k : Nat} {v : Int32} : ∀ {G : List Nat}, G.length ≤ k → onGR arr G → onGR (upd arr k v) G
  | [], _, _ => trivial
  | g :: G, hk, h => by
    have hk : G.length + 1 ≤ k := hk
    exact ⟨by rw [up_o (by omega)]; exact h.1, onGR_upd (by omega) h.2⟩
theorem onVR_upd {T : List Tr} {arr : Nat → Int32} {k : Nat} {v : Int32} : ∀ {V : List Tr}, V.length ≤ k → onVR T arr V → onVR T (upd arr k v) V
  | [], _, _ => trivial
  | g :: V, hk, h => by
    have hk : V.length + 1 ≤ k := hk
    exact ⟨by rw [up_o (by omega)]; exact h.1, onVR_upd (by omega) h.2⟩
theorem onVR_app {T : List Tr} (X : List Tr) {arr : Nat → Int32} : ∀ {V : List Tr}, onVR T arr V → onVR (T ++ X) arr V
  | [], _ => trivial
  | _ :: _, h => ⟨RV_app h.1 X, onVR_app X h.2⟩
def rdR (S : mq_St) (G : List Nat) (V : List Tr) (pl : Bool) (T : List Tr) : Prop :=
  S.1 15 = nI G.length ∧ onGR (S.2.1 13) G ∧ S.1 14 = nI V.length ∧ onVR T (S.2.1 12) V ∧ S.1 12 = nI (nop G) ∧ S.1 16 = nI (G.count 0) ∧ S.1 13 = (if pl = true then 1 else 0) ∧ ndR S T
section RJ
variable {N : Nat} {z : Nat → Nat} {pl : Bool}
theorem rj_one {S : mq_St} {g : Nat} {G : List Nat} {x y : Tr} {V T : List Tr} (h : rdR S (g :: G) (y :: x :: V) pl T) (hg : 4 ≤ g ∧ g ≤ 7) (hl : T.length + 5 < 3000) (hG : G.length < 400) (hV : V.length < 400) :
    ∃ S' X, zf_X11_joins N z S = some ((), S') ∧ rdR S' G (comb pl g x y :: V) pl (T ++ X) ∧ X.length ≤ 5 ∧ ag [7, 14, 15] [7, 8, 9, 10, 11, 12] [] S S' := by
  obtain ⟨c15, cG, c14, cV, c12, c16, c13, cn⟩ := h
  have c15 : S.1 15 = nI (G.length + 1) := c15
  have c14 : S.1 14 = nI (V.length + 1 + 1) := c14
  have iV : vp_in (nI V.length) 410 := vp_in_nI (by omega) (by omega)
  have iV1 : vp_in (nI (V.length + 1)) 410 := vp_in_nI (by omega) (by omega)
  have iG : vp_in (nI G.length) 410 := vp_in_nI (by omega) (by omega)
  have kV : (nI V.length).toNatClampNeg = V.length := nI_clamp (by omega)
  have kV1 : (nI (V.length + 1)).toNatClampNeg = V.length + 1 := nI_clamp (by omega)
  have kG : (nI G.length).toNatClampNeg = G.length := nI_clamp (by omega)
  have h162 : ∀ (v : Int32) (S1 : mq_St), S1.1 14 = nI (V.length + 1) → zf_X11_joins_162 N z v S1 = some ((), mq_sa S1 12 (upd (S1.2.1 12) V.length v)) := fun v S1 e => by
    unfold zf_X11_joins_162
    rw [e, nI_pred, mq_ck_of iV, kV, nS_e]
  obtain ⟨v', S1, X, a1, a2, a3, a4, a5⟩ := rn_comb (N := N) (z := z) (S := mq_si (mq_si S 15 (nI G.length)) 14 (nI (V.length + 1))) (pl := pl) (g := g) (v := S.2.1 12 V.length) (w := S.2.1 12 (V.length + 1)) (ndR_c cn rfl rfl rfl rfl rfl rfl) c13 hl hg cV.2.1 cV.1 (fun v S1 => zf_X11_joins_162 N z v S1)
  refine ⟨mq_sa S1 12 (upd (S1.2.1 12) V.length v'), X, ?_, ?_, a3, ?_⟩
  · have e14 : S1.1 14 = nI (V.length + 1) := a5.1 14 (by decide)
    rw [h162 v' S1 e14] at a1
    rw [← a1]
    unfold zf_X11_joins zf_X11_joins_161
    rw [nS_e, c15, nI_pred, nS_e, show (mq_si S 15 (nI G.length)).1 14 = nI (V.length + 1 + 1) from c14, nI_pred]
    rw [show (mq_si (mq_si S 15 (nI G.length)) 14 (nI (V.length + 1))).1 14 = nI (V.length + 1) from rfl, show (mq_si (mq_si S 15 (nI G.length)) 14 (nI (V.length + 1))).1 15 = nI G.length from rfl]
    simp only [nI_pred, mq_ck_of iV, mq_ck_of iV1, mq_ck_of iG, kV, kV1, kG, nI_e]
    rw [show (mq_si (mq_si S 15 (nI G.length)) 14 (nI (V.length + 1))).2.1 13 G.length = nI g from cG.1]
    rfl
  · have k13 : S1.2.1 13 = S.2.1 13 := a5.2.1 13 (by decide)
    have k12 : S1.2.1 12 = S.2.1 12 := a5.2.1 12 (by decide)
    refine ⟨a5.1 15 (by decide), by show onGR (S1.2.1 13) G; rw [k13]; exact cG.2, a5.1 14 (by decide), ⟨?_, ?_⟩, ?_, ?_, (a5.1 13 (by decide)).trans c13, ndR_c a2 rfl rfl rfl rfl rfl rfl⟩
    · show RV (T ++ X) (upd (S1.2.1 12) V.length v' V.length) _
      rw [up_s]; exact a4
    · show onVR (T ++ X) (upd (S1.2.1 12) V.length v') V
      rw [k12]
      exact onVR_upd (Nat.le_refl _) (onVR_app X cV.2.2)
    · show S1.1 12 = _
      rw [a5.1 12 (by decide)]
      show S.1 12 = _
      rw [c12, nop_c, if_neg (by omega)]; rfl
    · show S1.1 16 = _
      rw [a5.1 16 (by decide)]
      show S.1 16 = _
      rw [c16, cn0_c, if_neg (by omega)]; rfl
  · refine ag_tr ?_ (ag_sa (by decide))
    refine ag_tr ?_ (ag_mono a5 (by decide) (by decide) (by decide))
    exact ag_tr (ag_si (by decide)) (ag_si (by decide))
/-- all that stands ahead -/
theorem rj_ahead : ∀ (G : List Nat) (V : List Tr) (S : mq_St) (T : List Tr) (fuel : Nat), rdR S G V pl T → okG G → V.length = nbi G + 1 → G.length < fuel → G.length ≤ 400 → V.length ≤ 400 → T.length + 5 * G.length < 2990 →
    ∃ S' T', zf_X11_ahead_z N z fuel S = some ((), S') ∧ rdR S' (aheadA pl G V).1 (aheadA pl G V).2 pl T' ∧ T'.length + 5 * (aheadA pl G V).1.length ≤ T.length + 5 * G.length ∧ ag [7, 12, 15] [7, 8, 9, 10, 11, 12] [] S S' := by
  intro G
  induction G with
  | nil =>
    intro V S T fuel h _ _ hf _ _ _
    obtain ⟨fu, rfl⟩ : ∃ q, fuel = q + 1 := ⟨fuel - 1, by omega⟩
    have e : aheadA pl [] V = ([], V) := by unfold aheadA; rfl
    rw [e]
    refine ⟨S, T, ?_, h, Nat.le_refl _, ag_rf⟩
    show zf_X11_ahead_zb N z _ S = _
    unfold zf_X11_ahead_zb
    rw [h.1, if_pos (by show nI 0 ≤ 0; decide)]
  | cons g G ih =>
    intro V S T fuel h hG hV hf hGl hVl hT
    obtain ⟨fu, rfl⟩ : ∃ q, fuel = q + 1 := ⟨fuel - 1, by omega⟩
    have hf : G.length + 1 < fu + 1 := hf
    have hGl : G.length + 1 ≤ 400 := hGl
    have hT : T.length + 5 * (G.length + 1) < 2990 := hT
    have hall := h
    obtain ⟨c15, cG, c14, cV, c12, c16, c13, cn⟩ := h
    have c15 : S.1 15 = nI (G.length + 1) := c15
    have hg7 := hG.1
    have iG : vp_in (nI G.length) 410 := vp_in_nI (by omega) (by omega)
    have kG : (nI G.length).toNatClampNeg = G.length := nI_clamp (by omega)
    have hsh : zf_X11_ahead_z N z (fu + 1) S = zf_X11_ahead_zb N z (fun S => zf_X11_ahead_z N z fu S) S := rfl
    rw [hsh]
    unfold zf_X11_ahead_zb
    rw [c15, if_neg (nI_nle (by omega) (by omega)), nI_pred, mq_ck_of iG, kG, cG.1, rf_in]
    have hc : (nI g < (1 : Int32) ∨ (3 : Int32) < nI g) ↔ ¬ (1 ≤ g ∧ g ≤ 3) := by
      have q1 : nI g < (1 : Int32) ↔ g < 1 := nI_ltI (b := 1) (by omega) (by omega)
      have q3 : (3 : Int32) < nI g ↔ 3 < g := nI_ltI (a := 3) (by omega) (by omega)
      rw [q1, q3]; omega
    match V, hV, hVl, c14, cV, hall with
    | [], hV, _, _, _, _ => exact absurd hV (by show ¬ 0 = _; omega)
    | x :: V, hV, hVl, c14, cV, hall =>
      by_cases hg : 1 ≤ g ∧ g ≤ 3
      · have e : aheadA pl (g :: G) (x :: V) = aheadA pl G (pref pl g x :: V) := by rw [aheadA]; exact if_pos hg
        rw [e, if_neg (fun q => hc.mp q hg), mq_cp_s, if_neg (by decide)]
        rw [nbi_c, if_neg (by omega)] at hV
        rw [nop_c, if_pos (by omega)] at c12
        have hVl : V.length + 1 ≤ 400 := hVl
        have c14 : S.1 14 = nI (V.length + 1) := c14
        have iV : vp_in (nI V.length) 410 := vp_in_nI (by omega) (by omega)
        have kV : (nI V.length).toNatClampNeg = V.length := nI_clamp (by omega)
        rw [nS_e, nS_e, show (mq_si S 15 (nI G.length)).1 12 - 1 = nI (nop G) from by
          show S.1 12 - 1 = _
          rw [c12, nI_pred]]
        rw [show (mq_si (mq_si S 15 (nI G.length)) 12 (nI (nop G))).1 15 = nI G.length from rfl, mq_ck_of iG, kG, nI_e, show (mq_si (mq_si S 15 (nI G.length)) 12 (nI (nop G))).2.1 13 G.length = nI g from cG.1, show (mq_si (mq_si S 15 (nI G.length)) 12 (nI (nop G))).1 14 = nI (V.length + 1) from c14, nI_pred, mq_ck_of iV, kV, nI_e]
        obtain ⟨v', S1, X, a1, a2, a3, a4, a5⟩ := rn_pref (N := N) (z := z) (S := mq_si (mq_si S 15 (nI G.length)) 12 (nI (nop G))) (pl := pl) (g := g) (v := S.2.1 12 V.length) (ndR_c cn rfl rfl rfl rfl rfl rfl) c13 (by omega) hg cV.1 (fun v S1 => zf_X11_ahead_115 N z (fun S => zf_X11_ahead_z N z fu S) (nI V.length) v S1)
        have a1' : (if nI g = 1 then mq_cl (zf_X11_node N z 3 ((mq_si (mq_si S 15 (nI G.length)) 12 (nI (nop G))).2.1 12 V.length) (-1) (mq_si (mq_si S 15 (nI G.length)) 12 (nI (nop G)))) (fun q11v S13 => mq_cl (zf_X11_box N z q11v S13) (fun q14v S16 => zf_X11_ahead_115 N z (fun S => zf_X11_ahead_z N z fu S) (nI V.length) q14v S16)) else if nI g = 2 then zf_X11_ahead_110 N z (fun S => zf_X11_ahead_z N z fu S) ((mq_si (mq_si S 15 (nI G.length)) 12 (nI (nop G))).2.1 12 V.length) (nI V.length) 8 (mq_si (mq_si S 15 (nI G.length)) 12 (nI (nop G))) else zf_X11_ahead_110 N z (fun S => zf_X11_ahead_z N z fu S) ((mq_si (mq_si S 15 (nI G.length)) 12 (nI (nop G))).2.1 12 V.length) (nI V.length) 9 (mq_si (mq_si S 15 (nI G.length)) 12 (nI (nop G)))) = zf_X11_ahead_115 N z (fun S => zf_X11_ahead_z N z fu S) (nI V.length) v' S1 := a1
        rw [a1']
        unfold zf_X11_ahead_115
        rw [mq_ck_of iV, kV, nS_e]
        have k13 : S1.2.1 13 = S.2.1 13 := a5.2.1 13 (by decide)
        have k12 : S1.2.1 12 = S.2.1 12 := a5.2.1 12 (by decide)
        obtain ⟨S2, T2, b1, b2, b3, b4⟩ := ih (pref pl g x :: V) (mq_sa S1 12 (upd (S1.2.1 12) V.length v')) (T ++ X) fu ⟨a5.1 15 (by decide), by show onGR (S1.2.1 13) G; rw [k13]; exact cG.2, (a5.1 14 (by decide)).trans c14, ⟨by
          show RV (T ++ X) (upd (S1.2.1 12) V.length v' V.length) _
          rw [up_s]; exact a4, by
          show onVR (T ++ X) (upd (S1.2.1 12) V.length v') V
          rw [k12]
          exact onVR_upd (Nat.le_refl _) (onVR_app X cV.2)⟩, a5.1 12 (by decide), by
          show S1.1 16 = _
          rw [a5.1 16 (by decide)]
          show S.1 16 = _
          rw [c16, cn0_c, if_neg (by omega)]; rfl, (a5.1 13 (by decide)).trans c13, ndR_c a2 rfl rfl rfl rfl rfl rfl⟩ hG.2.2 hV (by omega) (by omega) (by show V.length + 1 ≤ 400; omega) (by rw [List.length_append]; omega)
        refine ⟨S2, T2, b1, b2, ?_, ?_⟩
        · rw [List.length_append] at b3
          show _ ≤ T.length + 5 * (G.length + 1)
          omega
        · refine ag_tr ?_ b4
          refine ag_tr ?_ (ag_sa (by decide))
          refine ag_tr ?_ (ag_mono a5 (by decide) (by decide) (by decide))
          exact ag_tr (ag_si (by decide)) (ag_si (by decide))
      · have e : aheadA pl (g :: G) (x :: V) = (g :: G, x :: V) := by rw [aheadA]; exact if_neg hg
        rw [e, if_pos (hc.mpr hg), mq_cp_s, if_pos rfl]
        exact ⟨S, T, rfl, hall, Nat.le_refl _, ag_rf⟩
/-- joins down to code c: k85 comes to k149 -/
theorem rj_all {k17 : Int32 → mq_St → Option (Int32 × mq_St)} {v1 v2 v3 : Int32} {c : Nat} (hc : 4 ≤ c ∧ c ≤ 8) (hv3 : ∀ g : Nat, 4 ≤ g → g ≤ 7 → (v3 < nI g ∨ (nI g = v3 ∧ ¬ v3 = 5) ↔ c ≤ g)) : ∀ (G : List Nat) (V : List Tr) (S : mq_St) (T : List Tr) (fuel : Nat), rdR S G V pl T → okG G → tp G → V.length = nbi G + 1 → G.length < fuel → G.length ≤ 400 → V.length ≤ 400 → T.length + 5 * G.length < 2990 →
    ∃ S' T', zf_X11_whole_85 N z k17 fuel v1 v2 v3 S = zf_X11_whole_149 N z k17 v1 v2 v3 S' ∧ rdR S' (joinA pl c G V).1 (joinA pl c G V).2 pl T' ∧ T'.length + 5 * (joinA pl c G V).1.length ≤ T.length + 5 * G.length ∧ ag [7, 14, 15] [7, 8, 9, 10, 11, 12] [] S S' := by
  intro G
  induction G with
  | nil =>
    intro V S T fuel h _ _ _ hf _ _ _
    obtain ⟨fu, rfl⟩ : ∃ q, fuel = q + 1 := ⟨fuel - 1, by omega⟩
    have e : joinA pl c [] V = ([], V) := by unfold joinA; rfl
    rw [e]
    refine ⟨S, T, ?_, h, Nat.le_refl _, ag_rf⟩
    show zf_X11_whole_85b N z k17 _ v1 v2 v3 S = _
    unfold zf_X11_whole_85b
    rw [h.1, if_pos (by show nI 0 ≤ 0; decide)]
  | cons g G ih =>
    intro V S T fuel h hG ht hV hf hGl hVl hT
    obtain ⟨fu, rfl⟩ : ∃ q, fuel = q + 1 := ⟨fuel - 1, by omega⟩
    have hf : G.length + 1 < fu + 1 := hf
    have hGl : G.length + 1 ≤ 400 := hGl
    have hT : T.length + 5 * (G.length + 1) < 2990 := hT
    have hg7 := hG.1
    have iG : vp_in (nI G.length) 410 := vp_in_nI (by omega) (by omega)
    have kG : (nI G.length).toNatClampNeg = G.length := nI_clamp (by omega)
    have hsh : zf_X11_whole_85 N z k17 (fu + 1) v1 v2 v3 S = zf_X11_whole_85b N z k17 (fun v1 v2 v3 S => zf_X11_whole_85 N z k17 fu v1 v2 v3 S) v1 v2 v3 S := rfl
    have c15 : S.1 15 = nI (G.length + 1) := h.1
    rw [hsh]
    unfold zf_X11_whole_85b zf_X11_whole_142
    rw [c15, if_neg (nI_nle (by omega) (by omega)), nI_pred]
    simp only [mq_ck_of iG, kG, h.2.1.1]
    have q3 : nI g ≤ (3 : Int32) ↔ g ≤ 3 := nI_leI (b := 3) (by omega) (by omega)
    rw [nbi_c] at hV
    by_cases hg : c ≤ g
    · rw [if_pos (show 4 ≤ g by omega)] at hV
      match V, hV, hVl, h with
      | [], hV, _, _ => exact absurd hV (by show ¬ 0 = _; omega)
      | [_], hV, _, _ => exact absurd hV (by show ¬ 1 = _; omega)
      | y :: x :: V, hV, hVl, h =>
        have e : joinA pl c (g :: G) (y :: x :: V) = joinA pl c G (comb pl g x y :: V) := by rw [joinA]; exact if_pos hg
        have hVl : V.length + 2 ≤ 400 := hVl
        have hV : V.length + 2 = nbi G + 1 + 1 := hV
        rw [e]
        obtain ⟨S1, X, a1, a2, a3, a4⟩ := rj_one (N := N) (z := z) h (by omega) (by omega) (by omega) (by omega)
        obtain ⟨S2, T2, b1, b2, b3, b4⟩ := ih (comb pl g x y :: V) S1 (T ++ X) fu a2 hG.2.2 (hG.2.1 (by omega)) (by show V.length + 1 = _; omega) (by omega) (by omega) (by show V.length + 1 ≤ 400; omega) (by rw [List.length_append]; omega)
        rw [List.length_append] at b3
        refine ⟨S2, T2, ?_, b2, by show _ ≤ T.length + 5 * (G.length + 1); omega, ag_tr a4 b4⟩
        rw [if_neg (fun q => by have := q3.mp q; omega), a1, mq_cl_s, b1]
        rcases (hv3 g (by omega) hg7).mpr hg with q | ⟨q, q'⟩
        · rw [if_pos q]
        · by_cases p : v3 < nI g
          · rw [if_pos p]
          · rw [if_neg p, if_pos q, if_neg q']
    · have e : joinA pl c (g :: G) V = (g :: G, V) := by
        match V with
        | [] => unfold joinA; rfl
        | [_] => unfold joinA; rfl
        | y :: x :: V => rw [joinA]; exact if_neg hg
      rw [e]
      refine ⟨S, T, ?_, h, Nat.le_refl _, ag_rf⟩
      by_cases p3 : g ≤ 3
      · rw [if_pos (q3.mpr p3)]
      · rw [if_neg (fun q => p3 (q3.mp q))]
        have hn := fun q => hg ((hv3 g (by omega) hg7).mp q)
        rw [if_neg (fun q => hn (Or.inl q))]
        by_cases p4 : nI g = v3
        · rw [if_pos p4]
          by_cases p5 : v3 = 5
          · rw [if_pos p5]
          · exact absurd (Or.inr ⟨p4, p5⟩) hn
        · rw [if_neg p4]
end RJ
end
