/-! The reference's reader: an operand, or what opens one. -/
section RO
variable {N : Nat} {z : Nat → Nat} {pl : Bool} {S : mq_St} {T : List Tr} {G : List Nat} {V : List Tr}
theorem rn_atom {c : Nat} (h : ndR S T) (h13 : S.1 13 = if pl = true then 1 else 0) (hl : T.length + 5 < 3000) (hc : isAt c) (k : Int32 → mq_St → Option (Int32 × mq_St)) :
    ∃ v' S' X, (if nI c = 84 then mq_cl (zf_X11_node N z 0 (-1) (-1) S) k else if nI c = 70 then mq_cl (zf_X11_node N z 1 (-1) (-1) S) k else mq_cl (zf_X11_node N z 2 (nI c - 97) (-1) S) (fun q S53 => mq_cl (zf_X11_box N z q S53) k)) = k v' S' ∧ ndR S' (T ++ X) ∧ X.length ≤ 5 ∧ RV (T ++ X) v' (atomT pl c) ∧ ag [7] [7, 8, 9, 10, 11] [] S S' := by
  rcases hc with rfl | rfl | hc
  · obtain ⟨S1, a1, a2, a3, a4⟩ := rn_node (N := N) (z := z) (k := 0) (a := -1) (b := -1) (t := .num 0) h (by omega) (Or.inl rfl) (Or.inl ⟨rfl, rfl⟩)
    refine ⟨_, S1, [.num 0], ?_, a2, (by show 1 ≤ 5; omega), a3, a4⟩
    rw [if_pos (by decide), a1, mq_cl_s]
  · obtain ⟨S1, a1, a2, a3, a4⟩ := rn_node (N := N) (z := z) (k := 1) (a := -1) (b := -1) (t := .num 1) h (by omega) (Or.inr rfl) (Or.inr (Or.inl ⟨rfl, rfl⟩))
    refine ⟨_, S1, [.num 1], ?_, a2, (by show 1 ≤ 5; omega), a3, a4⟩
    rw [if_neg (by decide), if_pos (by decide), a1, mq_cl_s]
  · have n84 : ¬ nI c = (84 : Int32) := fun e => by have := sp_inj (b := 84) e (by omega) (by omega); omega
    have n70 : ¬ nI c = (70 : Int32) := fun e => by have := sp_inj (b := 70) e (by omega) (by omega); omega
    have e97 : nI c - 97 = nI (c - 97) := pk_sub (a := c) (b := 97) (by omega)
    have m84 : ¬ c = 84 := by omega
    have m70 : ¬ c = 70 := by omega
    obtain ⟨S1, a1, a2, a3, a4⟩ := rn_node (N := N) (z := z) (k := 2) (a := nI (c - 97)) (b := -1) (t := .var (2 * (c - 97))) h (by omega) (by show 2 * (c - 97) < 52; omega) (Or.inr (Or.inr (Or.inl ⟨c - 97, by omega, rfl, rfl, rfl⟩)))
    obtain ⟨v2, S2, X, b1, b2, b3, b4, b5⟩ := rn_box (N := N) (z := z) (pl := pl) a2 ((a4.1 13 (by decide)).trans h13) (by rw [List.length_append]; show T.length + 1 < 3000; omega) a3
    refine ⟨v2, S2, [.var (2 * (c - 97))] ++ X, ?_, by rw [← List.append_assoc]; exact b2, by rw [List.length_append]; show 1 + X.length ≤ 5; omega, ?_, ag_tr a4 b5⟩
    · rw [if_neg n84, if_neg n70, e97, a1, mq_cl_s, b1, mq_cl_s]
    · rw [← List.append_assoc]
      unfold atomT
      rw [if_neg m84, if_neg m70]
      exact b4
/-- an atom -/
theorem ro_atom {c p : Nat} (hN : 500 ≤ N) (h : rdR S G V pl T) (hc : isAt c) (h8 : S.1 8 = nI p) (hp : p < 400) (hA : okA G V true) (hG : G.length ≤ p) (hV : V.length ≤ p) (hT : T.length + 5 * G.length ≤ 5 * p) :
    ∃ S' T', zf_X11_operand_28 N z (nI c) S = some (1, S') ∧ rdR S' (aheadA pl G (atomT pl c :: V)).1 (aheadA pl G (atomT pl c :: V)).2 pl T' ∧ S'.1 8 = nI (p + 1) ∧ T'.length + 5 * (aheadA pl G (atomT pl c :: V)).1.length ≤ 5 * (p + 1) ∧ ag [7, 8, 12, 14, 15] [7, 8, 9, 10, 11, 12] [] S S' := by
  obtain ⟨c15, cG, c14, cV, c12, c16, c13, cn⟩ := h
  obtain ⟨v', S1, X, a1, a2, a3, a4, a5⟩ := rn_atom (N := N) (z := z) (pl := pl) (S := mq_si S 8 (nI (p + 1))) (T := T) (c := c) (ndR_c cn rfl rfl rfl rfl rfl rfl) c13 (by omega) hc (fun v S1 => zf_X11_operand_92 N z (nI V.length) v S1)
  have E : zf_X11_operand_28 N z (nI c) S = zf_X11_operand_92 N z (nI V.length) v' S1 := by
    rw [← a1]
    unfold zf_X11_operand_28
    rw [nS_e, h8, nI_1, show (mq_si S 8 (nI (p + 1))).1 14 = nI V.length from c14]
  have k13 : S1.2.1 13 = S.2.1 13 := a5.2.1 13 (by decide)
  have k12 : S1.2.1 12 = S.2.1 12 := a5.2.1 12 (by decide)
  have e14 : S1.1 14 = nI V.length := (a5.1 14 (by decide)).trans c14
  obtain ⟨S2, T2, b1, b2, b3, b4⟩ := rj_ahead (N := N) (z := z) (pl := pl) G (atomT pl c :: V) (mq_si (mq_sa S1 12 (upd (S1.2.1 12) V.length v')) 14 (nI (V.length + 1))) (T ++ X) N ⟨(a5.1 15 (by decide)).trans c15, by show onGR (S1.2.1 13) G; rw [k13]; exact cG, rfl, ⟨by
    show RV (T ++ X) (upd (S1.2.1 12) V.length v' V.length) _
    rw [up_s]; exact a4, by
    show onVR (T ++ X) (upd (S1.2.1 12) V.length v') V
    rw [k12]
    exact onVR_upd (Nat.le_refl _) (onVR_app X cV)⟩, (a5.1 12 (by decide)).trans c12, (a5.1 16 (by decide)).trans c16, (a5.1 13 (by decide)).trans c13, ndR_c a2 rfl rfl rfl rfl rfl rfl⟩ hA.1 (by show V.length + 1 = _; rw [hA.2.2.1]; rfl) (by omega) (by omega) (by show V.length + 1 ≤ 400; omega) (by rw [List.length_append]; omega)
  rw [List.length_append] at b3
  refine ⟨S2, T2, ?_, b2, ?_, by omega, ?_⟩
  · rw [E]
    unfold zf_X11_operand_92 zf_X11_ahead
    rw [mq_ck_of (vp_in_nI (by omega) (by omega)), nI_clamp (by omega), nS_e, nS_e, show (mq_sa S1 12 (upd (S1.2.1 12) V.length v')).1 14 = nI V.length from e14, nI_1, b1, mq_cl_s, mq_cz_1]
  · rw [b4.1 8 (by decide)]
    exact a5.1 8 (by decide)
  · refine ag_tr ?_ (ag_mono b4 (by decide) (by decide) (by decide))
    refine ag_tr ?_ (ag_si (by decide))
    refine ag_tr ?_ (ag_sa (by decide))
    exact ag_tr (ag_si (by decide)) (ag_mono a5 (by decide) (by decide) (by decide))
theorem ro_wrong {k p : Nat} (h10 : S.1 10 = 0) (h8 : S.1 8 = nI p) : zf_X11_wrong N z (nI k) S = some (0, mq_si (mq_si S 10 (nI k)) 11 (nI p)) := by
  unfold zf_X11_wrong
  rw [if_pos h10, nS_e, nS_e, show (mq_si S 10 (nI k)).1 8 = nI p from h8]
/-- what opens: o its code, nd and my whether it is [] or <> -/
theorem ro_open {c o p : Nat} {nd my : Int32} (ho : o ≤ 3) (hc : c = 40 ↔ o = 0) (hcl : c < 256) (hnm : (nd = 0 ∧ my = 0 ∧ o < 2) ∨ (nd = 1 ∧ my = 0 ∧ o = 2) ∨ (nd = 0 ∧ my = 1 ∧ o = 3)) (h : rdR S G V pl T) (h10 : S.1 10 = 0) (h8 : S.1 8 = nI p) (hp : p < 400) (h60 : nop G ≤ 60) (hG : G.length ≤ p) (hT : T.length + 5 * G.length ≤ 5 * p) :
    (60 ≤ nop G → ∃ S', zf_X11_operand_251 N z (nI c) nd my (nI o) S = some (0, S') ∧ S'.1 10 = nI 2 ∧ S'.1 11 = nI p ∧ ag [10, 11] [] [] S S') ∧
    (nop G < 60 → pl = false ∧ 2 ≤ o → ∃ S', zf_X11_operand_251 N z (nI c) nd my (nI o) S = some (0, S') ∧ S'.1 10 = nI 3 ∧ S'.1 11 = nI p ∧ ag [8, 10, 11, 12, 15, 16] [13] [] S S') ∧
    (nop G < 60 → ¬ (pl = false ∧ 2 ≤ o) → ∃ S', zf_X11_operand_251 N z (nI c) nd my (nI o) S = some (0, S') ∧ rdR S' (o :: G) V pl T ∧ S'.1 8 = nI (if 2 ≤ o then p + 2 else p + 1) ∧ S'.1 10 = 0 ∧ ag [8, 12, 15, 16] [13] [] S S') := by
  obtain ⟨c15, cG, c14, cV, c12, c16, c13, cn⟩ := h
  have e40 : (nI c = (40 : Int32)) ↔ c = 40 := nI_eq (b := 40) (by omega) (by omega)
  have e60 : (nI (nop G) = (60 : Int32)) ↔ nop G = 60 := nI_eq (b := 60) (by omega) (by omega)
  have i1 : vp_in (nI G.length) 410 := vp_in_nI (by omega) (by omega)
  have k1 : (nI G.length).toNatClampNeg = G.length := nI_clamp (by omega)
  -- behind opens
  have op : ¬ nop G = 60 → zf_X11_opens N z (nI o) S = some (1, mq_si (mq_sa (mq_si S 12 (nI (nop G + 1))) 13 (upd (S.2.1 13) G.length (nI o))) 15 (nI (G.length + 1))) := by
    intro q
    unfold zf_X11_opens
    rw [c12, if_neg (fun e => q (e60.mp e)), nI_1, nS_e, show (mq_si S 12 (nI (nop G + 1))).1 15 = nI G.length from c15, mq_ck_of i1, k1, nS_e, nS_e, show (mq_sa (mq_si S 12 (nI (nop G + 1))) 13 (upd ((mq_si S 12 (nI (nop G + 1))).2.1 13) G.length (nI o))).1 15 = nI G.length from c15, nI_1, mq_cz_1]
    rfl
  -- the last of it
  have fin : ∀ S1 : mq_St, S1.1 8 = nI p → S1.1 16 = nI (G.count 0) → zf_X11_operand_279 N z (nI c) nd my S1 = some (0, mq_si (mq_si S1 8 (nI (if 2 ≤ o then p + 2 else p + 1))) 16 (nI ((o :: G).count 0))) := by
    intro S1 g8 g16
    have last : ∀ q : Nat, zf_X11_operand_297 N z (nI c) (nI p) (nI q) S1 = some (0, mq_si (mq_si S1 8 (nI (p + q))) 16 (nI ((o :: G).count 0))) := by
      intro q
      unfold zf_X11_operand_297 zf_X11_operand_317
      rw [nI_add, nS_e, show (mq_si S1 8 (nI (p + q))).1 16 = nI (G.count 0) from g16, cn0_c]
      by_cases e : c = 40
      · rw [if_pos (e40.mpr e), nI_1, nS_e, mq_cz_0, if_pos (hc.mp e)]
      · rw [if_neg (fun x => e (e40.mp x)), nS_e, mq_cz_0, if_neg (fun x => e (hc.mpr x)), show nI (G.count 0) + 0 = nI (G.count 0 + 0) from nI_add _ 0]
    unfold zf_X11_operand_279 zf_X11_operand_292
    rw [g8]
    rcases hnm with ⟨rfl, rfl, q⟩ | ⟨rfl, rfl, q⟩ | ⟨rfl, rfl, q⟩
    · rw [if_pos rfl, if_pos rfl, if_neg (by omega)]; exact last 1
    · rw [if_neg (by decide), if_pos (by omega)]; exact last 2
    · rw [if_pos rfl, if_neg (by decide), if_pos (by omega)]; exact last 2
  refine ⟨fun q => ?_, fun q hq => ?_, fun q hq => ?_⟩
  · have e : nop G = 60 := by omega
    refine ⟨mq_si (mq_si S 10 (nI 2)) 11 (nI p), ?_, rfl, rfl, ag_tr (ag_si (by decide)) (ag_si (by decide))⟩
    unfold zf_X11_operand_251 zf_X11_opens
    rw [c12, if_pos (e60.mpr e), show (2 : Int32) = nI 2 from rfl, ro_wrong h10 h8, mq_cl_s, nI_e, mq_cz_0, mq_cl_s, if_pos rfl, mq_cz_0]
  · refine ⟨mq_si (mq_si (mq_si (mq_si (mq_si (mq_sa (mq_si S 12 (nI (nop G + 1))) 13 (upd (S.2.1 13) G.length (nI o))) 15 (nI (G.length + 1))) 10 (nI 3)) 11 (nI p)) 8 (nI (if 2 ≤ o then p + 2 else p + 1))) 16 (nI ((o :: G).count 0)), ?_, rfl, rfl, ?_⟩
    · unfold zf_X11_operand_251 zf_X11_operand_272
      rw [op (by omega), mq_cl_s, if_neg (by decide), show (mq_si (mq_sa (mq_si S 12 (nI (nop G + 1))) 13 (upd (S.2.1 13) G.length (nI o))) 15 (nI (G.length + 1))).1 13 = 0 from by
        show S.1 13 = 0
        rw [c13, hq.1]; rfl, if_pos rfl, show (3 : Int32) = nI 3 from rfl, ro_wrong (k := 3) (p := p) (S := mq_si (mq_sa (mq_si S 12 (nI (nop G + 1))) 13 (upd (S.2.1 13) G.length (nI o))) 15 (nI (G.length + 1))) h10 h8, mq_cl_s, nI_e, fin (mq_si (mq_si (mq_si (mq_sa (mq_si S 12 (nI (nop G + 1))) 13 (upd (S.2.1 13) G.length (nI o))) 15 (nI (G.length + 1))) 10 (nI 3)) 11 (nI p)) h8 c16]
      rcases hnm with ⟨-, -, q'⟩ | ⟨rfl, rfl, q'⟩ | ⟨rfl, rfl, q'⟩
      · omega
      · rw [if_neg (by decide)]
      · rw [if_pos rfl, if_neg (by decide)]
    · refine ag_tr ?_ (ag_si (by decide))
      refine ag_tr ?_ (ag_si (by decide))
      refine ag_tr ?_ (ag_si (by decide))
      refine ag_tr ?_ (ag_si (by decide))
      refine ag_tr ?_ (ag_si (by decide))
      refine ag_tr ?_ (ag_sa (by decide))
      exact ag_si (by decide)
  · refine ⟨mq_si (mq_si (mq_si (mq_sa (mq_si S 12 (nI (nop G + 1))) 13 (upd (S.2.1 13) G.length (nI o))) 15 (nI (G.length + 1))) 8 (nI (if 2 ≤ o then p + 2 else p + 1))) 16 (nI ((o :: G).count 0)), ?_, ⟨rfl, ⟨?_, onGR_upd (Nat.le_refl _) cG⟩, c14, cV, ?_, rfl, c13, ndR_c cn rfl rfl rfl rfl rfl rfl⟩, rfl, h10, ?_⟩
    · unfold zf_X11_operand_251
      rw [op (by omega), mq_cl_s, if_neg (by decide), show (mq_si (mq_sa (mq_si S 12 (nI (nop G + 1))) 13 (upd (S.2.1 13) G.length (nI o))) 15 (nI (G.length + 1))).1 13 = (if pl = true then 1 else 0) from c13, fin (mq_si (mq_sa (mq_si S 12 (nI (nop G + 1))) 13 (upd (S.2.1 13) G.length (nI o))) 15 (nI (G.length + 1))) h8 c16]
      cases pl with
      | true => rw [if_neg (by decide)]
      | false =>
        rw [if_pos (by decide)]
        rcases hnm with ⟨rfl, rfl, q'⟩ | ⟨rfl, rfl, q'⟩ | ⟨rfl, rfl, q'⟩
        · rw [if_pos rfl, if_pos rfl]
        · exact absurd ⟨rfl, by omega⟩ hq
        · exact absurd ⟨rfl, by omega⟩ hq
    · show upd (S.2.1 13) G.length (nI o) G.length = _
      rw [up_s]
    · show nI (nop G + 1) = _
      rw [nop_c, if_pos ho]
    · refine ag_tr ?_ (ag_si (by decide))
      refine ag_tr ?_ (ag_si (by decide))
      refine ag_tr ?_ (ag_si (by decide))
      refine ag_tr ?_ (ag_sa (by decide))
      exact ag_si (by decide)
end RO
