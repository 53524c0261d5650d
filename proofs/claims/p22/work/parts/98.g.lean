/-! 98.refo -/
section
/-! The reference's reader: an operand, or what opens one. -/
section RO
variable {N : Nat} {z : Nat → Nat} {pl : Bool} {S : mq_St} {T : List Tr} {G : List Nat} {V : List Tr}
theorem rn_atom {c : Nat} (h : ndR S T) (h13 : S.1 13 = if pl = true then 1 else 0) (hl : T.length + 5 < 3000) (hc : isAt c) (k : Int32 → mq_St → Option (Int32 × mq_St)) :
    ∃ v' S' X, (if nI c = 84 then mq_cl (zf_X11_node N z 0 (-1) (-1) S) k else if nI c = 70 then mq_cl (zf_X11_node N z 1 (-1) (-1) S) k else mq_cl (zf_X11_node N z 2 (nI c - 97) (-1) S) (fun q S53 => mq_cl (zf_X11_box N z q S53) k)) = k v' S' ∧ ndR S' (T ++ X) ∧ X.length ≤ 5 ∧ RV (T ++ X) v' (atomT pl c) ∧ ag [7] [7, 8, 9, 10, 11] [] S S' := by
  rcases hc with rfl | rfl | hc
  · obtain ⟨S1, a1, a2, a3, a4⟩ := rn_node (N := N) (z := z) (k := 0) (a := -1) (b := -1) (t := .num 0) h (by omega) (Or.inl rfl) (Or.inl ⟨rfl, rfl⟩)
    refine ⟨_, S1, [.num 0], ?_, a2, (by show 1 ≤ 5; omega), a3, a4⟩
    rw [if_pos (by decide), a1, mq_cl_s]
  · obtain ⟨S1, a1, a2, a3, a4⟩ := rn_node (N := N) (z := z) (k := 1) (a := -1) (b := -1) (t := .num 1) h (by omega) (Or.inr rfl) (Or.inr (Or.inl ⟨rfl, rfl⟩))
    refine ⟨_, S1, [.num 1], ?_, a2, (by show 1 ≤ 5; omega), a3, a4⟩
    rw [if_neg (by decide), if_pos (by decide), a1, mq_cl_s]
  · have n84 : ¬ nI c = (84 : Int32) := fun e => by have := sp_inj (b := 84) e (by omega) (by omega); omega
    have n70 : ¬ nI c = (70 : Int32) := fun e => by have := sp_inj (b := 70) e (by omega) (by omega); omega
    have e97 : nI c - 97 = nI (c - 97) := pk_sub (a := c) (b := 97) (by omega)
    have m84 : ¬ c = 84 := by omega
    have m70 : ¬ c = 70 := by omega
    obtain ⟨S1, a1, a2, a3, a4⟩ := rn_node (N := N) (z := z) (k := 2) (a := nI (c - 97)) (b := -1) (t := .var (2 * (c - 97))) h (by omega) (by show 2 * (c - 97) < 52; omega) (Or.inr (Or.inr (Or.inl ⟨c - 97, by omega, rfl, rfl, rfl⟩)))
    obtain ⟨v2, S2, X, b1, b2, b3, b4, b5⟩ := rn_box (N := N) (z := z) (pl := pl) a2 ((a4.1 13 (by decide)).trans h13) (by rw [List.length_append]; show T.length + 1 < 3000; omega) a3
    refine ⟨v2, S2, [.var (2 * (c - 97))] ++ X, ?_, by rw [← List.append_assoc]; exact b2, by rw [List.length_append]; show 1 + X.length ≤ 5; omega, ?_, ag_tr a4 b5⟩
    · rw [if_neg n84, if_neg n70, e97, a1, mq_cl_s, b1, mq_cl_s]
    · rw [← List.append_assoc]
      unfold atomT
      rw [if_neg m84, if_neg m70]
      exact b4
/-- an atom -/
theorem ro_atom {c p : Nat} (hN : 500 ≤ N) (h : rdR S G V pl T) (hc : isAt c) (h8 : S.1 8 = nI p) (hp : p < 400) (hA : okA G V true) (hG : G.length ≤ p) (hV : V.length ≤ p) (hT : T.length + 5 * G.length ≤ 5 * p) :
    ∃ S' T', zf_X11_operand_28 N z (nI c) S = some (1, S') ∧ rdR S' (aheadA pl G (atomT pl c :: V)).1 (aheadA pl G (atomT pl c :: V)).2 pl T' ∧ S'.1 8 = nI (p + 1) ∧ T'.length + 5 * (aheadA pl G (atomT pl c :: V)).1.length ≤ 5 * (p + 1) ∧ ag [7, 8, 12, 14, 15] [7, 8, 9, 10, 11, 12] [] S S' := by
  obtain ⟨c15, cG, c14, cV, c12, c16, c13, cn⟩ := h
  obtain ⟨v', S1, X, a1, a2, a3, a4, a5⟩ := rn_atom (N := N) (z := z) (pl := pl) (S := mq_si S 8 (nI (p + 1))) (T := T) (c := c) (ndR_c cn rfl rfl rfl rfl rfl rfl) c13 (by omega) hc (fun v S1 => zf_X11_operand_92 N z (nI V.length) v S1)
  have E : zf_X11_operand_28 N z (nI c) S = zf_X11_operand_92 N z (nI V.length) v' S1 := by
    rw [← a1]
    unfold zf_X11_operand_28
    rw [nS_e, h8, nI_1, show (mq_si S 8 (nI (p + 1))).1 14 = nI V.length from c14]
  have k13 : S1.2.1 13 = S.2.1 13 := a5.2.1 13 (by decide)
  have k12 : S1.2.1 12 = S.2.1 12 := a5.2.1 12 (by decide)
  have e14 : S1.1 14 = nI V.length := (a5.1 14 (by decide)).trans c14
  obtain ⟨S2, T2, b1, b2, b3, b4⟩ := rj_ahead (N := N) (z := z) (pl := pl) G (atomT pl c :: V) (mq_si (mq_sa S1 12 (upd (S1.2.1 12) V.length v')) 14 (nI (V.length + 1))) (T ++ X) N ⟨(a5.1 15 (by decide)).trans c15, by show onGR (S1.2.1 13) G; rw [k13]; exact cG, rfl, ⟨by
    show RV (T ++ X) (upd (S1.2.1 12) V.length v' V.length) _
    rw [up_s]; exact a4, by
    show onVR (T ++ X) (upd (S1.2.1 12) V.length v') V
    rw [k12]
    exact onVR_upd (Nat.le_refl _) (onVR_app X cV)⟩, (a5.1 12 (by decide)).trans c12, (a5.1 16 (by decide)).trans c16, (a5.1 13 (by decide)).trans c13, ndR_c a2 rfl rfl rfl rfl rfl rfl⟩ hA.1 (by show V.length + 1 = _; rw [hA.2.2.1]; rfl) (by omega) (by omega) (by show V.length + 1 ≤ 400; omega) (by rw [List.length_append]; omega)
  rw [List.length_append] at b3
  refine ⟨S2, T2, ?_, b2, ?_, by omega, ?_⟩
  · rw [E]
    unfold zf_X11_operand_92 zf_X11_ahead
    rw [mq_ck_of (vp_in_nI (by omega) (by omega)), nI_clamp (by omega), nS_e, nS_e, show (mq_sa S1 12 (upd (S1.2.1 12) V.length v')).1 14 = nI V.length from e14, nI_1, b1, mq_cl_s, mq_cz_1]
  · rw [b4.1 8 (by decide)]
    exact a5.1 8 (by decide)
  · refine ag_tr ?_ (ag_mono b4 (by decide) (by decide) (by decide))
    refine ag_tr ?_ (ag_si (by decide))
    refine ag_tr ?_ (ag_sa (by decide))
    exact ag_tr (ag_si (by decide)) (ag_mono a5 (by decide) (by decide) (by decide))
theorem ro_wrong {k p : Nat} (h10 : S.1 10 = 0) (h8 : S.1 8 = nI p) : zf_X11_wrong N z (nI k) S = some (0, mq_si (mq_si S 10 (nI k)) 11 (nI p)) := by
  unfold zf_X11_wrong
  rw [if_pos h10, nS_e, nS_e, show (mq_si S 10 (nI k)).1 8 = nI p from h8]
/-- what opens: o its code, nd and my whether it is [] or <> -/
theorem ro_open {c o p : Nat} {nd my : Int32} (ho : o ≤ 3) (hc : c = 40 ↔ o = 0) (hcl : c < 256) (hnm : (nd = 0 ∧ my = 0 ∧ o < 2) ∨ (nd = 1 ∧ my = 0 ∧ o = 2) ∨ (nd = 0 ∧ my = 1 ∧ o = 3)) (h : rdR S G V pl T) (h10 : S.1 10 = 0) (h8 : S.1 8 = nI p) (hp : p < 400) (h60 : nop G ≤ 60) (hG : G.length ≤ p) (hT : T.length + 5 * G.length ≤ 5 * p) :
    (60 ≤ nop G → ∃ S', zf_X11_operand_251 N z (nI c) nd my (nI o) S = some (0, S') ∧ S'.1 10 = nI 2 ∧ S'.1 11 = nI p ∧ ag [10, 11] [] [] S S') ∧
    (nop G < 60 → pl = false ∧ 2 ≤ o → ∃ S', zf_X11_operand_251 N z (nI c) nd my (nI o) S = some (0, S') ∧ S'.1 10 = nI 3 ∧ S'.1 11 = nI p ∧ ag [8, 10, 11, 12, 15, 16] [13] [] S S') ∧
    (nop G < 60 → ¬ (pl = false ∧ 2 ≤ o) → ∃ S', zf_X11_operand_251 N z (nI c) nd my (nI o) S = some (0, S') ∧ rdR S' (o :: G) V pl T ∧ S'.1 8 = nI (if 2 ≤ o then p + 2 else p + 1) ∧ S'.1 10 = 0 ∧ ag [8, 12, 15, 16] [13] [] S S') := by
  obtain ⟨c15, cG, c14, cV, c12, c16, c13, cn⟩ := h
  have e40 : (nI c = (40 : Int32)) ↔ c = 40 := nI_eq (b := 40) (by omega) (by omega)
  have e60 : (nI (nop G) = (60 : Int32)) ↔ nop G = 60 := nI_eq (b := 60) (by omega) (by omega)
  have i1 : vp_in (nI G.length) 410 := vp_in_nI (by omega) (by omega)
  have k1 : (nI G.length).toNatClampNeg = G.length := nI_clamp (by omega)
  -- behind opens
  have op : ¬ nop G = 60 → zf_X11_opens N z (nI o) S = some (1, mq_si (mq_sa (mq_si S 12 (nI (nop G + 1))) 13 (upd (S.2.1 13) G.length (nI o))) 15 (nI (G.length + 1))) := by
    intro q
    unfold zf_X11_opens
    rw [c12, if_neg (fun e => q (e60.mp e)), nI_1, nS_e, show (mq_si S 12 (nI (nop G + 1))).1 15 = nI G.length from c15, mq_ck_of i1, k1, nS_e, nS_e, show (mq_sa (mq_si S 12 (nI (nop G + 1))) 13 (upd ((mq_si S 12 (nI (nop G + 1))).2.1 13) G.length (nI o))).1 15 = nI G.length from c15, nI_1, mq_cz_1]
    rfl
  -- the last of it
  have fin : ∀ S1 : mq_St, S1.1 8 = nI p → S1.1 16 = nI (G.count 0) → zf_X11_operand_279 N z (nI c) nd my S1 = some (0, mq_si (mq_si S1 8 (nI (if 2 ≤ o then p + 2 else p + 1))) 16 (nI ((o :: G).count 0))) := by
    intro S1 g8 g16
    have last : ∀ q : Nat, zf_X11_operand_297 N z (nI c) (nI p) (nI q) S1 = some (0, mq_si (mq_si S1 8 (nI (p + q))) 16 (nI ((o :: G).count 0))) := by
      intro q
      unfold zf_X11_operand_297 zf_X11_operand_317
      rw [nI_add, nS_e, show (mq_si S1 8 (nI (p + q))).1 16 = nI (G.count 0) from g16, cn0_c]
      by_cases e : c = 40
      · rw [if_pos (e40.mpr e), nI_1, nS_e, mq_cz_0, if_pos (hc.mp e)]
      · rw [if_neg (fun x => e (e40.mp x)), nS_e, mq_cz_0, if_neg (fun x => e (hc.mpr x)), show nI (G.count 0) + 0 = nI (G.count 0 + 0) from nI_add _ 0]
    unfold zf_X11_operand_279 zf_X11_operand_292
    rw [g8]
    rcases hnm with ⟨rfl, rfl, q⟩ | ⟨rfl, rfl, q⟩ | ⟨rfl, rfl, q⟩
    · rw [if_pos rfl, if_pos rfl, if_neg (by omega)]; exact last 1
    · rw [if_neg (by decide), if_pos (by omega)]; exact last 2
    · rw [if_pos rfl, if_neg (by decide), if_pos (by omega)]; exact last 2
  refine ⟨fun q => ?_, fun q hq => ?_, fun q hq => ?_⟩
  · have e : nop G = 60 := by omega
    refine ⟨mq_si (mq_si S 10 (nI 2)) 11 (nI p), ?_, rfl, rfl, ag_tr (ag_si (by decide)) (ag_si (by decide))⟩
    unfold zf_X11_operand_251 zf_X11_opens
    rw [c12, if_pos (e60.mpr e), show (2 : Int32) = nI 2 from rfl, ro_wrong h10 h8, mq_cl_s, nI_e, mq_cz_0, mq_cl_s, if_pos rfl, mq_cz_0]
  · refine ⟨mq_si (mq_si (mq_si (mq_si (mq_si (mq_sa (mq_si S 12 (nI (nop G + 1))) 13 (upd (S.2.1 13) G.length (nI o))) 15 (nI (G.length + 1))) 10 (nI 3)) 11 (nI p)) 8 (nI (if 2 ≤ o then p + 2 else p + 1))) 16 (nI ((o :: G).count 0)), ?_, rfl, rfl, ?_⟩
    · unfold zf_X11_operand_251 zf_X11_operand_272
      rw [op (by omega), mq_cl_s, if_neg (by decide), show (mq_si (mq_sa (mq_si S 12 (nI (nop G + 1))) 13 (upd (S.2.1 13) G.length (nI o))) 15 (nI (G.length + 1))).1 13 = 0 from by
        show S.1 13 = 0
        rw [c13, hq.1]; rfl, if_pos rfl, show (3 : Int32) = nI 3 from rfl, ro_wrong (k := 3) (p := p) (S := mq_si (mq_sa (mq_si S 12 (nI (nop G + 1))) 13 (upd (S.2.1 13) G.length (nI o))) 15 (nI (G.length + 1))) h10 h8, mq_cl_s, nI_e, fin (mq_si (mq_si (mq_si (mq_sa (mq_si S 12 (nI (nop G + 1))) 13 (upd (S.2.1 13) G.length (nI o))) 15 (nI (G.length + 1))) 10 (nI 3)) 11 (nI p)) h8 c16]
      rcases hnm with ⟨-, -, q'⟩ | ⟨rfl, rfl, q'⟩ | ⟨rfl, rfl, q'⟩
      · omega
      · rw [if_neg (by decide)]
      · rw [if_pos rfl, if_neg (by decide)]
    · refine ag_tr ?_ (ag_si (by decide))
      refine ag_tr ?_ (ag_si (by decide))
      refine ag_tr ?_ (ag_si (by decide))
      refine ag_tr ?_ (ag_si (by decide))
      refine ag_tr ?_ (ag_si (by decide))
      refine ag_tr ?_ (ag_sa (by decide))
      exact ag_si (by decide)
  · refine ⟨mq_si (mq_si (mq_si (mq_sa (mq_si S 12 (nI (nop G + 1))) 13 (upd (S.2.1 13) G.length (nI o))) 15 (nI (G.length + 1))) 8 (nI (if 2 ≤ o then p + 2 else p + 1))) 16 (nI ((o :: G).count 0)), ?_, ⟨rfl, ⟨?_, onGR_upd (Nat.le_refl _) cG⟩, c14, cV, ?_, rfl, c13, ndR_c cn rfl rfl rfl rfl rfl rfl⟩, rfl, h10, ?_⟩
    · unfold zf_X11_operand_251
      rw [op (by omega), mq_cl_s, if_neg (by decide), show (mq_si (mq_sa (mq_si S 12 (nI (nop G + 1))) 13 (upd (S.2.1 13) G.length (nI o))) 15 (nI (G.length + 1))).1 13 = (if pl = true then 1 else 0) from c13, fin (mq_si (mq_sa (mq_si S 12 (nI (nop G + 1))) 13 (upd (S.2.1 13) G.length (nI o))) 15 (nI (G.length + 1))) h8 c16]
      cases pl with
      | true => rw [if_neg (by decide)]
      | false =>
        rw [if_pos (by decide)]
        rcases hnm with ⟨rfl, rfl, q'⟩ | ⟨rfl, rfl, q'⟩ | ⟨rfl, rfl, q'⟩
        · rw [if_pos rfl, if_pos rfl]
        · exact absurd ⟨rfl, by omega⟩ hq
        · exact absurd ⟨rfl, by omega⟩ hq
    · show upd (S.2.1 13) G.length (nI o) G.length = _
      rw [up_s]
    · show nI (nop G + 1) = _
      rw [nop_c, if_pos ho]
    · refine ag_tr ?_ (ag_si (by decide))
      refine ag_tr ?_ (ag_si (by decide))
      refine ag_tr ?_ (ag_si (by decide))
      refine ag_tr ?_ (ag_sa (by decide))
      exact ag_si (by decide)
end RO
end
/-! 99.refw -/
section
/-! The reference's reader: operand(), one sign behind an operand. -/
section RW
variable {N : Nat} {z : Nat → Nat} {pl : Bool} {S : mq_St} {T : List Tr} {G : List Nat} {V : List Tr} {B : Nat → Nat} {len p : Nat}
theorem stA_o {s : Nat} (h : ¬ isAt s) (ho : opc s ≤ 3) : stA pl s G V true = (if 60 ≤ nop G then (2, G, V, true) else if pl = false ∧ 2 ≤ opc s then (3, G, V, true) else (0, opc s :: G, V, true)) := by
  unfold stA
  rw [if_pos rfl, if_neg h, if_pos ho]
theorem stA_n {s : Nat} (h : ¬ isAt s) (ho : ¬ opc s ≤ 3) : stA pl s G V true = (1, G, V, true) := by
  unfold stA
  rw [if_pos rfl, if_neg h, if_neg ho]
theorem stA_a {s : Nat} (h : isAt s) : stA pl s G V true = (0, (aheadA pl G (atomT pl s :: V)).1, (aheadA pl G (atomT pl s :: V)).2, false) := by
  unfold stA
  rw [if_pos rfl, if_pos h]
theorem rw_operand (hN : 500 ≤ N) (hB : tpR S B len) (h9 : S.1 9 = nI len) (h8 : S.1 8 = nI p) (hp : p < len) (hb : ¬ (B p = 32 ∨ B p = 10)) (h : rdR S G V pl T) (h10 : S.1 10 = 0) (hA : okA G V true) (h60 : nop G ≤ 60) (hG : G.length ≤ p) (hV : V.length ≤ p) (hT : T.length + 5 * G.length ≤ 5 * p) :
    ((stA pl (sg B len p) G V true).1 = 0 → ∃ S' T', zf_X11_operand N z S = some (if (stA pl (sg B len p) G V true).2.2.2 = true then 0 else 1, S') ∧ rdR S' (stA pl (sg B len p) G V true).2.1 (stA pl (sg B len p) G V true).2.2.1 pl T' ∧ S'.1 8 = nI (if sg B len p = 91 ∨ sg B len p = 60 then p + 2 else p + 1) ∧ S'.1 10 = 0 ∧ T'.length + 5 * (stA pl (sg B len p) G V true).2.1.length ≤ 5 * (if sg B len p = 91 ∨ sg B len p = 60 then p + 2 else p + 1) ∧ ag [7, 8, 12, 14, 15, 16] [7, 8, 9, 10, 11, 12, 13] [] S S') ∧
    (¬ (stA pl (sg B len p) G V true).1 = 0 → ∃ S', zf_X11_operand N z S = some (0, S') ∧ S'.1 10 = nI (stA pl (sg B len p) G V true).1 ∧ S'.1 11 = nI p ∧ ag [8, 10, 11, 12, 15, 16] [13] [] S S') := by
  have hl := hB.1
  obtain ⟨b1, b2, b3⟩ := hB.2 p hp
  have s10 : ¬ B p = 10 := fun q => hb (Or.inr q)
  have E0 : zf_X11_operand N z S = (if (if nI (B p) < 97 ∨ (122 : Int32) < nI (B p) then (0 : Int32) else 1) = 0 then (if nI (B p) = (84 : Int32) then zf_X11_operand_28 N z (nI (B p)) S else if nI (B p) = (70 : Int32) then zf_X11_operand_28 N z (nI (B p)) S else if nI (B p) = (91 : Int32) then (if nI len ≤ nI (p + 1) then zf_X11_operand_148 N z (nI (B p)) S else mq_ck (nI (p + 1)) 4000 (if S.2.1 0 (nI (p + 1)).toNatClampNeg = (93 : Int32) then zf_X11_operand_149 N z (nI (B p)) 1 S else zf_X11_operand_148 N z (nI (B p)) S)) else zf_X11_operand_148 N z (nI (B p)) S) else zf_X11_operand_28 N z (nI (B p)) S) := by
    unfold zf_X11_operand
    rw [rs_here hN hB h9 h8 hp hb, mq_cl_s, nI_e, rf_in, mq_cp_s, h9, h8, nI_1]
  have e97 : (nI (B p) < (97 : Int32)) ↔ B p < 97 := nI_ltI (b := 97) (by omega) (by omega)
  have e122 : ((122 : Int32) < nI (B p)) ↔ 122 < B p := nI_ltI (a := 122) (by omega) (by omega)
  have e84 : (nI (B p) = (84 : Int32)) ↔ B p = 84 := nI_eq (b := 84) (by omega) (by omega)
  have e70 : (nI (B p) = (70 : Int32)) ↔ B p = 70 := nI_eq (b := 70) (by omega) (by omega)
  have e91 : (nI (B p) = (91 : Int32)) ↔ B p = 91 := nI_eq (b := 91) (by omega) (by omega)
  have e60 : (nI (B p) = (60 : Int32)) ↔ B p = 60 := nI_eq (b := 60) (by omega) (by omega)
  have e40 : (nI (B p) = (40 : Int32)) ↔ B p = 40 := nI_eq (b := 40) (by omega) (by omega)
  have e33 : (nI (B p) = (33 : Int32)) ↔ B p = 33 := nI_eq (b := 33) (by omega) (by omega)
  have i1 : vp_in (nI (p + 1)) 4000 := vp_in_nI (by omega) (by omega)
  have k1 : (nI (p + 1)).toNatClampNeg = p + 1 := nI_clamp (by omega)
  have wr1 : zf_X11_wrong N z 1 S = some (0, mq_si (mq_si S 10 (nI 1)) 11 (nI p)) := ro_wrong (k := 1) h10 h8
  have wrA : ag [8, 10, 11, 12, 15, 16] [13] [] S (mq_si (mq_si S 10 (nI 1)) 11 (nI p)) := ag_tr (ag_si (by decide)) (ag_si (by decide))
  -- what opens, by its code
  have opn : ∀ (s o : Nat) (nd my : Int32), sg B len p = s → ¬ isAt s → opc s = o → o ≤ 3 → (B p = 40 ↔ o = 0) → ((nd = 0 ∧ my = 0 ∧ o < 2) ∨ (nd = 1 ∧ my = 0 ∧ o = 2) ∨ (nd = 0 ∧ my = 1 ∧ o = 3)) → ((s = 91 ∨ s = 60) ↔ 2 ≤ o) → zf_X11_operand N z S = zf_X11_operand_251 N z (nI (B p)) nd my (nI o) S →
      (((stA pl (sg B len p) G V true).1 = 0 → ∃ S' T', zf_X11_operand N z S = some (if (stA pl (sg B len p) G V true).2.2.2 = true then 0 else 1, S') ∧ rdR S' (stA pl (sg B len p) G V true).2.1 (stA pl (sg B len p) G V true).2.2.1 pl T' ∧ S'.1 8 = nI (if sg B len p = 91 ∨ sg B len p = 60 then p + 2 else p + 1) ∧ S'.1 10 = 0 ∧ T'.length + 5 * (stA pl (sg B len p) G V true).2.1.length ≤ 5 * (if sg B len p = 91 ∨ sg B len p = 60 then p + 2 else p + 1) ∧ ag [7, 8, 12, 14, 15, 16] [7, 8, 9, 10, 11, 12, 13] [] S S') ∧
      (¬ (stA pl (sg B len p) G V true).1 = 0 → ∃ S', zf_X11_operand N z S = some (0, S') ∧ S'.1 10 = nI (stA pl (sg B len p) G V true).1 ∧ S'.1 11 = nI p ∧ ag [8, 10, 11, 12, 15, 16] [13] [] S S')) := by
    intro s o nd my hs hat hoc ho hc hnm h2 E
    obtain ⟨o1, o2, o3⟩ := ro_open (N := N) (z := z) (pl := pl) (S := S) (c := B p) (o := o) (p := p) ho hc b2 hnm h h10 h8 (by omega) h60 hG hT
    rw [hs, stA_o hat (by omega), hoc, E]
    have eif : (if s = 91 ∨ s = 60 then p + 2 else p + 1) = (if 2 ≤ o then p + 2 else p + 1) := by
      by_cases q : 2 ≤ o
      · rw [if_pos (h2.mpr q), if_pos q]
      · rw [if_neg (fun x => q (h2.mp x)), if_neg q]
    rw [eif]
    by_cases q : 60 ≤ nop G
    · rw [if_pos q]
      obtain ⟨S', a1, a2, a3, a4⟩ := o1 q
      exact ⟨fun x => absurd x (show ¬ (2 : Nat) = 0 by decide), fun _ => ⟨S', a1, a2, a3, ag_mono a4 (by decide) (by decide) (by decide)⟩⟩
    · rw [if_neg q]
      by_cases q2 : pl = false ∧ 2 ≤ o
      · rw [if_pos q2]
        obtain ⟨S', a1, a2, a3, a4⟩ := o2 (by omega) q2
        exact ⟨fun x => absurd x (show ¬ (3 : Nat) = 0 by decide), fun _ => ⟨S', a1, a2, a3, a4⟩⟩
      · rw [if_neg q2]
        obtain ⟨S', a1, a2, a3, a4, a5⟩ := o3 (by omega) q2
        refine ⟨fun _ => ⟨S', T, a1, a2, a3, a4, ?_, ag_mono a5 (by decide) (by decide) (by decide)⟩, fun x => absurd rfl x⟩
        show T.length + 5 * (G.length + 1) ≤ _
        split <;> omega
  -- nothing that can stand
  have bad : ∀ s : Nat, sg B len p = s → ¬ isAt s → opc s = 9 → zf_X11_operand N z S = mq_cl (zf_X11_wrong N z 1 S) (fun q20v S22 => mq_nI q20v (fun x23 => mq_cz 0 (some (0, S22)))) →
      (((stA pl (sg B len p) G V true).1 = 0 → ∃ S' T', zf_X11_operand N z S = some (if (stA pl (sg B len p) G V true).2.2.2 = true then 0 else 1, S') ∧ rdR S' (stA pl (sg B len p) G V true).2.1 (stA pl (sg B len p) G V true).2.2.1 pl T' ∧ S'.1 8 = nI (if sg B len p = 91 ∨ sg B len p = 60 then p + 2 else p + 1) ∧ S'.1 10 = 0 ∧ T'.length + 5 * (stA pl (sg B len p) G V true).2.1.length ≤ 5 * (if sg B len p = 91 ∨ sg B len p = 60 then p + 2 else p + 1) ∧ ag [7, 8, 12, 14, 15, 16] [7, 8, 9, 10, 11, 12, 13] [] S S') ∧
      (¬ (stA pl (sg B len p) G V true).1 = 0 → ∃ S', zf_X11_operand N z S = some (0, S') ∧ S'.1 10 = nI (stA pl (sg B len p) G V true).1 ∧ S'.1 11 = nI p ∧ ag [8, 10, 11, 12, 15, 16] [13] [] S S')) := by
    intro s hs hat hoc E
    rw [hs, stA_n hat (by omega), E, wr1, mq_cl_s, nI_e, mq_cz_0]
    exact ⟨fun x => absurd x (show ¬ (1 : Nat) = 0 by decide), fun _ => ⟨_, rfl, rfl, rfl, wrA⟩⟩
  have hsg : ¬ B p = 91 → ¬ B p = 60 → sg B len p = B p := fun n1 n2 => by
    unfold sg
    rw [if_neg s10, if_neg n1, if_neg n2]
  by_cases hat : isAt (B p)
  · have hs := hsg (by omega) (by omega)
    rw [hs, stA_a hat]
    obtain ⟨S', T', a1, a2, a3, a4, a5⟩ := ro_atom (N := N) (z := z) (pl := pl) hN h hat h8 (by omega) hA hG hV hT
    refine ⟨fun _ => ⟨S', T', ?_, a2, by rw [if_neg (by omega)]; exact a3, (a5.1 10 (by decide)).trans h10, by rw [if_neg (show ¬ (B p = 91 ∨ B p = 60) by omega)]; exact a4, ag_mono a5 (by decide) (by decide) (by decide)⟩, fun x => absurd rfl x⟩
    rw [E0]
    have fin : zf_X11_operand_28 N z (nI (B p)) S = some (if false = true then 0 else 1, S') := a1
    rcases hat with q | q | q
    · rw [if_pos (by rw [if_pos (Or.inl (e97.mpr (by omega)))]), if_pos (e84.mpr q)]; exact fin
    · rw [if_pos (by rw [if_pos (Or.inl (e97.mpr (by omega)))]), if_neg (fun x => by have := e84.mp x; omega), if_pos (e70.mpr q)]; exact fin
    · have hno : ¬ (nI (B p) < (97 : Int32) ∨ (122 : Int32) < nI (B p)) := by
        rintro (x | x)
        · have := e97.mp x; omega
        · have := e122.mp x; omega
      rw [if_neg hno, if_neg (by decide)]; exact fin
  · have hq5 : (if nI (B p) < 97 ∨ (122 : Int32) < nI (B p) then (0 : Int32) else 1) = 0 := by
      rw [if_pos]
      by_cases q : B p < 97
      · exact Or.inl (e97.mpr q)
      · exact Or.inr (e122.mpr (by omega))
    have n84 : ¬ nI (B p) = (84 : Int32) := fun x => hat (Or.inl (e84.mp x))
    have n70 : ¬ nI (B p) = (70 : Int32) := fun x => hat (Or.inr (Or.inl (e70.mp x)))
    rw [if_pos hq5, if_neg n84, if_neg n70] at E0
    have E221 : ∀ nd my : Int32, zf_X11_operand_221 N z (nI (B p)) nd my S = (if B p = 40 then zf_X11_operand_251 N z (nI (B p)) nd my (nI 0) S else if B p = 33 then zf_X11_operand_251 N z (nI (B p)) nd my (nI 1) S else if nd = 0 then zf_X11_operand_251 N z (nI (B p)) nd my (nI 3) S else zf_X11_operand_251 N z (nI (B p)) nd my (nI 2) S) := fun nd my => by
      unfold zf_X11_operand_221
      simp only [e40, e33]
      rfl
    by_cases q40 : B p = 40
    · refine opn 40 0 0 0 (by rw [hsg (by omega) (by omega), q40]) (by decide) rfl (by omega) (by omega) (Or.inl ⟨rfl, rfl, by omega⟩) (by omega) ?_
      rw [E0, if_neg (fun x => by have := e91.mp x; omega)]
      unfold zf_X11_operand_148 zf_X11_operand_149 zf_X11_operand_189 zf_X11_operand_190
      rw [nI_e, if_neg (fun x => by have := e60.mp x; omega), nI_e, if_pos (e40.mpr q40), E221, if_pos q40]
    · by_cases q33 : B p = 33
      · refine opn 33 1 0 0 (by rw [hsg (by omega) (by omega), q33]) (by decide) rfl (by omega) (by omega) (Or.inl ⟨rfl, rfl, by omega⟩) (by omega) ?_
        rw [E0, if_neg (fun x => by have := e91.mp x; omega)]
        unfold zf_X11_operand_148 zf_X11_operand_149 zf_X11_operand_189 zf_X11_operand_190
        rw [nI_e, if_neg (fun x => by have := e60.mp x; omega), nI_e, if_neg (fun x => q40 (e40.mp x)), if_pos (e33.mpr q33), E221, if_neg q40, if_pos q33]
      · have n40 : ¬ nI (B p) = (40 : Int32) := fun x => q40 (e40.mp x)
        have n33 : ¬ nI (B p) = (33 : Int32) := fun x => q33 (e33.mp x)
        by_cases q91 : B p = 91
        · rw [if_pos (e91.mpr q91)] at E0
          have n60 : ¬ nI (B p) = (60 : Int32) := fun x => by have := e60.mp x; omega
          have no : zf_X11_operand_148 N z (nI (B p)) S = mq_cl (zf_X11_wrong N z 1 S) (fun q20v S22 => mq_nI q20v (fun x23 => mq_cz 0 (some (0, S22)))) := by
            unfold zf_X11_operand_148 zf_X11_operand_149 zf_X11_operand_189 zf_X11_operand_190
            rw [nI_e, if_neg n60, nI_e, if_neg n40, if_neg n33, if_pos rfl, if_pos rfl]
          by_cases q : p + 1 < len ∧ B (p + 1) = 93
          · have t93 : S.2.1 0 (p + 1) = (93 : Int32) := ((hB.2 (p + 1) q.1).2.2 93 (by omega)).mpr q.2
            rw [if_neg (nI_ge q.1 (by omega)), mq_ck_of i1, k1, if_pos t93] at E0
            refine opn 91 2 1 0 (by unfold sg; rw [if_neg s10, if_pos q91, if_pos q]) (by decide) rfl (by omega) (by omega) (Or.inr (Or.inl ⟨rfl, rfl, rfl⟩)) (by omega) ?_
            rw [E0]
            unfold zf_X11_operand_149 zf_X11_operand_189 zf_X11_operand_190
            rw [nI_e, if_neg n60, nI_e, if_neg n40, if_neg n33, if_neg (by decide), E221, if_neg q40, if_neg q33, if_neg (by decide)]
          · refine bad 0 (by unfold sg; rw [if_neg s10, if_pos q91, if_neg q]) (by decide) rfl ?_
            rw [E0, no]
            by_cases q2 : len ≤ p + 1
            · rw [if_pos (nI_le q2 (by omega))]
            · have t93 : ¬ S.2.1 0 (p + 1) = (93 : Int32) := fun x => q ⟨by omega, ((hB.2 (p + 1) (by omega)).2.2 93 (by omega)).mp x⟩
              rw [if_neg (nI_ge (by omega) (by omega)), mq_ck_of i1, k1, if_neg t93]
        · rw [if_neg (fun x => q91 (e91.mp x))] at E0
          by_cases q60 : B p = 60
          · have no : zf_X11_operand_189 N z (nI (B p)) 0 S = mq_cl (zf_X11_wrong N z 1 S) (fun q20v S22 => mq_nI q20v (fun x23 => mq_cz 0 (some (0, S22)))) := by
              unfold zf_X11_operand_189 zf_X11_operand_190
              rw [nI_e, if_neg n40, if_neg n33, if_pos rfl, if_pos rfl]
            have E1 : zf_X11_operand N z S = if nI len ≤ nI (p + 1) then zf_X11_operand_189 N z (nI (B p)) 0 S else mq_ck (nI (p + 1)) 4000 (if S.2.1 0 (nI (p + 1)).toNatClampNeg = (62 : Int32) then zf_X11_operand_190 N z (nI (B p)) 0 1 S else zf_X11_operand_189 N z (nI (B p)) 0 S) := by
              rw [E0]
              unfold zf_X11_operand_148 zf_X11_operand_149
              rw [nI_e, if_pos (e60.mpr q60), h9, h8, nI_1]
            by_cases q : p + 1 < len ∧ B (p + 1) = 62
            · have t62 : S.2.1 0 (p + 1) = (62 : Int32) := ((hB.2 (p + 1) q.1).2.2 62 (by omega)).mpr q.2
              rw [if_neg (nI_ge q.1 (by omega)), mq_ck_of i1, k1, if_pos t62] at E1
              refine opn 60 3 0 1 (by unfold sg; rw [if_neg s10, if_neg q91, if_pos q60, if_pos q]) (by decide) rfl (by omega) (by omega) (Or.inr (Or.inr ⟨rfl, rfl, rfl⟩)) (by omega) ?_
              rw [E1]
              unfold zf_X11_operand_190
              rw [nI_e, if_neg n40, if_neg n33, if_pos rfl, if_neg (by decide), E221, if_neg q40, if_neg q33, if_pos rfl]
            · refine bad 0 (by unfold sg; rw [if_neg s10, if_neg q91, if_pos q60, if_neg q]) (by decide) rfl ?_
              rw [E1, no]
              by_cases q2 : len ≤ p + 1
              · rw [if_pos (nI_le q2 (by omega))]
              · have t62 : ¬ S.2.1 0 (p + 1) = (62 : Int32) := fun x => q ⟨by omega, ((hB.2 (p + 1) (by omega)).2.2 62 (by omega)).mp x⟩
                rw [if_neg (nI_ge (by omega) (by omega)), mq_ck_of i1, k1, if_neg t62]
          · refine bad (B p) (hsg q91 q60) hat ?_ ?_
            · unfold opc
              rw [if_neg q40, if_neg q33, if_neg q91, if_neg q60]
            · rw [E0]
              unfold zf_X11_operand_148 zf_X11_operand_149 zf_X11_operand_189 zf_X11_operand_190
              rw [nI_e, if_neg (fun x => q60 (e60.mp x)), nI_e, if_neg n40, if_neg n33, if_pos rfl, if_pos rfl]
end RW
end
/-! 9a.refl -/
section
/-! The reference's reader: the whole text. -/
def ocR (pl : Bool) (B : Nat → Nat) (len : Nat) (R : Nat × Nat × List Nat × List Tr × Bool) (x : Int32) (S' : mq_St) : Prop :=
  (¬ R.1 = 0 ∧ ((S'.1 10 = nI R.1 ∧ S'.1 11 = nI R.2.1 ∧ R.1 ≤ 3) ∨ (R.1 = 1 ∧ S'.1 10 = 0 ∧ S'.1 8 = nI R.2.1 ∧ R.2.1 < len ∧ ¬ (B R.2.1 = 32 ∨ B R.2.1 = 10)))) ∨
  (R.1 = 0 ∧ (R.2.2.2.2 = true ∨ 0 < R.2.2.1.count 0) ∧ S'.1 10 = nI 1 ∧ S'.1 11 = nI len) ∨
  (R.1 = 0 ∧ R.2.2.2.2 = false ∧ R.2.2.1.count 0 = 0 ∧ S'.1 10 = 0 ∧ S'.1 8 = nI len ∧ ∃ T, ndR S' T ∧ T.length ≤ 2990 ∧ RV T x ((joinA pl 4 R.2.2.1 R.2.2.2.1).2.headD (.num 0)))
theorem sg_b {B : Nat → Nat} {len p : Nat} (hb : ¬ (B p = 32 ∨ B p = 10)) : ¬ sg B len p = 32 := by
  unfold sg
  rw [if_neg (fun q => hb (Or.inr q))]
  by_cases a : B p = 91
  · rw [if_pos a]; split <;> omega
  · rw [if_neg a]
    by_cases b : B p = 60
    · rw [if_pos b]; split <;> omega
    · rw [if_neg b]; exact fun q => hb (Or.inl q)
theorem sg_c {B : Nat → Nat} {len p : Nat} (hb : B p = 32 ∨ B p = 10) : sg B len p = 32 := by
  unfold sg
  rcases hb with q | q
  · rw [if_neg (by omega), if_neg (by omega), if_neg (by omega), q]
  · rw [if_pos q]
theorem sg_bic {B : Nat → Nat} {len p : Nat} (hb : ¬ (B p = 32 ∨ B p = 10)) : bic (sg B len p) = bic (B p) ∧ (sg B len p = 41 ↔ B p = 41) ∧ (4 ≤ bic (B p) → ¬ (sg B len p = 91 ∨ sg B len p = 60)) ∧ (B p = 41 → ¬ (sg B len p = 91 ∨ sg B len p = 60)) := by
  have h10 : ¬ B p = 10 := fun q => hb (Or.inr q)
  by_cases a : B p = 91
  · have hs : sg B len p = 91 ∨ sg B len p = 0 := by
      unfold sg
      rw [if_neg h10, if_pos a]
      split
      · exact Or.inl rfl
      · exact Or.inr rfl
    have e : bic (B p) = 0 := by rw [a]; rfl
    refine ⟨?_, by omega, by omega, by omega⟩
    rw [e]
    rcases hs with q | q <;> rw [q] <;> rfl
  · by_cases b : B p = 60
    · have hs : sg B len p = 60 ∨ sg B len p = 0 := by
        unfold sg
        rw [if_neg h10, if_neg a, if_pos b]
        split
        · exact Or.inl rfl
        · exact Or.inr rfl
      have e : bic (B p) = 0 := by rw [b]; rfl
      refine ⟨?_, by omega, by omega, by omega⟩
      rw [e]
      rcases hs with q | q <;> rw [q] <;> rfl
    · have hs : sg B len p = B p := by
        unfold sg
        rw [if_neg h10, if_neg a, if_neg b]
      rw [hs]
      exact ⟨rfl, Iff.rfl, fun _ => by omega, fun _ => by omega⟩
section RL
variable {N : Nat} {z : Nat → Nat} {pl : Bool} {B : Nat → Nat} {len : Nat}
theorem rz_stop {S : mq_St} {v : Int32} {fuel : Nat} (h : ¬ S.1 10 = 0) : zf_X11_whole_17 N z (fuel + 1) v S = some (0, S) := by
  show zf_X11_whole_17b N z _ v S = _
  unfold zf_X11_whole_17b
  rw [if_neg h]
/-- a sign, or none, behind an operand: the joins -/
theorem rz_sign {S : mq_St} {G : List Nat} {V T : List Tr} {fuel : Nat} {c : Int32} {w : Nat} (hN : 500 ≤ N) (hsee : zf_X11_see N z S = some (c, S)) (h10 : S.1 10 = 0) (hw : (4 ≤ w ∧ w ≤ 7 ∧ c = chr w) ∨ (w = 0 ∧ ¬ c = 61 ∧ ¬ c = 62 ∧ ¬ c = 124 ∧ ¬ c = 38)) (h : rdR S G V pl T) (hA : okA G V false) (hG : G.length ≤ 400) (hV : V.length ≤ 400) (hT : T.length + 5 * G.length < 2990) :
    ∃ S' T', zf_X11_whole_17 N z (fuel + 1) 1 S = zf_X11_whole_149 N z (fun v1 S => zf_X11_whole_17 N z fuel v1 S) 1 c (if w = 0 then -1 else nI w) S' ∧ rdR S' (joinA pl (if w = 0 then 4 else jc w) G V).1 (joinA pl (if w = 0 then 4 else jc w) G V).2 pl T' ∧ T'.length + 5 * (joinA pl (if w = 0 then 4 else jc w) G V).1.length ≤ T.length + 5 * G.length ∧ ag [7, 14, 15] [7, 8, 9, 10, 11, 12] [] S S' := by
  have hsh : zf_X11_whole_17 N z (fuel + 1) 1 S = zf_X11_whole_17b N z (fun v1 S => zf_X11_whole_17 N z fuel v1 S) 1 S := rfl
  have E : zf_X11_whole_17 N z (fuel + 1) 1 S = zf_X11_whole_85 N z (fun v1 S => zf_X11_whole_17 N z fuel v1 S) N 1 c (if w = 0 then -1 else nI w) S := by
    rw [hsh]
    unfold zf_X11_whole_17b zf_X11_whole_84
    rw [if_pos h10, if_neg (by decide), hsee, mq_cl_s, nI_e]
    rcases hw with ⟨w4, w7, hc⟩ | ⟨w0, n1, n2, n3, n4⟩
    · have : w = 4 ∨ w = 5 ∨ w = 6 ∨ w = 7 := by omega
      rcases this with rfl | rfl | rfl | rfl
      · rw [hc, if_pos (by decide), nI_e]; rfl
      · rw [hc, if_neg (by decide), if_pos (by decide), nI_e]; rfl
      · rw [hc, if_neg (by decide), if_neg (by decide), if_pos (by decide), nI_e]; rfl
      · rw [hc, if_neg (by decide), if_neg (by decide), if_neg (by decide), if_pos (by decide), nI_e]; rfl
    · rw [if_neg n1, if_neg n2, if_neg n3, if_neg n4, nI_e, if_pos w0]
  have hv3 : ∀ g : Nat, 4 ≤ g → g ≤ 7 → ((if w = 0 then (-1 : Int32) else nI w) < nI g ∨ (nI g = (if w = 0 then -1 else nI w) ∧ ¬ (if w = 0 then (-1 : Int32) else nI w) = 5) ↔ (if w = 0 then 4 else jc w) ≤ g) := by
    intro g g4 g7
    by_cases w0 : w = 0
    · rw [if_pos w0, if_pos w0]
      have : (-1 : Int32) < nI g := by
        rw [Int32.lt_iff_toInt_lt, nI_toInt (by omega), show (-1 : Int32).toInt = -1 from by decide]
        omega
      exact ⟨fun _ => g4, fun _ => Or.inl this⟩
    · rw [if_neg w0, if_neg w0]
      have hw7 : w ≤ 7 := by omega
      have q1 : (nI w < nI g) ↔ w < g := nI_ltI (by omega) (by omega)
      have q2 : (nI g = nI w) ↔ g = w := nI_eq (by omega) (by omega)
      have q3 : (nI w = (5 : Int32)) ↔ w = 5 := nI_eq (b := 5) (by omega) (by omega)
      rw [q1, q2, q3]
      unfold jc
      by_cases e : w = 5
      · rw [if_pos e]; omega
      · rw [if_neg e]; omega
  have hc : 4 ≤ (if w = 0 then 4 else jc w) ∧ (if w = 0 then 4 else jc w) ≤ 8 := by
    by_cases w0 : w = 0
    · rw [if_pos w0]; omega
    · rw [if_neg w0]; unfold jc; split <;> omega
  obtain ⟨S', T', a1, a2, a3, a4⟩ := rj_all (N := N) (z := z) (pl := pl) (k17 := fun v1 S => zf_X11_whole_17 N z fuel v1 S) (v1 := 1) (v2 := c) (v3 := if w = 0 then -1 else nI w) hc hv3 G V S T N h hA.1 (hA.2.1 rfl) hA.2.2.1 (by omega) hG hV hT
  exact ⟨S', T', E.trans a1, a2, a3, a4⟩
theorem rz_end {S : mq_St} {G : List Nat} {V T : List Tr} {od : Bool} {fuel : Nat} (hN : 500 ≤ N) (hB : tpR S B len) (h9 : S.1 9 = nI len) (h8 : S.1 8 = nI len) (h : rdR S G V pl T) (h10 : S.1 10 = 0) (hA : okA G V od) (hG : G.length ≤ 400) (hV : V.length ≤ 400) (hT : T.length + 5 * G.length < 2990) :
    ∃ x S', zf_X11_whole_17 N z (fuel + 2) (if od = true then 0 else 1) S = some (x, S') ∧ ocR pl B len (0, len, G, V, od) x S' ∧ ag [7, 8, 10, 11, 12, 14, 15, 16] [7, 8, 9, 10, 11, 12, 13] [] S S' := by
  have hl := hB.1
  have hsee := rs_end (N := N) (z := z) hN hB h9 h8
  cases od with
  | true =>
    have hsh : zf_X11_whole_17 N z (fuel + 2) 0 S = zf_X11_whole_17b N z (fun v1 S => zf_X11_whole_17 N z (fuel + 1) v1 S) 0 S := rfl
    have wr1 : zf_X11_wrong N z 1 S = some (0, mq_si (mq_si S 10 (nI 1)) 11 (nI len)) := ro_wrong (k := 1) h10 h8
    have E : zf_X11_operand N z S = some (0, mq_si (mq_si S 10 (nI 1)) 11 (nI len)) := by
      unfold zf_X11_operand zf_X11_operand_148 zf_X11_operand_149 zf_X11_operand_189 zf_X11_operand_190
      rw [hsee, mq_cl_s, nI_e, rf_in, mq_cp_s, if_pos (by decide), if_neg (by decide), if_neg (by decide), if_neg (by decide), nI_e, if_neg (by decide), nI_e, if_neg (by decide), if_neg (by decide), if_pos rfl, if_pos rfl, wr1, mq_cl_s, nI_e, mq_cz_0]
    refine ⟨0, mq_si (mq_si S 10 (nI 1)) 11 (nI len), ?_, Or.inr (Or.inl ⟨rfl, Or.inl rfl, rfl, rfl⟩), ag_tr (ag_si (by decide)) (ag_si (by decide))⟩
    rw [if_pos rfl, hsh]
    unfold zf_X11_whole_17b
    rw [if_pos h10, if_pos rfl, E, mq_cl_s, nI_e]
    exact rz_stop (by show ¬ nI 1 = 0; decide)
  | false =>
    obtain ⟨S1, T1, a1, a2, a3, a4⟩ := rz_sign (N := N) (z := z) (pl := pl) (fuel := fuel + 1) (c := -1) (w := 0) hN hsee h10 (Or.inr ⟨rfl, by decide, by decide, by decide, by decide⟩) h hA hG hV hT
    rw [if_pos rfl] at a1 a2
    obtain ⟨h1, h2, h3, h4⟩ := hA
    have h2 := h2 rfl
    have h3 : V.length = nbi G + 1 := h3
    have e10 : S1.1 10 = 0 := (a4.1 10 (by decide)).trans h10
    have e8 : S1.1 8 = nI len := (a4.1 8 (by decide)).trans h8
    have g1 : ag [7, 8, 10, 11, 12, 14, 15, 16] [7, 8, 9, 10, 11, 12, 13] [] S S1 := ag_mono a4 (by decide) (by decide) (by decide)
    rw [if_neg (by decide), a1]
    unfold zf_X11_whole_149 zf_X11_whole_249 zf_X11_whole_273
    rw [if_pos rfl, if_neg (by decide)]
    obtain ⟨j1, j2, j3, j4, j5, j6, j7, j8, j9⟩ := joinA_ok (pl := pl) (c := 4) (Nat.le_refl _) G V h1 h2 h3 h4
    have c16 : S1.1 16 = nI (G.count 0) := by rw [a2.2.2.2.2.2.1, j7]
    rw [c16]
    by_cases hz : 0 < G.count 0
    · rw [if_neg (nI_nle hz (by have := List.count_le_length (a := 0) (l := G); omega)), show (1 : Int32) = nI 1 from rfl, ro_wrong (k := 1) e10 e8, mq_cl_s, nI_e]
      refine ⟨0, mq_si (mq_si S1 10 (nI 1)) 11 (nI len), rz_stop (by show ¬ nI 1 = 0; decide), Or.inr (Or.inl ⟨rfl, Or.inr hz, rfl, rfl⟩), ag_tr (ag_tr g1 (ag_si (by decide))) (ag_si (by decide))⟩
    · have hz0 : G.count 0 = 0 := by omega
      have jn := (joinA_4 (pl := pl) h1 h2 h3 h4).1 hz0
      rw [jn] at j3 a2
      have j3 : (joinA pl 4 G V).2.length = 1 := j3
      obtain ⟨x, hx⟩ : ∃ x, (joinA pl 4 G V).2 = [x] := by
        match hq : (joinA pl 4 G V).2, j3 with
        | [x], _ => exact ⟨x, rfl⟩
      rw [hx] at a2
      have i0 : vp_in (0 : Int32) 410 := vp_in_nI (n := 0) (by omega) (by omega)
      rw [hz0, if_pos (by decide), mq_ck_of i0, show (0 : Int32).toNatClampNeg = 0 from nI_clamp (n := 0) (by omega)]
      refine ⟨S1.2.1 12 0, S1, rfl, Or.inr (Or.inr ⟨rfl, rfl, hz0, e10, e8, T1, a2.2.2.2.2.2.2.2, by omega, ?_⟩), g1⟩
      show RV T1 (S1.2.1 12 0) ((joinA pl 4 G V).2.headD (.num 0))
      rw [hx]
      exact a2.2.2.2.1.1
theorem rz_loop (hN : 500 ≤ N) : ∀ (n p : Nat) (S : mq_St) (G : List Nat) (V T : List Tr) (od : Bool) (fuel : Nat), tpR S B len → S.1 9 = nI len → S.1 8 = nI p → p ≤ len → rdR S G V pl T → S.1 10 = 0 → okA G V od → nop G ≤ 60 → G.length ≤ p → V.length ≤ p → T.length + 5 * G.length ≤ 5 * p → len - p < n → n + 2 ≤ fuel →
    ∃ x S', zf_X11_whole_17 N z fuel (if od = true then 0 else 1) S = some (x, S') ∧ ocR pl B len (paA pl B len n p G V od) x S' ∧ ag [7, 8, 10, 11, 12, 14, 15, 16] [7, 8, 9, 10, 11, 12, 13] [] S S' := by
  intro n
  induction n with
  | zero => intro p S G V T od fuel _ _ _ _ _ _ _ _ _ _ _ h; omega
  | succ n ih =>
    intro p S G V T od fuel hB h9 h8 hp h h10 hA h60 hG hV hT hn hf
    have hl := hB.1
    obtain ⟨fu, rfl⟩ : ∃ q, fuel = q + 1 := ⟨fuel - 1, by omega⟩
    by_cases e : len ≤ p
    · have ep : p = len := by omega
      subst ep
      have Q : paA pl B p (n + 1) p G V od = (0, p, G, V, od) := by rw [paA, if_pos e]
      rw [Q]
      obtain ⟨fv, rfl⟩ : ∃ q, fu = q + 1 := ⟨fu - 1, by omega⟩
      exact rz_end hN hB h9 h8 h h10 hA (by omega) (by omega) (by omega)
    · by_cases hb : B p = 32 ∨ B p = 10
      · have Q : paA pl B len (n + 1) p G V od = paA pl B len n (p + 1) G V od := by rw [paA, if_neg e, if_pos (sg_c hb)]
        rw [Q]
        have hsee := rs_blank (N := N) (z := z) hN hB h9 h8 (by omega) hb
        obtain ⟨c15, cG, c14, cV, c12, c16, c13, cn⟩ := h
        obtain ⟨x, S', a1, a2, a3⟩ := ih (p + 1) (mq_si S 8 (nI (p + 1))) G V T od (fu + 1) hB h9 rfl (by omega) ⟨c15, cG, c14, cV, c12, c16, c13, ndR_c cn rfl rfl rfl rfl rfl rfl⟩ h10 hA h60 (by omega) (by omega) (by omega) (by omega) (by omega)
        refine ⟨x, S', ?_, a2, ag_tr (ag_si (by decide)) a3⟩
        rw [← a1]
        show zf_X11_whole_17b N z _ _ S = zf_X11_whole_17b N z _ _ (mq_si S 8 (nI (p + 1)))
        have e10 : (mq_si S 8 (nI (p + 1))).1 10 = S.1 10 := rfl
        unfold zf_X11_whole_17b zf_X11_operand
        rw [e10, hsee]
        cases od with
        | true => rw [if_pos h10, if_pos rfl, if_pos h10, if_pos rfl]
        | false => rw [if_pos h10, if_neg (by decide), if_pos h10, if_neg (by decide)]
      · have hs32 := sg_b (len := len) hb
        have hBl : B p < 256 := (hB.2 p (by omega)).2.1
        obtain ⟨g1, g2, g3, g4⟩ := sg_bic (len := len) hb
        have hsee := rs_here (N := N) (z := z) hN hB h9 h8 (by omega) hb
        have tp' : ∀ S1 : mq_St, ag [7, 8, 10, 11, 12, 14, 15, 16] [7, 8, 9, 10, 11, 12, 13] [] S S1 → tpR S1 B len ∧ S1.1 9 = nI len := fun S1 g => ⟨by
          unfold tpR
          rw [g.2.1 0 (by decide)]
          exact hB, (g.1 9 (by decide)).trans h9⟩
        -- the sign fails
        have fault : ∀ (x : Int32) (S' : mq_St), ¬ (stA pl (sg B len p) G V od).1 = 0 → ((S'.1 10 = nI (stA pl (sg B len p) G V od).1 ∧ S'.1 11 = nI p) ∨ ((stA pl (sg B len p) G V od).1 = 1 ∧ S'.1 10 = 0 ∧ S'.1 8 = nI p)) → ocR pl B len (paA pl B len (n + 1) p G V od) x S' := by
          intro x S' h0 q
          have Q : paA pl B len (n + 1) p G V od = ((stA pl (sg B len p) G V od).1, p, G, V, od) := by rw [paA, if_neg e, if_neg hs32, if_neg h0]
          rw [Q]
          have h3 : (stA pl (sg B len p) G V od).1 ≤ 3 := by
            unfold stA
            repeat' split
            all_goals (first | exact Nat.zero_le _ | exact Nat.le_refl _ | exact (by decide : 1 ≤ 3) | exact (by decide : 2 ≤ 3))
          refine Or.inl ⟨h0, ?_⟩
          rcases q with ⟨q1, q2⟩ | ⟨q1, q2, q3⟩
          · exact Or.inl ⟨q1, q2, h3⟩
          · exact Or.inr ⟨q1, q2, q3, by show p < len; omega, hb⟩
        -- it stands
        have go : ∀ (S1 : mq_St) (T1 : List Tr), (stA pl (sg B len p) G V od).1 = 0 → rdR S1 (stA pl (sg B len p) G V od).2.1 (stA pl (sg B len p) G V od).2.2.1 pl T1 → S1.1 8 = nI (if sg B len p = 91 ∨ sg B len p = 60 then p + 2 else p + 1) → S1.1 10 = 0 → T1.length + 5 * (stA pl (sg B len p) G V od).2.1.length ≤ 5 * (if sg B len p = 91 ∨ sg B len p = 60 then p + 2 else p + 1) → ag [7, 8, 10, 11, 12, 14, 15, 16] [7, 8, 9, 10, 11, 12, 13] [] S S1 → zf_X11_whole_17 N z (fu + 1) (if od = true then 0 else 1) S = zf_X11_whole_17 N z fu (if (stA pl (sg B len p) G V od).2.2.2 = true then 0 else 1) S1 →
            ∃ x S', zf_X11_whole_17 N z (fu + 1) (if od = true then 0 else 1) S = some (x, S') ∧ ocR pl B len (paA pl B len (n + 1) p G V od) x S' ∧ ag [7, 8, 10, 11, 12, 14, 15, 16] [7, 8, 9, 10, 11, 12, 13] [] S S' := by
          intro S1 T1 h0 r1 r8 r10 rT ga E
          have Q : paA pl B len (n + 1) p G V od = paA pl B len n (if sg B len p = 91 ∨ sg B len p = 60 then p + 2 else p + 1) (stA pl (sg B len p) G V od).2.1 (stA pl (sg B len p) G V od).2.2.1 (stA pl (sg B len p) G V od).2.2.2 := by rw [paA, if_neg e, if_neg hs32, if_pos h0]
          have hok := stA_ok hA h0
          have hnp := stA_nop hA h60 h0
          have hp2 : p + 1 ≤ (if sg B len p = 91 ∨ sg B len p = 60 then p + 2 else p + 1) ∧ (if sg B len p = 91 ∨ sg B len p = 60 then p + 2 else p + 1) ≤ len := by
            by_cases q : sg B len p = 91 ∨ sg B len p = 60
            · rw [if_pos q]
              refine ⟨by omega, ?_⟩
              unfold sg at q
              by_cases b1 : B p = 10
              · rw [if_pos b1] at q; omega
              · rw [if_neg b1] at q
                by_cases b2 : B p = 91
                · rw [if_pos b2] at q
                  by_cases b3 : p + 1 < len ∧ B (p + 1) = 93
                  · omega
                  · rw [if_neg b3] at q; omega
                · rw [if_neg b2] at q
                  by_cases b4 : B p = 60
                  · rw [if_pos b4] at q
                    by_cases b5 : p + 1 < len ∧ B (p + 1) = 62
                    · omega
                    · rw [if_neg b5] at q; omega
                  · rw [if_neg b4] at q; omega
            · rw [if_neg q]; omega
          obtain ⟨t1, t2⟩ := tp' S1 ga
          obtain ⟨x, S', a1, a2, a3⟩ := ih _ S1 _ _ T1 (stA pl (sg B len p) G V od).2.2.2 fu t1 t2 r8 hp2.2 r1 r10 hok.1 hnp (by omega) (by omega) rT (by omega) (by omega)
          exact ⟨x, S', E.trans a1, by rw [Q]; exact a2, ag_tr ga a3⟩
        cases od with
        | true =>
          have E0 : ∀ (v : Int32) (S1 : mq_St), zf_X11_operand N z S = some (v, S1) → zf_X11_whole_17 N z (fu + 1) (if true = true then 0 else 1) S = zf_X11_whole_17 N z fu v S1 := by
            intro v S1 q
            rw [if_pos rfl]
            show zf_X11_whole_17b N z (fun v1 S => zf_X11_whole_17 N z fu v1 S) 0 S = _
            unfold zf_X11_whole_17b
            rw [if_pos h10, if_pos rfl, q, mq_cl_s, nI_e]
          obtain ⟨A, F⟩ := rw_operand (N := N) (z := z) (pl := pl) hN hB h9 h8 (by omega) hb h h10 hA h60 hG hV hT
          by_cases h0 : (stA pl (sg B len p) G V true).1 = 0
          · obtain ⟨S1, T1, a1, a2, a3, a4, a5, a6⟩ := A h0
            exact go S1 T1 h0 a2 a3 a4 a5 (ag_mono a6 (by decide) (by decide) (by decide)) (E0 _ _ a1)
          · obtain ⟨S1, a1, a2, a3, a4⟩ := F h0
            obtain ⟨fv, rfl⟩ : ∃ q, fu = q + 1 := ⟨fu - 1, by omega⟩
            have h3 : (stA pl (sg B len p) G V true).1 ≤ 3 := by
              unfold stA
              repeat' split
              all_goals (first | exact Nat.zero_le _ | exact Nat.le_refl _ | exact (by decide : 1 ≤ 3) | exact (by decide : 2 ≤ 3))
            refine ⟨0, S1, (E0 _ _ a1).trans (rz_stop (by rw [a2]; exact nI_ne0 (by omega) (by omega))), fault 0 S1 h0 (Or.inl ⟨a2, a3⟩), ag_mono a4 (by decide) (by decide) (by decide)⟩
        | false =>
          have hAA := hA
          obtain ⟨h1, h2, h3, h4⟩ := hA
          have h2 := h2 rfl
          have h3 : V.length = nbi G + 1 := h3
          have hsig := fun (w : Nat) hw => rz_sign (N := N) (z := z) (pl := pl) (S := S) (G := G) (V := V) (T := T) (fuel := fu) (c := nI (B p)) (w := w) hN hsee h10 hw h hAA (by omega) (by omega) (by omega)
          have e41 : (nI (B p) = (41 : Int32)) ↔ B p = 41 := nI_eq (b := 41) (by omega) (by omega)
          by_cases hbc : 4 ≤ bic (B p)
          · obtain ⟨n1, n2, n3, n4, n5⟩ := bic_no hbc
            obtain ⟨S1, T1, a1, a2, a3, a4⟩ := hsig (bic (B p)) (Or.inl ⟨hbc, n4, (chr_b hbc).symm⟩)
            rw [if_neg (by omega)] at a1 a2 a3
            have Qs : stA pl (sg B len p) G V false = (0, bic (B p) :: (joinA pl (jc (bic (B p))) G V).1, (joinA pl (jc (bic (B p))) G V).2, true) := by
              unfold stA
              rw [if_neg (by decide), g1, if_pos hbc]
            obtain ⟨j1, j2, j3, j4, j5, j6, j7, j8, j9⟩ := joinA_ok (pl := pl) (c := jc (bic (B p))) (by unfold jc; split <;> omega) G V h1 h2 h3 h4
            obtain ⟨c15, cG, c14, cV, c12, c16, c13, cn⟩ := a2
            have e8 : S1.1 8 = nI p := (a4.1 8 (by decide)).trans h8
            refine go (mq_si (mq_sa (mq_si S1 8 (nI (p + 1))) 13 (upd (S1.2.1 13) (joinA pl (jc (bic (B p))) G V).1.length (nI (bic (B p))))) 15 (nI ((joinA pl (jc (bic (B p))) G V).1.length + 1))) T1 (by rw [Qs]) ?_ ?_ ((a4.1 10 (by decide)).trans h10) ?_ ?_ ?_
            · rw [Qs]
              refine ⟨rfl, ⟨?_, onGR_upd (Nat.le_refl _) cG⟩, c14, cV, ?_, ?_, c13, ndR_c cn rfl rfl rfl rfl rfl rfl⟩
              · show upd (S1.2.1 13) _ _ _ = _
                rw [up_s]
              · show S1.1 12 = _
                rw [c12, nop_c, if_neg (by omega)]; rfl
              · show S1.1 16 = _
                rw [c16, cn0_c, if_neg (by omega)]; rfl
            · rw [if_neg (g3 hbc)]; rfl
            · rw [Qs, if_neg (g3 hbc)]
              show T1.length + 5 * ((joinA pl (jc (bic (B p))) G V).1.length + 1) ≤ 5 * (p + 1)
              omega
            · refine ag_tr ?_ (ag_si (by decide))
              refine ag_tr ?_ (ag_sa (by decide))
              refine ag_tr ?_ (ag_si (by decide))
              exact ag_mono a4 (by decide) (by decide) (by decide)
            · rw [Qs, if_neg (by decide), a1]
              unfold zf_X11_whole_149 zf_X11_whole_273
              rw [if_neg (nI_nm1 (by omega)), e8, nI_1, nS_e, show (mq_si S1 8 (nI (p + 1))).1 15 = nI (joinA pl (jc (bic (B p))) G V).1.length from c15, mq_ck_of (vp_in_nI (by omega) (by omega)), nI_clamp (by omega), nS_e, nS_e, show (mq_sa (mq_si S1 8 (nI (p + 1))) 13 (upd ((mq_si S1 8 (nI (p + 1))).2.1 13) (joinA pl (jc (bic (B p))) G V).1.length (nI (bic (B p))))).1 15 = nI (joinA pl (jc (bic (B p))) G V).1.length from c15, nI_1, nI_e]
              rfl
          · have hb0 : bic (B p) = 0 := by
              unfold bic at hbc ⊢
              repeat' split at hbc
              all_goals first | omega | (repeat' split; all_goals omega)
            have nsig : ¬ nI (B p) = (61 : Int32) ∧ ¬ nI (B p) = (62 : Int32) ∧ ¬ nI (B p) = (124 : Int32) ∧ ¬ nI (B p) = (38 : Int32) := by
              have q1 : (nI (B p) = (61 : Int32)) ↔ B p = 61 := nI_eq (b := 61) (by omega) (by omega)
              have q2 : (nI (B p) = (62 : Int32)) ↔ B p = 62 := nI_eq (b := 62) (by omega) (by omega)
              have q3 : (nI (B p) = (124 : Int32)) ↔ B p = 124 := nI_eq (b := 124) (by omega) (by omega)
              have q4 : (nI (B p) = (38 : Int32)) ↔ B p = 38 := nI_eq (b := 38) (by omega) (by omega)
              rw [q1, q2, q3, q4]
              refine ⟨fun x => ?_, fun x => ?_, fun x => ?_, fun x => ?_⟩ <;> (rw [x] at hb0; exact absurd hb0 (by decide))
            obtain ⟨S1, T1, a1, a2, a3, a4⟩ := hsig 0 (Or.inr ⟨rfl, nsig⟩)
            rw [if_pos rfl] at a1 a2 a3
            have e8 : S1.1 8 = nI p := (a4.1 8 (by decide)).trans h8
            have e10 : S1.1 10 = 0 := (a4.1 10 (by decide)).trans h10
            obtain ⟨j1, j2, j3, j4, j5, j6, j7, j8, j9⟩ := joinA_ok (pl := pl) (c := 4) (Nat.le_refl _) G V h1 h2 h3 h4
            have g1' : ag [7, 8, 10, 11, 12, 14, 15, 16] [7, 8, 9, 10, 11, 12, 13] [] S S1 := ag_mono a4 (by decide) (by decide) (by decide)
            have c16' : S1.1 16 = nI (G.count 0) := by rw [a2.2.2.2.2.2.1, j7]
            by_cases hcl : B p = 41 ∧ 0 < G.count 0
            · obtain ⟨G', eG⟩ := (joinA_4 (pl := pl) h1 h2 h3 h4).2 hcl.2
              rw [eG] at a2 a3 j1 j3 j6 j7 j8
              rw [nbi_c, if_neg (by omega)] at j3
              rw [nop_c, if_pos (by omega)] at j6
              rw [cn0_c, if_pos rfl] at j7
              have j8 : G'.length + 1 ≤ G.length := j8
              have a3 : T1.length + 5 * (G'.length + 1) ≤ T.length + 5 * G.length := a3
              have Qs : stA pl (sg B len p) G V false = (0, (aheadA pl G' (joinA pl 4 G V).2).1, (aheadA pl G' (joinA pl 4 G V).2).2, false) := by
                unfold stA
                rw [if_neg (by decide), if_neg (by rw [g1]; exact hbc), if_pos ⟨g2.mpr hcl.1, hcl.2⟩, eG]
                rfl
              obtain ⟨c15, cG, c14, cV, c12, c16, c13, cn⟩ := a2
              rw [nop_c, if_pos (by omega)] at c12
              have ne : ¬ S1.1 16 ≤ 0 := by
                rw [c16']
                exact nI_nle hcl.2 (by have := List.count_le_length (a := 0) (l := G); omega)
              obtain ⟨S2, T2, b1, b2, b3, b4⟩ := rj_ahead (N := N) (z := z) (pl := pl) G' (joinA pl 4 G V).2 (mq_si (mq_si (mq_si (mq_si S1 8 (nI (p + 1))) 16 (nI (G'.count 0))) 15 (nI G'.length)) 12 (nI (nop G'))) T1 N ⟨rfl, cG.2, c14, cV, rfl, rfl, c13, ndR_c cn rfl rfl rfl rfl rfl rfl⟩ j1.2.2 j3 (by omega) (by omega) (by omega) (by omega)
              refine go S2 T2 (by rw [Qs]) (by rw [Qs]; exact b2) (by rw [if_neg (g4 hcl.1)]; exact b4.1 8 (by decide)) ((b4.1 10 (by decide)).trans e10) (by rw [Qs, if_neg (g4 hcl.1)]; show T2.length + 5 * (aheadA pl G' (joinA pl 4 G V).2).1.length ≤ 5 * (p + 1); omega) ?_ ?_
              · refine ag_tr ?_ (ag_mono b4 (by decide) (by decide) (by decide))
                refine ag_tr ?_ (ag_si (by decide))
                refine ag_tr ?_ (ag_si (by decide))
                refine ag_tr ?_ (ag_si (by decide))
                refine ag_tr ?_ (ag_si (by decide))
                exact g1'
              · rw [Qs, if_neg (by decide), a1]
                unfold zf_X11_whole_149 zf_X11_whole_273 zf_X11_ahead
                rw [if_pos rfl, if_pos (e41.mpr hcl.1), if_neg ne, e8, nI_1, nS_e, nS_e, nS_e, nS_e]
                rw [show (mq_si S1 8 (nI (p + 1))).1 16 - 1 = nI (G'.count 0) from by
                  show S1.1 16 - 1 = _
                  rw [c16', ← j7, nI_pred], show (mq_si (mq_si S1 8 (nI (p + 1))) 16 (nI (G'.count 0))).1 15 - 1 = nI G'.length from by
                  show S1.1 15 - 1 = _
                  rw [c15]
                  exact nI_pred _, show (mq_si (mq_si (mq_si S1 8 (nI (p + 1))) 16 (nI (G'.count 0))) 15 (nI G'.length)).1 12 - 1 = nI (nop G') from by
                  show S1.1 12 - 1 = _
                  rw [c12, nI_pred], b1, mq_cl_s]
            · have Qs : (stA pl (sg B len p) G V false).1 = 1 := by
                unfold stA
                rw [if_neg (by decide), if_neg (by rw [g1]; exact hbc), if_neg (fun q => hcl ⟨g2.mp q.1, q.2⟩)]
              have h0 : ¬ (stA pl (sg B len p) G V false).1 = 0 := by rw [Qs]; decide
              have E1 : zf_X11_whole_149 N z (fun v1 S => zf_X11_whole_17 N z fu v1 S) 1 (nI (B p)) (-1) S1 = zf_X11_whole_249 N z (fun v1 S => zf_X11_whole_17 N z fu v1 S) 1 S1 := by
                unfold zf_X11_whole_149
                rw [if_pos rfl]
                by_cases q : B p = 41
                · rw [if_pos (e41.mpr q), c16', show G.count 0 = 0 from by
                    have : ¬ 0 < G.count 0 := fun x => hcl ⟨q, x⟩
                    omega, if_pos (by decide)]
                · rw [if_neg (fun x => q (e41.mp x))]
              rw [if_neg (by decide), a1, E1]
              unfold zf_X11_whole_249 zf_X11_whole_273
              rw [c16']
              obtain ⟨fv, rfl⟩ : ∃ q, fu = q + 1 := ⟨fu - 1, by omega⟩
              by_cases hz : 0 < G.count 0
              · rw [if_neg (nI_nle hz (by have := List.count_le_length (a := 0) (l := G); omega)), show (1 : Int32) = nI 1 from rfl, ro_wrong (k := 1) e10 e8, mq_cl_s, nI_e]
                refine ⟨0, mq_si (mq_si S1 10 (nI 1)) 11 (nI p), rz_stop (by show ¬ nI 1 = 0; decide), fault _ _ h0 (Or.inl ⟨by rw [Qs]; rfl, rfl⟩), ag_tr (ag_tr g1' (ag_si (by decide))) (ag_si (by decide))⟩
              · have hz0 : G.count 0 = 0 := by omega
                have i0 : vp_in (0 : Int32) 410 := vp_in_nI (n := 0) (by omega) (by omega)
                rw [hz0, if_pos (by decide), mq_ck_of i0]
                exact ⟨_, S1, rfl, fault _ _ h0 (Or.inr ⟨Qs, e10, e8⟩), g1'⟩
end RL
end
/-! 9b.makes -/
section
/-! The reference makes what it has read: makes(). -/
def ndM (S : mq_St) (T : List Tr) : Prop := T.length ≤ 3000 ∧ (∀ t ∈ T, wf t) ∧ ∀ x t, T[x]? = some t → entR (T.take x) (S.2.1 7 x) (S.2.1 8 x) (S.2.1 9 x) t
theorem ndM_c {S S' : mq_St} {T : List Tr} (h : ndM S T) (a7 : S'.2.1 7 = S.2.1 7) (a8 : S'.2.1 8 = S.2.1 8) (a9 : S'.2.1 9 = S.2.1 9) : ndM S' T := by
  unfold ndM
  rw [a7, a8, a9]
  exact h
/-- what is known of a mark (a node's YES, even, or its NO) -/
def Dm (S : mq_St) (m : Nat) : Int32 := if m % 2 = 0 then S.2.1 10 (m / 2) else S.2.1 11 (m / 2)
def isv (m : Nat) : Int32 := if m % 2 = 0 then 1 else 0
def mkE (e : En) (o : Option (List En)) : Option (List En) := o.bind (fun L => if (m1 e L).2.length ≤ 300 then some (m1 e L).2 else none)
def mkO (t : Tr) (o : Option (List En)) : Option (List En) := o.bind (fun L => if (mk t L).2.length ≤ 300 then some (mk t L).2 else none)
def Qm (T : List Tr) (L0 : List En) (S : mq_St) : Option (List En) → Prop
  | some L => S.1 6 = 0 ∧ tbR S L ∧ ok0 L ∧ (∃ X, L = L0 ++ X) ∧ ∀ m t, mt T m t → Dm S m = -1 ∨ ∃ k : Nat, Dm S m = nI k ∧ pr t L k
  | none => S.1 6 = 1 ∧ ∃ X, tbR S (L0 ++ X)
theorem Dm_c {S S' : mq_St} (e10 : S'.2.1 10 = S.2.1 10) (e11 : S'.2.1 11 = S.2.1 11) (m : Nat) : Dm S' m = Dm S m := by
  unfold Dm
  rw [e10, e11]
theorem tbR_c {S S' : mq_St} {L : List En} (h : tbR S L) (e3 : S'.1 3 = S.1 3) (e2 : S'.2.1 2 = S.2.1 2) (a3 : S'.2.1 3 = S.2.1 3) (a4 : S'.2.1 4 = S.2.1 4) : tbR S' L := by
  unfold tbR
  rw [e3, e2, a3, a4]
  exact h
theorem Qm_c {T : List Tr} {L0 : List En} {S S' : mq_St} {o : Option (List En)} (h : Qm T L0 S o) (g : ag [17] [14] [] S S') : Qm T L0 S' o := by
  have e3 := g.1 3 (by decide)
  have e2 := g.2.1 2 (by decide)
  have a3 := g.2.1 3 (by decide)
  have a4 := g.2.1 4 (by decide)
  cases o with
  | none =>
    obtain ⟨h1, X, h2⟩ := h
    exact ⟨(g.1 6 (by decide)).trans h1, X, tbR_c h2 e3 e2 a3 a4⟩
  | some L =>
    obtain ⟨h1, h2, h3, h4, h5⟩ := h
    refine ⟨(g.1 6 (by decide)).trans h1, tbR_c h2 e3 e2 a3 a4, h3, h4, fun m t q => ?_⟩
    rw [Dm_c (g.2.1 10 (by decide)) (g.2.1 11 (by decide))]
    exact h5 m t q
section MK
variable {N : Nat} {z : Nat → Nat} {S : mq_St} {T : List Tr} {L0 : List En} {o : Option (List En)} {wm : Nat}
theorem mz_make {s a b : Int32} (hN : 400 ≤ N) (hL0 : L0.length ≤ 300) (h : Qm T L0 S o) : ∃ v S', zf_X11_make N z s a b S = some (v, S') ∧ Qm T L0 S' (mkE (s, a, b) o) ∧ ¬ v = -1 ∧ (∀ L, o = some L → (m1 (s, a, b) L).2.length ≤ 300 → v = nI (m1 (s, a, b) L).1) ∧ ag [3, 6] [2, 3, 4] [] S S' := by
  cases o with
  | some L =>
    obtain ⟨h1, h2, h3, ⟨X, h4⟩, h5⟩ := h
    obtain ⟨A, B⟩ := rf_mk (N := N) (z := z) (s := s) (a := a) (b := b) hN h2
    by_cases q : (m1 (s, a, b) L).2.length ≤ 300
    · obtain ⟨S', a1, a2, a3⟩ := A q
      obtain ⟨Y, hY, -⟩ := m1_ext (s, a, b) L
      have hlt : (m1 (s, a, b) L).1 < 300 := by
        have := List.idxOf_lt_length_of_mem (m1_mem (s, a, b) L)
        rw [← m1_idx] at this
        omega
      refine ⟨_, S', a1, ?_, nI_nm1 (by omega), fun L' e _ => by rw [← Option.some.inj e], ag_mono a3 (by decide) (by decide) (by decide)⟩
      show Qm T L0 S' (if (m1 (s, a, b) L).2.length ≤ 300 then some (m1 (s, a, b) L).2 else none)
      rw [if_pos q]
      refine ⟨(a3.1 6 (by decide)).trans h1, a2, by rw [hY]; exact ok0_app h3 Y, ⟨X ++ Y, by rw [hY, h4, List.append_assoc]⟩, fun m t hm => ?_⟩
      rw [Dm_c (a3.2.1 10 (by decide)) (a3.2.1 11 (by decide)), hY]
      rcases h5 m t hm with e | ⟨k, e, p⟩
      · exact Or.inl e
      · exact Or.inr ⟨k, e, pr_mono p Y⟩
    · refine ⟨0, mq_si S 6 1, B (by omega), ?_, by decide, fun L' e q' => by rw [← Option.some.inj e] at q'; exact absurd q' q, ag_si (by decide)⟩
      show Qm T L0 _ (if (m1 (s, a, b) L).2.length ≤ 300 then some (m1 (s, a, b) L).2 else none)
      rw [if_neg q]
      exact ⟨rfl, X, by rw [← h4]; exact tbR_c h2 rfl rfl rfl rfl⟩
  | none =>
    obtain ⟨h1, X, h2⟩ := h
    obtain ⟨A, B⟩ := rf_mk (N := N) (z := z) (s := s) (a := a) (b := b) hN h2
    by_cases q : (m1 (s, a, b) (L0 ++ X)).2.length ≤ 300
    · obtain ⟨S', a1, a2, a3⟩ := A q
      obtain ⟨Y, hY, -⟩ := m1_ext (s, a, b) (L0 ++ X)
      have hlt : (m1 (s, a, b) (L0 ++ X)).1 < 300 := by
        have := List.idxOf_lt_length_of_mem (m1_mem (s, a, b) (L0 ++ X))
        rw [← m1_idx] at this
        omega
      refine ⟨_, S', a1, ⟨(a3.1 6 (by decide)).trans h1, X ++ Y, by rw [← List.append_assoc, ← hY]; exact a2⟩, nI_nm1 (by omega), fun L' e => (by cases e), ag_mono a3 (by decide) (by decide) (by decide)⟩
    · exact ⟨0, mq_si S 6 1, B (by omega), ⟨rfl, X, tbR_c h2 rfl rfl rfl rfl⟩, by decide, fun L' e => (by cases e), ag_si (by decide)⟩
/-- onto the stack of what is wanted -/
def psh (S : mq_St) (wm y : Nat) : mq_St := mq_si (mq_sa S 14 (upd (S.2.1 14) wm (nI y))) 17 (nI (wm + 1))
theorem mz_has {y : Nat} (hy : y / 2 < 3000) : zf_X11_has N z (nI (y / 2)) (isv y) S = some (Dm S y) := by
  unfold zf_X11_has isv Dm
  by_cases e : y % 2 = 0
  · rw [if_pos e, if_neg (by decide), if_pos e, mq_ck_of (vp_in_nI hy (by omega)), nI_clamp (by omega)]
  · rw [if_neg e, if_pos rfl, if_neg e, mq_ck_of (vp_in_nI hy (by omega)), nI_clamp (by omega)]
theorem mz_isMade {y : Nat} (hy : y / 2 < 3000) (h17 : S.1 17 = nI wm) (hw : wm < 3000) : zf_X11_isMade N z (nI (y / 2)) (isv y) S = if Dm S y = -1 then some (0, psh S wm y) else some (1, S) := by
  have i1 : vp_in (nI (y / 2)) 3000 := vp_in_nI hy (by omega)
  have k1 : (nI (y / 2)).toNatClampNeg = y / 2 := nI_clamp (by omega)
  have i2 : vp_in (nI wm) 3000 := vp_in_nI hw (by omega)
  have k2 : (nI wm).toNatClampNeg = wm := nI_clamp (by omega)
  have p2 : (2 : Int32) * nI (y / 2) = nI (2 * (y / 2)) := pk_mul 2 (y / 2)
  unfold zf_X11_isMade zf_X11_isMade_19 zf_X11_isMade_45 isv Dm psh
  by_cases e : y % 2 = 0
  · have a1 : nI (2 * (y / 2)) + 0 = nI y := by
      rw [show nI (2 * (y / 2)) + 0 = nI (2 * (y / 2) + 0) from nI_add _ 0]; congr 1; omega
    have d10 : ¬ (1 : Int32) = 0 := by decide
    simp only [if_pos e, if_neg d10, mq_ck_of i1, k1, h17, mq_ck_of i2, k2, p2, a1, nS_e, sa_1, nI_1, mq_cz_0, mq_cz_1]
  · have a1 : nI (2 * (y / 2)) + 1 = nI y := by rw [nI_1]; congr 1; omega
    simp only [if_neg e, ↓reduceIte, mq_ck_of i1, k1, h17, mq_ck_of i2, k2, p2, a1, nS_e, sa_1, nI_1, mq_cz_0, mq_cz_1]
/-- a pair: a part that is wanting, or the FORMULA of both -/
theorem mz_pair {s : Int32} {y w : Nat} (hy : y / 2 < 3000) (hw : w / 2 < 3000) (h17 : S.1 17 = nI wm) (hwm : wm < 3000) : zf_X11_pair N z s (nI (y / 2)) (isv y) (nI (w / 2)) (isv w) S = if Dm S y = -1 then some (-1, psh S wm y) else if Dm S w = -1 then some (-1, psh S wm w) else zf_X11_make N z s (Dm S y) (Dm S w) S := by
  unfold zf_X11_pair
  rw [mz_isMade hy h17 hwm]
  by_cases e : Dm S y = -1
  · rw [if_pos e, if_pos e, mq_cl_s, if_pos rfl]
  · rw [if_neg e, if_neg e, mq_cl_s, if_neg (by decide), mz_isMade hw h17 hwm]
    by_cases e2 : Dm S w = -1
    · rw [if_pos e2, if_pos e2, mq_cl_s, if_pos rfl]
    · rw [if_neg e2, if_neg e2, mq_cl_s, if_neg (by decide), mz_has hy, mq_cp_s, mz_has hw, mq_cp_s]
      cases zf_X11_make N z s (Dm S y) (Dm S w) S with
      | none => rfl
      | some q => rfl
/-- what making a mark asks for -/
def kdR (N : Nat) (z : Nat → Nat) (T : List Tr) (m : Nat) (t : Tr) (wm : Nat) (S0 : mq_St) : Prop :=
  (∃ v : Nat, v < 2 ∧ t = .num v ∧ ∀ S : mq_St, ag [3, 6, 17] [2, 3, 4, 10, 11, 14] [] S0 S → S.1 17 = nI wm → zf_X11_madeOf N z (nI (m / 2)) (isv m) S = some (nI v, S)) ∨
  (∃ (k : Nat) (v : Int32), (∀ L, mk t L = m1 (nI k, v, -1) L) ∧ ∀ S : mq_St, ag [3, 6, 17] [2, 3, 4, 10, 11, 14] [] S0 S → S.1 17 = nI wm → zf_X11_madeOf N z (nI (m / 2)) (isv m) S = zf_X11_make N z (nI k) v (-1) S) ∨
  (∃ y : Nat, mt T y t ∧ y / 2 < m / 2 ∧ ∀ S : mq_St, ag [3, 6, 17] [2, 3, 4, 10, 11, 14] [] S0 S → S.1 17 = nI wm → zf_X11_madeOf N z (nI (m / 2)) (isv m) S = if Dm S y = -1 then some (-1, psh S wm y) else some (Dm S y, S)) ∨
  (∃ (k y : Nat) (a : Tr), mt T y a ∧ y / 2 < m / 2 ∧ (∀ L, mk t L = m1 (nI k, nI (mk a L).1, -1) (mk a L).2) ∧ ∀ S : mq_St, ag [3, 6, 17] [2, 3, 4, 10, 11, 14] [] S0 S → S.1 17 = nI wm → zf_X11_madeOf N z (nI (m / 2)) (isv m) S = if Dm S y = -1 then some (-1, psh S wm y) else zf_X11_make N z (nI k) (Dm S y) (-1) S) ∨
  (∃ (k y w : Nat) (a b : Tr), mt T y a ∧ mt T w b ∧ y / 2 < m / 2 ∧ w / 2 < m / 2 ∧ (∀ L, mk t L = m1 (nI k, nI (mk a L).1, nI (mk b (mk a L).2).1) (mk b (mk a L).2).2) ∧ ∀ S : mq_St, ag [3, 6, 17] [2, 3, 4, 10, 11, 14] [] S0 S → S.1 17 = nI wm → zf_X11_madeOf N z (nI (m / 2)) (isv m) S = if Dm S y = -1 then some (-1, psh S wm y) else if Dm S w = -1 then some (-1, psh S wm w) else zf_X11_make N z (nI k) (Dm S y) (Dm S w) S) ∨
  (∃ (k k' y w : Nat) (a b p q : Tr), mt T y a ∧ mt T w b ∧ y / 2 < m / 2 ∧ w / 2 < m / 2 ∧ (∀ L, mk p L = m1 (nI k', nI (mk a L).1, nI (mk b (mk a L).2).1) (mk b (mk a L).2).2) ∧ (∀ L, mk q L = m1 (nI k', nI (mk (du a) L).1, nI (mk (du b) (mk (du a) L).2).1) (mk (du b) (mk (du a) L).2).2) ∧ (∀ L, mk t L = m1 (nI k, nI (mk p L).1, nI (mk q (mk p L).2).1) (mk q (mk p L).2).2) ∧ ∀ S : mq_St, ag [3, 6, 17] [2, 3, 4, 10, 11, 14] [] S0 S → S.1 17 = nI wm → zf_X11_madeOf N z (nI (m / 2)) (isv m) S = mq_cl (zf_X11_pair N z (nI k') (nI (y / 2)) (isv y) (nI (w / 2)) (isv w) S) (fun v S1 => if v = -1 then some (-1, S1) else mq_cl (zf_X11_pair N z (nI k') (nI (y / 2)) (isv (fl y)) (nI (w / 2)) (isv (fl w)) S1) (fun u S2 => if u = -1 then some (-1, S2) else zf_X11_make N z (nI k) v u S2)))
end MK
end
/-! 9c.kinds -/
section
/-! The reference's makes(): what each kind asks for. -/
theorem kdR_is {N : Nat} {z : Nat → Nat} {S0 : mq_St} {T : List Tr} {m : Nat} {t : Tr} {wm : Nat} (h : ndM S0 T) (hm : mt T m t) (hw : wm < 3000) : kdR N z T m t wm S0 := by
  have hl := mt_lt hm
  have h3 := h.1
  have hen := h.2.2 (m / 2) _ hm
  have i1 : vp_in (nI (m / 2)) 3000 := vp_in_nI (by omega) (by omega)
  have k1 : (nI (m / 2)).toNatClampNeg = m / 2 := nI_clamp (by omega)
  have tk : ∀ {x : Nat} {u : Tr}, (T.take (m / 2))[x]? = some u → x < m / 2 ∧ mt T (2 * x) u ∧ mt T (2 * x + 1) (du u) := by
    intro x u hx
    have hxl := (List.getElem?_eq_some_iff.mp hx).1
    rw [List.length_take] at hxl
    rw [List.getElem?_take_of_lt (by omega)] at hx
    refine ⟨by omega, ?_, ?_⟩
    · unfold mt; rw [if_pos (by omega), show 2 * x / 2 = x by omega]; exact hx
    · unfold mt; rw [if_neg (by omega), du_du, show (2 * x + 1) / 2 = x by omega]; exact hx
  have iv0 : ∀ x : Nat, isv (2 * x) = 1 := fun x => by unfold isv; rw [if_pos (by omega)]
  have iv1 : ∀ x : Nat, isv (2 * x + 1) = 0 := fun x => by unfold isv; rw [if_neg (by omega)]
  have hv0 : ∀ x : Nat, 2 * x / 2 = x := fun x => by omega
  have hv1 : ∀ x : Nat, (2 * x + 1) / 2 = x := fun x => by omega
  have fl0 : ∀ x : Nat, fl (2 * x) = 2 * x + 1 := fun x => by unfold fl; rw [if_pos (by omega)]
  have fl1 : ∀ x : Nat, fl (2 * x + 1) = 2 * x := fun x => by unfold fl; rw [if_neg (by omega)]; omega
  have mc : ∀ (x : Option (Int32 × mq_St)), mq_cl x (fun v S => some (v, S)) = x := fun x => by cases x <;> rfl
  have d10 : ¬ (1 : Int32) = 0 := by decide
  have G7 : ∀ {S : mq_St}, ag [3, 6, 17] [2, 3, 4, 10, 11, 14] [] S0 S → S.2.1 7 = S0.2.1 7 ∧ S.2.1 8 = S0.2.1 8 ∧ S.2.1 9 = S0.2.1 9 := fun g => ⟨g.2.1 7 (by decide), g.2.1 8 (by decide), g.2.1 9 (by decide)⟩
  have ed : ∀ w : Tr, du t = w → t = du w := fun w q => by rw [← q, du_du]
  have hpar : (m % 2 = 0 ∧ isv m = 1 ∧ (if m % 2 = 0 then t else du t) = t) ∨ (m % 2 = 1 ∧ isv m = 0 ∧ (if m % 2 = 0 then t else du t) = du t) := by
    by_cases q : m % 2 = 0
    · exact Or.inl ⟨q, if_pos q, if_pos q⟩
    · exact Or.inr ⟨by omega, if_neg q, if_neg q⟩
  rcases hpar with ⟨hp, hi, e⟩ | ⟨hp, hi, e⟩
  · rw [e] at hen
    unfold kdR
    rw [hi]
    rcases hen with ⟨hk, q⟩ | ⟨hk, q⟩ | ⟨l, hl1, hk, ha, q⟩ | ⟨x, u, ha, hx, ⟨hk, q⟩ | ⟨hk, q⟩ | ⟨hk, q⟩⟩ | ⟨x, y, u, v, ha, hb, hx, hy, ⟨hk, q⟩ | ⟨hk, q⟩ | ⟨hk, q⟩ | ⟨hk, q⟩⟩
    · refine Or.inl ⟨0, by omega, q, fun S g h17 => ?_⟩
      obtain ⟨g7, g8, g9⟩ := G7 g
      unfold zf_X11_madeOf 
      simp only [mq_ck_of i1, k1, nI_e, g7, g8, g9, hk]
      rw [if_pos trivial, if_neg d10]
      rfl
    · refine Or.inl ⟨1, by omega, q, fun S g h17 => ?_⟩
      obtain ⟨g7, g8, g9⟩ := G7 g
      unfold zf_X11_madeOf 
      simp only [mq_ck_of i1, k1, nI_e, g7, g8, g9, hk]
      rw [if_neg (by decide), if_pos trivial, if_neg d10]
      rfl
    · refine Or.inr (Or.inl ⟨2, nI l, fun L => ?_, fun S g h17 => ?_⟩)
      · rw [q]
        show m1 (nI (2 + 2 * l % 2), nI (2 * l / 2), -1) L = _
        rw [show 2 + 2 * l % 2 = 2 by omega, show 2 * l / 2 = l by omega]
      · obtain ⟨g7, g8, g9⟩ := G7 g
        unfold zf_X11_madeOf zf_X11_madeOf_102
        simp only [mq_ck_of i1, k1, nI_e, g7, g8, g9, hk, ha]
        rw [if_neg (by decide), if_neg (by decide), if_pos trivial, if_neg d10, mc]
        rfl
    · obtain ⟨xl, m0, m1'⟩ := tk hx
      refine Or.inr (Or.inr (Or.inl ⟨2 * x + 1, by rw [q]; exact m1', by omega, fun S g h17 => ?_⟩))
      obtain ⟨g7, g8, g9⟩ := G7 g
      have A := mz_isMade (N := N) (z := z) (S := S) (y := (2 * x + 1)) (by omega) h17 hw
      have B := mz_has (N := N) (z := z) (S := S) (y := (2 * x + 1)) (by omega)
      rw [hv1, iv1] at A B
      unfold zf_X11_madeOf zf_X11_madeOf_119 zf_X11_madeOf_136
      simp only [mq_ck_of i1, k1, nI_e, g7, g8, g9, hk, ha]
      rw [if_neg (by decide), if_neg (by decide), if_neg (by decide), if_pos trivial, if_neg d10, A]
      by_cases c : Dm S (2 * x + 1) = -1
      · rw [if_pos c, if_pos c, mq_cl_s, if_pos rfl]
      · rw [if_neg c, if_neg c, mq_cl_s, if_neg d10, if_neg d10, B, mq_cp_s]
    · obtain ⟨xl, m0, m1'⟩ := tk hx
      refine Or.inr (Or.inr (Or.inr (Or.inl ⟨6, (2 * x), u, m0, by omega, fun L => by rw [q]; rfl, fun S g h17 => ?_⟩)))
      obtain ⟨g7, g8, g9⟩ := G7 g
      have A := mz_isMade (N := N) (z := z) (S := S) (y := (2 * x)) (by omega) h17 hw
      have B := mz_has (N := N) (z := z) (S := S) (y := (2 * x)) (by omega)
      rw [hv0, iv0] at A B
      unfold zf_X11_madeOf zf_X11_madeOf_324
      simp only [mq_ck_of i1, k1, nI_e, g7, g8, g9, hk, ha]
      rw [if_neg (by decide), if_neg (by decide), if_neg (by decide), if_neg (by decide), if_neg (by decide), if_neg (by decide), if_neg (by decide), if_neg (by decide), if_pos trivial, A]
      by_cases c : Dm S (2 * x) = -1
      · rw [if_pos c, if_pos c, mq_cl_s, if_pos rfl]
      · rw [if_neg c, if_neg c, mq_cl_s, if_neg d10, if_neg d10, B, mq_cp_s, mc]
        rfl
    · obtain ⟨xl, m0, m1'⟩ := tk hx
      refine Or.inr (Or.inr (Or.inr (Or.inl ⟨7, (2 * x), u, m0, by omega, fun L => by rw [q]; rfl, fun S g h17 => ?_⟩)))
      obtain ⟨g7, g8, g9⟩ := G7 g
      have A := mz_isMade (N := N) (z := z) (S := S) (y := (2 * x)) (by omega) h17 hw
      have B := mz_has (N := N) (z := z) (S := S) (y := (2 * x)) (by omega)
      rw [hv0, iv0] at A B
      unfold zf_X11_madeOf zf_X11_madeOf_360
      simp only [mq_ck_of i1, k1, nI_e, g7, g8, g9, hk, ha]
      rw [if_neg (by decide), if_neg (by decide), if_neg (by decide), if_neg (by decide), if_neg (by decide), if_neg (by decide), if_neg (by decide), if_neg (by decide), if_neg (by decide), A]
      by_cases c : Dm S (2 * x) = -1
      · rw [if_pos c, if_pos c, mq_cl_s, if_pos rfl]
      · rw [if_neg c, if_neg c, mq_cl_s, if_neg d10, if_neg d10, B, mq_cp_s, mc]
        rfl
    · obtain ⟨xl, mx0, mx1⟩ := tk hx
      obtain ⟨yl, my0, my1⟩ := tk hy
      refine Or.inr (Or.inr (Or.inr (Or.inr (Or.inl ⟨4, (2 * x), (2 * y), u, v, mx0, my0, by omega, by omega, fun L => by rw [q]; rfl, fun S g h17 => ?_⟩))))
      obtain ⟨g7, g8, g9⟩ := G7 g
      have A := mz_pair (N := N) (z := z) (S := S) (s := nI 4) (y := (2 * x)) (w := (2 * y)) (by omega) (by omega) h17 hw
      rw [hv0, iv0, hv0, iv0] at A
      unfold zf_X11_madeOf zf_X11_madeOf_154
      simp only [mq_ck_of i1, k1, nI_e, g7, g8, g9, hk, ha, hb]
      rw [if_neg (by decide), if_neg (by decide), if_neg (by decide), if_neg (by decide), if_pos trivial, if_neg d10, mc, ← A]
      rfl
    · obtain ⟨xl, mx0, mx1⟩ := tk hx
      obtain ⟨yl, my0, my1⟩ := tk hy
      refine Or.inr (Or.inr (Or.inr (Or.inr (Or.inl ⟨5, (2 * x), (2 * y), u, v, mx0, my0, by omega, by omega, fun L => by rw [q]; rfl, fun S g h17 => ?_⟩))))
      obtain ⟨g7, g8, g9⟩ := G7 g
      have A := mz_pair (N := N) (z := z) (S := S) (s := nI 5) (y := (2 * x)) (w := (2 * y)) (by omega) (by omega) h17 hw
      rw [hv0, iv0, hv0, iv0] at A
      unfold zf_X11_madeOf zf_X11_madeOf_173
      simp only [mq_ck_of i1, k1, nI_e, g7, g8, g9, hk, ha, hb]
      rw [if_neg (by decide), if_neg (by decide), if_neg (by decide), if_neg (by decide), if_neg (by decide), if_pos trivial, if_neg d10, mc, ← A]
      rfl
    · obtain ⟨xl, mx0, mx1⟩ := tk hx
      obtain ⟨yl, my0, my1⟩ := tk hy
      refine Or.inr (Or.inr (Or.inr (Or.inr (Or.inl ⟨5, (2 * x + 1), (2 * y), du u, v, mx1, my0, by omega, by omega, fun L => by rw [q]; rfl, fun S g h17 => ?_⟩))))
      obtain ⟨g7, g8, g9⟩ := G7 g
      have A := mz_pair (N := N) (z := z) (S := S) (s := nI 5) (y := (2 * x + 1)) (w := (2 * y)) (by omega) (by omega) h17 hw
      rw [hv1, iv1, hv0, iv0] at A
      unfold zf_X11_madeOf zf_X11_madeOf_192 zf_X11_madeOf_202
      simp only [mq_ck_of i1, k1, nI_e, g7, g8, g9, hk, ha, hb]
      rw [if_neg (by decide), if_neg (by decide), if_neg (by decide), if_neg (by decide), if_neg (by decide), if_neg (by decide), if_pos trivial, if_neg d10, if_neg d10, mc, ← A]
      rfl
    · obtain ⟨xl, mx0, mx1⟩ := tk hx
      obtain ⟨yl, my0, my1⟩ := tk hy
      refine Or.inr (Or.inr (Or.inr (Or.inr (Or.inr ⟨4, 5, (2 * x + 1), (2 * y), du u, v, .sub (du u) v, .sub u (du v), mx1, my0, by omega, by omega, fun L => rfl, fun L => by rw [du_du]; rfl, fun L => by rw [q]; rfl, fun S g h17 => ?_⟩))))
      obtain ⟨g7, g8, g9⟩ := G7 g
      rw [hv1, hv0, fl1, fl0, iv1, iv0, iv0, iv1]
      unfold zf_X11_madeOf zf_X11_madeOf_219 zf_X11_madeOf_229 zf_X11_madeOf_257 zf_X11_madeOf_270 zf_X11_madeOf_273 zf_X11_madeOf_295
      simp only [mq_ck_of i1, k1, nI_e, g7, g8, g9, hk, ha, hb, mc]
      rw [if_neg (by decide), if_neg (by decide), if_neg (by decide), if_neg (by decide), if_neg (by decide), if_neg (by decide), if_neg (by decide), if_pos trivial, if_neg d10, if_neg d10]
      simp only [if_neg d10, ↓reduceIte]
      rfl
  · rw [e] at hen
    unfold kdR
    rw [hi]
    rcases hen with ⟨hk, q⟩ | ⟨hk, q⟩ | ⟨l, hl1, hk, ha, q⟩ | ⟨x, u, ha, hx, ⟨hk, q⟩ | ⟨hk, q⟩ | ⟨hk, q⟩⟩ | ⟨x, y, u, v, ha, hb, hx, hy, ⟨hk, q⟩ | ⟨hk, q⟩ | ⟨hk, q⟩ | ⟨hk, q⟩⟩
    · refine Or.inl ⟨1, by omega, (ed _ q), fun S g h17 => ?_⟩
      obtain ⟨g7, g8, g9⟩ := G7 g
      unfold zf_X11_madeOf 
      simp only [mq_ck_of i1, k1, nI_e, g7, g8, g9, hk]
      rw [if_pos trivial, if_pos trivial]
      rfl
    · refine Or.inl ⟨0, by omega, (ed _ q), fun S g h17 => ?_⟩
      obtain ⟨g7, g8, g9⟩ := G7 g
      unfold zf_X11_madeOf 
      simp only [mq_ck_of i1, k1, nI_e, g7, g8, g9, hk]
      rw [if_neg (by decide), if_pos trivial, if_pos trivial]
      rfl
    · refine Or.inr (Or.inl ⟨3, nI l, fun L => ?_, fun S g h17 => ?_⟩)
      · rw [ed _ q]
        show m1 (nI (2 + fl (2 * l) % 2), nI (fl (2 * l) / 2), -1) L = _
        rw [fl0, show 2 + (2 * l + 1) % 2 = 3 by omega, show (2 * l + 1) / 2 = l by omega]
      · obtain ⟨g7, g8, g9⟩ := G7 g
        unfold zf_X11_madeOf zf_X11_madeOf_102
        simp only [mq_ck_of i1, k1, nI_e, g7, g8, g9, hk, ha]
        rw [if_neg (by decide), if_neg (by decide), if_pos trivial, if_pos trivial, mc]
        rfl
    · obtain ⟨xl, m0, m1'⟩ := tk hx
      refine Or.inr (Or.inr (Or.inl ⟨2 * x, by rw [ed _ q, du_du]; exact m0, by omega, fun S g h17 => ?_⟩))
      obtain ⟨g7, g8, g9⟩ := G7 g
      have A := mz_isMade (N := N) (z := z) (S := S) (y := (2 * x)) (by omega) h17 hw
      have B := mz_has (N := N) (z := z) (S := S) (y := (2 * x)) (by omega)
      rw [hv0, iv0] at A B
      unfold zf_X11_madeOf zf_X11_madeOf_119 zf_X11_madeOf_136
      simp only [mq_ck_of i1, k1, nI_e, g7, g8, g9, hk, ha]
      rw [if_neg (by decide), if_neg (by decide), if_neg (by decide), if_pos trivial, if_pos trivial, A]
      by_cases c : Dm S (2 * x) = -1
      · rw [if_pos c, if_pos c, mq_cl_s, if_pos rfl]
      · rw [if_neg c, if_neg c, mq_cl_s, if_neg d10, if_pos trivial, B, mq_cp_s]
    · obtain ⟨xl, m0, m1'⟩ := tk hx
      refine Or.inr (Or.inr (Or.inr (Or.inl ⟨7, (2 * x + 1), du u, m1', by omega, fun L => by rw [ed _ q]; rfl, fun S g h17 => ?_⟩)))
      obtain ⟨g7, g8, g9⟩ := G7 g
      have A := mz_isMade (N := N) (z := z) (S := S) (y := (2 * x + 1)) (by omega) h17 hw
      have B := mz_has (N := N) (z := z) (S := S) (y := (2 * x + 1)) (by omega)
      rw [hv1, iv1] at A B
      unfold zf_X11_madeOf zf_X11_madeOf_324
      simp only [mq_ck_of i1, k1, nI_e, g7, g8, g9, hk, ha]
      rw [if_neg (by decide), if_neg (by decide), if_neg (by decide), if_neg (by decide), if_neg (by decide), if_neg (by decide), if_neg (by decide), if_neg (by decide), if_pos trivial, A]
      by_cases c : Dm S (2 * x + 1) = -1
      · rw [if_pos c, if_pos c, mq_cl_s, if_pos rfl]
      · rw [if_neg c, if_neg c, mq_cl_s, if_neg d10, if_pos trivial, B, mq_cp_s, mc]
        rfl
    · obtain ⟨xl, m0, m1'⟩ := tk hx
      refine Or.inr (Or.inr (Or.inr (Or.inl ⟨6, (2 * x + 1), du u, m1', by omega, fun L => by rw [ed _ q]; rfl, fun S g h17 => ?_⟩)))
      obtain ⟨g7, g8, g9⟩ := G7 g
      have A := mz_isMade (N := N) (z := z) (S := S) (y := (2 * x + 1)) (by omega) h17 hw
      have B := mz_has (N := N) (z := z) (S := S) (y := (2 * x + 1)) (by omega)
      rw [hv1, iv1] at A B
      unfold zf_X11_madeOf zf_X11_madeOf_360
      simp only [mq_ck_of i1, k1, nI_e, g7, g8, g9, hk, ha]
      rw [if_neg (by decide), if_neg (by decide), if_neg (by decide), if_neg (by decide), if_neg (by decide), if_neg (by decide), if_neg (by decide), if_neg (by decide), if_neg (by decide), A]
      by_cases c : Dm S (2 * x + 1) = -1
      · rw [if_pos c, if_pos c, mq_cl_s, if_pos rfl]
      · rw [if_neg c, if_neg c, mq_cl_s, if_neg d10, if_pos trivial, B, mq_cp_s, mc]
        rfl
    · obtain ⟨xl, mx0, mx1⟩ := tk hx
      obtain ⟨yl, my0, my1⟩ := tk hy
      refine Or.inr (Or.inr (Or.inr (Or.inr (Or.inl ⟨5, (2 * x + 1), (2 * y + 1), du u, du v, mx1, my1, by omega, by omega, fun L => by rw [ed _ q]; rfl, fun S g h17 => ?_⟩))))
      obtain ⟨g7, g8, g9⟩ := G7 g
      have A := mz_pair (N := N) (z := z) (S := S) (s := nI 5) (y := (2 * x + 1)) (w := (2 * y + 1)) (by omega) (by omega) h17 hw
      rw [hv1, iv1, hv1, iv1] at A
      unfold zf_X11_madeOf zf_X11_madeOf_154
      simp only [mq_ck_of i1, k1, nI_e, g7, g8, g9, hk, ha, hb]
      rw [if_neg (by decide), if_neg (by decide), if_neg (by decide), if_neg (by decide), if_pos trivial, if_pos trivial, mc, ← A]
      rfl
    · obtain ⟨xl, mx0, mx1⟩ := tk hx
      obtain ⟨yl, my0, my1⟩ := tk hy
      refine Or.inr (Or.inr (Or.inr (Or.inr (Or.inl ⟨4, (2 * x + 1), (2 * y + 1), du u, du v, mx1, my1, by omega, by omega, fun L => by rw [ed _ q]; rfl, fun S g h17 => ?_⟩))))
      obtain ⟨g7, g8, g9⟩ := G7 g
      have A := mz_pair (N := N) (z := z) (S := S) (s := nI 4) (y := (2 * x + 1)) (w := (2 * y + 1)) (by omega) (by omega) h17 hw
      rw [hv1, iv1, hv1, iv1] at A
      unfold zf_X11_madeOf zf_X11_madeOf_173
      simp only [mq_ck_of i1, k1, nI_e, g7, g8, g9, hk, ha, hb]
      rw [if_neg (by decide), if_neg (by decide), if_neg (by decide), if_neg (by decide), if_neg (by decide), if_pos trivial, if_pos trivial, mc, ← A]
      rfl
    · obtain ⟨xl, mx0, mx1⟩ := tk hx
      obtain ⟨yl, my0, my1⟩ := tk hy
      refine Or.inr (Or.inr (Or.inr (Or.inr (Or.inl ⟨4, (2 * x), (2 * y + 1), u, du v, mx0, my1, by omega, by omega, fun L => by rw [ed _ q, show du (Int.Internal.Linear.Expr.sub (du u) v) = .add u (du v) from by show Int.Internal.Linear.Expr.add _ _ = _; rw [du_du]]; rfl, fun S g h17 => ?_⟩))))
      obtain ⟨g7, g8, g9⟩ := G7 g
      have A := mz_pair (N := N) (z := z) (S := S) (s := nI 4) (y := (2 * x)) (w := (2 * y + 1)) (by omega) (by omega) h17 hw
      rw [hv0, iv0, hv1, iv1] at A
      unfold zf_X11_madeOf zf_X11_madeOf_192 zf_X11_madeOf_202
      simp only [mq_ck_of i1, k1, nI_e, g7, g8, g9, hk, ha, hb]
      rw [if_neg (by decide), if_neg (by decide), if_neg (by decide), if_neg (by decide), if_neg (by decide), if_neg (by decide), if_pos trivial, if_pos trivial, if_pos trivial, mc, ← A]
      rfl
    · obtain ⟨xl, mx0, mx1⟩ := tk hx
      obtain ⟨yl, my0, my1⟩ := tk hy
      refine Or.inr (Or.inr (Or.inr (Or.inr (Or.inr ⟨5, 4, (2 * x), (2 * y + 1), u, du v, .add u (du v), .add (du u) v, mx0, my1, by omega, by omega, fun L => rfl, fun L => by rw [du_du]; rfl, fun L => by rw [ed _ q, show du (Int.Internal.Linear.Expr.add (.sub (du u) v) (.sub u (du v))) = .sub (.add u (du v)) (.add (du u) v) from by show Int.Internal.Linear.Expr.sub (.add (du (du u)) (du v)) (.add (du u) (du (du v))) = _; rw [du_du, du_du]]; rfl, fun S g h17 => ?_⟩))))
      obtain ⟨g7, g8, g9⟩ := G7 g
      rw [hv0, hv1, fl0, fl1, iv0, iv1, iv1, iv0]
      unfold zf_X11_madeOf zf_X11_madeOf_219 zf_X11_madeOf_229 zf_X11_madeOf_257 zf_X11_madeOf_270 zf_X11_madeOf_273 zf_X11_madeOf_295
      simp only [mq_ck_of i1, k1, nI_e, g7, g8, g9, hk, ha, hb, mc]
      rw [if_neg (by decide), if_neg (by decide), if_neg (by decide), if_neg (by decide), if_neg (by decide), if_neg (by decide), if_neg (by decide), if_pos trivial, if_pos trivial, if_pos trivial]
      simp only [eq_self, ↓reduceIte]
      rfl
end
/-! 9d.made -/
section
/-! The reference's makes(): a mark on top of what is wanted is made, with all its parts. -/
section MD
variable {N : Nat} {z : Nat → Nat} {S : mq_St} {T : List Tr} {L0 : List En} {o : Option (List En)}
theorem mkO_s {t : Tr} {L : List En} : mkO t (some L) = if (mk t L).2.length ≤ 300 then some (mk t L).2 else none := rfl
theorem prO_self (t : Tr) (o : Option (List En)) : mkO t (mkO t o) = mkO t o := by
  cases o with
  | none => rfl
  | some L =>
    rw [mkO_s]
    by_cases q : (mk t L).2.length ≤ 300
    · rw [if_pos q, mkO_s, show mk t (mk t L).2 = ((mk t L).1, (mk t L).2) from pr_mk t L, if_pos q]
    · rw [if_neg q]; rfl
theorem prO_mono {t u : Tr} {o : Option (List En)} (h : mkO t o = o) : mkO t (mkO u o) = mkO u o := by
  cases o with
  | none => rfl
  | some L =>
    rw [mkO_s] at h ⊢
    by_cases q0 : (mk t L).2.length ≤ 300
    · rw [if_pos q0] at h
      have e : (mk t L).2 = L := Option.some.inj h
      by_cases q : (mk u L).2.length ≤ 300
      · rw [if_pos q, mkO_s]
        obtain ⟨X, hX⟩ := mk_ext u L
        have hp : pr t L (mk t L).1 := by rw [pr, Prod.ext_iff]; exact ⟨rfl, e⟩
        have := pr_mono hp X
        rw [← hX] at this
        rw [show mk t (mk u L).2 = ((mk t L).1, (mk u L).2) from this, if_pos q]
      · rw [if_neg q]; rfl
    · rw [if_neg q0] at h; cases h
/-- the value of a tree that is there -/
def vlO (t : Tr) (o : Option (List En)) (v : Int32) : Prop := ∀ L, o = some L → ∀ k, pr t L k → v = nI k
theorem made_pr {y : Nat} {a : Tr} (h : Qm T L0 S o) (hy : mt T y a) (hd : ¬ Dm S y = -1) : mkO a o = o ∧ vlO a o (Dm S y) := by
  cases o with
  | none => exact ⟨rfl, fun L e => by cases e⟩
  | some L =>
    obtain ⟨h1, h2, h3, h4, h5⟩ := h
    rcases h5 y a hy with e | ⟨k, e, p⟩
    · exact absurd e hd
    · refine ⟨?_, fun L' e' k' p' => ?_⟩
      · rw [mkO_s, show mk a L = (k, L) from p, if_pos h2.2.1]
      · rw [← Option.some.inj e'] at p'
        rw [e, pr_fn p p']
theorem some_len {t : Tr} {L L' : List En} (h : mkO t (some L) = some L') : (mk t L).2 = L' ∧ L'.length ≤ 300 := by
  rw [mkO_s] at h
  by_cases q : (mk t L).2.length ≤ 300
  · rw [if_pos q] at h
    have := Option.some.inj h
    rw [← this]
    exact ⟨rfl, q⟩
  · rw [if_neg q] at h; cases h
/-- a FORMULA of two parts that are there -/
theorem mz_2 {p a b : Tr} {k : Nat} {v u : Int32} (hN : 400 ≤ N) (hL0 : L0.length ≤ 300) (h : Qm T L0 S o) (hmk : ∀ L, mk p L = m1 (nI k, nI (mk a L).1, nI (mk b (mk a L).2).1) (mk b (mk a L).2).2) (ha : mkO a o = o) (hb : mkO b o = o) (va : vlO a o v) (vb : vlO b o u) :
    ∃ w S', zf_X11_make N z (nI k) v u S = some (w, S') ∧ Qm T L0 S' (mkO p o) ∧ ¬ w = -1 ∧ vlO p (mkO p o) w ∧ ag [3, 6] [2, 3, 4] [] S S' := by
  obtain ⟨w, S', a1, a2, a3, a4, a5⟩ := mz_make (N := N) (z := z) (s := nI k) (a := v) (b := u) hN hL0 h
  have E : mkE (nI k, v, u) o = mkO p o ∧ ∀ L, o = some L → mk p L = m1 (nI k, v, u) L := by
    cases o with
    | none => exact ⟨rfl, fun L e => by cases e⟩
    | some L =>
      have ea := (some_len ha).1
      have eb := (some_len hb).1
      have pa : pr a L (mk a L).1 := by rw [pr, Prod.ext_iff]; exact ⟨rfl, ea⟩
      have pb : pr b L (mk b L).1 := by rw [pr, Prod.ext_iff]; exact ⟨rfl, eb⟩
      have e : mk p L = m1 (nI k, v, u) L := by rw [hmk L, ea, eb, va L rfl _ pa, vb L rfl _ pb]
      refine ⟨?_, fun L' e' => by rw [← Option.some.inj e']; exact e⟩
      show (if (m1 (nI k, v, u) L).2.length ≤ 300 then some (m1 (nI k, v, u) L).2 else none) = _
      rw [mkO_s, e]
  rw [E.1] at a2
  refine ⟨w, S', a1, a2, a3, fun L' e' k' p' => ?_, a5⟩
  cases o with
  | none => cases e'
  | some L =>
    obtain ⟨e1, e2⟩ := some_len e'
    have e3 := E.2 L rfl
    rw [a4 L rfl (by rw [← e3, e1]; exact e2), ← e3]
    have := pr_mk p L
    rw [e1] at this
    rw [pr_fn this p']
theorem mz_1 {p a : Tr} {k : Nat} {v : Int32} (hN : 400 ≤ N) (hL0 : L0.length ≤ 300) (h : Qm T L0 S o) (hmk : ∀ L, mk p L = m1 (nI k, nI (mk a L).1, -1) (mk a L).2) (ha : mkO a o = o) (va : vlO a o v) :
    ∃ w S', zf_X11_make N z (nI k) v (-1) S = some (w, S') ∧ Qm T L0 S' (mkO p o) ∧ ¬ w = -1 ∧ vlO p (mkO p o) w ∧ ag [3, 6] [2, 3, 4] [] S S' := by
  obtain ⟨w, S', a1, a2, a3, a4, a5⟩ := mz_make (N := N) (z := z) (s := nI k) (a := v) (b := -1) hN hL0 h
  have E : mkE (nI k, v, -1) o = mkO p o ∧ ∀ L, o = some L → mk p L = m1 (nI k, v, -1) L := by
    cases o with
    | none => exact ⟨rfl, fun L e => by cases e⟩
    | some L =>
      have ea := (some_len ha).1
      have pa : pr a L (mk a L).1 := by rw [pr, Prod.ext_iff]; exact ⟨rfl, ea⟩
      have e : mk p L = m1 (nI k, v, -1) L := by rw [hmk L, ea, va L rfl _ pa]
      refine ⟨?_, fun L' e' => by rw [← Option.some.inj e']; exact e⟩
      show (if (m1 (nI k, v, -1) L).2.length ≤ 300 then some (m1 (nI k, v, -1) L).2 else none) = _
      rw [mkO_s, e]
  rw [E.1] at a2
  refine ⟨w, S', a1, a2, a3, fun L' e' k' p' => ?_, a5⟩
  cases o with
  | none => cases e'
  | some L =>
    obtain ⟨e1, e2⟩ := some_len e'
    have e3 := E.2 L rfl
    rw [a4 L rfl (by rw [← e3, e1]; exact e2), ← e3]
    have := pr_mk p L
    rw [e1] at this
    rw [pr_fn this p']
theorem mz_0 {p : Tr} {k : Nat} {v : Int32} (hN : 400 ≤ N) (hL0 : L0.length ≤ 300) (h : Qm T L0 S o) (hmk : ∀ L, mk p L = m1 (nI k, v, -1) L) :
    ∃ w S', zf_X11_make N z (nI k) v (-1) S = some (w, S') ∧ Qm T L0 S' (mkO p o) ∧ ¬ w = -1 ∧ vlO p (mkO p o) w ∧ ag [3, 6] [2, 3, 4] [] S S' := by
  obtain ⟨w, S', a1, a2, a3, a4, a5⟩ := mz_make (N := N) (z := z) (s := nI k) (a := v) (b := -1) hN hL0 h
  have E : mkE (nI k, v, -1) o = mkO p o := by
    cases o with
    | none => rfl
    | some L =>
      show (if (m1 (nI k, v, -1) L).2.length ≤ 300 then some (m1 (nI k, v, -1) L).2 else none) = _
      rw [mkO_s, hmk L]
  rw [E] at a2
  refine ⟨w, S', a1, a2, a3, fun L' e' k' p' => ?_, a5⟩
  cases o with
  | none => cases e'
  | some L =>
    obtain ⟨e1, e2⟩ := some_len e'
    rw [a4 L rfl (by rw [← hmk L, e1]; exact e2), ← hmk L]
    have := pr_mk p L
    rw [e1] at this
    rw [pr_fn this p']
/-- parts first, then the whole: as the whole at once -/
theorem mkO_parts {p a b : Tr} {k : Nat} (hmk : ∀ L, mk p L = m1 (nI k, nI (mk a L).1, nI (mk b (mk a L).2).1) (mk b (mk a L).2).2) (o : Option (List En)) : mkO p (mkO b (mkO a o)) = mkO p o := by
  cases o with
  | none => rfl
  | some L =>
    rw [mkO_s, mkO_s]
    have hl : (mk b (mk a L).2).2.length ≤ (mk p L).2.length := by
      obtain ⟨Y, hY, -⟩ := m1_ext (nI k, nI (mk a L).1, nI (mk b (mk a L).2).1) (mk b (mk a L).2).2
      rw [hmk L, hY, List.length_append]; omega
    by_cases qa : (mk a L).2.length ≤ 300
    · rw [if_pos qa, mkO_s]
      by_cases qb : (mk b (mk a L).2).2.length ≤ 300
      · rw [if_pos qb, mkO_s]
        have e : mk p (mk b (mk a L).2).2 = mk p L := by
          obtain ⟨X, hX⟩ := mk_ext b (mk a L).2
          have pa : pr a (mk b (mk a L).2).2 (mk a L).1 := by rw [hX]; exact pr_mono (pr_mk a L) X
          have pb : pr b (mk b (mk a L).2).2 (mk b (mk a L).2).1 := pr_mk b (mk a L).2
          rw [hmk (mk b (mk a L).2).2, show mk a (mk b (mk a L).2).2 = ((mk a L).1, (mk b (mk a L).2).2) from pa, show mk b (mk b (mk a L).2).2 = ((mk b (mk a L).2).1, (mk b (mk a L).2).2) from pb, hmk L]
        rw [e]
      · rw [if_neg qb, if_neg (by omega)]; rfl
    · have := mk_len b (mk a L).2
      rw [if_neg qa, if_neg (by omega)]; rfl
theorem mkO_part {p a : Tr} {k : Nat} (hmk : ∀ L, mk p L = m1 (nI k, nI (mk a L).1, -1) (mk a L).2) (o : Option (List En)) : mkO p (mkO a o) = mkO p o := by
  cases o with
  | none => rfl
  | some L =>
    rw [mkO_s, mkO_s]
    have hl : (mk a L).2.length ≤ (mk p L).2.length := by
      obtain ⟨Y, hY, -⟩ := m1_ext (nI k, nI (mk a L).1, -1) (mk a L).2
      rw [hmk L, hY, List.length_append]; omega
    by_cases qa : (mk a L).2.length ≤ 300
    · rw [if_pos qa, mkO_s]
      have e : mk p (mk a L).2 = mk p L := by
        have pa : pr a (mk a L).2 (mk a L).1 := pr_mk a L
        rw [hmk (mk a L).2, show mk a (mk a L).2 = ((mk a L).1, (mk a L).2) from pa, hmk L]
      rw [e]
    · rw [if_neg qa, if_neg (by omega)]; rfl
/-- a mark is set -/
def stm (S : mq_St) (m : Nat) (f : Int32) (wm : Nat) : mq_St := if m % 2 = 0 then mq_sa (mq_si S 17 (nI wm)) 10 (upd (S.2.1 10) (m / 2) f) else mq_sa (mq_si S 17 (nI wm)) 11 (upd (S.2.1 11) (m / 2) f)
theorem stm_D {m wm : Nat} {f : Int32} : Dm (stm S m f wm) = upd (Dm S) m f := by
  funext j
  unfold stm Dm
  by_cases e : m % 2 = 0
  · rw [if_pos e]
    by_cases c : j % 2 = 0
    · rw [if_pos c]
      show upd (S.2.1 10) (m / 2) f (j / 2) = _
      unfold upd
      by_cases q : j = m
      · rw [if_pos q, if_pos (by rw [q])]
      · rw [if_neg q, if_neg (by omega)]; exact (if_pos c).symm
    · rw [if_neg c]
      show S.2.1 11 (j / 2) = _
      unfold upd
      rw [if_neg (fun q => c (by rw [q]; exact e))]; exact (if_neg c).symm
  · rw [if_neg e]
    by_cases c : j % 2 = 0
    · rw [if_pos c]
      show S.2.1 10 (j / 2) = _
      unfold upd
      rw [if_neg (fun q => e (by rw [← q]; exact c))]; exact (if_pos c).symm
    · rw [if_neg c]
      show upd (S.2.1 11) (m / 2) f (j / 2) = _
      unfold upd
      by_cases q : j = m
      · rw [if_pos q, if_pos (by rw [q])]
      · rw [if_neg q, if_neg (by omega)]; exact (if_neg c).symm
theorem stm_ag {m wm : Nat} {f : Int32} : ag [17] [10, 11] [] S (stm S m f wm) := by
  unfold stm
  split
  · exact ag_tr (ag_si (by decide)) (ag_sa (by decide))
  · exact ag_tr (ag_si (by decide)) (ag_sa (by decide))
theorem ms_step {m wm fuel : Nat} {v1 v2 : Int32} (h17 : S.1 17 = nI (wm + 1)) (hwm : wm < 3000) (hm : m < 6000) (htop : S.2.1 14 wm = nI m) (hD : Dm S m = -1) :
    zf_X11_makes_12 N z (fuel + 1) v1 v2 S = mq_cl (zf_X11_madeOf N z (nI (m / 2)) (isv m) S) (fun f S20 => if f = -1 then zf_X11_makes_12 N z fuel v1 v2 S20 else if S20.1 17 = nI (wm + 1) then zf_X11_makes_12 N z fuel v1 v2 (stm S20 m f wm) else zf_X11_makes_12 N z fuel v1 v2 S20) := by
  show zf_X11_makes_12b N z (fun v1 v2 S => zf_X11_makes_12 N z fuel v1 v2 S) v1 v2 S = _
  have i1 : vp_in (nI wm) 3000 := vp_in_nI hwm (by omega)
  have i2 : vp_in (nI (m / 2)) 3000 := vp_in_nI (by omega) (by omega)
  have k2 : (nI (m / 2)).toNatClampNeg = m / 2 := nI_clamp (by omega)
  have q2 : nI m / 2 = nI (m / 2) := pk_div (a := m) (d := 2) (by omega) (by omega) (by omega)
  have qm : nI m - nI (m / 2) * 2 = nI (m % 2) := by
    rw [show nI (m / 2) * 2 = nI (m / 2 * 2) from pk_mul (m / 2) 2, pk_sub (by omega)]
    congr 1
    omega
  have fin : ∀ (f : Int32) (S20 : mq_St), zf_X11_makes_103 N z (fun v1 v2 S => zf_X11_makes_12 N z fuel v1 v2 S) v1 v2 (nI (m / 2)) (isv m) (nI (wm + 1)) f S20 = if f = -1 then zf_X11_makes_12 N z fuel v1 v2 S20 else if S20.1 17 = nI (wm + 1) then zf_X11_makes_12 N z fuel v1 v2 (stm S20 m f wm) else zf_X11_makes_12 N z fuel v1 v2 S20 := by
    intro f S20
    unfold zf_X11_makes_103 zf_X11_makes_156
    rw [nI_e]
    by_cases e : f = -1
    · rw [if_pos e, if_pos e]
    · rw [if_neg e, if_neg e]
      by_cases e2 : S20.1 17 = nI (wm + 1)
      · rw [if_pos e2, if_pos e2, e2, nI_pred, nS_e]
        unfold isv stm
        by_cases c : m % 2 = 0
        · rw [if_pos c, if_neg (by decide), if_pos c, mq_ck_of i2, k2, nS_e]
          rfl
        · rw [if_neg c, if_pos rfl, if_neg c, mq_ck_of i2, k2, nS_e]
          rfl
      · rw [if_neg e2, if_neg e2]
  unfold zf_X11_makes_12b zf_X11_makes_50 zf_X11_makes_80
  rw [h17, if_neg (nI_nle (by omega) (by omega)), nI_pred, mq_ck_of i1, nI_clamp (by omega), htop, nI_e, q2, nI_e, qm]
  by_cases c : m % 2 = 0
  · have hD' : S.2.1 10 (m / 2) = -1 := by
      unfold Dm at hD
      rw [if_pos c] at hD
      exact hD
    have hi : isv m = 1 := if_pos c
    rw [hi] at fin ⊢
    rw [c, if_pos (by decide), nI_e, nI_e, if_neg (by decide), mq_ck_of i2, k2, hD', if_pos rfl]
    simp only [fin]
  · have hD' : S.2.1 11 (m / 2) = -1 := by
      unfold Dm at hD
      rw [if_neg c] at hD
      exact hD
    have hi : isv m = 0 := if_neg c
    rw [hi] at fin ⊢
    rw [show m % 2 = 1 by omega, if_neg (by decide), nI_e, nI_e, if_pos rfl, mq_ck_of i2, k2, hD', if_pos rfl]
    simp only [fin]
end MD
end
/-! 9e.made2 -/
section
/-! The reference's makes(): by the number of the node. -/
def mdA (N : Nat) (z : Nat → Nat) (T : List Tr) (L0 : List En) (i m : Nat) (t : Tr) (S : mq_St) (o : Option (List En)) (wm fuel : Nat) (v1 v2 : Int32) : Prop :=
  ∃ (S' : mq_St) (fuel' : Nat), zf_X11_makes_12 N z fuel v1 v2 S = zf_X11_makes_12 N z fuel' v1 v2 S' ∧ Qm T L0 S' (mkO t o) ∧ S'.1 17 = nI wm ∧ ¬ Dm S' m = -1 ∧ (∀ j, ¬ Dm S j = -1 → Dm S' j = Dm S j) ∧ (∀ j, i ≤ j / 2 → j ≠ m → Dm S' j = Dm S j) ∧ (∀ j, j < wm → S'.2.1 14 j = S.2.1 14 j) ∧ (∀ K, 2 * i + 2 ≤ K → fuel + 2 * uc (Dm S') K + 1 ≤ fuel' + 2 * uc (Dm S) K) ∧ ag [3, 6, 17] [2, 3, 4, 10, 11, 14] [] S S'
theorem psh_ag {S : mq_St} {wm y : Nat} : ag [17] [14] [] S (psh S wm y) := ag_tr (ag_sa (by decide)) (ag_si (by decide))
theorem Dm_g {S S' : mq_St} (g : ag [3, 6] [2, 3, 4] [] S S') : Dm S' = Dm S := funext fun m => Dm_c (g.2.1 10 (by decide)) (g.2.1 11 (by decide)) m
theorem Dm_p {S : mq_St} {wm y : Nat} : Dm (psh S wm y) = Dm S := funext fun m => Dm_c rfl rfl m
theorem md_all {N : Nat} {z : Nat → Nat} (hN : 400 ≤ N) {T : List Tr} {L0 : List En} (hL0 : L0.length ≤ 300) {v1 v2 : Int32} : ∀ (i m : Nat) (t : Tr), m / 2 = i → mt T m t → ∀ (S : mq_St) (o : Option (List En)) (wm fuel : Nat), ndM S T → Qm T L0 S o → S.1 17 = nI (wm + 1) → S.2.1 14 wm = nI m → Dm S m = -1 → wm + i < 2998 → 2 * uc (Dm S) (2 * i + 2) ≤ fuel → mdA N z T L0 i m t S o wm fuel v1 v2 := by
  intro i
  induction i using Nat.strongRecOn with
  | ind i ih =>
    intro m t hmi hm S o wm fuel hnd hQ h17 htop hD hwm hfuel
    have hml := mt_lt hm
    have h3000 := hnd.1
    have hucm : uc (Dm S) (2 * i) + 1 ≤ uc (Dm S) (2 * i + 2) := by
      have u1 := uc_upd (v := 0) hD (by decide) (2 * i + 2) (by omega)
      have u2 := uc_ext (t := Dm S) (t' := upd (Dm S) m 0) (2 * i) (fun j hj => by rw [up_o (by omega)])
      have u3 := uc_mono (t := upd (Dm S) m 0) (a := 2 * i) (2 * i + 2) (by omega)
      omega
    -- what holds in between, from S on
    let St : mq_St → Nat → Prop := fun S1 fu1 => zf_X11_makes_12 N z fuel v1 v2 S = zf_X11_makes_12 N z fu1 v1 v2 S1 ∧ S1.1 17 = nI (wm + 1) ∧ (∀ j, j ≤ wm → S1.2.1 14 j = S.2.1 14 j) ∧ (∀ j, ¬ Dm S j = -1 → Dm S1 j = Dm S j) ∧ (∀ j, i ≤ j / 2 → Dm S1 j = Dm S j) ∧ (∀ K, 2 * i ≤ K → fuel + 2 * uc (Dm S1) K ≤ fu1 + 2 * uc (Dm S) K) ∧ ag [3, 6, 17] [2, 3, 4, 10, 11, 14] [] S S1
    have St0 : St S fuel := ⟨rfl, h17, fun _ _ => rfl, fun _ _ => rfl, fun _ _ => rfl, fun _ _ => Nat.le_refl _, ag_rf⟩
    have Stf : ∀ {S1 : mq_St} {fu1 : Nat}, St S1 fu1 → 2 * uc (Dm S1) (2 * i) + 2 ≤ fu1 ∧ Dm S1 m = -1 ∧ S1.2.1 14 wm = nI m := fun {S1 fu1} q => by
      obtain ⟨-, -, q3, -, q5, q6, -⟩ := q
      have := q6 (2 * i) (Nat.le_refl _)
      exact ⟨by omega, (q5 m (by omega)).trans hD, (q3 wm (Nat.le_refl _)).trans htop⟩
    have kd := kdR_is (N := N) (z := z) (wm := wm + 1) hnd hm (by omega)
    -- a part is made, or was so already
    have adv : ∀ (y : Nat) (a : Tr) (S1 : mq_St) (fu1 : Nat) (o1 : Option (List En)), mt T y a → y / 2 < i → St S1 fu1 → (Dm S1 y = -1 → ∃ S2, zf_X11_madeOf N z (nI (m / 2)) (isv m) S1 = some (-1, psh S2 (wm + 1) y) ∧ Qm T L0 S2 o1 ∧ ag [3, 6] [2, 3, 4] [] S1 S2) →
        ∃ (S' : mq_St) (fu' : Nat), St S' fu' ∧ ¬ Dm S' y = -1 ∧ (∀ j, ¬ Dm S1 j = -1 → Dm S' j = Dm S1 j) ∧ ((Dm S1 y = -1 ∧ Qm T L0 S' (mkO a o1)) ∨ (¬ Dm S1 y = -1 ∧ S' = S1)) := by
      intro y a S1 fu1 o1 hy hyi hst hpush
      by_cases e : Dm S1 y = -1
      · obtain ⟨f1, f2, f3⟩ := Stf hst
        obtain ⟨s1, s2, s3, s4, s5, s6, s7⟩ := hst
        obtain ⟨S2, p1, p2, p3⟩ := hpush e
        have hyl := mt_lt hy
        obtain ⟨fu, rfl⟩ : ∃ q, fu1 = q + 1 := ⟨fu1 - 1, by omega⟩
        have E := ms_step (N := N) (z := z) (S := S1) (m := m) (wm := wm) (fuel := fu) (v1 := v1) (v2 := v2) s2 (by omega) (by omega) f3 f2
        rw [p1, mq_cl_s, if_pos rfl] at E
        have D2 : Dm (psh S2 (wm + 1) y) = Dm S1 := Dm_p.trans (Dm_g p3)
        have g2 : ag [3, 6, 17] [2, 3, 4, 10, 11, 14] [] S1 (psh S2 (wm + 1) y) := ag_tr (ag_mono p3 (by decide) (by decide) (by decide)) (ag_mono psh_ag (by decide) (by decide) (by decide))
        have g02 := ag_tr s7 g2
        have hux := uc_mono (t := Dm S1) (a := 2 * (y / 2) + 2) (2 * i) (by omega)
        obtain ⟨S3, fu3, r1, r2, r3, r4, r5, r6, r7, r8, r9⟩ := ih (y / 2) hyi y a rfl hy (psh S2 (wm + 1) y) o1 (wm + 1) fu (ndM_c hnd (g02.2.1 7 (by decide)) (g02.2.1 8 (by decide)) (g02.2.1 9 (by decide))) (Qm_c p2 psh_ag) rfl (up_s _ _ _) (by rw [D2]; exact e) (by omega) (by rw [D2]; omega)
        rw [D2] at r5 r6 r8
        refine ⟨S3, fu3, ⟨s1.trans (E.trans r1), r3, fun j hj => ?_, fun j hj => ?_, fun j hj => ?_, fun K hK => ?_, ag_tr g02 r9⟩, r4, r5, Or.inl ⟨e, r2⟩⟩
        · rw [r7 j (by omega)]
          show upd (S2.2.1 14) (wm + 1) (nI y) j = _
          rw [up_o (by omega), p3.2.1 14 (by decide)]
          exact s3 j hj
        · rw [r5 j (by rw [s4 j hj]; exact hj), s4 j hj]
        · rw [r6 j (by omega) (fun q => by rw [q] at hj; omega), s5 j hj]
        · have a1 := r8 K (by omega)
          have a2 := s6 K hK
          omega
      · exact ⟨S1, fu1, hst, e, fun _ _ => rfl, Or.inr ⟨e, rfl⟩⟩
    -- the last turn
    have fin : ∀ (S1 : mq_St) (fu1 : Nat) (f : Int32) (S2 : mq_St), St S1 fu1 → zf_X11_madeOf N z (nI (m / 2)) (isv m) S1 = some (f, S2) → ¬ f = -1 → ag [3, 6] [2, 3, 4] [] S1 S2 → Qm T L0 S2 (mkO t o) → vlO t (mkO t o) f → mkO t (mkO t o) = mkO t o → mdA N z T L0 i m t S o wm fuel v1 v2 := by
      intro S1 fu1 f S2 hst hmd hf hg hq hv hpr
      obtain ⟨f1, f2, f3⟩ := Stf hst
      obtain ⟨s1, s2, s3, s4, s5, s6, s7⟩ := hst
      obtain ⟨fu, rfl⟩ : ∃ q, fu1 = q + 1 := ⟨fu1 - 1, by omega⟩
      have E := ms_step (N := N) (z := z) (S := S1) (m := m) (wm := wm) (fuel := fu) (v1 := v1) (v2 := v2) s2 (by omega) (by omega) f3 f2
      rw [hmd, mq_cl_s, if_neg hf, if_pos ((hg.1 17 (by decide)).trans s2)] at E
      have DD : Dm (stm S2 m f wm) = upd (Dm S1) m f := by rw [stm_D, Dm_g hg]
      refine ⟨stm S2 m f wm, fu, s1.trans E, ?_, ?_, ?_, fun j hj => ?_, fun j hj hjm => ?_, fun j hj => ?_, fun K hK => ?_, ?_⟩
      · have g := stm_ag (S := S2) (m := m) (f := f) (wm := wm)
        have e3 := g.1 3 (by decide)
        have e2 := g.2.1 2 (by decide)
        have a3 := g.2.1 3 (by decide)
        have a4 := g.2.1 4 (by decide)
        cases ho : mkO t o with
        | none =>
          rw [ho] at hq
          obtain ⟨h1, X, h2⟩ := hq
          exact ⟨(g.1 6 (by decide)).trans h1, X, tbR_c h2 e3 e2 a3 a4⟩
        | some L =>
          rw [ho] at hq hv hpr
          obtain ⟨h1, h2, h3, h4, h5⟩ := hq
          refine ⟨(g.1 6 (by decide)).trans h1, tbR_c h2 e3 e2 a3 a4, h3, h4, fun j u hj => ?_⟩
          rw [stm_D]
          by_cases ej : j = m
          · rw [ej] at hj ⊢
            rw [up_s, mt_fn hj hm]
            have el := (some_len hpr).1
            have hp : pr t L (mk t L).1 := by rw [pr, Prod.ext_iff]; exact ⟨rfl, el⟩
            exact Or.inr ⟨(mk t L).1, hv L rfl _ hp, hp⟩
          · rw [up_o ej]
            exact h5 j u hj
      · unfold stm
        split <;> rfl
      · rw [DD, up_s]; exact hf
      · rw [DD, up_o (fun e => hj (by rw [e]; exact hD))]; exact s4 j hj
      · rw [DD, up_o hjm]; exact s5 j hj
      · rw [(stm_ag (S := S2) (m := m) (f := f) (wm := wm)).2.1 14 (by decide), hg.2.1 14 (by decide)]
        exact s3 j (by omega)
      · have hu := uc_upd (v := f) f2 hf K (by omega)
        have := s6 K (by omega)
        rw [DD]
        omega
      · refine ag_tr s7 (ag_tr (ag_mono hg (by decide) (by decide) (by decide)) (ag_mono stm_ag (by decide) (by decide) (by decide)))
    rcases kd with ⟨v, hv, ht, K⟩ | ⟨k, v, hmk, K⟩ | ⟨y, hy, hyi, K⟩ | ⟨k, y, a, hy, hyi, hmk, K⟩ | ⟨k, y, w, a, b, hy, hw, hyi, hwi, hmk, K⟩ | ⟨k, k', y, w, a, b, p, q, hy, hw, hyi, hwi, hmp, hmq, hmk, K⟩
    · -- T, F
      have e : ∀ L : List En, mk t L = (v, L) := fun L => by
        have : v = 0 ∨ v = 1 := by omega
        rcases this with rfl | rfl <;> (rw [ht]; rfl)
      have ho : mkO t o = o := by
        cases o with
        | none => rfl
        | some L => rw [mkO_s, e L, if_pos hQ.2.1.2.1]
      exact fin S fuel (nI v) S St0 (K S ag_rf h17) (nI_nm1 (by omega)) ag_rf (by rw [ho]; exact hQ) (fun L _ k' p' => by
        have : mk t L = (k', L) := p'
        rw [e L] at this
        have e' : v = k' := congrArg Prod.fst this
        rw [e']) (prO_self t o)
    · obtain ⟨f, S2, a1, a2, a3, a4, a5⟩ := mz_0 (N := N) (z := z) hN hL0 hQ hmk
      exact fin S fuel f S2 St0 ((K S ag_rf h17).trans a1) a3 a5 a2 a4 (prO_self t o)
    · obtain ⟨S1, fu1, b1, b2, b3, b4⟩ := adv y t S fuel o hy (by omega) St0 (fun e => ⟨S, by rw [K S ag_rf h17, if_pos e], hQ, ag_rf⟩)
      have hq1 : Qm T L0 S1 (mkO t o) := by
        rcases b4 with ⟨-, q1⟩ | ⟨n, e⟩
        · exact q1
        · rw [(made_pr hQ hy n).1, e]; exact hQ
      have hv := (made_pr hq1 hy b2).2
      exact fin S1 fu1 (Dm S1 y) S1 b1 (by rw [K S1 b1.2.2.2.2.2.2 b1.2.1, if_neg b2]) b2 ag_rf hq1 hv (prO_self t o)
    · obtain ⟨S1, fu1, b1, b2, b3, b4⟩ := adv y a S fuel o hy (by omega) St0 (fun e => ⟨S, by rw [K S ag_rf h17, if_pos e], hQ, ag_rf⟩)
      have hq1 : Qm T L0 S1 (mkO a o) := by
        rcases b4 with ⟨-, q1⟩ | ⟨n, e⟩
        · exact q1
        · rw [(made_pr hQ hy n).1, e]; exact hQ
      obtain ⟨m1', m2'⟩ := made_pr hq1 hy b2
      obtain ⟨f, S2, a1, a2, a3, a4, a5⟩ := mz_1 (N := N) (z := z) hN hL0 hq1 hmk m1' m2'
      rw [mkO_part hmk o] at a2 a4
      exact fin S1 fu1 f S2 b1 (by rw [K S1 b1.2.2.2.2.2.2 b1.2.1, if_neg b2]; exact a1) a3 a5 a2 a4 (prO_self t o)
    · obtain ⟨S1, fu1, b1, b2, b3, b4⟩ := adv y a S fuel o hy (by omega) St0 (fun e => ⟨S, by rw [K S ag_rf h17, if_pos e], hQ, ag_rf⟩)
      have hq1 : Qm T L0 S1 (mkO a o) := by
        rcases b4 with ⟨-, q1⟩ | ⟨n, e⟩
        · exact q1
        · rw [(made_pr hQ hy n).1, e]; exact hQ
      obtain ⟨S2, fu2, c1, c2, c3, c4⟩ := adv w b S1 fu1 (mkO a o) hw (by omega) b1 (fun e => ⟨S1, by rw [K S1 b1.2.2.2.2.2.2 b1.2.1, if_neg b2, if_pos e], hq1, ag_rf⟩)
      have hq2 : Qm T L0 S2 (mkO b (mkO a o)) := by
        rcases c4 with ⟨-, q1⟩ | ⟨n, e⟩
        · exact q1
        · rw [(made_pr hq1 hw n).1, e]; exact hq1
      have d2 : ¬ Dm S2 y = -1 := by rw [c3 y b2]; exact b2
      obtain ⟨m1', m2'⟩ := made_pr hq2 hy d2
      obtain ⟨n1', n2'⟩ := made_pr hq2 hw c2
      obtain ⟨f, S3, a1, a2, a3, a4, a5⟩ := mz_2 (N := N) (z := z) hN hL0 hq2 hmk m1' n1' m2' n2'
      rw [mkO_parts hmk o] at a2 a4
      exact fin S2 fu2 f S3 c1 (by rw [K S2 c1.2.2.2.2.2.2 c1.2.1, if_neg d2, if_neg c2]; exact a1) a3 a5 a2 a4 (prO_self t o)
    · have hy3 := mt_lt hy
      have hw3 := mt_lt hw
      have hfy := mt_fl hy
      have hfw := mt_fl hw
      have pr1 : ∀ S1 : mq_St, S1.1 17 = nI (wm + 1) → zf_X11_pair N z (nI k') (nI (y / 2)) (isv y) (nI (w / 2)) (isv w) S1 = if Dm S1 y = -1 then some (-1, psh S1 (wm + 1) y) else if Dm S1 w = -1 then some (-1, psh S1 (wm + 1) w) else zf_X11_make N z (nI k') (Dm S1 y) (Dm S1 w) S1 := fun S1 e => mz_pair (by omega) (by omega) e (by omega)
      have pr2 : ∀ S1 : mq_St, S1.1 17 = nI (wm + 1) → zf_X11_pair N z (nI k') (nI (y / 2)) (isv (fl y)) (nI (w / 2)) (isv (fl w)) S1 = if Dm S1 (fl y) = -1 then some (-1, psh S1 (wm + 1) (fl y)) else if Dm S1 (fl w) = -1 then some (-1, psh S1 (wm + 1) (fl w)) else zf_X11_make N z (nI k') (Dm S1 (fl y)) (Dm S1 (fl w)) S1 := fun S1 e => by
        have := mz_pair (N := N) (z := z) (S := S1) (s := nI k') (y := fl y) (w := fl w) (wm := wm + 1) (by rw [fl_half]; omega) (by rw [fl_half]; omega) e (by omega)
        rw [fl_half, fl_half] at this
        exact this
      obtain ⟨S1, fu1, b1, b2, b3, b4⟩ := adv y a S fuel o hy (by omega) St0 (fun e => ⟨S, by rw [K S ag_rf h17, pr1 S h17, if_pos e, mq_cl_s, if_pos rfl], hQ, ag_rf⟩)
      have hq1 : Qm T L0 S1 (mkO a o) := by
        rcases b4 with ⟨-, q1⟩ | ⟨n, e⟩
        · exact q1
        · rw [(made_pr hQ hy n).1, e]; exact hQ
      obtain ⟨S2, fu2, c1, c2, c3, c4⟩ := adv w b S1 fu1 (mkO a o) hw (by omega) b1 (fun e => ⟨S1, by rw [K S1 b1.2.2.2.2.2.2 b1.2.1, pr1 S1 b1.2.1, if_neg b2, if_pos e, mq_cl_s, if_pos rfl], hq1, ag_rf⟩)
      have hq2 : Qm T L0 S2 (mkO b (mkO a o)) := by
        rcases c4 with ⟨-, q1⟩ | ⟨n, e⟩
        · exact q1
        · rw [(made_pr hq1 hw n).1, e]; exact hq1
      have d2 : ¬ Dm S2 y = -1 := by rw [c3 y b2]; exact b2
      have hP := mkO_parts hmp o
      -- the first pair, at any later state in which both are there
      have first : ∀ (Sx : mq_St) (ox : Option (List En)), Qm T L0 Sx ox → ¬ Dm Sx y = -1 → ¬ Dm Sx w = -1 → Sx.1 17 = nI (wm + 1) → ∃ f Sy, zf_X11_pair N z (nI k') (nI (y / 2)) (isv y) (nI (w / 2)) (isv w) Sx = some (f, Sy) ∧ Qm T L0 Sy (mkO p ox) ∧ ¬ f = -1 ∧ vlO p (mkO p ox) f ∧ ag [3, 6] [2, 3, 4] [] Sx Sy := by
        intro Sx ox hqx e1 e2 e3
        obtain ⟨m1', m2'⟩ := made_pr hqx hy e1
        obtain ⟨n1', n2'⟩ := made_pr hqx hw e2
        obtain ⟨f, Sy, a1, a2, a3, a4, a5⟩ := mz_2 (N := N) (z := z) hN hL0 hqx hmp m1' n1' m2' n2'
        exact ⟨f, Sy, by rw [pr1 Sx e3, if_neg e1, if_neg e2]; exact a1, a2, a3, a4, a5⟩
      obtain ⟨S3, fu3, d1', d2', d3', d4'⟩ := adv (fl y) (du a) S2 fu2 (mkO p o) hfy (by rw [fl_half]; omega) c1 (fun e => by
        obtain ⟨f, Sy, a1, a2, a3, a4, a5⟩ := first S2 _ hq2 d2 c2 c1.2.1
        rw [hP] at a2
        refine ⟨Sy, ?_, a2, a5⟩
        rw [K S2 c1.2.2.2.2.2.2 c1.2.1, a1, mq_cl_s, if_neg a3, pr2 Sy ((a5.1 17 (by decide)).trans c1.2.1), Dm_g a5, if_pos e, mq_cl_s, if_pos rfl])
      have y3 : ¬ Dm S3 y = -1 := by rw [d3' y d2]; exact d2
      have w3 : ¬ Dm S3 w = -1 := by rw [d3' w c2]; exact c2
      obtain ⟨oc, hqc, hoc⟩ : ∃ oc, Qm T L0 S3 oc ∧ mkO p oc = mkO (du a) (mkO p o) := by
        rcases d4' with ⟨-, q1⟩ | ⟨n, e⟩
        · exact ⟨_, q1, prO_mono (prO_self p o)⟩
        · refine ⟨mkO b (mkO a o), by rw [e]; exact hq2, ?_⟩
          have := prO_mono (u := p) (made_pr hq2 hfy n).1
          rw [hP] at this ⊢
          rw [this]
      obtain ⟨S4, fu4, e1', e2', e3', e4'⟩ := adv (fl w) (du b) S3 fu3 (mkO (du a) (mkO p o)) hfw (by rw [fl_half]; omega) d1' (fun e => by
        obtain ⟨f, Sy, a1, a2, a3, a4, a5⟩ := first S3 _ hqc y3 w3 d1'.2.1
        rw [hoc] at a2
        refine ⟨Sy, ?_, a2, a5⟩
        rw [K S3 d1'.2.2.2.2.2.2 d1'.2.1, a1, mq_cl_s, if_neg a3, pr2 Sy ((a5.1 17 (by decide)).trans d1'.2.1), Dm_g a5, if_neg d2', if_pos e, mq_cl_s, if_pos rfl])
      have y4 : ¬ Dm S4 y = -1 := by rw [e3' y y3]; exact y3
      have w4 : ¬ Dm S4 w = -1 := by rw [e3' w w3]; exact w3
      have fy4 : ¬ Dm S4 (fl y) = -1 := by rw [e3' _ d2']; exact d2'
      obtain ⟨od, hqd, hod⟩ : ∃ od, Qm T L0 S4 od ∧ mkO p od = mkO (du b) (mkO (du a) (mkO p o)) := by
        rcases e4' with ⟨-, q1⟩ | ⟨n, e⟩
        · exact ⟨_, q1, prO_mono (prO_mono (prO_self p o))⟩
        · refine ⟨oc, by rw [e]; exact hqc, ?_⟩
          have := prO_mono (u := p) (made_pr hqc hfw n).1
          rw [hoc] at this ⊢
          rw [this]
      obtain ⟨f, Sy, a1, a2, a3, a4, a5⟩ := first S4 _ hqd y4 w4 e1'.2.1
      rw [hod] at a2 a4
      have DSy := Dm_g a5
      have g17 : Sy.1 17 = nI (wm + 1) := (a5.1 17 (by decide)).trans e1'.2.1
      obtain ⟨m1', m2'⟩ := made_pr a2 hfy (by rw [DSy]; exact fy4)
      obtain ⟨n1', n2'⟩ := made_pr a2 hfw (by rw [DSy]; exact e2')
      obtain ⟨u, Sz, z1, z2, z3, z4, z5⟩ := mz_2 (N := N) (z := z) hN hL0 a2 hmq m1' n1' m2' n2'
      have hQq : mkO q (mkO (du b) (mkO (du a) (mkO p o))) = mkO q (mkO p o) := mkO_parts hmq (mkO p o)
      rw [hQq] at z2 z4
      -- p is there too
      have pP : mkO p (mkO q (mkO p o)) = mkO q (mkO p o) := prO_mono (prO_self p o)
      have pQ : mkO q (mkO q (mkO p o)) = mkO q (mkO p o) := prO_self q (mkO p o)
      have vP : vlO p (mkO q (mkO p o)) f := by
        intro L' e' kk pk
        -- the value of p is the one that it had
        cases hD' : mkO (du b) (mkO (du a) (mkO p o)) with
        | none =>
          rw [← hQq, hD'] at e'
          cases e'
        | some Ld =>
          rw [hD'] at a4
          have hqd' : mkO q (some Ld) = some L' := by rw [← hD', hQq]; exact e'
          have el := (some_len hqd').1
          have hpd : mkO p (some Ld) = some Ld := by rw [← hD']; exact prO_mono (prO_mono (prO_self p o))
          have epd := (some_len hpd).1
          have hp : pr p Ld (mk p Ld).1 := by rw [pr, Prod.ext_iff]; exact ⟨rfl, epd⟩
          obtain ⟨X, hX⟩ := mk_ext q Ld
          have hp2 := pr_mono hp X
          rw [← hX, el] at hp2
          rw [a4 Ld rfl _ hp, pr_fn hp2 pk]
      obtain ⟨r, Sr, r1, r2, r3, r4, r5⟩ := mz_2 (N := N) (z := z) hN hL0 z2 hmk pP pQ vP z4
      rw [mkO_parts hmk o] at r2 r4
      refine fin S4 fu4 r Sr e1' ?_ r3 (ag_tr (ag_tr a5 z5) r5) r2 r4 (prO_self t o)
      rw [K S4 e1'.2.2.2.2.2.2 e1'.2.1, a1, mq_cl_s, if_neg a3, pr2 Sy g17, DSy, if_neg fy4, if_neg e2']
      rw [DSy] at z1
      rw [z1, mq_cl_s, if_neg z3]
      exact r1
end
/-! 9f.refread -/
section
/-! The reference's read(). -/
theorem paA_st {pl : Bool} {B : Nat → Nat} {len : Nat} : ∀ (n n' p : Nat) (G : List Nat) (V : List Tr) (od : Bool), len - p < n → len - p < n' → paA pl B len n p G V od = paA pl B len n' p G V od := by
  intro n
  induction n with
  | zero => intro n' p G V od h; omega
  | succ n ih =>
    intro n' p G V od h h'
    obtain ⟨k, rfl⟩ : ∃ k, n' = k + 1 := ⟨n' - 1, by omega⟩
    rw [paA, paA]
    by_cases e : len ≤ p
    · rw [if_pos e, if_pos e]
    · rw [if_neg e, if_neg e]
      by_cases b : sg B len p = 32
      · rw [if_pos b, if_pos b]
        exact ih k (p + 1) G V od (by omega) (by omega)
      · rw [if_neg b, if_neg b]
        by_cases c : (stA pl (sg B len p) G V od).1 = 0
        · rw [if_pos c, if_pos c]
          have : p + 1 ≤ (if sg B len p = 91 ∨ sg B len p = 60 then p + 2 else p + 1) := by split <;> omega
          exact ih k _ _ _ _ (by omega) (by omega)
        · rw [if_neg c, if_neg c]
theorem fiA_st {pl : Bool} {B : Nat → Nat} {t n n' : Nat} (h : 400 < n) (h' : 400 < n') : fiA pl B t n = fiA pl B t n' := by
  unfold fiA
  rw [paA_st n n' 0 [] [] true (by omega) (by omega)]
section RR
variable {N : Nat} {z : Nat → Nat} {S : mq_St} {T : List Tr} {L0 : List En} {o : Option (List En)}
theorem rf_makes {m : Nat} {t : Tr} (hN : 20000 ≤ N) (hL0 : L0.length ≤ 300) (hm : mt T m t) (hnd : ndM S T) (hT : T.length ≤ 2990) (hQ : Qm T L0 S o) (hD : Dm S m = -1) :
    ∃ S', zf_X11_makes N z (nI (m / 2)) (isv m) S = some (Dm S' m, S') ∧ Qm T L0 S' (mkO t o) ∧ ¬ Dm S' m = -1 ∧ (∀ j, ¬ Dm S j = -1 → Dm S' j = Dm S j) ∧ (∀ j, m / 2 ≤ j / 2 → j ≠ m → Dm S' j = Dm S j) ∧ ag [3, 6, 17] [2, 3, 4, 10, 11, 14] [] S S' := by
  have hl := mt_lt hm
  have g0 : ag [17] [14] [] S (psh (mq_si S 17 0) 0 m) := ag_tr (ag_si (by decide)) psh_ag
  have g1 : ag [3, 6, 17] [2, 3, 4, 10, 11, 14] [] S (psh (mq_si S 17 0) 0 m) := ag_mono g0 (by decide) (by decide) (by decide)
  have D0 : Dm (psh (mq_si S 17 0) 0 m) = Dm S := funext fun j => Dm_c rfl rfl j
  have hu := uc_le (Dm S) (2 * (m / 2) + 2)
  obtain ⟨S', fu, a1, a2, a3, a4, a5, a6, a7, a8, a9⟩ := md_all (N := N) (z := z) (T := T) (L0 := L0) (v1 := nI (m / 2)) (v2 := isv m) (by omega) hL0 (m / 2) m t rfl hm (psh (mq_si S 17 0) 0 m) o 0 N (ndM_c hnd (g1.2.1 7 (by decide)) (g1.2.1 8 (by decide)) (g1.2.1 9 (by decide))) (Qm_c hQ g0) rfl (show upd (S.2.1 14) 0 (nI m) 0 = nI m from up_s _ _ _) (by rw [D0]; exact hD) (by omega) (by rw [D0]; omega)
  rw [D0] at a5 a6 a8
  refine ⟨S', ?_, a2, a4, a5, a6, ag_tr g1 a9⟩
  have hf : 1 ≤ fu := by
    have := a8 (2 * (m / 2) + 2) (Nat.le_refl _)
    omega
  obtain ⟨fv, rfl⟩ : ∃ q, fu = q + 1 := ⟨fu - 1, by omega⟩
  unfold zf_X11_makes
  rw [nS_e, mz_isMade (wm := 0) (S := mq_si S 17 0) (by omega) rfl (by omega), if_pos (show Dm (mq_si S 17 0) m = -1 from hD), mq_cl_s, nI_e, a1]
  show zf_X11_makes_12b N z _ (nI (m / 2)) (isv m) S' = _
  unfold zf_X11_makes_12b
  rw [a3, if_pos (by decide), mz_has (by omega), mq_cp_s]
end RR
theorem rf_read {N t s : Nat} {z : Nat → Nat} {S : mq_St} {L : List En} {pl : Bool} {B : Nat → Nat} (hN : 20000 ≤ N) (hs : s < 8) (h1 : S.1 1 = nI t) (h4 : t ≤ 4000) (hB : ∀ i, i < min t 400 → S.2.1 0 i &&& 255 = nI (B i) ∧ B i < 256 ∧ ∀ v : Nat, v < 128 → (S.2.1 0 i = nI v ↔ B i = v)) (hL : tbR S L) (h0 : ok0 L) :
    ((¬ (fiA pl B t N).1 = 0 → ∃ S', zf_X11_read N z (nI s) (if pl = true then 0 else 1) S = some (-2, S') ∧ S'.1 4 = nI (fiA pl B t N).1 ∧ S'.1 5 = nI (fiA pl B t N).2.1 ∧ S'.1 1 = 0 ∧ tbR S' L ∧ S'.2.1 5 = S.2.1 5 ∧ S'.2.1 6 = S.2.1 6 ∧ ag [0, 1, 3, 4, 5, 6, 7, 8, 9, 10, 11, 12, 13, 14, 15, 16, 17] [2, 3, 4, 5, 6, 7, 8, 9, 10, 11, 12, 13, 14] [] S S') ∧
    ((fiA pl B t N).1 = 0 →
      ((mk (du (fiA pl B t N).2.2) (mk (fiA pl B t N).2.2 L).2).2.length ≤ 300 → ∃ S', zf_X11_read N z (nI s) (if pl = true then 0 else 1) S = some (nI (mk (fiA pl B t N).2.2 L).1, S') ∧ S'.1 4 = 0 ∧ S'.1 5 = -1 ∧ S'.1 1 = 0 ∧ tbR S' (mk (du (fiA pl B t N).2.2) (mk (fiA pl B t N).2.2 L).2).2 ∧ S'.2.1 5 = upd (S.2.1 5) s (nI (mk (fiA pl B t N).2.2 L).1) ∧ S'.2.1 6 = upd (S.2.1 6) s (nI (mk (du (fiA pl B t N).2.2) (mk (fiA pl B t N).2.2 L).2).1) ∧ ag [0, 1, 3, 4, 5, 6, 7, 8, 9, 10, 11, 12, 13, 14, 15, 16, 17] [2, 3, 4, 5, 6, 7, 8, 9, 10, 11, 12, 13, 14] [] S S') ∧
      (300 < (mk (du (fiA pl B t N).2.2) (mk (fiA pl B t N).2.2 L).2).2.length → ∃ S', zf_X11_read N z (nI s) (if pl = true then 0 else 1) S = some (-2, S') ∧ S'.1 4 = nI 4 ∧ S'.1 5 = -1 ∧ S'.1 1 = 0 ∧ tbR S' L ∧ S'.2.1 5 = S.2.1 5 ∧ S'.2.1 6 = S.2.1 6 ∧ ag [0, 1, 3, 4, 5, 6, 7, 8, 9, 10, 11, 12, 13, 14, 15, 16, 17] [2, 3, 4, 5, 6, 7, 8, 9, 10, 11, 12, 13, 14] [] S S'))) := by
  let S6 : mq_St := mq_si (mq_si (mq_si (mq_si (mq_si (mq_si (mq_si (mq_si S 0 0) 9 (nI (min t 400))) 1 0) 8 0) 7 0) 12 0) 10 0) 13 (if pl = true then 1 else 0)
  let S9 : mq_St := mq_si (mq_si (mq_si S6 14 0) 15 0) 16 0
  have g9 : ag [0, 1, 3, 4, 5, 6, 7, 8, 9, 10, 11, 12, 13, 14, 15, 16, 17] [2, 3, 4, 5, 6, 7, 8, 9, 10, 11, 12, 13, 14] [] S S9 := by
    repeat' (first | exact ag_rf | refine ag_tr ?_ (ag_si (by decide)))
  obtain ⟨x, S1, a1, a2, a3⟩ := rz_loop (N := N) (z := z) (pl := pl) (B := B) (len := min t 400) (by omega) 500 0 S9 [] [] [] true N ⟨by omega, hB⟩ rfl rfl (by omega) ⟨rfl, trivial, rfl, trivial, rfl, rfl, rfl, ⟨rfl, by decide, fun u hu => (by cases hu), fun y u hu => (by cases hu), fun y hy => absurd hy (by show ¬ y < 0; omega)⟩⟩ rfl ⟨trivial, fun q => (by cases q), rfl, fun v hv => (by cases hv)⟩ (by decide) (by decide) (by decide) (by decide) (by omega) (by omega)
  have g1 := ag_tr g9 (ag_mono a3 (by decide) (by decide) (by decide) : ag [0, 1, 3, 4, 5, 6, 7, 8, 9, 10, 11, 12, 13, 14, 15, 16, 17] [2, 3, 4, 5, 6, 7, 8, 9, 10, 11, 12, 13, 14] [] S9 S1)
  have b1 : S1.1 1 = 0 := a3.1 1 (by decide)
  have b9 : S1.1 9 = nI (min t 400) := a3.1 9 (by decide)
  have bt : tpR S1 B (min t 400) := by
    refine ⟨by omega, ?_⟩
    rw [a3.2.1 0 (by decide)]
    exact hB
  have hL1 : tbR S1 L := tbR_c hL (a3.1 3 (by decide)) (a3.2.1 2 (by decide)) (a3.2.1 3 (by decide)) (a3.2.1 4 (by decide))
  have b5 : S1.2.1 5 = S.2.1 5 := a3.2.1 5 (by decide)
  have b6 : S1.2.1 6 = S.2.1 6 := a3.2.1 6 (by decide)
  -- up to what whole() tells
  have hrd : zf_X11_read N z (nI s) (if pl = true then 0 else 1) S = (if S1.1 10 = 0 then mq_cl (zf_X11_see N z S1) (fun q S23 => if q = -1 then (if (if t ≤ 400 then (0 : Int32) else 1) = 0 then zf_X11_read_127 N z (nI s) x S23 else zf_X11_read_120 N z (nI s) x S23) else zf_X11_read_120 N z (nI s) x S23) else zf_X11_read_127 N z (nI s) x S1) := by
    have hw : zf_X11_whole N z S6 = some (x, S1) := by
      unfold zf_X11_whole
      rw [nS_e, nS_e, nS_e, nI_e]
      exact a1
    have h92 : ∀ v3 : Int32, zf_X11_read_92 N z (nI s) v3 (if pl = true then 1 else 0) (mq_si (mq_si (mq_si (mq_si (mq_si (mq_si (mq_si S 0 0) 9 (nI (min t 400))) 1 0) 8 0) 7 0) 12 0) 10 0) = (if S1.1 10 = 0 then mq_cl (zf_X11_see N z S1) (fun q S23 => if q = -1 then (if v3 = 0 then zf_X11_read_127 N z (nI s) x S23 else zf_X11_read_120 N z (nI s) x S23) else zf_X11_read_120 N z (nI s) x S23) else zf_X11_read_127 N z (nI s) x S1) := by
      intro v3
      have hcz : ∀ {α : Type} (k : Option α), mq_cz (if pl = true then 1 else 0) k = k := fun k => by
        cases pl with
        | true => exact mq_cz_1 k
        | false => exact mq_cz_0 k
      unfold zf_X11_read_92
      rw [hcz, nS_e, show mq_si (mq_si (mq_si (mq_si (mq_si (mq_si (mq_si (mq_si S 0 0) 9 (nI (min t 400))) 1 0) 8 0) 7 0) 12 0) 10 0) 13 (if pl = true then 1 else 0) = S6 from rfl, hw, mq_cl_s, nI_e]
    have h56 : ∀ v3 : Int32, zf_X11_read_56 N z (nI s) (if pl = true then 0 else 1) v3 (mq_si (mq_si S 0 0) 9 (nI (min t 400))) = (if S1.1 10 = 0 then mq_cl (zf_X11_see N z S1) (fun q S23 => if q = -1 then (if v3 = 0 then zf_X11_read_127 N z (nI s) x S23 else zf_X11_read_120 N z (nI s) x S23) else zf_X11_read_120 N z (nI s) x S23) else zf_X11_read_127 N z (nI s) x S1) := by
      intro v3
      rw [← h92 v3]
      unfold zf_X11_read_56
      rw [nI_e, nS_e, nS_e, nS_e, nS_e, nS_e]
      cases pl with
      | true => rw [if_pos (by decide)]; rfl
      | false => rw [if_neg (by decide)]; rfl
    have h38 : zf_X11_read_38 N z (nI s) (if pl = true then 0 else 1) (nI (min t 400)) (mq_si S 0 0) = (if S1.1 10 = 0 then mq_cl (zf_X11_see N z S1) (fun q S23 => if q = -1 then (if (if t ≤ 400 then (0 : Int32) else 1) = 0 then zf_X11_read_127 N z (nI s) x S23 else zf_X11_read_120 N z (nI s) x S23) else zf_X11_read_120 N z (nI s) x S23) else zf_X11_read_127 N z (nI s) x S1) := by
      rw [← h56]
      unfold zf_X11_read_38
      rw [nS_e, show (mq_si (mq_si S 0 0) 9 (nI (min t 400))).1 1 = nI t from h1]
      have q : nI t ≤ (400 : Int32) ↔ t ≤ 400 := nI_leI (b := 400) (by omega) (by omega)
      by_cases e : t ≤ 400
      · rw [if_pos (q.mpr e), if_pos e]
      · rw [if_neg (fun x => e (q.mp x)), if_neg e]
    rw [← h38]
    unfold zf_X11_read
    rw [nS_e, rf_in, show (mq_si S 0 0).1 1 = nI t from h1]
    have hsl : ¬ (nI s < (0 : Int32) ∨ (7 : Int32) < nI s) := by
      rintro (q | q)
      · exact nI_pos (by omega) q
      · have := (nI_ltI (a := 7) (b := s) (by omega) (by omega)).mp q
        omega
    rw [if_neg hsl, mq_cp_s, if_neg (by decide)]
    have q : (400 : Int32) ≤ nI t ↔ 400 ≤ t := nI_leI (a := 400) (by omega) (by omega)
    by_cases e : 400 ≤ t
    · rw [if_pos (q.mpr e), show min t 400 = 400 by omega]; rfl
    · rw [if_neg (fun x => e (q.mp x)), show min t 400 = t by omega]
  -- a FAULT
  have flt : ∀ (k pp : Nat) (S2 : mq_St), 0 < k → k ≤ 3 → S2.1 10 = nI k → S2.1 11 = nI pp → zf_X11_read_127 N z (nI s) x S2 = some (-2, mq_si (mq_si S2 4 (nI k)) 5 (nI pp)) := by
    intro k pp S2 k0 k3 e10 e11
    unfold zf_X11_read_127 zf_X11_read_151
    rw [nS_e, e10, show (mq_si S2 4 (nI k)).1 10 = nI k from e10, if_neg (nI_ne0 k0 (by omega)), nS_e, show (mq_si S2 4 (nI k)).1 11 = nI pp from e11, show (mq_si (mq_si S2 4 (nI k)) 5 (nI pp)).1 10 = nI k from e10, if_neg (nI_ne0 k0 (by omega))]
  have wr : ∀ (pp : Nat) (S2 : mq_St), S2.1 10 = 0 → S2.1 8 = nI pp → zf_X11_read_120 N z (nI s) x S2 = some (-2, mq_si (mq_si (mq_si (mq_si S2 10 (nI 1)) 11 (nI pp)) 4 (nI 1)) 5 (nI pp)) := by
    intro pp S2 e10 e8
    unfold zf_X11_read_120
    rw [show (1 : Int32) = nI 1 from rfl, ro_wrong (k := 1) e10 e8, mq_cl_s, nI_e, flt 1 pp _ (by omega) (by omega) rfl rfl]
  have outF : ∀ (S2 : mq_St) (k pp : Nat), ag [10, 11] [] [] S1 S2 → ag [0, 1, 3, 4, 5, 6, 7, 8, 9, 10, 11, 12, 13, 14, 15, 16, 17] [2, 3, 4, 5, 6, 7, 8, 9, 10, 11, 12, 13, 14] [] S (mq_si (mq_si S2 4 (nI k)) 5 (nI pp)) ∧ tbR (mq_si (mq_si S2 4 (nI k)) 5 (nI pp)) L ∧ (mq_si (mq_si S2 4 (nI k)) 5 (nI pp)).1 1 = 0 ∧ (mq_si (mq_si S2 4 (nI k)) 5 (nI pp)).2.1 5 = S.2.1 5 ∧ (mq_si (mq_si S2 4 (nI k)) 5 (nI pp)).2.1 6 = S.2.1 6 := by
    intro S2 k pp g
    refine ⟨ag_tr (ag_tr (ag_tr g1 (ag_mono g (by decide) (by decide) (by decide))) (ag_si (by decide))) (ag_si (by decide)), tbR_c hL1 (g.1 3 (by decide)) (g.2.1 2 (by decide)) (g.2.1 3 (by decide)) (g.2.1 4 (by decide)), (g.1 1 (by decide)).trans b1, (g.2.1 5 (by decide)).trans b5, (g.2.1 6 (by decide)).trans b6⟩
  have hwA : ag [10, 11] [] [] S1 (mq_si (mq_si S1 10 (nI 1)) 11 (nI (min t 400))) := ag_tr (ag_si (by decide)) (ag_si (by decide))
  rw [fiA_st (n := N) (n' := 500) (by omega) (by omega)]
  unfold fiA
  generalize hR : paA pl B (min t 400) 500 0 [] [] true = R at *
  rcases a2 with ⟨n0, hq⟩ | ⟨z0, hq, e10, e11⟩ | ⟨z0, zo, zc, e10, e8, T, hnd, hTl, hRV⟩
  · rw [if_pos n0]
    refine ⟨fun _ => ?_, fun q => absurd q n0⟩
    rcases hq with ⟨q1, q2, q3⟩ | ⟨q1, q2, q3, q4, q5⟩
    · obtain ⟨o1, o2, o3, o4, o5⟩ := outF S1 R.1 R.2.1 ag_rf
      refine ⟨_, ?_, rfl, rfl, o3, o2, o4, o5, o1⟩
      rw [hrd, if_neg (by rw [q1]; exact nI_ne0 (by omega) (by omega)), flt R.1 R.2.1 S1 (by omega) q3 q1 q2]
    · obtain ⟨o1, o2, o3, o4, o5⟩ := outF (mq_si (mq_si S1 10 (nI 1)) 11 (nI R.2.1)) 1 R.2.1 (ag_tr (ag_si (by decide)) (ag_si (by decide)))
      refine ⟨_, ?_, by rw [q1]; rfl, rfl, o3, o2, o4, o5, o1⟩
      rw [hrd, if_pos q2, rs_here (by omega) bt b9 q3 q4 q5, mq_cl_s, if_neg (nI_nm1 (by have := (bt.2 R.2.1 q4).2.1; omega)), wr R.2.1 S1 q2 q3]
  · rw [if_neg (fun q => q z0), if_pos (Or.inr hq)]
    refine ⟨fun _ => ?_, fun q => absurd q (show ¬ (1 : Nat) = 0 by decide)⟩
    obtain ⟨o1, o2, o3, o4, o5⟩ := outF S1 1 (min t 400) ag_rf
    refine ⟨_, ?_, rfl, rfl, o3, o2, o4, o5, o1⟩
    rw [hrd, if_neg (by rw [e10]; decide), flt 1 (min t 400) S1 (by omega) (by omega) e10 e11]
  · rw [if_neg (fun q => q z0)]
    have hse := rs_end (N := N) (z := z) (by omega) bt b9 e8
    by_cases hlong : 400 < t
    · rw [if_pos (Or.inl hlong)]
      refine ⟨fun _ => ?_, fun q => absurd q (show ¬ (1 : Nat) = 0 by decide)⟩
      obtain ⟨o1, o2, o3, o4, o5⟩ := outF (mq_si (mq_si S1 10 (nI 1)) 11 (nI (min t 400))) 1 (min t 400) hwA
      refine ⟨_, ?_, rfl, rfl, o3, o2, o4, o5, o1⟩
      rw [hrd, if_pos e10, hse, mq_cl_s, if_pos rfl, if_neg (show ¬ t ≤ 400 by omega), if_neg (by decide), wr (min t 400) S1 e10 e8]
    · rw [if_neg (by rintro (q | q | q) <;> first | omega | (rw [zo] at q; cases q))]
      refine ⟨fun q => absurd rfl q, fun _ => ?_⟩
      generalize htr : (joinA pl 4 R.2.2.1 R.2.2.2.1).2.headD (Int.Internal.Linear.Expr.num 0) = tr at *
      show ((mk (du tr) (mk tr L).2).2.length ≤ 300 → _) ∧ _
      obtain ⟨y, hxy, hy⟩ := hRV
      have hyl := (List.getElem?_eq_some_iff.mp hy).1
      have wt : wf tr := hnd.2.2.1 tr (List.mem_of_getElem? hy)
      have m0 : mt T (2 * y) tr := by unfold mt; rw [if_pos (by omega), show 2 * y / 2 = y by omega]; exact hy
      have m1' : mt T (2 * y + 1) (du tr) := by unfold mt; rw [if_neg (by omega), du_du, show (2 * y + 1) / 2 = y by omega]; exact hy
      let S2 : mq_St := mq_si (mq_si (mq_si S1 4 0) 5 (-1)) 6 0
      have g2 : ag [4, 5, 6] [] [] S1 S2 := ag_tr (ag_tr (ag_si (by decide)) (ag_si (by decide))) (ag_si (by decide))
      have hD0 : ∀ j, j < 2 * T.length → Dm S2 j = -1 := fun j hj => by
        unfold Dm
        split
        · exact (hnd.2.2.2.2 (j / 2) (by omega)).1
        · exact (hnd.2.2.2.2 (j / 2) (by omega)).2
      have hQ2 : Qm T L S2 (some L) := ⟨rfl, tbR_c hL1 rfl rfl rfl rfl, h0, ⟨[], (List.append_nil L).symm⟩, fun m u hu => Or.inl (hD0 m (by have := mt_lt hu; omega))⟩
      obtain ⟨S3, c1, c2, c3, c4, c5, c6⟩ := rf_makes (N := N) (z := z) (T := T) (L0 := L) (S := S2) (o := some L) hN hL.2.1 m0 ⟨hnd.2.1, hnd.2.2.1, hnd.2.2.2.1⟩ hTl hQ2 (hD0 _ (by omega))
      have nd3 : ndM S3 T := ndM_c (S := S2) ⟨hnd.2.1, hnd.2.2.1, hnd.2.2.2.1⟩ (c6.2.1 7 (by decide)) (c6.2.1 8 (by decide)) (c6.2.1 9 (by decide))
      obtain ⟨S4, d1, d2, d3, d4, d5, d6⟩ := rf_makes (N := N) (z := z) (T := T) (L0 := L) (S := S3) (o := mkO tr (some L)) hN hL.2.1 m1' nd3 hTl c2 (by rw [c5 (2 * y + 1) (by omega) (by omega)]; exact hD0 _ (by omega))
      have i0 : isv (2 * y) = 1 := by unfold isv; rw [if_pos (by omega)]
      have i1 : isv (2 * y + 1) = 0 := by unfold isv; rw [if_neg (by omega)]
      rw [show 2 * y / 2 = y by omega, i0] at c1
      rw [show (2 * y + 1) / 2 = y by omega, i1] at d1
      have hDy : Dm S4 (2 * y) = Dm S3 (2 * y) := d4 _ c3
      have g4 := ag_tr (ag_tr g1 (ag_mono g2 (by decide) (by decide) (by decide))) (ag_tr (ag_mono c6 (by decide) (by decide) (by decide)) (ag_mono d6 (by decide) (by decide) (by decide)) : ag [0, 1, 3, 4, 5, 6, 7, 8, 9, 10, 11, 12, 13, 14, 15, 16, 17] [2, 3, 4, 5, 6, 7, 8, 9, 10, 11, 12, 13, 14] [] S2 S4)
      have E : zf_X11_read N z (nI s) (if pl = true then 0 else 1) S = (if S4.1 6 = 0 then mq_ck (nI s) 8 (mq_nS (mq_sa S4 5 (upd (S4.2.1 5) (nI s).toNatClampNeg (Dm S3 (2 * y)))) (fun S46 => mq_ck (nI s) 8 (mq_nS (mq_sa S46 6 (upd (S46.2.1 6) (nI s).toNatClampNeg (Dm S4 (2 * y + 1)))) (fun S48 => some (Dm S3 (2 * y), S48))))) else mq_nS (mq_si S4 3 (nI L.length)) (fun S49 => mq_nS (mq_si S49 4 4) (fun S50 => some (-2, S50)))) := by
        rw [hrd, if_pos e10, hse, mq_cl_s, if_pos rfl, if_pos (show t ≤ 400 by omega), if_pos rfl]
        unfold zf_X11_read_127 zf_X11_read_151
        rw [nS_e, e10, show (mq_si S1 4 0).1 10 = 0 from e10, if_pos rfl, nS_e, show (mq_si (mq_si S1 4 0) 5 (-1)).1 10 = 0 from e10, if_pos rfl, show (mq_si (mq_si S1 4 0) 5 (-1)).1 3 = nI L.length from hL1.1, nI_e, mq_cz_0, nS_e, hxy, show mq_si (mq_si (mq_si S1 4 0) 5 (-1)) 6 0 = S2 from rfl, c1, mq_cl_s, nI_e, d1, mq_cl_s, nI_e]
      have e8' : vp_in (nI s) 8 := vp_in_nI hs (by omega)
      have ecs : (nI s).toNatClampNeg = s := nI_clamp (by omega)
      refine ⟨fun q => ?_, fun q => ?_⟩
      · have q1 : (mk tr L).2.length ≤ 300 := by have := mk_len (du tr) (mk tr L).2; omega
        have ho : mkO (du tr) (mkO tr (some L)) = some (mk (du tr) (mk tr L).2).2 := by rw [mkO_s, if_pos q1, mkO_s, if_pos q]
        rw [ho] at d2
        obtain ⟨t6, tT, t0, -, tD⟩ := d2
        obtain ⟨X, hX⟩ := mk_ext (du tr) (mk tr L).2
        have pY : pr tr (mk (du tr) (mk tr L).2).2 (mk tr L).1 := by rw [hX]; exact pr_mono (pr_mk tr L) X
        have vY : Dm S3 (2 * y) = nI (mk tr L).1 := by
          rw [← hDy]
          rcases tD (2 * y) tr m0 with e | ⟨k, e, p⟩
          · exact absurd e (by rw [hDy]; exact c3)
          · rw [e, pr_fn p pY]
        have vN : Dm S4 (2 * y + 1) = nI (mk (du tr) (mk tr L).2).1 := by
          rcases tD (2 * y + 1) (du tr) m1' with e | ⟨k, e, p⟩
          · exact absurd e d3
          · rw [e, pr_fn p (pr_mk (du tr) (mk tr L).2)]
        rw [t6, if_pos rfl, vY, vN, ecs, mq_ck_of e8', nS_e, mq_ck_of e8', nS_e] at E
        refine ⟨_, E, ?_, ?_, ?_, tbR_c tT rfl rfl rfl rfl, ?_, ?_, ag_tr (ag_tr g4 (ag_sa (by decide))) (ag_sa (by decide))⟩
        · exact (d6.1 4 (by decide)).trans (c6.1 4 (by decide))
        · exact (d6.1 5 (by decide)).trans (c6.1 5 (by decide))
        · exact (d6.1 1 (by decide)).trans ((c6.1 1 (by decide)).trans b1)
        · show upd (S4.2.1 5) s _ = _
          rw [d6.2.1 5 (by decide), c6.2.1 5 (by decide)]
          show upd (S1.2.1 5) s _ = _
          rw [b5]
        · show upd (S4.2.1 6) s _ = _
          rw [d6.2.1 6 (by decide), c6.2.1 6 (by decide)]
          show upd (S1.2.1 6) s _ = _
          rw [b6]
      · have q : 300 < (mk (du tr) (mk tr L).2).2.length := q
        have ho : mkO (du tr) (mkO tr (some L)) = none := by
          rw [mkO_s]
          by_cases q1 : (mk tr L).2.length ≤ 300
          · rw [if_pos q1, mkO_s, if_neg (show ¬ (mk (du tr) (mk tr L).2).2.length ≤ 300 by omega)]
          · rw [if_neg q1]; rfl
        rw [ho] at d2
        obtain ⟨t6, X, tT⟩ := d2
        rw [t6, if_neg (show ¬ (1 : Int32) = 0 by decide), nS_e, nS_e] at E
        refine ⟨_, E, rfl, ?_, ?_, ⟨rfl, hL.2.1, fun f hf => ?_⟩, ?_, ?_, ag_tr (ag_tr g4 (ag_si (by decide))) (ag_si (by decide))⟩
        · exact (d6.1 5 (by decide)).trans (c6.1 5 (by decide))
        · exact (d6.1 1 (by decide)).trans ((c6.1 1 (by decide)).trans b1)
        · have := tT.2.2 f (by rw [List.length_append]; omega)
          rw [List.getElem?_append_left hf] at this
          exact this
        · exact (d6.2.1 5 (by decide)).trans ((c6.2.1 5 (by decide)).trans b5)
        · exact (d6.2.1 6 (by decide)).trans ((c6.2.1 6 (by decide)).trans b6)
end
/-! 9g.st_read -/
section
/-! read: both sides alike. -/
/-- the reference's tape holds bytes -/
def ivB (b : Nat → Int32) : Prop := ∀ i, (b i).toInt8.toInt32 = b i
theorem i8_and (x : Int32) : (x &&& 255).toInt8 = x.toInt8 := by
  apply Int8.toBitVec_inj.mp
  rw [Int32.toBitVec_toInt8, Int32.toBitVec_toInt8, Int32.toBitVec_and]
  apply BitVec.eq_of_getLsbD_eq
  intro i hi
  rw [BitVec.getLsbD_signExtend, BitVec.getLsbD_signExtend, if_pos (by omega), if_pos (by omega), BitVec.getLsbD_and]
  have : (255 : Int32).toBitVec.getLsbD i = true := by
    have h : ∀ i, i < 8 → (255 : Int32).toBitVec.getLsbD i = true := by decide
    exact h i hi
  rw [this, Bool.and_true]
theorem by_eqv {x : Int32} (hx : x.toInt8.toInt32 = x) {v : Nat} (hv : v < 128) : x = nI v ↔ x &&& 255 = nI v := by
  have hs : ∀ v, v < 128 → (nI v).toInt8.toInt32 = nI v ∧ nI v &&& 255 = nI v := by decide
  constructor
  · intro e
    rw [e]
    exact (hs v hv).2
  · intro e
    rw [← hx, ← i8_and, e]
    exact (hs v hv).1
/-- FORMULAS and slots: both sides -/
def ivF (SC SR : mq_St) : Prop := ∃ L, gtb L ∧ tbC SC L ∧ tbR SR L ∧ (∀ f, f < L.length → SC.2.1 7 f = nI (dd L f)) ∧ ∀ s, s < 8 → SC.2.1 0 s = SR.2.1 5 s ∧ SC.2.1 1 s = SR.2.1 6 s ∧ ((SC.2.1 0 s = -1 ∧ SC.2.1 1 s = -1) ∨ ∃ f, f < L.length ∧ SC.2.1 0 s = nI f ∧ SC.2.1 1 s = nI (dd L f))
theorem ivF_fs {SC SR : mq_St} (h : ivF SC SR) : ∃ L, gtb L ∧ tbC SC L ∧ tbR SR L ∧ iv_fs L.length (dd L) (SC.1 2) (SC.2.1 4) (SC.2.1 5) (SC.2.1 6) (SC.2.1 7) (SC.2.1 0) (SC.2.1 1) (SR.1 3) (SR.2.1 2) (SR.2.1 3) (SR.2.1 4) (SR.2.1 5) (SR.2.1 6) := by
  obtain ⟨L, h1, h2, h3, h4, h5⟩ := h
  refine ⟨L, h1, h2, h3, h2.1, h3.1, gtb_fw h1 h3.2.2, fun f hf => ?_, h5⟩
  obtain ⟨e1, e2, e3⟩ := en_eq.mp (Option.some.inj ((h2.2.2.1 f hf).symm.trans (h3.2.2 f hf)))
  exact ⟨e1, e2, e3, h4 f hf⟩
theorem ivF_c {SC SR SC' SR' : mq_St} (h : ivF SC SR) (c2 : SC'.1 2 = SC.1 2) (c4 : SC'.2.1 4 = SC.2.1 4) (c5 : SC'.2.1 5 = SC.2.1 5) (c6 : SC'.2.1 6 = SC.2.1 6) (c7 : SC'.2.1 7 = SC.2.1 7) (c0 : SC'.2.1 0 = SC.2.1 0) (c1 : SC'.2.1 1 = SC.2.1 1) (cl : SC'.2.2 0 = SC.2.2 0) (r3 : SR'.1 3 = SR.1 3) (r2 : SR'.2.1 2 = SR.2.1 2) (a3 : SR'.2.1 3 = SR.2.1 3) (a4 : SR'.2.1 4 = SR.2.1 4) (a5 : SR'.2.1 5 = SR.2.1 5) (a6 : SR'.2.1 6 = SR.2.1 6) : ivF SC' SR' := by
  obtain ⟨L, h1, h2, h3, h4, h5⟩ := h
  refine ⟨L, h1, tbC_c h2 c2 c4 c5 c6 cl, tbR_c h3 r3 r2 a3 a4, ?_, ?_⟩
  · rw [c7]; exact h4
  · rw [c0, c1, a5, a6]; exact h5
theorem dd_old {L X : List En} (h : gtb L) (hl : (L ++ X).length < 2147483648) {f : Nat} (hf : f < L.length) : dd (L ++ X) f = dd L f := by
  obtain ⟨h0, h3, -, ht⟩ := h
  obtain ⟨s, w, p, g, pg⟩ := ht f hf
  rw [dd_is h0 (by omega) w p pg]
  exact dd_is (ok0_app h0 X) hl w (pr_mono p X) (pr_mono pg X)
theorem st_read {N : Nat} {z : Nat → Nat} {SC SR : mq_St} (v : Int32) (pl : Bool) (hN : 20000 ≤ N) (ht : iv_tape (SC.1 0) (SC.2.1 2) (SR.1 1) (SR.2.1 0)) (hb : ivB (SR.2.1 0)) (hF : ivF SC SR) (hq : SC.1 11 = SR.1 4 ∧ SC.1 12 = SR.1 5) :
    ∃ r SC' SR', zf_X10_read N z v (if pl = true then 0 else 1) SC = some (r, SC') ∧ zf_X11_read N z v (if pl = true then 0 else 1) SR = some (r, SR') ∧ iv_tape (SC'.1 0) (SC'.2.1 2) (SR'.1 1) (SR'.2.1 0) ∧ ivF SC' SR' ∧ (SC'.1 11 = SR'.1 4 ∧ SC'.1 12 = SR'.1 5) ∧ ag [0, 2, 3, 4, 5, 6, 7, 8, 9, 10, 11, 12] [0, 1, 2, 4, 5, 6, 7, 8, 9, 10, 11, 12, 13, 14] [0] SC SC' ∧ ag [0, 1, 3, 4, 5, 6, 7, 8, 9, 10, 11, 12, 13, 14, 15, 16, 17] [2, 3, 4, 5, 6, 7, 8, 9, 10, 11, 12, 13, 14] [] SR SR' := by
  have htall := ht
  obtain ⟨t, t4, tc, tr, tb⟩ := ht
  have e7 : (7 : Int32) = nI 8 - 1 := by decide
  have e8 : (8 : Int32) = nI 8 := rfl
  rcases mq_place v (t := 8) (by omega) with hv | ⟨s, hs, rfl, hv⟩
  · refine ⟨-1, SC, mq_si SR 0 0, ?_, ?_, htall, ivF_c hF rfl rfl rfl rfl rfl rfl rfl rfl rfl rfl rfl rfl rfl rfl, hq, ag_rf, ag_si (by decide)⟩
    · unfold zf_X10_read
      rw [ck_isSlot, e8, if_pos hv, mq_cp_s, if_pos rfl]
    · unfold zf_X11_read
      rw [nS_e, rf_in, e7, if_pos ((mq_lst 8 (by omega) v).mpr hv), mq_cp_s, if_pos rfl]
  · obtain ⟨L, h1, h2, h3, h4, h5⟩ := hF
    have hF : ivF SC SR := ⟨L, h1, h2, h3, h4, h5⟩
    have hB : ∀ i, i < min t 400 → SR.2.1 0 i &&& 255 = nI (Bt (SC.2.1 2) i) ∧ Bt (SC.2.1 2) i < 256 ∧ ∀ w : Nat, w < 128 → (SR.2.1 0 i = nI w ↔ Bt (SC.2.1 2) i = w) := by
      intro i hi
      obtain ⟨a, b⟩ := bt_is (SC.2.1 2) i
      have e : SR.2.1 0 i &&& 255 = nI (Bt (SC.2.1 2) i) := by rw [← tb i (by omega), a]
      refine ⟨e, b, fun w hw => ?_⟩
      rw [by_eqv (hb i) hw, e]
      exact nI_eq (by omega) (by omega)
    obtain ⟨RF, RO⟩ := rf_read (N := N) (z := z) (S := SR) (pl := pl) hN hs tr t4 hB h3 h1.1
    obtain ⟨w, S1, d1, d2, d3, d4⟩ := ck_draw (N := N) (z := z) (pl := pl) (S := SC) (by omega) tc t4
    have t1 : S1.1 0 = nI t := (d4.1 0 (by decide)).trans tc
    have hk : zf_X0_keep N z 0 (mq_pull S1 [0] [2] []) = some (1, mq_si (mq_pull S1 [0] [2] []) 0 0) := by
      rw [by_keep, if_neg]
      rintro (q | q)
      · exact absurd q (by decide)
      · have q : S1.1 0 < 0 := q
        rw [t1] at q
        exact nI_pos (by omega) q
    let S2 : mq_St := mq_push S1 (mq_si (mq_pull S1 [0] [2] []) 0 0) [0] [2] []
    have g2 : ag [0] [2] [] S1 S2 := ag_push
    have k2 : S2.1 0 = 0 := rfl
    have g02 : ag [0, 2, 3, 4, 5, 6, 7, 8, 9, 10, 11, 12] [0, 1, 2, 4, 5, 6, 7, 8, 9, 10, 11, 12, 13, 14] [0] SC S2 := ag_tr (ag_mono d4 (by decide) (by decide) (by decide)) (ag_mono g2 (by decide) (by decide) (by decide))
    have E : zf_X10_read N z (nI s) (if pl = true then 0 else 1) SC = (if w = -1 then some (-2, S2) else mq_cl (zf_X10_fill N z (nI s) w S2) (fun q S12 => if q = 0 then mq_cl (zf_X5_fail N z 4 (-1) S12) (fun _ S16 => some (-2, S16)) else mq_ck (nI s) 8 (some (S12.2.1 0 (nI s).toNatClampNeg, S12)))) := by
      unfold zf_X10_read
      rw [ck_isSlot, e8, if_neg hv, mq_cp_s, if_neg (by decide), d1, mq_cl_s, nI_e, hk, mq_cl_s, nS_e]
    have emp : ∀ {SC' SR' : mq_St}, SC'.1 0 = 0 → SR'.1 1 = 0 → iv_tape (SC'.1 0) (SC'.2.1 2) (SR'.1 1) (SR'.2.1 0) := fun a b => ⟨0, by omega, a, b, fun i hi => by omega⟩
    have sC : tbC S2 L := tbC_c h2 (d4.1 2 (by decide)) (d4.2.1 4 (by decide)) (d4.2.1 5 (by decide)) (d4.2.1 6 (by decide)) (d4.2.2 0 (by decide))
    by_cases hz : (fiA pl (Bt (SC.2.1 2)) t N).1 = 0
    · obtain ⟨x11, x12, xv, xw, W, xd, xr, xu⟩ := d2 hz
      rw [if_neg xv] at E
      obtain ⟨RA, RB⟩ := RO hz
      have xd2 : dft S2 W := dft_c xd (g2.1 3 (by decide)) (g2.1 4 (by decide)) (g2.2.1 8 (by decide)) (g2.2.1 9 (by decide)) (g2.2.1 10 (by decide)) (g2.2.1 11 (by decide))
      obtain ⟨FA, FB⟩ := ck_fill (N := N) (z := z) (S := S2) (W := W) (L := L) (v := w) (s := s) (by omega) hs xd2 xr xw xu sC h1 (fun f hf => by
        show S1.2.1 7 f = _
        rw [d4.2.1 7 (by decide)]
        exact h4 f hf)
      generalize htr : (fiA pl (Bt (SC.2.1 2)) t N).2.2 = tt at *
      by_cases hlen : (mk (du tt) (mk tt L).2).2.length ≤ 300
      · obtain ⟨SC', a1, a2, a3, a4, a5, a6, a7⟩ := FA hlen
        obtain ⟨SR', b1, b2, b3, b4, b5, b6, b7, b8⟩ := RA hlen
        obtain ⟨X1, hX1⟩ := mk_ext tt L
        obtain ⟨X2, hX2⟩ := mk_ext (du tt) (mk tt L).2
        have eL : (mk (du tt) (mk tt L).2).2 = L ++ (X1 ++ X2) := by rw [hX2, hX1, List.append_assoc]
        have py : pr tt (mk (du tt) (mk tt L).2).2 (mk tt L).1 := by rw [hX2]; exact pr_mono (pr_mk tt L) X2
        have pn := pr_mk (du tt) (mk tt L).2
        have ylt := pr_lt xw a3.1 py
        have ddy := dd_is a3.1 (by omega) xw py pn
        have s0 : S2.2.1 0 = SC.2.1 0 := d4.2.1 0 (by decide)
        have s1 : S2.2.1 1 = SC.2.1 1 := d4.2.1 1 (by decide)
        rw [a1, mq_cl_s, if_neg (show ¬ (1 : Int32) = 0 by decide), mq_ck_of (vp_in_nI hs (by omega)), nI_clamp (by omega), a5, up_s] at E
        refine ⟨_, SC', SR', E, b1, emp ((a7.1 0 (by decide)).trans k2) b4, ⟨_, a3, a2, b5, a4, fun j hj => ?_⟩, ⟨?_, ?_⟩, ag_tr g02 (ag_mono a7 (by decide) (by decide) (by decide)), b8⟩
        · rw [a5, a6, b6, b7, s0, s1]
          unfold upd
          by_cases e : j = s
          · simp only [if_pos e]
            exact ⟨trivial, trivial, Or.inr ⟨_, ylt, rfl, by rw [ddy]⟩⟩
          · simp only [if_neg e]
            obtain ⟨q1, q2, q3⟩ := h5 j hj
            refine ⟨q1, q2, ?_⟩
            rcases q3 with q3 | ⟨f, hf, f1, f2⟩
            · exact Or.inl q3
            · refine Or.inr ⟨f, by rw [eL, List.length_append]; omega, f1, ?_⟩
              rw [eL] at hlen ⊢
              rw [dd_old h1 (by omega) hf]
              exact f2
        · rw [b2, a7.1 11 (by decide)]
          exact (g2.1 11 (by decide)).trans x11
        · rw [b3, a7.1 12 (by decide)]
          exact (g2.1 12 (by decide)).trans x12
      · obtain ⟨S3, a1, a2, a3, a4⟩ := FB (by omega)
        obtain ⟨SR', b1, b2, b3, b4, b5, b6, b7, b8⟩ := RB (by omega)
        have s0 : S3.2.1 0 = SC.2.1 0 := (a4.2.1 0 (by decide)).trans (d4.2.1 0 (by decide))
        have s1 : S3.2.1 1 = SC.2.1 1 := (a4.2.1 1 (by decide)).trans (d4.2.1 1 (by decide))
        have hfl : zf_X5_fail N z 4 (-1) S3 = some ((), mq_si (mq_si S3 11 4) 12 (-1)) := by unfold zf_X5_fail; rw [nS_e, nS_e]
        rw [a1, mq_cl_s, if_pos rfl, hfl, mq_cl_s] at E
        refine ⟨-2, _, SR', E, b1, emp ((a4.1 0 (by decide)).trans k2) b4, ⟨L, h1, tbC_c a2 rfl rfl rfl rfl rfl, b5, a3, ?_⟩, ⟨?_, ?_⟩, ag_tr (ag_tr (ag_tr g02 (ag_mono a4 (by decide) (by decide) (by decide))) (ag_si (by decide))) (ag_si (by decide)), b8⟩
        · show ∀ j, j < 8 → S3.2.1 0 j = SR'.2.1 5 j ∧ S3.2.1 1 j = SR'.2.1 6 j ∧ ((S3.2.1 0 j = -1 ∧ S3.2.1 1 j = -1) ∨ ∃ f, f < L.length ∧ S3.2.1 0 j = nI f ∧ S3.2.1 1 j = nI (dd L f))
          rw [s0, s1, b6, b7]
          exact h5
        · rw [b2]; rfl
        · rw [b3]; rfl
    · obtain ⟨xv, x11, x12⟩ := d3 hz
      obtain ⟨SR', b1, b2, b3, b4, b5, b6, b7, b8⟩ := RF hz
      rw [if_pos xv] at E
      have s0 : S2.2.1 0 = SC.2.1 0 := d4.2.1 0 (by decide)
      have s1 : S2.2.1 1 = SC.2.1 1 := d4.2.1 1 (by decide)
      refine ⟨-2, S2, SR', E, b1, emp k2 b4, ⟨L, h1, sC, b5, fun f hf => ?_, ?_⟩, ⟨?_, ?_⟩, g02, b8⟩
      · show S1.2.1 7 f = _
        rw [d4.2.1 7 (by decide)]
        exact h4 f hf
      · rw [s0, s1, b6, b7]
        exact h5
      · rw [b2]; exact x11
      · rw [b3]; exact x12
end
/-! 9h.pop -/
section
/-! Long.bitCount: how many bits; the lowest bit. -/
def nt (x : Int64) : Nat := x.toBitVec.toNat
theorem nt_lt (x : Int64) : nt x < 18446744073709551616 := x.toBitVec.isLt
theorem nt_shr (x : Int64) (k : Nat) (hk : k < 64) : nt (mq_lushr x (nI k)) = nt x / 2 ^ k := by
  show (x.toUInt64 >>> ((nI k).toInt64.toUInt64 &&& Int64.toUInt64 63)).toBitVec.toNat = x.toUInt64.toBitVec.toNat / 2 ^ k
  rw [UInt64.toBitVec_shiftRight]
  show (x.toUInt64.toBitVec >>> (((nI k).toInt64.toUInt64 &&& Int64.toUInt64 63).toBitVec % 64).toNat).toNat = _
  rw [l_u k hk, BitVec.toNat_ushiftRight, Nat.shiftRight_eq_div_pow]
theorem nt_and (x y : Int64) : nt (x &&& y) = nt x &&& nt y := by
  unfold nt
  rw [Int64.toBitVec_and, BitVec.toNat_and]
theorem nt_add (x y : Int64) (h : nt x + nt y < 18446744073709551616) : nt (x + y) = nt x + nt y := by
  unfold nt at h ⊢
  rw [Int64.toBitVec_add, BitVec.toNat_add]
  exact Nat.mod_eq_of_lt h
theorem nt_sub (x y : Int64) (h : nt y ≤ nt x) : nt (x - y) = nt x - nt y := by
  have hx := nt_lt x
  unfold nt at h hx ⊢
  rw [Int64.toBitVec_sub, BitVec.toNat_sub]
  have e : 2 ^ 64 - y.toBitVec.toNat + x.toBitVec.toNat = 2 ^ 64 + (x.toBitVec.toNat - y.toBitVec.toNat) := by
    have := y.toBitVec.isLt
    omega
  rw [e, Nat.add_mod_left, Nat.mod_eq_of_lt (by omega)]
/-- byte by byte -/
def mp (g : Nat → Nat) : Nat → Nat → Nat
  | 0, _ => 0
  | k + 1, u => 256 * mp g k (u / 256) + g (u % 256)
def ms (c : Nat) : Nat → Nat
  | 0 => 0
  | k + 1 => 256 * ms c k + c
theorem and_256 (a b c d : Nat) (hb : b < 256) (hd : d < 256) : (256 * a + b) &&& (256 * c + d) = 256 * (a &&& c) + (b &&& d) := by
  have h1 : ((256 * a + b) &&& (256 * c + d)) / 2 ^ 8 = a &&& c := by
    rw [Nat.and_div_two_pow]
    show (256 * a + b) / 256 &&& (256 * c + d) / 256 = _
    rw [show (256 * a + b) / 256 = a by omega, show (256 * c + d) / 256 = c by omega]
  have h2 : ((256 * a + b) &&& (256 * c + d)) % 2 ^ 8 = b &&& d := by
    rw [Nat.and_mod_two_pow]
    show (256 * a + b) % 256 &&& (256 * c + d) % 256 = _
    rw [show (256 * a + b) % 256 = b by omega, show (256 * c + d) % 256 = d by omega]
  have h1 : ((256 * a + b) &&& (256 * c + d)) / 256 = a &&& c := h1
  have h2 : ((256 * a + b) &&& (256 * c + d)) % 256 = b &&& d := h2
  omega
def t1 (e : Nat) : Nat := e - ((e / 2) &&& 85)
def t2 (e : Nat) : Nat := (e &&& 51) + ((e / 4) &&& 51)
def t3 (e : Nat) : Nat := (e + e / 16) &&& 15
theorem d_1 : ∀ e, e < 256 → ∀ c, c < 2 → ((128 * c + e / 2) &&& 85) = ((e / 2) &&& 85) ∧ ((e / 2) &&& 85) ≤ e := by decide +kernel
theorem d_2 : ∀ e, e < 256 → ∀ c, c < 4 → ((64 * c + e / 4) &&& 51) = ((e / 4) &&& 51) ∧ t2 e < 256 := by decide +kernel
theorem d_3 : ∀ e, e < 256 → t2 (t1 e) % 16 ≤ 4 ∧ t2 (t1 e) / 16 ≤ 4 ∧ t1 e < 256 ∧ t3 (t2 (t1 e)) ≤ 8 := by decide +kernel
theorem d_4 : ∀ e, e < 137 → ∀ c, c < 16 → e + 16 * c < 256 → ((16 * c + e) &&& 15) = (e &&& 15) := by decide +kernel
theorem s_1 : ∀ (k u : Nat), u < 256 ^ k → ((u / 2) &&& ms 85 k) ≤ u ∧ u - ((u / 2) &&& ms 85 k) = mp t1 k u
  | 0, u, h => by
    have : u = 0 := by simpa using h
    rw [this]
    decide
  | k + 1, u, h => by
    have h' : u / 256 < 256 ^ k := by rw [Nat.pow_succ] at h; omega
    obtain ⟨i1, i2⟩ := s_1 k (u / 256) h'
    obtain ⟨a1, a2⟩ := d_1 (u % 256) (by omega) (u / 256 % 2) (by omega)
    have e : (u / 2) &&& ms 85 (k + 1) = 256 * ((u / 256 / 2) &&& ms 85 k) + ((u % 256 / 2) &&& 85) := by
      show (u / 2) &&& (256 * ms 85 k + 85) = _
      have eu : u / 2 = 256 * (u / 256 / 2) + (128 * (u / 256 % 2) + u % 256 / 2) := by omega
      rw [eu, and_256 _ _ _ _ (by omega) (by omega), a1]
    show _ ∧ _ = 256 * mp t1 k (u / 256) + t1 (u % 256)
    rw [e, ← i2]
    unfold t1
    omega
theorem s_2 : ∀ (k u : Nat), u < 256 ^ k → (u &&& ms 51 k) + ((u / 4) &&& ms 51 k) = mp t2 k u
  | 0, u, h => by
    have : u = 0 := by simpa using h
    rw [this]
    decide
  | k + 1, u, h => by
    have h' : u / 256 < 256 ^ k := by rw [Nat.pow_succ] at h; omega
    have i2 := s_2 k (u / 256) h'
    obtain ⟨a1, a2⟩ := d_2 (u % 256) (by omega) (u / 256 % 4) (by omega)
    have e1 : u &&& ms 51 (k + 1) = 256 * ((u / 256) &&& ms 51 k) + ((u % 256) &&& 51) := by
      show u &&& (256 * ms 51 k + 51) = _
      have eu : u = 256 * (u / 256) + u % 256 := by omega
      rw [← and_256 _ _ _ _ (by omega) (by omega), ← eu]
    have e2 : (u / 4) &&& ms 51 (k + 1) = 256 * ((u / 256 / 4) &&& ms 51 k) + ((u % 256 / 4) &&& 51) := by
      show (u / 4) &&& (256 * ms 51 k + 51) = _
      have eu : u / 4 = 256 * (u / 256 / 4) + (64 * (u / 256 % 4) + u % 256 / 4) := by omega
      rw [eu, and_256 _ _ _ _ (by omega) (by omega), a1]
    show _ = 256 * mp t2 k (u / 256) + t2 (u % 256)
    rw [e1, e2, ← i2]
    unfold t2
    omega
theorem mp_lt {g : Nat → Nat} (hg : ∀ e, e < 256 → g e < 256) : ∀ (k u : Nat), mp g k u < 256 ^ k
  | 0, _ => by show 0 < 1; omega
  | k + 1, u => by
    have := mp_lt hg k (u / 256)
    have := hg (u % 256) (by omega)
    show 256 * mp g k (u / 256) + g (u % 256) < 256 ^ (k + 1)
    rw [Nat.pow_succ]
    omega
theorem mp_mp {f g : Nat → Nat} (hg : ∀ e, e < 256 → g e < 256) : ∀ (k u : Nat), mp f k (mp g k u) = mp (fun e => f (g e)) k u
  | 0, _ => rfl
  | k + 1, u => by
    have h := hg (u % 256) (by omega)
    have ih := mp_mp (f := f) hg k (u / 256)
    show 256 * mp f k ((256 * mp g k (u / 256) + g (u % 256)) / 256) + f ((256 * mp g k (u / 256) + g (u % 256)) % 256) = 256 * mp (fun e => f (g e)) k (u / 256) + f (g (u % 256))
    rw [show (256 * mp g k (u / 256) + g (u % 256)) / 256 = mp g k (u / 256) by omega, show (256 * mp g k (u / 256) + g (u % 256)) % 256 = g (u % 256) by omega, ih]
/-- every byte has small halves -/
theorem s_3 {g : Nat → Nat} (hg : ∀ e, e < 256 → g e % 16 ≤ 4 ∧ g e / 16 ≤ 4) : ∀ (k u : Nat), ((mp g k u + mp g k u / 16) &&& ms 15 k) = mp (fun e => t3 (g e)) k u
  | 0, _ => by show (0 + 0 / 16) &&& 0 = 0; decide
  | k + 1, u => by
    have ih := s_3 hg k (u / 256)
    have h := hg (u % 256) (by omega)
    have hw : mp g k (u / 256) % 16 ≤ 4 := by
      cases k with
      | zero => show 0 % 16 ≤ 4; omega
      | succ k =>
        have := (hg (u / 256 % 256) (by omega)).1
        show (256 * mp g k (u / 256 / 256) + g (u / 256 % 256)) % 16 ≤ 4
        omega
    have a := d_4 (g (u % 256) + g (u % 256) / 16) (by omega) (mp g k (u / 256) % 16) (by omega) (by omega)
    show ((256 * mp g k (u / 256) + g (u % 256)) + (256 * mp g k (u / 256) + g (u % 256)) / 16) &&& (256 * ms 15 k + 15) = 256 * mp (fun e => t3 (g e)) k (u / 256) + t3 (g (u % 256))
    have e : (256 * mp g k (u / 256) + g (u % 256)) + (256 * mp g k (u / 256) + g (u % 256)) / 16 = 256 * (mp g k (u / 256) + mp g k (u / 256) / 16) + (16 * (mp g k (u / 256) % 16) + (g (u % 256) + g (u % 256) / 16)) := by omega
    rw [e, and_256 _ _ _ _ (by omega) (by omega), ih, a]
    rfl
def pb (e : Nat) : Nat := t3 (t2 (t1 e))
/-- the bits of a word, counted from the lowest on -/
def cb (u : Nat) : Nat → Nat
  | 0 => 0
  | k + 1 => cb u k + (if u.testBit k = true then 1 else 0)
theorem pb_is : ∀ e, e < 256 → pb e = cb e 8 := by decide +kernel
theorem cb_shift (u : Nat) (a : Nat) : ∀ k : Nat, cb u (a + k) = cb u a + cb (u / 2 ^ a) k
  | 0 => rfl
  | k + 1 => by
    show cb u (a + k) + (if u.testBit (a + k) = true then 1 else 0) = cb u a + (cb (u / 2 ^ a) k + (if (u / 2 ^ a).testBit k = true then 1 else 0))
    rw [cb_shift u a k, Nat.testBit_div_two_pow, Nat.add_comm k a, Nat.add_assoc]
theorem cb_mod (u : Nat) (n : Nat) : ∀ k : Nat, k ≤ n → cb (u % 2 ^ n) k = cb u k
  | 0, _ => rfl
  | k + 1, h => by
    show cb (u % 2 ^ n) k + (if (u % 2 ^ n).testBit k = true then 1 else 0) = cb u k + (if u.testBit k = true then 1 else 0)
    rw [cb_mod u n k (by omega), Nat.testBit_mod_two_pow, decide_eq_true (show k < n by omega), Bool.true_and]
theorem cb_8 (u : Nat) : cb u 8 = pb (u % 256) := by
  rw [pb_is _ (by omega)]
  exact (cb_mod u 8 8 (by omega)).symm
theorem cb_64 (u : Nat) : cb u 64 = pb (u % 256) + pb (u / 256 % 256) + pb (u / 65536 % 256) + pb (u / 16777216 % 256) + pb (u / 4294967296 % 256) + pb (u / 1099511627776 % 256) + pb (u / 281474976710656 % 256) + pb (u / 72057594037927936 % 256) := by
  rw [show 64 = 8 + (8 + (8 + (8 + (8 + (8 + (8 + 8)))))) from rfl]
  rw [cb_shift u 8, cb_shift _ 8, cb_shift _ 8, cb_shift _ 8, cb_shift _ 8, cb_shift _ 8, cb_shift _ 8]
  simp only [cb_8, Nat.div_div_eq_div_mul]
  simp only [Nat.reducePow, Nat.reduceMul]
  omega
theorem mp_8 (g : Nat → Nat) (u : Nat) : mp g 8 u = g (u % 256) + 256 * g (u / 256 % 256) + 65536 * g (u / 65536 % 256) + 16777216 * g (u / 16777216 % 256) + 4294967296 * g (u / 4294967296 % 256) + 1099511627776 * g (u / 1099511627776 % 256) + 281474976710656 * g (u / 281474976710656 % 256) + 72057594037927936 * g (u / 72057594037927936 % 256) := by
  simp only [mp, Nat.div_div_eq_div_mul, Nat.reduceMul]
  omega
theorem bc_is {N : Nat} {z : Nat → Nat} {S : mq_St} (x : Int64) : zf_J13_bitCount_95d88 N z x S = some (nI (cb (nt x) 64)) := by
  have hx := nt_lt x
  have p8 : (256 : Nat) ^ 8 = 18446744073709551616 := by decide
  have m1' : nt (6148914691236517205 : Int64) = ms 85 8 := by decide
  have m2' : nt (3689348814741910323 : Int64) = ms 51 8 := by decide
  have m3' : nt (1085102592571150095 : Int64) = ms 15 8 := by decide
  have g1 : ∀ e, e < 256 → t1 e < 256 := fun e he => (d_3 e he).2.2.1
  have g2 : ∀ e, e < 256 → t2 (t1 e) < 256 := fun e he => (d_2 (t1 e) (g1 e he) 0 (by omega)).2
  have g3 : ∀ e, e < 256 → pb e ≤ 8 := fun e he => (d_3 e he).2.2.2
  obtain ⟨a1, a2⟩ := s_1 8 (nt x) (by omega)
  -- the first step
  have e1 : nt (mq_lushr x 1 &&& 6148914691236517205) = (nt x / 2) &&& ms 85 8 := by
    rw [nt_and, m1', show (1 : Int32) = nI 1 from rfl, nt_shr x 1 (by omega)]
  have x1 : nt (x - (mq_lushr x 1 &&& 6148914691236517205)) = mp t1 8 (nt x) := by rw [nt_sub _ _ (by rw [e1]; exact a1), e1, a2]
  generalize hx1 : x - (mq_lushr x 1 &&& 6148914691236517205) = y1 at x1
  have l1 := mp_lt g1 8 (nt x)
  -- the second
  have b2 := s_2 8 (nt y1) (by rw [x1]; exact l1)
  have x2 : nt ((y1 &&& 3689348814741910323) + (mq_lushr y1 2 &&& 3689348814741910323)) = mp (fun e => t2 (t1 e)) 8 (nt x) := by
    have e2 : nt (y1 &&& 3689348814741910323) = nt y1 &&& ms 51 8 := by rw [nt_and, m2']
    have e3 : nt (mq_lushr y1 2 &&& 3689348814741910323) = (nt y1 / 4) &&& ms 51 8 := by
      rw [nt_and, m2', show (2 : Int32) = nI 2 from rfl, nt_shr y1 2 (by omega)]
    have l2 := mp_lt g2 8 (nt x)
    have l2' : mp t2 8 (nt y1) < 18446744073709551616 := by rw [x1, mp_mp g1, ← p8]; exact l2
    rw [nt_add _ _ (by rw [e2, e3, b2]; exact l2'), e2, e3, b2, x1, mp_mp g1]
  generalize hx2 : (y1 &&& 3689348814741910323) + (mq_lushr y1 2 &&& 3689348814741910323) = y2 at x2
  -- the third
  have b3 := s_3 (g := fun e => t2 (t1 e)) (fun e he => ⟨(d_3 e he).1, (d_3 e he).2.1⟩) 8 (nt x)
  have hsm : mp (fun e => t2 (t1 e)) 8 (nt x) < 5000000000000000000 := by
    rw [mp_8]
    have q : ∀ e, t2 (t1 (e % 256)) ≤ 68 := fun e => by have := d_3 (e % 256) (by omega); omega
    have := q (nt x); have := q (nt x / 256); have := q (nt x / 65536); have := q (nt x / 16777216); have := q (nt x / 4294967296); have := q (nt x / 1099511627776); have := q (nt x / 281474976710656); have := q (nt x / 72057594037927936)
    omega
  have x3 : nt ((y2 + mq_lushr y2 4) &&& 1085102592571150095) = mp pb 8 (nt x) := by
    have e4 : nt (mq_lushr y2 4) = nt y2 / 16 := by rw [show (4 : Int32) = nI 4 from rfl, nt_shr y2 4 (by omega)]
    rw [nt_and, m3', nt_add _ _ (by rw [e4, x2]; omega), e4, x2, b3]
    rfl
  generalize hx3 : (y2 + mq_lushr y2 4) &&& 1085102592571150095 = y3 at x3
  rw [mp_8] at x3
  have c := cb_64 (nt x)
  have q : ∀ e, pb (e % 256) ≤ 8 := fun e => g3 (e % 256) (by omega)
  have q0 := q (nt x)
  have q1 := q (nt x / 256)
  have q2 := q (nt x / 65536)
  have q3 := q (nt x / 16777216)
  have q4 := q (nt x / 4294967296)
  have q5 := q (nt x / 1099511627776)
  have q6 := q (nt x / 281474976710656)
  have q7 := q (nt x / 72057594037927936)
  generalize pb (nt x % 256) = c0 at *
  generalize pb (nt x / 256 % 256) = c1 at *
  generalize pb (nt x / 65536 % 256) = c2 at *
  generalize pb (nt x / 16777216 % 256) = c3 at *
  generalize pb (nt x / 4294967296 % 256) = c4 at *
  generalize pb (nt x / 1099511627776 % 256) = c5 at *
  generalize pb (nt x / 281474976710656 % 256) = c6 at *
  generalize pb (nt x / 72057594037927936 % 256) = c7 at *
  have f4 : nt (mq_lushr y3 8) = c1 + 256 * c2 + 65536 * c3 + 16777216 * c4 + 4294967296 * c5 + 1099511627776 * c6 + 281474976710656 * c7 := by
    rw [show (8 : Int32) = nI 8 from rfl, nt_shr y3 8 (by omega), x3]
    show _ / 256 = _
    omega
  have x4 : nt (y3 + mq_lushr y3 8) = (c0 + c1) + 256 * (c1 + c2) + 65536 * (c2 + c3) + 16777216 * (c3 + c4) + 4294967296 * (c4 + c5) + 1099511627776 * (c5 + c6) + 281474976710656 * (c6 + c7) + 72057594037927936 * c7 := by
    rw [nt_add _ _ (by rw [f4, x3]; omega), f4, x3]
    omega
  generalize hx4 : y3 + mq_lushr y3 8 = y4 at x4
  have f5 : nt (mq_lushr y4 16) = (c2 + c3) + 256 * (c3 + c4) + 65536 * (c4 + c5) + 16777216 * (c5 + c6) + 4294967296 * (c6 + c7) + 1099511627776 * c7 := by
    rw [show (16 : Int32) = nI 16 from rfl, nt_shr y4 16 (by omega), x4]
    show _ / 65536 = _
    omega
  have x5 : nt (y4 + mq_lushr y4 16) = (c0 + c1 + c2 + c3) + 256 * (c1 + c2 + c3 + c4) + 65536 * (c2 + c3 + c4 + c5) + 16777216 * (c3 + c4 + c5 + c6) + 4294967296 * (c4 + c5 + c6 + c7) + 1099511627776 * (c5 + c6 + c7) + 281474976710656 * (c6 + c7) + 72057594037927936 * c7 := by
    rw [nt_add _ _ (by rw [f5, x4]; omega), f5, x4]
    omega
  generalize hx5 : y4 + mq_lushr y4 16 = y5 at x5
  have f6 : nt (mq_lushr y5 32) = (c4 + c5 + c6 + c7) + 256 * (c5 + c6 + c7) + 65536 * (c6 + c7) + 16777216 * c7 := by
    rw [show (32 : Int32) = nI 32 from rfl, nt_shr y5 32 (by omega), x5]
    show _ / 4294967296 = _
    omega
  have x6 : nt (y5 + mq_lushr y5 32) % 128 = cb (nt x) 64 := by
    rw [nt_add _ _ (by rw [f6, x5]; omega), f6, x5, c]
    omega
  unfold zf_J13_bitCount_95d88
  rw [nL_e, hx1, nL_e, hx2, nL_e, hx3, nL_e, hx4, nL_e, hx5, nL_e, pk_and _ 7 (by decide)]
  congr 2
  rw [← x6]
  unfold nt
  rw [Int64.toBitVec_toInt32, BitVec.signExtend_eq_setWidth_of_le _ (by omega), BitVec.toNat_setWidth]
  show _ % 4294967296 % 128 = _
  omega
end
