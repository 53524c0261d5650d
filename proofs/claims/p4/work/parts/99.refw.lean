/-! The reference's reader: operand(), one sign behind an operand. -/
section RW
variable {N : Nat} {z : Nat → Nat} {pl : Bool} {S : mq_St} {T : List Tr} {G : List Nat} {V : List Tr} {B : Nat → Nat} {len p : Nat}
theorem stA_o {s : Nat} (h : ¬ isAt s) (ho : opc s ≤ 3) : stA pl s G V true = (if 60 ≤ nop G then (2, G, V, true) else if pl = false ∧ 2 ≤ opc s then (3, G, V, true) else (0, opc s :: G, V, true)) := by
  unfold stA
  rw [if_pos rfl, if_neg h, if_pos ho]
theorem stA_n {s : Nat} (h : ¬ isAt s) (ho : ¬ opc s ≤ 3) : stA pl s G V true = (1, G, V, true) := by
  unfold stA
  rw [if_pos rfl, if_neg h, if_neg ho]
theorem stA_a {s : Nat} (h : isAt s) : stA pl s G V true = (0, (aheadA pl G (atomT pl s :: V)).1, (aheadA pl G (atomT pl s :: V)).2, false) := by
  unfold stA
  rw [if_pos rfl, if_pos h]
theorem rw_operand (hN : 500 ≤ N) (hB : tpR S B len) (h9 : S.1 9 = nI len) (h8 : S.1 8 = nI p) (hp : p < len) (hb : ¬ (B p = 32 ∨ B p = 10)) (h : rdR S G V pl T) (h10 : S.1 10 = 0) (hA : okA G V true) (h60 : nop G ≤ 60) (hG : G.length ≤ p) (hV : V.length ≤ p) (hT : T.length + 5 * G.length ≤ 5 * p) :
    ((stA pl (sg B len p) G V true).1 = 0 → ∃ S' T', zf_X11_operand N z S = some (if (stA pl (sg B len p) G V true).2.2.2 = true then 0 else 1, S') ∧ rdR S' (stA pl (sg B len p) G V true).2.1 (stA pl (sg B len p) G V true).2.2.1 pl T' ∧ S'.1 8 = nI (if sg B len p = 91 ∨ sg B len p = 60 then p + 2 else p + 1) ∧ S'.1 10 = 0 ∧ T'.length + 5 * (stA pl (sg B len p) G V true).2.1.length ≤ 5 * (if sg B len p = 91 ∨ sg B len p = 60 then p + 2 else p + 1) ∧ ag [7, 8, 12, 14, 15, 16] [7, 8, 9, 10, 11, 12, 13] [] S S') ∧
    (¬ (stA pl (sg B len p) G V true).1 = 0 → ∃ S', zf_X11_operand N z S = some (0, S') ∧ S'.1 10 = nI (stA pl (sg B len p) G V true).1 ∧ S'.1 11 = nI p ∧ ag [8, 10, 11, 12, 15, 16] [13] [] S S') := by
  have hl := hB.1
  obtain ⟨b1, b2, b3⟩ := hB.2 p hp
  have s10 : ¬ B p = 10 := fun q => hb (Or.inr q)
  have E0 : zf_X11_operand N z S = (if (if nI (B p) < 97 ∨ (122 : Int32) < nI (B p) then (0 : Int32) else 1) = 0 then (if nI (B p) = (84 : Int32) then zf_X11_operand_28 N z (nI (B p)) S else if nI (B p) = (70 : Int32) then zf_X11_operand_28 N z (nI (B p)) S else if nI (B p) = (91 : Int32) then (if nI len ≤ nI (p + 1) then zf_X11_operand_148 N z (nI (B p)) S else mq_ck (nI (p + 1)) 4000 (if S.2.1 0 (nI (p + 1)).toNatClampNeg = (93 : Int32) then zf_X11_operand_149 N z (nI (B p)) 1 S else zf_X11_operand_148 N z (nI (B p)) S)) else zf_X11_operand_148 N z (nI (B p)) S) else zf_X11_operand_28 N z (nI (B p)) S) := by
    unfold zf_X11_operand
    rw [rs_here hN hB h9 h8 hp hb, mq_cl_s, nI_e, rf_in, mq_cp_s, h9, h8, nI_1]
  have e97 : (nI (B p) < (97 : Int32)) ↔ B p < 97 := nI_ltI (b := 97) (by omega) (by omega)
  have e122 : ((122 : Int32) < nI (B p)) ↔ 122 < B p := nI_ltI (a := 122) (by omega) (by omega)
  have e84 : (nI (B p) = (84 : Int32)) ↔ B p = 84 := nI_eq (b := 84) (by omega) (by omega)
  have e70 : (nI (B p) = (70 : Int32)) ↔ B p = 70 := nI_eq (b := 70) (by omega) (by omega)
  have e91 : (nI (B p) = (91 : Int32)) ↔ B p = 91 := nI_eq (b := 91) (by omega) (by omega)
  have e60 : (nI (B p) = (60 : Int32)) ↔ B p = 60 := nI_eq (b := 60) (by omega) (by omega)
  have e40 : (nI (B p) = (40 : Int32)) ↔ B p = 40 := nI_eq (b := 40) (by omega) (by omega)
  have e33 : (nI (B p) = (33 : Int32)) ↔ B p = 33 := nI_eq (b := 33) (by omega) (by omega)
  have i1 : vp_in (nI (p + 1)) 4000 := vp_in_nI (by omega) (by omega)
  have k1 : (nI (p + 1)).toNatClampNeg = p + 1 := nI_clamp (by omega)
  have wr1 : zf_X11_wrong N z 1 S = some (0, mq_si (mq_si S 10 (nI 1)) 11 (nI p)) := ro_wrong (k := 1) h10 h8
  have wrA : ag [8, 10, 11, 12, 15, 16] [13] [] S (mq_si (mq_si S 10 (nI 1)) 11 (nI p)) := ag_tr (ag_si (by decide)) (ag_si (by decide))
  -- what opens, by its code
  have opn : ∀ (s o : Nat) (nd my : Int32), sg B len p = s → ¬ isAt s → opc s = o → o ≤ 3 → (B p = 40 ↔ o = 0) → ((nd = 0 ∧ my = 0 ∧ o < 2) ∨ (nd = 1 ∧ my = 0 ∧ o = 2) ∨ (nd = 0 ∧ my = 1 ∧ o = 3)) → ((s = 91 ∨ s = 60) ↔ 2 ≤ o) → zf_X11_operand N z S = zf_X11_operand_251 N z (nI (B p)) nd my (nI o) S →
      (((stA pl (sg B len p) G V true).1 = 0 → ∃ S' T', zf_X11_operand N z S = some (if (stA pl (sg B len p) G V true).2.2.2 = true then 0 else 1, S') ∧ rdR S' (stA pl (sg B len p) G V true).2.1 (stA pl (sg B len p) G V true).2.2.1 pl T' ∧ S'.1 8 = nI (if sg B len p = 91 ∨ sg B len p = 60 then p + 2 else p + 1) ∧ S'.1 10 = 0 ∧ T'.length + 5 * (stA pl (sg B len p) G V true).2.1.length ≤ 5 * (if sg B len p = 91 ∨ sg B len p = 60 then p + 2 else p + 1) ∧ ag [7, 8, 12, 14, 15, 16] [7, 8, 9, 10, 11, 12, 13] [] S S') ∧
      (¬ (stA pl (sg B len p) G V true).1 = 0 → ∃ S', zf_X11_operand N z S = some (0, S') ∧ S'.1 10 = nI (stA pl (sg B len p) G V true).1 ∧ S'.1 11 = nI p ∧ ag [8, 10, 11, 12, 15, 16] [13] [] S S')) := by
    intro s o nd my hs hat hoc ho hc hnm h2 E
    obtain ⟨o1, o2, o3⟩ := ro_open (N := N) (z := z) (pl := pl) (S := S) (c := B p) (o := o) (p := p) ho hc b2 hnm h h10 h8 (by omega) h60 hG hT
    rw [hs, stA_o hat (by omega), hoc, E]
    have eif : (if s = 91 ∨ s = 60 then p + 2 else p + 1) = (if 2 ≤ o then p + 2 else p + 1) := by
      by_cases q : 2 ≤ o
      · rw [if_pos (h2.mpr q), if_pos q]
      · rw [if_neg (fun x => q (h2.mp x)), if_neg q]
    rw [eif]
    by_cases q : 60 ≤ nop G
    · rw [if_pos q]
      obtain ⟨S', a1, a2, a3, a4⟩ := o1 q
      exact ⟨fun x => absurd x (show ¬ (2 : Nat) = 0 by decide), fun _ => ⟨S', a1, a2, a3, ag_mono a4 (by decide) (by decide) (by decide)⟩⟩
    · rw [if_neg q]
      by_cases q2 : pl = false ∧ 2 ≤ o
      · rw [if_pos q2]
        obtain ⟨S', a1, a2, a3, a4⟩ := o2 (by omega) q2
        exact ⟨fun x => absurd x (show ¬ (3 : Nat) = 0 by decide), fun _ => ⟨S', a1, a2, a3, a4⟩⟩
      · rw [if_neg q2]
        obtain ⟨S', a1, a2, a3, a4, a5⟩ := o3 (by omega) q2
        refine ⟨fun _ => ⟨S', T, a1, a2, a3, a4, ?_, ag_mono a5 (by decide) (by decide) (by decide)⟩, fun x => absurd rfl x⟩
        show T.length + 5 * (G.length + 1) ≤ _
        split <;> omega
  -- nothing that can stand
  have bad : ∀ s : Nat, sg B len p = s → ¬ isAt s → opc s = 9 → zf_X11_operand N z S = mq_cl (zf_X11_wrong N z 1 S) (fun q20v S22 => mq_nI q20v (fun x23 => mq_cz 0 (some (0, S22)))) →
      (((stA pl (sg B len p) G V true).1 = 0 → ∃ S' T', zf_X11_operand N z S = some (if (stA pl (sg B len p) G V true).2.2.2 = true then 0 else 1, S') ∧ rdR S' (stA pl (sg B len p) G V true).2.1 (stA pl (sg B len p) G V true).2.2.1 pl T' ∧ S'.1 8 = nI (if sg B len p = 91 ∨ sg B len p = 60 then p + 2 else p + 1) ∧ S'.1 10 = 0 ∧ T'.length + 5 * (stA pl (sg B len p) G V true).2.1.length ≤ 5 * (if sg B len p = 91 ∨ sg B len p = 60 then p + 2 else p + 1) ∧ ag [7, 8, 12, 14, 15, 16] [7, 8, 9, 10, 11, 12, 13] [] S S') ∧
      (¬ (stA pl (sg B len p) G V true).1 = 0 → ∃ S', zf_X11_operand N z S = some (0, S') ∧ S'.1 10 = nI (stA pl (sg B len p) G V true).1 ∧ S'.1 11 = nI p ∧ ag [8, 10, 11, 12, 15, 16] [13] [] S S')) := by
    intro s hs hat hoc E
    rw [hs, stA_n hat (by omega), E, wr1, mq_cl_s, nI_e, mq_cz_0]
    exact ⟨fun x => absurd x (show ¬ (1 : Nat) = 0 by decide), fun _ => ⟨_, rfl, rfl, rfl, wrA⟩⟩
  have hsg : ¬ B p = 91 → ¬ B p = 60 → sg B len p = B p := fun n1 n2 => by
    unfold sg
    rw [if_neg s10, if_neg n1, if_neg n2]
  by_cases hat : isAt (B p)
  · have hs := hsg (by omega) (by omega)
    rw [hs, stA_a hat]
    obtain ⟨S', T', a1, a2, a3, a4, a5⟩ := ro_atom (N := N) (z := z) (pl := pl) hN h hat h8 (by omega) hA hG hV hT
    refine ⟨fun _ => ⟨S', T', ?_, a2, by rw [if_neg (by omega)]; exact a3, (a5.1 10 (by decide)).trans h10, by rw [if_neg (show ¬ (B p = 91 ∨ B p = 60) by omega)]; exact a4, ag_mono a5 (by decide) (by decide) (by decide)⟩, fun x => absurd rfl x⟩
    rw [E0]
    have fin : zf_X11_operand_28 N z (nI (B p)) S = some (if false = true then 0 else 1, S') := a1
    rcases hat with q | q | q
    · rw [if_pos (by rw [if_pos (Or.inl (e97.mpr (by omega)))]), if_pos (e84.mpr q)]; exact fin
    · rw [if_pos (by rw [if_pos (Or.inl (e97.mpr (by omega)))]), if_neg (fun x => by have := e84.mp x; omega), if_pos (e70.mpr q)]; exact fin
    · have hno : ¬ (nI (B p) < (97 : Int32) ∨ (122 : Int32) < nI (B p)) := by
        rintro (x | x)
        · have := e97.mp x; omega
        · have := e122.mp x; omega
      rw [if_neg hno, if_neg (by decide)]; exact fin
  · have hq5 : (if nI (B p) < 97 ∨ (122 : Int32) < nI (B p) then (0 : Int32) else 1) = 0 := by
      rw [if_pos]
      by_cases q : B p < 97
      · exact Or.inl (e97.mpr q)
      · exact Or.inr (e122.mpr (by omega))
    have n84 : ¬ nI (B p) = (84 : Int32) := fun x => hat (Or.inl (e84.mp x))
    have n70 : ¬ nI (B p) = (70 : Int32) := fun x => hat (Or.inr (Or.inl (e70.mp x)))
    rw [if_pos hq5, if_neg n84, if_neg n70] at E0
    have E221 : ∀ nd my : Int32, zf_X11_operand_221 N z (nI (B p)) nd my S = (if B p = 40 then zf_X11_operand_251 N z (nI (B p)) nd my (nI 0) S else if B p = 33 then zf_X11_operand_251 N z (nI (B p)) nd my (nI 1) S else if nd = 0 then zf_X11_operand_251 N z (nI (B p)) nd my (nI 3) S else zf_X11_operand_251 N z (nI (B p)) nd my (nI 2) S) := fun nd my => by
      unfold zf_X11_operand_221
      simp only [e40, e33]
      rfl
    by_cases q40 : B p = 40
    · refine opn 40 0 0 0 (by rw [hsg (by omega) (by omega), q40]) (by decide) rfl (by omega) (by omega) (Or.inl ⟨rfl, rfl, by omega⟩) (by omega) ?_
      rw [E0, if_neg (fun x => by have := e91.mp x; omega)]
      unfold zf_X11_operand_148 zf_X11_operand_149 zf_X11_operand_189 zf_X11_operand_190
      rw [nI_e, if_neg (fun x => by have := e60.mp x; omega), nI_e, if_pos (e40.mpr q40), E221, if_pos q40]
    · by_cases q33 : B p = 33
      · refine opn 33 1 0 0 (by rw [hsg (by omega) (by omega), q33]) (by decide) rfl (by omega) (by omega) (Or.inl ⟨rfl, rfl, by omega⟩) (by omega) ?_
        rw [E0, if_neg (fun x => by have := e91.mp x; omega)]
        unfold zf_X11_operand_148 zf_X11_operand_149 zf_X11_operand_189 zf_X11_operand_190
        rw [nI_e, if_neg (fun x => by have := e60.mp x; omega), nI_e, if_neg (fun x => q40 (e40.mp x)), if_pos (e33.mpr q33), E221, if_neg q40, if_pos q33]
      · have n40 : ¬ nI (B p) = (40 : Int32) := fun x => q40 (e40.mp x)
        have n33 : ¬ nI (B p) = (33 : Int32) := fun x => q33 (e33.mp x)
        by_cases q91 : B p = 91
        · rw [if_pos (e91.mpr q91)] at E0
          have n60 : ¬ nI (B p) = (60 : Int32) := fun x => by have := e60.mp x; omega
          have no : zf_X11_operand_148 N z (nI (B p)) S = mq_cl (zf_X11_wrong N z 1 S) (fun q20v S22 => mq_nI q20v (fun x23 => mq_cz 0 (some (0, S22)))) := by
            unfold zf_X11_operand_148 zf_X11_operand_149 zf_X11_operand_189 zf_X11_operand_190
            rw [nI_e, if_neg n60, nI_e, if_neg n40, if_neg n33, if_pos rfl, if_pos rfl]
          by_cases q : p + 1 < len ∧ B (p + 1) = 93
          · have t93 : S.2.1 0 (p + 1) = (93 : Int32) := ((hB.2 (p + 1) q.1).2.2 93 (by omega)).mpr q.2
            rw [if_neg (nI_ge q.1 (by omega)), mq_ck_of i1, k1, if_pos t93] at E0
            refine opn 91 2 1 0 (by unfold sg; rw [if_neg s10, if_pos q91, if_pos q]) (by decide) rfl (by omega) (by omega) (Or.inr (Or.inl ⟨rfl, rfl, rfl⟩)) (by omega) ?_
            rw [E0]
            unfold zf_X11_operand_149 zf_X11_operand_189 zf_X11_operand_190
            rw [nI_e, if_neg n60, nI_e, if_neg n40, if_neg n33, if_neg (by decide), E221, if_neg q40, if_neg q33, if_neg (by decide)]
          · refine bad 0 (by unfold sg; rw [if_neg s10, if_pos q91, if_neg q]) (by decide) rfl ?_
            rw [E0, no]
            by_cases q2 : len ≤ p + 1
            · rw [if_pos (nI_le q2 (by omega))]
            · have t93 : ¬ S.2.1 0 (p + 1) = (93 : Int32) := fun x => q ⟨by omega, ((hB.2 (p + 1) (by omega)).2.2 93 (by omega)).mp x⟩
              rw [if_neg (nI_ge (by omega) (by omega)), mq_ck_of i1, k1, if_neg t93]
        · rw [if_neg (fun x => q91 (e91.mp x))] at E0
          by_cases q60 : B p = 60
          · have no : zf_X11_operand_189 N z (nI (B p)) 0 S = mq_cl (zf_X11_wrong N z 1 S) (fun q20v S22 => mq_nI q20v (fun x23 => mq_cz 0 (some (0, S22)))) := by
              unfold zf_X11_operand_189 zf_X11_operand_190
              rw [nI_e, if_neg n40, if_neg n33, if_pos rfl, if_pos rfl]
            have E1 : zf_X11_operand N z S = if nI len ≤ nI (p + 1) then zf_X11_operand_189 N z (nI (B p)) 0 S else mq_ck (nI (p + 1)) 4000 (if S.2.1 0 (nI (p + 1)).toNatClampNeg = (62 : Int32) then zf_X11_operand_190 N z (nI (B p)) 0 1 S else zf_X11_operand_189 N z (nI (B p)) 0 S) := by
              rw [E0]
              unfold zf_X11_operand_148 zf_X11_operand_149
              rw [nI_e, if_pos (e60.mpr q60), h9, h8, nI_1]
            by_cases q : p + 1 < len ∧ B (p + 1) = 62
            · have t62 : S.2.1 0 (p + 1) = (62 : Int32) := ((hB.2 (p + 1) q.1).2.2 62 (by omega)).mpr q.2
              rw [if_neg (nI_ge q.1 (by omega)), mq_ck_of i1, k1, if_pos t62] at E1
              refine opn 60 3 0 1 (by unfold sg; rw [if_neg s10, if_neg q91, if_pos q60, if_pos q]) (by decide) rfl (by omega) (by omega) (Or.inr (Or.inr ⟨rfl, rfl, rfl⟩)) (by omega) ?_
              rw [E1]
              unfold zf_X11_operand_190
              rw [nI_e, if_neg n40, if_neg n33, if_pos rfl, if_neg (by decide), E221, if_neg q40, if_neg q33, if_pos rfl]
            · refine bad 0 (by unfold sg; rw [if_neg s10, if_neg q91, if_pos q60, if_neg q]) (by decide) rfl ?_
              rw [E1, no]
              by_cases q2 : len ≤ p + 1
              · rw [if_pos (nI_le q2 (by omega))]
              · have t62 : ¬ S.2.1 0 (p + 1) = (62 : Int32) := fun x => q ⟨by omega, ((hB.2 (p + 1) (by omega)).2.2 62 (by omega)).mp x⟩
                rw [if_neg (nI_ge (by omega) (by omega)), mq_ck_of i1, k1, if_neg t62]
          · refine bad (B p) (hsg q91 q60) hat ?_ ?_
            · unfold opc
              rw [if_neg q40, if_neg q33, if_neg q91, if_neg q60]
            · rw [E0]
              unfold zf_X11_operand_148 zf_X11_operand_149 zf_X11_operand_189 zf_X11_operand_190
              rw [nI_e, if_neg (fun x => q60 (e60.mp x)), nI_e, if_neg n40, if_neg n33, if_pos rfl, if_pos rfl]
end RW
