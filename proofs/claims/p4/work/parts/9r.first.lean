/-! The tableau: a turn that tries the first part of an EITHER. -/
section FIRST
variable {N n F : Nat} {z : Nat → Nat} {so on tw : Nat → Int32} {d : Nat → Nat} {S SC SR : mq_St} {st W w ec ln wt m f : Nat} {R : List Nat}
/-- a row of one array of sets into another one's -/
theorem ck_cp {a b ra rb RA RB : Nat} {y : Nat → Nat} (hN : 10 ≤ N) (hab : a ≠ b) (hy0 : y 0 = 5 * RA) (hy1 : y 1 = 5 * RB) (hRA : RA < 10000) (hRB : RB < 10000) (h1 : ra < RA) (h2 : rb < RB) : ∃ q', zf_X6_copy N y (nI ra) (nI rb) (mq_pull S [] [] [a, b]) = some ((), mq_sl (mq_pull S [] [] [a, b]) 0 q') ∧ mq_push S (mq_sl (mq_pull S [] [] [a, b]) 0 q') [] [] [a, b] = mq_sl S a q' ∧ ∀ r g, g < 320 → lb q' r g = if r = ra then lb (S.2.2 b) rb g else lb (S.2.2 a) r g := by
  obtain ⟨q', e1, e2⟩ := se_copy (N := N) (R := RA) (R' := RB) (r := ra) (r' := rb) (z := y) (S := mq_pull S [] [] [a, b]) hN hy0 hy1 hRA hRB h1 h2
  refine ⟨q', e1, ?_, e2⟩
  refine Prod.ext rfl (Prod.ext rfl ?_)
  funext q
  show (match [a, b].idxOf? q with | some j => (mq_sl (mq_pull S [] [] [a, b]) 0 q').2.2 j | none => S.2.2 q) = if q = a then q' else S.2.2 q
  by_cases ea : q = a
  · have : [a, b].idxOf? q = some 0 := by rw [ea]; simp [List.idxOf?, List.findIdx?_cons]
    rw [this, if_pos ea]
    rfl
  · by_cases eb : q = b
    · have : [a, b].idxOf? q = some 1 := by
        rw [eb]
        simp [List.idxOf?, List.findIdx?_cons, hab]
      rw [this, if_neg ea, eb]
      rfl
    · rw [if_neg ea, List.idxOf?_eq_none_iff.mpr (by simp [ea, eb])]
theorem ck_st (hn : nuC S F st W w ec ln) (hF : F ≤ 100000) (h1 : st < F) : zf_X8_step N z S = some (1, mq_sa S 21 (upd (S.2.1 21) 0 (nI (st + 1)))) := by rw [ck_step hn.2.1 hn.1 (by omega) hF, if_pos h1]
theorem ck_sf (hn : nuC S F st W w ec ln) (hF : F ≤ 100000) (h0 : st ≤ F) (h1 : ¬ st < F) : zf_X8_step N z S = some (0, mq_si S 19 (-3)) := by rw [ck_step hn.2.1 hn.1 h0 hF, if_neg h1]
theorem ck_nt {r f : Int32} (hn : nuC S F st W w ec ln) (h2 : ln < 1299) : zf_X8_note N z r f (mq_sa S 21 (upd (S.2.1 21) 0 (nI (st + 1)))) = some (1, stC S st ln r f) := by rw [ck_note (S := mq_sa S 21 (upd (S.2.1 21) 0 (nI (st + 1)))) (ln := ln) r f hn.2.2.2.2.2.1 (by omega), if_pos h2]; rfl
theorem ck_nf {r f : Int32} (hn : nuC S F st W w ec ln) (h3 : ln ≤ 1299) (h2 : ¬ ln < 1299) : zf_X8_note N z r f (mq_sa S 21 (upd (S.2.1 21) 0 (nI (st + 1)))) = some (0, mq_si (mq_sa S 21 (upd (S.2.1 21) 0 (nI (st + 1)))) 19 (-4)) := by rw [ck_note (S := mq_sa S 21 (upd (S.2.1 21) 0 (nI (st + 1)))) (ln := ln) r f hn.2.2.2.2.2.1 h3, if_neg h2]
/-- the class behind an EITHER's first part, but for what it added -/
def eiC (S : mq_St) (st ec ln f : Nat) (q : Nat → Int64) : mq_St := mq_si (mq_sa (mq_sl (stC S st ln (nI 3) (nI f)) 5 q) 20 (upd (S.2.1 20) ec (nI f))) 14 (nI (ec + 1))
theorem ck_first (hN : 10 ≤ N) (hc : cxC S n so on tw d) (hw : w < 60) (hn : nuC S F st W w ec ln) (hF : F ≤ 100000) (hS : st ≤ F) (hL : ln ≤ 1299) (hE : ec ≤ 400) (hf : f < n) (hs : so f = nI 5) (hcl : clV n so d (lb (S.2.2 3) w) (S.1 17)) :
    (st < F → ln < 1299 → ec < 400 → ∃ q c l3 l4, zf_X8_tryFirst N z (nI f) S = some ((), mq_sl (mq_sl (mq_si (eiC S st ec ln f q) 17 c) 3 l3) 4 l4) ∧ (∀ e g, g < 320 → lb q e g = if e = ec then lb (S.2.2 3) w g else lb (S.2.2 5) e g) ∧ (∀ v g, g < 320 → lb l3 v g = (lb (S.2.2 3) v g || (decide (v = w) && decide (g = p1 on f)))) ∧ (∀ v g, g < 320 → lb l4 v g = (lb (S.2.2 4) v g || (decide (v = w) && decide (g = p1 on f)))) ∧ clV n so d (lb l3 w) c) ∧
    (¬ st < F → zf_X8_tryFirst N z (nI f) S = some ((), mq_si S 19 (-3))) ∧ (st < F → ¬ (ln < 1299 ∧ ec < 400) → zf_X8_tryFirst N z (nI f) S = some ((), mq_si (mq_sa S 21 (upd (S.2.1 21) 0 (nI (st + 1)))) 19 (-4))) := by
  have hfw := hc.2.2.2
  obtain ⟨p1f, p2f, p3f, p4f⟩ := fw_1 hfw hf hs (by omega) (by omega)
  have h300 := hfw.2.1
  have e14 : (nI ec < (400 : Int32)) ↔ ec < 400 := nI_ltI (b := 400) (by omega) (by omega)
  refine ⟨fun h1 h2 h3 => ?_, fun h1 => ?_, fun h1 h2 => ?_⟩
  · obtain ⟨q, e1, e2, e3⟩ := ck_cp (N := N) (S := stC S st ln (nI 3) (nI f)) (a := 5) (b := 3) (ra := ec) (rb := w) (RA := 666) (RB := 60) (y := fun k => [3330, 300].getD k 0) hN (by decide) rfl rfl (by omega) (by omega) (by omega) hw
    have hcT : cxC (eiC S st ec ln f q) n so on tw d := cxC_c hc rfl rfl rfl rfl rfl rfl
    have e4 : zf_X7_firstOf N z (nI f) (eiC S st ec ln f q) = some (nI (p1 on f)) := by rw [(ck_in hcT.1 h300 hf).2.1, (hcT.2.1 f hf).2.1, ← p2f]
    obtain ⟨S1, l3, l4, a1, a2, a3, a4, a5, a6, a7⟩ := ck_add (N := N) (z := z) (f := p1 on f) hcT hw hn.2.2.2.1 (by omega) hcl
    refine ⟨q, S1.1 17, l3, l4, ?_, e3, fun v g hg => ?_, fun v g hg => ?_, a6⟩
    · have := ag_3 a7
      rw [a2, a3] at this
      rw [← this]
      unfold zf_X8_tryFirst
      refine (cl_go (ck_st hn hF h1)).trans ?_
      rw [if_neg (by decide), show (mq_sa S 21 (upd (S.2.1 21) 0 (nI (st + 1)))).1 14 = nI ec from hn.2.2.2.2.1, if_pos (e14.mpr h3)]
      refine (cl_go (ck_nt (r := 3) (f := nI f) hn h2)).trans ?_
      have x14 : (stC S st ln 3 (nI f)).1 14 = nI ec := hn.2.2.2.2.1
      rw [if_neg (by decide), x14, show (stC S st ln 3 (nI f)).1 16 = nI w from hn.2.2.2.1]
      refine (cl_go e1).trans ((nS_go e2 (k := fun S9 => (mq_ck ((S9.1 14)) 400 (mq_nS (mq_sa S9 20 (upd (S9.2.1 20) ((S9.1 14)).toNatClampNeg (nI f))) (fun S11 => (mq_nS (mq_si S11 14 (((S11.1 14) + (1 : Int32)))) (fun S12 => (mq_cp (zf_X7_firstOf N z (nI f) S12) (fun q13 => (mq_cl (zf_X8_add N z (q13) S12) (fun q15v S17 => (some ((), S17))))))))))))).trans ?_)
      rw [show (mq_sl (stC S st ln (nI 3) (nI f)) 5 q).1 14 = nI ec from hn.2.2.2.2.1, mq_ck_of (vp_in_nI h3 (by omega)), nI_clamp (by omega), nS_e, nS_e]
      have x15 : (mq_sa (mq_sl (stC S st ln (nI 3) (nI f)) 5 q) 20 (upd ((mq_sl (stC S st ln (nI 3) (nI f)) 5 q).2.1 20) ec (nI f))).1 14 = nI ec := hn.2.2.2.2.1
      rw [x15, nI_1]
      exact (cp_go e4).trans (cl_go a1)
    · rw [a4 v g hg]
      show (lb (S.2.2 3) v g || _) = _
      rw [Bool.decide_and]
    · rw [a5 v g hg]
      show (lb (S.2.2 4) v g || _) = _
      rw [Bool.decide_and]
  · unfold zf_X8_tryFirst
    refine (cl_go (ck_sf hn hF hS h1)).trans ?_
    rw [if_pos rfl]
  · unfold zf_X8_tryFirst
    refine (cl_go (ck_st hn hF h1)).trans ?_
    rw [if_neg (by decide), show (mq_sa S 21 (upd (S.2.1 21) 0 (nI (st + 1)))).1 14 = nI ec from hn.2.2.2.2.1]
    by_cases h3 : ec < 400
    · rw [if_pos (e14.mpr h3)]
      refine (cl_go (ck_nf (r := 3) (f := nI f) hn hL (fun q => h2 ⟨q, h3⟩))).trans ?_
      rw [if_pos rfl]
    · rw [if_neg (fun q => h3 (e14.mp q)), nS_e]
theorem Dn_ei {c : Int32} {l3 l4 q : Nat → Int64} {p a : Nat → Int32} (hfw : fw n so on tw d) (h : Dn n so on tw d F SC SR st w ec ln wt R) (h17 : SC.1 17 = -1) (h1 : st < F) (h2 : ln < 1299) (h3 : ec < 400) (hf : f < n) (hs : so f = nI 5)
    (b3 : ∀ v g, g < 320 → lb l3 v g = (lb (SC.2.2 3) v g || (decide (v = w) && decide (g = p1 on f)))) (b4 : ∀ v g, g < 320 → lb l4 v g = (lb (SC.2.2 4) v g || (decide (v = w) && decide (g = p1 on f)))) (hcl : clV n so d (lb l3 w) c) (ha : ∀ g, g < 320 → ib a 0 g = (ib (SR.2.1 17) 0 g || decide (g = p1 on f)))
    (hq : ∀ e g, g < 320 → lb q e g = if e = ec then lb (SC.2.2 3) w g else lb (SC.2.2 5) e g) (hp : ∀ e g, g < 320 → ib p e g = if e = wt then ib (SR.2.1 17) 0 g else ib (SR.2.1 30) e g) :
    Dn n so on tw d F (mq_sl (mq_sl (mq_si (eiC SC st ec ln f q) 17 c) 3 l3) 4 l4) (eiR SR st ec ln wt f p a) (st + 1) w (ec + 1) (ln + 1) (wt + 1) R := by
  obtain ⟨p1f, p2f, p3f, p4f⟩ := fw_1 hfw hf hs (by omega) (by omega)
  have h300 := hfw.2.1
  obtain ⟨⟨o1, o2, o3, o4, o5, o6⟩, ⟨n1, n2, n3, n4, n5, n6, n7⟩, ⟨m1, m2, m3, m4, m5, m6, m7, m8⟩, ⟨k1, k2, k3⟩, q5, q6, q7, q8, q9, q10, q11, q12, q13, q14⟩ := h
  have x3 : ∀ g, g < 320 → lb l3 w g = (lb (SC.2.2 3) w g || decide (g = p1 on f)) := fun g hg => by rw [b3 w g hg, decide_eq_true (rfl : w = w), Bool.true_and]
  have x4 : ∀ g, g < 320 → lb l4 w g = (lb (SC.2.2 4) w g || decide (g = p1 on f)) := fun g hg => by rw [b4 w g hg, decide_eq_true (rfl : w = w), Bool.true_and]
  have y3 : ∀ p g, p < w → g < 320 → lb l3 p g = lb (SC.2.2 3) p g := fun p g hp hg => by rw [b3 p g hg, decide_eq_false (by omega), Bool.false_and, Bool.or_false]
  have y4 : ∀ p g, p < w → g < 320 → lb l4 p g = lb (SC.2.2 4) p g := fun p g hp hg => by rw [b4 p g hg, decide_eq_false (by omega), Bool.false_and, Bool.or_false]
  obtain ⟨z1, z2⟩ := row_add (A := fun g => decide (g = p1 on f)) hfw x3 x4 (fun g _ q => by have := of_decide_eq_true q; omega) q9 q11
  have noc : ∀ c, c < n → ¬ cls so d (lb (SC.2.2 3) w) c := by
    rcases q10 with ⟨-, q⟩ | ⟨c, c1, c2, -⟩
    · exact q
    · exact absurd (c2.symm.trans h17) (nI_nm (by omega))
  have qe : ∀ g, g < 320 → lb q ec g = lb (SC.2.2 3) w g := fun g hg => by rw [hq ec g hg, if_pos rfl]
  refine ⟨⟨by omega, o2, o3, o4, by omega, by omega⟩, ⟨n1, rfl, n3, n4, rfl, rfl, n7⟩, ⟨m1, rfl, m3, m4, rfl, rfl, m7, rfl⟩, ⟨k1, k2, k3⟩, lins_put q5 (by omega) (by omega) rfl rfl rfl, q6, stk_put (stk_c (SC := SC) (SR := SR) hfw R w ec wt ln (ln + 1) (by omega) ⟨fun p _ => ⟨rfl, rfl⟩, fun p hp => ⟨rfl, fun g hg => ⟨y3 p g hp hg, y4 p g hp hg⟩⟩, fun j hj => ⟨up_o (by omega), fun g hg => ?_⟩⟩ (fun e he => ⟨up_o (by omega), up_o (by omega), up_o (by omega), up_o (by omega), up_o (by omega), fun g hg => ?_⟩) q7) ?_, fun g hg => ?_, z1, hcl, z2, q12, q13, fun u hu hR g hg => ?_⟩
  · show lb q j g = _
    rw [hq j g hg, if_neg (by omega)]
  · show ib p e g = _
    rw [hp e g hg, if_neg (by omega)]
  · refine ⟨up_s _ _ _, (up_s _ _ _).trans m4, (up_s _ _ _).trans m3, ⟨f, hf, hs, up_s _ _ _, up_s _ _ _⟩, fun g hg => ?_, fun g hg q => q9 g hg ((qe g hg).symm.trans q), fun c hc q => noc c hc ((cls_x hfw qe hc).mp q)⟩
    show ib p wt g = lb q ec g
    rw [hp wt g hg, if_pos rfl, qe g hg]; exact q8 g hg
  · show ib a 0 g = lb l3 w g
    rw [ha g hg, x3 g hg, q8 g hg]
  · show _ = lb l3 u g
    rw [y3 u g hu hg]; exact q14 u hu hR g hg
end FIRST
