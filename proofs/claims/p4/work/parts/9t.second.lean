/-! The tableau: the second part of an EITHER. -/
section SECOND
variable {N n F : Nat} {z : Nat → Nat} {so on tw : Nat → Int32} {d : Nat → Nat} {S SC SR : mq_St} {st W w ec ln wt m f : Nat} {R : List Nat}
theorem ag_ii {S' : mq_St} {a b : Int32} (h : ag [15, 16] [] [] S S') (h15 : S'.1 15 = a) (h16 : S'.1 16 = b) : S' = mq_si (mq_si S 15 a) 16 b := by
  refine Prod.ext ?_ (Prod.ext ?_ ?_)
  · funext q
    show _ = if q = 16 then _ else (if q = 15 then _ else _)
    by_cases e : q = 16
    · rw [if_pos e, e]; exact h16
    · rw [if_neg e]
      by_cases e' : q = 15
      · rw [if_pos e', e']; exact h15
      · rw [if_neg e']; exact h.1 q (by simp [e, e'])
  · funext q; exact h.2.1 q (by simp)
  · funext q; exact h.2.2 q (by simp)
theorem ag_iii {S' : mq_St} {a b c : Int32} (h : ag [24, 25, 27] [] [] S S') (h24 : S'.1 24 = a) (h25 : S'.1 25 = b) (h27 : S'.1 27 = c) : S' = mq_si (mq_si (mq_si S 24 a) 25 b) 27 c := by
  refine Prod.ext ?_ (Prod.ext ?_ ?_)
  · funext q
    show _ = if q = 27 then _ else (if q = 25 then _ else (if q = 24 then _ else _))
    by_cases e : q = 27
    · rw [if_pos e, e]; exact h27
    · rw [if_neg e]
      by_cases e' : q = 25
      · rw [if_pos e', e']; exact h25
      · rw [if_neg e']
        by_cases e'' : q = 24
        · rw [if_pos e'', e'']; exact h24
        · rw [if_neg e'']; exact h.1 q (by simp [e, e', e''])
  · funext q; exact h.2.1 q (by simp)
  · funext q; exact h.2.2 q (by simp)
def seC (S : mq_St) (st e0 w : Nat) : mq_St := mq_sl (mq_si (mq_sa S 21 (upd (S.2.1 21) 0 (nI (st + 1)))) 14 (nI e0)) 1 (vp_updL (S.2.2 1) w 0)
theorem ck_second {e0 : Nat} (hN : 10 ≤ N) (hc : cxC S n so on tw d) (hw : w < 60) (h18 : S.1 18 = nI F) (h21 : S.2.1 21 0 = nI st) (h16 : S.1 16 = nI w) (h14 : S.1 14 = nI (e0 + 1)) (hF : F ≤ 100000) (hS : st ≤ F) (hE : e0 < 400) (hf : f < n) (hs : so f = nI 5) (h20 : S.2.1 20 e0 = nI f) (hcl : ∀ c, c < n → ¬ cls so d (lb (S.2.2 5) e0) c) :
    (st < F → ∃ c l3 l4, zf_X8_trySecond N z S = some ((), mq_sl (mq_sl (mq_si (seC S st e0 w) 17 c) 3 l3) 4 l4) ∧ (∀ v g, g < 320 → lb l3 v g = if v = w then (lb (S.2.2 5) e0 g || decide (g = p1 tw f)) else lb (S.2.2 3) v g) ∧ (∀ v g, g < 320 → lb l4 v g = if v = w then (lb (S.2.2 5) e0 g || decide (g = p1 tw f)) else lb (S.2.2 4) v g) ∧ clV n so d (lb l3 w) c) ∧
    (¬ st < F → zf_X8_trySecond N z S = some ((), mq_si S 19 (-3))) := by
  have hfw := hc.2.2.2
  obtain ⟨p1f, p2f, p3f, p4f⟩ := fw_1 hfw hf hs (by omega) (by omega)
  obtain ⟨p5f, p6f⟩ := p3f (by omega)
  have h300 := hfw.2.1
  have i1 : vp_in (nI w) 60 := vp_in_nI hw (by omega)
  have c1 : (nI w).toNatClampNeg = w := nI_clamp (by omega)
  have i2 : vp_in (nI e0) 400 := vp_in_nI hE (by omega)
  have c2 : (nI e0).toNatClampNeg = e0 := nI_clamp (by omega)
  have e14 : ¬ nI (e0 + 1) ≤ (0 : Int32) := nI_ge (show 0 < e0 + 1 by omega) (by omega)
  have e15 : nI (e0 + 1) - 1 = nI e0 := by rw [show (1 : Int32) = nI 1 from rfl, pk_sub (by omega)]; rfl
  refine ⟨fun h1 => ?_, fun h1 => ?_⟩
  · obtain ⟨q3, a1, a2, a3⟩ := ck_cp (N := N) (S := mq_si (mq_sa S 21 (upd (S.2.1 21) 0 (nI (st + 1)))) 14 (nI e0)) (a := 3) (b := 5) (ra := w) (rb := e0) (RA := 60) (RB := 666) (y := fun k => [300, 3330].getD k 0) hN (by decide) rfl rfl (by omega) (by omega) hw (by omega)
    obtain ⟨q4, b1, b2, b3⟩ := ck_cp (N := N) (S := mq_sl (mq_si (mq_sa S 21 (upd (S.2.1 21) 0 (nI (st + 1)))) 14 (nI e0)) 3 q3) (a := 4) (b := 5) (ra := w) (rb := e0) (RA := 60) (RB := 666) (y := fun k => [300, 3330].getD k 0) hN (by decide) rfl rfl (by omega) (by omega) hw (by omega)
    have hcT : cxC (mq_si (mq_sl (mq_sl (mq_sl (mq_si (mq_sa S 21 (upd (S.2.1 21) 0 (nI (st + 1)))) 14 (nI e0)) 3 q3) 4 q4) 1 (vp_updL (S.2.2 1) w 0)) 17 (-1)) n so on tw d := cxC_c hc rfl rfl rfl rfl rfl rfl
    have qe : ∀ g, g < 320 → lb q3 w g = lb (S.2.2 5) e0 g := fun g hg => by rw [a3 w g hg, if_pos rfl]; rfl
    obtain ⟨S1, l3, l4, d1, d2, d3, d4, d5, d6, d7⟩ := ck_add (N := N) (z := z) (f := p1 tw f) hcT hw h16 (by omega) (Or.inl ⟨rfl, fun c hc q => hcl c hc ((cls_x hfw qe hc).mp q)⟩)
    have e4 : zf_X7_secondOf N z (nI f) (mq_si (mq_sl (mq_sl (mq_sl (mq_si (mq_sa S 21 (upd (S.2.1 21) 0 (nI (st + 1)))) 14 (nI e0)) 3 q3) 4 q4) 1 (vp_updL (S.2.2 1) w 0)) 17 (-1)) = some (nI (p1 tw f)) := by rw [(ck_in hcT.1 h300 hf).2.2.1, (hcT.2.1 f hf).2.2.1, ← p6f]
    have agT : ag [17] [] [3, 4] (seC S st e0 w) (mq_si (mq_sl (mq_sl (mq_sl (mq_si (mq_sa S 21 (upd (S.2.1 21) 0 (nI (st + 1)))) 14 (nI e0)) 3 q3) 4 q4) 1 (vp_updL (S.2.2 1) w 0)) 17 (-1)) := by
      refine ⟨fun j hj => ?_, fun j _ => rfl, fun j hj => ?_⟩
      · simp only [List.mem_cons, List.not_mem_nil, or_false] at hj
        show (if j = 17 then _ else _) = _
        rw [if_neg hj]; rfl
      · simp only [List.mem_cons, List.not_mem_nil, or_false, not_or] at hj
        show (if j = 1 then _ else (if j = 4 then _ else (if j = 3 then _ else _))) = (if j = 1 then _ else _)
        rw [if_neg hj.1, if_neg hj.2]
    refine ⟨S1.1 17, l3, l4, ?_, fun v g hg => ?_, fun v g hg => ?_, d6⟩
    · have := ag_3 (ag_tr agT d7)
      rw [d2, d3] at this
      rw [← this]
      unfold zf_X8_trySecond
      rw [h14, if_neg e14]
      refine (cl_go (x := zf_X8_step N z S) (v := 1) (s := mq_sa S 21 (upd (S.2.1 21) 0 (nI (st + 1)))) (by rw [ck_step h21 h18 hS hF, if_pos h1])).trans ?_
      have y1 : (mq_sa S 21 (upd (S.2.1 21) 0 (nI (st + 1)))).1 14 = nI (e0 + 1) := h14
      rw [if_neg (by decide), y1, e15, nS_e]
      have y2 : (mq_si (mq_sa S 21 (upd (S.2.1 21) 0 (nI (st + 1)))) 14 (nI e0)).1 16 = nI w := h16
      have y3 : (mq_si (mq_sa S 21 (upd (S.2.1 21) 0 (nI (st + 1)))) 14 (nI e0)).1 14 = nI e0 := rfl
      rw [y2, y3]
      refine (cl_go a1).trans ?_
      rw [a2, nS_e]
      have y4 : (mq_sl (mq_si (mq_sa S 21 (upd (S.2.1 21) 0 (nI (st + 1)))) 14 (nI e0)) 3 q3).1 16 = nI w := h16
      have y5 : (mq_sl (mq_si (mq_sa S 21 (upd (S.2.1 21) 0 (nI (st + 1)))) 14 (nI e0)) 3 q3).1 14 = nI e0 := rfl
      rw [y4, y5]
      refine (cl_go b1).trans ?_
      rw [b2, nS_e]
      have y6 : (mq_sl (mq_sl (mq_si (mq_sa S 21 (upd (S.2.1 21) 0 (nI (st + 1)))) 14 (nI e0)) 3 q3) 4 q4).1 16 = nI w := h16
      rw [y6, mq_ck_of i1, c1, nS_e, nS_e]
      have y7 : (mq_si (mq_sl (mq_sl (mq_sl (mq_si (mq_sa S 21 (upd (S.2.1 21) 0 (nI (st + 1)))) 14 (nI e0)) 3 q3) 4 q4) 1 (vp_updL ((mq_sl (mq_sl (mq_si (mq_sa S 21 (upd (S.2.1 21) 0 (nI (st + 1)))) 14 (nI e0)) 3 q3) 4 q4).2.2 1) w 0)) 17 (-1)).1 14 = nI e0 := rfl
      rw [y7, mq_ck_of i2, c2]
      have y8 : (mq_si (mq_sl (mq_sl (mq_sl (mq_si (mq_sa S 21 (upd (S.2.1 21) 0 (nI (st + 1)))) 14 (nI e0)) 3 q3) 4 q4) 1 (vp_updL ((mq_sl (mq_sl (mq_si (mq_sa S 21 (upd (S.2.1 21) 0 (nI (st + 1)))) 14 (nI e0)) 3 q3) 4 q4).2.2 1) w 0)) 17 (-1)).2.1 20 e0 = nI f := h20
      rw [y8]
      exact (cp_go e4).trans (cl_go d1)
    · rw [d4 v g hg]
      show (lb q3 v g || _) = _
      rw [a3 v g hg]
      by_cases e : v = w
      · rw [if_pos e, if_pos e]
        show (lb (S.2.2 5) e0 g || _) = _
        simp [e]
      · rw [if_neg e, if_neg e]
        show (lb (S.2.2 3) v g || _) = _
        simp [e]
    · rw [d5 v g hg]
      show (lb q4 v g || _) = _
      rw [b3 v g hg]
      by_cases e : v = w
      · rw [if_pos e, if_pos e]
        show (lb (S.2.2 5) e0 g || _) = _
        simp [e]
      · rw [if_neg e, if_neg e]
        show (lb (S.2.2 4) v g || _) = _
        simp [e]
  · unfold zf_X8_trySecond
    rw [h14, if_neg e14]
    refine (cl_go (x := zf_X8_step N z S) (v := 0) (s := mq_si S 19 (-3)) (by rw [ck_step h21 h18 hS hF, if_neg h1])).trans ?_
    rw [if_pos rfl]
theorem rf_second {e0 wt0 : Nat} (hN : 20 ≤ N) (hx : cxR S n so on tw d) (h18 : S.1 18 = nI F) (h19 : S.1 19 = nI st) (h27 : S.1 27 = nI wt0) (h28 : S.1 28 = nI (e0 + 1)) (hF : F ≤ 100000) (hS : st ≤ F) (hW : wt0 < 470) (hf : f < n) (hs : so f = nI 5) (h26 : S.2.1 26 wt0 = nI f) :
    (st < F → ∃ a, clT N z S = some (1, mq_sa (mq_si (mq_si S 28 (nI e0)) 19 (nI (st + 1))) 17 a) ∧ ∀ g, g < 320 → ib a 0 g = (ib (S.2.1 30) wt0 g || decide (g = p1 tw f))) ∧
    (¬ st < F → ∃ a, clT N z S = some (0, mq_si (mq_sa (mq_si S 28 (nI e0)) 17 a) 23 (-3))) := by
  have hfw := hx.2.2.2
  obtain ⟨p1f, p2f, p3f, p4f⟩ := fw_1 hfw hf hs (by omega) (by omega)
  obtain ⟨p5f, p6f⟩ := p3f (by omega)
  have h300 := hfw.2.1
  have i1 : vp_in (nI wt0) 470 := vp_in_nI hW (by omega)
  have c1 : (nI wt0).toNatClampNeg = wt0 := nI_clamp (by omega)
  have i2 : vp_in (nI f) 300 := vp_in_nI (by omega) (by omega)
  have c2 : (nI f).toNatClampNeg = f := nI_clamp (by omega)
  have e15 : nI (e0 + 1) - 1 = nI e0 := by rw [show (1 : Int32) = nI 1 from rfl, pk_sub (by omega)]; rfl
  have e10 : (10 : Int32) * nI wt0 = nI (10 * wt0) := pk_mul 10 wt0
  obtain ⟨q, a1, a2, a3⟩ := rf_cp (N := N) (S := mq_si S 28 (nI e0)) (a := 30) (b := 17) (ra := wt0) (rb := 0) (R := 470) (R' := 1) (y := fun k => [4700, 10].getD k 0) hN (by decide) rfl rfl (by omega) (by omega) hW (by omega)
  have pre : clT N z S = mq_cl (zf_X11_step N z (mq_sa (mq_si S 28 (nI e0)) 17 q)) (fun q12v S14 => (if q12v = (0 : Int32) then (mq_cz ((0 : Int32)) (some ((0 : Int32), S14))) else (mq_ck ((S14.1 27)) 470 (mq_ck ((S14.2.1 26 ((S14.1 27)).toNatClampNeg)) 300 (mq_cl (zf_X11_put N (fun k => [10].getD k 0) ((0 : Int32)) ((S14.2.1 4 ((S14.2.1 26 ((S14.1 27)).toNatClampNeg)).toNatClampNeg)) (mq_pull S14 [] [17] [])) (fun q17v q17s => mq_nS (mq_push S14 q17s [] [17] []) (fun S19 => (mq_cz ((1 : Int32)) (some ((1 : Int32), S19)))))))))) := by
    unfold clT
    rw [h28, e15, nS_e]
    have y1 : (mq_si S 28 (nI e0)).1 27 = nI wt0 := h27
    rw [y1, e10]
    refine (cl_go a1).trans ?_
    rw [a2, nS_e]
  refine ⟨fun h1 => ?_, fun h1 => ⟨q, ?_⟩⟩
  · obtain ⟨a, b1, b2⟩ := rf_pu (N := N) (S := mq_si (mq_sa (mq_si S 28 (nI e0)) 17 q) 19 (nI (st + 1))) (g := p1 tw f) (y := S.2.1 4 f) (k := fun S19 => mq_cz 1 (some (1, S19))) ((hx.2.1 f hf).2.2.trans p6f) (by omega)
    refine ⟨a, ?_, fun g hg => ?_⟩
    · rw [pre]
      refine (cl_go (x := zf_X11_step N z (mq_sa (mq_si S 28 (nI e0)) 17 q)) (v := 1) (s := mq_si (mq_sa (mq_si S 28 (nI e0)) 17 q) 19 (nI (st + 1))) (by rw [rf_step (S := mq_sa (mq_si S 28 (nI e0)) 17 q) (st := st) (F := F) h19 h18 hS hF, if_pos h1])).trans ?_
      have y2 : (mq_si (mq_sa (mq_si S 28 (nI e0)) 17 q) 19 (nI (st + 1))).1 27 = nI wt0 := h27
      have y3 : (mq_si (mq_sa (mq_si S 28 (nI e0)) 17 q) 19 (nI (st + 1))).2.1 26 wt0 = nI f := h26
      rw [if_neg (by decide), y2, mq_ck_of i1, c1, y3, mq_ck_of i2, c2]
      refine b1.trans ?_
      rw [mq_cz_1]
      exact congrArg (fun q => some ((1 : Int32), q)) (sa_sa (mq_si (mq_si S 28 (nI e0)) 19 (nI (st + 1))) 17 q a)
    · rw [b2 g hg]
      show (ib q 0 g || _) = _
      rw [a3 0 g hg, if_pos rfl]
      rfl
  · rw [pre]
    refine (cl_go (x := zf_X11_step N z (mq_sa (mq_si S 28 (nI e0)) 17 q)) (v := 0) (s := mq_si (mq_sa (mq_si S 28 (nI e0)) 17 q) 23 (-3)) (by rw [rf_step (S := mq_sa (mq_si S 28 (nI e0)) 17 q) (st := st) (F := F) h19 h18 hS hF, if_neg h1])).trans ?_
    rw [if_pos rfl, mq_cz_0]
def ntC (S : mq_St) (ln c : Nat) : mq_St := mq_si (mq_sa S 22 (upd (S.2.1 22) ln ((nI 0 <<< ((16 : Int32) &&& 31)) ||| nI c))) 20 (nI (ln + 1))
def ntR (S : mq_St) (ln c : Nat) : mq_St := mq_si (mq_sa (mq_sa S 23 (upd (S.2.1 23) ln (nI 0))) 24 (upd (S.2.1 24) ln (nI c))) 26 (nI (ln + 1))
def bkC (S : mq_St) (ln c w : Nat) : mq_St := mq_si (mq_si (ntC S ln c) 15 (nI (w + 1))) 16 (nI w)
def bkR (S : mq_St) (ln c w wt : Nat) : mq_St := mq_si (mq_si (mq_si (ntR S ln c) 24 (nI (w + 1))) 25 (nI w)) 27 (nI wt)
theorem Dn_se {c w' e0 wt0 ln' : Nat} {R' : List Nat} {v : Int32} {l3 l4 : Nat → Int64} {a : Nat → Int32} (hfw : fw n so on tw d) (h : Dn n so on tw d F SC SR st w ec ln wt R) (h1 : st < F) (h2 : ln < 1299) (hc : c < n) (hec : ec = e0 + 1) (hw' : w' ≤ w) (hR : ∀ v, v < w' → v ∈ R → v ∈ R') (hln : ln' ≤ ln) (hei : eit n so d SC SR w' e0 wt0) (hst : stk n so on tw d SC SR (w' :: R') e0 wt0 ln') (hf : f < n) (hs : so f = nI 5)
    (b3 : ∀ v g, g < 320 → lb l3 v g = if v = w' then (lb (SC.2.2 5) e0 g || decide (g = p1 tw f)) else lb (SC.2.2 3) v g) (b4 : ∀ v g, g < 320 → lb l4 v g = if v = w' then (lb (SC.2.2 5) e0 g || decide (g = p1 tw f)) else lb (SC.2.2 4) v g) (hcl : clV n so d (lb l3 w') v) (ha : ∀ g, g < 320 → ib a 0 g = (ib (SR.2.1 30) wt0 g || decide (g = p1 tw f))) :
    Dn n so on tw d F (mq_sl (mq_sl (mq_si (seC (bkC SC ln c w') st e0 w') 17 v) 3 l3) 4 l4) (mq_sa (mq_si (mq_si (bkR SR ln c w' wt0) 28 (nI e0)) 19 (nI (st + 1))) 17 a) (st + 1) w' e0 (ln + 1) wt0 R' := by
  obtain ⟨p1f, p2f, p3f, p4f⟩ := fw_1 hfw hf hs (by omega) (by omega)
  obtain ⟨p5f, p6f⟩ := p3f (by omega)
  have h300 := hfw.2.1
  obtain ⟨⟨o1, o2, o3, o4, o5, o6⟩, ⟨n1, n2, n3, n4, n5, n6, n7⟩, ⟨m1, m2, m3, m4, m5, m6, m7, m8⟩, ⟨k1, k2, k3⟩, q5, q6, q7, q8, q9, q10, q11, q12, q13, q14⟩ := h
  obtain ⟨-, -, -, -, i5, i6, i7⟩ := hei
  have x3 : ∀ g, g < 320 → lb l3 w' g = (lb (SC.2.2 5) e0 g || decide (g = p1 tw f)) := fun g hg => by rw [b3 w' g hg, if_pos rfl]
  have x4 : ∀ g, g < 320 → lb l4 w' g = (lb (SC.2.2 5) e0 g || decide (g = p1 tw f)) := fun g hg => by rw [b4 w' g hg, if_pos rfl]
  have y3 : ∀ p g, p < w' → g < 320 → lb l3 p g = lb (SC.2.2 3) p g := fun p g hp hg => by rw [b3 p g hg, if_neg (by omega)]
  have y4 : ∀ p g, p < w' → g < 320 → lb l4 p g = lb (SC.2.2 4) p g := fun p g hp hg => by rw [b4 p g hg, if_neg (by omega)]
  obtain ⟨z1, z2⟩ := row_add (A := fun g => decide (g = p1 tw f)) hfw x3 x4 (fun g _ q => by have := of_decide_eq_true q; omega) i6 ⟨fun _ _ q => q, fun _ _ _ _ _ q => q.2.1⟩
  refine ⟨⟨by omega, o2, by omega, by omega, by omega, by omega⟩, ⟨n1, rfl, rfl, rfl, rfl, rfl, n7⟩, ⟨m1, rfl, rfl, rfl, rfl, rfl, m7, rfl⟩, ⟨k1, k2, k3⟩, lins_put (SC := SC) (SR := SR) q5 (by omega) (by omega) rfl rfl rfl, fun v hv => q6 v (by omega), stk_c (SC := SC) (SR := SR) hfw R' w' e0 wt0 ln' (ln + 1) (by omega) ⟨fun p _ => ⟨rfl, rfl⟩, fun p hp => ⟨rfl, fun g hg => ⟨y3 p g hp hg, y4 p g hp hg⟩⟩, fun j hj => ⟨rfl, fun g hg => rfl⟩⟩ (fun e he => ⟨rfl, rfl, rfl, rfl, rfl, fun g hg => rfl⟩) hst, fun g hg => ?_, z1, hcl, z2, ?_, fun u hu => ?_, fun u hu hR' g hg => ?_⟩
  · show ib a 0 g = lb l3 w' g
    rw [ha g hg, x3 g hg, i5 g hg]
  · show vp_updL (SC.2.2 1) w' 0 w' = 0
    unfold vp_updL
    rw [if_pos rfl]
  · intro x hx
    show _ = if (vp_updL (SC.2.2 1) w' 0 u).toBitVec.getLsbD x = true then 1 else 0
    have : vp_updL (SC.2.2 1) w' 0 u = SC.2.2 1 u := by unfold vp_updL; rw [if_neg (by omega)]
    rw [this]
    exact q13 u (by omega) x hx
  · show _ = lb l3 u g
    rw [y3 u g hu hg]; exact q14 u (by omega) (fun q => hR' (hR u hu q)) g hg
end SECOND
