/-! The tableau: the reference's down(). -/
section DOWNS
variable {N n F : Nat} {z : Nat → Nat} {so on tw : Nat → Int32} {d : Nat → Nat} {S SC SR : mq_St} {st W w ec ln wt m f : Nat} {R : List Nat} {k0 : mq_St → Option (Int32 × mq_St)}
theorem rf_st (hn : nuR S F st W w ec ln wt) (hF : F ≤ 100000) (h1 : st < F) : zf_X11_step N z S = some (1, mq_si S 19 (nI (st + 1))) := by
  rw [rf_step hn.2.1 hn.1 (by omega) hF, if_pos h1]
theorem rf_ln {r f : Int32} (hn : nuR S F st W w ec ln wt) (h2 : ln < 1299) : zf_X11_line N z r f (mq_si S 19 (nI (st + 1))) = some (1, stR S st ln r f) := by
  rw [rf_line (S := mq_si S 19 (nI (st + 1))) (ln := ln) r f hn.2.2.2.2.2.1 (by omega), if_pos h2]
  rfl
theorem rf_pu {g : Nat} {k : mq_St → Option (Int32 × mq_St)} {y : Int32} (hy : y = nI g) (hg : g < 320) : ∃ a, mq_cl (zf_X11_put N (fun k => [10].getD k 0) 0 y (mq_pull S [] [17] [])) (fun _ q => mq_nS (mq_push S q [] [17] []) k) = k (mq_sa S 17 a) ∧ ∀ h, h < 320 → ib a 0 h = (ib (S.2.1 17) 0 h || decide (h = g)) := by
  subst hy
  obtain ⟨a, e1, e2, e3⟩ := rf_put (N := N) (S := S) hg
  exact ⟨a, (cl_go e1).trans ((nS_go e2).trans rfl), e3⟩
theorem dz_fail (h23 : S.1 23 = 0) (hF : F ≤ 100000) (hn : nuR S F st W w ec ln wt) (h1 : ¬ st < F) (h0 : st ≤ F) : zf_X11_step N z S = some (0, mq_si S 23 (-3)) := by
  rw [rf_step hn.2.1 hn.1 h0 hF, if_neg h1]
theorem ln_fail {r f : Int32} (hn : nuR S F st W w ec ln wt) (h2 : ¬ ln < 1299) (h3 : ln ≤ 1299) : zf_X11_line N z r f (mq_si S 19 (nI (st + 1))) = some (0, mq_si (mq_si S 19 (nI (st + 1))) 23 (-4)) := by
  rw [rf_line (S := mq_si S 19 (nI (st + 1))) (ln := ln) r f hn.2.2.2.2.2.1 h3, if_neg h2]
theorem nI_nm {f : Nat} (h : f < 300) : ¬ nI f = -1 := fun q => by
  have := sp_m1 (a := f) (by omega)
  exact absurd q (by simpa using this)
theorem dz_both (hx : cxR S n so on tw d) (hn : nuR S F st W w ec ln wt) (hF : F ≤ 100000) (hS : st ≤ F) (hL : ln ≤ 1299) (hf : f < n) (hs : so f = nI 4) (hcl : zf_X11_clash N z S = some (-1)) (hb : zf_X11_firstBoth N z S = some (nI f)) :
    (st < F → ln < 1299 → ∃ a, zf_X11_down_zb N z k0 S = k0 (mq_sa (stR S st ln (nI 1) (nI f)) 17 a) ∧ ∀ g, g < 320 → ib a 0 g = (ib (S.2.1 17) 0 g || pA on tw 4 f g)) ∧ (¬ st < F → zf_X11_down_zb N z k0 S = k0 (mq_si S 23 (-3))) ∧ (st < F → ¬ ln < 1299 → zf_X11_down_zb N z k0 S = k0 (mq_si (mq_si S 19 (nI (st + 1))) 23 (-4))) := by
  have hfw := hx.2.2.2
  have h300 := hfw.2.1
  obtain ⟨p1f, p2f, p3f, p4f⟩ := fw_1 hfw hf hs (by omega) (by omega)
  obtain ⟨p5f, p6f⟩ := p3f (by omega)
  have i1 : vp_in (nI f) 300 := vp_in_nI (by omega) (by omega)
  have c1 : (nI f).toNatClampNeg = f := nI_clamp (by omega)
  refine ⟨fun h1 h2 => ?_, fun h1 => ?_, fun h1 h2 => ?_⟩
  · obtain ⟨a, e1, e2⟩ := rf_pu (N := N) (S := stR S st ln (nI 1) (nI f)) (g := p1 on f) (y := S.2.1 3 f) (k := fun S56 => mq_ck (nI f) 300 (mq_cl (zf_X11_put N (fun k => [10].getD k 0) 0 (S56.2.1 4 f) (mq_pull S56 [] [17] [])) (fun _ q => mq_nS (mq_push S56 q [] [17] []) k0))) ((hx.2.1 f hf).2.1.trans p2f) (by omega)
    obtain ⟨b, e3, e4⟩ := rf_pu (N := N) (S := mq_sa (stR S st ln (nI 1) (nI f)) 17 a) (g := p1 tw f) (y := S.2.1 4 f) (k := k0) ((hx.2.1 f hf).2.2.trans p6f) (by omega)
    refine ⟨b, ?_, fun g hg => ?_⟩
    · unfold zf_X11_down_zb
      rw [if_pos hn.2.2.2.2.2.2.1]
      refine (cp_go hcl).trans ?_
      rw [nI_e, if_pos rfl]
      refine (cp_go hb).trans ?_
      rw [nI_e, if_neg (nI_nm (by omega))]
      refine (cl_go (rf_st hn hF h1)).trans ?_
      rw [if_neg (by decide)]
      refine (cl_go (rf_ln (r := 1) (f := nI f) hn h2)).trans ?_
      rw [if_neg (by decide), mq_ck_of i1, c1]
      refine e1.trans ?_
      rw [mq_ck_of i1]
      refine e3.trans ?_
      rw [sa_sa]
    · rw [e4 g hg]
      show (ib a 0 g || _) = _
      rw [e2 g hg]
      show (ib (S.2.1 17) 0 g || _ || _) = _
      unfold pA
      by_cases e' : g = p1 on f <;> by_cases e'' : g = p1 tw f <;> simp [e', e'']
  · unfold zf_X11_down_zb
    rw [if_pos hn.2.2.2.2.2.2.1]
    refine (cp_go hcl).trans ?_
    rw [nI_e, if_pos rfl]
    refine (cp_go hb).trans ?_
    rw [nI_e, if_neg (nI_nm (by omega))]
    refine (cl_go (dz_fail hn.2.2.2.2.2.2.1 hF hn h1 hS)).trans ?_
    rw [if_pos rfl]
  · unfold zf_X11_down_zb
    rw [if_pos hn.2.2.2.2.2.2.1]
    refine (cp_go hcl).trans ?_
    rw [nI_e, if_pos rfl]
    refine (cp_go hb).trans ?_
    rw [nI_e, if_neg (nI_nm (by omega))]
    refine (cl_go (rf_st hn hF h1)).trans ?_
    rw [if_neg (by decide)]
    refine (cl_go (ln_fail (r := 1) (f := nI f) hn h2 hL)).trans ?_
    rw [if_pos rfl]
theorem dz_self (hx : cxR S n so on tw d) (hn : nuR S F st W w ec ln wt) (hF : F ≤ 100000) (hS : st ≤ F) (hL : ln ≤ 1299) (hf : f < n) (hs : so f = nI 6) (hcl : zf_X11_clash N z S = some (-1)) (hb : zf_X11_firstBoth N z S = some (-1)) (hc : zf_X11_firstSelf N z S = some (nI f)) :
    (st < F → ln < 1299 → ∃ a, zf_X11_down_zb N z k0 S = k0 (mq_sa (stR S st ln (nI 2) (nI f)) 17 a) ∧ ∀ g, g < 320 → ib a 0 g = (ib (S.2.1 17) 0 g || pA on tw 6 f g)) ∧ (¬ st < F → zf_X11_down_zb N z k0 S = k0 (mq_si S 23 (-3))) ∧ (st < F → ¬ ln < 1299 → zf_X11_down_zb N z k0 S = k0 (mq_si (mq_si S 19 (nI (st + 1))) 23 (-4))) := by
  have hfw := hx.2.2.2
  have h300 := hfw.2.1
  obtain ⟨p1f, p2f, p3f, p4f⟩ := fw_1 hfw hf hs (by omega) (by omega)
  have i1 : vp_in (nI f) 300 := vp_in_nI (by omega) (by omega)
  have c1 : (nI f).toNatClampNeg = f := nI_clamp (by omega)
  refine ⟨fun h1 h2 => ?_, fun h1 => ?_, fun h1 h2 => ?_⟩
  · obtain ⟨a, e1, e2⟩ := rf_pu (N := N) (S := stR S st ln (nI 2) (nI f)) (g := p1 on f) (y := S.2.1 3 f) (k := k0) ((hx.2.1 f hf).2.1.trans p2f) (by omega)
    refine ⟨a, ?_, fun g hg => ?_⟩
    · unfold zf_X11_down_zb
      rw [if_pos hn.2.2.2.2.2.2.1]
      refine (cp_go hcl).trans ?_
      rw [nI_e, if_pos rfl]
      refine (cp_go hb).trans ?_
      rw [nI_e, if_pos rfl]
      refine (cp_go hc).trans ?_
      rw [nI_e, if_neg (nI_nm (by omega))]
      refine (cl_go (rf_st hn hF h1)).trans ?_
      rw [if_neg (by decide)]
      refine (cl_go (rf_ln (r := 2) (f := nI f) hn h2)).trans ?_
      rw [if_neg (by decide), mq_ck_of i1, c1]
      exact e1
    · rw [e2 g hg]
      show (ib (S.2.1 17) 0 g || _) = _
      unfold pA
      by_cases e' : g = p1 on f <;> simp [e']
  · unfold zf_X11_down_zb
    rw [if_pos hn.2.2.2.2.2.2.1]
    refine (cp_go hcl).trans ?_
    rw [nI_e, if_pos rfl]
    refine (cp_go hb).trans ?_
    rw [nI_e, if_pos rfl]
    refine (cp_go hc).trans ?_
    rw [nI_e, if_neg (nI_nm (by omega))]
    refine (cl_go (dz_fail hn.2.2.2.2.2.2.1 hF hn h1 hS)).trans ?_
    rw [if_pos rfl]
  · unfold zf_X11_down_zb
    rw [if_pos hn.2.2.2.2.2.2.1]
    refine (cp_go hcl).trans ?_
    rw [nI_e, if_pos rfl]
    refine (cp_go hb).trans ?_
    rw [nI_e, if_pos rfl]
    refine (cp_go hc).trans ?_
    rw [nI_e, if_neg (nI_nm (by omega))]
    refine (cl_go (rf_st hn hF h1)).trans ?_
    rw [if_neg (by decide)]
    refine (cl_go (ln_fail (r := 2) (f := nI f) hn h2 hL)).trans ?_
    rw [if_pos rfl]
/-- the reference behind an EITHER's first part -/
def eiR (S : mq_St) (st ec ln wt f : Nat) (q a : Nat → Int32) : mq_St := mq_sa (mq_si (mq_sa (mq_sa (mq_sa (mq_sa (mq_sa (mq_sa (mq_si (stR S st ln (nI 3) (nI f)) 28 (nI (ec + 1))) 25 (upd (S.2.1 25) wt 1)) 26 (upd (S.2.1 26) wt (nI f))) 27 (upd (S.2.1 27) wt (S.1 25))) 28 (upd (S.2.1 28) wt (S.1 24))) 29 (upd (S.2.1 29) wt (nI (ln + 1)))) 30 q) 27 (nI (wt + 1))) 17 a
theorem dz_either (hN : 20 ≤ N) (hx : cxR S n so on tw d) (hn : nuR S F st W w ec ln wt) (hF : F ≤ 100000) (hS : st ≤ F) (hL : ln ≤ 1299) (hE : ec ≤ 400) (hW : ec < 400 → wt < 470) (hf : f < n) (hs : so f = nI 5) (hcl : zf_X11_clash N z S = some (-1)) (hb : zf_X11_firstBoth N z S = some (-1)) (hc : zf_X11_firstSelf N z S = some (-1)) (hd : zf_X11_firstEither N z S = some (nI f)) :
    (st < F → ln < 1299 → ec < 400 → ∃ q a, zf_X11_down_zb N z k0 S = k0 (eiR S st ec ln wt f q a) ∧ (∀ e g, g < 320 → ib q e g = if e = wt then ib (S.2.1 17) 0 g else ib (S.2.1 30) e g) ∧ ∀ g, g < 320 → ib a 0 g = (ib (S.2.1 17) 0 g || decide (g = p1 on f))) ∧ (¬ st < F → zf_X11_down_zb N z k0 S = k0 (mq_si S 23 (-3))) ∧ (st < F → ¬ (ln < 1299 ∧ ec < 400) → ∃ S', zf_X11_down_zb N z k0 S = k0 (mq_si S' 23 (-4)) ∧ S'.1 19 = nI (st + 1) ∧ ag [19, 23, 26] [23, 24] [] S S') := by
  have hfw := hx.2.2.2
  have h300 := hfw.2.1
  obtain ⟨p1f, p2f, p3f, p4f⟩ := fw_1 hfw hf hs (by omega) (by omega)
  have i1 : vp_in (nI f) 300 := vp_in_nI (by omega) (by omega)
  have c1 : (nI f).toNatClampNeg = f := nI_clamp (by omega)
  have e28 : (nI ec = (400 : Int32)) ↔ ec = 400 := nI_eq (b := 400) (by omega) (by omega)
  have pre : zf_X11_down_zb N z k0 S = mq_cl (zf_X11_step N z S) (fun q14v S16 => (if q14v = (0 : Int32) then (zf_X11_down_236 N z k0 S16) else (mq_cl (zf_X11_line N z ((3 : Int32)) (nI f) S16) (fun q17v S19 => (if q17v = (0 : Int32) then (zf_X11_down_236 N z k0 S19) else (if (S19.1 28) = (400 : Int32) then (mq_nS (mq_si S19 23 ((-4 : Int32))) (fun S28 => (zf_X11_down_236 N z k0 S28))) else (mq_nS (mq_si S19 28 (((S19.1 28) + (1 : Int32)))) (fun S20 => (mq_cl (zf_X11_waits N z ((1 : Int32)) (nI f) S20) (fun q21v S23 => (mq_ck (nI f) 300 (mq_cl (zf_X11_put N (fun k => [10].getD k 0) ((0 : Int32)) ((S23.2.1 3 (nI f).toNatClampNeg)) (mq_pull S23 [] [17] [])) (fun q25v q25s => mq_nS (mq_push S23 q25s [] [17] []) (fun S27 => (zf_X11_down_236 N z k0 S27))))))))))))))) := by
    unfold zf_X11_down_zb
    rw [if_pos hn.2.2.2.2.2.2.1]
    refine (cp_go hcl).trans ?_
    rw [nI_e, if_pos rfl]
    refine (cp_go hb).trans ?_
    rw [nI_e, if_pos rfl]
    refine (cp_go hc).trans ?_
    rw [nI_e, if_pos rfl]
    refine (cp_go hd).trans ?_
    rw [nI_e, if_neg (nI_nm (by omega))]
  refine ⟨fun h1 h2 h3 => ?_, fun h1 => ?_, fun h1 h2 => ?_⟩
  · have h27 : (mq_si (stR S st ln (nI 3) (nI f)) 28 (nI (ec + 1))).1 27 = nI wt := hn.2.2.2.2.2.2.2
    obtain ⟨q, e1, e2⟩ := rf_waits (N := N) (z := z) (S := mq_si (stR S st ln (nI 3) (nI f)) 28 (nI (ec + 1))) (wt := wt) hN 1 (nI f) h27 (hW h3) (Or.inr rfl)
    obtain ⟨a, e3, e4⟩ := rf_pu (N := N) (S := mq_si (mq_sa (mq_sa (mq_sa (mq_sa (mq_sa (mq_sa (mq_si (stR S st ln (nI 3) (nI f)) 28 (nI (ec + 1))) 25 (upd (S.2.1 25) wt 1)) 26 (upd (S.2.1 26) wt (nI f))) 27 (upd (S.2.1 27) wt (S.1 25))) 28 (upd (S.2.1 28) wt (S.1 24))) 29 (upd (S.2.1 29) wt (nI (ln + 1)))) 30 q) 27 (nI (wt + 1))) (g := p1 on f) (y := S.2.1 3 f) (k := k0) ((hx.2.1 f hf).2.1.trans p2f) (by omega)
    refine ⟨q, a, ?_, e2, e4⟩
    rw [pre]
    refine (cl_go (rf_st hn hF h1)).trans ?_
    rw [if_neg (by decide)]
    refine (cl_go (rf_ln (r := 3) (f := nI f) hn h2)).trans ?_
    rw [if_neg (by decide), show (stR S st ln 3 (nI f)).1 28 = nI ec from hn.2.2.2.2.1, if_neg (fun q => by have := e28.mp q; omega), nS_e, nI_1]
    refine (cl_go e1).trans ?_
    rw [mq_ck_of i1, c1]
    exact e3
  · rw [pre]
    refine (cl_go (dz_fail hn.2.2.2.2.2.2.1 hF hn h1 hS)).trans ?_
    rw [if_pos rfl]
    rfl
  · rw [pre]
    by_cases h3 : ln < 1299
    · refine ⟨stR S st ln (nI 3) (nI f), ?_, rfl, ⟨fun j hj => ?_, fun j hj => ?_, fun j _ => rfl⟩⟩
      · refine (cl_go (rf_st hn hF h1)).trans ?_
        rw [if_neg (by decide)]
        refine (cl_go (rf_ln (r := 3) (f := nI f) hn h3)).trans ?_
        rw [if_neg (by decide), show (stR S st ln 3 (nI f)).1 28 = nI ec from hn.2.2.2.2.1, if_pos (e28.mpr (by omega)), nS_e]
        rfl
      · simp only [List.mem_cons, List.not_mem_nil, or_false, not_or] at hj
        show (if j = 26 then _ else (if j = 19 then _ else _)) = _
        rw [if_neg hj.2.2, if_neg hj.1]
      · simp only [List.mem_cons, List.not_mem_nil, or_false, not_or] at hj
        show (if j = 24 then _ else (if j = 23 then _ else _)) = _
        rw [if_neg hj.2, if_neg hj.1]
        rfl
    · refine ⟨mq_si S 19 (nI (st + 1)), ?_, rfl, ag_si (by decide)⟩
      refine (cl_go (rf_st hn hF h1)).trans ?_
      rw [if_neg (by decide)]
      refine (cl_go (ln_fail (r := 3) (f := nI f) hn h3 hL)).trans ?_
      rw [if_pos rfl]
      rfl
end DOWNS
