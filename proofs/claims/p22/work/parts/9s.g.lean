/-! 9s.back -/
section
/-! The tableau: a turn that closes a SET and goes back. -/
/-- the rest of closed() at an EITHER that waits -/
def clT (N : Nat) (z : Nat → Nat) (S6 : mq_St) : Option (Int32 × mq_St) := (mq_nS (mq_si S6 28 (((S6.1 28) - (1 : Int32)))) (fun S8 => (mq_cl (zf_X11_copy N (fun k => [4700, 10].getD k 0) (((10 : Int32) * (S8.1 27))) ((0 : Int32)) (mq_pull S8 [] [30, 17] [])) (fun q9v q9s => mq_nS (mq_push S8 q9s [] [30, 17] []) (fun S11 => (mq_cl (zf_X11_step N z S11) (fun q12v S14 => (if q12v = (0 : Int32) then (mq_cz ((0 : Int32)) (some ((0 : Int32), S14))) else (mq_ck ((S14.1 27)) 470 (mq_ck ((S14.2.1 26 ((S14.1 27)).toNatClampNeg)) 300 (mq_cl (zf_X11_put N (fun k => [10].getD k 0) ((0 : Int32)) ((S14.2.1 4 ((S14.2.1 26 ((S14.1 27)).toNatClampNeg)).toNatClampNeg)) (mq_pull S14 [] [17] [])) (fun q17v q17s => mq_nS (mq_push S14 q17s [] [17] []) (fun S19 => (mq_cz ((1 : Int32)) (some ((1 : Int32), S19))))))))))))))))
section BACK
variable {N n F : Nat} {z : Nat → Nat} {so on tw : Nat → Int32} {d : Nat → Nat} {S SC SR : mq_St} {st W w ec ln wt m f : Nat} {R : List Nat}
theorem cz_top {k0 : mq_St → Option (Int32 × mq_St)} {b : Nat} (h : S.1 27 = nI (b + 1)) (hb : b < 470) : zf_X11_closed_zb N z k0 S = if S.2.1 25 b = 0 then k0 (mq_si (mq_si (mq_si S 27 (nI b)) 24 (S.2.1 28 b)) 25 (S.2.1 27 b)) else clT N z (mq_si (mq_si (mq_si S 27 (nI b)) 24 (S.2.1 28 b)) 25 (S.2.1 27 b)) := by
  have i1 : vp_in (nI b) 470 := vp_in_nI hb (by omega)
  have c1 : (nI b).toNatClampNeg = b := nI_clamp (by omega)
  have e1 : nI (b + 1) - 1 = nI b := by rw [show (1 : Int32) = nI 1 from rfl, pk_sub (by omega)]; rfl
  unfold zf_X11_closed_zb
  rw [h, if_neg (show ¬ nI (b + 1) ≤ (0 : Int32) from nI_ge (show 0 < b + 1 by omega) (by omega)), e1, nS_e]
  have x1 : (mq_si S 27 (nI b)).1 27 = nI b := rfl
  rw [x1, mq_ck_of i1, c1, nS_e]
  have x2 : (mq_si (mq_si S 27 (nI b)) 24 ((mq_si S 27 (nI b)).2.1 28 b)).1 27 = nI b := rfl
  rw [x2, mq_ck_of i1, c1, nS_e]
  have x3 : (mq_si (mq_si (mq_si S 27 (nI b)) 24 ((mq_si S 27 (nI b)).2.1 28 b)) 25 ((mq_si (mq_si S 27 (nI b)) 24 ((mq_si S 27 (nI b)).2.1 28 b)).2.1 27 b)).1 27 = nI b := rfl
  rw [x3, mq_ck_of i1, c1]
  rfl
theorem stk_n {SC' SR' : mq_St} {P : List Nat} (hA : SC'.2 = SC.2) (hB : SR'.2 = SR.2) (h : fw n so on tw d) (q : stk n so on tw d SC SR P ec wt ln) : stk n so on tw d SC' SR' P ec wt ln := by
  cases P with
  | nil => exact q
  | cons v R => exact stk_c (SC := SC) (SR := SR) (SC' := SC') (SR' := SR') h R v ec wt ln ln (Nat.le_refl _) (by rw [kpC, hA]; exact ⟨fun _ _ => ⟨rfl, rfl⟩, fun _ _ => ⟨rfl, fun _ _ => ⟨rfl, rfl⟩⟩, fun _ _ => ⟨rfl, fun _ _ => rfl⟩⟩) (by rw [kpR, hB]; exact fun _ _ => ⟨rfl, rfl, rfl, rfl, rfl, fun _ _ => rfl⟩) q
theorem gb_63 (h : S.1 16 = nI w) : zf_X8_goBack_63 N z S = some (1, mq_si S 15 (nI (w + 1))) := by
  unfold zf_X8_goBack_63
  rw [h, nI_1, nS_e, mq_cz_1]
/-- both ways back -/
theorem bk (hfw : fw n so on tw d) : ∀ (R : List Nat) (w wt ln t fu fu' : Nat) (SC SR : mq_St), stk n so on tw d SC SR (w :: R) ec wt ln → SC.1 16 = nI w → SC.1 14 = nI ec → SR.1 27 = nI wt → w < 60 → ec ≤ 400 → t + R.length < 60 → R.length + 1 < fu → R.length + 1 < fu' →
    (∃ SC' SR', zf_X8_goBack_2 N z fu (nI t) SC = some (0, SC') ∧ zf_X11_closed_z N z fu' SR = some (0, SR') ∧ SC'.1 19 = 1 ∧ ag [16, 19] [] [] SC SC' ∧ ag [24, 25, 27] [] [] SR SR') ∨
    ∃ w' R' e0 wt0 ln' SC' SR', ec = e0 + 1 ∧ w' ≤ w ∧ (∀ v, v < w' → v ∈ R → v ∈ R') ∧ R'.length ≤ R.length ∧ ln' ≤ ln ∧ wt0 < 470 ∧ eit n so d SC SR w' e0 wt0 ∧ stk n so on tw d SC SR (w' :: R') e0 wt0 ln' ∧ zf_X8_goBack_2 N z fu (nI t) SC = some (1, SC') ∧ SC'.1 16 = nI w' ∧ SC'.1 15 = nI (w' + 1) ∧ ag [15, 16] [] [] SC SC' ∧ zf_X11_closed_z N z fu' SR = clT N z SR' ∧ SR'.1 27 = nI wt0 ∧ SR'.1 24 = nI (w' + 1) ∧ SR'.1 25 = nI w' ∧ ag [24, 25, 27] [] [] SR SR'
  | R, w, wt, ln, t, fu, fu', SC, SR, hs, h16, h14, h27, hw, hec, ht, hfu, hfu' => by
    have hlen := stk_len R w ec wt ln hs
    obtain ⟨ea, k, b, a1, a2, a3, a4, a5⟩ := id hs
    obtain ⟨fu, rfl⟩ : ∃ q, fu = q + 1 := ⟨fu - 1, by omega⟩
    obtain ⟨fu', rfl⟩ : ∃ q, fu' = q + 1 := ⟨fu' - 1, by omega⟩
    have i1 : vp_in (nI w) 60 := vp_in_nI hw (by omega)
    have c1 : (nI w).toNatClampNeg = w := nI_clamp (by omega)
    have s1 : zf_X8_goBack_2 N z (fu + 1) (nI t) SC = zf_X8_goBack_2b N z (fun v1 S => zf_X8_goBack_2 N z fu v1 S) (nI t) SC := rfl
    have s2 : zf_X11_closed_z N z (fu' + 1) SR = zf_X11_closed_zb N z (fun S => zf_X11_closed_z N z fu' S) SR := rfl
    have t60 : ¬ (60 : Int32) ≤ nI t := nI_ge (b := 60) (show t < 60 by omega) (by omega)
    by_cases hk : k = 0
    · have e1 : SC.1 14 = SC.2.1 18 w := by rw [h14, a1]; congr 1; omega
      rcases a5 with ⟨b1, b2, b3, b4⟩ | ⟨u, m, l, b', b1, b2, b3, b4, b5, b6, b7, b8⟩
      · left
        refine ⟨mq_si SC 19 1, SR, ?_, ?_, rfl, ag_si (by decide), ag_rf⟩
        · rw [s1]; unfold zf_X8_goBack_2b
          rw [if_neg t60, h16, mq_ck_of i1, c1, if_pos e1, mq_ck_of i1, b2, if_pos rfl, nS_e, mq_cz_0]
        · rw [s2]; unfold zf_X11_closed_zb
          rw [h27, show wt = 0 by omega, if_pos (by decide), mq_cz_0]
      · cases R with
        | nil => cases b1
        | cons u' r =>
          have : u' = u := by simpa using b1
          subst this
          have hec' : ea = ec := by omega
          rw [hec'] at b8
          simp only [List.length_cons] at ht hfu hfu' hlen
          have g1 : zf_X8_goBack_2 N z (fu + 1) (nI t) SC = zf_X8_goBack_2 N z fu (nI (t + 1)) (mq_si SC 16 (nI u')) := by
            rw [s1]; unfold zf_X8_goBack_2b
            rw [if_neg t60, h16, mq_ck_of i1, c1, if_pos e1, mq_ck_of i1, b2, if_neg (nI_nm (by omega)), mq_ck_of i1, nS_e, nI_e, nI_1]
          have g2 : zf_X11_closed_z N z (fu' + 1) SR = zf_X11_closed_z N z fu' (mq_si (mq_si (mq_si SR 27 (nI b')) 24 (SR.2.1 28 b')) 25 (SR.2.1 27 b')) := by
            rw [s2, cz_top (b := b') (by rw [h27]; congr 1; omega) (by omega), b5.1, if_pos rfl]
          have st2 : stk n so on tw d (mq_si SC 16 (nI u')) (mq_si (mq_si (mq_si SR 27 (nI b')) 24 (SR.2.1 28 b')) 25 (SR.2.1 27 b')) (u' :: r) ec b' l := stk_n (SC := SC) (SR := SR) rfl rfl hfw b8
          have agR : ag [24, 25, 27] [] [] SR (mq_si (mq_si (mq_si SR 27 (nI b')) 24 (SR.2.1 28 b')) 25 (SR.2.1 27 b')) := ag_tr (ag_tr (ag_si (by decide)) (ag_si (by decide))) (ag_si (by decide))
          rcases bk hfw r u' b' l (t + 1) fu fu' _ _ st2 rfl h14 rfl (by omega) hec (by omega) (by omega) (by omega) with ⟨SC', SR', c1, c2, c3, c4, c5⟩ | ⟨w', R', e0, wt0, ln', SC', SR', c1, c2, c3, c3', c4, c4', c5, c6, c7, c8, c9, c10, c11, c12, c13, c14, c15⟩
          · left
            exact ⟨SC', SR', g1.trans c1, g2.trans c2, c3, ag_tr (ag_si (by decide)) c4, ag_tr agR c5⟩
          · right
            refine ⟨w', R', e0, wt0, ln', SC', SR', c1, by omega, fun v hv hR => ?_, by simp only [List.length_cons]; omega, by omega, c4', c5, stk_n (SC := mq_si SC 16 (nI u')) (SR := mq_si (mq_si (mq_si SR 27 (nI b')) 24 (SR.2.1 28 b')) 25 (SR.2.1 27 b')) rfl rfl hfw c6, g1.trans c7, c8, c9, ag_tr (ag_si (by decide)) c10, g2.trans c11, c12, c13, c14, ag_tr agR c15⟩
            rcases List.mem_cons.mp hR with e | e
            · omega
            · exact c3 v hv e
    · right
      have e1 : ¬ SC.1 14 = SC.2.1 18 w := by
        rw [h14, a1]
        intro q
        have := sp_inj q (by omega) (by omega)
        omega
      have top := a4 (k - 1) (by omega)
      have j1 : ea + (k - 1) = ec - 1 := by omega
      have j2 : b + (k - 1) = wt - 1 := by omega
      rw [j1, j2] at top
      refine ⟨w, R, ec - 1, wt - 1, ln, mq_si SC 15 (nI (w + 1)), mq_si (mq_si (mq_si SR 27 (nI (wt - 1))) 24 (SR.2.1 28 (wt - 1))) 25 (SR.2.1 27 (wt - 1)), by omega, Nat.le_refl _, fun _ _ q => q, Nat.le_refl _, Nat.le_refl _, by omega, top, ⟨ea, k - 1, b, a1, by omega, by omega, fun j hj => a4 j (by omega), a5⟩, ?_, h16, rfl, ag_si (by decide), ?_, rfl, top.2.2.1, top.2.1, ag_tr (ag_tr (ag_si (by decide)) (ag_si (by decide))) (ag_si (by decide))⟩
      · rw [s1]; unfold zf_X8_goBack_2b
        rw [if_neg t60, h16, mq_ck_of i1, c1, if_neg e1]
        exact gb_63 h16
      · rw [s2, cz_top (b := wt - 1) (by rw [h27]; congr 1; omega) (by omega), top.1, if_neg (by decide)]
end BACK
end
/-! 9t.second -/
section
/-! The tableau: the second part of an EITHER. -/
section SECOND
variable {N n F : Nat} {z : Nat → Nat} {so on tw : Nat → Int32} {d : Nat → Nat} {S SC SR : mq_St} {st W w ec ln wt m f : Nat} {R : List Nat}
theorem ag_ii {S' : mq_St} {a b : Int32} (h : ag [15, 16] [] [] S S') (h15 : S'.1 15 = a) (h16 : S'.1 16 = b) : S' = mq_si (mq_si S 15 a) 16 b := by
  refine Prod.ext ?_ (Prod.ext ?_ ?_)
  · funext q
    show _ = if q = 16 then _ else (if q = 15 then _ else _)
    by_cases e : q = 16
    · rw [if_pos e, e]; exact h16
    · rw [if_neg e]
      by_cases e' : q = 15
      · rw [if_pos e', e']; exact h15
      · rw [if_neg e']; exact h.1 q (by simp [e, e'])
  · funext q; exact h.2.1 q (by simp)
  · funext q; exact h.2.2 q (by simp)
theorem ag_iii {S' : mq_St} {a b c : Int32} (h : ag [24, 25, 27] [] [] S S') (h24 : S'.1 24 = a) (h25 : S'.1 25 = b) (h27 : S'.1 27 = c) : S' = mq_si (mq_si (mq_si S 24 a) 25 b) 27 c := by
  refine Prod.ext ?_ (Prod.ext ?_ ?_)
  · funext q
    show _ = if q = 27 then _ else (if q = 25 then _ else (if q = 24 then _ else _))
    by_cases e : q = 27
    · rw [if_pos e, e]; exact h27
    · rw [if_neg e]
      by_cases e' : q = 25
      · rw [if_pos e', e']; exact h25
      · rw [if_neg e']
        by_cases e'' : q = 24
        · rw [if_pos e'', e'']; exact h24
        · rw [if_neg e'']; exact h.1 q (by simp [e, e', e''])
  · funext q; exact h.2.1 q (by simp)
  · funext q; exact h.2.2 q (by simp)
def seC (S : mq_St) (st e0 w : Nat) : mq_St := mq_sl (mq_si (mq_sa S 21 (upd (S.2.1 21) 0 (nI (st + 1)))) 14 (nI e0)) 1 (vp_updL (S.2.2 1) w 0)
theorem ck_second {e0 : Nat} (hN : 10 ≤ N) (hc : cxC S n so on tw d) (hw : w < 60) (h18 : S.1 18 = nI F) (h21 : S.2.1 21 0 = nI st) (h16 : S.1 16 = nI w) (h14 : S.1 14 = nI (e0 + 1)) (hF : F ≤ 100000) (hS : st ≤ F) (hE : e0 < 400) (hf : f < n) (hs : so f = nI 5) (h20 : S.2.1 20 e0 = nI f) (hcl : ∀ c, c < n → ¬ cls so d (lb (S.2.2 5) e0) c) :
    (st < F → ∃ c l3 l4, zf_X8_trySecond N z S = some ((), mq_sl (mq_sl (mq_si (seC S st e0 w) 17 c) 3 l3) 4 l4) ∧ (∀ v g, g < 320 → lb l3 v g = if v = w then (lb (S.2.2 5) e0 g || decide (g = p1 tw f)) else lb (S.2.2 3) v g) ∧ (∀ v g, g < 320 → lb l4 v g = if v = w then (lb (S.2.2 5) e0 g || decide (g = p1 tw f)) else lb (S.2.2 4) v g) ∧ clV n so d (lb l3 w) c) ∧
    (¬ st < F → zf_X8_trySecond N z S = some ((), mq_si S 19 (-3))) := by
  have hfw := hc.2.2.2
  obtain ⟨p1f, p2f, p3f, p4f⟩ := fw_1 hfw hf hs (by omega) (by omega)
  obtain ⟨p5f, p6f⟩ := p3f (by omega)
  have h300 := hfw.2.1
  have i1 : vp_in (nI w) 60 := vp_in_nI hw (by omega)
  have c1 : (nI w).toNatClampNeg = w := nI_clamp (by omega)
  have i2 : vp_in (nI e0) 400 := vp_in_nI hE (by omega)
  have c2 : (nI e0).toNatClampNeg = e0 := nI_clamp (by omega)
  have e14 : ¬ nI (e0 + 1) ≤ (0 : Int32) := nI_ge (show 0 < e0 + 1 by omega) (by omega)
  have e15 : nI (e0 + 1) - 1 = nI e0 := by rw [show (1 : Int32) = nI 1 from rfl, pk_sub (by omega)]; rfl
  refine ⟨fun h1 => ?_, fun h1 => ?_⟩
  · obtain ⟨q3, a1, a2, a3⟩ := ck_cp (N := N) (S := mq_si (mq_sa S 21 (upd (S.2.1 21) 0 (nI (st + 1)))) 14 (nI e0)) (a := 3) (b := 5) (ra := w) (rb := e0) (RA := 60) (RB := 666) (y := fun k => [300, 3330].getD k 0) hN (by decide) rfl rfl (by omega) (by omega) hw (by omega)
    obtain ⟨q4, b1, b2, b3⟩ := ck_cp (N := N) (S := mq_sl (mq_si (mq_sa S 21 (upd (S.2.1 21) 0 (nI (st + 1)))) 14 (nI e0)) 3 q3) (a := 4) (b := 5) (ra := w) (rb := e0) (RA := 60) (RB := 666) (y := fun k => [300, 3330].getD k 0) hN (by decide) rfl rfl (by omega) (by omega) hw (by omega)
    have hcT : cxC (mq_si (mq_sl (mq_sl (mq_sl (mq_si (mq_sa S 21 (upd (S.2.1 21) 0 (nI (st + 1)))) 14 (nI e0)) 3 q3) 4 q4) 1 (vp_updL (S.2.2 1) w 0)) 17 (-1)) n so on tw d := cxC_c hc rfl rfl rfl rfl rfl rfl
    have qe : ∀ g, g < 320 → lb q3 w g = lb (S.2.2 5) e0 g := fun g hg => by rw [a3 w g hg, if_pos rfl]; rfl
    obtain ⟨S1, l3, l4, d1, d2, d3, d4, d5, d6, d7⟩ := ck_add (N := N) (z := z) (f := p1 tw f) hcT hw h16 (by omega) (Or.inl ⟨rfl, fun c hc q => hcl c hc ((cls_x hfw qe hc).mp q)⟩)
    have e4 : zf_X7_secondOf N z (nI f) (mq_si (mq_sl (mq_sl (mq_sl (mq_si (mq_sa S 21 (upd (S.2.1 21) 0 (nI (st + 1)))) 14 (nI e0)) 3 q3) 4 q4) 1 (vp_updL (S.2.2 1) w 0)) 17 (-1)) = some (nI (p1 tw f)) := by rw [(ck_in hcT.1 h300 hf).2.2.1, (hcT.2.1 f hf).2.2.1, ← p6f]
    have agT : ag [17] [] [3, 4] (seC S st e0 w) (mq_si (mq_sl (mq_sl (mq_sl (mq_si (mq_sa S 21 (upd (S.2.1 21) 0 (nI (st + 1)))) 14 (nI e0)) 3 q3) 4 q4) 1 (vp_updL (S.2.2 1) w 0)) 17 (-1)) := by
      refine ⟨fun j hj => ?_, fun j _ => rfl, fun j hj => ?_⟩
      · simp only [List.mem_cons, List.not_mem_nil, or_false] at hj
        show (if j = 17 then _ else _) = _
        rw [if_neg hj]; rfl
      · simp only [List.mem_cons, List.not_mem_nil, or_false, not_or] at hj
        show (if j = 1 then _ else (if j = 4 then _ else (if j = 3 then _ else _))) = (if j = 1 then _ else _)
        rw [if_neg hj.1, if_neg hj.2]
    refine ⟨S1.1 17, l3, l4, ?_, fun v g hg => ?_, fun v g hg => ?_, d6⟩
    · have := ag_3 (ag_tr agT d7)
      rw [d2, d3] at this
      rw [← this]
      unfold zf_X8_trySecond
      rw [h14, if_neg e14]
      refine (cl_go (x := zf_X8_step N z S) (v := 1) (s := mq_sa S 21 (upd (S.2.1 21) 0 (nI (st + 1)))) (by rw [ck_step h21 h18 hS hF, if_pos h1])).trans ?_
      have y1 : (mq_sa S 21 (upd (S.2.1 21) 0 (nI (st + 1)))).1 14 = nI (e0 + 1) := h14
      rw [if_neg (by decide), y1, e15, nS_e]
      have y2 : (mq_si (mq_sa S 21 (upd (S.2.1 21) 0 (nI (st + 1)))) 14 (nI e0)).1 16 = nI w := h16
      have y3 : (mq_si (mq_sa S 21 (upd (S.2.1 21) 0 (nI (st + 1)))) 14 (nI e0)).1 14 = nI e0 := rfl
      rw [y2, y3]
      refine (cl_go a1).trans ?_
      rw [a2, nS_e]
      have y4 : (mq_sl (mq_si (mq_sa S 21 (upd (S.2.1 21) 0 (nI (st + 1)))) 14 (nI e0)) 3 q3).1 16 = nI w := h16
      have y5 : (mq_sl (mq_si (mq_sa S 21 (upd (S.2.1 21) 0 (nI (st + 1)))) 14 (nI e0)) 3 q3).1 14 = nI e0 := rfl
      rw [y4, y5]
      refine (cl_go b1).trans ?_
      rw [b2, nS_e]
      have y6 : (mq_sl (mq_sl (mq_si (mq_sa S 21 (upd (S.2.1 21) 0 (nI (st + 1)))) 14 (nI e0)) 3 q3) 4 q4).1 16 = nI w := h16
      rw [y6, mq_ck_of i1, c1, nS_e, nS_e]
      have y7 : (mq_si (mq_sl (mq_sl (mq_sl (mq_si (mq_sa S 21 (upd (S.2.1 21) 0 (nI (st + 1)))) 14 (nI e0)) 3 q3) 4 q4) 1 (vp_updL ((mq_sl (mq_sl (mq_si (mq_sa S 21 (upd (S.2.1 21) 0 (nI (st + 1)))) 14 (nI e0)) 3 q3) 4 q4).2.2 1) w 0)) 17 (-1)).1 14 = nI e0 := rfl
      rw [y7, mq_ck_of i2, c2]
      have y8 : (mq_si (mq_sl (mq_sl (mq_sl (mq_si (mq_sa S 21 (upd (S.2.1 21) 0 (nI (st + 1)))) 14 (nI e0)) 3 q3) 4 q4) 1 (vp_updL ((mq_sl (mq_sl (mq_si (mq_sa S 21 (upd (S.2.1 21) 0 (nI (st + 1)))) 14 (nI e0)) 3 q3) 4 q4).2.2 1) w 0)) 17 (-1)).2.1 20 e0 = nI f := h20
      rw [y8]
      exact (cp_go e4).trans (cl_go d1)
    · rw [d4 v g hg]
      show (lb q3 v g || _) = _
      rw [a3 v g hg]
      by_cases e : v = w
      · rw [if_pos e, if_pos e]
        show (lb (S.2.2 5) e0 g || _) = _
        simp [e]
      · rw [if_neg e, if_neg e]
        show (lb (S.2.2 3) v g || _) = _
        simp [e]
    · rw [d5 v g hg]
      show (lb q4 v g || _) = _
      rw [b3 v g hg]
      by_cases e : v = w
      · rw [if_pos e, if_pos e]
        show (lb (S.2.2 5) e0 g || _) = _
        simp [e]
      · rw [if_neg e, if_neg e]
        show (lb (S.2.2 4) v g || _) = _
        simp [e]
  · unfold zf_X8_trySecond
    rw [h14, if_neg e14]
    refine (cl_go (x := zf_X8_step N z S) (v := 0) (s := mq_si S 19 (-3)) (by rw [ck_step h21 h18 hS hF, if_neg h1])).trans ?_
    rw [if_pos rfl]
theorem rf_second {e0 wt0 : Nat} (hN : 20 ≤ N) (hx : cxR S n so on tw d) (h18 : S.1 18 = nI F) (h19 : S.1 19 = nI st) (h27 : S.1 27 = nI wt0) (h28 : S.1 28 = nI (e0 + 1)) (hF : F ≤ 100000) (hS : st ≤ F) (hW : wt0 < 470) (hf : f < n) (hs : so f = nI 5) (h26 : S.2.1 26 wt0 = nI f) :
    (st < F → ∃ a, clT N z S = some (1, mq_sa (mq_si (mq_si S 28 (nI e0)) 19 (nI (st + 1))) 17 a) ∧ ∀ g, g < 320 → ib a 0 g = (ib (S.2.1 30) wt0 g || decide (g = p1 tw f))) ∧
    (¬ st < F → ∃ a, clT N z S = some (0, mq_si (mq_sa (mq_si S 28 (nI e0)) 17 a) 23 (-3))) := by
  have hfw := hx.2.2.2
  obtain ⟨p1f, p2f, p3f, p4f⟩ := fw_1 hfw hf hs (by omega) (by omega)
  obtain ⟨p5f, p6f⟩ := p3f (by omega)
  have h300 := hfw.2.1
  have i1 : vp_in (nI wt0) 470 := vp_in_nI hW (by omega)
  have c1 : (nI wt0).toNatClampNeg = wt0 := nI_clamp (by omega)
  have i2 : vp_in (nI f) 300 := vp_in_nI (by omega) (by omega)
  have c2 : (nI f).toNatClampNeg = f := nI_clamp (by omega)
  have e15 : nI (e0 + 1) - 1 = nI e0 := by rw [show (1 : Int32) = nI 1 from rfl, pk_sub (by omega)]; rfl
  have e10 : (10 : Int32) * nI wt0 = nI (10 * wt0) := pk_mul 10 wt0
  obtain ⟨q, a1, a2, a3⟩ := rf_cp (N := N) (S := mq_si S 28 (nI e0)) (a := 30) (b := 17) (ra := wt0) (rb := 0) (R := 470) (R' := 1) (y := fun k => [4700, 10].getD k 0) hN (by decide) rfl rfl (by omega) (by omega) hW (by omega)
  have pre : clT N z S = mq_cl (zf_X11_step N z (mq_sa (mq_si S 28 (nI e0)) 17 q)) (fun q12v S14 => (if q12v = (0 : Int32) then (mq_cz ((0 : Int32)) (some ((0 : Int32), S14))) else (mq_ck ((S14.1 27)) 470 (mq_ck ((S14.2.1 26 ((S14.1 27)).toNatClampNeg)) 300 (mq_cl (zf_X11_put N (fun k => [10].getD k 0) ((0 : Int32)) ((S14.2.1 4 ((S14.2.1 26 ((S14.1 27)).toNatClampNeg)).toNatClampNeg)) (mq_pull S14 [] [17] [])) (fun q17v q17s => mq_nS (mq_push S14 q17s [] [17] []) (fun S19 => (mq_cz ((1 : Int32)) (some ((1 : Int32), S19)))))))))) := by
    unfold clT
    rw [h28, e15, nS_e]
    have y1 : (mq_si S 28 (nI e0)).1 27 = nI wt0 := h27
    rw [y1, e10]
    refine (cl_go a1).trans ?_
    rw [a2, nS_e]
  refine ⟨fun h1 => ?_, fun h1 => ⟨q, ?_⟩⟩
  · obtain ⟨a, b1, b2⟩ := rf_pu (N := N) (S := mq_si (mq_sa (mq_si S 28 (nI e0)) 17 q) 19 (nI (st + 1))) (g := p1 tw f) (y := S.2.1 4 f) (k := fun S19 => mq_cz 1 (some (1, S19))) ((hx.2.1 f hf).2.2.trans p6f) (by omega)
    refine ⟨a, ?_, fun g hg => ?_⟩
    · rw [pre]
      refine (cl_go (x := zf_X11_step N z (mq_sa (mq_si S 28 (nI e0)) 17 q)) (v := 1) (s := mq_si (mq_sa (mq_si S 28 (nI e0)) 17 q) 19 (nI (st + 1))) (by rw [rf_step (S := mq_sa (mq_si S 28 (nI e0)) 17 q) (st := st) (F := F) h19 h18 hS hF, if_pos h1])).trans ?_
      have y2 : (mq_si (mq_sa (mq_si S 28 (nI e0)) 17 q) 19 (nI (st + 1))).1 27 = nI wt0 := h27
      have y3 : (mq_si (mq_sa (mq_si S 28 (nI e0)) 17 q) 19 (nI (st + 1))).2.1 26 wt0 = nI f := h26
      rw [if_neg (by decide), y2, mq_ck_of i1, c1, y3, mq_ck_of i2, c2]
      refine b1.trans ?_
      rw [mq_cz_1]
      exact congrArg (fun q => some ((1 : Int32), q)) (sa_sa (mq_si (mq_si S 28 (nI e0)) 19 (nI (st + 1))) 17 q a)
    · rw [b2 g hg]
      show (ib q 0 g || _) = _
      rw [a3 0 g hg, if_pos rfl]
      rfl
  · rw [pre]
    refine (cl_go (x := zf_X11_step N z (mq_sa (mq_si S 28 (nI e0)) 17 q)) (v := 0) (s := mq_si (mq_sa (mq_si S 28 (nI e0)) 17 q) 23 (-3)) (by rw [rf_step (S := mq_sa (mq_si S 28 (nI e0)) 17 q) (st := st) (F := F) h19 h18 hS hF, if_neg h1])).trans ?_
    rw [if_pos rfl, mq_cz_0]
def ntC (S : mq_St) (ln c : Nat) : mq_St := mq_si (mq_sa S 22 (upd (S.2.1 22) ln ((nI 0 <<< ((16 : Int32) &&& 31)) ||| nI c))) 20 (nI (ln + 1))
def ntR (S : mq_St) (ln c : Nat) : mq_St := mq_si (mq_sa (mq_sa S 23 (upd (S.2.1 23) ln (nI 0))) 24 (upd (S.2.1 24) ln (nI c))) 26 (nI (ln + 1))
def bkC (S : mq_St) (ln c w : Nat) : mq_St := mq_si (mq_si (ntC S ln c) 15 (nI (w + 1))) 16 (nI w)
def bkR (S : mq_St) (ln c w wt : Nat) : mq_St := mq_si (mq_si (mq_si (ntR S ln c) 24 (nI (w + 1))) 25 (nI w)) 27 (nI wt)
theorem Dn_se {c w' e0 wt0 ln' : Nat} {R' : List Nat} {v : Int32} {l3 l4 : Nat → Int64} {a : Nat → Int32} (hfw : fw n so on tw d) (h : Dn n so on tw d F SC SR st w ec ln wt R) (h1 : st < F) (h2 : ln < 1299) (hc : c < n) (hec : ec = e0 + 1) (hw' : w' ≤ w) (hR : ∀ v, v < w' → v ∈ R → v ∈ R') (hln : ln' ≤ ln) (hei : eit n so d SC SR w' e0 wt0) (hst : stk n so on tw d SC SR (w' :: R') e0 wt0 ln') (hf : f < n) (hs : so f = nI 5)
    (b3 : ∀ v g, g < 320 → lb l3 v g = if v = w' then (lb (SC.2.2 5) e0 g || decide (g = p1 tw f)) else lb (SC.2.2 3) v g) (b4 : ∀ v g, g < 320 → lb l4 v g = if v = w' then (lb (SC.2.2 5) e0 g || decide (g = p1 tw f)) else lb (SC.2.2 4) v g) (hcl : clV n so d (lb l3 w') v) (ha : ∀ g, g < 320 → ib a 0 g = (ib (SR.2.1 30) wt0 g || decide (g = p1 tw f))) :
    Dn n so on tw d F (mq_sl (mq_sl (mq_si (seC (bkC SC ln c w') st e0 w') 17 v) 3 l3) 4 l4) (mq_sa (mq_si (mq_si (bkR SR ln c w' wt0) 28 (nI e0)) 19 (nI (st + 1))) 17 a) (st + 1) w' e0 (ln + 1) wt0 R' := by
  obtain ⟨p1f, p2f, p3f, p4f⟩ := fw_1 hfw hf hs (by omega) (by omega)
  obtain ⟨p5f, p6f⟩ := p3f (by omega)
  have h300 := hfw.2.1
  obtain ⟨⟨o1, o2, o3, o4, o5, o6⟩, ⟨n1, n2, n3, n4, n5, n6, n7⟩, ⟨m1, m2, m3, m4, m5, m6, m7, m8⟩, ⟨k1, k2, k3⟩, q5, q6, q7, q8, q9, q10, q11, q12, q13, q14⟩ := h
  obtain ⟨-, -, -, -, i5, i6, i7⟩ := hei
  have x3 : ∀ g, g < 320 → lb l3 w' g = (lb (SC.2.2 5) e0 g || decide (g = p1 tw f)) := fun g hg => by rw [b3 w' g hg, if_pos rfl]
  have x4 : ∀ g, g < 320 → lb l4 w' g = (lb (SC.2.2 5) e0 g || decide (g = p1 tw f)) := fun g hg => by rw [b4 w' g hg, if_pos rfl]
  have y3 : ∀ p g, p < w' → g < 320 → lb l3 p g = lb (SC.2.2 3) p g := fun p g hp hg => by rw [b3 p g hg, if_neg (by omega)]
  have y4 : ∀ p g, p < w' → g < 320 → lb l4 p g = lb (SC.2.2 4) p g := fun p g hp hg => by rw [b4 p g hg, if_neg (by omega)]
  obtain ⟨z1, z2⟩ := row_add (A := fun g => decide (g = p1 tw f)) hfw x3 x4 (fun g _ q => by have := of_decide_eq_true q; omega) i6 ⟨fun _ _ q => q, fun _ _ _ _ _ q => q.2.1⟩
  refine ⟨⟨by omega, o2, by omega, by omega, by omega, by omega⟩, ⟨n1, rfl, rfl, rfl, rfl, rfl, n7⟩, ⟨m1, rfl, rfl, rfl, rfl, rfl, m7, rfl⟩, ⟨k1, k2, k3⟩, lins_put (SC := SC) (SR := SR) q5 (by omega) (by omega) rfl rfl rfl, fun v hv => q6 v (by omega), stk_c (SC := SC) (SR := SR) hfw R' w' e0 wt0 ln' (ln + 1) (by omega) ⟨fun p _ => ⟨rfl, rfl⟩, fun p hp => ⟨rfl, fun g hg => ⟨y3 p g hp hg, y4 p g hp hg⟩⟩, fun j hj => ⟨rfl, fun g hg => rfl⟩⟩ (fun e he => ⟨rfl, rfl, rfl, rfl, rfl, fun g hg => rfl⟩) hst, fun g hg => ?_, z1, hcl, z2, ?_, fun u hu => ?_, fun u hu hR' g hg => ?_⟩
  · show ib a 0 g = lb l3 w' g
    rw [ha g hg, x3 g hg, i5 g hg]
  · show vp_updL (SC.2.2 1) w' 0 w' = 0
    unfold vp_updL
    rw [if_pos rfl]
  · intro x hx
    show _ = if (vp_updL (SC.2.2 1) w' 0 u).toBitVec.getLsbD x = true then 1 else 0
    have : vp_updL (SC.2.2 1) w' 0 u = SC.2.2 1 u := by unfold vp_updL; rw [if_neg (by omega)]
    rw [this]
    exact q13 u (by omega) x hx
  · show _ = lb l3 u g
    rw [y3 u g hu hg]; exact q14 u (by omega) (fun q => hR' (hR u hu q)) g hg
end SECOND
end
/-! 9u.full -/
section
/-! The tableau: a SET with nothing to do but MAYS. -/
section FULL
variable {N n F : Nat} {z : Nat → Nat} {so on tw : Nat → Int32} {d : Nat → Nat} {S SC SR : mq_St} {st W w ec ln wt m f : Nat} {R : List Nat}
theorem sa_i (S : mq_St) (k : Nat) : mq_sa S k (S.2.1 k) = S := by
  refine Prod.ext rfl (Prod.ext ?_ rfl)
  funext q
  show (if q = k then S.2.1 k else S.2.1 q) = S.2.1 q
  by_cases e : q = k
  · rw [if_pos e, e]
  · rw [if_neg e]
theorem d136 (hw : w < 60) : ∀ (fu v : Nat) (S : mq_St), v ≤ 60 → 60 - v < fu → S.1 25 = nI w → ∃ r, zf_X11_down_136 N z fu (nI v) S = mq_cl (zf_X11_waits N z 0 (-1) (mq_sa S 22 r)) (fun _ S72 => mq_cz 0 (some (0, S72))) ∧ ∀ i, r i = if 60 * w + v ≤ i ∧ i < 60 * w + 60 then 0 else S.2.1 22 i
  | 0, v, S, _, h, _ => by omega
  | fu + 1, v, S, hv, hfu, h25 => by
    have s1 : zf_X11_down_136 N z (fu + 1) (nI v) S = zf_X11_down_136b N z (fun v2 S => zf_X11_down_136 N z fu v2 S) (nI v) S := rfl
    by_cases e : v = 60
    · refine ⟨S.2.1 22, ?_, fun i => by rw [if_neg (by omega)]⟩
      rw [s1]; unfold zf_X11_down_136b
      rw [e, if_pos (by decide), show mq_sa S 22 (S.2.1 22) = S from sa_i S 22]
    · have t60 : ¬ (60 : Int32) ≤ nI v := nI_ge (b := 60) (show v < 60 by omega) (by omega)
      have e1 : (60 : Int32) * nI w + nI v = nI (60 * w + v) := by rw [show (60 : Int32) = nI 60 from rfl, pk_mul, nI_add]
      obtain ⟨r, g1, g2⟩ := d136 hw fu (v + 1) (mq_sa S 22 (upd (S.2.1 22) (60 * w + v) 0)) (by omega) (by omega) h25
      refine ⟨r, ?_, fun i => ?_⟩
      · rw [s1]; unfold zf_X11_down_136b
        rw [if_neg t60, h25, e1, mq_ck_of (vp_in_nI (by omega) (by omega)), nI_clamp (by omega), nS_e, nI_e, nI_1]
        refine g1.trans ?_
        rw [sa_sa]
      · rw [g2 i]
        show (if _ then _ else upd (S.2.1 22) (60 * w + v) 0 i) = _
        by_cases e' : i = 60 * w + v
        · rw [if_neg (by omega), if_pos (by omega), e', up_s]
        · rw [up_o e']
          by_cases e'' : 60 * w + v ≤ i ∧ i < 60 * w + 60
          · rw [if_pos (by omega), if_pos e'']
          · rw [if_neg (by omega), if_neg e'']
/-- what tableau() does behind down() and behind mays() -/
def kM (N : Nat) (z : Nat → Nat) (fu2 : Nat) : Int32 → mq_St → Option (Int32 × mq_St) := fun q35v S37 => (mq_nI (q35v) (fun x38 => (if (S37.1 23) = (0 : Int32) then (if x38 = (0 : Int32) then (mq_cl (zf_X11_opened N z S37) (fun q39v S41 => (if q39v = (0 : Int32) then (some ((0 : Int32), S41)) else (zf_X11_tableau_82 N z fu2 (x38) S41)))) else (zf_X11_tableau_82 N z fu2 (x38) S37)) else (some ((S37.1 23), S37)))))
def kD (N : Nat) (z : Nat → Nat) (fu2 : Nat) : Int32 → mq_St → Option (Int32 × mq_St) := fun q22v S24 => (mq_nI (q22v) (fun x25 => (if (S24.1 23) = (0 : Int32) then (if x25 = (0 : Int32) then (mq_cl (zf_X11_mays N z S24) (kM N z fu2)) else (mq_cl (zf_X11_closed N z S24) (fun q26v S28 => (mq_nI (q26v) (fun x29 => (if (S28.1 23) = (0 : Int32) then (if x29 = (0 : Int32) then (some ((1 : Int32), S28)) else (zf_X11_tableau_82 N z fu2 (x29) S28)) else (some ((S28.1 23), S28)))))))) else (some ((S24.1 23), S24)))))
theorem t82_D {fu2 : Nat} {v : Int32} (hv : ¬ v = 0) : zf_X11_tableau_82 N z (fu2 + 1) v S = mq_cl (zf_X11_down_z N z N S) (kD N z fu2) := by
  show zf_X11_tableau_82b N z (fun v2 S => zf_X11_tableau_82 N z fu2 v2 S) v S = _
  unfold zf_X11_tableau_82b
  rw [if_neg hv]
  rfl
theorem t82_M {fu2 : Nat} : zf_X11_tableau_82 N z (fu2 + 1) 0 S = mq_cl (zf_X11_mays N z S) (kM N z fu2) := by
  show zf_X11_tableau_82b N z (fun v2 S => zf_X11_tableau_82 N z fu2 v2 S) 0 S = _
  unfold zf_X11_tableau_82b
  rw [if_pos rfl]
  rfl
theorem kD_0 {fu2 : Nat} (h : S.1 23 = 0) : kD N z fu2 0 S = mq_cl (zf_X11_mays N z S) (kM N z fu2) := by
  unfold kD
  rw [nI_e, if_pos h, if_pos rfl]
theorem kD_f {fu2 : Nat} {v : Int32} (h : ¬ S.1 23 = 0) : kD N z fu2 v S = some (S.1 23, S) := by
  unfold kD
  rw [nI_e, if_neg h]
theorem kM_f {fu2 : Nat} {v : Int32} (h : ¬ S.1 23 = 0) : kM N z fu2 v S = some (S.1 23, S) := by
  unfold kM
  rw [nI_e, if_neg h]
/-- mays() up to its loop -/
theorem ms_pre {l : Nat} (hN : 400 ≤ N) (hx : cxR SR n so on tw d) (h27 : SR.1 27 = nI (wt + 1)) (hwt : wt < 470) (hm : may n so on tw d SC SR w m l wt) :
    ∃ q x, zf_X11_mays N z SR = zf_X11_mays_54 N z N (nI wt) x (mq_si (mq_sa (mq_si SR 25 (nI w)) 17 q) 26 (nI l)) ∧ (∀ g, g < 320 → ib q 0 g = lb (SC.2.2 3) w g) ∧ lst n (fun f => m ≤ f ∧ td so on tw 7 (lb (SC.2.2 3) w) f) x := by
  have hfw := hx.2.2.2
  obtain ⟨m1, m2, m2', m3, m4, m5, m6⟩ := hm
  have i1 : vp_in (nI wt) 470 := vp_in_nI hwt (by omega)
  have c1 : (nI wt).toNatClampNeg = wt := nI_clamp (by omega)
  have e1 : nI (wt + 1) - 1 = nI wt := by rw [show (1 : Int32) = nI 1 from rfl, pk_sub (by omega)]; rfl
  have e10 : (10 : Int32) * nI wt = nI (10 * wt) := pk_mul 10 wt
  obtain ⟨q, a1, a2, a3⟩ := rf_cp (N := N) (S := mq_si SR 25 (nI w)) (a := 30) (b := 17) (ra := wt) (rb := 0) (R := 470) (R' := 1) (y := fun k => [4700, 10].getD k 0) (by omega) (by decide) rfl rfl (by omega) (by omega) hwt (by omega)
  have bits : ∀ g, g < 320 → ib q 0 g = lb (SC.2.2 3) w g := fun g hg => by rw [a3 0 g hg, if_pos rfl]; exact m5 g hg
  have hx8 : cxR (mq_si (mq_sa (mq_si SR 25 (nI w)) 17 q) 26 (nI l)) n so on tw d := cxR_c hx rfl rfl rfl rfl
  obtain ⟨x, b1, b2⟩ := rs_may (N := N) (z := z) (v := SR.2.1 26 wt) hN hx8 m2' m2
  refine ⟨q, x, ?_, bits, lst_s b2 (fun f hf => ?_)⟩
  · unfold zf_X11_mays
    rw [h27, e1, nI_e, mq_ck_of i1, c1, m3, nS_e, e10]
    refine (cl_go a1).trans ?_
    rw [a2, nS_e, mq_ck_of i1, nS_e, mq_ck_of i1]
    have y1 : (mq_sa (mq_si SR 25 (nI w)) 17 q).2.1 29 wt = nI l := m4
    rw [y1]
    exact (cp_go b1).trans rfl
  · have := td_x (X := lb (SC.2.2 3) w) (X' := ib q 0) hfw bits hf (s := 7) (by omega) (by omega)
    exact ⟨fun q => ⟨q.1, this.mp q.2⟩, fun q => ⟨q.1, this.mpr q.2⟩⟩
/-- the reference behind down() and the head of mays(), where down() found nothing to do -/
def fuR (S : mq_St) (w ln wt : Nat) (r q q' : Nat → Int32) : mq_St := mq_si (mq_sa (mq_si (mq_si (mq_sa (mq_sa (mq_sa (mq_sa (mq_sa (mq_sa (mq_sa S 22 r) 25 (upd (S.2.1 25) wt 0)) 26 (upd (S.2.1 26) wt (-1))) 27 (upd (S.2.1 27) wt (S.1 25))) 28 (upd (S.2.1 28) wt (S.1 24))) 29 (upd (S.2.1 29) wt (S.1 26))) 30 q) 27 (nI (wt + 1))) 25 (nI w)) 17 q') 26 (nI ln)
theorem D_full {fu fu2 : Nat} (hN : 400 ≤ N) (hx : cxR SR n so on tw d) (h : Dn n so on tw d F SC SR st w ec ln wt R) (h17 : SC.1 17 = -1) (h4 : ∀ f, f < n → ¬ td so on tw 4 (lb (SC.2.2 3) w) f) (h5 : ∀ f, f < n → ¬ td so on tw 5 (lb (SC.2.2 3) w) f) (h6 : ∀ f, f < n → ¬ td so on tw 6 (lb (SC.2.2 3) w) f) :
    ∃ SR' x, mq_cl (zf_X11_down_z N z (fu + 1) SR) (kD N z fu2) = mq_cl (zf_X11_mays_54 N z N (nI wt) x SR') (kM N z fu2) ∧ lst n (fun f => 0 ≤ f ∧ td so on tw 7 (lb (SC.2.2 3) w) f) x ∧ Mn n so on tw d F SC SR' st (w + 1) w ec ln wt 0 R ∧ frR SR SR' := by
  have hfw := hx.2.2.2
  have h300 := hfw.2.1
  obtain ⟨⟨o1, o2, o3, o4, o5, o6⟩, nn, ⟨m1, m2, m3, m4, m5, m6, m7, m8⟩, kk, q5, q6, q7, q8, q9, q10, q11, q12, q13, q14⟩ := id h
  have hlen := stk_len R w ec wt ln q7
  have noc : ∀ c, c < n → ¬ cls so d (lb (SC.2.2 3) w) c := by
    rcases q10 with ⟨-, q⟩ | ⟨c, c1, c2, -⟩
    · exact q
    · exact absurd (c2.symm.trans h17) (nI_nm (by omega))
  have non : ∀ s f, 4 ≤ s → s ≤ 6 → f < n → ¬ td so on tw s (lb (SC.2.2 3) w) f := fun s f a b hf => by
    have : s = 4 ∨ s = 5 ∨ s = 6 := by omega
    rcases this with rfl | rfl | rfl
    · exact h4 f hf
    · exact h5 f hf
    · exact h6 f hf
  have un : ∀ (P Q : Nat → Prop) (v : Int32), lst n P v → (∀ f, f < n → (P f ↔ Q f)) → (∀ f, f < n → ¬ Q f) → v = -1 := fun P Q v a b c => by
    rcases a with ⟨e, -⟩ | ⟨f, f1, -, f3, -⟩
    · exact e
    · exact absurd ((b f f1).mp f3) (c f f1)
  obtain ⟨v0, e0, e0'⟩ := rs_clash (z := z) hN hx
  have v0e : v0 = -1 := (clV_u (clV_x hfw q8 q10) e0').symm.trans h17
  rw [v0e] at e0
  obtain ⟨v4, e4, e4'⟩ := rs_both (z := z) hN hx
  rw [un _ _ _ e4' (fun f hf => td_x hfw q8 hf (by omega) (by omega)) h4] at e4
  obtain ⟨v6, e6, e6'⟩ := rs_self (z := z) hN hx
  rw [un _ _ _ e6' (fun f hf => td_x hfw q8 hf (by omega) (by omega)) h6] at e6
  obtain ⟨v5, e5, e5'⟩ := rs_either (z := z) hN hx
  rw [un _ _ _ e5' (fun f hf => td_x hfw q8 hf (by omega) (by omega)) h5] at e5
  obtain ⟨r, g1, g2⟩ := d136 (N := N) (z := z) (show w < 60 by omega) N 0 SR (by omega) (by omega) m4
  obtain ⟨q, w1, w2⟩ := rf_waits (N := N) (z := z) (S := mq_sa SR 22 r) (wt := wt) (by omega) 0 (-1) m8 (by omega) (Or.inl rfl)
  have mayT : may n so on tw d SC (mq_si (mq_sa (mq_sa (mq_sa (mq_sa (mq_sa (mq_sa (mq_sa SR 22 r) 25 (upd (SR.2.1 25) wt 0)) 26 (upd (SR.2.1 26) wt (-1))) 27 (upd (SR.2.1 27) wt (SR.1 25))) 28 (upd (SR.2.1 28) wt (SR.1 24))) 29 (upd (SR.2.1 29) wt (SR.1 26))) 30 q) 27 (nI (wt + 1))) w 0 ln wt := by
    refine ⟨up_s _ _ _, ?_, by omega, (up_s _ _ _).trans m4, (up_s _ _ _).trans m6, fun g hg => ?_, q9, noc, non, q11.1, fun f hf a => ⟨fun _ => Nat.zero_le _, fun _ => q11.2 7 f (by omega) (by omega) hf a⟩⟩
    · show upd (SR.2.1 26) wt (-1) wt + 1 = nI 0
      rw [up_s]; rfl
    · show ib q wt g = _
      rw [w2 wt g hg, if_pos rfl]; exact q8 g hg
  obtain ⟨q', x, p1, p2, p3⟩ := ms_pre (N := N) (z := z) hN (SR := mq_si (mq_sa (mq_sa (mq_sa (mq_sa (mq_sa (mq_sa (mq_sa SR 22 r) 25 (upd (SR.2.1 25) wt 0)) 26 (upd (SR.2.1 26) wt (-1))) 27 (upd (SR.2.1 27) wt (SR.1 25))) 28 (upd (SR.2.1 28) wt (SR.1 24))) 29 (upd (SR.2.1 29) wt (SR.1 26))) 30 q) 27 (nI (wt + 1))) (cxR_c hx rfl rfl rfl rfl) rfl (by omega) mayT
  refine ⟨fuR SR w ln wt r q q', x, ?_, p3, ⟨⟨o1, o2, o3, o4, o5, o6⟩, nn, ⟨m1, m2, m3, rfl, m5, rfl, m7, rfl⟩, kk, q5, q6, stk_c (SC := SC) (SR := SR) hfw R w ec wt ln ln (Nat.le_refl _) ⟨fun p _ => ⟨rfl, rfl⟩, fun p hp => ⟨rfl, fun g hg => ⟨rfl, rfl⟩⟩, fun j hj => ⟨rfl, fun g hg => rfl⟩⟩ (fun e he => ⟨up_o (by omega), up_o (by omega), up_o (by omega), up_o (by omega), up_o (by omega), fun g hg => ?_⟩) q7, mayT, p2, h17, fun v hv u hu => ?_, fun v hv hv' hR => q14 v (by omega) hR⟩, ?_⟩
  · have s1 : zf_X11_down_z N z (fu + 1) SR = some (0, mq_si (mq_sa (mq_sa (mq_sa (mq_sa (mq_sa (mq_sa (mq_sa SR 22 r) 25 (upd (SR.2.1 25) wt 0)) 26 (upd (SR.2.1 26) wt (-1))) 27 (upd (SR.2.1 27) wt (SR.1 25))) 28 (upd (SR.2.1 28) wt (SR.1 24))) 29 (upd (SR.2.1 29) wt (SR.1 26))) 30 q) 27 (nI (wt + 1))) := by
      show zf_X11_down_zb N z (fun S => zf_X11_down_z N z fu S) SR = _
      unfold zf_X11_down_zb
      rw [if_pos m7]
      refine (cp_go e0).trans ?_
      rw [nI_e, if_pos rfl]
      refine (cp_go e4).trans ?_
      rw [nI_e, if_pos rfl]
      refine (cp_go e6).trans ?_
      rw [nI_e, if_pos rfl]
      refine (cp_go e5).trans ?_
      rw [nI_e, if_pos rfl]
      refine g1.trans ((cl_go w1).trans ?_)
      rw [mq_cz_0]
      rfl
    refine (cl_go s1).trans ?_
    rw [kD_0 (by exact m7), p1]
    rfl
  · show ib q e g = _
    rw [w2 e g hg, if_neg (by omega)]
    rfl
  · show r (60 * v + u) = _
    rw [g2]
    by_cases e : v = w
    · rw [if_pos (by omega), e, q12]
      have : (0 : Int64).toBitVec.getLsbD u = false := BitVec.getLsbD_zero
      rw [this]; rfl
    · rw [if_neg (by omega)]; exact q13 v (by omega) u hu
  · have t := fun {A B : mq_St} {k : Nat} {v : Int32} (h : frR A B) (hk : k ∈ [18, 19, 20, 21, 22, 23, 24, 25, 26, 27, 28]) => (ag_tr h (ag_si (v := v) hk) : frR A (mq_si B k v))
    have t' := fun {A B : mq_St} {k : Nat} {v : Nat → Int32} (h : frR A B) (hk : k ∈ [17, 18, 19, 20, 21, 22, 23, 24, 25, 26, 27, 28, 29, 30, 31]) => (ag_tr h (ag_sa (f := v) hk) : frR A (mq_sa B k v))
    exact t (t' (t (t (t' (t' (t' (t' (t' (t' (t' ag_rf (by decide)) (by decide)) (by decide)) (by decide)) (by decide)) (by decide)) (by decide)) (by decide)) (by decide)) (by decide)) (by decide)
end FULL
end
/-! 9v.start -/
section
/-! The tableau: the START of a MAY, and the world that has it already. -/
section START
variable {N n F : Nat} {z : Nat → Nat} {so on tw : Nat → Int32} {d : Nat → Nat} {S SC SR : mq_St} {st W w ec ln wt m f p : Nat} {R : List Nat}
theorem push2 {a b : Nat} {q' : Nat → Int64} (hab : a ≠ b) : mq_push S (mq_sl (mq_pull S [] [] [a, b]) 0 q') [] [] [a, b] = mq_sl S a q' := by
  refine Prod.ext rfl (Prod.ext rfl ?_)
  funext q
  show (match [a, b].idxOf? q with | some j => (mq_sl (mq_pull S [] [] [a, b]) 0 q').2.2 j | none => S.2.2 q) = if q = a then q' else S.2.2 q
  by_cases ea : q = a
  · have : [a, b].idxOf? q = some 0 := by rw [ea]; simp [List.idxOf?, List.findIdx?_cons]
    rw [this, if_pos ea]
    rfl
  · by_cases eb : q = b
    · have : [a, b].idxOf? q = some 1 := by
        rw [eb]
        simp [List.idxOf?, List.findIdx?_cons, hab]
      rw [this, if_neg ea, eb]
      rfl
    · rw [if_neg ea, List.idxOf?_eq_none_iff.mpr (by simp [ea, eb])]
/-- the START: the NEEDS of the SET and one part -/
def sta (n : Nat) (so : Nat → Int32) (X : Nat → Bool) (p g : Nat) : Bool := (X g && decide (g < n ∧ so g = nI 6)) || decide (g = p)
theorem ck_dst (hN : 10 ≤ N) (hc : cxC S n so on tw d) (h15 : S.1 15 = nI W) (h16 : S.1 16 = nI w) (hw : w < 60) (hW : W ≤ 60) (hp : p < 320) :
    ∃ l2, zf_X8_drawStart N z (nI p) S = some ((), mq_sl S 2 l2) ∧ ∀ v g, g < 320 → lb l2 v g = if v = W then sta n so (lb (S.2.2 3) w) p g else lb (S.2.2 2) v g := by
  obtain ⟨q1, a1, a2, a3⟩ := ck_cp (N := N) (S := S) (a := 2) (b := 3) (ra := W) (rb := w) (RA := 61) (RB := 60) (y := fun k => [305, 300].getD k 0) hN (by decide) rfl rfl (by omega) (by omega) (by omega) hw
  obtain ⟨q2, b1, b2⟩ := se_meet (N := N) (R := 61) (R' := 8) (r := W) (r' := 6) (z := fun k => [305, 40].getD k 0) (S := mq_pull (mq_sl S 2 q1) [] [] [2, 0]) hN rfl rfl (by omega) (by omega) (by omega) (by omega)
  obtain ⟨q3, c1, c2⟩ := se_put (N := N) (R := 61) (r := W) (f := p) (z := fun k => [305].getD k 0) (S := mq_pull (mq_sl (mq_sl S 2 q1) 2 q2) [] [] [2]) rfl (by omega) (by omega) hp
  refine ⟨q3, ?_, fun v g hg => ?_⟩
  · unfold zf_X8_drawStart
    rw [h15, h16]
    refine (cl_go a1).trans ?_
    rw [a2, nS_e]
    refine (cp_go (v := ()) rfl).trans ?_
    have y1 : (mq_sl S 2 q1).1 15 = nI W := h15
    rw [y1]
    refine (cl_go b1).trans ?_
    rw [push2 (by decide), nS_e]
    have y2 : (mq_sl (mq_sl S 2 q1) 2 q2).1 15 = nI W := h15
    rw [y2]
    refine (cl_go c1).trans ?_
    rw [push1, nS_e, sl_sl, sl_sl]
  · rw [c2 v g hg]
    show (lb q2 v g || _) = _
    rw [b2 v g hg]
    show ((if v = W then (lb q1 W g && lb (S.2.2 0) 6 g) else lb q1 v g) || _) = _
    by_cases e : v = W
    · rw [if_pos e, if_pos e, a3 W g hg, if_pos rfl, hc.2.2.1 6 g (by omega) hg]
      unfold sta
      simp [e]
    · rw [if_neg e, if_neg e, a3 v g hg, if_neg e]
      simp [e]
theorem rf_pu31 {g : Nat} {α : Type} {k : mq_St → Option α} (hg : g < 320) : ∃ a, mq_cl (zf_X11_put N (fun k => [10].getD k 0) 0 (nI g) (mq_pull S [] [31] [])) (fun _ q => mq_nS (mq_push S q [] [31] []) k) = k (mq_sa S 31 a) ∧ ∀ h, h < 320 → ib a 0 h = (ib (S.2.1 31) 0 h || decide (h = g)) := by
  obtain ⟨a', h1, h2⟩ := ri_put (N := N) (R := 1) (r := 0) (z := fun k => [10].getD k 0) (S := mq_pull S [] [31] []) (f := g) rfl (by omega) (by omega) hg
  refine ⟨a', (cl_go h1).trans ((nS_go ?_).trans rfl), fun h hh => ?_⟩
  · have h0 : ∀ q : Nat, [q].idxOf? q = some 0 := fun q => by simp [List.idxOf?, List.findIdx?_cons]
    refine Prod.ext rfl (Prod.ext ?_ rfl)
    funext q
    show (match [31].idxOf? q with | some j => (mq_sa (mq_pull S [] [31] []) 0 a').2.1 j | none => S.2.1 q) = if q = 31 then a' else S.2.1 q
    by_cases e : q = 31
    · subst e; rw [h0, if_pos rfl]; rfl
    · rw [if_neg e, List.idxOf?_eq_none_iff.mpr (by simpa using e)]
  · rw [h2 0 h hh]
    show (ib (S.2.1 31) 0 h || decide (0 = 0 ∧ h = g)) = _
    congr 1
    rw [decide_eq_decide]
    exact ⟨fun q => q.2, fun q => ⟨rfl, q⟩⟩
theorem mk_37 (hx : cxR S n so on tw d) (hN : 400 ≤ N) : ∀ (fu k : Nat) (b : Nat → Int32), k ≤ n → n - k < fu → ∃ a, zf_X11_makeStart_37 N z fu (nI k) (mq_sa S 31 b) = some ((), mq_sa S 31 a) ∧ ∀ g, g < 320 → ib a 0 g = (ib b 0 g || (ib (S.2.1 17) 0 g && decide (k ≤ g ∧ g < n ∧ so g = nI 6)))
  | 0, k, b, _, h => by omega
  | fu + 1, k, b, hk, hfu => by
    have hfw := hx.2.2.2
    have h300 := hfw.2.1
    have s1 : zf_X11_makeStart_37 N z (fu + 1) (nI k) (mq_sa S 31 b) = zf_X11_makeStart_37b N z (fun v2 S => zf_X11_makeStart_37 N z fu v2 S) (nI k) (mq_sa S 31 b) := rfl
    have h3 : (mq_sa S 31 b).1 3 = nI n := hx.1
    by_cases e : k = n
    · refine ⟨b, ?_, fun g hg => ?_⟩
      · rw [s1]; unfold zf_X11_makeStart_37b
        rw [h3, if_pos (by rw [e]; exact nI_le (Nat.le_refl _) (by omega))]
      · rw [decide_eq_false (by omega), Bool.and_false, Bool.or_false]
    · have hk' : k < n := by omega
      have i1 : vp_in (nI k) 300 := vp_in_nI (by omega) (by omega)
      have c1 : (nI k).toNatClampNeg = k := nI_clamp (by omega)
      have pre : zf_X11_makeStart_37 N z (fu + 1) (nI k) (mq_sa S 31 b) = if so k = 6 then mq_cp (zf_X11_isIn N (fun k => [10].getD k 0) 0 (nI k) (mq_pull (mq_sa S 31 b) [] [17] [])) (fun q12 => if q12 = 0 then zf_X11_makeStart_37 N z fu (nI (k + 1)) (mq_sa S 31 b) else mq_cl (zf_X11_put N (fun k => [10].getD k 0) 0 (nI k) (mq_pull (mq_sa S 31 b) [] [31] [])) (fun _ q => mq_nS (mq_push (mq_sa S 31 b) q [] [31] []) (fun S16 => zf_X11_makeStart_37 N z fu (nI (k + 1)) S16))) else zf_X11_makeStart_37 N z fu (nI (k + 1)) (mq_sa S 31 b) := by
        rw [s1]; unfold zf_X11_makeStart_37b zf_X11_makeStart_77
        rw [h3, if_neg (nI_ge hk' (by omega)), mq_ck_of i1, c1, show (mq_sa S 31 b).2.1 2 k = so k from (hx.2.1 k hk').1, nI_e, nI_1]
        rfl
      have aux : ∀ g b', g < 320 → (∀ a : Nat → Int32, ib a 0 g = (ib b' 0 g || (ib (S.2.1 17) 0 g && decide (k + 1 ≤ g ∧ g < n ∧ so g = nI 6))) → (ib b' 0 g = (ib b 0 g || (decide (g = k) && (ib (S.2.1 17) 0 k && decide (so k = 6))))) → ib a 0 g = (ib b 0 g || (ib (S.2.1 17) 0 g && decide (k ≤ g ∧ g < n ∧ so g = nI 6)))) := fun g b' hg a h1 h2 => by
        rw [h1, h2]
        by_cases eg : g = k
        · subst eg
          by_cases e6 : so g = 6
          · rw [decide_eq_true (rfl : g = g), decide_eq_true e6, decide_eq_false (show ¬ (g + 1 ≤ g ∧ g < n ∧ so g = nI 6) from fun q => by have := q.1; omega), decide_eq_true (show g ≤ g ∧ g < n ∧ so g = nI 6 from ⟨Nat.le_refl _, hk', e6⟩)]
            simp
          · rw [decide_eq_false e6, decide_eq_false (show ¬ (g + 1 ≤ g ∧ g < n ∧ so g = nI 6) from fun q => e6 q.2.2), decide_eq_false (show ¬ (g ≤ g ∧ g < n ∧ so g = nI 6) from fun q => e6 q.2.2)]
            simp
        · rw [decide_eq_false eg, Bool.false_and, Bool.or_false]
          congr 2
          rw [decide_eq_decide]
          exact ⟨fun q => ⟨by have := q.1; omega, q.2⟩, fun q => ⟨by have := q.1; omega, q.2⟩⟩
      by_cases e6 : so k = 6
      · cases h17 : ib (S.2.1 17) 0 k with
        | true =>
          obtain ⟨b', g1, g2⟩ := rf_pu31 (N := N) (S := mq_sa S 31 b) (g := k) (k := fun S16 => zf_X11_makeStart_37 N z fu (nI (k + 1)) S16) (by omega)
          obtain ⟨a, f1, f2⟩ := mk_37 hx hN fu (k + 1) b' (by omega) (by omega)
          refine ⟨a, ?_, fun g hg => aux g b' hg a (f2 g hg) ?_⟩
          · rw [pre, if_pos e6]
            refine (cp_go (rs_now (N := N) (S := mq_sa S 31 b) (show k < 320 by omega))).trans ?_
            rw [show ib ((mq_sa S 31 b).2.1 17) 0 k = true from h17, if_pos rfl, if_neg (by decide)]
            refine g1.trans ?_
            rw [sa_sa]; exact f1
          · rw [g2 g hg, h17, e6]
            show (ib b 0 g || _) = _
            simp
        | false =>
          obtain ⟨a, f1, f2⟩ := mk_37 hx hN fu (k + 1) b (by omega) (by omega)
          refine ⟨a, ?_, fun g hg => aux g b hg a (f2 g hg) (by rw [h17]; simp)⟩
          rw [pre, if_pos e6]
          refine (cp_go (rs_now (N := N) (S := mq_sa S 31 b) (show k < 320 by omega))).trans ?_
          rw [show ib ((mq_sa S 31 b).2.1 17) 0 k = false from h17]
          exact (if_pos (by decide)).trans f1
      · obtain ⟨a, f1, f2⟩ := mk_37 hx hN fu (k + 1) b (by omega) (by omega)
        refine ⟨a, ?_, fun g hg => aux g b hg a (f2 g hg) (by rw [decide_eq_false e6]; simp)⟩
        rw [pre, if_neg e6]; exact f1
theorem mk_2 {α : Type} {k0 : Int32 → mq_St → Option α} (S : mq_St) (G : Nat → Int32 → mq_St → Option α) (hG : ∀ fu v (b : Nat → Int32), v < 10 → G (fu + 1) (nI v) (mq_sa S 31 b) = G fu (nI (v + 1)) (mq_sa S 31 (upd b v 0))) : ∀ (fu v : Nat) (b : Nat → Int32), v ≤ 10 → 10 - v < fu → (∀ i, i < v → b i = 0) → ∃ b' fu', fu + v = fu' + 10 + 1 ∧ G fu (nI v) (mq_sa S 31 b) = G (fu' + 1) (nI 10) (mq_sa S 31 b') ∧ ∀ i, i < 10 → b' i = 0
  | 0, v, b, _, h, _ => by omega
  | fu + 1, v, b, hv, hfu, hb => by
    by_cases e : v = 10
    · exact ⟨b, fu, by omega, by rw [e], fun i hi => hb i (by omega)⟩
    · obtain ⟨b', fu', g1, g2, g3⟩ := mk_2 (k0 := k0) S G hG fu (v + 1) (upd b v 0) (by omega) (by omega) (fun i hi => by
        by_cases q : i = v
        · rw [q, up_s]
        · rw [up_o q]; exact hb i (by omega))
      exact ⟨b', fu', by omega, (hG fu v b (by omega)).trans g2, g3⟩
theorem ib_0 {a : Nat → Int32} (h : ∀ i, i < 10 → a i = 0) {g : Nat} (hg : g < 320) : ib a 0 g = false := by
  unfold ib
  rw [h (10 * 0 + g / 32) (by omega)]
  exact BitVec.getLsbD_zero
theorem rf_mks (hx : cxR S n so on tw d) (hN : 400 ≤ N) (hf : f < n) (hs : so f = nI 7) : ∃ a, zf_X11_makeStart N z (nI f) S = some ((), mq_sa S 31 a) ∧ ∀ g, g < 320 → ib a 0 g = sta n so (ib (S.2.1 17) 0) (p1 on f) g := by
  have hfw := hx.2.2.2
  have h300 := hfw.2.1
  obtain ⟨p1f, p2f, p3f, p4f⟩ := fw_1 hfw hf hs (by omega) (by omega)
  have i1 : vp_in (nI f) 300 := vp_in_nI (by omega) (by omega)
  have c1 : (nI f).toNatClampNeg = f := nI_clamp (by omega)
  obtain ⟨b', fu', e1, e2, e3⟩ := mk_2 (k0 := fun _ _ => none) S (fun fu v S => zf_X11_makeStart_2 N z fu (nI f) v S) (fun fu v b hv => by
    show zf_X11_makeStart_2b N z (fun v1 v2 S => zf_X11_makeStart_2 N z fu v1 v2 S) (nI f) (nI v) (mq_sa S 31 b) = _
    unfold zf_X11_makeStart_2b
    rw [if_neg (show ¬ (10 : Int32) ≤ nI v from nI_ge (b := 10) hv (by omega)), mq_ck_of (vp_in_nI hv (by omega)), nI_clamp (by omega), nS_e, nI_e, nI_1, sa_sa]
    rfl) N 0 (S.2.1 31) (by omega) (by omega) (fun i hi => by omega)
  rw [sa_i] at e2
  obtain ⟨b2, g1, g2⟩ := rf_pu31 (N := N) (S := mq_sa S 31 b') (g := p1 on f) (k := fun S5 => mq_nI 2 (fun x6 => zf_X11_makeStart_37 N z N x6 S5)) (by omega)
  obtain ⟨a, f1, f2⟩ := mk_37 (N := N) (z := z) hx hN N 2 b2 hfw.1 (by omega)
  refine ⟨a, ?_, fun g hg => ?_⟩
  · unfold zf_X11_makeStart
    rw [nI_e]
    refine e2.trans ?_
    show zf_X11_makeStart_2b N z (fun v1 v2 S => zf_X11_makeStart_2 N z fu' v1 v2 S) (nI f) (nI 10) (mq_sa S 31 b') = _
    unfold zf_X11_makeStart_2b
    rw [if_pos (by decide), mq_ck_of i1, c1, show (mq_sa S 31 b').2.1 3 f = nI (p1 on f) from (hx.2.1 f hf).2.1.trans p2f]
    refine g1.trans ?_
    rw [nI_e, sa_sa]; exact f1
  · rw [f2 g hg, g2 g hg]
    show (ib b' 0 g || _ || _) = _
    rw [ib_0 e3 hg, Bool.false_or, Bool.or_comm]
    unfold sta
    congr 2
    rw [decide_eq_decide]
    refine ⟨fun q => q.2, fun q => ⟨?_, q⟩⟩
    have h2 : ¬ g < 2 := fun hh => sml hx hh 6 (by omega) (by omega) q.2
    omega
end START
end
/-! 9w.home -/
section
/-! The tableau: the world that has a START already. -/
section HOME
variable {N n F : Nat} {z : Nat → Nat} {so on tw : Nat → Int32} {d : Nat → Nat} {S T SC SR : mq_St} {st W w ec ln wt m f p : Nat} {R : List Nat}
theorem sp_14 {v : Nat} {k5 : Int32 → Option Int32} (hv : v < 60) : ∀ (fu k : Nat), k ≤ 10 → 10 - k + 1 < fu → (∀ j, j < k → T.2.1 18 (10 * v + j) = T.2.1 31 j) →
    ((∀ j, j < 10 → T.2.1 18 (10 * v + j) = T.2.1 31 j) ∧ zf_X11_samePlace_14 N z T k5 fu (nI v) 1 (nI k) = some (nI v)) ∨ ((¬ ∀ j, j < 10 → T.2.1 18 (10 * v + j) = T.2.1 31 j) ∧ zf_X11_samePlace_14 N z T k5 fu (nI v) 1 (nI k) = k5 (T.2.1 20 v))
  | 0, k, _, h, _ => by omega
  | fu + 1, k, hk, hfu, hj => by
    have s1 : ∀ a b, zf_X11_samePlace_14 N z T k5 (fu + 1) (nI v) a b = zf_X11_samePlace_14b N z T k5 (fun v1 v2 v3 => zf_X11_samePlace_14 N z T k5 fu v1 v2 v3) (nI v) a b := fun _ _ => rfl
    by_cases e : k = 10
    · left
      refine ⟨fun j q => hj j (by omega), ?_⟩
      rw [s1]; unfold zf_X11_samePlace_14b zf_X11_samePlace_56
      rw [e, if_pos (by decide), if_neg (by decide)]
    · have e1 : (10 : Int32) * nI v + nI k = nI (10 * v + k) := by rw [show (10 : Int32) = nI 10 from rfl, pk_mul, nI_add]
      have t10 : ¬ (10 : Int32) ≤ nI k := nI_ge (b := 10) (show k < 10 by omega) (by omega)
      by_cases q : T.2.1 18 (10 * v + k) = T.2.1 31 k
      · have go : zf_X11_samePlace_14 N z T k5 (fu + 1) (nI v) 1 (nI k) = zf_X11_samePlace_14 N z T k5 fu (nI v) 1 (nI (k + 1)) := by
          rw [s1]; unfold zf_X11_samePlace_14b zf_X11_samePlace_49
          rw [if_neg t10, if_neg (by decide), e1, mq_ck_of (vp_in_nI (by omega) (by omega)), mq_ck_of (vp_in_nI (by omega) (by omega)), nI_clamp (by omega), nI_clamp (by omega), if_pos q, nI_e, nI_e, nI_1]
        rw [go]
        exact sp_14 hv fu (k + 1) (by omega) (by omega) (fun j hj' => by
          by_cases h : j = k
          · rw [h]; exact q
          · exact hj j (by omega))
      · right
        refine ⟨fun hall => q (hall k (by omega)), ?_⟩
        rw [s1]; unfold zf_X11_samePlace_14b zf_X11_samePlace_49
        rw [if_neg t10, if_neg (by decide), e1, mq_ck_of (vp_in_nI (by omega) (by omega)), mq_ck_of (vp_in_nI (by omega) (by omega)), nI_clamp (by omega), nI_clamp (by omega), if_neg q, nI_e, nI_e, nI_1]
        obtain ⟨fu, rfl⟩ : ∃ q, fu = q + 1 := ⟨fu - 1, by omega⟩
        show zf_X11_samePlace_14b N z T k5 _ (nI v) 0 (nI (k + 1)) = _
        unfold zf_X11_samePlace_14b zf_X11_samePlace_56
        rw [mq_ck_of (vp_in_nI hv (by omega)), nI_clamp (by omega), nI_e]
        by_cases x : (10 : Int32) ≤ nI (k + 1)
        · rw [if_pos x, if_pos rfl]
        · rw [if_neg x, if_pos rfl, if_pos rfl]
theorem ib_row {a b : Nat → Int32} {r r' : Nat} : (∀ j, j < 10 → a (10 * r + j) = b (10 * r' + j)) ↔ ∀ g, g < 320 → ib a r g = ib b r' g := by
  constructor
  · intro h g hg
    unfold ib
    rw [h (g / 32) (by omega)]
  · intro h j hj
    refine b_ext (fun i hi => ?_)
    have := h (32 * j + i) (by omega)
    unfold ib at this
    rw [show (32 * j + i) / 32 = j by omega, show (32 * j + i) % 32 = i by omega] at this
    exact this
theorem home (hN : 100 ≤ N) (h15 : S.1 15 = nI W) (hW : W ≤ 60) (hpC : ∀ v, v < W → S.2.1 16 v = SC.2.1 16 v) (hpR : ∀ v, v < W → T.2.1 20 v = SC.2.1 16 v) (hrow : ∀ v g, v < W → g < 320 → lb (S.2.2 2) v g = ib (T.2.1 18) v g) (hmd : ∀ g, g < 320 → lb (S.2.2 2) W g = ib (T.2.1 31) 0 g) : ∀ (R : List Nat) (v t fu fu' ec wt ln : Nat), stk n so on tw d SC SR (v :: R) ec wt ln → v < W → t + R.length < 60 → R.length + 1 < fu → R.length + 1 < fu' →
    ∃ x, zf_X8_worldOfStart_7 N z S fu (nI v) (nI t) = some x ∧ zf_X11_samePlace_5 N z T fu' (nI v) = some x ∧ (x = -1 ∨ ∃ u, u ∈ v :: R ∧ u < W ∧ x = nI u)
  | R, v, t, fu, fu', ec, wt, ln, hs, hv, ht, hfu, hfu' => by
    obtain ⟨fu, rfl⟩ : ∃ q, fu = q + 1 := ⟨fu - 1, by omega⟩
    obtain ⟨fu', rfl⟩ : ∃ q, fu' = q + 1 := ⟨fu' - 1, by omega⟩
    have s1 : zf_X8_worldOfStart_7 N z S (fu + 1) (nI v) (nI t) = zf_X8_worldOfStart_7b N z S (fun v1 v2 => zf_X8_worldOfStart_7 N z S fu v1 v2) (nI v) (nI t) := rfl
    have s2 : zf_X11_samePlace_5 N z T (fu' + 1) (nI v) = zf_X11_samePlace_5b N z T (fun v1 => zf_X11_samePlace_5 N z T fu' v1) (nI v) := rfl
    have t60 : ¬ (60 : Int32) ≤ nI t := nI_ge (b := 60) (show t < 60 by omega) (by omega)
    have v0 : ¬ nI v < (0 : Int32) := nI_nlt (b := 0) (by omega) (by omega)
    obtain ⟨y, y1, y2⟩ := se_same (N := N) (R := 61) (z := fun k => [305].getD k 0) (S := mq_pull S [] [] [2]) (r := v) (r' := W) (by omega) rfl (by omega) (by omega) (by omega)
    have eqv : (∀ g, g < 320 → lb (S.2.2 2) v g = lb (S.2.2 2) W g) ↔ ∀ j, j < 10 → T.2.1 18 (10 * v + j) = T.2.1 31 j := by
      have := ib_row (a := T.2.1 18) (b := T.2.1 31) (r := v) (r' := 0)
      simp only [Nat.mul_zero, Nat.zero_add] at this
      rw [this]
      exact ⟨fun h g hg => by rw [← hrow v g hv hg, ← hmd g hg]; exact h g hg, fun h g hg => by rw [hrow v g hv hg, hmd g hg]; exact h g hg⟩
    have cC : zf_X8_worldOfStart_7 N z S (fu + 1) (nI v) (nI t) = if y = 0 then zf_X8_worldOfStart_7 N z S fu (SC.2.1 16 v) (nI (t + 1)) else some (nI v) := by
      rw [s1]; unfold zf_X8_worldOfStart_7b
      rw [if_neg t60, if_neg v0, h15]
      refine (cp_go y1).trans ?_
      rw [mq_ck_of (show vp_in (nI v) 60 from vp_in_nI (by omega) (by omega)), nI_clamp (by omega), nI_e, nI_e, nI_1, hpC v hv]
    have cR := sp_14 (N := N) (z := z) (T := T) (k5 := fun v1 => zf_X11_samePlace_5 N z T fu' v1) (show v < 60 by omega) N 0 (by omega) (by omega) (fun j hj => by omega)
    have cR' : zf_X11_samePlace_5 N z T (fu' + 1) (nI v) = zf_X11_samePlace_14 N z T (fun v1 => zf_X11_samePlace_5 N z T fu' v1) N (nI v) 1 (nI 0) := by
      rw [s2]; unfold zf_X11_samePlace_5b
      rw [if_neg (nI_nm (by omega)), nI_e, nI_e]
      rfl
    rcases y2 with ⟨ya, yb⟩ | ⟨ya, yb⟩
    · refine ⟨nI v, by rw [cC, ya, if_neg (by decide)], ?_, Or.inr ⟨v, List.mem_cons_self, hv, rfl⟩⟩
      rw [cR']
      rcases cR with ⟨-, c⟩ | ⟨c, -⟩
      · exact c
      · exact absurd (eqv.mp yb) c
    · have c2 : zf_X11_samePlace_5 N z T (fu' + 1) (nI v) = zf_X11_samePlace_5 N z T fu' (SC.2.1 16 v) := by
        rw [cR']
        rcases cR with ⟨c, -⟩ | ⟨-, c⟩
        · exact absurd (eqv.mpr c) yb
        · rw [c, hpR v hv]
      rw [cC, ya, if_pos rfl, c2]
      obtain ⟨ea, k, b, a1, a2, a3, a4, a5⟩ := hs
      rcases a5 with ⟨b1, b2, b3, b4⟩ | ⟨u, m, l, b', b1, b2, b3, b4, b5, b6, b7, b8⟩
      · refine ⟨-1, ?_, ?_, Or.inl rfl⟩
        · obtain ⟨fu, rfl⟩ : ∃ q, fu = q + 1 := ⟨fu - 1, by omega⟩
          rw [b2]
          show zf_X8_worldOfStart_7b N z S _ (-1) (nI (t + 1)) = _
          unfold zf_X8_worldOfStart_7b
          by_cases x : (60 : Int32) ≤ nI (t + 1)
          · rw [if_pos x]
          · rw [if_neg x, if_pos (by decide)]
        · obtain ⟨fu', rfl⟩ : ∃ q, fu' = q + 1 := ⟨fu' - 1, by omega⟩
          rw [b2]
          show zf_X11_samePlace_5b N z T _ (-1) = _
          unfold zf_X11_samePlace_5b
          rw [if_pos rfl]
      · cases R with
        | nil => cases b1
        | cons u' r =>
          have : u' = u := by simpa using b1
          subst this
          simp only [List.length_cons] at ht hfu hfu'
          obtain ⟨x, x1, x2, x3⟩ := home hN h15 hW hpC hpR hrow hmd r u' (t + 1) fu fu' ea b' l b8 (by omega) (by omega) (by omega) (by omega)
          refine ⟨x, by rw [b2]; exact x1, by rw [b2]; exact x2, x3.imp id (fun ⟨u, u1, u2, u3⟩ => ⟨u, List.mem_cons_of_mem _ u1, u2, u3⟩)⟩
end HOME
end
/-! 9x.begin -/
section
/-! The tableau: a new world. -/
section BEGIN
variable {N n F : Nat} {z : Nat → Nat} {so on tw : Nat → Int32} {d : Nat → Nat} {S T SC SR : mq_St} {st W w ec ln wt m f p : Nat} {R P : List Nat}
/-- a START clashes by F alone -/
theorem cl_sta {X : Nat → Bool} (hfw : fw n so on tw d) (h01 : so 0 = 0 ∧ so 1 = 1) (hX : ∀ g, g < 320 → X g = true → so g = nI 6 ∨ g = p) : clV n so d X (if X 1 = true then 1 else -1) := by
  have h300 := hfw.2.1
  have h2 := hfw.1
  have key : ∀ c, c < n → cls so d X c → c = 1 ∧ X 1 = true := fun c hc q => by
    obtain ⟨f2, f3, f1⟩ := fw_let hfw hc
    rcases q with ⟨q1, q2⟩ | ⟨q1, q2, q3⟩
    · have := f1 q1; subst this; exact ⟨rfl, q2⟩
    · exfalso
      obtain ⟨g1, g2, -, -⟩ := f2 q1
      rcases hX c (by omega) q2 with a | a
      · rw [q1] at a; exact absurd a (by decide)
      · rcases hX (d c) (by omega) q3 with b | b
        · rw [g2] at b; exact absurd b (by decide)
        · rw [b, ← a, q1] at g2; exact absurd g2 (by decide)
  cases e : X 1 with
  | true =>
    refine Or.inr ⟨1, by omega, rfl, Or.inl ⟨h01.2, e⟩, fun c' hc' q => ?_⟩
    have := (key c' (by omega) q).1
    omega
  | false =>
    refine Or.inl ⟨rfl, fun c hc q => ?_⟩
    have := (key c hc q).2
    rw [e] at this; cases this
def bgC (S : mq_St) (W : Nat) (v1 v2 c : Int32) (q3 q4 : Nat → Int64) : mq_St := mq_si (mq_sl (mq_sa (mq_sa (mq_sa (mq_sl (mq_sl (mq_sa (mq_si (mq_si S 16 (nI W)) 15 (nI (W + 1))) 21 (upd (upd (S.2.1 21) 1 (S.2.1 21 1 + 1)) 3 (mq_max (S.2.1 21 3) v2))) 3 q3) 4 q4) 16 (upd (S.2.1 16) W v1)) 17 (upd (S.2.1 17) W v2)) 18 (upd (S.2.1 18) W (S.1 14))) 1 (vp_updL (S.2.2 1) W 0)) 17 c
def bgR (S : mq_St) (W : Nat) (v1 v2 : Int32) (q : Nat → Int32) : mq_St := mq_si (mq_sa (mq_si (mq_sa (mq_sa (mq_si (mq_si S 24 (nI (W + 1))) 20 (S.1 20 + 1)) 20 (upd (S.2.1 20) W v1)) 21 (upd (S.2.1 21) W v2)) 22 (mq_max (S.1 22) v2)) 18 q) 25 (nI W)
def bgK (N : Nat) (z : Nat → Nat) (v1 v2 : Int32) (S8 : mq_St) : Option (Unit × mq_St) := (mq_cl (zf_X6_copy N (fun k => [300, 305].getD k 0) ((S8.1 16)) ((S8.1 16)) (mq_pull S8 [] [] [3, 2])) (fun q9v q9s => mq_nS (mq_push S8 q9s [] [] [3, 2]) (fun S11 => (mq_cl (zf_X6_copy N (fun k => [300, 305].getD k 0) ((S11.1 16)) ((S11.1 16)) (mq_pull S11 [] [] [4, 2])) (fun q12v q12s => mq_nS (mq_push S11 q12s [] [] [4, 2]) (fun S14 => (mq_ck ((S14.1 16)) 60 (mq_nS (mq_sa S14 16 (upd (S14.2.1 16) ((S14.1 16)).toNatClampNeg (v1))) (fun S16 => (mq_ck ((S16.1 16)) 60 (mq_nS (mq_sa S16 17 (upd (S16.2.1 17) ((S16.1 16)).toNatClampNeg (v2))) (fun S18 => (mq_ck ((S18.1 16)) 60 (mq_nS (mq_sa S18 18 (upd (S18.2.1 18) ((S18.1 16)).toNatClampNeg ((S18.1 14)))) (fun S20 => (mq_ck ((S20.1 16)) 60 (mq_nS (mq_sl S20 1 (vp_updL (S20.2.2 1) ((S20.1 16)).toNatClampNeg ((0 : Int64)))) (fun S22 => (mq_cp (zf_X6_has N (fun k => [300].getD k 0) ((S22.1 16)) ((1 : Int32)) (mq_pull S22 [] [] [3])) (fun q23 => (if q23 = (0 : Int32) then (zf_X8_beginWorld_146 N z ((-1 : Int32)) S22) else (zf_X8_beginWorld_146 N z ((1 : Int32)) S22))))))))))))))))))))))
theorem ck_bgw {v1 v2 : Int32} (hN : 10 ≤ N) (hW : W < 60) (h15 : S.1 15 = nI W) : ∃ q3 q4, zf_X8_beginWorld N z v1 v2 S = some ((), bgC S W v1 v2 (if lb q3 W 1 = true then 1 else -1) q3 q4) ∧ (∀ v g, g < 320 → lb q3 v g = if v = W then lb (S.2.2 2) W g else lb (S.2.2 3) v g) ∧ ∀ v g, g < 320 → lb q4 v g = if v = W then lb (S.2.2 2) W g else lb (S.2.2 4) v g := by
  have i1 : vp_in (nI W) 60 := vp_in_nI hW (by omega)
  have c1 : (nI W).toNatClampNeg = W := nI_clamp (by omega)
  have j1 : vp_in (1 : Int32) 4 := vp_in_nI (n := 1) (by omega) (by omega)
  have j3 : vp_in (3 : Int32) 4 := vp_in_nI (n := 3) (by omega) (by omega)
  obtain ⟨q3, a1, a2, a3⟩ := ck_cp (N := N) (S := mq_sa (mq_si (mq_si S 16 (nI W)) 15 (nI (W + 1))) 21 (upd (upd (S.2.1 21) 1 (S.2.1 21 1 + 1)) 3 (mq_max (S.2.1 21 3) v2))) (a := 3) (b := 2) (ra := W) (rb := W) (RA := 60) (RB := 61) (y := fun k => [300, 305].getD k 0) hN (by decide) rfl rfl (by omega) (by omega) hW (by omega)
  obtain ⟨q4, b1, b2, b3⟩ := ck_cp (N := N) (S := mq_sl (mq_sa (mq_si (mq_si S 16 (nI W)) 15 (nI (W + 1))) 21 (upd (upd (S.2.1 21) 1 (S.2.1 21 1 + 1)) 3 (mq_max (S.2.1 21 3) v2))) 3 q3) (a := 4) (b := 2) (ra := W) (rb := W) (RA := 60) (RB := 61) (y := fun k => [300, 305].getD k 0) hN (by decide) rfl rfl (by omega) (by omega) hW (by omega)
  refine ⟨q3, q4, ?_, a3, b3⟩
  have pre : zf_X8_beginWorld N z v1 v2 S = bgK N z v1 v2 (mq_sa (mq_si (mq_si S 16 (nI W)) 15 (nI (W + 1))) 21 (upd (upd (S.2.1 21) 1 (S.2.1 21 1 + 1)) 3 (mq_max (S.2.1 21 3) v2))) := by
    unfold zf_X8_beginWorld
    rw [h15, nS_e, show (mq_si S 16 (nI W)).1 15 = nI W from h15, nI_1, nS_e, mq_ck_of j1, mq_ck_of j1, nS_e, mq_ck_of j3, mq_ck_of j3, nS_e]
    exact congrArg (bgK N z v1 v2) (sa_sa (mq_si (mq_si S 16 (nI W)) 15 (nI (W + 1))) 21 _ _)
  rw [pre]
  unfold bgK
  refine (cl_go a1).trans ?_
  rw [a2, nS_e]
  refine (cl_go b1).trans ?_
  rw [b2, nS_e]
  have y (Q : mq_St) (h : Q.1 16 = nI W) : Q.1 16 = nI W := h
  rw [y _ rfl, mq_ck_of i1, c1, nS_e, y _ rfl, mq_ck_of i1, c1, nS_e, y _ rfl, mq_ck_of i1, c1, nS_e, y _ rfl, mq_ck_of i1, c1, nS_e]
  have hh := ck_set (N := N) (f := 1) (S := mq_sl (mq_sa (mq_sa (mq_sa (mq_sl (mq_sl (mq_sa (mq_si (mq_si S 16 (nI W)) 15 (nI (W + 1))) 21 (upd (upd (S.2.1 21) 1 (S.2.1 21 1 + 1)) 3 (mq_max (S.2.1 21 3) v2))) 3 q3) 4 q4) 16 (upd (S.2.1 16) W v1)) 17 (upd (S.2.1 17) W v2)) 18 (upd (S.2.1 18) W (S.1 14))) 1 (vp_updL (S.2.2 1) W 0)) hW rfl (by omega)
  refine (cp_go hh).trans ?_
  show (if (if lb q3 W 1 = true then (1 : Int32) else 0) = 0 then _ else _) = some ((), bgC S W v1 v2 (if lb q3 W 1 = true then 1 else -1) q3 q4)
  cases e : lb q3 W 1 with
  | true => rfl
  | false => rfl
theorem rf_bgw {v1 v2 : Int32} (hN : 20 ≤ N) (hW : W < 60) (h24 : S.1 24 = nI W) (hv : (v1 = -1 ∧ v2 = 1) ∨ ∃ u, u < W ∧ v1 = nI u ∧ v2 = S.2.1 21 u + 1) : ∃ q, zf_X11_begins N z v1 S = some ((), bgR S W v1 v2 q) ∧ ∀ v g, g < 320 → ib q v g = if v = W then ib (S.2.1 17) 0 g else ib (S.2.1 18) v g := by
  have i1 : vp_in (nI W) 60 := vp_in_nI hW (by omega)
  have c1 : (nI W).toNatClampNeg = W := nI_clamp (by omega)
  have e10 : (10 : Int32) * nI W = nI (10 * W) := pk_mul 10 W
  obtain ⟨q, a1, a2, a3⟩ := rf_cp (N := N) (S := mq_si (mq_sa (mq_sa (mq_si (mq_si S 24 (nI (W + 1))) 20 (S.1 20 + 1)) 20 (upd (S.2.1 20) W v1)) 21 (upd (S.2.1 21) W v2)) 22 (mq_max (S.1 22) v2)) (a := 17) (b := 18) (ra := 0) (rb := W) (R := 1) (R' := 60) (y := fun k => [10, 600].getD k 0) hN (by decide) rfl rfl (by omega) (by omega) (by omega) hW
  refine ⟨q, ?_, a3⟩
  have fin : zf_X11_begins_82 N z (nI W) (mq_max (S.1 22) v2) (mq_sa (mq_sa (mq_si (mq_si S 24 (nI (W + 1))) 20 (S.1 20 + 1)) 20 (upd (S.2.1 20) W v1)) 21 (upd (S.2.1 21) W v2)) = some ((), bgR S W v1 v2 q) := by
    unfold zf_X11_begins_82
    rw [nS_e, e10]
    refine (cl_go a1).trans ?_
    rw [a2, nS_e, nS_e]
    rfl
  have mid : zf_X11_begins_54 N z (nI W) (nI W) v2 (mq_sa (mq_si (mq_si S 24 (nI (W + 1))) 20 (S.1 20 + 1)) 20 (upd (S.2.1 20) W v1)) = some ((), bgR S W v1 v2 q) := by
    unfold zf_X11_begins_54
    rw [mq_ck_of i1, c1, nS_e, mq_ck_of i1, mq_ck_of i1]
    have y1 : (mq_sa (mq_sa (mq_si (mq_si S 24 (nI (W + 1))) 20 (S.1 20 + 1)) 20 (upd (S.2.1 20) W v1)) 21 (upd ((mq_sa (mq_si (mq_si S 24 (nI (W + 1))) 20 (S.1 20 + 1)) 20 (upd (S.2.1 20) W v1)).2.1 21) W v2)).2.1 21 W = v2 := up_s _ _ _
    rw [y1]
    by_cases e : v2 ≤ S.1 22
    · refine (if_pos e).trans ?_
      have : mq_max (S.1 22) v2 = S.1 22 := if_neg (fun q => absurd e (Int32.not_le.mpr q))
      rw [this] at fin
      exact fin
    · refine (if_neg e).trans ?_
      have : mq_max (S.1 22) v2 = v2 := if_pos (Int32.not_le.mp e)
      rw [this] at fin
      exact fin
  unfold zf_X11_begins
  rw [h24, nI_e, nI_1, nS_e, nS_e, mq_ck_of i1, c1, nS_e]
  rcases hv with ⟨hv1, hv2⟩ | ⟨u, hu, hv1, hv2⟩
  · subst hv2
    rw [if_pos hv1]
    exact mid
  · rw [if_neg (by rw [hv1]; exact nI_nm (by omega)), mq_ck_of (by rw [hv1]; exact vp_in_nI (by omega) (by omega))]
    have y2 : (mq_sa (mq_si (mq_si S 24 (nI (W + 1))) 20 ((mq_si S 24 (nI (W + 1))).1 20 + 1)) 20 (upd ((mq_si (mq_si S 24 (nI (W + 1))) 20 ((mq_si S 24 (nI (W + 1))).1 20 + 1)).2.1 20) W v1)).2.1 21 v1.toNatClampNeg + 1 = v2 := by
      rw [hv2]
      have : v1.toNatClampNeg = u := by rw [hv1]; exact nI_clamp (by omega)
      rw [this]
      rfl
    rw [y2]
    exact mid
/-- down() may begin with the new world -/
theorem Dn_bg {v1 v2 : Int32} {q3 q4 : Nat → Int64} {q : Nat → Int32} (hfw : fw n so on tw d) (h01 : so 0 = 0 ∧ so 1 = 1) (hb : st ≤ F ∧ F ≤ 100000 ∧ W < 60 ∧ ec ≤ 400 ∧ ln ≤ 1299)
    (n1 : S.1 18 = nI F) (n2 : S.2.1 21 0 = nI st) (n5 : S.1 14 = nI ec) (n6 : S.1 20 = nI ln) (n7 : S.1 19 = 2) (m1 : T.1 18 = nI F) (m2 : T.1 19 = nI st) (m5 : T.1 28 = nI ec) (m6 : T.1 26 = nI ln) (m7 : T.1 23 = 0) (m8 : T.1 27 = nI wt)
    (kk : cnt S T) (q5 : lins S T ln) (q6 : wld S T W) (hrow : ∀ g, g < 320 → ib (T.2.1 17) 0 g = lb (S.2.2 2) W g) (hX : ∀ g, g < 320 → lb (S.2.2 2) W g = true → g < n ∧ (so g = nI 6 ∨ g = p)) (hled : ∀ v, v < W → led S T v) (hwst : ∀ v, v < W → v ∉ P → wst S T v)
    (a3 : ∀ v g, g < 320 → lb q3 v g = if v = W then lb (S.2.2 2) W g else lb (S.2.2 3) v g) (a4 : ∀ v g, g < 320 → lb q4 v g = if v = W then lb (S.2.2 2) W g else lb (S.2.2 4) v g) (aq : ∀ v g, g < 320 → ib q v g = if v = W then ib (T.2.1 17) 0 g else ib (T.2.1 18) v g)
    (hstk : stk n so on tw d (bgC S W v1 v2 (if lb q3 W 1 = true then 1 else -1) q3 q4) (bgR T W v1 v2 q) (W :: P) ec wt ln) :
    Dn n so on tw d F (bgC S W v1 v2 (if lb q3 W 1 = true then 1 else -1) q3 q4) (bgR T W v1 v2 q) st W ec ln wt P := by
  obtain ⟨k1, k2, k3⟩ := kk
  obtain ⟨b1, b2, b3, b4, b5⟩ := hb
  have x3 : ∀ g, g < 320 → lb q3 W g = lb (S.2.2 2) W g := fun g hg => by rw [a3 W g hg, if_pos rfl]
  have x4 : ∀ g, g < 320 → lb q4 W g = lb (S.2.2 2) W g := fun g hg => by rw [a4 W g hg, if_pos rfl]
  refine ⟨⟨b1, b2, by omega, by omega, b4, b5⟩, ⟨n1, n2, rfl, rfl, n5, n6, n7⟩, ⟨m1, m2, rfl, rfl, m5, m6, m7, m8⟩, ⟨congrArg (· + 1) k1, k2, congrArg (fun x => mq_max x v2) k3⟩, q5, fun v hv => ?_, hstk, fun g hg => ?_, fun g hg a => (hX g hg ((x3 g hg).symm.trans a)).1, cl_sta (p := p) hfw h01 (fun g hg a => (hX g hg ((x3 g hg).symm.trans a)).2), ⟨fun g hg a => ?_, fun s g _ _ hg a => ?_⟩, ?_, fun v hv u hu => ?_, fun v hv hP g hg => ?_⟩
  · by_cases e : v = W
    · subst e
      refine ⟨(up_s _ _ _).trans (up_s _ _ _).symm, (up_s _ _ _).trans (up_s _ _ _).symm, fun g hg => ?_⟩
      show _ = ib q v g
      rw [aq v g hg, if_pos rfl, hrow g hg]
      rfl
    · obtain ⟨c1, c2, c3⟩ := q6 v (by omega)
      refine ⟨(up_o e).trans (c1.trans (up_o e).symm), (up_o e).trans (c2.trans (up_o e).symm), fun g hg => ?_⟩
      show _ = ib q v g
      rw [aq v g hg, if_neg e]
      exact c3 g hg
  · show ib (T.2.1 17) 0 g = lb q3 W g
    rw [x3 g hg]; exact hrow g hg
  · show lb q3 W g = true
    rw [x3 g hg]
    exact (x4 g hg).symm.trans a
  · show lb q4 W g = true
    have := hfw.2.1
    rw [x4 g (by omega)]
    exact (x3 g (by omega)).symm.trans a.2.1
  · show vp_updL (S.2.2 1) W 0 W = 0
    unfold vp_updL
    rw [if_pos rfl]
  · show _ = if (vp_updL (S.2.2 1) W 0 v).toBitVec.getLsbD u = true then 1 else 0
    have : vp_updL (S.2.2 1) W 0 v = S.2.2 1 v := by unfold vp_updL; rw [if_neg (by omega)]
    rw [this]
    exact hled v hv u hu
  · show _ = lb q3 v g
    rw [a3 v g hg, if_neg (by omega)]
    exact hwst v hv hP g hg
end BEGIN
end
/-! 9y.open -/
section
/-! The tableau: a turn at a SET with nothing to do but MAYS; the SET is open. -/
section OPEN
variable {N n F : Nat} {z : Nat → Nat} {so on tw : Nat → Int32} {d : Nat → Nat} {S T SC SR : mq_St} {st W w ec ln wt m f p : Nat} {R P : List Nat}
theorem stk_lt : ∀ (R : List Nat) (v ec wt ln : Nat), stk n so on tw d SC SR (v :: R) ec wt ln → ∀ x, x ∈ R → x < v
  | R, v, ec, wt, ln, q, x, hx => by
    obtain ⟨ea, k, b, -, a2, a3, -, a5⟩ := q
    rcases a5 with ⟨b1, -, b3, b4⟩ | ⟨u, m, l, b', b1, -, b3, b4, -, -, -, b8⟩
    · rw [b1] at hx; cases hx
    · cases R with
      | nil => cases b1
      | cons u' r =>
        have : u' = u := by simpa using b1
        subst this
        rcases List.mem_cons.mp hx with h | h
        · omega
        · have := stk_lt r u' ea b' l b8 x h
          omega
theorem Mn_lf {s : Nat} {l2 : Nat → Int64} (hfw : fw n so on tw d) (h7 : s ≤ 7) (hl : lfk on tw so n s w (lb (SC.2.2 3) w) (SC.2.2 4) l2) (q : Mn n so on tw d F SC SR st W w ec ln wt m R) : Mn n so on tw d F (mq_sl SC 4 l2) SR st W w ec ln wt m R := by
  have h300 := hfw.2.1
  obtain ⟨q1, q2, q3, q4, q5, q6, q7, ⟨a1, a2, a2', a3, a4, a5, b1, b2, b3, b4, b5⟩, q9, q10, q11, q12⟩ := q
  refine ⟨q1, q2, q3, q4, q5, q6, stk_c (SC := SC) hfw R w ec wt ln ln (Nat.le_refl _) ⟨fun p _ => ⟨rfl, rfl⟩, fun p hp => ⟨rfl, fun f hf => ⟨rfl, hl.1 p f (by omega) hf⟩⟩, fun j _ => ⟨rfl, fun _ _ => rfl⟩⟩ kpR_rf q7, ⟨a1, a2, a2', a3, a4, a5, b1, b2, b3, fun f hf a => b4 f hf (hl.2.1 f hf a), fun f hf a => ?_⟩, q9, q10, q11, q12⟩
  refine ⟨fun c => (b5 f hf a).mp (hl.2.1 f (by omega) c), fun c => ?_⟩
  have y := (b5 f hf a).mpr c
  show lb l2 w f = true
  cases e : lb l2 w f with
  | true => rfl
  | false =>
    obtain ⟨e1, e2, e3⟩ := hl.2.2 f (by omega) y e
    have : 7 = s := sp_inj (a.1.symm.trans e2) (by omega) (by omega)
    rw [← this] at e3
    exact absurd e3 a.2.2
theorem M_least {s : Nat} (hN : 100 ≤ N) (hc : cxC SC n so on tw d) (q : Mn n so on tw d F SC SR st W w ec ln wt m R) (h4 : 4 ≤ s) (h7 : s ≤ 7) : ∃ l2 v, Mn n so on tw d F (mq_sl SC 4 l2) SR st W w ec ln wt m R ∧ zf_X8_leastToDo N z (nI s) SC = some (v, mq_sl SC 4 l2) ∧ (s ≤ 6 → v = -1) ∧ (s = 7 → lst n (fun f => m ≤ f ∧ td so on tw 7 (lb (SC.2.2 3) w) f) v) := by
  have hfw := hc.2.2.2
  obtain ⟨⟨-, -, o3, o4, -, -⟩, nn, -, -, -, -, -, ⟨-, -, -, -, -, -, b1, b2, b3, b4, b5⟩, -, -, -, -⟩ := id q
  obtain ⟨l2, v, a1, a2, a3⟩ := ck_lst (z := z) (s := s) (w := w) hN hc (by omega) nn.2.2.2.1 h4 h7 b4
  refine ⟨l2, v, Mn_lf hfw h7 a1 q, a2, fun h6 => ?_, fun e => ?_⟩
  · rcases a3 with ⟨e, -⟩ | ⟨f, f1, -, f3, -⟩
    · exact e
    · exact absurd f3.1 (b3 s f h4 h6 f1)
  · subst e
    exact lst_s a3 (fun f hf => ⟨fun q => ⟨(b5 f hf q.1).mp q.2, q.1⟩, fun q => ⟨q.2, (b5 f hf q.2).mpr q.1⟩⟩)
theorem M_look {x : Int32} (hN : 100 ≤ N) (hc : cxC SC n so on tw d) (q : Mn n so on tw d F SC SR st W w ec ln wt m R) (hx : lst n (fun f => m ≤ f ∧ td so on tw 7 (lb (SC.2.2 3) w) f) x) :
    ∃ S4, Mn n so on tw d F S4 SR st W w ec ln wt m R ∧ S4.2.2 3 = SC.2.2 3 ∧ ag [] [] [4] SC S4 ∧ zf_X8_goOn N z SC = if x = -1 then mq_cl (zf_X8_openWorld N z S4) (fun _ S19 => some ((), S19)) else mq_cl (zf_X8_lookAtMay N z x S4) (fun _ S22 => some ((), S22)) := by
  obtain ⟨a, va, a1, a2, a3, -⟩ := M_least (z := z) (s := 4) hN hc q (by omega) (by omega)
  obtain ⟨b, vb, b1, b2, b3, -⟩ := M_least (SC := mq_sl SC 4 a) (z := z) (s := 6) hN (cxC_c hc rfl rfl rfl rfl rfl rfl) a1 (by omega) (by omega)
  obtain ⟨c, vc, c1, c2, c3, -⟩ := M_least (SC := mq_sl (mq_sl SC 4 a) 4 b) (z := z) (s := 5) hN (cxC_c hc rfl rfl rfl rfl rfl rfl) b1 (by omega) (by omega)
  obtain ⟨e, ve, e1, e2, -, e3⟩ := M_least (SC := mq_sl (mq_sl (mq_sl SC 4 a) 4 b) 4 c) (z := z) (s := 7) hN (cxC_c hc rfl rfl rfl rfl rfl rfl) c1 (by omega) (by omega)
  have ex : ve = x := lst_u (e3 rfl) hx
  rw [a3 (by omega)] at a2
  rw [b3 (by omega)] at b2
  rw [c3 (by omega)] at c2
  rw [ex] at e2
  refine ⟨_, e1, rfl, ag_tr (ag_tr (ag_tr (ag_sl (by decide)) (ag_sl (by decide))) (ag_sl (by decide))) (ag_sl (by decide)), ?_⟩
  unfold zf_X8_goOn
  rw [if_pos q.2.2.2.2.2.2.2.2.2.1]
  refine (cl_go a2).trans ?_
  rw [nI_e, if_pos rfl]
  refine (cl_go b2).trans ?_
  rw [nI_e, if_pos rfl]
  refine (cl_go c2).trans ?_
  rw [nI_e, if_pos rfl]
  refine (cl_go e2).trans ?_
  rw [nI_e]
theorem op_31 {b : Nat} (hb : b < 470) (hend : b = 0 ∨ ∃ b', b = b' + 1 ∧ S.2.1 25 b' = 0) (h25 : ∀ i, b ≤ i → i < 470 → i < b + m → S.2.1 25 i = 1) : ∀ (k fu : Nat) (S' : mq_St), S'.2 = S.2 → k ≤ m → b + k < 470 → k < fu → S'.1 27 = nI (b + k) → S'.1 28 = nI (ec + k) → ec + k ≤ 400 →
    ∃ S2, zf_X11_opened_31 N z fu (nI w) S' = zf_X11_opened_75 N z (nI w) S2 ∧ S2.1 27 = nI b ∧ S2.1 28 = nI ec ∧ ag [27, 28] [] [] S' S2
  | 0, fu, S', hS, _, _, hfu, h27, h28, _ => by
    obtain ⟨fu, rfl⟩ : ∃ q, fu = q + 1 := ⟨fu - 1, by omega⟩
    refine ⟨S', ?_, h27, h28, ag_rf⟩
    show zf_X11_opened_31b N z _ (nI w) S' = _
    unfold zf_X11_opened_31b
    rw [h27]
    rcases hend with rfl | ⟨b', rfl, e⟩
    · rw [if_pos (by decide)]
    · have e1 : nI (b' + 1 + 0) - 1 = nI b' := by rw [show (1 : Int32) = nI 1 from rfl, pk_sub (by omega)]; rfl
      rw [if_neg (show ¬ nI (b' + 1 + 0) ≤ (0 : Int32) from nI_ge (show 0 < b' + 1 + 0 by omega) (by omega)), e1, mq_ck_of (vp_in_nI (by omega) (by omega)), nI_clamp (by omega), show S'.2.1 25 b' = 0 by rw [hS]; exact e, if_pos rfl]
  | k + 1, fu, S', hS, hk, hbk, hfu, h27, h28, hec => by
    obtain ⟨fu, rfl⟩ : ∃ q, fu = q + 1 := ⟨fu - 1, by omega⟩
    have e1 : nI (b + (k + 1)) - 1 = nI (b + k) := by rw [show (1 : Int32) = nI 1 from rfl, pk_sub (by omega)]; rfl
    have e2 : nI (ec + (k + 1)) - 1 = nI (ec + k) := by rw [show (1 : Int32) = nI 1 from rfl, pk_sub (by omega)]; rfl
    obtain ⟨S2, g1, g2, g3, g4⟩ := op_31 hb hend h25 k fu (mq_si (mq_si S' 27 (nI (b + k))) 28 (nI (ec + k))) hS (by omega) (by omega) (by omega) rfl rfl (by omega)
    refine ⟨S2, ?_, g2, g3, ag_tr (ag_tr (ag_si (by decide)) (ag_si (by decide))) g4⟩
    show zf_X11_opened_31b N z (fun v1 S => zf_X11_opened_31 N z fu v1 S) (nI w) S' = _
    unfold zf_X11_opened_31b
    rw [h27, if_neg (show ¬ nI (b + (k + 1)) ≤ (0 : Int32) from nI_ge (show 0 < b + (k + 1) by omega) (by omega)), e1, mq_ck_of (vp_in_nI (by omega) (by omega)), nI_clamp (by omega), show S'.2.1 25 (b + k) = 1 by rw [hS]; exact h25 (b + k) (by omega) (by omega) (by omega), if_neg (by decide), nS_e, show (mq_si S' 27 (nI (b + k))).1 28 = nI (ec + (k + 1)) from h28, e2, nS_e]
    exact g1
theorem pu_3 {v : Int32} (h : S.1 20 = nI ln) (hv : v = nI p) (hp : p ≤ ln) (hl : ln ≤ 1299) : ∃ X, zf_X3_shorten N z v (mq_pull S [20] [22] []) = some ((), X) ∧ mq_push S X [20] [22] [] = mq_si S 20 (nI p) := by
  subst hv
  unfold zf_X3_shorten
  rw [if_neg (show ¬ nI p < (0 : Int32) from nI_nlt (b := 0) (by omega) (by omega)), show (mq_pull S [20] [22] []).1 0 = nI ln from h]
  by_cases e : ln ≤ p
  · have : ln = p := by omega
    subst this
    rw [if_pos (nI_le (Nat.le_refl _) (by omega))]
    refine ⟨_, rfl, ?_⟩
    rw [pu_0, si_id h]
  · rw [if_neg (nI_ge (show p < ln by omega) (by omega)), nS_e]
    refine ⟨_, rfl, ?_⟩
    rw [pu_2]
/-- the reference behind opened() of a world that has a parent -/
theorem M_open {fu fu2 : Nat} (hN : 500 ≤ N) (hc : cxC SC n so on tw d) (hx : cxR SR n so on tw d) (q : Mn n so on tw d F SC SR st W w ec ln wt m R) :
    (R = [] ∧ ∃ SC' SR', zf_X8_openWorld N z SC = some ((), SC') ∧ SC'.1 19 = 0 ∧ ag [14, 19] [] [] SC SC' ∧ mq_cl (zf_X11_mays_54 N z (fu + 1) (nI wt) (-1) SR) (kM N z (fu2 + 1)) = some (0, SR') ∧ ag [27, 28] [19] [] SR SR' ∧ ∀ v, v < W → wst SC SR' v) ∨
    ∃ u r ea l b m' SC' SR' x, R = u :: r ∧ zf_X8_openWorld N z SC = some ((), SC') ∧ mq_cl (zf_X11_mays_54 N z (fu + 1) (nI wt) (-1) SR) (kM N z (fu2 + 1)) = mq_cl (zf_X11_mays_54 N z N (nI b) x SR') (kM N z fu2) ∧ lst n (fun f => m' ≤ f ∧ td so on tw 7 (lb (SC'.2.2 3) u) f) x ∧ Mn n so on tw d F SC' SR' st W u ea l b m' r ∧ frC SC SC' ∧ frR SR SR' := by
  have hfw := hc.2.2.2
  have h300 := hfw.2.1
  obtain ⟨⟨o1, o2, o3, o4, o5, o6⟩, ⟨n1, n2, n3, n4, n5, n6, n7⟩, ⟨m1, m2, m3, m4, m5, m6, m7, m8⟩, ⟨k1, k2, k3⟩, q5, q6, q7, q8, q9, q10, q11, q12⟩ := id q
  have hlen := stk_len R w ec wt ln q7
  obtain ⟨ea, k, b, s1, s2, s3, s4, s5⟩ := id q7
  have i1 : vp_in (nI w) 60 := vp_in_nI (by omega) (by omega)
  have c1 : (nI w).toNatClampNeg = w := nI_clamp (by omega)
  have e1 : nI (wt + 1) - 1 = nI wt := by rw [show (1 : Int32) = nI 1 from rfl, pk_sub (by omega)]; rfl
  have e10 : (10 : Int32) * nI w = nI (10 * w) := pk_mul 10 w
  obtain ⟨y, y1, y2, y3⟩ := rf_cp (N := N) (S := mq_si SR 27 (nI wt)) (a := 17) (b := 19) (ra := 0) (rb := w) (R := 1) (R' := 60) (y := fun k => [10, 600].getD k 0) (by omega) (by decide) rfl rfl (by omega) (by omega) (by omega) (by omega)
  have hend : b = 0 ∨ ∃ b', b = b' + 1 ∧ (mq_sa (mq_si SR 27 (nI wt)) 19 y).2.1 25 b' = 0 := by
    rcases s5 with ⟨-, -, -, e⟩ | ⟨u, m, l, b', -, -, -, e, e', -⟩
    · exact Or.inl e
    · exact Or.inr ⟨b', e, e'.1⟩
  obtain ⟨S2, g1, g2, g3, g4⟩ := op_31 (N := N) (z := z) (w := w) (S := mq_sa (mq_si SR 27 (nI wt)) 19 y) (m := k) (b := b) (ec := ea) (by omega) hend (fun i h1 _ h2 => by
    have := (s4 (i - b) (by omega)).1
    rw [show b + (i - b) = i by omega] at this
    exact this) k N (mq_sa (mq_si SR 27 (nI wt)) 19 y) rfl (by omega) (by omega) (by omega) (by rw [← s3]; rfl) (by rw [s2]; exact m5) (by omega)
  have pre : zf_X11_mays_54 N z (fu + 1) (nI wt) (-1) SR = some (0, SR) := by
    show zf_X11_mays_54b N z _ (nI wt) (-1) SR = _
    unfold zf_X11_mays_54b
    rw [if_pos rfl, mq_cz_0]
  have opd : zf_X11_opened N z SR = zf_X11_opened_75 N z (nI w) S2 := by
    unfold zf_X11_opened
    rw [m8, e1, nS_e, show (mq_si SR 27 (nI wt)).1 25 = nI w from m4, nI_e, e10]
    refine (cl_go y1).trans ?_
    rw [y2, nS_e]
    exact g1
  have kMe : mq_cl (zf_X11_mays_54 N z (fu + 1) (nI wt) (-1) SR) (kM N z (fu2 + 1)) = mq_cl (zf_X11_opened_75 N z (nI w) S2) (fun q39v S41 => (if q39v = (0 : Int32) then (some ((0 : Int32), S41)) else (zf_X11_tableau_82 N z (fu2 + 1) 0 S41))) := by
    refine (cl_go pre).trans ?_
    unfold kM
    rw [nI_e, if_pos m7, if_pos rfl, opd]
  have agS : ag [27, 28] [19] [] SR S2 := ag_tr (ag_tr (ag_si (by decide)) (ag_sa (by decide))) (ag_mono g4 (fun _ h => h) (fun _ h => absurd h (by simp)) (fun _ h => h))
  have S2a : ∀ j, S2.2.1 j = (mq_sa (mq_si SR 27 (nI wt)) 19 y).2.1 j := fun j => g4.2.1 j (by simp)
  have S2w : ∀ v, v < W → v ∉ R → wst SC S2 v := fun v hv hR g hg => by
    rw [S2a 19]
    show ib y v g = _
    rw [y3 v g hg]
    by_cases e : v = w
    · rw [if_pos e, e]; exact q9 g hg
    · rw [if_neg e]; exact q12 v hv e hR g hg
  rcases s5 with ⟨b1, b2, b3, b4⟩ | ⟨u, m', l, b', b1, b2, b3, b4, b5, b6, b7, b8⟩
  · left
    refine ⟨b1, mq_si (mq_si SC 14 (nI ea)) 19 0, S2, ?_, rfl, ag_tr (ag_si (by decide)) (ag_si (by decide)), ?_, agS, fun v hv => S2w v hv (by rw [b1]; simp)⟩
    · unfold zf_X8_openWorld
      rw [n4, mq_ck_of i1, c1, s1, nS_e, show (mq_si SC 14 (nI ea)).1 16 = nI w from n4, mq_ck_of i1, c1, show (mq_si SC 14 (nI ea)).2.1 16 w = -1 from b2, nI_e, if_pos rfl, nS_e]
    · rw [kMe]
      have : zf_X11_opened_75 N z (nI w) S2 = some (0, S2) := by
        unfold zf_X11_opened_75
        rw [g2, b4, if_pos (by decide), mq_cz_0]
      refine (cl_go this).trans ?_
      rw [if_pos rfl]
  · right
    cases R with
    | nil => cases b1
    | cons u' r =>
      have : u' = u := by simpa using b1
      subst this
      have i2 : vp_in (nI u') 60 := vp_in_nI (by omega) (by omega)
      have c2 : (nI u').toNatClampNeg = u' := nI_clamp (by omega)
      have hl : SC.2.1 19 u' = nI l := b7
      obtain ⟨X, x1, x2⟩ := pu_3 (N := N) (z := z) (S := mq_si SC 14 (nI ea)) (ln := ln) (p := l) (v := SC.2.1 19 u') n6 hl b6 o6
      have cC : zf_X8_openWorld N z SC = some ((), mq_si (mq_sl (mq_si (mq_si SC 14 (nI ea)) 20 (nI l)) 1 (vp_updL (SC.2.2 1) u' (SC.2.2 1 u' ||| mq_lshl 1 (nI w)))) 16 (nI u')) := by
        unfold zf_X8_openWorld
        rw [n4, mq_ck_of i1, c1, s1, nS_e, show (mq_si SC 14 (nI ea)).1 16 = nI w from n4, mq_ck_of i1, c1, show (mq_si SC 14 (nI ea)).2.1 16 w = nI u' from b2, nI_e, if_neg (nI_nm (by omega)), mq_ck_of i2, c2]
        refine (cl_go x1).trans ?_
        rw [x2, nS_e, mq_ck_of i2, mq_ck_of i2, show (mq_si (mq_si SC 14 (nI ea)) 20 (nI l)).1 16 = nI w from n4, nS_e, nS_e]
        rfl
      have e60 : (60 : Int32) * nI u' + nI w = nI (60 * u' + w) := by rw [show (60 : Int32) = nI 60 from rfl, pk_mul, nI_add]
      have eb : nI b - 1 = nI b' := by rw [b4, show (1 : Int32) = nI 1 from rfl, pk_sub (by omega)]; rfl
      have r75 : zf_X11_opened_75 N z (nI w) S2 = some (1, mq_sa S2 22 (upd (S2.2.1 22) (60 * u' + w) 1)) := by
        unfold zf_X11_opened_75
        rw [g2, if_neg (fun q => by have := (nI_eq (b := 0) (a := b) (by omega) (by omega)).mp q; omega), eb, mq_ck_of (vp_in_nI (by omega) (by omega)), nI_clamp (by omega), show S2.2.1 27 b' = nI u' by rw [S2a 27]; exact b5.2.2.2.1, e60, mq_ck_of (vp_in_nI (by omega) (by omega)), nI_clamp (by omega), nS_e, mq_cz_1]
        rfl
      have hmS : may n so on tw d (mq_si (mq_sl (mq_si (mq_si SC 14 (nI ea)) 20 (nI l)) 1 (vp_updL (SC.2.2 1) u' (SC.2.2 1 u' ||| mq_lshl 1 (nI w)))) 16 (nI u')) (mq_sa S2 22 (upd (S2.2.1 22) (60 * u' + w) 1)) u' m' l b' := may_c (SC := SC) (SR := SR) hfw b5 (fun _ _ => rfl) (fun _ _ => rfl) (congrFun (S2a 25) b') (congrFun (S2a 26) b') (congrFun (S2a 27) b') (congrFun (S2a 29) b') (fun f hf => by
        show ib (S2.2.1 30) b' f = _
        rw [S2a 30]; rfl)
      have hxS : cxR (mq_sa S2 22 (upd (S2.2.1 22) (60 * u' + w) 1)) n so on tw d := cxR_c hx (agS.1 3 (by decide)) (agS.2.1 2 (by decide)) (agS.2.1 3 (by decide)) (agS.2.1 4 (by decide))
      obtain ⟨q', x, p1, p2, p3⟩ := ms_pre (N := N) (z := z) (by omega) hxS (show S2.1 27 = nI (b' + 1) by rw [g2, b4]) (by omega) hmS
      refine ⟨u', r, ea, l, b', m', _, mq_si (mq_sa (mq_si (mq_sa S2 22 (upd (S2.2.1 22) (60 * u' + w) 1)) 25 (nI u')) 17 q') 26 (nI l), x, rfl, cC, ?_, p3, ?_, ?_, ?_⟩
      · rw [kMe]
        refine (cl_go r75).trans ?_
        rw [if_neg (by decide), t82_M, p1]
      · refine ⟨⟨o1, o2, by omega, o4, by omega, by omega⟩, ⟨n1, n2, n3, rfl, rfl, rfl, n7⟩, ⟨(agS.1 18 (by decide)).trans m1, (agS.1 19 (by decide)).trans m2, (agS.1 24 (by decide)).trans m3, rfl, g3, rfl, (agS.1 23 (by decide)).trans m7, by rw [← b4]; exact g2⟩, ⟨k1.trans (agS.1 20 (by decide)).symm, k2.trans (agS.1 21 (by decide)).symm, k3.trans (agS.1 22 (by decide)).symm⟩, fun i hi => ?_, fun v hv => ?_, ?_, hmS, p2, q10, fun v hv a ha => ?_, fun v hv hv' hR g hg => ?_⟩
        · obtain ⟨r1, r2, r3, r4, r5, r6, r7⟩ := q5 i (by omega)
          exact ⟨r1, r2, r3, r4, r5, (congrFun (S2a 23) i).trans r6, (congrFun (S2a 24) i).trans r7⟩
        · obtain ⟨w1, w2, w3⟩ := q6 v hv
          refine ⟨w1.trans (congrFun (S2a 20) v).symm, w2.trans (congrFun (S2a 21) v).symm, fun g hg => ?_⟩
          show _ = ib (S2.2.1 18) v g
          rw [S2a 18]; exact w3 g hg
        · refine stk_c (SC := SC) (SR := SR) hfw r u' ea b' l l (Nat.le_refl _) ⟨fun _ _ => ⟨rfl, rfl⟩, fun _ _ => ⟨rfl, fun _ _ => ⟨rfl, rfl⟩⟩, fun _ _ => ⟨rfl, fun _ _ => rfl⟩⟩ (fun e _ => ⟨congrFun (S2a 25) e, congrFun (S2a 26) e, congrFun (S2a 27) e, congrFun (S2a 28) e, congrFun (S2a 29) e, fun g hg => ?_⟩) b8
          show ib (S2.2.1 30) e g = _
          rw [S2a 30]; rfl
        · show upd (S2.2.1 22) (60 * u' + w) 1 (60 * v + a) = if (vp_updL (SC.2.2 1) u' (SC.2.2 1 u' ||| mq_lshl 1 (nI w)) v).toBitVec.getLsbD a = true then 1 else 0
          have old := q11 v hv a ha
          unfold vp_updL
          by_cases e : v = u'
          · rw [if_pos e, Int64.toBitVec_or, BitVec.getLsbD_or, l_one w (by omega) a (by omega)]
            by_cases e' : a = w
            · rw [e, e', up_s, decide_eq_true rfl, Bool.or_true, if_pos rfl]
            · rw [up_o (by omega), decide_eq_false e', Bool.or_false, S2a 22, ← e]
              exact old
          · rw [if_neg e, up_o (by omega), S2a 22]
            exact old
        · show ib (S2.2.1 19) v g = _
          by_cases e : v = w
          · exact S2w v hv (fun h => by
              have := stk_lt _ _ _ _ _ q7 v h
              omega) g hg
          · exact S2w v hv (fun h => by
              rcases List.mem_cons.mp h with h | h
              · exact hv' h
              · exact hR h) g hg
      · exact ag_tr (ag_tr (ag_tr (ag_si (by decide)) (ag_si (by decide))) (ag_sl (by decide))) (ag_si (by decide))
      · exact ag_tr (ag_mono agS (by decide) (by decide) (by decide)) (ag_tr (ag_tr (ag_tr (ag_sa (by decide)) (ag_si (by decide))) (ag_sa (by decide))) (ag_si (by decide)))
end OPEN
end
/-! 9z.may -/
section
/-! The tableau: a turn that looks at a MAY. -/
section MAY
variable {N n F : Nat} {z : Nat → Nat} {so on tw : Nat → Int32} {d : Nat → Nat} {S T SC SR A B : mq_St} {st W w ec ln wt m f p k : Nat} {R P : List Nat}
theorem fCi {v : Int32} (h : frC A B) (hk : k ∈ [14, 15, 16, 17, 18, 19, 20]) : frC A (mq_si B k v) := ag_tr h (ag_si hk)
theorem fCa {v : Nat → Int32} (h : frC A B) (hk : k ∈ [16, 17, 18, 19, 20, 21, 22]) : frC A (mq_sa B k v) := ag_tr h (ag_sa hk)
theorem fCl {v : Nat → Int64} (h : frC A B) (hk : k ∈ [1, 2, 3, 4, 5]) : frC A (mq_sl B k v) := ag_tr h (ag_sl hk)
theorem fRi {v : Int32} (h : frR A B) (hk : k ∈ [18, 19, 20, 21, 22, 23, 24, 25, 26, 27, 28]) : frR A (mq_si B k v) := ag_tr h (ag_si hk)
theorem fRa {v : Nat → Int32} (h : frR A B) (hk : k ∈ [17, 18, 19, 20, 21, 22, 23, 24, 25, 26, 27, 28, 29, 30, 31]) : frR A (mq_sa B k v) := ag_tr h (ag_sa hk)
def lkC (S : mq_St) (st : Nat) (l4 l2 : Nat → Int64) : mq_St := mq_sl (mq_sl (mq_sa S 21 (upd (S.2.1 21) 0 (nI (st + 1)))) 4 l4) 2 l2
def lkR (S : mq_St) (st wt f : Nat) (a : Nat → Int32) : mq_St := mq_sa (mq_si (mq_sa S 26 (upd (S.2.1 26) wt (nI f))) 19 (nI (st + 1))) 31 a
theorem fr_lkC {l4 l2 : Nat → Int64} : frC S (lkC S st l4 l2) := fCl (fCl (fCa ag_rf (by decide)) (by decide)) (by decide)
theorem fr_lkR {a : Nat → Int32} : frR S (lkR S st wt f a) := fRa (fRi (fRa ag_rf (by decide)) (by decide)) (by decide)
theorem lk_may {l4 : Nat → Int64} {l e : Nat} (hfw : fw n so on tw d) (q : may n so on tw d SC SR w m l e) (hf : f < n) (hm : m ≤ f) (ht : td so on tw 7 (lb (SC.2.2 3) w) f) (hmin : ∀ g, g < f → ¬ (m ≤ g ∧ td so on tw 7 (lb (SC.2.2 3) w) g)) (c3 : ∀ g, g < 320 → lb (S.2.2 3) w g = lb (SC.2.2 3) w g) (c4 : ∀ g, g < 320 → lb (S.2.2 4) w g = (lb (SC.2.2 4) w g && !decide (g = f))) (r25 : T.2.1 25 e = SR.2.1 25 e) (r26 : T.2.1 26 e = nI f) (r27 : T.2.1 27 e = SR.2.1 27 e) (r29 : T.2.1 29 e = SR.2.1 29 e) (r30 : T.2.1 30 = SR.2.1 30) : may n so on tw d S T w (f + 1) l e := by
  have h300 := hfw.2.1
  obtain ⟨a1, a2, a2', a3, a4, a5, b1, b2, b3, b4, b5⟩ := q
  refine ⟨r25.trans a1, by rw [r26]; exact nI_1 f, by omega, r27.trans a3, r29.trans a4, fun g hg => by rw [r30, c3 g hg]; exact a5 g hg, fun g hg x => b1 g hg ((c3 g hg).symm.trans x), fun c hc x => b2 c hc ((cls_x hfw c3 hc).mp x), fun s g h4 h6 hg x => b3 s g h4 h6 hg ((td_x hfw c3 hg h4 (by omega)).mp x), fun g hg x => ?_, fun g hg x => ?_⟩
  · rw [c4 g hg, Bool.and_eq_true] at x
    rw [c3 g hg]; exact b4 g hg x.1
  · have x' := (td_x hfw c3 hg (by omega) (by omega)).mp x
    rw [c4 g (by omega), Bool.and_eq_true]
    have y := b5 g hg x'
    constructor
    · rintro ⟨u1, u2⟩
      have : ¬ g = f := by simpa using u2
      have h1 := y.mp u1
      by_cases h2 : g < f
      · exact absurd ⟨h1, x'⟩ (hmin g h2)
      · omega
    · intro u
      exact ⟨y.mpr (by omega), by simp; omega⟩
theorem M_may {fu fu2 : Nat} (hN : 500 ≤ N) (hc : cxC SC n so on tw d) (hx : cxR SR n so on tw d) (q : Mn n so on tw d F SC SR st W w ec ln wt m R) (hf : f < n) (hm : m ≤ f) (ht : td so on tw 7 (lb (SC.2.2 3) w) f) (hmin : ∀ g, g < f → ¬ (m ≤ g ∧ td so on tw 7 (lb (SC.2.2 3) w) g)) :
    (∃ SC' SR' v, zf_X8_lookAtMay N z (nI f) SC = some ((), SC') ∧ SC'.1 19 = v ∧ (v = -3 ∨ v = -4) ∧ mq_cl (zf_X11_mays_54 N z (fu + 1) (nI wt) (nI f) SR) (kM N z (fu2 + 1)) = some (v, SR') ∧ SC'.2.1 21 0 = SR'.1 19 ∧ cnt SC' SR' ∧ frC SC SC' ∧ frR SR SR' ∧ SC'.1 20 = nI ln) ∨
    (st < F ∧ ∃ SC' SR' x, zf_X8_lookAtMay N z (nI f) SC = some ((), SC') ∧ mq_cl (zf_X11_mays_54 N z (fu + 1) (nI wt) (nI f) SR) (kM N z (fu2 + 1)) = mq_cl (zf_X11_mays_54 N z fu (nI wt) x SR') (kM N z (fu2 + 1)) ∧ lst n (fun g => f + 1 ≤ g ∧ td so on tw 7 (lb (SC'.2.2 3) w) g) x ∧ Mn n so on tw d F SC' SR' (st + 1) W w ec ln wt (f + 1) R ∧ frC SC SC' ∧ frR SR SR') ∨
    (st < F ∧ ∃ SC' SR', zf_X8_lookAtMay N z (nI f) SC = some ((), SC') ∧ mq_cl (zf_X11_mays_54 N z (fu + 1) (nI wt) (nI f) SR) (kM N z (fu2 + 1)) = mq_cl (zf_X11_down_z N z N SR') (kD N z fu2) ∧ Dn n so on tw d F SC' SR' (st + 1) W ec (ln + 1) (wt + 1) (w :: R) ∧ frC SC SC' ∧ frR SR SR') := by
  have hfw := hc.2.2.2
  have h300 := hfw.2.1
  obtain ⟨p1f, p2f, p3f, p4f⟩ := fw_1 hfw hf ht.1 (by omega) (by omega)
  obtain ⟨⟨o1, o2, o3, o4, o5, o6⟩, ⟨n1, n2, n3, n4, n5, n6, n7⟩, ⟨m1, m2, m3, m4, m5, m6, m7, m8⟩, ⟨k1, k2, k3⟩, q5, q6, q7, q8, q9, q10, q11, q12⟩ := id q
  have hlen := stk_len R w ec wt ln q7
  have i1 : vp_in (nI w) 60 := vp_in_nI (by omega) (by omega)
  have c1 : (nI w).toNatClampNeg = w := nI_clamp (by omega)
  have i3 : vp_in (nI wt) 470 := vp_in_nI (by omega) (by omega)
  have c3 : (nI wt).toNatClampNeg = wt := nI_clamp (by omega)
  have i2 : vp_in (2 : Int32) 4 := vp_in_nI (n := 2) (by omega) (by omega)
  by_cases h1 : st < F
  · -- the START on either side
    have t1 : zf_X8_step N z SC = some (1, mq_sa SC 21 (upd (SC.2.1 21) 0 (nI (st + 1)))) := by rw [ck_step n2 n1 o1 o2, if_pos h1]
    obtain ⟨l4, d1, d2⟩ := se_drop (N := N) (R := 60) (r := w) (f := f) (z := fun k => [300].getD k 0) (S := mq_pull (mq_sa SC 21 (upd (SC.2.1 21) 0 (nI (st + 1)))) [] [] [4]) rfl (by omega) (by omega) (by omega)
    have hc6 : cxC (mq_sl (mq_sa SC 21 (upd (SC.2.1 21) 0 (nI (st + 1)))) 4 l4) n so on tw d := cxC_c hc rfl rfl rfl rfl rfl rfl
    have t3 : zf_X7_firstOf N z (nI f) (mq_sl (mq_sa SC 21 (upd (SC.2.1 21) 0 (nI (st + 1)))) 4 l4) = some (nI (p1 on f)) := by rw [(ck_in hc6.1 h300 hf).2.1, (hc6.2.1 f hf).2.1, ← p2f]
    obtain ⟨l2, t4, t5⟩ := ck_dst (N := N) (z := z) (W := W) (w := w) (p := p1 on f) (by omega) hc6 n3 n4 (by omega) o4 (by omega)
    have hx18 : cxR (mq_si (mq_sa SR 26 (upd (SR.2.1 26) wt (nI f))) 19 (nI (st + 1))) n so on tw d := cxR_c hx rfl rfl rfl rfl
    obtain ⟨a, u3, u4⟩ := rf_mks (N := N) (z := z) hx18 (by omega) hf ht.1
    have u2 : zf_X11_step N z (mq_sa SR 26 (upd (SR.2.1 26) wt (nI f))) = some (1, mq_si (mq_sa SR 26 (upd (SR.2.1 26) wt (nI f))) 19 (nI (st + 1))) := by rw [rf_step (S := mq_sa SR 26 (upd (SR.2.1 26) wt (nI f))) (st := st) (F := F) m2 m1 o1 o2, if_pos h1]
    have y4 : ∀ v g, g < 320 → lb l4 v g = (lb (SC.2.2 4) v g && !decide (v = w ∧ g = f)) := d2
    have y2 : ∀ v g, g < 320 → lb l2 v g = if v = W then sta n so (lb (SC.2.2 3) w) (p1 on f) g else lb (SC.2.2 2) v g := t5
    have ya : ∀ g, g < 320 → ib a 0 g = lb l2 W g := fun g hg => by
      rw [u4 g hg, y2 W g hg, if_pos rfl]
      unfold sta
      rw [show ib ((mq_si (mq_sa SR 26 (upd (SR.2.1 26) wt (nI f))) 19 (nI (st + 1))).2.1 17) 0 g = lb (SC.2.2 3) w g from q9 g hg]
    obtain ⟨x, w1, w2, w3⟩ := home (N := N) (z := z) (S := lkC SC st l4 l2) (T := lkR SR st wt f a) (SC := SC) (SR := SR) (n := n) (so := so) (on := on) (tw := tw) (d := d) (by omega) n3 o4 (fun _ _ => rfl) (fun v hv => (q6 v hv).1.symm) (fun v g hv hg => by
      show lb l2 v g = _
      rw [y2 v g hg, if_neg (by omega)]; exact (q6 v hv).2.2 g hg) (fun g hg => (ya g hg).symm) R w 0 N N ec wt ln q7 o3 (by omega) (by omega) (by omega)
    have preC : zf_X8_lookAtMay N z (nI f) SC = (if x = (-1 : Int32) then (mq_cp (zf_X3_size N z (mq_pull (lkC SC st l4 l2) [20] [22] [])) (fun q15 => (mq_ck (((lkC SC st l4 l2).1 16)) 60 (mq_nS (mq_sa (lkC SC st l4 l2) 19 (upd ((lkC SC st l4 l2).2.1 19) (((lkC SC st l4 l2).1 16)).toNatClampNeg (q15))) (fun S18 => (if (S18.1 15) < (60 : Int32) then (mq_cl (zf_X8_note N z ((4 : Int32)) (nI f) S18) (fun q19v S21 => (if q19v = (0 : Int32) then (some ((), S21)) else (mq_ck ((S21.1 16)) 60 (mq_cl (zf_X8_beginWorld N z ((S21.1 16)) (((S21.2.1 17 ((S21.1 16)).toNatClampNeg) + (1 : Int32))) S21) (fun q23v S25 => (some ((), S25)))))))) else (mq_nS (mq_si S18 19 ((-4 : Int32))) (fun S27 => (some ((), S27)))))))))) else (mq_ck ((2 : Int32)) 4 (mq_ck ((2 : Int32)) 4 (mq_nS (mq_sa (lkC SC st l4 l2) 21 (upd ((lkC SC st l4 l2).2.1 21) ((2 : Int32)).toNatClampNeg ((((lkC SC st l4 l2).2.1 21 ((2 : Int32)).toNatClampNeg) + (1 : Int32))))) (fun S31 => (mq_ck ((S31.1 16)) 60 (mq_ck ((S31.1 16)) 60 (mq_nS (mq_sl S31 1 (vp_updL (S31.2.2 1) ((S31.1 16)).toNatClampNeg (((S31.2.2 1 ((S31.1 16)).toNatClampNeg) ||| (mq_lshl (1 : Int64) x))))) (fun S34 => (some ((), S34)))))))))))  := by
      unfold zf_X8_lookAtMay
      refine (cl_go t1).trans ?_
      rw [if_neg (by decide), show (mq_sa SC 21 (upd (SC.2.1 21) 0 (nI (st + 1)))).1 16 = nI w from n4]
      refine (cl_go d1).trans ?_
      rw [push1, nS_e]
      refine (cp_go t3).trans ((cl_go t4).trans ?_)
      have : zf_X8_worldOfStart N z (lkC SC st l4 l2) = some x := by
        unfold zf_X8_worldOfStart
        rw [show (lkC SC st l4 l2).1 16 = nI w from n4, nI_e, nI_e]
        exact w1
      refine (cp_go this).trans ?_
      rw [nI_e]
      rfl
    have preR : zf_X11_mays_54 N z (fu + 1) (nI wt) (nI f) SR = (if x = (-1 : Int32) then (mq_cl (zf_X11_line N z ((4 : Int32)) (nI f) (lkR SR st wt f a)) (fun q31v S33 => (if q31v = (0 : Int32) then (mq_cz ((0 : Int32)) (some ((0 : Int32), S33))) else (if (S33.1 24) = (60 : Int32) then (mq_nS (mq_si S33 23 ((-4 : Int32))) (fun S41 => (mq_cz ((0 : Int32)) (some ((0 : Int32), S41))))) else (mq_cl (zf_X11_copy N (fun k => [10, 10].getD k 0) ((0 : Int32)) ((0 : Int32)) (mq_pull S33 [] [31, 17] [])) (fun q34v q34s => mq_nS (mq_push S33 q34s [] [31, 17] []) (fun S36 => (mq_cl (zf_X11_begins N z ((S36.1 25)) S36) (fun q37v S39 => (mq_cz ((1 : Int32)) (some ((1 : Int32), S39)))))))))))) else (mq_nS (mq_si (lkR SR st wt f a) 21 ((((lkR SR st wt f a).1 21) + (1 : Int32)))) (fun S25 => (mq_ck ((((60 : Int32) * (S25.1 25)) + x)) 3600 (mq_nS (mq_sa S25 22 (upd (S25.2.1 22) ((((60 : Int32) * (S25.1 25)) + x)).toNatClampNeg (vp_nar .boolean ((1 : Int32))))) (fun S27 => (mq_cp (zf_X11_nextMay N z (nI f) S27) (fun q28 => (mq_nI (q28) (fun x30 => (zf_X11_mays_54 N z fu (nI wt) (x30) S27))))))))))) := by
      show zf_X11_mays_54b N z (fun v1 v2 S => zf_X11_mays_54 N z fu v1 v2 S) (nI wt) (nI f) SR = _
      unfold zf_X11_mays_54b
      rw [if_neg (nI_nm (by omega)), mq_ck_of i3, c3, nS_e]
      refine (cl_go u2).trans ?_
      rw [if_neg (by decide)]
      refine (cl_go u3).trans ?_
      have : zf_X11_samePlace N z (lkR SR st wt f a) = some x := by
        unfold zf_X11_samePlace
        rw [show (lkR SR st wt f a).1 25 = nI w from m4, nI_e]
        exact w2
      refine (cp_go this).trans ?_
      rw [nI_e]
      rfl
    have rows4 : ∀ p g, p < w → g < 320 → lb l4 p g = lb (SC.2.2 4) p g := fun p g hp hg => by
      rw [y4 p g hg, decide_eq_false (fun q => by have := q.1; omega), Bool.not_false, Bool.and_true]
    have row4 : ∀ g, g < 320 → lb l4 w g = (lb (SC.2.2 4) w g && !decide (g = f)) := fun g hg => by
      rw [y4 w g hg]
      congr 2
      rw [decide_eq_decide]
      exact ⟨fun q => q.2, fun q => ⟨rfl, q⟩⟩
    rcases w3 with rfl | ⟨u, u5, u6, rfl⟩
    · by_cases h2 : ln < 1299 ∧ W < 60
      · right; right
        obtain ⟨h2, h3⟩ := h2
        have e15 : (nI W < (60 : Int32)) := (nI_ltI (b := 60) (by omega) (by omega)).mpr h3
        have e24 : ¬ nI W = (60 : Int32) := fun q => by have := (nI_eq (b := 60) (a := W) (by omega) (by omega)).mp q; omega
        obtain ⟨q3, q4, v1, v2, v3⟩ := ck_bgw (N := N) (z := z) (v1 := nI w) (v2 := SC.2.1 17 w + 1) (W := W) (S := mq_si (mq_sa (mq_sa (lkC SC st l4 l2) 19 (upd (SC.2.1 19) w (nI ln))) 22 (upd (SC.2.1 22) ln ((nI 4 <<< ((16 : Int32) &&& 31)) ||| nI f))) 20 (nI (ln + 1))) (by omega) h3 n3
        obtain ⟨qc, r1, r2, r3⟩ := rf_cp (N := N) (S := mq_si (mq_sa (mq_sa (lkR SR st wt f a) 23 (upd (SR.2.1 23) ln (nI 4))) 24 (upd (SR.2.1 24) ln (nI f))) 26 (nI (ln + 1))) (a := 31) (b := 17) (ra := 0) (rb := 0) (R := 1) (R' := 1) (y := fun k => [10, 10].getD k 0) (by omega) (by decide) rfl rfl (by omega) (by omega) (by omega) (by omega)
        obtain ⟨qb, g1, g2⟩ := rf_bgw (N := N) (z := z) (v1 := nI w) (v2 := SC.2.1 17 w + 1) (W := W) (S := mq_sa (mq_si (mq_sa (mq_sa (lkR SR st wt f a) 23 (upd (SR.2.1 23) ln (nI 4))) 24 (upd (SR.2.1 24) ln (nI f))) 26 (nI (ln + 1))) 17 qc) (by omega) h3 m3 (Or.inr ⟨w, o3, rfl, congrArg (· + 1) (q6 w o3).2.1⟩)
        refine ⟨h1, _, _, ?_, ?_, Dn_bg (S := mq_si (mq_sa (mq_sa (lkC SC st l4 l2) 19 (upd (SC.2.1 19) w (nI ln))) 22 (upd (SC.2.1 22) ln ((nI 4 <<< ((16 : Int32) &&& 31)) ||| nI f))) 20 (nI (ln + 1))) (T := mq_sa (mq_si (mq_sa (mq_sa (lkR SR st wt f a) 23 (upd (SR.2.1 23) ln (nI 4))) 24 (upd (SR.2.1 24) ln (nI f))) 26 (nI (ln + 1))) 17 qc) (W := W) (p := p1 on f) (v1 := nI w) (v2 := SC.2.1 17 w + 1) (q3 := q3) (q4 := q4) (q := qb) (st := st + 1) (ln := ln + 1) (wt := wt + 1) (ec := ec) (F := F) (P := w :: R) hfw hx.2.2.1 ⟨by omega, o2, h3, o5, by omega⟩ n1 rfl n5 rfl n7 m1 rfl m5 rfl m7 m8 ⟨k1, k2, k3⟩ (lins_put (SC := SC) (SR := SR) (r := 4) (f := f) q5 (by omega) (by omega) rfl rfl rfl) (fun v hv => ⟨(q6 v hv).1, (q6 v hv).2.1, fun g hg => ?_⟩) (fun g hg => ?_) (fun g hg b => ?_) (fun v hv => q11 v hv) (fun v hv hP g hg => ?_) v2 v3 g2 ⟨ec, 0, wt + 1, (up_s _ _ _).trans n5, by omega, by omega, fun j hj => by omega, Or.inr ⟨w, f + 1, ln, wt, rfl, up_s _ _ _, o3, rfl, lk_may (SC := SC) (SR := SR) (l4 := l4) hfw q8 hf hm ht hmin (fun g hg => ?_) (fun g hg => ?_) rfl (up_s _ _ _) rfl rfl rfl, by omega, up_s _ _ _, stk_c (SC := SC) (SR := SR) hfw R w ec wt ln ln (Nat.le_refl _) ⟨fun p hp => ⟨up_o (by omega), up_o (by omega)⟩, fun p hp => ⟨up_o (by omega), fun g hg => ⟨?_, ?_⟩⟩, fun j _ => ⟨rfl, fun _ _ => rfl⟩⟩ (fun e he => ⟨rfl, up_o (by omega), rfl, rfl, rfl, fun _ _ => rfl⟩) q7⟩⟩, ?_, ?_⟩
        · rw [preC, if_pos rfl]
          refine (cp_go (v := nI ln) (congrArg some n6)).trans ?_
          rw [show (lkC SC st l4 l2).1 16 = nI w from n4, mq_ck_of i1, c1, nS_e, show (mq_sa (lkC SC st l4 l2) 19 (upd ((lkC SC st l4 l2).2.1 19) w (nI ln))).1 15 = nI W from n3, if_pos e15]
          have nt : zf_X8_note N z 4 (nI f) (mq_sa (lkC SC st l4 l2) 19 (upd ((lkC SC st l4 l2).2.1 19) w (nI ln))) = some (1, mq_si (mq_sa (mq_sa (lkC SC st l4 l2) 19 (upd (SC.2.1 19) w (nI ln))) 22 (upd (SC.2.1 22) ln ((nI 4 <<< ((16 : Int32) &&& 31)) ||| nI f))) 20 (nI (ln + 1))) := by
            rw [ck_note (S := mq_sa (lkC SC st l4 l2) 19 (upd ((lkC SC st l4 l2).2.1 19) w (nI ln))) (ln := ln) 4 (nI f) n6 o6, if_pos h2]
            rfl
          refine (cl_go nt).trans ?_
          rw [if_neg (by decide), show (mq_si (mq_sa (mq_sa (lkC SC st l4 l2) 19 (upd (SC.2.1 19) w (nI ln))) 22 (upd (SC.2.1 22) ln ((nI 4 <<< ((16 : Int32) &&& 31)) ||| nI f))) 20 (nI (ln + 1))).1 16 = nI w from n4, mq_ck_of i1, c1]
          exact cl_go v1
        · have li : zf_X11_line N z 4 (nI f) (lkR SR st wt f a) = some (1, mq_si (mq_sa (mq_sa (lkR SR st wt f a) 23 (upd (SR.2.1 23) ln (nI 4))) 24 (upd (SR.2.1 24) ln (nI f))) 26 (nI (ln + 1))) := by
            rw [rf_line (S := lkR SR st wt f a) (ln := ln) 4 (nI f) m6 o6, if_pos h2]
            rfl
          have all : zf_X11_mays_54 N z (fu + 1) (nI wt) (nI f) SR = some (1, bgR (mq_sa (mq_si (mq_sa (mq_sa (lkR SR st wt f a) 23 (upd (SR.2.1 23) ln (nI 4))) 24 (upd (SR.2.1 24) ln (nI f))) 26 (nI (ln + 1))) 17 qc) W (nI w) (SC.2.1 17 w + 1) qb) := by
            rw [preR, if_pos rfl]
            refine (cl_go li).trans ?_
            rw [if_neg (by decide), show (mq_si (mq_sa (mq_sa (lkR SR st wt f a) 23 (upd (SR.2.1 23) ln (nI 4))) 24 (upd (SR.2.1 24) ln (nI f))) 26 (nI (ln + 1))).1 24 = nI W from m3, if_neg e24]
            refine (cl_go r1).trans ?_
            rw [r2, nS_e, show (mq_sa (mq_si (mq_sa (mq_sa (lkR SR st wt f a) 23 (upd (SR.2.1 23) ln (nI 4))) 24 (upd (SR.2.1 24) ln (nI f))) 26 (nI (ln + 1))) 17 qc).1 25 = nI w from m4]
            refine (cl_go g1).trans ?_
            rw [mq_cz_1]
          refine (cl_go all).trans ?_
          unfold kM
          rw [nI_e]
          refine (if_pos m7).trans ?_
          rw [if_neg (by decide)]
          exact t82_D (by decide)
        · show lb l2 v g = _
          rw [y2 v g hg, if_neg (by omega)]; exact (q6 v hv).2.2 g hg
        · show ib qc 0 g = lb l2 W g
          rw [r3 0 g hg, if_pos rfl]; exact ya g hg
        · have b' : lb l2 W g = true := b
          rw [y2 W g hg, if_pos rfl] at b'
          unfold sta at b'
          rw [Bool.or_eq_true, Bool.and_eq_true] at b'
          rcases b' with ⟨-, b'⟩ | b'
          · have := of_decide_eq_true b'
            exact ⟨this.1, Or.inl this.2⟩
          · have := of_decide_eq_true b'
            exact ⟨by omega, Or.inr this⟩
        · exact q12 v hv (fun e => hP (by rw [e]; exact List.mem_cons_self)) (fun e => hP (List.mem_cons_of_mem _ e)) g hg
        · show lb q3 w g = _
          rw [v2 w g hg, if_neg (by omega)]
          rfl
        · show lb q4 w g = _
          rw [v3 w g hg, if_neg (by omega)]
          exact row4 g hg
        · show lb q3 p g = _
          rw [v2 p g hg, if_neg (by omega)]
          rfl
        · show lb q4 p g = _
          rw [v3 p g hg, if_neg (by omega)]
          exact rows4 p g hp hg
        · exact fCi (fCl (fCa (fCa (fCa (fCl (fCl (fCa (fCi (fCi (fCi (fCa (fCa fr_lkC (by decide)) (by decide)) (by decide)) (by decide)) (by decide)) (by decide)) (by decide)) (by decide)) (by decide)) (by decide)) (by decide)) (by decide)) (by decide)
        · exact fRi (fRa (fRi (fRa (fRa (fRi (fRi (fRa (fRi (fRa (fRa fr_lkR (by decide)) (by decide)) (by decide)) (by decide)) (by decide)) (by decide)) (by decide)) (by decide)) (by decide)) (by decide)) (by decide)
      · left
        have preC' : zf_X8_lookAtMay N z (nI f) SC = some ((), mq_si (mq_sa (lkC SC st l4 l2) 19 (upd ((lkC SC st l4 l2).2.1 19) w (nI ln))) 19 (-4)) := by
          rw [preC, if_pos rfl]
          refine (cp_go (v := nI ln) (congrArg some n6)).trans ?_
          rw [show (lkC SC st l4 l2).1 16 = nI w from n4, mq_ck_of i1, c1, nS_e, show (mq_sa (lkC SC st l4 l2) 19 (upd ((lkC SC st l4 l2).2.1 19) w (nI ln))).1 15 = nI W from n3]
          by_cases h3 : W < 60
          · have e15 : (nI W < (60 : Int32)) := (nI_ltI (b := 60) (by omega) (by omega)).mpr h3
            rw [if_pos e15]
            have nt : zf_X8_note N z 4 (nI f) (mq_sa (lkC SC st l4 l2) 19 (upd ((lkC SC st l4 l2).2.1 19) w (nI ln))) = some (0, mq_si (mq_sa (lkC SC st l4 l2) 19 (upd ((lkC SC st l4 l2).2.1 19) w (nI ln))) 19 (-4)) := by
              rw [ck_note (S := mq_sa (lkC SC st l4 l2) 19 (upd ((lkC SC st l4 l2).2.1 19) w (nI ln))) (ln := ln) 4 (nI f) n6 o6, if_neg (fun q => h2 ⟨q, h3⟩)]
            refine (cl_go nt).trans ?_
            rw [if_pos rfl]
          · have e15 : ¬ (nI W < (60 : Int32)) := fun q => h3 ((nI_ltI (b := 60) (by omega) (by omega)).mp q)
            rw [if_neg e15, nS_e]
        have frc : frC SC (mq_si (mq_sa (lkC SC st l4 l2) 19 (upd ((lkC SC st l4 l2).2.1 19) w (nI ln))) 19 (-4)) := fCi (fCa fr_lkC (by decide)) (by decide)
        by_cases h3 : ln < 1299
        · have e24 : nI W = (60 : Int32) := (nI_eq (b := 60) (a := W) (by omega) (by omega)).mpr (by omega)
          have li : zf_X11_line N z 4 (nI f) (lkR SR st wt f a) = some (1, mq_si (mq_sa (mq_sa (lkR SR st wt f a) 23 (upd (SR.2.1 23) ln (nI 4))) 24 (upd (SR.2.1 24) ln (nI f))) 26 (nI (ln + 1))) := by
            rw [rf_line (S := lkR SR st wt f a) (ln := ln) 4 (nI f) m6 o6, if_pos h3]
            rfl
          have all : zf_X11_mays_54 N z (fu + 1) (nI wt) (nI f) SR = some (0, mq_si (mq_si (mq_sa (mq_sa (lkR SR st wt f a) 23 (upd (SR.2.1 23) ln (nI 4))) 24 (upd (SR.2.1 24) ln (nI f))) 26 (nI (ln + 1))) 23 (-4)) := by
            rw [preR, if_pos rfl]
            refine (cl_go li).trans ?_
            rw [if_neg (by decide), show (mq_si (mq_sa (mq_sa (lkR SR st wt f a) 23 (upd (SR.2.1 23) ln (nI 4))) 24 (upd (SR.2.1 24) ln (nI f))) 26 (nI (ln + 1))).1 24 = nI W from m3, if_pos e24, nS_e, mq_cz_0]
          refine ⟨_, _, -4, preC', rfl, Or.inr rfl, (cl_go all).trans (kM_f (by decide : ¬ (-4 : Int32) = 0)), rfl, ⟨k1, k2, k3⟩, frc, fRi (fRi (fRa (fRa fr_lkR (by decide)) (by decide)) (by decide)) (by decide), n6⟩
        · have all : zf_X11_mays_54 N z (fu + 1) (nI wt) (nI f) SR = some (0, mq_si (lkR SR st wt f a) 23 (-4)) := by
            rw [preR, if_pos rfl]
            refine (cl_go (x := zf_X11_line N z 4 (nI f) (lkR SR st wt f a)) (v := 0) (s := mq_si (lkR SR st wt f a) 23 (-4)) (by rw [rf_line (S := lkR SR st wt f a) (ln := ln) 4 (nI f) m6 o6, if_neg h3])).trans ?_
            rw [if_pos rfl, mq_cz_0]
          refine ⟨_, _, -4, preC', rfl, Or.inr rfl, (cl_go all).trans (kM_f (by decide : ¬ (-4 : Int32) = 0)), rfl, ⟨k1, k2, k3⟩, frc, fRi fr_lkR (by decide), n6⟩
    · right; left
      have e60 : (60 : Int32) * nI w + nI u = nI (60 * w + u) := by rw [show (60 : Int32) = nI 60 from rfl, pk_mul, nI_add]
      have hx27 : cxR (mq_sa (mq_si (lkR SR st wt f a) 21 (SR.1 21 + 1)) 22 (upd (SR.2.1 22) (60 * w + u) 1)) n so on tw d := cxR_c hx rfl rfl rfl rfl
      obtain ⟨x, b1, b2⟩ := rs_may (N := N) (z := z) (v := nI f) (k := f + 1) (by omega) hx27 (by omega) (nI_1 f)
      refine ⟨h1, mq_sl (mq_sa (lkC SC st l4 l2) 21 (upd (upd (SC.2.1 21) 0 (nI (st + 1))) 2 (SC.2.1 21 2 + 1))) 1 (vp_updL (SC.2.2 1) w (SC.2.2 1 w ||| mq_lshl 1 (nI u))), mq_sa (mq_si (lkR SR st wt f a) 21 (SR.1 21 + 1)) 22 (upd (SR.2.1 22) (60 * w + u) 1), x, ?_, ?_, lst_s b2 (fun g hg => ?_), ⟨⟨by omega, o2, o3, o4, o5, o6⟩, ⟨n1, rfl, n3, n4, n5, n6, n7⟩, ⟨m1, rfl, m3, m4, m5, m6, m7, m8⟩, ⟨k1, congrArg (· + 1) k2, k3⟩, q5, fun v hv => ⟨(q6 v hv).1, (q6 v hv).2.1, fun g hg => ?_⟩, stk_c (SC := SC) (SR := SR) hfw R w ec wt ln ln (Nat.le_refl _) ⟨fun p hp => ⟨rfl, rfl⟩, fun p hp => ⟨rfl, fun g hg => ⟨rfl, rows4 p g hp hg⟩⟩, fun j _ => ⟨rfl, fun _ _ => rfl⟩⟩ (fun e he => ⟨rfl, up_o (by omega), rfl, rfl, rfl, fun _ _ => rfl⟩) q7, lk_may (SC := SC) (SR := SR) (l4 := l4) hfw q8 hf hm ht hmin (fun g hg => rfl) row4 rfl (up_s _ _ _) rfl rfl rfl, q9, q10, fun v hv b hb => ?_, q12⟩, fCl (fCa fr_lkC (by decide)) (by decide), fRa (fRi fr_lkR (by decide)) (by decide)⟩
      · rw [preC, if_neg (nI_nm (by omega)), mq_ck_of i2, mq_ck_of i2, nS_e]
        rw [show (mq_sa (lkC SC st l4 l2) 21 (upd ((lkC SC st l4 l2).2.1 21) (Int32.toNatClampNeg 2) ((lkC SC st l4 l2).2.1 21 (Int32.toNatClampNeg 2) + 1))).1 16 = nI w from n4, mq_ck_of i1, mq_ck_of i1, c1, nS_e]
        rfl
      · have all : zf_X11_mays_54 N z (fu + 1) (nI wt) (nI f) SR = zf_X11_mays_54 N z fu (nI wt) x (mq_sa (mq_si (lkR SR st wt f a) 21 (SR.1 21 + 1)) 22 (upd (SR.2.1 22) (60 * w + u) 1)) := by
          rw [preR, if_neg (nI_nm (by omega)), nS_e]
          rw [show (mq_si (lkR SR st wt f a) 21 ((lkR SR st wt f a).1 21 + 1)).1 25 = nI w from m4, e60, mq_ck_of (vp_in_nI (by omega) (by omega)), nI_clamp (by omega), nS_e]
          refine (cp_go b1).trans ?_
          rw [nI_e]
          rfl
        rw [all]
      · have := td_x (X := lb (SC.2.2 3) w) (X' := ib (SR.2.1 17) 0) hfw q9 hg (s := 7) (by omega) (by omega)
        exact ⟨fun q => ⟨q.1, this.mp q.2⟩, fun q => ⟨q.1, this.mpr q.2⟩⟩
      · show lb l2 v g = _
        rw [y2 v g hg, if_neg (by omega)]; exact (q6 v hv).2.2 g hg
      · show upd (SR.2.1 22) (60 * w + u) 1 (60 * v + b) = if (vp_updL (SC.2.2 1) w (SC.2.2 1 w ||| mq_lshl 1 (nI u)) v).toBitVec.getLsbD b = true then 1 else 0
        have old := q11 v hv b hb
        unfold vp_updL
        by_cases e : v = w
        · rw [if_pos e, Int64.toBitVec_or, BitVec.getLsbD_or, l_one u (by omega) b (by omega)]
          by_cases e' : b = u
          · rw [e, e', up_s, decide_eq_true rfl, Bool.or_true, if_pos rfl]
          · rw [up_o (by omega), decide_eq_false e', Bool.or_false, ← e]
            exact old
        · rw [if_neg e, up_o (by omega)]
          exact old
  · left
    refine ⟨mq_si SC 19 (-3), mq_si (mq_sa SR 26 (upd (SR.2.1 26) wt (nI f))) 23 (-3), -3, ?_, rfl, Or.inl rfl, ?_, n2.trans m2.symm, ⟨k1, k2, k3⟩, fCi ag_rf (by decide), fRi (fRa ag_rf (by decide)) (by decide), n6⟩
    · unfold zf_X8_lookAtMay
      refine (cl_go (x := zf_X8_step N z SC) (v := 0) (s := mq_si SC 19 (-3)) (by rw [ck_step n2 n1 o1 o2, if_neg h1])).trans ?_
      rw [if_pos rfl]
    · have : zf_X11_mays_54 N z (fu + 1) (nI wt) (nI f) SR = some (0, mq_si (mq_sa SR 26 (upd (SR.2.1 26) wt (nI f))) 23 (-3)) := by
        show zf_X11_mays_54b N z (fun v1 v2 S => zf_X11_mays_54 N z fu v1 v2 S) (nI wt) (nI f) SR = _
        unfold zf_X11_mays_54b
        rw [if_neg (nI_nm (by omega)), mq_ck_of i3, c3, nS_e]
        refine (cl_go (x := zf_X11_step N z (mq_sa SR 26 (upd (SR.2.1 26) wt (nI f)))) (v := 0) (s := mq_si (mq_sa SR 26 (upd (SR.2.1 26) wt (nI f))) 23 (-3)) (by rw [rf_step (S := mq_sa SR 26 (upd (SR.2.1 26) wt (nI f))) (st := st) (F := F) m2 m1 o1 o2, if_neg h1])).trans ?_
        rw [if_pos rfl, mq_cz_0]
      refine (cl_go this).trans ?_
      exact kM_f (by decide : ¬ (-3 : Int32) = 0)
end MAY
end
/-! a0.turn -/
section
/-! The tableau: a turn. -/
/-- where both end -/
def Fi (v : Int32) (SC SR : mq_St) : Prop := SC.2.1 21 0 = SR.1 19 ∧ cnt SC SR ∧ (∃ l, l ≤ 1299 ∧ SC.1 20 = nI l) ∧ (v = -3 ∨ v = -4 ∨ (v = 1 ∧ ∃ ln, 0 < ln ∧ ln ≤ 1299 ∧ SC.1 20 = nI ln ∧ SR.1 26 = nI ln ∧ lins SC SR ln) ∨ (v = 0 ∧ ∃ W, 0 < W ∧ W ≤ 60 ∧ SC.1 15 = nI W ∧ SR.1 24 = nI W ∧ (∀ v, v < W → led SC SR v) ∧ ∀ v, v < W → wst SC SR v))
section TURN
variable {N n F : Nat} {z : Nat → Nat} {so on tw : Nat → Int32} {d : Nat → Nat} {S T SC SR A B : mq_St} {st W w ec ln wt m f p k fu fu2 : Nat} {R P : List Nat}
theorem dz_end (h : ¬ S.1 23 = 0) : mq_cl (zf_X11_down_z N z (fu + 1) S) (kD N z fu2) = some (S.1 23, S) := by
  have : zf_X11_down_z N z (fu + 1) S = some (0, S) := by
    show zf_X11_down_zb N z (fun S => zf_X11_down_z N z fu S) S = _
    unfold zf_X11_down_zb
    rw [if_neg h, mq_cz_0]
  exact (cl_go this).trans (kD_f h)
theorem dz_b {S' : mq_St} (h : zf_X11_down_zb N z (fun S => zf_X11_down_z N z fu S) S = zf_X11_down_z N z fu S') : mq_cl (zf_X11_down_z N z (fu + 1) S) (kD N z fu2) = mq_cl (zf_X11_down_z N z fu S') (kD N z fu2) := by
  have : zf_X11_down_z N z (fu + 1) S = zf_X11_down_zb N z (fun S => zf_X11_down_z N z fu S) S := rfl
  rw [this, h]
theorem D_least {s : Nat} (hN : 100 ≤ N) (hc : cxC SC n so on tw d) (q : Dn n so on tw d F SC SR st w ec ln wt R) (h4 : 4 ≤ s) (h7 : s ≤ 7) : ∃ l2 v, Dn n so on tw d F (mq_sl SC 4 l2) SR st w ec ln wt R ∧ zf_X8_leastToDo N z (nI s) SC = some (v, mq_sl SC 4 l2) ∧ lst n (td so on tw s (lb (SC.2.2 3) w)) v := by
  have hfw := hc.2.2.2
  obtain ⟨⟨-, -, o3, o4, -, -⟩, nn, -, -, -, -, -, -, -, -, q11, -, -, -⟩ := id q
  obtain ⟨l2, v, a1, a2, a3⟩ := ck_lst (z := z) (s := s) (w := w) hN hc (by omega) nn.2.2.2.1 h4 h7 q11.1
  exact ⟨l2, v, Dn_lf hfw.2.1 h7 hfw a1 q, a2, lst_s a3 (fun f hf => ⟨fun q => q.1, fun q => ⟨q, q11.2 s f h4 h7 hf q⟩⟩)⟩
theorem ck_wf {r : Int32} (hn : nuC S F st W w ec ln) (hF : F ≤ 100000) (hS : st ≤ F) (hL : ln ≤ 1299) : (¬ st < F → zf_X8_widen N z r (nI f) S = some ((), mq_si S 19 (-3))) ∧ (st < F → ¬ ln < 1299 → zf_X8_widen N z r (nI f) S = some ((), mq_si (mq_sa S 21 (upd (S.2.1 21) 0 (nI (st + 1)))) 19 (-4))) := by
  refine ⟨fun h1 => ?_, fun h1 h2 => ?_⟩
  · unfold zf_X8_widen
    refine (cl_go (ck_sf hn hF hS h1)).trans ?_
    rw [if_pos rfl]
  · unfold zf_X8_widen
    refine (cl_go (ck_st hn hF h1)).trans ?_
    rw [if_neg (by decide)]
    refine (cl_go (ck_nf hn hL h2)).trans ?_
    rw [if_pos rfl]
/-- what a turn may come to: an end, or down() again with one step more -/
def Tn (N : Nat) (z : Nat → Nat) (n : Nat) (so on tw : Nat → Int32) (d : Nat → Nat) (F : Nat) (SC SR : mq_St) (st : Nat) (R : List Nat) (fu fu2 : Nat) (go : Option (Unit × mq_St)) (ref : Option (Int32 × mq_St)) : Prop :=
  (∃ SC' SR' v, go = some ((), SC') ∧ SC'.1 19 = v ∧ ref = some (v, SR') ∧ Fi v SC' SR' ∧ frC SC SC' ∧ frR SR SR') ∨
  (st < F ∧ ∃ SC' SR' w' ec' ln' wt' R' fu' fu2', go = some ((), SC') ∧ ref = mq_cl (zf_X11_down_z N z fu' SR') (kD N z fu2') ∧ (fu' = fu ∨ fu' = N) ∧ fu2 ≤ fu2' ∧ R'.length ≤ R.length + 1 ∧ Dn n so on tw d F SC' SR' (st + 1) w' ec' ln' wt' R' ∧ frC SC SC' ∧ frR SR SR')
theorem nI_nn {v : Int32} {c : Nat} (h : v = nI c) (hc : c < 300) : ¬ v = -1 := by rw [h]; exact nI_nm hc
theorem T_both {s r : Nat} {go : Option (Unit × mq_St)} (hN : 500 ≤ N) (hc : cxC SC n so on tw d) (hx : cxR SR n so on tw d) (q : Dn n so on tw d F SC SR st w ec ln wt R) (hf : f < n) (hs : so f = nI s) (h46 : (s = 4 ∧ r = 1) ∨ (s = 6 ∧ r = 2)) (hgo : ∀ S', zf_X8_widen N z (nI r) (nI f) SC = some ((), S') → go = some ((), S'))
    (hdz : ∀ k0 : mq_St → Option (Int32 × mq_St), (st < F → ln < 1299 → ∃ a, zf_X11_down_zb N z k0 SR = k0 (mq_sa (stR SR st ln (nI r) (nI f)) 17 a) ∧ ∀ g, g < 320 → ib a 0 g = (ib (SR.2.1 17) 0 g || pA on tw s f g)) ∧ (¬ st < F → zf_X11_down_zb N z k0 SR = k0 (mq_si SR 23 (-3))) ∧ (st < F → ¬ ln < 1299 → zf_X11_down_zb N z k0 SR = k0 (mq_si (mq_si SR 19 (nI (st + 1))) 23 (-4)))) :
    Tn N z n so on tw d F SC SR st R (fu + 1) fu2 go (mq_cl (zf_X11_down_z N z (fu + 1 + 1) SR) (kD N z fu2)) := by
  have hfw := hc.2.2.2
  obtain ⟨⟨o1, o2, o3, o4, o5, o6⟩, nn, mm, kk, q5, q6, q7, q8, q9, q10, q11, q12, q13, q14⟩ := id q
  obtain ⟨d1, d2, d3⟩ := hdz (fun S => zf_X11_down_z N z (fu + 1) S)
  obtain ⟨f1, f2⟩ := ck_wf (N := N) (z := z) (f := f) (r := nI r) nn o2 o1 o6
  by_cases h1 : st < F
  · by_cases h2 : ln < 1299
    · right
      obtain ⟨c, l3, l4, a1, a2, a3, a4⟩ := ck_wd (N := N) (z := z) (r := r) hc (by omega) nn o2 h1 h2 hf hs (by omega) q10
      obtain ⟨a, b1, b2⟩ := d1 h1 h2
      exact ⟨h1, _, _, w, ec, ln + 1, wt, R, fu + 1, fu2, hgo _ a1, dz_b b1, Or.inl rfl, Nat.le_refl _, by omega, Dn_wd (c := 0) hfw (by omega) q h1 h2 hf hs (by omega) a2 a3 a4 b2, fCl (fCl (fCi (fCi (fCa (fCa ag_rf (by decide)) (by decide)) (by decide)) (by decide)) (by decide)) (by decide), fRa (fRi (fRa (fRa (fRi ag_rf (by decide)) (by decide)) (by decide)) (by decide)) (by decide)⟩
    · left
      exact ⟨_, _, -4, hgo _ (f2 h1 h2), rfl, (dz_b (d3 h1 h2)).trans (dz_end (by decide : ¬ (-4 : Int32) = 0)), ⟨rfl, kk, ⟨ln, o6, nn.2.2.2.2.2.1⟩, Or.inr (Or.inl rfl)⟩, fCi (fCa ag_rf (by decide)) (by decide), fRi (fRi ag_rf (by decide)) (by decide)⟩
  · left
    exact ⟨_, _, -3, hgo _ (f1 h1), rfl, (dz_b (d2 h1)).trans (dz_end (by decide : ¬ (-3 : Int32) = 0)), ⟨nn.2.1.trans mm.2.1.symm, kk, ⟨ln, o6, nn.2.2.2.2.2.1⟩, Or.inl rfl⟩, fCi ag_rf (by decide), fRi ag_rf (by decide)⟩
end TURN
end
/-! a1.turn2 -/
section
/-! The tableau: a turn, EITHER and CLASH. -/
section TURN2
variable {N n F : Nat} {z : Nat → Nat} {so on tw : Nat → Int32} {d : Nat → Nat} {S T SC SR A B : mq_St} {st W w ec ln wt m f p k fu fu2 : Nat} {R P : List Nat}
theorem T_either {go : Option (Unit × mq_St)} (hN : 500 ≤ N) (hc : cxC SC n so on tw d) (hx : cxR SR n so on tw d) (q : Dn n so on tw d F SC SR st w ec ln wt R) (h17 : SC.1 17 = -1) (hf : f < n) (hs : so f = nI 5) (hgo : ∀ S', zf_X8_tryFirst N z (nI f) SC = some ((), S') → go = some ((), S')) (hcl : zf_X11_clash N z SR = some (-1)) (hb : zf_X11_firstBoth N z SR = some (-1)) (hcc : zf_X11_firstSelf N z SR = some (-1)) (hd : zf_X11_firstEither N z SR = some (nI f)) :
    Tn N z n so on tw d F SC SR st R (fu + 1) fu2 go (mq_cl (zf_X11_down_z N z (fu + 1 + 1) SR) (kD N z fu2)) := by
  have hfw := hc.2.2.2
  obtain ⟨⟨o1, o2, o3, o4, o5, o6⟩, nn, mm, kk, q5, q6, q7, q8, q9, q10, q11, q12, q13, q14⟩ := id q
  have hlen := stk_len R w ec wt ln q7
  obtain ⟨d1, d2, d3⟩ := dz_either (N := N) (z := z) (f := f) (k0 := fun S => zf_X11_down_z N z (fu + 1) S) (by omega) hx mm o2 o1 o6 o5 (fun _ => by omega) hf hs hcl hb hcc hd
  obtain ⟨f1, f2, f3⟩ := ck_first (N := N) (z := z) (f := f) (by omega) hc (by omega) nn o2 o1 o6 o5 hf hs q10
  by_cases h1 : st < F
  · by_cases h2 : ln < 1299 ∧ ec < 400
    · right
      obtain ⟨qq, c, l3, l4, a1, a2, a3, a4, a5⟩ := f1 h1 h2.1 h2.2
      obtain ⟨p, a, b1, b2, b3⟩ := d1 h1 h2.1 h2.2
      exact ⟨h1, _, _, w, ec + 1, ln + 1, wt + 1, R, fu + 1, fu2, hgo _ a1, dz_b b1, Or.inl rfl, Nat.le_refl _, by omega, Dn_ei hfw q h17 h1 h2.1 h2.2 hf hs a3 a4 a5 b3 a2 b2, fCl (fCl (fCi (fCi (fCa (fCl (fCi (fCa (fCa ag_rf (by decide)) (by decide)) (by decide)) (by decide)) (by decide)) (by decide)) (by decide)) (by decide)) (by decide), fRa (fRi (fRa (fRa (fRa (fRa (fRa (fRa (fRi (fRi (fRa (fRa (fRi ag_rf (by decide)) (by decide)) (by decide)) (by decide)) (by decide)) (by decide)) (by decide)) (by decide)) (by decide)) (by decide)) (by decide)) (by decide)) (by decide)⟩
    · left
      obtain ⟨S', g1, g2, g3⟩ := d3 h1 h2
      refine ⟨_, _, -4, hgo _ (f3 h1 h2), rfl, (dz_b g1).trans (dz_end (by decide : ¬ (-4 : Int32) = 0)), ⟨g2.symm, ⟨kk.1.trans (g3.1 20 (by decide)).symm, kk.2.1.trans (g3.1 21 (by decide)).symm, kk.2.2.trans (g3.1 22 (by decide)).symm⟩, ⟨ln, o6, nn.2.2.2.2.2.1⟩, Or.inr (Or.inl rfl)⟩, fCi (fCa ag_rf (by decide)) (by decide), fRi (ag_mono g3 (by decide) (by decide) (by decide)) (by decide)⟩
  · left
    exact ⟨_, _, -3, hgo _ (f2 h1), rfl, (dz_b (d2 h1)).trans (dz_end (by decide : ¬ (-3 : Int32) = 0)), ⟨nn.2.1.trans mm.2.1.symm, kk, ⟨ln, o6, nn.2.2.2.2.2.1⟩, Or.inl rfl⟩, fCi ag_rf (by decide), fRi ag_rf (by decide)⟩
theorem T_clash {c : Nat} (hN : 500 ≤ N) (hc : cxC SC n so on tw d) (hx : cxR SR n so on tw d) (q : Dn n so on tw d F SC SR st w ec ln wt R) (h17 : SC.1 17 = nI c) (hcn : c < n) (hcl : zf_X11_clash N z SR = some (nI c)) :
    Tn N z n so on tw d F SC SR st R (fu + 1) fu2 (zf_X8_goOn N z SC) (mq_cl (zf_X11_down_z N z (fu + 1 + 1) SR) (kD N z (fu2 + 1))) := by
  have hfw := hc.2.2.2
  have h300 := hfw.2.1
  obtain ⟨⟨o1, o2, o3, o4, o5, o6⟩, ⟨n1, n2, n3, n4, n5, n6, n7⟩, ⟨m1, m2, m3, m4, m5, m6, m7, m8⟩, kk, q5, q6, q7, q8, q9, q10, q11, q12, q13, q14⟩ := id q
  have hlen := stk_len R w ec wt ln q7
  have pre : zf_X11_down_z N z (fu + 1 + 1) SR = mq_cl (zf_X11_line N z 0 (nI c) SR) (fun q64v S66 => mq_cz q64v (some (q64v, S66))) := by
    show zf_X11_down_zb N z (fun S => zf_X11_down_z N z (fu + 1) S) SR = _
    unfold zf_X11_down_zb
    rw [if_pos m7]
    refine (cp_go hcl).trans ?_
    rw [nI_e, if_neg (nI_nm (by omega))]
  have preC : zf_X8_goOn N z SC = mq_cl (zf_X8_note N z 0 (nI c) SC) (fun q36v S38 => (if q36v = (0 : Int32) then (some ((), S38)) else (mq_cl (zf_X8_goBack N z S38) (fun q39v S41 => (if q39v = (0 : Int32) then (some ((), S41)) else (mq_cl (zf_X8_trySecond N z S41) (fun q42v S44 => (some ((), S44))))))))) := by
    unfold zf_X8_goOn
    rw [if_neg (nI_nn h17 (by omega)), h17]
  by_cases h2 : ln < 1299
  · have nC : zf_X8_note N z 0 (nI c) SC = some (1, ntC SC ln c) := by
      rw [ck_note (S := SC) (ln := ln) 0 (nI c) n6 o6, if_pos h2]
      rfl
    have nR : zf_X11_down_z N z (fu + 1 + 1) SR = some (1, ntR SR ln c) := by
      rw [pre]
      refine (cl_go (x := zf_X11_line N z 0 (nI c) SR) (v := 1) (s := ntR SR ln c) (by rw [rf_line (S := SR) (ln := ln) 0 (nI c) m6 o6, if_pos h2]; rfl)).trans ?_
      rw [mq_cz_1]
    have kR : mq_cl (zf_X11_down_z N z (fu + 1 + 1) SR) (kD N z (fu2 + 1)) = mq_cl (zf_X11_closed_z N z N (ntR SR ln c)) (fun q26v S28 => (mq_nI (q26v) (fun x29 => (if (S28.1 23) = (0 : Int32) then (if x29 = (0 : Int32) then (some ((1 : Int32), S28)) else (zf_X11_tableau_82 N z (fu2 + 1) (x29) S28)) else (some ((S28.1 23), S28)))))) := by
      refine (cl_go nR).trans ?_
      unfold kD
      rw [nI_e]
      refine (if_pos m7).trans ?_
      rw [if_neg (by decide)]
      rfl
    have kC : zf_X8_goOn N z SC = mq_cl (zf_X8_goBack_2 N z N (nI 0) (ntC SC ln c)) (fun q39v S41 => (if q39v = (0 : Int32) then (some ((), S41)) else (mq_cl (zf_X8_trySecond N z S41) (fun q42v S44 => (some ((), S44)))))) := by
      rw [preC]
      refine (cl_go nC).trans ?_
      rw [if_neg (by decide)]
      rfl
    have stN : stk n so on tw d (ntC SC ln c) (ntR SR ln c) (w :: R) ec wt ln := stk_c (SC := SC) (SR := SR) hfw R w ec wt ln ln (Nat.le_refl _) ⟨fun _ _ => ⟨rfl, rfl⟩, fun _ _ => ⟨rfl, fun _ _ => ⟨rfl, rfl⟩⟩, fun _ _ => ⟨rfl, fun _ _ => rfl⟩⟩ (fun _ _ => ⟨rfl, rfl, rfl, rfl, rfl, fun _ _ => rfl⟩) q7
    have lN : lins (ntC SC ln c) (ntR SR ln c) (ln + 1) := lins_put (SC := SC) (SR := SR) (r := 0) (f := c) q5 (by omega) (by omega) rfl rfl rfl
    have frN : frC SC (ntC SC ln c) := fCi (fCa ag_rf (by decide)) (by decide)
    have frM : frR SR (ntR SR ln c) := fRi (fRa (fRa ag_rf (by decide)) (by decide)) (by decide)
    rcases bk (N := N) (z := z) hfw R w wt ln 0 N N (ntC SC ln c) (ntR SR ln c) stN n4 n5 m8 (by omega) o5 (by omega) (by omega) (by omega) with ⟨SC', SR', c1, c2, c3, c4, c5⟩ | ⟨w', R', e0, wt0, ln', SC', SR', c1, c2, c3, c3', c4, c4', c5, c6, c7, c8, c9, c10, c11, c12, c13, c14, c15⟩
    · left
      have r23 : SR'.1 23 = 0 := (c5.1 23 (by decide)).trans m7
      refine ⟨SC', SR', 1, ?_, c3, ?_, ⟨?_, ⟨?_, ?_, ?_⟩, ⟨ln + 1, by omega, (c4.1 20 (by decide)).trans rfl⟩, Or.inr (Or.inr (Or.inl ⟨rfl, ln + 1, by omega, by omega, (c4.1 20 (by decide)).trans rfl, (c5.1 26 (by decide)).trans rfl, fun i hi => ?_⟩))⟩, ag_tr frN (ag_mono c4 (by decide) (by decide) (by decide)), ag_tr frM (ag_mono c5 (by decide) (by decide) (by decide))⟩
      · rw [kC]
        refine (cl_go c1).trans ?_
        rw [if_pos rfl]
      · rw [kR]
        refine (cl_go c2).trans ?_
        rw [nI_e, if_pos r23, if_pos rfl]
      · rw [c4.2.1 21 (by simp), c5.1 19 (by decide)]; exact n2.trans m2.symm
      · rw [c4.2.1 21 (by simp), c5.1 20 (by decide)]; exact kk.1
      · rw [c4.2.1 21 (by simp), c5.1 21 (by decide)]; exact kk.2.1
      · rw [c4.2.1 21 (by simp), c5.1 22 (by decide)]; exact kk.2.2
      · rw [c4.2.1 22 (by simp), c5.2.1 23 (by simp), c5.2.1 24 (by simp)]; exact lN i hi
    · have eC : SC' = bkC SC ln c w' := ag_ii c10 c9 c8
      have eR : SR' = bkR SR ln c w' wt0 := ag_iii c15 c13 c14 c12
      subst eC eR
      have ei : eit n so d SC SR w' e0 wt0 := eit_c (SC := ntC SC ln c) (SR := ntR SR ln c) hfw c5 rfl (fun _ _ => rfl) rfl rfl rfl rfl (fun _ _ => rfl)
      have sk : stk n so on tw d SC SR (w' :: R') e0 wt0 ln' := stk_c (SC := ntC SC ln c) (SR := ntR SR ln c) hfw R' w' e0 wt0 ln' ln' (Nat.le_refl _) ⟨fun _ _ => ⟨rfl, rfl⟩, fun _ _ => ⟨rfl, fun _ _ => ⟨rfl, rfl⟩⟩, fun _ _ => ⟨rfl, fun _ _ => rfl⟩⟩ (fun _ _ => ⟨rfl, rfl, rfl, rfl, rfl, fun _ _ => rfl⟩) c6
      obtain ⟨-, -, -, ⟨f, hf, hs, h26, h20⟩, -, -, hno⟩ := id ei
      have hcB : cxC (bkC SC ln c w') n so on tw d := cxC_c hc rfl rfl rfl rfl rfl rfl
      have hxB : cxR (bkR SR ln c w' wt0) n so on tw d := cxR_c hx rfl rfl rfl rfl
      obtain ⟨f1, f2⟩ := ck_second (N := N) (z := z) (S := bkC SC ln c w') (st := st) (F := F) (e0 := e0) (w := w') (f := f) (by omega) hcB (by omega) n1 n2 rfl (by rw [← c1]; exact n5) o2 o1 (by omega) hf hs h20 hno
      obtain ⟨d1, d2⟩ := rf_second (N := N) (z := z) (S := bkR SR ln c w' wt0) (st := st) (F := F) (e0 := e0) (wt0 := wt0) (f := f) (by omega) hxB m1 m2 rfl (by rw [← c1]; exact m5) o2 o1 c4' hf hs h26
      have frN' : frC SC (bkC SC ln c w') := fCi (fCi frN (by decide)) (by decide)
      have frM' : frR SR (bkR SR ln c w' wt0) := fRi (fRi (fRi frM (by decide)) (by decide)) (by decide)
      have kC' : ∀ S', zf_X8_trySecond N z (bkC SC ln c w') = some ((), S') → zf_X8_goOn N z SC = some ((), S') := fun S' h => by
        rw [kC]
        refine (cl_go c7).trans ?_
        rw [if_neg (by decide)]
        exact cl_go h
      by_cases h1 : st < F
      · right
        obtain ⟨v, l3, l4, a1, a2, a3, a4⟩ := f1 h1
        obtain ⟨a, b1, b2⟩ := d1 h1
        refine ⟨h1, _, _, w', e0, ln + 1, wt0, R', N, fu2, kC' _ a1, ?_, Or.inr rfl, Nat.le_refl _, by omega, Dn_se (f := f) hfw q h1 h2 hcn c1 c2 c3 c4 ei sk hf hs a2 a3 a4 b2, fCl (fCl (fCi (fCl (fCi (fCa frN' (by decide)) (by decide)) (by decide)) (by decide)) (by decide)) (by decide), fRa (fRi (fRi frM' (by decide)) (by decide)) (by decide)⟩
        rw [kR]
        refine (cl_go (c11.trans b1)).trans ?_
        rw [nI_e]
        refine (if_pos m7).trans ?_
        rw [if_neg (by decide)]
        exact t82_D (by decide)
      · left
        obtain ⟨a, b1⟩ := d2 h1
        refine ⟨mq_si (bkC SC ln c w') 19 (-3), mq_si (mq_sa (mq_si (bkR SR ln c w' wt0) 28 (nI e0)) 17 a) 23 (-3), -3, kC' _ (f2 h1), rfl, ?_, ⟨n2.trans m2.symm, kk, ⟨ln + 1, by omega, rfl⟩, Or.inl rfl⟩, fCi frN' (by decide), fRi (fRa (fRi frM' (by decide)) (by decide)) (by decide)⟩
        rw [kR]
        refine (cl_go (c11.trans b1)).trans ?_
        rw [nI_e]
        exact if_neg (by decide : ¬ (-3 : Int32) = 0)
  · left
    refine ⟨mq_si SC 19 (-4), mq_si SR 23 (-4), -4, ?_, rfl, ?_, ⟨n2.trans m2.symm, kk, ⟨ln, o6, n6⟩, Or.inr (Or.inl rfl)⟩, fCi ag_rf (by decide), fRi ag_rf (by decide)⟩
    · rw [preC]
      refine (cl_go (x := zf_X8_note N z 0 (nI c) SC) (v := 0) (s := mq_si SC 19 (-4)) (by rw [ck_note (S := SC) (ln := ln) 0 (nI c) n6 o6, if_neg h2])).trans ?_
      rw [if_pos rfl]
    · have : zf_X11_down_z N z (fu + 1 + 1) SR = some (0, mq_si SR 23 (-4)) := by
        rw [pre]
        refine (cl_go (x := zf_X11_line N z 0 (nI c) SR) (v := 0) (s := mq_si SR 23 (-4)) (by rw [rf_line (S := SR) (ln := ln) 0 (nI c) m6 o6, if_neg h2])).trans ?_
        rw [mq_cz_0]
      exact (cl_go this).trans (kD_f (by decide : ¬ (-4 : Int32) = 0))
end TURN2
end
