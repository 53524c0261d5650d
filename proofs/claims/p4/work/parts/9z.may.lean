/-! The tableau: a turn that looks at a MAY. -/
section MAY
variable {N n F : Nat} {z : Nat → Nat} {so on tw : Nat → Int32} {d : Nat → Nat} {S T SC SR A B : mq_St} {st W w ec ln wt m f p k : Nat} {R P : List Nat}
theorem fCi {v : Int32} (h : frC A B) (hk : k ∈ [14, 15, 16, 17, 18, 19, 20]) : frC A (mq_si B k v) := ag_tr h (ag_si hk)
theorem fCa {v : Nat → Int32} (h : frC A B) (hk : k ∈ [16, 17, 18, 19, 20, 21, 22]) : frC A (mq_sa B k v) := ag_tr h (ag_sa hk)
theorem fCl {v : Nat → Int64} (h : frC A B) (hk : k ∈ [1, 2, 3, 4, 5]) : frC A (mq_sl B k v) := ag_tr h (ag_sl hk)
theorem fRi {v : Int32} (h : frR A B) (hk : k ∈ [18, 19, 20, 21, 22, 23, 24, 25, 26, 27, 28]) : frR A (mq_si B k v) := ag_tr h (ag_si hk)
theorem fRa {v : Nat → Int32} (h : frR A B) (hk : k ∈ [17, 18, 19, 20, 21, 22, 23, 24, 25, 26, 27, 28, 29, 30, 31]) : frR A (mq_sa B k v) := ag_tr h (ag_sa hk)
def lkC (S : mq_St) (st : Nat) (l4 l2 : Nat → Int64) : mq_St := mq_sl (mq_sl (mq_sa S 21 (upd (S.2.1 21) 0 (nI (st + 1)))) 4 l4) 2 l2
def lkR (S : mq_St) (st wt f : Nat) (a : Nat → Int32) : mq_St := mq_sa (mq_si (mq_sa S 26 (upd (S.2.1 26) wt (nI f))) 19 (nI (st + 1))) 31 a
theorem fr_lkC {l4 l2 : Nat → Int64} : frC S (lkC S st l4 l2) := fCl (fCl (fCa ag_rf (by decide)) (by decide)) (by decide)
theorem fr_lkR {a : Nat → Int32} : frR S (lkR S st wt f a) := fRa (fRi (fRa ag_rf (by decide)) (by decide)) (by decide)
theorem lk_may {l4 : Nat → Int64} {l e : Nat} (hfw : fw n so on tw d) (q : may n so on tw d SC SR w m l e) (hf : f < n) (hm : m ≤ f) (ht : td so on tw 7 (lb (SC.2.2 3) w) f) (hmin : ∀ g, g < f → ¬ (m ≤ g ∧ td so on tw 7 (lb (SC.2.2 3) w) g)) (c3 : ∀ g, g < 320 → lb (S.2.2 3) w g = lb (SC.2.2 3) w g) (c4 : ∀ g, g < 320 → lb (S.2.2 4) w g = (lb (SC.2.2 4) w g && !decide (g = f))) (r25 : T.2.1 25 e = SR.2.1 25 e) (r26 : T.2.1 26 e = nI f) (r27 : T.2.1 27 e = SR.2.1 27 e) (r29 : T.2.1 29 e = SR.2.1 29 e) (r30 : T.2.1 30 = SR.2.1 30) : may n so on tw d S T w (f + 1) l e := by
  have h300 := hfw.2.1
  obtain ⟨a1, a2, a2', a3, a4, a5, b1, b2, b3, b4, b5⟩ := q
  refine ⟨r25.trans a1, by rw [r26]; exact nI_1 f, by omega, r27.trans a3, r29.trans a4, fun g hg => by rw [r30, c3 g hg]; exact a5 g hg, fun g hg x => b1 g hg ((c3 g hg).symm.trans x), fun c hc x => b2 c hc ((cls_x hfw c3 hc).mp x), fun s g h4 h6 hg x => b3 s g h4 h6 hg ((td_x hfw c3 hg h4 (by omega)).mp x), fun g hg x => ?_, fun g hg x => ?_⟩
  · rw [c4 g hg, Bool.and_eq_true] at x
    rw [c3 g hg]; exact b4 g hg x.1
  · have x' := (td_x hfw c3 hg (by omega) (by omega)).mp x
    rw [c4 g (by omega), Bool.and_eq_true]
    have y := b5 g hg x'
    constructor
    · rintro ⟨u1, u2⟩
      have : ¬ g = f := by simpa using u2
      have h1 := y.mp u1
      by_cases h2 : g < f
      · exact absurd ⟨h1, x'⟩ (hmin g h2)
      · omega
    · intro u
      exact ⟨y.mpr (by omega), by simp; omega⟩
theorem M_may {fu fu2 : Nat} (hN : 500 ≤ N) (hc : cxC SC n so on tw d) (hx : cxR SR n so on tw d) (q : Mn n so on tw d F SC SR st W w ec ln wt m R) (hf : f < n) (hm : m ≤ f) (ht : td so on tw 7 (lb (SC.2.2 3) w) f) (hmin : ∀ g, g < f → ¬ (m ≤ g ∧ td so on tw 7 (lb (SC.2.2 3) w) g)) :
    (∃ SC' SR' v, zf_X8_lookAtMay N z (nI f) SC = some ((), SC') ∧ SC'.1 19 = v ∧ (v = -3 ∨ v = -4) ∧ mq_cl (zf_X11_mays_54 N z (fu + 1) (nI wt) (nI f) SR) (kM N z (fu2 + 1)) = some (v, SR') ∧ SC'.2.1 21 0 = SR'.1 19 ∧ cnt SC' SR' ∧ frC SC SC' ∧ frR SR SR' ∧ SC'.1 20 = nI ln) ∨
    (st < F ∧ ∃ SC' SR' x, zf_X8_lookAtMay N z (nI f) SC = some ((), SC') ∧ mq_cl (zf_X11_mays_54 N z (fu + 1) (nI wt) (nI f) SR) (kM N z (fu2 + 1)) = mq_cl (zf_X11_mays_54 N z fu (nI wt) x SR') (kM N z (fu2 + 1)) ∧ lst n (fun g => f + 1 ≤ g ∧ td so on tw 7 (lb (SC'.2.2 3) w) g) x ∧ Mn n so on tw d F SC' SR' (st + 1) W w ec ln wt (f + 1) R ∧ frC SC SC' ∧ frR SR SR') ∨
    (st < F ∧ ∃ SC' SR', zf_X8_lookAtMay N z (nI f) SC = some ((), SC') ∧ mq_cl (zf_X11_mays_54 N z (fu + 1) (nI wt) (nI f) SR) (kM N z (fu2 + 1)) = mq_cl (zf_X11_down_z N z N SR') (kD N z fu2) ∧ Dn n so on tw d F SC' SR' (st + 1) W ec (ln + 1) (wt + 1) (w :: R) ∧ frC SC SC' ∧ frR SR SR') := by
  have hfw := hc.2.2.2
  have h300 := hfw.2.1
  obtain ⟨p1f, p2f, p3f, p4f⟩ := fw_1 hfw hf ht.1 (by omega) (by omega)
  obtain ⟨⟨o1, o2, o3, o4, o5, o6⟩, ⟨n1, n2, n3, n4, n5, n6, n7⟩, ⟨m1, m2, m3, m4, m5, m6, m7, m8⟩, ⟨k1, k2, k3⟩, q5, q6, q7, q8, q9, q10, q11, q12⟩ := id q
  have hlen := stk_len R w ec wt ln q7
  have i1 : vp_in (nI w) 60 := vp_in_nI (by omega) (by omega)
  have c1 : (nI w).toNatClampNeg = w := nI_clamp (by omega)
  have i3 : vp_in (nI wt) 470 := vp_in_nI (by omega) (by omega)
  have c3 : (nI wt).toNatClampNeg = wt := nI_clamp (by omega)
  have i2 : vp_in (2 : Int32) 4 := vp_in_nI (n := 2) (by omega) (by omega)
  by_cases h1 : st < F
  · -- the START on either side
    have t1 : zf_X8_step N z SC = some (1, mq_sa SC 21 (upd (SC.2.1 21) 0 (nI (st + 1)))) := by rw [ck_step n2 n1 o1 o2, if_pos h1]
    obtain ⟨l4, d1, d2⟩ := se_drop (N := N) (R := 60) (r := w) (f := f) (z := fun k => [300].getD k 0) (S := mq_pull (mq_sa SC 21 (upd (SC.2.1 21) 0 (nI (st + 1)))) [] [] [4]) rfl (by omega) (by omega) (by omega)
    have hc6 : cxC (mq_sl (mq_sa SC 21 (upd (SC.2.1 21) 0 (nI (st + 1)))) 4 l4) n so on tw d := cxC_c hc rfl rfl rfl rfl rfl rfl
    have t3 : zf_X7_firstOf N z (nI f) (mq_sl (mq_sa SC 21 (upd (SC.2.1 21) 0 (nI (st + 1)))) 4 l4) = some (nI (p1 on f)) := by rw [(ck_in hc6.1 h300 hf).2.1, (hc6.2.1 f hf).2.1, ← p2f]
    obtain ⟨l2, t4, t5⟩ := ck_dst (N := N) (z := z) (W := W) (w := w) (p := p1 on f) (by omega) hc6 n3 n4 (by omega) o4 (by omega)
    have hx18 : cxR (mq_si (mq_sa SR 26 (upd (SR.2.1 26) wt (nI f))) 19 (nI (st + 1))) n so on tw d := cxR_c hx rfl rfl rfl rfl
    obtain ⟨a, u3, u4⟩ := rf_mks (N := N) (z := z) hx18 (by omega) hf ht.1
    have u2 : zf_X11_step N z (mq_sa SR 26 (upd (SR.2.1 26) wt (nI f))) = some (1, mq_si (mq_sa SR 26 (upd (SR.2.1 26) wt (nI f))) 19 (nI (st + 1))) := by rw [rf_step (S := mq_sa SR 26 (upd (SR.2.1 26) wt (nI f))) (st := st) (F := F) m2 m1 o1 o2, if_pos h1]
    have y4 : ∀ v g, g < 320 → lb l4 v g = (lb (SC.2.2 4) v g && !decide (v = w ∧ g = f)) := d2
    have y2 : ∀ v g, g < 320 → lb l2 v g = if v = W then sta n so (lb (SC.2.2 3) w) (p1 on f) g else lb (SC.2.2 2) v g := t5
    have ya : ∀ g, g < 320 → ib a 0 g = lb l2 W g := fun g hg => by
      rw [u4 g hg, y2 W g hg, if_pos rfl]
      unfold sta
      rw [show ib ((mq_si (mq_sa SR 26 (upd (SR.2.1 26) wt (nI f))) 19 (nI (st + 1))).2.1 17) 0 g = lb (SC.2.2 3) w g from q9 g hg]
    obtain ⟨x, w1, w2, w3⟩ := home (N := N) (z := z) (S := lkC SC st l4 l2) (T := lkR SR st wt f a) (SC := SC) (SR := SR) (n := n) (so := so) (on := on) (tw := tw) (d := d) (by omega) n3 o4 (fun _ _ => rfl) (fun v hv => (q6 v hv).1.symm) (fun v g hv hg => by
      show lb l2 v g = _
      rw [y2 v g hg, if_neg (by omega)]; exact (q6 v hv).2.2 g hg) (fun g hg => (ya g hg).symm) R w 0 N N ec wt ln q7 o3 (by omega) (by omega) (by omega)
    have preC : zf_X8_lookAtMay N z (nI f) SC = (if x = (-1 : Int32) then (mq_cp (zf_X3_size N z (mq_pull (lkC SC st l4 l2) [20] [22] [])) (fun q15 => (mq_ck (((lkC SC st l4 l2).1 16)) 60 (mq_nS (mq_sa (lkC SC st l4 l2) 19 (upd ((lkC SC st l4 l2).2.1 19) (((lkC SC st l4 l2).1 16)).toNatClampNeg (q15))) (fun S18 => (if (S18.1 15) < (60 : Int32) then (mq_cl (zf_X8_note N z ((4 : Int32)) (nI f) S18) (fun q19v S21 => (if q19v = (0 : Int32) then (some ((), S21)) else (mq_ck ((S21.1 16)) 60 (mq_cl (zf_X8_beginWorld N z ((S21.1 16)) (((S21.2.1 17 ((S21.1 16)).toNatClampNeg) + (1 : Int32))) S21) (fun q23v S25 => (some ((), S25)))))))) else (mq_nS (mq_si S18 19 ((-4 : Int32))) (fun S27 => (some ((), S27)))))))))) else (mq_ck ((2 : Int32)) 4 (mq_ck ((2 : Int32)) 4 (mq_nS (mq_sa (lkC SC st l4 l2) 21 (upd ((lkC SC st l4 l2).2.1 21) ((2 : Int32)).toNatClampNeg ((((lkC SC st l4 l2).2.1 21 ((2 : Int32)).toNatClampNeg) + (1 : Int32))))) (fun S31 => (mq_ck ((S31.1 16)) 60 (mq_ck ((S31.1 16)) 60 (mq_nS (mq_sl S31 1 (vp_updL (S31.2.2 1) ((S31.1 16)).toNatClampNeg (((S31.2.2 1 ((S31.1 16)).toNatClampNeg) ||| (mq_lshl (1 : Int64) x))))) (fun S34 => (some ((), S34)))))))))))  := by
      unfold zf_X8_lookAtMay
      refine (cl_go t1).trans ?_
      rw [if_neg (by decide), show (mq_sa SC 21 (upd (SC.2.1 21) 0 (nI (st + 1)))).1 16 = nI w from n4]
      refine (cl_go d1).trans ?_
      rw [push1, nS_e]
      refine (cp_go t3).trans ((cl_go t4).trans ?_)
      have : zf_X8_worldOfStart N z (lkC SC st l4 l2) = some x := by
        unfold zf_X8_worldOfStart
        rw [show (lkC SC st l4 l2).1 16 = nI w from n4, nI_e, nI_e]
        exact w1
      refine (cp_go this).trans ?_
      rw [nI_e]
      rfl
    have preR : zf_X11_mays_54 N z (fu + 1) (nI wt) (nI f) SR = (if x = (-1 : Int32) then (mq_cl (zf_X11_line N z ((4 : Int32)) (nI f) (lkR SR st wt f a)) (fun q31v S33 => (if q31v = (0 : Int32) then (mq_cz ((0 : Int32)) (some ((0 : Int32), S33))) else (if (S33.1 24) = (60 : Int32) then (mq_nS (mq_si S33 23 ((-4 : Int32))) (fun S41 => (mq_cz ((0 : Int32)) (some ((0 : Int32), S41))))) else (mq_cl (zf_X11_copy N (fun k => [10, 10].getD k 0) ((0 : Int32)) ((0 : Int32)) (mq_pull S33 [] [31, 17] [])) (fun q34v q34s => mq_nS (mq_push S33 q34s [] [31, 17] []) (fun S36 => (mq_cl (zf_X11_begins N z ((S36.1 25)) S36) (fun q37v S39 => (mq_cz ((1 : Int32)) (some ((1 : Int32), S39)))))))))))) else (mq_nS (mq_si (lkR SR st wt f a) 21 ((((lkR SR st wt f a).1 21) + (1 : Int32)))) (fun S25 => (mq_ck ((((60 : Int32) * (S25.1 25)) + x)) 3600 (mq_nS (mq_sa S25 22 (upd (S25.2.1 22) ((((60 : Int32) * (S25.1 25)) + x)).toNatClampNeg (vp_nar .boolean ((1 : Int32))))) (fun S27 => (mq_cp (zf_X11_nextMay N z (nI f) S27) (fun q28 => (mq_nI (q28) (fun x30 => (zf_X11_mays_54 N z fu (nI wt) (x30) S27))))))))))) := by
      show zf_X11_mays_54b N z (fun v1 v2 S => zf_X11_mays_54 N z fu v1 v2 S) (nI wt) (nI f) SR = _
      unfold zf_X11_mays_54b
      rw [if_neg (nI_nm (by omega)), mq_ck_of i3, c3, nS_e]
      refine (cl_go u2).trans ?_
      rw [if_neg (by decide)]
      refine (cl_go u3).trans ?_
      have : zf_X11_samePlace N z (lkR SR st wt f a) = some x := by
        unfold zf_X11_samePlace
        rw [show (lkR SR st wt f a).1 25 = nI w from m4, nI_e]
        exact w2
      refine (cp_go this).trans ?_
      rw [nI_e]
      rfl
    have rows4 : ∀ p g, p < w → g < 320 → lb l4 p g = lb (SC.2.2 4) p g := fun p g hp hg => by
      rw [y4 p g hg, decide_eq_false (fun q => by have := q.1; omega), Bool.not_false, Bool.and_true]
    have row4 : ∀ g, g < 320 → lb l4 w g = (lb (SC.2.2 4) w g && !decide (g = f)) := fun g hg => by
      rw [y4 w g hg]
      congr 2
      rw [decide_eq_decide]
      exact ⟨fun q => q.2, fun q => ⟨rfl, q⟩⟩
    rcases w3 with rfl | ⟨u, u5, u6, rfl⟩
    · by_cases h2 : ln < 1299 ∧ W < 60
      · right; right
        obtain ⟨h2, h3⟩ := h2
        have e15 : (nI W < (60 : Int32)) := (nI_ltI (b := 60) (by omega) (by omega)).mpr h3
        have e24 : ¬ nI W = (60 : Int32) := fun q => by have := (nI_eq (b := 60) (a := W) (by omega) (by omega)).mp q; omega
        obtain ⟨q3, q4, v1, v2, v3⟩ := ck_bgw (N := N) (z := z) (v1 := nI w) (v2 := SC.2.1 17 w + 1) (W := W) (S := mq_si (mq_sa (mq_sa (lkC SC st l4 l2) 19 (upd (SC.2.1 19) w (nI ln))) 22 (upd (SC.2.1 22) ln ((nI 4 <<< ((16 : Int32) &&& 31)) ||| nI f))) 20 (nI (ln + 1))) (by omega) h3 n3
        obtain ⟨qc, r1, r2, r3⟩ := rf_cp (N := N) (S := mq_si (mq_sa (mq_sa (lkR SR st wt f a) 23 (upd (SR.2.1 23) ln (nI 4))) 24 (upd (SR.2.1 24) ln (nI f))) 26 (nI (ln + 1))) (a := 31) (b := 17) (ra := 0) (rb := 0) (R := 1) (R' := 1) (y := fun k => [10, 10].getD k 0) (by omega) (by decide) rfl rfl (by omega) (by omega) (by omega) (by omega)
        obtain ⟨qb, g1, g2⟩ := rf_bgw (N := N) (z := z) (v1 := nI w) (v2 := SC.2.1 17 w + 1) (W := W) (S := mq_sa (mq_si (mq_sa (mq_sa (lkR SR st wt f a) 23 (upd (SR.2.1 23) ln (nI 4))) 24 (upd (SR.2.1 24) ln (nI f))) 26 (nI (ln + 1))) 17 qc) (by omega) h3 m3 (Or.inr ⟨w, o3, rfl, congrArg (· + 1) (q6 w o3).2.1⟩)
        refine ⟨h1, _, _, ?_, ?_, Dn_bg (S := mq_si (mq_sa (mq_sa (lkC SC st l4 l2) 19 (upd (SC.2.1 19) w (nI ln))) 22 (upd (SC.2.1 22) ln ((nI 4 <<< ((16 : Int32) &&& 31)) ||| nI f))) 20 (nI (ln + 1))) (T := mq_sa (mq_si (mq_sa (mq_sa (lkR SR st wt f a) 23 (upd (SR.2.1 23) ln (nI 4))) 24 (upd (SR.2.1 24) ln (nI f))) 26 (nI (ln + 1))) 17 qc) (W := W) (p := p1 on f) (v1 := nI w) (v2 := SC.2.1 17 w + 1) (q3 := q3) (q4 := q4) (q := qb) (st := st + 1) (ln := ln + 1) (wt := wt + 1) (ec := ec) (F := F) (P := w :: R) hfw hx.2.2.1 ⟨by omega, o2, h3, o5, by omega⟩ n1 rfl n5 rfl n7 m1 rfl m5 rfl m7 m8 ⟨k1, k2, k3⟩ (lins_put (SC := SC) (SR := SR) (r := 4) (f := f) q5 (by omega) (by omega) rfl rfl rfl) (fun v hv => ⟨(q6 v hv).1, (q6 v hv).2.1, fun g hg => ?_⟩) (fun g hg => ?_) (fun g hg b => ?_) (fun v hv => q11 v hv) (fun v hv hP g hg => ?_) v2 v3 g2 ⟨ec, 0, wt + 1, (up_s _ _ _).trans n5, by omega, by omega, fun j hj => by omega, Or.inr ⟨w, f + 1, ln, wt, rfl, up_s _ _ _, o3, rfl, lk_may (SC := SC) (SR := SR) (l4 := l4) hfw q8 hf hm ht hmin (fun g hg => ?_) (fun g hg => ?_) rfl (up_s _ _ _) rfl rfl rfl, by omega, up_s _ _ _, stk_c (SC := SC) (SR := SR) hfw R w ec wt ln ln (Nat.le_refl _) ⟨fun p hp => ⟨up_o (by omega), up_o (by omega)⟩, fun p hp => ⟨up_o (by omega), fun g hg => ⟨?_, ?_⟩⟩, fun j _ => ⟨rfl, fun _ _ => rfl⟩⟩ (fun e he => ⟨rfl, up_o (by omega), rfl, rfl, rfl, fun _ _ => rfl⟩) q7⟩⟩, ?_, ?_⟩
        · rw [preC, if_pos rfl]
          refine (cp_go (v := nI ln) (congrArg some n6)).trans ?_
          rw [show (lkC SC st l4 l2).1 16 = nI w from n4, mq_ck_of i1, c1, nS_e, show (mq_sa (lkC SC st l4 l2) 19 (upd ((lkC SC st l4 l2).2.1 19) w (nI ln))).1 15 = nI W from n3, if_pos e15]
          have nt : zf_X8_note N z 4 (nI f) (mq_sa (lkC SC st l4 l2) 19 (upd ((lkC SC st l4 l2).2.1 19) w (nI ln))) = some (1, mq_si (mq_sa (mq_sa (lkC SC st l4 l2) 19 (upd (SC.2.1 19) w (nI ln))) 22 (upd (SC.2.1 22) ln ((nI 4 <<< ((16 : Int32) &&& 31)) ||| nI f))) 20 (nI (ln + 1))) := by
            rw [ck_note (S := mq_sa (lkC SC st l4 l2) 19 (upd ((lkC SC st l4 l2).2.1 19) w (nI ln))) (ln := ln) 4 (nI f) n6 o6, if_pos h2]
            rfl
          refine (cl_go nt).trans ?_
          rw [if_neg (by decide), show (mq_si (mq_sa (mq_sa (lkC SC st l4 l2) 19 (upd (SC.2.1 19) w (nI ln))) 22 (upd (SC.2.1 22) ln ((nI 4 <<< ((16 : Int32) &&& 31)) ||| nI f))) 20 (nI (ln + 1))).1 16 = nI w from n4, mq_ck_of i1, c1]
          exact cl_go v1
        · have li : zf_X11_line N z 4 (nI f) (lkR SR st wt f a) = some (1, mq_si (mq_sa (mq_sa (lkR SR st wt f a) 23 (upd (SR.2.1 23) ln (nI 4))) 24 (upd (SR.2.1 24) ln (nI f))) 26 (nI (ln + 1))) := by
            rw [rf_line (S := lkR SR st wt f a) (ln := ln) 4 (nI f) m6 o6, if_pos h2]
            rfl
          have all : zf_X11_mays_54 N z (fu + 1) (nI wt) (nI f) SR = some (1, bgR (mq_sa (mq_si (mq_sa (mq_sa (lkR SR st wt f a) 23 (upd (SR.2.1 23) ln (nI 4))) 24 (upd (SR.2.1 24) ln (nI f))) 26 (nI (ln + 1))) 17 qc) W (nI w) (SC.2.1 17 w + 1) qb) := by
            rw [preR, if_pos rfl]
            refine (cl_go li).trans ?_
            rw [if_neg (by decide), show (mq_si (mq_sa (mq_sa (lkR SR st wt f a) 23 (upd (SR.2.1 23) ln (nI 4))) 24 (upd (SR.2.1 24) ln (nI f))) 26 (nI (ln + 1))).1 24 = nI W from m3, if_neg e24]
            refine (cl_go r1).trans ?_
            rw [r2, nS_e, show (mq_sa (mq_si (mq_sa (mq_sa (lkR SR st wt f a) 23 (upd (SR.2.1 23) ln (nI 4))) 24 (upd (SR.2.1 24) ln (nI f))) 26 (nI (ln + 1))) 17 qc).1 25 = nI w from m4]
            refine (cl_go g1).trans ?_
            rw [mq_cz_1]
          refine (cl_go all).trans ?_
          unfold kM
          rw [nI_e]
          refine (if_pos m7).trans ?_
          rw [if_neg (by decide)]
          exact t82_D (by decide)
        · show lb l2 v g = _
          rw [y2 v g hg, if_neg (by omega)]; exact (q6 v hv).2.2 g hg
        · show ib qc 0 g = lb l2 W g
          rw [r3 0 g hg, if_pos rfl]; exact ya g hg
        · have b' : lb l2 W g = true := b
          rw [y2 W g hg, if_pos rfl] at b'
          unfold sta at b'
          rw [Bool.or_eq_true, Bool.and_eq_true] at b'
          rcases b' with ⟨-, b'⟩ | b'
          · have := of_decide_eq_true b'
            exact ⟨this.1, Or.inl this.2⟩
          · have := of_decide_eq_true b'
            exact ⟨by omega, Or.inr this⟩
        · exact q12 v hv (fun e => hP (by rw [e]; exact List.mem_cons_self)) (fun e => hP (List.mem_cons_of_mem _ e)) g hg
        · show lb q3 w g = _
          rw [v2 w g hg, if_neg (by omega)]
          rfl
        · show lb q4 w g = _
          rw [v3 w g hg, if_neg (by omega)]
          exact row4 g hg
        · show lb q3 p g = _
          rw [v2 p g hg, if_neg (by omega)]
          rfl
        · show lb q4 p g = _
          rw [v3 p g hg, if_neg (by omega)]
          exact rows4 p g hp hg
        · exact fCi (fCl (fCa (fCa (fCa (fCl (fCl (fCa (fCi (fCi (fCi (fCa (fCa fr_lkC (by decide)) (by decide)) (by decide)) (by decide)) (by decide)) (by decide)) (by decide)) (by decide)) (by decide)) (by decide)) (by decide)) (by decide)) (by decide)
        · exact fRi (fRa (fRi (fRa (fRa (fRi (fRi (fRa (fRi (fRa (fRa fr_lkR (by decide)) (by decide)) (by decide)) (by decide)) (by decide)) (by decide)) (by decide)) (by decide)) (by decide)) (by decide)) (by decide)
      · left
        have preC' : zf_X8_lookAtMay N z (nI f) SC = some ((), mq_si (mq_sa (lkC SC st l4 l2) 19 (upd ((lkC SC st l4 l2).2.1 19) w (nI ln))) 19 (-4)) := by
          rw [preC, if_pos rfl]
          refine (cp_go (v := nI ln) (congrArg some n6)).trans ?_
          rw [show (lkC SC st l4 l2).1 16 = nI w from n4, mq_ck_of i1, c1, nS_e, show (mq_sa (lkC SC st l4 l2) 19 (upd ((lkC SC st l4 l2).2.1 19) w (nI ln))).1 15 = nI W from n3]
          by_cases h3 : W < 60
          · have e15 : (nI W < (60 : Int32)) := (nI_ltI (b := 60) (by omega) (by omega)).mpr h3
            rw [if_pos e15]
            have nt : zf_X8_note N z 4 (nI f) (mq_sa (lkC SC st l4 l2) 19 (upd ((lkC SC st l4 l2).2.1 19) w (nI ln))) = some (0, mq_si (mq_sa (lkC SC st l4 l2) 19 (upd ((lkC SC st l4 l2).2.1 19) w (nI ln))) 19 (-4)) := by
              rw [ck_note (S := mq_sa (lkC SC st l4 l2) 19 (upd ((lkC SC st l4 l2).2.1 19) w (nI ln))) (ln := ln) 4 (nI f) n6 o6, if_neg (fun q => h2 ⟨q, h3⟩)]
            refine (cl_go nt).trans ?_
            rw [if_pos rfl]
          · have e15 : ¬ (nI W < (60 : Int32)) := fun q => h3 ((nI_ltI (b := 60) (by omega) (by omega)).mp q)
            rw [if_neg e15, nS_e]
        have frc : frC SC (mq_si (mq_sa (lkC SC st l4 l2) 19 (upd ((lkC SC st l4 l2).2.1 19) w (nI ln))) 19 (-4)) := fCi (fCa fr_lkC (by decide)) (by decide)
        by_cases h3 : ln < 1299
        · have e24 : nI W = (60 : Int32) := (nI_eq (b := 60) (a := W) (by omega) (by omega)).mpr (by omega)
          have li : zf_X11_line N z 4 (nI f) (lkR SR st wt f a) = some (1, mq_si (mq_sa (mq_sa (lkR SR st wt f a) 23 (upd (SR.2.1 23) ln (nI 4))) 24 (upd (SR.2.1 24) ln (nI f))) 26 (nI (ln + 1))) := by
            rw [rf_line (S := lkR SR st wt f a) (ln := ln) 4 (nI f) m6 o6, if_pos h3]
            rfl
          have all : zf_X11_mays_54 N z (fu + 1) (nI wt) (nI f) SR = some (0, mq_si (mq_si (mq_sa (mq_sa (lkR SR st wt f a) 23 (upd (SR.2.1 23) ln (nI 4))) 24 (upd (SR.2.1 24) ln (nI f))) 26 (nI (ln + 1))) 23 (-4)) := by
            rw [preR, if_pos rfl]
            refine (cl_go li).trans ?_
            rw [if_neg (by decide), show (mq_si (mq_sa (mq_sa (lkR SR st wt f a) 23 (upd (SR.2.1 23) ln (nI 4))) 24 (upd (SR.2.1 24) ln (nI f))) 26 (nI (ln + 1))).1 24 = nI W from m3, if_pos e24, nS_e, mq_cz_0]
          refine ⟨_, _, -4, preC', rfl, Or.inr rfl, (cl_go all).trans (kM_f (by decide : ¬ (-4 : Int32) = 0)), rfl, ⟨k1, k2, k3⟩, frc, fRi (fRi (fRa (fRa fr_lkR (by decide)) (by decide)) (by decide)) (by decide), n6⟩
        · have all : zf_X11_mays_54 N z (fu + 1) (nI wt) (nI f) SR = some (0, mq_si (lkR SR st wt f a) 23 (-4)) := by
            rw [preR, if_pos rfl]
            refine (cl_go (x := zf_X11_line N z 4 (nI f) (lkR SR st wt f a)) (v := 0) (s := mq_si (lkR SR st wt f a) 23 (-4)) (by rw [rf_line (S := lkR SR st wt f a) (ln := ln) 4 (nI f) m6 o6, if_neg h3])).trans ?_
            rw [if_pos rfl, mq_cz_0]
          refine ⟨_, _, -4, preC', rfl, Or.inr rfl, (cl_go all).trans (kM_f (by decide : ¬ (-4 : Int32) = 0)), rfl, ⟨k1, k2, k3⟩, frc, fRi fr_lkR (by decide), n6⟩
    · right; left
      have e60 : (60 : Int32) * nI w + nI u = nI (60 * w + u) := by rw [show (60 : Int32) = nI 60 from rfl, pk_mul, nI_add]
      have hx27 : cxR (mq_sa (mq_si (lkR SR st wt f a) 21 (SR.1 21 + 1)) 22 (upd (SR.2.1 22) (60 * w + u) 1)) n so on tw d := cxR_c hx rfl rfl rfl rfl
      obtain ⟨x, b1, b2⟩ := rs_may (N := N) (z := z) (v := nI f) (k := f + 1) (by omega) hx27 (by omega) (nI_1 f)
      refine ⟨h1, mq_sl (mq_sa (lkC SC st l4 l2) 21 (upd (upd (SC.2.1 21) 0 (nI (st + 1))) 2 (SC.2.1 21 2 + 1))) 1 (vp_updL (SC.2.2 1) w (SC.2.2 1 w ||| mq_lshl 1 (nI u))), mq_sa (mq_si (lkR SR st wt f a) 21 (SR.1 21 + 1)) 22 (upd (SR.2.1 22) (60 * w + u) 1), x, ?_, ?_, lst_s b2 (fun g hg => ?_), ⟨⟨by omega, o2, o3, o4, o5, o6⟩, ⟨n1, rfl, n3, n4, n5, n6, n7⟩, ⟨m1, rfl, m3, m4, m5, m6, m7, m8⟩, ⟨k1, congrArg (· + 1) k2, k3⟩, q5, fun v hv => ⟨(q6 v hv).1, (q6 v hv).2.1, fun g hg => ?_⟩, stk_c (SC := SC) (SR := SR) hfw R w ec wt ln ln (Nat.le_refl _) ⟨fun p hp => ⟨rfl, rfl⟩, fun p hp => ⟨rfl, fun g hg => ⟨rfl, rows4 p g hp hg⟩⟩, fun j _ => ⟨rfl, fun _ _ => rfl⟩⟩ (fun e he => ⟨rfl, up_o (by omega), rfl, rfl, rfl, fun _ _ => rfl⟩) q7, lk_may (SC := SC) (SR := SR) (l4 := l4) hfw q8 hf hm ht hmin (fun g hg => rfl) row4 rfl (up_s _ _ _) rfl rfl rfl, q9, q10, fun v hv b hb => ?_, q12⟩, fCl (fCa fr_lkC (by decide)) (by decide), fRa (fRi fr_lkR (by decide)) (by decide)⟩
      · rw [preC, if_neg (nI_nm (by omega)), mq_ck_of i2, mq_ck_of i2, nS_e]
        rw [show (mq_sa (lkC SC st l4 l2) 21 (upd ((lkC SC st l4 l2).2.1 21) (Int32.toNatClampNeg 2) ((lkC SC st l4 l2).2.1 21 (Int32.toNatClampNeg 2) + 1))).1 16 = nI w from n4, mq_ck_of i1, mq_ck_of i1, c1, nS_e]
        rfl
      · have all : zf_X11_mays_54 N z (fu + 1) (nI wt) (nI f) SR = zf_X11_mays_54 N z fu (nI wt) x (mq_sa (mq_si (lkR SR st wt f a) 21 (SR.1 21 + 1)) 22 (upd (SR.2.1 22) (60 * w + u) 1)) := by
          rw [preR, if_neg (nI_nm (by omega)), nS_e]
          rw [show (mq_si (lkR SR st wt f a) 21 ((lkR SR st wt f a).1 21 + 1)).1 25 = nI w from m4, e60, mq_ck_of (vp_in_nI (by omega) (by omega)), nI_clamp (by omega), nS_e]
          refine (cp_go b1).trans ?_
          rw [nI_e]
          rfl
        rw [all]
      · have := td_x (X := lb (SC.2.2 3) w) (X' := ib (SR.2.1 17) 0) hfw q9 hg (s := 7) (by omega) (by omega)
        exact ⟨fun q => ⟨q.1, this.mp q.2⟩, fun q => ⟨q.1, this.mpr q.2⟩⟩
      · show lb l2 v g = _
        rw [y2 v g hg, if_neg (by omega)]; exact (q6 v hv).2.2 g hg
      · show upd (SR.2.1 22) (60 * w + u) 1 (60 * v + b) = if (vp_updL (SC.2.2 1) w (SC.2.2 1 w ||| mq_lshl 1 (nI u)) v).toBitVec.getLsbD b = true then 1 else 0
        have old := q11 v hv b hb
        unfold vp_updL
        by_cases e : v = w
        · rw [if_pos e, Int64.toBitVec_or, BitVec.getLsbD_or, l_one u (by omega) b (by omega)]
          by_cases e' : b = u
          · rw [e, e', up_s, decide_eq_true rfl, Bool.or_true, if_pos rfl]
          · rw [up_o (by omega), decide_eq_false e', Bool.or_false, ← e]
            exact old
        · rw [if_neg e, up_o (by omega)]
          exact old
  · left
    refine ⟨mq_si SC 19 (-3), mq_si (mq_sa SR 26 (upd (SR.2.1 26) wt (nI f))) 23 (-3), -3, ?_, rfl, Or.inl rfl, ?_, n2.trans m2.symm, ⟨k1, k2, k3⟩, fCi ag_rf (by decide), fRi (fRa ag_rf (by decide)) (by decide), n6⟩
    · unfold zf_X8_lookAtMay
      refine (cl_go (x := zf_X8_step N z SC) (v := 0) (s := mq_si SC 19 (-3)) (by rw [ck_step n2 n1 o1 o2, if_neg h1])).trans ?_
      rw [if_pos rfl]
    · have : zf_X11_mays_54 N z (fu + 1) (nI wt) (nI f) SR = some (0, mq_si (mq_sa SR 26 (upd (SR.2.1 26) wt (nI f))) 23 (-3)) := by
        show zf_X11_mays_54b N z (fun v1 v2 S => zf_X11_mays_54 N z fu v1 v2 S) (nI wt) (nI f) SR = _
        unfold zf_X11_mays_54b
        rw [if_neg (nI_nm (by omega)), mq_ck_of i3, c3, nS_e]
        refine (cl_go (x := zf_X11_step N z (mq_sa SR 26 (upd (SR.2.1 26) wt (nI f)))) (v := 0) (s := mq_si (mq_sa SR 26 (upd (SR.2.1 26) wt (nI f))) 23 (-3)) (by rw [rf_step (S := mq_sa SR 26 (upd (SR.2.1 26) wt (nI f))) (st := st) (F := F) m2 m1 o1 o2, if_neg h1])).trans ?_
        rw [if_pos rfl, mq_cz_0]
      refine (cl_go this).trans ?_
      exact kM_f (by decide : ¬ (-3 : Int32) = 0)
end MAY
