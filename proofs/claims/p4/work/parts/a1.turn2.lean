/-! The tableau: a turn, EITHER and CLASH. -/
section TURN2
variable {N n F : Nat} {z : Nat → Nat} {so on tw : Nat → Int32} {d : Nat → Nat} {S T SC SR A B : mq_St} {st W w ec ln wt m f p k fu fu2 : Nat} {R P : List Nat}
theorem T_either {go : Option (Unit × mq_St)} (hN : 500 ≤ N) (hc : cxC SC n so on tw d) (hx : cxR SR n so on tw d) (q : Dn n so on tw d F SC SR st w ec ln wt R) (h17 : SC.1 17 = -1) (hf : f < n) (hs : so f = nI 5) (hgo : ∀ S', zf_X8_tryFirst N z (nI f) SC = some ((), S') → go = some ((), S')) (hcl : zf_X11_clash N z SR = some (-1)) (hb : zf_X11_firstBoth N z SR = some (-1)) (hcc : zf_X11_firstSelf N z SR = some (-1)) (hd : zf_X11_firstEither N z SR = some (nI f)) :
    Tn N z n so on tw d F SC SR st R (fu + 1) fu2 go (mq_cl (zf_X11_down_z N z (fu + 1 + 1) SR) (kD N z fu2)) := by
  have hfw := hc.2.2.2
  obtain ⟨⟨o1, o2, o3, o4, o5, o6⟩, nn, mm, kk, q5, q6, q7, q8, q9, q10, q11, q12, q13, q14⟩ := id q
  have hlen := stk_len R w ec wt ln q7
  obtain ⟨d1, d2, d3⟩ := dz_either (N := N) (z := z) (f := f) (k0 := fun S => zf_X11_down_z N z (fu + 1) S) (by omega) hx mm o2 o1 o6 o5 (fun _ => by omega) hf hs hcl hb hcc hd
  obtain ⟨f1, f2, f3⟩ := ck_first (N := N) (z := z) (f := f) (by omega) hc (by omega) nn o2 o1 o6 o5 hf hs q10
  by_cases h1 : st < F
  · by_cases h2 : ln < 1299 ∧ ec < 400
    · right
      obtain ⟨qq, c, l3, l4, a1, a2, a3, a4, a5⟩ := f1 h1 h2.1 h2.2
      obtain ⟨p, a, b1, b2, b3⟩ := d1 h1 h2.1 h2.2
      exact ⟨h1, _, _, w, ec + 1, ln + 1, wt + 1, R, fu + 1, fu2, hgo _ a1, dz_b b1, Or.inl rfl, Nat.le_refl _, by omega, Dn_ei hfw q h17 h1 h2.1 h2.2 hf hs a3 a4 a5 b3 a2 b2, fCl (fCl (fCi (fCi (fCa (fCl (fCi (fCa (fCa ag_rf (by decide)) (by decide)) (by decide)) (by decide)) (by decide)) (by decide)) (by decide)) (by decide)) (by decide), fRa (fRi (fRa (fRa (fRa (fRa (fRa (fRa (fRi (fRi (fRa (fRa (fRi ag_rf (by decide)) (by decide)) (by decide)) (by decide)) (by decide)) (by decide)) (by decide)) (by decide)) (by decide)) (by decide)) (by decide)) (by decide)) (by decide)⟩
    · left
      obtain ⟨S', g1, g2, g3⟩ := d3 h1 h2
      refine ⟨_, _, -4, hgo _ (f3 h1 h2), rfl, (dz_b g1).trans (dz_end (by decide : ¬ (-4 : Int32) = 0)), ⟨g2.symm, ⟨kk.1.trans (g3.1 20 (by decide)).symm, kk.2.1.trans (g3.1 21 (by decide)).symm, kk.2.2.trans (g3.1 22 (by decide)).symm⟩, ⟨ln, o6, nn.2.2.2.2.2.1⟩, Or.inr (Or.inl rfl)⟩, fCi (fCa ag_rf (by decide)) (by decide), fRi (ag_mono g3 (by decide) (by decide) (by decide)) (by decide)⟩
  · left
    exact ⟨_, _, -3, hgo _ (f2 h1), rfl, (dz_b (d2 h1)).trans (dz_end (by decide : ¬ (-3 : Int32) = 0)), ⟨nn.2.1.trans mm.2.1.symm, kk, ⟨ln, o6, nn.2.2.2.2.2.1⟩, Or.inl rfl⟩, fCi ag_rf (by decide), fRi ag_rf (by decide)⟩
theorem T_clash {c : Nat} (hN : 500 ≤ N) (hc : cxC SC n so on tw d) (hx : cxR SR n so on tw d) (q : Dn n so on tw d F SC SR st w ec ln wt R) (h17 : SC.1 17 = nI c) (hcn : c < n) (hcl : zf_X11_clash N z SR = some (nI c)) :
    Tn N z n so on tw d F SC SR st R (fu + 1) fu2 (zf_X8_goOn N z SC) (mq_cl (zf_X11_down_z N z (fu + 1 + 1) SR) (kD N z (fu2 + 1))) := by
  have hfw := hc.2.2.2
  have h300 := hfw.2.1
  obtain ⟨⟨o1, o2, o3, o4, o5, o6⟩, ⟨n1, n2, n3, n4, n5, n6, n7⟩, ⟨m1, m2, m3, m4, m5, m6, m7, m8⟩, kk, q5, q6, q7, q8, q9, q10, q11, q12, q13, q14⟩ := id q
  have hlen := stk_len R w ec wt ln q7
  have pre : zf_X11_down_z N z (fu + 1 + 1) SR = mq_cl (zf_X11_line N z 0 (nI c) SR) (fun q64v S66 => mq_cz q64v (some (q64v, S66))) := by
    show zf_X11_down_zb N z (fun S => zf_X11_down_z N z (fu + 1) S) SR = _
    unfold zf_X11_down_zb
    rw [if_pos m7]
    refine (cp_go hcl).trans ?_
    rw [nI_e, if_neg (nI_nm (by omega))]
  have preC : zf_X8_goOn N z SC = mq_cl (zf_X8_note N z 0 (nI c) SC) (fun q36v S38 => (if q36v = (0 : Int32) then (some ((), S38)) else (mq_cl (zf_X8_goBack N z S38) (fun q39v S41 => (if q39v = (0 : Int32) then (some ((), S41)) else (mq_cl (zf_X8_trySecond N z S41) (fun q42v S44 => (some ((), S44))))))))) := by
    unfold zf_X8_goOn
    rw [if_neg (nI_nn h17 (by omega)), h17]
  by_cases h2 : ln < 1299
  · have nC : zf_X8_note N z 0 (nI c) SC = some (1, ntC SC ln c) := by
      rw [ck_note (S := SC) (ln := ln) 0 (nI c) n6 o6, if_pos h2]
      rfl
    have nR : zf_X11_down_z N z (fu + 1 + 1) SR = some (1, ntR SR ln c) := by
      rw [pre]
      refine (cl_go (x := zf_X11_line N z 0 (nI c) SR) (v := 1) (s := ntR SR ln c) (by rw [rf_line (S := SR) (ln := ln) 0 (nI c) m6 o6, if_pos h2]; rfl)).trans ?_
      rw [mq_cz_1]
    have kR : mq_cl (zf_X11_down_z N z (fu + 1 + 1) SR) (kD N z (fu2 + 1)) = mq_cl (zf_X11_closed_z N z N (ntR SR ln c)) (fun q26v S28 => (mq_nI (q26v) (fun x29 => (if (S28.1 23) = (0 : Int32) then (if x29 = (0 : Int32) then (some ((1 : Int32), S28)) else (zf_X11_tableau_82 N z (fu2 + 1) (x29) S28)) else (some ((S28.1 23), S28)))))) := by
      refine (cl_go nR).trans ?_
      unfold kD
      rw [nI_e]
      refine (if_pos m7).trans ?_
      rw [if_neg (by decide)]
      rfl
    have kC : zf_X8_goOn N z SC = mq_cl (zf_X8_goBack_2 N z N (nI 0) (ntC SC ln c)) (fun q39v S41 => (if q39v = (0 : Int32) then (some ((), S41)) else (mq_cl (zf_X8_trySecond N z S41) (fun q42v S44 => (some ((), S44)))))) := by
      rw [preC]
      refine (cl_go nC).trans ?_
      rw [if_neg (by decide)]
      rfl
    have stN : stk n so on tw d (ntC SC ln c) (ntR SR ln c) (w :: R) ec wt ln := stk_c (SC := SC) (SR := SR) hfw R w ec wt ln ln (Nat.le_refl _) ⟨fun _ _ => ⟨rfl, rfl⟩, fun _ _ => ⟨rfl, fun _ _ => ⟨rfl, rfl⟩⟩, fun _ _ => ⟨rfl, fun _ _ => rfl⟩⟩ (fun _ _ => ⟨rfl, rfl, rfl, rfl, rfl, fun _ _ => rfl⟩) q7
    have lN : lins (ntC SC ln c) (ntR SR ln c) (ln + 1) := lins_put (SC := SC) (SR := SR) (r := 0) (f := c) q5 (by omega) (by omega) rfl rfl rfl
    have frN : frC SC (ntC SC ln c) := fCi (fCa ag_rf (by decide)) (by decide)
    have frM : frR SR (ntR SR ln c) := fRi (fRa (fRa ag_rf (by decide)) (by decide)) (by decide)
    rcases bk (N := N) (z := z) hfw R w wt ln 0 N N (ntC SC ln c) (ntR SR ln c) stN n4 n5 m8 (by omega) o5 (by omega) (by omega) (by omega) with ⟨SC', SR', c1, c2, c3, c4, c5⟩ | ⟨w', R', e0, wt0, ln', SC', SR', c1, c2, c3, c3', c4, c4', c5, c6, c7, c8, c9, c10, c11, c12, c13, c14, c15⟩
    · left
      have r23 : SR'.1 23 = 0 := (c5.1 23 (by decide)).trans m7
      refine ⟨SC', SR', 1, ?_, c3, ?_, ⟨?_, ⟨?_, ?_, ?_⟩, ⟨ln + 1, by omega, (c4.1 20 (by decide)).trans rfl⟩, Or.inr (Or.inr (Or.inl ⟨rfl, ln + 1, by omega, by omega, (c4.1 20 (by decide)).trans rfl, (c5.1 26 (by decide)).trans rfl, fun i hi => ?_⟩))⟩, ag_tr frN (ag_mono c4 (by decide) (by decide) (by decide)), ag_tr frM (ag_mono c5 (by decide) (by decide) (by decide))⟩
      · rw [kC]
        refine (cl_go c1).trans ?_
        rw [if_pos rfl]
      · rw [kR]
        refine (cl_go c2).trans ?_
        rw [nI_e, if_pos r23, if_pos rfl]
      · rw [c4.2.1 21 (by simp), c5.1 19 (by decide)]; exact n2.trans m2.symm
      · rw [c4.2.1 21 (by simp), c5.1 20 (by decide)]; exact kk.1
      · rw [c4.2.1 21 (by simp), c5.1 21 (by decide)]; exact kk.2.1
      · rw [c4.2.1 21 (by simp), c5.1 22 (by decide)]; exact kk.2.2
      · rw [c4.2.1 22 (by simp), c5.2.1 23 (by simp), c5.2.1 24 (by simp)]; exact lN i hi
    · have eC : SC' = bkC SC ln c w' := ag_ii c10 c9 c8
      have eR : SR' = bkR SR ln c w' wt0 := ag_iii c15 c13 c14 c12
      subst eC eR
      have ei : eit n so d SC SR w' e0 wt0 := eit_c (SC := ntC SC ln c) (SR := ntR SR ln c) hfw c5 rfl (fun _ _ => rfl) rfl rfl rfl rfl (fun _ _ => rfl)
      have sk : stk n so on tw d SC SR (w' :: R') e0 wt0 ln' := stk_c (SC := ntC SC ln c) (SR := ntR SR ln c) hfw R' w' e0 wt0 ln' ln' (Nat.le_refl _) ⟨fun _ _ => ⟨rfl, rfl⟩, fun _ _ => ⟨rfl, fun _ _ => ⟨rfl, rfl⟩⟩, fun _ _ => ⟨rfl, fun _ _ => rfl⟩⟩ (fun _ _ => ⟨rfl, rfl, rfl, rfl, rfl, fun _ _ => rfl⟩) c6
      obtain ⟨-, -, -, ⟨f, hf, hs, h26, h20⟩, -, -, hno⟩ := id ei
      have hcB : cxC (bkC SC ln c w') n so on tw d := cxC_c hc rfl rfl rfl rfl rfl rfl
      have hxB : cxR (bkR SR ln c w' wt0) n so on tw d := cxR_c hx rfl rfl rfl rfl
      obtain ⟨f1, f2⟩ := ck_second (N := N) (z := z) (S := bkC SC ln c w') (st := st) (F := F) (e0 := e0) (w := w') (f := f) (by omega) hcB (by omega) n1 n2 rfl (by rw [← c1]; exact n5) o2 o1 (by omega) hf hs h20 hno
      obtain ⟨d1, d2⟩ := rf_second (N := N) (z := z) (S := bkR SR ln c w' wt0) (st := st) (F := F) (e0 := e0) (wt0 := wt0) (f := f) (by omega) hxB m1 m2 rfl (by rw [← c1]; exact m5) o2 o1 c4' hf hs h26
      have frN' : frC SC (bkC SC ln c w') := fCi (fCi frN (by decide)) (by decide)
      have frM' : frR SR (bkR SR ln c w' wt0) := fRi (fRi (fRi frM (by decide)) (by decide)) (by decide)
      have kC' : ∀ S', zf_X8_trySecond N z (bkC SC ln c w') = some ((), S') → zf_X8_goOn N z SC = some ((), S') := fun S' h => by
        rw [kC]
        refine (cl_go c7).trans ?_
        rw [if_neg (by decide)]
        exact cl_go h
      by_cases h1 : st < F
      · right
        obtain ⟨v, l3, l4, a1, a2, a3, a4⟩ := f1 h1
        obtain ⟨a, b1, b2⟩ := d1 h1
        refine ⟨h1, _, _, w', e0, ln + 1, wt0, R', N, fu2, kC' _ a1, ?_, Or.inr rfl, Nat.le_refl _, by omega, Dn_se (f := f) hfw q h1 h2 hcn c1 c2 c3 c4 ei sk hf hs a2 a3 a4 b2, fCl (fCl (fCi (fCl (fCi (fCa frN' (by decide)) (by decide)) (by decide)) (by decide)) (by decide)) (by decide), fRa (fRi (fRi frM' (by decide)) (by decide)) (by decide)⟩
        rw [kR]
        refine (cl_go (c11.trans b1)).trans ?_
        rw [nI_e]
        refine (if_pos m7).trans ?_
        rw [if_neg (by decide)]
        exact t82_D (by decide)
      · left
        obtain ⟨a, b1⟩ := d2 h1
        refine ⟨mq_si (bkC SC ln c w') 19 (-3), mq_si (mq_sa (mq_si (bkR SR ln c w' wt0) 28 (nI e0)) 17 a) 23 (-3), -3, kC' _ (f2 h1), rfl, ?_, ⟨n2.trans m2.symm, kk, ⟨ln + 1, by omega, rfl⟩, Or.inl rfl⟩, fCi frN' (by decide), fRi (fRa (fRi frM' (by decide)) (by decide)) (by decide)⟩
        rw [kR]
        refine (cl_go (c11.trans b1)).trans ?_
        rw [nI_e]
        exact if_neg (by decide : ¬ (-3 : Int32) = 0)
  · left
    refine ⟨mq_si SC 19 (-4), mq_si SR 23 (-4), -4, ?_, rfl, ?_, ⟨n2.trans m2.symm, kk, ⟨ln, o6, n6⟩, Or.inr (Or.inl rfl)⟩, fCi ag_rf (by decide), fRi ag_rf (by decide)⟩
    · rw [preC]
      refine (cl_go (x := zf_X8_note N z 0 (nI c) SC) (v := 0) (s := mq_si SC 19 (-4)) (by rw [ck_note (S := SC) (ln := ln) 0 (nI c) n6 o6, if_neg h2])).trans ?_
      rw [if_pos rfl]
    · have : zf_X11_down_z N z (fu + 1 + 1) SR = some (0, mq_si SR 23 (-4)) := by
        rw [pre]
        refine (cl_go (x := zf_X11_line N z 0 (nI c) SR) (v := 0) (s := mq_si SR 23 (-4)) (by rw [rf_line (S := SR) (ln := ln) 0 (nI c) m6 o6, if_neg h2])).trans ?_
        rw [mq_cz_0]
      exact (cl_go this).trans (kD_f (by decide : ¬ (-4 : Int32) = 0))
end TURN2
