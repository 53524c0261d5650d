/-! The tableau: all turns. -/
section LOOP
variable {N n F : Nat} {z : Nat → Nat} {so on tw : Nat → Int32} {d : Nat → Nat} {S T SC SR SC0 SR0 A B : mq_St} {st W w ec ln wt m f p k fu fu2 : Nat} {R P : List Nat}
theorem Tn_fr {S1 : mq_St} {go : Option (Unit × mq_St)} {ref : Option (Int32 × mq_St)} (h : frC SC S1) (q : Tn N z n so on tw d F S1 SR st R fu fu2 go ref) : Tn N z n so on tw d F SC SR st R fu fu2 go ref := by
  rcases q with ⟨SC', SR', v, a, b, c, e, g, i⟩ | ⟨h1, SC', SR', w', ec', ln', wt', R', fu', fu2', a, b, c, c', e, g, i, j⟩
  · exact Or.inl ⟨SC', SR', v, a, b, c, e, ag_tr h g, i⟩
  · exact Or.inr ⟨h1, SC', SR', w', ec', ln', wt', R', fu', fu2', a, b, c, c', e, g, ag_tr h i, j⟩
theorem Tn_m {go : Option (Unit × mq_St)} {ref : Option (Int32 × mq_St)} (q : Tn N z n so on tw d F SC SR st R fu (fu2 + 1) go ref) : Tn N z n so on tw d F SC SR st R fu fu2 go ref := by
  rcases q with q | ⟨h1, SC', SR', w', ec', ln', wt', R', fu', fu2', a, b, c, c', e⟩
  · exact Or.inl q
  · exact Or.inr ⟨h1, SC', SR', w', ec', ln', wt', R', fu', fu2', a, b, c, by omega, e⟩
theorem D_turn (hN : 500 ≤ N) (hc : cxC SC n so on tw d) (hx : cxR SR n so on tw d) (q : Dn n so on tw d F SC SR st w ec ln wt R) :
    Tn N z n so on tw d F SC SR st R (fu + 1) fu2 (zf_X8_goOn N z SC) (mq_cl (zf_X11_down_z N z (fu + 1 + 1) SR) (kD N z (fu2 + 1))) ∨
    ∃ SR' x, mq_cl (zf_X11_down_z N z (fu + 1 + 1) SR) (kD N z (fu2 + 1)) = mq_cl (zf_X11_mays_54 N z N (nI wt) x SR') (kM N z (fu2 + 1)) ∧ lst n (fun f => 0 ≤ f ∧ td so on tw 7 (lb (SC.2.2 3) w) f) x ∧ Mn n so on tw d F SC SR' st (w + 1) w ec ln wt 0 R ∧ frR SR SR' := by
  have hfw := hc.2.2.2
  have h300 := hfw.2.1
  obtain ⟨⟨o1, o2, o3, o4, o5, o6⟩, nn, mm, kk, q5, q6, q7, q8, q9, q10, q11, q12, q13, q14⟩ := id q
  obtain ⟨v0, e0, e0'⟩ := rs_clash (N := N) (z := z) (by omega) hx
  have v0e : SC.1 17 = v0 := clV_u (clV_x hfw q8 q10) e0'
  by_cases h17 : SC.1 17 = -1
  · rw [← v0e, h17] at e0
    obtain ⟨v4, e4, e4'⟩ := rs_both (N := N) (z := z) (by omega) hx
    obtain ⟨v6, e6, e6'⟩ := rs_self (N := N) (z := z) (by omega) hx
    obtain ⟨v5, e5, e5'⟩ := rs_either (N := N) (z := z) (by omega) hx
    have tr : ∀ s v, 4 ≤ s → s ≤ 7 → lst n (td so on tw s (ib (SR.2.1 17) 0)) v → lst n (td so on tw s (lb (SC.2.2 3) w)) v := fun s v h4 h7 h => lst_s h (fun f hf => td_x hfw q8 hf h4 h7)
    have l4 := tr 4 v4 (by omega) (by omega) e4'
    have l6 := tr 6 v6 (by omega) (by omega) e6'
    have l5 := tr 5 v5 (by omega) (by omega) e5'
    obtain ⟨a, va, a1, a2, a3⟩ := D_least (N := N) (z := z) (s := 4) (by omega) hc q (by omega) (by omega)
    obtain ⟨b, vb, b1, b2, b3⟩ := D_least (N := N) (z := z) (s := 6) (SC := mq_sl SC 4 a) (by omega) (cxC_c hc rfl rfl rfl rfl rfl rfl) a1 (by omega) (by omega)
    obtain ⟨c, vc, c1, c2, c3⟩ := D_least (N := N) (z := z) (s := 5) (SC := mq_sl (mq_sl SC 4 a) 4 b) (by omega) (cxC_c hc rfl rfl rfl rfl rfl rfl) b1 (by omega) (by omega)
    have ea : va = v4 := lst_u a3 l4
    have eb : vb = v6 := lst_u b3 l6
    have ec' : vc = v5 := lst_u c3 l5
    subst ea eb ec'
    rcases l4 with ⟨r4, s4⟩ | ⟨f, hf, r4, s4, -⟩
    · subst r4
      rcases l6 with ⟨r6, s6⟩ | ⟨f, hf, r6, s6, -⟩
      · subst r6
        rcases l5 with ⟨r5, s5⟩ | ⟨f, hf, r5, s5, -⟩
        · right
          exact D_full (fu := fu + 1) (by omega) hx q h17 s4 s5 s6
        · left
          subst r5
          have t := T_either (fu := fu) (fu2 := fu2 + 1) (SC := mq_sl (mq_sl (mq_sl SC 4 a) 4 b) 4 c) (z := z) (go := zf_X8_goOn N z SC) hN (cxC_c hc rfl rfl rfl rfl rfl rfl) hx c1 h17 hf s5.1 (fun S' h => by
            unfold zf_X8_goOn
            rw [if_pos h17]
            refine (cl_go a2).trans ?_
            rw [nI_e, if_pos rfl]
            refine (cl_go b2).trans ?_
            rw [nI_e, if_pos rfl]
            refine (cl_go c2).trans ?_
            rw [nI_e, if_neg (nI_nm (by omega))]
            exact cl_go h) e0 e4 e6 e5
          exact Tn_m (Tn_fr (fCl (fCl (fCl ag_rf (by decide)) (by decide)) (by decide)) t)
      · left
        subst r6
        have t := T_both (fu := fu) (fu2 := fu2 + 1) (SC := mq_sl (mq_sl SC 4 a) 4 b) (s := 6) (r := 2) (z := z) (go := zf_X8_goOn N z SC) hN (cxC_c hc rfl rfl rfl rfl rfl rfl) hx b1 hf s6.1 (Or.inr ⟨rfl, rfl⟩) (fun S' h => by
          unfold zf_X8_goOn
          rw [if_pos h17]
          refine (cl_go a2).trans ?_
          rw [nI_e, if_pos rfl]
          refine (cl_go b2).trans ?_
          rw [nI_e, if_neg (nI_nm (by omega))]
          exact cl_go h) (fun k0 => dz_self hx mm o2 o1 o6 hf s6.1 e0 e4 e6)
        exact Tn_m (Tn_fr (fCl (fCl ag_rf (by decide)) (by decide)) t)
    · left
      subst r4
      have t := T_both (fu := fu) (fu2 := fu2 + 1) (SC := mq_sl SC 4 a) (s := 4) (r := 1) (z := z) (go := zf_X8_goOn N z SC) hN (cxC_c hc rfl rfl rfl rfl rfl rfl) hx a1 hf s4.1 (Or.inl ⟨rfl, rfl⟩) (fun S' h => by
        unfold zf_X8_goOn
        rw [if_pos h17]
        refine (cl_go a2).trans ?_
        rw [nI_e, if_neg (nI_nm (by omega))]
        exact cl_go h) (fun k0 => dz_both hx mm o2 o1 o6 hf s4.1 e0 e4)
      exact Tn_m (Tn_fr (fCl ag_rf (by decide)) t)
  · left
    rcases q10 with ⟨r, -⟩ | ⟨c, hcn, r, -, -⟩
    · exact absurd r h17
    · exact T_clash hN hc hx q r hcn (by rw [e0, ← v0e, r])
theorem r73_go {fuc t : Nat} {S' : mq_St} (h : S.1 19 = 2) (ht : t < 1000000) (hg : zf_X8_goOn N z S = some ((), S')) : zf_X8_run_73 N z (fuc + 1) (nI t) S = zf_X8_run_73 N z fuc (nI (t + 1)) S' := by
  show zf_X8_run_73b N z (fun v3 S => zf_X8_run_73 N z fuc v3 S) (nI t) S = _
  unfold zf_X8_run_73b
  rw [if_neg (show ¬ (1000000 : Int32) ≤ nI t from nI_ge (b := 1000000) ht (by omega)), if_pos h]
  refine (cl_go hg).trans ?_
  rw [nI_e, nI_1]
theorem r73_end {fuc : Nat} {t : Int32} (h : ¬ S.1 19 = 2) : zf_X8_run_73 N z (fuc + 1) t S = some (S.1 19, S) := by
  show zf_X8_run_73b N z (fun v3 S => zf_X8_run_73 N z fuc v3 S) t S = _
  unfold zf_X8_run_73b zf_X8_run_97
  by_cases e : (1000000 : Int32) ≤ t
  · rw [if_pos e]
  · rw [if_neg e, if_neg h]
theorem Fi_v {v : Int32} (h : Fi v SC SR) : ¬ v = 2 := by
  rcases h.2.2.2 with e | e | ⟨e, -⟩ | ⟨e, -⟩ <;> (rw [e]; decide)
/-- both come to the same end -/
def Gl (SC0 SR0 : mq_St) (cls ref : Option (Int32 × mq_St)) : Prop := ∃ v SC' SR', cls = some (v, SC') ∧ ref = some (v, SR') ∧ Fi v SC' SR' ∧ frC SC0 SC' ∧ frR SR0 SR'
theorem all (hN : 300000 ≤ N) (hc : cxC SC0 n so on tw d) (hx : cxR SR0 n so on tw d) : ∀ μ : Nat, μ ≤ 250000 →
    (∀ SC SR st w ec ln wt R t fuc fu fu2, Dn n so on tw d F SC SR st w ec ln wt R → frC SC0 SC → frR SR0 SR → 2 * (F - st) + R.length < μ → t + μ ≤ 1000000 → μ + 1 ≤ fuc → μ + 3 ≤ fu → μ + 3 ≤ fu2 → Gl SC0 SR0 (zf_X8_run_73 N z fuc (nI t) SC) (mq_cl (zf_X11_down_z N z fu SR) (kD N z fu2))) ∧
    (∀ SC SR st W w ec ln wt m R x t fuc fu fu2, Mn n so on tw d F SC SR st W w ec ln wt m R → lst n (fun f => m ≤ f ∧ td so on tw 7 (lb (SC.2.2 3) w) f) x → frC SC0 SC → frR SR0 SR → 2 * (F - st) + R.length < μ → t + μ ≤ 1000000 → μ + 1 ≤ fuc → μ + 3 ≤ fu → μ + 3 ≤ fu2 → Gl SC0 SR0 (zf_X8_run_73 N z fuc (nI t) SC) (mq_cl (zf_X11_mays_54 N z fu (nI wt) x SR) (kM N z fu2)))
  | 0, _ => ⟨fun _ _ _ _ _ _ _ _ _ _ _ _ _ _ _ h => by omega, fun _ _ _ _ _ _ _ _ _ _ _ _ _ _ _ _ _ _ _ h => by omega⟩
  | μ + 1, hμ => by
    obtain ⟨iD, iM⟩ := all hN hc hx μ (by omega)
    have cM : ∀ SC SR st W w ec ln wt m R x t fuc fu fu2, Mn n so on tw d F SC SR st W w ec ln wt m R → lst n (fun f => m ≤ f ∧ td so on tw 7 (lb (SC.2.2 3) w) f) x → frC SC0 SC → frR SR0 SR → 2 * (F - st) + R.length < μ + 1 → t + (μ + 1) ≤ 1000000 → (μ + 1) + 1 ≤ fuc → (μ + 1) + 3 ≤ fu → (μ + 1) + 3 ≤ fu2 → Gl SC0 SR0 (zf_X8_run_73 N z fuc (nI t) SC) (mq_cl (zf_X11_mays_54 N z fu (nI wt) x SR) (kM N z fu2)) := by
      intro SC SR st W w ec ln wt m R x t fuc fu fu2 hM hl fC fR hm ht hfc hf1 hf2
      obtain ⟨fuc, rfl⟩ : ∃ q, fuc = q + 1 := ⟨fuc - 1, by omega⟩
      obtain ⟨fu, rfl⟩ : ∃ q, fu = q + 1 := ⟨fu - 1, by omega⟩
      obtain ⟨fu2, rfl⟩ : ∃ q, fu2 = q + 1 := ⟨fu2 - 1, by omega⟩
      have hcS := cxC_f hc fC
      have hxS := cxR_f hx fR
      obtain ⟨S4, g1, g2, g3, g4⟩ := M_look (N := N) (z := z) (by omega) hcS hM hl
      have f4 : frC SC S4 := ag_mono g3 (by decide) (by decide) (by decide)
      have hc4 := cxC_f hcS f4
      have h19 : SC.1 19 = 2 := hM.2.1.2.2.2.2.2.2
      have hl' := hl
      rw [← g2] at hl'
      rcases hl' with ⟨e, -⟩ | ⟨f, hf, e, ⟨hmf, htd⟩, hmin⟩
      · subst e
        rw [if_pos rfl] at g4
        rcases M_open (N := N) (z := z) (fu := fu) (fu2 := fu2) (by omega) hc4 hxS g1 with ⟨-, SC', SR', a1, a2, a3, a4, a5, a6⟩ | ⟨u, r, ea, l, b, m', SC', SR', x, a1, a2, a3, a4, a5, a6, a7⟩
        · have go : zf_X8_goOn N z SC = some ((), SC') := g4.trans (cl_go a1)
          obtain ⟨fuc, rfl⟩ : ∃ q, fuc = q + 1 := ⟨fuc - 1, by omega⟩
          refine ⟨0, SC', SR', ?_, a4, ⟨?_, ⟨?_, ?_, ?_⟩, ⟨ln, g1.1.2.2.2.2.2, (a3.1 20 (by decide)).trans g1.2.1.2.2.2.2.2.1⟩, Or.inr (Or.inr (Or.inr ⟨rfl, W, ?_, ?_, ?_, ?_, fun v hv => ?_, fun v hv => ?_⟩))⟩, ag_tr (ag_tr fC f4) (ag_mono a3 (by decide) (by decide) (by decide)), ag_tr fR (ag_mono a5 (by decide) (by decide) (by decide))⟩
          · rw [r73_go h19 (by omega) go, r73_end (by rw [a2]; decide), a2]
          · rw [a3.2.1 21 (by simp), a5.1 19 (by decide)]; exact g1.2.1.2.1.trans g1.2.2.1.2.1.symm
          · rw [a3.2.1 21 (by simp), a5.1 20 (by decide)]; exact g1.2.2.2.1.1
          · rw [a3.2.1 21 (by simp), a5.1 21 (by decide)]; exact g1.2.2.2.1.2.1
          · rw [a3.2.1 21 (by simp), a5.1 22 (by decide)]; exact g1.2.2.2.1.2.2
          · have := g1.1.2.2.1; omega
          · exact g1.1.2.2.2.1
          · rw [a3.1 15 (by decide)]; exact g1.2.1.2.2.1
          · rw [a5.1 24 (by decide)]; exact g1.2.2.1.2.2.1
          · intro u hu
            rw [a3.2.2 1 (by simp), a5.2.1 22 (by decide)]
            exact g1.2.2.2.2.2.2.2.2.2.2.1 v hv u hu
          · intro g hg
            rw [a3.2.2 3 (by simp)]
            exact a6 v hv g hg
        · have go : zf_X8_goOn N z SC = some ((), SC') := g4.trans (cl_go a2)
          subst a1
          simp only [List.length_cons] at hm
          rw [r73_go h19 (by omega) go, a3]
          exact iM SC' SR' st W u ea l b m' r x (t + 1) fuc N fu2 a5 a4 (ag_tr (ag_tr fC f4) a6) (ag_tr fR a7) (by omega) (by omega) (by omega) (by omega) (by omega)
      · subst e
        have h300 := hc.2.2.2.2.1
        rw [if_neg (nI_nm (by omega))] at g4
        rcases M_may (N := N) (z := z) (fu := fu) (fu2 := fu2) (by omega) hc4 hxS g1 hf hmf htd hmin with ⟨SC', SR', v, a1, a2, a3, a4, a5, a6, a7, a8, a9⟩ | ⟨h1, SC', SR', x, a1, a2, a3, a4, a5, a6⟩ | ⟨h1, SC', SR', a1, a2, a3, a4, a5⟩
        · have go : zf_X8_goOn N z SC = some ((), SC') := g4.trans (cl_go a1)
          have fi : Fi v SC' SR' := ⟨a5, a6, ⟨ln, g1.1.2.2.2.2.2, a9⟩, a3.elim Or.inl (fun e => Or.inr (Or.inl e))⟩
          obtain ⟨fuc, rfl⟩ : ∃ q, fuc = q + 1 := ⟨fuc - 1, by omega⟩
          exact ⟨v, SC', SR', by rw [r73_go h19 (by omega) go, r73_end (by rw [a2]; exact Fi_v fi), a2], a4, fi, ag_tr (ag_tr fC f4) a7, ag_tr fR a8⟩
        · have go : zf_X8_goOn N z SC = some ((), SC') := g4.trans (cl_go a1)
          rw [r73_go h19 (by omega) go, a2]
          exact iM SC' SR' (st + 1) W w ec ln wt (f + 1) R x (t + 1) fuc fu (fu2 + 1) a4 a3 (ag_tr (ag_tr fC f4) a5) (ag_tr fR a6) (by omega) (by omega) (by omega) (by omega) (by omega)
        · have go : zf_X8_goOn N z SC = some ((), SC') := g4.trans (cl_go a1)
          rw [r73_go h19 (by omega) go, a2]
          exact iD SC' SR' (st + 1) W ec (ln + 1) (wt + 1) (w :: R) (t + 1) fuc N fu2 a3 (ag_tr (ag_tr fC f4) a4) (ag_tr fR a5) (by simp only [List.length_cons]; omega) (by omega) (by omega) (by omega) (by omega)
    refine ⟨?_, cM⟩
    intro SC SR st w ec ln wt R t fuc fu fu2 hD fC fR hm ht hfc hf1 hf2
    obtain ⟨fuc, rfl⟩ : ∃ q, fuc = q + 1 := ⟨fuc - 1, by omega⟩
    obtain ⟨fu, rfl⟩ : ∃ q, fu = q + 1 + 1 := ⟨fu - 2, by omega⟩
    obtain ⟨fu2, rfl⟩ : ∃ q, fu2 = q + 1 := ⟨fu2 - 1, by omega⟩
    have hcS := cxC_f hc fC
    have hxS := cxR_f hx fR
    have h19 : SC.1 19 = 2 := hD.2.1.2.2.2.2.2.2
    rcases D_turn (N := N) (z := z) (fu := fu) (fu2 := fu2) (by omega) hcS hxS hD with (⟨SC', SR', v, a1, a2, a3, a4, a5, a6⟩ | ⟨h1, SC', SR', w', ec', ln', wt', R', fu', fu2', a1, a2, a3, a3', a4, a5, a6, a7⟩) | ⟨SR', x, a1, a2, a3, a4⟩
    · obtain ⟨fuc, rfl⟩ : ∃ q, fuc = q + 1 := ⟨fuc - 1, by omega⟩
      exact ⟨v, SC', SR', by rw [r73_go h19 (by omega) a1, r73_end (by rw [a2]; exact Fi_v a4), a2], a3, a4, ag_tr fC a5, ag_tr fR a6⟩
    · rw [r73_go h19 (by omega) a1, a2]
      exact iD SC' SR' (st + 1) w' ec' ln' wt' R' (t + 1) fuc fu' fu2' a5 (ag_tr fC a6) (ag_tr fR a7) (by omega) (by omega) (by omega) (by omega) (by omega)
    · rw [a1]
      exact cM SC SR' st (w + 1) w ec ln wt 0 R x t (fuc + 1) N (fu2 + 1) a3 a2 fC (ag_tr fR a4) (by omega) (by omega) (by omega) (by omega) (by omega)
end LOOP
