/-! a2.loop -/
section
/-! The tableau: all turns. -/
section LOOP
variable {N n F : Nat} {z : Nat → Nat} {so on tw : Nat → Int32} {d : Nat → Nat} {S T SC SR SC0 SR0 A B : mq_St} {st W w ec ln wt m f p k fu fu2 : Nat} {R P : List Nat}
theorem Tn_fr {S1 : mq_St} {go : Option (Unit × mq_St)} {ref : Option (Int32 × mq_St)} (h : frC SC S1) (q : Tn N z n so on tw d F S1 SR st R fu fu2 go ref) : Tn N z n so on tw d F SC SR st R fu fu2 go ref := by
  rcases q with ⟨SC', SR', v, a, b, c, e, g, i⟩ | ⟨h1, SC', SR', w', ec', ln', wt', R', fu', fu2', a, b, c, c', e, g, i, j⟩
  · exact Or.inl ⟨SC', SR', v, a, b, c, e, ag_tr h g, i⟩
  · exact Or.inr ⟨h1, SC', SR', w', ec', ln', wt', R', fu', fu2', a, b, c, c', e, g, ag_tr h i, j⟩
theorem Tn_m {go : Option (Unit × mq_St)} {ref : Option (Int32 × mq_St)} (q : Tn N z n so on tw d F SC SR st R fu (fu2 + 1) go ref) : Tn N z n so on tw d F SC SR st R fu fu2 go ref := by
  rcases q with q | ⟨h1, SC', SR', w', ec', ln', wt', R', fu', fu2', a, b, c, c', e⟩
  · exact Or.inl q
  · exact Or.inr ⟨h1, SC', SR', w', ec', ln', wt', R', fu', fu2', a, b, c, by omega, e⟩
theorem D_turn (hN : 500 ≤ N) (hc : cxC SC n so on tw d) (hx : cxR SR n so on tw d) (q : Dn n so on tw d F SC SR st w ec ln wt R) :
    Tn N z n so on tw d F SC SR st R (fu + 1) fu2 (zf_X8_goOn N z SC) (mq_cl (zf_X11_down_z N z (fu + 1 + 1) SR) (kD N z (fu2 + 1))) ∨
    ∃ SR' x, mq_cl (zf_X11_down_z N z (fu + 1 + 1) SR) (kD N z (fu2 + 1)) = mq_cl (zf_X11_mays_54 N z N (nI wt) x SR') (kM N z (fu2 + 1)) ∧ lst n (fun f => 0 ≤ f ∧ td so on tw 7 (lb (SC.2.2 3) w) f) x ∧ Mn n so on tw d F SC SR' st (w + 1) w ec ln wt 0 R ∧ frR SR SR' := by
  have hfw := hc.2.2.2
  have h300 := hfw.2.1
  obtain ⟨⟨o1, o2, o3, o4, o5, o6⟩, nn, mm, kk, q5, q6, q7, q8, q9, q10, q11, q12, q13, q14⟩ := id q
  obtain ⟨v0, e0, e0'⟩ := rs_clash (N := N) (z := z) (by omega) hx
  have v0e : SC.1 17 = v0 := clV_u (clV_x hfw q8 q10) e0'
  by_cases h17 : SC.1 17 = -1
  · rw [← v0e, h17] at e0
    obtain ⟨v4, e4, e4'⟩ := rs_both (N := N) (z := z) (by omega) hx
    obtain ⟨v6, e6, e6'⟩ := rs_self (N := N) (z := z) (by omega) hx
    obtain ⟨v5, e5, e5'⟩ := rs_either (N := N) (z := z) (by omega) hx
    have tr : ∀ s v, 4 ≤ s → s ≤ 7 → lst n (td so on tw s (ib (SR.2.1 17) 0)) v → lst n (td so on tw s (lb (SC.2.2 3) w)) v := fun s v h4 h7 h => lst_s h (fun f hf => td_x hfw q8 hf h4 h7)
    have l4 := tr 4 v4 (by omega) (by omega) e4'
    have l6 := tr 6 v6 (by omega) (by omega) e6'
    have l5 := tr 5 v5 (by omega) (by omega) e5'
    obtain ⟨a, va, a1, a2, a3⟩ := D_least (N := N) (z := z) (s := 4) (by omega) hc q (by omega) (by omega)
    obtain ⟨b, vb, b1, b2, b3⟩ := D_least (N := N) (z := z) (s := 6) (SC := mq_sl SC 4 a) (by omega) (cxC_c hc rfl rfl rfl rfl rfl rfl) a1 (by omega) (by omega)
    obtain ⟨c, vc, c1, c2, c3⟩ := D_least (N := N) (z := z) (s := 5) (SC := mq_sl (mq_sl SC 4 a) 4 b) (by omega) (cxC_c hc rfl rfl rfl rfl rfl rfl) b1 (by omega) (by omega)
    have ea : va = v4 := lst_u a3 l4
    have eb : vb = v6 := lst_u b3 l6
    have ec' : vc = v5 := lst_u c3 l5
    subst ea eb ec'
    rcases l4 with ⟨r4, s4⟩ | ⟨f, hf, r4, s4, -⟩
    · subst r4
      rcases l6 with ⟨r6, s6⟩ | ⟨f, hf, r6, s6, -⟩
      · subst r6
        rcases l5 with ⟨r5, s5⟩ | ⟨f, hf, r5, s5, -⟩
        · right
          exact D_full (fu := fu + 1) (by omega) hx q h17 s4 s5 s6
        · left
          subst r5
          have t := T_either (fu := fu) (fu2 := fu2 + 1) (SC := mq_sl (mq_sl (mq_sl SC 4 a) 4 b) 4 c) (z := z) (go := zf_X8_goOn N z SC) hN (cxC_c hc rfl rfl rfl rfl rfl rfl) hx c1 h17 hf s5.1 (fun S' h => by
            unfold zf_X8_goOn
            rw [if_pos h17]
            refine (cl_go a2).trans ?_
            rw [nI_e, if_pos rfl]
            refine (cl_go b2).trans ?_
            rw [nI_e, if_pos rfl]
            refine (cl_go c2).trans ?_
            rw [nI_e, if_neg (nI_nm (by omega))]
            exact cl_go h) e0 e4 e6 e5
          exact Tn_m (Tn_fr (fCl (fCl (fCl ag_rf (by decide)) (by decide)) (by decide)) t)
      · left
        subst r6
        have t := T_both (fu := fu) (fu2 := fu2 + 1) (SC := mq_sl (mq_sl SC 4 a) 4 b) (s := 6) (r := 2) (z := z) (go := zf_X8_goOn N z SC) hN (cxC_c hc rfl rfl rfl rfl rfl rfl) hx b1 hf s6.1 (Or.inr ⟨rfl, rfl⟩) (fun S' h => by
          unfold zf_X8_goOn
          rw [if_pos h17]
          refine (cl_go a2).trans ?_
          rw [nI_e, if_pos rfl]
          refine (cl_go b2).trans ?_
          rw [nI_e, if_neg (nI_nm (by omega))]
          exact cl_go h) (fun k0 => dz_self hx mm o2 o1 o6 hf s6.1 e0 e4 e6)
        exact Tn_m (Tn_fr (fCl (fCl ag_rf (by decide)) (by decide)) t)
    · left
      subst r4
      have t := T_both (fu := fu) (fu2 := fu2 + 1) (SC := mq_sl SC 4 a) (s := 4) (r := 1) (z := z) (go := zf_X8_goOn N z SC) hN (cxC_c hc rfl rfl rfl rfl rfl rfl) hx a1 hf s4.1 (Or.inl ⟨rfl, rfl⟩) (fun S' h => by
        unfold zf_X8_goOn
        rw [if_pos h17]
        refine (cl_go a2).trans ?_
        rw [nI_e, if_neg (nI_nm (by omega))]
        exact cl_go h) (fun k0 => dz_both hx mm o2 o1 o6 hf s4.1 e0 e4)
      exact Tn_m (Tn_fr (fCl ag_rf (by decide)) t)
  · left
    rcases q10 with ⟨r, -⟩ | ⟨c, hcn, r, -, -⟩
    · exact absurd r h17
    · exact T_clash hN hc hx q r hcn (by rw [e0, ← v0e, r])
theorem r73_go {fuc t : Nat} {S' : mq_St} (h : S.1 19 = 2) (ht : t < 1000000) (hg : zf_X8_goOn N z S = some ((), S')) : zf_X8_run_73 N z (fuc + 1) (nI t) S = zf_X8_run_73 N z fuc (nI (t + 1)) S' := by
  show zf_X8_run_73b N z (fun v3 S => zf_X8_run_73 N z fuc v3 S) (nI t) S = _
  unfold zf_X8_run_73b
  rw [if_neg (show ¬ (1000000 : Int32) ≤ nI t from nI_ge (b := 1000000) ht (by omega)), if_pos h]
  refine (cl_go hg).trans ?_
  rw [nI_e, nI_1]
theorem r73_end {fuc : Nat} {t : Int32} (h : ¬ S.1 19 = 2) : zf_X8_run_73 N z (fuc + 1) t S = some (S.1 19, S) := by
  show zf_X8_run_73b N z (fun v3 S => zf_X8_run_73 N z fuc v3 S) t S = _
  unfold zf_X8_run_73b zf_X8_run_97
  by_cases e : (1000000 : Int32) ≤ t
  · rw [if_pos e]
  · rw [if_neg e, if_neg h]
theorem Fi_v {v : Int32} (h : Fi v SC SR) : ¬ v = 2 := by
  rcases h.2.2.2 with e | e | ⟨e, -⟩ | ⟨e, -⟩ <;> (rw [e]; decide)
/-- both come to the same end -/
def Gl (SC0 SR0 : mq_St) (cls ref : Option (Int32 × mq_St)) : Prop := ∃ v SC' SR', cls = some (v, SC') ∧ ref = some (v, SR') ∧ Fi v SC' SR' ∧ frC SC0 SC' ∧ frR SR0 SR'
theorem all (hN : 300000 ≤ N) (hc : cxC SC0 n so on tw d) (hx : cxR SR0 n so on tw d) : ∀ μ : Nat, μ ≤ 250000 →
    (∀ SC SR st w ec ln wt R t fuc fu fu2, Dn n so on tw d F SC SR st w ec ln wt R → frC SC0 SC → frR SR0 SR → 2 * (F - st) + R.length < μ → t + μ ≤ 1000000 → μ + 1 ≤ fuc → μ + 3 ≤ fu → μ + 3 ≤ fu2 → Gl SC0 SR0 (zf_X8_run_73 N z fuc (nI t) SC) (mq_cl (zf_X11_down_z N z fu SR) (kD N z fu2))) ∧
    (∀ SC SR st W w ec ln wt m R x t fuc fu fu2, Mn n so on tw d F SC SR st W w ec ln wt m R → lst n (fun f => m ≤ f ∧ td so on tw 7 (lb (SC.2.2 3) w) f) x → frC SC0 SC → frR SR0 SR → 2 * (F - st) + R.length < μ → t + μ ≤ 1000000 → μ + 1 ≤ fuc → μ + 3 ≤ fu → μ + 3 ≤ fu2 → Gl SC0 SR0 (zf_X8_run_73 N z fuc (nI t) SC) (mq_cl (zf_X11_mays_54 N z fu (nI wt) x SR) (kM N z fu2)))
  | 0, _ => ⟨fun _ _ _ _ _ _ _ _ _ _ _ _ _ _ _ h => by omega, fun _ _ _ _ _ _ _ _ _ _ _ _ _ _ _ _ _ _ _ h => by omega⟩
  | μ + 1, hμ => by
    obtain ⟨iD, iM⟩ := all hN hc hx μ (by omega)
    have cM : ∀ SC SR st W w ec ln wt m R x t fuc fu fu2, Mn n so on tw d F SC SR st W w ec ln wt m R → lst n (fun f => m ≤ f ∧ td so on tw 7 (lb (SC.2.2 3) w) f) x → frC SC0 SC → frR SR0 SR → 2 * (F - st) + R.length < μ + 1 → t + (μ + 1) ≤ 1000000 → (μ + 1) + 1 ≤ fuc → (μ + 1) + 3 ≤ fu → (μ + 1) + 3 ≤ fu2 → Gl SC0 SR0 (zf_X8_run_73 N z fuc (nI t) SC) (mq_cl (zf_X11_mays_54 N z fu (nI wt) x SR) (kM N z fu2)) := by
      intro SC SR st W w ec ln wt m R x t fuc fu fu2 hM hl fC fR hm ht hfc hf1 hf2
      obtain ⟨fuc, rfl⟩ : ∃ q, fuc = q + 1 := ⟨fuc - 1, by omega⟩
      obtain ⟨fu, rfl⟩ : ∃ q, fu = q + 1 := ⟨fu - 1, by omega⟩
      obtain ⟨fu2, rfl⟩ : ∃ q, fu2 = q + 1 := ⟨fu2 - 1, by omega⟩
      have hcS := cxC_f hc fC
      have hxS := cxR_f hx fR
      obtain ⟨S4, g1, g2, g3, g4⟩ := M_look (N := N) (z := z) (by omega) hcS hM hl
      have f4 : frC SC S4 := ag_mono g3 (by decide) (by decide) (by decide)
      have hc4 := cxC_f hcS f4
      have h19 : SC.1 19 = 2 := hM.2.1.2.2.2.2.2.2
      have hl' := hl
      rw [← g2] at hl'
      rcases hl' with ⟨e, -⟩ | ⟨f, hf, e, ⟨hmf, htd⟩, hmin⟩
      · subst e
        rw [if_pos rfl] at g4
        rcases M_open (N := N) (z := z) (fu := fu) (fu2 := fu2) (by omega) hc4 hxS g1 with ⟨-, SC', SR', a1, a2, a3, a4, a5, a6⟩ | ⟨u, r, ea, l, b, m', SC', SR', x, a1, a2, a3, a4, a5, a6, a7⟩
        · have go : zf_X8_goOn N z SC = some ((), SC') := g4.trans (cl_go a1)
          obtain ⟨fuc, rfl⟩ : ∃ q, fuc = q + 1 := ⟨fuc - 1, by omega⟩
          refine ⟨0, SC', SR', ?_, a4, ⟨?_, ⟨?_, ?_, ?_⟩, ⟨ln, g1.1.2.2.2.2.2, (a3.1 20 (by decide)).trans g1.2.1.2.2.2.2.2.1⟩, Or.inr (Or.inr (Or.inr ⟨rfl, W, ?_, ?_, ?_, ?_, fun v hv => ?_, fun v hv => ?_⟩))⟩, ag_tr (ag_tr fC f4) (ag_mono a3 (by decide) (by decide) (by decide)), ag_tr fR (ag_mono a5 (by decide) (by decide) (by decide))⟩
          · rw [r73_go h19 (by omega) go, r73_end (by rw [a2]; decide), a2]
          · rw [a3.2.1 21 (by simp), a5.1 19 (by decide)]; exact g1.2.1.2.1.trans g1.2.2.1.2.1.symm
          · rw [a3.2.1 21 (by simp), a5.1 20 (by decide)]; exact g1.2.2.2.1.1
          · rw [a3.2.1 21 (by simp), a5.1 21 (by decide)]; exact g1.2.2.2.1.2.1
          · rw [a3.2.1 21 (by simp), a5.1 22 (by decide)]; exact g1.2.2.2.1.2.2
          · have := g1.1.2.2.1; omega
          · exact g1.1.2.2.2.1
          · rw [a3.1 15 (by decide)]; exact g1.2.1.2.2.1
          · rw [a5.1 24 (by decide)]; exact g1.2.2.1.2.2.1
          · intro u hu
            rw [a3.2.2 1 (by simp), a5.2.1 22 (by decide)]
            exact g1.2.2.2.2.2.2.2.2.2.2.1 v hv u hu
          · intro g hg
            rw [a3.2.2 3 (by simp)]
            exact a6 v hv g hg
        · have go : zf_X8_goOn N z SC = some ((), SC') := g4.trans (cl_go a2)
          subst a1
          simp only [List.length_cons] at hm
          rw [r73_go h19 (by omega) go, a3]
          exact iM SC' SR' st W u ea l b m' r x (t + 1) fuc N fu2 a5 a4 (ag_tr (ag_tr fC f4) a6) (ag_tr fR a7) (by omega) (by omega) (by omega) (by omega) (by omega)
      · subst e
        have h300 := hc.2.2.2.2.1
        rw [if_neg (nI_nm (by omega))] at g4
        rcases M_may (N := N) (z := z) (fu := fu) (fu2 := fu2) (by omega) hc4 hxS g1 hf hmf htd hmin with ⟨SC', SR', v, a1, a2, a3, a4, a5, a6, a7, a8, a9⟩ | ⟨h1, SC', SR', x, a1, a2, a3, a4, a5, a6⟩ | ⟨h1, SC', SR', a1, a2, a3, a4, a5⟩
        · have go : zf_X8_goOn N z SC = some ((), SC') := g4.trans (cl_go a1)
          have fi : Fi v SC' SR' := ⟨a5, a6, ⟨ln, g1.1.2.2.2.2.2, a9⟩, a3.elim Or.inl (fun e => Or.inr (Or.inl e))⟩
          obtain ⟨fuc, rfl⟩ : ∃ q, fuc = q + 1 := ⟨fuc - 1, by omega⟩
          exact ⟨v, SC', SR', by rw [r73_go h19 (by omega) go, r73_end (by rw [a2]; exact Fi_v fi), a2], a4, fi, ag_tr (ag_tr fC f4) a7, ag_tr fR a8⟩
        · have go : zf_X8_goOn N z SC = some ((), SC') := g4.trans (cl_go a1)
          rw [r73_go h19 (by omega) go, a2]
          exact iM SC' SR' (st + 1) W w ec ln wt (f + 1) R x (t + 1) fuc fu (fu2 + 1) a4 a3 (ag_tr (ag_tr fC f4) a5) (ag_tr fR a6) (by omega) (by omega) (by omega) (by omega) (by omega)
        · have go : zf_X8_goOn N z SC = some ((), SC') := g4.trans (cl_go a1)
          rw [r73_go h19 (by omega) go, a2]
          exact iD SC' SR' (st + 1) W ec (ln + 1) (wt + 1) (w :: R) (t + 1) fuc N fu2 a3 (ag_tr (ag_tr fC f4) a4) (ag_tr fR a5) (by simp only [List.length_cons]; omega) (by omega) (by omega) (by omega) (by omega)
    refine ⟨?_, cM⟩
    intro SC SR st w ec ln wt R t fuc fu fu2 hD fC fR hm ht hfc hf1 hf2
    obtain ⟨fuc, rfl⟩ : ∃ q, fuc = q + 1 := ⟨fuc - 1, by omega⟩
    obtain ⟨fu, rfl⟩ : ∃ q, fu = q + 1 + 1 := ⟨fu - 2, by omega⟩
    obtain ⟨fu2, rfl⟩ : ∃ q, fu2 = q + 1 := ⟨fu2 - 1, by omega⟩
    have hcS := cxC_f hc fC
    have hxS := cxR_f hx fR
    have h19 : SC.1 19 = 2 := hD.2.1.2.2.2.2.2.2
    rcases D_turn (N := N) (z := z) (fu := fu) (fu2 := fu2) (by omega) hcS hxS hD with (⟨SC', SR', v, a1, a2, a3, a4, a5, a6⟩ | ⟨h1, SC', SR', w', ec', ln', wt', R', fu', fu2', a1, a2, a3, a3', a4, a5, a6, a7⟩) | ⟨SR', x, a1, a2, a3, a4⟩
    · obtain ⟨fuc, rfl⟩ : ∃ q, fuc = q + 1 := ⟨fuc - 1, by omega⟩
      exact ⟨v, SC', SR', by rw [r73_go h19 (by omega) a1, r73_end (by rw [a2]; exact Fi_v a4), a2], a3, a4, ag_tr fC a5, ag_tr fR a6⟩
    · rw [r73_go h19 (by omega) a1, a2]
      exact iD SC' SR' (st + 1) w' ec' ln' wt' R' (t + 1) fuc fu' fu2' a5 (ag_tr fC a6) (ag_tr fR a7) (by omega) (by omega) (by omega) (by omega) (by omega)
    · rw [a1]
      exact cM SC SR' st (w + 1) w ec ln wt 0 R x t (fuc + 1) N (fu2 + 1) a3 a2 fC (ag_tr fR a4) (by omega) (by omega) (by omega) (by omega) (by omega)
end LOOP
end
/-! a3.start -/
section
/-! The tableau: its start. -/
section STARTS
variable {N n F : Nat} {z : Nat → Nat} {so on tw : Nat → Int32} {d : Nat → Nat} {S T SC SR : mq_St} {no l : Nat}
theorem r30 (S : mq_St) {v1 : Int32} : ∀ (fu k : Nat) (c : Nat → Int32), k ≤ 4 → 4 - k < fu → (∀ i, i < k → c i = 0) → ∃ c' fu', zf_X8_run_30 N z fu v1 (nI k) (mq_sa S 21 c) = zf_X8_run_30 N z (fu' + 1) v1 (nI 4) (mq_sa S 21 c') ∧ ∀ i, i < 4 → c' i = 0
  | 0, k, c, _, h, _ => by omega
  | fu + 1, k, c, hk, hfu, hc => by
    by_cases e : k = 4
    · exact ⟨c, fu, by rw [e], fun i hi => hc i (by omega)⟩
    · obtain ⟨c', fu', g1, g2⟩ := r30 (v1 := v1) S fu (k + 1) (upd c k 0) (by omega) (by omega) (fun i hi => by
        by_cases q : i = k
        · rw [q, up_s]
        · rw [up_o q]; exact hc i (by omega))
      refine ⟨c', fu', ?_, g2⟩
      rw [← g1]
      show zf_X8_run_30b N z (fun v1 v3 S => zf_X8_run_30 N z fu v1 v3 S) v1 (nI k) (mq_sa S 21 c) = _
      unfold zf_X8_run_30b
      rw [if_neg (show ¬ (4 : Int32) ≤ nI k from nI_ge (b := 4) (show k < 4 by omega) (by omega)), mq_ck_of (vp_in_nI (by omega) (by omega)), nI_clamp (by omega), nS_e, nI_e, nI_1, sa_sa]
      rfl
theorem t47 (S : mq_St) {v1 : Int32} : ∀ (fu k : Nat) (c : Nat → Int32), k ≤ 10 → 10 - k < fu → (∀ i, i < k → c i = 0) → ∃ c' fu', zf_X11_tableau_47 N z fu v1 (nI k) (mq_sa S 17 c) = zf_X11_tableau_47 N z (fu' + 1) v1 (nI 10) (mq_sa S 17 c') ∧ ∀ i, i < 10 → c' i = 0
  | 0, k, c, _, h, _ => by omega
  | fu + 1, k, c, hk, hfu, hc => by
    by_cases e : k = 10
    · exact ⟨c, fu, by rw [e], fun i hi => hc i (by omega)⟩
    · obtain ⟨c', fu', g1, g2⟩ := t47 (v1 := v1) S fu (k + 1) (upd c k 0) (by omega) (by omega) (fun i hi => by
        by_cases q : i = k
        · rw [q, up_s]
        · rw [up_o q]; exact hc i (by omega))
      refine ⟨c', fu', ?_, g2⟩
      rw [← g1]
      show zf_X11_tableau_47b N z (fun v1 v2 S => zf_X11_tableau_47 N z fu v1 v2 S) v1 (nI k) (mq_sa S 17 c) = _
      unfold zf_X11_tableau_47b
      rw [if_neg (show ¬ (10 : Int32) ≤ nI k from nI_ge (b := 10) (show k < 10 by omega) (by omega)), mq_ck_of (vp_in_nI (by omega) (by omega)), nI_clamp (by omega), nS_e, nI_e, nI_1, sa_sa]
      rfl
def s0C (S : mq_St) (F : Nat) : mq_St := mq_si (mq_si (mq_si (mq_si (mq_si S 18 (nI F)) 19 2) 14 0) 15 0) 20 (nI 0)
def s0R (S : mq_St) (F : Nat) : mq_St := mq_si (mq_si (mq_si (mq_si (mq_si (mq_si (mq_si (mq_si (mq_si (mq_si S 18 (nI F)) 19 0) 20 0) 21 0) 22 0) 23 0) 24 0) 26 0) 27 0) 28 0
theorem st_tab (hN : 300000 ≤ N) (hc : cxC SC n so on tw d) (hx : cxR SR n so on tw d) (hl : SC.1 20 = nI l) (hl2 : l ≤ 1299) (hno : no < n) (hF : F ≤ 100000) : Gl SC SR (zf_X8_run N z (nI no) (nI F) SC) (zf_X11_tableau N z (nI no) (mq_si SR 18 (nI F))) := by
  have hfw := hc.2.2.2
  have h300 := hfw.2.1
  obtain ⟨X, x1, x2⟩ := pu_3 (N := N) (z := z) (S := mq_si (mq_si (mq_si (mq_si SC 18 (nI F)) 19 2) 14 0) 15 0) (ln := l) (p := 0) (v := 0) hl rfl (by omega) hl2
  obtain ⟨c, fu', c1, c2⟩ := r30 (N := N) (z := z) (v1 := nI no) (s0C SC F) N 0 (SC.2.1 21) (by omega) (by omega) (fun i hi => by omega)
  rw [show mq_sa (s0C SC F) 21 (SC.2.1 21) = s0C SC F from sa_i (s0C SC F) 21] at c1
  obtain ⟨a, a1, a2⟩ := se_empty (N := N) (R := 61) (r := 0) (z := fun k => [305].getD k 0) (S := mq_pull (mq_sa (s0C SC F) 21 c) [] [] [2]) (by omega) rfl (by omega) (by omega)
  obtain ⟨b, b1, b2⟩ := se_put (N := N) (R := 61) (r := 0) (f := no) (z := fun k => [305].getD k 0) (S := mq_pull (mq_sl (mq_sa (s0C SC F) 21 c) 2 a) [] [] [2]) rfl (by omega) (by omega) (by omega)
  obtain ⟨q3, q4, v1, v2, v3⟩ := ck_bgw (N := N) (z := z) (v1 := -1) (v2 := 1) (W := 0) (S := mq_sl (mq_sa (s0C SC F) 21 c) 2 b) (by omega) (by omega) rfl
  have rowb : ∀ g, g < 320 → lb b 0 g = decide (g = no) := fun g hg => by
    rw [b2 0 g hg]
    show (lb a 0 g || _) = _
    rw [a2 0 g hg]
    simp
  have cls : zf_X8_run N z (nI no) (nI F) SC = zf_X8_run_73 N z N (nI 0) (bgC (mq_sl (mq_sa (s0C SC F) 21 c) 2 b) 0 (-1) 1 (if lb q3 0 1 = true then 1 else -1) q3 q4) := by
    unfold zf_X8_run
    rw [nS_e, nS_e, nS_e, nS_e]
    refine (cl_go x1).trans ?_
    rw [x2, nS_e, nI_e]
    refine c1.trans ?_
    show zf_X8_run_30b N z (fun v1 v3 S => zf_X8_run_30 N z fu' v1 v3 S) (nI no) (nI 4) (mq_sa (s0C SC F) 21 c) = _
    unfold zf_X8_run_30b
    rw [if_pos (by decide)]
    refine (cl_go a1).trans ?_
    rw [push1, nS_e]
    refine (cl_go b1).trans ?_
    rw [push1, nS_e, sl_sl]
    refine (cl_go v1).trans ?_
    rw [nI_e]
    rfl
  obtain ⟨e, fu2', e1, e2⟩ := t47 (N := N) (z := z) (v1 := nI no) (s0R SR F) N 0 (SR.2.1 17) (by omega) (by omega) (fun i hi => by omega)
  rw [show mq_sa (s0R SR F) 17 (SR.2.1 17) = s0R SR F from sa_i (s0R SR F) 17] at e1
  obtain ⟨N', hN'⟩ : ∃ q, N = q + 1 := ⟨N - 1, by omega⟩
  obtain ⟨g, g1, g2⟩ := rf_pu (N := N) (S := mq_sa (s0R SR F) 17 e) (g := no) (y := nI no) (k := fun S13 => (mq_cl (zf_X11_begins N z ((-1 : Int32)) S13) (fun q14v S16 => (mq_nI ((1 : Int32)) (fun x17 => (zf_X11_tableau_82 N z N (x17) S16)))))) rfl (by omega)
  obtain ⟨q, h1, h2⟩ := rf_bgw (N := N) (z := z) (v1 := -1) (v2 := 1) (W := 0) (S := mq_sa (mq_sa (s0R SR F) 17 e) 17 g) (by omega) (by omega) rfl (Or.inl ⟨rfl, rfl⟩)
  have rowg : ∀ h, h < 320 → ib g 0 h = decide (h = no) := fun h hh => by
    rw [g2 h hh]
    show (ib e 0 h || _) = _
    rw [ib_0 e2 hh, Bool.false_or]
  have ref : zf_X11_tableau N z (nI no) (mq_si SR 18 (nI F)) = mq_cl (zf_X11_down_z N z N (bgR (mq_sa (mq_sa (s0R SR F) 17 e) 17 g) 0 (-1) 1 q)) (kD N z N') := by
    unfold zf_X11_tableau
    rw [nS_e, nS_e, nS_e, nS_e, nS_e, nS_e, nS_e, nS_e, nS_e, nI_e]
    refine e1.trans ?_
    show zf_X11_tableau_47b N z (fun v1 v2 S => zf_X11_tableau_47 N z fu2' v1 v2 S) (nI no) (nI 10) (mq_sa (s0R SR F) 17 e) = _
    unfold zf_X11_tableau_47b
    rw [if_pos (by decide)]
    refine g1.trans ((cl_go h1).trans ?_)
    rw [nI_e]
    have : ∀ S, zf_X11_tableau_82 N z N 1 S = mq_cl (zf_X11_down_z N z N S) (kD N z N') := fun S => by
      have t := t82_D (N := N) (z := z) (fu2 := N') (v := 1) (S := S) (by decide)
      rw [← hN'] at t
      exact t
    exact this _
  rw [cls, ref]
  refine (all (F := F) hN hc hx (2 * F + 1) (by omega)).1 _ _ 0 0 0 0 0 [] 0 N N N' (Dn_bg (S := mq_sl (mq_sa (s0C SC F) 21 c) 2 b) (T := mq_sa (mq_sa (s0R SR F) 17 e) 17 g) (W := 0) (p := no) (P := []) hfw hx.2.2.1 ⟨by omega, hF, by omega, by omega, by omega⟩ rfl (c2 0 (by omega)) rfl rfl rfl rfl rfl rfl rfl rfl rfl ⟨c2 1 (by omega), c2 2 (by omega), c2 3 (by omega)⟩ (fun i hi => by omega) (fun v hv => by omega) (fun h hh => ?_) (fun h hh q => ?_) (fun v hv => by omega) (fun v hv => by omega) v2 v3 h2 ⟨0, 0, 0, rfl, rfl, rfl, fun j hj => by omega, Or.inl ⟨rfl, rfl, rfl, rfl⟩⟩) ?_ ?_ (by simp) (by omega) (by omega) (by omega) (by omega)
  · show ib g 0 h = lb b 0 h
    rw [rowb h hh, rowg h hh]
  · have : lb b 0 h = true := q
    rw [rowb h hh] at this
    have := of_decide_eq_true this
    exact ⟨by omega, Or.inr this⟩
  · exact fCi (fCl (fCa (fCa (fCa (fCl (fCl (fCa (fCi (fCi (fCl (fCa (fCi (fCi (fCi (fCi (fCi ag_rf (by decide)) (by decide)) (by decide)) (by decide)) (by decide)) (by decide)) (by decide)) (by decide)) (by decide)) (by decide)) (by decide)) (by decide)) (by decide)) (by decide)) (by decide)) (by decide)) (by decide)
  · exact fRi (fRa (fRi (fRa (fRa (fRi (fRi (fRa (fRa (fRi (fRi (fRi (fRi (fRi (fRi (fRi (fRi (fRi (fRi ag_rf (by decide)) (by decide)) (by decide)) (by decide)) (by decide)) (by decide)) (by decide)) (by decide)) (by decide)) (by decide)) (by decide)) (by decide)) (by decide)) (by decide)) (by decide)) (by decide)) (by decide)) (by decide)) (by decide)
end STARTS
end
/-! a4.some -/
section
/-! Loops that end. -/
theorem lp_to {β : Type} {F : Nat → Int32 → mq_St → Option β} {n : Nat} {I : mq_St → Prop} {G : mq_St → Option β} (hend : ∀ fu S, I S → F (fu + 1) (nI n) S = G S) (hstep : ∀ fu k S, k < n → I S → ∃ S', I S' ∧ F (fu + 1) (nI k) S = F fu (nI (k + 1)) S') : ∀ (fu k : Nat) (S : mq_St), k ≤ n → n - k < fu → I S → ∃ S', I S' ∧ F fu (nI k) S = G S'
  | 0, k, S, _, h, _ => by omega
  | fu + 1, k, S, hk, hfu, hI => by
    by_cases e : k = n
    · subst e; exact ⟨S, hI, hend fu S hI⟩
    · obtain ⟨S', a, b⟩ := hstep fu k S (by omega) hI
      obtain ⟨S2, c, d⟩ := lp_to hend hstep fu (k + 1) S' (by omega) (by omega) a
      exact ⟨S2, c, b.trans d⟩
theorem lp_v {A β : Type} {F : Nat → A → Int32 → Option β} {n : Nat} (hend : ∀ fu a, ∃ r, F (fu + 1) a (nI n) = some r) (hstep : ∀ fu k a, k < n → (∃ r, F (fu + 1) a (nI k) = some r) ∨ ∃ a', F (fu + 1) a (nI k) = F fu a' (nI (k + 1))) : ∀ (fu k : Nat) (a : A), k ≤ n → n - k < fu → ∃ r, F fu a (nI k) = some r
  | 0, k, a, _, h => by omega
  | fu + 1, k, a, hk, hfu => by
    by_cases e : k = n
    · subst e; exact hend fu a
    · rcases hstep fu k a (by omega) with h | ⟨a', h⟩
      · exact h
      · rw [h]; exact lp_v hend hstep fu (k + 1) a' (by omega) (by omega)
section SOME
variable {N n : Nat} {z : Nat → Nat} {so on tw : Nat → Int32} {d : Nat → Nat} {S SC SR : mq_St} {W w : Nat}
theorem ck_hasw (v : Int32) (h : S.1 23 = nI W) (hW : W ≤ 60) : (zf_X4_has N z v S = some 0) ∨ ∃ k, k < W ∧ v = nI k ∧ zf_X4_has N z v S = some 1 := by
  unfold zf_X4_has
  rw [h]
  rcases mq_place v (t := W) (by omega) with q | ⟨k, hk, hv, q⟩
  · left
    by_cases e : v < 0
    · rw [if_pos e, mq_cz_0]
    · rw [if_neg e, if_pos (q.resolve_left e), mq_cz_0]
  · right
    exact ⟨k, hk, hv, by rw [if_neg (fun a => q (Or.inl a)), if_neg (fun a => q (Or.inr a)), mq_cz_1]⟩
theorem ck_seen (v u : Int32) (h : S.1 23 = nI W) (hW : W ≤ 60) : ∃ r : Int32, zf_X4_isSeen N z v u S = some r ∧ (r = 0 ∨ r = 1) := by
  unfold zf_X4_isSeen
  rcases ck_hasw (N := N) (z := z) v h hW with a | ⟨k, hk, e, a⟩
  · rw [a, mq_cp_s, if_pos rfl, mq_cz_0]; exact ⟨0, rfl, Or.inl rfl⟩
  · rw [a, mq_cp_s, if_neg (by decide)]
    rcases ck_hasw (N := N) (z := z) u h hW with b | ⟨k', hk', e', b⟩
    · rw [b, mq_cp_s, if_pos rfl, mq_cz_0]; exact ⟨0, rfl, Or.inl rfl⟩
    · rw [b, mq_cp_s, if_neg (by decide), e, mq_ck_of (vp_in_nI (by omega) (by omega)), mq_cz_0, mq_cz_1]
      by_cases c : (lg_cmp ((mq_lushr (S.2.2 7 (nI k).toNatClampNeg) u) &&& (1 : Int64)) (0 : Int64)) = (0 : Int32)
      · rw [if_pos c]; exact ⟨0, rfl, Or.inl rfl⟩
      · rw [if_neg c]; exact ⟨1, rfl, Or.inr rfl⟩
/-- the class's model, and nothing else -/
def frM (S S' : mq_St) : Prop := ag [22, 23, 24] [23, 24, 25, 26, 27] [7, 8, 9] S S'
theorem cs_12 {k2 : Int32 → mq_St → Option (Unit × mq_St)} {S0 : mq_St} (hN : 100 ≤ N) (hW : W ≤ 60) (hw : w < W) {t : Int32} (hS : frM S0 S) (h : S.1 23 = nI W ∧ S.1 22 = t) : ∃ S', (frM S0 S' ∧ S'.1 23 = nI W ∧ S'.1 22 = t) ∧ zf_X4_closeSight_12 N z k2 N (nI w) (nI 0) S = k2 (nI (w + 1)) S' := by
  refine lp_to (F := fun fu k S => zf_X4_closeSight_12 N z k2 fu (nI w) k S) (n := W) (I := fun S' => frM S0 S' ∧ S'.1 23 = nI W ∧ S'.1 22 = t) (G := fun S' => k2 (nI (w + 1)) S') (fun fu S hI => ?_) (fun fu k S hk hI => ?_) N 0 S (by omega) (by omega) ⟨hS, h⟩
  · show zf_X4_closeSight_12b N z k2 _ (nI w) (nI W) S = _
    unfold zf_X4_closeSight_12b
    rw [hI.2.1, if_pos (nI_le (Nat.le_refl _) (by omega)), nI_e, nI_1]
  · show ∃ S', (frM S0 S' ∧ S'.1 23 = nI W ∧ S'.1 22 = t) ∧ zf_X4_closeSight_12b N z k2 (fun v1 v2 S => zf_X4_closeSight_12 N z k2 fu v1 v2 S) (nI w) (nI k) S = _
    unfold zf_X4_closeSight_12b zf_X4_closeSight_44
    obtain ⟨r, hr, -⟩ := ck_seen (N := N) (z := z) (nI k) (nI w) hI.2.1 hW
    rw [hr, mq_cp_s, hI.2.1, if_neg (nI_ge hk (by omega)), nI_e, nI_1]
    by_cases e : r = 0
    · exact ⟨S, hI, by rw [if_pos e]⟩
    · refine ⟨mq_sl S 7 (vp_updL (S.2.2 7) k (S.2.2 7 k ||| S.2.2 7 w)), ⟨ag_tr hI.1 (ag_sl (by decide)), hI.2⟩, ?_⟩
      · rw [if_neg e, mq_ck_of (vp_in_nI (by omega) (by omega)), mq_ck_of (vp_in_nI (by omega) (by omega)), mq_ck_of (vp_in_nI (by omega) (by omega)), nI_clamp (by omega), nI_clamp (by omega), nS_e]
        rfl
theorem cs_all {S0 : mq_St} (hN : 100 ≤ N) (hW : W ≤ 60) {t : Int32} (hS : frM S0 S) (h : S.1 23 = nI W ∧ S.1 22 = t) : ∃ S', (frM S0 S' ∧ S'.1 23 = nI W ∧ S'.1 22 = t) ∧ zf_X4_closeSight N z S = some ((), S') := by
  unfold zf_X4_closeSight
  rw [nI_e]
  refine lp_to (F := fun fu k S => zf_X4_closeSight_2 N z fu k S) (n := W) (I := fun S' => frM S0 S' ∧ S'.1 23 = nI W ∧ S'.1 22 = t) (G := fun S' => some ((), S')) (fun fu S hI => ?_) (fun fu k S hk hI => ?_) N 0 S (by omega) (by omega) ⟨hS, h⟩
  · show zf_X4_closeSight_2b N z _ (nI W) S = _
    unfold zf_X4_closeSight_2b
    rw [hI.2.1, if_pos (nI_le (Nat.le_refl _) (by omega))]
  · obtain ⟨S', a, b⟩ := cs_12 (N := N) (z := z) (k2 := fun v1 S => zf_X4_closeSight_2 N z fu v1 S) hN hW hk hI.1 hI.2
    refine ⟨S', a, ?_⟩
    show zf_X4_closeSight_2b N z (fun v1 S => zf_X4_closeSight_2 N z fu v1 S) (nI k) S = _
    unfold zf_X4_closeSight_2b
    rw [hI.2.1, if_neg (nI_ge hk (by omega)), nI_e]
    exact b
theorem ck_lets (hN : 400 ≤ N) (hc : cxC S n so on tw d) (hw : w < 60) : ∃ r, zf_X8_lettersOf N z (nI w) S = some r := by
  have h300 := hc.2.2.2.2.1
  unfold zf_X8_lettersOf
  rw [nI_e, nI_e]
  refine lp_v (F := fun fu a k => zf_X8_lettersOf_4 N z S fu (nI w) a k) (n := n) (fun fu a => ?_) (fun fu k a hk => ?_) N 0 0 (by omega) (by omega)
  · refine ⟨a, ?_⟩
    show zf_X8_lettersOf_4b N z S _ (nI w) a (nI n) = _
    unfold zf_X8_lettersOf_4b
    refine (cp_go (v := nI n) (congrArg some hc.1)).trans ?_
    rw [if_pos (nI_le (Nat.le_refl _) (by omega))]
  · right
    show ∃ a', zf_X8_lettersOf_4b N z S (fun v1 v2 v3 => zf_X8_lettersOf_4 N z S fu v1 v2 v3) (nI w) a (nI k) = _
    have i := ck_in (N := N) (z := z) hc.1 h300 hk
    have hh := se_has (N := N) (R := 60) (r := w) (f := k) (z := fun k => [300].getD k 0) (S := mq_pull S [] [] [3]) rfl (by omega) hw (by omega)
    unfold zf_X8_lettersOf_4b zf_X8_lettersOf_52
    rw [show zf_X7_size N z S = some (nI n) from congrArg some hc.1, mq_cp_s, if_neg (nI_ge hk (by omega)), i.1, mq_cp_s, i.2.1, hh, mq_cp_s, mq_cp_s, nI_e, nI_e, nI_1]
    by_cases e : S.2.1 4 k = 2
    · rw [if_pos e]
      by_cases e' : (if lb ((mq_pull S [] [] [3]).2.2 0) w k = true then (1 : Int32) else 0) = 0
      · rw [if_pos e']; exact ⟨a, rfl⟩
      · rw [if_neg e']; exact ⟨_, rfl⟩
    · rw [if_neg e]; exact ⟨a, rfl⟩
theorem ck_size {l : Nat → Int64} (hN : 100 ≤ N) (hw : w < 60) : ∃ r, zf_X6_sizeOf N (fun k => [300].getD k 0) (nI w) (mq_pull S [] [] [3]) = some r := by
  unfold zf_X6_sizeOf
  rw [nI_e, nI_e]
  refine lp_v (F := fun fu a k => zf_X6_sizeOf_4 N (fun k => [300].getD k 0) (mq_pull S [] [] [3]) fu (nI w) a k) (n := 5) (fun fu a => ?_) (fun fu k a hk => ?_) N 0 0 (by omega) (by omega)
  · refine ⟨a, ?_⟩
    show zf_X6_sizeOf_4b N _ _ _ (nI w) a (nI 5) = _
    unfold zf_X6_sizeOf_4b
    rw [if_pos (by decide)]
  · right
    show ∃ a', zf_X6_sizeOf_4b N (fun k => [300].getD k 0) (mq_pull S [] [] [3]) (fun v1 v2 v3 => zf_X6_sizeOf_4 N (fun k => [300].getD k 0) (mq_pull S [] [] [3]) fu v1 v2 v3) (nI w) a (nI k) = _
    unfold zf_X6_sizeOf_4b
    rw [if_neg (show ¬ (5 : Int32) ≤ nI k from nI_ge (b := 5) hk (by omega)), se_bits (N := N) (R := 60) (z := fun k => [300].getD k 0) rfl (by omega) hw hk, mq_cp_s, bc_is, mq_cp_s, nI_e, nI_e, nI_1]
    exact ⟨_, rfl⟩
theorem ck_addw {v1 v4 : Int32} {v2 : Int64} {S0 : mq_St} (hW : W ≤ 60) (hS : frM S0 S) (h : S.1 23 = nI W) : ∃ S' W', W' ≤ 60 ∧ S'.1 23 = nI W' ∧ S'.1 22 = S.1 22 ∧ frM S0 S' ∧ zf_X4_addWorld N z v1 v2 v4 S = some ((), S') := by
  unfold zf_X4_addWorld
  rw [h]
  by_cases e : W = 60
  · exact ⟨S, W, hW, h, rfl, hS, by rw [e, if_pos (by decide)]⟩
  · refine ⟨mq_si (mq_sa (mq_sl (mq_sa S 23 (upd (S.2.1 23) W v1)) 7 (vp_updL (S.2.2 7) W (v2 ||| mq_lshl 1 (nI W)))) 25 (upd (S.2.1 25) W v4)) 23 (nI (W + 1)), W + 1, by omega, rfl, rfl, ag_tr hS (ag_tr (ag_tr (ag_tr (ag_sa (by decide)) (ag_sl (by decide))) (ag_sa (by decide))) (ag_si (by decide))), ?_⟩
    have i1 : vp_in (nI W) 60 := vp_in_nI (by omega) (by omega)
    rw [if_neg (show ¬ (60 : Int32) ≤ nI W from nI_ge (b := 60) (by omega) (by omega)), mq_ck_of i1, nI_clamp (by omega), nS_e, show (mq_sa S 23 (upd (S.2.1 23) W v1)).1 23 = nI W from h, mq_ck_of i1, nI_clamp (by omega), nS_e]
    rw [show (mq_sl (mq_sa S 23 (upd (S.2.1 23) W v1)) 7 (vp_updL ((mq_sa S 23 (upd (S.2.1 23) W v1)).2.2 7) W (v2 ||| mq_lshl 1 (nI W)))).1 23 = nI W from h, mq_ck_of i1, nI_clamp (by omega), nS_e, nS_e]
    show some ((), mq_si _ 23 (S.1 23 + 1)) = _
    rw [h, nI_1]
    rfl
theorem ck_fillm {l : Nat → Int64} (hN : 400 ≤ N) (hc : cxC S n so on tw d) (h15 : S.1 15 = nI W) (hW : W ≤ 60) : ∃ S' W', W' ≤ 60 ∧ S'.1 23 = nI W' ∧ S'.1 22 = 0 ∧ frM S S' ∧ zf_X8_fillModel N z S = some ((), S') := by
  have cl : zf_X4_clear N z S = some ((), mq_si (mq_si (mq_si S 23 0) 22 0) 24 0) := by
    unfold zf_X4_clear
    rw [nS_e, nS_e, mq_cz_0, nS_e]
  have key := lp_to (F := fun fu k T => zf_X8_fillModel_6 N z fu k T) (n := W) (I := fun T => frM S T ∧ T.1 22 = 0 ∧ ∃ c, c ≤ 60 ∧ T.1 23 = nI c) (G := fun T => zf_X8_fillModel_49 N z T) (fun fu T hI => by
    show zf_X8_fillModel_6b N z _ (nI W) T = _
    unfold zf_X8_fillModel_6b
    rw [hI.1.1 15 (by decide), h15, if_pos (nI_le (Nat.le_refl _) (by omega))]) (fun fu k T hk hI => by
    obtain ⟨hI1, hI2, c, hc1, hc2⟩ := hI
    have hcT : cxC T n so on tw d := cxC_c hc (hI1.1 2 (by decide)) (hI1.2.1 4 (by decide)) (hI1.2.1 5 (by decide)) (hI1.2.1 6 (by decide)) (hI1.2.1 7 (by decide)) (hI1.2.2 0 (by decide))
    obtain ⟨r, hr⟩ := ck_lets (N := N) (z := z) (w := k) (by omega) hcT (by omega)
    obtain ⟨s, hs⟩ := ck_size (N := N) (S := T) (w := k) (l := fun _ => 0) (by omega) (by omega)
    obtain ⟨S', W', a1, a2, a2', a3, a4⟩ := ck_addw (N := N) (z := z) (v1 := r) (v4 := s) (v2 := T.2.2 1 k) hc1 hI1 hc2
    have h22 : S'.1 22 = 0 := a2'.trans hI2
    refine ⟨S', ⟨a3, h22, W', a1, a2⟩, ?_⟩
    show zf_X8_fillModel_6b N z (fun v2 S => zf_X8_fillModel_6 N z fu v2 S) (nI k) T = _
    unfold zf_X8_fillModel_6b
    rw [hI1.1 15 (by decide), h15, if_neg (nI_ge hk (by omega)), if_neg (show ¬ (60 : Int32) ≤ nI k from nI_ge (b := 60) (by omega) (by omega))]
    refine (cp_go hr).trans ?_
    rw [mq_ck_of (vp_in_nI (by omega) (by omega)), nI_clamp (by omega)]
    refine (cp_go hs).trans ((cl_go a4).trans ?_)
    rw [nI_e, nI_1]) N 0 (mq_si (mq_si (mq_si S 23 0) 22 0) 24 0) (by omega) (by omega) ⟨ag_tr (ag_tr (ag_si (by decide)) (ag_si (by decide))) (ag_si (by decide)), rfl, 0, by omega, rfl⟩
  obtain ⟨T, ⟨k1, k2, c, k3, k4⟩, k5⟩ := key
  obtain ⟨S', ⟨b1, b2, b2'⟩, b3⟩ := cs_all (N := N) (z := z) (by omega) k3 k1 ⟨k4, k2⟩
  refine ⟨S', c, k3, b2, b2', b1, ?_⟩
  · unfold zf_X8_fillModel
    refine (cl_go cl).trans ?_
    rw [nI_e]
    refine k5.trans ?_
    unfold zf_X8_fillModel_49
    exact cl_go b3
end SOME
end
/-! a5.take -/
section
/-! takeModel() ends. -/
theorem lp_x {β : Type} {F : Nat → Int32 → mq_St → Option β} {n : Nat} {I : mq_St → Prop} {G : mq_St → Option β} (hend : ∀ fu S, I S → F (fu + 1) (nI n) S = G S) (hstep : ∀ fu k S, k < n → I S → ∃ S', I S' ∧ (F (fu + 1) (nI k) S = F fu (nI (k + 1)) S' ∨ F (fu + 1) (nI k) S = G S')) : ∀ (fu k : Nat) (S : mq_St), k ≤ n → n - k < fu → I S → ∃ S', I S' ∧ F fu (nI k) S = G S'
  | 0, k, S, _, h, _ => by omega
  | fu + 1, k, S, hk, hfu, hI => by
    by_cases e : k = n
    · subst e; exact ⟨S, hI, hend fu S hI⟩
    · obtain ⟨S', a, b | b⟩ := hstep fu k S (by omega) hI
      · obtain ⟨S2, c, d⟩ := lp_x hend hstep fu (k + 1) S' (by omega) (by omega) a
        exact ⟨S2, c, b.trans d⟩
      · exact ⟨S', a, b⟩
/-- the reference's model, and nothing else -/
def frK (S S' : mq_St) : Prop := ag [] [34, 35, 36] [] S S'
section TAKE
variable {N n : Nat} {z : Nat → Nat} {so on tw : Nat → Int32} {d : Nat → Nat} {S S0 : mq_St} {W w u : Nat}
theorem e60 (a b : Nat) : (60 : Int32) * nI a + nI b = nI (60 * a + b) := by rw [show (60 : Int32) = nI 60 from rfl, pk_mul, nI_add]
theorem tk_106 {k10 : Int32 → mq_St → Option (Unit × mq_St)} (hN : 100 ≤ N) (h24 : S0.1 24 = nI W) (hW : W ≤ 60) (hw : w < W) (hS : frK S0 S) : ∃ S', frK S0 S' ∧ zf_X11_takeModel_106 N z k10 N (nI w) (nI 0) S = k10 (nI (w + 1)) S' := by
  refine lp_to (F := fun fu k S => zf_X11_takeModel_106 N z k10 fu (nI w) k S) (n := W) (I := fun S' => frK S0 S') (G := fun S' => k10 (nI (w + 1)) S') (fun fu S hI => ?_) (fun fu k S hk hI => ?_) N 0 S (by omega) (by omega) hS
  · show zf_X11_takeModel_106b N z k10 _ (nI w) (nI W) S = _
    unfold zf_X11_takeModel_106b
    rw [hI.1 24 (by decide), h24, if_pos (nI_le (Nat.le_refl _) (by omega)), nI_e, nI_1]
  · show ∃ S', frK S0 S' ∧ zf_X11_takeModel_106b N z k10 (fun v1 v2 S => zf_X11_takeModel_106 N z k10 fu v1 v2 S) (nI w) (nI k) S = _
    have fin : ∀ t2 : Int32, ∃ S', frK S0 S' ∧ zf_X11_takeModel_148 N z k10 (fun v1 v2 S => zf_X11_takeModel_106 N z k10 fu v1 v2 S) (nI w) (nI k) (nI (60 * w + k)) t2 S = zf_X11_takeModel_106 N z k10 fu (nI w) (nI (k + 1)) S' := fun t2 => by
      refine ⟨mq_sa S 35 (upd (S.2.1 35) (60 * w + k) (vp_nar .boolean t2)), ag_tr hI (ag_sa (by decide)), ?_⟩
      unfold zf_X11_takeModel_148
      rw [mq_ck_of (vp_in_nI (by omega) (by omega)), nI_clamp (by omega), nS_e, nI_e, nI_1]
    unfold zf_X11_takeModel_106b zf_X11_takeModel_143
    rw [hI.1 24 (by decide), h24, if_neg (nI_ge hk (by omega)), e60, mq_ck_of (vp_in_nI (by omega) (by omega)), nI_clamp (by omega)]
    by_cases e : nI k = nI w
    · rw [if_pos e]; exact fin 1
    · rw [if_neg e]
      by_cases e' : S.2.1 22 (60 * w + k) = 0
      · rw [if_pos e']; exact fin 0
      · rw [if_neg e']; exact fin 1
theorem tk_34 {k10 : Int32 → mq_St → Option (Unit × mq_St)} (hN : 400 ≤ N) (hx : cxR S0 n so on tw d) (h24 : S0.1 24 = nI W) (hW : W ≤ 60) (hw : w < W) (hS : frK S0 S) : ∃ S', frK S0 S' ∧ zf_X11_takeModel_34 N z k10 N (nI w) (nI 0) S = k10 (nI (w + 1)) S' := by
  have h300 := hx.2.2.2.2.1
  have i1 : vp_in (nI w) 60 := vp_in_nI (by omega) (by omega)
  have c1 : (nI w).toNatClampNeg = w := nI_clamp (by omega)
  obtain ⟨S', a, b⟩ := lp_to (F := fun fu k S => zf_X11_takeModel_34 N z k10 fu (nI w) k S) (n := n) (I := fun S' => frK S0 S') (G := fun S' => zf_X11_takeModel_106 N z k10 N (nI w) (nI 0) S') (fun fu S hI => by
    show zf_X11_takeModel_34b N z k10 _ (nI w) (nI n) S = _
    unfold zf_X11_takeModel_34b
    rw [hI.1 3 (by decide), hx.1, if_pos (nI_le (Nat.le_refl _) (by omega)), nI_e]
    rfl) (fun fu k S hk hI => by
    show ∃ S', frK S0 S' ∧ zf_X11_takeModel_34b N z k10 (fun v1 v2 S => zf_X11_takeModel_34 N z k10 fu v1 v2 S) (nI w) (nI k) S = _
    have i2 : vp_in (nI k) 300 := vp_in_nI (by omega) (by omega)
    have c2 : (nI k).toNatClampNeg = k := nI_clamp (by omega)
    have hh := ri_in (N := N) (R := 60) (r := w) (f := k) (z := fun k => [600].getD k 0) (S := mq_pull S [] [19] []) rfl (by omega) (by omega) (by omega)
    have e10 : (10 : Int32) * nI w = nI (10 * w) := pk_mul 10 w
    unfold zf_X11_takeModel_34b zf_X11_takeModel_98
    rw [hI.1 3 (by decide), hx.1, if_neg (nI_ge hk (by omega)), e10, hh, mq_cp_s, nI_e, nI_1]
    by_cases e : (if ib ((mq_pull S [] [19] []).2.1 0) w k = true then (1 : Int32) else 0) = 0
    · rw [if_pos e]; exact ⟨S, hI, rfl⟩
    · rw [if_neg e, mq_ck_of i1, mq_ck_of i1, c1, nS_e, mq_ck_of i1, mq_ck_of i2, mq_ck_of i2, c2]
      have fin : ∀ t2 t3 : Int32, ∃ S', frK S0 S' ∧ zf_X11_takeModel_96 N z k10 (fun v1 v2 S => zf_X11_takeModel_34 N z k10 fu v1 v2 S) (nI w) (nI k) (nI w) t2 t3 (mq_sa S 36 (upd (S.2.1 36) w (S.2.1 36 w + 1))) = zf_X11_takeModel_34 N z k10 fu (nI w) (nI (k + 1)) S' := fun t2 t3 => by
        refine ⟨mq_sa (mq_sa S 36 (upd (S.2.1 36) w (S.2.1 36 w + 1))) 34 (upd (S.2.1 34) w (t2 ||| t3)), ag_tr hI (ag_tr (ag_sa (by decide)) (ag_sa (by decide))), ?_⟩
        unfold zf_X11_takeModel_96 zf_X11_takeModel_98
        rw [mq_ck_of i1, c1, nS_e, nI_e, nI_1]
        rfl
      by_cases e' : (mq_sa S 36 (upd (S.2.1 36) w (S.2.1 36 w + 1))).2.1 2 k = 2
      · rw [if_pos e']; exact fin _ _
      · rw [if_neg e']; exact fin _ _) N 0 S (by omega) (by omega) hS
  obtain ⟨S2, c, e⟩ := tk_106 (N := N) (z := z) (k10 := k10) (by omega) h24 hW hw a
  exact ⟨S2, c, b.trans e⟩
theorem tk_183 {k163 : Int32 → mq_St → Option (Unit × mq_St)} {k173 : Int32 → Int32 → mq_St → Option (Unit × mq_St)} (hN : 100 ≤ N) (h24 : S0.1 24 = nI W) (hW : W ≤ 60) (hw : w < W) (hu : u < W) (hS : frK S0 S) : ∃ S', frK S0 S' ∧ zf_X11_takeModel_183 N z k163 k173 N (nI w) (nI u) (nI 0) S = k173 (nI w) (nI (u + 1)) S' := by
  refine lp_x (F := fun fu k S => zf_X11_takeModel_183 N z k163 k173 fu (nI w) (nI u) k S) (n := W) (I := fun S' => frK S0 S') (G := fun S' => k173 (nI w) (nI (u + 1)) S') (fun fu S hI => ?_) (fun fu k S hk hI => ?_) N 0 S (by omega) (by omega) hS
  · show zf_X11_takeModel_183b N z k163 k173 _ (nI w) (nI u) (nI W) S = _
    unfold zf_X11_takeModel_183b zf_X11_takeModel_255
    rw [hI.1 24 (by decide), h24, if_pos (nI_le (Nat.le_refl _) (by omega)), nI_e, nI_1]
  · show ∃ S', frK S0 S' ∧ (zf_X11_takeModel_183b N z k163 k173 (fun v1 v2 v3 S => zf_X11_takeModel_183 N z k163 k173 fu v1 v2 v3 S) (nI w) (nI u) (nI k) S = _ ∨ zf_X11_takeModel_183b N z k163 k173 (fun v1 v2 v3 S => zf_X11_takeModel_183 N z k163 k173 fu v1 v2 v3 S) (nI w) (nI u) (nI k) S = _)
    have fin : ∀ t2 : Int32, ∃ S', frK S0 S' ∧ zf_X11_takeModel_248 N z k163 k173 (fun v1 v2 v3 S => zf_X11_takeModel_183 N z k163 k173 fu v1 v2 v3 S) (nI w) (nI u) (nI k) (nI (60 * u + k)) t2 S = zf_X11_takeModel_183 N z k163 k173 fu (nI w) (nI u) (nI (k + 1)) S' := fun t2 => by
      refine ⟨mq_sa S 35 (upd (S.2.1 35) (60 * u + k) (vp_nar .boolean t2)), ag_tr hI (ag_sa (by decide)), ?_⟩
      unfold zf_X11_takeModel_248
      rw [mq_ck_of (vp_in_nI (by omega) (by omega)), nI_clamp (by omega), nS_e, nI_e, nI_1]
    unfold zf_X11_takeModel_183b zf_X11_takeModel_243 zf_X11_takeModel_255
    rw [hI.1 24 (by decide), h24, if_neg (nI_ge hk (by omega)), e60, e60, e60, mq_ck_of (vp_in_nI (by omega) (by omega)), mq_ck_of (vp_in_nI (by omega) (by omega)), mq_ck_of (vp_in_nI (by omega) (by omega)), nI_clamp (by omega), nI_clamp (by omega), nI_clamp (by omega), nI_e, nI_1]
    by_cases e : S.2.1 35 (60 * u + w) = 0
    · exact ⟨S, hI, Or.inr (by rw [if_pos e])⟩
    · rw [if_neg e]
      by_cases e' : S.2.1 35 (60 * u + k) = 0
      · rw [if_pos e']
        by_cases e'' : S.2.1 35 (60 * w + k) = 0
        · rw [if_pos e'']
          obtain ⟨S', a, b⟩ := fin 0
          exact ⟨S', a, Or.inl b⟩
        · rw [if_neg e'']
          obtain ⟨S', a, b⟩ := fin 1
          exact ⟨S', a, Or.inl b⟩
      · rw [if_neg e']
        obtain ⟨S', a, b⟩ := fin 1
        exact ⟨S', a, Or.inl b⟩
theorem tk_all0 (hN : 400 ≤ N) (hx : cxR S n so on tw d) (h24 : S.1 24 = nI W) (hW : W ≤ 60) : ∃ S', frK S S' ∧ zf_X11_takeModel_10 N z N (nI 0) S = some ((), S') := by
  have l3 : ∀ S1, frK S S1 → ∃ S', frK S S' ∧ zf_X11_takeModel_163 N z N (nI 0) S1 = some ((), S') := fun S1 h1 => by
    refine lp_to (F := fun fu k S => zf_X11_takeModel_163 N z fu k S) (n := W) (I := fun S' => frK S S') (G := fun S' => some ((), S')) (fun fu T hI => ?_) (fun fu k T hk hI => ?_) N 0 S1 (by omega) (by omega) h1
    · show zf_X11_takeModel_163b N z _ (nI W) T = _
      unfold zf_X11_takeModel_163b
      rw [hI.1 24 (by decide), h24, if_pos (nI_le (Nat.le_refl _) (by omega))]
    · show ∃ S', frK S S' ∧ zf_X11_takeModel_163b N z (fun v1 S => zf_X11_takeModel_163 N z fu v1 S) (nI k) T = _
      unfold zf_X11_takeModel_163b
      rw [hI.1 24 (by decide), h24, if_neg (nI_ge hk (by omega)), nI_e]
      refine lp_to (F := fun fu2 j T => zf_X11_takeModel_173 N z (fun v1 S => zf_X11_takeModel_163 N z fu v1 S) fu2 (nI k) j T) (n := W) (I := fun S' => frK S S') (G := fun S' => zf_X11_takeModel_163 N z fu (nI (k + 1)) S') (fun fu2 T hI => ?_) (fun fu2 j T hj hI => ?_) N 0 T (by omega) (by omega) hI
      · show zf_X11_takeModel_173b N z _ _ (nI k) (nI W) T = _
        unfold zf_X11_takeModel_173b
        rw [hI.1 24 (by decide), h24, if_pos (nI_le (Nat.le_refl _) (by omega)), nI_e, nI_1]
      · obtain ⟨S', a, b⟩ := tk_183 (N := N) (z := z) (k163 := fun v1 S => zf_X11_takeModel_163 N z fu v1 S) (k173 := fun v1 v2 S => zf_X11_takeModel_173 N z (fun v1 S => zf_X11_takeModel_163 N z fu v1 S) fu2 v1 v2 S) (by omega) h24 hW hk hj hI
        refine ⟨S', a, ?_⟩
        show zf_X11_takeModel_173b N z (fun v1 S => zf_X11_takeModel_163 N z fu v1 S) (fun v1 v2 S => zf_X11_takeModel_173 N z (fun v1 S => zf_X11_takeModel_163 N z fu v1 S) fu2 v1 v2 S) (nI k) (nI j) T = _
        unfold zf_X11_takeModel_173b
        rw [hI.1 24 (by decide), h24, if_neg (nI_ge hj (by omega)), nI_e]
        exact b
  obtain ⟨S1, a, b⟩ := lp_to (F := fun fu k S => zf_X11_takeModel_10 N z fu k S) (n := W) (I := fun S' => frK S S') (G := fun S' => zf_X11_takeModel_163 N z N (nI 0) S') (fun fu T hI => by
    show zf_X11_takeModel_10b N z _ (nI W) T = _
    unfold zf_X11_takeModel_10b
    rw [hI.1 24 (by decide), h24, if_pos (nI_le (Nat.le_refl _) (by omega)), nI_e]
    rfl) (fun fu k T hk hI => by
    have i1 : vp_in (nI k) 60 := vp_in_nI (by omega) (by omega)
    have c1 : (nI k).toNatClampNeg = k := nI_clamp (by omega)
    obtain ⟨S', a, b⟩ := tk_34 (N := N) (z := z) (k10 := fun v1 S => zf_X11_takeModel_10 N z fu v1 S) (S := mq_sa (mq_sa T 34 (upd (T.2.1 34) k 0)) 36 (upd (T.2.1 36) k 0)) hN hx h24 hW hk (ag_tr hI (ag_tr (ag_sa (by decide)) (ag_sa (by decide))))
    refine ⟨S', a, ?_⟩
    show zf_X11_takeModel_10b N z (fun v1 S => zf_X11_takeModel_10 N z fu v1 S) (nI k) T = _
    unfold zf_X11_takeModel_10b
    rw [hI.1 24 (by decide), h24, if_neg (nI_ge hk (by omega)), mq_ck_of i1, c1, nS_e, mq_ck_of i1, nS_e, nI_e]
    exact b) N 0 S (by omega) (by omega) ag_rf
  obtain ⟨S2, c, e⟩ := l3 S1 a
  exact ⟨S2, c, b.trans e⟩
theorem tk_all (hN : 400 ≤ N) (hx : cxR S n so on tw d) (h24 : S.1 24 = nI W) (hW : W ≤ 60) : ∃ S', ag [31] [34, 35, 36] [] S S' ∧ S'.1 31 = nI W ∧ zf_X11_takeModel N z S = some ((), S') := by
  obtain ⟨S', a, b⟩ := tk_all0 (N := N) (z := z) (S := mq_si S 31 (nI W)) hN (cxR_c hx rfl rfl rfl rfl) h24 hW
  refine ⟨S', ag_tr (ag_si (by decide)) (ag_mono a (by decide) (by decide) (by decide)), (a.1 31 (by decide)).trans rfl, ?_⟩
  unfold zf_X11_takeModel
  rw [h24, nS_e, nI_e]
  exact b
end TAKE
end
/-! a6.lines -/
section
/-! prove(): the lines. -/
theorem ln_pl : ∀ r, r < 5 → ∀ f, f < 300 → mq_iushr ((nI r <<< ((16 : Int32) &&& 31)) ||| nI f) 16 &&& 255 = nI r &&& 255 ∧ mq_iushr ((nI r <<< ((16 : Int32) &&& 31)) ||| nI f) 8 &&& 255 = mq_iushr (nI f) 8 &&& 255 ∧ ((nI r <<< ((16 : Int32) &&& 31)) ||| nI f) &&& 255 = nI f &&& 255 := by decide +kernel
theorem ln_all {rows pr pn : Nat → Int32} {m : Nat} (h : ∀ i, i < m → ∃ r f, r < 5 ∧ f < 300 ∧ rows i = (nI r <<< ((16 : Int32) &&& 31)) ||| nI f ∧ pr i = nI r ∧ pn i = nI f) : ∀ i, i < 3 * m → pl_c rows i = pl_r pr pn i := fun i hi => by
  obtain ⟨r, f, hr, hf, e1, e2, e3⟩ := h (i / 3) (by omega)
  obtain ⟨a, b, c⟩ := ln_pl r hr f hf
  unfold pl_c pl_r
  rw [e1, e2, e3, a, b, c]
section LINES
variable {N : Nat} {z : Nat → Nat} {S : mq_St} {m : Nat}
theorem x3_cp (hN : 2000 ≤ N) (hm : m ≤ 1299) (h20 : S.1 20 = nI m) : ∃ a, zf_X3_copy N z (mq_pull S [25, 20] [28, 22] []) = some ((), mq_sa (mq_si (mq_pull S [25, 20] [28, 22] []) 0 (nI m)) 0 a) ∧ ∀ i, i < m → a i = S.2.1 22 i := by
  have loop : ∀ (fu k : Nat) (a : Nat → Int32), k ≤ m → m - k < fu → (∀ i, i < k → a i = S.2.1 22 i) → ∃ a', zf_X3_copy_10 N z fu (nI k) (mq_sa (mq_si (mq_pull S [25, 20] [28, 22] []) 0 (nI m)) 0 a) = some ((), mq_sa (mq_si (mq_pull S [25, 20] [28, 22] []) 0 (nI m)) 0 a') ∧ ∀ i, i < m → a' i = S.2.1 22 i := by
    intro fu
    induction fu with
    | zero => intro k a _ h; omega
    | succ fu ih =>
      intro k a hk hfu ha
      show ∃ a', zf_X3_copy_10b N z (fun v2 S => zf_X3_copy_10 N z fu v2 S) (nI k) _ = _ ∧ _
      unfold zf_X3_copy_10b
      have e0 : (mq_sa (mq_si (mq_pull S [25, 20] [28, 22] []) 0 (nI m)) 0 a).1 0 = nI m := rfl
      rw [e0]
      by_cases e : k = m
      · exact ⟨a, by rw [e, if_pos (nI_le (Nat.le_refl _) (by omega))], fun i hi => ha i (by omega)⟩
      · have hk' : k < m := by omega
        have c1 : (nI k).toNatClampNeg = k := nI_clamp (by omega)
        rw [if_neg (nI_ge hk' (by omega)), if_neg (show ¬ (1299 : Int32) ≤ nI k from nI_ge (b := 1299) (by omega) (by omega)), mq_ck_of (vp_in_nI (by omega) (by omega)), mq_ck_of (vp_in_nI (by omega) (by omega)), c1, nS_e, nI_e, nI_1, sa_sa]
        refine ih (k + 1) (upd a k (S.2.1 22 k)) (by omega) (by omega) (fun i hi => ?_)
        by_cases q : i = k
        · rw [q, up_s]
        · rw [up_o q]; exact ha i (by omega)
  obtain ⟨a, h1, h2⟩ := loop N 0 (S.2.1 28) (by omega) (by omega) (fun i hi => by omega)
  refine ⟨a, ?_, h2⟩
  unfold zf_X3_copy
  rw [show (mq_pull S [25, 20] [28, 22] []).1 1 = nI m from h20, nS_e, nI_e]
  have : mq_sa (mq_si (mq_pull S [25, 20] [28, 22] []) 0 (nI m)) 0 (S.2.1 28) = mq_si (mq_pull S [25, 20] [28, 22] []) 0 (nI m) := sa_i (mq_si (mq_pull S [25, 20] [28, 22] []) 0 (nI m)) 0
  rw [this] at h1
  exact h1
theorem x3_pu {v : Int32} {a : Nat → Int32} : mq_push S (mq_sa (mq_si (mq_pull S [25, 20] [28, 22] []) 0 v) 0 a) [25, 20] [28, 22] [] = mq_sa (mq_si S 25 v) 28 a := by
  refine Prod.ext ?_ (Prod.ext ?_ rfl)
  · funext q
    show (match [25, 20].idxOf? q with | some j => (mq_sa (mq_si (mq_pull S [25, 20] [28, 22] []) 0 v) 0 a).1 j | none => S.1 q) = if q = 25 then v else S.1 q
    by_cases ea : q = 25
    · rw [ea]; rfl
    · by_cases eb : q = 20
      · rw [eb]; rfl
      · rw [if_neg ea, List.idxOf?_eq_none_iff.mpr (by simp [ea, eb])]
  · funext q
    show (match [28, 22].idxOf? q with | some j => (mq_sa (mq_si (mq_pull S [25, 20] [28, 22] []) 0 v) 0 a).2.1 j | none => S.2.1 q) = if q = 28 then a else S.2.1 q
    by_cases ea : q = 28
    · rw [ea]; rfl
    · by_cases eb : q = 22
      · rw [eb]; rfl
      · rw [if_neg ea, List.idxOf?_eq_none_iff.mpr (by simp [ea, eb])]
theorem p80 (hm : m ≤ 1299) (h26 : S.1 26 = nI m) {v : Int32} : ∀ (fu k : Nat) (a b : Nat → Int32), k ≤ m → m - k < fu → (∀ i, i < k → a i = S.2.1 23 i ∧ b i = S.2.1 24 i) → ∃ a' b', zf_X11_prove_80 N z fu v (nI k) (mq_sa (mq_sa S 32 a) 33 b) = some (v, mq_sa (mq_sa S 32 a') 33 b') ∧ ∀ i, i < m → a' i = S.2.1 23 i ∧ b' i = S.2.1 24 i
  | 0, k, a, b, _, h, _ => by omega
  | fu + 1, k, a, b, hk, hfu, ha => by
    show ∃ a' b', zf_X11_prove_80b N z (fun v3 v4 S => zf_X11_prove_80 N z fu v3 v4 S) v (nI k) (mq_sa (mq_sa S 32 a) 33 b) = _ ∧ _
    unfold zf_X11_prove_80b
    rw [show (mq_sa (mq_sa S 32 a) 33 b).1 26 = nI m from h26]
    by_cases e : k = m
    · exact ⟨a, b, by rw [e, if_pos (nI_le (Nat.le_refl _) (by omega))], fun i hi => ha i (by omega)⟩
    · have hk' : k < m := by omega
      have c1 : (nI k).toNatClampNeg = k := nI_clamp (by omega)
      have i1 : vp_in (nI k) 1300 := vp_in_nI (by omega) (by omega)
      rw [if_neg (nI_ge hk' (by omega)), mq_ck_of i1, mq_ck_of i1, c1, nS_e, mq_ck_of i1, mq_ck_of i1, nS_e, nI_e, nI_1]
      obtain ⟨a', b', g1, g2⟩ := p80 hm h26 (v := v) fu (k + 1) (upd a k (S.2.1 23 k)) (upd b k (S.2.1 24 k)) (by omega) (by omega) (fun i hi => by
        by_cases q : i = k
        · rw [q, up_s, up_s]; exact ⟨rfl, rfl⟩
        · rw [up_o q, up_o q]; exact ha i (by omega))
      refine ⟨a', b', ?_, g2⟩
      refine Eq.trans (congrArg (zf_X11_prove_80 N z fu v (nI (k + 1))) ?_) g1
      refine Prod.ext rfl (Prod.ext ?_ rfl)
      funext q
      show (if q = 33 then _ else if q = 32 then _ else if q = 33 then _ else if q = 32 then _ else S.2.1 q) = if q = 33 then _ else if q = 32 then _ else S.2.1 q
      by_cases e1 : q = 33
      · rw [if_pos e1, if_pos e1]; rfl
      · rw [if_neg e1, if_neg e1, if_neg e1]
        by_cases e2 : q = 32
        · rw [if_pos e2, if_pos e2]; rfl
        · rw [if_neg e2, if_neg e2, if_neg e2]
end LINES
end
/-! a7.prove -/
section
/-! prove() on both sides. -/
def ivL (S : mq_St) : Prop := ∃ l, l ≤ 1299 ∧ S.1 20 = nI l
def mdC (S : mq_St) : Prop := (∃ W, W ≤ 60 ∧ S.1 23 = nI W) ∧ ∃ t, t ≤ 300 ∧ S.1 22 = nI t
def mdR (S : mq_St) : Prop := ∃ W, W ≤ 60 ∧ S.1 31 = nI W
def cn4 (SC SR : mq_St) : Prop := SC.2.1 21 0 = SR.1 19 ∧ SC.2.1 21 1 = SR.1 20 ∧ SC.2.1 21 2 = SR.1 21 ∧ SC.2.1 21 3 = SR.1 22
def fpC (S S' : mq_St) : Prop := ag [14, 15, 16, 17, 18, 19, 20, 22, 23, 24, 25] [16, 17, 18, 19, 20, 21, 22, 23, 24, 25, 26, 27, 28] [1, 2, 3, 4, 5, 7, 8, 9] S S'
def fpR (S S' : mq_St) : Prop := ag [0, 18, 19, 20, 21, 22, 23, 24, 25, 26, 27, 28, 29, 30, 31] [17, 18, 19, 20, 21, 22, 23, 24, 25, 26, 27, 28, 29, 30, 31, 32, 33, 34, 35, 36] [] S S'
def ivP (SC SR : mq_St) : Prop := iv_proof (SC.1 25) (SC.2.1 28) (SR.1 29) (SR.1 30) (SR.2.1 32) (SR.2.1 33)
section PROVE
variable {N : Nat} {z : Nat → Nat} {SC SR : mq_St}
theorem ivF_cx (h : ivF SC SR) : ∃ n so on tw d, cxC SC n so on tw d ∧ cxR SR n so on tw d ∧ ∀ s, s < 8 → SC.2.1 0 s = SR.2.1 5 s ∧ SC.2.1 1 s = SR.2.1 6 s ∧ ((SC.2.1 0 s = -1 ∧ SC.2.1 1 s = -1) ∨ ∃ f g, f < n ∧ g < n ∧ SC.2.1 0 s = nI f ∧ SC.2.1 1 s = nI g) := by
  obtain ⟨L, h1, h2, h3, f1, f2, f3, f4, f5⟩ := ivF_fs h
  have h2n := f3.1
  refine ⟨L.length, SR.2.1 2, SR.2.1 3, SR.2.1 4, dd L, ⟨f1, f4, fun s f hs hf => ?_, f3⟩, ⟨f2, fun f _ => ⟨rfl, rfl, rfl⟩, ?_, f3⟩, fun s hs => ?_⟩
  · rw [h2.2.2.2.1 s f hs hf, decide_eq_decide]
    exact ⟨fun q => ⟨q.1, (f4 f q.1).1.symm.trans q.2⟩, fun q => ⟨q.1, (f4 f q.1).1.trans q.2⟩⟩
  · have a := h3.2.2 0 (by omega)
    have b := h3.2.2 1 (by omega)
    rw [h1.1.1] at a
    rw [h1.1.2] at b
    have a' := Option.some.inj a
    have b' := Option.some.inj b
    exact ⟨(congrArg (fun q => q.1) a').symm, (congrArg (fun q => q.1) b').symm⟩
  · obtain ⟨a, b, c⟩ := f5 s hs
    refine ⟨a, b, c.imp id (fun ⟨f, c1, c2, c3⟩ => ⟨f, dd L f, c1, f3.2.2.2.1 f c1, c2, c3⟩)⟩
theorem pu_4 {S : mq_St} {m : Nat} (h : S.1 25 = nI m) (hm : m ≤ 1299) : ∃ X, zf_X3_shorten N z 0 (mq_pull S [25] [28] []) = some ((), X) ∧ mq_push S X [25] [28] [] = mq_si S 25 (nI 0) := by
  unfold zf_X3_shorten
  rw [if_neg (by decide), show (mq_pull S [25] [28] []).1 0 = nI m from h]
  by_cases e : m = 0
  · subst e
    rw [if_pos (by decide)]
    refine ⟨_, rfl, ?_⟩
    rw [pu_0, si_id h]
  · rw [if_neg (show ¬ nI m ≤ (0 : Int32) from nI_ge (show 0 < m by omega) (by omega)), nS_e]
    refine ⟨_, rfl, ?_⟩
    rw [pu_2]
    rfl
theorem st_prove (v1 v2 : Int32) (hN : 300000 ≤ N) (hF : ivF SC SR) (hp : ivP SC SR) (hl : ivL SC) (hmC : mdC SC) (hmR : mdR SR) (hcn : cn4 SC SR) :
    ∃ r SC' SR', zf_X10_prove N z v1 v2 SC = some (r, SC') ∧ zf_X11_prove N z v1 v2 SR = some (r, SR') ∧ ivP SC' SR' ∧ ivL SC' ∧ mdC SC' ∧ mdR SR' ∧ cn4 SC' SR' ∧ fpC SC SC' ∧ fpR SR SR' := by
  obtain ⟨n, so, on, tw, d, hc, hx, hs⟩ := ivF_cx hF
  have no : ∀ x, x = SC → True := fun _ _ => trivial
  have quit : zf_X10_prove N z v1 v2 SC = some (-1, SC) → zf_X11_prove N z v1 v2 SR = some (-1, mq_si SR 0 0) → ∃ r SC' SR', zf_X10_prove N z v1 v2 SC = some (r, SC') ∧ zf_X11_prove N z v1 v2 SR = some (r, SR') ∧ ivP SC' SR' ∧ ivL SC' ∧ mdC SC' ∧ mdR SR' ∧ cn4 SC' SR' ∧ fpC SC SC' ∧ fpR SR SR' := fun a b => ⟨-1, SC, mq_si SR 0 0, a, b, hp, hl, hmC, hmR, hcn, ag_rf, ag_si (by decide)⟩
  have fil : zf_X10_isFilled N z v1 SC = mq_cp (some (if v1 < 0 ∨ 8 ≤ v1 then (0 : Int32) else 1)) (fun q1 => (if q1 = (0 : Int32) then (mq_cz ((0 : Int32)) (some ((0 : Int32)))) else (mq_ck (v1) 8 (if (SC.2.1 1 (v1).toNatClampNeg) = (-1 : Int32) then (mq_cz ((0 : Int32)) (some ((0 : Int32)))) else (mq_cz ((1 : Int32)) (some ((1 : Int32)))))))) := by
    unfold zf_X10_isFilled
    rw [ck_isSlot]
  rcases mq_place v1 (t := 8) (by omega) with out | ⟨j, hj, hv, inn⟩
  · have out8 : v1 < 0 ∨ (8 : Int32) ≤ v1 := out
    have out' : v1 < 0 ∨ 7 < v1 := (mq_lst 8 (by omega) v1).mpr out
    apply quit
    · have : zf_X10_isFilled N z v1 SC = some 0 := by
        rw [fil, mq_cp_s, if_pos out8, if_pos rfl, mq_cz_0]
      unfold zf_X10_prove
      refine (cp_go this).trans ?_
      rw [if_pos rfl]
    · unfold zf_X11_prove
      rw [nS_e]
      refine (cp_go (rf_in v1 0 7)).trans ?_
      rw [if_pos out', if_pos rfl]
  · have inn8 : ¬ (v1 < 0 ∨ (8 : Int32) ≤ v1) := inn
    have inn' : ¬ (v1 < 0 ∨ 7 < v1) := fun q => inn ((mq_lst 8 (by omega) v1).mp q)
    have i1 : vp_in v1 8 := by rw [hv]; exact vp_in_nI hj (by omega)
    have c1 : v1.toNatClampNeg = j := by rw [hv]; exact nI_clamp (by omega)
    obtain ⟨s1, s2, s3⟩ := hs j hj
    have preR : zf_X11_prove N z v1 v2 SR = (if (SR.2.1 5 j) = (-1 : Int32) then (some ((-1 : Int32), mq_si SR 0 0)) else (mq_cp (zf_X11_in N z (v2) ((1 : Int32)) ((100000 : Int32)) (mq_pull (mq_si SR 0 0) [] [] [])) (fun q5 => (if q5 = (0 : Int32) then (some ((-1 : Int32), mq_si SR 0 0)) else (mq_nS (mq_si (mq_si SR 0 0) 18 (v2)) (fun S7 => (mq_ck (v1) 8 (mq_cl (zf_X11_tableau N z ((S7.2.1 6 (v1).toNatClampNeg)) S7) (fun q9v S11 => (mq_nI (q9v) (fun x12 => (if x12 = (1 : Int32) then (mq_cz ((1 : Int32)) (mq_nS (mq_si S11 29 ((1 : Int32))) (fun S19 => (mq_nS (mq_si S19 31 ((0 : Int32))) (fun S21 => (mq_nS (mq_si S21 30 ((S21.1 26))) (fun S22 => (mq_nI ((0 : Int32)) (fun x23 => (zf_X11_prove_80 N z N (x12) (x23) S22)))))))))) else (if x12 = (0 : Int32) then (mq_cz ((0 : Int32)) (mq_nS (mq_si S11 29 ((0 : Int32))) (fun S13 => (mq_cl (zf_X11_takeModel N z S13) (fun q15v S17 => (some (x12, S17))))))) else (some (x12, S11))))))))))))))) := by
      unfold zf_X11_prove
      rw [nS_e]
      refine (cp_go (rf_in v1 0 7)).trans ?_
      rw [if_neg inn', if_neg (by decide), mq_ck_of i1, c1]
      rfl
    rcases s3 with ⟨s3, s4⟩ | ⟨f, g, hf, hg, s3, s4⟩
    · apply quit
      · have : zf_X10_isFilled N z v1 SC = some 0 := by
          rw [fil, mq_cp_s, if_neg inn8, if_neg (by decide), mq_ck_of i1, c1, s4, if_pos rfl, mq_cz_0]
        unfold zf_X10_prove
        refine (cp_go this).trans ?_
        rw [if_pos rfl]
      · rw [preR, ← s1, s3, if_pos rfl]
    · have h300 := hc.2.2.2.2.1
      have filled : zf_X10_isFilled N z v1 SC = some 1 := by
        rw [fil, mq_cp_s, if_neg inn8, if_neg (by decide), mq_ck_of i1, c1, s4, if_neg (nI_nm (by omega)), mq_cz_1]
      by_cases a : v2 < 1
      · apply quit
        · unfold zf_X10_prove
          refine (cp_go filled).trans ?_
          rw [if_neg (by decide), if_pos a]
        · rw [preR, ← s1, s3, if_neg (nI_nm (by omega))]
          refine (cp_go (rf_in v2 1 100000)).trans ?_
          rw [if_pos (Or.inl a), if_pos rfl]
      · by_cases b : v2 ≤ 100000
        · have b' : ¬ (v2 < 1 ∨ 100000 < v2) := fun q => q.elim a (fun q => absurd b (Int32.not_le.mpr q))
          obtain ⟨F, hF1, hF2⟩ : ∃ F, F ≤ 100000 ∧ v2 = nI F := by
            rcases pk_ix v2 (n := 100001) (by omega) with q | q | ⟨F, q1, q2⟩
            · exact absurd (Int32.lt_trans q (by decide : (0 : Int32) < 1)) a
            · exact absurd (Int32.le_trans q b) (by decide)
            · exact ⟨F, by omega, q2⟩
          obtain ⟨l, hl1, hl2⟩ := hl
          obtain ⟨v, S1, S2, t1, t2, ⟨u1, u2, u3, u4⟩, t4, t5⟩ := st_tab (N := N) (z := z) (SC := SC) (SR := mq_si SR 0 0) (no := g) (F := F) hN hc (cxR_c hx rfl rfl rfl rfl) hl2 hl1 hg hF1
          have pC : zf_X10_prove N z v1 v2 SC = (if v = (1 : Int32) then (mq_cp (zf_X8_lines N z S1) (fun q15 => (mq_cl (zf_X3_copy N z (mq_pull S1 [25, 20] [28, 22] [])) (fun q17v q17s => mq_nS (mq_push S1 q17s [25, 20] [28, 22] []) (fun S19 => (mq_cl (zf_X4_clear N z S19) (fun q20v S22 => (some (v, S22))))))))) else (if v = (0 : Int32) then (mq_cl (zf_X3_shorten N z ((0 : Int32)) (mq_pull S1 [25] [28] [])) (fun q8v q8s => mq_nS (mq_push S1 q8s [25] [28] []) (fun S10 => (mq_cl (zf_X8_fillModel N z S10) (fun q11v S13 => (some (v, S13))))))) else (some (v, S1)))) := by
            unfold zf_X10_prove
            refine (cp_go filled).trans ?_
            rw [if_neg (by decide), if_neg a, if_pos b, mq_ck_of i1, c1, s4, hF2]
            refine (cl_go t1).trans ?_
            rw [nI_e]
          have pR : zf_X11_prove N z v1 v2 SR = (if v = (1 : Int32) then (mq_cz ((1 : Int32)) (mq_nS (mq_si S2 29 ((1 : Int32))) (fun S19 => (mq_nS (mq_si S19 31 ((0 : Int32))) (fun S21 => (mq_nS (mq_si S21 30 ((S21.1 26))) (fun S22 => (mq_nI ((0 : Int32)) (fun x23 => (zf_X11_prove_80 N z N (v) (x23) S22)))))))))) else (if v = (0 : Int32) then (mq_cz ((0 : Int32)) (mq_nS (mq_si S2 29 ((0 : Int32))) (fun S13 => (mq_cl (zf_X11_takeModel N z S13) (fun q15v S17 => (some (v, S17))))))) else (some (v, S2)))) := by
            rw [preR, ← s1, s3, if_neg (nI_nm (by omega))]
            refine (cp_go (rf_in v2 1 100000)).trans ?_
            rw [if_neg b', if_neg (by decide), nS_e, mq_ck_of i1, c1, show (mq_si (mq_si SR 0 0) 18 v2).2.1 6 j = nI g from s2.symm.trans s4, hF2]
            refine (cl_go t2).trans ?_
            rw [nI_e]
          have fC : fpC SC S1 := ag_mono t4 (by decide) (by decide) (by decide)
          have fR : fpR SR S2 := ag_tr (ag_si (by decide)) (ag_mono t5 (by decide) (by decide) (by decide))
          have cn : cn4 S1 S2 := ⟨u1, u2⟩
          obtain ⟨⟨Wm, hW1, hW2⟩, tm, ht1, ht2⟩ := hmC
          obtain ⟨Wr, hr1, hr2⟩ := hmR
          have mC : mdC S1 := ⟨⟨Wm, hW1, (t4.1 23 (by decide)).trans hW2⟩, tm, ht1, (t4.1 22 (by decide)).trans ht2⟩
          have mR : mdR S2 := ⟨Wr, hr1, (t5.1 31 (by decide)).trans hr2⟩
          have ivp : ivP S1 S2 := by
            unfold ivP
            rw [t4.1 25 (by decide), t4.2.1 28 (by decide), t5.1 29 (by decide), t5.1 30 (by decide), t5.2.1 32 (by decide), t5.2.1 33 (by decide)]
            exact hp
          have other : ¬ v = 1 → ¬ v = 0 → ∃ r SC' SR', zf_X10_prove N z v1 v2 SC = some (r, SC') ∧ zf_X11_prove N z v1 v2 SR = some (r, SR') ∧ ivP SC' SR' ∧ ivL SC' ∧ mdC SC' ∧ mdR SR' ∧ cn4 SC' SR' ∧ fpC SC SC' ∧ fpR SR SR' := fun h1 h0 => ⟨v, S1, S2, by rw [pC, if_neg h1, if_neg h0], by rw [pR, if_neg h1, if_neg h0], ivp, u3, mC, mR, cn, fC, fR⟩
          rcases u4 with e | e | ⟨e, ln, w1, w2, w3, w4, w5⟩ | ⟨e, W, w1, w2, w3, w4, w5, w6⟩
          · exact other (by rw [e]; decide) (by rw [e]; decide)
          · exact other (by rw [e]; decide) (by rw [e]; decide)
          · subst e
            obtain ⟨aa, x1, x2⟩ := x3_cp (N := N) (z := z) (S := S1) (by omega) w2 w3
            obtain ⟨pa, pb, y1, y2⟩ := p80 (N := N) (z := z) (S := mq_si (mq_si (mq_si S2 29 1) 31 0) 30 (nI ln)) (v := 1) w2 w4 N 0 (S2.2.1 32) (S2.2.1 33) (by omega) (by omega) (fun i hi => by omega)
            refine ⟨1, mq_si (mq_si (mq_si (mq_sa (mq_si S1 25 (nI ln)) 28 aa) 23 0) 22 0) 24 0, mq_sa (mq_sa (mq_si (mq_si (mq_si S2 29 1) 31 0) 30 (nI ln)) 32 pa) 33 pb, ?_, ?_, ⟨ln, w2, rfl, Or.inr ⟨w1, rfl, rfl⟩, ln_all (fun i hi => ?_)⟩, u3, ⟨⟨0, by omega, rfl⟩, 0, by omega, rfl⟩, ⟨0, by omega, rfl⟩, cn, ag_tr fC (ag_tr (ag_tr (ag_tr (ag_tr (ag_si (by decide)) (ag_sa (by decide))) (ag_si (by decide))) (ag_si (by decide))) (ag_si (by decide))), ag_tr fR (ag_tr (ag_tr (ag_tr (ag_tr (ag_si (by decide)) (ag_si (by decide))) (ag_si (by decide))) (ag_sa (by decide))) (ag_sa (by decide)))⟩
            · rw [pC, if_pos rfl]
              refine (cp_go (v := ()) rfl).trans ?_
              refine (cl_go x1).trans ?_
              rw [x3_pu, nS_e]
              have : zf_X4_clear N z (mq_sa (mq_si S1 25 (nI ln)) 28 aa) = some ((), mq_si (mq_si (mq_si (mq_sa (mq_si S1 25 (nI ln)) 28 aa) 23 0) 22 0) 24 0) := by
                unfold zf_X4_clear
                rw [nS_e, nS_e, mq_cz_0, nS_e]
              exact cl_go this
            · rw [pR, if_pos rfl, mq_cz_1, nS_e, nS_e, show (mq_si (mq_si S2 29 1) 31 0).1 26 = nI ln from w4, nS_e, nI_e]
              have i1' : mq_sa (mq_sa (mq_si (mq_si (mq_si S2 29 1) 31 0) 30 (nI ln)) 32 (S2.2.1 32)) 33 (S2.2.1 33) = mq_si (mq_si (mq_si S2 29 1) 31 0) 30 (nI ln) := by
                rw [show mq_sa (mq_si (mq_si (mq_si S2 29 1) 31 0) 30 (nI ln)) 32 (S2.2.1 32) = mq_si (mq_si (mq_si S2 29 1) 31 0) 30 (nI ln) from sa_i (mq_si (mq_si (mq_si S2 29 1) 31 0) 30 (nI ln)) 32]
                exact sa_i (mq_si (mq_si (mq_si S2 29 1) 31 0) 30 (nI ln)) 33
              rw [i1'] at y1
              exact y1
            · obtain ⟨r, f, q1, q2, q3, q4, q5⟩ := w5 i hi
              obtain ⟨q6, q7⟩ := y2 i hi
              exact ⟨r, f, q1, q2, (x2 i hi).trans q3, q6.trans q4, q7.trans q5⟩
          · subst e
            obtain ⟨mm, hm1, hm2, -, -⟩ := ivp
            obtain ⟨X, x1, x2⟩ := pu_4 (N := N) (z := z) (S := S1) hm2 hm1
            have hc1 : cxC S1 n so on tw d := cxC_f hc t4
            have hx1 : cxR S2 n so on tw d := cxR_f (S0 := mq_si SR 0 0) (cxR_c hx rfl rfl rfl rfl) t5
            obtain ⟨S3, W', y1, y2, y3, y4, y5⟩ := ck_fillm (N := N) (z := z) (S := mq_si S1 25 (nI 0)) (l := fun _ => 0) (by omega) (cxC_c hc1 rfl rfl rfl rfl rfl rfl) w3 w2
            obtain ⟨S4, r1, r2, r3⟩ := tk_all (N := N) (z := z) (S := mq_si S2 29 0) (by omega) (cxR_c hx1 rfl rfl rfl rfl) w4 w2
            obtain ⟨lx, lx1, lx2⟩ := u3
            refine ⟨0, S3, S4, ?_, ?_, ⟨0, by omega, (y4.1 25 (by decide)).trans rfl, Or.inl ⟨rfl, (r1.1 29 (by decide)).trans rfl⟩, fun i hi => by omega⟩, ⟨lx, lx1, (y4.1 20 (by decide)).trans lx2⟩, ⟨⟨W', y1, y2⟩, 0, by omega, y3⟩, ⟨W, w2, r2⟩, ⟨?_, ?_, ?_, ?_⟩, ag_tr fC (ag_tr (ag_si (by decide)) (ag_mono y4 (by decide) (by decide) (by decide))), ag_tr fR (ag_tr (ag_si (by decide)) (ag_mono r1 (by decide) (by decide) (by decide)))⟩
            · rw [pC, if_neg (by decide), if_pos rfl]
              refine (cl_go x1).trans ?_
              rw [x2, nS_e]
              exact cl_go y5
            · rw [pR, if_neg (by decide), if_pos rfl, mq_cz_0, nS_e]
              exact cl_go r3
            · rw [y4.2.1 21 (by decide), r1.1 19 (by decide)]; exact cn.1
            · rw [y4.2.1 21 (by decide), r1.1 20 (by decide)]; exact cn.2.1
            · rw [y4.2.1 21 (by decide), r1.1 21 (by decide)]; exact cn.2.2.1
            · rw [y4.2.1 21 (by decide), r1.1 22 (by decide)]; exact cn.2.2.2
        · have b' : 100000 < v2 := Int32.not_le.mp b
          apply quit
          · unfold zf_X10_prove
            refine (cp_go filled).trans ?_
            rw [if_neg (by decide), if_neg a, if_neg b]
          · rw [preR, ← s1, s3, if_neg (nI_nm (by omega))]
            refine (cp_go (rf_in v2 1 100000)).trans ?_
            rw [if_pos (Or.inr b'), if_pos rfl]
end PROVE
end
/-! a8.model -/
section
/-! The class's model: sees() and world() end. -/
section MODEL
variable {N n : Nat} {z : Nat → Nat} {so on tw : Nat → Int32} {d : Nat → Nat} {S : mq_St} {W w : Nat}
theorem ck_sees (v u : Int32) (h : S.1 23 = nI W) (hW : W ≤ 60) : ∃ r, zf_X10_sees N z v u S = some (r, S) := by
  unfold zf_X10_sees zf_X10_sees_22
  rcases ck_hasw (N := N) (z := z) v h hW with a | ⟨k, hk, e, a⟩
  · rw [a, mq_cp_s, if_pos rfl]; exact ⟨_, rfl⟩
  · rw [a, mq_cp_s, if_neg (by decide)]
    rcases ck_hasw (N := N) (z := z) u h hW with b | ⟨k', hk', e', b⟩
    · rw [b, mq_cp_s, if_pos rfl]; exact ⟨_, rfl⟩
    · obtain ⟨r, c1, c2⟩ := ck_seen (N := N) (z := z) v u h hW
      rw [b, mq_cp_s, if_neg (by decide), c1, mq_cp_s]
      rcases c2 with rfl | rfl
      · rw [mq_cz_0]; exact ⟨_, rfl⟩
      · rw [mq_cz_1]; exact ⟨_, rfl⟩
theorem ck_mut (v u : Int32) (h : S.1 23 = nI W) (hW : W ≤ 60) : ∃ r : Int32, zf_X4_isMutual N z v u S = some r := by
  obtain ⟨r, c1, c2⟩ := ck_seen (N := N) (z := z) v u h hW
  obtain ⟨q, d1, d2⟩ := ck_seen (N := N) (z := z) u v h hW
  unfold zf_X4_isMutual
  rw [c1, mq_cp_s, d1, mq_cp_s, mq_cz_0, mq_cz_1]
  by_cases e : r = 0
  · rw [if_pos e]; exact ⟨_, rfl⟩
  · rw [if_neg e]
    by_cases e' : q = 0
    · rw [if_pos e']; exact ⟨_, rfl⟩
    · rw [if_neg e']; exact ⟨_, rfl⟩
theorem ck_lcl (hN : 100 ≤ N) (h : S.1 23 = nI W) (hW : W ≤ 60) (hw : w < W) : ∃ r : Int32, zf_X4_isLeastOfCluster N z (nI w) S = some r := by
  unfold zf_X4_isLeastOfCluster
  rw [nI_e]
  refine lp_v (F := fun fu (_ : Unit) k => zf_X4_isLeastOfCluster_2 N z S fu (nI w) k) (n := w) (fun fu a => ?_) (fun fu k a hk => ?_) N 0 () (by omega) (by omega)
  · show ∃ r, zf_X4_isLeastOfCluster_2b N z S _ (nI w) (nI w) = some r
    unfold zf_X4_isLeastOfCluster_2b
    rw [if_pos (nI_le (Nat.le_refl _) (by omega)), mq_cz_1]
    exact ⟨_, rfl⟩
  · show (∃ r, zf_X4_isLeastOfCluster_2b N z S (fun v1 v2 => zf_X4_isLeastOfCluster_2 N z S fu v1 v2) (nI w) (nI k) = some r) ∨ ∃ a' : Unit, zf_X4_isLeastOfCluster_2b N z S (fun v1 v2 => zf_X4_isLeastOfCluster_2 N z S fu v1 v2) (nI w) (nI k) = _
    obtain ⟨r, c⟩ := ck_mut (N := N) (z := z) (nI k) (nI w) h hW
    unfold zf_X4_isLeastOfCluster_2b
    rw [if_neg (nI_ge hk (by omega)), c, mq_cp_s, mq_cz_0, nI_e, nI_1]
    by_cases e : r = 0
    · right; rw [if_pos e]; exact ⟨(), rfl⟩
    · left; rw [if_neg e]; exact ⟨_, rfl⟩
theorem ck_clu (hN : 100 ≤ N) (h : S.1 23 = nI W) (hW : W ≤ 60) (hw : w < W) : ∃ r : Int32, zf_X4_clusterOf N z (nI w) S = some r := by
  unfold zf_X4_clusterOf
  rw [nI_e, nI_e]
  refine lp_v (F := fun fu a k => zf_X4_clusterOf_4 N z S fu (nI w) a k) (n := w) (fun fu a => ?_) (fun fu k a hk => ?_) N 0 0 (by omega) (by omega)
  · show ∃ r, zf_X4_clusterOf_4b N z S _ (nI w) a (nI w) = some r
    unfold zf_X4_clusterOf_4b
    rw [if_pos (nI_le (Nat.le_refl _) (by omega))]
    exact ⟨_, rfl⟩
  · show (∃ r, zf_X4_clusterOf_4b N z S (fun v1 v2 v3 => zf_X4_clusterOf_4 N z S fu v1 v2 v3) (nI w) a (nI k) = some r) ∨ ∃ a', zf_X4_clusterOf_4b N z S (fun v1 v2 v3 => zf_X4_clusterOf_4 N z S fu v1 v2 v3) (nI w) a (nI k) = _
    obtain ⟨r, c⟩ := ck_mut (N := N) (z := z) (nI k) (nI w) h hW
    obtain ⟨q, e⟩ := ck_lcl (N := N) (z := z) hN h hW (show k < W by omega)
    unfold zf_X4_clusterOf_4b zf_X4_clusterOf_32
    rw [if_neg (nI_ge hk (by omega)), c, mq_cp_s, e, mq_cp_s, nI_e, nI_e, nI_e, nI_e, nI_1]
    by_cases e1 : r = 0
    · right
      rw [if_pos e1]
      by_cases e2 : q = 0
      · rw [if_pos e2]; exact ⟨_, rfl⟩
      · rw [if_neg e2]; exact ⟨_, rfl⟩
    · left; rw [if_neg e1]; exact ⟨_, rfl⟩
theorem ck_cls (hN : 100 ≤ N) (h : S.1 23 = nI W) (hW : W ≤ 60) (hw : w < W) : ∃ r : Int32, zf_X4_clusterSizeOf N z (nI w) S = some r := by
  unfold zf_X4_clusterSizeOf
  rw [nI_e, nI_e]
  refine lp_v (F := fun fu a k => zf_X4_clusterSizeOf_4 N z S fu (nI w) a k) (n := W) (fun fu a => ?_) (fun fu k a hk => ?_) N 0 0 (by omega) (by omega)
  · show ∃ r, zf_X4_clusterSizeOf_4b N z S _ (nI w) a (nI W) = some r
    unfold zf_X4_clusterSizeOf_4b
    rw [h, if_pos (nI_le (Nat.le_refl _) (by omega))]
    exact ⟨_, rfl⟩
  · right
    show ∃ a', zf_X4_clusterSizeOf_4b N z S (fun v1 v2 v3 => zf_X4_clusterSizeOf_4 N z S fu v1 v2 v3) (nI w) a (nI k) = _
    obtain ⟨r, c⟩ := ck_mut (N := N) (z := z) (nI k) (nI w) h hW
    unfold zf_X4_clusterSizeOf_4b zf_X4_clusterSizeOf_27
    rw [h, if_neg (nI_ge hk (by omega)), c, mq_cp_s, nI_e, nI_e, nI_e, nI_e, nI_1]
    by_cases e1 : r = 0
    · rw [if_pos e1]; exact ⟨_, rfl⟩
    · rw [if_neg e1]; exact ⟨_, rfl⟩
theorem ck_world (v u : Int32) (hN : 100 ≤ N) (h : S.1 23 = nI W) (hW : W ≤ 60) : ∃ r, zf_X10_world N z v u S = some (r, S) := by
  unfold zf_X10_world
  by_cases a : u < 0
  · rw [if_pos a]; exact ⟨_, rfl⟩
  · rw [if_neg a]
    by_cases b : u ≤ 3
    · rw [if_pos b]
      rcases ck_hasw (N := N) (z := z) v h hW with c | ⟨k, hk, e, c⟩
      · rw [c, mq_cp_s, if_pos rfl]; exact ⟨_, rfl⟩
      · obtain ⟨r0, t0⟩ := ck_clu (N := N) (z := z) hN h hW hk
        obtain ⟨r1, t1⟩ := ck_cls (N := N) (z := z) hN h hW hk
        have t2 : ∃ r, zf_X4_seenFrom N z (nI k) S = some r := by
          unfold zf_X4_seenFrom
          rw [← e, c, mq_cp_s, if_neg (by decide), e, mq_ck_of (vp_in_nI (by omega) (by omega)), bc_is, mq_cp_s]
          exact ⟨_, rfl⟩
        have t3 : ∃ r, zf_X4_setSizeOf N z (nI k) S = some r := by
          unfold zf_X4_setSizeOf
          rw [← e, c, mq_cp_s, if_neg (by decide), e, mq_ck_of (vp_in_nI (by omega) (by omega))]
          by_cases q : S.1 24 = 0
          · rw [if_pos q]; exact ⟨_, rfl⟩
          · rw [if_neg q]; exact ⟨_, rfl⟩
        obtain ⟨r2, t2⟩ := t2
        obtain ⟨r3, t3⟩ := t3
        rw [c, mq_cp_s, if_neg (by decide), e, t0, t1, t2, t3, mq_cp_s, mq_cp_s, mq_cp_s, mq_cp_s]
        by_cases u0 : u = 0
        · rw [if_pos u0]; exact ⟨_, rfl⟩
        · rw [if_neg u0]
          by_cases u1 : u = 1
          · rw [if_pos u1]; exact ⟨_, rfl⟩
          · rw [if_neg u1]
            by_cases u2 : u = 2
            · rw [if_pos u2]; exact ⟨_, rfl⟩
            · rw [if_neg u2]; exact ⟨_, rfl⟩
    · rw [if_neg b]; exact ⟨_, rfl⟩
end MODEL
end
/-! a9.holds -/
section
/-! The class's model: holds() ends. -/
section HOLDS
variable {N n : Nat} {z : Nat → Nat} {so on tw : Nat → Int32} {d : Nat → Nat} {S S0 : mq_St} {W w t f : Nat}
theorem ck_truth (v : Int32) (h : S.1 22 = nI t) (ht : t ≤ 300) : ∃ r, zf_X4_truthOf N z v S = some r := by
  unfold zf_X4_truthOf
  rw [h]
  rcases mq_place v (t := t) (by omega) with q | ⟨k, hk, hv, q⟩
  · by_cases e : v < 0
    · rw [if_pos e]; exact ⟨_, rfl⟩
    · rw [if_neg e, if_pos (q.resolve_left e)]; exact ⟨_, rfl⟩
  · rw [if_neg (fun a => q (Or.inl a)), if_neg (fun a => q (Or.inr a)), hv, mq_ck_of (vp_in_nI (by omega) (by omega))]
    exact ⟨_, rfl⟩
theorem ck_wol (v : Int32) (hN : 100 ≤ N) (h : S.1 23 = nI W) (hW : W ≤ 60) : ∃ r, zf_X4_worldsOfLetter N z v S = some r := by
  unfold zf_X4_worldsOfLetter
  rw [nL_e, nI_e]
  refine lp_v (F := fun fu a k => zf_X4_worldsOfLetter_5 N z S fu v a k) (n := W) (fun fu a => ?_) (fun fu k a hk => ?_) N 0 0 (by omega) (by omega)
  · show ∃ r, zf_X4_worldsOfLetter_5b N z S _ v a (nI W) = some r
    unfold zf_X4_worldsOfLetter_5b
    rw [h, if_pos (nI_le (Nat.le_refl _) (by omega))]
    exact ⟨_, rfl⟩
  · right
    show ∃ a', zf_X4_worldsOfLetter_5b N z S (fun v1 v2 v4 => zf_X4_worldsOfLetter_5 N z S fu v1 v2 v4) v a (nI k) = _
    unfold zf_X4_worldsOfLetter_5b
    rw [h, if_neg (nI_ge hk (by omega)), mq_ck_of (vp_in_nI (by omega) (by omega)), nL_e, nI_e, nI_1]
    exact ⟨_, rfl⟩
theorem ck_wos (v : Int64) (hN : 100 ≤ N) (h : S.1 23 = nI W) (hW : W ≤ 60) : ∃ r, zf_X4_worldsSeeing N z v S = some r := by
  unfold zf_X4_worldsSeeing
  rw [nL_e, nI_e]
  refine lp_v (F := fun fu a k => zf_X4_worldsSeeing_5 N z S fu v a k) (n := W) (fun fu a => ?_) (fun fu k a hk => ?_) N 0 0 (by omega) (by omega)
  · show ∃ r, zf_X4_worldsSeeing_5b N z S _ v a (nI W) = some r
    unfold zf_X4_worldsSeeing_5b
    rw [h, if_pos (nI_le (Nat.le_refl _) (by omega))]
    exact ⟨_, rfl⟩
  · right
    show ∃ a', zf_X4_worldsSeeing_5b N z S (fun v1 v3 v5 => zf_X4_worldsSeeing_5 N z S fu v1 v3 v5) v a (nI k) = _
    unfold zf_X4_worldsSeeing_5b zf_X4_worldsSeeing_35
    rw [h, if_neg (nI_ge hk (by omega)), mq_ck_of (vp_in_nI (by omega) (by omega)), nL_e, nI_e, nI_e, nI_1]
    by_cases e : lg_cmp ((S.2.2 7 (nI k).toNatClampNeg) &&& v) (0 : Int64) = 0
    · rw [if_pos e]; exact ⟨_, rfl⟩
    · rw [if_neg e]; exact ⟨_, rfl⟩
theorem ck_wof (hN : 100 ≤ N) (hc : cxC S n so on tw d) (h : S.1 23 = nI W) (hW : W ≤ 60) (h22 : S.1 22 = nI t) (ht : t ≤ 300) (hf : f < n) : ∃ r, zf_X4_worldsOf N z (nI f) S = some r := by
  have h300 := hc.2.2.2.2.1
  have i := ck_in (N := N) (z := z) hc.1 h300 hf
  obtain ⟨r1, t1⟩ := ck_truth (N := N) (z := z) (S.2.1 5 f) h22 ht
  obtain ⟨r2, t2⟩ := ck_truth (N := N) (z := z) (S.2.1 6 f) h22 ht
  obtain ⟨r3, t3⟩ := ck_wol (N := N) (z := z) (S.2.1 5 f) hN h hW
  obtain ⟨r4, t4⟩ := ck_wos (N := N) (z := z) r1 hN h hW
  obtain ⟨r5, t5⟩ := ck_wos (N := N) (z := z) ((mq_lshl (1 : Int64) (S.1 23) - 1) &&& (r1 ^^^ (-1 : Int64))) hN h hW
  unfold zf_X4_worldsOf
  rw [i.2.1, mq_cp_s, t1, mq_cp_s, nL_e, nL_e, i.1, mq_cp_s, mq_cp_s, mq_cp_s, i.2.2.1, mq_cp_s, mq_cp_s, t2, t3, t4, t5]
  simp only [mq_cp_s]
  repeat' split
  all_goals exact ⟨_, rfl⟩
theorem ck_41 (v : Int32) (u : Int32) (h : S.1 23 = nI W) (hW : W ≤ 60) (h22 : S.1 22 = nI t) (ht : t ≤ 300) : ∃ r : Int32, (r = 0 ∨ r = 1) ∧ zf_X4_isTrueAt_41 N z v u S = some (r, S) := by
  obtain ⟨r, e⟩ := ck_truth (N := N) (z := z) u h22 ht
  unfold zf_X4_isTrueAt_41
  rw [e, mq_cp_s, mq_cz_0, mq_cz_1]
  rcases ck_hasw (N := N) (z := z) v h hW with a | ⟨k, hk, e, a⟩
  · rw [a, mq_cp_s, if_pos rfl]; exact ⟨0, Or.inl rfl, rfl⟩
  · rw [a, mq_cp_s, if_neg (by decide)]
    by_cases q : (lg_cmp ((mq_lushr r v) &&& (1 : Int64)) (0 : Int64)) = (0 : Int32)
    · rw [if_pos q]; exact ⟨0, Or.inl rfl, rfl⟩
    · rw [if_neg q]; exact ⟨1, Or.inr rfl, rfl⟩
theorem ck_true (v : Int32) (hN : 400 ≤ N) (hc : cxC S n so on tw d) (hm : mdC S) (hf : f < n) : ∃ r S', (r = 0 ∨ r = 1) ∧ zf_X4_isTrueAt N z v (nI f) S = some (r, S') ∧ mdC S' ∧ frM S S' := by
  have h300 := hc.2.2.2.2.1
  obtain ⟨⟨W, hW, h23⟩, t, ht, h22⟩ := id hm
  unfold zf_X4_isTrueAt
  rw [h22, nI_e]
  by_cases e : t ≤ f + 1
  · obtain ⟨S', ⟨a1, a2, t', a3, a4⟩, b⟩ := lp_to (F := fun fu k T => zf_X4_isTrueAt_5 N z fu v (nI f) k T) (n := f + 1) (I := fun T => frM S T ∧ T.1 23 = nI W ∧ ∃ t, t ≤ 300 ∧ T.1 22 = nI t) (G := fun T => zf_X4_isTrueAt_41 N z v (nI f) T) (fun fu T hI => by
      show zf_X4_isTrueAt_5b N z _ v (nI f) (nI (f + 1)) T = _
      unfold zf_X4_isTrueAt_5b
      rw [if_pos (nI_lt (by omega) (by omega))]) (fun fu k T hk hI => by
      obtain ⟨i1, i2, t', i3, i4⟩ := hI
      have hcT : cxC T n so on tw d := cxC_c hc (i1.1 2 (by decide)) (i1.2.1 4 (by decide)) (i1.2.1 5 (by decide)) (i1.2.1 6 (by decide)) (i1.2.1 7 (by decide)) (i1.2.2 0 (by decide))
      obtain ⟨r, hr⟩ := ck_wof (N := N) (z := z) (f := k) (by omega) hcT i2 hW i4 i3 (by omega)
      refine ⟨mq_si (mq_sl T 9 (vp_updL (T.2.2 9) k r)) 22 (nI (k + 1)), ⟨ag_tr i1 (ag_tr (ag_sl (by decide)) (ag_si (by decide))), i2, k + 1, by omega, rfl⟩, ?_⟩
      show zf_X4_isTrueAt_5b N z (fun v1 v2 v3 S => zf_X4_isTrueAt_5 N z fu v1 v2 v3 S) v (nI f) (nI k) T = _
      unfold zf_X4_isTrueAt_5b
      rw [if_neg (nI_nlt (by omega) (by omega)), if_neg (show ¬ (300 : Int32) ≤ nI k from nI_ge (b := 300) (by omega) (by omega))]
      refine (cp_go hr).trans ?_
      rw [mq_ck_of (vp_in_nI (by omega) (by omega)), nI_clamp (by omega), nS_e, nS_e, nI_e, nI_1]) N t S e (by omega) ⟨ag_rf, h23, t, ht, h22⟩
    obtain ⟨r, c1, c2⟩ := ck_41 (N := N) (z := z) v (nI f) a2 hW a4 a3
    exact ⟨r, S', c1, b.trans c2, ⟨⟨W, hW, a2⟩, t', a3, a4⟩, a1⟩
  · obtain ⟨r, c1, c2⟩ := ck_41 (N := N) (z := z) v (nI f) h23 hW h22 ht
    refine ⟨r, S, c1, ?_, hm, ag_rf⟩
    obtain ⟨N', rfl⟩ : ∃ q, N = q + 1 := ⟨N - 1, by omega⟩
    show zf_X4_isTrueAt_5b (N' + 1) z _ v (nI f) (nI t) S = _
    unfold zf_X4_isTrueAt_5b
    rw [if_pos (nI_lt (by omega) (by omega))]
    exact c2
theorem ck_holds (v u : Int32) (hN : 400 ≤ N) (hc : cxC S n so on tw d) (hm : mdC S) : ∃ r S', zf_X10_holds N z v u S = some (r, S') ∧ mdC S' ∧ frM S S' := by
  have h300 := hc.2.2.2.2.1
  obtain ⟨⟨W, hW, h23⟩, t, ht, h22⟩ := id hm
  unfold zf_X10_holds zf_X10_holds_22
  rcases ck_hasw (N := N) (z := z) v h23 hW with a | ⟨k, hk, e, a⟩
  · rw [a, mq_cp_s, if_pos rfl]; exact ⟨_, _, rfl, hm, ag_rf⟩
  · rw [a, mq_cp_s, if_neg (by decide), ck_has, mq_cp_s, hc.1]
    rcases mq_place u (t := n) (by omega) with q | ⟨f, hf, hv, q⟩
    · rw [if_pos q, if_pos rfl]; exact ⟨_, _, rfl, hm, ag_rf⟩
    · rw [if_neg q, if_neg (by decide), hv]
      obtain ⟨r, S', c1, c2, c3, c4⟩ := ck_true (N := N) (z := z) v hN hc hm hf
      rw [c2, mq_cl_s]
      rcases c1 with rfl | rfl
      · rw [mq_cz_0]; exact ⟨_, _, rfl, c3, c4⟩
      · rw [mq_cz_1]; exact ⟨_, _, rfl, c3, c4⟩
end HOLDS
end
/-! aa.cut -/
section
/-! The class's model: cut() ends. -/
section CUT
variable {N n : Nat} {z : Nat → Nat} {S S0 : mq_St} {W w t : Nat}
theorem ck_moved (v : Int64) (hN : 100 ≤ N) (h : S.1 23 = nI W) (hW : W ≤ 60) : ∃ r, zf_X4_moved N z v S = some r := by
  unfold zf_X4_moved
  rw [nL_e, nI_e]
  refine lp_v (F := fun fu a k => zf_X4_moved_5 N z S fu v a k) (n := W) (fun fu a => ?_) (fun fu k a hk => ?_) N 0 0 (by omega) (by omega)
  · show ∃ r, zf_X4_moved_5b N z S _ v a (nI W) = some r
    unfold zf_X4_moved_5b
    rw [h, if_pos (nI_le (Nat.le_refl _) (by omega))]
    exact ⟨_, rfl⟩
  · right
    show ∃ a', zf_X4_moved_5b N z S (fun v1 v3 v5 => zf_X4_moved_5 N z S fu v1 v3 v5) v a (nI k) = _
    have i1 : vp_in (nI k) 60 := vp_in_nI (by omega) (by omega)
    unfold zf_X4_moved_5b zf_X4_moved_48
    rw [h, if_neg (nI_ge hk (by omega)), mq_ck_of i1, mq_ck_of i1, nL_e, nI_e, nI_e, nI_1]
    by_cases e : lg_cmp ((mq_lushr v (nI k)) &&& 1) (0 : Int64) = 0
    · rw [if_pos e]; exact ⟨_, rfl⟩
    · rw [if_neg e]
      by_cases e' : S.2.1 26 (nI k).toNatClampNeg = -1
      · rw [if_pos e']; exact ⟨_, rfl⟩
      · rw [if_neg e']; exact ⟨_, rfl⟩
/-- a number in 0 .. 59, or one of the guards holds -/
theorem ix60 (v : Int32) : v < 0 ∨ (60 : Int32) ≤ v ∨ ∃ k, k < 60 ∧ v = nI k := by
  rcases pk_ix v (n := 60) (by omega) with q | q | ⟨k, h1, h2⟩
  · exact Or.inl q
  · exact Or.inr (Or.inl q)
  · exact Or.inr (Or.inr ⟨k, h1, h2⟩)
theorem rb_141 {c : Nat} (hS : frM S0 S) (h : S.1 23 = nI W) (hW : W ≤ 60) (hc : c ≤ 60) : ∃ S', frM S0 S' ∧ mdC S' ∧ zf_X4_rebuild_141 N z (nI c) S = some ((), S') := by
  refine ⟨mq_si (mq_si (mq_si S 23 (mq_min (nI c) (nI W))) 22 0) 24 1, ag_tr hS (ag_tr (ag_tr (ag_si (by decide)) (ag_si (by decide))) (ag_si (by decide))), ⟨?_, 0, by omega, rfl⟩, ?_⟩
  · by_cases e : W < c
    · exact ⟨W, hW, if_pos (nI_lt e (by omega))⟩
    · exact ⟨c, hc, if_neg (nI_nlt (by omega) (by omega))⟩
  · unfold zf_X4_rebuild_141
    rw [h, nS_e, nS_e, mq_cz_1, nS_e]
theorem rb_79 {c : Nat} (hN : 100 ≤ N) (hS : frM S0 S) (h : S.1 23 = nI W) (hW : W ≤ 60) (hc : c ≤ 60) : ∃ S', frM S0 S' ∧ mdC S' ∧ zf_X4_rebuild_79 N z N (nI c) (nI 0) S = some ((), S') := by
  have key := lp_x (F := fun fu k T => zf_X4_rebuild_79 N z fu (nI c) k T) (n := c) (I := fun T => frM S0 T ∧ T.1 23 = nI W) (G := fun T => zf_X4_rebuild_141 N z (nI c) T) (fun fu T hI => by
    show zf_X4_rebuild_79b N z _ (nI c) (nI c) T = _
    unfold zf_X4_rebuild_79b
    rw [if_pos (nI_le (Nat.le_refl _) (by omega))]) (fun fu k T hk hI => by
    show ∃ S', (frM S0 S' ∧ S'.1 23 = nI W) ∧ (zf_X4_rebuild_79b N z (fun v1 v2 S => zf_X4_rebuild_79 N z fu v1 v2 S) (nI c) (nI k) T = _ ∨ zf_X4_rebuild_79b N z (fun v1 v2 S => zf_X4_rebuild_79 N z fu v1 v2 S) (nI c) (nI k) T = _)
    have i1 : vp_in (nI k) 60 := vp_in_nI (by omega) (by omega)
    unfold zf_X4_rebuild_79b zf_X4_rebuild_135
    rw [if_neg (nI_ge hk (by omega)), hI.2, mq_ck_of i1, nI_e, nI_1]
    by_cases e : nI W ≤ nI k
    · exact ⟨T, hI, Or.inr (by rw [if_pos e])⟩
    · rw [if_neg e]
      rcases mq_place (T.2.1 27 (nI k).toNatClampNeg) (t := W) (by omega) with q | ⟨j, hj, hv, q⟩
      · refine ⟨T, hI, Or.inl ?_⟩
        by_cases e' : T.2.1 27 (nI k).toNatClampNeg < 0
        · rw [if_pos e', nI_e]
        · rw [if_neg e', if_pos (q.resolve_left e'), nI_e]
      · have i2 : vp_in (nI j) 60 := vp_in_nI (by omega) (by omega)
        rw [if_neg (fun a => q (Or.inl a)), if_neg (fun a => q (Or.inr a)), hv, mq_ck_of i2, mq_ck_of i1, nS_e, mq_ck_of i2, mq_ck_of i1, nS_e, nI_e]
        exact ⟨_, ⟨ag_tr hI.1 (ag_tr (ag_sa (k := 23) (by decide)) (ag_sl (k := 7) (by decide))), hI.2⟩, Or.inl rfl⟩) N 0 S (by omega) (by omega) ⟨hS, h⟩
  obtain ⟨T, ⟨k1, k2⟩, k3⟩ := key
  obtain ⟨S', a, b, e⟩ := rb_141 (N := N) (z := z) k1 k2 hW hc
  exact ⟨S', a, b, k3.trans e⟩
theorem rb_7 {c : Nat} (hN : 200 ≤ N) (hW : W ≤ 60) (hc : c ≤ 60) : ∀ (k fu : Nat) (S : mq_St), k ≤ W → k < fu → frM S0 S → S.1 23 = nI W → ∃ S', frM S0 S' ∧ mdC S' ∧ zf_X4_rebuild_7 N z fu (nI c) (nI k - 1) S = some ((), S')
  | 0, 0, S, _, h, _, _ => by omega
  | 0, fu + 1, S, _, _, hS, h => by
    obtain ⟨S', a, b, e⟩ := rb_79 (N := N) (z := z) (by omega) hS h hW hc
    refine ⟨S', a, b, ?_⟩
    show zf_X4_rebuild_7b N z _ (nI c) (nI 0 - 1) S = _
    unfold zf_X4_rebuild_7b
    rw [if_pos (by decide), nI_e]
    exact e
  | k + 1, 0, S, _, h, _, _ => by omega
  | k + 1, fu + 1, S, hk, hfu, hS, h => by
    have e1 : nI (k + 1) - 1 = nI k := by rw [show (1 : Int32) = nI 1 from rfl, pk_sub (by omega)]; rfl
    have e2 : nI k + -1 = nI k - 1 := (Int32.sub_eq_add_neg (nI k) 1).symm
    have i1 : vp_in (nI k) 60 := vp_in_nI (by omega) (by omega)
    rw [e1]
    show ∃ S', frM S0 S' ∧ mdC S' ∧ zf_X4_rebuild_7b N z (fun v1 v2 S => zf_X4_rebuild_7 N z fu v1 v2 S) (nI c) (nI k) S = some ((), S')
    obtain ⟨r, hr⟩ := ck_moved (N := N) (z := z) (S.2.2 7 (nI k).toNatClampNeg) (by omega) h hW
    unfold zf_X4_rebuild_7b zf_X4_rebuild_71
    rw [if_neg (show ¬ nI k < (0 : Int32) from nI_nlt (b := 0) (by omega) (by omega)), mq_ck_of i1, hr, mq_cp_s, mq_ck_of i1, nS_e, mq_ck_of i1, mq_ck_of i1, nS_e, mq_ck_of i1, mq_ck_of i1, mq_ck_of i1, nI_e, e2]
    have go : ∀ T : mq_St, frM S0 T → T.1 23 = nI W → ∃ S', frM S0 S' ∧ mdC S' ∧ zf_X4_rebuild_7 N z fu (nI c) (nI k - 1) T = some ((), S') := fun T hT hT' => rb_7 hN hW hc k fu T (by omega) (by omega) hT hT'
    have f1 : frM S0 (mq_sa (mq_sl S 8 (vp_updL (S.2.2 8) (nI k).toNatClampNeg r)) 24 (upd ((mq_sl S 8 (vp_updL (S.2.2 8) (nI k).toNatClampNeg r)).2.1 24) (nI k).toNatClampNeg ((mq_sl S 8 (vp_updL (S.2.2 8) (nI k).toNatClampNeg r)).2.1 23 (nI k).toNatClampNeg))) := ag_tr hS (ag_tr (ag_sl (by decide)) (ag_sa (by decide)))
    rcases ix60 ((mq_sa (mq_sl S 8 (vp_updL (S.2.2 8) (nI k).toNatClampNeg r)) 24 (upd ((mq_sl S 8 (vp_updL (S.2.2 8) (nI k).toNatClampNeg r)).2.1 24) (nI k).toNatClampNeg ((mq_sl S 8 (vp_updL (S.2.2 8) (nI k).toNatClampNeg r)).2.1 23 (nI k).toNatClampNeg))).2.1 26 (nI k).toNatClampNeg) with q | q | ⟨j, hj, q⟩
    · rw [if_pos q]; exact go _ f1 h
    · by_cases q' : (mq_sa (mq_sl S 8 (vp_updL (S.2.2 8) (nI k).toNatClampNeg r)) 24 (upd ((mq_sl S 8 (vp_updL (S.2.2 8) (nI k).toNatClampNeg r)).2.1 24) (nI k).toNatClampNeg ((mq_sl S 8 (vp_updL (S.2.2 8) (nI k).toNatClampNeg r)).2.1 23 (nI k).toNatClampNeg))).2.1 26 (nI k).toNatClampNeg < 0
      · rw [if_pos q']; exact go _ f1 h
      · rw [if_neg q', if_pos q]; exact go _ f1 h
    · rw [q, if_neg (show ¬ nI j < (0 : Int32) from nI_nlt (b := 0) (by omega) (by omega)), if_neg (show ¬ (60 : Int32) ≤ nI j from nI_ge (b := 60) hj (by omega)), mq_ck_of (vp_in_nI hj (by omega)), nS_e, nI_e]
      exact go _ (ag_tr f1 (ag_sa (by decide))) h
theorem ck_reb {c : Nat} (hN : 200 ≤ N) (hS : frM S0 S) (h : S.1 23 = nI W) (hW : W ≤ 60) (hc : c ≤ 60) : ∃ S', frM S0 S' ∧ mdC S' ∧ zf_X4_rebuild N z (nI c) S = some ((), S') := by
  unfold zf_X4_rebuild
  rw [h, nI_e]
  exact rb_7 hN hW hc W N S (Nat.le_refl _) (by omega) hS h
theorem ct_4 (hN : 200 ≤ N) (hW : W ≤ 60) (hw : w < W) : ∀ (fu k c : Nat) (S : mq_St), k ≤ W → W - k < fu → c ≤ k + 1 → (w < k → c ≤ k) → frM S0 S → S.1 23 = nI W → ∃ S', frM S0 S' ∧ mdC S' ∧ zf_X4_cutTo_4 N z fu (nI w) (nI c) (nI k) S = some ((), S')
  | 0, k, c, S, _, h, _, _, _, _ => by omega
  | fu + 1, k, c, S, hk, hfu, h1, h2, hS, h => by
    show ∃ S', frM S0 S' ∧ mdC S' ∧ zf_X4_cutTo_4b N z (fun v1 v2 v3 S => zf_X4_cutTo_4 N z fu v1 v2 v3 S) (nI w) (nI c) (nI k) S = some ((), S')
    unfold zf_X4_cutTo_4b zf_X4_cutTo_53
    rw [h]
    by_cases e : k = W
    · obtain ⟨S', a, b, c'⟩ := ck_reb (N := N) (z := z) (c := c) hN hS h hW (by have := h2 (by omega); omega)
      rw [e, if_pos (nI_le (Nat.le_refl _) (by omega)), c', mq_cl_s]
      exact ⟨S', a, b, rfl⟩
    · have i1 : vp_in (nI k) 60 := vp_in_nI (by omega) (by omega)
      rw [if_neg (nI_ge (show k < W by omega) (by omega)), mq_ck_of i1, nS_e, mq_ck_of i1, mq_ck_of i1, nI_e, nI_1]
      have f1 : frM S0 (mq_sa S 26 (upd (S.2.1 26) (nI k).toNatClampNeg (-1))) := ag_tr hS (ag_sa (by decide))
      by_cases e' : nI k = nI w
      · have ekw : k = w := sp_inj e' (by omega) (by omega)
        rw [if_pos e', nS_e, nI_e]
        exact ct_4 hN hW hw fu (k + 1) c _ (by omega) (by omega) (by omega) (fun _ => by omega) (ag_tr f1 (ag_sa (by decide))) h
      · rw [if_neg e']
        have nkw : k ≠ w := fun q => e' (by rw [q])
        obtain ⟨r, hr, -⟩ := ck_seen (N := N) (z := z) (S := mq_sa S 26 (upd (S.2.1 26) (nI k).toNatClampNeg (-1))) (nI w) (nI k) h hW
        rw [hr, mq_cp_s]
        by_cases er : r = 0
        · rw [if_pos er]
          exact ct_4 hN hW hw fu (k + 1) c _ (by omega) (by omega) (by omega) (fun _ => by omega) f1 h
        · rw [if_neg er, nS_e, nI_e, nI_1, nI_e]
          exact ct_4 hN hW hw fu (k + 1) (c + 1) _ (by omega) (by omega) (by omega) (fun q => by have := h2 (by omega); omega) (ag_tr f1 (ag_sa (by decide))) h
theorem ck_cut (v : Int32) (hN : 200 ≤ N) (hm : mdC S) : ∃ r S', zf_X10_cut N z v S = some (r, S') ∧ mdC S' ∧ frM S S' := by
  obtain ⟨⟨W, hW, h23⟩, t, ht, h22⟩ := id hm
  unfold zf_X10_cut
  rcases ck_hasw (N := N) (z := z) v h23 hW with a | ⟨k, hk, e, a⟩
  · rw [a, mq_cp_s, if_pos rfl]; exact ⟨_, _, rfl, hm, ag_rf⟩
  · obtain ⟨S', b1, b2, b3⟩ := ct_4 (N := N) (z := z) (S0 := S) hN hW hk N 0 1 S (by omega) (by omega) (by omega) (fun q => by omega) ag_rf h23
    rw [a, mq_cp_s, if_neg (by decide), e]
    have : zf_X4_cutTo N z (nI k) S = some ((), S') := by
      unfold zf_X4_cutTo
      rw [nI_e, nI_e]
      exact b3
    rw [this, mq_cl_s]
    exact ⟨_, S', rfl, b2, b1⟩
end CUT
end
/-! ab.fold -/
section
/-! The class's model: fold() ends. -/
section FOLD
variable {N n : Nat} {z : Nat → Nat} {S S0 : mq_St} {W w t : Nat}
theorem ck_like (hw : w < 60) : ∀ (fu k : Nat), k ≤ w → w - k < fu → ∃ j, j ≤ w ∧ zf_X4_leastLike_2 N z S fu (nI w) (nI k) = some (nI j)
  | 0, k, _, h => by omega
  | fu + 1, k, hk, hfu => by
    show ∃ j, j ≤ w ∧ zf_X4_leastLike_2b N z S (fun v1 v2 => zf_X4_leastLike_2 N z S fu v1 v2) (nI w) (nI k) = some (nI j)
    unfold zf_X4_leastLike_2b zf_X4_leastLike_40
    by_cases e : k = w
    · exact ⟨w, Nat.le_refl _, by rw [e, if_pos (nI_le (Nat.le_refl _) (by omega))]⟩
    · have i1 : vp_in (nI k) 60 := vp_in_nI (by omega) (by omega)
      have i2 : vp_in (nI w) 60 := vp_in_nI (by omega) (by omega)
      rw [if_neg (nI_ge (show k < w by omega) (by omega)), mq_ck_of i1, mq_ck_of i2, mq_ck_of i1, mq_ck_of i2, nI_e, nI_1]
      by_cases e1 : S.2.1 26 (nI k).toNatClampNeg = S.2.1 26 (nI w).toNatClampNeg
      · rw [if_pos e1]
        by_cases e2 : lg_cmp (S.2.2 8 (nI k).toNatClampNeg) (S.2.2 8 (nI w).toNatClampNeg) = 0
        · exact ⟨k, hk, by rw [if_pos e2]⟩
        · rw [if_neg e2]; exact ck_like hw fu (k + 1) (by omega) (by omega)
      · rw [if_neg e1]; exact ck_like hw fu (k + 1) (by omega) (by omega)
theorem sp_4 (hN : 100 ≤ N) (hW : W ≤ 60) : ∀ (fu k c : Nat) (S : mq_St), k ≤ W → W - k < fu → c ≤ k → frM S0 S → S.1 23 = nI W → ∃ c' S', c' ≤ 60 ∧ frM S0 S' ∧ S'.1 23 = nI W ∧ zf_X4_splitBySigns_4 N z fu (nI c) (nI k) S = some (nI c', S')
  | 0, k, c, S, _, h, _, _, _ => by omega
  | fu + 1, k, c, S, hk, hfu, hc, hS, h => by
    show ∃ c' S', c' ≤ 60 ∧ frM S0 S' ∧ S'.1 23 = nI W ∧ zf_X4_splitBySigns_4b N z (fun v1 v2 S => zf_X4_splitBySigns_4 N z fu v1 v2 S) (nI c) (nI k) S = some (nI c', S')
    unfold zf_X4_splitBySigns_4b zf_X4_splitBySigns_48
    rw [h]
    by_cases e : k = W
    · rw [e, if_pos (nI_le (Nat.le_refl _) (by omega)), nI_e]
      obtain ⟨T, ⟨a1, a2⟩, b⟩ := lp_to (F := fun fu k T => zf_X4_splitBySigns_56 N z fu (nI c) k T) (n := W) (I := fun T => frM S0 T ∧ T.1 23 = nI W) (G := fun T => some (nI c, T)) (fun fu T hI => by
        show zf_X4_splitBySigns_56b N z _ (nI c) (nI W) T = _
        unfold zf_X4_splitBySigns_56b
        rw [hI.2, if_pos (nI_le (Nat.le_refl _) (by omega))]) (fun fu k T hk hI => by
        have i1 : vp_in (nI k) 60 := vp_in_nI (by omega) (by omega)
        refine ⟨mq_sa T 26 (upd (T.2.1 26) k (T.2.1 27 k)), ⟨ag_tr hI.1 (ag_sa (by decide)), hI.2⟩, ?_⟩
        show zf_X4_splitBySigns_56b N z (fun v1 v2 S => zf_X4_splitBySigns_56 N z fu v1 v2 S) (nI c) (nI k) T = _
        unfold zf_X4_splitBySigns_56b
        rw [hI.2, if_neg (nI_ge hk (by omega)), mq_ck_of i1, mq_ck_of i1, nI_clamp (by omega), nS_e, nI_e, nI_1]) N 0 S (by omega) (by omega) ⟨hS, h⟩
      exact ⟨c, T, by omega, a1, a2, b⟩
    · have i1 : vp_in (nI k) 60 := vp_in_nI (by omega) (by omega)
      obtain ⟨j, hj, hl⟩ := ck_like (N := N) (z := z) (S := S) (w := k) (by omega) N 0 (by omega) (by omega)
      have i2 : vp_in (nI j) 60 := vp_in_nI (by omega) (by omega)
      have hl' : zf_X4_leastLike N z (nI k) S = some (nI j) := by
        unfold zf_X4_leastLike
        rw [nI_e]
        exact hl
      rw [if_neg (nI_ge (show k < W by omega) (by omega)), hl', mq_cp_s, nI_e]
      by_cases e' : nI j = nI k
      · rw [if_pos e', mq_ck_of i1, nS_e, nI_e, nI_1, nI_e, nI_1]
        exact sp_4 hN hW fu (k + 1) (c + 1) _ (by omega) (by omega) (by omega) (ag_tr hS (ag_sa (by decide))) h
      · rw [if_neg e', mq_ck_of i2, mq_ck_of i1, nS_e, nI_e, nI_1]
        exact sp_4 hN hW fu (k + 1) c _ (by omega) (by omega) (by omega) (ag_tr hS (ag_sa (by decide))) h
theorem ck_split (hN : 100 ≤ N) (hW : W ≤ 60) (hS : frM S0 S) (h : S.1 23 = nI W) : ∃ c' S', c' ≤ 60 ∧ frM S0 S' ∧ S'.1 23 = nI W ∧ zf_X4_splitBySigns N z S = some (nI c', S') := by
  unfold zf_X4_splitBySigns
  rw [nI_e, nI_e]
  exact sp_4 hN hW N 0 0 S (by omega) (by omega) (by omega) hS h
theorem fo_43 (hN : 200 ≤ N) (hW : W ≤ 60) : ∀ (fu k c : Nat) (S : mq_St), k ≤ 60 → 60 - k < fu → c ≤ 60 → frM S0 S → S.1 23 = nI W → ∃ S', frM S0 S' ∧ mdC S' ∧ zf_X4_foldUp_43 N z fu (nI c) (nI k) S = some ((), S')
  | 0, k, c, S, _, h, _, _, _ => by omega
  | fu + 1, k, c, S, hk, hfu, hc, hS, h => by
    show ∃ S', frM S0 S' ∧ mdC S' ∧ zf_X4_foldUp_43b N z (fun v1 v2 S => zf_X4_foldUp_43 N z fu v1 v2 S) (nI c) (nI k) S = some ((), S')
    have fin : ∀ (T : mq_St), frM S0 T → T.1 23 = nI W → ∃ S', frM S0 S' ∧ mdC S' ∧ zf_X4_foldUp_102 N z (nI c) T = some ((), S') := fun T hT hT' => by
      obtain ⟨S', a, b, e⟩ := ck_reb (N := N) (z := z) (c := c) hN hT hT' hW hc
      refine ⟨S', a, b, ?_⟩
      unfold zf_X4_foldUp_102
      rw [e, mq_cl_s]
    unfold zf_X4_foldUp_43b
    by_cases e : k = 60
    · rw [e, if_pos (by decide)]; exact fin S hS h
    · rw [if_neg (show ¬ (60 : Int32) ≤ nI k from nI_ge (b := 60) (show k < 60 by omega) (by omega)), nI_e]
      obtain ⟨T, ⟨a1, a2⟩, b⟩ := lp_to (F := fun fu2 j T => zf_X4_foldUp_51 N z (fun v1 v2 S => zf_X4_foldUp_43 N z fu v1 v2 S) fu2 (nI c) (nI k) j T) (n := W) (I := fun T => frM S0 T ∧ T.1 23 = nI W) (G := fun T => mq_cl (zf_X4_splitBySigns N z T) (fun q16v S18 => (mq_nI (q16v) (fun x19 => (if x19 = nI c then (zf_X4_foldUp_102 N z (nI c) S18) else (mq_nI (x19) (fun x20 => (mq_nI (nI k + (1 : Int32)) (fun x21 => (zf_X4_foldUp_43 N z fu (x20) (x21) S18)))))))))) (fun fu2 T hI => by
        show zf_X4_foldUp_51b N z _ _ (nI c) (nI k) (nI W) T = _
        unfold zf_X4_foldUp_51b
        rw [hI.2, if_pos (nI_le (Nat.le_refl _) (by omega))]) (fun fu2 j T hj hI => by
        have i1 : vp_in (nI j) 60 := vp_in_nI (by omega) (by omega)
        obtain ⟨r, hr⟩ := ck_moved (N := N) (z := z) (T.2.2 7 j) (by omega) hI.2 hW
        refine ⟨mq_sl T 8 (vp_updL (T.2.2 8) j r), ⟨ag_tr hI.1 (ag_sl (by decide)), hI.2⟩, ?_⟩
        show zf_X4_foldUp_51b N z (fun v1 v2 S => zf_X4_foldUp_43 N z fu v1 v2 S) (fun v1 v2 v3 S => zf_X4_foldUp_51 N z (fun v1 v2 S => zf_X4_foldUp_43 N z fu v1 v2 S) fu2 v1 v2 v3 S) (nI c) (nI k) (nI j) T = _
        unfold zf_X4_foldUp_51b
        rw [hI.2, if_neg (nI_ge hj (by omega)), mq_ck_of i1, nI_clamp (by omega), hr, mq_cp_s, mq_ck_of i1, nS_e, nI_e, nI_1]) N 0 S (by omega) (by omega) ⟨hS, h⟩
      obtain ⟨c', T', d1, d2, d3, d4⟩ := ck_split (N := N) (z := z) (by omega) hW a1 a2
      have b' : zf_X4_foldUp_51 N z (fun v1 v2 S => zf_X4_foldUp_43 N z fu v1 v2 S) N (nI c) (nI k) 0 S = _ := b
      rw [b', d4, mq_cl_s, nI_e, nI_e, nI_e, nI_1]
      by_cases e1 : nI c' = nI c
      · rw [if_pos e1]; exact fin T' d2 d3
      · rw [if_neg e1]
        exact fo_43 hN hW fu (k + 1) c' T' (by omega) (by omega) d1 d2 d3
theorem ck_fold (hN : 200 ≤ N) (hm : mdC S) : ∃ r S', zf_X10_fold N z S = some (r, S') ∧ mdC S' ∧ frM S S' := by
  obtain ⟨⟨W, hW, h23⟩, t, ht, h22⟩ := id hm
  obtain ⟨T, ⟨a1, a2⟩, b⟩ := lp_to (F := fun fu j T => zf_X4_foldUp_2 N z fu j T) (n := W) (I := fun T => frM S T ∧ T.1 23 = nI W) (G := fun T => mq_cl (zf_X4_splitBySigns N z T) (fun q2v S4 => (mq_nI (q2v) (fun x5 => (mq_nI ((0 : Int32)) (fun x6 => (zf_X4_foldUp_43 N z N (x5) (x6) S4))))))) (fun fu2 T hI => by
    show zf_X4_foldUp_2b N z _ (nI W) T = _
    unfold zf_X4_foldUp_2b
    rw [hI.2, if_pos (nI_le (Nat.le_refl _) (by omega))]) (fun fu2 j T hj hI => by
    have i1 : vp_in (nI j) 60 := vp_in_nI (by omega) (by omega)
    refine ⟨mq_sl (mq_sa T 26 (upd (T.2.1 26) j 0)) 8 (vp_updL (T.2.2 8) j (T.2.1 23 j).toInt64), ⟨ag_tr hI.1 (ag_tr (ag_sa (by decide)) (ag_sl (by decide))), hI.2⟩, ?_⟩
    show zf_X4_foldUp_2b N z (fun v1 S => zf_X4_foldUp_2 N z fu2 v1 S) (nI j) T = _
    unfold zf_X4_foldUp_2b
    rw [hI.2, if_neg (nI_ge hj (by omega)), mq_ck_of i1, nI_clamp (by omega), nS_e, mq_ck_of i1, mq_ck_of i1, nS_e, nI_e, nI_1]
    rfl) N 0 S (by omega) (by omega) ⟨ag_rf, h23⟩
  obtain ⟨c', T', d1, d2, d3, d4⟩ := ck_split (N := N) (z := z) (by omega) hW a1 a2
  obtain ⟨S', g1, g2, g3⟩ := fo_43 (N := N) (z := z) hN hW N 0 c' T' (by omega) (by omega) d1 d2 d3
  refine ⟨S'.1 23, S', ?_, g2, g1⟩
  have : zf_X4_foldUp N z S = some ((), S') := by
    unfold zf_X4_foldUp
    rw [nI_e]
    refine Eq.trans b ?_
    rw [d4, mq_cl_s, nI_e, nI_e]
    exact g3
  unfold zf_X10_fold
  rw [this, mq_cl_s]
  rfl
end FOLD
end
