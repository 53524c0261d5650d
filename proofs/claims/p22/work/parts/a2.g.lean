/-! a2.loop -/
section
/-! The tableau: all turns. -/
section LOOP
variable {N n F : Nat} {z : Nat → Nat} {so on tw : Nat → Int32} {d : Nat → Nat} {S T SC SR SC0 SR0 A B : mq_St} {st W w ec ln wt m f p k fu fu2 : Nat} {R P : List Nat}
theorem Tn_fr {S1 : mq_St} {go : Option (Unit × mq_St)} {ref : Option (Int32 × mq_St)} (h : frC SC S1) (q : Tn N z n so on tw d F S1 SR st R fu fu2 go ref) : Tn N z n so on tw d F SC SR st R fu fu2 go ref := by
  rcases q with ⟨SC', SR', v, a, b, c, e, g, i⟩ | ⟨h1, SC', SR', w', ec', ln', wt', R', fu', fu2', a, b, c, c', e, g, i, j⟩
  · exact Or.inl ⟨SC', SR', v, a, b, c, e, ag_tr h g, i⟩
  · exact Or.inr ⟨h1, SC', SR', w', ec', ln', wt', R', fu', fu2', a, b, c, c', e, g, ag_tr h i, j⟩
theorem Tn_m {go : Option (Unit × mq_St)} {ref : Option (Int32 × mq_St)} (q : Tn N z n so on tw d F SC SR st R fu (fu2 + 1) go ref) : Tn N z n so on tw d F SC SR st R fu fu2 go ref := by
  rcases q with q | ⟨h1, SC', SR', w', ec', ln', wt', R', fu', fu2', a, b, c, c', e⟩
  · exact Or.inl q
  · exact Or.inr ⟨h1, SC', SR', w', ec', ln', wt', R', fu', fu2', a, b, c, by omega, e⟩
theorem D_turn (hN : 500 ≤ N) (hc : cxC SC n so on tw d) (hx : cxR SR n so on tw d) (q : Dn n so on tw d F SC SR st w ec ln wt R) :
    Tn N z n so on tw d F SC SR st R (fu + 1) fu2 (zf_X8_goOn N z SC) (mq_cl (zf_X11_down_z N z (fu + 1 + 1) SR) (kD N z (fu2 + 1))) ∨
    ∃ SR' x, mq_cl (zf_X11_down_z N z (fu + 1 + 1) SR) (kD N z (fu2 + 1)) = mq_cl (zf_X11_mays_54 N z N (nI wt) x SR') (kM N z (fu2 + 1)) ∧ lst n (fun f => 0 ≤ f ∧ td so on tw 7 (lb (SC.2.2 3) w) f) x ∧ Mn n so on tw d F SC SR' st (w + 1) w ec ln wt 0 R ∧ frR SR SR' := by
  have hfw := hc.2.2.2
  have h300 := hfw.2.1
  obtain ⟨⟨o1, o2, o3, o4, o5, o6⟩, nn, mm, kk, q5, q6, q7, q8, q9, q10, q11, q12, q13, q14⟩ := id q
  obtain ⟨v0, e0, e0'⟩ := rs_clash (N := N) (z := z) (by omega) hx
  have v0e : SC.1 17 = v0 := clV_u (clV_x hfw q8 q10) e0'
  by_cases h17 : SC.1 17 = -1
  · rw [← v0e, h17] at e0
    obtain ⟨v4, e4, e4'⟩ := rs_both (N := N) (z := z) (by omega) hx
    obtain ⟨v6, e6, e6'⟩ := rs_self (N := N) (z := z) (by omega) hx
    obtain ⟨v5, e5, e5'⟩ := rs_either (N := N) (z := z) (by omega) hx
    have tr : ∀ s v, 4 ≤ s → s ≤ 7 → lst n (td so on tw s (ib (SR.2.1 17) 0)) v → lst n (td so on tw s (lb (SC.2.2 3) w)) v := fun s v h4 h7 h => lst_s h (fun f hf => td_x hfw q8 hf h4 h7)
    have l4 := tr 4 v4 (by omega) (by omega) e4'
    have l6 := tr 6 v6 (by omega) (by omega) e6'
    have l5 := tr 5 v5 (by omega) (by omega) e5'
    obtain ⟨a, va, a1, a2, a3⟩ := D_least (N := N) (z := z) (s := 4) (by omega) hc q (by omega) (by omega)
    obtain ⟨b, vb, b1, b2, b3⟩ := D_least (N := N) (z := z) (s := 6) (SC := mq_sl SC 4 a) (by omega) (cxC_c hc rfl rfl rfl rfl rfl rfl) a1 (by omega) (by omega)
    obtain ⟨c, vc, c1, c2, c3⟩ := D_least (N := N) (z := z) (s := 5) (SC := mq_sl (mq_sl SC 4 a) 4 b) (by omega) (cxC_c hc rfl rfl rfl rfl rfl rfl) b1 (by omega) (by omega)
    have ea : va = v4 := lst_u a3 l4
    have eb : vb = v6 := lst_u b3 l6
    have ec' : vc = v5 := lst_u c3 l5
    subst ea eb ec'
    rcases l4 with ⟨r4, s4⟩ | ⟨f, hf, r4, s4, -⟩
    · subst r4
      rcases l6 with ⟨r6, s6⟩ | ⟨f, hf, r6, s6, -⟩
      · subst r6
        rcases l5 with ⟨r5, s5⟩ | ⟨f, hf, r5, s5, -⟩
        · right
          exact D_full (fu := fu + 1) (by omega) hx q h17 s4 s5 s6
        · left
          subst r5
          have t := T_either (fu := fu) (fu2 := fu2 + 1) (SC := mq_sl (mq_sl (mq_sl SC 4 a) 4 b) 4 c) (z := z) (go := zf_X8_goOn N z SC) hN (cxC_c hc rfl rfl rfl rfl rfl rfl) hx c1 h17 hf s5.1 (fun S' h => by
            unfold zf_X8_goOn
            rw [if_pos h17]
            refine (cl_go a2).trans ?_
            rw [nI_e, if_pos rfl]
            refine (cl_go b2).trans ?_
            rw [nI_e, if_pos rfl]
            refine (cl_go c2).trans ?_
            rw [nI_e, if_neg (nI_nm (by omega))]
            exact cl_go h) e0 e4 e6 e5
          exact Tn_m (Tn_fr (fCl (fCl (fCl ag_rf (by decide)) (by decide)) (by decide)) t)
      · left
        subst r6
        have t := T_both (fu := fu) (fu2 := fu2 + 1) (SC := mq_sl (mq_sl SC 4 a) 4 b) (s := 6) (r := 2) (z := z) (go := zf_X8_goOn N z SC) hN (cxC_c hc rfl rfl rfl rfl rfl rfl) hx b1 hf s6.1 (Or.inr ⟨rfl, rfl⟩) (fun S' h => by
          unfold zf_X8_goOn
          rw [if_pos h17]
          refine (cl_go a2).trans ?_
          rw [nI_e, if_pos rfl]
          refine (cl_go b2).trans ?_
          rw [nI_e, if_neg (nI_nm (by omega))]
          exact cl_go h) (fun k0 => dz_self hx mm o2 o1 o6 hf s6.1 e0 e4 e6)
        exact Tn_m (Tn_fr (fCl (fCl ag_rf (by decide)) (by decide)) t)
    · left
      subst r4
      have t := T_both (fu := fu) (fu2 := fu2 + 1) (SC := mq_sl SC 4 a) (s := 4) (r := 1) (z := z) (go := zf_X8_goOn N z SC) hN (cxC_c hc rfl rfl rfl rfl rfl rfl) hx a1 hf s4.1 (Or.inl ⟨rfl, rfl⟩) (fun S' h => by
        unfold zf_X8_goOn
        rw [if_pos h17]
        refine (cl_go a2).trans ?_
        rw [nI_e, if_neg (nI_nm (by omega))]
        exact cl_go h) (fun k0 => dz_both hx mm o2 o1 o6 hf s4.1 e0 e4)
      exact Tn_m (Tn_fr (fCl ag_rf (by decide)) t)
  · left
    rcases q10 with ⟨r, -⟩ | ⟨c, hcn, r, -, -⟩
    · exact absurd r h17
    · exact T_clash hN hc hx q r hcn (by rw [e0, ← v0e, r])
theorem r73_go {fuc t : Nat} {S' : mq_St} (h : S.1 19 = 2) (ht : t < 1000000) (hg : zf_X8_goOn N z S = some ((), S')) : zf_X8_run_73 N z (fuc + 1) (nI t) S = zf_X8_run_73 N z fuc (nI (t + 1)) S' := by
  show zf_X8_run_73b N z (fun v3 S => zf_X8_run_73 N z fuc v3 S) (nI t) S = _
  unfold zf_X8_run_73b
  rw [if_neg (show ¬ (1000000 : Int32) ≤ nI t from nI_ge (b := 1000000) ht (by omega)), if_pos h]
  refine (cl_go hg).trans ?_
  rw [nI_e, nI_1]
theorem r73_end {fuc : Nat} {t : Int32} (h : ¬ S.1 19 = 2) : zf_X8_run_73 N z (fuc + 1) t S = some (S.1 19, S) := by
  show zf_X8_run_73b N z (fun v3 S => zf_X8_run_73 N z fuc v3 S) t S = _
  unfold zf_X8_run_73b zf_X8_run_97
  by_cases e : (1000000 : Int32) ≤ t
  · rw [if_pos e]
  · rw [if_neg e, if_neg h]
theorem Fi_v {v : Int32} (h : Fi v SC SR) : ¬ v = 2 := by
  rcases h.2.2.2 with e | e | ⟨e, -⟩ | ⟨e, -⟩ <;> (rw [e]; decide)
/-- both come to the same end -/
def Gl (SC0 SR0 : mq_St) (cls ref : Option (Int32 × mq_St)) : Prop := ∃ v SC' SR', cls = some (v, SC') ∧ ref = some (v, SR') ∧ Fi v SC' SR' ∧ frC SC0 SC' ∧ frR SR0 SR'
theorem all (hN : 300000 ≤ N) (hc : cxC SC0 n so on tw d) (hx : cxR SR0 n so on tw d) : ∀ μ : Nat, μ ≤ 250000 →
    (∀ SC SR st w ec ln wt R t fuc fu fu2, Dn n so on tw d F SC SR st w ec ln wt R → frC SC0 SC → frR SR0 SR → 2 * (F - st) + R.length < μ → t + μ ≤ 1000000 → μ + 1 ≤ fuc → μ + 3 ≤ fu → μ + 3 ≤ fu2 → Gl SC0 SR0 (zf_X8_run_73 N z fuc (nI t) SC) (mq_cl (zf_X11_down_z N z fu SR) (kD N z fu2))) ∧
    (∀ SC SR st W w ec ln wt m R x t fuc fu fu2, Mn n so on tw d F SC SR st W w ec ln wt m R → lst n (fun f => m ≤ f ∧ td so on tw 7 (lb (SC.2.2 3) w) f) x → frC SC0 SC → frR SR0 SR → 2 * (F - st) + R.length < μ → t + μ ≤ 1000000 → μ + 1 ≤ fuc → μ + 3 ≤ fu → μ + 3 ≤ fu2 → Gl SC0 SR0 (zf_X8_run_73 N z fuc (nI t) SC) (mq_cl (zf_X11_mays_54 N z fu (nI wt) x SR) (kM N z fu2)))
  | 0, _ => ⟨fun _ _ _ _ _ _ _ _ _ _ _ _ _ _ _ h => by omega, fun _ _ _ _ _ _ _ _ _ _ _ _ _ _ _ _ _ _ _ h => by omega⟩
  | μ + 1, hμ => by
    obtain ⟨iD, iM⟩ := all hN hc hx μ (by omega)
    have cM : ∀ SC SR st W w ec ln wt m R x t fuc fu fu2, Mn n so on tw d F SC SR st W w ec ln wt m R → lst n (fun f => m ≤ f ∧ td so on tw 7 (lb (SC.2.2 3) w) f) x → frC SC0 SC → frR SR0 SR → 2 * (F - st) + R.length < μ + 1 → t + (μ + 1) ≤ 1000000 → (μ + 1) + 1 ≤ fuc → (μ + 1) + 3 ≤ fu → (μ + 1) + 3 ≤ fu2 → Gl SC0 SR0 (zf_X8_run_73 N z fuc (nI t) SC) (mq_cl (zf_X11_mays_54 N z fu (nI wt) x SR) (kM N z fu2)) := by
      intro SC SR st W w ec ln wt m R x t fuc fu fu2 hM hl fC fR hm ht hfc hf1 hf2
      obtain ⟨fuc, rfl⟩ : ∃ q, fuc = q + 1 := ⟨fuc - 1, by omega⟩
      obtain ⟨fu, rfl⟩ : ∃ q, fu = q + 1 := ⟨fu - 1, by omega⟩
      obtain ⟨fu2, rfl⟩ : ∃ q, fu2 = q + 1 := ⟨fu2 - 1, by omega⟩
      have hcS := cxC_f hc fC
      have hxS := cxR_f hx fR
      obtain ⟨S4, g1, g2, g3, g4⟩ := M_look (N := N) (z := z) (by omega) hcS hM hl
      have f4 : frC SC S4 := ag_mono g3 (by decide) (by decide) (by decide)
      have hc4 := cxC_f hcS f4
      have h19 : SC.1 19 = 2 := hM.2.1.2.2.2.2.2.2
      have hl' := hl
      rw [← g2] at hl'
      rcases hl' with ⟨e, -⟩ | ⟨f, hf, e, ⟨hmf, htd⟩, hmin⟩
      · subst e
        rw [if_pos rfl] at g4
        rcases M_open (N := N) (z := z) (fu := fu) (fu2 := fu2) (by omega) hc4 hxS g1 with ⟨-, SC', SR', a1, a2, a3, a4, a5, a6⟩ | ⟨u, r, ea, l, b, m', SC', SR', x, a1, a2, a3, a4, a5, a6, a7⟩
        · have go : zf_X8_goOn N z SC = some ((), SC') := g4.trans (cl_go a1)
          obtain ⟨fuc, rfl⟩ : ∃ q, fuc = q + 1 := ⟨fuc - 1, by omega⟩
          refine ⟨0, SC', SR', ?_, a4, ⟨?_, ⟨?_, ?_, ?_⟩, ⟨ln, g1.1.2.2.2.2.2, (a3.1 20 (by decide)).trans g1.2.1.2.2.2.2.2.1⟩, Or.inr (Or.inr (Or.inr ⟨rfl, W, ?_, ?_, ?_, ?_, fun v hv => ?_, fun v hv => ?_⟩))⟩, ag_tr (ag_tr fC f4) (ag_mono a3 (by decide) (by decide) (by decide)), ag_tr fR (ag_mono a5 (by decide) (by decide) (by decide))⟩
          · rw [r73_go h19 (by omega) go, r73_end (by rw [a2]; decide), a2]
          · rw [a3.2.1 21 (by simp), a5.1 19 (by decide)]; exact g1.2.1.2.1.trans g1.2.2.1.2.1.symm
          · rw [a3.2.1 21 (by simp), a5.1 20 (by decide)]; exact g1.2.2.2.1.1
          · rw [a3.2.1 21 (by simp), a5.1 21 (by decide)]; exact g1.2.2.2.1.2.1
          · rw [a3.2.1 21 (by simp), a5.1 22 (by decide)]; exact g1.2.2.2.1.2.2
          · have := g1.1.2.2.1; omega
          · exact g1.1.2.2.2.1
          · rw [a3.1 15 (by decide)]; exact g1.2.1.2.2.1
          · rw [a5.1 24 (by decide)]; exact g1.2.2.1.2.2.1
          · intro u hu
            rw [a3.2.2 1 (by simp), a5.2.1 22 (by decide)]
            exact g1.2.2.2.2.2.2.2.2.2.2.1 v hv u hu
          · intro g hg
            rw [a3.2.2 3 (by simp)]
            exact a6 v hv g hg
        · have go : zf_X8_goOn N z SC = some ((), SC') := g4.trans (cl_go a2)
          subst a1
          simp only [List.length_cons] at hm
          rw [r73_go h19 (by omega) go, a3]
          exact iM SC' SR' st W u ea l b m' r x (t + 1) fuc N fu2 a5 a4 (ag_tr (ag_tr fC f4) a6) (ag_tr fR a7) (by omega) (by omega) (by omega) (by omega) (by omega)
      · subst e
        have h300 := hc.2.2.2.2.1
        rw [if_neg (nI_nm (by omega))] at g4
        rcases M_may (N := N) (z := z) (fu := fu) (fu2 := fu2) (by omega) hc4 hxS g1 hf hmf htd hmin with ⟨SC', SR', v, a1, a2, a3, a4, a5, a6, a7, a8, a9⟩ | ⟨h1, SC', SR', x, a1, a2, a3, a4, a5, a6⟩ | ⟨h1, SC', SR', a1, a2, a3, a4, a5⟩
        · have go : zf_X8_goOn N z SC = some ((), SC') := g4.trans (cl_go a1)
          have fi : Fi v SC' SR' := ⟨a5, a6, ⟨ln, g1.1.2.2.2.2.2, a9⟩, a3.elim Or.inl (fun e => Or.inr (Or.inl e))⟩
          obtain ⟨fuc, rfl⟩ : ∃ q, fuc = q + 1 := ⟨fuc - 1, by omega⟩
          exact ⟨v, SC', SR', by rw [r73_go h19 (by omega) go, r73_end (by rw [a2]; exact Fi_v fi), a2], a4, fi, ag_tr (ag_tr fC f4) a7, ag_tr fR a8⟩
        · have go : zf_X8_goOn N z SC = some ((), SC') := g4.trans (cl_go a1)
          rw [r73_go h19 (by omega) go, a2]
          exact iM SC' SR' (st + 1) W w ec ln wt (f + 1) R x (t + 1) fuc fu (fu2 + 1) a4 a3 (ag_tr (ag_tr fC f4) a5) (ag_tr fR a6) (by omega) (by omega) (by omega) (by omega) (by omega)
        · have go : zf_X8_goOn N z SC = some ((), SC') := g4.trans (cl_go a1)
          rw [r73_go h19 (by omega) go, a2]
          exact iD SC' SR' (st + 1) W ec (ln + 1) (wt + 1) (w :: R) (t + 1) fuc N fu2 a3 (ag_tr (ag_tr fC f4) a4) (ag_tr fR a5) (by simp only [List.length_cons]; omega) (by omega) (by omega) (by omega) (by omega)
    refine ⟨?_, cM⟩
    intro SC SR st w ec ln wt R t fuc fu fu2 hD fC fR hm ht hfc hf1 hf2
    obtain ⟨fuc, rfl⟩ : ∃ q, fuc = q + 1 := ⟨fuc - 1, by omega⟩
    obtain ⟨fu, rfl⟩ : ∃ q, fu = q + 1 + 1 := ⟨fu - 2, by omega⟩
    obtain ⟨fu2, rfl⟩ : ∃ q, fu2 = q + 1 := ⟨fu2 - 1, by omega⟩
    have hcS := cxC_f hc fC
    have hxS := cxR_f hx fR
    have h19 : SC.1 19 = 2 := hD.2.1.2.2.2.2.2.2
    rcases D_turn (N := N) (z := z) (fu := fu) (fu2 := fu2) (by omega) hcS hxS hD with (⟨SC', SR', v, a1, a2, a3, a4, a5, a6⟩ | ⟨h1, SC', SR', w', ec', ln', wt', R', fu', fu2', a1, a2, a3, a3', a4, a5, a6, a7⟩) | ⟨SR', x, a1, a2, a3, a4⟩
    · obtain ⟨fuc, rfl⟩ : ∃ q, fuc = q + 1 := ⟨fuc - 1, by omega⟩
      exact ⟨v, SC', SR', by rw [r73_go h19 (by omega) a1, r73_end (by rw [a2]; exact Fi_v a4), a2], a3, a4, ag_tr fC a5, ag_tr fR a6⟩
    · rw [r73_go h19 (by omega) a1, a2]
      exact iD SC' SR' (st + 1) w' ec' ln' wt' R' (t + 1) fuc fu' fu2' a5 (ag_tr fC a6) (ag_tr fR a7) (by omega) (by omega) (by omega) (by omega) (by omega)
    · rw [a1]
      exact cM SC SR' st (w + 1) w ec ln wt 0 R x t (fuc + 1) N (fu2 + 1) a3 a2 fC (ag_tr fR a4) (by omega) (by omega) (by omega) (by omega) (by omega)
end LOOP
end
/-! a3.start -/
section
/-! The tableau: its start. -/
section STARTS
variable {N n F : Nat} {z : Nat → Nat} {so on tw : Nat → Int32} {d : Nat → Nat} {S T SC SR : mq_St} {no l : Nat}
theorem r30 (S : mq_St) {v1 : Int32} : ∀ (fu k : Nat) (c : Nat → Int32), k ≤ 4 → 4 - k < fu → (∀ i, i < k → c i = 0) → ∃ c' fu', zf_X8_run_30 N z fu v1 (nI k) (mq_sa S 21 c) = zf_X8_run_30 N z (fu' + 1) v1 (nI 4) (mq_sa S 21 c') ∧ ∀ i, i < 4 → c' i = 0
  | 0, k, c, _, h, _ => by omega
  | fu + 1, k, c, hk, hfu, hc => by
    by_cases e : k = 4
    · exact ⟨c, fu, by rw [e], fun i hi => hc i (by omega)⟩
    · obtain ⟨c', fu', g1, g2⟩ := r30 (v1 := v1) S fu (k + 1) (upd c k 0) (by omega) (by omega) (fun i hi => by
        by_cases q : i = k
        · rw [q, up_s]
        · rw [up_o q]; exact hc i (by omega))
      refine ⟨c', fu', ?_, g2⟩
      rw [← g1]
      show zf_X8_run_30b N z (fun v1 v3 S => zf_X8_run_30 N z fu v1 v3 S) v1 (nI k) (mq_sa S 21 c) = _
      unfold zf_X8_run_30b
      rw [if_neg (show ¬ (4 : Int32) ≤ nI k from nI_ge (b := 4) (show k < 4 by omega) (by omega)), mq_ck_of (vp_in_nI (by omega) (by omega)), nI_clamp (by omega), nS_e, nI_e, nI_1, sa_sa]
      rfl
theorem t47 (S : mq_St) {v1 : Int32} : ∀ (fu k : Nat) (c : Nat → Int32), k ≤ 10 → 10 - k < fu → (∀ i, i < k → c i = 0) → ∃ c' fu', zf_X11_tableau_47 N z fu v1 (nI k) (mq_sa S 17 c) = zf_X11_tableau_47 N z (fu' + 1) v1 (nI 10) (mq_sa S 17 c') ∧ ∀ i, i < 10 → c' i = 0
  | 0, k, c, _, h, _ => by omega
  | fu + 1, k, c, hk, hfu, hc => by
    by_cases e : k = 10
    · exact ⟨c, fu, by rw [e], fun i hi => hc i (by omega)⟩
    · obtain ⟨c', fu', g1, g2⟩ := t47 (v1 := v1) S fu (k + 1) (upd c k 0) (by omega) (by omega) (fun i hi => by
        by_cases q : i = k
        · rw [q, up_s]
        · rw [up_o q]; exact hc i (by omega))
      refine ⟨c', fu', ?_, g2⟩
      rw [← g1]
      show zf_X11_tableau_47b N z (fun v1 v2 S => zf_X11_tableau_47 N z fu v1 v2 S) v1 (nI k) (mq_sa S 17 c) = _
      unfold zf_X11_tableau_47b
      rw [if_neg (show ¬ (10 : Int32) ≤ nI k from nI_ge (b := 10) (show k < 10 by omega) (by omega)), mq_ck_of (vp_in_nI (by omega) (by omega)), nI_clamp (by omega), nS_e, nI_e, nI_1, sa_sa]
      rfl
def s0C (S : mq_St) (F : Nat) : mq_St := mq_si (mq_si (mq_si (mq_si (mq_si S 18 (nI F)) 19 2) 14 0) 15 0) 20 (nI 0)
def s0R (S : mq_St) (F : Nat) : mq_St := mq_si (mq_si (mq_si (mq_si (mq_si (mq_si (mq_si (mq_si (mq_si (mq_si S 18 (nI F)) 19 0) 20 0) 21 0) 22 0) 23 0) 24 0) 26 0) 27 0) 28 0
theorem st_tab (hN : 300000 ≤ N) (hc : cxC SC n so on tw d) (hx : cxR SR n so on tw d) (hl : SC.1 20 = nI l) (hl2 : l ≤ 1299) (hno : no < n) (hF : F ≤ 100000) : Gl SC SR (zf_X8_run N z (nI no) (nI F) SC) (zf_X11_tableau N z (nI no) (mq_si SR 18 (nI F))) := by
  have hfw := hc.2.2.2
  have h300 := hfw.2.1
  obtain ⟨X, x1, x2⟩ := pu_3 (N := N) (z := z) (S := mq_si (mq_si (mq_si (mq_si SC 18 (nI F)) 19 2) 14 0) 15 0) (ln := l) (p := 0) (v := 0) hl rfl (by omega) hl2
  obtain ⟨c, fu', c1, c2⟩ := r30 (N := N) (z := z) (v1 := nI no) (s0C SC F) N 0 (SC.2.1 21) (by omega) (by omega) (fun i hi => by omega)
  rw [show mq_sa (s0C SC F) 21 (SC.2.1 21) = s0C SC F from sa_i (s0C SC F) 21] at c1
  obtain ⟨a, a1, a2⟩ := se_empty (N := N) (R := 61) (r := 0) (z := fun k => [305].getD k 0) (S := mq_pull (mq_sa (s0C SC F) 21 c) [] [] [2]) (by omega) rfl (by omega) (by omega)
  obtain ⟨b, b1, b2⟩ := se_put (N := N) (R := 61) (r := 0) (f := no) (z := fun k => [305].getD k 0) (S := mq_pull (mq_sl (mq_sa (s0C SC F) 21 c) 2 a) [] [] [2]) rfl (by omega) (by omega) (by omega)
  obtain ⟨q3, q4, v1, v2, v3⟩ := ck_bgw (N := N) (z := z) (v1 := -1) (v2 := 1) (W := 0) (S := mq_sl (mq_sa (s0C SC F) 21 c) 2 b) (by omega) (by omega) rfl
  have rowb : ∀ g, g < 320 → lb b 0 g = decide (g = no) := fun g hg => by
    rw [b2 0 g hg]
    show (lb a 0 g || _) = _
    rw [a2 0 g hg]
    simp
  have cls : zf_X8_run N z (nI no) (nI F) SC = zf_X8_run_73 N z N (nI 0) (bgC (mq_sl (mq_sa (s0C SC F) 21 c) 2 b) 0 (-1) 1 (if lb q3 0 1 = true then 1 else -1) q3 q4) := by
    unfold zf_X8_run
    rw [nS_e, nS_e, nS_e, nS_e]
    refine (cl_go x1).trans ?_
    rw [x2, nS_e, nI_e]
    refine c1.trans ?_
    show zf_X8_run_30b N z (fun v1 v3 S => zf_X8_run_30 N z fu' v1 v3 S) (nI no) (nI 4) (mq_sa (s0C SC F) 21 c) = _
    unfold zf_X8_run_30b
    rw [if_pos (by decide)]
    refine (cl_go a1).trans ?_
    rw [push1, nS_e]
    refine (cl_go b1).trans ?_
    rw [push1, nS_e, sl_sl]
    refine (cl_go v1).trans ?_
    rw [nI_e]
    rfl
  obtain ⟨e, fu2', e1, e2⟩ := t47 (N := N) (z := z) (v1 := nI no) (s0R SR F) N 0 (SR.2.1 17) (by omega) (by omega) (fun i hi => by omega)
  rw [show mq_sa (s0R SR F) 17 (SR.2.1 17) = s0R SR F from sa_i (s0R SR F) 17] at e1
  obtain ⟨N', hN'⟩ : ∃ q, N = q + 1 := ⟨N - 1, by omega⟩
  obtain ⟨g, g1, g2⟩ := rf_pu (N := N) (S := mq_sa (s0R SR F) 17 e) (g := no) (y := nI no) (k := fun S13 => (mq_cl (zf_X11_begins N z ((-1 : Int32)) S13) (fun q14v S16 => (mq_nI ((1 : Int32)) (fun x17 => (zf_X11_tableau_82 N z N (x17) S16)))))) rfl (by omega)
  obtain ⟨q, h1, h2⟩ := rf_bgw (N := N) (z := z) (v1 := -1) (v2 := 1) (W := 0) (S := mq_sa (mq_sa (s0R SR F) 17 e) 17 g) (by omega) (by omega) rfl (Or.inl ⟨rfl, rfl⟩)
  have rowg : ∀ h, h < 320 → ib g 0 h = decide (h = no) := fun h hh => by
    rw [g2 h hh]
    show (ib e 0 h || _) = _
    rw [ib_0 e2 hh, Bool.false_or]
  have ref : zf_X11_tableau N z (nI no) (mq_si SR 18 (nI F)) = mq_cl (zf_X11_down_z N z N (bgR (mq_sa (mq_sa (s0R SR F) 17 e) 17 g) 0 (-1) 1 q)) (kD N z N') := by
    unfold zf_X11_tableau
    rw [nS_e, nS_e, nS_e, nS_e, nS_e, nS_e, nS_e, nS_e, nS_e, nI_e]
    refine e1.trans ?_
    show zf_X11_tableau_47b N z (fun v1 v2 S => zf_X11_tableau_47 N z fu2' v1 v2 S) (nI no) (nI 10) (mq_sa (s0R SR F) 17 e) = _
    unfold zf_X11_tableau_47b
    rw [if_pos (by decide)]
    refine g1.trans ((cl_go h1).trans ?_)
    rw [nI_e]
    have : ∀ S, zf_X11_tableau_82 N z N 1 S = mq_cl (zf_X11_down_z N z N S) (kD N z N') := fun S => by
      have t := t82_D (N := N) (z := z) (fu2 := N') (v := 1) (S := S) (by decide)
      rw [← hN'] at t
      exact t
    exact this _
  rw [cls, ref]
  refine (all (F := F) hN hc hx (2 * F + 1) (by omega)).1 _ _ 0 0 0 0 0 [] 0 N N N' (Dn_bg (S := mq_sl (mq_sa (s0C SC F) 21 c) 2 b) (T := mq_sa (mq_sa (s0R SR F) 17 e) 17 g) (W := 0) (p := no) (P := []) hfw hx.2.2.1 ⟨by omega, hF, by omega, by omega, by omega⟩ rfl (c2 0 (by omega)) rfl rfl rfl rfl rfl rfl rfl rfl rfl ⟨c2 1 (by omega), c2 2 (by omega), c2 3 (by omega)⟩ (fun i hi => by omega) (fun v hv => by omega) (fun h hh => ?_) (fun h hh q => ?_) (fun v hv => by omega) (fun v hv => by omega) v2 v3 h2 ⟨0, 0, 0, rfl, rfl, rfl, fun j hj => by omega, Or.inl ⟨rfl, rfl, rfl, rfl⟩⟩) ?_ ?_ (by simp) (by omega) (by omega) (by omega) (by omega)
  · show ib g 0 h = lb b 0 h
    rw [rowb h hh, rowg h hh]
  · have : lb b 0 h = true := q
    rw [rowb h hh] at this
    have := of_decide_eq_true this
    exact ⟨by omega, Or.inr this⟩
  · exact fCi (fCl (fCa (fCa (fCa (fCl (fCl (fCa (fCi (fCi (fCl (fCa (fCi (fCi (fCi (fCi (fCi ag_rf (by decide)) (by decide)) (by decide)) (by decide)) (by decide)) (by decide)) (by decide)) (by decide)) (by decide)) (by decide)) (by decide)) (by decide)) (by decide)) (by decide)) (by decide)) (by decide)) (by decide)
  · exact fRi (fRa (fRi (fRa (fRa (fRi (fRi (fRa (fRa (fRi (fRi (fRi (fRi (fRi (fRi (fRi (fRi (fRi (fRi ag_rf (by decide)) (by decide)) (by decide)) (by decide)) (by decide)) (by decide)) (by decide)) (by decide)) (by decide)) (by decide)) (by decide)) (by decide)) (by decide)) (by decide)) (by decide)) (by decide)) (by decide)) (by decide)) (by decide)
end STARTS
end
/-! a4.some -/
section
/-! Loops that end. -/
theorem lp_to {β : Type} {F : Nat → Int32 → mq_St → Option β} {n : Nat} {I : mq_St → Prop} {G : mq_St → Option β} (hend : ∀ fu S, I S → F (fu + 1) (nI n) S = G S) (hstep : ∀ fu k S, k < n → I S → ∃ S', I S' ∧ F (fu + 1) (nI k) S = F fu (nI (k + 1)) S') : ∀ (fu k : Nat) (S : mq_St), k ≤ n → n - k < fu → I S → ∃ S', I S' ∧ F fu (nI k) S = G S'
  | 0, k, S, _, h, _ => by omega
  | fu + 1, k, S, hk, hfu, hI => by
    by_cases e : k = n
    · subst e; exact ⟨S, hI, hend fu S hI⟩
    · obtain ⟨S', a, b⟩ := hstep fu k S (by omega) hI
      obtain ⟨S2, c, d⟩ := lp_to hend hstep fu (k + 1) S' (by omega) (by omega) a
      exact ⟨S2, c, b.trans d⟩
theorem lp_v {A β : Type} {F : Nat → A → Int32 → Option β} {n : Nat} (hend : ∀ fu a, ∃ r, F (fu + 1) a (nI n) = some r) (hstep : ∀ fu k a, k < n → (∃ r, F (fu + 1) a (nI k) = some r) ∨ ∃ a', F (fu + 1) a (nI k) = F fu a' (nI (k + 1))) : ∀ (fu k : Nat) (a : A), k ≤ n → n - k < fu → ∃ r, F fu a (nI k) = some r
  | 0, k, a, _, h => by omega
  | fu + 1, k, a, hk, hfu => by
    by_cases e : k = n
    · subst e; exact hend fu a
    · rcases hstep fu k a (by omega) with h | ⟨a', h⟩
      · exact h
      · rw [h]; exact lp_v hend hstep fu (k + 1) a' (by omega) (by omega)
section SOME
variable {N n : Nat} {z : Nat → Nat} {so on tw : Nat → Int32} {d : Nat → Nat} {S SC SR : mq_St} {W w : Nat}
theorem ck_hasw (v : Int32) (h : S.1 23 = nI W) (hW : W ≤ 60) : (zf_X4_has N z v S = some 0) ∨ ∃ k, k < W ∧ v = nI k ∧ zf_X4_has N z v S = some 1 := by
  unfold zf_X4_has
  rw [h]
  rcases mq_place v (t := W) (by omega) with q | ⟨k, hk, hv, q⟩
  · left
    by_cases e : v < 0
    · rw [if_pos e, mq_cz_0]
    · rw [if_neg e, if_pos (q.resolve_left e), mq_cz_0]
  · right
    exact ⟨k, hk, hv, by rw [if_neg (fun a => q (Or.inl a)), if_neg (fun a => q (Or.inr a)), mq_cz_1]⟩
theorem ck_seen (v u : Int32) (h : S.1 23 = nI W) (hW : W ≤ 60) : ∃ r : Int32, zf_X4_isSeen N z v u S = some r ∧ (r = 0 ∨ r = 1) := by
  unfold zf_X4_isSeen
  rcases ck_hasw (N := N) (z := z) v h hW with a | ⟨k, hk, e, a⟩
  · rw [a, mq_cp_s, if_pos rfl, mq_cz_0]; exact ⟨0, rfl, Or.inl rfl⟩
  · rw [a, mq_cp_s, if_neg (by decide)]
    rcases ck_hasw (N := N) (z := z) u h hW with b | ⟨k', hk', e', b⟩
    · rw [b, mq_cp_s, if_pos rfl, mq_cz_0]; exact ⟨0, rfl, Or.inl rfl⟩
    · rw [b, mq_cp_s, if_neg (by decide), e, mq_ck_of (vp_in_nI (by omega) (by omega)), mq_cz_0, mq_cz_1]
      by_cases c : (lg_cmp ((mq_lushr (S.2.2 7 (nI k).toNatClampNeg) u) &&& (1 : Int64)) (0 : Int64)) = (0 : Int32)
      · rw [if_pos c]; exact ⟨0, rfl, Or.inl rfl⟩
      · rw [if_neg c]; exact ⟨1, rfl, Or.inr rfl⟩
/-- the class's model, and nothing else -/
def frM (S S' : mq_St) : Prop := ag [22, 23, 24] [23, 24, 25, 26, 27] [7, 8, 9] S S'
theorem ck_size {l : Nat → Int64} (hN : 100 ≤ N) (hw : w < 60) : ∃ r, zf_X6_sizeOf N (fun k => [300].getD k 0) (nI w) (mq_pull S [] [] [3]) = some r := by
  unfold zf_X6_sizeOf
  rw [nI_e, nI_e]
  refine lp_v (F := fun fu a k => zf_X6_sizeOf_4 N (fun k => [300].getD k 0) (mq_pull S [] [] [3]) fu (nI w) a k) (n := 5) (fun fu a => ?_) (fun fu k a hk => ?_) N 0 0 (by omega) (by omega)
  · refine ⟨a, ?_⟩
    show zf_X6_sizeOf_4b N _ _ _ (nI w) a (nI 5) = _
    unfold zf_X6_sizeOf_4b
    rw [if_pos (by decide)]
  · right
    show ∃ a', zf_X6_sizeOf_4b N (fun k => [300].getD k 0) (mq_pull S [] [] [3]) (fun v1 v2 v3 => zf_X6_sizeOf_4 N (fun k => [300].getD k 0) (mq_pull S [] [] [3]) fu v1 v2 v3) (nI w) a (nI k) = _
    unfold zf_X6_sizeOf_4b
    rw [if_neg (show ¬ (5 : Int32) ≤ nI k from nI_ge (b := 5) hk (by omega)), se_bits (N := N) (R := 60) (z := fun k => [300].getD k 0) rfl (by omega) hw hk, mq_cp_s, bc_is, mq_cp_s, nI_e, nI_e, nI_1]
    exact ⟨_, rfl⟩
end SOME
end
/-! a5.take -/
section
/-! takeModel() ends. -/
/-- the reference's model, and nothing else -/
def frK (S S' : mq_St) : Prop := ag [] [34, 35, 36] [] S S'
section TAKE
variable {N n : Nat} {z : Nat → Nat} {so on tw : Nat → Int32} {d : Nat → Nat} {S S0 : mq_St} {W w u : Nat}
theorem e60 (a b : Nat) : (60 : Int32) * nI a + nI b = nI (60 * a + b) := by rw [show (60 : Int32) = nI 60 from rfl, pk_mul, nI_add]
end TAKE
end
/-! a6.lines -/
section
/-! prove(): the lines. -/
theorem ln_pl : ∀ r, r < 5 → ∀ f, f < 300 → mq_iushr ((nI r <<< ((16 : Int32) &&& 31)) ||| nI f) 16 &&& 255 = nI r &&& 255 ∧ mq_iushr ((nI r <<< ((16 : Int32) &&& 31)) ||| nI f) 8 &&& 255 = mq_iushr (nI f) 8 &&& 255 ∧ ((nI r <<< ((16 : Int32) &&& 31)) ||| nI f) &&& 255 = nI f &&& 255 := by decide +kernel
theorem ln_all {rows pr pn : Nat → Int32} {m : Nat} (h : ∀ i, i < m → ∃ r f, r < 5 ∧ f < 300 ∧ rows i = (nI r <<< ((16 : Int32) &&& 31)) ||| nI f ∧ pr i = nI r ∧ pn i = nI f) : ∀ i, i < 3 * m → pl_c rows i = pl_r pr pn i := fun i hi => by
  obtain ⟨r, f, hr, hf, e1, e2, e3⟩ := h (i / 3) (by omega)
  obtain ⟨a, b, c⟩ := ln_pl r hr f hf
  unfold pl_c pl_r
  rw [e1, e2, e3, a, b, c]
section LINES
variable {N : Nat} {z : Nat → Nat} {S : mq_St} {m : Nat}
theorem x3_cp (hN : 2000 ≤ N) (hm : m ≤ 1299) (h20 : S.1 20 = nI m) : ∃ a, zf_X3_copy N z (mq_pull S [25, 20] [28, 22] []) = some ((), mq_sa (mq_si (mq_pull S [25, 20] [28, 22] []) 0 (nI m)) 0 a) ∧ ∀ i, i < m → a i = S.2.1 22 i := by
  have loop : ∀ (fu k : Nat) (a : Nat → Int32), k ≤ m → m - k < fu → (∀ i, i < k → a i = S.2.1 22 i) → ∃ a', zf_X3_copy_10 N z fu (nI k) (mq_sa (mq_si (mq_pull S [25, 20] [28, 22] []) 0 (nI m)) 0 a) = some ((), mq_sa (mq_si (mq_pull S [25, 20] [28, 22] []) 0 (nI m)) 0 a') ∧ ∀ i, i < m → a' i = S.2.1 22 i := by
    intro fu
    induction fu with
    | zero => intro k a _ h; omega
    | succ fu ih =>
      intro k a hk hfu ha
      show ∃ a', zf_X3_copy_10b N z (fun v2 S => zf_X3_copy_10 N z fu v2 S) (nI k) _ = _ ∧ _
      unfold zf_X3_copy_10b
      have e0 : (mq_sa (mq_si (mq_pull S [25, 20] [28, 22] []) 0 (nI m)) 0 a).1 0 = nI m := rfl
      rw [e0]
      by_cases e : k = m
      · exact ⟨a, by rw [e, if_pos (nI_le (Nat.le_refl _) (by omega))], fun i hi => ha i (by omega)⟩
      · have hk' : k < m := by omega
        have c1 : (nI k).toNatClampNeg = k := nI_clamp (by omega)
        rw [if_neg (nI_ge hk' (by omega)), if_neg (show ¬ (1299 : Int32) ≤ nI k from nI_ge (b := 1299) (by omega) (by omega)), mq_ck_of (vp_in_nI (by omega) (by omega)), mq_ck_of (vp_in_nI (by omega) (by omega)), c1, nS_e, nI_e, nI_1, sa_sa]
        refine ih (k + 1) (upd a k (S.2.1 22 k)) (by omega) (by omega) (fun i hi => ?_)
        by_cases q : i = k
        · rw [q, up_s]
        · rw [up_o q]; exact ha i (by omega)
  obtain ⟨a, h1, h2⟩ := loop N 0 (S.2.1 28) (by omega) (by omega) (fun i hi => by omega)
  refine ⟨a, ?_, h2⟩
  unfold zf_X3_copy
  rw [show (mq_pull S [25, 20] [28, 22] []).1 1 = nI m from h20, nS_e, nI_e]
  have : mq_sa (mq_si (mq_pull S [25, 20] [28, 22] []) 0 (nI m)) 0 (S.2.1 28) = mq_si (mq_pull S [25, 20] [28, 22] []) 0 (nI m) := sa_i (mq_si (mq_pull S [25, 20] [28, 22] []) 0 (nI m)) 0
  rw [this] at h1
  exact h1
theorem x3_pu {v : Int32} {a : Nat → Int32} : mq_push S (mq_sa (mq_si (mq_pull S [25, 20] [28, 22] []) 0 v) 0 a) [25, 20] [28, 22] [] = mq_sa (mq_si S 25 v) 28 a := by
  refine Prod.ext ?_ (Prod.ext ?_ rfl)
  · funext q
    show (match [25, 20].idxOf? q with | some j => (mq_sa (mq_si (mq_pull S [25, 20] [28, 22] []) 0 v) 0 a).1 j | none => S.1 q) = if q = 25 then v else S.1 q
    by_cases ea : q = 25
    · rw [ea]; rfl
    · by_cases eb : q = 20
      · rw [eb]; rfl
      · rw [if_neg ea, List.idxOf?_eq_none_iff.mpr (by simp [ea, eb])]
  · funext q
    show (match [28, 22].idxOf? q with | some j => (mq_sa (mq_si (mq_pull S [25, 20] [28, 22] []) 0 v) 0 a).2.1 j | none => S.2.1 q) = if q = 28 then a else S.2.1 q
    by_cases ea : q = 28
    · rw [ea]; rfl
    · by_cases eb : q = 22
      · rw [eb]; rfl
      · rw [if_neg ea, List.idxOf?_eq_none_iff.mpr (by simp [ea, eb])]
theorem p80 (hm : m ≤ 1299) (h26 : S.1 26 = nI m) {v : Int32} : ∀ (fu k : Nat) (a b : Nat → Int32), k ≤ m → m - k < fu → (∀ i, i < k → a i = S.2.1 23 i ∧ b i = S.2.1 24 i) → ∃ a' b', zf_X11_prove_80 N z fu v (nI k) (mq_sa (mq_sa S 32 a) 33 b) = some (v, mq_sa (mq_sa S 32 a') 33 b') ∧ ∀ i, i < m → a' i = S.2.1 23 i ∧ b' i = S.2.1 24 i
  | 0, k, a, b, _, h, _ => by omega
  | fu + 1, k, a, b, hk, hfu, ha => by
    show ∃ a' b', zf_X11_prove_80b N z (fun v3 v4 S => zf_X11_prove_80 N z fu v3 v4 S) v (nI k) (mq_sa (mq_sa S 32 a) 33 b) = _ ∧ _
    unfold zf_X11_prove_80b
    rw [show (mq_sa (mq_sa S 32 a) 33 b).1 26 = nI m from h26]
    by_cases e : k = m
    · exact ⟨a, b, by rw [e, if_pos (nI_le (Nat.le_refl _) (by omega))], fun i hi => ha i (by omega)⟩
    · have hk' : k < m := by omega
      have c1 : (nI k).toNatClampNeg = k := nI_clamp (by omega)
      have i1 : vp_in (nI k) 1300 := vp_in_nI (by omega) (by omega)
      rw [if_neg (nI_ge hk' (by omega)), mq_ck_of i1, mq_ck_of i1, c1, nS_e, mq_ck_of i1, mq_ck_of i1, nS_e, nI_e, nI_1]
      obtain ⟨a', b', g1, g2⟩ := p80 hm h26 (v := v) fu (k + 1) (upd a k (S.2.1 23 k)) (upd b k (S.2.1 24 k)) (by omega) (by omega) (fun i hi => by
        by_cases q : i = k
        · rw [q, up_s, up_s]; exact ⟨rfl, rfl⟩
        · rw [up_o q, up_o q]; exact ha i (by omega))
      refine ⟨a', b', ?_, g2⟩
      refine Eq.trans (congrArg (zf_X11_prove_80 N z fu v (nI (k + 1))) ?_) g1
      refine Prod.ext rfl (Prod.ext ?_ rfl)
      funext q
      show (if q = 33 then _ else if q = 32 then _ else if q = 33 then _ else if q = 32 then _ else S.2.1 q) = if q = 33 then _ else if q = 32 then _ else S.2.1 q
      by_cases e1 : q = 33
      · rw [if_pos e1, if_pos e1]; rfl
      · rw [if_neg e1, if_neg e1, if_neg e1]
        by_cases e2 : q = 32
        · rw [if_pos e2, if_pos e2]; rfl
        · rw [if_neg e2, if_neg e2, if_neg e2]
end LINES
end
/-! a7.prove -/
section
/-! prove() on both sides. -/
def ivL (S : mq_St) : Prop := ∃ l, l ≤ 1299 ∧ S.1 20 = nI l
def mdC (S : mq_St) : Prop := (∃ W, W ≤ 60 ∧ S.1 23 = nI W) ∧ ∃ t, t ≤ 300 ∧ S.1 22 = nI t
def mdR (S : mq_St) : Prop := ∃ W, W ≤ 60 ∧ S.1 31 = nI W
def cn4 (SC SR : mq_St) : Prop := SC.2.1 21 0 = SR.1 19 ∧ SC.2.1 21 1 = SR.1 20 ∧ SC.2.1 21 2 = SR.1 21 ∧ SC.2.1 21 3 = SR.1 22
def fpC (S S' : mq_St) : Prop := ag [14, 15, 16, 17, 18, 19, 20, 22, 23, 24, 25] [16, 17, 18, 19, 20, 21, 22, 23, 24, 25, 26, 27, 28] [1, 2, 3, 4, 5, 7, 8, 9] S S'
def fpR (S S' : mq_St) : Prop := ag [0, 18, 19, 20, 21, 22, 23, 24, 25, 26, 27, 28, 29, 30, 31] [17, 18, 19, 20, 21, 22, 23, 24, 25, 26, 27, 28, 29, 30, 31, 32, 33, 34, 35, 36] [] S S'
def ivP (SC SR : mq_St) : Prop := iv_proof (SC.1 25) (SC.2.1 28) (SR.1 29) (SR.1 30) (SR.2.1 32) (SR.2.1 33)
section PROVE
variable {N : Nat} {z : Nat → Nat} {SC SR : mq_St}
theorem ivF_cx (h : ivF SC SR) : ∃ n so on tw d, cxC SC n so on tw d ∧ cxR SR n so on tw d ∧ ∀ s, s < 8 → SC.2.1 0 s = SR.2.1 5 s ∧ SC.2.1 1 s = SR.2.1 6 s ∧ ((SC.2.1 0 s = -1 ∧ SC.2.1 1 s = -1) ∨ ∃ f g, f < n ∧ g < n ∧ SC.2.1 0 s = nI f ∧ SC.2.1 1 s = nI g) := by
  obtain ⟨L, h1, h2, h3, f1, f2, f3, f4, f5⟩ := ivF_fs h
  have h2n := f3.1
  refine ⟨L.length, SR.2.1 2, SR.2.1 3, SR.2.1 4, dd L, ⟨f1, f4, fun s f hs hf => ?_, f3⟩, ⟨f2, fun f _ => ⟨rfl, rfl, rfl⟩, ?_, f3⟩, fun s hs => ?_⟩
  · rw [h2.2.2.2.1 s f hs hf, decide_eq_decide]
    exact ⟨fun q => ⟨q.1, (f4 f q.1).1.symm.trans q.2⟩, fun q => ⟨q.1, (f4 f q.1).1.trans q.2⟩⟩
  · have a := h3.2.2 0 (by omega)
    have b := h3.2.2 1 (by omega)
    rw [h1.1.1] at a
    rw [h1.1.2] at b
    have a' := Option.some.inj a
    have b' := Option.some.inj b
    exact ⟨(congrArg (fun q => q.1) a').symm, (congrArg (fun q => q.1) b').symm⟩
  · obtain ⟨a, b, c⟩ := f5 s hs
    refine ⟨a, b, c.imp id (fun ⟨f, c1, c2, c3⟩ => ⟨f, dd L f, c1, f3.2.2.2.1 f c1, c2, c3⟩)⟩
theorem pu_4 {S : mq_St} {m : Nat} (h : S.1 25 = nI m) (hm : m ≤ 1299) : ∃ X, zf_X3_shorten N z 0 (mq_pull S [25] [28] []) = some ((), X) ∧ mq_push S X [25] [28] [] = mq_si S 25 (nI 0) := by
  unfold zf_X3_shorten
  rw [if_neg (by decide), show (mq_pull S [25] [28] []).1 0 = nI m from h]
  by_cases e : m = 0
  · subst e
    rw [if_pos (by decide)]
    refine ⟨_, rfl, ?_⟩
    rw [pu_0, si_id h]
  · rw [if_neg (show ¬ nI m ≤ (0 : Int32) from nI_ge (show 0 < m by omega) (by omega)), nS_e]
    refine ⟨_, rfl, ?_⟩
    rw [pu_2]
    rfl
end PROVE
end
/-! a8.model -/
section
/-! The class's model: sees() and world() end. -/
section MODEL
variable {N n : Nat} {z : Nat → Nat} {so on tw : Nat → Int32} {d : Nat → Nat} {S : mq_St} {W w : Nat}
theorem ck_mut (v u : Int32) (h : S.1 23 = nI W) (hW : W ≤ 60) : ∃ r : Int32, zf_X4_isMutual N z v u S = some r := by
  obtain ⟨r, c1, c2⟩ := ck_seen (N := N) (z := z) v u h hW
  obtain ⟨q, d1, d2⟩ := ck_seen (N := N) (z := z) u v h hW
  unfold zf_X4_isMutual
  rw [c1, mq_cp_s, d1, mq_cp_s, mq_cz_0, mq_cz_1]
  by_cases e : r = 0
  · rw [if_pos e]; exact ⟨_, rfl⟩
  · rw [if_neg e]
    by_cases e' : q = 0
    · rw [if_pos e']; exact ⟨_, rfl⟩
    · rw [if_neg e']; exact ⟨_, rfl⟩
theorem ck_lcl (hN : 100 ≤ N) (h : S.1 23 = nI W) (hW : W ≤ 60) (hw : w < W) : ∃ r : Int32, zf_X4_isLeastOfCluster N z (nI w) S = some r := by
  unfold zf_X4_isLeastOfCluster
  rw [nI_e]
  refine lp_v (F := fun fu (_ : Unit) k => zf_X4_isLeastOfCluster_2 N z S fu (nI w) k) (n := w) (fun fu a => ?_) (fun fu k a hk => ?_) N 0 () (by omega) (by omega)
  · show ∃ r, zf_X4_isLeastOfCluster_2b N z S _ (nI w) (nI w) = some r
    unfold zf_X4_isLeastOfCluster_2b
    rw [if_pos (nI_le (Nat.le_refl _) (by omega)), mq_cz_1]
    exact ⟨_, rfl⟩
  · show (∃ r, zf_X4_isLeastOfCluster_2b N z S (fun v1 v2 => zf_X4_isLeastOfCluster_2 N z S fu v1 v2) (nI w) (nI k) = some r) ∨ ∃ a' : Unit, zf_X4_isLeastOfCluster_2b N z S (fun v1 v2 => zf_X4_isLeastOfCluster_2 N z S fu v1 v2) (nI w) (nI k) = _
    obtain ⟨r, c⟩ := ck_mut (N := N) (z := z) (nI k) (nI w) h hW
    unfold zf_X4_isLeastOfCluster_2b
    rw [if_neg (nI_ge hk (by omega)), c, mq_cp_s, mq_cz_0, nI_e, nI_1]
    by_cases e : r = 0
    · right; rw [if_pos e]; exact ⟨(), rfl⟩
    · left; rw [if_neg e]; exact ⟨_, rfl⟩
theorem ck_clu (hN : 100 ≤ N) (h : S.1 23 = nI W) (hW : W ≤ 60) (hw : w < W) : ∃ r : Int32, zf_X4_clusterOf N z (nI w) S = some r := by
  unfold zf_X4_clusterOf
  rw [nI_e, nI_e]
  refine lp_v (F := fun fu a k => zf_X4_clusterOf_4 N z S fu (nI w) a k) (n := w) (fun fu a => ?_) (fun fu k a hk => ?_) N 0 0 (by omega) (by omega)
  · show ∃ r, zf_X4_clusterOf_4b N z S _ (nI w) a (nI w) = some r
    unfold zf_X4_clusterOf_4b
    rw [if_pos (nI_le (Nat.le_refl _) (by omega))]
    exact ⟨_, rfl⟩
  · show (∃ r, zf_X4_clusterOf_4b N z S (fun v1 v2 v3 => zf_X4_clusterOf_4 N z S fu v1 v2 v3) (nI w) a (nI k) = some r) ∨ ∃ a', zf_X4_clusterOf_4b N z S (fun v1 v2 v3 => zf_X4_clusterOf_4 N z S fu v1 v2 v3) (nI w) a (nI k) = _
    obtain ⟨r, c⟩ := ck_mut (N := N) (z := z) (nI k) (nI w) h hW
    obtain ⟨q, e⟩ := ck_lcl (N := N) (z := z) hN h hW (show k < W by omega)
    unfold zf_X4_clusterOf_4b zf_X4_clusterOf_32
    rw [if_neg (nI_ge hk (by omega)), c, mq_cp_s, e, mq_cp_s, nI_e, nI_e, nI_e, nI_e, nI_1]
    by_cases e1 : r = 0
    · right
      rw [if_pos e1]
      by_cases e2 : q = 0
      · rw [if_pos e2]; exact ⟨_, rfl⟩
      · rw [if_neg e2]; exact ⟨_, rfl⟩
    · left; rw [if_neg e1]; exact ⟨_, rfl⟩
theorem ck_cls (hN : 100 ≤ N) (h : S.1 23 = nI W) (hW : W ≤ 60) (hw : w < W) : ∃ r : Int32, zf_X4_clusterSizeOf N z (nI w) S = some r := by
  unfold zf_X4_clusterSizeOf
  rw [nI_e, nI_e]
  refine lp_v (F := fun fu a k => zf_X4_clusterSizeOf_4 N z S fu (nI w) a k) (n := W) (fun fu a => ?_) (fun fu k a hk => ?_) N 0 0 (by omega) (by omega)
  · show ∃ r, zf_X4_clusterSizeOf_4b N z S _ (nI w) a (nI W) = some r
    unfold zf_X4_clusterSizeOf_4b
    rw [h, if_pos (nI_le (Nat.le_refl _) (by omega))]
    exact ⟨_, rfl⟩
  · right
    show ∃ a', zf_X4_clusterSizeOf_4b N z S (fun v1 v2 v3 => zf_X4_clusterSizeOf_4 N z S fu v1 v2 v3) (nI w) a (nI k) = _
    obtain ⟨r, c⟩ := ck_mut (N := N) (z := z) (nI k) (nI w) h hW
    unfold zf_X4_clusterSizeOf_4b zf_X4_clusterSizeOf_27
    rw [h, if_neg (nI_ge hk (by omega)), c, mq_cp_s, nI_e, nI_e, nI_e, nI_e, nI_1]
    by_cases e1 : r = 0
    · rw [if_pos e1]; exact ⟨_, rfl⟩
    · rw [if_neg e1]; exact ⟨_, rfl⟩
theorem ck_world (v u : Int32) (hN : 100 ≤ N) (h : S.1 23 = nI W) (hW : W ≤ 60) : ∃ r, zf_X10_world N z v u S = some (r, S) := by
  unfold zf_X10_world
  by_cases a : u < 0
  · rw [if_pos a]; exact ⟨_, rfl⟩
  · rw [if_neg a]
    by_cases b : u ≤ 3
    · rw [if_pos b]
      rcases ck_hasw (N := N) (z := z) v h hW with c | ⟨k, hk, e, c⟩
      · rw [c, mq_cp_s, if_pos rfl]; exact ⟨_, rfl⟩
      · obtain ⟨r0, t0⟩ := ck_clu (N := N) (z := z) hN h hW hk
        obtain ⟨r1, t1⟩ := ck_cls (N := N) (z := z) hN h hW hk
        have t2 : ∃ r, zf_X4_seenFrom N z (nI k) S = some r := by
          unfold zf_X4_seenFrom
          rw [← e, c, mq_cp_s, if_neg (by decide), e, mq_ck_of (vp_in_nI (by omega) (by omega)), bc_is, mq_cp_s]
          exact ⟨_, rfl⟩
        have t3 : ∃ r, zf_X4_setSizeOf N z (nI k) S = some r := by
          unfold zf_X4_setSizeOf
          rw [← e, c, mq_cp_s, if_neg (by decide), e, mq_ck_of (vp_in_nI (by omega) (by omega))]
          by_cases q : S.1 24 = 0
          · rw [if_pos q]; exact ⟨_, rfl⟩
          · rw [if_neg q]; exact ⟨_, rfl⟩
        obtain ⟨r2, t2⟩ := t2
        obtain ⟨r3, t3⟩ := t3
        rw [c, mq_cp_s, if_neg (by decide), e, t0, t1, t2, t3, mq_cp_s, mq_cp_s, mq_cp_s, mq_cp_s]
        by_cases u0 : u = 0
        · rw [if_pos u0]; exact ⟨_, rfl⟩
        · rw [if_neg u0]
          by_cases u1 : u = 1
          · rw [if_pos u1]; exact ⟨_, rfl⟩
          · rw [if_neg u1]
            by_cases u2 : u = 2
            · rw [if_pos u2]; exact ⟨_, rfl⟩
            · rw [if_neg u2]; exact ⟨_, rfl⟩
    · rw [if_neg b]; exact ⟨_, rfl⟩
end MODEL
end
/-! a9.holds -/
section
/-! The class's model: holds() ends. -/
section HOLDS
variable {N n : Nat} {z : Nat → Nat} {so on tw : Nat → Int32} {d : Nat → Nat} {S S0 : mq_St} {W w t f : Nat}
theorem ck_truth (v : Int32) (h : S.1 22 = nI t) (ht : t ≤ 300) : ∃ r, zf_X4_truthOf N z v S = some r := by
  unfold zf_X4_truthOf
  rw [h]
  rcases mq_place v (t := t) (by omega) with q | ⟨k, hk, hv, q⟩
  · by_cases e : v < 0
    · rw [if_pos e]; exact ⟨_, rfl⟩
    · rw [if_neg e, if_pos (q.resolve_left e)]; exact ⟨_, rfl⟩
  · rw [if_neg (fun a => q (Or.inl a)), if_neg (fun a => q (Or.inr a)), hv, mq_ck_of (vp_in_nI (by omega) (by omega))]
    exact ⟨_, rfl⟩
theorem ck_wol (v : Int32) (hN : 100 ≤ N) (h : S.1 23 = nI W) (hW : W ≤ 60) : ∃ r, zf_X4_worldsOfLetter N z v S = some r := by
  unfold zf_X4_worldsOfLetter
  rw [nL_e, nI_e]
  refine lp_v (F := fun fu a k => zf_X4_worldsOfLetter_5 N z S fu v a k) (n := W) (fun fu a => ?_) (fun fu k a hk => ?_) N 0 0 (by omega) (by omega)
  · show ∃ r, zf_X4_worldsOfLetter_5b N z S _ v a (nI W) = some r
    unfold zf_X4_worldsOfLetter_5b
    rw [h, if_pos (nI_le (Nat.le_refl _) (by omega))]
    exact ⟨_, rfl⟩
  · right
    show ∃ a', zf_X4_worldsOfLetter_5b N z S (fun v1 v2 v4 => zf_X4_worldsOfLetter_5 N z S fu v1 v2 v4) v a (nI k) = _
    unfold zf_X4_worldsOfLetter_5b
    rw [h, if_neg (nI_ge hk (by omega)), mq_ck_of (vp_in_nI (by omega) (by omega)), nL_e, nI_e, nI_1]
    exact ⟨_, rfl⟩
theorem ck_wos (v : Int64) (hN : 100 ≤ N) (h : S.1 23 = nI W) (hW : W ≤ 60) : ∃ r, zf_X4_worldsSeeing N z v S = some r := by
  unfold zf_X4_worldsSeeing
  rw [nL_e, nI_e]
  refine lp_v (F := fun fu a k => zf_X4_worldsSeeing_5 N z S fu v a k) (n := W) (fun fu a => ?_) (fun fu k a hk => ?_) N 0 0 (by omega) (by omega)
  · show ∃ r, zf_X4_worldsSeeing_5b N z S _ v a (nI W) = some r
    unfold zf_X4_worldsSeeing_5b
    rw [h, if_pos (nI_le (Nat.le_refl _) (by omega))]
    exact ⟨_, rfl⟩
  · right
    show ∃ a', zf_X4_worldsSeeing_5b N z S (fun v1 v3 v5 => zf_X4_worldsSeeing_5 N z S fu v1 v3 v5) v a (nI k) = _
    unfold zf_X4_worldsSeeing_5b zf_X4_worldsSeeing_35
    rw [h, if_neg (nI_ge hk (by omega)), mq_ck_of (vp_in_nI (by omega) (by omega)), nL_e, nI_e, nI_e, nI_1]
    by_cases e : lg_cmp ((S.2.2 7 (nI k).toNatClampNeg) &&& v) (0 : Int64) = 0
    · rw [if_pos e]; exact ⟨_, rfl⟩
    · rw [if_neg e]; exact ⟨_, rfl⟩
theorem ck_wof (hN : 100 ≤ N) (hc : cxC S n so on tw d) (h : S.1 23 = nI W) (hW : W ≤ 60) (h22 : S.1 22 = nI t) (ht : t ≤ 300) (hf : f < n) : ∃ r, zf_X4_worldsOf N z (nI f) S = some r := by
  have h300 := hc.2.2.2.2.1
  have i := ck_in (N := N) (z := z) hc.1 h300 hf
  obtain ⟨r1, t1⟩ := ck_truth (N := N) (z := z) (S.2.1 5 f) h22 ht
  obtain ⟨r2, t2⟩ := ck_truth (N := N) (z := z) (S.2.1 6 f) h22 ht
  obtain ⟨r3, t3⟩ := ck_wol (N := N) (z := z) (S.2.1 5 f) hN h hW
  obtain ⟨r4, t4⟩ := ck_wos (N := N) (z := z) r1 hN h hW
  obtain ⟨r5, t5⟩ := ck_wos (N := N) (z := z) ((mq_lshl (1 : Int64) (S.1 23) - 1) &&& (r1 ^^^ (-1 : Int64))) hN h hW
  unfold zf_X4_worldsOf
  rw [i.2.1, mq_cp_s, t1, mq_cp_s, nL_e, nL_e, i.1, mq_cp_s, mq_cp_s, mq_cp_s, i.2.2.1, mq_cp_s, mq_cp_s, t2, t3, t4, t5]
  simp only [mq_cp_s]
  repeat' split
  all_goals exact ⟨_, rfl⟩
theorem ck_41 (v : Int32) (u : Int32) (h : S.1 23 = nI W) (hW : W ≤ 60) (h22 : S.1 22 = nI t) (ht : t ≤ 300) : ∃ r : Int32, (r = 0 ∨ r = 1) ∧ zf_X4_isTrueAt_41 N z v u S = some (r, S) := by
  obtain ⟨r, e⟩ := ck_truth (N := N) (z := z) u h22 ht
  unfold zf_X4_isTrueAt_41
  rw [e, mq_cp_s, mq_cz_0, mq_cz_1]
  rcases ck_hasw (N := N) (z := z) v h hW with a | ⟨k, hk, e, a⟩
  · rw [a, mq_cp_s, if_pos rfl]; exact ⟨0, Or.inl rfl, rfl⟩
  · rw [a, mq_cp_s, if_neg (by decide)]
    by_cases q : (lg_cmp ((mq_lushr r v) &&& (1 : Int64)) (0 : Int64)) = (0 : Int32)
    · rw [if_pos q]; exact ⟨0, Or.inl rfl, rfl⟩
    · rw [if_neg q]; exact ⟨1, Or.inr rfl, rfl⟩
end HOLDS
end
/-! aa.cut -/
section
/-! The class's model: cut() ends. -/
section CUT
variable {N n : Nat} {z : Nat → Nat} {S S0 : mq_St} {W w t : Nat}
end CUT
end
/-! ab.fold -/
section
/-! The class's model: fold() ends. -/
section FOLD
variable {N n : Nat} {z : Nat → Nat} {S S0 : mq_St} {W w t : Nat}
end FOLD
end
