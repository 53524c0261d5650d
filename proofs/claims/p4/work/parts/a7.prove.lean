/-! prove() on both sides. -/
def ivL (S : mq_St) : Prop := ∃ l, l ≤ 1299 ∧ S.1 20 = nI l
def mdC (S : mq_St) : Prop := (∃ W, W ≤ 60 ∧ S.1 23 = nI W) ∧ ∃ t, t ≤ 300 ∧ S.1 22 = nI t
def mdR (S : mq_St) : Prop := ∃ W, W ≤ 60 ∧ S.1 31 = nI W
def cn4 (SC SR : mq_St) : Prop := SC.2.1 21 0 = SR.1 19 ∧ SC.2.1 21 1 = SR.1 20 ∧ SC.2.1 21 2 = SR.1 21 ∧ SC.2.1 21 3 = SR.1 22
def fpC (S S' : mq_St) : Prop := ag [14, 15, 16, 17, 18, 19, 20, 22, 23, 24, 25] [16, 17, 18, 19, 20, 21, 22, 23, 24, 25, 26, 27, 28] [1, 2, 3, 4, 5, 7, 8, 9] S S'
def fpR (S S' : mq_St) : Prop := ag [0, 18, 19, 20, 21, 22, 23, 24, 25, 26, 27, 28, 29, 30, 31] [17, 18, 19, 20, 21, 22, 23, 24, 25, 26, 27, 28, 29, 30, 31, 32, 33, 34, 35, 36] [] S S'
def ivP (SC SR : mq_St) : Prop := iv_proof (SC.1 25) (SC.2.1 28) (SR.1 29) (SR.1 30) (SR.2.1 32) (SR.2.1 33)
section PROVE
variable {N : Nat} {z : Nat → Nat} {SC SR : mq_St}
theorem ivF_cx (h : ivF SC SR) : ∃ n so on tw d, cxC SC n so on tw d ∧ cxR SR n so on tw d ∧ ∀ s, s < 8 → SC.2.1 0 s = SR.2.1 5 s ∧ SC.2.1 1 s = SR.2.1 6 s ∧ ((SC.2.1 0 s = -1 ∧ SC.2.1 1 s = -1) ∨ ∃ f g, f < n ∧ g < n ∧ SC.2.1 0 s = nI f ∧ SC.2.1 1 s = nI g) := by
  obtain ⟨L, h1, h2, h3, f1, f2, f3, f4, f5⟩ := ivF_fs h
  have h2n := f3.1
  refine ⟨L.length, SR.2.1 2, SR.2.1 3, SR.2.1 4, dd L, ⟨f1, f4, fun s f hs hf => ?_, f3⟩, ⟨f2, fun f _ => ⟨rfl, rfl, rfl⟩, ?_, f3⟩, fun s hs => ?_⟩
  · rw [h2.2.2.2.1 s f hs hf, decide_eq_decide]
    exact ⟨fun q => ⟨q.1, (f4 f q.1).1.symm.trans q.2⟩, fun q => ⟨q.1, (f4 f q.1).1.trans q.2⟩⟩
  · have a := h3.2.2 0 (by omega)
    have b := h3.2.2 1 (by omega)
    rw [h1.1.1] at a
    rw [h1.1.2] at b
    have a' := Option.some.inj a
    have b' := Option.some.inj b
    exact ⟨(congrArg (fun q => q.1) a').symm, (congrArg (fun q => q.1) b').symm⟩
  · obtain ⟨a, b, c⟩ := f5 s hs
    refine ⟨a, b, c.imp id (fun ⟨f, c1, c2, c3⟩ => ⟨f, dd L f, c1, f3.2.2.2.1 f c1, c2, c3⟩)⟩
theorem pu_4 {S : mq_St} {m : Nat} (h : S.1 25 = nI m) (hm : m ≤ 1299) : ∃ X, zf_X3_shorten N z 0 (mq_pull S [25] [28] []) = some ((), X) ∧ mq_push S X [25] [28] [] = mq_si S 25 (nI 0) := by
  unfold zf_X3_shorten
  rw [if_neg (by decide), show (mq_pull S [25] [28] []).1 0 = nI m from h]
  by_cases e : m = 0
  · subst e
    rw [if_pos (by decide)]
    refine ⟨_, rfl, ?_⟩
    rw [pu_0, si_id h]
  · rw [if_neg (show ¬ nI m ≤ (0 : Int32) from nI_ge (show 0 < m by omega) (by omega)), nS_e]
    refine ⟨_, rfl, ?_⟩
    rw [pu_2]
    rfl
theorem st_prove (v1 v2 : Int32) (hN : 300000 ≤ N) (hF : ivF SC SR) (hp : ivP SC SR) (hl : ivL SC) (hmC : mdC SC) (hmR : mdR SR) (hcn : cn4 SC SR) :
    ∃ r SC' SR', zf_X10_prove N z v1 v2 SC = some (r, SC') ∧ zf_X11_prove N z v1 v2 SR = some (r, SR') ∧ ivP SC' SR' ∧ ivL SC' ∧ mdC SC' ∧ mdR SR' ∧ cn4 SC' SR' ∧ fpC SC SC' ∧ fpR SR SR' := by
  obtain ⟨n, so, on, tw, d, hc, hx, hs⟩ := ivF_cx hF
  have no : ∀ x, x = SC → True := fun _ _ => trivial
  have quit : zf_X10_prove N z v1 v2 SC = some (-1, SC) → zf_X11_prove N z v1 v2 SR = some (-1, mq_si SR 0 0) → ∃ r SC' SR', zf_X10_prove N z v1 v2 SC = some (r, SC') ∧ zf_X11_prove N z v1 v2 SR = some (r, SR') ∧ ivP SC' SR' ∧ ivL SC' ∧ mdC SC' ∧ mdR SR' ∧ cn4 SC' SR' ∧ fpC SC SC' ∧ fpR SR SR' := fun a b => ⟨-1, SC, mq_si SR 0 0, a, b, hp, hl, hmC, hmR, hcn, ag_rf, ag_si (by decide)⟩
  have fil : zf_X10_isFilled N z v1 SC = mq_cp (some (if v1 < 0 ∨ 8 ≤ v1 then (0 : Int32) else 1)) (fun q1 => (if q1 = (0 : Int32) then (mq_cz ((0 : Int32)) (some ((0 : Int32)))) else (mq_ck (v1) 8 (if (SC.2.1 1 (v1).toNatClampNeg) = (-1 : Int32) then (mq_cz ((0 : Int32)) (some ((0 : Int32)))) else (mq_cz ((1 : Int32)) (some ((1 : Int32)))))))) := by
    unfold zf_X10_isFilled
    rw [ck_isSlot]
  rcases mq_place v1 (t := 8) (by omega) with out | ⟨j, hj, hv, inn⟩
  · have out8 : v1 < 0 ∨ (8 : Int32) ≤ v1 := out
    have out' : v1 < 0 ∨ 7 < v1 := (mq_lst 8 (by omega) v1).mpr out
    apply quit
    · have : zf_X10_isFilled N z v1 SC = some 0 := by
        rw [fil, mq_cp_s, if_pos out8, if_pos rfl, mq_cz_0]
      unfold zf_X10_prove
      refine (cp_go this).trans ?_
      rw [if_pos rfl]
    · unfold zf_X11_prove
      rw [nS_e]
      refine (cp_go (rf_in v1 0 7)).trans ?_
      rw [if_pos out', if_pos rfl]
  · have inn8 : ¬ (v1 < 0 ∨ (8 : Int32) ≤ v1) := inn
    have inn' : ¬ (v1 < 0 ∨ 7 < v1) := fun q => inn ((mq_lst 8 (by omega) v1).mp q)
    have i1 : vp_in v1 8 := by rw [hv]; exact vp_in_nI hj (by omega)
    have c1 : v1.toNatClampNeg = j := by rw [hv]; exact nI_clamp (by omega)
    obtain ⟨s1, s2, s3⟩ := hs j hj
    have preR : zf_X11_prove N z v1 v2 SR = (if (SR.2.1 5 j) = (-1 : Int32) then (some ((-1 : Int32), mq_si SR 0 0)) else (mq_cp (zf_X11_in N z (v2) ((1 : Int32)) ((100000 : Int32)) (mq_pull (mq_si SR 0 0) [] [] [])) (fun q5 => (if q5 = (0 : Int32) then (some ((-1 : Int32), mq_si SR 0 0)) else (mq_nS (mq_si (mq_si SR 0 0) 18 (v2)) (fun S7 => (mq_ck (v1) 8 (mq_cl (zf_X11_tableau N z ((S7.2.1 6 (v1).toNatClampNeg)) S7) (fun q9v S11 => (mq_nI (q9v) (fun x12 => (if x12 = (1 : Int32) then (mq_cz ((1 : Int32)) (mq_nS (mq_si S11 29 ((1 : Int32))) (fun S19 => (mq_nS (mq_si S19 31 ((0 : Int32))) (fun S21 => (mq_nS (mq_si S21 30 ((S21.1 26))) (fun S22 => (mq_nI ((0 : Int32)) (fun x23 => (zf_X11_prove_80 N z N (x12) (x23) S22)))))))))) else (if x12 = (0 : Int32) then (mq_cz ((0 : Int32)) (mq_nS (mq_si S11 29 ((0 : Int32))) (fun S13 => (mq_cl (zf_X11_takeModel N z S13) (fun q15v S17 => (some (x12, S17))))))) else (some (x12, S11))))))))))))))) := by
      unfold zf_X11_prove
      rw [nS_e]
      refine (cp_go (rf_in v1 0 7)).trans ?_
      rw [if_neg inn', if_neg (by decide), mq_ck_of i1, c1]
      rfl
    rcases s3 with ⟨s3, s4⟩ | ⟨f, g, hf, hg, s3, s4⟩
    · apply quit
      · have : zf_X10_isFilled N z v1 SC = some 0 := by
          rw [fil, mq_cp_s, if_neg inn8, if_neg (by decide), mq_ck_of i1, c1, s4, if_pos rfl, mq_cz_0]
        unfold zf_X10_prove
        refine (cp_go this).trans ?_
        rw [if_pos rfl]
      · rw [preR, ← s1, s3, if_pos rfl]
    · have h300 := hc.2.2.2.2.1
      have filled : zf_X10_isFilled N z v1 SC = some 1 := by
        rw [fil, mq_cp_s, if_neg inn8, if_neg (by decide), mq_ck_of i1, c1, s4, if_neg (nI_nm (by omega)), mq_cz_1]
      by_cases a : v2 < 1
      · apply quit
        · unfold zf_X10_prove
          refine (cp_go filled).trans ?_
          rw [if_neg (by decide), if_pos a]
        · rw [preR, ← s1, s3, if_neg (nI_nm (by omega))]
          refine (cp_go (rf_in v2 1 100000)).trans ?_
          rw [if_pos (Or.inl a), if_pos rfl]
      · by_cases b : v2 ≤ 100000
        · have b' : ¬ (v2 < 1 ∨ 100000 < v2) := fun q => q.elim a (fun q => absurd b (Int32.not_le.mpr q))
          obtain ⟨F, hF1, hF2⟩ : ∃ F, F ≤ 100000 ∧ v2 = nI F := by
            rcases pk_ix v2 (n := 100001) (by omega) with q | q | ⟨F, q1, q2⟩
            · exact absurd (Int32.lt_trans q (by decide : (0 : Int32) < 1)) a
            · exact absurd (Int32.le_trans q b) (by decide)
            · exact ⟨F, by omega, q2⟩
          obtain ⟨l, hl1, hl2⟩ := hl
          obtain ⟨v, S1, S2, t1, t2, ⟨u1, u2, u3, u4⟩, t4, t5⟩ := st_tab (N := N) (z := z) (SC := SC) (SR := mq_si SR 0 0) (no := g) (F := F) hN hc (cxR_c hx rfl rfl rfl rfl) hl2 hl1 hg hF1
          have pC : zf_X10_prove N z v1 v2 SC = (if v = (1 : Int32) then (mq_cp (zf_X8_lines N z S1) (fun q15 => (mq_cl (zf_X3_copy N z (mq_pull S1 [25, 20] [28, 22] [])) (fun q17v q17s => mq_nS (mq_push S1 q17s [25, 20] [28, 22] []) (fun S19 => (mq_cl (zf_X4_clear N z S19) (fun q20v S22 => (some (v, S22))))))))) else (if v = (0 : Int32) then (mq_cl (zf_X3_shorten N z ((0 : Int32)) (mq_pull S1 [25] [28] [])) (fun q8v q8s => mq_nS (mq_push S1 q8s [25] [28] []) (fun S10 => (mq_cl (zf_X8_fillModel N z S10) (fun q11v S13 => (some (v, S13))))))) else (some (v, S1)))) := by
            unfold zf_X10_prove
            refine (cp_go filled).trans ?_
            rw [if_neg (by decide), if_neg a, if_pos b, mq_ck_of i1, c1, s4, hF2]
            refine (cl_go t1).trans ?_
            rw [nI_e]
          have pR : zf_X11_prove N z v1 v2 SR = (if v = (1 : Int32) then (mq_cz ((1 : Int32)) (mq_nS (mq_si S2 29 ((1 : Int32))) (fun S19 => (mq_nS (mq_si S19 31 ((0 : Int32))) (fun S21 => (mq_nS (mq_si S21 30 ((S21.1 26))) (fun S22 => (mq_nI ((0 : Int32)) (fun x23 => (zf_X11_prove_80 N z N (v) (x23) S22)))))))))) else (if v = (0 : Int32) then (mq_cz ((0 : Int32)) (mq_nS (mq_si S2 29 ((0 : Int32))) (fun S13 => (mq_cl (zf_X11_takeModel N z S13) (fun q15v S17 => (some (v, S17))))))) else (some (v, S2)))) := by
            rw [preR, ← s1, s3, if_neg (nI_nm (by omega))]
            refine (cp_go (rf_in v2 1 100000)).trans ?_
            rw [if_neg b', if_neg (by decide), nS_e, mq_ck_of i1, c1, show (mq_si (mq_si SR 0 0) 18 v2).2.1 6 j = nI g from s2.symm.trans s4, hF2]
            refine (cl_go t2).trans ?_
            rw [nI_e]
          have fC : fpC SC S1 := ag_mono t4 (by decide) (by decide) (by decide)
          have fR : fpR SR S2 := ag_tr (ag_si (by decide)) (ag_mono t5 (by decide) (by decide) (by decide))
          have cn : cn4 S1 S2 := ⟨u1, u2⟩
          obtain ⟨⟨Wm, hW1, hW2⟩, tm, ht1, ht2⟩ := hmC
          obtain ⟨Wr, hr1, hr2⟩ := hmR
          have mC : mdC S1 := ⟨⟨Wm, hW1, (t4.1 23 (by decide)).trans hW2⟩, tm, ht1, (t4.1 22 (by decide)).trans ht2⟩
          have mR : mdR S2 := ⟨Wr, hr1, (t5.1 31 (by decide)).trans hr2⟩
          have ivp : ivP S1 S2 := by
            unfold ivP
            rw [t4.1 25 (by decide), t4.2.1 28 (by decide), t5.1 29 (by decide), t5.1 30 (by decide), t5.2.1 32 (by decide), t5.2.1 33 (by decide)]
            exact hp
          have other : ¬ v = 1 → ¬ v = 0 → ∃ r SC' SR', zf_X10_prove N z v1 v2 SC = some (r, SC') ∧ zf_X11_prove N z v1 v2 SR = some (r, SR') ∧ ivP SC' SR' ∧ ivL SC' ∧ mdC SC' ∧ mdR SR' ∧ cn4 SC' SR' ∧ fpC SC SC' ∧ fpR SR SR' := fun h1 h0 => ⟨v, S1, S2, by rw [pC, if_neg h1, if_neg h0], by rw [pR, if_neg h1, if_neg h0], ivp, u3, mC, mR, cn, fC, fR⟩
          rcases u4 with e | e | ⟨e, ln, w1, w2, w3, w4, w5⟩ | ⟨e, W, w1, w2, w3, w4, w5, w6⟩
          · exact other (by rw [e]; decide) (by rw [e]; decide)
          · exact other (by rw [e]; decide) (by rw [e]; decide)
          · subst e
            obtain ⟨aa, x1, x2⟩ := x3_cp (N := N) (z := z) (S := S1) (by omega) w2 w3
            obtain ⟨pa, pb, y1, y2⟩ := p80 (N := N) (z := z) (S := mq_si (mq_si (mq_si S2 29 1) 31 0) 30 (nI ln)) (v := 1) w2 w4 N 0 (S2.2.1 32) (S2.2.1 33) (by omega) (by omega) (fun i hi => by omega)
            refine ⟨1, mq_si (mq_si (mq_si (mq_sa (mq_si S1 25 (nI ln)) 28 aa) 23 0) 22 0) 24 0, mq_sa (mq_sa (mq_si (mq_si (mq_si S2 29 1) 31 0) 30 (nI ln)) 32 pa) 33 pb, ?_, ?_, ⟨ln, w2, rfl, Or.inr ⟨w1, rfl, rfl⟩, ln_all (fun i hi => ?_)⟩, u3, ⟨⟨0, by omega, rfl⟩, 0, by omega, rfl⟩, ⟨0, by omega, rfl⟩, cn, ag_tr fC (ag_tr (ag_tr (ag_tr (ag_tr (ag_si (by decide)) (ag_sa (by decide))) (ag_si (by decide))) (ag_si (by decide))) (ag_si (by decide))), ag_tr fR (ag_tr (ag_tr (ag_tr (ag_tr (ag_si (by decide)) (ag_si (by decide))) (ag_si (by decide))) (ag_sa (by decide))) (ag_sa (by decide)))⟩
            · rw [pC, if_pos rfl]
              refine (cp_go (v := ()) rfl).trans ?_
              refine (cl_go x1).trans ?_
              rw [x3_pu, nS_e]
              have : zf_X4_clear N z (mq_sa (mq_si S1 25 (nI ln)) 28 aa) = some ((), mq_si (mq_si (mq_si (mq_sa (mq_si S1 25 (nI ln)) 28 aa) 23 0) 22 0) 24 0) := by
                unfold zf_X4_clear
                rw [nS_e, nS_e, mq_cz_0, nS_e]
              exact cl_go this
            · rw [pR, if_pos rfl, mq_cz_1, nS_e, nS_e, show (mq_si (mq_si S2 29 1) 31 0).1 26 = nI ln from w4, nS_e, nI_e]
              have i1' : mq_sa (mq_sa (mq_si (mq_si (mq_si S2 29 1) 31 0) 30 (nI ln)) 32 (S2.2.1 32)) 33 (S2.2.1 33) = mq_si (mq_si (mq_si S2 29 1) 31 0) 30 (nI ln) := by
                rw [show mq_sa (mq_si (mq_si (mq_si S2 29 1) 31 0) 30 (nI ln)) 32 (S2.2.1 32) = mq_si (mq_si (mq_si S2 29 1) 31 0) 30 (nI ln) from sa_i (mq_si (mq_si (mq_si S2 29 1) 31 0) 30 (nI ln)) 32]
                exact sa_i (mq_si (mq_si (mq_si S2 29 1) 31 0) 30 (nI ln)) 33
              rw [i1'] at y1
              exact y1
            · obtain ⟨r, f, q1, q2, q3, q4, q5⟩ := w5 i hi
              obtain ⟨q6, q7⟩ := y2 i hi
              exact ⟨r, f, q1, q2, (x2 i hi).trans q3, q6.trans q4, q7.trans q5⟩
          · subst e
            obtain ⟨mm, hm1, hm2, -, -⟩ := ivp
            obtain ⟨X, x1, x2⟩ := pu_4 (N := N) (z := z) (S := S1) hm2 hm1
            have hc1 : cxC S1 n so on tw d := cxC_f hc t4
            have hx1 : cxR S2 n so on tw d := cxR_f (S0 := mq_si SR 0 0) (cxR_c hx rfl rfl rfl rfl) t5
            obtain ⟨S3, W', y1, y2, y3, y4, y5⟩ := ck_fillm (N := N) (z := z) (S := mq_si S1 25 (nI 0)) (l := fun _ => 0) (by omega) (cxC_c hc1 rfl rfl rfl rfl rfl rfl) w3 w2
            obtain ⟨S4, r1, r2, r3⟩ := tk_all (N := N) (z := z) (S := mq_si S2 29 0) (by omega) (cxR_c hx1 rfl rfl rfl rfl) w4 w2
            obtain ⟨lx, lx1, lx2⟩ := u3
            refine ⟨0, S3, S4, ?_, ?_, ⟨0, by omega, (y4.1 25 (by decide)).trans rfl, Or.inl ⟨rfl, (r1.1 29 (by decide)).trans rfl⟩, fun i hi => by omega⟩, ⟨lx, lx1, (y4.1 20 (by decide)).trans lx2⟩, ⟨⟨W', y1, y2⟩, 0, by omega, y3⟩, ⟨W, w2, r2⟩, ⟨?_, ?_, ?_, ?_⟩, ag_tr fC (ag_tr (ag_si (by decide)) (ag_mono y4 (by decide) (by decide) (by decide))), ag_tr fR (ag_tr (ag_si (by decide)) (ag_mono r1 (by decide) (by decide) (by decide)))⟩
            · rw [pC, if_neg (by decide), if_pos rfl]
              refine (cl_go x1).trans ?_
              rw [x2, nS_e]
              exact cl_go y5
            · rw [pR, if_neg (by decide), if_pos rfl, mq_cz_0, nS_e]
              exact cl_go r3
            · rw [y4.2.1 21 (by decide), r1.1 19 (by decide)]; exact cn.1
            · rw [y4.2.1 21 (by decide), r1.1 20 (by decide)]; exact cn.2.1
            · rw [y4.2.1 21 (by decide), r1.1 21 (by decide)]; exact cn.2.2.1
            · rw [y4.2.1 21 (by decide), r1.1 22 (by decide)]; exact cn.2.2.2
        · have b' : 100000 < v2 := Int32.not_le.mp b
          apply quit
          · unfold zf_X10_prove
            refine (cp_go filled).trans ?_
            rw [if_neg (by decide), if_neg a, if_neg b]
          · rw [preR, ← s1, s3, if_neg (nI_nm (by omega))]
            refine (cp_go (rf_in v2 1 100000)).trans ?_
            rw [if_pos (Or.inr b'), if_pos rfl]
end PROVE
