/-! fill: YES and NO of what is drafted. -/
theorem tbC_c {S S' : mq_St} {L : List En} (h : tbC S L) (e2 : S'.1 2 = S.1 2) (e4 : S'.2.1 4 = S.2.1 4) (e5 : S'.2.1 5 = S.2.1 5) (e6 : S'.2.1 6 = S.2.1 6) (e0 : S'.2.2 0 = S.2.2 0) : tbC S' L := by
  unfold tbC
  rw [e2, e4, e5, e6, e0]
  exact h
theorem us_pr {L : List En} {t w : Tr} {k k' : Nat} (wt : wf t) (h : pr t L k) (h' : pr (du t) L k') (hu : us w t) : (∃ j, pr w L j) ∧ ∃ j, pr (du w) L j := by
  rcases hu with hu | hu
  · exact ⟨pr_sb wt h w hu, pr_sb (wf_du t wt) h' (du w) (sb_dd.mpr hu)⟩
  · refine ⟨?_, pr_sb wt h (du w) hu⟩
    have := pr_sb (wf_du t wt) h' (du (du w)) (sb_dd.mpr hu)
    rw [du_du] at this
    exact this
/-- too many nodes: too many FORMULAS -/
theorem over_many {L : List En} {t : Tr} {W : List Tr} (h0 : ok0 L) (wt : wf t) (hn : W.Nodup) (hp : ∀ w ∈ W, wf w ∧ po w = true) (hu : ∀ w ∈ W, w = .num 0 ∨ us w t) (h151 : 150 < W.length) : 300 < (mk (du t) (mk t L).2).2.length := by
  by_cases hl : (mk (du t) (mk t L).2).2.length < 2147483648
  · have k0 : ok0 (mk (du t) (mk t L).2).2 := mk_ok0 (mk_ok0 h0)
    obtain ⟨X, hX⟩ := mk_ext (du t) (mk t L).2
    have p1 : pr t (mk (du t) (mk t L).2).2 (mk t L).1 := by rw [hX]; exact pr_mono (pr_mk t L) X
    have p2 := pr_mk (du t) (mk t L).2
    have := many k0 hl hn (fun w hw => by
      refine ⟨(hp w hw).2, (hp w hw).1, ?_⟩
      rcases hu w hw with e | e
      · rw [e]
        exact ⟨⟨_, pr_num.mpr rfl⟩, ⟨_, pr_num.mpr rfl⟩⟩
      · exact us_pr wt p1 p2 e)
    omega
  · omega
theorem ck_fill {N : Nat} {z : Nat → Nat} {S : mq_St} {W : List Tr} {L : List En} {v : Int32} {t : Tr} {s : Nat} (hN : 1000 ≤ N) (hs : s < 8) (hd : dft S W) (hv : RM W v t) (wt : wf t) (hu : ∀ w ∈ W, w = .num 0 ∨ us w t) (hL : tbC S L) (hg : gtb L) (hde : ∀ f, f < L.length → S.2.1 7 f = nI (dd L f)) :
    ((mk (du t) (mk t L).2).2.length ≤ 300 → ∃ S', zf_X10_fill N z (nI s) v S = some (1, S') ∧ tbC S' (mk (du t) (mk t L).2).2 ∧ gtb (mk (du t) (mk t L).2).2 ∧ (∀ f, f < (mk (du t) (mk t L).2).2.length → S'.2.1 7 f = nI (dd (mk (du t) (mk t L).2).2 f)) ∧ S'.2.1 0 = upd (S.2.1 0) s (nI (mk t L).1) ∧ S'.2.1 1 = upd (S.2.1 1) s (nI (mk (du t) (mk t L).2).1) ∧ ag [2] [0, 1, 4, 5, 6, 7, 11, 12] [0] S S') ∧
    (300 < (mk (du t) (mk t L).2).2.length → ∃ S', zf_X10_fill N z (nI s) v S = some (0, S') ∧ tbC S' L ∧ (∀ f, f < L.length → S'.2.1 7 f = nI (dd L f)) ∧ ag [2] [4, 5, 6, 7, 11, 12] [0] S S') := by
  obtain ⟨h0, hl3, hor, htr⟩ := hg
  obtain ⟨d3, d4, d151, dW0, dnd, dpo, dent, dnum⟩ := hd
  have fail : ∀ (S1 : mq_St) (X : List En) (x : Int32), tbC S1 (L ++ X) → (∀ f, f < L.length → S1.2.1 7 f = S.2.1 7 f) → ag [2] [4, 5, 6, 7, 11, 12] [0] S S1 → ∃ S', zf_X10_fill_53 N z (nI s) (nI L.length) x (-1) S1 = some (0, S') ∧ tbC S' L ∧ (∀ f, f < L.length → S'.2.1 7 f = nI (dd L f)) ∧ ag [2] [4, 5, 6, 7, 11, 12] [0] S S' := by
    intro S1 X x hT hden g1
    obtain ⟨S', a1, a2, a3⟩ := ck_dropTo (N := N) (z := z) hN hT
    refine ⟨S', ?_, a2, fun f hf => ?_, ag_tr g1 (ag_mono a3 (by decide) (by decide) (by decide))⟩
    · unfold zf_X10_fill_53
      rw [nI_e, if_pos rfl, a1, mq_cl_s, mq_cz_0]
    · rw [a3.2.1 7 (by decide), hden f hf, hde f hf]
  unfold zf_X10_fill
  rw [show zf_X7_size N z S = some (S.1 2) from rfl, mq_cp_s, hL.1, nI_e]
  have eov : zf_X2_isOver N z S = some (S.1 4) := by
    unfold zf_X2_isOver
    rw [d4]
    by_cases q : W.length ≤ 150
    · rw [if_pos q, mq_cz_0]
    · rw [if_neg q, mq_cz_1]
  rw [eov, mq_cp_s, d4]
  by_cases hov : W.length ≤ 150
  · rw [if_pos hov, if_pos rfl]
    obtain ⟨m, rfl, m400, hm⟩ := hv
    have hm := hm hov
    have hml := mt_lt hm
    have emin : min W.length 150 = W.length := by omega
    rw [emin] at d3 dnum
    have hdf : dfb S W := ⟨d3, hov, dnd, dpo, fun i u hu => dent i u (by have := (List.getElem?_eq_some_iff.mp hu).1; omega) hu⟩
    have hall : ∀ j u, mt W j u → S.2.1 11 j = -1 := fun j u hj => dnum j (by have := mt_lt hj; omega)
    obtain ⟨A, B⟩ := ck_build (N := N) (z := z) hN hm hL h0 hdf (fun j u hj => Or.inl (hall j u hj)) (fun j u hj q => absurd (hall j u hj) q) (hall m t hm)
    by_cases q1 : (mk t L).2.length ≤ 300
    · obtain ⟨S1, a1, a2, a3, a3c, a4, a5, a6, a7, a8, a9⟩ := A q1
      obtain ⟨X1, hX1⟩ := mk_ext t L
      have k1 : ok0 (mk t L).2 := mk_ok0 h0
      have hlt1 := pr_lt wt k1 (pr_mk t L)
      have hn1 : ¬ nI (mk t L).1 = -1 := nI_nm1 (by omega)
      have hfm := mt_fl hm
      have hfne : fl m ≠ m := by unfold fl; split <;> omega
      have hdf1 := dfb_g hdf a9
      obtain ⟨A2, B2⟩ := ck_build (N := N) (z := z) (S := S1) hN hfm a2 k1 hdf1 a3 a3c (by rw [a6 (fl m) (by rw [fl_half]; exact Nat.le_refl _) hfne]; exact hall _ _ hfm)
      rw [a1, mq_cl_s]
      unfold zf_X10_fill_30 zf_X2_deny
      rw [nI_e, if_neg hn1, mq_cp_s, xor_1 m m400]
      refine ⟨fun q2 => ?_, fun q2 => ?_⟩
      · obtain ⟨S2, b1, b2, b3, b3c, b4, b5, b6, b7, b8, b9⟩ := A2 q2
        have g2 := ag_tr a9 b9
        obtain ⟨X2, hX2⟩ := mk_ext (du t) (mk t L).2
        have k2 : ok0 (mk (du t) (mk t L).2).2 := mk_ok0 k1
        have hlt2 := pr_lt (wf_du t wt) k2 (pr_mk (du t) (mk t L).2)
        have hn2 : ¬ nI (mk (du t) (mk t L).2).1 = -1 := nI_nm1 (by omega)
        have D2m : S2.2.1 11 m = nI (mk t L).1 := (b5 m (by rw [a4]; exact hn1)).trans a4
        have p1 : pr t (mk (du t) (mk t L).2).2 (mk t L).1 := by rw [hX2]; exact pr_mono (pr_mk t L) X2
        have p2 := pr_mk (du t) (mk t L).2
        -- all marks of nodes that are used are numbered
        have hnumd : ∀ j u, mt W j u → us u t → ¬ S2.2.1 11 j = -1 := by
          intro j u hj hus
          rcases hus with q | q
          · exact b3c m t hm (by rw [D2m]; exact hn1) j u hj q
          · refine b3c (fl m) (du t) hfm (by rw [b4]; exact hn2) j u hj ?_
            rw [← du_du u]
            exact sb_dd.mpr q
        have husd : ∀ j u, mt W j u → (u = .num 0 ∨ u = .num 1) ∨ us u t := by
          intro j u hj
          have := hu _ (List.mem_of_getElem? hj)
          by_cases e : j % 2 = 0
          · rw [if_pos e] at this
            rcases this with q | q
            · exact Or.inl (Or.inl q)
            · exact Or.inr q
          · rw [if_neg e] at this
            rcases this with q | q
            · refine Or.inl (Or.inr ?_)
              rw [← du_du u, q]
              rfl
            · refine Or.inr ?_
              have := us_dl q
              rw [du_du] at this
              exact this
        have hnew : ∀ f, L.length ≤ f → f < (mk (du t) (mk t L).2).2.length → ∃ j u, mt W j u ∧ S2.2.1 11 j = nI f ∧ pr u (mk (du t) (mk t L).2).2 f ∧ us u t := by
          intro f hf1 hf2
          have hj : ∃ j, j < 2 * W.length ∧ S2.2.1 11 j = nI f := by
            by_cases q : f < (mk t L).2.length
            · obtain ⟨j, j1, j2⟩ := a7 f hf1 q
              exact ⟨j, j1, (b5 j (by rw [j2]; exact nI_nm1 (by omega))).trans j2⟩
            · exact b7 f (by omega) hf2
          obtain ⟨j, j1, j2⟩ := hj
          obtain ⟨w, hw⟩ : ∃ w, W[j / 2]? = some w := ⟨W[j / 2]'(by omega), List.getElem?_eq_getElem (by omega)⟩
          have hmt : ∃ u, mt W j u := by
            by_cases e : j % 2 = 0
            · exact ⟨w, by unfold mt; rw [if_pos e]; exact hw⟩
            · exact ⟨du w, by unfold mt; rw [if_neg e, du_du]; exact hw⟩
          obtain ⟨u, hmu⟩ := hmt
          rcases b3 j u hmu with e | ⟨k, e, hpr⟩
          · rw [e] at j2; exact absurd j2.symm (nI_nm1 (by omega))
          · have hkl := pr_lt (mt_wf dpo hmu) k2 hpr
            have ek : k = f := sp_inj (e.symm.trans j2) (by omega) (by omega)
            rw [ek] at hpr
            refine ⟨j, u, hmu, j2, hpr, ?_⟩
            rcases husd j u hmu with (q | q) | q
            · rw [q] at hpr
              have : f = 0 := pr_num.mp hpr
              have := (List.getElem?_eq_some_iff.mp h0.2).1
              omega
            · rw [q] at hpr
              have : f = 1 := pr_num.mp hpr
              have := (List.getElem?_eq_some_iff.mp h0.2).1
              omega
            · exact q
        have hgt2 : gtb (mk (du t) (mk t L).2).2 := by
          refine ⟨k2, q2, mk_ord (wf_du t wt) k1 (mk_ord wt h0 hor), fun f hf => ?_⟩
          by_cases q : f < L.length
          · obtain ⟨s', w', p', g', pg'⟩ := htr f q
            rw [hX2, hX1, List.append_assoc]
            exact ⟨s', w', pr_mono p' _, g', pr_mono pg' _⟩
          · obtain ⟨j, u, hmu, -, hpr, hus⟩ := hnew f (by omega) hf
            exact ⟨u, mt_wf dpo hmu, hpr, (us_pr wt p1 p2 hus).2⟩
        have hdold : ∀ f, f < L.length → dd (mk (du t) (mk t L).2).2 f = dd L f := by
          intro f hf
          obtain ⟨s', w', p', g', pg'⟩ := htr f hf
          rw [dd_is h0 (by omega) w' p' pg']
          refine dd_is k2 (by omega) w' ?_ ?_
          · rw [hX2, hX1, List.append_assoc]; exact pr_mono p' _
          · rw [hX2, hX1, List.append_assoc]; exact pr_mono pg' _
        have hdf2 := dfb_g hdf g2
        obtain ⟨S3, c1, c2, c3, c4⟩ := pair_loop (N := N) (z := z) k2 q2 dpo hov N 0 S2 (by omega) (by omega) hdf2.1 b2.1 b3
        have e8 : vp_in (nI s) 8 := vp_in_nI hs (by omega)
        have ec : (nI s).toNatClampNeg = s := nI_clamp (by omega)
        refine ⟨mq_sa (mq_sa S3 0 (upd (S3.2.1 0) s (nI (mk t L).1))) 1 (upd (S3.2.1 1) s (nI (mk (du t) (mk t L).2).1)), ?_, ?_, hgt2, ?_, ?_, ?_, ?_⟩
        · rw [b1, mq_cl_s]
          unfold zf_X10_fill_53 zf_X2_pairAll
          have c1' : zf_X2_pairAll_2 N z N 0 S2 = some ((), S3) := c1
          rw [nI_e, if_neg hn2, nI_e, c1', mq_cl_s, mq_ck_of e8, nS_e, mq_ck_of e8, nS_e, mq_cz_1, ec]
          rfl
        · exact tbC_c b2 (c4.1 2 (by decide)) (c4.2.1 4 (by decide)) (c4.2.1 5 (by decide)) (c4.2.1 6 (by decide)) (c4.2.2 0 (by decide))
        · intro f hf
          show S3.2.1 7 f = _
          by_cases q : f < L.length
          · apply c2 f hf
            rw [b8 f (by rw [hX1, List.length_append]; omega), a8 f q, hde f q, hdold f q]
          · obtain ⟨j, u, hmu, j2, hpr, hus⟩ := hnew f (by omega) hf
            have hmf := mt_fl hmu
            have hnd : ¬ S2.2.1 11 (fl j) = -1 := hnumd (fl j) (du u) hmf (us_dl hus)
            rcases b3 _ _ hmf with e | ⟨g, e, hpg⟩
            · exact absurd e hnd
            · exact c3 j f g (by omega) (mt_lt hmu) j2 hf e (pr_lt (wf_du u (mt_wf dpo hmu)) k2 hpg)
        · show upd (S3.2.1 0) s _ = _
          rw [c4.2.1 0 (by decide), g2.2.1 0 (by decide)]
        · show upd (S3.2.1 1) s _ = _
          rw [c4.2.1 1 (by decide), g2.2.1 1 (by decide)]
        · refine ag_tr ?_ (ag_sa (by decide))
          refine ag_tr ?_ (ag_sa (by decide))
          exact ag_tr (ag_mono g2 (by decide) (by decide) (by decide)) (ag_mono c4 (by decide) (by decide) (by decide))
      · obtain ⟨S2, X, b1, b2, b3, b4⟩ := B2 q2
        rw [b1, mq_cl_s]
        exact fail S2 (X1 ++ X) _ (by rw [← List.append_assoc, ← hX1]; exact b2) (fun f hf => by rw [b3 f (by rw [hX1, List.length_append]; omega), a8 f hf]) (ag_tr a9 b4)
    · obtain ⟨S1, X, b1, b2, b3, b4⟩ := B (by omega)
      have hlong : 300 < (mk (du t) (mk t L).2).2.length := by have := mk_len (du t) (mk t L).2; omega
      rw [b1, mq_cl_s]
      unfold zf_X10_fill_30
      rw [nI_e, if_pos rfl]
      exact ⟨fun q2 => by omega, fun _ => fail S1 X (-1) b2 b3 b4⟩
  · rw [if_neg hov, if_neg (by decide)]
    have hlong := over_many (L := L) h0 wt dnd dpo hu (by omega)
    unfold zf_X10_fill_30
    rw [nI_e, if_pos rfl]
    exact ⟨fun q2 => by omega, fun _ => fail S [] (-1) (by rw [List.append_nil]; exact hL) (fun _ _ => rfl) ag_rf⟩
