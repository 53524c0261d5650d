/-! The class's model: fold() ends. -/
section FOLD
variable {N n : Nat} {z : Nat → Nat} {S S0 : mq_St} {W w t : Nat}
theorem ck_like (hw : w < 60) : ∀ (fu k : Nat), k ≤ w → w - k < fu → ∃ j, j ≤ w ∧ zf_X4_leastLike_2 N z S fu (nI w) (nI k) = some (nI j)
  | 0, k, _, h => by omega
  | fu + 1, k, hk, hfu => by
    show ∃ j, j ≤ w ∧ zf_X4_leastLike_2b N z S (fun v1 v2 => zf_X4_leastLike_2 N z S fu v1 v2) (nI w) (nI k) = some (nI j)
    unfold zf_X4_leastLike_2b zf_X4_leastLike_40
    by_cases e : k = w
    · exact ⟨w, Nat.le_refl _, by rw [e, if_pos (nI_le (Nat.le_refl _) (by omega))]⟩
    · have i1 : vp_in (nI k) 60 := vp_in_nI (by omega) (by omega)
      have i2 : vp_in (nI w) 60 := vp_in_nI (by omega) (by omega)
      rw [if_neg (nI_ge (show k < w by omega) (by omega)), mq_ck_of i1, mq_ck_of i2, mq_ck_of i1, mq_ck_of i2, nI_e, nI_1]
      by_cases e1 : S.2.1 26 (nI k).toNatClampNeg = S.2.1 26 (nI w).toNatClampNeg
      · rw [if_pos e1]
        by_cases e2 : lg_cmp (S.2.2 8 (nI k).toNatClampNeg) (S.2.2 8 (nI w).toNatClampNeg) = 0
        · exact ⟨k, hk, by rw [if_pos e2]⟩
        · rw [if_neg e2]; exact ck_like hw fu (k + 1) (by omega) (by omega)
      · rw [if_neg e1]; exact ck_like hw fu (k + 1) (by omega) (by omega)
theorem sp_4 (hN : 100 ≤ N) (hW : W ≤ 60) : ∀ (fu k c : Nat) (S : mq_St), k ≤ W → W - k < fu → c ≤ k → frM S0 S → S.1 23 = nI W → ∃ c' S', c' ≤ 60 ∧ frM S0 S' ∧ S'.1 23 = nI W ∧ zf_X4_splitBySigns_4 N z fu (nI c) (nI k) S = some (nI c', S')
  | 0, k, c, S, _, h, _, _, _ => by omega
  | fu + 1, k, c, S, hk, hfu, hc, hS, h => by
    show ∃ c' S', c' ≤ 60 ∧ frM S0 S' ∧ S'.1 23 = nI W ∧ zf_X4_splitBySigns_4b N z (fun v1 v2 S => zf_X4_splitBySigns_4 N z fu v1 v2 S) (nI c) (nI k) S = some (nI c', S')
    unfold zf_X4_splitBySigns_4b zf_X4_splitBySigns_48
    rw [h]
    by_cases e : k = W
    · rw [e, if_pos (nI_le (Nat.le_refl _) (by omega)), nI_e]
      obtain ⟨T, ⟨a1, a2⟩, b⟩ := lp_to (F := fun fu k T => zf_X4_splitBySigns_56 N z fu (nI c) k T) (n := W) (I := fun T => frM S0 T ∧ T.1 23 = nI W) (G := fun T => some (nI c, T)) (fun fu T hI => by
        show zf_X4_splitBySigns_56b N z _ (nI c) (nI W) T = _
        unfold zf_X4_splitBySigns_56b
        rw [hI.2, if_pos (nI_le (Nat.le_refl _) (by omega))]) (fun fu k T hk hI => by
        have i1 : vp_in (nI k) 60 := vp_in_nI (by omega) (by omega)
        refine ⟨mq_sa T 26 (upd (T.2.1 26) k (T.2.1 27 k)), ⟨ag_tr hI.1 (ag_sa (by decide)), hI.2⟩, ?_⟩
        show zf_X4_splitBySigns_56b N z (fun v1 v2 S => zf_X4_splitBySigns_56 N z fu v1 v2 S) (nI c) (nI k) T = _
        unfold zf_X4_splitBySigns_56b
        rw [hI.2, if_neg (nI_ge hk (by omega)), mq_ck_of i1, mq_ck_of i1, nI_clamp (by omega), nS_e, nI_e, nI_1]) N 0 S (by omega) (by omega) ⟨hS, h⟩
      exact ⟨c, T, by omega, a1, a2, b⟩
    · have i1 : vp_in (nI k) 60 := vp_in_nI (by omega) (by omega)
      obtain ⟨j, hj, hl⟩ := ck_like (N := N) (z := z) (S := S) (w := k) (by omega) N 0 (by omega) (by omega)
      have i2 : vp_in (nI j) 60 := vp_in_nI (by omega) (by omega)
      have hl' : zf_X4_leastLike N z (nI k) S = some (nI j) := by
        unfold zf_X4_leastLike
        rw [nI_e]
        exact hl
      rw [if_neg (nI_ge (show k < W by omega) (by omega)), hl', mq_cp_s, nI_e]
      by_cases e' : nI j = nI k
      · rw [if_pos e', mq_ck_of i1, nS_e, nI_e, nI_1, nI_e, nI_1]
        exact sp_4 hN hW fu (k + 1) (c + 1) _ (by omega) (by omega) (by omega) (ag_tr hS (ag_sa (by decide))) h
      · rw [if_neg e', mq_ck_of i2, mq_ck_of i1, nS_e, nI_e, nI_1]
        exact sp_4 hN hW fu (k + 1) c _ (by omega) (by omega) (by omega) (ag_tr hS (ag_sa (by decide))) h
theorem ck_split (hN : 100 ≤ N) (hW : W ≤ 60) (hS : frM S0 S) (h : S.1 23 = nI W) : ∃ c' S', c' ≤ 60 ∧ frM S0 S' ∧ S'.1 23 = nI W ∧ zf_X4_splitBySigns N z S = some (nI c', S') := by
  unfold zf_X4_splitBySigns
  rw [nI_e, nI_e]
  exact sp_4 hN hW N 0 0 S (by omega) (by omega) (by omega) hS h
theorem fo_43 (hN : 200 ≤ N) (hW : W ≤ 60) : ∀ (fu k c : Nat) (S : mq_St), k ≤ 60 → 60 - k < fu → c ≤ 60 → frM S0 S → S.1 23 = nI W → ∃ S', frM S0 S' ∧ mdC S' ∧ zf_X4_foldUp_43 N z fu (nI c) (nI k) S = some ((), S')
  | 0, k, c, S, _, h, _, _, _ => by omega
  | fu + 1, k, c, S, hk, hfu, hc, hS, h => by
    show ∃ S', frM S0 S' ∧ mdC S' ∧ zf_X4_foldUp_43b N z (fun v1 v2 S => zf_X4_foldUp_43 N z fu v1 v2 S) (nI c) (nI k) S = some ((), S')
    have fin : ∀ (T : mq_St), frM S0 T → T.1 23 = nI W → ∃ S', frM S0 S' ∧ mdC S' ∧ zf_X4_foldUp_102 N z (nI c) T = some ((), S') := fun T hT hT' => by
      obtain ⟨S', a, b, e⟩ := ck_reb (N := N) (z := z) (c := c) hN hT hT' hW hc
      refine ⟨S', a, b, ?_⟩
      unfold zf_X4_foldUp_102
      rw [e, mq_cl_s]
    unfold zf_X4_foldUp_43b
    by_cases e : k = 60
    · rw [e, if_pos (by decide)]; exact fin S hS h
    · rw [if_neg (show ¬ (60 : Int32) ≤ nI k from nI_ge (b := 60) (show k < 60 by omega) (by omega)), nI_e]
      obtain ⟨T, ⟨a1, a2⟩, b⟩ := lp_to (F := fun fu2 j T => zf_X4_foldUp_51 N z (fun v1 v2 S => zf_X4_foldUp_43 N z fu v1 v2 S) fu2 (nI c) (nI k) j T) (n := W) (I := fun T => frM S0 T ∧ T.1 23 = nI W) (G := fun T => mq_cl (zf_X4_splitBySigns N z T) (fun q16v S18 => (mq_nI (q16v) (fun x19 => (if x19 = nI c then (zf_X4_foldUp_102 N z (nI c) S18) else (mq_nI (x19) (fun x20 => (mq_nI (nI k + (1 : Int32)) (fun x21 => (zf_X4_foldUp_43 N z fu (x20) (x21) S18)))))))))) (fun fu2 T hI => by
        show zf_X4_foldUp_51b N z _ _ (nI c) (nI k) (nI W) T = _
        unfold zf_X4_foldUp_51b
        rw [hI.2, if_pos (nI_le (Nat.le_refl _) (by omega))]) (fun fu2 j T hj hI => by
        have i1 : vp_in (nI j) 60 := vp_in_nI (by omega) (by omega)
        obtain ⟨r, hr⟩ := ck_moved (N := N) (z := z) (T.2.2 7 j) (by omega) hI.2 hW
        refine ⟨mq_sl T 8 (vp_updL (T.2.2 8) j r), ⟨ag_tr hI.1 (ag_sl (by decide)), hI.2⟩, ?_⟩
        show zf_X4_foldUp_51b N z (fun v1 v2 S => zf_X4_foldUp_43 N z fu v1 v2 S) (fun v1 v2 v3 S => zf_X4_foldUp_51 N z (fun v1 v2 S => zf_X4_foldUp_43 N z fu v1 v2 S) fu2 v1 v2 v3 S) (nI c) (nI k) (nI j) T = _
        unfold zf_X4_foldUp_51b
        rw [hI.2, if_neg (nI_ge hj (by omega)), mq_ck_of i1, nI_clamp (by omega), hr, mq_cp_s, mq_ck_of i1, nS_e, nI_e, nI_1]) N 0 S (by omega) (by omega) ⟨hS, h⟩
      obtain ⟨c', T', d1, d2, d3, d4⟩ := ck_split (N := N) (z := z) (by omega) hW a1 a2
      have b' : zf_X4_foldUp_51 N z (fun v1 v2 S => zf_X4_foldUp_43 N z fu v1 v2 S) N (nI c) (nI k) 0 S = _ := b
      rw [b', d4, mq_cl_s, nI_e, nI_e, nI_e, nI_1]
      by_cases e1 : nI c' = nI c
      · rw [if_pos e1]; exact fin T' d2 d3
      · rw [if_neg e1]
        exact fo_43 hN hW fu (k + 1) c' T' (by omega) (by omega) d1 d2 d3
theorem ck_fold (hN : 200 ≤ N) (hm : mdC S) : ∃ r S', zf_X10_fold N z S = some (r, S') ∧ mdC S' ∧ frM S S' := by
  obtain ⟨⟨W, hW, h23⟩, t, ht, h22⟩ := id hm
  obtain ⟨T, ⟨a1, a2⟩, b⟩ := lp_to (F := fun fu j T => zf_X4_foldUp_2 N z fu j T) (n := W) (I := fun T => frM S T ∧ T.1 23 = nI W) (G := fun T => mq_cl (zf_X4_splitBySigns N z T) (fun q2v S4 => (mq_nI (q2v) (fun x5 => (mq_nI ((0 : Int32)) (fun x6 => (zf_X4_foldUp_43 N z N (x5) (x6) S4))))))) (fun fu2 T hI => by
    show zf_X4_foldUp_2b N z _ (nI W) T = _
    unfold zf_X4_foldUp_2b
    rw [hI.2, if_pos (nI_le (Nat.le_refl _) (by omega))]) (fun fu2 j T hj hI => by
    have i1 : vp_in (nI j) 60 := vp_in_nI (by omega) (by omega)
    refine ⟨mq_sl (mq_sa T 26 (upd (T.2.1 26) j 0)) 8 (vp_updL (T.2.2 8) j (T.2.1 23 j).toInt64), ⟨ag_tr hI.1 (ag_tr (ag_sa (by decide)) (ag_sl (by decide))), hI.2⟩, ?_⟩
    show zf_X4_foldUp_2b N z (fun v1 S => zf_X4_foldUp_2 N z fu2 v1 S) (nI j) T = _
    unfold zf_X4_foldUp_2b
    rw [hI.2, if_neg (nI_ge hj (by omega)), mq_ck_of i1, nI_clamp (by omega), nS_e, mq_ck_of i1, mq_ck_of i1, nS_e, nI_e, nI_1]
    rfl) N 0 S (by omega) (by omega) ⟨ag_rf, h23⟩
  obtain ⟨c', T', d1, d2, d3, d4⟩ := ck_split (N := N) (z := z) (by omega) hW a1 a2
  obtain ⟨S', g1, g2, g3⟩ := fo_43 (N := N) (z := z) hN hW N 0 c' T' (by omega) (by omega) d1 d2 d3
  refine ⟨S'.1 23, S', ?_, g2, g1⟩
  have : zf_X4_foldUp N z S = some ((), S') := by
    unfold zf_X4_foldUp
    rw [nI_e]
    refine Eq.trans b ?_
    rw [d4, mq_cl_s, nI_e, nI_e]
    exact g3
  unfold zf_X10_fold
  rw [this, mq_cl_s]
  rfl
end FOLD
