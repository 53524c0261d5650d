/-! The class's model: cut() ends. -/
section CUT
variable {N n : Nat} {z : Nat → Nat} {S S0 : mq_St} {W w t : Nat}
theorem ck_moved (v : Int64) (hN : 100 ≤ N) (h : S.1 23 = nI W) (hW : W ≤ 60) : ∃ r, zf_X4_moved N z v S = some r := by
  unfold zf_X4_moved
  rw [nL_e, nI_e]
  refine lp_v (F := fun fu a k => zf_X4_moved_5 N z S fu v a k) (n := W) (fun fu a => ?_) (fun fu k a hk => ?_) N 0 0 (by omega) (by omega)
  · show ∃ r, zf_X4_moved_5b N z S _ v a (nI W) = some r
    unfold zf_X4_moved_5b
    rw [h, if_pos (nI_le (Nat.le_refl _) (by omega))]
    exact ⟨_, rfl⟩
  · right
    show ∃ a', zf_X4_moved_5b N z S (fun v1 v3 v5 => zf_X4_moved_5 N z S fu v1 v3 v5) v a (nI k) = _
    have i1 : vp_in (nI k) 60 := vp_in_nI (by omega) (by omega)
    unfold zf_X4_moved_5b zf_X4_moved_48
    rw [h, if_neg (nI_ge hk (by omega)), mq_ck_of i1, mq_ck_of i1, nL_e, nI_e, nI_e, nI_1]
    by_cases e : lg_cmp ((mq_lushr v (nI k)) &&& 1) (0 : Int64) = 0
    · rw [if_pos e]; exact ⟨_, rfl⟩
    · rw [if_neg e]
      by_cases e' : S.2.1 26 (nI k).toNatClampNeg = -1
      · rw [if_pos e']; exact ⟨_, rfl⟩
      · rw [if_neg e']; exact ⟨_, rfl⟩
/-- a number in 0 .. 59, or one of the guards holds -/
theorem ix60 (v : Int32) : v < 0 ∨ (60 : Int32) ≤ v ∨ ∃ k, k < 60 ∧ v = nI k := by
  rcases pk_ix v (n := 60) (by omega) with q | q | ⟨k, h1, h2⟩
  · exact Or.inl q
  · exact Or.inr (Or.inl q)
  · exact Or.inr (Or.inr ⟨k, h1, h2⟩)
theorem rb_141 {c : Nat} (hS : frM S0 S) (h : S.1 23 = nI W) (hW : W ≤ 60) (hc : c ≤ 60) : ∃ S', frM S0 S' ∧ mdC S' ∧ zf_X4_rebuild_141 N z (nI c) S = some ((), S') := by
  refine ⟨mq_si (mq_si (mq_si S 23 (mq_min (nI c) (nI W))) 22 0) 24 1, ag_tr hS (ag_tr (ag_tr (ag_si (by decide)) (ag_si (by decide))) (ag_si (by decide))), ⟨?_, 0, by omega, rfl⟩, ?_⟩
  · by_cases e : W < c
    · exact ⟨W, hW, if_pos (nI_lt e (by omega))⟩
    · exact ⟨c, hc, if_neg (nI_nlt (by omega) (by omega))⟩
  · unfold zf_X4_rebuild_141
    rw [h, nS_e, nS_e, mq_cz_1, nS_e]
theorem rb_79 {c : Nat} (hN : 100 ≤ N) (hS : frM S0 S) (h : S.1 23 = nI W) (hW : W ≤ 60) (hc : c ≤ 60) : ∃ S', frM S0 S' ∧ mdC S' ∧ zf_X4_rebuild_79 N z N (nI c) (nI 0) S = some ((), S') := by
  have key := lp_x (F := fun fu k T => zf_X4_rebuild_79 N z fu (nI c) k T) (n := c) (I := fun T => frM S0 T ∧ T.1 23 = nI W) (G := fun T => zf_X4_rebuild_141 N z (nI c) T) (fun fu T hI => by
    show zf_X4_rebuild_79b N z _ (nI c) (nI c) T = _
    unfold zf_X4_rebuild_79b
    rw [if_pos (nI_le (Nat.le_refl _) (by omega))]) (fun fu k T hk hI => by
    show ∃ S', (frM S0 S' ∧ S'.1 23 = nI W) ∧ (zf_X4_rebuild_79b N z (fun v1 v2 S => zf_X4_rebuild_79 N z fu v1 v2 S) (nI c) (nI k) T = _ ∨ zf_X4_rebuild_79b N z (fun v1 v2 S => zf_X4_rebuild_79 N z fu v1 v2 S) (nI c) (nI k) T = _)
    have i1 : vp_in (nI k) 60 := vp_in_nI (by omega) (by omega)
    unfold zf_X4_rebuild_79b zf_X4_rebuild_135
    rw [if_neg (nI_ge hk (by omega)), hI.2, mq_ck_of i1, nI_e, nI_1]
    by_cases e : nI W ≤ nI k
    · exact ⟨T, hI, Or.inr (by rw [if_pos e])⟩
    · rw [if_neg e]
      rcases mq_place (T.2.1 27 (nI k).toNatClampNeg) (t := W) (by omega) with q | ⟨j, hj, hv, q⟩
      · refine ⟨T, hI, Or.inl ?_⟩
        by_cases e' : T.2.1 27 (nI k).toNatClampNeg < 0
        · rw [if_pos e', nI_e]
        · rw [if_neg e', if_pos (q.resolve_left e'), nI_e]
      · have i2 : vp_in (nI j) 60 := vp_in_nI (by omega) (by omega)
        rw [if_neg (fun a => q (Or.inl a)), if_neg (fun a => q (Or.inr a)), hv, mq_ck_of i2, mq_ck_of i1, nS_e, mq_ck_of i2, mq_ck_of i1, nS_e, nI_e]
        exact ⟨_, ⟨ag_tr hI.1 (ag_tr (ag_sa (k := 23) (by decide)) (ag_sl (k := 7) (by decide))), hI.2⟩, Or.inl rfl⟩) N 0 S (by omega) (by omega) ⟨hS, h⟩
  obtain ⟨T, ⟨k1, k2⟩, k3⟩ := key
  obtain ⟨S', a, b, e⟩ := rb_141 (N := N) (z := z) k1 k2 hW hc
  exact ⟨S', a, b, k3.trans e⟩
theorem rb_7 {c : Nat} (hN : 200 ≤ N) (hW : W ≤ 60) (hc : c ≤ 60) : ∀ (k fu : Nat) (S : mq_St), k ≤ W → k < fu → frM S0 S → S.1 23 = nI W → ∃ S', frM S0 S' ∧ mdC S' ∧ zf_X4_rebuild_7 N z fu (nI c) (nI k - 1) S = some ((), S')
  | 0, 0, S, _, h, _, _ => by omega
  | 0, fu + 1, S, _, _, hS, h => by
    obtain ⟨S', a, b, e⟩ := rb_79 (N := N) (z := z) (by omega) hS h hW hc
    refine ⟨S', a, b, ?_⟩
    show zf_X4_rebuild_7b N z _ (nI c) (nI 0 - 1) S = _
    unfold zf_X4_rebuild_7b
    rw [if_pos (by decide), nI_e]
    exact e
  | k + 1, 0, S, _, h, _, _ => by omega
  | k + 1, fu + 1, S, hk, hfu, hS, h => by
    have e1 : nI (k + 1) - 1 = nI k := by rw [show (1 : Int32) = nI 1 from rfl, pk_sub (by omega)]; rfl
    have e2 : nI k + -1 = nI k - 1 := (Int32.sub_eq_add_neg (nI k) 1).symm
    have i1 : vp_in (nI k) 60 := vp_in_nI (by omega) (by omega)
    rw [e1]
    show ∃ S', frM S0 S' ∧ mdC S' ∧ zf_X4_rebuild_7b N z (fun v1 v2 S => zf_X4_rebuild_7 N z fu v1 v2 S) (nI c) (nI k) S = some ((), S')
    obtain ⟨r, hr⟩ := ck_moved (N := N) (z := z) (S.2.2 7 (nI k).toNatClampNeg) (by omega) h hW
    unfold zf_X4_rebuild_7b zf_X4_rebuild_71
    rw [if_neg (show ¬ nI k < (0 : Int32) from nI_nlt (b := 0) (by omega) (by omega)), mq_ck_of i1, hr, mq_cp_s, mq_ck_of i1, nS_e, mq_ck_of i1, mq_ck_of i1, nS_e, mq_ck_of i1, mq_ck_of i1, mq_ck_of i1, nI_e, e2]
    have go : ∀ T : mq_St, frM S0 T → T.1 23 = nI W → ∃ S', frM S0 S' ∧ mdC S' ∧ zf_X4_rebuild_7 N z fu (nI c) (nI k - 1) T = some ((), S') := fun T hT hT' => rb_7 hN hW hc k fu T (by omega) (by omega) hT hT'
    have f1 : frM S0 (mq_sa (mq_sl S 8 (vp_updL (S.2.2 8) (nI k).toNatClampNeg r)) 24 (upd ((mq_sl S 8 (vp_updL (S.2.2 8) (nI k).toNatClampNeg r)).2.1 24) (nI k).toNatClampNeg ((mq_sl S 8 (vp_updL (S.2.2 8) (nI k).toNatClampNeg r)).2.1 23 (nI k).toNatClampNeg))) := ag_tr hS (ag_tr (ag_sl (by decide)) (ag_sa (by decide)))
    rcases ix60 ((mq_sa (mq_sl S 8 (vp_updL (S.2.2 8) (nI k).toNatClampNeg r)) 24 (upd ((mq_sl S 8 (vp_updL (S.2.2 8) (nI k).toNatClampNeg r)).2.1 24) (nI k).toNatClampNeg ((mq_sl S 8 (vp_updL (S.2.2 8) (nI k).toNatClampNeg r)).2.1 23 (nI k).toNatClampNeg))).2.1 26 (nI k).toNatClampNeg) with q | q | ⟨j, hj, q⟩
    · rw [if_pos q]; exact go _ f1 h
    · by_cases q' : (mq_sa (mq_sl S 8 (vp_updL (S.2.2 8) (nI k).toNatClampNeg r)) 24 (upd ((mq_sl S 8 (vp_updL (S.2.2 8) (nI k).toNatClampNeg r)).2.1 24) (nI k).toNatClampNeg ((mq_sl S 8 (vp_updL (S.2.2 8) (nI k).toNatClampNeg r)).2.1 23 (nI k).toNatClampNeg))).2.1 26 (nI k).toNatClampNeg < 0
      · rw [if_pos q']; exact go _ f1 h
      · rw [if_neg q', if_pos q]; exact go _ f1 h
    · rw [q, if_neg (show ¬ nI j < (0 : Int32) from nI_nlt (b := 0) (by omega) (by omega)), if_neg (show ¬ (60 : Int32) ≤ nI j from nI_ge (b := 60) hj (by omega)), mq_ck_of (vp_in_nI hj (by omega)), nS_e, nI_e]
      exact go _ (ag_tr f1 (ag_sa (by decide))) h
theorem ck_reb {c : Nat} (hN : 200 ≤ N) (hS : frM S0 S) (h : S.1 23 = nI W) (hW : W ≤ 60) (hc : c ≤ 60) : ∃ S', frM S0 S' ∧ mdC S' ∧ zf_X4_rebuild N z (nI c) S = some ((), S') := by
  unfold zf_X4_rebuild
  rw [h, nI_e]
  exact rb_7 hN hW hc W N S (Nat.le_refl _) (by omega) hS h
theorem ct_4 (hN : 200 ≤ N) (hW : W ≤ 60) (hw : w < W) : ∀ (fu k c : Nat) (S : mq_St), k ≤ W → W - k < fu → c ≤ k + 1 → (w < k → c ≤ k) → frM S0 S → S.1 23 = nI W → ∃ S', frM S0 S' ∧ mdC S' ∧ zf_X4_cutTo_4 N z fu (nI w) (nI c) (nI k) S = some ((), S')
  | 0, k, c, S, _, h, _, _, _, _ => by omega
  | fu + 1, k, c, S, hk, hfu, h1, h2, hS, h => by
    show ∃ S', frM S0 S' ∧ mdC S' ∧ zf_X4_cutTo_4b N z (fun v1 v2 v3 S => zf_X4_cutTo_4 N z fu v1 v2 v3 S) (nI w) (nI c) (nI k) S = some ((), S')
    unfold zf_X4_cutTo_4b zf_X4_cutTo_53
    rw [h]
    by_cases e : k = W
    · obtain ⟨S', a, b, c'⟩ := ck_reb (N := N) (z := z) (c := c) hN hS h hW (by have := h2 (by omega); omega)
      rw [e, if_pos (nI_le (Nat.le_refl _) (by omega)), c', mq_cl_s]
      exact ⟨S', a, b, rfl⟩
    · have i1 : vp_in (nI k) 60 := vp_in_nI (by omega) (by omega)
      rw [if_neg (nI_ge (show k < W by omega) (by omega)), mq_ck_of i1, nS_e, mq_ck_of i1, mq_ck_of i1, nI_e, nI_1]
      have f1 : frM S0 (mq_sa S 26 (upd (S.2.1 26) (nI k).toNatClampNeg (-1))) := ag_tr hS (ag_sa (by decide))
      by_cases e' : nI k = nI w
      · have ekw : k = w := sp_inj e' (by omega) (by omega)
        rw [if_pos e', nS_e, nI_e]
        exact ct_4 hN hW hw fu (k + 1) c _ (by omega) (by omega) (by omega) (fun _ => by omega) (ag_tr f1 (ag_sa (by decide))) h
      · rw [if_neg e']
        have nkw : k ≠ w := fun q => e' (by rw [q])
        obtain ⟨r, hr, -⟩ := ck_seen (N := N) (z := z) (S := mq_sa S 26 (upd (S.2.1 26) (nI k).toNatClampNeg (-1))) (nI w) (nI k) h hW
        rw [hr, mq_cp_s]
        by_cases er : r = 0
        · rw [if_pos er]
          exact ct_4 hN hW hw fu (k + 1) c _ (by omega) (by omega) (by omega) (fun _ => by omega) f1 h
        · rw [if_neg er, nS_e, nI_e, nI_1, nI_e]
          exact ct_4 hN hW hw fu (k + 1) (c + 1) _ (by omega) (by omega) (by omega) (fun q => by have := h2 (by omega); omega) (ag_tr f1 (ag_sa (by decide))) h
theorem ck_cut (v : Int32) (hN : 200 ≤ N) (hm : mdC S) : ∃ r S', zf_X10_cut N z v S = some (r, S') ∧ mdC S' ∧ frM S S' := by
  obtain ⟨⟨W, hW, h23⟩, t, ht, h22⟩ := id hm
  unfold zf_X10_cut
  rcases ck_hasw (N := N) (z := z) v h23 hW with a | ⟨k, hk, e, a⟩
  · rw [a, mq_cp_s, if_pos rfl]; exact ⟨_, _, rfl, hm, ag_rf⟩
  · obtain ⟨S', b1, b2, b3⟩ := ct_4 (N := N) (z := z) (S0 := S) hN hW hk N 0 1 S (by omega) (by omega) (by omega) (fun q => by omega) ag_rf h23
    rw [a, mq_cp_s, if_neg (by decide), e]
    have : zf_X4_cutTo N z (nI k) S = some ((), S') := by
      unfold zf_X4_cutTo
      rw [nI_e, nI_e]
      exact b3
    rw [this, mq_cl_s]
    exact ⟨_, S', rfl, b2, b1⟩
end CUT
