/-! The class's model: holds() ends. -/
section HOLDS
variable {N n : Nat} {z : Nat → Nat} {so on tw : Nat → Int32} {d : Nat → Nat} {S S0 : mq_St} {W w t f : Nat}
theorem ck_truth (v : Int32) (h : S.1 22 = nI t) (ht : t ≤ 300) : ∃ r, zf_X4_truthOf N z v S = some r := by
  unfold zf_X4_truthOf
  rw [h]
  rcases mq_place v (t := t) (by omega) with q | ⟨k, hk, hv, q⟩
  · by_cases e : v < 0
    · rw [if_pos e]; exact ⟨_, rfl⟩
    · rw [if_neg e, if_pos (q.resolve_left e)]; exact ⟨_, rfl⟩
  · rw [if_neg (fun a => q (Or.inl a)), if_neg (fun a => q (Or.inr a)), hv, mq_ck_of (vp_in_nI (by omega) (by omega))]
    exact ⟨_, rfl⟩
theorem ck_wol (v : Int32) (hN : 100 ≤ N) (h : S.1 23 = nI W) (hW : W ≤ 60) : ∃ r, zf_X4_worldsOfLetter N z v S = some r := by
  unfold zf_X4_worldsOfLetter
  rw [nL_e, nI_e]
  refine lp_v (F := fun fu a k => zf_X4_worldsOfLetter_5 N z S fu v a k) (n := W) (fun fu a => ?_) (fun fu k a hk => ?_) N 0 0 (by omega) (by omega)
  · show ∃ r, zf_X4_worldsOfLetter_5b N z S _ v a (nI W) = some r
    unfold zf_X4_worldsOfLetter_5b
    rw [h, if_pos (nI_le (Nat.le_refl _) (by omega))]
    exact ⟨_, rfl⟩
  · right
    show ∃ a', zf_X4_worldsOfLetter_5b N z S (fun v1 v2 v4 => zf_X4_worldsOfLetter_5 N z S fu v1 v2 v4) v a (nI k) = _
    unfold zf_X4_worldsOfLetter_5b
    rw [h, if_neg (nI_ge hk (by omega)), mq_ck_of (vp_in_nI (by omega) (by omega)), nL_e, nI_e, nI_1]
    exact ⟨_, rfl⟩
theorem ck_wos (v : Int64) (hN : 100 ≤ N) (h : S.1 23 = nI W) (hW : W ≤ 60) : ∃ r, zf_X4_worldsSeeing N z v S = some r := by
  unfold zf_X4_worldsSeeing
  rw [nL_e, nI_e]
  refine lp_v (F := fun fu a k => zf_X4_worldsSeeing_5 N z S fu v a k) (n := W) (fun fu a => ?_) (fun fu k a hk => ?_) N 0 0 (by omega) (by omega)
  · show ∃ r, zf_X4_worldsSeeing_5b N z S _ v a (nI W) = some r
    unfold zf_X4_worldsSeeing_5b
    rw [h, if_pos (nI_le (Nat.le_refl _) (by omega))]
    exact ⟨_, rfl⟩
  · right
    show ∃ a', zf_X4_worldsSeeing_5b N z S (fun v1 v3 v5 => zf_X4_worldsSeeing_5 N z S fu v1 v3 v5) v a (nI k) = _
    unfold zf_X4_worldsSeeing_5b zf_X4_worldsSeeing_35
    rw [h, if_neg (nI_ge hk (by omega)), mq_ck_of (vp_in_nI (by omega) (by omega)), nL_e, nI_e, nI_e, nI_1]
    by_cases e : lg_cmp ((S.2.2 7 (nI k).toNatClampNeg) &&& v) (0 : Int64) = 0
    · rw [if_pos e]; exact ⟨_, rfl⟩
    · rw [if_neg e]; exact ⟨_, rfl⟩
theorem ck_wof (hN : 100 ≤ N) (hc : cxC S n so on tw d) (h : S.1 23 = nI W) (hW : W ≤ 60) (h22 : S.1 22 = nI t) (ht : t ≤ 300) (hf : f < n) : ∃ r, zf_X4_worldsOf N z (nI f) S = some r := by
  have h300 := hc.2.2.2.2.1
  have i := ck_in (N := N) (z := z) hc.1 h300 hf
  obtain ⟨r1, t1⟩ := ck_truth (N := N) (z := z) (S.2.1 5 f) h22 ht
  obtain ⟨r2, t2⟩ := ck_truth (N := N) (z := z) (S.2.1 6 f) h22 ht
  obtain ⟨r3, t3⟩ := ck_wol (N := N) (z := z) (S.2.1 5 f) hN h hW
  obtain ⟨r4, t4⟩ := ck_wos (N := N) (z := z) r1 hN h hW
  obtain ⟨r5, t5⟩ := ck_wos (N := N) (z := z) ((mq_lshl (1 : Int64) (S.1 23) - 1) &&& (r1 ^^^ (-1 : Int64))) hN h hW
  unfold zf_X4_worldsOf
  rw [i.2.1, mq_cp_s, t1, mq_cp_s, nL_e, nL_e, i.1, mq_cp_s, mq_cp_s, mq_cp_s, i.2.2.1, mq_cp_s, mq_cp_s, t2, t3, t4, t5]
  simp only [mq_cp_s]
  repeat' split
  all_goals exact ⟨_, rfl⟩
theorem ck_41 (v : Int32) (u : Int32) (h : S.1 23 = nI W) (hW : W ≤ 60) (h22 : S.1 22 = nI t) (ht : t ≤ 300) : ∃ r : Int32, (r = 0 ∨ r = 1) ∧ zf_X4_isTrueAt_41 N z v u S = some (r, S) := by
  obtain ⟨r, e⟩ := ck_truth (N := N) (z := z) u h22 ht
  unfold zf_X4_isTrueAt_41
  rw [e, mq_cp_s, mq_cz_0, mq_cz_1]
  rcases ck_hasw (N := N) (z := z) v h hW with a | ⟨k, hk, e, a⟩
  · rw [a, mq_cp_s, if_pos rfl]; exact ⟨0, Or.inl rfl, rfl⟩
  · rw [a, mq_cp_s, if_neg (by decide)]
    by_cases q : (lg_cmp ((mq_lushr r v) &&& (1 : Int64)) (0 : Int64)) = (0 : Int32)
    · rw [if_pos q]; exact ⟨0, Or.inl rfl, rfl⟩
    · rw [if_neg q]; exact ⟨1, Or.inr rfl, rfl⟩
theorem ck_true (v : Int32) (hN : 400 ≤ N) (hc : cxC S n so on tw d) (hm : mdC S) (hf : f < n) : ∃ r S', (r = 0 ∨ r = 1) ∧ zf_X4_isTrueAt N z v (nI f) S = some (r, S') ∧ mdC S' ∧ frM S S' := by
  have h300 := hc.2.2.2.2.1
  obtain ⟨⟨W, hW, h23⟩, t, ht, h22⟩ := id hm
  unfold zf_X4_isTrueAt
  rw [h22, nI_e]
  by_cases e : t ≤ f + 1
  · obtain ⟨S', ⟨a1, a2, t', a3, a4⟩, b⟩ := lp_to (F := fun fu k T => zf_X4_isTrueAt_5 N z fu v (nI f) k T) (n := f + 1) (I := fun T => frM S T ∧ T.1 23 = nI W ∧ ∃ t, t ≤ 300 ∧ T.1 22 = nI t) (G := fun T => zf_X4_isTrueAt_41 N z v (nI f) T) (fun fu T hI => by
      show zf_X4_isTrueAt_5b N z _ v (nI f) (nI (f + 1)) T = _
      unfold zf_X4_isTrueAt_5b
      rw [if_pos (nI_lt (by omega) (by omega))]) (fun fu k T hk hI => by
      obtain ⟨i1, i2, t', i3, i4⟩ := hI
      have hcT : cxC T n so on tw d := cxC_c hc (i1.1 2 (by decide)) (i1.2.1 4 (by decide)) (i1.2.1 5 (by decide)) (i1.2.1 6 (by decide)) (i1.2.1 7 (by decide)) (i1.2.2 0 (by decide))
      obtain ⟨r, hr⟩ := ck_wof (N := N) (z := z) (f := k) (by omega) hcT i2 hW i4 i3 (by omega)
      refine ⟨mq_si (mq_sl T 9 (vp_updL (T.2.2 9) k r)) 22 (nI (k + 1)), ⟨ag_tr i1 (ag_tr (ag_sl (by decide)) (ag_si (by decide))), i2, k + 1, by omega, rfl⟩, ?_⟩
      show zf_X4_isTrueAt_5b N z (fun v1 v2 v3 S => zf_X4_isTrueAt_5 N z fu v1 v2 v3 S) v (nI f) (nI k) T = _
      unfold zf_X4_isTrueAt_5b
      rw [if_neg (nI_nlt (by omega) (by omega)), if_neg (show ¬ (300 : Int32) ≤ nI k from nI_ge (b := 300) (by omega) (by omega))]
      refine (cp_go hr).trans ?_
      rw [mq_ck_of (vp_in_nI (by omega) (by omega)), nI_clamp (by omega), nS_e, nS_e, nI_e, nI_1]) N t S e (by omega) ⟨ag_rf, h23, t, ht, h22⟩
    obtain ⟨r, c1, c2⟩ := ck_41 (N := N) (z := z) v (nI f) a2 hW a4 a3
    exact ⟨r, S', c1, b.trans c2, ⟨⟨W, hW, a2⟩, t', a3, a4⟩, a1⟩
  · obtain ⟨r, c1, c2⟩ := ck_41 (N := N) (z := z) v (nI f) h23 hW h22 ht
    refine ⟨r, S, c1, ?_, hm, ag_rf⟩
    obtain ⟨N', rfl⟩ : ∃ q, N = q + 1 := ⟨N - 1, by omega⟩
    show zf_X4_isTrueAt_5b (N' + 1) z _ v (nI f) (nI t) S = _
    unfold zf_X4_isTrueAt_5b
    rw [if_pos (nI_lt (by omega) (by omega))]
    exact c2
theorem ck_holds (v u : Int32) (hN : 400 ≤ N) (hc : cxC S n so on tw d) (hm : mdC S) : ∃ r S', zf_X10_holds N z v u S = some (r, S') ∧ mdC S' ∧ frM S S' := by
  have h300 := hc.2.2.2.2.1
  obtain ⟨⟨W, hW, h23⟩, t, ht, h22⟩ := id hm
  unfold zf_X10_holds zf_X10_holds_22
  rcases ck_hasw (N := N) (z := z) v h23 hW with a | ⟨k, hk, e, a⟩
  · rw [a, mq_cp_s, if_pos rfl]; exact ⟨_, _, rfl, hm, ag_rf⟩
  · rw [a, mq_cp_s, if_neg (by decide), ck_has, mq_cp_s, hc.1]
    rcases mq_place u (t := n) (by omega) with q | ⟨f, hf, hv, q⟩
    · rw [if_pos q, if_pos rfl]; exact ⟨_, _, rfl, hm, ag_rf⟩
    · rw [if_neg q, if_neg (by decide), hv]
      obtain ⟨r, S', c1, c2, c3, c4⟩ := ck_true (N := N) (z := z) v hN hc hm hf
      rw [c2, mq_cl_s]
      rcases c1 with rfl | rfl
      · rw [mq_cz_0]; exact ⟨_, _, rfl, c3, c4⟩
      · rw [mq_cz_1]; exact ⟨_, _, rfl, c3, c4⟩
end HOLDS
