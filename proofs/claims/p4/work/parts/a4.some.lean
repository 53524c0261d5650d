/-! Loops that end. -/
theorem lp_to {β : Type} {F : Nat → Int32 → mq_St → Option β} {n : Nat} {I : mq_St → Prop} {G : mq_St → Option β} (hend : ∀ fu S, I S → F (fu + 1) (nI n) S = G S) (hstep : ∀ fu k S, k < n → I S → ∃ S', I S' ∧ F (fu + 1) (nI k) S = F fu (nI (k + 1)) S') : ∀ (fu k : Nat) (S : mq_St), k ≤ n → n - k < fu → I S → ∃ S', I S' ∧ F fu (nI k) S = G S'
  | 0, k, S, _, h, _ => by omega
  | fu + 1, k, S, hk, hfu, hI => by
    by_cases e : k = n
    · subst e; exact ⟨S, hI, hend fu S hI⟩
    · obtain ⟨S', a, b⟩ := hstep fu k S (by omega) hI
      obtain ⟨S2, c, d⟩ := lp_to hend hstep fu (k + 1) S' (by omega) (by omega) a
      exact ⟨S2, c, b.trans d⟩
theorem lp_v {A β : Type} {F : Nat → A → Int32 → Option β} {n : Nat} (hend : ∀ fu a, ∃ r, F (fu + 1) a (nI n) = some r) (hstep : ∀ fu k a, k < n → (∃ r, F (fu + 1) a (nI k) = some r) ∨ ∃ a', F (fu + 1) a (nI k) = F fu a' (nI (k + 1))) : ∀ (fu k : Nat) (a : A), k ≤ n → n - k < fu → ∃ r, F fu a (nI k) = some r
  | 0, k, a, _, h => by omega
  | fu + 1, k, a, hk, hfu => by
    by_cases e : k = n
    · subst e; exact hend fu a
    · rcases hstep fu k a (by omega) with h | ⟨a', h⟩
      · exact h
      · rw [h]; exact lp_v hend hstep fu (k + 1) a' (by omega) (by omega)
section SOME
variable {N n : Nat} {z : Nat → Nat} {so on tw : Nat → Int32} {d : Nat → Nat} {S SC SR : mq_St} {W w : Nat}
theorem ck_hasw (v : Int32) (h : S.1 23 = nI W) (hW : W ≤ 60) : (zf_X4_has N z v S = some 0) ∨ ∃ k, k < W ∧ v = nI k ∧ zf_X4_has N z v S = some 1 := by
  unfold zf_X4_has
  rw [h]
  rcases mq_place v (t := W) (by omega) with q | ⟨k, hk, hv, q⟩
  · left
    by_cases e : v < 0
    · rw [if_pos e, mq_cz_0]
    · rw [if_neg e, if_pos (q.resolve_left e), mq_cz_0]
  · right
    exact ⟨k, hk, hv, by rw [if_neg (fun a => q (Or.inl a)), if_neg (fun a => q (Or.inr a)), mq_cz_1]⟩
theorem ck_seen (v u : Int32) (h : S.1 23 = nI W) (hW : W ≤ 60) : ∃ r : Int32, zf_X4_isSeen N z v u S = some r ∧ (r = 0 ∨ r = 1) := by
  unfold zf_X4_isSeen
  rcases ck_hasw (N := N) (z := z) v h hW with a | ⟨k, hk, e, a⟩
  · rw [a, mq_cp_s, if_pos rfl, mq_cz_0]; exact ⟨0, rfl, Or.inl rfl⟩
  · rw [a, mq_cp_s, if_neg (by decide)]
    rcases ck_hasw (N := N) (z := z) u h hW with b | ⟨k', hk', e', b⟩
    · rw [b, mq_cp_s, if_pos rfl, mq_cz_0]; exact ⟨0, rfl, Or.inl rfl⟩
    · rw [b, mq_cp_s, if_neg (by decide), e, mq_ck_of (vp_in_nI (by omega) (by omega)), mq_cz_0, mq_cz_1]
      by_cases c : (lg_cmp ((mq_lushr (S.2.2 7 (nI k).toNatClampNeg) u) &&& (1 : Int64)) (0 : Int64)) = (0 : Int32)
      · rw [if_pos c]; exact ⟨0, rfl, Or.inl rfl⟩
      · rw [if_neg c]; exact ⟨1, rfl, Or.inr rfl⟩
/-- the class's model, and nothing else -/
def frM (S S' : mq_St) : Prop := ag [22, 23, 24] [23, 24, 25, 26, 27] [7, 8, 9] S S'
theorem cs_12 {k2 : Int32 → mq_St → Option (Unit × mq_St)} {S0 : mq_St} (hN : 100 ≤ N) (hW : W ≤ 60) (hw : w < W) {t : Int32} (hS : frM S0 S) (h : S.1 23 = nI W ∧ S.1 22 = t) : ∃ S', (frM S0 S' ∧ S'.1 23 = nI W ∧ S'.1 22 = t) ∧ zf_X4_closeSight_12 N z k2 N (nI w) (nI 0) S = k2 (nI (w + 1)) S' := by
  refine lp_to (F := fun fu k S => zf_X4_closeSight_12 N z k2 fu (nI w) k S) (n := W) (I := fun S' => frM S0 S' ∧ S'.1 23 = nI W ∧ S'.1 22 = t) (G := fun S' => k2 (nI (w + 1)) S') (fun fu S hI => ?_) (fun fu k S hk hI => ?_) N 0 S (by omega) (by omega) ⟨hS, h⟩
  · show zf_X4_closeSight_12b N z k2 _ (nI w) (nI W) S = _
    unfold zf_X4_closeSight_12b
    rw [hI.2.1, if_pos (nI_le (Nat.le_refl _) (by omega)), nI_e, nI_1]
  · show ∃ S', (frM S0 S' ∧ S'.1 23 = nI W ∧ S'.1 22 = t) ∧ zf_X4_closeSight_12b N z k2 (fun v1 v2 S => zf_X4_closeSight_12 N z k2 fu v1 v2 S) (nI w) (nI k) S = _
    unfold zf_X4_closeSight_12b zf_X4_closeSight_44
    obtain ⟨r, hr, -⟩ := ck_seen (N := N) (z := z) (nI k) (nI w) hI.2.1 hW
    rw [hr, mq_cp_s, hI.2.1, if_neg (nI_ge hk (by omega)), nI_e, nI_1]
    by_cases e : r = 0
    · exact ⟨S, hI, by rw [if_pos e]⟩
    · refine ⟨mq_sl S 7 (vp_updL (S.2.2 7) k (S.2.2 7 k ||| S.2.2 7 w)), ⟨ag_tr hI.1 (ag_sl (by decide)), hI.2⟩, ?_⟩
      · rw [if_neg e, mq_ck_of (vp_in_nI (by omega) (by omega)), mq_ck_of (vp_in_nI (by omega) (by omega)), mq_ck_of (vp_in_nI (by omega) (by omega)), nI_clamp (by omega), nI_clamp (by omega), nS_e]
        rfl
theorem cs_all {S0 : mq_St} (hN : 100 ≤ N) (hW : W ≤ 60) {t : Int32} (hS : frM S0 S) (h : S.1 23 = nI W ∧ S.1 22 = t) : ∃ S', (frM S0 S' ∧ S'.1 23 = nI W ∧ S'.1 22 = t) ∧ zf_X4_closeSight N z S = some ((), S') := by
  unfold zf_X4_closeSight
  rw [nI_e]
  refine lp_to (F := fun fu k S => zf_X4_closeSight_2 N z fu k S) (n := W) (I := fun S' => frM S0 S' ∧ S'.1 23 = nI W ∧ S'.1 22 = t) (G := fun S' => some ((), S')) (fun fu S hI => ?_) (fun fu k S hk hI => ?_) N 0 S (by omega) (by omega) ⟨hS, h⟩
  · show zf_X4_closeSight_2b N z _ (nI W) S = _
    unfold zf_X4_closeSight_2b
    rw [hI.2.1, if_pos (nI_le (Nat.le_refl _) (by omega))]
  · obtain ⟨S', a, b⟩ := cs_12 (N := N) (z := z) (k2 := fun v1 S => zf_X4_closeSight_2 N z fu v1 S) hN hW hk hI.1 hI.2
    refine ⟨S', a, ?_⟩
    show zf_X4_closeSight_2b N z (fun v1 S => zf_X4_closeSight_2 N z fu v1 S) (nI k) S = _
    unfold zf_X4_closeSight_2b
    rw [hI.2.1, if_neg (nI_ge hk (by omega)), nI_e]
    exact b
theorem ck_lets (hN : 400 ≤ N) (hc : cxC S n so on tw d) (hw : w < 60) : ∃ r, zf_X8_lettersOf N z (nI w) S = some r := by
  have h300 := hc.2.2.2.2.1
  unfold zf_X8_lettersOf
  rw [nI_e, nI_e]
  refine lp_v (F := fun fu a k => zf_X8_lettersOf_4 N z S fu (nI w) a k) (n := n) (fun fu a => ?_) (fun fu k a hk => ?_) N 0 0 (by omega) (by omega)
  · refine ⟨a, ?_⟩
    show zf_X8_lettersOf_4b N z S _ (nI w) a (nI n) = _
    unfold zf_X8_lettersOf_4b
    refine (cp_go (v := nI n) (congrArg some hc.1)).trans ?_
    rw [if_pos (nI_le (Nat.le_refl _) (by omega))]
  · right
    show ∃ a', zf_X8_lettersOf_4b N z S (fun v1 v2 v3 => zf_X8_lettersOf_4 N z S fu v1 v2 v3) (nI w) a (nI k) = _
    have i := ck_in (N := N) (z := z) hc.1 h300 hk
    have hh := se_has (N := N) (R := 60) (r := w) (f := k) (z := fun k => [300].getD k 0) (S := mq_pull S [] [] [3]) rfl (by omega) hw (by omega)
    unfold zf_X8_lettersOf_4b zf_X8_lettersOf_52
    rw [show zf_X7_size N z S = some (nI n) from congrArg some hc.1, mq_cp_s, if_neg (nI_ge hk (by omega)), i.1, mq_cp_s, i.2.1, hh, mq_cp_s, mq_cp_s, nI_e, nI_e, nI_1]
    by_cases e : S.2.1 4 k = 2
    · rw [if_pos e]
      by_cases e' : (if lb ((mq_pull S [] [] [3]).2.2 0) w k = true then (1 : Int32) else 0) = 0
      · rw [if_pos e']; exact ⟨a, rfl⟩
      · rw [if_neg e']; exact ⟨_, rfl⟩
    · rw [if_neg e]; exact ⟨a, rfl⟩
theorem ck_size {l : Nat → Int64} (hN : 100 ≤ N) (hw : w < 60) : ∃ r, zf_X6_sizeOf N (fun k => [300].getD k 0) (nI w) (mq_pull S [] [] [3]) = some r := by
  unfold zf_X6_sizeOf
  rw [nI_e, nI_e]
  refine lp_v (F := fun fu a k => zf_X6_sizeOf_4 N (fun k => [300].getD k 0) (mq_pull S [] [] [3]) fu (nI w) a k) (n := 5) (fun fu a => ?_) (fun fu k a hk => ?_) N 0 0 (by omega) (by omega)
  · refine ⟨a, ?_⟩
    show zf_X6_sizeOf_4b N _ _ _ (nI w) a (nI 5) = _
    unfold zf_X6_sizeOf_4b
    rw [if_pos (by decide)]
  · right
    show ∃ a', zf_X6_sizeOf_4b N (fun k => [300].getD k 0) (mq_pull S [] [] [3]) (fun v1 v2 v3 => zf_X6_sizeOf_4 N (fun k => [300].getD k 0) (mq_pull S [] [] [3]) fu v1 v2 v3) (nI w) a (nI k) = _
    unfold zf_X6_sizeOf_4b
    rw [if_neg (show ¬ (5 : Int32) ≤ nI k from nI_ge (b := 5) hk (by omega)), se_bits (N := N) (R := 60) (z := fun k => [300].getD k 0) rfl (by omega) hw hk, mq_cp_s, bc_is, mq_cp_s, nI_e, nI_e, nI_1]
    exact ⟨_, rfl⟩
theorem ck_addw {v1 v4 : Int32} {v2 : Int64} {S0 : mq_St} (hW : W ≤ 60) (hS : frM S0 S) (h : S.1 23 = nI W) : ∃ S' W', W' ≤ 60 ∧ S'.1 23 = nI W' ∧ S'.1 22 = S.1 22 ∧ frM S0 S' ∧ zf_X4_addWorld N z v1 v2 v4 S = some ((), S') := by
  unfold zf_X4_addWorld
  rw [h]
  by_cases e : W = 60
  · exact ⟨S, W, hW, h, rfl, hS, by rw [e, if_pos (by decide)]⟩
  · refine ⟨mq_si (mq_sa (mq_sl (mq_sa S 23 (upd (S.2.1 23) W v1)) 7 (vp_updL (S.2.2 7) W (v2 ||| mq_lshl 1 (nI W)))) 25 (upd (S.2.1 25) W v4)) 23 (nI (W + 1)), W + 1, by omega, rfl, rfl, ag_tr hS (ag_tr (ag_tr (ag_tr (ag_sa (by decide)) (ag_sl (by decide))) (ag_sa (by decide))) (ag_si (by decide))), ?_⟩
    have i1 : vp_in (nI W) 60 := vp_in_nI (by omega) (by omega)
    rw [if_neg (show ¬ (60 : Int32) ≤ nI W from nI_ge (b := 60) (by omega) (by omega)), mq_ck_of i1, nI_clamp (by omega), nS_e, show (mq_sa S 23 (upd (S.2.1 23) W v1)).1 23 = nI W from h, mq_ck_of i1, nI_clamp (by omega), nS_e]
    rw [show (mq_sl (mq_sa S 23 (upd (S.2.1 23) W v1)) 7 (vp_updL ((mq_sa S 23 (upd (S.2.1 23) W v1)).2.2 7) W (v2 ||| mq_lshl 1 (nI W)))).1 23 = nI W from h, mq_ck_of i1, nI_clamp (by omega), nS_e, nS_e]
    show some ((), mq_si _ 23 (S.1 23 + 1)) = _
    rw [h, nI_1]
    rfl
theorem ck_fillm {l : Nat → Int64} (hN : 400 ≤ N) (hc : cxC S n so on tw d) (h15 : S.1 15 = nI W) (hW : W ≤ 60) : ∃ S' W', W' ≤ 60 ∧ S'.1 23 = nI W' ∧ S'.1 22 = 0 ∧ frM S S' ∧ zf_X8_fillModel N z S = some ((), S') := by
  have cl : zf_X4_clear N z S = some ((), mq_si (mq_si (mq_si S 23 0) 22 0) 24 0) := by
    unfold zf_X4_clear
    rw [nS_e, nS_e, mq_cz_0, nS_e]
  have key := lp_to (F := fun fu k T => zf_X8_fillModel_6 N z fu k T) (n := W) (I := fun T => frM S T ∧ T.1 22 = 0 ∧ ∃ c, c ≤ 60 ∧ T.1 23 = nI c) (G := fun T => zf_X8_fillModel_49 N z T) (fun fu T hI => by
    show zf_X8_fillModel_6b N z _ (nI W) T = _
    unfold zf_X8_fillModel_6b
    rw [hI.1.1 15 (by decide), h15, if_pos (nI_le (Nat.le_refl _) (by omega))]) (fun fu k T hk hI => by
    obtain ⟨hI1, hI2, c, hc1, hc2⟩ := hI
    have hcT : cxC T n so on tw d := cxC_c hc (hI1.1 2 (by decide)) (hI1.2.1 4 (by decide)) (hI1.2.1 5 (by decide)) (hI1.2.1 6 (by decide)) (hI1.2.1 7 (by decide)) (hI1.2.2 0 (by decide))
    obtain ⟨r, hr⟩ := ck_lets (N := N) (z := z) (w := k) (by omega) hcT (by omega)
    obtain ⟨s, hs⟩ := ck_size (N := N) (S := T) (w := k) (l := fun _ => 0) (by omega) (by omega)
    obtain ⟨S', W', a1, a2, a2', a3, a4⟩ := ck_addw (N := N) (z := z) (v1 := r) (v4 := s) (v2 := T.2.2 1 k) hc1 hI1 hc2
    have h22 : S'.1 22 = 0 := a2'.trans hI2
    refine ⟨S', ⟨a3, h22, W', a1, a2⟩, ?_⟩
    show zf_X8_fillModel_6b N z (fun v2 S => zf_X8_fillModel_6 N z fu v2 S) (nI k) T = _
    unfold zf_X8_fillModel_6b
    rw [hI1.1 15 (by decide), h15, if_neg (nI_ge hk (by omega)), if_neg (show ¬ (60 : Int32) ≤ nI k from nI_ge (b := 60) (by omega) (by omega))]
    refine (cp_go hr).trans ?_
    rw [mq_ck_of (vp_in_nI (by omega) (by omega)), nI_clamp (by omega)]
    refine (cp_go hs).trans ((cl_go a4).trans ?_)
    rw [nI_e, nI_1]) N 0 (mq_si (mq_si (mq_si S 23 0) 22 0) 24 0) (by omega) (by omega) ⟨ag_tr (ag_tr (ag_si (by decide)) (ag_si (by decide))) (ag_si (by decide)), rfl, 0, by omega, rfl⟩
  obtain ⟨T, ⟨k1, k2, c, k3, k4⟩, k5⟩ := key
  obtain ⟨S', ⟨b1, b2, b2'⟩, b3⟩ := cs_all (N := N) (z := z) (by omega) k3 k1 ⟨k4, k2⟩
  refine ⟨S', c, k3, b2, b2', b1, ?_⟩
  · unfold zf_X8_fillModel
    refine (cl_go cl).trans ?_
    rw [nI_e]
    refine k5.trans ?_
    unfold zf_X8_fillModel_49
    exact cl_go b3
end SOME
