/-! The reference's model: what fold() calls. -/
section RFOLD
variable {N n : Nat} {z : Nat → Nat} {S S0 : mq_St} {W w c : Nat}
theorem rf_group (v : Int32) (hN : 100 ≤ N) (h : S.1 31 = nI W) (hW : W ≤ 60) (hw : w < W) : ∃ r : Int32, zf_X11_seesGroup N z (nI w) v S = some r := by
  unfold zf_X11_seesGroup
  rw [nI_e]
  refine lp_v (F := fun fu (_ : Unit) k => zf_X11_seesGroup_2 N z S fu (nI w) v k) (n := W) (fun fu a => ?_) (fun fu k a hk => ?_) N 0 () (by omega) (by omega)
  · show ∃ r, zf_X11_seesGroup_2b N z S _ (nI w) v (nI W) = some r
    unfold zf_X11_seesGroup_2b
    rw [h, if_pos (nI_le (Nat.le_refl _) (by omega)), mq_cz_0]
    exact ⟨_, rfl⟩
  · show (∃ r, zf_X11_seesGroup_2b N z S (fun v1 v2 v3 => zf_X11_seesGroup_2 N z S fu v1 v2 v3) (nI w) v (nI k) = some r) ∨ ∃ a' : Unit, zf_X11_seesGroup_2b N z S (fun v1 v2 v3 => zf_X11_seesGroup_2 N z S fu v1 v2 v3) (nI w) v (nI k) = _
    unfold zf_X11_seesGroup_2b zf_X11_seesGroup_36
    rw [h, if_neg (nI_ge hk (by omega)), e60, mq_ck_of (vp_in_nI (by omega) (by omega)), mq_ck_of (show vp_in (nI k) 60 from vp_in_nI (by omega) (by omega)), mq_cz_1, nI_e, nI_1]
    repeat' split
    all_goals first | exact Or.inl ⟨_, rfl⟩ | exact Or.inr ⟨(), rfl⟩
theorem al_19 {a b : Nat} (h : S.1 31 = nI W) (hW : W ≤ 60) (ha : a < W) (hb : b < W) : ∀ (fu k : Nat), k ≤ W → W - k < fu → ∃ r : Int32, zf_X11_isAlike_19 N z S fu (nI a) (nI b) (nI k) = some r ∧ (a = b → r = 1)
  | 0, k, _, h => by omega
  | fu + 1, k, hk, hfu => by
    show ∃ r : Int32, zf_X11_isAlike_19b N z S (fun v1 v2 v3 => zf_X11_isAlike_19 N z S fu v1 v2 v3) (nI a) (nI b) (nI k) = some r ∧ _
    unfold zf_X11_isAlike_19b
    rw [h]
    by_cases e : k = W
    · rw [e, if_pos (nI_le (Nat.le_refl _) (by omega)), mq_cz_1]; exact ⟨1, rfl, fun _ => rfl⟩
    · rw [if_neg (nI_ge (show k < W by omega) (by omega)), e60, e60, mq_ck_of (vp_in_nI (by omega) (by omega)), mq_ck_of (vp_in_nI (by omega) (by omega)), mq_cz_0, nI_e, nI_1]
      by_cases q : S.2.1 41 (nI (60 * a + k)).toNatClampNeg = S.2.1 41 (nI (60 * b + k)).toNatClampNeg
      · rw [if_pos q]; exact al_19 h hW ha hb fu (k + 1) (by omega) (by omega)
      · rw [if_neg q]; exact ⟨0, rfl, fun e => absurd (by rw [e]) q⟩
/-- isAlike ends, and a world is like itself -/
theorem rf_alike {a b : Nat} (hN : 100 ≤ N) (h : S.1 31 = nI W) (hW : W ≤ 60) (ha : a < W) (hb : b < W) : ∃ r : Int32, zf_X11_isAlike N z (nI a) (nI b) S = some r ∧ (¬ r = 0 → S.2.1 39 a = S.2.1 39 b) ∧ (a = b → ¬ r = 0) := by
  obtain ⟨r, h1, h2⟩ := al_19 (N := N) (z := z) h hW ha hb N 0 (by omega) (by omega)
  unfold zf_X11_isAlike
  rw [mq_ck_of (show vp_in (nI a) 60 from vp_in_nI (by omega) (by omega)), mq_ck_of (show vp_in (nI b) 60 from vp_in_nI (by omega) (by omega)), nI_clamp (show a < 2147483648 by omega), nI_clamp (show b < 2147483648 by omega), nI_e, mq_cz_0]
  by_cases q : S.2.1 39 a = S.2.1 39 b
  · rw [if_pos q]; exact ⟨r, h1, fun _ => q, fun e => by rw [h2 e]; decide⟩
  · rw [if_neg q]; exact ⟨0, rfl, fun e => absurd rfl e, fun e => absurd (by rw [e]) q⟩
theorem rf_look (hN : 100 ≤ N) (h : S.1 31 = nI W) (hW : W ≤ 60) : ∃ S', ag [] [41] [] S S' ∧ zf_X11_look N z S = some ((), S') := by
  unfold zf_X11_look
  rw [nI_e]
  refine lp_to (F := fun fu k T => zf_X11_look_2 N z fu k T) (n := W) (I := fun T => ag [] [41] [] S T) (G := fun T => some ((), T)) (fun fu T hI => ?_) (fun fu k T hk hI => ?_) N 0 S (by omega) (by omega) ag_rf
  · show zf_X11_look_2b N z _ (nI W) T = _
    unfold zf_X11_look_2b
    rw [hI.1 31 (by decide), h, if_pos (nI_le (Nat.le_refl _) (by omega))]
  · show ∃ S', ag [] [41] [] S S' ∧ zf_X11_look_2b N z (fun v1 S => zf_X11_look_2 N z fu v1 S) (nI k) T = _
    unfold zf_X11_look_2b
    rw [hI.1 31 (by decide), h, if_neg (nI_ge hk (by omega)), nI_e]
    refine lp_to (F := fun fu2 j T => zf_X11_look_12 N z (fun v1 S => zf_X11_look_2 N z fu v1 S) fu2 (nI k) j T) (n := W) (I := fun T => ag [] [41] [] S T) (G := fun T => zf_X11_look_2 N z fu (nI (k + 1)) T) (fun fu2 T hI => ?_) (fun fu2 j T hj hI => ?_) N 0 T (by omega) (by omega) hI
    · show zf_X11_look_12b N z _ _ (nI k) (nI W) T = _
      unfold zf_X11_look_12b
      rw [hI.1 31 (by decide), h, if_pos (nI_le (Nat.le_refl _) (by omega)), nI_e, nI_1]
    · have hT : T.1 31 = nI W := (hI.1 31 (by decide)).trans h
      obtain ⟨r, hr⟩ := rf_group (N := N) (z := z) (S := T) (nI j) hN hT hW hk
      refine ⟨mq_sa T 41 (upd (T.2.1 41) (60 * k + j) (vp_nar .boolean r)), ag_tr hI (ag_sa (by decide)), ?_⟩
      show zf_X11_look_12b N z (fun v1 S => zf_X11_look_2 N z fu v1 S) (fun v1 v2 S => zf_X11_look_12 N z (fun v1 S => zf_X11_look_2 N z fu v1 S) fu2 v1 v2 S) (nI k) (nI j) T = _
      unfold zf_X11_look_12b
      rw [hT, if_neg (nI_ge hj (by omega)), hr, mq_cp_s, e60, mq_ck_of (vp_in_nI (by omega) (by omega)), nI_clamp (by omega), nS_e, nI_e, nI_1]
end RFOLD
