/-! The reference's model: holds() ends. -/
section RHOLDS
variable {N n : Nat} {z : Nat → Nat} {so on tw : Nat → Int32} {d : Nat → Nat} {S S0 : mq_St} {W w t f : Nat}
theorem it_209 {v4 : Int32} (hN : 100 ≤ N) (hx : cxR S n so on tw d) (h : S.1 31 = nI W) (hW : W ≤ 60) (hw : w < W) (hf : f < n) (ho : ∃ p, p < f ∧ on f = nI p) : ∃ r : Int32, (r = 0 ∨ r = 1) ∧ zf_X11_isTrue_209 N z S N (nI f) (nI w) 0 v4 0 = some r := by
  have h300 := hx.2.2.2.2.1
  obtain ⟨p, hp, hp'⟩ := ho
  have i1 : vp_in (nI f) 300 := vp_in_nI (by omega) (by omega)
  have c1 : (nI f).toNatClampNeg = f := nI_clamp (by omega)
  have e3 : S.2.1 3 f = nI p := (hx.2.1 f hf).2.1.trans hp'
  refine lp_s (F := fun fu a k => zf_X11_isTrue_209 N z S fu (nI f) (nI w) a v4 k) (n := W) (Q := fun x => ∃ r : Int32, (r = 0 ∨ r = 1) ∧ x = some r) (fun fu a => ?_) (fun fu k a hk => ?_) N 0 0 (by omega) (by omega)
  · show ∃ r : Int32, (r = 0 ∨ r = 1) ∧ zf_X11_isTrue_209b N z S _ (nI f) (nI w) a v4 (nI W) = some r
    unfold zf_X11_isTrue_209b
    rw [h, if_pos (nI_le (Nat.le_refl _) (by omega)), mq_cz_0, mq_cz_1]
    by_cases e : a = v4
    · rw [if_pos e]; exact ⟨0, Or.inl rfl, rfl⟩
    · rw [if_neg e]; exact ⟨1, Or.inr rfl, rfl⟩
  · show ∃ a', zf_X11_isTrue_209b N z S (fun v1 v2 v3 v4 v5 => zf_X11_isTrue_209 N z S fu v1 v2 v3 v4 v5) (nI f) (nI w) a v4 (nI k) = _
    unfold zf_X11_isTrue_209b zf_X11_isTrue_263 zf_X11_isTrue_259 zf_X11_isTrue_264
    rw [h, if_neg (nI_ge hk (by omega)), c1, e3, e60, e60, mq_ck_of (vp_in_nI (by omega) (by omega)), mq_ck_of i1, mq_ck_of (vp_in_nI (by omega) (by omega))]
    simp only [nI_e, nI_1]
    repeat' split
    all_goals exact ⟨_, rfl⟩
theorem fw_so (h : fw n so on tw d) (hf : f < n) : ∃ s, s ≤ 7 ∧ so f = nI s := by
  rcases h.2.2.2.2 f hf with ⟨-, e, -⟩ | ⟨-, e, -⟩ | ⟨⟨e, -⟩ | ⟨e, -⟩, -⟩ | ⟨⟨e, -⟩ | ⟨e, -⟩, -⟩ | ⟨⟨e, -⟩ | ⟨e, -⟩, -⟩
  · exact ⟨0, by omega, e⟩
  · exact ⟨1, by omega, e⟩
  · exact ⟨2, by omega, e⟩
  · exact ⟨3, by omega, e⟩
  · exact ⟨4, by omega, e⟩
  · exact ⟨5, by omega, e⟩
  · exact ⟨6, by omega, e⟩
  · exact ⟨7, by omega, e⟩
theorem rf_true (hN : 100 ≤ N) (hx : cxR S n so on tw d) (h : S.1 31 = nI W) (hW : W ≤ 60) (hw : w < W) (hf : f < n) : ∃ r : Int32, (r = 0 ∨ r = 1) ∧ zf_X11_isTrue N z (nI f) (nI w) S = some r := by
  have hfw := hx.2.2.2
  have h300 := hfw.2.1
  obtain ⟨s, hs, es⟩ := fw_so hfw hf
  have i1 : vp_in (nI f) 300 := vp_in_nI (by omega) (by omega)
  have c1 : (nI f).toNatClampNeg = f := nI_clamp (by omega)
  have i2 : vp_in (nI w) 60 := vp_in_nI (by omega) (by omega)
  have e2 : S.2.1 2 f = nI s := (hx.2.1 f hf).1.trans es
  unfold zf_X11_isTrue zf_X11_isTrue_182 zf_X11_isTrue_204
  rw [nI_e, mq_ck_of i1, c1, e2]
  have k : s = 0 ∨ s = 1 ∨ s = 2 ∨ s = 3 ∨ s = 4 ∨ s = 5 ∨ s = 6 ∨ s = 7 := by omega
  rcases k with rfl | rfl | rfl | rfl | rfl | rfl | rfl | rfl
  · rw [if_pos (by decide), mq_cz_1]; exact ⟨1, Or.inr rfl, rfl⟩
  · rw [if_neg (by decide), if_pos (by decide), mq_cz_0]; exact ⟨0, Or.inl rfl, rfl⟩
  · rw [if_neg (by decide), if_neg (by decide), if_pos (by decide), mq_ck_of i2, mq_ck_of i1, mq_cz_0, mq_cz_1]
    split
    · exact ⟨0, Or.inl rfl, rfl⟩
    · exact ⟨1, Or.inr rfl, rfl⟩
  · rw [if_neg (by decide), if_neg (by decide), if_neg (by decide), if_pos (by decide), mq_ck_of i2, mq_ck_of i1, mq_cz_0, mq_cz_1]
    split
    · exact ⟨1, Or.inr rfl, rfl⟩
    · exact ⟨0, Or.inl rfl, rfl⟩
  · obtain ⟨p1f, p2f, p3f, -⟩ := fw_1 hfw hf es (by omega) (by omega)
    obtain ⟨p5f, p6f⟩ := p3f (by omega)
    rw [if_neg (by decide), if_neg (by decide), if_neg (by decide), if_neg (by decide), if_pos (by decide), mq_ck_of i1, (hx.2.1 f hf).2.1, (hx.2.1 f hf).2.2, p2f, p6f, e60, e60, mq_ck_of (vp_in_nI (by omega) (by omega)), mq_ck_of i1, mq_ck_of (vp_in_nI (by omega) (by omega)), mq_cz_0, mq_cz_1]
    repeat' split
    · exact ⟨0, Or.inl rfl, rfl⟩
    · exact ⟨0, Or.inl rfl, rfl⟩
    · exact ⟨1, Or.inr rfl, rfl⟩
  · obtain ⟨p1f, p2f, p3f, -⟩ := fw_1 hfw hf es (by omega) (by omega)
    obtain ⟨p5f, p6f⟩ := p3f (by omega)
    rw [if_neg (by decide), if_neg (by decide), if_neg (by decide), if_neg (by decide), if_neg (by decide), if_pos (by decide), mq_ck_of i1, (hx.2.1 f hf).2.1, (hx.2.1 f hf).2.2, p2f, p6f, e60, e60, mq_ck_of (vp_in_nI (by omega) (by omega)), mq_ck_of i1, mq_ck_of (vp_in_nI (by omega) (by omega)), mq_cz_0, mq_cz_1]
    repeat' split
    · exact ⟨0, Or.inl rfl, rfl⟩
    · exact ⟨1, Or.inr rfl, rfl⟩
    · exact ⟨1, Or.inr rfl, rfl⟩
  · obtain ⟨p1f, p2f, -, -⟩ := fw_1 hfw hf es (by omega) (by omega)
    rw [if_neg (by decide), if_neg (by decide), if_neg (by decide), if_neg (by decide), if_neg (by decide), if_neg (by decide), mq_ck_of i1, if_pos (by decide), nI_e, nI_e]
    exact it_209 hN hx h hW hw hf ⟨_, p1f, p2f⟩
  · obtain ⟨p1f, p2f, -, -⟩ := fw_1 hfw hf es (by omega) (by omega)
    rw [if_neg (by decide), if_neg (by decide), if_neg (by decide), if_neg (by decide), if_neg (by decide), if_neg (by decide), mq_ck_of i1, if_neg (by decide), nI_e, nI_e]
    exact it_209 hN hx h hW hw hf ⟨_, p1f, p2f⟩
/-- truth values alone -/
def b01 (a : Nat → Int32) : Prop := ∀ i, a i = 0 ∨ a i = 1
theorem b01_u {a : Nat → Int32} {i : Nat} {r : Int32} (h : b01 a) (hr : r = 0 ∨ r = 1) : b01 (upd a i (vp_nar .boolean r)) := fun j => by
  by_cases e : j = i
  · rw [e, up_s]
    rcases hr with rfl | rfl
    · exact Or.inl rfl
    · exact Or.inr rfl
  · rw [up_o e]; exact h j
theorem hd_35 {k : Nat} {v u : Int32} {k27 : Int32 → Int32 → Int32 → mq_St → Option (Int32 × mq_St)} (hN : 100 ≤ N) (hx : cxR S0 n so on tw d) (h : S0.1 31 = nI W) (hW : W ≤ 60) (hk : k < n) (hS : ag [] [38] [] S0 S) (hb : b01 (S.2.1 38)) : ∃ S', (ag [] [38] [] S0 S' ∧ b01 (S'.2.1 38)) ∧ zf_X11_holds_35 N z k27 N v u (nI k) 0 S = k27 v u (nI (k + 1)) S' := by
  have h300 := hx.2.2.2.2.1
  refine lp_to (F := fun fu j T => zf_X11_holds_35 N z k27 fu v u (nI k) j T) (n := W) (I := fun T => ag [] [38] [] S0 T ∧ b01 (T.2.1 38)) (G := fun T => k27 v u (nI (k + 1)) T) (fun fu T hI => ?_) (fun fu j T hj hI => ?_) N 0 S (by omega) (by omega) ⟨hS, hb⟩
  · show zf_X11_holds_35b N z k27 _ v u (nI k) (nI W) T = _
    unfold zf_X11_holds_35b
    rw [hI.1.1 31 (by decide), h, if_pos (nI_le (Nat.le_refl _) (by omega)), nI_e, nI_1]
  · have hxT : cxR T n so on tw d := cxR_c hx (hI.1.1 3 (by decide)) (hI.1.2.1 2 (by decide)) (hI.1.2.1 3 (by decide)) (hI.1.2.1 4 (by decide))
    have hT : T.1 31 = nI W := (hI.1.1 31 (by decide)).trans h
    obtain ⟨r, hr, hr'⟩ := rf_true (N := N) (z := z) hN hxT hT hW hj hk
    refine ⟨mq_sa T 38 (upd (T.2.1 38) (60 * k + j) (vp_nar .boolean r)), ⟨ag_tr hI.1 (ag_sa (by decide)), b01_u hI.2 hr⟩, ?_⟩
    show zf_X11_holds_35b N z k27 (fun v1 v2 v3 v4 S => zf_X11_holds_35 N z k27 fu v1 v2 v3 v4 S) v u (nI k) (nI j) T = _
    unfold zf_X11_holds_35b
    rw [hT, if_neg (nI_ge hj (by omega)), hr', mq_cp_s, e60, mq_ck_of (vp_in_nI (by omega) (by omega)), nI_clamp (by omega), nS_e, nI_e, nI_1]
theorem rf_holds (v u : Int32) (hN : 400 ≤ N) (hx : cxR S n so on tw d) (h : S.1 31 = nI W) (hW : W ≤ 60) (hb : b01 (S.2.1 38)) : ∃ r S', zf_X11_holds N z v u S = some (r, S') ∧ ag [0] [38] [] S S' ∧ b01 (S'.2.1 38) := by
  have h300 := hx.2.2.2.2.1
  unfold zf_X11_holds
  rcases rf_w0 (N := N) (z := z) v h hW with a | ⟨k, hk, e, a⟩
  · rw [a, mq_cl_s, if_pos rfl, mq_cz_0]; exact ⟨_, _, rfl, ag_si (by decide), hb⟩
  · rw [a, mq_cl_s, if_neg (by decide), rf_isF u (show (mq_si S 0 0).1 3 = nI n from hx.1) h300, mq_cp_s]
    rcases mq_place u (t := n) (by omega) with q | ⟨f, hf, hv, q⟩
    · rw [if_pos q, if_pos rfl, nS_e, mq_cz_0]; exact ⟨_, _, rfl, ag_tr (ag_si (by decide)) (ag_si (by decide)), hb⟩
    · rw [if_neg q, if_neg (by decide), nI_e, hv, e]
      obtain ⟨T, ⟨t1, t2⟩, t3⟩ := lp_to (F := fun fu j T => zf_X11_holds_27 N z fu (nI k) (nI f) j T) (n := f + 1) (I := fun T => ag [] [38] [] (mq_si S 0 0) T ∧ b01 (T.2.1 38)) (G := fun T => some (T.2.1 38 (60 * f + k), T)) (fun fu T hI => by
        show zf_X11_holds_27b N z _ (nI k) (nI f) (nI (f + 1)) T = _
        unfold zf_X11_holds_27b
        rw [if_pos (nI_lt (by omega) (by omega)), e60, mq_ck_of (vp_in_nI (by omega) (by omega)), nI_clamp (by omega)]
        rcases hI.2 (60 * f + k) with e | e
        · rw [e, mq_cz_0]
        · rw [e, mq_cz_1]) (fun fu j T hj hI => by
        obtain ⟨T', a1, a2⟩ := hd_35 (N := N) (z := z) (S0 := mq_si S 0 0) (S := T) (k := j) (v := nI k) (u := nI f) (k27 := fun v1 v2 v3 S => zf_X11_holds_27 N z fu v1 v2 v3 S) (by omega) (cxR_c hx rfl rfl rfl rfl) h hW (by omega) hI.1 hI.2
        refine ⟨T', a1, ?_⟩
        show zf_X11_holds_27b N z (fun v1 v2 v3 S => zf_X11_holds_27 N z fu v1 v2 v3 S) (nI k) (nI f) (nI j) T = _
        unfold zf_X11_holds_27b
        rw [if_neg (nI_nlt (by omega) (by omega)), nI_e]
        exact a2) N 0 (mq_si S 0 0) (by omega) (by omega) ⟨ag_rf, hb⟩
      exact ⟨_, T, t3, ag_tr (ag_si (by decide)) (ag_mono t1 (by decide) (by decide) (by decide)), t2⟩
end RHOLDS
