/-! The reference's model: holds() ends. -/
section RHOLDS
variable {N n : Nat} {z : Nat → Nat} {so on tw : Nat → Int32} {d : Nat → Nat} {S S0 : mq_St} {W w t f : Nat}
theorem it_209 {v4 : Int32} (hN : 100 ≤ N) (hx : cxR S n so on tw d) (h : S.1 31 = nI W) (hW : W ≤ 60) (hw : w < W) (hf : f < n) (ho : ∃ p, p < f ∧ on f = nI p) : ∃ r : Int32, (r = 0 ∨ r = 1) ∧ zf_X11_isTrue_209 N z S N (nI f) (nI w) 0 v4 0 = some r := by
  have h300 := hx.2.2.2.2.1
  obtain ⟨p, hp, hp'⟩ := ho
  have i1 : vp_in (nI f) 300 := vp_in_nI (by omega) (by omega)
  have c1 : (nI f).toNatClampNeg = f := nI_clamp (by omega)
  have e3 : S.2.1 3 f = nI p := (hx.2.1 f hf).2.1.trans hp'
  refine lp_s (F := fun fu a k => zf_X11_isTrue_209 N z S fu (nI f) (nI w) a v4 k) (n := W) (Q := fun x => ∃ r : Int32, (r = 0 ∨ r = 1) ∧ x = some r) (fun fu a => ?_) (fun fu k a hk => ?_) N 0 0 (by omega) (by omega)
  · show ∃ r : Int32, (r = 0 ∨ r = 1) ∧ zf_X11_isTrue_209b N z S _ (nI f) (nI w) a v4 (nI W) = some r
    unfold zf_X11_isTrue_209b
    rw [h, if_pos (nI_le (Nat.le_refl _) (by omega)), mq_cz_0, mq_cz_1]
    by_cases e : a = v4
    · rw [if_pos e]; exact ⟨0, Or.inl rfl, rfl⟩
    · rw [if_neg e]; exact ⟨1, Or.inr rfl, rfl⟩
  · show ∃ a', zf_X11_isTrue_209b N z S (fun v1 v2 v3 v4 v5 => zf_X11_isTrue_209 N z S fu v1 v2 v3 v4 v5) (nI f) (nI w) a v4 (nI k) = _
    unfold zf_X11_isTrue_209b zf_X11_isTrue_263 zf_X11_isTrue_259 zf_X11_isTrue_264
    rw [h, if_neg (nI_ge hk (by omega)), c1, e3, e60, e60, mq_ck_of (vp_in_nI (by omega) (by omega)), mq_ck_of i1, mq_ck_of (vp_in_nI (by omega) (by omega))]
    simp only [nI_e, nI_1]
    repeat' split
    all_goals exact ⟨_, rfl⟩
theorem fw_so (h : fw n so on tw d) (hf : f < n) : ∃ s, s ≤ 7 ∧ so f = nI s := by
  rcases h.2.2.2.2 f hf with ⟨-, e, -⟩ | ⟨-, e, -⟩ | ⟨⟨e, -⟩ | ⟨e, -⟩, -⟩ | ⟨⟨e, -⟩ | ⟨e, -⟩, -⟩ | ⟨⟨e, -⟩ | ⟨e, -⟩, -⟩
  · exact ⟨0, by omega, e⟩
  · exact ⟨1, by omega, e⟩
  · exact ⟨2, by omega, e⟩
  · exact ⟨3, by omega, e⟩
  · exact ⟨4, by omega, e⟩
  · exact ⟨5, by omega, e⟩
  · exact ⟨6, by omega, e⟩
  · exact ⟨7, by omega, e⟩
theorem rf_true (hN : 100 ≤ N) (hx : cxR S n so on tw d) (h : S.1 31 = nI W) (hW : W ≤ 60) (hw : w < W) (hf : f < n) : ∃ r : Int32, (r = 0 ∨ r = 1) ∧ zf_X11_isTrue N z (nI f) (nI w) S = some r := by
  have hfw := hx.2.2.2
  have h300 := hfw.2.1
  obtain ⟨s, hs, es⟩ := fw_so hfw hf
  have i1 : vp_in (nI f) 300 := vp_in_nI (by omega) (by omega)
  have c1 : (nI f).toNatClampNeg = f := nI_clamp (by omega)
  have i2 : vp_in (nI w) 60 := vp_in_nI (by omega) (by omega)
  have e2 : S.2.1 2 f = nI s := (hx.2.1 f hf).1.trans es
  unfold zf_X11_isTrue zf_X11_isTrue_182 zf_X11_isTrue_204
  rw [nI_e, mq_ck_of i1, c1, e2]
  have k : s = 0 ∨ s = 1 ∨ s = 2 ∨ s = 3 ∨ s = 4 ∨ s = 5 ∨ s = 6 ∨ s = 7 := by omega
  rcases k with rfl | rfl | rfl | rfl | rfl | rfl | rfl | rfl
  · rw [if_pos (by decide), mq_cz_1]; exact ⟨1, Or.inr rfl, rfl⟩
  · rw [if_neg (by decide), if_pos (by decide), mq_cz_0]; exact ⟨0, Or.inl rfl, rfl⟩
  · rw [if_neg (by decide), if_neg (by decide), if_pos (by decide), mq_ck_of i2, mq_ck_of i1, mq_cz_0, mq_cz_1]
    split
    · exact ⟨0, Or.inl rfl, rfl⟩
    · exact ⟨1, Or.inr rfl, rfl⟩
  · rw [if_neg (by decide), if_neg (by decide), if_neg (by decide), if_pos (by decide), mq_ck_of i2, mq_ck_of i1, mq_cz_0, mq_cz_1]
    split
    · exact ⟨1, Or.inr rfl, rfl⟩
    · exact ⟨0, Or.inl rfl, rfl⟩
  · obtain ⟨p1f, p2f, p3f, -⟩ := fw_1 hfw hf es (by omega) (by omega)
    obtain ⟨p5f, p6f⟩ := p3f (by omega)
    rw [if_neg (by decide), if_neg (by decide), if_neg (by decide), if_neg (by decide), if_pos (by decide), mq_ck_of i1, (hx.2.1 f hf).2.1, (hx.2.1 f hf).2.2, p2f, p6f, e60, e60, mq_ck_of (vp_in_nI (by omega) (by omega)), mq_ck_of i1, mq_ck_of (vp_in_nI (by omega) (by omega)), mq_cz_0, mq_cz_1]
    repeat' split
    · exact ⟨0, Or.inl rfl, rfl⟩
    · exact ⟨0, Or.inl rfl, rfl⟩
    · exact ⟨1, Or.inr rfl, rfl⟩
  · obtain ⟨p1f, p2f, p3f, -⟩ := fw_1 hfw hf es (by omega) (by omega)
    obtain ⟨p5f, p6f⟩ := p3f (by omega)
    rw [if_neg (by decide), if_neg (by decide), if_neg (by decide), if_neg (by decide), if_neg (by decide), if_pos (by decide), mq_ck_of i1, (hx.2.1 f hf).2.1, (hx.2.1 f hf).2.2, p2f, p6f, e60, e60, mq_ck_of (vp_in_nI (by omega) (by omega)), mq_ck_of i1, mq_ck_of (vp_in_nI (by omega) (by omega)), mq_cz_0, mq_cz_1]
    repeat' split
    · exact ⟨0, Or.inl rfl, rfl⟩
    · exact ⟨1, Or.inr rfl, rfl⟩
    · exact ⟨1, Or.inr rfl, rfl⟩
  · obtain ⟨p1f, p2f, -, -⟩ := fw_1 hfw hf es (by omega) (by omega)
    rw [if_neg (by decide), if_neg (by decide), if_neg (by decide), if_neg (by decide), if_neg (by decide), if_neg (by decide), mq_ck_of i1, if_pos (by decide), nI_e, nI_e]
    exact it_209 hN hx h hW hw hf ⟨_, p1f, p2f⟩
  · obtain ⟨p1f, p2f, -, -⟩ := fw_1 hfw hf es (by omega) (by omega)
    rw [if_neg (by decide), if_neg (by decide), if_neg (by decide), if_neg (by decide), if_neg (by decide), if_neg (by decide), mq_ck_of i1, if_neg (by decide), nI_e, nI_e]
    exact it_209 hN hx h hW hw hf ⟨_, p1f, p2f⟩
end RHOLDS
