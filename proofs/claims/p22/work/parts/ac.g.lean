/-! ac.rmodel -/
section
/-! The reference's model: sees() and world() end. -/
section RMODEL
variable {N n : Nat} {z : Nat → Nat} {S S0 : mq_St} {W w t : Nat}
theorem rf_w0 (v : Int32) (h : S.1 31 = nI W) (hW : W ≤ 60) : (zf_X11_world0 N z v S = some (0, mq_si S 0 1)) ∨ ∃ k, k < W ∧ v = nI k ∧ zf_X11_world0 N z v S = some (1, mq_si S 0 0) := by
  unfold zf_X11_world0
  rw [h, rf_in, mq_cp_s]
  rcases mq_place v (t := W) (by omega) with q | ⟨k, hk, hv, q⟩
  · left
    rw [if_pos ((mq_lst W (by omega) v).mpr q), if_pos rfl]
    unfold zf_X11_world0_20
    rw [nS_e, mq_cz_0]
    exact if_neg (by decide : ¬ (1 : Int32) = 0)
  · right
    refine ⟨k, hk, hv, ?_⟩
    rw [if_neg (fun a => q ((mq_lst W (by omega) v).mp a)), if_neg (by decide)]
    unfold zf_X11_world0_20
    rw [nS_e, mq_cz_1]
    exact if_pos rfl
theorem rf_mut {a b : Nat} (ha : a < 60) (hb : b < 60) : ∃ r : Int32, zf_X11_isMutual N z (nI a) (nI b) S = some r := by
  unfold zf_X11_isMutual
  rw [e60, e60, mq_ck_of (vp_in_nI (by omega) (by omega)), mq_ck_of (vp_in_nI (by omega) (by omega)), mq_cz_0, mq_cz_1]
  repeat' split
  all_goals exact ⟨_, rfl⟩
/-- a loop with a sum that leaves the state as it is -/
theorem lp_s {A β : Type} {F : Nat → A → Int32 → Option β} {n : Nat} {Q : Option β → Prop} (hend : ∀ fu a, Q (F (fu + 1) a (nI n))) (hstep : ∀ fu k a, k < n → ∃ a', F (fu + 1) a (nI k) = F fu a' (nI (k + 1))) : ∀ (fu k : Nat) (a : A), k ≤ n → n - k < fu → Q (F fu a (nI k))
  | 0, k, a, _, h => by omega
  | fu + 1, k, a, hk, hfu => by
    by_cases e : k = n
    · subst e; exact hend fu a
    · obtain ⟨a', h⟩ := hstep fu k a (by omega)
      rw [h]; exact lp_s hend hstep fu (k + 1) a' (by omega) (by omega)
theorem rw_156 (hN : 100 ≤ N) (h : S.1 31 = nI W) (hW : W ≤ 60) (hw : w < W) : ∃ r, zf_X11_world_156 N z N (nI w) 0 0 S = some (r, S) := by
  refine lp_s (F := fun fu a k => zf_X11_world_156 N z fu (nI w) a k S) (n := W) (Q := fun x => ∃ r, x = some (r, S)) (fun fu a => ?_) (fun fu k a hk => ?_) N 0 0 (by omega) (by omega)
  · show ∃ r, zf_X11_world_156b N z _ (nI w) a (nI W) S = some (r, S)
    unfold zf_X11_world_156b
    rw [h, if_pos (nI_le (Nat.le_refl _) (by omega))]
    exact ⟨_, rfl⟩
  · show ∃ a', zf_X11_world_156b N z (fun v1 v3 v5 S => zf_X11_world_156 N z fu v1 v3 v5 S) (nI w) a (nI k) S = _
    obtain ⟨r, hr⟩ := rf_mut (N := N) (z := z) (S := S) (show w < 60 by omega) (show k < 60 by omega)
    unfold zf_X11_world_156b zf_X11_world_181
    rw [h, if_neg (nI_ge hk (by omega)), hr, mq_cp_s, nI_e, nI_e, nI_e, nI_e, nI_1]
    by_cases e : r = 0
    · rw [if_pos e]; exact ⟨_, rfl⟩
    · rw [if_neg e]; exact ⟨_, rfl⟩
theorem rw_194 (hN : 100 ≤ N) (h : S.1 31 = nI W) (hW : W ≤ 60) (hw : w < W) : ∃ r, zf_X11_world_194 N z N (nI w) 0 0 S = some (r, S) := by
  refine lp_s (F := fun fu a k => zf_X11_world_194 N z fu (nI w) a k S) (n := W) (Q := fun x => ∃ r, x = some (r, S)) (fun fu a => ?_) (fun fu k a hk => ?_) N 0 0 (by omega) (by omega)
  · show ∃ r, zf_X11_world_194b N z _ (nI w) a (nI W) S = some (r, S)
    unfold zf_X11_world_194b
    rw [h, if_pos (nI_le (Nat.le_refl _) (by omega))]
    exact ⟨_, rfl⟩
  · show ∃ a', zf_X11_world_194b N z (fun v1 v3 v5 S => zf_X11_world_194 N z fu v1 v3 v5 S) (nI w) a (nI k) S = _
    unfold zf_X11_world_194b zf_X11_world_224
    rw [h, if_neg (nI_ge hk (by omega)), e60, mq_ck_of (vp_in_nI (by omega) (by omega)), nI_e, nI_e, nI_e, nI_e, nI_1]
    by_cases e : S.2.1 35 (nI (60 * w + k)).toNatClampNeg = 0
    · rw [if_pos e]; exact ⟨_, rfl⟩
    · rw [if_neg e]; exact ⟨_, rfl⟩
theorem rw_96 {c : Nat} {v3 : Int32} {k83 : Int32 → Int32 → Int32 → mq_St → Option (Int32 × mq_St)} (hN : 100 ≤ N) (hw : w < 60) : ∃ a, zf_X11_world_96 N z k83 N v3 (nI c) (nI w) 1 0 S = k83 a (nI c) (nI (w + 1)) S := by
  refine lp_s (F := fun fu a k => zf_X11_world_96 N z k83 fu v3 (nI c) (nI w) a k S) (n := w) (Q := fun x => ∃ a, x = k83 a (nI c) (nI (w + 1)) S) (fun fu a => ?_) (fun fu k a hk => ?_) N 0 1 (by omega) (by omega)
  · show ∃ b, zf_X11_world_96b N z k83 _ v3 (nI c) (nI w) a (nI w) S = _
    unfold zf_X11_world_96b zf_X11_world_143
    rw [if_pos (nI_le (Nat.le_refl _) (by omega)), nI_e, nI_e, nI_e, nI_e, nI_1]
    by_cases e : a = 0
    · rw [if_pos e]; exact ⟨_, rfl⟩
    · rw [if_neg e]; exact ⟨_, rfl⟩
  · show ∃ b, zf_X11_world_96b N z k83 (fun v3 v4 v5 v6 v7 S => zf_X11_world_96 N z k83 fu v3 v4 v5 v6 v7 S) v3 (nI c) (nI w) a (nI k) S = _
    obtain ⟨r, hr⟩ := rf_mut (N := N) (z := z) (S := S) hw (show k < 60 by omega)
    unfold zf_X11_world_96b zf_X11_world_123 zf_X11_world_124
    rw [if_neg (nI_ge hk (by omega)), hr, mq_cp_s, nI_e, nI_e, nI_e, nI_e, nI_1]
    by_cases e : a = 0
    · rw [if_pos e]; exact ⟨_, rfl⟩
    · rw [if_neg e]
      by_cases e' : r = 0
      · rw [if_pos e']; exact ⟨_, rfl⟩
      · rw [if_neg e']; exact ⟨_, rfl⟩
theorem rw_83 {c : Nat} {v3 : Int32} (hN : 100 ≤ N) (hc : c ≤ 60) : ∃ r, zf_X11_world_83 N z N v3 (nI c) 0 S = some (r, S) := by
  refine lp_s (F := fun fu a k => zf_X11_world_83 N z fu a (nI c) k S) (n := c) (Q := fun x => ∃ r, x = some (r, S)) (fun fu a => ?_) (fun fu k a hk => ?_) N 0 v3 (by omega) (by omega)
  · show ∃ b, zf_X11_world_83b N z _ a (nI c) (nI c) S = _
    unfold zf_X11_world_83b
    rw [if_pos (nI_le (Nat.le_refl _) (by omega))]
    exact ⟨_, rfl⟩
  · show ∃ b, zf_X11_world_83b N z (fun v3 v4 v5 S => zf_X11_world_83 N z fu v3 v4 v5 S) a (nI c) (nI k) S = _
    unfold zf_X11_world_83b
    rw [if_neg (nI_ge hk (by omega)), nI_e, nI_e]
    exact rw_96 hN (by omega)
theorem rw_50 {v3 : Int32} (hN : 100 ≤ N) (hw : w < 60) : ∀ (k fu c : Nat), k ≤ 60 → k < fu → c ≤ 60 → ∃ r, zf_X11_world_50 N z fu (nI w) v3 (nI c) (nI k - 1) S = some (r, S)
  | 0, 0, c, _, h, _ => by omega
  | 0, fu + 1, c, _, _, hc => by
    show ∃ r, zf_X11_world_50b N z _ (nI w) v3 (nI c) (nI 0 - 1) S = some (r, S)
    unfold zf_X11_world_50b
    rw [if_pos (by decide), nI_e]
    exact rw_83 hN hc
  | k + 1, 0, c, _, h, _ => by omega
  | k + 1, fu + 1, c, hk, hfu, hc => by
    have e1 : nI (k + 1) - 1 = nI k := by rw [show (1 : Int32) = nI 1 from rfl, pk_sub (by omega)]; rfl
    have e2 : nI k + -1 = nI k - 1 := (Int32.sub_eq_add_neg (nI k) 1).symm
    rw [e1]
    show ∃ r, zf_X11_world_50b N z (fun v1 v3 v4 v5 S => zf_X11_world_50 N z fu v1 v3 v4 v5 S) (nI w) v3 (nI c) (nI k) S = some (r, S)
    obtain ⟨q, hq⟩ := rf_mut (N := N) (z := z) (S := S) hw (show k < 60 by omega)
    unfold zf_X11_world_50b zf_X11_world_72
    rw [if_neg (show ¬ nI k < (0 : Int32) from nI_nlt (b := 0) (by omega) (by omega)), hq, mq_cp_s, nI_e, nI_e, nI_e, nI_e, e2]
    by_cases e : q = 0
    · rw [if_pos e]; exact rw_50 hN hw k fu c (by omega) (by omega) hc
    · rw [if_neg e]; exact rw_50 hN hw k fu k (by omega) (by omega) (by omega)
theorem rf_world (v u : Int32) (hN : 100 ≤ N) (h : S.1 31 = nI W) (hW : W ≤ 60) : ∃ r S', zf_X11_world N z v u S = some (r, S') ∧ ag [0] [] [] S S' := by
  unfold zf_X11_world
  rcases rf_w0 (N := N) (z := z) v h hW with a | ⟨k, hk, e, a⟩
  · rw [a, mq_cl_s, if_pos rfl]; exact ⟨_, _, rfl, ag_si (by decide)⟩
  · rw [a, mq_cl_s, if_neg (by decide), nI_e, nI_e, nI_e, nI_e, nI_e, e]
    obtain ⟨r0, t0⟩ := rw_50 (N := N) (z := z) (S := mq_si S 0 0) (v3 := 0) (w := k) hN (by omega) (k + 1) N k (by omega) (by omega) (by omega)
    have e1 : nI (k + 1) - 1 = nI k := by rw [show (1 : Int32) = nI 1 from rfl, pk_sub (by omega)]; rfl
    rw [e1] at t0
    obtain ⟨r1, t1⟩ := rw_156 (N := N) (z := z) (S := mq_si S 0 0) hN h hW hk
    obtain ⟨r2, t2⟩ := rw_194 (N := N) (z := z) (S := mq_si S 0 0) hN h hW hk
    rw [t0, t1, t2, mq_ck_of (vp_in_nI (by omega) (by omega))]
    by_cases u0 : u = 0
    · rw [if_pos u0]; exact ⟨_, _, rfl, ag_si (by decide)⟩
    · rw [if_neg u0]
      by_cases u1 : u = 1
      · rw [if_pos u1]; exact ⟨_, _, rfl, ag_si (by decide)⟩
      · rw [if_neg u1]
        by_cases u2 : u = 2
        · rw [if_pos u2]; exact ⟨_, _, rfl, ag_si (by decide)⟩
        · rw [if_neg u2]
          by_cases u3 : u = 3
          · rw [if_pos u3]; exact ⟨_, _, rfl, ag_si (by decide)⟩
          · rw [if_neg u3]; exact ⟨_, _, rfl, ag_si (by decide)⟩
end RMODEL
end
/-! ad.rholds -/
section
/-! The reference's model: holds() ends. -/
section RHOLDS
variable {N n : Nat} {z : Nat → Nat} {so on tw : Nat → Int32} {d : Nat → Nat} {S S0 : mq_St} {W w t f : Nat}
theorem it_209 {v4 : Int32} (hN : 100 ≤ N) (hx : cxR S n so on tw d) (h : S.1 31 = nI W) (hW : W ≤ 60) (hw : w < W) (hf : f < n) (ho : ∃ p, p < f ∧ on f = nI p) : ∃ r : Int32, (r = 0 ∨ r = 1) ∧ zf_X11_isTrue_209 N z S N (nI f) (nI w) 0 v4 0 = some r := by
  have h300 := hx.2.2.2.2.1
  obtain ⟨p, hp, hp'⟩ := ho
  have i1 : vp_in (nI f) 300 := vp_in_nI (by omega) (by omega)
  have c1 : (nI f).toNatClampNeg = f := nI_clamp (by omega)
  have e3 : S.2.1 3 f = nI p := (hx.2.1 f hf).2.1.trans hp'
  refine lp_s (F := fun fu a k => zf_X11_isTrue_209 N z S fu (nI f) (nI w) a v4 k) (n := W) (Q := fun x => ∃ r : Int32, (r = 0 ∨ r = 1) ∧ x = some r) (fun fu a => ?_) (fun fu k a hk => ?_) N 0 0 (by omega) (by omega)
  · show ∃ r : Int32, (r = 0 ∨ r = 1) ∧ zf_X11_isTrue_209b N z S _ (nI f) (nI w) a v4 (nI W) = some r
    unfold zf_X11_isTrue_209b
    rw [h, if_pos (nI_le (Nat.le_refl _) (by omega)), mq_cz_0, mq_cz_1]
    by_cases e : a = v4
    · rw [if_pos e]; exact ⟨0, Or.inl rfl, rfl⟩
    · rw [if_neg e]; exact ⟨1, Or.inr rfl, rfl⟩
  · show ∃ a', zf_X11_isTrue_209b N z S (fun v1 v2 v3 v4 v5 => zf_X11_isTrue_209 N z S fu v1 v2 v3 v4 v5) (nI f) (nI w) a v4 (nI k) = _
    unfold zf_X11_isTrue_209b zf_X11_isTrue_263 zf_X11_isTrue_259 zf_X11_isTrue_264
    rw [h, if_neg (nI_ge hk (by omega)), c1, e3, e60, e60, mq_ck_of (vp_in_nI (by omega) (by omega)), mq_ck_of i1, mq_ck_of (vp_in_nI (by omega) (by omega))]
    simp only [nI_e, nI_1]
    repeat' split
    all_goals exact ⟨_, rfl⟩
theorem fw_so (h : fw n so on tw d) (hf : f < n) : ∃ s, s ≤ 7 ∧ so f = nI s := by
  rcases h.2.2.2.2 f hf with ⟨-, e, -⟩ | ⟨-, e, -⟩ | ⟨⟨e, -⟩ | ⟨e, -⟩, -⟩ | ⟨⟨e, -⟩ | ⟨e, -⟩, -⟩ | ⟨⟨e, -⟩ | ⟨e, -⟩, -⟩
  · exact ⟨0, by omega, e⟩
  · exact ⟨1, by omega, e⟩
  · exact ⟨2, by omega, e⟩
  · exact ⟨3, by omega, e⟩
  · exact ⟨4, by omega, e⟩
  · exact ⟨5, by omega, e⟩
  · exact ⟨6, by omega, e⟩
  · exact ⟨7, by omega, e⟩
theorem rf_true (hN : 100 ≤ N) (hx : cxR S n so on tw d) (h : S.1 31 = nI W) (hW : W ≤ 60) (hw : w < W) (hf : f < n) : ∃ r : Int32, (r = 0 ∨ r = 1) ∧ zf_X11_isTrue N z (nI f) (nI w) S = some r := by
  have hfw := hx.2.2.2
  have h300 := hfw.2.1
  obtain ⟨s, hs, es⟩ := fw_so hfw hf
  have i1 : vp_in (nI f) 300 := vp_in_nI (by omega) (by omega)
  have c1 : (nI f).toNatClampNeg = f := nI_clamp (by omega)
  have i2 : vp_in (nI w) 60 := vp_in_nI (by omega) (by omega)
  have e2 : S.2.1 2 f = nI s := (hx.2.1 f hf).1.trans es
  unfold zf_X11_isTrue zf_X11_isTrue_182 zf_X11_isTrue_204
  rw [nI_e, mq_ck_of i1, c1, e2]
  have k : s = 0 ∨ s = 1 ∨ s = 2 ∨ s = 3 ∨ s = 4 ∨ s = 5 ∨ s = 6 ∨ s = 7 := by omega
  rcases k with rfl | rfl | rfl | rfl | rfl | rfl | rfl | rfl
  · rw [if_pos (by decide), mq_cz_1]; exact ⟨1, Or.inr rfl, rfl⟩
  · rw [if_neg (by decide), if_pos (by decide), mq_cz_0]; exact ⟨0, Or.inl rfl, rfl⟩
  · rw [if_neg (by decide), if_neg (by decide), if_pos (by decide), mq_ck_of i2, mq_ck_of i1, mq_cz_0, mq_cz_1]
    split
    · exact ⟨0, Or.inl rfl, rfl⟩
    · exact ⟨1, Or.inr rfl, rfl⟩
  · rw [if_neg (by decide), if_neg (by decide), if_neg (by decide), if_pos (by decide), mq_ck_of i2, mq_ck_of i1, mq_cz_0, mq_cz_1]
    split
    · exact ⟨1, Or.inr rfl, rfl⟩
    · exact ⟨0, Or.inl rfl, rfl⟩
  · obtain ⟨p1f, p2f, p3f, -⟩ := fw_1 hfw hf es (by omega) (by omega)
    obtain ⟨p5f, p6f⟩ := p3f (by omega)
    rw [if_neg (by decide), if_neg (by decide), if_neg (by decide), if_neg (by decide), if_pos (by decide), mq_ck_of i1, (hx.2.1 f hf).2.1, (hx.2.1 f hf).2.2, p2f, p6f, e60, e60, mq_ck_of (vp_in_nI (by omega) (by omega)), mq_ck_of i1, mq_ck_of (vp_in_nI (by omega) (by omega)), mq_cz_0, mq_cz_1]
    repeat' split
    · exact ⟨0, Or.inl rfl, rfl⟩
    · exact ⟨0, Or.inl rfl, rfl⟩
    · exact ⟨1, Or.inr rfl, rfl⟩
  · obtain ⟨p1f, p2f, p3f, -⟩ := fw_1 hfw hf es (by omega) (by omega)
    obtain ⟨p5f, p6f⟩ := p3f (by omega)
    rw [if_neg (by decide), if_neg (by decide), if_neg (by decide), if_neg (by decide), if_neg (by decide), if_pos (by decide), mq_ck_of i1, (hx.2.1 f hf).2.1, (hx.2.1 f hf).2.2, p2f, p6f, e60, e60, mq_ck_of (vp_in_nI (by omega) (by omega)), mq_ck_of i1, mq_ck_of (vp_in_nI (by omega) (by omega)), mq_cz_0, mq_cz_1]
    repeat' split
    · exact ⟨0, Or.inl rfl, rfl⟩
    · exact ⟨1, Or.inr rfl, rfl⟩
    · exact ⟨1, Or.inr rfl, rfl⟩
  · obtain ⟨p1f, p2f, -, -⟩ := fw_1 hfw hf es (by omega) (by omega)
    rw [if_neg (by decide), if_neg (by decide), if_neg (by decide), if_neg (by decide), if_neg (by decide), if_neg (by decide), mq_ck_of i1, if_pos (by decide), nI_e, nI_e]
    exact it_209 hN hx h hW hw hf ⟨_, p1f, p2f⟩
  · obtain ⟨p1f, p2f, -, -⟩ := fw_1 hfw hf es (by omega) (by omega)
    rw [if_neg (by decide), if_neg (by decide), if_neg (by decide), if_neg (by decide), if_neg (by decide), if_neg (by decide), mq_ck_of i1, if_neg (by decide), nI_e, nI_e]
    exact it_209 hN hx h hW hw hf ⟨_, p1f, p2f⟩
/-- truth values alone -/
def b01 (a : Nat → Int32) : Prop := ∀ i, a i = 0 ∨ a i = 1
theorem b01_u {a : Nat → Int32} {i : Nat} {r : Int32} (h : b01 a) (hr : r = 0 ∨ r = 1) : b01 (upd a i (vp_nar .boolean r)) := fun j => by
  by_cases e : j = i
  · rw [e, up_s]
    rcases hr with rfl | rfl
    · exact Or.inl rfl
    · exact Or.inr rfl
  · rw [up_o e]; exact h j
theorem hd_35 {k : Nat} {v u : Int32} {k27 : Int32 → Int32 → Int32 → mq_St → Option (Int32 × mq_St)} (hN : 100 ≤ N) (hx : cxR S0 n so on tw d) (h : S0.1 31 = nI W) (hW : W ≤ 60) (hk : k < n) (hS : ag [] [38] [] S0 S) (hb : b01 (S.2.1 38)) : ∃ S', (ag [] [38] [] S0 S' ∧ b01 (S'.2.1 38)) ∧ zf_X11_holds_35 N z k27 N v u (nI k) 0 S = k27 v u (nI (k + 1)) S' := by
  have h300 := hx.2.2.2.2.1
  refine lp_to (F := fun fu j T => zf_X11_holds_35 N z k27 fu v u (nI k) j T) (n := W) (I := fun T => ag [] [38] [] S0 T ∧ b01 (T.2.1 38)) (G := fun T => k27 v u (nI (k + 1)) T) (fun fu T hI => ?_) (fun fu j T hj hI => ?_) N 0 S (by omega) (by omega) ⟨hS, hb⟩
  · show zf_X11_holds_35b N z k27 _ v u (nI k) (nI W) T = _
    unfold zf_X11_holds_35b
    rw [hI.1.1 31 (by decide), h, if_pos (nI_le (Nat.le_refl _) (by omega)), nI_e, nI_1]
  · have hxT : cxR T n so on tw d := cxR_c hx (hI.1.1 3 (by decide)) (hI.1.2.1 2 (by decide)) (hI.1.2.1 3 (by decide)) (hI.1.2.1 4 (by decide))
    have hT : T.1 31 = nI W := (hI.1.1 31 (by decide)).trans h
    obtain ⟨r, hr, hr'⟩ := rf_true (N := N) (z := z) hN hxT hT hW hj hk
    refine ⟨mq_sa T 38 (upd (T.2.1 38) (60 * k + j) (vp_nar .boolean r)), ⟨ag_tr hI.1 (ag_sa (by decide)), b01_u hI.2 hr⟩, ?_⟩
    show zf_X11_holds_35b N z k27 (fun v1 v2 v3 v4 S => zf_X11_holds_35 N z k27 fu v1 v2 v3 v4 S) v u (nI k) (nI j) T = _
    unfold zf_X11_holds_35b
    rw [hT, if_neg (nI_ge hj (by omega)), hr', mq_cp_s, e60, mq_ck_of (vp_in_nI (by omega) (by omega)), nI_clamp (by omega), nS_e, nI_e, nI_1]
theorem rf_holds (v u : Int32) (hN : 400 ≤ N) (hx : cxR S n so on tw d) (h : S.1 31 = nI W) (hW : W ≤ 60) (hb : b01 (S.2.1 38)) : ∃ r S', zf_X11_holds N z v u S = some (r, S') ∧ ag [0] [38] [] S S' ∧ b01 (S'.2.1 38) := by
  have h300 := hx.2.2.2.2.1
  unfold zf_X11_holds
  rcases rf_w0 (N := N) (z := z) v h hW with a | ⟨k, hk, e, a⟩
  · rw [a, mq_cl_s, if_pos rfl, mq_cz_0]; exact ⟨_, _, rfl, ag_si (by decide), hb⟩
  · rw [a, mq_cl_s, if_neg (by decide), rf_isF u (show (mq_si S 0 0).1 3 = nI n from hx.1) h300, mq_cp_s]
    rcases mq_place u (t := n) (by omega) with q | ⟨f, hf, hv, q⟩
    · rw [if_pos q, if_pos rfl, nS_e, mq_cz_0]; exact ⟨_, _, rfl, ag_tr (ag_si (by decide)) (ag_si (by decide)), hb⟩
    · rw [if_neg q, if_neg (by decide), nI_e, hv, e]
      obtain ⟨T, ⟨t1, t2⟩, t3⟩ := lp_to (F := fun fu j T => zf_X11_holds_27 N z fu (nI k) (nI f) j T) (n := f + 1) (I := fun T => ag [] [38] [] (mq_si S 0 0) T ∧ b01 (T.2.1 38)) (G := fun T => some (T.2.1 38 (60 * f + k), T)) (fun fu T hI => by
        show zf_X11_holds_27b N z _ (nI k) (nI f) (nI (f + 1)) T = _
        unfold zf_X11_holds_27b
        rw [if_pos (nI_lt (by omega) (by omega)), e60, mq_ck_of (vp_in_nI (by omega) (by omega)), nI_clamp (by omega)]
        rcases hI.2 (60 * f + k) with e | e
        · rw [e, mq_cz_0]
        · rw [e, mq_cz_1]) (fun fu j T hj hI => by
        obtain ⟨T', a1, a2⟩ := hd_35 (N := N) (z := z) (S0 := mq_si S 0 0) (S := T) (k := j) (v := nI k) (u := nI f) (k27 := fun v1 v2 v3 S => zf_X11_holds_27 N z fu v1 v2 v3 S) (by omega) (cxR_c hx rfl rfl rfl rfl) h hW (by omega) hI.1 hI.2
        refine ⟨T', a1, ?_⟩
        show zf_X11_holds_27b N z (fun v1 v2 v3 S => zf_X11_holds_27 N z fu v1 v2 v3 S) (nI k) (nI f) (nI j) T = _
        unfold zf_X11_holds_27b
        rw [if_neg (nI_nlt (by omega) (by omega)), nI_e]
        exact a2) N 0 (mq_si S 0 0) (by omega) (by omega) ⟨ag_rf, hb⟩
      exact ⟨_, T, t3, ag_tr (ag_si (by decide)) (ag_mono t1 (by decide) (by decide) (by decide)), t2⟩
end RHOLDS
end
/-! ae.rcut -/
section
/-! The reference's model: cut() ends. -/
section RCUT
variable {N n : Nat} {z : Nat → Nat} {S S0 : mq_St} {W w c : Nat}
/-- the reference's model and what fold() and cut() work with -/
def frX (S S' : mq_St) : Prop := ag [0, 31] [34, 35, 36, 39, 40, 41, 42, 43] [] S S'
/-- the first c places of a row hold worlds -/
def wl (a : Nat → Int32) (c : Nat) : Prop := ∀ i, i < c → ∃ j, j < 60 ∧ a i = nI j
end RCUT
end
/-! af.rfold -/
section
/-! The reference's model: what fold() calls. -/
section RFOLD
variable {N n : Nat} {z : Nat → Nat} {S S0 : mq_St} {W w c : Nat}
end RFOLD
end
/-! ag.rfold2 -/
section
/-! The reference's model: fold() ends. -/
theorem lp_i {β : Type} {F : Nat → Int32 → mq_St → Option β} {n : Nat} {I : Nat → mq_St → Prop} {G : mq_St → Option β} (hend : ∀ fu S, I n S → F (fu + 1) (nI n) S = G S) (hstep : ∀ fu k S, k < n → I k S → ∃ S', I (k + 1) S' ∧ F (fu + 1) (nI k) S = F fu (nI (k + 1)) S') : ∀ (fu k : Nat) (S : mq_St), k ≤ n → n - k < fu → I k S → ∃ S', I n S' ∧ F fu (nI k) S = G S'
  | 0, k, S, _, h, _ => by omega
  | fu + 1, k, S, hk, hfu, hI => by
    by_cases e : k = n
    · subst e; exact ⟨S, hI, hend fu S hI⟩
    · obtain ⟨S', a, b⟩ := hstep fu k S (by omega) hI
      obtain ⟨S2, c, d⟩ := lp_i hend hstep fu (k + 1) S' (by omega) (by omega) a
      exact ⟨S2, c, b.trans d⟩
section RFOLD2
variable {N n : Nat} {z : Nat → Nat} {S S0 : mq_St} {W w c : Nat}
/-- each of the first k worlds has a world before it, or itself, as the head of its class -/
def hd (a : Nat → Int32) (k : Nat) : Prop := ∀ v, v < k → ∃ u, u ≤ v ∧ a v = nI u
/-- the sum of a row's first k numbers -/
def sm (a : Nat → Int32) : Nat → Nat
  | 0 => 0
  | k + 1 => sm a k + (a k).toNatClampNeg
theorem sm_b {a : Nat → Int32} : ∀ k, k ≤ 60 → hd a k → sm a k ≤ 60 * k
  | 0, _, _ => Nat.le_refl _
  | k + 1, hk, h => by
    obtain ⟨u, hu, e⟩ := h k (by omega)
    have := sm_b k (by omega) (fun v hv => h v (by omega))
    show sm a k + (a k).toNatClampNeg ≤ _
    rw [e, nI_clamp (by omega)]; omega
theorem sm_le {a b : Nat → Int32} : ∀ k, (∀ v, v < k → (a v).toNatClampNeg ≤ (b v).toNatClampNeg) → sm a k ≤ sm b k
  | 0, _ => Nat.le_refl _
  | k + 1, h => Nat.add_le_add (sm_le k (fun v hv => h v (by omega))) (h k (by omega))
theorem sm_lt {a b : Nat → Int32} : ∀ k, (∀ v, v < k → (a v).toNatClampNeg ≤ (b v).toNatClampNeg) → (∃ v, v < k ∧ (a v).toNatClampNeg < (b v).toNatClampNeg) → sm a k < sm b k
  | 0, _, ⟨v, hv, _⟩ => by omega
  | k + 1, h, ⟨v, hv, hl⟩ => by
    show sm a k + (a k).toNatClampNeg < sm b k + (b k).toNatClampNeg
    by_cases e : v = k
    · subst e
      exact Nat.add_lt_add_of_le_of_lt (sm_le v (fun q hq => h q (by omega))) hl
    · exact Nat.add_lt_add_of_lt_of_le (sm_lt k (fun q hq => h q (by omega)) ⟨v, by omega, hl⟩) (h k (by omega))
end RFOLD2
end
/-! ah.verc -/
section
/-! verify(): a checker of lines as a function, and the class's way of it. -/
/-- the FORMULA of a line -/
def gF (gb : Nat → Nat) (i : Nat) : Nat := 256 * gb (3 * i + 1) + gb (3 * i + 2)
/-- the lines from the i-th on, k of them, close a SET and those held -/
def vA (n : Nat) (so on tw : Nat → Int32) (d gb : Nat → Nat) : Nat → Nat → (Nat → Bool) → List (Nat → Bool) → Bool
  | 0, _, _, _ => false
  | k + 1, i, X, H =>
    if gF gb i < n ∧ X (gF gb i) = true then
      (if gb (3 * i) = 0 then
        (if so (gF gb i) = nI 1 ∨ (so (gF gb i) = nI 2 ∧ X (d (gF gb i)) = true) then
          (match H with
          | [] => decide (k = 0)
          | Y :: H' => vA n so on tw d gb k (i + 1) Y H')
        else false)
      else if gb (3 * i) = 1 then
        (if so (gF gb i) = nI 4 then vA n so on tw d gb k (i + 1) (fun g => (X g || decide (g = p1 on (gF gb i))) || decide (g = p1 tw (gF gb i))) H else false)
      else if gb (3 * i) = 2 then
        (if so (gF gb i) = nI 6 then vA n so on tw d gb k (i + 1) (fun g => X g || decide (g = p1 on (gF gb i))) H else false)
      else if gb (3 * i) = 3 then
        (if so (gF gb i) = nI 5 then vA n so on tw d gb k (i + 1) (fun g => X g || decide (g = p1 on (gF gb i))) ((fun g => X g || decide (g = p1 tw (gF gb i))) :: H) else false)
      else if gb (3 * i) = 4 then
        (if so (gF gb i) = nI 7 then vA n so on tw d gb k (i + 1) (sta n so X (p1 on (gF gb i))) H else false)
      else false)
    else false
theorem vA_len {n : Nat} {so on tw : Nat → Int32} {d gb : Nat → Nat} : ∀ (k i : Nat) (X : Nat → Bool) (H : List (Nat → Bool)), k ≤ H.length → vA n so on tw d gb k i X H = false
  | 0, i, X, H, _ => rfl
  | k + 1, i, X, H, h => by
    have ih := fun X H h => vA_len (n := n) (so := so) (on := on) (tw := tw) (d := d) (gb := gb) k (i + 1) X H h
    show (if gF gb i < n ∧ X (gF gb i) = true then _ else false) = false
    split
    · split
      · split
        · cases H with
          | nil => exact absurd h (by simp)
          | cons Y H' => exact ih Y H' (by simpa using h)
        · rfl
      · split
        · split
          · exact ih _ H (by omega)
          · rfl
        · split
          · split
            · exact ih _ H (by omega)
            · rfl
          · split
            · split
              · exact ih _ _ (by simp only [List.length_cons]; omega)
              · rfl
            · split
              · split
                · exact ih _ H (by omega)
                · rfl
              · rfl
    · rfl
/-- held SETs in the rows of an array -/
def hl (b : Nat → Nat → Bool) : List (Nat → Bool) → Prop
  | [] => True
  | Y :: H => (∀ g, g < 320 → b H.length g = Y g) ∧ hl b H
theorem hl_c {b b' : Nat → Nat → Bool} : ∀ (H : List (Nat → Bool)), (∀ r g, r < H.length → g < 320 → b' r g = b r g) → hl b H → hl b' H
  | [], _, _ => trivial
  | Y :: H, e, h => ⟨fun g hg => (e _ g (by simp) hg).trans (h.1 g hg), hl_c H (fun r g hr hg => e r g (by simp only [List.length_cons]; omega) hg) h.2⟩
def bo (b : Bool) : Int32 := if b = true then 1 else 0
section VERC
variable {N n : Nat} {z : Nat → Nat} {S : mq_St} {so on tw : Nat → Int32} {d gb : Nat → Nat} {X : Nat → Bool} {H : List (Nat → Bool)} {L i f r : Nat}
theorem cv_put {k r f R : Nat} {y : Nat → Nat} (hy : y 0 = 5 * R) (hR : R < 10000) (hr : r < R) (hf : f < 320) : ∃ l, (∀ (α : Type) (K : mq_St → Option α), mq_cl (zf_X6_put N y (nI r) (nI f) (mq_pull S [] [] [k])) (fun _ q => mq_nS (mq_push S q [] [] [k]) K) = K (mq_sl S k l)) ∧ ∀ r2 g, g < 320 → lb l r2 g = (lb (S.2.2 k) r2 g || decide (r2 = r ∧ g = f)) := by
  obtain ⟨l, a1, a2⟩ := se_put (N := N) (R := R) (z := y) (S := mq_pull S [] [] [k]) (r := r) (f := f) hy hR hr hf
  refine ⟨l, fun α K => ?_, a2⟩
  rw [a1, mq_cl_s, push1, nS_e]
theorem cv_empty {k r R : Nat} {y : Nat → Nat} (hN : 10 ≤ N) (hy : y 0 = 5 * R) (hR : R < 10000) (hr : r < R) : ∃ l, (∀ (α : Type) (K : mq_St → Option α), mq_cl (zf_X6_empty N y (nI r) (mq_pull S [] [] [k])) (fun _ q => mq_nS (mq_push S q [] [] [k]) K) = K (mq_sl S k l)) ∧ ∀ r2 g, g < 320 → lb l r2 g = (lb (S.2.2 k) r2 g && decide (r2 ≠ r)) := by
  obtain ⟨l, a1, a2⟩ := se_empty (N := N) (R := R) (z := y) (S := mq_pull S [] [] [k]) (r := r) hN hy hR hr
  refine ⟨l, fun α K => ?_, a2⟩
  rw [a1, mq_cl_s, push1, nS_e]
theorem cv_copy {a b ra rb RA RB : Nat} {y : Nat → Nat} (hN : 10 ≤ N) (hab : a ≠ b) (hy0 : y 0 = 5 * RA) (hy1 : y 1 = 5 * RB) (hRA : RA < 10000) (hRB : RB < 10000) (h1 : ra < RA) (h2 : rb < RB) : ∃ l, (∀ (α : Type) (K : mq_St → Option α), mq_cl (zf_X6_copy N y (nI ra) (nI rb) (mq_pull S [] [] [a, b])) (fun _ q => mq_nS (mq_push S q [] [] [a, b]) K) = K (mq_sl S a l)) ∧ ∀ r2 g, g < 320 → lb l r2 g = if r2 = ra then lb (S.2.2 b) rb g else lb (S.2.2 a) r2 g := by
  obtain ⟨l, a1, a2, a3⟩ := ck_cp (N := N) (S := S) (a := a) (b := b) (ra := ra) (rb := rb) (RA := RA) (RB := RB) (y := y) hN hab hy0 hy1 hRA hRB h1 h2
  refine ⟨l, fun α K => ?_, a3⟩
  rw [a1, mq_cl_s, a2, nS_e]
theorem cv_meet {a b ra rb RA RB : Nat} {y : Nat → Nat} (hN : 10 ≤ N) (hab : a ≠ b) (hy0 : y 0 = 5 * RA) (hy1 : y 1 = 5 * RB) (hRA : RA < 10000) (hRB : RB < 10000) (h1 : ra < RA) (h2 : rb < RB) : ∃ l, (∀ (α : Type) (K : mq_St → Option α), mq_cl (zf_X6_meet N y (nI ra) (nI rb) (mq_pull S [] [] [a, b])) (fun _ q => mq_nS (mq_push S q [] [] [a, b]) K) = K (mq_sl S a l)) ∧ ∀ r2 g, g < 320 → lb l r2 g = if r2 = ra then (lb (S.2.2 a) ra g && lb (S.2.2 b) rb g) else lb (S.2.2 a) r2 g := by
  obtain ⟨l, a1, a2⟩ := se_meet (N := N) (R := RA) (R' := RB) (r := ra) (r' := rb) (z := y) (S := mq_pull S [] [] [a, b]) hN hy0 hy1 hRA hRB h1 h2
  refine ⟨l, fun α K => ?_, a2⟩
  rw [a1, mq_cl_s, push2 hab, nS_e]
theorem se_hasx {f : Nat} (v : Int32) (hf : 320 ≤ f) (hf' : f < 2147483648) : zf_X6_has N z v (nI f) S = some 0 := by
  unfold zf_X6_has zf_X6_isPlace
  rw [if_neg (nI_pos hf'), if_pos (show (320 : Int32) ≤ nI f from nI_le (a := 320) hf hf'), mq_cz_0, mq_cp_s, if_pos rfl]
/-- the class's SET and the SETs held -/
def vC (S : mq_St) (X : Nat → Bool) (H : List (Nat → Bool)) : Prop := S.1 21 = nI H.length ∧ (∀ g, g < 320 → lb (S.2.2 6) 0 g = X g) ∧ hl (lb (S.2.2 5)) H
theorem ca_x (v : Int32) (hc : cxC S n so on tw d) (hf : n ≤ f) (hf' : f < 2147483648) : zf_X1_isAllowed N z v (nI f) S = some 0 := by
  have e := (ck_out (N := N) (z := z) (v := nI f) hc.1 (Or.inr (nI_le hf hf'))).1
  unfold zf_X1_isAllowed
  rw [e, mq_cp_s, nI_e, if_neg (show ¬ (-1 : Int32) = 1 by decide), if_neg (show ¬ (-1 : Int32) = 2 by decide), if_neg (show ¬ (-1 : Int32) = 4 by decide), if_neg (show ¬ (-1 : Int32) = 6 by decide), if_neg (show ¬ (-1 : Int32) = 5 by decide), if_neg (show ¬ (-1 : Int32) = 7 by decide), mq_cz_0]
  repeat' split
  all_goals rfl
theorem ca_0 (hc : cxC S n so on tw d) (hf : f < n) (hv : vC S X H) : zf_X1_isAllowed N z 0 (nI f) S = some (bo (decide (so f = nI 1 ∨ (so f = nI 2 ∧ X (d f) = true)))) := by
  have h3 := hc.2.2.2.2.1
  obtain ⟨e1, -, -, e4⟩ := ck_in (N := N) (z := z) hc.1 h3 hf
  rw [(hc.2.1 f hf).1] at e1
  rw [(hc.2.1 f hf).2.2.2] at e4
  have hd : d f < 320 := by have := hc.2.2.2.2.2.2.1 f hf; omega
  have e5 := se_has (N := N) (R := 1) (z := fun k => [5].getD k 0) (S := mq_pull S [] [] [6]) (r := 0) (f := d f) rfl (by omega) (by omega) hd
  have e5' : zf_X6_has N (fun k => [5].getD k 0) 0 (nI (d f)) (mq_pull S [] [] [6]) = some (if X (d f) = true then 1 else 0) := by
    rw [← hv.2.1 _ hd]; exact e5
  unfold zf_X1_isAllowed zf_X1_isAllowed_73
  rw [e1, mq_cp_s, nI_e, if_pos rfl, e4, mq_cp_s, e5', mq_cp_s, mq_cz_0, mq_cz_1]
  unfold bo
  show (if so f = nI 1 then some 1 else if so f = nI 2 then (if (if X (d f) = true then (1 : Int32) else 0) = 0 then some 0 else some 1) else some 0) = _
  by_cases q1 : so f = nI 1
  · rw [if_pos q1, if_pos (by simp [q1])]
  · rw [if_neg q1]
    by_cases q2 : so f = nI 2
    · rw [if_pos q2]
      by_cases q3 : X (d f) = true
      · rw [if_pos q3, if_neg (by decide), if_pos (by simp [q2, q3])]
      · rw [if_neg q3, if_pos rfl, if_neg (by simp [q1, q3])]
    · rw [if_neg q2, if_neg (by simp [q1, q2])]
theorem ca_1 (hc : cxC S n so on tw d) (hf : f < n) : zf_X1_isAllowed N z 1 (nI f) S = some (bo (decide (so f = nI 4))) ∧ zf_X1_isAllowed N z 2 (nI f) S = some (bo (decide (so f = nI 6))) ∧ zf_X1_isAllowed N z 4 (nI f) S = some (bo (decide (so f = nI 7))) ∧ zf_X1_isAllowed N z 3 (nI f) S = (if so f = nI 5 then (if (666 : Int32) ≤ S.1 21 then some 0 else some 1) else some 0) ∧ ∀ r, 5 ≤ r → r < 256 → zf_X1_isAllowed N z (nI r) (nI f) S = some 0 := by
  obtain ⟨e1, -, -, -⟩ := ck_in (N := N) (z := z) hc.1 hc.2.2.2.2.1 hf
  rw [(hc.2.1 f hf).1] at e1
  have B : ∀ s : Nat, (if so f = nI s then mq_cz (1 : Int32) (some (1 : Int32)) else mq_cz (0 : Int32) (some (0 : Int32))) = some (bo (decide (so f = nI s))) := fun s => by
    rw [mq_cz_0, mq_cz_1]; unfold bo
    by_cases q : so f = nI s
    · rw [if_pos q, if_pos (by simp [q])]
    · rw [if_neg q, if_neg (by simp [q])]
  refine ⟨?_, ?_, ?_, ?_, fun r h5 h2 => ?_⟩
  · unfold zf_X1_isAllowed
    rw [e1, mq_cp_s, nI_e, if_neg (by decide), if_pos rfl]
    exact B 4
  · unfold zf_X1_isAllowed
    rw [e1, mq_cp_s, nI_e, if_neg (by decide), if_neg (by decide), if_pos rfl]
    exact B 6
  · unfold zf_X1_isAllowed
    rw [e1, mq_cp_s, nI_e, if_neg (by decide), if_neg (by decide), if_neg (by decide), if_neg (by decide), if_pos rfl]
    exact B 7
  · unfold zf_X1_isAllowed
    rw [e1, mq_cp_s, nI_e, if_neg (by decide), if_neg (by decide), if_neg (by decide), if_pos rfl, mq_cz_0, mq_cz_1]
    rfl
  · have ne : ∀ k : Nat, k < 5 → ¬ nI r = nI k := fun k hk q => by have := sp_inj q (by omega) (by omega); omega
    unfold zf_X1_isAllowed
    rw [e1, mq_cp_s, nI_e, if_neg (show ¬ nI r = 0 from ne 0 (by omega)), if_neg (show ¬ nI r = 1 from ne 1 (by omega)), if_neg (show ¬ nI r = 2 from ne 2 (by omega)), if_neg (show ¬ nI r = 3 from ne 3 (by omega)), if_neg (show ¬ nI r = 4 from ne 4 (by omega)), mq_cz_0]
theorem lbo {w : Nat → Int64} {Y : Nat → Bool} {g f : Nat} (h : ∀ g, g < 320 → lb w 0 g = Y g) (hg : g < 320) : (lb w 0 g || decide ((0 : Nat) = 0 ∧ g = f)) = (Y g || decide (g = f)) := by
  rw [h g hg]; congr 1; rw [decide_eq_decide]; exact ⟨fun q => q.2, fun q => ⟨rfl, q⟩⟩
/-- the class applies a rule's line -/
theorem cp_72 (hc : cxC S n so on tw d) (hf : f < n) {s : Nat} (hs : so f = nI s) (h4 : 4 ≤ s) (h7 : s ≤ 7) (hv : vC S X H) : (s ≠ 4 → ∀ r : Int32, r ≠ 1 → ∃ S', ag [21] [] [5, 6] S S' ∧ vC S' (fun g => X g || decide (g = p1 on f)) H ∧ zf_X1_apply_72 N z r (nI f) S = some ((), S')) ∧ (s = 4 → ∃ S', ag [21] [] [5, 6] S S' ∧ vC S' (fun g => (X g || decide (g = p1 on f)) || decide (g = p1 tw f)) H ∧ zf_X1_apply_72 N z 1 (nI f) S = some ((), S')) := by
  have h3 := hc.2.2.2.2.1
  obtain ⟨-, e2, -, -⟩ := ck_in (N := N) (z := z) hc.1 h3 hf
  obtain ⟨w1, w2, w3, -⟩ := fw_1 hc.2.2.2 hf hs h4 h7
  rw [(hc.2.1 f hf).2.1, w2] at e2
  obtain ⟨l, a1, a2⟩ := cv_put (N := N) (S := S) (k := 6) (r := 0) (f := p1 on f) (R := 1) (y := fun k => [5].getD k 0) rfl (by omega) (by omega) (by omega)
  have b2 : ∀ g, g < 320 → lb l 0 g = (X g || decide (g = p1 on f)) := fun g hg => (a2 0 g hg).trans (lbo hv.2.1 hg)
  refine ⟨fun _ r hr => ⟨mq_sl S 6 l, ag_sl (by decide), ⟨hv.1, b2, hv.2.2⟩, ?_⟩, fun h => ?_⟩
  · unfold zf_X1_apply_72
    rw [e2, mq_cp_s, show (0 : Int32) = nI 0 from rfl, a1, if_neg hr]
  · obtain ⟨-, -, e3, -⟩ := ck_in (N := N) (z := z) (S := mq_sl S 6 l) hc.1 h3 hf
    rw [show (mq_sl S 6 l).2.1 6 f = tw f from (hc.2.1 f hf).2.2.1, (w3 (by omega)).2] at e3
    obtain ⟨l', c1, c2⟩ := cv_put (N := N) (S := mq_sl S 6 l) (k := 6) (r := 0) (f := p1 tw f) (R := 1) (y := fun k => [5].getD k 0) rfl (by omega) (by omega) (by have := (w3 (by omega)).1; omega)
    have c3 : ∀ g, g < 320 → lb l' 0 g = ((X g || decide (g = p1 on f)) || decide (g = p1 tw f)) := fun g hg => (c2 0 g hg).trans (lbo (w := l) b2 hg)
    refine ⟨mq_sl (mq_sl S 6 l) 6 l', ag_tr (ag_sl (by decide)) (ag_sl (by decide)), ⟨hv.1, c3, hv.2.2⟩, ?_⟩
    unfold zf_X1_apply_72
    rw [e2, mq_cp_s, show (0 : Int32) = nI 0 from rfl, a1, if_pos rfl, e3, mq_cp_s, c1]
theorem cp_1 (hc : cxC S n so on tw d) (hf : f < n) (hs : so f = nI 4) (hv : vC S X H) : ∃ S', ag [21] [] [5, 6] S S' ∧ vC S' (fun g => (X g || decide (g = p1 on f)) || decide (g = p1 tw f)) H ∧ zf_X1_apply N z 1 (nI f) S = some ((), S') := by
  obtain ⟨S', a, b, c⟩ := (cp_72 (N := N) (z := z) hc hf hs (by omega) (by omega) hv).2 rfl
  refine ⟨S', a, b, ?_⟩
  unfold zf_X1_apply zf_X1_apply_50
  rw [if_neg (by decide), if_neg (by decide)]; exact c
theorem cp_2 (hc : cxC S n so on tw d) (hf : f < n) (hs : so f = nI 6) (hv : vC S X H) : ∃ S', ag [21] [] [5, 6] S S' ∧ vC S' (fun g => X g || decide (g = p1 on f)) H ∧ zf_X1_apply N z 2 (nI f) S = some ((), S') := by
  obtain ⟨S', a, b, c⟩ := (cp_72 (N := N) (z := z) hc hf hs (by omega) (by omega) hv).1 (by omega) 2 (by decide)
  refine ⟨S', a, b, ?_⟩
  unfold zf_X1_apply zf_X1_apply_50
  rw [if_neg (by decide), if_neg (by decide)]; exact c
theorem cp_4 (hN : 10 ≤ N) (hc : cxC S n so on tw d) (hf : f < n) (hs : so f = nI 7) (hv : vC S X H) : ∃ S', ag [21] [] [5, 6] S S' ∧ vC S' (sta n so X (p1 on f)) H ∧ zf_X1_apply N z 4 (nI f) S = some ((), S') := by
  obtain ⟨l, a1, a2⟩ := cv_meet (N := N) (S := S) (a := 6) (b := 0) (ra := 0) (rb := 6) (RA := 1) (RB := 8) (y := fun k => [5, 40].getD k 0) hN (by decide) rfl rfl (by omega) (by omega) (by omega) (by omega)
  have b2 : vC (mq_sl S 6 l) (fun g => X g && decide (g < n ∧ so g = nI 6)) H := ⟨hv.1, fun g hg => by
    show lb l 0 g = _
    rw [a2 0 g hg, if_pos rfl, hv.2.1 g hg, hc.2.2.1 6 g (by omega) hg], hv.2.2⟩
  obtain ⟨S', a, b, c⟩ := (cp_72 (N := N) (z := z) (S := mq_sl S 6 l) (cxC_c hc rfl rfl rfl rfl rfl rfl) hf hs (by omega) (by omega) b2).1 (by omega) 4 (by decide)
  refine ⟨S', ag_tr (ag_sl (by decide)) a, b, ?_⟩
  unfold zf_X1_apply zf_X1_apply_50
  rw [if_neg (by decide), if_pos rfl]
  refine (cp_go (v := ()) rfl).trans ?_
  rw [show (0 : Int32) = nI 0 from rfl, show (6 : Int32) = nI 6 from rfl, a1]; exact c
theorem cp_3 (hN : 10 ≤ N) (hc : cxC S n so on tw d) (hf : f < n) (hs : so f = nI 5) (hv : vC S X H) (hH : H.length < 666) : ∃ S', ag [21] [] [5, 6] S S' ∧ vC S' (fun g => X g || decide (g = p1 on f)) ((fun g => X g || decide (g = p1 tw f)) :: H) ∧ zf_X1_apply N z 3 (nI f) S = some ((), S') := by
  have h3 := hc.2.2.2.2.1
  obtain ⟨l, a1, a2⟩ := cv_copy (N := N) (S := S) (a := 5) (b := 6) (ra := H.length) (rb := 0) (RA := 666) (RB := 1) (y := fun k => [3330, 5].getD k 0) hN (by decide) rfl rfl (by omega) (by omega) hH (by omega)
  obtain ⟨-, -, e3, -⟩ := ck_in (N := N) (z := z) (S := mq_sl S 5 l) hc.1 h3 hf
  obtain ⟨w1, w2, w3, -⟩ := fw_1 hc.2.2.2 hf hs (by omega) (by omega)
  rw [show (mq_sl S 5 l).2.1 6 f = tw f from (hc.2.1 f hf).2.2.1, (w3 (by omega)).2] at e3
  obtain ⟨l', c1, c2⟩ := cv_put (N := N) (S := mq_sl S 5 l) (k := 5) (r := H.length) (f := p1 tw f) (R := 666) (y := fun k => [3330].getD k 0) rfl (by omega) hH (by have := (w3 (by omega)).1; omega)
  have b2 : vC (mq_si (mq_sl (mq_sl S 5 l) 5 l') 21 (nI (H.length + 1))) X ((fun g => X g || decide (g = p1 tw f)) :: H) := ⟨by rw [List.length_cons]; rfl, hv.2.1, fun g hg => by
    show lb l' H.length g = _
    rw [c2 _ g hg]
    show (lb l H.length g || _) = _
    rw [a2 _ g hg, if_pos rfl, hv.2.1 g hg]
    congr 1; rw [decide_eq_decide]; exact ⟨fun q => q.2, fun q => ⟨rfl, q⟩⟩, hl_c H (fun r g hr hg => by
    show lb l' r g = _
    rw [c2 _ g hg]
    show (lb l r g || _) = _
    rw [a2 _ g hg, if_neg (by omega), decide_eq_false (by omega), Bool.or_false]) hv.2.2⟩
  have vv : vC (mq_si (mq_sl (mq_sl S 5 l) 5 l') 21 (nI (H.length + 1))) X ((fun g => X g || decide (g = p1 tw f)) :: H) := b2
  obtain ⟨S', a, b, c⟩ := (cp_72 (N := N) (z := z) (S := mq_si (mq_sl (mq_sl S 5 l) 5 l') 21 (nI (H.length + 1))) (cxC_c hc rfl rfl rfl rfl rfl rfl) hf hs (by omega) (by omega) vv).1 (by omega) 3 (by decide)
  refine ⟨S', ag_tr (ag_tr (ag_tr (ag_sl (by decide)) (ag_sl (by decide))) (ag_si (by decide))) a, b, ?_⟩
  unfold zf_X1_apply zf_X1_apply_50
  rw [if_pos rfl, hv.1, show (0 : Int32) = nI 0 from rfl, a1, e3, mq_cp_s, show (mq_sl S 5 l).1 21 = nI H.length from hv.1, c1, show (mq_sl (mq_sl S 5 l) 5 l').1 21 = nI H.length from hv.1, nI_1, nS_e, if_neg (by decide)]
  exact c
theorem e3m (a : Nat) : (3 : Int32) * nI a = nI (3 * a) := by rw [show (3 : Int32) = nI 3 from rfl, pk_mul]
theorem e256 (a b : Nat) : (256 : Int32) * nI a + nI b = nI (256 * a + b) := by rw [show (256 : Int32) = nI 256 from rfl, pk_mul, nI_add]
theorem nI_2p (a : Nat) : nI a + 2 = nI (a + 2) := nI_add a 2
theorem cv_48 (hN : 10 ≤ N) (hL : 3 * L ≤ 4000) (hg : ∀ j, gb j < 256) : ∀ (fu k i : Nat) (X : Nat → Bool) (H : List (Nat → Bool)) (S : mq_St), i + k = L → k < fu → H.length ≤ i → H.length ≤ 666 → cxC S n so on tw d → S.1 0 = nI (3 * L) → (∀ j, j < 3 * L → by_at (S.2.1 2) j = nI (gb j)) → vC S X H → ∃ S', ag [21] [] [5, 6] S S' ∧ zf_X1_isRight_48 N z fu (nI L) (nI i) S = some (bo (vA n so on tw d gb k i X H), S')
  | 0, k, i, X, H, S, _, h, _, _, _, _, _, _ => by omega
  | fu + 1, 0, i, X, H, S, hi, _, _, _, hc, h0, hb, hv => by
    refine ⟨S, ag_rf, ?_⟩
    show zf_X1_isRight_48b N z _ (nI L) (nI i) S = some (0, S)
    unfold zf_X1_isRight_48b
    rw [if_pos (nI_le (by omega) (by omega)), mq_cz_0]
  | fu + 1, k + 1, i, X, H, S, hi, hfu, hH, hH6, hc, h0, hb, hv => by
    have h3 := hc.2.2.2.2.1
    show ∃ S', _ ∧ zf_X1_isRight_48b N z (fun v2 v3 S => zf_X1_isRight_48 N z fu v2 v3 S) (nI L) (nI i) S = some (bo (if gF gb i < n ∧ X (gF gb i) = true then _ else false), S')
    have rd : ∀ j, j < 3 * L → zf_X0_at N z (nI j) (mq_pull S [0] [2] []) = some (nI (gb j)) := fun j hj => (by_zat (S := mq_pull S [0] [2] []) h0 hL hj).trans (congrArg some (hb j hj))
    have go := fun X' H' S' (h1 : H'.length ≤ i + 1) (h2 : H'.length ≤ 666) (ha : ag [21] [] [5, 6] S S') (hv' : vC S' X' H') => cv_48 hN hL hg fu k (i + 1) X' H' S' (by omega) (by omega) h1 h2 (cxC_c hc (ha.1 _ (by decide)) (ha.2.1 _ (by decide)) (ha.2.1 _ (by decide)) (ha.2.1 _ (by decide)) (ha.2.1 _ (by decide)) (ha.2.2 _ (by decide))) ((ha.1 0 (by decide)).trans h0) (fun j hj => by rw [ha.2.1 2 (by decide)]; exact hb j hj) hv'
    unfold zf_X1_isRight_48b zf_X1_isRight_186
    rw [if_neg (nI_ge (show i < L by omega) (by omega)), e3m, nI_e, rd (3 * i) (by omega), mq_cp_s, nI_e, nI_1, rd (3 * i + 1) (by omega), mq_cp_s, nI_2p, rd (3 * i + 2) (by omega), mq_cp_s, e256, nI_e]
    have h65 : gF gb i < 65536 := by have := hg (3 * i + 1); have := hg (3 * i + 2); unfold gF; omega
    show ∃ S', ag [21] [] [5, 6] S S' ∧ mq_cp (zf_X6_has N (fun k => [5].getD k 0) 0 (nI (gF gb i)) (mq_pull S [] [] [6])) _ = _
    rw [show 256 * gb (3 * i + 1) + gb (3 * i + 2) = gF gb i from rfl]
    have hgr := hg (3 * i)
    generalize gF gb i = f at *
    generalize gb (3 * i) = r at *
    by_cases hp : f < 320
    · have e5 : zf_X6_has N (fun k => [5].getD k 0) 0 (nI f) (mq_pull S [] [] [6]) = some (if X f = true then 1 else 0) := by
        rw [← hv.2.1 _ hp]
        exact se_has (N := N) (R := 1) (z := fun k => [5].getD k 0) (S := mq_pull S [] [] [6]) (r := 0) (f := f) rfl (by omega) (by omega) hp
      rw [e5, mq_cp_s]
      by_cases hX : X f = true
      · rw [if_pos hX, if_neg (by decide)]
        by_cases hn : f < n
        · rw [if_pos (show f < n ∧ X f = true from ⟨hn, hX⟩)]
          obtain ⟨c1, c2, c4, c3, c5⟩ := ca_1 (N := N) (z := z) hc hn
          by_cases r0 : r = 0
          · subst r0
            rw [show nI 0 = 0 from rfl, ca_0 hc hn hv, mq_cp_s, if_pos rfl, if_pos rfl]
            by_cases q : so f = nI 1 ∨ (so f = nI 2 ∧ X (d f) = true)
            · rw [if_pos q, decide_eq_true q, if_neg (by decide), hv.1]
              cases H with
              | nil =>
                refine ⟨S, ag_rf, ?_⟩
                rw [if_pos (show nI ([] : List (Nat → Bool)).length = 0 from rfl), show nI L - 1 = nI (L - 1) from sp_su (b := 1) (by omega), mq_cz_0, mq_cz_1]
                by_cases e : k = 0
                · rw [if_pos (by rw [show i = L - 1 by omega]), e]; rfl
                · rw [if_neg (fun q => by have := sp_inj q (by omega) (by omega); omega), decide_eq_false e]; rfl
              | cons Y H' =>
                have hl' : H'.length + 1 ≤ 666 := hH6
                have hi' : H'.length + 1 ≤ i := hH
                rw [if_neg (fun q => by have := sp_inj (a := H'.length + 1) (b := 0) q (by omega) (by omega); omega), show nI (Y :: H').length - 1 = nI H'.length from sp_su (a := H'.length + 1) (b := 1) (by omega), nS_e, show (mq_si S 21 (nI H'.length)).1 21 = nI H'.length from rfl]
                obtain ⟨l, a1, a2⟩ := cv_copy (N := N) (S := mq_si S 21 (nI H'.length)) (a := 6) (b := 5) (ra := 0) (rb := H'.length) (RA := 1) (RB := 666) (y := fun k => [5, 3330].getD k 0) hN (by decide) rfl rfl (by omega) (by omega) (by omega) (by omega)
                rw [show (0 : Int32) = nI 0 from rfl, a1, nI_e, nI_1]
                obtain ⟨S', b1, b2⟩ := go Y H' (mq_sl (mq_si S 21 (nI H'.length)) 6 l) (by omega) (by omega) (ag_tr (ag_si (by decide)) (ag_sl (by decide))) ⟨rfl, fun g hg => by
                  show lb l 0 g = _
                  rw [a2 0 g hg, if_pos rfl]; exact hv.2.2.1 g hg, hv.2.2.2⟩
                exact ⟨S', ag_tr (ag_tr (ag_si (by decide)) (ag_sl (by decide))) b1, b2⟩
            · rw [if_neg q, decide_eq_false q, if_pos (by decide), mq_cz_0]
              exact ⟨S, ag_rf, rfl⟩
          · rw [if_neg r0, if_neg (show ¬ nI r = 0 from fun q => r0 (sp_inj (b := 0) q (by omega) (by omega)))]
            by_cases r1 : r = 1
            · subst r1
              rw [if_pos rfl, show nI 1 = 1 from rfl, c1, mq_cp_s]
              by_cases q : so f = nI 4
              · rw [if_pos q, decide_eq_true q, if_neg (by decide)]
                obtain ⟨S1, a1, a2, a3⟩ := cp_1 (N := N) (z := z) hc hn q hv
                obtain ⟨S', b1, b2⟩ := go _ H S1 (by omega) hH6 a1 a2
                rw [a3, mq_cl_s, nI_e, nI_1]
                exact ⟨S', ag_tr a1 b1, b2⟩
              · rw [if_neg q, decide_eq_false q, if_pos (by decide), mq_cz_0]
                exact ⟨S, ag_rf, rfl⟩
            · rw [if_neg r1]
              by_cases r2 : r = 2
              · subst r2
                rw [if_pos rfl, show nI 2 = 2 from rfl, c2, mq_cp_s]
                by_cases q : so f = nI 6
                · rw [if_pos q, decide_eq_true q, if_neg (by decide)]
                  obtain ⟨S1, a1, a2, a3⟩ := cp_2 (N := N) (z := z) hc hn q hv
                  obtain ⟨S', b1, b2⟩ := go _ H S1 (by omega) hH6 a1 a2
                  rw [a3, mq_cl_s, nI_e, nI_1]
                  exact ⟨S', ag_tr a1 b1, b2⟩
                · rw [if_neg q, decide_eq_false q, if_pos (by decide), mq_cz_0]
                  exact ⟨S, ag_rf, rfl⟩
              · rw [if_neg r2]
                by_cases r3 : r = 3
                · subst r3
                  rw [if_pos rfl, show nI 3 = 3 from rfl, c3]
                  by_cases q : so f = nI 5
                  · rw [if_pos q, if_pos q, hv.1]
                    by_cases q6 : H.length < 666
                    · rw [if_neg (show ¬ (666 : Int32) ≤ nI H.length from nI_ge (b := 666) q6 (by omega)), mq_cp_s, if_neg (by decide)]
                      obtain ⟨S1, a1, a2, a3⟩ := cp_3 (N := N) (z := z) hN hc hn q hv q6
                      obtain ⟨S', b1, b2⟩ := go _ _ S1 (by simp only [List.length_cons]; omega) (by simp only [List.length_cons]; omega) a1 a2
                      rw [a3, mq_cl_s, nI_e, nI_1]
                      exact ⟨S', ag_tr a1 b1, b2⟩
                    · rw [if_pos (show (666 : Int32) ≤ nI H.length from nI_le (a := 666) (by omega) (by omega)), mq_cp_s, if_pos rfl, mq_cz_0, vA_len _ _ _ _ (by simp only [List.length_cons]; omega)]
                      exact ⟨S, ag_rf, rfl⟩
                  · rw [if_neg q, if_neg q, mq_cp_s, if_pos rfl, mq_cz_0]
                    exact ⟨S, ag_rf, rfl⟩
                · rw [if_neg r3]
                  by_cases r4 : r = 4
                  · subst r4
                    rw [if_pos rfl, show nI 4 = 4 from rfl, c4, mq_cp_s]
                    by_cases q : so f = nI 7
                    · rw [if_pos q, decide_eq_true q, if_neg (by decide)]
                      obtain ⟨S1, a1, a2, a3⟩ := cp_4 (N := N) (z := z) hN hc hn q hv
                      obtain ⟨S', b1, b2⟩ := go _ H S1 (by omega) hH6 a1 a2
                      rw [a3, mq_cl_s, nI_e, nI_1]
                      exact ⟨S', ag_tr a1 b1, b2⟩
                    · rw [if_neg q, decide_eq_false q, if_pos (by decide), mq_cz_0]
                      exact ⟨S, ag_rf, rfl⟩
                  · rw [if_neg r4, c5 r (by omega) hgr, mq_cp_s, if_pos rfl, mq_cz_0]
                    exact ⟨S, ag_rf, rfl⟩
        · rw [if_neg (show ¬ (f < n ∧ X f = true) from fun q => hn q.1), ca_x _ hc (by omega) (by omega), mq_cp_s, if_pos rfl, mq_cz_0]
          exact ⟨S, ag_rf, rfl⟩
      · rw [if_neg hX, if_pos rfl, mq_cz_0, if_neg (show ¬ (f < n ∧ X f = true) from fun q => hX q.2)]
        exact ⟨S, ag_rf, rfl⟩
    · rw [se_hasx _ (by omega) (by omega), mq_cp_s, if_pos rfl, mq_cz_0, if_neg (show ¬ (f < n ∧ X f = true) from fun q => by have := q.1; omega)]
      exact ⟨S, ag_rf, rfl⟩
end VERC
end
/-! ai.verr -/
section
/-! verify(): the reference's way. -/
section VERR
variable {N n : Nat} {z : Nat → Nat} {S : mq_St} {so on tw : Nat → Int32} {d gb : Nat → Nat} {X : Nat → Bool} {H : List (Nat → Bool)} {L i f r : Nat}
theorem nI_bt {a i : Nat} (ha : a < 2147483648) (hi : i < 32) : bt (nI a) i = a.testBit i := by
  unfold bt
  rw [← BitVec.testBit_toNat]
  congr 1
  show (Int32.ofNat a).toBitVec.toNat = a
  rw [Int32.toBitVec_ofNat', BitVec.toNat_ofNat]
  omega
theorem e_sh8 {a b : Nat} (ha : a < 256) (hb : b < 256) : (nI a <<< ((8 : Int32) &&& 31)) ||| nI b = nI (256 * a + b) := by
  refine b_ext (fun i hi => ?_)
  rw [b_or, b_shl8 _ hi, nI_bt (by omega) hi, nI_bt (by omega) hi, nI_bt (by omega) (by omega), show 256 * a + b = 2 ^ 8 * a + b from rfl, Nat.testBit_two_pow_mul_add a (show b < 2 ^ 8 from hb)]
  by_cases q : i < 8
  · rw [if_pos q, decide_eq_false (by omega)]; rfl
  · rw [if_neg q, decide_eq_true (by omega), Nat.testBit_lt_two_pow (Nat.lt_of_lt_of_le hb (Nat.pow_le_pow_right (n := 2) (by omega) (show 8 ≤ i by omega)))]
    rw [Bool.true_and, Bool.or_false]
/-- the reference's SET and the SETs held -/
def vR (S : mq_St) (X : Nat → Bool) (H : List (Nat → Bool)) : Prop := (∀ g, g < 320 → ib (S.2.1 17) 0 g = X g) ∧ hl (ib (S.2.1 37)) H
theorem pa_1 {S : mq_St} {k : Nat} {l : Nat → Int32} : mq_push S (mq_sa (mq_pull S [] [k] []) 0 l) [] [k] [] = mq_sa S k l := by
  refine Prod.ext rfl (Prod.ext ?_ rfl)
  funext q
  show (match [k].idxOf? q with | some j => (mq_sa (mq_pull S [] [k] []) 0 l).2.1 j | none => S.2.1 q) = if q = k then l else S.2.1 q
  by_cases e : q = k
  · subst e
    have : [q].idxOf? q = some 0 := by simp [List.idxOf?, List.findIdx?_cons]
    rw [this, if_pos rfl]
    rfl
  · rw [if_neg e, List.idxOf?_eq_none_iff.mpr (by simpa using e)]
theorem rv_put {k r f R : Nat} {y : Nat → Nat} (hy : y 0 = 10 * R) (hR : R < 10000) (hr : r < R) (hf : f < 320) : ∃ l, (∀ (α : Type) (K : mq_St → Option α), mq_cl (zf_X11_put N y (nI (10 * r)) (nI f) (mq_pull S [] [k] [])) (fun _ q => mq_nS (mq_push S q [] [k] []) K) = K (mq_sa S k l)) ∧ ∀ r2 g, g < 320 → ib l r2 g = (ib (S.2.1 k) r2 g || decide (r2 = r ∧ g = f)) := by
  obtain ⟨l, a1, a2⟩ := ri_put (N := N) (R := R) (z := y) (S := mq_pull S [] [k] []) (r := r) (f := f) hy hR hr hf
  refine ⟨l, fun α K => ?_, a2⟩
  rw [a1, mq_cl_s, pa_1, nS_e]
theorem rv_copy {a b ra rb RA RB : Nat} {y : Nat → Nat} (hN : 20 ≤ N) (hab : a ≠ b) (hy0 : y 0 = 10 * RA) (hy1 : y 1 = 10 * RB) (hRA : RA < 10000) (hRB : RB < 10000) (h1 : ra < RA) (h2 : rb < RB) : ∃ l, (∀ (α : Type) (K : mq_St → Option α), mq_cl (zf_X11_copy N y (nI (10 * ra)) (nI (10 * rb)) (mq_pull S [] [a, b] [])) (fun _ q => mq_nS (mq_push S q [] [a, b] []) K) = K (mq_sa S b l)) ∧ ∀ r2 g, g < 320 → ib l r2 g = if r2 = rb then ib (S.2.1 a) ra g else ib (S.2.1 b) r2 g := by
  obtain ⟨l, a1, a2, a3⟩ := rf_cp (N := N) (S := S) (a := a) (b := b) (ra := ra) (rb := rb) (R := RA) (R' := RB) (y := y) hN hab hy0 hy1 hRA hRB h1 h2
  refine ⟨l, fun α K => ?_, a3⟩
  rw [a1, mq_cl_s, a2, nS_e]
theorem ibo {w : Nat → Int32} {Y : Nat → Bool} {g f : Nat} (h : ∀ g, g < 320 → ib w 0 g = Y g) (hg : g < 320) : (ib w 0 g || decide ((0 : Nat) = 0 ∧ g = f)) = (Y g || decide (g = f)) := by
  rw [h g hg]; congr 1; rw [decide_eq_decide]; exact ⟨fun q => q.2, fun q => ⟨rfl, q⟩⟩
theorem n10 (a : Nat) : (10 : Int32) * nI a = nI (10 * a) := by rw [show (10 : Int32) = nI 10 from rfl, pk_mul]
theorem nI_3p (a : Nat) : nI (3 * a) + 3 = nI (3 * (a + 1)) := nI_add (3 * a) 3
section STEP
variable {k88 : Int32 → Int32 → Int32 → Int32 → mq_St → Option (Int32 × mq_St)} {v2 v4 : Int32}
theorem rv_337 (hN : 400 ≤ N) (hc : cxR S n so on tw d) (hf : f < n) {s : Nat} (hs : so f = nI s) (hv : vR S X H) (v3 : Int32) :
    (s = 4 → ∃ S', ag [] [17, 31, 37] [] S S' ∧ vR S' (fun g => (X g || decide (g = p1 on f)) || decide (g = p1 tw f)) H ∧ zf_X11_verify_337 N z k88 v2 v3 v4 (nI (3 * i)) 1 (nI f) S = k88 v2 v3 v4 (nI (3 * (i + 1))) S') ∧
    (5 ≤ s → s ≤ 6 → ∀ r : Int32, r ≠ 4 → r ≠ 1 → ∃ S', ag [] [17, 31, 37] [] S S' ∧ vR S' (fun g => X g || decide (g = p1 on f)) H ∧ zf_X11_verify_337 N z k88 v2 v3 v4 (nI (3 * i)) r (nI f) S = k88 v2 v3 v4 (nI (3 * (i + 1))) S') ∧
    (s = 7 → ∃ S', ag [] [17, 31, 37] [] S S' ∧ vR S' (sta n so X (p1 on f)) H ∧ zf_X11_verify_337 N z k88 v2 v3 v4 (nI (3 * i)) 4 (nI f) S = k88 v2 v3 v4 (nI (3 * (i + 1))) S') := by
  have h3 : n ≤ 300 := hc.2.2.2.2.1
  have i1 : vp_in (nI f) 300 := vp_in_nI (by omega) (by omega)
  have cl : (nI f).toNatClampNeg = f := nI_clamp (by omega)
  refine ⟨fun h4 => ?_, fun h5 h6 r hr4 hr1 => ?_, fun h7 => ?_⟩
  · obtain ⟨w1, w2, w3, -⟩ := fw_1 hc.2.2.2 hf hs (by omega) (by omega)
    obtain ⟨w3, w4⟩ := w3 (by omega)
    obtain ⟨l, a1, a2⟩ := rv_put (N := N) (S := S) (k := 17) (r := 0) (f := p1 on f) (R := 1) (y := fun k => [10].getD k 0) rfl (by omega) (by omega) (by omega)
    have b2 : ∀ g, g < 320 → ib l 0 g = (X g || decide (g = p1 on f)) := fun g hg => (a2 0 g hg).trans (ibo hv.1 hg)
    obtain ⟨l', c1, c2⟩ := rv_put (N := N) (S := mq_sa S 17 l) (k := 17) (r := 0) (f := p1 tw f) (R := 1) (y := fun k => [10].getD k 0) rfl (by omega) (by omega) (by omega)
    have c3 : ∀ g, g < 320 → ib l' 0 g = ((X g || decide (g = p1 on f)) || decide (g = p1 tw f)) := fun g hg => (c2 0 g hg).trans (ibo (w := l) b2 hg)
    refine ⟨mq_sa (mq_sa S 17 l) 17 l', ag_tr (ag_sa (by decide)) (ag_sa (by decide)), ⟨c3, hv.2⟩, ?_⟩
    unfold zf_X11_verify_337 zf_X11_verify_401
    rw [if_neg (by decide), mq_ck_of i1, cl, (hc.2.1 f hf).2.1, w2, show (0 : Int32) = nI (10 * 0) from rfl, a1, if_pos rfl, mq_ck_of i1, show (mq_sa S 17 l).2.1 4 f = nI (p1 tw f) from (hc.2.1 f hf).2.2.trans w4, c1, nI_3p, nI_e]
  · obtain ⟨w1, w2, -, -⟩ := fw_1 hc.2.2.2 hf hs (by omega) (by omega)
    obtain ⟨l, a1, a2⟩ := rv_put (N := N) (S := S) (k := 17) (r := 0) (f := p1 on f) (R := 1) (y := fun k => [10].getD k 0) rfl (by omega) (by omega) (by omega)
    have b2 : ∀ g, g < 320 → ib l 0 g = (X g || decide (g = p1 on f)) := fun g hg => (a2 0 g hg).trans (ibo hv.1 hg)
    refine ⟨mq_sa S 17 l, ag_sa (by decide), ⟨b2, hv.2⟩, ?_⟩
    unfold zf_X11_verify_337 zf_X11_verify_401
    rw [if_neg hr4, mq_ck_of i1, cl, (hc.2.1 f hf).2.1, w2, show (0 : Int32) = nI (10 * 0) from rfl, a1, if_neg hr1, nI_3p, nI_e]
  · obtain ⟨a, a1, a2⟩ := rf_mks (N := N) (z := z) (S := S) hc hN hf (hs.trans (by rw [h7]))
    obtain ⟨l, b1, b2⟩ := rv_copy (N := N) (S := mq_sa S 31 a) (a := 31) (b := 17) (ra := 0) (rb := 0) (RA := 1) (RB := 1) (y := fun k => [10, 10].getD k 0) (by omega) (by decide) rfl rfl (by omega) (by omega) (by omega) (by omega)
    refine ⟨mq_sa (mq_sa S 31 a) 17 l, ag_tr (ag_sa (by decide)) (ag_sa (by decide)), ⟨fun g hg => ?_, hv.2⟩, ?_⟩
    · show ib l 0 g = _
      rw [b2 0 g hg, if_pos rfl]
      show ib a 0 g = _
      rw [a2 g hg]
      unfold sta
      rw [hv.1 g hg]
    · unfold zf_X11_verify_337 zf_X11_verify_401
      rw [if_pos rfl, a1, mq_cl_s, show (0 : Int32) = nI (10 * 0) from rfl, b1, nI_3p, nI_e]
theorem rv_289 (hN : 400 ≤ N) (hc : cxR S n so on tw d) (hf : f < n) (hs : so f = nI 5) (hv : vR S X H) (hH : H.length < 1334) : ∃ S', ag [] [17, 31, 37] [] S S' ∧ vR S' (fun g => X g || decide (g = p1 on f)) ((fun g => X g || decide (g = p1 tw f)) :: H) ∧ zf_X11_verify_289 N z k88 v2 (nI H.length) v4 (nI (3 * i)) 3 (nI f) (nI 5) 5 S = k88 v2 (nI (H.length + 1)) v4 (nI (3 * (i + 1))) S' := by
  have h3 : n ≤ 300 := hc.2.2.2.2.1
  have i1 : vp_in (nI f) 300 := vp_in_nI (by omega) (by omega)
  have cl : (nI f).toNatClampNeg = f := nI_clamp (by omega)
  obtain ⟨w1, w2, w3, -⟩ := fw_1 hc.2.2.2 hf hs (by omega) (by omega)
  obtain ⟨w3, w4⟩ := w3 (by omega)
  obtain ⟨l, a1, a2⟩ := rv_copy (N := N) (S := S) (a := 17) (b := 37) (ra := 0) (rb := H.length) (RA := 1) (RB := 1334) (y := fun k => [10, 13340].getD k 0) (by omega) (by decide) rfl rfl (by omega) (by omega) (by omega) hH
  obtain ⟨l', c1, c2⟩ := rv_put (N := N) (S := mq_sa S 37 l) (k := 37) (r := H.length) (f := p1 tw f) (R := 1334) (y := fun k => [13340].getD k 0) rfl (by omega) hH (by omega)
  have vv : vR (mq_sa (mq_sa S 37 l) 37 l') X ((fun g => X g || decide (g = p1 tw f)) :: H) := ⟨hv.1, fun g hg => by
    show ib l' H.length g = _
    rw [c2 _ g hg]
    show (ib l H.length g || _) = _
    rw [a2 _ g hg, if_pos rfl, hv.1 g hg]
    congr 1; rw [decide_eq_decide]; exact ⟨fun q => q.2, fun q => ⟨rfl, q⟩⟩, hl_c H (fun r g hr hg => by
    show ib l' r g = _
    rw [c2 _ g hg]
    show (ib l r g || _) = _
    rw [a2 _ g hg, if_neg (by omega), decide_eq_false (by omega), Bool.or_false]) hv.2⟩
  obtain ⟨S', b1, b2, b3⟩ := (rv_337 (N := N) (z := z) (k88 := k88) (v2 := v2) (v4 := v4) (i := i) (S := mq_sa (mq_sa S 37 l) 37 l') hN (cxR_c hc rfl rfl rfl rfl) hf hs vv (nI (H.length + 1))).2.1 (by omega) (by omega) 3 (by decide) (by decide)
  refine ⟨S', ag_tr (ag_tr (ag_sa (by decide)) (ag_sa (by decide))) b1, b2, ?_⟩
  unfold zf_X11_verify_289
  rw [if_pos (show nI 5 = 5 from rfl), if_pos rfl, n10, show (0 : Int32) = nI (10 * 0) from rfl, a1, mq_ck_of i1, cl, show (mq_sa S 37 l).2.1 4 f = nI (p1 tw f) from (hc.2.1 f hf).2.2.trans w4, c1, nI_1, nI_e]
  exact b3
end STEP
theorem rv_88 (hN : 400 ≤ N) (hL : 3 * L ≤ 4000) (hg : ∀ j, gb j < 256) : ∀ (fu k i : Nat) (X : Nat → Bool) (H : List (Nat → Bool)) (S : mq_St), i + k = L → k < fu → H.length ≤ i → cxR S n so on tw d → (∀ j, j < 3 * L → S.2.1 0 j &&& 255 = nI (gb j)) → vR S X H → ∃ S', ag [] [17, 31, 37] [] S S' ∧ zf_X11_verify_88 N z fu (nI (3 * L)) (nI H.length) 1 (nI (3 * i)) S = some (bo (vA n so on tw d gb k i X H), S')
  | 0, k, i, X, H, S, _, h, _, _, _, _ => by omega
  | fu + 1, 0, i, X, H, S, hi, _, _, hc, hb, hv => by
    refine ⟨S, ag_rf, ?_⟩
    show zf_X11_verify_88b N z _ (nI (3 * L)) (nI H.length) 1 (nI (3 * i)) S = some (0, S)
    unfold zf_X11_verify_88b
    rw [if_pos (nI_le (by omega) (by omega)), if_neg (by decide)]
  | fu + 1, k + 1, i, X, H, S, hi, hfu, hH, hc, hb, hv => by
    have h3 : n ≤ 300 := hc.2.2.2.2.1
    show ∃ S', _ ∧ zf_X11_verify_88b N z (fun v2 v3 v4 v5 S => zf_X11_verify_88 N z fu v2 v3 v4 v5 S) (nI (3 * L)) (nI H.length) 1 (nI (3 * i)) S = some (bo (if gF gb i < n ∧ X (gF gb i) = true then _ else false), S')
    have go := fun X' H' S' (h1 : H'.length ≤ i + 1) (ha : ag [] [17, 31, 37] [] S S') (hv' : vR S' X' H') => rv_88 hN hL hg fu k (i + 1) X' H' S' (by omega) (by omega) h1 (cxR_c hc (ha.1 _ (by decide)) (ha.2.1 _ (by decide)) (ha.2.1 _ (by decide)) (ha.2.1 _ (by decide))) (fun j hj => by rw [ha.2.1 0 (by decide)]; exact hb j hj) hv'
    unfold zf_X11_verify_88b
    have hb0 := hb (3 * i) (by omega)
    have hb1 := hb (3 * i + 1) (by omega)
    have hb2 := hb (3 * i + 2) (by omega)
    rw [if_neg (nI_ge (show 3 * i < 3 * L by omega) (by omega)), mq_ck_of (vp_in_nI (by omega) (by omega)), nI_clamp (show 3 * i < 2147483648 by omega), hb0, nI_e, nI_1, nI_2p, mq_ck_of (vp_in_nI (by omega) (by omega)), mq_ck_of (vp_in_nI (by omega) (by omega)), nI_clamp (show 3 * i + 1 < 2147483648 by omega), nI_clamp (show 3 * i + 2 < 2147483648 by omega), hb1, hb2, e_sh8 (hg _) (hg _), nI_e, if_neg (show ¬ (1 : Int32) = 0 by decide)]
    have h65 : gF gb i < 65536 := by have := hg (3 * i + 1); have := hg (3 * i + 2); unfold gF; omega
    rw [show 256 * gb (3 * i + 1) + gb (3 * i + 2) = gF gb i from rfl]
    have hgr := hg (3 * i)
    clear hb0 hb1 hb2
    generalize gF gb i = f at *
    generalize gb (3 * i) = r at *
    rw [rf_isF _ hc.1 h3, mq_cp_s]
    by_cases hn : f < n
    · rw [if_neg (show ¬ (nI f < 0 ∨ nI n ≤ nI f) from fun q => q.elim (nI_pos (by omega)) (nI_ge hn (by omega))), if_neg (show ¬ (1 : Int32) = 0 by decide)]
      have i1 : vp_in (nI f) 300 := vp_in_nI (by omega) (by omega)
      have cl : (nI f).toNatClampNeg = f := nI_clamp (by omega)
      have e5 : zf_X11_isIn N (fun k => [10].getD k 0) 0 (nI f) (mq_pull S [] [17] []) = some (if X f = true then 1 else 0) := by
        rw [← hv.1 _ (show f < 320 by omega)]
        exact ri_in (N := N) (R := 1) (z := fun k => [10].getD k 0) (S := mq_pull S [] [17] []) (r := 0) (f := f) rfl (by omega) (by omega) (by omega)
      rw [e5, mq_cp_s]
      by_cases hX : X f = true
      · rw [if_pos hX, if_neg (show ¬ (1 : Int32) = 0 by decide), if_pos (show f < n ∧ X f = true from ⟨hn, hX⟩)]
        by_cases r0 : r = 0
        · subst r0
          rw [if_pos (show nI 0 = 0 from rfl), if_pos (show (0 : Nat) = 0 from rfl)]
          have cls : ∃ S', ag [] [17, 31, 37] [] S S' ∧ zf_X11_verify_201 N z (fun v2 v3 v4 v5 S => zf_X11_verify_88 N z fu v2 v3 v4 v5 S) (nI (3 * L)) (nI H.length) (nI (3 * i)) S = some (bo (match (generalizing := false) H with | [] => decide (k = 0) | Y :: H' => vA n so on tw d gb k (i + 1) Y H'), S') := by
            unfold zf_X11_verify_201 zf_X11_verify_210 zf_X11_verify_401
            cases H with
            | nil =>
              refine ⟨S, ag_rf, ?_⟩
              rw [if_pos (show nI ([] : List (Nat → Bool)).length ≤ 0 by decide), nI_e, if_pos rfl, nI_3p, nI_e]
              obtain ⟨fu', rfl⟩ : ∃ f', fu = f' + 1 := ⟨fu - 1, by omega⟩
              show zf_X11_verify_88b N z _ (nI (3 * L)) _ 0 (nI (3 * (i + 1))) S = _
              unfold zf_X11_verify_88b
              by_cases e : k = 0
              · rw [if_pos (nI_le (by omega) (by omega)), if_pos rfl, e]; rfl
              · rw [if_neg (nI_ge (show 3 * (i + 1) < 3 * L by omega) (by omega)), mq_ck_of (vp_in_nI (by omega) (by omega)), nI_e, nI_1, nI_2p, mq_ck_of (vp_in_nI (by omega) (by omega)), mq_ck_of (vp_in_nI (by omega) (by omega)), nI_e, if_pos rfl, decide_eq_false e]; rfl
            | cons Y H' =>
              have hi' : H'.length + 1 ≤ i := hH
              rw [if_neg (show ¬ nI (Y :: H').length ≤ 0 from nI_nle (n := H'.length + 1) (by omega) (by omega)), nI_e, if_neg (show ¬ (1 : Int32) = 0 by decide), show nI (Y :: H').length + -1 = nI H'.length from sp_ne (a := H'.length + 1) (b := 1) (by omega), nI_e, n10]
              obtain ⟨l, a1, a2⟩ := rv_copy (N := N) (S := S) (a := 37) (b := 17) (ra := H'.length) (rb := 0) (RA := 1334) (RB := 1) (y := fun k => [13340, 10].getD k 0) (by omega) (by decide) rfl rfl (by omega) (by omega) (by omega) (by omega)
              rw [show (0 : Int32) = nI (10 * 0) from rfl, a1, nI_3p, nI_e]
              obtain ⟨S', b1, b2⟩ := go Y H' (mq_sa S 17 l) (by omega) (ag_sa (by decide)) ⟨fun g hg => by
                show ib l 0 g = _
                rw [a2 0 g hg, if_pos rfl]; exact hv.2.1 g hg, hv.2.2⟩
              exact ⟨S', ag_tr (ag_sa (by decide)) b1, b2⟩
          by_cases q1 : nI f = 1
          · have f1 : f = 1 := sp_inj (b := 1) q1 (by omega) (by omega)
            have s1 : so f = nI 1 := by rw [f1]; exact hc.2.2.1.2
            rw [if_pos q1, if_pos (show so f = nI 1 ∨ (so f = nI 2 ∧ X (d f) = true) from Or.inl s1)]
            exact cls
          · have s1 : ¬ so f = nI 1 := fun q => q1 (by rw [(fw_let hc.2.2.2 hn).2.2 q]; rfl)
            rw [if_neg q1, mq_ck_of i1, cl, (hc.2.1 f hn).1]
            by_cases q2 : so f = nI 2
            · have hd : d f < 320 := by have := hc.2.2.2.2.2.2.1 f hn; omega
              rw [if_pos (show so f = 2 from q2), rs_opp (by omega) hc hn q2, mq_cp_s, hv.1 _ hd]
              by_cases q3 : X (d f) = true
              · rw [if_pos q3, if_neg (show ¬ (1 : Int32) = 0 by decide), if_pos (show so f = nI 1 ∨ (so f = nI 2 ∧ X (d f) = true) from Or.inr ⟨q2, q3⟩)]
                exact cls
              · rw [if_neg q3, if_pos rfl, if_neg (show ¬ (so f = nI 1 ∨ (so f = nI 2 ∧ X (d f) = true)) from fun q => q.elim s1 (fun q => q3 q.2))]
                exact ⟨S, ag_rf, rfl⟩
            · rw [if_neg (show ¬ so f = 2 from q2), if_neg (show ¬ (so f = nI 1 ∨ (so f = nI 2 ∧ X (d f) = true)) from fun q => q.elim s1 (fun q => q2 q.1))]
              exact ⟨S, ag_rf, rfl⟩
        · rw [if_neg (show ¬ nI r = 0 from fun q => r0 (sp_inj (b := 0) q (by omega) (by omega))), if_neg r0, rf_in, mq_cp_s]
          by_cases r5 : r < 5
          · rw [if_neg (show ¬ (nI r < 1 ∨ 4 < nI r) from fun q => q.elim (fun a => (sp_ltF (a := r) (b := 1) (by omega) (by omega)).mp a) (fun a => (sp_ltF (a := 4) (b := r) (by omega) (by omega)).mp a)), if_neg (show ¬ (1 : Int32) = 0 by decide), mq_ck_of i1, cl, (hc.2.1 f hn).1]
            have no : ∀ (s : Nat) (r' : Int32) (v3 : Int32), so f ≠ nI s → zf_X11_verify_289 N z (fun v2 v3 v4 v5 S => zf_X11_verify_88 N z fu v2 v3 v4 v5 S) (nI (3 * L)) v3 1 (nI (3 * i)) r' (nI f) (so f) (nI s) S = some (0, S) := fun s r' v3 hs => by
              unfold zf_X11_verify_289
              rw [if_neg hs]
            have yes : ∀ (s : Nat) (r' : Int32) (v3 : Int32), so f = nI s → r' ≠ 3 → zf_X11_verify_289 N z (fun v2 v3 v4 v5 S => zf_X11_verify_88 N z fu v2 v3 v4 v5 S) (nI (3 * L)) v3 1 (nI (3 * i)) r' (nI f) (so f) (nI s) S = zf_X11_verify_337 N z (fun v2 v3 v4 v5 S => zf_X11_verify_88 N z fu v2 v3 v4 v5 S) (nI (3 * L)) v3 1 (nI (3 * i)) r' (nI f) S := fun s r' v3 hs hr => by
              unfold zf_X11_verify_289
              rw [if_pos hs, if_neg hr]
            have st := fun s (hs : so f = nI s) => rv_337 (N := N) (z := z) (k88 := fun v2 v3 v4 v5 S => zf_X11_verify_88 N z fu v2 v3 v4 v5 S) (v2 := nI (3 * L)) (v4 := 1) (i := i) hN hc hn (s := s) hs hv (nI H.length)
            by_cases r1 : r = 1
            · subst r1
              rw [if_pos (show nI 1 = 1 from rfl), if_pos (show (1 : Nat) = 1 from rfl)]
              by_cases q : so f = nI 4
              · obtain ⟨S1, a1, a2, a3⟩ := (st 4 q).1 rfl
                obtain ⟨S', b1, b2⟩ := go _ H S1 (by omega) a1 a2
                rw [if_pos q]
                exact ⟨S', ag_tr a1 b1, (yes 4 1 _ q (by decide)).trans (a3.trans b2)⟩
              · rw [if_neg q]
                exact ⟨S, ag_rf, no 4 1 _ q⟩
            · rw [if_neg (show ¬ nI r = 1 from fun q => r1 (sp_inj (b := 1) q (by omega) (by omega))), if_neg r1]
              by_cases r2 : r = 2
              · subst r2
                rw [if_pos (show nI 2 = 2 from rfl), if_pos (show (2 : Nat) = 2 from rfl)]
                by_cases q : so f = nI 6
                · obtain ⟨S1, a1, a2, a3⟩ := (st 6 q).2.1 (by omega) (by omega) 2 (by decide) (by decide)
                  obtain ⟨S', b1, b2⟩ := go _ H S1 (by omega) a1 a2
                  rw [if_pos q]
                  exact ⟨S', ag_tr a1 b1, (yes 6 2 _ q (by decide)).trans (a3.trans b2)⟩
                · rw [if_neg q]
                  exact ⟨S, ag_rf, no 6 2 _ q⟩
              · rw [if_neg (show ¬ nI r = 2 from fun q => r2 (sp_inj (b := 2) q (by omega) (by omega))), if_neg r2]
                by_cases r3 : r = 3
                · subst r3
                  rw [if_pos (show nI 3 = 3 from rfl), if_pos (show (3 : Nat) = 3 from rfl)]
                  by_cases q : so f = nI 5
                  · obtain ⟨S1, a1, a2, a3⟩ := rv_289 (N := N) (z := z) (k88 := fun v2 v3 v4 v5 S => zf_X11_verify_88 N z fu v2 v3 v4 v5 S) (v2 := nI (3 * L)) (v4 := 1) (i := i) hN hc hn q hv (by omega)
                    obtain ⟨S', b1, b2⟩ := go _ _ S1 (by simp only [List.length_cons]; omega) a1 a2
                    rw [if_pos q, q]
                    exact ⟨S', ag_tr a1 b1, a3.trans b2⟩
                  · rw [if_neg q]
                    exact ⟨S, ag_rf, no 5 3 _ q⟩
                · have r4 : r = 4 := by omega
                  subst r4
                  rw [if_neg (show ¬ nI 4 = 3 by decide), if_neg (show ¬ (4 : Nat) = 3 by decide), if_pos (show (4 : Nat) = 4 from rfl)]
                  by_cases q : so f = nI 7
                  · obtain ⟨S1, a1, a2, a3⟩ := (st 7 q).2.2 rfl
                    obtain ⟨S', b1, b2⟩ := go _ H S1 (by omega) a1 a2
                    rw [if_pos q]
                    exact ⟨S', ag_tr a1 b1, (yes 7 4 _ q (by decide)).trans (a3.trans b2)⟩
                  · rw [if_neg q]
                    exact ⟨S, ag_rf, no 7 4 _ q⟩
          · rw [if_pos (show nI r < 1 ∨ 4 < nI r from Or.inr (nI_lt (a := 4) (by omega) (by omega))), if_pos rfl, if_neg (by omega), if_neg (by omega), if_neg (by omega), if_neg (by omega)]
            exact ⟨S, ag_rf, rfl⟩
      · rw [if_neg hX, if_pos rfl, if_neg (show ¬ (f < n ∧ X f = true) from fun q => hX q.2)]
        exact ⟨S, ag_rf, rfl⟩
    · rw [if_pos (show nI f < 0 ∨ nI n ≤ nI f from Or.inr (nI_le (by omega) (by omega))), if_pos rfl, if_neg (show ¬ (f < n ∧ X f = true) from fun q => hn q.1)]
      exact ⟨S, ag_rf, rfl⟩
end VERR
end
/-! aj.stver -/
section
/-! verify(): class and reference answer alike. -/
section STVER
variable {N n : Nat} {z : Nat → Nat} {S SC SR : mq_St} {so on tw : Nat → Int32} {d gb : Nat → Nat} {X : Nat → Bool} {H : List (Nat → Bool)} {L i f r : Nat}
theorem sa_id (S : mq_St) (k : Nat) : mq_sa S k (S.2.1 k) = S := by
  refine Prod.ext rfl (Prod.ext ?_ rfl)
  funext q
  show (if q = k then S.2.1 k else S.2.1 q) = S.2.1 q
  by_cases e : q = k
  · rw [if_pos e, e]
  · rw [if_neg e]
theorem m3 {t : Nat} (ht : t ≤ 4000) : nI t / 3 = nI (t / 3) ∧ (nI t - nI t / 3 * 3 = 0 ↔ t % 3 = 0) := by
  have q : nI t / 3 = nI (t / 3) := pk_div (a := t) (d := 3) (by omega) (by omega) (by omega)
  refine ⟨q, ?_⟩
  rw [q, show (3 : Int32) = nI 3 from rfl, pk_mul, sp_su (by omega), show t - t / 3 * 3 = t % 3 by omega]
  constructor
  · intro e; exact sp_inj (b := 0) e (by omega) (by omega)
  · intro e; rw [e]; rfl
theorem cv_right {g0 : Nat} (hN : 2000 ≤ N) (hL : 3 * L ≤ 4000) (hg : ∀ j, gb j < 256) (hc : cxC S n so on tw d) (hg0 : g0 < n) (h0 : S.1 0 = nI (3 * L)) (hb : ∀ j, j < 3 * L → by_at (S.2.1 2) j = nI (gb j)) : ∃ S', ag [21] [] [5, 6] S S' ∧ zf_X1_isRight N z (nI g0) S = some (bo (vA n so on tw d gb L 0 (fun g => decide (g = g0)) []), S') := by
  have h3 := hc.2.2.2.2.1
  obtain ⟨l, a1, a2⟩ := cv_empty (N := N) (S := S) (k := 6) (r := 0) (R := 1) (y := fun k => [5].getD k 0) (by omega) rfl (by omega) (by omega)
  obtain ⟨l', c1, c2⟩ := cv_put (N := N) (S := mq_sl S 6 l) (k := 6) (r := 0) (f := g0) (R := 1) (y := fun k => [5].getD k 0) rfl (by omega) (by omega) (by omega)
  have fr : ag [21] [] [5, 6] S (mq_si (mq_sl (mq_sl S 6 l) 6 l') 21 0) := ag_tr (ag_tr (ag_sl (by decide)) (ag_sl (by decide))) (ag_si (by decide))
  obtain ⟨S', b1, b2⟩ := cv_48 (N := N) (z := z) (n := n) (so := so) (on := on) (tw := tw) (d := d) (gb := gb) (L := L) (by omega) hL hg N L 0 (fun g => decide (g = g0)) [] (mq_si (mq_sl (mq_sl S 6 l) 6 l') 21 0) (by omega) (by omega) (by simp) (by simp) (cxC_c hc rfl rfl rfl rfl rfl rfl) h0 hb ⟨rfl, fun g hg => by
    show lb l' 0 g = _
    rw [c2 0 g hg]
    show (lb l 0 g || _) = _
    rw [a2 0 g hg]
    simp, trivial⟩
  refine ⟨S', ag_tr fr b1, ?_⟩
  obtain ⟨m1, m2⟩ := m3 (t := 3 * L) hL
  have sz : zf_X0_size N z (mq_pull S [0] [2] []) = some (nI (3 * L)) := congrArg some h0
  unfold zf_X1_isRight
  rw [sz, mq_cp_s, if_pos (m2.mpr (by omega)), mq_cp_s, m1, nI_e, show 3 * L / 3 = L by omega, show (0 : Int32) = nI 0 from rfl, a1, c1, nS_e, nI_e]
  exact b2
theorem rv_47 {k : Int32} {s g0 : Nat} (hN : 2000 ≤ N) (hL : 3 * L ≤ 4000) (hg : ∀ j, gb j < 256) (hc : cxR S n so on tw d) (hs : s < 8) (h6 : S.2.1 6 s = nI g0) (hg0 : g0 < n) (hb : ∀ j, j < 3 * L → S.2.1 0 j &&& 255 = nI (gb j)) : ∃ S', ag [] [17, 31, 37] [] S S' ∧ zf_X11_verify_47 N z N (nI s) (nI (3 * L)) 0 S = some (bo (vA n so on tw d gb L 0 (fun g => decide (g = g0)) []), S') := by
  have h3 : n ≤ 300 := hc.2.2.2.2.1
  obtain ⟨T, ⟨b, a1, a2⟩, a3⟩ := lp_i (F := fun fu k T => zf_X11_verify_47 N z fu (nI s) (nI (3 * L)) k T) (n := 10) (I := fun k T => ∃ b, T = mq_sa S 17 b ∧ ∀ i, i < k → b i = 0) (G := fun T => zf_X11_verify_47b N z (fun _ _ _ _ => none) (nI s) (nI (3 * L)) (nI 10) T) (fun fu T hI => by
    show zf_X11_verify_47b N z _ (nI s) (nI (3 * L)) (nI 10) T = zf_X11_verify_47b N z _ (nI s) (nI (3 * L)) (nI 10) T
    unfold zf_X11_verify_47b
    rw [if_pos (show (10 : Int32) ≤ nI 10 by decide), if_pos (show (10 : Int32) ≤ nI 10 by decide)]) (fun fu k T hk hI => by
    obtain ⟨b, rfl, hb⟩ := hI
    refine ⟨mq_sa (mq_sa S 17 b) 17 (upd b k 0), ⟨upd b k 0, sa_sa _ _ _ _, fun i hi => ?_⟩, ?_⟩
    · by_cases q : i = k
      · rw [q, up_s]
      · rw [up_o q]; exact hb i (by omega)
    · show zf_X11_verify_47b N z (fun v1 v2 v3 S => zf_X11_verify_47 N z fu v1 v2 v3 S) (nI s) (nI (3 * L)) (nI k) (mq_sa S 17 b) = _
      unfold zf_X11_verify_47b
      rw [if_neg (show ¬ (10 : Int32) ≤ nI k from nI_ge (b := 10) hk (by omega)), mq_ck_of (vp_in_nI (by omega) (by omega)), nI_clamp (show k < 2147483648 by omega), nS_e, nI_e, nI_1]
      rfl) N 0 S (by omega) (by omega) ⟨S.2.1 17, (sa_id S 17).symm, fun i hi => by omega⟩
  subst a1
  obtain ⟨l, c1, c2⟩ := rv_put (N := N) (S := mq_sa S 17 b) (k := 17) (r := 0) (f := g0) (R := 1) (y := fun k => [10].getD k 0) rfl (by omega) (by omega) (by omega)
  have fr : ag [] [17, 31, 37] [] S (mq_sa (mq_sa S 17 b) 17 l) := ag_tr (ag_sa (by decide)) (ag_sa (by decide))
  obtain ⟨S', d1, d2⟩ := rv_88 (N := N) (z := z) (n := n) (so := so) (on := on) (tw := tw) (d := d) (gb := gb) (L := L) (by omega) hL hg N L 0 (fun g => decide (g = g0)) [] (mq_sa (mq_sa S 17 b) 17 l) (by omega) (by omega) (by simp) (cxR_c hc rfl rfl rfl rfl) hb ⟨fun g hg => by
    show ib l 0 g = _
    rw [c2 0 g hg]
    show (ib b 0 g || _) = _
    rw [ib_0 a2 hg]
    simp, trivial⟩
  refine ⟨S', ag_tr fr d1, Eq.trans a3 ?_⟩
  unfold zf_X11_verify_47b
  rw [if_pos (show (10 : Int32) ≤ nI 10 by decide), mq_ck_of (vp_in_nI hs (by omega)), nI_clamp (show s < 2147483648 by omega), show (mq_sa S 17 b).2.1 6 s = nI g0 from h6, show (0 : Int32) = nI (10 * 0) from rfl, c1, nI_e, nI_e, nI_e]
  exact d2
theorem st_verify (v : Int32) (hN : 2000 ≤ N) (hF : ivF SC SR) (ht : iv_tape (SC.1 0) (SC.2.1 2) (SR.1 1) (SR.2.1 0)) :
    ∃ r SC' SR', zf_X10_verify N z v SC = some (r, SC') ∧ zf_X11_verify N z v SR = some (r, SR') ∧ iv_tape (SC'.1 0) (SC'.2.1 2) (SR'.1 1) (SR'.2.1 0) ∧ ag [0, 21] [] [5, 6] SC SC' ∧ ag [0, 1] [17, 31, 37] [] SR SR' := by
  obtain ⟨n, so, on, tw, d, hc, hr, hs⟩ := ivF_cx hF
  obtain ⟨t, t4, t1, t2, t3⟩ := ht
  have ht : iv_tape (SC.1 0) (SC.2.1 2) (SR.1 1) (SR.2.1 0) := ⟨t, t4, t1, t2, t3⟩
  unfold zf_X10_verify zf_X11_verify zf_X10_isFilled
  rw [ck_isSlot, mq_cp_s, nS_e, rf_in, mq_cp_s]
  have e7 : (v < 0 ∨ (7 : Int32) < v) ↔ (v < 0 ∨ (8 : Int32) ≤ v) := by
    rw [Int32.lt_iff_toInt_lt, Int32.lt_iff_toInt_lt, Int32.le_iff_toInt_le, show (7 : Int32).toInt = 7 from by decide, show (8 : Int32).toInt = 8 from by decide]
    omega
  rcases mq_place v (t := 8) (by omega) with q | ⟨s, hs8, rfl, q⟩
  · rw [if_pos (show v < 0 ∨ (8 : Int32) ≤ v from q), if_pos (e7.mpr q), if_pos rfl, mq_cz_0, mq_cp_s, if_pos rfl, if_pos rfl]
    exact ⟨-1, SC, mq_si SR 0 0, rfl, rfl, ht, ag_rf, ag_si (by decide)⟩
  · have i8 : vp_in (nI s) 8 := vp_in_nI hs8 (by omega)
    have cl : (nI s).toNatClampNeg = s := nI_clamp (by omega)
    obtain ⟨p1, p2, p3⟩ := hs s hs8
    rw [if_neg (show ¬ (nI s < 0 ∨ (8 : Int32) ≤ nI s) from q), if_neg (fun a => q (e7.mp a)), if_neg (show ¬ (1 : Int32) = 0 by decide), if_neg (show ¬ (1 : Int32) = 0 by decide), mq_ck_of i8, mq_ck_of i8, mq_ck_of i8, cl, mq_cz_0, mq_cz_1, show (mq_si SR 0 0).2.1 5 s = SC.2.1 0 s from p1.symm]
    rcases p3 with ⟨g1, g2⟩ | ⟨f, g, hf, hg, g1, g2⟩
    · rw [if_pos g2, if_pos g1, mq_cp_s, if_pos rfl]
      exact ⟨-1, SC, mq_si SR 0 0, rfl, rfl, ht, ag_rf, ag_si (by decide)⟩
    · have h3 := hc.2.2.2.2.1
      rw [if_neg (show ¬ SC.2.1 1 s = -1 by rw [g2]; exact nI_nm1 (by omega)), if_neg (show ¬ SC.2.1 0 s = -1 by rw [g1]; exact nI_nm1 (by omega)), mq_cp_s, if_neg (show ¬ (1 : Int32) = 0 by decide), show (mq_si SR 0 0).1 1 = nI t from t2, nI_e, nS_e, g2]
      obtain ⟨m1, m2⟩ := m3 t4
      have kp : ∀ S6 : mq_St, S6.1 0 = nI t → zf_X0_keep N z 0 (mq_pull S6 [0] [2] []) = some (1, mq_si (mq_pull S6 [0] [2] []) 0 0) := fun S6 h6 => by
        rw [by_keep, if_neg]
        rintro (a | a)
        · exact absurd a (by decide)
        · have a : S6.1 0 < 0 := a
          rw [h6] at a
          exact nI_pos (by omega) a
      by_cases q3 : t % 3 = 0
      · obtain ⟨L, rfl⟩ : ∃ L, t = 3 * L := ⟨t / 3, by omega⟩
        have hb := fun j => bt_is (SC.2.1 2) j
        obtain ⟨S6, a1, a2⟩ := cv_right (N := N) (z := z) (S := SC) (gb := Bt (SC.2.1 2)) (L := L) hN t4 (fun j => (hb j).2) hc hg t1 (fun j _ => (hb j).1)
        obtain ⟨S7, b1, b2⟩ := rv_47 (N := N) (z := z) (k := 0) (S := mq_si (mq_si SR 0 0) 1 0) (gb := Bt (SC.2.1 2)) (L := L) (s := s) (g0 := g) hN t4 (fun j => (hb j).2) (cxR_c hr rfl rfl rfl rfl) hs8 (p2.symm.trans g2) hg (fun j hj => ((t3 j hj).symm).trans (hb j).1)
        have f2 : ag [0, 1] [17, 31, 37] [] SR S7 := ag_tr (ag_tr (ag_si (by decide)) (ag_si (by decide))) (ag_mono b1 (by decide) (by decide) (by decide))
        have f1 : ag [0, 21] [] [5, 6] SC (mq_si S6 0 0) := ag_tr (ag_mono a1 (by decide) (by decide) (by decide)) (ag_si (by decide))
        refine ⟨bo (vA n so on tw d (Bt (SC.2.1 2)) L 0 (fun g' => decide (g' = g)) []), mq_si S6 0 0, S7, ?_, ?_, ?_, f1, f2⟩
        · rw [a2, mq_cl_s, nI_e, kp S6 ((a1.1 0 (by decide)).trans t1), mq_cl_s, pu_2, nS_e]
          unfold bo
          split <;> rfl
        · rw [if_pos (m2.mpr q3), nI_e]
          exact b2
        · refine ⟨0, by omega, rfl, (b1.1 1 (by decide)).trans rfl, fun i hi => by omega⟩
      · refine ⟨0, mq_si SC 0 0, mq_si (mq_si SR 0 0) 1 0, ?_, ?_, ?_, ag_si (by decide), ag_tr (ag_si (by decide)) (ag_si (by decide))⟩
        · have e : zf_X1_isRight N z (nI g) SC = some (0, SC) := by
            have sz : zf_X0_size N z (mq_pull SC [0] [2] []) = some (nI t) := congrArg some t1
            unfold zf_X1_isRight
            rw [sz, mq_cp_s, if_neg (fun a => q3 (m2.mp a)), mq_cz_0]
          rw [e, mq_cl_s, nI_e, kp SC t1, mq_cl_s, pu_2, nS_e, if_pos rfl]
        · rw [if_neg (fun a => q3 (m2.mp a))]
        · exact ⟨0, by omega, rfl, rfl, fun i hi => by omega⟩
end STVER
end
/-! ak.bytes -/
section
/-! The reference's tape holds bytes: feed(), alter() and take() keep it so. -/
section IVB
variable {N : Nat} {z : Nat → Nat}
theorem ck_inv {α : Type} {i : Int32} {n : Nat} {k : Option α} {x : α} (h : mq_ck i n k = some x) : k = some x := by
  unfold mq_ck at h
  split at h
  · exact h
  · exact absurd h (by simp)
theorem cz_inv {α : Type} {i : Int32} {k : Option α} {x : α} (h : mq_cz i k = some x) : k = some x := by
  unfold mq_cz at h
  split at h
  · exact h
  · exact absurd h (by simp)
theorem cl_inv {α β : Type} {x : Option (α × mq_St)} {k : α → mq_St → Option β} {y : β} (h : mq_cl x k = some y) : ∃ a S, x = some (a, S) ∧ k a S = some y := by
  rcases x with _ | ⟨a, S⟩
  · exact absurd h (by simp [mq_cl])
  · exact ⟨a, S, rfl, h⟩
theorem cp_inv {α β : Type} {x : Option α} {k : α → Option β} {y : β} (h : mq_cp x k = some y) : ∃ a, x = some a ∧ k a = some y := by
  rcases x with _ | a
  · exact absurd h (by simp [mq_cp])
  · exact ⟨a, rfl, h⟩
theorem so_2 {α : Type} {a b : α} {S T : mq_St} (h : some (a, S) = some (b, T)) : T = S := by
  injection h with h; injection h with _ h; exact h.symm
theorem bB {b : Nat → Int32} (i : Nat) (x : Int32) (h : ivB b) : ivB (upd b i (vp_nar .byte x)) := fun j => by
  by_cases e : j = i
  · rw [e, up_s]
    show (x.toInt8.toInt32).toInt8.toInt32 = x.toInt8.toInt32
    rw [Int8.toInt8_toInt32]
  · rw [up_o e]; exact h j
theorem four_B : ∀ (fu : Nat) (v w : Int32) (S S' : mq_St) (r : Unit), ivB (S.2.1 0) → zf_X11_four_3 N z fu v w S = some (r, S') → ivB (S'.2.1 0)
  | 0, v, w, S, S', r, _, h => absurd h (by simp [zf_X11_four_3])
  | fu + 1, v, w, S, S', r, hb, h => by
    have h : zf_X11_four_3b N z (fun v1 v2 S => zf_X11_four_3 N z fu v1 v2 S) v w S = some (r, S') := h
    unfold zf_X11_four_3b at h
    split at h
    · rw [so_2 h]; exact hb
    · have h := ck_inv h
      rw [nS_e, nS_e, nI_e] at h
      refine four_B fu _ _ _ S' r ?_ h
      rw [si_2, sa_2, if_pos rfl]
      exact bB _ _ hb
theorem feed_B {x1 x2 x3 x4 x5 r : Int32} {S S' : mq_St} (hb : ivB (S.2.1 0)) (h : zf_X11_feed N z x1 x2 x3 x4 x5 S = some (r, S')) : ivB (S'.2.1 0) := by
  unfold zf_X11_feed at h
  rw [nS_e] at h
  split at h
  · obtain ⟨a1, T1, e1, h⟩ := cl_inv h
    obtain ⟨a2, T2, e2, h⟩ := cl_inv h
    obtain ⟨a3, T3, e3, h⟩ := cl_inv h
    obtain ⟨a4, T4, e4, h⟩ := cl_inv h
    obtain ⟨a5, T5, e5, h⟩ := cl_inv h
    unfold zf_X11_four at e1 e2 e3 e4 e5
    rw [nI_e] at e1 e2 e3 e4 e5
    rw [so_2 h]
    exact four_B _ _ _ _ _ _ (four_B _ _ _ _ _ _ (four_B _ _ _ _ _ _ (four_B _ _ _ _ _ _ (four_B _ _ _ _ _ _ (by exact hb) e1) e2) e3) e4) e5
  · rw [so_2 h]; exact hb
theorem end_B {v r : Int32} {S S' : mq_St} (hb : ivB (S.2.1 0)) (h : zf_X11_end N z v S = some (r, S')) : ivB (S'.2.1 0) := by
  unfold zf_X11_end at h
  rw [nS_e] at h
  obtain ⟨a, -, h⟩ := cp_inv h
  split at h
  · rw [so_2 h]; exact hb
  · rw [nS_e] at h; rw [so_2 h]; exact hb
theorem alter_B {v w r : Int32} {S S' : mq_St} (hb : ivB (S.2.1 0)) (h : zf_X11_alter N z v w S = some (r, S')) : ivB (S'.2.1 0) := by
  unfold zf_X11_alter at h
  rw [nS_e] at h
  obtain ⟨a, -, h⟩ := cp_inv h
  split at h
  · rw [so_2 (cz_inv h)]; exact hb
  · have h := ck_inv h
    rw [nS_e] at h
    rw [so_2 (cz_inv h)]
    exact bB _ _ hb
theorem take_B7 : ∀ (fu : Nat) (v : Int32) (S S' : mq_St) (r : Int32), ivB (S.2.1 0) → zf_X11_take_7 N z fu v S = some (r, S') → ivB (S'.2.1 0)
  | 0, v, S, S', r, _, h => absurd h (by simp [zf_X11_take_7])
  | fu + 1, v, S, S', r, hb, h => by
    have h : zf_X11_take_7b N z (fun v1 S => zf_X11_take_7 N z fu v1 S) v S = some (r, S') := h
    unfold zf_X11_take_7b at h
    split at h
    · rw [nS_e] at h; rw [so_2 h]; exact hb
    · have h := ck_inv (ck_inv h)
      rw [nS_e, nI_e] at h
      refine take_B7 fu _ _ S' r ?_ h
      rw [sa_2, if_pos rfl]
      exact bB _ _ hb
theorem take_B {r : Int32} {S S' : mq_St} (hb : ivB (S.2.1 0)) (h : zf_X11_take N z S = some (r, S')) : ivB (S'.2.1 0) := by
  unfold zf_X11_take at h
  rw [nS_e, nI_e] at h
  exact take_B7 _ _ _ _ _ (by exact hb) h
end IVB
end
/-! al.inv -/
section
/-! What class and reference keep together. -/
theorem tp_c {a a' b b' : Int32} {w w' c c' : Nat → Int32} (h : iv_tape a w b c) (e1 : a' = a) (e2 : w' = w) (e3 : b' = b) (e4 : c' = c) : iv_tape a' w' b' c' := by
  rw [e1, e2, e3, e4]; exact h
theorem ivF_k {SC SR SC' SR' : mq_St} (h : ivF SC SR) (c2 : SC'.1 2 = SC.1 2) (a0 : SC'.2.1 0 = SC.2.1 0) (a1 : SC'.2.1 1 = SC.2.1 1) (a4 : SC'.2.1 4 = SC.2.1 4) (a5 : SC'.2.1 5 = SC.2.1 5) (a6 : SC'.2.1 6 = SC.2.1 6) (a7 : SC'.2.1 7 = SC.2.1 7) (l0 : SC'.2.2 0 = SC.2.2 0) (r3 : SR'.1 3 = SR.1 3) (b2 : SR'.2.1 2 = SR.2.1 2) (b3 : SR'.2.1 3 = SR.2.1 3) (b4 : SR'.2.1 4 = SR.2.1 4) (b5 : SR'.2.1 5 = SR.2.1 5) (b6 : SR'.2.1 6 = SR.2.1 6) : ivF SC' SR' := by
  unfold ivF tbC tbR at h ⊢
  rw [c2, a0, a1, a4, a5, a6, a7, l0, r3, b2, b3, b4, b5, b6]; exact h
theorem ivP_c {SC SR SC' SR' : mq_St} (h : ivP SC SR) (c : SC'.1 25 = SC.1 25) (a : SC'.2.1 28 = SC.2.1 28) (r : SR'.1 29 = SR.1 29) (r' : SR'.1 30 = SR.1 30) (b : SR'.2.1 32 = SR.2.1 32) (b' : SR'.2.1 33 = SR.2.1 33) : ivP SC' SR' := by
  unfold ivP at h ⊢
  rw [c, a, r, r', b, b']; exact h
theorem ivL_c {S S' : mq_St} (h : ivL S) (c : S'.1 20 = S.1 20) : ivL S' := by
  unfold ivL at h ⊢
  rw [c]; exact h
theorem mdC_c {S S' : mq_St} (h : mdC S) (c : S'.1 23 = S.1 23) (c' : S'.1 22 = S.1 22) : mdC S' := by
  unfold mdC at h ⊢
  rw [c, c']; exact h
theorem mdR_c {S S' : mq_St} (h : mdR S) (c : S'.1 31 = S.1 31) : mdR S' := by
  unfold mdR at h ⊢
  rw [c]; exact h
theorem cn4_c {SC SR SC' SR' : mq_St} (h : cn4 SC SR) (a : SC'.2.1 21 = SC.2.1 21) (r1 : SR'.1 19 = SR.1 19) (r2 : SR'.1 20 = SR.1 20) (r3 : SR'.1 21 = SR.1 21) (r4 : SR'.1 22 = SR.1 22) : cn4 SC' SR' := by
  unfold cn4 at h ⊢
  rw [a, r1, r2, r3, r4]; exact h
theorem fa_c {SC SR SC' SR' : mq_St} (h : SC.1 11 = SR.1 4 ∧ SC.1 12 = SR.1 5) (a : SC'.1 11 = SC.1 11) (b : SC'.1 12 = SC.1 12) (c : SR'.1 4 = SR.1 4) (d : SR'.1 5 = SR.1 5) : SC'.1 11 = SR'.1 4 ∧ SC'.1 12 = SR'.1 5 := by
  rw [a, b, c, d]; exact h
theorem ivF_same {SC SR : mq_St} (h : ivF SC SR) : iv_same (SC.1 2) (SC.2.1 4) (SC.2.1 5) (SC.2.1 6) (SR.1 3) (SR.2.1 2) (SR.2.1 3) (SR.2.1 4) ∧ iv_slots (SC.2.1 0) (SC.2.1 1) (SR.2.1 5) (SR.2.1 6) := by
  obtain ⟨L, -, -, -, f1, f2, f3, f4, f5⟩ := ivF_fs h
  exact ⟨⟨L.length, f3.1, f3.2.1, f1, f2, fun f hf => ⟨(f4 f hf).1, (f4 f hf).2.1, (f4 f hf).2.2.1⟩⟩, fun s hs => ⟨(f5 s hs).1, (f5 s hs).2.1⟩⟩
section INV
variable {N : Nat} {z : Nat → Nat} {SC SR : mq_St}
end INV
end
