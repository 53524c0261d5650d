/-! The reference's model: sees() and world() end. -/
section RMODEL
variable {N n : Nat} {z : Nat → Nat} {S S0 : mq_St} {W w t : Nat}
theorem rf_w0 (v : Int32) (h : S.1 31 = nI W) (hW : W ≤ 60) : (zf_X11_world0 N z v S = some (0, mq_si S 0 1)) ∨ ∃ k, k < W ∧ v = nI k ∧ zf_X11_world0 N z v S = some (1, mq_si S 0 0) := by
  unfold zf_X11_world0
  rw [h, rf_in, mq_cp_s]
  rcases mq_place v (t := W) (by omega) with q | ⟨k, hk, hv, q⟩
  · left
    rw [if_pos ((mq_lst W (by omega) v).mpr q), if_pos rfl]
    unfold zf_X11_world0_20
    rw [nS_e, mq_cz_0]
    exact if_neg (by decide : ¬ (1 : Int32) = 0)
  · right
    refine ⟨k, hk, hv, ?_⟩
    rw [if_neg (fun a => q ((mq_lst W (by omega) v).mp a)), if_neg (by decide)]
    unfold zf_X11_world0_20
    rw [nS_e, mq_cz_1]
    exact if_pos rfl
theorem rf_sees (v u : Int32) (h : S.1 31 = nI W) (hW : W ≤ 60) : ∃ r S', zf_X11_sees N z v u S = some (r, S') ∧ ag [0] [] [] S S' := by
  unfold zf_X11_sees
  rcases rf_w0 (N := N) (z := z) v h hW with a | ⟨k, hk, e, a⟩
  · rw [a, mq_cl_s, if_pos rfl, mq_cz_0]; exact ⟨_, _, rfl, ag_si (by decide)⟩
  · rw [a, mq_cl_s, if_neg (by decide)]
    rcases rf_w0 (N := N) (z := z) (S := mq_si S 0 0) u h hW with b | ⟨k', hk', e', b⟩
    · rw [b, mq_cl_s, if_pos rfl, mq_cz_0]; exact ⟨_, _, rfl, ag_tr (ag_si (by decide)) (ag_si (by decide))⟩
    · rw [b, mq_cl_s, if_neg (by decide), e, e', e60, mq_ck_of (vp_in_nI (by omega) (by omega)), mq_cz_0, mq_cz_1]
      by_cases q : (mq_si (mq_si S 0 0) 0 0).2.1 35 (nI (60 * k + k')).toNatClampNeg = 0
      · rw [if_pos q]; exact ⟨_, _, rfl, ag_tr (ag_si (by decide)) (ag_si (by decide))⟩
      · rw [if_neg q]; exact ⟨_, _, rfl, ag_tr (ag_si (by decide)) (ag_si (by decide))⟩
theorem rf_mut {a b : Nat} (ha : a < 60) (hb : b < 60) : ∃ r : Int32, zf_X11_isMutual N z (nI a) (nI b) S = some r := by
  unfold zf_X11_isMutual
  rw [e60, e60, mq_ck_of (vp_in_nI (by omega) (by omega)), mq_ck_of (vp_in_nI (by omega) (by omega)), mq_cz_0, mq_cz_1]
  repeat' split
  all_goals exact ⟨_, rfl⟩
/-- a loop with a sum that leaves the state as it is -/
theorem lp_s {A β : Type} {F : Nat → A → Int32 → Option β} {n : Nat} {Q : Option β → Prop} (hend : ∀ fu a, Q (F (fu + 1) a (nI n))) (hstep : ∀ fu k a, k < n → ∃ a', F (fu + 1) a (nI k) = F fu a' (nI (k + 1))) : ∀ (fu k : Nat) (a : A), k ≤ n → n - k < fu → Q (F fu a (nI k))
  | 0, k, a, _, h => by omega
  | fu + 1, k, a, hk, hfu => by
    by_cases e : k = n
    · subst e; exact hend fu a
    · obtain ⟨a', h⟩ := hstep fu k a (by omega)
      rw [h]; exact lp_s hend hstep fu (k + 1) a' (by omega) (by omega)
theorem rw_156 (hN : 100 ≤ N) (h : S.1 31 = nI W) (hW : W ≤ 60) (hw : w < W) : ∃ r, zf_X11_world_156 N z N (nI w) 0 0 S = some (r, S) := by
  refine lp_s (F := fun fu a k => zf_X11_world_156 N z fu (nI w) a k S) (n := W) (Q := fun x => ∃ r, x = some (r, S)) (fun fu a => ?_) (fun fu k a hk => ?_) N 0 0 (by omega) (by omega)
  · show ∃ r, zf_X11_world_156b N z _ (nI w) a (nI W) S = some (r, S)
    unfold zf_X11_world_156b
    rw [h, if_pos (nI_le (Nat.le_refl _) (by omega))]
    exact ⟨_, rfl⟩
  · show ∃ a', zf_X11_world_156b N z (fun v1 v3 v5 S => zf_X11_world_156 N z fu v1 v3 v5 S) (nI w) a (nI k) S = _
    obtain ⟨r, hr⟩ := rf_mut (N := N) (z := z) (S := S) (show w < 60 by omega) (show k < 60 by omega)
    unfold zf_X11_world_156b zf_X11_world_181
    rw [h, if_neg (nI_ge hk (by omega)), hr, mq_cp_s, nI_e, nI_e, nI_e, nI_e, nI_1]
    by_cases e : r = 0
    · rw [if_pos e]; exact ⟨_, rfl⟩
    · rw [if_neg e]; exact ⟨_, rfl⟩
theorem rw_194 (hN : 100 ≤ N) (h : S.1 31 = nI W) (hW : W ≤ 60) (hw : w < W) : ∃ r, zf_X11_world_194 N z N (nI w) 0 0 S = some (r, S) := by
  refine lp_s (F := fun fu a k => zf_X11_world_194 N z fu (nI w) a k S) (n := W) (Q := fun x => ∃ r, x = some (r, S)) (fun fu a => ?_) (fun fu k a hk => ?_) N 0 0 (by omega) (by omega)
  · show ∃ r, zf_X11_world_194b N z _ (nI w) a (nI W) S = some (r, S)
    unfold zf_X11_world_194b
    rw [h, if_pos (nI_le (Nat.le_refl _) (by omega))]
    exact ⟨_, rfl⟩
  · show ∃ a', zf_X11_world_194b N z (fun v1 v3 v5 S => zf_X11_world_194 N z fu v1 v3 v5 S) (nI w) a (nI k) S = _
    unfold zf_X11_world_194b zf_X11_world_224
    rw [h, if_neg (nI_ge hk (by omega)), e60, mq_ck_of (vp_in_nI (by omega) (by omega)), nI_e, nI_e, nI_e, nI_e, nI_1]
    by_cases e : S.2.1 35 (nI (60 * w + k)).toNatClampNeg = 0
    · rw [if_pos e]; exact ⟨_, rfl⟩
    · rw [if_neg e]; exact ⟨_, rfl⟩
theorem rw_96 {c : Nat} {v3 : Int32} {k83 : Int32 → Int32 → Int32 → mq_St → Option (Int32 × mq_St)} (hN : 100 ≤ N) (hw : w < 60) : ∃ a, zf_X11_world_96 N z k83 N v3 (nI c) (nI w) 1 0 S = k83 a (nI c) (nI (w + 1)) S := by
  refine lp_s (F := fun fu a k => zf_X11_world_96 N z k83 fu v3 (nI c) (nI w) a k S) (n := w) (Q := fun x => ∃ a, x = k83 a (nI c) (nI (w + 1)) S) (fun fu a => ?_) (fun fu k a hk => ?_) N 0 1 (by omega) (by omega)
  · show ∃ b, zf_X11_world_96b N z k83 _ v3 (nI c) (nI w) a (nI w) S = _
    unfold zf_X11_world_96b zf_X11_world_143
    rw [if_pos (nI_le (Nat.le_refl _) (by omega)), nI_e, nI_e, nI_e, nI_e, nI_1]
    by_cases e : a = 0
    · rw [if_pos e]; exact ⟨_, rfl⟩
    · rw [if_neg e]; exact ⟨_, rfl⟩
  · show ∃ b, zf_X11_world_96b N z k83 (fun v3 v4 v5 v6 v7 S => zf_X11_world_96 N z k83 fu v3 v4 v5 v6 v7 S) v3 (nI c) (nI w) a (nI k) S = _
    obtain ⟨r, hr⟩ := rf_mut (N := N) (z := z) (S := S) hw (show k < 60 by omega)
    unfold zf_X11_world_96b zf_X11_world_123 zf_X11_world_124
    rw [if_neg (nI_ge hk (by omega)), hr, mq_cp_s, nI_e, nI_e, nI_e, nI_e, nI_1]
    by_cases e : a = 0
    · rw [if_pos e]; exact ⟨_, rfl⟩
    · rw [if_neg e]
      by_cases e' : r = 0
      · rw [if_pos e']; exact ⟨_, rfl⟩
      · rw [if_neg e']; exact ⟨_, rfl⟩
theorem rw_83 {c : Nat} {v3 : Int32} (hN : 100 ≤ N) (hc : c ≤ 60) : ∃ r, zf_X11_world_83 N z N v3 (nI c) 0 S = some (r, S) := by
  refine lp_s (F := fun fu a k => zf_X11_world_83 N z fu a (nI c) k S) (n := c) (Q := fun x => ∃ r, x = some (r, S)) (fun fu a => ?_) (fun fu k a hk => ?_) N 0 v3 (by omega) (by omega)
  · show ∃ b, zf_X11_world_83b N z _ a (nI c) (nI c) S = _
    unfold zf_X11_world_83b
    rw [if_pos (nI_le (Nat.le_refl _) (by omega))]
    exact ⟨_, rfl⟩
  · show ∃ b, zf_X11_world_83b N z (fun v3 v4 v5 S => zf_X11_world_83 N z fu v3 v4 v5 S) a (nI c) (nI k) S = _
    unfold zf_X11_world_83b
    rw [if_neg (nI_ge hk (by omega)), nI_e, nI_e]
    exact rw_96 hN (by omega)
theorem rw_50 {v3 : Int32} (hN : 100 ≤ N) (hw : w < 60) : ∀ (k fu c : Nat), k ≤ 60 → k < fu → c ≤ 60 → ∃ r, zf_X11_world_50 N z fu (nI w) v3 (nI c) (nI k - 1) S = some (r, S)
  | 0, 0, c, _, h, _ => by omega
  | 0, fu + 1, c, _, _, hc => by
    show ∃ r, zf_X11_world_50b N z _ (nI w) v3 (nI c) (nI 0 - 1) S = some (r, S)
    unfold zf_X11_world_50b
    rw [if_pos (by decide), nI_e]
    exact rw_83 hN hc
  | k + 1, 0, c, _, h, _ => by omega
  | k + 1, fu + 1, c, hk, hfu, hc => by
    have e1 : nI (k + 1) - 1 = nI k := by rw [show (1 : Int32) = nI 1 from rfl, pk_sub (by omega)]; rfl
    have e2 : nI k + -1 = nI k - 1 := (Int32.sub_eq_add_neg (nI k) 1).symm
    rw [e1]
    show ∃ r, zf_X11_world_50b N z (fun v1 v3 v4 v5 S => zf_X11_world_50 N z fu v1 v3 v4 v5 S) (nI w) v3 (nI c) (nI k) S = some (r, S)
    obtain ⟨q, hq⟩ := rf_mut (N := N) (z := z) (S := S) hw (show k < 60 by omega)
    unfold zf_X11_world_50b zf_X11_world_72
    rw [if_neg (show ¬ nI k < (0 : Int32) from nI_nlt (b := 0) (by omega) (by omega)), hq, mq_cp_s, nI_e, nI_e, nI_e, nI_e, e2]
    by_cases e : q = 0
    · rw [if_pos e]; exact rw_50 hN hw k fu c (by omega) (by omega) hc
    · rw [if_neg e]; exact rw_50 hN hw k fu k (by omega) (by omega) (by omega)
theorem rf_world (v u : Int32) (hN : 100 ≤ N) (h : S.1 31 = nI W) (hW : W ≤ 60) : ∃ r S', zf_X11_world N z v u S = some (r, S') ∧ ag [0] [] [] S S' := by
  unfold zf_X11_world
  rcases rf_w0 (N := N) (z := z) v h hW with a | ⟨k, hk, e, a⟩
  · rw [a, mq_cl_s, if_pos rfl]; exact ⟨_, _, rfl, ag_si (by decide)⟩
  · rw [a, mq_cl_s, if_neg (by decide), nI_e, nI_e, nI_e, nI_e, nI_e, e]
    obtain ⟨r0, t0⟩ := rw_50 (N := N) (z := z) (S := mq_si S 0 0) (v3 := 0) (w := k) hN (by omega) (k + 1) N k (by omega) (by omega) (by omega)
    have e1 : nI (k + 1) - 1 = nI k := by rw [show (1 : Int32) = nI 1 from rfl, pk_sub (by omega)]; rfl
    rw [e1] at t0
    obtain ⟨r1, t1⟩ := rw_156 (N := N) (z := z) (S := mq_si S 0 0) hN h hW hk
    obtain ⟨r2, t2⟩ := rw_194 (N := N) (z := z) (S := mq_si S 0 0) hN h hW hk
    rw [t0, t1, t2, mq_ck_of (vp_in_nI (by omega) (by omega))]
    by_cases u0 : u = 0
    · rw [if_pos u0]; exact ⟨_, _, rfl, ag_si (by decide)⟩
    · rw [if_neg u0]
      by_cases u1 : u = 1
      · rw [if_pos u1]; exact ⟨_, _, rfl, ag_si (by decide)⟩
      · rw [if_neg u1]
        by_cases u2 : u = 2
        · rw [if_pos u2]; exact ⟨_, _, rfl, ag_si (by decide)⟩
        · rw [if_neg u2]
          by_cases u3 : u = 3
          · rw [if_pos u3]; exact ⟨_, _, rfl, ag_si (by decide)⟩
          · rw [if_neg u3]; exact ⟨_, _, rfl, ag_si (by decide)⟩
end RMODEL
