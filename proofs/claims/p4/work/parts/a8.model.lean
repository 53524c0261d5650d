/-! The class's model: sees() and world() end. -/
section MODEL
variable {N n : Nat} {z : Nat → Nat} {so on tw : Nat → Int32} {d : Nat → Nat} {S : mq_St} {W w : Nat}
theorem ck_sees (v u : Int32) (h : S.1 23 = nI W) (hW : W ≤ 60) : ∃ r, zf_X10_sees N z v u S = some (r, S) := by
  unfold zf_X10_sees zf_X10_sees_22
  rcases ck_hasw (N := N) (z := z) v h hW with a | ⟨k, hk, e, a⟩
  · rw [a, mq_cp_s, if_pos rfl]; exact ⟨_, rfl⟩
  · rw [a, mq_cp_s, if_neg (by decide)]
    rcases ck_hasw (N := N) (z := z) u h hW with b | ⟨k', hk', e', b⟩
    · rw [b, mq_cp_s, if_pos rfl]; exact ⟨_, rfl⟩
    · obtain ⟨r, c1, c2⟩ := ck_seen (N := N) (z := z) v u h hW
      rw [b, mq_cp_s, if_neg (by decide), c1, mq_cp_s]
      rcases c2 with rfl | rfl
      · rw [mq_cz_0]; exact ⟨_, rfl⟩
      · rw [mq_cz_1]; exact ⟨_, rfl⟩
theorem ck_mut (v u : Int32) (h : S.1 23 = nI W) (hW : W ≤ 60) : ∃ r : Int32, zf_X4_isMutual N z v u S = some r := by
  obtain ⟨r, c1, c2⟩ := ck_seen (N := N) (z := z) v u h hW
  obtain ⟨q, d1, d2⟩ := ck_seen (N := N) (z := z) u v h hW
  unfold zf_X4_isMutual
  rw [c1, mq_cp_s, d1, mq_cp_s, mq_cz_0, mq_cz_1]
  by_cases e : r = 0
  · rw [if_pos e]; exact ⟨_, rfl⟩
  · rw [if_neg e]
    by_cases e' : q = 0
    · rw [if_pos e']; exact ⟨_, rfl⟩
    · rw [if_neg e']; exact ⟨_, rfl⟩
theorem ck_lcl (hN : 100 ≤ N) (h : S.1 23 = nI W) (hW : W ≤ 60) (hw : w < W) : ∃ r : Int32, zf_X4_isLeastOfCluster N z (nI w) S = some r := by
  unfold zf_X4_isLeastOfCluster
  rw [nI_e]
  refine lp_v (F := fun fu (_ : Unit) k => zf_X4_isLeastOfCluster_2 N z S fu (nI w) k) (n := w) (fun fu a => ?_) (fun fu k a hk => ?_) N 0 () (by omega) (by omega)
  · show ∃ r, zf_X4_isLeastOfCluster_2b N z S _ (nI w) (nI w) = some r
    unfold zf_X4_isLeastOfCluster_2b
    rw [if_pos (nI_le (Nat.le_refl _) (by omega)), mq_cz_1]
    exact ⟨_, rfl⟩
  · show (∃ r, zf_X4_isLeastOfCluster_2b N z S (fun v1 v2 => zf_X4_isLeastOfCluster_2 N z S fu v1 v2) (nI w) (nI k) = some r) ∨ ∃ a' : Unit, zf_X4_isLeastOfCluster_2b N z S (fun v1 v2 => zf_X4_isLeastOfCluster_2 N z S fu v1 v2) (nI w) (nI k) = _
    obtain ⟨r, c⟩ := ck_mut (N := N) (z := z) (nI k) (nI w) h hW
    unfold zf_X4_isLeastOfCluster_2b
    rw [if_neg (nI_ge hk (by omega)), c, mq_cp_s, mq_cz_0, nI_e, nI_1]
    by_cases e : r = 0
    · right; rw [if_pos e]; exact ⟨(), rfl⟩
    · left; rw [if_neg e]; exact ⟨_, rfl⟩
theorem ck_clu (hN : 100 ≤ N) (h : S.1 23 = nI W) (hW : W ≤ 60) (hw : w < W) : ∃ r : Int32, zf_X4_clusterOf N z (nI w) S = some r := by
  unfold zf_X4_clusterOf
  rw [nI_e, nI_e]
  refine lp_v (F := fun fu a k => zf_X4_clusterOf_4 N z S fu (nI w) a k) (n := w) (fun fu a => ?_) (fun fu k a hk => ?_) N 0 0 (by omega) (by omega)
  · show ∃ r, zf_X4_clusterOf_4b N z S _ (nI w) a (nI w) = some r
    unfold zf_X4_clusterOf_4b
    rw [if_pos (nI_le (Nat.le_refl _) (by omega))]
    exact ⟨_, rfl⟩
  · show (∃ r, zf_X4_clusterOf_4b N z S (fun v1 v2 v3 => zf_X4_clusterOf_4 N z S fu v1 v2 v3) (nI w) a (nI k) = some r) ∨ ∃ a', zf_X4_clusterOf_4b N z S (fun v1 v2 v3 => zf_X4_clusterOf_4 N z S fu v1 v2 v3) (nI w) a (nI k) = _
    obtain ⟨r, c⟩ := ck_mut (N := N) (z := z) (nI k) (nI w) h hW
    obtain ⟨q, e⟩ := ck_lcl (N := N) (z := z) hN h hW (show k < W by omega)
    unfold zf_X4_clusterOf_4b zf_X4_clusterOf_32
    rw [if_neg (nI_ge hk (by omega)), c, mq_cp_s, e, mq_cp_s, nI_e, nI_e, nI_e, nI_e, nI_1]
    by_cases e1 : r = 0
    · right
      rw [if_pos e1]
      by_cases e2 : q = 0
      · rw [if_pos e2]; exact ⟨_, rfl⟩
      · rw [if_neg e2]; exact ⟨_, rfl⟩
    · left; rw [if_neg e1]; exact ⟨_, rfl⟩
theorem ck_cls (hN : 100 ≤ N) (h : S.1 23 = nI W) (hW : W ≤ 60) (hw : w < W) : ∃ r : Int32, zf_X4_clusterSizeOf N z (nI w) S = some r := by
  unfold zf_X4_clusterSizeOf
  rw [nI_e, nI_e]
  refine lp_v (F := fun fu a k => zf_X4_clusterSizeOf_4 N z S fu (nI w) a k) (n := W) (fun fu a => ?_) (fun fu k a hk => ?_) N 0 0 (by omega) (by omega)
  · show ∃ r, zf_X4_clusterSizeOf_4b N z S _ (nI w) a (nI W) = some r
    unfold zf_X4_clusterSizeOf_4b
    rw [h, if_pos (nI_le (Nat.le_refl _) (by omega))]
    exact ⟨_, rfl⟩
  · right
    show ∃ a', zf_X4_clusterSizeOf_4b N z S (fun v1 v2 v3 => zf_X4_clusterSizeOf_4 N z S fu v1 v2 v3) (nI w) a (nI k) = _
    obtain ⟨r, c⟩ := ck_mut (N := N) (z := z) (nI k) (nI w) h hW
    unfold zf_X4_clusterSizeOf_4b zf_X4_clusterSizeOf_27
    rw [h, if_neg (nI_ge hk (by omega)), c, mq_cp_s, nI_e, nI_e, nI_e, nI_e, nI_1]
    by_cases e1 : r = 0
    · rw [if_pos e1]; exact ⟨_, rfl⟩
    · rw [if_neg e1]; exact ⟨_, rfl⟩
theorem ck_world (v u : Int32) (hN : 100 ≤ N) (h : S.1 23 = nI W) (hW : W ≤ 60) : ∃ r, zf_X10_world N z v u S = some (r, S) := by
  unfold zf_X10_world
  by_cases a : u < 0
  · rw [if_pos a]; exact ⟨_, rfl⟩
  · rw [if_neg a]
    by_cases b : u ≤ 3
    · rw [if_pos b]
      rcases ck_hasw (N := N) (z := z) v h hW with c | ⟨k, hk, e, c⟩
      · rw [c, mq_cp_s, if_pos rfl]; exact ⟨_, rfl⟩
      · obtain ⟨r0, t0⟩ := ck_clu (N := N) (z := z) hN h hW hk
        obtain ⟨r1, t1⟩ := ck_cls (N := N) (z := z) hN h hW hk
        have t2 : ∃ r, zf_X4_seenFrom N z (nI k) S = some r := by
          unfold zf_X4_seenFrom
          rw [← e, c, mq_cp_s, if_neg (by decide), e, mq_ck_of (vp_in_nI (by omega) (by omega)), bc_is, mq_cp_s]
          exact ⟨_, rfl⟩
        have t3 : ∃ r, zf_X4_setSizeOf N z (nI k) S = some r := by
          unfold zf_X4_setSizeOf
          rw [← e, c, mq_cp_s, if_neg (by decide), e, mq_ck_of (vp_in_nI (by omega) (by omega))]
          by_cases q : S.1 24 = 0
          · rw [if_pos q]; exact ⟨_, rfl⟩
          · rw [if_neg q]; exact ⟨_, rfl⟩
        obtain ⟨r2, t2⟩ := t2
        obtain ⟨r3, t3⟩ := t3
        rw [c, mq_cp_s, if_neg (by decide), e, t0, t1, t2, t3, mq_cp_s, mq_cp_s, mq_cp_s, mq_cp_s]
        by_cases u0 : u = 0
        · rw [if_pos u0]; exact ⟨_, rfl⟩
        · rw [if_neg u0]
          by_cases u1 : u = 1
          · rw [if_pos u1]; exact ⟨_, rfl⟩
          · rw [if_neg u1]
            by_cases u2 : u = 2
            · rw [if_pos u2]; exact ⟨_, rfl⟩
            · rw [if_neg u2]; exact ⟨_, rfl⟩
    · rw [if_neg b]; exact ⟨_, rfl⟩
end MODEL
