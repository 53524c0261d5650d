/-! The law: every script ends well. -/
section LAW
variable {N : Nat} {z : Nat → Nat} {SC SR : mq_St} {f : Nat → Int64}
theorem lw_0 (x1 x2 x3 x4 x5 : Int32) (hN : 300000 ≤ N) (i : In2 SC SR) : ∃ q, zf_law_0 N z x1 x2 x3 x4 x5 SC SR f = some q ∧ In2 q.1 q.2.1 := by
  obtain ⟨r, SC', SR', e1, e2, j⟩ := tv_feed (N := N) (z := z) x1 x2 x3 x4 x5 hN i
  refine ⟨(SC', SR', f), ?_, j⟩
  unfold zf_law_0
  rw [e1, mq_cl_s, e2, mq_cl_s]
theorem lw_1 (x1 x2 x3 x4 x5 : Int32) (hN : 300000 ≤ N) (i : In2 SC SR) : ∃ q, zf_law_1 N z x1 x2 x3 x4 x5 SC SR f = some q ∧ In2 q.1 q.2.1 := by
  obtain ⟨r, SC', SR', e1, e2, j⟩ := tv_end (N := N) (z := z) x1 hN i
  refine ⟨(SC', SR', f), ?_, j⟩
  unfold zf_law_1
  rw [e1, mq_cl_s, e2, mq_cl_s]
theorem lw_2 (x1 x2 x3 x4 x5 : Int32) (hN : 300000 ≤ N) (i : In2 SC SR) : ∃ q, zf_law_2 N z x1 x2 x3 x4 x5 SC SR f = some q ∧ In2 q.1 q.2.1 := by
  obtain ⟨r, SC', SR', e1, e2, j⟩ := tv_take (N := N) (z := z)  hN i
  refine ⟨(SC', SR', f), ?_, j⟩
  unfold zf_law_2
  rw [e1, mq_cl_s, e2, mq_cl_s]
theorem lw_3 (x1 x2 x3 x4 x5 : Int32) (hN : 300000 ≤ N) (i : In2 SC SR) : ∃ q, zf_law_3 N z x1 x2 x3 x4 x5 SC SR f = some q ∧ In2 q.1 q.2.1 := by
  obtain ⟨r, SC', SR', e1, e2, j⟩ := tv_alter (N := N) (z := z) x1 x2 hN i
  refine ⟨(SC', SR', f), ?_, j⟩
  unfold zf_law_3
  rw [e1, mq_cl_s, e2, mq_cl_s]
theorem lw_4 (x1 x2 x3 x4 x5 : Int32) (hN : 300000 ≤ N) (i : In2 SC SR) : ∃ q, zf_law_4 N z x1 x2 x3 x4 x5 SC SR f = some q ∧ In2 q.1 q.2.1 := by
  obtain ⟨r, SR', e1, e2, j⟩ := tv_out (N := N) (z := z) x1 hN i
  refine ⟨(SC, SR', f), ?_, j⟩
  unfold zf_law_4
  rw [e1, mq_cp_s, e2, mq_cl_s]
theorem lw_5 (x1 x2 x3 x4 x5 : Int32) (hN : 300000 ≤ N) (i : In2 SC SR) : ∃ q, zf_law_5 N z x1 x2 x3 x4 x5 SC SR f = some q ∧ In2 q.1 q.2.1 := by
  obtain ⟨r, SC', SR', e1, e2, j⟩ := tv_read (N := N) (z := z) x1 (decide (x2 = 0)) hN i
  refine ⟨(SC', SR', f), ?_, j⟩
  have e : (if x2 = 0 then (0 : Int32) else 1) = if decide (x2 = 0) = true then 0 else 1 := by
    by_cases q : x2 = 0
    · rw [if_pos q, if_pos (decide_eq_true q)]
    · rw [if_neg q, if_neg (by simpa using q)]
  unfold zf_law_5
  rw [e, e1, mq_cl_s, e2, mq_cl_s]
theorem lw_6 (x1 x2 x3 x4 x5 : Int32) (hN : 300000 ≤ N) (i : In2 SC SR) : ∃ q, zf_law_6 N z x1 x2 x3 x4 x5 SC SR f = some q ∧ In2 q.1 q.2.1 := by
  obtain ⟨r, SR', e1, e2, j⟩ := tv_fault (N := N) (z := z) x1 hN i
  refine ⟨(SC, SR', f), ?_, j⟩
  unfold zf_law_6
  rw [e1, mq_cp_s, e2, mq_cl_s]
theorem lw_7 (x1 x2 x3 x4 x5 : Int32) (hN : 300000 ≤ N) (i : In2 SC SR) : ∃ q, zf_law_7 N z x1 x2 x3 x4 x5 SC SR f = some q ∧ In2 q.1 q.2.1 := by
  obtain ⟨r, SC', SR', e1, e2, j⟩ := tv_set (N := N) (z := z) x1 x2 hN i
  refine ⟨(SC', SR', f), ?_, j⟩
  unfold zf_law_7
  rw [e1, mq_cl_s, e2, mq_cl_s]
theorem lw_8 (x1 x2 x3 x4 x5 : Int32) (hN : 300000 ≤ N) (i : In2 SC SR) : ∃ q, zf_law_8 N z x1 x2 x3 x4 x5 SC SR f = some q ∧ In2 q.1 q.2.1 := by
  obtain ⟨r, SR', e1, e2, j⟩ := tv_slot (N := N) (z := z) x1 x2 hN i
  refine ⟨(SC, SR', f), ?_, j⟩
  unfold zf_law_8
  rw [e1, mq_cp_s, e2, mq_cl_s]
theorem lw_9 (x1 x2 x3 x4 x5 : Int32) (hN : 300000 ≤ N) (i : In2 SC SR) : ∃ q, zf_law_9 N z x1 x2 x3 x4 x5 SC SR f = some q ∧ In2 q.1 q.2.1 := by
  obtain ⟨r, SR', e1, e2, j⟩ := tv_formulas (N := N) (z := z)  hN i
  refine ⟨(SC, SR', f), ?_, j⟩
  unfold zf_law_9
  rw [e1, mq_cp_s, e2, mq_cl_s]
theorem lw_10 (x1 x2 x3 x4 x5 : Int32) (hN : 300000 ≤ N) (i : In2 SC SR) : ∃ q, zf_law_10 N z x1 x2 x3 x4 x5 SC SR f = some q ∧ In2 q.1 q.2.1 := by
  obtain ⟨r, SR', e1, e2, j⟩ := tv_formula (N := N) (z := z) x1 x2 hN i
  refine ⟨(SC, SR', f), ?_, j⟩
  unfold zf_law_10
  rw [e1, mq_cp_s, e2, mq_cl_s]
theorem lw_11 (x1 x2 x3 x4 x5 : Int32) (hN : 300000 ≤ N) (i : In2 SC SR) : ∃ q, zf_law_11 N z x1 x2 x3 x4 x5 SC SR f = some q ∧ In2 q.1 q.2.1 := by
  obtain ⟨r, SC', SR', e1, e2, j⟩ := tv_tell (N := N) (z := z) x1 hN i
  refine ⟨(SC', SR', f), ?_, j⟩
  unfold zf_law_11
  rw [e1, mq_cl_s, e2, mq_cl_s]
theorem lw_12 (x1 x2 x3 x4 x5 : Int32) (hN : 300000 ≤ N) (i : In2 SC SR) : ∃ q, zf_law_12 N z x1 x2 x3 x4 x5 SC SR f = some q ∧ In2 q.1 q.2.1 := by
  obtain ⟨r, SC', SR', e1, e2, j⟩ := tv_prove (N := N) (z := z) x1 x2 hN i
  refine ⟨(SC', SR', f), ?_, j⟩
  unfold zf_law_12
  rw [e1, mq_cl_s, e2, mq_cl_s]
theorem lw_13 (x1 x2 x3 x4 x5 : Int32) (hN : 300000 ≤ N) (i : In2 SC SR) : ∃ q, zf_law_13 N z x1 x2 x3 x4 x5 SC SR f = some q ∧ In2 q.1 q.2.1 := by
  obtain ⟨r, SR', e1, e2, j⟩ := tv_count (N := N) (z := z) x1 hN i
  refine ⟨(SC, SR', f), ?_, j⟩
  unfold zf_law_13
  rw [e1, mq_cp_s, e2, mq_cl_s]
theorem lw_14 (x1 x2 x3 x4 x5 : Int32) (hN : 300000 ≤ N) (i : In2 SC SR) : ∃ q, zf_law_14 N z x1 x2 x3 x4 x5 SC SR f = some q ∧ In2 q.1 q.2.1 := by
  obtain ⟨r, SC', SR', e1, e2, j⟩ := tv_proof (N := N) (z := z)  hN i
  refine ⟨(SC', SR', f), ?_, j⟩
  unfold zf_law_14
  rw [e1, mq_cl_s, e2, mq_cl_s]
theorem lw_15 (x1 x2 x3 x4 x5 : Int32) (hN : 300000 ≤ N) (i : In2 SC SR) : ∃ q, zf_law_15 N z x1 x2 x3 x4 x5 SC SR f = some q ∧ In2 q.1 q.2.1 := by
  obtain ⟨r, SC', SR', e1, e2, j⟩ := tv_verify (N := N) (z := z) x1 hN i
  refine ⟨(SC', SR', f), ?_, j⟩
  unfold zf_law_15
  rw [e1, mq_cl_s, e2, mq_cl_s]
theorem lw_16 (x1 x2 x3 x4 x5 : Int32) (hN : 300000 ≤ N) (i : In2 SC SR) : ∃ q, zf_law_16 N z x1 x2 x3 x4 x5 SC SR f = some q ∧ In2 q.1 q.2.1 := by
  obtain ⟨r, SR', e1, e2, j⟩ := tv_worlds (N := N) (z := z)  hN i
  refine ⟨(SC, SR', f), ?_, j⟩
  unfold zf_law_16
  rw [e1, mq_cp_s, e2, mq_cl_s]
theorem lw_17 (x1 x2 x3 x4 x5 : Int32) (hN : 300000 ≤ N) (i : In2 SC SR) : ∃ q, zf_law_17 N z x1 x2 x3 x4 x5 SC SR f = some q ∧ In2 q.1 q.2.1 := by
  obtain ⟨r, q, SR', e1, e2, j, -⟩ := tv_sees (N := N) (z := z) x1 x2 hN i
  have g : ∃ v f', zf_L_sees N z x1 x2 SC f = some (v, SC, f') := by
    unfold zf_L_sees
    rw [e1]
    cases r with
    | none => exact ⟨_, _, rfl⟩
    | some r => exact ⟨_, _, rfl⟩
  obtain ⟨v, f', g⟩ := g
  refine ⟨(SC, SR', f'), ?_, j⟩
  unfold zf_law_17
  rw [g]
  show mq_cl (zf_X11_sees N z x1 x2 SR) _ = _
  rw [e2, mq_cl_s]
theorem lw_18 (x1 x2 x3 x4 x5 : Int32) (hN : 300000 ≤ N) (i : In2 SC SR) : ∃ q, zf_law_18 N z x1 x2 x3 x4 x5 SC SR f = some q ∧ In2 q.1 q.2.1 := by
  obtain ⟨r, SC', q, SR', e1, e2, j⟩ := tv_holds (N := N) (z := z) x1 x2 hN i
  have g : ∃ v f', zf_L_holds N z x1 x2 SC f = some (v, SC', f') := by
    unfold zf_L_holds
    rw [e1]
    cases r with
    | none => exact ⟨_, _, rfl⟩
    | some r => exact ⟨_, _, rfl⟩
  obtain ⟨v, f', g⟩ := g
  refine ⟨(SC', SR', f'), ?_, j⟩
  unfold zf_law_18
  rw [g]
  show mq_cl (zf_X11_holds N z x1 x2 SR) _ = _
  rw [e2, mq_cl_s]
theorem lw_19 (x1 x2 x3 x4 x5 : Int32) (hN : 300000 ≤ N) (i : In2 SC SR) : ∃ q, zf_law_19 N z x1 x2 x3 x4 x5 SC SR f = some q ∧ In2 q.1 q.2.1 := by
  obtain ⟨r, SC', q, SR', e1, e2, j⟩ := tv_world (N := N) (z := z) x1 x2 hN i
  have g : ∃ v f', zf_L_world N z x1 x2 SC f = some (v, SC', f') := by
    unfold zf_L_world
    rw [e1]
    cases r with
    | none => exact ⟨_, _, rfl⟩
    | some r => exact ⟨_, _, rfl⟩
  obtain ⟨v, f', g⟩ := g
  refine ⟨(SC', SR', f'), ?_, j⟩
  unfold zf_law_19
  rw [g]
  show mq_cl (zf_X11_world N z x1 x2 SR) _ = _
  rw [e2, mq_cl_s]
theorem lw_20 (x1 x2 x3 x4 x5 : Int32) (hN : 300000 ≤ N) (i : In2 SC SR) : ∃ q, zf_law_20 N z x1 x2 x3 x4 x5 SC SR f = some q ∧ In2 q.1 q.2.1 := by
  obtain ⟨r, SC', SR', e1, e2, j⟩ := tv_fold (N := N) (z := z)  hN i
  refine ⟨(SC', SR', f), ?_, j⟩
  unfold zf_law_20
  rw [e1, mq_cl_s, e2, mq_cl_s, if_pos rfl]
theorem lw_21 (x1 x2 x3 x4 x5 : Int32) (hN : 300000 ≤ N) (i : In2 SC SR) : ∃ q, zf_law_21 N z x1 x2 x3 x4 x5 SC SR f = some q ∧ In2 q.1 q.2.1 := by
  obtain ⟨r, SC', q, SR', e1, e2, j, -⟩ := tv_cut (N := N) (z := z) x1 hN i
  have g : ∃ v f', zf_L_cut N z x1 SC f = some (v, SC', f') := by
    unfold zf_L_cut
    rw [e1]
    cases r with
    | none => exact ⟨_, _, rfl⟩
    | some r => exact ⟨_, _, rfl⟩
  obtain ⟨v, f', g⟩ := g
  refine ⟨(SC', SR', f'), ?_, j⟩
  unfold zf_law_21
  rw [g]
  show mq_cl (zf_X11_cut N z x1 SR) _ = _
  rw [e2, mq_cl_s]
theorem lw_step (op x1 x2 x3 x4 x5 : Int32) (hN : 300000 ≤ N) (i : In2 SC SR) : ∃ q, zf_step N z op x1 x2 x3 x4 x5 SC SR f = some q ∧ In2 q.1 q.2.1 := by
  unfold zf_step
  by_cases e0 : op = 0
  · rw [if_pos e0]; exact lw_0 x1 x2 x3 x4 x5 hN i
  rw [if_neg e0]
  by_cases e1 : op = 1
  · rw [if_pos e1]; exact lw_1 x1 x2 x3 x4 x5 hN i
  rw [if_neg e1]
  by_cases e2 : op = 2
  · rw [if_pos e2]; exact lw_2 x1 x2 x3 x4 x5 hN i
  rw [if_neg e2]
  by_cases e3 : op = 3
  · rw [if_pos e3]; exact lw_3 x1 x2 x3 x4 x5 hN i
  rw [if_neg e3]
  by_cases e4 : op = 4
  · rw [if_pos e4]; exact lw_4 x1 x2 x3 x4 x5 hN i
  rw [if_neg e4]
  by_cases e5 : op = 5
  · rw [if_pos e5]; exact lw_5 x1 x2 x3 x4 x5 hN i
  rw [if_neg e5]
  by_cases e6 : op = 6
  · rw [if_pos e6]; exact lw_6 x1 x2 x3 x4 x5 hN i
  rw [if_neg e6]
  by_cases e7 : op = 7
  · rw [if_pos e7]; exact lw_7 x1 x2 x3 x4 x5 hN i
  rw [if_neg e7]
  by_cases e8 : op = 8
  · rw [if_pos e8]; exact lw_8 x1 x2 x3 x4 x5 hN i
  rw [if_neg e8]
  by_cases e9 : op = 9
  · rw [if_pos e9]; exact lw_9 x1 x2 x3 x4 x5 hN i
  rw [if_neg e9]
  by_cases e10 : op = 10
  · rw [if_pos e10]; exact lw_10 x1 x2 x3 x4 x5 hN i
  rw [if_neg e10]
  by_cases e11 : op = 11
  · rw [if_pos e11]; exact lw_11 x1 x2 x3 x4 x5 hN i
  rw [if_neg e11]
  by_cases e12 : op = 12
  · rw [if_pos e12]; exact lw_12 x1 x2 x3 x4 x5 hN i
  rw [if_neg e12]
  by_cases e13 : op = 13
  · rw [if_pos e13]; exact lw_13 x1 x2 x3 x4 x5 hN i
  rw [if_neg e13]
  by_cases e14 : op = 14
  · rw [if_pos e14]; exact lw_14 x1 x2 x3 x4 x5 hN i
  rw [if_neg e14]
  by_cases e15 : op = 15
  · rw [if_pos e15]; exact lw_15 x1 x2 x3 x4 x5 hN i
  rw [if_neg e15]
  by_cases e16 : op = 16
  · rw [if_pos e16]; exact lw_16 x1 x2 x3 x4 x5 hN i
  rw [if_neg e16]
  by_cases e17 : op = 17
  · rw [if_pos e17]; exact lw_17 x1 x2 x3 x4 x5 hN i
  rw [if_neg e17]
  by_cases e18 : op = 18
  · rw [if_pos e18]; exact lw_18 x1 x2 x3 x4 x5 hN i
  rw [if_neg e18]
  by_cases e19 : op = 19
  · rw [if_pos e19]; exact lw_19 x1 x2 x3 x4 x5 hN i
  rw [if_neg e19]
  by_cases e20 : op = 20
  · rw [if_pos e20]; exact lw_20 x1 x2 x3 x4 x5 hN i
  rw [if_neg e20]
  by_cases e21 : op = 21
  · rw [if_pos e21]; exact lw_21 x1 x2 x3 x4 x5 hN i
  rw [if_neg e21]
  exact ⟨(SC, SR, f), rfl, i⟩
theorem lw_all {xs : Nat → Int32} {L : Nat} (hN : 300000 ≤ N) : ∀ (n k : Nat) (SC SR : mq_St) (f : Nat → Int64), In2 SC SR → L - k < n → zf_law N z xs L n k SC SR f = some ()
  | 0, k, SC, SR, f, _, h => by omega
  | n + 1, k, SC, SR, f, i, h => by
    show (if k + 6 ≤ L then (match zf_step N z (xs k &&& 31) (xs (k + 1)) (xs (k + 2)) (xs (k + 3)) (xs (k + 4)) (xs (k + 5)) SC SR f with | none => none | some q => zf_law N z xs L n (k + 6) q.1 q.2.1 q.2.2) else some ()) = some ()
    by_cases q : k + 6 ≤ L
    · obtain ⟨p, e, j⟩ := lw_step (f := f) (xs k &&& 31) (xs (k + 1)) (xs (k + 2)) (xs (k + 3)) (xs (k + 4)) (xs (k + 5)) hN i
      rw [if_pos q, e]
      exact lw_all hN n (k + 6) p.1 p.2.1 p.2.2 j (by omega)
    · rw [if_neg q]
end LAW
section START0
variable {N : Nat} {z : Nat → Nat} {S : mq_St}
theorem ap_1 {m s : Nat} (hm : m < 300) (hs : s < 8) (h : S.1 0 = nI m) (b c : Int32) : ∃ w', zf_X7k_append N z (nI s) b c S = some (nI m, mq_sl (mq_sa (mq_sa (mq_sa (mq_sa (mq_si S 0 (nI (m + 1))) 0 (upd (S.2.1 0) m (nI s))) 1 (upd (S.2.1 1) m b)) 2 (upd (S.2.1 2) m c)) 3 (upd (S.2.1 3) m (-1))) 0 w') ∧ ∀ r g, g < 320 → lb w' r g = (lb (S.2.2 0) r g || decide (r = s ∧ g = m)) := by
  obtain ⟨l, a1, a2⟩ := cv_put (N := N) (S := mq_sa (mq_sa (mq_sa (mq_sa (mq_si S 0 (nI (m + 1))) 0 (upd (S.2.1 0) m (nI s))) 1 (upd (S.2.1 1) m b)) 2 (upd (S.2.1 2) m c)) 3 (upd (S.2.1 3) m (-1))) (k := 0) (r := s) (f := m) (R := 8) (y := fun k => [40].getD k 0) rfl (by omega) hs (by omega)
  refine ⟨l, ?_, a2⟩
  have i1 : vp_in (nI m) 300 := vp_in_nI hm (by omega)
  unfold zf_X7k_append
  rw [h, if_pos (show nI m < 300 from nI_lt (b := 300) hm (by omega)), nI_e, nI_1, nS_e, mq_ck_of i1, nI_clamp (show m < 2147483648 by omega), nS_e, mq_ck_of i1, nS_e, mq_ck_of i1, nS_e, mq_ck_of i1, nS_e]
  exact a1 _ (fun S13 => some (nI m, S13))
theorem x7_init : ∃ S1, zf_X7_init_t N z mq_Z = some ((), S1) ∧ S1.1 0 = nI 2 ∧ (S1.2.1 0 0 = 0 ∧ S1.2.1 0 1 = 1) ∧ (S1.2.1 1 0 = -1 ∧ S1.2.1 1 1 = -1) ∧ (S1.2.1 2 0 = -1 ∧ S1.2.1 2 1 = -1) ∧ (S1.2.1 3 0 = nI 1 ∧ S1.2.1 3 1 = nI 0) ∧ ∀ s f, f < 320 → lb (S1.2.2 0) s f = decide ((s = 0 ∧ f = 0) ∨ (s = 1 ∧ f = 1)) := by
  obtain ⟨w1, a1, a2⟩ := ap_1 (N := N) (z := z) (S := mq_Z) (m := 0) (s := 0) (by omega) (by omega) rfl (-1) (-1)
  generalize hS2 : mq_sl (mq_sa (mq_sa (mq_sa (mq_sa (mq_si mq_Z 0 (nI (0 + 1))) 0 (upd (mq_Z.2.1 0) 0 (nI 0))) 1 (upd (mq_Z.2.1 1) 0 (-1))) 2 (upd (mq_Z.2.1 2) 0 (-1))) 3 (upd (mq_Z.2.1 3) 0 (-1))) 0 w1 = S2 at a1
  obtain ⟨w2, b1, b2⟩ := ap_1 (N := N) (z := z) (S := S2) (m := 1) (s := 1) (by omega) (by omega) (by rw [← hS2]; rfl) (-1) (-1)
  generalize hS3 : mq_sl (mq_sa (mq_sa (mq_sa (mq_sa (mq_si S2 0 (nI (1 + 1))) 0 (upd (S2.2.1 0) 1 (nI 1))) 1 (upd (S2.2.1 1) 1 (-1))) 2 (upd (S2.2.1 2) 1 (-1))) 3 (upd (S2.2.1 3) 1 (-1))) 0 w2 = S3 at b1
  have h0 : S3.1 0 = nI 2 := by rw [← hS3]; rfl
  have has : ∀ (j : Nat) (T : mq_St), j < 2 → T.1 0 = nI 2 → zf_X7k_has N z (nI j) T = some 1 := fun j T hj hT => by
    unfold zf_X7k_has
    rw [hT, if_neg (nI_pos (by omega)), if_neg (nI_ge hj (by omega)), mq_cz_1]
  refine ⟨mq_sa (mq_sa S3 3 (upd (S3.2.1 3) 0 (nI 1))) 3 (upd (upd (S3.2.1 3) 0 (nI 1)) 1 (nI 0)), ?_, h0, ?_, ?_, ?_, ⟨rfl, rfl⟩, fun s f hf => ?_⟩
  · unfold zf_X7_init_t
    have a1' : zf_X7k_append N z 0 (-1) (-1) mq_Z = some (nI 0, S2) := a1
    have b1' : zf_X7k_append N z 1 (-1) (-1) S2 = some (nI 1, S3) := b1
    rw [a1', mq_cl_s, b1', mq_cl_s]
    have pr : zf_X7k_pair N z (nI 0) (nI 1) S3 = some ((), mq_sa (mq_sa S3 3 (upd (S3.2.1 3) 0 (nI 1))) 3 (upd (upd (S3.2.1 3) 0 (nI 1)) 1 (nI 0))) := by
      unfold zf_X7k_pair
      rw [has 0 S3 (by omega) h0, mq_cp_s, if_neg (by decide), has 1 S3 (by omega) h0, mq_cp_s, if_neg (by decide), mq_ck_of (vp_in_nI (by omega) (by omega)), nS_e, mq_ck_of (vp_in_nI (by omega) (by omega)), nS_e, nI_clamp (by omega), nI_clamp (by omega)]
      rfl
    rw [pr, mq_cl_s]
  · rw [← hS3, ← hS2]; exact ⟨rfl, rfl⟩
  · rw [← hS3, ← hS2]; exact ⟨rfl, rfl⟩
  · rw [← hS3, ← hS2]; exact ⟨rfl, rfl⟩
  · have c1 : lb (S3.2.2 0) s f = (lb (S2.2.2 0) s f || decide (s = 1 ∧ f = 1)) := by rw [← hS3]; exact b2 s f hf
    have c2 : lb (S2.2.2 0) s f = (lb (mq_Z.2.2 0) s f || decide (s = 0 ∧ f = 0)) := by rw [← hS2]; exact a2 s f hf
    have c3 : lb (mq_Z.2.2 0) s f = false := BitVec.getLsbD_zero
    show lb (S3.2.2 0) s f = _
    rw [c1, c2, c3, Bool.false_or, ← Bool.decide_or]
/-- the two FORMULAS of the start -/
def Lz : List En := [(0, -1, -1), (1, -1, -1)]
theorem Lz_g : gtb Lz := by
  refine ⟨⟨rfl, rfl⟩, by decide, fun f e h => ?_, fun f hf => ?_⟩
  · have hf : f < 2 := (List.getElem?_eq_some_iff.mp h).1
    have : f = 0 ∨ f = 1 := by omega
    rcases this with rfl | rfl
    · have e0 : e = ((0, -1, -1) : En) := by injection h with h; exact h.symm
      subst e0
      exact ⟨fun q => absurd q (by decide), fun q => absurd q (by decide)⟩
    · have e0 : e = ((1, -1, -1) : En) := by injection h with h; exact h.symm
      subst e0
      exact ⟨fun q => absurd q (by decide), fun q => absurd q (by decide)⟩
  · have hf : f < 2 := hf
    have : f = 0 ∨ f = 1 := by omega
    rcases this with rfl | rfl
    · exact ⟨.num 0, Or.inl rfl, rfl, 1, rfl⟩
    · exact ⟨.num 1, Or.inr rfl, rfl, 0, rfl⟩
theorem Lz_d : dd Lz 0 = 1 ∧ dd Lz 1 = 0 := ⟨dd_is (s := .num 0) Lz_g.1 (by decide) (Or.inl rfl) rfl rfl, dd_is (s := .num 1) Lz_g.1 (by decide) (Or.inr rfl) rfl rfl⟩
theorem x10_init (hN : 300000 ≤ N) : ∃ S', zf_X10_init_t N z S = some ((), S') ∧ ag [] [0, 1] [] S S' ∧ ∀ s, s < 8 → S'.2.1 0 s = -1 ∧ S'.2.1 1 s = -1 := by
  unfold zf_X10_init_t
  rw [nI_e]
  obtain ⟨T, ⟨a1, a2⟩, a3⟩ := lp_i (F := fun fu k T => zf_X10_init_t_181 N z fu k T) (n := 8) (I := fun k T => ag [] [0, 1] [] S T ∧ ∀ s, s < k → T.2.1 0 s = -1 ∧ T.2.1 1 s = -1) (G := fun T => some ((), T)) (fun fu T hI => by
    show zf_X10_init_t_181b N z _ (nI 8) T = _
    unfold zf_X10_init_t_181b
    rw [if_pos (show (8 : Int32) ≤ nI 8 by decide)]) (fun fu k T hk hI => by
    refine ⟨mq_sa (mq_sa T 0 (upd (T.2.1 0) k (-1))) 1 (upd (T.2.1 1) k (-1)), ⟨ag_tr hI.1 (ag_tr (ag_sa (by decide)) (ag_sa (by decide))), fun s hs => ?_⟩, ?_⟩
    · show upd (T.2.1 0) k (-1) s = -1 ∧ upd (T.2.1 1) k (-1) s = -1
      by_cases q : s = k
      · rw [q, up_s, up_s]; exact ⟨rfl, rfl⟩
      · rw [up_o q, up_o q]; exact hI.2 s (by omega)
    · show zf_X10_init_t_181b N z (fun v2 S => zf_X10_init_t_181 N z fu v2 S) (nI k) T = _
      unfold zf_X10_init_t_181b
      have i1 : vp_in (nI k) 8 := vp_in_nI hk (by omega)
      rw [if_neg (show ¬ (8 : Int32) ≤ nI k from nI_ge (b := 8) hk (by omega)), mq_ck_of i1, nS_e, mq_ck_of i1, nI_clamp (show k < 2147483648 by omega), nS_e, nI_e, nI_1]
      rfl) N 0 S (by omega) (by omega) ⟨ag_rf, fun s hs => by omega⟩
  exact ⟨T, a3, a1, a2⟩
theorem x11_init (hN : 300000 ≤ N) : ∃ S', zf_X11_init_t N z zS_R = some ((), S') ∧ ag [] [2, 3, 4, 5, 6] [] zS_R S' ∧ (∀ s, s < 8 → S'.2.1 5 s = -1 ∧ S'.2.1 6 s = -1) ∧ (S'.2.1 2 0 = 0 ∧ S'.2.1 2 1 = 1) ∧ (S'.2.1 3 0 = -1 ∧ S'.2.1 3 1 = -1) ∧ (S'.2.1 4 0 = -1 ∧ S'.2.1 4 1 = -1) := by
  unfold zf_X11_init_t
  rw [mq_ck_of (show vp_in (1 : Int32) 300 from vp_in_nI (n := 1) (by omega) (by omega)), nS_e, mq_ck_of (show vp_in (0 : Int32) 300 from vp_in_nI (n := 0) (by omega) (by omega)), nS_e, mq_ck_of (show vp_in (0 : Int32) 300 from vp_in_nI (n := 0) (by omega) (by omega)), nS_e, mq_ck_of (show vp_in (1 : Int32) 300 from vp_in_nI (n := 1) (by omega) (by omega)), nS_e, mq_ck_of (show vp_in (1 : Int32) 300 from vp_in_nI (n := 1) (by omega) (by omega)), nS_e, nI_e]
  generalize hU : mq_sa (mq_sa (mq_sa (mq_sa (mq_sa zS_R 2 _) 3 _) 4 _) 3 _) 4 _ = U
  have u0 : ag [] [2, 3, 4, 5, 6] [] zS_R U := by
    rw [← hU]
    exact ag_tr (ag_tr (ag_tr (ag_tr (ag_sa (by decide)) (ag_sa (by decide))) (ag_sa (by decide))) (ag_sa (by decide))) (ag_sa (by decide))
  have u1 : (U.2.1 2 0 = 0 ∧ U.2.1 2 1 = 1) ∧ (U.2.1 3 0 = -1 ∧ U.2.1 3 1 = -1) ∧ (U.2.1 4 0 = -1 ∧ U.2.1 4 1 = -1) := by
    rw [← hU]; exact ⟨⟨rfl, rfl⟩, ⟨rfl, rfl⟩, ⟨rfl, rfl⟩⟩
  obtain ⟨T, ⟨a1, a2⟩, a3⟩ := lp_i (F := fun fu k T => zf_X11_init_t_436 N z fu k T) (n := 8) (I := fun k T => ag [] [5, 6] [] U T ∧ ∀ s, s < k → T.2.1 5 s = -1 ∧ T.2.1 6 s = -1) (G := fun T => some ((), T)) (fun fu T hI => by
    show zf_X11_init_t_436b N z _ (nI 8) T = _
    unfold zf_X11_init_t_436b
    rw [if_pos (show (8 : Int32) ≤ nI 8 by decide)]) (fun fu k T hk hI => by
    refine ⟨mq_sa (mq_sa T 5 (upd (T.2.1 5) k (-1))) 6 (upd (T.2.1 6) k (-1)), ⟨ag_tr hI.1 (ag_tr (ag_sa (by decide)) (ag_sa (by decide))), fun s hs => ?_⟩, ?_⟩
    · show upd (T.2.1 5) k (-1) s = -1 ∧ upd (T.2.1 6) k (-1) s = -1
      by_cases q : s = k
      · rw [q, up_s, up_s]; exact ⟨rfl, rfl⟩
      · rw [up_o q, up_o q]; exact hI.2 s (by omega)
    · show zf_X11_init_t_436b N z (fun v2 S => zf_X11_init_t_436 N z fu v2 S) (nI k) T = _
      unfold zf_X11_init_t_436b
      have i1 : vp_in (nI k) 8 := vp_in_nI hk (by omega)
      rw [if_neg (show ¬ (8 : Int32) ≤ nI k from nI_ge (b := 8) hk (by omega)), mq_ck_of i1, nS_e, mq_ck_of i1, nI_clamp (show k < 2147483648 by omega), nS_e, nI_e, nI_1]
      rfl) N 0 U (by omega) (by omega) ⟨ag_rf, fun s hs => by omega⟩
  have e2 := a1.2.1 2 (by decide)
  have e3 := a1.2.1 3 (by decide)
  have e4 := a1.2.1 4 (by decide)
  refine ⟨T, a3, ag_tr u0 (ag_mono a1 (by decide) (by decide) (by decide)), a2, ?_, ?_, ?_⟩
  · rw [e2]; exact u1.1
  · rw [e3]; exact u1.2.1
  · rw [e4]; exact u1.2.2
theorem zH_is : zH := by
  obtain ⟨S1, a1, h2, ⟨s0, s1⟩, ⟨o0, o1⟩, ⟨t0, t1⟩, ⟨d0, d1⟩, hb⟩ := x7_init (N := 300000) (z := fun _ => 0)
  obtain ⟨SC, b1, b2, b3⟩ := x10_init (N := 300000) (z := fun _ => 0) (S := zS_C S1) (by omega)
  obtain ⟨SR, c1, c2, c3, ⟨q0, q1⟩, ⟨r0, r1⟩, ⟨p0, p1⟩⟩ := x11_init (N := 300000) (z := fun _ => 0) (by omega)
  have k4 : SC.2.1 4 = S1.2.1 0 := b2.2.1 4 (by decide)
  have k5 : SC.2.1 5 = S1.2.1 1 := b2.2.1 5 (by decide)
  have k6 : SC.2.1 6 = S1.2.1 2 := b2.2.1 6 (by decide)
  have k7 : SC.2.1 7 = S1.2.1 3 := b2.2.1 7 (by decide)
  have k0 : SC.2.2 0 = S1.2.2 0 := b2.2.2 0 (by decide)
  have two : ∀ f, f < Lz.length → f = 0 ∨ f = 1 := fun f hf => by have hf : f < 2 := hf; omega
  have iF : ivF SC SR := by
    refine ⟨Lz, Lz_g, ⟨(b2.1 2 (by decide)).trans h2, by decide, fun f hf => ?_, fun s f hs hf => ?_, fun f hf => ?_⟩, ⟨c2.1 3 (by decide), by decide, fun f hf => ?_⟩, fun f hf => ?_, fun s hs => ?_⟩
    · rw [k4, k5, k6]
      rcases two f hf with rfl | rfl
      · rw [s0, o0, t0]; rfl
      · rw [s1, o1, t1]; rfl
    · rw [k0, hb s f hf, k4, decide_eq_decide]
      constructor
      · rintro (⟨rfl, rfl⟩ | ⟨rfl, rfl⟩)
        · exact ⟨by decide, s0⟩
        · exact ⟨by decide, s1⟩
      · rintro ⟨hf2, e⟩
        rcases two f hf2 with rfl | rfl
        · rw [s0] at e
          exact Or.inl ⟨(sp_inj (a := 0) e (by omega) (by omega)).symm, rfl⟩
        · rw [s1] at e
          exact Or.inr ⟨(sp_inj (a := 1) e (by omega) (by omega)).symm, rfl⟩
    · rw [k4]
      rcases two f hf with rfl | rfl
      · exact ⟨0, by omega, s0⟩
      · exact ⟨1, by omega, s1⟩
    · rcases two f hf with rfl | rfl
      · rw [q0, r0, p0]; rfl
      · rw [q1, r1, p1]; rfl
    · rw [k7]
      rcases two f hf with rfl | rfl
      · rw [d0, Lz_d.1]
      · rw [d1, Lz_d.2]
    · rw [(b3 s hs).1, (b3 s hs).2, (c3 s hs).1, (c3 s hs).2]
      exact ⟨rfl, rfl, Or.inl ⟨rfl, rfl⟩⟩
  have n := fun j (hj : j ∉ ([] : List Nat)) => b2.1 j hj
  have i : In2 SC SR := by
    refine ⟨⟨0, by omega, b2.1 0 (by decide), c2.1 1 (by decide), fun i hi => by omega⟩, ⟨0, by omega, b2.1 1 (by decide), c2.1 2 (by decide), fun i hi => by omega⟩, ?_, iF, ⟨(b2.1 11 (by decide)).trans (c2.1 4 (by decide)).symm, (b2.1 12 (by decide)).trans (c2.1 5 (by decide)).symm⟩, ⟨0, by omega, b2.1 25 (by decide), Or.inl ⟨rfl, c2.1 29 (by decide)⟩, fun i hi => by omega⟩, ⟨0, by omega, b2.1 20 (by decide)⟩, ⟨⟨0, by omega, b2.1 23 (by decide)⟩, 0, by omega, b2.1 22 (by decide)⟩, ⟨0, by omega, c2.1 31 (by decide)⟩, ?_, ?_, ⟨0, by omega, b2.1 23 (by decide), c2.1 31 (by decide), fun a ha => by omega, fun _ _ => false, fun a b ha => by omega, fun a b ha => by omega⟩⟩
    · rw [c2.2.1 0 (by decide)]
      intro i
      show (0 : Int32).toInt8.toInt32 = 0
      decide
    · have e : SC.2.1 21 = fun _ => 0 := b2.2.1 21 (by decide)
      unfold cn4
      rw [e]
      exact ⟨(c2.1 19 (by decide)).symm, (c2.1 20 (by decide)).symm, (c2.1 21 (by decide)).symm, (c2.1 22 (by decide)).symm⟩
    · rw [c2.2.1 38 (by decide)]
      exact fun _ => Or.inl rfl
  exact ⟨300000, fun _ => 0, S1, SC, SR, a1, b1, c1, fun xs L hL => ⟨L + 1, lw_all (by omega) (L + 1) 0 SC SR _ i (by omega)⟩⟩
end START0
