/-! 9i.sets2 -/
section
/-! Sets once more: the lowest bit; copies; the reference's sets, ten ints each. -/
theorem low_bit {b : Int64} {j : Nat} (hj : j < 64) (hb : b.toBitVec.getLsbD j = true) (hl : ∀ i, i < j → b.toBitVec.getLsbD i = false) : b &&& -b = mq_lshl 1 (nI j) ∧ ∀ i, i < 64 → (b &&& (b - 1)).toBitVec.getLsbD i = (b.toBitVec.getLsbD i && decide (i ≠ j)) := by
  have ex : ∀ i, decide (∃ k, k < i ∧ b.toBitVec.getLsbD k = true) = decide (∃ k, k < i ∧ b.toBitVec.getLsbD k = true) := fun _ => rfl
  have ng : ∀ i, i < 64 → (-b).toBitVec.getLsbD i = (b.toBitVec.getLsbD i ^^ decide (∃ k, k < i ∧ b.toBitVec.getLsbD k = true)) := by
    intro i hi
    rw [Int64.toBitVec_neg, BitVec.getLsbD_neg, decide_eq_true hi, Bool.true_and]
  have below : ∀ i, i ≤ j → decide (∃ k, k < i ∧ b.toBitVec.getLsbD k = true) = false := fun i hi => decide_eq_false (by
    rintro ⟨k, h1, h2⟩
    rw [hl k (by omega)] at h2
    cases h2)
  have above : ∀ i, j < i → decide (∃ k, k < i ∧ b.toBitVec.getLsbD k = true) = true := fun i hi => decide_eq_true ⟨j, hi, hb⟩
  constructor
  · apply l_ext
    intro i hi
    rw [Int64.toBitVec_and, BitVec.getLsbD_and, ng i hi, l_one j hj i hi]
    rcases Nat.lt_trichotomy i j with h | h | h
    · rw [hl i h, Bool.false_and, decide_eq_false (show ¬ i = j by omega)]
    · rw [h, hb, below j (Nat.le_refl _), decide_eq_true rfl]; rfl
    · rw [above i h, decide_eq_false (show ¬ i = j by omega)]
      cases b.toBitVec.getLsbD i <;> rfl
  · intro i hi
    have e : (b - 1).toBitVec = ~~~(-b.toBitVec) := by
      rw [BitVec.not_neg, Int64.toBitVec_sub]
      rfl
    have nb : (b - 1).toBitVec.getLsbD i = !(b.toBitVec.getLsbD i ^^ decide (∃ k, k < i ∧ b.toBitVec.getLsbD k = true)) := by
      rw [e, BitVec.getLsbD_not, decide_eq_true hi, Bool.true_and, ← ng i hi, Int64.toBitVec_neg]
    rw [Int64.toBitVec_and, BitVec.getLsbD_and, nb]
    rcases Nat.lt_trichotomy i j with h | h | h
    · rw [hl i h, Bool.false_and, Bool.false_and]
    · rw [h, hb, below j (Nat.le_refl _), decide_eq_false (fun q => q rfl)]; rfl
    · rw [above i h, decide_eq_true (by omega : i ≠ j)]
      cases b.toBitVec.getLsbD i <;> rfl
theorem low_cnt {N : Nat} {z : Nat → Nat} {S : mq_St} : ∀ j, j < 64 → cb (nt (mq_lshl 1 (nI j) - 1)) 64 = j := by decide +kernel
theorem cb_less {u u' j : Nat} (hj : u.testBit j = true) : ∀ K, j < K → (∀ i, i < K → u'.testBit i = (u.testBit i && decide (i ≠ j))) → cb u' K + 1 = cb u K
  | 0, h, _ => by omega
  | K + 1, h, hu => by
    show cb u' K + (if u'.testBit K = true then 1 else 0) + 1 = cb u K + (if u.testBit K = true then 1 else 0)
    have hk := hu K (by omega)
    by_cases e : K = j
    · have same : ∀ k, k ≤ K → cb u' k = cb u k := by
        intro k
        induction k with
        | zero => intro _; rfl
        | succ k ih =>
          intro hk'
          show cb u' k + (if u'.testBit k = true then 1 else 0) = cb u k + (if u.testBit k = true then 1 else 0)
          rw [ih (by omega), hu k (by omega), decide_eq_true (show k ≠ j by omega), Bool.and_true]
      rw [same K (Nat.le_refl _), hk, e, hj, decide_eq_false (fun q => q rfl)]
      rfl
    · have := cb_less hj K (by omega) (fun i hi => hu i (by omega))
      rw [hk, decide_eq_true e, Bool.and_true]
      omega
theorem cb_zero {u : Nat} : ∀ K, cb u K = 0 ↔ ∀ i, i < K → u.testBit i = false
  | 0 => ⟨fun _ i hi => by omega, fun _ => rfl⟩
  | K + 1 => by
    have ih := cb_zero (u := u) K
    show cb u K + (if u.testBit K = true then 1 else 0) = 0 ↔ _
    constructor
    · intro h i hi
      by_cases e : i = K
      · rw [e]
        cases q : u.testBit K with
        | false => rfl
        | true => rw [q] at h; simp at h
      · exact ih.mp (by omega) i (by omega)
    · intro h
      rw [ih.mpr (fun i hi => h i (by omega)), h K (by omega)]
      rfl
theorem cb_le (u : Nat) : ∀ K, cb u K ≤ K
  | 0 => Nat.le_refl _
  | K + 1 => by
    have := cb_le u K
    show cb u K + (if u.testBit K = true then 1 else 0) ≤ K + 1
    split <;> omega
theorem least_bit {u : Nat} {K : Nat} (h : 0 < cb u K) : ∃ j, j < K ∧ u.testBit j = true ∧ ∀ i, i < j → u.testBit i = false := by
  have hex : ∃ j, j < K ∧ u.testBit j = true := by
    false_or_by_contra
    rename_i hn
    have : cb u K = 0 := (cb_zero K).mpr (fun i hi => by
      cases q : u.testBit i with
      | false => rfl
      | true => exact absurd ⟨i, hi, q⟩ hn)
    omega
  obtain ⟨j, hj, hm⟩ := pk_least (fun j => j < K ∧ u.testBit j = true) hex
  exact ⟨j, hj.1, hj.2, fun i hi => by
    cases q : u.testBit i with
    | false => rfl
    | true => exact absurd ⟨by omega, q⟩ (hm i hi)⟩
section SETS2
variable {N R R' : Nat} {z : Nat → Nat} {S : mq_St} {r r' f : Nat}
theorem se_bits {k : Nat} (hz : z 0 = 5 * R) (hR : R < 10000) (hr : r < R) (hk : k < 5) : zf_X6_bits N z (nI r) (nI k) S = some (S.2.2 0 (5 * r + k)) := by
  unfold zf_X6_bits
  have e1 : (64 : Int32) * nI k = nI (64 * k) := pk_mul 64 k
  have e2 : nI r * 5 + nI k = nI (5 * r + k) := by
    rw [show (5 : Int32) = nI 5 from rfl, pk_mul, nI_add]; congr 1; omega
  rw [e1, se_pl hz hR hr (by omega), mq_cp_s, if_neg (by decide), e2, hz, mq_ck_of (vp_in_nI (by omega) (by omega)), nI_clamp (by omega)]
theorem lb_k {w : Nat → Int64} {r f : Nat} : lb w r f = (w (5 * r + f / 64)).toBitVec.getLsbD (f % 64) := rfl
theorem lb_row {w : Nat → Int64} {x : Int64} {r k r2 f2 : Nat} (hk : k < 5) (hf : f2 < 320) : lb (vp_updL w (5 * r + k) x) r2 f2 = if r2 = r ∧ f2 / 64 = k then x.toBitVec.getLsbD (f2 % 64) else lb w r2 f2 := by
  unfold lb
  by_cases h : r2 = r ∧ f2 / 64 = k
  · rw [if_pos h, h.1, h.2, ul_s]
  · rw [if_neg h, ul_o (fun e => h (by omega))]
theorem se_empty (hN : 10 ≤ N) (hz : z 0 = 5 * R) (hR : R < 10000) (hr : r < R) : ∃ w', zf_X6_empty N z (nI r) S = some ((), mq_sl S 0 w') ∧ ∀ r2 f2, f2 < 320 → lb w' r2 f2 = (lb (S.2.2 0) r2 f2 && decide (r2 ≠ r)) := by
  have loop : ∀ (fuel k : Nat) (w : Nat → Int64), k ≤ 5 → 5 - k < fuel → (∀ r2 f2, f2 < 320 → lb w r2 f2 = (lb (S.2.2 0) r2 f2 && decide (¬ (r2 = r ∧ f2 / 64 < k)))) → ∃ w', zf_X6_empty_2 N z fuel (nI r) (nI k) (mq_sl S 0 w) = some ((), mq_sl S 0 w') ∧ ∀ r2 f2, f2 < 320 → lb w' r2 f2 = (lb (S.2.2 0) r2 f2 && decide (r2 ≠ r)) := by
    intro fuel
    induction fuel with
    | zero => intro k w _ h; omega
    | succ fuel ih =>
      intro k w hk hf hw
      show ∃ w', zf_X6_empty_2b N z (fun v1 v2 S => zf_X6_empty_2 N z fuel v1 v2 S) (nI r) (nI k) (mq_sl S 0 w) = some ((), mq_sl S 0 w') ∧ _
      unfold zf_X6_empty_2b
      by_cases e : k = 5
      · subst e
        rw [if_pos (by decide)]
        refine ⟨w, rfl, fun r2 f2 hf2 => ?_⟩
        rw [hw r2 f2 hf2]
        congr 1
        rw [decide_eq_decide]
        exact ⟨fun q e => q ⟨e, by omega⟩, fun q e => q e.1⟩
      · have e5 : ¬ (5 : Int32) ≤ nI k := nI_ge (b := 5) (by omega) (by omega)
        have e2 : nI r * 5 + nI k = nI (5 * r + k) := by
          rw [show (5 : Int32) = nI 5 from rfl, pk_mul, nI_add]; congr 1; omega
        rw [if_neg e5, show (0 : Int32) = nI 0 from rfl, se_pl hz hR hr (by omega), mq_cp_s, if_neg (by decide), e2, hz, mq_ck_of (vp_in_nI (by omega) (by omega)), nI_clamp (by omega), nS_e, nI_1, nI_e]
        obtain ⟨w', a1, a2⟩ := ih (k + 1) (vp_updL w (5 * r + k) 0) (by omega) (by omega) (fun r2 f2 hf2 => by
          rw [lb_row (by omega) hf2]
          by_cases h : r2 = r ∧ f2 / 64 = k
          · rw [if_pos h, decide_eq_false (fun q => q ⟨h.1, by omega⟩), Bool.and_false]
            exact BitVec.getLsbD_zero
          · rw [if_neg h, hw r2 f2 hf2]
            congr 1
            rw [decide_eq_decide]
            exact ⟨fun q e => q ⟨e.1, by have : ¬ f2 / 64 = k := fun x => h ⟨e.1, x⟩; omega⟩, fun q e => q ⟨e.1, by omega⟩⟩)
        exact ⟨w', by rw [← a1, sl_sl]; rfl, a2⟩
  obtain ⟨w', a1, a2⟩ := loop N 0 (S.2.2 0) (by omega) (by omega) (fun r2 f2 _ => by
    rw [decide_eq_true (show ¬ (r2 = r ∧ f2 / 64 < 0) by omega), Bool.and_true])
  refine ⟨w', ?_, a2⟩
  have e : mq_sl S 0 (S.2.2 0) = S := by
    unfold mq_sl
    refine Prod.ext rfl (Prod.ext rfl ?_)
    funext j
    show (if j = 0 then S.2.2 0 else S.2.2 j) = S.2.2 j
    by_cases q : j = 0
    · rw [if_pos q, q]
    · rw [if_neg q]
  rw [e] at a1
  exact a1
/-- a row is set by a row of another one: copy, meet -/
theorem se_copy (hN : 10 ≤ N) (hz : z 0 = 5 * R) (hz' : z 1 = 5 * R') (hR : R < 10000) (hR' : R' < 10000) (hr : r < R) (hr' : r' < R') : ∃ w', zf_X6_copy N z (nI r) (nI r') S = some ((), mq_sl S 0 w') ∧ ∀ r2 f2, f2 < 320 → lb w' r2 f2 = if r2 = r then lb (S.2.2 1) r' f2 else lb (S.2.2 0) r2 f2 := by
  have loop : ∀ (fuel k : Nat) (w : Nat → Int64), k ≤ 5 → 5 - k < fuel → (∀ r2 f2, f2 < 320 → lb w r2 f2 = if r2 = r ∧ f2 / 64 < k then lb (S.2.2 1) r' f2 else lb (S.2.2 0) r2 f2) → ∃ w', zf_X6_copy_28 N z fuel (nI r) (nI r') 1 (nI k) (mq_sl S 0 w) = some ((), mq_sl S 0 w') ∧ ∀ r2 f2, f2 < 320 → lb w' r2 f2 = if r2 = r then lb (S.2.2 1) r' f2 else lb (S.2.2 0) r2 f2 := by
    intro fuel
    induction fuel with
    | zero => intro k w _ h; omega
    | succ fuel ih =>
      intro k w hk hf hw
      show ∃ w', zf_X6_copy_28b N z (fun v1 v3 v4 v5 S => zf_X6_copy_28 N z fuel v1 v3 v4 v5 S) (nI r) (nI r') 1 (nI k) (mq_sl S 0 w) = some ((), mq_sl S 0 w') ∧ _
      unfold zf_X6_copy_28b
      by_cases e : k = 5
      · subst e
        rw [if_pos (by decide)]
        refine ⟨w, rfl, fun r2 f2 hf2 => ?_⟩
        rw [hw r2 f2 hf2]
        by_cases q : r2 = r
        · rw [if_pos q, if_pos ⟨q, by omega⟩]
        · rw [if_neg q, if_neg (fun x => q x.1)]
      · have e5 : ¬ (5 : Int32) ≤ nI k := nI_ge (b := 5) (by omega) (by omega)
        have e2 : ∀ q : Nat, nI q * 5 + nI k = nI (5 * q + k) := fun q => by
          rw [show (5 : Int32) = nI 5 from rfl, pk_mul, nI_add]; congr 1; omega
        rw [if_neg e5, if_neg (by decide), e2, e2, hz, hz', mq_ck_of (vp_in_nI (by omega) (by omega)), mq_ck_of (vp_in_nI (by omega) (by omega)), nI_clamp (by omega), nI_clamp (by omega), nS_e, nI_1, nI_e]
        obtain ⟨w', a1, a2⟩ := ih (k + 1) (vp_updL w (5 * r + k) (S.2.2 1 (5 * r' + k))) (by omega) (by omega) (fun r2 f2 hf2 => by
          rw [lb_row (by omega) hf2]
          by_cases h : r2 = r ∧ f2 / 64 = k
          · rw [if_pos h, if_pos ⟨h.1, by omega⟩, lb_k, h.2]
          · rw [if_neg h, hw r2 f2 hf2]
            by_cases q : r2 = r ∧ f2 / 64 < k
            · rw [if_pos q, if_pos ⟨q.1, by omega⟩]
            · rw [if_neg q, if_neg (fun x => by
                have : ¬ f2 / 64 = k := fun y => h ⟨x.1, y⟩
                exact q ⟨x.1, by omega⟩)])
        exact ⟨w', by rw [← a1, sl_sl]; rfl, a2⟩
  obtain ⟨w', a1, a2⟩ := loop N 0 (S.2.2 0) (by omega) (by omega) (fun r2 f2 _ => by rw [if_neg (fun q => by omega)])
  refine ⟨w', ?_, a2⟩
  have e : mq_sl S 0 (S.2.2 0) = S := by
    unfold mq_sl
    refine Prod.ext rfl (Prod.ext rfl ?_)
    funext j
    show (if j = 0 then S.2.2 0 else S.2.2 j) = S.2.2 j
    by_cases q : j = 0
    · rw [if_pos q, q]
    · rw [if_neg q]
  rw [e] at a1
  unfold zf_X6_copy zf_X6_copy_23
  rw [show (0 : Int32) = nI 0 from rfl, se_pl (R := R) (z := fun k => [z 0].getD k 0) (S := mq_pull S [] [] [0]) hz hR hr (by omega), mq_cp_s, if_neg (by decide), se_pl (R := R') (z := fun k => [z 1].getD k 0) (S := mq_pull S [] [] [1]) hz' hR' hr' (by omega), mq_cp_s, if_neg (by decide), nI_e, nI_e]
  exact a1
theorem se_meet (hN : 10 ≤ N) (hz : z 0 = 5 * R) (hz' : z 1 = 5 * R') (hR : R < 10000) (hR' : R' < 10000) (hr : r < R) (hr' : r' < R') : ∃ w', zf_X6_meet N z (nI r) (nI r') S = some ((), mq_sl S 0 w') ∧ ∀ r2 f2, f2 < 320 → lb w' r2 f2 = if r2 = r then (lb (S.2.2 0) r f2 && lb (S.2.2 1) r' f2) else lb (S.2.2 0) r2 f2 := by
  have loop : ∀ (fuel k : Nat) (w : Nat → Int64), k ≤ 5 → 5 - k < fuel → (∀ i, 5 * r + k ≤ i → i < 5 * r + 5 → w i = S.2.2 0 i) → (∀ r2 f2, f2 < 320 → lb w r2 f2 = if r2 = r ∧ f2 / 64 < k then (lb (S.2.2 0) r f2 && lb (S.2.2 1) r' f2) else lb (S.2.2 0) r2 f2) → ∃ w', zf_X6_meet_28 N z fuel (nI r) (nI r') 1 (nI k) (mq_sl S 0 w) = some ((), mq_sl S 0 w') ∧ ∀ r2 f2, f2 < 320 → lb w' r2 f2 = if r2 = r then (lb (S.2.2 0) r f2 && lb (S.2.2 1) r' f2) else lb (S.2.2 0) r2 f2 := by
    intro fuel
    induction fuel with
    | zero => intro k w _ h; omega
    | succ fuel ih =>
      intro k w hk hf hs hw
      show ∃ w', zf_X6_meet_28b N z (fun v1 v3 v4 v5 S => zf_X6_meet_28 N z fuel v1 v3 v4 v5 S) (nI r) (nI r') 1 (nI k) (mq_sl S 0 w) = some ((), mq_sl S 0 w') ∧ _
      unfold zf_X6_meet_28b
      by_cases e : k = 5
      · subst e
        rw [if_pos (by decide)]
        refine ⟨w, rfl, fun r2 f2 hf2 => ?_⟩
        rw [hw r2 f2 hf2]
        by_cases q : r2 = r
        · rw [if_pos q, if_pos ⟨q, by omega⟩]
        · rw [if_neg q, if_neg (fun x => q x.1)]
      · have e5 : ¬ (5 : Int32) ≤ nI k := nI_ge (b := 5) (by omega) (by omega)
        have e2 : ∀ q : Nat, nI q * 5 + nI k = nI (5 * q + k) := fun q => by
          rw [show (5 : Int32) = nI 5 from rfl, pk_mul, nI_add]; congr 1; omega
        rw [if_neg e5, if_neg (by decide), e2, e2, hz, hz', mq_ck_of (vp_in_nI (by omega) (by omega)), mq_ck_of (vp_in_nI (by omega) (by omega)), mq_ck_of (vp_in_nI (by omega) (by omega)), nI_clamp (by omega), nI_clamp (by omega), nS_e, nI_1, nI_e]
        obtain ⟨w', a1, a2⟩ := ih (k + 1) (vp_updL w (5 * r + k) (w (5 * r + k) &&& S.2.2 1 (5 * r' + k))) (by omega) (by omega) (fun i h1 h2 => by rw [ul_o (by omega)]; exact hs i (by omega) h2) (fun r2 f2 hf2 => by
          rw [lb_row (by omega) hf2]
          by_cases h : r2 = r ∧ f2 / 64 = k
          · rw [if_pos h, if_pos ⟨h.1, by omega⟩, lb_k, lb_k, h.2, hs (5 * r + k) (Nat.le_refl _) (by omega), Int64.toBitVec_and, BitVec.getLsbD_and]
          · rw [if_neg h, hw r2 f2 hf2]
            by_cases q : r2 = r ∧ f2 / 64 < k
            · rw [if_pos q, if_pos ⟨q.1, by omega⟩]
            · rw [if_neg q, if_neg (fun x => by
                have : ¬ f2 / 64 = k := fun y => h ⟨x.1, y⟩
                exact q ⟨x.1, by omega⟩)])
        exact ⟨w', by rw [← a1, sl_sl]; rfl, a2⟩
  obtain ⟨w', a1, a2⟩ := loop N 0 (S.2.2 0) (by omega) (by omega) (fun _ _ _ => rfl) (fun r2 f2 _ => by rw [if_neg (fun q => by omega)])
  refine ⟨w', ?_, a2⟩
  have e : mq_sl S 0 (S.2.2 0) = S := by
    unfold mq_sl
    refine Prod.ext rfl (Prod.ext rfl ?_)
    funext j
    show (if j = 0 then S.2.2 0 else S.2.2 j) = S.2.2 j
    by_cases q : j = 0
    · rw [if_pos q, q]
    · rw [if_neg q]
  rw [e] at a1
  unfold zf_X6_meet zf_X6_meet_23
  rw [show (0 : Int32) = nI 0 from rfl, se_pl (R := R) (z := fun k => [z 0].getD k 0) (S := mq_pull S [] [] [0]) hz hR hr (by omega), mq_cp_s, if_neg (by decide), se_pl (R := R') (z := fun k => [z 1].getD k 0) (S := mq_pull S [] [] [1]) hz' hR' hr' (by omega), mq_cp_s, if_neg (by decide), nI_e, nI_e]
  exact a1
/-- two rows are the same just if their bits are -/
theorem se_same (hN : 10 ≤ N) (hz : z 0 = 5 * R) (hR : R < 10000) (hr : r < R) (hr' : r' < R) : ∃ v : Int32, zf_X6_isSame N z (nI r) (nI r') S = some v ∧ ((v = 1 ∧ ∀ f, f < 320 → lb (S.2.2 0) r f = lb (S.2.2 0) r' f) ∨ (v = 0 ∧ ¬ ∀ f, f < 320 → lb (S.2.2 0) r f = lb (S.2.2 0) r' f)) := by
  have loop : ∀ (fuel k : Nat), k ≤ 5 → 5 - k + 1 < fuel → (∀ f, f < 64 * k → lb (S.2.2 0) r f = lb (S.2.2 0) r' f) → ∃ v : Int32, zf_X6_isSame_27 N z S fuel (nI r) (nI r') 1 (nI k) = some v ∧ ((v = 1 ∧ ∀ f, f < 320 → lb (S.2.2 0) r f = lb (S.2.2 0) r' f) ∨ (v = 0 ∧ ¬ ∀ f, f < 320 → lb (S.2.2 0) r f = lb (S.2.2 0) r' f)) := by
    intro fuel
    induction fuel with
    | zero => intro k _ h; omega
    | succ fuel ih =>
      intro k hk hf hw
      show ∃ v, zf_X6_isSame_27b N z S (fun v1 v2 v3 v4 => zf_X6_isSame_27 N z S fuel v1 v2 v3 v4) (nI r) (nI r') 1 (nI k) = some v ∧ _
      unfold zf_X6_isSame_27b zf_X6_isSame_68
      by_cases e : k = 5
      · subst e
        rw [if_pos (by decide), mq_cz_1]
        exact ⟨1, rfl, Or.inl ⟨rfl, hw⟩⟩
      · have e5 : ¬ (5 : Int32) ≤ nI k := nI_ge (b := 5) (by omega) (by omega)
        have e2 : ∀ q : Nat, nI q * 5 + nI k = nI (5 * q + k) := fun q => by
          rw [show (5 : Int32) = nI 5 from rfl, pk_mul, nI_add]; congr 1; omega
        rw [if_neg e5, if_neg (by decide), e2, e2, hz, mq_ck_of (vp_in_nI (by omega) (by omega)), mq_ck_of (vp_in_nI (by omega) (by omega)), nI_clamp (by omega), nI_clamp (by omega), nI_e, nI_e, nI_e, nI_e, nI_1]
        by_cases q : S.2.2 0 (5 * r + k) = S.2.2 0 (5 * r' + k)
        · rw [if_pos ((lg_cmp_eq _ _).mpr q)]
          refine ih (k + 1) (by omega) (by omega) (fun f hf' => ?_)
          by_cases h : f < 64 * k
          · exact hw f h
          · rw [lb_k, lb_k, show f / 64 = k by omega, q]
        · rw [if_neg (fun x => q ((lg_cmp_eq _ _).mp x))]
          obtain ⟨fu, rfl⟩ : ∃ q, fuel = q + 1 := ⟨fuel - 1, by omega⟩
          have E : zf_X6_isSame_27 N z S (fu + 1) (nI r) (nI r') 0 (nI (k + 1)) = some 0 := by
            show zf_X6_isSame_27b N z S _ (nI r) (nI r') 0 (nI (k + 1)) = _
            unfold zf_X6_isSame_27b
            rw [mq_cz_0]
            by_cases x : (5 : Int32) ≤ nI (k + 1)
            · rw [if_pos x]
            · rw [if_neg x, if_pos rfl]
          refine ⟨0, E, Or.inr ⟨rfl, fun hall => q (l_ext (fun i hi => ?_))⟩⟩
          have := hall (64 * k + i) (by omega)
          rw [lb_k, lb_k, show (64 * k + i) / 64 = k by omega, show (64 * k + i) % 64 = i by omega] at this
          exact this
  obtain ⟨v, a1, a2⟩ := loop N 0 (by omega) (by omega) (fun f hf => by omega)
  refine ⟨v, ?_, a2⟩
  unfold zf_X6_isSame zf_X6_isSame_23
  rw [show (0 : Int32) = nI 0 from rfl, se_pl hz hR hr (by omega), mq_cp_s, if_neg (by decide), se_pl hz hR hr' (by omega), mq_cp_s, if_neg (by decide), nI_e, nI_e]
  exact a1
end SETS2
/-- the reference's sets -/
def ib (a : Nat → Int32) (r f : Nat) : Bool := bt (a (10 * r + f / 32)) (f % 32)
theorem st_num5 {f : Nat} (hf : f < 320) : (nI f >>> ((5 : Int32) &&& 31) = nI (f / 32)) ∧ (nI f &&& 31 = nI (f % 32)) := by
  constructor
  · have := pk_shrN (n := f) (by omega) ((5 : Int32) &&& 31) 5 (by decide)
    simpa using this
  · have := pk_andN (n := f) (by omega) (m := 31) 5 (by decide)
    simpa using this
theorem b_1 : ∀ i, i < 32 → bt 1 i = decide (i = 0) := by decide +kernel
theorem b_bit (x : Int32) {n : Nat} (hn : n < 32) : ((x >>> (nI n &&& 31)) &&& 1 = 0) ↔ bt x n = false := by
  constructor
  · intro h
    have := congrArg (fun q : Int32 => bt q 0) h
    simp only [b_and, b_sshr n hn x (show 0 < 32 by omega), b_1 0 (by omega), b_0] at this
    rw [if_pos (by omega), Nat.add_zero] at this
    simpa using this
  · intro h
    apply b_ext
    intro i hi
    rw [b_and, b_sshr n hn x hi, b_1 i hi, b_0]
    by_cases e : i = 0
    · subst e
      rw [if_pos (by omega), Nat.add_zero, h]; rfl
    · rw [decide_eq_false e, Bool.and_false]
section RSET
variable {N R : Nat} {z : Nat → Nat} {S : mq_St} {r f : Nat}
theorem ri_ix (hf : f < 320) : nI (10 * r) + nI f >>> ((5 : Int32) &&& 31) = nI (10 * r + f / 32) := by
  rw [(st_num5 hf).1, nI_add]
theorem ri_in (hz : z 0 = 10 * R) (hR : R < 10000) (hr : r < R) (hf : f < 320) : zf_X11_isIn N z (nI (10 * r)) (nI f) S = some (if ib (S.2.1 0) r f = true then 1 else 0) := by
  unfold zf_X11_isIn
  rw [ri_ix hf, hz, mq_ck_of (vp_in_nI (by omega) (by omega)), nI_clamp (by omega), (st_num5 hf).2]
  unfold ib
  have e31 : nI (f % 32) &&& 31 = nI (f % 32) &&& 31 := rfl
  cases h : bt (S.2.1 0 (10 * r + f / 32)) (f % 32) with
  | false =>
    rw [if_pos ((b_bit _ (by omega)).mpr h), mq_cz_0]
    rfl
  | true =>
    rw [if_neg (fun q => by rw [(b_bit _ (by omega)).mp q] at h; cases h), mq_cz_1]
    rfl
theorem ri_put (hz : z 0 = 10 * R) (hR : R < 10000) (hr : r < R) (hf : f < 320) : ∃ a', zf_X11_put N z (nI (10 * r)) (nI f) S = some ((), mq_sa S 0 a') ∧ ∀ r2 f2, f2 < 320 → ib a' r2 f2 = (ib (S.2.1 0) r2 f2 || decide (r2 = r ∧ f2 = f)) := by
  refine ⟨upd (S.2.1 0) (10 * r + f / 32) (S.2.1 0 (10 * r + f / 32) ||| ((1 : Int32) <<< (nI (f % 32) &&& 31))), ?_, fun r2 f2 hf2 => ?_⟩
  · unfold zf_X11_put
    rw [ri_ix hf, hz, mq_ck_of (vp_in_nI (by omega) (by omega)), mq_ck_of (vp_in_nI (by omega) (by omega)), nI_clamp (by omega), (st_num5 hf).2, nS_e]
  · unfold ib
    by_cases h : r2 = r ∧ f2 / 32 = f / 32
    · rw [h.1, h.2, up_s, b_or, b_shl (f % 32) (by omega) 1 (by omega), b_1 _ (by omega)]
      congr 1
      by_cases q : f2 = f
      · rw [q, decide_eq_true (Nat.le_refl _), Nat.sub_self, decide_eq_true rfl, decide_eq_true (by exact ⟨rfl, rfl⟩)]; rfl
      · rw [decide_eq_false (fun x : r = r ∧ f2 = f => q x.2)]
        by_cases q2 : f % 32 ≤ f2 % 32
        · rw [decide_eq_false (show ¬ f2 % 32 - f % 32 = 0 by omega), Bool.and_false]
        · rw [decide_eq_false q2, Bool.false_and]
    · rw [up_o (fun e => h (by omega)), decide_eq_false (fun q : r2 = r ∧ f2 = f => h ⟨q.1, by rw [q.2]⟩), Bool.or_false]
theorem ri_copy {R' r' : Nat} (hN : 20 ≤ N) (hz : z 0 = 10 * R) (hz' : z 1 = 10 * R') (hR : R < 10000) (hR' : R' < 10000) (hr : r < R) (hr' : r' < R') : ∃ a', zf_X11_copy N z (nI (10 * r)) (nI (10 * r')) S = some ((), mq_sa S 1 a') ∧ ∀ r2 f2, f2 < 320 → ib a' r2 f2 = if r2 = r' then ib (S.2.1 0) r f2 else ib (S.2.1 1) r2 f2 := by
  have loop : ∀ (fuel k : Nat) (a : Nat → Int32), k ≤ 10 → 10 - k < fuel → (∀ i, a i = if 10 * r' ≤ i ∧ i < 10 * r' + k then S.2.1 0 (10 * r + (i - 10 * r')) else S.2.1 1 i) → ∃ a', zf_X11_copy_3 N z fuel (nI (10 * r)) (nI (10 * r')) (nI k) (mq_sa S 1 a) = some ((), mq_sa S 1 a') ∧ ∀ i, a' i = if 10 * r' ≤ i ∧ i < 10 * r' + 10 then S.2.1 0 (10 * r + (i - 10 * r')) else S.2.1 1 i := by
    intro fuel
    induction fuel with
    | zero => intro k a _ h; omega
    | succ fuel ih =>
      intro k a hk hf ha
      show ∃ a', zf_X11_copy_3b N z (fun v1 v3 v4 S => zf_X11_copy_3 N z fuel v1 v3 v4 S) (nI (10 * r)) (nI (10 * r')) (nI k) (mq_sa S 1 a) = some ((), mq_sa S 1 a') ∧ _
      unfold zf_X11_copy_3b
      by_cases e : k = 10
      · subst e
        rw [if_pos (by decide)]
        exact ⟨a, rfl, ha⟩
      · have e5 : ¬ (10 : Int32) ≤ nI k := nI_ge (b := 10) (by omega) (by omega)
        rw [if_neg e5, nI_add, nI_add, hz, hz', mq_ck_of (vp_in_nI (by omega) (by omega)), mq_ck_of (vp_in_nI (by omega) (by omega)), nI_clamp (by omega), nI_clamp (by omega), nS_e, nI_1, nI_e]
        obtain ⟨a', a1, a2⟩ := ih (k + 1) (upd a (10 * r' + k) (S.2.1 0 (10 * r + k))) (by omega) (by omega) (fun i => by
          by_cases h : i = 10 * r' + k
          · rw [h, up_s, if_pos (show 10 * r' ≤ 10 * r' + k ∧ 10 * r' + k < 10 * r' + (k + 1) by omega), show 10 * r + (10 * r' + k - 10 * r') = 10 * r + k by omega]
          · rw [up_o h, ha i]
            by_cases q : 10 * r' ≤ i ∧ i < 10 * r' + k
            · rw [if_pos q, if_pos (show 10 * r' ≤ i ∧ i < 10 * r' + (k + 1) by omega)]
            · rw [if_neg q, if_neg (show ¬ (10 * r' ≤ i ∧ i < 10 * r' + (k + 1)) by omega)])
        exact ⟨a', by rw [← a1, sa_sa]; rfl, a2⟩
  obtain ⟨a', a1, a2⟩ := loop N 0 (S.2.1 1) (by omega) (by omega) (fun i => by rw [if_neg (show ¬ (10 * r' ≤ i ∧ i < 10 * r' + 0) by omega)])
  have e : mq_sa S 1 (S.2.1 1) = S := by
    unfold mq_sa
    refine Prod.ext rfl (Prod.ext ?_ rfl)
    funext j
    show (if j = 1 then S.2.1 1 else S.2.1 j) = S.2.1 j
    by_cases q : j = 1
    · rw [if_pos q, q]
    · rw [if_neg q]
  rw [e] at a1
  refine ⟨a', a1, fun r2 f2 hf2 => ?_⟩
  unfold ib
  rw [a2]
  by_cases q : r2 = r'
  · rw [if_pos (show 10 * r' ≤ 10 * r2 + f2 / 32 ∧ 10 * r2 + f2 / 32 < 10 * r' + 10 by omega), if_pos q, show 10 * r + (10 * r2 + f2 / 32 - 10 * r') = 10 * r + f2 / 32 by omega]
  · rw [if_neg (show ¬ (10 * r' ≤ 10 * r2 + f2 / 32 ∧ 10 * r2 + f2 / 32 < 10 * r' + 10) by omega), if_neg q]
end RSET
end
/-! 9j.least -/
section
/-! The tableau: what is done, what is least to do (the class). -/
def cxC (S : mq_St) (n : Nat) (so on tw : Nat → Int32) (d : Nat → Nat) : Prop := S.1 2 = nI n ∧ (∀ f, f < n → S.2.1 4 f = so f ∧ S.2.1 5 f = on f ∧ S.2.1 6 f = tw f ∧ S.2.1 7 f = nI (d f)) ∧ (∀ s f, s < 8 → f < 320 → lb (S.2.2 0) s f = decide (f < n ∧ so f = nI s)) ∧ fw n so on tw d
theorem cxC_c {S S' : mq_St} {n : Nat} {so on tw : Nat → Int32} {d : Nat → Nat} (h : cxC S n so on tw d) (e2 : S'.1 2 = S.1 2) (e4 : S'.2.1 4 = S.2.1 4) (e5 : S'.2.1 5 = S.2.1 5) (e6 : S'.2.1 6 = S.2.1 6) (e7 : S'.2.1 7 = S.2.1 7) (e0 : S'.2.2 0 = S.2.2 0) : cxC S' n so on tw d := by
  unfold cxC
  rw [e2, e4, e5, e6, e7, e0]
  exact h
def p1 (on : Nat → Int32) (f : Nat) : Nat := (on f).toNatClampNeg
/-- nothing is left to do at f, which is of sort s -/
def dn (on tw : Nat → Int32) (s : Nat) (X : Nat → Bool) (f : Nat) : Prop := if s = 4 then X (p1 on f) = true ∧ X (p1 tw f) = true else if s = 5 then X (p1 on f) = true ∨ X (p1 tw f) = true else X (p1 on f) = true
/-- the parts of a FORMULA -/
theorem fw_1 {n f : Nat} {so on tw : Nat → Int32} {d : Nat → Nat} (h : fw n so on tw d) (hf : f < n) {s : Nat} (hs : so f = nI s) (h4 : 4 ≤ s) (h7 : s ≤ 7) : p1 on f < f ∧ on f = nI (p1 on f) ∧ (s ≤ 5 → p1 tw f < f ∧ tw f = nI (p1 tw f)) ∧ (6 ≤ s → tw f = -1) := by
  have h3 := h.2.1
  have nos : ∀ k : Nat, k < 8 → so f = nI k → s = k := fun k hk e => sp_inj (hs.symm.trans e) (by omega) (by omega)
  unfold p1
  rcases h.2.2.2.2 f hf with ⟨-, e, -⟩ | ⟨-, e, -⟩ | ⟨e, -⟩ | ⟨e, a, b, ha, hb, w1, w2, -⟩ | ⟨e, w2, -, a, ha, w1, -⟩
  · have := nos 0 (by omega) e; omega
  · have := nos 1 (by omega) e; omega
  · rcases e with ⟨e, -⟩ | ⟨e, -⟩
    · have := nos 2 (by omega) e; omega
    · have := nos 3 (by omega) e; omega
  · have hs5 : s ≤ 5 := by
      rcases e with ⟨e, -⟩ | ⟨e, -⟩
      · have := nos 4 (by omega) e; omega
      · have := nos 5 (by omega) e; omega
    rw [w1, w2, nI_clamp (by omega), nI_clamp (by omega)]
    exact ⟨ha, rfl, fun _ => ⟨hb, rfl⟩, fun q => by omega⟩
  · have hs6 : 6 ≤ s := by
      rcases e with ⟨e, -⟩ | ⟨e, -⟩
      · have := nos 6 (by omega) e; omega
      · have := nos 7 (by omega) e; omega
    rw [w1, nI_clamp (by omega)]
    exact ⟨ha, rfl, fun q => by omega, fun _ => w2⟩
section LEAST
variable {N n : Nat} {z : Nat → Nat} {S : mq_St} {so on tw : Nat → Int32} {d : Nat → Nat} {w : Nat}
theorem ck_set {f : Nat} (hw : w < 60) (h16 : S.1 16 = nI w) (hf : f < 320) : zf_X6_has N (fun k => [300].getD k 0) (S.1 16) (nI f) (mq_pull S [] [] [3]) = some (if lb (S.2.2 3) w f = true then 1 else 0) := by
  rw [h16]
  exact se_has (R := 60) (z := fun k => [300].getD k 0) (S := mq_pull S [] [] [3]) rfl (by omega) hw hf
theorem ck_done {s f : Nat} (hc : cxC S n so on tw d) (hw : w < 60) (h16 : S.1 16 = nI w) (hf : f < n) (hs : so f = nI s) (h4 : 4 ≤ s) (h7 : s ≤ 7) : ∃ v : Int32, zf_X8_isDone N z (nI s) (nI f) S = some v ∧ ((v = 1 ∧ dn on tw s (lb (S.2.2 3) w) f) ∨ (v = 0 ∧ ¬ dn on tw s (lb (S.2.2 3) w) f)) := by
  obtain ⟨h2, hr, -, hfw⟩ := hc
  have h3 := hfw.2.1
  obtain ⟨q1, q2, q3, q4⟩ := fw_1 hfw hf hs h4 h7
  obtain ⟨-, i1, i2, -⟩ := ck_in (N := N) (z := z) h2 h3 hf
  rw [(hr f hf).2.1, q2] at i1
  rw [(hr f hf).2.2.1] at i2
  have e4 : (nI s = (4 : Int32)) ↔ s = 4 := nI_eq (b := 4) (by omega) (by omega)
  have e5 : (nI s = (5 : Int32)) ↔ s = 5 := nI_eq (b := 5) (by omega) (by omega)
  have H1 := ck_set (N := N) (f := p1 on f) hw h16 (by omega)
  unfold zf_X8_isDone zf_X8_isDone_88 dn
  rw [i1, mq_cp_s, H1, mq_cp_s, nI_e, mq_cz_0, mq_cz_1]
  have d10 : ¬ (1 : Int32) = 0 := by decide
  by_cases s4 : s = 4
  · have i2' := i2
    rw [(q3 (by omega)).2] at i2'
    have H2 := ck_set (N := N) (f := p1 tw f) hw h16 (by have := (q3 (by omega)).1; omega)
    rw [if_pos (e4.mpr s4), if_pos s4, i2', mq_cp_s, H2, mq_cp_s]
    cases a : lb (S.2.2 3) w (p1 on f) with
    | false => exact ⟨0, rfl, Or.inr ⟨rfl, fun q => by cases q.1⟩⟩
    | true =>
      cases b : lb (S.2.2 3) w (p1 tw f) with
      | false => exact ⟨0, rfl, Or.inr ⟨rfl, fun q => by cases q.2⟩⟩
      | true => exact ⟨1, rfl, Or.inl ⟨rfl, rfl, rfl⟩⟩
  · rw [if_neg (fun e => s4 (e4.mp e)), if_neg s4]
    by_cases s5 : s = 5
    · have i2' := i2
      rw [(q3 (by omega)).2] at i2'
      have H2 := ck_set (N := N) (f := p1 tw f) hw h16 (by have := (q3 (by omega)).1; omega)
      rw [if_pos (e5.mpr s5), if_pos s5, i2', mq_cp_s, H2, mq_cp_s]
      cases a : lb (S.2.2 3) w (p1 on f) with
      | false =>
        cases b : lb (S.2.2 3) w (p1 tw f) with
        | false => exact ⟨0, rfl, Or.inr ⟨rfl, fun q => by rcases q with q | q <;> cases q⟩⟩
        | true => exact ⟨1, rfl, Or.inl ⟨rfl, Or.inr rfl⟩⟩
      | true => exact ⟨1, rfl, Or.inl ⟨rfl, Or.inl rfl⟩⟩
    · rw [if_neg (fun e => s5 (e5.mp e)), if_neg s5]
      cases a : lb (S.2.2 3) w (p1 on f) with
      | false => exact ⟨0, rfl, Or.inr ⟨rfl, fun q => by cases q⟩⟩
      | true => exact ⟨1, rfl, Or.inl ⟨rfl, rfl⟩⟩
/-- what leastToDo leaves of what is left -/
def lfk (on tw so : Nat → Int32) (n s w : Nat) (X : Nat → Bool) (l l' : Nat → Int64) : Prop := (∀ r f, r ≠ w → f < 320 → lb l' r f = lb l r f) ∧ (∀ f, f < 320 → lb l' w f = true → lb l w f = true) ∧ ∀ f, f < 320 → lb l w f = true → lb l' w f = false → f < n ∧ so f = nI s ∧ dn on tw s X f
theorem lfk_rf {s : Nat} {X : Nat → Bool} {l : Nat → Int64} : lfk on tw so n s w X l l := ⟨fun _ _ _ _ => rfl, fun _ _ h => h, fun f _ h h' => by rw [h] at h'; cases h'⟩
theorem lst_in {s k : Nat} {l : Nat → Int64} {k10 : Int32 → Int32 → mq_St → Option (Int32 × mq_St)} (hc : cxC S n so on tw d) (hw : w < 60) (h16 : S.1 16 = nI w) (h4 : 4 ≤ s) (h7 : s ≤ 7) (hk : k < 5) :
    ∀ (fuel : Nat) (b : Int64) (l1 : Nat → Int64), cb (nt b) 64 < fuel → lfk on tw so n s w (lb (S.2.2 3) w) l l1 → (∀ i, i < 64 → b.toBitVec.getLsbD i = (lb l1 w (64 * k + i) && decide (64 * k + i < n ∧ so (64 * k + i) = nI s))) → (∀ g, g < 64 * k → g < n → so g = nI s → lb l w g = true → dn on tw s (lb (S.2.2 3) w) g) → (∀ i, i < 64 → b.toBitVec.getLsbD i = false → 64 * k + i < n → so (64 * k + i) = nI s → lb l w (64 * k + i) = true → dn on tw s (lb (S.2.2 3) w) (64 * k + i)) →
      ∃ l2, lfk on tw so n s w (lb (S.2.2 3) w) l l2 ∧ (∀ f, 64 * (k + 1) ≤ f → f < 320 → lb l2 w f = lb l1 w f) ∧ ((∃ f, f < n ∧ so f = nI s ∧ lb l2 w f = true ∧ ¬ dn on tw s (lb (S.2.2 3) w) f ∧ (∀ g, g < f → so g = nI s → lb l w g = true → dn on tw s (lb (S.2.2 3) w) g) ∧ zf_X8_leastToDo_52 N z k10 fuel (nI s) (nI k) b (nI (cb (nt b) 64)) (mq_sl S 4 l1) = some (nI f, mq_sl S 4 l2)) ∨ ((∀ g, g < 64 * (k + 1) → g < n → so g = nI s → lb l w g = true → dn on tw s (lb (S.2.2 3) w) g) ∧ zf_X8_leastToDo_52 N z k10 fuel (nI s) (nI k) b (nI (cb (nt b) 64)) (mq_sl S 4 l1) = k10 (nI s) (nI (k + 1)) (mq_sl S 4 l2))) := by
  have h3 := hc.2.2.2.2.1
  intro fuel
  induction fuel with
  | zero => intro b l1 h; omega
  | succ fuel ih =>
    intro b l1 hf hl hb hg hcl
    have hsh : zf_X8_leastToDo_52 N z k10 (fuel + 1) (nI s) (nI k) b (nI (cb (nt b) 64)) (mq_sl S 4 l1) = zf_X8_leastToDo_52b N z k10 (fun v1 v3 v4 v6 S => zf_X8_leastToDo_52 N z k10 fuel v1 v3 v4 v6 S) (nI s) (nI k) b (nI (cb (nt b) 64)) (mq_sl S 4 l1) := rfl
    rw [hsh]
    unfold zf_X8_leastToDo_52b
    have hcb := cb_le (nt b) 64
    by_cases e : cb (nt b) 64 = 0
    · rw [e, if_pos (by decide), nI_1, nI_e]
      refine ⟨l1, hl, fun _ _ _ => rfl, Or.inr ⟨fun g hg1 hg2 hg3 hg4 => ?_, rfl⟩⟩
      by_cases q : g < 64 * k
      · exact hg g q hg2 hg3 hg4
      · have hz := (cb_zero 64).mp e (g - 64 * k) (by omega)
        have := hcl (g - 64 * k) (by omega) hz (by omega) (by rw [show 64 * k + (g - 64 * k) = g by omega]; exact hg3) (by rw [show 64 * k + (g - 64 * k) = g by omega]; exact hg4)
        rw [show 64 * k + (g - 64 * k) = g by omega] at this
        exact this
    · obtain ⟨j, hj, hbj, hlow⟩ := least_bit (show 0 < cb (nt b) 64 by omega)
      have hbj' : b.toBitVec.getLsbD j = true := hbj
      have hlow' : ∀ i, i < j → b.toBitVec.getLsbD i = false := hlow
      obtain ⟨lb1, lb2⟩ := low_bit hj hbj' hlow'
      have hf1 : lb l1 w (64 * k + j) = true ∧ 64 * k + j < n ∧ so (64 * k + j) = nI s := by
        have := hb j hj
        rw [hbj'] at this
        have := this.symm
        rw [Bool.and_eq_true, decide_eq_true_eq] at this
        exact ⟨this.1, this.2.1, this.2.2⟩
      have e64 : (64 : Int32) * nI k + nI j = nI (64 * k + j) := by rw [show (64 : Int32) * nI k = nI (64 * k) from pk_mul 64 k, nI_add]
      rw [if_neg (nI_nle (by omega) (by omega)), bc_is, mq_cp_s, lb1, low_cnt (N := N) (z := z) (S := S) j hj, e64, nI_e]
      obtain ⟨v, a1, a2⟩ := ck_done (N := N) (z := z) (S := mq_sl S 4 l1) (w := w) (s := s) (f := 64 * k + j) (cxC_c hc rfl rfl rfl rfl rfl rfl) hw h16 hf1.2.1 hf1.2.2 h4 h7
      rw [a1, mq_cp_s]
      rcases a2 with ⟨rfl, hdn⟩ | ⟨rfl, hdn⟩
      · rw [if_neg (by decide)]
        obtain ⟨l2, p1', p2⟩ := se_drop (N := N) (R := 60) (z := fun k => [300].getD k 0) (S := mq_pull (mq_sl S 4 l1) [] [] [4]) (r := w) (f := 64 * k + j) rfl (by omega) hw (by omega)
        have p1'' : zf_X6_drop N (fun k => [300].getD k 0) ((mq_sl S 4 l1).1 16) (nI (64 * k + j)) (mq_pull (mq_sl S 4 l1) [] [] [4]) = some ((), mq_sl (mq_pull (mq_sl S 4 l1) [] [] [4]) 0 l2) := by
          rw [show (mq_sl S 4 l1).1 16 = nI w from h16]
          exact p1'
        have p2 : ∀ r' f', f' < 320 → lb l2 r' f' = (lb l1 r' f' && !decide (r' = w ∧ f' = 64 * k + j)) := p2
        have ep : mq_push (mq_sl S 4 l1) (mq_sl (mq_pull (mq_sl S 4 l1) [] [] [4]) 0 l2) [] [] [4] = mq_sl S 4 l2 := by
          refine Prod.ext rfl (Prod.ext rfl ?_)
          funext q
          show (match [4].idxOf? q with | some k => _ | none => _) = if q = 4 then l2 else S.2.2 q
          by_cases q4 : q = 4
          · subst q4; rfl
          · rw [if_neg q4, List.idxOf?_eq_none_iff.mpr (by simpa using q4)]
            show (if q = 4 then l1 else S.2.2 q) = _
            rw [if_neg q4]
        have hb2 := lb2
        have hcnt : cb (nt (b &&& (b - 1))) 64 + 1 = cb (nt b) 64 := cb_less hbj 64 hj (fun i hi => hb2 i hi)
        rw [p1'', mq_cl_s, nS_e, ep, nL_e, show nI (cb (nt b) 64) + (-1) = nI (cb (nt (b &&& (b - 1))) 64) from by rw [← hcnt, pk_m1], nI_e]
        have hA : lfk on tw so n s w (lb (S.2.2 3) w) l l2 := by
          refine ⟨fun r f hr hf' => ?_, fun f hf' h' => ?_, fun f hf' h1 h2 => ?_⟩
          · rw [p2 r f hf', decide_eq_false (fun q => hr q.1), Bool.not_false, Bool.and_true]
            exact hl.1 r f hr hf'
          · rw [p2 w f hf', Bool.and_eq_true] at h'
            exact hl.2.1 f hf' h'.1
          · rw [p2 w f hf'] at h2
            by_cases q : f = 64 * k + j
            · rw [q]
              exact ⟨hf1.2.1, hf1.2.2, hdn⟩
            · rw [decide_eq_false (fun x => q x.2), Bool.not_false, Bool.and_true] at h2
              exact hl.2.2 f hf' h1 h2
        obtain ⟨l3, i1, i2, i3⟩ := ih (b &&& (b - 1)) l2 (by omega) hA (fun i hi => by
          rw [hb2 i hi, hb i hi, p2 w (64 * k + i) (by omega)]
          by_cases q : i = j
          · rw [q]
            simp
          · rw [decide_eq_true q, Bool.and_true, decide_eq_false (fun x : w = w ∧ 64 * k + i = 64 * k + j => q (by omega)), Bool.not_false, Bool.and_true]) hg (fun i hi h1 h2 h3' h4' => by
          rw [hb2 i hi] at h1
          by_cases q : i = j
          · rw [q]; exact hdn
          · rw [decide_eq_true q, Bool.and_true] at h1
            exact hcl i hi h1 h2 h3' h4')
        refine ⟨l3, i1, fun f h1 h2 => ?_, i3⟩
        rw [i2 f h1 h2, p2 w f h2, decide_eq_false (fun x : w = w ∧ f = 64 * k + j => by omega), Bool.not_false, Bool.and_true]
      · rw [if_pos rfl]
        refine ⟨l1, hl, fun _ _ _ => rfl, Or.inl ⟨64 * k + j, hf1.2.1, hf1.2.2, hf1.1, hdn, fun g hg1 hg3 hg4 => ?_, rfl⟩⟩
        by_cases q : g < 64 * k
        · exact hg g q (by omega) hg3 hg4
        · have := hcl (g - 64 * k) (by omega) (hlow' _ (by omega)) (by omega) (by rw [show 64 * k + (g - 64 * k) = g by omega]; exact hg3) (by rw [show 64 * k + (g - 64 * k) = g by omega]; exact hg4)
          rw [show 64 * k + (g - 64 * k) = g by omega] at this
          exact this
theorem ck_least {s : Nat} (hN : 100 ≤ N) (hc : cxC S n so on tw d) (hw : w < 60) (h16 : S.1 16 = nI w) (h4 : 4 ≤ s) (h7 : s ≤ 7) :
    ∃ l2, lfk on tw so n s w (lb (S.2.2 3) w) (S.2.2 4) l2 ∧ ((∃ f, f < n ∧ so f = nI s ∧ lb l2 w f = true ∧ ¬ dn on tw s (lb (S.2.2 3) w) f ∧ (∀ g, g < f → so g = nI s → lb (S.2.2 4) w g = true → dn on tw s (lb (S.2.2 3) w) g) ∧ zf_X8_leastToDo N z (nI s) S = some (nI f, mq_sl S 4 l2)) ∨ ((∀ g, g < n → so g = nI s → lb (S.2.2 4) w g = true → dn on tw s (lb (S.2.2 3) w) g) ∧ zf_X8_leastToDo N z (nI s) S = some (-1, mq_sl S 4 l2))) := by
  have h3 := hc.2.2.2.2.1
  have hsl : mq_sl S 4 (S.2.2 4) = S := by
    unfold mq_sl
    refine Prod.ext rfl (Prod.ext rfl ?_)
    funext j
    show (if j = 4 then S.2.2 4 else S.2.2 j) = S.2.2 j
    by_cases q : j = 4
    · rw [if_pos q, q]
    · rw [if_neg q]
  have loop : ∀ (fuel k : Nat) (l1 : Nat → Int64), k ≤ 5 → 5 - k < fuel → lfk on tw so n s w (lb (S.2.2 3) w) (S.2.2 4) l1 → (∀ f, 64 * k ≤ f → f < 320 → lb l1 w f = lb (S.2.2 4) w f) → (∀ g, g < 64 * k → g < n → so g = nI s → lb (S.2.2 4) w g = true → dn on tw s (lb (S.2.2 3) w) g) →
      ∃ l2, lfk on tw so n s w (lb (S.2.2 3) w) (S.2.2 4) l2 ∧ ((∃ f, f < n ∧ so f = nI s ∧ lb l2 w f = true ∧ ¬ dn on tw s (lb (S.2.2 3) w) f ∧ (∀ g, g < f → so g = nI s → lb (S.2.2 4) w g = true → dn on tw s (lb (S.2.2 3) w) g) ∧ zf_X8_leastToDo_10 N z fuel (nI s) (nI k) (mq_sl S 4 l1) = some (nI f, mq_sl S 4 l2)) ∨ ((∀ g, g < n → so g = nI s → lb (S.2.2 4) w g = true → dn on tw s (lb (S.2.2 3) w) g) ∧ zf_X8_leastToDo_10 N z fuel (nI s) (nI k) (mq_sl S 4 l1) = some (-1, mq_sl S 4 l2))) := by
    intro fuel
    induction fuel with
    | zero => intro k l1 _ h; omega
    | succ fuel ih =>
      intro k l1 hk hf hl hsame hg
      have hsh : zf_X8_leastToDo_10 N z (fuel + 1) (nI s) (nI k) (mq_sl S 4 l1) = zf_X8_leastToDo_10b N z (fun v1 v3 S => zf_X8_leastToDo_10 N z fuel v1 v3 S) (nI s) (nI k) (mq_sl S 4 l1) := rfl
      rw [hsh]
      unfold zf_X8_leastToDo_10b
      have e64 : (64 : Int32) * nI k = nI (64 * k) := pk_mul 64 k
      rw [show zf_X7_size N z (mq_sl S 4 l1) = some (S.1 2) from rfl, mq_cp_s, hc.1, e64]
      by_cases e : n ≤ 64 * k
      · rw [if_pos (nI_le e (by omega))]
        exact ⟨l1, hl, Or.inr ⟨fun g h1 h2 h3 => hg g (by omega) h1 h2 h3, rfl⟩⟩
      · have b1 := se_bits (N := N) (R := 60) (z := fun k => [300].getD k 0) (S := mq_pull (mq_sl S 4 l1) [] [] [4]) (r := w) (k := k) rfl (by omega) hw (by omega)
        have b2 := se_bits (N := N) (R := 8) (z := fun k => [40].getD k 0) (S := mq_pull (mq_sl S 4 l1) [] [] [0]) (r := s) (k := k) rfl (by omega) (by omega) (by omega)
        have b1' : zf_X6_bits N (fun k => [300].getD k 0) ((mq_sl S 4 l1).1 16) (nI k) (mq_pull (mq_sl S 4 l1) [] [] [4]) = some (l1 (5 * w + k)) := by
          rw [show (mq_sl S 4 l1).1 16 = nI w from h16]
          exact b1
        have b2' : zf_X6_bits N (fun k => [40].getD k 0) (nI s) (nI k) (mq_pull (mq_sl S 4 l1) [] [] [0]) = some (S.2.2 0 (5 * s + k)) := b2
        rw [if_neg (nI_ge (by omega) (by omega)), b1', mq_cp_s, b2', mq_cp_s, nL_e, bc_is, mq_cp_s, nI_e]
        have hbit : ∀ i, i < 64 → (l1 (5 * w + k) &&& S.2.2 0 (5 * s + k)).toBitVec.getLsbD i = (lb l1 w (64 * k + i) && decide (64 * k + i < n ∧ so (64 * k + i) = nI s)) := by
          intro i hi
          rw [Int64.toBitVec_and, BitVec.getLsbD_and, ← hc.2.2.1 s (64 * k + i) (by omega) (by omega), lb_k, lb_k, show (64 * k + i) / 64 = k by omega, show (64 * k + i) % 64 = i by omega]
        obtain ⟨l2, c1, c0, c2⟩ := lst_in (N := N) (z := z) (k := k) (l := S.2.2 4) (k10 := fun v1 v3 S => zf_X8_leastToDo_10 N z fuel v1 v3 S) hc hw h16 h4 h7 (by omega) N (l1 (5 * w + k) &&& S.2.2 0 (5 * s + k)) l1 (by have := cb_le (nt (l1 (5 * w + k) &&& S.2.2 0 (5 * s + k))) 64; omega) hl hbit hg (fun i hi h1 h2 h3' h4' => by
          rw [hbit i hi, hsame (64 * k + i) (by omega) (by omega), h4', decide_eq_true (by exact ⟨h2, h3'⟩)] at h1
          cases h1)
        rcases c2 with ⟨f, f1, f2, f3, f4, f5, f6⟩ | ⟨g1, g2⟩
        · exact ⟨l2, c1, Or.inl ⟨f, f1, f2, f3, f4, f5, f6⟩⟩
        · rw [g2]
          exact ih (k + 1) l2 (by omega) (by omega) c1 (fun f h1 h2 => by rw [c0 f h1 h2]; exact hsame f (by omega) h2) g1
  obtain ⟨l2, a1, a2⟩ := loop N 0 (S.2.2 4) (by omega) (by omega) lfk_rf (fun _ _ _ => rfl) (fun g hg => by omega)
  rw [hsl] at a2
  exact ⟨l2, a1, a2⟩
end LEAST
end
/-! 9k.clash -/
section
/-! The tableau: clashes, what comes to a SET, steps and lines. -/
def cls (so : Nat → Int32) (d : Nat → Nat) (X : Nat → Bool) (c : Nat) : Prop := (so c = 1 ∧ X c = true) ∨ (so c = 2 ∧ X c = true ∧ X (d c) = true)
def clV (n : Nat) (so : Nat → Int32) (d : Nat → Nat) (X : Nat → Bool) (v : Int32) : Prop := (v = -1 ∧ ∀ c, c < n → ¬ cls so d X c) ∨ ∃ c, c < n ∧ v = nI c ∧ cls so d X c ∧ ∀ c', c' < c → ¬ cls so d X c'
theorem clV_same {n : Nat} {so : Nat → Int32} {d : Nat → Nat} {X X' : Nat → Bool} {v : Int32} (h : clV n so d X v) (e : ∀ c, c < n → (cls so d X' c ↔ cls so d X c)) : clV n so d X' v := by
  rcases h with ⟨a, b⟩ | ⟨c, c1, c2, c3, c4⟩
  · exact Or.inl ⟨a, fun c hc q => b c hc ((e c hc).mp q)⟩
  · exact Or.inr ⟨c, c1, c2, (e c c1).mpr c3, fun c' h' q => c4 c' h' ((e c' (by omega)).mp q)⟩
theorem clV_hit {n h : Nat} {so : Nat → Int32} {d : Nat → Nat} {X X' : Nat → Bool} {v : Int32} (hn : n ≤ 300) (hh : h < n) (hv : clV n so d X v) (e : ∀ c, c < n → (cls so d X' c ↔ cls so d X c ∨ c = h)) : (v = -1 → clV n so d X' (nI h)) ∧ (¬ v = -1 → clV n so d X' (mq_min v (nI h))) := by
  rcases hv with ⟨a, b⟩ | ⟨c, c1, c2, c3, c4⟩
  · refine ⟨fun _ => Or.inr ⟨h, hh, rfl, (e h hh).mpr (Or.inr rfl), fun c' h' q => ?_⟩, fun q => absurd a q⟩
    rcases (e c' (by omega)).mp q with q | q
    · exact b c' (by omega) q
    · omega
  · refine ⟨fun q => by rw [c2] at q; exact absurd q (nI_nm1 (by omega)), fun _ => ?_⟩
    rw [c2]
    unfold mq_min
    by_cases q : h < c
    · rw [if_pos (nI_lt q (by omega))]
      refine Or.inr ⟨h, hh, rfl, (e h hh).mpr (Or.inr rfl), fun c' h' x => ?_⟩
      rcases (e c' (by omega)).mp x with x | x
      · exact c4 c' (by omega) x
      · omega
    · rw [if_neg (nI_nlt (by omega) (by omega))]
      refine Or.inr ⟨c, c1, rfl, (e c c1).mpr (Or.inl c3), fun c' h' x => ?_⟩
      rcases (e c' (by omega)).mp x with x | x
      · exact c4 c' h' x
      · omega
/-- letters and their opposites -/
theorem fw_let {n f : Nat} {so on tw : Nat → Int32} {d : Nat → Nat} (h : fw n so on tw d) (hf : f < n) : (so f = 2 → d f < n ∧ so (d f) = 3 ∧ on (d f) = on f ∧ d (d f) = f) ∧ (so f = 3 → d f < n ∧ so (d f) = 2 ∧ on (d f) = on f ∧ d (d f) = f) ∧ (so f = 1 → f = 1) := by
  have hd := h.2.2.2.1
  have key : ∀ g, g < n → (so g = 2 ∨ so g = 3) → ((so g = 2 ∧ so (d g) = 3) ∨ (so g = 3 ∧ so (d g) = 2)) ∧ on (d g) = on g ∧ tw (d g) = -1 ∧ tw g = -1 := by
    intro g hg q
    rcases h.2.2.2.2 g hg with ⟨-, e, -⟩ | ⟨-, e, -⟩ | ⟨e, e1, e2, e3, -⟩ | ⟨e, -⟩ | ⟨e, -⟩
    · rw [e] at q; rcases q with q | q <;> exact absurd q (by decide)
    · rw [e] at q; rcases q with q | q <;> exact absurd q (by decide)
    · exact ⟨e, e1, e2, e3⟩
    · rcases e with ⟨e, -⟩ | ⟨e, -⟩ <;> (rw [e] at q; rcases q with q | q <;> exact absurd q (by decide))
    · rcases e with ⟨e, -⟩ | ⟨e, -⟩ <;> (rw [e] at q; rcases q with q | q <;> exact absurd q (by decide))
  have both : ∀ g, g < n → (so g = 2 ∨ so g = 3) → d (d g) = g := by
    intro g hg q
    obtain ⟨a1, a2, a3, a4⟩ := key g hg q
    have hdg := hd g hg
    obtain ⟨b1, b2, b3, b4⟩ := key (d g) hdg (a1.elim (fun x => Or.inr x.2) (fun x => Or.inl x.2))
    refine h.2.2.1 (d (d g)) g (hd _ hdg) hg ?_ (b2.trans a2) (b3.trans a4.symm)
    rcases a1 with ⟨x1, x2⟩ | ⟨x1, x2⟩
    · rcases b1 with ⟨y1, y2⟩ | ⟨y1, y2⟩
      · rw [x2] at y1; exact absurd y1 (by decide)
      · rw [y2, x1]
    · rcases b1 with ⟨y1, y2⟩ | ⟨y1, y2⟩
      · rw [y2, x1]
      · rw [x2] at y1; exact absurd y1 (by decide)
  refine ⟨fun q => ?_, fun q => ?_, fun q => ?_⟩
  · obtain ⟨a1, a2, -, -⟩ := key f hf (Or.inl q)
    refine ⟨hd f hf, ?_, a2, both f hf (Or.inl q)⟩
    rcases a1 with ⟨-, x⟩ | ⟨x, -⟩
    · exact x
    · rw [x] at q; exact absurd q (by decide)
  · obtain ⟨a1, a2, -, -⟩ := key f hf (Or.inr q)
    refine ⟨hd f hf, ?_, a2, both f hf (Or.inr q)⟩
    rcases a1 with ⟨x, -⟩ | ⟨-, x⟩
    · rw [x] at q; exact absurd q (by decide)
    · exact x
  · rcases h.2.2.2.2 f hf with ⟨-, e, -⟩ | ⟨e, -⟩ | ⟨e, -⟩ | ⟨e, -⟩ | ⟨e, -⟩
    · rw [e] at q; exact absurd q (by decide)
    · exact e
    · rcases e with ⟨e, -⟩ | ⟨e, -⟩ <;> (rw [e] at q; exact absurd q (by decide))
    · rcases e with ⟨e, -⟩ | ⟨e, -⟩ <;> (rw [e] at q; exact absurd q (by decide))
    · rcases e with ⟨e, -⟩ | ⟨e, -⟩ <;> (rw [e] at q; exact absurd q (by decide))
/-- one more in a row -/
def ad1 (w f : Nat) (l l' : Nat → Int64) : Prop := ∀ r g, g < 320 → lb l' r g = (lb l r g || decide (r = w ∧ g = f))
theorem push1 {S : mq_St} {k : Nat} {l : Nat → Int64} : mq_push S (mq_sl (mq_pull S [] [] [k]) 0 l) [] [] [k] = mq_sl S k l := by
  refine Prod.ext rfl (Prod.ext rfl ?_)
  funext q
  show (match [k].idxOf? q with | some j => (mq_sl (mq_pull S [] [] [k]) 0 l).2.2 j | none => S.2.2 q) = if q = k then l else S.2.2 q
  by_cases e : q = k
  · subst e
    have : [q].idxOf? q = some 0 := by simp [List.idxOf?, List.findIdx?_cons]
    rw [this, if_pos rfl]
    rfl
  · rw [if_neg e, List.idxOf?_eq_none_iff.mpr (by simpa using e)]
section ADD
variable {N n : Nat} {z : Nat → Nat} {S : mq_St} {so on tw : Nat → Int32} {d : Nat → Nat} {w : Nat}
theorem ck_add {f : Nat} (hc : cxC S n so on tw d) (hw : w < 60) (h16 : S.1 16 = nI w) (hf : f < n) (hcl : clV n so d (lb (S.2.2 3) w) (S.1 17)) :
    ∃ S' l3 l4, zf_X8_add N z (nI f) S = some ((), S') ∧ S'.2.2 3 = l3 ∧ S'.2.2 4 = l4 ∧ ad1 w f (S.2.2 3) l3 ∧ ad1 w f (S.2.2 4) l4 ∧ clV n so d (lb l3 w) (S'.1 17) ∧ ag [17] [] [3, 4] S S' := by
  have h3 := hc.2.2.2.2.1
  obtain ⟨l3, a1, a2⟩ := se_put (N := N) (R := 60) (z := fun k => [300].getD k 0) (S := mq_pull S [] [] [3]) (r := w) (f := f) rfl (by omega) hw (by omega)
  obtain ⟨l4, b1, b2⟩ := se_put (N := N) (R := 60) (z := fun k => [300].getD k 0) (S := mq_pull (mq_sl S 3 l3) [] [] [4]) (r := w) (f := f) rfl (by omega) hw (by omega)
  have a2 : ad1 w f (S.2.2 3) l3 := a2
  have b2 : ad1 w f (S.2.2 4) l4 := b2
  let S2 : mq_St := mq_sl (mq_sl S 3 l3) 4 l4
  have g2 : ag [17] [] [3, 4] S S2 := ag_tr (ag_sl (by decide)) (ag_sl (by decide))
  have hc2 : cxC S2 n so on tw d := cxC_c hc rfl rfl rfl rfl rfl rfl
  have hX : ∀ g, g < 320 → lb l3 w g = (lb (S.2.2 3) w g || decide (g = f)) := fun g hg => by
    rw [a2 w g hg]
    congr 1
    rw [decide_eq_decide]
    exact ⟨fun q => q.2, fun q => ⟨rfl, q⟩⟩
  have E0 : zf_X8_add N z (nI f) S = mq_cp (zf_X8_clashWith N z (nI f) S2) (fun x9 => if x9 = -1 then some ((), S2) else if S2.1 17 = -1 then some ((), mq_si S2 17 x9) else some ((), mq_si S2 17 (mq_min (S2.1 17) x9))) := by
    unfold zf_X8_add zf_X8_add_62
    rw [if_neg (nI_nm1 (by omega)), h16]
    have a1' : zf_X6_put N (fun k => [300].getD k 0) (nI w) (nI f) (mq_pull S [] [] [3]) = some ((), mq_sl (mq_pull S [] [] [3]) 0 l3) := a1
    rw [a1', mq_cl_s, nS_e, push1, show (mq_sl S 3 l3).1 16 = nI w from h16]
    have b1' : zf_X6_put N (fun k => [300].getD k 0) (nI w) (nI f) (mq_pull (mq_sl S 3 l3) [] [] [4]) = some ((), mq_sl (mq_pull (mq_sl S 3 l3) [] [] [4]) 0 l4) := b1
    rw [b1', mq_cl_s, nS_e, push1]
    simp only [nI_e, nS_e]
    rfl
  obtain ⟨i0, -, -, i3⟩ := ck_in (N := N) (z := z) hc2.1 h3 hf
  rw [(hc2.2.1 f hf).1] at i0
  rw [(hc2.2.1 f hf).2.2.2] at i3
  obtain ⟨L2, L3, L1⟩ := fw_let hc.2.2.2 hf
  have hdl := hc.2.2.2.2.2.2.1
  -- no hit
  have none : zf_X8_clashWith N z (nI f) S2 = some (-1) → (∀ c, c < n → (cls so d (lb l3 w) c ↔ cls so d (lb (S.2.2 3) w) c)) → ∃ S' l3 l4, zf_X8_add N z (nI f) S = some ((), S') ∧ S'.2.2 3 = l3 ∧ S'.2.2 4 = l4 ∧ ad1 w f (S.2.2 3) l3 ∧ ad1 w f (S.2.2 4) l4 ∧ clV n so d (lb l3 w) (S'.1 17) ∧ ag [17] [] [3, 4] S S' := by
    intro q hcc
    exact ⟨S2, l3, l4, by rw [E0, q, mq_cp_s, if_pos rfl], rfl, rfl, a2, b2, clV_same hcl hcc, g2⟩
  have hit : ∀ h, h < n → zf_X8_clashWith N z (nI f) S2 = some (nI h) → (∀ c, c < n → (cls so d (lb l3 w) c ↔ cls so d (lb (S.2.2 3) w) c ∨ c = h)) → ∃ S' l3 l4, zf_X8_add N z (nI f) S = some ((), S') ∧ S'.2.2 3 = l3 ∧ S'.2.2 4 = l4 ∧ ad1 w f (S.2.2 3) l3 ∧ ad1 w f (S.2.2 4) l4 ∧ clV n so d (lb l3 w) (S'.1 17) ∧ ag [17] [] [3, 4] S S' := by
    intro h hh q hcc
    obtain ⟨c1, c2⟩ := clV_hit h3 hh hcl hcc
    rw [q, mq_cp_s, if_neg (nI_nm1 (by omega))] at E0
    by_cases e : S.1 17 = -1
    · rw [if_pos (show S2.1 17 = -1 from e)] at E0
      exact ⟨_, l3, l4, E0, rfl, rfl, a2, b2, c1 e, ag_tr g2 (ag_si (by decide))⟩
    · rw [if_neg (show ¬ S2.1 17 = -1 from e)] at E0
      exact ⟨_, l3, l4, E0, rfl, rfl, a2, b2, c2 e, ag_tr g2 (ag_si (by decide))⟩
  by_cases s1 : so f = 1
  · refine hit f hf ?_ (fun c hcn => ?_)
    · unfold zf_X8_clashWith
      rw [i0, mq_cp_s, nI_e, s1, if_pos rfl]
    · unfold cls
      by_cases e : c = f
      · rw [e, hX f (by omega), decide_eq_true rfl, Bool.or_true]
        exact ⟨fun _ => Or.inr rfl, fun _ => Or.inl ⟨s1, rfl⟩⟩
      · rw [hX c (by omega), decide_eq_false e, Bool.or_false]
        constructor
        · rintro (q | ⟨q1, q2, q3⟩)
          · exact Or.inl (Or.inl q)
          · have hdc := hdl c hcn
            rw [hX (d c) (by omega)] at q3
            by_cases e2 : d c = f
            · have := (fw_let hc.2.2.2 hcn).1 q1
              rw [e2, s1] at this
              exact absurd this.2.1 (by decide)
            · rw [decide_eq_false e2, Bool.or_false] at q3
              exact Or.inl (Or.inr ⟨q1, q2, q3⟩)
        · rintro ((q | ⟨q1, q2, q3⟩) | q)
          · exact Or.inl q
          · exact Or.inr ⟨q1, q2, by rw [hX (d c) (by have := hdl c hcn; omega), q3, Bool.true_or]⟩
          · exact absurd q e
  · have i3' : zf_X7_denialOf N z (nI f) S2 = some (nI (d f)) := i3
    have hdf := hdl f hf
    have hhas := ck_set (N := N) (S := S2) (f := d f) hw h16 (by omega)
    have hhas : zf_X6_has N (fun k => [300].getD k 0) (S2.1 16) (nI (d f)) (mq_pull S2 [] [] [3]) = some (if lb l3 w (d f) = true then 1 else 0) := hhas
    by_cases s23 : so f = 2 ∨ so f = 3
    · -- a letter, or an opposite
      have lt : ∃ h, h < n ∧ so h = 2 ∧ (h = f ∨ h = d f) ∧ (d h = f ∨ d h = d f) ∧ (so f = 2 → h = f) ∧ (so f = 3 → h = d f) ∧ (h = f → d h = d f) ∧ (h = d f → d h = f) := by
        rcases s23 with q | q
        · exact ⟨f, hf, q, Or.inl rfl, Or.inr rfl, fun _ => rfl, fun x => by rw [q] at x; exact absurd x (by decide), fun _ => rfl, fun x => x.symm⟩
        · exact ⟨d f, hdf, (L3 q).2.1, Or.inr rfl, Or.inl (L3 q).2.2.2, fun x => by rw [q] at x; exact absurd x (by decide), fun _ => rfl, fun x => by
            rw [(L3 q).2.2.2]
            exact x.symm, fun _ => (L3 q).2.2.2⟩
      obtain ⟨h, hh, hs, h1, h2, h3', h4', h5', h6'⟩ := lt
      have hne : d f ≠ f := fun x => by
        rcases s23 with q | q
        · have := (L2 q).2.1; rw [x, q] at this; exact absurd this (by decide)
        · have := (L3 q).2.1; rw [x, q] at this; exact absurd this (by decide)
      have CW : zf_X8_clashWith N z (nI f) S2 = if lb l3 w (d f) = true then some (nI h) else some (-1) := by
        unfold zf_X8_clashWith zf_X8_clashWith_26 zf_X8_clashWith_31
        rw [i0, mq_cp_s, nI_e, if_neg s1]
        simp only [nI_e, if_neg (show ¬ (1 : Int32) = 0 by decide), i3', mq_cp_s, hhas]
        rcases s23 with q | q
        · simp only [if_pos q, h3' q]
          cases lb l3 w (d f) <;> rfl
        · have n2 : ¬ so f = 2 := by rw [q]; decide
          simp only [if_neg n2, if_pos q, h4' q]
          cases lb l3 w (d f) <;> rfl
      -- clashes
      have other : ∀ c, c < n → c ≠ h → (cls so d (lb l3 w) c ↔ cls so d (lb (S.2.2 3) w) c) := by
        intro c hcn hch
        have hdc := hdl c hcn
        unfold cls
        constructor
        · rintro (⟨q1, q2⟩ | ⟨q1, q2, q3⟩)
          · refine Or.inl ⟨q1, ?_⟩
            rw [hX c (by omega), decide_eq_false (fun x => s1 (by rw [← x]; exact q1)), Bool.or_false] at q2
            exact q2
          · have cf : c ≠ f := fun x => by
              rw [x] at q1
              exact hch (x.trans (h3' q1).symm)
            have df : d c ≠ f := fun x => by
              obtain ⟨-, y1, -, y2⟩ := (fw_let hc.2.2.2 hcn).1 q1
              rw [x] at y1 y2
              exact hch (y2.symm.trans (h4' y1).symm)
            rw [hX c (by omega), decide_eq_false cf, Bool.or_false] at q2
            rw [hX (d c) (by omega), decide_eq_false df, Bool.or_false] at q3
            exact Or.inr ⟨q1, q2, q3⟩
        · rintro (⟨q1, q2⟩ | ⟨q1, q2, q3⟩)
          · exact Or.inl ⟨q1, by rw [hX c (by omega), q2, Bool.true_or]⟩
          · exact Or.inr ⟨q1, by rw [hX c (by omega), q2, Bool.true_or], by rw [hX (d c) (by omega), q3, Bool.true_or]⟩
      have lf : lb l3 w f = true := by rw [hX f (by omega), decide_eq_true rfl, Bool.or_true]
      have clh : cls so d (lb l3 w) h ↔ lb l3 w (d f) = true := by
        unfold cls
        constructor
        · rintro (⟨q1, -⟩ | ⟨-, q2, q3⟩)
          · rw [hs] at q1; exact absurd q1 (by decide)
          · rcases h1 with e | e
            · rw [h5' e] at q3; exact q3
            · rw [e] at q2; exact q2
        · intro q
          refine Or.inr ⟨hs, ?_, ?_⟩
          · rcases h1 with e | e
            · rw [e]; exact lf
            · rw [e]; exact q
          · rcases h1 with e | e
            · rw [h5' e]; exact q
            · rw [h6' e]; exact lf
      cases hb : lb l3 w (d f) with
      | true =>
        rw [hb, if_pos rfl] at CW
        refine hit h hh CW (fun c hcn => ?_)
        by_cases e : c = h
        · rw [e]
          exact ⟨fun _ => Or.inr rfl, fun _ => clh.mpr hb⟩
        · rw [other c hcn e]
          exact ⟨fun q => Or.inl q, fun q => q.resolve_right e⟩
      | false =>
        rw [hb, if_neg (by decide)] at CW
        refine none CW (fun c hcn => ?_)
        by_cases e : c = h
        · rw [e]
          constructor
          · intro q
            have := clh.mp q
            rw [hb] at this
            cases this
          · rintro (⟨q1, -⟩ | ⟨-, q2, q3⟩)
            · rw [hs] at q1; exact absurd q1 (by decide)
            · have : lb (S.2.2 3) w (d f) = true := by
                rcases h1 with x | x
                · rw [h5' x] at q3; exact q3
                · rw [x] at q2; exact q2
              rw [hX (d f) (by omega), this, Bool.true_or] at hb
              cases hb
        · exact other c hcn e
    · refine none ?_ (fun c hcn => ?_)
      · unfold zf_X8_clashWith zf_X8_clashWith_31
        rw [i0, mq_cp_s, nI_e, if_neg s1, if_neg (fun q => s23 (Or.inl q)), if_neg (fun q => s23 (Or.inr q)), nI_e, if_pos rfl]
      · have hdc := hdl c hcn
        unfold cls
        constructor
        · rintro (⟨q1, q2⟩ | ⟨q1, q2, q3⟩)
          · rw [hX c (by omega), decide_eq_false (fun x => s1 (by rw [← x]; exact q1)), Bool.or_false] at q2
            exact Or.inl ⟨q1, q2⟩
          · have df : d c ≠ f := fun x => by
              have y := ((fw_let hc.2.2.2 hcn).1 q1).2.1
              rw [x] at y
              exact s23 (Or.inr y)
            rw [hX c (by omega), decide_eq_false (fun x => s23 (Or.inl (by rw [← x]; exact q1))), Bool.or_false] at q2
            rw [hX (d c) (by omega), decide_eq_false df, Bool.or_false] at q3
            exact Or.inr ⟨q1, q2, q3⟩
        · rintro (⟨q1, q2⟩ | ⟨q1, q2, q3⟩)
          · exact Or.inl ⟨q1, by rw [hX c (by omega), q2, Bool.true_or]⟩
          · exact Or.inr ⟨q1, by rw [hX c (by omega), q2, Bool.true_or], by rw [hX (d c) (by omega), q3, Bool.true_or]⟩
theorem ck_addm : zf_X8_add N z (-1) S = some ((), S) := by
  unfold zf_X8_add
  rw [if_pos rfl]
end ADD
end
/-! 9l.refs -/
section
/-! The tableau: what the reference looks for in a SET. -/
def cxR (S : mq_St) (n : Nat) (so on tw : Nat → Int32) (d : Nat → Nat) : Prop := S.1 3 = nI n ∧ (∀ f, f < n → S.2.1 2 f = so f ∧ S.2.1 3 f = on f ∧ S.2.1 4 f = tw f) ∧ (so 0 = 0 ∧ so 1 = 1) ∧ fw n so on tw d
theorem cxR_c {S S' : mq_St} {n : Nat} {so on tw : Nat → Int32} {d : Nat → Nat} (h : cxR S n so on tw d) (e3 : S'.1 3 = S.1 3) (a2 : S'.2.1 2 = S.2.1 2) (a3 : S'.2.1 3 = S.2.1 3) (a4 : S'.2.1 4 = S.2.1 4) : cxR S' n so on tw d := by
  unfold cxR
  rw [e3, a2, a3, a4]
  exact h
theorem srch {F : Nat → Int32 → Option Int32} {n : Nat} {P : Nat → Prop} (hs : ∀ fuel, F (fuel + 1) (nI n) = some (-1)) (hy : ∀ fuel k, k < n → P k → F (fuel + 1) (nI k) = some (nI k)) (hn : ∀ fuel k, k < n → ¬ P k → F (fuel + 1) (nI k) = F fuel (nI (k + 1))) : ∀ (fuel k : Nat), k ≤ n → n - k < fuel → (F fuel (nI k) = some (-1) ∧ ∀ g, k ≤ g → g < n → ¬ P g) ∨ ∃ f, k ≤ f ∧ f < n ∧ P f ∧ (∀ g, k ≤ g → g < f → ¬ P g) ∧ F fuel (nI k) = some (nI f) := by
  intro fuel
  induction fuel with
  | zero => intro k _ h; omega
  | succ fuel ih =>
    intro k hk hf
    by_cases e : k = n
    · subst e
      exact Or.inl ⟨hs fuel, fun g h1 h2 => by omega⟩
    · by_cases p : P k
      · exact Or.inr ⟨k, Nat.le_refl _, by omega, p, fun g h1 h2 => by omega, hy fuel k (by omega) p⟩
      · rw [hn fuel k (by omega) p]
        rcases ih (k + 1) (by omega) (by omega) with ⟨a, b⟩ | ⟨f, f1, f2, f3, f4, f5⟩
        · refine Or.inl ⟨a, fun g h1 h2 => ?_⟩
          by_cases q : g = k
          · rw [q]; exact p
          · exact b g (by omega) h2
        · refine Or.inr ⟨f, by omega, f2, f3, fun g h1 h2 => ?_, f5⟩
          by_cases q : g = k
          · rw [q]; exact p
          · exact f4 g (by omega) h2
section RS
variable {N n : Nat} {z : Nat → Nat} {S : mq_St} {so on tw : Nat → Int32} {d : Nat → Nat}
theorem rs_now {f : Nat} (hf : f < 320) : zf_X11_isIn N (fun k => [10].getD k 0) 0 (nI f) (mq_pull S [] [17] []) = some (if ib (S.2.1 17) 0 f = true then 1 else 0) :=
  ri_in (R := 1) (r := 0) (z := fun k => [10].getD k 0) (S := mq_pull S [] [17] []) rfl (by omega) (by omega) hf
/-- at f of sort s something is to do -/
def td (so on tw : Nat → Int32) (s : Nat) (X : Nat → Bool) (f : Nat) : Prop := so f = nI s ∧ X f = true ∧ ¬ dn on tw s X f
theorem sml {k : Nat} (h : cxR S n so on tw d) (hk : k < 2) (s : Nat) (h2 : 2 ≤ s) (h7 : s ≤ 7) : ¬ so k = nI s := fun q => by
  have : k = 0 ∨ k = 1 := by omega
  rcases this with rfl | rfl
  · rw [h.2.2.1.1] at q
    have := sp_inj (a := 0) q (by omega) (by omega); omega
  · rw [h.2.2.1.2] at q
    have := sp_inj (a := 1) q (by omega) (by omega); omega
/-- the least, or none -/
def lst (n : Nat) (P : Nat → Prop) (v : Int32) : Prop := (v = -1 ∧ ∀ f, f < n → ¬ P f) ∨ ∃ f, f < n ∧ v = nI f ∧ P f ∧ ∀ g, g < f → ¬ P g
theorem rs_both (hN : 400 ≤ N) (h : cxR S n so on tw d) : ∃ v, zf_X11_firstBoth N z S = some v ∧ lst n (td so on tw 4 (ib (S.2.1 17) 0)) v := by
  obtain ⟨h3, hr, h01, hfw⟩ := id h
  have h300 := hfw.2.1
  have h2n := hfw.1
  have stp : ∀ fuel k, k < n → (td so on tw 4 (ib (S.2.1 17) 0) k → zf_X11_firstBoth_2 N z S (fuel + 1) (nI k) = some (nI k)) ∧ (¬ td so on tw 4 (ib (S.2.1 17) 0) k → zf_X11_firstBoth_2 N z S (fuel + 1) (nI k) = zf_X11_firstBoth_2 N z S fuel (nI (k + 1))) := by
    intro fuel k hk
    have hsh : zf_X11_firstBoth_2 N z S (fuel + 1) (nI k) = zf_X11_firstBoth_2b N z S (fun v1 => zf_X11_firstBoth_2 N z S fuel v1) (nI k) := rfl
    have i1 : vp_in (nI k) 300 := vp_in_nI (by omega) (by omega)
    have c1 : (nI k).toNatClampNeg = k := nI_clamp (by omega)
    rw [hsh]
    unfold zf_X11_firstBoth_2b zf_X11_firstBoth_68
    rw [h3, if_neg (nI_ge hk (by omega))]
    simp only [mq_ck_of i1, c1, nI_e, nI_1, (hr k hk).1, (hr k hk).2.1, (hr k hk).2.2, rs_now (N := N) (S := S) (show k < 320 by omega), mq_cp_s]
    by_cases s4 : so k = nI 4
    · obtain ⟨q1, q2, q3, -⟩ := fw_1 hfw hk s4 (by omega) (by omega)
      have q3 := q3 (by omega)
      rw [if_pos (show so k = (4 : Int32) from s4), q2, q3.2, rs_now (N := N) (S := S) (show p1 on k < 320 by omega), mq_cp_s, rs_now (N := N) (S := S) (show p1 tw k < 320 by omega), mq_cp_s]
      unfold td dn
      rw [if_pos rfl]
      cases a : ib (S.2.1 17) 0 k <;> cases b : ib (S.2.1 17) 0 (p1 on k) <;> cases c : ib (S.2.1 17) 0 (p1 tw k) <;> exact ⟨fun q => by first | rfl | (exact absurd q.2.1 (by decide)) | (exact absurd ⟨rfl, rfl⟩ q.2.2), fun q => by first | rfl | (exact absurd ⟨s4, rfl, fun x => by first | (cases x.1; done) | (cases x.2; done)⟩ q)⟩
    · rw [if_neg (show ¬ so k = (4 : Int32) from s4)]
      exact ⟨fun q => absurd q.1 s4, fun _ => rfl⟩
  have stop : ∀ fuel, zf_X11_firstBoth_2 N z S (fuel + 1) (nI n) = some (-1) := fun fuel => by
    show zf_X11_firstBoth_2b N z S _ (nI n) = _
    unfold zf_X11_firstBoth_2b
    rw [h3, if_pos (nI_le (Nat.le_refl _) (by omega))]
  unfold zf_X11_firstBoth
  rw [nI_e]
  rcases srch stop (fun fuel k hk p => (stp fuel k hk).1 p) (fun fuel k hk p => (stp fuel k hk).2 p) N 2 (by omega) (by omega) with ⟨a, b⟩ | ⟨f, f1, f2, f3, f4, f5⟩
  · refine ⟨-1, a, Or.inl ⟨rfl, fun f hf q => ?_⟩⟩
    by_cases e : f < 2
    · exact sml h e 4 (by omega) (by omega) q.1
    · exact b f (by omega) hf q
  · refine ⟨nI f, f5, Or.inr ⟨f, f2, rfl, f3, fun g hg q => ?_⟩⟩
    by_cases e : g < 2
    · exact sml h e 4 (by omega) (by omega) q.1
    · exact f4 g (by omega) hg q
theorem rs_self (hN : 400 ≤ N) (h : cxR S n so on tw d) : ∃ v, zf_X11_firstSelf N z S = some v ∧ lst n (td so on tw 6 (ib (S.2.1 17) 0)) v := by
  obtain ⟨h3, hr, h01, hfw⟩ := id h
  have h300 := hfw.2.1
  have h2n := hfw.1
  have stp : ∀ fuel k, k < n → (td so on tw 6 (ib (S.2.1 17) 0) k → zf_X11_firstSelf_2 N z S (fuel + 1) (nI k) = some (nI k)) ∧ (¬ td so on tw 6 (ib (S.2.1 17) 0) k → zf_X11_firstSelf_2 N z S (fuel + 1) (nI k) = zf_X11_firstSelf_2 N z S fuel (nI (k + 1))) := by
    intro fuel k hk
    have hsh : zf_X11_firstSelf_2 N z S (fuel + 1) (nI k) = zf_X11_firstSelf_2b N z S (fun v1 => zf_X11_firstSelf_2 N z S fuel v1) (nI k) := rfl
    have i1 : vp_in (nI k) 300 := vp_in_nI (by omega) (by omega)
    have c1 : (nI k).toNatClampNeg = k := nI_clamp (by omega)
    rw [hsh]
    unfold zf_X11_firstSelf_2b zf_X11_firstSelf_52
    rw [h3, if_neg (nI_ge hk (by omega))]
    simp only [mq_ck_of i1, c1, nI_e, nI_1, (hr k hk).1, (hr k hk).2.1, rs_now (N := N) (S := S) (show k < 320 by omega), mq_cp_s]
    by_cases s4 : so k = nI 6
    · obtain ⟨q1, q2, -, -⟩ := fw_1 hfw hk s4 (by omega) (by omega)
      rw [if_pos (show so k = (6 : Int32) from s4), q2, rs_now (N := N) (S := S) (show p1 on k < 320 by omega), mq_cp_s]
      unfold td dn
      rw [if_neg (by decide), if_neg (by decide)]
      cases a : ib (S.2.1 17) 0 k <;> cases b : ib (S.2.1 17) 0 (p1 on k) <;> exact ⟨fun q => by first | rfl | (exact absurd q.2.1 (by decide)) | (exact absurd rfl q.2.2), fun q => by first | rfl | (exact absurd ⟨s4, rfl, fun x => by cases x⟩ q)⟩
    · rw [if_neg (show ¬ so k = (6 : Int32) from s4)]
      exact ⟨fun q => absurd q.1 s4, fun _ => rfl⟩
  have stop : ∀ fuel, zf_X11_firstSelf_2 N z S (fuel + 1) (nI n) = some (-1) := fun fuel => by
    show zf_X11_firstSelf_2b N z S _ (nI n) = _
    unfold zf_X11_firstSelf_2b
    rw [h3, if_pos (nI_le (Nat.le_refl _) (by omega))]
  unfold zf_X11_firstSelf
  rw [nI_e]
  rcases srch stop (fun fuel k hk p => (stp fuel k hk).1 p) (fun fuel k hk p => (stp fuel k hk).2 p) N 2 (by omega) (by omega) with ⟨a, b⟩ | ⟨f, f1, f2, f3, f4, f5⟩
  · refine ⟨-1, a, Or.inl ⟨rfl, fun f hf q => ?_⟩⟩
    by_cases e : f < 2
    · exact sml h e 6 (by omega) (by omega) q.1
    · exact b f (by omega) hf q
  · refine ⟨nI f, f5, Or.inr ⟨f, f2, rfl, f3, fun g hg q => ?_⟩⟩
    by_cases e : g < 2
    · exact sml h e 6 (by omega) (by omega) q.1
    · exact f4 g (by omega) hg q
theorem rs_either (hN : 400 ≤ N) (h : cxR S n so on tw d) : ∃ v, zf_X11_firstEither N z S = some v ∧ lst n (td so on tw 5 (ib (S.2.1 17) 0)) v := by
  obtain ⟨h3, hr, h01, hfw⟩ := id h
  have h300 := hfw.2.1
  have h2n := hfw.1
  have stp : ∀ fuel k, k < n → (td so on tw 5 (ib (S.2.1 17) 0) k → zf_X11_firstEither_2 N z S (fuel + 1) (nI k) = some (nI k)) ∧ (¬ td so on tw 5 (ib (S.2.1 17) 0) k → zf_X11_firstEither_2 N z S (fuel + 1) (nI k) = zf_X11_firstEither_2 N z S fuel (nI (k + 1))) := by
    intro fuel k hk
    have hsh : zf_X11_firstEither_2 N z S (fuel + 1) (nI k) = zf_X11_firstEither_2b N z S (fun v1 => zf_X11_firstEither_2 N z S fuel v1) (nI k) := rfl
    have i1 : vp_in (nI k) 300 := vp_in_nI (by omega) (by omega)
    have c1 : (nI k).toNatClampNeg = k := nI_clamp (by omega)
    rw [hsh]
    unfold zf_X11_firstEither_2b zf_X11_firstEither_68
    rw [h3, if_neg (nI_ge hk (by omega))]
    simp only [mq_ck_of i1, c1, nI_e, nI_1, (hr k hk).1, (hr k hk).2.1, (hr k hk).2.2, rs_now (N := N) (S := S) (show k < 320 by omega), mq_cp_s]
    by_cases s4 : so k = nI 5
    · obtain ⟨q1, q2, q3, -⟩ := fw_1 hfw hk s4 (by omega) (by omega)
      have q3 := q3 (by omega)
      rw [if_pos (show so k = (5 : Int32) from s4), q2, q3.2, rs_now (N := N) (S := S) (show p1 on k < 320 by omega), mq_cp_s, rs_now (N := N) (S := S) (show p1 tw k < 320 by omega), mq_cp_s]
      unfold td dn
      rw [if_neg (by decide), if_pos rfl]
      cases a : ib (S.2.1 17) 0 k <;> cases b : ib (S.2.1 17) 0 (p1 on k) <;> cases c : ib (S.2.1 17) 0 (p1 tw k) <;> exact ⟨fun q => by first | rfl | (exact absurd q.2.1 (by decide)) | (exact absurd (Or.inl rfl) q.2.2) | (exact absurd (Or.inr rfl) q.2.2), fun q => by first | rfl | (exact absurd ⟨s4, rfl, fun x => by rcases x with x | x <;> cases x⟩ q)⟩
    · rw [if_neg (show ¬ so k = (5 : Int32) from s4)]
      exact ⟨fun q => absurd q.1 s4, fun _ => rfl⟩
  have stop : ∀ fuel, zf_X11_firstEither_2 N z S (fuel + 1) (nI n) = some (-1) := fun fuel => by
    show zf_X11_firstEither_2b N z S _ (nI n) = _
    unfold zf_X11_firstEither_2b
    rw [h3, if_pos (nI_le (Nat.le_refl _) (by omega))]
  unfold zf_X11_firstEither
  rw [nI_e]
  rcases srch stop (fun fuel k hk p => (stp fuel k hk).1 p) (fun fuel k hk p => (stp fuel k hk).2 p) N 2 (by omega) (by omega) with ⟨a, b⟩ | ⟨f, f1, f2, f3, f4, f5⟩
  · refine ⟨-1, a, Or.inl ⟨rfl, fun f hf q => ?_⟩⟩
    by_cases e : f < 2
    · exact sml h e 5 (by omega) (by omega) q.1
    · exact b f (by omega) hf q
  · refine ⟨nI f, f5, Or.inr ⟨f, f2, rfl, f3, fun g hg q => ?_⟩⟩
    by_cases e : g < 2
    · exact sml h e 5 (by omega) (by omega) q.1
    · exact f4 g (by omega) hg q
/-- the next MAY from k on -/
theorem rs_may {k : Nat} {v : Int32} (hN : 400 ≤ N) (h : cxR S n so on tw d) (hk : k ≤ n) (hv : v + 1 = nI k) : ∃ u, zf_X11_nextMay N z v S = some u ∧ lst n (fun f => k ≤ f ∧ td so on tw 7 (ib (S.2.1 17) 0) f) u := by
  obtain ⟨h3, hr, h01, hfw⟩ := id h
  have h300 := hfw.2.1
  have h2n := hfw.1
  have stp : ∀ fuel k, k < n → (td so on tw 7 (ib (S.2.1 17) 0) k → zf_X11_nextMay_4 N z S (fuel + 1) (nI k) = some (nI k)) ∧ (¬ td so on tw 7 (ib (S.2.1 17) 0) k → zf_X11_nextMay_4 N z S (fuel + 1) (nI k) = zf_X11_nextMay_4 N z S fuel (nI (k + 1))) := by
    intro fuel k hk
    have hsh : zf_X11_nextMay_4 N z S (fuel + 1) (nI k) = zf_X11_nextMay_4b N z S (fun v1 => zf_X11_nextMay_4 N z S fuel v1) (nI k) := rfl
    have i1 : vp_in (nI k) 300 := vp_in_nI (by omega) (by omega)
    have c1 : (nI k).toNatClampNeg = k := nI_clamp (by omega)
    rw [hsh]
    unfold zf_X11_nextMay_4b zf_X11_nextMay_54
    rw [h3, if_neg (nI_ge hk (by omega))]
    simp only [mq_ck_of i1, c1, nI_e, nI_1, (hr k hk).1, (hr k hk).2.1, rs_now (N := N) (S := S) (show k < 320 by omega), mq_cp_s]
    by_cases s4 : so k = nI 7
    · obtain ⟨q1, q2, -, -⟩ := fw_1 hfw hk s4 (by omega) (by omega)
      rw [if_pos (show so k = (7 : Int32) from s4), q2, rs_now (N := N) (S := S) (show p1 on k < 320 by omega), mq_cp_s]
      unfold td dn
      rw [if_neg (by decide), if_neg (by decide)]
      cases a : ib (S.2.1 17) 0 k <;> cases b : ib (S.2.1 17) 0 (p1 on k) <;> exact ⟨fun q => by first | rfl | (exact absurd q.2.1 (by decide)) | (exact absurd rfl q.2.2), fun q => by first | rfl | (exact absurd ⟨s4, rfl, fun x => by cases x⟩ q)⟩
    · rw [if_neg (show ¬ so k = (7 : Int32) from s4)]
      exact ⟨fun q => absurd q.1 s4, fun _ => rfl⟩
  have stop : ∀ fuel, zf_X11_nextMay_4 N z S (fuel + 1) (nI n) = some (-1) := fun fuel => by
    show zf_X11_nextMay_4b N z S _ (nI n) = _
    unfold zf_X11_nextMay_4b
    rw [h3, if_pos (nI_le (Nat.le_refl _) (by omega))]
  unfold zf_X11_nextMay
  rw [nI_e, hv]
  rcases srch stop (fun fuel k hk p => (stp fuel k hk).1 p) (fun fuel k hk p => (stp fuel k hk).2 p) N k (by omega) (by omega) with ⟨a, b⟩ | ⟨f, f1, f2, f3, f4, f5⟩
  · exact ⟨-1, a, Or.inl ⟨rfl, fun f hf q => b f q.1 hf q.2⟩⟩
  · exact ⟨nI f, f5, Or.inr ⟨f, f2, rfl, ⟨f1, f3⟩, fun g hg q => f4 g q.1 hg q.2⟩⟩
theorem rs_opp {f : Nat} (hN : 400 ≤ N) (h : cxR S n so on tw d) (hf : f < n) (hs : so f = 2) : zf_X11_hasOpposite N z (nI f) S = some (if ib (S.2.1 17) 0 (d f) = true then 1 else 0) := by
  obtain ⟨h3, hr, h01, hfw⟩ := id h
  have h300 := hfw.2.1
  obtain ⟨l1, l2, l3, l4⟩ := (fw_let hfw hf).1 hs
  have ge2 : 2 ≤ d f := by
    by_cases e : d f < 2
    · exact absurd l2 (sml h e 3 (by omega) (by omega))
    · omega
  have loop : ∀ fuel k, k ≤ d f → d f - k < fuel → zf_X11_hasOpposite_2 N z S fuel (nI f) (nI k) = some (if ib (S.2.1 17) 0 (d f) = true then 1 else 0) := by
    intro fuel
    induction fuel with
    | zero => intro k _ h; omega
    | succ fuel ih =>
      intro k hk hfu
      have i1 : vp_in (nI k) 300 := vp_in_nI (by omega) (by omega)
      have c1 : (nI k).toNatClampNeg = k := nI_clamp (by omega)
      have i2 : vp_in (nI f) 300 := vp_in_nI (by omega) (by omega)
      have c2 : (nI f).toNatClampNeg = f := nI_clamp (by omega)
      have hsh : zf_X11_hasOpposite_2 N z S (fuel + 1) (nI f) (nI k) = zf_X11_hasOpposite_2b N z S (fun v1 v2 => zf_X11_hasOpposite_2 N z S fuel v1 v2) (nI f) (nI k) := rfl
      rw [hsh]
      unfold zf_X11_hasOpposite_2b zf_X11_hasOpposite_45
      rw [h3, if_neg (nI_ge (by omega) (by omega))]
      simp only [mq_ck_of i1, c1, mq_ck_of i2, c2, nI_e, nI_1, (hr k (by omega)).1, (hr k (by omega)).2.1, (hr f hf).2.1, rs_now (N := N) (S := S) (show k < 320 by omega), mq_cp_s]
      by_cases e : k = d f
      · rw [e, if_pos l2, if_pos l3]
        cases ib (S.2.1 17) 0 (d f)
        · exact mq_cz_0 _
        · exact mq_cz_1 _
      · have go := ih (k + 1) (by omega) (by omega)
        by_cases s3 : so k = 3
        · rw [if_pos s3]
          by_cases o3 : on k = on f
          · exfalso
            obtain ⟨m1', m2', m3', m4'⟩ := (fw_let hfw (show k < n by omega)).2.1 s3
            -- the same letter: the same number
            have hk' := hfw.2.2.2.2 k (by omega)
            have hd' := hfw.2.2.2.2 (d f) l1
            have tw1 : ∀ g, g < n → so g = 3 → tw g = -1 := fun g hg q => by
              rcases hfw.2.2.2.2 g hg with ⟨-, e, -⟩ | ⟨-, e, -⟩ | ⟨-, -, -, e, -⟩ | ⟨e, -⟩ | ⟨e, -⟩
              · rw [e] at q; exact absurd q (by decide)
              · rw [e] at q; exact absurd q (by decide)
              · exact e
              · rcases e with ⟨e, -⟩ | ⟨e, -⟩ <;> (rw [e] at q; exact absurd q (by decide))
              · rcases e with ⟨e, -⟩ | ⟨e, -⟩ <;> (rw [e] at q; exact absurd q (by decide))
            exact e (hfw.2.2.1 k (d f) (by omega) l1 (s3.trans l2.symm) (o3.trans l3.symm) ((tw1 k (by omega) s3).trans (tw1 (d f) l1 l2).symm))
          · rw [if_neg o3]; exact go
        · rw [if_neg s3]; exact go
  unfold zf_X11_hasOpposite
  rw [nI_e]
  exact loop N 2 ge2 (by omega)
theorem rs_clash (hN : 400 ≤ N) (h : cxR S n so on tw d) : ∃ v, zf_X11_clash N z S = some v ∧ clV n so d (ib (S.2.1 17) 0) v := by
  obtain ⟨h3, hr, h01, hfw⟩ := id h
  have h300 := hfw.2.1
  have h2n := hfw.1
  have hdl := hfw.2.2.2.1
  unfold zf_X11_clash
  rw [show (1 : Int32) = nI 1 from rfl, rs_now (N := N) (S := S) (show 1 < 320 by omega), mq_cp_s]
  cases a : ib (S.2.1 17) 0 1 with
  | true =>
    refine ⟨nI 1, rfl, Or.inr ⟨1, by omega, rfl, Or.inl ⟨h01.2, a⟩, fun c hc q => ?_⟩⟩
    have : c = 0 := by omega
    rw [this] at q
    rcases q with ⟨q, -⟩ | ⟨q, -⟩
    · rw [h01.1] at q; exact absurd q (by decide)
    · rw [h01.1] at q; exact absurd q (by decide)
  | false =>
    rw [if_pos (by decide), nI_e]
    have no1 : ∀ c, c < n → so c = 1 → ib (S.2.1 17) 0 c = false := fun c hc q => by rw [(fw_let hfw hc).2.2 q]; exact a
    have stp : ∀ fuel k, k < n → (cls so d (ib (S.2.1 17) 0) k → zf_X11_clash_16 N z S (fuel + 1) (nI k) = some (nI k)) ∧ (¬ cls so d (ib (S.2.1 17) 0) k → zf_X11_clash_16 N z S (fuel + 1) (nI k) = zf_X11_clash_16 N z S fuel (nI (k + 1))) := by
      intro fuel k hk
      have hsh : zf_X11_clash_16 N z S (fuel + 1) (nI k) = zf_X11_clash_16b N z S (fun v1 => zf_X11_clash_16 N z S fuel v1) (nI k) := rfl
      have i1 : vp_in (nI k) 300 := vp_in_nI (by omega) (by omega)
      have c1 : (nI k).toNatClampNeg = k := nI_clamp (by omega)
      rw [hsh]
      unfold zf_X11_clash_16b zf_X11_clash_56
      rw [h3, if_neg (nI_ge hk (by omega))]
      simp only [mq_ck_of i1, c1, nI_e, nI_1, (hr k hk).1, rs_now (N := N) (S := S) (show k < 320 by omega), mq_cp_s]
      by_cases s2 : so k = 2
      · rw [if_pos s2, rs_opp hN h hk s2, mq_cp_s]
        unfold cls
        cases b : ib (S.2.1 17) 0 k <;> cases c : ib (S.2.1 17) 0 (d k) <;> exact ⟨fun q => by first | rfl | (rcases q with ⟨q, -⟩ | ⟨-, q, r⟩ <;> first | (rw [s2] at q; exact absurd q (by decide)) | exact absurd q (by decide) | exact absurd r (by decide)), fun q => by first | rfl | (exact absurd (Or.inr ⟨s2, rfl, rfl⟩) q)⟩
      · rw [if_neg s2]
        refine ⟨fun q => ?_, fun _ => rfl⟩
        rcases q with ⟨q1, q2⟩ | ⟨q1, -⟩
        · rw [no1 k hk q1] at q2; cases q2
        · exact absurd q1 s2
    have stop : ∀ fuel, zf_X11_clash_16 N z S (fuel + 1) (nI n) = some (-1) := fun fuel => by
      show zf_X11_clash_16b N z S _ (nI n) = _
      unfold zf_X11_clash_16b
      rw [h3, if_pos (nI_le (Nat.le_refl _) (by omega))]
    have lo : ∀ c, c < 2 → ¬ cls so d (ib (S.2.1 17) 0) c := fun c hc q => by
      have : c = 0 ∨ c = 1 := by omega
      rcases this with rfl | rfl
      · rcases q with ⟨q, -⟩ | ⟨q, -⟩ <;> (rw [h01.1] at q; exact absurd q (by decide))
      · rcases q with ⟨-, q⟩ | ⟨q, -⟩
        · rw [a] at q; cases q
        · rw [h01.2] at q; exact absurd q (by decide)
    rcases srch stop (fun fuel k hk p => (stp fuel k hk).1 p) (fun fuel k hk p => (stp fuel k hk).2 p) N 2 (by omega) (by omega) with ⟨x, y⟩ | ⟨f, f1, f2, f3, f4, f5⟩
    · refine ⟨-1, x, Or.inl ⟨rfl, fun c hc q => ?_⟩⟩
      by_cases e : c < 2
      · exact lo c e q
      · exact y c (by omega) hc q
    · refine ⟨nI f, f5, Or.inr ⟨f, f2, rfl, f3, fun c hc q => ?_⟩⟩
      by_cases e : c < 2
      · exact lo c e q
      · exact f4 c (by omega) hc q
end RS
end
/-! 9m.tops -/
section
/-! The tableau: single acts on either side. -/
theorem pu_1 {S : mq_St} {i a : Nat} {v : Int32} {f : Nat → Int32} : mq_push S (mq_si (mq_sa (mq_pull S [i] [a] []) 0 f) 0 v) [i] [a] [] = mq_si (mq_sa S a f) i v := by
  have h0 : ∀ q : Nat, [q].idxOf? q = some 0 := fun q => by simp [List.idxOf?, List.findIdx?_cons]
  refine Prod.ext ?_ (Prod.ext ?_ rfl)
  · funext q
    show (match [i].idxOf? q with | some j => (mq_si (mq_sa (mq_pull S [i] [a] []) 0 f) 0 v).1 j | none => S.1 q) = if q = i then v else S.1 q
    by_cases e : q = i
    · subst e; rw [h0, if_pos rfl]; rfl
    · rw [if_neg e, List.idxOf?_eq_none_iff.mpr (by simpa using e)]
  · funext q
    show (match [a].idxOf? q with | some j => (mq_si (mq_sa (mq_pull S [i] [a] []) 0 f) 0 v).2.1 j | none => S.2.1 q) = if q = a then f else S.2.1 q
    by_cases e : q = a
    · subst e; rw [h0, if_pos rfl]; rfl
    · rw [if_neg e, List.idxOf?_eq_none_iff.mpr (by simpa using e)]
theorem pu_2 {S : mq_St} {i a : Nat} {v : Int32} : mq_push S (mq_si (mq_pull S [i] [a] []) 0 v) [i] [a] [] = mq_si S i v := by
  have h0 : ∀ q : Nat, [q].idxOf? q = some 0 := fun q => by simp [List.idxOf?, List.findIdx?_cons]
  refine Prod.ext ?_ (Prod.ext ?_ rfl)
  · funext q
    show (match [i].idxOf? q with | some j => (mq_si (mq_pull S [i] [a] []) 0 v).1 j | none => S.1 q) = if q = i then v else S.1 q
    by_cases e : q = i
    · subst e; rw [h0, if_pos rfl]; rfl
    · rw [if_neg e, List.idxOf?_eq_none_iff.mpr (by simpa using e)]
  · funext q
    show (match [a].idxOf? q with | some j => (mq_si (mq_pull S [i] [a] []) 0 v).2.1 j | none => S.2.1 q) = S.2.1 q
    by_cases e : q = a
    · subst e; rw [h0]; rfl
    · rw [List.idxOf?_eq_none_iff.mpr (by simpa using e)]
theorem pu_0 {S : mq_St} {i a : Nat} : mq_push S (mq_pull S [i] [a] []) [i] [a] [] = S := by
  have h0 : ∀ q : Nat, [q].idxOf? q = some 0 := fun q => by simp [List.idxOf?, List.findIdx?_cons]
  refine Prod.ext ?_ (Prod.ext ?_ rfl)
  · funext q
    show (match [i].idxOf? q with | some j => (mq_pull S [i] [a] []).1 j | none => S.1 q) = S.1 q
    by_cases e : q = i
    · subst e; rw [h0]; rfl
    · rw [List.idxOf?_eq_none_iff.mpr (by simpa using e)]
  · funext q
    show (match [a].idxOf? q with | some j => (mq_pull S [i] [a] []).2.1 j | none => S.2.1 q) = S.2.1 q
    by_cases e : q = a
    · subst e; rw [h0]; rfl
    · rw [List.idxOf?_eq_none_iff.mpr (by simpa using e)]
theorem cl_go {A B : Type} {x : Option (A × mq_St)} {v : A} {s : mq_St} {k : A → mq_St → Option B} (h : x = some (v, s)) : mq_cl x k = k v s := by
  rw [h, mq_cl_s]
theorem nS_go {B : Type} {a b : mq_St} {k : mq_St → Option B} (h : a = b) : mq_nS a k = k b := by
  rw [h, nS_e]
theorem cp_go {A B : Type} {x : Option A} {v : A} {k : A → Option B} (h : x = some v) : mq_cp x k = k v := by
  rw [h, mq_cp_s]
section TOPS
variable {N : Nat} {z : Nat → Nat} {S : mq_St} {st F ln : Nat}
theorem ck_step (h0 : S.2.1 21 0 = nI st) (hF : S.1 18 = nI F) (h1 : st ≤ F) (h2 : F ≤ 100000) : zf_X8_step N z S = if st < F then some (1, mq_sa S 21 (upd (S.2.1 21) 0 (nI (st + 1)))) else some (0, mq_si S 19 (-3)) := by
  unfold zf_X8_step
  have i0 : vp_in (0 : Int32) 4 := vp_in_nI (n := 0) (by omega) (by omega)
  have c0 : (0 : Int32).toNatClampNeg = 0 := nI_clamp (n := 0) (by omega)
  simp only [mq_ck_of i0, c0, h0, hF, nS_e, mq_cz_0, mq_cz_1, nI_1]
  by_cases e : st < F
  · rw [if_pos (nI_lt e (by omega)), if_pos e]
  · rw [if_neg (nI_nlt (by omega) (by omega)), if_neg e]
theorem rf_step (h0 : S.1 19 = nI st) (hF : S.1 18 = nI F) (h1 : st ≤ F) (h2 : F ≤ 100000) : zf_X11_step N z S = if st < F then some (1, mq_si S 19 (nI (st + 1))) else some (0, mq_si S 23 (-3)) := by
  unfold zf_X11_step
  rw [h0, hF, nS_e, nS_e, mq_cz_0, mq_cz_1, nI_1]
  by_cases e : st < F
  · rw [if_neg (fun q => by have := sp_inj q (by omega) (by omega); omega), if_pos e]
  · rw [if_pos (by rw [show st = F by omega]), if_neg e]
theorem ck_note (r f : Int32) (h0 : S.1 20 = nI ln) (h1 : ln ≤ 1299) : zf_X8_note N z r f S = if ln < 1299 then some (1, mq_si (mq_sa S 22 (upd (S.2.1 22) ln ((r <<< ((16 : Int32) &&& 31)) ||| f))) 20 (nI (ln + 1))) else some (0, mq_si S 19 (-4)) := by
  unfold zf_X8_note
  have hp : zf_X3_push N z r f (mq_pull S [20] [22] []) = if ln < 1299 then some (1, mq_si (mq_sa (mq_pull S [20] [22] []) 0 (upd (S.2.1 22) ln ((r <<< ((16 : Int32) &&& 31)) ||| f))) 0 (nI (ln + 1))) else some (0, mq_pull S [20] [22] []) := by
    unfold zf_X3_push
    rw [show (mq_pull S [20] [22] []).1 0 = nI ln from h0]
    have e1 : (nI ln < (1299 : Int32)) ↔ ln < 1299 := nI_ltI (b := 1299) (by omega) (by omega)
    by_cases e : ln < 1299
    · rw [if_pos (e1.mpr e), if_pos e, mq_ck_of (vp_in_nI e (by omega)), nI_clamp (by omega), nS_e, nS_e, sa_1, show (mq_pull S [20] [22] []).1 0 = nI ln from h0, nI_1, mq_cz_1]
      rfl
    · rw [if_neg (fun q => e (e1.mp q)), if_neg e, mq_cz_0]
  rw [hp]
  by_cases e : ln < 1299
  · rw [if_pos e, if_pos e, mq_cl_s, nS_e, if_neg (by decide), mq_cz_1, pu_1]
  · rw [if_neg e, if_neg e, mq_cl_s, nS_e, if_pos rfl, nS_e, mq_cz_0, pu_0]
theorem rf_line (r f : Int32) (h0 : S.1 26 = nI ln) (h1 : ln ≤ 1299) : zf_X11_line N z r f S = if ln < 1299 then some (1, mq_si (mq_sa (mq_sa S 23 (upd (S.2.1 23) ln r)) 24 (upd (S.2.1 24) ln f)) 26 (nI (ln + 1))) else some (0, mq_si S 23 (-4)) := by
  unfold zf_X11_line
  rw [h0]
  have e1 : (nI ln = (1299 : Int32)) ↔ ln = 1299 := nI_eq (b := 1299) (by omega) (by omega)
  by_cases e : ln < 1299
  · rw [if_neg (fun q => by have := e1.mp q; omega), if_pos e, mq_ck_of (vp_in_nI (by omega) (by omega)), nI_clamp (by omega), nS_e, sa_1, h0, mq_ck_of (vp_in_nI (by omega) (by omega)), nI_clamp (by omega), nS_e, nS_e, sa_1, sa_1, h0, nI_1, mq_cz_1]
    rfl
  · rw [if_pos (e1.mpr (by omega)), if_neg e, nS_e, mq_cz_0]
theorem rf_put {f : Nat} (hf : f < 320) : ∃ a', zf_X11_put N (fun k => [10].getD k 0) 0 (nI f) (mq_pull S [] [17] []) = some ((), mq_sa (mq_pull S [] [17] []) 0 a') ∧ mq_push S (mq_sa (mq_pull S [] [17] []) 0 a') [] [17] [] = mq_sa S 17 a' ∧ ∀ g, g < 320 → ib a' 0 g = (ib (S.2.1 17) 0 g || decide (g = f)) := by
  obtain ⟨a', h1, h2⟩ := ri_put (N := N) (R := 1) (r := 0) (z := fun k => [10].getD k 0) (S := mq_pull S [] [17] []) (f := f) rfl (by omega) (by omega) hf
  refine ⟨a', h1, ?_, fun g hg => ?_⟩
  · have h0 : ∀ q : Nat, [q].idxOf? q = some 0 := fun q => by simp [List.idxOf?, List.findIdx?_cons]
    refine Prod.ext rfl (Prod.ext ?_ rfl)
    funext q
    show (match [17].idxOf? q with | some j => (mq_sa (mq_pull S [] [17] []) 0 a').2.1 j | none => S.2.1 q) = if q = 17 then a' else S.2.1 q
    by_cases e : q = 17
    · subst e; rw [h0, if_pos rfl]; rfl
    · rw [if_neg e, List.idxOf?_eq_none_iff.mpr (by simpa using e)]
  · have := h2 0 g hg
    rw [this]
    show (ib (S.2.1 17) 0 g || decide (0 = 0 ∧ g = f)) = _
    congr 1
    rw [decide_eq_decide]
    exact ⟨fun q => q.2, fun q => ⟨rfl, q⟩⟩
/-- a copy from one array into another one -/
theorem rf_cp {a b ra rb R R' : Nat} {y : Nat → Nat} (hN : 20 ≤ N) (hab : a ≠ b) (hy0 : y 0 = 10 * R) (hy1 : y 1 = 10 * R') (hR : R < 10000) (hR' : R' < 10000) (h1 : ra < R) (h2 : rb < R') : ∃ q', zf_X11_copy N y (nI (10 * ra)) (nI (10 * rb)) (mq_pull S [] [a, b] []) = some ((), mq_sa (mq_pull S [] [a, b] []) 1 q') ∧ mq_push S (mq_sa (mq_pull S [] [a, b] []) 1 q') [] [a, b] [] = mq_sa S b q' ∧ ∀ r g, g < 320 → ib q' r g = if r = rb then ib (S.2.1 a) ra g else ib (S.2.1 b) r g := by
  obtain ⟨q', e1, e2⟩ := ri_copy (N := N) (R := R) (R' := R') (r := ra) (r' := rb) (z := y) (S := mq_pull S [] [a, b] []) hN hy0 hy1 hR hR' h1 h2
  refine ⟨q', e1, ?_, e2⟩
  refine Prod.ext rfl (Prod.ext ?_ rfl)
  funext q
  show (match [a, b].idxOf? q with | some j => (mq_sa (mq_pull S [] [a, b] []) 1 q').2.1 j | none => S.2.1 q) = if q = b then q' else S.2.1 q
  by_cases ea : q = a
  · have : [a, b].idxOf? q = some 0 := by rw [ea]; simp [List.idxOf?, List.findIdx?_cons]
    rw [this, if_neg (by rw [ea]; exact hab), ea]
    rfl
  · by_cases eb : q = b
    · have : [a, b].idxOf? q = some 1 := by
        rw [eb]
        simp [List.idxOf?, List.findIdx?_cons, hab]
      rw [this, if_pos eb]
      rfl
    · rw [if_neg eb, List.idxOf?_eq_none_iff.mpr (by simp [ea, eb])]
theorem rf_waits {wt : Nat} (hN : 20 ≤ N) (v1 v2 : Int32) (h27 : S.1 27 = nI wt) (hwt : wt < 470) (hv : v1 = 0 ∨ v1 = 1) : ∃ q', zf_X11_waits N z v1 v2 S = some ((), mq_si (mq_sa (mq_sa (mq_sa (mq_sa (mq_sa (mq_sa S 25 (upd (S.2.1 25) wt v1)) 26 (upd (S.2.1 26) wt v2)) 27 (upd (S.2.1 27) wt (S.1 25))) 28 (upd (S.2.1 28) wt (S.1 24))) 29 (upd (S.2.1 29) wt (S.1 26))) 30 q') 27 (nI (wt + 1))) ∧ ∀ r g, g < 320 → ib q' r g = if r = wt then ib (S.2.1 17) 0 g else ib (S.2.1 30) r g := by
  have nar : vp_nar .boolean v1 = v1 := by rcases hv with rfl | rfl <;> rfl
  obtain ⟨q', e1, e2, e3⟩ := rf_cp (N := N) (S := mq_sa (mq_sa (mq_sa (mq_sa (mq_sa S 25 (upd (S.2.1 25) wt v1)) 26 (upd (S.2.1 26) wt v2)) 27 (upd (S.2.1 27) wt (S.1 25))) 28 (upd (S.2.1 28) wt (S.1 24))) 29 (upd (S.2.1 29) wt (S.1 26))) (a := 17) (b := 30) (ra := 0) (rb := wt) (R := 1) (R' := 470) (y := fun k => [10, 4700].getD k 0) hN (by decide) rfl rfl (by omega) (by omega) (by omega) hwt
  refine ⟨q', ?_, e3⟩
  have i1 : vp_in (nI wt) 470 := vp_in_nI hwt (by omega)
  have c1 : (nI wt).toNatClampNeg = wt := nI_clamp (by omega)
  unfold zf_X11_waits
  simp only [nS_e, sa_1, h27, mq_ck_of i1, c1, nar]
  have e10 : (10 : Int32) * nI wt = nI (10 * wt) := pk_mul 10 wt
  rw [e10]
  refine (cl_go e1).trans ((nS_go e2 (k := fun T => mq_nS (mq_si T 27 (T.1 27 + 1)) (fun T => some ((), T)))).trans ?_)
  rw [nS_e]
  show some ((), mq_si _ 27 (S.1 27 + 1)) = _
  rw [h27, nI_1]
end TOPS
end
/-! 9n.rel -/
section
/-! The tableau: what holds between the two sides. -/
theorem cls_x {n c : Nat} {so on tw : Nat → Int32} {d : Nat → Nat} {X X' : Nat → Bool} (h : fw n so on tw d) (hx : ∀ f, f < 320 → X' f = X f) (hc : c < n) : cls so d X' c ↔ cls so d X c := by
  have h3 := h.2.1
  have hd := h.2.2.2.1 c hc
  unfold cls
  rw [hx c (by omega), hx (d c) (by omega)]
theorem dn_x {n f s : Nat} {so on tw : Nat → Int32} {d : Nat → Nat} {X X' : Nat → Bool} (h : fw n so on tw d) (hx : ∀ f, f < 320 → X' f = X f) (hf : f < n) (hs : so f = nI s) (h4 : 4 ≤ s) (h7 : s ≤ 7) : dn on tw s X' f ↔ dn on tw s X f := by
  have h3 := h.2.1
  obtain ⟨a1, -, a2, -⟩ := fw_1 h hf hs h4 h7
  unfold dn
  rw [hx (p1 on f) (by omega)]
  by_cases e : s ≤ 5
  · rw [hx (p1 tw f) (by have := (a2 e).1; omega)]
  · rw [if_neg (by omega), if_neg (by omega), if_neg (by omega), if_neg (by omega)]
theorem td_x {n f s : Nat} {so on tw : Nat → Int32} {d : Nat → Nat} {X X' : Nat → Bool} (h : fw n so on tw d) (hx : ∀ f, f < 320 → X' f = X f) (hf : f < n) (h4 : 4 ≤ s) (h7 : s ≤ 7) : td so on tw s X' f ↔ td so on tw s X f := by
  have h3 := h.2.1
  unfold td
  rw [hx f (by omega)]
  constructor
  · rintro ⟨a, b, c⟩; exact ⟨a, b, fun q => c ((dn_x h hx hf a h4 h7).mpr q)⟩
  · rintro ⟨a, b, c⟩; exact ⟨a, b, fun q => c ((dn_x h hx hf a h4 h7).mp q)⟩
theorem clV_x {n : Nat} {so on tw : Nat → Int32} {d : Nat → Nat} {X X' : Nat → Bool} {v : Int32} (h : fw n so on tw d) (hx : ∀ f, f < 320 → X' f = X f) (hv : clV n so d X v) : clV n so d X' v := clV_same hv (fun _ hc => cls_x h hx hc)
theorem clV_u {n : Nat} {so : Nat → Int32} {d : Nat → Nat} {X : Nat → Bool} {v v' : Int32} (hv : clV n so d X v) (hv' : clV n so d X v') : v = v' := by
  rcases hv with ⟨a, b⟩ | ⟨c, a, b, e, g⟩ <;> rcases hv' with ⟨a', b'⟩ | ⟨c', a', b', e', g'⟩
  · rw [a, a']
  · exact absurd e' (b c' a')
  · exact absurd e (b' c a)
  · rcases Nat.lt_trichotomy c c' with q | q | q
    · exact absurd e (g' c q)
    · rw [b, b', q]
    · exact absurd e' (g c' q)
theorem lst_u {n : Nat} {P : Nat → Prop} {v v' : Int32} (hv : lst n P v) (hv' : lst n P v') : v = v' := by
  rcases hv with ⟨a, b⟩ | ⟨c, a, b, e, g⟩ <;> rcases hv' with ⟨a', b'⟩ | ⟨c', a', b', e', g'⟩
  · rw [a, a']
  · exact absurd e' (b c' a')
  · exact absurd e (b' c a)
  · rcases Nat.lt_trichotomy c c' with q | q | q
    · exact absurd e (g' c q)
    · rw [b, b', q]
    · exact absurd e' (g c' q)
theorem lst_s {n : Nat} {P Q : Nat → Prop} {v : Int32} (hv : lst n P v) (h : ∀ f, f < n → (P f ↔ Q f)) : lst n Q v := by
  rcases hv with ⟨a, b⟩ | ⟨c, a, b, e, g⟩
  · exact Or.inl ⟨a, fun f hf q => b f hf ((h f hf).mpr q)⟩
  · exact Or.inr ⟨c, a, b, (h c a).mp e, fun f hf q => g f hf ((h f (by omega)).mpr q)⟩
/-- a SET with nothing left to do but its MAYS from m on -/
def sat (n : Nat) (so on tw : Nat → Int32) (d : Nat → Nat) (X Y : Nat → Bool) (m : Nat) : Prop := (∀ f, f < 320 → X f = true → f < n) ∧ (∀ c, c < n → ¬ cls so d X c) ∧ (∀ s f, 4 ≤ s → s ≤ 6 → f < n → ¬ td so on tw s X f) ∧ (∀ f, f < 320 → Y f = true → X f = true) ∧ ∀ f, f < n → td so on tw 7 X f → (Y f = true ↔ m ≤ f)
theorem sat_x {n m : Nat} {so on tw : Nat → Int32} {d : Nat → Nat} {X X' Y Y' : Nat → Bool} (h : fw n so on tw d) (hx : ∀ f, f < 320 → X' f = X f) (hy : ∀ f, f < 320 → Y' f = Y f) (hs : sat n so on tw d X Y m) : sat n so on tw d X' Y' m := by
  have h3 := h.2.1
  obtain ⟨a, b, c, e, g⟩ := hs
  refine ⟨fun f hf q => a f hf (by rw [← hx f hf]; exact q), fun f hf q => b f hf ((cls_x h hx hf).mp q), fun s f h4 h6 hf q => c s f h4 h6 hf ((td_x h hx hf h4 (by omega)).mp q), fun f hf q => ?_, fun f hf q => ?_⟩
  · rw [hx f hf]; exact e f hf (by rw [← hy f hf]; exact q)
  · rw [hy f (by omega)]; exact g f hf ((td_x h hx hf (by omega) (by omega)).mp q)
/-- place e of the waiting row is the j-th EITHER that is held, of world w -/
def eit (n : Nat) (so : Nat → Int32) (d : Nat → Nat) (SC SR : mq_St) (w j e : Nat) : Prop := SR.2.1 25 e = 1 ∧ SR.2.1 27 e = nI w ∧ SR.2.1 28 e = nI (w + 1) ∧ (∃ f, f < n ∧ so f = 5 ∧ SR.2.1 26 e = nI f ∧ SC.2.1 20 j = nI f) ∧ (∀ f, f < 320 → ib (SR.2.1 30) e f = lb (SC.2.2 5) j f) ∧ (∀ f, f < 320 → lb (SC.2.2 5) j f = true → f < n) ∧ ∀ c, c < n → ¬ cls so d (lb (SC.2.2 5) j) c
/-- place e of the waiting row is for the MAYS of world p from m on, with l lines -/
def may (n : Nat) (so on tw : Nat → Int32) (d : Nat → Nat) (SC SR : mq_St) (p m l e : Nat) : Prop := SR.2.1 25 e = 0 ∧ SR.2.1 26 e + 1 = nI m ∧ m ≤ n ∧ SR.2.1 27 e = nI p ∧ SR.2.1 29 e = nI l ∧ (∀ f, f < 320 → ib (SR.2.1 30) e f = lb (SC.2.2 3) p f) ∧ sat n so on tw d (lb (SC.2.2 3) p) (lb (SC.2.2 4) p) m
/-- the way to the world at the head, with all that waits -/
def stk (n : Nat) (so on tw : Nat → Int32) (d : Nat → Nat) (SC SR : mq_St) : List Nat → Nat → Nat → Nat → Prop
  | [], _, _, _ => False
  | v :: R, ec, wt, ln => ∃ ea k b, SC.2.1 18 v = nI ea ∧ ea + k = ec ∧ wt = b + k ∧ (∀ j, j < k → eit n so d SC SR v (ea + j) (b + j)) ∧ ((R = [] ∧ SC.2.1 16 v = -1 ∧ ea = 0 ∧ b = 0) ∨ ∃ u m l b', R.head? = some u ∧ SC.2.1 16 v = nI u ∧ u < v ∧ b = b' + 1 ∧ may n so on tw d SC SR u m l b' ∧ l ≤ ln ∧ SC.2.1 19 u = nI l ∧ stk n so on tw d SC SR R ea b' l)
section STK
variable {n : Nat} {so on tw : Nat → Int32} {d : Nat → Nat} {SC SR SC' SR' : mq_St}
theorem eit_c {w j e : Nat} (h : fw n so on tw d) (q : eit n so d SC SR w j e) (c20 : SC'.2.1 20 j = SC.2.1 20 j) (c5 : ∀ f, f < 320 → lb (SC'.2.2 5) j f = lb (SC.2.2 5) j f) (r25 : SR'.2.1 25 e = SR.2.1 25 e) (r26 : SR'.2.1 26 e = SR.2.1 26 e) (r27 : SR'.2.1 27 e = SR.2.1 27 e) (r28 : SR'.2.1 28 e = SR.2.1 28 e) (r30 : ∀ f, f < 320 → ib (SR'.2.1 30) e f = ib (SR.2.1 30) e f) : eit n so d SC' SR' w j e := by
  obtain ⟨q1, q2, q3, q4, q5, q6, q7⟩ := q
  refine ⟨r25.trans q1, r27.trans q2, r28.trans q3, ?_, fun f hf => by rw [r30 f hf, c5 f hf]; exact q5 f hf, fun f hf a => q6 f hf (by rw [← c5 f hf]; exact a), fun c hc a => q7 c hc ((cls_x h c5 hc).mp a)⟩
  rw [r26, c20]; exact q4
theorem may_c {p m l e : Nat} (h : fw n so on tw d) (q : may n so on tw d SC SR p m l e) (c3 : ∀ f, f < 320 → lb (SC'.2.2 3) p f = lb (SC.2.2 3) p f) (c4 : ∀ f, f < 320 → lb (SC'.2.2 4) p f = lb (SC.2.2 4) p f) (r25 : SR'.2.1 25 e = SR.2.1 25 e) (r26 : SR'.2.1 26 e = SR.2.1 26 e) (r27 : SR'.2.1 27 e = SR.2.1 27 e) (r29 : SR'.2.1 29 e = SR.2.1 29 e) (r30 : ∀ f, f < 320 → ib (SR'.2.1 30) e f = ib (SR.2.1 30) e f) : may n so on tw d SC' SR' p m l e := by
  obtain ⟨q1, q2, q2', q3, q4, q5, q6⟩ := q
  exact ⟨r25.trans q1, by rw [r26]; exact q2, q2', r27.trans q3, r29.trans q4, fun f hf => by rw [r30 f hf, c3 f hf]; exact q5 f hf, sat_x h c3 c4 q6⟩
/-- what the class changes above, and the reference above, leaves it -/
def kpC (SC SC' : mq_St) (v ec : Nat) : Prop := (∀ p, p ≤ v → SC'.2.1 16 p = SC.2.1 16 p ∧ SC'.2.1 18 p = SC.2.1 18 p) ∧ (∀ p, p < v → SC'.2.1 19 p = SC.2.1 19 p ∧ ∀ f, f < 320 → lb (SC'.2.2 3) p f = lb (SC.2.2 3) p f ∧ lb (SC'.2.2 4) p f = lb (SC.2.2 4) p f) ∧ ∀ j, j < ec → SC'.2.1 20 j = SC.2.1 20 j ∧ ∀ f, f < 320 → lb (SC'.2.2 5) j f = lb (SC.2.2 5) j f
def kpR (SR SR' : mq_St) (wt : Nat) : Prop := ∀ e, e < wt → SR'.2.1 25 e = SR.2.1 25 e ∧ SR'.2.1 26 e = SR.2.1 26 e ∧ SR'.2.1 27 e = SR.2.1 27 e ∧ SR'.2.1 28 e = SR.2.1 28 e ∧ SR'.2.1 29 e = SR.2.1 29 e ∧ ∀ f, f < 320 → ib (SR'.2.1 30) e f = ib (SR.2.1 30) e f
theorem kpR_m {wt wt' : Nat} (h : kpR SR SR' wt) (hw : wt' ≤ wt) : kpR SR SR' wt' := fun e he => h e (by omega)
theorem kpR_rf {wt : Nat} : kpR SR SR wt := fun e _ => ⟨rfl, rfl, rfl, rfl, rfl, fun _ _ => rfl⟩
theorem stk_c (h : fw n so on tw d) : ∀ (R : List Nat) (v ec wt ln ln' : Nat), ln ≤ ln' → kpC SC SC' v ec → kpR SR SR' wt → stk n so on tw d SC SR (v :: R) ec wt ln → stk n so on tw d SC' SR' (v :: R) ec wt ln'
  | R, v, ec, wt, ln, ln', hl, hC, hR, q => by
    obtain ⟨ea, k, b, a1, a2, a3, a4, a5⟩ := q
    refine ⟨ea, k, b, ((hC.1 v (Nat.le_refl _)).2).trans a1, a2, a3, fun j hj => ?_, ?_⟩
    · obtain ⟨r1, r2, r3, r4, -, r6⟩ := hR (b + j) (by omega)
      obtain ⟨c1, c2⟩ := hC.2.2 (ea + j) (by omega)
      exact eit_c h (a4 j hj) c1 c2 r1 r2 r3 r4 r6
    · rcases a5 with ⟨b1, b2, b3, b4⟩ | ⟨u, m, l, b', b1, b2, b3, b4, b5, b6, b7, b8⟩
      · exact Or.inl ⟨b1, ((hC.1 v (Nat.le_refl _)).1).trans b2, b3, b4⟩
      · obtain ⟨c1, c2⟩ := hC.2.1 u b3
        obtain ⟨r1, r2, r3, -, r5, r6⟩ := hR b' (by omega)
        refine Or.inr ⟨u, m, l, b', b1, ((hC.1 v (Nat.le_refl _)).1).trans b2, b3, b4, may_c h b5 (fun f hf => (c2 f hf).1) (fun f hf => (c2 f hf).2) r1 r2 r3 r5 r6, by omega, c1.trans b7, ?_⟩
        cases R with
        | nil => cases b1
        | cons u' r =>
          have : u' = u := by simpa using b1
          subst this
          refine stk_c h r u' ea b' l l (Nat.le_refl _) ⟨fun p hp => hC.1 p (by omega), fun p hp => hC.2.1 p (by omega), fun j hj => hC.2.2 j (by omega)⟩ (kpR_m hR (by omega)) b8
theorem stk_len : ∀ (R : List Nat) (v ec wt ln : Nat), stk n so on tw d SC SR (v :: R) ec wt ln → wt = ec + R.length ∧ R.length ≤ v
  | R, v, ec, wt, ln, q => by
    obtain ⟨ea, k, b, -, a2, a3, -, a5⟩ := q
    rcases a5 with ⟨b1, -, b3, b4⟩ | ⟨u, m, l, b', b1, -, b3, b4, -, -, -, b8⟩
    · rw [b1]; exact ⟨by simp; omega, by simp⟩
    · cases R with
      | nil => cases b1
      | cons u' r =>
        have : u' = u := by simpa using b1
        subst this
        have := stk_len r u' ea b' l b8
        simp only [List.length_cons]
        omega
/-- one more EITHER of the world at the head -/
theorem stk_put {R : List Nat} {v ec wt ln : Nat} (q : stk n so on tw d SC SR (v :: R) ec wt ln) (e : eit n so d SC SR v ec wt) : stk n so on tw d SC SR (v :: R) (ec + 1) (wt + 1) ln := by
  obtain ⟨ea, k, b, a1, a2, a3, a4, a5⟩ := q
  refine ⟨ea, k + 1, b, a1, by omega, by omega, fun j hj => ?_, a5⟩
  by_cases e' : j < k
  · exact a4 j e'
  · have : j = k := by omega
    rw [this, a2, ← a3]; exact e
end STK
end
/-! 9o.rel2 -/
section
/-! The tableau: the relation at the two points. -/
def lins (SC SR : mq_St) (ln : Nat) : Prop := ∀ i, i < ln → ∃ r f, r < 5 ∧ f < 300 ∧ SC.2.1 22 i = (nI r <<< ((16 : Int32) &&& 31)) ||| nI f ∧ SR.2.1 23 i = nI r ∧ SR.2.1 24 i = nI f
def wld (SC SR : mq_St) (W : Nat) : Prop := ∀ v, v < W → SC.2.1 16 v = SR.2.1 20 v ∧ SC.2.1 17 v = SR.2.1 21 v ∧ ∀ f, f < 320 → lb (SC.2.2 2) v f = ib (SR.2.1 18) v f
def led (SC SR : mq_St) (v : Nat) : Prop := ∀ u, u < 60 → SR.2.1 22 (60 * v + u) = if (SC.2.2 1 v).toBitVec.getLsbD u = true then 1 else 0
def wst (SC SR : mq_St) (v : Nat) : Prop := ∀ f, f < 320 → ib (SR.2.1 19) v f = lb (SC.2.2 3) v f
def cnt (SC SR : mq_St) : Prop := SC.2.1 21 1 = SR.1 20 ∧ SC.2.1 21 2 = SR.1 21 ∧ SC.2.1 21 3 = SR.1 22
def frC (S S' : mq_St) : Prop := ag [14, 15, 16, 17, 18, 19, 20] [16, 17, 18, 19, 20, 21, 22] [1, 2, 3, 4, 5] S S'
def frR (S S' : mq_St) : Prop := ag [18, 19, 20, 21, 22, 23, 24, 25, 26, 27, 28] [17, 18, 19, 20, 21, 22, 23, 24, 25, 26, 27, 28, 29, 30, 31] [] S S'
/-- the numbers -/
def nuC (S : mq_St) (F st W w ec ln : Nat) : Prop := S.1 18 = nI F ∧ S.2.1 21 0 = nI st ∧ S.1 15 = nI W ∧ S.1 16 = nI w ∧ S.1 14 = nI ec ∧ S.1 20 = nI ln ∧ S.1 19 = 2
def nuR (S : mq_St) (F st W w ec ln wt : Nat) : Prop := S.1 18 = nI F ∧ S.1 19 = nI st ∧ S.1 24 = nI W ∧ S.1 25 = nI w ∧ S.1 28 = nI ec ∧ S.1 26 = nI ln ∧ S.1 23 = 0 ∧ S.1 27 = nI wt
def bnd (F st W w ec ln : Nat) : Prop := st ≤ F ∧ F ≤ 100000 ∧ w < W ∧ W ≤ 60 ∧ ec ≤ 400 ∧ ln ≤ 1299
/-- at the head of down() -/
def Dn (n : Nat) (so on tw : Nat → Int32) (d : Nat → Nat) (F : Nat) (SC SR : mq_St) (st w ec ln wt : Nat) (R : List Nat) : Prop :=
  bnd F st (w + 1) w ec ln ∧ nuC SC F st (w + 1) w ec ln ∧ nuR SR F st (w + 1) w ec ln wt ∧ cnt SC SR ∧ lins SC SR ln ∧ wld SC SR (w + 1) ∧ stk n so on tw d SC SR (w :: R) ec wt ln ∧
  (∀ f, f < 320 → ib (SR.2.1 17) 0 f = lb (SC.2.2 3) w f) ∧ (∀ f, f < 320 → lb (SC.2.2 3) w f = true → f < n) ∧ clV n so d (lb (SC.2.2 3) w) (SC.1 17) ∧
  ((∀ f, f < 320 → lb (SC.2.2 4) w f = true → lb (SC.2.2 3) w f = true) ∧ ∀ s f, 4 ≤ s → s ≤ 7 → f < n → td so on tw s (lb (SC.2.2 3) w) f → lb (SC.2.2 4) w f = true) ∧
  SC.2.2 1 w = 0 ∧ (∀ v, v < w → led SC SR v) ∧ ∀ v, v < w → v ∉ R → wst SC SR v
/-- in mays(), the next MAY not yet looked for: from m on -/
def Mn (n : Nat) (so on tw : Nat → Int32) (d : Nat → Nat) (F : Nat) (SC SR : mq_St) (st W w ec ln wt m : Nat) (R : List Nat) : Prop :=
  bnd F st W w ec ln ∧ nuC SC F st W w ec ln ∧ nuR SR F st W w ec ln (wt + 1) ∧ cnt SC SR ∧ lins SC SR ln ∧ wld SC SR W ∧ stk n so on tw d SC SR (w :: R) ec wt ln ∧ may n so on tw d SC SR w m ln wt ∧
  (∀ f, f < 320 → ib (SR.2.1 17) 0 f = lb (SC.2.2 3) w f) ∧ SC.1 17 = -1 ∧ (∀ v, v < W → led SC SR v) ∧ ∀ v, v < W → v ≠ w → v ∉ R → wst SC SR v
section REL2
variable {N n F : Nat} {z : Nat → Nat} {so on tw : Nat → Int32} {d : Nat → Nat} {S SC SR : mq_St} {st W w ec ln wt m : Nat} {R : List Nat}
theorem ag_3 {S' : mq_St} (h : ag [17] [] [3, 4] S S') : S' = mq_sl (mq_sl (mq_si S 17 (S'.1 17)) 3 (S'.2.2 3)) 4 (S'.2.2 4) := by
  refine Prod.ext ?_ (Prod.ext ?_ ?_)
  · funext q
    show _ = if q = 17 then _ else _
    by_cases e : q = 17
    · rw [if_pos e, e]
    · rw [if_neg e]; exact h.1 q (by simpa using e)
  · funext q; exact h.2.1 q (by simp)
  · funext q
    show _ = if q = 4 then _ else (if q = 3 then _ else _)
    by_cases e : q = 4
    · rw [if_pos e, e]
    · rw [if_neg e]
      by_cases e' : q = 3
      · rw [if_pos e', e']
      · rw [if_neg e']; exact h.2.2 q (by simp [e, e'])
theorem cxC_f {S0 : mq_St} (h : cxC S0 n so on tw d) (f : frC S0 S) : cxC S n so on tw d := cxC_c h (f.1 2 (by decide)) (f.2.1 4 (by decide)) (f.2.1 5 (by decide)) (f.2.1 6 (by decide)) (f.2.1 7 (by decide)) (f.2.2 0 (by decide))
theorem cxR_f {S0 : mq_St} (h : cxR S0 n so on tw d) (f : frR S0 S) : cxR S n so on tw d := cxR_c h (f.1 3 (by decide)) (f.2.1 2 (by decide)) (f.2.1 3 (by decide)) (f.2.1 4 (by decide))
theorem ck_lst {s : Nat} (hN : 100 ≤ N) (hc : cxC S n so on tw d) (hw : w < 60) (h16 : S.1 16 = nI w) (h4 : 4 ≤ s) (h7 : s ≤ 7) (hY : ∀ f, f < 320 → lb (S.2.2 4) w f = true → lb (S.2.2 3) w f = true) :
    ∃ l2 v, lfk on tw so n s w (lb (S.2.2 3) w) (S.2.2 4) l2 ∧ zf_X8_leastToDo N z (nI s) S = some (v, mq_sl S 4 l2) ∧ lst n (fun f => td so on tw s (lb (S.2.2 3) w) f ∧ lb (S.2.2 4) w f = true) v := by
  have h3 := hc.2.2.2.2.1
  obtain ⟨l2, hl, ⟨f, f1, f2, f3, f4, f5, f6⟩ | ⟨f1, f2⟩⟩ := ck_least (z := z) hN hc hw h16 h4 h7
  · have y : lb (S.2.2 4) w f = true := hl.2.1 f (by omega) f3
    exact ⟨l2, nI f, hl, f6, Or.inr ⟨f, f1, rfl, ⟨⟨f2, hY f (by omega) y, f4⟩, y⟩, fun g hg q => q.1.2.2 (f5 g hg q.1.1 q.2)⟩⟩
  · exact ⟨l2, -1, hl, f2, Or.inl ⟨rfl, fun g hg q => q.1.2.2 (f1 g hg q.1.1 q.2)⟩⟩
theorem Dn_lf {s : Nat} {l2 : Nat → Int64} (hn : n ≤ 300) (hs : s ≤ 7) (h : fw n so on tw d) (hl : lfk on tw so n s w (lb (SC.2.2 3) w) (SC.2.2 4) l2) (q : Dn n so on tw d F SC SR st w ec ln wt R) : Dn n so on tw d F (mq_sl SC 4 l2) SR st w ec ln wt R := by
  obtain ⟨q1, q2, q3, q4, q5, q6, q7, q8, q9, q10, q11, q12, q13, q14⟩ := q
  refine ⟨q1, q2, q3, q4, q5, q6, stk_c (SC := SC) h R w ec wt ln ln (Nat.le_refl _) ⟨fun p _ => ⟨rfl, rfl⟩, fun p hp => ⟨rfl, fun f hf => ⟨rfl, hl.1 p f (by omega) hf⟩⟩, fun j _ => ⟨rfl, fun _ _ => rfl⟩⟩ kpR_rf q7, q8, q9, q10, ⟨fun f hf a => q11.1 f hf (hl.2.1 f hf a), fun s' f h4 h7 hf a => ?_⟩, q12, q13, q14⟩
  have y := q11.2 s' f h4 h7 hf a
  show lb l2 w f = true
  cases e : lb l2 w f with
  | true => rfl
  | false =>
    obtain ⟨e1, e2, e3⟩ := hl.2.2 f (by omega) y e
    have e4 := a.1
    have : s' = s := sp_inj (e4.symm.trans e2) (by omega) (by omega)
    rw [this] at a
    exact absurd e3 a.2.2
end REL2
end
/-! 9p.wide -/
section
/-! The tableau: a turn that widens the SET. -/
section WIDE
variable {N n F : Nat} {z : Nat → Nat} {so on tw : Nat → Int32} {d : Nat → Nat} {S SC SR : mq_St} {st W w ec ln wt m : Nat} {R : List Nat}
theorem dn_mono {f s : Nat} {X X' : Nat → Bool} (h : fw n so on tw d) (hx : ∀ f, f < 320 → X f = true → X' f = true) (hf : f < n) (hs : so f = nI s) (h4 : 4 ≤ s) (h7 : s ≤ 7) (q : dn on tw s X f) : dn on tw s X' f := by
  have h3 := h.2.1
  obtain ⟨a1, -, a2, -⟩ := fw_1 h hf hs h4 h7
  unfold dn at q ⊢
  by_cases e4 : s = 4
  · rw [if_pos e4] at q ⊢
    have := (a2 (by omega)).1
    exact ⟨hx _ (by omega) q.1, hx _ (by omega) q.2⟩
  · rw [if_neg e4] at q ⊢
    by_cases e5 : s = 5
    · rw [if_pos e5] at q ⊢
      have := (a2 (by omega)).1
      exact q.imp (hx _ (by omega)) (hx _ (by omega))
    · rw [if_neg e5] at q ⊢
      exact hx _ (by omega) q
/-- a SET and what is left of it, both with A more -/
theorem row_add {X Y X' Y' A : Nat → Bool} (h : fw n so on tw d) (hx : ∀ f, f < 320 → X' f = (X f || A f)) (hy : ∀ f, f < 320 → Y' f = (Y f || A f)) (hA : ∀ f, f < 320 → A f = true → f < n) (hX : ∀ f, f < 320 → X f = true → f < n) (hY : (∀ f, f < 320 → Y f = true → X f = true) ∧ ∀ s f, 4 ≤ s → s ≤ 7 → f < n → td so on tw s X f → Y f = true) :
    (∀ f, f < 320 → X' f = true → f < n) ∧ (∀ f, f < 320 → Y' f = true → X' f = true) ∧ ∀ s f, 4 ≤ s → s ≤ 7 → f < n → td so on tw s X' f → Y' f = true := by
  have h3 := h.2.1
  refine ⟨fun f hf q => ?_, fun f hf q => ?_, fun s f h4 h7 hf q => ?_⟩
  · rw [hx f hf, Bool.or_eq_true] at q
    exact q.elim (hX f hf) (hA f hf)
  · rw [hy f hf, Bool.or_eq_true] at q
    rw [hx f hf, Bool.or_eq_true]
    exact q.imp (hY.1 f hf) id
  · rw [hy f (by omega), Bool.or_eq_true]
    obtain ⟨q1, q2, q3⟩ := q
    rw [hx f (by omega), Bool.or_eq_true] at q2
    rcases q2 with q2 | q2
    · exact Or.inl (hY.2 s f h4 h7 hf ⟨q1, q2, fun a => q3 (dn_mono h (fun g hg b => by rw [hx g hg, b]; rfl) hf q1 h4 h7 a)⟩)
    · exact Or.inr q2
/-- the class behind a step and a line -/
def stC (S : mq_St) (st ln : Nat) (r f : Int32) : mq_St := mq_si (mq_sa (mq_sa S 21 (upd (S.2.1 21) 0 (nI (st + 1)))) 22 (upd (S.2.1 22) ln ((r <<< ((16 : Int32) &&& 31)) ||| f))) 20 (nI (ln + 1))
def stR (S : mq_St) (st ln : Nat) (r f : Int32) : mq_St := mq_si (mq_sa (mq_sa (mq_si S 19 (nI (st + 1))) 23 (upd (S.2.1 23) ln r)) 24 (upd (S.2.1 24) ln f)) 26 (nI (ln + 1))
theorem cxC_st {r f : Int32} (h : cxC S n so on tw d) : cxC (stC S st ln r f) n so on tw d := cxC_c h rfl rfl rfl rfl rfl rfl
/-- the parts that a rule adds -/
def pA (on tw : Nat → Int32) (s f : Nat) : Nat → Bool := fun g => decide (g = p1 on f ∨ (s = 4 ∧ g = p1 tw f))
theorem ck_wd {s f r : Nat} (hc : cxC S n so on tw d) (hw : w < 60) (hn : nuC S F st W w ec ln) (hF : F ≤ 100000) (h1 : st < F) (h2 : ln < 1299) (hf : f < n) (hs : so f = nI s) (h46 : s = 4 ∨ s = 6) (hcl : clV n so d (lb (S.2.2 3) w) (S.1 17)) :
    ∃ c l3 l4, zf_X8_widen N z (nI r) (nI f) S = some ((), mq_sl (mq_sl (mq_si (stC S st ln (nI r) (nI f)) 17 c) 3 l3) 4 l4) ∧ (∀ v g, g < 320 → lb l3 v g = (lb (S.2.2 3) v g || (decide (v = w) && pA on tw s f g))) ∧ (∀ v g, g < 320 → lb l4 v g = (lb (S.2.2 4) v g || (decide (v = w) && pA on tw s f g))) ∧ clV n so d (lb l3 w) c := by
  obtain ⟨n1, n2, n3, n4, n5, n6, n7⟩ := hn
  have hfw := hc.2.2.2
  obtain ⟨p1f, p2f, p3f, p4f⟩ := fw_1 hfw hf hs (by omega) (by omega)
  have h300 := hfw.2.1
  have hcT : cxC (stC S st ln (nI r) (nI f)) n so on tw d := cxC_st hc
  have e1 : zf_X8_step N z S = some (1, mq_sa S 21 (upd (S.2.1 21) 0 (nI (st + 1)))) := by rw [ck_step n2 n1 (by omega) hF, if_pos h1]
  have e2 : zf_X8_note N z (nI r) (nI f) (mq_sa S 21 (upd (S.2.1 21) 0 (nI (st + 1)))) = some (1, stC S st ln (nI r) (nI f)) := by rw [ck_note (S := mq_sa S 21 (upd (S.2.1 21) 0 (nI (st + 1)))) (ln := ln) (nI r) (nI f) n6 (by omega), if_pos h2]; rfl
  have e3 : zf_X7_firstOf N z (nI f) (stC S st ln (nI r) (nI f)) = some (nI (p1 on f)) := by rw [(ck_in hcT.1 h300 hf).2.1, (hcT.2.1 f hf).2.1, ← p2f]
  obtain ⟨S1, l3, l4, a1, a2, a3, a4, a5, a6, a7⟩ := ck_add (N := N) (z := z) (f := p1 on f) hcT hw n4 (by omega) hcl
  have hc1 : cxC S1 n so on tw d := cxC_c hcT (a7.1 2 (by decide)) (a7.2.1 4 (by decide)) (a7.2.1 5 (by decide)) (a7.2.1 6 (by decide)) (a7.2.1 7 (by decide)) (a7.2.2 0 (by decide))
  have e4 : zf_X7_secondOf N z (nI f) S1 = some (tw f) := by rw [(ck_in hc1.1 h300 hf).2.2.1, (hc1.2.1 f hf).2.2.1]
  have go : ∀ S2, zf_X8_add N z (tw f) S1 = some ((), S2) → zf_X8_widen N z (nI r) (nI f) S = some ((), S2) := fun S2 h => by
    unfold zf_X8_widen
    refine (cl_go e1).trans ?_
    rw [if_neg (by decide)]
    refine (cl_go e2).trans ?_
    rw [if_neg (by decide)]
    exact (cp_go e3).trans ((cl_go a1).trans ((cp_go e4).trans (cl_go h)))
  rcases h46 with rfl | rfl
  · obtain ⟨b1, b2⟩ := p3f (by omega)
    obtain ⟨S2, m3, m4, c1, c2, c3, c4, c5, c6, c7⟩ := ck_add (N := N) (z := z) (f := p1 tw f) hc1 hw ((a7.1 16 (by decide)).trans n4) (by omega) (by rw [a2]; exact a6)
    refine ⟨S2.1 17, m3, m4, ?_, fun v g hg => ?_, fun v g hg => ?_, c6⟩
    · rw [go S2 (by rw [b2]; exact c1)]
      have := ag_3 (ag_tr a7 c7)
      rw [c2, c3] at this
      rw [← this]
    · rw [c4 v g hg, a2, a4 v g hg]
      show (lb (S.2.2 3) v g || _ || _) = _
      unfold pA
      by_cases e : v = w <;> by_cases e' : g = p1 on f <;> by_cases e'' : g = p1 tw f <;> simp [e, e', e'']
    · rw [c5 v g hg, a3, a5 v g hg]
      show (lb (S.2.2 4) v g || _ || _) = _
      unfold pA
      by_cases e : v = w <;> by_cases e' : g = p1 on f <;> by_cases e'' : g = p1 tw f <;> simp [e, e', e'']
  · refine ⟨S1.1 17, l3, l4, ?_, fun v g hg => ?_, fun v g hg => ?_, a6⟩
    · rw [go S1 (by rw [p4f (by omega)]; exact ck_addm)]
      have := ag_3 a7
      rw [a2, a3] at this
      rw [← this]
    · rw [a4 v g hg]
      show (lb (S.2.2 3) v g || _) = _
      unfold pA
      by_cases e : v = w <;> by_cases e' : g = p1 on f <;> simp [e, e']
    · rw [a5 v g hg]
      show (lb (S.2.2 4) v g || _) = _
      unfold pA
      by_cases e : v = w <;> by_cases e' : g = p1 on f <;> simp [e, e']
theorem lins_put {r f : Nat} (h : lins SC SR ln) (hr : r < 5) (hf : f < 300) {SC' SR' : mq_St} (e22 : SC'.2.1 22 = upd (SC.2.1 22) ln ((nI r <<< ((16 : Int32) &&& 31)) ||| nI f)) (e23 : SR'.2.1 23 = upd (SR.2.1 23) ln (nI r)) (e24 : SR'.2.1 24 = upd (SR.2.1 24) ln (nI f)) : lins SC' SR' (ln + 1) := fun i hi => by
  rw [e22, e23, e24]
  by_cases e : i = ln
  · subst e
    exact ⟨r, f, hr, hf, up_s _ _ _, up_s _ _ _, up_s _ _ _⟩
  · rw [up_o e, up_o e, up_o e]; exact h i (by omega)
theorem Dn_wd {s f r c : Nat} {v : Int32} {l3 l4 : Nat → Int64} {a : Nat → Int32} (hfw : fw n so on tw d) (hr : r < 5) (q : Dn n so on tw d F SC SR st w ec ln wt R) (h1 : st < F) (h2 : ln < 1299) (hf : f < n) (hs : so f = nI s) (h46 : s = 4 ∨ s = 6)
    (b3 : ∀ v g, g < 320 → lb l3 v g = (lb (SC.2.2 3) v g || (decide (v = w) && pA on tw s f g))) (b4 : ∀ v g, g < 320 → lb l4 v g = (lb (SC.2.2 4) v g || (decide (v = w) && pA on tw s f g))) (hcl : clV n so d (lb l3 w) v) (ha : ∀ g, g < 320 → ib a 0 g = (ib (SR.2.1 17) 0 g || pA on tw s f g)) :
    Dn n so on tw d F (mq_sl (mq_sl (mq_si (stC SC st ln (nI r) (nI f)) 17 v) 3 l3) 4 l4) (mq_sa (stR SR st ln (nI r) (nI f)) 17 a) (st + 1) w ec (ln + 1) wt R := by
  obtain ⟨p1f, p2f, p3f, p4f⟩ := fw_1 hfw hf hs (by omega) (by omega)
  have h300 := hfw.2.1
  obtain ⟨⟨o1, o2, o3, o4, o5, o6⟩, ⟨n1, n2, n3, n4, n5, n6, n7⟩, ⟨m1, m2, m3, m4, m5, m6, m7, m8⟩, ⟨k1, k2, k3⟩, q5, q6, q7, q8, q9, q10, q11, q12, q13, q14⟩ := q
  have x3 : ∀ g, g < 320 → lb l3 w g = (lb (SC.2.2 3) w g || pA on tw s f g) := fun g hg => by rw [b3 w g hg, decide_eq_true (rfl : w = w), Bool.true_and]
  have x4 : ∀ g, g < 320 → lb l4 w g = (lb (SC.2.2 4) w g || pA on tw s f g) := fun g hg => by rw [b4 w g hg, decide_eq_true (rfl : w = w), Bool.true_and]
  have y3 : ∀ p g, p < w → g < 320 → lb l3 p g = lb (SC.2.2 3) p g := fun p g hp hg => by rw [b3 p g hg, decide_eq_false (by omega), Bool.false_and, Bool.or_false]
  have y4 : ∀ p g, p < w → g < 320 → lb l4 p g = lb (SC.2.2 4) p g := fun p g hp hg => by rw [b4 p g hg, decide_eq_false (by omega), Bool.false_and, Bool.or_false]
  have hA : ∀ g, g < 320 → pA on tw s f g = true → g < n := fun g _ q => by
    rcases of_decide_eq_true q with q | ⟨q', q⟩
    · omega
    · have := (p3f (by omega)).1; omega
  obtain ⟨z1, z2⟩ := row_add hfw x3 x4 hA q9 q11
  refine ⟨⟨by omega, o2, o3, o4, o5, by omega⟩, ⟨n1, rfl, n3, n4, n5, rfl, n7⟩, ⟨m1, rfl, m3, m4, m5, rfl, m7, m8⟩, ⟨k1, k2, k3⟩, lins_put q5 hr (by omega) rfl rfl rfl, q6, ?_, fun g hg => ?_, z1, hcl, z2, q12, q13, fun u hu hR g hg => ?_⟩
  · exact stk_c (SC := SC) (SR := SR) hfw R w ec wt ln (ln + 1) (by omega) ⟨fun p _ => ⟨rfl, rfl⟩, fun p hp => ⟨rfl, fun g hg => ⟨y3 p g hp hg, y4 p g hp hg⟩⟩, fun j _ => ⟨rfl, fun _ _ => rfl⟩⟩ (fun e _ => ⟨rfl, rfl, rfl, rfl, rfl, fun _ _ => rfl⟩) q7
  · show ib a 0 g = lb l3 w g
    rw [ha g hg, x3 g hg, q8 g hg]
  · show _ = lb l3 u g
    rw [y3 u g hu hg]; exact q14 u hu hR g hg
end WIDE
end
/-! 9q.downs -/
section
/-! The tableau: the reference's down(). -/
section DOWNS
variable {N n F : Nat} {z : Nat → Nat} {so on tw : Nat → Int32} {d : Nat → Nat} {S SC SR : mq_St} {st W w ec ln wt m f : Nat} {R : List Nat} {k0 : mq_St → Option (Int32 × mq_St)}
theorem rf_st (hn : nuR S F st W w ec ln wt) (hF : F ≤ 100000) (h1 : st < F) : zf_X11_step N z S = some (1, mq_si S 19 (nI (st + 1))) := by
  rw [rf_step hn.2.1 hn.1 (by omega) hF, if_pos h1]
theorem rf_ln {r f : Int32} (hn : nuR S F st W w ec ln wt) (h2 : ln < 1299) : zf_X11_line N z r f (mq_si S 19 (nI (st + 1))) = some (1, stR S st ln r f) := by
  rw [rf_line (S := mq_si S 19 (nI (st + 1))) (ln := ln) r f hn.2.2.2.2.2.1 (by omega), if_pos h2]
  rfl
theorem rf_pu {g : Nat} {k : mq_St → Option (Int32 × mq_St)} {y : Int32} (hy : y = nI g) (hg : g < 320) : ∃ a, mq_cl (zf_X11_put N (fun k => [10].getD k 0) 0 y (mq_pull S [] [17] [])) (fun _ q => mq_nS (mq_push S q [] [17] []) k) = k (mq_sa S 17 a) ∧ ∀ h, h < 320 → ib a 0 h = (ib (S.2.1 17) 0 h || decide (h = g)) := by
  subst hy
  obtain ⟨a, e1, e2, e3⟩ := rf_put (N := N) (S := S) hg
  exact ⟨a, (cl_go e1).trans ((nS_go e2).trans rfl), e3⟩
theorem dz_fail (h23 : S.1 23 = 0) (hF : F ≤ 100000) (hn : nuR S F st W w ec ln wt) (h1 : ¬ st < F) (h0 : st ≤ F) : zf_X11_step N z S = some (0, mq_si S 23 (-3)) := by
  rw [rf_step hn.2.1 hn.1 h0 hF, if_neg h1]
theorem ln_fail {r f : Int32} (hn : nuR S F st W w ec ln wt) (h2 : ¬ ln < 1299) (h3 : ln ≤ 1299) : zf_X11_line N z r f (mq_si S 19 (nI (st + 1))) = some (0, mq_si (mq_si S 19 (nI (st + 1))) 23 (-4)) := by
  rw [rf_line (S := mq_si S 19 (nI (st + 1))) (ln := ln) r f hn.2.2.2.2.2.1 h3, if_neg h2]
theorem nI_nm {f : Nat} (h : f < 300) : ¬ nI f = -1 := fun q => by
  have := sp_m1 (a := f) (by omega)
  exact absurd q (by simpa using this)
theorem dz_both (hx : cxR S n so on tw d) (hn : nuR S F st W w ec ln wt) (hF : F ≤ 100000) (hS : st ≤ F) (hL : ln ≤ 1299) (hf : f < n) (hs : so f = nI 4) (hcl : zf_X11_clash N z S = some (-1)) (hb : zf_X11_firstBoth N z S = some (nI f)) :
    (st < F → ln < 1299 → ∃ a, zf_X11_down_zb N z k0 S = k0 (mq_sa (stR S st ln (nI 1) (nI f)) 17 a) ∧ ∀ g, g < 320 → ib a 0 g = (ib (S.2.1 17) 0 g || pA on tw 4 f g)) ∧ (¬ st < F → zf_X11_down_zb N z k0 S = k0 (mq_si S 23 (-3))) ∧ (st < F → ¬ ln < 1299 → zf_X11_down_zb N z k0 S = k0 (mq_si (mq_si S 19 (nI (st + 1))) 23 (-4))) := by
  have hfw := hx.2.2.2
  have h300 := hfw.2.1
  obtain ⟨p1f, p2f, p3f, p4f⟩ := fw_1 hfw hf hs (by omega) (by omega)
  obtain ⟨p5f, p6f⟩ := p3f (by omega)
  have i1 : vp_in (nI f) 300 := vp_in_nI (by omega) (by omega)
  have c1 : (nI f).toNatClampNeg = f := nI_clamp (by omega)
  refine ⟨fun h1 h2 => ?_, fun h1 => ?_, fun h1 h2 => ?_⟩
  · obtain ⟨a, e1, e2⟩ := rf_pu (N := N) (S := stR S st ln (nI 1) (nI f)) (g := p1 on f) (y := S.2.1 3 f) (k := fun S56 => mq_ck (nI f) 300 (mq_cl (zf_X11_put N (fun k => [10].getD k 0) 0 (S56.2.1 4 f) (mq_pull S56 [] [17] [])) (fun _ q => mq_nS (mq_push S56 q [] [17] []) k0))) ((hx.2.1 f hf).2.1.trans p2f) (by omega)
    obtain ⟨b, e3, e4⟩ := rf_pu (N := N) (S := mq_sa (stR S st ln (nI 1) (nI f)) 17 a) (g := p1 tw f) (y := S.2.1 4 f) (k := k0) ((hx.2.1 f hf).2.2.trans p6f) (by omega)
    refine ⟨b, ?_, fun g hg => ?_⟩
    · unfold zf_X11_down_zb
      rw [if_pos hn.2.2.2.2.2.2.1]
      refine (cp_go hcl).trans ?_
      rw [nI_e, if_pos rfl]
      refine (cp_go hb).trans ?_
      rw [nI_e, if_neg (nI_nm (by omega))]
      refine (cl_go (rf_st hn hF h1)).trans ?_
      rw [if_neg (by decide)]
      refine (cl_go (rf_ln (r := 1) (f := nI f) hn h2)).trans ?_
      rw [if_neg (by decide), mq_ck_of i1, c1]
      refine e1.trans ?_
      rw [mq_ck_of i1]
      refine e3.trans ?_
      rw [sa_sa]
    · rw [e4 g hg]
      show (ib a 0 g || _) = _
      rw [e2 g hg]
      show (ib (S.2.1 17) 0 g || _ || _) = _
      unfold pA
      by_cases e' : g = p1 on f <;> by_cases e'' : g = p1 tw f <;> simp [e', e'']
  · unfold zf_X11_down_zb
    rw [if_pos hn.2.2.2.2.2.2.1]
    refine (cp_go hcl).trans ?_
    rw [nI_e, if_pos rfl]
    refine (cp_go hb).trans ?_
    rw [nI_e, if_neg (nI_nm (by omega))]
    refine (cl_go (dz_fail hn.2.2.2.2.2.2.1 hF hn h1 hS)).trans ?_
    rw [if_pos rfl]
  · unfold zf_X11_down_zb
    rw [if_pos hn.2.2.2.2.2.2.1]
    refine (cp_go hcl).trans ?_
    rw [nI_e, if_pos rfl]
    refine (cp_go hb).trans ?_
    rw [nI_e, if_neg (nI_nm (by omega))]
    refine (cl_go (rf_st hn hF h1)).trans ?_
    rw [if_neg (by decide)]
    refine (cl_go (ln_fail (r := 1) (f := nI f) hn h2 hL)).trans ?_
    rw [if_pos rfl]
theorem dz_self (hx : cxR S n so on tw d) (hn : nuR S F st W w ec ln wt) (hF : F ≤ 100000) (hS : st ≤ F) (hL : ln ≤ 1299) (hf : f < n) (hs : so f = nI 6) (hcl : zf_X11_clash N z S = some (-1)) (hb : zf_X11_firstBoth N z S = some (-1)) (hc : zf_X11_firstSelf N z S = some (nI f)) :
    (st < F → ln < 1299 → ∃ a, zf_X11_down_zb N z k0 S = k0 (mq_sa (stR S st ln (nI 2) (nI f)) 17 a) ∧ ∀ g, g < 320 → ib a 0 g = (ib (S.2.1 17) 0 g || pA on tw 6 f g)) ∧ (¬ st < F → zf_X11_down_zb N z k0 S = k0 (mq_si S 23 (-3))) ∧ (st < F → ¬ ln < 1299 → zf_X11_down_zb N z k0 S = k0 (mq_si (mq_si S 19 (nI (st + 1))) 23 (-4))) := by
  have hfw := hx.2.2.2
  have h300 := hfw.2.1
  obtain ⟨p1f, p2f, p3f, p4f⟩ := fw_1 hfw hf hs (by omega) (by omega)
  have i1 : vp_in (nI f) 300 := vp_in_nI (by omega) (by omega)
  have c1 : (nI f).toNatClampNeg = f := nI_clamp (by omega)
  refine ⟨fun h1 h2 => ?_, fun h1 => ?_, fun h1 h2 => ?_⟩
  · obtain ⟨a, e1, e2⟩ := rf_pu (N := N) (S := stR S st ln (nI 2) (nI f)) (g := p1 on f) (y := S.2.1 3 f) (k := k0) ((hx.2.1 f hf).2.1.trans p2f) (by omega)
    refine ⟨a, ?_, fun g hg => ?_⟩
    · unfold zf_X11_down_zb
      rw [if_pos hn.2.2.2.2.2.2.1]
      refine (cp_go hcl).trans ?_
      rw [nI_e, if_pos rfl]
      refine (cp_go hb).trans ?_
      rw [nI_e, if_pos rfl]
      refine (cp_go hc).trans ?_
      rw [nI_e, if_neg (nI_nm (by omega))]
      refine (cl_go (rf_st hn hF h1)).trans ?_
      rw [if_neg (by decide)]
      refine (cl_go (rf_ln (r := 2) (f := nI f) hn h2)).trans ?_
      rw [if_neg (by decide), mq_ck_of i1, c1]
      exact e1
    · rw [e2 g hg]
      show (ib (S.2.1 17) 0 g || _) = _
      unfold pA
      by_cases e' : g = p1 on f <;> simp [e']
  · unfold zf_X11_down_zb
    rw [if_pos hn.2.2.2.2.2.2.1]
    refine (cp_go hcl).trans ?_
    rw [nI_e, if_pos rfl]
    refine (cp_go hb).trans ?_
    rw [nI_e, if_pos rfl]
    refine (cp_go hc).trans ?_
    rw [nI_e, if_neg (nI_nm (by omega))]
    refine (cl_go (dz_fail hn.2.2.2.2.2.2.1 hF hn h1 hS)).trans ?_
    rw [if_pos rfl]
  · unfold zf_X11_down_zb
    rw [if_pos hn.2.2.2.2.2.2.1]
    refine (cp_go hcl).trans ?_
    rw [nI_e, if_pos rfl]
    refine (cp_go hb).trans ?_
    rw [nI_e, if_pos rfl]
    refine (cp_go hc).trans ?_
    rw [nI_e, if_neg (nI_nm (by omega))]
    refine (cl_go (rf_st hn hF h1)).trans ?_
    rw [if_neg (by decide)]
    refine (cl_go (ln_fail (r := 2) (f := nI f) hn h2 hL)).trans ?_
    rw [if_pos rfl]
/-- the reference behind an EITHER's first part -/
def eiR (S : mq_St) (st ec ln wt f : Nat) (q a : Nat → Int32) : mq_St := mq_sa (mq_si (mq_sa (mq_sa (mq_sa (mq_sa (mq_sa (mq_sa (mq_si (stR S st ln (nI 3) (nI f)) 28 (nI (ec + 1))) 25 (upd (S.2.1 25) wt 1)) 26 (upd (S.2.1 26) wt (nI f))) 27 (upd (S.2.1 27) wt (S.1 25))) 28 (upd (S.2.1 28) wt (S.1 24))) 29 (upd (S.2.1 29) wt (nI (ln + 1)))) 30 q) 27 (nI (wt + 1))) 17 a
theorem dz_either (hN : 20 ≤ N) (hx : cxR S n so on tw d) (hn : nuR S F st W w ec ln wt) (hF : F ≤ 100000) (hS : st ≤ F) (hL : ln ≤ 1299) (hE : ec ≤ 400) (hW : ec < 400 → wt < 470) (hf : f < n) (hs : so f = nI 5) (hcl : zf_X11_clash N z S = some (-1)) (hb : zf_X11_firstBoth N z S = some (-1)) (hc : zf_X11_firstSelf N z S = some (-1)) (hd : zf_X11_firstEither N z S = some (nI f)) :
    (st < F → ln < 1299 → ec < 400 → ∃ q a, zf_X11_down_zb N z k0 S = k0 (eiR S st ec ln wt f q a) ∧ (∀ e g, g < 320 → ib q e g = if e = wt then ib (S.2.1 17) 0 g else ib (S.2.1 30) e g) ∧ ∀ g, g < 320 → ib a 0 g = (ib (S.2.1 17) 0 g || decide (g = p1 on f))) ∧ (¬ st < F → zf_X11_down_zb N z k0 S = k0 (mq_si S 23 (-3))) ∧ (st < F → ¬ (ln < 1299 ∧ ec < 400) → ∃ S', zf_X11_down_zb N z k0 S = k0 (mq_si S' 23 (-4)) ∧ S'.1 19 = nI (st + 1) ∧ ag [19, 23, 26] [23, 24] [] S S') := by
  have hfw := hx.2.2.2
  have h300 := hfw.2.1
  obtain ⟨p1f, p2f, p3f, p4f⟩ := fw_1 hfw hf hs (by omega) (by omega)
  have i1 : vp_in (nI f) 300 := vp_in_nI (by omega) (by omega)
  have c1 : (nI f).toNatClampNeg = f := nI_clamp (by omega)
  have e28 : (nI ec = (400 : Int32)) ↔ ec = 400 := nI_eq (b := 400) (by omega) (by omega)
  have pre : zf_X11_down_zb N z k0 S = mq_cl (zf_X11_step N z S) (fun q14v S16 => (if q14v = (0 : Int32) then (zf_X11_down_236 N z k0 S16) else (mq_cl (zf_X11_line N z ((3 : Int32)) (nI f) S16) (fun q17v S19 => (if q17v = (0 : Int32) then (zf_X11_down_236 N z k0 S19) else (if (S19.1 28) = (400 : Int32) then (mq_nS (mq_si S19 23 ((-4 : Int32))) (fun S28 => (zf_X11_down_236 N z k0 S28))) else (mq_nS (mq_si S19 28 (((S19.1 28) + (1 : Int32)))) (fun S20 => (mq_cl (zf_X11_waits N z ((1 : Int32)) (nI f) S20) (fun q21v S23 => (mq_ck (nI f) 300 (mq_cl (zf_X11_put N (fun k => [10].getD k 0) ((0 : Int32)) ((S23.2.1 3 (nI f).toNatClampNeg)) (mq_pull S23 [] [17] [])) (fun q25v q25s => mq_nS (mq_push S23 q25s [] [17] []) (fun S27 => (zf_X11_down_236 N z k0 S27))))))))))))))) := by
    unfold zf_X11_down_zb
    rw [if_pos hn.2.2.2.2.2.2.1]
    refine (cp_go hcl).trans ?_
    rw [nI_e, if_pos rfl]
    refine (cp_go hb).trans ?_
    rw [nI_e, if_pos rfl]
    refine (cp_go hc).trans ?_
    rw [nI_e, if_pos rfl]
    refine (cp_go hd).trans ?_
    rw [nI_e, if_neg (nI_nm (by omega))]
  refine ⟨fun h1 h2 h3 => ?_, fun h1 => ?_, fun h1 h2 => ?_⟩
  · have h27 : (mq_si (stR S st ln (nI 3) (nI f)) 28 (nI (ec + 1))).1 27 = nI wt := hn.2.2.2.2.2.2.2
    obtain ⟨q, e1, e2⟩ := rf_waits (N := N) (z := z) (S := mq_si (stR S st ln (nI 3) (nI f)) 28 (nI (ec + 1))) (wt := wt) hN 1 (nI f) h27 (hW h3) (Or.inr rfl)
    obtain ⟨a, e3, e4⟩ := rf_pu (N := N) (S := mq_si (mq_sa (mq_sa (mq_sa (mq_sa (mq_sa (mq_sa (mq_si (stR S st ln (nI 3) (nI f)) 28 (nI (ec + 1))) 25 (upd (S.2.1 25) wt 1)) 26 (upd (S.2.1 26) wt (nI f))) 27 (upd (S.2.1 27) wt (S.1 25))) 28 (upd (S.2.1 28) wt (S.1 24))) 29 (upd (S.2.1 29) wt (nI (ln + 1)))) 30 q) 27 (nI (wt + 1))) (g := p1 on f) (y := S.2.1 3 f) (k := k0) ((hx.2.1 f hf).2.1.trans p2f) (by omega)
    refine ⟨q, a, ?_, e2, e4⟩
    rw [pre]
    refine (cl_go (rf_st hn hF h1)).trans ?_
    rw [if_neg (by decide)]
    refine (cl_go (rf_ln (r := 3) (f := nI f) hn h2)).trans ?_
    rw [if_neg (by decide), show (stR S st ln 3 (nI f)).1 28 = nI ec from hn.2.2.2.2.1, if_neg (fun q => by have := e28.mp q; omega), nS_e, nI_1]
    refine (cl_go e1).trans ?_
    rw [mq_ck_of i1, c1]
    exact e3
  · rw [pre]
    refine (cl_go (dz_fail hn.2.2.2.2.2.2.1 hF hn h1 hS)).trans ?_
    rw [if_pos rfl]
    rfl
  · rw [pre]
    by_cases h3 : ln < 1299
    · refine ⟨stR S st ln (nI 3) (nI f), ?_, rfl, ⟨fun j hj => ?_, fun j hj => ?_, fun j _ => rfl⟩⟩
      · refine (cl_go (rf_st hn hF h1)).trans ?_
        rw [if_neg (by decide)]
        refine (cl_go (rf_ln (r := 3) (f := nI f) hn h3)).trans ?_
        rw [if_neg (by decide), show (stR S st ln 3 (nI f)).1 28 = nI ec from hn.2.2.2.2.1, if_pos (e28.mpr (by omega)), nS_e]
        rfl
      · simp only [List.mem_cons, List.not_mem_nil, or_false, not_or] at hj
        show (if j = 26 then _ else (if j = 19 then _ else _)) = _
        rw [if_neg hj.2.2, if_neg hj.1]
      · simp only [List.mem_cons, List.not_mem_nil, or_false, not_or] at hj
        show (if j = 24 then _ else (if j = 23 then _ else _)) = _
        rw [if_neg hj.2, if_neg hj.1]
        rfl
    · refine ⟨mq_si S 19 (nI (st + 1)), ?_, rfl, ag_si (by decide)⟩
      refine (cl_go (rf_st hn hF h1)).trans ?_
      rw [if_neg (by decide)]
      refine (cl_go (ln_fail (r := 3) (f := nI f) hn h3 hL)).trans ?_
      rw [if_pos rfl]
      rfl
end DOWNS
end
/-! 9r.first -/
section
/-! The tableau: a turn that tries the first part of an EITHER. -/
section FIRST
variable {N n F : Nat} {z : Nat → Nat} {so on tw : Nat → Int32} {d : Nat → Nat} {S SC SR : mq_St} {st W w ec ln wt m f : Nat} {R : List Nat}
/-- a row of one array of sets into another one's -/
theorem ck_cp {a b ra rb RA RB : Nat} {y : Nat → Nat} (hN : 10 ≤ N) (hab : a ≠ b) (hy0 : y 0 = 5 * RA) (hy1 : y 1 = 5 * RB) (hRA : RA < 10000) (hRB : RB < 10000) (h1 : ra < RA) (h2 : rb < RB) : ∃ q', zf_X6_copy N y (nI ra) (nI rb) (mq_pull S [] [] [a, b]) = some ((), mq_sl (mq_pull S [] [] [a, b]) 0 q') ∧ mq_push S (mq_sl (mq_pull S [] [] [a, b]) 0 q') [] [] [a, b] = mq_sl S a q' ∧ ∀ r g, g < 320 → lb q' r g = if r = ra then lb (S.2.2 b) rb g else lb (S.2.2 a) r g := by
  obtain ⟨q', e1, e2⟩ := se_copy (N := N) (R := RA) (R' := RB) (r := ra) (r' := rb) (z := y) (S := mq_pull S [] [] [a, b]) hN hy0 hy1 hRA hRB h1 h2
  refine ⟨q', e1, ?_, e2⟩
  refine Prod.ext rfl (Prod.ext rfl ?_)
  funext q
  show (match [a, b].idxOf? q with | some j => (mq_sl (mq_pull S [] [] [a, b]) 0 q').2.2 j | none => S.2.2 q) = if q = a then q' else S.2.2 q
  by_cases ea : q = a
  · have : [a, b].idxOf? q = some 0 := by rw [ea]; simp [List.idxOf?, List.findIdx?_cons]
    rw [this, if_pos ea]
    rfl
  · by_cases eb : q = b
    · have : [a, b].idxOf? q = some 1 := by
        rw [eb]
        simp [List.idxOf?, List.findIdx?_cons, hab]
      rw [this, if_neg ea, eb]
      rfl
    · rw [if_neg ea, List.idxOf?_eq_none_iff.mpr (by simp [ea, eb])]
theorem ck_st (hn : nuC S F st W w ec ln) (hF : F ≤ 100000) (h1 : st < F) : zf_X8_step N z S = some (1, mq_sa S 21 (upd (S.2.1 21) 0 (nI (st + 1)))) := by rw [ck_step hn.2.1 hn.1 (by omega) hF, if_pos h1]
theorem ck_sf (hn : nuC S F st W w ec ln) (hF : F ≤ 100000) (h0 : st ≤ F) (h1 : ¬ st < F) : zf_X8_step N z S = some (0, mq_si S 19 (-3)) := by rw [ck_step hn.2.1 hn.1 h0 hF, if_neg h1]
theorem ck_nt {r f : Int32} (hn : nuC S F st W w ec ln) (h2 : ln < 1299) : zf_X8_note N z r f (mq_sa S 21 (upd (S.2.1 21) 0 (nI (st + 1)))) = some (1, stC S st ln r f) := by rw [ck_note (S := mq_sa S 21 (upd (S.2.1 21) 0 (nI (st + 1)))) (ln := ln) r f hn.2.2.2.2.2.1 (by omega), if_pos h2]; rfl
theorem ck_nf {r f : Int32} (hn : nuC S F st W w ec ln) (h3 : ln ≤ 1299) (h2 : ¬ ln < 1299) : zf_X8_note N z r f (mq_sa S 21 (upd (S.2.1 21) 0 (nI (st + 1)))) = some (0, mq_si (mq_sa S 21 (upd (S.2.1 21) 0 (nI (st + 1)))) 19 (-4)) := by rw [ck_note (S := mq_sa S 21 (upd (S.2.1 21) 0 (nI (st + 1)))) (ln := ln) r f hn.2.2.2.2.2.1 h3, if_neg h2]
/-- the class behind an EITHER's first part, but for what it added -/
def eiC (S : mq_St) (st ec ln f : Nat) (q : Nat → Int64) : mq_St := mq_si (mq_sa (mq_sl (stC S st ln (nI 3) (nI f)) 5 q) 20 (upd (S.2.1 20) ec (nI f))) 14 (nI (ec + 1))
theorem ck_first (hN : 10 ≤ N) (hc : cxC S n so on tw d) (hw : w < 60) (hn : nuC S F st W w ec ln) (hF : F ≤ 100000) (hS : st ≤ F) (hL : ln ≤ 1299) (hE : ec ≤ 400) (hf : f < n) (hs : so f = nI 5) (hcl : clV n so d (lb (S.2.2 3) w) (S.1 17)) :
    (st < F → ln < 1299 → ec < 400 → ∃ q c l3 l4, zf_X8_tryFirst N z (nI f) S = some ((), mq_sl (mq_sl (mq_si (eiC S st ec ln f q) 17 c) 3 l3) 4 l4) ∧ (∀ e g, g < 320 → lb q e g = if e = ec then lb (S.2.2 3) w g else lb (S.2.2 5) e g) ∧ (∀ v g, g < 320 → lb l3 v g = (lb (S.2.2 3) v g || (decide (v = w) && decide (g = p1 on f)))) ∧ (∀ v g, g < 320 → lb l4 v g = (lb (S.2.2 4) v g || (decide (v = w) && decide (g = p1 on f)))) ∧ clV n so d (lb l3 w) c) ∧
    (¬ st < F → zf_X8_tryFirst N z (nI f) S = some ((), mq_si S 19 (-3))) ∧ (st < F → ¬ (ln < 1299 ∧ ec < 400) → zf_X8_tryFirst N z (nI f) S = some ((), mq_si (mq_sa S 21 (upd (S.2.1 21) 0 (nI (st + 1)))) 19 (-4))) := by
  have hfw := hc.2.2.2
  obtain ⟨p1f, p2f, p3f, p4f⟩ := fw_1 hfw hf hs (by omega) (by omega)
  have h300 := hfw.2.1
  have e14 : (nI ec < (400 : Int32)) ↔ ec < 400 := nI_ltI (b := 400) (by omega) (by omega)
  refine ⟨fun h1 h2 h3 => ?_, fun h1 => ?_, fun h1 h2 => ?_⟩
  · obtain ⟨q, e1, e2, e3⟩ := ck_cp (N := N) (S := stC S st ln (nI 3) (nI f)) (a := 5) (b := 3) (ra := ec) (rb := w) (RA := 666) (RB := 60) (y := fun k => [3330, 300].getD k 0) hN (by decide) rfl rfl (by omega) (by omega) (by omega) hw
    have hcT : cxC (eiC S st ec ln f q) n so on tw d := cxC_c hc rfl rfl rfl rfl rfl rfl
    have e4 : zf_X7_firstOf N z (nI f) (eiC S st ec ln f q) = some (nI (p1 on f)) := by rw [(ck_in hcT.1 h300 hf).2.1, (hcT.2.1 f hf).2.1, ← p2f]
    obtain ⟨S1, l3, l4, a1, a2, a3, a4, a5, a6, a7⟩ := ck_add (N := N) (z := z) (f := p1 on f) hcT hw hn.2.2.2.1 (by omega) hcl
    refine ⟨q, S1.1 17, l3, l4, ?_, e3, fun v g hg => ?_, fun v g hg => ?_, a6⟩
    · have := ag_3 a7
      rw [a2, a3] at this
      rw [← this]
      unfold zf_X8_tryFirst
      refine (cl_go (ck_st hn hF h1)).trans ?_
      rw [if_neg (by decide), show (mq_sa S 21 (upd (S.2.1 21) 0 (nI (st + 1)))).1 14 = nI ec from hn.2.2.2.2.1, if_pos (e14.mpr h3)]
      refine (cl_go (ck_nt (r := 3) (f := nI f) hn h2)).trans ?_
      have x14 : (stC S st ln 3 (nI f)).1 14 = nI ec := hn.2.2.2.2.1
      rw [if_neg (by decide), x14, show (stC S st ln 3 (nI f)).1 16 = nI w from hn.2.2.2.1]
      refine (cl_go e1).trans ((nS_go e2 (k := fun S9 => (mq_ck ((S9.1 14)) 400 (mq_nS (mq_sa S9 20 (upd (S9.2.1 20) ((S9.1 14)).toNatClampNeg (nI f))) (fun S11 => (mq_nS (mq_si S11 14 (((S11.1 14) + (1 : Int32)))) (fun S12 => (mq_cp (zf_X7_firstOf N z (nI f) S12) (fun q13 => (mq_cl (zf_X8_add N z (q13) S12) (fun q15v S17 => (some ((), S17))))))))))))).trans ?_)
      rw [show (mq_sl (stC S st ln (nI 3) (nI f)) 5 q).1 14 = nI ec from hn.2.2.2.2.1, mq_ck_of (vp_in_nI h3 (by omega)), nI_clamp (by omega), nS_e, nS_e]
      have x15 : (mq_sa (mq_sl (stC S st ln (nI 3) (nI f)) 5 q) 20 (upd ((mq_sl (stC S st ln (nI 3) (nI f)) 5 q).2.1 20) ec (nI f))).1 14 = nI ec := hn.2.2.2.2.1
      rw [x15, nI_1]
      exact (cp_go e4).trans (cl_go a1)
    · rw [a4 v g hg]
      show (lb (S.2.2 3) v g || _) = _
      rw [Bool.decide_and]
    · rw [a5 v g hg]
      show (lb (S.2.2 4) v g || _) = _
      rw [Bool.decide_and]
  · unfold zf_X8_tryFirst
    refine (cl_go (ck_sf hn hF hS h1)).trans ?_
    rw [if_pos rfl]
  · unfold zf_X8_tryFirst
    refine (cl_go (ck_st hn hF h1)).trans ?_
    rw [if_neg (by decide), show (mq_sa S 21 (upd (S.2.1 21) 0 (nI (st + 1)))).1 14 = nI ec from hn.2.2.2.2.1]
    by_cases h3 : ec < 400
    · rw [if_pos (e14.mpr h3)]
      refine (cl_go (ck_nf (r := 3) (f := nI f) hn hL (fun q => h2 ⟨q, h3⟩))).trans ?_
      rw [if_pos rfl]
    · rw [if_neg (fun q => h3 (e14.mp q)), nS_e]
theorem Dn_ei {c : Int32} {l3 l4 q : Nat → Int64} {p a : Nat → Int32} (hfw : fw n so on tw d) (h : Dn n so on tw d F SC SR st w ec ln wt R) (h17 : SC.1 17 = -1) (h1 : st < F) (h2 : ln < 1299) (h3 : ec < 400) (hf : f < n) (hs : so f = nI 5)
    (b3 : ∀ v g, g < 320 → lb l3 v g = (lb (SC.2.2 3) v g || (decide (v = w) && decide (g = p1 on f)))) (b4 : ∀ v g, g < 320 → lb l4 v g = (lb (SC.2.2 4) v g || (decide (v = w) && decide (g = p1 on f)))) (hcl : clV n so d (lb l3 w) c) (ha : ∀ g, g < 320 → ib a 0 g = (ib (SR.2.1 17) 0 g || decide (g = p1 on f)))
    (hq : ∀ e g, g < 320 → lb q e g = if e = ec then lb (SC.2.2 3) w g else lb (SC.2.2 5) e g) (hp : ∀ e g, g < 320 → ib p e g = if e = wt then ib (SR.2.1 17) 0 g else ib (SR.2.1 30) e g) :
    Dn n so on tw d F (mq_sl (mq_sl (mq_si (eiC SC st ec ln f q) 17 c) 3 l3) 4 l4) (eiR SR st ec ln wt f p a) (st + 1) w (ec + 1) (ln + 1) (wt + 1) R := by
  obtain ⟨p1f, p2f, p3f, p4f⟩ := fw_1 hfw hf hs (by omega) (by omega)
  have h300 := hfw.2.1
  obtain ⟨⟨o1, o2, o3, o4, o5, o6⟩, ⟨n1, n2, n3, n4, n5, n6, n7⟩, ⟨m1, m2, m3, m4, m5, m6, m7, m8⟩, ⟨k1, k2, k3⟩, q5, q6, q7, q8, q9, q10, q11, q12, q13, q14⟩ := h
  have x3 : ∀ g, g < 320 → lb l3 w g = (lb (SC.2.2 3) w g || decide (g = p1 on f)) := fun g hg => by rw [b3 w g hg, decide_eq_true (rfl : w = w), Bool.true_and]
  have x4 : ∀ g, g < 320 → lb l4 w g = (lb (SC.2.2 4) w g || decide (g = p1 on f)) := fun g hg => by rw [b4 w g hg, decide_eq_true (rfl : w = w), Bool.true_and]
  have y3 : ∀ p g, p < w → g < 320 → lb l3 p g = lb (SC.2.2 3) p g := fun p g hp hg => by rw [b3 p g hg, decide_eq_false (by omega), Bool.false_and, Bool.or_false]
  have y4 : ∀ p g, p < w → g < 320 → lb l4 p g = lb (SC.2.2 4) p g := fun p g hp hg => by rw [b4 p g hg, decide_eq_false (by omega), Bool.false_and, Bool.or_false]
  obtain ⟨z1, z2⟩ := row_add (A := fun g => decide (g = p1 on f)) hfw x3 x4 (fun g _ q => by have := of_decide_eq_true q; omega) q9 q11
  have noc : ∀ c, c < n → ¬ cls so d (lb (SC.2.2 3) w) c := by
    rcases q10 with ⟨-, q⟩ | ⟨c, c1, c2, -⟩
    · exact q
    · exact absurd (c2.symm.trans h17) (nI_nm (by omega))
  have qe : ∀ g, g < 320 → lb q ec g = lb (SC.2.2 3) w g := fun g hg => by rw [hq ec g hg, if_pos rfl]
  refine ⟨⟨by omega, o2, o3, o4, by omega, by omega⟩, ⟨n1, rfl, n3, n4, rfl, rfl, n7⟩, ⟨m1, rfl, m3, m4, rfl, rfl, m7, rfl⟩, ⟨k1, k2, k3⟩, lins_put q5 (by omega) (by omega) rfl rfl rfl, q6, stk_put (stk_c (SC := SC) (SR := SR) hfw R w ec wt ln (ln + 1) (by omega) ⟨fun p _ => ⟨rfl, rfl⟩, fun p hp => ⟨rfl, fun g hg => ⟨y3 p g hp hg, y4 p g hp hg⟩⟩, fun j hj => ⟨up_o (by omega), fun g hg => ?_⟩⟩ (fun e he => ⟨up_o (by omega), up_o (by omega), up_o (by omega), up_o (by omega), up_o (by omega), fun g hg => ?_⟩) q7) ?_, fun g hg => ?_, z1, hcl, z2, q12, q13, fun u hu hR g hg => ?_⟩
  · show lb q j g = _
    rw [hq j g hg, if_neg (by omega)]
  · show ib p e g = _
    rw [hp e g hg, if_neg (by omega)]
  · refine ⟨up_s _ _ _, (up_s _ _ _).trans m4, (up_s _ _ _).trans m3, ⟨f, hf, hs, up_s _ _ _, up_s _ _ _⟩, fun g hg => ?_, fun g hg q => q9 g hg ((qe g hg).symm.trans q), fun c hc q => noc c hc ((cls_x hfw qe hc).mp q)⟩
    show ib p wt g = lb q ec g
    rw [hp wt g hg, if_pos rfl, qe g hg]; exact q8 g hg
  · show ib a 0 g = lb l3 w g
    rw [ha g hg, x3 g hg, q8 g hg]
  · show _ = lb l3 u g
    rw [y3 u g hu hg]; exact q14 u hu hR g hg
end FIRST
end
