/-! Sets once more: the lowest bit; copies; the reference's sets, ten ints each. -/
theorem low_bit {b : Int64} {j : Nat} (hj : j < 64) (hb : b.toBitVec.getLsbD j = true) (hl : ∀ i, i < j → b.toBitVec.getLsbD i = false) : b &&& -b = mq_lshl 1 (nI j) ∧ ∀ i, i < 64 → (b &&& (b - 1)).toBitVec.getLsbD i = (b.toBitVec.getLsbD i && decide (i ≠ j)) := by
  have ex : ∀ i, decide (∃ k, k < i ∧ b.toBitVec.getLsbD k = true) = decide (∃ k, k < i ∧ b.toBitVec.getLsbD k = true) := fun _ => rfl
  have ng : ∀ i, i < 64 → (-b).toBitVec.getLsbD i = (b.toBitVec.getLsbD i ^^ decide (∃ k, k < i ∧ b.toBitVec.getLsbD k = true)) := by
    intro i hi
    rw [Int64.toBitVec_neg, BitVec.getLsbD_neg, decide_eq_true hi, Bool.true_and]
  have below : ∀ i, i ≤ j → decide (∃ k, k < i ∧ b.toBitVec.getLsbD k = true) = false := fun i hi => decide_eq_false (by
    rintro ⟨k, h1, h2⟩
    rw [hl k (by omega)] at h2
    cases h2)
  have above : ∀ i, j < i → decide (∃ k, k < i ∧ b.toBitVec.getLsbD k = true) = true := fun i hi => decide_eq_true ⟨j, hi, hb⟩
  constructor
  · apply l_ext
    intro i hi
    rw [Int64.toBitVec_and, BitVec.getLsbD_and, ng i hi, l_one j hj i hi]
    rcases Nat.lt_trichotomy i j with h | h | h
    · rw [hl i h, Bool.false_and, decide_eq_false (show ¬ i = j by omega)]
    · rw [h, hb, below j (Nat.le_refl _), decide_eq_true rfl]; rfl
    · rw [above i h, decide_eq_false (show ¬ i = j by omega)]
      cases b.toBitVec.getLsbD i <;> rfl
  · intro i hi
    have e : (b - 1).toBitVec = ~~~(-b.toBitVec) := by
      rw [BitVec.not_neg, Int64.toBitVec_sub]
      rfl
    have nb : (b - 1).toBitVec.getLsbD i = !(b.toBitVec.getLsbD i ^^ decide (∃ k, k < i ∧ b.toBitVec.getLsbD k = true)) := by
      rw [e, BitVec.getLsbD_not, decide_eq_true hi, Bool.true_and, ← ng i hi, Int64.toBitVec_neg]
    rw [Int64.toBitVec_and, BitVec.getLsbD_and, nb]
    rcases Nat.lt_trichotomy i j with h | h | h
    · rw [hl i h, Bool.false_and, Bool.false_and]
    · rw [h, hb, below j (Nat.le_refl _), decide_eq_false (fun q => q rfl)]; rfl
    · rw [above i h, decide_eq_true (by omega : i ≠ j)]
      cases b.toBitVec.getLsbD i <;> rfl
theorem low_cnt {N : Nat} {z : Nat → Nat} {S : mq_St} : ∀ j, j < 64 → cb (nt (mq_lshl 1 (nI j) - 1)) 64 = j := by decide +kernel
theorem cb_less {u u' j : Nat} (hj : u.testBit j = true) : ∀ K, j < K → (∀ i, i < K → u'.testBit i = (u.testBit i && decide (i ≠ j))) → cb u' K + 1 = cb u K
  | 0, h, _ => by omega
  | K + 1, h, hu => by
    show cb u' K + (if u'.testBit K = true then 1 else 0) + 1 = cb u K + (if u.testBit K = true then 1 else 0)
    have hk := hu K (by omega)
    by_cases e : K = j
    · have same : ∀ k, k ≤ K → cb u' k = cb u k := by
        intro k
        induction k with
        | zero => intro _; rfl
        | succ k ih =>
          intro hk'
          show cb u' k + (if u'.testBit k = true then 1 else 0) = cb u k + (if u.testBit k = true then 1 else 0)
          rw [ih (by omega), hu k (by omega), decide_eq_true (show k ≠ j by omega), Bool.and_true]
      rw [same K (Nat.le_refl _), hk, e, hj, decide_eq_false (fun q => q rfl)]
      rfl
    · have := cb_less hj K (by omega) (fun i hi => hu i (by omega))
      rw [hk, decide_eq_true e, Bool.and_true]
      omega
theorem cb_zero {u : Nat} : ∀ K, cb u K = 0 ↔ ∀ i, i < K → u.testBit i = false
  | 0 => ⟨fun _ i hi => by omega, fun _ => rfl⟩
  | K + 1 => by
    have ih := cb_zero (u := u) K
    show cb u K + (if u.testBit K = true then 1 else 0) = 0 ↔ _
    constructor
    · intro h i hi
      by_cases e : i = K
      · rw [e]
        cases q : u.testBit K with
        | false => rfl
        | true => rw [q] at h; simp at h
      · exact ih.mp (by omega) i (by omega)
    · intro h
      rw [ih.mpr (fun i hi => h i (by omega)), h K (by omega)]
      rfl
theorem cb_le (u : Nat) : ∀ K, cb u K ≤ K
  | 0 => Nat.le_refl _
  | K + 1 => by
    have := cb_le u K
    show cb u K + (if u.testBit K = true then 1 else 0) ≤ K + 1
    split <;> omega
theorem least_bit {u : Nat} {K : Nat} (h : 0 < cb u K) : ∃ j, j < K ∧ u.testBit j = true ∧ ∀ i, i < j → u.testBit i = false := by
  have hex : ∃ j, j < K ∧ u.testBit j = true := by
    false_or_by_contra
    rename_i hn
    have : cb u K = 0 := (cb_zero K).mpr (fun i hi => by
      cases q : u.testBit i with
      | false => rfl
      | true => exact absurd ⟨i, hi, q⟩ hn)
    omega
  obtain ⟨j, hj, hm⟩ := pk_least (fun j => j < K ∧ u.testBit j = true) hex
  exact ⟨j, hj.1, hj.2, fun i hi => by
    cases q : u.testBit i with
    | false => rfl
    | true => exact absurd ⟨by omega, q⟩ (hm i hi)⟩
section SETS2
variable {N R R' : Nat} {z : Nat → Nat} {S : mq_St} {r r' f : Nat}
theorem se_bits {k : Nat} (hz : z 0 = 5 * R) (hR : R < 10000) (hr : r < R) (hk : k < 5) : zf_X6_bits N z (nI r) (nI k) S = some (S.2.2 0 (5 * r + k)) := by
  unfold zf_X6_bits
  have e1 : (64 : Int32) * nI k = nI (64 * k) := pk_mul 64 k
  have e2 : nI r * 5 + nI k = nI (5 * r + k) := by
    rw [show (5 : Int32) = nI 5 from rfl, pk_mul, nI_add]; congr 1; omega
  rw [e1, se_pl hz hR hr (by omega), mq_cp_s, if_neg (by decide), e2, hz, mq_ck_of (vp_in_nI (by omega) (by omega)), nI_clamp (by omega)]
theorem lb_k {w : Nat → Int64} {r f : Nat} : lb w r f = (w (5 * r + f / 64)).toBitVec.getLsbD (f % 64) := rfl
theorem lb_row {w : Nat → Int64} {x : Int64} {r k r2 f2 : Nat} (hk : k < 5) (hf : f2 < 320) : lb (vp_updL w (5 * r + k) x) r2 f2 = if r2 = r ∧ f2 / 64 = k then x.toBitVec.getLsbD (f2 % 64) else lb w r2 f2 := by
  unfold lb
  by_cases h : r2 = r ∧ f2 / 64 = k
  · rw [if_pos h, h.1, h.2, ul_s]
  · rw [if_neg h, ul_o (fun e => h (by omega))]
theorem se_empty (hN : 10 ≤ N) (hz : z 0 = 5 * R) (hR : R < 10000) (hr : r < R) : ∃ w', zf_X6_empty N z (nI r) S = some ((), mq_sl S 0 w') ∧ ∀ r2 f2, f2 < 320 → lb w' r2 f2 = (lb (S.2.2 0) r2 f2 && decide (r2 ≠ r)) := by
  have loop : ∀ (fuel k : Nat) (w : Nat → Int64), k ≤ 5 → 5 - k < fuel → (∀ r2 f2, f2 < 320 → lb w r2 f2 = (lb (S.2.2 0) r2 f2 && decide (¬ (r2 = r ∧ f2 / 64 < k)))) → ∃ w', zf_X6_empty_2 N z fuel (nI r) (nI k) (mq_sl S 0 w) = some ((), mq_sl S 0 w') ∧ ∀ r2 f2, f2 < 320 → lb w' r2 f2 = (lb (S.2.2 0) r2 f2 && decide (r2 ≠ r)) := by
    intro fuel
    induction fuel with
    | zero => intro k w _ h; omega
    | succ fuel ih =>
      intro k w hk hf hw
      show ∃ w', zf_X6_empty_2b N z (fun v1 v2 S => zf_X6_empty_2 N z fuel v1 v2 S) (nI r) (nI k) (mq_sl S 0 w) = some ((), mq_sl S 0 w') ∧ _
      unfold zf_X6_empty_2b
      by_cases e : k = 5
      · subst e
        rw [if_pos (by decide)]
        refine ⟨w, rfl, fun r2 f2 hf2 => ?_⟩
        rw [hw r2 f2 hf2]
        congr 1
        rw [decide_eq_decide]
        exact ⟨fun q e => q ⟨e, by omega⟩, fun q e => q e.1⟩
      · have e5 : ¬ (5 : Int32) ≤ nI k := nI_ge (b := 5) (by omega) (by omega)
        have e2 : nI r * 5 + nI k = nI (5 * r + k) := by
          rw [show (5 : Int32) = nI 5 from rfl, pk_mul, nI_add]; congr 1; omega
        rw [if_neg e5, show (0 : Int32) = nI 0 from rfl, se_pl hz hR hr (by omega), mq_cp_s, if_neg (by decide), e2, hz, mq_ck_of (vp_in_nI (by omega) (by omega)), nI_clamp (by omega), nS_e, nI_1, nI_e]
        obtain ⟨w', a1, a2⟩ := ih (k + 1) (vp_updL w (5 * r + k) 0) (by omega) (by omega) (fun r2 f2 hf2 => by
          rw [lb_row (by omega) hf2]
          by_cases h : r2 = r ∧ f2 / 64 = k
          · rw [if_pos h, decide_eq_false (fun q => q ⟨h.1, by omega⟩), Bool.and_false]
            exact BitVec.getLsbD_zero
          · rw [if_neg h, hw r2 f2 hf2]
            congr 1
            rw [decide_eq_decide]
            exact ⟨fun q e => q ⟨e.1, by have : ¬ f2 / 64 = k := fun x => h ⟨e.1, x⟩; omega⟩, fun q e => q ⟨e.1, by omega⟩⟩)
        exact ⟨w', by rw [← a1, sl_sl]; rfl, a2⟩
  obtain ⟨w', a1, a2⟩ := loop N 0 (S.2.2 0) (by omega) (by omega) (fun r2 f2 _ => by
    rw [decide_eq_true (show ¬ (r2 = r ∧ f2 / 64 < 0) by omega), Bool.and_true])
  refine ⟨w', ?_, a2⟩
  have e : mq_sl S 0 (S.2.2 0) = S := by
    unfold mq_sl
    refine Prod.ext rfl (Prod.ext rfl ?_)
    funext j
    show (if j = 0 then S.2.2 0 else S.2.2 j) = S.2.2 j
    by_cases q : j = 0
    · rw [if_pos q, q]
    · rw [if_neg q]
  rw [e] at a1
  exact a1
/-- a row is set by a row of another one: copy, meet -/
theorem se_copy (hN : 10 ≤ N) (hz : z 0 = 5 * R) (hz' : z 1 = 5 * R') (hR : R < 10000) (hR' : R' < 10000) (hr : r < R) (hr' : r' < R') : ∃ w', zf_X6_copy N z (nI r) (nI r') S = some ((), mq_sl S 0 w') ∧ ∀ r2 f2, f2 < 320 → lb w' r2 f2 = if r2 = r then lb (S.2.2 1) r' f2 else lb (S.2.2 0) r2 f2 := by
  have loop : ∀ (fuel k : Nat) (w : Nat → Int64), k ≤ 5 → 5 - k < fuel → (∀ r2 f2, f2 < 320 → lb w r2 f2 = if r2 = r ∧ f2 / 64 < k then lb (S.2.2 1) r' f2 else lb (S.2.2 0) r2 f2) → ∃ w', zf_X6_copy_28 N z fuel (nI r) (nI r') 1 (nI k) (mq_sl S 0 w) = some ((), mq_sl S 0 w') ∧ ∀ r2 f2, f2 < 320 → lb w' r2 f2 = if r2 = r then lb (S.2.2 1) r' f2 else lb (S.2.2 0) r2 f2 := by
    intro fuel
    induction fuel with
    | zero => intro k w _ h; omega
    | succ fuel ih =>
      intro k w hk hf hw
      show ∃ w', zf_X6_copy_28b N z (fun v1 v3 v4 v5 S => zf_X6_copy_28 N z fuel v1 v3 v4 v5 S) (nI r) (nI r') 1 (nI k) (mq_sl S 0 w) = some ((), mq_sl S 0 w') ∧ _
      unfold zf_X6_copy_28b
      by_cases e : k = 5
      · subst e
        rw [if_pos (by decide)]
        refine ⟨w, rfl, fun r2 f2 hf2 => ?_⟩
        rw [hw r2 f2 hf2]
        by_cases q : r2 = r
        · rw [if_pos q, if_pos ⟨q, by omega⟩]
        · rw [if_neg q, if_neg (fun x => q x.1)]
      · have e5 : ¬ (5 : Int32) ≤ nI k := nI_ge (b := 5) (by omega) (by omega)
        have e2 : ∀ q : Nat, nI q * 5 + nI k = nI (5 * q + k) := fun q => by
          rw [show (5 : Int32) = nI 5 from rfl, pk_mul, nI_add]; congr 1; omega
        rw [if_neg e5, if_neg (by decide), e2, e2, hz, hz', mq_ck_of (vp_in_nI (by omega) (by omega)), mq_ck_of (vp_in_nI (by omega) (by omega)), nI_clamp (by omega), nI_clamp (by omega), nS_e, nI_1, nI_e]
        obtain ⟨w', a1, a2⟩ := ih (k + 1) (vp_updL w (5 * r + k) (S.2.2 1 (5 * r' + k))) (by omega) (by omega) (fun r2 f2 hf2 => by
          rw [lb_row (by omega) hf2]
          by_cases h : r2 = r ∧ f2 / 64 = k
          · rw [if_pos h, if_pos ⟨h.1, by omega⟩, lb_k, h.2]
          · rw [if_neg h, hw r2 f2 hf2]
            by_cases q : r2 = r ∧ f2 / 64 < k
            · rw [if_pos q, if_pos ⟨q.1, by omega⟩]
            · rw [if_neg q, if_neg (fun x => by
                have : ¬ f2 / 64 = k := fun y => h ⟨x.1, y⟩
                exact q ⟨x.1, by omega⟩)])
        exact ⟨w', by rw [← a1, sl_sl]; rfl, a2⟩
  obtain ⟨w', a1, a2⟩ := loop N 0 (S.2.2 0) (by omega) (by omega) (fun r2 f2 _ => by rw [if_neg (fun q => by omega)])
  refine ⟨w', ?_, a2⟩
  have e : mq_sl S 0 (S.2.2 0) = S := by
    unfold mq_sl
    refine Prod.ext rfl (Prod.ext rfl ?_)
    funext j
    show (if j = 0 then S.2.2 0 else S.2.2 j) = S.2.2 j
    by_cases q : j = 0
    · rw [if_pos q, q]
    · rw [if_neg q]
  rw [e] at a1
  unfold zf_X6_copy zf_X6_copy_23
  rw [show (0 : Int32) = nI 0 from rfl, se_pl (R := R) (z := fun k => [z 0].getD k 0) (S := mq_pull S [] [] [0]) hz hR hr (by omega), mq_cp_s, if_neg (by decide), se_pl (R := R') (z := fun k => [z 1].getD k 0) (S := mq_pull S [] [] [1]) hz' hR' hr' (by omega), mq_cp_s, if_neg (by decide), nI_e, nI_e]
  exact a1
theorem se_meet (hN : 10 ≤ N) (hz : z 0 = 5 * R) (hz' : z 1 = 5 * R') (hR : R < 10000) (hR' : R' < 10000) (hr : r < R) (hr' : r' < R') : ∃ w', zf_X6_meet N z (nI r) (nI r') S = some ((), mq_sl S 0 w') ∧ ∀ r2 f2, f2 < 320 → lb w' r2 f2 = if r2 = r then (lb (S.2.2 0) r f2 && lb (S.2.2 1) r' f2) else lb (S.2.2 0) r2 f2 := by
  have loop : ∀ (fuel k : Nat) (w : Nat → Int64), k ≤ 5 → 5 - k < fuel → (∀ i, 5 * r + k ≤ i → i < 5 * r + 5 → w i = S.2.2 0 i) → (∀ r2 f2, f2 < 320 → lb w r2 f2 = if r2 = r ∧ f2 / 64 < k then (lb (S.2.2 0) r f2 && lb (S.2.2 1) r' f2) else lb (S.2.2 0) r2 f2) → ∃ w', zf_X6_meet_28 N z fuel (nI r) (nI r') 1 (nI k) (mq_sl S 0 w) = some ((), mq_sl S 0 w') ∧ ∀ r2 f2, f2 < 320 → lb w' r2 f2 = if r2 = r then (lb (S.2.2 0) r f2 && lb (S.2.2 1) r' f2) else lb (S.2.2 0) r2 f2 := by
    intro fuel
    induction fuel with
    | zero => intro k w _ h; omega
    | succ fuel ih =>
      intro k w hk hf hs hw
      show ∃ w', zf_X6_meet_28b N z (fun v1 v3 v4 v5 S => zf_X6_meet_28 N z fuel v1 v3 v4 v5 S) (nI r) (nI r') 1 (nI k) (mq_sl S 0 w) = some ((), mq_sl S 0 w') ∧ _
      unfold zf_X6_meet_28b
      by_cases e : k = 5
      · subst e
        rw [if_pos (by decide)]
        refine ⟨w, rfl, fun r2 f2 hf2 => ?_⟩
        rw [hw r2 f2 hf2]
        by_cases q : r2 = r
        · rw [if_pos q, if_pos ⟨q, by omega⟩]
        · rw [if_neg q, if_neg (fun x => q x.1)]
      · have e5 : ¬ (5 : Int32) ≤ nI k := nI_ge (b := 5) (by omega) (by omega)
        have e2 : ∀ q : Nat, nI q * 5 + nI k = nI (5 * q + k) := fun q => by
          rw [show (5 : Int32) = nI 5 from rfl, pk_mul, nI_add]; congr 1; omega
        rw [if_neg e5, if_neg (by decide), e2, e2, hz, hz', mq_ck_of (vp_in_nI (by omega) (by omega)), mq_ck_of (vp_in_nI (by omega) (by omega)), mq_ck_of (vp_in_nI (by omega) (by omega)), nI_clamp (by omega), nI_clamp (by omega), nS_e, nI_1, nI_e]
        obtain ⟨w', a1, a2⟩ := ih (k + 1) (vp_updL w (5 * r + k) (w (5 * r + k) &&& S.2.2 1 (5 * r' + k))) (by omega) (by omega) (fun i h1 h2 => by rw [ul_o (by omega)]; exact hs i (by omega) h2) (fun r2 f2 hf2 => by
          rw [lb_row (by omega) hf2]
          by_cases h : r2 = r ∧ f2 / 64 = k
          · rw [if_pos h, if_pos ⟨h.1, by omega⟩, lb_k, lb_k, h.2, hs (5 * r + k) (Nat.le_refl _) (by omega), Int64.toBitVec_and, BitVec.getLsbD_and]
          · rw [if_neg h, hw r2 f2 hf2]
            by_cases q : r2 = r ∧ f2 / 64 < k
            · rw [if_pos q, if_pos ⟨q.1, by omega⟩]
            · rw [if_neg q, if_neg (fun x => by
                have : ¬ f2 / 64 = k := fun y => h ⟨x.1, y⟩
                exact q ⟨x.1, by omega⟩)])
        exact ⟨w', by rw [← a1, sl_sl]; rfl, a2⟩
  obtain ⟨w', a1, a2⟩ := loop N 0 (S.2.2 0) (by omega) (by omega) (fun _ _ _ => rfl) (fun r2 f2 _ => by rw [if_neg (fun q => by omega)])
  refine ⟨w', ?_, a2⟩
  have e : mq_sl S 0 (S.2.2 0) = S := by
    unfold mq_sl
    refine Prod.ext rfl (Prod.ext rfl ?_)
    funext j
    show (if j = 0 then S.2.2 0 else S.2.2 j) = S.2.2 j
    by_cases q : j = 0
    · rw [if_pos q, q]
    · rw [if_neg q]
  rw [e] at a1
  unfold zf_X6_meet zf_X6_meet_23
  rw [show (0 : Int32) = nI 0 from rfl, se_pl (R := R) (z := fun k => [z 0].getD k 0) (S := mq_pull S [] [] [0]) hz hR hr (by omega), mq_cp_s, if_neg (by decide), se_pl (R := R') (z := fun k => [z 1].getD k 0) (S := mq_pull S [] [] [1]) hz' hR' hr' (by omega), mq_cp_s, if_neg (by decide), nI_e, nI_e]
  exact a1
/-- two rows are the same just if their bits are -/
theorem se_same (hN : 10 ≤ N) (hz : z 0 = 5 * R) (hR : R < 10000) (hr : r < R) (hr' : r' < R) : ∃ v : Int32, zf_X6_isSame N z (nI r) (nI r') S = some v ∧ ((v = 1 ∧ ∀ f, f < 320 → lb (S.2.2 0) r f = lb (S.2.2 0) r' f) ∨ (v = 0 ∧ ¬ ∀ f, f < 320 → lb (S.2.2 0) r f = lb (S.2.2 0) r' f)) := by
  have loop : ∀ (fuel k : Nat), k ≤ 5 → 5 - k + 1 < fuel → (∀ f, f < 64 * k → lb (S.2.2 0) r f = lb (S.2.2 0) r' f) → ∃ v : Int32, zf_X6_isSame_27 N z S fuel (nI r) (nI r') 1 (nI k) = some v ∧ ((v = 1 ∧ ∀ f, f < 320 → lb (S.2.2 0) r f = lb (S.2.2 0) r' f) ∨ (v = 0 ∧ ¬ ∀ f, f < 320 → lb (S.2.2 0) r f = lb (S.2.2 0) r' f)) := by
    intro fuel
    induction fuel with
    | zero => intro k _ h; omega
    | succ fuel ih =>
      intro k hk hf hw
      show ∃ v, zf_X6_isSame_27b N z S (fun v1 v2 v3 v4 => zf_X6_isSame_27 N z S fuel v1 v2 v3 v4) (nI r) (nI r') 1 (nI k) = some v ∧ _
      unfold zf_X6_isSame_27b zf_X6_isSame_68
      by_cases e : k = 5
      · subst e
        rw [if_pos (by decide), mq_cz_1]
        exact ⟨1, rfl, Or.inl ⟨rfl, hw⟩⟩
      · have e5 : ¬ (5 : Int32) ≤ nI k := nI_ge (b := 5) (by omega) (by omega)
        have e2 : ∀ q : Nat, nI q * 5 + nI k = nI (5 * q + k) := fun q => by
          rw [show (5 : Int32) = nI 5 from rfl, pk_mul, nI_add]; congr 1; omega
        rw [if_neg e5, if_neg (by decide), e2, e2, hz, mq_ck_of (vp_in_nI (by omega) (by omega)), mq_ck_of (vp_in_nI (by omega) (by omega)), nI_clamp (by omega), nI_clamp (by omega), nI_e, nI_e, nI_e, nI_e, nI_1]
        by_cases q : S.2.2 0 (5 * r + k) = S.2.2 0 (5 * r' + k)
        · rw [if_pos ((lg_cmp_eq _ _).mpr q)]
          refine ih (k + 1) (by omega) (by omega) (fun f hf' => ?_)
          by_cases h : f < 64 * k
          · exact hw f h
          · rw [lb_k, lb_k, show f / 64 = k by omega, q]
        · rw [if_neg (fun x => q ((lg_cmp_eq _ _).mp x))]
          obtain ⟨fu, rfl⟩ : ∃ q, fuel = q + 1 := ⟨fuel - 1, by omega⟩
          have E : zf_X6_isSame_27 N z S (fu + 1) (nI r) (nI r') 0 (nI (k + 1)) = some 0 := by
            show zf_X6_isSame_27b N z S _ (nI r) (nI r') 0 (nI (k + 1)) = _
            unfold zf_X6_isSame_27b
            rw [mq_cz_0]
            by_cases x : (5 : Int32) ≤ nI (k + 1)
            · rw [if_pos x]
            · rw [if_neg x, if_pos rfl]
          refine ⟨0, E, Or.inr ⟨rfl, fun hall => q (l_ext (fun i hi => ?_))⟩⟩
          have := hall (64 * k + i) (by omega)
          rw [lb_k, lb_k, show (64 * k + i) / 64 = k by omega, show (64 * k + i) % 64 = i by omega] at this
          exact this
  obtain ⟨v, a1, a2⟩ := loop N 0 (by omega) (by omega) (fun f hf => by omega)
  refine ⟨v, ?_, a2⟩
  unfold zf_X6_isSame zf_X6_isSame_23
  rw [show (0 : Int32) = nI 0 from rfl, se_pl hz hR hr (by omega), mq_cp_s, if_neg (by decide), se_pl hz hR hr' (by omega), mq_cp_s, if_neg (by decide), nI_e, nI_e]
  exact a1
end SETS2
/-- the reference's sets -/
def ib (a : Nat → Int32) (r f : Nat) : Bool := bt (a (10 * r + f / 32)) (f % 32)
theorem st_num5 {f : Nat} (hf : f < 320) : (nI f >>> ((5 : Int32) &&& 31) = nI (f / 32)) ∧ (nI f &&& 31 = nI (f % 32)) := by
  constructor
  · have := pk_shrN (n := f) (by omega) ((5 : Int32) &&& 31) 5 (by decide)
    simpa using this
  · have := pk_andN (n := f) (by omega) (m := 31) 5 (by decide)
    simpa using this
theorem b_1 : ∀ i, i < 32 → bt 1 i = decide (i = 0) := by decide +kernel
theorem b_bit (x : Int32) {n : Nat} (hn : n < 32) : ((x >>> (nI n &&& 31)) &&& 1 = 0) ↔ bt x n = false := by
  constructor
  · intro h
    have := congrArg (fun q : Int32 => bt q 0) h
    simp only [b_and, b_sshr n hn x (show 0 < 32 by omega), b_1 0 (by omega), b_0] at this
    rw [if_pos (by omega), Nat.add_zero] at this
    simpa using this
  · intro h
    apply b_ext
    intro i hi
    rw [b_and, b_sshr n hn x hi, b_1 i hi, b_0]
    by_cases e : i = 0
    · subst e
      rw [if_pos (by omega), Nat.add_zero, h]; rfl
    · rw [decide_eq_false e, Bool.and_false]
section RSET
variable {N R : Nat} {z : Nat → Nat} {S : mq_St} {r f : Nat}
theorem ri_ix (hf : f < 320) : nI (10 * r) + nI f >>> ((5 : Int32) &&& 31) = nI (10 * r + f / 32) := by
  rw [(st_num5 hf).1, nI_add]
theorem ri_in (hz : z 0 = 10 * R) (hR : R < 10000) (hr : r < R) (hf : f < 320) : zf_X11_isIn N z (nI (10 * r)) (nI f) S = some (if ib (S.2.1 0) r f = true then 1 else 0) := by
  unfold zf_X11_isIn
  rw [ri_ix hf, hz, mq_ck_of (vp_in_nI (by omega) (by omega)), nI_clamp (by omega), (st_num5 hf).2]
  unfold ib
  have e31 : nI (f % 32) &&& 31 = nI (f % 32) &&& 31 := rfl
  cases h : bt (S.2.1 0 (10 * r + f / 32)) (f % 32) with
  | false =>
    rw [if_pos ((b_bit _ (by omega)).mpr h), mq_cz_0]
    rfl
  | true =>
    rw [if_neg (fun q => by rw [(b_bit _ (by omega)).mp q] at h; cases h), mq_cz_1]
    rfl
theorem ri_put (hz : z 0 = 10 * R) (hR : R < 10000) (hr : r < R) (hf : f < 320) : ∃ a', zf_X11_put N z (nI (10 * r)) (nI f) S = some ((), mq_sa S 0 a') ∧ ∀ r2 f2, f2 < 320 → ib a' r2 f2 = (ib (S.2.1 0) r2 f2 || decide (r2 = r ∧ f2 = f)) := by
  refine ⟨upd (S.2.1 0) (10 * r + f / 32) (S.2.1 0 (10 * r + f / 32) ||| ((1 : Int32) <<< (nI (f % 32) &&& 31))), ?_, fun r2 f2 hf2 => ?_⟩
  · unfold zf_X11_put
    rw [ri_ix hf, hz, mq_ck_of (vp_in_nI (by omega) (by omega)), mq_ck_of (vp_in_nI (by omega) (by omega)), nI_clamp (by omega), (st_num5 hf).2, nS_e]
  · unfold ib
    by_cases h : r2 = r ∧ f2 / 32 = f / 32
    · rw [h.1, h.2, up_s, b_or, b_shl (f % 32) (by omega) 1 (by omega), b_1 _ (by omega)]
      congr 1
      by_cases q : f2 = f
      · rw [q, decide_eq_true (Nat.le_refl _), Nat.sub_self, decide_eq_true rfl, decide_eq_true (by exact ⟨rfl, rfl⟩)]; rfl
      · rw [decide_eq_false (fun x : r = r ∧ f2 = f => q x.2)]
        by_cases q2 : f % 32 ≤ f2 % 32
        · rw [decide_eq_false (show ¬ f2 % 32 - f % 32 = 0 by omega), Bool.and_false]
        · rw [decide_eq_false q2, Bool.false_and]
    · rw [up_o (fun e => h (by omega)), decide_eq_false (fun q : r2 = r ∧ f2 = f => h ⟨q.1, by rw [q.2]⟩), Bool.or_false]
theorem ri_copy {R' r' : Nat} (hN : 20 ≤ N) (hz : z 0 = 10 * R) (hz' : z 1 = 10 * R') (hR : R < 10000) (hR' : R' < 10000) (hr : r < R) (hr' : r' < R') : ∃ a', zf_X11_copy N z (nI (10 * r)) (nI (10 * r')) S = some ((), mq_sa S 1 a') ∧ ∀ r2 f2, f2 < 320 → ib a' r2 f2 = if r2 = r' then ib (S.2.1 0) r f2 else ib (S.2.1 1) r2 f2 := by
  have loop : ∀ (fuel k : Nat) (a : Nat → Int32), k ≤ 10 → 10 - k < fuel → (∀ i, a i = if 10 * r' ≤ i ∧ i < 10 * r' + k then S.2.1 0 (10 * r + (i - 10 * r')) else S.2.1 1 i) → ∃ a', zf_X11_copy_3 N z fuel (nI (10 * r)) (nI (10 * r')) (nI k) (mq_sa S 1 a) = some ((), mq_sa S 1 a') ∧ ∀ i, a' i = if 10 * r' ≤ i ∧ i < 10 * r' + 10 then S.2.1 0 (10 * r + (i - 10 * r')) else S.2.1 1 i := by
    intro fuel
    induction fuel with
    | zero => intro k a _ h; omega
    | succ fuel ih =>
      intro k a hk hf ha
      show ∃ a', zf_X11_copy_3b N z (fun v1 v3 v4 S => zf_X11_copy_3 N z fuel v1 v3 v4 S) (nI (10 * r)) (nI (10 * r')) (nI k) (mq_sa S 1 a) = some ((), mq_sa S 1 a') ∧ _
      unfold zf_X11_copy_3b
      by_cases e : k = 10
      · subst e
        rw [if_pos (by decide)]
        exact ⟨a, rfl, ha⟩
      · have e5 : ¬ (10 : Int32) ≤ nI k := nI_ge (b := 10) (by omega) (by omega)
        rw [if_neg e5, nI_add, nI_add, hz, hz', mq_ck_of (vp_in_nI (by omega) (by omega)), mq_ck_of (vp_in_nI (by omega) (by omega)), nI_clamp (by omega), nI_clamp (by omega), nS_e, nI_1, nI_e]
        obtain ⟨a', a1, a2⟩ := ih (k + 1) (upd a (10 * r' + k) (S.2.1 0 (10 * r + k))) (by omega) (by omega) (fun i => by
          by_cases h : i = 10 * r' + k
          · rw [h, up_s, if_pos (show 10 * r' ≤ 10 * r' + k ∧ 10 * r' + k < 10 * r' + (k + 1) by omega), show 10 * r + (10 * r' + k - 10 * r') = 10 * r + k by omega]
          · rw [up_o h, ha i]
            by_cases q : 10 * r' ≤ i ∧ i < 10 * r' + k
            · rw [if_pos q, if_pos (show 10 * r' ≤ i ∧ i < 10 * r' + (k + 1) by omega)]
            · rw [if_neg q, if_neg (show ¬ (10 * r' ≤ i ∧ i < 10 * r' + (k + 1)) by omega)])
        exact ⟨a', by rw [← a1, sa_sa]; rfl, a2⟩
  obtain ⟨a', a1, a2⟩ := loop N 0 (S.2.1 1) (by omega) (by omega) (fun i => by rw [if_neg (show ¬ (10 * r' ≤ i ∧ i < 10 * r' + 0) by omega)])
  have e : mq_sa S 1 (S.2.1 1) = S := by
    unfold mq_sa
    refine Prod.ext rfl (Prod.ext ?_ rfl)
    funext j
    show (if j = 1 then S.2.1 1 else S.2.1 j) = S.2.1 j
    by_cases q : j = 1
    · rw [if_pos q, q]
    · rw [if_neg q]
  rw [e] at a1
  refine ⟨a', a1, fun r2 f2 hf2 => ?_⟩
  unfold ib
  rw [a2]
  by_cases q : r2 = r'
  · rw [if_pos (show 10 * r' ≤ 10 * r2 + f2 / 32 ∧ 10 * r2 + f2 / 32 < 10 * r' + 10 by omega), if_pos q, show 10 * r + (10 * r2 + f2 / 32 - 10 * r') = 10 * r + f2 / 32 by omega]
  · rw [if_neg (show ¬ (10 * r' ≤ 10 * r2 + f2 / 32 ∧ 10 * r2 + f2 / 32 < 10 * r' + 10) by omega), if_neg q]
end RSET
