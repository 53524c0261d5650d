/-! Sets: rows of bits, five longs to a row. -/
def lb (w : Nat → Int64) (r f : Nat) : Bool := (w (5 * r + f / 64)).toBitVec.getLsbD (f % 64)
theorem l_one : ∀ j, j < 64 → ∀ i, i < 64 → (mq_lshl 1 (nI j)).toBitVec.getLsbD i = decide (i = j) := by decide +kernel
theorem l_u : ∀ n, n < 64 → (((nI n).toInt64.toUInt64 &&& Int64.toUInt64 63).toBitVec % 64).toNat = n := by decide +kernel
theorem l_ushr (n : Nat) (hn : n < 64) (x : Int64) (i : Nat) : (mq_lushr x (nI n)).toBitVec.getLsbD i = x.toBitVec.getLsbD (n + i) := by
  show (x.toUInt64 >>> ((nI n).toInt64.toUInt64 &&& Int64.toUInt64 63)).toBitVec.getLsbD i = x.toUInt64.toBitVec.getLsbD (n + i)
  rw [UInt64.toBitVec_shiftRight]
  show (x.toUInt64.toBitVec >>> (((nI n).toInt64.toUInt64 &&& Int64.toUInt64 63).toBitVec % 64).toNat).getLsbD i = _
  rw [l_u n hn, BitVec.getLsbD_ushiftRight]
theorem l_m1 : ∀ i, i < 64 → (-1 : Int64).toBitVec.getLsbD i = true := by decide +kernel
theorem l_1 : ∀ i, i < 64 → (1 : Int64).toBitVec.getLsbD i = decide (i = 0) := by decide +kernel
theorem l_ext {x y : Int64} (h : ∀ i, i < 64 → x.toBitVec.getLsbD i = y.toBitVec.getLsbD i) : x = y := Int64.toBitVec_inj.mp (BitVec.eq_of_getLsbD_eq (fun i hi => h i hi))
theorem l_bit (x : Int64) {n : Nat} (hn : n < 64) : (mq_lushr x (nI n) &&& 1 = 0) ↔ x.toBitVec.getLsbD n = false := by
  constructor
  · intro h
    have := congrArg (fun q : Int64 => q.toBitVec.getLsbD 0) h
    simp only [Int64.toBitVec_and, BitVec.getLsbD_and, l_ushr n hn, l_1 0 (by omega)] at this
    simpa using this
  · intro h
    apply l_ext
    intro i hi
    rw [Int64.toBitVec_and, BitVec.getLsbD_and, l_ushr n hn, l_1 i hi]
    by_cases e : i = 0
    · subst e
      rw [Nat.add_zero, h]
      simp
    · rw [decide_eq_false e]; simp
theorem st_num6 {f : Nat} (hf : f < 320) : (nI f >>> ((6 : Int32) &&& 31) = nI (f / 64)) ∧ (nI f &&& 63 = nI (f % 64)) := by
  constructor
  · have := pk_shrN (n := f) (by omega) ((6 : Int32) &&& 31) 6 (by decide)
    simpa using this
  · have := pk_andN (n := f) (by omega) (m := 63) 6 (by decide)
    simpa using this
section SETS
variable {N R : Nat} {z : Nat → Nat} {S : mq_St} {r f : Nat}
theorem se_pl (hz : z 0 = 5 * R) (hR : R < 10000) (hr : r < R) (hf : f < 320) : zf_X6_isPlace N z (nI r) (nI f) S = some 1 := by
  unfold zf_X6_isPlace
  have e : Int32.ofNat (z 0) / 5 = nI R := by
    rw [hz]
    show nI (5 * R) / nI 5 = nI R
    rw [pk_div (by omega) (by omega) (by omega)]
    congr 1
    omega
  have e320 : ¬ (320 : Int32) ≤ nI f := nI_ge (a := f) (b := 320) hf (by omega)
  rw [e, if_neg (nI_pos (by omega)), if_neg e320, if_neg (nI_pos (by omega)), if_neg (nI_ge hr (by omega)), mq_cz_1]
theorem se_plm (v : Int32) : zf_X6_isPlace N z v (-1) S = some 0 := by
  unfold zf_X6_isPlace
  rw [if_pos (by decide), mq_cz_0]
theorem se_ix (hf : f < 320) : (nI r * 5 + nI f >>> ((6 : Int32) &&& 31)) = nI (5 * r + f / 64) := by
  rw [(st_num6 hf).1, show (5 : Int32) = nI 5 from rfl, pk_mul, nI_add]
  congr 1
  omega
theorem se_has (hz : z 0 = 5 * R) (hR : R < 10000) (hr : r < R) (hf : f < 320) : zf_X6_has N z (nI r) (nI f) S = some (if lb (S.2.2 0) r f = true then 1 else 0) := by
  unfold zf_X6_has
  have hi : 5 * r + f / 64 < 5 * R := by omega
  rw [se_pl hz hR hr hf, mq_cp_s, if_neg (by decide), se_ix hf, hz, mq_ck_of (vp_in_nI hi (by omega)), nI_clamp (by omega), (st_num6 hf).2]
  unfold lb
  cases h : (S.2.2 0 (5 * r + f / 64)).toBitVec.getLsbD (f % 64) with
  | false =>
    rw [if_pos ((lg_cmp_eq _ _).mpr ((l_bit _ (by omega)).mpr h)), mq_cz_0]
    rfl
  | true =>
    rw [if_neg (fun q => by rw [(l_bit _ (by omega)).mp ((lg_cmp_eq _ _).mp q)] at h; cases h), mq_cz_1]
    rfl
theorem se_hasm (v : Int32) : zf_X6_has N z v (-1) S = some 0 := by
  unfold zf_X6_has
  rw [se_plm, mq_cp_s, if_pos rfl, mq_cz_0]
theorem lb_upd {w : Nat → Int64} {x : Int64} {r' f' : Nat} (hf : f < 320) (hf' : f' < 320) : lb (vp_updL w (5 * r + f / 64) x) r' f' = if r' = r ∧ f' / 64 = f / 64 then x.toBitVec.getLsbD (f' % 64) else lb w r' f' := by
  unfold lb
  by_cases h : r' = r ∧ f' / 64 = f / 64
  · rw [if_pos h, h.1, h.2, ul_s]
  · rw [if_neg h, ul_o (fun e => h (by omega))]
theorem se_put (hz : z 0 = 5 * R) (hR : R < 10000) (hr : r < R) (hf : f < 320) : ∃ w', zf_X6_put N z (nI r) (nI f) S = some ((), mq_sl S 0 w') ∧ ∀ r' f', f' < 320 → lb w' r' f' = (lb (S.2.2 0) r' f' || decide (r' = r ∧ f' = f)) := by
  have hi : 5 * r + f / 64 < 5 * R := by omega
  refine ⟨vp_updL (S.2.2 0) (5 * r + f / 64) (S.2.2 0 (5 * r + f / 64) ||| mq_lshl 1 (nI (f % 64))), ?_, fun r' f' hf' => ?_⟩
  · unfold zf_X6_put
    rw [se_pl hz hR hr hf, mq_cp_s, if_neg (by decide), se_ix hf, hz, mq_ck_of (vp_in_nI hi (by omega)), mq_ck_of (vp_in_nI hi (by omega)), nI_clamp (by omega), (st_num6 hf).2, nS_e]
  · rw [lb_upd hf hf']
    by_cases h : r' = r ∧ f' / 64 = f / 64
    · rw [if_pos h, Int64.toBitVec_or, BitVec.getLsbD_or, l_one (f % 64) (by omega) (f' % 64) (by omega)]
      obtain ⟨rfl, h2⟩ := h
      unfold lb
      rw [h2]
      congr 1
      rw [decide_eq_decide]
      constructor
      · intro e; exact ⟨rfl, by omega⟩
      · rintro ⟨-, e⟩; rw [e]
    · rw [if_neg h, decide_eq_false (fun q => h ⟨q.1, by rw [q.2]⟩), Bool.or_false]
theorem se_putm (v : Int32) : zf_X6_put N z v (-1) S = some ((), S) := by
  unfold zf_X6_put
  rw [se_plm, mq_cp_s, if_pos rfl]
theorem se_drop (hz : z 0 = 5 * R) (hR : R < 10000) (hr : r < R) (hf : f < 320) : ∃ w', zf_X6_drop N z (nI r) (nI f) S = some ((), mq_sl S 0 w') ∧ ∀ r' f', f' < 320 → lb w' r' f' = (lb (S.2.2 0) r' f' && !decide (r' = r ∧ f' = f)) := by
  have hi : 5 * r + f / 64 < 5 * R := by omega
  refine ⟨vp_updL (S.2.2 0) (5 * r + f / 64) (S.2.2 0 (5 * r + f / 64) &&& (mq_lshl 1 (nI (f % 64)) ^^^ (-1))), ?_, fun r' f' hf' => ?_⟩
  · unfold zf_X6_drop
    rw [se_pl hz hR hr hf, mq_cp_s, if_neg (by decide), se_ix hf, hz, mq_ck_of (vp_in_nI hi (by omega)), mq_ck_of (vp_in_nI hi (by omega)), nI_clamp (by omega), (st_num6 hf).2, nS_e]
  · rw [lb_upd hf hf']
    by_cases h : r' = r ∧ f' / 64 = f / 64
    · rw [if_pos h, Int64.toBitVec_and, BitVec.getLsbD_and, Int64.toBitVec_xor, BitVec.getLsbD_xor, l_one (f % 64) (by omega) (f' % 64) (by omega), l_m1 (f' % 64) (by omega), Bool.xor_true]
      obtain ⟨rfl, h2⟩ := h
      unfold lb
      rw [h2]
      congr 2
      rw [decide_eq_decide]
      constructor
      · intro e; exact ⟨rfl, by omega⟩
      · rintro ⟨-, e⟩; rw [e]
    · rw [if_neg h, decide_eq_false (fun q => h ⟨q.1, by rw [q.2]⟩), Bool.not_false, Bool.and_true]
end SETS
