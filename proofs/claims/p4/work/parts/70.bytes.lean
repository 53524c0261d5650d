/-! ===== Int32 by its bits: bt x i ===== -/
def bt (x : Int32) (i : Nat) : Bool := x.toBitVec.getLsbD i
theorem b_ext {x y : Int32} (h : ∀ i, i < 32 → bt x i = bt y i) : x = y := Int32.toBitVec_inj.mp (BitVec.eq_of_getLsbD_eq (fun i hi => h i hi))
theorem b_or (x y : Int32) (i : Nat) : bt (x ||| y) i = (bt x i || bt y i) := by unfold bt; rw [Int32.toBitVec_or, BitVec.getLsbD_or]
theorem b_and (x y : Int32) (i : Nat) : bt (x &&& y) i = (bt x i && bt y i) := by unfold bt; rw [Int32.toBitVec_and, BitVec.getLsbD_and]
theorem b_xor (x y : Int32) (i : Nat) : bt (x ^^^ y) i = (bt x i ^^ bt y i) := by unfold bt; rw [Int32.toBitVec_xor, BitVec.getLsbD_xor]
theorem b_big {x : Int32} {i : Nat} (h : 32 ≤ i) : bt x i = false := BitVec.getLsbD_of_ge _ _ h
theorem b_255 (i : Nat) : bt 255 i = decide (i < 8) := by
  rcases Nat.lt_or_ge i 32 with h | h
  · exact (by decide +kernel : ∀ i, i < 32 → bt 255 i = decide (i < 8)) i h
  · rw [b_big h, decide_eq_false (by omega)]
theorem b_65535 (i : Nat) : bt 65535 i = decide (i < 16) := by
  rcases Nat.lt_or_ge i 32 with h | h
  · exact (by decide +kernel : ∀ i, i < 32 → bt 65535 i = decide (i < 16)) i h
  · rw [b_big h, decide_eq_false (by omega)]
theorem b_m1 : ∀ i, i < 32 → bt (-1) i = true := by decide +kernel
theorem b_0 (i : Nat) : bt 0 i = false := BitVec.getLsbD_zero
theorem s_l : ∀ n, n < 32 → ((nI n &&& 31).toBitVec.smod 32).toNat = n := by decide +kernel
theorem s_u : ∀ n, n < 32 → (((nI n).toUInt32 &&& Int32.toUInt32 31).toBitVec % 32).toNat = n := by decide +kernel
theorem b_shl (n : Nat) (hn : n < 32) (x : Int32) {i : Nat} (hi : i < 32) : bt (x <<< (nI n &&& 31)) i = (decide (n ≤ i) && bt x (i - n)) := by
  unfold bt
  rw [Int32.toBitVec_shiftLeft]
  show (x.toBitVec <<< ((nI n &&& 31).toBitVec.smod 32).toNat).getLsbD i = _
  rw [s_l n hn, BitVec.getLsbD_shiftLeft]
  rcases Nat.lt_or_ge i n with h | h
  · simp [h, Nat.not_le.mpr h]
  · simp [hi, h, Nat.not_lt.mpr h]
theorem b_ushr (n : Nat) (hn : n < 32) (x : Int32) (i : Nat) : bt ((x.toUInt32 >>> ((nI n).toUInt32 &&& Int32.toUInt32 31)).toInt32) i = bt x (n + i) := by
  show (x.toUInt32 >>> ((nI n).toUInt32 &&& Int32.toUInt32 31)).toBitVec.getLsbD i = x.toUInt32.toBitVec.getLsbD (n + i)
  rw [UInt32.toBitVec_shiftRight]
  show (x.toUInt32.toBitVec >>> (((nI n).toUInt32 &&& Int32.toUInt32 31).toBitVec % 32).toNat).getLsbD i = _
  rw [s_u n hn, BitVec.getLsbD_ushiftRight]
theorem b_sshr (n : Nat) (hn : n < 32) (x : Int32) {i : Nat} (hi : i < 32) : bt (x >>> (nI n &&& 31)) i = if n + i < 32 then bt x (n + i) else bt x 31 := by
  unfold bt
  rw [Int32.toBitVec_shiftRight]
  show (x.toBitVec.sshiftRight ((nI n &&& 31).toBitVec.smod 32).toNat).getLsbD i = _
  rw [s_l n hn, BitVec.getLsbD_sshiftRight, BitVec.msb_eq_getLsbD_last]
  simp [hi]
theorem b_shl8 (x : Int32) {i : Nat} (hi : i < 32) : bt (x <<< ((8 : Int32) &&& 31)) i = (decide (8 ≤ i) && bt x (i - 8)) := b_shl 8 (by omega) x hi
theorem b_shl16 (x : Int32) {i : Nat} (hi : i < 32) : bt (x <<< ((16 : Int32) &&& 31)) i = (decide (16 ≤ i) && bt x (i - 16)) := b_shl 16 (by omega) x hi
theorem b_shl24 (x : Int32) {i : Nat} (hi : i < 32) : bt (x <<< ((24 : Int32) &&& 31)) i = (decide (24 ≤ i) && bt x (i - 24)) := b_shl 24 (by omega) x hi
theorem b_sshr8 (x : Int32) {i : Nat} (hi : i < 32) : bt (x >>> ((8 : Int32) &&& 31)) i = if 8 + i < 32 then bt x (8 + i) else bt x 31 := b_sshr 8 (by omega) x hi
/-! Bytes, four to an int (ByteRow), as functions. -/
/-- byte r of a word; the word with byte r set -/
def by_of (w : Int32) (r : Nat) : Int32 := mq_iushr w (nI (24 - 8 * r)) &&& 255
def by_set (w : Int32) (r : Nat) (v : Int32) : Int32 := (w &&& (((255 : Int32) <<< (nI (24 - 8 * r) &&& 31)) ^^^ (-1))) ||| ((v &&& 255) <<< (nI (24 - 8 * r) &&& 31))
def by_at (f : Nat → Int32) (i : Nat) : Int32 := by_of (f (i / 4)) (i % 4)
def by_put (f : Nat → Int32) (i : Nat) (v : Int32) : Nat → Int32 := upd f (i / 4) (by_set (f (i / 4)) (i % 4) v)
theorem by_bit (w : Int32) {r : Nat} (hr : r < 4) (i : Nat) : bt (by_of w r) i = (bt w (24 - 8 * r + i) && decide (i < 8)) := by
  unfold by_of mq_iushr
  rw [b_and, b_ushr (24 - 8 * r) (by omega), b_255]
theorem by_setbit (w v : Int32) {r : Nat} (hr : r < 4) {i : Nat} (hi : i < 32) : bt (by_set w r v) i = if 24 - 8 * r ≤ i ∧ i < 24 - 8 * r + 8 then bt v (i - (24 - 8 * r)) else bt w i := by
  unfold by_set
  rw [b_or, b_and, b_xor, b_shl (24 - 8 * r) (by omega) _ hi, b_shl (24 - 8 * r) (by omega) _ hi, b_and, b_255, b_m1 i hi]
  by_cases h : 24 - 8 * r ≤ i ∧ i < 24 - 8 * r + 8
  · rw [if_pos h]
    have h1 : decide (24 - 8 * r ≤ i) = true := decide_eq_true h.1
    have h2 : decide (i - (24 - 8 * r) < 8) = true := decide_eq_true (by omega)
    rw [h1, h2]
    simp
  · rw [if_neg h]
    by_cases h3 : 24 - 8 * r ≤ i
    · have h2 : decide (i - (24 - 8 * r) < 8) = false := decide_eq_false (by omega)
      rw [h2]
      simp
    · have h1 : decide (24 - 8 * r ≤ i) = false := decide_eq_false h3
      rw [h1]
      simp
theorem by_set_same (w v : Int32) {r : Nat} (hr : r < 4) : by_of (by_set w r v) r = v &&& 255 := by
  apply b_ext
  intro i hi
  rw [by_bit _ hr, b_and, b_255]
  by_cases h : i < 8
  · rw [by_setbit _ _ hr (by omega), if_pos (by omega)]
    have e : 24 - 8 * r + i - (24 - 8 * r) = i := by omega
    rw [e]
  · rw [decide_eq_false h, Bool.and_false, Bool.and_false]
theorem by_set_other (w v : Int32) {r q : Nat} (hr : r < 4) (hq : q < 4) (hn : q ≠ r) : by_of (by_set w r v) q = by_of w q := by
  apply b_ext
  intro i hi
  rw [by_bit _ hq, by_bit _ hq]
  by_cases h : i < 8
  · rw [by_setbit _ _ hr (by omega), if_neg (by omega)]
  · rw [decide_eq_false h, Bool.and_false, Bool.and_false]
theorem by_put_at (f : Nat → Int32) (i j : Nat) (v : Int32) : by_at (by_put f i v) j = if j = i then v &&& 255 else by_at f j := by
  unfold by_at by_put upd
  by_cases h : j / 4 = i / 4
  · rw [if_pos h]
    by_cases h2 : j % 4 = i % 4
    · have e : j = i := by omega
      subst e
      rw [if_pos rfl, by_set_same _ _ (by omega)]
    · have e : j ≠ i := fun e => h2 (by rw [e])
      rw [if_neg e, h, by_set_other _ _ (by omega) (by omega) h2]
  · have e : j ≠ i := fun e => h (by rw [e])
    rw [if_neg h, if_neg e]
theorem by_num (i : Nat) (hi : i < 2 ^ 31) : (nI i >>> ((2 : Int32) &&& 31) = nI (i / 4)) ∧ ((24 : Int32) - 8 * (nI i &&& 3) = nI (24 - 8 * (i % 4))) := by
  constructor
  · have := pk_shrN (n := i) hi ((2 : Int32) &&& 31) 2 (by decide)
    simpa using this
  · have h1 : nI i &&& 3 = nI (i % 4) := by
      have := pk_andN (n := i) (by omega) (m := 3) 2 (by decide)
      simpa using this
    have h2 : (8 : Int32) * nI (i % 4) = nI (8 * (i % 4)) := pk_mul 8 (i % 4)
    have h3 : (24 : Int32) - nI (8 * (i % 4)) = nI (24 - 8 * (i % 4)) := pk_sub (a := 24) (b := 8 * (i % 4)) (by omega)
    rw [h1, h2, h3]
theorem by_zat {N : Nat} {z : Nat → Nat} {S : mq_St} {t i : Nat} (ht : S.1 0 = nI t) (h4 : t ≤ 4000) (hi : i < t) : zf_X0_at N z (nI i) S = some (by_at (S.2.1 0) i) := by
  obtain ⟨e1, e2⟩ := by_num i (by omega)
  unfold zf_X0_at
  rw [if_neg (nI_pos (by omega)), ht, if_pos ((nI_ltI (by omega) (by omega)).mpr hi), e1, e2, mq_ck_of (vp_in_nI (by omega) (by omega)), nI_clamp (by omega)]
  rfl
theorem by_zat_out {N : Nat} {z : Nat → Nat} {S : mq_St} {t : Nat} (v : Int32) (ht : S.1 0 = nI t) (h4 : t ≤ 4000) (hv : v < 0 ∨ nI t ≤ v) : zf_X0_at N z v S = some (-1) := by
  unfold zf_X0_at
  by_cases h : v < 0
  · rw [if_pos h]
  · rw [if_neg h, ht]
    have h2 : ¬ v < nI t := by
      rcases hv with q | q
      · exact absurd q h
      · exact Int32.not_lt.mpr q
    rw [if_neg h2]
theorem by_zput {N : Nat} {z : Nat → Nat} {S : mq_St} {t i : Nat} (v : Int32) (ht : S.1 0 = nI t) (h4 : t ≤ 4000) (hi : i < t) : zf_X0_put N z (nI i) v S = some (1, mq_sa S 0 (by_put (S.2.1 0) i v)) := by
  obtain ⟨e1, e2⟩ := by_num i (by omega)
  unfold zf_X0_put
  rw [if_neg (nI_pos (by omega)), ht, if_pos ((nI_ltI (by omega) (by omega)).mpr hi), e1, e2]
  dsimp only [mq_nI]
  rw [mq_ck_of (vp_in_nI (by omega) (by omega)), mq_ck_of (vp_in_nI (by omega) (by omega)), nI_clamp (by omega)]
  dsimp only [mq_nS]
  unfold mq_cz
  rw [if_pos (Or.inr rfl)]
  rfl
theorem by_zput_out {N : Nat} {z : Nat → Nat} {S : mq_St} {t : Nat} (i v : Int32) (ht : S.1 0 = nI t) (hv : i < 0 ∨ nI t ≤ i) : zf_X0_put N z i v S = some (0, S) := by
  unfold zf_X0_put
  have e : mq_cz (α := Int32 × mq_St) 0 (some (0, S)) = some (0, S) := by unfold mq_cz; rw [if_pos (Or.inl rfl)]
  by_cases h : i < 0
  · rw [if_pos h, e]
  · rw [if_neg h, ht]
    have h2 : ¬ i < nI t := by
      rcases hv with q | q
      · exact absurd q h
      · exact Int32.not_lt.mpr q
    rw [if_neg h2, e]
/-- what a row of bytes holds -/
def by_row (S : mq_St) (t : Nat) (g : Nat → Int32) : Prop := S.1 0 = nI t ∧ t ≤ 4000 ∧ ∀ i, i < t → by_at (S.2.1 0) i = g i
theorem by_zpush {N : Nat} {z : Nat → Nat} {S : mq_St} {t : Nat} {g : Nat → Int32} (v : Int32) (h : by_row S t g) (h4 : t < 4000) : ∃ S', zf_X0_push N z v S = some ((), S') ∧ by_row S' (t + 1) (upd g t (v &&& 255)) := by
  obtain ⟨h1, h2, h3⟩ := h
  have e4 : ¬ (4000 : Int32) ≤ nI t := nI_ge (a := t) (b := 4000) h4 (by omega)
  have es : (mq_si S 0 (S.1 0 + 1)).1 0 = nI (t + 1) := by
    show S.1 0 + 1 = _
    rw [h1, nI_1]
  have ep : (mq_si S 0 (S.1 0 + 1)).1 0 - 1 = nI t := by rw [es, nI_pred]
  refine ⟨mq_sa (mq_si S 0 (S.1 0 + 1)) 0 (by_put (S.2.1 0) t v), ?_, ?_, by omega, ?_⟩
  · unfold zf_X0_push
    rw [h1, if_neg e4, ← h1]
    dsimp only [mq_nS]
    rw [ep, by_zput v es (by omega) (Nat.lt_succ_self t)]
    rfl
  · show (mq_si S 0 (S.1 0 + 1)).1 0 = _
    exact es
  · intro i hi
    show by_at (by_put (S.2.1 0) t v) i = _
    rw [by_put_at]
    unfold upd
    by_cases e : i = t
    · rw [if_pos e, if_pos e]
    · rw [if_neg e, if_neg e]
      exact h3 i (by omega)
