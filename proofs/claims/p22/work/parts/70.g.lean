/-! 70.bytes -/
section
/-! ===== Int32 by its bits: bt x i ===== -/
def bt (x : Int32) (i : Nat) : Bool := x.toBitVec.getLsbD i
theorem b_ext {x y : Int32} (h : ∀ i, i < 32 → bt x i = bt y i) : x = y := Int32.toBitVec_inj.mp (BitVec.eq_of_getLsbD_eq (fun i hi => h i hi))
theorem b_or (x y : Int32) (i : Nat) : bt (x ||| y) i = (bt x i || bt y i) := by unfold bt; rw [Int32.toBitVec_or, BitVec.getLsbD_or]
theorem b_and (x y : Int32) (i : Nat) : bt (x &&& y) i = (bt x i && bt y i) := by unfold bt; rw [Int32.toBitVec_and, BitVec.getLsbD_and]
theorem b_xor (x y : Int32) (i : Nat) : bt (x ^^^ y) i = (bt x i ^^ bt y i) := by unfold bt; rw [Int32.toBitVec_xor, BitVec.getLsbD_xor]
theorem b_big {x : Int32} {i : Nat} (h : 32 ≤ i) : bt x i = false := BitVec.getLsbD_of_ge _ _ h
theorem b_255 (i : Nat) : bt 255 i = decide (i < 8) := by
  rcases Nat.lt_or_ge i 32 with h | h
  · exact (by decide +kernel : ∀ i, i < 32 → bt 255 i = decide (i < 8)) i h
  · rw [b_big h, decide_eq_false (by omega)]
theorem b_m1 : ∀ i, i < 32 → bt (-1) i = true := by decide +kernel
theorem b_0 (i : Nat) : bt 0 i = false := BitVec.getLsbD_zero
theorem s_l : ∀ n, n < 32 → ((nI n &&& 31).toBitVec.smod 32).toNat = n := by decide +kernel
theorem s_u : ∀ n, n < 32 → (((nI n).toUInt32 &&& Int32.toUInt32 31).toBitVec % 32).toNat = n := by decide +kernel
theorem b_shl (n : Nat) (hn : n < 32) (x : Int32) {i : Nat} (hi : i < 32) : bt (x <<< (nI n &&& 31)) i = (decide (n ≤ i) && bt x (i - n)) := by
  unfold bt
  rw [Int32.toBitVec_shiftLeft]
  show (x.toBitVec <<< ((nI n &&& 31).toBitVec.smod 32).toNat).getLsbD i = _
  rw [s_l n hn, BitVec.getLsbD_shiftLeft]
  rcases Nat.lt_or_ge i n with h | h
  · simp [h, Nat.not_le.mpr h]
  · simp [hi, h, Nat.not_lt.mpr h]
theorem b_ushr (n : Nat) (hn : n < 32) (x : Int32) (i : Nat) : bt ((x.toUInt32 >>> ((nI n).toUInt32 &&& Int32.toUInt32 31)).toInt32) i = bt x (n + i) := by
  show (x.toUInt32 >>> ((nI n).toUInt32 &&& Int32.toUInt32 31)).toBitVec.getLsbD i = x.toUInt32.toBitVec.getLsbD (n + i)
  rw [UInt32.toBitVec_shiftRight]
  show (x.toUInt32.toBitVec >>> (((nI n).toUInt32 &&& Int32.toUInt32 31).toBitVec % 32).toNat).getLsbD i = _
  rw [s_u n hn, BitVec.getLsbD_ushiftRight]
theorem b_sshr (n : Nat) (hn : n < 32) (x : Int32) {i : Nat} (hi : i < 32) : bt (x >>> (nI n &&& 31)) i = if n + i < 32 then bt x (n + i) else bt x 31 := by
  unfold bt
  rw [Int32.toBitVec_shiftRight]
  show (x.toBitVec.sshiftRight ((nI n &&& 31).toBitVec.smod 32).toNat).getLsbD i = _
  rw [s_l n hn, BitVec.getLsbD_sshiftRight, BitVec.msb_eq_getLsbD_last]
  simp [hi]
theorem b_shl8 (x : Int32) {i : Nat} (hi : i < 32) : bt (x <<< ((8 : Int32) &&& 31)) i = (decide (8 ≤ i) && bt x (i - 8)) := b_shl 8 (by omega) x hi
/-! Bytes, four to an int (ByteRow), as functions. -/
/-- byte r of a word; the word with byte r set -/
def by_of (w : Int32) (r : Nat) : Int32 := mq_iushr w (nI (24 - 8 * r)) &&& 255
def by_set (w : Int32) (r : Nat) (v : Int32) : Int32 := (w &&& (((255 : Int32) <<< (nI (24 - 8 * r) &&& 31)) ^^^ (-1))) ||| ((v &&& 255) <<< (nI (24 - 8 * r) &&& 31))
def by_at (f : Nat → Int32) (i : Nat) : Int32 := by_of (f (i / 4)) (i % 4)
def by_put (f : Nat → Int32) (i : Nat) (v : Int32) : Nat → Int32 := upd f (i / 4) (by_set (f (i / 4)) (i % 4) v)
theorem by_bit (w : Int32) {r : Nat} (hr : r < 4) (i : Nat) : bt (by_of w r) i = (bt w (24 - 8 * r + i) && decide (i < 8)) := by
  unfold by_of mq_iushr
  rw [b_and, b_ushr (24 - 8 * r) (by omega), b_255]
theorem by_setbit (w v : Int32) {r : Nat} (hr : r < 4) {i : Nat} (hi : i < 32) : bt (by_set w r v) i = if 24 - 8 * r ≤ i ∧ i < 24 - 8 * r + 8 then bt v (i - (24 - 8 * r)) else bt w i := by
  unfold by_set
  rw [b_or, b_and, b_xor, b_shl (24 - 8 * r) (by omega) _ hi, b_shl (24 - 8 * r) (by omega) _ hi, b_and, b_255, b_m1 i hi]
  by_cases h : 24 - 8 * r ≤ i ∧ i < 24 - 8 * r + 8
  · rw [if_pos h]
    have h1 : decide (24 - 8 * r ≤ i) = true := decide_eq_true h.1
    have h2 : decide (i - (24 - 8 * r) < 8) = true := decide_eq_true (by omega)
    rw [h1, h2]
    simp
  · rw [if_neg h]
    by_cases h3 : 24 - 8 * r ≤ i
    · have h2 : decide (i - (24 - 8 * r) < 8) = false := decide_eq_false (by omega)
      rw [h2]
      simp
    · have h1 : decide (24 - 8 * r ≤ i) = false := decide_eq_false h3
      rw [h1]
      simp
theorem by_set_same (w v : Int32) {r : Nat} (hr : r < 4) : by_of (by_set w r v) r = v &&& 255 := by
  apply b_ext
  intro i hi
  rw [by_bit _ hr, b_and, b_255]
  by_cases h : i < 8
  · rw [by_setbit _ _ hr (by omega), if_pos (by omega)]
    have e : 24 - 8 * r + i - (24 - 8 * r) = i := by omega
    rw [e]
  · rw [decide_eq_false h, Bool.and_false, Bool.and_false]
theorem by_set_other (w v : Int32) {r q : Nat} (hr : r < 4) (hq : q < 4) (hn : q ≠ r) : by_of (by_set w r v) q = by_of w q := by
  apply b_ext
  intro i hi
  rw [by_bit _ hq, by_bit _ hq]
  by_cases h : i < 8
  · rw [by_setbit _ _ hr (by omega), if_neg (by omega)]
  · rw [decide_eq_false h, Bool.and_false, Bool.and_false]
theorem by_put_at (f : Nat → Int32) (i j : Nat) (v : Int32) : by_at (by_put f i v) j = if j = i then v &&& 255 else by_at f j := by
  unfold by_at by_put upd
  by_cases h : j / 4 = i / 4
  · rw [if_pos h]
    by_cases h2 : j % 4 = i % 4
    · have e : j = i := by omega
      subst e
      rw [if_pos rfl, by_set_same _ _ (by omega)]
    · have e : j ≠ i := fun e => h2 (by rw [e])
      rw [if_neg e, h, by_set_other _ _ (by omega) (by omega) h2]
  · have e : j ≠ i := fun e => h (by rw [e])
    rw [if_neg h, if_neg e]
theorem by_num (i : Nat) (hi : i < 2 ^ 31) : (nI i >>> ((2 : Int32) &&& 31) = nI (i / 4)) ∧ ((24 : Int32) - 8 * (nI i &&& 3) = nI (24 - 8 * (i % 4))) := by
  constructor
  · have := pk_shrN (n := i) hi ((2 : Int32) &&& 31) 2 (by decide)
    simpa using this
  · have h1 : nI i &&& 3 = nI (i % 4) := by
      have := pk_andN (n := i) (by omega) (m := 3) 2 (by decide)
      simpa using this
    have h2 : (8 : Int32) * nI (i % 4) = nI (8 * (i % 4)) := pk_mul 8 (i % 4)
    have h3 : (24 : Int32) - nI (8 * (i % 4)) = nI (24 - 8 * (i % 4)) := pk_sub (a := 24) (b := 8 * (i % 4)) (by omega)
    rw [h1, h2, h3]
theorem by_zat {N : Nat} {z : Nat → Nat} {S : mq_St} {t i : Nat} (ht : S.1 0 = nI t) (h4 : t ≤ 4000) (hi : i < t) : zf_X0_at N z (nI i) S = some (by_at (S.2.1 0) i) := by
  obtain ⟨e1, e2⟩ := by_num i (by omega)
  unfold zf_X0_at
  rw [if_neg (nI_pos (by omega)), ht, if_pos ((nI_ltI (by omega) (by omega)).mpr hi), e1, e2, mq_ck_of (vp_in_nI (by omega) (by omega)), nI_clamp (by omega)]
  rfl
theorem by_zat_out {N : Nat} {z : Nat → Nat} {S : mq_St} {t : Nat} (v : Int32) (ht : S.1 0 = nI t) (h4 : t ≤ 4000) (hv : v < 0 ∨ nI t ≤ v) : zf_X0_at N z v S = some (-1) := by
  unfold zf_X0_at
  by_cases h : v < 0
  · rw [if_pos h]
  · rw [if_neg h, ht]
    have h2 : ¬ v < nI t := by
      rcases hv with q | q
      · exact absurd q h
      · exact Int32.not_lt.mpr q
    rw [if_neg h2]
theorem by_zput {N : Nat} {z : Nat → Nat} {S : mq_St} {t i : Nat} (v : Int32) (ht : S.1 0 = nI t) (h4 : t ≤ 4000) (hi : i < t) : zf_X0_put N z (nI i) v S = some (1, mq_sa S 0 (by_put (S.2.1 0) i v)) := by
  obtain ⟨e1, e2⟩ := by_num i (by omega)
  unfold zf_X0_put
  rw [if_neg (nI_pos (by omega)), ht, if_pos ((nI_ltI (by omega) (by omega)).mpr hi), e1, e2]
  dsimp only [mq_nI]
  rw [mq_ck_of (vp_in_nI (by omega) (by omega)), mq_ck_of (vp_in_nI (by omega) (by omega)), nI_clamp (by omega)]
  dsimp only [mq_nS]
  unfold mq_cz
  rw [if_pos (Or.inr rfl)]
  rfl
theorem by_zput_out {N : Nat} {z : Nat → Nat} {S : mq_St} {t : Nat} (i v : Int32) (ht : S.1 0 = nI t) (hv : i < 0 ∨ nI t ≤ i) : zf_X0_put N z i v S = some (0, S) := by
  unfold zf_X0_put
  have e : mq_cz (α := Int32 × mq_St) 0 (some (0, S)) = some (0, S) := by unfold mq_cz; rw [if_pos (Or.inl rfl)]
  by_cases h : i < 0
  · rw [if_pos h, e]
  · rw [if_neg h, ht]
    have h2 : ¬ i < nI t := by
      rcases hv with q | q
      · exact absurd q h
      · exact Int32.not_lt.mpr q
    rw [if_neg h2, e]
/-- what a row of bytes holds -/
def by_row (S : mq_St) (t : Nat) (g : Nat → Int32) : Prop := S.1 0 = nI t ∧ t ≤ 4000 ∧ ∀ i, i < t → by_at (S.2.1 0) i = g i
theorem by_zpush {N : Nat} {z : Nat → Nat} {S : mq_St} {t : Nat} {g : Nat → Int32} (v : Int32) (h : by_row S t g) (h4 : t < 4000) : ∃ S', zf_X0_push N z v S = some ((), S') ∧ by_row S' (t + 1) (upd g t (v &&& 255)) := by
  obtain ⟨h1, h2, h3⟩ := h
  have e4 : ¬ (4000 : Int32) ≤ nI t := nI_ge (a := t) (b := 4000) h4 (by omega)
  have es : (mq_si S 0 (S.1 0 + 1)).1 0 = nI (t + 1) := by
    show S.1 0 + 1 = _
    rw [h1, nI_1]
  have ep : (mq_si S 0 (S.1 0 + 1)).1 0 - 1 = nI t := by rw [es, nI_pred]
  refine ⟨mq_sa (mq_si S 0 (S.1 0 + 1)) 0 (by_put (S.2.1 0) t v), ?_, ?_, by omega, ?_⟩
  · unfold zf_X0_push
    rw [h1, if_neg e4, ← h1]
    dsimp only [mq_nS]
    rw [ep, by_zput v es (by omega) (Nat.lt_succ_self t)]
    rfl
  · show (mq_si S 0 (S.1 0 + 1)).1 0 = _
    exact es
  · intro i hi
    show by_at (by_put (S.2.1 0) t v) i = _
    rw [by_put_at]
    unfold upd
    by_cases e : i = t
    · rw [if_pos e, if_pos e]
    · rw [if_neg e, if_neg e]
      exact h3 i (by omega)
end
/-! 71.tape -/
section
/-! The tape and what is told: the class's words beside the reference's bytes. -/
theorem mq_cl_s {α β : Type} (a : α) (S : mq_St) (k : α → mq_St → Option β) : mq_cl (some (a, S)) k = k a S := rfl
theorem mq_cp_s {α β : Type} (a : α) (k : α → Option β) : mq_cp (some a) k = k a := rfl
/-- two states agree but at these places -/
def ag (li la ll : List Nat) (S S' : mq_St) : Prop := (∀ j, j ∉ li → S'.1 j = S.1 j) ∧ (∀ j, j ∉ la → S'.2.1 j = S.2.1 j) ∧ ∀ j, j ∉ ll → S'.2.2 j = S.2.2 j
theorem ag_rf {li la ll : List Nat} {S : mq_St} : ag li la ll S S := ⟨fun _ _ => rfl, fun _ _ => rfl, fun _ _ => rfl⟩
theorem ag_tr {li la ll : List Nat} {S S1 S2 : mq_St} (h : ag li la ll S S1) (h' : ag li la ll S1 S2) : ag li la ll S S2 := ⟨fun j hj => (h'.1 j hj).trans (h.1 j hj), fun j hj => (h'.2.1 j hj).trans (h.2.1 j hj), fun j hj => (h'.2.2 j hj).trans (h.2.2 j hj)⟩
theorem ag_si {li la ll : List Nat} {S : mq_St} {k : Nat} {v : Int32} (hk : k ∈ li) : ag li la ll S (mq_si S k v) := ⟨fun j hj => by
  show (if j = k then v else S.1 j) = S.1 j
  rw [if_neg (fun e => hj (by rw [e]; exact hk))], fun _ _ => rfl, fun _ _ => rfl⟩
theorem ag_sa {li la ll : List Nat} {S : mq_St} {k : Nat} {f : Nat → Int32} (hk : k ∈ la) : ag li la ll S (mq_sa S k f) := ⟨fun _ _ => rfl, fun j hj => by
  show (if j = k then f else S.2.1 j) = S.2.1 j
  rw [if_neg (fun e => hj (by rw [e]; exact hk))], fun _ _ => rfl⟩
theorem ag_sl {li la ll : List Nat} {S : mq_St} {k : Nat} {f : Nat → Int64} (hk : k ∈ ll) : ag li la ll S (mq_sl S k f) := ⟨fun _ _ => rfl, fun _ _ => rfl, fun j hj => by
  show (if j = k then f else S.2.2 j) = S.2.2 j
  rw [if_neg (fun e => hj (by rw [e]; exact hk))]⟩
theorem ag_mono {li la ll li' la' ll' : List Nat} {S S' : mq_St} (h : ag li la ll S S') (h1 : ∀ j ∈ li, j ∈ li') (h2 : ∀ j ∈ la, j ∈ la') (h3 : ∀ j ∈ ll, j ∈ ll') : ag li' la' ll' S S' := ⟨fun j hj => h.1 j (fun q => hj (h1 j q)), fun j hj => h.2.1 j (fun q => hj (h2 j q)), fun j hj => h.2.2 j (fun q => hj (h3 j q))⟩
theorem ag_push {li la ll : List Nat} {S X : mq_St} : ag li la ll S (mq_push S X li la ll) := by
  refine ⟨fun j hj => ?_, fun j hj => ?_, fun j hj => ?_⟩
  · show (match li.idxOf? j with | some k => X.1 k | none => S.1 j) = S.1 j
    rw [List.idxOf?_eq_none_iff.mpr hj]
  · show (match la.idxOf? j with | some k => X.2.1 k | none => S.2.1 j) = S.2.1 j
    rw [List.idxOf?_eq_none_iff.mpr hj]
  · show (match ll.idxOf? j with | some k => X.2.2 k | none => S.2.2 j) = S.2.2 j
    rw [List.idxOf?_eq_none_iff.mpr hj]
/-- bytes in both: c0, w the class's number and words, r1, b the reference's -/
def iv_tape (c0 : Int32) (w : Nat → Int32) (r1 : Int32) (b : Nat → Int32) : Prop := ∃ t : Nat, t ≤ 4000 ∧ c0 = nI t ∧ r1 = nI t ∧ ∀ i, i < t → by_at w i = b i &&& 255
theorem bp_b (x : Int32) : x.toInt8.toInt32 &&& 255 = x &&& 255 := by
  apply Int32.toBitVec_inj.mp
  rw [Int32.toBitVec_and, Int32.toBitVec_and, Int8.toBitVec_toInt32, Int32.toBitVec_toInt8]
  apply BitVec.eq_of_getLsbD_eq
  intro i hi
  rw [BitVec.getLsbD_and, BitVec.getLsbD_and]
  have hm : ∀ i < 32, 8 ≤ i → (255 : Int32).toBitVec.getLsbD i = false := by decide
  rcases Nat.lt_or_ge i 8 with z | z
  · rw [BitVec.getLsbD_signExtend, BitVec.getLsbD_signExtend, if_pos z, if_pos hi]
    simp only [z, hi, decide_true, Bool.true_and]
  · rw [hm i hi z]; simp
theorem by_sh (v : Int32) {n : Nat} (hn : n ≤ 24) : (v >>> (nI n &&& 31)) &&& 255 = mq_iushr v (nI n) &&& 255 := by
  apply b_ext
  intro i hi
  rw [b_and, b_and, b_255]
  by_cases h : i < 8
  · unfold mq_iushr
    rw [b_sshr n (by omega) v hi, b_ushr n (by omega), if_pos (by omega)]
  · rw [decide_eq_false h, Bool.and_false, Bool.and_false]
theorem by_sh0 (v : Int32) : mq_iushr v (nI 0) &&& 255 = v &&& 255 := by
  apply b_ext
  intro i hi
  unfold mq_iushr
  rw [b_and, b_and, b_ushr 0 (by omega), Nat.zero_add]
/-- the four bytes of a number, from place t on -/
def by_four (g : Nat → Int32) (t : Nat) (v : Int32) : Nat → Int32 := upd (upd (upd (upd g t (mq_iushr v 24 &&& 255)) (t + 1) (mq_iushr v 16 &&& 255)) (t + 2) (mq_iushr v 8 &&& 255)) (t + 3) (v &&& 255)
theorem by_zpushNumber {N : Nat} {z : Nat → Nat} {S : mq_St} {t : Nat} {g : Nat → Int32} (v : Int32) (h : by_row S t g) (h4 : t + 4 ≤ 4000) : ∃ S', zf_X0_pushNumber N z v S = some ((), S') ∧ by_row S' (t + 4) (by_four g t v) := by
  obtain ⟨S1, e1, r1⟩ := by_zpush (N := N) (z := z) (mq_iushr v 24) h (by omega)
  obtain ⟨S2, e2, r2⟩ := by_zpush (N := N) (z := z) (mq_iushr v 16) r1 (by omega)
  obtain ⟨S3, e3, r3⟩ := by_zpush (N := N) (z := z) (mq_iushr v 8) r2 (by omega)
  obtain ⟨S4, e4, r4⟩ := by_zpush (N := N) (z := z) v r3 (by omega)
  refine ⟨S4, ?_, r4⟩
  unfold zf_X0_pushNumber
  rw [e1, mq_cl_s, e2, mq_cl_s, e3, mq_cl_s, e4, mq_cl_s]
/-- one byte of the reference's -/
theorem rf_four1 {N n t k : Nat} {z : Nat → Nat} {S : mq_St} (v : Int32) (ht : S.1 1 = nI t) (h4 : t < 4000) (hk : k ≤ 24) : zf_X11_four_3 N z (n + 1) v (nI k) S = zf_X11_four_3 N z n v (nI k + (-8)) (mq_si (mq_sa S 0 (upd (S.2.1 0) t (v >>> (nI k &&& 31)).toInt8.toInt32)) 1 (nI (t + 1))) := by
  show zf_X11_four_3b N z _ v (nI k) S = _
  unfold zf_X11_four_3b
  rw [if_neg (nI_pos (by omega)), ht, mq_ck_of (vp_in_nI h4 (by omega)), nI_clamp (by omega)]
  dsimp only [mq_nS, mq_nI]
  rw [vp_nar_byte, show (v >>> (nI k &&& 31)).toInt8.toInt32.toInt8.toInt32 = (v >>> (nI k &&& 31)).toInt8.toInt32 from by rw [Int8.toInt8_toInt32]]
  have e : (mq_sa S 0 (upd (S.2.1 0) t (v >>> (nI k &&& 31)).toInt8.toInt32)).1 1 + 1 = nI (t + 1) := by
    show S.1 1 + 1 = _
    rw [ht, nI_1]
  rw [e]
theorem rf_four {N t : Nat} {z : Nat → Nat} {S : mq_St} {g : Nat → Int32} (v : Int32) (hN : 5 ≤ N) (ht : S.1 1 = nI t) (h4 : t + 4 ≤ 4000) (hg : ∀ i, i < t → g i = S.2.1 0 i &&& 255) : ∃ S', zf_X11_four N z v S = some ((), S') ∧ S'.1 1 = nI (t + 4) ∧ (∀ i, i < t + 4 → by_four g t v i = S'.2.1 0 i &&& 255) ∧ ag [1] [0] [] S S' := by
  obtain ⟨n, rfl⟩ : ∃ n, N = n + 5 := ⟨N - 5, by omega⟩
  unfold zf_X11_four
  dsimp only [mq_nI]
  have a1 : (24 : Int32) = nI 24 := rfl
  have a2 : nI 24 + (-8) = nI 16 := by decide
  have a3 : nI 16 + (-8) = nI 8 := by decide
  have a4 : nI 8 + (-8) = nI 0 := by decide
  have a5 : nI 0 + (-8) = -8 := by decide
  rw [a1, rf_four1 v ht (by omega) (by omega), a2, rf_four1 v rfl (by omega) (by omega), a3, rf_four1 v rfl (by omega) (by omega), a4, rf_four1 v rfl (by omega) (by omega), a5]
  refine ⟨_, rfl, rfl, ?_, ?_⟩
  · intro i hi
    show by_four g t v i = (upd (upd (upd (upd (S.2.1 0) t (v >>> (nI 24 &&& 31)).toInt8.toInt32) (t + 1) (v >>> (nI 16 &&& 31)).toInt8.toInt32) (t + 1 + 1) (v >>> (nI 8 &&& 31)).toInt8.toInt32) (t + 1 + 1 + 1) (v >>> (nI 0 &&& 31)).toInt8.toInt32) i &&& 255
    unfold by_four upd
    by_cases h3 : i = t + 3
    · subst h3
      rw [if_pos rfl, if_pos rfl, bp_b, by_sh v (by omega), by_sh0]
    · rw [if_neg h3, if_neg (show ¬ i = t + 1 + 1 + 1 from h3)]
      by_cases h2 : i = t + 2
      · subst h2
        rw [if_pos rfl, if_pos rfl, bp_b, by_sh v (by omega)]
        rfl
      · rw [if_neg h2, if_neg (show ¬ i = t + 1 + 1 from h2)]
        by_cases h1 : i = t + 1
        · subst h1
          rw [if_pos rfl, if_pos rfl, bp_b, by_sh v (by omega)]
          rfl
        · rw [if_neg h1, if_neg h1]
          by_cases h0 : i = t
          · subst h0
            rw [if_pos rfl, if_pos rfl, bp_b, by_sh v (by omega)]
            rfl
          · rw [if_neg h0, if_neg h0]
            exact hg i (by omega)
  · refine ag_tr ?_ (ag_si (by decide))
    refine ag_tr ?_ (ag_sa (by decide))
    refine ag_tr ?_ (ag_si (by decide))
    refine ag_tr ?_ (ag_sa (by decide))
    refine ag_tr ?_ (ag_si (by decide))
    refine ag_tr ?_ (ag_sa (by decide))
    refine ag_tr ?_ (ag_si (by decide))
    refine ag_tr ?_ (ag_sa (by decide))
    exact ag_rf
/-- a number fed to both -/
theorem st_num {N : Nat} {z : Nat → Nat} {SC SR : mq_St} {t : Nat} (v : Int32) (hN : 5 ≤ N) (hc : SC.1 0 = nI t) (hr : SR.1 1 = nI t) (h4 : t + 4 ≤ 4000) (hb : ∀ i, i < t → by_at (SC.2.1 2) i = SR.2.1 0 i &&& 255) :
    ∃ X SR', zf_X0_pushNumber N z v (mq_pull SC [0] [2] []) = some ((), X) ∧ zf_X11_four N z v SR = some ((), SR') ∧ (mq_push SC X [0] [2] []).1 0 = nI (t + 4) ∧ SR'.1 1 = nI (t + 4) ∧ (∀ i, i < t + 4 → by_at ((mq_push SC X [0] [2] []).2.1 2) i = SR'.2.1 0 i &&& 255) ∧ ag [1] [0] [] SR SR' := by
  obtain ⟨X, e1, r1, r2, r3⟩ := by_zpushNumber (N := N) (z := z) (S := mq_pull SC [0] [2] []) (t := t) (g := fun i => SR.2.1 0 i &&& 255) v ⟨hc, by omega, hb⟩ h4
  obtain ⟨SR', e2, q1, q2, q3⟩ := rf_four (N := N) (z := z) (S := SR) (g := fun i => SR.2.1 0 i &&& 255) v hN hr h4 (fun i _ => rfl)
  exact ⟨X, SR', e1, e2, r1, q1, fun i hi => (r3 i hi).trans (q2 i hi), q3⟩
end
/-! 72.ops -/
section
/-! feed, end, take, alter, out: both sides answer alike, and the tapes stay alike. -/
theorem mq_cz_0 {α : Type} (k : Option α) : mq_cz 0 k = k := by unfold mq_cz; rw [if_pos (Or.inl rfl)]
theorem mq_cz_1 {α : Type} (k : Option α) : mq_cz 1 k = k := by unfold mq_cz; rw [if_pos (Or.inr rfl)]
theorem st_feed {N : Nat} {z : Nat → Nat} {SC SR : mq_St} (x1 x2 x3 x4 x5 : Int32) (hN : 5 ≤ N) (h : iv_tape (SC.1 0) (SC.2.1 2) (SR.1 1) (SR.2.1 0)) :
    ∃ r SC' SR', zf_X10_feed N z x1 x2 x3 x4 x5 SC = some (r, SC') ∧ zf_X11_feed N z x1 x2 x3 x4 x5 SR = some (r, SR') ∧ iv_tape (SC'.1 0) (SC'.2.1 2) (SR'.1 1) (SR'.2.1 0) ∧ ag [0] [2] [] SC SC' ∧ ag [0, 1] [0] [] SR SR' := by
  obtain ⟨t, h4, hc, hr, hb⟩ := h
  have hcond : (nI t + 20 ≤ (4000 : Int32)) ↔ t + 20 ≤ 4000 := by
    have e : nI t + 20 = nI (t + 20) := nI_add t 20
    rw [e]
    exact nI_leI (a := t + 20) (b := 4000) (by omega) (by omega)
  by_cases ht : t + 20 ≤ 4000
  · obtain ⟨X1, R1, a1, b1, c1, d1, e1, f1⟩ := st_num (N := N) (z := z) (SC := SC) (SR := mq_si SR 0 0) x1 hN hc hr (by omega) hb
    obtain ⟨X2, R2, a2, b2, c2, d2, e2, f2⟩ := st_num (N := N) (z := z) x2 hN c1 d1 (by omega) e1
    obtain ⟨X3, R3, a3, b3, c3, d3, e3, f3⟩ := st_num (N := N) (z := z) x3 hN c2 d2 (by omega) e2
    obtain ⟨X4, R4, a4, b4, c4, d4, e4, f4⟩ := st_num (N := N) (z := z) x4 hN c3 d3 (by omega) e3
    obtain ⟨X5, R5, a5, b5, c5, d5, e5, f5⟩ := st_num (N := N) (z := z) x5 hN c4 d4 (by omega) e4
    refine ⟨nI (t + 4 + 4 + 4 + 4 + 4), _, R5, ?_, ?_, ⟨t + 4 + 4 + 4 + 4 + 4, by omega, c5, d5, e5⟩, ag_tr (ag_tr (ag_tr (ag_tr ag_push ag_push) ag_push) ag_push) ag_push, ?_⟩
    · unfold zf_X10_feed
      rw [show zf_X0_size N z (mq_pull SC [0] [2] []) = some (SC.1 0) from rfl, mq_cp_s, hc]
      rw [if_pos (hcond.mpr ht), a1, mq_cl_s]
      dsimp only [mq_nS]
      rw [a2, mq_cl_s]
      try dsimp only
      rw [a3, mq_cl_s]
      try dsimp only
      rw [a4, mq_cl_s]
      try dsimp only
      rw [a5, mq_cl_s, ← c5]
      rfl
    · unfold zf_X11_feed
      dsimp only [mq_nS]
      show (if SR.1 1 + 20 ≤ 4000 then _ else _) = _
      rw [hr, if_pos (hcond.mpr ht), b1, mq_cl_s, b2, mq_cl_s, b3, mq_cl_s, b4, mq_cl_s, b5, mq_cl_s, d5]
    · have m : ∀ {S S' : mq_St}, ag [1] [0] [] S S' → ag [0, 1] [0] [] S S' := fun h => ag_mono h (by decide) (by decide) (by decide)
      exact ag_tr (ag_tr (ag_tr (ag_tr (ag_tr (ag_si (by decide)) (m f1)) (m f2)) (m f3)) (m f4)) (m f5)
  · refine ⟨-1, SC, mq_si SR 0 0, ?_, ?_, ⟨t, h4, hc, hr, hb⟩, ag_rf, ag_si (by decide)⟩
    · unfold zf_X10_feed
      rw [show zf_X0_size N z (mq_pull SC [0] [2] []) = some (SC.1 0) from rfl, mq_cp_s, hc]
      rw [if_neg (fun q => ht (hcond.mp q))]
    · unfold zf_X11_feed
      dsimp only [mq_nS]
      show (if SR.1 1 + 20 ≤ 4000 then _ else _) = _
      rw [hr, if_neg (fun q => ht (hcond.mp q))]
theorem rf_in {N : Nat} {z : Nat → Nat} {S : mq_St} (v a b : Int32) : zf_X11_in N z v a b S = some (if v < a ∨ b < v then 0 else 1) := by
  unfold zf_X11_in
  rw [mq_cz_0, mq_cz_1]
  by_cases h1 : v < a
  · rw [if_pos h1, if_pos (Or.inl h1)]
  · rw [if_neg h1]
    by_cases h2 : b < v
    · rw [if_pos h2, if_pos (Or.inr h2)]
    · rw [if_neg h2, if_neg (fun q => q.elim h1 h2)]
theorem by_keep {N : Nat} {z : Nat → Nat} {S : mq_St} (v : Int32) : zf_X0_keep N z v S = if v < 0 ∨ S.1 0 < v then some (0, S) else some (1, mq_si S 0 v) := by
  unfold zf_X0_keep
  dsimp only [mq_nS]
  rw [mq_cz_0, mq_cz_1]
  by_cases h1 : v < 0
  · rw [if_pos h1, if_pos (Or.inl h1)]
  · rw [if_neg h1]
    by_cases h2 : S.1 0 < v
    · rw [if_neg (Int32.not_le.mpr h2), if_pos (Or.inr h2)]
    · rw [if_pos (Int32.not_lt.mp h2), if_neg (fun q => q.elim h1 h2)]
theorem st_end {N : Nat} {z : Nat → Nat} {SC SR : mq_St} (v : Int32) (h : iv_tape (SC.1 0) (SC.2.1 2) (SR.1 1) (SR.2.1 0)) :
    ∃ r SC' SR', zf_X10_end N z v SC = some (r, SC') ∧ zf_X11_end N z v SR = some (r, SR') ∧ iv_tape (SC'.1 0) (SC'.2.1 2) (SR'.1 1) (SR'.2.1 0) ∧ ag [0] [2] [] SC SC' ∧ ag [0, 1] [0] [] SR SR' := by
  obtain ⟨t, h4, hc, hr, hb⟩ := h
  unfold zf_X10_end zf_X11_end
  dsimp only [mq_nS]
  rw [by_keep, rf_in]
  have ec : (mq_pull SC [0] [2] []).1 0 = nI t := hc
  have er : (mq_si SR 0 0).1 1 = nI t := hr
  rw [ec, er]
  by_cases hv : v < 0 ∨ nI t < v
  · rw [if_pos hv, if_pos hv]
    exact ⟨-1, _, _, rfl, rfl, ⟨t, h4, hc, hr, hb⟩, ag_push, ag_si (by decide)⟩
  · rw [if_neg hv, if_neg hv]
    obtain ⟨j, hj, rfl⟩ : ∃ j : Nat, j ≤ t ∧ v = nI j := by
      have h1 : ¬ v < 0 := fun q => hv (Or.inl q)
      have h2 : v ≤ nI t := Int32.not_lt.mp (fun q => hv (Or.inr q))
      exact nI_of2 (nI_toInt (by omega)) h1 h2
    refine ⟨nI j, _, _, rfl, rfl, ⟨j, by omega, rfl, rfl, fun i hi => hb i (by omega)⟩, ag_push, ag_tr (ag_si (by decide)) (ag_si (by decide))⟩
theorem st_alter {N : Nat} {z : Nat → Nat} {SC SR : mq_St} (i v : Int32) (h : iv_tape (SC.1 0) (SC.2.1 2) (SR.1 1) (SR.2.1 0)) :
    ∃ r SC' SR', zf_X10_alter N z i v SC = some (r, SC') ∧ zf_X11_alter N z i v SR = some (r, SR') ∧ iv_tape (SC'.1 0) (SC'.2.1 2) (SR'.1 1) (SR'.2.1 0) ∧ ag [0] [2] [] SC SC' ∧ ag [0, 1] [0] [] SR SR' := by
  obtain ⟨t, h4, hc, hr, hb⟩ := h
  have hlast : ∀ w : Int32, (w < 0 ∨ nI t - 1 < w) ↔ (w < 0 ∨ nI t ≤ w) := by
    intro w
    have e : (nI t - 1).toInt = (t : Int) - 1 := pk_sub_toInt (a := t) (b := 1) (by omega) (by omega)
    rw [Int32.lt_iff_toInt_lt (x := nI t - 1), Int32.le_iff_toInt_le (x := nI t), e, nI_toInt (by omega)]
    constructor
    · rintro (q | q)
      · exact Or.inl q
      · exact Or.inr (by omega)
    · rintro (q | q)
      · exact Or.inl q
      · exact Or.inr (by omega)
  unfold zf_X10_alter zf_X11_alter
  by_cases hv : i < 0 ∨ nI t ≤ i
  · rw [by_zput_out (S := mq_pull SC [0] [2] []) i v hc hv]
    refine ⟨0, mq_push SC (mq_pull SC [0] [2] []) [0] [2] [], mq_si SR 0 0, ?_, ?_, ⟨t, h4, hc, hr, hb⟩, ag_push, ag_si (by decide)⟩
    · rw [mq_cl_s]
      dsimp only [mq_nS]
      rw [mq_cz_0]
    · dsimp only [mq_nS]
      rw [rf_in]
      have er : (mq_si SR 0 0).1 1 = nI t := hr
      rw [er, if_pos ((hlast i).mpr hv), mq_cp_s, if_pos rfl, mq_cz_0]
  · obtain ⟨j, hj, rfl⟩ : ∃ j : Nat, j < t ∧ i = nI j := by
      rcases pk_ix i (n := t) (by omega) with q | q | q
      · exact absurd (Or.inl q) hv
      · exact absurd (Or.inr q) hv
      · exact q
    rw [by_zput (S := mq_pull SC [0] [2] []) v hc h4 hj]
    refine ⟨1, mq_push SC (mq_sa (mq_pull SC [0] [2] []) 0 (by_put (SC.2.1 2) j v)) [0] [2] [], mq_sa (mq_si SR 0 0) 0 (upd (SR.2.1 0) j v.toInt8.toInt32), ?_, ?_, ⟨t, h4, hc, hr, fun k hk => ?_⟩, ag_push, ag_tr (ag_si (by decide)) (ag_sa (by decide))⟩
    · rw [mq_cl_s]
      dsimp only [mq_nS]
      rw [mq_cz_1]
      rfl
    · dsimp only [mq_nS]
      rw [rf_in]
      have er : (mq_si SR 0 0).1 1 = nI t := hr
      rw [er, if_neg (fun q => hv ((hlast _).mp q)), mq_cp_s, if_neg (by decide), mq_ck_of (vp_in_nI (by omega) (by omega)), nI_clamp (by omega), vp_nar_byte, show v.toInt8.toInt32.toInt8.toInt32 = v.toInt8.toInt32 from by rw [Int8.toInt8_toInt32], mq_cz_1]
      rfl
    · show by_at (by_put (SC.2.1 2) j v) k = (upd (SR.2.1 0) j v.toInt8.toInt32) k &&& 255
      rw [by_put_at]
      unfold upd
      by_cases e : k = j
      · rw [if_pos e, if_pos e, bp_b]
      · rw [if_neg e, if_neg e]
        exact hb k hk
theorem st_out {N : Nat} {z : Nat → Nat} {SC SR : mq_St} (i : Int32) (h : iv_tape (SC.1 1) (SC.2.1 3) (SR.1 2) (SR.2.1 1)) :
    ∃ r SR', zf_X10_out N z i SC = some r ∧ zf_X11_out N z i SR = some (r, SR') ∧ ag [0] [] [] SR SR' := by
  obtain ⟨t, h4, hc, hr, hb⟩ := h
  unfold zf_X10_out zf_X11_out
  dsimp only [mq_nS]
  rw [rf_in]
  have er : (mq_si SR 0 0).1 2 = nI t := hr
  rw [er]
  have e : (nI t - 1).toInt = (t : Int) - 1 := pk_sub_toInt (a := t) (b := 1) (by omega) (by omega)
  by_cases hv : i < 0 ∨ nI t ≤ i
  · rw [by_zat_out (S := mq_pull SC [1] [3] []) i hc h4 hv]
    have h2 : i < 0 ∨ nI t - 1 < i := by
      rcases hv with q | q
      · exact Or.inl q
      · rw [Int32.le_iff_toInt_le, nI_toInt (by omega)] at q
        exact Or.inr (by rw [Int32.lt_iff_toInt_lt, e]; omega)
    rw [if_pos h2]
    exact ⟨-1, _, rfl, rfl, ag_si (by decide)⟩
  · obtain ⟨j, hj, rfl⟩ : ∃ j : Nat, j < t ∧ i = nI j := by
      rcases pk_ix i (n := t) (by omega) with q | q | q
      · exact absurd (Or.inl q) hv
      · exact absurd (Or.inr q) hv
      · exact q
    rw [by_zat (S := mq_pull SC [1] [3] []) hc h4 hj]
    have h2 : ¬ (nI j < 0 ∨ nI t - 1 < nI j) := by
      rintro (q | q)
      · exact nI_pos (by omega) q
      · rw [Int32.lt_iff_toInt_lt, e, nI_toInt (by omega)] at q
        omega
    rw [if_neg h2]
    refine ⟨by_at (SC.2.1 3) j, mq_si SR 0 0, rfl, ?_, ag_si (by decide)⟩
    rw [mq_cp_s, if_neg (by decide), mq_ck_of (vp_in_nI (by omega) (by omega)), nI_clamp (by omega), hb j hj]
    rfl
/-- the words up to those that hold t bytes are copied -/
theorem by_copy {N : Nat} {z : Nat → Nat} {t : Nat} (h4 : t ≤ 4000) : ∀ (n k : Nat) (S : mq_St), S.1 0 = nI t → k ≤ 1000 → 1000 - k < n → (∀ j, j < k → S.2.1 0 j = S.2.1 1 j) → ∃ S', zf_X0_copy_10 N z n (nI k) S = some ((), S') ∧ S'.1 = S.1 ∧ S'.2.1 1 = S.2.1 1 ∧ ∀ j, 4 * j < t → S'.2.1 0 j = S.2.1 1 j := by
  intro n
  induction n with
  | zero => intro k S _ _ h; omega
  | succ n ih =>
    intro k S hs hk hn hj
    show ∃ S', zf_X0_copy_10b N z _ (nI k) S = some ((), S') ∧ _
    unfold zf_X0_copy_10b
    have e4 : (4 : Int32) * nI k = nI (4 * k) := pk_mul 4 k
    rw [hs, e4]
    by_cases h1 : t ≤ 4 * k
    · rw [if_pos ((nI_leI (by omega) (by omega)).mpr h1)]
      exact ⟨S, rfl, rfl, rfl, fun j q => hj j (by omega)⟩
    · rw [if_neg (fun q => h1 ((nI_leI (by omega) (by omega)).mp q))]
      have h2 : k < 1000 := by omega
      have e1000 : ¬ (1000 : Int32) ≤ nI k := nI_ge (a := k) (b := 1000) h2 (by omega)
      rw [if_neg e1000, mq_ck_of (vp_in_nI h2 (by omega)), mq_ck_of (vp_in_nI h2 (by omega)), nI_clamp (by omega)]
      dsimp only [mq_nS, mq_nI]
      rw [nI_1]
      obtain ⟨S', a1, a2, a3, a4⟩ := ih (k + 1) (mq_sa S 0 (upd (S.2.1 0) k (S.2.1 1 k))) hs (by omega) (by omega) (fun j q => by
        show (upd (S.2.1 0) k (S.2.1 1 k)) j = S.2.1 1 j
        unfold upd
        by_cases e : j = k
        · rw [if_pos e, e]
        · rw [if_neg e]
          exact hj j (by omega))
      exact ⟨S', a1, a2, a3, a4⟩
theorem rf_take {N : Nat} {z : Nat → Nat} {t : Nat} (h4 : t ≤ 4000) : ∀ (n k : Nat) (S : mq_St), S.1 2 = nI t → k ≤ t → t - k < n → (∀ j, j < k → S.2.1 0 j &&& 255 = S.2.1 1 j &&& 255) → ∃ S', zf_X11_take_7 N z n (nI k) S = some (nI t, S') ∧ S'.1 1 = nI t ∧ (∀ j, j < t → S'.2.1 0 j &&& 255 = S.2.1 1 j &&& 255) ∧ ag [1] [0] [] S S' := by
  intro n
  induction n with
  | zero => intro k S _ _ h; omega
  | succ n ih =>
    intro k S hs hk hn hj
    show ∃ S', zf_X11_take_7b N z _ (nI k) S = some (nI t, S') ∧ _
    unfold zf_X11_take_7b
    rw [hs]
    by_cases h1 : t ≤ k
    · rw [if_pos ((nI_leI (by omega) (by omega)).mpr h1)]
      exact ⟨mq_si S 1 (nI t), rfl, rfl, fun j q => hj j (by omega), ag_si (by decide)⟩
    · rw [if_neg (fun q => h1 ((nI_leI (by omega) (by omega)).mp q)), mq_ck_of (vp_in_nI (by omega) (by omega)), mq_ck_of (vp_in_nI (by omega) (by omega)), nI_clamp (by omega)]
      dsimp only [mq_nS, mq_nI]
      rw [nI_1]
      obtain ⟨S', a1, a2, a3, a4⟩ := ih (k + 1) (mq_sa S 0 (upd (S.2.1 0) k (vp_nar .byte (S.2.1 1 k)))) hs (by omega) (by omega) (fun j q => by
        show (upd (S.2.1 0) k (vp_nar .byte (S.2.1 1 k))) j &&& 255 = S.2.1 1 j &&& 255
        unfold upd
        by_cases e : j = k
        · rw [if_pos e, e, vp_nar_byte, bp_b]
        · rw [if_neg e]
          exact hj j (by omega))
      exact ⟨S', a1, a2, a3, ag_tr (ag_sa (by decide)) a4⟩
theorem st_take {N : Nat} {z : Nat → Nat} {SC SR : mq_St} (hN : 5000 ≤ N) (h : iv_tape (SC.1 1) (SC.2.1 3) (SR.1 2) (SR.2.1 1)) :
    ∃ r SC' SR', zf_X10_take N z SC = some (r, SC') ∧ zf_X11_take N z SR = some (r, SR') ∧ iv_tape (SC'.1 0) (SC'.2.1 2) (SR'.1 1) (SR'.2.1 0) ∧ iv_tape (SC'.1 1) (SC'.2.1 3) (SR'.1 2) (SR'.2.1 1) ∧ ag [0, 1] [2, 3] [] SC SC' ∧ ag [0, 1] [0] [] SR SR' := by
  obtain ⟨t, h4, hc, hr, hb⟩ := h
  obtain ⟨X, a1, a2, a3, a4⟩ := by_copy (N := N) (z := z) h4 N 0 (mq_si (mq_pull SC [0, 1] [2, 3] []) 0 (nI t)) rfl (by omega) (by omega) (fun j q => by omega)
  obtain ⟨SR', b1, b2, b3, b4⟩ := rf_take (N := N) (z := z) h4 N 0 (mq_si SR 0 0) hr (by omega) (by omega) (fun j q => by omega)
  have e0 : X.1 0 = nI t := by rw [a2]; rfl
  have e1 : X.1 1 = nI t := by rw [a2]; exact hc
  have e3 : X.2.1 1 = SC.2.1 3 := a3
  refine ⟨nI t, mq_push SC X [0, 1] [2, 3] [], SR', ?_, ?_, ⟨t, h4, e0, b2, fun i hi => ?_⟩, ⟨t, h4, e1, (b4.1 2 (by decide)).trans hr, fun i hi => ?_⟩, ag_push, ?_⟩
  · unfold zf_X10_take zf_X0_copy
    dsimp only [mq_nS, mq_nI]
    rw [show (mq_pull SC [0, 1] [2, 3] []).1 1 = nI t from hc, show (0 : Int32) = nI 0 from rfl, a1, ← e0]
    rfl
  · unfold zf_X11_take
    dsimp only [mq_nS, mq_nI]
    rw [show (0 : Int32) = nI 0 from rfl]
    exact b1
  · show by_at (X.2.1 0) i = SR'.2.1 0 i &&& 255
    rw [b3 i hi]
    unfold by_at
    rw [a4 (i / 4) (by omega)]
    exact hb i hi
  · show by_at (X.2.1 1) i = SR'.2.1 1 i &&& 255
    rw [e3, b4.2.1 1 (by decide)]
    exact hb i hi
  · exact ag_tr (ag_si (by decide)) (ag_mono b4 (by decide) (by decide) (by decide))
end
/-! 73.simple -/
section
/-! formulas, formula, slot, fault, count, worlds: reads of fields. -/
/-- the FORMULAS on both sides: c2, so, on, tw the class's, r3, rs, ro, rt the reference's -/
def iv_same (c2 : Int32) (so on tw : Nat → Int32) (r3 : Int32) (rs ro rt : Nat → Int32) : Prop := ∃ n : Nat, 2 ≤ n ∧ n ≤ 300 ∧ c2 = nI n ∧ r3 = nI n ∧ ∀ f, f < n → so f = rs f ∧ on f = ro f ∧ tw f = rt f
def iv_slots (ys no ry rn : Nat → Int32) : Prop := ∀ s, s < 8 → ys s = ry s ∧ no s = rn s
theorem mq_lst (t : Nat) (h : t ≤ 4000) (w : Int32) : (w < 0 ∨ nI t - 1 < w) ↔ (w < 0 ∨ nI t ≤ w) := by
  have e : (nI t - 1).toInt = (t : Int) - 1 := pk_sub_toInt (a := t) (b := 1) (by omega) (by omega)
  rw [Int32.lt_iff_toInt_lt (x := nI t - 1), Int32.le_iff_toInt_le (x := nI t), e, nI_toInt (by omega)]
  constructor
  · rintro (q | q)
    · exact Or.inl q
    · exact Or.inr (by omega)
  · rintro (q | q)
    · exact Or.inl q
    · exact Or.inr (by omega)
/-- a place in a row of t, or none -/
theorem mq_place (w : Int32) {t : Nat} (h : t ≤ 4000) : (w < 0 ∨ nI t ≤ w) ∨ ∃ j : Nat, j < t ∧ w = nI j ∧ ¬ (w < 0 ∨ nI t ≤ w) := by
  by_cases hv : w < 0 ∨ nI t ≤ w
  · exact Or.inl hv
  · rcases pk_ix w (n := t) (by omega) with q | q | ⟨j, hj, e⟩
    · exact absurd (Or.inl q) hv
    · exact absurd (Or.inr q) hv
    · exact Or.inr ⟨j, hj, e, hv⟩
theorem ck_has {N : Nat} {z : Nat → Nat} {S : mq_St} (v : Int32) : zf_X7_has N z v S = some (if v < 0 ∨ S.1 2 ≤ v then 0 else 1) := by
  unfold zf_X7_has
  rw [mq_cz_0, mq_cz_1]
  by_cases h1 : v < 0
  · rw [if_pos h1, if_pos (Or.inl h1)]
  · rw [if_neg h1]
    by_cases h2 : S.1 2 ≤ v
    · rw [if_pos h2, if_pos (Or.inr h2)]
    · rw [if_neg h2, if_neg (fun q => q.elim h1 h2)]
theorem ck_isSlot {N : Nat} {z : Nat → Nat} {S : mq_St} (v : Int32) : zf_X10_isSlot N z v S = some (if v < 0 ∨ 8 ≤ v then 0 else 1) := by
  unfold zf_X10_isSlot
  rw [mq_cz_0, mq_cz_1]
  by_cases h1 : v < 0
  · rw [if_pos h1, if_pos (Or.inl h1)]
  · rw [if_neg h1]
    by_cases h2 : 8 ≤ v
    · rw [if_pos h2, if_pos (Or.inr h2)]
    · rw [if_neg h2, if_neg (fun q => q.elim h1 h2)]
theorem ck_out {N : Nat} {z : Nat → Nat} {S : mq_St} {n : Nat} {v : Int32} (hn : S.1 2 = nI n) (hv : v < 0 ∨ nI n ≤ v) : zf_X7_sortOf N z v S = some (-1) ∧ zf_X7_firstOf N z v S = some (-1) ∧ zf_X7_secondOf N z v S = some (-1) ∧ zf_X7_denialOf N z v S = some (-1) := by
  refine ⟨?_, ?_, ?_, ?_⟩
  · unfold zf_X7_sortOf
    rw [ck_has, hn, if_pos hv, mq_cp_s, if_pos rfl]
  · unfold zf_X7_firstOf
    rw [ck_has, hn, if_pos hv, mq_cp_s, if_pos rfl]
  · unfold zf_X7_secondOf
    rw [ck_has, hn, if_pos hv, mq_cp_s, if_pos rfl]
  · unfold zf_X7_denialOf
    rw [ck_has, hn, if_pos hv, mq_cp_s, if_pos rfl]
theorem ck_in {N : Nat} {z : Nat → Nat} {S : mq_St} {n f : Nat} (hn : S.1 2 = nI n) (h3 : n ≤ 300) (hf : f < n) : zf_X7_sortOf N z (nI f) S = some (S.2.1 4 f) ∧ zf_X7_firstOf N z (nI f) S = some (S.2.1 5 f) ∧ zf_X7_secondOf N z (nI f) S = some (S.2.1 6 f) ∧ zf_X7_denialOf N z (nI f) S = some (S.2.1 7 f) := by
  have hv : ¬ (nI f < 0 ∨ nI n ≤ nI f) := by
    rintro (q | q)
    · exact nI_pos (by omega) q
    · exact nI_ge hf (by omega) q
  have h1 : ¬ (1 : Int32) = 0 := by decide
  refine ⟨?_, ?_, ?_, ?_⟩
  · unfold zf_X7_sortOf
    rw [ck_has, hn, if_neg hv, mq_cp_s, if_neg h1, mq_ck_of (vp_in_nI (by omega) (by omega)), nI_clamp (by omega)]
  · unfold zf_X7_firstOf
    rw [ck_has, hn, if_neg hv, mq_cp_s, if_neg h1, mq_ck_of (vp_in_nI (by omega) (by omega)), nI_clamp (by omega)]
  · unfold zf_X7_secondOf
    rw [ck_has, hn, if_neg hv, mq_cp_s, if_neg h1, mq_ck_of (vp_in_nI (by omega) (by omega)), nI_clamp (by omega)]
  · unfold zf_X7_denialOf
    rw [ck_has, hn, if_neg hv, mq_cp_s, if_neg h1, mq_ck_of (vp_in_nI (by omega) (by omega)), nI_clamp (by omega)]
theorem rf_isF {N : Nat} {z : Nat → Nat} {S : mq_St} {n : Nat} (v : Int32) (hn : S.1 3 = nI n) (h3 : n ≤ 300) : zf_X11_isFormula N z v S = some (if v < 0 ∨ nI n ≤ v then 0 else 1) := by
  unfold zf_X11_isFormula
  rw [rf_in, hn]
  by_cases h : v < 0 ∨ nI n ≤ v
  · rw [if_pos h, if_pos ((mq_lst n (by omega) v).mpr h), mq_cp_s, mq_cz_0]
  · rw [if_neg h, if_neg (fun q => h ((mq_lst n (by omega) v).mp q)), mq_cp_s, mq_cz_1]
theorem st_formulas {N : Nat} {z : Nat → Nat} {SC SR : mq_St} (h : iv_same (SC.1 2) (SC.2.1 4) (SC.2.1 5) (SC.2.1 6) (SR.1 3) (SR.2.1 2) (SR.2.1 3) (SR.2.1 4)) :
    ∃ r SR', zf_X10_formulas N z SC = some r ∧ zf_X11_formulas N z SR = some (r, SR') ∧ ag [0] [] [] SR SR' := by
  obtain ⟨n, h2, h3, hc, hr, hs⟩ := h
  refine ⟨nI n, mq_si SR 0 0, ?_, ?_, ag_si (by decide)⟩
  · unfold zf_X10_formulas zf_X7_size
    rw [mq_cp_s, hc]
  · unfold zf_X11_formulas
    dsimp only [mq_nS]
    rw [show (mq_si SR 0 0).1 3 = nI n from hr]
theorem st_formula {N : Nat} {z : Nat → Nat} {SC SR : mq_St} (v w : Int32) (h : iv_same (SC.1 2) (SC.2.1 4) (SC.2.1 5) (SC.2.1 6) (SR.1 3) (SR.2.1 2) (SR.2.1 3) (SR.2.1 4)) :
    ∃ r SR', zf_X10_formula N z v w SC = some r ∧ zf_X11_formula N z v w SR = some (r, SR') ∧ ag [0] [] [] SR SR' := by
  obtain ⟨n, h2, h3, hc, hr, hs⟩ := h
  unfold zf_X10_formula zf_X11_formula
  dsimp only [mq_nS]
  rw [rf_isF (S := mq_si SR 0 0) v hr h3]
  rcases mq_place v (t := n) (by omega) with hv | ⟨f, hf, rfl, hv⟩
  · obtain ⟨e1, e2, e3, -⟩ := ck_out (N := N) (z := z) hc hv
    rw [if_pos hv, mq_cp_s, if_pos rfl, e1, e2, e3]
    simp only [mq_cp_s]
    refine ⟨-1, mq_si SR 0 0, ?_, rfl, ag_si (by decide)⟩
    by_cases a : w = 0
    · rw [if_pos a]
    · rw [if_neg a]
      by_cases b : w = 1
      · rw [if_pos b]
      · rw [if_neg b]
        by_cases c : w = 2
        · rw [if_pos c]
        · rw [if_neg c]
  · obtain ⟨e1, e2, e3, -⟩ := ck_in (N := N) (z := z) hc h3 hf
    obtain ⟨s1, s2, s3⟩ := hs f hf
    have hin : vp_in (nI f) 300 := vp_in_nI (by omega) (by omega)
    have h10 : ¬ (1 : Int32) = 0 := by decide
    rw [if_neg hv, mq_cp_s, if_neg h10, e1, e2, e3]
    simp only [mq_cp_s, mq_ck_of hin]
    rw [nI_clamp (by omega)]
    have s1 : SC.2.1 4 f = (mq_si SR 0 0).2.1 2 f := s1
    have s2 : SC.2.1 5 f = (mq_si SR 0 0).2.1 3 f := s2
    have s3 : SC.2.1 6 f = (mq_si SR 0 0).2.1 4 f := s3
    rw [s1, s2, s3]
    by_cases a : w = 0
    · rw [if_pos a, if_pos a]
      exact ⟨_, mq_si SR 0 0, rfl, rfl, ag_si (by decide)⟩
    · rw [if_neg a, if_neg a]
      by_cases b : w = 1
      · rw [if_pos b, if_pos b]
        exact ⟨_, mq_si SR 0 0, rfl, rfl, ag_si (by decide)⟩
      · rw [if_neg b, if_neg b]
        by_cases c : w = 2
        · rw [if_pos c, if_pos c]
          exact ⟨_, mq_si SR 0 0, rfl, rfl, ag_si (by decide)⟩
        · rw [if_neg c, if_neg c]
          exact ⟨_, mq_si SR 0 0, rfl, rfl, ag_si (by decide)⟩
theorem st_slot {N : Nat} {z : Nat → Nat} {SC SR : mq_St} (v w : Int32) (h : iv_slots (SC.2.1 0) (SC.2.1 1) (SR.2.1 5) (SR.2.1 6)) :
    ∃ r SR', zf_X10_slot N z v w SC = some r ∧ zf_X11_slot N z v w SR = some (r, SR') ∧ ag [0] [] [] SR SR' := by
  unfold zf_X10_slot zf_X11_slot
  dsimp only [mq_nS]
  rw [ck_isSlot, rf_in]
  have e7 : (7 : Int32) = nI 8 - 1 := by decide
  have e8 : (8 : Int32) = nI 8 := rfl
  rw [e7, e8]
  rcases mq_place v (t := 8) (by omega) with hv | ⟨s, hs, rfl, hv⟩
  · rw [if_pos hv, if_pos ((mq_lst 8 (by omega) v).mpr hv), mq_cp_s, mq_cp_s, if_pos rfl, if_pos rfl]
    exact ⟨-1, mq_si SR 0 0, rfl, rfl, ag_si (by decide)⟩
  · obtain ⟨a1, a2⟩ := h s hs
    have hin : vp_in (nI s) 8 := vp_in_nI (by omega) (by omega)
    have h10 : ¬ (1 : Int32) = 0 := by decide
    rw [if_neg hv, if_neg (fun q => hv ((mq_lst 8 (by omega) _).mp q)), mq_cp_s, mq_cp_s, if_neg h10, if_neg h10]
    simp only [mq_ck_of hin]
    rw [nI_clamp (by omega)]
    have a1 : SC.2.1 0 s = (mq_si SR 0 0).2.1 5 s := a1
    have a2 : SC.2.1 1 s = (mq_si SR 0 0).2.1 6 s := a2
    rw [a1, a2]
    by_cases a : w = 0
    · rw [if_pos a, if_pos a]
      exact ⟨_, mq_si SR 0 0, rfl, rfl, ag_si (by decide)⟩
    · rw [if_neg a, if_neg a]
      by_cases b : w = 1
      · rw [if_pos b, if_pos b]
        exact ⟨_, mq_si SR 0 0, rfl, rfl, ag_si (by decide)⟩
      · rw [if_neg b, if_neg b]
        exact ⟨_, mq_si SR 0 0, rfl, rfl, ag_si (by decide)⟩
theorem st_fault {N : Nat} {z : Nat → Nat} {SC SR : mq_St} (v : Int32) (h : SC.1 11 = SR.1 4 ∧ SC.1 12 = SR.1 5) :
    ∃ r SR', zf_X10_fault N z v SC = some r ∧ zf_X11_fault N z v SR = some (r, SR') ∧ ag [0] [] [] SR SR' := by
  unfold zf_X10_fault zf_X11_fault zf_X5_faultFound zf_X5_placeOfFault
  dsimp only [mq_nS]
  rw [mq_cp_s, mq_cp_s, h.1, h.2]
  by_cases a : v = 0
  · rw [if_pos a, if_pos a]
    exact ⟨_, mq_si SR 0 0, rfl, rfl, ag_si (by decide)⟩
  · rw [if_neg a, if_neg a]
    by_cases b : v = 1
    · rw [if_pos b, if_pos b]
      exact ⟨_, mq_si SR 0 0, rfl, rfl, ag_si (by decide)⟩
    · rw [if_neg b, if_neg b]
      exact ⟨_, mq_si SR 0 0, rfl, rfl, ag_si (by decide)⟩
theorem st_count {N : Nat} {z : Nat → Nat} {SC SR : mq_St} (v : Int32) (h : SC.2.1 21 0 = SR.1 19 ∧ SC.2.1 21 1 = SR.1 20 ∧ SC.2.1 21 2 = SR.1 21 ∧ SC.2.1 21 3 = SR.1 22) :
    ∃ r SR', zf_X10_count N z v SC = some r ∧ zf_X11_count N z v SR = some (r, SR') ∧ ag [0] [] [] SR SR' := by
  unfold zf_X10_count zf_X11_count zf_X8_countOf
  dsimp only [mq_nS]
  rcases mq_place v (t := 4) (by omega) with hv | ⟨j, hj, rfl, hv⟩
  · have n0 : ¬ v = 0 := fun q => by rw [q] at hv; revert hv; decide
    have n1 : ¬ v = 1 := fun q => by rw [q] at hv; revert hv; decide
    have n2 : ¬ v = 2 := fun q => by rw [q] at hv; revert hv; decide
    have n3 : ¬ v = 3 := fun q => by rw [q] at hv; revert hv; decide
    rw [if_neg n0, if_neg n1, if_neg n2, if_neg n3]
    refine ⟨-1, mq_si SR 0 0, ?_, rfl, ag_si (by decide)⟩
    by_cases q : v < 0
    · rw [if_pos q, mq_cp_s]
    · have q2 : (4 : Int32) ≤ v := hv.resolve_left q
      rw [if_neg q, if_pos q2, mq_cp_s]
  · have q1 : ¬ nI j < 0 := fun q => hv (Or.inl q)
    have q2 : ¬ (4 : Int32) ≤ nI j := fun q => hv (Or.inr q)
    rw [if_neg q1, if_neg q2, mq_ck_of (vp_in_nI hj (by omega)), mq_cp_s, nI_clamp (by omega)]
    have hj4 : j = 0 ∨ j = 1 ∨ j = 2 ∨ j = 3 := by omega
    rcases hj4 with rfl | rfl | rfl | rfl
    · rw [if_pos (by decide : nI 0 = 0)]
      exact ⟨SR.1 19, mq_si SR 0 0, by rw [h.1], rfl, ag_si (by decide)⟩
    · rw [if_neg (by decide : ¬ nI 1 = 0), if_pos (by decide : nI 1 = 1)]
      exact ⟨SR.1 20, mq_si SR 0 0, by rw [h.2.1], rfl, ag_si (by decide)⟩
    · rw [if_neg (by decide : ¬ nI 2 = 0), if_neg (by decide : ¬ nI 2 = 1), if_pos (by decide : nI 2 = 2)]
      exact ⟨SR.1 21, mq_si SR 0 0, by rw [h.2.2.1], rfl, ag_si (by decide)⟩
    · rw [if_neg (by decide : ¬ nI 3 = 0), if_neg (by decide : ¬ nI 3 = 1), if_neg (by decide : ¬ nI 3 = 2), if_pos (by decide : nI 3 = 3)]
      exact ⟨SR.1 22, mq_si SR 0 0, by rw [h.2.2.2], rfl, ag_si (by decide)⟩
theorem st_worlds {N : Nat} {z : Nat → Nat} {SC SR : mq_St} : ∃ SR', zf_X10_worlds N z SC = some (SC.1 23) ∧ zf_X11_worlds N z SR = some (SR.1 31, SR') ∧ ag [0] [] [] SR SR' := ⟨mq_si SR 0 0, rfl, rfl, ag_si (by decide)⟩
end
/-! 74.proof -/
section
/-! proof(): the lines told, three bytes each. -/
def pl_c (rows : Nat → Int32) (i : Nat) : Int32 := if i % 3 = 0 then mq_iushr (rows (i / 3)) 16 &&& 255 else if i % 3 = 1 then mq_iushr (rows (i / 3)) 8 &&& 255 else rows (i / 3) &&& 255
def pl_r (pr pn : Nat → Int32) (i : Nat) : Int32 := if i % 3 = 0 then pr (i / 3) &&& 255 else if i % 3 = 1 then mq_iushr (pn (i / 3)) 8 &&& 255 else pn (i / 3) &&& 255
/-- the proof at hand: c25, rows the class's; r29 (has it), r30, pr, pn the reference's -/
def iv_proof (c25 : Int32) (rows : Nat → Int32) (r29 r30 : Int32) (pr pn : Nat → Int32) : Prop := ∃ m : Nat, m ≤ 1299 ∧ c25 = nI m ∧ ((m = 0 ∧ r29 = 0) ∨ (0 < m ∧ r29 = 1 ∧ r30 = nI m)) ∧ ∀ i, i < 3 * m → pl_c rows i = pl_r pr pn i
theorem by_row_c {S : mq_St} {t : Nat} {g g' : Nat → Int32} (h : by_row S t g) (e : ∀ i, i < t → g i = g' i) : by_row S t g' := ⟨h.1, h.2.1, fun i hi => (h.2.2 i hi).trans (e i hi)⟩
theorem pl_0 (rows : Nat → Int32) (k : Nat) : pl_c rows (3 * k) = mq_iushr (rows k) 16 &&& 255 := by
  unfold pl_c
  rw [if_pos (by omega), show 3 * k / 3 = k by omega]
theorem pl_1 (rows : Nat → Int32) (k : Nat) : pl_c rows (3 * k + 1) = mq_iushr (rows k) 8 &&& 255 := by
  unfold pl_c
  rw [if_neg (by omega), if_pos (by omega), show (3 * k + 1) / 3 = k by omega]
theorem pl_2 (rows : Nat → Int32) (k : Nat) : pl_c rows (3 * k + 1 + 1) = rows k &&& 255 := by
  unfold pl_c
  rw [if_neg (by omega), if_neg (by omega), show (3 * k + 1 + 1) / 3 = k by omega]
theorem by_next {N : Nat} {z : Nat → Nat} {S : mq_St} {t : Nat} {g : Nat → Int32} (v : Int32) (h : by_row S t g) (h4 : t < 4000) (e : g t = v &&& 255) : ∃ S', zf_X0_push N z v S = some ((), S') ∧ by_row S' (t + 1) g := by
  obtain ⟨S', h1, h2⟩ := by_zpush (N := N) (z := z) v h h4
  refine ⟨S', h1, by_row_c h2 (fun i hi => ?_)⟩
  unfold upd
  by_cases q : i = t
  · rw [if_pos q, q, e]
  · rw [if_neg q]
theorem pw_loop {N : Nat} {z : Nat → Nat} {m : Nat} (hm : m ≤ 1299) : ∀ (n k : Nat) (S : mq_St), S.1 0 = nI m → k ≤ m → m - k < n → by_row (mq_pull S [1] [1] []) (3 * k) (pl_c (S.2.1 0)) →
    ∃ S', zf_X3_writeTo_8 N z n (nI k) S = some ((), S') ∧ S'.1 0 = nI m ∧ S'.2.1 0 = S.2.1 0 ∧ by_row (mq_pull S' [1] [1] []) (3 * m) (pl_c (S.2.1 0)) := by
  intro n
  induction n with
  | zero => intro k S _ _ h; omega
  | succ n ih =>
    intro k S hs hk hn hr
    show ∃ S', zf_X3_writeTo_8b N z _ (nI k) S = some ((), S') ∧ _
    unfold zf_X3_writeTo_8b
    rw [hs]
    by_cases h1 : m ≤ k
    · have e : k = m := by omega
      subst e
      rw [if_pos ((nI_leI (by omega) (by omega)).mpr h1)]
      exact ⟨S, rfl, hs, rfl, hr⟩
    · have e1299 : ¬ (1299 : Int32) ≤ nI k := nI_ge (a := k) (b := 1299) (by omega) (by omega)
      have hin : vp_in (nI k) 1299 := vp_in_nI (by omega) (by omega)
      have ecl : (nI k).toNatClampNeg = k := nI_clamp (by omega)
      rw [if_neg (fun q => h1 ((nI_leI (by omega) (by omega)).mp q)), if_neg e1299]
      simp only [mq_ck_of hin, ecl]
      obtain ⟨X1, a1, b1⟩ := by_next (N := N) (z := z) (mq_iushr (S.2.1 0 k) 16) hr (by omega) (pl_0 _ _)
      rw [a1, mq_cl_s]
      dsimp only [mq_nS]
      obtain ⟨X2, a2, b2⟩ := by_next (N := N) (z := z) (S := mq_pull (mq_push S X1 [1] [1] []) [1] [1] []) (mq_iushr (S.2.1 0 k) 8) b1 (by omega) (pl_1 _ _)
      rw [show (mq_push S X1 [1] [1] []).2.1 0 = S.2.1 0 from rfl, a2, mq_cl_s]
      obtain ⟨X3, a3, b3⟩ := by_next (N := N) (z := z) (S := mq_pull (mq_push (mq_push S X1 [1] [1] []) X2 [1] [1] []) [1] [1] []) (S.2.1 0 k) b2 (by omega) (pl_2 _ _)
      rw [show (mq_push (mq_push S X1 [1] [1] []) X2 [1] [1] []).2.1 0 = S.2.1 0 from rfl, a3, mq_cl_s]
      dsimp only [mq_nI]
      rw [nI_1]
      exact ih (k + 1) (mq_push (mq_push (mq_push S X1 [1] [1] []) X2 [1] [1] []) X3 [1] [1] []) hs (by omega) (by omega) b3
theorem rp_loop {N : Nat} {z : Nat → Nat} {m : Nat} (hm : m ≤ 1299) : ∀ (n k : Nat) (S : mq_St), S.1 30 = nI m → k ≤ m → m - k < n → (∀ i, i < 3 * k → S.2.1 1 i &&& 255 = pl_r (S.2.1 32) (S.2.1 33) i) →
    ∃ S', zf_X11_proof_16 N z n (nI k) S = some (nI (3 * m), S') ∧ S'.1 2 = nI (3 * m) ∧ (∀ i, i < 3 * m → S'.2.1 1 i &&& 255 = pl_r (S.2.1 32) (S.2.1 33) i) ∧ ag [2] [1] [] S S' := by
  intro n
  induction n with
  | zero => intro k S _ _ h; omega
  | succ n ih =>
    intro k S hs hk hn hr
    show ∃ S', zf_X11_proof_16b N z _ (nI k) S = some (nI (3 * m), S') ∧ _
    unfold zf_X11_proof_16b
    rw [hs]
    have e3 : ∀ j : Nat, (3 : Int32) * nI j = nI (3 * j) := fun j => pk_mul 3 j
    by_cases h1 : m ≤ k
    · have e : k = m := by omega
      subst e
      rw [if_pos ((nI_leI (by omega) (by omega)).mpr h1), e3]
      exact ⟨mq_si S 2 (nI (3 * k)), rfl, rfl, hr, ag_si (by decide)⟩
    · have i1 : vp_in (nI k) 1300 := vp_in_nI (by omega) (by omega)
      have i2 : vp_in (nI (3 * k)) 4000 := vp_in_nI (by omega) (by omega)
      have i3 : vp_in (nI (3 * k + 1)) 4000 := vp_in_nI (by omega) (by omega)
      have i4 : vp_in (nI (3 * k + 2)) 4000 := vp_in_nI (by omega) (by omega)
      have p1 : nI (3 * k) + 1 = nI (3 * k + 1) := nI_add (3 * k) 1
      have p2 : nI (3 * k) + 2 = nI (3 * k + 2) := nI_add (3 * k) 2
      have c0 : (nI k).toNatClampNeg = k := nI_clamp (by omega)
      have c1 : (nI (3 * k)).toNatClampNeg = 3 * k := nI_clamp (by omega)
      have c2 : (nI (3 * k + 1)).toNatClampNeg = 3 * k + 1 := nI_clamp (by omega)
      have c3 : (nI (3 * k + 2)).toNatClampNeg = 3 * k + 2 := nI_clamp (by omega)
      have nb : ∀ x : Int32, vp_nar .byte x.toInt8.toInt32 = x.toInt8.toInt32 := fun x => by rw [vp_nar_byte, Int8.toInt8_toInt32]
      rw [if_neg (fun q => h1 ((nI_leI (by omega) (by omega)).mp q))]
      simp only [e3, p1, p2, mq_ck_of i1, mq_ck_of i2, mq_ck_of i3, mq_ck_of i4, c0, c1, c2, c3, nb, mq_nS, mq_nI, nI_1]
      obtain ⟨S', q1, q2, q3, q4⟩ := ih (k + 1) (mq_sa (mq_sa (mq_sa S 1 (upd (S.2.1 1) (3 * k) (S.2.1 32 k).toInt8.toInt32)) 1 (upd (upd (S.2.1 1) (3 * k) (S.2.1 32 k).toInt8.toInt32) (3 * k + 1) (S.2.1 33 k >>> ((8 : Int32) &&& 31)).toInt8.toInt32)) 1 (upd (upd (upd (S.2.1 1) (3 * k) (S.2.1 32 k).toInt8.toInt32) (3 * k + 1) (S.2.1 33 k >>> ((8 : Int32) &&& 31)).toInt8.toInt32) (3 * k + 2) (S.2.1 33 k).toInt8.toInt32)) hs (by omega) (by omega) (fun i hi => by
        show (upd (upd (upd (S.2.1 1) (3 * k) (S.2.1 32 k).toInt8.toInt32) (3 * k + 1) (S.2.1 33 k >>> ((8 : Int32) &&& 31)).toInt8.toInt32) (3 * k + 2) (S.2.1 33 k).toInt8.toInt32) i &&& 255 = pl_r (S.2.1 32) (S.2.1 33) i
        unfold upd
        by_cases a : i = 3 * k + 2
        · rw [if_pos a, bp_b, a]
          unfold pl_r
          rw [if_neg (by omega), if_neg (by omega), show (3 * k + 2) / 3 = k by omega]
        · rw [if_neg a]
          by_cases b : i = 3 * k + 1
          · rw [if_pos b, bp_b, b, show (8 : Int32) = nI 8 from rfl, by_sh _ (by omega)]
            unfold pl_r
            rw [if_neg (by omega), if_pos (by omega), show (3 * k + 1) / 3 = k by omega]
            rfl
          · rw [if_neg b]
            by_cases d : i = 3 * k
            · rw [if_pos d, bp_b, d]
              unfold pl_r
              rw [if_pos (by omega), show 3 * k / 3 = k by omega]
            · rw [if_neg d]
              exact hr i (by omega))
      refine ⟨S', q1, q2, q3, ?_⟩
      refine ag_tr ?_ q4
      refine ag_tr ?_ (ag_sa (by decide))
      refine ag_tr ?_ (ag_sa (by decide))
      refine ag_tr ?_ (ag_sa (by decide))
      exact ag_rf
theorem st_proof {N : Nat} {z : Nat → Nat} {SC SR : mq_St} (hN : 2000 ≤ N) (h : iv_proof (SC.1 25) (SC.2.1 28) (SR.1 29) (SR.1 30) (SR.2.1 32) (SR.2.1 33)) (ht : iv_tape (SC.1 1) (SC.2.1 3) (SR.1 2) (SR.2.1 1)) :
    ∃ r SC' SR', zf_X10_proof N z SC = some (r, SC') ∧ zf_X11_proof N z SR = some (r, SR') ∧ iv_tape (SC'.1 1) (SC'.2.1 3) (SR'.1 2) (SR'.2.1 1) ∧ SC'.1 25 = SC.1 25 ∧ SC'.2.1 28 = SC.2.1 28 ∧ ag [25, 1] [28, 3] [] SC SC' ∧ ag [0, 2] [1] [] SR SR' := by
  obtain ⟨m, hm, hc, hh, hl⟩ := h
  unfold zf_X10_proof zf_X11_proof
  dsimp only [mq_nS]
  rw [show zf_X3_size N z (mq_pull SC [25] [28] []) = some (SC.1 25) from rfl, mq_cp_s, hc]
  rcases hh with ⟨hm0, hr⟩ | ⟨hm0, hr, hr2⟩
  · subst hm0
    rw [if_pos (by decide : nI 0 = 0), if_pos (show (mq_si SR 0 0).1 29 = 0 from hr)]
    exact ⟨-1, SC, mq_si SR 0 0, rfl, rfl, ht, hc, rfl, ag_rf, ag_si (by decide)⟩
  · rw [if_neg (nI_ne0 hm0 (by omega)), if_neg (show ¬ (mq_si SR 0 0).1 29 = 0 from fun q => absurd (hr.symm.trans q) (by decide))]
    dsimp only [mq_nI]
    obtain ⟨t, t4, tc, tr, tb⟩ := ht
    unfold zf_X3_writeTo
    rw [by_keep]
    have hk0 : ¬ ((0 : Int32) < 0 ∨ (mq_pull (mq_pull SC [25, 1] [28, 3] []) [1] [1] []).1 0 < 0) := by
      rintro (q | q)
      · exact absurd q (by decide)
      · have e : (mq_pull (mq_pull SC [25, 1] [28, 3] []) [1] [1] []).1 0 = nI t := tc
        rw [e] at q
        exact nI_pos (by omega) q
    rw [if_neg hk0, mq_cl_s]
    dsimp only [mq_nS, mq_nI]
    obtain ⟨X, a1, a2, a3, a4⟩ := pw_loop (N := N) (z := z) hm N 0 (mq_push (mq_pull SC [25, 1] [28, 3] []) (mq_si (mq_pull (mq_pull SC [25, 1] [28, 3] []) [1] [1] []) 0 0) [1] [1] []) hc (by omega) (by omega) ⟨rfl, by omega, fun i hi => by omega⟩
    obtain ⟨SR', b1, b2, b3, b4⟩ := rp_loop (N := N) (z := z) hm N 0 (mq_si SR 0 0) hr2 (by omega) (by omega) (fun i hi => by omega)
    rw [show (0 : Int32) = nI 0 from rfl] at a1 ⊢
    rw [a1, mq_cl_s]
    refine ⟨nI (3 * m), mq_push SC X [25, 1] [28, 3] [], SR', ?_, b1, ⟨3 * m, by omega, a4.1, b2, fun i hi => ?_⟩, ?_, a3, ag_push, ag_tr (ag_si (by decide)) (ag_mono b4 (by decide) (by decide) (by decide))⟩
    · rw [show zf_X0_size N z (mq_pull (mq_push SC X [25, 1] [28, 3] []) [1] [3] []) = some (X.1 1) from rfl, mq_cp_s, show X.1 1 = nI (3 * m) from a4.1]
    · exact (a4.2.2 i hi).trans ((hl i hi).trans (b3 i hi).symm)
    · exact a2
end
/-! 75.set -/
section
/-! set: the class's denials beside what the reference turns. -/
/-- n FORMULAS in good order: sorts, parts, and d the denial of each -/
def fw (n : Nat) (so on tw : Nat → Int32) (d : Nat → Nat) : Prop := 2 ≤ n ∧ n ≤ 300 ∧ (∀ f g, f < n → g < n → so f = so g → on f = on g → tw f = tw g → f = g) ∧ (∀ f, f < n → d f < n) ∧ ∀ f, f < n →
  (f = 0 ∧ so f = 0 ∧ d f = 1) ∨ (f = 1 ∧ so f = 1 ∧ d f = 0) ∨
  (((so f = 2 ∧ so (d f) = 3) ∨ (so f = 3 ∧ so (d f) = 2)) ∧ on (d f) = on f ∧ tw (d f) = -1 ∧ tw f = -1 ∧ ∃ l : Nat, l < 26 ∧ on f = nI l) ∨
  (((so f = 4 ∧ so (d f) = 5) ∨ (so f = 5 ∧ so (d f) = 4)) ∧ ∃ a b : Nat, a < f ∧ b < f ∧ on f = nI a ∧ tw f = nI b ∧ on (d f) = nI (d a) ∧ tw (d f) = nI (d b)) ∨
  (((so f = 6 ∧ so (d f) = 7) ∨ (so f = 7 ∧ so (d f) = 6)) ∧ tw f = -1 ∧ tw (d f) = -1 ∧ ∃ a : Nat, a < f ∧ on f = nI a ∧ on (d f) = nI (d a))
theorem rf_make_found {N n g : Nat} {z : Nat → Nat} {S : mq_St} {s a b : Int32} (hn : S.1 3 = nI n) (h3 : n ≤ 300) (hg : g < n) (hm : S.2.1 2 g = s ∧ S.2.1 3 g = a ∧ S.2.1 4 g = b) (hu : ∀ j, j < g → ¬ (S.2.1 2 j = s ∧ S.2.1 3 j = a ∧ S.2.1 4 j = b)) : ∀ (fuel k : Nat), k ≤ g → g - k < fuel → zf_X11_make_3 N z fuel s a b (nI k) S = some (nI g, S) := by
  intro fuel
  induction fuel with
  | zero => intro k _ h; omega
  | succ fuel ih =>
    intro k hk hf
    show zf_X11_make_3b N z _ s a b (nI k) S = _
    unfold zf_X11_make_3b zf_X11_make_48
    have hin : vp_in (nI k) 300 := vp_in_nI (by omega) (by omega)
    have ecl : (nI k).toNatClampNeg = k := nI_clamp (by omega)
    rw [hn, if_neg (nI_ge (a := k) (b := n) (by omega) (by omega))]
    simp only [mq_ck_of hin, ecl, mq_nI, nI_1]
    by_cases e : k = g
    · subst e
      rw [if_pos hm.1, if_pos hm.2.1, if_pos hm.2.2]
    · have go := ih (k + 1) (by omega) (by omega)
      have hno := hu k (by omega)
      by_cases q1 : S.2.1 2 k = s
      · rw [if_pos q1]
        by_cases q2 : S.2.1 3 k = a
        · rw [if_pos q2]
          by_cases q3 : S.2.1 4 k = b
          · exact absurd ⟨q1, q2, q3⟩ hno
          · rw [if_neg q3]
            exact go
        · rw [if_neg q2]
          exact go
      · rw [if_neg q1]
        exact go
theorem rf_make_is {N n g : Nat} {z : Nat → Nat} {S : mq_St} {s a b : Int32} {d : Nat → Nat} (hN : 400 ≤ N) (hn : S.1 3 = nI n) (hw : fw n (S.2.1 2) (S.2.1 3) (S.2.1 4) d) (hg : g < n) (h1 : S.2.1 2 g = s) (h2 : S.2.1 3 g = a) (h3 : S.2.1 4 g = b) : zf_X11_make N z s a b S = some (nI g, S) := by
  unfold zf_X11_make
  dsimp only [mq_nI]
  have e0 : (0 : Int32) = nI 0 := rfl
  rw [e0]
  refine rf_make_found hn hw.2.1 hg ⟨h1, h2, h3⟩ (fun j hj q => ?_) N 0 (by omega) (by have := hw.2.1; omega)
  have := hw.2.2.1 j g (by omega) hg (q.1.trans h1.symm) (q.2.1.trans h2.symm) (q.2.2.trans h3.symm)
  omega
/-- what a formula turns to, its parts turned already -/
theorem rf_turnedOf {N n f : Nat} {z : Nat → Nat} {S : mq_St} {d : Nat → Nat} (hN : 400 ≤ N) (hn : S.1 3 = nI n) (hw : fw n (S.2.1 2) (S.2.1 3) (S.2.1 4) d) (hf : f < n) (hp : ∀ a : Nat, a < f → (S.2.1 3 f = nI a ∧ ¬ S.2.1 2 f ≤ 3) ∨ (S.2.1 4 f = nI a ∧ (S.2.1 2 f = 4 ∨ S.2.1 2 f = 5)) → S.2.1 15 a = nI (d a)) : zf_X11_turnedOf N z (nI f) S = some (nI (d f), S) := by
  have h3 := hw.2.1
  have hd := hw.2.2.2.1 f hf
  have hin : vp_in (nI f) 300 := vp_in_nI (by omega) (by omega)
  have ecl : (nI f).toNatClampNeg = f := nI_clamp (by omega)
  unfold zf_X11_turnedOf zf_X11_turnedOf_25 zf_X11_turnedOf_46 zf_X11_turnedOf_61
  simp only [mq_ck_of hin, ecl, mq_nI]
  rcases hw.2.2.2.2 f hf with ⟨rfl, s0, e0⟩ | ⟨rfl, s1, e1⟩ | ⟨hs, w1, w2, w3, l, hl, w4⟩ | ⟨hs, a, b, ha, hb, w1, w2, w3, w4⟩ | ⟨hs, w1, w2, a, ha, w3, w4⟩
  · rw [s0, e0]
    rfl
  · rw [s1, e1]
    rfl
  · rcases hs with ⟨s1, s2⟩ | ⟨s1, s2⟩
    · rw [s1, if_pos (by decide : (2 : Int32) ≤ 3), if_neg (by decide : ¬ (2 : Int32) = 4), if_neg (by decide : ¬ (2 : Int32) = 5), if_neg (by decide : ¬ (2 : Int32) = 0), if_neg (by decide : ¬ (2 : Int32) = 1), if_pos rfl, rf_make_is hN hn hw hd s2 w1 w2, mq_cl_s]
    · rw [s1, if_pos (by decide : (3 : Int32) ≤ 3), if_neg (by decide : ¬ (3 : Int32) = 4), if_neg (by decide : ¬ (3 : Int32) = 5), if_neg (by decide : ¬ (3 : Int32) = 0), if_neg (by decide : ¬ (3 : Int32) = 1), if_neg (by decide : ¬ (3 : Int32) = 2), if_pos rfl, rf_make_is hN hn hw hd s2 w1 w2, mq_cl_s]
  · have pa : S.2.1 15 a = nI (d a) := hp a ha (Or.inl ⟨w1, by rcases hs with ⟨q, -⟩ | ⟨q, -⟩ <;> rw [q] <;> decide⟩)
    have pb : S.2.1 15 b = nI (d b) := hp b hb (Or.inr ⟨w2, hs.elim (fun q => Or.inl q.1) (fun q => Or.inr q.1)⟩)
    have ia : vp_in (nI a) 300 := vp_in_nI (by omega) (by omega)
    have ib : vp_in (nI b) 300 := vp_in_nI (by omega) (by omega)
    have ca : (nI a).toNatClampNeg = a := nI_clamp (by omega)
    have cb : (nI b).toNatClampNeg = b := nI_clamp (by omega)
    simp only [w1, w2, mq_ck_of ia, mq_ck_of ib, ca, cb, pa, pb]
    rcases hs with ⟨s1, s2⟩ | ⟨s1, s2⟩
    · rw [s1, if_neg (by decide : ¬ (4 : Int32) ≤ 3), if_pos rfl, if_neg (by decide : ¬ (4 : Int32) = 0), if_neg (by decide : ¬ (4 : Int32) = 1), if_neg (by decide : ¬ (4 : Int32) = 2), if_neg (by decide : ¬ (4 : Int32) = 3), if_pos rfl, rf_make_is hN hn hw hd s2 w3 w4, mq_cl_s]
    · rw [s1, if_neg (by decide : ¬ (5 : Int32) ≤ 3), if_neg (by decide : ¬ (5 : Int32) = 4), if_pos rfl, if_neg (by decide : ¬ (5 : Int32) = 0), if_neg (by decide : ¬ (5 : Int32) = 1), if_neg (by decide : ¬ (5 : Int32) = 2), if_neg (by decide : ¬ (5 : Int32) = 3), if_neg (by decide : ¬ (5 : Int32) = 4), if_pos rfl, rf_make_is hN hn hw hd s2 w3 w4, mq_cl_s]
  · have pa : S.2.1 15 a = nI (d a) := hp a ha (Or.inl ⟨w3, by rcases hs with ⟨q, -⟩ | ⟨q, -⟩ <;> rw [q] <;> decide⟩)
    have ia : vp_in (nI a) 300 := vp_in_nI (by omega) (by omega)
    have ca : (nI a).toNatClampNeg = a := nI_clamp (by omega)
    simp only [w3, mq_ck_of ia, ca, pa]
    rcases hs with ⟨s1, s2⟩ | ⟨s1, s2⟩
    · rw [s1, if_neg (by decide : ¬ (6 : Int32) ≤ 3), if_neg (by decide : ¬ (6 : Int32) = 4), if_neg (by decide : ¬ (6 : Int32) = 5), if_neg (by decide : ¬ (6 : Int32) = 0), if_neg (by decide : ¬ (6 : Int32) = 1), if_neg (by decide : ¬ (6 : Int32) = 2), if_neg (by decide : ¬ (6 : Int32) = 3), if_neg (by decide : ¬ (6 : Int32) = 4), if_neg (by decide : ¬ (6 : Int32) = 5), if_pos rfl, rf_make_is hN hn hw hd s2 w4 w2, mq_cl_s]
    · rw [s1, if_neg (by decide : ¬ (7 : Int32) ≤ 3), if_neg (by decide : ¬ (7 : Int32) = 4), if_neg (by decide : ¬ (7 : Int32) = 5), if_neg (by decide : ¬ (7 : Int32) = 0), if_neg (by decide : ¬ (7 : Int32) = 1), if_neg (by decide : ¬ (7 : Int32) = 2), if_neg (by decide : ¬ (7 : Int32) = 3), if_neg (by decide : ¬ (7 : Int32) = 4), if_neg (by decide : ¬ (7 : Int32) = 5), if_neg (by decide : ¬ (7 : Int32) = 6), rf_make_is hN hn hw hd s2 w4 w2, mq_cl_s]
end
/-! 76.turn -/
section
/-! The reference's turn: each formula on its stack is turned to its denial. -/
def uc (t : Nat → Int32) : Nat → Nat
  | 0 => 0
  | n + 1 => uc t n + (if t n = -1 then 1 else 0)
theorem uc_ext {t t' : Nat → Int32} : ∀ n : Nat, (∀ i, i < n → t i = t' i) → uc t n = uc t' n
  | 0, _ => rfl
  | n + 1, h => by
    show uc t n + _ = uc t' n + _
    rw [uc_ext n (fun i hi => h i (by omega)), h n (by omega)]
theorem uc_upd {t : Nat → Int32} {f : Nat} {v : Int32} (h : t f = -1) (hv : ¬ v = -1) : ∀ n : Nat, f < n → uc (upd t f v) n + 1 = uc t n
  | 0, hf => by omega
  | n + 1, hf => by
    show uc (upd t f v) n + (if upd t f v n = -1 then 1 else 0) + 1 = uc t n + (if t n = -1 then 1 else 0)
    by_cases e : n = f
    · subst e
      have e1 : uc (upd t n v) n = uc t n := uc_ext n (fun i hi => by unfold upd; rw [if_neg (by omega)])
      have e2 : upd t n v n = v := by unfold upd; rw [if_pos rfl]
      rw [e1, e2, if_neg hv, if_pos h]
    · have e2 : upd t f v n = t n := by unfold upd; rw [if_neg e]
      rw [e2, ← uc_upd h hv n (by omega)]
      omega
theorem uc_mono {t : Nat → Int32} {a : Nat} : ∀ b : Nat, a ≤ b → uc t a ≤ uc t b
  | 0, h => by
    have : a = 0 := by omega
    rw [this]
    exact Nat.le_refl _
  | b + 1, h => by
    by_cases e : a = b + 1
    · rw [e]
      exact Nat.le_refl _
    · exact Nat.le_trans (uc_mono b (by omega)) (Nat.le_add_right _ _)
theorem nI_nm1 {n : Nat} (h : n < 2 ^ 31) : ¬ nI n = -1 := by
  intro q
  have h1 : (nI n).toInt = (n : Int) := nI_toInt h
  rw [q] at h1
  have h2 : (-1 : Int32).toInt = -1 := by decide
  rw [h2] at h1
  omega
section TURN
variable {N n f m fuel : Nat} {z : Nat → Nat} {S : mq_St} {d : Nat → Nat} {v1 : Int32}
/-- its parts are turned: it is turned, and gone from the stack -/
theorem rt_end (hN : 400 ≤ N) (hn : S.1 3 = nI n) (hw : fw n (S.2.1 2) (S.2.1 3) (S.2.1 4) d) (hf : f < n) (hm : m < 2999) (ht : S.2.1 15 f = -1) (hs : S.2.1 14 m = nI f)
    (hp : ∀ a : Nat, a < f → (S.2.1 3 f = nI a ∧ ¬ S.2.1 2 f ≤ 3) ∨ (S.2.1 4 f = nI a ∧ (S.2.1 2 f = 4 ∨ S.2.1 2 f = 5)) → S.2.1 15 a = nI (d a)) :
    zf_X11_turn_9 N z (fuel + 1) v1 (nI (m + 1)) S = zf_X11_turn_9 N z fuel v1 (nI m) (mq_sa S 15 (upd (S.2.1 15) f (nI (d f)))) := by
  have h3 := hw.2.1
  have i0 : vp_in (nI m) 3000 := vp_in_nI (by omega) (by omega)
  have i1 : vp_in (nI f) 300 := vp_in_nI (by omega) (by omega)
  have c0 : (nI m).toNatClampNeg = m := nI_clamp (by omega)
  have c1 : (nI f).toNatClampNeg = f := nI_clamp (by omega)
  have p1 : nI (m + 1) - 1 = nI m := nI_pred m
  have p2 : nI (m + 1) + (-1) = nI m := pk_m1 m
  have fin : zf_X11_turn_134 N z (fun v1 v2 S => zf_X11_turn_9 N z fuel v1 v2 S) v1 (nI (m + 1)) (nI f) S = zf_X11_turn_9 N z fuel v1 (nI m) (mq_sa S 15 (upd (S.2.1 15) f (nI (d f)))) := by
    unfold zf_X11_turn_134 zf_X11_turn_148
    rw [rf_turnedOf hN hn hw hf hp, mq_cl_s]
    simp only [mq_ck_of i1, c1, mq_nS, mq_nI, p2]
  show zf_X11_turn_9b N z _ v1 (nI (m + 1)) S = _
  unfold zf_X11_turn_9b
  rw [if_neg (nI_nle (by omega) (by omega))]
  simp only [p1, mq_ck_of i0, c0, mq_nI, hs, mq_ck_of i1, c1]
  rw [if_pos ht]
  have both : (S.2.1 2 f = 4 ∨ S.2.1 2 f = 5) → zf_X11_turn_101 N z (fun v1 v2 S => zf_X11_turn_9 N z fuel v1 v2 S) v1 (nI (m + 1)) (nI f) S = zf_X11_turn_9 N z fuel v1 (nI m) (mq_sa S 15 (upd (S.2.1 15) f (nI (d f)))) := by
    intro h45
    rcases hw.2.2.2.2 f hf with ⟨rfl, s0, -⟩ | ⟨rfl, s0, -⟩ | ⟨hs', -⟩ | ⟨-, a, b, ha, hb, w1, w2, -⟩ | ⟨hs', -⟩
    · rw [s0] at h45; exact absurd h45 (by decide)
    · rw [s0] at h45; exact absurd h45 (by decide)
    · rcases hs' with ⟨q, -⟩ | ⟨q, -⟩ <;> (rw [q] at h45; exact absurd h45 (by decide))
    · have ib : vp_in (nI b) 300 := vp_in_nI (by omega) (by omega)
      have cb : (nI b).toNatClampNeg = b := nI_clamp (by omega)
      unfold zf_X11_turn_101
      simp only [mq_ck_of i1, c1, w2, mq_ck_of ib, cb]
      have hdb := hw.2.2.2.1 b (by omega)
      rw [hp b hb (Or.inr ⟨w2, h45⟩), if_neg (nI_nm1 (by omega))]
      exact fin
    · rcases hs' with ⟨q, -⟩ | ⟨q, -⟩ <;> (rw [q] at h45; exact absurd h45 (by decide))
  have l81 : zf_X11_turn_81 N z (fun v1 v2 S => zf_X11_turn_9 N z fuel v1 v2 S) v1 (nI (m + 1)) (nI f) S = zf_X11_turn_9 N z fuel v1 (nI m) (mq_sa S 15 (upd (S.2.1 15) f (nI (d f)))) := by
    unfold zf_X11_turn_81
    simp only [mq_ck_of i1, c1]
    by_cases q4 : S.2.1 2 f = 4
    · rw [if_pos q4]
      exact both (Or.inl q4)
    · rw [if_neg q4]
      by_cases q5 : S.2.1 2 f = 5
      · rw [if_pos q5]
        exact both (Or.inr q5)
      · rw [if_neg q5]
        exact fin
  by_cases q3 : S.2.1 2 f ≤ 3
  · rw [if_pos q3]
    exact l81
  · rw [if_neg q3]
    have hone : ∃ a : Nat, a < f ∧ S.2.1 3 f = nI a := by
      rcases hw.2.2.2.2 f hf with ⟨rfl, s0, -⟩ | ⟨rfl, s0, -⟩ | ⟨hs', -⟩ | ⟨-, a, b, ha, hb, w1, -⟩ | ⟨-, -, -, a, ha, w1, -⟩
      · rw [s0] at q3; exact absurd (by decide) q3
      · rw [s0] at q3; exact absurd (by decide) q3
      · rcases hs' with ⟨q, -⟩ | ⟨q, -⟩ <;> (rw [q] at q3; exact absurd (by decide) q3)
      · exact ⟨a, ha, w1⟩
      · exact ⟨a, ha, w1⟩
    obtain ⟨a, ha, w1⟩ := hone
    have ia : vp_in (nI a) 300 := vp_in_nI (by omega) (by omega)
    have ca : (nI a).toNatClampNeg = a := nI_clamp (by omega)
    have hda := hw.2.2.2.1 a (by omega)
    simp only [w1, mq_ck_of ia, ca]
    rw [hp a ha (Or.inl ⟨w1, q3⟩), if_neg (nI_nm1 (by omega))]
    exact l81
/-- the first part isn't turned: it goes onto the stack -/
theorem rt_one {a : Nat} (h3 : n ≤ 300) (hf : f < n) (hm : m < 2998) (ht : S.2.1 15 f = -1) (hs : S.2.1 14 m = nI f) (h4 : ¬ S.2.1 2 f ≤ 3) (ha : a < f) (w1 : S.2.1 3 f = nI a) (hta : S.2.1 15 a = -1) :
    zf_X11_turn_9 N z (fuel + 1) v1 (nI (m + 1)) S = zf_X11_turn_9 N z fuel v1 (nI (m + 1 + 1)) (mq_sa S 14 (upd (S.2.1 14) (m + 1) (nI a))) := by
  have i0 : vp_in (nI m) 3000 := vp_in_nI (by omega) (by omega)
  have i2 : vp_in (nI (m + 1)) 3000 := vp_in_nI (by omega) (by omega)
  have i1 : vp_in (nI f) 300 := vp_in_nI (by omega) (by omega)
  have ia : vp_in (nI a) 300 := vp_in_nI (by omega) (by omega)
  have c0 : (nI m).toNatClampNeg = m := nI_clamp (by omega)
  have c2 : (nI (m + 1)).toNatClampNeg = m + 1 := nI_clamp (by omega)
  have c1 : (nI f).toNatClampNeg = f := nI_clamp (by omega)
  have ca : (nI a).toNatClampNeg = a := nI_clamp (by omega)
  have p1 : nI (m + 1) - 1 = nI m := nI_pred m
  show zf_X11_turn_9b N z _ v1 (nI (m + 1)) S = _
  unfold zf_X11_turn_9b zf_X11_turn_148
  rw [if_neg (nI_nle (by omega) (by omega))]
  simp only [p1, mq_ck_of i0, c0, mq_nI, hs, mq_ck_of i1, c1]
  rw [if_pos ht, if_neg h4]
  simp only [w1, mq_ck_of ia, ca]
  rw [if_pos hta]
  simp only [mq_ck_of i2, c2, mq_nS, nI_1]
/-- the second part isn't turned: it goes onto the stack -/
theorem rt_two {a b : Nat} (h3 : n ≤ 300) (hf : f < n) (hm : m < 2998) (ht : S.2.1 15 f = -1) (hs : S.2.1 14 m = nI f) (h45 : S.2.1 2 f = 4 ∨ S.2.1 2 f = 5) (ha : a < f) (w1 : S.2.1 3 f = nI a) (hta : ¬ S.2.1 15 a = -1) (hb : b < f) (w2 : S.2.1 4 f = nI b) (htb : S.2.1 15 b = -1) :
    zf_X11_turn_9 N z (fuel + 1) v1 (nI (m + 1)) S = zf_X11_turn_9 N z fuel v1 (nI (m + 1 + 1)) (mq_sa S 14 (upd (S.2.1 14) (m + 1) (nI b))) := by
  have i0 : vp_in (nI m) 3000 := vp_in_nI (by omega) (by omega)
  have i2 : vp_in (nI (m + 1)) 3000 := vp_in_nI (by omega) (by omega)
  have i1 : vp_in (nI f) 300 := vp_in_nI (by omega) (by omega)
  have ia : vp_in (nI a) 300 := vp_in_nI (by omega) (by omega)
  have ib : vp_in (nI b) 300 := vp_in_nI (by omega) (by omega)
  have c0 : (nI m).toNatClampNeg = m := nI_clamp (by omega)
  have c2 : (nI (m + 1)).toNatClampNeg = m + 1 := nI_clamp (by omega)
  have c1 : (nI f).toNatClampNeg = f := nI_clamp (by omega)
  have ca : (nI a).toNatClampNeg = a := nI_clamp (by omega)
  have cb : (nI b).toNatClampNeg = b := nI_clamp (by omega)
  have p1 : nI (m + 1) - 1 = nI m := nI_pred m
  have h4 : ¬ S.2.1 2 f ≤ 3 := by rcases h45 with q | q <;> rw [q] <;> decide
  have l101 : zf_X11_turn_101 N z (fun v1 v2 S => zf_X11_turn_9 N z fuel v1 v2 S) v1 (nI (m + 1)) (nI f) S = zf_X11_turn_9 N z fuel v1 (nI (m + 1 + 1)) (mq_sa S 14 (upd (S.2.1 14) (m + 1) (nI b))) := by
    unfold zf_X11_turn_101 zf_X11_turn_148
    simp only [mq_ck_of i1, c1, w2, mq_ck_of ib, cb]
    rw [if_pos htb]
    simp only [mq_ck_of i2, c2, mq_nS, mq_nI, nI_1]
  show zf_X11_turn_9b N z _ v1 (nI (m + 1)) S = _
  unfold zf_X11_turn_9b
  rw [if_neg (nI_nle (by omega) (by omega))]
  simp only [p1, mq_ck_of i0, c0, mq_nI, hs, mq_ck_of i1, c1]
  rw [if_pos ht, if_neg h4]
  simp only [w1, mq_ck_of ia, ca]
  rw [if_neg hta]
  unfold zf_X11_turn_81
  simp only [mq_ck_of i1, c1]
  rcases h45 with q | q
  · rw [if_pos q]
    exact l101
  · rw [q, if_neg (by decide : ¬ (5 : Int32) = 4), if_pos rfl]
    exact l101
end TURN
/-- a formula on top of the stack: after some turns it is turned and gone, what lies below is as it was -/
theorem rt_all {N n : Nat} {z : Nat → Nat} {d : Nat → Nat} {v1 : Int32} (hN : 400 ≤ N) : ∀ (f : Nat), f < n → ∀ (S : mq_St) (m fuel : Nat), S.1 3 = nI n → fw n (S.2.1 2) (S.2.1 3) (S.2.1 4) d → (∀ g, g < n → S.2.1 15 g = -1 ∨ S.2.1 15 g = nI (d g)) → S.2.1 15 f = -1 → S.2.1 14 m = nI f → m + f < 2900 → 3 * uc (S.2.1 15) (f + 1) ≤ fuel →
    ∃ (S' : mq_St) (fuel' : Nat), zf_X11_turn_9 N z fuel v1 (nI (m + 1)) S = zf_X11_turn_9 N z fuel' v1 (nI m) S' ∧ (∀ K, f < K → fuel + 3 * uc (S'.2.1 15) K ≤ fuel' + 3 * uc (S.2.1 15) K) ∧ S'.2.1 15 f = nI (d f) ∧ (∀ g, ¬ S.2.1 15 g = -1 → S'.2.1 15 g = S.2.1 15 g) ∧ (∀ g, f < g → S'.2.1 15 g = S.2.1 15 g) ∧ (∀ g, g < n → S'.2.1 15 g = -1 ∨ S'.2.1 15 g = nI (d g)) ∧ (∀ i, i ≤ m → S'.2.1 14 i = S.2.1 14 i) ∧ ag [] [14, 15] [] S S' := by
  intro f
  induction f using Nat.strongRecOn with
  | ind f ih =>
    intro hf S m fuel hn hw hT ht hs hm hfu
    have h3 := hw.2.1
    have hdf := hw.2.2.2.1 f hf
    have ufs : uc (S.2.1 15) (f + 1) = uc (S.2.1 15) f + 1 := by
      show uc (S.2.1 15) f + (if S.2.1 15 f = -1 then 1 else 0) = _
      rw [if_pos ht]
    -- the last turn, from any later state in which the parts are turned
    have last : ∀ (S2 : mq_St) (fu2 : Nat), S2.1 3 = nI n → fw n (S2.2.1 2) (S2.2.1 3) (S2.2.1 4) d → (∀ g, g < n → S2.2.1 15 g = -1 ∨ S2.2.1 15 g = nI (d g)) → S2.2.1 15 f = -1 → S2.2.1 14 m = nI f → (∀ a : Nat, a < f → (S2.2.1 3 f = nI a ∧ ¬ S2.2.1 2 f ≤ 3) ∨ (S2.2.1 4 f = nI a ∧ (S2.2.1 2 f = 4 ∨ S2.2.1 2 f = 5)) → S2.2.1 15 a = nI (d a)) →
        (∀ K, f < K → fuel + 3 * uc (S2.2.1 15) K ≤ fu2 + 2 + 3 * uc (S.2.1 15) K) → 1 ≤ fu2 → (∀ g, ¬ S.2.1 15 g = -1 → S2.2.1 15 g = S.2.1 15 g) → (∀ g, f ≤ g → S2.2.1 15 g = S.2.1 15 g) → (∀ i, i ≤ m → S2.2.1 14 i = S.2.1 14 i) → ag [] [14, 15] [] S S2 →
        zf_X11_turn_9 N z fuel v1 (nI (m + 1)) S = zf_X11_turn_9 N z fu2 v1 (nI (m + 1)) S2 →
        ∃ (S' : mq_St) (fuel' : Nat), zf_X11_turn_9 N z fuel v1 (nI (m + 1)) S = zf_X11_turn_9 N z fuel' v1 (nI m) S' ∧ (∀ K, f < K → fuel + 3 * uc (S'.2.1 15) K ≤ fuel' + 3 * uc (S.2.1 15) K) ∧ S'.2.1 15 f = nI (d f) ∧ (∀ g, ¬ S.2.1 15 g = -1 → S'.2.1 15 g = S.2.1 15 g) ∧ (∀ g, f < g → S'.2.1 15 g = S.2.1 15 g) ∧ (∀ g, g < n → S'.2.1 15 g = -1 ∨ S'.2.1 15 g = nI (d g)) ∧ (∀ i, i ≤ m → S'.2.1 14 i = S.2.1 14 i) ∧ ag [] [14, 15] [] S S' := by
      intro S2 fu2 n2 w2 T2 t2 s2 p2 k2 f2 g2 g3 i2 a2 e2
      obtain ⟨fu3, rfl⟩ : ∃ q, fu2 = q + 1 := ⟨fu2 - 1, by omega⟩
      refine ⟨mq_sa S2 15 (upd (S2.2.1 15) f (nI (d f))), fu3, e2.trans (rt_end hN n2 w2 hf (by omega) t2 s2 p2), ?_, ?_, ?_, ?_, ?_, i2, ag_tr a2 (ag_sa (by decide))⟩
      · intro K hK
        have u1 := uc_upd (v := nI (d f)) t2 (nI_nm1 (by omega)) K hK
        have u2 := k2 K hK
        show fuel + 3 * uc (upd (S2.2.1 15) f (nI (d f))) K ≤ _
        omega
      · show upd (S2.2.1 15) f (nI (d f)) f = _
        unfold upd
        rw [if_pos rfl]
      · intro g hg
        show upd (S2.2.1 15) f (nI (d f)) g = _
        unfold upd
        rw [if_neg (fun e => hg (by rw [e]; exact ht))]
        exact g2 g hg
      · intro g hg
        show upd (S2.2.1 15) f (nI (d f)) g = _
        unfold upd
        rw [if_neg (by omega)]
        exact g3 g (by omega)
      · intro g hg
        show upd (S2.2.1 15) f (nI (d f)) g = -1 ∨ upd (S2.2.1 15) f (nI (d f)) g = nI (d g)
        unfold upd
        by_cases e : g = f
        · rw [if_pos e, e]
          exact Or.inr rfl
        · rw [if_neg e]
          exact T2 g hg
    -- a part that isn't turned: onto the stack, and turned
    have part : ∀ (S1 : mq_St) (fu1 a : Nat), S1.1 3 = nI n → fw n (S1.2.1 2) (S1.2.1 3) (S1.2.1 4) d → (∀ g, g < n → S1.2.1 15 g = -1 ∨ S1.2.1 15 g = nI (d g)) → S1.2.1 15 f = -1 → a < f → S1.2.1 15 a = -1 → 3 * uc (S1.2.1 15) f ≤ fu1 →
        ∃ (S2 : mq_St) (fu2 : Nat), zf_X11_turn_9 N z fu1 v1 (nI (m + 1 + 1)) (mq_sa S1 14 (upd (S1.2.1 14) (m + 1) (nI a))) = zf_X11_turn_9 N z fu2 v1 (nI (m + 1)) S2 ∧ (∀ K, a < K → fu1 + 3 * uc (S2.2.1 15) K ≤ fu2 + 3 * uc (S1.2.1 15) K) ∧ S2.2.1 15 a = nI (d a) ∧ (∀ g, ¬ S1.2.1 15 g = -1 → S2.2.1 15 g = S1.2.1 15 g) ∧ (∀ g, f ≤ g → S2.2.1 15 g = S1.2.1 15 g) ∧ (∀ g, g < n → S2.2.1 15 g = -1 ∨ S2.2.1 15 g = nI (d g)) ∧ (∀ i, i ≤ m → S2.2.1 14 i = S1.2.1 14 i) ∧ ag [] [14, 15] [] S1 S2 := by
      intro S1 fu1 a n1 w1 T1 t1 ha ta k1
      have um : uc (S1.2.1 15) (a + 1) ≤ uc (S1.2.1 15) f := uc_mono f (by omega)
      obtain ⟨S2, fu2, q1, q2, q3, q4, q5, q6, q7, q8⟩ := ih a ha (by omega) (mq_sa S1 14 (upd (S1.2.1 14) (m + 1) (nI a))) (m + 1) fu1 n1 w1 T1 ta (by
        show upd (S1.2.1 14) (m + 1) (nI a) (m + 1) = _
        unfold upd
        rw [if_pos rfl]) (by omega) (by
        show 3 * uc (S1.2.1 15) (a + 1) ≤ fu1
        omega)
      refine ⟨S2, fu2, q1, q2, q3, q4, fun g hg => q5 g (by omega), q6, fun i hi => ?_, ag_tr (ag_sa (by decide)) q8⟩
      rw [q7 i (by omega)]
      show upd (S1.2.1 14) (m + 1) (nI a) i = _
      unfold upd
      rw [if_neg (by omega)]
    have cp : ∀ {S2 : mq_St}, ag [] [14, 15] [] S S2 → S2.1 3 = nI n ∧ S2.2.1 2 = S.2.1 2 ∧ S2.2.1 3 = S.2.1 3 ∧ S2.2.1 4 = S.2.1 4 := fun q => ⟨(q.1 3 (by decide)).trans hn, q.2.1 2 (by decide), q.2.1 3 (by decide), q.2.1 4 (by decide)⟩
    -- the first part, if there is one
    have first : ∀ a : Nat, a < f → S.2.1 3 f = nI a → ¬ S.2.1 2 f ≤ 3 → ∃ (S1 : mq_St) (fu1 : Nat), zf_X11_turn_9 N z fuel v1 (nI (m + 1)) S = zf_X11_turn_9 N z fu1 v1 (nI (m + 1)) S1 ∧ (∀ K, f ≤ K → fuel + 3 * uc (S1.2.1 15) K ≤ fu1 + 1 + 3 * uc (S.2.1 15) K) ∧ S1.2.1 15 a = nI (d a) ∧ (∀ g, ¬ S.2.1 15 g = -1 → S1.2.1 15 g = S.2.1 15 g) ∧ (∀ g, f ≤ g → S1.2.1 15 g = S.2.1 15 g) ∧ (∀ g, g < n → S1.2.1 15 g = -1 ∨ S1.2.1 15 g = nI (d g)) ∧ (∀ i, i ≤ m → S1.2.1 14 i = S.2.1 14 i) ∧ ag [] [14, 15] [] S S1 := by
      intro a ha wa h4
      rcases hT a (by omega) with ta | ta
      · obtain ⟨fu0, rfl⟩ : ∃ q, fuel = q + 1 := ⟨fuel - 1, by omega⟩
        obtain ⟨S1, fu1, q1, q2, q3, q4, q5, q6, q7, q8⟩ := part S fu0 a hn hw hT ht ha ta (by omega)
        refine ⟨S1, fu1, (rt_one h3 hf (by omega) ht hs h4 ha wa ta).trans q1, fun K hK => ?_, q3, q4, q5, q6, q7, q8⟩
        have := q2 K (by omega)
        omega
      · exact ⟨S, fuel, rfl, fun K _ => by omega, ta, fun _ _ => rfl, fun _ _ => rfl, hT, fun _ _ => rfl, ag_rf⟩
    rcases hw.2.2.2.2 f hf with ⟨h0, s0, -⟩ | ⟨h0, s0, -⟩ | ⟨hs', -⟩ | ⟨h45, a, b, ha, hb, w1, w2, -⟩ | ⟨h67, -, -, a, ha, w1, -⟩
    · refine last S fuel hn hw hT ht hs (fun a ha q => ?_) (fun K _ => by omega) (by omega) (fun _ _ => rfl) (fun _ _ => rfl) (fun _ _ => rfl) ag_rf rfl
      omega
    · refine last S fuel hn hw hT ht hs (fun a ha q => ?_) (fun K _ => by omega) (by omega) (fun _ _ => rfl) (fun _ _ => rfl) (fun _ _ => rfl) ag_rf rfl
      rw [s0] at q
      rcases q with ⟨-, q⟩ | ⟨-, q⟩ <;> exact absurd q (by decide)
    · refine last S fuel hn hw hT ht hs (fun a ha q => ?_) (fun K _ => by omega) (by omega) (fun _ _ => rfl) (fun _ _ => rfl) (fun _ _ => rfl) ag_rf rfl
      rcases hs' with ⟨s0, -⟩ | ⟨s0, -⟩ <;> (rw [s0] at q; rcases q with ⟨-, q⟩ | ⟨-, q⟩ <;> exact absurd q (by decide))
    · have h45' : S.2.1 2 f = 4 ∨ S.2.1 2 f = 5 := h45.elim (fun q => Or.inl q.1) (fun q => Or.inr q.1)
      have h4 : ¬ S.2.1 2 f ≤ 3 := by rcases h45' with q | q <;> rw [q] <;> decide
      obtain ⟨S1, fu1, q1, q2, q3, q4, q5, q6, q7, q8⟩ := first a ha w1 h4
      obtain ⟨c1, c2, c3, c4⟩ := cp q8
      have hw1 : fw n (S1.2.1 2) (S1.2.1 3) (S1.2.1 4) d := by rw [c2, c3, c4]; exact hw
      have t1 : S1.2.1 15 f = -1 := (q5 f (by omega)).trans ht
      have qf := q2 f (by omega)
      have hda := hw.2.2.2.1 a (by omega)
      rcases q6 b (by omega) with tb | tb
      · obtain ⟨fu0, rfl⟩ : ∃ q, fu1 = q + 1 := ⟨fu1 - 1, by omega⟩
        have ha1 : ¬ S1.2.1 15 a = -1 := by rw [q3]; exact nI_nm1 (by omega)
        obtain ⟨S2, fu2, r1, r2, r3, r4, r5, r6, r7, r8⟩ := part S1 fu0 b c1 hw1 q6 t1 hb tb (by omega)
        have a2 := ag_tr q8 r8
        obtain ⟨d1, d2, d3, d4⟩ := cp a2
        have hw2 : fw n (S2.2.1 2) (S2.2.1 3) (S2.2.1 4) d := by rw [d2, d3, d4]; exact hw
        have rf := r2 f hb
        refine last S2 fu2 d1 hw2 r6 ((r5 f (by omega)).trans t1) ((r7 m (by omega)).trans ((q7 m (by omega)).trans hs)) (fun x hx q => ?_) (fun K hK => ?_) (by omega) (fun g hg => ?_) (fun g hg => (r5 g hg).trans (q5 g hg)) (fun i hi => (r7 i hi).trans (q7 i hi)) a2 (q1.trans ((rt_two h3 hf (by omega) t1 ((q7 m (by omega)).trans hs) (by rw [c2]; exact h45') ha (by rw [c3]; exact w1) ha1 hb (by rw [c4]; exact w2) tb).trans r1))
        · rw [d2, d3, d4] at q
          rcases q with ⟨q, -⟩ | ⟨q, -⟩
          · have e : x = a := (nI_eq (by omega) (by omega)).mp (q.symm.trans w1)
            rw [e, r4 a ha1, q3]
          · have e : x = b := (nI_eq (by omega) (by omega)).mp (q.symm.trans w2)
            rw [e, r3]
        · have u1 := q2 K (by omega)
          have u2 := r2 K (by omega)
          omega
        · rw [r4 g (by rw [q4 g hg]; exact hg), q4 g hg]
      · refine last S1 fu1 c1 hw1 q6 t1 ((q7 m (by omega)).trans hs) (fun x hx q => ?_) (fun K hK => ?_) (by omega) q4 q5 q7 q8 q1
        · rw [c2, c3, c4] at q
          rcases q with ⟨q, -⟩ | ⟨q, -⟩
          · have e : x = a := (nI_eq (by omega) (by omega)).mp (q.symm.trans w1)
            rw [e, q3]
          · have e : x = b := (nI_eq (by omega) (by omega)).mp (q.symm.trans w2)
            rw [e, tb]
        · have u1 := q2 K (by omega)
          omega
    · have h4 : ¬ S.2.1 2 f ≤ 3 := by rcases h67 with ⟨q, -⟩ | ⟨q, -⟩ <;> rw [q] <;> decide
      obtain ⟨S1, fu1, q1, q2, q3, q4, q5, q6, q7, q8⟩ := first a ha w1 h4
      obtain ⟨c1, c2, c3, c4⟩ := cp q8
      have hw1 : fw n (S1.2.1 2) (S1.2.1 3) (S1.2.1 4) d := by rw [c2, c3, c4]; exact hw
      have qf := q2 f (by omega)
      refine last S1 fu1 c1 hw1 q6 ((q5 f (by omega)).trans ht) ((q7 m (by omega)).trans hs) (fun x hx q => ?_) (fun K hK => ?_) (by omega) q4 q5 q7 q8 q1
      · rw [c2, c3, c4] at q
        rcases q with ⟨q, -⟩ | ⟨-, q⟩
        · have e : x = a := (nI_eq (by omega) (by omega)).mp (q.symm.trans w1)
          rw [e, q3]
        · rcases h67 with ⟨s0, -⟩ | ⟨s0, -⟩ <;> (rw [s0] at q; exact absurd q (by decide))
      · have u1 := q2 K (by omega)
        omega
end
/-! 77.st_set -/
section
/-! set. -/
/-- FORMULAS and slots on both sides; n of them, d the denials -/
def iv_fs (n : Nat) (d : Nat → Nat) (c2 : Int32) (so on tw de ys no : Nat → Int32) (r3 : Int32) (rs ro rt ry rn : Nat → Int32) : Prop := c2 = nI n ∧ r3 = nI n ∧ fw n rs ro rt d ∧ (∀ f, f < n → so f = rs f ∧ on f = ro f ∧ tw f = rt f ∧ de f = nI (d f)) ∧ ∀ s, s < 8 → ys s = ry s ∧ no s = rn s ∧ ((ys s = -1 ∧ no s = -1) ∨ ∃ f, f < n ∧ ys s = nI f ∧ no s = nI (d f))
theorem uc_le (t : Nat → Int32) : ∀ n : Nat, uc t n ≤ n
  | 0 => Nat.le_refl _
  | n + 1 => by
    show uc t n + (if t n = -1 then 1 else 0) ≤ n + 1
    have := uc_le t n
    by_cases h : t n = -1
    · rw [if_pos h]; omega
    · rw [if_neg h]; omega
theorem rs_clear {N : Nat} {z : Nat → Nat} {v1 v2 : Int32} : ∀ (fuel k : Nat) (S : mq_St), k ≤ 300 → 300 - k < fuel → (∀ g, g < k → S.2.1 15 g = -1) → ∃ (S' : mq_St) (q : Nat), zf_X11_set_27 N z fuel v1 v2 (nI k) S = zf_X11_set_27 N z (q + 1) v1 v2 (nI 300) S' ∧ (∀ g, g < 300 → S'.2.1 15 g = -1) ∧ ag [] [15] [] S S' := by
  intro fuel
  induction fuel with
  | zero => intro k S _ h; omega
  | succ fuel ih =>
    intro k S hk hf hT
    by_cases e : k = 300
    · subst e
      exact ⟨S, fuel, rfl, hT, ag_rf⟩
    · have hin : vp_in (nI k) 300 := vp_in_nI (by omega) (by omega)
      have ecl : (nI k).toNatClampNeg = k := nI_clamp (by omega)
      have e300 : ¬ (300 : Int32) ≤ nI k := nI_ge (a := k) (b := 300) (by omega) (by omega)
      obtain ⟨S', q, a1, a2, a3⟩ := ih (k + 1) (mq_sa S 15 (upd (S.2.1 15) k (-1))) (by omega) (by omega) (fun g hg => by
        show upd (S.2.1 15) k (-1) g = -1
        unfold upd
        by_cases c : g = k
        · rw [if_pos c]
        · rw [if_neg c]
          exact hT g (by omega))
      refine ⟨S', q, ?_, a2, ag_tr (ag_sa (by decide)) a3⟩
      rw [← a1]
      show zf_X11_set_27b N z _ v1 v2 (nI k) S = _
      unfold zf_X11_set_27b
      rw [if_neg e300]
      simp only [mq_ck_of hin, ecl, mq_nS, mq_nI, nI_1]
theorem rf_turn {N n f : Nat} {z : Nat → Nat} {S : mq_St} {d : Nat → Nat} (hN : 2000 ≤ N) (hn : S.1 3 = nI n) (hw : fw n (S.2.1 2) (S.2.1 3) (S.2.1 4) d) (hf : f < n) (hT : ∀ g, g < n → S.2.1 15 g = -1) : ∃ S', zf_X11_turn N z (nI f) S = some (nI (d f), S') ∧ ag [] [14, 15] [] S S' := by
  have h3 := hw.2.1
  have i0 : vp_in 0 3000 := vp_in_nI (n := 0) (N := 3000) (by omega) (by omega)
  have c0 : (0 : Int32).toNatClampNeg = 0 := nI_clamp (n := 0) (by omega)
  have i1 : vp_in (nI f) 300 := vp_in_nI (by omega) (by omega)
  have c1 : (nI f).toNatClampNeg = f := nI_clamp (by omega)
  obtain ⟨S', fu, q1, q2, q3, q4, q5, q6, q7, q8⟩ := rt_all (N := N) (z := z) (v1 := nI f) (by omega) f hf (mq_sa S 14 (upd (S.2.1 14) 0 (nI f))) 0 N hn hw (fun g hg => Or.inl (hT g hg)) (hT f hf) (by
    show upd (S.2.1 14) 0 (nI f) 0 = _
    unfold upd
    rw [if_pos rfl]) (by omega) (by
    have := uc_le ((mq_sa S 14 (upd (S.2.1 14) 0 (nI f))).2.1 15) (f + 1)
    omega)
  have u1 := q2 (f + 1) (by omega)
  have u2 := uc_le ((mq_sa S 14 (upd (S.2.1 14) 0 (nI f))).2.1 15) (f + 1)
  obtain ⟨fu0, rfl⟩ : ∃ q, fu = q + 1 := ⟨fu - 1, by omega⟩
  refine ⟨S', ?_, ag_tr (ag_sa (by decide)) q8⟩
  unfold zf_X11_turn
  simp only [mq_ck_of i0, c0, mq_nS, mq_nI]
  rw [show (1 : Int32) = nI (0 + 1) from rfl, q1]
  show zf_X11_turn_9b N z _ (nI f) (nI 0) S' = _
  unfold zf_X11_turn_9b
  rw [if_pos (by decide : nI 0 ≤ 0), mq_ck_of i1, c1, q3]
theorem st_set {N n : Nat} {z : Nat → Nat} {SC SR : mq_St} {d : Nat → Nat} (v w : Int32) (hN : 2000 ≤ N) (h : iv_fs n d (SC.1 2) (SC.2.1 4) (SC.2.1 5) (SC.2.1 6) (SC.2.1 7) (SC.2.1 0) (SC.2.1 1) (SR.1 3) (SR.2.1 2) (SR.2.1 3) (SR.2.1 4) (SR.2.1 5) (SR.2.1 6)) :
    ∃ r SC' SR', zf_X10_set N z v w SC = some (r, SC') ∧ zf_X11_set N z v w SR = some (r, SR') ∧ iv_fs n d (SC'.1 2) (SC'.2.1 4) (SC'.2.1 5) (SC'.2.1 6) (SC'.2.1 7) (SC'.2.1 0) (SC'.2.1 1) (SR'.1 3) (SR'.2.1 2) (SR'.2.1 3) (SR'.2.1 4) (SR'.2.1 5) (SR'.2.1 6) ∧ ag [] [0, 1] [] SC SC' ∧ ag [0, 6] [5, 6, 14, 15] [] SR SR' := by
  have hall := h
  obtain ⟨hc, hr, hw, hs, hsl⟩ := h
  have h3 := hw.2.1
  unfold zf_X10_set zf_X11_set
  dsimp only [mq_nS]
  rw [ck_isSlot, rf_in]
  have e7 : (7 : Int32) = nI 8 - 1 := by decide
  have e8 : (8 : Int32) = nI 8 := rfl
  have h10 : ¬ (1 : Int32) = 0 := by decide
  rw [e7, e8]
  rcases mq_place v (t := 8) (by omega) with hv | ⟨s, hs8, rfl, hv⟩
  · rw [if_pos hv, if_pos ((mq_lst 8 (by omega) v).mpr hv), mq_cp_s, mq_cp_s, if_pos rfl, if_pos rfl]
    exact ⟨-1, SC, mq_si SR 0 0, rfl, rfl, hall, ag_rf, ag_si (by decide)⟩
  · rw [if_neg hv, if_neg (fun q => hv ((mq_lst 8 (by omega) _).mp q)), mq_cp_s, mq_cp_s, if_neg h10, if_neg h10, ck_has, rf_isF (S := mq_si SR 0 0) w hr h3, hc]
    rcases mq_place w (t := n) (by omega) with hw2 | ⟨f, hf, rfl, hw2⟩
    · rw [if_pos hw2, mq_cp_s, mq_cp_s, if_pos rfl, if_pos rfl]
      exact ⟨-1, SC, mq_si SR 0 0, rfl, rfl, hall, ag_rf, ag_si (by decide)⟩
    · have i8 : vp_in (nI s) 8 := vp_in_nI (by omega) (by omega)
      have cs : (nI s).toNatClampNeg = s := nI_clamp (by omega)
      rw [if_neg hw2, mq_cp_s, mq_cp_s, if_neg h10, if_neg h10]
      simp only [mq_ck_of i8, cs, mq_nI]
      obtain ⟨-, -, -, den⟩ := ck_in (N := N) (z := z) (S := mq_sa SC 0 (upd (SC.2.1 0) s (nI f))) hc h3 hf
      rw [den, mq_cp_s, show (mq_sa SC 0 (upd (SC.2.1 0) s (nI f))).2.1 7 f = nI (d f) from (hs f hf).2.2.2]
      obtain ⟨S1, q, a1, a2, a3⟩ := rs_clear (N := N) (z := z) (v1 := nI s) (v2 := nI f) N 0 (mq_si SR 0 0) (by omega) (by omega) (fun g hg => by omega)
      have e13 : S1.1 3 = nI n := (a3.1 3 (by decide)).trans hr
      have b2 : S1.2.1 2 = SR.2.1 2 := a3.2.1 2 (by decide)
      have b3 : S1.2.1 3 = SR.2.1 3 := a3.2.1 3 (by decide)
      have b4 : S1.2.1 4 = SR.2.1 4 := a3.2.1 4 (by decide)
      obtain ⟨S2, t1, t2⟩ := rf_turn (N := N) (z := z) (S := mq_si S1 6 0) (d := d) hN e13 (by
        show fw n (S1.2.1 2) (S1.2.1 3) (S1.2.1 4) d
        rw [b2, b3, b4]
        exact hw) hf (fun g hg => a2 g (by omega))
      have m6 : S2.1 6 = 0 := t2.1 6 (by decide)
      refine ⟨nI (d f), mq_sa (mq_sa SC 0 (upd (SC.2.1 0) s (nI f))) 1 (upd (SC.2.1 1) s (nI (d f))), mq_sa (mq_sa S2 5 (upd (S2.2.1 5) s (nI f))) 6 (upd (S2.2.1 6) s (nI (d f))), ?_, ?_, ?_, ag_tr (ag_sa (by decide)) (ag_sa (by decide)), ?_⟩
      · show some (upd (SC.2.1 1) s (nI (d f)) s, _) = _
        rw [show upd (SC.2.1 1) s (nI (d f)) s = nI (d f) from by unfold upd; rw [if_pos rfl]]
        rfl
      · rw [show (0 : Int32) = nI 0 from rfl] at a1 ⊢
        rw [a1]
        show zf_X11_set_27b N z _ (nI s) (nI f) (nI 300) S1 = _
        unfold zf_X11_set_27b
        rw [if_pos (by decide : (300 : Int32) ≤ nI 300)]
        simp only [mq_nI, mq_nS]
        rw [mq_cz_0, t1, mq_cl_s]
        rw [if_pos m6]
        simp only [mq_ck_of i8, cs]
        rfl
      · have f5 : S2.2.1 5 = SR.2.1 5 := (t2.2.1 5 (by decide)).trans (a3.2.1 5 (by decide))
        have f6 : S2.2.1 6 = SR.2.1 6 := (t2.2.1 6 (by decide)).trans (a3.2.1 6 (by decide))
        have f2 : S2.2.1 2 = SR.2.1 2 := (t2.2.1 2 (by decide)).trans b2
        have f3 : S2.2.1 3 = SR.2.1 3 := (t2.2.1 3 (by decide)).trans b3
        have f4 : S2.2.1 4 = SR.2.1 4 := (t2.2.1 4 (by decide)).trans b4
        refine ⟨hc, (t2.1 3 (by decide)).trans e13, ?_, ?_, ?_⟩
        · show fw n (S2.2.1 2) (S2.2.1 3) (S2.2.1 4) d
          rw [f2, f3, f4]
          exact hw
        · show ∀ g, g < n → SC.2.1 4 g = S2.2.1 2 g ∧ SC.2.1 5 g = S2.2.1 3 g ∧ SC.2.1 6 g = S2.2.1 4 g ∧ SC.2.1 7 g = nI (d g)
          rw [f2, f3, f4]
          exact hs
        · intro g hg
          show upd (SC.2.1 0) s (nI f) g = upd (S2.2.1 5) s (nI f) g ∧ upd (SC.2.1 1) s (nI (d f)) g = upd (S2.2.1 6) s (nI (d f)) g ∧ ((upd (SC.2.1 0) s (nI f) g = -1 ∧ upd (SC.2.1 1) s (nI (d f)) g = -1) ∨ ∃ x, x < n ∧ upd (SC.2.1 0) s (nI f) g = nI x ∧ upd (SC.2.1 1) s (nI (d f)) g = nI (d x))
          unfold upd
          by_cases e : g = s
          · simp only [if_pos e]
            exact ⟨trivial, trivial, Or.inr ⟨f, hf, rfl, rfl⟩⟩
          · simp only [if_neg e]
            rw [f5, f6]
            exact hsl g hg
      · refine ag_tr (ag_tr (ag_tr (ag_tr (ag_tr (ag_si (by decide)) (ag_mono a3 (by decide) (by decide) (by decide))) (ag_si (by decide))) (ag_mono t2 (by decide) (by decide) (by decide))) (ag_sa (by decide))) (ag_sa (by decide))
end
/-! 78.text -/
section
/-! The TEXT of a formula as a list of bytes; what is told of it. -/
def txf (so on tw : Nat → Int32) : Nat → Nat → List Int32
  | 0, _ => []
  | k + 1, f => if so f = 0 then [84] else if so f = 1 then [70] else if so f = 2 then [97 + on f] else if so f = 3 then [33, 97 + on f]
    else if so f = 6 then 91 :: 93 :: txf so on tw k (on f).toNatClampNeg else if so f = 7 then 60 :: 62 :: txf so on tw k (on f).toNatClampNeg
    else 40 :: (txf so on tw k (on f).toNatClampNeg ++ (if so f = 4 then 38 else 124) :: (txf so on tw k (tw f).toNatClampNeg ++ [41]))
theorem txf_st {n : Nat} {so on tw : Nat → Int32} {d : Nat → Nat} (hw : fw n so on tw d) : ∀ f, f < n → ∀ k, f < k → txf so on tw k f = txf so on tw (f + 1) f := by
  intro f
  induction f using Nat.strongRecOn with
  | ind f ih =>
    intro hf k hk
    have h3 := hw.2.1
    obtain ⟨k', rfl⟩ : ∃ q, k = q + 1 := ⟨k - 1, by omega⟩
    unfold txf
    have sub : ∀ a, a < f → txf so on tw k' a = txf so on tw f a := fun a ha => (ih a ha (by omega) k' (by omega)).trans (ih a ha (by omega) f ha).symm
    have cl : ∀ a, a < f → (nI a).toNatClampNeg = a := fun a ha => nI_clamp (by omega)
    rcases hw.2.2.2.2 f hf with ⟨-, s0, -⟩ | ⟨-, s0, -⟩ | ⟨hs, -⟩ | ⟨hs, a, b, ha, hb, w1, w2, -⟩ | ⟨hs, -, -, a, ha, w1, -⟩
    · rw [s0, if_pos rfl, if_pos rfl]
    · rw [s0]
      rfl
    · rcases hs with ⟨s0, -⟩ | ⟨s0, -⟩ <;> (rw [s0]; rfl)
    · rw [w1, w2, cl a ha, cl b hb, sub a ha, sub b hb]
    · rcases hs with ⟨s0, -⟩ | ⟨s0, -⟩ <;> (rw [s0, w1, cl a ha, sub a ha]; rfl)
def tx (so on tw : Nat → Int32) (f : Nat) : List Int32 := txf so on tw (f + 1) f
theorem tx_two {n a b f : Nat} {so on tw : Nat → Int32} {d : Nat → Nat} (hw : fw n so on tw d) (hf : f < n) (h45 : so f = 4 ∨ so f = 5) (ha : a < f) (hb : b < f) (w1 : on f = nI a) (w2 : tw f = nI b) : tx so on tw f = 40 :: (tx so on tw a ++ (if so f = 4 then 38 else 124) :: (tx so on tw b ++ [41])) := by
  have h3 := hw.2.1
  unfold tx
  rw [← txf_st hw a (by omega) f ha, ← txf_st hw b (by omega) f hb]
  show txf so on tw (f + 1) f = _
  rw [txf, w1, w2, nI_clamp (by omega), nI_clamp (by omega)]
  rcases h45 with q | q <;> (rw [q]; rfl)
theorem tx_need {n a f : Nat} {so on tw : Nat → Int32} {d : Nat → Nat} (hw : fw n so on tw d) (hf : f < n) (s0 : so f = 6) (ha : a < f) (w1 : on f = nI a) : tx so on tw f = 91 :: 93 :: tx so on tw a := by
  have h3 := hw.2.1
  unfold tx
  rw [← txf_st hw a (by omega) f ha, txf, w1, nI_clamp (by omega), s0]
  rfl
theorem tx_may {n a f : Nat} {so on tw : Nat → Int32} {d : Nat → Nat} (hw : fw n so on tw d) (hf : f < n) (s0 : so f = 7) (ha : a < f) (w1 : on f = nI a) : tx so on tw f = 60 :: 62 :: tx so on tw a := by
  have h3 := hw.2.1
  unfold tx
  rw [← txf_st hw a (by omega) f ha, txf, w1, nI_clamp (by omega), s0]
  rfl
theorem tx_0 {f : Nat} {so on tw : Nat → Int32} (s0 : so f = 0) : tx so on tw f = [84] := by unfold tx txf; rw [s0]; rfl
theorem tx_1 {f : Nat} {so on tw : Nat → Int32} (s0 : so f = 1) : tx so on tw f = [70] := by unfold tx txf; rw [s0]; rfl
theorem tx_2 {f : Nat} {so on tw : Nat → Int32} (s0 : so f = 2) : tx so on tw f = [97 + on f] := by unfold tx txf; rw [s0]; rfl
theorem tx_3 {f : Nat} {so on tw : Nat → Int32} (s0 : so f = 3) : tx so on tw f = [33, 97 + on f] := by unfold tx txf; rw [s0]; rfl
/-- the first 400 bytes of D are told: the class's side, the reference's -/
def tc (S : mq_St) (D : List Int32) : Prop := by_row (mq_pull S [1] [3] []) (min D.length 400) (fun i => D.getD i 0 &&& 255)
def tr (S : mq_St) (D : List Int32) : Prop := S.1 2 = nI (min D.length 400) ∧ ∀ i, i < min D.length 400 → S.2.1 1 i &&& 255 = D.getD i 0 &&& 255
theorem gd_app {D : List Int32} {v : Int32} {i : Nat} (h : i < D.length) : (D ++ [v]).getD i 0 = D.getD i 0 := by
  rw [List.getD_eq_getElem?_getD, List.getD_eq_getElem?_getD, List.getElem?_append_left h]
theorem gd_appX {D X : List Int32} {i : Nat} (h : i < D.length) : (D ++ X).getD i 0 = D.getD i 0 := by
  rw [List.getD_eq_getElem?_getD, List.getD_eq_getElem?_getD, List.getElem?_append_left h]
theorem gd_end (D : List Int32) (v : Int32) : (D ++ [v]).getD D.length 0 = v := by
  rw [List.getD_eq_getElem?_getD, List.getElem?_append_right (Nat.le_refl _), Nat.sub_self]
  rfl
theorem tc_more {S : mq_St} {D X : List Int32} (h : tc S D) (h4 : 400 ≤ D.length) : tc S (D ++ X) := by
  unfold tc at h ⊢
  have e1 : min D.length 400 = 400 := by omega
  have e2 : min (D ++ X).length 400 = 400 := by rw [List.length_append]; omega
  rw [e1] at h
  rw [e2]
  exact by_row_c h (fun i hi => by show D.getD i 0 &&& 255 = (D ++ X).getD i 0 &&& 255; rw [gd_appX (by omega)])
theorem tr_more {S : mq_St} {D X : List Int32} (h : tr S D) (h4 : 400 ≤ D.length) : tr S (D ++ X) := by
  unfold tr at h ⊢
  have e1 : min D.length 400 = 400 := by omega
  have e2 : min (D ++ X).length 400 = 400 := by rw [List.length_append]; omega
  rw [e1] at h
  rw [e2]
  exact ⟨h.1, fun i hi => by rw [gd_appX (by omega)]; exact h.2 i hi⟩
theorem ck_emit {N : Nat} {z : Nat → Nat} {S : mq_St} {D : List Int32} (v : Int32) (h : tc S D) : ∃ S', zf_X9_emit N z v S = some ((), S') ∧ tc S' (D ++ [v]) ∧ ag [1] [3] [] S S' := by
  unfold zf_X9_emit
  rw [show zf_X0_size N z (mq_pull S [1] [3] []) = some ((mq_pull S [1] [3] []).1 0) from rfl, mq_cp_s, h.1]
  by_cases h4 : 400 ≤ D.length
  · have e1 : min D.length 400 = 400 := by omega
    rw [e1, if_pos (by decide : (400 : Int32) ≤ nI 400)]
    exact ⟨S, rfl, tc_more h h4, ag_rf⟩
  · have e1 : min D.length 400 = D.length := by omega
    have e2 : min (D ++ [v]).length 400 = D.length + 1 := by rw [List.length_append, List.length_singleton]; omega
    have e400 : ¬ (400 : Int32) ≤ nI D.length := nI_ge (a := D.length) (b := 400) (by omega) (by omega)
    rw [e1, if_neg e400]
    have h' := h
    unfold tc at h'
    rw [e1] at h'
    obtain ⟨X, a1, a2⟩ := by_next (N := N) (z := z) (g := fun i => (D ++ [v]).getD i 0 &&& 255) v (by_row_c h' (fun i hi => by show D.getD i 0 &&& 255 = (D ++ [v]).getD i 0 &&& 255; rw [gd_app hi])) (by omega) (by show (D ++ [v]).getD D.length 0 &&& 255 = v &&& 255; rw [gd_end])
    refine ⟨mq_push S X [1] [3] [], by rw [a1]; rfl, ?_, ag_push⟩
    unfold tc
    rw [e2]
    exact a2
theorem rf_tells {N : Nat} {z : Nat → Nat} {S : mq_St} {D : List Int32} (v : Int32) (h : tr S D) : ∃ S', zf_X11_tells N z v S = some ((), S') ∧ tr S' (D ++ [v]) ∧ ag [2] [1] [] S S' := by
  unfold zf_X11_tells
  rw [h.1]
  by_cases h4 : 400 ≤ D.length
  · have e1 : min D.length 400 = 400 := by omega
    rw [e1, if_pos (by decide : (400 : Int32) ≤ nI 400)]
    exact ⟨S, rfl, tr_more h h4, ag_rf⟩
  · have e1 : min D.length 400 = D.length := by omega
    have e2 : min (D ++ [v]).length 400 = D.length + 1 := by rw [List.length_append, List.length_singleton]; omega
    have e400 : ¬ (400 : Int32) ≤ nI D.length := nI_ge (a := D.length) (b := 400) (by omega) (by omega)
    have hin : vp_in (nI D.length) 4000 := vp_in_nI (by omega) (by omega)
    have ecl : (nI D.length).toNatClampNeg = D.length := nI_clamp (by omega)
    have h2 := h.2
    have h1 := h.1
    rw [e1] at h2 h1
    rw [e1, if_neg e400, mq_ck_of hin, ecl, vp_nar_byte, Int8.toInt8_toInt32]
    dsimp only [mq_nS]
    refine ⟨_, rfl, ?_, ag_tr (ag_sa (by decide)) (ag_si (by decide))⟩
    unfold tr
    rw [e2]
    refine ⟨?_, fun i hi => ?_⟩
    · show S.1 2 + 1 = _
      rw [h1, nI_1]
    · show upd (S.2.1 1) D.length v.toInt8.toInt32 i &&& 255 = _
      unfold upd
      by_cases e : i = D.length
      · rw [if_pos e, bp_b, e, gd_end]
      · rw [if_neg e, gd_app (by omega)]
        exact h2 i (by omega)
end
/-! 78a.kit -/
section
/-! Rows for simp over decompiled functions: numbers as nI, states by places. -/
theorem sp_inj {a b : Nat} (h : nI a = nI b) (ha : a < 2147483648) (hb : b < 2147483648) : a = b := (nI_eq ha hb).mp h
theorem sp_leT {a b : Nat} (h : a ≤ b) (hb : b < 2147483648) : (nI a ≤ nI b) = True := eq_true (nI_le h hb)
theorem sp_leF {a b : Nat} (h : b < a) (ha : a < 2147483648) : (nI a ≤ nI b) = False := eq_false (nI_ge h ha)
theorem sp_ltT {a b : Nat} (h : a < b) (hb : b < 2147483648) : (nI a < nI b) = True := eq_true (nI_lt h hb)
theorem sp_ltF {a b : Nat} (h : b ≤ a) (ha : a < 2147483648) : (nI a < nI b) = False := eq_false (nI_nlt h ha)
theorem sp_eqT {a b : Nat} (h : a = b) : (nI a = nI b) = True := eq_true (by rw [h])
theorem sp_eqF {a b : Nat} (h : ¬ a = b) (ha : a < 2147483648) (hb : b < 2147483648) : (nI a = nI b) = False := eq_false (fun q => h ((nI_eq ha hb).mp q))
theorem sp_m1 {a : Nat} (ha : a < 2147483648) : (nI a = -1) = False := eq_false (nI_nm1 ha)
theorem sp_m1' {a : Nat} (ha : a < 2147483648) : ((-1 : Int32) = nI a) = False := eq_false (fun q => nI_nm1 ha q.symm)
theorem sp_m1s : ((-1 : Int32) = -1) = True := eq_true rfl
theorem sp_lt0 {a : Nat} (ha : a < 2147483648) : (nI a < 0) = False := eq_false (nI_pos ha)
theorem sp_le0 {a : Nat} (h0 : 0 < a) (ha : a < 2147483648) : (nI a ≤ 0) = False := eq_false (nI_nle h0 ha)
theorem sp_ml {a : Nat} (ha : a < 2147483648) : ((-1 : Int32) < nI a) = True := eq_true (by
  rw [Int32.lt_iff_toInt_lt, nI_toInt ha, show (-1 : Int32).toInt = -1 from by decide]
  omega)
theorem sp_mle {a : Nat} (ha : a < 2147483648) : (nI a ≤ (-1 : Int32)) = False := eq_false (by
  rw [Int32.le_iff_toInt_le, nI_toInt ha, show (-1 : Int32).toInt = -1 from by decide]
  omega)
theorem sp_mlt {a : Nat} (ha : a < 2147483648) : (nI a < (-1 : Int32)) = False := eq_false (by
  rw [Int32.lt_iff_toInt_lt, nI_toInt ha, show (-1 : Int32).toInt = -1 from by decide]
  omega)
theorem sp_mle' {a : Nat} (ha : a < 2147483648) : ((-1 : Int32) ≤ nI a) = True := eq_true (by
  rw [Int32.le_iff_toInt_le, nI_toInt ha, show (-1 : Int32).toInt = -1 from by decide]
  omega)
theorem sp_ck {α : Type} {i n : Nat} {k : Option α} (h : i < n) (hn : n < 2147483648) : mq_ck (nI i) n k = k := mq_ck_of (vp_in_nI h hn)
theorem sp_cl {a : Nat} (ha : a < 2147483648) : (nI a).toNatClampNeg = a := nI_clamp ha
theorem sp_ad (a b : Nat) : nI a + nI b = nI (a + b) := nI_add a b
theorem sp_mu (a b : Nat) : nI a * nI b = nI (a * b) := pk_mul a b
theorem sp_su {a b : Nat} (h : b ≤ a) : nI a - nI b = nI (a - b) := pk_sub h
theorem sp_ne {a b : Nat} (h : b ≤ a) : nI a + -nI b = nI (a - b) := by rw [← Int32.sub_eq_add_neg, pk_sub h]
theorem sp_cz {α : Type} {a : Nat} {k : Option α} (h : a ≤ 1) : mq_cz (nI a) k = k := by
  have : a = 0 ∨ a = 1 := by omega
  unfold mq_cz
  rcases this with rfl | rfl
  · rw [if_pos (Or.inl (by decide))]
  · rw [if_pos (Or.inr (by decide))]
theorem sp_a1 (a b : Nat) : a + b - b = a := by omega
theorem sp_a0 (a : Nat) : a + 0 = a := rfl
theorem sp_0a (a : Nat) : 0 + a = a := Nat.zero_add a
theorem si_1 (S : mq_St) (k : Nat) (v : Int32) (j : Nat) : (mq_si S k v).1 j = if j = k then v else S.1 j := rfl
theorem si_2 (S : mq_St) (k : Nat) (v : Int32) : (mq_si S k v).2 = S.2 := rfl
theorem sa_1 (S : mq_St) (k : Nat) (f : Nat → Int32) : (mq_sa S k f).1 = S.1 := rfl
theorem sa_2 (S : mq_St) (k : Nat) (f : Nat → Int32) (j : Nat) : (mq_sa S k f).2.1 j = if j = k then f else S.2.1 j := rfl
theorem sa_3 (S : mq_St) (k : Nat) (f : Nat → Int32) : (mq_sa S k f).2.2 = S.2.2 := rfl
theorem sl_1 (S : mq_St) (k : Nat) (f : Nat → Int64) : (mq_sl S k f).1 = S.1 := rfl
theorem sl_2 (S : mq_St) (k : Nat) (f : Nat → Int64) : (mq_sl S k f).2.1 = S.2.1 := rfl
theorem sl_3 (S : mq_St) (k : Nat) (f : Nat → Int64) (j : Nat) : (mq_sl S k f).2.2 j = if j = k then f else S.2.2 j := rfl
theorem up_s (f : Nat → Int32) (k : Nat) (v : Int32) : upd f k v k = v := if_pos rfl
theorem up_o {f : Nat → Int32} {k j : Nat} {v : Int32} (h : ¬ j = k) : upd f k v j = f j := if_neg h
theorem ul_s (f : Nat → Int64) (k : Nat) (v : Int64) : vp_updL f k v k = v := if_pos rfl
theorem ul_o {f : Nat → Int64} {k j : Nat} {v : Int64} (h : ¬ j = k) : vp_updL f k v j = f j := if_neg h
theorem sa_sa (S : mq_St) (k : Nat) (f g : Nat → Int32) : mq_sa (mq_sa S k f) k g = mq_sa S k g := by
  unfold mq_sa
  simp only
  congr 2
  funext j
  by_cases h : j = k
  · rw [if_pos h, if_pos h]
  · rw [if_neg h, if_neg h, if_neg h]
theorem si_si (S : mq_St) (k : Nat) (f g : Int32) : mq_si (mq_si S k f) k g = mq_si S k g := by
  unfold mq_si
  simp only
  congr 1
  funext j
  by_cases h : j = k
  · rw [if_pos h, if_pos h]
  · rw [if_neg h, if_neg h, if_neg h]
theorem sl_sl (S : mq_St) (k : Nat) (f g : Nat → Int64) : mq_sl (mq_sl S k f) k g = mq_sl S k g := by
  unfold mq_sl
  simp only
  congr 2
  funext j
  by_cases h : j = k
  · rw [if_pos h, if_pos h]
  · rw [if_neg h, if_neg h, if_neg h]
theorem nI_e {α : Type} (v : Int32) (k : Int32 → Option α) : mq_nI v k = k v := Eq.trans rfl rfl
theorem nL_e {α : Type} (v : Int64) (k : Int64 → Option α) : mq_nL v k = k v := Eq.trans rfl rfl
theorem nS_e {α : Type} (v : mq_St) (k : mq_St → Option α) : mq_nS v k = k v := Eq.trans rfl rfl
theorem L0 : (0 : Int32) = nI 0 := by decide
theorem L1 : (1 : Int32) = nI 1 := by decide
theorem L2 : (2 : Int32) = nI 2 := by decide
theorem L3 : (3 : Int32) = nI 3 := by decide
theorem L4 : (4 : Int32) = nI 4 := by decide
theorem L5 : (5 : Int32) = nI 5 := by decide
theorem L6 : (6 : Int32) = nI 6 := by decide
theorem L7 : (7 : Int32) = nI 7 := by decide
theorem L8 : (8 : Int32) = nI 8 := by decide
theorem L9 : (9 : Int32) = nI 9 := by decide
theorem L10 : (10 : Int32) = nI 10 := by decide
theorem L16 : (16 : Int32) = nI 16 := by decide
theorem L20 : (20 : Int32) = nI 20 := by decide
theorem L24 : (24 : Int32) = nI 24 := by decide
theorem L32 : (32 : Int32) = nI 32 := by decide
theorem L60 : (60 : Int32) = nI 60 := by decide
theorem L300 : (300 : Int32) = nI 300 := by decide
theorem L400 : (400 : Int32) = nI 400 := by decide
theorem L470 : (470 : Int32) = nI 470 := by decide
theorem L64 : (64 : Int32) = nI 64 := by decide
theorem L320 : (320 : Int32) = nI 320 := by decide
theorem L150 : (150 : Int32) = nI 150 := by decide
theorem L1299 : (1299 : Int32) = nI 1299 := by decide
theorem L1300 : (1300 : Int32) = nI 1300 := by decide
theorem L97 : (97 : Int32) = nI 97 := by decide
theorem L122 : (122 : Int32) = nI 122 := by decide
theorem L84 : (84 : Int32) = nI 84 := by decide
theorem L70 : (70 : Int32) = nI 70 := by decide
theorem L33 : (33 : Int32) = nI 33 := by decide
theorem L40 : (40 : Int32) = nI 40 := by decide
theorem L41 : (41 : Int32) = nI 41 := by decide
theorem L62 : (62 : Int32) = nI 62 := by decide
theorem L91 : (91 : Int32) = nI 91 := by decide
theorem L93 : (93 : Int32) = nI 93 := by decide
theorem L38 : (38 : Int32) = nI 38 := by decide
theorem L124 : (124 : Int32) = nI 124 := by decide
theorem L61 : (61 : Int32) = nI 61 := by decide
theorem L31 : (31 : Int32) = nI 31 := by decide
theorem L63 : (63 : Int32) = nI 63 := by decide
theorem L600 : (600 : Int32) = nI 600 := by decide
theorem L1000000 : (1000000 : Int32) = nI 1000000 := by decide
theorem L100000 : (100000 : Int32) = nI 100000 := by decide
theorem L4000 : (4000 : Int32) = nI 4000 := by decide
theorem L3000 : (3000 : Int32) = nI 3000 := by decide
theorem L2000 : (2000 : Int32) = nI 2000 := by decide
theorem L410 : (410 : Int32) = nI 410 := by decide
theorem L3600 : (3600 : Int32) = nI 3600 := by decide
end
