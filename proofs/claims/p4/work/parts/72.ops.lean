/-! feed, end, take, alter, out: both sides answer alike, and the tapes stay alike. -/
theorem mq_cz_0 {α : Type} (k : Option α) : mq_cz 0 k = k := by unfold mq_cz; rw [if_pos (Or.inl rfl)]
theorem mq_cz_1 {α : Type} (k : Option α) : mq_cz 1 k = k := by unfold mq_cz; rw [if_pos (Or.inr rfl)]
theorem st_feed {N : Nat} {z : Nat → Nat} {SC SR : mq_St} (x1 x2 x3 x4 x5 : Int32) (hN : 5 ≤ N) (h : iv_tape (SC.1 0) (SC.2.1 2) (SR.1 1) (SR.2.1 0)) :
    ∃ r SC' SR', zf_X10_feed N z x1 x2 x3 x4 x5 SC = some (r, SC') ∧ zf_X11_feed N z x1 x2 x3 x4 x5 SR = some (r, SR') ∧ iv_tape (SC'.1 0) (SC'.2.1 2) (SR'.1 1) (SR'.2.1 0) ∧ ag [0] [2] [] SC SC' ∧ ag [0, 1] [0] [] SR SR' := by
  obtain ⟨t, h4, hc, hr, hb⟩ := h
  have hcond : (nI t + 20 ≤ (4000 : Int32)) ↔ t + 20 ≤ 4000 := by
    have e : nI t + 20 = nI (t + 20) := nI_add t 20
    rw [e]
    exact nI_leI (a := t + 20) (b := 4000) (by omega) (by omega)
  by_cases ht : t + 20 ≤ 4000
  · obtain ⟨X1, R1, a1, b1, c1, d1, e1, f1⟩ := st_num (N := N) (z := z) (SC := SC) (SR := mq_si SR 0 0) x1 hN hc hr (by omega) hb
    obtain ⟨X2, R2, a2, b2, c2, d2, e2, f2⟩ := st_num (N := N) (z := z) x2 hN c1 d1 (by omega) e1
    obtain ⟨X3, R3, a3, b3, c3, d3, e3, f3⟩ := st_num (N := N) (z := z) x3 hN c2 d2 (by omega) e2
    obtain ⟨X4, R4, a4, b4, c4, d4, e4, f4⟩ := st_num (N := N) (z := z) x4 hN c3 d3 (by omega) e3
    obtain ⟨X5, R5, a5, b5, c5, d5, e5, f5⟩ := st_num (N := N) (z := z) x5 hN c4 d4 (by omega) e4
    refine ⟨nI (t + 4 + 4 + 4 + 4 + 4), _, R5, ?_, ?_, ⟨t + 4 + 4 + 4 + 4 + 4, by omega, c5, d5, e5⟩, ag_tr (ag_tr (ag_tr (ag_tr ag_push ag_push) ag_push) ag_push) ag_push, ?_⟩
    · unfold zf_X10_feed
      rw [show zf_X0_size N z (mq_pull SC [0] [2] []) = some (SC.1 0) from rfl, mq_cp_s, hc]
      rw [if_pos (hcond.mpr ht), a1, mq_cl_s]
      dsimp only [mq_nS]
      rw [a2, mq_cl_s]
      try dsimp only
      rw [a3, mq_cl_s]
      try dsimp only
      rw [a4, mq_cl_s]
      try dsimp only
      rw [a5, mq_cl_s, ← c5]
      rfl
    · unfold zf_X11_feed
      dsimp only [mq_nS]
      show (if SR.1 1 + 20 ≤ 4000 then _ else _) = _
      rw [hr, if_pos (hcond.mpr ht), b1, mq_cl_s, b2, mq_cl_s, b3, mq_cl_s, b4, mq_cl_s, b5, mq_cl_s, d5]
    · have m : ∀ {S S' : mq_St}, ag [1] [0] [] S S' → ag [0, 1] [0] [] S S' := fun h => ag_mono h (by decide) (by decide) (by decide)
      exact ag_tr (ag_tr (ag_tr (ag_tr (ag_tr (ag_si (by decide)) (m f1)) (m f2)) (m f3)) (m f4)) (m f5)
  · refine ⟨-1, SC, mq_si SR 0 0, ?_, ?_, ⟨t, h4, hc, hr, hb⟩, ag_rf, ag_si (by decide)⟩
    · unfold zf_X10_feed
      rw [show zf_X0_size N z (mq_pull SC [0] [2] []) = some (SC.1 0) from rfl, mq_cp_s, hc]
      rw [if_neg (fun q => ht (hcond.mp q))]
    · unfold zf_X11_feed
      dsimp only [mq_nS]
      show (if SR.1 1 + 20 ≤ 4000 then _ else _) = _
      rw [hr, if_neg (fun q => ht (hcond.mp q))]
theorem rf_in {N : Nat} {z : Nat → Nat} {S : mq_St} (v a b : Int32) : zf_X11_in N z v a b S = some (if v < a ∨ b < v then 0 else 1) := by
  unfold zf_X11_in
  rw [mq_cz_0, mq_cz_1]
  by_cases h1 : v < a
  · rw [if_pos h1, if_pos (Or.inl h1)]
  · rw [if_neg h1]
    by_cases h2 : b < v
    · rw [if_pos h2, if_pos (Or.inr h2)]
    · rw [if_neg h2, if_neg (fun q => q.elim h1 h2)]
theorem by_keep {N : Nat} {z : Nat → Nat} {S : mq_St} (v : Int32) : zf_X0_keep N z v S = if v < 0 ∨ S.1 0 < v then some (0, S) else some (1, mq_si S 0 v) := by
  unfold zf_X0_keep
  dsimp only [mq_nS]
  rw [mq_cz_0, mq_cz_1]
  by_cases h1 : v < 0
  · rw [if_pos h1, if_pos (Or.inl h1)]
  · rw [if_neg h1]
    by_cases h2 : S.1 0 < v
    · rw [if_neg (Int32.not_le.mpr h2), if_pos (Or.inr h2)]
    · rw [if_pos (Int32.not_lt.mp h2), if_neg (fun q => q.elim h1 h2)]
theorem st_end {N : Nat} {z : Nat → Nat} {SC SR : mq_St} (v : Int32) (h : iv_tape (SC.1 0) (SC.2.1 2) (SR.1 1) (SR.2.1 0)) :
    ∃ r SC' SR', zf_X10_end N z v SC = some (r, SC') ∧ zf_X11_end N z v SR = some (r, SR') ∧ iv_tape (SC'.1 0) (SC'.2.1 2) (SR'.1 1) (SR'.2.1 0) ∧ ag [0] [2] [] SC SC' ∧ ag [0, 1] [0] [] SR SR' := by
  obtain ⟨t, h4, hc, hr, hb⟩ := h
  unfold zf_X10_end zf_X11_end
  dsimp only [mq_nS]
  rw [by_keep, rf_in]
  have ec : (mq_pull SC [0] [2] []).1 0 = nI t := hc
  have er : (mq_si SR 0 0).1 1 = nI t := hr
  rw [ec, er]
  by_cases hv : v < 0 ∨ nI t < v
  · rw [if_pos hv, if_pos hv]
    exact ⟨-1, _, _, rfl, rfl, ⟨t, h4, hc, hr, hb⟩, ag_push, ag_si (by decide)⟩
  · rw [if_neg hv, if_neg hv]
    obtain ⟨j, hj, rfl⟩ : ∃ j : Nat, j ≤ t ∧ v = nI j := by
      have h1 : ¬ v < 0 := fun q => hv (Or.inl q)
      have h2 : v ≤ nI t := Int32.not_lt.mp (fun q => hv (Or.inr q))
      exact nI_of2 (nI_toInt (by omega)) h1 h2
    refine ⟨nI j, _, _, rfl, rfl, ⟨j, by omega, rfl, rfl, fun i hi => hb i (by omega)⟩, ag_push, ag_tr (ag_si (by decide)) (ag_si (by decide))⟩
theorem st_alter {N : Nat} {z : Nat → Nat} {SC SR : mq_St} (i v : Int32) (h : iv_tape (SC.1 0) (SC.2.1 2) (SR.1 1) (SR.2.1 0)) :
    ∃ r SC' SR', zf_X10_alter N z i v SC = some (r, SC') ∧ zf_X11_alter N z i v SR = some (r, SR') ∧ iv_tape (SC'.1 0) (SC'.2.1 2) (SR'.1 1) (SR'.2.1 0) ∧ ag [0] [2] [] SC SC' ∧ ag [0, 1] [0] [] SR SR' := by
  obtain ⟨t, h4, hc, hr, hb⟩ := h
  have hlast : ∀ w : Int32, (w < 0 ∨ nI t - 1 < w) ↔ (w < 0 ∨ nI t ≤ w) := by
    intro w
    have e : (nI t - 1).toInt = (t : Int) - 1 := pk_sub_toInt (a := t) (b := 1) (by omega) (by omega)
    rw [Int32.lt_iff_toInt_lt (x := nI t - 1), Int32.le_iff_toInt_le (x := nI t), e, nI_toInt (by omega)]
    constructor
    · rintro (q | q)
      · exact Or.inl q
      · exact Or.inr (by omega)
    · rintro (q | q)
      · exact Or.inl q
      · exact Or.inr (by omega)
  unfold zf_X10_alter zf_X11_alter
  by_cases hv : i < 0 ∨ nI t ≤ i
  · rw [by_zput_out (S := mq_pull SC [0] [2] []) i v hc hv]
    refine ⟨0, mq_push SC (mq_pull SC [0] [2] []) [0] [2] [], mq_si SR 0 0, ?_, ?_, ⟨t, h4, hc, hr, hb⟩, ag_push, ag_si (by decide)⟩
    · rw [mq_cl_s]
      dsimp only [mq_nS]
      rw [mq_cz_0]
    · dsimp only [mq_nS]
      rw [rf_in]
      have er : (mq_si SR 0 0).1 1 = nI t := hr
      rw [er, if_pos ((hlast i).mpr hv), mq_cp_s, if_pos rfl, mq_cz_0]
  · obtain ⟨j, hj, rfl⟩ : ∃ j : Nat, j < t ∧ i = nI j := by
      rcases pk_ix i (n := t) (by omega) with q | q | q
      · exact absurd (Or.inl q) hv
      · exact absurd (Or.inr q) hv
      · exact q
    rw [by_zput (S := mq_pull SC [0] [2] []) v hc h4 hj]
    refine ⟨1, mq_push SC (mq_sa (mq_pull SC [0] [2] []) 0 (by_put (SC.2.1 2) j v)) [0] [2] [], mq_sa (mq_si SR 0 0) 0 (upd (SR.2.1 0) j v.toInt8.toInt32), ?_, ?_, ⟨t, h4, hc, hr, fun k hk => ?_⟩, ag_push, ag_tr (ag_si (by decide)) (ag_sa (by decide))⟩
    · rw [mq_cl_s]
      dsimp only [mq_nS]
      rw [mq_cz_1]
      rfl
    · dsimp only [mq_nS]
      rw [rf_in]
      have er : (mq_si SR 0 0).1 1 = nI t := hr
      rw [er, if_neg (fun q => hv ((hlast _).mp q)), mq_cp_s, if_neg (by decide), mq_ck_of (vp_in_nI (by omega) (by omega)), nI_clamp (by omega), vp_nar_byte, show v.toInt8.toInt32.toInt8.toInt32 = v.toInt8.toInt32 from by rw [Int8.toInt8_toInt32], mq_cz_1]
      rfl
    · show by_at (by_put (SC.2.1 2) j v) k = (upd (SR.2.1 0) j v.toInt8.toInt32) k &&& 255
      rw [by_put_at]
      unfold upd
      by_cases e : k = j
      · rw [if_pos e, if_pos e, bp_b]
      · rw [if_neg e, if_neg e]
        exact hb k hk
theorem st_out {N : Nat} {z : Nat → Nat} {SC SR : mq_St} (i : Int32) (h : iv_tape (SC.1 1) (SC.2.1 3) (SR.1 2) (SR.2.1 1)) :
    ∃ r SR', zf_X10_out N z i SC = some r ∧ zf_X11_out N z i SR = some (r, SR') ∧ ag [0] [] [] SR SR' := by
  obtain ⟨t, h4, hc, hr, hb⟩ := h
  unfold zf_X10_out zf_X11_out
  dsimp only [mq_nS]
  rw [rf_in]
  have er : (mq_si SR 0 0).1 2 = nI t := hr
  rw [er]
  have e : (nI t - 1).toInt = (t : Int) - 1 := pk_sub_toInt (a := t) (b := 1) (by omega) (by omega)
  by_cases hv : i < 0 ∨ nI t ≤ i
  · rw [by_zat_out (S := mq_pull SC [1] [3] []) i hc h4 hv]
    have h2 : i < 0 ∨ nI t - 1 < i := by
      rcases hv with q | q
      · exact Or.inl q
      · rw [Int32.le_iff_toInt_le, nI_toInt (by omega)] at q
        exact Or.inr (by rw [Int32.lt_iff_toInt_lt, e]; omega)
    rw [if_pos h2]
    exact ⟨-1, _, rfl, rfl, ag_si (by decide)⟩
  · obtain ⟨j, hj, rfl⟩ : ∃ j : Nat, j < t ∧ i = nI j := by
      rcases pk_ix i (n := t) (by omega) with q | q | q
      · exact absurd (Or.inl q) hv
      · exact absurd (Or.inr q) hv
      · exact q
    rw [by_zat (S := mq_pull SC [1] [3] []) hc h4 hj]
    have h2 : ¬ (nI j < 0 ∨ nI t - 1 < nI j) := by
      rintro (q | q)
      · exact nI_pos (by omega) q
      · rw [Int32.lt_iff_toInt_lt, e, nI_toInt (by omega)] at q
        omega
    rw [if_neg h2]
    refine ⟨by_at (SC.2.1 3) j, mq_si SR 0 0, rfl, ?_, ag_si (by decide)⟩
    rw [mq_cp_s, if_neg (by decide), mq_ck_of (vp_in_nI (by omega) (by omega)), nI_clamp (by omega), hb j hj]
    rfl
/-- the words up to those that hold t bytes are copied -/
theorem by_copy {N : Nat} {z : Nat → Nat} {t : Nat} (h4 : t ≤ 4000) : ∀ (n k : Nat) (S : mq_St), S.1 0 = nI t → k ≤ 1000 → 1000 - k < n → (∀ j, j < k → S.2.1 0 j = S.2.1 1 j) → ∃ S', zf_X0_copy_10 N z n (nI k) S = some ((), S') ∧ S'.1 = S.1 ∧ S'.2.1 1 = S.2.1 1 ∧ ∀ j, 4 * j < t → S'.2.1 0 j = S.2.1 1 j := by
  intro n
  induction n with
  | zero => intro k S _ _ h; omega
  | succ n ih =>
    intro k S hs hk hn hj
    show ∃ S', zf_X0_copy_10b N z _ (nI k) S = some ((), S') ∧ _
    unfold zf_X0_copy_10b
    have e4 : (4 : Int32) * nI k = nI (4 * k) := pk_mul 4 k
    rw [hs, e4]
    by_cases h1 : t ≤ 4 * k
    · rw [if_pos ((nI_leI (by omega) (by omega)).mpr h1)]
      exact ⟨S, rfl, rfl, rfl, fun j q => hj j (by omega)⟩
    · rw [if_neg (fun q => h1 ((nI_leI (by omega) (by omega)).mp q))]
      have h2 : k < 1000 := by omega
      have e1000 : ¬ (1000 : Int32) ≤ nI k := nI_ge (a := k) (b := 1000) h2 (by omega)
      rw [if_neg e1000, mq_ck_of (vp_in_nI h2 (by omega)), mq_ck_of (vp_in_nI h2 (by omega)), nI_clamp (by omega)]
      dsimp only [mq_nS, mq_nI]
      rw [nI_1]
      obtain ⟨S', a1, a2, a3, a4⟩ := ih (k + 1) (mq_sa S 0 (upd (S.2.1 0) k (S.2.1 1 k))) hs (by omega) (by omega) (fun j q => by
        show (upd (S.2.1 0) k (S.2.1 1 k)) j = S.2.1 1 j
        unfold upd
        by_cases e : j = k
        · rw [if_pos e, e]
        · rw [if_neg e]
          exact hj j (by omega))
      exact ⟨S', a1, a2, a3, a4⟩
theorem rf_take {N : Nat} {z : Nat → Nat} {t : Nat} (h4 : t ≤ 4000) : ∀ (n k : Nat) (S : mq_St), S.1 2 = nI t → k ≤ t → t - k < n → (∀ j, j < k → S.2.1 0 j &&& 255 = S.2.1 1 j &&& 255) → ∃ S', zf_X11_take_7 N z n (nI k) S = some (nI t, S') ∧ S'.1 1 = nI t ∧ (∀ j, j < t → S'.2.1 0 j &&& 255 = S.2.1 1 j &&& 255) ∧ ag [1] [0] [] S S' := by
  intro n
  induction n with
  | zero => intro k S _ _ h; omega
  | succ n ih =>
    intro k S hs hk hn hj
    show ∃ S', zf_X11_take_7b N z _ (nI k) S = some (nI t, S') ∧ _
    unfold zf_X11_take_7b
    rw [hs]
    by_cases h1 : t ≤ k
    · rw [if_pos ((nI_leI (by omega) (by omega)).mpr h1)]
      exact ⟨mq_si S 1 (nI t), rfl, rfl, fun j q => hj j (by omega), ag_si (by decide)⟩
    · rw [if_neg (fun q => h1 ((nI_leI (by omega) (by omega)).mp q)), mq_ck_of (vp_in_nI (by omega) (by omega)), mq_ck_of (vp_in_nI (by omega) (by omega)), nI_clamp (by omega)]
      dsimp only [mq_nS, mq_nI]
      rw [nI_1]
      obtain ⟨S', a1, a2, a3, a4⟩ := ih (k + 1) (mq_sa S 0 (upd (S.2.1 0) k (vp_nar .byte (S.2.1 1 k)))) hs (by omega) (by omega) (fun j q => by
        show (upd (S.2.1 0) k (vp_nar .byte (S.2.1 1 k))) j &&& 255 = S.2.1 1 j &&& 255
        unfold upd
        by_cases e : j = k
        · rw [if_pos e, e, vp_nar_byte, bp_b]
        · rw [if_neg e]
          exact hj j (by omega))
      exact ⟨S', a1, a2, a3, ag_tr (ag_sa (by decide)) a4⟩
theorem st_take {N : Nat} {z : Nat → Nat} {SC SR : mq_St} (hN : 5000 ≤ N) (h : iv_tape (SC.1 1) (SC.2.1 3) (SR.1 2) (SR.2.1 1)) :
    ∃ r SC' SR', zf_X10_take N z SC = some (r, SC') ∧ zf_X11_take N z SR = some (r, SR') ∧ iv_tape (SC'.1 0) (SC'.2.1 2) (SR'.1 1) (SR'.2.1 0) ∧ iv_tape (SC'.1 1) (SC'.2.1 3) (SR'.1 2) (SR'.2.1 1) ∧ ag [0, 1] [2, 3] [] SC SC' ∧ ag [0, 1] [0] [] SR SR' := by
  obtain ⟨t, h4, hc, hr, hb⟩ := h
  obtain ⟨X, a1, a2, a3, a4⟩ := by_copy (N := N) (z := z) h4 N 0 (mq_si (mq_pull SC [0, 1] [2, 3] []) 0 (nI t)) rfl (by omega) (by omega) (fun j q => by omega)
  obtain ⟨SR', b1, b2, b3, b4⟩ := rf_take (N := N) (z := z) h4 N 0 (mq_si SR 0 0) hr (by omega) (by omega) (fun j q => by omega)
  have e0 : X.1 0 = nI t := by rw [a2]; rfl
  have e1 : X.1 1 = nI t := by rw [a2]; exact hc
  have e3 : X.2.1 1 = SC.2.1 3 := a3
  refine ⟨nI t, mq_push SC X [0, 1] [2, 3] [], SR', ?_, ?_, ⟨t, h4, e0, b2, fun i hi => ?_⟩, ⟨t, h4, e1, (b4.1 2 (by decide)).trans hr, fun i hi => ?_⟩, ag_push, ?_⟩
  · unfold zf_X10_take zf_X0_copy
    dsimp only [mq_nS, mq_nI]
    rw [show (mq_pull SC [0, 1] [2, 3] []).1 1 = nI t from hc, show (0 : Int32) = nI 0 from rfl, a1, ← e0]
    rfl
  · unfold zf_X11_take
    dsimp only [mq_nS, mq_nI]
    rw [show (0 : Int32) = nI 0 from rfl]
    exact b1
  · show by_at (X.2.1 0) i = SR'.2.1 0 i &&& 255
    rw [b3 i hi]
    unfold by_at
    rw [a4 (i / 4) (by omega)]
    exact hb i hi
  · show by_at (X.2.1 1) i = SR'.2.1 1 i &&& 255
    rw [e3, b4.2.1 1 (by decide)]
    exact hb i hi
  · exact ag_tr (ag_si (by decide)) (ag_mono b4 (by decide) (by decide) (by decide))
