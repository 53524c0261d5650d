/-! formulas, formula, slot, fault, count, worlds: reads of fields. -/
/-- the FORMULAS on both sides: c2, so, on, tw the class's, r3, rs, ro, rt the reference's -/
def iv_same (c2 : Int32) (so on tw : Nat → Int32) (r3 : Int32) (rs ro rt : Nat → Int32) : Prop := ∃ n : Nat, 2 ≤ n ∧ n ≤ 300 ∧ c2 = nI n ∧ r3 = nI n ∧ ∀ f, f < n → so f = rs f ∧ on f = ro f ∧ tw f = rt f
def iv_slots (ys no ry rn : Nat → Int32) : Prop := ∀ s, s < 8 → ys s = ry s ∧ no s = rn s
theorem mq_lst (t : Nat) (h : t ≤ 4000) (w : Int32) : (w < 0 ∨ nI t - 1 < w) ↔ (w < 0 ∨ nI t ≤ w) := by
  have e : (nI t - 1).toInt = (t : Int) - 1 := pk_sub_toInt (a := t) (b := 1) (by omega) (by omega)
  rw [Int32.lt_iff_toInt_lt (x := nI t - 1), Int32.le_iff_toInt_le (x := nI t), e, nI_toInt (by omega)]
  constructor
  · rintro (q | q)
    · exact Or.inl q
    · exact Or.inr (by omega)
  · rintro (q | q)
    · exact Or.inl q
    · exact Or.inr (by omega)
/-- a place in a row of t, or none -/
theorem mq_place (w : Int32) {t : Nat} (h : t ≤ 4000) : (w < 0 ∨ nI t ≤ w) ∨ ∃ j : Nat, j < t ∧ w = nI j ∧ ¬ (w < 0 ∨ nI t ≤ w) := by
  by_cases hv : w < 0 ∨ nI t ≤ w
  · exact Or.inl hv
  · rcases pk_ix w (n := t) (by omega) with q | q | ⟨j, hj, e⟩
    · exact absurd (Or.inl q) hv
    · exact absurd (Or.inr q) hv
    · exact Or.inr ⟨j, hj, e, hv⟩
theorem ck_has {N : Nat} {z : Nat → Nat} {S : mq_St} (v : Int32) : zf_X7_has N z v S = some (if v < 0 ∨ S.1 2 ≤ v then 0 else 1) := by
  unfold zf_X7_has
  rw [mq_cz_0, mq_cz_1]
  by_cases h1 : v < 0
  · rw [if_pos h1, if_pos (Or.inl h1)]
  · rw [if_neg h1]
    by_cases h2 : S.1 2 ≤ v
    · rw [if_pos h2, if_pos (Or.inr h2)]
    · rw [if_neg h2, if_neg (fun q => q.elim h1 h2)]
theorem ck_isSlot {N : Nat} {z : Nat → Nat} {S : mq_St} (v : Int32) : zf_X10_isSlot N z v S = some (if v < 0 ∨ 8 ≤ v then 0 else 1) := by
  unfold zf_X10_isSlot
  rw [mq_cz_0, mq_cz_1]
  by_cases h1 : v < 0
  · rw [if_pos h1, if_pos (Or.inl h1)]
  · rw [if_neg h1]
    by_cases h2 : 8 ≤ v
    · rw [if_pos h2, if_pos (Or.inr h2)]
    · rw [if_neg h2, if_neg (fun q => q.elim h1 h2)]
theorem ck_out {N : Nat} {z : Nat → Nat} {S : mq_St} {n : Nat} {v : Int32} (hn : S.1 2 = nI n) (hv : v < 0 ∨ nI n ≤ v) : zf_X7_sortOf N z v S = some (-1) ∧ zf_X7_firstOf N z v S = some (-1) ∧ zf_X7_secondOf N z v S = some (-1) ∧ zf_X7_denialOf N z v S = some (-1) := by
  refine ⟨?_, ?_, ?_, ?_⟩
  · unfold zf_X7_sortOf
    rw [ck_has, hn, if_pos hv, mq_cp_s, if_pos rfl]
  · unfold zf_X7_firstOf
    rw [ck_has, hn, if_pos hv, mq_cp_s, if_pos rfl]
  · unfold zf_X7_secondOf
    rw [ck_has, hn, if_pos hv, mq_cp_s, if_pos rfl]
  · unfold zf_X7_denialOf
    rw [ck_has, hn, if_pos hv, mq_cp_s, if_pos rfl]
theorem ck_in {N : Nat} {z : Nat → Nat} {S : mq_St} {n f : Nat} (hn : S.1 2 = nI n) (h3 : n ≤ 300) (hf : f < n) : zf_X7_sortOf N z (nI f) S = some (S.2.1 4 f) ∧ zf_X7_firstOf N z (nI f) S = some (S.2.1 5 f) ∧ zf_X7_secondOf N z (nI f) S = some (S.2.1 6 f) ∧ zf_X7_denialOf N z (nI f) S = some (S.2.1 7 f) := by
  have hv : ¬ (nI f < 0 ∨ nI n ≤ nI f) := by
    rintro (q | q)
    · exact nI_pos (by omega) q
    · exact nI_ge hf (by omega) q
  have h1 : ¬ (1 : Int32) = 0 := by decide
  refine ⟨?_, ?_, ?_, ?_⟩
  · unfold zf_X7_sortOf
    rw [ck_has, hn, if_neg hv, mq_cp_s, if_neg h1, mq_ck_of (vp_in_nI (by omega) (by omega)), nI_clamp (by omega)]
  · unfold zf_X7_firstOf
    rw [ck_has, hn, if_neg hv, mq_cp_s, if_neg h1, mq_ck_of (vp_in_nI (by omega) (by omega)), nI_clamp (by omega)]
  · unfold zf_X7_secondOf
    rw [ck_has, hn, if_neg hv, mq_cp_s, if_neg h1, mq_ck_of (vp_in_nI (by omega) (by omega)), nI_clamp (by omega)]
  · unfold zf_X7_denialOf
    rw [ck_has, hn, if_neg hv, mq_cp_s, if_neg h1, mq_ck_of (vp_in_nI (by omega) (by omega)), nI_clamp (by omega)]
theorem rf_isF {N : Nat} {z : Nat → Nat} {S : mq_St} {n : Nat} (v : Int32) (hn : S.1 3 = nI n) (h3 : n ≤ 300) : zf_X11_isFormula N z v S = some (if v < 0 ∨ nI n ≤ v then 0 else 1) := by
  unfold zf_X11_isFormula
  rw [rf_in, hn]
  by_cases h : v < 0 ∨ nI n ≤ v
  · rw [if_pos h, if_pos ((mq_lst n (by omega) v).mpr h), mq_cp_s, mq_cz_0]
  · rw [if_neg h, if_neg (fun q => h ((mq_lst n (by omega) v).mp q)), mq_cp_s, mq_cz_1]
theorem st_formulas {N : Nat} {z : Nat → Nat} {SC SR : mq_St} (h : iv_same (SC.1 2) (SC.2.1 4) (SC.2.1 5) (SC.2.1 6) (SR.1 3) (SR.2.1 2) (SR.2.1 3) (SR.2.1 4)) :
    ∃ r SR', zf_X10_formulas N z SC = some r ∧ zf_X11_formulas N z SR = some (r, SR') ∧ ag [0] [] [] SR SR' := by
  obtain ⟨n, h2, h3, hc, hr, hs⟩ := h
  refine ⟨nI n, mq_si SR 0 0, ?_, ?_, ag_si (by decide)⟩
  · unfold zf_X10_formulas zf_X7_size
    rw [mq_cp_s, hc]
  · unfold zf_X11_formulas
    dsimp only [mq_nS]
    rw [show (mq_si SR 0 0).1 3 = nI n from hr]
theorem st_formula {N : Nat} {z : Nat → Nat} {SC SR : mq_St} (v w : Int32) (h : iv_same (SC.1 2) (SC.2.1 4) (SC.2.1 5) (SC.2.1 6) (SR.1 3) (SR.2.1 2) (SR.2.1 3) (SR.2.1 4)) :
    ∃ r SR', zf_X10_formula N z v w SC = some r ∧ zf_X11_formula N z v w SR = some (r, SR') ∧ ag [0] [] [] SR SR' := by
  obtain ⟨n, h2, h3, hc, hr, hs⟩ := h
  unfold zf_X10_formula zf_X11_formula
  dsimp only [mq_nS]
  rw [rf_isF (S := mq_si SR 0 0) v hr h3]
  rcases mq_place v (t := n) (by omega) with hv | ⟨f, hf, rfl, hv⟩
  · obtain ⟨e1, e2, e3, -⟩ := ck_out (N := N) (z := z) hc hv
    rw [if_pos hv, mq_cp_s, if_pos rfl, e1, e2, e3]
    simp only [mq_cp_s]
    refine ⟨-1, mq_si SR 0 0, ?_, rfl, ag_si (by decide)⟩
    by_cases a : w = 0
    · rw [if_pos a]
    · rw [if_neg a]
      by_cases b : w = 1
      · rw [if_pos b]
      · rw [if_neg b]
        by_cases c : w = 2
        · rw [if_pos c]
        · rw [if_neg c]
  · obtain ⟨e1, e2, e3, -⟩ := ck_in (N := N) (z := z) hc h3 hf
    obtain ⟨s1, s2, s3⟩ := hs f hf
    have hin : vp_in (nI f) 300 := vp_in_nI (by omega) (by omega)
    have h10 : ¬ (1 : Int32) = 0 := by decide
    rw [if_neg hv, mq_cp_s, if_neg h10, e1, e2, e3]
    simp only [mq_cp_s, mq_ck_of hin]
    rw [nI_clamp (by omega)]
    have s1 : SC.2.1 4 f = (mq_si SR 0 0).2.1 2 f := s1
    have s2 : SC.2.1 5 f = (mq_si SR 0 0).2.1 3 f := s2
    have s3 : SC.2.1 6 f = (mq_si SR 0 0).2.1 4 f := s3
    rw [s1, s2, s3]
    by_cases a : w = 0
    · rw [if_pos a, if_pos a]
      exact ⟨_, mq_si SR 0 0, rfl, rfl, ag_si (by decide)⟩
    · rw [if_neg a, if_neg a]
      by_cases b : w = 1
      · rw [if_pos b, if_pos b]
        exact ⟨_, mq_si SR 0 0, rfl, rfl, ag_si (by decide)⟩
      · rw [if_neg b, if_neg b]
        by_cases c : w = 2
        · rw [if_pos c, if_pos c]
          exact ⟨_, mq_si SR 0 0, rfl, rfl, ag_si (by decide)⟩
        · rw [if_neg c, if_neg c]
          exact ⟨_, mq_si SR 0 0, rfl, rfl, ag_si (by decide)⟩
theorem st_slot {N : Nat} {z : Nat → Nat} {SC SR : mq_St} (v w : Int32) (h : iv_slots (SC.2.1 0) (SC.2.1 1) (SR.2.1 5) (SR.2.1 6)) :
    ∃ r SR', zf_X10_slot N z v w SC = some r ∧ zf_X11_slot N z v w SR = some (r, SR') ∧ ag [0] [] [] SR SR' := by
  unfold zf_X10_slot zf_X11_slot
  dsimp only [mq_nS]
  rw [ck_isSlot, rf_in]
  have e7 : (7 : Int32) = nI 8 - 1 := by decide
  have e8 : (8 : Int32) = nI 8 := rfl
  rw [e7, e8]
  rcases mq_place v (t := 8) (by omega) with hv | ⟨s, hs, rfl, hv⟩
  · rw [if_pos hv, if_pos ((mq_lst 8 (by omega) v).mpr hv), mq_cp_s, mq_cp_s, if_pos rfl, if_pos rfl]
    exact ⟨-1, mq_si SR 0 0, rfl, rfl, ag_si (by decide)⟩
  · obtain ⟨a1, a2⟩ := h s hs
    have hin : vp_in (nI s) 8 := vp_in_nI (by omega) (by omega)
    have h10 : ¬ (1 : Int32) = 0 := by decide
    rw [if_neg hv, if_neg (fun q => hv ((mq_lst 8 (by omega) _).mp q)), mq_cp_s, mq_cp_s, if_neg h10, if_neg h10]
    simp only [mq_ck_of hin]
    rw [nI_clamp (by omega)]
    have a1 : SC.2.1 0 s = (mq_si SR 0 0).2.1 5 s := a1
    have a2 : SC.2.1 1 s = (mq_si SR 0 0).2.1 6 s := a2
    rw [a1, a2]
    by_cases a : w = 0
    · rw [if_pos a, if_pos a]
      exact ⟨_, mq_si SR 0 0, rfl, rfl, ag_si (by decide)⟩
    · rw [if_neg a, if_neg a]
      by_cases b : w = 1
      · rw [if_pos b, if_pos b]
        exact ⟨_, mq_si SR 0 0, rfl, rfl, ag_si (by decide)⟩
      · rw [if_neg b, if_neg b]
        exact ⟨_, mq_si SR 0 0, rfl, rfl, ag_si (by decide)⟩
theorem st_fault {N : Nat} {z : Nat → Nat} {SC SR : mq_St} (v : Int32) (h : SC.1 11 = SR.1 4 ∧ SC.1 12 = SR.1 5) :
    ∃ r SR', zf_X10_fault N z v SC = some r ∧ zf_X11_fault N z v SR = some (r, SR') ∧ ag [0] [] [] SR SR' := by
  unfold zf_X10_fault zf_X11_fault zf_X5_faultFound zf_X5_placeOfFault
  dsimp only [mq_nS]
  rw [mq_cp_s, mq_cp_s, h.1, h.2]
  by_cases a : v = 0
  · rw [if_pos a, if_pos a]
    exact ⟨_, mq_si SR 0 0, rfl, rfl, ag_si (by decide)⟩
  · rw [if_neg a, if_neg a]
    by_cases b : v = 1
    · rw [if_pos b, if_pos b]
      exact ⟨_, mq_si SR 0 0, rfl, rfl, ag_si (by decide)⟩
    · rw [if_neg b, if_neg b]
      exact ⟨_, mq_si SR 0 0, rfl, rfl, ag_si (by decide)⟩
theorem st_count {N : Nat} {z : Nat → Nat} {SC SR : mq_St} (v : Int32) (h : SC.2.1 21 0 = SR.1 19 ∧ SC.2.1 21 1 = SR.1 20 ∧ SC.2.1 21 2 = SR.1 21 ∧ SC.2.1 21 3 = SR.1 22) :
    ∃ r SR', zf_X10_count N z v SC = some r ∧ zf_X11_count N z v SR = some (r, SR') ∧ ag [0] [] [] SR SR' := by
  unfold zf_X10_count zf_X11_count zf_X8_countOf
  dsimp only [mq_nS]
  rcases mq_place v (t := 4) (by omega) with hv | ⟨j, hj, rfl, hv⟩
  · have n0 : ¬ v = 0 := fun q => by rw [q] at hv; revert hv; decide
    have n1 : ¬ v = 1 := fun q => by rw [q] at hv; revert hv; decide
    have n2 : ¬ v = 2 := fun q => by rw [q] at hv; revert hv; decide
    have n3 : ¬ v = 3 := fun q => by rw [q] at hv; revert hv; decide
    rw [if_neg n0, if_neg n1, if_neg n2, if_neg n3]
    refine ⟨-1, mq_si SR 0 0, ?_, rfl, ag_si (by decide)⟩
    by_cases q : v < 0
    · rw [if_pos q, mq_cp_s]
    · have q2 : (4 : Int32) ≤ v := hv.resolve_left q
      rw [if_neg q, if_pos q2, mq_cp_s]
  · have q1 : ¬ nI j < 0 := fun q => hv (Or.inl q)
    have q2 : ¬ (4 : Int32) ≤ nI j := fun q => hv (Or.inr q)
    rw [if_neg q1, if_neg q2, mq_ck_of (vp_in_nI hj (by omega)), mq_cp_s, nI_clamp (by omega)]
    have hj4 : j = 0 ∨ j = 1 ∨ j = 2 ∨ j = 3 := by omega
    rcases hj4 with rfl | rfl | rfl | rfl
    · rw [if_pos (by decide : nI 0 = 0)]
      exact ⟨SR.1 19, mq_si SR 0 0, by rw [h.1], rfl, ag_si (by decide)⟩
    · rw [if_neg (by decide : ¬ nI 1 = 0), if_pos (by decide : nI 1 = 1)]
      exact ⟨SR.1 20, mq_si SR 0 0, by rw [h.2.1], rfl, ag_si (by decide)⟩
    · rw [if_neg (by decide : ¬ nI 2 = 0), if_neg (by decide : ¬ nI 2 = 1), if_pos (by decide : nI 2 = 2)]
      exact ⟨SR.1 21, mq_si SR 0 0, by rw [h.2.2.1], rfl, ag_si (by decide)⟩
    · rw [if_neg (by decide : ¬ nI 3 = 0), if_neg (by decide : ¬ nI 3 = 1), if_neg (by decide : ¬ nI 3 = 2), if_pos (by decide : nI 3 = 3)]
      exact ⟨SR.1 22, mq_si SR 0 0, by rw [h.2.2.2], rfl, ag_si (by decide)⟩
theorem st_worlds {N : Nat} {z : Nat → Nat} {SC SR : mq_St} : ∃ SR', zf_X10_worlds N z SC = some (SC.1 23) ∧ zf_X11_worlds N z SR = some (SR.1 31, SR') ∧ ag [0] [] [] SR SR' := ⟨mq_si SR 0 0, rfl, rfl, ag_si (by decide)⟩
