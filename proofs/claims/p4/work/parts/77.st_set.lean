/-! set. -/
/-- FORMULAS and slots on both sides; n of them, d the denials -/
def iv_fs (n : Nat) (d : Nat → Nat) (c2 : Int32) (so on tw de ys no : Nat → Int32) (r3 : Int32) (rs ro rt ry rn : Nat → Int32) : Prop := c2 = nI n ∧ r3 = nI n ∧ fw n rs ro rt d ∧ (∀ f, f < n → so f = rs f ∧ on f = ro f ∧ tw f = rt f ∧ de f = nI (d f)) ∧ ∀ s, s < 8 → ys s = ry s ∧ no s = rn s ∧ ((ys s = -1 ∧ no s = -1) ∨ ∃ f, f < n ∧ ys s = nI f ∧ no s = nI (d f))
theorem uc_le (t : Nat → Int32) : ∀ n : Nat, uc t n ≤ n
  | 0 => Nat.le_refl _
  | n + 1 => by
    show uc t n + (if t n = -1 then 1 else 0) ≤ n + 1
    have := uc_le t n
    by_cases h : t n = -1
    · rw [if_pos h]; omega
    · rw [if_neg h]; omega
theorem rs_clear {N : Nat} {z : Nat → Nat} {v1 v2 : Int32} : ∀ (fuel k : Nat) (S : mq_St), k ≤ 300 → 300 - k < fuel → (∀ g, g < k → S.2.1 15 g = -1) → ∃ (S' : mq_St) (q : Nat), zf_X11_set_27 N z fuel v1 v2 (nI k) S = zf_X11_set_27 N z (q + 1) v1 v2 (nI 300) S' ∧ (∀ g, g < 300 → S'.2.1 15 g = -1) ∧ ag [] [15] [] S S' := by
  intro fuel
  induction fuel with
  | zero => intro k S _ h; omega
  | succ fuel ih =>
    intro k S hk hf hT
    by_cases e : k = 300
    · subst e
      exact ⟨S, fuel, rfl, hT, ag_rf⟩
    · have hin : vp_in (nI k) 300 := vp_in_nI (by omega) (by omega)
      have ecl : (nI k).toNatClampNeg = k := nI_clamp (by omega)
      have e300 : ¬ (300 : Int32) ≤ nI k := nI_ge (a := k) (b := 300) (by omega) (by omega)
      obtain ⟨S', q, a1, a2, a3⟩ := ih (k + 1) (mq_sa S 15 (upd (S.2.1 15) k (-1))) (by omega) (by omega) (fun g hg => by
        show upd (S.2.1 15) k (-1) g = -1
        unfold upd
        by_cases c : g = k
        · rw [if_pos c]
        · rw [if_neg c]
          exact hT g (by omega))
      refine ⟨S', q, ?_, a2, ag_tr (ag_sa (by decide)) a3⟩
      rw [← a1]
      show zf_X11_set_27b N z _ v1 v2 (nI k) S = _
      unfold zf_X11_set_27b
      rw [if_neg e300]
      simp only [mq_ck_of hin, ecl, mq_nS, mq_nI, nI_1]
theorem rf_turn {N n f : Nat} {z : Nat → Nat} {S : mq_St} {d : Nat → Nat} (hN : 2000 ≤ N) (hn : S.1 3 = nI n) (hw : fw n (S.2.1 2) (S.2.1 3) (S.2.1 4) d) (hf : f < n) (hT : ∀ g, g < n → S.2.1 15 g = -1) : ∃ S', zf_X11_turn N z (nI f) S = some (nI (d f), S') ∧ ag [] [14, 15] [] S S' := by
  have h3 := hw.2.1
  have i0 : vp_in 0 3000 := vp_in_nI (n := 0) (N := 3000) (by omega) (by omega)
  have c0 : (0 : Int32).toNatClampNeg = 0 := nI_clamp (n := 0) (by omega)
  have i1 : vp_in (nI f) 300 := vp_in_nI (by omega) (by omega)
  have c1 : (nI f).toNatClampNeg = f := nI_clamp (by omega)
  obtain ⟨S', fu, q1, q2, q3, q4, q5, q6, q7, q8⟩ := rt_all (N := N) (z := z) (v1 := nI f) (by omega) f hf (mq_sa S 14 (upd (S.2.1 14) 0 (nI f))) 0 N hn hw (fun g hg => Or.inl (hT g hg)) (hT f hf) (by
    show upd (S.2.1 14) 0 (nI f) 0 = _
    unfold upd
    rw [if_pos rfl]) (by omega) (by
    have := uc_le ((mq_sa S 14 (upd (S.2.1 14) 0 (nI f))).2.1 15) (f + 1)
    omega)
  have u1 := q2 (f + 1) (by omega)
  have u2 := uc_le ((mq_sa S 14 (upd (S.2.1 14) 0 (nI f))).2.1 15) (f + 1)
  obtain ⟨fu0, rfl⟩ : ∃ q, fu = q + 1 := ⟨fu - 1, by omega⟩
  refine ⟨S', ?_, ag_tr (ag_sa (by decide)) q8⟩
  unfold zf_X11_turn
  simp only [mq_ck_of i0, c0, mq_nS, mq_nI]
  rw [show (1 : Int32) = nI (0 + 1) from rfl, q1]
  show zf_X11_turn_9b N z _ (nI f) (nI 0) S' = _
  unfold zf_X11_turn_9b
  rw [if_pos (by decide : nI 0 ≤ 0), mq_ck_of i1, c1, q3]
theorem st_set {N n : Nat} {z : Nat → Nat} {SC SR : mq_St} {d : Nat → Nat} (v w : Int32) (hN : 2000 ≤ N) (h : iv_fs n d (SC.1 2) (SC.2.1 4) (SC.2.1 5) (SC.2.1 6) (SC.2.1 7) (SC.2.1 0) (SC.2.1 1) (SR.1 3) (SR.2.1 2) (SR.2.1 3) (SR.2.1 4) (SR.2.1 5) (SR.2.1 6)) :
    ∃ r SC' SR', zf_X10_set N z v w SC = some (r, SC') ∧ zf_X11_set N z v w SR = some (r, SR') ∧ iv_fs n d (SC'.1 2) (SC'.2.1 4) (SC'.2.1 5) (SC'.2.1 6) (SC'.2.1 7) (SC'.2.1 0) (SC'.2.1 1) (SR'.1 3) (SR'.2.1 2) (SR'.2.1 3) (SR'.2.1 4) (SR'.2.1 5) (SR'.2.1 6) ∧ ag [] [0, 1] [] SC SC' ∧ ag [0, 6] [5, 6, 14, 15] [] SR SR' := by
  have hall := h
  obtain ⟨hc, hr, hw, hs, hsl⟩ := h
  have h3 := hw.2.1
  unfold zf_X10_set zf_X11_set
  dsimp only [mq_nS]
  rw [ck_isSlot, rf_in]
  have e7 : (7 : Int32) = nI 8 - 1 := by decide
  have e8 : (8 : Int32) = nI 8 := rfl
  have h10 : ¬ (1 : Int32) = 0 := by decide
  rw [e7, e8]
  rcases mq_place v (t := 8) (by omega) with hv | ⟨s, hs8, rfl, hv⟩
  · rw [if_pos hv, if_pos ((mq_lst 8 (by omega) v).mpr hv), mq_cp_s, mq_cp_s, if_pos rfl, if_pos rfl]
    exact ⟨-1, SC, mq_si SR 0 0, rfl, rfl, hall, ag_rf, ag_si (by decide)⟩
  · rw [if_neg hv, if_neg (fun q => hv ((mq_lst 8 (by omega) _).mp q)), mq_cp_s, mq_cp_s, if_neg h10, if_neg h10, ck_has, rf_isF (S := mq_si SR 0 0) w hr h3, hc]
    rcases mq_place w (t := n) (by omega) with hw2 | ⟨f, hf, rfl, hw2⟩
    · rw [if_pos hw2, mq_cp_s, mq_cp_s, if_pos rfl, if_pos rfl]
      exact ⟨-1, SC, mq_si SR 0 0, rfl, rfl, hall, ag_rf, ag_si (by decide)⟩
    · have i8 : vp_in (nI s) 8 := vp_in_nI (by omega) (by omega)
      have cs : (nI s).toNatClampNeg = s := nI_clamp (by omega)
      rw [if_neg hw2, mq_cp_s, mq_cp_s, if_neg h10, if_neg h10]
      simp only [mq_ck_of i8, cs, mq_nI]
      obtain ⟨-, -, -, den⟩ := ck_in (N := N) (z := z) (S := mq_sa SC 0 (upd (SC.2.1 0) s (nI f))) hc h3 hf
      rw [den, mq_cp_s, show (mq_sa SC 0 (upd (SC.2.1 0) s (nI f))).2.1 7 f = nI (d f) from (hs f hf).2.2.2]
      obtain ⟨S1, q, a1, a2, a3⟩ := rs_clear (N := N) (z := z) (v1 := nI s) (v2 := nI f) N 0 (mq_si SR 0 0) (by omega) (by omega) (fun g hg => by omega)
      have e13 : S1.1 3 = nI n := (a3.1 3 (by decide)).trans hr
      have b2 : S1.2.1 2 = SR.2.1 2 := a3.2.1 2 (by decide)
      have b3 : S1.2.1 3 = SR.2.1 3 := a3.2.1 3 (by decide)
      have b4 : S1.2.1 4 = SR.2.1 4 := a3.2.1 4 (by decide)
      obtain ⟨S2, t1, t2⟩ := rf_turn (N := N) (z := z) (S := mq_si S1 6 0) (d := d) hN e13 (by
        show fw n (S1.2.1 2) (S1.2.1 3) (S1.2.1 4) d
        rw [b2, b3, b4]
        exact hw) hf (fun g hg => a2 g (by omega))
      have m6 : S2.1 6 = 0 := t2.1 6 (by decide)
      refine ⟨nI (d f), mq_sa (mq_sa SC 0 (upd (SC.2.1 0) s (nI f))) 1 (upd (SC.2.1 1) s (nI (d f))), mq_sa (mq_sa S2 5 (upd (S2.2.1 5) s (nI f))) 6 (upd (S2.2.1 6) s (nI (d f))), ?_, ?_, ?_, ag_tr (ag_sa (by decide)) (ag_sa (by decide)), ?_⟩
      · show some (upd (SC.2.1 1) s (nI (d f)) s, _) = _
        rw [show upd (SC.2.1 1) s (nI (d f)) s = nI (d f) from by unfold upd; rw [if_pos rfl]]
        rfl
      · rw [show (0 : Int32) = nI 0 from rfl] at a1 ⊢
        rw [a1]
        show zf_X11_set_27b N z _ (nI s) (nI f) (nI 300) S1 = _
        unfold zf_X11_set_27b
        rw [if_pos (by decide : (300 : Int32) ≤ nI 300)]
        simp only [mq_nI, mq_nS]
        rw [mq_cz_0, t1, mq_cl_s]
        rw [if_pos m6]
        simp only [mq_ck_of i8, cs]
        rfl
      · have f5 : S2.2.1 5 = SR.2.1 5 := (t2.2.1 5 (by decide)).trans (a3.2.1 5 (by decide))
        have f6 : S2.2.1 6 = SR.2.1 6 := (t2.2.1 6 (by decide)).trans (a3.2.1 6 (by decide))
        have f2 : S2.2.1 2 = SR.2.1 2 := (t2.2.1 2 (by decide)).trans b2
        have f3 : S2.2.1 3 = SR.2.1 3 := (t2.2.1 3 (by decide)).trans b3
        have f4 : S2.2.1 4 = SR.2.1 4 := (t2.2.1 4 (by decide)).trans b4
        refine ⟨hc, (t2.1 3 (by decide)).trans e13, ?_, ?_, ?_⟩
        · show fw n (S2.2.1 2) (S2.2.1 3) (S2.2.1 4) d
          rw [f2, f3, f4]
          exact hw
        · show ∀ g, g < n → SC.2.1 4 g = S2.2.1 2 g ∧ SC.2.1 5 g = S2.2.1 3 g ∧ SC.2.1 6 g = S2.2.1 4 g ∧ SC.2.1 7 g = nI (d g)
          rw [f2, f3, f4]
          exact hs
        · intro g hg
          show upd (SC.2.1 0) s (nI f) g = upd (S2.2.1 5) s (nI f) g ∧ upd (SC.2.1 1) s (nI (d f)) g = upd (S2.2.1 6) s (nI (d f)) g ∧ ((upd (SC.2.1 0) s (nI f) g = -1 ∧ upd (SC.2.1 1) s (nI (d f)) g = -1) ∨ ∃ x, x < n ∧ upd (SC.2.1 0) s (nI f) g = nI x ∧ upd (SC.2.1 1) s (nI (d f)) g = nI (d x))
          unfold upd
          by_cases e : g = s
          · simp only [if_pos e]
            exact ⟨trivial, trivial, Or.inr ⟨f, hf, rfl, rfl⟩⟩
          · simp only [if_neg e]
            rw [f5, f6]
            exact hsl g hg
      · refine ag_tr (ag_tr (ag_tr (ag_tr (ag_tr (ag_si (by decide)) (ag_mono a3 (by decide) (by decide) (by decide))) (ag_si (by decide))) (ag_mono t2 (by decide) (by decide) (by decide))) (ag_sa (by decide))) (ag_sa (by decide))
