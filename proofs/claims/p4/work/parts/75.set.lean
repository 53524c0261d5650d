/-! set: the class's denials beside what the reference turns. -/
/-- n FORMULAS in good order: sorts, parts, and d the denial of each -/
def fw (n : Nat) (so on tw : Nat → Int32) (d : Nat → Nat) : Prop := 2 ≤ n ∧ n ≤ 300 ∧ (∀ f g, f < n → g < n → so f = so g → on f = on g → tw f = tw g → f = g) ∧ (∀ f, f < n → d f < n) ∧ ∀ f, f < n →
  (f = 0 ∧ so f = 0 ∧ d f = 1) ∨ (f = 1 ∧ so f = 1 ∧ d f = 0) ∨
  (((so f = 2 ∧ so (d f) = 3) ∨ (so f = 3 ∧ so (d f) = 2)) ∧ on (d f) = on f ∧ tw (d f) = -1 ∧ tw f = -1 ∧ ∃ l : Nat, l < 26 ∧ on f = nI l) ∨
  (((so f = 4 ∧ so (d f) = 5) ∨ (so f = 5 ∧ so (d f) = 4)) ∧ ∃ a b : Nat, a < f ∧ b < f ∧ on f = nI a ∧ tw f = nI b ∧ on (d f) = nI (d a) ∧ tw (d f) = nI (d b)) ∨
  (((so f = 6 ∧ so (d f) = 7) ∨ (so f = 7 ∧ so (d f) = 6)) ∧ tw f = -1 ∧ tw (d f) = -1 ∧ ∃ a : Nat, a < f ∧ on f = nI a ∧ on (d f) = nI (d a))
theorem rf_make_found {N n g : Nat} {z : Nat → Nat} {S : mq_St} {s a b : Int32} (hn : S.1 3 = nI n) (h3 : n ≤ 300) (hg : g < n) (hm : S.2.1 2 g = s ∧ S.2.1 3 g = a ∧ S.2.1 4 g = b) (hu : ∀ j, j < g → ¬ (S.2.1 2 j = s ∧ S.2.1 3 j = a ∧ S.2.1 4 j = b)) : ∀ (fuel k : Nat), k ≤ g → g - k < fuel → zf_X11_make_3 N z fuel s a b (nI k) S = some (nI g, S) := by
  intro fuel
  induction fuel with
  | zero => intro k _ h; omega
  | succ fuel ih =>
    intro k hk hf
    show zf_X11_make_3b N z _ s a b (nI k) S = _
    unfold zf_X11_make_3b zf_X11_make_48
    have hin : vp_in (nI k) 300 := vp_in_nI (by omega) (by omega)
    have ecl : (nI k).toNatClampNeg = k := nI_clamp (by omega)
    rw [hn, if_neg (nI_ge (a := k) (b := n) (by omega) (by omega))]
    simp only [mq_ck_of hin, ecl, mq_nI, nI_1]
    by_cases e : k = g
    · subst e
      rw [if_pos hm.1, if_pos hm.2.1, if_pos hm.2.2]
    · have go := ih (k + 1) (by omega) (by omega)
      have hno := hu k (by omega)
      by_cases q1 : S.2.1 2 k = s
      · rw [if_pos q1]
        by_cases q2 : S.2.1 3 k = a
        · rw [if_pos q2]
          by_cases q3 : S.2.1 4 k = b
          · exact absurd ⟨q1, q2, q3⟩ hno
          · rw [if_neg q3]
            exact go
        · rw [if_neg q2]
          exact go
      · rw [if_neg q1]
        exact go
theorem rf_make_is {N n g : Nat} {z : Nat → Nat} {S : mq_St} {s a b : Int32} {d : Nat → Nat} (hN : 400 ≤ N) (hn : S.1 3 = nI n) (hw : fw n (S.2.1 2) (S.2.1 3) (S.2.1 4) d) (hg : g < n) (h1 : S.2.1 2 g = s) (h2 : S.2.1 3 g = a) (h3 : S.2.1 4 g = b) : zf_X11_make N z s a b S = some (nI g, S) := by
  unfold zf_X11_make
  dsimp only [mq_nI]
  have e0 : (0 : Int32) = nI 0 := rfl
  rw [e0]
  refine rf_make_found hn hw.2.1 hg ⟨h1, h2, h3⟩ (fun j hj q => ?_) N 0 (by omega) (by have := hw.2.1; omega)
  have := hw.2.2.1 j g (by omega) hg (q.1.trans h1.symm) (q.2.1.trans h2.symm) (q.2.2.trans h3.symm)
  omega
/-- what a formula turns to, its parts turned already -/
theorem rf_turnedOf {N n f : Nat} {z : Nat → Nat} {S : mq_St} {d : Nat → Nat} (hN : 400 ≤ N) (hn : S.1 3 = nI n) (hw : fw n (S.2.1 2) (S.2.1 3) (S.2.1 4) d) (hf : f < n) (hp : ∀ a : Nat, a < f → (S.2.1 3 f = nI a ∧ ¬ S.2.1 2 f ≤ 3) ∨ (S.2.1 4 f = nI a ∧ (S.2.1 2 f = 4 ∨ S.2.1 2 f = 5)) → S.2.1 15 a = nI (d a)) : zf_X11_turnedOf N z (nI f) S = some (nI (d f), S) := by
  have h3 := hw.2.1
  have hd := hw.2.2.2.1 f hf
  have hin : vp_in (nI f) 300 := vp_in_nI (by omega) (by omega)
  have ecl : (nI f).toNatClampNeg = f := nI_clamp (by omega)
  unfold zf_X11_turnedOf zf_X11_turnedOf_25 zf_X11_turnedOf_46 zf_X11_turnedOf_61
  simp only [mq_ck_of hin, ecl, mq_nI]
  rcases hw.2.2.2.2 f hf with ⟨rfl, s0, e0⟩ | ⟨rfl, s1, e1⟩ | ⟨hs, w1, w2, w3, l, hl, w4⟩ | ⟨hs, a, b, ha, hb, w1, w2, w3, w4⟩ | ⟨hs, w1, w2, a, ha, w3, w4⟩
  · rw [s0, e0]
    rfl
  · rw [s1, e1]
    rfl
  · rcases hs with ⟨s1, s2⟩ | ⟨s1, s2⟩
    · rw [s1, if_pos (by decide : (2 : Int32) ≤ 3), if_neg (by decide : ¬ (2 : Int32) = 4), if_neg (by decide : ¬ (2 : Int32) = 5), if_neg (by decide : ¬ (2 : Int32) = 0), if_neg (by decide : ¬ (2 : Int32) = 1), if_pos rfl, rf_make_is hN hn hw hd s2 w1 w2, mq_cl_s]
    · rw [s1, if_pos (by decide : (3 : Int32) ≤ 3), if_neg (by decide : ¬ (3 : Int32) = 4), if_neg (by decide : ¬ (3 : Int32) = 5), if_neg (by decide : ¬ (3 : Int32) = 0), if_neg (by decide : ¬ (3 : Int32) = 1), if_neg (by decide : ¬ (3 : Int32) = 2), if_pos rfl, rf_make_is hN hn hw hd s2 w1 w2, mq_cl_s]
  · have pa : S.2.1 15 a = nI (d a) := hp a ha (Or.inl ⟨w1, by rcases hs with ⟨q, -⟩ | ⟨q, -⟩ <;> rw [q] <;> decide⟩)
    have pb : S.2.1 15 b = nI (d b) := hp b hb (Or.inr ⟨w2, hs.elim (fun q => Or.inl q.1) (fun q => Or.inr q.1)⟩)
    have ia : vp_in (nI a) 300 := vp_in_nI (by omega) (by omega)
    have ib : vp_in (nI b) 300 := vp_in_nI (by omega) (by omega)
    have ca : (nI a).toNatClampNeg = a := nI_clamp (by omega)
    have cb : (nI b).toNatClampNeg = b := nI_clamp (by omega)
    simp only [w1, w2, mq_ck_of ia, mq_ck_of ib, ca, cb, pa, pb]
    rcases hs with ⟨s1, s2⟩ | ⟨s1, s2⟩
    · rw [s1, if_neg (by decide : ¬ (4 : Int32) ≤ 3), if_pos rfl, if_neg (by decide : ¬ (4 : Int32) = 0), if_neg (by decide : ¬ (4 : Int32) = 1), if_neg (by decide : ¬ (4 : Int32) = 2), if_neg (by decide : ¬ (4 : Int32) = 3), if_pos rfl, rf_make_is hN hn hw hd s2 w3 w4, mq_cl_s]
    · rw [s1, if_neg (by decide : ¬ (5 : Int32) ≤ 3), if_neg (by decide : ¬ (5 : Int32) = 4), if_pos rfl, if_neg (by decide : ¬ (5 : Int32) = 0), if_neg (by decide : ¬ (5 : Int32) = 1), if_neg (by decide : ¬ (5 : Int32) = 2), if_neg (by decide : ¬ (5 : Int32) = 3), if_neg (by decide : ¬ (5 : Int32) = 4), if_pos rfl, rf_make_is hN hn hw hd s2 w3 w4, mq_cl_s]
  · have pa : S.2.1 15 a = nI (d a) := hp a ha (Or.inl ⟨w3, by rcases hs with ⟨q, -⟩ | ⟨q, -⟩ <;> rw [q] <;> decide⟩)
    have ia : vp_in (nI a) 300 := vp_in_nI (by omega) (by omega)
    have ca : (nI a).toNatClampNeg = a := nI_clamp (by omega)
    simp only [w3, mq_ck_of ia, ca, pa]
    rcases hs with ⟨s1, s2⟩ | ⟨s1, s2⟩
    · rw [s1, if_neg (by decide : ¬ (6 : Int32) ≤ 3), if_neg (by decide : ¬ (6 : Int32) = 4), if_neg (by decide : ¬ (6 : Int32) = 5), if_neg (by decide : ¬ (6 : Int32) = 0), if_neg (by decide : ¬ (6 : Int32) = 1), if_neg (by decide : ¬ (6 : Int32) = 2), if_neg (by decide : ¬ (6 : Int32) = 3), if_neg (by decide : ¬ (6 : Int32) = 4), if_neg (by decide : ¬ (6 : Int32) = 5), if_pos rfl, rf_make_is hN hn hw hd s2 w4 w2, mq_cl_s]
    · rw [s1, if_neg (by decide : ¬ (7 : Int32) ≤ 3), if_neg (by decide : ¬ (7 : Int32) = 4), if_neg (by decide : ¬ (7 : Int32) = 5), if_neg (by decide : ¬ (7 : Int32) = 0), if_neg (by decide : ¬ (7 : Int32) = 1), if_neg (by decide : ¬ (7 : Int32) = 2), if_neg (by decide : ¬ (7 : Int32) = 3), if_neg (by decide : ¬ (7 : Int32) = 4), if_neg (by decide : ¬ (7 : Int32) = 5), if_neg (by decide : ¬ (7 : Int32) = 6), rf_make_is hN hn hw hd s2 w4 w2, mq_cl_s]
