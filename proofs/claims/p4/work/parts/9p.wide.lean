/-! The tableau: a turn that widens the SET. -/
section WIDE
variable {N n F : Nat} {z : Nat → Nat} {so on tw : Nat → Int32} {d : Nat → Nat} {S SC SR : mq_St} {st W w ec ln wt m : Nat} {R : List Nat}
theorem dn_mono {f s : Nat} {X X' : Nat → Bool} (h : fw n so on tw d) (hx : ∀ f, f < 320 → X f = true → X' f = true) (hf : f < n) (hs : so f = nI s) (h4 : 4 ≤ s) (h7 : s ≤ 7) (q : dn on tw s X f) : dn on tw s X' f := by
  have h3 := h.2.1
  obtain ⟨a1, -, a2, -⟩ := fw_1 h hf hs h4 h7
  unfold dn at q ⊢
  by_cases e4 : s = 4
  · rw [if_pos e4] at q ⊢
    have := (a2 (by omega)).1
    exact ⟨hx _ (by omega) q.1, hx _ (by omega) q.2⟩
  · rw [if_neg e4] at q ⊢
    by_cases e5 : s = 5
    · rw [if_pos e5] at q ⊢
      have := (a2 (by omega)).1
      exact q.imp (hx _ (by omega)) (hx _ (by omega))
    · rw [if_neg e5] at q ⊢
      exact hx _ (by omega) q
/-- a SET and what is left of it, both with A more -/
theorem row_add {X Y X' Y' A : Nat → Bool} (h : fw n so on tw d) (hx : ∀ f, f < 320 → X' f = (X f || A f)) (hy : ∀ f, f < 320 → Y' f = (Y f || A f)) (hA : ∀ f, f < 320 → A f = true → f < n) (hX : ∀ f, f < 320 → X f = true → f < n) (hY : (∀ f, f < 320 → Y f = true → X f = true) ∧ ∀ s f, 4 ≤ s → s ≤ 7 → f < n → td so on tw s X f → Y f = true) :
    (∀ f, f < 320 → X' f = true → f < n) ∧ (∀ f, f < 320 → Y' f = true → X' f = true) ∧ ∀ s f, 4 ≤ s → s ≤ 7 → f < n → td so on tw s X' f → Y' f = true := by
  have h3 := h.2.1
  refine ⟨fun f hf q => ?_, fun f hf q => ?_, fun s f h4 h7 hf q => ?_⟩
  · rw [hx f hf, Bool.or_eq_true] at q
    exact q.elim (hX f hf) (hA f hf)
  · rw [hy f hf, Bool.or_eq_true] at q
    rw [hx f hf, Bool.or_eq_true]
    exact q.imp (hY.1 f hf) id
  · rw [hy f (by omega), Bool.or_eq_true]
    obtain ⟨q1, q2, q3⟩ := q
    rw [hx f (by omega), Bool.or_eq_true] at q2
    rcases q2 with q2 | q2
    · exact Or.inl (hY.2 s f h4 h7 hf ⟨q1, q2, fun a => q3 (dn_mono h (fun g hg b => by rw [hx g hg, b]; rfl) hf q1 h4 h7 a)⟩)
    · exact Or.inr q2
/-- the class behind a step and a line -/
def stC (S : mq_St) (st ln : Nat) (r f : Int32) : mq_St := mq_si (mq_sa (mq_sa S 21 (upd (S.2.1 21) 0 (nI (st + 1)))) 22 (upd (S.2.1 22) ln ((r <<< ((16 : Int32) &&& 31)) ||| f))) 20 (nI (ln + 1))
def stR (S : mq_St) (st ln : Nat) (r f : Int32) : mq_St := mq_si (mq_sa (mq_sa (mq_si S 19 (nI (st + 1))) 23 (upd (S.2.1 23) ln r)) 24 (upd (S.2.1 24) ln f)) 26 (nI (ln + 1))
theorem cxC_st {r f : Int32} (h : cxC S n so on tw d) : cxC (stC S st ln r f) n so on tw d := cxC_c h rfl rfl rfl rfl rfl rfl
/-- the parts that a rule adds -/
def pA (on tw : Nat → Int32) (s f : Nat) : Nat → Bool := fun g => decide (g = p1 on f ∨ (s = 4 ∧ g = p1 tw f))
theorem ck_wd {s f r : Nat} (hc : cxC S n so on tw d) (hw : w < 60) (hn : nuC S F st W w ec ln) (hF : F ≤ 100000) (h1 : st < F) (h2 : ln < 1299) (hf : f < n) (hs : so f = nI s) (h46 : s = 4 ∨ s = 6) (hcl : clV n so d (lb (S.2.2 3) w) (S.1 17)) :
    ∃ c l3 l4, zf_X8_widen N z (nI r) (nI f) S = some ((), mq_sl (mq_sl (mq_si (stC S st ln (nI r) (nI f)) 17 c) 3 l3) 4 l4) ∧ (∀ v g, g < 320 → lb l3 v g = (lb (S.2.2 3) v g || (decide (v = w) && pA on tw s f g))) ∧ (∀ v g, g < 320 → lb l4 v g = (lb (S.2.2 4) v g || (decide (v = w) && pA on tw s f g))) ∧ clV n so d (lb l3 w) c := by
  obtain ⟨n1, n2, n3, n4, n5, n6, n7⟩ := hn
  have hfw := hc.2.2.2
  obtain ⟨p1f, p2f, p3f, p4f⟩ := fw_1 hfw hf hs (by omega) (by omega)
  have h300 := hfw.2.1
  have hcT : cxC (stC S st ln (nI r) (nI f)) n so on tw d := cxC_st hc
  have e1 : zf_X8_step N z S = some (1, mq_sa S 21 (upd (S.2.1 21) 0 (nI (st + 1)))) := by rw [ck_step n2 n1 (by omega) hF, if_pos h1]
  have e2 : zf_X8_note N z (nI r) (nI f) (mq_sa S 21 (upd (S.2.1 21) 0 (nI (st + 1)))) = some (1, stC S st ln (nI r) (nI f)) := by rw [ck_note (S := mq_sa S 21 (upd (S.2.1 21) 0 (nI (st + 1)))) (ln := ln) (nI r) (nI f) n6 (by omega), if_pos h2]; rfl
  have e3 : zf_X7_firstOf N z (nI f) (stC S st ln (nI r) (nI f)) = some (nI (p1 on f)) := by rw [(ck_in hcT.1 h300 hf).2.1, (hcT.2.1 f hf).2.1, ← p2f]
  obtain ⟨S1, l3, l4, a1, a2, a3, a4, a5, a6, a7⟩ := ck_add (N := N) (z := z) (f := p1 on f) hcT hw n4 (by omega) hcl
  have hc1 : cxC S1 n so on tw d := cxC_c hcT (a7.1 2 (by decide)) (a7.2.1 4 (by decide)) (a7.2.1 5 (by decide)) (a7.2.1 6 (by decide)) (a7.2.1 7 (by decide)) (a7.2.2 0 (by decide))
  have e4 : zf_X7_secondOf N z (nI f) S1 = some (tw f) := by rw [(ck_in hc1.1 h300 hf).2.2.1, (hc1.2.1 f hf).2.2.1]
  have go : ∀ S2, zf_X8_add N z (tw f) S1 = some ((), S2) → zf_X8_widen N z (nI r) (nI f) S = some ((), S2) := fun S2 h => by
    unfold zf_X8_widen
    refine (cl_go e1).trans ?_
    rw [if_neg (by decide)]
    refine (cl_go e2).trans ?_
    rw [if_neg (by decide)]
    exact (cp_go e3).trans ((cl_go a1).trans ((cp_go e4).trans (cl_go h)))
  rcases h46 with rfl | rfl
  · obtain ⟨b1, b2⟩ := p3f (by omega)
    obtain ⟨S2, m3, m4, c1, c2, c3, c4, c5, c6, c7⟩ := ck_add (N := N) (z := z) (f := p1 tw f) hc1 hw ((a7.1 16 (by decide)).trans n4) (by omega) (by rw [a2]; exact a6)
    refine ⟨S2.1 17, m3, m4, ?_, fun v g hg => ?_, fun v g hg => ?_, c6⟩
    · rw [go S2 (by rw [b2]; exact c1)]
      have := ag_3 (ag_tr a7 c7)
      rw [c2, c3] at this
      rw [← this]
    · rw [c4 v g hg, a2, a4 v g hg]
      show (lb (S.2.2 3) v g || _ || _) = _
      unfold pA
      by_cases e : v = w <;> by_cases e' : g = p1 on f <;> by_cases e'' : g = p1 tw f <;> simp [e, e', e'']
    · rw [c5 v g hg, a3, a5 v g hg]
      show (lb (S.2.2 4) v g || _ || _) = _
      unfold pA
      by_cases e : v = w <;> by_cases e' : g = p1 on f <;> by_cases e'' : g = p1 tw f <;> simp [e, e', e'']
  · refine ⟨S1.1 17, l3, l4, ?_, fun v g hg => ?_, fun v g hg => ?_, a6⟩
    · rw [go S1 (by rw [p4f (by omega)]; exact ck_addm)]
      have := ag_3 a7
      rw [a2, a3] at this
      rw [← this]
    · rw [a4 v g hg]
      show (lb (S.2.2 3) v g || _) = _
      unfold pA
      by_cases e : v = w <;> by_cases e' : g = p1 on f <;> simp [e, e']
    · rw [a5 v g hg]
      show (lb (S.2.2 4) v g || _) = _
      unfold pA
      by_cases e : v = w <;> by_cases e' : g = p1 on f <;> simp [e, e']
theorem lins_put {r f : Nat} (h : lins SC SR ln) (hr : r < 5) (hf : f < 300) {SC' SR' : mq_St} (e22 : SC'.2.1 22 = upd (SC.2.1 22) ln ((nI r <<< ((16 : Int32) &&& 31)) ||| nI f)) (e23 : SR'.2.1 23 = upd (SR.2.1 23) ln (nI r)) (e24 : SR'.2.1 24 = upd (SR.2.1 24) ln (nI f)) : lins SC' SR' (ln + 1) := fun i hi => by
  rw [e22, e23, e24]
  by_cases e : i = ln
  · subst e
    exact ⟨r, f, hr, hf, up_s _ _ _, up_s _ _ _, up_s _ _ _⟩
  · rw [up_o e, up_o e, up_o e]; exact h i (by omega)
theorem Dn_wd {s f r c : Nat} {v : Int32} {l3 l4 : Nat → Int64} {a : Nat → Int32} (hfw : fw n so on tw d) (hr : r < 5) (q : Dn n so on tw d F SC SR st w ec ln wt R) (h1 : st < F) (h2 : ln < 1299) (hf : f < n) (hs : so f = nI s) (h46 : s = 4 ∨ s = 6)
    (b3 : ∀ v g, g < 320 → lb l3 v g = (lb (SC.2.2 3) v g || (decide (v = w) && pA on tw s f g))) (b4 : ∀ v g, g < 320 → lb l4 v g = (lb (SC.2.2 4) v g || (decide (v = w) && pA on tw s f g))) (hcl : clV n so d (lb l3 w) v) (ha : ∀ g, g < 320 → ib a 0 g = (ib (SR.2.1 17) 0 g || pA on tw s f g)) :
    Dn n so on tw d F (mq_sl (mq_sl (mq_si (stC SC st ln (nI r) (nI f)) 17 v) 3 l3) 4 l4) (mq_sa (stR SR st ln (nI r) (nI f)) 17 a) (st + 1) w ec (ln + 1) wt R := by
  obtain ⟨p1f, p2f, p3f, p4f⟩ := fw_1 hfw hf hs (by omega) (by omega)
  have h300 := hfw.2.1
  obtain ⟨⟨o1, o2, o3, o4, o5, o6⟩, ⟨n1, n2, n3, n4, n5, n6, n7⟩, ⟨m1, m2, m3, m4, m5, m6, m7, m8⟩, ⟨k1, k2, k3⟩, q5, q6, q7, q8, q9, q10, q11, q12, q13, q14⟩ := q
  have x3 : ∀ g, g < 320 → lb l3 w g = (lb (SC.2.2 3) w g || pA on tw s f g) := fun g hg => by rw [b3 w g hg, decide_eq_true (rfl : w = w), Bool.true_and]
  have x4 : ∀ g, g < 320 → lb l4 w g = (lb (SC.2.2 4) w g || pA on tw s f g) := fun g hg => by rw [b4 w g hg, decide_eq_true (rfl : w = w), Bool.true_and]
  have y3 : ∀ p g, p < w → g < 320 → lb l3 p g = lb (SC.2.2 3) p g := fun p g hp hg => by rw [b3 p g hg, decide_eq_false (by omega), Bool.false_and, Bool.or_false]
  have y4 : ∀ p g, p < w → g < 320 → lb l4 p g = lb (SC.2.2 4) p g := fun p g hp hg => by rw [b4 p g hg, decide_eq_false (by omega), Bool.false_and, Bool.or_false]
  have hA : ∀ g, g < 320 → pA on tw s f g = true → g < n := fun g _ q => by
    rcases of_decide_eq_true q with q | ⟨q', q⟩
    · omega
    · have := (p3f (by omega)).1; omega
  obtain ⟨z1, z2⟩ := row_add hfw x3 x4 hA q9 q11
  refine ⟨⟨by omega, o2, o3, o4, o5, by omega⟩, ⟨n1, rfl, n3, n4, n5, rfl, n7⟩, ⟨m1, rfl, m3, m4, m5, rfl, m7, m8⟩, ⟨k1, k2, k3⟩, lins_put q5 hr (by omega) rfl rfl rfl, q6, ?_, fun g hg => ?_, z1, hcl, z2, q12, q13, fun u hu hR g hg => ?_⟩
  · exact stk_c (SC := SC) (SR := SR) hfw R w ec wt ln (ln + 1) (by omega) ⟨fun p _ => ⟨rfl, rfl⟩, fun p hp => ⟨rfl, fun g hg => ⟨y3 p g hp hg, y4 p g hp hg⟩⟩, fun j _ => ⟨rfl, fun _ _ => rfl⟩⟩ (fun e _ => ⟨rfl, rfl, rfl, rfl, rfl, fun _ _ => rfl⟩) q7
  · show ib a 0 g = lb l3 w g
    rw [ha g hg, x3 g hg, q8 g hg]
  · show _ = lb l3 u g
    rw [y3 u g hu hg]; exact q14 u hu hR g hg
end WIDE
