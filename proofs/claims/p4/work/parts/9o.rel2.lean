/-! The tableau: the relation at the two points. -/
def lins (SC SR : mq_St) (ln : Nat) : Prop := ∀ i, i < ln → ∃ r f, r < 5 ∧ f < 300 ∧ SC.2.1 22 i = (nI r <<< ((16 : Int32) &&& 31)) ||| nI f ∧ SR.2.1 23 i = nI r ∧ SR.2.1 24 i = nI f
def wld (SC SR : mq_St) (W : Nat) : Prop := ∀ v, v < W → SC.2.1 16 v = SR.2.1 20 v ∧ SC.2.1 17 v = SR.2.1 21 v ∧ ∀ f, f < 320 → lb (SC.2.2 2) v f = ib (SR.2.1 18) v f
def led (SC SR : mq_St) (v : Nat) : Prop := ∀ u, u < 60 → SR.2.1 22 (60 * v + u) = if (SC.2.2 1 v).toBitVec.getLsbD u = true then 1 else 0
def wst (SC SR : mq_St) (v : Nat) : Prop := ∀ f, f < 320 → ib (SR.2.1 19) v f = lb (SC.2.2 3) v f
def cnt (SC SR : mq_St) : Prop := SC.2.1 21 1 = SR.1 20 ∧ SC.2.1 21 2 = SR.1 21 ∧ SC.2.1 21 3 = SR.1 22
def frC (S S' : mq_St) : Prop := ag [14, 15, 16, 17, 18, 19, 20] [16, 17, 18, 19, 20, 21, 22] [1, 2, 3, 4, 5] S S'
def frR (S S' : mq_St) : Prop := ag [18, 19, 20, 21, 22, 23, 24, 25, 26, 27, 28] [17, 18, 19, 20, 21, 22, 23, 24, 25, 26, 27, 28, 29, 30, 31] [] S S'
/-- the numbers -/
def nuC (S : mq_St) (F st W w ec ln : Nat) : Prop := S.1 18 = nI F ∧ S.2.1 21 0 = nI st ∧ S.1 15 = nI W ∧ S.1 16 = nI w ∧ S.1 14 = nI ec ∧ S.1 20 = nI ln ∧ S.1 19 = 2
def nuR (S : mq_St) (F st W w ec ln wt : Nat) : Prop := S.1 18 = nI F ∧ S.1 19 = nI st ∧ S.1 24 = nI W ∧ S.1 25 = nI w ∧ S.1 28 = nI ec ∧ S.1 26 = nI ln ∧ S.1 23 = 0 ∧ S.1 27 = nI wt
def bnd (F st W w ec ln : Nat) : Prop := st ≤ F ∧ F ≤ 100000 ∧ w < W ∧ W ≤ 60 ∧ ec ≤ 400 ∧ ln ≤ 1299
/-- at the head of down() -/
def Dn (n : Nat) (so on tw : Nat → Int32) (d : Nat → Nat) (F : Nat) (SC SR : mq_St) (st w ec ln wt : Nat) (R : List Nat) : Prop :=
  bnd F st (w + 1) w ec ln ∧ nuC SC F st (w + 1) w ec ln ∧ nuR SR F st (w + 1) w ec ln wt ∧ cnt SC SR ∧ lins SC SR ln ∧ wld SC SR (w + 1) ∧ stk n so on tw d SC SR (w :: R) ec wt ln ∧
  (∀ f, f < 320 → ib (SR.2.1 17) 0 f = lb (SC.2.2 3) w f) ∧ (∀ f, f < 320 → lb (SC.2.2 3) w f = true → f < n) ∧ clV n so d (lb (SC.2.2 3) w) (SC.1 17) ∧
  ((∀ f, f < 320 → lb (SC.2.2 4) w f = true → lb (SC.2.2 3) w f = true) ∧ ∀ s f, 4 ≤ s → s ≤ 7 → f < n → td so on tw s (lb (SC.2.2 3) w) f → lb (SC.2.2 4) w f = true) ∧
  SC.2.2 1 w = 0 ∧ (∀ v, v < w → led SC SR v) ∧ ∀ v, v < w → v ∉ R → wst SC SR v
/-- in mays(), the next MAY not yet looked for: from m on -/
def Mn (n : Nat) (so on tw : Nat → Int32) (d : Nat → Nat) (F : Nat) (SC SR : mq_St) (st W w ec ln wt m : Nat) (R : List Nat) : Prop :=
  bnd F st W w ec ln ∧ nuC SC F st W w ec ln ∧ nuR SR F st W w ec ln (wt + 1) ∧ cnt SC SR ∧ lins SC SR ln ∧ wld SC SR W ∧ stk n so on tw d SC SR (w :: R) ec wt ln ∧ may n so on tw d SC SR w m ln wt ∧
  (∀ f, f < 320 → ib (SR.2.1 17) 0 f = lb (SC.2.2 3) w f) ∧ SC.1 17 = -1 ∧ (∀ v, v < W → led SC SR v) ∧ ∀ v, v < W → v ≠ w → v ∉ R → wst SC SR v
section REL2
variable {N n F : Nat} {z : Nat → Nat} {so on tw : Nat → Int32} {d : Nat → Nat} {S SC SR : mq_St} {st W w ec ln wt m : Nat} {R : List Nat}
theorem ag_3 {S' : mq_St} (h : ag [17] [] [3, 4] S S') : S' = mq_sl (mq_sl (mq_si S 17 (S'.1 17)) 3 (S'.2.2 3)) 4 (S'.2.2 4) := by
  refine Prod.ext ?_ (Prod.ext ?_ ?_)
  · funext q
    show _ = if q = 17 then _ else _
    by_cases e : q = 17
    · rw [if_pos e, e]
    · rw [if_neg e]; exact h.1 q (by simpa using e)
  · funext q; exact h.2.1 q (by simp)
  · funext q
    show _ = if q = 4 then _ else (if q = 3 then _ else _)
    by_cases e : q = 4
    · rw [if_pos e, e]
    · rw [if_neg e]
      by_cases e' : q = 3
      · rw [if_pos e', e']
      · rw [if_neg e']; exact h.2.2 q (by simp [e, e'])
theorem cxC_f {S0 : mq_St} (h : cxC S0 n so on tw d) (f : frC S0 S) : cxC S n so on tw d := cxC_c h (f.1 2 (by decide)) (f.2.1 4 (by decide)) (f.2.1 5 (by decide)) (f.2.1 6 (by decide)) (f.2.1 7 (by decide)) (f.2.2 0 (by decide))
theorem cxR_f {S0 : mq_St} (h : cxR S0 n so on tw d) (f : frR S0 S) : cxR S n so on tw d := cxR_c h (f.1 3 (by decide)) (f.2.1 2 (by decide)) (f.2.1 3 (by decide)) (f.2.1 4 (by decide))
theorem ck_lst {s : Nat} (hN : 100 ≤ N) (hc : cxC S n so on tw d) (hw : w < 60) (h16 : S.1 16 = nI w) (h4 : 4 ≤ s) (h7 : s ≤ 7) (hY : ∀ f, f < 320 → lb (S.2.2 4) w f = true → lb (S.2.2 3) w f = true) :
    ∃ l2 v, lfk on tw so n s w (lb (S.2.2 3) w) (S.2.2 4) l2 ∧ zf_X8_leastToDo N z (nI s) S = some (v, mq_sl S 4 l2) ∧ lst n (fun f => td so on tw s (lb (S.2.2 3) w) f ∧ lb (S.2.2 4) w f = true) v := by
  have h3 := hc.2.2.2.2.1
  obtain ⟨l2, hl, ⟨f, f1, f2, f3, f4, f5, f6⟩ | ⟨f1, f2⟩⟩ := ck_least (z := z) hN hc hw h16 h4 h7
  · have y : lb (S.2.2 4) w f = true := hl.2.1 f (by omega) f3
    exact ⟨l2, nI f, hl, f6, Or.inr ⟨f, f1, rfl, ⟨⟨f2, hY f (by omega) y, f4⟩, y⟩, fun g hg q => q.1.2.2 (f5 g hg q.1.1 q.2)⟩⟩
  · exact ⟨l2, -1, hl, f2, Or.inl ⟨rfl, fun g hg q => q.1.2.2 (f1 g hg q.1.1 q.2)⟩⟩
theorem Dn_lf {s : Nat} {l2 : Nat → Int64} (hn : n ≤ 300) (hs : s ≤ 7) (h : fw n so on tw d) (hl : lfk on tw so n s w (lb (SC.2.2 3) w) (SC.2.2 4) l2) (q : Dn n so on tw d F SC SR st w ec ln wt R) : Dn n so on tw d F (mq_sl SC 4 l2) SR st w ec ln wt R := by
  obtain ⟨q1, q2, q3, q4, q5, q6, q7, q8, q9, q10, q11, q12, q13, q14⟩ := q
  refine ⟨q1, q2, q3, q4, q5, q6, stk_c (SC := SC) h R w ec wt ln ln (Nat.le_refl _) ⟨fun p _ => ⟨rfl, rfl⟩, fun p hp => ⟨rfl, fun f hf => ⟨rfl, hl.1 p f (by omega) hf⟩⟩, fun j _ => ⟨rfl, fun _ _ => rfl⟩⟩ kpR_rf q7, q8, q9, q10, ⟨fun f hf a => q11.1 f hf (hl.2.1 f hf a), fun s' f h4 h7 hf a => ?_⟩, q12, q13, q14⟩
  have y := q11.2 s' f h4 h7 hf a
  show lb l2 w f = true
  cases e : lb l2 w f with
  | true => rfl
  | false =>
    obtain ⟨e1, e2, e3⟩ := hl.2.2 f (by omega) y e
    have e4 := a.1
    have : s' = s := sp_inj (e4.symm.trans e2) (by omega) (by omega)
    rw [this] at a
    exact absurd e3 a.2.2
end REL2
