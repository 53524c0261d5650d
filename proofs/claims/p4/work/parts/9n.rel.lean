/-! The tableau: what holds between the two sides. -/
theorem cls_x {n c : Nat} {so on tw : Nat → Int32} {d : Nat → Nat} {X X' : Nat → Bool} (h : fw n so on tw d) (hx : ∀ f, f < 320 → X' f = X f) (hc : c < n) : cls so d X' c ↔ cls so d X c := by
  have h3 := h.2.1
  have hd := h.2.2.2.1 c hc
  unfold cls
  rw [hx c (by omega), hx (d c) (by omega)]
theorem dn_x {n f s : Nat} {so on tw : Nat → Int32} {d : Nat → Nat} {X X' : Nat → Bool} (h : fw n so on tw d) (hx : ∀ f, f < 320 → X' f = X f) (hf : f < n) (hs : so f = nI s) (h4 : 4 ≤ s) (h7 : s ≤ 7) : dn on tw s X' f ↔ dn on tw s X f := by
  have h3 := h.2.1
  obtain ⟨a1, -, a2, -⟩ := fw_1 h hf hs h4 h7
  unfold dn
  rw [hx (p1 on f) (by omega)]
  by_cases e : s ≤ 5
  · rw [hx (p1 tw f) (by have := (a2 e).1; omega)]
  · rw [if_neg (by omega), if_neg (by omega), if_neg (by omega), if_neg (by omega)]
theorem td_x {n f s : Nat} {so on tw : Nat → Int32} {d : Nat → Nat} {X X' : Nat → Bool} (h : fw n so on tw d) (hx : ∀ f, f < 320 → X' f = X f) (hf : f < n) (h4 : 4 ≤ s) (h7 : s ≤ 7) : td so on tw s X' f ↔ td so on tw s X f := by
  have h3 := h.2.1
  unfold td
  rw [hx f (by omega)]
  constructor
  · rintro ⟨a, b, c⟩; exact ⟨a, b, fun q => c ((dn_x h hx hf a h4 h7).mpr q)⟩
  · rintro ⟨a, b, c⟩; exact ⟨a, b, fun q => c ((dn_x h hx hf a h4 h7).mp q)⟩
theorem clV_x {n : Nat} {so on tw : Nat → Int32} {d : Nat → Nat} {X X' : Nat → Bool} {v : Int32} (h : fw n so on tw d) (hx : ∀ f, f < 320 → X' f = X f) (hv : clV n so d X v) : clV n so d X' v := clV_same hv (fun _ hc => cls_x h hx hc)
theorem clV_u {n : Nat} {so : Nat → Int32} {d : Nat → Nat} {X : Nat → Bool} {v v' : Int32} (hv : clV n so d X v) (hv' : clV n so d X v') : v = v' := by
  rcases hv with ⟨a, b⟩ | ⟨c, a, b, e, g⟩ <;> rcases hv' with ⟨a', b'⟩ | ⟨c', a', b', e', g'⟩
  · rw [a, a']
  · exact absurd e' (b c' a')
  · exact absurd e (b' c a)
  · rcases Nat.lt_trichotomy c c' with q | q | q
    · exact absurd e (g' c q)
    · rw [b, b', q]
    · exact absurd e' (g c' q)
theorem lst_u {n : Nat} {P : Nat → Prop} {v v' : Int32} (hv : lst n P v) (hv' : lst n P v') : v = v' := by
  rcases hv with ⟨a, b⟩ | ⟨c, a, b, e, g⟩ <;> rcases hv' with ⟨a', b'⟩ | ⟨c', a', b', e', g'⟩
  · rw [a, a']
  · exact absurd e' (b c' a')
  · exact absurd e (b' c a)
  · rcases Nat.lt_trichotomy c c' with q | q | q
    · exact absurd e (g' c q)
    · rw [b, b', q]
    · exact absurd e' (g c' q)
theorem lst_s {n : Nat} {P Q : Nat → Prop} {v : Int32} (hv : lst n P v) (h : ∀ f, f < n → (P f ↔ Q f)) : lst n Q v := by
  rcases hv with ⟨a, b⟩ | ⟨c, a, b, e, g⟩
  · exact Or.inl ⟨a, fun f hf q => b f hf ((h f hf).mpr q)⟩
  · exact Or.inr ⟨c, a, b, (h c a).mp e, fun f hf q => g f hf ((h f (by omega)).mpr q)⟩
/-- a SET with nothing left to do but its MAYS from m on -/
def sat (n : Nat) (so on tw : Nat → Int32) (d : Nat → Nat) (X Y : Nat → Bool) (m : Nat) : Prop := (∀ f, f < 320 → X f = true → f < n) ∧ (∀ c, c < n → ¬ cls so d X c) ∧ (∀ s f, 4 ≤ s → s ≤ 6 → f < n → ¬ td so on tw s X f) ∧ (∀ f, f < 320 → Y f = true → X f = true) ∧ ∀ f, f < n → td so on tw 7 X f → (Y f = true ↔ m ≤ f)
theorem sat_x {n m : Nat} {so on tw : Nat → Int32} {d : Nat → Nat} {X X' Y Y' : Nat → Bool} (h : fw n so on tw d) (hx : ∀ f, f < 320 → X' f = X f) (hy : ∀ f, f < 320 → Y' f = Y f) (hs : sat n so on tw d X Y m) : sat n so on tw d X' Y' m := by
  have h3 := h.2.1
  obtain ⟨a, b, c, e, g⟩ := hs
  refine ⟨fun f hf q => a f hf (by rw [← hx f hf]; exact q), fun f hf q => b f hf ((cls_x h hx hf).mp q), fun s f h4 h6 hf q => c s f h4 h6 hf ((td_x h hx hf h4 (by omega)).mp q), fun f hf q => ?_, fun f hf q => ?_⟩
  · rw [hx f hf]; exact e f hf (by rw [← hy f hf]; exact q)
  · rw [hy f (by omega)]; exact g f hf ((td_x h hx hf (by omega) (by omega)).mp q)
/-- place e of the waiting row is the j-th EITHER that is held, of world w -/
def eit (n : Nat) (so : Nat → Int32) (d : Nat → Nat) (SC SR : mq_St) (w j e : Nat) : Prop := SR.2.1 25 e = 1 ∧ SR.2.1 27 e = nI w ∧ SR.2.1 28 e = nI (w + 1) ∧ (∃ f, f < n ∧ so f = 5 ∧ SR.2.1 26 e = nI f ∧ SC.2.1 20 j = nI f) ∧ (∀ f, f < 320 → ib (SR.2.1 30) e f = lb (SC.2.2 5) j f) ∧ (∀ f, f < 320 → lb (SC.2.2 5) j f = true → f < n) ∧ ∀ c, c < n → ¬ cls so d (lb (SC.2.2 5) j) c
/-- place e of the waiting row is for the MAYS of world p from m on, with l lines -/
def may (n : Nat) (so on tw : Nat → Int32) (d : Nat → Nat) (SC SR : mq_St) (p m l e : Nat) : Prop := SR.2.1 25 e = 0 ∧ SR.2.1 26 e + 1 = nI m ∧ m ≤ n ∧ SR.2.1 27 e = nI p ∧ SR.2.1 29 e = nI l ∧ (∀ f, f < 320 → ib (SR.2.1 30) e f = lb (SC.2.2 3) p f) ∧ sat n so on tw d (lb (SC.2.2 3) p) (lb (SC.2.2 4) p) m
/-- the way to the world at the head, with all that waits -/
def stk (n : Nat) (so on tw : Nat → Int32) (d : Nat → Nat) (SC SR : mq_St) : List Nat → Nat → Nat → Nat → Prop
  | [], _, _, _ => False
  | v :: R, ec, wt, ln => ∃ ea k b, SC.2.1 18 v = nI ea ∧ ea + k = ec ∧ wt = b + k ∧ (∀ j, j < k → eit n so d SC SR v (ea + j) (b + j)) ∧ ((R = [] ∧ SC.2.1 16 v = -1 ∧ ea = 0 ∧ b = 0) ∨ ∃ u m l b', R.head? = some u ∧ SC.2.1 16 v = nI u ∧ u < v ∧ b = b' + 1 ∧ may n so on tw d SC SR u m l b' ∧ l ≤ ln ∧ SC.2.1 19 u = nI l ∧ stk n so on tw d SC SR R ea b' l)
section STK
variable {n : Nat} {so on tw : Nat → Int32} {d : Nat → Nat} {SC SR SC' SR' : mq_St}
theorem eit_c {w j e : Nat} (h : fw n so on tw d) (q : eit n so d SC SR w j e) (c20 : SC'.2.1 20 j = SC.2.1 20 j) (c5 : ∀ f, f < 320 → lb (SC'.2.2 5) j f = lb (SC.2.2 5) j f) (r25 : SR'.2.1 25 e = SR.2.1 25 e) (r26 : SR'.2.1 26 e = SR.2.1 26 e) (r27 : SR'.2.1 27 e = SR.2.1 27 e) (r28 : SR'.2.1 28 e = SR.2.1 28 e) (r30 : ∀ f, f < 320 → ib (SR'.2.1 30) e f = ib (SR.2.1 30) e f) : eit n so d SC' SR' w j e := by
  obtain ⟨q1, q2, q3, q4, q5, q6, q7⟩ := q
  refine ⟨r25.trans q1, r27.trans q2, r28.trans q3, ?_, fun f hf => by rw [r30 f hf, c5 f hf]; exact q5 f hf, fun f hf a => q6 f hf (by rw [← c5 f hf]; exact a), fun c hc a => q7 c hc ((cls_x h c5 hc).mp a)⟩
  rw [r26, c20]; exact q4
theorem may_c {p m l e : Nat} (h : fw n so on tw d) (q : may n so on tw d SC SR p m l e) (c3 : ∀ f, f < 320 → lb (SC'.2.2 3) p f = lb (SC.2.2 3) p f) (c4 : ∀ f, f < 320 → lb (SC'.2.2 4) p f = lb (SC.2.2 4) p f) (r25 : SR'.2.1 25 e = SR.2.1 25 e) (r26 : SR'.2.1 26 e = SR.2.1 26 e) (r27 : SR'.2.1 27 e = SR.2.1 27 e) (r29 : SR'.2.1 29 e = SR.2.1 29 e) (r30 : ∀ f, f < 320 → ib (SR'.2.1 30) e f = ib (SR.2.1 30) e f) : may n so on tw d SC' SR' p m l e := by
  obtain ⟨q1, q2, q2', q3, q4, q5, q6⟩ := q
  exact ⟨r25.trans q1, by rw [r26]; exact q2, q2', r27.trans q3, r29.trans q4, fun f hf => by rw [r30 f hf, c3 f hf]; exact q5 f hf, sat_x h c3 c4 q6⟩
/-- what the class changes above, and the reference above, leaves it -/
def kpC (SC SC' : mq_St) (v ec : Nat) : Prop := (∀ p, p ≤ v → SC'.2.1 16 p = SC.2.1 16 p ∧ SC'.2.1 18 p = SC.2.1 18 p) ∧ (∀ p, p < v → SC'.2.1 19 p = SC.2.1 19 p ∧ ∀ f, f < 320 → lb (SC'.2.2 3) p f = lb (SC.2.2 3) p f ∧ lb (SC'.2.2 4) p f = lb (SC.2.2 4) p f) ∧ ∀ j, j < ec → SC'.2.1 20 j = SC.2.1 20 j ∧ ∀ f, f < 320 → lb (SC'.2.2 5) j f = lb (SC.2.2 5) j f
def kpR (SR SR' : mq_St) (wt : Nat) : Prop := ∀ e, e < wt → SR'.2.1 25 e = SR.2.1 25 e ∧ SR'.2.1 26 e = SR.2.1 26 e ∧ SR'.2.1 27 e = SR.2.1 27 e ∧ SR'.2.1 28 e = SR.2.1 28 e ∧ SR'.2.1 29 e = SR.2.1 29 e ∧ ∀ f, f < 320 → ib (SR'.2.1 30) e f = ib (SR.2.1 30) e f
theorem kpR_m {wt wt' : Nat} (h : kpR SR SR' wt) (hw : wt' ≤ wt) : kpR SR SR' wt' := fun e he => h e (by omega)
theorem kpR_rf {wt : Nat} : kpR SR SR wt := fun e _ => ⟨rfl, rfl, rfl, rfl, rfl, fun _ _ => rfl⟩
theorem stk_c (h : fw n so on tw d) : ∀ (R : List Nat) (v ec wt ln ln' : Nat), ln ≤ ln' → kpC SC SC' v ec → kpR SR SR' wt → stk n so on tw d SC SR (v :: R) ec wt ln → stk n so on tw d SC' SR' (v :: R) ec wt ln'
  | R, v, ec, wt, ln, ln', hl, hC, hR, q => by
    obtain ⟨ea, k, b, a1, a2, a3, a4, a5⟩ := q
    refine ⟨ea, k, b, ((hC.1 v (Nat.le_refl _)).2).trans a1, a2, a3, fun j hj => ?_, ?_⟩
    · obtain ⟨r1, r2, r3, r4, -, r6⟩ := hR (b + j) (by omega)
      obtain ⟨c1, c2⟩ := hC.2.2 (ea + j) (by omega)
      exact eit_c h (a4 j hj) c1 c2 r1 r2 r3 r4 r6
    · rcases a5 with ⟨b1, b2, b3, b4⟩ | ⟨u, m, l, b', b1, b2, b3, b4, b5, b6, b7, b8⟩
      · exact Or.inl ⟨b1, ((hC.1 v (Nat.le_refl _)).1).trans b2, b3, b4⟩
      · obtain ⟨c1, c2⟩ := hC.2.1 u b3
        obtain ⟨r1, r2, r3, -, r5, r6⟩ := hR b' (by omega)
        refine Or.inr ⟨u, m, l, b', b1, ((hC.1 v (Nat.le_refl _)).1).trans b2, b3, b4, may_c h b5 (fun f hf => (c2 f hf).1) (fun f hf => (c2 f hf).2) r1 r2 r3 r5 r6, by omega, c1.trans b7, ?_⟩
        cases R with
        | nil => cases b1
        | cons u' r =>
          have : u' = u := by simpa using b1
          subst this
          refine stk_c h r u' ea b' l l (Nat.le_refl _) ⟨fun p hp => hC.1 p (by omega), fun p hp => hC.2.1 p (by omega), fun j hj => hC.2.2 j (by omega)⟩ (kpR_m hR (by omega)) b8
theorem stk_len : ∀ (R : List Nat) (v ec wt ln : Nat), stk n so on tw d SC SR (v :: R) ec wt ln → wt = ec + R.length ∧ R.length ≤ v
  | R, v, ec, wt, ln, q => by
    obtain ⟨ea, k, b, -, a2, a3, -, a5⟩ := q
    rcases a5 with ⟨b1, -, b3, b4⟩ | ⟨u, m, l, b', b1, -, b3, b4, -, -, -, b8⟩
    · rw [b1]; exact ⟨by simp; omega, by simp⟩
    · cases R with
      | nil => cases b1
      | cons u' r =>
        have : u' = u := by simpa using b1
        subst this
        have := stk_len r u' ea b' l b8
        simp only [List.length_cons]
        omega
/-- one more EITHER of the world at the head -/
theorem stk_put {R : List Nat} {v ec wt ln : Nat} (q : stk n so on tw d SC SR (v :: R) ec wt ln) (e : eit n so d SC SR v ec wt) : stk n so on tw d SC SR (v :: R) (ec + 1) (wt + 1) ln := by
  obtain ⟨ea, k, b, a1, a2, a3, a4, a5⟩ := q
  refine ⟨ea, k + 1, b, a1, by omega, by omega, fun j hj => ?_, a5⟩
  by_cases e' : j < k
  · exact a4 j e'
  · have : j = k := by omega
    rw [this, a2, ← a3]; exact e
end STK
