/-! The tableau: clashes, what comes to a SET, steps and lines. -/
def cls (so : Nat → Int32) (d : Nat → Nat) (X : Nat → Bool) (c : Nat) : Prop := (so c = 1 ∧ X c = true) ∨ (so c = 2 ∧ X c = true ∧ X (d c) = true)
def clV (n : Nat) (so : Nat → Int32) (d : Nat → Nat) (X : Nat → Bool) (v : Int32) : Prop := (v = -1 ∧ ∀ c, c < n → ¬ cls so d X c) ∨ ∃ c, c < n ∧ v = nI c ∧ cls so d X c ∧ ∀ c', c' < c → ¬ cls so d X c'
theorem clV_same {n : Nat} {so : Nat → Int32} {d : Nat → Nat} {X X' : Nat → Bool} {v : Int32} (h : clV n so d X v) (e : ∀ c, c < n → (cls so d X' c ↔ cls so d X c)) : clV n so d X' v := by
  rcases h with ⟨a, b⟩ | ⟨c, c1, c2, c3, c4⟩
  · exact Or.inl ⟨a, fun c hc q => b c hc ((e c hc).mp q)⟩
  · exact Or.inr ⟨c, c1, c2, (e c c1).mpr c3, fun c' h' q => c4 c' h' ((e c' (by omega)).mp q)⟩
theorem clV_hit {n h : Nat} {so : Nat → Int32} {d : Nat → Nat} {X X' : Nat → Bool} {v : Int32} (hn : n ≤ 300) (hh : h < n) (hv : clV n so d X v) (e : ∀ c, c < n → (cls so d X' c ↔ cls so d X c ∨ c = h)) : (v = -1 → clV n so d X' (nI h)) ∧ (¬ v = -1 → clV n so d X' (mq_min v (nI h))) := by
  rcases hv with ⟨a, b⟩ | ⟨c, c1, c2, c3, c4⟩
  · refine ⟨fun _ => Or.inr ⟨h, hh, rfl, (e h hh).mpr (Or.inr rfl), fun c' h' q => ?_⟩, fun q => absurd a q⟩
    rcases (e c' (by omega)).mp q with q | q
    · exact b c' (by omega) q
    · omega
  · refine ⟨fun q => by rw [c2] at q; exact absurd q (nI_nm1 (by omega)), fun _ => ?_⟩
    rw [c2]
    unfold mq_min
    by_cases q : h < c
    · rw [if_pos (nI_lt q (by omega))]
      refine Or.inr ⟨h, hh, rfl, (e h hh).mpr (Or.inr rfl), fun c' h' x => ?_⟩
      rcases (e c' (by omega)).mp x with x | x
      · exact c4 c' (by omega) x
      · omega
    · rw [if_neg (nI_nlt (by omega) (by omega))]
      refine Or.inr ⟨c, c1, rfl, (e c c1).mpr (Or.inl c3), fun c' h' x => ?_⟩
      rcases (e c' (by omega)).mp x with x | x
      · exact c4 c' h' x
      · omega
/-- letters and their opposites -/
theorem fw_let {n f : Nat} {so on tw : Nat → Int32} {d : Nat → Nat} (h : fw n so on tw d) (hf : f < n) : (so f = 2 → d f < n ∧ so (d f) = 3 ∧ on (d f) = on f ∧ d (d f) = f) ∧ (so f = 3 → d f < n ∧ so (d f) = 2 ∧ on (d f) = on f ∧ d (d f) = f) ∧ (so f = 1 → f = 1) := by
  have hd := h.2.2.2.1
  have key : ∀ g, g < n → (so g = 2 ∨ so g = 3) → ((so g = 2 ∧ so (d g) = 3) ∨ (so g = 3 ∧ so (d g) = 2)) ∧ on (d g) = on g ∧ tw (d g) = -1 ∧ tw g = -1 := by
    intro g hg q
    rcases h.2.2.2.2 g hg with ⟨-, e, -⟩ | ⟨-, e, -⟩ | ⟨e, e1, e2, e3, -⟩ | ⟨e, -⟩ | ⟨e, -⟩
    · rw [e] at q; rcases q with q | q <;> exact absurd q (by decide)
    · rw [e] at q; rcases q with q | q <;> exact absurd q (by decide)
    · exact ⟨e, e1, e2, e3⟩
    · rcases e with ⟨e, -⟩ | ⟨e, -⟩ <;> (rw [e] at q; rcases q with q | q <;> exact absurd q (by decide))
    · rcases e with ⟨e, -⟩ | ⟨e, -⟩ <;> (rw [e] at q; rcases q with q | q <;> exact absurd q (by decide))
  have both : ∀ g, g < n → (so g = 2 ∨ so g = 3) → d (d g) = g := by
    intro g hg q
    obtain ⟨a1, a2, a3, a4⟩ := key g hg q
    have hdg := hd g hg
    obtain ⟨b1, b2, b3, b4⟩ := key (d g) hdg (a1.elim (fun x => Or.inr x.2) (fun x => Or.inl x.2))
    refine h.2.2.1 (d (d g)) g (hd _ hdg) hg ?_ (b2.trans a2) (b3.trans a4.symm)
    rcases a1 with ⟨x1, x2⟩ | ⟨x1, x2⟩
    · rcases b1 with ⟨y1, y2⟩ | ⟨y1, y2⟩
      · rw [x2] at y1; exact absurd y1 (by decide)
      · rw [y2, x1]
    · rcases b1 with ⟨y1, y2⟩ | ⟨y1, y2⟩
      · rw [y2, x1]
      · rw [x2] at y1; exact absurd y1 (by decide)
  refine ⟨fun q => ?_, fun q => ?_, fun q => ?_⟩
  · obtain ⟨a1, a2, -, -⟩ := key f hf (Or.inl q)
    refine ⟨hd f hf, ?_, a2, both f hf (Or.inl q)⟩
    rcases a1 with ⟨-, x⟩ | ⟨x, -⟩
    · exact x
    · rw [x] at q; exact absurd q (by decide)
  · obtain ⟨a1, a2, -, -⟩ := key f hf (Or.inr q)
    refine ⟨hd f hf, ?_, a2, both f hf (Or.inr q)⟩
    rcases a1 with ⟨x, -⟩ | ⟨-, x⟩
    · rw [x] at q; exact absurd q (by decide)
    · exact x
  · rcases h.2.2.2.2 f hf with ⟨-, e, -⟩ | ⟨e, -⟩ | ⟨e, -⟩ | ⟨e, -⟩ | ⟨e, -⟩
    · rw [e] at q; exact absurd q (by decide)
    · exact e
    · rcases e with ⟨e, -⟩ | ⟨e, -⟩ <;> (rw [e] at q; exact absurd q (by decide))
    · rcases e with ⟨e, -⟩ | ⟨e, -⟩ <;> (rw [e] at q; exact absurd q (by decide))
    · rcases e with ⟨e, -⟩ | ⟨e, -⟩ <;> (rw [e] at q; exact absurd q (by decide))
/-- one more in a row -/
def ad1 (w f : Nat) (l l' : Nat → Int64) : Prop := ∀ r g, g < 320 → lb l' r g = (lb l r g || decide (r = w ∧ g = f))
theorem push1 {S : mq_St} {k : Nat} {l : Nat → Int64} : mq_push S (mq_sl (mq_pull S [] [] [k]) 0 l) [] [] [k] = mq_sl S k l := by
  refine Prod.ext rfl (Prod.ext rfl ?_)
  funext q
  show (match [k].idxOf? q with | some j => (mq_sl (mq_pull S [] [] [k]) 0 l).2.2 j | none => S.2.2 q) = if q = k then l else S.2.2 q
  by_cases e : q = k
  · subst e
    have : [q].idxOf? q = some 0 := by simp [List.idxOf?, List.findIdx?_cons]
    rw [this, if_pos rfl]
    rfl
  · rw [if_neg e, List.idxOf?_eq_none_iff.mpr (by simpa using e)]
section ADD
variable {N n : Nat} {z : Nat → Nat} {S : mq_St} {so on tw : Nat → Int32} {d : Nat → Nat} {w : Nat}
theorem ck_add {f : Nat} (hc : cxC S n so on tw d) (hw : w < 60) (h16 : S.1 16 = nI w) (hf : f < n) (hcl : clV n so d (lb (S.2.2 3) w) (S.1 17)) :
    ∃ S' l3 l4, zf_X8_add N z (nI f) S = some ((), S') ∧ S'.2.2 3 = l3 ∧ S'.2.2 4 = l4 ∧ ad1 w f (S.2.2 3) l3 ∧ ad1 w f (S.2.2 4) l4 ∧ clV n so d (lb l3 w) (S'.1 17) ∧ ag [17] [] [3, 4] S S' := by
  have h3 := hc.2.2.2.2.1
  obtain ⟨l3, a1, a2⟩ := se_put (N := N) (R := 60) (z := fun k => [300].getD k 0) (S := mq_pull S [] [] [3]) (r := w) (f := f) rfl (by omega) hw (by omega)
  obtain ⟨l4, b1, b2⟩ := se_put (N := N) (R := 60) (z := fun k => [300].getD k 0) (S := mq_pull (mq_sl S 3 l3) [] [] [4]) (r := w) (f := f) rfl (by omega) hw (by omega)
  have a2 : ad1 w f (S.2.2 3) l3 := a2
  have b2 : ad1 w f (S.2.2 4) l4 := b2
  let S2 : mq_St := mq_sl (mq_sl S 3 l3) 4 l4
  have g2 : ag [17] [] [3, 4] S S2 := ag_tr (ag_sl (by decide)) (ag_sl (by decide))
  have hc2 : cxC S2 n so on tw d := cxC_c hc rfl rfl rfl rfl rfl rfl
  have hX : ∀ g, g < 320 → lb l3 w g = (lb (S.2.2 3) w g || decide (g = f)) := fun g hg => by
    rw [a2 w g hg]
    congr 1
    rw [decide_eq_decide]
    exact ⟨fun q => q.2, fun q => ⟨rfl, q⟩⟩
  have E0 : zf_X8_add N z (nI f) S = mq_cp (zf_X8_clashWith N z (nI f) S2) (fun x9 => if x9 = -1 then some ((), S2) else if S2.1 17 = -1 then some ((), mq_si S2 17 x9) else some ((), mq_si S2 17 (mq_min (S2.1 17) x9))) := by
    unfold zf_X8_add zf_X8_add_62
    rw [if_neg (nI_nm1 (by omega)), h16]
    have a1' : zf_X6_put N (fun k => [300].getD k 0) (nI w) (nI f) (mq_pull S [] [] [3]) = some ((), mq_sl (mq_pull S [] [] [3]) 0 l3) := a1
    rw [a1', mq_cl_s, nS_e, push1, show (mq_sl S 3 l3).1 16 = nI w from h16]
    have b1' : zf_X6_put N (fun k => [300].getD k 0) (nI w) (nI f) (mq_pull (mq_sl S 3 l3) [] [] [4]) = some ((), mq_sl (mq_pull (mq_sl S 3 l3) [] [] [4]) 0 l4) := b1
    rw [b1', mq_cl_s, nS_e, push1]
    simp only [nI_e, nS_e]
    rfl
  obtain ⟨i0, -, -, i3⟩ := ck_in (N := N) (z := z) hc2.1 h3 hf
  rw [(hc2.2.1 f hf).1] at i0
  rw [(hc2.2.1 f hf).2.2.2] at i3
  obtain ⟨L2, L3, L1⟩ := fw_let hc.2.2.2 hf
  have hdl := hc.2.2.2.2.2.2.1
  -- no hit
  have none : zf_X8_clashWith N z (nI f) S2 = some (-1) → (∀ c, c < n → (cls so d (lb l3 w) c ↔ cls so d (lb (S.2.2 3) w) c)) → ∃ S' l3 l4, zf_X8_add N z (nI f) S = some ((), S') ∧ S'.2.2 3 = l3 ∧ S'.2.2 4 = l4 ∧ ad1 w f (S.2.2 3) l3 ∧ ad1 w f (S.2.2 4) l4 ∧ clV n so d (lb l3 w) (S'.1 17) ∧ ag [17] [] [3, 4] S S' := by
    intro q hcc
    exact ⟨S2, l3, l4, by rw [E0, q, mq_cp_s, if_pos rfl], rfl, rfl, a2, b2, clV_same hcl hcc, g2⟩
  have hit : ∀ h, h < n → zf_X8_clashWith N z (nI f) S2 = some (nI h) → (∀ c, c < n → (cls so d (lb l3 w) c ↔ cls so d (lb (S.2.2 3) w) c ∨ c = h)) → ∃ S' l3 l4, zf_X8_add N z (nI f) S = some ((), S') ∧ S'.2.2 3 = l3 ∧ S'.2.2 4 = l4 ∧ ad1 w f (S.2.2 3) l3 ∧ ad1 w f (S.2.2 4) l4 ∧ clV n so d (lb l3 w) (S'.1 17) ∧ ag [17] [] [3, 4] S S' := by
    intro h hh q hcc
    obtain ⟨c1, c2⟩ := clV_hit h3 hh hcl hcc
    rw [q, mq_cp_s, if_neg (nI_nm1 (by omega))] at E0
    by_cases e : S.1 17 = -1
    · rw [if_pos (show S2.1 17 = -1 from e)] at E0
      exact ⟨_, l3, l4, E0, rfl, rfl, a2, b2, c1 e, ag_tr g2 (ag_si (by decide))⟩
    · rw [if_neg (show ¬ S2.1 17 = -1 from e)] at E0
      exact ⟨_, l3, l4, E0, rfl, rfl, a2, b2, c2 e, ag_tr g2 (ag_si (by decide))⟩
  by_cases s1 : so f = 1
  · refine hit f hf ?_ (fun c hcn => ?_)
    · unfold zf_X8_clashWith
      rw [i0, mq_cp_s, nI_e, s1, if_pos rfl]
    · unfold cls
      by_cases e : c = f
      · rw [e, hX f (by omega), decide_eq_true rfl, Bool.or_true]
        exact ⟨fun _ => Or.inr rfl, fun _ => Or.inl ⟨s1, rfl⟩⟩
      · rw [hX c (by omega), decide_eq_false e, Bool.or_false]
        constructor
        · rintro (q | ⟨q1, q2, q3⟩)
          · exact Or.inl (Or.inl q)
          · have hdc := hdl c hcn
            rw [hX (d c) (by omega)] at q3
            by_cases e2 : d c = f
            · have := (fw_let hc.2.2.2 hcn).1 q1
              rw [e2, s1] at this
              exact absurd this.2.1 (by decide)
            · rw [decide_eq_false e2, Bool.or_false] at q3
              exact Or.inl (Or.inr ⟨q1, q2, q3⟩)
        · rintro ((q | ⟨q1, q2, q3⟩) | q)
          · exact Or.inl q
          · exact Or.inr ⟨q1, q2, by rw [hX (d c) (by have := hdl c hcn; omega), q3, Bool.true_or]⟩
          · exact absurd q e
  · have i3' : zf_X7_denialOf N z (nI f) S2 = some (nI (d f)) := i3
    have hdf := hdl f hf
    have hhas := ck_set (N := N) (S := S2) (f := d f) hw h16 (by omega)
    have hhas : zf_X6_has N (fun k => [300].getD k 0) (S2.1 16) (nI (d f)) (mq_pull S2 [] [] [3]) = some (if lb l3 w (d f) = true then 1 else 0) := hhas
    by_cases s23 : so f = 2 ∨ so f = 3
    · -- a letter, or an opposite
      have lt : ∃ h, h < n ∧ so h = 2 ∧ (h = f ∨ h = d f) ∧ (d h = f ∨ d h = d f) ∧ (so f = 2 → h = f) ∧ (so f = 3 → h = d f) ∧ (h = f → d h = d f) ∧ (h = d f → d h = f) := by
        rcases s23 with q | q
        · exact ⟨f, hf, q, Or.inl rfl, Or.inr rfl, fun _ => rfl, fun x => by rw [q] at x; exact absurd x (by decide), fun _ => rfl, fun x => x.symm⟩
        · exact ⟨d f, hdf, (L3 q).2.1, Or.inr rfl, Or.inl (L3 q).2.2.2, fun x => by rw [q] at x; exact absurd x (by decide), fun _ => rfl, fun x => by
            rw [(L3 q).2.2.2]
            exact x.symm, fun _ => (L3 q).2.2.2⟩
      obtain ⟨h, hh, hs, h1, h2, h3', h4', h5', h6'⟩ := lt
      have hne : d f ≠ f := fun x => by
        rcases s23 with q | q
        · have := (L2 q).2.1; rw [x, q] at this; exact absurd this (by decide)
        · have := (L3 q).2.1; rw [x, q] at this; exact absurd this (by decide)
      have CW : zf_X8_clashWith N z (nI f) S2 = if lb l3 w (d f) = true then some (nI h) else some (-1) := by
        unfold zf_X8_clashWith zf_X8_clashWith_26 zf_X8_clashWith_31
        rw [i0, mq_cp_s, nI_e, if_neg s1]
        simp only [nI_e, if_neg (show ¬ (1 : Int32) = 0 by decide), i3', mq_cp_s, hhas]
        rcases s23 with q | q
        · simp only [if_pos q, h3' q]
          cases lb l3 w (d f) <;> rfl
        · have n2 : ¬ so f = 2 := by rw [q]; decide
          simp only [if_neg n2, if_pos q, h4' q]
          cases lb l3 w (d f) <;> rfl
      -- clashes
      have other : ∀ c, c < n → c ≠ h → (cls so d (lb l3 w) c ↔ cls so d (lb (S.2.2 3) w) c) := by
        intro c hcn hch
        have hdc := hdl c hcn
        unfold cls
        constructor
        · rintro (⟨q1, q2⟩ | ⟨q1, q2, q3⟩)
          · refine Or.inl ⟨q1, ?_⟩
            rw [hX c (by omega), decide_eq_false (fun x => s1 (by rw [← x]; exact q1)), Bool.or_false] at q2
            exact q2
          · have cf : c ≠ f := fun x => by
              rw [x] at q1
              exact hch (x.trans (h3' q1).symm)
            have df : d c ≠ f := fun x => by
              obtain ⟨-, y1, -, y2⟩ := (fw_let hc.2.2.2 hcn).1 q1
              rw [x] at y1 y2
              exact hch (y2.symm.trans (h4' y1).symm)
            rw [hX c (by omega), decide_eq_false cf, Bool.or_false] at q2
            rw [hX (d c) (by omega), decide_eq_false df, Bool.or_false] at q3
            exact Or.inr ⟨q1, q2, q3⟩
        · rintro (⟨q1, q2⟩ | ⟨q1, q2, q3⟩)
          · exact Or.inl ⟨q1, by rw [hX c (by omega), q2, Bool.true_or]⟩
          · exact Or.inr ⟨q1, by rw [hX c (by omega), q2, Bool.true_or], by rw [hX (d c) (by omega), q3, Bool.true_or]⟩
      have lf : lb l3 w f = true := by rw [hX f (by omega), decide_eq_true rfl, Bool.or_true]
      have clh : cls so d (lb l3 w) h ↔ lb l3 w (d f) = true := by
        unfold cls
        constructor
        · rintro (⟨q1, -⟩ | ⟨-, q2, q3⟩)
          · rw [hs] at q1; exact absurd q1 (by decide)
          · rcases h1 with e | e
            · rw [h5' e] at q3; exact q3
            · rw [e] at q2; exact q2
        · intro q
          refine Or.inr ⟨hs, ?_, ?_⟩
          · rcases h1 with e | e
            · rw [e]; exact lf
            · rw [e]; exact q
          · rcases h1 with e | e
            · rw [h5' e]; exact q
            · rw [h6' e]; exact lf
      cases hb : lb l3 w (d f) with
      | true =>
        rw [hb, if_pos rfl] at CW
        refine hit h hh CW (fun c hcn => ?_)
        by_cases e : c = h
        · rw [e]
          exact ⟨fun _ => Or.inr rfl, fun _ => clh.mpr hb⟩
        · rw [other c hcn e]
          exact ⟨fun q => Or.inl q, fun q => q.resolve_right e⟩
      | false =>
        rw [hb, if_neg (by decide)] at CW
        refine none CW (fun c hcn => ?_)
        by_cases e : c = h
        · rw [e]
          constructor
          · intro q
            have := clh.mp q
            rw [hb] at this
            cases this
          · rintro (⟨q1, -⟩ | ⟨-, q2, q3⟩)
            · rw [hs] at q1; exact absurd q1 (by decide)
            · have : lb (S.2.2 3) w (d f) = true := by
                rcases h1 with x | x
                · rw [h5' x] at q3; exact q3
                · rw [x] at q2; exact q2
              rw [hX (d f) (by omega), this, Bool.true_or] at hb
              cases hb
        · exact other c hcn e
    · refine none ?_ (fun c hcn => ?_)
      · unfold zf_X8_clashWith zf_X8_clashWith_31
        rw [i0, mq_cp_s, nI_e, if_neg s1, if_neg (fun q => s23 (Or.inl q)), if_neg (fun q => s23 (Or.inr q)), nI_e, if_pos rfl]
      · have hdc := hdl c hcn
        unfold cls
        constructor
        · rintro (⟨q1, q2⟩ | ⟨q1, q2, q3⟩)
          · rw [hX c (by omega), decide_eq_false (fun x => s1 (by rw [← x]; exact q1)), Bool.or_false] at q2
            exact Or.inl ⟨q1, q2⟩
          · have df : d c ≠ f := fun x => by
              have y := ((fw_let hc.2.2.2 hcn).1 q1).2.1
              rw [x] at y
              exact s23 (Or.inr y)
            rw [hX c (by omega), decide_eq_false (fun x => s23 (Or.inl (by rw [← x]; exact q1))), Bool.or_false] at q2
            rw [hX (d c) (by omega), decide_eq_false df, Bool.or_false] at q3
            exact Or.inr ⟨q1, q2, q3⟩
        · rintro (⟨q1, q2⟩ | ⟨q1, q2, q3⟩)
          · exact Or.inl ⟨q1, by rw [hX c (by omega), q2, Bool.true_or]⟩
          · exact Or.inr ⟨q1, by rw [hX c (by omega), q2, Bool.true_or], by rw [hX (d c) (by omega), q3, Bool.true_or]⟩
theorem ck_addm : zf_X8_add N z (-1) S = some ((), S) := by
  unfold zf_X8_add
  rw [if_pos rfl]
end ADD
