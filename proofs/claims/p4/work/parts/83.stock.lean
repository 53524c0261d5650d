/-! The table on both sides: making one FORMULA. -/
def tbC (S : mq_St) (L : List En) : Prop := S.1 2 = nI L.length ∧ L.length ≤ 300 ∧ (∀ f, f < L.length → L[f]? = some (S.2.1 4 f, S.2.1 5 f, S.2.1 6 f)) ∧ (∀ s f, s < 8 → f < 320 → lb (S.2.2 0) s f = decide (f < L.length ∧ S.2.1 4 f = nI s)) ∧ ∀ f, f < L.length → ∃ k : Nat, k < 8 ∧ S.2.1 4 f = nI k
def tbR (S : mq_St) (L : List En) : Prop := S.1 3 = nI L.length ∧ L.length ≤ 300 ∧ ∀ f, f < L.length → L[f]? = some (S.2.1 2 f, S.2.1 3 f, S.2.1 4 f)
theorem ix_first {L : List En} {e : En} {k : Nat} (h : ∀ j, j < k → L[j]? ≠ some e) (hk : L[k]? = some e) : e ∈ L ∧ L.idxOf e = k := by
  have hm : e ∈ L := List.mem_of_getElem? hk
  refine ⟨hm, ?_⟩
  have hl := List.idxOf_lt_length_of_mem hm
  have hg : L[L.idxOf e]? = some e := by rw [List.getElem?_eq_getElem hl, List.getElem_idxOf hl]
  rcases Nat.lt_trichotomy (L.idxOf e) k with q | q | q
  · exact absurd hg (h _ q)
  · exact q
  · have hk' := (List.getElem?_eq_some_iff.mp hk)
    obtain ⟨h1, h2⟩ := hk'
    exfalso
    have := List.not_of_lt_findIdx (p := (· == e)) (xs := L) (i := k) q
    rw [h2] at this
    simp at this
theorem ix_none {L : List En} {e : En} (h : ∀ j, j < L.length → L[j]? ≠ some e) : ¬ e ∈ L := fun hm => by
  obtain ⟨i, hi⟩ := List.getElem?_of_mem hm
  exact h i (List.getElem?_eq_some_iff.mp hi).1 hi
theorem en_eq {a b c s x y : Int32} : (a, b, c) = ((s, x, y) : En) ↔ a = s ∧ b = x ∧ c = y := by
  rw [Prod.mk.injEq, Prod.mk.injEq]
theorem ck_find3 {N : Nat} {z : Nat → Nat} {S : mq_St} {L : List En} {s a b : Int32} (h : tbC S L) : ∀ (fuel k : Nat), k ≤ L.length → L.length - k < fuel → (∀ j, j < k → L[j]? ≠ some (s, a, b)) → zf_X7_find_3 N z S fuel s a b (nI k) = some (if (s, a, b) ∈ L then nI (L.idxOf (s, a, b)) else -1) := by
  obtain ⟨h1, h2, h3, -⟩ := h
  intro fuel
  induction fuel with
  | zero => intro k _ h; omega
  | succ fuel ih =>
    intro k hk hf hj
    show zf_X7_find_3b N z S _ s a b (nI k) = _
    unfold zf_X7_find_3b zf_X7_find_48
    rw [h1]
    by_cases e : k = L.length
    · subst e
      rw [if_pos (nI_le (Nat.le_refl _) (by omega)), if_neg (ix_none hj)]
    · have hin : vp_in (nI k) 300 := vp_in_nI (by omega) (by omega)
      have ecl : (nI k).toNatClampNeg = k := nI_clamp (by omega)
      rw [if_neg (nI_ge (a := k) (b := L.length) (by omega) (by omega))]
      simp only [mq_ck_of hin, ecl, mq_nI, nI_1]
      have hk3 := h3 k (by omega)
      have go : ¬ (S.2.1 4 k = s ∧ S.2.1 5 k = a ∧ S.2.1 6 k = b) → zf_X7_find_3 N z S fuel s a b (nI (k + 1)) = some (if (s, a, b) ∈ L then nI (L.idxOf (s, a, b)) else -1) := fun q => ih (k + 1) (by omega) (by omega) (fun j hj' => by
        by_cases ej : j = k
        · rw [ej, hk3]
          exact fun e => q (en_eq.mp (Option.some.inj e))
        · exact hj j (by omega))
      by_cases q1 : S.2.1 4 k = s
      · rw [if_pos q1]
        by_cases q2 : S.2.1 5 k = a
        · rw [if_pos q2]
          by_cases q3 : S.2.1 6 k = b
          · rw [if_pos q3]
            rw [q1, q2, q3] at hk3
            obtain ⟨m, i⟩ := ix_first hj hk3
            rw [if_pos m, i]
          · rw [if_neg q3]
            exact go (fun q => q3 q.2.2)
        · rw [if_neg q2]
          exact go (fun q => q2 q.2.1)
      · rw [if_neg q1]
        exact go (fun q => q1 q.1)
theorem ck_find {N : Nat} {z : Nat → Nat} {S : mq_St} {L : List En} {s a b : Int32} (hN : 400 ≤ N) (h : tbC S L) : zf_X7_find N z s a b S = some (if (s, a, b) ∈ L then nI (L.idxOf (s, a, b)) else -1) := by
  have := h.2.1
  exact ck_find3 h N 0 (by omega) (by omega) (fun j hj => by omega)
theorem ck_append {N k : Nat} {z : Nat → Nat} {S : mq_St} {L : List En} {a b : Int32} (h : tbC S L) (hk : k < 8) (hl : L.length < 300) : ∃ S', zf_X7_append N z (nI k) a b S = some (nI L.length, S') ∧ tbC S' (L ++ [(nI k, a, b)]) ∧ ag [2] [4, 5, 6, 7] [0] S S' ∧ (∀ f, f < L.length → S'.2.1 7 f = S.2.1 7 f) ∧ S'.2.1 7 L.length = -1 := by
  obtain ⟨h1, h2, h3, h4, h5⟩ := h
  unfold zf_X7_append
  have hin : vp_in (nI L.length) 300 := vp_in_nI (by omega) (by omega)
  have ecl : (nI L.length).toNatClampNeg = L.length := nI_clamp (by omega)
  have e300 : nI L.length < (300 : Int32) := nI_lt (a := L.length) (b := 300) hl (by omega)
  rw [h1, if_pos e300, nI_e, nI_1]
  simp only [mq_ck_of hin, ecl, nS_e]
  obtain ⟨w', p1, p2⟩ := se_put (N := N) (R := 8) (z := fun k => [40].getD k 0) (S := mq_pull (mq_sa (mq_sa (mq_sa (mq_sa (mq_si S 2 (nI (L.length + 1))) 4 (upd (S.2.1 4) L.length (nI k))) 5 (upd (S.2.1 5) L.length a)) 6 (upd (S.2.1 6) L.length b)) 7 (upd (S.2.1 7) L.length (-1))) [] [] [0]) (r := k) (f := L.length) rfl (by omega) hk (by omega)
  refine ⟨mq_push (mq_sa (mq_sa (mq_sa (mq_sa (mq_si S 2 (nI (L.length + 1))) 4 (upd (S.2.1 4) L.length (nI k))) 5 (upd (S.2.1 5) L.length a)) 6 (upd (S.2.1 6) L.length b)) 7 (upd (S.2.1 7) L.length (-1))) (mq_sl (mq_pull (mq_sa (mq_sa (mq_sa (mq_sa (mq_si S 2 (nI (L.length + 1))) 4 (upd (S.2.1 4) L.length (nI k))) 5 (upd (S.2.1 5) L.length a)) 6 (upd (S.2.1 6) L.length b)) 7 (upd (S.2.1 7) L.length (-1))) [] [] [0]) 0 w') [] [] [0], ?_, ⟨?_, ?_, ?_, ?_, ?_⟩, ?_, ?_, ?_⟩
  · have p1' : zf_X6_put N (fun k => [40].getD k 0) (nI k) (nI L.length) (mq_pull (mq_sa (mq_sa (mq_sa (mq_sa (mq_si S 2 (nI (L.length + 1))) 4 (upd (S.2.1 4) L.length (nI k))) 5 (upd (S.2.1 5) L.length a)) 6 (upd (S.2.1 6) L.length b)) 7 (upd (S.2.1 7) L.length (-1))) [] [] [0]) = _ := p1
    exact (congrArg (fun q => mq_cl q _) p1').trans rfl
  · show nI (L.length + 1) = nI (L ++ [_]).length
    rw [List.length_append]; rfl
  · rw [List.length_append]; show L.length + 1 ≤ 300; omega
  · intro f hf
    rw [List.length_append] at hf
    have hf : f < L.length + 1 := hf
    show _ = some (upd (S.2.1 4) L.length (nI k) f, upd (S.2.1 5) L.length a f, upd (S.2.1 6) L.length b f)
    by_cases e : f = L.length
    · rw [e, up_s, up_s, up_s, List.getElem?_append_right (Nat.le_refl _), Nat.sub_self]; rfl
    · rw [up_o e, up_o e, up_o e, List.getElem?_append_left (by omega)]
      exact h3 f (by omega)
  · intro s f hs hf
    show lb w' s f = decide (f < (L ++ [_]).length ∧ upd (S.2.1 4) L.length (nI k) f = nI s)
    rw [p2 s f hf, List.length_append]
    show (lb (S.2.2 0) s f || _) = decide (f < L.length + 1 ∧ _)
    rw [h4 s f hs hf]
    by_cases e : f = L.length
    · subst e
      rw [up_s, decide_eq_false (by omega), Bool.false_or, decide_eq_decide]
      constructor
      · rintro ⟨q, -⟩; exact ⟨by omega, by rw [q]⟩
      · rintro ⟨-, q⟩; exact ⟨(sp_inj q (by omega) (by omega)).symm, rfl⟩
    · rw [up_o e, decide_eq_false (fun q : s = k ∧ f = L.length => e q.2), Bool.or_false, decide_eq_decide]
      constructor
      · rintro ⟨q, q2⟩; exact ⟨by omega, q2⟩
      · rintro ⟨q, q2⟩; exact ⟨by omega, q2⟩
  · intro f hf
    rw [List.length_append] at hf
    have hf : f < L.length + 1 := hf
    show ∃ q : Nat, q < 8 ∧ upd (S.2.1 4) L.length (nI k) f = nI q
    by_cases e : f = L.length
    · rw [e, up_s]; exact ⟨k, hk, rfl⟩
    · rw [up_o e]; exact h5 f (by omega)
  · refine ag_tr ?_ (ag_mono ag_push (by decide) (by decide) (by decide))
    refine ag_tr ?_ (ag_sa (by decide))
    refine ag_tr ?_ (ag_sa (by decide))
    refine ag_tr ?_ (ag_sa (by decide))
    refine ag_tr ?_ (ag_sa (by decide))
    exact ag_si (by decide)
  · intro f hf
    exact up_o (by omega)
  · exact up_s _ _ _
theorem ck_make {N k : Nat} {z : Nat → Nat} {S : mq_St} {L : List En} {a b : Int32} (hN : 400 ≤ N) (h : tbC S L) (hk : k < 8) :
    ((m1 (nI k, a, b) L).2.length ≤ 300 → ∃ S', zf_X7_make N z (nI k) a b S = some (nI (m1 (nI k, a, b) L).1, S') ∧ tbC S' (m1 (nI k, a, b) L).2 ∧ ag [2] [4, 5, 6, 7] [0] S S' ∧ ∀ f, f < L.length → S'.2.1 7 f = S.2.1 7 f) ∧
    (300 < (m1 (nI k, a, b) L).2.length → zf_X7_make N z (nI k) a b S = some (-1, S)) := by
  have hl := h.2.1
  unfold zf_X7_make m1
  rw [ck_find hN h, mq_cp_s, nI_e]
  by_cases e : (nI k, a, b) ∈ L
  · have hi := List.idxOf_lt_length_of_mem e
    rw [if_pos e, if_pos e, if_neg (nI_nm1 (by omega))]
    exact ⟨fun _ => ⟨S, rfl, h, ag_rf, fun _ _ => rfl⟩, fun q => absurd q (by show ¬ 300 < L.length; omega)⟩
  · rw [if_neg e, if_neg e, if_pos rfl]
    refine ⟨fun q => ?_, fun q => ?_⟩
    · have q : L.length + 1 ≤ 300 := by rw [List.length_append] at q; exact q
      obtain ⟨S', a1, a2, a3, a4, -⟩ := ck_append (N := N) (z := z) (a := a) (b := b) h hk (by omega)
      exact ⟨S', by rw [a1, mq_cl_s], a2, a3, a4⟩
    · have q : 300 < L.length + 1 := by rw [List.length_append] at q; exact q
      unfold zf_X7_append
      have e300 : ¬ nI L.length < (300 : Int32) := nI_nlt (a := L.length) (b := 300) (by omega) (by omega)
      rw [h.1, if_neg e300, mq_cl_s]
theorem rf_make3 {N : Nat} {z : Nat → Nat} {S : mq_St} {L : List En} {s a b : Int32} (h : tbR S L) : ∀ (fuel k : Nat), k ≤ L.length → L.length - k < fuel → (∀ j, j < k → L[j]? ≠ some (s, a, b)) →
    ((m1 (s, a, b) L).2.length ≤ 300 → ∃ S', zf_X11_make_3 N z fuel s a b (nI k) S = some (nI (m1 (s, a, b) L).1, S') ∧ tbR S' (m1 (s, a, b) L).2 ∧ ag [3] [2, 3, 4] [] S S') ∧
    (300 < (m1 (s, a, b) L).2.length → zf_X11_make_3 N z fuel s a b (nI k) S = some (0, mq_si S 6 1)) := by
  have hall := h
  obtain ⟨h1, h2, h3⟩ := h
  intro fuel
  induction fuel with
  | zero => intro k _ h; omega
  | succ fuel ih =>
    intro k hk hf hj
    have hsh : zf_X11_make_3 N z (fuel + 1) s a b (nI k) S = zf_X11_make_3b N z (fun v1 v2 v3 v4 S => zf_X11_make_3 N z fuel v1 v2 v3 v4 S) s a b (nI k) S := rfl
    rw [hsh]
    unfold zf_X11_make_3b zf_X11_make_48
    rw [h1]
    by_cases e : k = L.length
    · subst e
      have hno := ix_none hj
      unfold m1
      rw [if_pos (nI_le (Nat.le_refl _) (by omega)), if_neg hno]
      refine ⟨fun q => ?_, fun q => ?_⟩
      · have q : L.length + 1 ≤ 300 := by rw [List.length_append] at q; exact q
        have e300 : ¬ nI L.length = (300 : Int32) := fun e => by have := sp_inj (b := 300) e (by omega) (by omega); omega
        have hin : vp_in (nI L.length) 300 := vp_in_nI (by omega) (by omega)
        have ecl : (nI L.length).toNatClampNeg = L.length := nI_clamp (by omega)
        rw [if_neg e300]
        refine ⟨mq_si (mq_sa (mq_sa (mq_sa S 2 (upd (S.2.1 2) L.length s)) 3 (upd (S.2.1 3) L.length a)) 4 (upd (S.2.1 4) L.length b)) 3 (nI (L.length + 1)), ?_, ⟨?_, ?_, ?_⟩, ?_⟩
        · simp only [mq_ck_of hin, ecl, nS_e, sa_1, h1, sa_2, si_1, if_pos, nI_1, nI_pred]
          rfl
        · show nI (L.length + 1) = nI (L ++ [_]).length
          rw [List.length_append]; rfl
        · rw [List.length_append]; exact q
        · intro f hf
          rw [List.length_append] at hf
          have hf : f < L.length + 1 := hf
          show _ = some (upd (S.2.1 2) L.length s f, upd (S.2.1 3) L.length a f, upd (S.2.1 4) L.length b f)
          by_cases e : f = L.length
          · rw [e, up_s, up_s, up_s, List.getElem?_append_right (Nat.le_refl _), Nat.sub_self]; rfl
          · rw [up_o e, up_o e, up_o e, List.getElem?_append_left (by omega)]
            exact h3 f (by omega)
        · refine ag_tr ?_ (ag_si (by decide))
          refine ag_tr ?_ (ag_sa (by decide))
          refine ag_tr ?_ (ag_sa (by decide))
          exact ag_sa (by decide)
      · have q : 300 < L.length + 1 := by rw [List.length_append] at q; exact q
        have e300 : L.length = 300 := by omega
        rw [e300, if_pos (by decide : nI 300 = 300), mq_cz_1, nS_e]
    · have hin : vp_in (nI k) 300 := vp_in_nI (by omega) (by omega)
      have ecl : (nI k).toNatClampNeg = k := nI_clamp (by omega)
      rw [if_neg (nI_ge (a := k) (b := L.length) (by omega) (by omega))]
      simp only [mq_ck_of hin, ecl, mq_nI, nI_1]
      have hk3 := h3 k (by omega)
      have go := fun (q : ¬ (S.2.1 2 k = s ∧ S.2.1 3 k = a ∧ S.2.1 4 k = b)) => ih (k + 1) (by omega) (by omega) (fun j hj' => by
        by_cases ej : j = k
        · rw [ej, hk3]
          exact fun e => q (en_eq.mp (Option.some.inj e))
        · exact hj j (by omega))
      by_cases q1 : S.2.1 2 k = s
      · rw [if_pos q1]
        by_cases q2 : S.2.1 3 k = a
        · rw [if_pos q2]
          by_cases q3 : S.2.1 4 k = b
          · rw [if_pos q3]
            rw [q1, q2, q3] at hk3
            obtain ⟨m, i⟩ := ix_first hj hk3
            unfold m1
            rw [if_pos m, i]
            exact ⟨fun _ => ⟨S, rfl, hall, ag_rf⟩, fun q => absurd q (by show ¬ 300 < L.length; omega)⟩
          · rw [if_neg q3]
            exact go (fun q => q3 q.2.2)
        · rw [if_neg q2]
          exact go (fun q => q2 q.2.1)
      · rw [if_neg q1]
        exact go (fun q => q1 q.1)
theorem rf_mk {N : Nat} {z : Nat → Nat} {S : mq_St} {L : List En} {s a b : Int32} (hN : 400 ≤ N) (h : tbR S L) :
    ((m1 (s, a, b) L).2.length ≤ 300 → ∃ S', zf_X11_make N z s a b S = some (nI (m1 (s, a, b) L).1, S') ∧ tbR S' (m1 (s, a, b) L).2 ∧ ag [3] [2, 3, 4] [] S S') ∧
    (300 < (m1 (s, a, b) L).2.length → zf_X11_make N z s a b S = some (0, mq_si S 6 1)) := by
  have := h.2.1
  exact rf_make3 h N 0 (by omega) (by omega) (fun j hj => by omega)
