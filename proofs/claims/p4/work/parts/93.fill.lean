/-! build whole, dropTo, pairAll; the table in good order; denials. -/
section FILL
variable {N : Nat} {z : Nat → Nat} {S : mq_St} {W : List Tr} {L : List En}
theorem ck_build {m : Nat} {t : Tr} (hN : 1000 ≤ N) (hm : mt W m t) (hL : tbC S L) (h0 : ok0 L) (hd : dfb S W) (hn : nmb (S.2.1 11) W L) (hc : clo (S.2.1 11) W) (hD : S.2.1 11 m = -1) :
    ((mk t L).2.length ≤ 300 → ∃ S', zf_X2_build N z (nI m) S = some (nI (mk t L).1, S') ∧ tbC S' (mk t L).2 ∧ nmb (S'.2.1 11) W (mk t L).2 ∧ clo (S'.2.1 11) W ∧ S'.2.1 11 m = nI (mk t L).1 ∧ (∀ j, ¬ S.2.1 11 j = -1 → S'.2.1 11 j = S.2.1 11 j) ∧ (∀ j, m / 2 ≤ j / 2 → j ≠ m → S'.2.1 11 j = S.2.1 11 j) ∧ (∀ f, L.length ≤ f → f < (mk t L).2.length → ∃ j, j < 2 * W.length ∧ S'.2.1 11 j = nI f) ∧ (∀ f, f < L.length → S'.2.1 7 f = S.2.1 7 f) ∧ ag [2] [4, 5, 6, 7, 11, 12] [0] S S') ∧
    (300 < (mk t L).2.length → ∃ S' X, zf_X2_build N z (nI m) S = some (-1, S') ∧ tbC S' (L ++ X) ∧ (∀ f, f < L.length → S'.2.1 7 f = S.2.1 7 f) ∧ ag [2] [4, 5, 6, 7, 11, 12] [0] S S') := by
  have hl := mt_lt hm
  have h150 := hd.2.1
  have E : zf_X2_build N z (nI m) S = zf_X2_build_11 N z N (nI m) (nI 0) (nI 0) (mq_sa S 12 (upd (S.2.1 12) 0 (nI m))) := by
    have i0 : vp_in (0 : Int32) 150 := vp_in_nI (n := 0) (by omega) (by omega)
    unfold zf_X2_build
    rw [nI_e, mq_ck_of i0, show (0 : Int32).toNatClampNeg = 0 from nI_clamp (n := 0) (by omega), nS_e, nI_e]
    rfl
  have gS : ag [2] [4, 5, 6, 7, 11, 12] [0] S (mq_sa S 12 (upd (S.2.1 12) 0 (nI m))) := ag_sa (by decide)
  have hu := uc_le (S.2.1 11) (2 * (m / 2) + 2)
  obtain ⟨A, B⟩ := bd_all (N := N) (z := z) (v1 := nI m) (by omega) (m / 2) m t rfl hm (mq_sa S 12 (upd (S.2.1 12) 0 (nI m))) L 0 0 N hL h0 (dfb_c hd rfl rfl rfl rfl) hn hc (show upd (S.2.1 12) 0 (nI m) 0 = nI m from up_s _ _ _) hD (by omega) (by show 0 + 2 * uc (S.2.1 11) _ < _; omega) (by show 2 * uc (S.2.1 11) _ ≤ _; omega)
  refine ⟨fun q => ?_, fun q => ?_⟩
  · obtain ⟨S', turn', fuel', a1, a2, a3, a3c, a4, a5, a6, a7, a8, a9, a10, a11⟩ := A q
    refine ⟨S', ?_, a2, a3, a3c, a4, a5, a6, a9, a10, ag_tr gS a11⟩
    rw [E, a1]
    have hf : 1 ≤ fuel' := by
      have := (a8 (2 * (m / 2) + 2) (Nat.le_refl _)).1
      have hu' : uc ((mq_sa S 12 (upd (S.2.1 12) 0 (nI m))).2.1 11) (2 * (m / 2) + 2) ≤ 2 * (m / 2) + 2 := hu
      omega
    obtain ⟨fu, rfl⟩ : ∃ q, fuel' = q + 1 := ⟨fuel' - 1, by omega⟩
    have hd' := dfb_g hd (ag_tr gS a11)
    have e85 : zf_X2_build_85 N z (nI m) S' = some (nI (mk t L).1, S') := by
      unfold zf_X2_build_85
      rw [bn_of hd' hm, mq_cp_s, a4]
    show zf_X2_build_11b N z _ (nI m) (nI 0 + (-1)) (nI turn') S' = _
    unfold zf_X2_build_11b
    rw [e85, if_pos (by decide : nI 0 + (-1) < (0 : Int32))]
    by_cases qt : (1000000 : Int32) ≤ nI turn'
    · rw [if_pos qt]
    · rw [if_neg qt]
  · obtain ⟨S', X, b1, b2, b3, b4⟩ := B q
    exact ⟨S', X, E.trans b1, b2, b3, ag_tr gS b4⟩
theorem drop_loop {L : List En} : ∀ (n fuel : Nat) (S : mq_St) (X : List En), X.length = n → tbC S (L ++ X) → n < fuel → ∃ S', zf_X7_dropTo_7 N z fuel (nI L.length) (nI (L.length + n) - 1) S = some ((), S') ∧ tbC S' L ∧ ag [2] [] [0] S S' := by
  intro n
  induction n with
  | zero =>
    intro fuel S X hX h hf
    obtain ⟨fu, rfl⟩ : ∃ q, fuel = q + 1 := ⟨fuel - 1, by omega⟩
    have hx : X = [] := List.eq_nil_of_length_eq_zero hX
    rw [hx, List.append_nil] at h
    refine ⟨S, ?_, h, ag_rf⟩
    show zf_X7_dropTo_7b N z _ (nI L.length) (nI (L.length + 0) - 1) S = _
    unfold zf_X7_dropTo_7b
    have hl := h.2.1
    have e : nI (L.length + 0) - 1 < nI L.length := by
      rw [Int32.lt_iff_toInt_lt, show (nI (L.length + 0) - 1).toInt = ((L.length + 0 : Nat) : Int) - 1 from pk_sub_toInt (a := L.length + 0) (b := 1) (by omega) (by omega), nI_toInt (by omega)]
      omega
    rw [if_pos e]
  | succ n ih =>
    intro fuel S X hX h hf
    obtain ⟨fu, rfl⟩ : ∃ q, fuel = q + 1 := ⟨fuel - 1, by omega⟩
    obtain ⟨h1, h2, h3, h4, h5⟩ := h
    rw [List.length_append, hX] at h2
    have hlen : (L ++ X).length = L.length + n + 1 := by rw [List.length_append, hX]; omega
    have e1 : nI (L.length + (n + 1)) - 1 = nI (L.length + n) := nI_pred (L.length + n)
    obtain ⟨k, hk, ek⟩ := h5 (L.length + n) (by omega)
    show ∃ S', zf_X7_dropTo_7b N z (fun v1 v2 S => zf_X7_dropTo_7 N z fu v1 v2 S) (nI L.length) (nI (L.length + (n + 1)) - 1) S = some ((), S') ∧ _
    unfold zf_X7_dropTo_7b
    rw [e1, if_neg (nI_nlt (a := L.length + n) (b := L.length) (by omega) (by omega)), if_neg (nI_pos (by omega)), mq_ck_of (vp_in_nI (by omega) (by omega)), nI_clamp (by omega), ek]
    obtain ⟨w', p1, p2⟩ := se_drop (N := N) (R := 8) (z := fun k => [40].getD k 0) (S := mq_pull S [] [] [0]) (r := k) (f := L.length + n) rfl (by omega) hk (by omega)
    have p1' : zf_X6_drop N (fun k => [40].getD k 0) (nI k) (nI (L.length + n)) (mq_pull S [] [] [0]) = some ((), mq_sl (mq_pull S [] [] [0]) 0 w') := p1
    rw [p1', mq_cl_s, nS_e, nS_e, show nI (L.length + n) + (-1) = nI (L.length + n) - 1 from by rw [Int32.sub_eq_add_neg], nI_e]
    have hX0 : X ≠ [] := fun e => by rw [e] at hX; cases hX
    obtain ⟨S', a1, a2, a3⟩ := ih fu (mq_si (mq_push S (mq_sl (mq_pull S [] [] [0]) 0 w') [] [] [0]) 2 (nI (L.length + n))) X.dropLast (by rw [List.length_dropLast, hX]; rfl) ⟨by
      show nI (L.length + n) = nI (L ++ X.dropLast).length
      rw [List.length_append, List.length_dropLast, hX]; rfl, by
      rw [List.length_append, List.length_dropLast, hX]; omega, fun f hf => by
      rw [List.length_append, List.length_dropLast, hX] at hf
      have hf : f < L.length + n := hf
      have := h3 f (by omega)
      show (L ++ X.dropLast)[f]? = some (S.2.1 4 f, S.2.1 5 f, S.2.1 6 f)
      rw [← this]
      by_cases q : f < L.length
      · rw [List.getElem?_append_left q, List.getElem?_append_left q]
      · rw [List.getElem?_append_right (by omega), List.getElem?_append_right (by omega), List.getElem?_dropLast, if_pos (by omega)], fun s f hs hf => by
      show lb w' s f = decide (f < (L ++ X.dropLast).length ∧ S.2.1 4 f = nI s)
      rw [p2 s f hf, List.length_append, List.length_dropLast, hX]
      show (lb (S.2.2 0) s f && _) = decide (f < L.length + n ∧ S.2.1 4 f = nI s)
      rw [h4 s f hs hf, hlen]
      by_cases q : f = L.length + n
      · subst q
        rw [ek]
        by_cases q2 : k = s
        · subst q2; simp
        · rw [decide_eq_false (fun e : _ ∧ nI k = nI s => q2 (sp_inj e.2 (by omega) (by omega)))]
          simp
      · rw [decide_eq_false (fun e : s = k ∧ f = L.length + n => q e.2), Bool.not_false, Bool.and_true, decide_eq_decide]
        constructor
        · rintro ⟨x, y⟩; exact ⟨by omega, y⟩
        · rintro ⟨x, y⟩; exact ⟨by omega, y⟩, fun f hf => by
      rw [List.length_append, List.length_dropLast, hX] at hf
      have hf : f < L.length + n := hf
      exact h5 f (by omega)⟩ (by omega)
    refine ⟨S', a1, a2, ?_⟩
    refine ag_tr ?_ a3
    refine ag_tr ?_ (ag_si (by decide))
    exact ag_mono ag_push (by decide) (by decide) (by decide)
theorem ck_dropTo {L X : List En} (hN : 1000 ≤ N) (h : tbC S (L ++ X)) : ∃ S', zf_X7_dropTo N z (nI L.length) S = some ((), S') ∧ tbC S' L ∧ ag [2] [] [0] S S' := by
  have hl := h.2.1
  rw [List.length_append] at hl
  obtain ⟨S', a1, a2, a3⟩ := drop_loop (N := N) (z := z) (L := L) X.length N S X rfl h (by omega)
  refine ⟨S', ?_, a2, a3⟩
  unfold zf_X7_dropTo
  rw [nI_e, h.1, List.length_append]
  exact a1
end FILL
/-- parts come ahead -/
def ord (L : List En) : Prop := ∀ f e, L[f]? = some e → (e.1 = 4 ∨ e.1 = 5 → (∃ x : Nat, x < f ∧ e.2.1 = nI x) ∧ ∃ y : Nat, y < f ∧ e.2.2 = nI y) ∧ (e.1 = 6 ∨ e.1 = 7 → ∃ x : Nat, x < f ∧ e.2.1 = nI x)
theorem m1_ord {L : List En} {e : En} (h : ord L) (h1 : e.1 = 4 ∨ e.1 = 5 → (∃ x : Nat, x < L.length ∧ e.2.1 = nI x) ∧ ∃ y : Nat, y < L.length ∧ e.2.2 = nI y) (h2 : e.1 = 6 ∨ e.1 = 7 → ∃ x : Nat, x < L.length ∧ e.2.1 = nI x) : ord (m1 e L).2 := by
  unfold m1
  by_cases q : e ∈ L
  · rw [if_pos q]; exact h
  · rw [if_neg q]
    intro f u hu
    have hu : (L ++ [e])[f]? = some u := hu
    by_cases hf : f < L.length
    · rw [List.getElem?_append_left hf] at hu
      exact h f u hu
    · have hl := (List.getElem?_eq_some_iff.mp hu).1
      rw [List.length_append] at hl
      have hl : f < L.length + 1 := hl
      have ef : f = L.length := by omega
      rw [ef, List.getElem?_append_right (Nat.le_refl _), Nat.sub_self] at hu
      have : e = u := Option.some.inj hu
      rw [← this, ef]
      exact ⟨h1, h2⟩
theorem mk_ok0 {t : Tr} {L : List En} (h : ok0 L) : ok0 (mk t L).2 := by
  obtain ⟨X, e⟩ := mk_ext t L
  rw [e]
  exact ok0_app h X
theorem mk_ord : ∀ {t : Tr} {L : List En}, wf t → ok0 L → ord L → ord (mk t L).2
  | .num _, _, _, _, h => h
  | .var i, L, _, _, h => m1_ord h (fun q => by
      have q : nI (2 + i % 2) = 4 ∨ nI (2 + i % 2) = 5 := q
      have hv : ∀ n : Nat, ¬ (nI (2 + n % 2) = 4 ∨ nI (2 + n % 2) = 5) := fun n e => by
        rcases e with e | e
        · have := sp_inj (b := 4) e (by omega) (by omega); omega
        · have := sp_inj (b := 5) e (by omega) (by omega); omega
      exact absurd q (hv i)) (fun q => by
      have q : nI (2 + i % 2) = 6 ∨ nI (2 + i % 2) = 7 := q
      have hv : ∀ n : Nat, ¬ (nI (2 + n % 2) = 6 ∨ nI (2 + n % 2) = 7) := fun n e => by
        rcases e with e | e
        · have := sp_inj (b := 6) e (by omega) (by omega); omega
        · have := sp_inj (b := 7) e (by omega) (by omega); omega
      exact absurd q (hv i))
  | .add a b, L, w, h0, h => by
    have h1 := mk_ord w.1 h0 h
    have k1 := mk_ok0 (t := a) h0
    have h2 := mk_ord w.2 k1 h1
    have p1 := pr_lt w.1 k1 (pr_mk a L)
    have p2 := pr_lt w.2 (mk_ok0 k1) (pr_mk b (mk a L).2)
    have p3 := mk_len b (mk a L).2
    exact m1_ord h2 (fun _ => ⟨⟨_, by omega, rfl⟩, ⟨_, p2, rfl⟩⟩) (fun q => ⟨_, by omega, rfl⟩)
  | .sub a b, L, w, h0, h => by
    have h1 := mk_ord w.1 h0 h
    have k1 := mk_ok0 (t := a) h0
    have h2 := mk_ord w.2 k1 h1
    have p1 := pr_lt w.1 k1 (pr_mk a L)
    have p2 := pr_lt w.2 (mk_ok0 k1) (pr_mk b (mk a L).2)
    have p3 := mk_len b (mk a L).2
    exact m1_ord h2 (fun _ => ⟨⟨_, by omega, rfl⟩, ⟨_, p2, rfl⟩⟩) (fun q => ⟨_, by omega, rfl⟩)
  | .neg _, _, w, _, _ => w.elim
  | .mulL _ a, L, w, h0, h => by
    have h1 := mk_ord w.2 h0 h
    have p1 := pr_lt w.2 (mk_ok0 h0) (pr_mk a L)
    exact m1_ord h1 (fun q => absurd q (by show ¬ ((6 : Int32) = 4 ∨ (6 : Int32) = 5); decide)) (fun q => ⟨_, p1, rfl⟩)
  | .mulR a _, L, w, h0, h => by
    have h1 := mk_ord w.2 h0 h
    have p1 := pr_lt w.2 (mk_ok0 h0) (pr_mk a L)
    exact m1_ord h1 (fun q => absurd q (by show ¬ ((7 : Int32) = 4 ∨ (7 : Int32) = 5); decide)) (fun q => ⟨_, p1, rfl⟩)
/-- a table in good order: all entries are of trees, and their denials are there -/
def gtb (L : List En) : Prop := ok0 L ∧ L.length ≤ 300 ∧ ord L ∧ ∀ f, f < L.length → ∃ s, wf s ∧ pr s L f ∧ ∃ g, pr (du s) L g
noncomputable def dd (L : List En) (f : Nat) : Nat := @dite _ (∃ g s, wf s ∧ pr s L f ∧ pr (du s) L g) (Classical.propDecidable _) (fun h => Classical.choose h) (fun _ => 0)
theorem dd_is {L : List En} (h0 : ok0 L) (hl : L.length < 2147483648) {s : Tr} {f g : Nat} (w : wf s) (h1 : pr s L f) (h2 : pr (du s) L g) : dd L f = g := by
  have h : ∃ g s, wf s ∧ pr s L f ∧ pr (du s) L g := ⟨g, s, w, h1, h2⟩
  unfold dd
  rw [dif_pos h]
  obtain ⟨u, wu, p1, p2⟩ := Classical.choose_spec h
  have := pr_inj h0 hl wu w p1 h1
  rw [this] at p2
  exact pr_fn p2 h2
