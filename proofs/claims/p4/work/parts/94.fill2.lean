/-! The table in good order as set() and tell() ask for it; pairs; fill. -/
theorem pr_ix {L : List En} (h0 : ok0 L) {s : Tr} {f : Nat} (w : wf s) (h : pr s L f) : ∀ e, L[f]? = some e → f = L.idxOf e := by
  intro e he
  have hg := pr_get w h0 h
  rw [he] at hg
  have hg := Option.some.inj hg
  cases s with
  | num v =>
    have hv : v = 0 ∨ v = 1 := w
    rcases hv with rfl | rfl
    · have hf : f = 0 := pr_num.mp h
      rw [hf] at he ⊢
      exact (ix_first (fun j hj => by omega) he).2.symm
    · have hf : f = 1 := pr_num.mp h
      rw [hf] at he ⊢
      refine (ix_first (fun j hj => ?_) he).2.symm
      have : j = 0 := by omega
      rw [this, h0.1, hg]
      exact fun q => absurd (congrArg Prod.fst (Option.some.inj q)) (by show ¬ (0 : Int32) = 1; decide)
  | var i => rw [hg]; exact (pr_var.mp h).2
  | add a b =>
    obtain ⟨x, y, ha, hb, -, hk⟩ := pr_add.mp h
    rw [hg, hk]
    show _ = L.idxOf (4, nI (mk a L).1, nI (mk b L).1)
    rw [show mk a L = (x, L) from ha, show mk b L = (y, L) from hb]
  | sub a b =>
    obtain ⟨x, y, ha, hb, -, hk⟩ := pr_sub.mp h
    rw [hg, hk]
    show _ = L.idxOf (5, nI (mk a L).1, nI (mk b L).1)
    rw [show mk a L = (x, L) from ha, show mk b L = (y, L) from hb]
  | neg _ => exact w.elim
  | mulL _ a =>
    obtain ⟨x, ha, -, hk⟩ := pr_mulL.mp h
    rw [hg, hk]
    show _ = L.idxOf (6, nI (mk a L).1, -1)
    rw [show mk a L = (x, L) from ha]
  | mulR a _ =>
    obtain ⟨x, ha, -, hk⟩ := pr_mulR.mp h
    rw [hg, hk]
    show _ = L.idxOf (7, nI (mk a L).1, -1)
    rw [show mk a L = (x, L) from ha]
theorem gtb_fw {L : List En} (h : gtb L) {so on tw : Nat → Int32} (hs : ∀ f, f < L.length → L[f]? = some (so f, on f, tw f)) : fw L.length so on tw (dd L) := by
  obtain ⟨h0, h3, ho, ht⟩ := h
  have hl : L.length < 2147483648 := by omega
  have h2 : 1 < L.length := (List.getElem?_eq_some_iff.mp h0.2).1
  have key : ∀ f, f < L.length → ∃ s g, wf s ∧ pr s L f ∧ pr (du s) L g ∧ dd L f = g := fun f hf => by
    obtain ⟨s, w, p1, g, p2⟩ := ht f hf
    exact ⟨s, g, w, p1, p2, dd_is h0 hl w p1 p2⟩
  refine ⟨h2, h3, ?_, ?_, ?_⟩
  · intro f g hf hg e1 e2 e3
    obtain ⟨s, w, p, -⟩ := ht f hf
    obtain ⟨u, wu, pu, -⟩ := ht g hg
    have a := pr_ix h0 w p _ (hs f hf)
    have b := pr_ix h0 wu pu _ (hs g hg)
    rw [a, b, e1, e2, e3]
  · intro f hf
    obtain ⟨s, g, w, p1, p2, e⟩ := key f hf
    rw [e]
    exact pr_lt (wf_du s w) h0 p2
  · intro f hf
    obtain ⟨s, g, w, p1, p2, e⟩ := key f hf
    have hg := pr_lt (wf_du s w) h0 p2
    have E1 := Option.some.inj ((hs f hf).symm.trans (pr_get w h0 p1))
    have E2 := Option.some.inj ((hs g hg).symm.trans (pr_get (wf_du s w) h0 p2))
    rw [e]
    have f1 : so f = (ee L s).1 := congrArg Prod.fst E1
    have f2 : on f = (ee L s).2.1 := congrArg (fun q : En => q.2.1) E1
    have f3 : tw f = (ee L s).2.2 := congrArg (fun q : En => q.2.2) E1
    have g1 : so g = (ee L (du s)).1 := congrArg Prod.fst E2
    have g2 : on g = (ee L (du s)).2.1 := congrArg (fun q : En => q.2.1) E2
    have g3 : tw g = (ee L (du s)).2.2 := congrArg (fun q : En => q.2.2) E2
    have hof := ho f _ (hs f hf)
    cases s with
    | num v =>
      have hv : v = 0 ∨ v = 1 := w
      have k1 := pr_num.mp p1
      have k2 := pr_num.mp p2
      rcases hv with rfl | rfl
      · exact Or.inl ⟨k1, f1, k2⟩
      · exact Or.inr (Or.inl ⟨k1, f1, k2⟩)
    | var i =>
      have hv : ∀ n : Nat, n < 52 → so f = nI (2 + n % 2) → on f = nI (n / 2) → so g = nI (2 + fl n % 2) → on g = nI (fl n / 2) → ((so f = 2 ∧ so g = 3) ∨ (so f = 3 ∧ so g = 2)) ∧ on g = on f ∧ ∃ l : Nat, l < 26 ∧ on f = nI l := by
        intro n hn a1 a2 a3 a4
        rw [fl_half] at a4
        refine ⟨?_, by rw [a2, a4], n / 2, by omega, a2⟩
        unfold fl at a3
        by_cases q : n % 2 = 0
        · rw [if_pos q, show 2 + (n + 1) % 2 = 3 by omega] at a3
          rw [q] at a1
          exact Or.inl ⟨a1, a3⟩
        · rw [if_neg q, show 2 + (n - 1) % 2 = 2 by omega] at a3
          rw [show n % 2 = 1 by omega] at a1
          exact Or.inr ⟨a1, a3⟩
      obtain ⟨q1, q2, q3⟩ := hv i w f1 f2 g1 g2
      exact Or.inr (Or.inr (Or.inl ⟨q1, q2, g3, f3, q3⟩))
    | add a b =>
      obtain ⟨x, y, ha, hb, -⟩ := pr_add.mp p1
      obtain ⟨x', y', ha', hb', -⟩ := pr_sub.mp p2
      have e1 : (ee L (.add a b)) = (4, nI x, nI y) := by
        show ((4, nI (mk a L).1, nI (mk b L).1) : En) = _
        rw [show mk a L = (x, L) from ha, show mk b L = (y, L) from hb]
      have e2 : (ee L (du (.add a b))) = (5, nI x', nI y') := by
        show ((5, nI (mk (du a) L).1, nI (mk (du b) L).1) : En) = _
        rw [show mk (du a) L = (x', L) from ha', show mk (du b) L = (y', L) from hb']
      rw [e1] at f1 f2 f3
      rw [e2] at g1 g2 g3
      obtain ⟨⟨u, u1, u2⟩, ⟨v, v1, v2⟩⟩ := hof.1 (Or.inl f1)
      have xl := pr_lt w.1 h0 ha
      have yl := pr_lt w.2 h0 hb
      have eu : u = x := sp_inj (u2.symm.trans f2) (by omega) (by omega)
      have ev : v = y := sp_inj (v2.symm.trans f3) (by omega) (by omega)
      refine Or.inr (Or.inr (Or.inr (Or.inl ⟨Or.inl ⟨f1, g1⟩, x, y, by omega, by omega, f2, f3, ?_, ?_⟩)))
      · rw [dd_is h0 hl w.1 ha ha']; exact g2
      · rw [dd_is h0 hl w.2 hb hb']; exact g3
    | sub a b =>
      obtain ⟨x, y, ha, hb, -⟩ := pr_sub.mp p1
      obtain ⟨x', y', ha', hb', -⟩ := pr_add.mp p2
      have e1 : (ee L (.sub a b)) = (5, nI x, nI y) := by
        show ((5, nI (mk a L).1, nI (mk b L).1) : En) = _
        rw [show mk a L = (x, L) from ha, show mk b L = (y, L) from hb]
      have e2 : (ee L (du (.sub a b))) = (4, nI x', nI y') := by
        show ((4, nI (mk (du a) L).1, nI (mk (du b) L).1) : En) = _
        rw [show mk (du a) L = (x', L) from ha', show mk (du b) L = (y', L) from hb']
      rw [e1] at f1 f2 f3
      rw [e2] at g1 g2 g3
      obtain ⟨⟨u, u1, u2⟩, ⟨v, v1, v2⟩⟩ := hof.1 (Or.inr f1)
      have xl := pr_lt w.1 h0 ha
      have yl := pr_lt w.2 h0 hb
      have eu : u = x := sp_inj (u2.symm.trans f2) (by omega) (by omega)
      have ev : v = y := sp_inj (v2.symm.trans f3) (by omega) (by omega)
      refine Or.inr (Or.inr (Or.inr (Or.inl ⟨Or.inr ⟨f1, g1⟩, x, y, by omega, by omega, f2, f3, ?_, ?_⟩)))
      · rw [dd_is h0 hl w.1 ha ha']; exact g2
      · rw [dd_is h0 hl w.2 hb hb']; exact g3
    | neg _ => exact w.elim
    | mulL k a =>
      obtain ⟨x, ha, -⟩ := pr_mulL.mp p1
      obtain ⟨x', ha', -⟩ := pr_mulR.mp p2
      have e1 : (ee L (.mulL k a)) = (6, nI x, -1) := by
        show ((6, nI (mk a L).1, -1) : En) = _
        rw [show mk a L = (x, L) from ha]
      have e2 : (ee L (du (.mulL k a))) = (7, nI x', -1) := by
        show ((7, nI (mk (du a) L).1, -1) : En) = _
        rw [show mk (du a) L = (x', L) from ha']
      rw [e1] at f1 f2 f3
      rw [e2] at g1 g2 g3
      obtain ⟨u, u1, u2⟩ := hof.2 (Or.inl f1)
      have xl := pr_lt w.2 h0 ha
      have eu : u = x := sp_inj (u2.symm.trans f2) (by omega) (by omega)
      refine Or.inr (Or.inr (Or.inr (Or.inr ⟨Or.inl ⟨f1, g1⟩, f3, g3, x, by omega, f2, ?_⟩)))
      rw [dd_is h0 hl w.2 ha ha']; exact g2
    | mulR a k =>
      obtain ⟨x, ha, -⟩ := pr_mulR.mp p1
      obtain ⟨x', ha', -⟩ := pr_mulL.mp p2
      have e1 : (ee L (.mulR a k)) = (7, nI x, -1) := by
        show ((7, nI (mk a L).1, -1) : En) = _
        rw [show mk a L = (x, L) from ha]
      have e2 : (ee L (du (.mulR a k))) = (6, nI x', -1) := by
        show ((6, nI (mk (du a) L).1, -1) : En) = _
        rw [show mk (du a) L = (x', L) from ha']
      rw [e1] at f1 f2 f3
      rw [e2] at g1 g2 g3
      obtain ⟨u, u1, u2⟩ := hof.2 (Or.inr f1)
      have xl := pr_lt w.2 h0 ha
      have eu : u = x := sp_inj (u2.symm.trans f2) (by omega) (by omega)
      refine Or.inr (Or.inr (Or.inr (Or.inr ⟨Or.inr ⟨f1, g1⟩, f3, g3, x, by omega, f2, ?_⟩)))
      rw [dd_is h0 hl w.2 ha ha']; exact g2
section PAIR
variable {N : Nat} {z : Nat → Nat} {W : List Tr} {L : List En}
/-- the table tells what denies what, as far as the nodes below i and the first n go -/
theorem pair_loop (h0 : ok0 L) (hl3 : L.length ≤ 300) (hw : ∀ w ∈ W, wf w ∧ po w = true) (h150 : W.length ≤ 150) : ∀ (fuel i : Nat) (S : mq_St), i ≤ W.length → W.length - i < fuel → S.1 3 = nI W.length → S.1 2 = nI L.length → nmb (S.2.1 11) W L →
    ∃ S', zf_X2_pairAll_2 N z fuel (nI i) S = some ((), S') ∧ (∀ f, f < L.length → S.2.1 7 f = nI (dd L f) → S'.2.1 7 f = nI (dd L f)) ∧ (∀ j f g, i ≤ j / 2 → j / 2 < W.length → S.2.1 11 j = nI f → f < L.length → S.2.1 11 (fl j) = nI g → g < L.length → S'.2.1 7 f = nI (dd L f)) ∧ ag [] [7] [] S S' := by
  intro fuel
  induction fuel with
  | zero => intro i S _ h; omega
  | succ fuel ih =>
    intro i S hi hf h3 h2 hn
    show ∃ S', zf_X2_pairAll_2b N z (fun v1 S => zf_X2_pairAll_2 N z fuel v1 S) (nI i) S = some ((), S') ∧ _
    unfold zf_X2_pairAll_2b
    rw [h3]
    by_cases e : i = W.length
    · subst e
      rw [if_pos (nI_le (Nat.le_refl _) (by omega))]
      exact ⟨S, rfl, fun _ _ q => q, fun j f g h1 h2 => by omega, ag_rf⟩
    · have p2 : (2 : Int32) * nI i = nI (2 * i) := pk_mul 2 i
      obtain ⟨u, hu⟩ : ∃ u, W[i]? = some u := ⟨W[i]'(by omega), List.getElem?_eq_getElem (by omega)⟩
      have m0 : mt W (2 * i) u := by unfold mt; rw [if_pos (by omega), show 2 * i / 2 = i by omega]; exact hu
      have ef : fl (2 * i) = 2 * i + 1 := by unfold fl; rw [if_pos (by omega)]
      have ef1 : fl (2 * i + 1) = 2 * i := by unfold fl; rw [if_neg (by omega)]; omega
      have m1' : mt W (2 * i + 1) (du u) := by have := mt_fl m0; rw [ef] at this; exact this
      have wu := (hw u (List.mem_of_getElem? hu)).1
      rw [if_neg (nI_ge (a := i) (b := W.length) (by omega) (by omega)), p2, nI_1, mq_ck_of (vp_in_nI (by omega) (by omega)), mq_ck_of (vp_in_nI (by omega) (by omega)), nI_clamp (by omega), nI_clamp (by omega)]
      -- the pair
      have hpair : ∃ S1, zf_X7_pair N z (S.2.1 11 (2 * i)) (S.2.1 11 (2 * i + 1)) S = some ((), S1) ∧ (∀ f, f < L.length → S.2.1 7 f = nI (dd L f) → S1.2.1 7 f = nI (dd L f)) ∧ (∀ f g, S.2.1 11 (2 * i) = nI f → f < L.length → S.2.1 11 (2 * i + 1) = nI g → g < L.length → S1.2.1 7 f = nI (dd L f) ∧ S1.2.1 7 g = nI (dd L g)) ∧ ag [] [7] [] S S1 := by
        unfold zf_X7_pair
        rw [ck_has, ck_has, h2]
        have no1 : ∀ v : Int32, v = -1 → (v < 0 ∨ nI L.length ≤ v) := fun v q => Or.inl (by rw [q]; decide)
        rcases hn _ _ m0 with q0 | ⟨f, q0, pf⟩
        · rw [if_pos (no1 _ q0), mq_cp_s, if_pos rfl]
          refine ⟨S, rfl, fun _ _ q => q, fun f g e1 hf' => ?_, ag_rf⟩
          rw [q0] at e1
          exact absurd e1.symm (nI_nm1 (by omega))
        · have fl' := pr_lt wu h0 pf
          have hnf : ¬ (nI f < 0 ∨ nI L.length ≤ nI f) := by
            rintro (q | q)
            · exact nI_pos (by omega) q
            · exact nI_ge fl' (by omega) q
          rw [q0, if_neg hnf, mq_cp_s, if_neg (by decide)]
          rcases hn _ _ m1' with q1 | ⟨g, q1, pg⟩
          · rw [if_pos (no1 _ q1), mq_cp_s, if_pos rfl]
            refine ⟨S, rfl, fun _ _ q => q, fun f' g' _ _ e1 hg' => ?_, ag_rf⟩
            rw [q1] at e1
            exact absurd e1.symm (nI_nm1 (by omega))
          · have gl := pr_lt (wf_du u wu) h0 pg
            have hng : ¬ (nI g < 0 ∨ nI L.length ≤ nI g) := by
              rintro (q | q)
              · exact nI_pos (by omega) q
              · exact nI_ge gl (by omega) q
            have d1 := dd_is h0 (by omega) wu pf pg
            have d2 := dd_is h0 (by omega) (wf_du u wu) pg (by rw [du_du]; exact pf)
            rw [q1, if_neg hng, mq_cp_s, if_neg (by decide), mq_ck_of (vp_in_nI (by omega) (by omega)), nI_clamp (by omega), nS_e, mq_ck_of (vp_in_nI (by omega) (by omega)), nI_clamp (by omega), nS_e]
            have val : ∀ x, (upd (upd (S.2.1 7) f (nI g)) g (nI f)) x = if x = g then nI (dd L g) else if x = f then nI (dd L f) else S.2.1 7 x := fun x => by
              unfold upd
              rw [d1, d2]
            refine ⟨mq_sa (mq_sa S 7 (upd (S.2.1 7) f (nI g))) 7 (upd (upd (S.2.1 7) f (nI g)) g (nI f)), rfl, fun x hx q => ?_, fun f' g' e1 hf' e2 hg' => ?_, ag_tr (ag_sa (by decide)) (ag_sa (by decide))⟩
            · show (upd (upd (S.2.1 7) f (nI g)) g (nI f)) x = _
              rw [val]
              by_cases a : x = g
              · rw [if_pos a, a]
              · rw [if_neg a]
                by_cases b : x = f
                · rw [if_pos b, b]
                · rw [if_neg b]; exact q
            · have e1 : f' = f := (sp_inj e1 (by omega) (by omega)).symm
              have e2 : g' = g := (sp_inj e2 (by omega) (by omega)).symm
              subst e1 e2
              constructor
              · show (upd (upd (S.2.1 7) f' (nI g')) g' (nI f')) f' = _
                rw [val]
                by_cases a : f' = g'
                · rw [if_pos a, a]
                · rw [if_neg a, if_pos rfl]
              · show (upd (upd (S.2.1 7) f' (nI g')) g' (nI f')) g' = _
                rw [val, if_pos rfl]
      obtain ⟨S1, a1, a2, a3, a4⟩ := hpair
      have e11 : S1.2.1 11 = S.2.1 11 := a4.2.1 11 (by decide)
      obtain ⟨S2, b1, b2, b3, b4⟩ := ih (i + 1) S1 (by omega) (by omega) ((a4.1 3 (by decide)).trans h3) ((a4.1 2 (by decide)).trans h2) (by rw [e11]; exact hn)
      refine ⟨S2, by rw [a1, mq_cl_s, nI_1, nI_e]; exact b1, fun f hf' q => b2 f hf' (a2 f hf' q), fun j f g h1 h2' e1 hf' e2 hg' => ?_, ag_tr a4 b4⟩
      by_cases q : i + 1 ≤ j / 2
      · exact b3 j f g q h2' (by rw [e11]; exact e1) hf' (by rw [e11]; exact e2) hg'
      · have hj : j = 2 * i ∨ j = 2 * i + 1 := by omega
        rcases hj with rfl | rfl
        · rw [ef] at e2
          exact b2 f hf' (a3 f g e1 hf' e2 hg').1
        · rw [ef1] at e2
          exact b2 f hf' (a3 g f e2 hg' e1 hf').2
end PAIR
