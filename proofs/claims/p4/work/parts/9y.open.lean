/-! The tableau: a turn at a SET with nothing to do but MAYS; the SET is open. -/
section OPEN
variable {N n F : Nat} {z : Nat → Nat} {so on tw : Nat → Int32} {d : Nat → Nat} {S T SC SR : mq_St} {st W w ec ln wt m f p : Nat} {R P : List Nat}
theorem stk_lt : ∀ (R : List Nat) (v ec wt ln : Nat), stk n so on tw d SC SR (v :: R) ec wt ln → ∀ x, x ∈ R → x < v
  | R, v, ec, wt, ln, q, x, hx => by
    obtain ⟨ea, k, b, -, a2, a3, -, a5⟩ := q
    rcases a5 with ⟨b1, -, b3, b4⟩ | ⟨u, m, l, b', b1, -, b3, b4, -, -, -, b8⟩
    · rw [b1] at hx; cases hx
    · cases R with
      | nil => cases b1
      | cons u' r =>
        have : u' = u := by simpa using b1
        subst this
        rcases List.mem_cons.mp hx with h | h
        · omega
        · have := stk_lt r u' ea b' l b8 x h
          omega
theorem Mn_lf {s : Nat} {l2 : Nat → Int64} (hfw : fw n so on tw d) (h7 : s ≤ 7) (hl : lfk on tw so n s w (lb (SC.2.2 3) w) (SC.2.2 4) l2) (q : Mn n so on tw d F SC SR st W w ec ln wt m R) : Mn n so on tw d F (mq_sl SC 4 l2) SR st W w ec ln wt m R := by
  have h300 := hfw.2.1
  obtain ⟨q1, q2, q3, q4, q5, q6, q7, ⟨a1, a2, a2', a3, a4, a5, b1, b2, b3, b4, b5⟩, q9, q10, q11, q12⟩ := q
  refine ⟨q1, q2, q3, q4, q5, q6, stk_c (SC := SC) hfw R w ec wt ln ln (Nat.le_refl _) ⟨fun p _ => ⟨rfl, rfl⟩, fun p hp => ⟨rfl, fun f hf => ⟨rfl, hl.1 p f (by omega) hf⟩⟩, fun j _ => ⟨rfl, fun _ _ => rfl⟩⟩ kpR_rf q7, ⟨a1, a2, a2', a3, a4, a5, b1, b2, b3, fun f hf a => b4 f hf (hl.2.1 f hf a), fun f hf a => ?_⟩, q9, q10, q11, q12⟩
  refine ⟨fun c => (b5 f hf a).mp (hl.2.1 f (by omega) c), fun c => ?_⟩
  have y := (b5 f hf a).mpr c
  show lb l2 w f = true
  cases e : lb l2 w f with
  | true => rfl
  | false =>
    obtain ⟨e1, e2, e3⟩ := hl.2.2 f (by omega) y e
    have : 7 = s := sp_inj (a.1.symm.trans e2) (by omega) (by omega)
    rw [← this] at e3
    exact absurd e3 a.2.2
theorem M_least {s : Nat} (hN : 100 ≤ N) (hc : cxC SC n so on tw d) (q : Mn n so on tw d F SC SR st W w ec ln wt m R) (h4 : 4 ≤ s) (h7 : s ≤ 7) : ∃ l2 v, Mn n so on tw d F (mq_sl SC 4 l2) SR st W w ec ln wt m R ∧ zf_X8_leastToDo N z (nI s) SC = some (v, mq_sl SC 4 l2) ∧ (s ≤ 6 → v = -1) ∧ (s = 7 → lst n (fun f => m ≤ f ∧ td so on tw 7 (lb (SC.2.2 3) w) f) v) := by
  have hfw := hc.2.2.2
  obtain ⟨⟨-, -, o3, o4, -, -⟩, nn, -, -, -, -, -, ⟨-, -, -, -, -, -, b1, b2, b3, b4, b5⟩, -, -, -, -⟩ := id q
  obtain ⟨l2, v, a1, a2, a3⟩ := ck_lst (z := z) (s := s) (w := w) hN hc (by omega) nn.2.2.2.1 h4 h7 b4
  refine ⟨l2, v, Mn_lf hfw h7 a1 q, a2, fun h6 => ?_, fun e => ?_⟩
  · rcases a3 with ⟨e, -⟩ | ⟨f, f1, -, f3, -⟩
    · exact e
    · exact absurd f3.1 (b3 s f h4 h6 f1)
  · subst e
    exact lst_s a3 (fun f hf => ⟨fun q => ⟨(b5 f hf q.1).mp q.2, q.1⟩, fun q => ⟨q.2, (b5 f hf q.2).mpr q.1⟩⟩)
theorem M_look {x : Int32} (hN : 100 ≤ N) (hc : cxC SC n so on tw d) (q : Mn n so on tw d F SC SR st W w ec ln wt m R) (hx : lst n (fun f => m ≤ f ∧ td so on tw 7 (lb (SC.2.2 3) w) f) x) :
    ∃ S4, Mn n so on tw d F S4 SR st W w ec ln wt m R ∧ S4.2.2 3 = SC.2.2 3 ∧ ag [] [] [4] SC S4 ∧ zf_X8_goOn N z SC = if x = -1 then mq_cl (zf_X8_openWorld N z S4) (fun _ S19 => some ((), S19)) else mq_cl (zf_X8_lookAtMay N z x S4) (fun _ S22 => some ((), S22)) := by
  obtain ⟨a, va, a1, a2, a3, -⟩ := M_least (z := z) (s := 4) hN hc q (by omega) (by omega)
  obtain ⟨b, vb, b1, b2, b3, -⟩ := M_least (SC := mq_sl SC 4 a) (z := z) (s := 6) hN (cxC_c hc rfl rfl rfl rfl rfl rfl) a1 (by omega) (by omega)
  obtain ⟨c, vc, c1, c2, c3, -⟩ := M_least (SC := mq_sl (mq_sl SC 4 a) 4 b) (z := z) (s := 5) hN (cxC_c hc rfl rfl rfl rfl rfl rfl) b1 (by omega) (by omega)
  obtain ⟨e, ve, e1, e2, -, e3⟩ := M_least (SC := mq_sl (mq_sl (mq_sl SC 4 a) 4 b) 4 c) (z := z) (s := 7) hN (cxC_c hc rfl rfl rfl rfl rfl rfl) c1 (by omega) (by omega)
  have ex : ve = x := lst_u (e3 rfl) hx
  rw [a3 (by omega)] at a2
  rw [b3 (by omega)] at b2
  rw [c3 (by omega)] at c2
  rw [ex] at e2
  refine ⟨_, e1, rfl, ag_tr (ag_tr (ag_tr (ag_sl (by decide)) (ag_sl (by decide))) (ag_sl (by decide))) (ag_sl (by decide)), ?_⟩
  unfold zf_X8_goOn
  rw [if_pos q.2.2.2.2.2.2.2.2.2.1]
  refine (cl_go a2).trans ?_
  rw [nI_e, if_pos rfl]
  refine (cl_go b2).trans ?_
  rw [nI_e, if_pos rfl]
  refine (cl_go c2).trans ?_
  rw [nI_e, if_pos rfl]
  refine (cl_go e2).trans ?_
  rw [nI_e]
theorem op_31 {b : Nat} (hb : b < 470) (hend : b = 0 ∨ ∃ b', b = b' + 1 ∧ S.2.1 25 b' = 0) (h25 : ∀ i, b ≤ i → i < 470 → i < b + m → S.2.1 25 i = 1) : ∀ (k fu : Nat) (S' : mq_St), S'.2 = S.2 → k ≤ m → b + k < 470 → k < fu → S'.1 27 = nI (b + k) → S'.1 28 = nI (ec + k) → ec + k ≤ 400 →
    ∃ S2, zf_X11_opened_31 N z fu (nI w) S' = zf_X11_opened_75 N z (nI w) S2 ∧ S2.1 27 = nI b ∧ S2.1 28 = nI ec ∧ ag [27, 28] [] [] S' S2
  | 0, fu, S', hS, _, _, hfu, h27, h28, _ => by
    obtain ⟨fu, rfl⟩ : ∃ q, fu = q + 1 := ⟨fu - 1, by omega⟩
    refine ⟨S', ?_, h27, h28, ag_rf⟩
    show zf_X11_opened_31b N z _ (nI w) S' = _
    unfold zf_X11_opened_31b
    rw [h27]
    rcases hend with rfl | ⟨b', rfl, e⟩
    · rw [if_pos (by decide)]
    · have e1 : nI (b' + 1 + 0) - 1 = nI b' := by rw [show (1 : Int32) = nI 1 from rfl, pk_sub (by omega)]; rfl
      rw [if_neg (show ¬ nI (b' + 1 + 0) ≤ (0 : Int32) from nI_ge (show 0 < b' + 1 + 0 by omega) (by omega)), e1, mq_ck_of (vp_in_nI (by omega) (by omega)), nI_clamp (by omega), show S'.2.1 25 b' = 0 by rw [hS]; exact e, if_pos rfl]
  | k + 1, fu, S', hS, hk, hbk, hfu, h27, h28, hec => by
    obtain ⟨fu, rfl⟩ : ∃ q, fu = q + 1 := ⟨fu - 1, by omega⟩
    have e1 : nI (b + (k + 1)) - 1 = nI (b + k) := by rw [show (1 : Int32) = nI 1 from rfl, pk_sub (by omega)]; rfl
    have e2 : nI (ec + (k + 1)) - 1 = nI (ec + k) := by rw [show (1 : Int32) = nI 1 from rfl, pk_sub (by omega)]; rfl
    obtain ⟨S2, g1, g2, g3, g4⟩ := op_31 hb hend h25 k fu (mq_si (mq_si S' 27 (nI (b + k))) 28 (nI (ec + k))) hS (by omega) (by omega) (by omega) rfl rfl (by omega)
    refine ⟨S2, ?_, g2, g3, ag_tr (ag_tr (ag_si (by decide)) (ag_si (by decide))) g4⟩
    show zf_X11_opened_31b N z (fun v1 S => zf_X11_opened_31 N z fu v1 S) (nI w) S' = _
    unfold zf_X11_opened_31b
    rw [h27, if_neg (show ¬ nI (b + (k + 1)) ≤ (0 : Int32) from nI_ge (show 0 < b + (k + 1) by omega) (by omega)), e1, mq_ck_of (vp_in_nI (by omega) (by omega)), nI_clamp (by omega), show S'.2.1 25 (b + k) = 1 by rw [hS]; exact h25 (b + k) (by omega) (by omega) (by omega), if_neg (by decide), nS_e, show (mq_si S' 27 (nI (b + k))).1 28 = nI (ec + (k + 1)) from h28, e2, nS_e]
    exact g1
theorem pu_3 {v : Int32} (h : S.1 20 = nI ln) (hv : v = nI p) (hp : p ≤ ln) (hl : ln ≤ 1299) : ∃ X, zf_X3_shorten N z v (mq_pull S [20] [22] []) = some ((), X) ∧ mq_push S X [20] [22] [] = mq_si S 20 (nI p) := by
  subst hv
  unfold zf_X3_shorten
  rw [if_neg (show ¬ nI p < (0 : Int32) from nI_nlt (b := 0) (by omega) (by omega)), show (mq_pull S [20] [22] []).1 0 = nI ln from h]
  by_cases e : ln ≤ p
  · have : ln = p := by omega
    subst this
    rw [if_pos (nI_le (Nat.le_refl _) (by omega))]
    refine ⟨_, rfl, ?_⟩
    rw [pu_0, si_id h]
  · rw [if_neg (nI_ge (show p < ln by omega) (by omega)), nS_e]
    refine ⟨_, rfl, ?_⟩
    rw [pu_2]
/-- the reference behind opened() of a world that has a parent -/
theorem M_open {fu fu2 : Nat} (hN : 500 ≤ N) (hc : cxC SC n so on tw d) (hx : cxR SR n so on tw d) (q : Mn n so on tw d F SC SR st W w ec ln wt m R) :
    (R = [] ∧ ∃ SC' SR', zf_X8_openWorld N z SC = some ((), SC') ∧ SC'.1 19 = 0 ∧ ag [14, 19] [] [] SC SC' ∧ mq_cl (zf_X11_mays_54 N z (fu + 1) (nI wt) (-1) SR) (kM N z (fu2 + 1)) = some (0, SR') ∧ ag [27, 28] [19] [] SR SR' ∧ ∀ v, v < W → wst SC SR' v) ∨
    ∃ u r ea l b m' SC' SR' x, R = u :: r ∧ zf_X8_openWorld N z SC = some ((), SC') ∧ mq_cl (zf_X11_mays_54 N z (fu + 1) (nI wt) (-1) SR) (kM N z (fu2 + 1)) = mq_cl (zf_X11_mays_54 N z N (nI b) x SR') (kM N z fu2) ∧ lst n (fun f => m' ≤ f ∧ td so on tw 7 (lb (SC'.2.2 3) u) f) x ∧ Mn n so on tw d F SC' SR' st W u ea l b m' r ∧ frC SC SC' ∧ frR SR SR' := by
  have hfw := hc.2.2.2
  have h300 := hfw.2.1
  obtain ⟨⟨o1, o2, o3, o4, o5, o6⟩, ⟨n1, n2, n3, n4, n5, n6, n7⟩, ⟨m1, m2, m3, m4, m5, m6, m7, m8⟩, ⟨k1, k2, k3⟩, q5, q6, q7, q8, q9, q10, q11, q12⟩ := id q
  have hlen := stk_len R w ec wt ln q7
  obtain ⟨ea, k, b, s1, s2, s3, s4, s5⟩ := id q7
  have i1 : vp_in (nI w) 60 := vp_in_nI (by omega) (by omega)
  have c1 : (nI w).toNatClampNeg = w := nI_clamp (by omega)
  have e1 : nI (wt + 1) - 1 = nI wt := by rw [show (1 : Int32) = nI 1 from rfl, pk_sub (by omega)]; rfl
  have e10 : (10 : Int32) * nI w = nI (10 * w) := pk_mul 10 w
  obtain ⟨y, y1, y2, y3⟩ := rf_cp (N := N) (S := mq_si SR 27 (nI wt)) (a := 17) (b := 19) (ra := 0) (rb := w) (R := 1) (R' := 60) (y := fun k => [10, 600].getD k 0) (by omega) (by decide) rfl rfl (by omega) (by omega) (by omega) (by omega)
  have hend : b = 0 ∨ ∃ b', b = b' + 1 ∧ (mq_sa (mq_si SR 27 (nI wt)) 19 y).2.1 25 b' = 0 := by
    rcases s5 with ⟨-, -, -, e⟩ | ⟨u, m, l, b', -, -, -, e, e', -⟩
    · exact Or.inl e
    · exact Or.inr ⟨b', e, e'.1⟩
  obtain ⟨S2, g1, g2, g3, g4⟩ := op_31 (N := N) (z := z) (w := w) (S := mq_sa (mq_si SR 27 (nI wt)) 19 y) (m := k) (b := b) (ec := ea) (by omega) hend (fun i h1 _ h2 => by
    have := (s4 (i - b) (by omega)).1
    rw [show b + (i - b) = i by omega] at this
    exact this) k N (mq_sa (mq_si SR 27 (nI wt)) 19 y) rfl (by omega) (by omega) (by omega) (by rw [← s3]; rfl) (by rw [s2]; exact m5) (by omega)
  have pre : zf_X11_mays_54 N z (fu + 1) (nI wt) (-1) SR = some (0, SR) := by
    show zf_X11_mays_54b N z _ (nI wt) (-1) SR = _
    unfold zf_X11_mays_54b
    rw [if_pos rfl, mq_cz_0]
  have opd : zf_X11_opened N z SR = zf_X11_opened_75 N z (nI w) S2 := by
    unfold zf_X11_opened
    rw [m8, e1, nS_e, show (mq_si SR 27 (nI wt)).1 25 = nI w from m4, nI_e, e10]
    refine (cl_go y1).trans ?_
    rw [y2, nS_e]
    exact g1
  have kMe : mq_cl (zf_X11_mays_54 N z (fu + 1) (nI wt) (-1) SR) (kM N z (fu2 + 1)) = mq_cl (zf_X11_opened_75 N z (nI w) S2) (fun q39v S41 => (if q39v = (0 : Int32) then (some ((0 : Int32), S41)) else (zf_X11_tableau_82 N z (fu2 + 1) 0 S41))) := by
    refine (cl_go pre).trans ?_
    unfold kM
    rw [nI_e, if_pos m7, if_pos rfl, opd]
  have agS : ag [27, 28] [19] [] SR S2 := ag_tr (ag_tr (ag_si (by decide)) (ag_sa (by decide))) (ag_mono g4 (fun _ h => h) (fun _ h => absurd h (by simp)) (fun _ h => h))
  have S2a : ∀ j, S2.2.1 j = (mq_sa (mq_si SR 27 (nI wt)) 19 y).2.1 j := fun j => g4.2.1 j (by simp)
  have S2w : ∀ v, v < W → v ∉ R → wst SC S2 v := fun v hv hR g hg => by
    rw [S2a 19]
    show ib y v g = _
    rw [y3 v g hg]
    by_cases e : v = w
    · rw [if_pos e, e]; exact q9 g hg
    · rw [if_neg e]; exact q12 v hv e hR g hg
  rcases s5 with ⟨b1, b2, b3, b4⟩ | ⟨u, m', l, b', b1, b2, b3, b4, b5, b6, b7, b8⟩
  · left
    refine ⟨b1, mq_si (mq_si SC 14 (nI ea)) 19 0, S2, ?_, rfl, ag_tr (ag_si (by decide)) (ag_si (by decide)), ?_, agS, fun v hv => S2w v hv (by rw [b1]; simp)⟩
    · unfold zf_X8_openWorld
      rw [n4, mq_ck_of i1, c1, s1, nS_e, show (mq_si SC 14 (nI ea)).1 16 = nI w from n4, mq_ck_of i1, c1, show (mq_si SC 14 (nI ea)).2.1 16 w = -1 from b2, nI_e, if_pos rfl, nS_e]
    · rw [kMe]
      have : zf_X11_opened_75 N z (nI w) S2 = some (0, S2) := by
        unfold zf_X11_opened_75
        rw [g2, b4, if_pos (by decide), mq_cz_0]
      refine (cl_go this).trans ?_
      rw [if_pos rfl]
  · right
    cases R with
    | nil => cases b1
    | cons u' r =>
      have : u' = u := by simpa using b1
      subst this
      have i2 : vp_in (nI u') 60 := vp_in_nI (by omega) (by omega)
      have c2 : (nI u').toNatClampNeg = u' := nI_clamp (by omega)
      have hl : SC.2.1 19 u' = nI l := b7
      obtain ⟨X, x1, x2⟩ := pu_3 (N := N) (z := z) (S := mq_si SC 14 (nI ea)) (ln := ln) (p := l) (v := SC.2.1 19 u') n6 hl b6 o6
      have cC : zf_X8_openWorld N z SC = some ((), mq_si (mq_sl (mq_si (mq_si SC 14 (nI ea)) 20 (nI l)) 1 (vp_updL (SC.2.2 1) u' (SC.2.2 1 u' ||| mq_lshl 1 (nI w)))) 16 (nI u')) := by
        unfold zf_X8_openWorld
        rw [n4, mq_ck_of i1, c1, s1, nS_e, show (mq_si SC 14 (nI ea)).1 16 = nI w from n4, mq_ck_of i1, c1, show (mq_si SC 14 (nI ea)).2.1 16 w = nI u' from b2, nI_e, if_neg (nI_nm (by omega)), mq_ck_of i2, c2]
        refine (cl_go x1).trans ?_
        rw [x2, nS_e, mq_ck_of i2, mq_ck_of i2, show (mq_si (mq_si SC 14 (nI ea)) 20 (nI l)).1 16 = nI w from n4, nS_e, nS_e]
        rfl
      have e60 : (60 : Int32) * nI u' + nI w = nI (60 * u' + w) := by rw [show (60 : Int32) = nI 60 from rfl, pk_mul, nI_add]
      have eb : nI b - 1 = nI b' := by rw [b4, show (1 : Int32) = nI 1 from rfl, pk_sub (by omega)]; rfl
      have r75 : zf_X11_opened_75 N z (nI w) S2 = some (1, mq_sa S2 22 (upd (S2.2.1 22) (60 * u' + w) 1)) := by
        unfold zf_X11_opened_75
        rw [g2, if_neg (fun q => by have := (nI_eq (b := 0) (a := b) (by omega) (by omega)).mp q; omega), eb, mq_ck_of (vp_in_nI (by omega) (by omega)), nI_clamp (by omega), show S2.2.1 27 b' = nI u' by rw [S2a 27]; exact b5.2.2.2.1, e60, mq_ck_of (vp_in_nI (by omega) (by omega)), nI_clamp (by omega), nS_e, mq_cz_1]
        rfl
      have hmS : may n so on tw d (mq_si (mq_sl (mq_si (mq_si SC 14 (nI ea)) 20 (nI l)) 1 (vp_updL (SC.2.2 1) u' (SC.2.2 1 u' ||| mq_lshl 1 (nI w)))) 16 (nI u')) (mq_sa S2 22 (upd (S2.2.1 22) (60 * u' + w) 1)) u' m' l b' := may_c (SC := SC) (SR := SR) hfw b5 (fun _ _ => rfl) (fun _ _ => rfl) (congrFun (S2a 25) b') (congrFun (S2a 26) b') (congrFun (S2a 27) b') (congrFun (S2a 29) b') (fun f hf => by
        show ib (S2.2.1 30) b' f = _
        rw [S2a 30]; rfl)
      have hxS : cxR (mq_sa S2 22 (upd (S2.2.1 22) (60 * u' + w) 1)) n so on tw d := cxR_c hx (agS.1 3 (by decide)) (agS.2.1 2 (by decide)) (agS.2.1 3 (by decide)) (agS.2.1 4 (by decide))
      obtain ⟨q', x, p1, p2, p3⟩ := ms_pre (N := N) (z := z) (by omega) hxS (show S2.1 27 = nI (b' + 1) by rw [g2, b4]) (by omega) hmS
      refine ⟨u', r, ea, l, b', m', _, mq_si (mq_sa (mq_si (mq_sa S2 22 (upd (S2.2.1 22) (60 * u' + w) 1)) 25 (nI u')) 17 q') 26 (nI l), x, rfl, cC, ?_, p3, ?_, ?_, ?_⟩
      · rw [kMe]
        refine (cl_go r75).trans ?_
        rw [if_neg (by decide), t82_M, p1]
      · refine ⟨⟨o1, o2, by omega, o4, by omega, by omega⟩, ⟨n1, n2, n3, rfl, rfl, rfl, n7⟩, ⟨(agS.1 18 (by decide)).trans m1, (agS.1 19 (by decide)).trans m2, (agS.1 24 (by decide)).trans m3, rfl, g3, rfl, (agS.1 23 (by decide)).trans m7, by rw [← b4]; exact g2⟩, ⟨k1.trans (agS.1 20 (by decide)).symm, k2.trans (agS.1 21 (by decide)).symm, k3.trans (agS.1 22 (by decide)).symm⟩, fun i hi => ?_, fun v hv => ?_, ?_, hmS, p2, q10, fun v hv a ha => ?_, fun v hv hv' hR g hg => ?_⟩
        · obtain ⟨r1, r2, r3, r4, r5, r6, r7⟩ := q5 i (by omega)
          exact ⟨r1, r2, r3, r4, r5, (congrFun (S2a 23) i).trans r6, (congrFun (S2a 24) i).trans r7⟩
        · obtain ⟨w1, w2, w3⟩ := q6 v hv
          refine ⟨w1.trans (congrFun (S2a 20) v).symm, w2.trans (congrFun (S2a 21) v).symm, fun g hg => ?_⟩
          show _ = ib (S2.2.1 18) v g
          rw [S2a 18]; exact w3 g hg
        · refine stk_c (SC := SC) (SR := SR) hfw r u' ea b' l l (Nat.le_refl _) ⟨fun _ _ => ⟨rfl, rfl⟩, fun _ _ => ⟨rfl, fun _ _ => ⟨rfl, rfl⟩⟩, fun _ _ => ⟨rfl, fun _ _ => rfl⟩⟩ (fun e _ => ⟨congrFun (S2a 25) e, congrFun (S2a 26) e, congrFun (S2a 27) e, congrFun (S2a 28) e, congrFun (S2a 29) e, fun g hg => ?_⟩) b8
          show ib (S2.2.1 30) e g = _
          rw [S2a 30]; rfl
        · show upd (S2.2.1 22) (60 * u' + w) 1 (60 * v + a) = if (vp_updL (SC.2.2 1) u' (SC.2.2 1 u' ||| mq_lshl 1 (nI w)) v).toBitVec.getLsbD a = true then 1 else 0
          have old := q11 v hv a ha
          unfold vp_updL
          by_cases e : v = u'
          · rw [if_pos e, Int64.toBitVec_or, BitVec.getLsbD_or, l_one w (by omega) a (by omega)]
            by_cases e' : a = w
            · rw [e, e', up_s, decide_eq_true rfl, Bool.or_true, if_pos rfl]
            · rw [up_o (by omega), decide_eq_false e', Bool.or_false, S2a 22, ← e]
              exact old
          · rw [if_neg e, up_o (by omega), S2a 22]
            exact old
        · show ib (S2.2.1 19) v g = _
          by_cases e : v = w
          · exact S2w v hv (fun h => by
              have := stk_lt _ _ _ _ _ q7 v h
              omega) g hg
          · exact S2w v hv (fun h => by
              rcases List.mem_cons.mp h with h | h
              · exact hv' h
              · exact hR h) g hg
      · exact ag_tr (ag_tr (ag_tr (ag_si (by decide)) (ag_si (by decide))) (ag_sl (by decide))) (ag_si (by decide))
      · exact ag_tr (ag_mono agS (by decide) (by decide) (by decide)) (ag_tr (ag_tr (ag_tr (ag_sa (by decide)) (ag_si (by decide))) (ag_sa (by decide))) (ag_si (by decide)))
end OPEN
