/-! tell, the reference's side. -/
section RL
variable {N n : Nat} {z : Nat → Nat} {S : mq_St} {D : List Int32} {f l fu m : Nat} {so on tw : Nat → Int32}
theorem rl_full (v : Int32) (hD : 400 ≤ D.length) (hc : tr S D) : zf_X11_tell_29 N z (fu + 1) v S = some (nI 400, S) := by
  have e1 : min D.length 400 = 400 := by omega
  have h1 : S.1 2 = nI 400 := by have := hc.1; rw [e1] at this; exact this
  show zf_X11_tell_29b N z _ v S = _
  unfold zf_X11_tell_29b zf_X11_tell_311
  rw [h1, if_pos (by decide : (400 : Int32) ≤ nI 400)]
  by_cases a : v ≤ 0
  · rw [if_pos a]
  · rw [if_neg a]
theorem rl_m (hD : D.length < 400) (hc : tr S D) : S.1 2 = nI D.length := by
  have e1 : min D.length 400 = D.length := by omega
  have := hc.1
  rw [e1] at this
  exact this
theorem rl_b (hl : l < 2000) (hD : D.length < 400) (hc : tr S D) (hs : S.2.1 16 l = nI f) (hf : f < 300) : zf_X11_tell_29 N z (fu + 1) (nI (l + 1)) S =
    if S.2.1 2 f = nI 0 then mq_cl (zf_X11_tells N z (nI 84) S) (fun _ S => zf_X11_tell_29 N z fu (nI l) S)
    else if S.2.1 2 f = nI 1 then mq_cl (zf_X11_tells N z (nI 70) S) (fun _ S => zf_X11_tell_29 N z fu (nI l) S)
    else if S.2.1 2 f = nI 2 then mq_cl (zf_X11_tells N z (nI 97 + S.2.1 3 f) S) (fun _ S => zf_X11_tell_29 N z fu (nI l) S)
    else if S.2.1 2 f = nI 3 then mq_cl (zf_X11_tells N z (nI 33) S) (fun _ S => mq_cl (zf_X11_tells N z (nI 97 + S.2.1 3 f) S) (fun _ S => zf_X11_tell_29 N z fu (nI l) S))
    else if S.2.1 2 f = nI 4 then zf_X11_tell_238 N z (fun v S => zf_X11_tell_29 N z fu v S) (nI l) (nI f) S
    else if S.2.1 2 f = nI 5 then zf_X11_tell_238 N z (fun v S => zf_X11_tell_29 N z fu v S) (nI l) (nI f) S
    else if S.2.1 2 f = nI 6 then zf_X11_tell_176 N z (fun v S => zf_X11_tell_29 N z fu v S) (nI l) (nI f) S
    else if S.2.1 2 f = nI 7 then zf_X11_tell_176 N z (fun v S => zf_X11_tell_29 N z fu v S) (nI l) (nI f) S
    else zf_X11_tell_238 N z (fun v S => zf_X11_tell_29 N z fu v S) (nI l) (nI f) S := by
  have h1 := rl_m hD hc
  show zf_X11_tell_29b N z _ (nI (l + 1)) S = _
  unfold zf_X11_tell_29b zf_X11_tell_308
  simp -implicitDefEqProofs (disch := omega) only [↓nS_e, ↓nI_e, ↓nL_e, mq_cl_s, mq_cp_s, si_1, si_2, sa_1, sa_2, sa_3, sl_1, sl_2, sl_3, ↓reduceIte, Nat.reduceEqDiff, Nat.reduceAdd, Nat.reduceSub, reduceCtorEq, eq_self, sp_leT, sp_leF, sp_ltT, sp_ltF, sp_eqT, sp_eqF, sp_m1, sp_m1', sp_ml, sp_mle, sp_mlt, sp_mle', sp_m1s, sp_lt0, sp_le0, sp_ck, sp_cl, sp_ad, sp_su, sp_ne, sp_cz, sp_a1, sp_a0, sp_0a, up_s, up_o, L0, L1, L2, L3, L4, L5, L6, L7, L8, L9, L10, L16, L20, L24, L32, L60, L300, L400, L470, L64, L320, L150, L1299, L1300, L97, L122, L84, L70, L33, L40, L41, L62, L91, L93, L38, L124, L61, L31, L63, L600, L1000000, L100000, L4000, L3000, L2000, L410, L3600, h1, hs]
theorem rl_sign {c : Nat} (hc0 : 0 < c) (hc1 : c < 300) (hl : l < 2000) (hD : D.length < 400) (hc : tr S D) (hs : S.2.1 16 l = -(nI c)) : zf_X11_tell_29 N z (fu + 1) (nI (l + 1)) S = mq_cl (zf_X11_tells N z (nI c) S) (fun _ S => zf_X11_tell_29 N z fu (nI l) S) := by
  have h1 := rl_m hD hc
  have e1 : ¬ (0 : Int32) ≤ -(nI c) := by
    rw [Int32.le_iff_toInt_le]
    have h2 : (-(nI c)).toInt = -(c : Int) := by
      rw [Int32.toInt_neg, nI_toInt (by omega)]
      simp only [Int.bmod]
      omega
    rw [h2, show (0 : Int32).toInt = 0 from by decide]
    omega
  have e2 : - -(nI c) = nI c := Int32.neg_neg
  show zf_X11_tell_29b N z _ (nI (l + 1)) S = _
  unfold zf_X11_tell_29b
  rw [show (0 : Int32) = nI 0 from rfl] at e1
  simp -implicitDefEqProofs (disch := omega) only [↓nS_e, ↓nI_e, ↓nL_e, mq_cl_s, mq_cp_s, si_1, si_2, sa_1, sa_2, sa_3, sl_1, sl_2, sl_3, ↓reduceIte, Nat.reduceEqDiff, Nat.reduceAdd, Nat.reduceSub, reduceCtorEq, eq_self, sp_leT, sp_leF, sp_ltT, sp_ltF, sp_eqT, sp_eqF, sp_m1, sp_m1', sp_ml, sp_mle, sp_mlt, sp_mle', sp_m1s, sp_lt0, sp_le0, sp_ck, sp_cl, sp_ad, sp_su, sp_ne, sp_cz, sp_a1, sp_a0, sp_0a, up_s, up_o, L0, L1, L2, L3, L4, L5, L6, L7, L8, L9, L10, L16, L20, L24, L32, L60, L300, L400, L470, L64, L320, L150, L1299, L1300, L97, L122, L84, L70, L33, L40, L41, L62, L91, L93, L38, L124, L61, L31, L63, L600, L1000000, L100000, L4000, L3000, L2000, L410, L3600, h1, hs, e2, e1]
theorem rl_one (hl : l < 2000) (hD : D.length < 400) (hc : tr S D) (hs : S.2.1 16 l = nI f) (hf : f < 300) {P : List Int32} {a : Nat} (h67 : (S.2.1 2 f = 6 ∧ P = [91, 93]) ∨ (S.2.1 2 f = 7 ∧ P = [60, 62])) (ha : S.2.1 3 f = nI a) :
    ∃ S', zf_X11_tell_29 N z (fu + 1) (nI (l + 1)) S = zf_X11_tell_29 N z fu (nI (l + 1)) S' ∧ tr S' (D ++ P) ∧ S'.2.1 16 l = nI a ∧ (∀ i, ¬ i = l → S'.2.1 16 i = S.2.1 16 i) ∧ ag [2] [1, 16] [] S S' := by
  have fin : ∀ (c1 c2 : Int32), S.2.1 2 f = 6 ∧ c1 = 91 ∧ c2 = 93 ∨ S.2.1 2 f = 7 ∧ c1 = 60 ∧ c2 = 62 → ∃ S', zf_X11_tell_176 N z (fun v S => zf_X11_tell_29 N z fu v S) (nI l) (nI f) S = zf_X11_tell_29 N z fu (nI (l + 1)) S' ∧ tr S' (D ++ [c1] ++ [c2]) ∧ S'.2.1 16 l = nI a ∧ (∀ i, ¬ i = l → S'.2.1 16 i = S.2.1 16 i) ∧ ag [2] [1, 16] [] S S' := by
    intro c1 c2 h
    obtain ⟨S1, a1, a2, a3⟩ := rf_tells (N := N) (z := z) c1 hc
    obtain ⟨S2, b1, b2, b3⟩ := rf_tells (N := N) (z := z) c2 a2
    have g := ag_tr a3 b3
    have e2 : S2.2.1 3 f = nI a := by rw [g.2.1 3 (by decide)]; exact ha
    refine ⟨mq_sa S2 16 (upd (S2.2.1 16) l (nI a)), ?_, b2, ?_, ?_, ag_tr (ag_mono g (by decide) (by decide) (by decide)) (ag_sa (by decide))⟩
    · unfold zf_X11_tell_176 zf_X11_tell_195 zf_X11_tell_217 zf_X11_tell_308
      rcases h with ⟨q, rfl, rfl⟩ | ⟨q, rfl, rfl⟩
      · have q1 : S1.2.1 2 f = nI 6 := by rw [a3.2.1 2 (by decide)]; exact q
        have q0 : S.2.1 2 f = nI 6 := q
        have a1 : zf_X11_tells N z (nI 91) S = some ((), S1) := a1
        have b1 : zf_X11_tells N z (nI 93) S1 = some ((), S2) := b1
        simp -implicitDefEqProofs (disch := omega) only [↓nS_e, ↓nI_e, ↓nL_e, mq_cl_s, mq_cp_s, si_1, si_2, sa_1, sa_2, sa_3, sl_1, sl_2, sl_3, ↓reduceIte, Nat.reduceEqDiff, Nat.reduceAdd, Nat.reduceSub, reduceCtorEq, eq_self, sp_leT, sp_leF, sp_ltT, sp_ltF, sp_eqT, sp_eqF, sp_m1, sp_m1', sp_ml, sp_mle, sp_mlt, sp_mle', sp_m1s, sp_lt0, sp_le0, sp_ck, sp_cl, sp_ad, sp_su, sp_ne, sp_cz, sp_a1, sp_a0, sp_0a, up_s, up_o, L0, L1, L2, L3, L4, L5, L6, L7, L8, L9, L10, L16, L20, L24, L32, L60, L300, L400, L470, L64, L320, L150, L1299, L1300, L97, L122, L84, L70, L33, L40, L41, L62, L91, L93, L38, L124, L61, L31, L63, L600, L1000000, L100000, L4000, L3000, L2000, L410, L3600, q0, q1, a1, b1, e2]
      · have q1 : S1.2.1 2 f = nI 7 := by rw [a3.2.1 2 (by decide)]; exact q
        have q0 : S.2.1 2 f = nI 7 := q
        have a1 : zf_X11_tells N z (nI 60) S = some ((), S1) := a1
        have b1 : zf_X11_tells N z (nI 62) S1 = some ((), S2) := b1
        simp -implicitDefEqProofs (disch := omega) only [↓nS_e, ↓nI_e, ↓nL_e, mq_cl_s, mq_cp_s, si_1, si_2, sa_1, sa_2, sa_3, sl_1, sl_2, sl_3, ↓reduceIte, Nat.reduceEqDiff, Nat.reduceAdd, Nat.reduceSub, reduceCtorEq, eq_self, sp_leT, sp_leF, sp_ltT, sp_ltF, sp_eqT, sp_eqF, sp_m1, sp_m1', sp_ml, sp_mle, sp_mlt, sp_mle', sp_m1s, sp_lt0, sp_le0, sp_ck, sp_cl, sp_ad, sp_su, sp_ne, sp_cz, sp_a1, sp_a0, sp_0a, up_s, up_o, L0, L1, L2, L3, L4, L5, L6, L7, L8, L9, L10, L16, L20, L24, L32, L60, L300, L400, L470, L64, L320, L150, L1299, L1300, L97, L122, L84, L70, L33, L40, L41, L62, L91, L93, L38, L124, L61, L31, L63, L600, L1000000, L100000, L4000, L3000, L2000, L410, L3600, q0, q1, a1, b1, e2]
    · exact up_s _ _ _
    · intro i hi
      show upd (S2.2.1 16) l (nI a) i = _
      rw [up_o hi, g.2.1 16 (by decide)]
  rw [rl_b hl hD hc hs hf]
  rcases h67 with ⟨q, rfl⟩ | ⟨q, rfl⟩
  · obtain ⟨S', w1, w2, w3⟩ := fin 91 93 (Or.inl ⟨q, rfl, rfl⟩)
    rw [List.append_assoc] at w2
    rw [show S.2.1 2 f = nI 6 from q]
    exact ⟨S', w1, w2, w3⟩
  · obtain ⟨S', w1, w2, w3⟩ := fin 60 62 (Or.inr ⟨q, rfl, rfl⟩)
    rw [List.append_assoc] at w2
    rw [show S.2.1 2 f = nI 7 from q]
    exact ⟨S', w1, w2, w3⟩
theorem rl_two (hl : l < 1990) (hD : D.length < 400) (hc : tr S D) (hs : S.2.1 16 l = nI f) (hf : f < 300) {c a b : Nat} (h45 : (S.2.1 2 f = 4 ∧ c = 38) ∨ (S.2.1 2 f = 5 ∧ c = 124)) (ha : S.2.1 3 f = nI a) (hb : S.2.1 4 f = nI b) :
    ∃ S', zf_X11_tell_29 N z (fu + 1) (nI (l + 1)) S = zf_X11_tell_29 N z fu (nI (l + 4)) S' ∧ tr S' (D ++ [40]) ∧ S'.2.1 16 l = -(nI 41) ∧ S'.2.1 16 (l + 1) = nI b ∧ S'.2.1 16 (l + 2) = -(nI c) ∧ S'.2.1 16 (l + 3) = nI a ∧ (∀ i, i < l → S'.2.1 16 i = S.2.1 16 i) ∧ ag [2] [1, 16] [] S S' := by
  obtain ⟨S1, a1, a2, a3⟩ := rf_tells (N := N) (z := z) 40 hc
  have e3 : S1.2.1 3 f = nI a := by rw [a3.2.1 3 (by decide)]; exact ha
  have e4 : S1.2.1 4 f = nI b := by rw [a3.2.1 4 (by decide)]; exact hb
  have a1 : zf_X11_tells N z (nI 40) S = some ((), S1) := a1
  have key : zf_X11_tell_238 N z (fun v S => zf_X11_tell_29 N z fu v S) (nI l) (nI f) S = zf_X11_tell_29 N z fu (nI (l + 4)) (mq_sa S1 16 (upd (upd (upd (upd (S1.2.1 16) l (-(nI 41))) (l + 1) (nI b)) (l + 2) (-(nI c))) (l + 3) (nI a))) := by
    unfold zf_X11_tell_238 zf_X11_tell_290 zf_X11_tell_308
    rcases h45 with ⟨q, rfl⟩ | ⟨q, rfl⟩
    · have q1 : S1.2.1 2 f = nI 4 := by rw [a3.2.1 2 (by decide)]; exact q
      simp -implicitDefEqProofs (disch := omega) only [↓nS_e, ↓nI_e, ↓nL_e, mq_cl_s, mq_cp_s, si_1, si_2, sa_1, sa_2, sa_3, sl_1, sl_2, sl_3, ↓reduceIte, Nat.reduceEqDiff, Nat.reduceAdd, Nat.reduceSub, reduceCtorEq, eq_self, sp_leT, sp_leF, sp_ltT, sp_ltF, sp_eqT, sp_eqF, sp_m1, sp_m1', sp_ml, sp_mle, sp_mlt, sp_mle', sp_m1s, sp_lt0, sp_le0, sp_ck, sp_cl, sp_ad, sp_su, sp_ne, sp_cz, sp_a1, sp_a0, sp_0a, up_s, up_o, L0, L1, L2, L3, L4, L5, L6, L7, L8, L9, L10, L16, L20, L24, L32, L60, L300, L400, L470, L64, L320, L150, L1299, L1300, L97, L122, L84, L70, L33, L40, L41, L62, L91, L93, L38, L124, L61, L31, L63, L600, L1000000, L100000, L4000, L3000, L2000, L410, L3600, q1, a1, e3, e4, sa_sa]
    · have q1 : S1.2.1 2 f = nI 5 := by rw [a3.2.1 2 (by decide)]; exact q
      simp -implicitDefEqProofs (disch := omega) only [↓nS_e, ↓nI_e, ↓nL_e, mq_cl_s, mq_cp_s, si_1, si_2, sa_1, sa_2, sa_3, sl_1, sl_2, sl_3, ↓reduceIte, Nat.reduceEqDiff, Nat.reduceAdd, Nat.reduceSub, reduceCtorEq, eq_self, sp_leT, sp_leF, sp_ltT, sp_ltF, sp_eqT, sp_eqF, sp_m1, sp_m1', sp_ml, sp_mle, sp_mlt, sp_mle', sp_m1s, sp_lt0, sp_le0, sp_ck, sp_cl, sp_ad, sp_su, sp_ne, sp_cz, sp_a1, sp_a0, sp_0a, up_s, up_o, L0, L1, L2, L3, L4, L5, L6, L7, L8, L9, L10, L16, L20, L24, L32, L60, L300, L400, L470, L64, L320, L150, L1299, L1300, L97, L122, L84, L70, L33, L40, L41, L62, L91, L93, L38, L124, L61, L31, L63, L600, L1000000, L100000, L4000, L3000, L2000, L410, L3600, q1, a1, e3, e4, sa_sa]
  refine ⟨mq_sa S1 16 (upd (upd (upd (upd (S1.2.1 16) l (-(nI 41))) (l + 1) (nI b)) (l + 2) (-(nI c))) (l + 3) (nI a)), ?_, a2, ?_, ?_, ?_, ?_, ?_, ag_tr (ag_mono a3 (by decide) (by decide) (by decide)) (ag_sa (k := 16) (f := upd (upd (upd (upd (S1.2.1 16) l (-(nI 41))) (l + 1) (nI b)) (l + 2) (-(nI c))) (l + 3) (nI a)) (by decide))⟩
  · rw [rl_b (by omega) hD hc hs hf]
    rcases h45 with ⟨q, rfl⟩ | ⟨q, rfl⟩
    · rw [show S.2.1 2 f = nI 4 from q]
      exact key
    · rw [show S.2.1 2 f = nI 5 from q]
      exact key
  · show upd (upd (upd (upd (S1.2.1 16) l (-(nI 41))) (l + 1) (nI b)) (l + 2) (-(nI c))) (l + 3) (nI a) l = _
    rw [up_o (by omega), up_o (by omega), up_o (by omega), up_s]
  · show upd (upd (upd (upd (S1.2.1 16) l (-(nI 41))) (l + 1) (nI b)) (l + 2) (-(nI c))) (l + 3) (nI a) (l + 1) = _
    rw [up_o (by omega), up_o (by omega), up_s]
  · show upd (upd (upd (upd (S1.2.1 16) l (-(nI 41))) (l + 1) (nI b)) (l + 2) (-(nI c))) (l + 3) (nI a) (l + 2) = _
    rw [up_o (by omega), up_s]
  · show upd (upd (upd (upd (S1.2.1 16) l (-(nI 41))) (l + 1) (nI b)) (l + 2) (-(nI c))) (l + 3) (nI a) (l + 3) = _
    rw [up_s]
  · intro i hi
    show upd (upd (upd (upd (S1.2.1 16) l (-(nI 41))) (l + 1) (nI b)) (l + 2) (-(nI c))) (l + 3) (nI a) i = _
    rw [up_o (by omega), up_o (by omega), up_o (by omega), up_o (by omega), a3.2.1 16 (by decide)]
/-- a text is told, from stack k down to stack l -/
def rl_R (N : Nat) (z : Nat → Nat) (T D : List Int32) (k l fuel : Nat) (S : mq_St) : Prop :=
  ∃ S', tr S' (D ++ T) ∧ ag [2] [1, 16] [] S S' ∧ ((400 ≤ (D ++ T).length ∧ zf_X11_tell_29 N z fuel (nI k) S = some (nI 400, S')) ∨
    ((D ++ T).length < 400 ∧ (∀ i, i < l → S'.2.1 16 i = S.2.1 16 i) ∧ ∃ fuel', fuel + D.length ≤ fuel' + (D ++ T).length ∧ zf_X11_tell_29 N z fuel (nI k) S = zf_X11_tell_29 N z fuel' (nI l) S'))
/-- one turn -/
theorem rl_turn {T : List Int32} {k : Nat} {S1 : mq_St} (hT : 1 ≤ T.length) (hD : D.length < 400) (hfu : 401 ≤ fu + 1 + D.length) (E : zf_X11_tell_29 N z (fu + 1) (nI k) S = zf_X11_tell_29 N z fu (nI l) S1) (hc : tr S1 (D ++ T)) (hk : ∀ i, i < l → i < m → S1.2.1 16 i = S.2.1 16 i) (g : ag [2] [1, 16] [] S S1) (hm : l ≤ m) : rl_R N z T D k l (fu + 1) S := by
  have l1 : (D ++ T).length = D.length + T.length := List.length_append
  by_cases hF : 400 ≤ (D ++ T).length
  · obtain ⟨q, rfl⟩ : ∃ q, fu = q + 1 := ⟨fu - 1, by omega⟩
    exact ⟨S1, hc, g, Or.inl ⟨hF, E.trans (rl_full _ hF hc)⟩⟩
  · exact ⟨S1, hc, g, Or.inr ⟨by omega, fun i hi => hk i hi (by omega), fu, by omega, E⟩⟩
/-- a turn that pushes, and what follows -/
theorem rl_first {T0 T : List Int32} {k j : Nat} {S1 : mq_St} (hT : 1 ≤ T0.length) (hD : D.length < 400) (hfu : 401 ≤ fu + 1 + D.length) (E : zf_X11_tell_29 N z (fu + 1) (nI k) S = zf_X11_tell_29 N z fu (nI j) S1) (hc : tr S1 (D ++ T0)) (hk : ∀ i, i < l → S1.2.1 16 i = S.2.1 16 i) (g : ag [2] [1, 16] [] S S1) (hr : (D ++ T0).length < 400 → 401 ≤ fu + (D ++ T0).length → rl_R N z T (D ++ T0) j l fu S1) : rl_R N z (T0 ++ T) D k l (fu + 1) S := by
  have l1 : (D ++ T0).length = D.length + T0.length := List.length_append
  unfold rl_R
  rw [← List.append_assoc]
  by_cases hF : 400 ≤ (D ++ T0).length
  · obtain ⟨q, rfl⟩ : ∃ q, fu = q + 1 := ⟨fu - 1, by omega⟩
    exact ⟨S1, tr_more hc hF, g, Or.inl ⟨wr_len hF, E.trans (rl_full _ hF hc)⟩⟩
  · obtain ⟨S2, b1, b2, b3⟩ := hr (by omega) (by omega)
    refine ⟨S2, b1, ag_tr g b2, ?_⟩
    rcases b3 with ⟨d1, d2⟩ | ⟨d1, d2, fu2, d3, d4⟩
    · exact Or.inl ⟨d1, E.trans d2⟩
    · exact Or.inr ⟨d1, fun i hi => (d2 i hi).trans (hk i hi), fu2, by omega, E.trans d4⟩
/-- one text behind another -/
theorem rl_seq {T1 T2 : List Int32} {k j : Nat} (hll : l ≤ j) (h1 : rl_R N z T1 D k j fu S) (hk : ∀ S1 fu1, tr S1 (D ++ T1) → ag [2] [1, 16] [] S S1 → (D ++ T1).length < 400 → (∀ i, i < j → S1.2.1 16 i = S.2.1 16 i) → fu + D.length ≤ fu1 + (D ++ T1).length → rl_R N z T2 (D ++ T1) j l fu1 S1) : rl_R N z (T1 ++ T2) D k l fu S := by
  obtain ⟨S1, a1, a2, a3⟩ := h1
  unfold rl_R
  rw [← List.append_assoc]
  rcases a3 with ⟨c1, c2⟩ | ⟨c1, c2, fu1, c3, c4⟩
  · exact ⟨S1, tr_more a1 c1, a2, Or.inl ⟨wr_len c1, c2⟩⟩
  · obtain ⟨S2, b1, b2, b3⟩ := hk S1 fu1 a1 a2 c1 c2 c3
    refine ⟨S2, b1, ag_tr a2 b2, ?_⟩
    rcases b3 with ⟨d1, d2⟩ | ⟨d1, d2, fu2, d3, d4⟩
    · exact Or.inl ⟨d1, c4.trans d2⟩
    · exact Or.inr ⟨d1, fun i hi => (d2 i hi).trans (c2 i (by omega)), fu2, by omega, c4.trans d4⟩
/-- a sign from the stack -/
theorem rl_sig {c : Nat} (hc0 : 0 < c) (hc1 : c < 300) (hl : l < 2000) (hD : D.length < 400) (hc : tr S D) (hs : S.2.1 16 l = -(nI c)) (hfu : 401 ≤ fu + D.length) : rl_R N z [nI c] D (l + 1) l fu S := by
  obtain ⟨fu, rfl⟩ : ∃ q, fu = q + 1 := ⟨fu - 1, by omega⟩
  obtain ⟨S1, a1, a2, a3⟩ := rf_tells (N := N) (z := z) (nI c) hc
  have E := rl_sign (N := N) (z := z) (fu := fu) hc0 hc1 hl hD hc hs
  rw [a1, mq_cl_s] at E
  exact rl_turn (m := l) (Nat.le_refl 1) hD hfu E a2 (fun i _ _ => by rw [a3.2.1 16 (by decide)]) (ag_mono a3 (by decide) (by decide) (by decide)) (Nat.le_refl _)
theorem rl_all {d : Nat → Nat} (hw : fw n so on tw d) : ∀ f, f < n → ∀ (S : mq_St) (D : List Int32) (l fu : Nat), S.2.1 2 = so → S.2.1 3 = on → S.2.1 4 = tw → S.2.1 16 l = nI f → l + 4 * (f + 1) ≤ 1990 → tr S D → D.length < 400 → 401 ≤ fu + D.length → rl_R N z (tx so on tw f) D (l + 1) l fu S := by
  intro f
  induction f using Nat.strongRecOn with
  | ind f ih =>
    intro hf S D l fuel hso hon htw hs hl hc hD hfu
    have h3 := hw.2.1
    obtain ⟨fu, rfl⟩ : ∃ q, fuel = q + 1 := ⟨fuel - 1, by omega⟩
    have hb := rl_b (N := N) (z := z) (fu := fu) (l := l) (f := f) (by omega) hD hc hs (by omega)
    rw [hso, hon] at hb
    rcases hw.2.2.2.2 f hf with ⟨-, s0, -⟩ | ⟨-, s0, -⟩ | ⟨hs', -⟩ | ⟨h45, a, b, ha, hb', w1, w2, -⟩ | ⟨h67, -, -, a, ha, w1, -⟩
    · obtain ⟨S1, a1, a2, a3⟩ := rf_tells (N := N) (z := z) 84 hc
      have E := hb
      rw [if_pos (show so f = nI 0 from s0), show zf_X11_tells N z (nI 84) S = some ((), S1) from a1, mq_cl_s] at E
      rw [tx_0 s0]
      exact rl_turn (m := l) (Nat.le_refl 1) hD hfu E a2 (fun i _ _ => by rw [a3.2.1 16 (by decide)]) (ag_mono a3 (by decide) (by decide) (by decide)) (Nat.le_refl _)
    · obtain ⟨S1, a1, a2, a3⟩ := rf_tells (N := N) (z := z) 70 hc
      have E := hb
      rw [s0, if_neg (by decide), if_pos (by decide), show zf_X11_tells N z (nI 70) S = some ((), S1) from a1, mq_cl_s] at E
      rw [tx_1 s0]
      exact rl_turn (m := l) (Nat.le_refl 1) hD hfu E a2 (fun i _ _ => by rw [a3.2.1 16 (by decide)]) (ag_mono a3 (by decide) (by decide) (by decide)) (Nat.le_refl _)
    · rcases hs' with ⟨s0, -⟩ | ⟨s0, -⟩
      · obtain ⟨S1, a1, a2, a3⟩ := rf_tells (N := N) (z := z) (97 + on f) hc
        have E := hb
        rw [s0, if_neg (by decide), if_neg (by decide), if_pos (by decide), show zf_X11_tells N z (nI 97 + on f) S = some ((), S1) from a1, mq_cl_s] at E
        rw [tx_2 s0]
        exact rl_turn (m := l) (Nat.le_refl 1) hD hfu E a2 (fun i _ _ => by rw [a3.2.1 16 (by decide)]) (ag_mono a3 (by decide) (by decide) (by decide)) (Nat.le_refl _)
      · obtain ⟨S0, b1, b2, b3⟩ := rf_tells (N := N) (z := z) 33 hc
        obtain ⟨S1, a1, a2, a3⟩ := rf_tells (N := N) (z := z) (97 + on f) b2
        have E := hb
        rw [s0, if_neg (by decide), if_neg (by decide), if_neg (by decide), if_pos (by decide), show zf_X11_tells N z (nI 33) S = some ((), S0) from b1, mq_cl_s, show S0.2.1 3 f = on f from by rw [b3.2.1 3 (by decide), hon], show zf_X11_tells N z (nI 97 + on f) S0 = some ((), S1) from a1, mq_cl_s] at E
        rw [tx_3 s0]
        rw [List.append_assoc] at a2
        exact rl_turn (m := l) (Nat.le_succ 1) hD hfu E a2 (fun i _ _ => by rw [a3.2.1 16 (by decide), b3.2.1 16 (by decide)]) (ag_mono (ag_tr b3 a3) (by decide) (by decide) (by decide)) (Nat.le_refl _)
    · have h45' : so f = 4 ∨ so f = 5 := h45.elim (fun q => Or.inl q.1) (fun q => Or.inr q.1)
      obtain ⟨c, hc1, hc2⟩ : ∃ c : Nat, ((so f = 4 ∧ c = 38) ∨ (so f = 5 ∧ c = 124)) ∧ (if so f = 4 then 38 else 124) = nI c := by
        rcases h45' with q | q
        · exact ⟨38, Or.inl ⟨q, rfl⟩, by rw [q]; decide⟩
        · exact ⟨124, Or.inr ⟨q, rfl⟩, by rw [q]; decide⟩
      have hcb : 0 < c ∧ c < 300 := by rcases hc1 with ⟨-, q⟩ | ⟨-, q⟩ <;> omega
      obtain ⟨S1, p1, p2, p3, p4, p5, p6, p7, p8⟩ := rl_two (N := N) (z := z) (fu := fu) (l := l) (f := f) (c := c) (a := a) (b := b) (by omega) hD hc hs (by omega) (by rw [hso]; exact hc1) (by rw [hon]; exact w1) (by rw [htw]; exact w2)
      have hx : tx so on tw f = [40] ++ (tx so on tw a ++ ([nI c] ++ (tx so on tw b ++ [nI 41]))) := by
        rw [← hc2]
        exact tx_two hw hf h45' ha hb' w1 w2
      rw [hx]
      refine rl_first (Nat.le_refl 1) hD hfu p1 p2 p7 p8 (fun hD1 hf1 => ?_)
      have q2 := (p8.2.1 2 (by decide)).trans hso
      have q3 := (p8.2.1 3 (by decide)).trans hon
      have q4 := (p8.2.1 4 (by decide)).trans htw
      refine rl_seq (j := l + 3) (by omega) (ih a ha (by omega) S1 _ (l + 3) fu q2 q3 q4 p6 (by omega) p2 hD1 hf1) (fun S2 fu2 r1 r2 r3 r4 r5 => ?_)
      refine rl_seq (j := l + 2) (by omega) (rl_sig (c := c) hcb.1 hcb.2 (by omega) r3 r1 ((r4 (l + 2) (by omega)).trans p5) (by omega)) (fun S3 fu3 t1 t2 t3 t4 t5 => ?_)
      have g3 := ag_tr r2 t2
      refine rl_seq (j := l + 1) (by omega) (ih b hb' (by omega) S3 _ (l + 1) fu3 ((g3.2.1 2 (by decide)).trans q2) ((g3.2.1 3 (by decide)).trans q3) ((g3.2.1 4 (by decide)).trans q4) (((t4 (l + 1) (by omega)).trans (r4 (l + 1) (by omega))).trans p4) (by omega) t1 t3 (by omega)) (fun S4 fu4 u1 u2 u3 u4 u5 => ?_)
      exact rl_sig (c := 41) (by decide) (by decide) (by omega) u3 u1 ((((u4 l (by omega)).trans (t4 l (by omega))).trans (r4 l (by omega))).trans p3) (by omega)
    · have hP : ∃ P : List Int32, ((so f = 6 ∧ P = [91, 93]) ∨ (so f = 7 ∧ P = [60, 62])) ∧ tx so on tw f = P ++ tx so on tw a ∧ P.length = 2 := by
        rcases h67 with ⟨s0, -⟩ | ⟨s0, -⟩
        · exact ⟨[91, 93], Or.inl ⟨s0, rfl⟩, tx_need hw hf s0 ha w1, rfl⟩
        · exact ⟨[60, 62], Or.inr ⟨s0, rfl⟩, tx_may hw hf s0 ha w1, rfl⟩
      obtain ⟨P, hP1, hP2, hP3⟩ := hP
      obtain ⟨S1, p1, p2, p3, p4, p5⟩ := rl_one (N := N) (z := z) (fu := fu) (l := l) (f := f) (P := P) (a := a) (by omega) hD hc hs (by omega) (by rw [hso]; exact hP1) (by rw [hon]; exact w1)
      rw [hP2]
      refine rl_first (by omega) hD hfu p1 p2 (fun i hi => p4 i (by omega)) p5 (fun hD1 hf1 => ?_)
      exact ih a ha (by omega) S1 _ l fu ((p5.2.1 2 (by decide)).trans hso) ((p5.2.1 3 (by decide)).trans hon) ((p5.2.1 4 (by decide)).trans htw) p3 (by omega) p2 hD1 hf1
end RL

theorem rf_tell {N n f : Nat} {z : Nat → Nat} {S : mq_St} {d : Nat → Nat} (hN : 402 ≤ N) (hw : fw n (S.2.1 2) (S.2.1 3) (S.2.1 4) d) (hf : f < n) :
    ∃ S', zf_X11_tell_29 N z N (nI 1) (mq_sa (mq_si S 2 0) 16 (upd (S.2.1 16) 0 (nI f))) = some (nI (min (tx (S.2.1 2) (S.2.1 3) (S.2.1 4) f).length 400), S') ∧ tr S' (tx (S.2.1 2) (S.2.1 3) (S.2.1 4) f) ∧ ag [2] [1, 16] [] S S' := by
  have h3 := hw.2.1
  have g : ag [2] [1, 16] [] S (mq_sa (mq_si S 2 0) 16 (upd (S.2.1 16) 0 (nI f))) := ag_tr (ag_si (by decide)) (ag_sa (by decide))
  obtain ⟨S', a1, a2, a3⟩ := rl_all (N := N) (z := z) hw f hf (mq_sa (mq_si S 2 0) 16 (upd (S.2.1 16) 0 (nI f))) [] 0 N rfl rfl rfl (Eq.trans rfl (up_s (S.2.1 16) 0 (nI f))) (by omega) ⟨rfl, fun i hi => absurd hi (by show ¬ i < 0; omega)⟩ (by decide) (by show 401 ≤ N + 0; omega)
  rw [List.nil_append] at a1 a3
  refine ⟨S', ?_, a1, ag_tr g a2⟩
  rcases a3 with ⟨b1, b2⟩ | ⟨b1, b2, fu, b3, b4⟩
  · rw [show min (tx (S.2.1 2) (S.2.1 3) (S.2.1 4) f).length 400 = 400 from by omega]
    exact b2
  · have b3 : N ≤ fu + (tx (S.2.1 2) (S.2.1 3) (S.2.1 4) f).length := b3
    obtain ⟨q, rfl⟩ : ∃ q, fu = q + 1 := ⟨fu - 1, by omega⟩
    refine b4.trans ?_
    show zf_X11_tell_29b N z _ (nI 0) S' = _
    unfold zf_X11_tell_29b zf_X11_tell_311
    rw [if_pos (by decide : nI 0 ≤ 0), a1.1]
theorem fw_cong {n : Nat} {so on tw rs ro rt : Nat → Int32} {d : Nat → Nat} {P : Nat → Prop} (hw : fw n rs ro rt d) (hs : ∀ f, f < n → so f = rs f ∧ on f = ro f ∧ tw f = rt f ∧ P f) : fw n so on tw d := by
  obtain ⟨h1, h2, h3, h4, h5⟩ := hw
  refine ⟨h1, h2, fun f g hf hg a b c => h3 f g hf hg ?_ ?_ ?_, h4, fun f hf => ?_⟩
  · rw [← (hs f hf).1, ← (hs g hg).1]; exact a
  · rw [← (hs f hf).2.1, ← (hs g hg).2.1]; exact b
  · rw [← (hs f hf).2.2.1, ← (hs g hg).2.2.1]; exact c
  · have := h5 f hf
    rw [(hs f hf).1, (hs f hf).2.1, (hs f hf).2.2.1, (hs _ (h4 f hf)).1, (hs _ (h4 f hf)).2.1, (hs _ (h4 f hf)).2.2.1]
    exact this
theorem tx_cong {n : Nat} {so on tw rs ro rt : Nat → Int32} {d : Nat → Nat} {P : Nat → Prop} (hw : fw n rs ro rt d) (hs : ∀ f, f < n → so f = rs f ∧ on f = ro f ∧ tw f = rt f ∧ P f) : ∀ f, f < n → tx so on tw f = tx rs ro rt f := by
  have key : ∀ k f, f < n → txf so on tw k f = txf rs ro rt k f := by
    intro k
    induction k with
    | zero => intro f _; rfl
    | succ k ih =>
      intro f hf
      have h3 := hw.2.1
      unfold txf
      rw [(hs f hf).1, (hs f hf).2.1, (hs f hf).2.2.1]
      rcases hw.2.2.2.2 f hf with ⟨-, s0, -⟩ | ⟨-, s0, -⟩ | ⟨hs', -⟩ | ⟨-, a, b, ha, hb, w1, w2, -⟩ | ⟨hs', -, -, a, ha, w1, -⟩
      · rw [if_pos s0, if_pos s0]
      · have n0 : ¬ rs f = 0 := by rw [s0]; decide
        rw [if_neg n0, if_pos s0, if_neg n0, if_pos s0]
      · rcases hs' with ⟨s0, -⟩ | ⟨s0, -⟩
        · have n0 : ¬ rs f = 0 := by rw [s0]; decide
          have n1 : ¬ rs f = 1 := by rw [s0]; decide
          rw [if_neg n0, if_neg n1, if_pos s0, if_neg n0, if_neg n1, if_pos s0]
        · have n0 : ¬ rs f = 0 := by rw [s0]; decide
          have n1 : ¬ rs f = 1 := by rw [s0]; decide
          have n2 : ¬ rs f = 2 := by rw [s0]; decide
          rw [if_neg n0, if_neg n1, if_neg n2, if_pos s0, if_neg n0, if_neg n1, if_neg n2, if_pos s0]
      · rw [w1, w2, nI_clamp (by omega), nI_clamp (by omega), ih a (by omega), ih b (by omega)]
      · have n4 : ¬ rs f = 0 ∧ ¬ rs f = 1 ∧ ¬ rs f = 2 ∧ ¬ rs f = 3 := by rcases hs' with ⟨s0, -⟩ | ⟨s0, -⟩ <;> (rw [s0]; decide)
        rw [w1, nI_clamp (by omega), ih a (by omega)]
        rcases hs' with ⟨s0, -⟩ | ⟨s0, -⟩
        · rw [if_neg n4.1, if_neg n4.2.1, if_neg n4.2.2.1, if_neg n4.2.2.2, if_pos s0, if_neg n4.1, if_neg n4.2.1, if_neg n4.2.2.1, if_neg n4.2.2.2, if_pos s0]
        · have n6 : ¬ rs f = 6 := by rw [s0]; decide
          rw [if_neg n4.1, if_neg n4.2.1, if_neg n4.2.2.1, if_neg n4.2.2.2, if_neg n6, if_pos s0, if_neg n4.1, if_neg n4.2.1, if_neg n4.2.2.1, if_neg n4.2.2.2, if_neg n6, if_pos s0]
  exact fun f hf => key (f + 1) f hf
theorem st_tell {N n : Nat} {z : Nat → Nat} {SC SR : mq_St} {d : Nat → Nat} (v : Int32) (hN : 2000 ≤ N) (ht : iv_tape (SC.1 1) (SC.2.1 3) (SR.1 2) (SR.2.1 1)) (h : iv_fs n d (SC.1 2) (SC.2.1 4) (SC.2.1 5) (SC.2.1 6) (SC.2.1 7) (SC.2.1 0) (SC.2.1 1) (SR.1 3) (SR.2.1 2) (SR.2.1 3) (SR.2.1 4) (SR.2.1 5) (SR.2.1 6)) :
    ∃ r SC' SR', zf_X10_tell N z v SC = some (r, SC') ∧ zf_X11_tell N z v SR = some (r, SR') ∧ iv_tape (SC'.1 1) (SC'.2.1 3) (SR'.1 2) (SR'.2.1 1) ∧ ag [1, 13] [3, 15] [] SC SC' ∧ ag [0, 2] [1, 16] [] SR SR' := by
  obtain ⟨hc, hr, hw, hs, hsl⟩ := h
  have h3 := hw.2.1
  obtain ⟨t, h4, tc1, tr1, tb⟩ := ht
  unfold zf_X10_tell zf_X11_tell
  rw [nS_e, ck_has, rf_isF (S := mq_si SR 0 0) v hr h3, hc]
  rcases mq_place v (t := n) (by omega) with hv | ⟨f, hf, rfl, hv⟩
  · rw [if_pos hv, mq_cp_s, mq_cp_s, if_pos rfl, if_pos rfl]
    exact ⟨-1, SC, mq_si SR 0 0, rfl, rfl, ⟨t, h4, tc1, tr1, tb⟩, ag_rf, ag_si (by decide)⟩
  · have h10 : ¬ (1 : Int32) = 0 := by decide
    rw [if_neg hv, mq_cp_s, mq_cp_s, if_neg h10, if_neg h10]
    have hwC : fw n (SC.2.1 4) (SC.2.1 5) (SC.2.1 6) d := fw_cong hw hs
    obtain ⟨S1, a1, a2, a3⟩ := ck_write (N := N) (z := z) (f := f) (by omega) hwC hc hf tc1 h4
    obtain ⟨S2, b1, b2, b3⟩ := rf_tell (N := N) (z := z) (S := mq_si SR 0 0) (f := f) (by omega) hw hf
    have ex : tx (SC.2.1 4) (SC.2.1 5) (SC.2.1 6) f = tx (SR.2.1 2) (SR.2.1 3) (SR.2.1 4) f := tx_cong hw hs f hf
    rw [ex] at a2
    refine ⟨nI (min (tx (SR.2.1 2) (SR.2.1 3) (SR.2.1 4) f).length 400), S1, S2, ?_, ?_, ⟨min (tx (SR.2.1 2) (SR.2.1 3) (SR.2.1 4) f).length 400, by omega, a2.1, b2.1, fun i hi => (a2.2.2 i hi).trans (b2.2 i hi).symm⟩, a3, ag_tr (ag_si (by decide)) (ag_mono b3 (by decide) (by decide) (by decide))⟩
    · rw [a1, mq_cl_s, show zf_X0_size N z (mq_pull S1 [1] [3] []) = some (S1.1 1) from rfl, mq_cp_s, show S1.1 1 = _ from a2.1]
    · have e0 : ∀ k : Option (Int32 × mq_St), mq_ck 0 2000 k = k := fun k => by
        rw [L0]
        exact sp_ck (by omega) (by omega)
      rw [nS_e, e0, nS_e, nI_e, show (0 : Int32).toNatClampNeg = 0 from by decide, L1]
      exact b1
