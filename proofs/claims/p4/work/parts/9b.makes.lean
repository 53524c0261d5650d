/-! The reference makes what it has read: makes(). -/
def ndM (S : mq_St) (T : List Tr) : Prop := T.length ≤ 3000 ∧ (∀ t ∈ T, wf t) ∧ ∀ x t, T[x]? = some t → entR (T.take x) (S.2.1 7 x) (S.2.1 8 x) (S.2.1 9 x) t
theorem ndM_c {S S' : mq_St} {T : List Tr} (h : ndM S T) (a7 : S'.2.1 7 = S.2.1 7) (a8 : S'.2.1 8 = S.2.1 8) (a9 : S'.2.1 9 = S.2.1 9) : ndM S' T := by
  unfold ndM
  rw [a7, a8, a9]
  exact h
/-- what is known of a mark (a node's YES, even, or its NO) -/
def Dm (S : mq_St) (m : Nat) : Int32 := if m % 2 = 0 then S.2.1 10 (m / 2) else S.2.1 11 (m / 2)
def isv (m : Nat) : Int32 := if m % 2 = 0 then 1 else 0
def mkE (e : En) (o : Option (List En)) : Option (List En) := o.bind (fun L => if (m1 e L).2.length ≤ 300 then some (m1 e L).2 else none)
def mkO (t : Tr) (o : Option (List En)) : Option (List En) := o.bind (fun L => if (mk t L).2.length ≤ 300 then some (mk t L).2 else none)
def Qm (T : List Tr) (L0 : List En) (S : mq_St) : Option (List En) → Prop
  | some L => S.1 6 = 0 ∧ tbR S L ∧ ok0 L ∧ (∃ X, L = L0 ++ X) ∧ ∀ m t, mt T m t → Dm S m = -1 ∨ ∃ k : Nat, Dm S m = nI k ∧ pr t L k
  | none => S.1 6 = 1 ∧ ∃ X, tbR S (L0 ++ X)
theorem Dm_c {S S' : mq_St} (e10 : S'.2.1 10 = S.2.1 10) (e11 : S'.2.1 11 = S.2.1 11) (m : Nat) : Dm S' m = Dm S m := by
  unfold Dm
  rw [e10, e11]
theorem tbR_c {S S' : mq_St} {L : List En} (h : tbR S L) (e3 : S'.1 3 = S.1 3) (e2 : S'.2.1 2 = S.2.1 2) (a3 : S'.2.1 3 = S.2.1 3) (a4 : S'.2.1 4 = S.2.1 4) : tbR S' L := by
  unfold tbR
  rw [e3, e2, a3, a4]
  exact h
theorem Qm_c {T : List Tr} {L0 : List En} {S S' : mq_St} {o : Option (List En)} (h : Qm T L0 S o) (g : ag [17] [14] [] S S') : Qm T L0 S' o := by
  have e3 := g.1 3 (by decide)
  have e2 := g.2.1 2 (by decide)
  have a3 := g.2.1 3 (by decide)
  have a4 := g.2.1 4 (by decide)
  cases o with
  | none =>
    obtain ⟨h1, X, h2⟩ := h
    exact ⟨(g.1 6 (by decide)).trans h1, X, tbR_c h2 e3 e2 a3 a4⟩
  | some L =>
    obtain ⟨h1, h2, h3, h4, h5⟩ := h
    refine ⟨(g.1 6 (by decide)).trans h1, tbR_c h2 e3 e2 a3 a4, h3, h4, fun m t q => ?_⟩
    rw [Dm_c (g.2.1 10 (by decide)) (g.2.1 11 (by decide))]
    exact h5 m t q
section MK
variable {N : Nat} {z : Nat → Nat} {S : mq_St} {T : List Tr} {L0 : List En} {o : Option (List En)} {wm : Nat}
theorem mz_make {s a b : Int32} (hN : 400 ≤ N) (hL0 : L0.length ≤ 300) (h : Qm T L0 S o) : ∃ v S', zf_X11_make N z s a b S = some (v, S') ∧ Qm T L0 S' (mkE (s, a, b) o) ∧ ¬ v = -1 ∧ (∀ L, o = some L → (m1 (s, a, b) L).2.length ≤ 300 → v = nI (m1 (s, a, b) L).1) ∧ ag [3, 6] [2, 3, 4] [] S S' := by
  cases o with
  | some L =>
    obtain ⟨h1, h2, h3, ⟨X, h4⟩, h5⟩ := h
    obtain ⟨A, B⟩ := rf_mk (N := N) (z := z) (s := s) (a := a) (b := b) hN h2
    by_cases q : (m1 (s, a, b) L).2.length ≤ 300
    · obtain ⟨S', a1, a2, a3⟩ := A q
      obtain ⟨Y, hY, -⟩ := m1_ext (s, a, b) L
      have hlt : (m1 (s, a, b) L).1 < 300 := by
        have := List.idxOf_lt_length_of_mem (m1_mem (s, a, b) L)
        rw [← m1_idx] at this
        omega
      refine ⟨_, S', a1, ?_, nI_nm1 (by omega), fun L' e _ => by rw [← Option.some.inj e], ag_mono a3 (by decide) (by decide) (by decide)⟩
      show Qm T L0 S' (if (m1 (s, a, b) L).2.length ≤ 300 then some (m1 (s, a, b) L).2 else none)
      rw [if_pos q]
      refine ⟨(a3.1 6 (by decide)).trans h1, a2, by rw [hY]; exact ok0_app h3 Y, ⟨X ++ Y, by rw [hY, h4, List.append_assoc]⟩, fun m t hm => ?_⟩
      rw [Dm_c (a3.2.1 10 (by decide)) (a3.2.1 11 (by decide)), hY]
      rcases h5 m t hm with e | ⟨k, e, p⟩
      · exact Or.inl e
      · exact Or.inr ⟨k, e, pr_mono p Y⟩
    · refine ⟨0, mq_si S 6 1, B (by omega), ?_, by decide, fun L' e q' => by rw [← Option.some.inj e] at q'; exact absurd q' q, ag_si (by decide)⟩
      show Qm T L0 _ (if (m1 (s, a, b) L).2.length ≤ 300 then some (m1 (s, a, b) L).2 else none)
      rw [if_neg q]
      exact ⟨rfl, X, by rw [← h4]; exact tbR_c h2 rfl rfl rfl rfl⟩
  | none =>
    obtain ⟨h1, X, h2⟩ := h
    obtain ⟨A, B⟩ := rf_mk (N := N) (z := z) (s := s) (a := a) (b := b) hN h2
    by_cases q : (m1 (s, a, b) (L0 ++ X)).2.length ≤ 300
    · obtain ⟨S', a1, a2, a3⟩ := A q
      obtain ⟨Y, hY, -⟩ := m1_ext (s, a, b) (L0 ++ X)
      have hlt : (m1 (s, a, b) (L0 ++ X)).1 < 300 := by
        have := List.idxOf_lt_length_of_mem (m1_mem (s, a, b) (L0 ++ X))
        rw [← m1_idx] at this
        omega
      refine ⟨_, S', a1, ⟨(a3.1 6 (by decide)).trans h1, X ++ Y, by rw [← List.append_assoc, ← hY]; exact a2⟩, nI_nm1 (by omega), fun L' e => (by cases e), ag_mono a3 (by decide) (by decide) (by decide)⟩
    · exact ⟨0, mq_si S 6 1, B (by omega), ⟨rfl, X, tbR_c h2 rfl rfl rfl rfl⟩, by decide, fun L' e => (by cases e), ag_si (by decide)⟩
/-- onto the stack of what is wanted -/
def psh (S : mq_St) (wm y : Nat) : mq_St := mq_si (mq_sa S 14 (upd (S.2.1 14) wm (nI y))) 17 (nI (wm + 1))
theorem mz_has {y : Nat} (hy : y / 2 < 3000) : zf_X11_has N z (nI (y / 2)) (isv y) S = some (Dm S y) := by
  unfold zf_X11_has isv Dm
  by_cases e : y % 2 = 0
  · rw [if_pos e, if_neg (by decide), if_pos e, mq_ck_of (vp_in_nI hy (by omega)), nI_clamp (by omega)]
  · rw [if_neg e, if_pos rfl, if_neg e, mq_ck_of (vp_in_nI hy (by omega)), nI_clamp (by omega)]
theorem mz_isMade {y : Nat} (hy : y / 2 < 3000) (h17 : S.1 17 = nI wm) (hw : wm < 3000) : zf_X11_isMade N z (nI (y / 2)) (isv y) S = if Dm S y = -1 then some (0, psh S wm y) else some (1, S) := by
  have i1 : vp_in (nI (y / 2)) 3000 := vp_in_nI hy (by omega)
  have k1 : (nI (y / 2)).toNatClampNeg = y / 2 := nI_clamp (by omega)
  have i2 : vp_in (nI wm) 3000 := vp_in_nI hw (by omega)
  have k2 : (nI wm).toNatClampNeg = wm := nI_clamp (by omega)
  have p2 : (2 : Int32) * nI (y / 2) = nI (2 * (y / 2)) := pk_mul 2 (y / 2)
  unfold zf_X11_isMade zf_X11_isMade_19 zf_X11_isMade_45 isv Dm psh
  by_cases e : y % 2 = 0
  · have a1 : nI (2 * (y / 2)) + 0 = nI y := by
      rw [show nI (2 * (y / 2)) + 0 = nI (2 * (y / 2) + 0) from nI_add _ 0]; congr 1; omega
    have d10 : ¬ (1 : Int32) = 0 := by decide
    simp only [if_pos e, if_neg d10, mq_ck_of i1, k1, h17, mq_ck_of i2, k2, p2, a1, nS_e, sa_1, nI_1, mq_cz_0, mq_cz_1]
  · have a1 : nI (2 * (y / 2)) + 1 = nI y := by rw [nI_1]; congr 1; omega
    simp only [if_neg e, ↓reduceIte, mq_ck_of i1, k1, h17, mq_ck_of i2, k2, p2, a1, nS_e, sa_1, nI_1, mq_cz_0, mq_cz_1]
/-- a pair: a part that is wanting, or the FORMULA of both -/
theorem mz_pair {s : Int32} {y w : Nat} (hy : y / 2 < 3000) (hw : w / 2 < 3000) (h17 : S.1 17 = nI wm) (hwm : wm < 3000) : zf_X11_pair N z s (nI (y / 2)) (isv y) (nI (w / 2)) (isv w) S = if Dm S y = -1 then some (-1, psh S wm y) else if Dm S w = -1 then some (-1, psh S wm w) else zf_X11_make N z s (Dm S y) (Dm S w) S := by
  unfold zf_X11_pair
  rw [mz_isMade hy h17 hwm]
  by_cases e : Dm S y = -1
  · rw [if_pos e, if_pos e, mq_cl_s, if_pos rfl]
  · rw [if_neg e, if_neg e, mq_cl_s, if_neg (by decide), mz_isMade hw h17 hwm]
    by_cases e2 : Dm S w = -1
    · rw [if_pos e2, if_pos e2, mq_cl_s, if_pos rfl]
    · rw [if_neg e2, if_neg e2, mq_cl_s, if_neg (by decide), mz_has hy, mq_cp_s, mz_has hw, mq_cp_s]
      cases zf_X11_make N z s (Dm S y) (Dm S w) S with
      | none => rfl
      | some q => rfl
/-- what making a mark asks for -/
def kdR (N : Nat) (z : Nat → Nat) (T : List Tr) (m : Nat) (t : Tr) (wm : Nat) (S0 : mq_St) : Prop :=
  (∃ v : Nat, v < 2 ∧ t = .num v ∧ ∀ S : mq_St, ag [3, 6, 17] [2, 3, 4, 10, 11, 14] [] S0 S → S.1 17 = nI wm → zf_X11_madeOf N z (nI (m / 2)) (isv m) S = some (nI v, S)) ∨
  (∃ (k : Nat) (v : Int32), (∀ L, mk t L = m1 (nI k, v, -1) L) ∧ ∀ S : mq_St, ag [3, 6, 17] [2, 3, 4, 10, 11, 14] [] S0 S → S.1 17 = nI wm → zf_X11_madeOf N z (nI (m / 2)) (isv m) S = zf_X11_make N z (nI k) v (-1) S) ∨
  (∃ y : Nat, mt T y t ∧ y / 2 < m / 2 ∧ ∀ S : mq_St, ag [3, 6, 17] [2, 3, 4, 10, 11, 14] [] S0 S → S.1 17 = nI wm → zf_X11_madeOf N z (nI (m / 2)) (isv m) S = if Dm S y = -1 then some (-1, psh S wm y) else some (Dm S y, S)) ∨
  (∃ (k y : Nat) (a : Tr), mt T y a ∧ y / 2 < m / 2 ∧ (∀ L, mk t L = m1 (nI k, nI (mk a L).1, -1) (mk a L).2) ∧ ∀ S : mq_St, ag [3, 6, 17] [2, 3, 4, 10, 11, 14] [] S0 S → S.1 17 = nI wm → zf_X11_madeOf N z (nI (m / 2)) (isv m) S = if Dm S y = -1 then some (-1, psh S wm y) else zf_X11_make N z (nI k) (Dm S y) (-1) S) ∨
  (∃ (k y w : Nat) (a b : Tr), mt T y a ∧ mt T w b ∧ y / 2 < m / 2 ∧ w / 2 < m / 2 ∧ (∀ L, mk t L = m1 (nI k, nI (mk a L).1, nI (mk b (mk a L).2).1) (mk b (mk a L).2).2) ∧ ∀ S : mq_St, ag [3, 6, 17] [2, 3, 4, 10, 11, 14] [] S0 S → S.1 17 = nI wm → zf_X11_madeOf N z (nI (m / 2)) (isv m) S = if Dm S y = -1 then some (-1, psh S wm y) else if Dm S w = -1 then some (-1, psh S wm w) else zf_X11_make N z (nI k) (Dm S y) (Dm S w) S) ∨
  (∃ (k k' y w : Nat) (a b p q : Tr), mt T y a ∧ mt T w b ∧ y / 2 < m / 2 ∧ w / 2 < m / 2 ∧ (∀ L, mk p L = m1 (nI k', nI (mk a L).1, nI (mk b (mk a L).2).1) (mk b (mk a L).2).2) ∧ (∀ L, mk q L = m1 (nI k', nI (mk (du a) L).1, nI (mk (du b) (mk (du a) L).2).1) (mk (du b) (mk (du a) L).2).2) ∧ (∀ L, mk t L = m1 (nI k, nI (mk p L).1, nI (mk q (mk p L).2).1) (mk q (mk p L).2).2) ∧ ∀ S : mq_St, ag [3, 6, 17] [2, 3, 4, 10, 11, 14] [] S0 S → S.1 17 = nI wm → zf_X11_madeOf N z (nI (m / 2)) (isv m) S = mq_cl (zf_X11_pair N z (nI k') (nI (y / 2)) (isv y) (nI (w / 2)) (isv w) S) (fun v S1 => if v = -1 then some (-1, S1) else mq_cl (zf_X11_pair N z (nI k') (nI (y / 2)) (isv (fl y)) (nI (w / 2)) (isv (fl w)) S1) (fun u S2 => if u = -1 then some (-1, S2) else zf_X11_make N z (nI k) v u S2)))
end MK
