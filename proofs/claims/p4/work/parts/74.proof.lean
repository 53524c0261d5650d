/-! proof(): the lines told, three bytes each. -/
def pl_c (rows : Nat → Int32) (i : Nat) : Int32 := if i % 3 = 0 then mq_iushr (rows (i / 3)) 16 &&& 255 else if i % 3 = 1 then mq_iushr (rows (i / 3)) 8 &&& 255 else rows (i / 3) &&& 255
def pl_r (pr pn : Nat → Int32) (i : Nat) : Int32 := if i % 3 = 0 then pr (i / 3) &&& 255 else if i % 3 = 1 then mq_iushr (pn (i / 3)) 8 &&& 255 else pn (i / 3) &&& 255
/-- the proof at hand: c25, rows the class's; r29 (has it), r30, pr, pn the reference's -/
def iv_proof (c25 : Int32) (rows : Nat → Int32) (r29 r30 : Int32) (pr pn : Nat → Int32) : Prop := ∃ m : Nat, m ≤ 1299 ∧ c25 = nI m ∧ ((m = 0 ∧ r29 = 0) ∨ (0 < m ∧ r29 = 1 ∧ r30 = nI m)) ∧ ∀ i, i < 3 * m → pl_c rows i = pl_r pr pn i
theorem by_row_c {S : mq_St} {t : Nat} {g g' : Nat → Int32} (h : by_row S t g) (e : ∀ i, i < t → g i = g' i) : by_row S t g' := ⟨h.1, h.2.1, fun i hi => (h.2.2 i hi).trans (e i hi)⟩
theorem pl_0 (rows : Nat → Int32) (k : Nat) : pl_c rows (3 * k) = mq_iushr (rows k) 16 &&& 255 := by
  unfold pl_c
  rw [if_pos (by omega), show 3 * k / 3 = k by omega]
theorem pl_1 (rows : Nat → Int32) (k : Nat) : pl_c rows (3 * k + 1) = mq_iushr (rows k) 8 &&& 255 := by
  unfold pl_c
  rw [if_neg (by omega), if_pos (by omega), show (3 * k + 1) / 3 = k by omega]
theorem pl_2 (rows : Nat → Int32) (k : Nat) : pl_c rows (3 * k + 1 + 1) = rows k &&& 255 := by
  unfold pl_c
  rw [if_neg (by omega), if_neg (by omega), show (3 * k + 1 + 1) / 3 = k by omega]
theorem by_next {N : Nat} {z : Nat → Nat} {S : mq_St} {t : Nat} {g : Nat → Int32} (v : Int32) (h : by_row S t g) (h4 : t < 4000) (e : g t = v &&& 255) : ∃ S', zf_X0_push N z v S = some ((), S') ∧ by_row S' (t + 1) g := by
  obtain ⟨S', h1, h2⟩ := by_zpush (N := N) (z := z) v h h4
  refine ⟨S', h1, by_row_c h2 (fun i hi => ?_)⟩
  unfold upd
  by_cases q : i = t
  · rw [if_pos q, q, e]
  · rw [if_neg q]
theorem pw_loop {N : Nat} {z : Nat → Nat} {m : Nat} (hm : m ≤ 1299) : ∀ (n k : Nat) (S : mq_St), S.1 0 = nI m → k ≤ m → m - k < n → by_row (mq_pull S [1] [1] []) (3 * k) (pl_c (S.2.1 0)) →
    ∃ S', zf_X3_writeTo_8 N z n (nI k) S = some ((), S') ∧ S'.1 0 = nI m ∧ S'.2.1 0 = S.2.1 0 ∧ by_row (mq_pull S' [1] [1] []) (3 * m) (pl_c (S.2.1 0)) := by
  intro n
  induction n with
  | zero => intro k S _ _ h; omega
  | succ n ih =>
    intro k S hs hk hn hr
    show ∃ S', zf_X3_writeTo_8b N z _ (nI k) S = some ((), S') ∧ _
    unfold zf_X3_writeTo_8b
    rw [hs]
    by_cases h1 : m ≤ k
    · have e : k = m := by omega
      subst e
      rw [if_pos ((nI_leI (by omega) (by omega)).mpr h1)]
      exact ⟨S, rfl, hs, rfl, hr⟩
    · have e1299 : ¬ (1299 : Int32) ≤ nI k := nI_ge (a := k) (b := 1299) (by omega) (by omega)
      have hin : vp_in (nI k) 1299 := vp_in_nI (by omega) (by omega)
      have ecl : (nI k).toNatClampNeg = k := nI_clamp (by omega)
      rw [if_neg (fun q => h1 ((nI_leI (by omega) (by omega)).mp q)), if_neg e1299]
      simp only [mq_ck_of hin, ecl]
      obtain ⟨X1, a1, b1⟩ := by_next (N := N) (z := z) (mq_iushr (S.2.1 0 k) 16) hr (by omega) (pl_0 _ _)
      rw [a1, mq_cl_s]
      dsimp only [mq_nS]
      obtain ⟨X2, a2, b2⟩ := by_next (N := N) (z := z) (S := mq_pull (mq_push S X1 [1] [1] []) [1] [1] []) (mq_iushr (S.2.1 0 k) 8) b1 (by omega) (pl_1 _ _)
      rw [show (mq_push S X1 [1] [1] []).2.1 0 = S.2.1 0 from rfl, a2, mq_cl_s]
      obtain ⟨X3, a3, b3⟩ := by_next (N := N) (z := z) (S := mq_pull (mq_push (mq_push S X1 [1] [1] []) X2 [1] [1] []) [1] [1] []) (S.2.1 0 k) b2 (by omega) (pl_2 _ _)
      rw [show (mq_push (mq_push S X1 [1] [1] []) X2 [1] [1] []).2.1 0 = S.2.1 0 from rfl, a3, mq_cl_s]
      dsimp only [mq_nI]
      rw [nI_1]
      exact ih (k + 1) (mq_push (mq_push (mq_push S X1 [1] [1] []) X2 [1] [1] []) X3 [1] [1] []) hs (by omega) (by omega) b3
theorem rp_loop {N : Nat} {z : Nat → Nat} {m : Nat} (hm : m ≤ 1299) : ∀ (n k : Nat) (S : mq_St), S.1 30 = nI m → k ≤ m → m - k < n → (∀ i, i < 3 * k → S.2.1 1 i &&& 255 = pl_r (S.2.1 32) (S.2.1 33) i) →
    ∃ S', zf_X11_proof_16 N z n (nI k) S = some (nI (3 * m), S') ∧ S'.1 2 = nI (3 * m) ∧ (∀ i, i < 3 * m → S'.2.1 1 i &&& 255 = pl_r (S.2.1 32) (S.2.1 33) i) ∧ ag [2] [1] [] S S' := by
  intro n
  induction n with
  | zero => intro k S _ _ h; omega
  | succ n ih =>
    intro k S hs hk hn hr
    show ∃ S', zf_X11_proof_16b N z _ (nI k) S = some (nI (3 * m), S') ∧ _
    unfold zf_X11_proof_16b
    rw [hs]
    have e3 : ∀ j : Nat, (3 : Int32) * nI j = nI (3 * j) := fun j => pk_mul 3 j
    by_cases h1 : m ≤ k
    · have e : k = m := by omega
      subst e
      rw [if_pos ((nI_leI (by omega) (by omega)).mpr h1), e3]
      exact ⟨mq_si S 2 (nI (3 * k)), rfl, rfl, hr, ag_si (by decide)⟩
    · have i1 : vp_in (nI k) 1300 := vp_in_nI (by omega) (by omega)
      have i2 : vp_in (nI (3 * k)) 4000 := vp_in_nI (by omega) (by omega)
      have i3 : vp_in (nI (3 * k + 1)) 4000 := vp_in_nI (by omega) (by omega)
      have i4 : vp_in (nI (3 * k + 2)) 4000 := vp_in_nI (by omega) (by omega)
      have p1 : nI (3 * k) + 1 = nI (3 * k + 1) := nI_add (3 * k) 1
      have p2 : nI (3 * k) + 2 = nI (3 * k + 2) := nI_add (3 * k) 2
      have c0 : (nI k).toNatClampNeg = k := nI_clamp (by omega)
      have c1 : (nI (3 * k)).toNatClampNeg = 3 * k := nI_clamp (by omega)
      have c2 : (nI (3 * k + 1)).toNatClampNeg = 3 * k + 1 := nI_clamp (by omega)
      have c3 : (nI (3 * k + 2)).toNatClampNeg = 3 * k + 2 := nI_clamp (by omega)
      have nb : ∀ x : Int32, vp_nar .byte x.toInt8.toInt32 = x.toInt8.toInt32 := fun x => by rw [vp_nar_byte, Int8.toInt8_toInt32]
      rw [if_neg (fun q => h1 ((nI_leI (by omega) (by omega)).mp q))]
      simp only [e3, p1, p2, mq_ck_of i1, mq_ck_of i2, mq_ck_of i3, mq_ck_of i4, c0, c1, c2, c3, nb, mq_nS, mq_nI, nI_1]
      obtain ⟨S', q1, q2, q3, q4⟩ := ih (k + 1) (mq_sa (mq_sa (mq_sa S 1 (upd (S.2.1 1) (3 * k) (S.2.1 32 k).toInt8.toInt32)) 1 (upd (upd (S.2.1 1) (3 * k) (S.2.1 32 k).toInt8.toInt32) (3 * k + 1) (S.2.1 33 k >>> ((8 : Int32) &&& 31)).toInt8.toInt32)) 1 (upd (upd (upd (S.2.1 1) (3 * k) (S.2.1 32 k).toInt8.toInt32) (3 * k + 1) (S.2.1 33 k >>> ((8 : Int32) &&& 31)).toInt8.toInt32) (3 * k + 2) (S.2.1 33 k).toInt8.toInt32)) hs (by omega) (by omega) (fun i hi => by
        show (upd (upd (upd (S.2.1 1) (3 * k) (S.2.1 32 k).toInt8.toInt32) (3 * k + 1) (S.2.1 33 k >>> ((8 : Int32) &&& 31)).toInt8.toInt32) (3 * k + 2) (S.2.1 33 k).toInt8.toInt32) i &&& 255 = pl_r (S.2.1 32) (S.2.1 33) i
        unfold upd
        by_cases a : i = 3 * k + 2
        · rw [if_pos a, bp_b, a]
          unfold pl_r
          rw [if_neg (by omega), if_neg (by omega), show (3 * k + 2) / 3 = k by omega]
        · rw [if_neg a]
          by_cases b : i = 3 * k + 1
          · rw [if_pos b, bp_b, b, show (8 : Int32) = nI 8 from rfl, by_sh _ (by omega)]
            unfold pl_r
            rw [if_neg (by omega), if_pos (by omega), show (3 * k + 1) / 3 = k by omega]
            rfl
          · rw [if_neg b]
            by_cases d : i = 3 * k
            · rw [if_pos d, bp_b, d]
              unfold pl_r
              rw [if_pos (by omega), show 3 * k / 3 = k by omega]
            · rw [if_neg d]
              exact hr i (by omega))
      refine ⟨S', q1, q2, q3, ?_⟩
      refine ag_tr ?_ q4
      refine ag_tr ?_ (ag_sa (by decide))
      refine ag_tr ?_ (ag_sa (by decide))
      refine ag_tr ?_ (ag_sa (by decide))
      exact ag_rf
theorem st_proof {N : Nat} {z : Nat → Nat} {SC SR : mq_St} (hN : 2000 ≤ N) (h : iv_proof (SC.1 25) (SC.2.1 28) (SR.1 29) (SR.1 30) (SR.2.1 32) (SR.2.1 33)) (ht : iv_tape (SC.1 1) (SC.2.1 3) (SR.1 2) (SR.2.1 1)) :
    ∃ r SC' SR', zf_X10_proof N z SC = some (r, SC') ∧ zf_X11_proof N z SR = some (r, SR') ∧ iv_tape (SC'.1 1) (SC'.2.1 3) (SR'.1 2) (SR'.2.1 1) ∧ SC'.1 25 = SC.1 25 ∧ SC'.2.1 28 = SC.2.1 28 ∧ ag [25, 1] [28, 3] [] SC SC' ∧ ag [0, 2] [1] [] SR SR' := by
  obtain ⟨m, hm, hc, hh, hl⟩ := h
  unfold zf_X10_proof zf_X11_proof
  dsimp only [mq_nS]
  rw [show zf_X3_size N z (mq_pull SC [25] [28] []) = some (SC.1 25) from rfl, mq_cp_s, hc]
  rcases hh with ⟨hm0, hr⟩ | ⟨hm0, hr, hr2⟩
  · subst hm0
    rw [if_pos (by decide : nI 0 = 0), if_pos (show (mq_si SR 0 0).1 29 = 0 from hr)]
    exact ⟨-1, SC, mq_si SR 0 0, rfl, rfl, ht, hc, rfl, ag_rf, ag_si (by decide)⟩
  · rw [if_neg (nI_ne0 hm0 (by omega)), if_neg (show ¬ (mq_si SR 0 0).1 29 = 0 from fun q => absurd (hr.symm.trans q) (by decide))]
    dsimp only [mq_nI]
    obtain ⟨t, t4, tc, tr, tb⟩ := ht
    unfold zf_X3_writeTo
    rw [by_keep]
    have hk0 : ¬ ((0 : Int32) < 0 ∨ (mq_pull (mq_pull SC [25, 1] [28, 3] []) [1] [1] []).1 0 < 0) := by
      rintro (q | q)
      · exact absurd q (by decide)
      · have e : (mq_pull (mq_pull SC [25, 1] [28, 3] []) [1] [1] []).1 0 = nI t := tc
        rw [e] at q
        exact nI_pos (by omega) q
    rw [if_neg hk0, mq_cl_s]
    dsimp only [mq_nS, mq_nI]
    obtain ⟨X, a1, a2, a3, a4⟩ := pw_loop (N := N) (z := z) hm N 0 (mq_push (mq_pull SC [25, 1] [28, 3] []) (mq_si (mq_pull (mq_pull SC [25, 1] [28, 3] []) [1] [1] []) 0 0) [1] [1] []) hc (by omega) (by omega) ⟨rfl, by omega, fun i hi => by omega⟩
    obtain ⟨SR', b1, b2, b3, b4⟩ := rp_loop (N := N) (z := z) hm N 0 (mq_si SR 0 0) hr2 (by omega) (by omega) (fun i hi => by omega)
    rw [show (0 : Int32) = nI 0 from rfl] at a1 ⊢
    rw [a1, mq_cl_s]
    refine ⟨nI (3 * m), mq_push SC X [25, 1] [28, 3] [], SR', ?_, b1, ⟨3 * m, by omega, a4.1, b2, fun i hi => ?_⟩, ?_, a3, ag_push, ag_tr (ag_si (by decide)) (ag_mono b4 (by decide) (by decide) (by decide))⟩
    · rw [show zf_X0_size N z (mq_pull (mq_push SC X [25, 1] [28, 3] []) [1] [3] []) = some (X.1 1) from rfl, mq_cp_s, show X.1 1 = nI (3 * m) from a4.1]
    · exact (a4.2.2 i hi).trans ((hl i hi).trans (b3 i hi).symm)
    · exact a2
