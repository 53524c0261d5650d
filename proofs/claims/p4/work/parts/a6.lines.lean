/-! prove(): the lines. -/
theorem ln_pl : ∀ r, r < 5 → ∀ f, f < 300 → mq_iushr ((nI r <<< ((16 : Int32) &&& 31)) ||| nI f) 16 &&& 255 = nI r &&& 255 ∧ mq_iushr ((nI r <<< ((16 : Int32) &&& 31)) ||| nI f) 8 &&& 255 = mq_iushr (nI f) 8 &&& 255 ∧ ((nI r <<< ((16 : Int32) &&& 31)) ||| nI f) &&& 255 = nI f &&& 255 := by decide +kernel
theorem ln_all {rows pr pn : Nat → Int32} {m : Nat} (h : ∀ i, i < m → ∃ r f, r < 5 ∧ f < 300 ∧ rows i = (nI r <<< ((16 : Int32) &&& 31)) ||| nI f ∧ pr i = nI r ∧ pn i = nI f) : ∀ i, i < 3 * m → pl_c rows i = pl_r pr pn i := fun i hi => by
  obtain ⟨r, f, hr, hf, e1, e2, e3⟩ := h (i / 3) (by omega)
  obtain ⟨a, b, c⟩ := ln_pl r hr f hf
  unfold pl_c pl_r
  rw [e1, e2, e3, a, b, c]
section LINES
variable {N : Nat} {z : Nat → Nat} {S : mq_St} {m : Nat}
theorem x3_cp (hN : 2000 ≤ N) (hm : m ≤ 1299) (h20 : S.1 20 = nI m) : ∃ a, zf_X3_copy N z (mq_pull S [25, 20] [28, 22] []) = some ((), mq_sa (mq_si (mq_pull S [25, 20] [28, 22] []) 0 (nI m)) 0 a) ∧ ∀ i, i < m → a i = S.2.1 22 i := by
  have loop : ∀ (fu k : Nat) (a : Nat → Int32), k ≤ m → m - k < fu → (∀ i, i < k → a i = S.2.1 22 i) → ∃ a', zf_X3_copy_10 N z fu (nI k) (mq_sa (mq_si (mq_pull S [25, 20] [28, 22] []) 0 (nI m)) 0 a) = some ((), mq_sa (mq_si (mq_pull S [25, 20] [28, 22] []) 0 (nI m)) 0 a') ∧ ∀ i, i < m → a' i = S.2.1 22 i := by
    intro fu
    induction fu with
    | zero => intro k a _ h; omega
    | succ fu ih =>
      intro k a hk hfu ha
      show ∃ a', zf_X3_copy_10b N z (fun v2 S => zf_X3_copy_10 N z fu v2 S) (nI k) _ = _ ∧ _
      unfold zf_X3_copy_10b
      have e0 : (mq_sa (mq_si (mq_pull S [25, 20] [28, 22] []) 0 (nI m)) 0 a).1 0 = nI m := rfl
      rw [e0]
      by_cases e : k = m
      · exact ⟨a, by rw [e, if_pos (nI_le (Nat.le_refl _) (by omega))], fun i hi => ha i (by omega)⟩
      · have hk' : k < m := by omega
        have c1 : (nI k).toNatClampNeg = k := nI_clamp (by omega)
        rw [if_neg (nI_ge hk' (by omega)), if_neg (show ¬ (1299 : Int32) ≤ nI k from nI_ge (b := 1299) (by omega) (by omega)), mq_ck_of (vp_in_nI (by omega) (by omega)), mq_ck_of (vp_in_nI (by omega) (by omega)), c1, nS_e, nI_e, nI_1, sa_sa]
        refine ih (k + 1) (upd a k (S.2.1 22 k)) (by omega) (by omega) (fun i hi => ?_)
        by_cases q : i = k
        · rw [q, up_s]
        · rw [up_o q]; exact ha i (by omega)
  obtain ⟨a, h1, h2⟩ := loop N 0 (S.2.1 28) (by omega) (by omega) (fun i hi => by omega)
  refine ⟨a, ?_, h2⟩
  unfold zf_X3_copy
  rw [show (mq_pull S [25, 20] [28, 22] []).1 1 = nI m from h20, nS_e, nI_e]
  have : mq_sa (mq_si (mq_pull S [25, 20] [28, 22] []) 0 (nI m)) 0 (S.2.1 28) = mq_si (mq_pull S [25, 20] [28, 22] []) 0 (nI m) := sa_i (mq_si (mq_pull S [25, 20] [28, 22] []) 0 (nI m)) 0
  rw [this] at h1
  exact h1
theorem x3_pu {v : Int32} {a : Nat → Int32} : mq_push S (mq_sa (mq_si (mq_pull S [25, 20] [28, 22] []) 0 v) 0 a) [25, 20] [28, 22] [] = mq_sa (mq_si S 25 v) 28 a := by
  refine Prod.ext ?_ (Prod.ext ?_ rfl)
  · funext q
    show (match [25, 20].idxOf? q with | some j => (mq_sa (mq_si (mq_pull S [25, 20] [28, 22] []) 0 v) 0 a).1 j | none => S.1 q) = if q = 25 then v else S.1 q
    by_cases ea : q = 25
    · rw [ea]; rfl
    · by_cases eb : q = 20
      · rw [eb]; rfl
      · rw [if_neg ea, List.idxOf?_eq_none_iff.mpr (by simp [ea, eb])]
  · funext q
    show (match [28, 22].idxOf? q with | some j => (mq_sa (mq_si (mq_pull S [25, 20] [28, 22] []) 0 v) 0 a).2.1 j | none => S.2.1 q) = if q = 28 then a else S.2.1 q
    by_cases ea : q = 28
    · rw [ea]; rfl
    · by_cases eb : q = 22
      · rw [eb]; rfl
      · rw [if_neg ea, List.idxOf?_eq_none_iff.mpr (by simp [ea, eb])]
theorem p80 (hm : m ≤ 1299) (h26 : S.1 26 = nI m) {v : Int32} : ∀ (fu k : Nat) (a b : Nat → Int32), k ≤ m → m - k < fu → (∀ i, i < k → a i = S.2.1 23 i ∧ b i = S.2.1 24 i) → ∃ a' b', zf_X11_prove_80 N z fu v (nI k) (mq_sa (mq_sa S 32 a) 33 b) = some (v, mq_sa (mq_sa S 32 a') 33 b') ∧ ∀ i, i < m → a' i = S.2.1 23 i ∧ b' i = S.2.1 24 i
  | 0, k, a, b, _, h, _ => by omega
  | fu + 1, k, a, b, hk, hfu, ha => by
    show ∃ a' b', zf_X11_prove_80b N z (fun v3 v4 S => zf_X11_prove_80 N z fu v3 v4 S) v (nI k) (mq_sa (mq_sa S 32 a) 33 b) = _ ∧ _
    unfold zf_X11_prove_80b
    rw [show (mq_sa (mq_sa S 32 a) 33 b).1 26 = nI m from h26]
    by_cases e : k = m
    · exact ⟨a, b, by rw [e, if_pos (nI_le (Nat.le_refl _) (by omega))], fun i hi => ha i (by omega)⟩
    · have hk' : k < m := by omega
      have c1 : (nI k).toNatClampNeg = k := nI_clamp (by omega)
      have i1 : vp_in (nI k) 1300 := vp_in_nI (by omega) (by omega)
      rw [if_neg (nI_ge hk' (by omega)), mq_ck_of i1, mq_ck_of i1, c1, nS_e, mq_ck_of i1, mq_ck_of i1, nS_e, nI_e, nI_1]
      obtain ⟨a', b', g1, g2⟩ := p80 hm h26 (v := v) fu (k + 1) (upd a k (S.2.1 23 k)) (upd b k (S.2.1 24 k)) (by omega) (by omega) (fun i hi => by
        by_cases q : i = k
        · rw [q, up_s, up_s]; exact ⟨rfl, rfl⟩
        · rw [up_o q, up_o q]; exact ha i (by omega))
      refine ⟨a', b', ?_, g2⟩
      refine Eq.trans (congrArg (zf_X11_prove_80 N z fu v (nI (k + 1))) ?_) g1
      refine Prod.ext rfl (Prod.ext ?_ rfl)
      funext q
      show (if q = 33 then _ else if q = 32 then _ else if q = 33 then _ else if q = 32 then _ else S.2.1 q) = if q = 33 then _ else if q = 32 then _ else S.2.1 q
      by_cases e1 : q = 33
      · rw [if_pos e1, if_pos e1]; rfl
      · rw [if_neg e1, if_neg e1, if_neg e1]
        by_cases e2 : q = 32
        · rw [if_pos e2, if_pos e2]; rfl
        · rw [if_neg e2, if_neg e2, if_neg e2]
end LINES
