/-! The reference's makes(): a mark on top of what is wanted is made, with all its parts. -/
section MD
variable {N : Nat} {z : Nat → Nat} {S : mq_St} {T : List Tr} {L0 : List En} {o : Option (List En)}
theorem mkO_s {t : Tr} {L : List En} : mkO t (some L) = if (mk t L).2.length ≤ 300 then some (mk t L).2 else none := rfl
theorem mkO_n {t : Tr} : mkO t none = none := rfl
theorem prO_self (t : Tr) (o : Option (List En)) : mkO t (mkO t o) = mkO t o := by
  cases o with
  | none => rfl
  | some L =>
    rw [mkO_s]
    by_cases q : (mk t L).2.length ≤ 300
    · rw [if_pos q, mkO_s, show mk t (mk t L).2 = ((mk t L).1, (mk t L).2) from pr_mk t L, if_pos q]
    · rw [if_neg q]; rfl
theorem prO_mono {t u : Tr} {o : Option (List En)} (h : mkO t o = o) : mkO t (mkO u o) = mkO u o := by
  cases o with
  | none => rfl
  | some L =>
    rw [mkO_s] at h ⊢
    by_cases q0 : (mk t L).2.length ≤ 300
    · rw [if_pos q0] at h
      have e : (mk t L).2 = L := Option.some.inj h
      by_cases q : (mk u L).2.length ≤ 300
      · rw [if_pos q, mkO_s]
        obtain ⟨X, hX⟩ := mk_ext u L
        have hp : pr t L (mk t L).1 := by rw [pr, Prod.ext_iff]; exact ⟨rfl, e⟩
        have := pr_mono hp X
        rw [← hX] at this
        rw [show mk t (mk u L).2 = ((mk t L).1, (mk u L).2) from this, if_pos q]
      · rw [if_neg q]; rfl
    · rw [if_neg q0] at h; cases h
/-- the value of a tree that is there -/
def vlO (t : Tr) (o : Option (List En)) (v : Int32) : Prop := ∀ L, o = some L → ∀ k, pr t L k → v = nI k
theorem made_pr {y : Nat} {a : Tr} (h : Qm T L0 S o) (hy : mt T y a) (hd : ¬ Dm S y = -1) : mkO a o = o ∧ vlO a o (Dm S y) := by
  cases o with
  | none => exact ⟨rfl, fun L e => by cases e⟩
  | some L =>
    obtain ⟨h1, h2, h3, h4, h5⟩ := h
    rcases h5 y a hy with e | ⟨k, e, p⟩
    · exact absurd e hd
    · refine ⟨?_, fun L' e' k' p' => ?_⟩
      · rw [mkO_s, show mk a L = (k, L) from p, if_pos h2.2.1]
      · rw [← Option.some.inj e'] at p'
        rw [e, pr_fn p p']
theorem some_len {t : Tr} {L L' : List En} (h : mkO t (some L) = some L') : (mk t L).2 = L' ∧ L'.length ≤ 300 := by
  rw [mkO_s] at h
  by_cases q : (mk t L).2.length ≤ 300
  · rw [if_pos q] at h
    have := Option.some.inj h
    rw [← this]
    exact ⟨rfl, q⟩
  · rw [if_neg q] at h; cases h
/-- a FORMULA of two parts that are there -/
theorem mz_2 {p a b : Tr} {k : Nat} {v u : Int32} (hN : 400 ≤ N) (hL0 : L0.length ≤ 300) (h : Qm T L0 S o) (hmk : ∀ L, mk p L = m1 (nI k, nI (mk a L).1, nI (mk b (mk a L).2).1) (mk b (mk a L).2).2) (ha : mkO a o = o) (hb : mkO b o = o) (va : vlO a o v) (vb : vlO b o u) :
    ∃ w S', zf_X11_make N z (nI k) v u S = some (w, S') ∧ Qm T L0 S' (mkO p o) ∧ ¬ w = -1 ∧ vlO p (mkO p o) w ∧ ag [3, 6] [2, 3, 4] [] S S' := by
  obtain ⟨w, S', a1, a2, a3, a4, a5⟩ := mz_make (N := N) (z := z) (s := nI k) (a := v) (b := u) hN hL0 h
  have E : mkE (nI k, v, u) o = mkO p o ∧ ∀ L, o = some L → mk p L = m1 (nI k, v, u) L := by
    cases o with
    | none => exact ⟨rfl, fun L e => by cases e⟩
    | some L =>
      have ea := (some_len ha).1
      have eb := (some_len hb).1
      have pa : pr a L (mk a L).1 := by rw [pr, Prod.ext_iff]; exact ⟨rfl, ea⟩
      have pb : pr b L (mk b L).1 := by rw [pr, Prod.ext_iff]; exact ⟨rfl, eb⟩
      have e : mk p L = m1 (nI k, v, u) L := by rw [hmk L, ea, eb, va L rfl _ pa, vb L rfl _ pb]
      refine ⟨?_, fun L' e' => by rw [← Option.some.inj e']; exact e⟩
      show (if (m1 (nI k, v, u) L).2.length ≤ 300 then some (m1 (nI k, v, u) L).2 else none) = _
      rw [mkO_s, e]
  rw [E.1] at a2
  refine ⟨w, S', a1, a2, a3, fun L' e' k' p' => ?_, a5⟩
  cases o with
  | none => cases e'
  | some L =>
    obtain ⟨e1, e2⟩ := some_len e'
    have e3 := E.2 L rfl
    rw [a4 L rfl (by rw [← e3, e1]; exact e2), ← e3]
    have := pr_mk p L
    rw [e1] at this
    rw [pr_fn this p']
theorem mz_1 {p a : Tr} {k : Nat} {v : Int32} (hN : 400 ≤ N) (hL0 : L0.length ≤ 300) (h : Qm T L0 S o) (hmk : ∀ L, mk p L = m1 (nI k, nI (mk a L).1, -1) (mk a L).2) (ha : mkO a o = o) (va : vlO a o v) :
    ∃ w S', zf_X11_make N z (nI k) v (-1) S = some (w, S') ∧ Qm T L0 S' (mkO p o) ∧ ¬ w = -1 ∧ vlO p (mkO p o) w ∧ ag [3, 6] [2, 3, 4] [] S S' := by
  obtain ⟨w, S', a1, a2, a3, a4, a5⟩ := mz_make (N := N) (z := z) (s := nI k) (a := v) (b := -1) hN hL0 h
  have E : mkE (nI k, v, -1) o = mkO p o ∧ ∀ L, o = some L → mk p L = m1 (nI k, v, -1) L := by
    cases o with
    | none => exact ⟨rfl, fun L e => by cases e⟩
    | some L =>
      have ea := (some_len ha).1
      have pa : pr a L (mk a L).1 := by rw [pr, Prod.ext_iff]; exact ⟨rfl, ea⟩
      have e : mk p L = m1 (nI k, v, -1) L := by rw [hmk L, ea, va L rfl _ pa]
      refine ⟨?_, fun L' e' => by rw [← Option.some.inj e']; exact e⟩
      show (if (m1 (nI k, v, -1) L).2.length ≤ 300 then some (m1 (nI k, v, -1) L).2 else none) = _
      rw [mkO_s, e]
  rw [E.1] at a2
  refine ⟨w, S', a1, a2, a3, fun L' e' k' p' => ?_, a5⟩
  cases o with
  | none => cases e'
  | some L =>
    obtain ⟨e1, e2⟩ := some_len e'
    have e3 := E.2 L rfl
    rw [a4 L rfl (by rw [← e3, e1]; exact e2), ← e3]
    have := pr_mk p L
    rw [e1] at this
    rw [pr_fn this p']
theorem mz_0 {p : Tr} {k : Nat} {v : Int32} (hN : 400 ≤ N) (hL0 : L0.length ≤ 300) (h : Qm T L0 S o) (hmk : ∀ L, mk p L = m1 (nI k, v, -1) L) :
    ∃ w S', zf_X11_make N z (nI k) v (-1) S = some (w, S') ∧ Qm T L0 S' (mkO p o) ∧ ¬ w = -1 ∧ vlO p (mkO p o) w ∧ ag [3, 6] [2, 3, 4] [] S S' := by
  obtain ⟨w, S', a1, a2, a3, a4, a5⟩ := mz_make (N := N) (z := z) (s := nI k) (a := v) (b := -1) hN hL0 h
  have E : mkE (nI k, v, -1) o = mkO p o := by
    cases o with
    | none => rfl
    | some L =>
      show (if (m1 (nI k, v, -1) L).2.length ≤ 300 then some (m1 (nI k, v, -1) L).2 else none) = _
      rw [mkO_s, hmk L]
  rw [E] at a2
  refine ⟨w, S', a1, a2, a3, fun L' e' k' p' => ?_, a5⟩
  cases o with
  | none => cases e'
  | some L =>
    obtain ⟨e1, e2⟩ := some_len e'
    rw [a4 L rfl (by rw [← hmk L, e1]; exact e2), ← hmk L]
    have := pr_mk p L
    rw [e1] at this
    rw [pr_fn this p']
/-- parts first, then the whole: as the whole at once -/
theorem mkO_parts {p a b : Tr} {k : Nat} (hmk : ∀ L, mk p L = m1 (nI k, nI (mk a L).1, nI (mk b (mk a L).2).1) (mk b (mk a L).2).2) (o : Option (List En)) : mkO p (mkO b (mkO a o)) = mkO p o := by
  cases o with
  | none => rfl
  | some L =>
    rw [mkO_s, mkO_s]
    have hl : (mk b (mk a L).2).2.length ≤ (mk p L).2.length := by
      obtain ⟨Y, hY, -⟩ := m1_ext (nI k, nI (mk a L).1, nI (mk b (mk a L).2).1) (mk b (mk a L).2).2
      rw [hmk L, hY, List.length_append]; omega
    by_cases qa : (mk a L).2.length ≤ 300
    · rw [if_pos qa, mkO_s]
      by_cases qb : (mk b (mk a L).2).2.length ≤ 300
      · rw [if_pos qb, mkO_s]
        have e : mk p (mk b (mk a L).2).2 = mk p L := by
          obtain ⟨X, hX⟩ := mk_ext b (mk a L).2
          have pa : pr a (mk b (mk a L).2).2 (mk a L).1 := by rw [hX]; exact pr_mono (pr_mk a L) X
          have pb : pr b (mk b (mk a L).2).2 (mk b (mk a L).2).1 := pr_mk b (mk a L).2
          rw [hmk (mk b (mk a L).2).2, show mk a (mk b (mk a L).2).2 = ((mk a L).1, (mk b (mk a L).2).2) from pa, show mk b (mk b (mk a L).2).2 = ((mk b (mk a L).2).1, (mk b (mk a L).2).2) from pb, hmk L]
        rw [e]
      · rw [if_neg qb, if_neg (by omega)]; rfl
    · have := mk_len b (mk a L).2
      rw [if_neg qa, if_neg (by omega)]; rfl
theorem mkO_part {p a : Tr} {k : Nat} (hmk : ∀ L, mk p L = m1 (nI k, nI (mk a L).1, -1) (mk a L).2) (o : Option (List En)) : mkO p (mkO a o) = mkO p o := by
  cases o with
  | none => rfl
  | some L =>
    rw [mkO_s, mkO_s]
    have hl : (mk a L).2.length ≤ (mk p L).2.length := by
      obtain ⟨Y, hY, -⟩ := m1_ext (nI k, nI (mk a L).1, -1) (mk a L).2
      rw [hmk L, hY, List.length_append]; omega
    by_cases qa : (mk a L).2.length ≤ 300
    · rw [if_pos qa, mkO_s]
      have e : mk p (mk a L).2 = mk p L := by
        have pa : pr a (mk a L).2 (mk a L).1 := pr_mk a L
        rw [hmk (mk a L).2, show mk a (mk a L).2 = ((mk a L).1, (mk a L).2) from pa, hmk L]
      rw [e]
    · rw [if_neg qa, if_neg (by omega)]; rfl
/-- a mark is set -/
def stm (S : mq_St) (m : Nat) (f : Int32) (wm : Nat) : mq_St := if m % 2 = 0 then mq_sa (mq_si S 17 (nI wm)) 10 (upd (S.2.1 10) (m / 2) f) else mq_sa (mq_si S 17 (nI wm)) 11 (upd (S.2.1 11) (m / 2) f)
theorem stm_D {m wm : Nat} {f : Int32} : Dm (stm S m f wm) = upd (Dm S) m f := by
  funext j
  unfold stm Dm
  by_cases e : m % 2 = 0
  · rw [if_pos e]
    by_cases c : j % 2 = 0
    · rw [if_pos c]
      show upd (S.2.1 10) (m / 2) f (j / 2) = _
      unfold upd
      by_cases q : j = m
      · rw [if_pos q, if_pos (by rw [q])]
      · rw [if_neg q, if_neg (by omega)]; exact (if_pos c).symm
    · rw [if_neg c]
      show S.2.1 11 (j / 2) = _
      unfold upd
      rw [if_neg (fun q => c (by rw [q]; exact e))]; exact (if_neg c).symm
  · rw [if_neg e]
    by_cases c : j % 2 = 0
    · rw [if_pos c]
      show S.2.1 10 (j / 2) = _
      unfold upd
      rw [if_neg (fun q => e (by rw [← q]; exact c))]; exact (if_pos c).symm
    · rw [if_neg c]
      show upd (S.2.1 11) (m / 2) f (j / 2) = _
      unfold upd
      by_cases q : j = m
      · rw [if_pos q, if_pos (by rw [q])]
      · rw [if_neg q, if_neg (by omega)]; exact (if_neg c).symm
theorem stm_ag {m wm : Nat} {f : Int32} : ag [17] [10, 11] [] S (stm S m f wm) := by
  unfold stm
  split
  · exact ag_tr (ag_si (by decide)) (ag_sa (by decide))
  · exact ag_tr (ag_si (by decide)) (ag_sa (by decide))
theorem ms_step {m wm fuel : Nat} {v1 v2 : Int32} (h17 : S.1 17 = nI (wm + 1)) (hwm : wm < 3000) (hm : m < 6000) (htop : S.2.1 14 wm = nI m) (hD : Dm S m = -1) :
    zf_X11_makes_12 N z (fuel + 1) v1 v2 S = mq_cl (zf_X11_madeOf N z (nI (m / 2)) (isv m) S) (fun f S20 => if f = -1 then zf_X11_makes_12 N z fuel v1 v2 S20 else if S20.1 17 = nI (wm + 1) then zf_X11_makes_12 N z fuel v1 v2 (stm S20 m f wm) else zf_X11_makes_12 N z fuel v1 v2 S20) := by
  show zf_X11_makes_12b N z (fun v1 v2 S => zf_X11_makes_12 N z fuel v1 v2 S) v1 v2 S = _
  have i1 : vp_in (nI wm) 3000 := vp_in_nI hwm (by omega)
  have i2 : vp_in (nI (m / 2)) 3000 := vp_in_nI (by omega) (by omega)
  have k2 : (nI (m / 2)).toNatClampNeg = m / 2 := nI_clamp (by omega)
  have q2 : nI m / 2 = nI (m / 2) := pk_div (a := m) (d := 2) (by omega) (by omega) (by omega)
  have qm : nI m - nI (m / 2) * 2 = nI (m % 2) := by
    rw [show nI (m / 2) * 2 = nI (m / 2 * 2) from pk_mul (m / 2) 2, pk_sub (by omega)]
    congr 1
    omega
  have fin : ∀ (f : Int32) (S20 : mq_St), zf_X11_makes_103 N z (fun v1 v2 S => zf_X11_makes_12 N z fuel v1 v2 S) v1 v2 (nI (m / 2)) (isv m) (nI (wm + 1)) f S20 = if f = -1 then zf_X11_makes_12 N z fuel v1 v2 S20 else if S20.1 17 = nI (wm + 1) then zf_X11_makes_12 N z fuel v1 v2 (stm S20 m f wm) else zf_X11_makes_12 N z fuel v1 v2 S20 := by
    intro f S20
    unfold zf_X11_makes_103 zf_X11_makes_156
    rw [nI_e]
    by_cases e : f = -1
    · rw [if_pos e, if_pos e]
    · rw [if_neg e, if_neg e]
      by_cases e2 : S20.1 17 = nI (wm + 1)
      · rw [if_pos e2, if_pos e2, e2, nI_pred, nS_e]
        unfold isv stm
        by_cases c : m % 2 = 0
        · rw [if_pos c, if_neg (by decide), if_pos c, mq_ck_of i2, k2, nS_e]
          rfl
        · rw [if_neg c, if_pos rfl, if_neg c, mq_ck_of i2, k2, nS_e]
          rfl
      · rw [if_neg e2, if_neg e2]
  unfold zf_X11_makes_12b zf_X11_makes_50 zf_X11_makes_80
  rw [h17, if_neg (nI_nle (by omega) (by omega)), nI_pred, mq_ck_of i1, nI_clamp (by omega), htop, nI_e, q2, nI_e, qm]
  by_cases c : m % 2 = 0
  · have hD' : S.2.1 10 (m / 2) = -1 := by
      unfold Dm at hD
      rw [if_pos c] at hD
      exact hD
    have hi : isv m = 1 := if_pos c
    rw [hi] at fin ⊢
    rw [c, if_pos (by decide), nI_e, nI_e, if_neg (by decide), mq_ck_of i2, k2, hD', if_pos rfl]
    simp only [fin]
  · have hD' : S.2.1 11 (m / 2) = -1 := by
      unfold Dm at hD
      rw [if_neg c] at hD
      exact hD
    have hi : isv m = 0 := if_neg c
    rw [hi] at fin ⊢
    rw [show m % 2 = 1 by omega, if_neg (by decide), nI_e, nI_e, if_pos rfl, mq_ck_of i2, k2, hD', if_pos rfl]
    simp only [fin]
end MD
