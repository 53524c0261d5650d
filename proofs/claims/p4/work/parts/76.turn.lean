/-! The reference's turn: each formula on its stack is turned to its denial. -/
def uc (t : Nat → Int32) : Nat → Nat
  | 0 => 0
  | n + 1 => uc t n + (if t n = -1 then 1 else 0)
theorem uc_ext {t t' : Nat → Int32} : ∀ n : Nat, (∀ i, i < n → t i = t' i) → uc t n = uc t' n
  | 0, _ => rfl
  | n + 1, h => by
    show uc t n + _ = uc t' n + _
    rw [uc_ext n (fun i hi => h i (by omega)), h n (by omega)]
theorem uc_upd {t : Nat → Int32} {f : Nat} {v : Int32} (h : t f = -1) (hv : ¬ v = -1) : ∀ n : Nat, f < n → uc (upd t f v) n + 1 = uc t n
  | 0, hf => by omega
  | n + 1, hf => by
    show uc (upd t f v) n + (if upd t f v n = -1 then 1 else 0) + 1 = uc t n + (if t n = -1 then 1 else 0)
    by_cases e : n = f
    · subst e
      have e1 : uc (upd t n v) n = uc t n := uc_ext n (fun i hi => by unfold upd; rw [if_neg (by omega)])
      have e2 : upd t n v n = v := by unfold upd; rw [if_pos rfl]
      rw [e1, e2, if_neg hv, if_pos h]
    · have e2 : upd t f v n = t n := by unfold upd; rw [if_neg e]
      rw [e2, ← uc_upd h hv n (by omega)]
      omega
theorem uc_mono {t : Nat → Int32} {a : Nat} : ∀ b : Nat, a ≤ b → uc t a ≤ uc t b
  | 0, h => by
    have : a = 0 := by omega
    rw [this]
    exact Nat.le_refl _
  | b + 1, h => by
    by_cases e : a = b + 1
    · rw [e]
      exact Nat.le_refl _
    · exact Nat.le_trans (uc_mono b (by omega)) (Nat.le_add_right _ _)
theorem nI_nm1 {n : Nat} (h : n < 2 ^ 31) : ¬ nI n = -1 := by
  intro q
  have h1 : (nI n).toInt = (n : Int) := nI_toInt h
  rw [q] at h1
  have h2 : (-1 : Int32).toInt = -1 := by decide
  rw [h2] at h1
  omega
section TURN
variable {N n f m fuel : Nat} {z : Nat → Nat} {S : mq_St} {d : Nat → Nat} {v1 : Int32}
/-- its parts are turned: it is turned, and gone from the stack -/
theorem rt_end (hN : 400 ≤ N) (hn : S.1 3 = nI n) (hw : fw n (S.2.1 2) (S.2.1 3) (S.2.1 4) d) (hf : f < n) (hm : m < 2999) (ht : S.2.1 15 f = -1) (hs : S.2.1 14 m = nI f)
    (hp : ∀ a : Nat, a < f → (S.2.1 3 f = nI a ∧ ¬ S.2.1 2 f ≤ 3) ∨ (S.2.1 4 f = nI a ∧ (S.2.1 2 f = 4 ∨ S.2.1 2 f = 5)) → S.2.1 15 a = nI (d a)) :
    zf_X11_turn_9 N z (fuel + 1) v1 (nI (m + 1)) S = zf_X11_turn_9 N z fuel v1 (nI m) (mq_sa S 15 (upd (S.2.1 15) f (nI (d f)))) := by
  have h3 := hw.2.1
  have i0 : vp_in (nI m) 3000 := vp_in_nI (by omega) (by omega)
  have i1 : vp_in (nI f) 300 := vp_in_nI (by omega) (by omega)
  have c0 : (nI m).toNatClampNeg = m := nI_clamp (by omega)
  have c1 : (nI f).toNatClampNeg = f := nI_clamp (by omega)
  have p1 : nI (m + 1) - 1 = nI m := nI_pred m
  have p2 : nI (m + 1) + (-1) = nI m := pk_m1 m
  have fin : zf_X11_turn_134 N z (fun v1 v2 S => zf_X11_turn_9 N z fuel v1 v2 S) v1 (nI (m + 1)) (nI f) S = zf_X11_turn_9 N z fuel v1 (nI m) (mq_sa S 15 (upd (S.2.1 15) f (nI (d f)))) := by
    unfold zf_X11_turn_134 zf_X11_turn_148
    rw [rf_turnedOf hN hn hw hf hp, mq_cl_s]
    simp only [mq_ck_of i1, c1, mq_nS, mq_nI, p2]
  show zf_X11_turn_9b N z _ v1 (nI (m + 1)) S = _
  unfold zf_X11_turn_9b
  rw [if_neg (nI_nle (by omega) (by omega))]
  simp only [p1, mq_ck_of i0, c0, mq_nI, hs, mq_ck_of i1, c1]
  rw [if_pos ht]
  have both : (S.2.1 2 f = 4 ∨ S.2.1 2 f = 5) → zf_X11_turn_101 N z (fun v1 v2 S => zf_X11_turn_9 N z fuel v1 v2 S) v1 (nI (m + 1)) (nI f) S = zf_X11_turn_9 N z fuel v1 (nI m) (mq_sa S 15 (upd (S.2.1 15) f (nI (d f)))) := by
    intro h45
    rcases hw.2.2.2.2 f hf with ⟨rfl, s0, -⟩ | ⟨rfl, s0, -⟩ | ⟨hs', -⟩ | ⟨-, a, b, ha, hb, w1, w2, -⟩ | ⟨hs', -⟩
    · rw [s0] at h45; exact absurd h45 (by decide)
    · rw [s0] at h45; exact absurd h45 (by decide)
    · rcases hs' with ⟨q, -⟩ | ⟨q, -⟩ <;> (rw [q] at h45; exact absurd h45 (by decide))
    · have ib : vp_in (nI b) 300 := vp_in_nI (by omega) (by omega)
      have cb : (nI b).toNatClampNeg = b := nI_clamp (by omega)
      unfold zf_X11_turn_101
      simp only [mq_ck_of i1, c1, w2, mq_ck_of ib, cb]
      have hdb := hw.2.2.2.1 b (by omega)
      rw [hp b hb (Or.inr ⟨w2, h45⟩), if_neg (nI_nm1 (by omega))]
      exact fin
    · rcases hs' with ⟨q, -⟩ | ⟨q, -⟩ <;> (rw [q] at h45; exact absurd h45 (by decide))
  have l81 : zf_X11_turn_81 N z (fun v1 v2 S => zf_X11_turn_9 N z fuel v1 v2 S) v1 (nI (m + 1)) (nI f) S = zf_X11_turn_9 N z fuel v1 (nI m) (mq_sa S 15 (upd (S.2.1 15) f (nI (d f)))) := by
    unfold zf_X11_turn_81
    simp only [mq_ck_of i1, c1]
    by_cases q4 : S.2.1 2 f = 4
    · rw [if_pos q4]
      exact both (Or.inl q4)
    · rw [if_neg q4]
      by_cases q5 : S.2.1 2 f = 5
      · rw [if_pos q5]
        exact both (Or.inr q5)
      · rw [if_neg q5]
        exact fin
  by_cases q3 : S.2.1 2 f ≤ 3
  · rw [if_pos q3]
    exact l81
  · rw [if_neg q3]
    have hone : ∃ a : Nat, a < f ∧ S.2.1 3 f = nI a := by
      rcases hw.2.2.2.2 f hf with ⟨rfl, s0, -⟩ | ⟨rfl, s0, -⟩ | ⟨hs', -⟩ | ⟨-, a, b, ha, hb, w1, -⟩ | ⟨-, -, -, a, ha, w1, -⟩
      · rw [s0] at q3; exact absurd (by decide) q3
      · rw [s0] at q3; exact absurd (by decide) q3
      · rcases hs' with ⟨q, -⟩ | ⟨q, -⟩ <;> (rw [q] at q3; exact absurd (by decide) q3)
      · exact ⟨a, ha, w1⟩
      · exact ⟨a, ha, w1⟩
    obtain ⟨a, ha, w1⟩ := hone
    have ia : vp_in (nI a) 300 := vp_in_nI (by omega) (by omega)
    have ca : (nI a).toNatClampNeg = a := nI_clamp (by omega)
    have hda := hw.2.2.2.1 a (by omega)
    simp only [w1, mq_ck_of ia, ca]
    rw [hp a ha (Or.inl ⟨w1, q3⟩), if_neg (nI_nm1 (by omega))]
    exact l81
/-- the first part isn't turned: it goes onto the stack -/
theorem rt_one {a : Nat} (h3 : n ≤ 300) (hf : f < n) (hm : m < 2998) (ht : S.2.1 15 f = -1) (hs : S.2.1 14 m = nI f) (h4 : ¬ S.2.1 2 f ≤ 3) (ha : a < f) (w1 : S.2.1 3 f = nI a) (hta : S.2.1 15 a = -1) :
    zf_X11_turn_9 N z (fuel + 1) v1 (nI (m + 1)) S = zf_X11_turn_9 N z fuel v1 (nI (m + 1 + 1)) (mq_sa S 14 (upd (S.2.1 14) (m + 1) (nI a))) := by
  have i0 : vp_in (nI m) 3000 := vp_in_nI (by omega) (by omega)
  have i2 : vp_in (nI (m + 1)) 3000 := vp_in_nI (by omega) (by omega)
  have i1 : vp_in (nI f) 300 := vp_in_nI (by omega) (by omega)
  have ia : vp_in (nI a) 300 := vp_in_nI (by omega) (by omega)
  have c0 : (nI m).toNatClampNeg = m := nI_clamp (by omega)
  have c2 : (nI (m + 1)).toNatClampNeg = m + 1 := nI_clamp (by omega)
  have c1 : (nI f).toNatClampNeg = f := nI_clamp (by omega)
  have ca : (nI a).toNatClampNeg = a := nI_clamp (by omega)
  have p1 : nI (m + 1) - 1 = nI m := nI_pred m
  show zf_X11_turn_9b N z _ v1 (nI (m + 1)) S = _
  unfold zf_X11_turn_9b zf_X11_turn_148
  rw [if_neg (nI_nle (by omega) (by omega))]
  simp only [p1, mq_ck_of i0, c0, mq_nI, hs, mq_ck_of i1, c1]
  rw [if_pos ht, if_neg h4]
  simp only [w1, mq_ck_of ia, ca]
  rw [if_pos hta]
  simp only [mq_ck_of i2, c2, mq_nS, nI_1]
/-- the second part isn't turned: it goes onto the stack -/
theorem rt_two {a b : Nat} (h3 : n ≤ 300) (hf : f < n) (hm : m < 2998) (ht : S.2.1 15 f = -1) (hs : S.2.1 14 m = nI f) (h45 : S.2.1 2 f = 4 ∨ S.2.1 2 f = 5) (ha : a < f) (w1 : S.2.1 3 f = nI a) (hta : ¬ S.2.1 15 a = -1) (hb : b < f) (w2 : S.2.1 4 f = nI b) (htb : S.2.1 15 b = -1) :
    zf_X11_turn_9 N z (fuel + 1) v1 (nI (m + 1)) S = zf_X11_turn_9 N z fuel v1 (nI (m + 1 + 1)) (mq_sa S 14 (upd (S.2.1 14) (m + 1) (nI b))) := by
  have i0 : vp_in (nI m) 3000 := vp_in_nI (by omega) (by omega)
  have i2 : vp_in (nI (m + 1)) 3000 := vp_in_nI (by omega) (by omega)
  have i1 : vp_in (nI f) 300 := vp_in_nI (by omega) (by omega)
  have ia : vp_in (nI a) 300 := vp_in_nI (by omega) (by omega)
  have ib : vp_in (nI b) 300 := vp_in_nI (by omega) (by omega)
  have c0 : (nI m).toNatClampNeg = m := nI_clamp (by omega)
  have c2 : (nI (m + 1)).toNatClampNeg = m + 1 := nI_clamp (by omega)
  have c1 : (nI f).toNatClampNeg = f := nI_clamp (by omega)
  have ca : (nI a).toNatClampNeg = a := nI_clamp (by omega)
  have cb : (nI b).toNatClampNeg = b := nI_clamp (by omega)
  have p1 : nI (m + 1) - 1 = nI m := nI_pred m
  have h4 : ¬ S.2.1 2 f ≤ 3 := by rcases h45 with q | q <;> rw [q] <;> decide
  have l101 : zf_X11_turn_101 N z (fun v1 v2 S => zf_X11_turn_9 N z fuel v1 v2 S) v1 (nI (m + 1)) (nI f) S = zf_X11_turn_9 N z fuel v1 (nI (m + 1 + 1)) (mq_sa S 14 (upd (S.2.1 14) (m + 1) (nI b))) := by
    unfold zf_X11_turn_101 zf_X11_turn_148
    simp only [mq_ck_of i1, c1, w2, mq_ck_of ib, cb]
    rw [if_pos htb]
    simp only [mq_ck_of i2, c2, mq_nS, mq_nI, nI_1]
  show zf_X11_turn_9b N z _ v1 (nI (m + 1)) S = _
  unfold zf_X11_turn_9b
  rw [if_neg (nI_nle (by omega) (by omega))]
  simp only [p1, mq_ck_of i0, c0, mq_nI, hs, mq_ck_of i1, c1]
  rw [if_pos ht, if_neg h4]
  simp only [w1, mq_ck_of ia, ca]
  rw [if_neg hta]
  unfold zf_X11_turn_81
  simp only [mq_ck_of i1, c1]
  rcases h45 with q | q
  · rw [if_pos q]
    exact l101
  · rw [q, if_neg (by decide : ¬ (5 : Int32) = 4), if_pos rfl]
    exact l101
end TURN
/-- a formula on top of the stack: after some turns it is turned and gone, what lies below is as it was -/
theorem rt_all {N n : Nat} {z : Nat → Nat} {d : Nat → Nat} {v1 : Int32} (hN : 400 ≤ N) : ∀ (f : Nat), f < n → ∀ (S : mq_St) (m fuel : Nat), S.1 3 = nI n → fw n (S.2.1 2) (S.2.1 3) (S.2.1 4) d → (∀ g, g < n → S.2.1 15 g = -1 ∨ S.2.1 15 g = nI (d g)) → S.2.1 15 f = -1 → S.2.1 14 m = nI f → m + f < 2900 → 3 * uc (S.2.1 15) (f + 1) ≤ fuel →
    ∃ (S' : mq_St) (fuel' : Nat), zf_X11_turn_9 N z fuel v1 (nI (m + 1)) S = zf_X11_turn_9 N z fuel' v1 (nI m) S' ∧ (∀ K, f < K → fuel + 3 * uc (S'.2.1 15) K ≤ fuel' + 3 * uc (S.2.1 15) K) ∧ S'.2.1 15 f = nI (d f) ∧ (∀ g, ¬ S.2.1 15 g = -1 → S'.2.1 15 g = S.2.1 15 g) ∧ (∀ g, f < g → S'.2.1 15 g = S.2.1 15 g) ∧ (∀ g, g < n → S'.2.1 15 g = -1 ∨ S'.2.1 15 g = nI (d g)) ∧ (∀ i, i ≤ m → S'.2.1 14 i = S.2.1 14 i) ∧ ag [] [14, 15] [] S S' := by
  intro f
  induction f using Nat.strongRecOn with
  | ind f ih =>
    intro hf S m fuel hn hw hT ht hs hm hfu
    have h3 := hw.2.1
    have hdf := hw.2.2.2.1 f hf
    have ufs : uc (S.2.1 15) (f + 1) = uc (S.2.1 15) f + 1 := by
      show uc (S.2.1 15) f + (if S.2.1 15 f = -1 then 1 else 0) = _
      rw [if_pos ht]
    -- the last turn, from any later state in which the parts are turned
    have last : ∀ (S2 : mq_St) (fu2 : Nat), S2.1 3 = nI n → fw n (S2.2.1 2) (S2.2.1 3) (S2.2.1 4) d → (∀ g, g < n → S2.2.1 15 g = -1 ∨ S2.2.1 15 g = nI (d g)) → S2.2.1 15 f = -1 → S2.2.1 14 m = nI f → (∀ a : Nat, a < f → (S2.2.1 3 f = nI a ∧ ¬ S2.2.1 2 f ≤ 3) ∨ (S2.2.1 4 f = nI a ∧ (S2.2.1 2 f = 4 ∨ S2.2.1 2 f = 5)) → S2.2.1 15 a = nI (d a)) →
        (∀ K, f < K → fuel + 3 * uc (S2.2.1 15) K ≤ fu2 + 2 + 3 * uc (S.2.1 15) K) → 1 ≤ fu2 → (∀ g, ¬ S.2.1 15 g = -1 → S2.2.1 15 g = S.2.1 15 g) → (∀ g, f ≤ g → S2.2.1 15 g = S.2.1 15 g) → (∀ i, i ≤ m → S2.2.1 14 i = S.2.1 14 i) → ag [] [14, 15] [] S S2 →
        zf_X11_turn_9 N z fuel v1 (nI (m + 1)) S = zf_X11_turn_9 N z fu2 v1 (nI (m + 1)) S2 →
        ∃ (S' : mq_St) (fuel' : Nat), zf_X11_turn_9 N z fuel v1 (nI (m + 1)) S = zf_X11_turn_9 N z fuel' v1 (nI m) S' ∧ (∀ K, f < K → fuel + 3 * uc (S'.2.1 15) K ≤ fuel' + 3 * uc (S.2.1 15) K) ∧ S'.2.1 15 f = nI (d f) ∧ (∀ g, ¬ S.2.1 15 g = -1 → S'.2.1 15 g = S.2.1 15 g) ∧ (∀ g, f < g → S'.2.1 15 g = S.2.1 15 g) ∧ (∀ g, g < n → S'.2.1 15 g = -1 ∨ S'.2.1 15 g = nI (d g)) ∧ (∀ i, i ≤ m → S'.2.1 14 i = S.2.1 14 i) ∧ ag [] [14, 15] [] S S' := by
      intro S2 fu2 n2 w2 T2 t2 s2 p2 k2 f2 g2 g3 i2 a2 e2
      obtain ⟨fu3, rfl⟩ : ∃ q, fu2 = q + 1 := ⟨fu2 - 1, by omega⟩
      refine ⟨mq_sa S2 15 (upd (S2.2.1 15) f (nI (d f))), fu3, e2.trans (rt_end hN n2 w2 hf (by omega) t2 s2 p2), ?_, ?_, ?_, ?_, ?_, i2, ag_tr a2 (ag_sa (by decide))⟩
      · intro K hK
        have u1 := uc_upd (v := nI (d f)) t2 (nI_nm1 (by omega)) K hK
        have u2 := k2 K hK
        show fuel + 3 * uc (upd (S2.2.1 15) f (nI (d f))) K ≤ _
        omega
      · show upd (S2.2.1 15) f (nI (d f)) f = _
        unfold upd
        rw [if_pos rfl]
      · intro g hg
        show upd (S2.2.1 15) f (nI (d f)) g = _
        unfold upd
        rw [if_neg (fun e => hg (by rw [e]; exact ht))]
        exact g2 g hg
      · intro g hg
        show upd (S2.2.1 15) f (nI (d f)) g = _
        unfold upd
        rw [if_neg (by omega)]
        exact g3 g (by omega)
      · intro g hg
        show upd (S2.2.1 15) f (nI (d f)) g = -1 ∨ upd (S2.2.1 15) f (nI (d f)) g = nI (d g)
        unfold upd
        by_cases e : g = f
        · rw [if_pos e, e]
          exact Or.inr rfl
        · rw [if_neg e]
          exact T2 g hg
    -- a part that isn't turned: onto the stack, and turned
    have part : ∀ (S1 : mq_St) (fu1 a : Nat), S1.1 3 = nI n → fw n (S1.2.1 2) (S1.2.1 3) (S1.2.1 4) d → (∀ g, g < n → S1.2.1 15 g = -1 ∨ S1.2.1 15 g = nI (d g)) → S1.2.1 15 f = -1 → a < f → S1.2.1 15 a = -1 → 3 * uc (S1.2.1 15) f ≤ fu1 →
        ∃ (S2 : mq_St) (fu2 : Nat), zf_X11_turn_9 N z fu1 v1 (nI (m + 1 + 1)) (mq_sa S1 14 (upd (S1.2.1 14) (m + 1) (nI a))) = zf_X11_turn_9 N z fu2 v1 (nI (m + 1)) S2 ∧ (∀ K, a < K → fu1 + 3 * uc (S2.2.1 15) K ≤ fu2 + 3 * uc (S1.2.1 15) K) ∧ S2.2.1 15 a = nI (d a) ∧ (∀ g, ¬ S1.2.1 15 g = -1 → S2.2.1 15 g = S1.2.1 15 g) ∧ (∀ g, f ≤ g → S2.2.1 15 g = S1.2.1 15 g) ∧ (∀ g, g < n → S2.2.1 15 g = -1 ∨ S2.2.1 15 g = nI (d g)) ∧ (∀ i, i ≤ m → S2.2.1 14 i = S1.2.1 14 i) ∧ ag [] [14, 15] [] S1 S2 := by
      intro S1 fu1 a n1 w1 T1 t1 ha ta k1
      have um : uc (S1.2.1 15) (a + 1) ≤ uc (S1.2.1 15) f := uc_mono f (by omega)
      obtain ⟨S2, fu2, q1, q2, q3, q4, q5, q6, q7, q8⟩ := ih a ha (by omega) (mq_sa S1 14 (upd (S1.2.1 14) (m + 1) (nI a))) (m + 1) fu1 n1 w1 T1 ta (by
        show upd (S1.2.1 14) (m + 1) (nI a) (m + 1) = _
        unfold upd
        rw [if_pos rfl]) (by omega) (by
        show 3 * uc (S1.2.1 15) (a + 1) ≤ fu1
        omega)
      refine ⟨S2, fu2, q1, q2, q3, q4, fun g hg => q5 g (by omega), q6, fun i hi => ?_, ag_tr (ag_sa (by decide)) q8⟩
      rw [q7 i (by omega)]
      show upd (S1.2.1 14) (m + 1) (nI a) i = _
      unfold upd
      rw [if_neg (by omega)]
    have cp : ∀ {S2 : mq_St}, ag [] [14, 15] [] S S2 → S2.1 3 = nI n ∧ S2.2.1 2 = S.2.1 2 ∧ S2.2.1 3 = S.2.1 3 ∧ S2.2.1 4 = S.2.1 4 := fun q => ⟨(q.1 3 (by decide)).trans hn, q.2.1 2 (by decide), q.2.1 3 (by decide), q.2.1 4 (by decide)⟩
    -- the first part, if there is one
    have first : ∀ a : Nat, a < f → S.2.1 3 f = nI a → ¬ S.2.1 2 f ≤ 3 → ∃ (S1 : mq_St) (fu1 : Nat), zf_X11_turn_9 N z fuel v1 (nI (m + 1)) S = zf_X11_turn_9 N z fu1 v1 (nI (m + 1)) S1 ∧ (∀ K, f ≤ K → fuel + 3 * uc (S1.2.1 15) K ≤ fu1 + 1 + 3 * uc (S.2.1 15) K) ∧ S1.2.1 15 a = nI (d a) ∧ (∀ g, ¬ S.2.1 15 g = -1 → S1.2.1 15 g = S.2.1 15 g) ∧ (∀ g, f ≤ g → S1.2.1 15 g = S.2.1 15 g) ∧ (∀ g, g < n → S1.2.1 15 g = -1 ∨ S1.2.1 15 g = nI (d g)) ∧ (∀ i, i ≤ m → S1.2.1 14 i = S.2.1 14 i) ∧ ag [] [14, 15] [] S S1 := by
      intro a ha wa h4
      rcases hT a (by omega) with ta | ta
      · obtain ⟨fu0, rfl⟩ : ∃ q, fuel = q + 1 := ⟨fuel - 1, by omega⟩
        obtain ⟨S1, fu1, q1, q2, q3, q4, q5, q6, q7, q8⟩ := part S fu0 a hn hw hT ht ha ta (by omega)
        refine ⟨S1, fu1, (rt_one h3 hf (by omega) ht hs h4 ha wa ta).trans q1, fun K hK => ?_, q3, q4, q5, q6, q7, q8⟩
        have := q2 K (by omega)
        omega
      · exact ⟨S, fuel, rfl, fun K _ => by omega, ta, fun _ _ => rfl, fun _ _ => rfl, hT, fun _ _ => rfl, ag_rf⟩
    rcases hw.2.2.2.2 f hf with ⟨h0, s0, -⟩ | ⟨h0, s0, -⟩ | ⟨hs', -⟩ | ⟨h45, a, b, ha, hb, w1, w2, -⟩ | ⟨h67, -, -, a, ha, w1, -⟩
    · refine last S fuel hn hw hT ht hs (fun a ha q => ?_) (fun K _ => by omega) (by omega) (fun _ _ => rfl) (fun _ _ => rfl) (fun _ _ => rfl) ag_rf rfl
      omega
    · refine last S fuel hn hw hT ht hs (fun a ha q => ?_) (fun K _ => by omega) (by omega) (fun _ _ => rfl) (fun _ _ => rfl) (fun _ _ => rfl) ag_rf rfl
      rw [s0] at q
      rcases q with ⟨-, q⟩ | ⟨-, q⟩ <;> exact absurd q (by decide)
    · refine last S fuel hn hw hT ht hs (fun a ha q => ?_) (fun K _ => by omega) (by omega) (fun _ _ => rfl) (fun _ _ => rfl) (fun _ _ => rfl) ag_rf rfl
      rcases hs' with ⟨s0, -⟩ | ⟨s0, -⟩ <;> (rw [s0] at q; rcases q with ⟨-, q⟩ | ⟨-, q⟩ <;> exact absurd q (by decide))
    · have h45' : S.2.1 2 f = 4 ∨ S.2.1 2 f = 5 := h45.elim (fun q => Or.inl q.1) (fun q => Or.inr q.1)
      have h4 : ¬ S.2.1 2 f ≤ 3 := by rcases h45' with q | q <;> rw [q] <;> decide
      obtain ⟨S1, fu1, q1, q2, q3, q4, q5, q6, q7, q8⟩ := first a ha w1 h4
      obtain ⟨c1, c2, c3, c4⟩ := cp q8
      have hw1 : fw n (S1.2.1 2) (S1.2.1 3) (S1.2.1 4) d := by rw [c2, c3, c4]; exact hw
      have t1 : S1.2.1 15 f = -1 := (q5 f (by omega)).trans ht
      have qf := q2 f (by omega)
      have hda := hw.2.2.2.1 a (by omega)
      rcases q6 b (by omega) with tb | tb
      · obtain ⟨fu0, rfl⟩ : ∃ q, fu1 = q + 1 := ⟨fu1 - 1, by omega⟩
        have ha1 : ¬ S1.2.1 15 a = -1 := by rw [q3]; exact nI_nm1 (by omega)
        obtain ⟨S2, fu2, r1, r2, r3, r4, r5, r6, r7, r8⟩ := part S1 fu0 b c1 hw1 q6 t1 hb tb (by omega)
        have a2 := ag_tr q8 r8
        obtain ⟨d1, d2, d3, d4⟩ := cp a2
        have hw2 : fw n (S2.2.1 2) (S2.2.1 3) (S2.2.1 4) d := by rw [d2, d3, d4]; exact hw
        have rf := r2 f hb
        refine last S2 fu2 d1 hw2 r6 ((r5 f (by omega)).trans t1) ((r7 m (by omega)).trans ((q7 m (by omega)).trans hs)) (fun x hx q => ?_) (fun K hK => ?_) (by omega) (fun g hg => ?_) (fun g hg => (r5 g hg).trans (q5 g hg)) (fun i hi => (r7 i hi).trans (q7 i hi)) a2 (q1.trans ((rt_two h3 hf (by omega) t1 ((q7 m (by omega)).trans hs) (by rw [c2]; exact h45') ha (by rw [c3]; exact w1) ha1 hb (by rw [c4]; exact w2) tb).trans r1))
        · rw [d2, d3, d4] at q
          rcases q with ⟨q, -⟩ | ⟨q, -⟩
          · have e : x = a := (nI_eq (by omega) (by omega)).mp (q.symm.trans w1)
            rw [e, r4 a ha1, q3]
          · have e : x = b := (nI_eq (by omega) (by omega)).mp (q.symm.trans w2)
            rw [e, r3]
        · have u1 := q2 K (by omega)
          have u2 := r2 K (by omega)
          omega
        · rw [r4 g (by rw [q4 g hg]; exact hg), q4 g hg]
      · refine last S1 fu1 c1 hw1 q6 t1 ((q7 m (by omega)).trans hs) (fun x hx q => ?_) (fun K hK => ?_) (by omega) q4 q5 q7 q8 q1
        · rw [c2, c3, c4] at q
          rcases q with ⟨q, -⟩ | ⟨q, -⟩
          · have e : x = a := (nI_eq (by omega) (by omega)).mp (q.symm.trans w1)
            rw [e, q3]
          · have e : x = b := (nI_eq (by omega) (by omega)).mp (q.symm.trans w2)
            rw [e, tb]
        · have u1 := q2 K (by omega)
          omega
    · have h4 : ¬ S.2.1 2 f ≤ 3 := by rcases h67 with ⟨q, -⟩ | ⟨q, -⟩ <;> rw [q] <;> decide
      obtain ⟨S1, fu1, q1, q2, q3, q4, q5, q6, q7, q8⟩ := first a ha w1 h4
      obtain ⟨c1, c2, c3, c4⟩ := cp q8
      have hw1 : fw n (S1.2.1 2) (S1.2.1 3) (S1.2.1 4) d := by rw [c2, c3, c4]; exact hw
      have qf := q2 f (by omega)
      refine last S1 fu1 c1 hw1 q6 ((q5 f (by omega)).trans ht) ((q7 m (by omega)).trans hs) (fun x hx q => ?_) (fun K hK => ?_) (by omega) q4 q5 q7 q8 q1
      · rw [c2, c3, c4] at q
        rcases q with ⟨q, -⟩ | ⟨-, q⟩
        · have e : x = a := (nI_eq (by omega) (by omega)).mp (q.symm.trans w1)
          rw [e, q3]
        · rcases h67 with ⟨s0, -⟩ | ⟨s0, -⟩ <;> (rw [s0] at q; exact absurd q (by decide))
      · have u1 := q2 K (by omega)
        omega
