/-! verify(): class and reference answer alike. -/
section STVER
variable {N n : Nat} {z : Nat → Nat} {S SC SR : mq_St} {so on tw : Nat → Int32} {d gb : Nat → Nat} {X : Nat → Bool} {H : List (Nat → Bool)} {L i f r : Nat}
theorem sa_id (S : mq_St) (k : Nat) : mq_sa S k (S.2.1 k) = S := by
  refine Prod.ext rfl (Prod.ext ?_ rfl)
  funext q
  show (if q = k then S.2.1 k else S.2.1 q) = S.2.1 q
  by_cases e : q = k
  · rw [if_pos e, e]
  · rw [if_neg e]
theorem m3 {t : Nat} (ht : t ≤ 4000) : nI t / 3 = nI (t / 3) ∧ (nI t - nI t / 3 * 3 = 0 ↔ t % 3 = 0) := by
  have q : nI t / 3 = nI (t / 3) := pk_div (a := t) (d := 3) (by omega) (by omega) (by omega)
  refine ⟨q, ?_⟩
  rw [q, show (3 : Int32) = nI 3 from rfl, pk_mul, sp_su (by omega), show t - t / 3 * 3 = t % 3 by omega]
  constructor
  · intro e; exact sp_inj (b := 0) e (by omega) (by omega)
  · intro e; rw [e]; rfl
theorem cv_right {g0 : Nat} (hN : 2000 ≤ N) (hL : 3 * L ≤ 4000) (hg : ∀ j, gb j < 256) (hc : cxC S n so on tw d) (hg0 : g0 < n) (h0 : S.1 0 = nI (3 * L)) (hb : ∀ j, j < 3 * L → by_at (S.2.1 2) j = nI (gb j)) : ∃ S', ag [21] [] [5, 6] S S' ∧ zf_X1_isRight N z (nI g0) S = some (bo (vA n so on tw d gb L 0 (fun g => decide (g = g0)) []), S') := by
  have h3 := hc.2.2.2.2.1
  obtain ⟨l, a1, a2⟩ := cv_empty (N := N) (S := S) (k := 6) (r := 0) (R := 1) (y := fun k => [5].getD k 0) (by omega) rfl (by omega) (by omega)
  obtain ⟨l', c1, c2⟩ := cv_put (N := N) (S := mq_sl S 6 l) (k := 6) (r := 0) (f := g0) (R := 1) (y := fun k => [5].getD k 0) rfl (by omega) (by omega) (by omega)
  have fr : ag [21] [] [5, 6] S (mq_si (mq_sl (mq_sl S 6 l) 6 l') 21 0) := ag_tr (ag_tr (ag_sl (by decide)) (ag_sl (by decide))) (ag_si (by decide))
  obtain ⟨S', b1, b2⟩ := cv_48 (N := N) (z := z) (n := n) (so := so) (on := on) (tw := tw) (d := d) (gb := gb) (L := L) (by omega) hL hg N L 0 (fun g => decide (g = g0)) [] (mq_si (mq_sl (mq_sl S 6 l) 6 l') 21 0) (by omega) (by omega) (by simp) (by simp) (cxC_c hc rfl rfl rfl rfl rfl rfl) h0 hb ⟨rfl, fun g hg => by
    show lb l' 0 g = _
    rw [c2 0 g hg]
    show (lb l 0 g || _) = _
    rw [a2 0 g hg]
    simp, trivial⟩
  refine ⟨S', ag_tr fr b1, ?_⟩
  obtain ⟨m1, m2⟩ := m3 (t := 3 * L) hL
  have sz : zf_X0_size N z (mq_pull S [0] [2] []) = some (nI (3 * L)) := congrArg some h0
  unfold zf_X1_isRight
  rw [sz, mq_cp_s, if_pos (m2.mpr (by omega)), mq_cp_s, m1, nI_e, show 3 * L / 3 = L by omega, show (0 : Int32) = nI 0 from rfl, a1, c1, nS_e, nI_e]
  exact b2
theorem rv_47 {k : Int32} {s g0 : Nat} (hN : 2000 ≤ N) (hL : 3 * L ≤ 4000) (hg : ∀ j, gb j < 256) (hc : cxR S n so on tw d) (hs : s < 8) (h6 : S.2.1 6 s = nI g0) (hg0 : g0 < n) (hb : ∀ j, j < 3 * L → S.2.1 0 j &&& 255 = nI (gb j)) : ∃ S', ag [] [17, 31, 37] [] S S' ∧ zf_X11_verify_47 N z N (nI s) (nI (3 * L)) 0 S = some (bo (vA n so on tw d gb L 0 (fun g => decide (g = g0)) []), S') := by
  have h3 : n ≤ 300 := hc.2.2.2.2.1
  obtain ⟨T, ⟨b, a1, a2⟩, a3⟩ := lp_i (F := fun fu k T => zf_X11_verify_47 N z fu (nI s) (nI (3 * L)) k T) (n := 10) (I := fun k T => ∃ b, T = mq_sa S 17 b ∧ ∀ i, i < k → b i = 0) (G := fun T => zf_X11_verify_47b N z (fun _ _ _ _ => none) (nI s) (nI (3 * L)) (nI 10) T) (fun fu T hI => by
    show zf_X11_verify_47b N z _ (nI s) (nI (3 * L)) (nI 10) T = zf_X11_verify_47b N z _ (nI s) (nI (3 * L)) (nI 10) T
    unfold zf_X11_verify_47b
    rw [if_pos (show (10 : Int32) ≤ nI 10 by decide), if_pos (show (10 : Int32) ≤ nI 10 by decide)]) (fun fu k T hk hI => by
    obtain ⟨b, rfl, hb⟩ := hI
    refine ⟨mq_sa (mq_sa S 17 b) 17 (upd b k 0), ⟨upd b k 0, sa_sa _ _ _ _, fun i hi => ?_⟩, ?_⟩
    · by_cases q : i = k
      · rw [q, up_s]
      · rw [up_o q]; exact hb i (by omega)
    · show zf_X11_verify_47b N z (fun v1 v2 v3 S => zf_X11_verify_47 N z fu v1 v2 v3 S) (nI s) (nI (3 * L)) (nI k) (mq_sa S 17 b) = _
      unfold zf_X11_verify_47b
      rw [if_neg (show ¬ (10 : Int32) ≤ nI k from nI_ge (b := 10) hk (by omega)), mq_ck_of (vp_in_nI (by omega) (by omega)), nI_clamp (show k < 2147483648 by omega), nS_e, nI_e, nI_1]
      rfl) N 0 S (by omega) (by omega) ⟨S.2.1 17, (sa_id S 17).symm, fun i hi => by omega⟩
  subst a1
  obtain ⟨l, c1, c2⟩ := rv_put (N := N) (S := mq_sa S 17 b) (k := 17) (r := 0) (f := g0) (R := 1) (y := fun k => [10].getD k 0) rfl (by omega) (by omega) (by omega)
  have fr : ag [] [17, 31, 37] [] S (mq_sa (mq_sa S 17 b) 17 l) := ag_tr (ag_sa (by decide)) (ag_sa (by decide))
  obtain ⟨S', d1, d2⟩ := rv_88 (N := N) (z := z) (n := n) (so := so) (on := on) (tw := tw) (d := d) (gb := gb) (L := L) (by omega) hL hg N L 0 (fun g => decide (g = g0)) [] (mq_sa (mq_sa S 17 b) 17 l) (by omega) (by omega) (by simp) (cxR_c hc rfl rfl rfl rfl) hb ⟨fun g hg => by
    show ib l 0 g = _
    rw [c2 0 g hg]
    show (ib b 0 g || _) = _
    rw [ib_0 a2 hg]
    simp, trivial⟩
  refine ⟨S', ag_tr fr d1, Eq.trans a3 ?_⟩
  unfold zf_X11_verify_47b
  rw [if_pos (show (10 : Int32) ≤ nI 10 by decide), mq_ck_of (vp_in_nI hs (by omega)), nI_clamp (show s < 2147483648 by omega), show (mq_sa S 17 b).2.1 6 s = nI g0 from h6, show (0 : Int32) = nI (10 * 0) from rfl, c1, nI_e, nI_e, nI_e]
  exact d2
theorem st_verify (v : Int32) (hN : 2000 ≤ N) (hF : ivF SC SR) (ht : iv_tape (SC.1 0) (SC.2.1 2) (SR.1 1) (SR.2.1 0)) :
    ∃ r SC' SR', zf_X10_verify N z v SC = some (r, SC') ∧ zf_X11_verify N z v SR = some (r, SR') ∧ iv_tape (SC'.1 0) (SC'.2.1 2) (SR'.1 1) (SR'.2.1 0) ∧ ag [0, 21] [] [5, 6] SC SC' ∧ ag [0, 1] [17, 31, 37] [] SR SR' := by
  obtain ⟨n, so, on, tw, d, hc, hr, hs⟩ := ivF_cx hF
  obtain ⟨t, t4, t1, t2, t3⟩ := ht
  have ht : iv_tape (SC.1 0) (SC.2.1 2) (SR.1 1) (SR.2.1 0) := ⟨t, t4, t1, t2, t3⟩
  unfold zf_X10_verify zf_X11_verify zf_X10_isFilled
  rw [ck_isSlot, mq_cp_s, nS_e, rf_in, mq_cp_s]
  have e7 : (v < 0 ∨ (7 : Int32) < v) ↔ (v < 0 ∨ (8 : Int32) ≤ v) := by
    rw [Int32.lt_iff_toInt_lt, Int32.lt_iff_toInt_lt, Int32.le_iff_toInt_le, show (7 : Int32).toInt = 7 from by decide, show (8 : Int32).toInt = 8 from by decide]
    omega
  rcases mq_place v (t := 8) (by omega) with q | ⟨s, hs8, rfl, q⟩
  · rw [if_pos (show v < 0 ∨ (8 : Int32) ≤ v from q), if_pos (e7.mpr q), if_pos rfl, mq_cz_0, mq_cp_s, if_pos rfl, if_pos rfl]
    exact ⟨-1, SC, mq_si SR 0 0, rfl, rfl, ht, ag_rf, ag_si (by decide)⟩
  · have i8 : vp_in (nI s) 8 := vp_in_nI hs8 (by omega)
    have cl : (nI s).toNatClampNeg = s := nI_clamp (by omega)
    obtain ⟨p1, p2, p3⟩ := hs s hs8
    rw [if_neg (show ¬ (nI s < 0 ∨ (8 : Int32) ≤ nI s) from q), if_neg (fun a => q (e7.mp a)), if_neg (show ¬ (1 : Int32) = 0 by decide), if_neg (show ¬ (1 : Int32) = 0 by decide), mq_ck_of i8, mq_ck_of i8, mq_ck_of i8, cl, mq_cz_0, mq_cz_1, show (mq_si SR 0 0).2.1 5 s = SC.2.1 0 s from p1.symm]
    rcases p3 with ⟨g1, g2⟩ | ⟨f, g, hf, hg, g1, g2⟩
    · rw [if_pos g2, if_pos g1, mq_cp_s, if_pos rfl]
      exact ⟨-1, SC, mq_si SR 0 0, rfl, rfl, ht, ag_rf, ag_si (by decide)⟩
    · have h3 := hc.2.2.2.2.1
      rw [if_neg (show ¬ SC.2.1 1 s = -1 by rw [g2]; exact nI_nm1 (by omega)), if_neg (show ¬ SC.2.1 0 s = -1 by rw [g1]; exact nI_nm1 (by omega)), mq_cp_s, if_neg (show ¬ (1 : Int32) = 0 by decide), show (mq_si SR 0 0).1 1 = nI t from t2, nI_e, nS_e, g2]
      obtain ⟨m1, m2⟩ := m3 t4
      have kp : ∀ S6 : mq_St, S6.1 0 = nI t → zf_X0_keep N z 0 (mq_pull S6 [0] [2] []) = some (1, mq_si (mq_pull S6 [0] [2] []) 0 0) := fun S6 h6 => by
        rw [by_keep, if_neg]
        rintro (a | a)
        · exact absurd a (by decide)
        · have a : S6.1 0 < 0 := a
          rw [h6] at a
          exact nI_pos (by omega) a
      by_cases q3 : t % 3 = 0
      · obtain ⟨L, rfl⟩ : ∃ L, t = 3 * L := ⟨t / 3, by omega⟩
        have hb := fun j => bt_is (SC.2.1 2) j
        obtain ⟨S6, a1, a2⟩ := cv_right (N := N) (z := z) (S := SC) (gb := Bt (SC.2.1 2)) (L := L) hN t4 (fun j => (hb j).2) hc hg t1 (fun j _ => (hb j).1)
        obtain ⟨S7, b1, b2⟩ := rv_47 (N := N) (z := z) (k := 0) (S := mq_si (mq_si SR 0 0) 1 0) (gb := Bt (SC.2.1 2)) (L := L) (s := s) (g0 := g) hN t4 (fun j => (hb j).2) (cxR_c hr rfl rfl rfl rfl) hs8 (p2.symm.trans g2) hg (fun j hj => ((t3 j hj).symm).trans (hb j).1)
        have f2 : ag [0, 1] [17, 31, 37] [] SR S7 := ag_tr (ag_tr (ag_si (by decide)) (ag_si (by decide))) (ag_mono b1 (by decide) (by decide) (by decide))
        have f1 : ag [0, 21] [] [5, 6] SC (mq_si S6 0 0) := ag_tr (ag_mono a1 (by decide) (by decide) (by decide)) (ag_si (by decide))
        refine ⟨bo (vA n so on tw d (Bt (SC.2.1 2)) L 0 (fun g' => decide (g' = g)) []), mq_si S6 0 0, S7, ?_, ?_, ?_, f1, f2⟩
        · rw [a2, mq_cl_s, nI_e, kp S6 ((a1.1 0 (by decide)).trans t1), mq_cl_s, pu_2, nS_e]
          unfold bo
          split <;> rfl
        · rw [if_pos (m2.mpr q3), nI_e]
          exact b2
        · refine ⟨0, by omega, rfl, (b1.1 1 (by decide)).trans rfl, fun i hi => by omega⟩
      · refine ⟨0, mq_si SC 0 0, mq_si (mq_si SR 0 0) 1 0, ?_, ?_, ?_, ag_si (by decide), ag_tr (ag_si (by decide)) (ag_si (by decide))⟩
        · have e : zf_X1_isRight N z (nI g) SC = some (0, SC) := by
            have sz : zf_X0_size N z (mq_pull SC [0] [2] []) = some (nI t) := congrArg some t1
            unfold zf_X1_isRight
            rw [sz, mq_cp_s, if_neg (fun a => q3 (m2.mp a)), mq_cz_0]
          rw [e, mq_cl_s, nI_e, kp SC t1, mq_cl_s, pu_2, nS_e, if_pos rfl]
        · rw [if_neg (fun a => q3 (m2.mp a))]
        · exact ⟨0, by omega, rfl, rfl, fun i hi => by omega⟩
end STVER
