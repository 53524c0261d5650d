/-! read: both sides alike. -/
/-- the reference's tape holds bytes -/
def ivB (b : Nat → Int32) : Prop := ∀ i, (b i).toInt8.toInt32 = b i
theorem i8_and (x : Int32) : (x &&& 255).toInt8 = x.toInt8 := by
  apply Int8.toBitVec_inj.mp
  rw [Int32.toBitVec_toInt8, Int32.toBitVec_toInt8, Int32.toBitVec_and]
  apply BitVec.eq_of_getLsbD_eq
  intro i hi
  rw [BitVec.getLsbD_signExtend, BitVec.getLsbD_signExtend, if_pos (by omega), if_pos (by omega), BitVec.getLsbD_and]
  have : (255 : Int32).toBitVec.getLsbD i = true := by
    have h : ∀ i, i < 8 → (255 : Int32).toBitVec.getLsbD i = true := by decide
    exact h i hi
  rw [this, Bool.and_true]
theorem by_eqv {x : Int32} (hx : x.toInt8.toInt32 = x) {v : Nat} (hv : v < 128) : x = nI v ↔ x &&& 255 = nI v := by
  have hs : ∀ v, v < 128 → (nI v).toInt8.toInt32 = nI v ∧ nI v &&& 255 = nI v := by decide
  constructor
  · intro e
    rw [e]
    exact (hs v hv).2
  · intro e
    rw [← hx, ← i8_and, e]
    exact (hs v hv).1
/-- FORMULAS and slots: both sides -/
def ivF (SC SR : mq_St) : Prop := ∃ L, gtb L ∧ tbC SC L ∧ tbR SR L ∧ (∀ f, f < L.length → SC.2.1 7 f = nI (dd L f)) ∧ ∀ s, s < 8 → SC.2.1 0 s = SR.2.1 5 s ∧ SC.2.1 1 s = SR.2.1 6 s ∧ ((SC.2.1 0 s = -1 ∧ SC.2.1 1 s = -1) ∨ ∃ f, f < L.length ∧ SC.2.1 0 s = nI f ∧ SC.2.1 1 s = nI (dd L f))
theorem ivF_fs {SC SR : mq_St} (h : ivF SC SR) : ∃ L, gtb L ∧ tbC SC L ∧ tbR SR L ∧ iv_fs L.length (dd L) (SC.1 2) (SC.2.1 4) (SC.2.1 5) (SC.2.1 6) (SC.2.1 7) (SC.2.1 0) (SC.2.1 1) (SR.1 3) (SR.2.1 2) (SR.2.1 3) (SR.2.1 4) (SR.2.1 5) (SR.2.1 6) := by
  obtain ⟨L, h1, h2, h3, h4, h5⟩ := h
  refine ⟨L, h1, h2, h3, h2.1, h3.1, gtb_fw h1 h3.2.2, fun f hf => ?_, h5⟩
  obtain ⟨e1, e2, e3⟩ := en_eq.mp (Option.some.inj ((h2.2.2.1 f hf).symm.trans (h3.2.2 f hf)))
  exact ⟨e1, e2, e3, h4 f hf⟩
theorem ivF_c {SC SR SC' SR' : mq_St} (h : ivF SC SR) (c2 : SC'.1 2 = SC.1 2) (c4 : SC'.2.1 4 = SC.2.1 4) (c5 : SC'.2.1 5 = SC.2.1 5) (c6 : SC'.2.1 6 = SC.2.1 6) (c7 : SC'.2.1 7 = SC.2.1 7) (c0 : SC'.2.1 0 = SC.2.1 0) (c1 : SC'.2.1 1 = SC.2.1 1) (cl : SC'.2.2 0 = SC.2.2 0) (r3 : SR'.1 3 = SR.1 3) (r2 : SR'.2.1 2 = SR.2.1 2) (a3 : SR'.2.1 3 = SR.2.1 3) (a4 : SR'.2.1 4 = SR.2.1 4) (a5 : SR'.2.1 5 = SR.2.1 5) (a6 : SR'.2.1 6 = SR.2.1 6) : ivF SC' SR' := by
  obtain ⟨L, h1, h2, h3, h4, h5⟩ := h
  refine ⟨L, h1, tbC_c h2 c2 c4 c5 c6 cl, tbR_c h3 r3 r2 a3 a4, ?_, ?_⟩
  · rw [c7]; exact h4
  · rw [c0, c1, a5, a6]; exact h5
theorem dd_old {L X : List En} (h : gtb L) (hl : (L ++ X).length < 2147483648) {f : Nat} (hf : f < L.length) : dd (L ++ X) f = dd L f := by
  obtain ⟨h0, h3, -, ht⟩ := h
  obtain ⟨s, w, p, g, pg⟩ := ht f hf
  rw [dd_is h0 (by omega) w p pg]
  exact dd_is (ok0_app h0 X) hl w (pr_mono p X) (pr_mono pg X)
theorem st_read {N : Nat} {z : Nat → Nat} {SC SR : mq_St} (v : Int32) (pl : Bool) (hN : 20000 ≤ N) (ht : iv_tape (SC.1 0) (SC.2.1 2) (SR.1 1) (SR.2.1 0)) (hb : ivB (SR.2.1 0)) (hF : ivF SC SR) (hq : SC.1 11 = SR.1 4 ∧ SC.1 12 = SR.1 5) :
    ∃ r SC' SR', zf_X10_read N z v (if pl = true then 0 else 1) SC = some (r, SC') ∧ zf_X11_read N z v (if pl = true then 0 else 1) SR = some (r, SR') ∧ iv_tape (SC'.1 0) (SC'.2.1 2) (SR'.1 1) (SR'.2.1 0) ∧ ivF SC' SR' ∧ (SC'.1 11 = SR'.1 4 ∧ SC'.1 12 = SR'.1 5) ∧ ag [0, 2, 3, 4, 5, 6, 7, 8, 9, 10, 11, 12] [0, 1, 2, 4, 5, 6, 7, 8, 9, 10, 11, 12, 13, 14] [0] SC SC' ∧ ag [0, 1, 3, 4, 5, 6, 7, 8, 9, 10, 11, 12, 13, 14, 15, 16, 17] [2, 3, 4, 5, 6, 7, 8, 9, 10, 11, 12, 13, 14] [] SR SR' := by
  have htall := ht
  obtain ⟨t, t4, tc, tr, tb⟩ := ht
  have e7 : (7 : Int32) = nI 8 - 1 := by decide
  have e8 : (8 : Int32) = nI 8 := rfl
  rcases mq_place v (t := 8) (by omega) with hv | ⟨s, hs, rfl, hv⟩
  · refine ⟨-1, SC, mq_si SR 0 0, ?_, ?_, htall, ivF_c hF rfl rfl rfl rfl rfl rfl rfl rfl rfl rfl rfl rfl rfl rfl, hq, ag_rf, ag_si (by decide)⟩
    · unfold zf_X10_read
      rw [ck_isSlot, e8, if_pos hv, mq_cp_s, if_pos rfl]
    · unfold zf_X11_read
      rw [nS_e, rf_in, e7, if_pos ((mq_lst 8 (by omega) v).mpr hv), mq_cp_s, if_pos rfl]
  · obtain ⟨L, h1, h2, h3, h4, h5⟩ := hF
    have hF : ivF SC SR := ⟨L, h1, h2, h3, h4, h5⟩
    have hB : ∀ i, i < min t 400 → SR.2.1 0 i &&& 255 = nI (Bt (SC.2.1 2) i) ∧ Bt (SC.2.1 2) i < 256 ∧ ∀ w : Nat, w < 128 → (SR.2.1 0 i = nI w ↔ Bt (SC.2.1 2) i = w) := by
      intro i hi
      obtain ⟨a, b⟩ := bt_is (SC.2.1 2) i
      have e : SR.2.1 0 i &&& 255 = nI (Bt (SC.2.1 2) i) := by rw [← tb i (by omega), a]
      refine ⟨e, b, fun w hw => ?_⟩
      rw [by_eqv (hb i) hw, e]
      exact nI_eq (by omega) (by omega)
    obtain ⟨RF, RO⟩ := rf_read (N := N) (z := z) (S := SR) (pl := pl) hN hs tr t4 hB h3 h1.1
    obtain ⟨w, S1, d1, d2, d3, d4⟩ := ck_draw (N := N) (z := z) (pl := pl) (S := SC) (by omega) tc t4
    have t1 : S1.1 0 = nI t := (d4.1 0 (by decide)).trans tc
    have hk : zf_X0_keep N z 0 (mq_pull S1 [0] [2] []) = some (1, mq_si (mq_pull S1 [0] [2] []) 0 0) := by
      rw [by_keep, if_neg]
      rintro (q | q)
      · exact absurd q (by decide)
      · have q : S1.1 0 < 0 := q
        rw [t1] at q
        exact nI_pos (by omega) q
    let S2 : mq_St := mq_push S1 (mq_si (mq_pull S1 [0] [2] []) 0 0) [0] [2] []
    have g2 : ag [0] [2] [] S1 S2 := ag_push
    have k2 : S2.1 0 = 0 := rfl
    have g02 : ag [0, 2, 3, 4, 5, 6, 7, 8, 9, 10, 11, 12] [0, 1, 2, 4, 5, 6, 7, 8, 9, 10, 11, 12, 13, 14] [0] SC S2 := ag_tr (ag_mono d4 (by decide) (by decide) (by decide)) (ag_mono g2 (by decide) (by decide) (by decide))
    have E : zf_X10_read N z (nI s) (if pl = true then 0 else 1) SC = (if w = -1 then some (-2, S2) else mq_cl (zf_X10_fill N z (nI s) w S2) (fun q S12 => if q = 0 then mq_cl (zf_X5_fail N z 4 (-1) S12) (fun _ S16 => some (-2, S16)) else mq_ck (nI s) 8 (some (S12.2.1 0 (nI s).toNatClampNeg, S12)))) := by
      unfold zf_X10_read
      rw [ck_isSlot, e8, if_neg hv, mq_cp_s, if_neg (by decide), d1, mq_cl_s, nI_e, hk, mq_cl_s, nS_e]
    have emp : ∀ {SC' SR' : mq_St}, SC'.1 0 = 0 → SR'.1 1 = 0 → iv_tape (SC'.1 0) (SC'.2.1 2) (SR'.1 1) (SR'.2.1 0) := fun a b => ⟨0, by omega, a, b, fun i hi => by omega⟩
    have sC : tbC S2 L := tbC_c h2 (d4.1 2 (by decide)) (d4.2.1 4 (by decide)) (d4.2.1 5 (by decide)) (d4.2.1 6 (by decide)) (d4.2.2 0 (by decide))
    by_cases hz : (fiA pl (Bt (SC.2.1 2)) t N).1 = 0
    · obtain ⟨x11, x12, xv, xw, W, xd, xr, xu⟩ := d2 hz
      rw [if_neg xv] at E
      obtain ⟨RA, RB⟩ := RO hz
      have xd2 : dft S2 W := dft_c xd (g2.1 3 (by decide)) (g2.1 4 (by decide)) (g2.2.1 8 (by decide)) (g2.2.1 9 (by decide)) (g2.2.1 10 (by decide)) (g2.2.1 11 (by decide))
      obtain ⟨FA, FB⟩ := ck_fill (N := N) (z := z) (S := S2) (W := W) (L := L) (v := w) (s := s) (by omega) hs xd2 xr xw xu sC h1 (fun f hf => by
        show S1.2.1 7 f = _
        rw [d4.2.1 7 (by decide)]
        exact h4 f hf)
      generalize htr : (fiA pl (Bt (SC.2.1 2)) t N).2.2 = tt at *
      by_cases hlen : (mk (du tt) (mk tt L).2).2.length ≤ 300
      · obtain ⟨SC', a1, a2, a3, a4, a5, a6, a7⟩ := FA hlen
        obtain ⟨SR', b1, b2, b3, b4, b5, b6, b7, b8⟩ := RA hlen
        obtain ⟨X1, hX1⟩ := mk_ext tt L
        obtain ⟨X2, hX2⟩ := mk_ext (du tt) (mk tt L).2
        have eL : (mk (du tt) (mk tt L).2).2 = L ++ (X1 ++ X2) := by rw [hX2, hX1, List.append_assoc]
        have py : pr tt (mk (du tt) (mk tt L).2).2 (mk tt L).1 := by rw [hX2]; exact pr_mono (pr_mk tt L) X2
        have pn := pr_mk (du tt) (mk tt L).2
        have ylt := pr_lt xw a3.1 py
        have ddy := dd_is a3.1 (by omega) xw py pn
        have s0 : S2.2.1 0 = SC.2.1 0 := d4.2.1 0 (by decide)
        have s1 : S2.2.1 1 = SC.2.1 1 := d4.2.1 1 (by decide)
        rw [a1, mq_cl_s, if_neg (show ¬ (1 : Int32) = 0 by decide), mq_ck_of (vp_in_nI hs (by omega)), nI_clamp (by omega), a5, up_s] at E
        refine ⟨_, SC', SR', E, b1, emp ((a7.1 0 (by decide)).trans k2) b4, ⟨_, a3, a2, b5, a4, fun j hj => ?_⟩, ⟨?_, ?_⟩, ag_tr g02 (ag_mono a7 (by decide) (by decide) (by decide)), b8⟩
        · rw [a5, a6, b6, b7, s0, s1]
          unfold upd
          by_cases e : j = s
          · simp only [if_pos e]
            exact ⟨trivial, trivial, Or.inr ⟨_, ylt, rfl, by rw [ddy]⟩⟩
          · simp only [if_neg e]
            obtain ⟨q1, q2, q3⟩ := h5 j hj
            refine ⟨q1, q2, ?_⟩
            rcases q3 with q3 | ⟨f, hf, f1, f2⟩
            · exact Or.inl q3
            · refine Or.inr ⟨f, by rw [eL, List.length_append]; omega, f1, ?_⟩
              rw [eL] at hlen ⊢
              rw [dd_old h1 (by omega) hf]
              exact f2
        · rw [b2, a7.1 11 (by decide)]
          exact (g2.1 11 (by decide)).trans x11
        · rw [b3, a7.1 12 (by decide)]
          exact (g2.1 12 (by decide)).trans x12
      · obtain ⟨S3, a1, a2, a3, a4⟩ := FB (by omega)
        obtain ⟨SR', b1, b2, b3, b4, b5, b6, b7, b8⟩ := RB (by omega)
        have s0 : S3.2.1 0 = SC.2.1 0 := (a4.2.1 0 (by decide)).trans (d4.2.1 0 (by decide))
        have s1 : S3.2.1 1 = SC.2.1 1 := (a4.2.1 1 (by decide)).trans (d4.2.1 1 (by decide))
        have hfl : zf_X5_fail N z 4 (-1) S3 = some ((), mq_si (mq_si S3 11 4) 12 (-1)) := by unfold zf_X5_fail; rw [nS_e, nS_e]
        rw [a1, mq_cl_s, if_pos rfl, hfl, mq_cl_s] at E
        refine ⟨-2, _, SR', E, b1, emp ((a4.1 0 (by decide)).trans k2) b4, ⟨L, h1, tbC_c a2 rfl rfl rfl rfl rfl, b5, a3, ?_⟩, ⟨?_, ?_⟩, ag_tr (ag_tr (ag_tr g02 (ag_mono a4 (by decide) (by decide) (by decide))) (ag_si (by decide))) (ag_si (by decide)), b8⟩
        · show ∀ j, j < 8 → S3.2.1 0 j = SR'.2.1 5 j ∧ S3.2.1 1 j = SR'.2.1 6 j ∧ ((S3.2.1 0 j = -1 ∧ S3.2.1 1 j = -1) ∨ ∃ f, f < L.length ∧ S3.2.1 0 j = nI f ∧ S3.2.1 1 j = nI (dd L f))
          rw [s0, s1, b6, b7]
          exact h5
        · rw [b2]; rfl
        · rw [b3]; rfl
    · obtain ⟨xv, x11, x12⟩ := d3 hz
      obtain ⟨SR', b1, b2, b3, b4, b5, b6, b7, b8⟩ := RF hz
      rw [if_pos xv] at E
      have s0 : S2.2.1 0 = SC.2.1 0 := d4.2.1 0 (by decide)
      have s1 : S2.2.1 1 = SC.2.1 1 := d4.2.1 1 (by decide)
      refine ⟨-2, S2, SR', E, b1, emp k2 b4, ⟨L, h1, sC, b5, fun f hf => ?_, ?_⟩, ⟨?_, ?_⟩, g02, b8⟩
      · show S1.2.1 7 f = _
        rw [d4.2.1 7 (by decide)]
        exact h4 f hf
      · rw [s0, s1, b6, b7]
        exact h5
      · rw [b2]; exact x11
      · rw [b3]; exact x12
