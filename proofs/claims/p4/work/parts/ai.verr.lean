/-! verify(): the reference's way. -/
section VERR
variable {N n : Nat} {z : Nat → Nat} {S : mq_St} {so on tw : Nat → Int32} {d gb : Nat → Nat} {X : Nat → Bool} {H : List (Nat → Bool)} {L i f r : Nat}
theorem nI_bt {a i : Nat} (ha : a < 2147483648) (hi : i < 32) : bt (nI a) i = a.testBit i := by
  unfold bt
  rw [← BitVec.testBit_toNat]
  congr 1
  show (Int32.ofNat a).toBitVec.toNat = a
  rw [Int32.toBitVec_ofNat', BitVec.toNat_ofNat]
  omega
theorem e_sh8 {a b : Nat} (ha : a < 256) (hb : b < 256) : (nI a <<< ((8 : Int32) &&& 31)) ||| nI b = nI (256 * a + b) := by
  refine b_ext (fun i hi => ?_)
  rw [b_or, b_shl8 _ hi, nI_bt (by omega) hi, nI_bt (by omega) hi, nI_bt (by omega) (by omega), show 256 * a + b = 2 ^ 8 * a + b from rfl, Nat.testBit_two_pow_mul_add a (show b < 2 ^ 8 from hb)]
  by_cases q : i < 8
  · rw [if_pos q, decide_eq_false (by omega)]; rfl
  · rw [if_neg q, decide_eq_true (by omega), Nat.testBit_lt_two_pow (Nat.lt_of_lt_of_le hb (Nat.pow_le_pow_right (n := 2) (by omega) (show 8 ≤ i by omega)))]
    rw [Bool.true_and, Bool.or_false]
/-- the reference's SET and the SETs held -/
def vR (S : mq_St) (X : Nat → Bool) (H : List (Nat → Bool)) : Prop := (∀ g, g < 320 → ib (S.2.1 17) 0 g = X g) ∧ hl (ib (S.2.1 37)) H
theorem pa_1 {S : mq_St} {k : Nat} {l : Nat → Int32} : mq_push S (mq_sa (mq_pull S [] [k] []) 0 l) [] [k] [] = mq_sa S k l := by
  refine Prod.ext rfl (Prod.ext ?_ rfl)
  funext q
  show (match [k].idxOf? q with | some j => (mq_sa (mq_pull S [] [k] []) 0 l).2.1 j | none => S.2.1 q) = if q = k then l else S.2.1 q
  by_cases e : q = k
  · subst e
    have : [q].idxOf? q = some 0 := by simp [List.idxOf?, List.findIdx?_cons]
    rw [this, if_pos rfl]
    rfl
  · rw [if_neg e, List.idxOf?_eq_none_iff.mpr (by simpa using e)]
theorem rv_put {k r f R : Nat} {y : Nat → Nat} (hy : y 0 = 10 * R) (hR : R < 10000) (hr : r < R) (hf : f < 320) : ∃ l, (∀ (α : Type) (K : mq_St → Option α), mq_cl (zf_X11_put N y (nI (10 * r)) (nI f) (mq_pull S [] [k] [])) (fun _ q => mq_nS (mq_push S q [] [k] []) K) = K (mq_sa S k l)) ∧ ∀ r2 g, g < 320 → ib l r2 g = (ib (S.2.1 k) r2 g || decide (r2 = r ∧ g = f)) := by
  obtain ⟨l, a1, a2⟩ := ri_put (N := N) (R := R) (z := y) (S := mq_pull S [] [k] []) (r := r) (f := f) hy hR hr hf
  refine ⟨l, fun α K => ?_, a2⟩
  rw [a1, mq_cl_s, pa_1, nS_e]
theorem rv_copy {a b ra rb RA RB : Nat} {y : Nat → Nat} (hN : 20 ≤ N) (hab : a ≠ b) (hy0 : y 0 = 10 * RA) (hy1 : y 1 = 10 * RB) (hRA : RA < 10000) (hRB : RB < 10000) (h1 : ra < RA) (h2 : rb < RB) : ∃ l, (∀ (α : Type) (K : mq_St → Option α), mq_cl (zf_X11_copy N y (nI (10 * ra)) (nI (10 * rb)) (mq_pull S [] [a, b] [])) (fun _ q => mq_nS (mq_push S q [] [a, b] []) K) = K (mq_sa S b l)) ∧ ∀ r2 g, g < 320 → ib l r2 g = if r2 = rb then ib (S.2.1 a) ra g else ib (S.2.1 b) r2 g := by
  obtain ⟨l, a1, a2, a3⟩ := rf_cp (N := N) (S := S) (a := a) (b := b) (ra := ra) (rb := rb) (R := RA) (R' := RB) (y := y) hN hab hy0 hy1 hRA hRB h1 h2
  refine ⟨l, fun α K => ?_, a3⟩
  rw [a1, mq_cl_s, a2, nS_e]
theorem ibo {w : Nat → Int32} {Y : Nat → Bool} {g f : Nat} (h : ∀ g, g < 320 → ib w 0 g = Y g) (hg : g < 320) : (ib w 0 g || decide ((0 : Nat) = 0 ∧ g = f)) = (Y g || decide (g = f)) := by
  rw [h g hg]; congr 1; rw [decide_eq_decide]; exact ⟨fun q => q.2, fun q => ⟨rfl, q⟩⟩
theorem n10 (a : Nat) : (10 : Int32) * nI a = nI (10 * a) := by rw [show (10 : Int32) = nI 10 from rfl, pk_mul]
theorem nI_3p (a : Nat) : nI (3 * a) + 3 = nI (3 * (a + 1)) := nI_add (3 * a) 3
section STEP
variable {k88 : Int32 → Int32 → Int32 → Int32 → mq_St → Option (Int32 × mq_St)} {v2 v4 : Int32}
theorem rv_337 (hN : 400 ≤ N) (hc : cxR S n so on tw d) (hf : f < n) {s : Nat} (hs : so f = nI s) (hv : vR S X H) (v3 : Int32) :
    (s = 4 → ∃ S', ag [] [17, 31, 37] [] S S' ∧ vR S' (fun g => (X g || decide (g = p1 on f)) || decide (g = p1 tw f)) H ∧ zf_X11_verify_337 N z k88 v2 v3 v4 (nI (3 * i)) 1 (nI f) S = k88 v2 v3 v4 (nI (3 * (i + 1))) S') ∧
    (5 ≤ s → s ≤ 6 → ∀ r : Int32, r ≠ 4 → r ≠ 1 → ∃ S', ag [] [17, 31, 37] [] S S' ∧ vR S' (fun g => X g || decide (g = p1 on f)) H ∧ zf_X11_verify_337 N z k88 v2 v3 v4 (nI (3 * i)) r (nI f) S = k88 v2 v3 v4 (nI (3 * (i + 1))) S') ∧
    (s = 7 → ∃ S', ag [] [17, 31, 37] [] S S' ∧ vR S' (sta n so X (p1 on f)) H ∧ zf_X11_verify_337 N z k88 v2 v3 v4 (nI (3 * i)) 4 (nI f) S = k88 v2 v3 v4 (nI (3 * (i + 1))) S') := by
  have h3 : n ≤ 300 := hc.2.2.2.2.1
  have i1 : vp_in (nI f) 300 := vp_in_nI (by omega) (by omega)
  have cl : (nI f).toNatClampNeg = f := nI_clamp (by omega)
  refine ⟨fun h4 => ?_, fun h5 h6 r hr4 hr1 => ?_, fun h7 => ?_⟩
  · obtain ⟨w1, w2, w3, -⟩ := fw_1 hc.2.2.2 hf hs (by omega) (by omega)
    obtain ⟨w3, w4⟩ := w3 (by omega)
    obtain ⟨l, a1, a2⟩ := rv_put (N := N) (S := S) (k := 17) (r := 0) (f := p1 on f) (R := 1) (y := fun k => [10].getD k 0) rfl (by omega) (by omega) (by omega)
    have b2 : ∀ g, g < 320 → ib l 0 g = (X g || decide (g = p1 on f)) := fun g hg => (a2 0 g hg).trans (ibo hv.1 hg)
    obtain ⟨l', c1, c2⟩ := rv_put (N := N) (S := mq_sa S 17 l) (k := 17) (r := 0) (f := p1 tw f) (R := 1) (y := fun k => [10].getD k 0) rfl (by omega) (by omega) (by omega)
    have c3 : ∀ g, g < 320 → ib l' 0 g = ((X g || decide (g = p1 on f)) || decide (g = p1 tw f)) := fun g hg => (c2 0 g hg).trans (ibo (w := l) b2 hg)
    refine ⟨mq_sa (mq_sa S 17 l) 17 l', ag_tr (ag_sa (by decide)) (ag_sa (by decide)), ⟨c3, hv.2⟩, ?_⟩
    unfold zf_X11_verify_337 zf_X11_verify_401
    rw [if_neg (by decide), mq_ck_of i1, cl, (hc.2.1 f hf).2.1, w2, show (0 : Int32) = nI (10 * 0) from rfl, a1, if_pos rfl, mq_ck_of i1, show (mq_sa S 17 l).2.1 4 f = nI (p1 tw f) from (hc.2.1 f hf).2.2.trans w4, c1, nI_3p, nI_e]
  · obtain ⟨w1, w2, -, -⟩ := fw_1 hc.2.2.2 hf hs (by omega) (by omega)
    obtain ⟨l, a1, a2⟩ := rv_put (N := N) (S := S) (k := 17) (r := 0) (f := p1 on f) (R := 1) (y := fun k => [10].getD k 0) rfl (by omega) (by omega) (by omega)
    have b2 : ∀ g, g < 320 → ib l 0 g = (X g || decide (g = p1 on f)) := fun g hg => (a2 0 g hg).trans (ibo hv.1 hg)
    refine ⟨mq_sa S 17 l, ag_sa (by decide), ⟨b2, hv.2⟩, ?_⟩
    unfold zf_X11_verify_337 zf_X11_verify_401
    rw [if_neg hr4, mq_ck_of i1, cl, (hc.2.1 f hf).2.1, w2, show (0 : Int32) = nI (10 * 0) from rfl, a1, if_neg hr1, nI_3p, nI_e]
  · obtain ⟨a, a1, a2⟩ := rf_mks (N := N) (z := z) (S := S) hc hN hf (hs.trans (by rw [h7]))
    obtain ⟨l, b1, b2⟩ := rv_copy (N := N) (S := mq_sa S 31 a) (a := 31) (b := 17) (ra := 0) (rb := 0) (RA := 1) (RB := 1) (y := fun k => [10, 10].getD k 0) (by omega) (by decide) rfl rfl (by omega) (by omega) (by omega) (by omega)
    refine ⟨mq_sa (mq_sa S 31 a) 17 l, ag_tr (ag_sa (by decide)) (ag_sa (by decide)), ⟨fun g hg => ?_, hv.2⟩, ?_⟩
    · show ib l 0 g = _
      rw [b2 0 g hg, if_pos rfl]
      show ib a 0 g = _
      rw [a2 g hg]
      unfold sta
      rw [hv.1 g hg]
    · unfold zf_X11_verify_337 zf_X11_verify_401
      rw [if_pos rfl, a1, mq_cl_s, show (0 : Int32) = nI (10 * 0) from rfl, b1, nI_3p, nI_e]
theorem rv_289 (hN : 400 ≤ N) (hc : cxR S n so on tw d) (hf : f < n) (hs : so f = nI 5) (hv : vR S X H) (hH : H.length < 1334) : ∃ S', ag [] [17, 31, 37] [] S S' ∧ vR S' (fun g => X g || decide (g = p1 on f)) ((fun g => X g || decide (g = p1 tw f)) :: H) ∧ zf_X11_verify_289 N z k88 v2 (nI H.length) v4 (nI (3 * i)) 3 (nI f) (nI 5) 5 S = k88 v2 (nI (H.length + 1)) v4 (nI (3 * (i + 1))) S' := by
  have h3 : n ≤ 300 := hc.2.2.2.2.1
  have i1 : vp_in (nI f) 300 := vp_in_nI (by omega) (by omega)
  have cl : (nI f).toNatClampNeg = f := nI_clamp (by omega)
  obtain ⟨w1, w2, w3, -⟩ := fw_1 hc.2.2.2 hf hs (by omega) (by omega)
  obtain ⟨w3, w4⟩ := w3 (by omega)
  obtain ⟨l, a1, a2⟩ := rv_copy (N := N) (S := S) (a := 17) (b := 37) (ra := 0) (rb := H.length) (RA := 1) (RB := 1334) (y := fun k => [10, 13340].getD k 0) (by omega) (by decide) rfl rfl (by omega) (by omega) (by omega) hH
  obtain ⟨l', c1, c2⟩ := rv_put (N := N) (S := mq_sa S 37 l) (k := 37) (r := H.length) (f := p1 tw f) (R := 1334) (y := fun k => [13340].getD k 0) rfl (by omega) hH (by omega)
  have vv : vR (mq_sa (mq_sa S 37 l) 37 l') X ((fun g => X g || decide (g = p1 tw f)) :: H) := ⟨hv.1, fun g hg => by
    show ib l' H.length g = _
    rw [c2 _ g hg]
    show (ib l H.length g || _) = _
    rw [a2 _ g hg, if_pos rfl, hv.1 g hg]
    congr 1; rw [decide_eq_decide]; exact ⟨fun q => q.2, fun q => ⟨rfl, q⟩⟩, hl_c H (fun r g hr hg => by
    show ib l' r g = _
    rw [c2 _ g hg]
    show (ib l r g || _) = _
    rw [a2 _ g hg, if_neg (by omega), decide_eq_false (by omega), Bool.or_false]) hv.2⟩
  obtain ⟨S', b1, b2, b3⟩ := (rv_337 (N := N) (z := z) (k88 := k88) (v2 := v2) (v4 := v4) (i := i) (S := mq_sa (mq_sa S 37 l) 37 l') hN (cxR_c hc rfl rfl rfl rfl) hf hs vv (nI (H.length + 1))).2.1 (by omega) (by omega) 3 (by decide) (by decide)
  refine ⟨S', ag_tr (ag_tr (ag_sa (by decide)) (ag_sa (by decide))) b1, b2, ?_⟩
  unfold zf_X11_verify_289
  rw [if_pos (show nI 5 = 5 from rfl), if_pos rfl, n10, show (0 : Int32) = nI (10 * 0) from rfl, a1, mq_ck_of i1, cl, show (mq_sa S 37 l).2.1 4 f = nI (p1 tw f) from (hc.2.1 f hf).2.2.trans w4, c1, nI_1, nI_e]
  exact b3
end STEP
theorem rv_88 (hN : 400 ≤ N) (hL : 3 * L ≤ 4000) (hg : ∀ j, gb j < 256) : ∀ (fu k i : Nat) (X : Nat → Bool) (H : List (Nat → Bool)) (S : mq_St), i + k = L → k < fu → H.length ≤ i → cxR S n so on tw d → (∀ j, j < 3 * L → S.2.1 0 j &&& 255 = nI (gb j)) → vR S X H → ∃ S', ag [] [17, 31, 37] [] S S' ∧ zf_X11_verify_88 N z fu (nI (3 * L)) (nI H.length) 1 (nI (3 * i)) S = some (bo (vA n so on tw d gb k i X H), S')
  | 0, k, i, X, H, S, _, h, _, _, _, _ => by omega
  | fu + 1, 0, i, X, H, S, hi, _, _, hc, hb, hv => by
    refine ⟨S, ag_rf, ?_⟩
    show zf_X11_verify_88b N z _ (nI (3 * L)) (nI H.length) 1 (nI (3 * i)) S = some (0, S)
    unfold zf_X11_verify_88b
    rw [if_pos (nI_le (by omega) (by omega)), if_neg (by decide)]
  | fu + 1, k + 1, i, X, H, S, hi, hfu, hH, hc, hb, hv => by
    have h3 : n ≤ 300 := hc.2.2.2.2.1
    show ∃ S', _ ∧ zf_X11_verify_88b N z (fun v2 v3 v4 v5 S => zf_X11_verify_88 N z fu v2 v3 v4 v5 S) (nI (3 * L)) (nI H.length) 1 (nI (3 * i)) S = some (bo (if gF gb i < n ∧ X (gF gb i) = true then _ else false), S')
    have go := fun X' H' S' (h1 : H'.length ≤ i + 1) (ha : ag [] [17, 31, 37] [] S S') (hv' : vR S' X' H') => rv_88 hN hL hg fu k (i + 1) X' H' S' (by omega) (by omega) h1 (cxR_c hc (ha.1 _ (by decide)) (ha.2.1 _ (by decide)) (ha.2.1 _ (by decide)) (ha.2.1 _ (by decide))) (fun j hj => by rw [ha.2.1 0 (by decide)]; exact hb j hj) hv'
    unfold zf_X11_verify_88b
    have hb0 := hb (3 * i) (by omega)
    have hb1 := hb (3 * i + 1) (by omega)
    have hb2 := hb (3 * i + 2) (by omega)
    rw [if_neg (nI_ge (show 3 * i < 3 * L by omega) (by omega)), mq_ck_of (vp_in_nI (by omega) (by omega)), nI_clamp (show 3 * i < 2147483648 by omega), hb0, nI_e, nI_1, nI_2p, mq_ck_of (vp_in_nI (by omega) (by omega)), mq_ck_of (vp_in_nI (by omega) (by omega)), nI_clamp (show 3 * i + 1 < 2147483648 by omega), nI_clamp (show 3 * i + 2 < 2147483648 by omega), hb1, hb2, e_sh8 (hg _) (hg _), nI_e, if_neg (show ¬ (1 : Int32) = 0 by decide)]
    have h65 : gF gb i < 65536 := by have := hg (3 * i + 1); have := hg (3 * i + 2); unfold gF; omega
    rw [show 256 * gb (3 * i + 1) + gb (3 * i + 2) = gF gb i from rfl]
    have hgr := hg (3 * i)
    clear hb0 hb1 hb2
    generalize gF gb i = f at *
    generalize gb (3 * i) = r at *
    rw [rf_isF _ hc.1 h3, mq_cp_s]
    by_cases hn : f < n
    · rw [if_neg (show ¬ (nI f < 0 ∨ nI n ≤ nI f) from fun q => q.elim (nI_pos (by omega)) (nI_ge hn (by omega))), if_neg (show ¬ (1 : Int32) = 0 by decide)]
      have i1 : vp_in (nI f) 300 := vp_in_nI (by omega) (by omega)
      have cl : (nI f).toNatClampNeg = f := nI_clamp (by omega)
      have e5 : zf_X11_isIn N (fun k => [10].getD k 0) 0 (nI f) (mq_pull S [] [17] []) = some (if X f = true then 1 else 0) := by
        rw [← hv.1 _ (show f < 320 by omega)]
        exact ri_in (N := N) (R := 1) (z := fun k => [10].getD k 0) (S := mq_pull S [] [17] []) (r := 0) (f := f) rfl (by omega) (by omega) (by omega)
      rw [e5, mq_cp_s]
      by_cases hX : X f = true
      · rw [if_pos hX, if_neg (show ¬ (1 : Int32) = 0 by decide), if_pos (show f < n ∧ X f = true from ⟨hn, hX⟩)]
        by_cases r0 : r = 0
        · subst r0
          rw [if_pos (show nI 0 = 0 from rfl), if_pos (show (0 : Nat) = 0 from rfl)]
          have cls : ∃ S', ag [] [17, 31, 37] [] S S' ∧ zf_X11_verify_201 N z (fun v2 v3 v4 v5 S => zf_X11_verify_88 N z fu v2 v3 v4 v5 S) (nI (3 * L)) (nI H.length) (nI (3 * i)) S = some (bo (match (generalizing := false) H with | [] => decide (k = 0) | Y :: H' => vA n so on tw d gb k (i + 1) Y H'), S') := by
            unfold zf_X11_verify_201 zf_X11_verify_210 zf_X11_verify_401
            cases H with
            | nil =>
              refine ⟨S, ag_rf, ?_⟩
              rw [if_pos (show nI ([] : List (Nat → Bool)).length ≤ 0 by decide), nI_e, if_pos rfl, nI_3p, nI_e]
              obtain ⟨fu', rfl⟩ : ∃ f', fu = f' + 1 := ⟨fu - 1, by omega⟩
              show zf_X11_verify_88b N z _ (nI (3 * L)) _ 0 (nI (3 * (i + 1))) S = _
              unfold zf_X11_verify_88b
              by_cases e : k = 0
              · rw [if_pos (nI_le (by omega) (by omega)), if_pos rfl, e]; rfl
              · rw [if_neg (nI_ge (show 3 * (i + 1) < 3 * L by omega) (by omega)), mq_ck_of (vp_in_nI (by omega) (by omega)), nI_e, nI_1, nI_2p, mq_ck_of (vp_in_nI (by omega) (by omega)), mq_ck_of (vp_in_nI (by omega) (by omega)), nI_e, if_pos rfl, decide_eq_false e]; rfl
            | cons Y H' =>
              have hi' : H'.length + 1 ≤ i := hH
              rw [if_neg (show ¬ nI (Y :: H').length ≤ 0 from nI_nle (n := H'.length + 1) (by omega) (by omega)), nI_e, if_neg (show ¬ (1 : Int32) = 0 by decide), show nI (Y :: H').length + -1 = nI H'.length from sp_ne (a := H'.length + 1) (b := 1) (by omega), nI_e, n10]
              obtain ⟨l, a1, a2⟩ := rv_copy (N := N) (S := S) (a := 37) (b := 17) (ra := H'.length) (rb := 0) (RA := 1334) (RB := 1) (y := fun k => [13340, 10].getD k 0) (by omega) (by decide) rfl rfl (by omega) (by omega) (by omega) (by omega)
              rw [show (0 : Int32) = nI (10 * 0) from rfl, a1, nI_3p, nI_e]
              obtain ⟨S', b1, b2⟩ := go Y H' (mq_sa S 17 l) (by omega) (ag_sa (by decide)) ⟨fun g hg => by
                show ib l 0 g = _
                rw [a2 0 g hg, if_pos rfl]; exact hv.2.1 g hg, hv.2.2⟩
              exact ⟨S', ag_tr (ag_sa (by decide)) b1, b2⟩
          by_cases q1 : nI f = 1
          · have f1 : f = 1 := sp_inj (b := 1) q1 (by omega) (by omega)
            have s1 : so f = nI 1 := by rw [f1]; exact hc.2.2.1.2
            rw [if_pos q1, if_pos (show so f = nI 1 ∨ (so f = nI 2 ∧ X (d f) = true) from Or.inl s1)]
            exact cls
          · have s1 : ¬ so f = nI 1 := fun q => q1 (by rw [(fw_let hc.2.2.2 hn).2.2 q]; rfl)
            rw [if_neg q1, mq_ck_of i1, cl, (hc.2.1 f hn).1]
            by_cases q2 : so f = nI 2
            · have hd : d f < 320 := by have := hc.2.2.2.2.2.2.1 f hn; omega
              rw [if_pos (show so f = 2 from q2), rs_opp (by omega) hc hn q2, mq_cp_s, hv.1 _ hd]
              by_cases q3 : X (d f) = true
              · rw [if_pos q3, if_neg (show ¬ (1 : Int32) = 0 by decide), if_pos (show so f = nI 1 ∨ (so f = nI 2 ∧ X (d f) = true) from Or.inr ⟨q2, q3⟩)]
                exact cls
              · rw [if_neg q3, if_pos rfl, if_neg (show ¬ (so f = nI 1 ∨ (so f = nI 2 ∧ X (d f) = true)) from fun q => q.elim s1 (fun q => q3 q.2))]
                exact ⟨S, ag_rf, rfl⟩
            · rw [if_neg (show ¬ so f = 2 from q2), if_neg (show ¬ (so f = nI 1 ∨ (so f = nI 2 ∧ X (d f) = true)) from fun q => q.elim s1 (fun q => q2 q.1))]
              exact ⟨S, ag_rf, rfl⟩
        · rw [if_neg (show ¬ nI r = 0 from fun q => r0 (sp_inj (b := 0) q (by omega) (by omega))), if_neg r0, rf_in, mq_cp_s]
          by_cases r5 : r < 5
          · rw [if_neg (show ¬ (nI r < 1 ∨ 4 < nI r) from fun q => q.elim (fun a => (sp_ltF (a := r) (b := 1) (by omega) (by omega)).mp a) (fun a => (sp_ltF (a := 4) (b := r) (by omega) (by omega)).mp a)), if_neg (show ¬ (1 : Int32) = 0 by decide), mq_ck_of i1, cl, (hc.2.1 f hn).1]
            have no : ∀ (s : Nat) (r' : Int32) (v3 : Int32), so f ≠ nI s → zf_X11_verify_289 N z (fun v2 v3 v4 v5 S => zf_X11_verify_88 N z fu v2 v3 v4 v5 S) (nI (3 * L)) v3 1 (nI (3 * i)) r' (nI f) (so f) (nI s) S = some (0, S) := fun s r' v3 hs => by
              unfold zf_X11_verify_289
              rw [if_neg hs]
            have yes : ∀ (s : Nat) (r' : Int32) (v3 : Int32), so f = nI s → r' ≠ 3 → zf_X11_verify_289 N z (fun v2 v3 v4 v5 S => zf_X11_verify_88 N z fu v2 v3 v4 v5 S) (nI (3 * L)) v3 1 (nI (3 * i)) r' (nI f) (so f) (nI s) S = zf_X11_verify_337 N z (fun v2 v3 v4 v5 S => zf_X11_verify_88 N z fu v2 v3 v4 v5 S) (nI (3 * L)) v3 1 (nI (3 * i)) r' (nI f) S := fun s r' v3 hs hr => by
              unfold zf_X11_verify_289
              rw [if_pos hs, if_neg hr]
            have st := fun s (hs : so f = nI s) => rv_337 (N := N) (z := z) (k88 := fun v2 v3 v4 v5 S => zf_X11_verify_88 N z fu v2 v3 v4 v5 S) (v2 := nI (3 * L)) (v4 := 1) (i := i) hN hc hn (s := s) hs hv (nI H.length)
            by_cases r1 : r = 1
            · subst r1
              rw [if_pos (show nI 1 = 1 from rfl), if_pos (show (1 : Nat) = 1 from rfl)]
              by_cases q : so f = nI 4
              · obtain ⟨S1, a1, a2, a3⟩ := (st 4 q).1 rfl
                obtain ⟨S', b1, b2⟩ := go _ H S1 (by omega) a1 a2
                rw [if_pos q]
                exact ⟨S', ag_tr a1 b1, (yes 4 1 _ q (by decide)).trans (a3.trans b2)⟩
              · rw [if_neg q]
                exact ⟨S, ag_rf, no 4 1 _ q⟩
            · rw [if_neg (show ¬ nI r = 1 from fun q => r1 (sp_inj (b := 1) q (by omega) (by omega))), if_neg r1]
              by_cases r2 : r = 2
              · subst r2
                rw [if_pos (show nI 2 = 2 from rfl), if_pos (show (2 : Nat) = 2 from rfl)]
                by_cases q : so f = nI 6
                · obtain ⟨S1, a1, a2, a3⟩ := (st 6 q).2.1 (by omega) (by omega) 2 (by decide) (by decide)
                  obtain ⟨S', b1, b2⟩ := go _ H S1 (by omega) a1 a2
                  rw [if_pos q]
                  exact ⟨S', ag_tr a1 b1, (yes 6 2 _ q (by decide)).trans (a3.trans b2)⟩
                · rw [if_neg q]
                  exact ⟨S, ag_rf, no 6 2 _ q⟩
              · rw [if_neg (show ¬ nI r = 2 from fun q => r2 (sp_inj (b := 2) q (by omega) (by omega))), if_neg r2]
                by_cases r3 : r = 3
                · subst r3
                  rw [if_pos (show nI 3 = 3 from rfl), if_pos (show (3 : Nat) = 3 from rfl)]
                  by_cases q : so f = nI 5
                  · obtain ⟨S1, a1, a2, a3⟩ := rv_289 (N := N) (z := z) (k88 := fun v2 v3 v4 v5 S => zf_X11_verify_88 N z fu v2 v3 v4 v5 S) (v2 := nI (3 * L)) (v4 := 1) (i := i) hN hc hn q hv (by omega)
                    obtain ⟨S', b1, b2⟩ := go _ _ S1 (by simp only [List.length_cons]; omega) a1 a2
                    rw [if_pos q, q]
                    exact ⟨S', ag_tr a1 b1, a3.trans b2⟩
                  · rw [if_neg q]
                    exact ⟨S, ag_rf, no 5 3 _ q⟩
                · have r4 : r = 4 := by omega
                  subst r4
                  rw [if_neg (show ¬ nI 4 = 3 by decide), if_neg (show ¬ (4 : Nat) = 3 by decide), if_pos (show (4 : Nat) = 4 from rfl)]
                  by_cases q : so f = nI 7
                  · obtain ⟨S1, a1, a2, a3⟩ := (st 7 q).2.2 rfl
                    obtain ⟨S', b1, b2⟩ := go _ H S1 (by omega) a1 a2
                    rw [if_pos q]
                    exact ⟨S', ag_tr a1 b1, (yes 7 4 _ q (by decide)).trans (a3.trans b2)⟩
                  · rw [if_neg q]
                    exact ⟨S, ag_rf, no 7 4 _ q⟩
          · rw [if_pos (show nI r < 1 ∨ 4 < nI r from Or.inr (nI_lt (a := 4) (by omega) (by omega))), if_pos rfl, if_neg (by omega), if_neg (by omega), if_neg (by omega), if_neg (by omega)]
            exact ⟨S, ag_rf, rfl⟩
      · rw [if_neg hX, if_pos rfl, if_neg (show ¬ (f < n ∧ X f = true) from fun q => hX q.2)]
        exact ⟨S, ag_rf, rfl⟩
    · rw [if_pos (show nI f < 0 ∨ nI n ≤ nI f from Or.inr (nI_le (by omega) (by omega))), if_pos rfl, if_neg (show ¬ (f < n ∧ X f = true) from fun q => hn q.1)]
      exact ⟨S, ag_rf, rfl⟩
end VERR
