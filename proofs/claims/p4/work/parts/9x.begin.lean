/-! The tableau: a new world. -/
section BEGIN
variable {N n F : Nat} {z : Nat → Nat} {so on tw : Nat → Int32} {d : Nat → Nat} {S T SC SR : mq_St} {st W w ec ln wt m f p : Nat} {R P : List Nat}
/-- a START clashes by F alone -/
theorem cl_sta {X : Nat → Bool} (hfw : fw n so on tw d) (h01 : so 0 = 0 ∧ so 1 = 1) (hX : ∀ g, g < 320 → X g = true → so g = nI 6 ∨ g = p) : clV n so d X (if X 1 = true then 1 else -1) := by
  have h300 := hfw.2.1
  have h2 := hfw.1
  have key : ∀ c, c < n → cls so d X c → c = 1 ∧ X 1 = true := fun c hc q => by
    obtain ⟨f2, f3, f1⟩ := fw_let hfw hc
    rcases q with ⟨q1, q2⟩ | ⟨q1, q2, q3⟩
    · have := f1 q1; subst this; exact ⟨rfl, q2⟩
    · exfalso
      obtain ⟨g1, g2, -, -⟩ := f2 q1
      rcases hX c (by omega) q2 with a | a
      · rw [q1] at a; exact absurd a (by decide)
      · rcases hX (d c) (by omega) q3 with b | b
        · rw [g2] at b; exact absurd b (by decide)
        · rw [b, ← a, q1] at g2; exact absurd g2 (by decide)
  cases e : X 1 with
  | true =>
    refine Or.inr ⟨1, by omega, rfl, Or.inl ⟨h01.2, e⟩, fun c' hc' q => ?_⟩
    have := (key c' (by omega) q).1
    omega
  | false =>
    refine Or.inl ⟨rfl, fun c hc q => ?_⟩
    have := (key c hc q).2
    rw [e] at this; cases this
def bgC (S : mq_St) (W : Nat) (v1 v2 c : Int32) (q3 q4 : Nat → Int64) : mq_St := mq_si (mq_sl (mq_sa (mq_sa (mq_sa (mq_sl (mq_sl (mq_sa (mq_si (mq_si S 16 (nI W)) 15 (nI (W + 1))) 21 (upd (upd (S.2.1 21) 1 (S.2.1 21 1 + 1)) 3 (mq_max (S.2.1 21 3) v2))) 3 q3) 4 q4) 16 (upd (S.2.1 16) W v1)) 17 (upd (S.2.1 17) W v2)) 18 (upd (S.2.1 18) W (S.1 14))) 1 (vp_updL (S.2.2 1) W 0)) 17 c
def bgR (S : mq_St) (W : Nat) (v1 v2 : Int32) (q : Nat → Int32) : mq_St := mq_si (mq_sa (mq_si (mq_sa (mq_sa (mq_si (mq_si S 24 (nI (W + 1))) 20 (S.1 20 + 1)) 20 (upd (S.2.1 20) W v1)) 21 (upd (S.2.1 21) W v2)) 22 (mq_max (S.1 22) v2)) 18 q) 25 (nI W)
def bgK (N : Nat) (z : Nat → Nat) (v1 v2 : Int32) (S8 : mq_St) : Option (Unit × mq_St) := (mq_cl (zf_X6_copy N (fun k => [300, 305].getD k 0) ((S8.1 16)) ((S8.1 16)) (mq_pull S8 [] [] [3, 2])) (fun q9v q9s => mq_nS (mq_push S8 q9s [] [] [3, 2]) (fun S11 => (mq_cl (zf_X6_copy N (fun k => [300, 305].getD k 0) ((S11.1 16)) ((S11.1 16)) (mq_pull S11 [] [] [4, 2])) (fun q12v q12s => mq_nS (mq_push S11 q12s [] [] [4, 2]) (fun S14 => (mq_ck ((S14.1 16)) 60 (mq_nS (mq_sa S14 16 (upd (S14.2.1 16) ((S14.1 16)).toNatClampNeg (v1))) (fun S16 => (mq_ck ((S16.1 16)) 60 (mq_nS (mq_sa S16 17 (upd (S16.2.1 17) ((S16.1 16)).toNatClampNeg (v2))) (fun S18 => (mq_ck ((S18.1 16)) 60 (mq_nS (mq_sa S18 18 (upd (S18.2.1 18) ((S18.1 16)).toNatClampNeg ((S18.1 14)))) (fun S20 => (mq_ck ((S20.1 16)) 60 (mq_nS (mq_sl S20 1 (vp_updL (S20.2.2 1) ((S20.1 16)).toNatClampNeg ((0 : Int64)))) (fun S22 => (mq_cp (zf_X6_has N (fun k => [300].getD k 0) ((S22.1 16)) ((1 : Int32)) (mq_pull S22 [] [] [3])) (fun q23 => (if q23 = (0 : Int32) then (zf_X8_beginWorld_146 N z ((-1 : Int32)) S22) else (zf_X8_beginWorld_146 N z ((1 : Int32)) S22))))))))))))))))))))))
theorem ck_bgw {v1 v2 : Int32} (hN : 10 ≤ N) (hW : W < 60) (h15 : S.1 15 = nI W) : ∃ q3 q4, zf_X8_beginWorld N z v1 v2 S = some ((), bgC S W v1 v2 (if lb q3 W 1 = true then 1 else -1) q3 q4) ∧ (∀ v g, g < 320 → lb q3 v g = if v = W then lb (S.2.2 2) W g else lb (S.2.2 3) v g) ∧ ∀ v g, g < 320 → lb q4 v g = if v = W then lb (S.2.2 2) W g else lb (S.2.2 4) v g := by
  have i1 : vp_in (nI W) 60 := vp_in_nI hW (by omega)
  have c1 : (nI W).toNatClampNeg = W := nI_clamp (by omega)
  have j1 : vp_in (1 : Int32) 4 := vp_in_nI (n := 1) (by omega) (by omega)
  have j3 : vp_in (3 : Int32) 4 := vp_in_nI (n := 3) (by omega) (by omega)
  obtain ⟨q3, a1, a2, a3⟩ := ck_cp (N := N) (S := mq_sa (mq_si (mq_si S 16 (nI W)) 15 (nI (W + 1))) 21 (upd (upd (S.2.1 21) 1 (S.2.1 21 1 + 1)) 3 (mq_max (S.2.1 21 3) v2))) (a := 3) (b := 2) (ra := W) (rb := W) (RA := 60) (RB := 61) (y := fun k => [300, 305].getD k 0) hN (by decide) rfl rfl (by omega) (by omega) hW (by omega)
  obtain ⟨q4, b1, b2, b3⟩ := ck_cp (N := N) (S := mq_sl (mq_sa (mq_si (mq_si S 16 (nI W)) 15 (nI (W + 1))) 21 (upd (upd (S.2.1 21) 1 (S.2.1 21 1 + 1)) 3 (mq_max (S.2.1 21 3) v2))) 3 q3) (a := 4) (b := 2) (ra := W) (rb := W) (RA := 60) (RB := 61) (y := fun k => [300, 305].getD k 0) hN (by decide) rfl rfl (by omega) (by omega) hW (by omega)
  refine ⟨q3, q4, ?_, a3, b3⟩
  have pre : zf_X8_beginWorld N z v1 v2 S = bgK N z v1 v2 (mq_sa (mq_si (mq_si S 16 (nI W)) 15 (nI (W + 1))) 21 (upd (upd (S.2.1 21) 1 (S.2.1 21 1 + 1)) 3 (mq_max (S.2.1 21 3) v2))) := by
    unfold zf_X8_beginWorld
    rw [h15, nS_e, show (mq_si S 16 (nI W)).1 15 = nI W from h15, nI_1, nS_e, mq_ck_of j1, mq_ck_of j1, nS_e, mq_ck_of j3, mq_ck_of j3, nS_e]
    exact congrArg (bgK N z v1 v2) (sa_sa (mq_si (mq_si S 16 (nI W)) 15 (nI (W + 1))) 21 _ _)
  rw [pre]
  unfold bgK
  refine (cl_go a1).trans ?_
  rw [a2, nS_e]
  refine (cl_go b1).trans ?_
  rw [b2, nS_e]
  have y (Q : mq_St) (h : Q.1 16 = nI W) : Q.1 16 = nI W := h
  rw [y _ rfl, mq_ck_of i1, c1, nS_e, y _ rfl, mq_ck_of i1, c1, nS_e, y _ rfl, mq_ck_of i1, c1, nS_e, y _ rfl, mq_ck_of i1, c1, nS_e]
  have hh := ck_set (N := N) (f := 1) (S := mq_sl (mq_sa (mq_sa (mq_sa (mq_sl (mq_sl (mq_sa (mq_si (mq_si S 16 (nI W)) 15 (nI (W + 1))) 21 (upd (upd (S.2.1 21) 1 (S.2.1 21 1 + 1)) 3 (mq_max (S.2.1 21 3) v2))) 3 q3) 4 q4) 16 (upd (S.2.1 16) W v1)) 17 (upd (S.2.1 17) W v2)) 18 (upd (S.2.1 18) W (S.1 14))) 1 (vp_updL (S.2.2 1) W 0)) hW rfl (by omega)
  refine (cp_go hh).trans ?_
  show (if (if lb q3 W 1 = true then (1 : Int32) else 0) = 0 then _ else _) = some ((), bgC S W v1 v2 (if lb q3 W 1 = true then 1 else -1) q3 q4)
  cases e : lb q3 W 1 with
  | true => rfl
  | false => rfl
theorem rf_bgw {v1 v2 : Int32} (hN : 20 ≤ N) (hW : W < 60) (h24 : S.1 24 = nI W) (hv : (v1 = -1 ∧ v2 = 1) ∨ ∃ u, u < W ∧ v1 = nI u ∧ v2 = S.2.1 21 u + 1) : ∃ q, zf_X11_begins N z v1 S = some ((), bgR S W v1 v2 q) ∧ ∀ v g, g < 320 → ib q v g = if v = W then ib (S.2.1 17) 0 g else ib (S.2.1 18) v g := by
  have i1 : vp_in (nI W) 60 := vp_in_nI hW (by omega)
  have c1 : (nI W).toNatClampNeg = W := nI_clamp (by omega)
  have e10 : (10 : Int32) * nI W = nI (10 * W) := pk_mul 10 W
  obtain ⟨q, a1, a2, a3⟩ := rf_cp (N := N) (S := mq_si (mq_sa (mq_sa (mq_si (mq_si S 24 (nI (W + 1))) 20 (S.1 20 + 1)) 20 (upd (S.2.1 20) W v1)) 21 (upd (S.2.1 21) W v2)) 22 (mq_max (S.1 22) v2)) (a := 17) (b := 18) (ra := 0) (rb := W) (R := 1) (R' := 60) (y := fun k => [10, 600].getD k 0) hN (by decide) rfl rfl (by omega) (by omega) (by omega) hW
  refine ⟨q, ?_, a3⟩
  have fin : zf_X11_begins_82 N z (nI W) (mq_max (S.1 22) v2) (mq_sa (mq_sa (mq_si (mq_si S 24 (nI (W + 1))) 20 (S.1 20 + 1)) 20 (upd (S.2.1 20) W v1)) 21 (upd (S.2.1 21) W v2)) = some ((), bgR S W v1 v2 q) := by
    unfold zf_X11_begins_82
    rw [nS_e, e10]
    refine (cl_go a1).trans ?_
    rw [a2, nS_e, nS_e]
    rfl
  have mid : zf_X11_begins_54 N z (nI W) (nI W) v2 (mq_sa (mq_si (mq_si S 24 (nI (W + 1))) 20 (S.1 20 + 1)) 20 (upd (S.2.1 20) W v1)) = some ((), bgR S W v1 v2 q) := by
    unfold zf_X11_begins_54
    rw [mq_ck_of i1, c1, nS_e, mq_ck_of i1, mq_ck_of i1]
    have y1 : (mq_sa (mq_sa (mq_si (mq_si S 24 (nI (W + 1))) 20 (S.1 20 + 1)) 20 (upd (S.2.1 20) W v1)) 21 (upd ((mq_sa (mq_si (mq_si S 24 (nI (W + 1))) 20 (S.1 20 + 1)) 20 (upd (S.2.1 20) W v1)).2.1 21) W v2)).2.1 21 W = v2 := up_s _ _ _
    rw [y1]
    by_cases e : v2 ≤ S.1 22
    · refine (if_pos e).trans ?_
      have : mq_max (S.1 22) v2 = S.1 22 := if_neg (fun q => absurd e (Int32.not_le.mpr q))
      rw [this] at fin
      exact fin
    · refine (if_neg e).trans ?_
      have : mq_max (S.1 22) v2 = v2 := if_pos (Int32.not_le.mp e)
      rw [this] at fin
      exact fin
  unfold zf_X11_begins
  rw [h24, nI_e, nI_1, nS_e, nS_e, mq_ck_of i1, c1, nS_e]
  rcases hv with ⟨hv1, hv2⟩ | ⟨u, hu, hv1, hv2⟩
  · subst hv2
    rw [if_pos hv1]
    exact mid
  · rw [if_neg (by rw [hv1]; exact nI_nm (by omega)), mq_ck_of (by rw [hv1]; exact vp_in_nI (by omega) (by omega))]
    have y2 : (mq_sa (mq_si (mq_si S 24 (nI (W + 1))) 20 ((mq_si S 24 (nI (W + 1))).1 20 + 1)) 20 (upd ((mq_si (mq_si S 24 (nI (W + 1))) 20 ((mq_si S 24 (nI (W + 1))).1 20 + 1)).2.1 20) W v1)).2.1 21 v1.toNatClampNeg + 1 = v2 := by
      rw [hv2]
      have : v1.toNatClampNeg = u := by rw [hv1]; exact nI_clamp (by omega)
      rw [this]
      rfl
    rw [y2]
    exact mid
/-- down() may begin with the new world -/
theorem Dn_bg {v1 v2 : Int32} {q3 q4 : Nat → Int64} {q : Nat → Int32} (hfw : fw n so on tw d) (h01 : so 0 = 0 ∧ so 1 = 1) (hb : st ≤ F ∧ F ≤ 100000 ∧ W < 60 ∧ ec ≤ 400 ∧ ln ≤ 1299)
    (n1 : S.1 18 = nI F) (n2 : S.2.1 21 0 = nI st) (n5 : S.1 14 = nI ec) (n6 : S.1 20 = nI ln) (n7 : S.1 19 = 2) (m1 : T.1 18 = nI F) (m2 : T.1 19 = nI st) (m5 : T.1 28 = nI ec) (m6 : T.1 26 = nI ln) (m7 : T.1 23 = 0) (m8 : T.1 27 = nI wt)
    (kk : cnt S T) (q5 : lins S T ln) (q6 : wld S T W) (hrow : ∀ g, g < 320 → ib (T.2.1 17) 0 g = lb (S.2.2 2) W g) (hX : ∀ g, g < 320 → lb (S.2.2 2) W g = true → g < n ∧ (so g = nI 6 ∨ g = p)) (hled : ∀ v, v < W → led S T v) (hwst : ∀ v, v < W → v ∉ P → wst S T v)
    (a3 : ∀ v g, g < 320 → lb q3 v g = if v = W then lb (S.2.2 2) W g else lb (S.2.2 3) v g) (a4 : ∀ v g, g < 320 → lb q4 v g = if v = W then lb (S.2.2 2) W g else lb (S.2.2 4) v g) (aq : ∀ v g, g < 320 → ib q v g = if v = W then ib (T.2.1 17) 0 g else ib (T.2.1 18) v g)
    (hstk : stk n so on tw d (bgC S W v1 v2 (if lb q3 W 1 = true then 1 else -1) q3 q4) (bgR T W v1 v2 q) (W :: P) ec wt ln) :
    Dn n so on tw d F (bgC S W v1 v2 (if lb q3 W 1 = true then 1 else -1) q3 q4) (bgR T W v1 v2 q) st W ec ln wt P := by
  obtain ⟨k1, k2, k3⟩ := kk
  obtain ⟨b1, b2, b3, b4, b5⟩ := hb
  have x3 : ∀ g, g < 320 → lb q3 W g = lb (S.2.2 2) W g := fun g hg => by rw [a3 W g hg, if_pos rfl]
  have x4 : ∀ g, g < 320 → lb q4 W g = lb (S.2.2 2) W g := fun g hg => by rw [a4 W g hg, if_pos rfl]
  refine ⟨⟨b1, b2, by omega, by omega, b4, b5⟩, ⟨n1, n2, rfl, rfl, n5, n6, n7⟩, ⟨m1, m2, rfl, rfl, m5, m6, m7, m8⟩, ⟨congrArg (· + 1) k1, k2, congrArg (fun x => mq_max x v2) k3⟩, q5, fun v hv => ?_, hstk, fun g hg => ?_, fun g hg a => (hX g hg ((x3 g hg).symm.trans a)).1, cl_sta (p := p) hfw h01 (fun g hg a => (hX g hg ((x3 g hg).symm.trans a)).2), ⟨fun g hg a => ?_, fun s g _ _ hg a => ?_⟩, ?_, fun v hv u hu => ?_, fun v hv hP g hg => ?_⟩
  · by_cases e : v = W
    · subst e
      refine ⟨(up_s _ _ _).trans (up_s _ _ _).symm, (up_s _ _ _).trans (up_s _ _ _).symm, fun g hg => ?_⟩
      show _ = ib q v g
      rw [aq v g hg, if_pos rfl, hrow g hg]
      rfl
    · obtain ⟨c1, c2, c3⟩ := q6 v (by omega)
      refine ⟨(up_o e).trans (c1.trans (up_o e).symm), (up_o e).trans (c2.trans (up_o e).symm), fun g hg => ?_⟩
      show _ = ib q v g
      rw [aq v g hg, if_neg e]
      exact c3 g hg
  · show ib (T.2.1 17) 0 g = lb q3 W g
    rw [x3 g hg]; exact hrow g hg
  · show lb q3 W g = true
    rw [x3 g hg]
    exact (x4 g hg).symm.trans a
  · show lb q4 W g = true
    have := hfw.2.1
    rw [x4 g (by omega)]
    exact (x3 g (by omega)).symm.trans a.2.1
  · show vp_updL (S.2.2 1) W 0 W = 0
    unfold vp_updL
    rw [if_pos rfl]
  · show _ = if (vp_updL (S.2.2 1) W 0 v).toBitVec.getLsbD u = true then 1 else 0
    have : vp_updL (S.2.2 1) W 0 v = S.2.2 1 v := by unfold vp_updL; rw [if_neg (by omega)]
    rw [this]
    exact hled v hv u hu
  · show _ = lb q3 v g
    rw [a3 v g hg, if_neg (by omega)]
    exact hwst v hv hP g hg
end BEGIN
