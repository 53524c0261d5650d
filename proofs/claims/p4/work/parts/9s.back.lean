/-! The tableau: a turn that closes a SET and goes back. -/
/-- the rest of closed() at an EITHER that waits -/
def clT (N : Nat) (z : Nat → Nat) (S6 : mq_St) : Option (Int32 × mq_St) := (mq_nS (mq_si S6 28 (((S6.1 28) - (1 : Int32)))) (fun S8 => (mq_cl (zf_X11_copy N (fun k => [4700, 10].getD k 0) (((10 : Int32) * (S8.1 27))) ((0 : Int32)) (mq_pull S8 [] [30, 17] [])) (fun q9v q9s => mq_nS (mq_push S8 q9s [] [30, 17] []) (fun S11 => (mq_cl (zf_X11_step N z S11) (fun q12v S14 => (if q12v = (0 : Int32) then (mq_cz ((0 : Int32)) (some ((0 : Int32), S14))) else (mq_ck ((S14.1 27)) 470 (mq_ck ((S14.2.1 26 ((S14.1 27)).toNatClampNeg)) 300 (mq_cl (zf_X11_put N (fun k => [10].getD k 0) ((0 : Int32)) ((S14.2.1 4 ((S14.2.1 26 ((S14.1 27)).toNatClampNeg)).toNatClampNeg)) (mq_pull S14 [] [17] [])) (fun q17v q17s => mq_nS (mq_push S14 q17s [] [17] []) (fun S19 => (mq_cz ((1 : Int32)) (some ((1 : Int32), S19))))))))))))))))
section BACK
variable {N n F : Nat} {z : Nat → Nat} {so on tw : Nat → Int32} {d : Nat → Nat} {S SC SR : mq_St} {st W w ec ln wt m f : Nat} {R : List Nat}
theorem cz_top {k0 : mq_St → Option (Int32 × mq_St)} {b : Nat} (h : S.1 27 = nI (b + 1)) (hb : b < 470) : zf_X11_closed_zb N z k0 S = if S.2.1 25 b = 0 then k0 (mq_si (mq_si (mq_si S 27 (nI b)) 24 (S.2.1 28 b)) 25 (S.2.1 27 b)) else clT N z (mq_si (mq_si (mq_si S 27 (nI b)) 24 (S.2.1 28 b)) 25 (S.2.1 27 b)) := by
  have i1 : vp_in (nI b) 470 := vp_in_nI hb (by omega)
  have c1 : (nI b).toNatClampNeg = b := nI_clamp (by omega)
  have e1 : nI (b + 1) - 1 = nI b := by rw [show (1 : Int32) = nI 1 from rfl, pk_sub (by omega)]; rfl
  unfold zf_X11_closed_zb
  rw [h, if_neg (show ¬ nI (b + 1) ≤ (0 : Int32) from nI_ge (show 0 < b + 1 by omega) (by omega)), e1, nS_e]
  have x1 : (mq_si S 27 (nI b)).1 27 = nI b := rfl
  rw [x1, mq_ck_of i1, c1, nS_e]
  have x2 : (mq_si (mq_si S 27 (nI b)) 24 ((mq_si S 27 (nI b)).2.1 28 b)).1 27 = nI b := rfl
  rw [x2, mq_ck_of i1, c1, nS_e]
  have x3 : (mq_si (mq_si (mq_si S 27 (nI b)) 24 ((mq_si S 27 (nI b)).2.1 28 b)) 25 ((mq_si (mq_si S 27 (nI b)) 24 ((mq_si S 27 (nI b)).2.1 28 b)).2.1 27 b)).1 27 = nI b := rfl
  rw [x3, mq_ck_of i1, c1]
  rfl
theorem stk_n {SC' SR' : mq_St} {P : List Nat} (hA : SC'.2 = SC.2) (hB : SR'.2 = SR.2) (h : fw n so on tw d) (q : stk n so on tw d SC SR P ec wt ln) : stk n so on tw d SC' SR' P ec wt ln := by
  cases P with
  | nil => exact q
  | cons v R => exact stk_c (SC := SC) (SR := SR) (SC' := SC') (SR' := SR') h R v ec wt ln ln (Nat.le_refl _) (by rw [kpC, hA]; exact ⟨fun _ _ => ⟨rfl, rfl⟩, fun _ _ => ⟨rfl, fun _ _ => ⟨rfl, rfl⟩⟩, fun _ _ => ⟨rfl, fun _ _ => rfl⟩⟩) (by rw [kpR, hB]; exact fun _ _ => ⟨rfl, rfl, rfl, rfl, rfl, fun _ _ => rfl⟩) q
theorem gb_63 (h : S.1 16 = nI w) : zf_X8_goBack_63 N z S = some (1, mq_si S 15 (nI (w + 1))) := by
  unfold zf_X8_goBack_63
  rw [h, nI_1, nS_e, mq_cz_1]
/-- both ways back -/
theorem bk (hfw : fw n so on tw d) : ∀ (R : List Nat) (w wt ln t fu fu' : Nat) (SC SR : mq_St), stk n so on tw d SC SR (w :: R) ec wt ln → SC.1 16 = nI w → SC.1 14 = nI ec → SR.1 27 = nI wt → w < 60 → ec ≤ 400 → t + R.length < 60 → R.length + 1 < fu → R.length + 1 < fu' →
    (∃ SC' SR', zf_X8_goBack_2 N z fu (nI t) SC = some (0, SC') ∧ zf_X11_closed_z N z fu' SR = some (0, SR') ∧ SC'.1 19 = 1 ∧ ag [16, 19] [] [] SC SC' ∧ ag [24, 25, 27] [] [] SR SR') ∨
    ∃ w' R' e0 wt0 ln' SC' SR', ec = e0 + 1 ∧ w' ≤ w ∧ (∀ v, v < w' → v ∈ R → v ∈ R') ∧ R'.length ≤ R.length ∧ ln' ≤ ln ∧ wt0 < 470 ∧ eit n so d SC SR w' e0 wt0 ∧ stk n so on tw d SC SR (w' :: R') e0 wt0 ln' ∧ zf_X8_goBack_2 N z fu (nI t) SC = some (1, SC') ∧ SC'.1 16 = nI w' ∧ SC'.1 15 = nI (w' + 1) ∧ ag [15, 16] [] [] SC SC' ∧ zf_X11_closed_z N z fu' SR = clT N z SR' ∧ SR'.1 27 = nI wt0 ∧ SR'.1 24 = nI (w' + 1) ∧ SR'.1 25 = nI w' ∧ ag [24, 25, 27] [] [] SR SR'
  | R, w, wt, ln, t, fu, fu', SC, SR, hs, h16, h14, h27, hw, hec, ht, hfu, hfu' => by
    have hlen := stk_len R w ec wt ln hs
    obtain ⟨ea, k, b, a1, a2, a3, a4, a5⟩ := id hs
    obtain ⟨fu, rfl⟩ : ∃ q, fu = q + 1 := ⟨fu - 1, by omega⟩
    obtain ⟨fu', rfl⟩ : ∃ q, fu' = q + 1 := ⟨fu' - 1, by omega⟩
    have i1 : vp_in (nI w) 60 := vp_in_nI hw (by omega)
    have c1 : (nI w).toNatClampNeg = w := nI_clamp (by omega)
    have s1 : zf_X8_goBack_2 N z (fu + 1) (nI t) SC = zf_X8_goBack_2b N z (fun v1 S => zf_X8_goBack_2 N z fu v1 S) (nI t) SC := rfl
    have s2 : zf_X11_closed_z N z (fu' + 1) SR = zf_X11_closed_zb N z (fun S => zf_X11_closed_z N z fu' S) SR := rfl
    have t60 : ¬ (60 : Int32) ≤ nI t := nI_ge (b := 60) (show t < 60 by omega) (by omega)
    by_cases hk : k = 0
    · have e1 : SC.1 14 = SC.2.1 18 w := by rw [h14, a1]; congr 1; omega
      rcases a5 with ⟨b1, b2, b3, b4⟩ | ⟨u, m, l, b', b1, b2, b3, b4, b5, b6, b7, b8⟩
      · left
        refine ⟨mq_si SC 19 1, SR, ?_, ?_, rfl, ag_si (by decide), ag_rf⟩
        · rw [s1]; unfold zf_X8_goBack_2b
          rw [if_neg t60, h16, mq_ck_of i1, c1, if_pos e1, mq_ck_of i1, b2, if_pos rfl, nS_e, mq_cz_0]
        · rw [s2]; unfold zf_X11_closed_zb
          rw [h27, show wt = 0 by omega, if_pos (by decide), mq_cz_0]
      · cases R with
        | nil => cases b1
        | cons u' r =>
          have : u' = u := by simpa using b1
          subst this
          have hec' : ea = ec := by omega
          rw [hec'] at b8
          simp only [List.length_cons] at ht hfu hfu' hlen
          have g1 : zf_X8_goBack_2 N z (fu + 1) (nI t) SC = zf_X8_goBack_2 N z fu (nI (t + 1)) (mq_si SC 16 (nI u')) := by
            rw [s1]; unfold zf_X8_goBack_2b
            rw [if_neg t60, h16, mq_ck_of i1, c1, if_pos e1, mq_ck_of i1, b2, if_neg (nI_nm (by omega)), mq_ck_of i1, nS_e, nI_e, nI_1]
          have g2 : zf_X11_closed_z N z (fu' + 1) SR = zf_X11_closed_z N z fu' (mq_si (mq_si (mq_si SR 27 (nI b')) 24 (SR.2.1 28 b')) 25 (SR.2.1 27 b')) := by
            rw [s2, cz_top (b := b') (by rw [h27]; congr 1; omega) (by omega), b5.1, if_pos rfl]
          have st2 : stk n so on tw d (mq_si SC 16 (nI u')) (mq_si (mq_si (mq_si SR 27 (nI b')) 24 (SR.2.1 28 b')) 25 (SR.2.1 27 b')) (u' :: r) ec b' l := stk_n (SC := SC) (SR := SR) rfl rfl hfw b8
          have agR : ag [24, 25, 27] [] [] SR (mq_si (mq_si (mq_si SR 27 (nI b')) 24 (SR.2.1 28 b')) 25 (SR.2.1 27 b')) := ag_tr (ag_tr (ag_si (by decide)) (ag_si (by decide))) (ag_si (by decide))
          rcases bk hfw r u' b' l (t + 1) fu fu' _ _ st2 rfl h14 rfl (by omega) hec (by omega) (by omega) (by omega) with ⟨SC', SR', c1, c2, c3, c4, c5⟩ | ⟨w', R', e0, wt0, ln', SC', SR', c1, c2, c3, c3', c4, c4', c5, c6, c7, c8, c9, c10, c11, c12, c13, c14, c15⟩
          · left
            exact ⟨SC', SR', g1.trans c1, g2.trans c2, c3, ag_tr (ag_si (by decide)) c4, ag_tr agR c5⟩
          · right
            refine ⟨w', R', e0, wt0, ln', SC', SR', c1, by omega, fun v hv hR => ?_, by simp only [List.length_cons]; omega, by omega, c4', c5, stk_n (SC := mq_si SC 16 (nI u')) (SR := mq_si (mq_si (mq_si SR 27 (nI b')) 24 (SR.2.1 28 b')) 25 (SR.2.1 27 b')) rfl rfl hfw c6, g1.trans c7, c8, c9, ag_tr (ag_si (by decide)) c10, g2.trans c11, c12, c13, c14, ag_tr agR c15⟩
            rcases List.mem_cons.mp hR with e | e
            · omega
            · exact c3 v hv e
    · right
      have e1 : ¬ SC.1 14 = SC.2.1 18 w := by
        rw [h14, a1]
        intro q
        have := sp_inj q (by omega) (by omega)
        omega
      have top := a4 (k - 1) (by omega)
      have j1 : ea + (k - 1) = ec - 1 := by omega
      have j2 : b + (k - 1) = wt - 1 := by omega
      rw [j1, j2] at top
      refine ⟨w, R, ec - 1, wt - 1, ln, mq_si SC 15 (nI (w + 1)), mq_si (mq_si (mq_si SR 27 (nI (wt - 1))) 24 (SR.2.1 28 (wt - 1))) 25 (SR.2.1 27 (wt - 1)), by omega, Nat.le_refl _, fun _ _ q => q, Nat.le_refl _, Nat.le_refl _, by omega, top, ⟨ea, k - 1, b, a1, by omega, by omega, fun j hj => a4 j (by omega), a5⟩, ?_, h16, rfl, ag_si (by decide), ?_, rfl, top.2.2.1, top.2.1, ag_tr (ag_tr (ag_si (by decide)) (ag_si (by decide))) (ag_si (by decide))⟩
      · rw [s1]; unfold zf_X8_goBack_2b
        rw [if_neg t60, h16, mq_ck_of i1, c1, if_neg e1]
        exact gb_63 h16
      · rw [s2, cz_top (b := wt - 1) (by rw [h27]; congr 1; omega) (by omega), top.1, if_neg (by decide)]
end BACK
