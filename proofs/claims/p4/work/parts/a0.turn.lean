/-! The tableau: a turn. -/
/-- where both end -/
def Fi (v : Int32) (SC SR : mq_St) : Prop := SC.2.1 21 0 = SR.1 19 ∧ cnt SC SR ∧ (∃ l, l ≤ 1299 ∧ SC.1 20 = nI l) ∧ (v = -3 ∨ v = -4 ∨ (v = 1 ∧ ∃ ln, 0 < ln ∧ ln ≤ 1299 ∧ SC.1 20 = nI ln ∧ SR.1 26 = nI ln ∧ lins SC SR ln) ∨ (v = 0 ∧ ∃ W, 0 < W ∧ W ≤ 60 ∧ SC.1 15 = nI W ∧ SR.1 24 = nI W ∧ (∀ v, v < W → led SC SR v) ∧ ∀ v, v < W → wst SC SR v))
section TURN
variable {N n F : Nat} {z : Nat → Nat} {so on tw : Nat → Int32} {d : Nat → Nat} {S T SC SR A B : mq_St} {st W w ec ln wt m f p k fu fu2 : Nat} {R P : List Nat}
theorem dz_end (h : ¬ S.1 23 = 0) : mq_cl (zf_X11_down_z N z (fu + 1) S) (kD N z fu2) = some (S.1 23, S) := by
  have : zf_X11_down_z N z (fu + 1) S = some (0, S) := by
    show zf_X11_down_zb N z (fun S => zf_X11_down_z N z fu S) S = _
    unfold zf_X11_down_zb
    rw [if_neg h, mq_cz_0]
  exact (cl_go this).trans (kD_f h)
theorem dz_b {S' : mq_St} (h : zf_X11_down_zb N z (fun S => zf_X11_down_z N z fu S) S = zf_X11_down_z N z fu S') : mq_cl (zf_X11_down_z N z (fu + 1) S) (kD N z fu2) = mq_cl (zf_X11_down_z N z fu S') (kD N z fu2) := by
  have : zf_X11_down_z N z (fu + 1) S = zf_X11_down_zb N z (fun S => zf_X11_down_z N z fu S) S := rfl
  rw [this, h]
theorem D_least {s : Nat} (hN : 100 ≤ N) (hc : cxC SC n so on tw d) (q : Dn n so on tw d F SC SR st w ec ln wt R) (h4 : 4 ≤ s) (h7 : s ≤ 7) : ∃ l2 v, Dn n so on tw d F (mq_sl SC 4 l2) SR st w ec ln wt R ∧ zf_X8_leastToDo N z (nI s) SC = some (v, mq_sl SC 4 l2) ∧ lst n (td so on tw s (lb (SC.2.2 3) w)) v := by
  have hfw := hc.2.2.2
  obtain ⟨⟨-, -, o3, o4, -, -⟩, nn, -, -, -, -, -, -, -, -, q11, -, -, -⟩ := id q
  obtain ⟨l2, v, a1, a2, a3⟩ := ck_lst (z := z) (s := s) (w := w) hN hc (by omega) nn.2.2.2.1 h4 h7 q11.1
  exact ⟨l2, v, Dn_lf hfw.2.1 h7 hfw a1 q, a2, lst_s a3 (fun f hf => ⟨fun q => q.1, fun q => ⟨q, q11.2 s f h4 h7 hf q⟩⟩)⟩
theorem ck_wf {r : Int32} (hn : nuC S F st W w ec ln) (hF : F ≤ 100000) (hS : st ≤ F) (hL : ln ≤ 1299) : (¬ st < F → zf_X8_widen N z r (nI f) S = some ((), mq_si S 19 (-3))) ∧ (st < F → ¬ ln < 1299 → zf_X8_widen N z r (nI f) S = some ((), mq_si (mq_sa S 21 (upd (S.2.1 21) 0 (nI (st + 1)))) 19 (-4))) := by
  refine ⟨fun h1 => ?_, fun h1 h2 => ?_⟩
  · unfold zf_X8_widen
    refine (cl_go (ck_sf hn hF hS h1)).trans ?_
    rw [if_pos rfl]
  · unfold zf_X8_widen
    refine (cl_go (ck_st hn hF h1)).trans ?_
    rw [if_neg (by decide)]
    refine (cl_go (ck_nf hn hL h2)).trans ?_
    rw [if_pos rfl]
/-- what a turn may come to: an end, or down() again with one step more -/
def Tn (N : Nat) (z : Nat → Nat) (n : Nat) (so on tw : Nat → Int32) (d : Nat → Nat) (F : Nat) (SC SR : mq_St) (st : Nat) (R : List Nat) (fu fu2 : Nat) (go : Option (Unit × mq_St)) (ref : Option (Int32 × mq_St)) : Prop :=
  (∃ SC' SR' v, go = some ((), SC') ∧ SC'.1 19 = v ∧ ref = some (v, SR') ∧ Fi v SC' SR' ∧ frC SC SC' ∧ frR SR SR') ∨
  (st < F ∧ ∃ SC' SR' w' ec' ln' wt' R' fu' fu2', go = some ((), SC') ∧ ref = mq_cl (zf_X11_down_z N z fu' SR') (kD N z fu2') ∧ (fu' = fu ∨ fu' = N) ∧ fu2 ≤ fu2' ∧ R'.length ≤ R.length + 1 ∧ Dn n so on tw d F SC' SR' (st + 1) w' ec' ln' wt' R' ∧ frC SC SC' ∧ frR SR SR')
theorem nI_nn {v : Int32} {c : Nat} (h : v = nI c) (hc : c < 300) : ¬ v = -1 := by rw [h]; exact nI_nm hc
theorem T_both {s r : Nat} {go : Option (Unit × mq_St)} (hN : 500 ≤ N) (hc : cxC SC n so on tw d) (hx : cxR SR n so on tw d) (q : Dn n so on tw d F SC SR st w ec ln wt R) (hf : f < n) (hs : so f = nI s) (h46 : (s = 4 ∧ r = 1) ∨ (s = 6 ∧ r = 2)) (hgo : ∀ S', zf_X8_widen N z (nI r) (nI f) SC = some ((), S') → go = some ((), S'))
    (hdz : ∀ k0 : mq_St → Option (Int32 × mq_St), (st < F → ln < 1299 → ∃ a, zf_X11_down_zb N z k0 SR = k0 (mq_sa (stR SR st ln (nI r) (nI f)) 17 a) ∧ ∀ g, g < 320 → ib a 0 g = (ib (SR.2.1 17) 0 g || pA on tw s f g)) ∧ (¬ st < F → zf_X11_down_zb N z k0 SR = k0 (mq_si SR 23 (-3))) ∧ (st < F → ¬ ln < 1299 → zf_X11_down_zb N z k0 SR = k0 (mq_si (mq_si SR 19 (nI (st + 1))) 23 (-4)))) :
    Tn N z n so on tw d F SC SR st R (fu + 1) fu2 go (mq_cl (zf_X11_down_z N z (fu + 1 + 1) SR) (kD N z fu2)) := by
  have hfw := hc.2.2.2
  obtain ⟨⟨o1, o2, o3, o4, o5, o6⟩, nn, mm, kk, q5, q6, q7, q8, q9, q10, q11, q12, q13, q14⟩ := id q
  obtain ⟨d1, d2, d3⟩ := hdz (fun S => zf_X11_down_z N z (fu + 1) S)
  obtain ⟨f1, f2⟩ := ck_wf (N := N) (z := z) (f := f) (r := nI r) nn o2 o1 o6
  by_cases h1 : st < F
  · by_cases h2 : ln < 1299
    · right
      obtain ⟨c, l3, l4, a1, a2, a3, a4⟩ := ck_wd (N := N) (z := z) (r := r) hc (by omega) nn o2 h1 h2 hf hs (by omega) q10
      obtain ⟨a, b1, b2⟩ := d1 h1 h2
      exact ⟨h1, _, _, w, ec, ln + 1, wt, R, fu + 1, fu2, hgo _ a1, dz_b b1, Or.inl rfl, Nat.le_refl _, by omega, Dn_wd (c := 0) hfw (by omega) q h1 h2 hf hs (by omega) a2 a3 a4 b2, fCl (fCl (fCi (fCi (fCa (fCa ag_rf (by decide)) (by decide)) (by decide)) (by decide)) (by decide)) (by decide), fRa (fRi (fRa (fRa (fRi ag_rf (by decide)) (by decide)) (by decide)) (by decide)) (by decide)⟩
    · left
      exact ⟨_, _, -4, hgo _ (f2 h1 h2), rfl, (dz_b (d3 h1 h2)).trans (dz_end (by decide : ¬ (-4 : Int32) = 0)), ⟨rfl, kk, ⟨ln, o6, nn.2.2.2.2.2.1⟩, Or.inr (Or.inl rfl)⟩, fCi (fCa ag_rf (by decide)) (by decide), fRi (fRi ag_rf (by decide)) (by decide)⟩
  · left
    exact ⟨_, _, -3, hgo _ (f1 h1), rfl, (dz_b (d2 h1)).trans (dz_end (by decide : ¬ (-3 : Int32) = 0)), ⟨nn.2.1.trans mm.2.1.symm, kk, ⟨ln, o6, nn.2.2.2.2.2.1⟩, Or.inl rfl⟩, fCi ag_rf (by decide), fRi ag_rf (by decide)⟩
end TURN
