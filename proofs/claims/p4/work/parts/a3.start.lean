/-! The tableau: its start. -/
section STARTS
variable {N n F : Nat} {z : Nat → Nat} {so on tw : Nat → Int32} {d : Nat → Nat} {S T SC SR : mq_St} {no l : Nat}
theorem r30 (S : mq_St) {v1 : Int32} : ∀ (fu k : Nat) (c : Nat → Int32), k ≤ 4 → 4 - k < fu → (∀ i, i < k → c i = 0) → ∃ c' fu', zf_X8_run_30 N z fu v1 (nI k) (mq_sa S 21 c) = zf_X8_run_30 N z (fu' + 1) v1 (nI 4) (mq_sa S 21 c') ∧ ∀ i, i < 4 → c' i = 0
  | 0, k, c, _, h, _ => by omega
  | fu + 1, k, c, hk, hfu, hc => by
    by_cases e : k = 4
    · exact ⟨c, fu, by rw [e], fun i hi => hc i (by omega)⟩
    · obtain ⟨c', fu', g1, g2⟩ := r30 (v1 := v1) S fu (k + 1) (upd c k 0) (by omega) (by omega) (fun i hi => by
        by_cases q : i = k
        · rw [q, up_s]
        · rw [up_o q]; exact hc i (by omega))
      refine ⟨c', fu', ?_, g2⟩
      rw [← g1]
      show zf_X8_run_30b N z (fun v1 v3 S => zf_X8_run_30 N z fu v1 v3 S) v1 (nI k) (mq_sa S 21 c) = _
      unfold zf_X8_run_30b
      rw [if_neg (show ¬ (4 : Int32) ≤ nI k from nI_ge (b := 4) (show k < 4 by omega) (by omega)), mq_ck_of (vp_in_nI (by omega) (by omega)), nI_clamp (by omega), nS_e, nI_e, nI_1, sa_sa]
      rfl
theorem t47 (S : mq_St) {v1 : Int32} : ∀ (fu k : Nat) (c : Nat → Int32), k ≤ 10 → 10 - k < fu → (∀ i, i < k → c i = 0) → ∃ c' fu', zf_X11_tableau_47 N z fu v1 (nI k) (mq_sa S 17 c) = zf_X11_tableau_47 N z (fu' + 1) v1 (nI 10) (mq_sa S 17 c') ∧ ∀ i, i < 10 → c' i = 0
  | 0, k, c, _, h, _ => by omega
  | fu + 1, k, c, hk, hfu, hc => by
    by_cases e : k = 10
    · exact ⟨c, fu, by rw [e], fun i hi => hc i (by omega)⟩
    · obtain ⟨c', fu', g1, g2⟩ := t47 (v1 := v1) S fu (k + 1) (upd c k 0) (by omega) (by omega) (fun i hi => by
        by_cases q : i = k
        · rw [q, up_s]
        · rw [up_o q]; exact hc i (by omega))
      refine ⟨c', fu', ?_, g2⟩
      rw [← g1]
      show zf_X11_tableau_47b N z (fun v1 v2 S => zf_X11_tableau_47 N z fu v1 v2 S) v1 (nI k) (mq_sa S 17 c) = _
      unfold zf_X11_tableau_47b
      rw [if_neg (show ¬ (10 : Int32) ≤ nI k from nI_ge (b := 10) (show k < 10 by omega) (by omega)), mq_ck_of (vp_in_nI (by omega) (by omega)), nI_clamp (by omega), nS_e, nI_e, nI_1, sa_sa]
      rfl
def s0C (S : mq_St) (F : Nat) : mq_St := mq_si (mq_si (mq_si (mq_si (mq_si S 18 (nI F)) 19 2) 14 0) 15 0) 20 (nI 0)
def s0R (S : mq_St) (F : Nat) : mq_St := mq_si (mq_si (mq_si (mq_si (mq_si (mq_si (mq_si (mq_si (mq_si (mq_si S 18 (nI F)) 19 0) 20 0) 21 0) 22 0) 23 0) 24 0) 26 0) 27 0) 28 0
theorem st_tab (hN : 300000 ≤ N) (hc : cxC SC n so on tw d) (hx : cxR SR n so on tw d) (hl : SC.1 20 = nI l) (hl2 : l ≤ 1299) (hno : no < n) (hF : F ≤ 100000) : Gl SC SR (zf_X8_run N z (nI no) (nI F) SC) (zf_X11_tableau N z (nI no) (mq_si SR 18 (nI F))) := by
  have hfw := hc.2.2.2
  have h300 := hfw.2.1
  obtain ⟨X, x1, x2⟩ := pu_3 (N := N) (z := z) (S := mq_si (mq_si (mq_si (mq_si SC 18 (nI F)) 19 2) 14 0) 15 0) (ln := l) (p := 0) (v := 0) hl rfl (by omega) hl2
  obtain ⟨c, fu', c1, c2⟩ := r30 (N := N) (z := z) (v1 := nI no) (s0C SC F) N 0 (SC.2.1 21) (by omega) (by omega) (fun i hi => by omega)
  rw [show mq_sa (s0C SC F) 21 (SC.2.1 21) = s0C SC F from sa_i (s0C SC F) 21] at c1
  obtain ⟨a, a1, a2⟩ := se_empty (N := N) (R := 61) (r := 0) (z := fun k => [305].getD k 0) (S := mq_pull (mq_sa (s0C SC F) 21 c) [] [] [2]) (by omega) rfl (by omega) (by omega)
  obtain ⟨b, b1, b2⟩ := se_put (N := N) (R := 61) (r := 0) (f := no) (z := fun k => [305].getD k 0) (S := mq_pull (mq_sl (mq_sa (s0C SC F) 21 c) 2 a) [] [] [2]) rfl (by omega) (by omega) (by omega)
  obtain ⟨q3, q4, v1, v2, v3⟩ := ck_bgw (N := N) (z := z) (v1 := -1) (v2 := 1) (W := 0) (S := mq_sl (mq_sa (s0C SC F) 21 c) 2 b) (by omega) (by omega) rfl
  have rowb : ∀ g, g < 320 → lb b 0 g = decide (g = no) := fun g hg => by
    rw [b2 0 g hg]
    show (lb a 0 g || _) = _
    rw [a2 0 g hg]
    simp
  have cls : zf_X8_run N z (nI no) (nI F) SC = zf_X8_run_73 N z N (nI 0) (bgC (mq_sl (mq_sa (s0C SC F) 21 c) 2 b) 0 (-1) 1 (if lb q3 0 1 = true then 1 else -1) q3 q4) := by
    unfold zf_X8_run
    rw [nS_e, nS_e, nS_e, nS_e]
    refine (cl_go x1).trans ?_
    rw [x2, nS_e, nI_e]
    refine c1.trans ?_
    show zf_X8_run_30b N z (fun v1 v3 S => zf_X8_run_30 N z fu' v1 v3 S) (nI no) (nI 4) (mq_sa (s0C SC F) 21 c) = _
    unfold zf_X8_run_30b
    rw [if_pos (by decide)]
    refine (cl_go a1).trans ?_
    rw [push1, nS_e]
    refine (cl_go b1).trans ?_
    rw [push1, nS_e, sl_sl]
    refine (cl_go v1).trans ?_
    rw [nI_e]
    rfl
  obtain ⟨e, fu2', e1, e2⟩ := t47 (N := N) (z := z) (v1 := nI no) (s0R SR F) N 0 (SR.2.1 17) (by omega) (by omega) (fun i hi => by omega)
  rw [show mq_sa (s0R SR F) 17 (SR.2.1 17) = s0R SR F from sa_i (s0R SR F) 17] at e1
  obtain ⟨N', hN'⟩ : ∃ q, N = q + 1 := ⟨N - 1, by omega⟩
  obtain ⟨g, g1, g2⟩ := rf_pu (N := N) (S := mq_sa (s0R SR F) 17 e) (g := no) (y := nI no) (k := fun S13 => (mq_cl (zf_X11_begins N z ((-1 : Int32)) S13) (fun q14v S16 => (mq_nI ((1 : Int32)) (fun x17 => (zf_X11_tableau_82 N z N (x17) S16)))))) rfl (by omega)
  obtain ⟨q, h1, h2⟩ := rf_bgw (N := N) (z := z) (v1 := -1) (v2 := 1) (W := 0) (S := mq_sa (mq_sa (s0R SR F) 17 e) 17 g) (by omega) (by omega) rfl (Or.inl ⟨rfl, rfl⟩)
  have rowg : ∀ h, h < 320 → ib g 0 h = decide (h = no) := fun h hh => by
    rw [g2 h hh]
    show (ib e 0 h || _) = _
    rw [ib_0 e2 hh, Bool.false_or]
  have ref : zf_X11_tableau N z (nI no) (mq_si SR 18 (nI F)) = mq_cl (zf_X11_down_z N z N (bgR (mq_sa (mq_sa (s0R SR F) 17 e) 17 g) 0 (-1) 1 q)) (kD N z N') := by
    unfold zf_X11_tableau
    rw [nS_e, nS_e, nS_e, nS_e, nS_e, nS_e, nS_e, nS_e, nS_e, nI_e]
    refine e1.trans ?_
    show zf_X11_tableau_47b N z (fun v1 v2 S => zf_X11_tableau_47 N z fu2' v1 v2 S) (nI no) (nI 10) (mq_sa (s0R SR F) 17 e) = _
    unfold zf_X11_tableau_47b
    rw [if_pos (by decide)]
    refine g1.trans ((cl_go h1).trans ?_)
    rw [nI_e]
    have : ∀ S, zf_X11_tableau_82 N z N 1 S = mq_cl (zf_X11_down_z N z N S) (kD N z N') := fun S => by
      have t := t82_D (N := N) (z := z) (fu2 := N') (v := 1) (S := S) (by decide)
      rw [← hN'] at t
      exact t
    exact this _
  rw [cls, ref]
  refine (all (F := F) hN hc hx (2 * F + 1) (by omega)).1 _ _ 0 0 0 0 0 [] 0 N N N' (Dn_bg (S := mq_sl (mq_sa (s0C SC F) 21 c) 2 b) (T := mq_sa (mq_sa (s0R SR F) 17 e) 17 g) (W := 0) (p := no) (P := []) hfw hx.2.2.1 ⟨by omega, hF, by omega, by omega, by omega⟩ rfl (c2 0 (by omega)) rfl rfl rfl rfl rfl rfl rfl rfl rfl ⟨c2 1 (by omega), c2 2 (by omega), c2 3 (by omega)⟩ (fun i hi => by omega) (fun v hv => by omega) (fun h hh => ?_) (fun h hh q => ?_) (fun v hv => by omega) (fun v hv => by omega) v2 v3 h2 ⟨0, 0, 0, rfl, rfl, rfl, fun j hj => by omega, Or.inl ⟨rfl, rfl, rfl, rfl⟩⟩) ?_ ?_ (by simp) (by omega) (by omega) (by omega) (by omega)
  · show ib g 0 h = lb b 0 h
    rw [rowb h hh, rowg h hh]
  · have : lb b 0 h = true := q
    rw [rowb h hh] at this
    have := of_decide_eq_true this
    exact ⟨by omega, Or.inr this⟩
  · exact fCi (fCl (fCa (fCa (fCa (fCl (fCl (fCa (fCi (fCi (fCl (fCa (fCi (fCi (fCi (fCi (fCi ag_rf (by decide)) (by decide)) (by decide)) (by decide)) (by decide)) (by decide)) (by decide)) (by decide)) (by decide)) (by decide)) (by decide)) (by decide)) (by decide)) (by decide)) (by decide)) (by decide)) (by decide)
  · exact fRi (fRa (fRi (fRa (fRa (fRi (fRi (fRa (fRa (fRi (fRi (fRi (fRi (fRi (fRi (fRi (fRi (fRi (fRi ag_rf (by decide)) (by decide)) (by decide)) (by decide)) (by decide)) (by decide)) (by decide)) (by decide)) (by decide)) (by decide)) (by decide)) (by decide)) (by decide)) (by decide)) (by decide)) (by decide)) (by decide)) (by decide)) (by decide)
end STARTS
