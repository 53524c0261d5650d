/-! The tableau: a SET with nothing to do but MAYS. -/
section FULL
variable {N n F : Nat} {z : Nat → Nat} {so on tw : Nat → Int32} {d : Nat → Nat} {S SC SR : mq_St} {st W w ec ln wt m f : Nat} {R : List Nat}
theorem sa_i (S : mq_St) (k : Nat) : mq_sa S k (S.2.1 k) = S := by
  refine Prod.ext rfl (Prod.ext ?_ rfl)
  funext q
  show (if q = k then S.2.1 k else S.2.1 q) = S.2.1 q
  by_cases e : q = k
  · rw [if_pos e, e]
  · rw [if_neg e]
theorem d136 (hw : w < 60) : ∀ (fu v : Nat) (S : mq_St), v ≤ 60 → 60 - v < fu → S.1 25 = nI w → ∃ r, zf_X11_down_136 N z fu (nI v) S = mq_cl (zf_X11_waits N z 0 (-1) (mq_sa S 22 r)) (fun _ S72 => mq_cz 0 (some (0, S72))) ∧ ∀ i, r i = if 60 * w + v ≤ i ∧ i < 60 * w + 60 then 0 else S.2.1 22 i
  | 0, v, S, _, h, _ => by omega
  | fu + 1, v, S, hv, hfu, h25 => by
    have s1 : zf_X11_down_136 N z (fu + 1) (nI v) S = zf_X11_down_136b N z (fun v2 S => zf_X11_down_136 N z fu v2 S) (nI v) S := rfl
    by_cases e : v = 60
    · refine ⟨S.2.1 22, ?_, fun i => by rw [if_neg (by omega)]⟩
      rw [s1]; unfold zf_X11_down_136b
      rw [e, if_pos (by decide), show mq_sa S 22 (S.2.1 22) = S from sa_i S 22]
    · have t60 : ¬ (60 : Int32) ≤ nI v := nI_ge (b := 60) (show v < 60 by omega) (by omega)
      have e1 : (60 : Int32) * nI w + nI v = nI (60 * w + v) := by rw [show (60 : Int32) = nI 60 from rfl, pk_mul, nI_add]
      obtain ⟨r, g1, g2⟩ := d136 hw fu (v + 1) (mq_sa S 22 (upd (S.2.1 22) (60 * w + v) 0)) (by omega) (by omega) h25
      refine ⟨r, ?_, fun i => ?_⟩
      · rw [s1]; unfold zf_X11_down_136b
        rw [if_neg t60, h25, e1, mq_ck_of (vp_in_nI (by omega) (by omega)), nI_clamp (by omega), nS_e, nI_e, nI_1]
        refine g1.trans ?_
        rw [sa_sa]
      · rw [g2 i]
        show (if _ then _ else upd (S.2.1 22) (60 * w + v) 0 i) = _
        by_cases e' : i = 60 * w + v
        · rw [if_neg (by omega), if_pos (by omega), e', up_s]
        · rw [up_o e']
          by_cases e'' : 60 * w + v ≤ i ∧ i < 60 * w + 60
          · rw [if_pos (by omega), if_pos e'']
          · rw [if_neg (by omega), if_neg e'']
/-- what tableau() does behind down() and behind mays() -/
def kM (N : Nat) (z : Nat → Nat) (fu2 : Nat) : Int32 → mq_St → Option (Int32 × mq_St) := fun q35v S37 => (mq_nI (q35v) (fun x38 => (if (S37.1 23) = (0 : Int32) then (if x38 = (0 : Int32) then (mq_cl (zf_X11_opened N z S37) (fun q39v S41 => (if q39v = (0 : Int32) then (some ((0 : Int32), S41)) else (zf_X11_tableau_82 N z fu2 (x38) S41)))) else (zf_X11_tableau_82 N z fu2 (x38) S37)) else (some ((S37.1 23), S37)))))
def kD (N : Nat) (z : Nat → Nat) (fu2 : Nat) : Int32 → mq_St → Option (Int32 × mq_St) := fun q22v S24 => (mq_nI (q22v) (fun x25 => (if (S24.1 23) = (0 : Int32) then (if x25 = (0 : Int32) then (mq_cl (zf_X11_mays N z S24) (kM N z fu2)) else (mq_cl (zf_X11_closed N z S24) (fun q26v S28 => (mq_nI (q26v) (fun x29 => (if (S28.1 23) = (0 : Int32) then (if x29 = (0 : Int32) then (some ((1 : Int32), S28)) else (zf_X11_tableau_82 N z fu2 (x29) S28)) else (some ((S28.1 23), S28)))))))) else (some ((S24.1 23), S24)))))
theorem t82_D {fu2 : Nat} {v : Int32} (hv : ¬ v = 0) : zf_X11_tableau_82 N z (fu2 + 1) v S = mq_cl (zf_X11_down_z N z N S) (kD N z fu2) := by
  show zf_X11_tableau_82b N z (fun v2 S => zf_X11_tableau_82 N z fu2 v2 S) v S = _
  unfold zf_X11_tableau_82b
  rw [if_neg hv]
  rfl
theorem t82_M {fu2 : Nat} : zf_X11_tableau_82 N z (fu2 + 1) 0 S = mq_cl (zf_X11_mays N z S) (kM N z fu2) := by
  show zf_X11_tableau_82b N z (fun v2 S => zf_X11_tableau_82 N z fu2 v2 S) 0 S = _
  unfold zf_X11_tableau_82b
  rw [if_pos rfl]
  rfl
theorem kD_0 {fu2 : Nat} (h : S.1 23 = 0) : kD N z fu2 0 S = mq_cl (zf_X11_mays N z S) (kM N z fu2) := by
  unfold kD
  rw [nI_e, if_pos h, if_pos rfl]
theorem kD_f {fu2 : Nat} {v : Int32} (h : ¬ S.1 23 = 0) : kD N z fu2 v S = some (S.1 23, S) := by
  unfold kD
  rw [nI_e, if_neg h]
theorem kM_f {fu2 : Nat} {v : Int32} (h : ¬ S.1 23 = 0) : kM N z fu2 v S = some (S.1 23, S) := by
  unfold kM
  rw [nI_e, if_neg h]
/-- mays() up to its loop -/
theorem ms_pre {l : Nat} (hN : 400 ≤ N) (hx : cxR SR n so on tw d) (h27 : SR.1 27 = nI (wt + 1)) (hwt : wt < 470) (hm : may n so on tw d SC SR w m l wt) :
    ∃ q x, zf_X11_mays N z SR = zf_X11_mays_54 N z N (nI wt) x (mq_si (mq_sa (mq_si SR 25 (nI w)) 17 q) 26 (nI l)) ∧ (∀ g, g < 320 → ib q 0 g = lb (SC.2.2 3) w g) ∧ lst n (fun f => m ≤ f ∧ td so on tw 7 (lb (SC.2.2 3) w) f) x := by
  have hfw := hx.2.2.2
  obtain ⟨m1, m2, m2', m3, m4, m5, m6⟩ := hm
  have i1 : vp_in (nI wt) 470 := vp_in_nI hwt (by omega)
  have c1 : (nI wt).toNatClampNeg = wt := nI_clamp (by omega)
  have e1 : nI (wt + 1) - 1 = nI wt := by rw [show (1 : Int32) = nI 1 from rfl, pk_sub (by omega)]; rfl
  have e10 : (10 : Int32) * nI wt = nI (10 * wt) := pk_mul 10 wt
  obtain ⟨q, a1, a2, a3⟩ := rf_cp (N := N) (S := mq_si SR 25 (nI w)) (a := 30) (b := 17) (ra := wt) (rb := 0) (R := 470) (R' := 1) (y := fun k => [4700, 10].getD k 0) (by omega) (by decide) rfl rfl (by omega) (by omega) hwt (by omega)
  have bits : ∀ g, g < 320 → ib q 0 g = lb (SC.2.2 3) w g := fun g hg => by rw [a3 0 g hg, if_pos rfl]; exact m5 g hg
  have hx8 : cxR (mq_si (mq_sa (mq_si SR 25 (nI w)) 17 q) 26 (nI l)) n so on tw d := cxR_c hx rfl rfl rfl rfl
  obtain ⟨x, b1, b2⟩ := rs_may (N := N) (z := z) (v := SR.2.1 26 wt) hN hx8 m2' m2
  refine ⟨q, x, ?_, bits, lst_s b2 (fun f hf => ?_)⟩
  · unfold zf_X11_mays
    rw [h27, e1, nI_e, mq_ck_of i1, c1, m3, nS_e, e10]
    refine (cl_go a1).trans ?_
    rw [a2, nS_e, mq_ck_of i1, nS_e, mq_ck_of i1]
    have y1 : (mq_sa (mq_si SR 25 (nI w)) 17 q).2.1 29 wt = nI l := m4
    rw [y1]
    exact (cp_go b1).trans rfl
  · have := td_x (X := lb (SC.2.2 3) w) (X' := ib q 0) hfw bits hf (s := 7) (by omega) (by omega)
    exact ⟨fun q => ⟨q.1, this.mp q.2⟩, fun q => ⟨q.1, this.mpr q.2⟩⟩
/-- the reference behind down() and the head of mays(), where down() found nothing to do -/
def fuR (S : mq_St) (w ln wt : Nat) (r q q' : Nat → Int32) : mq_St := mq_si (mq_sa (mq_si (mq_si (mq_sa (mq_sa (mq_sa (mq_sa (mq_sa (mq_sa (mq_sa S 22 r) 25 (upd (S.2.1 25) wt 0)) 26 (upd (S.2.1 26) wt (-1))) 27 (upd (S.2.1 27) wt (S.1 25))) 28 (upd (S.2.1 28) wt (S.1 24))) 29 (upd (S.2.1 29) wt (S.1 26))) 30 q) 27 (nI (wt + 1))) 25 (nI w)) 17 q') 26 (nI ln)
theorem D_full {fu fu2 : Nat} (hN : 400 ≤ N) (hx : cxR SR n so on tw d) (h : Dn n so on tw d F SC SR st w ec ln wt R) (h17 : SC.1 17 = -1) (h4 : ∀ f, f < n → ¬ td so on tw 4 (lb (SC.2.2 3) w) f) (h5 : ∀ f, f < n → ¬ td so on tw 5 (lb (SC.2.2 3) w) f) (h6 : ∀ f, f < n → ¬ td so on tw 6 (lb (SC.2.2 3) w) f) :
    ∃ SR' x, mq_cl (zf_X11_down_z N z (fu + 1) SR) (kD N z fu2) = mq_cl (zf_X11_mays_54 N z N (nI wt) x SR') (kM N z fu2) ∧ lst n (fun f => 0 ≤ f ∧ td so on tw 7 (lb (SC.2.2 3) w) f) x ∧ Mn n so on tw d F SC SR' st (w + 1) w ec ln wt 0 R ∧ frR SR SR' := by
  have hfw := hx.2.2.2
  have h300 := hfw.2.1
  obtain ⟨⟨o1, o2, o3, o4, o5, o6⟩, nn, ⟨m1, m2, m3, m4, m5, m6, m7, m8⟩, kk, q5, q6, q7, q8, q9, q10, q11, q12, q13, q14⟩ := id h
  have hlen := stk_len R w ec wt ln q7
  have noc : ∀ c, c < n → ¬ cls so d (lb (SC.2.2 3) w) c := by
    rcases q10 with ⟨-, q⟩ | ⟨c, c1, c2, -⟩
    · exact q
    · exact absurd (c2.symm.trans h17) (nI_nm (by omega))
  have non : ∀ s f, 4 ≤ s → s ≤ 6 → f < n → ¬ td so on tw s (lb (SC.2.2 3) w) f := fun s f a b hf => by
    have : s = 4 ∨ s = 5 ∨ s = 6 := by omega
    rcases this with rfl | rfl | rfl
    · exact h4 f hf
    · exact h5 f hf
    · exact h6 f hf
  have un : ∀ (P Q : Nat → Prop) (v : Int32), lst n P v → (∀ f, f < n → (P f ↔ Q f)) → (∀ f, f < n → ¬ Q f) → v = -1 := fun P Q v a b c => by
    rcases a with ⟨e, -⟩ | ⟨f, f1, -, f3, -⟩
    · exact e
    · exact absurd ((b f f1).mp f3) (c f f1)
  obtain ⟨v0, e0, e0'⟩ := rs_clash (z := z) hN hx
  have v0e : v0 = -1 := (clV_u (clV_x hfw q8 q10) e0').symm.trans h17
  rw [v0e] at e0
  obtain ⟨v4, e4, e4'⟩ := rs_both (z := z) hN hx
  rw [un _ _ _ e4' (fun f hf => td_x hfw q8 hf (by omega) (by omega)) h4] at e4
  obtain ⟨v6, e6, e6'⟩ := rs_self (z := z) hN hx
  rw [un _ _ _ e6' (fun f hf => td_x hfw q8 hf (by omega) (by omega)) h6] at e6
  obtain ⟨v5, e5, e5'⟩ := rs_either (z := z) hN hx
  rw [un _ _ _ e5' (fun f hf => td_x hfw q8 hf (by omega) (by omega)) h5] at e5
  obtain ⟨r, g1, g2⟩ := d136 (N := N) (z := z) (show w < 60 by omega) N 0 SR (by omega) (by omega) m4
  obtain ⟨q, w1, w2⟩ := rf_waits (N := N) (z := z) (S := mq_sa SR 22 r) (wt := wt) (by omega) 0 (-1) m8 (by omega) (Or.inl rfl)
  have mayT : may n so on tw d SC (mq_si (mq_sa (mq_sa (mq_sa (mq_sa (mq_sa (mq_sa (mq_sa SR 22 r) 25 (upd (SR.2.1 25) wt 0)) 26 (upd (SR.2.1 26) wt (-1))) 27 (upd (SR.2.1 27) wt (SR.1 25))) 28 (upd (SR.2.1 28) wt (SR.1 24))) 29 (upd (SR.2.1 29) wt (SR.1 26))) 30 q) 27 (nI (wt + 1))) w 0 ln wt := by
    refine ⟨up_s _ _ _, ?_, by omega, (up_s _ _ _).trans m4, (up_s _ _ _).trans m6, fun g hg => ?_, q9, noc, non, q11.1, fun f hf a => ⟨fun _ => Nat.zero_le _, fun _ => q11.2 7 f (by omega) (by omega) hf a⟩⟩
    · show upd (SR.2.1 26) wt (-1) wt + 1 = nI 0
      rw [up_s]; rfl
    · show ib q wt g = _
      rw [w2 wt g hg, if_pos rfl]; exact q8 g hg
  obtain ⟨q', x, p1, p2, p3⟩ := ms_pre (N := N) (z := z) hN (SR := mq_si (mq_sa (mq_sa (mq_sa (mq_sa (mq_sa (mq_sa (mq_sa SR 22 r) 25 (upd (SR.2.1 25) wt 0)) 26 (upd (SR.2.1 26) wt (-1))) 27 (upd (SR.2.1 27) wt (SR.1 25))) 28 (upd (SR.2.1 28) wt (SR.1 24))) 29 (upd (SR.2.1 29) wt (SR.1 26))) 30 q) 27 (nI (wt + 1))) (cxR_c hx rfl rfl rfl rfl) rfl (by omega) mayT
  refine ⟨fuR SR w ln wt r q q', x, ?_, p3, ⟨⟨o1, o2, o3, o4, o5, o6⟩, nn, ⟨m1, m2, m3, rfl, m5, rfl, m7, rfl⟩, kk, q5, q6, stk_c (SC := SC) (SR := SR) hfw R w ec wt ln ln (Nat.le_refl _) ⟨fun p _ => ⟨rfl, rfl⟩, fun p hp => ⟨rfl, fun g hg => ⟨rfl, rfl⟩⟩, fun j hj => ⟨rfl, fun g hg => rfl⟩⟩ (fun e he => ⟨up_o (by omega), up_o (by omega), up_o (by omega), up_o (by omega), up_o (by omega), fun g hg => ?_⟩) q7, mayT, p2, h17, fun v hv u hu => ?_, fun v hv hv' hR => q14 v (by omega) hR⟩, ?_⟩
  · have s1 : zf_X11_down_z N z (fu + 1) SR = some (0, mq_si (mq_sa (mq_sa (mq_sa (mq_sa (mq_sa (mq_sa (mq_sa SR 22 r) 25 (upd (SR.2.1 25) wt 0)) 26 (upd (SR.2.1 26) wt (-1))) 27 (upd (SR.2.1 27) wt (SR.1 25))) 28 (upd (SR.2.1 28) wt (SR.1 24))) 29 (upd (SR.2.1 29) wt (SR.1 26))) 30 q) 27 (nI (wt + 1))) := by
      show zf_X11_down_zb N z (fun S => zf_X11_down_z N z fu S) SR = _
      unfold zf_X11_down_zb
      rw [if_pos m7]
      refine (cp_go e0).trans ?_
      rw [nI_e, if_pos rfl]
      refine (cp_go e4).trans ?_
      rw [nI_e, if_pos rfl]
      refine (cp_go e6).trans ?_
      rw [nI_e, if_pos rfl]
      refine (cp_go e5).trans ?_
      rw [nI_e, if_pos rfl]
      refine g1.trans ((cl_go w1).trans ?_)
      rw [mq_cz_0]
      rfl
    refine (cl_go s1).trans ?_
    rw [kD_0 (by exact m7), p1]
    rfl
  · show ib q e g = _
    rw [w2 e g hg, if_neg (by omega)]
    rfl
  · show r (60 * v + u) = _
    rw [g2]
    by_cases e : v = w
    · rw [if_pos (by omega), e, q12]
      have : (0 : Int64).toBitVec.getLsbD u = false := BitVec.getLsbD_zero
      rw [this]; rfl
    · rw [if_neg (by omega)]; exact q13 v (by omega) u hu
  · have t := fun {A B : mq_St} {k : Nat} {v : Int32} (h : frR A B) (hk : k ∈ [18, 19, 20, 21, 22, 23, 24, 25, 26, 27, 28]) => (ag_tr h (ag_si (v := v) hk) : frR A (mq_si B k v))
    have t' := fun {A B : mq_St} {k : Nat} {v : Nat → Int32} (h : frR A B) (hk : k ∈ [17, 18, 19, 20, 21, 22, 23, 24, 25, 26, 27, 28, 29, 30, 31]) => (ag_tr h (ag_sa (f := v) hk) : frR A (mq_sa B k v))
    exact t (t' (t (t (t' (t' (t' (t' (t' (t' (t' ag_rf (by decide)) (by decide)) (by decide)) (by decide)) (by decide)) (by decide)) (by decide)) (by decide)) (by decide)) (by decide)) (by decide)
end FULL
