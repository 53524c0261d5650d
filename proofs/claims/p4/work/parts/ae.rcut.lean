/-! The reference's model: cut() ends. -/
section RCUT
variable {N n : Nat} {z : Nat → Nat} {S S0 : mq_St} {W w c : Nat}
/-- the reference's model and what fold() and cut() work with -/
def frX (S S' : mq_St) : Prop := ag [0, 31] [34, 35, 36, 39, 40, 41, 42, 43] [] S S'
/-- the first c places of a row hold worlds -/
def wl (a : Nat → Int32) (c : Nat) : Prop := ∀ i, i < c → ∃ j, j < 60 ∧ a i = nI j
theorem se_58 {k : Nat} {k32 : Int32 → Int32 → mq_St → Option (Unit × mq_St)} (hN : 100 ≤ N) (hc : c ≤ 60) (hk : k < c) (hS : frX S0 S) : ∃ S', frX S0 S' ∧ zf_X11_settle_58 N z k32 N (nI c) (nI k) 0 S = k32 (nI c) (nI (k + 1)) S' := by
  refine lp_to (F := fun fu j T => zf_X11_settle_58 N z k32 fu (nI c) (nI k) j T) (n := c) (I := fun T => frX S0 T) (G := fun T => k32 (nI c) (nI (k + 1)) T) (fun fu T hI => ?_) (fun fu j T hj hI => ?_) N 0 S (by omega) (by omega) hS
  · show zf_X11_settle_58b N z k32 _ (nI c) (nI k) (nI c) T = _
    unfold zf_X11_settle_58b
    rw [if_pos (nI_le (Nat.le_refl _) (by omega)), nI_e, nI_1]
  · refine ⟨mq_sa T 35 (upd (T.2.1 35) (60 * k + j) (vp_nar .boolean (T.2.1 43 (60 * k + j)))), ag_tr hI (ag_sa (by decide)), ?_⟩
    show zf_X11_settle_58b N z k32 (fun v1 v2 v3 S => zf_X11_settle_58 N z k32 fu v1 v2 v3 S) (nI c) (nI k) (nI j) T = _
    unfold zf_X11_settle_58b
    have i1 : vp_in (nI (60 * k + j)) 3600 := vp_in_nI (by omega) (by omega)
    rw [if_neg (nI_ge hj (by omega)), e60, mq_ck_of i1, mq_ck_of i1, nI_clamp (by omega), nS_e, nI_e, nI_1]
theorem rf_settle (hN : 100 ≤ N) (hc : c ≤ 60) (hS : frX S0 S) (hl : wl (S.2.1 42) c) : ∃ S', frX S0 S' ∧ S'.1 31 = nI c ∧ zf_X11_settle N z (nI c) S = some ((), S') := by
  obtain ⟨T, ⟨a1, a2⟩, a3⟩ := lp_to (F := fun fu j T => zf_X11_settle_2 N z fu (nI c) j T) (n := c) (I := fun T => frX S0 T ∧ T.2.1 42 = S.2.1 42) (G := fun T => zf_X11_settle_32 N z N (nI c) 0 T) (fun fu T hI => by
    show zf_X11_settle_2b N z _ (nI c) (nI c) T = _
    unfold zf_X11_settle_2b
    rw [if_pos (nI_le (Nat.le_refl _) (by omega)), nI_e]) (fun fu j T hj hI => by
    obtain ⟨q, hq, hq'⟩ := hl j hj
    refine ⟨mq_sa T 40 (upd (T.2.1 40) j (T.2.1 34 q)), ⟨ag_tr hI.1 (ag_sa (by decide)), hI.2⟩, ?_⟩
    show zf_X11_settle_2b N z (fun v1 v2 S => zf_X11_settle_2 N z fu v1 v2 S) (nI c) (nI j) T = _
    unfold zf_X11_settle_2b
    have i1 : vp_in (nI j) 60 := vp_in_nI (by omega) (by omega)
    rw [if_neg (nI_ge hj (by omega)), mq_ck_of i1, nI_clamp (show j < 2147483648 by omega), hI.2, hq', mq_ck_of (vp_in_nI (by omega) (by omega)), mq_ck_of i1, nI_clamp (by omega), nS_e, nI_e, nI_1]) N 0 S (by omega) (by omega) ⟨hS, rfl⟩
  obtain ⟨T2, b1, b2⟩ := lp_to (F := fun fu j T => zf_X11_settle_32 N z fu (nI c) j T) (n := c) (I := fun T => frX S0 T) (G := fun T => some ((), mq_si T 31 (nI c))) (fun fu T hI => by
    show zf_X11_settle_32b N z _ (nI c) (nI c) T = _
    unfold zf_X11_settle_32b
    rw [if_pos (nI_le (Nat.le_refl _) (by omega)), nS_e]) (fun fu j T hj hI => by
    have i1 : vp_in (nI j) 60 := vp_in_nI (by omega) (by omega)
    obtain ⟨T', c1, c2⟩ := se_58 (N := N) (z := z) (k32 := fun v1 v2 S => zf_X11_settle_32 N z fu v1 v2 S) (S := mq_sa (mq_sa T 34 (upd (T.2.1 34) j (T.2.1 40 j))) 36 (upd (T.2.1 36) j (-1))) hN hc hj (ag_tr hI (ag_tr (ag_sa (by decide)) (ag_sa (by decide))))
    refine ⟨T', c1, ?_⟩
    show zf_X11_settle_32b N z (fun v1 v2 S => zf_X11_settle_32 N z fu v1 v2 S) (nI c) (nI j) T = _
    unfold zf_X11_settle_32b
    rw [if_neg (nI_ge hj (by omega)), mq_ck_of i1, mq_ck_of i1, nI_clamp (by omega), nS_e, mq_ck_of i1, nS_e, nI_e]
    exact c2) N 0 T (by omega) (by omega) a1
  refine ⟨mq_si T2 31 (nI c), ag_tr b1 (ag_si (by decide)), rfl, ?_⟩
  unfold zf_X11_settle
  rw [nI_e]
  exact Eq.trans a3 b2
theorem ct_74 {k : Nat} {k66 : Int32 → Int32 → mq_St → Option (Int32 × mq_St)} {a : Nat → Int32} (hN : 100 ≤ N) (hc : c ≤ 60) (hk : k < c) (hl : wl a c) (hS : frX S0 S ∧ S.2.1 42 = a) : ∃ S', (frX S0 S' ∧ S'.2.1 42 = a) ∧ zf_X11_cut_74 N z k66 N (nI c) (nI k) 0 S = k66 (nI c) (nI (k + 1)) S' := by
  refine lp_to (F := fun fu j T => zf_X11_cut_74 N z k66 fu (nI c) (nI k) j T) (n := c) (I := fun T => frX S0 T ∧ T.2.1 42 = a) (G := fun T => k66 (nI c) (nI (k + 1)) T) (fun fu T hI => ?_) (fun fu j T hj hI => ?_) N 0 S (by omega) (by omega) hS
  · show zf_X11_cut_74b N z k66 _ (nI c) (nI k) (nI c) T = _
    unfold zf_X11_cut_74b
    rw [if_pos (nI_le (Nat.le_refl _) (by omega)), nI_e, nI_1]
  · obtain ⟨q, hq, hq'⟩ := hl j hj
    obtain ⟨p, hp, hp'⟩ := hl k hk
    refine ⟨mq_sa T 43 (upd (T.2.1 43) (60 * k + j) (vp_nar .boolean (T.2.1 35 (60 * p + q)))), ⟨ag_tr hI.1 (ag_sa (by decide)), hI.2⟩, ?_⟩
    show zf_X11_cut_74b N z k66 (fun v2 v3 v4 S => zf_X11_cut_74 N z k66 fu v2 v3 v4 S) (nI c) (nI k) (nI j) T = _
    unfold zf_X11_cut_74b
    rw [if_neg (nI_ge hj (by omega)), mq_ck_of (show vp_in (nI k) 60 from vp_in_nI (by omega) (by omega)), mq_ck_of (show vp_in (nI j) 60 from vp_in_nI (by omega) (by omega)), nI_clamp (show k < 2147483648 by omega), nI_clamp (show j < 2147483648 by omega), hI.2, hp', hq', e60, e60, mq_ck_of (vp_in_nI (by omega) (by omega)), mq_ck_of (vp_in_nI (by omega) (by omega)), nI_clamp (by omega), nI_clamp (by omega), nS_e, nI_e, nI_1]
theorem ct_66 (hN : 100 ≤ N) (hc : c ≤ 60) (hl : wl (S.2.1 42) c) (hS : frX S0 S) : ∃ r S', frX S0 S' ∧ S'.1 31 = nI c ∧ zf_X11_cut_66 N z N (nI c) 0 S = some (r, S') := by
  obtain ⟨T, ⟨a1, a2⟩, a3⟩ := lp_to (F := fun fu j T => zf_X11_cut_66 N z fu (nI c) j T) (n := c) (I := fun T => frX S0 T ∧ T.2.1 42 = S.2.1 42) (G := fun T => mq_cl (zf_X11_settle N z (nI c) T) (fun q18v S20 => (some (nI c, S20)))) (fun fu T hI => by
    show zf_X11_cut_66b N z _ (nI c) (nI c) T = _
    unfold zf_X11_cut_66b
    rw [if_pos (nI_le (Nat.le_refl _) (by omega))]) (fun fu j T hj hI => by
    obtain ⟨T', c1, c2⟩ := ct_74 (N := N) (z := z) (k66 := fun v2 v3 S => zf_X11_cut_66 N z fu v2 v3 S) hN hc hj hl hI
    refine ⟨T', c1, ?_⟩
    show zf_X11_cut_66b N z (fun v2 v3 S => zf_X11_cut_66 N z fu v2 v3 S) (nI c) (nI j) T = _
    unfold zf_X11_cut_66b
    rw [if_neg (nI_ge hj (by omega)), nI_e]
    exact c2) N 0 S (by omega) (by omega) ⟨hS, rfl⟩
  obtain ⟨S', b1, b2, b3⟩ := rf_settle (N := N) (z := z) (S := T) hN hc a1 (by rw [a2]; exact hl)
  refine ⟨nI c, S', b1, b2, Eq.trans a3 ?_⟩
  rw [b3, mq_cl_s]
theorem ct_21 (hN : 100 ≤ N) (hW : W ≤ 60) (hw : w < W) : ∀ (fu k c : Nat) (S : mq_St), k ≤ W → W - k < fu → c ≤ k + 1 → (w < k → c ≤ k) → frX S0 S → S.1 31 = nI W → wl (S.2.1 42) c → ∃ r S' c', c' ≤ 60 ∧ frX S0 S' ∧ S'.1 31 = nI c' ∧ zf_X11_cut_21 N z fu (nI w) (nI c) (nI k) S = some (r, S')
  | 0, k, c, S, _, h, _, _, _, _, _ => by omega
  | fu + 1, k, c, S, hk, hfu, h1, h2, hS, h, hl => by
    show ∃ r S' c', c' ≤ 60 ∧ frX S0 S' ∧ S'.1 31 = nI c' ∧ zf_X11_cut_21b N z (fun v1 v2 v3 S => zf_X11_cut_21 N z fu v1 v2 v3 S) (nI w) (nI c) (nI k) S = some (r, S')
    unfold zf_X11_cut_21b zf_X11_cut_58
    rw [h]
    by_cases e : k = W
    · rw [e, if_pos (nI_le (Nat.le_refl _) (by omega)), nI_e]
      have hc : c ≤ 60 := by have := h2 (by omega); omega
      obtain ⟨r, S', a, b, c'⟩ := ct_66 (N := N) (z := z) hN hc hl hS
      exact ⟨r, S', c, hc, a, b, c'⟩
    · rw [if_neg (nI_ge (show k < W by omega) (by omega)), nI_e, nI_1]
      by_cases e' : nI k = nI w
      · have ekw : k = w := sp_inj e' (by omega) (by omega)
        rw [if_pos e']
        exact ct_21 hN hW hw fu (k + 1) c S (by omega) (by omega) (by omega) (fun _ => by omega) hS h hl
      · have nkw : k ≠ w := fun q => e' (by rw [q])
        rw [if_neg e', e60, mq_ck_of (vp_in_nI (by omega) (by omega))]
        by_cases er : S.2.1 35 (nI (60 * w + k)).toNatClampNeg = 0
        · rw [if_pos er]
          exact ct_21 hN hW hw fu (k + 1) c S (by omega) (by omega) (by omega) (fun _ => by omega) hS h hl
        · have hc : c < 60 := by
            by_cases q : w < k
            · have := h2 q; omega
            · omega
          rw [if_neg er, mq_ck_of (vp_in_nI hc (by omega)), nI_clamp (by omega), nS_e, nI_e, nI_1, nI_e]
          refine ct_21 hN hW hw fu (k + 1) (c + 1) _ (by omega) (by omega) (by omega) (fun q => by have := h2 (by omega); omega) (ag_tr hS (ag_sa (by decide))) h (fun i hi => ?_)
          by_cases q : i = c
          · exact ⟨k, by omega, by rw [q]; exact up_s _ _ _⟩
          · obtain ⟨j, hj, hj'⟩ := hl i (by omega)
            exact ⟨j, hj, (up_o q).trans hj'⟩
theorem rf_cut (v : Int32) (hN : 100 ≤ N) (h : S.1 31 = nI W) (hW : W ≤ 60) : ∃ r S' c', c' ≤ 60 ∧ frX S S' ∧ S'.1 31 = nI c' ∧ zf_X11_cut N z v S = some (r, S') := by
  unfold zf_X11_cut
  rcases rf_w0 (N := N) (z := z) v h hW with a | ⟨k, hk, e, a⟩
  · rw [a, mq_cl_s, if_pos rfl]; exact ⟨0, mq_si S 0 1, W, hW, ag_si (by decide), h, rfl⟩
  · rw [a, mq_cl_s, if_neg (by decide), mq_ck_of (show vp_in (0 : Int32) 60 from vp_in_nI (n := 0) (by omega) (by omega)), nS_e, nI_e, nI_e, e]
    exact ct_21 (N := N) (z := z) hN hW hk N 0 1 _ (by omega) (by omega) (by omega) (fun q => by omega) (ag_tr (ag_si (by decide)) (ag_sa (by decide))) h (fun i hi => ⟨k, by omega, by rw [show i = 0 by omega]; rfl⟩)
end RCUT
