/-! The reference's model: fold() ends. -/
theorem lp_i {β : Type} {F : Nat → Int32 → mq_St → Option β} {n : Nat} {I : Nat → mq_St → Prop} {G : mq_St → Option β} (hend : ∀ fu S, I n S → F (fu + 1) (nI n) S = G S) (hstep : ∀ fu k S, k < n → I k S → ∃ S', I (k + 1) S' ∧ F (fu + 1) (nI k) S = F fu (nI (k + 1)) S') : ∀ (fu k : Nat) (S : mq_St), k ≤ n → n - k < fu → I k S → ∃ S', I n S' ∧ F fu (nI k) S = G S'
  | 0, k, S, _, h, _ => by omega
  | fu + 1, k, S, hk, hfu, hI => by
    by_cases e : k = n
    · subst e; exact ⟨S, hI, hend fu S hI⟩
    · obtain ⟨S', a, b⟩ := hstep fu k S (by omega) hI
      obtain ⟨S2, c, d⟩ := lp_i hend hstep fu (k + 1) S' (by omega) (by omega) a
      exact ⟨S2, c, b.trans d⟩
section RFOLD2
variable {N n : Nat} {z : Nat → Nat} {S S0 : mq_St} {W w c : Nat}
/-- each of the first k worlds has a world before it, or itself, as the head of its class -/
def hd (a : Nat → Int32) (k : Nat) : Prop := ∀ v, v < k → ∃ u, u ≤ v ∧ a v = nI u
/-- the sum of a row's first k numbers -/
def sm (a : Nat → Int32) : Nat → Nat
  | 0 => 0
  | k + 1 => sm a k + (a k).toNatClampNeg
theorem sm_b {a : Nat → Int32} : ∀ k, k ≤ 60 → hd a k → sm a k ≤ 60 * k
  | 0, _, _ => Nat.le_refl _
  | k + 1, hk, h => by
    obtain ⟨u, hu, e⟩ := h k (by omega)
    have := sm_b k (by omega) (fun v hv => h v (by omega))
    show sm a k + (a k).toNatClampNeg ≤ _
    rw [e, nI_clamp (by omega)]; omega
theorem sm_le {a b : Nat → Int32} : ∀ k, (∀ v, v < k → (a v).toNatClampNeg ≤ (b v).toNatClampNeg) → sm a k ≤ sm b k
  | 0, _ => Nat.le_refl _
  | k + 1, h => Nat.add_le_add (sm_le k (fun v hv => h v (by omega))) (h k (by omega))
theorem sm_lt {a b : Nat → Int32} : ∀ k, (∀ v, v < k → (a v).toNatClampNeg ≤ (b v).toNatClampNeg) → (∃ v, v < k ∧ (a v).toNatClampNeg < (b v).toNatClampNeg) → sm a k < sm b k
  | 0, _, ⟨v, hv, _⟩ => by omega
  | k + 1, h, ⟨v, hv, hl⟩ => by
    show sm a k + (a k).toNatClampNeg < sm b k + (b k).toNatClampNeg
    by_cases e : v = k
    · subst e
      exact Nat.add_lt_add_of_le_of_lt (sm_le v (fun q hq => h q (by omega))) hl
    · exact Nat.add_lt_add_of_lt_of_le (sm_lt k (fun q hq => h q (by omega)) ⟨v, by omega, hl⟩) (h k (by omega))
theorem fo_19 {k12 : Int32 → Int32 → mq_St → Option (Int32 × mq_St)} {v : Nat} (hW : W ≤ 60) (hv : v < W) : ∀ (fu u : Nat), u ≤ v → v - u < fu → ∃ k, k ≤ v ∧ zf_X11_fold_19 N z k12 fu (nI W) (nI v) (nI u) S = k12 (nI W) (nI (v + 1)) (mq_sa S 39 (upd (S.2.1 39) v (nI k)))
  | 0, u, _, h => by omega
  | fu + 1, u, hu, hfu => by
    show ∃ k, k ≤ v ∧ zf_X11_fold_19b N z k12 (fun v1 v2 v3 S => zf_X11_fold_19 N z k12 fu v1 v2 v3 S) (nI W) (nI v) (nI u) S = _
    unfold zf_X11_fold_19b
    rw [mq_ck_of (show vp_in (nI u) 60 from vp_in_nI (by omega) (by omega)), mq_ck_of (show vp_in (nI v) 60 from vp_in_nI (by omega) (by omega)), nI_clamp (show u < 2147483648 by omega), nI_clamp (show v < 2147483648 by omega), mq_ck_of (show vp_in (nI v) 60 from vp_in_nI (by omega) (by omega)), nS_e, nI_e, nI_e, nI_1, nI_1]
    by_cases e : S.2.1 34 u = S.2.1 34 v
    · rw [if_pos e]; exact ⟨u, hu, rfl⟩
    · rw [if_neg e]
      have : u ≠ v := fun q => e (by rw [q])
      exact fo_19 hW hv fu (u + 1) (by omega) (by omega)
theorem fo_75 {k55 : Int32 → Int32 → mq_St → Option (Int32 × mq_St)} {k67 : Int32 → Int32 → Int32 → mq_St → Option (Int32 × mq_St)} {t : Int32} {v : Nat} (hN : 100 ≤ N) (h : S.1 31 = nI W) (hW : W ≤ 60) (hv : v < W) : ∀ (fu u : Nat), u ≤ v → v - u < fu → ∃ k, k ≤ v ∧ S.2.1 39 k = S.2.1 39 v ∧ zf_X11_fold_75 N z k55 k67 fu (nI W) t (nI v) (nI u) S = k67 (nI W) t (nI (v + 1)) (mq_sa S 40 (upd (S.2.1 40) v (nI k)))
  | 0, u, _, h => by omega
  | fu + 1, u, hu, hfu => by
    show ∃ k, k ≤ v ∧ S.2.1 39 k = S.2.1 39 v ∧ zf_X11_fold_75b N z k55 k67 (fun v1 v2 v3 v4 S => zf_X11_fold_75 N z k55 k67 fu v1 v2 v3 v4 S) (nI W) t (nI v) (nI u) S = _
    unfold zf_X11_fold_75b
    obtain ⟨r, h1, h2, h3⟩ := rf_alike (N := N) (z := z) (S := S) (a := u) (b := v) hN h hW (by omega) hv
    rw [h1, mq_cp_s, mq_ck_of (show vp_in (nI v) 60 from vp_in_nI (by omega) (by omega)), nI_clamp (show v < 2147483648 by omega), nS_e, nI_e, nI_e, nI_1, nI_1]
    by_cases e : r = 0
    · rw [if_pos e]
      have : u ≠ v := fun q => h3 q e
      exact fo_75 hN h hW hv fu (u + 1) (by omega) (by omega)
    · rw [if_neg e]; exact ⟨u, hu, h2 e, rfl⟩
theorem fo_107 {k55 : Int32 → Int32 → mq_St → Option (Int32 × mq_St)} {a b : Nat → Int32} (hW : W ≤ 60) : ∀ (fu k : Nat) (t : Int32) (S : mq_St), k ≤ W → W - k < fu → frX S0 S → S.1 31 = nI W → S.2.1 40 = b → (∀ v, S.2.1 39 v = if v < k then b v else a v) → ((t = 0 ∧ ∀ v, v < k → b v = a v) ∨ (t = 1 ∧ ∃ v, v < k ∧ b v ≠ a v)) → ∃ t' S', ((t' = 0 ∧ ∀ v, v < W → b v = a v) ∨ (t' = 1 ∧ ∃ v, v < W ∧ b v ≠ a v)) ∧ frX S0 S' ∧ S'.1 31 = nI W ∧ (∀ v, v < W → S'.2.1 39 v = b v) ∧ zf_X11_fold_107 N z k55 fu (nI W) t (nI k) S = k55 (nI W) t' S'
  | 0, k, t, S, _, h, _, _, _, _, _ => by omega
  | fu + 1, k, t, S, hk, hfu, hS, h, hb, ha, ht => by
    show ∃ t' S', _ ∧ _ ∧ _ ∧ _ ∧ zf_X11_fold_107b N z k55 (fun v1 v2 v3 S => zf_X11_fold_107 N z k55 fu v1 v2 v3 S) (nI W) t (nI k) S = _
    unfold zf_X11_fold_107b
    by_cases e : k = W
    · rw [e, if_pos (nI_le (Nat.le_refl _) (by omega))]
      subst e
      exact ⟨t, S, ht, hS, h, fun v hv => by rw [ha, if_pos hv], rfl⟩
    · rw [if_neg (nI_ge (show k < W by omega) (by omega))]
      have i1 : vp_in (nI k) 60 := vp_in_nI (by omega) (by omega)
      have st : ∀ t2 : Int32, zf_X11_fold_136 N z k55 (fun v1 v2 v3 S => zf_X11_fold_107 N z k55 fu v1 v2 v3 S) (nI W) (nI k) t2 S = zf_X11_fold_107 N z k55 fu (nI W) t2 (nI (k + 1)) (mq_sa S 39 (upd (S.2.1 39) k (b k))) := fun t2 => by
        unfold zf_X11_fold_136
        rw [nI_e, mq_ck_of i1, mq_ck_of i1, nI_clamp (show k < 2147483648 by omega), nS_e, nI_e, nI_1, hb]
      have ha' : ∀ v, (mq_sa S 39 (upd (S.2.1 39) k (b k))).2.1 39 v = if v < k + 1 then b v else a v := fun v => by
        show upd (S.2.1 39) k (b k) v = _
        by_cases q : v = k
        · rw [q, up_s, if_pos (by omega)]
        · rw [up_o q, ha]
          by_cases q' : v < k
          · rw [if_pos q', if_pos (by omega)]
          · rw [if_neg q', if_neg (by omega)]
      have go := fun t2 => fo_107 (k55 := k55) (a := a) (b := b) hW fu (k + 1) t2 (mq_sa S 39 (upd (S.2.1 39) k (b k))) (by omega) (by omega) (ag_tr hS (ag_sa (by decide))) h hb ha'
      unfold zf_X11_fold_131
      rw [st, st, mq_ck_of i1, mq_ck_of i1, nI_clamp (show k < 2147483648 by omega), hb, ha, if_neg (Nat.lt_irrefl _)]
      rcases ht with ⟨t0, q⟩ | ⟨t1, v, hv, q⟩
      · rw [if_pos t0]
        by_cases e2 : b k = a k
        · rw [if_pos e2]
          refine go 0 (Or.inl ⟨rfl, fun v hv => ?_⟩)
          by_cases q' : v = k
          · rw [q']; exact e2
          · exact q v (by omega)
        · rw [if_neg e2]
          exact go 1 (Or.inr ⟨rfl, k, by omega, e2⟩)
      · rw [if_neg (by rw [t1]; decide)]
        exact go 1 (Or.inr ⟨rfl, v, by omega, q⟩)
theorem fo_233 {j k : Nat} {a : Nat → Int32} {k201 : Int32 → Int32 → Int32 → mq_St → Option (Int32 × mq_St)} {k210 : Int32 → Int32 → Int32 → Int32 → mq_St → Option (Int32 × mq_St)} (hN : 100 ≤ N) (hW : W ≤ 60) (hc : c ≤ 60) (hk : k < c) (hj : j < c) (hS : frX S0 S ∧ S.1 31 = nI W ∧ S.2.1 42 = a) : ∃ S', (frX S0 S' ∧ S'.1 31 = nI W ∧ S'.2.1 42 = a) ∧ zf_X11_fold_233 N z k201 k210 N (nI W) (nI c) (nI k) (nI j) 0 S = k210 (nI W) (nI c) (nI k) (nI (j + 1)) S' := by
  refine lp_to (F := fun fu i T => zf_X11_fold_233 N z k201 k210 fu (nI W) (nI c) (nI k) (nI j) i T) (n := W) (I := fun T => frX S0 T ∧ T.1 31 = nI W ∧ T.2.1 42 = a) (G := fun T => k210 (nI W) (nI c) (nI k) (nI (j + 1)) T) (fun fu T hI => ?_) (fun fu i T hi hI => ?_) N 0 S (by omega) (by omega) hS
  · show zf_X11_fold_233b N z k201 k210 _ (nI W) (nI c) (nI k) (nI j) (nI W) T = _
    unfold zf_X11_fold_233b
    rw [if_pos (nI_le (Nat.le_refl _) (by omega)), nI_e, nI_1]
  · show ∃ S', _ ∧ zf_X11_fold_233b N z k201 k210 (fun v1 v3 v4 v5 v6 S => zf_X11_fold_233 N z k201 k210 fu v1 v3 v4 v5 v6 S) (nI W) (nI c) (nI k) (nI j) (nI i) T = _
    unfold zf_X11_fold_233b zf_X11_fold_300 zf_X11_fold_304 zf_X11_fold_305
    obtain ⟨r, hr⟩ := rf_group (N := N) (z := z) (S := T) (w := i) (T.2.1 42 j) hN hI.2.1 hW hi
    rw [if_neg (nI_ge hi (by omega)), e60, mq_ck_of (vp_in_nI (by omega) (by omega)), mq_ck_of (show vp_in (nI i) 60 from vp_in_nI (by omega) (by omega)), mq_ck_of (show vp_in (nI k) 60 from vp_in_nI (by omega) (by omega)), mq_ck_of (show vp_in (nI j) 60 from vp_in_nI (by omega) (by omega)), nI_clamp (show j < 2147483648 by omega), hr, mq_cp_s]
    have go : ∀ t2 : Int32, (mq_ck (nI (60 * k + j)) 3600 (mq_nS (mq_sa T 43 (upd (T.2.1 43) (nI (60 * k + j)).toNatClampNeg (vp_nar .boolean t2))) (fun S72 => mq_nI (nI i + 1) (fun x73 => zf_X11_fold_233 N z k201 k210 fu (nI W) (nI c) (nI k) (nI j) x73 S72)))) = zf_X11_fold_233 N z k201 k210 fu (nI W) (nI c) (nI k) (nI j) (nI (i + 1)) (mq_sa T 43 (upd (T.2.1 43) (nI (60 * k + j)).toNatClampNeg (vp_nar .boolean t2))) := fun t2 => by
      rw [mq_ck_of (vp_in_nI (by omega) (by omega)), nS_e, nI_e, nI_1]
    have inv : ∀ t2 : Int32, frX S0 (mq_sa T 43 (upd (T.2.1 43) (nI (60 * k + j)).toNatClampNeg (vp_nar .boolean t2))) ∧ (mq_sa T 43 (upd (T.2.1 43) (nI (60 * k + j)).toNatClampNeg (vp_nar .boolean t2))).1 31 = nI W ∧ (mq_sa T 43 (upd (T.2.1 43) (nI (60 * k + j)).toNatClampNeg (vp_nar .boolean t2))).2.1 42 = a := fun t2 => ⟨ag_tr hI.1 (ag_sa (by decide)), hI.2⟩
    repeat' split
    all_goals exact ⟨_, inv _, go _⟩
theorem fo_201 {a : Nat → Int32} (hN : 100 ≤ N) (hW : W ≤ 60) (hc : c ≤ 60) (hl : wl a c) (hS : frX S0 S ∧ S.1 31 = nI W ∧ S.2.1 42 = a) : ∃ S', frX S0 S' ∧ S'.1 31 = nI c ∧ zf_X11_fold_201 N z N (nI W) (nI c) 0 S = some (nI c, S') := by
  obtain ⟨T, a1, a2⟩ := lp_to (F := fun fu k T => zf_X11_fold_201 N z fu (nI W) (nI c) k T) (n := c) (I := fun T => frX S0 T ∧ T.1 31 = nI W ∧ T.2.1 42 = a) (G := fun T => mq_cl (zf_X11_settle N z (nI c) T) (fun _ S52 => some (nI c, S52))) (fun fu T hI => by
    show zf_X11_fold_201b N z _ (nI W) (nI c) (nI c) T = _
    unfold zf_X11_fold_201b
    rw [if_pos (nI_le (Nat.le_refl _) (by omega))]) (fun fu k T hk hI => by
    show ∃ S', _ ∧ zf_X11_fold_201b N z (fun v1 v3 v4 S => zf_X11_fold_201 N z fu v1 v3 v4 S) (nI W) (nI c) (nI k) T = _
    unfold zf_X11_fold_201b
    rw [if_neg (nI_ge hk (by omega)), nI_e]
    refine lp_to (F := fun fu2 j T => zf_X11_fold_210 N z (fun v1 v3 v4 S => zf_X11_fold_201 N z fu v1 v3 v4 S) fu2 (nI W) (nI c) (nI k) j T) (n := c) (I := fun T => frX S0 T ∧ T.1 31 = nI W ∧ T.2.1 42 = a) (G := fun T => zf_X11_fold_201 N z fu (nI W) (nI c) (nI (k + 1)) T) (fun fu2 T hI => ?_) (fun fu2 j T hj hI => ?_) N 0 T (by omega) (by omega) hI
    · show zf_X11_fold_210b N z _ _ (nI W) (nI c) (nI k) (nI c) T = _
      unfold zf_X11_fold_210b
      rw [if_pos (nI_le (Nat.le_refl _) (by omega)), nI_e, nI_1]
    · show ∃ S', _ ∧ zf_X11_fold_210b N z (fun v1 v3 v4 S => zf_X11_fold_201 N z fu v1 v3 v4 S) (fun v1 v3 v4 v5 S => zf_X11_fold_210 N z (fun v1 v3 v4 S => zf_X11_fold_201 N z fu v1 v3 v4 S) fu2 v1 v3 v4 v5 S) (nI W) (nI c) (nI k) (nI j) T = _
      unfold zf_X11_fold_210b
      rw [if_neg (nI_ge hj (by omega)), e60, mq_ck_of (vp_in_nI (by omega) (by omega)), nS_e, nI_e]
      exact fo_233 (S0 := S0) hN hW hc hk hj ⟨ag_tr hI.1 (ag_sa (by decide)), hI.2⟩) N 0 S (by omega) (by omega) hS
  obtain ⟨S', b1, b2, b3⟩ := rf_settle (N := N) (z := z) (S := T) hN hc a1.1 (by rw [a1.2.2]; exact hl)
  refine ⟨S', b1, b2, Eq.trans a2 ?_⟩
  rw [b3, mq_cl_s]
theorem fo_163 (hN : 100 ≤ N) (hW : W ≤ 60) : ∀ (fu k c : Nat) (S : mq_St), k ≤ W → W - k < fu → c ≤ k → frX S0 S → S.1 31 = nI W → wl (S.2.1 42) c → ∃ r S' c', c' ≤ 60 ∧ frX S0 S' ∧ S'.1 31 = nI c' ∧ zf_X11_fold_163 N z fu (nI W) (nI c) (nI k) S = some (r, S')
  | 0, k, c, S, _, h, _, _, _, _ => by omega
  | fu + 1, k, c, S, hk, hfu, h1, hS, h, hl => by
    show ∃ r S' c', _ ∧ _ ∧ _ ∧ zf_X11_fold_163b N z (fun v1 v3 v4 S => zf_X11_fold_163 N z fu v1 v3 v4 S) (nI W) (nI c) (nI k) S = _
    unfold zf_X11_fold_163b zf_X11_fold_192
    by_cases e : k = W
    · rw [e, if_pos (nI_le (Nat.le_refl _) (by omega)), nI_e]
      obtain ⟨S', a, b, c'⟩ := fo_201 (N := N) (z := z) hN hW (show c ≤ 60 by omega) hl ⟨hS, h, rfl⟩
      exact ⟨_, S', c, by omega, a, b, c'⟩
    · rw [if_neg (nI_ge (show k < W by omega) (by omega)), mq_ck_of (vp_in_nI (by omega) (by omega)), mq_ck_of (vp_in_nI (show c < 60 by omega) (by omega)), nI_clamp (show c < 2147483648 by omega), nS_e, nI_e, nI_e, nI_e, nI_1, nI_1]
      split
      · refine fo_163 hN hW fu (k + 1) (c + 1) _ (by omega) (by omega) (by omega) (ag_tr hS (ag_sa (by decide))) h (fun i hi => ?_)
        by_cases q : i = c
        · exact ⟨k, by omega, by rw [q]; exact up_s _ _ _⟩
        · obtain ⟨j, hj, hj'⟩ := hl i (by omega)
          exact ⟨j, hj, (up_o q).trans hj'⟩
      · exact fo_163 hN hW fu (k + 1) c S (by omega) (by omega) (by omega) hS h hl
theorem fo_55 (hN : 4000 ≤ N) (hW : W ≤ 60) : ∀ (fu : Nat) (S : mq_St), 3602 ≤ sm (S.2.1 39) W + fu → frX S0 S → S.1 31 = nI W → hd (S.2.1 39) W → ∃ r S' c', c' ≤ 60 ∧ frX S0 S' ∧ S'.1 31 = nI c' ∧ zf_X11_fold_55 N z fu (nI W) 1 S = some (r, S')
  | 0, S, h1, hS, h, hh => by have := sm_b W hW hh; omega
  | fu + 1, S, h1, hS, h, hh => by
    show ∃ r S' c', _ ∧ _ ∧ _ ∧ zf_X11_fold_55b N z (fun v1 v2 S => zf_X11_fold_55 N z fu v1 v2 S) (nI W) 1 S = _
    unfold zf_X11_fold_55b
    obtain ⟨T, a1, a2⟩ := rf_look (N := N) (z := z) (S := S) (by omega) h hW
    have hT : T.1 31 = nI W := (a1.1 31 (by decide)).trans h
    have h39 : T.2.1 39 = S.2.1 39 := a1.2.1 39 (by decide)
    rw [if_neg (by decide), nI_e, a2, mq_cl_s, nI_e]
    obtain ⟨T2, ⟨c1, c2⟩, c3⟩ := lp_i (F := fun fu2 k T => zf_X11_fold_67 N z (fun v1 v2 S => zf_X11_fold_55 N z fu v1 v2 S) fu2 (nI W) 0 k T) (n := W) (I := fun k T2 => ag [] [40] [] T T2 ∧ ∀ v, v < k → ∃ u, u ≤ v ∧ T2.2.1 40 v = nI u ∧ S.2.1 39 u = S.2.1 39 v) (G := fun T2 => zf_X11_fold_107 N z (fun v1 v2 S => zf_X11_fold_55 N z fu v1 v2 S) N (nI W) 0 0 T2) (fun fu2 T2 hI => by
      show zf_X11_fold_67b N z _ _ (nI W) 0 (nI W) T2 = _
      unfold zf_X11_fold_67b
      rw [if_pos (nI_le (Nat.le_refl _) (by omega)), nI_e]) (fun fu2 k T2 hk hI => by
      have hT2 : T2.1 31 = nI W := (hI.1.1 31 (by decide)).trans hT
      have h39' : T2.2.1 39 = S.2.1 39 := (hI.1.2.1 39 (by decide)).trans h39
      obtain ⟨u, d1, d2, d3⟩ := fo_75 (N := N) (z := z) (S := T2) (k55 := fun v1 v2 S => zf_X11_fold_55 N z fu v1 v2 S) (k67 := fun v1 v2 v3 S => zf_X11_fold_67 N z (fun v1 v2 S => zf_X11_fold_55 N z fu v1 v2 S) fu2 v1 v2 v3 S) (t := 0) (by omega) hT2 hW hk N 0 (by omega) (by omega)
      refine ⟨mq_sa T2 40 (upd (T2.2.1 40) k (nI u)), ⟨ag_tr hI.1 (ag_sa (by decide)), fun v hv => ?_⟩, ?_⟩
      · by_cases q : v = k
        · exact ⟨u, by omega, by rw [q]; exact up_s _ _ _, by rw [q, ← h39']; exact d2⟩
        · obtain ⟨u', e1, e2, e3⟩ := hI.2 v (by omega)
          exact ⟨u', e1, (up_o q).trans e2, e3⟩
      · show zf_X11_fold_67b N z (fun v1 v2 S => zf_X11_fold_55 N z fu v1 v2 S) (fun v1 v2 v3 S => zf_X11_fold_67 N z (fun v1 v2 S => zf_X11_fold_55 N z fu v1 v2 S) fu2 v1 v2 v3 S) (nI W) 0 (nI k) T2 = _
        unfold zf_X11_fold_67b
        rw [if_neg (nI_ge hk (by omega)), nI_e]
        exact d3) N 0 T (by omega) (by omega) ⟨ag_rf, fun v hv => by omega⟩
    have hT2 : T2.1 31 = nI W := (c1.1 31 (by decide)).trans hT
    have h39' : T2.2.1 39 = S.2.1 39 := (c1.2.1 39 (by decide)).trans h39
    have fS : frX S T2 := ag_tr (ag_mono a1 (by decide) (by decide) (by decide)) (ag_mono c1 (by decide) (by decide) (by decide))
    obtain ⟨t', T3, e1, e2, e3, e4, e5⟩ := fo_107 (N := N) (z := z) (S0 := S0) (k55 := fun v1 v2 S => zf_X11_fold_55 N z fu v1 v2 S) (a := S.2.1 39) (b := T2.2.1 40) hW N 0 0 T2 (by omega) (by omega) (ag_tr hS fS) hT2 rfl (fun v => by rw [if_neg (by omega), h39']) (Or.inl ⟨rfl, fun v hv => by omega⟩)
    have ge : ∀ v, v < W → (S.2.1 39 v).toNatClampNeg ≤ (T2.2.1 40 v).toNatClampNeg := fun v hv => by
      obtain ⟨u, f1, f2, f3⟩ := c2 v hv
      obtain ⟨p, g1, g2⟩ := hh u (by omega)
      rw [f2, ← f3, g2, nI_clamp (by omega), nI_clamp (by omega)]; exact g1
    have hh3 : hd (T3.2.1 39) W := fun v hv => by
      obtain ⟨u, f1, f2, f3⟩ := c2 v hv
      exact ⟨u, f1, by rw [e4 v hv, f2]⟩
    have s3 : ∀ k, k ≤ W → sm (T3.2.1 39) k = sm (T2.2.1 40) k := fun k => by
      induction k with
      | zero => intro _; rfl
      | succ k ih => intro hk; show sm _ k + _ = sm _ k + _; rw [ih (by omega), e4 k (by omega)]
    rcases e1 with ⟨q, -⟩ | ⟨q, v, hv, g⟩
    · have hfu : 1 ≤ fu := by have := sm_b W hW hh; omega
      obtain ⟨fu', rfl⟩ : ∃ f', fu = f' + 1 := ⟨fu - 1, by omega⟩
      obtain ⟨r, S', c', g1, g2, g3, g4⟩ := fo_163 (N := N) (z := z) (S0 := S0) (by omega) hW N 0 0 T3 (by omega) (by omega) (by omega) e2 e3 (fun i hi => by omega)
      refine ⟨r, S', c', g1, g2, g3, (Eq.trans c3 e5).trans ?_⟩
      show zf_X11_fold_55b N z _ (nI W) t' T3 = _
      unfold zf_X11_fold_55b
      rw [if_pos q, nI_e, nI_e]
      exact g4
    · have lt : sm (S.2.1 39) W < sm (T2.2.1 40) W := sm_lt W ge ⟨v, hv, by
        obtain ⟨u, f1, f2, f3⟩ := c2 v hv
        obtain ⟨p, g1, g2⟩ := hh u (by omega)
        have := ge v hv
        have ne : (S.2.1 39 v).toNatClampNeg ≠ (T2.2.1 40 v).toNatClampNeg := fun q => g (by
          rw [f2, ← f3, g2] at q ⊢
          rw [nI_clamp (by omega), nI_clamp (by omega)] at q
          rw [q])
        omega⟩
      obtain ⟨r, S', c', g1, g2, g3, g4⟩ := fo_55 hN hW fu T3 (by rw [s3 W (Nat.le_refl _)]; omega) e2 e3 hh3
      exact ⟨r, S', c', g1, g2, g3, (Eq.trans c3 e5).trans (by rw [q]; exact g4)⟩
theorem rf_fold (hN : 4000 ≤ N) (h : S.1 31 = nI W) (hW : W ≤ 60) : ∃ r S' c', c' ≤ 60 ∧ frX S S' ∧ S'.1 31 = nI c' ∧ zf_X11_fold N z S = some (r, S') := by
  unfold zf_X11_fold
  rw [nS_e, nI_e, nI_e, show (mq_si S 0 0).1 31 = nI W from h]
  obtain ⟨T, ⟨a1, a2, a3⟩, a4⟩ := lp_i (F := fun fu k T => zf_X11_fold_12 N z fu (nI W) k T) (n := W) (I := fun k T => frX S T ∧ T.1 31 = nI W ∧ hd (T.2.1 39) k) (G := fun T => zf_X11_fold_55 N z N (nI W) 1 T) (fun fu T hI => by
    show zf_X11_fold_12b N z _ (nI W) (nI W) T = _
    unfold zf_X11_fold_12b
    rw [if_pos (nI_le (Nat.le_refl _) (by omega)), nI_e]) (fun fu k T hk hI => by
    obtain ⟨u, b1, b2⟩ := fo_19 (N := N) (z := z) (S := T) (k12 := fun v1 v2 S => zf_X11_fold_12 N z fu v1 v2 S) hW hk N 0 (by omega) (by omega)
    refine ⟨mq_sa T 39 (upd (T.2.1 39) k (nI u)), ⟨ag_tr hI.1 (ag_sa (by decide)), hI.2.1, fun v hv => ?_⟩, ?_⟩
    · by_cases q : v = k
      · exact ⟨u, by omega, by rw [q]; exact up_s _ _ _⟩
      · obtain ⟨u', e1, e2⟩ := hI.2.2 v (by omega)
        exact ⟨u', e1, (up_o q).trans e2⟩
    · show zf_X11_fold_12b N z (fun v1 v2 S => zf_X11_fold_12 N z fu v1 v2 S) (nI W) (nI k) T = _
      unfold zf_X11_fold_12b
      rw [if_neg (nI_ge hk (by omega)), nI_e]
      exact b2) N 0 (mq_si S 0 0) (by omega) (by omega) ⟨ag_si (by decide), h, fun v hv => by omega⟩
  obtain ⟨r, S', c', g1, g2, g3, g4⟩ := fo_55 (N := N) (z := z) (S0 := S) hN hW N T (by omega) a1 a2 a3
  exact ⟨r, S', c', g1, g2, g3, Eq.trans a4 g4⟩
end RFOLD2
