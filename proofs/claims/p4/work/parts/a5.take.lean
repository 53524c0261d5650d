/-! takeModel() ends. -/
theorem lp_x {β : Type} {F : Nat → Int32 → mq_St → Option β} {n : Nat} {I : mq_St → Prop} {G : mq_St → Option β} (hend : ∀ fu S, I S → F (fu + 1) (nI n) S = G S) (hstep : ∀ fu k S, k < n → I S → ∃ S', I S' ∧ (F (fu + 1) (nI k) S = F fu (nI (k + 1)) S' ∨ F (fu + 1) (nI k) S = G S')) : ∀ (fu k : Nat) (S : mq_St), k ≤ n → n - k < fu → I S → ∃ S', I S' ∧ F fu (nI k) S = G S'
  | 0, k, S, _, h, _ => by omega
  | fu + 1, k, S, hk, hfu, hI => by
    by_cases e : k = n
    · subst e; exact ⟨S, hI, hend fu S hI⟩
    · obtain ⟨S', a, b | b⟩ := hstep fu k S (by omega) hI
      · obtain ⟨S2, c, d⟩ := lp_x hend hstep fu (k + 1) S' (by omega) (by omega) a
        exact ⟨S2, c, b.trans d⟩
      · exact ⟨S', a, b⟩
/-- the reference's model, and nothing else -/
def frK (S S' : mq_St) : Prop := ag [] [34, 35, 36] [] S S'
section TAKE
variable {N n : Nat} {z : Nat → Nat} {so on tw : Nat → Int32} {d : Nat → Nat} {S S0 : mq_St} {W w u : Nat}
theorem e60 (a b : Nat) : (60 : Int32) * nI a + nI b = nI (60 * a + b) := by rw [show (60 : Int32) = nI 60 from rfl, pk_mul, nI_add]
theorem tk_106 {k10 : Int32 → mq_St → Option (Unit × mq_St)} (hN : 100 ≤ N) (h24 : S0.1 24 = nI W) (hW : W ≤ 60) (hw : w < W) (hS : frK S0 S) : ∃ S', frK S0 S' ∧ zf_X11_takeModel_106 N z k10 N (nI w) (nI 0) S = k10 (nI (w + 1)) S' := by
  refine lp_to (F := fun fu k S => zf_X11_takeModel_106 N z k10 fu (nI w) k S) (n := W) (I := fun S' => frK S0 S') (G := fun S' => k10 (nI (w + 1)) S') (fun fu S hI => ?_) (fun fu k S hk hI => ?_) N 0 S (by omega) (by omega) hS
  · show zf_X11_takeModel_106b N z k10 _ (nI w) (nI W) S = _
    unfold zf_X11_takeModel_106b
    rw [hI.1 24 (by decide), h24, if_pos (nI_le (Nat.le_refl _) (by omega)), nI_e, nI_1]
  · show ∃ S', frK S0 S' ∧ zf_X11_takeModel_106b N z k10 (fun v1 v2 S => zf_X11_takeModel_106 N z k10 fu v1 v2 S) (nI w) (nI k) S = _
    have fin : ∀ t2 : Int32, ∃ S', frK S0 S' ∧ zf_X11_takeModel_148 N z k10 (fun v1 v2 S => zf_X11_takeModel_106 N z k10 fu v1 v2 S) (nI w) (nI k) (nI (60 * w + k)) t2 S = zf_X11_takeModel_106 N z k10 fu (nI w) (nI (k + 1)) S' := fun t2 => by
      refine ⟨mq_sa S 35 (upd (S.2.1 35) (60 * w + k) (vp_nar .boolean t2)), ag_tr hI (ag_sa (by decide)), ?_⟩
      unfold zf_X11_takeModel_148
      rw [mq_ck_of (vp_in_nI (by omega) (by omega)), nI_clamp (by omega), nS_e, nI_e, nI_1]
    unfold zf_X11_takeModel_106b zf_X11_takeModel_143
    rw [hI.1 24 (by decide), h24, if_neg (nI_ge hk (by omega)), e60, mq_ck_of (vp_in_nI (by omega) (by omega)), nI_clamp (by omega)]
    by_cases e : nI k = nI w
    · rw [if_pos e]; exact fin 1
    · rw [if_neg e]
      by_cases e' : S.2.1 22 (60 * w + k) = 0
      · rw [if_pos e']; exact fin 0
      · rw [if_neg e']; exact fin 1
theorem tk_34 {k10 : Int32 → mq_St → Option (Unit × mq_St)} (hN : 400 ≤ N) (hx : cxR S0 n so on tw d) (h24 : S0.1 24 = nI W) (hW : W ≤ 60) (hw : w < W) (hS : frK S0 S) : ∃ S', frK S0 S' ∧ zf_X11_takeModel_34 N z k10 N (nI w) (nI 0) S = k10 (nI (w + 1)) S' := by
  have h300 := hx.2.2.2.2.1
  have i1 : vp_in (nI w) 60 := vp_in_nI (by omega) (by omega)
  have c1 : (nI w).toNatClampNeg = w := nI_clamp (by omega)
  obtain ⟨S', a, b⟩ := lp_to (F := fun fu k S => zf_X11_takeModel_34 N z k10 fu (nI w) k S) (n := n) (I := fun S' => frK S0 S') (G := fun S' => zf_X11_takeModel_106 N z k10 N (nI w) (nI 0) S') (fun fu S hI => by
    show zf_X11_takeModel_34b N z k10 _ (nI w) (nI n) S = _
    unfold zf_X11_takeModel_34b
    rw [hI.1 3 (by decide), hx.1, if_pos (nI_le (Nat.le_refl _) (by omega)), nI_e]
    rfl) (fun fu k S hk hI => by
    show ∃ S', frK S0 S' ∧ zf_X11_takeModel_34b N z k10 (fun v1 v2 S => zf_X11_takeModel_34 N z k10 fu v1 v2 S) (nI w) (nI k) S = _
    have i2 : vp_in (nI k) 300 := vp_in_nI (by omega) (by omega)
    have c2 : (nI k).toNatClampNeg = k := nI_clamp (by omega)
    have hh := ri_in (N := N) (R := 60) (r := w) (f := k) (z := fun k => [600].getD k 0) (S := mq_pull S [] [19] []) rfl (by omega) (by omega) (by omega)
    have e10 : (10 : Int32) * nI w = nI (10 * w) := pk_mul 10 w
    unfold zf_X11_takeModel_34b zf_X11_takeModel_98
    rw [hI.1 3 (by decide), hx.1, if_neg (nI_ge hk (by omega)), e10, hh, mq_cp_s, nI_e, nI_1]
    by_cases e : (if ib ((mq_pull S [] [19] []).2.1 0) w k = true then (1 : Int32) else 0) = 0
    · rw [if_pos e]; exact ⟨S, hI, rfl⟩
    · rw [if_neg e, mq_ck_of i1, mq_ck_of i1, c1, nS_e, mq_ck_of i1, mq_ck_of i2, mq_ck_of i2, c2]
      have fin : ∀ t2 t3 : Int32, ∃ S', frK S0 S' ∧ zf_X11_takeModel_96 N z k10 (fun v1 v2 S => zf_X11_takeModel_34 N z k10 fu v1 v2 S) (nI w) (nI k) (nI w) t2 t3 (mq_sa S 36 (upd (S.2.1 36) w (S.2.1 36 w + 1))) = zf_X11_takeModel_34 N z k10 fu (nI w) (nI (k + 1)) S' := fun t2 t3 => by
        refine ⟨mq_sa (mq_sa S 36 (upd (S.2.1 36) w (S.2.1 36 w + 1))) 34 (upd (S.2.1 34) w (t2 ||| t3)), ag_tr hI (ag_tr (ag_sa (by decide)) (ag_sa (by decide))), ?_⟩
        unfold zf_X11_takeModel_96 zf_X11_takeModel_98
        rw [mq_ck_of i1, c1, nS_e, nI_e, nI_1]
        rfl
      by_cases e' : (mq_sa S 36 (upd (S.2.1 36) w (S.2.1 36 w + 1))).2.1 2 k = 2
      · rw [if_pos e']; exact fin _ _
      · rw [if_neg e']; exact fin _ _) N 0 S (by omega) (by omega) hS
  obtain ⟨S2, c, e⟩ := tk_106 (N := N) (z := z) (k10 := k10) (by omega) h24 hW hw a
  exact ⟨S2, c, b.trans e⟩
theorem tk_183 {k163 : Int32 → mq_St → Option (Unit × mq_St)} {k173 : Int32 → Int32 → mq_St → Option (Unit × mq_St)} (hN : 100 ≤ N) (h24 : S0.1 24 = nI W) (hW : W ≤ 60) (hw : w < W) (hu : u < W) (hS : frK S0 S) : ∃ S', frK S0 S' ∧ zf_X11_takeModel_183 N z k163 k173 N (nI w) (nI u) (nI 0) S = k173 (nI w) (nI (u + 1)) S' := by
  refine lp_x (F := fun fu k S => zf_X11_takeModel_183 N z k163 k173 fu (nI w) (nI u) k S) (n := W) (I := fun S' => frK S0 S') (G := fun S' => k173 (nI w) (nI (u + 1)) S') (fun fu S hI => ?_) (fun fu k S hk hI => ?_) N 0 S (by omega) (by omega) hS
  · show zf_X11_takeModel_183b N z k163 k173 _ (nI w) (nI u) (nI W) S = _
    unfold zf_X11_takeModel_183b zf_X11_takeModel_255
    rw [hI.1 24 (by decide), h24, if_pos (nI_le (Nat.le_refl _) (by omega)), nI_e, nI_1]
  · show ∃ S', frK S0 S' ∧ (zf_X11_takeModel_183b N z k163 k173 (fun v1 v2 v3 S => zf_X11_takeModel_183 N z k163 k173 fu v1 v2 v3 S) (nI w) (nI u) (nI k) S = _ ∨ zf_X11_takeModel_183b N z k163 k173 (fun v1 v2 v3 S => zf_X11_takeModel_183 N z k163 k173 fu v1 v2 v3 S) (nI w) (nI u) (nI k) S = _)
    have fin : ∀ t2 : Int32, ∃ S', frK S0 S' ∧ zf_X11_takeModel_248 N z k163 k173 (fun v1 v2 v3 S => zf_X11_takeModel_183 N z k163 k173 fu v1 v2 v3 S) (nI w) (nI u) (nI k) (nI (60 * u + k)) t2 S = zf_X11_takeModel_183 N z k163 k173 fu (nI w) (nI u) (nI (k + 1)) S' := fun t2 => by
      refine ⟨mq_sa S 35 (upd (S.2.1 35) (60 * u + k) (vp_nar .boolean t2)), ag_tr hI (ag_sa (by decide)), ?_⟩
      unfold zf_X11_takeModel_248
      rw [mq_ck_of (vp_in_nI (by omega) (by omega)), nI_clamp (by omega), nS_e, nI_e, nI_1]
    unfold zf_X11_takeModel_183b zf_X11_takeModel_243 zf_X11_takeModel_255
    rw [hI.1 24 (by decide), h24, if_neg (nI_ge hk (by omega)), e60, e60, e60, mq_ck_of (vp_in_nI (by omega) (by omega)), mq_ck_of (vp_in_nI (by omega) (by omega)), mq_ck_of (vp_in_nI (by omega) (by omega)), nI_clamp (by omega), nI_clamp (by omega), nI_clamp (by omega), nI_e, nI_1]
    by_cases e : S.2.1 35 (60 * u + w) = 0
    · exact ⟨S, hI, Or.inr (by rw [if_pos e])⟩
    · rw [if_neg e]
      by_cases e' : S.2.1 35 (60 * u + k) = 0
      · rw [if_pos e']
        by_cases e'' : S.2.1 35 (60 * w + k) = 0
        · rw [if_pos e'']
          obtain ⟨S', a, b⟩ := fin 0
          exact ⟨S', a, Or.inl b⟩
        · rw [if_neg e'']
          obtain ⟨S', a, b⟩ := fin 1
          exact ⟨S', a, Or.inl b⟩
      · rw [if_neg e']
        obtain ⟨S', a, b⟩ := fin 1
        exact ⟨S', a, Or.inl b⟩
theorem tk_all0 (hN : 400 ≤ N) (hx : cxR S n so on tw d) (h24 : S.1 24 = nI W) (hW : W ≤ 60) : ∃ S', frK S S' ∧ zf_X11_takeModel_10 N z N (nI 0) S = some ((), S') := by
  have l3 : ∀ S1, frK S S1 → ∃ S', frK S S' ∧ zf_X11_takeModel_163 N z N (nI 0) S1 = some ((), S') := fun S1 h1 => by
    refine lp_to (F := fun fu k S => zf_X11_takeModel_163 N z fu k S) (n := W) (I := fun S' => frK S S') (G := fun S' => some ((), S')) (fun fu T hI => ?_) (fun fu k T hk hI => ?_) N 0 S1 (by omega) (by omega) h1
    · show zf_X11_takeModel_163b N z _ (nI W) T = _
      unfold zf_X11_takeModel_163b
      rw [hI.1 24 (by decide), h24, if_pos (nI_le (Nat.le_refl _) (by omega))]
    · show ∃ S', frK S S' ∧ zf_X11_takeModel_163b N z (fun v1 S => zf_X11_takeModel_163 N z fu v1 S) (nI k) T = _
      unfold zf_X11_takeModel_163b
      rw [hI.1 24 (by decide), h24, if_neg (nI_ge hk (by omega)), nI_e]
      refine lp_to (F := fun fu2 j T => zf_X11_takeModel_173 N z (fun v1 S => zf_X11_takeModel_163 N z fu v1 S) fu2 (nI k) j T) (n := W) (I := fun S' => frK S S') (G := fun S' => zf_X11_takeModel_163 N z fu (nI (k + 1)) S') (fun fu2 T hI => ?_) (fun fu2 j T hj hI => ?_) N 0 T (by omega) (by omega) hI
      · show zf_X11_takeModel_173b N z _ _ (nI k) (nI W) T = _
        unfold zf_X11_takeModel_173b
        rw [hI.1 24 (by decide), h24, if_pos (nI_le (Nat.le_refl _) (by omega)), nI_e, nI_1]
      · obtain ⟨S', a, b⟩ := tk_183 (N := N) (z := z) (k163 := fun v1 S => zf_X11_takeModel_163 N z fu v1 S) (k173 := fun v1 v2 S => zf_X11_takeModel_173 N z (fun v1 S => zf_X11_takeModel_163 N z fu v1 S) fu2 v1 v2 S) (by omega) h24 hW hk hj hI
        refine ⟨S', a, ?_⟩
        show zf_X11_takeModel_173b N z (fun v1 S => zf_X11_takeModel_163 N z fu v1 S) (fun v1 v2 S => zf_X11_takeModel_173 N z (fun v1 S => zf_X11_takeModel_163 N z fu v1 S) fu2 v1 v2 S) (nI k) (nI j) T = _
        unfold zf_X11_takeModel_173b
        rw [hI.1 24 (by decide), h24, if_neg (nI_ge hj (by omega)), nI_e]
        exact b
  obtain ⟨S1, a, b⟩ := lp_to (F := fun fu k S => zf_X11_takeModel_10 N z fu k S) (n := W) (I := fun S' => frK S S') (G := fun S' => zf_X11_takeModel_163 N z N (nI 0) S') (fun fu T hI => by
    show zf_X11_takeModel_10b N z _ (nI W) T = _
    unfold zf_X11_takeModel_10b
    rw [hI.1 24 (by decide), h24, if_pos (nI_le (Nat.le_refl _) (by omega)), nI_e]
    rfl) (fun fu k T hk hI => by
    have i1 : vp_in (nI k) 60 := vp_in_nI (by omega) (by omega)
    have c1 : (nI k).toNatClampNeg = k := nI_clamp (by omega)
    obtain ⟨S', a, b⟩ := tk_34 (N := N) (z := z) (k10 := fun v1 S => zf_X11_takeModel_10 N z fu v1 S) (S := mq_sa (mq_sa T 34 (upd (T.2.1 34) k 0)) 36 (upd (T.2.1 36) k 0)) hN hx h24 hW hk (ag_tr hI (ag_tr (ag_sa (by decide)) (ag_sa (by decide))))
    refine ⟨S', a, ?_⟩
    show zf_X11_takeModel_10b N z (fun v1 S => zf_X11_takeModel_10 N z fu v1 S) (nI k) T = _
    unfold zf_X11_takeModel_10b
    rw [hI.1 24 (by decide), h24, if_neg (nI_ge hk (by omega)), mq_ck_of i1, c1, nS_e, mq_ck_of i1, nS_e, nI_e]
    exact b) N 0 S (by omega) (by omega) ag_rf
  obtain ⟨S2, c, e⟩ := l3 S1 a
  exact ⟨S2, c, b.trans e⟩
theorem tk_all (hN : 400 ≤ N) (hx : cxR S n so on tw d) (h24 : S.1 24 = nI W) (hW : W ≤ 60) : ∃ S', ag [31] [34, 35, 36] [] S S' ∧ S'.1 31 = nI W ∧ zf_X11_takeModel N z S = some ((), S') := by
  obtain ⟨S', a, b⟩ := tk_all0 (N := N) (z := z) (S := mq_si S 31 (nI W)) hN (cxR_c hx rfl rfl rfl rfl) h24 hW
  refine ⟨S', ag_tr (ag_si (by decide)) (ag_mono a (by decide) (by decide) (by decide)), (a.1 31 (by decide)).trans rfl, ?_⟩
  unfold zf_X11_takeModel
  rw [h24, nS_e, nI_e]
  exact b
end TAKE
