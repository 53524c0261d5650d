/-! The tableau: the world that has a START already. -/
section HOME
variable {N n F : Nat} {z : Nat → Nat} {so on tw : Nat → Int32} {d : Nat → Nat} {S T SC SR : mq_St} {st W w ec ln wt m f p : Nat} {R : List Nat}
theorem sp_14 {v : Nat} {k5 : Int32 → Option Int32} (hv : v < 60) : ∀ (fu k : Nat), k ≤ 10 → 10 - k + 1 < fu → (∀ j, j < k → T.2.1 18 (10 * v + j) = T.2.1 31 j) →
    ((∀ j, j < 10 → T.2.1 18 (10 * v + j) = T.2.1 31 j) ∧ zf_X11_samePlace_14 N z T k5 fu (nI v) 1 (nI k) = some (nI v)) ∨ ((¬ ∀ j, j < 10 → T.2.1 18 (10 * v + j) = T.2.1 31 j) ∧ zf_X11_samePlace_14 N z T k5 fu (nI v) 1 (nI k) = k5 (T.2.1 20 v))
  | 0, k, _, h, _ => by omega
  | fu + 1, k, hk, hfu, hj => by
    have s1 : ∀ a b, zf_X11_samePlace_14 N z T k5 (fu + 1) (nI v) a b = zf_X11_samePlace_14b N z T k5 (fun v1 v2 v3 => zf_X11_samePlace_14 N z T k5 fu v1 v2 v3) (nI v) a b := fun _ _ => rfl
    by_cases e : k = 10
    · left
      refine ⟨fun j q => hj j (by omega), ?_⟩
      rw [s1]; unfold zf_X11_samePlace_14b zf_X11_samePlace_56
      rw [e, if_pos (by decide), if_neg (by decide)]
    · have e1 : (10 : Int32) * nI v + nI k = nI (10 * v + k) := by rw [show (10 : Int32) = nI 10 from rfl, pk_mul, nI_add]
      have t10 : ¬ (10 : Int32) ≤ nI k := nI_ge (b := 10) (show k < 10 by omega) (by omega)
      by_cases q : T.2.1 18 (10 * v + k) = T.2.1 31 k
      · have go : zf_X11_samePlace_14 N z T k5 (fu + 1) (nI v) 1 (nI k) = zf_X11_samePlace_14 N z T k5 fu (nI v) 1 (nI (k + 1)) := by
          rw [s1]; unfold zf_X11_samePlace_14b zf_X11_samePlace_49
          rw [if_neg t10, if_neg (by decide), e1, mq_ck_of (vp_in_nI (by omega) (by omega)), mq_ck_of (vp_in_nI (by omega) (by omega)), nI_clamp (by omega), nI_clamp (by omega), if_pos q, nI_e, nI_e, nI_1]
        rw [go]
        exact sp_14 hv fu (k + 1) (by omega) (by omega) (fun j hj' => by
          by_cases h : j = k
          · rw [h]; exact q
          · exact hj j (by omega))
      · right
        refine ⟨fun hall => q (hall k (by omega)), ?_⟩
        rw [s1]; unfold zf_X11_samePlace_14b zf_X11_samePlace_49
        rw [if_neg t10, if_neg (by decide), e1, mq_ck_of (vp_in_nI (by omega) (by omega)), mq_ck_of (vp_in_nI (by omega) (by omega)), nI_clamp (by omega), nI_clamp (by omega), if_neg q, nI_e, nI_e, nI_1]
        obtain ⟨fu, rfl⟩ : ∃ q, fu = q + 1 := ⟨fu - 1, by omega⟩
        show zf_X11_samePlace_14b N z T k5 _ (nI v) 0 (nI (k + 1)) = _
        unfold zf_X11_samePlace_14b zf_X11_samePlace_56
        rw [mq_ck_of (vp_in_nI hv (by omega)), nI_clamp (by omega), nI_e]
        by_cases x : (10 : Int32) ≤ nI (k + 1)
        · rw [if_pos x, if_pos rfl]
        · rw [if_neg x, if_pos rfl, if_pos rfl]
theorem ib_row {a b : Nat → Int32} {r r' : Nat} : (∀ j, j < 10 → a (10 * r + j) = b (10 * r' + j)) ↔ ∀ g, g < 320 → ib a r g = ib b r' g := by
  constructor
  · intro h g hg
    unfold ib
    rw [h (g / 32) (by omega)]
  · intro h j hj
    refine b_ext (fun i hi => ?_)
    have := h (32 * j + i) (by omega)
    unfold ib at this
    rw [show (32 * j + i) / 32 = j by omega, show (32 * j + i) % 32 = i by omega] at this
    exact this
theorem home (hN : 100 ≤ N) (h15 : S.1 15 = nI W) (hW : W ≤ 60) (hpC : ∀ v, v < W → S.2.1 16 v = SC.2.1 16 v) (hpR : ∀ v, v < W → T.2.1 20 v = SC.2.1 16 v) (hrow : ∀ v g, v < W → g < 320 → lb (S.2.2 2) v g = ib (T.2.1 18) v g) (hmd : ∀ g, g < 320 → lb (S.2.2 2) W g = ib (T.2.1 31) 0 g) : ∀ (R : List Nat) (v t fu fu' ec wt ln : Nat), stk n so on tw d SC SR (v :: R) ec wt ln → v < W → t + R.length < 60 → R.length + 1 < fu → R.length + 1 < fu' →
    ∃ x, zf_X8_worldOfStart_7 N z S fu (nI v) (nI t) = some x ∧ zf_X11_samePlace_5 N z T fu' (nI v) = some x ∧ (x = -1 ∨ ∃ u, u ∈ v :: R ∧ u < W ∧ x = nI u)
  | R, v, t, fu, fu', ec, wt, ln, hs, hv, ht, hfu, hfu' => by
    obtain ⟨fu, rfl⟩ : ∃ q, fu = q + 1 := ⟨fu - 1, by omega⟩
    obtain ⟨fu', rfl⟩ : ∃ q, fu' = q + 1 := ⟨fu' - 1, by omega⟩
    have s1 : zf_X8_worldOfStart_7 N z S (fu + 1) (nI v) (nI t) = zf_X8_worldOfStart_7b N z S (fun v1 v2 => zf_X8_worldOfStart_7 N z S fu v1 v2) (nI v) (nI t) := rfl
    have s2 : zf_X11_samePlace_5 N z T (fu' + 1) (nI v) = zf_X11_samePlace_5b N z T (fun v1 => zf_X11_samePlace_5 N z T fu' v1) (nI v) := rfl
    have t60 : ¬ (60 : Int32) ≤ nI t := nI_ge (b := 60) (show t < 60 by omega) (by omega)
    have v0 : ¬ nI v < (0 : Int32) := nI_nlt (b := 0) (by omega) (by omega)
    obtain ⟨y, y1, y2⟩ := se_same (N := N) (R := 61) (z := fun k => [305].getD k 0) (S := mq_pull S [] [] [2]) (r := v) (r' := W) (by omega) rfl (by omega) (by omega) (by omega)
    have eqv : (∀ g, g < 320 → lb (S.2.2 2) v g = lb (S.2.2 2) W g) ↔ ∀ j, j < 10 → T.2.1 18 (10 * v + j) = T.2.1 31 j := by
      have := ib_row (a := T.2.1 18) (b := T.2.1 31) (r := v) (r' := 0)
      simp only [Nat.mul_zero, Nat.zero_add] at this
      rw [this]
      exact ⟨fun h g hg => by rw [← hrow v g hv hg, ← hmd g hg]; exact h g hg, fun h g hg => by rw [hrow v g hv hg, hmd g hg]; exact h g hg⟩
    have cC : zf_X8_worldOfStart_7 N z S (fu + 1) (nI v) (nI t) = if y = 0 then zf_X8_worldOfStart_7 N z S fu (SC.2.1 16 v) (nI (t + 1)) else some (nI v) := by
      rw [s1]; unfold zf_X8_worldOfStart_7b
      rw [if_neg t60, if_neg v0, h15]
      refine (cp_go y1).trans ?_
      rw [mq_ck_of (show vp_in (nI v) 60 from vp_in_nI (by omega) (by omega)), nI_clamp (by omega), nI_e, nI_e, nI_1, hpC v hv]
    have cR := sp_14 (N := N) (z := z) (T := T) (k5 := fun v1 => zf_X11_samePlace_5 N z T fu' v1) (show v < 60 by omega) N 0 (by omega) (by omega) (fun j hj => by omega)
    have cR' : zf_X11_samePlace_5 N z T (fu' + 1) (nI v) = zf_X11_samePlace_14 N z T (fun v1 => zf_X11_samePlace_5 N z T fu' v1) N (nI v) 1 (nI 0) := by
      rw [s2]; unfold zf_X11_samePlace_5b
      rw [if_neg (nI_nm (by omega)), nI_e, nI_e]
      rfl
    rcases y2 with ⟨ya, yb⟩ | ⟨ya, yb⟩
    · refine ⟨nI v, by rw [cC, ya, if_neg (by decide)], ?_, Or.inr ⟨v, List.mem_cons_self, hv, rfl⟩⟩
      rw [cR']
      rcases cR with ⟨-, c⟩ | ⟨c, -⟩
      · exact c
      · exact absurd (eqv.mp yb) c
    · have c2 : zf_X11_samePlace_5 N z T (fu' + 1) (nI v) = zf_X11_samePlace_5 N z T fu' (SC.2.1 16 v) := by
        rw [cR']
        rcases cR with ⟨c, -⟩ | ⟨-, c⟩
        · exact absurd (eqv.mpr c) yb
        · rw [c, hpR v hv]
      rw [cC, ya, if_pos rfl, c2]
      obtain ⟨ea, k, b, a1, a2, a3, a4, a5⟩ := hs
      rcases a5 with ⟨b1, b2, b3, b4⟩ | ⟨u, m, l, b', b1, b2, b3, b4, b5, b6, b7, b8⟩
      · refine ⟨-1, ?_, ?_, Or.inl rfl⟩
        · obtain ⟨fu, rfl⟩ : ∃ q, fu = q + 1 := ⟨fu - 1, by omega⟩
          rw [b2]
          show zf_X8_worldOfStart_7b N z S _ (-1) (nI (t + 1)) = _
          unfold zf_X8_worldOfStart_7b
          by_cases x : (60 : Int32) ≤ nI (t + 1)
          · rw [if_pos x]
          · rw [if_neg x, if_pos (by decide)]
        · obtain ⟨fu', rfl⟩ : ∃ q, fu' = q + 1 := ⟨fu' - 1, by omega⟩
          rw [b2]
          show zf_X11_samePlace_5b N z T _ (-1) = _
          unfold zf_X11_samePlace_5b
          rw [if_pos rfl]
      · cases R with
        | nil => cases b1
        | cons u' r =>
          have : u' = u := by simpa using b1
          subst this
          simp only [List.length_cons] at ht hfu hfu'
          obtain ⟨x, x1, x2, x3⟩ := home hN h15 hW hpC hpR hrow hmd r u' (t + 1) fu fu' ea b' l b8 (by omega) (by omega) (by omega) (by omega)
          refine ⟨x, by rw [b2]; exact x1, by rw [b2]; exact x2, x3.imp id (fun ⟨u, u1, u2, u3⟩ => ⟨u, List.mem_cons_of_mem _ u1, u2, u3⟩)⟩
end HOME
