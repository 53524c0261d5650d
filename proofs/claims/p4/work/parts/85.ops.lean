/-! What signs make of operands: trees, and the class's marks. -/
def chr (g : Nat) : Int32 := if g = 0 then 40 else if g = 1 then 33 else if g = 2 then 91 else if g = 3 then 60 else if g = 4 then 61 else if g = 5 then 62 else if g = 6 then 124 else 38
def comb (pl : Bool) (g : Nat) (x y : Tr) : Tr :=
  if g = 7 then .add x y else if g = 6 then .sub x y else if g = 5 then (if pl = true then .sub (du x) y else .mulL 0 (.sub (du x) y))
  else if pl = true then .add (.sub (du x) y) (.sub x (du y)) else .add (.mulL 0 (.sub (du x) y)) (.mulL 0 (.sub (du y) x))
def pref (pl : Bool) (g : Nat) (x : Tr) : Tr := if g = 2 then .mulL 0 x else if g = 3 then .mulR x 0 else if pl = true then du x else .mulL 0 (du x)
def atomT (pl : Bool) (c : Nat) : Tr := if c = 84 then .num 0 else if c = 70 then .num 1 else if pl = true then .var (2 * (c - 97)) else .mulL 0 (.var (2 * (c - 97)))
theorem wf_comb {pl : Bool} {g : Nat} {x y : Tr} (hx : wf x) (hy : wf y) : wf (comb pl g x y) := by
  have dx := wf_du x hx
  have dy := wf_du y hy
  unfold comb
  split
  · exact ⟨hx, hy⟩
  · split
    · exact ⟨hx, hy⟩
    · split
      · split
        · exact ⟨dx, hy⟩
        · exact ⟨rfl, dx, hy⟩
      · split
        · exact ⟨⟨dx, hy⟩, hx, dy⟩
        · exact ⟨⟨rfl, dx, hy⟩, rfl, dy, hx⟩
theorem wf_pref {pl : Bool} {g : Nat} {x : Tr} (hx : wf x) : wf (pref pl g x) := by
  have dx := wf_du x hx
  unfold pref
  split
  · exact ⟨rfl, hx⟩
  · split
    · exact ⟨rfl, hx⟩
    · split
      · exact dx
      · exact ⟨rfl, dx⟩
theorem wf_atom {pl : Bool} {c : Nat} (hc : c = 84 ∨ c = 70 ∨ (97 ≤ c ∧ c ≤ 122)) : wf (atomT pl c) := by
  have hv : c - 97 < 26 → wf (.var (2 * (c - 97))) := fun h => by
    show 2 * (c - 97) < 52
    omega
  unfold atomT
  split
  · exact Or.inl rfl
  · split
    · exact Or.inr rfl
    · have := hv (by omega)
      split
      · exact this
      · exact ⟨rfl, this⟩
/-- x or its denial is a subtree of t -/
def us (x t : Tr) : Prop := x ∈ sb t ∨ du x ∈ sb t
theorem sb_tr : ∀ {t a x : Tr}, x ∈ sb a → a ∈ sb t → x ∈ sb t
  | .num v, a, x, hx, ha => by rw [List.mem_singleton.mp ha] at hx; exact hx
  | .var i, a, x, hx, ha => by rw [List.mem_singleton.mp ha] at hx; exact hx
  | .add t u, a, x, hx, ha => by
    rcases List.mem_cons.mp ha with e | ha
    · rw [e] at hx; exact hx
    · rcases List.mem_append.mp ha with ha | ha
      · exact List.mem_cons_of_mem _ (List.mem_append_left _ (sb_tr hx ha))
      · exact List.mem_cons_of_mem _ (List.mem_append_right _ (sb_tr hx ha))
  | .sub t u, a, x, hx, ha => by
    rcases List.mem_cons.mp ha with e | ha
    · rw [e] at hx; exact hx
    · rcases List.mem_append.mp ha with ha | ha
      · exact List.mem_cons_of_mem _ (List.mem_append_left _ (sb_tr hx ha))
      · exact List.mem_cons_of_mem _ (List.mem_append_right _ (sb_tr hx ha))
  | .neg t, a, x, hx, ha => by
    rcases List.mem_cons.mp ha with e | ha
    · rw [e] at hx; exact hx
    · exact List.mem_cons_of_mem _ (sb_tr hx ha)
  | .mulL _ t, a, x, hx, ha => by
    rcases List.mem_cons.mp ha with e | ha
    · rw [e] at hx; exact hx
    · exact List.mem_cons_of_mem _ (sb_tr hx ha)
  | .mulR t _, a, x, hx, ha => by
    rcases List.mem_cons.mp ha with e | ha
    · rw [e] at hx; exact hx
    · exact List.mem_cons_of_mem _ (sb_tr hx ha)
theorem sb_dd {x t : Tr} : du x ∈ sb (du t) ↔ x ∈ sb t := by
  rw [sb_du]
  constructor
  · intro h
    obtain ⟨y, hy, e⟩ := List.mem_map.mp h
    rw [← du_du y, e, du_du] at hy
    exact hy
  · intro h
    exact List.mem_map.mpr ⟨x, h, rfl⟩
theorem us_tr {x a t : Tr} (h : us x a) (h' : us a t) : us x t := by
  rcases h with h | h <;> rcases h' with h' | h'
  · exact Or.inl (sb_tr h h')
  · exact Or.inr (sb_tr (sb_dd.mpr h) h')
  · exact Or.inr (sb_tr h h')
  · have := sb_tr (sb_dd.mpr h) h'
    rw [du_du] at this
    exact Or.inl this
theorem us_rf (t : Tr) : us t t := Or.inl (sb_self t)
theorem us_dl {x t : Tr} (h : us x t) : us (du x) t := by
  rcases h with h | h
  · exact Or.inr (by rw [du_du]; exact h)
  · exact Or.inl h
theorem us_dr {x t : Tr} (h : us x t) : us x (du t) := by
  rcases h with h | h
  · exact Or.inr (sb_dd.mpr h)
  · exact Or.inl (by rw [← du_du x]; exact sb_dd.mpr h)
theorem us_add1 (a b : Tr) : us a (.add a b) := Or.inl (List.mem_cons_of_mem _ (List.mem_append_left _ (sb_self a)))
theorem us_add2 (a b : Tr) : us b (.add a b) := Or.inl (List.mem_cons_of_mem _ (List.mem_append_right _ (sb_self b)))
theorem us_sub1 (a b : Tr) : us a (.sub a b) := Or.inl (List.mem_cons_of_mem _ (List.mem_append_left _ (sb_self a)))
theorem us_sub2 (a b : Tr) : us b (.sub a b) := Or.inl (List.mem_cons_of_mem _ (List.mem_append_right _ (sb_self b)))
theorem us_mulL (a : Tr) (k : Int) : us a (.mulL k a) := Or.inl (List.mem_cons_of_mem _ (sb_self a))
theorem us_mulR (a : Tr) (k : Int) : us a (.mulR a k) := Or.inl (List.mem_cons_of_mem _ (sb_self a))
theorem us_comb (pl : Bool) (g : Nat) (x y : Tr) : us x (comb pl g x y) ∧ us y (comb pl g x y) := by
  have dx : us x (.sub (du x) y) := by
    have := us_dl (us_sub1 (du x) y)
    rw [du_du] at this
    exact this
  unfold comb
  split
  · exact ⟨us_add1 _ _, us_add2 _ _⟩
  · split
    · exact ⟨us_sub1 _ _, us_sub2 _ _⟩
    · split
      · split
        · exact ⟨dx, us_sub2 _ _⟩
        · exact ⟨us_tr dx (us_mulL _ _), us_tr (us_sub2 _ _) (us_mulL _ _)⟩
      · split
        · exact ⟨us_tr dx (us_add1 _ _), us_tr (us_sub2 _ _) (us_add1 _ _)⟩
        · exact ⟨us_tr (us_tr dx (us_mulL _ _)) (us_add1 _ _), us_tr (us_tr (us_sub2 _ _) (us_mulL _ _)) (us_add1 _ _)⟩
theorem us_pref (pl : Bool) (g : Nat) (x : Tr) : us x (pref pl g x) := by
  unfold pref
  split
  · exact us_mulL _ _
  · split
    · exact us_mulR _ _
    · split
      · exact us_dr (us_rf x)
      · exact us_tr (us_dr (us_rf x)) (us_mulL _ _)
def exw (W W' : List Tr) (t : Tr) : Prop := ∃ X, W' = W ++ X ∧ ∀ x ∈ X, us x t
theorem exw_rf (W : List Tr) (t : Tr) : exw W W t := ⟨[], (List.append_nil W).symm, fun x h => by cases h⟩
theorem exw_tr {W W1 W2 : List Tr} {t : Tr} (h : exw W W1 t) (h' : exw W1 W2 t) : exw W W2 t := by
  obtain ⟨X, rfl, hX⟩ := h
  obtain ⟨Y, rfl, hY⟩ := h'
  refine ⟨X ++ Y, List.append_assoc _ _ _, fun x hx => ?_⟩
  rcases List.mem_append.mp hx with q | q
  · exact hX x q
  · exact hY x q
theorem exw_us {W W1 : List Tr} {a t : Tr} (h : exw W W1 a) (u : us a t) : exw W W1 t := by
  obtain ⟨X, e, hX⟩ := h
  exact ⟨X, e, fun x hx => us_tr (hX x hx) u⟩
theorem RM_exw {W W' : List Tr} {v : Int32} {t u : Tr} (h : RM W v t) (h' : exw W W' u) : RM W' v t := by
  obtain ⟨X, rfl, -⟩ := h'
  exact RM_app h X
section DOPS
variable {N : Nat} {z : Nat → Nat} {S : mq_St} {W : List Tr} {v u : Int32} {a b : Tr}
theorem dk_n2 {t : Tr} {W' : List Tr} (h : W' = W ∨ W' = W ++ [t]) : exw W W' t := by
  rcases h with e | e
  · rw [e]; exact exw_rf _ _
  · exact ⟨[t], e, fun x hx => by rw [List.mem_singleton.mp hx]; exact us_rf t⟩
theorem dk_letter {l : Nat} (hN : 200 ≤ N) (h : dft S W) (hl : l < 26) : ∃ v' S' W', zf_X2_letter N z (nI l) S = some (v', S') ∧ dft S' W' ∧ RM W' v' (.var (2 * l)) ∧ exw W W' (.var (2 * l)) ∧ ag [3, 4] [8, 9, 10, 11] [] S S' := by
  obtain ⟨v', S', W', a1, a2, a3, a4, a5⟩ := dk_node (N := N) (z := z) (k := 2) (v2 := nI l) (v3 := -1) (t := .var (2 * l)) hN h (by show 2 * l < 52; omega) (by show (2 * l % 2 == 0) = true; rw [show 2 * l % 2 = 0 by omega]; rfl) (fun _ => Or.inr (Or.inl ⟨l, hl, rfl, rfl, rfl, rfl⟩))
  refine ⟨v', S', W', ?_, a2, a3, dk_n2 a4, a5⟩
  unfold zf_X2_letter
  rw [a1, mq_cl_s]
theorem dk_both (hN : 200 ≤ N) (h : dft S W) (ha : RM W v a) (hb : RM W u b) (wa : wf a) (wb : wf b) : ∃ v' S' W', zf_X2_both N z v u S = some (v', S') ∧ dft S' W' ∧ RM W' v' (.add a b) ∧ exw W W' (.add a b) ∧ ag [3, 4] [8, 9, 10, 11] [] S S' := by
  obtain ⟨v', S', W', a1, a2, a3, a4, a5⟩ := dk_node (N := N) (z := z) (k := 4) (v2 := v) (v3 := u) (t := .add a b) hN h ⟨wa, wb⟩ rfl (fun q => by
    obtain ⟨m, e1, -, h1⟩ := ha
    have h1 := h1 q
    obtain ⟨n, e2, -, h2⟩ := hb
    have h2 := h2 q
    exact Or.inr (Or.inr (Or.inl ⟨m, n, a, b, rfl, e1, e2, rfl, h1, h2, mt_lt h1, mt_lt h2⟩)))
  refine ⟨v', S', W', ?_, a2, a3, dk_n2 a4, a5⟩
  unfold zf_X2_both
  rw [a1, mq_cl_s]
theorem dk_need (hN : 200 ≤ N) (h : dft S W) (ha : RM W v a) (wa : wf a) : ∃ v' S' W', zf_X2_need N z v S = some (v', S') ∧ dft S' W' ∧ RM W' v' (.mulL 0 a) ∧ exw W W' (.mulL 0 a) ∧ ag [3, 4] [8, 9, 10, 11] [] S S' := by
  obtain ⟨v', S', W', a1, a2, a3, a4, a5⟩ := dk_node (N := N) (z := z) (k := 6) (v2 := v) (v3 := -1) (t := .mulL 0 a) hN h ⟨rfl, wa⟩ rfl (fun q => by
    obtain ⟨m, e1, -, h1⟩ := ha
    have h1 := h1 q
    exact Or.inr (Or.inr (Or.inr ⟨m, a, rfl, e1, rfl, rfl, h1, mt_lt h1⟩)))
  refine ⟨v', S', W', ?_, a2, a3, dk_n2 a4, a5⟩
  unfold zf_X2_need
  rw [a1, mq_cl_s]
theorem dk_either (hN : 200 ≤ N) (h : dft S W) (ha : RM W v a) (hb : RM W u b) (wa : wf a) (wb : wf b) : ∃ v' S' W', zf_X2_either N z v u S = some (v', S') ∧ dft S' W' ∧ RM W' v' (.sub a b) ∧ exw W W' (.sub a b) ∧ ag [3, 4] [8, 9, 10, 11] [] S S' := by
  obtain ⟨v', S', W', a1, a2, a3, a4, a5⟩ := dk_node (N := N) (z := z) (k := 4) (v2 := v ^^^ 1) (v3 := u ^^^ 1) (t := .add (du a) (du b)) hN h ⟨wf_du a wa, wf_du b wb⟩ rfl (fun q => by
    obtain ⟨m, e1, -, h1⟩ := RM_deny ha
    have h1 := h1 q
    obtain ⟨n, e2, -, h2⟩ := RM_deny hb
    have h2 := h2 q
    exact Or.inr (Or.inr (Or.inl ⟨m, n, du a, du b, rfl, e1, e2, rfl, h1, h2, mt_lt h1, mt_lt h2⟩)))
  have ed : du (.add (du a) (du b)) = .sub a b := by show Int.Internal.Linear.Expr.sub _ _ = _; rw [du_du, du_du]
  refine ⟨v' ^^^ 1, S', W', ?_, a2, ed ▸ RM_deny a3, exw_us (dk_n2 a4) (ed ▸ us_dr (us_rf _)), a5⟩
  unfold zf_X2_either zf_X2_deny
  rw [mq_cp_s, mq_cp_s, a1, mq_cl_s, mq_cp_s]
theorem dk_may (hN : 200 ≤ N) (h : dft S W) (ha : RM W v a) (wa : wf a) : ∃ v' S' W', zf_X2_may N z v S = some (v', S') ∧ dft S' W' ∧ RM W' v' (.mulR a 0) ∧ exw W W' (.mulR a 0) ∧ ag [3, 4] [8, 9, 10, 11] [] S S' := by
  obtain ⟨v', S', W', a1, a2, a3, a4, a5⟩ := dk_node (N := N) (z := z) (k := 6) (v2 := v ^^^ 1) (v3 := -1) (t := .mulL 0 (du a)) hN h ⟨rfl, wf_du a wa⟩ rfl (fun q => by
    obtain ⟨m, e1, -, h1⟩ := RM_deny ha
    have h1 := h1 q
    exact Or.inr (Or.inr (Or.inr ⟨m, du a, rfl, e1, rfl, rfl, h1, mt_lt h1⟩)))
  have ed : du (.mulL 0 (du a)) = .mulR a 0 := by show Int.Internal.Linear.Expr.mulR _ _ = _; rw [du_du]
  refine ⟨v' ^^^ 1, S', W', ?_, a2, ed ▸ RM_deny a3, exw_us (dk_n2 a4) (ed ▸ us_dr (us_rf _)), a5⟩
  unfold zf_X2_may zf_X2_deny
  rw [mq_cp_s, a1, mq_cl_s, mq_cp_s]
theorem dk_joined {pl : Bool} {g : Nat} (hN : 200 ≤ N) (h : dft S W) (h10 : S.1 10 = if pl = true then 0 else 1) (hg : 4 ≤ g ∧ g ≤ 7) (ha : RM W v a) (hb : RM W u b) (wa : wf a) (wb : wf b) : ∃ v' S' W', zf_X5_joined N z (chr g) v u S = some (v', S') ∧ dft S' W' ∧ RM W' v' (comb pl g a b) ∧ exw W W' (comb pl g a b) ∧ ag [3, 4] [8, 9, 10, 11] [] S S' := by
  have hg4 : g = 7 ∨ g = 6 ∨ g = 5 ∨ g = 4 := by omega
  have wda := wf_du a wa
  have wdb := wf_du b wb
  rcases hg4 with rfl | rfl | rfl | rfl
  · obtain ⟨v', S', W', a1, a2⟩ := dk_both (N := N) (z := z) hN h ha hb wa wb
    refine ⟨v', S', W', ?_, a2⟩
    unfold zf_X5_joined
    rw [if_pos (by decide), a1, mq_cl_s]
  · obtain ⟨v', S', W', a1, a2⟩ := dk_either (N := N) (z := z) hN h ha hb wa wb
    refine ⟨v', S', W', ?_, a2⟩
    unfold zf_X5_joined
    rw [if_neg (by decide), if_pos (by decide), a1, mq_cl_s]
  · obtain ⟨v1, S1, W1, a1, a2, a3, a4, a5⟩ := dk_either (N := N) (z := z) hN h (RM_deny ha) hb wda wb
    have h10' : S1.1 10 = if pl = true then 0 else 1 := (a5.1 10 (by decide)).trans h10
    unfold zf_X5_joined zf_X2_deny
    rw [if_neg (by decide), if_neg (by decide), mq_cp_s, a1, mq_cl_s, nI_e, if_pos (by decide), h10']
    cases pl with
    | true =>
      rw [if_pos rfl, if_pos rfl]
      exact ⟨v1, S1, W1, rfl, a2, a3, a4, a5⟩
    | false =>
      rw [if_neg (by decide)]
      obtain ⟨v2, S2, W2, b1, b2, b3, b4, b5⟩ := dk_need (N := N) (z := z) hN a2 a3 ⟨wda, wb⟩
      exact ⟨v2, S2, W2, by rw [b1, mq_cl_s], b2, b3, exw_tr (exw_us a4 (us_mulL _ _)) b4, ag_tr a5 b5⟩
  · obtain ⟨v1, S1, W1, a1, a2, a3, a4, a5⟩ := dk_either (N := N) (z := z) hN h (RM_deny ha) hb wda wb
    have h10' : S1.1 10 = if pl = true then 0 else 1 := (a5.1 10 (by decide)).trans h10
    unfold zf_X5_joined zf_X2_deny
    rw [if_neg (by decide), if_neg (by decide), mq_cp_s, a1, mq_cl_s, nI_e, if_neg (by decide), h10', mq_cp_s]
    cases pl with
    | true =>
      rw [if_pos rfl, if_pos rfl]
      obtain ⟨v2, S2, W2, b1, b2, b3, b4, b5⟩ := dk_either (N := N) (z := z) hN a2 (RM_exw ha a4) (RM_deny (RM_exw hb a4)) wa wdb
      obtain ⟨v3, S3, W3, c1, c2, c3, c4, c5⟩ := dk_both (N := N) (z := z) hN b2 (RM_exw a3 b4) b3 ⟨wda, wb⟩ ⟨wa, wdb⟩
      exact ⟨v3, S3, W3, by rw [b1, mq_cl_s, c1, mq_cl_s], c2, c3, exw_tr (exw_tr (exw_us a4 (us_add1 _ _)) (exw_us b4 (us_add2 _ _))) c4, ag_tr (ag_tr a5 b5) c5⟩
    | false =>
      rw [if_neg (by decide), mq_cp_s]
      obtain ⟨v2, S2, W2, b1, b2, b3, b4, b5⟩ := dk_either (N := N) (z := z) hN a2 (RM_deny (RM_exw hb a4)) (RM_exw ha a4) wdb wa
      obtain ⟨v3, S3, W3, c1, c2, c3, c4, c5⟩ := dk_need (N := N) (z := z) hN b2 (RM_exw a3 b4) ⟨wda, wb⟩
      obtain ⟨v4, S4, W4, d1, d2, d3, d4, d5⟩ := dk_need (N := N) (z := z) hN c2 (RM_exw b3 c4) ⟨wdb, wa⟩
      obtain ⟨v5, S5, W5, e1, e2, e3, e4, e5⟩ := dk_both (N := N) (z := z) hN d2 (RM_exw c3 d4) d3 ⟨rfl, wda, wb⟩ ⟨rfl, wdb, wa⟩
      exact ⟨v5, S5, W5, by rw [b1, mq_cl_s, nI_e, c1, mq_cl_s, d1, mq_cl_s, e1, mq_cl_s], e2, e3, exw_tr (exw_tr (exw_tr (exw_tr (exw_us a4 (us_tr (us_mulL _ _) (us_add1 _ _))) (exw_us b4 (us_tr (us_mulL _ _) (us_add2 _ _)))) (exw_us c4 (us_add1 _ _))) (exw_us d4 (us_add2 _ _))) e4, ag_tr (ag_tr (ag_tr (ag_tr a5 b5) c5) d5) e5⟩
theorem dk_prefixed {pl : Bool} {g : Nat} (hN : 200 ≤ N) (h : dft S W) (h10 : S.1 10 = if pl = true then 0 else 1) (hg : 1 ≤ g ∧ g ≤ 3) (ha : RM W v a) (wa : wf a) : ∃ v' S' W', zf_X5_prefixed N z (chr g) v S = some (v', S') ∧ dft S' W' ∧ RM W' v' (pref pl g a) ∧ exw W W' (pref pl g a) ∧ ag [3, 4] [8, 9, 10, 11] [] S S' := by
  have hg4 : g = 1 ∨ g = 2 ∨ g = 3 := by omega
  have wda := wf_du a wa
  rcases hg4 with rfl | rfl | rfl
  · unfold zf_X5_prefixed zf_X2_deny
    rw [if_neg (by decide), if_neg (by decide), h10, mq_cp_s]
    cases pl with
    | true =>
      rw [if_pos rfl, if_pos rfl]
      exact ⟨v ^^^ 1, S, W, rfl, h, RM_deny ha, exw_rf _ _, ag_rf⟩
    | false =>
      rw [if_neg (by decide), mq_cp_s]
      obtain ⟨v2, S2, W2, b1, b2⟩ := dk_need (N := N) (z := z) hN h (RM_deny ha) wda
      exact ⟨v2, S2, W2, by rw [b1, mq_cl_s], b2⟩
  · obtain ⟨v2, S2, W2, b1, b2⟩ := dk_need (N := N) (z := z) hN h ha wa
    refine ⟨v2, S2, W2, ?_, b2⟩
    unfold zf_X5_prefixed
    rw [if_pos (by decide), b1, mq_cl_s]
  · obtain ⟨v2, S2, W2, b1, b2⟩ := dk_may (N := N) (z := z) hN h ha wa
    refine ⟨v2, S2, W2, ?_, b2⟩
    unfold zf_X5_prefixed
    rw [if_neg (by decide), if_pos (by decide), b1, mq_cl_s]
theorem dk_atom {pl : Bool} {c : Nat} (hN : 200 ≤ N) (h : dft S W) (h10 : S.1 10 = if pl = true then 0 else 1) (hc : c = 84 ∨ c = 70 ∨ (97 ≤ c ∧ c ≤ 122)) : ∃ v' S' W', zf_X5_markOfAtom N z (nI c) S = some (v', S') ∧ dft S' W' ∧ RM W' v' (atomT pl c) ∧ exw W W' (atomT pl c) ∧ ag [3, 4] [8, 9, 10, 11] [] S S' := by
  have h0 : RM W 0 (.num 0) := ⟨0, rfl, by omega, fun _ => h.2.2.2.1⟩
  rcases hc with rfl | rfl | hc
  · refine ⟨0, S, W, ?_, h, h0, exw_rf _ _, ag_rf⟩
    unfold zf_X5_markOfAtom zf_X5_markOfAtom_12
    rw [if_pos (by decide), if_pos (by decide)]
  · refine ⟨0 ^^^ 1, S, W, ?_, h, RM_deny h0, exw_rf _ _, ag_rf⟩
    unfold zf_X5_markOfAtom zf_X5_markOfAtom_12 zf_X2_deny
    rw [if_neg (by decide), if_pos (by decide), if_neg (by decide), mq_cp_s]
  · obtain ⟨v1, S1, W1, a1, a2, a3, a4, a5⟩ := dk_letter (N := N) (z := z) (l := c - 97) hN h (by omega)
    have h10' : S1.1 10 = if pl = true then 0 else 1 := (a5.1 10 (by decide)).trans h10
    have n84 : ¬ nI c = (84 : Int32) := fun e => by have := sp_inj (b := 84) e (by omega) (by omega); omega
    have n70 : ¬ nI c = (70 : Int32) := fun e => by have := sp_inj (b := 70) e (by omega) (by omega); omega
    have e97 : nI c - 97 = nI (c - 97) := pk_sub (a := c) (b := 97) (by omega)
    have m84 : ¬ c = 84 := by omega
    have m70 : ¬ c = 70 := by omega
    unfold zf_X5_markOfAtom atomT
    rw [if_neg n84, if_neg n70, e97, a1, mq_cl_s, nI_e, h10', if_neg m84, if_neg m70]
    cases pl with
    | true =>
      exact ⟨v1, S1, W1, rfl, a2, a3, a4, a5⟩
    | false =>
      obtain ⟨v2, S2, W2, b1, b2, b3, b4, b5⟩ := dk_need (N := N) (z := z) hN a2 a3 (by show 2 * (c - 97) < 52; omega)
      exact ⟨v2, S2, W2, by rw [if_neg (by decide), b1, mq_cl_s], b2, b3, exw_tr (exw_us a4 (us_mulL _ _)) b4, ag_tr a5 b5⟩
end DOPS
