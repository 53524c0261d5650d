/-! The reference's nodes as trees. -/
def entR (T : List Tr) (k a b : Int32) (t : Tr) : Prop :=
  (k = 0 ∧ t = .num 0) ∨ (k = 1 ∧ t = .num 1) ∨ (∃ l : Nat, l < 26 ∧ k = 2 ∧ a = nI l ∧ t = .var (2 * l)) ∨
  (∃ (x : Nat) (u : Tr), a = nI x ∧ T[x]? = some u ∧ ((k = 3 ∧ t = du u) ∨ (k = 8 ∧ t = .mulL 0 u) ∨ (k = 9 ∧ t = .mulR u 0))) ∨
  (∃ (x y : Nat) (u v : Tr), a = nI x ∧ b = nI y ∧ T[x]? = some u ∧ T[y]? = some v ∧ ((k = 4 ∧ t = .add u v) ∨ (k = 5 ∧ t = .sub u v) ∨ (k = 6 ∧ t = .sub (du u) v) ∨ (k = 7 ∧ t = .add (.sub (du u) v) (.sub u (du v)))))
/-- each node by those ahead of it -/
def ndR (S : mq_St) (T : List Tr) : Prop := S.1 7 = nI T.length ∧ T.length ≤ 3000 ∧ (∀ t ∈ T, wf t) ∧ (∀ x t, T[x]? = some t → entR (T.take x) (S.2.1 7 x) (S.2.1 8 x) (S.2.1 9 x) t) ∧ ∀ x, x < T.length → S.2.1 10 x = -1 ∧ S.2.1 11 x = -1
theorem ndR_c {S S' : mq_St} {T : List Tr} (h : ndR S T) (e7 : S'.1 7 = S.1 7) (a7 : S'.2.1 7 = S.2.1 7) (a8 : S'.2.1 8 = S.2.1 8) (a9 : S'.2.1 9 = S.2.1 9) (a10 : S'.2.1 10 = S.2.1 10) (a11 : S'.2.1 11 = S.2.1 11) : ndR S' T := by
  unfold ndR
  rw [e7, a7, a8, a9, a10, a11]
  exact h
def RV (T : List Tr) (v : Int32) (t : Tr) : Prop := ∃ x : Nat, v = nI x ∧ T[x]? = some t
theorem RV_app {T : List Tr} {v : Int32} {t : Tr} (h : RV T v t) (X : List Tr) : RV (T ++ X) v t := by
  obtain ⟨x, e, hx⟩ := h
  exact ⟨x, e, by rw [List.getElem?_append_left (List.getElem?_eq_some_iff.mp hx).1]; exact hx⟩
theorem RV_wf {S : mq_St} {T : List Tr} {v : Int32} {t : Tr} (h : ndR S T) (hv : RV T v t) : wf t := by
  obtain ⟨x, e, hx⟩ := hv
  exact h.2.2.1 t (List.mem_of_getElem? hx)
section RN
variable {N : Nat} {z : Nat → Nat} {S : mq_St} {T : List Tr}
theorem rn_node {k a b : Int32} {t : Tr} (h : ndR S T) (hl : T.length < 3000) (w : wf t) (he : entR T k a b t) : ∃ S', zf_X11_node N z k a b S = some (nI T.length, S') ∧ ndR S' (T ++ [t]) ∧ RV (T ++ [t]) (nI T.length) t ∧ ag [7] [7, 8, 9, 10, 11] [] S S' := by
  obtain ⟨h7, h3, hw, hent, hy⟩ := h
  have i1 : vp_in (nI T.length) 3000 := vp_in_nI hl (by omega)
  have c1 : (nI T.length).toNatClampNeg = T.length := nI_clamp (by omega)
  have hlen : (T ++ [t]).length = T.length + 1 := by rw [List.length_append]; rfl
  refine ⟨mq_si (mq_sa (mq_sa (mq_sa (mq_sa (mq_sa S 7 (upd (S.2.1 7) T.length k)) 8 (upd (S.2.1 8) T.length a)) 9 (upd (S.2.1 9) T.length b)) 10 (upd (S.2.1 10) T.length (-1))) 11 (upd (S.2.1 11) T.length (-1))) 7 (nI (T.length + 1)), ?_, ⟨?_, by omega, ?_, ?_, ?_⟩, ⟨T.length, rfl, ?_⟩, ?_⟩
  · unfold zf_X11_node
    simp only [nS_e, sa_1, h7, mq_ck_of i1, c1, nI_1, si_1, ↓reduceIte, nI_pred]
    rfl
  · show nI (T.length + 1) = _
    rw [hlen]
  · intro u hu
    rcases List.mem_append.mp hu with q | q
    · exact hw u q
    · rw [List.mem_singleton.mp q]; exact w
  · intro x u hu
    show entR ((T ++ [t]).take x) (upd (S.2.1 7) T.length k x) (upd (S.2.1 8) T.length a x) (upd (S.2.1 9) T.length b x) u
    by_cases e : x = T.length
    · rw [e, up_s, up_s, up_s, List.take_left]
      rw [e, List.getElem?_append_right (Nat.le_refl _), Nat.sub_self] at hu
      have : t = u := Option.some.inj hu
      rw [← this]
      exact he
    · have hx := (List.getElem?_eq_some_iff.mp hu).1
      rw [List.getElem?_append_left (by omega)] at hu
      rw [up_o e, up_o e, up_o e, List.take_append_of_le_length (by omega)]
      exact hent x u hu
  · intro x hx
    show upd (S.2.1 10) T.length (-1) x = -1 ∧ upd (S.2.1 11) T.length (-1) x = -1
    by_cases e : x = T.length
    · rw [e, up_s, up_s]; exact ⟨rfl, rfl⟩
    · rw [up_o e, up_o e]; exact hy x (by omega)
  · rw [List.getElem?_append_right (Nat.le_refl _), Nat.sub_self]; rfl
  · refine ag_tr ?_ (ag_si (by decide))
    refine ag_tr ?_ (ag_sa (by decide))
    refine ag_tr ?_ (ag_sa (by decide))
    refine ag_tr ?_ (ag_sa (by decide))
    refine ag_tr ?_ (ag_sa (by decide))
    exact ag_sa (by decide)
theorem rn_box {pl : Bool} {v : Int32} {t : Tr} (h : ndR S T) (h13 : S.1 13 = if pl = true then 1 else 0) (hl : T.length < 3000) (hv : RV T v t) : ∃ v' S' X, zf_X11_box N z v S = some (v', S') ∧ ndR S' (T ++ X) ∧ X.length ≤ 1 ∧ RV (T ++ X) v' (if pl = true then t else .mulL 0 t) ∧ ag [7] [7, 8, 9, 10, 11] [] S S' := by
  unfold zf_X11_box
  rw [h13]
  cases pl with
  | true =>
    rw [if_neg (by decide)]
    exact ⟨v, S, [], rfl, by rw [List.append_nil]; exact h, by decide, by rw [List.append_nil]; exact hv, ag_rf⟩
  | false =>
    rw [if_pos (by decide)]
    have w := RV_wf h hv
    obtain ⟨x, e, hx⟩ := hv
    obtain ⟨S', a1, a2, a3, a4⟩ := rn_node (N := N) (z := z) (k := 8) (a := v) (b := -1) (t := .mulL 0 t) h hl ⟨rfl, w⟩ (Or.inr (Or.inr (Or.inr (Or.inl ⟨x, t, e, hx, Or.inr (Or.inl ⟨rfl, rfl⟩)⟩))))
    exact ⟨_, S', [.mulL 0 t], by rw [a1, mq_cl_s], a2, Nat.le_refl _, a3, a4⟩
/-- what a sign of two makes of two values -/
theorem rn_comb {pl : Bool} {g : Nat} {v w : Int32} {x y : Tr} (h : ndR S T) (h13 : S.1 13 = if pl = true then 1 else 0) (hl : T.length + 5 < 3000) (hg : 4 ≤ g ∧ g ≤ 7) (hv : RV T v x) (hw : RV T w y) (k : Int32 → mq_St → Option (Unit × mq_St)) :
    ∃ v' S' X, (if nI g = 5 then mq_cl (zf_X11_node N z 6 v w S) (fun q S11 => mq_cl (zf_X11_box N z q S11) k) else if nI g = 6 then mq_cl (zf_X11_node N z 5 v w S) k else if nI g = 7 then mq_cl (zf_X11_node N z 4 v w S) k else if S.1 13 = 0 then mq_cl (zf_X11_node N z 6 v w S) (fun q26 S28 => mq_cl (zf_X11_box N z q26 S28) (fun q29 S31 => mq_cl (zf_X11_node N z 6 w v S31) (fun q32 S34 => mq_cl (zf_X11_box N z q32 S34) (fun q35 S37 => mq_cl (zf_X11_node N z 4 q29 q35 S37) k)))) else mq_cl (zf_X11_node N z 7 v w S) k) = k v' S' ∧ ndR S' (T ++ X) ∧ X.length ≤ 5 ∧ RV (T ++ X) v' (comb pl g x y) ∧ ag [7] [7, 8, 9, 10, 11] [] S S' := by
  have wx := RV_wf h hv
  have wy := RV_wf h hw
  obtain ⟨i, ev, hi⟩ := hv
  obtain ⟨j, ew, hj⟩ := hw
  have two : ∀ {kk : Int32} {t : Tr} (S1 : mq_St) (T1 : List Tr) (v w : Int32) (x y : Tr), ndR S1 T1 → T1.length < 3000 → wf t → RV T1 v x → RV T1 w y → ((kk = 4 ∧ t = .add x y) ∨ (kk = 5 ∧ t = .sub x y) ∨ (kk = 6 ∧ t = .sub (du x) y) ∨ (kk = 7 ∧ t = .add (.sub (du x) y) (.sub x (du y)))) → ∃ S', zf_X11_node N z kk v w S1 = some (nI T1.length, S') ∧ ndR S' (T1 ++ [t]) ∧ RV (T1 ++ [t]) (nI T1.length) t ∧ ag [7] [7, 8, 9, 10, 11] [] S1 S' := by
    intro kk t S1 T1 v w x y h1 hl1 wt ⟨i, ev, hi⟩ ⟨j, ew, hj⟩ hk
    exact rn_node h1 hl1 wt (Or.inr (Or.inr (Or.inr (Or.inr ⟨i, j, x, y, ev, ew, hi, hj, hk⟩))))
  have hg4 : g = 7 ∨ g = 6 ∨ g = 5 ∨ g = 4 := by omega
  rcases hg4 with rfl | rfl | rfl | rfl
  · obtain ⟨S', a1, a2, a3, a4⟩ := two (kk := 4) (t := .add x y) S T v w x y h (by omega) ⟨wx, wy⟩ ⟨i, ev, hi⟩ ⟨j, ew, hj⟩ (Or.inl ⟨rfl, rfl⟩)
    refine ⟨_, S', [.add x y], ?_, a2, (by show 1 ≤ 5; omega), a3, a4⟩
    rw [if_neg (by decide), if_neg (by decide), if_pos (by decide), a1, mq_cl_s]
  · obtain ⟨S', a1, a2, a3, a4⟩ := two (kk := 5) (t := .sub x y) S T v w x y h (by omega) ⟨wx, wy⟩ ⟨i, ev, hi⟩ ⟨j, ew, hj⟩ (Or.inr (Or.inl ⟨rfl, rfl⟩))
    refine ⟨_, S', [.sub x y], ?_, a2, (by show 1 ≤ 5; omega), a3, a4⟩
    rw [if_neg (by decide), if_pos (by decide), a1, mq_cl_s]
  · obtain ⟨S1, a1, a2, a3, a4⟩ := two (kk := 6) (t := .sub (du x) y) S T v w x y h (by omega) ⟨wf_du x wx, wy⟩ ⟨i, ev, hi⟩ ⟨j, ew, hj⟩ (Or.inr (Or.inr (Or.inl ⟨rfl, rfl⟩)))
    obtain ⟨v2, S2, X, b1, b2, b3, b4, b5⟩ := rn_box (N := N) (z := z) (pl := pl) a2 ((a4.1 13 (by decide)).trans h13) (by rw [List.length_append]; show T.length + 1 < 3000; omega) a3
    refine ⟨v2, S2, [.sub (du x) y] ++ X, ?_, by rw [← List.append_assoc]; exact b2, by rw [List.length_append]; show 1 + X.length ≤ 5; omega, by rw [← List.append_assoc]; exact b4, ag_tr a4 b5⟩
    rw [if_pos (by decide), a1, mq_cl_s, b1, mq_cl_s]
  · rw [if_neg (by decide), if_neg (by decide), if_neg (by decide), h13]
    cases pl with
    | true =>
      obtain ⟨S', a1, a2, a3, a4⟩ := two (kk := 7) (t := .add (.sub (du x) y) (.sub x (du y))) S T v w x y h (by omega) ⟨⟨wf_du x wx, wy⟩, wx, wf_du y wy⟩ ⟨i, ev, hi⟩ ⟨j, ew, hj⟩ (Or.inr (Or.inr (Or.inr ⟨rfl, rfl⟩)))
      refine ⟨_, S', [.add (.sub (du x) y) (.sub x (du y))], ?_, a2, (by show 1 ≤ 5; omega), a3, a4⟩
      rw [if_neg (by decide), a1, mq_cl_s]
    | false =>
      rw [if_pos (by decide)]
      have h13' : S.1 13 = 0 := h13
      obtain ⟨S1, a1, a2, a3, a4⟩ := two (kk := 6) (t := .sub (du x) y) S T v w x y h (by omega) ⟨wf_du x wx, wy⟩ ⟨i, ev, hi⟩ ⟨j, ew, hj⟩ (Or.inr (Or.inr (Or.inl ⟨rfl, rfl⟩)))
      have l1 : (T ++ [Int.Internal.Linear.Expr.sub (du x) y]).length = T.length + 1 := by rw [List.length_append]; rfl
      obtain ⟨v2, S2, X2, b1, b2, b3, b4, b5⟩ := rn_box (N := N) (z := z) (pl := false) a2 ((a4.1 13 (by decide)).trans h13') (by omega) a3
      have l2 : (T ++ [Int.Internal.Linear.Expr.sub (du x) y] ++ X2).length ≤ T.length + 2 := by rw [List.length_append]; omega
      obtain ⟨S3, c1, c2, c3, c4⟩ := two (kk := 6) (t := .sub (du y) x) S2 _ w v y x b2 (by omega) ⟨wf_du y wy, wx⟩ (RV_app (RV_app ⟨j, ew, hj⟩ _) _) (RV_app (RV_app ⟨i, ev, hi⟩ _) _) (Or.inr (Or.inr (Or.inl ⟨rfl, rfl⟩)))
      have l3 : (T ++ [Int.Internal.Linear.Expr.sub (du x) y] ++ X2 ++ [Int.Internal.Linear.Expr.sub (du y) x]).length ≤ T.length + 3 := by rw [List.length_append]; show _ + 1 ≤ _; omega
      obtain ⟨v4, S4, X4, d1, d2, d3, d4, d5⟩ := rn_box (N := N) (z := z) (pl := false) c2 ((c4.1 13 (by decide)).trans ((b5.1 13 (by decide)).trans ((a4.1 13 (by decide)).trans h13'))) (by omega) c3
      have l4 : (T ++ [Int.Internal.Linear.Expr.sub (du x) y] ++ X2 ++ [Int.Internal.Linear.Expr.sub (du y) x] ++ X4).length ≤ T.length + 4 := by rw [List.length_append]; omega
      obtain ⟨S5, e1, e2, e3, e4⟩ := two (kk := 4) (t := .add (.mulL 0 (.sub (du x) y)) (.mulL 0 (.sub (du y) x))) S4 _ v2 v4 (.mulL 0 (.sub (du x) y)) (.mulL 0 (.sub (du y) x)) d2 (by omega) ⟨⟨rfl, wf_du x wx, wy⟩, rfl, wf_du y wy, wx⟩ (RV_app (RV_app b4 _) _) d4 (Or.inl ⟨rfl, rfl⟩)
      refine ⟨nI (T ++ [Int.Internal.Linear.Expr.sub (du x) y] ++ X2 ++ [Int.Internal.Linear.Expr.sub (du y) x] ++ X4).length, S5, [.sub (du x) y] ++ X2 ++ [.sub (du y) x] ++ X4 ++ [.add (.mulL 0 (.sub (du x) y)) (.mulL 0 (.sub (du y) x))], ?_, ?_, ?_, ?_, ag_tr (ag_tr (ag_tr (ag_tr a4 b5) c4) d5) e4⟩
      · rw [a1, mq_cl_s, b1, mq_cl_s, c1, mq_cl_s, d1, mq_cl_s, e1, mq_cl_s]
      · simp only [← List.append_assoc]; exact e2
      · simp only [List.length_append]
        show 1 + X2.length + 1 + X4.length + 1 ≤ 5
        omega
      · simp only [← List.append_assoc]; exact e3
theorem rn_pref {pl : Bool} {g : Nat} {v : Int32} {x : Tr} (h : ndR S T) (h13 : S.1 13 = if pl = true then 1 else 0) (hl : T.length + 5 < 3000) (hg : 1 ≤ g ∧ g ≤ 3) (hv : RV T v x) (k : Int32 → mq_St → Option (Unit × mq_St)) :
    ∃ v' S' X, (if nI g = 1 then mq_cl (zf_X11_node N z 3 v (-1) S) (fun q S13 => mq_cl (zf_X11_box N z q S13) k) else if nI g = 2 then mq_cl (zf_X11_node N z 8 v (-1) S) k else mq_cl (zf_X11_node N z 9 v (-1) S) k) = k v' S' ∧ ndR S' (T ++ X) ∧ X.length ≤ 5 ∧ RV (T ++ X) v' (pref pl g x) ∧ ag [7] [7, 8, 9, 10, 11] [] S S' := by
  have wx := RV_wf h hv
  obtain ⟨i, ev, hi⟩ := hv
  have hg4 : g = 1 ∨ g = 2 ∨ g = 3 := by omega
  rcases hg4 with rfl | rfl | rfl
  · obtain ⟨S1, a1, a2, a3, a4⟩ := rn_node (N := N) (z := z) (k := 3) (a := v) (b := -1) (t := du x) h (by omega) (wf_du x wx) (Or.inr (Or.inr (Or.inr (Or.inl ⟨i, x, ev, hi, Or.inl ⟨rfl, rfl⟩⟩))))
    obtain ⟨v2, S2, X, b1, b2, b3, b4, b5⟩ := rn_box (N := N) (z := z) (pl := pl) a2 ((a4.1 13 (by decide)).trans h13) (by rw [List.length_append]; show T.length + 1 < 3000; omega) a3
    refine ⟨v2, S2, [du x] ++ X, ?_, by rw [← List.append_assoc]; exact b2, by rw [List.length_append]; show 1 + X.length ≤ 5; omega, by rw [← List.append_assoc]; exact b4, ag_tr a4 b5⟩
    rw [if_pos (by decide), a1, mq_cl_s, b1, mq_cl_s]
  · obtain ⟨S1, a1, a2, a3, a4⟩ := rn_node (N := N) (z := z) (k := 8) (a := v) (b := -1) (t := .mulL 0 x) h (by omega) ⟨rfl, wx⟩ (Or.inr (Or.inr (Or.inr (Or.inl ⟨i, x, ev, hi, Or.inr (Or.inl ⟨rfl, rfl⟩)⟩))))
    refine ⟨_, S1, [.mulL 0 x], ?_, a2, (by show 1 ≤ 5; omega), a3, a4⟩
    rw [if_neg (by decide), if_pos (by decide), a1, mq_cl_s]
  · obtain ⟨S1, a1, a2, a3, a4⟩ := rn_node (N := N) (z := z) (k := 9) (a := v) (b := -1) (t := .mulR x 0) h (by omega) ⟨rfl, wx⟩ (Or.inr (Or.inr (Or.inr (Or.inl ⟨i, x, ev, hi, Or.inr (Or.inr ⟨rfl, rfl⟩)⟩))))
    refine ⟨_, S1, [.mulR x 0], ?_, a2, (by show 1 ≤ 5; omega), a3, a4⟩
    rw [if_neg (by decide), if_neg (by decide), a1, mq_cl_s]
end RN
