/-! The tableau: single acts on either side. -/
theorem pu_1 {S : mq_St} {i a : Nat} {v : Int32} {f : Nat → Int32} : mq_push S (mq_si (mq_sa (mq_pull S [i] [a] []) 0 f) 0 v) [i] [a] [] = mq_si (mq_sa S a f) i v := by
  have h0 : ∀ q : Nat, [q].idxOf? q = some 0 := fun q => by simp [List.idxOf?, List.findIdx?_cons]
  refine Prod.ext ?_ (Prod.ext ?_ rfl)
  · funext q
    show (match [i].idxOf? q with | some j => (mq_si (mq_sa (mq_pull S [i] [a] []) 0 f) 0 v).1 j | none => S.1 q) = if q = i then v else S.1 q
    by_cases e : q = i
    · subst e; rw [h0, if_pos rfl]; rfl
    · rw [if_neg e, List.idxOf?_eq_none_iff.mpr (by simpa using e)]
  · funext q
    show (match [a].idxOf? q with | some j => (mq_si (mq_sa (mq_pull S [i] [a] []) 0 f) 0 v).2.1 j | none => S.2.1 q) = if q = a then f else S.2.1 q
    by_cases e : q = a
    · subst e; rw [h0, if_pos rfl]; rfl
    · rw [if_neg e, List.idxOf?_eq_none_iff.mpr (by simpa using e)]
theorem pu_2 {S : mq_St} {i a : Nat} {v : Int32} : mq_push S (mq_si (mq_pull S [i] [a] []) 0 v) [i] [a] [] = mq_si S i v := by
  have h0 : ∀ q : Nat, [q].idxOf? q = some 0 := fun q => by simp [List.idxOf?, List.findIdx?_cons]
  refine Prod.ext ?_ (Prod.ext ?_ rfl)
  · funext q
    show (match [i].idxOf? q with | some j => (mq_si (mq_pull S [i] [a] []) 0 v).1 j | none => S.1 q) = if q = i then v else S.1 q
    by_cases e : q = i
    · subst e; rw [h0, if_pos rfl]; rfl
    · rw [if_neg e, List.idxOf?_eq_none_iff.mpr (by simpa using e)]
  · funext q
    show (match [a].idxOf? q with | some j => (mq_si (mq_pull S [i] [a] []) 0 v).2.1 j | none => S.2.1 q) = S.2.1 q
    by_cases e : q = a
    · subst e; rw [h0]; rfl
    · rw [List.idxOf?_eq_none_iff.mpr (by simpa using e)]
theorem pu_0 {S : mq_St} {i a : Nat} : mq_push S (mq_pull S [i] [a] []) [i] [a] [] = S := by
  have h0 : ∀ q : Nat, [q].idxOf? q = some 0 := fun q => by simp [List.idxOf?, List.findIdx?_cons]
  refine Prod.ext ?_ (Prod.ext ?_ rfl)
  · funext q
    show (match [i].idxOf? q with | some j => (mq_pull S [i] [a] []).1 j | none => S.1 q) = S.1 q
    by_cases e : q = i
    · subst e; rw [h0]; rfl
    · rw [List.idxOf?_eq_none_iff.mpr (by simpa using e)]
  · funext q
    show (match [a].idxOf? q with | some j => (mq_pull S [i] [a] []).2.1 j | none => S.2.1 q) = S.2.1 q
    by_cases e : q = a
    · subst e; rw [h0]; rfl
    · rw [List.idxOf?_eq_none_iff.mpr (by simpa using e)]
theorem cl_go {A B : Type} {x : Option (A × mq_St)} {v : A} {s : mq_St} {k : A → mq_St → Option B} (h : x = some (v, s)) : mq_cl x k = k v s := by
  rw [h, mq_cl_s]
theorem nS_go {B : Type} {a b : mq_St} {k : mq_St → Option B} (h : a = b) : mq_nS a k = k b := by
  rw [h, nS_e]
theorem cp_go {A B : Type} {x : Option A} {v : A} {k : A → Option B} (h : x = some v) : mq_cp x k = k v := by
  rw [h, mq_cp_s]
section TOPS
variable {N : Nat} {z : Nat → Nat} {S : mq_St} {st F ln : Nat}
theorem ck_step (h0 : S.2.1 21 0 = nI st) (hF : S.1 18 = nI F) (h1 : st ≤ F) (h2 : F ≤ 100000) : zf_X8_step N z S = if st < F then some (1, mq_sa S 21 (upd (S.2.1 21) 0 (nI (st + 1)))) else some (0, mq_si S 19 (-3)) := by
  unfold zf_X8_step
  have i0 : vp_in (0 : Int32) 4 := vp_in_nI (n := 0) (by omega) (by omega)
  have c0 : (0 : Int32).toNatClampNeg = 0 := nI_clamp (n := 0) (by omega)
  simp only [mq_ck_of i0, c0, h0, hF, nS_e, mq_cz_0, mq_cz_1, nI_1]
  by_cases e : st < F
  · rw [if_pos (nI_lt e (by omega)), if_pos e]
  · rw [if_neg (nI_nlt (by omega) (by omega)), if_neg e]
theorem rf_step (h0 : S.1 19 = nI st) (hF : S.1 18 = nI F) (h1 : st ≤ F) (h2 : F ≤ 100000) : zf_X11_step N z S = if st < F then some (1, mq_si S 19 (nI (st + 1))) else some (0, mq_si S 23 (-3)) := by
  unfold zf_X11_step
  rw [h0, hF, nS_e, nS_e, mq_cz_0, mq_cz_1, nI_1]
  by_cases e : st < F
  · rw [if_neg (fun q => by have := sp_inj q (by omega) (by omega); omega), if_pos e]
  · rw [if_pos (by rw [show st = F by omega]), if_neg e]
theorem ck_note (r f : Int32) (h0 : S.1 20 = nI ln) (h1 : ln ≤ 1299) : zf_X8_note N z r f S = if ln < 1299 then some (1, mq_si (mq_sa S 22 (upd (S.2.1 22) ln ((r <<< ((16 : Int32) &&& 31)) ||| f))) 20 (nI (ln + 1))) else some (0, mq_si S 19 (-4)) := by
  unfold zf_X8_note
  have hp : zf_X3_push N z r f (mq_pull S [20] [22] []) = if ln < 1299 then some (1, mq_si (mq_sa (mq_pull S [20] [22] []) 0 (upd (S.2.1 22) ln ((r <<< ((16 : Int32) &&& 31)) ||| f))) 0 (nI (ln + 1))) else some (0, mq_pull S [20] [22] []) := by
    unfold zf_X3_push
    rw [show (mq_pull S [20] [22] []).1 0 = nI ln from h0]
    have e1 : (nI ln < (1299 : Int32)) ↔ ln < 1299 := nI_ltI (b := 1299) (by omega) (by omega)
    by_cases e : ln < 1299
    · rw [if_pos (e1.mpr e), if_pos e, mq_ck_of (vp_in_nI e (by omega)), nI_clamp (by omega), nS_e, nS_e, sa_1, show (mq_pull S [20] [22] []).1 0 = nI ln from h0, nI_1, mq_cz_1]
      rfl
    · rw [if_neg (fun q => e (e1.mp q)), if_neg e, mq_cz_0]
  rw [hp]
  by_cases e : ln < 1299
  · rw [if_pos e, if_pos e, mq_cl_s, nS_e, if_neg (by decide), mq_cz_1, pu_1]
  · rw [if_neg e, if_neg e, mq_cl_s, nS_e, if_pos rfl, nS_e, mq_cz_0, pu_0]
theorem rf_line (r f : Int32) (h0 : S.1 26 = nI ln) (h1 : ln ≤ 1299) : zf_X11_line N z r f S = if ln < 1299 then some (1, mq_si (mq_sa (mq_sa S 23 (upd (S.2.1 23) ln r)) 24 (upd (S.2.1 24) ln f)) 26 (nI (ln + 1))) else some (0, mq_si S 23 (-4)) := by
  unfold zf_X11_line
  rw [h0]
  have e1 : (nI ln = (1299 : Int32)) ↔ ln = 1299 := nI_eq (b := 1299) (by omega) (by omega)
  by_cases e : ln < 1299
  · rw [if_neg (fun q => by have := e1.mp q; omega), if_pos e, mq_ck_of (vp_in_nI (by omega) (by omega)), nI_clamp (by omega), nS_e, sa_1, h0, mq_ck_of (vp_in_nI (by omega) (by omega)), nI_clamp (by omega), nS_e, nS_e, sa_1, sa_1, h0, nI_1, mq_cz_1]
    rfl
  · rw [if_pos (e1.mpr (by omega)), if_neg e, nS_e, mq_cz_0]
theorem rf_put {f : Nat} (hf : f < 320) : ∃ a', zf_X11_put N (fun k => [10].getD k 0) 0 (nI f) (mq_pull S [] [17] []) = some ((), mq_sa (mq_pull S [] [17] []) 0 a') ∧ mq_push S (mq_sa (mq_pull S [] [17] []) 0 a') [] [17] [] = mq_sa S 17 a' ∧ ∀ g, g < 320 → ib a' 0 g = (ib (S.2.1 17) 0 g || decide (g = f)) := by
  obtain ⟨a', h1, h2⟩ := ri_put (N := N) (R := 1) (r := 0) (z := fun k => [10].getD k 0) (S := mq_pull S [] [17] []) (f := f) rfl (by omega) (by omega) hf
  refine ⟨a', h1, ?_, fun g hg => ?_⟩
  · have h0 : ∀ q : Nat, [q].idxOf? q = some 0 := fun q => by simp [List.idxOf?, List.findIdx?_cons]
    refine Prod.ext rfl (Prod.ext ?_ rfl)
    funext q
    show (match [17].idxOf? q with | some j => (mq_sa (mq_pull S [] [17] []) 0 a').2.1 j | none => S.2.1 q) = if q = 17 then a' else S.2.1 q
    by_cases e : q = 17
    · subst e; rw [h0, if_pos rfl]; rfl
    · rw [if_neg e, List.idxOf?_eq_none_iff.mpr (by simpa using e)]
  · have := h2 0 g hg
    rw [this]
    show (ib (S.2.1 17) 0 g || decide (0 = 0 ∧ g = f)) = _
    congr 1
    rw [decide_eq_decide]
    exact ⟨fun q => q.2, fun q => ⟨rfl, q⟩⟩
/-- a copy from one array into another one -/
theorem rf_cp {a b ra rb R R' : Nat} {y : Nat → Nat} (hN : 20 ≤ N) (hab : a ≠ b) (hy0 : y 0 = 10 * R) (hy1 : y 1 = 10 * R') (hR : R < 10000) (hR' : R' < 10000) (h1 : ra < R) (h2 : rb < R') : ∃ q', zf_X11_copy N y (nI (10 * ra)) (nI (10 * rb)) (mq_pull S [] [a, b] []) = some ((), mq_sa (mq_pull S [] [a, b] []) 1 q') ∧ mq_push S (mq_sa (mq_pull S [] [a, b] []) 1 q') [] [a, b] [] = mq_sa S b q' ∧ ∀ r g, g < 320 → ib q' r g = if r = rb then ib (S.2.1 a) ra g else ib (S.2.1 b) r g := by
  obtain ⟨q', e1, e2⟩ := ri_copy (N := N) (R := R) (R' := R') (r := ra) (r' := rb) (z := y) (S := mq_pull S [] [a, b] []) hN hy0 hy1 hR hR' h1 h2
  refine ⟨q', e1, ?_, e2⟩
  refine Prod.ext rfl (Prod.ext ?_ rfl)
  funext q
  show (match [a, b].idxOf? q with | some j => (mq_sa (mq_pull S [] [a, b] []) 1 q').2.1 j | none => S.2.1 q) = if q = b then q' else S.2.1 q
  by_cases ea : q = a
  · have : [a, b].idxOf? q = some 0 := by rw [ea]; simp [List.idxOf?, List.findIdx?_cons]
    rw [this, if_neg (by rw [ea]; exact hab), ea]
    rfl
  · by_cases eb : q = b
    · have : [a, b].idxOf? q = some 1 := by
        rw [eb]
        simp [List.idxOf?, List.findIdx?_cons, hab]
      rw [this, if_pos eb]
      rfl
    · rw [if_neg eb, List.idxOf?_eq_none_iff.mpr (by simp [ea, eb])]
theorem rf_waits {wt : Nat} (hN : 20 ≤ N) (v1 v2 : Int32) (h27 : S.1 27 = nI wt) (hwt : wt < 470) (hv : v1 = 0 ∨ v1 = 1) : ∃ q', zf_X11_waits N z v1 v2 S = some ((), mq_si (mq_sa (mq_sa (mq_sa (mq_sa (mq_sa (mq_sa S 25 (upd (S.2.1 25) wt v1)) 26 (upd (S.2.1 26) wt v2)) 27 (upd (S.2.1 27) wt (S.1 25))) 28 (upd (S.2.1 28) wt (S.1 24))) 29 (upd (S.2.1 29) wt (S.1 26))) 30 q') 27 (nI (wt + 1))) ∧ ∀ r g, g < 320 → ib q' r g = if r = wt then ib (S.2.1 17) 0 g else ib (S.2.1 30) r g := by
  have nar : vp_nar .boolean v1 = v1 := by rcases hv with rfl | rfl <;> rfl
  obtain ⟨q', e1, e2, e3⟩ := rf_cp (N := N) (S := mq_sa (mq_sa (mq_sa (mq_sa (mq_sa S 25 (upd (S.2.1 25) wt v1)) 26 (upd (S.2.1 26) wt v2)) 27 (upd (S.2.1 27) wt (S.1 25))) 28 (upd (S.2.1 28) wt (S.1 24))) 29 (upd (S.2.1 29) wt (S.1 26))) (a := 17) (b := 30) (ra := 0) (rb := wt) (R := 1) (R' := 470) (y := fun k => [10, 4700].getD k 0) hN (by decide) rfl rfl (by omega) (by omega) (by omega) hwt
  refine ⟨q', ?_, e3⟩
  have i1 : vp_in (nI wt) 470 := vp_in_nI hwt (by omega)
  have c1 : (nI wt).toNatClampNeg = wt := nI_clamp (by omega)
  unfold zf_X11_waits
  simp only [nS_e, sa_1, h27, mq_ck_of i1, c1, nar]
  have e10 : (10 : Int32) * nI wt = nI (10 * wt) := pk_mul 10 wt
  rw [e10]
  refine (cl_go e1).trans ((nS_go e2 (k := fun T => mq_nS (mq_si T 27 (T.1 27 + 1)) (fun T => some ((), T)))).trans ?_)
  rw [nS_e]
  show some ((), mq_si _ 27 (S.1 27 + 1)) = _
  rw [h27, nI_1]
end TOPS
