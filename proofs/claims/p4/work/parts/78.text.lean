/-! The TEXT of a formula as a list of bytes; what is told of it. -/
def txf (so on tw : Nat → Int32) : Nat → Nat → List Int32
  | 0, _ => []
  | k + 1, f => if so f = 0 then [84] else if so f = 1 then [70] else if so f = 2 then [97 + on f] else if so f = 3 then [33, 97 + on f]
    else if so f = 6 then 91 :: 93 :: txf so on tw k (on f).toNatClampNeg else if so f = 7 then 60 :: 62 :: txf so on tw k (on f).toNatClampNeg
    else 40 :: (txf so on tw k (on f).toNatClampNeg ++ (if so f = 4 then 38 else 124) :: (txf so on tw k (tw f).toNatClampNeg ++ [41]))
theorem txf_st {n : Nat} {so on tw : Nat → Int32} {d : Nat → Nat} (hw : fw n so on tw d) : ∀ f, f < n → ∀ k, f < k → txf so on tw k f = txf so on tw (f + 1) f := by
  intro f
  induction f using Nat.strongRecOn with
  | ind f ih =>
    intro hf k hk
    have h3 := hw.2.1
    obtain ⟨k', rfl⟩ : ∃ q, k = q + 1 := ⟨k - 1, by omega⟩
    unfold txf
    have sub : ∀ a, a < f → txf so on tw k' a = txf so on tw f a := fun a ha => (ih a ha (by omega) k' (by omega)).trans (ih a ha (by omega) f ha).symm
    have cl : ∀ a, a < f → (nI a).toNatClampNeg = a := fun a ha => nI_clamp (by omega)
    rcases hw.2.2.2.2 f hf with ⟨-, s0, -⟩ | ⟨-, s0, -⟩ | ⟨hs, -⟩ | ⟨hs, a, b, ha, hb, w1, w2, -⟩ | ⟨hs, -, -, a, ha, w1, -⟩
    · rw [s0, if_pos rfl, if_pos rfl]
    · rw [s0]
      rfl
    · rcases hs with ⟨s0, -⟩ | ⟨s0, -⟩ <;> (rw [s0]; rfl)
    · rw [w1, w2, cl a ha, cl b hb, sub a ha, sub b hb]
    · rcases hs with ⟨s0, -⟩ | ⟨s0, -⟩ <;> (rw [s0, w1, cl a ha, sub a ha]; rfl)
def tx (so on tw : Nat → Int32) (f : Nat) : List Int32 := txf so on tw (f + 1) f
theorem tx_two {n a b f : Nat} {so on tw : Nat → Int32} {d : Nat → Nat} (hw : fw n so on tw d) (hf : f < n) (h45 : so f = 4 ∨ so f = 5) (ha : a < f) (hb : b < f) (w1 : on f = nI a) (w2 : tw f = nI b) : tx so on tw f = 40 :: (tx so on tw a ++ (if so f = 4 then 38 else 124) :: (tx so on tw b ++ [41])) := by
  have h3 := hw.2.1
  unfold tx
  rw [← txf_st hw a (by omega) f ha, ← txf_st hw b (by omega) f hb]
  show txf so on tw (f + 1) f = _
  rw [txf, w1, w2, nI_clamp (by omega), nI_clamp (by omega)]
  rcases h45 with q | q <;> (rw [q]; rfl)
theorem tx_need {n a f : Nat} {so on tw : Nat → Int32} {d : Nat → Nat} (hw : fw n so on tw d) (hf : f < n) (s0 : so f = 6) (ha : a < f) (w1 : on f = nI a) : tx so on tw f = 91 :: 93 :: tx so on tw a := by
  have h3 := hw.2.1
  unfold tx
  rw [← txf_st hw a (by omega) f ha, txf, w1, nI_clamp (by omega), s0]
  rfl
theorem tx_may {n a f : Nat} {so on tw : Nat → Int32} {d : Nat → Nat} (hw : fw n so on tw d) (hf : f < n) (s0 : so f = 7) (ha : a < f) (w1 : on f = nI a) : tx so on tw f = 60 :: 62 :: tx so on tw a := by
  have h3 := hw.2.1
  unfold tx
  rw [← txf_st hw a (by omega) f ha, txf, w1, nI_clamp (by omega), s0]
  rfl
theorem tx_0 {f : Nat} {so on tw : Nat → Int32} (s0 : so f = 0) : tx so on tw f = [84] := by unfold tx txf; rw [s0]; rfl
theorem tx_1 {f : Nat} {so on tw : Nat → Int32} (s0 : so f = 1) : tx so on tw f = [70] := by unfold tx txf; rw [s0]; rfl
theorem tx_2 {f : Nat} {so on tw : Nat → Int32} (s0 : so f = 2) : tx so on tw f = [97 + on f] := by unfold tx txf; rw [s0]; rfl
theorem tx_3 {f : Nat} {so on tw : Nat → Int32} (s0 : so f = 3) : tx so on tw f = [33, 97 + on f] := by unfold tx txf; rw [s0]; rfl
/-- the first 400 bytes of D are told: the class's side, the reference's -/
def tc (S : mq_St) (D : List Int32) : Prop := by_row (mq_pull S [1] [3] []) (min D.length 400) (fun i => D.getD i 0 &&& 255)
def tr (S : mq_St) (D : List Int32) : Prop := S.1 2 = nI (min D.length 400) ∧ ∀ i, i < min D.length 400 → S.2.1 1 i &&& 255 = D.getD i 0 &&& 255
theorem gd_app {D : List Int32} {v : Int32} {i : Nat} (h : i < D.length) : (D ++ [v]).getD i 0 = D.getD i 0 := by
  rw [List.getD_eq_getElem?_getD, List.getD_eq_getElem?_getD, List.getElem?_append_left h]
theorem gd_appX {D X : List Int32} {i : Nat} (h : i < D.length) : (D ++ X).getD i 0 = D.getD i 0 := by
  rw [List.getD_eq_getElem?_getD, List.getD_eq_getElem?_getD, List.getElem?_append_left h]
theorem gd_end (D : List Int32) (v : Int32) : (D ++ [v]).getD D.length 0 = v := by
  rw [List.getD_eq_getElem?_getD, List.getElem?_append_right (Nat.le_refl _), Nat.sub_self]
  rfl
theorem tc_more {S : mq_St} {D X : List Int32} (h : tc S D) (h4 : 400 ≤ D.length) : tc S (D ++ X) := by
  unfold tc at h ⊢
  have e1 : min D.length 400 = 400 := by omega
  have e2 : min (D ++ X).length 400 = 400 := by rw [List.length_append]; omega
  rw [e1] at h
  rw [e2]
  exact by_row_c h (fun i hi => by show D.getD i 0 &&& 255 = (D ++ X).getD i 0 &&& 255; rw [gd_appX (by omega)])
theorem tr_more {S : mq_St} {D X : List Int32} (h : tr S D) (h4 : 400 ≤ D.length) : tr S (D ++ X) := by
  unfold tr at h ⊢
  have e1 : min D.length 400 = 400 := by omega
  have e2 : min (D ++ X).length 400 = 400 := by rw [List.length_append]; omega
  rw [e1] at h
  rw [e2]
  exact ⟨h.1, fun i hi => by rw [gd_appX (by omega)]; exact h.2 i hi⟩
theorem ck_emit {N : Nat} {z : Nat → Nat} {S : mq_St} {D : List Int32} (v : Int32) (h : tc S D) : ∃ S', zf_X9_emit N z v S = some ((), S') ∧ tc S' (D ++ [v]) ∧ ag [1] [3] [] S S' := by
  unfold zf_X9_emit
  rw [show zf_X0_size N z (mq_pull S [1] [3] []) = some ((mq_pull S [1] [3] []).1 0) from rfl, mq_cp_s, h.1]
  by_cases h4 : 400 ≤ D.length
  · have e1 : min D.length 400 = 400 := by omega
    rw [e1, if_pos (by decide : (400 : Int32) ≤ nI 400)]
    exact ⟨S, rfl, tc_more h h4, ag_rf⟩
  · have e1 : min D.length 400 = D.length := by omega
    have e2 : min (D ++ [v]).length 400 = D.length + 1 := by rw [List.length_append, List.length_singleton]; omega
    have e400 : ¬ (400 : Int32) ≤ nI D.length := nI_ge (a := D.length) (b := 400) (by omega) (by omega)
    rw [e1, if_neg e400]
    have h' := h
    unfold tc at h'
    rw [e1] at h'
    obtain ⟨X, a1, a2⟩ := by_next (N := N) (z := z) (g := fun i => (D ++ [v]).getD i 0 &&& 255) v (by_row_c h' (fun i hi => by show D.getD i 0 &&& 255 = (D ++ [v]).getD i 0 &&& 255; rw [gd_app hi])) (by omega) (by show (D ++ [v]).getD D.length 0 &&& 255 = v &&& 255; rw [gd_end])
    refine ⟨mq_push S X [1] [3] [], by rw [a1]; rfl, ?_, ag_push⟩
    unfold tc
    rw [e2]
    exact a2
theorem rf_tells {N : Nat} {z : Nat → Nat} {S : mq_St} {D : List Int32} (v : Int32) (h : tr S D) : ∃ S', zf_X11_tells N z v S = some ((), S') ∧ tr S' (D ++ [v]) ∧ ag [2] [1] [] S S' := by
  unfold zf_X11_tells
  rw [h.1]
  by_cases h4 : 400 ≤ D.length
  · have e1 : min D.length 400 = 400 := by omega
    rw [e1, if_pos (by decide : (400 : Int32) ≤ nI 400)]
    exact ⟨S, rfl, tr_more h h4, ag_rf⟩
  · have e1 : min D.length 400 = D.length := by omega
    have e2 : min (D ++ [v]).length 400 = D.length + 1 := by rw [List.length_append, List.length_singleton]; omega
    have e400 : ¬ (400 : Int32) ≤ nI D.length := nI_ge (a := D.length) (b := 400) (by omega) (by omega)
    have hin : vp_in (nI D.length) 4000 := vp_in_nI (by omega) (by omega)
    have ecl : (nI D.length).toNatClampNeg = D.length := nI_clamp (by omega)
    have h2 := h.2
    have h1 := h.1
    rw [e1] at h2 h1
    rw [e1, if_neg e400, mq_ck_of hin, ecl, vp_nar_byte, Int8.toInt8_toInt32]
    dsimp only [mq_nS]
    refine ⟨_, rfl, ?_, ag_tr (ag_sa (by decide)) (ag_si (by decide))⟩
    unfold tr
    rw [e2]
    refine ⟨?_, fun i hi => ?_⟩
    · show S.1 2 + 1 = _
      rw [h1, nI_1]
    · show upd (S.2.1 1) D.length v.toInt8.toInt32 i &&& 255 = _
      unfold upd
      by_cases e : i = D.length
      · rw [if_pos e, bp_b, e, gd_end]
      · rw [if_neg e, gd_app (by omega)]
        exact h2 i (by omega)
