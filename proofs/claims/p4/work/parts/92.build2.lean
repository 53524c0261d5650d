/-! build: a mark on top of the way is numbered, with all its parts. -/
def bdA (N : Nat) (z : Nat → Nat) (W : List Tr) (i m : Nat) (t : Tr) (S : mq_St) (L : List En) (top turn fuel : Nat) (v1 : Int32) : Prop :=
  ((mk t L).2.length ≤ 300 → ∃ (S' : mq_St) (turn' fuel' : Nat), zf_X2_build_11 N z fuel v1 (nI top) (nI turn) S = zf_X2_build_11 N z fuel' v1 (nI top + (-1)) (nI turn') S' ∧ tbC S' (mk t L).2 ∧ nmb (S'.2.1 11) W (mk t L).2 ∧ clo (S'.2.1 11) W ∧ S'.2.1 11 m = nI (mk t L).1 ∧ (∀ j, ¬ S.2.1 11 j = -1 → S'.2.1 11 j = S.2.1 11 j) ∧ (∀ j, i ≤ j / 2 → j ≠ m → S'.2.1 11 j = S.2.1 11 j) ∧ (∀ j, j ≤ top → S'.2.1 12 j = S.2.1 12 j) ∧ (∀ K, 2 * i + 2 ≤ K → fuel + 2 * uc (S'.2.1 11) K + 1 ≤ fuel' + 2 * uc (S.2.1 11) K ∧ turn' + 2 * uc (S'.2.1 11) K + 1 ≤ turn + 2 * uc (S.2.1 11) K) ∧ (∀ f, L.length ≤ f → f < (mk t L).2.length → ∃ j, j < 2 * W.length ∧ S'.2.1 11 j = nI f) ∧ (∀ f, f < L.length → S'.2.1 7 f = S.2.1 7 f) ∧ ag [2] [4, 5, 6, 7, 11, 12] [0] S S') ∧
  (300 < (mk t L).2.length → ∃ S' X, zf_X2_build_11 N z fuel v1 (nI top) (nI turn) S = some (-1, S') ∧ tbC S' (L ++ X) ∧ (∀ f, f < L.length → S'.2.1 7 f = S.2.1 7 f) ∧ ag [2] [4, 5, 6, 7, 11, 12] [0] S S')
theorem fp_c {N : Nat} {z : Nat → Nat} {S S1 : mq_St} {v : Int32} (g : ag [2] [4, 5, 6, 7, 11, 12] [0] S S1) : zf_X2_firstPart N z v S1 = zf_X2_firstPart N z v S ∧ zf_X2_secondPart N z v S1 = zf_X2_secondPart N z v S := by
  have e3 := g.1 3 (by decide)
  have e8 := g.2.1 8 (by decide)
  have e9 := g.2.1 9 (by decide)
  have e10 := g.2.1 10 (by decide)
  constructor
  · unfold zf_X2_firstPart zf_X2_isMark
    rw [e3, e8, e9]
  · unfold zf_X2_secondPart zf_X2_isMark
    rw [e3, e8, e10]
theorem dfb_g {S S1 : mq_St} {W : List Tr} (h : dfb S W) (g : ag [2] [4, 5, 6, 7, 11, 12] [0] S S1) : dfb S1 W := dfb_c h (g.1 3 (by decide)) (g.2.1 8 (by decide)) (g.2.1 9 (by decide)) (g.2.1 10 (by decide))
/-- which part is to be made -/
theorem pm_no {N : Nat} {z : Nat → Nat} {S : mq_St} {v : Int32} (h1 : zf_X2_firstPart N z v S = some (-1)) (h2 : zf_X2_secondPart N z v S = some (-1)) : zf_X2_partToMake N z v S = some (-1) := by
  unfold zf_X2_partToMake zf_X2_partToMake_22
  rw [h1, mq_cp_s, nI_e, if_pos rfl, h2, mq_cp_s, nI_e, if_pos rfl]
theorem pm_1 {N x : Nat} {z : Nat → Nat} {S : mq_St} {v : Int32} (h1 : zf_X2_firstPart N z v S = some (nI x)) (hx : x < 400) (hn : zf_X2_numberOf N z (nI x) S = some (-1)) : zf_X2_partToMake N z v S = some (nI x) := by
  unfold zf_X2_partToMake
  rw [h1, mq_cp_s, nI_e, if_neg (nI_nm1 (by omega)), hn, mq_cp_s, if_pos rfl]
theorem pm_10 {N x : Nat} {z : Nat → Nat} {S : mq_St} {v n : Int32} (h1 : zf_X2_firstPart N z v S = some (nI x)) (hx : x < 400) (hn : zf_X2_numberOf N z (nI x) S = some n) (hn1 : ¬ n = -1) (h2 : zf_X2_secondPart N z v S = some (-1)) : zf_X2_partToMake N z v S = some (-1) := by
  unfold zf_X2_partToMake zf_X2_partToMake_22
  rw [h1, mq_cp_s, nI_e, if_neg (nI_nm1 (by omega)), hn, mq_cp_s, if_neg hn1, h2, mq_cp_s, nI_e, if_pos rfl]
theorem pm_2 {N x y : Nat} {z : Nat → Nat} {S : mq_St} {v n : Int32} (h1 : zf_X2_firstPart N z v S = some (nI x)) (hx : x < 400) (hn : zf_X2_numberOf N z (nI x) S = some n) (hn1 : ¬ n = -1) (h2 : zf_X2_secondPart N z v S = some (nI y)) (hy : y < 400) (hm : zf_X2_numberOf N z (nI y) S = some (-1)) : zf_X2_partToMake N z v S = some (nI y) := by
  unfold zf_X2_partToMake zf_X2_partToMake_22
  rw [h1, mq_cp_s, nI_e, if_neg (nI_nm1 (by omega)), hn, mq_cp_s, if_neg hn1, h2, mq_cp_s, nI_e, if_neg (nI_nm1 (by omega)), hm, mq_cp_s, if_pos rfl]
theorem pm_20 {N x y : Nat} {z : Nat → Nat} {S : mq_St} {v n k : Int32} (h1 : zf_X2_firstPart N z v S = some (nI x)) (hx : x < 400) (hn : zf_X2_numberOf N z (nI x) S = some n) (hn1 : ¬ n = -1) (h2 : zf_X2_secondPart N z v S = some (nI y)) (hy : y < 400) (hm : zf_X2_numberOf N z (nI y) S = some k) (hk : ¬ k = -1) : zf_X2_partToMake N z v S = some (-1) := by
  unfold zf_X2_partToMake zf_X2_partToMake_22
  rw [h1, mq_cp_s, nI_e, if_neg (nI_nm1 (by omega)), hn, mq_cp_s, if_neg hn1, h2, mq_cp_s, nI_e, if_neg (nI_nm1 (by omega)), hm, mq_cp_s, if_neg hk]
theorem bd_all {N : Nat} {z : Nat → Nat} (hN : 400 ≤ N) {W : List Tr} {v1 : Int32} : ∀ (i m : Nat) (t : Tr), m / 2 = i → mt W m t → ∀ (S : mq_St) (L : List En) (top turn fuel : Nat), tbC S L → ok0 L → dfb S W → nmb (S.2.1 11) W L → clo (S.2.1 11) W → S.2.1 12 top = nI m → S.2.1 11 m = -1 → top + i < 150 → turn + 2 * uc (S.2.1 11) (2 * i + 2) < 1000000 → 2 * uc (S.2.1 11) (2 * i + 2) ≤ fuel → bdA N z W i m t S L top turn fuel v1 := by
  intro i
  induction i using Nat.strongRecOn with
  | ind i ih =>
    intro m t hmi hm S L top turn fuel hL h0 hd hn hc hw hD htop hturn hfuel
    have hml := mt_lt hm
    have h150 := hd.2.1
    have hucm : uc (S.2.1 11) (2 * i) + 1 ≤ uc (S.2.1 11) (2 * i + 2) := by
      have u1 := uc_upd (v := 0) hD (by decide) (2 * i + 2) (by omega)
      have u2 := uc_ext (t := S.2.1 11) (t' := upd (S.2.1 11) m 0) (2 * i) (fun j hj => by rw [up_o (by omega)])
      have u3 := uc_mono (t := upd (S.2.1 11) m 0) (a := 2 * i) (2 * i + 2) (by omega)
      omega
    -- a part is numbered, or was so already
    have adv : ∀ (x : Nat) (a : Tr) (S1 : mq_St) (L1 : List En) (turn1 fuel1 : Nat), mt W x a → x / 2 < i → tbC S1 L1 → ok0 L1 → dfb S1 W → nmb (S1.2.1 11) W L1 → clo (S1.2.1 11) W → S1.2.1 12 top = nI m → (S1.2.1 11 x = -1 → zf_X2_partToMake N z (nI m) S1 = some (nI x)) → turn1 + 2 * uc (S1.2.1 11) (2 * i) + 1 < 1000000 → 2 * uc (S1.2.1 11) (2 * i) + 1 ≤ fuel1 →
        ((mk a L1).2.length ≤ 300 → ∃ (S' : mq_St) (turn' fuel' : Nat), zf_X2_build_11 N z fuel1 v1 (nI top) (nI turn1) S1 = zf_X2_build_11 N z fuel' v1 (nI top) (nI turn') S' ∧ tbC S' (mk a L1).2 ∧ nmb (S'.2.1 11) W (mk a L1).2 ∧ clo (S'.2.1 11) W ∧ S'.2.1 11 x = nI (mk a L1).1 ∧ (∀ j, ¬ S1.2.1 11 j = -1 → S'.2.1 11 j = S1.2.1 11 j) ∧ (∀ j, i ≤ j / 2 → S'.2.1 11 j = S1.2.1 11 j) ∧ (∀ j, j ≤ top → S'.2.1 12 j = S1.2.1 12 j) ∧ (∀ K, 2 * i ≤ K → fuel1 + 2 * uc (S'.2.1 11) K ≤ fuel' + 2 * uc (S1.2.1 11) K ∧ turn' + 2 * uc (S'.2.1 11) K ≤ turn1 + 2 * uc (S1.2.1 11) K) ∧ (∀ f, L1.length ≤ f → f < (mk a L1).2.length → ∃ j, j < 2 * W.length ∧ S'.2.1 11 j = nI f) ∧ (∀ f, f < L1.length → S'.2.1 7 f = S1.2.1 7 f) ∧ ag [2] [4, 5, 6, 7, 11, 12] [0] S1 S') ∧
        (300 < (mk a L1).2.length → ∃ S' X, zf_X2_build_11 N z fuel1 v1 (nI top) (nI turn1) S1 = some (-1, S') ∧ tbC S' (L1 ++ X) ∧ (∀ f, f < L1.length → S'.2.1 7 f = S1.2.1 7 f) ∧ ag [2] [4, 5, 6, 7, 11, 12] [0] S1 S') := by
      intro x a S1 L1 turn1 fuel1 hx hxi hL1 h01 hd1 hn1 hc1 hw1 hpm ht1 hf1
      have hxl := mt_lt hx
      rcases hn1 x a hx with hx1 | ⟨k, hk, hpr⟩
      · obtain ⟨fu, rfl⟩ : ∃ q, fuel1 = q + 1 := ⟨fuel1 - 1, by omega⟩
        have hux := uc_mono (t := S1.2.1 11) (a := 2 * (x / 2) + 2) (2 * i) (by omega)
        have E := bs_push (N := N) (z := z) (S := S1) (v1 := v1) (top := top) (turn := turn1) (fuel := fu) (x := x) (m := m) (by omega) (by omega) hw1 (hpm hx1) (by omega)
        obtain ⟨A, B⟩ := ih (x / 2) hxi x a rfl hx (mq_sa S1 12 (upd (S1.2.1 12) (top + 1) (nI x))) L1 (top + 1) (turn1 + 1) fu hL1 h01 (dfb_c hd1 rfl rfl rfl rfl) hn1 hc1 (up_s _ _ _) hx1 (by omega) (by show turn1 + 1 + 2 * uc (S1.2.1 11) (2 * (x / 2) + 2) < _; omega) (by show 2 * uc (S1.2.1 11) (2 * (x / 2) + 2) ≤ fu; omega)
        have gS : ag [2] [4, 5, 6, 7, 11, 12] [0] S1 (mq_sa S1 12 (upd (S1.2.1 12) (top + 1) (nI x))) := ag_sa (by decide)
        refine ⟨fun q => ?_, fun q => ?_⟩
        · obtain ⟨S', turn', fuel', a1, a2, a3, a3c, a4, a5, a6, a7, a8, a10, a11, a12⟩ := A q
          refine ⟨S', turn', fuel', E.trans (a1.trans (by rw [pk_m1])), a2, a3, a3c, a4, a5, fun j hj => a6 j (by omega) (fun e => by rw [e] at hj; omega), fun j hj => ?_, fun K hK => ?_, a10, a11, ag_tr gS a12⟩
          · rw [a7 j (by omega)]
            show upd (S1.2.1 12) (top + 1) (nI x) j = _
            rw [up_o (by omega)]
          · have a8 : fu + 2 * uc (S'.2.1 11) K + 1 ≤ fuel' + 2 * uc (S1.2.1 11) K ∧ turn' + 2 * uc (S'.2.1 11) K + 1 ≤ turn1 + 1 + 2 * uc (S1.2.1 11) K := a8 K (by omega)
            omega
        · obtain ⟨S', X, b1, b2, b3, b4⟩ := B q
          exact ⟨S', X, E.trans b1, b2, b3, ag_tr gS b4⟩
      · have e : mk a L1 = (k, L1) := hpr
        rw [e]
        refine ⟨fun q => ⟨S1, turn1, fuel1, rfl, hL1, hn1, hc1, hk, fun _ _ => rfl, fun _ _ => rfl, fun _ _ => rfl, fun K _ => ⟨Nat.le_refl _, Nat.le_refl _⟩, fun f h1 h2 => ?_, fun _ _ => rfl, ag_rf⟩, fun q => ?_⟩
        · have h2 : f < L1.length := h2
          omega
        · have := hL1.2.1
          have q : 300 < L1.length := q
          omega
    -- the last turn
    have fin : ∀ (k : Nat) (x y : Int32) (S2 : mq_St) (L2 : List En) (turn2 fuel2 : Nat), tbC S2 L2 → dfb S2 W → nmb (S2.2.1 11) W L2 → clo (S2.2.1 11) W → (∀ j u, mt W j u → u ∈ sb t → j ≠ m → ¬ S2.2.1 11 j = -1) → S2.2.1 12 top = nI m → S2.2.1 11 m = -1 → k < 8 → (S2.2.1 8 (m / 2) ||| nI (m % 2)) = nI k → (if S2.2.1 8 (m / 2) < 4 then some (S2.2.1 9 (m / 2)) else mq_cp (zf_X2_firstPart N z (nI m) S2) (fun q => zf_X2_numberOf N z q S2)) = some x → mq_cp (zf_X2_secondPart N z (nI m) S2) (fun q => zf_X2_numberOf N z q S2) = some y → zf_X2_partToMake N z (nI m) S2 = some (-1) → turn2 < 1000000 → 1 ≤ fuel2 →
        mk t L = m1 (nI k, x, y) L2 → (∀ j, ¬ S.2.1 11 j = -1 → S2.2.1 11 j = S.2.1 11 j) → (∀ j, i ≤ j / 2 → S2.2.1 11 j = S.2.1 11 j) → (∀ j, j ≤ top → S2.2.1 12 j = S.2.1 12 j) → (∀ K, 2 * i ≤ K → fuel + 2 * uc (S2.2.1 11) K ≤ fuel2 + 2 * uc (S.2.1 11) K ∧ turn2 + 2 * uc (S2.2.1 11) K ≤ turn + 2 * uc (S.2.1 11) K) → (∀ f, L.length ≤ f → f < L2.length → ∃ j, j < 2 * W.length ∧ S2.2.1 11 j = nI f) → (∀ f, f < L.length → S2.2.1 7 f = S.2.1 7 f) → (∃ X, L2 = L ++ X) → ag [2] [4, 5, 6, 7, 11, 12] [0] S S2 → zf_X2_build_11 N z fuel v1 (nI top) (nI turn) S = zf_X2_build_11 N z fuel2 v1 (nI top) (nI turn2) S2 → bdA N z W i m t S L top turn fuel v1 := by
      intro k x y S2 L2 turn2 fuel2 hL2 hd2 hn2 hc2 hsub hw2 hD2 hk hso h1 h2 hpm ht2 hf2 hmk g1 g2 g3 g4 g6 g7 ⟨X, hX⟩ g8 E0
      obtain ⟨fu, rfl⟩ : ∃ q, fuel2 = q + 1 := ⟨fuel2 - 1, by omega⟩
      have E := bs_num (N := N) (z := z) (S := S2) (v1 := v1) (top := top) (turn := turn2) (fuel := fu) (m := m) ht2 (by omega) hw2 hpm
      obtain ⟨A, B⟩ := b_number (N := N) (z := z) (k := k) (x := x) (y := y) hN hd2 hm hD2 hL2 hk hso h1 h2
      have hpt := pr_mk t L
      unfold bdA
      rw [hmk] at hpt ⊢
      refine ⟨fun q => ?_, fun q => ?_⟩
      · obtain ⟨S', a1, a2, a3, a4, a5, a6⟩ := A q
        obtain ⟨Y, hY, hY1⟩ := m1_ext (nI k, x, y) L2
        have hlt : (m1 (nI k, x, y) L2).1 < 300 := by
          have := List.idxOf_lt_length_of_mem (m1_mem (nI k, x, y) L2)
          rw [← m1_idx] at this
          omega
        refine ⟨S', turn2 + 1, fu, E0.trans (E.trans (by rw [a1, mq_cl_s, if_neg (by decide)])), a2, ?_, ?_, by rw [a3, up_s], ?_, ?_, ?_, fun K hK => ?_, ?_, ?_, ag_tr g8 (ag_mono a5 (by decide) (by decide) (by decide))⟩
        · intro j u hj
          rw [a3]
          by_cases e : j = m
          · subst e
            rw [up_s, mt_fn hj hm]
            exact Or.inr ⟨_, rfl, hpt⟩
          · rw [up_o e]
            have := nmb_app hn2 Y j u hj
            rw [← hY] at this
            exact this
        · intro j u hj hDj j' u' hj' hu'
          rw [a3] at hDj ⊢
          have hnm : ¬ nI (m1 (nI k, x, y) L2).1 = -1 := nI_nm1 (by omega)
          by_cases e' : j' = m
          · rw [e', up_s]; exact hnm
          · rw [up_o e']
            by_cases e : j = m
            · rw [e] at hj
              rw [mt_fn hj hm] at hu'
              exact hsub j' u' hj' hu' e'
            · rw [up_o e] at hDj
              exact hc2 j u hj hDj j' u' hj' hu'
        · intro j hj
          rw [a3, up_o (fun e => hj (by rw [e]; exact hD))]
          exact g1 j hj
        · intro j hj hjm
          rw [a3, up_o hjm]
          exact g2 j hj
        · intro j hj
          rw [a4]
          exact g3 j hj
        · have hu := uc_upd (v := nI (m1 (nI k, x, y) L2).1) hD2 (nI_nm1 (by omega)) K (by omega)
          rw [← a3] at hu
          have := g4 K (by omega)
          omega
        · intro f hf1 hf2
          by_cases hf : f < L2.length
          · obtain ⟨j, j1, j2⟩ := g6 f hf1 hf
            refine ⟨j, j1, ?_⟩
            rw [a3, up_o (fun e => by rw [e, hD2] at j2; exact absurd j2.symm (nI_nm1 (by have := hL2.2.1; omega)))]
            exact j2
          · refine ⟨m, by omega, ?_⟩
            rw [a3, up_s]
            have hne : ¬ (nI k, x, y) ∈ L2 := fun hme => by
              unfold m1 at hf2
              rw [if_pos hme] at hf2
              exact hf hf2
            have e1 : m1 (nI k, x, y) L2 = (L2.length, L2 ++ [(nI k, x, y)]) := by
              unfold m1
              rw [if_neg hne]
            rw [e1] at hf2 ⊢
            have hf2 : f < (L2 ++ [(nI k, x, y)]).length := hf2
            rw [List.length_append] at hf2
            have hf2 : f < L2.length + 1 := hf2
            have : f = L2.length := by omega
            rw [this]
        · intro f hf
          rw [a6 f (by rw [hX, List.length_append]; omega)]
          exact g7 f hf
      · obtain ⟨S', b1, b2, b3⟩ := B q
        refine ⟨S', X, E0.trans (E.trans (by rw [b1, mq_cl_s, if_pos rfl])), by rw [← hX]; exact b2, fun f hf => ?_, ag_tr g8 (ag_mono b3 (by decide) (by decide) (by decide))⟩
        rw [b3.2.1 7 (by decide)]
        exact g7 f hf
    rcases kd_is (N := N) (z := z) hd hm with ⟨k, v, p1, p2, p3, p4, p5, p6, psb, p7⟩ | ⟨k, x, a, p1, p2, p3, p4, p5, ma, c1, psb, p7⟩ | ⟨k, x, y, a, b, p1, p2, p3, p4, p5, ma, mb, c1, c2, psb, p7⟩
    · exact fin k v (-1) S L turn fuel hL hd hn hc (fun j u hj hu hjm => by
        rw [psb, List.mem_singleton] at hu
        rw [hu] at hj
        exact absurd (mt_inj hd.2.2.1 hd.2.2.2.1 hj hm) hjm) hw hD p5 p4 (by rw [if_pos p3, p6]) (by rw [p2, mq_cp_s, bn_no]) (pm_no p1 p2) (by omega) (by omega) (p7 L h0) (fun _ _ => rfl) (fun _ _ => rfl) (fun _ _ => rfl) (fun K _ => ⟨Nat.le_refl _, Nat.le_refl _⟩) (fun f h1 h2 => by omega) (fun _ _ => rfl) ⟨[], (List.append_nil L).symm⟩ ag_rf rfl
    · have hxl := mt_lt ma
      obtain ⟨A, B⟩ := adv x a S L turn fuel ma (by omega) hL h0 hd hn hc hw (fun q => pm_1 p1 (by omega) (by rw [bn_of hd ma, q])) (by omega) (by omega)
      by_cases q : (mk a L).2.length ≤ 300
      · obtain ⟨S1, turn1, fuel1, a1, a2, a3, a3c, a4, a5, a6, a7, a8, a10, a11, a12⟩ := A q
        have a8i := a8 (2 * i) (Nat.le_refl _)
        have hd1 := dfb_g hd a12
        obtain ⟨f1, f2⟩ := fp_c (N := N) (z := z) (v := nI m) a12
        rw [p1] at f1
        rw [p2] at f2
        have hlt : (mk a L).1 < 300 := by
          have hwa := mt_wf hd.2.2.2.1 ma
          obtain ⟨X, hX⟩ := mk_ext a L
          have := pr_lt hwa (by rw [hX]; exact ok0_app h0 X) (pr_mk a L)
          omega
        have hnm : ¬ nI (mk a L).1 = -1 := nI_nm1 (by omega)
        exact fin k (nI (mk a L).1) (-1) S1 (mk a L).2 turn1 fuel1 a2 hd1 a3 a3c (fun j u hj hu hjm => by
          rw [psb, List.mem_cons] at hu
          rcases hu with hu | hu
          · rw [hu] at hj
            exact absurd (mt_inj hd.2.2.1 hd.2.2.2.1 hj hm) hjm
          · exact a3c x a ma (by rw [a4]; exact hnm) j u hj hu) ((a7 top (Nat.le_refl _)).trans hw) ((a6 m (by omega)).trans hD) p5 (by rw [a12.2.1 8 (by decide)]; exact p4) (by rw [a12.2.1 8 (by decide), if_neg p3, f1, mq_cp_s, bn_of hd1 ma, a4]) (by rw [f2, mq_cp_s, bn_no]) (pm_10 f1 (by omega) (by rw [bn_of hd1 ma, a4]) hnm f2) (by omega) (by omega) (p7 L) a5 a6 a7 a8 a10 a11 (mk_ext a L) a12 a1
      · obtain ⟨S1, X, b1, b2, b3, b4⟩ := B (by omega)
        refine ⟨fun q2 => ?_, fun _ => ⟨S1, X, b1, b2, b3, b4⟩⟩
        rw [p7 L] at q2
        obtain ⟨Y, hY, -⟩ := m1_ext (nI k, nI (mk a L).1, -1) (mk a L).2
        rw [hY, List.length_append] at q2
        omega
    · have hxl := mt_lt ma
      have hyl := mt_lt mb
      obtain ⟨A, B⟩ := adv x a S L turn fuel ma (by omega) hL h0 hd hn hc hw (fun q => pm_1 p1 (by omega) (by rw [bn_of hd ma, q])) (by omega) (by omega)
      have hlong : ∀ M : List En, (∃ X, (mk b (mk a L).2).2 = M ++ X) → 300 < M.length → 300 < (mk t L).2.length := by
        rintro M ⟨X, hX⟩ hM
        rw [p7 L]
        obtain ⟨Y, hY, -⟩ := m1_ext (nI k, nI (mk a L).1, nI (mk b (mk a L).2).1) (mk b (mk a L).2).2
        rw [hY, hX, List.length_append, List.length_append]
        omega
      by_cases q : (mk a L).2.length ≤ 300
      · obtain ⟨S1, turn1, fuel1, a1, a2, a3, a3c, a4, a5, a6, a7, a8, a10, a11, a12⟩ := A q
        have a8i := a8 (2 * i) (Nat.le_refl _)
        have hd1 := dfb_g hd a12
        obtain ⟨f1, f2⟩ := fp_c (N := N) (z := z) (v := nI m) a12
        rw [p1] at f1
        rw [p2] at f2
        obtain ⟨X1, hX1⟩ := mk_ext a L
        have h01 : ok0 (mk a L).2 := by rw [hX1]; exact ok0_app h0 X1
        have hlt : (mk a L).1 < 300 := by
          have := pr_lt (mt_wf hd.2.2.2.1 ma) h01 (pr_mk a L)
          omega
        have hnm : ¬ nI (mk a L).1 = -1 := nI_nm1 (by omega)
        obtain ⟨A2, B2⟩ := adv y b S1 (mk a L).2 turn1 fuel1 mb (by omega) a2 h01 hd1 a3 a3c ((a7 top (Nat.le_refl _)).trans hw) (fun q2 => pm_2 f1 (by omega) (by rw [bn_of hd1 ma, a4]) hnm f2 (by omega) (by rw [bn_of hd1 mb, q2])) (by omega) (by omega)
        by_cases q2 : (mk b (mk a L).2).2.length ≤ 300
        · obtain ⟨S2, turn2, fuel2, d1, d2, d3, d3c, d4, d5, d6, d7, d8, d10, d11, d12⟩ := A2 q2
          have d8i := d8 (2 * i) (Nat.le_refl _)
          have g12 := ag_tr a12 d12
          have hd2 := dfb_g hd g12
          obtain ⟨e1, e2⟩ := fp_c (N := N) (z := z) (v := nI m) g12
          rw [p1] at e1
          rw [p2] at e2
          obtain ⟨X2, hX2⟩ := mk_ext b (mk a L).2
          have h02 : ok0 (mk b (mk a L).2).2 := by rw [hX2]; exact ok0_app h01 X2
          have hlt2 : (mk b (mk a L).2).1 < 300 := by
            have := pr_lt (mt_wf hd.2.2.2.1 mb) h02 (pr_mk b (mk a L).2)
            omega
          have hnm2 : ¬ nI (mk b (mk a L).2).1 = -1 := nI_nm1 (by omega)
          have d4x : S2.2.1 11 x = nI (mk a L).1 := (d5 x (by rw [a4]; exact hnm)).trans a4
          have dm : S2.2.1 11 m = -1 := (d6 m (by omega)).trans ((a6 m (by omega)).trans hD)
          refine fin k (nI (mk a L).1) (nI (mk b (mk a L).2).1) S2 (mk b (mk a L).2).2 turn2 fuel2 d2 hd2 d3 d3c (fun j u hj hu hjm => ?_) ((d7 top (Nat.le_refl _)).trans ((a7 top (Nat.le_refl _)).trans hw)) dm p5 (by rw [g12.2.1 8 (by decide)]; exact p4) (by rw [g12.2.1 8 (by decide), if_neg p3, e1, mq_cp_s, bn_of hd2 ma, d4x]) (by rw [e2, mq_cp_s, bn_of hd2 mb, d4]) (pm_20 e1 (by omega) (by rw [bn_of hd2 ma, d4x]) hnm e2 (by omega) (by rw [bn_of hd2 mb, d4]) hnm2) (by omega) (by omega) (p7 L) (fun j hj => ?_) (fun j hj => (d6 j hj).trans (a6 j hj)) (fun j hj => (d7 j hj).trans (a7 j hj)) (fun K hK => by have := a8 K hK; have := d8 K hK; omega) (fun f hf1 hf2 => ?_) (fun f hf => ?_) ⟨X1 ++ X2, by rw [hX2, hX1, List.append_assoc]⟩ g12 (a1.trans d1)
          · rw [psb, List.mem_cons, List.mem_append] at hu
            rcases hu with hu | hu | hu
            · rw [hu] at hj
              exact absurd (mt_inj hd.2.2.1 hd.2.2.2.1 hj hm) hjm
            · exact d3c x a ma (by rw [d4x]; exact hnm) j u hj hu
            · exact d3c y b mb (by rw [d4]; exact hnm2) j u hj hu
          · rw [d5 j (by rw [a5 j hj]; exact hj), a5 j hj]
          · by_cases hf : f < (mk a L).2.length
            · obtain ⟨j, j1, j2⟩ := a10 f hf1 hf
              exact ⟨j, j1, by rw [d5 j (by rw [j2]; exact nI_nm1 (by omega)), j2]⟩
            · exact d10 f (by omega) hf2
          · rw [d11 f (by rw [hX1, List.length_append]; omega), a11 f hf]
        · obtain ⟨S2, X, b1, b2, b3, b4⟩ := B2 (by omega)
          have hlong' := hlong (mk b (mk a L).2).2 ⟨[], (List.append_nil _).symm⟩ (by omega)
          refine ⟨fun q3 => by omega, fun _ => ⟨S2, X1 ++ X, a1.trans b1, by rw [← List.append_assoc, ← hX1]; exact b2, fun f hf => ?_, ag_tr a12 b4⟩⟩
          rw [b3 f (by rw [hX1, List.length_append]; omega), a11 f hf]
      · obtain ⟨S1, X, b1, b2, b3, b4⟩ := B (by omega)
        have hlong' := hlong (mk a L).2 (mk_ext b (mk a L).2) (by omega)
        exact ⟨fun q2 => by omega, fun _ => ⟨S1, X, b1, b2, b3, b4⟩⟩
