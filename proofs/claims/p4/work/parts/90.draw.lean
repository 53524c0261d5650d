/-! The class's reader: the whole text. -/
def Bt (w : Nat → Int32) (i : Nat) : Nat := (by_at w i).toNatClampNeg
theorem bt_is (w : Nat → Int32) (i : Nat) : by_at w i = nI (Bt w i) ∧ Bt w i < 256 := by
  obtain ⟨j, hj, e⟩ := pk_andE (mq_iushr (w (i / 4)) (nI (24 - 8 * (i % 4)))) (m := 255) 8 (by decide)
  have e : by_at w i = nI j := e
  have hj : j < 256 := hj
  unfold Bt
  rw [e, nI_clamp (by omega)]
  exact ⟨rfl, hj⟩
theorem sg_lt {B : Nat → Nat} (hB : ∀ i, B i < 256) (len p : Nat) : sg B len p < 256 := by
  have := hB p
  unfold sg
  repeat' split
  all_goals omega
section DRAW
variable {N : Nat} {z : Nat → Nat} {pl : Bool}
theorem ck_signAt {S : mq_St} {t p : Nat} (ht : S.1 0 = nI t) (h4 : t ≤ 4000) (hp : p < min t 400) : zf_X5_signAt N z (nI p) S = some (nI (sg (Bt (S.2.1 2)) (min t 400) p)) := by
  obtain ⟨e1, l1⟩ := bt_is (S.2.1 2) p
  obtain ⟨e2, l2⟩ := bt_is (S.2.1 2) (p + 1)
  have a0 := by_zat (N := N) (z := z) (S := mq_pull S [0] [2] []) (t := t) (i := p) ht h4 (by omega)
  have a0 : zf_X0_at N z (nI p) (mq_pull S [0] [2] []) = some (nI (Bt (S.2.1 2) p)) := by rw [a0, ← e1]; rfl
  unfold zf_X5_signAt
  rw [a0, mq_cp_s, nI_e, nI_1]
  have q10 : (nI (Bt (S.2.1 2) p) = (10 : Int32)) ↔ Bt (S.2.1 2) p = 10 := nI_eq (b := 10) (by omega) (by omega)
  have q91 : (nI (Bt (S.2.1 2) p) = (91 : Int32)) ↔ Bt (S.2.1 2) p = 91 := nI_eq (b := 91) (by omega) (by omega)
  have q60 : (nI (Bt (S.2.1 2) p) = (60 : Int32)) ↔ Bt (S.2.1 2) p = 60 := nI_eq (b := 60) (by omega) (by omega)
  have fin : ∀ x : Int32, ((x = 93) ↔ (p + 1 < min t 400 ∧ Bt (S.2.1 2) (p + 1) = 93)) → ((x = 62) ↔ (p + 1 < min t 400 ∧ Bt (S.2.1 2) (p + 1) = 62)) → zf_X5_signAt_32 N z S (nI (Bt (S.2.1 2) p)) x = some (nI (sg (Bt (S.2.1 2)) (min t 400) p)) := by
    intro x h93 h62
    unfold zf_X5_signAt_32 sg
    rw [nI_e]
    simp only [q10, q91, q60, h93, h62]
    by_cases a : Bt (S.2.1 2) p = 10
    · rw [if_pos a, if_pos a]; rfl
    · rw [if_neg a, if_neg a]
      by_cases b : Bt (S.2.1 2) p = 91
      · rw [if_pos b, if_pos b]
        by_cases c : p + 1 < min t 400 ∧ Bt (S.2.1 2) (p + 1) = 93
        · rw [if_pos c, if_pos c, b]
        · rw [if_neg c, if_neg c]; rfl
      · rw [if_neg b, if_neg b]
        by_cases c : Bt (S.2.1 2) p = 60
        · rw [if_pos c, if_pos c]
          by_cases d : p + 1 < min t 400 ∧ Bt (S.2.1 2) (p + 1) = 62
          · rw [if_pos d, if_pos d, c]
          · rw [if_neg d, if_neg d]; rfl
        · rw [if_neg c, if_neg c]
  by_cases h400 : 400 ≤ p + 1
  · have e400 : (400 : Int32) ≤ nI (p + 1) := nI_le (a := 400) h400 (by omega)
    rw [if_pos e400]
    exact fin (-1) ⟨fun q => absurd q (by decide), fun q => by omega⟩ ⟨fun q => absurd q (by decide), fun q => by omega⟩
  · have e400 : ¬ (400 : Int32) ≤ nI (p + 1) := nI_ge (b := 400) (by omega) (by omega)
    rw [if_neg e400]
    by_cases ht1 : p + 1 < t
    · have a1 := by_zat (N := N) (z := z) (S := mq_pull S [0] [2] []) (t := t) (i := p + 1) ht h4 ht1
      have a1 : zf_X0_at N z (nI (p + 1)) (mq_pull S [0] [2] []) = some (nI (Bt (S.2.1 2) (p + 1))) := by rw [a1, ← e2]; rfl
      rw [a1, mq_cp_s]
      have q93 : (nI (Bt (S.2.1 2) (p + 1)) = (93 : Int32)) ↔ Bt (S.2.1 2) (p + 1) = 93 := nI_eq (b := 93) (by omega) (by omega)
      have q62 : (nI (Bt (S.2.1 2) (p + 1)) = (62 : Int32)) ↔ Bt (S.2.1 2) (p + 1) = 62 := nI_eq (b := 62) (by omega) (by omega)
      exact fin _ ⟨fun q => ⟨by omega, q93.mp q⟩, fun q => q93.mpr q.2⟩ ⟨fun q => ⟨by omega, q62.mp q⟩, fun q => q62.mpr q.2⟩
    · have a1 := by_zat_out (N := N) (z := z) (S := mq_pull S [0] [2] []) (t := t) (nI (p + 1)) ht h4 (Or.inr (nI_le (by omega) (by omega)))
      rw [a1, mq_cp_s]
      exact fin (-1) ⟨fun q => absurd q (by decide), fun q => by omega⟩ ⟨fun q => absurd q (by decide), fun q => by omega⟩
theorem ag_rdC {S S' : mq_St} {t : Nat} (h : ag [3, 4, 5, 6, 7, 8, 9] [8, 9, 10, 11, 13, 14] [] S S') (ht : S.1 0 = nI t) : S'.1 0 = nI t ∧ S'.2.1 2 = S.2.1 2 ∧ S'.1 11 = S.1 11 ∧ S'.1 12 = S.1 12 := ⟨(h.1 0 (by decide)).trans ht, h.2.1 2 (by decide), h.1 11 (by decide), h.1 12 (by decide)⟩
theorem dr_stop {S : mq_St} {l p : Int32} {fuel : Nat} (h : ¬ S.1 11 = 0) : zf_X5_draw_21 N z (fuel + 1) l p S = zf_X5_draw_77 N z S := by
  show zf_X5_draw_21b N z _ l p S = _
  unfold zf_X5_draw_21b
  rw [if_neg h]
  by_cases q : l ≤ p
  · rw [if_pos q]
  · rw [if_neg q]
theorem dr_loop (hN : 500 ≤ N) {t : Nat} (h4 : t ≤ 4000) {B : Nat → Nat} : ∀ (fuel p : Nat) (S : mq_St) (G : List Nat) (V : List Tr) (od : Bool) (W : List Tr), S.1 0 = nI t → Bt (S.2.1 2) = B → rdC S G V od pl W → okA G V od → nop G ≤ 60 → G.length ≤ p → V.length ≤ p → p ≤ min t 400 → min t 400 - p < fuel → S.1 11 = 0 →
    ∃ S', zf_X5_draw_21 N z fuel (nI (min t 400)) (nI p) S = zf_X5_draw_77 N z S' ∧
      ((paA pl B (min t 400) fuel p G V od).1 = 0 → ∃ W', rdC S' (paA pl B (min t 400) fuel p G V od).2.2.1 (paA pl B (min t 400) fuel p G V od).2.2.2.1 (paA pl B (min t 400) fuel p G V od).2.2.2.2 pl W' ∧ okA (paA pl B (min t 400) fuel p G V od).2.2.1 (paA pl B (min t 400) fuel p G V od).2.2.2.1 (paA pl B (min t 400) fuel p G V od).2.2.2.2 ∧ (paA pl B (min t 400) fuel p G V od).2.2.1.length ≤ 400 ∧ (paA pl B (min t 400) fuel p G V od).2.2.2.1.length ≤ 400 ∧ S'.1 11 = 0 ∧ S'.1 12 = S.1 12) ∧
      (¬ (paA pl B (min t 400) fuel p G V od).1 = 0 → S'.1 11 = nI (paA pl B (min t 400) fuel p G V od).1 ∧ S'.1 12 = nI (paA pl B (min t 400) fuel p G V od).2.1 ∧ (paA pl B (min t 400) fuel p G V od).1 ≤ 3) ∧ ag [3, 4, 5, 6, 7, 8, 9, 11, 12] [8, 9, 10, 11, 13, 14] [] S S' := by
  intro fuel
  induction fuel with
  | zero => intro p S G V od W _ _ _ _ _ _ _ _ h; omega
  | succ fuel ih =>
    intro p S G V od W ht hB h hA h60 hG hV hp hf h11
    have hsh : zf_X5_draw_21 N z (fuel + 1) (nI (min t 400)) (nI p) S = zf_X5_draw_21b N z (fun v2 v3 S => zf_X5_draw_21 N z fuel v2 v3 S) (nI (min t 400)) (nI p) S := rfl
    rw [hsh]
    have hBl : ∀ i, B i < 256 := fun i => by rw [← hB]; exact (bt_is _ i).2
    have hs := sg_lt hBl (min t 400) p
    unfold zf_X5_draw_21b
    by_cases e : min t 400 ≤ p
    · rw [if_pos (nI_le e (by omega))]
      have Q : paA pl B (min t 400) (fuel + 1) p G V od = (0, p, G, V, od) := by rw [paA, if_pos e]
      rw [Q]
      exact ⟨S, rfl, fun _ => ⟨W, h, hA, by show G.length ≤ 400; omega, by show V.length ≤ 400; omega, h11, rfl⟩, fun q => absurd rfl q, ag_rf⟩
    · rw [if_neg (nI_ge (by omega) (by omega)), if_pos h11, ck_signAt ht h4 (by omega), mq_cp_s, nI_e, hB]
      have q32 : (nI (sg B (min t 400) p) = (32 : Int32)) ↔ sg B (min t 400) p = 32 := nI_eq (b := 32) (by omega) (by omega)
      have q91 : (nI (sg B (min t 400) p) = (91 : Int32)) ↔ sg B (min t 400) p = 91 := nI_eq (b := 91) (by omega) (by omega)
      have q60 : (nI (sg B (min t 400) p) = (60 : Int32)) ↔ sg B (min t 400) p = 60 := nI_eq (b := 60) (by omega) (by omega)
      have next : ∀ S1 : mq_St, zf_X5_draw_54 N z (fun v2 v3 S => zf_X5_draw_21 N z fuel v2 v3 S) (nI (min t 400)) (nI p) (nI (sg B (min t 400) p)) S1 = zf_X5_draw_21 N z fuel (nI (min t 400)) (nI (if sg B (min t 400) p = 91 ∨ sg B (min t 400) p = 60 then p + 2 else p + 1)) S1 := by
        intro S1
        unfold zf_X5_draw_54 zf_X5_draw_68 zf_X5_draw_71
        simp only [nI_e, nI_1, q91, q60]
        by_cases a : sg B (min t 400) p = 91
        · rw [if_pos a, if_pos (Or.inl a)]
        · rw [if_neg a]
          by_cases b : sg B (min t 400) p = 60
          · rw [if_pos b, if_pos (Or.inr b)]
          · rw [if_neg b, if_neg (fun q => q.elim a b)]
      by_cases hb : sg B (min t 400) p = 32
      · rw [if_pos (q32.mpr hb), next]
        have Q : paA pl B (min t 400) (fuel + 1) p G V od = paA pl B (min t 400) fuel (p + 1) G V od := by rw [paA, if_neg e, if_pos hb]
        rw [Q, if_neg (by omega)]
        exact ih (p + 1) S G V od W ht hB h hA h60 (by omega) (by omega) (by omega) (by omega) h11
      · rw [if_neg (fun q => hb (q32.mp q))]
        obtain ⟨acc1, acc2⟩ := rc_accept (N := N) (z := z) (pl := pl) (nI p) hN hs h hA h60 (by omega) (by omega)
        by_cases h0 : (stA pl (sg B (min t 400) p) G V od).1 = 0
        · obtain ⟨S1, W1, a1, a2, a3⟩ := acc1 h0
          have hok := stA_ok hA h0
          have hnp := stA_nop hA h60 h0
          obtain ⟨f0, f2, f11, f12⟩ := ag_rdC a3 ht
          have Q : paA pl B (min t 400) (fuel + 1) p G V od = paA pl B (min t 400) fuel (if sg B (min t 400) p = 91 ∨ sg B (min t 400) p = 60 then p + 2 else p + 1) (stA pl (sg B (min t 400) p) G V od).2.1 (stA pl (sg B (min t 400) p) G V od).2.2.1 (stA pl (sg B (min t 400) p) G V od).2.2.2 := by rw [paA, if_neg e, if_neg hb, if_pos h0]
          rw [a1, mq_cl_s, next, Q]
          have hp2 : p + 1 ≤ (if sg B (min t 400) p = 91 ∨ sg B (min t 400) p = 60 then p + 2 else p + 1) ∧ (if sg B (min t 400) p = 91 ∨ sg B (min t 400) p = 60 then p + 2 else p + 1) ≤ min t 400 := by
            by_cases q : sg B (min t 400) p = 91 ∨ sg B (min t 400) p = 60
            · rw [if_pos q]
              refine ⟨by omega, ?_⟩
              unfold sg at q
              by_cases b1 : B p = 10
              · rw [if_pos b1] at q; omega
              · rw [if_neg b1] at q
                by_cases b2 : B p = 91
                · rw [if_pos b2] at q
                  by_cases b3 : p + 1 < min t 400 ∧ B (p + 1) = 93
                  · omega
                  · rw [if_neg b3] at q; omega
                · rw [if_neg b2] at q
                  by_cases b4 : B p = 60
                  · rw [if_pos b4] at q
                    by_cases b5 : p + 1 < min t 400 ∧ B (p + 1) = 62
                    · omega
                    · rw [if_neg b5] at q; omega
                  · rw [if_neg b4] at q; omega
            · rw [if_neg q]; omega
          obtain ⟨S2, b1, b2, b3, b4⟩ := ih (if sg B (min t 400) p = 91 ∨ sg B (min t 400) p = 60 then p + 2 else p + 1) S1 _ _ _ W1 f0 (by rw [f2]; exact hB) a2 hok.1 hnp (by omega) (by omega) hp2.2 (by omega) (f11.trans h11)
          refine ⟨S2, b1, fun q => ?_, b3, ag_tr (ag_mono a3 (by decide) (by decide) (by decide)) b4⟩
          obtain ⟨W', c1, c2, c3, c4, c5, c6⟩ := b2 q
          exact ⟨W', c1, c2, c3, c4, c5, c6.trans f12⟩
        · have a1 := acc2 h0
          have Q : paA pl B (min t 400) (fuel + 1) p G V od = ((stA pl (sg B (min t 400) p) G V od).1, p, G, V, od) := by rw [paA, if_neg e, if_neg hb, if_neg h0]
          rw [a1, mq_cl_s, next, Q]
          have h3 : (stA pl (sg B (min t 400) p) G V od).1 ≤ 3 := by
            unfold stA
            repeat' split
            all_goals (first | exact Nat.zero_le _ | exact Nat.le_refl _ | exact (by decide : 1 ≤ 3) | exact (by decide : 2 ≤ 3))
          have hne : ¬ (mq_si (mq_si S 11 (nI (stA pl (sg B (min t 400) p) G V od).1)) 12 (nI p)).1 11 = 0 := by
            show ¬ nI _ = 0
            exact nI_ne0 (by omega) (by omega)
          obtain ⟨fu, rfl⟩ : ∃ q, fuel = q + 1 := ⟨fuel - 1, by omega⟩
          refine ⟨_, dr_stop hne, fun q => absurd q h0, fun _ => ⟨rfl, rfl, h3⟩, ag_tr (ag_si (by decide)) (ag_si (by decide))⟩
/-- what a text comes to: its FAULT and its place, or its tree -/
def fiA (pl : Bool) (B : Nat → Nat) (t n : Nat) : Nat × Nat × Tr :=
  if ¬ (paA pl B (min t 400) n 0 [] [] true).1 = 0 then ((paA pl B (min t 400) n 0 [] [] true).1, (paA pl B (min t 400) n 0 [] [] true).2.1, .num 0)
  else if 400 < t ∨ (paA pl B (min t 400) n 0 [] [] true).2.2.2.2 = true ∨ 0 < (paA pl B (min t 400) n 0 [] [] true).2.2.1.count 0 then (1, min t 400, .num 0)
  else (0, 0, (joinA pl 4 (paA pl B (min t 400) n 0 [] [] true).2.2.1 (paA pl B (min t 400) n 0 [] [] true).2.2.2.1).2.headD (.num 0))
theorem ck_begin {S : mq_St} (hN : 500 ≤ N) : ∃ S', zf_X5_begin N z (if pl = true then 0 else 1) S = some ((), S') ∧ rdC S' [] [] true pl [.num 0] ∧ S'.1 11 = 0 ∧ S'.1 12 = -1 ∧ ag [3, 4, 5, 6, 7, 8, 9, 10, 11, 12] [8, 9, 10, 11] [] S S' := by
  have hnode : zf_X2_node N z 0 (-1) (-1) (mq_si (mq_si S 3 0) 4 0) = some (0, mq_sa (mq_sa (mq_sa (mq_sa (mq_sa (mq_si (mq_si (mq_si S 3 0) 4 0) 3 1) 8 (upd (S.2.1 8) 0 0)) 9 (upd (S.2.1 9) 0 (-1))) 10 (upd (S.2.1 10) 0 (-1))) 11 (upd (S.2.1 11) 0 (-1))) 11 (upd (upd (S.2.1 11) 0 (-1)) 1 (-1))) := by
    unfold zf_X2_node
    rw [nI_e]
    obtain ⟨n, rfl⟩ : ∃ n, N = n + 1 := ⟨N - 1, by omega⟩
    show zf_X2_node_3b (n + 1) z _ 0 (-1) (-1) 0 _ = _
    unfold zf_X2_node_3b
    have e3 : (mq_si (mq_si S 3 0) 4 0).1 3 = 0 := rfl
    have i0 : vp_in (0 : Int32) 150 := vp_in_nI (n := 0) (by omega) (by omega)
    have j0 : vp_in (0 : Int32) 300 := vp_in_nI (n := 0) (by omega) (by omega)
    have j1 : vp_in (1 : Int32) 300 := vp_in_nI (n := 1) (by omega) (by omega)
    have c0 : (0 : Int32).toNatClampNeg = 0 := nI_clamp (n := 0) (by omega)
    have c1 : (1 : Int32).toNatClampNeg = 1 := nI_clamp (n := 1) (by omega)
    have p0 : (2 : Int32) * 0 = 0 := by decide
    have p1 : (0 : Int32) + 1 = 1 := by decide
    rw [e3, if_pos (by decide : (0 : Int32) ≤ 0), if_pos (by decide : (0 : Int32) < 150)]
    simp only [nI_e, nS_e, mq_ck_of i0, c0, p0, p1, mq_ck_of j0, mq_ck_of j1, c1, sa_2, sa_1, si_1, si_2, ↓reduceIte, Nat.reduceEqDiff]
  unfold zf_X5_begin zf_X2_clear zf_X5_fail
  have hcz : ∀ {α : Type} (k : Option α), mq_cz (if pl = true then 0 else 1) k = k := fun k => by
    cases pl with
    | true => exact mq_cz_0 k
    | false => exact mq_cz_1 k
  simp only [nS_e, mq_cz_0, mq_cz_1, hnode, mq_cl_s, hcz]
  refine ⟨_, rfl, ⟨rfl, trivial, rfl, trivial, rfl, rfl, rfl, rfl, ?_, fun w hw => Or.inl (List.mem_singleton.mp hw)⟩, rfl, rfl, ?_⟩
  · refine ⟨rfl, rfl, by decide, rfl, List.nodup_cons.mpr ⟨List.not_mem_nil, List.nodup_nil⟩, fun w hw => ?_, fun i t hi ht => ?_, fun j hj => ?_⟩
    · rw [List.mem_singleton.mp hw]
      exact ⟨Or.inl rfl, rfl⟩
    · have hi0 := (List.getElem?_eq_some_iff.mp ht).1
      have hi0 : i < 1 := hi0
      have e : i = 0 := by omega
      subst e
      have et : .num 0 = t := Option.some.inj ht
      rw [← et]
      exact Or.inl ⟨rfl, rfl, rfl, rfl⟩
    · have hj : j < 2 := hj
      show upd (upd (S.2.1 11) 0 (-1)) 1 (-1) j = -1
      have : j = 0 ∨ j = 1 := by omega
      rcases this with rfl | rfl
      · rw [up_o (by decide), up_s]
      · rw [up_s]
  · repeat' (first | exact ag_rf | refine ag_tr ?_ (ag_si (by decide)) | refine ag_tr ?_ (ag_sa (by decide)))
theorem ck_draw {S : mq_St} {t : Nat} (hN : 500 ≤ N) (ht : S.1 0 = nI t) (h4 : t ≤ 4000) :
    ∃ v S', zf_X5_draw N z (if pl = true then 0 else 1) S = some (v, S') ∧
      ((fiA pl (Bt (S.2.1 2)) t N).1 = 0 → S'.1 11 = 0 ∧ S'.1 12 = -1 ∧ ¬ v = -1 ∧ wf (fiA pl (Bt (S.2.1 2)) t N).2.2 ∧ ∃ W, dft S' W ∧ RM W v (fiA pl (Bt (S.2.1 2)) t N).2.2 ∧ ∀ w ∈ W, w = .num 0 ∨ us w (fiA pl (Bt (S.2.1 2)) t N).2.2) ∧
      (¬ (fiA pl (Bt (S.2.1 2)) t N).1 = 0 → v = -1 ∧ S'.1 11 = nI (fiA pl (Bt (S.2.1 2)) t N).1 ∧ S'.1 12 = nI (fiA pl (Bt (S.2.1 2)) t N).2.1) ∧ ag [3, 4, 5, 6, 7, 8, 9, 10, 11, 12] [8, 9, 10, 11, 13, 14] [] S S' := by
  obtain ⟨S1, a1, a2, a3, a4, a5⟩ := ck_begin (N := N) (z := z) (pl := pl) (S := S) hN
  have t1 : S1.1 0 = nI t := (a5.1 0 (by decide)).trans ht
  have w1 : S1.2.1 2 = S.2.1 2 := a5.2.1 2 (by decide)
  obtain ⟨S2, b1, b2, b3, b4⟩ := dr_loop (N := N) (z := z) (pl := pl) hN h4 (B := Bt (S.2.1 2)) N 0 S1 [] [] true [.num 0] t1 (by rw [w1]) a2 ⟨trivial, fun q => (by cases q), rfl, fun v hv => (by cases hv)⟩ (by decide) (by decide) (by decide) (by omega) (by omega) a3
  have t2 : S2.1 0 = nI t := (b4.1 0 (by decide)).trans t1
  have E : zf_X5_draw N z (if pl = true then 0 else 1) S = zf_X5_draw_77 N z S2 := by
    unfold zf_X5_draw
    rw [a1, mq_cl_s, show zf_X0_size N z (mq_pull S1 [0] [2] []) = some (S1.1 0) from rfl, mq_cp_s, t1, nI_e, nI_e]
    have em : mq_min (nI t) 400 = nI (min t 400) := by
      unfold mq_min
      by_cases q : 400 < t
      · have q2 : (400 : Int32) < nI t := nI_lt (a := 400) q (by omega)
        rw [if_pos q2, show min t 400 = 400 by omega]; rfl
      · have q2 : ¬ (400 : Int32) < nI t := nI_nlt (b := t) (a := 400) (by omega) (by omega)
        rw [if_neg q2, show min t 400 = t by omega]
    rw [em]
    exact b1
  rw [E]
  have g2 : ag [3, 4, 5, 6, 7, 8, 9, 10, 11, 12] [8, 9, 10, 11, 13, 14] [] S S2 := ag_tr (ag_mono a5 (by decide) (by decide) (by decide)) (ag_mono b4 (by decide) (by decide) (by decide))
  unfold fiA
  by_cases h0 : (paA pl (Bt (S.2.1 2)) (min t 400) N 0 [] [] true).1 = 0
  · rw [if_neg (fun q => q h0)]
    obtain ⟨W', c1, c2, c3, c4, c5, c6⟩ := b2 h0
    generalize hG : (paA pl (Bt (S.2.1 2)) (min t 400) N 0 [] [] true).2.2.1 = G at *
    generalize hV : (paA pl (Bt (S.2.1 2)) (min t 400) N 0 [] [] true).2.2.2.1 = V at *
    generalize ho : (paA pl (Bt (S.2.1 2)) (min t 400) N 0 [] [] true).2.2.2.2 = od at *
    unfold zf_X5_draw_77
    rw [if_pos c5]
    have flt : ∀ k : Nat, mq_cl (zf_X5_fail N z 1 (nI k) S2) (fun q14v S16 => some ((), S16)) = some ((), mq_si (mq_si S2 11 1) 12 (nI k)) := fun k => by unfold zf_X5_fail; rw [nS_e, nS_e, mq_cl_s]
    have end1 : ∀ k : Nat, zf_X5_draw_88 N z (mq_si (mq_si S2 11 1) 12 (nI k)) = some (-1, mq_si (mq_si S2 11 1) 12 (nI k)) := fun k => by
      unfold zf_X5_draw_88
      rw [if_neg (show ¬ (mq_si (mq_si S2 11 1) 12 (nI k)).1 11 = 0 by show ¬ (1 : Int32) = 0; decide)]
    have g3 : ∀ k : Nat, ag [3, 4, 5, 6, 7, 8, 9, 10, 11, 12] [8, 9, 10, 11, 13, 14] [] S (mq_si (mq_si S2 11 1) 12 (nI k)) := fun k => ag_tr (ag_tr g2 (ag_si (by decide))) (ag_si (by decide))
    unfold zf_X5_finish zf_X5_finish_38
    rw [show zf_X0_size N z (mq_pull S2 [0] [2] []) = some (S2.1 0) from rfl, mq_cp_s, mq_cp_s, t2]
    by_cases h400 : 400 < t
    · have e400 : ¬ nI t ≤ (400 : Int32) := nI_ge (a := 400) h400 (by omega)
      rw [if_neg e400, if_pos (Or.inl h400)]
      refine ⟨-1, mq_si (mq_si S2 11 1) 12 (nI 400), ?_, fun q => absurd q (show ¬ (1 : Nat) = 0 by decide), fun _ => ⟨rfl, rfl, ?_⟩, g3 _⟩
      · rw [show (400 : Int32) = nI 400 from rfl, flt, mq_cl_s, end1]
      · show nI 400 = nI (min t 400)
        rw [show min t 400 = 400 by omega]
    · have e400 : nI t ≤ (400 : Int32) := nI_le (b := 400) (by omega) (by omega)
      have em : min t 400 = t := by omega
      obtain ⟨k5, kG, k6, kV, k7, k8, k9, k10, kd, ku⟩ := c1
      have c1 : rdC S2 G V od pl W' := ⟨k5, kG, k6, kV, k7, k8, k9, k10, kd, ku⟩
      rw [if_pos e400, k9, k8]
      cases od with
      | true =>
        rw [if_neg (by decide), if_pos (Or.inr (Or.inl rfl))]
        refine ⟨-1, mq_si (mq_si S2 11 1) 12 (nI t), ?_, fun q => absurd q (show ¬ (1 : Nat) = 0 by decide), fun _ => ⟨rfl, rfl, ?_⟩, g3 _⟩
        · rw [flt, mq_cl_s, end1]
        · show nI t = nI (min t 400)
          rw [em]
      | false =>
        rw [if_pos (by decide)]
        by_cases hc : 0 < G.count 0
        · rw [if_neg (nI_nle hc (by have := List.count_le_length (a := 0) (l := G); omega)), if_pos (Or.inr (Or.inr hc))]
          refine ⟨-1, mq_si (mq_si S2 11 1) 12 (nI t), ?_, fun q => absurd q (show ¬ (1 : Nat) = 0 by decide), fun _ => ⟨rfl, rfl, ?_⟩, g3 _⟩
          · rw [flt, mq_cl_s, end1]
          · show nI t = nI (min t 400)
            rw [em]
        · have hz : G.count 0 = 0 := by omega
          rw [hz, if_pos (by decide), if_neg (by rintro (q | q | q) <;> first | omega | (cases q))]
          obtain ⟨h1, h2, h3, h5⟩ := c2
          have h2 := h2 rfl
          have h3 : V.length = nbi G + 1 := h3
          obtain ⟨S3, W3, d1, d2, d3⟩ := rc_joinTo (N := N) (z := z) (pl := pl) (r := 1) hN (by omega) c1 h1 h2 h3 h5 c3 c4
          obtain ⟨j1, j2, j3, j4, j5, j6, j7, j8, j9⟩ := joinA_ok (pl := pl) (c := 4) (Nat.le_refl _) G V h1 h2 h3 h5
          have jn := (joinA_4 (pl := pl) h1 h2 h3 h5).1 hz
          have d2 : rdC S3 (joinA pl 4 G V).1 (joinA pl 4 G V).2 false pl W3 := d2
          rw [jn] at j3 d2
          have j3 : (joinA pl 4 G V).2.length = 1 := j3
          obtain ⟨x, hx⟩ : ∃ x, (joinA pl 4 G V).2 = [x] := by
            match hq : (joinA pl 4 G V).2, j3 with
            | [x], _ => exact ⟨x, rfl⟩
          rw [hx] at d2 j4 ⊢
          obtain ⟨l5, lG, l6, lV, l7, l8, l9, l10, ld, lu⟩ := d2
          have hS3 : S3.1 11 = 0 := (d3.1 11 (by decide)).trans c5
          refine ⟨S3.2.1 14 0, mq_si S3 6 (nI 0), ?_, fun _ => ⟨hS3, ?_, ?_, j4 x List.mem_cons_self, W3, dft_c ld rfl rfl rfl rfl rfl rfl, lV.1, fun w hw => ?_⟩, fun q => absurd rfl q, ?_⟩
          · rw [show (1 : Int32) = nI 1 from rfl, d1, mq_cl_s, mq_cl_s]
            unfold zf_X5_draw_88
            rw [if_pos hS3, rc_pop (n := 0) l6 (by omega), mq_cl_s]
          · show S3.1 12 = -1
            rw [d3.1 12 (by decide), c6, a4]
          · obtain ⟨m, e, lm, -⟩ := lV.1
            have e : S3.2.1 14 0 = nI m := e
            rw [e]
            exact nI_nm1 (by omega)
          · rcases lu w hw with q | ⟨v, hv, q⟩
            · exact Or.inl q
            · rw [List.mem_singleton.mp hv] at q
              exact Or.inr q
          · exact ag_tr (ag_tr g2 (ag_mono d3 (by decide) (by decide) (by decide))) (ag_si (by decide))
  · rw [if_pos h0]
    obtain ⟨c1, c2, c3⟩ := b3 h0
    have hne : ¬ S2.1 11 = 0 := by rw [c1]; exact nI_ne0 (by omega) (by omega)
    refine ⟨-1, S2, ?_, fun q => absurd q h0, fun _ => ⟨rfl, c1, c2⟩, g2⟩
    unfold zf_X5_draw_77 zf_X5_draw_88
    rw [if_neg hne, if_neg hne]
end DRAW
