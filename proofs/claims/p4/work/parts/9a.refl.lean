/-! The reference's reader: the whole text. -/
def ocR (pl : Bool) (B : Nat → Nat) (len : Nat) (R : Nat × Nat × List Nat × List Tr × Bool) (x : Int32) (S' : mq_St) : Prop :=
  (¬ R.1 = 0 ∧ ((S'.1 10 = nI R.1 ∧ S'.1 11 = nI R.2.1 ∧ R.1 ≤ 3) ∨ (R.1 = 1 ∧ S'.1 10 = 0 ∧ S'.1 8 = nI R.2.1 ∧ R.2.1 < len ∧ ¬ (B R.2.1 = 32 ∨ B R.2.1 = 10)))) ∨
  (R.1 = 0 ∧ (R.2.2.2.2 = true ∨ 0 < R.2.2.1.count 0) ∧ S'.1 10 = nI 1 ∧ S'.1 11 = nI len) ∨
  (R.1 = 0 ∧ R.2.2.2.2 = false ∧ R.2.2.1.count 0 = 0 ∧ S'.1 10 = 0 ∧ S'.1 8 = nI len ∧ ∃ T, ndR S' T ∧ T.length ≤ 2990 ∧ RV T x ((joinA pl 4 R.2.2.1 R.2.2.2.1).2.headD (.num 0)))
theorem sg_b {B : Nat → Nat} {len p : Nat} (hb : ¬ (B p = 32 ∨ B p = 10)) : ¬ sg B len p = 32 := by
  unfold sg
  rw [if_neg (fun q => hb (Or.inr q))]
  by_cases a : B p = 91
  · rw [if_pos a]; split <;> omega
  · rw [if_neg a]
    by_cases b : B p = 60
    · rw [if_pos b]; split <;> omega
    · rw [if_neg b]; exact fun q => hb (Or.inl q)
theorem sg_c {B : Nat → Nat} {len p : Nat} (hb : B p = 32 ∨ B p = 10) : sg B len p = 32 := by
  unfold sg
  rcases hb with q | q
  · rw [if_neg (by omega), if_neg (by omega), if_neg (by omega), q]
  · rw [if_pos q]
theorem sg_bic {B : Nat → Nat} {len p : Nat} (hb : ¬ (B p = 32 ∨ B p = 10)) : bic (sg B len p) = bic (B p) ∧ (sg B len p = 41 ↔ B p = 41) ∧ (4 ≤ bic (B p) → ¬ (sg B len p = 91 ∨ sg B len p = 60)) ∧ (B p = 41 → ¬ (sg B len p = 91 ∨ sg B len p = 60)) := by
  have h10 : ¬ B p = 10 := fun q => hb (Or.inr q)
  by_cases a : B p = 91
  · have hs : sg B len p = 91 ∨ sg B len p = 0 := by
      unfold sg
      rw [if_neg h10, if_pos a]
      split
      · exact Or.inl rfl
      · exact Or.inr rfl
    have e : bic (B p) = 0 := by rw [a]; rfl
    refine ⟨?_, by omega, by omega, by omega⟩
    rw [e]
    rcases hs with q | q <;> rw [q] <;> rfl
  · by_cases b : B p = 60
    · have hs : sg B len p = 60 ∨ sg B len p = 0 := by
        unfold sg
        rw [if_neg h10, if_neg a, if_pos b]
        split
        · exact Or.inl rfl
        · exact Or.inr rfl
      have e : bic (B p) = 0 := by rw [b]; rfl
      refine ⟨?_, by omega, by omega, by omega⟩
      rw [e]
      rcases hs with q | q <;> rw [q] <;> rfl
    · have hs : sg B len p = B p := by
        unfold sg
        rw [if_neg h10, if_neg a, if_neg b]
      rw [hs]
      exact ⟨rfl, Iff.rfl, fun _ => by omega, fun _ => by omega⟩
section RL
variable {N : Nat} {z : Nat → Nat} {pl : Bool} {B : Nat → Nat} {len : Nat}
theorem rz_stop {S : mq_St} {v : Int32} {fuel : Nat} (h : ¬ S.1 10 = 0) : zf_X11_whole_17 N z (fuel + 1) v S = some (0, S) := by
  show zf_X11_whole_17b N z _ v S = _
  unfold zf_X11_whole_17b
  rw [if_neg h]
/-- a sign, or none, behind an operand: the joins -/
theorem rz_sign {S : mq_St} {G : List Nat} {V T : List Tr} {fuel : Nat} {c : Int32} {w : Nat} (hN : 500 ≤ N) (hsee : zf_X11_see N z S = some (c, S)) (h10 : S.1 10 = 0) (hw : (4 ≤ w ∧ w ≤ 7 ∧ c = chr w) ∨ (w = 0 ∧ ¬ c = 61 ∧ ¬ c = 62 ∧ ¬ c = 124 ∧ ¬ c = 38)) (h : rdR S G V pl T) (hA : okA G V false) (hG : G.length ≤ 400) (hV : V.length ≤ 400) (hT : T.length + 5 * G.length < 2990) :
    ∃ S' T', zf_X11_whole_17 N z (fuel + 1) 1 S = zf_X11_whole_149 N z (fun v1 S => zf_X11_whole_17 N z fuel v1 S) 1 c (if w = 0 then -1 else nI w) S' ∧ rdR S' (joinA pl (if w = 0 then 4 else jc w) G V).1 (joinA pl (if w = 0 then 4 else jc w) G V).2 pl T' ∧ T'.length + 5 * (joinA pl (if w = 0 then 4 else jc w) G V).1.length ≤ T.length + 5 * G.length ∧ ag [7, 14, 15] [7, 8, 9, 10, 11, 12] [] S S' := by
  have hsh : zf_X11_whole_17 N z (fuel + 1) 1 S = zf_X11_whole_17b N z (fun v1 S => zf_X11_whole_17 N z fuel v1 S) 1 S := rfl
  have E : zf_X11_whole_17 N z (fuel + 1) 1 S = zf_X11_whole_85 N z (fun v1 S => zf_X11_whole_17 N z fuel v1 S) N 1 c (if w = 0 then -1 else nI w) S := by
    rw [hsh]
    unfold zf_X11_whole_17b zf_X11_whole_84
    rw [if_pos h10, if_neg (by decide), hsee, mq_cl_s, nI_e]
    rcases hw with ⟨w4, w7, hc⟩ | ⟨w0, n1, n2, n3, n4⟩
    · have : w = 4 ∨ w = 5 ∨ w = 6 ∨ w = 7 := by omega
      rcases this with rfl | rfl | rfl | rfl
      · rw [hc, if_pos (by decide), nI_e]; rfl
      · rw [hc, if_neg (by decide), if_pos (by decide), nI_e]; rfl
      · rw [hc, if_neg (by decide), if_neg (by decide), if_pos (by decide), nI_e]; rfl
      · rw [hc, if_neg (by decide), if_neg (by decide), if_neg (by decide), if_pos (by decide), nI_e]; rfl
    · rw [if_neg n1, if_neg n2, if_neg n3, if_neg n4, nI_e, if_pos w0]
  have hv3 : ∀ g : Nat, 4 ≤ g → g ≤ 7 → ((if w = 0 then (-1 : Int32) else nI w) < nI g ∨ (nI g = (if w = 0 then -1 else nI w) ∧ ¬ (if w = 0 then (-1 : Int32) else nI w) = 5) ↔ (if w = 0 then 4 else jc w) ≤ g) := by
    intro g g4 g7
    by_cases w0 : w = 0
    · rw [if_pos w0, if_pos w0]
      have : (-1 : Int32) < nI g := by
        rw [Int32.lt_iff_toInt_lt, nI_toInt (by omega), show (-1 : Int32).toInt = -1 from by decide]
        omega
      exact ⟨fun _ => g4, fun _ => Or.inl this⟩
    · rw [if_neg w0, if_neg w0]
      have hw7 : w ≤ 7 := by omega
      have q1 : (nI w < nI g) ↔ w < g := nI_ltI (by omega) (by omega)
      have q2 : (nI g = nI w) ↔ g = w := nI_eq (by omega) (by omega)
      have q3 : (nI w = (5 : Int32)) ↔ w = 5 := nI_eq (b := 5) (by omega) (by omega)
      rw [q1, q2, q3]
      unfold jc
      by_cases e : w = 5
      · rw [if_pos e]; omega
      · rw [if_neg e]; omega
  have hc : 4 ≤ (if w = 0 then 4 else jc w) ∧ (if w = 0 then 4 else jc w) ≤ 8 := by
    by_cases w0 : w = 0
    · rw [if_pos w0]; omega
    · rw [if_neg w0]; unfold jc; split <;> omega
  obtain ⟨S', T', a1, a2, a3, a4⟩ := rj_all (N := N) (z := z) (pl := pl) (k17 := fun v1 S => zf_X11_whole_17 N z fuel v1 S) (v1 := 1) (v2 := c) (v3 := if w = 0 then -1 else nI w) hc hv3 G V S T N h hA.1 (hA.2.1 rfl) hA.2.2.1 (by omega) hG hV hT
  exact ⟨S', T', E.trans a1, a2, a3, a4⟩
theorem rz_end {S : mq_St} {G : List Nat} {V T : List Tr} {od : Bool} {fuel : Nat} (hN : 500 ≤ N) (hB : tpR S B len) (h9 : S.1 9 = nI len) (h8 : S.1 8 = nI len) (h : rdR S G V pl T) (h10 : S.1 10 = 0) (hA : okA G V od) (hG : G.length ≤ 400) (hV : V.length ≤ 400) (hT : T.length + 5 * G.length < 2990) :
    ∃ x S', zf_X11_whole_17 N z (fuel + 2) (if od = true then 0 else 1) S = some (x, S') ∧ ocR pl B len (0, len, G, V, od) x S' ∧ ag [7, 8, 10, 11, 12, 14, 15, 16] [7, 8, 9, 10, 11, 12, 13] [] S S' := by
  have hl := hB.1
  have hsee := rs_end (N := N) (z := z) hN hB h9 h8
  cases od with
  | true =>
    have hsh : zf_X11_whole_17 N z (fuel + 2) 0 S = zf_X11_whole_17b N z (fun v1 S => zf_X11_whole_17 N z (fuel + 1) v1 S) 0 S := rfl
    have wr1 : zf_X11_wrong N z 1 S = some (0, mq_si (mq_si S 10 (nI 1)) 11 (nI len)) := ro_wrong (k := 1) h10 h8
    have E : zf_X11_operand N z S = some (0, mq_si (mq_si S 10 (nI 1)) 11 (nI len)) := by
      unfold zf_X11_operand zf_X11_operand_148 zf_X11_operand_149 zf_X11_operand_189 zf_X11_operand_190
      rw [hsee, mq_cl_s, nI_e, rf_in, mq_cp_s, if_pos (by decide), if_neg (by decide), if_neg (by decide), if_neg (by decide), nI_e, if_neg (by decide), nI_e, if_neg (by decide), if_neg (by decide), if_pos rfl, if_pos rfl, wr1, mq_cl_s, nI_e, mq_cz_0]
    refine ⟨0, mq_si (mq_si S 10 (nI 1)) 11 (nI len), ?_, Or.inr (Or.inl ⟨rfl, Or.inl rfl, rfl, rfl⟩), ag_tr (ag_si (by decide)) (ag_si (by decide))⟩
    rw [if_pos rfl, hsh]
    unfold zf_X11_whole_17b
    rw [if_pos h10, if_pos rfl, E, mq_cl_s, nI_e]
    exact rz_stop (by show ¬ nI 1 = 0; decide)
  | false =>
    obtain ⟨S1, T1, a1, a2, a3, a4⟩ := rz_sign (N := N) (z := z) (pl := pl) (fuel := fuel + 1) (c := -1) (w := 0) hN hsee h10 (Or.inr ⟨rfl, by decide, by decide, by decide, by decide⟩) h hA hG hV hT
    rw [if_pos rfl] at a1 a2
    obtain ⟨h1, h2, h3, h4⟩ := hA
    have h2 := h2 rfl
    have h3 : V.length = nbi G + 1 := h3
    have e10 : S1.1 10 = 0 := (a4.1 10 (by decide)).trans h10
    have e8 : S1.1 8 = nI len := (a4.1 8 (by decide)).trans h8
    have g1 : ag [7, 8, 10, 11, 12, 14, 15, 16] [7, 8, 9, 10, 11, 12, 13] [] S S1 := ag_mono a4 (by decide) (by decide) (by decide)
    rw [if_neg (by decide), a1]
    unfold zf_X11_whole_149 zf_X11_whole_249 zf_X11_whole_273
    rw [if_pos rfl, if_neg (by decide)]
    obtain ⟨j1, j2, j3, j4, j5, j6, j7, j8, j9⟩ := joinA_ok (pl := pl) (c := 4) (Nat.le_refl _) G V h1 h2 h3 h4
    have c16 : S1.1 16 = nI (G.count 0) := by rw [a2.2.2.2.2.2.1, j7]
    rw [c16]
    by_cases hz : 0 < G.count 0
    · rw [if_neg (nI_nle hz (by have := List.count_le_length (a := 0) (l := G); omega)), show (1 : Int32) = nI 1 from rfl, ro_wrong (k := 1) e10 e8, mq_cl_s, nI_e]
      refine ⟨0, mq_si (mq_si S1 10 (nI 1)) 11 (nI len), rz_stop (by show ¬ nI 1 = 0; decide), Or.inr (Or.inl ⟨rfl, Or.inr hz, rfl, rfl⟩), ag_tr (ag_tr g1 (ag_si (by decide))) (ag_si (by decide))⟩
    · have hz0 : G.count 0 = 0 := by omega
      have jn := (joinA_4 (pl := pl) h1 h2 h3 h4).1 hz0
      rw [jn] at j3 a2
      have j3 : (joinA pl 4 G V).2.length = 1 := j3
      obtain ⟨x, hx⟩ : ∃ x, (joinA pl 4 G V).2 = [x] := by
        match hq : (joinA pl 4 G V).2, j3 with
        | [x], _ => exact ⟨x, rfl⟩
      rw [hx] at a2
      have i0 : vp_in (0 : Int32) 410 := vp_in_nI (n := 0) (by omega) (by omega)
      rw [hz0, if_pos (by decide), mq_ck_of i0, show (0 : Int32).toNatClampNeg = 0 from nI_clamp (n := 0) (by omega)]
      refine ⟨S1.2.1 12 0, S1, rfl, Or.inr (Or.inr ⟨rfl, rfl, hz0, e10, e8, T1, a2.2.2.2.2.2.2.2, by omega, ?_⟩), g1⟩
      show RV T1 (S1.2.1 12 0) ((joinA pl 4 G V).2.headD (.num 0))
      rw [hx]
      exact a2.2.2.2.1.1
theorem rz_loop (hN : 500 ≤ N) : ∀ (n p : Nat) (S : mq_St) (G : List Nat) (V T : List Tr) (od : Bool) (fuel : Nat), tpR S B len → S.1 9 = nI len → S.1 8 = nI p → p ≤ len → rdR S G V pl T → S.1 10 = 0 → okA G V od → nop G ≤ 60 → G.length ≤ p → V.length ≤ p → T.length + 5 * G.length ≤ 5 * p → len - p < n → n + 2 ≤ fuel →
    ∃ x S', zf_X11_whole_17 N z fuel (if od = true then 0 else 1) S = some (x, S') ∧ ocR pl B len (paA pl B len n p G V od) x S' ∧ ag [7, 8, 10, 11, 12, 14, 15, 16] [7, 8, 9, 10, 11, 12, 13] [] S S' := by
  intro n
  induction n with
  | zero => intro p S G V T od fuel _ _ _ _ _ _ _ _ _ _ _ h; omega
  | succ n ih =>
    intro p S G V T od fuel hB h9 h8 hp h h10 hA h60 hG hV hT hn hf
    have hl := hB.1
    obtain ⟨fu, rfl⟩ : ∃ q, fuel = q + 1 := ⟨fuel - 1, by omega⟩
    by_cases e : len ≤ p
    · have ep : p = len := by omega
      subst ep
      have Q : paA pl B p (n + 1) p G V od = (0, p, G, V, od) := by rw [paA, if_pos e]
      rw [Q]
      obtain ⟨fv, rfl⟩ : ∃ q, fu = q + 1 := ⟨fu - 1, by omega⟩
      exact rz_end hN hB h9 h8 h h10 hA (by omega) (by omega) (by omega)
    · by_cases hb : B p = 32 ∨ B p = 10
      · have Q : paA pl B len (n + 1) p G V od = paA pl B len n (p + 1) G V od := by rw [paA, if_neg e, if_pos (sg_c hb)]
        rw [Q]
        have hsee := rs_blank (N := N) (z := z) hN hB h9 h8 (by omega) hb
        obtain ⟨c15, cG, c14, cV, c12, c16, c13, cn⟩ := h
        obtain ⟨x, S', a1, a2, a3⟩ := ih (p + 1) (mq_si S 8 (nI (p + 1))) G V T od (fu + 1) hB h9 rfl (by omega) ⟨c15, cG, c14, cV, c12, c16, c13, ndR_c cn rfl rfl rfl rfl rfl rfl⟩ h10 hA h60 (by omega) (by omega) (by omega) (by omega) (by omega)
        refine ⟨x, S', ?_, a2, ag_tr (ag_si (by decide)) a3⟩
        rw [← a1]
        show zf_X11_whole_17b N z _ _ S = zf_X11_whole_17b N z _ _ (mq_si S 8 (nI (p + 1)))
        have e10 : (mq_si S 8 (nI (p + 1))).1 10 = S.1 10 := rfl
        unfold zf_X11_whole_17b zf_X11_operand
        rw [e10, hsee]
        cases od with
        | true => rw [if_pos h10, if_pos rfl, if_pos h10, if_pos rfl]
        | false => rw [if_pos h10, if_neg (by decide), if_pos h10, if_neg (by decide)]
      · have hs32 := sg_b (len := len) hb
        have hBl : B p < 256 := (hB.2 p (by omega)).2.1
        obtain ⟨g1, g2, g3, g4⟩ := sg_bic (len := len) hb
        have hsee := rs_here (N := N) (z := z) hN hB h9 h8 (by omega) hb
        have tp' : ∀ S1 : mq_St, ag [7, 8, 10, 11, 12, 14, 15, 16] [7, 8, 9, 10, 11, 12, 13] [] S S1 → tpR S1 B len ∧ S1.1 9 = nI len := fun S1 g => ⟨by
          unfold tpR
          rw [g.2.1 0 (by decide)]
          exact hB, (g.1 9 (by decide)).trans h9⟩
        -- the sign fails
        have fault : ∀ (x : Int32) (S' : mq_St), ¬ (stA pl (sg B len p) G V od).1 = 0 → ((S'.1 10 = nI (stA pl (sg B len p) G V od).1 ∧ S'.1 11 = nI p) ∨ ((stA pl (sg B len p) G V od).1 = 1 ∧ S'.1 10 = 0 ∧ S'.1 8 = nI p)) → ocR pl B len (paA pl B len (n + 1) p G V od) x S' := by
          intro x S' h0 q
          have Q : paA pl B len (n + 1) p G V od = ((stA pl (sg B len p) G V od).1, p, G, V, od) := by rw [paA, if_neg e, if_neg hs32, if_neg h0]
          rw [Q]
          have h3 : (stA pl (sg B len p) G V od).1 ≤ 3 := by
            unfold stA
            repeat' split
            all_goals (first | exact Nat.zero_le _ | exact Nat.le_refl _ | exact (by decide : 1 ≤ 3) | exact (by decide : 2 ≤ 3))
          refine Or.inl ⟨h0, ?_⟩
          rcases q with ⟨q1, q2⟩ | ⟨q1, q2, q3⟩
          · exact Or.inl ⟨q1, q2, h3⟩
          · exact Or.inr ⟨q1, q2, q3, by show p < len; omega, hb⟩
        -- it stands
        have go : ∀ (S1 : mq_St) (T1 : List Tr), (stA pl (sg B len p) G V od).1 = 0 → rdR S1 (stA pl (sg B len p) G V od).2.1 (stA pl (sg B len p) G V od).2.2.1 pl T1 → S1.1 8 = nI (if sg B len p = 91 ∨ sg B len p = 60 then p + 2 else p + 1) → S1.1 10 = 0 → T1.length + 5 * (stA pl (sg B len p) G V od).2.1.length ≤ 5 * (if sg B len p = 91 ∨ sg B len p = 60 then p + 2 else p + 1) → ag [7, 8, 10, 11, 12, 14, 15, 16] [7, 8, 9, 10, 11, 12, 13] [] S S1 → zf_X11_whole_17 N z (fu + 1) (if od = true then 0 else 1) S = zf_X11_whole_17 N z fu (if (stA pl (sg B len p) G V od).2.2.2 = true then 0 else 1) S1 →
            ∃ x S', zf_X11_whole_17 N z (fu + 1) (if od = true then 0 else 1) S = some (x, S') ∧ ocR pl B len (paA pl B len (n + 1) p G V od) x S' ∧ ag [7, 8, 10, 11, 12, 14, 15, 16] [7, 8, 9, 10, 11, 12, 13] [] S S' := by
          intro S1 T1 h0 r1 r8 r10 rT ga E
          have Q : paA pl B len (n + 1) p G V od = paA pl B len n (if sg B len p = 91 ∨ sg B len p = 60 then p + 2 else p + 1) (stA pl (sg B len p) G V od).2.1 (stA pl (sg B len p) G V od).2.2.1 (stA pl (sg B len p) G V od).2.2.2 := by rw [paA, if_neg e, if_neg hs32, if_pos h0]
          have hok := stA_ok hA h0
          have hnp := stA_nop hA h60 h0
          have hp2 : p + 1 ≤ (if sg B len p = 91 ∨ sg B len p = 60 then p + 2 else p + 1) ∧ (if sg B len p = 91 ∨ sg B len p = 60 then p + 2 else p + 1) ≤ len := by
            by_cases q : sg B len p = 91 ∨ sg B len p = 60
            · rw [if_pos q]
              refine ⟨by omega, ?_⟩
              unfold sg at q
              by_cases b1 : B p = 10
              · rw [if_pos b1] at q; omega
              · rw [if_neg b1] at q
                by_cases b2 : B p = 91
                · rw [if_pos b2] at q
                  by_cases b3 : p + 1 < len ∧ B (p + 1) = 93
                  · omega
                  · rw [if_neg b3] at q; omega
                · rw [if_neg b2] at q
                  by_cases b4 : B p = 60
                  · rw [if_pos b4] at q
                    by_cases b5 : p + 1 < len ∧ B (p + 1) = 62
                    · omega
                    · rw [if_neg b5] at q; omega
                  · rw [if_neg b4] at q; omega
            · rw [if_neg q]; omega
          obtain ⟨t1, t2⟩ := tp' S1 ga
          obtain ⟨x, S', a1, a2, a3⟩ := ih _ S1 _ _ T1 (stA pl (sg B len p) G V od).2.2.2 fu t1 t2 r8 hp2.2 r1 r10 hok.1 hnp (by omega) (by omega) rT (by omega) (by omega)
          exact ⟨x, S', E.trans a1, by rw [Q]; exact a2, ag_tr ga a3⟩
        cases od with
        | true =>
          have E0 : ∀ (v : Int32) (S1 : mq_St), zf_X11_operand N z S = some (v, S1) → zf_X11_whole_17 N z (fu + 1) (if true = true then 0 else 1) S = zf_X11_whole_17 N z fu v S1 := by
            intro v S1 q
            rw [if_pos rfl]
            show zf_X11_whole_17b N z (fun v1 S => zf_X11_whole_17 N z fu v1 S) 0 S = _
            unfold zf_X11_whole_17b
            rw [if_pos h10, if_pos rfl, q, mq_cl_s, nI_e]
          obtain ⟨A, F⟩ := rw_operand (N := N) (z := z) (pl := pl) hN hB h9 h8 (by omega) hb h h10 hA h60 hG hV hT
          by_cases h0 : (stA pl (sg B len p) G V true).1 = 0
          · obtain ⟨S1, T1, a1, a2, a3, a4, a5, a6⟩ := A h0
            exact go S1 T1 h0 a2 a3 a4 a5 (ag_mono a6 (by decide) (by decide) (by decide)) (E0 _ _ a1)
          · obtain ⟨S1, a1, a2, a3, a4⟩ := F h0
            obtain ⟨fv, rfl⟩ : ∃ q, fu = q + 1 := ⟨fu - 1, by omega⟩
            have h3 : (stA pl (sg B len p) G V true).1 ≤ 3 := by
              unfold stA
              repeat' split
              all_goals (first | exact Nat.zero_le _ | exact Nat.le_refl _ | exact (by decide : 1 ≤ 3) | exact (by decide : 2 ≤ 3))
            refine ⟨0, S1, (E0 _ _ a1).trans (rz_stop (by rw [a2]; exact nI_ne0 (by omega) (by omega))), fault 0 S1 h0 (Or.inl ⟨a2, a3⟩), ag_mono a4 (by decide) (by decide) (by decide)⟩
        | false =>
          have hAA := hA
          obtain ⟨h1, h2, h3, h4⟩ := hA
          have h2 := h2 rfl
          have h3 : V.length = nbi G + 1 := h3
          have hsig := fun (w : Nat) hw => rz_sign (N := N) (z := z) (pl := pl) (S := S) (G := G) (V := V) (T := T) (fuel := fu) (c := nI (B p)) (w := w) hN hsee h10 hw h hAA (by omega) (by omega) (by omega)
          have e41 : (nI (B p) = (41 : Int32)) ↔ B p = 41 := nI_eq (b := 41) (by omega) (by omega)
          by_cases hbc : 4 ≤ bic (B p)
          · obtain ⟨n1, n2, n3, n4, n5⟩ := bic_no hbc
            obtain ⟨S1, T1, a1, a2, a3, a4⟩ := hsig (bic (B p)) (Or.inl ⟨hbc, n4, (chr_b hbc).symm⟩)
            rw [if_neg (by omega)] at a1 a2 a3
            have Qs : stA pl (sg B len p) G V false = (0, bic (B p) :: (joinA pl (jc (bic (B p))) G V).1, (joinA pl (jc (bic (B p))) G V).2, true) := by
              unfold stA
              rw [if_neg (by decide), g1, if_pos hbc]
            obtain ⟨j1, j2, j3, j4, j5, j6, j7, j8, j9⟩ := joinA_ok (pl := pl) (c := jc (bic (B p))) (by unfold jc; split <;> omega) G V h1 h2 h3 h4
            obtain ⟨c15, cG, c14, cV, c12, c16, c13, cn⟩ := a2
            have e8 : S1.1 8 = nI p := (a4.1 8 (by decide)).trans h8
            refine go (mq_si (mq_sa (mq_si S1 8 (nI (p + 1))) 13 (upd (S1.2.1 13) (joinA pl (jc (bic (B p))) G V).1.length (nI (bic (B p))))) 15 (nI ((joinA pl (jc (bic (B p))) G V).1.length + 1))) T1 (by rw [Qs]) ?_ ?_ ((a4.1 10 (by decide)).trans h10) ?_ ?_ ?_
            · rw [Qs]
              refine ⟨rfl, ⟨?_, onGR_upd (Nat.le_refl _) cG⟩, c14, cV, ?_, ?_, c13, ndR_c cn rfl rfl rfl rfl rfl rfl⟩
              · show upd (S1.2.1 13) _ _ _ = _
                rw [up_s]
              · show S1.1 12 = _
                rw [c12, nop_c, if_neg (by omega)]; rfl
              · show S1.1 16 = _
                rw [c16, cn0_c, if_neg (by omega)]; rfl
            · rw [if_neg (g3 hbc)]; rfl
            · rw [Qs, if_neg (g3 hbc)]
              show T1.length + 5 * ((joinA pl (jc (bic (B p))) G V).1.length + 1) ≤ 5 * (p + 1)
              omega
            · refine ag_tr ?_ (ag_si (by decide))
              refine ag_tr ?_ (ag_sa (by decide))
              refine ag_tr ?_ (ag_si (by decide))
              exact ag_mono a4 (by decide) (by decide) (by decide)
            · rw [Qs, if_neg (by decide), a1]
              unfold zf_X11_whole_149 zf_X11_whole_273
              rw [if_neg (nI_nm1 (by omega)), e8, nI_1, nS_e, show (mq_si S1 8 (nI (p + 1))).1 15 = nI (joinA pl (jc (bic (B p))) G V).1.length from c15, mq_ck_of (vp_in_nI (by omega) (by omega)), nI_clamp (by omega), nS_e, nS_e, show (mq_sa (mq_si S1 8 (nI (p + 1))) 13 (upd ((mq_si S1 8 (nI (p + 1))).2.1 13) (joinA pl (jc (bic (B p))) G V).1.length (nI (bic (B p))))).1 15 = nI (joinA pl (jc (bic (B p))) G V).1.length from c15, nI_1, nI_e]
              rfl
          · have hb0 : bic (B p) = 0 := by
              unfold bic at hbc ⊢
              repeat' split at hbc
              all_goals first | omega | (repeat' split; all_goals omega)
            have nsig : ¬ nI (B p) = (61 : Int32) ∧ ¬ nI (B p) = (62 : Int32) ∧ ¬ nI (B p) = (124 : Int32) ∧ ¬ nI (B p) = (38 : Int32) := by
              have q1 : (nI (B p) = (61 : Int32)) ↔ B p = 61 := nI_eq (b := 61) (by omega) (by omega)
              have q2 : (nI (B p) = (62 : Int32)) ↔ B p = 62 := nI_eq (b := 62) (by omega) (by omega)
              have q3 : (nI (B p) = (124 : Int32)) ↔ B p = 124 := nI_eq (b := 124) (by omega) (by omega)
              have q4 : (nI (B p) = (38 : Int32)) ↔ B p = 38 := nI_eq (b := 38) (by omega) (by omega)
              rw [q1, q2, q3, q4]
              refine ⟨fun x => ?_, fun x => ?_, fun x => ?_, fun x => ?_⟩ <;> (rw [x] at hb0; exact absurd hb0 (by decide))
            obtain ⟨S1, T1, a1, a2, a3, a4⟩ := hsig 0 (Or.inr ⟨rfl, nsig⟩)
            rw [if_pos rfl] at a1 a2 a3
            have e8 : S1.1 8 = nI p := (a4.1 8 (by decide)).trans h8
            have e10 : S1.1 10 = 0 := (a4.1 10 (by decide)).trans h10
            obtain ⟨j1, j2, j3, j4, j5, j6, j7, j8, j9⟩ := joinA_ok (pl := pl) (c := 4) (Nat.le_refl _) G V h1 h2 h3 h4
            have g1' : ag [7, 8, 10, 11, 12, 14, 15, 16] [7, 8, 9, 10, 11, 12, 13] [] S S1 := ag_mono a4 (by decide) (by decide) (by decide)
            have c16' : S1.1 16 = nI (G.count 0) := by rw [a2.2.2.2.2.2.1, j7]
            by_cases hcl : B p = 41 ∧ 0 < G.count 0
            · obtain ⟨G', eG⟩ := (joinA_4 (pl := pl) h1 h2 h3 h4).2 hcl.2
              rw [eG] at a2 a3 j1 j3 j6 j7 j8
              rw [nbi_c, if_neg (by omega)] at j3
              rw [nop_c, if_pos (by omega)] at j6
              rw [cn0_c, if_pos rfl] at j7
              have j8 : G'.length + 1 ≤ G.length := j8
              have a3 : T1.length + 5 * (G'.length + 1) ≤ T.length + 5 * G.length := a3
              have Qs : stA pl (sg B len p) G V false = (0, (aheadA pl G' (joinA pl 4 G V).2).1, (aheadA pl G' (joinA pl 4 G V).2).2, false) := by
                unfold stA
                rw [if_neg (by decide), if_neg (by rw [g1]; exact hbc), if_pos ⟨g2.mpr hcl.1, hcl.2⟩, eG]
                rfl
              obtain ⟨c15, cG, c14, cV, c12, c16, c13, cn⟩ := a2
              rw [nop_c, if_pos (by omega)] at c12
              have ne : ¬ S1.1 16 ≤ 0 := by
                rw [c16']
                exact nI_nle hcl.2 (by have := List.count_le_length (a := 0) (l := G); omega)
              obtain ⟨S2, T2, b1, b2, b3, b4⟩ := rj_ahead (N := N) (z := z) (pl := pl) G' (joinA pl 4 G V).2 (mq_si (mq_si (mq_si (mq_si S1 8 (nI (p + 1))) 16 (nI (G'.count 0))) 15 (nI G'.length)) 12 (nI (nop G'))) T1 N ⟨rfl, cG.2, c14, cV, rfl, rfl, c13, ndR_c cn rfl rfl rfl rfl rfl rfl⟩ j1.2.2 j3 (by omega) (by omega) (by omega) (by omega)
              refine go S2 T2 (by rw [Qs]) (by rw [Qs]; exact b2) (by rw [if_neg (g4 hcl.1)]; exact b4.1 8 (by decide)) ((b4.1 10 (by decide)).trans e10) (by rw [Qs, if_neg (g4 hcl.1)]; show T2.length + 5 * (aheadA pl G' (joinA pl 4 G V).2).1.length ≤ 5 * (p + 1); omega) ?_ ?_
              · refine ag_tr ?_ (ag_mono b4 (by decide) (by decide) (by decide))
                refine ag_tr ?_ (ag_si (by decide))
                refine ag_tr ?_ (ag_si (by decide))
                refine ag_tr ?_ (ag_si (by decide))
                refine ag_tr ?_ (ag_si (by decide))
                exact g1'
              · rw [Qs, if_neg (by decide), a1]
                unfold zf_X11_whole_149 zf_X11_whole_273 zf_X11_ahead
                rw [if_pos rfl, if_pos (e41.mpr hcl.1), if_neg ne, e8, nI_1, nS_e, nS_e, nS_e, nS_e]
                rw [show (mq_si S1 8 (nI (p + 1))).1 16 - 1 = nI (G'.count 0) from by
                  show S1.1 16 - 1 = _
                  rw [c16', ← j7, nI_pred], show (mq_si (mq_si S1 8 (nI (p + 1))) 16 (nI (G'.count 0))).1 15 - 1 = nI G'.length from by
                  show S1.1 15 - 1 = _
                  rw [c15]
                  exact nI_pred _, show (mq_si (mq_si (mq_si S1 8 (nI (p + 1))) 16 (nI (G'.count 0))) 15 (nI G'.length)).1 12 - 1 = nI (nop G') from by
                  show S1.1 12 - 1 = _
                  rw [c12, nI_pred], b1, mq_cl_s]
            · have Qs : (stA pl (sg B len p) G V false).1 = 1 := by
                unfold stA
                rw [if_neg (by decide), if_neg (by rw [g1]; exact hbc), if_neg (fun q => hcl ⟨g2.mp q.1, q.2⟩)]
              have h0 : ¬ (stA pl (sg B len p) G V false).1 = 0 := by rw [Qs]; decide
              have E1 : zf_X11_whole_149 N z (fun v1 S => zf_X11_whole_17 N z fu v1 S) 1 (nI (B p)) (-1) S1 = zf_X11_whole_249 N z (fun v1 S => zf_X11_whole_17 N z fu v1 S) 1 S1 := by
                unfold zf_X11_whole_149
                rw [if_pos rfl]
                by_cases q : B p = 41
                · rw [if_pos (e41.mpr q), c16', show G.count 0 = 0 from by
                    have : ¬ 0 < G.count 0 := fun x => hcl ⟨q, x⟩
                    omega, if_pos (by decide)]
                · rw [if_neg (fun x => q (e41.mp x))]
              rw [if_neg (by decide), a1, E1]
              unfold zf_X11_whole_249 zf_X11_whole_273
              rw [c16']
              obtain ⟨fv, rfl⟩ : ∃ q, fu = q + 1 := ⟨fu - 1, by omega⟩
              by_cases hz : 0 < G.count 0
              · rw [if_neg (nI_nle hz (by have := List.count_le_length (a := 0) (l := G); omega)), show (1 : Int32) = nI 1 from rfl, ro_wrong (k := 1) e10 e8, mq_cl_s, nI_e]
                refine ⟨0, mq_si (mq_si S1 10 (nI 1)) 11 (nI p), rz_stop (by show ¬ nI 1 = 0; decide), fault _ _ h0 (Or.inl ⟨by rw [Qs]; rfl, rfl⟩), ag_tr (ag_tr g1' (ag_si (by decide))) (ag_si (by decide))⟩
              · have hz0 : G.count 0 = 0 := by omega
                have i0 : vp_in (0 : Int32) 410 := vp_in_nI (n := 0) (by omega) (by omega)
                rw [hz0, if_pos (by decide), mq_ck_of i0]
                exact ⟨_, S1, rfl, fault _ _ h0 (Or.inr ⟨Qs, e10, e8⟩), g1'⟩
end RL
