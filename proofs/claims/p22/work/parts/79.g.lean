/-! 79.tellc -/
section
/-! tell, the class's side: the writer. -/
theorem sh_2 {f s : Nat} (hs : s < 4) (hf : f < 1000) : nI (4 * f + s) >>> ((2 : Int32) &&& 31) = nI f ∧ nI (4 * f + s) &&& 3 = nI s := by
  constructor
  · have := pk_shrN (n := 4 * f + s) (by omega) ((2 : Int32) &&& 31) 2 (by decide)
    rw [this]
    congr 1
    show (4 * f + s) / 4 = f
    omega
  · have := pk_andN (n := 4 * f + s) (by omega) (m := 3) 2 (by decide)
    rw [this]
    congr 1
    show (4 * f + s) % 4 = s
    omega
theorem wr_turn {N : Nat} {z : Nat → Nat} {S : mq_St} {D : List Int32} {fuel t e f s : Nat} (hs : s < 4) (hf : f < 300) (he : e < 300) (ht : t < 1000000) (hD : D.length < 400) (h13 : S.1 13 = nI (e + 1)) (hw : S.2.1 15 e = nI (4 * f + s)) (hc : tc S D) :
    zf_X9_write_21 N z (fuel + 1) (nI t) S = mq_cl (zf_X9_goOn N z (nI f) (nI s) (mq_sa S 15 (upd (S.2.1 15) e (nI (4 * f + s + 1))))) (fun _ S' => zf_X9_write_21 N z fuel (nI (t + 1)) S') := by
  have e1 : min D.length 400 = D.length := by omega
  obtain ⟨q1, q2⟩ := sh_2 (f := f) hs (by omega)
  have h1 : S.1 1 = nI D.length := by have := hc.1; rw [e1] at this; exact this
  show zf_X9_write_21b N z _ (nI t) S = _
  unfold zf_X9_write_21b
  rw [show zf_X0_size N z (mq_pull S [1] [3] []) = some (S.1 1) from rfl]
  simp -implicitDefEqProofs (disch := omega) only [↓nS_e, ↓nI_e, ↓nL_e, mq_cl_s, mq_cp_s, si_1, si_2, sa_1, sa_2, sa_3, sl_1, sl_2, sl_3, ↓reduceIte, Nat.reduceEqDiff, Nat.reduceAdd, Nat.reduceSub, reduceCtorEq, eq_self, sp_leT, sp_leF, sp_ltT, sp_ltF, sp_eqT, sp_eqF, sp_m1, sp_m1', sp_ml, sp_mle, sp_mlt, sp_mle', sp_m1s, sp_lt0, sp_le0, sp_ck, sp_cl, sp_ad, sp_su, sp_ne, sp_cz, sp_a1, sp_a0, sp_0a, up_s, up_o, L0, L1, L2, L3, L4, L5, L6, L7, L8, L9, L10, L16, L20, L24, L32, L60, L300, L400, L470, L64, L320, L150, L1299, L1300, L97, L122, L84, L70, L33, L40, L41, L62, L91, L93, L38, L124, L61, L31, L63, L600, L1000000, L100000, L4000, L3000, L2000, L410, L3600, h1, h13, hw]
  rw [show nI (4 * f + s) >>> (nI 2 &&& nI 31) = nI f from q1, show nI (4 * f + s) &&& nI 3 = nI s from q2]
theorem wr_full {N : Nat} {z : Nat → Nat} {S : mq_St} {D : List Int32} {fuel : Nat} (v : Int32) (hD : 400 ≤ D.length) (hc : tc S D) : zf_X9_write_21 N z (fuel + 1) v S = some ((), S) := by
  have e1 : min D.length 400 = 400 := by omega
  have h1 : S.1 1 = nI 400 := by have := hc.1; rw [e1] at this; exact this
  show zf_X9_write_21b N z _ v S = _
  unfold zf_X9_write_21b
  rw [show zf_X0_size N z (mq_pull S [1] [3] []) = some (S.1 1) from rfl, h1, mq_cp_s, if_pos (by decide : (400 : Int32) ≤ nI 400)]
  by_cases a : (1000000 : Int32) ≤ v
  · rw [if_pos a]
  · rw [if_neg a]
    by_cases b : S.1 13 ≤ 0
    · rw [if_pos b]
    · rw [if_neg b]
section WR
variable {N n : Nat} {z : Nat → Nat} {S : mq_St} {D : List Int32} {f e : Nat} {so on tw : Nat → Int32}
theorem wr_enter (h13 : S.1 13 = nI e) (he : e < 300) (a : Nat) : zf_X9_enter N z (nI a) S = some ((), mq_si (mq_sa S 15 (upd (S.2.1 15) e (nI (4 * a)))) 13 (nI (e + 1))) := by
  unfold zf_X9_enter
  simp -implicitDefEqProofs (disch := omega) only [↓nS_e, ↓nI_e, ↓nL_e, mq_cl_s, mq_cp_s, si_1, si_2, sa_1, sa_2, sa_3, sl_1, sl_2, sl_3, ↓reduceIte, Nat.reduceEqDiff, Nat.reduceAdd, Nat.reduceSub, reduceCtorEq, eq_self, sp_leT, sp_leF, sp_ltT, sp_ltF, sp_eqT, sp_eqF, sp_m1, sp_m1', sp_ml, sp_mle, sp_mlt, sp_mle', sp_m1s, sp_lt0, sp_le0, sp_ck, sp_cl, sp_ad, sp_su, sp_ne, sp_cz, sp_a1, sp_a0, sp_0a, up_s, up_o, L0, L1, L2, L3, L4, L5, L6, L7, L8, L9, L10, L16, L20, L24, L32, L60, L300, L400, L470, L64, L320, L150, L1299, L1300, L97, L122, L84, L70, L33, L40, L41, L62, L91, L93, L38, L124, L61, L31, L63, L600, L1000000, L100000, L4000, L3000, L2000, L410, L3600, h13, sp_mu]
theorem wr_atom (hn : S.1 2 = nI n) (h3 : n ≤ 300) (hf : f < n) (hso : S.2.1 4 = so) (hon : S.2.1 5 = on) (s : Int32) (hs : so f = 0 ∨ so f = 1 ∨ so f = 2 ∨ so f = 3) (h13 : S.1 13 = nI (e + 1)) (hc : tc S D) :
    ∃ S', zf_X9_goOn N z (nI f) s S = some ((), S') ∧ tc S' (D ++ tx so on tw f) ∧ S'.1 13 = nI e ∧ ag [1, 13] [3] [] S S' := by
  obtain ⟨i1, i2, -, -⟩ := ck_in (N := N) (z := z) hn h3 hf
  rw [hso] at i1
  rw [hon] at i2
  have fin : ∀ {S1 : mq_St}, ag [1] [3] [] S S1 → S1.1 13 - 1 = nI e := fun q => by rw [q.1 13 (by decide), h13, nI_pred]
  have m : ∀ {S1 S2 : mq_St}, ag [1] [3] [] S1 S2 → ag [1, 13] [3] [] S1 S2 := fun h => ag_mono h (by decide) (by decide) (by decide)
  unfold zf_X9_goOn
  rw [i1, mq_cp_s, i2]
  rcases hs with q | q | q | q
  · obtain ⟨S1, a1, a2, a3⟩ := ck_emit (N := N) (z := z) 84 hc
    refine ⟨mq_si S1 13 (S1.1 13 - 1), ?_, ?_, fin a3, ag_tr (m a3) (ag_si (by decide))⟩
    · rw [q, nI_e, if_neg (by decide), mq_cp_s]
      unfold zf_X9_writeAtom
      rw [if_pos rfl, a1, mq_cl_s, mq_cl_s, nS_e]
    · rw [tx_0 q]; exact a2
  · obtain ⟨S1, a1, a2, a3⟩ := ck_emit (N := N) (z := z) 70 hc
    refine ⟨mq_si S1 13 (S1.1 13 - 1), ?_, ?_, fin a3, ag_tr (m a3) (ag_si (by decide))⟩
    · rw [q, nI_e, if_neg (by decide), mq_cp_s]
      unfold zf_X9_writeAtom
      rw [if_neg (by decide), if_pos rfl, a1, mq_cl_s, mq_cl_s, nS_e]
    · rw [tx_1 q]; exact a2
  · obtain ⟨S1, a1, a2, a3⟩ := ck_emit (N := N) (z := z) (97 + on f) hc
    refine ⟨mq_si S1 13 (S1.1 13 - 1), ?_, ?_, fin a3, ag_tr (m a3) (ag_si (by decide))⟩
    · rw [q, nI_e, if_neg (by decide), mq_cp_s]
      unfold zf_X9_writeAtom zf_X9_writeAtom_38
      rw [if_neg (by decide), if_neg (by decide), if_neg (by decide), a1, mq_cl_s, mq_cl_s, nS_e]
    · rw [tx_2 q]; exact a2
  · obtain ⟨S0, b1, b2, b3⟩ := ck_emit (N := N) (z := z) 33 hc
    obtain ⟨S1, a1, a2, a3⟩ := ck_emit (N := N) (z := z) (97 + on f) b2
    refine ⟨mq_si S1 13 (S1.1 13 - 1), ?_, ?_, fin (ag_tr b3 a3), ag_tr (m (ag_tr b3 a3)) (ag_si (by decide))⟩
    · rw [q, nI_e, if_neg (by decide), mq_cp_s]
      unfold zf_X9_writeAtom zf_X9_writeAtom_38
      rw [if_neg (by decide), if_neg (by decide), if_pos rfl, b1, mq_cl_s, a1, mq_cl_s, mq_cl_s, nS_e]
    · rw [tx_3 q]
      rw [List.append_assoc] at a2
      exact a2
/-- one part: its sign is written, the part entered -/
theorem wr_one0 (hn : S.1 2 = nI n) (h3 : n ≤ 300) (hf : f < n) (hso : S.2.1 4 = so) (hon : S.2.1 5 = on) {a : Nat} (ha : on f = nI a) (hs : so f = 6 ∨ so f = 7) (h13 : S.1 13 = nI e) (he : e < 300) (hc : tc S D) :
    ∃ S', zf_X9_goOn N z (nI f) 0 S = some ((), S') ∧ tc S' (D ++ (if so f = 6 then [91, 93] else [60, 62])) ∧ S'.1 13 = nI (e + 1) ∧ S'.2.1 15 e = nI (4 * a) ∧ (∀ i, ¬ i = e → S'.2.1 15 i = S.2.1 15 i) ∧ ag [1, 13] [3, 15] [] S S' := by
  obtain ⟨i1, -, -, -⟩ := ck_in (N := N) (z := z) hn h3 hf
  rw [hso] at i1
  obtain ⟨S1, a1, a2, a3⟩ := ck_emit (N := N) (z := z) (if so f = 6 then 91 else 60) hc
  obtain ⟨S2, b1, b2, b3⟩ := ck_emit (N := N) (z := z) (if so f = 6 then 93 else 62) a2
  have g := ag_tr a3 b3
  obtain ⟨-, i2, -, -⟩ := ck_in (N := N) (z := z) (S := S2) ((g.1 2 (by decide)).trans hn) h3 hf
  rw [g.2.1 5 (by decide), hon, ha] at i2
  have j13 : S2.1 13 = nI e := (g.1 13 (by decide)).trans h13
  refine ⟨_, ?_, ?_, ?_, ?_, ?_, ag_tr (ag_tr (ag_mono g (by decide) (by decide) (by decide)) (ag_sa (k := 15) (f := upd (S2.2.1 15) e (nI (4 * a))) (by decide))) (ag_si (k := 13) (v := nI (e + 1)) (by decide))⟩
  · unfold zf_X9_goOn
    rw [i1, mq_cp_s]
    rcases hs with q | q
    · rw [q, if_pos rfl] at a1 b1
      rw [q, nI_e, if_pos (by decide), if_pos rfl]
      unfold zf_X9_goOn_52 zf_X9_goOnWithOne zf_X9_goOnWithOne_18 zf_X9_goOnWithOne_35
      rw [if_pos rfl, if_pos rfl, a1, mq_cl_s, if_pos rfl, b1, mq_cl_s, i2, mq_cp_s, wr_enter j13 he, mq_cl_s, mq_cl_s]
    · rw [q, if_neg (by decide)] at a1 b1
      rw [q, nI_e, if_pos (by decide), if_neg (by decide), if_pos rfl]
      unfold zf_X9_goOn_52 zf_X9_goOnWithOne zf_X9_goOnWithOne_18 zf_X9_goOnWithOne_35
      rw [if_pos rfl, if_neg (by decide), a1, mq_cl_s, if_neg (by decide), b1, mq_cl_s, i2, mq_cp_s, wr_enter j13 he, mq_cl_s, mq_cl_s]
  · rw [List.append_assoc] at b2
    rcases hs with q | q
    · rw [q, if_pos rfl]
      rw [q, if_pos rfl, if_pos rfl] at b2
      exact b2
    · rw [q, if_neg (by decide)]
      rw [q, if_neg (by decide), if_neg (by decide)] at b2
      exact b2
  · rfl
  · show upd (S2.2.1 15) e (nI (4 * a)) e = _
    exact up_s _ _ _
  · intro i hi
    show upd (S2.2.1 15) e (nI (4 * a)) i = _
    rw [up_o hi, g.2.1 15 (by decide)]
theorem wr_one1 (hn : S.1 2 = nI n) (h3 : n ≤ 300) (hf : f < n) (hso : S.2.1 4 = so) (hs : so f = 6 ∨ so f = 7) (h13 : S.1 13 = nI (e + 1)) : zf_X9_goOn N z (nI f) (nI 1) S = some ((), mq_si S 13 (nI e)) := by
  obtain ⟨i1, -, -, -⟩ := ck_in (N := N) (z := z) hn h3 hf
  rw [hso] at i1
  unfold zf_X9_goOn
  rw [i1, mq_cp_s]
  rcases hs with q | q
  · rw [q, nI_e, if_pos (by decide), if_pos rfl]
    unfold zf_X9_goOn_52 zf_X9_goOnWithOne
    rw [if_neg (by decide), nS_e, mq_cl_s, h13, nI_pred]
  · rw [q, nI_e, if_pos (by decide), if_neg (by decide), if_pos rfl]
    unfold zf_X9_goOn_52 zf_X9_goOnWithOne
    rw [if_neg (by decide), nS_e, mq_cl_s, h13, nI_pred]
theorem wr_two (hn : S.1 2 = nI n) (h3 : n ≤ 300) (hf : f < n) (hso : S.2.1 4 = so) (hs : so f = 4 ∨ so f = 5) (s : Int32) : zf_X9_goOn N z (nI f) s S = mq_cl (zf_X9_goOnWithTwo N z (nI f) (so f) s S) (fun _ S6 => some ((), S6)) := by
  obtain ⟨i1, -, -, -⟩ := ck_in (N := N) (z := z) hn h3 hf
  rw [hso] at i1
  unfold zf_X9_goOn
  rw [i1, mq_cp_s]
  rcases hs with q | q
  · rw [q, nI_e, if_pos (by decide), if_neg (by decide), if_neg (by decide)]
  · rw [q, nI_e, if_pos (by decide), if_neg (by decide), if_neg (by decide)]
theorem wr_two0 (hn : S.1 2 = nI n) (h3 : n ≤ 300) (hf : f < n) (hso : S.2.1 4 = so) (hon : S.2.1 5 = on) {a : Nat} (ha : on f = nI a) (hs : so f = 4 ∨ so f = 5) (h13 : S.1 13 = nI e) (he : e < 300) (hc : tc S D) :
    ∃ S', zf_X9_goOn N z (nI f) 0 S = some ((), S') ∧ tc S' (D ++ [40]) ∧ S'.1 13 = nI (e + 1) ∧ S'.2.1 15 e = nI (4 * a) ∧ (∀ i, ¬ i = e → S'.2.1 15 i = S.2.1 15 i) ∧ ag [1, 13] [3, 15] [] S S' := by
  obtain ⟨S1, a1, a2, a3⟩ := ck_emit (N := N) (z := z) 40 hc
  obtain ⟨-, i2, -, -⟩ := ck_in (N := N) (z := z) (S := S1) ((a3.1 2 (by decide)).trans hn) h3 hf
  rw [a3.2.1 5 (by decide), hon, ha] at i2
  have j13 : S1.1 13 = nI e := (a3.1 13 (by decide)).trans h13
  refine ⟨mq_si (mq_sa S1 15 (upd (S1.2.1 15) e (nI (4 * a)))) 13 (nI (e + 1)), ?_, a2, rfl, ?_, ?_, ag_tr (ag_tr (ag_mono a3 (by decide) (by decide) (by decide)) (ag_sa (k := 15) (f := upd (S1.2.1 15) e (nI (4 * a))) (by decide))) (ag_si (k := 13) (v := nI (e + 1)) (by decide))⟩
  · rw [wr_two hn h3 hf hso hs]
    unfold zf_X9_goOnWithTwo
    rw [if_pos rfl, a1, mq_cl_s, i2, mq_cp_s, wr_enter j13 he, mq_cl_s, mq_cl_s]
  · show upd (S1.2.1 15) e (nI (4 * a)) e = _
    exact up_s _ _ _
  · intro i hi
    show upd (S1.2.1 15) e (nI (4 * a)) i = _
    rw [up_o hi, a3.2.1 15 (by decide)]
theorem wr_two1 (hn : S.1 2 = nI n) (h3 : n ≤ 300) (hf : f < n) (hso : S.2.1 4 = so) (htw : S.2.1 6 = tw) {a : Nat} (ha : tw f = nI a) (hs : so f = 4 ∨ so f = 5) (h13 : S.1 13 = nI e) (he : e < 300) (hc : tc S D) :
    ∃ S', zf_X9_goOn N z (nI f) (nI 1) S = some ((), S') ∧ tc S' (D ++ [if so f = 4 then 38 else 124]) ∧ S'.1 13 = nI (e + 1) ∧ S'.2.1 15 e = nI (4 * a) ∧ (∀ i, ¬ i = e → S'.2.1 15 i = S.2.1 15 i) ∧ ag [1, 13] [3, 15] [] S S' := by
  obtain ⟨S1, a1, a2, a3⟩ := ck_emit (N := N) (z := z) (if so f = 4 then 38 else 124) hc
  obtain ⟨-, -, i2, -⟩ := ck_in (N := N) (z := z) (S := S1) ((a3.1 2 (by decide)).trans hn) h3 hf
  rw [a3.2.1 6 (by decide), htw, ha] at i2
  have j13 : S1.1 13 = nI e := (a3.1 13 (by decide)).trans h13
  refine ⟨mq_si (mq_sa S1 15 (upd (S1.2.1 15) e (nI (4 * a)))) 13 (nI (e + 1)), ?_, a2, rfl, ?_, ?_, ag_tr (ag_tr (ag_mono a3 (by decide) (by decide) (by decide)) (ag_sa (k := 15) (f := upd (S1.2.1 15) e (nI (4 * a))) (by decide))) (ag_si (k := 13) (v := nI (e + 1)) (by decide))⟩
  · rw [wr_two hn h3 hf hso hs]
    unfold zf_X9_goOnWithTwo zf_X9_goOnWithTwo_43
    rw [if_neg (by decide), if_pos (by decide)]
    rcases hs with q | q
    · rw [q, if_pos rfl] at a1
      rw [if_pos q, a1, mq_cl_s, i2, mq_cp_s, wr_enter j13 he, mq_cl_s, mq_cl_s]
    · rw [q, if_neg (by decide)] at a1
      rw [if_neg (by rw [q]; decide), a1, mq_cl_s, i2, mq_cp_s, wr_enter j13 he, mq_cl_s, mq_cl_s]
  · show upd (S1.2.1 15) e (nI (4 * a)) e = _
    exact up_s _ _ _
  · intro i hi
    show upd (S1.2.1 15) e (nI (4 * a)) i = _
    rw [up_o hi, a3.2.1 15 (by decide)]
theorem wr_two2 (hn : S.1 2 = nI n) (h3 : n ≤ 300) (hf : f < n) (hso : S.2.1 4 = so) (hs : so f = 4 ∨ so f = 5) (h13 : S.1 13 = nI (e + 1)) (hc : tc S D) :
    ∃ S', zf_X9_goOn N z (nI f) (nI 2) S = some ((), S') ∧ tc S' (D ++ [41]) ∧ S'.1 13 = nI e ∧ S'.2.1 15 = S.2.1 15 ∧ ag [1, 13] [3, 15] [] S S' := by
  obtain ⟨S1, a1, a2, a3⟩ := ck_emit (N := N) (z := z) 41 hc
  refine ⟨mq_si S1 13 (S1.1 13 - 1), ?_, a2, ?_, a3.2.1 15 (by decide), ag_tr (ag_mono a3 (by decide) (by decide) (by decide)) (ag_si (by decide))⟩
  · rw [wr_two hn h3 hf hso hs]
    unfold zf_X9_goOnWithTwo
    rw [if_neg (by decide), if_neg (by decide), a1, mq_cl_s, nS_e, mq_cl_s]
  · show S1.1 13 - 1 = _
    rw [a3.1 13 (by decide), h13, nI_pred]
end WR
/-- what a formula's turn leads to -/
def wr_Q (N : Nat) (z : Nat → Nat) (so on tw : Nat → Int32) (f : Nat) (D : List Int32) (e fuel t : Nat) (S : mq_St) : Prop :=
  ∃ S', tc S' (D ++ tx so on tw f) ∧ ag [1, 13] [3, 15] [] S S' ∧ ((400 ≤ (D ++ tx so on tw f).length ∧ zf_X9_write_21 N z fuel (nI t) S = some ((), S')) ∨
    ((D ++ tx so on tw f).length < 400 ∧ S'.1 13 = nI e ∧ (∀ i, i < e → S'.2.1 15 i = S.2.1 15 i) ∧ ∃ fuel' t', t' + D.length ≤ t + (D ++ tx so on tw f).length ∧ fuel + D.length ≤ fuel' + (D ++ tx so on tw f).length ∧ zf_X9_write_21 N z fuel (nI t) S = zf_X9_write_21 N z fuel' (nI t') S'))
def wr_P (N : Nat) (z : Nat → Nat) (n : Nat) (so on tw : Nat → Int32) (f : Nat) : Prop :=
  ∀ (S : mq_St) (D : List Int32) (e fuel t : Nat), S.1 2 = nI n → S.2.1 4 = so → S.2.1 5 = on → S.2.1 6 = tw → S.1 13 = nI (e + 1) → S.2.1 15 e = nI (4 * f) → e + f < 300 → tc S D → D.length < 400 → t ≤ D.length → 401 ≤ fuel + D.length → wr_Q N z so on tw f D e fuel t S
theorem wr_len {A B : List Int32} {k : Nat} (h : k ≤ A.length) : k ≤ (A ++ B).length := by rw [List.length_append]; omega
section WR2
variable {N n : Nat} {z : Nat → Nat} {S S0 : mq_St} {D : List Int32} {f e fuel t : Nat} {so on tw : Nat → Int32}
theorem wr_stop {S' : mq_St} {X Y : List Int32} (hx : tx so on tw f = X ++ Y) (hF : 400 ≤ (D ++ X).length) (hc : tc S' (D ++ X)) (ha : ag [1, 13] [3, 15] [] S S') (E : zf_X9_write_21 N z fuel (nI t) S = some ((), S')) : wr_Q N z so on tw f D e fuel t S := by
  refine ⟨S', ?_, ha, Or.inl ⟨?_, E⟩⟩
  · rw [hx, ← List.append_assoc]
    exact tc_more hc hF
  · rw [hx, ← List.append_assoc]
    exact wr_len hF
theorem wr_all {d : Nat → Nat} (hw : fw n so on tw d) : ∀ f, f < n → wr_P N z n so on tw f := by
  intro f
  induction f using Nat.strongRecOn with
  | ind f ih =>
    intro hf S D e fuel t hn hso hon htw h13 hwy hef hc hD ht hfu
    have h3 := hw.2.1
    obtain ⟨fu, rfl⟩ : ∃ q, fuel = q + 1 := ⟨fuel - 1, by omega⟩
    have E0 := wr_turn (N := N) (z := z) (fuel := fu) (t := t) (s := 0) (f := f) (e := e) (by omega) (by omega) (by omega) (by omega) hD h13 hwy hc
    have g0 : ag [1, 13] [3, 15] [] S (mq_sa S 15 (upd (S.2.1 15) e (nI (4 * f + 0 + 1)))) := ag_sa (by decide)
    have atom : (so f = 0 ∨ so f = 1 ∨ so f = 2 ∨ so f = 3) → 1 ≤ (tx so on tw f).length → wr_Q N z so on tw f D e (fu + 1) t S := by
      intro hs hl
      obtain ⟨S1, a1, a2, a3, a4⟩ := wr_atom (N := N) (z := z) (S := mq_sa S 15 (upd (S.2.1 15) e (nI (4 * f + 0 + 1)))) (tw := tw) hn h3 hf hso hon (nI 0) hs h13 hc
      rw [a1, mq_cl_s] at E0
      have g1 := ag_tr g0 (ag_mono a4 (by decide) (by decide) (by decide))
      by_cases hF : 400 ≤ (D ++ tx so on tw f).length
      · refine ⟨S1, a2, g1, Or.inl ⟨hF, E0.trans ?_⟩⟩
        obtain ⟨q, rfl⟩ : ∃ q, fu = q + 1 := ⟨fu - 1, by omega⟩
        exact wr_full _ hF a2
      · refine ⟨S1, a2, g1, Or.inr ⟨by omega, a3, fun i hi => ?_, fu, t + 1, ?_, ?_, E0⟩⟩
        · rw [a4.2.1 15 (by decide)]
          show upd (S.2.1 15) e _ i = _
          rw [up_o (by omega)]
        · rw [List.length_append]; omega
        · rw [List.length_append]; omega
    have one : ∀ (P : List Int32) (a : Nat), a < f → on f = nI a → (so f = 6 ∨ so f = 7) → (if so f = 6 then [91, 93] else [60, 62]) = P → P.length = 2 → tx so on tw f = P ++ tx so on tw a → wr_Q N z so on tw f D e (fu + 1) t S := by
      intro P a ha wa hs hP hl hx
      obtain ⟨S1, a1, a2, a3, a4, a5, a6⟩ := wr_one0 (N := N) (z := z) (S := mq_sa S 15 (upd (S.2.1 15) e (nI (4 * f + 0 + 1)))) (e := e + 1) hn h3 hf hso hon wa hs h13 (by omega) hc
      rw [show zf_X9_goOn N z (nI f) (nI 0) (mq_sa S 15 (upd (S.2.1 15) e (nI (4 * f + 0 + 1)))) = _ from a1, mq_cl_s] at E0
      rw [hP] at a2
      have g1 := ag_tr g0 a6
      have l1 : (D ++ P).length = D.length + 2 := by rw [List.length_append, hl]
      by_cases hF : 400 ≤ (D ++ P).length
      · obtain ⟨q, rfl⟩ : ∃ q, fu = q + 1 := ⟨fu - 1, by omega⟩
        exact wr_stop hx hF a2 g1 (E0.trans (wr_full _ hF a2))
      · obtain ⟨S2, b1, b2, b3⟩ := ih a ha (by omega) S1 (D ++ P) (e + 1) fu (t + 1) ((g1.1 2 (by decide)).trans hn) ((g1.2.1 4 (by decide)).trans hso) ((g1.2.1 5 (by decide)).trans hon) ((g1.2.1 6 (by decide)).trans htw) a3 a4 (by omega) a2 (by omega) (by omega) (by omega)
        have g2 := ag_tr g1 b2
        rw [List.append_assoc, ← hx] at b1 b3
        rcases b3 with ⟨c1, c2⟩ | ⟨c1, c2, c3, fu2, t2, c4, c5, c6⟩
        · exact ⟨S2, b1, g2, Or.inl ⟨c1, E0.trans c2⟩⟩
        · obtain ⟨fu3, rfl⟩ : ∃ q, fu2 = q + 1 := ⟨fu2 - 1, by omega⟩
          have w2 : S2.2.1 15 e = nI (4 * f + 1) := by
            rw [c3 e (by omega), a5 e (by omega)]
            show upd (S.2.1 15) e _ e = _
            rw [up_s]
          have E2 := wr_turn (N := N) (z := z) (fuel := fu3) (t := t2) (s := 1) (f := f) (e := e) (by omega) (by omega) (by omega) (by omega) c1 c2 w2 b1
          rw [wr_one1 (S := mq_sa S2 15 (upd (S2.2.1 15) e (nI (4 * f + 1 + 1)))) (so := so) (e := e) ((g2.1 2 (by decide)).trans hn) h3 hf ((g2.2.1 4 (by decide)).trans hso) hs c2, mq_cl_s] at E2
          refine ⟨_, ?_, ag_tr (ag_tr g2 (ag_sa (k := 15) (f := upd (S2.2.1 15) e (nI (4 * f + 1 + 1))) (by decide))) (ag_si (k := 13) (v := nI e) (by decide)), Or.inr ⟨c1, rfl, fun i hi => ?_, fu3, t2 + 1, by omega, by omega, E0.trans (c6.trans E2)⟩⟩
          · exact b1
          · show upd (S2.2.1 15) e _ i = _
            rw [up_o (by omega), c3 i (by omega), a5 i (by omega)]
            show upd (S.2.1 15) e _ i = _
            rw [up_o (by omega)]
    have two : ∀ (a b : Nat) (v : Int32), a < f → b < f → on f = nI a → tw f = nI b → (so f = 4 ∨ so f = 5) → (if so f = 4 then 38 else 124) = v → tx so on tw f = [40] ++ (tx so on tw a ++ ([v] ++ (tx so on tw b ++ [41]))) → wr_Q N z so on tw f D e (fu + 1) t S := by
      intro a b v ha hb wa wb hs hv hx
      obtain ⟨S1, a1, a2, a3, a4, a5, a6⟩ := wr_two0 (N := N) (z := z) (S := mq_sa S 15 (upd (S.2.1 15) e (nI (4 * f + 0 + 1)))) (e := e + 1) hn h3 hf hso hon wa hs h13 (by omega) hc
      rw [show zf_X9_goOn N z (nI f) (nI 0) (mq_sa S 15 (upd (S.2.1 15) e (nI (4 * f + 0 + 1)))) = _ from a1, mq_cl_s] at E0
      have g1 := ag_tr g0 a6
      have l1 : (D ++ [40]).length = D.length + 1 := by rw [List.length_append]; rfl
      by_cases hF : 400 ≤ (D ++ [40]).length
      · obtain ⟨q, rfl⟩ : ∃ q, fu = q + 1 := ⟨fu - 1, by omega⟩
        exact wr_stop hx hF a2 g1 (E0.trans (wr_full _ hF a2))
      · obtain ⟨S2, b1, b2, b3⟩ := ih a ha (by omega) S1 (D ++ [40]) (e + 1) fu (t + 1) ((g1.1 2 (by decide)).trans hn) ((g1.2.1 4 (by decide)).trans hso) ((g1.2.1 5 (by decide)).trans hon) ((g1.2.1 6 (by decide)).trans htw) a3 a4 (by omega) a2 (by omega) (by omega) (by omega)
        have g2 := ag_tr g1 b2
        have l2 : (D ++ [40] ++ tx so on tw a).length = D.length + 1 + (tx so on tw a).length := by rw [List.length_append, l1]
        rcases b3 with ⟨c1, c2⟩ | ⟨c1, c2, c3, fu2, t2, c4, c5, c6⟩
        · refine wr_stop (X := [40] ++ tx so on tw a) (Y := [v] ++ (tx so on tw b ++ [41])) ?_ ?_ ?_ g2 (E0.trans c2)
          · rw [hx, List.append_assoc]
          · rw [← List.append_assoc]; exact c1
          · rw [← List.append_assoc]; exact b1
        · obtain ⟨fu3, rfl⟩ : ∃ q, fu2 = q + 1 := ⟨fu2 - 1, by omega⟩
          have w2 : S2.2.1 15 e = nI (4 * f + 1) := by
            rw [c3 e (by omega), a5 e (by omega)]
            show upd (S.2.1 15) e _ e = _
            rw [up_s]
          have E2 := wr_turn (N := N) (z := z) (fuel := fu3) (t := t2) (s := 1) (f := f) (e := e) (by omega) (by omega) (by omega) (by omega) c1 c2 w2 b1
          obtain ⟨S3, d1, d2, d3, d4, d5, d6⟩ := wr_two1 (N := N) (z := z) (S := mq_sa S2 15 (upd (S2.2.1 15) e (nI (4 * f + 1 + 1)))) (e := e + 1) ((g2.1 2 (by decide)).trans hn) h3 hf ((g2.2.1 4 (by decide)).trans hso) ((g2.2.1 6 (by decide)).trans htw) wb hs c2 (by omega) b1
          rw [d1, mq_cl_s] at E2
          rw [hv] at d2
          have g3 := ag_tr (ag_tr g2 (ag_sa (k := 15) (f := upd (S2.2.1 15) e (nI (4 * f + 1 + 1))) (by decide))) d6
          have l3 : (D ++ [40] ++ tx so on tw a ++ [v]).length = D.length + 1 + (tx so on tw a).length + 1 := by rw [List.length_append, l2]; rfl
          by_cases hF3 : 400 ≤ (D ++ [40] ++ tx so on tw a ++ [v]).length
          · refine wr_stop (X := [40] ++ tx so on tw a ++ [v]) (Y := tx so on tw b ++ [41]) ?_ ?_ ?_ g3 (E0.trans (c6.trans (E2.trans (?_ : _ = some ((), S3)))))
            · rw [hx]; simp only [List.append_assoc]
            · simp only [← List.append_assoc]; exact hF3
            · simp only [← List.append_assoc]; exact d2
            · obtain ⟨q, rfl⟩ : ∃ q, fu3 = q + 1 := ⟨fu3 - 1, by omega⟩
              exact wr_full _ hF3 d2
          · obtain ⟨S4, p1, p2, p3⟩ := ih b hb (by omega) S3 (D ++ [40] ++ tx so on tw a ++ [v]) (e + 1) fu3 (t2 + 1) ((g3.1 2 (by decide)).trans hn) ((g3.2.1 4 (by decide)).trans hso) ((g3.2.1 5 (by decide)).trans hon) ((g3.2.1 6 (by decide)).trans htw) d3 d4 (by omega) d2 (by omega) (by omega) (by omega)
            have g4 := ag_tr g3 p2
            have l4 : (D ++ [40] ++ tx so on tw a ++ [v] ++ tx so on tw b).length = D.length + 1 + (tx so on tw a).length + 1 + (tx so on tw b).length := by rw [List.length_append, l3]
            rcases p3 with ⟨q1, q2⟩ | ⟨q1, q2, q3, fu4, t4, q4, q5, q6⟩
            · refine wr_stop (X := [40] ++ tx so on tw a ++ [v] ++ tx so on tw b) (Y := [41]) ?_ ?_ ?_ g4 (E0.trans (c6.trans (E2.trans q2)))
              · rw [hx]; simp only [List.append_assoc]
              · simp only [← List.append_assoc]; exact q1
              · simp only [← List.append_assoc]; exact p1
            · obtain ⟨fu5, rfl⟩ : ∃ q, fu4 = q + 1 := ⟨fu4 - 1, by omega⟩
              have w4 : S4.2.1 15 e = nI (4 * f + 2) := by
                rw [q3 e (by omega), d5 e (by omega)]
                show upd (S2.2.1 15) e _ e = _
                rw [up_s]
              have E4 := wr_turn (N := N) (z := z) (fuel := fu5) (t := t4) (s := 2) (f := f) (e := e) (by omega) (by omega) (by omega) (by omega) q1 q2 w4 p1
              obtain ⟨S5, r1, r2, r3, r4, r5⟩ := wr_two2 (N := N) (z := z) (S := mq_sa S4 15 (upd (S4.2.1 15) e (nI (4 * f + 2 + 1)))) (e := e) ((g4.1 2 (by decide)).trans hn) h3 hf ((g4.2.1 4 (by decide)).trans hso) hs q2 p1
              rw [r1, mq_cl_s] at E4
              have g5 := ag_tr (ag_tr g4 (ag_sa (k := 15) (f := upd (S4.2.1 15) e (nI (4 * f + 2 + 1))) (by decide))) r5
              have l5 : (D ++ [40] ++ tx so on tw a ++ [v] ++ tx so on tw b ++ [41]).length = D.length + 1 + (tx so on tw a).length + 1 + (tx so on tw b).length + 1 := by rw [List.length_append, l4]; rfl
              have ex : D ++ tx so on tw f = D ++ [40] ++ tx so on tw a ++ [v] ++ tx so on tw b ++ [41] := by rw [hx]; simp only [List.append_assoc]
              unfold wr_Q
              rw [ex]
              by_cases hF5 : 400 ≤ (D ++ [40] ++ tx so on tw a ++ [v] ++ tx so on tw b ++ [41]).length
              · refine ⟨S5, r2, g5, Or.inl ⟨hF5, E0.trans (c6.trans (E2.trans (q6.trans (E4.trans ?_))))⟩⟩
                obtain ⟨q, rfl⟩ : ∃ q, fu5 = q + 1 := ⟨fu5 - 1, by omega⟩
                exact wr_full _ hF5 r2
              · refine ⟨S5, r2, g5, Or.inr ⟨by omega, r3, fun i hi => ?_, fu5, t4 + 1, by omega, by omega, E0.trans (c6.trans (E2.trans (q6.trans E4)))⟩⟩
                rw [r4]
                show upd (S4.2.1 15) e _ i = _
                rw [up_o (by omega), q3 i (by omega), d5 i (by omega)]
                show upd (S2.2.1 15) e _ i = _
                rw [up_o (by omega), c3 i (by omega), a5 i (by omega)]
                show upd (S.2.1 15) e _ i = _
                rw [up_o (by omega)]
    rcases hw.2.2.2.2 f hf with ⟨-, s0, -⟩ | ⟨-, s0, -⟩ | ⟨hs', -⟩ | ⟨h45, a, b, ha, hb, w1, w2, -⟩ | ⟨h67, -, -, a, ha, w1, -⟩
    · exact atom (Or.inl s0) (by rw [tx_0 s0]; decide)
    · exact atom (Or.inr (Or.inl s0)) (by rw [tx_1 s0]; decide)
    · rcases hs' with ⟨s0, -⟩ | ⟨s0, -⟩
      · exact atom (Or.inr (Or.inr (Or.inl s0))) (by rw [tx_2 s0]; exact Nat.le_refl _)
      · exact atom (Or.inr (Or.inr (Or.inr s0))) (by rw [tx_3 s0]; exact Nat.le_succ _)
    · have h45' : so f = 4 ∨ so f = 5 := h45.elim (fun q => Or.inl q.1) (fun q => Or.inr q.1)
      exact two a b _ ha hb w1 w2 h45' rfl (tx_two hw hf h45' ha hb w1 w2)
    · rcases h67 with ⟨s0, -⟩ | ⟨s0, -⟩
      · exact one [91, 93] a ha w1 (Or.inl s0) (by rw [s0]; rfl) rfl (tx_need hw hf s0 ha w1)
      · exact one [60, 62] a ha w1 (Or.inr s0) (by rw [s0]; rfl) rfl (tx_may hw hf s0 ha w1)
end WR2
theorem ck_write {N n t f : Nat} {z : Nat → Nat} {S : mq_St} {d : Nat → Nat} (hN : 401 ≤ N) (hw : fw n (S.2.1 4) (S.2.1 5) (S.2.1 6) d) (hn : S.1 2 = nI n) (hf : f < n) (h1 : S.1 1 = nI t) (h4 : t ≤ 4000) :
    ∃ S', zf_X9_write N z (nI f) S = some ((), S') ∧ tc S' (tx (S.2.1 4) (S.2.1 5) (S.2.1 6) f) ∧ ag [1, 13] [3, 15] [] S S' := by
  have h3 := hw.2.1
  unfold zf_X9_write
  rw [by_keep, if_neg (show ¬ ((0 : Int32) < 0 ∨ (mq_pull S [1] [3] []).1 0 < 0) from ?_)]
  · rw [mq_cl_s, nS_e, nS_e, wr_enter (e := 0) rfl (by omega), mq_cl_s, nI_e]
    have g0 : ag [1, 13] [3, 15] [] S (mq_push S (mq_si (mq_pull S [1] [3] []) 0 0) [1] [3] []) := ag_mono ag_push (by decide) (by decide) (by decide)
    have g1 := ag_tr (ag_tr (ag_tr g0 (ag_si (k := 13) (v := 0) (by decide))) (ag_sa (k := 15) (f := upd ((mq_si (mq_push S (mq_si (mq_pull S [1] [3] []) 0 0) [1] [3] []) 13 0).2.1 15) 0 (nI (4 * f))) (by decide))) (ag_si (k := 13) (v := nI (0 + 1)) (by decide))
    obtain ⟨S', a1, a2, a3⟩ := wr_all (N := N) (z := z) hw f hf _ [] 0 N 0 ((g1.1 2 (by decide)).trans hn) (g1.2.1 4 (by decide)) (g1.2.1 5 (by decide)) (g1.2.1 6 (by decide)) rfl (Eq.trans rfl (up_s ((mq_si (mq_push S (mq_si (mq_pull S [1] [3] []) 0 0) [1] [3] []) 13 0).2.1 15) 0 (nI (4 * f)))) (by omega) ⟨rfl, by decide, fun i hi => absurd hi (by show ¬ i < 0; omega)⟩ (by decide) (by decide) (by show 401 ≤ N + 0; omega)
    refine ⟨S', ?_, a1, ag_tr g1 a2⟩
    rcases a3 with ⟨-, e1⟩ | ⟨b1, b2, -, fu, t', b3, b4, e1⟩
    · exact e1
    · refine e1.trans ?_
      have b4' : N ≤ fu + ([] ++ tx (S.2.1 4) (S.2.1 5) (S.2.1 6) f).length := b4
      obtain ⟨q, rfl⟩ : ∃ q, fu = q + 1 := ⟨fu - 1, by omega⟩
      show zf_X9_write_21b N z _ (nI t') S' = _
      unfold zf_X9_write_21b
      rw [b2]
      by_cases a : (1000000 : Int32) ≤ nI t'
      · rw [if_pos a]
      · rw [if_neg a, if_pos (by decide : nI 0 ≤ 0)]
  · rintro (q | q)
    · exact absurd q (by decide)
    · rw [show (mq_pull S [1] [3] []).1 0 = nI t from h1] at q
      exact nI_pos (by omega) q
end
/-! 79b.tellr -/
section
/-! tell, the reference's side. -/
section RL
variable {N n : Nat} {z : Nat → Nat} {S : mq_St} {D : List Int32} {f l fu m : Nat} {so on tw : Nat → Int32}
theorem rl_full (v : Int32) (hD : 400 ≤ D.length) (hc : tr S D) : zf_X11_tell_29 N z (fu + 1) v S = some (nI 400, S) := by
  have e1 : min D.length 400 = 400 := by omega
  have h1 : S.1 2 = nI 400 := by have := hc.1; rw [e1] at this; exact this
  show zf_X11_tell_29b N z _ v S = _
  unfold zf_X11_tell_29b zf_X11_tell_311
  rw [h1, if_pos (by decide : (400 : Int32) ≤ nI 400)]
  by_cases a : v ≤ 0
  · rw [if_pos a]
  · rw [if_neg a]
theorem rl_m (hD : D.length < 400) (hc : tr S D) : S.1 2 = nI D.length := by
  have e1 : min D.length 400 = D.length := by omega
  have := hc.1
  rw [e1] at this
  exact this
theorem rl_b (hl : l < 2000) (hD : D.length < 400) (hc : tr S D) (hs : S.2.1 16 l = nI f) (hf : f < 300) : zf_X11_tell_29 N z (fu + 1) (nI (l + 1)) S =
    if S.2.1 2 f = nI 0 then mq_cl (zf_X11_tells N z (nI 84) S) (fun _ S => zf_X11_tell_29 N z fu (nI l) S)
    else if S.2.1 2 f = nI 1 then mq_cl (zf_X11_tells N z (nI 70) S) (fun _ S => zf_X11_tell_29 N z fu (nI l) S)
    else if S.2.1 2 f = nI 2 then mq_cl (zf_X11_tells N z (nI 97 + S.2.1 3 f) S) (fun _ S => zf_X11_tell_29 N z fu (nI l) S)
    else if S.2.1 2 f = nI 3 then mq_cl (zf_X11_tells N z (nI 33) S) (fun _ S => mq_cl (zf_X11_tells N z (nI 97 + S.2.1 3 f) S) (fun _ S => zf_X11_tell_29 N z fu (nI l) S))
    else if S.2.1 2 f = nI 4 then zf_X11_tell_238 N z (fun v S => zf_X11_tell_29 N z fu v S) (nI l) (nI f) S
    else if S.2.1 2 f = nI 5 then zf_X11_tell_238 N z (fun v S => zf_X11_tell_29 N z fu v S) (nI l) (nI f) S
    else if S.2.1 2 f = nI 6 then zf_X11_tell_176 N z (fun v S => zf_X11_tell_29 N z fu v S) (nI l) (nI f) S
    else if S.2.1 2 f = nI 7 then zf_X11_tell_176 N z (fun v S => zf_X11_tell_29 N z fu v S) (nI l) (nI f) S
    else zf_X11_tell_238 N z (fun v S => zf_X11_tell_29 N z fu v S) (nI l) (nI f) S := by
  have h1 := rl_m hD hc
  show zf_X11_tell_29b N z _ (nI (l + 1)) S = _
  unfold zf_X11_tell_29b zf_X11_tell_308
  simp -implicitDefEqProofs (disch := omega) only [↓nS_e, ↓nI_e, ↓nL_e, mq_cl_s, mq_cp_s, si_1, si_2, sa_1, sa_2, sa_3, sl_1, sl_2, sl_3, ↓reduceIte, Nat.reduceEqDiff, Nat.reduceAdd, Nat.reduceSub, reduceCtorEq, eq_self, sp_leT, sp_leF, sp_ltT, sp_ltF, sp_eqT, sp_eqF, sp_m1, sp_m1', sp_ml, sp_mle, sp_mlt, sp_mle', sp_m1s, sp_lt0, sp_le0, sp_ck, sp_cl, sp_ad, sp_su, sp_ne, sp_cz, sp_a1, sp_a0, sp_0a, up_s, up_o, L0, L1, L2, L3, L4, L5, L6, L7, L8, L9, L10, L16, L20, L24, L32, L60, L300, L400, L470, L64, L320, L150, L1299, L1300, L97, L122, L84, L70, L33, L40, L41, L62, L91, L93, L38, L124, L61, L31, L63, L600, L1000000, L100000, L4000, L3000, L2000, L410, L3600, h1, hs]
theorem rl_sign {c : Nat} (hc0 : 0 < c) (hc1 : c < 300) (hl : l < 2000) (hD : D.length < 400) (hc : tr S D) (hs : S.2.1 16 l = -(nI c)) : zf_X11_tell_29 N z (fu + 1) (nI (l + 1)) S = mq_cl (zf_X11_tells N z (nI c) S) (fun _ S => zf_X11_tell_29 N z fu (nI l) S) := by
  have h1 := rl_m hD hc
  have e1 : ¬ (0 : Int32) ≤ -(nI c) := by
    rw [Int32.le_iff_toInt_le]
    have h2 : (-(nI c)).toInt = -(c : Int) := by
      rw [Int32.toInt_neg, nI_toInt (by omega)]
      simp only [Int.bmod]
      omega
    rw [h2, show (0 : Int32).toInt = 0 from by decide]
    omega
  have e2 : - -(nI c) = nI c := Int32.neg_neg
  show zf_X11_tell_29b N z _ (nI (l + 1)) S = _
  unfold zf_X11_tell_29b
  rw [show (0 : Int32) = nI 0 from rfl] at e1
  simp -implicitDefEqProofs (disch := omega) only [↓nS_e, ↓nI_e, ↓nL_e, mq_cl_s, mq_cp_s, si_1, si_2, sa_1, sa_2, sa_3, sl_1, sl_2, sl_3, ↓reduceIte, Nat.reduceEqDiff, Nat.reduceAdd, Nat.reduceSub, reduceCtorEq, eq_self, sp_leT, sp_leF, sp_ltT, sp_ltF, sp_eqT, sp_eqF, sp_m1, sp_m1', sp_ml, sp_mle, sp_mlt, sp_mle', sp_m1s, sp_lt0, sp_le0, sp_ck, sp_cl, sp_ad, sp_su, sp_ne, sp_cz, sp_a1, sp_a0, sp_0a, up_s, up_o, L0, L1, L2, L3, L4, L5, L6, L7, L8, L9, L10, L16, L20, L24, L32, L60, L300, L400, L470, L64, L320, L150, L1299, L1300, L97, L122, L84, L70, L33, L40, L41, L62, L91, L93, L38, L124, L61, L31, L63, L600, L1000000, L100000, L4000, L3000, L2000, L410, L3600, h1, hs, e2, e1]
theorem rl_one (hl : l < 2000) (hD : D.length < 400) (hc : tr S D) (hs : S.2.1 16 l = nI f) (hf : f < 300) {P : List Int32} {a : Nat} (h67 : (S.2.1 2 f = 6 ∧ P = [91, 93]) ∨ (S.2.1 2 f = 7 ∧ P = [60, 62])) (ha : S.2.1 3 f = nI a) :
    ∃ S', zf_X11_tell_29 N z (fu + 1) (nI (l + 1)) S = zf_X11_tell_29 N z fu (nI (l + 1)) S' ∧ tr S' (D ++ P) ∧ S'.2.1 16 l = nI a ∧ (∀ i, ¬ i = l → S'.2.1 16 i = S.2.1 16 i) ∧ ag [2] [1, 16] [] S S' := by
  have fin : ∀ (c1 c2 : Int32), S.2.1 2 f = 6 ∧ c1 = 91 ∧ c2 = 93 ∨ S.2.1 2 f = 7 ∧ c1 = 60 ∧ c2 = 62 → ∃ S', zf_X11_tell_176 N z (fun v S => zf_X11_tell_29 N z fu v S) (nI l) (nI f) S = zf_X11_tell_29 N z fu (nI (l + 1)) S' ∧ tr S' (D ++ [c1] ++ [c2]) ∧ S'.2.1 16 l = nI a ∧ (∀ i, ¬ i = l → S'.2.1 16 i = S.2.1 16 i) ∧ ag [2] [1, 16] [] S S' := by
    intro c1 c2 h
    obtain ⟨S1, a1, a2, a3⟩ := rf_tells (N := N) (z := z) c1 hc
    obtain ⟨S2, b1, b2, b3⟩ := rf_tells (N := N) (z := z) c2 a2
    have g := ag_tr a3 b3
    have e2 : S2.2.1 3 f = nI a := by rw [g.2.1 3 (by decide)]; exact ha
    refine ⟨mq_sa S2 16 (upd (S2.2.1 16) l (nI a)), ?_, b2, ?_, ?_, ag_tr (ag_mono g (by decide) (by decide) (by decide)) (ag_sa (by decide))⟩
    · unfold zf_X11_tell_176 zf_X11_tell_195 zf_X11_tell_217 zf_X11_tell_308
      rcases h with ⟨q, rfl, rfl⟩ | ⟨q, rfl, rfl⟩
      · have q1 : S1.2.1 2 f = nI 6 := by rw [a3.2.1 2 (by decide)]; exact q
        have q0 : S.2.1 2 f = nI 6 := q
        have a1 : zf_X11_tells N z (nI 91) S = some ((), S1) := a1
        have b1 : zf_X11_tells N z (nI 93) S1 = some ((), S2) := b1
        simp -implicitDefEqProofs (disch := omega) only [↓nS_e, ↓nI_e, ↓nL_e, mq_cl_s, mq_cp_s, si_1, si_2, sa_1, sa_2, sa_3, sl_1, sl_2, sl_3, ↓reduceIte, Nat.reduceEqDiff, Nat.reduceAdd, Nat.reduceSub, reduceCtorEq, eq_self, sp_leT, sp_leF, sp_ltT, sp_ltF, sp_eqT, sp_eqF, sp_m1, sp_m1', sp_ml, sp_mle, sp_mlt, sp_mle', sp_m1s, sp_lt0, sp_le0, sp_ck, sp_cl, sp_ad, sp_su, sp_ne, sp_cz, sp_a1, sp_a0, sp_0a, up_s, up_o, L0, L1, L2, L3, L4, L5, L6, L7, L8, L9, L10, L16, L20, L24, L32, L60, L300, L400, L470, L64, L320, L150, L1299, L1300, L97, L122, L84, L70, L33, L40, L41, L62, L91, L93, L38, L124, L61, L31, L63, L600, L1000000, L100000, L4000, L3000, L2000, L410, L3600, q0, q1, a1, b1, e2]
      · have q1 : S1.2.1 2 f = nI 7 := by rw [a3.2.1 2 (by decide)]; exact q
        have q0 : S.2.1 2 f = nI 7 := q
        have a1 : zf_X11_tells N z (nI 60) S = some ((), S1) := a1
        have b1 : zf_X11_tells N z (nI 62) S1 = some ((), S2) := b1
        simp -implicitDefEqProofs (disch := omega) only [↓nS_e, ↓nI_e, ↓nL_e, mq_cl_s, mq_cp_s, si_1, si_2, sa_1, sa_2, sa_3, sl_1, sl_2, sl_3, ↓reduceIte, Nat.reduceEqDiff, Nat.reduceAdd, Nat.reduceSub, reduceCtorEq, eq_self, sp_leT, sp_leF, sp_ltT, sp_ltF, sp_eqT, sp_eqF, sp_m1, sp_m1', sp_ml, sp_mle, sp_mlt, sp_mle', sp_m1s, sp_lt0, sp_le0, sp_ck, sp_cl, sp_ad, sp_su, sp_ne, sp_cz, sp_a1, sp_a0, sp_0a, up_s, up_o, L0, L1, L2, L3, L4, L5, L6, L7, L8, L9, L10, L16, L20, L24, L32, L60, L300, L400, L470, L64, L320, L150, L1299, L1300, L97, L122, L84, L70, L33, L40, L41, L62, L91, L93, L38, L124, L61, L31, L63, L600, L1000000, L100000, L4000, L3000, L2000, L410, L3600, q0, q1, a1, b1, e2]
    · exact up_s _ _ _
    · intro i hi
      show upd (S2.2.1 16) l (nI a) i = _
      rw [up_o hi, g.2.1 16 (by decide)]
  rw [rl_b hl hD hc hs hf]
  rcases h67 with ⟨q, rfl⟩ | ⟨q, rfl⟩
  · obtain ⟨S', w1, w2, w3⟩ := fin 91 93 (Or.inl ⟨q, rfl, rfl⟩)
    rw [List.append_assoc] at w2
    rw [show S.2.1 2 f = nI 6 from q]
    exact ⟨S', w1, w2, w3⟩
  · obtain ⟨S', w1, w2, w3⟩ := fin 60 62 (Or.inr ⟨q, rfl, rfl⟩)
    rw [List.append_assoc] at w2
    rw [show S.2.1 2 f = nI 7 from q]
    exact ⟨S', w1, w2, w3⟩
theorem rl_two (hl : l < 1990) (hD : D.length < 400) (hc : tr S D) (hs : S.2.1 16 l = nI f) (hf : f < 300) {c a b : Nat} (h45 : (S.2.1 2 f = 4 ∧ c = 38) ∨ (S.2.1 2 f = 5 ∧ c = 124)) (ha : S.2.1 3 f = nI a) (hb : S.2.1 4 f = nI b) :
    ∃ S', zf_X11_tell_29 N z (fu + 1) (nI (l + 1)) S = zf_X11_tell_29 N z fu (nI (l + 4)) S' ∧ tr S' (D ++ [40]) ∧ S'.2.1 16 l = -(nI 41) ∧ S'.2.1 16 (l + 1) = nI b ∧ S'.2.1 16 (l + 2) = -(nI c) ∧ S'.2.1 16 (l + 3) = nI a ∧ (∀ i, i < l → S'.2.1 16 i = S.2.1 16 i) ∧ ag [2] [1, 16] [] S S' := by
  obtain ⟨S1, a1, a2, a3⟩ := rf_tells (N := N) (z := z) 40 hc
  have e3 : S1.2.1 3 f = nI a := by rw [a3.2.1 3 (by decide)]; exact ha
  have e4 : S1.2.1 4 f = nI b := by rw [a3.2.1 4 (by decide)]; exact hb
  have a1 : zf_X11_tells N z (nI 40) S = some ((), S1) := a1
  have key : zf_X11_tell_238 N z (fun v S => zf_X11_tell_29 N z fu v S) (nI l) (nI f) S = zf_X11_tell_29 N z fu (nI (l + 4)) (mq_sa S1 16 (upd (upd (upd (upd (S1.2.1 16) l (-(nI 41))) (l + 1) (nI b)) (l + 2) (-(nI c))) (l + 3) (nI a))) := by
    unfold zf_X11_tell_238 zf_X11_tell_290 zf_X11_tell_308
    rcases h45 with ⟨q, rfl⟩ | ⟨q, rfl⟩
    · have q1 : S1.2.1 2 f = nI 4 := by rw [a3.2.1 2 (by decide)]; exact q
      simp -implicitDefEqProofs (disch := omega) only [↓nS_e, ↓nI_e, ↓nL_e, mq_cl_s, mq_cp_s, si_1, si_2, sa_1, sa_2, sa_3, sl_1, sl_2, sl_3, ↓reduceIte, Nat.reduceEqDiff, Nat.reduceAdd, Nat.reduceSub, reduceCtorEq, eq_self, sp_leT, sp_leF, sp_ltT, sp_ltF, sp_eqT, sp_eqF, sp_m1, sp_m1', sp_ml, sp_mle, sp_mlt, sp_mle', sp_m1s, sp_lt0, sp_le0, sp_ck, sp_cl, sp_ad, sp_su, sp_ne, sp_cz, sp_a1, sp_a0, sp_0a, up_s, up_o, L0, L1, L2, L3, L4, L5, L6, L7, L8, L9, L10, L16, L20, L24, L32, L60, L300, L400, L470, L64, L320, L150, L1299, L1300, L97, L122, L84, L70, L33, L40, L41, L62, L91, L93, L38, L124, L61, L31, L63, L600, L1000000, L100000, L4000, L3000, L2000, L410, L3600, q1, a1, e3, e4, sa_sa]
    · have q1 : S1.2.1 2 f = nI 5 := by rw [a3.2.1 2 (by decide)]; exact q
      simp -implicitDefEqProofs (disch := omega) only [↓nS_e, ↓nI_e, ↓nL_e, mq_cl_s, mq_cp_s, si_1, si_2, sa_1, sa_2, sa_3, sl_1, sl_2, sl_3, ↓reduceIte, Nat.reduceEqDiff, Nat.reduceAdd, Nat.reduceSub, reduceCtorEq, eq_self, sp_leT, sp_leF, sp_ltT, sp_ltF, sp_eqT, sp_eqF, sp_m1, sp_m1', sp_ml, sp_mle, sp_mlt, sp_mle', sp_m1s, sp_lt0, sp_le0, sp_ck, sp_cl, sp_ad, sp_su, sp_ne, sp_cz, sp_a1, sp_a0, sp_0a, up_s, up_o, L0, L1, L2, L3, L4, L5, L6, L7, L8, L9, L10, L16, L20, L24, L32, L60, L300, L400, L470, L64, L320, L150, L1299, L1300, L97, L122, L84, L70, L33, L40, L41, L62, L91, L93, L38, L124, L61, L31, L63, L600, L1000000, L100000, L4000, L3000, L2000, L410, L3600, q1, a1, e3, e4, sa_sa]
  refine ⟨mq_sa S1 16 (upd (upd (upd (upd (S1.2.1 16) l (-(nI 41))) (l + 1) (nI b)) (l + 2) (-(nI c))) (l + 3) (nI a)), ?_, a2, ?_, ?_, ?_, ?_, ?_, ag_tr (ag_mono a3 (by decide) (by decide) (by decide)) (ag_sa (k := 16) (f := upd (upd (upd (upd (S1.2.1 16) l (-(nI 41))) (l + 1) (nI b)) (l + 2) (-(nI c))) (l + 3) (nI a)) (by decide))⟩
  · rw [rl_b (by omega) hD hc hs hf]
    rcases h45 with ⟨q, rfl⟩ | ⟨q, rfl⟩
    · rw [show S.2.1 2 f = nI 4 from q]
      exact key
    · rw [show S.2.1 2 f = nI 5 from q]
      exact key
  · show upd (upd (upd (upd (S1.2.1 16) l (-(nI 41))) (l + 1) (nI b)) (l + 2) (-(nI c))) (l + 3) (nI a) l = _
    rw [up_o (by omega), up_o (by omega), up_o (by omega), up_s]
  · show upd (upd (upd (upd (S1.2.1 16) l (-(nI 41))) (l + 1) (nI b)) (l + 2) (-(nI c))) (l + 3) (nI a) (l + 1) = _
    rw [up_o (by omega), up_o (by omega), up_s]
  · show upd (upd (upd (upd (S1.2.1 16) l (-(nI 41))) (l + 1) (nI b)) (l + 2) (-(nI c))) (l + 3) (nI a) (l + 2) = _
    rw [up_o (by omega), up_s]
  · show upd (upd (upd (upd (S1.2.1 16) l (-(nI 41))) (l + 1) (nI b)) (l + 2) (-(nI c))) (l + 3) (nI a) (l + 3) = _
    rw [up_s]
  · intro i hi
    show upd (upd (upd (upd (S1.2.1 16) l (-(nI 41))) (l + 1) (nI b)) (l + 2) (-(nI c))) (l + 3) (nI a) i = _
    rw [up_o (by omega), up_o (by omega), up_o (by omega), up_o (by omega), a3.2.1 16 (by decide)]
/-- a text is told, from stack k down to stack l -/
def rl_R (N : Nat) (z : Nat → Nat) (T D : List Int32) (k l fuel : Nat) (S : mq_St) : Prop :=
  ∃ S', tr S' (D ++ T) ∧ ag [2] [1, 16] [] S S' ∧ ((400 ≤ (D ++ T).length ∧ zf_X11_tell_29 N z fuel (nI k) S = some (nI 400, S')) ∨
    ((D ++ T).length < 400 ∧ (∀ i, i < l → S'.2.1 16 i = S.2.1 16 i) ∧ ∃ fuel', fuel + D.length ≤ fuel' + (D ++ T).length ∧ zf_X11_tell_29 N z fuel (nI k) S = zf_X11_tell_29 N z fuel' (nI l) S'))
/-- one turn -/
theorem rl_turn {T : List Int32} {k : Nat} {S1 : mq_St} (hT : 1 ≤ T.length) (hD : D.length < 400) (hfu : 401 ≤ fu + 1 + D.length) (E : zf_X11_tell_29 N z (fu + 1) (nI k) S = zf_X11_tell_29 N z fu (nI l) S1) (hc : tr S1 (D ++ T)) (hk : ∀ i, i < l → i < m → S1.2.1 16 i = S.2.1 16 i) (g : ag [2] [1, 16] [] S S1) (hm : l ≤ m) : rl_R N z T D k l (fu + 1) S := by
  have l1 : (D ++ T).length = D.length + T.length := List.length_append
  by_cases hF : 400 ≤ (D ++ T).length
  · obtain ⟨q, rfl⟩ : ∃ q, fu = q + 1 := ⟨fu - 1, by omega⟩
    exact ⟨S1, hc, g, Or.inl ⟨hF, E.trans (rl_full _ hF hc)⟩⟩
  · exact ⟨S1, hc, g, Or.inr ⟨by omega, fun i hi => hk i hi (by omega), fu, by omega, E⟩⟩
/-- a turn that pushes, and what follows -/
theorem rl_first {T0 T : List Int32} {k j : Nat} {S1 : mq_St} (hT : 1 ≤ T0.length) (hD : D.length < 400) (hfu : 401 ≤ fu + 1 + D.length) (E : zf_X11_tell_29 N z (fu + 1) (nI k) S = zf_X11_tell_29 N z fu (nI j) S1) (hc : tr S1 (D ++ T0)) (hk : ∀ i, i < l → S1.2.1 16 i = S.2.1 16 i) (g : ag [2] [1, 16] [] S S1) (hr : (D ++ T0).length < 400 → 401 ≤ fu + (D ++ T0).length → rl_R N z T (D ++ T0) j l fu S1) : rl_R N z (T0 ++ T) D k l (fu + 1) S := by
  have l1 : (D ++ T0).length = D.length + T0.length := List.length_append
  unfold rl_R
  rw [← List.append_assoc]
  by_cases hF : 400 ≤ (D ++ T0).length
  · obtain ⟨q, rfl⟩ : ∃ q, fu = q + 1 := ⟨fu - 1, by omega⟩
    exact ⟨S1, tr_more hc hF, g, Or.inl ⟨wr_len hF, E.trans (rl_full _ hF hc)⟩⟩
  · obtain ⟨S2, b1, b2, b3⟩ := hr (by omega) (by omega)
    refine ⟨S2, b1, ag_tr g b2, ?_⟩
    rcases b3 with ⟨d1, d2⟩ | ⟨d1, d2, fu2, d3, d4⟩
    · exact Or.inl ⟨d1, E.trans d2⟩
    · exact Or.inr ⟨d1, fun i hi => (d2 i hi).trans (hk i hi), fu2, by omega, E.trans d4⟩
/-- one text behind another -/
theorem rl_seq {T1 T2 : List Int32} {k j : Nat} (hll : l ≤ j) (h1 : rl_R N z T1 D k j fu S) (hk : ∀ S1 fu1, tr S1 (D ++ T1) → ag [2] [1, 16] [] S S1 → (D ++ T1).length < 400 → (∀ i, i < j → S1.2.1 16 i = S.2.1 16 i) → fu + D.length ≤ fu1 + (D ++ T1).length → rl_R N z T2 (D ++ T1) j l fu1 S1) : rl_R N z (T1 ++ T2) D k l fu S := by
  obtain ⟨S1, a1, a2, a3⟩ := h1
  unfold rl_R
  rw [← List.append_assoc]
  rcases a3 with ⟨c1, c2⟩ | ⟨c1, c2, fu1, c3, c4⟩
  · exact ⟨S1, tr_more a1 c1, a2, Or.inl ⟨wr_len c1, c2⟩⟩
  · obtain ⟨S2, b1, b2, b3⟩ := hk S1 fu1 a1 a2 c1 c2 c3
    refine ⟨S2, b1, ag_tr a2 b2, ?_⟩
    rcases b3 with ⟨d1, d2⟩ | ⟨d1, d2, fu2, d3, d4⟩
    · exact Or.inl ⟨d1, c4.trans d2⟩
    · exact Or.inr ⟨d1, fun i hi => (d2 i hi).trans (c2 i (by omega)), fu2, by omega, c4.trans d4⟩
/-- a sign from the stack -/
theorem rl_sig {c : Nat} (hc0 : 0 < c) (hc1 : c < 300) (hl : l < 2000) (hD : D.length < 400) (hc : tr S D) (hs : S.2.1 16 l = -(nI c)) (hfu : 401 ≤ fu + D.length) : rl_R N z [nI c] D (l + 1) l fu S := by
  obtain ⟨fu, rfl⟩ : ∃ q, fu = q + 1 := ⟨fu - 1, by omega⟩
  obtain ⟨S1, a1, a2, a3⟩ := rf_tells (N := N) (z := z) (nI c) hc
  have E := rl_sign (N := N) (z := z) (fu := fu) hc0 hc1 hl hD hc hs
  rw [a1, mq_cl_s] at E
  exact rl_turn (m := l) (Nat.le_refl 1) hD hfu E a2 (fun i _ _ => by rw [a3.2.1 16 (by decide)]) (ag_mono a3 (by decide) (by decide) (by decide)) (Nat.le_refl _)
theorem rl_all {d : Nat → Nat} (hw : fw n so on tw d) : ∀ f, f < n → ∀ (S : mq_St) (D : List Int32) (l fu : Nat), S.2.1 2 = so → S.2.1 3 = on → S.2.1 4 = tw → S.2.1 16 l = nI f → l + 4 * (f + 1) ≤ 1990 → tr S D → D.length < 400 → 401 ≤ fu + D.length → rl_R N z (tx so on tw f) D (l + 1) l fu S := by
  intro f
  induction f using Nat.strongRecOn with
  | ind f ih =>
    intro hf S D l fuel hso hon htw hs hl hc hD hfu
    have h3 := hw.2.1
    obtain ⟨fu, rfl⟩ : ∃ q, fuel = q + 1 := ⟨fuel - 1, by omega⟩
    have hb := rl_b (N := N) (z := z) (fu := fu) (l := l) (f := f) (by omega) hD hc hs (by omega)
    rw [hso, hon] at hb
    rcases hw.2.2.2.2 f hf with ⟨-, s0, -⟩ | ⟨-, s0, -⟩ | ⟨hs', -⟩ | ⟨h45, a, b, ha, hb', w1, w2, -⟩ | ⟨h67, -, -, a, ha, w1, -⟩
    · obtain ⟨S1, a1, a2, a3⟩ := rf_tells (N := N) (z := z) 84 hc
      have E := hb
      rw [if_pos (show so f = nI 0 from s0), show zf_X11_tells N z (nI 84) S = some ((), S1) from a1, mq_cl_s] at E
      rw [tx_0 s0]
      exact rl_turn (m := l) (Nat.le_refl 1) hD hfu E a2 (fun i _ _ => by rw [a3.2.1 16 (by decide)]) (ag_mono a3 (by decide) (by decide) (by decide)) (Nat.le_refl _)
    · obtain ⟨S1, a1, a2, a3⟩ := rf_tells (N := N) (z := z) 70 hc
      have E := hb
      rw [s0, if_neg (by decide), if_pos (by decide), show zf_X11_tells N z (nI 70) S = some ((), S1) from a1, mq_cl_s] at E
      rw [tx_1 s0]
      exact rl_turn (m := l) (Nat.le_refl 1) hD hfu E a2 (fun i _ _ => by rw [a3.2.1 16 (by decide)]) (ag_mono a3 (by decide) (by decide) (by decide)) (Nat.le_refl _)
    · rcases hs' with ⟨s0, -⟩ | ⟨s0, -⟩
      · obtain ⟨S1, a1, a2, a3⟩ := rf_tells (N := N) (z := z) (97 + on f) hc
        have E := hb
        rw [s0, if_neg (by decide), if_neg (by decide), if_pos (by decide), show zf_X11_tells N z (nI 97 + on f) S = some ((), S1) from a1, mq_cl_s] at E
        rw [tx_2 s0]
        exact rl_turn (m := l) (Nat.le_refl 1) hD hfu E a2 (fun i _ _ => by rw [a3.2.1 16 (by decide)]) (ag_mono a3 (by decide) (by decide) (by decide)) (Nat.le_refl _)
      · obtain ⟨S0, b1, b2, b3⟩ := rf_tells (N := N) (z := z) 33 hc
        obtain ⟨S1, a1, a2, a3⟩ := rf_tells (N := N) (z := z) (97 + on f) b2
        have E := hb
        rw [s0, if_neg (by decide), if_neg (by decide), if_neg (by decide), if_pos (by decide), show zf_X11_tells N z (nI 33) S = some ((), S0) from b1, mq_cl_s, show S0.2.1 3 f = on f from by rw [b3.2.1 3 (by decide), hon], show zf_X11_tells N z (nI 97 + on f) S0 = some ((), S1) from a1, mq_cl_s] at E
        rw [tx_3 s0]
        rw [List.append_assoc] at a2
        exact rl_turn (m := l) (Nat.le_succ 1) hD hfu E a2 (fun i _ _ => by rw [a3.2.1 16 (by decide), b3.2.1 16 (by decide)]) (ag_mono (ag_tr b3 a3) (by decide) (by decide) (by decide)) (Nat.le_refl _)
    · have h45' : so f = 4 ∨ so f = 5 := h45.elim (fun q => Or.inl q.1) (fun q => Or.inr q.1)
      obtain ⟨c, hc1, hc2⟩ : ∃ c : Nat, ((so f = 4 ∧ c = 38) ∨ (so f = 5 ∧ c = 124)) ∧ (if so f = 4 then 38 else 124) = nI c := by
        rcases h45' with q | q
        · exact ⟨38, Or.inl ⟨q, rfl⟩, by rw [q]; decide⟩
        · exact ⟨124, Or.inr ⟨q, rfl⟩, by rw [q]; decide⟩
      have hcb : 0 < c ∧ c < 300 := by rcases hc1 with ⟨-, q⟩ | ⟨-, q⟩ <;> omega
      obtain ⟨S1, p1, p2, p3, p4, p5, p6, p7, p8⟩ := rl_two (N := N) (z := z) (fu := fu) (l := l) (f := f) (c := c) (a := a) (b := b) (by omega) hD hc hs (by omega) (by rw [hso]; exact hc1) (by rw [hon]; exact w1) (by rw [htw]; exact w2)
      have hx : tx so on tw f = [40] ++ (tx so on tw a ++ ([nI c] ++ (tx so on tw b ++ [nI 41]))) := by
        rw [← hc2]
        exact tx_two hw hf h45' ha hb' w1 w2
      rw [hx]
      refine rl_first (Nat.le_refl 1) hD hfu p1 p2 p7 p8 (fun hD1 hf1 => ?_)
      have q2 := (p8.2.1 2 (by decide)).trans hso
      have q3 := (p8.2.1 3 (by decide)).trans hon
      have q4 := (p8.2.1 4 (by decide)).trans htw
      refine rl_seq (j := l + 3) (by omega) (ih a ha (by omega) S1 _ (l + 3) fu q2 q3 q4 p6 (by omega) p2 hD1 hf1) (fun S2 fu2 r1 r2 r3 r4 r5 => ?_)
      refine rl_seq (j := l + 2) (by omega) (rl_sig (c := c) hcb.1 hcb.2 (by omega) r3 r1 ((r4 (l + 2) (by omega)).trans p5) (by omega)) (fun S3 fu3 t1 t2 t3 t4 t5 => ?_)
      have g3 := ag_tr r2 t2
      refine rl_seq (j := l + 1) (by omega) (ih b hb' (by omega) S3 _ (l + 1) fu3 ((g3.2.1 2 (by decide)).trans q2) ((g3.2.1 3 (by decide)).trans q3) ((g3.2.1 4 (by decide)).trans q4) (((t4 (l + 1) (by omega)).trans (r4 (l + 1) (by omega))).trans p4) (by omega) t1 t3 (by omega)) (fun S4 fu4 u1 u2 u3 u4 u5 => ?_)
      exact rl_sig (c := 41) (by decide) (by decide) (by omega) u3 u1 ((((u4 l (by omega)).trans (t4 l (by omega))).trans (r4 l (by omega))).trans p3) (by omega)
    · have hP : ∃ P : List Int32, ((so f = 6 ∧ P = [91, 93]) ∨ (so f = 7 ∧ P = [60, 62])) ∧ tx so on tw f = P ++ tx so on tw a ∧ P.length = 2 := by
        rcases h67 with ⟨s0, -⟩ | ⟨s0, -⟩
        · exact ⟨[91, 93], Or.inl ⟨s0, rfl⟩, tx_need hw hf s0 ha w1, rfl⟩
        · exact ⟨[60, 62], Or.inr ⟨s0, rfl⟩, tx_may hw hf s0 ha w1, rfl⟩
      obtain ⟨P, hP1, hP2, hP3⟩ := hP
      obtain ⟨S1, p1, p2, p3, p4, p5⟩ := rl_one (N := N) (z := z) (fu := fu) (l := l) (f := f) (P := P) (a := a) (by omega) hD hc hs (by omega) (by rw [hso]; exact hP1) (by rw [hon]; exact w1)
      rw [hP2]
      refine rl_first (by omega) hD hfu p1 p2 (fun i hi => p4 i (by omega)) p5 (fun hD1 hf1 => ?_)
      exact ih a ha (by omega) S1 _ l fu ((p5.2.1 2 (by decide)).trans hso) ((p5.2.1 3 (by decide)).trans hon) ((p5.2.1 4 (by decide)).trans htw) p3 (by omega) p2 hD1 hf1
end RL

theorem rf_tell {N n f : Nat} {z : Nat → Nat} {S : mq_St} {d : Nat → Nat} (hN : 402 ≤ N) (hw : fw n (S.2.1 2) (S.2.1 3) (S.2.1 4) d) (hf : f < n) :
    ∃ S', zf_X11_tell_29 N z N (nI 1) (mq_sa (mq_si S 2 0) 16 (upd (S.2.1 16) 0 (nI f))) = some (nI (min (tx (S.2.1 2) (S.2.1 3) (S.2.1 4) f).length 400), S') ∧ tr S' (tx (S.2.1 2) (S.2.1 3) (S.2.1 4) f) ∧ ag [2] [1, 16] [] S S' := by
  have h3 := hw.2.1
  have g : ag [2] [1, 16] [] S (mq_sa (mq_si S 2 0) 16 (upd (S.2.1 16) 0 (nI f))) := ag_tr (ag_si (by decide)) (ag_sa (by decide))
  obtain ⟨S', a1, a2, a3⟩ := rl_all (N := N) (z := z) hw f hf (mq_sa (mq_si S 2 0) 16 (upd (S.2.1 16) 0 (nI f))) [] 0 N rfl rfl rfl (Eq.trans rfl (up_s (S.2.1 16) 0 (nI f))) (by omega) ⟨rfl, fun i hi => absurd hi (by show ¬ i < 0; omega)⟩ (by decide) (by show 401 ≤ N + 0; omega)
  rw [List.nil_append] at a1 a3
  refine ⟨S', ?_, a1, ag_tr g a2⟩
  rcases a3 with ⟨b1, b2⟩ | ⟨b1, b2, fu, b3, b4⟩
  · rw [show min (tx (S.2.1 2) (S.2.1 3) (S.2.1 4) f).length 400 = 400 from by omega]
    exact b2
  · have b3 : N ≤ fu + (tx (S.2.1 2) (S.2.1 3) (S.2.1 4) f).length := b3
    obtain ⟨q, rfl⟩ : ∃ q, fu = q + 1 := ⟨fu - 1, by omega⟩
    refine b4.trans ?_
    show zf_X11_tell_29b N z _ (nI 0) S' = _
    unfold zf_X11_tell_29b zf_X11_tell_311
    rw [if_pos (by decide : nI 0 ≤ 0), a1.1]
theorem fw_cong {n : Nat} {so on tw rs ro rt : Nat → Int32} {d : Nat → Nat} {P : Nat → Prop} (hw : fw n rs ro rt d) (hs : ∀ f, f < n → so f = rs f ∧ on f = ro f ∧ tw f = rt f ∧ P f) : fw n so on tw d := by
  obtain ⟨h1, h2, h3, h4, h5⟩ := hw
  refine ⟨h1, h2, fun f g hf hg a b c => h3 f g hf hg ?_ ?_ ?_, h4, fun f hf => ?_⟩
  · rw [← (hs f hf).1, ← (hs g hg).1]; exact a
  · rw [← (hs f hf).2.1, ← (hs g hg).2.1]; exact b
  · rw [← (hs f hf).2.2.1, ← (hs g hg).2.2.1]; exact c
  · have := h5 f hf
    rw [(hs f hf).1, (hs f hf).2.1, (hs f hf).2.2.1, (hs _ (h4 f hf)).1, (hs _ (h4 f hf)).2.1, (hs _ (h4 f hf)).2.2.1]
    exact this
theorem tx_cong {n : Nat} {so on tw rs ro rt : Nat → Int32} {d : Nat → Nat} {P : Nat → Prop} (hw : fw n rs ro rt d) (hs : ∀ f, f < n → so f = rs f ∧ on f = ro f ∧ tw f = rt f ∧ P f) : ∀ f, f < n → tx so on tw f = tx rs ro rt f := by
  have key : ∀ k f, f < n → txf so on tw k f = txf rs ro rt k f := by
    intro k
    induction k with
    | zero => intro f _; rfl
    | succ k ih =>
      intro f hf
      have h3 := hw.2.1
      unfold txf
      rw [(hs f hf).1, (hs f hf).2.1, (hs f hf).2.2.1]
      rcases hw.2.2.2.2 f hf with ⟨-, s0, -⟩ | ⟨-, s0, -⟩ | ⟨hs', -⟩ | ⟨-, a, b, ha, hb, w1, w2, -⟩ | ⟨hs', -, -, a, ha, w1, -⟩
      · rw [if_pos s0, if_pos s0]
      · have n0 : ¬ rs f = 0 := by rw [s0]; decide
        rw [if_neg n0, if_pos s0, if_neg n0, if_pos s0]
      · rcases hs' with ⟨s0, -⟩ | ⟨s0, -⟩
        · have n0 : ¬ rs f = 0 := by rw [s0]; decide
          have n1 : ¬ rs f = 1 := by rw [s0]; decide
          rw [if_neg n0, if_neg n1, if_pos s0, if_neg n0, if_neg n1, if_pos s0]
        · have n0 : ¬ rs f = 0 := by rw [s0]; decide
          have n1 : ¬ rs f = 1 := by rw [s0]; decide
          have n2 : ¬ rs f = 2 := by rw [s0]; decide
          rw [if_neg n0, if_neg n1, if_neg n2, if_pos s0, if_neg n0, if_neg n1, if_neg n2, if_pos s0]
      · rw [w1, w2, nI_clamp (by omega), nI_clamp (by omega), ih a (by omega), ih b (by omega)]
      · have n4 : ¬ rs f = 0 ∧ ¬ rs f = 1 ∧ ¬ rs f = 2 ∧ ¬ rs f = 3 := by rcases hs' with ⟨s0, -⟩ | ⟨s0, -⟩ <;> (rw [s0]; decide)
        rw [w1, nI_clamp (by omega), ih a (by omega)]
        rcases hs' with ⟨s0, -⟩ | ⟨s0, -⟩
        · rw [if_neg n4.1, if_neg n4.2.1, if_neg n4.2.2.1, if_neg n4.2.2.2, if_pos s0, if_neg n4.1, if_neg n4.2.1, if_neg n4.2.2.1, if_neg n4.2.2.2, if_pos s0]
        · have n6 : ¬ rs f = 6 := by rw [s0]; decide
          rw [if_neg n4.1, if_neg n4.2.1, if_neg n4.2.2.1, if_neg n4.2.2.2, if_neg n6, if_pos s0, if_neg n4.1, if_neg n4.2.1, if_neg n4.2.2.1, if_neg n4.2.2.2, if_neg n6, if_pos s0]
  exact fun f hf => key (f + 1) f hf
theorem st_tell {N n : Nat} {z : Nat → Nat} {SC SR : mq_St} {d : Nat → Nat} (v : Int32) (hN : 2000 ≤ N) (ht : iv_tape (SC.1 1) (SC.2.1 3) (SR.1 2) (SR.2.1 1)) (h : iv_fs n d (SC.1 2) (SC.2.1 4) (SC.2.1 5) (SC.2.1 6) (SC.2.1 7) (SC.2.1 0) (SC.2.1 1) (SR.1 3) (SR.2.1 2) (SR.2.1 3) (SR.2.1 4) (SR.2.1 5) (SR.2.1 6)) :
    ∃ r SC' SR', zf_X10_tell N z v SC = some (r, SC') ∧ zf_X11_tell N z v SR = some (r, SR') ∧ iv_tape (SC'.1 1) (SC'.2.1 3) (SR'.1 2) (SR'.2.1 1) ∧ ag [1, 13] [3, 15] [] SC SC' ∧ ag [0, 2] [1, 16] [] SR SR' := by
  obtain ⟨hc, hr, hw, hs, hsl⟩ := h
  have h3 := hw.2.1
  obtain ⟨t, h4, tc1, tr1, tb⟩ := ht
  unfold zf_X10_tell zf_X11_tell
  rw [nS_e, ck_has, rf_isF (S := mq_si SR 0 0) v hr h3, hc]
  rcases mq_place v (t := n) (by omega) with hv | ⟨f, hf, rfl, hv⟩
  · rw [if_pos hv, mq_cp_s, mq_cp_s, if_pos rfl, if_pos rfl]
    exact ⟨-1, SC, mq_si SR 0 0, rfl, rfl, ⟨t, h4, tc1, tr1, tb⟩, ag_rf, ag_si (by decide)⟩
  · have h10 : ¬ (1 : Int32) = 0 := by decide
    rw [if_neg hv, mq_cp_s, mq_cp_s, if_neg h10, if_neg h10]
    have hwC : fw n (SC.2.1 4) (SC.2.1 5) (SC.2.1 6) d := fw_cong hw hs
    obtain ⟨S1, a1, a2, a3⟩ := ck_write (N := N) (z := z) (f := f) (by omega) hwC hc hf tc1 h4
    obtain ⟨S2, b1, b2, b3⟩ := rf_tell (N := N) (z := z) (S := mq_si SR 0 0) (f := f) (by omega) hw hf
    have ex : tx (SC.2.1 4) (SC.2.1 5) (SC.2.1 6) f = tx (SR.2.1 2) (SR.2.1 3) (SR.2.1 4) f := tx_cong hw hs f hf
    rw [ex] at a2
    refine ⟨nI (min (tx (SR.2.1 2) (SR.2.1 3) (SR.2.1 4) f).length 400), S1, S2, ?_, ?_, ⟨min (tx (SR.2.1 2) (SR.2.1 3) (SR.2.1 4) f).length 400, by omega, a2.1, b2.1, fun i hi => (a2.2.2 i hi).trans (b2.2 i hi).symm⟩, a3, ag_tr (ag_si (by decide)) (ag_mono b3 (by decide) (by decide) (by decide))⟩
    · rw [a1, mq_cl_s, show zf_X0_size N z (mq_pull S1 [1] [3] []) = some (S1.1 1) from rfl, mq_cp_s, show S1.1 1 = _ from a2.1]
    · have e0 : ∀ k : Option (Int32 × mq_St), mq_ck 0 2000 k = k := fun k => by
        rw [L0]
        exact sp_ck (by omega) (by omega)
      rw [nS_e, e0, nS_e, nI_e, show (0 : Int32).toNatClampNeg = 0 from by decide, L1]
      exact b1
end
/-! 80.tree -/
section
/-! FORMULAS as trees (a tree type of Lean's own: num 0 T, num 1 F, var 2l a letter, var 2l+1 its opposite, add BOTH, sub EITHER, mulL NEED, mulR MAY); the table that making a tree leaves. -/
abbrev Tr : Type := Int.Internal.Linear.Expr
abbrev En : Type := Int32 × Int32 × Int32
def m1 (e : En) (L : List En) : Nat × List En := if e ∈ L then (L.idxOf e, L) else (L.length, L ++ [e])
def mk : Tr → List En → Nat × List En
  | .num v, L => (if v = 0 then 0 else 1, L)
  | .var i, L => m1 (nI (2 + i % 2), nI (i / 2), -1) L
  | .add a b, L => m1 (4, nI (mk a L).1, nI (mk b (mk a L).2).1) (mk b (mk a L).2).2
  | .sub a b, L => m1 (5, nI (mk a L).1, nI (mk b (mk a L).2).1) (mk b (mk a L).2).2
  | .neg a, L => mk a L
  | .mulL _ a, L => m1 (6, nI (mk a L).1, -1) (mk a L).2
  | .mulR a _, L => m1 (7, nI (mk a L).1, -1) (mk a L).2
def fl (i : Nat) : Nat := if i % 2 = 0 then i + 1 else i - 1
theorem fl_fl (i : Nat) : fl (fl i) = i := by
  unfold fl
  by_cases h : i % 2 = 0
  · rw [if_pos h, if_neg (by omega)]; omega
  · rw [if_neg h, if_pos (by omega)]; omega
theorem fl_lt {i : Nat} (h : i < 52) : fl i < 52 := by
  unfold fl
  split <;> omega
def du : Tr → Tr
  | .num v => .num (1 - v)
  | .var i => .var (fl i)
  | .add a b => .sub (du a) (du b)
  | .sub a b => .add (du a) (du b)
  | .neg a => .neg (du a)
  | .mulL k a => .mulR (du a) k
  | .mulR a k => .mulL k (du a)
def wf : Tr → Prop
  | .num v => v = 0 ∨ v = 1
  | .var i => i < 52
  | .add a b => wf a ∧ wf b
  | .sub a b => wf a ∧ wf b
  | .neg _ => False
  | .mulL k a => k = 0 ∧ wf a
  | .mulR a k => k = 0 ∧ wf a
theorem du_du : ∀ t : Tr, du (du t) = t
  | .num v => by
    show Int.Internal.Linear.Expr.num (1 - (1 - v)) = _
    congr 1
    omega
  | .var i => by
    show Int.Internal.Linear.Expr.var (fl (fl i)) = _
    rw [fl_fl]
  | .add a b => by show Int.Internal.Linear.Expr.add _ _ = _; rw [du_du a, du_du b]
  | .sub a b => by show Int.Internal.Linear.Expr.sub _ _ = _; rw [du_du a, du_du b]
  | .neg a => by show Int.Internal.Linear.Expr.neg _ = _; rw [du_du a]
  | .mulL k a => by show Int.Internal.Linear.Expr.mulL _ _ = _; rw [du_du a]
  | .mulR a k => by show Int.Internal.Linear.Expr.mulR _ _ = _; rw [du_du a]
theorem wf_du : ∀ t : Tr, wf t → wf (du t)
  | .num v, h => by
    have h : v = 0 ∨ v = 1 := h
    show 1 - v = 0 ∨ 1 - v = 1
    omega
  | .var i, h => fl_lt h
  | .add a b, h => ⟨wf_du a h.1, wf_du b h.2⟩
  | .sub a b, h => ⟨wf_du a h.1, wf_du b h.2⟩
  | .neg _, h => h.elim
  | .mulL _ a, h => ⟨h.1, wf_du a h.2⟩
  | .mulR a _, h => ⟨h.1, wf_du a h.2⟩
theorem m1_ext (e : En) (L : List En) : ∃ X, (m1 e L).2 = L ++ X ∧ X.length ≤ 1 := by
  unfold m1
  by_cases h : e ∈ L
  · rw [if_pos h]; exact ⟨[], (List.append_nil L).symm, by decide⟩
  · rw [if_neg h]; exact ⟨[e], rfl, Nat.le_refl _⟩
theorem m1_mem (e : En) (L : List En) : e ∈ (m1 e L).2 := by
  unfold m1
  by_cases h : e ∈ L
  · rw [if_pos h]; exact h
  · rw [if_neg h]; exact List.mem_append_right _ (List.mem_singleton.mpr rfl)
theorem m1_idx (e : En) (L : List En) : (m1 e L).1 = (m1 e L).2.idxOf e := by
  unfold m1
  by_cases h : e ∈ L
  · rw [if_pos h]
  · rw [if_neg h, List.idxOf_append, if_neg h]; simp
theorem m1_st (e : En) (L Y : List En) : m1 e ((m1 e L).2 ++ Y) = ((m1 e L).1, (m1 e L).2 ++ Y) := by
  have h := m1_mem e L
  have h2 := m1_idx e L
  rw [h2]
  generalize (m1 e L).2 = M at *
  unfold m1
  rw [if_pos (List.mem_append_left _ h), List.idxOf_append, if_pos h]
theorem mk_ext : ∀ (t : Tr) (L : List En), ∃ X, (mk t L).2 = L ++ X
  | .num v, L => ⟨[], (List.append_nil L).symm⟩
  | .var i, L => (m1_ext _ L).imp fun _ h => h.1
  | .add a b, L => by
    obtain ⟨X, h⟩ := mk_ext a L
    obtain ⟨Y, h2⟩ := mk_ext b (mk a L).2
    obtain ⟨Z, h3, -⟩ := m1_ext (4, nI (mk a L).1, nI (mk b (mk a L).2).1) (mk b (mk a L).2).2
    refine ⟨X ++ Y ++ Z, ?_⟩
    show (m1 _ _).2 = _
    rw [h3, h2, h]
    simp only [List.append_assoc]
  | .sub a b, L => by
    obtain ⟨X, h⟩ := mk_ext a L
    obtain ⟨Y, h2⟩ := mk_ext b (mk a L).2
    obtain ⟨Z, h3, -⟩ := m1_ext (5, nI (mk a L).1, nI (mk b (mk a L).2).1) (mk b (mk a L).2).2
    refine ⟨X ++ Y ++ Z, ?_⟩
    show (m1 _ _).2 = _
    rw [h3, h2, h]
    simp only [List.append_assoc]
  | .neg a, L => mk_ext a L
  | .mulL _ a, L => by
    obtain ⟨X, h⟩ := mk_ext a L
    obtain ⟨Z, h3, -⟩ := m1_ext (6, nI (mk a L).1, -1) (mk a L).2
    refine ⟨X ++ Z, ?_⟩
    show (m1 _ _).2 = _
    rw [h3, h]
    simp only [List.append_assoc]
  | .mulR a _, L => by
    obtain ⟨X, h⟩ := mk_ext a L
    obtain ⟨Z, h3, -⟩ := m1_ext (7, nI (mk a L).1, -1) (mk a L).2
    refine ⟨X ++ Z, ?_⟩
    show (m1 _ _).2 = _
    rw [h3, h]
    simp only [List.append_assoc]
theorem mk_st : ∀ (t : Tr) (L Y : List En), mk t ((mk t L).2 ++ Y) = ((mk t L).1, (mk t L).2 ++ Y)
  | .num v, L, Y => rfl
  | .var i, L, Y => m1_st _ L Y
  | .add a b, L, Y => by
    obtain ⟨X2, h2⟩ := mk_ext b (mk a L).2
    obtain ⟨X3, h3, -⟩ := m1_ext (4, nI (mk a L).1, nI (mk b (mk a L).2).1) (mk b (mk a L).2).2
    have i3 := m1_st (4, nI (mk a L).1, nI (mk b (mk a L).2).1) (mk b (mk a L).2).2 Y
    show m1 _ _ = _
    have e1 : (mk (.add a b) L).2 ++ Y = (mk a L).2 ++ (X2 ++ (X3 ++ Y)) := by
      show (m1 _ _).2 ++ Y = _
      rw [h3, h2]
      simp only [List.append_assoc]
    have e2 : (mk a L).2 ++ (X2 ++ (X3 ++ Y)) = (mk b (mk a L).2).2 ++ (X3 ++ Y) := by rw [h2, List.append_assoc]
    rw [e1, mk_st a L, e2, mk_st b (mk a L).2, ← List.append_assoc, ← h3]
    exact i3
  | .sub a b, L, Y => by
    obtain ⟨X2, h2⟩ := mk_ext b (mk a L).2
    obtain ⟨X3, h3, -⟩ := m1_ext (5, nI (mk a L).1, nI (mk b (mk a L).2).1) (mk b (mk a L).2).2
    have i3 := m1_st (5, nI (mk a L).1, nI (mk b (mk a L).2).1) (mk b (mk a L).2).2 Y
    show m1 _ _ = _
    have e1 : (mk (.sub a b) L).2 ++ Y = (mk a L).2 ++ (X2 ++ (X3 ++ Y)) := by
      show (m1 _ _).2 ++ Y = _
      rw [h3, h2]
      simp only [List.append_assoc]
    have e2 : (mk a L).2 ++ (X2 ++ (X3 ++ Y)) = (mk b (mk a L).2).2 ++ (X3 ++ Y) := by rw [h2, List.append_assoc]
    rw [e1, mk_st a L, e2, mk_st b (mk a L).2, ← List.append_assoc, ← h3]
    exact i3
  | .neg a, L, Y => mk_st a L Y
  | .mulL k a, L, Y => by
    obtain ⟨X3, h3, -⟩ := m1_ext (6, nI (mk a L).1, -1) (mk a L).2
    have i3 := m1_st (6, nI (mk a L).1, -1) (mk a L).2 Y
    show m1 _ _ = _
    have e1 : (mk (.mulL k a) L).2 ++ Y = (mk a L).2 ++ (X3 ++ Y) := by
      show (m1 _ _).2 ++ Y = _
      rw [h3]
      simp only [List.append_assoc]
    rw [e1, mk_st a L, ← List.append_assoc, ← h3]
    exact i3
  | .mulR a k, L, Y => by
    obtain ⟨X3, h3, -⟩ := m1_ext (7, nI (mk a L).1, -1) (mk a L).2
    have i3 := m1_st (7, nI (mk a L).1, -1) (mk a L).2 Y
    show m1 _ _ = _
    have e1 : (mk (.mulR a k) L).2 ++ Y = (mk a L).2 ++ (X3 ++ Y) := by
      show (m1 _ _).2 ++ Y = _
      rw [h3]
      simp only [List.append_assoc]
    rw [e1, mk_st a L, ← List.append_assoc, ← h3]
    exact i3
/-- the tree is there, with number k -/
def pr (t : Tr) (L : List En) (k : Nat) : Prop := mk t L = (k, L)
theorem pr_mk (t : Tr) (L : List En) : pr t (mk t L).2 (mk t L).1 := by
  have := mk_st t L []
  rw [List.append_nil] at this
  exact this
theorem pr_mono {t : Tr} {L : List En} {k : Nat} (h : pr t L k) (Y : List En) : pr t (L ++ Y) k := by
  have := mk_st t L Y
  unfold pr at h ⊢
  rw [h] at this
  exact this
theorem pr_fn {t : Tr} {L : List En} {k k' : Nat} (h : pr t L k) (h' : pr t L k') : k = k' := congrArg Prod.fst (h.symm.trans h')
theorem m1_eq {e : En} {L M : List En} {k : Nat} (h : m1 e M = (k, L)) (hl : L.length ≤ M.length) : M = L ∧ e ∈ L ∧ k = L.idxOf e := by
  obtain ⟨X, h1, -⟩ := m1_ext e M
  have hm := m1_mem e M
  have hi := m1_idx e M
  rw [h] at h1 hm hi
  have h1 : L = M ++ X := h1
  have hx : X = [] := by
    have := congrArg List.length h1
    rw [List.length_append] at this
    exact List.eq_nil_of_length_eq_zero (by omega)
  rw [hx, List.append_nil] at h1
  exact ⟨h1.symm, hm, hi⟩
theorem mk_len (t : Tr) (L : List En) : L.length ≤ (mk t L).2.length := by
  obtain ⟨X, h⟩ := mk_ext t L
  rw [h, List.length_append]; omega
theorem mk_of_len {t : Tr} {L : List En} (h : (mk t L).2.length ≤ L.length) : (mk t L).2 = L := by
  obtain ⟨X, e⟩ := mk_ext t L
  have hx : X = [] := by
    rw [e, List.length_append] at h
    exact List.eq_nil_of_length_eq_zero (by omega)
  rw [e, hx, List.append_nil]
/-- two parts, one part: what is there, there with its parts -/
theorem pr_add {a b : Tr} {L : List En} {k : Nat} : pr (.add a b) L k ↔ ∃ x y, pr a L x ∧ pr b L y ∧ (4, nI x, nI y) ∈ L ∧ k = L.idxOf (4, nI x, nI y) := by
  constructor
  · intro h
    have h : m1 (4, nI (mk a L).1, nI (mk b (mk a L).2).1) (mk b (mk a L).2).2 = (k, L) := h
    obtain ⟨h1, h2, h3⟩ := m1_eq h (Nat.le_trans (mk_len a L) (mk_len b _))
    have ea : (mk a L).2 = L := mk_of_len (by have := mk_len b (mk a L).2; rw [h1] at this; exact this)
    rw [ea] at h1 h2 h3
    exact ⟨(mk a L).1, (mk b L).1, by rw [pr, Prod.ext_iff]; exact ⟨rfl, ea⟩, by rw [pr, Prod.ext_iff]; exact ⟨rfl, h1⟩, h2, h3⟩
  · rintro ⟨x, y, ha, hb, he, hk⟩
    show m1 (4, nI (mk a L).1, nI (mk b (mk a L).2).1) (mk b (mk a L).2).2 = (k, L)
    rw [show mk a L = (x, L) from ha, show mk b L = (y, L) from hb]
    unfold m1
    rw [if_pos he, hk]
theorem pr_sub {a b : Tr} {L : List En} {k : Nat} : pr (.sub a b) L k ↔ ∃ x y, pr a L x ∧ pr b L y ∧ (5, nI x, nI y) ∈ L ∧ k = L.idxOf (5, nI x, nI y) := by
  constructor
  · intro h
    have h : m1 (5, nI (mk a L).1, nI (mk b (mk a L).2).1) (mk b (mk a L).2).2 = (k, L) := h
    obtain ⟨h1, h2, h3⟩ := m1_eq h (Nat.le_trans (mk_len a L) (mk_len b _))
    have ea : (mk a L).2 = L := mk_of_len (by have := mk_len b (mk a L).2; rw [h1] at this; exact this)
    rw [ea] at h1 h2 h3
    exact ⟨(mk a L).1, (mk b L).1, by rw [pr, Prod.ext_iff]; exact ⟨rfl, ea⟩, by rw [pr, Prod.ext_iff]; exact ⟨rfl, h1⟩, h2, h3⟩
  · rintro ⟨x, y, ha, hb, he, hk⟩
    show m1 (5, nI (mk a L).1, nI (mk b (mk a L).2).1) (mk b (mk a L).2).2 = (k, L)
    rw [show mk a L = (x, L) from ha, show mk b L = (y, L) from hb]
    unfold m1
    rw [if_pos he, hk]
theorem pr_mulL {a : Tr} {L : List En} {k : Nat} {c : Int} : pr (.mulL c a) L k ↔ ∃ x, pr a L x ∧ (6, nI x, -1) ∈ L ∧ k = L.idxOf (6, nI x, -1) := by
  constructor
  · intro h
    have h : m1 (6, nI (mk a L).1, -1) (mk a L).2 = (k, L) := h
    obtain ⟨h1, h2, h3⟩ := m1_eq h (mk_len a L)
    exact ⟨(mk a L).1, by rw [pr, Prod.ext_iff]; exact ⟨rfl, h1⟩, h2, h3⟩
  · rintro ⟨x, ha, he, hk⟩
    show m1 (6, nI (mk a L).1, -1) (mk a L).2 = (k, L)
    rw [show mk a L = (x, L) from ha]
    unfold m1
    rw [if_pos he, hk]
theorem pr_mulR {a : Tr} {L : List En} {k : Nat} {c : Int} : pr (.mulR a c) L k ↔ ∃ x, pr a L x ∧ (7, nI x, -1) ∈ L ∧ k = L.idxOf (7, nI x, -1) := by
  constructor
  · intro h
    have h : m1 (7, nI (mk a L).1, -1) (mk a L).2 = (k, L) := h
    obtain ⟨h1, h2, h3⟩ := m1_eq h (mk_len a L)
    exact ⟨(mk a L).1, by rw [pr, Prod.ext_iff]; exact ⟨rfl, h1⟩, h2, h3⟩
  · rintro ⟨x, ha, he, hk⟩
    show m1 (7, nI (mk a L).1, -1) (mk a L).2 = (k, L)
    rw [show mk a L = (x, L) from ha]
    unfold m1
    rw [if_pos he, hk]
theorem pr_var {i : Nat} {L : List En} {k : Nat} : pr (.var i) L k ↔ (nI (2 + i % 2), nI (i / 2), -1) ∈ L ∧ k = L.idxOf (nI (2 + i % 2), nI (i / 2), -1) := by
  constructor
  · intro h
    have h : m1 (nI (2 + i % 2), nI (i / 2), -1) L = (k, L) := h
    obtain ⟨-, h2, h3⟩ := m1_eq h (Nat.le_refl _)
    exact ⟨h2, h3⟩
  · rintro ⟨he, hk⟩
    show m1 (nI (2 + i % 2), nI (i / 2), -1) L = (k, L)
    unfold m1
    rw [if_pos he, hk]
theorem pr_num {v : Int} {L : List En} {k : Nat} : pr (.num v) L k ↔ k = if v = 0 then 0 else 1 := by
  constructor
  · intro h
    exact (congrArg Prod.fst h).symm
  · intro h
    rw [h]
    rfl
end
/-! 81.tree2 -/
section
/-! Trees: numbers tell them apart; subtrees; how many there are at least. -/
def ok0 (L : List En) : Prop := L[0]? = some ((0, -1, -1) : En) ∧ L[1]? = some ((1, -1, -1) : En)
theorem ok0_app {L : List En} (h : ok0 L) (X : List En) : ok0 (L ++ X) := by
  have h1 : 1 < L.length := (List.getElem?_eq_some_iff.mp h.2).1
  exact ⟨by rw [List.getElem?_append_left (by omega)]; exact h.1, by rw [List.getElem?_append_left h1]; exact h.2⟩
/-- the entry that a tree has -/
def ee (L : List En) : Tr → En
  | .num v => if v = 0 then (0, -1, -1) else (1, -1, -1)
  | .var i => (nI (2 + i % 2), nI (i / 2), -1)
  | .add a b => (4, nI (mk a L).1, nI (mk b L).1)
  | .sub a b => (5, nI (mk a L).1, nI (mk b L).1)
  | .neg _ => (9, -1, -1)
  | .mulL _ a => (6, nI (mk a L).1, -1)
  | .mulR a _ => (7, nI (mk a L).1, -1)
theorem ix_get {L : List En} {e : En} {k : Nat} (h : e ∈ L) (hk : k = L.idxOf e) : L[k]? = some e := by
  subst hk
  have hl := List.idxOf_lt_length_of_mem h
  rw [List.getElem?_eq_getElem hl, List.getElem_idxOf hl]
theorem pr_get : ∀ {t : Tr} {L : List En} {k : Nat}, wf t → ok0 L → pr t L k → L[k]? = some (ee L t)
  | .num v, L, k, w, h0, h => by
    rw [pr_num.mp h]
    show _ = some (if v = 0 then _ else _)
    by_cases e : v = 0
    · rw [if_pos e, if_pos e]; exact h0.1
    · rw [if_neg e, if_neg e]; exact h0.2
  | .var i, L, k, w, h0, h => ix_get (pr_var.mp h).1 (pr_var.mp h).2
  | .add a b, L, k, w, h0, h => by
    obtain ⟨x, y, ha, hb, he, hk⟩ := pr_add.mp h
    show _ = some (4, nI (mk a L).1, nI (mk b L).1)
    rw [show mk a L = (x, L) from ha, show mk b L = (y, L) from hb]
    exact ix_get he hk
  | .sub a b, L, k, w, h0, h => by
    obtain ⟨x, y, ha, hb, he, hk⟩ := pr_sub.mp h
    show _ = some (5, nI (mk a L).1, nI (mk b L).1)
    rw [show mk a L = (x, L) from ha, show mk b L = (y, L) from hb]
    exact ix_get he hk
  | .neg _, _, _, w, _, _ => w.elim
  | .mulL _ a, L, k, w, h0, h => by
    obtain ⟨x, ha, he, hk⟩ := pr_mulL.mp h
    show _ = some (6, nI (mk a L).1, -1)
    rw [show mk a L = (x, L) from ha]
    exact ix_get he hk
  | .mulR a _, L, k, w, h0, h => by
    obtain ⟨x, ha, he, hk⟩ := pr_mulR.mp h
    show _ = some (7, nI (mk a L).1, -1)
    rw [show mk a L = (x, L) from ha]
    exact ix_get he hk
theorem pr_lt {t : Tr} {L : List En} {k : Nat} (w : wf t) (h0 : ok0 L) (h : pr t L k) : k < L.length := (List.getElem?_eq_some_iff.mp (pr_get w h0 h)).1
/-- the sort of a tree -/
def ts : Tr → Nat
  | .num v => if v = 0 then 0 else 1
  | .var i => 2 + i % 2
  | .add _ _ => 4
  | .sub _ _ => 5
  | .neg _ => 9
  | .mulL _ _ => 6
  | .mulR _ _ => 7
theorem ee_1 (L : List En) : ∀ t : Tr, (ee L t).1 = nI (ts t)
  | .num v => by
    show (if v = 0 then _ else _ : En).1 = nI (if v = 0 then 0 else 1)
    by_cases e : v = 0
    · rw [if_pos e, if_pos e]; rfl
    · rw [if_neg e, if_neg e]; rfl
  | .var i => rfl
  | .add _ _ => rfl
  | .sub _ _ => rfl
  | .neg _ => rfl
  | .mulL _ _ => rfl
  | .mulR _ _ => rfl
theorem ts_n (t : Tr) : (ts t = 0 ∨ ts t = 1 → ∃ v, t = .num v) ∧ (ts t = 2 ∨ ts t = 3 → ∃ i, t = .var i) ∧ (ts t = 4 → ∃ a b, t = .add a b) ∧ (ts t = 5 → ∃ a b, t = .sub a b) ∧ (ts t = 6 → ∃ k a, t = .mulL k a) ∧ (ts t = 7 → ∃ a k, t = .mulR a k) := by
  have hv : ∀ i : Nat, ts (.var i) = 2 + i % 2 := fun _ => rfl
  have hm : ∀ v : Int, ts (.num v) = 0 ∨ ts (.num v) = 1 := fun v => by
    show (if v = 0 then 0 else 1) = 0 ∨ (if v = 0 then 0 else 1) = 1
    split
    · exact Or.inl rfl
    · exact Or.inr rfl
  cases t with
  | num v => have := hm v; exact ⟨fun _ => ⟨v, rfl⟩, fun h => by omega, fun h => by omega, fun h => by omega, fun h => by omega, fun h => by omega⟩
  | var i => have := hv i; exact ⟨fun h => by omega, fun _ => ⟨i, rfl⟩, fun h => by omega, fun h => by omega, fun h => by omega, fun h => by omega⟩
  | add a b => simp [ts]
  | sub a b => simp [ts]
  | neg a => simp [ts]
  | mulL k a => simp [ts]
  | mulR a k => simp [ts]
theorem ts_lt (t : Tr) : ts t < 10 := by
  have hv : ∀ i : Nat, ts (.var i) = 2 + i % 2 := fun _ => rfl
  cases t with
  | num v => show (if v = 0 then 0 else 1) < 10; split <;> omega
  | var i => have := hv i; omega
  | _ => simp [ts]
theorem vr_eq {i j : Nat} (hi : i < 52) (hj : j < 52) (e : nI (i / 2) = nI (j / 2)) (s : 2 + i % 2 = 2 + j % 2) : i = j := by
  have := sp_inj e (by omega) (by omega)
  omega
theorem pr_inj {L : List En} (h0 : ok0 L) (hl : L.length < 2147483648) : ∀ {a b : Tr} {k : Nat}, wf a → wf b → pr a L k → pr b L k → a = b := by
  have key : ∀ {a b : Tr} {k : Nat}, wf a → wf b → pr a L k → pr b L k → ee L a = ee L b ∧ ts a = ts b := fun {a b k} wa wb pa pb => by
    have e := Option.some.inj ((pr_get wa h0 pa).symm.trans (pr_get wb h0 pb))
    refine ⟨e, ?_⟩
    have es : nI (ts a) = nI (ts b) := by rw [← ee_1 L, ← ee_1 L, e]
    have := ts_lt a
    have := ts_lt b
    exact sp_inj es (by omega) (by omega)
  have inj : ∀ {a b : Tr} {x y : Nat}, wf a → wf b → pr a L x → pr b L y → nI (mk a L).1 = nI (mk b L).1 → x = y := by
    intro a b x y wa wb pa pb e
    rw [show mk a L = (x, L) from pa, show mk b L = (y, L) from pb] at e
    have := pr_lt wa h0 pa
    have := pr_lt wb h0 pb
    exact sp_inj e (by omega) (by omega)
  intro a
  induction a with
  | num v =>
    intro b k wa wb pa pb
    obtain ⟨e, es⟩ := key wa wb pa pb
    have hv : v = 0 ∨ v = 1 := wa
    obtain ⟨u, rfl⟩ := (ts_n b).1 (by
      rw [← es]
      show (if v = 0 then 0 else 1) = 0 ∨ (if v = 0 then 0 else 1) = 1
      split
      · exact Or.inl rfl
      · exact Or.inr rfl)
    have hu : u = 0 ∨ u = 1 := wb
    have es : (if v = 0 then 0 else 1) = (if u = 0 then 0 else 1) := es
    rcases hv with rfl | rfl <;> rcases hu with rfl | rfl <;> first | rfl | exact absurd es (by decide)
  | var i =>
    intro b k wa wb pa pb
    obtain ⟨e, es⟩ := key wa wb pa pb
    have hv : ∀ i : Nat, ts (.var i) = 2 + i % 2 := fun _ => rfl
    obtain ⟨j, rfl⟩ := (ts_n b).2.1 (by have := hv i; omega)
    have e2 : nI ((i : Nat) / 2) = nI ((j : Nat) / 2) := congrArg (fun q : En => q.2.1) e
    exact congrArg Int.Internal.Linear.Expr.var (vr_eq wa wb e2 es)
  | add a1 a2 ih1 ih2 =>
    intro b k wa wb pa pb
    obtain ⟨e, es⟩ := key wa wb pa pb
    obtain ⟨b1, b2, rfl⟩ := (ts_n b).2.2.1 es.symm
    obtain ⟨x, y, p1, p2, -⟩ := pr_add.mp pa
    obtain ⟨x', y', q1, q2, -⟩ := pr_add.mp pb
    have ex := inj wa.1 wb.1 p1 q1 (congrArg (fun q : En => q.2.1) e)
    have ey := inj wa.2 wb.2 p2 q2 (congrArg (fun q : En => q.2.2) e)
    rw [ih1 wa.1 wb.1 p1 (ex ▸ q1), ih2 wa.2 wb.2 p2 (ey ▸ q2)]
  | sub a1 a2 ih1 ih2 =>
    intro b k wa wb pa pb
    obtain ⟨e, es⟩ := key wa wb pa pb
    obtain ⟨b1, b2, rfl⟩ := (ts_n b).2.2.2.1 es.symm
    obtain ⟨x, y, p1, p2, -⟩ := pr_sub.mp pa
    obtain ⟨x', y', q1, q2, -⟩ := pr_sub.mp pb
    have ex := inj wa.1 wb.1 p1 q1 (congrArg (fun q : En => q.2.1) e)
    have ey := inj wa.2 wb.2 p2 q2 (congrArg (fun q : En => q.2.2) e)
    rw [ih1 wa.1 wb.1 p1 (ex ▸ q1), ih2 wa.2 wb.2 p2 (ey ▸ q2)]
  | neg _ _ => intro b k wa; exact wa.elim
  | mulL c a1 ih1 =>
    intro b k wa wb pa pb
    obtain ⟨e, es⟩ := key wa wb pa pb
    obtain ⟨c', b1, rfl⟩ := (ts_n b).2.2.2.2.1 es.symm
    obtain ⟨x, p1, -⟩ := pr_mulL.mp pa
    obtain ⟨x', q1, -⟩ := pr_mulL.mp pb
    have ex := inj wa.2 wb.2 p1 q1 (congrArg (fun q : En => q.2.1) e)
    rw [ih1 wa.2 wb.2 p1 (ex ▸ q1), wa.1, wb.1]
  | mulR a1 c ih1 =>
    intro b k wa wb pa pb
    obtain ⟨e, es⟩ := key wa wb pa pb
    obtain ⟨b1, c', rfl⟩ := (ts_n b).2.2.2.2.2 es.symm
    obtain ⟨x, p1, -⟩ := pr_mulR.mp pa
    obtain ⟨x', q1, -⟩ := pr_mulR.mp pb
    have ex := inj wa.2 wb.2 p1 q1 (congrArg (fun q : En => q.2.1) e)
    rw [ih1 wa.2 wb.2 p1 (ex ▸ q1), wa.1, wb.1]
/-- the subtrees -/
def sb : Tr → List Tr
  | .num v => [.num v]
  | .var i => [.var i]
  | .add a b => .add a b :: (sb a ++ sb b)
  | .sub a b => .sub a b :: (sb a ++ sb b)
  | .neg a => .neg a :: sb a
  | .mulL k a => .mulL k a :: sb a
  | .mulR a k => .mulR a k :: sb a
theorem sb_self (t : Tr) : t ∈ sb t := by cases t <;> exact List.mem_cons_self
theorem sb_du : ∀ t : Tr, sb (du t) = (sb t).map du
  | .num _ => rfl
  | .var _ => rfl
  | .add a b => by show _ :: (sb (du a) ++ sb (du b)) = _; rw [sb_du a, sb_du b, ← List.map_append]; rfl
  | .sub a b => by show _ :: (sb (du a) ++ sb (du b)) = _; rw [sb_du a, sb_du b, ← List.map_append]; rfl
  | .neg a => by show _ :: sb (du a) = _; rw [sb_du a]; rfl
  | .mulL _ a => by show _ :: sb (du a) = _; rw [sb_du a]; rfl
  | .mulR a _ => by show _ :: sb (du a) = _; rw [sb_du a]; rfl
theorem pr_sb {L : List En} : ∀ {t : Tr} {k : Nat}, wf t → pr t L k → ∀ s ∈ sb t, ∃ j, pr s L j
  | .num v, k, _, h, s, hs => by rw [List.mem_singleton.mp hs]; exact ⟨k, h⟩
  | .var i, k, _, h, s, hs => by rw [List.mem_singleton.mp hs]; exact ⟨k, h⟩
  | .add a b, k, w, h, s, hs => by
    obtain ⟨x, y, ha, hb, -⟩ := pr_add.mp h
    rcases List.mem_cons.mp hs with e | hs
    · rw [e]; exact ⟨k, h⟩
    · rcases List.mem_append.mp hs with hs | hs
      · exact pr_sb w.1 ha s hs
      · exact pr_sb w.2 hb s hs
  | .sub a b, k, w, h, s, hs => by
    obtain ⟨x, y, ha, hb, -⟩ := pr_sub.mp h
    rcases List.mem_cons.mp hs with e | hs
    · rw [e]; exact ⟨k, h⟩
    · rcases List.mem_append.mp hs with hs | hs
      · exact pr_sb w.1 ha s hs
      · exact pr_sb w.2 hb s hs
  | .neg _, _, w, _, _, _ => w.elim
  | .mulL _ a, k, w, h, s, hs => by
    obtain ⟨x, ha, -⟩ := pr_mulL.mp h
    rcases List.mem_cons.mp hs with e | hs
    · rw [e]; exact ⟨k, h⟩
    · exact pr_sb w.2 ha s hs
  | .mulR a _, k, w, h, s, hs => by
    obtain ⟨x, ha, -⟩ := pr_mulR.mp h
    rcases List.mem_cons.mp hs with e | hs
    · rw [e]; exact ⟨k, h⟩
    · exact pr_sb w.2 ha s hs
/-- nodes of the draft: T, letters, BOTH, NEED -/
def po : Tr → Bool
  | .num v => v == 0
  | .var i => i % 2 == 0
  | .add _ _ => true
  | .sub _ _ => false
  | .neg _ => true
  | .mulL _ _ => true
  | .mulR _ _ => false
theorem po_du : ∀ {t : Tr}, wf t → po t = true → po (du t) = false
  | .num v, w, h => by
    have h : (v == 0) = true := h
    show (1 - v == 0) = false
    have : v = 0 := by simpa using h
    rw [this]; decide
  | .var i, w, h => by
    have hf : ∀ n : Nat, (n % 2 == 0) = true → (fl n % 2 == 0) = false := fun n h => by
      have h : n % 2 = 0 := by simpa using h
      unfold fl
      rw [if_pos h]
      have : (n + 1) % 2 = 1 := by omega
      rw [this]; decide
    exact hf i h
  | .add _ _, _, _ => rfl
  | .sub a b, _, h => absurd h (by show ¬ false = true; decide)
  | .neg _, w, _ => w.elim
  | .mulL _ _, _, _ => rfl
  | .mulR a k, _, h => absurd h (by show ¬ false = true; decide)
theorem pigeon : ∀ (n : Nat) (l : List Nat), l.Nodup → (∀ x ∈ l, x < n) → l.length ≤ n
  | 0, [], _, _ => Nat.le_refl _
  | 0, x :: l, _, h => absurd (h x List.mem_cons_self) (by omega)
  | n + 1, l, hn, h => by
    have h1 := pigeon n (l.erase n) (hn.erase n) (fun x hx => by
      have a := h x (List.mem_of_mem_erase hx)
      have b : x ≠ n := fun e => by rw [e] at hx; exact hn.not_mem_erase hx
      omega)
    by_cases e : n ∈ l
    · rw [List.length_erase_of_mem e] at h1; omega
    · rw [List.erase_of_not_mem e] at h1; omega
theorem nd_map {α β : Type} {f : α → β} : ∀ {l : List α}, l.Nodup → (∀ x ∈ l, ∀ y ∈ l, f x = f y → x = y) → (l.map f).Nodup
  | [], _, _ => List.nodup_nil
  | a :: l, hn, h => by
    rw [List.map_cons, List.nodup_cons]
    refine ⟨fun hm => ?_, nd_map (List.nodup_cons.mp hn).2 (fun x hx y hy => h x (List.mem_cons_of_mem _ hx) y (List.mem_cons_of_mem _ hy))⟩
    obtain ⟨y, hy, e⟩ := List.mem_map.mp hm
    have := h y (List.mem_cons_of_mem _ hy) a List.mem_cons_self e
    rw [this] at hy
    exact (List.nodup_cons.mp hn).1 hy
/-- nodes, all of them there with their denials: as many entries and more -/
theorem many {L : List En} (h0 : ok0 L) (hl : L.length < 2147483648) {W : List Tr} (hn : W.Nodup) (hp : ∀ w ∈ W, po w = true ∧ wf w ∧ (∃ k, pr w L k) ∧ ∃ k, pr (du w) L k) : 2 * W.length ≤ L.length := by
  have hZ : (W ++ W.map du).Nodup := by
    rw [List.nodup_append]
    refine ⟨hn, nd_map hn (fun x _ y _ e => by rw [← du_du x, e, du_du]), fun a ha b hb e => ?_⟩
    obtain ⟨y, hy, ey⟩ := List.mem_map.mp hb
    have h1 := (hp a ha).1
    rw [e, ← ey, po_du (hp y hy).2.1 (hp y hy).1] at h1
    exact absurd h1 (by decide)
  have hwp : ∀ s ∈ W ++ W.map du, wf s ∧ pr s L (mk s L).1 := by
    intro s hs
    rcases List.mem_append.mp hs with hs | hs
    · obtain ⟨-, w, ⟨k, q⟩, -⟩ := hp s hs
      exact ⟨w, by rw [show mk s L = (k, L) from q]; exact q⟩
    · obtain ⟨y, hy, ey⟩ := List.mem_map.mp hs
      obtain ⟨-, w, -, k, q⟩ := hp y hy
      rw [← ey]
      exact ⟨wf_du y w, by rw [show mk (du y) L = (k, L) from q]; exact q⟩
  have := pigeon L.length ((W ++ W.map du).map (fun s => (mk s L).1)) (nd_map hZ (fun x hx y hy e => by
    obtain ⟨w1, p1⟩ := hwp x hx
    obtain ⟨w2, p2⟩ := hwp y hy
    have e : (mk x L).1 = (mk y L).1 := e
    rw [← e] at p2
    exact pr_inj h0 hl w1 w2 p1 p2)) (fun k hk => by
    obtain ⟨s, hs, e⟩ := List.mem_map.mp hk
    obtain ⟨w1, p1⟩ := hwp s hs
    rw [← e]
    exact pr_lt w1 h0 p1)
  rw [List.length_map, List.length_append, List.length_map] at this
  omega
end
/-! 82.sets -/
section
/-! Sets: rows of bits, five longs to a row. -/
def lb (w : Nat → Int64) (r f : Nat) : Bool := (w (5 * r + f / 64)).toBitVec.getLsbD (f % 64)
theorem l_one : ∀ j, j < 64 → ∀ i, i < 64 → (mq_lshl 1 (nI j)).toBitVec.getLsbD i = decide (i = j) := by decide +kernel
theorem l_u : ∀ n, n < 64 → (((nI n).toInt64.toUInt64 &&& Int64.toUInt64 63).toBitVec % 64).toNat = n := by decide +kernel
theorem l_ushr (n : Nat) (hn : n < 64) (x : Int64) (i : Nat) : (mq_lushr x (nI n)).toBitVec.getLsbD i = x.toBitVec.getLsbD (n + i) := by
  show (x.toUInt64 >>> ((nI n).toInt64.toUInt64 &&& Int64.toUInt64 63)).toBitVec.getLsbD i = x.toUInt64.toBitVec.getLsbD (n + i)
  rw [UInt64.toBitVec_shiftRight]
  show (x.toUInt64.toBitVec >>> (((nI n).toInt64.toUInt64 &&& Int64.toUInt64 63).toBitVec % 64).toNat).getLsbD i = _
  rw [l_u n hn, BitVec.getLsbD_ushiftRight]
theorem l_m1 : ∀ i, i < 64 → (-1 : Int64).toBitVec.getLsbD i = true := by decide +kernel
theorem l_1 : ∀ i, i < 64 → (1 : Int64).toBitVec.getLsbD i = decide (i = 0) := by decide +kernel
theorem l_ext {x y : Int64} (h : ∀ i, i < 64 → x.toBitVec.getLsbD i = y.toBitVec.getLsbD i) : x = y := Int64.toBitVec_inj.mp (BitVec.eq_of_getLsbD_eq (fun i hi => h i hi))
theorem l_bit (x : Int64) {n : Nat} (hn : n < 64) : (mq_lushr x (nI n) &&& 1 = 0) ↔ x.toBitVec.getLsbD n = false := by
  constructor
  · intro h
    have := congrArg (fun q : Int64 => q.toBitVec.getLsbD 0) h
    simp only [Int64.toBitVec_and, BitVec.getLsbD_and, l_ushr n hn, l_1 0 (by omega)] at this
    simpa using this
  · intro h
    apply l_ext
    intro i hi
    rw [Int64.toBitVec_and, BitVec.getLsbD_and, l_ushr n hn, l_1 i hi]
    by_cases e : i = 0
    · subst e
      rw [Nat.add_zero, h]
      simp
    · rw [decide_eq_false e]; simp
theorem st_num6 {f : Nat} (hf : f < 320) : (nI f >>> ((6 : Int32) &&& 31) = nI (f / 64)) ∧ (nI f &&& 63 = nI (f % 64)) := by
  constructor
  · have := pk_shrN (n := f) (by omega) ((6 : Int32) &&& 31) 6 (by decide)
    simpa using this
  · have := pk_andN (n := f) (by omega) (m := 63) 6 (by decide)
    simpa using this
section SETS
variable {N R : Nat} {z : Nat → Nat} {S : mq_St} {r f : Nat}
theorem se_pl (hz : z 0 = 5 * R) (hR : R < 10000) (hr : r < R) (hf : f < 320) : zf_X6_isPlace N z (nI r) (nI f) S = some 1 := by
  unfold zf_X6_isPlace
  have e : Int32.ofNat (z 0) / 5 = nI R := by
    rw [hz]
    show nI (5 * R) / nI 5 = nI R
    rw [pk_div (by omega) (by omega) (by omega)]
    congr 1
    omega
  have e320 : ¬ (320 : Int32) ≤ nI f := nI_ge (a := f) (b := 320) hf (by omega)
  rw [e, if_neg (nI_pos (by omega)), if_neg e320, if_neg (nI_pos (by omega)), if_neg (nI_ge hr (by omega)), mq_cz_1]
theorem se_ix (hf : f < 320) : (nI r * 5 + nI f >>> ((6 : Int32) &&& 31)) = nI (5 * r + f / 64) := by
  rw [(st_num6 hf).1, show (5 : Int32) = nI 5 from rfl, pk_mul, nI_add]
  congr 1
  omega
theorem se_has (hz : z 0 = 5 * R) (hR : R < 10000) (hr : r < R) (hf : f < 320) : zf_X6_has N z (nI r) (nI f) S = some (if lb (S.2.2 0) r f = true then 1 else 0) := by
  unfold zf_X6_has
  have hi : 5 * r + f / 64 < 5 * R := by omega
  rw [se_pl hz hR hr hf, mq_cp_s, if_neg (by decide), se_ix hf, hz, mq_ck_of (vp_in_nI hi (by omega)), nI_clamp (by omega), (st_num6 hf).2]
  unfold lb
  cases h : (S.2.2 0 (5 * r + f / 64)).toBitVec.getLsbD (f % 64) with
  | false =>
    rw [if_pos ((lg_cmp_eq _ _).mpr ((l_bit _ (by omega)).mpr h)), mq_cz_0]
    rfl
  | true =>
    rw [if_neg (fun q => by rw [(l_bit _ (by omega)).mp ((lg_cmp_eq _ _).mp q)] at h; cases h), mq_cz_1]
    rfl
theorem lb_upd {w : Nat → Int64} {x : Int64} {r' f' : Nat} (hf : f < 320) (hf' : f' < 320) : lb (vp_updL w (5 * r + f / 64) x) r' f' = if r' = r ∧ f' / 64 = f / 64 then x.toBitVec.getLsbD (f' % 64) else lb w r' f' := by
  unfold lb
  by_cases h : r' = r ∧ f' / 64 = f / 64
  · rw [if_pos h, h.1, h.2, ul_s]
  · rw [if_neg h, ul_o (fun e => h (by omega))]
theorem se_put (hz : z 0 = 5 * R) (hR : R < 10000) (hr : r < R) (hf : f < 320) : ∃ w', zf_X6_put N z (nI r) (nI f) S = some ((), mq_sl S 0 w') ∧ ∀ r' f', f' < 320 → lb w' r' f' = (lb (S.2.2 0) r' f' || decide (r' = r ∧ f' = f)) := by
  have hi : 5 * r + f / 64 < 5 * R := by omega
  refine ⟨vp_updL (S.2.2 0) (5 * r + f / 64) (S.2.2 0 (5 * r + f / 64) ||| mq_lshl 1 (nI (f % 64))), ?_, fun r' f' hf' => ?_⟩
  · unfold zf_X6_put
    rw [se_pl hz hR hr hf, mq_cp_s, if_neg (by decide), se_ix hf, hz, mq_ck_of (vp_in_nI hi (by omega)), mq_ck_of (vp_in_nI hi (by omega)), nI_clamp (by omega), (st_num6 hf).2, nS_e]
  · rw [lb_upd hf hf']
    by_cases h : r' = r ∧ f' / 64 = f / 64
    · rw [if_pos h, Int64.toBitVec_or, BitVec.getLsbD_or, l_one (f % 64) (by omega) (f' % 64) (by omega)]
      obtain ⟨rfl, h2⟩ := h
      unfold lb
      rw [h2]
      congr 1
      rw [decide_eq_decide]
      constructor
      · intro e; exact ⟨rfl, by omega⟩
      · rintro ⟨-, e⟩; rw [e]
    · rw [if_neg h, decide_eq_false (fun q => h ⟨q.1, by rw [q.2]⟩), Bool.or_false]
theorem se_drop (hz : z 0 = 5 * R) (hR : R < 10000) (hr : r < R) (hf : f < 320) : ∃ w', zf_X6_drop N z (nI r) (nI f) S = some ((), mq_sl S 0 w') ∧ ∀ r' f', f' < 320 → lb w' r' f' = (lb (S.2.2 0) r' f' && !decide (r' = r ∧ f' = f)) := by
  have hi : 5 * r + f / 64 < 5 * R := by omega
  refine ⟨vp_updL (S.2.2 0) (5 * r + f / 64) (S.2.2 0 (5 * r + f / 64) &&& (mq_lshl 1 (nI (f % 64)) ^^^ (-1))), ?_, fun r' f' hf' => ?_⟩
  · unfold zf_X6_drop
    rw [se_pl hz hR hr hf, mq_cp_s, if_neg (by decide), se_ix hf, hz, mq_ck_of (vp_in_nI hi (by omega)), mq_ck_of (vp_in_nI hi (by omega)), nI_clamp (by omega), (st_num6 hf).2, nS_e]
  · rw [lb_upd hf hf']
    by_cases h : r' = r ∧ f' / 64 = f / 64
    · rw [if_pos h, Int64.toBitVec_and, BitVec.getLsbD_and, Int64.toBitVec_xor, BitVec.getLsbD_xor, l_one (f % 64) (by omega) (f' % 64) (by omega), l_m1 (f' % 64) (by omega), Bool.xor_true]
      obtain ⟨rfl, h2⟩ := h
      unfold lb
      rw [h2]
      congr 2
      rw [decide_eq_decide]
      constructor
      · intro e; exact ⟨rfl, by omega⟩
      · rintro ⟨-, e⟩; rw [e]
    · rw [if_neg h, decide_eq_false (fun q => h ⟨q.1, by rw [q.2]⟩), Bool.not_false, Bool.and_true]
end SETS
end
/-! 83.stock -/
section
/-! The table on both sides: making one FORMULA. -/
def tbC (S : mq_St) (L : List En) : Prop := S.1 2 = nI L.length ∧ L.length ≤ 300 ∧ (∀ f, f < L.length → L[f]? = some (S.2.1 4 f, S.2.1 5 f, S.2.1 6 f)) ∧ (∀ s f, s < 8 → f < 320 → lb (S.2.2 0) s f = decide (f < L.length ∧ S.2.1 4 f = nI s)) ∧ ∀ f, f < L.length → ∃ k : Nat, k < 8 ∧ S.2.1 4 f = nI k
def tbR (S : mq_St) (L : List En) : Prop := S.1 3 = nI L.length ∧ L.length ≤ 300 ∧ ∀ f, f < L.length → L[f]? = some (S.2.1 2 f, S.2.1 3 f, S.2.1 4 f)
theorem ix_first {L : List En} {e : En} {k : Nat} (h : ∀ j, j < k → L[j]? ≠ some e) (hk : L[k]? = some e) : e ∈ L ∧ L.idxOf e = k := by
  have hm : e ∈ L := List.mem_of_getElem? hk
  refine ⟨hm, ?_⟩
  have hl := List.idxOf_lt_length_of_mem hm
  have hg : L[L.idxOf e]? = some e := by rw [List.getElem?_eq_getElem hl, List.getElem_idxOf hl]
  rcases Nat.lt_trichotomy (L.idxOf e) k with q | q | q
  · exact absurd hg (h _ q)
  · exact q
  · have hk' := (List.getElem?_eq_some_iff.mp hk)
    obtain ⟨h1, h2⟩ := hk'
    exfalso
    have := List.not_of_lt_findIdx (p := (· == e)) (xs := L) (i := k) q
    rw [h2] at this
    simp at this
theorem ix_none {L : List En} {e : En} (h : ∀ j, j < L.length → L[j]? ≠ some e) : ¬ e ∈ L := fun hm => by
  obtain ⟨i, hi⟩ := List.getElem?_of_mem hm
  exact h i (List.getElem?_eq_some_iff.mp hi).1 hi
theorem en_eq {a b c s x y : Int32} : (a, b, c) = ((s, x, y) : En) ↔ a = s ∧ b = x ∧ c = y := by
  rw [Prod.mk.injEq, Prod.mk.injEq]
theorem ck_find3 {N : Nat} {z : Nat → Nat} {S : mq_St} {L : List En} {s a b : Int32} (h : tbC S L) : ∀ (fuel k : Nat), k ≤ L.length → L.length - k < fuel → (∀ j, j < k → L[j]? ≠ some (s, a, b)) → zf_X7_find_3 N z S fuel s a b (nI k) = some (if (s, a, b) ∈ L then nI (L.idxOf (s, a, b)) else -1) := by
  obtain ⟨h1, h2, h3, -⟩ := h
  intro fuel
  induction fuel with
  | zero => intro k _ h; omega
  | succ fuel ih =>
    intro k hk hf hj
    show zf_X7_find_3b N z S _ s a b (nI k) = _
    unfold zf_X7_find_3b zf_X7_find_48
    rw [h1]
    by_cases e : k = L.length
    · subst e
      rw [if_pos (nI_le (Nat.le_refl _) (by omega)), if_neg (ix_none hj)]
    · have hin : vp_in (nI k) 300 := vp_in_nI (by omega) (by omega)
      have ecl : (nI k).toNatClampNeg = k := nI_clamp (by omega)
      rw [if_neg (nI_ge (a := k) (b := L.length) (by omega) (by omega))]
      simp only [mq_ck_of hin, ecl, mq_nI, nI_1]
      have hk3 := h3 k (by omega)
      have go : ¬ (S.2.1 4 k = s ∧ S.2.1 5 k = a ∧ S.2.1 6 k = b) → zf_X7_find_3 N z S fuel s a b (nI (k + 1)) = some (if (s, a, b) ∈ L then nI (L.idxOf (s, a, b)) else -1) := fun q => ih (k + 1) (by omega) (by omega) (fun j hj' => by
        by_cases ej : j = k
        · rw [ej, hk3]
          exact fun e => q (en_eq.mp (Option.some.inj e))
        · exact hj j (by omega))
      by_cases q1 : S.2.1 4 k = s
      · rw [if_pos q1]
        by_cases q2 : S.2.1 5 k = a
        · rw [if_pos q2]
          by_cases q3 : S.2.1 6 k = b
          · rw [if_pos q3]
            rw [q1, q2, q3] at hk3
            obtain ⟨m, i⟩ := ix_first hj hk3
            rw [if_pos m, i]
          · rw [if_neg q3]
            exact go (fun q => q3 q.2.2)
        · rw [if_neg q2]
          exact go (fun q => q2 q.2.1)
      · rw [if_neg q1]
        exact go (fun q => q1 q.1)
theorem ck_find {N : Nat} {z : Nat → Nat} {S : mq_St} {L : List En} {s a b : Int32} (hN : 400 ≤ N) (h : tbC S L) : zf_X7_find N z s a b S = some (if (s, a, b) ∈ L then nI (L.idxOf (s, a, b)) else -1) := by
  have := h.2.1
  exact ck_find3 h N 0 (by omega) (by omega) (fun j hj => by omega)
theorem ck_append {N k : Nat} {z : Nat → Nat} {S : mq_St} {L : List En} {a b : Int32} (h : tbC S L) (hk : k < 8) (hl : L.length < 300) : ∃ S', zf_X7_append N z (nI k) a b S = some (nI L.length, S') ∧ tbC S' (L ++ [(nI k, a, b)]) ∧ ag [2] [4, 5, 6, 7] [0] S S' ∧ (∀ f, f < L.length → S'.2.1 7 f = S.2.1 7 f) ∧ S'.2.1 7 L.length = -1 := by
  obtain ⟨h1, h2, h3, h4, h5⟩ := h
  unfold zf_X7_append
  have hin : vp_in (nI L.length) 300 := vp_in_nI (by omega) (by omega)
  have ecl : (nI L.length).toNatClampNeg = L.length := nI_clamp (by omega)
  have e300 : nI L.length < (300 : Int32) := nI_lt (a := L.length) (b := 300) hl (by omega)
  rw [h1, if_pos e300, nI_e, nI_1]
  simp only [mq_ck_of hin, ecl, nS_e]
  obtain ⟨w', p1, p2⟩ := se_put (N := N) (R := 8) (z := fun k => [40].getD k 0) (S := mq_pull (mq_sa (mq_sa (mq_sa (mq_sa (mq_si S 2 (nI (L.length + 1))) 4 (upd (S.2.1 4) L.length (nI k))) 5 (upd (S.2.1 5) L.length a)) 6 (upd (S.2.1 6) L.length b)) 7 (upd (S.2.1 7) L.length (-1))) [] [] [0]) (r := k) (f := L.length) rfl (by omega) hk (by omega)
  refine ⟨mq_push (mq_sa (mq_sa (mq_sa (mq_sa (mq_si S 2 (nI (L.length + 1))) 4 (upd (S.2.1 4) L.length (nI k))) 5 (upd (S.2.1 5) L.length a)) 6 (upd (S.2.1 6) L.length b)) 7 (upd (S.2.1 7) L.length (-1))) (mq_sl (mq_pull (mq_sa (mq_sa (mq_sa (mq_sa (mq_si S 2 (nI (L.length + 1))) 4 (upd (S.2.1 4) L.length (nI k))) 5 (upd (S.2.1 5) L.length a)) 6 (upd (S.2.1 6) L.length b)) 7 (upd (S.2.1 7) L.length (-1))) [] [] [0]) 0 w') [] [] [0], ?_, ⟨?_, ?_, ?_, ?_, ?_⟩, ?_, ?_, ?_⟩
  · have p1' : zf_X6_put N (fun k => [40].getD k 0) (nI k) (nI L.length) (mq_pull (mq_sa (mq_sa (mq_sa (mq_sa (mq_si S 2 (nI (L.length + 1))) 4 (upd (S.2.1 4) L.length (nI k))) 5 (upd (S.2.1 5) L.length a)) 6 (upd (S.2.1 6) L.length b)) 7 (upd (S.2.1 7) L.length (-1))) [] [] [0]) = _ := p1
    exact (congrArg (fun q => mq_cl q _) p1').trans rfl
  · show nI (L.length + 1) = nI (L ++ [_]).length
    rw [List.length_append]; rfl
  · rw [List.length_append]; show L.length + 1 ≤ 300; omega
  · intro f hf
    rw [List.length_append] at hf
    have hf : f < L.length + 1 := hf
    show _ = some (upd (S.2.1 4) L.length (nI k) f, upd (S.2.1 5) L.length a f, upd (S.2.1 6) L.length b f)
    by_cases e : f = L.length
    · rw [e, up_s, up_s, up_s, List.getElem?_append_right (Nat.le_refl _), Nat.sub_self]; rfl
    · rw [up_o e, up_o e, up_o e, List.getElem?_append_left (by omega)]
      exact h3 f (by omega)
  · intro s f hs hf
    show lb w' s f = decide (f < (L ++ [_]).length ∧ upd (S.2.1 4) L.length (nI k) f = nI s)
    rw [p2 s f hf, List.length_append]
    show (lb (S.2.2 0) s f || _) = decide (f < L.length + 1 ∧ _)
    rw [h4 s f hs hf]
    by_cases e : f = L.length
    · subst e
      rw [up_s, decide_eq_false (by omega), Bool.false_or, decide_eq_decide]
      constructor
      · rintro ⟨q, -⟩; exact ⟨by omega, by rw [q]⟩
      · rintro ⟨-, q⟩; exact ⟨(sp_inj q (by omega) (by omega)).symm, rfl⟩
    · rw [up_o e, decide_eq_false (fun q : s = k ∧ f = L.length => e q.2), Bool.or_false, decide_eq_decide]
      constructor
      · rintro ⟨q, q2⟩; exact ⟨by omega, q2⟩
      · rintro ⟨q, q2⟩; exact ⟨by omega, q2⟩
  · intro f hf
    rw [List.length_append] at hf
    have hf : f < L.length + 1 := hf
    show ∃ q : Nat, q < 8 ∧ upd (S.2.1 4) L.length (nI k) f = nI q
    by_cases e : f = L.length
    · rw [e, up_s]; exact ⟨k, hk, rfl⟩
    · rw [up_o e]; exact h5 f (by omega)
  · refine ag_tr ?_ (ag_mono ag_push (by decide) (by decide) (by decide))
    refine ag_tr ?_ (ag_sa (by decide))
    refine ag_tr ?_ (ag_sa (by decide))
    refine ag_tr ?_ (ag_sa (by decide))
    refine ag_tr ?_ (ag_sa (by decide))
    exact ag_si (by decide)
  · intro f hf
    exact up_o (by omega)
  · exact up_s _ _ _
theorem ck_make {N k : Nat} {z : Nat → Nat} {S : mq_St} {L : List En} {a b : Int32} (hN : 400 ≤ N) (h : tbC S L) (hk : k < 8) :
    ((m1 (nI k, a, b) L).2.length ≤ 300 → ∃ S', zf_X7_make N z (nI k) a b S = some (nI (m1 (nI k, a, b) L).1, S') ∧ tbC S' (m1 (nI k, a, b) L).2 ∧ ag [2] [4, 5, 6, 7] [0] S S' ∧ ∀ f, f < L.length → S'.2.1 7 f = S.2.1 7 f) ∧
    (300 < (m1 (nI k, a, b) L).2.length → zf_X7_make N z (nI k) a b S = some (-1, S)) := by
  have hl := h.2.1
  unfold zf_X7_make m1
  rw [ck_find hN h, mq_cp_s, nI_e]
  by_cases e : (nI k, a, b) ∈ L
  · have hi := List.idxOf_lt_length_of_mem e
    rw [if_pos e, if_pos e, if_neg (nI_nm1 (by omega))]
    exact ⟨fun _ => ⟨S, rfl, h, ag_rf, fun _ _ => rfl⟩, fun q => absurd q (by show ¬ 300 < L.length; omega)⟩
  · rw [if_neg e, if_neg e, if_pos rfl]
    refine ⟨fun q => ?_, fun q => ?_⟩
    · have q : L.length + 1 ≤ 300 := by rw [List.length_append] at q; exact q
      obtain ⟨S', a1, a2, a3, a4, -⟩ := ck_append (N := N) (z := z) (a := a) (b := b) h hk (by omega)
      exact ⟨S', by rw [a1, mq_cl_s], a2, a3, a4⟩
    · have q : 300 < L.length + 1 := by rw [List.length_append] at q; exact q
      unfold zf_X7_append
      have e300 : ¬ nI L.length < (300 : Int32) := nI_nlt (a := L.length) (b := 300) (by omega) (by omega)
      rw [h.1, if_neg e300, mq_cl_s]
theorem rf_make3 {N : Nat} {z : Nat → Nat} {S : mq_St} {L : List En} {s a b : Int32} (h : tbR S L) : ∀ (fuel k : Nat), k ≤ L.length → L.length - k < fuel → (∀ j, j < k → L[j]? ≠ some (s, a, b)) →
    ((m1 (s, a, b) L).2.length ≤ 300 → ∃ S', zf_X11_make_3 N z fuel s a b (nI k) S = some (nI (m1 (s, a, b) L).1, S') ∧ tbR S' (m1 (s, a, b) L).2 ∧ ag [3] [2, 3, 4] [] S S') ∧
    (300 < (m1 (s, a, b) L).2.length → zf_X11_make_3 N z fuel s a b (nI k) S = some (0, mq_si S 6 1)) := by
  have hall := h
  obtain ⟨h1, h2, h3⟩ := h
  intro fuel
  induction fuel with
  | zero => intro k _ h; omega
  | succ fuel ih =>
    intro k hk hf hj
    have hsh : zf_X11_make_3 N z (fuel + 1) s a b (nI k) S = zf_X11_make_3b N z (fun v1 v2 v3 v4 S => zf_X11_make_3 N z fuel v1 v2 v3 v4 S) s a b (nI k) S := rfl
    rw [hsh]
    unfold zf_X11_make_3b zf_X11_make_48
    rw [h1]
    by_cases e : k = L.length
    · subst e
      have hno := ix_none hj
      unfold m1
      rw [if_pos (nI_le (Nat.le_refl _) (by omega)), if_neg hno]
      refine ⟨fun q => ?_, fun q => ?_⟩
      · have q : L.length + 1 ≤ 300 := by rw [List.length_append] at q; exact q
        have e300 : ¬ nI L.length = (300 : Int32) := fun e => by have := sp_inj (b := 300) e (by omega) (by omega); omega
        have hin : vp_in (nI L.length) 300 := vp_in_nI (by omega) (by omega)
        have ecl : (nI L.length).toNatClampNeg = L.length := nI_clamp (by omega)
        rw [if_neg e300]
        refine ⟨mq_si (mq_sa (mq_sa (mq_sa S 2 (upd (S.2.1 2) L.length s)) 3 (upd (S.2.1 3) L.length a)) 4 (upd (S.2.1 4) L.length b)) 3 (nI (L.length + 1)), ?_, ⟨?_, ?_, ?_⟩, ?_⟩
        · simp only [mq_ck_of hin, ecl, nS_e, sa_1, h1, sa_2, si_1, if_pos, nI_1, nI_pred]
          rfl
        · show nI (L.length + 1) = nI (L ++ [_]).length
          rw [List.length_append]; rfl
        · rw [List.length_append]; exact q
        · intro f hf
          rw [List.length_append] at hf
          have hf : f < L.length + 1 := hf
          show _ = some (upd (S.2.1 2) L.length s f, upd (S.2.1 3) L.length a f, upd (S.2.1 4) L.length b f)
          by_cases e : f = L.length
          · rw [e, up_s, up_s, up_s, List.getElem?_append_right (Nat.le_refl _), Nat.sub_self]; rfl
          · rw [up_o e, up_o e, up_o e, List.getElem?_append_left (by omega)]
            exact h3 f (by omega)
        · refine ag_tr ?_ (ag_si (by decide))
          refine ag_tr ?_ (ag_sa (by decide))
          refine ag_tr ?_ (ag_sa (by decide))
          exact ag_sa (by decide)
      · have q : 300 < L.length + 1 := by rw [List.length_append] at q; exact q
        have e300 : L.length = 300 := by omega
        rw [e300, if_pos (by decide : nI 300 = 300), mq_cz_1, nS_e]
    · have hin : vp_in (nI k) 300 := vp_in_nI (by omega) (by omega)
      have ecl : (nI k).toNatClampNeg = k := nI_clamp (by omega)
      rw [if_neg (nI_ge (a := k) (b := L.length) (by omega) (by omega))]
      simp only [mq_ck_of hin, ecl, mq_nI, nI_1]
      have hk3 := h3 k (by omega)
      have go := fun (q : ¬ (S.2.1 2 k = s ∧ S.2.1 3 k = a ∧ S.2.1 4 k = b)) => ih (k + 1) (by omega) (by omega) (fun j hj' => by
        by_cases ej : j = k
        · rw [ej, hk3]
          exact fun e => q (en_eq.mp (Option.some.inj e))
        · exact hj j (by omega))
      by_cases q1 : S.2.1 2 k = s
      · rw [if_pos q1]
        by_cases q2 : S.2.1 3 k = a
        · rw [if_pos q2]
          by_cases q3 : S.2.1 4 k = b
          · rw [if_pos q3]
            rw [q1, q2, q3] at hk3
            obtain ⟨m, i⟩ := ix_first hj hk3
            unfold m1
            rw [if_pos m, i]
            exact ⟨fun _ => ⟨S, rfl, hall, ag_rf⟩, fun q => absurd q (by show ¬ 300 < L.length; omega)⟩
          · rw [if_neg q3]
            exact go (fun q => q3 q.2.2)
        · rw [if_neg q2]
          exact go (fun q => q2 q.2.1)
      · rw [if_neg q1]
        exact go (fun q => q1 q.1)
theorem rf_mk {N : Nat} {z : Nat → Nat} {S : mq_St} {L : List En} {s a b : Int32} (hN : 400 ≤ N) (h : tbR S L) :
    ((m1 (s, a, b) L).2.length ≤ 300 → ∃ S', zf_X11_make N z s a b S = some (nI (m1 (s, a, b) L).1, S') ∧ tbR S' (m1 (s, a, b) L).2 ∧ ag [3] [2, 3, 4] [] S S') ∧
    (300 < (m1 (s, a, b) L).2.length → zf_X11_make N z s a b S = some (0, mq_si S 6 1)) := by
  have := h.2.1
  exact rf_make3 h N 0 (by omega) (by omega) (fun j hj => by omega)
end
/-! 84.draft -/
section
/-! The draft: nodes as trees, marks as trees or their denials. -/
def mt (W : List Tr) (m : Nat) (t : Tr) : Prop := W[m / 2]? = some (if m % 2 = 0 then t else du t)
def ent (W : List Tr) (i : Nat) (k v2 v3 : Int32) (t : Tr) : Prop :=
  (k = 0 ∧ v2 = -1 ∧ v3 = -1 ∧ t = .num 0) ∨
  (∃ l : Nat, l < 26 ∧ k = 2 ∧ v2 = nI l ∧ v3 = -1 ∧ t = .var (2 * l)) ∨
  (∃ (m n : Nat) (a b : Tr), k = 4 ∧ v2 = nI m ∧ v3 = nI n ∧ t = .add a b ∧ mt W m a ∧ mt W n b ∧ m / 2 < i ∧ n / 2 < i) ∨
  (∃ (m : Nat) (a : Tr), k = 6 ∧ v2 = nI m ∧ v3 = -1 ∧ t = .mulL 0 a ∧ mt W m a ∧ m / 2 < i)
def dft (S : mq_St) (W : List Tr) : Prop := S.1 3 = nI (min W.length 150) ∧ S.1 4 = (if W.length ≤ 150 then 0 else 1) ∧ W.length ≤ 151 ∧ W[0]? = some (.num 0) ∧ W.Nodup ∧ (∀ w ∈ W, wf w ∧ po w = true) ∧ (∀ i t, i < 150 → W[i]? = some t → ent W i (S.2.1 8 i) (S.2.1 9 i) (S.2.1 10 i) t) ∧ ∀ j, j < 2 * min W.length 150 → S.2.1 11 j = -1
theorem dft_c {S S' : mq_St} {W : List Tr} (h : dft S W) (e3 : S'.1 3 = S.1 3) (e4 : S'.1 4 = S.1 4) (e8 : S'.2.1 8 = S.2.1 8) (e9 : S'.2.1 9 = S.2.1 9) (e10 : S'.2.1 10 = S.2.1 10) (e11 : S'.2.1 11 = S.2.1 11) : dft S' W := by
  unfold dft
  rw [e3, e4, e8, e9, e10, e11]
  exact h
theorem mt_app {W : List Tr} {m : Nat} {t : Tr} (h : mt W m t) (X : List Tr) : mt (W ++ X) m t := by
  have := (List.getElem?_eq_some_iff.mp h).1
  unfold mt
  rw [List.getElem?_append_left this]
  exact h
theorem mt_lt {W : List Tr} {m : Nat} {t : Tr} (h : mt W m t) : m / 2 < W.length := (List.getElem?_eq_some_iff.mp h).1
theorem mt_fn {W : List Tr} {m : Nat} {t u : Tr} (h : mt W m t) (h' : mt W m u) : t = u := by
  have e := Option.some.inj (h.symm.trans h')
  by_cases q : m % 2 = 0
  · rw [if_pos q, if_pos q] at e; exact e
  · rw [if_neg q, if_neg q] at e
    rw [← du_du t, e, du_du]
theorem nd_ix {α : Type} : ∀ {W : List α}, W.Nodup → ∀ {i j : Nat} {t : α}, W[i]? = some t → W[j]? = some t → i = j
  | [], _, i, j, t, hi, _ => by cases hi
  | a :: W, h, 0, 0, t, hi, hj => rfl
  | a :: W, h, 0, j + 1, t, hi, hj => by
    have e : a = t := Option.some.inj hi
    have hm : t ∈ W := List.mem_of_getElem? (i := j) hj
    rw [← e] at hm
    exact absurd hm (List.nodup_cons.mp h).1
  | a :: W, h, i + 1, 0, t, hi, hj => by
    have e : a = t := Option.some.inj hj
    have hm : t ∈ W := List.mem_of_getElem? (i := i) hi
    rw [← e] at hm
    exact absurd hm (List.nodup_cons.mp h).1
  | a :: W, h, i + 1, j + 1, t, hi, hj => congrArg (· + 1) (nd_ix (W := W) (List.nodup_cons.mp h).2 (i := i) (j := j) hi hj)
theorem mt_inj {W : List Tr} (hn : W.Nodup) (hp : ∀ w ∈ W, wf w ∧ po w = true) {m n : Nat} {t : Tr} (h : mt W m t) (h' : mt W n t) : m = n := by
  have p1 := hp _ (List.mem_of_getElem? h)
  have p2 := hp _ (List.mem_of_getElem? h')
  unfold mt at h h'
  by_cases q : m % 2 = 0
  · by_cases q' : n % 2 = 0
    · rw [if_pos q] at h
      rw [if_pos q'] at h'
      have := nd_ix hn h h'
      omega
    · rw [if_pos q] at p1
      rw [if_neg q', po_du p1.1 p1.2] at p2
      exact absurd p2.2 (by decide)
  · by_cases q' : n % 2 = 0
    · rw [if_pos q'] at p2
      rw [if_neg q, po_du p2.1 p2.2] at p1
      exact absurd p1.2 (by decide)
    · rw [if_neg q] at h
      rw [if_neg q'] at h'
      have := nd_ix hn h h'
      omega
/-- the same three numbers, the same tree -/
theorem ent_iff {W : List Tr} (hn : W.Nodup) (hp : ∀ w ∈ W, wf w ∧ po w = true) (hl : W.length ≤ 151) {i j : Nat} {k v2 v3 k' v2' v3' : Int32} {t t' : Tr} (h : ent W i k v2 v3 t) (h' : ent W j k' v2' v3' t') : (k = k' ∧ v2 = v2' ∧ v3 = v3') ↔ t = t' := by
  rcases h with ⟨rfl, rfl, rfl, rfl⟩ | ⟨l, hl1, rfl, rfl, rfl, rfl⟩ | ⟨m, n, a, b, rfl, rfl, rfl, rfl, ma, mb, -⟩ | ⟨m, a, rfl, rfl, rfl, rfl, ma, -⟩ <;>
  rcases h' with ⟨rfl, rfl, rfl, rfl⟩ | ⟨l', hl', rfl, rfl, rfl, rfl⟩ | ⟨m', n', a', b', rfl, rfl, rfl, rfl, ma', mb', -⟩ | ⟨m', a', rfl, rfl, rfl, rfl, ma', -⟩
  · exact ⟨fun _ => rfl, fun _ => ⟨rfl, rfl, rfl⟩⟩
  · exact ⟨fun q => absurd q.1 (by decide), fun q => by cases q⟩
  · exact ⟨fun q => absurd q.1 (by decide), fun q => by cases q⟩
  · exact ⟨fun q => absurd q.1 (by decide), fun q => by cases q⟩
  · exact ⟨fun q => absurd q.1 (by decide), fun q => by cases q⟩
  · refine ⟨fun q => ?_, fun q => ?_⟩
    · rw [sp_inj q.2.1 (by omega) (by omega)]
    · have : 2 * l = 2 * l' := Int.Internal.Linear.Expr.var.inj q
      have : l = l' := by omega
      rw [this]
      exact ⟨rfl, rfl, rfl⟩
  · exact ⟨fun q => absurd q.1 (by decide), fun q => by cases q⟩
  · exact ⟨fun q => absurd q.1 (by decide), fun q => by cases q⟩
  · exact ⟨fun q => absurd q.1 (by decide), fun q => by cases q⟩
  · exact ⟨fun q => absurd q.1 (by decide), fun q => by cases q⟩
  · have u1 := mt_lt ma
    have u2 := mt_lt mb
    have u3 := mt_lt ma'
    have u4 := mt_lt mb'
    refine ⟨fun q => ?_, fun q => ?_⟩
    · have e1 := sp_inj q.2.1 (by omega) (by omega)
      have e2 := sp_inj q.2.2 (by omega) (by omega)
      rw [e1] at ma
      rw [e2] at mb
      rw [mt_fn ma ma', mt_fn mb mb']
    · obtain ⟨e1, e2⟩ := Int.Internal.Linear.Expr.add.inj q
      rw [← e1] at ma'
      rw [← e2] at mb'
      rw [mt_inj hn hp ma ma', mt_inj hn hp mb mb']
      exact ⟨rfl, rfl, rfl⟩
  · exact ⟨fun q => absurd q.1 (by decide), fun q => by cases q⟩
  · exact ⟨fun q => absurd q.1 (by decide), fun q => by cases q⟩
  · exact ⟨fun q => absurd q.1 (by decide), fun q => by cases q⟩
  · exact ⟨fun q => absurd q.1 (by decide), fun q => by cases q⟩
  · have u1 := mt_lt ma
    have u3 := mt_lt ma'
    refine ⟨fun q => ?_, fun q => ?_⟩
    · have e1 := sp_inj q.2.1 (by omega) (by omega)
      rw [e1] at ma
      rw [mt_fn ma ma']
    · obtain ⟨-, e1⟩ := Int.Internal.Linear.Expr.mulL.inj q
      rw [← e1] at ma'
      rw [mt_inj hn hp ma ma']
      exact ⟨rfl, rfl, rfl⟩
theorem ent_app {W : List Tr} {i j : Nat} {k v2 v3 : Int32} {t : Tr} (h : ent W i k v2 v3 t) (X : List Tr) (hij : i ≤ j) : ent (W ++ X) j k v2 v3 t := by
  rcases h with q | q | ⟨m, n, a, b, q1, q2, q3, q4, ma, mb, c1, c2⟩ | ⟨m, a, q1, q2, q3, q4, ma, c1⟩
  · exact Or.inl q
  · exact Or.inr (Or.inl q)
  · exact Or.inr (Or.inr (Or.inl ⟨m, n, a, b, q1, q2, q3, q4, mt_app ma X, mt_app mb X, by omega, by omega⟩))
  · exact Or.inr (Or.inr (Or.inr ⟨m, a, q1, q2, q3, q4, mt_app ma X, by omega⟩))
/-- a mark stands for a tree, as long as the draft isn't over -/
def RM (W : List Tr) (v : Int32) (t : Tr) : Prop := ∃ m : Nat, v = nI m ∧ m < 400 ∧ (W.length ≤ 150 → mt W m t)
theorem RM_app {W : List Tr} {v : Int32} {t : Tr} (h : RM W v t) (X : List Tr) : RM (W ++ X) v t := by
  obtain ⟨m, e, l, hm⟩ := h
  refine ⟨m, e, l, fun q => ?_⟩
  rw [List.length_append] at q
  exact mt_app (hm (by omega)) X
theorem xor_1 : ∀ m, m < 400 → nI m ^^^ 1 = nI (fl m) := by decide +kernel
theorem fl_half (m : Nat) : fl m / 2 = m / 2 := by unfold fl; split <;> omega
theorem RM_deny {W : List Tr} {v : Int32} {t : Tr} (h : RM W v t) : RM W (v ^^^ 1) (du t) := by
  obtain ⟨m, e, l, hm⟩ := h
  refine ⟨fl m, by rw [e, xor_1 m l], by unfold fl; split <;> omega, fun q => ?_⟩
  have hm := hm q
  unfold mt at hm ⊢
  rw [fl_half, hm]
  congr 1
  unfold fl
  by_cases c : m % 2 = 0
  · rw [if_pos c, if_pos c, if_neg (by omega), du_du]
  · rw [if_neg c, if_neg c, if_pos (by omega)]
theorem dk_node {N : Nat} {z : Nat → Nat} {S : mq_St} {W : List Tr} {k v2 v3 : Int32} {t : Tr} (hN : 200 ≤ N) (h : dft S W) (hw : wf t) (hp : po t = true) (he : W.length ≤ 150 → ent W W.length k v2 v3 t) :
    ∃ v S' W', zf_X2_node N z k v2 v3 S = some (v, S') ∧ dft S' W' ∧ RM W' v t ∧ (W' = W ∨ W' = W ++ [t]) ∧ ag [3, 4] [8, 9, 10, 11] [] S S' := by
  have hall := h
  obtain ⟨h3, h4, h151, hW0, hnd, hpo, hent, hnum⟩ := h
  by_cases hov : W.length ≤ 150
  · -- the draft isn't over
    have he := he hov
    have emin : min W.length 150 = W.length := by omega
    rw [emin] at h3 hnum
    have loop : ∀ (fuel i : Nat), i ≤ W.length → W.length - i < fuel → (∀ j, j < i → W[j]? ≠ some t) → ∃ v S' W', zf_X2_node_3 N z fuel k v2 v3 (nI i) S = some (v, S') ∧ dft S' W' ∧ RM W' v t ∧ (W' = W ∨ W' = W ++ [t]) ∧ ag [3, 4] [8, 9, 10, 11] [] S S' := by
      intro fuel
      induction fuel with
      | zero => intro i _ h; omega
      | succ fuel ih =>
        intro i hi hf hj
        have hsh : zf_X2_node_3 N z (fuel + 1) k v2 v3 (nI i) S = zf_X2_node_3b N z (fun v1 v2 v3 v4 S => zf_X2_node_3 N z fuel v1 v2 v3 v4 S) k v2 v3 (nI i) S := rfl
        rw [hsh]
        unfold zf_X2_node_3b zf_X2_node_50
        rw [h3]
        by_cases e : i = W.length
        · subst e
          rw [if_pos (nI_le (Nat.le_refl _) (by omega))]
          have hnm : t ∉ W := fun hm => by
            obtain ⟨j, hj2⟩ := List.getElem?_of_mem hm
            exact hj j (List.getElem?_eq_some_iff.mp hj2).1 hj2
          have hnd' : (W ++ [t]).Nodup := by
            rw [List.nodup_append]
            exact ⟨hnd, List.nodup_cons.mpr ⟨List.not_mem_nil, List.nodup_nil⟩, fun a ha b hb e => by rw [List.mem_singleton.mp hb] at e; rw [e] at ha; exact hnm ha⟩
          have hpo' : ∀ w ∈ W ++ [t], wf w ∧ po w = true := fun w hw' => by
            rcases List.mem_append.mp hw' with q | q
            · exact hpo w q
            · rw [List.mem_singleton.mp q]; exact ⟨hw, hp⟩
          have hlen : (W ++ [t]).length = W.length + 1 := by rw [List.length_append]; rfl
          have hW0l : 0 < W.length := (List.getElem?_eq_some_iff.mp hW0).1
          by_cases h150 : W.length < 150
          · have e150 : nI W.length < (150 : Int32) := nI_lt (a := W.length) (b := 150) h150 (by omega)
            rw [if_pos e150]
            refine ⟨nI (2 * W.length), mq_sa (mq_sa (mq_sa (mq_sa (mq_si S 3 (nI (W.length + 1))) 8 (upd (S.2.1 8) W.length k)) 9 (upd (S.2.1 9) W.length v2)) 10 (upd (S.2.1 10) W.length v3)) 11 (upd (upd (S.2.1 11) (2 * W.length) (-1)) (2 * W.length + 1) (-1)), W ++ [t], ?_, ⟨?_, ?_, by omega, by rw [List.getElem?_append_left hW0l]; exact hW0, hnd', hpo', ?_, ?_⟩, ?_, Or.inr rfl, ?_⟩
            · have i1 : vp_in (nI W.length) 150 := vp_in_nI h150 (by omega)
              have i2 : vp_in (nI (2 * W.length)) 300 := vp_in_nI (by omega) (by omega)
              have i3 : vp_in (nI (2 * W.length + 1)) 300 := vp_in_nI (by omega) (by omega)
              have c1 : (nI W.length).toNatClampNeg = W.length := nI_clamp (by omega)
              have c2 : (nI (2 * W.length)).toNatClampNeg = 2 * W.length := nI_clamp (by omega)
              have c3 : (nI (2 * W.length + 1)).toNatClampNeg = 2 * W.length + 1 := nI_clamp (by omega)
              have p2 : (2 : Int32) * nI W.length = nI (2 * W.length) := pk_mul 2 W.length
              simp only [nI_e, nS_e, mq_ck_of i1, c1, p2, nI_1, mq_ck_of i2, c2, mq_ck_of i3, c3]
              rw [← sa_sa (mq_sa (mq_sa (mq_sa (mq_si S 3 (nI (W.length + 1))) 8 (upd (S.2.1 8) W.length k)) 9 (upd (S.2.1 9) W.length v2)) 10 (upd (S.2.1 10) W.length v3)) 11 (upd (S.2.1 11) (2 * W.length) (-1))]
              rfl
            · show nI (W.length + 1) = nI (min (W ++ [t]).length 150)
              rw [hlen]
              congr 1
              omega
            · show S.1 4 = _
              rw [h4, if_pos hov, if_pos (by omega)]
            · intro j u hj hu
              show ent (W ++ [t]) j (upd (S.2.1 8) W.length k j) (upd (S.2.1 9) W.length v2 j) (upd (S.2.1 10) W.length v3 j) u
              by_cases ej : j = W.length
              · rw [ej, up_s, up_s, up_s]
                rw [ej, List.getElem?_append_right (Nat.le_refl _), Nat.sub_self] at hu
                have : t = u := Option.some.inj hu
                rw [← this]
                exact ent_app he _ (Nat.le_refl _)
              · rw [up_o ej, up_o ej, up_o ej]
                have hjl := (List.getElem?_eq_some_iff.mp hu).1
                rw [List.getElem?_append_left (by omega)] at hu
                exact ent_app (hent j u hj hu) _ (Nat.le_refl _)
            · intro j hj
              show upd (upd (S.2.1 11) (2 * W.length) (-1)) (2 * W.length + 1) (-1) j = -1
              by_cases e1 : j = 2 * W.length + 1
              · rw [e1, up_s]
              · rw [up_o e1]
                by_cases e2 : j = 2 * W.length
                · rw [e2, up_s]
                · rw [up_o e2]
                  exact hnum j (by omega)
            · refine ⟨2 * W.length, rfl, by omega, fun _ => ?_⟩
              unfold mt
              rw [if_pos (by omega), show 2 * W.length / 2 = W.length by omega, List.getElem?_append_right (Nat.le_refl _), Nat.sub_self]
              rfl
            · refine ag_tr ?_ (ag_sa (by decide))
              refine ag_tr ?_ (ag_sa (by decide))
              refine ag_tr ?_ (ag_sa (by decide))
              refine ag_tr ?_ (ag_sa (by decide))
              exact ag_si (by decide)
          · have e150 : ¬ nI W.length < (150 : Int32) := nI_nlt (a := W.length) (b := 150) (by omega) (by omega)
            rw [if_neg e150, mq_cz_1, nS_e]
            refine ⟨0, mq_si S 4 1, W ++ [t], rfl, ⟨?_, ?_, by omega, by rw [List.getElem?_append_left hW0l]; exact hW0, hnd', hpo', ?_, ?_⟩, ⟨0, rfl, by omega, fun q => absurd q (by omega)⟩, Or.inr rfl, ag_si (by decide)⟩
            · show S.1 3 = _
              rw [h3]
              congr 1
              omega
            · rw [if_neg (by omega)]
              rfl
            · intro j u hj hu
              rw [List.getElem?_append_left (by omega)] at hu
              exact ent_app (hent j u hj hu) _ (Nat.le_refl _)
            · intro j hj
              exact hnum j (by omega)
        · have i1 : vp_in (nI i) 150 := vp_in_nI (by omega) (by omega)
          have c1 : (nI i).toNatClampNeg = i := nI_clamp (by omega)
          rw [if_neg (nI_ge (a := i) (b := W.length) (by omega) (by omega))]
          simp only [mq_ck_of i1, c1, nI_e, nI_1]
          obtain ⟨u, hu⟩ : ∃ u, W[i]? = some u := ⟨W[i]'(by omega), List.getElem?_eq_getElem (by omega)⟩
          have hei := hent i u (by omega) hu
          have hiff := ent_iff hnd hpo (by omega) hei he
          have go : ¬ (S.2.1 8 i = k ∧ S.2.1 9 i = v2 ∧ S.2.1 10 i = v3) → _ := fun q => ih (i + 1) (by omega) (by omega) (fun j hj' => by
            by_cases ej : j = i
            · rw [ej, hu]
              exact fun e => q (hiff.mpr (Option.some.inj e))
            · exact hj j (by omega))
          by_cases q1 : S.2.1 8 i = k
          · rw [if_pos q1]
            by_cases q2 : S.2.1 9 i = v2
            · rw [if_pos q2]
              by_cases q3 : S.2.1 10 i = v3
              · rw [if_pos q3]
                have eu : u = t := hiff.mp ⟨q1, q2, q3⟩
                refine ⟨nI (2 * i), S, W, by rw [show (2 : Int32) * nI i = nI (2 * i) from pk_mul 2 i], hall, ⟨2 * i, rfl, by omega, fun _ => ?_⟩, Or.inl rfl, ag_rf⟩
                unfold mt
                rw [if_pos (by omega), show 2 * i / 2 = i by omega, hu, eu]
              · rw [if_neg q3]
                exact go (fun q => q3 q.2.2)
            · rw [if_neg q2]
              exact go (fun q => q2 q.2.1)
          · rw [if_neg q1]
            exact go (fun q => q1 q.1)
    exact loop N 0 (by omega) (by omega) (fun j hj => by omega)
  · -- it is over
    have e151 : W.length = 151 := by omega
    have emin : min W.length 150 = 150 := by omega
    rw [emin] at h3
    rw [if_neg hov] at h4
    have loop : ∀ (fuel i : Nat), i ≤ 150 → 150 - i < fuel → ∃ (m : Nat) (S' : mq_St), zf_X2_node_3 N z fuel k v2 v3 (nI i) S = some (nI m, S') ∧ m < 400 ∧ dft S' W ∧ ag [3, 4] [8, 9, 10, 11] [] S S' := by
      intro fuel
      induction fuel with
      | zero => intro i _ h; omega
      | succ fuel ih =>
        intro i hi hf
        have hsh : zf_X2_node_3 N z (fuel + 1) k v2 v3 (nI i) S = zf_X2_node_3b N z (fun v1 v2 v3 v4 S => zf_X2_node_3 N z fuel v1 v2 v3 v4 S) k v2 v3 (nI i) S := rfl
        rw [hsh]
        unfold zf_X2_node_3b zf_X2_node_50
        rw [h3]
        by_cases e : i = 150
        · subst e
          rw [if_pos (nI_le (Nat.le_refl _) (by omega)), if_neg (by decide : ¬ nI 150 < (150 : Int32)), mq_cz_1, nS_e]
          exact ⟨0, mq_si S 4 1, rfl, by omega, dft_c hall rfl h4.symm rfl rfl rfl rfl, ag_si (by decide)⟩
        · have i1 : vp_in (nI i) 150 := vp_in_nI (by omega) (by omega)
          have c1 : (nI i).toNatClampNeg = i := nI_clamp (by omega)
          rw [if_neg (nI_ge (a := i) (b := 150) (by omega) (by omega))]
          simp only [mq_ck_of i1, c1, nI_e, nI_1]
          have go := ih (i + 1) (by omega) (by omega)
          by_cases q1 : S.2.1 8 i = k
          · rw [if_pos q1]
            by_cases q2 : S.2.1 9 i = v2
            · rw [if_pos q2]
              by_cases q3 : S.2.1 10 i = v3
              · rw [if_pos q3]
                exact ⟨2 * i, S, by rw [show (2 : Int32) * nI i = nI (2 * i) from pk_mul 2 i], by omega, hall, ag_rf⟩
              · rw [if_neg q3]
                exact go
            · rw [if_neg q2]
              exact go
          · rw [if_neg q1]
            exact go
    obtain ⟨m, S', a1, a0, a2, a3⟩ := loop N 0 (by omega) (by omega)
    exact ⟨nI m, S', W, a1, a2, ⟨m, rfl, a0, fun q => absurd q hov⟩, Or.inl rfl, a3⟩
end
/-! 85.ops -/
section
/-! What signs make of operands: trees, and the class's marks. -/
def chr (g : Nat) : Int32 := if g = 0 then 40 else if g = 1 then 33 else if g = 2 then 91 else if g = 3 then 60 else if g = 4 then 61 else if g = 5 then 62 else if g = 6 then 124 else 38
def comb (pl : Bool) (g : Nat) (x y : Tr) : Tr :=
  if g = 7 then .add x y else if g = 6 then .sub x y else if g = 5 then (if pl = true then .sub (du x) y else .mulL 0 (.sub (du x) y))
  else if pl = true then .add (.sub (du x) y) (.sub x (du y)) else .add (.mulL 0 (.sub (du x) y)) (.mulL 0 (.sub (du y) x))
def pref (pl : Bool) (g : Nat) (x : Tr) : Tr := if g = 2 then .mulL 0 x else if g = 3 then .mulR x 0 else if pl = true then du x else .mulL 0 (du x)
def atomT (pl : Bool) (c : Nat) : Tr := if c = 84 then .num 0 else if c = 70 then .num 1 else if pl = true then .var (2 * (c - 97)) else .mulL 0 (.var (2 * (c - 97)))
theorem wf_comb {pl : Bool} {g : Nat} {x y : Tr} (hx : wf x) (hy : wf y) : wf (comb pl g x y) := by
  have dx := wf_du x hx
  have dy := wf_du y hy
  unfold comb
  split
  · exact ⟨hx, hy⟩
  · split
    · exact ⟨hx, hy⟩
    · split
      · split
        · exact ⟨dx, hy⟩
        · exact ⟨rfl, dx, hy⟩
      · split
        · exact ⟨⟨dx, hy⟩, hx, dy⟩
        · exact ⟨⟨rfl, dx, hy⟩, rfl, dy, hx⟩
theorem wf_pref {pl : Bool} {g : Nat} {x : Tr} (hx : wf x) : wf (pref pl g x) := by
  have dx := wf_du x hx
  unfold pref
  split
  · exact ⟨rfl, hx⟩
  · split
    · exact ⟨rfl, hx⟩
    · split
      · exact dx
      · exact ⟨rfl, dx⟩
theorem wf_atom {pl : Bool} {c : Nat} (hc : c = 84 ∨ c = 70 ∨ (97 ≤ c ∧ c ≤ 122)) : wf (atomT pl c) := by
  have hv : c - 97 < 26 → wf (.var (2 * (c - 97))) := fun h => by
    show 2 * (c - 97) < 52
    omega
  unfold atomT
  split
  · exact Or.inl rfl
  · split
    · exact Or.inr rfl
    · have := hv (by omega)
      split
      · exact this
      · exact ⟨rfl, this⟩
/-- x or its denial is a subtree of t -/
def us (x t : Tr) : Prop := x ∈ sb t ∨ du x ∈ sb t
theorem sb_tr : ∀ {t a x : Tr}, x ∈ sb a → a ∈ sb t → x ∈ sb t
  | .num v, a, x, hx, ha => by rw [List.mem_singleton.mp ha] at hx; exact hx
  | .var i, a, x, hx, ha => by rw [List.mem_singleton.mp ha] at hx; exact hx
  | .add t u, a, x, hx, ha => by
    rcases List.mem_cons.mp ha with e | ha
    · rw [e] at hx; exact hx
    · rcases List.mem_append.mp ha with ha | ha
      · exact List.mem_cons_of_mem _ (List.mem_append_left _ (sb_tr hx ha))
      · exact List.mem_cons_of_mem _ (List.mem_append_right _ (sb_tr hx ha))
  | .sub t u, a, x, hx, ha => by
    rcases List.mem_cons.mp ha with e | ha
    · rw [e] at hx; exact hx
    · rcases List.mem_append.mp ha with ha | ha
      · exact List.mem_cons_of_mem _ (List.mem_append_left _ (sb_tr hx ha))
      · exact List.mem_cons_of_mem _ (List.mem_append_right _ (sb_tr hx ha))
  | .neg t, a, x, hx, ha => by
    rcases List.mem_cons.mp ha with e | ha
    · rw [e] at hx; exact hx
    · exact List.mem_cons_of_mem _ (sb_tr hx ha)
  | .mulL _ t, a, x, hx, ha => by
    rcases List.mem_cons.mp ha with e | ha
    · rw [e] at hx; exact hx
    · exact List.mem_cons_of_mem _ (sb_tr hx ha)
  | .mulR t _, a, x, hx, ha => by
    rcases List.mem_cons.mp ha with e | ha
    · rw [e] at hx; exact hx
    · exact List.mem_cons_of_mem _ (sb_tr hx ha)
theorem sb_dd {x t : Tr} : du x ∈ sb (du t) ↔ x ∈ sb t := by
  rw [sb_du]
  constructor
  · intro h
    obtain ⟨y, hy, e⟩ := List.mem_map.mp h
    rw [← du_du y, e, du_du] at hy
    exact hy
  · intro h
    exact List.mem_map.mpr ⟨x, h, rfl⟩
theorem us_tr {x a t : Tr} (h : us x a) (h' : us a t) : us x t := by
  rcases h with h | h <;> rcases h' with h' | h'
  · exact Or.inl (sb_tr h h')
  · exact Or.inr (sb_tr (sb_dd.mpr h) h')
  · exact Or.inr (sb_tr h h')
  · have := sb_tr (sb_dd.mpr h) h'
    rw [du_du] at this
    exact Or.inl this
theorem us_rf (t : Tr) : us t t := Or.inl (sb_self t)
theorem us_dl {x t : Tr} (h : us x t) : us (du x) t := by
  rcases h with h | h
  · exact Or.inr (by rw [du_du]; exact h)
  · exact Or.inl h
theorem us_dr {x t : Tr} (h : us x t) : us x (du t) := by
  rcases h with h | h
  · exact Or.inr (sb_dd.mpr h)
  · exact Or.inl (by rw [← du_du x]; exact sb_dd.mpr h)
theorem us_add1 (a b : Tr) : us a (.add a b) := Or.inl (List.mem_cons_of_mem _ (List.mem_append_left _ (sb_self a)))
theorem us_add2 (a b : Tr) : us b (.add a b) := Or.inl (List.mem_cons_of_mem _ (List.mem_append_right _ (sb_self b)))
theorem us_sub1 (a b : Tr) : us a (.sub a b) := Or.inl (List.mem_cons_of_mem _ (List.mem_append_left _ (sb_self a)))
theorem us_sub2 (a b : Tr) : us b (.sub a b) := Or.inl (List.mem_cons_of_mem _ (List.mem_append_right _ (sb_self b)))
theorem us_mulL (a : Tr) (k : Int) : us a (.mulL k a) := Or.inl (List.mem_cons_of_mem _ (sb_self a))
theorem us_mulR (a : Tr) (k : Int) : us a (.mulR a k) := Or.inl (List.mem_cons_of_mem _ (sb_self a))
theorem us_comb (pl : Bool) (g : Nat) (x y : Tr) : us x (comb pl g x y) ∧ us y (comb pl g x y) := by
  have dx : us x (.sub (du x) y) := by
    have := us_dl (us_sub1 (du x) y)
    rw [du_du] at this
    exact this
  unfold comb
  split
  · exact ⟨us_add1 _ _, us_add2 _ _⟩
  · split
    · exact ⟨us_sub1 _ _, us_sub2 _ _⟩
    · split
      · split
        · exact ⟨dx, us_sub2 _ _⟩
        · exact ⟨us_tr dx (us_mulL _ _), us_tr (us_sub2 _ _) (us_mulL _ _)⟩
      · split
        · exact ⟨us_tr dx (us_add1 _ _), us_tr (us_sub2 _ _) (us_add1 _ _)⟩
        · exact ⟨us_tr (us_tr dx (us_mulL _ _)) (us_add1 _ _), us_tr (us_tr (us_sub2 _ _) (us_mulL _ _)) (us_add1 _ _)⟩
theorem us_pref (pl : Bool) (g : Nat) (x : Tr) : us x (pref pl g x) := by
  unfold pref
  split
  · exact us_mulL _ _
  · split
    · exact us_mulR _ _
    · split
      · exact us_dr (us_rf x)
      · exact us_tr (us_dr (us_rf x)) (us_mulL _ _)
def exw (W W' : List Tr) (t : Tr) : Prop := ∃ X, W' = W ++ X ∧ ∀ x ∈ X, us x t
theorem exw_rf (W : List Tr) (t : Tr) : exw W W t := ⟨[], (List.append_nil W).symm, fun x h => by cases h⟩
theorem exw_tr {W W1 W2 : List Tr} {t : Tr} (h : exw W W1 t) (h' : exw W1 W2 t) : exw W W2 t := by
  obtain ⟨X, rfl, hX⟩ := h
  obtain ⟨Y, rfl, hY⟩ := h'
  refine ⟨X ++ Y, List.append_assoc _ _ _, fun x hx => ?_⟩
  rcases List.mem_append.mp hx with q | q
  · exact hX x q
  · exact hY x q
theorem exw_us {W W1 : List Tr} {a t : Tr} (h : exw W W1 a) (u : us a t) : exw W W1 t := by
  obtain ⟨X, e, hX⟩ := h
  exact ⟨X, e, fun x hx => us_tr (hX x hx) u⟩
theorem RM_exw {W W' : List Tr} {v : Int32} {t u : Tr} (h : RM W v t) (h' : exw W W' u) : RM W' v t := by
  obtain ⟨X, rfl, -⟩ := h'
  exact RM_app h X
section DOPS
variable {N : Nat} {z : Nat → Nat} {S : mq_St} {W : List Tr} {v u : Int32} {a b : Tr}
theorem dk_n2 {t : Tr} {W' : List Tr} (h : W' = W ∨ W' = W ++ [t]) : exw W W' t := by
  rcases h with e | e
  · rw [e]; exact exw_rf _ _
  · exact ⟨[t], e, fun x hx => by rw [List.mem_singleton.mp hx]; exact us_rf t⟩
theorem dk_letter {l : Nat} (hN : 200 ≤ N) (h : dft S W) (hl : l < 26) : ∃ v' S' W', zf_X2_letter N z (nI l) S = some (v', S') ∧ dft S' W' ∧ RM W' v' (.var (2 * l)) ∧ exw W W' (.var (2 * l)) ∧ ag [3, 4] [8, 9, 10, 11] [] S S' := by
  obtain ⟨v', S', W', a1, a2, a3, a4, a5⟩ := dk_node (N := N) (z := z) (k := 2) (v2 := nI l) (v3 := -1) (t := .var (2 * l)) hN h (by show 2 * l < 52; omega) (by show (2 * l % 2 == 0) = true; rw [show 2 * l % 2 = 0 by omega]; rfl) (fun _ => Or.inr (Or.inl ⟨l, hl, rfl, rfl, rfl, rfl⟩))
  refine ⟨v', S', W', ?_, a2, a3, dk_n2 a4, a5⟩
  unfold zf_X2_letter
  rw [a1, mq_cl_s]
theorem dk_both (hN : 200 ≤ N) (h : dft S W) (ha : RM W v a) (hb : RM W u b) (wa : wf a) (wb : wf b) : ∃ v' S' W', zf_X2_both N z v u S = some (v', S') ∧ dft S' W' ∧ RM W' v' (.add a b) ∧ exw W W' (.add a b) ∧ ag [3, 4] [8, 9, 10, 11] [] S S' := by
  obtain ⟨v', S', W', a1, a2, a3, a4, a5⟩ := dk_node (N := N) (z := z) (k := 4) (v2 := v) (v3 := u) (t := .add a b) hN h ⟨wa, wb⟩ rfl (fun q => by
    obtain ⟨m, e1, -, h1⟩ := ha
    have h1 := h1 q
    obtain ⟨n, e2, -, h2⟩ := hb
    have h2 := h2 q
    exact Or.inr (Or.inr (Or.inl ⟨m, n, a, b, rfl, e1, e2, rfl, h1, h2, mt_lt h1, mt_lt h2⟩)))
  refine ⟨v', S', W', ?_, a2, a3, dk_n2 a4, a5⟩
  unfold zf_X2_both
  rw [a1, mq_cl_s]
theorem dk_need (hN : 200 ≤ N) (h : dft S W) (ha : RM W v a) (wa : wf a) : ∃ v' S' W', zf_X2_need N z v S = some (v', S') ∧ dft S' W' ∧ RM W' v' (.mulL 0 a) ∧ exw W W' (.mulL 0 a) ∧ ag [3, 4] [8, 9, 10, 11] [] S S' := by
  obtain ⟨v', S', W', a1, a2, a3, a4, a5⟩ := dk_node (N := N) (z := z) (k := 6) (v2 := v) (v3 := -1) (t := .mulL 0 a) hN h ⟨rfl, wa⟩ rfl (fun q => by
    obtain ⟨m, e1, -, h1⟩ := ha
    have h1 := h1 q
    exact Or.inr (Or.inr (Or.inr ⟨m, a, rfl, e1, rfl, rfl, h1, mt_lt h1⟩)))
  refine ⟨v', S', W', ?_, a2, a3, dk_n2 a4, a5⟩
  unfold zf_X2_need
  rw [a1, mq_cl_s]
theorem dk_either (hN : 200 ≤ N) (h : dft S W) (ha : RM W v a) (hb : RM W u b) (wa : wf a) (wb : wf b) : ∃ v' S' W', zf_X2_either N z v u S = some (v', S') ∧ dft S' W' ∧ RM W' v' (.sub a b) ∧ exw W W' (.sub a b) ∧ ag [3, 4] [8, 9, 10, 11] [] S S' := by
  obtain ⟨v', S', W', a1, a2, a3, a4, a5⟩ := dk_node (N := N) (z := z) (k := 4) (v2 := v ^^^ 1) (v3 := u ^^^ 1) (t := .add (du a) (du b)) hN h ⟨wf_du a wa, wf_du b wb⟩ rfl (fun q => by
    obtain ⟨m, e1, -, h1⟩ := RM_deny ha
    have h1 := h1 q
    obtain ⟨n, e2, -, h2⟩ := RM_deny hb
    have h2 := h2 q
    exact Or.inr (Or.inr (Or.inl ⟨m, n, du a, du b, rfl, e1, e2, rfl, h1, h2, mt_lt h1, mt_lt h2⟩)))
  have ed : du (.add (du a) (du b)) = .sub a b := by show Int.Internal.Linear.Expr.sub _ _ = _; rw [du_du, du_du]
  refine ⟨v' ^^^ 1, S', W', ?_, a2, ed ▸ RM_deny a3, exw_us (dk_n2 a4) (ed ▸ us_dr (us_rf _)), a5⟩
  unfold zf_X2_either zf_X2_deny
  rw [mq_cp_s, mq_cp_s, a1, mq_cl_s, mq_cp_s]
theorem dk_may (hN : 200 ≤ N) (h : dft S W) (ha : RM W v a) (wa : wf a) : ∃ v' S' W', zf_X2_may N z v S = some (v', S') ∧ dft S' W' ∧ RM W' v' (.mulR a 0) ∧ exw W W' (.mulR a 0) ∧ ag [3, 4] [8, 9, 10, 11] [] S S' := by
  obtain ⟨v', S', W', a1, a2, a3, a4, a5⟩ := dk_node (N := N) (z := z) (k := 6) (v2 := v ^^^ 1) (v3 := -1) (t := .mulL 0 (du a)) hN h ⟨rfl, wf_du a wa⟩ rfl (fun q => by
    obtain ⟨m, e1, -, h1⟩ := RM_deny ha
    have h1 := h1 q
    exact Or.inr (Or.inr (Or.inr ⟨m, du a, rfl, e1, rfl, rfl, h1, mt_lt h1⟩)))
  have ed : du (.mulL 0 (du a)) = .mulR a 0 := by show Int.Internal.Linear.Expr.mulR _ _ = _; rw [du_du]
  refine ⟨v' ^^^ 1, S', W', ?_, a2, ed ▸ RM_deny a3, exw_us (dk_n2 a4) (ed ▸ us_dr (us_rf _)), a5⟩
  unfold zf_X2_may zf_X2_deny
  rw [mq_cp_s, a1, mq_cl_s, mq_cp_s]
theorem dk_joined {pl : Bool} {g : Nat} (hN : 200 ≤ N) (h : dft S W) (h10 : S.1 10 = if pl = true then 0 else 1) (hg : 4 ≤ g ∧ g ≤ 7) (ha : RM W v a) (hb : RM W u b) (wa : wf a) (wb : wf b) : ∃ v' S' W', zf_X5_joined N z (chr g) v u S = some (v', S') ∧ dft S' W' ∧ RM W' v' (comb pl g a b) ∧ exw W W' (comb pl g a b) ∧ ag [3, 4] [8, 9, 10, 11] [] S S' := by
  have hg4 : g = 7 ∨ g = 6 ∨ g = 5 ∨ g = 4 := by omega
  have wda := wf_du a wa
  have wdb := wf_du b wb
  rcases hg4 with rfl | rfl | rfl | rfl
  · obtain ⟨v', S', W', a1, a2⟩ := dk_both (N := N) (z := z) hN h ha hb wa wb
    refine ⟨v', S', W', ?_, a2⟩
    unfold zf_X5_joined
    rw [if_pos (by decide), a1, mq_cl_s]
  · obtain ⟨v', S', W', a1, a2⟩ := dk_either (N := N) (z := z) hN h ha hb wa wb
    refine ⟨v', S', W', ?_, a2⟩
    unfold zf_X5_joined
    rw [if_neg (by decide), if_pos (by decide), a1, mq_cl_s]
  · obtain ⟨v1, S1, W1, a1, a2, a3, a4, a5⟩ := dk_either (N := N) (z := z) hN h (RM_deny ha) hb wda wb
    have h10' : S1.1 10 = if pl = true then 0 else 1 := (a5.1 10 (by decide)).trans h10
    unfold zf_X5_joined zf_X2_deny
    rw [if_neg (by decide), if_neg (by decide), mq_cp_s, a1, mq_cl_s, nI_e, if_pos (by decide), h10']
    cases pl with
    | true =>
      rw [if_pos rfl, if_pos rfl]
      exact ⟨v1, S1, W1, rfl, a2, a3, a4, a5⟩
    | false =>
      rw [if_neg (by decide)]
      obtain ⟨v2, S2, W2, b1, b2, b3, b4, b5⟩ := dk_need (N := N) (z := z) hN a2 a3 ⟨wda, wb⟩
      exact ⟨v2, S2, W2, by rw [b1, mq_cl_s], b2, b3, exw_tr (exw_us a4 (us_mulL _ _)) b4, ag_tr a5 b5⟩
  · obtain ⟨v1, S1, W1, a1, a2, a3, a4, a5⟩ := dk_either (N := N) (z := z) hN h (RM_deny ha) hb wda wb
    have h10' : S1.1 10 = if pl = true then 0 else 1 := (a5.1 10 (by decide)).trans h10
    unfold zf_X5_joined zf_X2_deny
    rw [if_neg (by decide), if_neg (by decide), mq_cp_s, a1, mq_cl_s, nI_e, if_neg (by decide), h10', mq_cp_s]
    cases pl with
    | true =>
      rw [if_pos rfl, if_pos rfl]
      obtain ⟨v2, S2, W2, b1, b2, b3, b4, b5⟩ := dk_either (N := N) (z := z) hN a2 (RM_exw ha a4) (RM_deny (RM_exw hb a4)) wa wdb
      obtain ⟨v3, S3, W3, c1, c2, c3, c4, c5⟩ := dk_both (N := N) (z := z) hN b2 (RM_exw a3 b4) b3 ⟨wda, wb⟩ ⟨wa, wdb⟩
      exact ⟨v3, S3, W3, by rw [b1, mq_cl_s, c1, mq_cl_s], c2, c3, exw_tr (exw_tr (exw_us a4 (us_add1 _ _)) (exw_us b4 (us_add2 _ _))) c4, ag_tr (ag_tr a5 b5) c5⟩
    | false =>
      rw [if_neg (by decide), mq_cp_s]
      obtain ⟨v2, S2, W2, b1, b2, b3, b4, b5⟩ := dk_either (N := N) (z := z) hN a2 (RM_deny (RM_exw hb a4)) (RM_exw ha a4) wdb wa
      obtain ⟨v3, S3, W3, c1, c2, c3, c4, c5⟩ := dk_need (N := N) (z := z) hN b2 (RM_exw a3 b4) ⟨wda, wb⟩
      obtain ⟨v4, S4, W4, d1, d2, d3, d4, d5⟩ := dk_need (N := N) (z := z) hN c2 (RM_exw b3 c4) ⟨wdb, wa⟩
      obtain ⟨v5, S5, W5, e1, e2, e3, e4, e5⟩ := dk_both (N := N) (z := z) hN d2 (RM_exw c3 d4) d3 ⟨rfl, wda, wb⟩ ⟨rfl, wdb, wa⟩
      exact ⟨v5, S5, W5, by rw [b1, mq_cl_s, nI_e, c1, mq_cl_s, d1, mq_cl_s, e1, mq_cl_s], e2, e3, exw_tr (exw_tr (exw_tr (exw_tr (exw_us a4 (us_tr (us_mulL _ _) (us_add1 _ _))) (exw_us b4 (us_tr (us_mulL _ _) (us_add2 _ _)))) (exw_us c4 (us_add1 _ _))) (exw_us d4 (us_add2 _ _))) e4, ag_tr (ag_tr (ag_tr (ag_tr a5 b5) c5) d5) e5⟩
theorem dk_prefixed {pl : Bool} {g : Nat} (hN : 200 ≤ N) (h : dft S W) (h10 : S.1 10 = if pl = true then 0 else 1) (hg : 1 ≤ g ∧ g ≤ 3) (ha : RM W v a) (wa : wf a) : ∃ v' S' W', zf_X5_prefixed N z (chr g) v S = some (v', S') ∧ dft S' W' ∧ RM W' v' (pref pl g a) ∧ exw W W' (pref pl g a) ∧ ag [3, 4] [8, 9, 10, 11] [] S S' := by
  have hg4 : g = 1 ∨ g = 2 ∨ g = 3 := by omega
  have wda := wf_du a wa
  rcases hg4 with rfl | rfl | rfl
  · unfold zf_X5_prefixed zf_X2_deny
    rw [if_neg (by decide), if_neg (by decide), h10, mq_cp_s]
    cases pl with
    | true =>
      rw [if_pos rfl, if_pos rfl]
      exact ⟨v ^^^ 1, S, W, rfl, h, RM_deny ha, exw_rf _ _, ag_rf⟩
    | false =>
      rw [if_neg (by decide), mq_cp_s]
      obtain ⟨v2, S2, W2, b1, b2⟩ := dk_need (N := N) (z := z) hN h (RM_deny ha) wda
      exact ⟨v2, S2, W2, by rw [b1, mq_cl_s], b2⟩
  · obtain ⟨v2, S2, W2, b1, b2⟩ := dk_need (N := N) (z := z) hN h ha wa
    refine ⟨v2, S2, W2, ?_, b2⟩
    unfold zf_X5_prefixed
    rw [if_pos (by decide), b1, mq_cl_s]
  · obtain ⟨v2, S2, W2, b1, b2⟩ := dk_may (N := N) (z := z) hN h ha wa
    refine ⟨v2, S2, W2, ?_, b2⟩
    unfold zf_X5_prefixed
    rw [if_neg (by decide), if_pos (by decide), b1, mq_cl_s]
theorem dk_atom {pl : Bool} {c : Nat} (hN : 200 ≤ N) (h : dft S W) (h10 : S.1 10 = if pl = true then 0 else 1) (hc : c = 84 ∨ c = 70 ∨ (97 ≤ c ∧ c ≤ 122)) : ∃ v' S' W', zf_X5_markOfAtom N z (nI c) S = some (v', S') ∧ dft S' W' ∧ RM W' v' (atomT pl c) ∧ exw W W' (atomT pl c) ∧ ag [3, 4] [8, 9, 10, 11] [] S S' := by
  have h0 : RM W 0 (.num 0) := ⟨0, rfl, by omega, fun _ => h.2.2.2.1⟩
  rcases hc with rfl | rfl | hc
  · refine ⟨0, S, W, ?_, h, h0, exw_rf _ _, ag_rf⟩
    unfold zf_X5_markOfAtom zf_X5_markOfAtom_12
    rw [if_pos (by decide), if_pos (by decide)]
  · refine ⟨0 ^^^ 1, S, W, ?_, h, RM_deny h0, exw_rf _ _, ag_rf⟩
    unfold zf_X5_markOfAtom zf_X5_markOfAtom_12 zf_X2_deny
    rw [if_neg (by decide), if_pos (by decide), if_neg (by decide), mq_cp_s]
  · obtain ⟨v1, S1, W1, a1, a2, a3, a4, a5⟩ := dk_letter (N := N) (z := z) (l := c - 97) hN h (by omega)
    have h10' : S1.1 10 = if pl = true then 0 else 1 := (a5.1 10 (by decide)).trans h10
    have n84 : ¬ nI c = (84 : Int32) := fun e => by have := sp_inj (b := 84) e (by omega) (by omega); omega
    have n70 : ¬ nI c = (70 : Int32) := fun e => by have := sp_inj (b := 70) e (by omega) (by omega); omega
    have e97 : nI c - 97 = nI (c - 97) := pk_sub (a := c) (b := 97) (by omega)
    have m84 : ¬ c = 84 := by omega
    have m70 : ¬ c = 70 := by omega
    unfold zf_X5_markOfAtom atomT
    rw [if_neg n84, if_neg n70, e97, a1, mq_cl_s, nI_e, h10', if_neg m84, if_neg m70]
    cases pl with
    | true =>
      exact ⟨v1, S1, W1, rfl, a2, a3, a4, a5⟩
    | false =>
      obtain ⟨v2, S2, W2, b1, b2, b3, b4, b5⟩ := dk_need (N := N) (z := z) hN a2 a3 (by show 2 * (c - 97) < 52; omega)
      exact ⟨v2, S2, W2, by rw [if_neg (by decide), b1, mq_cl_s], b2, b3, exw_tr (exw_us a4 (us_mulL _ _)) b4, ag_tr a5 b5⟩
end DOPS
end
/-! 86.parse -/
section
/-! The parser as a function of its own; what holds of it. -/
def nop (G : List Nat) : Nat := G.countP (fun g => decide (g ≤ 3))
def nbi (G : List Nat) : Nat := G.countP (fun g => decide (4 ≤ g))
def tp : List Nat → Prop
  | [] => True
  | g :: _ => ¬ (1 ≤ g ∧ g ≤ 3)
def okG : List Nat → Prop
  | [] => True
  | g :: G => g ≤ 7 ∧ (4 ≤ g → tp G) ∧ okG G
def joinA (pl : Bool) (c : Nat) : List Nat → List Tr → List Nat × List Tr
  | g :: G, y :: x :: V => if c ≤ g then joinA pl c G (comb pl g x y :: V) else (g :: G, y :: x :: V)
  | G, V => (G, V)
def aheadA (pl : Bool) : List Nat → List Tr → List Nat × List Tr
  | g :: G, x :: V => if 1 ≤ g ∧ g ≤ 3 then aheadA pl G (pref pl g x :: V) else (g :: G, x :: V)
  | G, V => (G, V)
abbrev isAt (s : Nat) : Prop := s = 84 ∨ s = 70 ∨ (97 ≤ s ∧ s ≤ 122)
def opc (s : Nat) : Nat := if s = 40 then 0 else if s = 33 then 1 else if s = 91 then 2 else if s = 60 then 3 else 9
def bic (s : Nat) : Nat := if s = 61 then 4 else if s = 62 then 5 else if s = 124 then 6 else if s = 38 then 7 else 0
def jc (s : Nat) : Nat := if s = 5 then 6 else s
def stA (pl : Bool) (s : Nat) (G : List Nat) (V : List Tr) (od : Bool) : Nat × List Nat × List Tr × Bool :=
  if od = true then
    if isAt s then (0, (aheadA pl G (atomT pl s :: V)).1, (aheadA pl G (atomT pl s :: V)).2, false)
    else if opc s ≤ 3 then (if 60 ≤ nop G then (2, G, V, od) else if pl = false ∧ 2 ≤ opc s then (3, G, V, od) else (0, opc s :: G, V, true))
    else (1, G, V, od)
  else if 4 ≤ bic s then (0, bic s :: (joinA pl (jc (bic s)) G V).1, (joinA pl (jc (bic s)) G V).2, true)
  else if s = 41 ∧ 0 < G.count 0 then (0, (aheadA pl (joinA pl 4 G V).1.tail (joinA pl 4 G V).2).1, (aheadA pl (joinA pl 4 G V).1.tail (joinA pl 4 G V).2).2, false)
  else (1, G, V, od)
def sg (B : Nat → Nat) (len p : Nat) : Nat := if B p = 10 then 32 else if B p = 91 then (if p + 1 < len ∧ B (p + 1) = 93 then 91 else 0) else if B p = 60 then (if p + 1 < len ∧ B (p + 1) = 62 then 60 else 0) else B p
def paA (pl : Bool) (B : Nat → Nat) (len : Nat) : Nat → Nat → List Nat → List Tr → Bool → Nat × Nat × List Nat × List Tr × Bool
  | 0, p, G, V, od => (0, p, G, V, od)
  | n + 1, p, G, V, od => if len ≤ p then (0, p, G, V, od) else if sg B len p = 32 then paA pl B len n (p + 1) G V od
    else if (stA pl (sg B len p) G V od).1 = 0 then paA pl B len n (if sg B len p = 91 ∨ sg B len p = 60 then p + 2 else p + 1) (stA pl (sg B len p) G V od).2.1 (stA pl (sg B len p) G V od).2.2.1 (stA pl (sg B len p) G V od).2.2.2
    else ((stA pl (sg B len p) G V od).1, p, G, V, od)
/-- what a state of the parser keeps to -/
def okA (G : List Nat) (V : List Tr) (od : Bool) : Prop := okG G ∧ (od = false → tp G) ∧ V.length = nbi G + (if od = true then 0 else 1) ∧ ∀ v ∈ V, wf v
theorem nop_c (g : Nat) (G : List Nat) : nop (g :: G) = nop G + (if g ≤ 3 then 1 else 0) := by
  unfold nop
  rw [List.countP_cons]
  by_cases h : g ≤ 3
  · rw [if_pos h, if_pos (decide_eq_true h)]
  · rw [if_neg h, if_neg (by rw [decide_eq_true_eq]; exact h)]
theorem nbi_c (g : Nat) (G : List Nat) : nbi (g :: G) = nbi G + (if 4 ≤ g then 1 else 0) := by
  unfold nbi
  rw [List.countP_cons]
  by_cases h : 4 ≤ g
  · rw [if_pos h, if_pos (decide_eq_true h)]
  · rw [if_neg h, if_neg (by rw [decide_eq_true_eq]; exact h)]
theorem cn0_c (g : Nat) (G : List Nat) : (g :: G).count 0 = G.count 0 + (if g = 0 then 1 else 0) := by
  rw [List.count_cons]
  by_cases h : g = 0
  · rw [if_pos h, h]; rfl
  · rw [if_neg h, if_neg (by simpa using h)]
/-- joins: all that is kept -/
theorem joinA_ok {pl : Bool} {c : Nat} (hc : 4 ≤ c) : ∀ (G : List Nat) (V : List Tr), okG G → tp G → V.length = nbi G + 1 → (∀ v ∈ V, wf v) →
    okG (joinA pl c G V).1 ∧ tp (joinA pl c G V).1 ∧ (joinA pl c G V).2.length = nbi (joinA pl c G V).1 + 1 ∧ (∀ v ∈ (joinA pl c G V).2, wf v) ∧ (∀ g G', (joinA pl c G V).1 = g :: G' → g < c) ∧ nop (joinA pl c G V).1 = nop G ∧ (joinA pl c G V).1.count 0 = G.count 0 ∧ (joinA pl c G V).1.length ≤ G.length ∧ (joinA pl c G V).2.length ≤ V.length := by
  intro G
  induction G with
  | nil =>
    intro V h1 h2 h3 h4
    have e : joinA pl c [] V = ([], V) := by unfold joinA; rfl
    rw [e]
    exact ⟨h1, h2, h3, h4, fun g G' q => (by cases q), rfl, rfl, Nat.le_refl _, Nat.le_refl _⟩
  | cons g G ih =>
    intro V h1 h2 h3 h4
    rw [nbi_c] at h3
    match V, h3, h4 with
    | [], h3, _ => exact absurd h3 (by show ¬ 0 = _; omega)
    | [y], h3, h4 =>
      have e : joinA pl c (g :: G) [y] = (g :: G, [y]) := by unfold joinA; rfl
      rw [e]
      have h3 : 1 = nbi G + (if 4 ≤ g then 1 else 0) + 1 := h3
      have hg : ¬ 4 ≤ g := fun q => by rw [if_pos q] at h3; omega
      refine ⟨h1, h2, by rw [nbi_c]; exact h3, h4, fun g' G' q => ?_, rfl, rfl, Nat.le_refl _, Nat.le_refl _⟩
      have := (List.cons.inj q).1
      omega
    | y :: x :: V, h3, h4 =>
      by_cases hg : c ≤ g
      · have e : joinA pl c (g :: G) (y :: x :: V) = joinA pl c G (comb pl g x y :: V) := by rw [joinA]; exact if_pos hg
        rw [e]
        have h3 : V.length + 2 = nbi G + (if 4 ≤ g then 1 else 0) + 1 := h3
        rw [if_pos (by omega)] at h3
        have hw : ∀ v ∈ comb pl g x y :: V, wf v := fun v hv => by
          rcases List.mem_cons.mp hv with q | q
          · rw [q]; exact wf_comb (h4 x (List.mem_cons_of_mem _ List.mem_cons_self)) (h4 y List.mem_cons_self)
          · exact h4 v (List.mem_cons_of_mem _ (List.mem_cons_of_mem _ q))
        obtain ⟨a1, a2, a3, a4, a5, a6, a7, a8, a9⟩ := ih (comb pl g x y :: V) h1.2.2 (h1.2.1 (by omega)) (by show V.length + 1 = _; omega) hw
        refine ⟨a1, a2, a3, a4, a5, ?_, ?_, ?_, ?_⟩
        · rw [a6, nop_c, if_neg (by omega)]; rfl
        · rw [a7, cn0_c, if_neg (by omega)]; rfl
        · exact Nat.le_trans a8 (Nat.le_succ _)
        · exact Nat.le_trans a9 (Nat.le_succ _)
      · have e : joinA pl c (g :: G) (y :: x :: V) = (g :: G, y :: x :: V) := by rw [joinA]; exact if_neg hg
        rw [e]
        refine ⟨h1, h2, by rw [nbi_c]; exact h3, h4, fun g' G' q => ?_, rfl, rfl, Nat.le_refl _, Nat.le_refl _⟩
        have := (List.cons.inj q).1
        omega
theorem aheadA_ok {pl : Bool} : ∀ (G : List Nat) (V : List Tr), okG G → V.length = nbi G + 1 → (∀ v ∈ V, wf v) →
    okG (aheadA pl G V).1 ∧ tp (aheadA pl G V).1 ∧ (aheadA pl G V).2.length = nbi (aheadA pl G V).1 + 1 ∧ (∀ v ∈ (aheadA pl G V).2, wf v) ∧ nop (aheadA pl G V).1 ≤ nop G ∧ (aheadA pl G V).1.count 0 = G.count 0 ∧ (aheadA pl G V).1.length ≤ G.length ∧ (aheadA pl G V).2.length = V.length := by
  intro G
  induction G with
  | nil =>
    intro V h1 h3 h4
    have e : aheadA pl [] V = ([], V) := by unfold aheadA; rfl
    rw [e]
    exact ⟨h1, trivial, h3, h4, Nat.le_refl _, rfl, Nat.le_refl _, rfl⟩
  | cons g G ih =>
    intro V h1 h3 h4
    match V, h3, h4 with
    | [], h3, _ => exact absurd h3 (by show ¬ 0 = _; omega)
    | x :: V, h3, h4 =>
      by_cases hg : 1 ≤ g ∧ g ≤ 3
      · have e : aheadA pl (g :: G) (x :: V) = aheadA pl G (pref pl g x :: V) := by rw [aheadA]; exact if_pos hg
        rw [e]
        rw [nbi_c, if_neg (by omega)] at h3
        obtain ⟨a1, a2, a3, a4, a5, a6, a7, a8⟩ := ih (pref pl g x :: V) h1.2.2 h3 (fun v hv => by
          rcases List.mem_cons.mp hv with q | q
          · rw [q]; exact wf_pref (h4 x List.mem_cons_self)
          · exact h4 v (List.mem_cons_of_mem _ q))
        refine ⟨a1, a2, a3, a4, ?_, ?_, ?_, a8⟩
        · rw [nop_c]; omega
        · rw [a6, cn0_c, if_neg (by omega)]; rfl
        · exact Nat.le_trans a7 (Nat.le_succ _)
      · have e : aheadA pl (g :: G) (x :: V) = (g :: G, x :: V) := by rw [aheadA]; exact if_neg hg
        rw [e]
        exact ⟨h1, hg, h3, h4, Nat.le_refl _, rfl, Nat.le_refl _, rfl⟩
/-- joined down to a bracket, or to nothing -/
theorem joinA_4 {pl : Bool} {G : List Nat} {V : List Tr} (h1 : okG G) (h2 : tp G) (h3 : V.length = nbi G + 1) (h4 : ∀ v ∈ V, wf v) : (G.count 0 = 0 → (joinA pl 4 G V).1 = []) ∧ (0 < G.count 0 → ∃ G', (joinA pl 4 G V).1 = 0 :: G') := by
  obtain ⟨a1, a2, a3, a4, a5, a6, a7, a8, a9⟩ := joinA_ok (pl := pl) (c := 4) (Nat.le_refl _) G V h1 h2 h3 h4
  match hq : (joinA pl 4 G V).1 with
  | [] =>
    rw [hq] at a7
    exact ⟨fun _ => rfl, fun q => by rw [← a7] at q; exact absurd q (by decide)⟩
  | g :: G' =>
    have h := a5 g G' hq
    rw [hq] at a2
    have a2 : ¬ (1 ≤ g ∧ g ≤ 3) := a2
    have g0 : g = 0 := by omega
    subst g0
    refine ⟨fun q => ?_, fun _ => ⟨G', rfl⟩⟩
    rw [hq, cn0_c, if_pos rfl] at a7
    omega
theorem stA_ok {pl : Bool} {s : Nat} {G : List Nat} {V : List Tr} {od : Bool} (h : okA G V od) (h0 : (stA pl s G V od).1 = 0) : okA (stA pl s G V od).2.1 (stA pl s G V od).2.2.1 (stA pl s G V od).2.2.2 ∧ (stA pl s G V od).2.1.length ≤ G.length + 1 ∧ (stA pl s G V od).2.2.1.length ≤ V.length + 1 := by
  obtain ⟨h1, h2, h3, h4⟩ := h
  unfold stA at h0 ⊢
  cases od with
  | true =>
    rw [if_pos rfl] at h0 ⊢
    by_cases ha : isAt s
    · rw [if_pos ha]
      obtain ⟨a1, a2, a3, a4, a5, a6, a7, a8⟩ := aheadA_ok (pl := pl) G (atomT pl s :: V) h1 (by show V.length + 1 = _; rw [h3]; rfl) (fun v hv => by
        rcases List.mem_cons.mp hv with q | q
        · rw [q]; exact wf_atom ha
        · exact h4 v q)
      exact ⟨⟨a1, fun _ => a2, a3, a4⟩, Nat.le_trans a7 (Nat.le_succ _), Nat.le_of_eq a8⟩
    · rw [if_neg ha] at h0 ⊢
      by_cases ho : opc s ≤ 3
      · rw [if_pos ho] at h0 ⊢
        by_cases h60 : 60 ≤ nop G
        · rw [if_pos h60] at h0; exact absurd h0 (show ¬ (2 : Nat) = 0 by decide)
        · rw [if_neg h60] at h0 ⊢
          by_cases hp : pl = false ∧ 2 ≤ opc s
          · rw [if_pos hp] at h0; exact absurd h0 (show ¬ (3 : Nat) = 0 by decide)
          · rw [if_neg hp]
            refine ⟨⟨⟨by omega, fun q => by omega, h1⟩, fun q => (by cases q), ?_, h4⟩, Nat.le_refl _, Nat.le_succ _⟩
            rw [nbi_c, if_neg (by omega)]
            exact h3
      · rw [if_neg ho] at h0; exact absurd h0 (show ¬ (1 : Nat) = 0 by decide)
  | false =>
    rw [if_neg (by decide)] at h0 ⊢
    have h2 := h2 rfl
    have h3 : V.length = nbi G + 1 := h3
    by_cases hb : 4 ≤ bic s
    · rw [if_pos hb]
      have hb7 : bic s ≤ 7 := by unfold bic; repeat' split <;> try omega
      obtain ⟨a1, a2, a3, a4, a5, a6, a7, a8, a9⟩ := joinA_ok (pl := pl) (c := jc (bic s)) (by unfold jc; split <;> omega) G V h1 h2 h3 h4
      refine ⟨⟨⟨hb7, fun _ => a2, a1⟩, fun q => (by cases q), ?_, a4⟩, Nat.succ_le_succ a8, Nat.le_succ_of_le a9⟩
      rw [nbi_c, if_pos hb]
      exact a3
    · rw [if_neg hb] at h0 ⊢
      by_cases hc : s = 41 ∧ 0 < G.count 0
      · rw [if_pos hc]
        obtain ⟨a1, a2, a3, a4, a5, a6, a7, a8, a9⟩ := joinA_ok (pl := pl) (c := 4) (Nat.le_refl _) G V h1 h2 h3 h4
        obtain ⟨G', e⟩ := (joinA_4 (pl := pl) h1 h2 h3 h4).2 hc.2
        rw [e] at a1 a3 a8 ⊢
        rw [nbi_c, if_neg (by omega)] at a3
        obtain ⟨b1, b2, b3, b4, b5, b6, b7, b8⟩ := aheadA_ok (pl := pl) G' (joinA pl 4 G V).2 a1.2.2 a3 a4
        have a8 : G'.length + 1 ≤ G.length := a8
        refine ⟨⟨b1, fun _ => b2, b3, b4⟩, ?_, ?_⟩
        · show (aheadA pl G' (joinA pl 4 G V).2).1.length ≤ _; omega
        · show (aheadA pl G' (joinA pl 4 G V).2).2.length ≤ _; omega
      · rw [if_neg hc] at h0; exact absurd h0 (show ¬ (1 : Nat) = 0 by decide)
end
/-! 87.readc -/
section
/-! The class's reader does what the parser does. -/
def onG (arr : Nat → Int32) : List Nat → Prop
  | [] => True
  | g :: G => arr G.length = chr g ∧ onG arr G
def onV (W : List Tr) (arr : Nat → Int32) : List Tr → Prop
  | [] => True
  | t :: V => RM W (arr V.length) t ∧ onV W arr V
theorem onG_upd {arr : Nat → Int32} {k : Nat} {v : Int32} : ∀ {G : List Nat}, G.length ≤ k → onG arr G → onG (upd arr k v) G
  | [], _, _ => trivial
  | g :: G, hk, h => by
    have hk : G.length + 1 ≤ k := hk
    exact ⟨by rw [up_o (by omega)]; exact h.1, onG_upd (by omega) h.2⟩
theorem onV_upd {W : List Tr} {arr : Nat → Int32} {k : Nat} {v : Int32} : ∀ {V : List Tr}, V.length ≤ k → onV W arr V → onV W (upd arr k v) V
  | [], _, _ => trivial
  | g :: V, hk, h => by
    have hk : V.length + 1 ≤ k := hk
    exact ⟨by rw [up_o (by omega)]; exact h.1, onV_upd (by omega) h.2⟩
theorem onV_exw {W W' : List Tr} {u : Tr} (e : exw W W' u) {arr : Nat → Int32} : ∀ {V : List Tr}, onV W arr V → onV W' arr V
  | [], _ => trivial
  | _ :: _, h => ⟨RM_exw h.1 e, onV_exw e h.2⟩
def used (W V : List Tr) : Prop := ∀ w ∈ W, w = .num 0 ∨ ∃ v ∈ V, us w v
theorem used_go {W W' V V' : List Tr} {t : Tr} (h : used W V) (hv : ∀ v ∈ V, ∃ v' ∈ V', us v v') (e : exw W W' t) (ht : t ∈ V') : used W' V' := by
  obtain ⟨X, rfl, hX⟩ := e
  intro w hw
  rcases List.mem_append.mp hw with q | q
  · rcases h w q with e | ⟨v, hv1, hu⟩
    · exact Or.inl e
    · obtain ⟨v', h1, h2⟩ := hv v hv1
      exact Or.inr ⟨v', h1, us_tr hu h2⟩
  · exact Or.inr ⟨t, ht, hX w q⟩
def rdC (S : mq_St) (G : List Nat) (V : List Tr) (od pl : Bool) (W : List Tr) : Prop :=
  S.1 5 = nI G.length ∧ onG (S.2.1 13) G ∧ S.1 6 = nI V.length ∧ onV W (S.2.1 14) V ∧ S.1 7 = nI (nop G) ∧ S.1 8 = nI (G.count 0) ∧ S.1 9 = (if od = true then 1 else 0) ∧ S.1 10 = (if pl = true then 0 else 1) ∧ dft S W ∧ used W V
section RDC
variable {N : Nat} {z : Nat → Nat} {S : mq_St} {W : List Tr} {pl od : Bool}
theorem rc_pop {n : Nat} (h : S.1 6 = nI (n + 1)) (hn : n < 400) : zf_X5_popMark N z S = some (S.2.1 14 n, mq_si S 6 (nI n)) := by
  unfold zf_X5_popMark
  have h0 : (0 : Int32) < nI (n + 1) := nI_lt (a := 0) (b := n + 1) (by omega) (by omega)
  rw [h, if_pos h0, nS_e, nI_pred]
  show mq_ck (nI n) 400 (some (S.2.1 14 (nI n).toNatClampNeg, _)) = _
  rw [mq_ck_of (vp_in_nI hn (by omega)), nI_clamp (by omega)]
theorem rc_push {n : Nat} (v : Int32) (h : S.1 6 = nI n) (hn : n < 400) : zf_X5_pushMark N z v S = some ((), mq_si (mq_sa S 14 (upd (S.2.1 14) n v)) 6 (nI (n + 1))) := by
  unfold zf_X5_pushMark
  have h0 : ¬ (400 : Int32) ≤ nI n := nI_ge (a := n) (b := 400) hn (by omega)
  rw [h, if_neg h0, mq_ck_of (vp_in_nI hn (by omega)), nI_clamp (by omega), nS_e, nS_e, sa_1, h, nI_1]
theorem rc_sign {n : Nat} (v : Int32) (h : S.1 5 = nI n) (hn : n < 400) : zf_X5_pushSign N z v S = some ((), mq_si (mq_sa S 13 (upd (S.2.1 13) n v)) 5 (nI (n + 1))) := by
  unfold zf_X5_pushSign
  have h0 : ¬ (400 : Int32) ≤ nI n := nI_ge (a := n) (b := 400) hn (by omega)
  rw [h, if_neg h0, mq_ck_of (vp_in_nI hn (by omega)), nI_clamp (by omega), nS_e, nS_e, sa_1, h, nI_1]
theorem rc_top {n : Nat} (h : S.1 5 = nI (n + 1)) (hn : n < 400) : zf_X5_topSign N z S = some (S.2.1 13 n) := by
  unfold zf_X5_topSign
  rw [h, if_neg (nI_nle (by omega) (by omega)), nI_pred, mq_ck_of (vp_in_nI hn (by omega)), nI_clamp (by omega)]
theorem rc_rank {g : Nat} (hg : g ≤ 7) : zf_X5_rankOf N z (chr g) S = some (nI (g - 3)) := by
  unfold zf_X5_rankOf
  have : g = 0 ∨ g = 1 ∨ g = 2 ∨ g = 3 ∨ g = 4 ∨ g = 5 ∨ g = 6 ∨ g = 7 := by omega
  rcases this with rfl | rfl | rfl | rfl | rfl | rfl | rfl | rfl <;> rfl
theorem rc_join {r : Nat} (hN : 200 ≤ N) (hr : 1 ≤ r ∧ r ≤ 5) : ∀ (G : List Nat) (V : List Tr) (S : mq_St) (W : List Tr) (fuel : Nat), rdC S G V od pl W → okG G → tp G → V.length = nbi G + 1 → (∀ v ∈ V, wf v) → G.length < fuel → G.length ≤ 400 → V.length ≤ 400 →
    ∃ S' W', zf_X5_joinDownTo_5 N z fuel (nI r) (nI G.length) S = some ((), S') ∧ rdC S' (joinA pl (r + 3) G V).1 (joinA pl (r + 3) G V).2 od pl W' ∧ ag [3, 4, 5, 6] [8, 9, 10, 11, 14] [] S S' := by
  intro G
  induction G with
  | nil =>
    intro V S W fuel h _ _ _ _ hf _ _
    obtain ⟨fu, rfl⟩ : ∃ q, fuel = q + 1 := ⟨fuel - 1, by omega⟩
    have e : joinA pl (r + 3) [] V = ([], V) := by unfold joinA; rfl
    rw [e]
    refine ⟨S, W, ?_, h, ag_rf⟩
    show zf_X5_joinDownTo_5b N z _ (nI r) (nI 0) S = _
    unfold zf_X5_joinDownTo_5b
    rw [if_pos (by decide)]
  | cons g G ih =>
    intro V S W fuel h hG ht hV hw hf hGl hVl
    obtain ⟨fu, rfl⟩ : ∃ q, fuel = q + 1 := ⟨fuel - 1, by omega⟩
    have hf : G.length + 1 < fu + 1 := hf
    have hGl : G.length + 1 ≤ 400 := hGl
    have hall := h
    obtain ⟨c5, cG, c6, cV, c7, c8, c9, c10, cd, cu⟩ := h
    have c5 : S.1 5 = nI (G.length + 1) := c5
    have hg7 := hG.1
    have hsh : zf_X5_joinDownTo_5 N z (fu + 1) (nI r) (nI (g :: G).length) S = zf_X5_joinDownTo_5b N z (fun v1 v2 S => zf_X5_joinDownTo_5 N z fu v1 v2 S) (nI r) (nI (G.length + 1)) S := rfl
    rw [hsh]
    unfold zf_X5_joinDownTo_5b
    rw [if_neg (nI_nle (by omega) (by omega)), rc_top c5 (by omega), mq_cp_s, cG.1, rc_rank hg7, mq_cp_s]
    rw [nbi_c] at hV
    by_cases hg : r + 3 ≤ g
    · rw [if_pos (show 4 ≤ g by omega)] at hV
      match V, hV, hw, hVl, c6, cV, cu, hall with
      | [], hV, _, _, _, _, _, _ => exact absurd hV (by show ¬ 0 = _; omega)
      | [_], hV, _, _, _, _, _, _ => exact absurd hV (by show ¬ 1 = _; omega)
      | y :: x :: V, hV, hw, hVl, c6, cV, cu, hall =>
        have e : joinA pl (r + 3) (g :: G) (y :: x :: V) = joinA pl (r + 3) G (comb pl g x y :: V) := by rw [joinA]; exact if_pos hg
        rw [e]
        have hVl : V.length + 2 ≤ 400 := hVl
        have hV : V.length + 2 = nbi G + 1 + 1 := hV
        have wx := hw x (List.mem_cons_of_mem _ List.mem_cons_self)
        have wy := hw y List.mem_cons_self
        rw [if_neg (nI_nlt (a := g - 3) (b := r) (by omega) (by omega)), mq_cp_s, nI_e, nS_e, c5, nI_pred]
        rw [rc_pop (n := V.length + 1) (S := mq_si S 5 (nI G.length)) c6 (by omega), mq_cl_s, nI_e, rc_pop (n := V.length) rfl (by omega), mq_cl_s, nI_e]
        obtain ⟨v', S1, W1, a1, a2, a3, a4, a5⟩ := dk_joined (N := N) (z := z) (S := mq_si (mq_si (mq_si S 5 (nI G.length)) 6 (nI (V.length + 1))) 6 (nI V.length)) (pl := pl) (g := g) (v := S.2.1 14 V.length) (u := S.2.1 14 (V.length + 1)) hN (dft_c cd rfl rfl rfl rfl rfl rfl) c10 (by omega) cV.2.1 cV.1 wx wy
        have a1' : zf_X5_joined N z (chr g) ((mq_si (mq_si S 5 (nI G.length)) 6 (nI (V.length + 1))).2.1 14 V.length) ((mq_si S 5 (nI G.length)).2.1 14 (V.length + 1)) (mq_si (mq_si (mq_si S 5 (nI G.length)) 6 (nI (V.length + 1))) 6 (nI V.length)) = some (v', S1) := a1
        rw [a1', mq_cl_s, rc_push (n := V.length) v' (a5.1 6 (by decide)) (by omega), mq_cl_s, pk_m1, nI_e]
        have k13 : S1.2.1 13 = S.2.1 13 := a5.2.1 13 (by decide)
        have k14 : S1.2.1 14 = S.2.1 14 := a5.2.1 14 (by decide)
        obtain ⟨S2, W2, b1, b2, b3⟩ := ih (comb pl g x y :: V) (mq_si (mq_sa S1 14 (upd (S1.2.1 14) V.length v')) 6 (nI (V.length + 1))) W1 fu ⟨a5.1 5 (by decide), by
          show onG (S1.2.1 13) G
          rw [k13]
          exact cG.2, rfl, ⟨by
          show RM W1 (upd (S1.2.1 14) V.length v' V.length) _
          rw [up_s]
          exact a3, by
          show onV W1 (upd (S1.2.1 14) V.length v') V
          rw [k14]
          exact onV_upd (Nat.le_refl _) (onV_exw a4 cV.2.2)⟩, by
          show S1.1 7 = _
          rw [a5.1 7 (by decide)]
          show S.1 7 = _
          rw [c7, nop_c, if_neg (by omega)]
          rfl, by
          show S1.1 8 = _
          rw [a5.1 8 (by decide)]
          show S.1 8 = _
          rw [c8, cn0_c, if_neg (by omega)]
          rfl, (a5.1 9 (by decide)).trans c9, (a5.1 10 (by decide)).trans c10, dft_c a2 rfl rfl rfl rfl rfl rfl, used_go cu (fun v hv => by
          rcases List.mem_cons.mp hv with q | q
          · rw [q]; exact ⟨_, List.mem_cons_self, (us_comb pl g x y).2⟩
          · rcases List.mem_cons.mp q with q | q
            · rw [q]; exact ⟨_, List.mem_cons_self, (us_comb pl g x y).1⟩
            · exact ⟨v, List.mem_cons_of_mem _ q, us_rf v⟩) a4 List.mem_cons_self⟩ hG.2.2 (hG.2.1 (by omega)) (by show V.length + 1 = _; omega) (fun v hv => by
          rcases List.mem_cons.mp hv with q | q
          · rw [q]; exact wf_comb wx wy
          · exact hw v (List.mem_cons_of_mem _ (List.mem_cons_of_mem _ q))) (by omega) (by omega) (by show V.length + 1 ≤ 400; omega)
        refine ⟨S2, W2, b1, b2, ?_⟩
        refine ag_tr ?_ b3
        refine ag_tr ?_ (ag_si (by decide))
        refine ag_tr ?_ (ag_sa (by decide))
        refine ag_tr ?_ (ag_mono a5 (by decide) (by decide) (by decide))
        exact ag_tr (ag_tr (ag_si (by decide)) (ag_si (by decide))) (ag_si (by decide))
    · have e : joinA pl (r + 3) (g :: G) V = (g :: G, V) := by
        match V with
        | [] => unfold joinA; rfl
        | [_] => unfold joinA; rfl
        | y :: x :: V => rw [joinA]; exact if_neg hg
      rw [e]
      rw [if_pos (nI_lt (a := g - 3) (b := r) (by omega) (by omega))]
      exact ⟨S, W, rfl, hall, ag_rf⟩
end RDC
end
