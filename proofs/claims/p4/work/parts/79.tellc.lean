/-! tell, the class's side: the writer. -/
theorem sh_2 {f s : Nat} (hs : s < 4) (hf : f < 1000) : nI (4 * f + s) >>> ((2 : Int32) &&& 31) = nI f ∧ nI (4 * f + s) &&& 3 = nI s := by
  constructor
  · have := pk_shrN (n := 4 * f + s) (by omega) ((2 : Int32) &&& 31) 2 (by decide)
    rw [this]
    congr 1
    show (4 * f + s) / 4 = f
    omega
  · have := pk_andN (n := 4 * f + s) (by omega) (m := 3) 2 (by decide)
    rw [this]
    congr 1
    show (4 * f + s) % 4 = s
    omega
theorem wr_turn {N : Nat} {z : Nat → Nat} {S : mq_St} {D : List Int32} {fuel t e f s : Nat} (hs : s < 4) (hf : f < 300) (he : e < 300) (ht : t < 1000000) (hD : D.length < 400) (h13 : S.1 13 = nI (e + 1)) (hw : S.2.1 15 e = nI (4 * f + s)) (hc : tc S D) :
    zf_X9_write_21 N z (fuel + 1) (nI t) S = mq_cl (zf_X9_goOn N z (nI f) (nI s) (mq_sa S 15 (upd (S.2.1 15) e (nI (4 * f + s + 1))))) (fun _ S' => zf_X9_write_21 N z fuel (nI (t + 1)) S') := by
  have e1 : min D.length 400 = D.length := by omega
  obtain ⟨q1, q2⟩ := sh_2 (f := f) hs (by omega)
  have h1 : S.1 1 = nI D.length := by have := hc.1; rw [e1] at this; exact this
  show zf_X9_write_21b N z _ (nI t) S = _
  unfold zf_X9_write_21b
  rw [show zf_X0_size N z (mq_pull S [1] [3] []) = some (S.1 1) from rfl]
  simp -implicitDefEqProofs (disch := omega) only [↓nS_e, ↓nI_e, ↓nL_e, mq_cl_s, mq_cp_s, si_1, si_2, sa_1, sa_2, sa_3, sl_1, sl_2, sl_3, ↓reduceIte, Nat.reduceEqDiff, Nat.reduceAdd, Nat.reduceSub, reduceCtorEq, eq_self, sp_leT, sp_leF, sp_ltT, sp_ltF, sp_eqT, sp_eqF, sp_m1, sp_m1', sp_ml, sp_mle, sp_mlt, sp_mle', sp_m1s, sp_lt0, sp_le0, sp_ck, sp_cl, sp_ad, sp_su, sp_ne, sp_cz, sp_a1, sp_a0, sp_0a, up_s, up_o, L0, L1, L2, L3, L4, L5, L6, L7, L8, L9, L10, L16, L20, L24, L32, L60, L300, L400, L470, L64, L320, L150, L1299, L1300, L97, L122, L84, L70, L33, L40, L41, L62, L91, L93, L38, L124, L61, L31, L63, L600, L1000000, L100000, L4000, L3000, L2000, L410, L3600, h1, h13, hw]
  rw [show nI (4 * f + s) >>> (nI 2 &&& nI 31) = nI f from q1, show nI (4 * f + s) &&& nI 3 = nI s from q2]
theorem wr_full {N : Nat} {z : Nat → Nat} {S : mq_St} {D : List Int32} {fuel : Nat} (v : Int32) (hD : 400 ≤ D.length) (hc : tc S D) : zf_X9_write_21 N z (fuel + 1) v S = some ((), S) := by
  have e1 : min D.length 400 = 400 := by omega
  have h1 : S.1 1 = nI 400 := by have := hc.1; rw [e1] at this; exact this
  show zf_X9_write_21b N z _ v S = _
  unfold zf_X9_write_21b
  rw [show zf_X0_size N z (mq_pull S [1] [3] []) = some (S.1 1) from rfl, h1, mq_cp_s, if_pos (by decide : (400 : Int32) ≤ nI 400)]
  by_cases a : (1000000 : Int32) ≤ v
  · rw [if_pos a]
  · rw [if_neg a]
    by_cases b : S.1 13 ≤ 0
    · rw [if_pos b]
    · rw [if_neg b]
section WR
variable {N n : Nat} {z : Nat → Nat} {S : mq_St} {D : List Int32} {f e : Nat} {so on tw : Nat → Int32}
theorem wr_enter (h13 : S.1 13 = nI e) (he : e < 300) (a : Nat) : zf_X9_enter N z (nI a) S = some ((), mq_si (mq_sa S 15 (upd (S.2.1 15) e (nI (4 * a)))) 13 (nI (e + 1))) := by
  unfold zf_X9_enter
  simp -implicitDefEqProofs (disch := omega) only [↓nS_e, ↓nI_e, ↓nL_e, mq_cl_s, mq_cp_s, si_1, si_2, sa_1, sa_2, sa_3, sl_1, sl_2, sl_3, ↓reduceIte, Nat.reduceEqDiff, Nat.reduceAdd, Nat.reduceSub, reduceCtorEq, eq_self, sp_leT, sp_leF, sp_ltT, sp_ltF, sp_eqT, sp_eqF, sp_m1, sp_m1', sp_ml, sp_mle, sp_mlt, sp_mle', sp_m1s, sp_lt0, sp_le0, sp_ck, sp_cl, sp_ad, sp_su, sp_ne, sp_cz, sp_a1, sp_a0, sp_0a, up_s, up_o, L0, L1, L2, L3, L4, L5, L6, L7, L8, L9, L10, L16, L20, L24, L32, L60, L300, L400, L470, L64, L320, L150, L1299, L1300, L97, L122, L84, L70, L33, L40, L41, L62, L91, L93, L38, L124, L61, L31, L63, L600, L1000000, L100000, L4000, L3000, L2000, L410, L3600, h13, sp_mu]
theorem wr_atom (hn : S.1 2 = nI n) (h3 : n ≤ 300) (hf : f < n) (hso : S.2.1 4 = so) (hon : S.2.1 5 = on) (s : Int32) (hs : so f = 0 ∨ so f = 1 ∨ so f = 2 ∨ so f = 3) (h13 : S.1 13 = nI (e + 1)) (hc : tc S D) :
    ∃ S', zf_X9_goOn N z (nI f) s S = some ((), S') ∧ tc S' (D ++ tx so on tw f) ∧ S'.1 13 = nI e ∧ ag [1, 13] [3] [] S S' := by
  obtain ⟨i1, i2, -, -⟩ := ck_in (N := N) (z := z) hn h3 hf
  rw [hso] at i1
  rw [hon] at i2
  have fin : ∀ {S1 : mq_St}, ag [1] [3] [] S S1 → S1.1 13 - 1 = nI e := fun q => by rw [q.1 13 (by decide), h13, nI_pred]
  have m : ∀ {S1 S2 : mq_St}, ag [1] [3] [] S1 S2 → ag [1, 13] [3] [] S1 S2 := fun h => ag_mono h (by decide) (by decide) (by decide)
  unfold zf_X9_goOn
  rw [i1, mq_cp_s, i2]
  rcases hs with q | q | q | q
  · obtain ⟨S1, a1, a2, a3⟩ := ck_emit (N := N) (z := z) 84 hc
    refine ⟨mq_si S1 13 (S1.1 13 - 1), ?_, ?_, fin a3, ag_tr (m a3) (ag_si (by decide))⟩
    · rw [q, nI_e, if_neg (by decide), mq_cp_s]
      unfold zf_X9_writeAtom
      rw [if_pos rfl, a1, mq_cl_s, mq_cl_s, nS_e]
    · rw [tx_0 q]; exact a2
  · obtain ⟨S1, a1, a2, a3⟩ := ck_emit (N := N) (z := z) 70 hc
    refine ⟨mq_si S1 13 (S1.1 13 - 1), ?_, ?_, fin a3, ag_tr (m a3) (ag_si (by decide))⟩
    · rw [q, nI_e, if_neg (by decide), mq_cp_s]
      unfold zf_X9_writeAtom
      rw [if_neg (by decide), if_pos rfl, a1, mq_cl_s, mq_cl_s, nS_e]
    · rw [tx_1 q]; exact a2
  · obtain ⟨S1, a1, a2, a3⟩ := ck_emit (N := N) (z := z) (97 + on f) hc
    refine ⟨mq_si S1 13 (S1.1 13 - 1), ?_, ?_, fin a3, ag_tr (m a3) (ag_si (by decide))⟩
    · rw [q, nI_e, if_neg (by decide), mq_cp_s]
      unfold zf_X9_writeAtom zf_X9_writeAtom_38
      rw [if_neg (by decide), if_neg (by decide), if_neg (by decide), a1, mq_cl_s, mq_cl_s, nS_e]
    · rw [tx_2 q]; exact a2
  · obtain ⟨S0, b1, b2, b3⟩ := ck_emit (N := N) (z := z) 33 hc
    obtain ⟨S1, a1, a2, a3⟩ := ck_emit (N := N) (z := z) (97 + on f) b2
    refine ⟨mq_si S1 13 (S1.1 13 - 1), ?_, ?_, fin (ag_tr b3 a3), ag_tr (m (ag_tr b3 a3)) (ag_si (by decide))⟩
    · rw [q, nI_e, if_neg (by decide), mq_cp_s]
      unfold zf_X9_writeAtom zf_X9_writeAtom_38
      rw [if_neg (by decide), if_neg (by decide), if_pos rfl, b1, mq_cl_s, a1, mq_cl_s, mq_cl_s, nS_e]
    · rw [tx_3 q]
      rw [List.append_assoc] at a2
      exact a2
/-- one part: its sign is written, the part entered -/
theorem wr_one0 (hn : S.1 2 = nI n) (h3 : n ≤ 300) (hf : f < n) (hso : S.2.1 4 = so) (hon : S.2.1 5 = on) {a : Nat} (ha : on f = nI a) (hs : so f = 6 ∨ so f = 7) (h13 : S.1 13 = nI e) (he : e < 300) (hc : tc S D) :
    ∃ S', zf_X9_goOn N z (nI f) 0 S = some ((), S') ∧ tc S' (D ++ (if so f = 6 then [91, 93] else [60, 62])) ∧ S'.1 13 = nI (e + 1) ∧ S'.2.1 15 e = nI (4 * a) ∧ (∀ i, ¬ i = e → S'.2.1 15 i = S.2.1 15 i) ∧ ag [1, 13] [3, 15] [] S S' := by
  obtain ⟨i1, -, -, -⟩ := ck_in (N := N) (z := z) hn h3 hf
  rw [hso] at i1
  obtain ⟨S1, a1, a2, a3⟩ := ck_emit (N := N) (z := z) (if so f = 6 then 91 else 60) hc
  obtain ⟨S2, b1, b2, b3⟩ := ck_emit (N := N) (z := z) (if so f = 6 then 93 else 62) a2
  have g := ag_tr a3 b3
  obtain ⟨-, i2, -, -⟩ := ck_in (N := N) (z := z) (S := S2) ((g.1 2 (by decide)).trans hn) h3 hf
  rw [g.2.1 5 (by decide), hon, ha] at i2
  have j13 : S2.1 13 = nI e := (g.1 13 (by decide)).trans h13
  refine ⟨_, ?_, ?_, ?_, ?_, ?_, ag_tr (ag_tr (ag_mono g (by decide) (by decide) (by decide)) (ag_sa (k := 15) (f := upd (S2.2.1 15) e (nI (4 * a))) (by decide))) (ag_si (k := 13) (v := nI (e + 1)) (by decide))⟩
  · unfold zf_X9_goOn
    rw [i1, mq_cp_s]
    rcases hs with q | q
    · rw [q, if_pos rfl] at a1 b1
      rw [q, nI_e, if_pos (by decide), if_pos rfl]
      unfold zf_X9_goOn_52 zf_X9_goOnWithOne zf_X9_goOnWithOne_18 zf_X9_goOnWithOne_35
      rw [if_pos rfl, if_pos rfl, a1, mq_cl_s, if_pos rfl, b1, mq_cl_s, i2, mq_cp_s, wr_enter j13 he, mq_cl_s, mq_cl_s]
    · rw [q, if_neg (by decide)] at a1 b1
      rw [q, nI_e, if_pos (by decide), if_neg (by decide), if_pos rfl]
      unfold zf_X9_goOn_52 zf_X9_goOnWithOne zf_X9_goOnWithOne_18 zf_X9_goOnWithOne_35
      rw [if_pos rfl, if_neg (by decide), a1, mq_cl_s, if_neg (by decide), b1, mq_cl_s, i2, mq_cp_s, wr_enter j13 he, mq_cl_s, mq_cl_s]
  · rw [List.append_assoc] at b2
    rcases hs with q | q
    · rw [q, if_pos rfl]
      rw [q, if_pos rfl, if_pos rfl] at b2
      exact b2
    · rw [q, if_neg (by decide)]
      rw [q, if_neg (by decide), if_neg (by decide)] at b2
      exact b2
  · rfl
  · show upd (S2.2.1 15) e (nI (4 * a)) e = _
    exact up_s _ _ _
  · intro i hi
    show upd (S2.2.1 15) e (nI (4 * a)) i = _
    rw [up_o hi, g.2.1 15 (by decide)]
theorem wr_one1 (hn : S.1 2 = nI n) (h3 : n ≤ 300) (hf : f < n) (hso : S.2.1 4 = so) (hs : so f = 6 ∨ so f = 7) (h13 : S.1 13 = nI (e + 1)) : zf_X9_goOn N z (nI f) (nI 1) S = some ((), mq_si S 13 (nI e)) := by
  obtain ⟨i1, -, -, -⟩ := ck_in (N := N) (z := z) hn h3 hf
  rw [hso] at i1
  unfold zf_X9_goOn
  rw [i1, mq_cp_s]
  rcases hs with q | q
  · rw [q, nI_e, if_pos (by decide), if_pos rfl]
    unfold zf_X9_goOn_52 zf_X9_goOnWithOne
    rw [if_neg (by decide), nS_e, mq_cl_s, h13, nI_pred]
  · rw [q, nI_e, if_pos (by decide), if_neg (by decide), if_pos rfl]
    unfold zf_X9_goOn_52 zf_X9_goOnWithOne
    rw [if_neg (by decide), nS_e, mq_cl_s, h13, nI_pred]
theorem wr_two (hn : S.1 2 = nI n) (h3 : n ≤ 300) (hf : f < n) (hso : S.2.1 4 = so) (hs : so f = 4 ∨ so f = 5) (s : Int32) : zf_X9_goOn N z (nI f) s S = mq_cl (zf_X9_goOnWithTwo N z (nI f) (so f) s S) (fun _ S6 => some ((), S6)) := by
  obtain ⟨i1, -, -, -⟩ := ck_in (N := N) (z := z) hn h3 hf
  rw [hso] at i1
  unfold zf_X9_goOn
  rw [i1, mq_cp_s]
  rcases hs with q | q
  · rw [q, nI_e, if_pos (by decide), if_neg (by decide), if_neg (by decide)]
  · rw [q, nI_e, if_pos (by decide), if_neg (by decide), if_neg (by decide)]
theorem wr_two0 (hn : S.1 2 = nI n) (h3 : n ≤ 300) (hf : f < n) (hso : S.2.1 4 = so) (hon : S.2.1 5 = on) {a : Nat} (ha : on f = nI a) (hs : so f = 4 ∨ so f = 5) (h13 : S.1 13 = nI e) (he : e < 300) (hc : tc S D) :
    ∃ S', zf_X9_goOn N z (nI f) 0 S = some ((), S') ∧ tc S' (D ++ [40]) ∧ S'.1 13 = nI (e + 1) ∧ S'.2.1 15 e = nI (4 * a) ∧ (∀ i, ¬ i = e → S'.2.1 15 i = S.2.1 15 i) ∧ ag [1, 13] [3, 15] [] S S' := by
  obtain ⟨S1, a1, a2, a3⟩ := ck_emit (N := N) (z := z) 40 hc
  obtain ⟨-, i2, -, -⟩ := ck_in (N := N) (z := z) (S := S1) ((a3.1 2 (by decide)).trans hn) h3 hf
  rw [a3.2.1 5 (by decide), hon, ha] at i2
  have j13 : S1.1 13 = nI e := (a3.1 13 (by decide)).trans h13
  refine ⟨mq_si (mq_sa S1 15 (upd (S1.2.1 15) e (nI (4 * a)))) 13 (nI (e + 1)), ?_, a2, rfl, ?_, ?_, ag_tr (ag_tr (ag_mono a3 (by decide) (by decide) (by decide)) (ag_sa (k := 15) (f := upd (S1.2.1 15) e (nI (4 * a))) (by decide))) (ag_si (k := 13) (v := nI (e + 1)) (by decide))⟩
  · rw [wr_two hn h3 hf hso hs]
    unfold zf_X9_goOnWithTwo
    rw [if_pos rfl, a1, mq_cl_s, i2, mq_cp_s, wr_enter j13 he, mq_cl_s, mq_cl_s]
  · show upd (S1.2.1 15) e (nI (4 * a)) e = _
    exact up_s _ _ _
  · intro i hi
    show upd (S1.2.1 15) e (nI (4 * a)) i = _
    rw [up_o hi, a3.2.1 15 (by decide)]
theorem wr_two1 (hn : S.1 2 = nI n) (h3 : n ≤ 300) (hf : f < n) (hso : S.2.1 4 = so) (htw : S.2.1 6 = tw) {a : Nat} (ha : tw f = nI a) (hs : so f = 4 ∨ so f = 5) (h13 : S.1 13 = nI e) (he : e < 300) (hc : tc S D) :
    ∃ S', zf_X9_goOn N z (nI f) (nI 1) S = some ((), S') ∧ tc S' (D ++ [if so f = 4 then 38 else 124]) ∧ S'.1 13 = nI (e + 1) ∧ S'.2.1 15 e = nI (4 * a) ∧ (∀ i, ¬ i = e → S'.2.1 15 i = S.2.1 15 i) ∧ ag [1, 13] [3, 15] [] S S' := by
  obtain ⟨S1, a1, a2, a3⟩ := ck_emit (N := N) (z := z) (if so f = 4 then 38 else 124) hc
  obtain ⟨-, -, i2, -⟩ := ck_in (N := N) (z := z) (S := S1) ((a3.1 2 (by decide)).trans hn) h3 hf
  rw [a3.2.1 6 (by decide), htw, ha] at i2
  have j13 : S1.1 13 = nI e := (a3.1 13 (by decide)).trans h13
  refine ⟨mq_si (mq_sa S1 15 (upd (S1.2.1 15) e (nI (4 * a)))) 13 (nI (e + 1)), ?_, a2, rfl, ?_, ?_, ag_tr (ag_tr (ag_mono a3 (by decide) (by decide) (by decide)) (ag_sa (k := 15) (f := upd (S1.2.1 15) e (nI (4 * a))) (by decide))) (ag_si (k := 13) (v := nI (e + 1)) (by decide))⟩
  · rw [wr_two hn h3 hf hso hs]
    unfold zf_X9_goOnWithTwo zf_X9_goOnWithTwo_43
    rw [if_neg (by decide), if_pos (by decide)]
    rcases hs with q | q
    · rw [q, if_pos rfl] at a1
      rw [if_pos q, a1, mq_cl_s, i2, mq_cp_s, wr_enter j13 he, mq_cl_s, mq_cl_s]
    · rw [q, if_neg (by decide)] at a1
      rw [if_neg (by rw [q]; decide), a1, mq_cl_s, i2, mq_cp_s, wr_enter j13 he, mq_cl_s, mq_cl_s]
  · show upd (S1.2.1 15) e (nI (4 * a)) e = _
    exact up_s _ _ _
  · intro i hi
    show upd (S1.2.1 15) e (nI (4 * a)) i = _
    rw [up_o hi, a3.2.1 15 (by decide)]
theorem wr_two2 (hn : S.1 2 = nI n) (h3 : n ≤ 300) (hf : f < n) (hso : S.2.1 4 = so) (hs : so f = 4 ∨ so f = 5) (h13 : S.1 13 = nI (e + 1)) (hc : tc S D) :
    ∃ S', zf_X9_goOn N z (nI f) (nI 2) S = some ((), S') ∧ tc S' (D ++ [41]) ∧ S'.1 13 = nI e ∧ S'.2.1 15 = S.2.1 15 ∧ ag [1, 13] [3, 15] [] S S' := by
  obtain ⟨S1, a1, a2, a3⟩ := ck_emit (N := N) (z := z) 41 hc
  refine ⟨mq_si S1 13 (S1.1 13 - 1), ?_, a2, ?_, a3.2.1 15 (by decide), ag_tr (ag_mono a3 (by decide) (by decide) (by decide)) (ag_si (by decide))⟩
  · rw [wr_two hn h3 hf hso hs]
    unfold zf_X9_goOnWithTwo
    rw [if_neg (by decide), if_neg (by decide), a1, mq_cl_s, nS_e, mq_cl_s]
  · show S1.1 13 - 1 = _
    rw [a3.1 13 (by decide), h13, nI_pred]
end WR
/-- what a formula's turn leads to -/
def wr_Q (N : Nat) (z : Nat → Nat) (so on tw : Nat → Int32) (f : Nat) (D : List Int32) (e fuel t : Nat) (S : mq_St) : Prop :=
  ∃ S', tc S' (D ++ tx so on tw f) ∧ ag [1, 13] [3, 15] [] S S' ∧ ((400 ≤ (D ++ tx so on tw f).length ∧ zf_X9_write_21 N z fuel (nI t) S = some ((), S')) ∨
    ((D ++ tx so on tw f).length < 400 ∧ S'.1 13 = nI e ∧ (∀ i, i < e → S'.2.1 15 i = S.2.1 15 i) ∧ ∃ fuel' t', t' + D.length ≤ t + (D ++ tx so on tw f).length ∧ fuel + D.length ≤ fuel' + (D ++ tx so on tw f).length ∧ zf_X9_write_21 N z fuel (nI t) S = zf_X9_write_21 N z fuel' (nI t') S'))
def wr_P (N : Nat) (z : Nat → Nat) (n : Nat) (so on tw : Nat → Int32) (f : Nat) : Prop :=
  ∀ (S : mq_St) (D : List Int32) (e fuel t : Nat), S.1 2 = nI n → S.2.1 4 = so → S.2.1 5 = on → S.2.1 6 = tw → S.1 13 = nI (e + 1) → S.2.1 15 e = nI (4 * f) → e + f < 300 → tc S D → D.length < 400 → t ≤ D.length → 401 ≤ fuel + D.length → wr_Q N z so on tw f D e fuel t S
theorem wr_len {A B : List Int32} {k : Nat} (h : k ≤ A.length) : k ≤ (A ++ B).length := by rw [List.length_append]; omega
section WR2
variable {N n : Nat} {z : Nat → Nat} {S S0 : mq_St} {D : List Int32} {f e fuel t : Nat} {so on tw : Nat → Int32}
theorem wr_stop {S' : mq_St} {X Y : List Int32} (hx : tx so on tw f = X ++ Y) (hF : 400 ≤ (D ++ X).length) (hc : tc S' (D ++ X)) (ha : ag [1, 13] [3, 15] [] S S') (E : zf_X9_write_21 N z fuel (nI t) S = some ((), S')) : wr_Q N z so on tw f D e fuel t S := by
  refine ⟨S', ?_, ha, Or.inl ⟨?_, E⟩⟩
  · rw [hx, ← List.append_assoc]
    exact tc_more hc hF
  · rw [hx, ← List.append_assoc]
    exact wr_len hF
theorem wr_all {d : Nat → Nat} (hw : fw n so on tw d) : ∀ f, f < n → wr_P N z n so on tw f := by
  intro f
  induction f using Nat.strongRecOn with
  | ind f ih =>
    intro hf S D e fuel t hn hso hon htw h13 hwy hef hc hD ht hfu
    have h3 := hw.2.1
    obtain ⟨fu, rfl⟩ : ∃ q, fuel = q + 1 := ⟨fuel - 1, by omega⟩
    have E0 := wr_turn (N := N) (z := z) (fuel := fu) (t := t) (s := 0) (f := f) (e := e) (by omega) (by omega) (by omega) (by omega) hD h13 hwy hc
    have g0 : ag [1, 13] [3, 15] [] S (mq_sa S 15 (upd (S.2.1 15) e (nI (4 * f + 0 + 1)))) := ag_sa (by decide)
    have atom : (so f = 0 ∨ so f = 1 ∨ so f = 2 ∨ so f = 3) → 1 ≤ (tx so on tw f).length → wr_Q N z so on tw f D e (fu + 1) t S := by
      intro hs hl
      obtain ⟨S1, a1, a2, a3, a4⟩ := wr_atom (N := N) (z := z) (S := mq_sa S 15 (upd (S.2.1 15) e (nI (4 * f + 0 + 1)))) (tw := tw) hn h3 hf hso hon (nI 0) hs h13 hc
      rw [a1, mq_cl_s] at E0
      have g1 := ag_tr g0 (ag_mono a4 (by decide) (by decide) (by decide))
      by_cases hF : 400 ≤ (D ++ tx so on tw f).length
      · refine ⟨S1, a2, g1, Or.inl ⟨hF, E0.trans ?_⟩⟩
        obtain ⟨q, rfl⟩ : ∃ q, fu = q + 1 := ⟨fu - 1, by omega⟩
        exact wr_full _ hF a2
      · refine ⟨S1, a2, g1, Or.inr ⟨by omega, a3, fun i hi => ?_, fu, t + 1, ?_, ?_, E0⟩⟩
        · rw [a4.2.1 15 (by decide)]
          show upd (S.2.1 15) e _ i = _
          rw [up_o (by omega)]
        · rw [List.length_append]; omega
        · rw [List.length_append]; omega
    have one : ∀ (P : List Int32) (a : Nat), a < f → on f = nI a → (so f = 6 ∨ so f = 7) → (if so f = 6 then [91, 93] else [60, 62]) = P → P.length = 2 → tx so on tw f = P ++ tx so on tw a → wr_Q N z so on tw f D e (fu + 1) t S := by
      intro P a ha wa hs hP hl hx
      obtain ⟨S1, a1, a2, a3, a4, a5, a6⟩ := wr_one0 (N := N) (z := z) (S := mq_sa S 15 (upd (S.2.1 15) e (nI (4 * f + 0 + 1)))) (e := e + 1) hn h3 hf hso hon wa hs h13 (by omega) hc
      rw [show zf_X9_goOn N z (nI f) (nI 0) (mq_sa S 15 (upd (S.2.1 15) e (nI (4 * f + 0 + 1)))) = _ from a1, mq_cl_s] at E0
      rw [hP] at a2
      have g1 := ag_tr g0 a6
      have l1 : (D ++ P).length = D.length + 2 := by rw [List.length_append, hl]
      by_cases hF : 400 ≤ (D ++ P).length
      · obtain ⟨q, rfl⟩ : ∃ q, fu = q + 1 := ⟨fu - 1, by omega⟩
        exact wr_stop hx hF a2 g1 (E0.trans (wr_full _ hF a2))
      · obtain ⟨S2, b1, b2, b3⟩ := ih a ha (by omega) S1 (D ++ P) (e + 1) fu (t + 1) ((g1.1 2 (by decide)).trans hn) ((g1.2.1 4 (by decide)).trans hso) ((g1.2.1 5 (by decide)).trans hon) ((g1.2.1 6 (by decide)).trans htw) a3 a4 (by omega) a2 (by omega) (by omega) (by omega)
        have g2 := ag_tr g1 b2
        rw [List.append_assoc, ← hx] at b1 b3
        rcases b3 with ⟨c1, c2⟩ | ⟨c1, c2, c3, fu2, t2, c4, c5, c6⟩
        · exact ⟨S2, b1, g2, Or.inl ⟨c1, E0.trans c2⟩⟩
        · obtain ⟨fu3, rfl⟩ : ∃ q, fu2 = q + 1 := ⟨fu2 - 1, by omega⟩
          have w2 : S2.2.1 15 e = nI (4 * f + 1) := by
            rw [c3 e (by omega), a5 e (by omega)]
            show upd (S.2.1 15) e _ e = _
            rw [up_s]
          have E2 := wr_turn (N := N) (z := z) (fuel := fu3) (t := t2) (s := 1) (f := f) (e := e) (by omega) (by omega) (by omega) (by omega) c1 c2 w2 b1
          rw [wr_one1 (S := mq_sa S2 15 (upd (S2.2.1 15) e (nI (4 * f + 1 + 1)))) (so := so) (e := e) ((g2.1 2 (by decide)).trans hn) h3 hf ((g2.2.1 4 (by decide)).trans hso) hs c2, mq_cl_s] at E2
          refine ⟨_, ?_, ag_tr (ag_tr g2 (ag_sa (k := 15) (f := upd (S2.2.1 15) e (nI (4 * f + 1 + 1))) (by decide))) (ag_si (k := 13) (v := nI e) (by decide)), Or.inr ⟨c1, rfl, fun i hi => ?_, fu3, t2 + 1, by omega, by omega, E0.trans (c6.trans E2)⟩⟩
          · exact b1
          · show upd (S2.2.1 15) e _ i = _
            rw [up_o (by omega), c3 i (by omega), a5 i (by omega)]
            show upd (S.2.1 15) e _ i = _
            rw [up_o (by omega)]
    have two : ∀ (a b : Nat) (v : Int32), a < f → b < f → on f = nI a → tw f = nI b → (so f = 4 ∨ so f = 5) → (if so f = 4 then 38 else 124) = v → tx so on tw f = [40] ++ (tx so on tw a ++ ([v] ++ (tx so on tw b ++ [41]))) → wr_Q N z so on tw f D e (fu + 1) t S := by
      intro a b v ha hb wa wb hs hv hx
      obtain ⟨S1, a1, a2, a3, a4, a5, a6⟩ := wr_two0 (N := N) (z := z) (S := mq_sa S 15 (upd (S.2.1 15) e (nI (4 * f + 0 + 1)))) (e := e + 1) hn h3 hf hso hon wa hs h13 (by omega) hc
      rw [show zf_X9_goOn N z (nI f) (nI 0) (mq_sa S 15 (upd (S.2.1 15) e (nI (4 * f + 0 + 1)))) = _ from a1, mq_cl_s] at E0
      have g1 := ag_tr g0 a6
      have l1 : (D ++ [40]).length = D.length + 1 := by rw [List.length_append]; rfl
      by_cases hF : 400 ≤ (D ++ [40]).length
      · obtain ⟨q, rfl⟩ : ∃ q, fu = q + 1 := ⟨fu - 1, by omega⟩
        exact wr_stop hx hF a2 g1 (E0.trans (wr_full _ hF a2))
      · obtain ⟨S2, b1, b2, b3⟩ := ih a ha (by omega) S1 (D ++ [40]) (e + 1) fu (t + 1) ((g1.1 2 (by decide)).trans hn) ((g1.2.1 4 (by decide)).trans hso) ((g1.2.1 5 (by decide)).trans hon) ((g1.2.1 6 (by decide)).trans htw) a3 a4 (by omega) a2 (by omega) (by omega) (by omega)
        have g2 := ag_tr g1 b2
        have l2 : (D ++ [40] ++ tx so on tw a).length = D.length + 1 + (tx so on tw a).length := by rw [List.length_append, l1]
        rcases b3 with ⟨c1, c2⟩ | ⟨c1, c2, c3, fu2, t2, c4, c5, c6⟩
        · refine wr_stop (X := [40] ++ tx so on tw a) (Y := [v] ++ (tx so on tw b ++ [41])) ?_ ?_ ?_ g2 (E0.trans c2)
          · rw [hx, List.append_assoc]
          · rw [← List.append_assoc]; exact c1
          · rw [← List.append_assoc]; exact b1
        · obtain ⟨fu3, rfl⟩ : ∃ q, fu2 = q + 1 := ⟨fu2 - 1, by omega⟩
          have w2 : S2.2.1 15 e = nI (4 * f + 1) := by
            rw [c3 e (by omega), a5 e (by omega)]
            show upd (S.2.1 15) e _ e = _
            rw [up_s]
          have E2 := wr_turn (N := N) (z := z) (fuel := fu3) (t := t2) (s := 1) (f := f) (e := e) (by omega) (by omega) (by omega) (by omega) c1 c2 w2 b1
          obtain ⟨S3, d1, d2, d3, d4, d5, d6⟩ := wr_two1 (N := N) (z := z) (S := mq_sa S2 15 (upd (S2.2.1 15) e (nI (4 * f + 1 + 1)))) (e := e + 1) ((g2.1 2 (by decide)).trans hn) h3 hf ((g2.2.1 4 (by decide)).trans hso) ((g2.2.1 6 (by decide)).trans htw) wb hs c2 (by omega) b1
          rw [d1, mq_cl_s] at E2
          rw [hv] at d2
          have g3 := ag_tr (ag_tr g2 (ag_sa (k := 15) (f := upd (S2.2.1 15) e (nI (4 * f + 1 + 1))) (by decide))) d6
          have l3 : (D ++ [40] ++ tx so on tw a ++ [v]).length = D.length + 1 + (tx so on tw a).length + 1 := by rw [List.length_append, l2]; rfl
          by_cases hF3 : 400 ≤ (D ++ [40] ++ tx so on tw a ++ [v]).length
          · refine wr_stop (X := [40] ++ tx so on tw a ++ [v]) (Y := tx so on tw b ++ [41]) ?_ ?_ ?_ g3 (E0.trans (c6.trans (E2.trans (?_ : _ = some ((), S3)))))
            · rw [hx]; simp only [List.append_assoc]
            · simp only [← List.append_assoc]; exact hF3
            · simp only [← List.append_assoc]; exact d2
            · obtain ⟨q, rfl⟩ : ∃ q, fu3 = q + 1 := ⟨fu3 - 1, by omega⟩
              exact wr_full _ hF3 d2
          · obtain ⟨S4, p1, p2, p3⟩ := ih b hb (by omega) S3 (D ++ [40] ++ tx so on tw a ++ [v]) (e + 1) fu3 (t2 + 1) ((g3.1 2 (by decide)).trans hn) ((g3.2.1 4 (by decide)).trans hso) ((g3.2.1 5 (by decide)).trans hon) ((g3.2.1 6 (by decide)).trans htw) d3 d4 (by omega) d2 (by omega) (by omega) (by omega)
            have g4 := ag_tr g3 p2
            have l4 : (D ++ [40] ++ tx so on tw a ++ [v] ++ tx so on tw b).length = D.length + 1 + (tx so on tw a).length + 1 + (tx so on tw b).length := by rw [List.length_append, l3]
            rcases p3 with ⟨q1, q2⟩ | ⟨q1, q2, q3, fu4, t4, q4, q5, q6⟩
            · refine wr_stop (X := [40] ++ tx so on tw a ++ [v] ++ tx so on tw b) (Y := [41]) ?_ ?_ ?_ g4 (E0.trans (c6.trans (E2.trans q2)))
              · rw [hx]; simp only [List.append_assoc]
              · simp only [← List.append_assoc]; exact q1
              · simp only [← List.append_assoc]; exact p1
            · obtain ⟨fu5, rfl⟩ : ∃ q, fu4 = q + 1 := ⟨fu4 - 1, by omega⟩
              have w4 : S4.2.1 15 e = nI (4 * f + 2) := by
                rw [q3 e (by omega), d5 e (by omega)]
                show upd (S2.2.1 15) e _ e = _
                rw [up_s]
              have E4 := wr_turn (N := N) (z := z) (fuel := fu5) (t := t4) (s := 2) (f := f) (e := e) (by omega) (by omega) (by omega) (by omega) q1 q2 w4 p1
              obtain ⟨S5, r1, r2, r3, r4, r5⟩ := wr_two2 (N := N) (z := z) (S := mq_sa S4 15 (upd (S4.2.1 15) e (nI (4 * f + 2 + 1)))) (e := e) ((g4.1 2 (by decide)).trans hn) h3 hf ((g4.2.1 4 (by decide)).trans hso) hs q2 p1
              rw [r1, mq_cl_s] at E4
              have g5 := ag_tr (ag_tr g4 (ag_sa (k := 15) (f := upd (S4.2.1 15) e (nI (4 * f + 2 + 1))) (by decide))) r5
              have l5 : (D ++ [40] ++ tx so on tw a ++ [v] ++ tx so on tw b ++ [41]).length = D.length + 1 + (tx so on tw a).length + 1 + (tx so on tw b).length + 1 := by rw [List.length_append, l4]; rfl
              have ex : D ++ tx so on tw f = D ++ [40] ++ tx so on tw a ++ [v] ++ tx so on tw b ++ [41] := by rw [hx]; simp only [List.append_assoc]
              unfold wr_Q
              rw [ex]
              by_cases hF5 : 400 ≤ (D ++ [40] ++ tx so on tw a ++ [v] ++ tx so on tw b ++ [41]).length
              · refine ⟨S5, r2, g5, Or.inl ⟨hF5, E0.trans (c6.trans (E2.trans (q6.trans (E4.trans ?_))))⟩⟩
                obtain ⟨q, rfl⟩ : ∃ q, fu5 = q + 1 := ⟨fu5 - 1, by omega⟩
                exact wr_full _ hF5 r2
              · refine ⟨S5, r2, g5, Or.inr ⟨by omega, r3, fun i hi => ?_, fu5, t4 + 1, by omega, by omega, E0.trans (c6.trans (E2.trans (q6.trans E4)))⟩⟩
                rw [r4]
                show upd (S4.2.1 15) e _ i = _
                rw [up_o (by omega), q3 i (by omega), d5 i (by omega)]
                show upd (S2.2.1 15) e _ i = _
                rw [up_o (by omega), c3 i (by omega), a5 i (by omega)]
                show upd (S.2.1 15) e _ i = _
                rw [up_o (by omega)]
    rcases hw.2.2.2.2 f hf with ⟨-, s0, -⟩ | ⟨-, s0, -⟩ | ⟨hs', -⟩ | ⟨h45, a, b, ha, hb, w1, w2, -⟩ | ⟨h67, -, -, a, ha, w1, -⟩
    · exact atom (Or.inl s0) (by rw [tx_0 s0]; decide)
    · exact atom (Or.inr (Or.inl s0)) (by rw [tx_1 s0]; decide)
    · rcases hs' with ⟨s0, -⟩ | ⟨s0, -⟩
      · exact atom (Or.inr (Or.inr (Or.inl s0))) (by rw [tx_2 s0]; exact Nat.le_refl _)
      · exact atom (Or.inr (Or.inr (Or.inr s0))) (by rw [tx_3 s0]; exact Nat.le_succ _)
    · have h45' : so f = 4 ∨ so f = 5 := h45.elim (fun q => Or.inl q.1) (fun q => Or.inr q.1)
      exact two a b _ ha hb w1 w2 h45' rfl (tx_two hw hf h45' ha hb w1 w2)
    · rcases h67 with ⟨s0, -⟩ | ⟨s0, -⟩
      · exact one [91, 93] a ha w1 (Or.inl s0) (by rw [s0]; rfl) rfl (tx_need hw hf s0 ha w1)
      · exact one [60, 62] a ha w1 (Or.inr s0) (by rw [s0]; rfl) rfl (tx_may hw hf s0 ha w1)
end WR2
theorem ck_write {N n t f : Nat} {z : Nat → Nat} {S : mq_St} {d : Nat → Nat} (hN : 401 ≤ N) (hw : fw n (S.2.1 4) (S.2.1 5) (S.2.1 6) d) (hn : S.1 2 = nI n) (hf : f < n) (h1 : S.1 1 = nI t) (h4 : t ≤ 4000) :
    ∃ S', zf_X9_write N z (nI f) S = some ((), S') ∧ tc S' (tx (S.2.1 4) (S.2.1 5) (S.2.1 6) f) ∧ ag [1, 13] [3, 15] [] S S' := by
  have h3 := hw.2.1
  unfold zf_X9_write
  rw [by_keep, if_neg (show ¬ ((0 : Int32) < 0 ∨ (mq_pull S [1] [3] []).1 0 < 0) from ?_)]
  · rw [mq_cl_s, nS_e, nS_e, wr_enter (e := 0) rfl (by omega), mq_cl_s, nI_e]
    have g0 : ag [1, 13] [3, 15] [] S (mq_push S (mq_si (mq_pull S [1] [3] []) 0 0) [1] [3] []) := ag_mono ag_push (by decide) (by decide) (by decide)
    have g1 := ag_tr (ag_tr (ag_tr g0 (ag_si (k := 13) (v := 0) (by decide))) (ag_sa (k := 15) (f := upd ((mq_si (mq_push S (mq_si (mq_pull S [1] [3] []) 0 0) [1] [3] []) 13 0).2.1 15) 0 (nI (4 * f))) (by decide))) (ag_si (k := 13) (v := nI (0 + 1)) (by decide))
    obtain ⟨S', a1, a2, a3⟩ := wr_all (N := N) (z := z) hw f hf _ [] 0 N 0 ((g1.1 2 (by decide)).trans hn) (g1.2.1 4 (by decide)) (g1.2.1 5 (by decide)) (g1.2.1 6 (by decide)) rfl (Eq.trans rfl (up_s ((mq_si (mq_push S (mq_si (mq_pull S [1] [3] []) 0 0) [1] [3] []) 13 0).2.1 15) 0 (nI (4 * f)))) (by omega) ⟨rfl, by decide, fun i hi => absurd hi (by show ¬ i < 0; omega)⟩ (by decide) (by decide) (by show 401 ≤ N + 0; omega)
    refine ⟨S', ?_, a1, ag_tr g1 a2⟩
    rcases a3 with ⟨-, e1⟩ | ⟨b1, b2, -, fu, t', b3, b4, e1⟩
    · exact e1
    · refine e1.trans ?_
      have b4' : N ≤ fu + ([] ++ tx (S.2.1 4) (S.2.1 5) (S.2.1 6) f).length := b4
      obtain ⟨q, rfl⟩ : ∃ q, fu = q + 1 := ⟨fu - 1, by omega⟩
      show zf_X9_write_21b N z _ (nI t') S' = _
      unfold zf_X9_write_21b
      rw [b2]
      by_cases a : (1000000 : Int32) ≤ nI t'
      · rw [if_pos a]
      · rw [if_neg a, if_pos (by decide : nI 0 ≤ 0)]
  · rintro (q | q)
    · exact absurd q (by decide)
    · rw [show (mq_pull S [1] [3] []).1 0 = nI t from h1] at q
      exact nI_pos (by omega) q
