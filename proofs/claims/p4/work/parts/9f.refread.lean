/-! The reference's read(). -/
theorem paA_st {pl : Bool} {B : Nat → Nat} {len : Nat} : ∀ (n n' p : Nat) (G : List Nat) (V : List Tr) (od : Bool), len - p < n → len - p < n' → paA pl B len n p G V od = paA pl B len n' p G V od := by
  intro n
  induction n with
  | zero => intro n' p G V od h; omega
  | succ n ih =>
    intro n' p G V od h h'
    obtain ⟨k, rfl⟩ : ∃ k, n' = k + 1 := ⟨n' - 1, by omega⟩
    rw [paA, paA]
    by_cases e : len ≤ p
    · rw [if_pos e, if_pos e]
    · rw [if_neg e, if_neg e]
      by_cases b : sg B len p = 32
      · rw [if_pos b, if_pos b]
        exact ih k (p + 1) G V od (by omega) (by omega)
      · rw [if_neg b, if_neg b]
        by_cases c : (stA pl (sg B len p) G V od).1 = 0
        · rw [if_pos c, if_pos c]
          have : p + 1 ≤ (if sg B len p = 91 ∨ sg B len p = 60 then p + 2 else p + 1) := by split <;> omega
          exact ih k _ _ _ _ (by omega) (by omega)
        · rw [if_neg c, if_neg c]
theorem sg_ext {B B' : Nat → Nat} {len p : Nat} (h : ∀ i, i < len → B i = B' i) (hp : p < len) : sg B len p = sg B' len p := by
  unfold sg
  rw [h p hp]
  by_cases q : p + 1 < len
  · rw [h (p + 1) q]
  · simp only [q, false_and]
theorem paA_ext {pl : Bool} {B B' : Nat → Nat} {len : Nat} (h : ∀ i, i < len → B i = B' i) : ∀ (n p : Nat) (G : List Nat) (V : List Tr) (od : Bool), paA pl B len n p G V od = paA pl B' len n p G V od := by
  intro n
  induction n with
  | zero => intro p G V od; rfl
  | succ n ih =>
    intro p G V od
    rw [paA, paA]
    by_cases e : len ≤ p
    · rw [if_pos e, if_pos e]
    · rw [if_neg e, if_neg e, sg_ext h (by omega), ih, ih]
theorem fiA_ext {pl : Bool} {B B' : Nat → Nat} {t n : Nat} (h : ∀ i, i < min t 400 → B i = B' i) : fiA pl B t n = fiA pl B' t n := by
  unfold fiA
  rw [paA_ext h]
theorem fiA_st {pl : Bool} {B : Nat → Nat} {t n n' : Nat} (h : 400 < n) (h' : 400 < n') : fiA pl B t n = fiA pl B t n' := by
  unfold fiA
  rw [paA_st n n' 0 [] [] true (by omega) (by omega)]
section RR
variable {N : Nat} {z : Nat → Nat} {S : mq_St} {T : List Tr} {L0 : List En} {o : Option (List En)}
theorem rf_makes {m : Nat} {t : Tr} (hN : 20000 ≤ N) (hL0 : L0.length ≤ 300) (hm : mt T m t) (hnd : ndM S T) (hT : T.length ≤ 2990) (hQ : Qm T L0 S o) (hD : Dm S m = -1) :
    ∃ S', zf_X11_makes N z (nI (m / 2)) (isv m) S = some (Dm S' m, S') ∧ Qm T L0 S' (mkO t o) ∧ ¬ Dm S' m = -1 ∧ (∀ j, ¬ Dm S j = -1 → Dm S' j = Dm S j) ∧ (∀ j, m / 2 ≤ j / 2 → j ≠ m → Dm S' j = Dm S j) ∧ ag [3, 6, 17] [2, 3, 4, 10, 11, 14] [] S S' := by
  have hl := mt_lt hm
  have g0 : ag [17] [14] [] S (psh (mq_si S 17 0) 0 m) := ag_tr (ag_si (by decide)) psh_ag
  have g1 : ag [3, 6, 17] [2, 3, 4, 10, 11, 14] [] S (psh (mq_si S 17 0) 0 m) := ag_mono g0 (by decide) (by decide) (by decide)
  have D0 : Dm (psh (mq_si S 17 0) 0 m) = Dm S := funext fun j => Dm_c rfl rfl j
  have hu := uc_le (Dm S) (2 * (m / 2) + 2)
  obtain ⟨S', fu, a1, a2, a3, a4, a5, a6, a7, a8, a9⟩ := md_all (N := N) (z := z) (T := T) (L0 := L0) (v1 := nI (m / 2)) (v2 := isv m) (by omega) hL0 (m / 2) m t rfl hm (psh (mq_si S 17 0) 0 m) o 0 N (ndM_c hnd (g1.2.1 7 (by decide)) (g1.2.1 8 (by decide)) (g1.2.1 9 (by decide))) (Qm_c hQ g0) rfl (show upd (S.2.1 14) 0 (nI m) 0 = nI m from up_s _ _ _) (by rw [D0]; exact hD) (by omega) (by rw [D0]; omega)
  rw [D0] at a5 a6 a8
  refine ⟨S', ?_, a2, a4, a5, a6, ag_tr g1 a9⟩
  have hf : 1 ≤ fu := by
    have := a8 (2 * (m / 2) + 2) (Nat.le_refl _)
    omega
  obtain ⟨fv, rfl⟩ : ∃ q, fu = q + 1 := ⟨fu - 1, by omega⟩
  unfold zf_X11_makes
  rw [nS_e, mz_isMade (wm := 0) (S := mq_si S 17 0) (by omega) rfl (by omega), if_pos (show Dm (mq_si S 17 0) m = -1 from hD), mq_cl_s, nI_e, a1]
  show zf_X11_makes_12b N z _ (nI (m / 2)) (isv m) S' = _
  unfold zf_X11_makes_12b
  rw [a3, if_pos (by decide), mz_has (by omega), mq_cp_s]
end RR
theorem rf_read {N t s : Nat} {z : Nat → Nat} {S : mq_St} {L : List En} {pl : Bool} {B : Nat → Nat} (hN : 20000 ≤ N) (hs : s < 8) (h1 : S.1 1 = nI t) (h4 : t ≤ 4000) (hB : ∀ i, i < min t 400 → S.2.1 0 i &&& 255 = nI (B i) ∧ B i < 256 ∧ ∀ v : Nat, v < 128 → (S.2.1 0 i = nI v ↔ B i = v)) (hL : tbR S L) (h0 : ok0 L) :
    ((¬ (fiA pl B t N).1 = 0 → ∃ S', zf_X11_read N z (nI s) (if pl = true then 0 else 1) S = some (-2, S') ∧ S'.1 4 = nI (fiA pl B t N).1 ∧ S'.1 5 = nI (fiA pl B t N).2.1 ∧ S'.1 1 = 0 ∧ tbR S' L ∧ S'.2.1 5 = S.2.1 5 ∧ S'.2.1 6 = S.2.1 6 ∧ ag [0, 1, 3, 4, 5, 6, 7, 8, 9, 10, 11, 12, 13, 14, 15, 16, 17] [2, 3, 4, 5, 6, 7, 8, 9, 10, 11, 12, 13, 14] [] S S') ∧
    ((fiA pl B t N).1 = 0 →
      ((mk (du (fiA pl B t N).2.2) (mk (fiA pl B t N).2.2 L).2).2.length ≤ 300 → ∃ S', zf_X11_read N z (nI s) (if pl = true then 0 else 1) S = some (nI (mk (fiA pl B t N).2.2 L).1, S') ∧ S'.1 4 = 0 ∧ S'.1 5 = -1 ∧ S'.1 1 = 0 ∧ tbR S' (mk (du (fiA pl B t N).2.2) (mk (fiA pl B t N).2.2 L).2).2 ∧ S'.2.1 5 = upd (S.2.1 5) s (nI (mk (fiA pl B t N).2.2 L).1) ∧ S'.2.1 6 = upd (S.2.1 6) s (nI (mk (du (fiA pl B t N).2.2) (mk (fiA pl B t N).2.2 L).2).1) ∧ ag [0, 1, 3, 4, 5, 6, 7, 8, 9, 10, 11, 12, 13, 14, 15, 16, 17] [2, 3, 4, 5, 6, 7, 8, 9, 10, 11, 12, 13, 14] [] S S') ∧
      (300 < (mk (du (fiA pl B t N).2.2) (mk (fiA pl B t N).2.2 L).2).2.length → ∃ S', zf_X11_read N z (nI s) (if pl = true then 0 else 1) S = some (-2, S') ∧ S'.1 4 = nI 4 ∧ S'.1 5 = -1 ∧ S'.1 1 = 0 ∧ tbR S' L ∧ S'.2.1 5 = S.2.1 5 ∧ S'.2.1 6 = S.2.1 6 ∧ ag [0, 1, 3, 4, 5, 6, 7, 8, 9, 10, 11, 12, 13, 14, 15, 16, 17] [2, 3, 4, 5, 6, 7, 8, 9, 10, 11, 12, 13, 14] [] S S'))) := by
  let S6 : mq_St := mq_si (mq_si (mq_si (mq_si (mq_si (mq_si (mq_si (mq_si S 0 0) 9 (nI (min t 400))) 1 0) 8 0) 7 0) 12 0) 10 0) 13 (if pl = true then 1 else 0)
  let S9 : mq_St := mq_si (mq_si (mq_si S6 14 0) 15 0) 16 0
  have g9 : ag [0, 1, 3, 4, 5, 6, 7, 8, 9, 10, 11, 12, 13, 14, 15, 16, 17] [2, 3, 4, 5, 6, 7, 8, 9, 10, 11, 12, 13, 14] [] S S9 := by
    repeat' (first | exact ag_rf | refine ag_tr ?_ (ag_si (by decide)))
  obtain ⟨x, S1, a1, a2, a3⟩ := rz_loop (N := N) (z := z) (pl := pl) (B := B) (len := min t 400) (by omega) 500 0 S9 [] [] [] true N ⟨by omega, hB⟩ rfl rfl (by omega) ⟨rfl, trivial, rfl, trivial, rfl, rfl, rfl, ⟨rfl, by decide, fun u hu => (by cases hu), fun y u hu => (by cases hu), fun y hy => absurd hy (by show ¬ y < 0; omega)⟩⟩ rfl ⟨trivial, fun q => (by cases q), rfl, fun v hv => (by cases hv)⟩ (by decide) (by decide) (by decide) (by decide) (by omega) (by omega)
  have g1 := ag_tr g9 (ag_mono a3 (by decide) (by decide) (by decide) : ag [0, 1, 3, 4, 5, 6, 7, 8, 9, 10, 11, 12, 13, 14, 15, 16, 17] [2, 3, 4, 5, 6, 7, 8, 9, 10, 11, 12, 13, 14] [] S9 S1)
  have b1 : S1.1 1 = 0 := a3.1 1 (by decide)
  have b9 : S1.1 9 = nI (min t 400) := a3.1 9 (by decide)
  have bt : tpR S1 B (min t 400) := by
    refine ⟨by omega, ?_⟩
    rw [a3.2.1 0 (by decide)]
    exact hB
  have hL1 : tbR S1 L := tbR_c hL (a3.1 3 (by decide)) (a3.2.1 2 (by decide)) (a3.2.1 3 (by decide)) (a3.2.1 4 (by decide))
  have b5 : S1.2.1 5 = S.2.1 5 := a3.2.1 5 (by decide)
  have b6 : S1.2.1 6 = S.2.1 6 := a3.2.1 6 (by decide)
  -- up to what whole() tells
  have hrd : zf_X11_read N z (nI s) (if pl = true then 0 else 1) S = (if S1.1 10 = 0 then mq_cl (zf_X11_see N z S1) (fun q S23 => if q = -1 then (if (if t ≤ 400 then (0 : Int32) else 1) = 0 then zf_X11_read_127 N z (nI s) x S23 else zf_X11_read_120 N z (nI s) x S23) else zf_X11_read_120 N z (nI s) x S23) else zf_X11_read_127 N z (nI s) x S1) := by
    have hw : zf_X11_whole N z S6 = some (x, S1) := by
      unfold zf_X11_whole
      rw [nS_e, nS_e, nS_e, nI_e]
      exact a1
    have h92 : ∀ v3 : Int32, zf_X11_read_92 N z (nI s) v3 (if pl = true then 1 else 0) (mq_si (mq_si (mq_si (mq_si (mq_si (mq_si (mq_si S 0 0) 9 (nI (min t 400))) 1 0) 8 0) 7 0) 12 0) 10 0) = (if S1.1 10 = 0 then mq_cl (zf_X11_see N z S1) (fun q S23 => if q = -1 then (if v3 = 0 then zf_X11_read_127 N z (nI s) x S23 else zf_X11_read_120 N z (nI s) x S23) else zf_X11_read_120 N z (nI s) x S23) else zf_X11_read_127 N z (nI s) x S1) := by
      intro v3
      have hcz : ∀ {α : Type} (k : Option α), mq_cz (if pl = true then 1 else 0) k = k := fun k => by
        cases pl with
        | true => exact mq_cz_1 k
        | false => exact mq_cz_0 k
      unfold zf_X11_read_92
      rw [hcz, nS_e, show mq_si (mq_si (mq_si (mq_si (mq_si (mq_si (mq_si (mq_si S 0 0) 9 (nI (min t 400))) 1 0) 8 0) 7 0) 12 0) 10 0) 13 (if pl = true then 1 else 0) = S6 from rfl, hw, mq_cl_s, nI_e]
    have h56 : ∀ v3 : Int32, zf_X11_read_56 N z (nI s) (if pl = true then 0 else 1) v3 (mq_si (mq_si S 0 0) 9 (nI (min t 400))) = (if S1.1 10 = 0 then mq_cl (zf_X11_see N z S1) (fun q S23 => if q = -1 then (if v3 = 0 then zf_X11_read_127 N z (nI s) x S23 else zf_X11_read_120 N z (nI s) x S23) else zf_X11_read_120 N z (nI s) x S23) else zf_X11_read_127 N z (nI s) x S1) := by
      intro v3
      rw [← h92 v3]
      unfold zf_X11_read_56
      rw [nI_e, nS_e, nS_e, nS_e, nS_e, nS_e]
      cases pl with
      | true => rw [if_pos (by decide)]; rfl
      | false => rw [if_neg (by decide)]; rfl
    have h38 : zf_X11_read_38 N z (nI s) (if pl = true then 0 else 1) (nI (min t 400)) (mq_si S 0 0) = (if S1.1 10 = 0 then mq_cl (zf_X11_see N z S1) (fun q S23 => if q = -1 then (if (if t ≤ 400 then (0 : Int32) else 1) = 0 then zf_X11_read_127 N z (nI s) x S23 else zf_X11_read_120 N z (nI s) x S23) else zf_X11_read_120 N z (nI s) x S23) else zf_X11_read_127 N z (nI s) x S1) := by
      rw [← h56]
      unfold zf_X11_read_38
      rw [nS_e, show (mq_si (mq_si S 0 0) 9 (nI (min t 400))).1 1 = nI t from h1]
      have q : nI t ≤ (400 : Int32) ↔ t ≤ 400 := nI_leI (b := 400) (by omega) (by omega)
      by_cases e : t ≤ 400
      · rw [if_pos (q.mpr e), if_pos e]
      · rw [if_neg (fun x => e (q.mp x)), if_neg e]
    rw [← h38]
    unfold zf_X11_read
    rw [nS_e, rf_in, show (mq_si S 0 0).1 1 = nI t from h1]
    have hsl : ¬ (nI s < (0 : Int32) ∨ (7 : Int32) < nI s) := by
      rintro (q | q)
      · exact nI_pos (by omega) q
      · have := (nI_ltI (a := 7) (b := s) (by omega) (by omega)).mp q
        omega
    rw [if_neg hsl, mq_cp_s, if_neg (by decide)]
    have q : (400 : Int32) ≤ nI t ↔ 400 ≤ t := nI_leI (a := 400) (by omega) (by omega)
    by_cases e : 400 ≤ t
    · rw [if_pos (q.mpr e), show min t 400 = 400 by omega]; rfl
    · rw [if_neg (fun x => e (q.mp x)), show min t 400 = t by omega]
  -- a FAULT
  have flt : ∀ (k pp : Nat) (S2 : mq_St), 0 < k → k ≤ 3 → S2.1 10 = nI k → S2.1 11 = nI pp → zf_X11_read_127 N z (nI s) x S2 = some (-2, mq_si (mq_si S2 4 (nI k)) 5 (nI pp)) := by
    intro k pp S2 k0 k3 e10 e11
    unfold zf_X11_read_127 zf_X11_read_151
    rw [nS_e, e10, show (mq_si S2 4 (nI k)).1 10 = nI k from e10, if_neg (nI_ne0 k0 (by omega)), nS_e, show (mq_si S2 4 (nI k)).1 11 = nI pp from e11, show (mq_si (mq_si S2 4 (nI k)) 5 (nI pp)).1 10 = nI k from e10, if_neg (nI_ne0 k0 (by omega))]
  have wr : ∀ (pp : Nat) (S2 : mq_St), S2.1 10 = 0 → S2.1 8 = nI pp → zf_X11_read_120 N z (nI s) x S2 = some (-2, mq_si (mq_si (mq_si (mq_si S2 10 (nI 1)) 11 (nI pp)) 4 (nI 1)) 5 (nI pp)) := by
    intro pp S2 e10 e8
    unfold zf_X11_read_120
    rw [show (1 : Int32) = nI 1 from rfl, ro_wrong (k := 1) e10 e8, mq_cl_s, nI_e, flt 1 pp _ (by omega) (by omega) rfl rfl]
  have outF : ∀ (S2 : mq_St) (k pp : Nat), ag [10, 11] [] [] S1 S2 → ag [0, 1, 3, 4, 5, 6, 7, 8, 9, 10, 11, 12, 13, 14, 15, 16, 17] [2, 3, 4, 5, 6, 7, 8, 9, 10, 11, 12, 13, 14] [] S (mq_si (mq_si S2 4 (nI k)) 5 (nI pp)) ∧ tbR (mq_si (mq_si S2 4 (nI k)) 5 (nI pp)) L ∧ (mq_si (mq_si S2 4 (nI k)) 5 (nI pp)).1 1 = 0 ∧ (mq_si (mq_si S2 4 (nI k)) 5 (nI pp)).2.1 5 = S.2.1 5 ∧ (mq_si (mq_si S2 4 (nI k)) 5 (nI pp)).2.1 6 = S.2.1 6 := by
    intro S2 k pp g
    refine ⟨ag_tr (ag_tr (ag_tr g1 (ag_mono g (by decide) (by decide) (by decide))) (ag_si (by decide))) (ag_si (by decide)), tbR_c hL1 (g.1 3 (by decide)) (g.2.1 2 (by decide)) (g.2.1 3 (by decide)) (g.2.1 4 (by decide)), (g.1 1 (by decide)).trans b1, (g.2.1 5 (by decide)).trans b5, (g.2.1 6 (by decide)).trans b6⟩
  have hwA : ag [10, 11] [] [] S1 (mq_si (mq_si S1 10 (nI 1)) 11 (nI (min t 400))) := ag_tr (ag_si (by decide)) (ag_si (by decide))
  rw [fiA_st (n := N) (n' := 500) (by omega) (by omega)]
  unfold fiA
  generalize hR : paA pl B (min t 400) 500 0 [] [] true = R at *
  rcases a2 with ⟨n0, hq⟩ | ⟨z0, hq, e10, e11⟩ | ⟨z0, zo, zc, e10, e8, T, hnd, hTl, hRV⟩
  · rw [if_pos n0]
    refine ⟨fun _ => ?_, fun q => absurd q n0⟩
    rcases hq with ⟨q1, q2, q3⟩ | ⟨q1, q2, q3, q4, q5⟩
    · obtain ⟨o1, o2, o3, o4, o5⟩ := outF S1 R.1 R.2.1 ag_rf
      refine ⟨_, ?_, rfl, rfl, o3, o2, o4, o5, o1⟩
      rw [hrd, if_neg (by rw [q1]; exact nI_ne0 (by omega) (by omega)), flt R.1 R.2.1 S1 (by omega) q3 q1 q2]
    · obtain ⟨o1, o2, o3, o4, o5⟩ := outF (mq_si (mq_si S1 10 (nI 1)) 11 (nI R.2.1)) 1 R.2.1 (ag_tr (ag_si (by decide)) (ag_si (by decide)))
      refine ⟨_, ?_, by rw [q1]; rfl, rfl, o3, o2, o4, o5, o1⟩
      rw [hrd, if_pos q2, rs_here (by omega) bt b9 q3 q4 q5, mq_cl_s, if_neg (nI_nm1 (by have := (bt.2 R.2.1 q4).2.1; omega)), wr R.2.1 S1 q2 q3]
  · rw [if_neg (fun q => q z0), if_pos (Or.inr hq)]
    refine ⟨fun _ => ?_, fun q => absurd q (show ¬ (1 : Nat) = 0 by decide)⟩
    obtain ⟨o1, o2, o3, o4, o5⟩ := outF S1 1 (min t 400) ag_rf
    refine ⟨_, ?_, rfl, rfl, o3, o2, o4, o5, o1⟩
    rw [hrd, if_neg (by rw [e10]; decide), flt 1 (min t 400) S1 (by omega) (by omega) e10 e11]
  · rw [if_neg (fun q => q z0)]
    have hse := rs_end (N := N) (z := z) (by omega) bt b9 e8
    by_cases hlong : 400 < t
    · rw [if_pos (Or.inl hlong)]
      refine ⟨fun _ => ?_, fun q => absurd q (show ¬ (1 : Nat) = 0 by decide)⟩
      obtain ⟨o1, o2, o3, o4, o5⟩ := outF (mq_si (mq_si S1 10 (nI 1)) 11 (nI (min t 400))) 1 (min t 400) hwA
      refine ⟨_, ?_, rfl, rfl, o3, o2, o4, o5, o1⟩
      rw [hrd, if_pos e10, hse, mq_cl_s, if_pos rfl, if_neg (show ¬ t ≤ 400 by omega), if_neg (by decide), wr (min t 400) S1 e10 e8]
    · rw [if_neg (by rintro (q | q | q) <;> first | omega | (rw [zo] at q; cases q))]
      refine ⟨fun q => absurd rfl q, fun _ => ?_⟩
      generalize htr : (joinA pl 4 R.2.2.1 R.2.2.2.1).2.headD (Int.Internal.Linear.Expr.num 0) = tr at *
      show ((mk (du tr) (mk tr L).2).2.length ≤ 300 → _) ∧ _
      obtain ⟨y, hxy, hy⟩ := hRV
      have hyl := (List.getElem?_eq_some_iff.mp hy).1
      have wt : wf tr := hnd.2.2.1 tr (List.mem_of_getElem? hy)
      have m0 : mt T (2 * y) tr := by unfold mt; rw [if_pos (by omega), show 2 * y / 2 = y by omega]; exact hy
      have m1' : mt T (2 * y + 1) (du tr) := by unfold mt; rw [if_neg (by omega), du_du, show (2 * y + 1) / 2 = y by omega]; exact hy
      let S2 : mq_St := mq_si (mq_si (mq_si S1 4 0) 5 (-1)) 6 0
      have g2 : ag [4, 5, 6] [] [] S1 S2 := ag_tr (ag_tr (ag_si (by decide)) (ag_si (by decide))) (ag_si (by decide))
      have hD0 : ∀ j, j < 2 * T.length → Dm S2 j = -1 := fun j hj => by
        unfold Dm
        split
        · exact (hnd.2.2.2.2 (j / 2) (by omega)).1
        · exact (hnd.2.2.2.2 (j / 2) (by omega)).2
      have hQ2 : Qm T L S2 (some L) := ⟨rfl, tbR_c hL1 rfl rfl rfl rfl, h0, ⟨[], (List.append_nil L).symm⟩, fun m u hu => Or.inl (hD0 m (by have := mt_lt hu; omega))⟩
      obtain ⟨S3, c1, c2, c3, c4, c5, c6⟩ := rf_makes (N := N) (z := z) (T := T) (L0 := L) (S := S2) (o := some L) hN hL.2.1 m0 ⟨hnd.2.1, hnd.2.2.1, hnd.2.2.2.1⟩ hTl hQ2 (hD0 _ (by omega))
      have nd3 : ndM S3 T := ndM_c (S := S2) ⟨hnd.2.1, hnd.2.2.1, hnd.2.2.2.1⟩ (c6.2.1 7 (by decide)) (c6.2.1 8 (by decide)) (c6.2.1 9 (by decide))
      obtain ⟨S4, d1, d2, d3, d4, d5, d6⟩ := rf_makes (N := N) (z := z) (T := T) (L0 := L) (S := S3) (o := mkO tr (some L)) hN hL.2.1 m1' nd3 hTl c2 (by rw [c5 (2 * y + 1) (by omega) (by omega)]; exact hD0 _ (by omega))
      have i0 : isv (2 * y) = 1 := by unfold isv; rw [if_pos (by omega)]
      have i1 : isv (2 * y + 1) = 0 := by unfold isv; rw [if_neg (by omega)]
      rw [show 2 * y / 2 = y by omega, i0] at c1
      rw [show (2 * y + 1) / 2 = y by omega, i1] at d1
      have hDy : Dm S4 (2 * y) = Dm S3 (2 * y) := d4 _ c3
      have g4 := ag_tr (ag_tr g1 (ag_mono g2 (by decide) (by decide) (by decide))) (ag_tr (ag_mono c6 (by decide) (by decide) (by decide)) (ag_mono d6 (by decide) (by decide) (by decide)) : ag [0, 1, 3, 4, 5, 6, 7, 8, 9, 10, 11, 12, 13, 14, 15, 16, 17] [2, 3, 4, 5, 6, 7, 8, 9, 10, 11, 12, 13, 14] [] S2 S4)
      have E : zf_X11_read N z (nI s) (if pl = true then 0 else 1) S = (if S4.1 6 = 0 then mq_ck (nI s) 8 (mq_nS (mq_sa S4 5 (upd (S4.2.1 5) (nI s).toNatClampNeg (Dm S3 (2 * y)))) (fun S46 => mq_ck (nI s) 8 (mq_nS (mq_sa S46 6 (upd (S46.2.1 6) (nI s).toNatClampNeg (Dm S4 (2 * y + 1)))) (fun S48 => some (Dm S3 (2 * y), S48))))) else mq_nS (mq_si S4 3 (nI L.length)) (fun S49 => mq_nS (mq_si S49 4 4) (fun S50 => some (-2, S50)))) := by
        rw [hrd, if_pos e10, hse, mq_cl_s, if_pos rfl, if_pos (show t ≤ 400 by omega), if_pos rfl]
        unfold zf_X11_read_127 zf_X11_read_151
        rw [nS_e, e10, show (mq_si S1 4 0).1 10 = 0 from e10, if_pos rfl, nS_e, show (mq_si (mq_si S1 4 0) 5 (-1)).1 10 = 0 from e10, if_pos rfl, show (mq_si (mq_si S1 4 0) 5 (-1)).1 3 = nI L.length from hL1.1, nI_e, mq_cz_0, nS_e, hxy, show mq_si (mq_si (mq_si S1 4 0) 5 (-1)) 6 0 = S2 from rfl, c1, mq_cl_s, nI_e, d1, mq_cl_s, nI_e]
      have e8' : vp_in (nI s) 8 := vp_in_nI hs (by omega)
      have ecs : (nI s).toNatClampNeg = s := nI_clamp (by omega)
      refine ⟨fun q => ?_, fun q => ?_⟩
      · have q1 : (mk tr L).2.length ≤ 300 := by have := mk_len (du tr) (mk tr L).2; omega
        have ho : mkO (du tr) (mkO tr (some L)) = some (mk (du tr) (mk tr L).2).2 := by rw [mkO_s, if_pos q1, mkO_s, if_pos q]
        rw [ho] at d2
        obtain ⟨t6, tT, t0, -, tD⟩ := d2
        obtain ⟨X, hX⟩ := mk_ext (du tr) (mk tr L).2
        have pY : pr tr (mk (du tr) (mk tr L).2).2 (mk tr L).1 := by rw [hX]; exact pr_mono (pr_mk tr L) X
        have vY : Dm S3 (2 * y) = nI (mk tr L).1 := by
          rw [← hDy]
          rcases tD (2 * y) tr m0 with e | ⟨k, e, p⟩
          · exact absurd e (by rw [hDy]; exact c3)
          · rw [e, pr_fn p pY]
        have vN : Dm S4 (2 * y + 1) = nI (mk (du tr) (mk tr L).2).1 := by
          rcases tD (2 * y + 1) (du tr) m1' with e | ⟨k, e, p⟩
          · exact absurd e d3
          · rw [e, pr_fn p (pr_mk (du tr) (mk tr L).2)]
        rw [t6, if_pos rfl, vY, vN, ecs, mq_ck_of e8', nS_e, mq_ck_of e8', nS_e] at E
        refine ⟨_, E, ?_, ?_, ?_, tbR_c tT rfl rfl rfl rfl, ?_, ?_, ag_tr (ag_tr g4 (ag_sa (by decide))) (ag_sa (by decide))⟩
        · exact (d6.1 4 (by decide)).trans (c6.1 4 (by decide))
        · exact (d6.1 5 (by decide)).trans (c6.1 5 (by decide))
        · exact (d6.1 1 (by decide)).trans ((c6.1 1 (by decide)).trans b1)
        · show upd (S4.2.1 5) s _ = _
          rw [d6.2.1 5 (by decide), c6.2.1 5 (by decide)]
          show upd (S1.2.1 5) s _ = _
          rw [b5]
        · show upd (S4.2.1 6) s _ = _
          rw [d6.2.1 6 (by decide), c6.2.1 6 (by decide)]
          show upd (S1.2.1 6) s _ = _
          rw [b6]
      · have q : 300 < (mk (du tr) (mk tr L).2).2.length := q
        have ho : mkO (du tr) (mkO tr (some L)) = none := by
          rw [mkO_s]
          by_cases q1 : (mk tr L).2.length ≤ 300
          · rw [if_pos q1, mkO_s, if_neg (show ¬ (mk (du tr) (mk tr L).2).2.length ≤ 300 by omega)]
          · rw [if_neg q1]; rfl
        rw [ho] at d2
        obtain ⟨t6, X, tT⟩ := d2
        rw [t6, if_neg (show ¬ (1 : Int32) = 0 by decide), nS_e, nS_e] at E
        refine ⟨_, E, rfl, ?_, ?_, ⟨rfl, hL.2.1, fun f hf => ?_⟩, ?_, ?_, ag_tr (ag_tr g4 (ag_si (by decide))) (ag_si (by decide))⟩
        · exact (d6.1 5 (by decide)).trans (c6.1 5 (by decide))
        · exact (d6.1 1 (by decide)).trans ((c6.1 1 (by decide)).trans b1)
        · have := tT.2.2 f (by rw [List.length_append]; omega)
          rw [List.getElem?_append_left hf] at this
          exact this
        · exact (d6.2.1 5 (by decide)).trans ((c6.2.1 5 (by decide)).trans b5)
        · exact (d6.2.1 6 (by decide)).trans ((c6.2.1 6 (by decide)).trans b6)
