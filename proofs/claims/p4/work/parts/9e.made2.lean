/-! The reference's makes(): by the number of the node. -/
def mdA (N : Nat) (z : Nat → Nat) (T : List Tr) (L0 : List En) (i m : Nat) (t : Tr) (S : mq_St) (o : Option (List En)) (wm fuel : Nat) (v1 v2 : Int32) : Prop :=
  ∃ (S' : mq_St) (fuel' : Nat), zf_X11_makes_12 N z fuel v1 v2 S = zf_X11_makes_12 N z fuel' v1 v2 S' ∧ Qm T L0 S' (mkO t o) ∧ S'.1 17 = nI wm ∧ ¬ Dm S' m = -1 ∧ (∀ j, ¬ Dm S j = -1 → Dm S' j = Dm S j) ∧ (∀ j, i ≤ j / 2 → j ≠ m → Dm S' j = Dm S j) ∧ (∀ j, j < wm → S'.2.1 14 j = S.2.1 14 j) ∧ (∀ K, 2 * i + 2 ≤ K → fuel + 2 * uc (Dm S') K + 1 ≤ fuel' + 2 * uc (Dm S) K) ∧ ag [3, 6, 17] [2, 3, 4, 10, 11, 14] [] S S'
theorem psh_ag {S : mq_St} {wm y : Nat} : ag [17] [14] [] S (psh S wm y) := ag_tr (ag_sa (by decide)) (ag_si (by decide))
theorem Dm_g {S S' : mq_St} (g : ag [3, 6] [2, 3, 4] [] S S') : Dm S' = Dm S := funext fun m => Dm_c (g.2.1 10 (by decide)) (g.2.1 11 (by decide)) m
theorem Dm_p {S : mq_St} {wm y : Nat} : Dm (psh S wm y) = Dm S := funext fun m => Dm_c rfl rfl m
theorem md_all {N : Nat} {z : Nat → Nat} (hN : 400 ≤ N) {T : List Tr} {L0 : List En} (hL0 : L0.length ≤ 300) {v1 v2 : Int32} : ∀ (i m : Nat) (t : Tr), m / 2 = i → mt T m t → ∀ (S : mq_St) (o : Option (List En)) (wm fuel : Nat), ndM S T → Qm T L0 S o → S.1 17 = nI (wm + 1) → S.2.1 14 wm = nI m → Dm S m = -1 → wm + i < 2998 → 2 * uc (Dm S) (2 * i + 2) ≤ fuel → mdA N z T L0 i m t S o wm fuel v1 v2 := by
  intro i
  induction i using Nat.strongRecOn with
  | ind i ih =>
    intro m t hmi hm S o wm fuel hnd hQ h17 htop hD hwm hfuel
    have hml := mt_lt hm
    have h3000 := hnd.1
    have hucm : uc (Dm S) (2 * i) + 1 ≤ uc (Dm S) (2 * i + 2) := by
      have u1 := uc_upd (v := 0) hD (by decide) (2 * i + 2) (by omega)
      have u2 := uc_ext (t := Dm S) (t' := upd (Dm S) m 0) (2 * i) (fun j hj => by rw [up_o (by omega)])
      have u3 := uc_mono (t := upd (Dm S) m 0) (a := 2 * i) (2 * i + 2) (by omega)
      omega
    -- what holds in between, from S on
    let St : mq_St → Nat → Prop := fun S1 fu1 => zf_X11_makes_12 N z fuel v1 v2 S = zf_X11_makes_12 N z fu1 v1 v2 S1 ∧ S1.1 17 = nI (wm + 1) ∧ (∀ j, j ≤ wm → S1.2.1 14 j = S.2.1 14 j) ∧ (∀ j, ¬ Dm S j = -1 → Dm S1 j = Dm S j) ∧ (∀ j, i ≤ j / 2 → Dm S1 j = Dm S j) ∧ (∀ K, 2 * i ≤ K → fuel + 2 * uc (Dm S1) K ≤ fu1 + 2 * uc (Dm S) K) ∧ ag [3, 6, 17] [2, 3, 4, 10, 11, 14] [] S S1
    have St0 : St S fuel := ⟨rfl, h17, fun _ _ => rfl, fun _ _ => rfl, fun _ _ => rfl, fun _ _ => Nat.le_refl _, ag_rf⟩
    have Stf : ∀ {S1 : mq_St} {fu1 : Nat}, St S1 fu1 → 2 * uc (Dm S1) (2 * i) + 2 ≤ fu1 ∧ Dm S1 m = -1 ∧ S1.2.1 14 wm = nI m := fun {S1 fu1} q => by
      obtain ⟨-, -, q3, -, q5, q6, -⟩ := q
      have := q6 (2 * i) (Nat.le_refl _)
      exact ⟨by omega, (q5 m (by omega)).trans hD, (q3 wm (Nat.le_refl _)).trans htop⟩
    have kd := kdR_is (N := N) (z := z) (wm := wm + 1) hnd hm (by omega)
    -- a part is made, or was so already
    have adv : ∀ (y : Nat) (a : Tr) (S1 : mq_St) (fu1 : Nat) (o1 : Option (List En)), mt T y a → y / 2 < i → St S1 fu1 → (Dm S1 y = -1 → ∃ S2, zf_X11_madeOf N z (nI (m / 2)) (isv m) S1 = some (-1, psh S2 (wm + 1) y) ∧ Qm T L0 S2 o1 ∧ ag [3, 6] [2, 3, 4] [] S1 S2) →
        ∃ (S' : mq_St) (fu' : Nat), St S' fu' ∧ ¬ Dm S' y = -1 ∧ (∀ j, ¬ Dm S1 j = -1 → Dm S' j = Dm S1 j) ∧ ((Dm S1 y = -1 ∧ Qm T L0 S' (mkO a o1)) ∨ (¬ Dm S1 y = -1 ∧ S' = S1)) := by
      intro y a S1 fu1 o1 hy hyi hst hpush
      by_cases e : Dm S1 y = -1
      · obtain ⟨f1, f2, f3⟩ := Stf hst
        obtain ⟨s1, s2, s3, s4, s5, s6, s7⟩ := hst
        obtain ⟨S2, p1, p2, p3⟩ := hpush e
        have hyl := mt_lt hy
        obtain ⟨fu, rfl⟩ : ∃ q, fu1 = q + 1 := ⟨fu1 - 1, by omega⟩
        have E := ms_step (N := N) (z := z) (S := S1) (m := m) (wm := wm) (fuel := fu) (v1 := v1) (v2 := v2) s2 (by omega) (by omega) f3 f2
        rw [p1, mq_cl_s, if_pos rfl] at E
        have D2 : Dm (psh S2 (wm + 1) y) = Dm S1 := Dm_p.trans (Dm_g p3)
        have g2 : ag [3, 6, 17] [2, 3, 4, 10, 11, 14] [] S1 (psh S2 (wm + 1) y) := ag_tr (ag_mono p3 (by decide) (by decide) (by decide)) (ag_mono psh_ag (by decide) (by decide) (by decide))
        have g02 := ag_tr s7 g2
        have hux := uc_mono (t := Dm S1) (a := 2 * (y / 2) + 2) (2 * i) (by omega)
        obtain ⟨S3, fu3, r1, r2, r3, r4, r5, r6, r7, r8, r9⟩ := ih (y / 2) hyi y a rfl hy (psh S2 (wm + 1) y) o1 (wm + 1) fu (ndM_c hnd (g02.2.1 7 (by decide)) (g02.2.1 8 (by decide)) (g02.2.1 9 (by decide))) (Qm_c p2 psh_ag) rfl (up_s _ _ _) (by rw [D2]; exact e) (by omega) (by rw [D2]; omega)
        rw [D2] at r5 r6 r8
        refine ⟨S3, fu3, ⟨s1.trans (E.trans r1), r3, fun j hj => ?_, fun j hj => ?_, fun j hj => ?_, fun K hK => ?_, ag_tr g02 r9⟩, r4, r5, Or.inl ⟨e, r2⟩⟩
        · rw [r7 j (by omega)]
          show upd (S2.2.1 14) (wm + 1) (nI y) j = _
          rw [up_o (by omega), p3.2.1 14 (by decide)]
          exact s3 j hj
        · rw [r5 j (by rw [s4 j hj]; exact hj), s4 j hj]
        · rw [r6 j (by omega) (fun q => by rw [q] at hj; omega), s5 j hj]
        · have a1 := r8 K (by omega)
          have a2 := s6 K hK
          omega
      · exact ⟨S1, fu1, hst, e, fun _ _ => rfl, Or.inr ⟨e, rfl⟩⟩
    -- the last turn
    have fin : ∀ (S1 : mq_St) (fu1 : Nat) (f : Int32) (S2 : mq_St), St S1 fu1 → zf_X11_madeOf N z (nI (m / 2)) (isv m) S1 = some (f, S2) → ¬ f = -1 → ag [3, 6] [2, 3, 4] [] S1 S2 → Qm T L0 S2 (mkO t o) → vlO t (mkO t o) f → mkO t (mkO t o) = mkO t o → mdA N z T L0 i m t S o wm fuel v1 v2 := by
      intro S1 fu1 f S2 hst hmd hf hg hq hv hpr
      obtain ⟨f1, f2, f3⟩ := Stf hst
      obtain ⟨s1, s2, s3, s4, s5, s6, s7⟩ := hst
      obtain ⟨fu, rfl⟩ : ∃ q, fu1 = q + 1 := ⟨fu1 - 1, by omega⟩
      have E := ms_step (N := N) (z := z) (S := S1) (m := m) (wm := wm) (fuel := fu) (v1 := v1) (v2 := v2) s2 (by omega) (by omega) f3 f2
      rw [hmd, mq_cl_s, if_neg hf, if_pos ((hg.1 17 (by decide)).trans s2)] at E
      have DD : Dm (stm S2 m f wm) = upd (Dm S1) m f := by rw [stm_D, Dm_g hg]
      refine ⟨stm S2 m f wm, fu, s1.trans E, ?_, ?_, ?_, fun j hj => ?_, fun j hj hjm => ?_, fun j hj => ?_, fun K hK => ?_, ?_⟩
      · have g := stm_ag (S := S2) (m := m) (f := f) (wm := wm)
        have e3 := g.1 3 (by decide)
        have e2 := g.2.1 2 (by decide)
        have a3 := g.2.1 3 (by decide)
        have a4 := g.2.1 4 (by decide)
        cases ho : mkO t o with
        | none =>
          rw [ho] at hq
          obtain ⟨h1, X, h2⟩ := hq
          exact ⟨(g.1 6 (by decide)).trans h1, X, tbR_c h2 e3 e2 a3 a4⟩
        | some L =>
          rw [ho] at hq hv hpr
          obtain ⟨h1, h2, h3, h4, h5⟩ := hq
          refine ⟨(g.1 6 (by decide)).trans h1, tbR_c h2 e3 e2 a3 a4, h3, h4, fun j u hj => ?_⟩
          rw [stm_D]
          by_cases ej : j = m
          · rw [ej] at hj ⊢
            rw [up_s, mt_fn hj hm]
            have el := (some_len hpr).1
            have hp : pr t L (mk t L).1 := by rw [pr, Prod.ext_iff]; exact ⟨rfl, el⟩
            exact Or.inr ⟨(mk t L).1, hv L rfl _ hp, hp⟩
          · rw [up_o ej]
            exact h5 j u hj
      · unfold stm
        split <;> rfl
      · rw [DD, up_s]; exact hf
      · rw [DD, up_o (fun e => hj (by rw [e]; exact hD))]; exact s4 j hj
      · rw [DD, up_o hjm]; exact s5 j hj
      · rw [(stm_ag (S := S2) (m := m) (f := f) (wm := wm)).2.1 14 (by decide), hg.2.1 14 (by decide)]
        exact s3 j (by omega)
      · have hu := uc_upd (v := f) f2 hf K (by omega)
        have := s6 K (by omega)
        rw [DD]
        omega
      · refine ag_tr s7 (ag_tr (ag_mono hg (by decide) (by decide) (by decide)) (ag_mono stm_ag (by decide) (by decide) (by decide)))
    rcases kd with ⟨v, hv, ht, K⟩ | ⟨k, v, hmk, K⟩ | ⟨y, hy, hyi, K⟩ | ⟨k, y, a, hy, hyi, hmk, K⟩ | ⟨k, y, w, a, b, hy, hw, hyi, hwi, hmk, K⟩ | ⟨k, k', y, w, a, b, p, q, hy, hw, hyi, hwi, hmp, hmq, hmk, K⟩
    · -- T, F
      have e : ∀ L : List En, mk t L = (v, L) := fun L => by
        have : v = 0 ∨ v = 1 := by omega
        rcases this with rfl | rfl <;> (rw [ht]; rfl)
      have ho : mkO t o = o := by
        cases o with
        | none => rfl
        | some L => rw [mkO_s, e L, if_pos hQ.2.1.2.1]
      exact fin S fuel (nI v) S St0 (K S ag_rf h17) (nI_nm1 (by omega)) ag_rf (by rw [ho]; exact hQ) (fun L _ k' p' => by
        have : mk t L = (k', L) := p'
        rw [e L] at this
        have e' : v = k' := congrArg Prod.fst this
        rw [e']) (prO_self t o)
    · obtain ⟨f, S2, a1, a2, a3, a4, a5⟩ := mz_0 (N := N) (z := z) hN hL0 hQ hmk
      exact fin S fuel f S2 St0 ((K S ag_rf h17).trans a1) a3 a5 a2 a4 (prO_self t o)
    · obtain ⟨S1, fu1, b1, b2, b3, b4⟩ := adv y t S fuel o hy (by omega) St0 (fun e => ⟨S, by rw [K S ag_rf h17, if_pos e], hQ, ag_rf⟩)
      have hq1 : Qm T L0 S1 (mkO t o) := by
        rcases b4 with ⟨-, q1⟩ | ⟨n, e⟩
        · exact q1
        · rw [(made_pr hQ hy n).1, e]; exact hQ
      have hv := (made_pr hq1 hy b2).2
      exact fin S1 fu1 (Dm S1 y) S1 b1 (by rw [K S1 b1.2.2.2.2.2.2 b1.2.1, if_neg b2]) b2 ag_rf hq1 hv (prO_self t o)
    · obtain ⟨S1, fu1, b1, b2, b3, b4⟩ := adv y a S fuel o hy (by omega) St0 (fun e => ⟨S, by rw [K S ag_rf h17, if_pos e], hQ, ag_rf⟩)
      have hq1 : Qm T L0 S1 (mkO a o) := by
        rcases b4 with ⟨-, q1⟩ | ⟨n, e⟩
        · exact q1
        · rw [(made_pr hQ hy n).1, e]; exact hQ
      obtain ⟨m1', m2'⟩ := made_pr hq1 hy b2
      obtain ⟨f, S2, a1, a2, a3, a4, a5⟩ := mz_1 (N := N) (z := z) hN hL0 hq1 hmk m1' m2'
      rw [mkO_part hmk o] at a2 a4
      exact fin S1 fu1 f S2 b1 (by rw [K S1 b1.2.2.2.2.2.2 b1.2.1, if_neg b2]; exact a1) a3 a5 a2 a4 (prO_self t o)
    · obtain ⟨S1, fu1, b1, b2, b3, b4⟩ := adv y a S fuel o hy (by omega) St0 (fun e => ⟨S, by rw [K S ag_rf h17, if_pos e], hQ, ag_rf⟩)
      have hq1 : Qm T L0 S1 (mkO a o) := by
        rcases b4 with ⟨-, q1⟩ | ⟨n, e⟩
        · exact q1
        · rw [(made_pr hQ hy n).1, e]; exact hQ
      obtain ⟨S2, fu2, c1, c2, c3, c4⟩ := adv w b S1 fu1 (mkO a o) hw (by omega) b1 (fun e => ⟨S1, by rw [K S1 b1.2.2.2.2.2.2 b1.2.1, if_neg b2, if_pos e], hq1, ag_rf⟩)
      have hq2 : Qm T L0 S2 (mkO b (mkO a o)) := by
        rcases c4 with ⟨-, q1⟩ | ⟨n, e⟩
        · exact q1
        · rw [(made_pr hq1 hw n).1, e]; exact hq1
      have d2 : ¬ Dm S2 y = -1 := by rw [c3 y b2]; exact b2
      obtain ⟨m1', m2'⟩ := made_pr hq2 hy d2
      obtain ⟨n1', n2'⟩ := made_pr hq2 hw c2
      obtain ⟨f, S3, a1, a2, a3, a4, a5⟩ := mz_2 (N := N) (z := z) hN hL0 hq2 hmk m1' n1' m2' n2'
      rw [mkO_parts hmk o] at a2 a4
      exact fin S2 fu2 f S3 c1 (by rw [K S2 c1.2.2.2.2.2.2 c1.2.1, if_neg d2, if_neg c2]; exact a1) a3 a5 a2 a4 (prO_self t o)
    · have hy3 := mt_lt hy
      have hw3 := mt_lt hw
      have hfy := mt_fl hy
      have hfw := mt_fl hw
      have pr1 : ∀ S1 : mq_St, S1.1 17 = nI (wm + 1) → zf_X11_pair N z (nI k') (nI (y / 2)) (isv y) (nI (w / 2)) (isv w) S1 = if Dm S1 y = -1 then some (-1, psh S1 (wm + 1) y) else if Dm S1 w = -1 then some (-1, psh S1 (wm + 1) w) else zf_X11_make N z (nI k') (Dm S1 y) (Dm S1 w) S1 := fun S1 e => mz_pair (by omega) (by omega) e (by omega)
      have pr2 : ∀ S1 : mq_St, S1.1 17 = nI (wm + 1) → zf_X11_pair N z (nI k') (nI (y / 2)) (isv (fl y)) (nI (w / 2)) (isv (fl w)) S1 = if Dm S1 (fl y) = -1 then some (-1, psh S1 (wm + 1) (fl y)) else if Dm S1 (fl w) = -1 then some (-1, psh S1 (wm + 1) (fl w)) else zf_X11_make N z (nI k') (Dm S1 (fl y)) (Dm S1 (fl w)) S1 := fun S1 e => by
        have := mz_pair (N := N) (z := z) (S := S1) (s := nI k') (y := fl y) (w := fl w) (wm := wm + 1) (by rw [fl_half]; omega) (by rw [fl_half]; omega) e (by omega)
        rw [fl_half, fl_half] at this
        exact this
      obtain ⟨S1, fu1, b1, b2, b3, b4⟩ := adv y a S fuel o hy (by omega) St0 (fun e => ⟨S, by rw [K S ag_rf h17, pr1 S h17, if_pos e, mq_cl_s, if_pos rfl], hQ, ag_rf⟩)
      have hq1 : Qm T L0 S1 (mkO a o) := by
        rcases b4 with ⟨-, q1⟩ | ⟨n, e⟩
        · exact q1
        · rw [(made_pr hQ hy n).1, e]; exact hQ
      obtain ⟨S2, fu2, c1, c2, c3, c4⟩ := adv w b S1 fu1 (mkO a o) hw (by omega) b1 (fun e => ⟨S1, by rw [K S1 b1.2.2.2.2.2.2 b1.2.1, pr1 S1 b1.2.1, if_neg b2, if_pos e, mq_cl_s, if_pos rfl], hq1, ag_rf⟩)
      have hq2 : Qm T L0 S2 (mkO b (mkO a o)) := by
        rcases c4 with ⟨-, q1⟩ | ⟨n, e⟩
        · exact q1
        · rw [(made_pr hq1 hw n).1, e]; exact hq1
      have d2 : ¬ Dm S2 y = -1 := by rw [c3 y b2]; exact b2
      have hP := mkO_parts hmp o
      -- the first pair, at any later state in which both are there
      have first : ∀ (Sx : mq_St) (ox : Option (List En)), Qm T L0 Sx ox → ¬ Dm Sx y = -1 → ¬ Dm Sx w = -1 → Sx.1 17 = nI (wm + 1) → ∃ f Sy, zf_X11_pair N z (nI k') (nI (y / 2)) (isv y) (nI (w / 2)) (isv w) Sx = some (f, Sy) ∧ Qm T L0 Sy (mkO p ox) ∧ ¬ f = -1 ∧ vlO p (mkO p ox) f ∧ ag [3, 6] [2, 3, 4] [] Sx Sy := by
        intro Sx ox hqx e1 e2 e3
        obtain ⟨m1', m2'⟩ := made_pr hqx hy e1
        obtain ⟨n1', n2'⟩ := made_pr hqx hw e2
        obtain ⟨f, Sy, a1, a2, a3, a4, a5⟩ := mz_2 (N := N) (z := z) hN hL0 hqx hmp m1' n1' m2' n2'
        exact ⟨f, Sy, by rw [pr1 Sx e3, if_neg e1, if_neg e2]; exact a1, a2, a3, a4, a5⟩
      obtain ⟨S3, fu3, d1', d2', d3', d4'⟩ := adv (fl y) (du a) S2 fu2 (mkO p o) hfy (by rw [fl_half]; omega) c1 (fun e => by
        obtain ⟨f, Sy, a1, a2, a3, a4, a5⟩ := first S2 _ hq2 d2 c2 c1.2.1
        rw [hP] at a2
        refine ⟨Sy, ?_, a2, a5⟩
        rw [K S2 c1.2.2.2.2.2.2 c1.2.1, a1, mq_cl_s, if_neg a3, pr2 Sy ((a5.1 17 (by decide)).trans c1.2.1), Dm_g a5, if_pos e, mq_cl_s, if_pos rfl])
      have y3 : ¬ Dm S3 y = -1 := by rw [d3' y d2]; exact d2
      have w3 : ¬ Dm S3 w = -1 := by rw [d3' w c2]; exact c2
      obtain ⟨oc, hqc, hoc⟩ : ∃ oc, Qm T L0 S3 oc ∧ mkO p oc = mkO (du a) (mkO p o) := by
        rcases d4' with ⟨-, q1⟩ | ⟨n, e⟩
        · exact ⟨_, q1, prO_mono (prO_self p o)⟩
        · refine ⟨mkO b (mkO a o), by rw [e]; exact hq2, ?_⟩
          have := prO_mono (u := p) (made_pr hq2 hfy n).1
          rw [hP] at this ⊢
          rw [this]
      obtain ⟨S4, fu4, e1', e2', e3', e4'⟩ := adv (fl w) (du b) S3 fu3 (mkO (du a) (mkO p o)) hfw (by rw [fl_half]; omega) d1' (fun e => by
        obtain ⟨f, Sy, a1, a2, a3, a4, a5⟩ := first S3 _ hqc y3 w3 d1'.2.1
        rw [hoc] at a2
        refine ⟨Sy, ?_, a2, a5⟩
        rw [K S3 d1'.2.2.2.2.2.2 d1'.2.1, a1, mq_cl_s, if_neg a3, pr2 Sy ((a5.1 17 (by decide)).trans d1'.2.1), Dm_g a5, if_neg d2', if_pos e, mq_cl_s, if_pos rfl])
      have y4 : ¬ Dm S4 y = -1 := by rw [e3' y y3]; exact y3
      have w4 : ¬ Dm S4 w = -1 := by rw [e3' w w3]; exact w3
      have fy4 : ¬ Dm S4 (fl y) = -1 := by rw [e3' _ d2']; exact d2'
      obtain ⟨od, hqd, hod⟩ : ∃ od, Qm T L0 S4 od ∧ mkO p od = mkO (du b) (mkO (du a) (mkO p o)) := by
        rcases e4' with ⟨-, q1⟩ | ⟨n, e⟩
        · exact ⟨_, q1, prO_mono (prO_mono (prO_self p o))⟩
        · refine ⟨oc, by rw [e]; exact hqc, ?_⟩
          have := prO_mono (u := p) (made_pr hqc hfw n).1
          rw [hoc] at this ⊢
          rw [this]
      obtain ⟨f, Sy, a1, a2, a3, a4, a5⟩ := first S4 _ hqd y4 w4 e1'.2.1
      rw [hod] at a2 a4
      have DSy := Dm_g a5
      have g17 : Sy.1 17 = nI (wm + 1) := (a5.1 17 (by decide)).trans e1'.2.1
      obtain ⟨m1', m2'⟩ := made_pr a2 hfy (by rw [DSy]; exact fy4)
      obtain ⟨n1', n2'⟩ := made_pr a2 hfw (by rw [DSy]; exact e2')
      obtain ⟨u, Sz, z1, z2, z3, z4, z5⟩ := mz_2 (N := N) (z := z) hN hL0 a2 hmq m1' n1' m2' n2'
      have hQq : mkO q (mkO (du b) (mkO (du a) (mkO p o))) = mkO q (mkO p o) := mkO_parts hmq (mkO p o)
      rw [hQq] at z2 z4
      -- p is there too
      have pP : mkO p (mkO q (mkO p o)) = mkO q (mkO p o) := prO_mono (prO_self p o)
      have pQ : mkO q (mkO q (mkO p o)) = mkO q (mkO p o) := prO_self q (mkO p o)
      have vP : vlO p (mkO q (mkO p o)) f := by
        intro L' e' kk pk
        -- the value of p is the one that it had
        cases hD' : mkO (du b) (mkO (du a) (mkO p o)) with
        | none =>
          rw [← hQq, hD'] at e'
          cases e'
        | some Ld =>
          rw [hD'] at a4
          have hqd' : mkO q (some Ld) = some L' := by rw [← hD', hQq]; exact e'
          have el := (some_len hqd').1
          have hpd : mkO p (some Ld) = some Ld := by rw [← hD']; exact prO_mono (prO_mono (prO_self p o))
          have epd := (some_len hpd).1
          have hp : pr p Ld (mk p Ld).1 := by rw [pr, Prod.ext_iff]; exact ⟨rfl, epd⟩
          obtain ⟨X, hX⟩ := mk_ext q Ld
          have hp2 := pr_mono hp X
          rw [← hX, el] at hp2
          rw [a4 Ld rfl _ hp, pr_fn hp2 pk]
      obtain ⟨r, Sr, r1, r2, r3, r4, r5⟩ := mz_2 (N := N) (z := z) hN hL0 z2 hmk pP pQ vP z4
      rw [mkO_parts hmk o] at r2 r4
      refine fin S4 fu4 r Sr e1' ?_ r3 (ag_tr (ag_tr a5 z5) r5) r2 r4 (prO_self t o)
      rw [K S4 e1'.2.2.2.2.2.2 e1'.2.1, a1, mq_cl_s, if_neg a3, pr2 Sy g17, DSy, if_neg fy4, if_neg e2']
      rw [DSy] at z1
      rw [z1, mq_cl_s, if_neg z3]
      exact r1
