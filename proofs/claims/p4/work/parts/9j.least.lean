/-! The tableau: what is done, what is least to do (the class). -/
def cxC (S : mq_St) (n : Nat) (so on tw : Nat → Int32) (d : Nat → Nat) : Prop := S.1 2 = nI n ∧ (∀ f, f < n → S.2.1 4 f = so f ∧ S.2.1 5 f = on f ∧ S.2.1 6 f = tw f ∧ S.2.1 7 f = nI (d f)) ∧ (∀ s f, s < 8 → f < 320 → lb (S.2.2 0) s f = decide (f < n ∧ so f = nI s)) ∧ fw n so on tw d
theorem cxC_c {S S' : mq_St} {n : Nat} {so on tw : Nat → Int32} {d : Nat → Nat} (h : cxC S n so on tw d) (e2 : S'.1 2 = S.1 2) (e4 : S'.2.1 4 = S.2.1 4) (e5 : S'.2.1 5 = S.2.1 5) (e6 : S'.2.1 6 = S.2.1 6) (e7 : S'.2.1 7 = S.2.1 7) (e0 : S'.2.2 0 = S.2.2 0) : cxC S' n so on tw d := by
  unfold cxC
  rw [e2, e4, e5, e6, e7, e0]
  exact h
def p1 (on : Nat → Int32) (f : Nat) : Nat := (on f).toNatClampNeg
/-- nothing is left to do at f, which is of sort s -/
def dn (on tw : Nat → Int32) (s : Nat) (X : Nat → Bool) (f : Nat) : Prop := if s = 4 then X (p1 on f) = true ∧ X (p1 tw f) = true else if s = 5 then X (p1 on f) = true ∨ X (p1 tw f) = true else X (p1 on f) = true
/-- the parts of a FORMULA -/
theorem fw_1 {n f : Nat} {so on tw : Nat → Int32} {d : Nat → Nat} (h : fw n so on tw d) (hf : f < n) {s : Nat} (hs : so f = nI s) (h4 : 4 ≤ s) (h7 : s ≤ 7) : p1 on f < f ∧ on f = nI (p1 on f) ∧ (s ≤ 5 → p1 tw f < f ∧ tw f = nI (p1 tw f)) ∧ (6 ≤ s → tw f = -1) := by
  have h3 := h.2.1
  have nos : ∀ k : Nat, k < 8 → so f = nI k → s = k := fun k hk e => sp_inj (hs.symm.trans e) (by omega) (by omega)
  unfold p1
  rcases h.2.2.2.2 f hf with ⟨-, e, -⟩ | ⟨-, e, -⟩ | ⟨e, -⟩ | ⟨e, a, b, ha, hb, w1, w2, -⟩ | ⟨e, w2, -, a, ha, w1, -⟩
  · have := nos 0 (by omega) e; omega
  · have := nos 1 (by omega) e; omega
  · rcases e with ⟨e, -⟩ | ⟨e, -⟩
    · have := nos 2 (by omega) e; omega
    · have := nos 3 (by omega) e; omega
  · have hs5 : s ≤ 5 := by
      rcases e with ⟨e, -⟩ | ⟨e, -⟩
      · have := nos 4 (by omega) e; omega
      · have := nos 5 (by omega) e; omega
    rw [w1, w2, nI_clamp (by omega), nI_clamp (by omega)]
    exact ⟨ha, rfl, fun _ => ⟨hb, rfl⟩, fun q => by omega⟩
  · have hs6 : 6 ≤ s := by
      rcases e with ⟨e, -⟩ | ⟨e, -⟩
      · have := nos 6 (by omega) e; omega
      · have := nos 7 (by omega) e; omega
    rw [w1, nI_clamp (by omega)]
    exact ⟨ha, rfl, fun q => by omega, fun _ => w2⟩
section LEAST
variable {N n : Nat} {z : Nat → Nat} {S : mq_St} {so on tw : Nat → Int32} {d : Nat → Nat} {w : Nat}
theorem ck_set {f : Nat} (hw : w < 60) (h16 : S.1 16 = nI w) (hf : f < 320) : zf_X6_has N (fun k => [300].getD k 0) (S.1 16) (nI f) (mq_pull S [] [] [3]) = some (if lb (S.2.2 3) w f = true then 1 else 0) := by
  rw [h16]
  exact se_has (R := 60) (z := fun k => [300].getD k 0) (S := mq_pull S [] [] [3]) rfl (by omega) hw hf
theorem ck_done {s f : Nat} (hc : cxC S n so on tw d) (hw : w < 60) (h16 : S.1 16 = nI w) (hf : f < n) (hs : so f = nI s) (h4 : 4 ≤ s) (h7 : s ≤ 7) : ∃ v : Int32, zf_X8_isDone N z (nI s) (nI f) S = some v ∧ ((v = 1 ∧ dn on tw s (lb (S.2.2 3) w) f) ∨ (v = 0 ∧ ¬ dn on tw s (lb (S.2.2 3) w) f)) := by
  obtain ⟨h2, hr, -, hfw⟩ := hc
  have h3 := hfw.2.1
  obtain ⟨q1, q2, q3, q4⟩ := fw_1 hfw hf hs h4 h7
  obtain ⟨-, i1, i2, -⟩ := ck_in (N := N) (z := z) h2 h3 hf
  rw [(hr f hf).2.1, q2] at i1
  rw [(hr f hf).2.2.1] at i2
  have e4 : (nI s = (4 : Int32)) ↔ s = 4 := nI_eq (b := 4) (by omega) (by omega)
  have e5 : (nI s = (5 : Int32)) ↔ s = 5 := nI_eq (b := 5) (by omega) (by omega)
  have H1 := ck_set (N := N) (f := p1 on f) hw h16 (by omega)
  unfold zf_X8_isDone zf_X8_isDone_88 dn
  rw [i1, mq_cp_s, H1, mq_cp_s, nI_e, mq_cz_0, mq_cz_1]
  have d10 : ¬ (1 : Int32) = 0 := by decide
  by_cases s4 : s = 4
  · have i2' := i2
    rw [(q3 (by omega)).2] at i2'
    have H2 := ck_set (N := N) (f := p1 tw f) hw h16 (by have := (q3 (by omega)).1; omega)
    rw [if_pos (e4.mpr s4), if_pos s4, i2', mq_cp_s, H2, mq_cp_s]
    cases a : lb (S.2.2 3) w (p1 on f) with
    | false => exact ⟨0, rfl, Or.inr ⟨rfl, fun q => by cases q.1⟩⟩
    | true =>
      cases b : lb (S.2.2 3) w (p1 tw f) with
      | false => exact ⟨0, rfl, Or.inr ⟨rfl, fun q => by cases q.2⟩⟩
      | true => exact ⟨1, rfl, Or.inl ⟨rfl, rfl, rfl⟩⟩
  · rw [if_neg (fun e => s4 (e4.mp e)), if_neg s4]
    by_cases s5 : s = 5
    · have i2' := i2
      rw [(q3 (by omega)).2] at i2'
      have H2 := ck_set (N := N) (f := p1 tw f) hw h16 (by have := (q3 (by omega)).1; omega)
      rw [if_pos (e5.mpr s5), if_pos s5, i2', mq_cp_s, H2, mq_cp_s]
      cases a : lb (S.2.2 3) w (p1 on f) with
      | false =>
        cases b : lb (S.2.2 3) w (p1 tw f) with
        | false => exact ⟨0, rfl, Or.inr ⟨rfl, fun q => by rcases q with q | q <;> cases q⟩⟩
        | true => exact ⟨1, rfl, Or.inl ⟨rfl, Or.inr rfl⟩⟩
      | true => exact ⟨1, rfl, Or.inl ⟨rfl, Or.inl rfl⟩⟩
    · rw [if_neg (fun e => s5 (e5.mp e)), if_neg s5]
      cases a : lb (S.2.2 3) w (p1 on f) with
      | false => exact ⟨0, rfl, Or.inr ⟨rfl, fun q => by cases q⟩⟩
      | true => exact ⟨1, rfl, Or.inl ⟨rfl, rfl⟩⟩
/-- what leastToDo leaves of what is left -/
def lfk (on tw so : Nat → Int32) (n s w : Nat) (X : Nat → Bool) (l l' : Nat → Int64) : Prop := (∀ r f, r ≠ w → f < 320 → lb l' r f = lb l r f) ∧ (∀ f, f < 320 → lb l' w f = true → lb l w f = true) ∧ ∀ f, f < 320 → lb l w f = true → lb l' w f = false → f < n ∧ so f = nI s ∧ dn on tw s X f
theorem lfk_rf {s : Nat} {X : Nat → Bool} {l : Nat → Int64} : lfk on tw so n s w X l l := ⟨fun _ _ _ _ => rfl, fun _ _ h => h, fun f _ h h' => by rw [h] at h'; cases h'⟩
theorem lst_in {s k : Nat} {l : Nat → Int64} {k10 : Int32 → Int32 → mq_St → Option (Int32 × mq_St)} (hc : cxC S n so on tw d) (hw : w < 60) (h16 : S.1 16 = nI w) (h4 : 4 ≤ s) (h7 : s ≤ 7) (hk : k < 5) :
    ∀ (fuel : Nat) (b : Int64) (l1 : Nat → Int64), cb (nt b) 64 < fuel → lfk on tw so n s w (lb (S.2.2 3) w) l l1 → (∀ i, i < 64 → b.toBitVec.getLsbD i = (lb l1 w (64 * k + i) && decide (64 * k + i < n ∧ so (64 * k + i) = nI s))) → (∀ g, g < 64 * k → g < n → so g = nI s → lb l w g = true → dn on tw s (lb (S.2.2 3) w) g) → (∀ i, i < 64 → b.toBitVec.getLsbD i = false → 64 * k + i < n → so (64 * k + i) = nI s → lb l w (64 * k + i) = true → dn on tw s (lb (S.2.2 3) w) (64 * k + i)) →
      ∃ l2, lfk on tw so n s w (lb (S.2.2 3) w) l l2 ∧ (∀ f, 64 * (k + 1) ≤ f → f < 320 → lb l2 w f = lb l1 w f) ∧ ((∃ f, f < n ∧ so f = nI s ∧ lb l2 w f = true ∧ ¬ dn on tw s (lb (S.2.2 3) w) f ∧ (∀ g, g < f → so g = nI s → lb l w g = true → dn on tw s (lb (S.2.2 3) w) g) ∧ zf_X8_leastToDo_52 N z k10 fuel (nI s) (nI k) b (nI (cb (nt b) 64)) (mq_sl S 4 l1) = some (nI f, mq_sl S 4 l2)) ∨ ((∀ g, g < 64 * (k + 1) → g < n → so g = nI s → lb l w g = true → dn on tw s (lb (S.2.2 3) w) g) ∧ zf_X8_leastToDo_52 N z k10 fuel (nI s) (nI k) b (nI (cb (nt b) 64)) (mq_sl S 4 l1) = k10 (nI s) (nI (k + 1)) (mq_sl S 4 l2))) := by
  have h3 := hc.2.2.2.2.1
  intro fuel
  induction fuel with
  | zero => intro b l1 h; omega
  | succ fuel ih =>
    intro b l1 hf hl hb hg hcl
    have hsh : zf_X8_leastToDo_52 N z k10 (fuel + 1) (nI s) (nI k) b (nI (cb (nt b) 64)) (mq_sl S 4 l1) = zf_X8_leastToDo_52b N z k10 (fun v1 v3 v4 v6 S => zf_X8_leastToDo_52 N z k10 fuel v1 v3 v4 v6 S) (nI s) (nI k) b (nI (cb (nt b) 64)) (mq_sl S 4 l1) := rfl
    rw [hsh]
    unfold zf_X8_leastToDo_52b
    have hcb := cb_le (nt b) 64
    by_cases e : cb (nt b) 64 = 0
    · rw [e, if_pos (by decide), nI_1, nI_e]
      refine ⟨l1, hl, fun _ _ _ => rfl, Or.inr ⟨fun g hg1 hg2 hg3 hg4 => ?_, rfl⟩⟩
      by_cases q : g < 64 * k
      · exact hg g q hg2 hg3 hg4
      · have hz := (cb_zero 64).mp e (g - 64 * k) (by omega)
        have := hcl (g - 64 * k) (by omega) hz (by omega) (by rw [show 64 * k + (g - 64 * k) = g by omega]; exact hg3) (by rw [show 64 * k + (g - 64 * k) = g by omega]; exact hg4)
        rw [show 64 * k + (g - 64 * k) = g by omega] at this
        exact this
    · obtain ⟨j, hj, hbj, hlow⟩ := least_bit (show 0 < cb (nt b) 64 by omega)
      have hbj' : b.toBitVec.getLsbD j = true := hbj
      have hlow' : ∀ i, i < j → b.toBitVec.getLsbD i = false := hlow
      obtain ⟨lb1, lb2⟩ := low_bit hj hbj' hlow'
      have hf1 : lb l1 w (64 * k + j) = true ∧ 64 * k + j < n ∧ so (64 * k + j) = nI s := by
        have := hb j hj
        rw [hbj'] at this
        have := this.symm
        rw [Bool.and_eq_true, decide_eq_true_eq] at this
        exact ⟨this.1, this.2.1, this.2.2⟩
      have e64 : (64 : Int32) * nI k + nI j = nI (64 * k + j) := by rw [show (64 : Int32) * nI k = nI (64 * k) from pk_mul 64 k, nI_add]
      rw [if_neg (nI_nle (by omega) (by omega)), bc_is, mq_cp_s, lb1, low_cnt (N := N) (z := z) (S := S) j hj, e64, nI_e]
      obtain ⟨v, a1, a2⟩ := ck_done (N := N) (z := z) (S := mq_sl S 4 l1) (w := w) (s := s) (f := 64 * k + j) (cxC_c hc rfl rfl rfl rfl rfl rfl) hw h16 hf1.2.1 hf1.2.2 h4 h7
      rw [a1, mq_cp_s]
      rcases a2 with ⟨rfl, hdn⟩ | ⟨rfl, hdn⟩
      · rw [if_neg (by decide)]
        obtain ⟨l2, p1', p2⟩ := se_drop (N := N) (R := 60) (z := fun k => [300].getD k 0) (S := mq_pull (mq_sl S 4 l1) [] [] [4]) (r := w) (f := 64 * k + j) rfl (by omega) hw (by omega)
        have p1'' : zf_X6_drop N (fun k => [300].getD k 0) ((mq_sl S 4 l1).1 16) (nI (64 * k + j)) (mq_pull (mq_sl S 4 l1) [] [] [4]) = some ((), mq_sl (mq_pull (mq_sl S 4 l1) [] [] [4]) 0 l2) := by
          rw [show (mq_sl S 4 l1).1 16 = nI w from h16]
          exact p1'
        have p2 : ∀ r' f', f' < 320 → lb l2 r' f' = (lb l1 r' f' && !decide (r' = w ∧ f' = 64 * k + j)) := p2
        have ep : mq_push (mq_sl S 4 l1) (mq_sl (mq_pull (mq_sl S 4 l1) [] [] [4]) 0 l2) [] [] [4] = mq_sl S 4 l2 := by
          refine Prod.ext rfl (Prod.ext rfl ?_)
          funext q
          show (match [4].idxOf? q with | some k => _ | none => _) = if q = 4 then l2 else S.2.2 q
          by_cases q4 : q = 4
          · subst q4; rfl
          · rw [if_neg q4, List.idxOf?_eq_none_iff.mpr (by simpa using q4)]
            show (if q = 4 then l1 else S.2.2 q) = _
            rw [if_neg q4]
        have hb2 := lb2
        have hcnt : cb (nt (b &&& (b - 1))) 64 + 1 = cb (nt b) 64 := cb_less hbj 64 hj (fun i hi => hb2 i hi)
        rw [p1'', mq_cl_s, nS_e, ep, nL_e, show nI (cb (nt b) 64) + (-1) = nI (cb (nt (b &&& (b - 1))) 64) from by rw [← hcnt, pk_m1], nI_e]
        have hA : lfk on tw so n s w (lb (S.2.2 3) w) l l2 := by
          refine ⟨fun r f hr hf' => ?_, fun f hf' h' => ?_, fun f hf' h1 h2 => ?_⟩
          · rw [p2 r f hf', decide_eq_false (fun q => hr q.1), Bool.not_false, Bool.and_true]
            exact hl.1 r f hr hf'
          · rw [p2 w f hf', Bool.and_eq_true] at h'
            exact hl.2.1 f hf' h'.1
          · rw [p2 w f hf'] at h2
            by_cases q : f = 64 * k + j
            · rw [q]
              exact ⟨hf1.2.1, hf1.2.2, hdn⟩
            · rw [decide_eq_false (fun x => q x.2), Bool.not_false, Bool.and_true] at h2
              exact hl.2.2 f hf' h1 h2
        obtain ⟨l3, i1, i2, i3⟩ := ih (b &&& (b - 1)) l2 (by omega) hA (fun i hi => by
          rw [hb2 i hi, hb i hi, p2 w (64 * k + i) (by omega)]
          by_cases q : i = j
          · rw [q]
            simp
          · rw [decide_eq_true q, Bool.and_true, decide_eq_false (fun x : w = w ∧ 64 * k + i = 64 * k + j => q (by omega)), Bool.not_false, Bool.and_true]) hg (fun i hi h1 h2 h3' h4' => by
          rw [hb2 i hi] at h1
          by_cases q : i = j
          · rw [q]; exact hdn
          · rw [decide_eq_true q, Bool.and_true] at h1
            exact hcl i hi h1 h2 h3' h4')
        refine ⟨l3, i1, fun f h1 h2 => ?_, i3⟩
        rw [i2 f h1 h2, p2 w f h2, decide_eq_false (fun x : w = w ∧ f = 64 * k + j => by omega), Bool.not_false, Bool.and_true]
      · rw [if_pos rfl]
        refine ⟨l1, hl, fun _ _ _ => rfl, Or.inl ⟨64 * k + j, hf1.2.1, hf1.2.2, hf1.1, hdn, fun g hg1 hg3 hg4 => ?_, rfl⟩⟩
        by_cases q : g < 64 * k
        · exact hg g q (by omega) hg3 hg4
        · have := hcl (g - 64 * k) (by omega) (hlow' _ (by omega)) (by omega) (by rw [show 64 * k + (g - 64 * k) = g by omega]; exact hg3) (by rw [show 64 * k + (g - 64 * k) = g by omega]; exact hg4)
          rw [show 64 * k + (g - 64 * k) = g by omega] at this
          exact this
theorem ck_least {s : Nat} (hN : 100 ≤ N) (hc : cxC S n so on tw d) (hw : w < 60) (h16 : S.1 16 = nI w) (h4 : 4 ≤ s) (h7 : s ≤ 7) :
    ∃ l2, lfk on tw so n s w (lb (S.2.2 3) w) (S.2.2 4) l2 ∧ ((∃ f, f < n ∧ so f = nI s ∧ lb l2 w f = true ∧ ¬ dn on tw s (lb (S.2.2 3) w) f ∧ (∀ g, g < f → so g = nI s → lb (S.2.2 4) w g = true → dn on tw s (lb (S.2.2 3) w) g) ∧ zf_X8_leastToDo N z (nI s) S = some (nI f, mq_sl S 4 l2)) ∨ ((∀ g, g < n → so g = nI s → lb (S.2.2 4) w g = true → dn on tw s (lb (S.2.2 3) w) g) ∧ zf_X8_leastToDo N z (nI s) S = some (-1, mq_sl S 4 l2))) := by
  have h3 := hc.2.2.2.2.1
  have hsl : mq_sl S 4 (S.2.2 4) = S := by
    unfold mq_sl
    refine Prod.ext rfl (Prod.ext rfl ?_)
    funext j
    show (if j = 4 then S.2.2 4 else S.2.2 j) = S.2.2 j
    by_cases q : j = 4
    · rw [if_pos q, q]
    · rw [if_neg q]
  have loop : ∀ (fuel k : Nat) (l1 : Nat → Int64), k ≤ 5 → 5 - k < fuel → lfk on tw so n s w (lb (S.2.2 3) w) (S.2.2 4) l1 → (∀ f, 64 * k ≤ f → f < 320 → lb l1 w f = lb (S.2.2 4) w f) → (∀ g, g < 64 * k → g < n → so g = nI s → lb (S.2.2 4) w g = true → dn on tw s (lb (S.2.2 3) w) g) →
      ∃ l2, lfk on tw so n s w (lb (S.2.2 3) w) (S.2.2 4) l2 ∧ ((∃ f, f < n ∧ so f = nI s ∧ lb l2 w f = true ∧ ¬ dn on tw s (lb (S.2.2 3) w) f ∧ (∀ g, g < f → so g = nI s → lb (S.2.2 4) w g = true → dn on tw s (lb (S.2.2 3) w) g) ∧ zf_X8_leastToDo_10 N z fuel (nI s) (nI k) (mq_sl S 4 l1) = some (nI f, mq_sl S 4 l2)) ∨ ((∀ g, g < n → so g = nI s → lb (S.2.2 4) w g = true → dn on tw s (lb (S.2.2 3) w) g) ∧ zf_X8_leastToDo_10 N z fuel (nI s) (nI k) (mq_sl S 4 l1) = some (-1, mq_sl S 4 l2))) := by
    intro fuel
    induction fuel with
    | zero => intro k l1 _ h; omega
    | succ fuel ih =>
      intro k l1 hk hf hl hsame hg
      have hsh : zf_X8_leastToDo_10 N z (fuel + 1) (nI s) (nI k) (mq_sl S 4 l1) = zf_X8_leastToDo_10b N z (fun v1 v3 S => zf_X8_leastToDo_10 N z fuel v1 v3 S) (nI s) (nI k) (mq_sl S 4 l1) := rfl
      rw [hsh]
      unfold zf_X8_leastToDo_10b
      have e64 : (64 : Int32) * nI k = nI (64 * k) := pk_mul 64 k
      rw [show zf_X7_size N z (mq_sl S 4 l1) = some (S.1 2) from rfl, mq_cp_s, hc.1, e64]
      by_cases e : n ≤ 64 * k
      · rw [if_pos (nI_le e (by omega))]
        exact ⟨l1, hl, Or.inr ⟨fun g h1 h2 h3 => hg g (by omega) h1 h2 h3, rfl⟩⟩
      · have b1 := se_bits (N := N) (R := 60) (z := fun k => [300].getD k 0) (S := mq_pull (mq_sl S 4 l1) [] [] [4]) (r := w) (k := k) rfl (by omega) hw (by omega)
        have b2 := se_bits (N := N) (R := 8) (z := fun k => [40].getD k 0) (S := mq_pull (mq_sl S 4 l1) [] [] [0]) (r := s) (k := k) rfl (by omega) (by omega) (by omega)
        have b1' : zf_X6_bits N (fun k => [300].getD k 0) ((mq_sl S 4 l1).1 16) (nI k) (mq_pull (mq_sl S 4 l1) [] [] [4]) = some (l1 (5 * w + k)) := by
          rw [show (mq_sl S 4 l1).1 16 = nI w from h16]
          exact b1
        have b2' : zf_X6_bits N (fun k => [40].getD k 0) (nI s) (nI k) (mq_pull (mq_sl S 4 l1) [] [] [0]) = some (S.2.2 0 (5 * s + k)) := b2
        rw [if_neg (nI_ge (by omega) (by omega)), b1', mq_cp_s, b2', mq_cp_s, nL_e, bc_is, mq_cp_s, nI_e]
        have hbit : ∀ i, i < 64 → (l1 (5 * w + k) &&& S.2.2 0 (5 * s + k)).toBitVec.getLsbD i = (lb l1 w (64 * k + i) && decide (64 * k + i < n ∧ so (64 * k + i) = nI s)) := by
          intro i hi
          rw [Int64.toBitVec_and, BitVec.getLsbD_and, ← hc.2.2.1 s (64 * k + i) (by omega) (by omega), lb_k, lb_k, show (64 * k + i) / 64 = k by omega, show (64 * k + i) % 64 = i by omega]
        obtain ⟨l2, c1, c0, c2⟩ := lst_in (N := N) (z := z) (k := k) (l := S.2.2 4) (k10 := fun v1 v3 S => zf_X8_leastToDo_10 N z fuel v1 v3 S) hc hw h16 h4 h7 (by omega) N (l1 (5 * w + k) &&& S.2.2 0 (5 * s + k)) l1 (by have := cb_le (nt (l1 (5 * w + k) &&& S.2.2 0 (5 * s + k))) 64; omega) hl hbit hg (fun i hi h1 h2 h3' h4' => by
          rw [hbit i hi, hsame (64 * k + i) (by omega) (by omega), h4', decide_eq_true (by exact ⟨h2, h3'⟩)] at h1
          cases h1)
        rcases c2 with ⟨f, f1, f2, f3, f4, f5, f6⟩ | ⟨g1, g2⟩
        · exact ⟨l2, c1, Or.inl ⟨f, f1, f2, f3, f4, f5, f6⟩⟩
        · rw [g2]
          exact ih (k + 1) l2 (by omega) (by omega) c1 (fun f h1 h2 => by rw [c0 f h1 h2]; exact hsame f (by omega) h2) g1
  obtain ⟨l2, a1, a2⟩ := loop N 0 (S.2.2 4) (by omega) (by omega) lfk_rf (fun _ _ _ => rfl) (fun g hg => by omega)
  rw [hsl] at a2
  exact ⟨l2, a1, a2⟩
end LEAST
