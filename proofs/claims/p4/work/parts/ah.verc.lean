/-! verify(): a checker of lines as a function, and the class's way of it. -/
/-- the FORMULA of a line -/
def gF (gb : Nat → Nat) (i : Nat) : Nat := 256 * gb (3 * i + 1) + gb (3 * i + 2)
/-- the lines from the i-th on, k of them, close a SET and those held -/
def vA (n : Nat) (so on tw : Nat → Int32) (d gb : Nat → Nat) : Nat → Nat → (Nat → Bool) → List (Nat → Bool) → Bool
  | 0, _, _, _ => false
  | k + 1, i, X, H =>
    if gF gb i < n ∧ X (gF gb i) = true then
      (if gb (3 * i) = 0 then
        (if so (gF gb i) = nI 1 ∨ (so (gF gb i) = nI 2 ∧ X (d (gF gb i)) = true) then
          (match H with
          | [] => decide (k = 0)
          | Y :: H' => vA n so on tw d gb k (i + 1) Y H')
        else false)
      else if gb (3 * i) = 1 then
        (if so (gF gb i) = nI 4 then vA n so on tw d gb k (i + 1) (fun g => (X g || decide (g = p1 on (gF gb i))) || decide (g = p1 tw (gF gb i))) H else false)
      else if gb (3 * i) = 2 then
        (if so (gF gb i) = nI 6 then vA n so on tw d gb k (i + 1) (fun g => X g || decide (g = p1 on (gF gb i))) H else false)
      else if gb (3 * i) = 3 then
        (if so (gF gb i) = nI 5 then vA n so on tw d gb k (i + 1) (fun g => X g || decide (g = p1 on (gF gb i))) ((fun g => X g || decide (g = p1 tw (gF gb i))) :: H) else false)
      else if gb (3 * i) = 4 then
        (if so (gF gb i) = nI 7 then vA n so on tw d gb k (i + 1) (sta n so X (p1 on (gF gb i))) H else false)
      else false)
    else false
theorem vA_len {n : Nat} {so on tw : Nat → Int32} {d gb : Nat → Nat} : ∀ (k i : Nat) (X : Nat → Bool) (H : List (Nat → Bool)), k ≤ H.length → vA n so on tw d gb k i X H = false
  | 0, i, X, H, _ => rfl
  | k + 1, i, X, H, h => by
    have ih := fun X H h => vA_len (n := n) (so := so) (on := on) (tw := tw) (d := d) (gb := gb) k (i + 1) X H h
    show (if gF gb i < n ∧ X (gF gb i) = true then _ else false) = false
    split
    · split
      · split
        · cases H with
          | nil => exact absurd h (by simp)
          | cons Y H' => exact ih Y H' (by simpa using h)
        · rfl
      · split
        · split
          · exact ih _ H (by omega)
          · rfl
        · split
          · split
            · exact ih _ H (by omega)
            · rfl
          · split
            · split
              · exact ih _ _ (by simp only [List.length_cons]; omega)
              · rfl
            · split
              · split
                · exact ih _ H (by omega)
                · rfl
              · rfl
    · rfl
/-- held SETs in the rows of an array -/
def hl (b : Nat → Nat → Bool) : List (Nat → Bool) → Prop
  | [] => True
  | Y :: H => (∀ g, g < 320 → b H.length g = Y g) ∧ hl b H
theorem hl_c {b b' : Nat → Nat → Bool} : ∀ (H : List (Nat → Bool)), (∀ r g, r < H.length → g < 320 → b' r g = b r g) → hl b H → hl b' H
  | [], _, _ => trivial
  | Y :: H, e, h => ⟨fun g hg => (e _ g (by simp) hg).trans (h.1 g hg), hl_c H (fun r g hr hg => e r g (by simp only [List.length_cons]; omega) hg) h.2⟩
def bo (b : Bool) : Int32 := if b = true then 1 else 0
section VERC
variable {N n : Nat} {z : Nat → Nat} {S : mq_St} {so on tw : Nat → Int32} {d gb : Nat → Nat} {X : Nat → Bool} {H : List (Nat → Bool)} {L i f r : Nat}
theorem cv_put {k r f R : Nat} {y : Nat → Nat} (hy : y 0 = 5 * R) (hR : R < 10000) (hr : r < R) (hf : f < 320) : ∃ l, (∀ (α : Type) (K : mq_St → Option α), mq_cl (zf_X6_put N y (nI r) (nI f) (mq_pull S [] [] [k])) (fun _ q => mq_nS (mq_push S q [] [] [k]) K) = K (mq_sl S k l)) ∧ ∀ r2 g, g < 320 → lb l r2 g = (lb (S.2.2 k) r2 g || decide (r2 = r ∧ g = f)) := by
  obtain ⟨l, a1, a2⟩ := se_put (N := N) (R := R) (z := y) (S := mq_pull S [] [] [k]) (r := r) (f := f) hy hR hr hf
  refine ⟨l, fun α K => ?_, a2⟩
  rw [a1, mq_cl_s, push1, nS_e]
theorem cv_empty {k r R : Nat} {y : Nat → Nat} (hN : 10 ≤ N) (hy : y 0 = 5 * R) (hR : R < 10000) (hr : r < R) : ∃ l, (∀ (α : Type) (K : mq_St → Option α), mq_cl (zf_X6_empty N y (nI r) (mq_pull S [] [] [k])) (fun _ q => mq_nS (mq_push S q [] [] [k]) K) = K (mq_sl S k l)) ∧ ∀ r2 g, g < 320 → lb l r2 g = (lb (S.2.2 k) r2 g && decide (r2 ≠ r)) := by
  obtain ⟨l, a1, a2⟩ := se_empty (N := N) (R := R) (z := y) (S := mq_pull S [] [] [k]) (r := r) hN hy hR hr
  refine ⟨l, fun α K => ?_, a2⟩
  rw [a1, mq_cl_s, push1, nS_e]
theorem cv_copy {a b ra rb RA RB : Nat} {y : Nat → Nat} (hN : 10 ≤ N) (hab : a ≠ b) (hy0 : y 0 = 5 * RA) (hy1 : y 1 = 5 * RB) (hRA : RA < 10000) (hRB : RB < 10000) (h1 : ra < RA) (h2 : rb < RB) : ∃ l, (∀ (α : Type) (K : mq_St → Option α), mq_cl (zf_X6_copy N y (nI ra) (nI rb) (mq_pull S [] [] [a, b])) (fun _ q => mq_nS (mq_push S q [] [] [a, b]) K) = K (mq_sl S a l)) ∧ ∀ r2 g, g < 320 → lb l r2 g = if r2 = ra then lb (S.2.2 b) rb g else lb (S.2.2 a) r2 g := by
  obtain ⟨l, a1, a2, a3⟩ := ck_cp (N := N) (S := S) (a := a) (b := b) (ra := ra) (rb := rb) (RA := RA) (RB := RB) (y := y) hN hab hy0 hy1 hRA hRB h1 h2
  refine ⟨l, fun α K => ?_, a3⟩
  rw [a1, mq_cl_s, a2, nS_e]
theorem cv_meet {a b ra rb RA RB : Nat} {y : Nat → Nat} (hN : 10 ≤ N) (hab : a ≠ b) (hy0 : y 0 = 5 * RA) (hy1 : y 1 = 5 * RB) (hRA : RA < 10000) (hRB : RB < 10000) (h1 : ra < RA) (h2 : rb < RB) : ∃ l, (∀ (α : Type) (K : mq_St → Option α), mq_cl (zf_X6_meet N y (nI ra) (nI rb) (mq_pull S [] [] [a, b])) (fun _ q => mq_nS (mq_push S q [] [] [a, b]) K) = K (mq_sl S a l)) ∧ ∀ r2 g, g < 320 → lb l r2 g = if r2 = ra then (lb (S.2.2 a) ra g && lb (S.2.2 b) rb g) else lb (S.2.2 a) r2 g := by
  obtain ⟨l, a1, a2⟩ := se_meet (N := N) (R := RA) (R' := RB) (r := ra) (r' := rb) (z := y) (S := mq_pull S [] [] [a, b]) hN hy0 hy1 hRA hRB h1 h2
  refine ⟨l, fun α K => ?_, a2⟩
  rw [a1, mq_cl_s, push2 hab, nS_e]
theorem se_hasx {f : Nat} (v : Int32) (hf : 320 ≤ f) (hf' : f < 2147483648) : zf_X6_has N z v (nI f) S = some 0 := by
  unfold zf_X6_has zf_X6_isPlace
  rw [if_neg (nI_pos hf'), if_pos (show (320 : Int32) ≤ nI f from nI_le (a := 320) hf hf'), mq_cz_0, mq_cp_s, if_pos rfl]
/-- the class's SET and the SETs held -/
def vC (S : mq_St) (X : Nat → Bool) (H : List (Nat → Bool)) : Prop := S.1 21 = nI H.length ∧ (∀ g, g < 320 → lb (S.2.2 6) 0 g = X g) ∧ hl (lb (S.2.2 5)) H
theorem ca_x (v : Int32) (hc : cxC S n so on tw d) (hf : n ≤ f) (hf' : f < 2147483648) : zf_X1_isAllowed N z v (nI f) S = some 0 := by
  have e := (ck_out (N := N) (z := z) (v := nI f) hc.1 (Or.inr (nI_le hf hf'))).1
  unfold zf_X1_isAllowed
  rw [e, mq_cp_s, nI_e, if_neg (show ¬ (-1 : Int32) = 1 by decide), if_neg (show ¬ (-1 : Int32) = 2 by decide), if_neg (show ¬ (-1 : Int32) = 4 by decide), if_neg (show ¬ (-1 : Int32) = 6 by decide), if_neg (show ¬ (-1 : Int32) = 5 by decide), if_neg (show ¬ (-1 : Int32) = 7 by decide), mq_cz_0]
  repeat' split
  all_goals rfl
theorem ca_0 (hc : cxC S n so on tw d) (hf : f < n) (hv : vC S X H) : zf_X1_isAllowed N z 0 (nI f) S = some (bo (decide (so f = nI 1 ∨ (so f = nI 2 ∧ X (d f) = true)))) := by
  have h3 := hc.2.2.2.2.1
  obtain ⟨e1, -, -, e4⟩ := ck_in (N := N) (z := z) hc.1 h3 hf
  rw [(hc.2.1 f hf).1] at e1
  rw [(hc.2.1 f hf).2.2.2] at e4
  have hd : d f < 320 := by have := hc.2.2.2.2.2.2.1 f hf; omega
  have e5 := se_has (N := N) (R := 1) (z := fun k => [5].getD k 0) (S := mq_pull S [] [] [6]) (r := 0) (f := d f) rfl (by omega) (by omega) hd
  have e5' : zf_X6_has N (fun k => [5].getD k 0) 0 (nI (d f)) (mq_pull S [] [] [6]) = some (if X (d f) = true then 1 else 0) := by
    rw [← hv.2.1 _ hd]; exact e5
  unfold zf_X1_isAllowed zf_X1_isAllowed_73
  rw [e1, mq_cp_s, nI_e, if_pos rfl, e4, mq_cp_s, e5', mq_cp_s, mq_cz_0, mq_cz_1]
  unfold bo
  show (if so f = nI 1 then some 1 else if so f = nI 2 then (if (if X (d f) = true then (1 : Int32) else 0) = 0 then some 0 else some 1) else some 0) = _
  by_cases q1 : so f = nI 1
  · rw [if_pos q1, if_pos (by simp [q1])]
  · rw [if_neg q1]
    by_cases q2 : so f = nI 2
    · rw [if_pos q2]
      by_cases q3 : X (d f) = true
      · rw [if_pos q3, if_neg (by decide), if_pos (by simp [q2, q3])]
      · rw [if_neg q3, if_pos rfl, if_neg (by simp [q1, q3])]
    · rw [if_neg q2, if_neg (by simp [q1, q2])]
theorem ca_1 (hc : cxC S n so on tw d) (hf : f < n) : zf_X1_isAllowed N z 1 (nI f) S = some (bo (decide (so f = nI 4))) ∧ zf_X1_isAllowed N z 2 (nI f) S = some (bo (decide (so f = nI 6))) ∧ zf_X1_isAllowed N z 4 (nI f) S = some (bo (decide (so f = nI 7))) ∧ zf_X1_isAllowed N z 3 (nI f) S = (if so f = nI 5 then (if (666 : Int32) ≤ S.1 21 then some 0 else some 1) else some 0) ∧ ∀ r, 5 ≤ r → r < 256 → zf_X1_isAllowed N z (nI r) (nI f) S = some 0 := by
  obtain ⟨e1, -, -, -⟩ := ck_in (N := N) (z := z) hc.1 hc.2.2.2.2.1 hf
  rw [(hc.2.1 f hf).1] at e1
  have B : ∀ s : Nat, (if so f = nI s then mq_cz (1 : Int32) (some (1 : Int32)) else mq_cz (0 : Int32) (some (0 : Int32))) = some (bo (decide (so f = nI s))) := fun s => by
    rw [mq_cz_0, mq_cz_1]; unfold bo
    by_cases q : so f = nI s
    · rw [if_pos q, if_pos (by simp [q])]
    · rw [if_neg q, if_neg (by simp [q])]
  refine ⟨?_, ?_, ?_, ?_, fun r h5 h2 => ?_⟩
  · unfold zf_X1_isAllowed
    rw [e1, mq_cp_s, nI_e, if_neg (by decide), if_pos rfl]
    exact B 4
  · unfold zf_X1_isAllowed
    rw [e1, mq_cp_s, nI_e, if_neg (by decide), if_neg (by decide), if_pos rfl]
    exact B 6
  · unfold zf_X1_isAllowed
    rw [e1, mq_cp_s, nI_e, if_neg (by decide), if_neg (by decide), if_neg (by decide), if_neg (by decide), if_pos rfl]
    exact B 7
  · unfold zf_X1_isAllowed
    rw [e1, mq_cp_s, nI_e, if_neg (by decide), if_neg (by decide), if_neg (by decide), if_pos rfl, mq_cz_0, mq_cz_1]
    rfl
  · have ne : ∀ k : Nat, k < 5 → ¬ nI r = nI k := fun k hk q => by have := sp_inj q (by omega) (by omega); omega
    unfold zf_X1_isAllowed
    rw [e1, mq_cp_s, nI_e, if_neg (show ¬ nI r = 0 from ne 0 (by omega)), if_neg (show ¬ nI r = 1 from ne 1 (by omega)), if_neg (show ¬ nI r = 2 from ne 2 (by omega)), if_neg (show ¬ nI r = 3 from ne 3 (by omega)), if_neg (show ¬ nI r = 4 from ne 4 (by omega)), mq_cz_0]
theorem lbo {w : Nat → Int64} {Y : Nat → Bool} {g f : Nat} (h : ∀ g, g < 320 → lb w 0 g = Y g) (hg : g < 320) : (lb w 0 g || decide ((0 : Nat) = 0 ∧ g = f)) = (Y g || decide (g = f)) := by
  rw [h g hg]; congr 1; rw [decide_eq_decide]; exact ⟨fun q => q.2, fun q => ⟨rfl, q⟩⟩
/-- the class applies a rule's line -/
theorem cp_72 (hc : cxC S n so on tw d) (hf : f < n) {s : Nat} (hs : so f = nI s) (h4 : 4 ≤ s) (h7 : s ≤ 7) (hv : vC S X H) : (s ≠ 4 → ∀ r : Int32, r ≠ 1 → ∃ S', ag [21] [] [5, 6] S S' ∧ vC S' (fun g => X g || decide (g = p1 on f)) H ∧ zf_X1_apply_72 N z r (nI f) S = some ((), S')) ∧ (s = 4 → ∃ S', ag [21] [] [5, 6] S S' ∧ vC S' (fun g => (X g || decide (g = p1 on f)) || decide (g = p1 tw f)) H ∧ zf_X1_apply_72 N z 1 (nI f) S = some ((), S')) := by
  have h3 := hc.2.2.2.2.1
  obtain ⟨-, e2, -, -⟩ := ck_in (N := N) (z := z) hc.1 h3 hf
  obtain ⟨w1, w2, w3, -⟩ := fw_1 hc.2.2.2 hf hs h4 h7
  rw [(hc.2.1 f hf).2.1, w2] at e2
  obtain ⟨l, a1, a2⟩ := cv_put (N := N) (S := S) (k := 6) (r := 0) (f := p1 on f) (R := 1) (y := fun k => [5].getD k 0) rfl (by omega) (by omega) (by omega)
  have b2 : ∀ g, g < 320 → lb l 0 g = (X g || decide (g = p1 on f)) := fun g hg => (a2 0 g hg).trans (lbo hv.2.1 hg)
  refine ⟨fun _ r hr => ⟨mq_sl S 6 l, ag_sl (by decide), ⟨hv.1, b2, hv.2.2⟩, ?_⟩, fun h => ?_⟩
  · unfold zf_X1_apply_72
    rw [e2, mq_cp_s, show (0 : Int32) = nI 0 from rfl, a1, if_neg hr]
  · obtain ⟨-, -, e3, -⟩ := ck_in (N := N) (z := z) (S := mq_sl S 6 l) hc.1 h3 hf
    rw [show (mq_sl S 6 l).2.1 6 f = tw f from (hc.2.1 f hf).2.2.1, (w3 (by omega)).2] at e3
    obtain ⟨l', c1, c2⟩ := cv_put (N := N) (S := mq_sl S 6 l) (k := 6) (r := 0) (f := p1 tw f) (R := 1) (y := fun k => [5].getD k 0) rfl (by omega) (by omega) (by have := (w3 (by omega)).1; omega)
    have c3 : ∀ g, g < 320 → lb l' 0 g = ((X g || decide (g = p1 on f)) || decide (g = p1 tw f)) := fun g hg => (c2 0 g hg).trans (lbo (w := l) b2 hg)
    refine ⟨mq_sl (mq_sl S 6 l) 6 l', ag_tr (ag_sl (by decide)) (ag_sl (by decide)), ⟨hv.1, c3, hv.2.2⟩, ?_⟩
    unfold zf_X1_apply_72
    rw [e2, mq_cp_s, show (0 : Int32) = nI 0 from rfl, a1, if_pos rfl, e3, mq_cp_s, c1]
theorem cp_1 (hc : cxC S n so on tw d) (hf : f < n) (hs : so f = nI 4) (hv : vC S X H) : ∃ S', ag [21] [] [5, 6] S S' ∧ vC S' (fun g => (X g || decide (g = p1 on f)) || decide (g = p1 tw f)) H ∧ zf_X1_apply N z 1 (nI f) S = some ((), S') := by
  obtain ⟨S', a, b, c⟩ := (cp_72 (N := N) (z := z) hc hf hs (by omega) (by omega) hv).2 rfl
  refine ⟨S', a, b, ?_⟩
  unfold zf_X1_apply zf_X1_apply_50
  rw [if_neg (by decide), if_neg (by decide)]; exact c
theorem cp_2 (hc : cxC S n so on tw d) (hf : f < n) (hs : so f = nI 6) (hv : vC S X H) : ∃ S', ag [21] [] [5, 6] S S' ∧ vC S' (fun g => X g || decide (g = p1 on f)) H ∧ zf_X1_apply N z 2 (nI f) S = some ((), S') := by
  obtain ⟨S', a, b, c⟩ := (cp_72 (N := N) (z := z) hc hf hs (by omega) (by omega) hv).1 (by omega) 2 (by decide)
  refine ⟨S', a, b, ?_⟩
  unfold zf_X1_apply zf_X1_apply_50
  rw [if_neg (by decide), if_neg (by decide)]; exact c
theorem cp_4 (hN : 10 ≤ N) (hc : cxC S n so on tw d) (hf : f < n) (hs : so f = nI 7) (hv : vC S X H) : ∃ S', ag [21] [] [5, 6] S S' ∧ vC S' (sta n so X (p1 on f)) H ∧ zf_X1_apply N z 4 (nI f) S = some ((), S') := by
  obtain ⟨l, a1, a2⟩ := cv_meet (N := N) (S := S) (a := 6) (b := 0) (ra := 0) (rb := 6) (RA := 1) (RB := 8) (y := fun k => [5, 40].getD k 0) hN (by decide) rfl rfl (by omega) (by omega) (by omega) (by omega)
  have b2 : vC (mq_sl S 6 l) (fun g => X g && decide (g < n ∧ so g = nI 6)) H := ⟨hv.1, fun g hg => by
    show lb l 0 g = _
    rw [a2 0 g hg, if_pos rfl, hv.2.1 g hg, hc.2.2.1 6 g (by omega) hg], hv.2.2⟩
  obtain ⟨S', a, b, c⟩ := (cp_72 (N := N) (z := z) (S := mq_sl S 6 l) (cxC_c hc rfl rfl rfl rfl rfl rfl) hf hs (by omega) (by omega) b2).1 (by omega) 4 (by decide)
  refine ⟨S', ag_tr (ag_sl (by decide)) a, b, ?_⟩
  unfold zf_X1_apply zf_X1_apply_50
  rw [if_neg (by decide), if_pos rfl]
  refine (cp_go (v := ()) rfl).trans ?_
  rw [show (0 : Int32) = nI 0 from rfl, show (6 : Int32) = nI 6 from rfl, a1]; exact c
theorem cp_3 (hN : 10 ≤ N) (hc : cxC S n so on tw d) (hf : f < n) (hs : so f = nI 5) (hv : vC S X H) (hH : H.length < 666) : ∃ S', ag [21] [] [5, 6] S S' ∧ vC S' (fun g => X g || decide (g = p1 on f)) ((fun g => X g || decide (g = p1 tw f)) :: H) ∧ zf_X1_apply N z 3 (nI f) S = some ((), S') := by
  have h3 := hc.2.2.2.2.1
  obtain ⟨l, a1, a2⟩ := cv_copy (N := N) (S := S) (a := 5) (b := 6) (ra := H.length) (rb := 0) (RA := 666) (RB := 1) (y := fun k => [3330, 5].getD k 0) hN (by decide) rfl rfl (by omega) (by omega) hH (by omega)
  obtain ⟨-, -, e3, -⟩ := ck_in (N := N) (z := z) (S := mq_sl S 5 l) hc.1 h3 hf
  obtain ⟨w1, w2, w3, -⟩ := fw_1 hc.2.2.2 hf hs (by omega) (by omega)
  rw [show (mq_sl S 5 l).2.1 6 f = tw f from (hc.2.1 f hf).2.2.1, (w3 (by omega)).2] at e3
  obtain ⟨l', c1, c2⟩ := cv_put (N := N) (S := mq_sl S 5 l) (k := 5) (r := H.length) (f := p1 tw f) (R := 666) (y := fun k => [3330].getD k 0) rfl (by omega) hH (by have := (w3 (by omega)).1; omega)
  have b2 : vC (mq_si (mq_sl (mq_sl S 5 l) 5 l') 21 (nI (H.length + 1))) X ((fun g => X g || decide (g = p1 tw f)) :: H) := ⟨by rw [List.length_cons]; rfl, hv.2.1, fun g hg => by
    show lb l' H.length g = _
    rw [c2 _ g hg]
    show (lb l H.length g || _) = _
    rw [a2 _ g hg, if_pos rfl, hv.2.1 g hg]
    congr 1; rw [decide_eq_decide]; exact ⟨fun q => q.2, fun q => ⟨rfl, q⟩⟩, hl_c H (fun r g hr hg => by
    show lb l' r g = _
    rw [c2 _ g hg]
    show (lb l r g || _) = _
    rw [a2 _ g hg, if_neg (by omega), decide_eq_false (by omega), Bool.or_false]) hv.2.2⟩
  have vv : vC (mq_si (mq_sl (mq_sl S 5 l) 5 l') 21 (nI (H.length + 1))) X ((fun g => X g || decide (g = p1 tw f)) :: H) := b2
  obtain ⟨S', a, b, c⟩ := (cp_72 (N := N) (z := z) (S := mq_si (mq_sl (mq_sl S 5 l) 5 l') 21 (nI (H.length + 1))) (cxC_c hc rfl rfl rfl rfl rfl rfl) hf hs (by omega) (by omega) vv).1 (by omega) 3 (by decide)
  refine ⟨S', ag_tr (ag_tr (ag_tr (ag_sl (by decide)) (ag_sl (by decide))) (ag_si (by decide))) a, b, ?_⟩
  unfold zf_X1_apply zf_X1_apply_50
  rw [if_pos rfl, hv.1, show (0 : Int32) = nI 0 from rfl, a1, e3, mq_cp_s, show (mq_sl S 5 l).1 21 = nI H.length from hv.1, c1, show (mq_sl (mq_sl S 5 l) 5 l').1 21 = nI H.length from hv.1, nI_1, nS_e, if_neg (by decide)]
  exact c
theorem e3m (a : Nat) : (3 : Int32) * nI a = nI (3 * a) := by rw [show (3 : Int32) = nI 3 from rfl, pk_mul]
theorem e256 (a b : Nat) : (256 : Int32) * nI a + nI b = nI (256 * a + b) := by rw [show (256 : Int32) = nI 256 from rfl, pk_mul, nI_add]
theorem nI_2p (a : Nat) : nI a + 2 = nI (a + 2) := nI_add a 2
theorem cv_48 (hN : 10 ≤ N) (hL : 3 * L ≤ 4000) (hg : ∀ j, gb j < 256) : ∀ (fu k i : Nat) (X : Nat → Bool) (H : List (Nat → Bool)) (S : mq_St), i + k = L → k < fu → H.length ≤ i → H.length ≤ 666 → cxC S n so on tw d → S.1 0 = nI (3 * L) → (∀ j, j < 3 * L → by_at (S.2.1 2) j = nI (gb j)) → vC S X H → ∃ S', ag [21] [] [5, 6] S S' ∧ zf_X1_isRight_48 N z fu (nI L) (nI i) S = some (bo (vA n so on tw d gb k i X H), S')
  | 0, k, i, X, H, S, _, h, _, _, _, _, _, _ => by omega
  | fu + 1, 0, i, X, H, S, hi, _, _, _, hc, h0, hb, hv => by
    refine ⟨S, ag_rf, ?_⟩
    show zf_X1_isRight_48b N z _ (nI L) (nI i) S = some (0, S)
    unfold zf_X1_isRight_48b
    rw [if_pos (nI_le (by omega) (by omega)), mq_cz_0]
  | fu + 1, k + 1, i, X, H, S, hi, hfu, hH, hH6, hc, h0, hb, hv => by
    have h3 := hc.2.2.2.2.1
    show ∃ S', _ ∧ zf_X1_isRight_48b N z (fun v2 v3 S => zf_X1_isRight_48 N z fu v2 v3 S) (nI L) (nI i) S = some (bo (if gF gb i < n ∧ X (gF gb i) = true then _ else false), S')
    have rd : ∀ j, j < 3 * L → zf_X0_at N z (nI j) (mq_pull S [0] [2] []) = some (nI (gb j)) := fun j hj => (by_zat (S := mq_pull S [0] [2] []) h0 hL hj).trans (congrArg some (hb j hj))
    have go := fun X' H' S' (h1 : H'.length ≤ i + 1) (h2 : H'.length ≤ 666) (ha : ag [21] [] [5, 6] S S') (hv' : vC S' X' H') => cv_48 hN hL hg fu k (i + 1) X' H' S' (by omega) (by omega) h1 h2 (cxC_c hc (ha.1 _ (by decide)) (ha.2.1 _ (by decide)) (ha.2.1 _ (by decide)) (ha.2.1 _ (by decide)) (ha.2.1 _ (by decide)) (ha.2.2 _ (by decide))) ((ha.1 0 (by decide)).trans h0) (fun j hj => by rw [ha.2.1 2 (by decide)]; exact hb j hj) hv'
    unfold zf_X1_isRight_48b zf_X1_isRight_186
    rw [if_neg (nI_ge (show i < L by omega) (by omega)), e3m, nI_e, rd (3 * i) (by omega), mq_cp_s, nI_e, nI_1, rd (3 * i + 1) (by omega), mq_cp_s, nI_2p, rd (3 * i + 2) (by omega), mq_cp_s, e256, nI_e]
    have h65 : gF gb i < 65536 := by have := hg (3 * i + 1); have := hg (3 * i + 2); unfold gF; omega
    show ∃ S', ag [21] [] [5, 6] S S' ∧ mq_cp (zf_X6_has N (fun k => [5].getD k 0) 0 (nI (gF gb i)) (mq_pull S [] [] [6])) _ = _
    rw [show 256 * gb (3 * i + 1) + gb (3 * i + 2) = gF gb i from rfl]
    have hgr := hg (3 * i)
    generalize gF gb i = f at *
    generalize gb (3 * i) = r at *
    by_cases hp : f < 320
    · have e5 : zf_X6_has N (fun k => [5].getD k 0) 0 (nI f) (mq_pull S [] [] [6]) = some (if X f = true then 1 else 0) := by
        rw [← hv.2.1 _ hp]
        exact se_has (N := N) (R := 1) (z := fun k => [5].getD k 0) (S := mq_pull S [] [] [6]) (r := 0) (f := f) rfl (by omega) (by omega) hp
      rw [e5, mq_cp_s]
      by_cases hX : X f = true
      · rw [if_pos hX, if_neg (by decide)]
        by_cases hn : f < n
        · rw [if_pos (show f < n ∧ X f = true from ⟨hn, hX⟩)]
          obtain ⟨c1, c2, c4, c3, c5⟩ := ca_1 (N := N) (z := z) hc hn
          by_cases r0 : r = 0
          · subst r0
            rw [show nI 0 = 0 from rfl, ca_0 hc hn hv, mq_cp_s, if_pos rfl, if_pos rfl]
            by_cases q : so f = nI 1 ∨ (so f = nI 2 ∧ X (d f) = true)
            · rw [if_pos q, decide_eq_true q, if_neg (by decide), hv.1]
              cases H with
              | nil =>
                refine ⟨S, ag_rf, ?_⟩
                rw [if_pos (show nI ([] : List (Nat → Bool)).length = 0 from rfl), show nI L - 1 = nI (L - 1) from sp_su (b := 1) (by omega), mq_cz_0, mq_cz_1]
                by_cases e : k = 0
                · rw [if_pos (by rw [show i = L - 1 by omega]), e]; rfl
                · rw [if_neg (fun q => by have := sp_inj q (by omega) (by omega); omega), decide_eq_false e]; rfl
              | cons Y H' =>
                have hl' : H'.length + 1 ≤ 666 := hH6
                have hi' : H'.length + 1 ≤ i := hH
                rw [if_neg (fun q => by have := sp_inj (a := H'.length + 1) (b := 0) q (by omega) (by omega); omega), show nI (Y :: H').length - 1 = nI H'.length from sp_su (a := H'.length + 1) (b := 1) (by omega), nS_e, show (mq_si S 21 (nI H'.length)).1 21 = nI H'.length from rfl]
                obtain ⟨l, a1, a2⟩ := cv_copy (N := N) (S := mq_si S 21 (nI H'.length)) (a := 6) (b := 5) (ra := 0) (rb := H'.length) (RA := 1) (RB := 666) (y := fun k => [5, 3330].getD k 0) hN (by decide) rfl rfl (by omega) (by omega) (by omega) (by omega)
                rw [show (0 : Int32) = nI 0 from rfl, a1, nI_e, nI_1]
                obtain ⟨S', b1, b2⟩ := go Y H' (mq_sl (mq_si S 21 (nI H'.length)) 6 l) (by omega) (by omega) (ag_tr (ag_si (by decide)) (ag_sl (by decide))) ⟨rfl, fun g hg => by
                  show lb l 0 g = _
                  rw [a2 0 g hg, if_pos rfl]; exact hv.2.2.1 g hg, hv.2.2.2⟩
                exact ⟨S', ag_tr (ag_tr (ag_si (by decide)) (ag_sl (by decide))) b1, b2⟩
            · rw [if_neg q, decide_eq_false q, if_pos (by decide), mq_cz_0]
              exact ⟨S, ag_rf, rfl⟩
          · rw [if_neg r0, if_neg (show ¬ nI r = 0 from fun q => r0 (sp_inj (b := 0) q (by omega) (by omega)))]
            by_cases r1 : r = 1
            · subst r1
              rw [if_pos rfl, show nI 1 = 1 from rfl, c1, mq_cp_s]
              by_cases q : so f = nI 4
              · rw [if_pos q, decide_eq_true q, if_neg (by decide)]
                obtain ⟨S1, a1, a2, a3⟩ := cp_1 (N := N) (z := z) hc hn q hv
                obtain ⟨S', b1, b2⟩ := go _ H S1 (by omega) hH6 a1 a2
                rw [a3, mq_cl_s, nI_e, nI_1]
                exact ⟨S', ag_tr a1 b1, b2⟩
              · rw [if_neg q, decide_eq_false q, if_pos (by decide), mq_cz_0]
                exact ⟨S, ag_rf, rfl⟩
            · rw [if_neg r1]
              by_cases r2 : r = 2
              · subst r2
                rw [if_pos rfl, show nI 2 = 2 from rfl, c2, mq_cp_s]
                by_cases q : so f = nI 6
                · rw [if_pos q, decide_eq_true q, if_neg (by decide)]
                  obtain ⟨S1, a1, a2, a3⟩ := cp_2 (N := N) (z := z) hc hn q hv
                  obtain ⟨S', b1, b2⟩ := go _ H S1 (by omega) hH6 a1 a2
                  rw [a3, mq_cl_s, nI_e, nI_1]
                  exact ⟨S', ag_tr a1 b1, b2⟩
                · rw [if_neg q, decide_eq_false q, if_pos (by decide), mq_cz_0]
                  exact ⟨S, ag_rf, rfl⟩
              · rw [if_neg r2]
                by_cases r3 : r = 3
                · subst r3
                  rw [if_pos rfl, show nI 3 = 3 from rfl, c3]
                  by_cases q : so f = nI 5
                  · rw [if_pos q, if_pos q, hv.1]
                    by_cases q6 : H.length < 666
                    · rw [if_neg (show ¬ (666 : Int32) ≤ nI H.length from nI_ge (b := 666) q6 (by omega)), mq_cp_s, if_neg (by decide)]
                      obtain ⟨S1, a1, a2, a3⟩ := cp_3 (N := N) (z := z) hN hc hn q hv q6
                      obtain ⟨S', b1, b2⟩ := go _ _ S1 (by simp only [List.length_cons]; omega) (by simp only [List.length_cons]; omega) a1 a2
                      rw [a3, mq_cl_s, nI_e, nI_1]
                      exact ⟨S', ag_tr a1 b1, b2⟩
                    · rw [if_pos (show (666 : Int32) ≤ nI H.length from nI_le (a := 666) (by omega) (by omega)), mq_cp_s, if_pos rfl, mq_cz_0, vA_len _ _ _ _ (by simp only [List.length_cons]; omega)]
                      exact ⟨S, ag_rf, rfl⟩
                  · rw [if_neg q, if_neg q, mq_cp_s, if_pos rfl, mq_cz_0]
                    exact ⟨S, ag_rf, rfl⟩
                · rw [if_neg r3]
                  by_cases r4 : r = 4
                  · subst r4
                    rw [if_pos rfl, show nI 4 = 4 from rfl, c4, mq_cp_s]
                    by_cases q : so f = nI 7
                    · rw [if_pos q, decide_eq_true q, if_neg (by decide)]
                      obtain ⟨S1, a1, a2, a3⟩ := cp_4 (N := N) (z := z) hN hc hn q hv
                      obtain ⟨S', b1, b2⟩ := go _ H S1 (by omega) hH6 a1 a2
                      rw [a3, mq_cl_s, nI_e, nI_1]
                      exact ⟨S', ag_tr a1 b1, b2⟩
                    · rw [if_neg q, decide_eq_false q, if_pos (by decide), mq_cz_0]
                      exact ⟨S, ag_rf, rfl⟩
                  · rw [if_neg r4, c5 r (by omega) hgr, mq_cp_s, if_pos rfl, mq_cz_0]
                    exact ⟨S, ag_rf, rfl⟩
        · rw [if_neg (show ¬ (f < n ∧ X f = true) from fun q => hn q.1), ca_x _ hc (by omega) (by omega), mq_cp_s, if_pos rfl, mq_cz_0]
          exact ⟨S, ag_rf, rfl⟩
      · rw [if_neg hX, if_pos rfl, mq_cz_0, if_neg (show ¬ (f < n ∧ X f = true) from fun q => hX q.2)]
        exact ⟨S, ag_rf, rfl⟩
    · rw [se_hasx _ (by omega) (by omega), mq_cp_s, if_pos rfl, mq_cz_0, if_neg (show ¬ (f < n ∧ X f = true) from fun q => by have := q.1; omega)]
      exact ⟨S, ag_rf, rfl⟩
end VERC
