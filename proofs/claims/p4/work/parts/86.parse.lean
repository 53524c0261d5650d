/-! The parser as a function of its own; what holds of it. -/
def nop (G : List Nat) : Nat := G.countP (fun g => decide (g ≤ 3))
def nbi (G : List Nat) : Nat := G.countP (fun g => decide (4 ≤ g))
def tp : List Nat → Prop
  | [] => True
  | g :: _ => ¬ (1 ≤ g ∧ g ≤ 3)
def okG : List Nat → Prop
  | [] => True
  | g :: G => g ≤ 7 ∧ (4 ≤ g → tp G) ∧ okG G
def joinA (pl : Bool) (c : Nat) : List Nat → List Tr → List Nat × List Tr
  | g :: G, y :: x :: V => if c ≤ g then joinA pl c G (comb pl g x y :: V) else (g :: G, y :: x :: V)
  | G, V => (G, V)
def aheadA (pl : Bool) : List Nat → List Tr → List Nat × List Tr
  | g :: G, x :: V => if 1 ≤ g ∧ g ≤ 3 then aheadA pl G (pref pl g x :: V) else (g :: G, x :: V)
  | G, V => (G, V)
abbrev isAt (s : Nat) : Prop := s = 84 ∨ s = 70 ∨ (97 ≤ s ∧ s ≤ 122)
def opc (s : Nat) : Nat := if s = 40 then 0 else if s = 33 then 1 else if s = 91 then 2 else if s = 60 then 3 else 9
def bic (s : Nat) : Nat := if s = 61 then 4 else if s = 62 then 5 else if s = 124 then 6 else if s = 38 then 7 else 0
def jc (s : Nat) : Nat := if s = 5 then 6 else s
def stA (pl : Bool) (s : Nat) (G : List Nat) (V : List Tr) (od : Bool) : Nat × List Nat × List Tr × Bool :=
  if od = true then
    if isAt s then (0, (aheadA pl G (atomT pl s :: V)).1, (aheadA pl G (atomT pl s :: V)).2, false)
    else if opc s ≤ 3 then (if 60 ≤ nop G then (2, G, V, od) else if pl = false ∧ 2 ≤ opc s then (3, G, V, od) else (0, opc s :: G, V, true))
    else (1, G, V, od)
  else if 4 ≤ bic s then (0, bic s :: (joinA pl (jc (bic s)) G V).1, (joinA pl (jc (bic s)) G V).2, true)
  else if s = 41 ∧ 0 < G.count 0 then (0, (aheadA pl (joinA pl 4 G V).1.tail (joinA pl 4 G V).2).1, (aheadA pl (joinA pl 4 G V).1.tail (joinA pl 4 G V).2).2, false)
  else (1, G, V, od)
def sg (B : Nat → Nat) (len p : Nat) : Nat := if B p = 10 then 32 else if B p = 91 then (if p + 1 < len ∧ B (p + 1) = 93 then 91 else 0) else if B p = 60 then (if p + 1 < len ∧ B (p + 1) = 62 then 60 else 0) else B p
def paA (pl : Bool) (B : Nat → Nat) (len : Nat) : Nat → Nat → List Nat → List Tr → Bool → Nat × Nat × List Nat × List Tr × Bool
  | 0, p, G, V, od => (0, p, G, V, od)
  | n + 1, p, G, V, od => if len ≤ p then (0, p, G, V, od) else if sg B len p = 32 then paA pl B len n (p + 1) G V od
    else if (stA pl (sg B len p) G V od).1 = 0 then paA pl B len n (if sg B len p = 91 ∨ sg B len p = 60 then p + 2 else p + 1) (stA pl (sg B len p) G V od).2.1 (stA pl (sg B len p) G V od).2.2.1 (stA pl (sg B len p) G V od).2.2.2
    else ((stA pl (sg B len p) G V od).1, p, G, V, od)
/-- what a state of the parser keeps to -/
def okA (G : List Nat) (V : List Tr) (od : Bool) : Prop := okG G ∧ (od = false → tp G) ∧ V.length = nbi G + (if od = true then 0 else 1) ∧ ∀ v ∈ V, wf v
theorem nop_c (g : Nat) (G : List Nat) : nop (g :: G) = nop G + (if g ≤ 3 then 1 else 0) := by
  unfold nop
  rw [List.countP_cons]
  by_cases h : g ≤ 3
  · rw [if_pos h, if_pos (decide_eq_true h)]
  · rw [if_neg h, if_neg (by rw [decide_eq_true_eq]; exact h)]
theorem nbi_c (g : Nat) (G : List Nat) : nbi (g :: G) = nbi G + (if 4 ≤ g then 1 else 0) := by
  unfold nbi
  rw [List.countP_cons]
  by_cases h : 4 ≤ g
  · rw [if_pos h, if_pos (decide_eq_true h)]
  · rw [if_neg h, if_neg (by rw [decide_eq_true_eq]; exact h)]
theorem cn0_c (g : Nat) (G : List Nat) : (g :: G).count 0 = G.count 0 + (if g = 0 then 1 else 0) := by
  rw [List.count_cons]
  by_cases h : g = 0
  · rw [if_pos h, h]; rfl
  · rw [if_neg h, if_neg (by simpa using h)]
/-- joins: all that is kept -/
theorem joinA_ok {pl : Bool} {c : Nat} (hc : 4 ≤ c) : ∀ (G : List Nat) (V : List Tr), okG G → tp G → V.length = nbi G + 1 → (∀ v ∈ V, wf v) →
    okG (joinA pl c G V).1 ∧ tp (joinA pl c G V).1 ∧ (joinA pl c G V).2.length = nbi (joinA pl c G V).1 + 1 ∧ (∀ v ∈ (joinA pl c G V).2, wf v) ∧ (∀ g G', (joinA pl c G V).1 = g :: G' → g < c) ∧ nop (joinA pl c G V).1 = nop G ∧ (joinA pl c G V).1.count 0 = G.count 0 ∧ (joinA pl c G V).1.length ≤ G.length ∧ (joinA pl c G V).2.length ≤ V.length := by
  intro G
  induction G with
  | nil =>
    intro V h1 h2 h3 h4
    have e : joinA pl c [] V = ([], V) := by unfold joinA; rfl
    rw [e]
    exact ⟨h1, h2, h3, h4, fun g G' q => (by cases q), rfl, rfl, Nat.le_refl _, Nat.le_refl _⟩
  | cons g G ih =>
    intro V h1 h2 h3 h4
    rw [nbi_c] at h3
    match V, h3, h4 with
    | [], h3, _ => exact absurd h3 (by show ¬ 0 = _; omega)
    | [y], h3, h4 =>
      have e : joinA pl c (g :: G) [y] = (g :: G, [y]) := by unfold joinA; rfl
      rw [e]
      have h3 : 1 = nbi G + (if 4 ≤ g then 1 else 0) + 1 := h3
      have hg : ¬ 4 ≤ g := fun q => by rw [if_pos q] at h3; omega
      refine ⟨h1, h2, by rw [nbi_c]; exact h3, h4, fun g' G' q => ?_, rfl, rfl, Nat.le_refl _, Nat.le_refl _⟩
      have := (List.cons.inj q).1
      omega
    | y :: x :: V, h3, h4 =>
      by_cases hg : c ≤ g
      · have e : joinA pl c (g :: G) (y :: x :: V) = joinA pl c G (comb pl g x y :: V) := by rw [joinA]; exact if_pos hg
        rw [e]
        have h3 : V.length + 2 = nbi G + (if 4 ≤ g then 1 else 0) + 1 := h3
        rw [if_pos (by omega)] at h3
        have hw : ∀ v ∈ comb pl g x y :: V, wf v := fun v hv => by
          rcases List.mem_cons.mp hv with q | q
          · rw [q]; exact wf_comb (h4 x (List.mem_cons_of_mem _ List.mem_cons_self)) (h4 y List.mem_cons_self)
          · exact h4 v (List.mem_cons_of_mem _ (List.mem_cons_of_mem _ q))
        obtain ⟨a1, a2, a3, a4, a5, a6, a7, a8, a9⟩ := ih (comb pl g x y :: V) h1.2.2 (h1.2.1 (by omega)) (by show V.length + 1 = _; omega) hw
        refine ⟨a1, a2, a3, a4, a5, ?_, ?_, ?_, ?_⟩
        · rw [a6, nop_c, if_neg (by omega)]; rfl
        · rw [a7, cn0_c, if_neg (by omega)]; rfl
        · exact Nat.le_trans a8 (Nat.le_succ _)
        · exact Nat.le_trans a9 (Nat.le_succ _)
      · have e : joinA pl c (g :: G) (y :: x :: V) = (g :: G, y :: x :: V) := by rw [joinA]; exact if_neg hg
        rw [e]
        refine ⟨h1, h2, by rw [nbi_c]; exact h3, h4, fun g' G' q => ?_, rfl, rfl, Nat.le_refl _, Nat.le_refl _⟩
        have := (List.cons.inj q).1
        omega
theorem aheadA_ok {pl : Bool} : ∀ (G : List Nat) (V : List Tr), okG G → V.length = nbi G + 1 → (∀ v ∈ V, wf v) →
    okG (aheadA pl G V).1 ∧ tp (aheadA pl G V).1 ∧ (aheadA pl G V).2.length = nbi (aheadA pl G V).1 + 1 ∧ (∀ v ∈ (aheadA pl G V).2, wf v) ∧ nop (aheadA pl G V).1 ≤ nop G ∧ (aheadA pl G V).1.count 0 = G.count 0 ∧ (aheadA pl G V).1.length ≤ G.length ∧ (aheadA pl G V).2.length = V.length := by
  intro G
  induction G with
  | nil =>
    intro V h1 h3 h4
    have e : aheadA pl [] V = ([], V) := by unfold aheadA; rfl
    rw [e]
    exact ⟨h1, trivial, h3, h4, Nat.le_refl _, rfl, Nat.le_refl _, rfl⟩
  | cons g G ih =>
    intro V h1 h3 h4
    match V, h3, h4 with
    | [], h3, _ => exact absurd h3 (by show ¬ 0 = _; omega)
    | x :: V, h3, h4 =>
      by_cases hg : 1 ≤ g ∧ g ≤ 3
      · have e : aheadA pl (g :: G) (x :: V) = aheadA pl G (pref pl g x :: V) := by rw [aheadA]; exact if_pos hg
        rw [e]
        rw [nbi_c, if_neg (by omega)] at h3
        obtain ⟨a1, a2, a3, a4, a5, a6, a7, a8⟩ := ih (pref pl g x :: V) h1.2.2 h3 (fun v hv => by
          rcases List.mem_cons.mp hv with q | q
          · rw [q]; exact wf_pref (h4 x List.mem_cons_self)
          · exact h4 v (List.mem_cons_of_mem _ q))
        refine ⟨a1, a2, a3, a4, ?_, ?_, ?_, a8⟩
        · rw [nop_c]; omega
        · rw [a6, cn0_c, if_neg (by omega)]; rfl
        · exact Nat.le_trans a7 (Nat.le_succ _)
      · have e : aheadA pl (g :: G) (x :: V) = (g :: G, x :: V) := by rw [aheadA]; exact if_neg hg
        rw [e]
        exact ⟨h1, hg, h3, h4, Nat.le_refl _, rfl, Nat.le_refl _, rfl⟩
/-- joined down to a bracket, or to nothing -/
theorem joinA_4 {pl : Bool} {G : List Nat} {V : List Tr} (h1 : okG G) (h2 : tp G) (h3 : V.length = nbi G + 1) (h4 : ∀ v ∈ V, wf v) : (G.count 0 = 0 → (joinA pl 4 G V).1 = []) ∧ (0 < G.count 0 → ∃ G', (joinA pl 4 G V).1 = 0 :: G') := by
  obtain ⟨a1, a2, a3, a4, a5, a6, a7, a8, a9⟩ := joinA_ok (pl := pl) (c := 4) (Nat.le_refl _) G V h1 h2 h3 h4
  match hq : (joinA pl 4 G V).1 with
  | [] =>
    rw [hq] at a7
    exact ⟨fun _ => rfl, fun q => by rw [← a7] at q; exact absurd q (by decide)⟩
  | g :: G' =>
    have h := a5 g G' hq
    rw [hq] at a2
    have a2 : ¬ (1 ≤ g ∧ g ≤ 3) := a2
    have g0 : g = 0 := by omega
    subst g0
    refine ⟨fun q => ?_, fun _ => ⟨G', rfl⟩⟩
    rw [hq, cn0_c, if_pos rfl] at a7
    omega
theorem stA_ok {pl : Bool} {s : Nat} {G : List Nat} {V : List Tr} {od : Bool} (h : okA G V od) (h0 : (stA pl s G V od).1 = 0) : okA (stA pl s G V od).2.1 (stA pl s G V od).2.2.1 (stA pl s G V od).2.2.2 ∧ (stA pl s G V od).2.1.length ≤ G.length + 1 ∧ (stA pl s G V od).2.2.1.length ≤ V.length + 1 := by
  obtain ⟨h1, h2, h3, h4⟩ := h
  unfold stA at h0 ⊢
  cases od with
  | true =>
    rw [if_pos rfl] at h0 ⊢
    by_cases ha : isAt s
    · rw [if_pos ha]
      obtain ⟨a1, a2, a3, a4, a5, a6, a7, a8⟩ := aheadA_ok (pl := pl) G (atomT pl s :: V) h1 (by show V.length + 1 = _; rw [h3]; rfl) (fun v hv => by
        rcases List.mem_cons.mp hv with q | q
        · rw [q]; exact wf_atom ha
        · exact h4 v q)
      exact ⟨⟨a1, fun _ => a2, a3, a4⟩, Nat.le_trans a7 (Nat.le_succ _), Nat.le_of_eq a8⟩
    · rw [if_neg ha] at h0 ⊢
      by_cases ho : opc s ≤ 3
      · rw [if_pos ho] at h0 ⊢
        by_cases h60 : 60 ≤ nop G
        · rw [if_pos h60] at h0; exact absurd h0 (show ¬ (2 : Nat) = 0 by decide)
        · rw [if_neg h60] at h0 ⊢
          by_cases hp : pl = false ∧ 2 ≤ opc s
          · rw [if_pos hp] at h0; exact absurd h0 (show ¬ (3 : Nat) = 0 by decide)
          · rw [if_neg hp]
            refine ⟨⟨⟨by omega, fun q => by omega, h1⟩, fun q => (by cases q), ?_, h4⟩, Nat.le_refl _, Nat.le_succ _⟩
            rw [nbi_c, if_neg (by omega)]
            exact h3
      · rw [if_neg ho] at h0; exact absurd h0 (show ¬ (1 : Nat) = 0 by decide)
  | false =>
    rw [if_neg (by decide)] at h0 ⊢
    have h2 := h2 rfl
    have h3 : V.length = nbi G + 1 := h3
    by_cases hb : 4 ≤ bic s
    · rw [if_pos hb]
      have hb7 : bic s ≤ 7 := by unfold bic; repeat' split <;> try omega
      obtain ⟨a1, a2, a3, a4, a5, a6, a7, a8, a9⟩ := joinA_ok (pl := pl) (c := jc (bic s)) (by unfold jc; split <;> omega) G V h1 h2 h3 h4
      refine ⟨⟨⟨hb7, fun _ => a2, a1⟩, fun q => (by cases q), ?_, a4⟩, Nat.succ_le_succ a8, Nat.le_succ_of_le a9⟩
      rw [nbi_c, if_pos hb]
      exact a3
    · rw [if_neg hb] at h0 ⊢
      by_cases hc : s = 41 ∧ 0 < G.count 0
      · rw [if_pos hc]
        obtain ⟨a1, a2, a3, a4, a5, a6, a7, a8, a9⟩ := joinA_ok (pl := pl) (c := 4) (Nat.le_refl _) G V h1 h2 h3 h4
        obtain ⟨G', e⟩ := (joinA_4 (pl := pl) h1 h2 h3 h4).2 hc.2
        rw [e] at a1 a3 a8 ⊢
        rw [nbi_c, if_neg (by omega)] at a3
        obtain ⟨b1, b2, b3, b4, b5, b6, b7, b8⟩ := aheadA_ok (pl := pl) G' (joinA pl 4 G V).2 a1.2.2 a3 a4
        have a8 : G'.length + 1 ≤ G.length := a8
        refine ⟨⟨b1, fun _ => b2, b3, b4⟩, ?_, ?_⟩
        · show (aheadA pl G' (joinA pl 4 G V).2).1.length ≤ _; omega
        · show (aheadA pl G' (joinA pl 4 G V).2).2.length ≤ _; omega
      · rw [if_neg hc] at h0; exact absurd h0 (show ¬ (1 : Nat) = 0 by decide)
