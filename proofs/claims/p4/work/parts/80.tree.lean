/-! FORMULAS as trees (a tree type of Lean's own: num 0 T, num 1 F, var 2l a letter, var 2l+1 its opposite, add BOTH, sub EITHER, mulL NEED, mulR MAY); the table that making a tree leaves. -/
abbrev Tr : Type := Int.Internal.Linear.Expr
abbrev En : Type := Int32 × Int32 × Int32
def m1 (e : En) (L : List En) : Nat × List En := if e ∈ L then (L.idxOf e, L) else (L.length, L ++ [e])
def mk : Tr → List En → Nat × List En
  | .num v, L => (if v = 0 then 0 else 1, L)
  | .var i, L => m1 (nI (2 + i % 2), nI (i / 2), -1) L
  | .add a b, L => m1 (4, nI (mk a L).1, nI (mk b (mk a L).2).1) (mk b (mk a L).2).2
  | .sub a b, L => m1 (5, nI (mk a L).1, nI (mk b (mk a L).2).1) (mk b (mk a L).2).2
  | .neg a, L => mk a L
  | .mulL _ a, L => m1 (6, nI (mk a L).1, -1) (mk a L).2
  | .mulR a _, L => m1 (7, nI (mk a L).1, -1) (mk a L).2
def fl (i : Nat) : Nat := if i % 2 = 0 then i + 1 else i - 1
theorem fl_fl (i : Nat) : fl (fl i) = i := by
  unfold fl
  by_cases h : i % 2 = 0
  · rw [if_pos h, if_neg (by omega)]; omega
  · rw [if_neg h, if_pos (by omega)]; omega
theorem fl_lt {i : Nat} (h : i < 52) : fl i < 52 := by
  unfold fl
  split <;> omega
def du : Tr → Tr
  | .num v => .num (1 - v)
  | .var i => .var (fl i)
  | .add a b => .sub (du a) (du b)
  | .sub a b => .add (du a) (du b)
  | .neg a => .neg (du a)
  | .mulL k a => .mulR (du a) k
  | .mulR a k => .mulL k (du a)
def wf : Tr → Prop
  | .num v => v = 0 ∨ v = 1
  | .var i => i < 52
  | .add a b => wf a ∧ wf b
  | .sub a b => wf a ∧ wf b
  | .neg _ => False
  | .mulL k a => k = 0 ∧ wf a
  | .mulR a k => k = 0 ∧ wf a
theorem du_du : ∀ t : Tr, du (du t) = t
  | .num v => by
    show Int.Internal.Linear.Expr.num (1 - (1 - v)) = _
    congr 1
    omega
  | .var i => by
    show Int.Internal.Linear.Expr.var (fl (fl i)) = _
    rw [fl_fl]
  | .add a b => by show Int.Internal.Linear.Expr.add _ _ = _; rw [du_du a, du_du b]
  | .sub a b => by show Int.Internal.Linear.Expr.sub _ _ = _; rw [du_du a, du_du b]
  | .neg a => by show Int.Internal.Linear.Expr.neg _ = _; rw [du_du a]
  | .mulL k a => by show Int.Internal.Linear.Expr.mulL _ _ = _; rw [du_du a]
  | .mulR a k => by show Int.Internal.Linear.Expr.mulR _ _ = _; rw [du_du a]
theorem wf_du : ∀ t : Tr, wf t → wf (du t)
  | .num v, h => by
    have h : v = 0 ∨ v = 1 := h
    show 1 - v = 0 ∨ 1 - v = 1
    omega
  | .var i, h => fl_lt h
  | .add a b, h => ⟨wf_du a h.1, wf_du b h.2⟩
  | .sub a b, h => ⟨wf_du a h.1, wf_du b h.2⟩
  | .neg _, h => h.elim
  | .mulL _ a, h => ⟨h.1, wf_du a h.2⟩
  | .mulR a _, h => ⟨h.1, wf_du a h.2⟩
theorem m1_ext (e : En) (L : List En) : ∃ X, (m1 e L).2 = L ++ X ∧ X.length ≤ 1 := by
  unfold m1
  by_cases h : e ∈ L
  · rw [if_pos h]; exact ⟨[], (List.append_nil L).symm, by decide⟩
  · rw [if_neg h]; exact ⟨[e], rfl, Nat.le_refl _⟩
theorem m1_mem (e : En) (L : List En) : e ∈ (m1 e L).2 := by
  unfold m1
  by_cases h : e ∈ L
  · rw [if_pos h]; exact h
  · rw [if_neg h]; exact List.mem_append_right _ (List.mem_singleton.mpr rfl)
theorem m1_idx (e : En) (L : List En) : (m1 e L).1 = (m1 e L).2.idxOf e := by
  unfold m1
  by_cases h : e ∈ L
  · rw [if_pos h]
  · rw [if_neg h, List.idxOf_append, if_neg h]; simp
theorem m1_st (e : En) (L Y : List En) : m1 e ((m1 e L).2 ++ Y) = ((m1 e L).1, (m1 e L).2 ++ Y) := by
  have h := m1_mem e L
  have h2 := m1_idx e L
  rw [h2]
  generalize (m1 e L).2 = M at *
  unfold m1
  rw [if_pos (List.mem_append_left _ h), List.idxOf_append, if_pos h]
theorem mk_ext : ∀ (t : Tr) (L : List En), ∃ X, (mk t L).2 = L ++ X
  | .num v, L => ⟨[], (List.append_nil L).symm⟩
  | .var i, L => (m1_ext _ L).imp fun _ h => h.1
  | .add a b, L => by
    obtain ⟨X, h⟩ := mk_ext a L
    obtain ⟨Y, h2⟩ := mk_ext b (mk a L).2
    obtain ⟨Z, h3, -⟩ := m1_ext (4, nI (mk a L).1, nI (mk b (mk a L).2).1) (mk b (mk a L).2).2
    refine ⟨X ++ Y ++ Z, ?_⟩
    show (m1 _ _).2 = _
    rw [h3, h2, h]
    simp only [List.append_assoc]
  | .sub a b, L => by
    obtain ⟨X, h⟩ := mk_ext a L
    obtain ⟨Y, h2⟩ := mk_ext b (mk a L).2
    obtain ⟨Z, h3, -⟩ := m1_ext (5, nI (mk a L).1, nI (mk b (mk a L).2).1) (mk b (mk a L).2).2
    refine ⟨X ++ Y ++ Z, ?_⟩
    show (m1 _ _).2 = _
    rw [h3, h2, h]
    simp only [List.append_assoc]
  | .neg a, L => mk_ext a L
  | .mulL _ a, L => by
    obtain ⟨X, h⟩ := mk_ext a L
    obtain ⟨Z, h3, -⟩ := m1_ext (6, nI (mk a L).1, -1) (mk a L).2
    refine ⟨X ++ Z, ?_⟩
    show (m1 _ _).2 = _
    rw [h3, h]
    simp only [List.append_assoc]
  | .mulR a _, L => by
    obtain ⟨X, h⟩ := mk_ext a L
    obtain ⟨Z, h3, -⟩ := m1_ext (7, nI (mk a L).1, -1) (mk a L).2
    refine ⟨X ++ Z, ?_⟩
    show (m1 _ _).2 = _
    rw [h3, h]
    simp only [List.append_assoc]
theorem mk_st : ∀ (t : Tr) (L Y : List En), mk t ((mk t L).2 ++ Y) = ((mk t L).1, (mk t L).2 ++ Y)
  | .num v, L, Y => rfl
  | .var i, L, Y => m1_st _ L Y
  | .add a b, L, Y => by
    obtain ⟨X2, h2⟩ := mk_ext b (mk a L).2
    obtain ⟨X3, h3, -⟩ := m1_ext (4, nI (mk a L).1, nI (mk b (mk a L).2).1) (mk b (mk a L).2).2
    have i3 := m1_st (4, nI (mk a L).1, nI (mk b (mk a L).2).1) (mk b (mk a L).2).2 Y
    show m1 _ _ = _
    have e1 : (mk (.add a b) L).2 ++ Y = (mk a L).2 ++ (X2 ++ (X3 ++ Y)) := by
      show (m1 _ _).2 ++ Y = _
      rw [h3, h2]
      simp only [List.append_assoc]
    have e2 : (mk a L).2 ++ (X2 ++ (X3 ++ Y)) = (mk b (mk a L).2).2 ++ (X3 ++ Y) := by rw [h2, List.append_assoc]
    rw [e1, mk_st a L, e2, mk_st b (mk a L).2, ← List.append_assoc, ← h3]
    exact i3
  | .sub a b, L, Y => by
    obtain ⟨X2, h2⟩ := mk_ext b (mk a L).2
    obtain ⟨X3, h3, -⟩ := m1_ext (5, nI (mk a L).1, nI (mk b (mk a L).2).1) (mk b (mk a L).2).2
    have i3 := m1_st (5, nI (mk a L).1, nI (mk b (mk a L).2).1) (mk b (mk a L).2).2 Y
    show m1 _ _ = _
    have e1 : (mk (.sub a b) L).2 ++ Y = (mk a L).2 ++ (X2 ++ (X3 ++ Y)) := by
      show (m1 _ _).2 ++ Y = _
      rw [h3, h2]
      simp only [List.append_assoc]
    have e2 : (mk a L).2 ++ (X2 ++ (X3 ++ Y)) = (mk b (mk a L).2).2 ++ (X3 ++ Y) := by rw [h2, List.append_assoc]
    rw [e1, mk_st a L, e2, mk_st b (mk a L).2, ← List.append_assoc, ← h3]
    exact i3
  | .neg a, L, Y => mk_st a L Y
  | .mulL k a, L, Y => by
    obtain ⟨X3, h3, -⟩ := m1_ext (6, nI (mk a L).1, -1) (mk a L).2
    have i3 := m1_st (6, nI (mk a L).1, -1) (mk a L).2 Y
    show m1 _ _ = _
    have e1 : (mk (.mulL k a) L).2 ++ Y = (mk a L).2 ++ (X3 ++ Y) := by
      show (m1 _ _).2 ++ Y = _
      rw [h3]
      simp only [List.append_assoc]
    rw [e1, mk_st a L, ← List.append_assoc, ← h3]
    exact i3
  | .mulR a k, L, Y => by
    obtain ⟨X3, h3, -⟩ := m1_ext (7, nI (mk a L).1, -1) (mk a L).2
    have i3 := m1_st (7, nI (mk a L).1, -1) (mk a L).2 Y
    show m1 _ _ = _
    have e1 : (mk (.mulR a k) L).2 ++ Y = (mk a L).2 ++ (X3 ++ Y) := by
      show (m1 _ _).2 ++ Y = _
      rw [h3]
      simp only [List.append_assoc]
    rw [e1, mk_st a L, ← List.append_assoc, ← h3]
    exact i3
/-- the tree is there, with number k -/
def pr (t : Tr) (L : List En) (k : Nat) : Prop := mk t L = (k, L)
theorem pr_mk (t : Tr) (L : List En) : pr t (mk t L).2 (mk t L).1 := by
  have := mk_st t L []
  rw [List.append_nil] at this
  exact this
theorem pr_mono {t : Tr} {L : List En} {k : Nat} (h : pr t L k) (Y : List En) : pr t (L ++ Y) k := by
  have := mk_st t L Y
  unfold pr at h ⊢
  rw [h] at this
  exact this
theorem pr_fn {t : Tr} {L : List En} {k k' : Nat} (h : pr t L k) (h' : pr t L k') : k = k' := congrArg Prod.fst (h.symm.trans h')
theorem m1_eq {e : En} {L M : List En} {k : Nat} (h : m1 e M = (k, L)) (hl : L.length ≤ M.length) : M = L ∧ e ∈ L ∧ k = L.idxOf e := by
  obtain ⟨X, h1, -⟩ := m1_ext e M
  have hm := m1_mem e M
  have hi := m1_idx e M
  rw [h] at h1 hm hi
  have h1 : L = M ++ X := h1
  have hx : X = [] := by
    have := congrArg List.length h1
    rw [List.length_append] at this
    exact List.eq_nil_of_length_eq_zero (by omega)
  rw [hx, List.append_nil] at h1
  exact ⟨h1.symm, hm, hi⟩
theorem mk_len (t : Tr) (L : List En) : L.length ≤ (mk t L).2.length := by
  obtain ⟨X, h⟩ := mk_ext t L
  rw [h, List.length_append]; omega
theorem mk_of_len {t : Tr} {L : List En} (h : (mk t L).2.length ≤ L.length) : (mk t L).2 = L := by
  obtain ⟨X, e⟩ := mk_ext t L
  have hx : X = [] := by
    rw [e, List.length_append] at h
    exact List.eq_nil_of_length_eq_zero (by omega)
  rw [e, hx, List.append_nil]
/-- two parts, one part: what is there, there with its parts -/
theorem pr_add {a b : Tr} {L : List En} {k : Nat} : pr (.add a b) L k ↔ ∃ x y, pr a L x ∧ pr b L y ∧ (4, nI x, nI y) ∈ L ∧ k = L.idxOf (4, nI x, nI y) := by
  constructor
  · intro h
    have h : m1 (4, nI (mk a L).1, nI (mk b (mk a L).2).1) (mk b (mk a L).2).2 = (k, L) := h
    obtain ⟨h1, h2, h3⟩ := m1_eq h (Nat.le_trans (mk_len a L) (mk_len b _))
    have ea : (mk a L).2 = L := mk_of_len (by have := mk_len b (mk a L).2; rw [h1] at this; exact this)
    rw [ea] at h1 h2 h3
    exact ⟨(mk a L).1, (mk b L).1, by rw [pr, Prod.ext_iff]; exact ⟨rfl, ea⟩, by rw [pr, Prod.ext_iff]; exact ⟨rfl, h1⟩, h2, h3⟩
  · rintro ⟨x, y, ha, hb, he, hk⟩
    show m1 (4, nI (mk a L).1, nI (mk b (mk a L).2).1) (mk b (mk a L).2).2 = (k, L)
    rw [show mk a L = (x, L) from ha, show mk b L = (y, L) from hb]
    unfold m1
    rw [if_pos he, hk]
theorem pr_sub {a b : Tr} {L : List En} {k : Nat} : pr (.sub a b) L k ↔ ∃ x y, pr a L x ∧ pr b L y ∧ (5, nI x, nI y) ∈ L ∧ k = L.idxOf (5, nI x, nI y) := by
  constructor
  · intro h
    have h : m1 (5, nI (mk a L).1, nI (mk b (mk a L).2).1) (mk b (mk a L).2).2 = (k, L) := h
    obtain ⟨h1, h2, h3⟩ := m1_eq h (Nat.le_trans (mk_len a L) (mk_len b _))
    have ea : (mk a L).2 = L := mk_of_len (by have := mk_len b (mk a L).2; rw [h1] at this; exact this)
    rw [ea] at h1 h2 h3
    exact ⟨(mk a L).1, (mk b L).1, by rw [pr, Prod.ext_iff]; exact ⟨rfl, ea⟩, by rw [pr, Prod.ext_iff]; exact ⟨rfl, h1⟩, h2, h3⟩
  · rintro ⟨x, y, ha, hb, he, hk⟩
    show m1 (5, nI (mk a L).1, nI (mk b (mk a L).2).1) (mk b (mk a L).2).2 = (k, L)
    rw [show mk a L = (x, L) from ha, show mk b L = (y, L) from hb]
    unfold m1
    rw [if_pos he, hk]
theorem pr_mulL {a : Tr} {L : List En} {k : Nat} {c : Int} : pr (.mulL c a) L k ↔ ∃ x, pr a L x ∧ (6, nI x, -1) ∈ L ∧ k = L.idxOf (6, nI x, -1) := by
  constructor
  · intro h
    have h : m1 (6, nI (mk a L).1, -1) (mk a L).2 = (k, L) := h
    obtain ⟨h1, h2, h3⟩ := m1_eq h (mk_len a L)
    exact ⟨(mk a L).1, by rw [pr, Prod.ext_iff]; exact ⟨rfl, h1⟩, h2, h3⟩
  · rintro ⟨x, ha, he, hk⟩
    show m1 (6, nI (mk a L).1, -1) (mk a L).2 = (k, L)
    rw [show mk a L = (x, L) from ha]
    unfold m1
    rw [if_pos he, hk]
theorem pr_mulR {a : Tr} {L : List En} {k : Nat} {c : Int} : pr (.mulR a c) L k ↔ ∃ x, pr a L x ∧ (7, nI x, -1) ∈ L ∧ k = L.idxOf (7, nI x, -1) := by
  constructor
  · intro h
    have h : m1 (7, nI (mk a L).1, -1) (mk a L).2 = (k, L) := h
    obtain ⟨h1, h2, h3⟩ := m1_eq h (mk_len a L)
    exact ⟨(mk a L).1, by rw [pr, Prod.ext_iff]; exact ⟨rfl, h1⟩, h2, h3⟩
  · rintro ⟨x, ha, he, hk⟩
    show m1 (7, nI (mk a L).1, -1) (mk a L).2 = (k, L)
    rw [show mk a L = (x, L) from ha]
    unfold m1
    rw [if_pos he, hk]
theorem pr_var {i : Nat} {L : List En} {k : Nat} : pr (.var i) L k ↔ (nI (2 + i % 2), nI (i / 2), -1) ∈ L ∧ k = L.idxOf (nI (2 + i % 2), nI (i / 2), -1) := by
  constructor
  · intro h
    have h : m1 (nI (2 + i % 2), nI (i / 2), -1) L = (k, L) := h
    obtain ⟨-, h2, h3⟩ := m1_eq h (Nat.le_refl _)
    exact ⟨h2, h3⟩
  · rintro ⟨he, hk⟩
    show m1 (nI (2 + i % 2), nI (i / 2), -1) L = (k, L)
    unfold m1
    rw [if_pos he, hk]
theorem pr_num {v : Int} {L : List En} {k : Nat} : pr (.num v) L k ↔ k = if v = 0 then 0 else 1 := by
  constructor
  · intro h
    exact (congrArg Prod.fst h).symm
  · intro h
    rw [h]
    rfl
