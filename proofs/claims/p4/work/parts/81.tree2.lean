/-! Trees: numbers tell them apart; subtrees; how many there are at least. -/
def ok0 (L : List En) : Prop := L[0]? = some ((0, -1, -1) : En) ∧ L[1]? = some ((1, -1, -1) : En)
theorem ok0_app {L : List En} (h : ok0 L) (X : List En) : ok0 (L ++ X) := by
  have h1 : 1 < L.length := (List.getElem?_eq_some_iff.mp h.2).1
  exact ⟨by rw [List.getElem?_append_left (by omega)]; exact h.1, by rw [List.getElem?_append_left h1]; exact h.2⟩
/-- the entry that a tree has -/
def ee (L : List En) : Tr → En
  | .num v => if v = 0 then (0, -1, -1) else (1, -1, -1)
  | .var i => (nI (2 + i % 2), nI (i / 2), -1)
  | .add a b => (4, nI (mk a L).1, nI (mk b L).1)
  | .sub a b => (5, nI (mk a L).1, nI (mk b L).1)
  | .neg _ => (9, -1, -1)
  | .mulL _ a => (6, nI (mk a L).1, -1)
  | .mulR a _ => (7, nI (mk a L).1, -1)
theorem ix_get {L : List En} {e : En} {k : Nat} (h : e ∈ L) (hk : k = L.idxOf e) : L[k]? = some e := by
  subst hk
  have hl := List.idxOf_lt_length_of_mem h
  rw [List.getElem?_eq_getElem hl, List.getElem_idxOf hl]
theorem pr_get : ∀ {t : Tr} {L : List En} {k : Nat}, wf t → ok0 L → pr t L k → L[k]? = some (ee L t)
  | .num v, L, k, w, h0, h => by
    rw [pr_num.mp h]
    show _ = some (if v = 0 then _ else _)
    by_cases e : v = 0
    · rw [if_pos e, if_pos e]; exact h0.1
    · rw [if_neg e, if_neg e]; exact h0.2
  | .var i, L, k, w, h0, h => ix_get (pr_var.mp h).1 (pr_var.mp h).2
  | .add a b, L, k, w, h0, h => by
    obtain ⟨x, y, ha, hb, he, hk⟩ := pr_add.mp h
    show _ = some (4, nI (mk a L).1, nI (mk b L).1)
    rw [show mk a L = (x, L) from ha, show mk b L = (y, L) from hb]
    exact ix_get he hk
  | .sub a b, L, k, w, h0, h => by
    obtain ⟨x, y, ha, hb, he, hk⟩ := pr_sub.mp h
    show _ = some (5, nI (mk a L).1, nI (mk b L).1)
    rw [show mk a L = (x, L) from ha, show mk b L = (y, L) from hb]
    exact ix_get he hk
  | .neg _, _, _, w, _, _ => w.elim
  | .mulL _ a, L, k, w, h0, h => by
    obtain ⟨x, ha, he, hk⟩ := pr_mulL.mp h
    show _ = some (6, nI (mk a L).1, -1)
    rw [show mk a L = (x, L) from ha]
    exact ix_get he hk
  | .mulR a _, L, k, w, h0, h => by
    obtain ⟨x, ha, he, hk⟩ := pr_mulR.mp h
    show _ = some (7, nI (mk a L).1, -1)
    rw [show mk a L = (x, L) from ha]
    exact ix_get he hk
theorem pr_lt {t : Tr} {L : List En} {k : Nat} (w : wf t) (h0 : ok0 L) (h : pr t L k) : k < L.length := (List.getElem?_eq_some_iff.mp (pr_get w h0 h)).1
/-- the sort of a tree -/
def ts : Tr → Nat
  | .num v => if v = 0 then 0 else 1
  | .var i => 2 + i % 2
  | .add _ _ => 4
  | .sub _ _ => 5
  | .neg _ => 9
  | .mulL _ _ => 6
  | .mulR _ _ => 7
theorem ee_1 (L : List En) : ∀ t : Tr, (ee L t).1 = nI (ts t)
  | .num v => by
    show (if v = 0 then _ else _ : En).1 = nI (if v = 0 then 0 else 1)
    by_cases e : v = 0
    · rw [if_pos e, if_pos e]; rfl
    · rw [if_neg e, if_neg e]; rfl
  | .var i => rfl
  | .add _ _ => rfl
  | .sub _ _ => rfl
  | .neg _ => rfl
  | .mulL _ _ => rfl
  | .mulR _ _ => rfl
theorem ts_n (t : Tr) : (ts t = 0 ∨ ts t = 1 → ∃ v, t = .num v) ∧ (ts t = 2 ∨ ts t = 3 → ∃ i, t = .var i) ∧ (ts t = 4 → ∃ a b, t = .add a b) ∧ (ts t = 5 → ∃ a b, t = .sub a b) ∧ (ts t = 6 → ∃ k a, t = .mulL k a) ∧ (ts t = 7 → ∃ a k, t = .mulR a k) := by
  have hv : ∀ i : Nat, ts (.var i) = 2 + i % 2 := fun _ => rfl
  have hm : ∀ v : Int, ts (.num v) = 0 ∨ ts (.num v) = 1 := fun v => by
    show (if v = 0 then 0 else 1) = 0 ∨ (if v = 0 then 0 else 1) = 1
    split
    · exact Or.inl rfl
    · exact Or.inr rfl
  cases t with
  | num v => have := hm v; exact ⟨fun _ => ⟨v, rfl⟩, fun h => by omega, fun h => by omega, fun h => by omega, fun h => by omega, fun h => by omega⟩
  | var i => have := hv i; exact ⟨fun h => by omega, fun _ => ⟨i, rfl⟩, fun h => by omega, fun h => by omega, fun h => by omega, fun h => by omega⟩
  | add a b => simp [ts]
  | sub a b => simp [ts]
  | neg a => simp [ts]
  | mulL k a => simp [ts]
  | mulR a k => simp [ts]
theorem ts_lt (t : Tr) : ts t < 10 := by
  have hv : ∀ i : Nat, ts (.var i) = 2 + i % 2 := fun _ => rfl
  cases t with
  | num v => show (if v = 0 then 0 else 1) < 10; split <;> omega
  | var i => have := hv i; omega
  | _ => simp [ts]
theorem vr_eq {i j : Nat} (hi : i < 52) (hj : j < 52) (e : nI (i / 2) = nI (j / 2)) (s : 2 + i % 2 = 2 + j % 2) : i = j := by
  have := sp_inj e (by omega) (by omega)
  omega
theorem pr_inj {L : List En} (h0 : ok0 L) (hl : L.length < 2147483648) : ∀ {a b : Tr} {k : Nat}, wf a → wf b → pr a L k → pr b L k → a = b := by
  have key : ∀ {a b : Tr} {k : Nat}, wf a → wf b → pr a L k → pr b L k → ee L a = ee L b ∧ ts a = ts b := fun {a b k} wa wb pa pb => by
    have e := Option.some.inj ((pr_get wa h0 pa).symm.trans (pr_get wb h0 pb))
    refine ⟨e, ?_⟩
    have es : nI (ts a) = nI (ts b) := by rw [← ee_1 L, ← ee_1 L, e]
    have := ts_lt a
    have := ts_lt b
    exact sp_inj es (by omega) (by omega)
  have inj : ∀ {a b : Tr} {x y : Nat}, wf a → wf b → pr a L x → pr b L y → nI (mk a L).1 = nI (mk b L).1 → x = y := by
    intro a b x y wa wb pa pb e
    rw [show mk a L = (x, L) from pa, show mk b L = (y, L) from pb] at e
    have := pr_lt wa h0 pa
    have := pr_lt wb h0 pb
    exact sp_inj e (by omega) (by omega)
  intro a
  induction a with
  | num v =>
    intro b k wa wb pa pb
    obtain ⟨e, es⟩ := key wa wb pa pb
    have hv : v = 0 ∨ v = 1 := wa
    obtain ⟨u, rfl⟩ := (ts_n b).1 (by
      rw [← es]
      show (if v = 0 then 0 else 1) = 0 ∨ (if v = 0 then 0 else 1) = 1
      split
      · exact Or.inl rfl
      · exact Or.inr rfl)
    have hu : u = 0 ∨ u = 1 := wb
    have es : (if v = 0 then 0 else 1) = (if u = 0 then 0 else 1) := es
    rcases hv with rfl | rfl <;> rcases hu with rfl | rfl <;> first | rfl | exact absurd es (by decide)
  | var i =>
    intro b k wa wb pa pb
    obtain ⟨e, es⟩ := key wa wb pa pb
    have hv : ∀ i : Nat, ts (.var i) = 2 + i % 2 := fun _ => rfl
    obtain ⟨j, rfl⟩ := (ts_n b).2.1 (by have := hv i; omega)
    have e2 : nI ((i : Nat) / 2) = nI ((j : Nat) / 2) := congrArg (fun q : En => q.2.1) e
    exact congrArg Int.Internal.Linear.Expr.var (vr_eq wa wb e2 es)
  | add a1 a2 ih1 ih2 =>
    intro b k wa wb pa pb
    obtain ⟨e, es⟩ := key wa wb pa pb
    obtain ⟨b1, b2, rfl⟩ := (ts_n b).2.2.1 es.symm
    obtain ⟨x, y, p1, p2, -⟩ := pr_add.mp pa
    obtain ⟨x', y', q1, q2, -⟩ := pr_add.mp pb
    have ex := inj wa.1 wb.1 p1 q1 (congrArg (fun q : En => q.2.1) e)
    have ey := inj wa.2 wb.2 p2 q2 (congrArg (fun q : En => q.2.2) e)
    rw [ih1 wa.1 wb.1 p1 (ex ▸ q1), ih2 wa.2 wb.2 p2 (ey ▸ q2)]
  | sub a1 a2 ih1 ih2 =>
    intro b k wa wb pa pb
    obtain ⟨e, es⟩ := key wa wb pa pb
    obtain ⟨b1, b2, rfl⟩ := (ts_n b).2.2.2.1 es.symm
    obtain ⟨x, y, p1, p2, -⟩ := pr_sub.mp pa
    obtain ⟨x', y', q1, q2, -⟩ := pr_sub.mp pb
    have ex := inj wa.1 wb.1 p1 q1 (congrArg (fun q : En => q.2.1) e)
    have ey := inj wa.2 wb.2 p2 q2 (congrArg (fun q : En => q.2.2) e)
    rw [ih1 wa.1 wb.1 p1 (ex ▸ q1), ih2 wa.2 wb.2 p2 (ey ▸ q2)]
  | neg _ _ => intro b k wa; exact wa.elim
  | mulL c a1 ih1 =>
    intro b k wa wb pa pb
    obtain ⟨e, es⟩ := key wa wb pa pb
    obtain ⟨c', b1, rfl⟩ := (ts_n b).2.2.2.2.1 es.symm
    obtain ⟨x, p1, -⟩ := pr_mulL.mp pa
    obtain ⟨x', q1, -⟩ := pr_mulL.mp pb
    have ex := inj wa.2 wb.2 p1 q1 (congrArg (fun q : En => q.2.1) e)
    rw [ih1 wa.2 wb.2 p1 (ex ▸ q1), wa.1, wb.1]
  | mulR a1 c ih1 =>
    intro b k wa wb pa pb
    obtain ⟨e, es⟩ := key wa wb pa pb
    obtain ⟨b1, c', rfl⟩ := (ts_n b).2.2.2.2.2 es.symm
    obtain ⟨x, p1, -⟩ := pr_mulR.mp pa
    obtain ⟨x', q1, -⟩ := pr_mulR.mp pb
    have ex := inj wa.2 wb.2 p1 q1 (congrArg (fun q : En => q.2.1) e)
    rw [ih1 wa.2 wb.2 p1 (ex ▸ q1), wa.1, wb.1]
/-- the subtrees -/
def sb : Tr → List Tr
  | .num v => [.num v]
  | .var i => [.var i]
  | .add a b => .add a b :: (sb a ++ sb b)
  | .sub a b => .sub a b :: (sb a ++ sb b)
  | .neg a => .neg a :: sb a
  | .mulL k a => .mulL k a :: sb a
  | .mulR a k => .mulR a k :: sb a
theorem sb_self (t : Tr) : t ∈ sb t := by cases t <;> exact List.mem_cons_self
theorem sb_du : ∀ t : Tr, sb (du t) = (sb t).map du
  | .num _ => rfl
  | .var _ => rfl
  | .add a b => by show _ :: (sb (du a) ++ sb (du b)) = _; rw [sb_du a, sb_du b, ← List.map_append]; rfl
  | .sub a b => by show _ :: (sb (du a) ++ sb (du b)) = _; rw [sb_du a, sb_du b, ← List.map_append]; rfl
  | .neg a => by show _ :: sb (du a) = _; rw [sb_du a]; rfl
  | .mulL _ a => by show _ :: sb (du a) = _; rw [sb_du a]; rfl
  | .mulR a _ => by show _ :: sb (du a) = _; rw [sb_du a]; rfl
theorem pr_sb {L : List En} : ∀ {t : Tr} {k : Nat}, wf t → pr t L k → ∀ s ∈ sb t, ∃ j, pr s L j
  | .num v, k, _, h, s, hs => by rw [List.mem_singleton.mp hs]; exact ⟨k, h⟩
  | .var i, k, _, h, s, hs => by rw [List.mem_singleton.mp hs]; exact ⟨k, h⟩
  | .add a b, k, w, h, s, hs => by
    obtain ⟨x, y, ha, hb, -⟩ := pr_add.mp h
    rcases List.mem_cons.mp hs with e | hs
    · rw [e]; exact ⟨k, h⟩
    · rcases List.mem_append.mp hs with hs | hs
      · exact pr_sb w.1 ha s hs
      · exact pr_sb w.2 hb s hs
  | .sub a b, k, w, h, s, hs => by
    obtain ⟨x, y, ha, hb, -⟩ := pr_sub.mp h
    rcases List.mem_cons.mp hs with e | hs
    · rw [e]; exact ⟨k, h⟩
    · rcases List.mem_append.mp hs with hs | hs
      · exact pr_sb w.1 ha s hs
      · exact pr_sb w.2 hb s hs
  | .neg _, _, w, _, _, _ => w.elim
  | .mulL _ a, k, w, h, s, hs => by
    obtain ⟨x, ha, -⟩ := pr_mulL.mp h
    rcases List.mem_cons.mp hs with e | hs
    · rw [e]; exact ⟨k, h⟩
    · exact pr_sb w.2 ha s hs
  | .mulR a _, k, w, h, s, hs => by
    obtain ⟨x, ha, -⟩ := pr_mulR.mp h
    rcases List.mem_cons.mp hs with e | hs
    · rw [e]; exact ⟨k, h⟩
    · exact pr_sb w.2 ha s hs
theorem sb_wf : ∀ {t s : Tr}, wf t → s ∈ sb t → wf s
  | .num v, s, w, hs => by rw [List.mem_singleton.mp hs]; exact w
  | .var i, s, w, hs => by rw [List.mem_singleton.mp hs]; exact w
  | .add a b, s, w, hs => by
    rcases List.mem_cons.mp hs with e | hs
    · rw [e]; exact w
    · rcases List.mem_append.mp hs with hs | hs
      · exact sb_wf w.1 hs
      · exact sb_wf w.2 hs
  | .sub a b, s, w, hs => by
    rcases List.mem_cons.mp hs with e | hs
    · rw [e]; exact w
    · rcases List.mem_append.mp hs with hs | hs
      · exact sb_wf w.1 hs
      · exact sb_wf w.2 hs
  | .neg _, _, w, _ => w.elim
  | .mulL _ a, s, w, hs => by
    rcases List.mem_cons.mp hs with e | hs
    · rw [e]; exact w
    · exact sb_wf w.2 hs
  | .mulR a _, s, w, hs => by
    rcases List.mem_cons.mp hs with e | hs
    · rw [e]; exact w
    · exact sb_wf w.2 hs
/-- nodes of the draft: T, letters, BOTH, NEED -/
def po : Tr → Bool
  | .num v => v == 0
  | .var i => i % 2 == 0
  | .add _ _ => true
  | .sub _ _ => false
  | .neg _ => true
  | .mulL _ _ => true
  | .mulR _ _ => false
theorem po_du : ∀ {t : Tr}, wf t → po t = true → po (du t) = false
  | .num v, w, h => by
    have h : (v == 0) = true := h
    show (1 - v == 0) = false
    have : v = 0 := by simpa using h
    rw [this]; decide
  | .var i, w, h => by
    have hf : ∀ n : Nat, (n % 2 == 0) = true → (fl n % 2 == 0) = false := fun n h => by
      have h : n % 2 = 0 := by simpa using h
      unfold fl
      rw [if_pos h]
      have : (n + 1) % 2 = 1 := by omega
      rw [this]; decide
    exact hf i h
  | .add _ _, _, _ => rfl
  | .sub a b, _, h => absurd h (by show ¬ false = true; decide)
  | .neg _, w, _ => w.elim
  | .mulL _ _, _, _ => rfl
  | .mulR a k, _, h => absurd h (by show ¬ false = true; decide)
theorem pigeon : ∀ (n : Nat) (l : List Nat), l.Nodup → (∀ x ∈ l, x < n) → l.length ≤ n
  | 0, [], _, _ => Nat.le_refl _
  | 0, x :: l, _, h => absurd (h x List.mem_cons_self) (by omega)
  | n + 1, l, hn, h => by
    have h1 := pigeon n (l.erase n) (hn.erase n) (fun x hx => by
      have a := h x (List.mem_of_mem_erase hx)
      have b : x ≠ n := fun e => by rw [e] at hx; exact hn.not_mem_erase hx
      omega)
    by_cases e : n ∈ l
    · rw [List.length_erase_of_mem e] at h1; omega
    · rw [List.erase_of_not_mem e] at h1; omega
theorem nd_map {α β : Type} {f : α → β} : ∀ {l : List α}, l.Nodup → (∀ x ∈ l, ∀ y ∈ l, f x = f y → x = y) → (l.map f).Nodup
  | [], _, _ => List.nodup_nil
  | a :: l, hn, h => by
    rw [List.map_cons, List.nodup_cons]
    refine ⟨fun hm => ?_, nd_map (List.nodup_cons.mp hn).2 (fun x hx y hy => h x (List.mem_cons_of_mem _ hx) y (List.mem_cons_of_mem _ hy))⟩
    obtain ⟨y, hy, e⟩ := List.mem_map.mp hm
    have := h y (List.mem_cons_of_mem _ hy) a List.mem_cons_self e
    rw [this] at hy
    exact (List.nodup_cons.mp hn).1 hy
/-- nodes, all of them there with their denials: as many entries and more -/
theorem many {L : List En} (h0 : ok0 L) (hl : L.length < 2147483648) {W : List Tr} (hn : W.Nodup) (hp : ∀ w ∈ W, po w = true ∧ wf w ∧ (∃ k, pr w L k) ∧ ∃ k, pr (du w) L k) : 2 * W.length ≤ L.length := by
  have hZ : (W ++ W.map du).Nodup := by
    rw [List.nodup_append]
    refine ⟨hn, nd_map hn (fun x _ y _ e => by rw [← du_du x, e, du_du]), fun a ha b hb e => ?_⟩
    obtain ⟨y, hy, ey⟩ := List.mem_map.mp hb
    have h1 := (hp a ha).1
    rw [e, ← ey, po_du (hp y hy).2.1 (hp y hy).1] at h1
    exact absurd h1 (by decide)
  have hwp : ∀ s ∈ W ++ W.map du, wf s ∧ pr s L (mk s L).1 := by
    intro s hs
    rcases List.mem_append.mp hs with hs | hs
    · obtain ⟨-, w, ⟨k, q⟩, -⟩ := hp s hs
      exact ⟨w, by rw [show mk s L = (k, L) from q]; exact q⟩
    · obtain ⟨y, hy, ey⟩ := List.mem_map.mp hs
      obtain ⟨-, w, -, k, q⟩ := hp y hy
      rw [← ey]
      exact ⟨wf_du y w, by rw [show mk (du y) L = (k, L) from q]; exact q⟩
  have := pigeon L.length ((W ++ W.map du).map (fun s => (mk s L).1)) (nd_map hZ (fun x hx y hy e => by
    obtain ⟨w1, p1⟩ := hwp x hx
    obtain ⟨w2, p2⟩ := hwp y hy
    have e : (mk x L).1 = (mk y L).1 := e
    rw [← e] at p2
    exact pr_inj h0 hl w1 w2 p1 p2)) (fun k hk => by
    obtain ⟨s, hs, e⟩ := List.mem_map.mp hk
    obtain ⟨w1, p1⟩ := hwp s hs
    rw [← e]
    exact pr_lt w1 h0 p1)
  rw [List.length_map, List.length_append, List.length_map] at this
  omega
