/-! Our own base: one table of words for all methods; the state of a world as numbers; steps of decompiled functions. -/
/-- the words that every method is given: all of the tables' that stay -/
def mq_T : List Cond := lw_tbl.filter goodWord
theorem mq_T_mem {w : Cond} (h : w ∈ lw_tbl) (hg : goodWord w = true) : w ∈ mq_T := List.mem_filter.mpr ⟨h, hg⟩
theorem mq_t1 {w : Cond} (h : w ∈ tables_1_1) : w ∈ lw_tbl := List.mem_append_right (k2_sels lw_privs) (show w ∈ tables_1 from (List.mem_append_left _ h))
theorem mq_t2 {w : Cond} (h : w ∈ tables_1_2) : w ∈ lw_tbl := List.mem_append_right (k2_sels lw_privs) (show w ∈ tables_1 from (List.mem_append_right _ (List.mem_append_left _ h)))
theorem mq_t3 {w : Cond} (h : w ∈ tables_1_3) : w ∈ lw_tbl := List.mem_append_right (k2_sels lw_privs) (show w ∈ tables_1 from (List.mem_append_right _ (List.mem_append_right _ (List.mem_append_left _ h))))
theorem mq_t4 {w : Cond} (h : w ∈ tables_1_4) : w ∈ lw_tbl := List.mem_append_right (k2_sels lw_privs) (show w ∈ tables_1 from (List.mem_append_right _ (List.mem_append_right _ (List.mem_append_right _ (List.mem_append_left _ h)))))
theorem mq_t5 {w : Cond} (h : w ∈ tables_1_5) : w ∈ lw_tbl := List.mem_append_right (k2_sels lw_privs) (show w ∈ tables_1 from (List.mem_append_right _ (List.mem_append_right _ (List.mem_append_right _ (List.mem_append_right _ (List.mem_append_left _ h))))))
theorem mq_t6 {w : Cond} (h : w ∈ tables_1_6) : w ∈ lw_tbl := List.mem_append_right (k2_sels lw_privs) (show w ∈ tables_1 from (List.mem_append_right _ (List.mem_append_right _ (List.mem_append_right _ (List.mem_append_right _ (List.mem_append_right _ (List.mem_append_left _ h)))))))
theorem mq_t7 {w : Cond} (h : w ∈ tables_1_7) : w ∈ lw_tbl := List.mem_append_right (k2_sels lw_privs) (show w ∈ tables_1 from (List.mem_append_right _ (List.mem_append_right _ (List.mem_append_right _ (List.mem_append_right _ (List.mem_append_right _ (List.mem_append_right _ h)))))))
def mq_tk (k : Nat) : List Cond := if k = 1 then tables_1_1 else if k = 2 then tables_1_2 else if k = 3 then tables_1_3 else if k = 4 then tables_1_4 else if k = 5 then tables_1_5 else if k = 6 then tables_1_6 else if k = 7 then tables_1_7 else []
theorem mq_tk_in (k : Nat) (w : Cond) (h : w ∈ mq_tk k) : w ∈ lw_tbl := by
  unfold mq_tk at h
  by_cases h1 : k = 1
  · rw [if_pos h1] at h; exact mq_t1 h
  rw [if_neg h1] at h
  by_cases h2 : k = 2
  · rw [if_pos h2] at h; exact mq_t2 h
  rw [if_neg h2] at h
  by_cases h3 : k = 3
  · rw [if_pos h3] at h; exact mq_t3 h
  rw [if_neg h3] at h
  by_cases h4 : k = 4
  · rw [if_pos h4] at h; exact mq_t4 h
  rw [if_neg h4] at h
  by_cases h5 : k = 5
  · rw [if_pos h5] at h; exact mq_t5 h
  rw [if_neg h5] at h
  by_cases h6 : k = 6
  · rw [if_pos h6] at h; exact mq_t6 h
  rw [if_neg h6] at h
  by_cases h7 : k = 7
  · rw [if_pos h7] at h; exact mq_t7 h
  rw [if_neg h7] at h
  cases h
theorem mq_inl {ws : List Cond} (ix : List (Nat × Nat)) (h : ws.map some = ix.map (fun q => (mq_tk q.1)[q.2]?)) : ∀ w ∈ ws, w ∈ lw_tbl := by
  intro w hw
  have h1 : some w ∈ ws.map some := List.mem_map.mpr ⟨w, hw, rfl⟩
  rw [h] at h1
  obtain ⟨q, _, e⟩ := List.mem_map.mp h1
  exact mq_tk_in q.1 w (List.mem_of_getElem? e)
theorem mq_T_at {w : Cond} (i : Nat) (h : lw_tbl[i]? = some w ∧ goodWord w = true) : w ∈ mq_T := List.mem_filter.mpr ⟨List.mem_of_getElem? h.1, h.2⟩
theorem mq_T_good {w : Cond} (h : w ∈ mq_T) : (w.onTables && w.keeps) = true ∨ ∃ ty, w = .arrayClass ty := good_of_word (List.mem_filter.mp h).2
theorem mq_goodL {c1 : Cond} {ws : List Cond} (h : ∀ w ∈ ws, w ∈ mq_T) : GoodIn (c1 :: mq_T) ws := fun w hw => ⟨List.mem_cons_of_mem _ (h w hw), mq_T_good (h w hw)⟩
/-- the state of a world: numbers, arrays of ints (bytes, booleans), arrays of longs, each by its place -/
abbrev mq_St : Type := (Nat → Int32) × (Nat → Nat → Int32) × (Nat → Nat → Int64)
def mq_si (S : mq_St) (k : Nat) (v : Int32) : mq_St := (fun j => if j = k then v else S.1 j, S.2.1, S.2.2)
def mq_sa (S : mq_St) (k : Nat) (f : Nat → Int32) : mq_St := (S.1, fun j => if j = k then f else S.2.1 j, S.2.2)
def mq_sl (S : mq_St) (k : Nat) (f : Nat → Int64) : mq_St := (S.1, S.2.1, fun j => if j = k then f else S.2.2 j)
/-- a name for a state, a number, a long -/
def mq_nS {α : Type} (S : mq_St) (k : mq_St → Option α) : Option α := k S
def mq_nI {α : Type} (v : Int32) (k : Int32 → Option α) : Option α := k v
def mq_nL {α : Type} (v : Int64) (k : Int64 → Option α) : Option α := k v
/-- an index in its row -/
def mq_ck {α : Type} (i : Int32) (n : Nat) (k : Option α) : Option α := if 0 ≤ i.toInt ∧ i.toInt < n then k else none
/-- a truth value -/
def mq_cz {α : Type} (v : Int32) (k : Option α) : Option α := if v = 0 ∨ v = 1 then k else none
/-- a call -/
def mq_cl {α β : Type} (x : Option (α × mq_St)) (k : α → mq_St → Option β) : Option β := match x with
  | none => none
  | some q => k q.1 q.2
theorem mq_nS_go {α : Type} {S1 S0 : mq_St} {k : mq_St → Option α} {r : Option α} (e : S1 = S0) (h : mq_nS S0 k = r) : k S1 = r := by subst e; exact h
theorem mq_nI_go {α : Type} {y x : Int32} {k : Int32 → Option α} {r : Option α} (e : y = x) (h : mq_nI x k = r) : k y = r := by subst e; exact h
theorem mq_nL_go {α : Type} {y x : Int64} {k : Int64 → Option α} {r : Option α} (e : y = x) (h : mq_nL x k = r) : k y = r := by subst e; exact h
theorem mq_ck_in {α : Type} {i : Int32} {n : Nat} {k : Option α} {r : α} (h : mq_ck i n k = some r) : vp_in i n := by
  unfold mq_ck at h
  split at h
  · next g => exact vp_in_iff.mpr g
  · cases h
theorem mq_ck_go {α : Type} {i : Int32} {n : Nat} {k : Option α} {r : α} (h : mq_ck i n k = some r) : k = some r := by
  unfold mq_ck at h
  split at h
  · exact h
  · cases h
theorem mq_ck_of {α : Type} {i : Int32} {n : Nat} {k : Option α} (h : vp_in i n) : mq_ck i n k = k := if_pos (vp_in_iff.mp h)
theorem mq_cz_in {α : Type} {v : Int32} {k : Option α} {r : α} (h : mq_cz v k = some r) : narrow .boolean (.int v) = .int v ∧ fits .boolean (.int v) = true := by
  unfold mq_cz at h
  split at h
  · next g => rcases g with rfl | rfl <;> exact ⟨rfl, rfl⟩
  · cases h
theorem mq_cz_go {α : Type} {v : Int32} {k : Option α} {r : α} (h : mq_cz v k = some r) : k = some r := by
  unfold mq_cz at h
  split at h
  · exact h
  · cases h
theorem mq_cl_go {α β : Type} {x : Option (α × mq_St)} {k : α → mq_St → Option β} {r : β} (h : mq_cl x k = some r) : ∃ (q : α × mq_St), x = some q ∧ k q.1 q.2 = some r := by
  cases x with
  | none => cases h
  | some q => exact ⟨q, rfl, h⟩
theorem mq_it {α : Type} {c : Prop} [Decidable c] {a b r : α} (hc : c) (h : (if c then a else b) = r) : a = r := by rw [if_pos hc] at h; exact h
theorem mq_if {α : Type} {c : Prop} [Decidable c] {a b r : α} (hc : ¬ c) (h : (if c then a else b) = r) : b = r := by rw [if_neg hc] at h; exact h
/-- shifts as the machine does them -/
def mq_iushr (x y : Int32) : Int32 := (x.toUInt32 >>> (y.toUInt32 &&& Int32.toUInt32 31)).toInt32
def mq_lushr (x : Int64) (y : Int32) : Int64 := (x.toUInt64 >>> (y.toInt64.toUInt64 &&& Int64.toUInt64 63)).toInt64
def mq_lshl (x : Int64) (y : Int32) : Int64 := x <<< (y.toInt64 &&& 63)
def mq_max (x y : Int32) : Int32 := if x < y then y else x
def mq_min (x y : Int32) : Int32 := if y < x then y else x
/-- the array classes -/
abbrev mq_tys (cI cL cB cZ : ClassId) : List (ClassId × FieldType) := [(cI, .int), (cL, .long), (cB, .byte), (cZ, .boolean)]
/-- what holds all through a method's body -/
def mq_C (p : Program) (s : State) (m : MethodId) (args : Array Value) (c : Code) (A : Nat → Prop) (D : va_G) (cI cL cB cZ : ClassId) (cc : ByteArray) (nL : Nat) (own : String) (c1 : Cond) : Prop :=
  p.tables.exec = Jvm.exec ∧ c.code = cc ∧ c.maxLocals = nL ∧ s.vm.findClass own = some m.cls ∧ (∀ w ∈ c1 :: mq_T, w.before args s = true) ∧ va_K D vwCl (mq_tys cI cL cB cZ) s ∧ ∀ q : Nat, s.heap.size ≤ q → A q
/-- cells set at their places -/
def mq_setM : va_W → List Nat → va_W → va_W
  | ws, i :: is, q :: w1 => mq_setM (ws.set i q) is w1
  | ws, _, _ => ws
theorem mq_setM_at : ∀ (is : List Nat) (w1 ws : va_W) (k : Nat) (q : Nat × va_E), is.length = w1.length → (mq_setM ws is w1)[k]? = some q → (∃ j : Nat, is[j]? = some k ∧ w1[j]? = some q) ∨ (k ∉ is ∧ ws[k]? = some q)
  | [], [], ws, k, q, _, h => Or.inr ⟨List.not_mem_nil, h⟩
  | i :: is, c :: w1, ws, k, q, hl, h => by
    rcases mq_setM_at is w1 (ws.set i c) k q (Nat.succ.inj hl) h with ⟨j, h1, h2⟩ | ⟨h1, h2⟩
    · exact Or.inl ⟨j + 1, h1, h2⟩
    · by_cases hk : k = i
      · subst hk
        have hlt : k < ws.length := by
          have := (List.getElem?_eq_some_iff.mp h2).1
          rwa [List.length_set] at this
        rw [List.getElem?_set_self hlt] at h2
        exact Or.inl ⟨0, rfl, h2⟩
      · rw [List.getElem?_set_ne (Ne.symm hk)] at h2
        exact Or.inr ⟨fun hm => (List.mem_cons.mp hm).elim hk h1, h2⟩
/-- what comes back from a callee, set at its places among the rest, which is unchanged -/
theorem mq_join {A0 : Nat → Prop} {D : va_G} {cl : List vw_C} {ws wc w1 : va_W} {H H1 : Heap} (hP : va_P D cl ws H) (hD : va_D A0 ws) (is : List Nat) (hC : is.map (fun i => ws[i]?) = wc.map some) (had : w1.map (fun q => q.1) = wc.map (fun q => q.1))
    (hk : ∀ q : Nat, q < H.size → ¬ va_A wc H.size q → H1[q]? = H[q]?) (hP1 : va_P D cl w1 H1) : va_P D cl (mq_setM ws is w1) H1 ∧ va_D A0 (mq_setM ws is w1) := by
  have hl1 : is.length = wc.length := by
    have := congrArg List.length hC
    simpa using this
  have hl2 : w1.length = wc.length := by
    have := congrArg List.length had
    simpa using this
  have hl : is.length = w1.length := hl1.trans hl2.symm
  have hcw : ∀ (j k : Nat), is[j]? = some k → ∃ q, wc[j]? = some q ∧ ws[k]? = some q := by
    intro j k h
    have h1 : (is.map (fun i => ws[i]?))[j]? = some (ws[k]?) := by rw [List.getElem?_map, h]; rfl
    rw [hC, List.getElem?_map] at h1
    cases hw : wc[j]? with
    | none => rw [hw] at h1; cases h1
    | some q =>
      rw [hw] at h1
      exact ⟨q, rfl, (Option.some.inj h1).symm⟩
  have hadr : ∀ (j : Nat) (q1 q : Nat × va_E), w1[j]? = some q1 → wc[j]? = some q → q1.1 = q.1 := by
    intro j q1 q h1 h2
    have e := congrArg (fun z : List Nat => z[j]?) had
    simp only [List.getElem?_map, h1, h2, Option.map] at e
    exact Option.some.inj e
  have key : ∀ (k : Nat) (q : Nat × va_E), (mq_setM ws is w1)[k]? = some q → ∃ q0, ws[k]? = some q0 ∧ q0.1 = q.1 := by
    intro k q h
    rcases mq_setM_at is w1 ws k q hl h with ⟨j, h1, h2⟩ | ⟨h1, h2⟩
    · obtain ⟨qc, h3, h4⟩ := hcw j k h1
      exact ⟨qc, h4, (hadr j q qc h2 h3).symm⟩
    · exact ⟨q, h2, rfl⟩
  refine ⟨fun k q h => ?_, fun i j x y hi hj hxy => ?_, fun k q h => ?_⟩
  · rcases mq_setM_at is w1 ws k q hl h with ⟨j, h1, h2⟩ | ⟨h1, h2⟩
    · exact hP1 j q h2
    · refine (hP k q h2).kept (hk q.1 (hP k q h2).lt ?_)
      rintro (⟨j, e, hj⟩ | hge)
      · have hlt : j < is.length := by rw [hl1]; exact (List.getElem?_eq_some_iff.mp hj).1
        obtain ⟨q', h3, h4⟩ := hcw j is[j] (List.getElem?_eq_getElem hlt)
        have e1 : (q.1, e) = q' := Option.some.inj (hj.symm.trans h3)
        have e2 : k = is[j] := hD.1 k is[j] q q' h2 h4 (by rw [← e1])
        exact h1 (e2 ▸ List.getElem_mem hlt)
      · exact absurd (hP k q h2).lt (Nat.not_lt.mpr hge)
  · obtain ⟨x0, a1, a2⟩ := key i x hi
    obtain ⟨y0, b1, b2⟩ := key j y hj
    exact hD.1 i j x0 y0 a1 b1 (a2.trans (hxy.trans b2.symm))
  · obtain ⟨q0, a1, a2⟩ := key k q h
    rw [← a2]
    exact hD.2 k q0 a1
theorem mq_freeI {A0 : Nat → Prop} {ws : va_W} {H0 H : Heap} {locs : List Loc} (hD : va_D A0 ws) (hS : va_S A0 H0 H locs) (hA : ∀ q, H0.size ≤ q → A0 q) : ∀ q, va_A ws H.size q → A0 q := by
  rintro q (⟨k, e, h⟩ | h)
  · exact hD.2 k _ h
  · exact hA q (Nat.le_trans hS.1 h)
/-- the one-element array of the law -/
abbrev mq_oo (o : Nat) (cL : ClassId) (f : Nat → Int64) : va_W := [(o, .inl (cL, 1, .inr (.inl f)))]
