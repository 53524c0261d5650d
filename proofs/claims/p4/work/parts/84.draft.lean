/-! The draft: nodes as trees, marks as trees or their denials. -/
def mt (W : List Tr) (m : Nat) (t : Tr) : Prop := W[m / 2]? = some (if m % 2 = 0 then t else du t)
def ent (W : List Tr) (i : Nat) (k v2 v3 : Int32) (t : Tr) : Prop :=
  (k = 0 ∧ v2 = -1 ∧ v3 = -1 ∧ t = .num 0) ∨
  (∃ l : Nat, l < 26 ∧ k = 2 ∧ v2 = nI l ∧ v3 = -1 ∧ t = .var (2 * l)) ∨
  (∃ (m n : Nat) (a b : Tr), k = 4 ∧ v2 = nI m ∧ v3 = nI n ∧ t = .add a b ∧ mt W m a ∧ mt W n b ∧ m / 2 < i ∧ n / 2 < i) ∨
  (∃ (m : Nat) (a : Tr), k = 6 ∧ v2 = nI m ∧ v3 = -1 ∧ t = .mulL 0 a ∧ mt W m a ∧ m / 2 < i)
def dft (S : mq_St) (W : List Tr) : Prop := S.1 3 = nI (min W.length 150) ∧ S.1 4 = (if W.length ≤ 150 then 0 else 1) ∧ W.length ≤ 151 ∧ W[0]? = some (.num 0) ∧ W.Nodup ∧ (∀ w ∈ W, wf w ∧ po w = true) ∧ (∀ i t, i < 150 → W[i]? = some t → ent W i (S.2.1 8 i) (S.2.1 9 i) (S.2.1 10 i) t) ∧ ∀ j, j < 2 * min W.length 150 → S.2.1 11 j = -1
theorem dft_c {S S' : mq_St} {W : List Tr} (h : dft S W) (e3 : S'.1 3 = S.1 3) (e4 : S'.1 4 = S.1 4) (e8 : S'.2.1 8 = S.2.1 8) (e9 : S'.2.1 9 = S.2.1 9) (e10 : S'.2.1 10 = S.2.1 10) (e11 : S'.2.1 11 = S.2.1 11) : dft S' W := by
  unfold dft
  rw [e3, e4, e8, e9, e10, e11]
  exact h
theorem mt_app {W : List Tr} {m : Nat} {t : Tr} (h : mt W m t) (X : List Tr) : mt (W ++ X) m t := by
  have := (List.getElem?_eq_some_iff.mp h).1
  unfold mt
  rw [List.getElem?_append_left this]
  exact h
theorem mt_lt {W : List Tr} {m : Nat} {t : Tr} (h : mt W m t) : m / 2 < W.length := (List.getElem?_eq_some_iff.mp h).1
theorem mt_fn {W : List Tr} {m : Nat} {t u : Tr} (h : mt W m t) (h' : mt W m u) : t = u := by
  have e := Option.some.inj (h.symm.trans h')
  by_cases q : m % 2 = 0
  · rw [if_pos q, if_pos q] at e; exact e
  · rw [if_neg q, if_neg q] at e
    rw [← du_du t, e, du_du]
theorem nd_ix {α : Type} : ∀ {W : List α}, W.Nodup → ∀ {i j : Nat} {t : α}, W[i]? = some t → W[j]? = some t → i = j
  | [], _, i, j, t, hi, _ => by cases hi
  | a :: W, h, 0, 0, t, hi, hj => rfl
  | a :: W, h, 0, j + 1, t, hi, hj => by
    have e : a = t := Option.some.inj hi
    have hm : t ∈ W := List.mem_of_getElem? (i := j) hj
    rw [← e] at hm
    exact absurd hm (List.nodup_cons.mp h).1
  | a :: W, h, i + 1, 0, t, hi, hj => by
    have e : a = t := Option.some.inj hj
    have hm : t ∈ W := List.mem_of_getElem? (i := i) hi
    rw [← e] at hm
    exact absurd hm (List.nodup_cons.mp h).1
  | a :: W, h, i + 1, j + 1, t, hi, hj => congrArg (· + 1) (nd_ix (W := W) (List.nodup_cons.mp h).2 (i := i) (j := j) hi hj)
theorem mt_inj {W : List Tr} (hn : W.Nodup) (hp : ∀ w ∈ W, wf w ∧ po w = true) {m n : Nat} {t : Tr} (h : mt W m t) (h' : mt W n t) : m = n := by
  have p1 := hp _ (List.mem_of_getElem? h)
  have p2 := hp _ (List.mem_of_getElem? h')
  unfold mt at h h'
  by_cases q : m % 2 = 0
  · by_cases q' : n % 2 = 0
    · rw [if_pos q] at h
      rw [if_pos q'] at h'
      have := nd_ix hn h h'
      omega
    · rw [if_pos q] at p1
      rw [if_neg q', po_du p1.1 p1.2] at p2
      exact absurd p2.2 (by decide)
  · by_cases q' : n % 2 = 0
    · rw [if_pos q'] at p2
      rw [if_neg q, po_du p2.1 p2.2] at p1
      exact absurd p1.2 (by decide)
    · rw [if_neg q] at h
      rw [if_neg q'] at h'
      have := nd_ix hn h h'
      omega
/-- the same three numbers, the same tree -/
theorem ent_iff {W : List Tr} (hn : W.Nodup) (hp : ∀ w ∈ W, wf w ∧ po w = true) (hl : W.length ≤ 151) {i j : Nat} {k v2 v3 k' v2' v3' : Int32} {t t' : Tr} (h : ent W i k v2 v3 t) (h' : ent W j k' v2' v3' t') : (k = k' ∧ v2 = v2' ∧ v3 = v3') ↔ t = t' := by
  rcases h with ⟨rfl, rfl, rfl, rfl⟩ | ⟨l, hl1, rfl, rfl, rfl, rfl⟩ | ⟨m, n, a, b, rfl, rfl, rfl, rfl, ma, mb, -⟩ | ⟨m, a, rfl, rfl, rfl, rfl, ma, -⟩ <;>
  rcases h' with ⟨rfl, rfl, rfl, rfl⟩ | ⟨l', hl', rfl, rfl, rfl, rfl⟩ | ⟨m', n', a', b', rfl, rfl, rfl, rfl, ma', mb', -⟩ | ⟨m', a', rfl, rfl, rfl, rfl, ma', -⟩
  · exact ⟨fun _ => rfl, fun _ => ⟨rfl, rfl, rfl⟩⟩
  · exact ⟨fun q => absurd q.1 (by decide), fun q => by cases q⟩
  · exact ⟨fun q => absurd q.1 (by decide), fun q => by cases q⟩
  · exact ⟨fun q => absurd q.1 (by decide), fun q => by cases q⟩
  · exact ⟨fun q => absurd q.1 (by decide), fun q => by cases q⟩
  · refine ⟨fun q => ?_, fun q => ?_⟩
    · rw [sp_inj q.2.1 (by omega) (by omega)]
    · have : 2 * l = 2 * l' := Int.Internal.Linear.Expr.var.inj q
      have : l = l' := by omega
      rw [this]
      exact ⟨rfl, rfl, rfl⟩
  · exact ⟨fun q => absurd q.1 (by decide), fun q => by cases q⟩
  · exact ⟨fun q => absurd q.1 (by decide), fun q => by cases q⟩
  · exact ⟨fun q => absurd q.1 (by decide), fun q => by cases q⟩
  · exact ⟨fun q => absurd q.1 (by decide), fun q => by cases q⟩
  · have u1 := mt_lt ma
    have u2 := mt_lt mb
    have u3 := mt_lt ma'
    have u4 := mt_lt mb'
    refine ⟨fun q => ?_, fun q => ?_⟩
    · have e1 := sp_inj q.2.1 (by omega) (by omega)
      have e2 := sp_inj q.2.2 (by omega) (by omega)
      rw [e1] at ma
      rw [e2] at mb
      rw [mt_fn ma ma', mt_fn mb mb']
    · obtain ⟨e1, e2⟩ := Int.Internal.Linear.Expr.add.inj q
      rw [← e1] at ma'
      rw [← e2] at mb'
      rw [mt_inj hn hp ma ma', mt_inj hn hp mb mb']
      exact ⟨rfl, rfl, rfl⟩
  · exact ⟨fun q => absurd q.1 (by decide), fun q => by cases q⟩
  · exact ⟨fun q => absurd q.1 (by decide), fun q => by cases q⟩
  · exact ⟨fun q => absurd q.1 (by decide), fun q => by cases q⟩
  · exact ⟨fun q => absurd q.1 (by decide), fun q => by cases q⟩
  · have u1 := mt_lt ma
    have u3 := mt_lt ma'
    refine ⟨fun q => ?_, fun q => ?_⟩
    · have e1 := sp_inj q.2.1 (by omega) (by omega)
      rw [e1] at ma
      rw [mt_fn ma ma']
    · obtain ⟨-, e1⟩ := Int.Internal.Linear.Expr.mulL.inj q
      rw [← e1] at ma'
      rw [mt_inj hn hp ma ma']
      exact ⟨rfl, rfl, rfl⟩
theorem ent_app {W : List Tr} {i j : Nat} {k v2 v3 : Int32} {t : Tr} (h : ent W i k v2 v3 t) (X : List Tr) (hij : i ≤ j) : ent (W ++ X) j k v2 v3 t := by
  rcases h with q | q | ⟨m, n, a, b, q1, q2, q3, q4, ma, mb, c1, c2⟩ | ⟨m, a, q1, q2, q3, q4, ma, c1⟩
  · exact Or.inl q
  · exact Or.inr (Or.inl q)
  · exact Or.inr (Or.inr (Or.inl ⟨m, n, a, b, q1, q2, q3, q4, mt_app ma X, mt_app mb X, by omega, by omega⟩))
  · exact Or.inr (Or.inr (Or.inr ⟨m, a, q1, q2, q3, q4, mt_app ma X, by omega⟩))
/-- a mark stands for a tree, as long as the draft isn't over -/
def RM (W : List Tr) (v : Int32) (t : Tr) : Prop := ∃ m : Nat, v = nI m ∧ m < 400 ∧ (W.length ≤ 150 → mt W m t)
theorem RM_app {W : List Tr} {v : Int32} {t : Tr} (h : RM W v t) (X : List Tr) : RM (W ++ X) v t := by
  obtain ⟨m, e, l, hm⟩ := h
  refine ⟨m, e, l, fun q => ?_⟩
  rw [List.length_append] at q
  exact mt_app (hm (by omega)) X
theorem xor_1 : ∀ m, m < 400 → nI m ^^^ 1 = nI (fl m) := by decide +kernel
theorem fl_half (m : Nat) : fl m / 2 = m / 2 := by unfold fl; split <;> omega
theorem RM_deny {W : List Tr} {v : Int32} {t : Tr} (h : RM W v t) : RM W (v ^^^ 1) (du t) := by
  obtain ⟨m, e, l, hm⟩ := h
  refine ⟨fl m, by rw [e, xor_1 m l], by unfold fl; split <;> omega, fun q => ?_⟩
  have hm := hm q
  unfold mt at hm ⊢
  rw [fl_half, hm]
  congr 1
  unfold fl
  by_cases c : m % 2 = 0
  · rw [if_pos c, if_pos c, if_neg (by omega), du_du]
  · rw [if_neg c, if_neg c, if_pos (by omega)]
theorem dk_node {N : Nat} {z : Nat → Nat} {S : mq_St} {W : List Tr} {k v2 v3 : Int32} {t : Tr} (hN : 200 ≤ N) (h : dft S W) (hw : wf t) (hp : po t = true) (he : W.length ≤ 150 → ent W W.length k v2 v3 t) :
    ∃ v S' W', zf_X2_node N z k v2 v3 S = some (v, S') ∧ dft S' W' ∧ RM W' v t ∧ (W' = W ∨ W' = W ++ [t]) ∧ ag [3, 4] [8, 9, 10, 11] [] S S' := by
  have hall := h
  obtain ⟨h3, h4, h151, hW0, hnd, hpo, hent, hnum⟩ := h
  by_cases hov : W.length ≤ 150
  · -- the draft isn't over
    have he := he hov
    have emin : min W.length 150 = W.length := by omega
    rw [emin] at h3 hnum
    have loop : ∀ (fuel i : Nat), i ≤ W.length → W.length - i < fuel → (∀ j, j < i → W[j]? ≠ some t) → ∃ v S' W', zf_X2_node_3 N z fuel k v2 v3 (nI i) S = some (v, S') ∧ dft S' W' ∧ RM W' v t ∧ (W' = W ∨ W' = W ++ [t]) ∧ ag [3, 4] [8, 9, 10, 11] [] S S' := by
      intro fuel
      induction fuel with
      | zero => intro i _ h; omega
      | succ fuel ih =>
        intro i hi hf hj
        have hsh : zf_X2_node_3 N z (fuel + 1) k v2 v3 (nI i) S = zf_X2_node_3b N z (fun v1 v2 v3 v4 S => zf_X2_node_3 N z fuel v1 v2 v3 v4 S) k v2 v3 (nI i) S := rfl
        rw [hsh]
        unfold zf_X2_node_3b zf_X2_node_50
        rw [h3]
        by_cases e : i = W.length
        · subst e
          rw [if_pos (nI_le (Nat.le_refl _) (by omega))]
          have hnm : t ∉ W := fun hm => by
            obtain ⟨j, hj2⟩ := List.getElem?_of_mem hm
            exact hj j (List.getElem?_eq_some_iff.mp hj2).1 hj2
          have hnd' : (W ++ [t]).Nodup := by
            rw [List.nodup_append]
            exact ⟨hnd, List.nodup_cons.mpr ⟨List.not_mem_nil, List.nodup_nil⟩, fun a ha b hb e => by rw [List.mem_singleton.mp hb] at e; rw [e] at ha; exact hnm ha⟩
          have hpo' : ∀ w ∈ W ++ [t], wf w ∧ po w = true := fun w hw' => by
            rcases List.mem_append.mp hw' with q | q
            · exact hpo w q
            · rw [List.mem_singleton.mp q]; exact ⟨hw, hp⟩
          have hlen : (W ++ [t]).length = W.length + 1 := by rw [List.length_append]; rfl
          have hW0l : 0 < W.length := (List.getElem?_eq_some_iff.mp hW0).1
          by_cases h150 : W.length < 150
          · have e150 : nI W.length < (150 : Int32) := nI_lt (a := W.length) (b := 150) h150 (by omega)
            rw [if_pos e150]
            refine ⟨nI (2 * W.length), mq_sa (mq_sa (mq_sa (mq_sa (mq_si S 3 (nI (W.length + 1))) 8 (upd (S.2.1 8) W.length k)) 9 (upd (S.2.1 9) W.length v2)) 10 (upd (S.2.1 10) W.length v3)) 11 (upd (upd (S.2.1 11) (2 * W.length) (-1)) (2 * W.length + 1) (-1)), W ++ [t], ?_, ⟨?_, ?_, by omega, by rw [List.getElem?_append_left hW0l]; exact hW0, hnd', hpo', ?_, ?_⟩, ?_, Or.inr rfl, ?_⟩
            · have i1 : vp_in (nI W.length) 150 := vp_in_nI h150 (by omega)
              have i2 : vp_in (nI (2 * W.length)) 300 := vp_in_nI (by omega) (by omega)
              have i3 : vp_in (nI (2 * W.length + 1)) 300 := vp_in_nI (by omega) (by omega)
              have c1 : (nI W.length).toNatClampNeg = W.length := nI_clamp (by omega)
              have c2 : (nI (2 * W.length)).toNatClampNeg = 2 * W.length := nI_clamp (by omega)
              have c3 : (nI (2 * W.length + 1)).toNatClampNeg = 2 * W.length + 1 := nI_clamp (by omega)
              have p2 : (2 : Int32) * nI W.length = nI (2 * W.length) := pk_mul 2 W.length
              simp only [nI_e, nS_e, mq_ck_of i1, c1, p2, nI_1, mq_ck_of i2, c2, mq_ck_of i3, c3]
              rw [← sa_sa (mq_sa (mq_sa (mq_sa (mq_si S 3 (nI (W.length + 1))) 8 (upd (S.2.1 8) W.length k)) 9 (upd (S.2.1 9) W.length v2)) 10 (upd (S.2.1 10) W.length v3)) 11 (upd (S.2.1 11) (2 * W.length) (-1))]
              rfl
            · show nI (W.length + 1) = nI (min (W ++ [t]).length 150)
              rw [hlen]
              congr 1
              omega
            · show S.1 4 = _
              rw [h4, if_pos hov, if_pos (by omega)]
            · intro j u hj hu
              show ent (W ++ [t]) j (upd (S.2.1 8) W.length k j) (upd (S.2.1 9) W.length v2 j) (upd (S.2.1 10) W.length v3 j) u
              by_cases ej : j = W.length
              · rw [ej, up_s, up_s, up_s]
                rw [ej, List.getElem?_append_right (Nat.le_refl _), Nat.sub_self] at hu
                have : t = u := Option.some.inj hu
                rw [← this]
                exact ent_app he _ (Nat.le_refl _)
              · rw [up_o ej, up_o ej, up_o ej]
                have hjl := (List.getElem?_eq_some_iff.mp hu).1
                rw [List.getElem?_append_left (by omega)] at hu
                exact ent_app (hent j u hj hu) _ (Nat.le_refl _)
            · intro j hj
              show upd (upd (S.2.1 11) (2 * W.length) (-1)) (2 * W.length + 1) (-1) j = -1
              by_cases e1 : j = 2 * W.length + 1
              · rw [e1, up_s]
              · rw [up_o e1]
                by_cases e2 : j = 2 * W.length
                · rw [e2, up_s]
                · rw [up_o e2]
                  exact hnum j (by omega)
            · refine ⟨2 * W.length, rfl, by omega, fun _ => ?_⟩
              unfold mt
              rw [if_pos (by omega), show 2 * W.length / 2 = W.length by omega, List.getElem?_append_right (Nat.le_refl _), Nat.sub_self]
              rfl
            · refine ag_tr ?_ (ag_sa (by decide))
              refine ag_tr ?_ (ag_sa (by decide))
              refine ag_tr ?_ (ag_sa (by decide))
              refine ag_tr ?_ (ag_sa (by decide))
              exact ag_si (by decide)
          · have e150 : ¬ nI W.length < (150 : Int32) := nI_nlt (a := W.length) (b := 150) (by omega) (by omega)
            rw [if_neg e150, mq_cz_1, nS_e]
            refine ⟨0, mq_si S 4 1, W ++ [t], rfl, ⟨?_, ?_, by omega, by rw [List.getElem?_append_left hW0l]; exact hW0, hnd', hpo', ?_, ?_⟩, ⟨0, rfl, by omega, fun q => absurd q (by omega)⟩, Or.inr rfl, ag_si (by decide)⟩
            · show S.1 3 = _
              rw [h3]
              congr 1
              omega
            · rw [if_neg (by omega)]
              rfl
            · intro j u hj hu
              rw [List.getElem?_append_left (by omega)] at hu
              exact ent_app (hent j u hj hu) _ (Nat.le_refl _)
            · intro j hj
              exact hnum j (by omega)
        · have i1 : vp_in (nI i) 150 := vp_in_nI (by omega) (by omega)
          have c1 : (nI i).toNatClampNeg = i := nI_clamp (by omega)
          rw [if_neg (nI_ge (a := i) (b := W.length) (by omega) (by omega))]
          simp only [mq_ck_of i1, c1, nI_e, nI_1]
          obtain ⟨u, hu⟩ : ∃ u, W[i]? = some u := ⟨W[i]'(by omega), List.getElem?_eq_getElem (by omega)⟩
          have hei := hent i u (by omega) hu
          have hiff := ent_iff hnd hpo (by omega) hei he
          have go : ¬ (S.2.1 8 i = k ∧ S.2.1 9 i = v2 ∧ S.2.1 10 i = v3) → _ := fun q => ih (i + 1) (by omega) (by omega) (fun j hj' => by
            by_cases ej : j = i
            · rw [ej, hu]
              exact fun e => q (hiff.mpr (Option.some.inj e))
            · exact hj j (by omega))
          by_cases q1 : S.2.1 8 i = k
          · rw [if_pos q1]
            by_cases q2 : S.2.1 9 i = v2
            · rw [if_pos q2]
              by_cases q3 : S.2.1 10 i = v3
              · rw [if_pos q3]
                have eu : u = t := hiff.mp ⟨q1, q2, q3⟩
                refine ⟨nI (2 * i), S, W, by rw [show (2 : Int32) * nI i = nI (2 * i) from pk_mul 2 i], hall, ⟨2 * i, rfl, by omega, fun _ => ?_⟩, Or.inl rfl, ag_rf⟩
                unfold mt
                rw [if_pos (by omega), show 2 * i / 2 = i by omega, hu, eu]
              · rw [if_neg q3]
                exact go (fun q => q3 q.2.2)
            · rw [if_neg q2]
              exact go (fun q => q2 q.2.1)
          · rw [if_neg q1]
            exact go (fun q => q1 q.1)
    exact loop N 0 (by omega) (by omega) (fun j hj => by omega)
  · -- it is over
    have e151 : W.length = 151 := by omega
    have emin : min W.length 150 = 150 := by omega
    rw [emin] at h3
    rw [if_neg hov] at h4
    have loop : ∀ (fuel i : Nat), i ≤ 150 → 150 - i < fuel → ∃ (m : Nat) (S' : mq_St), zf_X2_node_3 N z fuel k v2 v3 (nI i) S = some (nI m, S') ∧ m < 400 ∧ dft S' W ∧ ag [3, 4] [8, 9, 10, 11] [] S S' := by
      intro fuel
      induction fuel with
      | zero => intro i _ h; omega
      | succ fuel ih =>
        intro i hi hf
        have hsh : zf_X2_node_3 N z (fuel + 1) k v2 v3 (nI i) S = zf_X2_node_3b N z (fun v1 v2 v3 v4 S => zf_X2_node_3 N z fuel v1 v2 v3 v4 S) k v2 v3 (nI i) S := rfl
        rw [hsh]
        unfold zf_X2_node_3b zf_X2_node_50
        rw [h3]
        by_cases e : i = 150
        · subst e
          rw [if_pos (nI_le (Nat.le_refl _) (by omega)), if_neg (by decide : ¬ nI 150 < (150 : Int32)), mq_cz_1, nS_e]
          exact ⟨0, mq_si S 4 1, rfl, by omega, dft_c hall rfl h4.symm rfl rfl rfl rfl, ag_si (by decide)⟩
        · have i1 : vp_in (nI i) 150 := vp_in_nI (by omega) (by omega)
          have c1 : (nI i).toNatClampNeg = i := nI_clamp (by omega)
          rw [if_neg (nI_ge (a := i) (b := 150) (by omega) (by omega))]
          simp only [mq_ck_of i1, c1, nI_e, nI_1]
          have go := ih (i + 1) (by omega) (by omega)
          by_cases q1 : S.2.1 8 i = k
          · rw [if_pos q1]
            by_cases q2 : S.2.1 9 i = v2
            · rw [if_pos q2]
              by_cases q3 : S.2.1 10 i = v3
              · rw [if_pos q3]
                exact ⟨2 * i, S, by rw [show (2 : Int32) * nI i = nI (2 * i) from pk_mul 2 i], by omega, hall, ag_rf⟩
              · rw [if_neg q3]
                exact go
            · rw [if_neg q2]
              exact go
          · rw [if_neg q1]
            exact go
    obtain ⟨m, S', a1, a0, a2, a3⟩ := loop N 0 (by omega) (by omega)
    exact ⟨nI m, S', W, a1, a2, ⟨m, rfl, a0, fun q => absurd q hov⟩, Or.inl rfl, a3⟩
