/-! Rows of our own over the kit's: a write names the new state; words of calls; sub-worlds by places. -/
def mq_cp {α β : Type} (x : Option α) (k : α → Option β) : Option β := match x with
  | none => none
  | some q => k q
theorem mq_cp_go {α β : Type} {x : Option α} {k : α → Option β} {r : β} (h : mq_cp x k = some r) : ∃ q : α, x = some q ∧ k q = some r := by
  cases x with
  | none => cases h
  | some q => exact ⟨q, rfl, h⟩
/-- addresses, state of a part of a world, by places; and back -/
def mq_ad (a : Nat → Nat) (l : List Nat) : Nat → Nat := fun k => a (l.getD k 0)
def mq_pull (S : mq_St) (li la ll : List Nat) : mq_St := (fun k => S.1 (li.getD k 0), fun k => S.2.1 (la.getD k 0), fun k => S.2.2 (ll.getD k 0))
def mq_push (S X : mq_St) (li la ll : List Nat) : mq_St := (fun j => match li.idxOf? j with | some k => X.1 k | none => S.1 j, fun j => match la.idxOf? j with | some k => X.2.1 k | none => S.2.1 j, fun j => match ll.idxOf? j with | some k => X.2.2 k | none => S.2.2 j)
theorem mq_subP {D : va_G} {cl : List vw_C} {ws wc : va_W} {H : Heap} (hP : va_P D cl ws H) (is : List Nat) (hC : is.map (fun i => ws[i]?) = wc.map some) : va_P D cl wc H := by
  intro k q hk
  have h1 : (wc.map some)[k]? = some (some q) := by rw [List.getElem?_map, hk]; rfl
  rw [← hC, List.getElem?_map] at h1
  cases hi : is[k]? with
  | none => rw [hi] at h1; cases h1
  | some i =>
    rw [hi] at h1
    exact hP i q (Option.some.inj h1)
theorem mq_setM_same : ∀ (is : List Nat) (wc ws : va_W), is.map (fun i => ws[i]?) = wc.map some → mq_setM ws is wc = ws
  | [], [], _, _ => rfl
  | i :: is, q :: wc, ws, h => by
    have h1 : ws[i]? = some q := (List.cons.inj h).1
    have h2 : ws.set i q = ws := by
      apply List.ext_getElem?
      intro k
      by_cases hk : k = i
      · subst hk
        rw [List.getElem?_set_self (List.getElem?_eq_some_iff.mp h1).1, h1]
      · rw [List.getElem?_set_ne (Ne.symm hk)]
    show mq_setM (ws.set i q) is wc = ws
    rw [h2]
    exact mq_setM_same is wc ws (List.cons.inj h).2
theorem mq_wsV {own C : String} {idx : Nat} {y : MethodName} {c2 : Cond} (h1 : Cond.methodLink own idx y ∈ mq_T) (h2 : Cond.instanceMethod y ∈ mq_T) (h3 : Cond.selects C y y ∈ mq_T) (h4 : Cond.initialized C ∈ mq_T) (h5 : c2 ∈ mq_T) : ∀ w ∈ wsV own idx C y (c2 :: mq_T), w ∈ mq_T := by
  intro w hw
  simp only [wsV, List.cons_append, List.nil_append, List.mem_cons] at hw
  rcases hw with rfl | rfl | rfl | rfl | rfl | hw
  · exact h1
  · exact h2
  · exact h3
  · exact h4
  · exact h5
  · exact hw
theorem mq_wsS {own : String} {idx : Nat} {y : MethodName} {c2 : Cond} (h1 : Cond.methodLink own idx y ∈ mq_T) (h2 : Cond.static y ∈ mq_T) (h3 : Cond.initialized y.cls ∈ mq_T) (h5 : c2 ∈ mq_T) : ∀ w ∈ va_wsS own idx y (c2 :: mq_T), w ∈ mq_T := by
  intro w hw
  simp only [va_wsS, List.cons_append, List.nil_append, List.mem_cons] at hw
  rcases hw with rfl | rfl | rfl | rfl | hw
  · exact h1
  · exact h2
  · exact h3
  · exact h5
  · exact hw
section MQR
variable {p : Program} {l : Launch} {e : Env} {R : Room} {s : State} {m : MethodId} {args : Array Value} {below : List Frame} {meth : Method} {c : Code} {H : Heap} {locs : List Loc} {cells slots : Nat} {Q : State → Prop}
variable {cc : ByteArray} {pc : Nat} {ls : Array Slot} {rest : List Value} {A : Nat → Prop} {H0 : Heap} {D : va_G} {cl : List vw_C} {tys : List (ClassId × FieldType)} {a : Nat} {w : mq_St → va_W} {S : mq_St}
theorem mq_put (hexec : p.tables.exec = Jvm.exec) (hb : c.code = cc) {own ref C : String} {T : u_T} {N ci index : Nat} {Ts : List Cond} (hts : ∀ w ∈ Ts, w.before args s = true) (hin : ∀ w ∈ u_ws C T N, w ∈ Ts) (ty0 : Nat → FieldType) (hty : ∀ k, k < N → parseFieldDescriptor (T k).2.2.1 = some (ty0 k)) (hnm : ∀ a, a < N → ∀ b, b < N → a ≠ b → (T a).2.1 ≠ (T b).2.1) (hown : s.vm.findClass own = some m.cls) (hK : va_K D cl tys s) (hP : va_P D cl (w S) H) (hD : va_D A (w S)) (hS0 : va_S A H0 H locs) (q0 : Nat) {fs : List Value} (he : (w S)[q0]? = some (a, .inr (ci, fs))) (hc : cl[ci]? = some (C, T, N)) (k : Nat) (hk : k < N) (hlink : (Cond.fieldLink own index ref (T k).2.1 (T k).2.2.1).before args s = true) (hsame : ∀ x, s.fieldFound? (T k).1 (T k).2.1 (T k).2.2.1 = some x → s.fieldFound? ref (T k).2.1 (T k).2.2.1 = some x) (hfin : (T k).2.2.2 = false) {ty : FieldType} {v : Int32} (hd : parseFieldDescriptor (T k).2.2.1 = some ty) (hn : narrow ty (.int v) = .int v) (hfit : fits ty (.int v) = true) (hl : k < fs.length)
    (hdg : decode cc pc = .ok (.putfield index, 3)) (kI : Nat) (hw : (w S).set q0 (a, .inr (ci, fs.set k (.int v))) = w (mq_si S kI v)) (kk : ∀ S1 : mq_St, S1 = mq_si S kI v → ∀ (H1 : Heap) (locs1 : List Loc), va_P D cl (w S1) H1 → va_D A (w S1) → va_S A H0 H1 locs1 → W p l e R s m args below meth c H1 locs1 cells slots Q (F0 m (pc + 3) ls rest)) : W p l e R s m args below meth c H locs cells slots Q (F0 m pc ls (.int v :: .ref a :: rest)) :=
  va_put hexec hb hts hin ty0 hty hnm hown hK hP hD hS0 q0 he hc k hk hlink hsame hfin hd hn hfit hl hdg (fun H1 locs1 h1 h2 h3 => kk _ rfl H1 locs1 (hw ▸ h1) (hw ▸ h2) h3)
theorem mq_iast (hexec : p.tables.exec = Jvm.exec) (hb : c.code = cc) (hK : va_K D cl tys s) (hP : va_P D cl (w S) H) (hD : va_D A (w S)) (hS : va_S A H0 H locs) (q0 t0 : Nat) {cA : ClassId} {n : Nat} {f : Nat → Int32} (ha : (w S)[q0]? = some (a, .inl (cA, n, .inl f))) (ht : tys[t0]? = some (cA, .int)) {i : Int32} {x : Int32} (hin : vp_in i n) (hdg : decode cc pc = .ok (.iastore, 1)) (kA : Nat) (hw : (w S).set q0 (a, .inl (cA, n, .inl (upd f i.toNatClampNeg x))) = w (mq_sa S kA (upd f i.toNatClampNeg x)))
    (kk : ∀ S1 : mq_St, S1 = mq_sa S kA (upd f i.toNatClampNeg x) → ∀ (H1 : Heap) (locs1 : List Loc), va_P D cl (w S1) H1 → va_D A (w S1) → va_S A H0 H1 locs1 → W p l e R s m args below meth c H1 locs1 cells slots Q (F0 m (pc + 1) ls rest)) : W p l e R s m args below meth c H locs cells slots Q (F0 m pc ls (.int x :: .int i :: .ref a :: rest)) :=
  va_iast hexec hb hK hP hD hS q0 t0 ha ht hin hdg (fun H1 locs1 h1 h2 h3 => kk _ rfl H1 locs1 (hw ▸ h1) (hw ▸ h2) h3)
theorem mq_bast (hexec : p.tables.exec = Jvm.exec) (hb : c.code = cc) (hK : va_K D cl tys s) (hP : va_P D cl (w S) H) (hD : va_D A (w S)) (hS : va_S A H0 H locs) (q0 t0 : Nat) {cA : ClassId} {n : Nat} {f : Nat → Int32} (ha : (w S)[q0]? = some (a, .inl (cA, n, .inl f))) (ht : tys[t0]? = some (cA, .byte)) {i : Int32} {x : Int32} (hin : vp_in i n) (hdg : decode cc pc = .ok (.bastore, 1)) (kA : Nat) (hw : (w S).set q0 (a, .inl (cA, n, .inl (upd f i.toNatClampNeg (vp_nar .byte x)))) = w (mq_sa S kA (upd f i.toNatClampNeg (vp_nar .byte x))))
    (kk : ∀ S1 : mq_St, S1 = mq_sa S kA (upd f i.toNatClampNeg (vp_nar .byte x)) → ∀ (H1 : Heap) (locs1 : List Loc), va_P D cl (w S1) H1 → va_D A (w S1) → va_S A H0 H1 locs1 → W p l e R s m args below meth c H1 locs1 cells slots Q (F0 m (pc + 1) ls rest)) : W p l e R s m args below meth c H locs cells slots Q (F0 m pc ls (.int x :: .int i :: .ref a :: rest)) :=
  va_bast hexec hb hK hP hD hS q0 t0 ha ht hin hdg (fun H1 locs1 h1 h2 h3 => kk _ rfl H1 locs1 (hw ▸ h1) (hw ▸ h2) h3)
theorem mq_zast (hexec : p.tables.exec = Jvm.exec) (hb : c.code = cc) (hK : va_K D cl tys s) (hP : va_P D cl (w S) H) (hD : va_D A (w S)) (hS : va_S A H0 H locs) (q0 t0 : Nat) {cA : ClassId} {n : Nat} {f : Nat → Int32} (ha : (w S)[q0]? = some (a, .inl (cA, n, .inl f))) (ht : tys[t0]? = some (cA, .boolean)) {i : Int32} {x : Int32} (hin : vp_in i n) (hdg : decode cc pc = .ok (.bastore, 1)) (kA : Nat) (hw : (w S).set q0 (a, .inl (cA, n, .inl (upd f i.toNatClampNeg (vp_nar .boolean x)))) = w (mq_sa S kA (upd f i.toNatClampNeg (vp_nar .boolean x))))
    (kk : ∀ S1 : mq_St, S1 = mq_sa S kA (upd f i.toNatClampNeg (vp_nar .boolean x)) → ∀ (H1 : Heap) (locs1 : List Loc), va_P D cl (w S1) H1 → va_D A (w S1) → va_S A H0 H1 locs1 → W p l e R s m args below meth c H1 locs1 cells slots Q (F0 m (pc + 1) ls rest)) : W p l e R s m args below meth c H locs cells slots Q (F0 m pc ls (.int x :: .int i :: .ref a :: rest)) :=
  va_zast hexec hb hK hP hD hS q0 t0 ha ht hin hdg (fun H1 locs1 h1 h2 h3 => kk _ rfl H1 locs1 (hw ▸ h1) (hw ▸ h2) h3)
theorem mq_last (hexec : p.tables.exec = Jvm.exec) (hb : c.code = cc) (hK : va_K D cl tys s) (hP : va_P D cl (w S) H) (hD : va_D A (w S)) (hS : va_S A H0 H locs) (q0 t0 : Nat) {cA : ClassId} {n : Nat} {f : Nat → Int64} (ha : (w S)[q0]? = some (a, .inl (cA, n, .inr (.inl f)))) (ht : tys[t0]? = some (cA, .long)) {i : Int32} {x : Int64} (hin : vp_in i n) (hdg : decode cc pc = .ok (.lastore, 1)) (kA : Nat) (hw : (w S).set q0 (a, .inl (cA, n, .inr (.inl (vp_updL f i.toNatClampNeg x)))) = w (mq_sl S kA (vp_updL f i.toNatClampNeg x)))
    (kk : ∀ S1 : mq_St, S1 = mq_sl S kA (vp_updL f i.toNatClampNeg x) → ∀ (H1 : Heap) (locs1 : List Loc), va_P D cl (w S1) H1 → va_D A (w S1) → va_S A H0 H1 locs1 → W p l e R s m args below meth c H1 locs1 cells slots Q (F0 m (pc + 1) ls rest)) : W p l e R s m args below meth c H locs cells slots Q (F0 m pc ls (.long x :: .int i :: .ref a :: rest)) :=
  va_last hexec hb hK hP hD hS q0 t0 ha ht hin hdg (fun H1 locs1 h1 h2 h3 => kk _ rfl H1 locs1 (hw ▸ h1) (hw ▸ h2) h3)
end MQR
