/-! Rows for making: arrays of the known classes; a middle part of a world. -/
section MQN
variable {p : Program} {l : Launch} {e : Env} {R : Room} {s : State} {m : MethodId} {args : Array Value} {below : List Frame} {meth : Method} {c : Code} {H : Heap} {locs : List Loc} {cells slots : Nat} {Q : State → Prop}
variable {cc : ByteArray} {pc : Nat} {ls : Array Slot} {rest : List Value} {A : Nat → Prop} {H0 : Heap} {D : va_G} {cl : List vw_C} {cI cL cB cZ : ClassId} {ws : va_W}
theorem mq_newaI (hexec : p.tables.exec = Jvm.exec) (hb : c.code = cc) (harr : (Cond.arrayClass .int).before args s = true) (hK : va_K D cl (mq_tys cI cL cB cZ) s) (hP : va_P D cl ws H) (hD : va_D A ws) (hS : va_S A H0 H locs) (hA : ∀ q, H0.size ≤ q → A q) {n : Int32} {N' : Nat} (hn : ¬ n < 0) (hN : n.toNatClampNeg = N') (hbytes : N' * componentBytes .int ≤ 536870912) (hcells : cells + 1 ≤ R.cells) (hslots : slots + N' ≤ R.slots) (hdg : decode cc pc = .ok (.newarray .int, 2))
    (kk : ∀ (q : Nat) (H1 : Heap), va_P D cl (ws ++ [(q, .inl (cI, N', .inl (fun _ => 0)))]) H1 → va_D A (ws ++ [(q, .inl (cI, N', .inl (fun _ => 0)))]) → va_S A H0 H1 locs → W p l e R s m args below meth c H1 locs (cells + 1) (slots + N') Q (F0 m (pc + 2) ls (.ref q :: rest))) : W p l e R s m args below meth c H locs cells slots Q (F0 m pc ls (.int n :: rest)) := by
  refine va_newa (atype := .int) (a0 := (N', .inl (fun _ => 0))) hexec hb (show (Cond.arrayClass (newarray.typeOf .int)).before args s = true from harr) (ty := .int) rfl hK hP hD hS hA (fun cA => rfl) hn hN hbytes hcells hslots hdg (fun q cA H1 hK1 hP1 hD1 hS1 => ?_)
  have e1 : s.vm.findClass ("[" ++ FieldType.toString .int) = some cA := (hK1.2 4 (cA, .int) rfl).2
  have e2 : s.vm.findClass ("[" ++ FieldType.toString .int) = some cI := (hK.2 0 (cI, .int) rfl).2
  have e3 : cA = cI := Option.some.inj (e1.symm.trans e2)
  subst e3
  exact kk q H1 hP1 hD1 hS1
theorem mq_newaJ (hexec : p.tables.exec = Jvm.exec) (hb : c.code = cc) (harr : (Cond.arrayClass .long).before args s = true) (hK : va_K D cl (mq_tys cI cL cB cZ) s) (hP : va_P D cl ws H) (hD : va_D A ws) (hS : va_S A H0 H locs) (hA : ∀ q, H0.size ≤ q → A q) {n : Int32} {N' : Nat} (hn : ¬ n < 0) (hN : n.toNatClampNeg = N') (hbytes : N' * componentBytes .long ≤ 536870912) (hcells : cells + 1 ≤ R.cells) (hslots : slots + N' ≤ R.slots) (hdg : decode cc pc = .ok (.newarray .long, 2))
    (kk : ∀ (q : Nat) (H1 : Heap), va_P D cl (ws ++ [(q, .inl (cL, N', .inr (.inl (fun _ => 0))))]) H1 → va_D A (ws ++ [(q, .inl (cL, N', .inr (.inl (fun _ => 0))))]) → va_S A H0 H1 locs → W p l e R s m args below meth c H1 locs (cells + 1) (slots + N') Q (F0 m (pc + 2) ls (.ref q :: rest))) : W p l e R s m args below meth c H locs cells slots Q (F0 m pc ls (.int n :: rest)) := by
  refine va_newa (atype := .long) (a0 := (N', .inr (.inl (fun _ => 0)))) hexec hb (show (Cond.arrayClass (newarray.typeOf .long)).before args s = true from harr) (ty := .long) rfl hK hP hD hS hA (fun cA => rfl) hn hN hbytes hcells hslots hdg (fun q cA H1 hK1 hP1 hD1 hS1 => ?_)
  have e1 : s.vm.findClass ("[" ++ FieldType.toString .long) = some cA := (hK1.2 4 (cA, .long) rfl).2
  have e2 : s.vm.findClass ("[" ++ FieldType.toString .long) = some cL := (hK.2 1 (cL, .long) rfl).2
  have e3 : cA = cL := Option.some.inj (e1.symm.trans e2)
  subst e3
  exact kk q H1 hP1 hD1 hS1
theorem mq_newaB (hexec : p.tables.exec = Jvm.exec) (hb : c.code = cc) (harr : (Cond.arrayClass .byte).before args s = true) (hK : va_K D cl (mq_tys cI cL cB cZ) s) (hP : va_P D cl ws H) (hD : va_D A ws) (hS : va_S A H0 H locs) (hA : ∀ q, H0.size ≤ q → A q) {n : Int32} {N' : Nat} (hn : ¬ n < 0) (hN : n.toNatClampNeg = N') (hbytes : N' * componentBytes .byte ≤ 536870912) (hcells : cells + 1 ≤ R.cells) (hslots : slots + N' ≤ R.slots) (hdg : decode cc pc = .ok (.newarray .byte, 2))
    (kk : ∀ (q : Nat) (H1 : Heap), va_P D cl (ws ++ [(q, .inl (cB, N', .inl (fun _ => 0)))]) H1 → va_D A (ws ++ [(q, .inl (cB, N', .inl (fun _ => 0)))]) → va_S A H0 H1 locs → W p l e R s m args below meth c H1 locs (cells + 1) (slots + N') Q (F0 m (pc + 2) ls (.ref q :: rest))) : W p l e R s m args below meth c H locs cells slots Q (F0 m pc ls (.int n :: rest)) := by
  refine va_newa (atype := .byte) (a0 := (N', .inl (fun _ => 0))) hexec hb (show (Cond.arrayClass (newarray.typeOf .byte)).before args s = true from harr) (ty := .byte) rfl hK hP hD hS hA (fun cA => rfl) hn hN hbytes hcells hslots hdg (fun q cA H1 hK1 hP1 hD1 hS1 => ?_)
  have e1 : s.vm.findClass ("[" ++ FieldType.toString .byte) = some cA := (hK1.2 4 (cA, .byte) rfl).2
  have e2 : s.vm.findClass ("[" ++ FieldType.toString .byte) = some cB := (hK.2 2 (cB, .byte) rfl).2
  have e3 : cA = cB := Option.some.inj (e1.symm.trans e2)
  subst e3
  exact kk q H1 hP1 hD1 hS1
theorem mq_newaZ (hexec : p.tables.exec = Jvm.exec) (hb : c.code = cc) (harr : (Cond.arrayClass .boolean).before args s = true) (hK : va_K D cl (mq_tys cI cL cB cZ) s) (hP : va_P D cl ws H) (hD : va_D A ws) (hS : va_S A H0 H locs) (hA : ∀ q, H0.size ≤ q → A q) {n : Int32} {N' : Nat} (hn : ¬ n < 0) (hN : n.toNatClampNeg = N') (hbytes : N' * componentBytes .boolean ≤ 536870912) (hcells : cells + 1 ≤ R.cells) (hslots : slots + N' ≤ R.slots) (hdg : decode cc pc = .ok (.newarray .boolean, 2))
    (kk : ∀ (q : Nat) (H1 : Heap), va_P D cl (ws ++ [(q, .inl (cZ, N', .inl (fun _ => 0)))]) H1 → va_D A (ws ++ [(q, .inl (cZ, N', .inl (fun _ => 0)))]) → va_S A H0 H1 locs → W p l e R s m args below meth c H1 locs (cells + 1) (slots + N') Q (F0 m (pc + 2) ls (.ref q :: rest))) : W p l e R s m args below meth c H locs cells slots Q (F0 m pc ls (.int n :: rest)) := by
  refine va_newa (atype := .boolean) (a0 := (N', .inl (fun _ => 0))) hexec hb (show (Cond.arrayClass (newarray.typeOf .boolean)).before args s = true from harr) (ty := .boolean) rfl hK hP hD hS hA (fun cA => rfl) hn hN hbytes hcells hslots hdg (fun q cA H1 hK1 hP1 hD1 hS1 => ?_)
  have e1 : s.vm.findClass ("[" ++ FieldType.toString .boolean) = some cA := (hK1.2 4 (cA, .boolean) rfl).2
  have e2 : s.vm.findClass ("[" ++ FieldType.toString .boolean) = some cZ := (hK.2 3 (cZ, .boolean) rfl).2
  have e3 : cA = cZ := Option.some.inj (e1.symm.trans e2)
  subst e3
  exact kk q H1 hP1 hD1 hS1
end MQN

/-- a state of zeros; addresses by a list -/
def mq_Z : mq_St := (fun _ => 0, fun _ _ => 0, fun _ _ => 0)
/-- the private constructors that nest mates call -/
def mq_N (U : State) : Prop := va_Nw (.methodLinkNest RX8 48 yX3_init RX10) U ∧ va_Nw (.methodLinkNest RX10 9 yX0_init RX10) U ∧ va_Nw (.methodLinkNest RX10 85 yX3_init RX10) U
theorem mq_N_same {u U : State} (hv : u.vm = U.vm) (h : mq_N u) : mq_N U := ⟨h.1.same rfl hv, h.2.1.same rfl hv, h.2.2.same rfl hv⟩
theorem mq_N_warm {s U : State} (hW : s.WarmedH U.vm) (h : mq_N s) : mq_N U := ⟨h.1.warmM hW, h.2.1.warmM hW, h.2.2.warmM hW⟩
def mq_l (l : List Nat) : Nat → Nat := fun k => l.getD k 0
theorem mq_midP {D : va_G} {cl : List vw_C} {wl wc wr : va_W} {H : Heap} (h : va_P D cl (wl ++ (wc ++ wr)) H) : va_P D cl wc H := by
  intro k q hk
  obtain ⟨i, hi⟩ := List.getElem?_of_mem (List.mem_append_right wl (List.mem_append_left wr (List.mem_of_getElem? hk)))
  exact h i q hi
theorem mq_nth {wl wc wr : va_W} {k : Nat} {q : Nat × va_E} (hk : wc[k]? = some q) : (wl ++ (wc ++ wr))[wl.length + k]? = some q := by
  rw [List.getElem?_append_right (Nat.le_add_right _ _), Nat.add_sub_cancel_left, List.getElem?_append_left (List.getElem?_eq_some_iff.mp hk).1]
  exact hk
theorem mq_midD {A : Nat → Prop} {wl wc wr : va_W} (h : va_D A (wl ++ (wc ++ wr))) : va_D A wc :=
  ⟨fun i j p q hi hj e => Nat.add_left_cancel (h.1 _ _ p q (mq_nth hi) (mq_nth hj) e), fun k q hk => h.2 _ q (mq_nth hk)⟩
theorem mq_midJ {A : Nat → Prop} {D : va_G} {cl : List vw_C} {wl wc wr w1 : va_W} {H H1 : Heap} (hP : va_P D cl (wl ++ (wc ++ wr)) H) (hD : va_D A (wl ++ (wc ++ wr))) (had : w1.map (fun q => q.1) = wc.map (fun q => q.1)) (hk : ∀ q : Nat, q < H.size → ¬ va_A wc H.size q → H1[q]? = H[q]?) (hP1 : va_P D cl w1 H1) : va_P D cl (wl ++ (w1 ++ wr)) H1 ∧ va_D A (wl ++ (w1 ++ wr)) := by
  have hl : w1.length = wc.length := by
    have := congrArg List.length had
    simpa using this
  have hadr : ∀ (j : Nat) (q1 : Nat × va_E), w1[j]? = some q1 → ∃ q, wc[j]? = some q ∧ q.1 = q1.1 := by
    intro j q1 h1
    have hj : j < wc.length := by rw [← hl]; exact (List.getElem?_eq_some_iff.mp h1).1
    refine ⟨wc[j], List.getElem?_eq_getElem hj, ?_⟩
    have e := congrArg (fun z : List Nat => z[j]?) had
    simp only [List.getElem?_map, h1, List.getElem?_eq_getElem hj, Option.map] at e
    exact (Option.some.inj e).symm
  have cs : ∀ (k : Nat) (q : Nat × va_E), (wl ++ (w1 ++ wr))[k]? = some q → (∃ j, k = wl.length + j ∧ w1[j]? = some q) ∨ ((wl ++ (wc ++ wr))[k]? = some q ∧ ∀ j, j < wc.length → k ≠ wl.length + j) := by
    intro k q h
    by_cases h1 : k < wl.length
    · rw [List.getElem?_append_left h1] at h
      exact Or.inr ⟨by rw [List.getElem?_append_left h1]; exact h, fun j _ e => by omega⟩
    · have h1' : wl.length ≤ k := by omega
      rw [List.getElem?_append_right h1'] at h
      by_cases h2 : k - wl.length < w1.length
      · rw [List.getElem?_append_left h2] at h
        exact Or.inl ⟨k - wl.length, by omega, h⟩
      · have h2' : w1.length ≤ k - wl.length := by omega
        rw [List.getElem?_append_right h2', hl] at h
        exact Or.inr ⟨by rw [List.getElem?_append_right h1', List.getElem?_append_right (by omega)]; exact h, fun j hj e => by omega⟩
  have key : ∀ (k : Nat) (q : Nat × va_E), (wl ++ (w1 ++ wr))[k]? = some q → ∃ q0, (wl ++ (wc ++ wr))[k]? = some q0 ∧ q0.1 = q.1 := by
    intro k q h
    rcases cs k q h with ⟨j, rfl, hj⟩ | ⟨h1, -⟩
    · obtain ⟨q0, a1, a2⟩ := hadr j q hj
      exact ⟨q0, mq_nth a1, a2⟩
    · exact ⟨q, h1, rfl⟩
  refine ⟨fun k q h => ?_, fun i j x y hi hj hxy => ?_, fun k q h => ?_⟩
  · rcases cs k q h with ⟨j, rfl, hj⟩ | ⟨h1, h2⟩
    · exact hP1 j q hj
    · refine (hP k q h1).kept (hk q.1 (hP k q h1).lt ?_)
      rintro (⟨j, e, hj⟩ | hge)
      · have e2 := hD.1 k (wl.length + j) q (q.1, e) h1 (mq_nth hj) rfl
        exact h2 j (List.getElem?_eq_some_iff.mp hj).1 e2
      · exact absurd (hP k q h1).lt (Nat.not_lt.mpr hge)
  · obtain ⟨x0, a1, a2⟩ := key i x hi
    obtain ⟨y0, b1, b2⟩ := key j y hj
    exact hD.1 i j x0 y0 a1 b1 (a2.trans (hxy.trans b2.symm))
  · obtain ⟨q0, a1, a2⟩ := key k q h
    rw [← a2]
    exact hD.2 k q0 a1

theorem zt_m_X0_3 : Cond.methodLink RX0 3 objectInit ∈ mq_T := mq_T_mem (mq_t1 (List.mem_of_getElem? (i := 32) rfl)) rfl
theorem zt_obj_i : Cond.instanceMethod objectInit ∈ mq_T := mq_T_mem (mq_t1 (List.mem_of_getElem? (i := 25) rfl)) rfl
theorem zt_obj_c : Cond.code objectInit ⟨#[0xb1]⟩ 1 none ∈ mq_T := mq_T_mem (mq_t1 (List.mem_of_getElem? (i := 26) rfl)) rfl
theorem zt_arr_I : Cond.arrayClass .int ∈ mq_T := mq_T_mem (mq_t1 (List.mem_of_getElem? (i := 40) rfl)) rfl
/-! the constructor ModalDesk$ByteRow()V -/
def zr_X0_init : Room := { frames := 1, cells := 1, slots := 1000, locals := 12 }
def zc_X0_init : Cond := .code yX0_init cX0_init 1 none
set_option maxHeartbeats 4000000 in
set_option maxRecDepth 100000 in
theorem zn_X0_init (l : Launch) (D : va_G) (cI cL cB cZ : ClassId) (sz h0 : Nat) : Met l yX0_init (zc_X0_init :: mq_T) zr_X0_init (va_Pc [.ref h0] (fun U => U.heap.size = sz ∧ va_P D vwCl [(h0, .inr (0, [.null, .int 0]))] U.heap ∧ va_K D vwCl (mq_tys cI cL cB cZ) U ∧ va_D (fun _ => True) [(h0, .inr (0, [.null, .int 0]))])) (va_Qv (fun _ : Unit => True) (fun _ t => ∃ (q1 : Nat), va_P D vwCl [(h0, .inr (0, [.ref q1, .int 0])), (q1, .inl (cI, 1000, .inl (fun _ => 0)))] t.heap ∧ va_K D vwCl (mq_tys cI cL cB cZ) t ∧ va_D (va_A [(h0, .inr (0, [.null, .int 0]))] sz) [(h0, .inr (0, [.ref q1, .int 0])), (q1, .inl (cI, 1000, .inl (fun _ => 0)))]) (va_A [(h0, .inr (0, [.null, .int 0]))] sz)) 1 1000 (va_A [(h0, .inr (0, [.null, .int 0]))] sz) := by
  refine Met.ofW (cc := cX0_init) (maxL := 1) (ret := none) (by decide) rfl ?_
  intro p e s m args below meth c s₁ B hml hv
  obtain ⟨rfl, hsz, hP, hK, hD0⟩ := hv
  have hx := B.exec
  have hb := B.bytes
  have hr := B.returns
  have hlocks := B.notSynchronized
  have hin : meth.name = "<init>" := (name_of_methodNamed B.named B.method).1
  have hts := atoms_spec (ws := zc_X0_init :: mq_T) B.pre
  have hown : s.vm.findClass RX0 = some m.cls := findClass_of_methodNamed B.named
  subst hsz
  have hD := hD0.self (sz := s.heap.size)
  generalize hAe : va_A [(h0, .inr (0, [.null, .int 0]))] s.heap.size = A at hD ⊢
  have hA : ∀ q : Nat, s.heap.size ≤ q → A q := fun q h => by rw [← hAe]; exact Or.inr h
  have hS : va_S A s.heap s.heap [] := va_S.rf
  have hP : va_P D vwCl [(h0, .inr (0, [.null, .int 0]))] s.heap := hP
  have hl := lv_entry ([.ref h0]) (n := 1) (Nat.le_of_ble_eq_true rfl)
  rw [lg_entry_eq]
  generalize (lg_sl ([.ref h0]) ++ List.replicate (1 - (lg_sl ([.ref h0])).length) Slot.unset).toArray = ls at hl ⊢
  have hl : lv_has ls 1 [(0, .ref h0)] := hl
  refine lv_aload_n hx hb dX0_init_0 rfl (lv_at hl 0 rfl) ?_
  refine W.objInit hx hb hown (hts _ (List.mem_cons_of_mem _ zt_m_X0_3)) (hts _ (List.mem_cons_of_mem _ zt_obj_i)) (hts _ (List.mem_cons_of_mem _ zt_obj_c)) rfl (by rw [hml]; exact hl.1) rfl dX0_init_1 (Nat.le_of_ble_eq_true rfl) (Nat.le_of_ble_eq_true rfl) ?_
  refine W.eq (g2 := F0 m 4 ls []) rfl ?_
  refine lv_aload_n hx hb dX0_init_4 rfl (lv_at hl 0 rfl) ?_
  refine lv_sipush (v := (1000 : Int32)) hx hb dX0_init_5 (by decide) ?_
  refine mq_newaI (N' := 1000) (n := (1000 : Int32)) hx hb (hts _ (List.mem_cons_of_mem _ zt_arr_I)) hK hP hD hS hA (by decide) (by decide) (by decide) (Nat.le_of_ble_eq_true rfl) (Nat.le_of_ble_eq_true rfl) dX0_init_8 (fun q1 H hP hD hS => ?_)
  have hP : va_P D vwCl [(h0, .inr (0, [.null, .int 0])), (q1, .inl (cI, 1000, .inl (fun _ => 0)))] H := hP
  have hD : va_D A [(h0, .inr (0, [.null, .int 0])), (q1, .inl (cI, 1000, .inl (fun _ => 0)))] := hD
  refine va_putF (D := D) (ci := 0) (v := .ref q1) (ty := (.array .int)) (C := RX0) (T := TX0) (N := 2) hx hb hts (zi_X0 _) tyX0 tyX0_ok nmX0 hown hK hP hD hS 0 rfl rfl 0 (by decide) (hts _ (List.mem_cons_of_mem _ zt_f_X0_9)) (fun _ h9 => h9) rfl hin rfl (by decide +kernel) rfl rfl (Nat.le_of_ble_eq_true rfl) dX0_init_10 (fun H locs hP hD hS => ?_)
  have hP : va_P D vwCl [(h0, .inr (0, [.ref q1, .int 0])), (q1, .inl (cI, 1000, .inl (fun _ => 0)))] H := hP
  have hD : va_D A [(h0, .inr (0, [.ref q1, .int 0])), (q1, .inl (cI, 1000, .inl (fun _ => 0)))] := hD
  exact W.vret hx hb hr (fun t ht hW => ⟨⟨(), rfl, trivial, q1, by rw [ht]; exact hP, va_K.moved hW.alike hK, hD⟩, hS.F ht⟩) hS.2.2 dX0_init_13
theorem zt_m_X3_3 : Cond.methodLink RX3 3 objectInit ∈ mq_T := mq_T_mem (mq_t1 (List.mem_of_getElem? (i := 208) rfl)) rfl
/-! the constructor ModalDesk$Lines()V -/
def zr_X3_init : Room := { frames := 1, cells := 1, slots := 1299, locals := 12 }
def zc_X3_init : Cond := .code yX3_init cX3_init 1 none
set_option maxHeartbeats 4000000 in
set_option maxRecDepth 100000 in
theorem zn_X3_init (l : Launch) (D : va_G) (cI cL cB cZ : ClassId) (sz h0 : Nat) : Met l yX3_init (zc_X3_init :: mq_T) zr_X3_init (va_Pc [.ref h0] (fun U => U.heap.size = sz ∧ va_P D vwCl [(h0, .inr (3, [.null, .int 0]))] U.heap ∧ va_K D vwCl (mq_tys cI cL cB cZ) U ∧ va_D (fun _ => True) [(h0, .inr (3, [.null, .int 0]))])) (va_Qv (fun _ : Unit => True) (fun _ t => ∃ (q1 : Nat), va_P D vwCl [(h0, .inr (3, [.ref q1, .int 0])), (q1, .inl (cI, 1299, .inl (fun _ => 0)))] t.heap ∧ va_K D vwCl (mq_tys cI cL cB cZ) t ∧ va_D (va_A [(h0, .inr (3, [.null, .int 0]))] sz) [(h0, .inr (3, [.ref q1, .int 0])), (q1, .inl (cI, 1299, .inl (fun _ => 0)))]) (va_A [(h0, .inr (3, [.null, .int 0]))] sz)) 1 1299 (va_A [(h0, .inr (3, [.null, .int 0]))] sz) := by
  refine Met.ofW (cc := cX3_init) (maxL := 1) (ret := none) (by decide) rfl ?_
  intro p e s m args below meth c s₁ B hml hv
  obtain ⟨rfl, hsz, hP, hK, hD0⟩ := hv
  have hx := B.exec
  have hb := B.bytes
  have hr := B.returns
  have hlocks := B.notSynchronized
  have hin : meth.name = "<init>" := (name_of_methodNamed B.named B.method).1
  have hts := atoms_spec (ws := zc_X3_init :: mq_T) B.pre
  have hown : s.vm.findClass RX3 = some m.cls := findClass_of_methodNamed B.named
  subst hsz
  have hD := hD0.self (sz := s.heap.size)
  generalize hAe : va_A [(h0, .inr (3, [.null, .int 0]))] s.heap.size = A at hD ⊢
  have hA : ∀ q : Nat, s.heap.size ≤ q → A q := fun q h => by rw [← hAe]; exact Or.inr h
  have hS : va_S A s.heap s.heap [] := va_S.rf
  have hP : va_P D vwCl [(h0, .inr (3, [.null, .int 0]))] s.heap := hP
  have hl := lv_entry ([.ref h0]) (n := 1) (Nat.le_of_ble_eq_true rfl)
  rw [lg_entry_eq]
  generalize (lg_sl ([.ref h0]) ++ List.replicate (1 - (lg_sl ([.ref h0])).length) Slot.unset).toArray = ls at hl ⊢
  have hl : lv_has ls 1 [(0, .ref h0)] := hl
  refine lv_aload_n hx hb dX3_init_0 rfl (lv_at hl 0 rfl) ?_
  refine W.objInit hx hb hown (hts _ (List.mem_cons_of_mem _ zt_m_X3_3)) (hts _ (List.mem_cons_of_mem _ zt_obj_i)) (hts _ (List.mem_cons_of_mem _ zt_obj_c)) rfl (by rw [hml]; exact hl.1) rfl dX3_init_1 (Nat.le_of_ble_eq_true rfl) (Nat.le_of_ble_eq_true rfl) ?_
  refine W.eq (g2 := F0 m 4 ls []) rfl ?_
  refine lv_aload_n hx hb dX3_init_4 rfl (lv_at hl 0 rfl) ?_
  refine lv_sipush (v := (1299 : Int32)) hx hb dX3_init_5 (by decide) ?_
  refine mq_newaI (N' := 1299) (n := (1299 : Int32)) hx hb (hts _ (List.mem_cons_of_mem _ zt_arr_I)) hK hP hD hS hA (by decide) (by decide) (by decide) (Nat.le_of_ble_eq_true rfl) (Nat.le_of_ble_eq_true rfl) dX3_init_8 (fun q1 H hP hD hS => ?_)
  have hP : va_P D vwCl [(h0, .inr (3, [.null, .int 0])), (q1, .inl (cI, 1299, .inl (fun _ => 0)))] H := hP
  have hD : va_D A [(h0, .inr (3, [.null, .int 0])), (q1, .inl (cI, 1299, .inl (fun _ => 0)))] := hD
  refine va_putF (D := D) (ci := 3) (v := .ref q1) (ty := (.array .int)) (C := RX3) (T := TX3) (N := 2) hx hb hts (zi_X3 _) tyX3 tyX3_ok nmX3 hown hK hP hD hS 0 rfl rfl 0 (by decide) (hts _ (List.mem_cons_of_mem _ zt_f_X3_9)) (fun _ h9 => h9) rfl hin rfl (by decide +kernel) rfl rfl (Nat.le_of_ble_eq_true rfl) dX3_init_10 (fun H locs hP hD hS => ?_)
  have hP : va_P D vwCl [(h0, .inr (3, [.ref q1, .int 0])), (q1, .inl (cI, 1299, .inl (fun _ => 0)))] H := hP
  have hD : va_D A [(h0, .inr (3, [.ref q1, .int 0])), (q1, .inl (cI, 1299, .inl (fun _ => 0)))] := hD
  exact W.vret hx hb hr (fun t ht hW => ⟨⟨(), rfl, trivial, q1, by rw [ht]; exact hP, va_K.moved hW.alike hK, hD⟩, hS.F ht⟩) hS.2.2 dX3_init_13
theorem zt_m_X6_3 : Cond.methodLink RX6 3 objectInit ∈ mq_T := mq_T_mem (mq_t1 (List.mem_of_getElem? (i := 52) rfl)) rfl
theorem zt_m_X6_9 : Cond.methodLink RX6 9 Lib.Math.max.name ∈ mq_T := mq_T_mem (mq_t1 (List.mem_of_getElem? (i := 53) rfl)) rfl
theorem zt_arr_J : Cond.arrayClass .long ∈ mq_T := mq_T_mem (mq_t1 (List.mem_of_getElem? (i := 60) rfl)) rfl
/-! the constructor ModalDesk$Sets(I)V -/
def zr_X6_init (nz : Nat) : Room := { frames := 1, cells := 1, slots := nz, locals := 21 }
def zc_X6_init : Cond := .code yX6_init cX6_init 2 none
set_option maxHeartbeats 4000000 in
set_option maxRecDepth 100000 in
theorem zn_X6_init (l : Launch) (D : va_G) (cI cL cB cZ : ClassId) (sz h0 : Nat) (v1 : Int32) (nz : Nat) (hn1 : ¬ mq_max v1 0 * 5 < 0) (hn2 : (mq_max v1 0 * 5).toNatClampNeg = nz) (hn3 : nz * componentBytes .long ≤ 536870912) : Met l yX6_init (zc_X6_init :: mq_T) (zr_X6_init nz) (va_Pc [.ref h0, .int v1] (fun U => U.heap.size = sz ∧ va_P D vwCl [(h0, .inr (6, [.null]))] U.heap ∧ va_K D vwCl (mq_tys cI cL cB cZ) U ∧ va_D (fun _ => True) [(h0, .inr (6, [.null]))])) (va_Qv (fun _ : Unit => True) (fun _ t => ∃ (q1 : Nat), va_P D vwCl [(h0, .inr (6, [.ref q1])), (q1, .inl (cL, nz, .inr (.inl (fun _ => 0))))] t.heap ∧ va_K D vwCl (mq_tys cI cL cB cZ) t ∧ va_D (va_A [(h0, .inr (6, [.null]))] sz) [(h0, .inr (6, [.ref q1])), (q1, .inl (cL, nz, .inr (.inl (fun _ => 0))))]) (va_A [(h0, .inr (6, [.null]))] sz)) 1 (nz) (va_A [(h0, .inr (6, [.null]))] sz) := by
  refine Met.ofW (cc := cX6_init) (maxL := 2) (ret := none) (by decide) rfl ?_
  intro p e s m args below meth c s₁ B hml hv
  obtain ⟨rfl, hsz, hP, hK, hD0⟩ := hv
  have hx := B.exec
  have hb := B.bytes
  have hr := B.returns
  have hlocks := B.notSynchronized
  have hin : meth.name = "<init>" := (name_of_methodNamed B.named B.method).1
  have hts := atoms_spec (ws := zc_X6_init :: mq_T) B.pre
  have hown : s.vm.findClass RX6 = some m.cls := findClass_of_methodNamed B.named
  subst hsz
  have hD := hD0.self (sz := s.heap.size)
  generalize hAe : va_A [(h0, .inr (6, [.null]))] s.heap.size = A at hD ⊢
  have hA : ∀ q : Nat, s.heap.size ≤ q → A q := fun q h => by rw [← hAe]; exact Or.inr h
  have hS : va_S A s.heap s.heap [] := va_S.rf
  have hP : va_P D vwCl [(h0, .inr (6, [.null]))] s.heap := hP
  have hl := lv_entry ([.ref h0, .int v1]) (n := 2) (Nat.le_of_ble_eq_true rfl)
  rw [lg_entry_eq]
  generalize (lg_sl ([.ref h0, .int v1]) ++ List.replicate (2 - (lg_sl ([.ref h0, .int v1])).length) Slot.unset).toArray = ls at hl ⊢
  have hl : lv_has ls 2 [(0, .ref h0), (1, .int v1)] := hl
  refine lv_aload_n hx hb dX6_init_0 rfl (lv_at hl 0 rfl) ?_
  refine W.objInit hx hb hown (hts _ (List.mem_cons_of_mem _ zt_m_X6_3)) (hts _ (List.mem_cons_of_mem _ zt_obj_i)) (hts _ (List.mem_cons_of_mem _ zt_obj_c)) rfl (by rw [hml]; exact hl.1) rfl dX6_init_1 (Nat.le_of_ble_eq_true rfl) (Nat.le_of_ble_eq_true rfl) ?_
  refine W.eq (g2 := F0 m 4 ls []) rfl ?_
  refine lv_aload_n hx hb dX6_init_4 rfl (lv_at hl 0 rfl) ?_
  refine lv_iload_n hx hb dX6_init_5 rfl (lv_at hl 1 rfl) ?_
  refine lv_iconst (v := (0 : Int32)) hx hb dX6_init_6 (by decide) ?_
  refine va_mmax hx hb (hml.trans hl.1.symm) hown (hts _ (List.mem_cons_of_mem _ zt_m_X6_9)) (hts _ (List.mem_cons_of_mem _ zt_math_max_s)) (hts _ (List.mem_cons_of_mem _ zt_math_i)) (hts _ (List.mem_cons_of_mem _ zt_math_max_c)) (Nat.le_of_ble_eq_true rfl) (Nat.le_of_ble_eq_true rfl) (Nat.zero_le _) (Nat.zero_le _) dX6_init_7 ?_
  show W _ _ _ _ _ _ _ _ _ _ _ _ _ _ _ (F0 _ _ _ (.int (mq_max v1 (0 : Int32)) :: _))
  refine lv_iconst (v := (5 : Int32)) hx hb dX6_init_10 (by decide) ?_
  refine lv_imul hx hb dX6_init_11 ?_
  refine mq_newaJ (N' := nz) (n := ((mq_max v1 (0 : Int32)) * (5 : Int32))) hx hb (hts _ (List.mem_cons_of_mem _ zt_arr_J)) hK hP hD hS hA hn1 hn2 hn3 (Nat.le_of_ble_eq_true rfl) (by show 0 + nz ≤ nz; omega) dX6_init_12 (fun q1 H hP hD hS => ?_)
  refine W.widen (k := 1) (n := nz) (by omega) (by omega) ?_
  have hP : va_P D vwCl [(h0, .inr (6, [.null])), (q1, .inl (cL, nz, .inr (.inl (fun _ => 0))))] H := hP
  have hD : va_D A [(h0, .inr (6, [.null])), (q1, .inl (cL, nz, .inr (.inl (fun _ => 0))))] := hD
  refine va_putF (D := D) (ci := 6) (v := .ref q1) (ty := (.array .long)) (C := RX6) (T := TX6) (N := 1) hx hb hts (zi_X6 _) tyX6 tyX6_ok nmX6 hown hK hP hD hS 0 rfl rfl 0 (by decide) (hts _ (List.mem_cons_of_mem _ zt_f_X6_17)) (fun _ h9 => h9) rfl hin rfl (by decide +kernel) rfl rfl (Nat.le_of_ble_eq_true rfl) dX6_init_14 (fun H locs hP hD hS => ?_)
  have hP : va_P D vwCl [(h0, .inr (6, [.ref q1])), (q1, .inl (cL, nz, .inr (.inl (fun _ => 0))))] H := hP
  have hD : va_D A [(h0, .inr (6, [.ref q1])), (q1, .inl (cL, nz, .inr (.inl (fun _ => 0))))] := hD
  exact W.vret hx hb hr (fun t ht hW => ⟨⟨(), rfl, trivial, q1, by rw [ht]; exact hP, va_K.moved hW.alike hK, hD⟩, hS.F ht⟩) hS.2.2 dX6_init_17
theorem zt_m_X2_3 : Cond.methodLink RX2 3 objectInit ∈ mq_T := mq_T_mem (mq_t1 (List.mem_of_getElem? (i := 105) rfl)) rfl
/-! the constructor ModalDesk$Draft(LModalDesk$Stock;)V -/
def zr_X2_init : Room := { frames := 1, cells := 5, slots := 900, locals := 12 }
def zc_X2_init : Cond := .code yX2_init cX2_init 2 none
set_option maxHeartbeats 4000000 in
set_option maxRecDepth 100000 in
theorem zn_X2_init (l : Launch) (D : va_G) (cI cL cB cZ : ClassId) (sz h0 : Nat) (r1 : Nat) : Met l yX2_init (zc_X2_init :: mq_T) zr_X2_init (va_Pc [.ref h0, .ref r1] (fun U => U.heap.size = sz ∧ va_P D vwCl [(h0, .inr (2, [.null, .null, .null, .null, .null, .null, .int 0, .int 0]))] U.heap ∧ va_K D vwCl (mq_tys cI cL cB cZ) U ∧ va_D (fun _ => True) [(h0, .inr (2, [.null, .null, .null, .null, .null, .null, .int 0, .int 0]))])) (va_Qv (fun _ : Unit => True) (fun _ t => ∃ (q1 q2 q3 q4 q5 : Nat), va_P D vwCl [(h0, .inr (2, [.ref r1, .ref q1, .ref q2, .ref q3, .ref q4, .ref q5, .int 0, .int 0])), (q1, .inl (cI, 150, .inl (fun _ => 0))), (q2, .inl (cI, 150, .inl (fun _ => 0))), (q3, .inl (cI, 150, .inl (fun _ => 0))), (q4, .inl (cI, 300, .inl (fun _ => 0))), (q5, .inl (cI, 150, .inl (fun _ => 0)))] t.heap ∧ va_K D vwCl (mq_tys cI cL cB cZ) t ∧ va_D (va_A [(h0, .inr (2, [.null, .null, .null, .null, .null, .null, .int 0, .int 0]))] sz) [(h0, .inr (2, [.ref r1, .ref q1, .ref q2, .ref q3, .ref q4, .ref q5, .int 0, .int 0])), (q1, .inl (cI, 150, .inl (fun _ => 0))), (q2, .inl (cI, 150, .inl (fun _ => 0))), (q3, .inl (cI, 150, .inl (fun _ => 0))), (q4, .inl (cI, 300, .inl (fun _ => 0))), (q5, .inl (cI, 150, .inl (fun _ => 0)))]) (va_A [(h0, .inr (2, [.null, .null, .null, .null, .null, .null, .int 0, .int 0]))] sz)) 5 900 (va_A [(h0, .inr (2, [.null, .null, .null, .null, .null, .null, .int 0, .int 0]))] sz) := by
  refine Met.ofW (cc := cX2_init) (maxL := 2) (ret := none) (by decide) rfl ?_
  intro p e s m args below meth c s₁ B hml hv
  obtain ⟨rfl, hsz, hP, hK, hD0⟩ := hv
  have hx := B.exec
  have hb := B.bytes
  have hr := B.returns
  have hlocks := B.notSynchronized
  have hin : meth.name = "<init>" := (name_of_methodNamed B.named B.method).1
  have hts := atoms_spec (ws := zc_X2_init :: mq_T) B.pre
  have hown : s.vm.findClass RX2 = some m.cls := findClass_of_methodNamed B.named
  subst hsz
  have hD := hD0.self (sz := s.heap.size)
  generalize hAe : va_A [(h0, .inr (2, [.null, .null, .null, .null, .null, .null, .int 0, .int 0]))] s.heap.size = A at hD ⊢
  have hA : ∀ q : Nat, s.heap.size ≤ q → A q := fun q h => by rw [← hAe]; exact Or.inr h
  have hS : va_S A s.heap s.heap [] := va_S.rf
  have hP : va_P D vwCl [(h0, .inr (2, [.null, .null, .null, .null, .null, .null, .int 0, .int 0]))] s.heap := hP
  have hl := lv_entry ([.ref h0, .ref r1]) (n := 2) (Nat.le_of_ble_eq_true rfl)
  rw [lg_entry_eq]
  generalize (lg_sl ([.ref h0, .ref r1]) ++ List.replicate (2 - (lg_sl ([.ref h0, .ref r1])).length) Slot.unset).toArray = ls at hl ⊢
  have hl : lv_has ls 2 [(0, .ref h0), (1, .ref r1)] := hl
  refine lv_aload_n hx hb dX2_init_0 rfl (lv_at hl 0 rfl) ?_
  refine W.objInit hx hb hown (hts _ (List.mem_cons_of_mem _ zt_m_X2_3)) (hts _ (List.mem_cons_of_mem _ zt_obj_i)) (hts _ (List.mem_cons_of_mem _ zt_obj_c)) rfl (by rw [hml]; exact hl.1) rfl dX2_init_1 (Nat.le_of_ble_eq_true rfl) (Nat.le_of_ble_eq_true rfl) ?_
  refine W.eq (g2 := F0 m 4 ls []) rfl ?_
  refine lv_aload_n hx hb dX2_init_4 rfl (lv_at hl 0 rfl) ?_
  refine lv_sipush (v := (150 : Int32)) hx hb dX2_init_5 (by decide) ?_
  refine mq_newaI (N' := 150) (n := (150 : Int32)) hx hb (hts _ (List.mem_cons_of_mem _ zt_arr_I)) hK hP hD hS hA (by decide) (by decide) (by decide) (Nat.le_of_ble_eq_true rfl) (Nat.le_of_ble_eq_true rfl) dX2_init_8 (fun q1 H hP hD hS => ?_)
  have hP : va_P D vwCl [(h0, .inr (2, [.null, .null, .null, .null, .null, .null, .int 0, .int 0])), (q1, .inl (cI, 150, .inl (fun _ => 0)))] H := hP
  have hD : va_D A [(h0, .inr (2, [.null, .null, .null, .null, .null, .null, .int 0, .int 0])), (q1, .inl (cI, 150, .inl (fun _ => 0)))] := hD
  refine va_putF (D := D) (ci := 2) (v := .ref q1) (ty := (.array .int)) (C := RX2) (T := TX2) (N := 8) hx hb hts (zi_X2 _) tyX2 tyX2_ok nmX2 hown hK hP hD hS 0 rfl rfl 1 (by decide) (hts _ (List.mem_cons_of_mem _ zt_f_X2_11)) (fun _ h9 => h9) rfl hin rfl (by decide +kernel) rfl rfl (Nat.le_of_ble_eq_true rfl) dX2_init_10 (fun H locs hP hD hS => ?_)
  have hP : va_P D vwCl [(h0, .inr (2, [.null, .ref q1, .null, .null, .null, .null, .int 0, .int 0])), (q1, .inl (cI, 150, .inl (fun _ => 0)))] H := hP
  have hD : va_D A [(h0, .inr (2, [.null, .ref q1, .null, .null, .null, .null, .int 0, .int 0])), (q1, .inl (cI, 150, .inl (fun _ => 0)))] := hD
  refine lv_aload_n hx hb dX2_init_13 rfl (lv_at hl 0 rfl) ?_
  refine lv_sipush (v := (150 : Int32)) hx hb dX2_init_14 (by decide) ?_
  refine mq_newaI (N' := 150) (n := (150 : Int32)) hx hb (hts _ (List.mem_cons_of_mem _ zt_arr_I)) hK hP hD hS hA (by decide) (by decide) (by decide) (Nat.le_of_ble_eq_true rfl) (Nat.le_of_ble_eq_true rfl) dX2_init_17 (fun q2 H hP hD hS => ?_)
  have hP : va_P D vwCl [(h0, .inr (2, [.null, .ref q1, .null, .null, .null, .null, .int 0, .int 0])), (q1, .inl (cI, 150, .inl (fun _ => 0))), (q2, .inl (cI, 150, .inl (fun _ => 0)))] H := hP
  have hD : va_D A [(h0, .inr (2, [.null, .ref q1, .null, .null, .null, .null, .int 0, .int 0])), (q1, .inl (cI, 150, .inl (fun _ => 0))), (q2, .inl (cI, 150, .inl (fun _ => 0)))] := hD
  refine va_putF (D := D) (ci := 2) (v := .ref q2) (ty := (.array .int)) (C := RX2) (T := TX2) (N := 8) hx hb hts (zi_X2 _) tyX2 tyX2_ok nmX2 hown hK hP hD hS 0 rfl rfl 2 (by decide) (hts _ (List.mem_cons_of_mem _ zt_f_X2_15)) (fun _ h9 => h9) rfl hin rfl (by decide +kernel) rfl rfl (Nat.le_of_ble_eq_true rfl) dX2_init_19 (fun H locs hP hD hS => ?_)
  have hP : va_P D vwCl [(h0, .inr (2, [.null, .ref q1, .ref q2, .null, .null, .null, .int 0, .int 0])), (q1, .inl (cI, 150, .inl (fun _ => 0))), (q2, .inl (cI, 150, .inl (fun _ => 0)))] H := hP
  have hD : va_D A [(h0, .inr (2, [.null, .ref q1, .ref q2, .null, .null, .null, .int 0, .int 0])), (q1, .inl (cI, 150, .inl (fun _ => 0))), (q2, .inl (cI, 150, .inl (fun _ => 0)))] := hD
  refine lv_aload_n hx hb dX2_init_22 rfl (lv_at hl 0 rfl) ?_
  refine lv_sipush (v := (150 : Int32)) hx hb dX2_init_23 (by decide) ?_
  refine mq_newaI (N' := 150) (n := (150 : Int32)) hx hb (hts _ (List.mem_cons_of_mem _ zt_arr_I)) hK hP hD hS hA (by decide) (by decide) (by decide) (Nat.le_of_ble_eq_true rfl) (Nat.le_of_ble_eq_true rfl) dX2_init_26 (fun q3 H hP hD hS => ?_)
  have hP : va_P D vwCl [(h0, .inr (2, [.null, .ref q1, .ref q2, .null, .null, .null, .int 0, .int 0])), (q1, .inl (cI, 150, .inl (fun _ => 0))), (q2, .inl (cI, 150, .inl (fun _ => 0))), (q3, .inl (cI, 150, .inl (fun _ => 0)))] H := hP
  have hD : va_D A [(h0, .inr (2, [.null, .ref q1, .ref q2, .null, .null, .null, .int 0, .int 0])), (q1, .inl (cI, 150, .inl (fun _ => 0))), (q2, .inl (cI, 150, .inl (fun _ => 0))), (q3, .inl (cI, 150, .inl (fun _ => 0)))] := hD
  refine va_putF (D := D) (ci := 2) (v := .ref q3) (ty := (.array .int)) (C := RX2) (T := TX2) (N := 8) hx hb hts (zi_X2 _) tyX2 tyX2_ok nmX2 hown hK hP hD hS 0 rfl rfl 3 (by decide) (hts _ (List.mem_cons_of_mem _ zt_f_X2_18)) (fun _ h9 => h9) rfl hin rfl (by decide +kernel) rfl rfl (Nat.le_of_ble_eq_true rfl) dX2_init_28 (fun H locs hP hD hS => ?_)
  have hP : va_P D vwCl [(h0, .inr (2, [.null, .ref q1, .ref q2, .ref q3, .null, .null, .int 0, .int 0])), (q1, .inl (cI, 150, .inl (fun _ => 0))), (q2, .inl (cI, 150, .inl (fun _ => 0))), (q3, .inl (cI, 150, .inl (fun _ => 0)))] H := hP
  have hD : va_D A [(h0, .inr (2, [.null, .ref q1, .ref q2, .ref q3, .null, .null, .int 0, .int 0])), (q1, .inl (cI, 150, .inl (fun _ => 0))), (q2, .inl (cI, 150, .inl (fun _ => 0))), (q3, .inl (cI, 150, .inl (fun _ => 0)))] := hD
  refine lv_aload_n hx hb dX2_init_31 rfl (lv_at hl 0 rfl) ?_
  refine lv_sipush (v := (300 : Int32)) hx hb dX2_init_32 (by decide) ?_
  refine mq_newaI (N' := 300) (n := (300 : Int32)) hx hb (hts _ (List.mem_cons_of_mem _ zt_arr_I)) hK hP hD hS hA (by decide) (by decide) (by decide) (Nat.le_of_ble_eq_true rfl) (Nat.le_of_ble_eq_true rfl) dX2_init_35 (fun q4 H hP hD hS => ?_)
  have hP : va_P D vwCl [(h0, .inr (2, [.null, .ref q1, .ref q2, .ref q3, .null, .null, .int 0, .int 0])), (q1, .inl (cI, 150, .inl (fun _ => 0))), (q2, .inl (cI, 150, .inl (fun _ => 0))), (q3, .inl (cI, 150, .inl (fun _ => 0))), (q4, .inl (cI, 300, .inl (fun _ => 0)))] H := hP
  have hD : va_D A [(h0, .inr (2, [.null, .ref q1, .ref q2, .ref q3, .null, .null, .int 0, .int 0])), (q1, .inl (cI, 150, .inl (fun _ => 0))), (q2, .inl (cI, 150, .inl (fun _ => 0))), (q3, .inl (cI, 150, .inl (fun _ => 0))), (q4, .inl (cI, 300, .inl (fun _ => 0)))] := hD
  refine va_putF (D := D) (ci := 2) (v := .ref q4) (ty := (.array .int)) (C := RX2) (T := TX2) (N := 8) hx hb hts (zi_X2 _) tyX2 tyX2_ok nmX2 hown hK hP hD hS 0 rfl rfl 4 (by decide) (hts _ (List.mem_cons_of_mem _ zt_f_X2_21)) (fun _ h9 => h9) rfl hin rfl (by decide +kernel) rfl rfl (Nat.le_of_ble_eq_true rfl) dX2_init_37 (fun H locs hP hD hS => ?_)
  have hP : va_P D vwCl [(h0, .inr (2, [.null, .ref q1, .ref q2, .ref q3, .ref q4, .null, .int 0, .int 0])), (q1, .inl (cI, 150, .inl (fun _ => 0))), (q2, .inl (cI, 150, .inl (fun _ => 0))), (q3, .inl (cI, 150, .inl (fun _ => 0))), (q4, .inl (cI, 300, .inl (fun _ => 0)))] H := hP
  have hD : va_D A [(h0, .inr (2, [.null, .ref q1, .ref q2, .ref q3, .ref q4, .null, .int 0, .int 0])), (q1, .inl (cI, 150, .inl (fun _ => 0))), (q2, .inl (cI, 150, .inl (fun _ => 0))), (q3, .inl (cI, 150, .inl (fun _ => 0))), (q4, .inl (cI, 300, .inl (fun _ => 0)))] := hD
  refine lv_aload_n hx hb dX2_init_40 rfl (lv_at hl 0 rfl) ?_
  refine lv_sipush (v := (150 : Int32)) hx hb dX2_init_41 (by decide) ?_
  refine mq_newaI (N' := 150) (n := (150 : Int32)) hx hb (hts _ (List.mem_cons_of_mem _ zt_arr_I)) hK hP hD hS hA (by decide) (by decide) (by decide) (Nat.le_of_ble_eq_true rfl) (Nat.le_of_ble_eq_true rfl) dX2_init_44 (fun q5 H hP hD hS => ?_)
  have hP : va_P D vwCl [(h0, .inr (2, [.null, .ref q1, .ref q2, .ref q3, .ref q4, .null, .int 0, .int 0])), (q1, .inl (cI, 150, .inl (fun _ => 0))), (q2, .inl (cI, 150, .inl (fun _ => 0))), (q3, .inl (cI, 150, .inl (fun _ => 0))), (q4, .inl (cI, 300, .inl (fun _ => 0))), (q5, .inl (cI, 150, .inl (fun _ => 0)))] H := hP
  have hD : va_D A [(h0, .inr (2, [.null, .ref q1, .ref q2, .ref q3, .ref q4, .null, .int 0, .int 0])), (q1, .inl (cI, 150, .inl (fun _ => 0))), (q2, .inl (cI, 150, .inl (fun _ => 0))), (q3, .inl (cI, 150, .inl (fun _ => 0))), (q4, .inl (cI, 300, .inl (fun _ => 0))), (q5, .inl (cI, 150, .inl (fun _ => 0)))] := hD
  refine va_putF (D := D) (ci := 2) (v := .ref q5) (ty := (.array .int)) (C := RX2) (T := TX2) (N := 8) hx hb hts (zi_X2 _) tyX2 tyX2_ok nmX2 hown hK hP hD hS 0 rfl rfl 5 (by decide) (hts _ (List.mem_cons_of_mem _ zt_f_X2_24)) (fun _ h9 => h9) rfl hin rfl (by decide +kernel) rfl rfl (Nat.le_of_ble_eq_true rfl) dX2_init_46 (fun H locs hP hD hS => ?_)
  have hP : va_P D vwCl [(h0, .inr (2, [.null, .ref q1, .ref q2, .ref q3, .ref q4, .ref q5, .int 0, .int 0])), (q1, .inl (cI, 150, .inl (fun _ => 0))), (q2, .inl (cI, 150, .inl (fun _ => 0))), (q3, .inl (cI, 150, .inl (fun _ => 0))), (q4, .inl (cI, 300, .inl (fun _ => 0))), (q5, .inl (cI, 150, .inl (fun _ => 0)))] H := hP
  have hD : va_D A [(h0, .inr (2, [.null, .ref q1, .ref q2, .ref q3, .ref q4, .ref q5, .int 0, .int 0])), (q1, .inl (cI, 150, .inl (fun _ => 0))), (q2, .inl (cI, 150, .inl (fun _ => 0))), (q3, .inl (cI, 150, .inl (fun _ => 0))), (q4, .inl (cI, 300, .inl (fun _ => 0))), (q5, .inl (cI, 150, .inl (fun _ => 0)))] := hD
  refine lv_aload_n hx hb dX2_init_49 rfl (lv_at hl 0 rfl) ?_
  refine lv_aload_n hx hb dX2_init_50 rfl (lv_at hl 1 rfl) ?_
  refine va_putF (D := D) (ci := 2) (v := .ref r1) (ty := (.object "ModalDesk$Stock")) (C := RX2) (T := TX2) (N := 8) hx hb hts (zi_X2 _) tyX2 tyX2_ok nmX2 hown hK hP hD hS 0 rfl rfl 0 (by decide) (hts _ (List.mem_cons_of_mem _ zt_f_X2_27)) (fun _ h9 => h9) rfl hin rfl (by decide +kernel) rfl rfl (Nat.le_of_ble_eq_true rfl) dX2_init_51 (fun H locs hP hD hS => ?_)
  have hP : va_P D vwCl [(h0, .inr (2, [.ref r1, .ref q1, .ref q2, .ref q3, .ref q4, .ref q5, .int 0, .int 0])), (q1, .inl (cI, 150, .inl (fun _ => 0))), (q2, .inl (cI, 150, .inl (fun _ => 0))), (q3, .inl (cI, 150, .inl (fun _ => 0))), (q4, .inl (cI, 300, .inl (fun _ => 0))), (q5, .inl (cI, 150, .inl (fun _ => 0)))] H := hP
  have hD : va_D A [(h0, .inr (2, [.ref r1, .ref q1, .ref q2, .ref q3, .ref q4, .ref q5, .int 0, .int 0])), (q1, .inl (cI, 150, .inl (fun _ => 0))), (q2, .inl (cI, 150, .inl (fun _ => 0))), (q3, .inl (cI, 150, .inl (fun _ => 0))), (q4, .inl (cI, 300, .inl (fun _ => 0))), (q5, .inl (cI, 150, .inl (fun _ => 0)))] := hD
  exact W.vret hx hb hr (fun t ht hW => ⟨⟨(), rfl, trivial, q1, q2, q3, q4, q5, by rw [ht]; exact hP, va_K.moved hW.alike hK, hD⟩, hS.F ht⟩) hS.2.2 dX2_init_54
theorem zt_m_X5_3 : Cond.methodLink RX5 3 objectInit ∈ mq_T := mq_T_mem (mq_t1 (List.mem_of_getElem? (i := 136) rfl)) rfl
/-! the constructor ModalDesk$Reader(LModalDesk$ByteRow;LModalDesk$Draft;)V -/
def zr_X5_init : Room := { frames := 1, cells := 2, slots := 800, locals := 12 }
def zc_X5_init : Cond := .code yX5_init cX5_init 3 none
set_option maxHeartbeats 4000000 in
set_option maxRecDepth 100000 in
theorem zn_X5_init (l : Launch) (D : va_G) (cI cL cB cZ : ClassId) (sz h0 : Nat) (r1 : Nat) (r2 : Nat) : Met l yX5_init (zc_X5_init :: mq_T) zr_X5_init (va_Pc [.ref h0, .ref r1, .ref r2] (fun U => U.heap.size = sz ∧ va_P D vwCl [(h0, .inr (5, [.null, .null, .null, .null, .int 0, .int 0, .int 0, .int 0, .int 0, .int 0, .int 0, .int 0]))] U.heap ∧ va_K D vwCl (mq_tys cI cL cB cZ) U ∧ va_D (fun _ => True) [(h0, .inr (5, [.null, .null, .null, .null, .int 0, .int 0, .int 0, .int 0, .int 0, .int 0, .int 0, .int 0]))])) (va_Qv (fun _ : Unit => True) (fun _ t => ∃ (q1 q2 : Nat), va_P D vwCl [(h0, .inr (5, [.ref r1, .ref r2, .ref q1, .ref q2, .int 0, .int 0, .int 0, .int 0, .int 0, .int 0, .int 0, .int ((-1 : Int32))])), (q1, .inl (cI, 400, .inl (fun _ => 0))), (q2, .inl (cI, 400, .inl (fun _ => 0)))] t.heap ∧ va_K D vwCl (mq_tys cI cL cB cZ) t ∧ va_D (va_A [(h0, .inr (5, [.null, .null, .null, .null, .int 0, .int 0, .int 0, .int 0, .int 0, .int 0, .int 0, .int 0]))] sz) [(h0, .inr (5, [.ref r1, .ref r2, .ref q1, .ref q2, .int 0, .int 0, .int 0, .int 0, .int 0, .int 0, .int 0, .int ((-1 : Int32))])), (q1, .inl (cI, 400, .inl (fun _ => 0))), (q2, .inl (cI, 400, .inl (fun _ => 0)))]) (va_A [(h0, .inr (5, [.null, .null, .null, .null, .int 0, .int 0, .int 0, .int 0, .int 0, .int 0, .int 0, .int 0]))] sz)) 2 800 (va_A [(h0, .inr (5, [.null, .null, .null, .null, .int 0, .int 0, .int 0, .int 0, .int 0, .int 0, .int 0, .int 0]))] sz) := by
  refine Met.ofW (cc := cX5_init) (maxL := 3) (ret := none) (by decide) rfl ?_
  intro p e s m args below meth c s₁ B hml hv
  obtain ⟨rfl, hsz, hP, hK, hD0⟩ := hv
  have hx := B.exec
  have hb := B.bytes
  have hr := B.returns
  have hlocks := B.notSynchronized
  have hin : meth.name = "<init>" := (name_of_methodNamed B.named B.method).1
  have hts := atoms_spec (ws := zc_X5_init :: mq_T) B.pre
  have hown : s.vm.findClass RX5 = some m.cls := findClass_of_methodNamed B.named
  subst hsz
  have hD := hD0.self (sz := s.heap.size)
  generalize hAe : va_A [(h0, .inr (5, [.null, .null, .null, .null, .int 0, .int 0, .int 0, .int 0, .int 0, .int 0, .int 0, .int 0]))] s.heap.size = A at hD ⊢
  have hA : ∀ q : Nat, s.heap.size ≤ q → A q := fun q h => by rw [← hAe]; exact Or.inr h
  have hS : va_S A s.heap s.heap [] := va_S.rf
  have hP : va_P D vwCl [(h0, .inr (5, [.null, .null, .null, .null, .int 0, .int 0, .int 0, .int 0, .int 0, .int 0, .int 0, .int 0]))] s.heap := hP
  have hl := lv_entry ([.ref h0, .ref r1, .ref r2]) (n := 3) (Nat.le_of_ble_eq_true rfl)
  rw [lg_entry_eq]
  generalize (lg_sl ([.ref h0, .ref r1, .ref r2]) ++ List.replicate (3 - (lg_sl ([.ref h0, .ref r1, .ref r2])).length) Slot.unset).toArray = ls at hl ⊢
  have hl : lv_has ls 3 [(0, .ref h0), (1, .ref r1), (2, .ref r2)] := hl
  refine lv_aload_n hx hb dX5_init_0 rfl (lv_at hl 0 rfl) ?_
  refine W.objInit hx hb hown (hts _ (List.mem_cons_of_mem _ zt_m_X5_3)) (hts _ (List.mem_cons_of_mem _ zt_obj_i)) (hts _ (List.mem_cons_of_mem _ zt_obj_c)) rfl (by rw [hml]; exact hl.1) rfl dX5_init_1 (Nat.le_of_ble_eq_true rfl) (Nat.le_of_ble_eq_true rfl) ?_
  refine W.eq (g2 := F0 m 4 ls []) rfl ?_
  refine lv_aload_n hx hb dX5_init_4 rfl (lv_at hl 0 rfl) ?_
  refine lv_sipush (v := (400 : Int32)) hx hb dX5_init_5 (by decide) ?_
  refine mq_newaI (N' := 400) (n := (400 : Int32)) hx hb (hts _ (List.mem_cons_of_mem _ zt_arr_I)) hK hP hD hS hA (by decide) (by decide) (by decide) (Nat.le_of_ble_eq_true rfl) (Nat.le_of_ble_eq_true rfl) dX5_init_8 (fun q1 H hP hD hS => ?_)
  have hP : va_P D vwCl [(h0, .inr (5, [.null, .null, .null, .null, .int 0, .int 0, .int 0, .int 0, .int 0, .int 0, .int 0, .int 0])), (q1, .inl (cI, 400, .inl (fun _ => 0)))] H := hP
  have hD : va_D A [(h0, .inr (5, [.null, .null, .null, .null, .int 0, .int 0, .int 0, .int 0, .int 0, .int 0, .int 0, .int 0])), (q1, .inl (cI, 400, .inl (fun _ => 0)))] := hD
  refine va_putF (D := D) (ci := 5) (v := .ref q1) (ty := (.array .int)) (C := RX5) (T := TX5) (N := 12) hx hb hts (zi_X5 _) tyX5 tyX5_ok nmX5 hown hK hP hD hS 0 rfl rfl 2 (by decide) (hts _ (List.mem_cons_of_mem _ zt_f_X5_9)) (fun _ h9 => h9) rfl hin rfl (by decide +kernel) rfl rfl (Nat.le_of_ble_eq_true rfl) dX5_init_10 (fun H locs hP hD hS => ?_)
  have hP : va_P D vwCl [(h0, .inr (5, [.null, .null, .ref q1, .null, .int 0, .int 0, .int 0, .int 0, .int 0, .int 0, .int 0, .int 0])), (q1, .inl (cI, 400, .inl (fun _ => 0)))] H := hP
  have hD : va_D A [(h0, .inr (5, [.null, .null, .ref q1, .null, .int 0, .int 0, .int 0, .int 0, .int 0, .int 0, .int 0, .int 0])), (q1, .inl (cI, 400, .inl (fun _ => 0)))] := hD
  refine lv_aload_n hx hb dX5_init_13 rfl (lv_at hl 0 rfl) ?_
  refine lv_sipush (v := (400 : Int32)) hx hb dX5_init_14 (by decide) ?_
  refine mq_newaI (N' := 400) (n := (400 : Int32)) hx hb (hts _ (List.mem_cons_of_mem _ zt_arr_I)) hK hP hD hS hA (by decide) (by decide) (by decide) (Nat.le_of_ble_eq_true rfl) (Nat.le_of_ble_eq_true rfl) dX5_init_17 (fun q2 H hP hD hS => ?_)
  have hP : va_P D vwCl [(h0, .inr (5, [.null, .null, .ref q1, .null, .int 0, .int 0, .int 0, .int 0, .int 0, .int 0, .int 0, .int 0])), (q1, .inl (cI, 400, .inl (fun _ => 0))), (q2, .inl (cI, 400, .inl (fun _ => 0)))] H := hP
  have hD : va_D A [(h0, .inr (5, [.null, .null, .ref q1, .null, .int 0, .int 0, .int 0, .int 0, .int 0, .int 0, .int 0, .int 0])), (q1, .inl (cI, 400, .inl (fun _ => 0))), (q2, .inl (cI, 400, .inl (fun _ => 0)))] := hD
  refine va_putF (D := D) (ci := 5) (v := .ref q2) (ty := (.array .int)) (C := RX5) (T := TX5) (N := 12) hx hb hts (zi_X5 _) tyX5 tyX5_ok nmX5 hown hK hP hD hS 0 rfl rfl 3 (by decide) (hts _ (List.mem_cons_of_mem _ zt_f_X5_15)) (fun _ h9 => h9) rfl hin rfl (by decide +kernel) rfl rfl (Nat.le_of_ble_eq_true rfl) dX5_init_19 (fun H locs hP hD hS => ?_)
  have hP : va_P D vwCl [(h0, .inr (5, [.null, .null, .ref q1, .ref q2, .int 0, .int 0, .int 0, .int 0, .int 0, .int 0, .int 0, .int 0])), (q1, .inl (cI, 400, .inl (fun _ => 0))), (q2, .inl (cI, 400, .inl (fun _ => 0)))] H := hP
  have hD : va_D A [(h0, .inr (5, [.null, .null, .ref q1, .ref q2, .int 0, .int 0, .int 0, .int 0, .int 0, .int 0, .int 0, .int 0])), (q1, .inl (cI, 400, .inl (fun _ => 0))), (q2, .inl (cI, 400, .inl (fun _ => 0)))] := hD
  refine lv_aload_n hx hb dX5_init_22 rfl (lv_at hl 0 rfl) ?_
  refine lv_iconst (v := (-1 : Int32)) hx hb dX5_init_23 (by decide) ?_
  refine va_put (D := D) (ci := 5) (v := .int ((-1 : Int32))) (ty := .int) (C := RX5) (T := TX5) (N := 12) hx hb hts (zi_X5 _) tyX5 tyX5_ok nmX5 hown hK hP hD hS 0 rfl rfl 11 (by decide) (hts _ (List.mem_cons_of_mem _ zt_f_X5_18)) (fun _ h9 => h9) rfl (by decide +kernel) rfl rfl (Nat.le_of_ble_eq_true rfl) dX5_init_24 (fun H locs hP hD hS => ?_)
  have hP : va_P D vwCl [(h0, .inr (5, [.null, .null, .ref q1, .ref q2, .int 0, .int 0, .int 0, .int 0, .int 0, .int 0, .int 0, .int ((-1 : Int32))])), (q1, .inl (cI, 400, .inl (fun _ => 0))), (q2, .inl (cI, 400, .inl (fun _ => 0)))] H := hP
  have hD : va_D A [(h0, .inr (5, [.null, .null, .ref q1, .ref q2, .int 0, .int 0, .int 0, .int 0, .int 0, .int 0, .int 0, .int ((-1 : Int32))])), (q1, .inl (cI, 400, .inl (fun _ => 0))), (q2, .inl (cI, 400, .inl (fun _ => 0)))] := hD
  refine lv_aload_n hx hb dX5_init_27 rfl (lv_at hl 0 rfl) ?_
  refine lv_aload_n hx hb dX5_init_28 rfl (lv_at hl 1 rfl) ?_
  refine va_putF (D := D) (ci := 5) (v := .ref r1) (ty := (.object "ModalDesk$ByteRow")) (C := RX5) (T := TX5) (N := 12) hx hb hts (zi_X5 _) tyX5 tyX5_ok nmX5 hown hK hP hD hS 0 rfl rfl 0 (by decide) (hts _ (List.mem_cons_of_mem _ zt_f_X5_22)) (fun _ h9 => h9) rfl hin rfl (by decide +kernel) rfl rfl (Nat.le_of_ble_eq_true rfl) dX5_init_29 (fun H locs hP hD hS => ?_)
  have hP : va_P D vwCl [(h0, .inr (5, [.ref r1, .null, .ref q1, .ref q2, .int 0, .int 0, .int 0, .int 0, .int 0, .int 0, .int 0, .int ((-1 : Int32))])), (q1, .inl (cI, 400, .inl (fun _ => 0))), (q2, .inl (cI, 400, .inl (fun _ => 0)))] H := hP
  have hD : va_D A [(h0, .inr (5, [.ref r1, .null, .ref q1, .ref q2, .int 0, .int 0, .int 0, .int 0, .int 0, .int 0, .int 0, .int ((-1 : Int32))])), (q1, .inl (cI, 400, .inl (fun _ => 0))), (q2, .inl (cI, 400, .inl (fun _ => 0)))] := hD
  refine lv_aload_n hx hb dX5_init_32 rfl (lv_at hl 0 rfl) ?_
  refine lv_aload_n hx hb dX5_init_33 rfl (lv_at hl 2 rfl) ?_
  refine va_putF (D := D) (ci := 5) (v := .ref r2) (ty := (.object "ModalDesk$Draft")) (C := RX5) (T := TX5) (N := 12) hx hb hts (zi_X5 _) tyX5 tyX5_ok nmX5 hown hK hP hD hS 0 rfl rfl 1 (by decide) (hts _ (List.mem_cons_of_mem _ zt_f_X5_26)) (fun _ h9 => h9) rfl hin rfl (by decide +kernel) rfl rfl (Nat.le_of_ble_eq_true rfl) dX5_init_34 (fun H locs hP hD hS => ?_)
  have hP : va_P D vwCl [(h0, .inr (5, [.ref r1, .ref r2, .ref q1, .ref q2, .int 0, .int 0, .int 0, .int 0, .int 0, .int 0, .int 0, .int ((-1 : Int32))])), (q1, .inl (cI, 400, .inl (fun _ => 0))), (q2, .inl (cI, 400, .inl (fun _ => 0)))] H := hP
  have hD : va_D A [(h0, .inr (5, [.ref r1, .ref r2, .ref q1, .ref q2, .int 0, .int 0, .int 0, .int 0, .int 0, .int 0, .int 0, .int ((-1 : Int32))])), (q1, .inl (cI, 400, .inl (fun _ => 0))), (q2, .inl (cI, 400, .inl (fun _ => 0)))] := hD
  exact W.vret hx hb hr (fun t ht hW => ⟨⟨(), rfl, trivial, q1, q2, by rw [ht]; exact hP, va_K.moved hW.alike hK, hD⟩, hS.F ht⟩) hS.2.2 dX5_init_37
theorem zt_m_X9_3 : Cond.methodLink RX9 3 objectInit ∈ mq_T := mq_T_mem (mq_t1 (List.mem_of_getElem? (i := 179) rfl)) rfl
/-! the constructor ModalDesk$Writer(LModalDesk$ByteRow;LModalDesk$Stock;)V -/
def zr_X9_init : Room := { frames := 1, cells := 1, slots := 300, locals := 12 }
def zc_X9_init : Cond := .code yX9_init cX9_init 3 none
set_option maxHeartbeats 4000000 in
set_option maxRecDepth 100000 in
theorem zn_X9_init (l : Launch) (D : va_G) (cI cL cB cZ : ClassId) (sz h0 : Nat) (r1 : Nat) (r2 : Nat) : Met l yX9_init (zc_X9_init :: mq_T) zr_X9_init (va_Pc [.ref h0, .ref r1, .ref r2] (fun U => U.heap.size = sz ∧ va_P D vwCl [(h0, .inr (9, [.null, .null, .null, .int 0]))] U.heap ∧ va_K D vwCl (mq_tys cI cL cB cZ) U ∧ va_D (fun _ => True) [(h0, .inr (9, [.null, .null, .null, .int 0]))])) (va_Qv (fun _ : Unit => True) (fun _ t => ∃ (q1 : Nat), va_P D vwCl [(h0, .inr (9, [.ref r1, .ref r2, .ref q1, .int 0])), (q1, .inl (cI, 300, .inl (fun _ => 0)))] t.heap ∧ va_K D vwCl (mq_tys cI cL cB cZ) t ∧ va_D (va_A [(h0, .inr (9, [.null, .null, .null, .int 0]))] sz) [(h0, .inr (9, [.ref r1, .ref r2, .ref q1, .int 0])), (q1, .inl (cI, 300, .inl (fun _ => 0)))]) (va_A [(h0, .inr (9, [.null, .null, .null, .int 0]))] sz)) 1 300 (va_A [(h0, .inr (9, [.null, .null, .null, .int 0]))] sz) := by
  refine Met.ofW (cc := cX9_init) (maxL := 3) (ret := none) (by decide) rfl ?_
  intro p e s m args below meth c s₁ B hml hv
  obtain ⟨rfl, hsz, hP, hK, hD0⟩ := hv
  have hx := B.exec
  have hb := B.bytes
  have hr := B.returns
  have hlocks := B.notSynchronized
  have hin : meth.name = "<init>" := (name_of_methodNamed B.named B.method).1
  have hts := atoms_spec (ws := zc_X9_init :: mq_T) B.pre
  have hown : s.vm.findClass RX9 = some m.cls := findClass_of_methodNamed B.named
  subst hsz
  have hD := hD0.self (sz := s.heap.size)
  generalize hAe : va_A [(h0, .inr (9, [.null, .null, .null, .int 0]))] s.heap.size = A at hD ⊢
  have hA : ∀ q : Nat, s.heap.size ≤ q → A q := fun q h => by rw [← hAe]; exact Or.inr h
  have hS : va_S A s.heap s.heap [] := va_S.rf
  have hP : va_P D vwCl [(h0, .inr (9, [.null, .null, .null, .int 0]))] s.heap := hP
  have hl := lv_entry ([.ref h0, .ref r1, .ref r2]) (n := 3) (Nat.le_of_ble_eq_true rfl)
  rw [lg_entry_eq]
  generalize (lg_sl ([.ref h0, .ref r1, .ref r2]) ++ List.replicate (3 - (lg_sl ([.ref h0, .ref r1, .ref r2])).length) Slot.unset).toArray = ls at hl ⊢
  have hl : lv_has ls 3 [(0, .ref h0), (1, .ref r1), (2, .ref r2)] := hl
  refine lv_aload_n hx hb dX9_init_0 rfl (lv_at hl 0 rfl) ?_
  refine W.objInit hx hb hown (hts _ (List.mem_cons_of_mem _ zt_m_X9_3)) (hts _ (List.mem_cons_of_mem _ zt_obj_i)) (hts _ (List.mem_cons_of_mem _ zt_obj_c)) rfl (by rw [hml]; exact hl.1) rfl dX9_init_1 (Nat.le_of_ble_eq_true rfl) (Nat.le_of_ble_eq_true rfl) ?_
  refine W.eq (g2 := F0 m 4 ls []) rfl ?_
  refine lv_aload_n hx hb dX9_init_4 rfl (lv_at hl 0 rfl) ?_
  refine lv_sipush (v := (300 : Int32)) hx hb dX9_init_5 (by decide) ?_
  refine mq_newaI (N' := 300) (n := (300 : Int32)) hx hb (hts _ (List.mem_cons_of_mem _ zt_arr_I)) hK hP hD hS hA (by decide) (by decide) (by decide) (Nat.le_of_ble_eq_true rfl) (Nat.le_of_ble_eq_true rfl) dX9_init_8 (fun q1 H hP hD hS => ?_)
  have hP : va_P D vwCl [(h0, .inr (9, [.null, .null, .null, .int 0])), (q1, .inl (cI, 300, .inl (fun _ => 0)))] H := hP
  have hD : va_D A [(h0, .inr (9, [.null, .null, .null, .int 0])), (q1, .inl (cI, 300, .inl (fun _ => 0)))] := hD
  refine va_putF (D := D) (ci := 9) (v := .ref q1) (ty := (.array .int)) (C := RX9) (T := TX9) (N := 4) hx hb hts (zi_X9 _) tyX9 tyX9_ok nmX9 hown hK hP hD hS 0 rfl rfl 2 (by decide) (hts _ (List.mem_cons_of_mem _ zt_f_X9_9)) (fun _ h9 => h9) rfl hin rfl (by decide +kernel) rfl rfl (Nat.le_of_ble_eq_true rfl) dX9_init_10 (fun H locs hP hD hS => ?_)
  have hP : va_P D vwCl [(h0, .inr (9, [.null, .null, .ref q1, .int 0])), (q1, .inl (cI, 300, .inl (fun _ => 0)))] H := hP
  have hD : va_D A [(h0, .inr (9, [.null, .null, .ref q1, .int 0])), (q1, .inl (cI, 300, .inl (fun _ => 0)))] := hD
  refine lv_aload_n hx hb dX9_init_13 rfl (lv_at hl 0 rfl) ?_
  refine lv_aload_n hx hb dX9_init_14 rfl (lv_at hl 1 rfl) ?_
  refine va_putF (D := D) (ci := 9) (v := .ref r1) (ty := (.object "ModalDesk$ByteRow")) (C := RX9) (T := TX9) (N := 4) hx hb hts (zi_X9 _) tyX9 tyX9_ok nmX9 hown hK hP hD hS 0 rfl rfl 0 (by decide) (hts _ (List.mem_cons_of_mem _ zt_f_X9_15)) (fun _ h9 => h9) rfl hin rfl (by decide +kernel) rfl rfl (Nat.le_of_ble_eq_true rfl) dX9_init_15 (fun H locs hP hD hS => ?_)
  have hP : va_P D vwCl [(h0, .inr (9, [.ref r1, .null, .ref q1, .int 0])), (q1, .inl (cI, 300, .inl (fun _ => 0)))] H := hP
  have hD : va_D A [(h0, .inr (9, [.ref r1, .null, .ref q1, .int 0])), (q1, .inl (cI, 300, .inl (fun _ => 0)))] := hD
  refine lv_aload_n hx hb dX9_init_18 rfl (lv_at hl 0 rfl) ?_
  refine lv_aload_n hx hb dX9_init_19 rfl (lv_at hl 2 rfl) ?_
  refine va_putF (D := D) (ci := 9) (v := .ref r2) (ty := (.object "ModalDesk$Stock")) (C := RX9) (T := TX9) (N := 4) hx hb hts (zi_X9 _) tyX9 tyX9_ok nmX9 hown hK hP hD hS 0 rfl rfl 1 (by decide) (hts _ (List.mem_cons_of_mem _ zt_f_X9_19)) (fun _ h9 => h9) rfl hin rfl (by decide +kernel) rfl rfl (Nat.le_of_ble_eq_true rfl) dX9_init_20 (fun H locs hP hD hS => ?_)
  have hP : va_P D vwCl [(h0, .inr (9, [.ref r1, .ref r2, .ref q1, .int 0])), (q1, .inl (cI, 300, .inl (fun _ => 0)))] H := hP
  have hD : va_D A [(h0, .inr (9, [.ref r1, .ref r2, .ref q1, .int 0])), (q1, .inl (cI, 300, .inl (fun _ => 0)))] := hD
  exact W.vret hx hb hr (fun t ht hW => ⟨⟨(), rfl, trivial, q1, by rw [ht]; exact hP, va_K.moved hW.alike hK, hD⟩, hS.F ht⟩) hS.2.2 dX9_init_23
theorem zt_m_X8_3 : Cond.methodLink RX8 3 objectInit ∈ mq_T := mq_T_mem (mq_t1 (List.mem_of_getElem? (i := 200) rfl)) rfl
theorem zt_c_X8_9 : Cond.classLink RX8 9 RX6 ∈ mq_T := mq_T_mem (mq_t1 (List.mem_of_getElem? (i := 201) rfl)) rfl
theorem zt_inst_X6 : Cond.instantiable RX6 1 ∈ mq_T := mq_T_mem (mq_t1 (List.mem_of_getElem? (i := 48) rfl)) rfl
theorem zt_m_X8_11 : Cond.methodLink RX8 11 yX6_init ∈ mq_T := mq_T_mem (mq_t1 (List.mem_of_getElem? (i := 202) rfl)) rfl
theorem zt_X6_init_i : Cond.instanceMethod yX6_init ∈ mq_T := mq_T_mem (mq_t1 (List.mem_of_getElem? (i := 50) rfl)) rfl
theorem zt_X6_init_c : zc_X6_init ∈ mq_T := mq_T_mem (mq_t1 (List.mem_of_getElem? (i := 51) rfl)) rfl
theorem zt_c_X8_46 : Cond.classLink RX8 46 RX3 ∈ mq_T := mq_T_mem (mq_t1 (List.mem_of_getElem? (i := 203) rfl)) rfl
theorem zt_inst_X3 : Cond.instantiable RX3 2 ∈ mq_T := mq_T_mem (mq_t1 (List.mem_of_getElem? (i := 204) rfl)) rfl
theorem zt_X3_init_i : Cond.instanceMethod yX3_init ∈ mq_T := mq_T_mem (mq_t1 (List.mem_of_getElem? (i := 206) rfl)) rfl
theorem zt_X3_init_c : zc_X3_init ∈ mq_T := mq_T_mem (mq_t1 (List.mem_of_getElem? (i := 207) rfl)) rfl
/-! the constructor ModalDesk$Tableau(LModalDesk$Stock;LModalDesk$Sets;)V -/
def zr_X8_init : Room := { frames := 2, cells := 15, slots := 2913, locals := 42 }
def zc_X8_init : Cond := .code yX8_init cX8_init 3 none
set_option maxHeartbeats 4000000 in
set_option maxRecDepth 100000 in
theorem zn_X8_init (l : Launch) (D : va_G) (cI cL cB cZ : ClassId) (sz h0 : Nat) (r1 : Nat) (r2 : Nat) : Met l yX8_init (zc_X8_init :: mq_T) zr_X8_init (va_Pc [.ref h0, .ref r1, .ref r2] (fun U => U.heap.size = sz ∧ va_P D vwCl [(h0, .inr (8, [.null, .null, .null, .null, .null, .null, .null, .null, .null, .null, .null, .null, .null, .int 0, .int 0, .int 0, .int 0, .int 0, .int 0]))] U.heap ∧ va_K D vwCl (mq_tys cI cL cB cZ) U ∧ va_D (fun _ => True) [(h0, .inr (8, [.null, .null, .null, .null, .null, .null, .null, .null, .null, .null, .null, .null, .null, .int 0, .int 0, .int 0, .int 0, .int 0, .int 0]))] ∧ mq_N U)) (va_Qv (fun _ : Unit => True) (fun _ t => ∃ (q1 q2 q3 q4 q5 q6 q7 q8 q9 q10 q11 q12 q13 q14 q15 : Nat), va_P D vwCl [(h0, .inr (8, [.ref r1, .ref q1, .ref q3, .ref q5, .ref q7, .ref q8, .ref q9, .ref q10, .ref q11, .ref q12, .ref r2, .ref q13, .ref q15, .int 0, .int 0, .int 0, .int 0, .int 0, .int 0])), (q1, .inr (6, [.ref q2])), (q2, .inl (cL, 305, .inr (.inl (fun _ => 0)))), (q3, .inr (6, [.ref q4])), (q4, .inl (cL, 300, .inr (.inl (fun _ => 0)))), (q5, .inr (6, [.ref q6])), (q6, .inl (cL, 300, .inr (.inl (fun _ => 0)))), (q7, .inl (cI, 60, .inl (fun _ => 0))), (q8, .inl (cI, 60, .inl (fun _ => 0))), (q9, .inl (cI, 60, .inl (fun _ => 0))), (q10, .inl (cI, 60, .inl (fun _ => 0))), (q11, .inl (cL, 60, .inr (.inl (fun _ => 0)))), (q12, .inl (cI, 400, .inl (fun _ => 0))), (q13, .inr (3, [.ref q14, .int 0])), (q14, .inl (cI, 1299, .inl (fun _ => 0))), (q15, .inl (cI, 4, .inl (fun _ => 0)))] t.heap ∧ va_K D vwCl (mq_tys cI cL cB cZ) t ∧ va_D (va_A [(h0, .inr (8, [.null, .null, .null, .null, .null, .null, .null, .null, .null, .null, .null, .null, .null, .int 0, .int 0, .int 0, .int 0, .int 0, .int 0]))] sz) [(h0, .inr (8, [.ref r1, .ref q1, .ref q3, .ref q5, .ref q7, .ref q8, .ref q9, .ref q10, .ref q11, .ref q12, .ref r2, .ref q13, .ref q15, .int 0, .int 0, .int 0, .int 0, .int 0, .int 0])), (q1, .inr (6, [.ref q2])), (q2, .inl (cL, 305, .inr (.inl (fun _ => 0)))), (q3, .inr (6, [.ref q4])), (q4, .inl (cL, 300, .inr (.inl (fun _ => 0)))), (q5, .inr (6, [.ref q6])), (q6, .inl (cL, 300, .inr (.inl (fun _ => 0)))), (q7, .inl (cI, 60, .inl (fun _ => 0))), (q8, .inl (cI, 60, .inl (fun _ => 0))), (q9, .inl (cI, 60, .inl (fun _ => 0))), (q10, .inl (cI, 60, .inl (fun _ => 0))), (q11, .inl (cL, 60, .inr (.inl (fun _ => 0)))), (q12, .inl (cI, 400, .inl (fun _ => 0))), (q13, .inr (3, [.ref q14, .int 0])), (q14, .inl (cI, 1299, .inl (fun _ => 0))), (q15, .inl (cI, 4, .inl (fun _ => 0)))]) (va_A [(h0, .inr (8, [.null, .null, .null, .null, .null, .null, .null, .null, .null, .null, .null, .null, .null, .int 0, .int 0, .int 0, .int 0, .int 0, .int 0]))] sz)) 15 2913 (va_A [(h0, .inr (8, [.null, .null, .null, .null, .null, .null, .null, .null, .null, .null, .null, .null, .null, .int 0, .int 0, .int 0, .int 0, .int 0, .int 0]))] sz) := by
  refine Met.ofW (cc := cX8_init) (maxL := 3) (ret := none) (by decide) rfl ?_
  intro p e s m args below meth c s₁ B hml hv
  obtain ⟨rfl, hsz, hP, hK, hD0, hNn⟩ := hv
  have hx := B.exec
  have hb := B.bytes
  have hr := B.returns
  have hlocks := B.notSynchronized
  have hin : meth.name = "<init>" := (name_of_methodNamed B.named B.method).1
  have hts := atoms_spec (ws := zc_X8_init :: mq_T) B.pre
  have hown : s.vm.findClass RX8 = some m.cls := findClass_of_methodNamed B.named
  subst hsz
  have hD := hD0.self (sz := s.heap.size)
  generalize hAe : va_A [(h0, .inr (8, [.null, .null, .null, .null, .null, .null, .null, .null, .null, .null, .null, .null, .null, .int 0, .int 0, .int 0, .int 0, .int 0, .int 0]))] s.heap.size = A at hD ⊢
  have hA : ∀ q : Nat, s.heap.size ≤ q → A q := fun q h => by rw [← hAe]; exact Or.inr h
  have hS : va_S A s.heap s.heap [] := va_S.rf
  have hP : va_P D vwCl [(h0, .inr (8, [.null, .null, .null, .null, .null, .null, .null, .null, .null, .null, .null, .null, .null, .int 0, .int 0, .int 0, .int 0, .int 0, .int 0]))] s.heap := hP
  have hl := lv_entry ([.ref h0, .ref r1, .ref r2]) (n := 3) (Nat.le_of_ble_eq_true rfl)
  rw [lg_entry_eq]
  generalize (lg_sl ([.ref h0, .ref r1, .ref r2]) ++ List.replicate (3 - (lg_sl ([.ref h0, .ref r1, .ref r2])).length) Slot.unset).toArray = ls at hl ⊢
  have hl : lv_has ls 3 [(0, .ref h0), (1, .ref r1), (2, .ref r2)] := hl
  refine lv_aload_n hx hb dX8_init_0 rfl (lv_at hl 0 rfl) ?_
  refine W.objInit hx hb hown (hts _ (List.mem_cons_of_mem _ zt_m_X8_3)) (hts _ (List.mem_cons_of_mem _ zt_obj_i)) (hts _ (List.mem_cons_of_mem _ zt_obj_c)) rfl (by rw [hml]; exact hl.1) rfl dX8_init_1 (Nat.le_of_ble_eq_true rfl) (Nat.le_of_ble_eq_true rfl) ?_
  refine W.eq (g2 := F0 m 4 ls []) rfl ?_
  refine lv_aload_n hx hb dX8_init_4 rfl (lv_at hl 0 rfl) ?_
  refine va_new (ci := 6) (fs := [.null]) (C := RX6) (T := TX6) (N := 1) hx hb hts (zi_X6 _) tyX6 tyX6_ok hown (hts _ (List.mem_cons_of_mem _ zt_c_X8_9)) (hts _ (List.mem_cons_of_mem _ zt_inst_X6)) (hts _ (List.mem_cons_of_mem _ zt_ini_X6)) hK hP hD hS hA rfl (by decide +kernel) (Nat.le_of_ble_eq_true rfl) (Nat.le_of_ble_eq_true rfl) dX8_init_5 (fun q1 H hP hD hS => ?_)
  have hP : va_P D vwCl [(h0, .inr (8, [.null, .null, .null, .null, .null, .null, .null, .null, .null, .null, .null, .null, .null, .int 0, .int 0, .int 0, .int 0, .int 0, .int 0])), (q1, .inr (6, [.null]))] H := hP
  have hD : va_D A [(h0, .inr (8, [.null, .null, .null, .null, .null, .null, .null, .null, .null, .null, .null, .null, .null, .int 0, .int 0, .int 0, .int 0, .int 0, .int 0])), (q1, .inr (6, [.null]))] := hD
  refine lv_dup hx hb dX8_init_8 rfl ?_
  refine lv_bipush (v := (61 : Int32)) hx hb dX8_init_9 (by decide) ?_
  have hPc := hP.sub (ws' := [(q1, .inr (6, [.null]))]) [1] rfl
  have hDc := hD.sub (ws' := [(q1, .inr (6, [.null]))]) [1] (by decide) rfl
  have hFc := va_free (wc := [(q1, .inr (6, [.null]))]) hD hS hA [1] rfl
  refine va_callv (va_runI (As := [.int ((61 : Int32))]) (rest := [.ref q1, .ref h0]) ⟨hx, hb, hml, hown, hts⟩ (zn_X6_init l D cI cL cB cZ H.size q1 (61 : Int32) 305 (by decide) (by decide) (by decide)) (cwI 1 hts (mq_goodL (c1 := zc_X8_init) (ws := zc_X6_init :: mq_T) (fun w hw => (List.mem_cons.mp hw).elim (fun e => e ▸ zt_X6_init_c) id)) rfl rfl rfl (hts _ (List.mem_cons_of_mem _ zt_ini_X6)) (hts _ (List.mem_cons_of_mem _ zt_m_X8_11)) (hts _ (List.mem_cons_of_mem _ zt_X6_init_i)) rfl (by decide +kernel) ⟨Nat.le_of_ble_eq_true rfl, Nat.le_of_ble_eq_true rfl⟩) ⟨fun a U g mk q => ⟨q.1, q.2.1, q.2.2.1, va_K.moved (u := U) (U := U.calling g mk a) (Vm.Alike.refl U.vm) q.2.2.2.1, q.2.2.2.2⟩, fun U hU hW => ⟨rfl, by rw [hU], by rw [hU]; exact hPc, va_K.moved hW.alike hK, hDc.weaken (fun _ _ _ _ => trivial)⟩⟩ rfl rfl hl.1 rfl (lv_room (Nat.le_of_ble_eq_true rfl)) dX8_init_11 ⟨Nat.le_of_ble_eq_true rfl, Nat.le_of_ble_eq_true rfl⟩) hS (fun q _ h => hFc q h) hFc (fun u t H1 locs ht hvm hw hB hz1 hk1 hS => ?_)
  obtain ⟨q2, hP1, hK1, hD1⟩ := hB
  rw [ht] at hP1
  obtain ⟨hP, hD⟩ := va_join (wr := [(h0, .inr (8, [.null, .null, .null, .null, .null, .null, .null, .null, .null, .null, .null, .null, .null, .int 0, .int 0, .int 0, .int 0, .int 0, .int 0]))]) (w1 := [(q1, .inr (6, [.ref q2])), (q2, .inl (cL, 305, .inr (.inl (fun _ => 0))))]) hP hD [1] [0] rfl rfl (by decide) (by decide) hk1 hFc hP1 hD1
  generalize H1 = H at hP hS ⊢
  have hP : va_P D vwCl [(h0, .inr (8, [.null, .null, .null, .null, .null, .null, .null, .null, .null, .null, .null, .null, .null, .int 0, .int 0, .int 0, .int 0, .int 0, .int 0])), (q1, .inr (6, [.ref q2])), (q2, .inl (cL, 305, .inr (.inl (fun _ => 0))))] H := hP
  have hD : va_D A [(h0, .inr (8, [.null, .null, .null, .null, .null, .null, .null, .null, .null, .null, .null, .null, .null, .int 0, .int 0, .int 0, .int 0, .int 0, .int 0])), (q1, .inr (6, [.ref q2])), (q2, .inl (cL, 305, .inr (.inl (fun _ => 0))))] := hD
  refine va_putF (D := D) (ci := 8) (v := .ref q1) (ty := (.object "ModalDesk$Sets")) (C := RX8) (T := TX8) (N := 19) hx hb hts (zi_X8 _) tyX8 tyX8_ok nmX8 hown hK hP hD hS 0 rfl rfl 1 (by decide) (hts _ (List.mem_cons_of_mem _ zt_f_X8_14)) (fun _ h9 => h9) rfl hin rfl (by decide +kernel) rfl rfl (Nat.le_of_ble_eq_true rfl) dX8_init_14 (fun H locs hP hD hS => ?_)
  have hP : va_P D vwCl [(h0, .inr (8, [.null, .ref q1, .null, .null, .null, .null, .null, .null, .null, .null, .null, .null, .null, .int 0, .int 0, .int 0, .int 0, .int 0, .int 0])), (q1, .inr (6, [.ref q2])), (q2, .inl (cL, 305, .inr (.inl (fun _ => 0))))] H := hP
  have hD : va_D A [(h0, .inr (8, [.null, .ref q1, .null, .null, .null, .null, .null, .null, .null, .null, .null, .null, .null, .int 0, .int 0, .int 0, .int 0, .int 0, .int 0])), (q1, .inr (6, [.ref q2])), (q2, .inl (cL, 305, .inr (.inl (fun _ => 0))))] := hD
  refine lv_aload_n hx hb dX8_init_17 rfl (lv_at hl 0 rfl) ?_
  refine va_new (ci := 6) (fs := [.null]) (C := RX6) (T := TX6) (N := 1) hx hb hts (zi_X6 _) tyX6 tyX6_ok hown (hts _ (List.mem_cons_of_mem _ zt_c_X8_9)) (hts _ (List.mem_cons_of_mem _ zt_inst_X6)) (hts _ (List.mem_cons_of_mem _ zt_ini_X6)) hK hP hD hS hA rfl (by decide +kernel) (Nat.le_of_ble_eq_true rfl) (Nat.le_of_ble_eq_true rfl) dX8_init_18 (fun q3 H hP hD hS => ?_)
  have hP : va_P D vwCl [(h0, .inr (8, [.null, .ref q1, .null, .null, .null, .null, .null, .null, .null, .null, .null, .null, .null, .int 0, .int 0, .int 0, .int 0, .int 0, .int 0])), (q1, .inr (6, [.ref q2])), (q2, .inl (cL, 305, .inr (.inl (fun _ => 0)))), (q3, .inr (6, [.null]))] H := hP
  have hD : va_D A [(h0, .inr (8, [.null, .ref q1, .null, .null, .null, .null, .null, .null, .null, .null, .null, .null, .null, .int 0, .int 0, .int 0, .int 0, .int 0, .int 0])), (q1, .inr (6, [.ref q2])), (q2, .inl (cL, 305, .inr (.inl (fun _ => 0)))), (q3, .inr (6, [.null]))] := hD
  refine lv_dup hx hb dX8_init_21 rfl ?_
  refine lv_bipush (v := (60 : Int32)) hx hb dX8_init_22 (by decide) ?_
  have hPc := hP.sub (ws' := [(q3, .inr (6, [.null]))]) [3] rfl
  have hDc := hD.sub (ws' := [(q3, .inr (6, [.null]))]) [3] (by decide) rfl
  have hFc := va_free (wc := [(q3, .inr (6, [.null]))]) hD hS hA [3] rfl
  refine va_callv (va_runI (As := [.int ((60 : Int32))]) (rest := [.ref q3, .ref h0]) ⟨hx, hb, hml, hown, hts⟩ (zn_X6_init l D cI cL cB cZ H.size q3 (60 : Int32) 300 (by decide) (by decide) (by decide)) (cwI 1 hts (mq_goodL (c1 := zc_X8_init) (ws := zc_X6_init :: mq_T) (fun w hw => (List.mem_cons.mp hw).elim (fun e => e ▸ zt_X6_init_c) id)) rfl rfl rfl (hts _ (List.mem_cons_of_mem _ zt_ini_X6)) (hts _ (List.mem_cons_of_mem _ zt_m_X8_11)) (hts _ (List.mem_cons_of_mem _ zt_X6_init_i)) rfl (by decide +kernel) ⟨Nat.le_of_ble_eq_true rfl, Nat.le_of_ble_eq_true rfl⟩) ⟨fun a U g mk q => ⟨q.1, q.2.1, q.2.2.1, va_K.moved (u := U) (U := U.calling g mk a) (Vm.Alike.refl U.vm) q.2.2.2.1, q.2.2.2.2⟩, fun U hU hW => ⟨rfl, by rw [hU], by rw [hU]; exact hPc, va_K.moved hW.alike hK, hDc.weaken (fun _ _ _ _ => trivial)⟩⟩ rfl rfl hl.1 rfl (lv_room (Nat.le_of_ble_eq_true rfl)) dX8_init_24 ⟨Nat.le_of_ble_eq_true rfl, Nat.le_of_ble_eq_true rfl⟩) hS (fun q _ h => hFc q h) hFc (fun u t H1 locs ht hvm hw hB hz1 hk1 hS => ?_)
  obtain ⟨q4, hP1, hK1, hD1⟩ := hB
  rw [ht] at hP1
  obtain ⟨hP, hD⟩ := va_join (wr := [(h0, .inr (8, [.null, .ref q1, .null, .null, .null, .null, .null, .null, .null, .null, .null, .null, .null, .int 0, .int 0, .int 0, .int 0, .int 0, .int 0])), (q1, .inr (6, [.ref q2])), (q2, .inl (cL, 305, .inr (.inl (fun _ => 0))))]) (w1 := [(q3, .inr (6, [.ref q4])), (q4, .inl (cL, 300, .inr (.inl (fun _ => 0))))]) hP hD [3] [0, 1, 2] rfl rfl (by decide) (by decide) hk1 hFc hP1 hD1
  generalize H1 = H at hP hS ⊢
  have hP : va_P D vwCl [(h0, .inr (8, [.null, .ref q1, .null, .null, .null, .null, .null, .null, .null, .null, .null, .null, .null, .int 0, .int 0, .int 0, .int 0, .int 0, .int 0])), (q1, .inr (6, [.ref q2])), (q2, .inl (cL, 305, .inr (.inl (fun _ => 0)))), (q3, .inr (6, [.ref q4])), (q4, .inl (cL, 300, .inr (.inl (fun _ => 0))))] H := hP
  have hD : va_D A [(h0, .inr (8, [.null, .ref q1, .null, .null, .null, .null, .null, .null, .null, .null, .null, .null, .null, .int 0, .int 0, .int 0, .int 0, .int 0, .int 0])), (q1, .inr (6, [.ref q2])), (q2, .inl (cL, 305, .inr (.inl (fun _ => 0)))), (q3, .inr (6, [.ref q4])), (q4, .inl (cL, 300, .inr (.inl (fun _ => 0))))] := hD
  refine va_putF (D := D) (ci := 8) (v := .ref q3) (ty := (.object "ModalDesk$Sets")) (C := RX8) (T := TX8) (N := 19) hx hb hts (zi_X8 _) tyX8 tyX8_ok nmX8 hown hK hP hD hS 0 rfl rfl 2 (by decide) (hts _ (List.mem_cons_of_mem _ zt_f_X8_20)) (fun _ h9 => h9) rfl hin rfl (by decide +kernel) rfl rfl (Nat.le_of_ble_eq_true rfl) dX8_init_27 (fun H locs hP hD hS => ?_)
  have hP : va_P D vwCl [(h0, .inr (8, [.null, .ref q1, .ref q3, .null, .null, .null, .null, .null, .null, .null, .null, .null, .null, .int 0, .int 0, .int 0, .int 0, .int 0, .int 0])), (q1, .inr (6, [.ref q2])), (q2, .inl (cL, 305, .inr (.inl (fun _ => 0)))), (q3, .inr (6, [.ref q4])), (q4, .inl (cL, 300, .inr (.inl (fun _ => 0))))] H := hP
  have hD : va_D A [(h0, .inr (8, [.null, .ref q1, .ref q3, .null, .null, .null, .null, .null, .null, .null, .null, .null, .null, .int 0, .int 0, .int 0, .int 0, .int 0, .int 0])), (q1, .inr (6, [.ref q2])), (q2, .inl (cL, 305, .inr (.inl (fun _ => 0)))), (q3, .inr (6, [.ref q4])), (q4, .inl (cL, 300, .inr (.inl (fun _ => 0))))] := hD
  refine lv_aload_n hx hb dX8_init_30 rfl (lv_at hl 0 rfl) ?_
  refine va_new (ci := 6) (fs := [.null]) (C := RX6) (T := TX6) (N := 1) hx hb hts (zi_X6 _) tyX6 tyX6_ok hown (hts _ (List.mem_cons_of_mem _ zt_c_X8_9)) (hts _ (List.mem_cons_of_mem _ zt_inst_X6)) (hts _ (List.mem_cons_of_mem _ zt_ini_X6)) hK hP hD hS hA rfl (by decide +kernel) (Nat.le_of_ble_eq_true rfl) (Nat.le_of_ble_eq_true rfl) dX8_init_31 (fun q5 H hP hD hS => ?_)
  have hP : va_P D vwCl [(h0, .inr (8, [.null, .ref q1, .ref q3, .null, .null, .null, .null, .null, .null, .null, .null, .null, .null, .int 0, .int 0, .int 0, .int 0, .int 0, .int 0])), (q1, .inr (6, [.ref q2])), (q2, .inl (cL, 305, .inr (.inl (fun _ => 0)))), (q3, .inr (6, [.ref q4])), (q4, .inl (cL, 300, .inr (.inl (fun _ => 0)))), (q5, .inr (6, [.null]))] H := hP
  have hD : va_D A [(h0, .inr (8, [.null, .ref q1, .ref q3, .null, .null, .null, .null, .null, .null, .null, .null, .null, .null, .int 0, .int 0, .int 0, .int 0, .int 0, .int 0])), (q1, .inr (6, [.ref q2])), (q2, .inl (cL, 305, .inr (.inl (fun _ => 0)))), (q3, .inr (6, [.ref q4])), (q4, .inl (cL, 300, .inr (.inl (fun _ => 0)))), (q5, .inr (6, [.null]))] := hD
  refine lv_dup hx hb dX8_init_34 rfl ?_
  refine lv_bipush (v := (60 : Int32)) hx hb dX8_init_35 (by decide) ?_
  have hPc := hP.sub (ws' := [(q5, .inr (6, [.null]))]) [5] rfl
  have hDc := hD.sub (ws' := [(q5, .inr (6, [.null]))]) [5] (by decide) rfl
  have hFc := va_free (wc := [(q5, .inr (6, [.null]))]) hD hS hA [5] rfl
  refine va_callv (va_runI (As := [.int ((60 : Int32))]) (rest := [.ref q5, .ref h0]) ⟨hx, hb, hml, hown, hts⟩ (zn_X6_init l D cI cL cB cZ H.size q5 (60 : Int32) 300 (by decide) (by decide) (by decide)) (cwI 1 hts (mq_goodL (c1 := zc_X8_init) (ws := zc_X6_init :: mq_T) (fun w hw => (List.mem_cons.mp hw).elim (fun e => e ▸ zt_X6_init_c) id)) rfl rfl rfl (hts _ (List.mem_cons_of_mem _ zt_ini_X6)) (hts _ (List.mem_cons_of_mem _ zt_m_X8_11)) (hts _ (List.mem_cons_of_mem _ zt_X6_init_i)) rfl (by decide +kernel) ⟨Nat.le_of_ble_eq_true rfl, Nat.le_of_ble_eq_true rfl⟩) ⟨fun a U g mk q => ⟨q.1, q.2.1, q.2.2.1, va_K.moved (u := U) (U := U.calling g mk a) (Vm.Alike.refl U.vm) q.2.2.2.1, q.2.2.2.2⟩, fun U hU hW => ⟨rfl, by rw [hU], by rw [hU]; exact hPc, va_K.moved hW.alike hK, hDc.weaken (fun _ _ _ _ => trivial)⟩⟩ rfl rfl hl.1 rfl (lv_room (Nat.le_of_ble_eq_true rfl)) dX8_init_37 ⟨Nat.le_of_ble_eq_true rfl, Nat.le_of_ble_eq_true rfl⟩) hS (fun q _ h => hFc q h) hFc (fun u t H1 locs ht hvm hw hB hz1 hk1 hS => ?_)
  obtain ⟨q6, hP1, hK1, hD1⟩ := hB
  rw [ht] at hP1
  obtain ⟨hP, hD⟩ := va_join (wr := [(h0, .inr (8, [.null, .ref q1, .ref q3, .null, .null, .null, .null, .null, .null, .null, .null, .null, .null, .int 0, .int 0, .int 0, .int 0, .int 0, .int 0])), (q1, .inr (6, [.ref q2])), (q2, .inl (cL, 305, .inr (.inl (fun _ => 0)))), (q3, .inr (6, [.ref q4])), (q4, .inl (cL, 300, .inr (.inl (fun _ => 0))))]) (w1 := [(q5, .inr (6, [.ref q6])), (q6, .inl (cL, 300, .inr (.inl (fun _ => 0))))]) hP hD [5] [0, 1, 2, 3, 4] rfl rfl (by decide) (by decide) hk1 hFc hP1 hD1
  generalize H1 = H at hP hS ⊢
  have hP : va_P D vwCl [(h0, .inr (8, [.null, .ref q1, .ref q3, .null, .null, .null, .null, .null, .null, .null, .null, .null, .null, .int 0, .int 0, .int 0, .int 0, .int 0, .int 0])), (q1, .inr (6, [.ref q2])), (q2, .inl (cL, 305, .inr (.inl (fun _ => 0)))), (q3, .inr (6, [.ref q4])), (q4, .inl (cL, 300, .inr (.inl (fun _ => 0)))), (q5, .inr (6, [.ref q6])), (q6, .inl (cL, 300, .inr (.inl (fun _ => 0))))] H := hP
  have hD : va_D A [(h0, .inr (8, [.null, .ref q1, .ref q3, .null, .null, .null, .null, .null, .null, .null, .null, .null, .null, .int 0, .int 0, .int 0, .int 0, .int 0, .int 0])), (q1, .inr (6, [.ref q2])), (q2, .inl (cL, 305, .inr (.inl (fun _ => 0)))), (q3, .inr (6, [.ref q4])), (q4, .inl (cL, 300, .inr (.inl (fun _ => 0)))), (q5, .inr (6, [.ref q6])), (q6, .inl (cL, 300, .inr (.inl (fun _ => 0))))] := hD
  refine va_putF (D := D) (ci := 8) (v := .ref q5) (ty := (.object "ModalDesk$Sets")) (C := RX8) (T := TX8) (N := 19) hx hb hts (zi_X8 _) tyX8 tyX8_ok nmX8 hown hK hP hD hS 0 rfl rfl 3 (by decide) (hts _ (List.mem_cons_of_mem _ zt_f_X8_23)) (fun _ h9 => h9) rfl hin rfl (by decide +kernel) rfl rfl (Nat.le_of_ble_eq_true rfl) dX8_init_40 (fun H locs hP hD hS => ?_)
  have hP : va_P D vwCl [(h0, .inr (8, [.null, .ref q1, .ref q3, .ref q5, .null, .null, .null, .null, .null, .null, .null, .null, .null, .int 0, .int 0, .int 0, .int 0, .int 0, .int 0])), (q1, .inr (6, [.ref q2])), (q2, .inl (cL, 305, .inr (.inl (fun _ => 0)))), (q3, .inr (6, [.ref q4])), (q4, .inl (cL, 300, .inr (.inl (fun _ => 0)))), (q5, .inr (6, [.ref q6])), (q6, .inl (cL, 300, .inr (.inl (fun _ => 0))))] H := hP
  have hD : va_D A [(h0, .inr (8, [.null, .ref q1, .ref q3, .ref q5, .null, .null, .null, .null, .null, .null, .null, .null, .null, .int 0, .int 0, .int 0, .int 0, .int 0, .int 0])), (q1, .inr (6, [.ref q2])), (q2, .inl (cL, 305, .inr (.inl (fun _ => 0)))), (q3, .inr (6, [.ref q4])), (q4, .inl (cL, 300, .inr (.inl (fun _ => 0)))), (q5, .inr (6, [.ref q6])), (q6, .inl (cL, 300, .inr (.inl (fun _ => 0))))] := hD
  refine lv_aload_n hx hb dX8_init_43 rfl (lv_at hl 0 rfl) ?_
  refine lv_bipush (v := (60 : Int32)) hx hb dX8_init_44 (by decide) ?_
  refine mq_newaI (N' := 60) (n := (60 : Int32)) hx hb (hts _ (List.mem_cons_of_mem _ zt_arr_I)) hK hP hD hS hA (by decide) (by decide) (by decide) (Nat.le_of_ble_eq_true rfl) (Nat.le_of_ble_eq_true rfl) dX8_init_46 (fun q7 H hP hD hS => ?_)
  have hP : va_P D vwCl [(h0, .inr (8, [.null, .ref q1, .ref q3, .ref q5, .null, .null, .null, .null, .null, .null, .null, .null, .null, .int 0, .int 0, .int 0, .int 0, .int 0, .int 0])), (q1, .inr (6, [.ref q2])), (q2, .inl (cL, 305, .inr (.inl (fun _ => 0)))), (q3, .inr (6, [.ref q4])), (q4, .inl (cL, 300, .inr (.inl (fun _ => 0)))), (q5, .inr (6, [.ref q6])), (q6, .inl (cL, 300, .inr (.inl (fun _ => 0)))), (q7, .inl (cI, 60, .inl (fun _ => 0)))] H := hP
  have hD : va_D A [(h0, .inr (8, [.null, .ref q1, .ref q3, .ref q5, .null, .null, .null, .null, .null, .null, .null, .null, .null, .int 0, .int 0, .int 0, .int 0, .int 0, .int 0])), (q1, .inr (6, [.ref q2])), (q2, .inl (cL, 305, .inr (.inl (fun _ => 0)))), (q3, .inr (6, [.ref q4])), (q4, .inl (cL, 300, .inr (.inl (fun _ => 0)))), (q5, .inr (6, [.ref q6])), (q6, .inl (cL, 300, .inr (.inl (fun _ => 0)))), (q7, .inl (cI, 60, .inl (fun _ => 0)))] := hD
  refine va_putF (D := D) (ci := 8) (v := .ref q7) (ty := (.array .int)) (C := RX8) (T := TX8) (N := 19) hx hb hts (zi_X8 _) tyX8 tyX8_ok nmX8 hown hK hP hD hS 0 rfl rfl 4 (by decide) (hts _ (List.mem_cons_of_mem _ zt_f_X8_26)) (fun _ h9 => h9) rfl hin rfl (by decide +kernel) rfl rfl (Nat.le_of_ble_eq_true rfl) dX8_init_48 (fun H locs hP hD hS => ?_)
  have hP : va_P D vwCl [(h0, .inr (8, [.null, .ref q1, .ref q3, .ref q5, .ref q7, .null, .null, .null, .null, .null, .null, .null, .null, .int 0, .int 0, .int 0, .int 0, .int 0, .int 0])), (q1, .inr (6, [.ref q2])), (q2, .inl (cL, 305, .inr (.inl (fun _ => 0)))), (q3, .inr (6, [.ref q4])), (q4, .inl (cL, 300, .inr (.inl (fun _ => 0)))), (q5, .inr (6, [.ref q6])), (q6, .inl (cL, 300, .inr (.inl (fun _ => 0)))), (q7, .inl (cI, 60, .inl (fun _ => 0)))] H := hP
  have hD : va_D A [(h0, .inr (8, [.null, .ref q1, .ref q3, .ref q5, .ref q7, .null, .null, .null, .null, .null, .null, .null, .null, .int 0, .int 0, .int 0, .int 0, .int 0, .int 0])), (q1, .inr (6, [.ref q2])), (q2, .inl (cL, 305, .inr (.inl (fun _ => 0)))), (q3, .inr (6, [.ref q4])), (q4, .inl (cL, 300, .inr (.inl (fun _ => 0)))), (q5, .inr (6, [.ref q6])), (q6, .inl (cL, 300, .inr (.inl (fun _ => 0)))), (q7, .inl (cI, 60, .inl (fun _ => 0)))] := hD
  refine lv_aload_n hx hb dX8_init_51 rfl (lv_at hl 0 rfl) ?_
  refine lv_bipush (v := (60 : Int32)) hx hb dX8_init_52 (by decide) ?_
  refine mq_newaI (N' := 60) (n := (60 : Int32)) hx hb (hts _ (List.mem_cons_of_mem _ zt_arr_I)) hK hP hD hS hA (by decide) (by decide) (by decide) (Nat.le_of_ble_eq_true rfl) (Nat.le_of_ble_eq_true rfl) dX8_init_54 (fun q8 H hP hD hS => ?_)
  have hP : va_P D vwCl [(h0, .inr (8, [.null, .ref q1, .ref q3, .ref q5, .ref q7, .null, .null, .null, .null, .null, .null, .null, .null, .int 0, .int 0, .int 0, .int 0, .int 0, .int 0])), (q1, .inr (6, [.ref q2])), (q2, .inl (cL, 305, .inr (.inl (fun _ => 0)))), (q3, .inr (6, [.ref q4])), (q4, .inl (cL, 300, .inr (.inl (fun _ => 0)))), (q5, .inr (6, [.ref q6])), (q6, .inl (cL, 300, .inr (.inl (fun _ => 0)))), (q7, .inl (cI, 60, .inl (fun _ => 0))), (q8, .inl (cI, 60, .inl (fun _ => 0)))] H := hP
  have hD : va_D A [(h0, .inr (8, [.null, .ref q1, .ref q3, .ref q5, .ref q7, .null, .null, .null, .null, .null, .null, .null, .null, .int 0, .int 0, .int 0, .int 0, .int 0, .int 0])), (q1, .inr (6, [.ref q2])), (q2, .inl (cL, 305, .inr (.inl (fun _ => 0)))), (q3, .inr (6, [.ref q4])), (q4, .inl (cL, 300, .inr (.inl (fun _ => 0)))), (q5, .inr (6, [.ref q6])), (q6, .inl (cL, 300, .inr (.inl (fun _ => 0)))), (q7, .inl (cI, 60, .inl (fun _ => 0))), (q8, .inl (cI, 60, .inl (fun _ => 0)))] := hD
  refine va_putF (D := D) (ci := 8) (v := .ref q8) (ty := (.array .int)) (C := RX8) (T := TX8) (N := 19) hx hb hts (zi_X8 _) tyX8 tyX8_ok nmX8 hown hK hP hD hS 0 rfl rfl 5 (by decide) (hts _ (List.mem_cons_of_mem _ zt_f_X8_30)) (fun _ h9 => h9) rfl hin rfl (by decide +kernel) rfl rfl (Nat.le_of_ble_eq_true rfl) dX8_init_56 (fun H locs hP hD hS => ?_)
  have hP : va_P D vwCl [(h0, .inr (8, [.null, .ref q1, .ref q3, .ref q5, .ref q7, .ref q8, .null, .null, .null, .null, .null, .null, .null, .int 0, .int 0, .int 0, .int 0, .int 0, .int 0])), (q1, .inr (6, [.ref q2])), (q2, .inl (cL, 305, .inr (.inl (fun _ => 0)))), (q3, .inr (6, [.ref q4])), (q4, .inl (cL, 300, .inr (.inl (fun _ => 0)))), (q5, .inr (6, [.ref q6])), (q6, .inl (cL, 300, .inr (.inl (fun _ => 0)))), (q7, .inl (cI, 60, .inl (fun _ => 0))), (q8, .inl (cI, 60, .inl (fun _ => 0)))] H := hP
  have hD : va_D A [(h0, .inr (8, [.null, .ref q1, .ref q3, .ref q5, .ref q7, .ref q8, .null, .null, .null, .null, .null, .null, .null, .int 0, .int 0, .int 0, .int 0, .int 0, .int 0])), (q1, .inr (6, [.ref q2])), (q2, .inl (cL, 305, .inr (.inl (fun _ => 0)))), (q3, .inr (6, [.ref q4])), (q4, .inl (cL, 300, .inr (.inl (fun _ => 0)))), (q5, .inr (6, [.ref q6])), (q6, .inl (cL, 300, .inr (.inl (fun _ => 0)))), (q7, .inl (cI, 60, .inl (fun _ => 0))), (q8, .inl (cI, 60, .inl (fun _ => 0)))] := hD
  refine lv_aload_n hx hb dX8_init_59 rfl (lv_at hl 0 rfl) ?_
  refine lv_bipush (v := (60 : Int32)) hx hb dX8_init_60 (by decide) ?_
  refine mq_newaI (N' := 60) (n := (60 : Int32)) hx hb (hts _ (List.mem_cons_of_mem _ zt_arr_I)) hK hP hD hS hA (by decide) (by decide) (by decide) (Nat.le_of_ble_eq_true rfl) (Nat.le_of_ble_eq_true rfl) dX8_init_62 (fun q9 H hP hD hS => ?_)
  have hP : va_P D vwCl [(h0, .inr (8, [.null, .ref q1, .ref q3, .ref q5, .ref q7, .ref q8, .null, .null, .null, .null, .null, .null, .null, .int 0, .int 0, .int 0, .int 0, .int 0, .int 0])), (q1, .inr (6, [.ref q2])), (q2, .inl (cL, 305, .inr (.inl (fun _ => 0)))), (q3, .inr (6, [.ref q4])), (q4, .inl (cL, 300, .inr (.inl (fun _ => 0)))), (q5, .inr (6, [.ref q6])), (q6, .inl (cL, 300, .inr (.inl (fun _ => 0)))), (q7, .inl (cI, 60, .inl (fun _ => 0))), (q8, .inl (cI, 60, .inl (fun _ => 0))), (q9, .inl (cI, 60, .inl (fun _ => 0)))] H := hP
  have hD : va_D A [(h0, .inr (8, [.null, .ref q1, .ref q3, .ref q5, .ref q7, .ref q8, .null, .null, .null, .null, .null, .null, .null, .int 0, .int 0, .int 0, .int 0, .int 0, .int 0])), (q1, .inr (6, [.ref q2])), (q2, .inl (cL, 305, .inr (.inl (fun _ => 0)))), (q3, .inr (6, [.ref q4])), (q4, .inl (cL, 300, .inr (.inl (fun _ => 0)))), (q5, .inr (6, [.ref q6])), (q6, .inl (cL, 300, .inr (.inl (fun _ => 0)))), (q7, .inl (cI, 60, .inl (fun _ => 0))), (q8, .inl (cI, 60, .inl (fun _ => 0))), (q9, .inl (cI, 60, .inl (fun _ => 0)))] := hD
  refine va_putF (D := D) (ci := 8) (v := .ref q9) (ty := (.array .int)) (C := RX8) (T := TX8) (N := 19) hx hb hts (zi_X8 _) tyX8 tyX8_ok nmX8 hown hK hP hD hS 0 rfl rfl 6 (by decide) (hts _ (List.mem_cons_of_mem _ zt_f_X8_33)) (fun _ h9 => h9) rfl hin rfl (by decide +kernel) rfl rfl (Nat.le_of_ble_eq_true rfl) dX8_init_64 (fun H locs hP hD hS => ?_)
  have hP : va_P D vwCl [(h0, .inr (8, [.null, .ref q1, .ref q3, .ref q5, .ref q7, .ref q8, .ref q9, .null, .null, .null, .null, .null, .null, .int 0, .int 0, .int 0, .int 0, .int 0, .int 0])), (q1, .inr (6, [.ref q2])), (q2, .inl (cL, 305, .inr (.inl (fun _ => 0)))), (q3, .inr (6, [.ref q4])), (q4, .inl (cL, 300, .inr (.inl (fun _ => 0)))), (q5, .inr (6, [.ref q6])), (q6, .inl (cL, 300, .inr (.inl (fun _ => 0)))), (q7, .inl (cI, 60, .inl (fun _ => 0))), (q8, .inl (cI, 60, .inl (fun _ => 0))), (q9, .inl (cI, 60, .inl (fun _ => 0)))] H := hP
  have hD : va_D A [(h0, .inr (8, [.null, .ref q1, .ref q3, .ref q5, .ref q7, .ref q8, .ref q9, .null, .null, .null, .null, .null, .null, .int 0, .int 0, .int 0, .int 0, .int 0, .int 0])), (q1, .inr (6, [.ref q2])), (q2, .inl (cL, 305, .inr (.inl (fun _ => 0)))), (q3, .inr (6, [.ref q4])), (q4, .inl (cL, 300, .inr (.inl (fun _ => 0)))), (q5, .inr (6, [.ref q6])), (q6, .inl (cL, 300, .inr (.inl (fun _ => 0)))), (q7, .inl (cI, 60, .inl (fun _ => 0))), (q8, .inl (cI, 60, .inl (fun _ => 0))), (q9, .inl (cI, 60, .inl (fun _ => 0)))] := hD
  refine lv_aload_n hx hb dX8_init_67 rfl (lv_at hl 0 rfl) ?_
  refine lv_bipush (v := (60 : Int32)) hx hb dX8_init_68 (by decide) ?_
  refine mq_newaI (N' := 60) (n := (60 : Int32)) hx hb (hts _ (List.mem_cons_of_mem _ zt_arr_I)) hK hP hD hS hA (by decide) (by decide) (by decide) (Nat.le_of_ble_eq_true rfl) (Nat.le_of_ble_eq_true rfl) dX8_init_70 (fun q10 H hP hD hS => ?_)
  have hP : va_P D vwCl [(h0, .inr (8, [.null, .ref q1, .ref q3, .ref q5, .ref q7, .ref q8, .ref q9, .null, .null, .null, .null, .null, .null, .int 0, .int 0, .int 0, .int 0, .int 0, .int 0])), (q1, .inr (6, [.ref q2])), (q2, .inl (cL, 305, .inr (.inl (fun _ => 0)))), (q3, .inr (6, [.ref q4])), (q4, .inl (cL, 300, .inr (.inl (fun _ => 0)))), (q5, .inr (6, [.ref q6])), (q6, .inl (cL, 300, .inr (.inl (fun _ => 0)))), (q7, .inl (cI, 60, .inl (fun _ => 0))), (q8, .inl (cI, 60, .inl (fun _ => 0))), (q9, .inl (cI, 60, .inl (fun _ => 0))), (q10, .inl (cI, 60, .inl (fun _ => 0)))] H := hP
  have hD : va_D A [(h0, .inr (8, [.null, .ref q1, .ref q3, .ref q5, .ref q7, .ref q8, .ref q9, .null, .null, .null, .null, .null, .null, .int 0, .int 0, .int 0, .int 0, .int 0, .int 0])), (q1, .inr (6, [.ref q2])), (q2, .inl (cL, 305, .inr (.inl (fun _ => 0)))), (q3, .inr (6, [.ref q4])), (q4, .inl (cL, 300, .inr (.inl (fun _ => 0)))), (q5, .inr (6, [.ref q6])), (q6, .inl (cL, 300, .inr (.inl (fun _ => 0)))), (q7, .inl (cI, 60, .inl (fun _ => 0))), (q8, .inl (cI, 60, .inl (fun _ => 0))), (q9, .inl (cI, 60, .inl (fun _ => 0))), (q10, .inl (cI, 60, .inl (fun _ => 0)))] := hD
  refine va_putF (D := D) (ci := 8) (v := .ref q10) (ty := (.array .int)) (C := RX8) (T := TX8) (N := 19) hx hb hts (zi_X8 _) tyX8 tyX8_ok nmX8 hown hK hP hD hS 0 rfl rfl 7 (by decide) (hts _ (List.mem_cons_of_mem _ zt_f_X8_36)) (fun _ h9 => h9) rfl hin rfl (by decide +kernel) rfl rfl (Nat.le_of_ble_eq_true rfl) dX8_init_72 (fun H locs hP hD hS => ?_)
  have hP : va_P D vwCl [(h0, .inr (8, [.null, .ref q1, .ref q3, .ref q5, .ref q7, .ref q8, .ref q9, .ref q10, .null, .null, .null, .null, .null, .int 0, .int 0, .int 0, .int 0, .int 0, .int 0])), (q1, .inr (6, [.ref q2])), (q2, .inl (cL, 305, .inr (.inl (fun _ => 0)))), (q3, .inr (6, [.ref q4])), (q4, .inl (cL, 300, .inr (.inl (fun _ => 0)))), (q5, .inr (6, [.ref q6])), (q6, .inl (cL, 300, .inr (.inl (fun _ => 0)))), (q7, .inl (cI, 60, .inl (fun _ => 0))), (q8, .inl (cI, 60, .inl (fun _ => 0))), (q9, .inl (cI, 60, .inl (fun _ => 0))), (q10, .inl (cI, 60, .inl (fun _ => 0)))] H := hP
  have hD : va_D A [(h0, .inr (8, [.null, .ref q1, .ref q3, .ref q5, .ref q7, .ref q8, .ref q9, .ref q10, .null, .null, .null, .null, .null, .int 0, .int 0, .int 0, .int 0, .int 0, .int 0])), (q1, .inr (6, [.ref q2])), (q2, .inl (cL, 305, .inr (.inl (fun _ => 0)))), (q3, .inr (6, [.ref q4])), (q4, .inl (cL, 300, .inr (.inl (fun _ => 0)))), (q5, .inr (6, [.ref q6])), (q6, .inl (cL, 300, .inr (.inl (fun _ => 0)))), (q7, .inl (cI, 60, .inl (fun _ => 0))), (q8, .inl (cI, 60, .inl (fun _ => 0))), (q9, .inl (cI, 60, .inl (fun _ => 0))), (q10, .inl (cI, 60, .inl (fun _ => 0)))] := hD
  refine lv_aload_n hx hb dX8_init_75 rfl (lv_at hl 0 rfl) ?_
  refine lv_bipush (v := (60 : Int32)) hx hb dX8_init_76 (by decide) ?_
  refine mq_newaJ (N' := 60) (n := (60 : Int32)) hx hb (hts _ (List.mem_cons_of_mem _ zt_arr_J)) hK hP hD hS hA (by decide) (by decide) (by decide) (Nat.le_of_ble_eq_true rfl) (Nat.le_of_ble_eq_true rfl) dX8_init_78 (fun q11 H hP hD hS => ?_)
  have hP : va_P D vwCl [(h0, .inr (8, [.null, .ref q1, .ref q3, .ref q5, .ref q7, .ref q8, .ref q9, .ref q10, .null, .null, .null, .null, .null, .int 0, .int 0, .int 0, .int 0, .int 0, .int 0])), (q1, .inr (6, [.ref q2])), (q2, .inl (cL, 305, .inr (.inl (fun _ => 0)))), (q3, .inr (6, [.ref q4])), (q4, .inl (cL, 300, .inr (.inl (fun _ => 0)))), (q5, .inr (6, [.ref q6])), (q6, .inl (cL, 300, .inr (.inl (fun _ => 0)))), (q7, .inl (cI, 60, .inl (fun _ => 0))), (q8, .inl (cI, 60, .inl (fun _ => 0))), (q9, .inl (cI, 60, .inl (fun _ => 0))), (q10, .inl (cI, 60, .inl (fun _ => 0))), (q11, .inl (cL, 60, .inr (.inl (fun _ => 0))))] H := hP
  have hD : va_D A [(h0, .inr (8, [.null, .ref q1, .ref q3, .ref q5, .ref q7, .ref q8, .ref q9, .ref q10, .null, .null, .null, .null, .null, .int 0, .int 0, .int 0, .int 0, .int 0, .int 0])), (q1, .inr (6, [.ref q2])), (q2, .inl (cL, 305, .inr (.inl (fun _ => 0)))), (q3, .inr (6, [.ref q4])), (q4, .inl (cL, 300, .inr (.inl (fun _ => 0)))), (q5, .inr (6, [.ref q6])), (q6, .inl (cL, 300, .inr (.inl (fun _ => 0)))), (q7, .inl (cI, 60, .inl (fun _ => 0))), (q8, .inl (cI, 60, .inl (fun _ => 0))), (q9, .inl (cI, 60, .inl (fun _ => 0))), (q10, .inl (cI, 60, .inl (fun _ => 0))), (q11, .inl (cL, 60, .inr (.inl (fun _ => 0))))] := hD
  refine va_putF (D := D) (ci := 8) (v := .ref q11) (ty := (.array .long)) (C := RX8) (T := TX8) (N := 19) hx hb hts (zi_X8 _) tyX8 tyX8_ok nmX8 hown hK hP hD hS 0 rfl rfl 8 (by decide) (hts _ (List.mem_cons_of_mem _ zt_f_X8_39)) (fun _ h9 => h9) rfl hin rfl (by decide +kernel) rfl rfl (Nat.le_of_ble_eq_true rfl) dX8_init_80 (fun H locs hP hD hS => ?_)
  have hP : va_P D vwCl [(h0, .inr (8, [.null, .ref q1, .ref q3, .ref q5, .ref q7, .ref q8, .ref q9, .ref q10, .ref q11, .null, .null, .null, .null, .int 0, .int 0, .int 0, .int 0, .int 0, .int 0])), (q1, .inr (6, [.ref q2])), (q2, .inl (cL, 305, .inr (.inl (fun _ => 0)))), (q3, .inr (6, [.ref q4])), (q4, .inl (cL, 300, .inr (.inl (fun _ => 0)))), (q5, .inr (6, [.ref q6])), (q6, .inl (cL, 300, .inr (.inl (fun _ => 0)))), (q7, .inl (cI, 60, .inl (fun _ => 0))), (q8, .inl (cI, 60, .inl (fun _ => 0))), (q9, .inl (cI, 60, .inl (fun _ => 0))), (q10, .inl (cI, 60, .inl (fun _ => 0))), (q11, .inl (cL, 60, .inr (.inl (fun _ => 0))))] H := hP
  have hD : va_D A [(h0, .inr (8, [.null, .ref q1, .ref q3, .ref q5, .ref q7, .ref q8, .ref q9, .ref q10, .ref q11, .null, .null, .null, .null, .int 0, .int 0, .int 0, .int 0, .int 0, .int 0])), (q1, .inr (6, [.ref q2])), (q2, .inl (cL, 305, .inr (.inl (fun _ => 0)))), (q3, .inr (6, [.ref q4])), (q4, .inl (cL, 300, .inr (.inl (fun _ => 0)))), (q5, .inr (6, [.ref q6])), (q6, .inl (cL, 300, .inr (.inl (fun _ => 0)))), (q7, .inl (cI, 60, .inl (fun _ => 0))), (q8, .inl (cI, 60, .inl (fun _ => 0))), (q9, .inl (cI, 60, .inl (fun _ => 0))), (q10, .inl (cI, 60, .inl (fun _ => 0))), (q11, .inl (cL, 60, .inr (.inl (fun _ => 0))))] := hD
  refine lv_aload_n hx hb dX8_init_83 rfl (lv_at hl 0 rfl) ?_
  refine lv_sipush (v := (400 : Int32)) hx hb dX8_init_84 (by decide) ?_
  refine mq_newaI (N' := 400) (n := (400 : Int32)) hx hb (hts _ (List.mem_cons_of_mem _ zt_arr_I)) hK hP hD hS hA (by decide) (by decide) (by decide) (Nat.le_of_ble_eq_true rfl) (Nat.le_of_ble_eq_true rfl) dX8_init_87 (fun q12 H hP hD hS => ?_)
  have hP : va_P D vwCl [(h0, .inr (8, [.null, .ref q1, .ref q3, .ref q5, .ref q7, .ref q8, .ref q9, .ref q10, .ref q11, .null, .null, .null, .null, .int 0, .int 0, .int 0, .int 0, .int 0, .int 0])), (q1, .inr (6, [.ref q2])), (q2, .inl (cL, 305, .inr (.inl (fun _ => 0)))), (q3, .inr (6, [.ref q4])), (q4, .inl (cL, 300, .inr (.inl (fun _ => 0)))), (q5, .inr (6, [.ref q6])), (q6, .inl (cL, 300, .inr (.inl (fun _ => 0)))), (q7, .inl (cI, 60, .inl (fun _ => 0))), (q8, .inl (cI, 60, .inl (fun _ => 0))), (q9, .inl (cI, 60, .inl (fun _ => 0))), (q10, .inl (cI, 60, .inl (fun _ => 0))), (q11, .inl (cL, 60, .inr (.inl (fun _ => 0)))), (q12, .inl (cI, 400, .inl (fun _ => 0)))] H := hP
  have hD : va_D A [(h0, .inr (8, [.null, .ref q1, .ref q3, .ref q5, .ref q7, .ref q8, .ref q9, .ref q10, .ref q11, .null, .null, .null, .null, .int 0, .int 0, .int 0, .int 0, .int 0, .int 0])), (q1, .inr (6, [.ref q2])), (q2, .inl (cL, 305, .inr (.inl (fun _ => 0)))), (q3, .inr (6, [.ref q4])), (q4, .inl (cL, 300, .inr (.inl (fun _ => 0)))), (q5, .inr (6, [.ref q6])), (q6, .inl (cL, 300, .inr (.inl (fun _ => 0)))), (q7, .inl (cI, 60, .inl (fun _ => 0))), (q8, .inl (cI, 60, .inl (fun _ => 0))), (q9, .inl (cI, 60, .inl (fun _ => 0))), (q10, .inl (cI, 60, .inl (fun _ => 0))), (q11, .inl (cL, 60, .inr (.inl (fun _ => 0)))), (q12, .inl (cI, 400, .inl (fun _ => 0)))] := hD
  refine va_putF (D := D) (ci := 8) (v := .ref q12) (ty := (.array .int)) (C := RX8) (T := TX8) (N := 19) hx hb hts (zi_X8 _) tyX8 tyX8_ok nmX8 hown hK hP hD hS 0 rfl rfl 9 (by decide) (hts _ (List.mem_cons_of_mem _ zt_f_X8_43)) (fun _ h9 => h9) rfl hin rfl (by decide +kernel) rfl rfl (Nat.le_of_ble_eq_true rfl) dX8_init_89 (fun H locs hP hD hS => ?_)
  have hP : va_P D vwCl [(h0, .inr (8, [.null, .ref q1, .ref q3, .ref q5, .ref q7, .ref q8, .ref q9, .ref q10, .ref q11, .ref q12, .null, .null, .null, .int 0, .int 0, .int 0, .int 0, .int 0, .int 0])), (q1, .inr (6, [.ref q2])), (q2, .inl (cL, 305, .inr (.inl (fun _ => 0)))), (q3, .inr (6, [.ref q4])), (q4, .inl (cL, 300, .inr (.inl (fun _ => 0)))), (q5, .inr (6, [.ref q6])), (q6, .inl (cL, 300, .inr (.inl (fun _ => 0)))), (q7, .inl (cI, 60, .inl (fun _ => 0))), (q8, .inl (cI, 60, .inl (fun _ => 0))), (q9, .inl (cI, 60, .inl (fun _ => 0))), (q10, .inl (cI, 60, .inl (fun _ => 0))), (q11, .inl (cL, 60, .inr (.inl (fun _ => 0)))), (q12, .inl (cI, 400, .inl (fun _ => 0)))] H := hP
  have hD : va_D A [(h0, .inr (8, [.null, .ref q1, .ref q3, .ref q5, .ref q7, .ref q8, .ref q9, .ref q10, .ref q11, .ref q12, .null, .null, .null, .int 0, .int 0, .int 0, .int 0, .int 0, .int 0])), (q1, .inr (6, [.ref q2])), (q2, .inl (cL, 305, .inr (.inl (fun _ => 0)))), (q3, .inr (6, [.ref q4])), (q4, .inl (cL, 300, .inr (.inl (fun _ => 0)))), (q5, .inr (6, [.ref q6])), (q6, .inl (cL, 300, .inr (.inl (fun _ => 0)))), (q7, .inl (cI, 60, .inl (fun _ => 0))), (q8, .inl (cI, 60, .inl (fun _ => 0))), (q9, .inl (cI, 60, .inl (fun _ => 0))), (q10, .inl (cI, 60, .inl (fun _ => 0))), (q11, .inl (cL, 60, .inr (.inl (fun _ => 0)))), (q12, .inl (cI, 400, .inl (fun _ => 0)))] := hD
  refine lv_aload_n hx hb dX8_init_92 rfl (lv_at hl 0 rfl) ?_
  refine va_new (ci := 3) (fs := [.null, .int 0]) (C := RX3) (T := TX3) (N := 2) hx hb hts (zi_X3 _) tyX3 tyX3_ok hown (hts _ (List.mem_cons_of_mem _ zt_c_X8_46)) (hts _ (List.mem_cons_of_mem _ zt_inst_X3)) (hts _ (List.mem_cons_of_mem _ zt_ini_X3)) hK hP hD hS hA rfl (by decide +kernel) (Nat.le_of_ble_eq_true rfl) (Nat.le_of_ble_eq_true rfl) dX8_init_93 (fun q13 H hP hD hS => ?_)
  have hP : va_P D vwCl [(h0, .inr (8, [.null, .ref q1, .ref q3, .ref q5, .ref q7, .ref q8, .ref q9, .ref q10, .ref q11, .ref q12, .null, .null, .null, .int 0, .int 0, .int 0, .int 0, .int 0, .int 0])), (q1, .inr (6, [.ref q2])), (q2, .inl (cL, 305, .inr (.inl (fun _ => 0)))), (q3, .inr (6, [.ref q4])), (q4, .inl (cL, 300, .inr (.inl (fun _ => 0)))), (q5, .inr (6, [.ref q6])), (q6, .inl (cL, 300, .inr (.inl (fun _ => 0)))), (q7, .inl (cI, 60, .inl (fun _ => 0))), (q8, .inl (cI, 60, .inl (fun _ => 0))), (q9, .inl (cI, 60, .inl (fun _ => 0))), (q10, .inl (cI, 60, .inl (fun _ => 0))), (q11, .inl (cL, 60, .inr (.inl (fun _ => 0)))), (q12, .inl (cI, 400, .inl (fun _ => 0))), (q13, .inr (3, [.null, .int 0]))] H := hP
  have hD : va_D A [(h0, .inr (8, [.null, .ref q1, .ref q3, .ref q5, .ref q7, .ref q8, .ref q9, .ref q10, .ref q11, .ref q12, .null, .null, .null, .int 0, .int 0, .int 0, .int 0, .int 0, .int 0])), (q1, .inr (6, [.ref q2])), (q2, .inl (cL, 305, .inr (.inl (fun _ => 0)))), (q3, .inr (6, [.ref q4])), (q4, .inl (cL, 300, .inr (.inl (fun _ => 0)))), (q5, .inr (6, [.ref q6])), (q6, .inl (cL, 300, .inr (.inl (fun _ => 0)))), (q7, .inl (cI, 60, .inl (fun _ => 0))), (q8, .inl (cI, 60, .inl (fun _ => 0))), (q9, .inl (cI, 60, .inl (fun _ => 0))), (q10, .inl (cI, 60, .inl (fun _ => 0))), (q11, .inl (cL, 60, .inr (.inl (fun _ => 0)))), (q12, .inl (cI, 400, .inl (fun _ => 0))), (q13, .inr (3, [.null, .int 0]))] := hD
  refine lv_dup hx hb dX8_init_96 rfl ?_
  have hPc := hP.sub (ws' := [(q13, .inr (3, [.null, .int 0]))]) [13] rfl
  have hDc := hD.sub (ws' := [(q13, .inr (3, [.null, .int 0]))]) [13] (by decide) rfl
  have hFc := va_free (wc := [(q13, .inr (3, [.null, .int 0]))]) hD hS hA [13] rfl
  refine va_callv (va_runIN (As := []) (rest := [.ref q13, .ref h0]) ⟨hx, hb, hml, hown, hts⟩ (zn_X3_init l D cI cL cB cZ H.size q13) ⟨va_cnB 0 hts (mq_goodL (c1 := zc_X8_init) (ws := zc_X3_init :: mq_T) (fun w hw => (List.mem_cons.mp hw).elim (fun e => e ▸ zt_X3_init_c) id)) rfl rfl rfl hNn.1 (hts _ (List.mem_cons_of_mem _ zt_ini_X3)) (by decide +kernel) ⟨Nat.le_of_ble_eq_true rfl, Nat.le_of_ble_eq_true rfl⟩, rfl, hts _ (List.mem_cons_of_mem _ zt_X3_init_i)⟩ ⟨fun a U g mk q => ⟨q.1, q.2.1, q.2.2.1, va_K.moved (u := U) (U := U.calling g mk a) (Vm.Alike.refl U.vm) q.2.2.2.1, q.2.2.2.2⟩, fun U hU hW => ⟨rfl, by rw [hU], by rw [hU]; exact hPc, va_K.moved hW.alike hK, hDc.weaken (fun _ _ _ _ => trivial)⟩⟩ rfl rfl hl.1 rfl (lv_room (Nat.le_of_ble_eq_true rfl)) dX8_init_97 ⟨Nat.le_of_ble_eq_true rfl, Nat.le_of_ble_eq_true rfl⟩) hS (fun q _ h => hFc q h) hFc (fun u t H1 locs ht hvm hw hB hz1 hk1 hS => ?_)
  obtain ⟨q14, hP1, hK1, hD1⟩ := hB
  rw [ht] at hP1
  obtain ⟨hP, hD⟩ := va_join (wr := [(h0, .inr (8, [.null, .ref q1, .ref q3, .ref q5, .ref q7, .ref q8, .ref q9, .ref q10, .ref q11, .ref q12, .null, .null, .null, .int 0, .int 0, .int 0, .int 0, .int 0, .int 0])), (q1, .inr (6, [.ref q2])), (q2, .inl (cL, 305, .inr (.inl (fun _ => 0)))), (q3, .inr (6, [.ref q4])), (q4, .inl (cL, 300, .inr (.inl (fun _ => 0)))), (q5, .inr (6, [.ref q6])), (q6, .inl (cL, 300, .inr (.inl (fun _ => 0)))), (q7, .inl (cI, 60, .inl (fun _ => 0))), (q8, .inl (cI, 60, .inl (fun _ => 0))), (q9, .inl (cI, 60, .inl (fun _ => 0))), (q10, .inl (cI, 60, .inl (fun _ => 0))), (q11, .inl (cL, 60, .inr (.inl (fun _ => 0)))), (q12, .inl (cI, 400, .inl (fun _ => 0)))]) (w1 := [(q13, .inr (3, [.ref q14, .int 0])), (q14, .inl (cI, 1299, .inl (fun _ => 0)))]) hP hD [13] [0, 1, 2, 3, 4, 5, 6, 7, 8, 9, 10, 11, 12] rfl rfl (by decide) (by decide) hk1 hFc hP1 hD1
  generalize H1 = H at hP hS ⊢
  have hP : va_P D vwCl [(h0, .inr (8, [.null, .ref q1, .ref q3, .ref q5, .ref q7, .ref q8, .ref q9, .ref q10, .ref q11, .ref q12, .null, .null, .null, .int 0, .int 0, .int 0, .int 0, .int 0, .int 0])), (q1, .inr (6, [.ref q2])), (q2, .inl (cL, 305, .inr (.inl (fun _ => 0)))), (q3, .inr (6, [.ref q4])), (q4, .inl (cL, 300, .inr (.inl (fun _ => 0)))), (q5, .inr (6, [.ref q6])), (q6, .inl (cL, 300, .inr (.inl (fun _ => 0)))), (q7, .inl (cI, 60, .inl (fun _ => 0))), (q8, .inl (cI, 60, .inl (fun _ => 0))), (q9, .inl (cI, 60, .inl (fun _ => 0))), (q10, .inl (cI, 60, .inl (fun _ => 0))), (q11, .inl (cL, 60, .inr (.inl (fun _ => 0)))), (q12, .inl (cI, 400, .inl (fun _ => 0))), (q13, .inr (3, [.ref q14, .int 0])), (q14, .inl (cI, 1299, .inl (fun _ => 0)))] H := hP
  have hD : va_D A [(h0, .inr (8, [.null, .ref q1, .ref q3, .ref q5, .ref q7, .ref q8, .ref q9, .ref q10, .ref q11, .ref q12, .null, .null, .null, .int 0, .int 0, .int 0, .int 0, .int 0, .int 0])), (q1, .inr (6, [.ref q2])), (q2, .inl (cL, 305, .inr (.inl (fun _ => 0)))), (q3, .inr (6, [.ref q4])), (q4, .inl (cL, 300, .inr (.inl (fun _ => 0)))), (q5, .inr (6, [.ref q6])), (q6, .inl (cL, 300, .inr (.inl (fun _ => 0)))), (q7, .inl (cI, 60, .inl (fun _ => 0))), (q8, .inl (cI, 60, .inl (fun _ => 0))), (q9, .inl (cI, 60, .inl (fun _ => 0))), (q10, .inl (cI, 60, .inl (fun _ => 0))), (q11, .inl (cL, 60, .inr (.inl (fun _ => 0)))), (q12, .inl (cI, 400, .inl (fun _ => 0))), (q13, .inr (3, [.ref q14, .int 0])), (q14, .inl (cI, 1299, .inl (fun _ => 0)))] := hD
  refine va_putF (D := D) (ci := 8) (v := .ref q13) (ty := (.object "ModalDesk$Lines")) (C := RX8) (T := TX8) (N := 19) hx hb hts (zi_X8 _) tyX8 tyX8_ok nmX8 hown hK hP hD hS 0 rfl rfl 11 (by decide) (hts _ (List.mem_cons_of_mem _ zt_f_X8_49)) (fun _ h9 => h9) rfl hin rfl (by decide +kernel) rfl rfl (Nat.le_of_ble_eq_true rfl) dX8_init_100 (fun H locs hP hD hS => ?_)
  have hP : va_P D vwCl [(h0, .inr (8, [.null, .ref q1, .ref q3, .ref q5, .ref q7, .ref q8, .ref q9, .ref q10, .ref q11, .ref q12, .null, .ref q13, .null, .int 0, .int 0, .int 0, .int 0, .int 0, .int 0])), (q1, .inr (6, [.ref q2])), (q2, .inl (cL, 305, .inr (.inl (fun _ => 0)))), (q3, .inr (6, [.ref q4])), (q4, .inl (cL, 300, .inr (.inl (fun _ => 0)))), (q5, .inr (6, [.ref q6])), (q6, .inl (cL, 300, .inr (.inl (fun _ => 0)))), (q7, .inl (cI, 60, .inl (fun _ => 0))), (q8, .inl (cI, 60, .inl (fun _ => 0))), (q9, .inl (cI, 60, .inl (fun _ => 0))), (q10, .inl (cI, 60, .inl (fun _ => 0))), (q11, .inl (cL, 60, .inr (.inl (fun _ => 0)))), (q12, .inl (cI, 400, .inl (fun _ => 0))), (q13, .inr (3, [.ref q14, .int 0])), (q14, .inl (cI, 1299, .inl (fun _ => 0)))] H := hP
  have hD : va_D A [(h0, .inr (8, [.null, .ref q1, .ref q3, .ref q5, .ref q7, .ref q8, .ref q9, .ref q10, .ref q11, .ref q12, .null, .ref q13, .null, .int 0, .int 0, .int 0, .int 0, .int 0, .int 0])), (q1, .inr (6, [.ref q2])), (q2, .inl (cL, 305, .inr (.inl (fun _ => 0)))), (q3, .inr (6, [.ref q4])), (q4, .inl (cL, 300, .inr (.inl (fun _ => 0)))), (q5, .inr (6, [.ref q6])), (q6, .inl (cL, 300, .inr (.inl (fun _ => 0)))), (q7, .inl (cI, 60, .inl (fun _ => 0))), (q8, .inl (cI, 60, .inl (fun _ => 0))), (q9, .inl (cI, 60, .inl (fun _ => 0))), (q10, .inl (cI, 60, .inl (fun _ => 0))), (q11, .inl (cL, 60, .inr (.inl (fun _ => 0)))), (q12, .inl (cI, 400, .inl (fun _ => 0))), (q13, .inr (3, [.ref q14, .int 0])), (q14, .inl (cI, 1299, .inl (fun _ => 0)))] := hD
  refine lv_aload_n hx hb dX8_init_103 rfl (lv_at hl 0 rfl) ?_
  refine lv_iconst (v := (4 : Int32)) hx hb dX8_init_104 (by decide) ?_
  refine mq_newaI (N' := 4) (n := (4 : Int32)) hx hb (hts _ (List.mem_cons_of_mem _ zt_arr_I)) hK hP hD hS hA (by decide) (by decide) (by decide) (Nat.le_of_ble_eq_true rfl) (Nat.le_of_ble_eq_true rfl) dX8_init_105 (fun q15 H hP hD hS => ?_)
  have hP : va_P D vwCl [(h0, .inr (8, [.null, .ref q1, .ref q3, .ref q5, .ref q7, .ref q8, .ref q9, .ref q10, .ref q11, .ref q12, .null, .ref q13, .null, .int 0, .int 0, .int 0, .int 0, .int 0, .int 0])), (q1, .inr (6, [.ref q2])), (q2, .inl (cL, 305, .inr (.inl (fun _ => 0)))), (q3, .inr (6, [.ref q4])), (q4, .inl (cL, 300, .inr (.inl (fun _ => 0)))), (q5, .inr (6, [.ref q6])), (q6, .inl (cL, 300, .inr (.inl (fun _ => 0)))), (q7, .inl (cI, 60, .inl (fun _ => 0))), (q8, .inl (cI, 60, .inl (fun _ => 0))), (q9, .inl (cI, 60, .inl (fun _ => 0))), (q10, .inl (cI, 60, .inl (fun _ => 0))), (q11, .inl (cL, 60, .inr (.inl (fun _ => 0)))), (q12, .inl (cI, 400, .inl (fun _ => 0))), (q13, .inr (3, [.ref q14, .int 0])), (q14, .inl (cI, 1299, .inl (fun _ => 0))), (q15, .inl (cI, 4, .inl (fun _ => 0)))] H := hP
  have hD : va_D A [(h0, .inr (8, [.null, .ref q1, .ref q3, .ref q5, .ref q7, .ref q8, .ref q9, .ref q10, .ref q11, .ref q12, .null, .ref q13, .null, .int 0, .int 0, .int 0, .int 0, .int 0, .int 0])), (q1, .inr (6, [.ref q2])), (q2, .inl (cL, 305, .inr (.inl (fun _ => 0)))), (q3, .inr (6, [.ref q4])), (q4, .inl (cL, 300, .inr (.inl (fun _ => 0)))), (q5, .inr (6, [.ref q6])), (q6, .inl (cL, 300, .inr (.inl (fun _ => 0)))), (q7, .inl (cI, 60, .inl (fun _ => 0))), (q8, .inl (cI, 60, .inl (fun _ => 0))), (q9, .inl (cI, 60, .inl (fun _ => 0))), (q10, .inl (cI, 60, .inl (fun _ => 0))), (q11, .inl (cL, 60, .inr (.inl (fun _ => 0)))), (q12, .inl (cI, 400, .inl (fun _ => 0))), (q13, .inr (3, [.ref q14, .int 0])), (q14, .inl (cI, 1299, .inl (fun _ => 0))), (q15, .inl (cI, 4, .inl (fun _ => 0)))] := hD
  refine va_putF (D := D) (ci := 8) (v := .ref q15) (ty := (.array .int)) (C := RX8) (T := TX8) (N := 19) hx hb hts (zi_X8 _) tyX8 tyX8_ok nmX8 hown hK hP hD hS 0 rfl rfl 12 (by decide) (hts _ (List.mem_cons_of_mem _ zt_f_X8_53)) (fun _ h9 => h9) rfl hin rfl (by decide +kernel) rfl rfl (Nat.le_of_ble_eq_true rfl) dX8_init_107 (fun H locs hP hD hS => ?_)
  have hP : va_P D vwCl [(h0, .inr (8, [.null, .ref q1, .ref q3, .ref q5, .ref q7, .ref q8, .ref q9, .ref q10, .ref q11, .ref q12, .null, .ref q13, .ref q15, .int 0, .int 0, .int 0, .int 0, .int 0, .int 0])), (q1, .inr (6, [.ref q2])), (q2, .inl (cL, 305, .inr (.inl (fun _ => 0)))), (q3, .inr (6, [.ref q4])), (q4, .inl (cL, 300, .inr (.inl (fun _ => 0)))), (q5, .inr (6, [.ref q6])), (q6, .inl (cL, 300, .inr (.inl (fun _ => 0)))), (q7, .inl (cI, 60, .inl (fun _ => 0))), (q8, .inl (cI, 60, .inl (fun _ => 0))), (q9, .inl (cI, 60, .inl (fun _ => 0))), (q10, .inl (cI, 60, .inl (fun _ => 0))), (q11, .inl (cL, 60, .inr (.inl (fun _ => 0)))), (q12, .inl (cI, 400, .inl (fun _ => 0))), (q13, .inr (3, [.ref q14, .int 0])), (q14, .inl (cI, 1299, .inl (fun _ => 0))), (q15, .inl (cI, 4, .inl (fun _ => 0)))] H := hP
  have hD : va_D A [(h0, .inr (8, [.null, .ref q1, .ref q3, .ref q5, .ref q7, .ref q8, .ref q9, .ref q10, .ref q11, .ref q12, .null, .ref q13, .ref q15, .int 0, .int 0, .int 0, .int 0, .int 0, .int 0])), (q1, .inr (6, [.ref q2])), (q2, .inl (cL, 305, .inr (.inl (fun _ => 0)))), (q3, .inr (6, [.ref q4])), (q4, .inl (cL, 300, .inr (.inl (fun _ => 0)))), (q5, .inr (6, [.ref q6])), (q6, .inl (cL, 300, .inr (.inl (fun _ => 0)))), (q7, .inl (cI, 60, .inl (fun _ => 0))), (q8, .inl (cI, 60, .inl (fun _ => 0))), (q9, .inl (cI, 60, .inl (fun _ => 0))), (q10, .inl (cI, 60, .inl (fun _ => 0))), (q11, .inl (cL, 60, .inr (.inl (fun _ => 0)))), (q12, .inl (cI, 400, .inl (fun _ => 0))), (q13, .inr (3, [.ref q14, .int 0])), (q14, .inl (cI, 1299, .inl (fun _ => 0))), (q15, .inl (cI, 4, .inl (fun _ => 0)))] := hD
  refine lv_aload_n hx hb dX8_init_110 rfl (lv_at hl 0 rfl) ?_
  refine lv_aload_n hx hb dX8_init_111 rfl (lv_at hl 1 rfl) ?_
  refine va_putF (D := D) (ci := 8) (v := .ref r1) (ty := (.object "ModalDesk$Stock")) (C := RX8) (T := TX8) (N := 19) hx hb hts (zi_X8 _) tyX8 tyX8_ok nmX8 hown hK hP hD hS 0 rfl rfl 0 (by decide) (hts _ (List.mem_cons_of_mem _ zt_f_X8_56)) (fun _ h9 => h9) rfl hin rfl (by decide +kernel) rfl rfl (Nat.le_of_ble_eq_true rfl) dX8_init_112 (fun H locs hP hD hS => ?_)
  have hP : va_P D vwCl [(h0, .inr (8, [.ref r1, .ref q1, .ref q3, .ref q5, .ref q7, .ref q8, .ref q9, .ref q10, .ref q11, .ref q12, .null, .ref q13, .ref q15, .int 0, .int 0, .int 0, .int 0, .int 0, .int 0])), (q1, .inr (6, [.ref q2])), (q2, .inl (cL, 305, .inr (.inl (fun _ => 0)))), (q3, .inr (6, [.ref q4])), (q4, .inl (cL, 300, .inr (.inl (fun _ => 0)))), (q5, .inr (6, [.ref q6])), (q6, .inl (cL, 300, .inr (.inl (fun _ => 0)))), (q7, .inl (cI, 60, .inl (fun _ => 0))), (q8, .inl (cI, 60, .inl (fun _ => 0))), (q9, .inl (cI, 60, .inl (fun _ => 0))), (q10, .inl (cI, 60, .inl (fun _ => 0))), (q11, .inl (cL, 60, .inr (.inl (fun _ => 0)))), (q12, .inl (cI, 400, .inl (fun _ => 0))), (q13, .inr (3, [.ref q14, .int 0])), (q14, .inl (cI, 1299, .inl (fun _ => 0))), (q15, .inl (cI, 4, .inl (fun _ => 0)))] H := hP
  have hD : va_D A [(h0, .inr (8, [.ref r1, .ref q1, .ref q3, .ref q5, .ref q7, .ref q8, .ref q9, .ref q10, .ref q11, .ref q12, .null, .ref q13, .ref q15, .int 0, .int 0, .int 0, .int 0, .int 0, .int 0])), (q1, .inr (6, [.ref q2])), (q2, .inl (cL, 305, .inr (.inl (fun _ => 0)))), (q3, .inr (6, [.ref q4])), (q4, .inl (cL, 300, .inr (.inl (fun _ => 0)))), (q5, .inr (6, [.ref q6])), (q6, .inl (cL, 300, .inr (.inl (fun _ => 0)))), (q7, .inl (cI, 60, .inl (fun _ => 0))), (q8, .inl (cI, 60, .inl (fun _ => 0))), (q9, .inl (cI, 60, .inl (fun _ => 0))), (q10, .inl (cI, 60, .inl (fun _ => 0))), (q11, .inl (cL, 60, .inr (.inl (fun _ => 0)))), (q12, .inl (cI, 400, .inl (fun _ => 0))), (q13, .inr (3, [.ref q14, .int 0])), (q14, .inl (cI, 1299, .inl (fun _ => 0))), (q15, .inl (cI, 4, .inl (fun _ => 0)))] := hD
  refine lv_aload_n hx hb dX8_init_115 rfl (lv_at hl 0 rfl) ?_
  refine lv_aload_n hx hb dX8_init_116 rfl (lv_at hl 2 rfl) ?_
  refine va_putF (D := D) (ci := 8) (v := .ref r2) (ty := (.object "ModalDesk$Sets")) (C := RX8) (T := TX8) (N := 19) hx hb hts (zi_X8 _) tyX8 tyX8_ok nmX8 hown hK hP hD hS 0 rfl rfl 10 (by decide) (hts _ (List.mem_cons_of_mem _ zt_f_X8_60)) (fun _ h9 => h9) rfl hin rfl (by decide +kernel) rfl rfl (Nat.le_of_ble_eq_true rfl) dX8_init_117 (fun H locs hP hD hS => ?_)
  have hP : va_P D vwCl [(h0, .inr (8, [.ref r1, .ref q1, .ref q3, .ref q5, .ref q7, .ref q8, .ref q9, .ref q10, .ref q11, .ref q12, .ref r2, .ref q13, .ref q15, .int 0, .int 0, .int 0, .int 0, .int 0, .int 0])), (q1, .inr (6, [.ref q2])), (q2, .inl (cL, 305, .inr (.inl (fun _ => 0)))), (q3, .inr (6, [.ref q4])), (q4, .inl (cL, 300, .inr (.inl (fun _ => 0)))), (q5, .inr (6, [.ref q6])), (q6, .inl (cL, 300, .inr (.inl (fun _ => 0)))), (q7, .inl (cI, 60, .inl (fun _ => 0))), (q8, .inl (cI, 60, .inl (fun _ => 0))), (q9, .inl (cI, 60, .inl (fun _ => 0))), (q10, .inl (cI, 60, .inl (fun _ => 0))), (q11, .inl (cL, 60, .inr (.inl (fun _ => 0)))), (q12, .inl (cI, 400, .inl (fun _ => 0))), (q13, .inr (3, [.ref q14, .int 0])), (q14, .inl (cI, 1299, .inl (fun _ => 0))), (q15, .inl (cI, 4, .inl (fun _ => 0)))] H := hP
  have hD : va_D A [(h0, .inr (8, [.ref r1, .ref q1, .ref q3, .ref q5, .ref q7, .ref q8, .ref q9, .ref q10, .ref q11, .ref q12, .ref r2, .ref q13, .ref q15, .int 0, .int 0, .int 0, .int 0, .int 0, .int 0])), (q1, .inr (6, [.ref q2])), (q2, .inl (cL, 305, .inr (.inl (fun _ => 0)))), (q3, .inr (6, [.ref q4])), (q4, .inl (cL, 300, .inr (.inl (fun _ => 0)))), (q5, .inr (6, [.ref q6])), (q6, .inl (cL, 300, .inr (.inl (fun _ => 0)))), (q7, .inl (cI, 60, .inl (fun _ => 0))), (q8, .inl (cI, 60, .inl (fun _ => 0))), (q9, .inl (cI, 60, .inl (fun _ => 0))), (q10, .inl (cI, 60, .inl (fun _ => 0))), (q11, .inl (cL, 60, .inr (.inl (fun _ => 0)))), (q12, .inl (cI, 400, .inl (fun _ => 0))), (q13, .inr (3, [.ref q14, .int 0])), (q14, .inl (cI, 1299, .inl (fun _ => 0))), (q15, .inl (cI, 4, .inl (fun _ => 0)))] := hD
  exact W.vret hx hb hr (fun t ht hW => ⟨⟨(), rfl, trivial, q1, q2, q3, q4, q5, q6, q7, q8, q9, q10, q11, q12, q13, q14, q15, by rw [ht]; exact hP, va_K.moved hW.alike hK, hD⟩, hS.F ht⟩) hS.2.2 dX8_init_120
theorem zt_m_X1_3 : Cond.methodLink RX1 3 objectInit ∈ mq_T := mq_T_mem (mq_t2 (List.mem_of_getElem? (i := 39) rfl)) rfl
theorem zt_c_X1_9 : Cond.classLink RX1 9 RX6 ∈ mq_T := mq_T_mem (mq_t2 (List.mem_of_getElem? (i := 40) rfl)) rfl
theorem zt_m_X1_11 : Cond.methodLink RX1 11 yX6_init ∈ mq_T := mq_T_mem (mq_t2 (List.mem_of_getElem? (i := 41) rfl)) rfl
/-! the constructor ModalDesk$Checker(LModalDesk$ByteRow;LModalDesk$Stock;LModalDesk$Sets;)V -/
def zr_X1_init : Room := { frames := 2, cells := 2, slots := 6, locals := 42 }
def zc_X1_init : Cond := .code yX1_init cX1_init 4 none
set_option maxHeartbeats 4000000 in
set_option maxRecDepth 100000 in
theorem zn_X1_init (l : Launch) (D : va_G) (cI cL cB cZ : ClassId) (sz h0 : Nat) (r1 : Nat) (r2 : Nat) (r3 : Nat) : Met l yX1_init (zc_X1_init :: mq_T) zr_X1_init (va_Pc [.ref h0, .ref r1, .ref r2, .ref r3] (fun U => U.heap.size = sz ∧ va_P D vwCl [(h0, .inr (1, [.null, .null, .null, .null, .int 0]))] U.heap ∧ va_K D vwCl (mq_tys cI cL cB cZ) U ∧ va_D (fun _ => True) [(h0, .inr (1, [.null, .null, .null, .null, .int 0]))])) (va_Qv (fun _ : Unit => True) (fun _ t => ∃ (q1 q2 : Nat), va_P D vwCl [(h0, .inr (1, [.ref r1, .ref r2, .ref q1, .ref r3, .int 0])), (q1, .inr (6, [.ref q2])), (q2, .inl (cL, 5, .inr (.inl (fun _ => 0))))] t.heap ∧ va_K D vwCl (mq_tys cI cL cB cZ) t ∧ va_D (va_A [(h0, .inr (1, [.null, .null, .null, .null, .int 0]))] sz) [(h0, .inr (1, [.ref r1, .ref r2, .ref q1, .ref r3, .int 0])), (q1, .inr (6, [.ref q2])), (q2, .inl (cL, 5, .inr (.inl (fun _ => 0))))]) (va_A [(h0, .inr (1, [.null, .null, .null, .null, .int 0]))] sz)) 2 6 (va_A [(h0, .inr (1, [.null, .null, .null, .null, .int 0]))] sz) := by
  refine Met.ofW (cc := cX1_init) (maxL := 4) (ret := none) (by decide) rfl ?_
  intro p e s m args below meth c s₁ B hml hv
  obtain ⟨rfl, hsz, hP, hK, hD0⟩ := hv
  have hx := B.exec
  have hb := B.bytes
  have hr := B.returns
  have hlocks := B.notSynchronized
  have hin : meth.name = "<init>" := (name_of_methodNamed B.named B.method).1
  have hts := atoms_spec (ws := zc_X1_init :: mq_T) B.pre
  have hown : s.vm.findClass RX1 = some m.cls := findClass_of_methodNamed B.named
  subst hsz
  have hD := hD0.self (sz := s.heap.size)
  generalize hAe : va_A [(h0, .inr (1, [.null, .null, .null, .null, .int 0]))] s.heap.size = A at hD ⊢
  have hA : ∀ q : Nat, s.heap.size ≤ q → A q := fun q h => by rw [← hAe]; exact Or.inr h
  have hS : va_S A s.heap s.heap [] := va_S.rf
  have hP : va_P D vwCl [(h0, .inr (1, [.null, .null, .null, .null, .int 0]))] s.heap := hP
  have hl := lv_entry ([.ref h0, .ref r1, .ref r2, .ref r3]) (n := 4) (Nat.le_of_ble_eq_true rfl)
  rw [lg_entry_eq]
  generalize (lg_sl ([.ref h0, .ref r1, .ref r2, .ref r3]) ++ List.replicate (4 - (lg_sl ([.ref h0, .ref r1, .ref r2, .ref r3])).length) Slot.unset).toArray = ls at hl ⊢
  have hl : lv_has ls 4 [(0, .ref h0), (1, .ref r1), (2, .ref r2), (3, .ref r3)] := hl
  refine lv_aload_n hx hb dX1_init_0 rfl (lv_at hl 0 rfl) ?_
  refine W.objInit hx hb hown (hts _ (List.mem_cons_of_mem _ zt_m_X1_3)) (hts _ (List.mem_cons_of_mem _ zt_obj_i)) (hts _ (List.mem_cons_of_mem _ zt_obj_c)) rfl (by rw [hml]; exact hl.1) rfl dX1_init_1 (Nat.le_of_ble_eq_true rfl) (Nat.le_of_ble_eq_true rfl) ?_
  refine W.eq (g2 := F0 m 4 ls []) rfl ?_
  refine lv_aload_n hx hb dX1_init_4 rfl (lv_at hl 0 rfl) ?_
  refine va_new (ci := 6) (fs := [.null]) (C := RX6) (T := TX6) (N := 1) hx hb hts (zi_X6 _) tyX6 tyX6_ok hown (hts _ (List.mem_cons_of_mem _ zt_c_X1_9)) (hts _ (List.mem_cons_of_mem _ zt_inst_X6)) (hts _ (List.mem_cons_of_mem _ zt_ini_X6)) hK hP hD hS hA rfl (by decide +kernel) (Nat.le_of_ble_eq_true rfl) (Nat.le_of_ble_eq_true rfl) dX1_init_5 (fun q1 H hP hD hS => ?_)
  have hP : va_P D vwCl [(h0, .inr (1, [.null, .null, .null, .null, .int 0])), (q1, .inr (6, [.null]))] H := hP
  have hD : va_D A [(h0, .inr (1, [.null, .null, .null, .null, .int 0])), (q1, .inr (6, [.null]))] := hD
  refine lv_dup hx hb dX1_init_8 rfl ?_
  refine lv_iconst (v := (1 : Int32)) hx hb dX1_init_9 (by decide) ?_
  have hPc := hP.sub (ws' := [(q1, .inr (6, [.null]))]) [1] rfl
  have hDc := hD.sub (ws' := [(q1, .inr (6, [.null]))]) [1] (by decide) rfl
  have hFc := va_free (wc := [(q1, .inr (6, [.null]))]) hD hS hA [1] rfl
  refine va_callv (va_runI (As := [.int ((1 : Int32))]) (rest := [.ref q1, .ref h0]) ⟨hx, hb, hml, hown, hts⟩ (zn_X6_init l D cI cL cB cZ H.size q1 (1 : Int32) 5 (by decide) (by decide) (by decide)) (cwI 1 hts (mq_goodL (c1 := zc_X1_init) (ws := zc_X6_init :: mq_T) (fun w hw => (List.mem_cons.mp hw).elim (fun e => e ▸ zt_X6_init_c) id)) rfl rfl rfl (hts _ (List.mem_cons_of_mem _ zt_ini_X6)) (hts _ (List.mem_cons_of_mem _ zt_m_X1_11)) (hts _ (List.mem_cons_of_mem _ zt_X6_init_i)) rfl (by decide +kernel) ⟨Nat.le_of_ble_eq_true rfl, Nat.le_of_ble_eq_true rfl⟩) ⟨fun a U g mk q => ⟨q.1, q.2.1, q.2.2.1, va_K.moved (u := U) (U := U.calling g mk a) (Vm.Alike.refl U.vm) q.2.2.2.1, q.2.2.2.2⟩, fun U hU hW => ⟨rfl, by rw [hU], by rw [hU]; exact hPc, va_K.moved hW.alike hK, hDc.weaken (fun _ _ _ _ => trivial)⟩⟩ rfl rfl hl.1 rfl (lv_room (Nat.le_of_ble_eq_true rfl)) dX1_init_10 ⟨Nat.le_of_ble_eq_true rfl, Nat.le_of_ble_eq_true rfl⟩) hS (fun q _ h => hFc q h) hFc (fun u t H1 locs ht hvm hw hB hz1 hk1 hS => ?_)
  obtain ⟨q2, hP1, hK1, hD1⟩ := hB
  rw [ht] at hP1
  obtain ⟨hP, hD⟩ := va_join (wr := [(h0, .inr (1, [.null, .null, .null, .null, .int 0]))]) (w1 := [(q1, .inr (6, [.ref q2])), (q2, .inl (cL, 5, .inr (.inl (fun _ => 0))))]) hP hD [1] [0] rfl rfl (by decide) (by decide) hk1 hFc hP1 hD1
  generalize H1 = H at hP hS ⊢
  have hP : va_P D vwCl [(h0, .inr (1, [.null, .null, .null, .null, .int 0])), (q1, .inr (6, [.ref q2])), (q2, .inl (cL, 5, .inr (.inl (fun _ => 0))))] H := hP
  have hD : va_D A [(h0, .inr (1, [.null, .null, .null, .null, .int 0])), (q1, .inr (6, [.ref q2])), (q2, .inl (cL, 5, .inr (.inl (fun _ => 0))))] := hD
  refine va_putF (D := D) (ci := 1) (v := .ref q1) (ty := (.object "ModalDesk$Sets")) (C := RX1) (T := TX1) (N := 5) hx hb hts (zi_X1 _) tyX1 tyX1_ok nmX1 hown hK hP hD hS 0 rfl rfl 2 (by decide) (hts _ (List.mem_cons_of_mem _ zt_f_X1_14)) (fun _ h9 => h9) rfl hin rfl (by decide +kernel) rfl rfl (Nat.le_of_ble_eq_true rfl) dX1_init_13 (fun H locs hP hD hS => ?_)
  have hP : va_P D vwCl [(h0, .inr (1, [.null, .null, .ref q1, .null, .int 0])), (q1, .inr (6, [.ref q2])), (q2, .inl (cL, 5, .inr (.inl (fun _ => 0))))] H := hP
  have hD : va_D A [(h0, .inr (1, [.null, .null, .ref q1, .null, .int 0])), (q1, .inr (6, [.ref q2])), (q2, .inl (cL, 5, .inr (.inl (fun _ => 0))))] := hD
  refine lv_aload_n hx hb dX1_init_16 rfl (lv_at hl 0 rfl) ?_
  refine lv_aload_n hx hb dX1_init_17 rfl (lv_at hl 1 rfl) ?_
  refine va_putF (D := D) (ci := 1) (v := .ref r1) (ty := (.object "ModalDesk$ByteRow")) (C := RX1) (T := TX1) (N := 5) hx hb hts (zi_X1 _) tyX1 tyX1_ok nmX1 hown hK hP hD hS 0 rfl rfl 0 (by decide) (hts _ (List.mem_cons_of_mem _ zt_f_X1_20)) (fun _ h9 => h9) rfl hin rfl (by decide +kernel) rfl rfl (Nat.le_of_ble_eq_true rfl) dX1_init_18 (fun H locs hP hD hS => ?_)
  have hP : va_P D vwCl [(h0, .inr (1, [.ref r1, .null, .ref q1, .null, .int 0])), (q1, .inr (6, [.ref q2])), (q2, .inl (cL, 5, .inr (.inl (fun _ => 0))))] H := hP
  have hD : va_D A [(h0, .inr (1, [.ref r1, .null, .ref q1, .null, .int 0])), (q1, .inr (6, [.ref q2])), (q2, .inl (cL, 5, .inr (.inl (fun _ => 0))))] := hD
  refine lv_aload_n hx hb dX1_init_21 rfl (lv_at hl 0 rfl) ?_
  refine lv_aload_n hx hb dX1_init_22 rfl (lv_at hl 2 rfl) ?_
  refine va_putF (D := D) (ci := 1) (v := .ref r2) (ty := (.object "ModalDesk$Stock")) (C := RX1) (T := TX1) (N := 5) hx hb hts (zi_X1 _) tyX1 tyX1_ok nmX1 hown hK hP hD hS 0 rfl rfl 1 (by decide) (hts _ (List.mem_cons_of_mem _ zt_f_X1_24)) (fun _ h9 => h9) rfl hin rfl (by decide +kernel) rfl rfl (Nat.le_of_ble_eq_true rfl) dX1_init_23 (fun H locs hP hD hS => ?_)
  have hP : va_P D vwCl [(h0, .inr (1, [.ref r1, .ref r2, .ref q1, .null, .int 0])), (q1, .inr (6, [.ref q2])), (q2, .inl (cL, 5, .inr (.inl (fun _ => 0))))] H := hP
  have hD : va_D A [(h0, .inr (1, [.ref r1, .ref r2, .ref q1, .null, .int 0])), (q1, .inr (6, [.ref q2])), (q2, .inl (cL, 5, .inr (.inl (fun _ => 0))))] := hD
  refine lv_aload_n hx hb dX1_init_26 rfl (lv_at hl 0 rfl) ?_
  refine lv_aload_n hx hb dX1_init_27 rfl (lv_at hl 3 rfl) ?_
  refine va_putF (D := D) (ci := 1) (v := .ref r3) (ty := (.object "ModalDesk$Sets")) (C := RX1) (T := TX1) (N := 5) hx hb hts (zi_X1 _) tyX1 tyX1_ok nmX1 hown hK hP hD hS 0 rfl rfl 3 (by decide) (hts _ (List.mem_cons_of_mem _ zt_f_X1_28)) (fun _ h9 => h9) rfl hin rfl (by decide +kernel) rfl rfl (Nat.le_of_ble_eq_true rfl) dX1_init_28 (fun H locs hP hD hS => ?_)
  have hP : va_P D vwCl [(h0, .inr (1, [.ref r1, .ref r2, .ref q1, .ref r3, .int 0])), (q1, .inr (6, [.ref q2])), (q2, .inl (cL, 5, .inr (.inl (fun _ => 0))))] H := hP
  have hD : va_D A [(h0, .inr (1, [.ref r1, .ref r2, .ref q1, .ref r3, .int 0])), (q1, .inr (6, [.ref q2])), (q2, .inl (cL, 5, .inr (.inl (fun _ => 0))))] := hD
  exact W.vret hx hb hr (fun t ht hW => ⟨⟨(), rfl, trivial, q1, q2, by rw [ht]; exact hP, va_K.moved hW.alike hK, hD⟩, hS.F ht⟩) hS.2.2 dX1_init_31
theorem zt_m_X4_3 : Cond.methodLink RX4 3 objectInit ∈ mq_T := mq_T_mem (mq_t2 (List.mem_of_getElem? (i := 63) rfl)) rfl
/-! the constructor ModalDesk$Model(LModalDesk$Stock;)V -/
def zr_X4_init : Room := { frames := 1, cells := 8, slots := 720, locals := 12 }
def zc_X4_init : Cond := .code yX4_init cX4_init 2 none
set_option maxHeartbeats 4000000 in
set_option maxRecDepth 100000 in
theorem zn_X4_init (l : Launch) (D : va_G) (cI cL cB cZ : ClassId) (sz h0 : Nat) (r1 : Nat) : Met l yX4_init (zc_X4_init :: mq_T) zr_X4_init (va_Pc [.ref h0, .ref r1] (fun U => U.heap.size = sz ∧ va_P D vwCl [(h0, .inr (4, [.null, .null, .null, .null, .null, .null, .null, .null, .null, .int 0, .int 0, .int 0]))] U.heap ∧ va_K D vwCl (mq_tys cI cL cB cZ) U ∧ va_D (fun _ => True) [(h0, .inr (4, [.null, .null, .null, .null, .null, .null, .null, .null, .null, .int 0, .int 0, .int 0]))])) (va_Qv (fun _ : Unit => True) (fun _ t => ∃ (q1 q2 q3 q4 q5 q6 q7 q8 : Nat), va_P D vwCl [(h0, .inr (4, [.ref r1, .ref q1, .ref q2, .ref q3, .ref q4, .ref q5, .ref q6, .ref q7, .ref q8, .int 0, .int 0, .int 0])), (q1, .inl (cI, 60, .inl (fun _ => 0))), (q2, .inl (cL, 60, .inr (.inl (fun _ => 0)))), (q3, .inl (cI, 60, .inl (fun _ => 0))), (q4, .inl (cI, 60, .inl (fun _ => 0))), (q5, .inl (cI, 60, .inl (fun _ => 0))), (q6, .inl (cI, 60, .inl (fun _ => 0))), (q7, .inl (cL, 60, .inr (.inl (fun _ => 0)))), (q8, .inl (cL, 300, .inr (.inl (fun _ => 0))))] t.heap ∧ va_K D vwCl (mq_tys cI cL cB cZ) t ∧ va_D (va_A [(h0, .inr (4, [.null, .null, .null, .null, .null, .null, .null, .null, .null, .int 0, .int 0, .int 0]))] sz) [(h0, .inr (4, [.ref r1, .ref q1, .ref q2, .ref q3, .ref q4, .ref q5, .ref q6, .ref q7, .ref q8, .int 0, .int 0, .int 0])), (q1, .inl (cI, 60, .inl (fun _ => 0))), (q2, .inl (cL, 60, .inr (.inl (fun _ => 0)))), (q3, .inl (cI, 60, .inl (fun _ => 0))), (q4, .inl (cI, 60, .inl (fun _ => 0))), (q5, .inl (cI, 60, .inl (fun _ => 0))), (q6, .inl (cI, 60, .inl (fun _ => 0))), (q7, .inl (cL, 60, .inr (.inl (fun _ => 0)))), (q8, .inl (cL, 300, .inr (.inl (fun _ => 0))))]) (va_A [(h0, .inr (4, [.null, .null, .null, .null, .null, .null, .null, .null, .null, .int 0, .int 0, .int 0]))] sz)) 8 720 (va_A [(h0, .inr (4, [.null, .null, .null, .null, .null, .null, .null, .null, .null, .int 0, .int 0, .int 0]))] sz) := by
  refine Met.ofW (cc := cX4_init) (maxL := 2) (ret := none) (by decide) rfl ?_
  intro p e s m args below meth c s₁ B hml hv
  obtain ⟨rfl, hsz, hP, hK, hD0⟩ := hv
  have hx := B.exec
  have hb := B.bytes
  have hr := B.returns
  have hlocks := B.notSynchronized
  have hin : meth.name = "<init>" := (name_of_methodNamed B.named B.method).1
  have hts := atoms_spec (ws := zc_X4_init :: mq_T) B.pre
  have hown : s.vm.findClass RX4 = some m.cls := findClass_of_methodNamed B.named
  subst hsz
  have hD := hD0.self (sz := s.heap.size)
  generalize hAe : va_A [(h0, .inr (4, [.null, .null, .null, .null, .null, .null, .null, .null, .null, .int 0, .int 0, .int 0]))] s.heap.size = A at hD ⊢
  have hA : ∀ q : Nat, s.heap.size ≤ q → A q := fun q h => by rw [← hAe]; exact Or.inr h
  have hS : va_S A s.heap s.heap [] := va_S.rf
  have hP : va_P D vwCl [(h0, .inr (4, [.null, .null, .null, .null, .null, .null, .null, .null, .null, .int 0, .int 0, .int 0]))] s.heap := hP
  have hl := lv_entry ([.ref h0, .ref r1]) (n := 2) (Nat.le_of_ble_eq_true rfl)
  rw [lg_entry_eq]
  generalize (lg_sl ([.ref h0, .ref r1]) ++ List.replicate (2 - (lg_sl ([.ref h0, .ref r1])).length) Slot.unset).toArray = ls at hl ⊢
  have hl : lv_has ls 2 [(0, .ref h0), (1, .ref r1)] := hl
  refine lv_aload_n hx hb dX4_init_0 rfl (lv_at hl 0 rfl) ?_
  refine W.objInit hx hb hown (hts _ (List.mem_cons_of_mem _ zt_m_X4_3)) (hts _ (List.mem_cons_of_mem _ zt_obj_i)) (hts _ (List.mem_cons_of_mem _ zt_obj_c)) rfl (by rw [hml]; exact hl.1) rfl dX4_init_1 (Nat.le_of_ble_eq_true rfl) (Nat.le_of_ble_eq_true rfl) ?_
  refine W.eq (g2 := F0 m 4 ls []) rfl ?_
  refine lv_aload_n hx hb dX4_init_4 rfl (lv_at hl 0 rfl) ?_
  refine lv_bipush (v := (60 : Int32)) hx hb dX4_init_5 (by decide) ?_
  refine mq_newaI (N' := 60) (n := (60 : Int32)) hx hb (hts _ (List.mem_cons_of_mem _ zt_arr_I)) hK hP hD hS hA (by decide) (by decide) (by decide) (Nat.le_of_ble_eq_true rfl) (Nat.le_of_ble_eq_true rfl) dX4_init_7 (fun q1 H hP hD hS => ?_)
  have hP : va_P D vwCl [(h0, .inr (4, [.null, .null, .null, .null, .null, .null, .null, .null, .null, .int 0, .int 0, .int 0])), (q1, .inl (cI, 60, .inl (fun _ => 0)))] H := hP
  have hD : va_D A [(h0, .inr (4, [.null, .null, .null, .null, .null, .null, .null, .null, .null, .int 0, .int 0, .int 0])), (q1, .inl (cI, 60, .inl (fun _ => 0)))] := hD
  refine va_putF (D := D) (ci := 4) (v := .ref q1) (ty := (.array .int)) (C := RX4) (T := TX4) (N := 12) hx hb hts (zi_X4 _) tyX4 tyX4_ok nmX4 hown hK hP hD hS 0 rfl rfl 1 (by decide) (hts _ (List.mem_cons_of_mem _ zt_f_X4_9)) (fun _ h9 => h9) rfl hin rfl (by decide +kernel) rfl rfl (Nat.le_of_ble_eq_true rfl) dX4_init_9 (fun H locs hP hD hS => ?_)
  have hP : va_P D vwCl [(h0, .inr (4, [.null, .ref q1, .null, .null, .null, .null, .null, .null, .null, .int 0, .int 0, .int 0])), (q1, .inl (cI, 60, .inl (fun _ => 0)))] H := hP
  have hD : va_D A [(h0, .inr (4, [.null, .ref q1, .null, .null, .null, .null, .null, .null, .null, .int 0, .int 0, .int 0])), (q1, .inl (cI, 60, .inl (fun _ => 0)))] := hD
  refine lv_aload_n hx hb dX4_init_12 rfl (lv_at hl 0 rfl) ?_
  refine lv_bipush (v := (60 : Int32)) hx hb dX4_init_13 (by decide) ?_
  refine mq_newaJ (N' := 60) (n := (60 : Int32)) hx hb (hts _ (List.mem_cons_of_mem _ zt_arr_J)) hK hP hD hS hA (by decide) (by decide) (by decide) (Nat.le_of_ble_eq_true rfl) (Nat.le_of_ble_eq_true rfl) dX4_init_15 (fun q2 H hP hD hS => ?_)
  have hP : va_P D vwCl [(h0, .inr (4, [.null, .ref q1, .null, .null, .null, .null, .null, .null, .null, .int 0, .int 0, .int 0])), (q1, .inl (cI, 60, .inl (fun _ => 0))), (q2, .inl (cL, 60, .inr (.inl (fun _ => 0))))] H := hP
  have hD : va_D A [(h0, .inr (4, [.null, .ref q1, .null, .null, .null, .null, .null, .null, .null, .int 0, .int 0, .int 0])), (q1, .inl (cI, 60, .inl (fun _ => 0))), (q2, .inl (cL, 60, .inr (.inl (fun _ => 0))))] := hD
  refine va_putF (D := D) (ci := 4) (v := .ref q2) (ty := (.array .long)) (C := RX4) (T := TX4) (N := 12) hx hb hts (zi_X4 _) tyX4 tyX4_ok nmX4 hown hK hP hD hS 0 rfl rfl 2 (by decide) (hts _ (List.mem_cons_of_mem _ zt_f_X4_15)) (fun _ h9 => h9) rfl hin rfl (by decide +kernel) rfl rfl (Nat.le_of_ble_eq_true rfl) dX4_init_17 (fun H locs hP hD hS => ?_)
  have hP : va_P D vwCl [(h0, .inr (4, [.null, .ref q1, .ref q2, .null, .null, .null, .null, .null, .null, .int 0, .int 0, .int 0])), (q1, .inl (cI, 60, .inl (fun _ => 0))), (q2, .inl (cL, 60, .inr (.inl (fun _ => 0))))] H := hP
  have hD : va_D A [(h0, .inr (4, [.null, .ref q1, .ref q2, .null, .null, .null, .null, .null, .null, .int 0, .int 0, .int 0])), (q1, .inl (cI, 60, .inl (fun _ => 0))), (q2, .inl (cL, 60, .inr (.inl (fun _ => 0))))] := hD
  refine lv_aload_n hx hb dX4_init_20 rfl (lv_at hl 0 rfl) ?_
  refine lv_bipush (v := (60 : Int32)) hx hb dX4_init_21 (by decide) ?_
  refine mq_newaI (N' := 60) (n := (60 : Int32)) hx hb (hts _ (List.mem_cons_of_mem _ zt_arr_I)) hK hP hD hS hA (by decide) (by decide) (by decide) (Nat.le_of_ble_eq_true rfl) (Nat.le_of_ble_eq_true rfl) dX4_init_23 (fun q3 H hP hD hS => ?_)
  have hP : va_P D vwCl [(h0, .inr (4, [.null, .ref q1, .ref q2, .null, .null, .null, .null, .null, .null, .int 0, .int 0, .int 0])), (q1, .inl (cI, 60, .inl (fun _ => 0))), (q2, .inl (cL, 60, .inr (.inl (fun _ => 0)))), (q3, .inl (cI, 60, .inl (fun _ => 0)))] H := hP
  have hD : va_D A [(h0, .inr (4, [.null, .ref q1, .ref q2, .null, .null, .null, .null, .null, .null, .int 0, .int 0, .int 0])), (q1, .inl (cI, 60, .inl (fun _ => 0))), (q2, .inl (cL, 60, .inr (.inl (fun _ => 0)))), (q3, .inl (cI, 60, .inl (fun _ => 0)))] := hD
  refine va_putF (D := D) (ci := 4) (v := .ref q3) (ty := (.array .int)) (C := RX4) (T := TX4) (N := 12) hx hb hts (zi_X4 _) tyX4 tyX4_ok nmX4 hown hK hP hD hS 0 rfl rfl 3 (by decide) (hts _ (List.mem_cons_of_mem _ zt_f_X4_19)) (fun _ h9 => h9) rfl hin rfl (by decide +kernel) rfl rfl (Nat.le_of_ble_eq_true rfl) dX4_init_25 (fun H locs hP hD hS => ?_)
  have hP : va_P D vwCl [(h0, .inr (4, [.null, .ref q1, .ref q2, .ref q3, .null, .null, .null, .null, .null, .int 0, .int 0, .int 0])), (q1, .inl (cI, 60, .inl (fun _ => 0))), (q2, .inl (cL, 60, .inr (.inl (fun _ => 0)))), (q3, .inl (cI, 60, .inl (fun _ => 0)))] H := hP
  have hD : va_D A [(h0, .inr (4, [.null, .ref q1, .ref q2, .ref q3, .null, .null, .null, .null, .null, .int 0, .int 0, .int 0])), (q1, .inl (cI, 60, .inl (fun _ => 0))), (q2, .inl (cL, 60, .inr (.inl (fun _ => 0)))), (q3, .inl (cI, 60, .inl (fun _ => 0)))] := hD
  refine lv_aload_n hx hb dX4_init_28 rfl (lv_at hl 0 rfl) ?_
  refine lv_bipush (v := (60 : Int32)) hx hb dX4_init_29 (by decide) ?_
  refine mq_newaI (N' := 60) (n := (60 : Int32)) hx hb (hts _ (List.mem_cons_of_mem _ zt_arr_I)) hK hP hD hS hA (by decide) (by decide) (by decide) (Nat.le_of_ble_eq_true rfl) (Nat.le_of_ble_eq_true rfl) dX4_init_31 (fun q4 H hP hD hS => ?_)
  have hP : va_P D vwCl [(h0, .inr (4, [.null, .ref q1, .ref q2, .ref q3, .null, .null, .null, .null, .null, .int 0, .int 0, .int 0])), (q1, .inl (cI, 60, .inl (fun _ => 0))), (q2, .inl (cL, 60, .inr (.inl (fun _ => 0)))), (q3, .inl (cI, 60, .inl (fun _ => 0))), (q4, .inl (cI, 60, .inl (fun _ => 0)))] H := hP
  have hD : va_D A [(h0, .inr (4, [.null, .ref q1, .ref q2, .ref q3, .null, .null, .null, .null, .null, .int 0, .int 0, .int 0])), (q1, .inl (cI, 60, .inl (fun _ => 0))), (q2, .inl (cL, 60, .inr (.inl (fun _ => 0)))), (q3, .inl (cI, 60, .inl (fun _ => 0))), (q4, .inl (cI, 60, .inl (fun _ => 0)))] := hD
  refine va_putF (D := D) (ci := 4) (v := .ref q4) (ty := (.array .int)) (C := RX4) (T := TX4) (N := 12) hx hb hts (zi_X4 _) tyX4 tyX4_ok nmX4 hown hK hP hD hS 0 rfl rfl 4 (by decide) (hts _ (List.mem_cons_of_mem _ zt_f_X4_22)) (fun _ h9 => h9) rfl hin rfl (by decide +kernel) rfl rfl (Nat.le_of_ble_eq_true rfl) dX4_init_33 (fun H locs hP hD hS => ?_)
  have hP : va_P D vwCl [(h0, .inr (4, [.null, .ref q1, .ref q2, .ref q3, .ref q4, .null, .null, .null, .null, .int 0, .int 0, .int 0])), (q1, .inl (cI, 60, .inl (fun _ => 0))), (q2, .inl (cL, 60, .inr (.inl (fun _ => 0)))), (q3, .inl (cI, 60, .inl (fun _ => 0))), (q4, .inl (cI, 60, .inl (fun _ => 0)))] H := hP
  have hD : va_D A [(h0, .inr (4, [.null, .ref q1, .ref q2, .ref q3, .ref q4, .null, .null, .null, .null, .int 0, .int 0, .int 0])), (q1, .inl (cI, 60, .inl (fun _ => 0))), (q2, .inl (cL, 60, .inr (.inl (fun _ => 0)))), (q3, .inl (cI, 60, .inl (fun _ => 0))), (q4, .inl (cI, 60, .inl (fun _ => 0)))] := hD
  refine lv_aload_n hx hb dX4_init_36 rfl (lv_at hl 0 rfl) ?_
  refine lv_bipush (v := (60 : Int32)) hx hb dX4_init_37 (by decide) ?_
  refine mq_newaI (N' := 60) (n := (60 : Int32)) hx hb (hts _ (List.mem_cons_of_mem _ zt_arr_I)) hK hP hD hS hA (by decide) (by decide) (by decide) (Nat.le_of_ble_eq_true rfl) (Nat.le_of_ble_eq_true rfl) dX4_init_39 (fun q5 H hP hD hS => ?_)
  have hP : va_P D vwCl [(h0, .inr (4, [.null, .ref q1, .ref q2, .ref q3, .ref q4, .null, .null, .null, .null, .int 0, .int 0, .int 0])), (q1, .inl (cI, 60, .inl (fun _ => 0))), (q2, .inl (cL, 60, .inr (.inl (fun _ => 0)))), (q3, .inl (cI, 60, .inl (fun _ => 0))), (q4, .inl (cI, 60, .inl (fun _ => 0))), (q5, .inl (cI, 60, .inl (fun _ => 0)))] H := hP
  have hD : va_D A [(h0, .inr (4, [.null, .ref q1, .ref q2, .ref q3, .ref q4, .null, .null, .null, .null, .int 0, .int 0, .int 0])), (q1, .inl (cI, 60, .inl (fun _ => 0))), (q2, .inl (cL, 60, .inr (.inl (fun _ => 0)))), (q3, .inl (cI, 60, .inl (fun _ => 0))), (q4, .inl (cI, 60, .inl (fun _ => 0))), (q5, .inl (cI, 60, .inl (fun _ => 0)))] := hD
  refine va_putF (D := D) (ci := 4) (v := .ref q5) (ty := (.array .int)) (C := RX4) (T := TX4) (N := 12) hx hb hts (zi_X4 _) tyX4 tyX4_ok nmX4 hown hK hP hD hS 0 rfl rfl 5 (by decide) (hts _ (List.mem_cons_of_mem _ zt_f_X4_25)) (fun _ h9 => h9) rfl hin rfl (by decide +kernel) rfl rfl (Nat.le_of_ble_eq_true rfl) dX4_init_41 (fun H locs hP hD hS => ?_)
  have hP : va_P D vwCl [(h0, .inr (4, [.null, .ref q1, .ref q2, .ref q3, .ref q4, .ref q5, .null, .null, .null, .int 0, .int 0, .int 0])), (q1, .inl (cI, 60, .inl (fun _ => 0))), (q2, .inl (cL, 60, .inr (.inl (fun _ => 0)))), (q3, .inl (cI, 60, .inl (fun _ => 0))), (q4, .inl (cI, 60, .inl (fun _ => 0))), (q5, .inl (cI, 60, .inl (fun _ => 0)))] H := hP
  have hD : va_D A [(h0, .inr (4, [.null, .ref q1, .ref q2, .ref q3, .ref q4, .ref q5, .null, .null, .null, .int 0, .int 0, .int 0])), (q1, .inl (cI, 60, .inl (fun _ => 0))), (q2, .inl (cL, 60, .inr (.inl (fun _ => 0)))), (q3, .inl (cI, 60, .inl (fun _ => 0))), (q4, .inl (cI, 60, .inl (fun _ => 0))), (q5, .inl (cI, 60, .inl (fun _ => 0)))] := hD
  refine lv_aload_n hx hb dX4_init_44 rfl (lv_at hl 0 rfl) ?_
  refine lv_bipush (v := (60 : Int32)) hx hb dX4_init_45 (by decide) ?_
  refine mq_newaI (N' := 60) (n := (60 : Int32)) hx hb (hts _ (List.mem_cons_of_mem _ zt_arr_I)) hK hP hD hS hA (by decide) (by decide) (by decide) (Nat.le_of_ble_eq_true rfl) (Nat.le_of_ble_eq_true rfl) dX4_init_47 (fun q6 H hP hD hS => ?_)
  have hP : va_P D vwCl [(h0, .inr (4, [.null, .ref q1, .ref q2, .ref q3, .ref q4, .ref q5, .null, .null, .null, .int 0, .int 0, .int 0])), (q1, .inl (cI, 60, .inl (fun _ => 0))), (q2, .inl (cL, 60, .inr (.inl (fun _ => 0)))), (q3, .inl (cI, 60, .inl (fun _ => 0))), (q4, .inl (cI, 60, .inl (fun _ => 0))), (q5, .inl (cI, 60, .inl (fun _ => 0))), (q6, .inl (cI, 60, .inl (fun _ => 0)))] H := hP
  have hD : va_D A [(h0, .inr (4, [.null, .ref q1, .ref q2, .ref q3, .ref q4, .ref q5, .null, .null, .null, .int 0, .int 0, .int 0])), (q1, .inl (cI, 60, .inl (fun _ => 0))), (q2, .inl (cL, 60, .inr (.inl (fun _ => 0)))), (q3, .inl (cI, 60, .inl (fun _ => 0))), (q4, .inl (cI, 60, .inl (fun _ => 0))), (q5, .inl (cI, 60, .inl (fun _ => 0))), (q6, .inl (cI, 60, .inl (fun _ => 0)))] := hD
  refine va_putF (D := D) (ci := 4) (v := .ref q6) (ty := (.array .int)) (C := RX4) (T := TX4) (N := 12) hx hb hts (zi_X4 _) tyX4 tyX4_ok nmX4 hown hK hP hD hS 0 rfl rfl 6 (by decide) (hts _ (List.mem_cons_of_mem _ zt_f_X4_28)) (fun _ h9 => h9) rfl hin rfl (by decide +kernel) rfl rfl (Nat.le_of_ble_eq_true rfl) dX4_init_49 (fun H locs hP hD hS => ?_)
  have hP : va_P D vwCl [(h0, .inr (4, [.null, .ref q1, .ref q2, .ref q3, .ref q4, .ref q5, .ref q6, .null, .null, .int 0, .int 0, .int 0])), (q1, .inl (cI, 60, .inl (fun _ => 0))), (q2, .inl (cL, 60, .inr (.inl (fun _ => 0)))), (q3, .inl (cI, 60, .inl (fun _ => 0))), (q4, .inl (cI, 60, .inl (fun _ => 0))), (q5, .inl (cI, 60, .inl (fun _ => 0))), (q6, .inl (cI, 60, .inl (fun _ => 0)))] H := hP
  have hD : va_D A [(h0, .inr (4, [.null, .ref q1, .ref q2, .ref q3, .ref q4, .ref q5, .ref q6, .null, .null, .int 0, .int 0, .int 0])), (q1, .inl (cI, 60, .inl (fun _ => 0))), (q2, .inl (cL, 60, .inr (.inl (fun _ => 0)))), (q3, .inl (cI, 60, .inl (fun _ => 0))), (q4, .inl (cI, 60, .inl (fun _ => 0))), (q5, .inl (cI, 60, .inl (fun _ => 0))), (q6, .inl (cI, 60, .inl (fun _ => 0)))] := hD
  refine lv_aload_n hx hb dX4_init_52 rfl (lv_at hl 0 rfl) ?_
  refine lv_bipush (v := (60 : Int32)) hx hb dX4_init_53 (by decide) ?_
  refine mq_newaJ (N' := 60) (n := (60 : Int32)) hx hb (hts _ (List.mem_cons_of_mem _ zt_arr_J)) hK hP hD hS hA (by decide) (by decide) (by decide) (Nat.le_of_ble_eq_true rfl) (Nat.le_of_ble_eq_true rfl) dX4_init_55 (fun q7 H hP hD hS => ?_)
  have hP : va_P D vwCl [(h0, .inr (4, [.null, .ref q1, .ref q2, .ref q3, .ref q4, .ref q5, .ref q6, .null, .null, .int 0, .int 0, .int 0])), (q1, .inl (cI, 60, .inl (fun _ => 0))), (q2, .inl (cL, 60, .inr (.inl (fun _ => 0)))), (q3, .inl (cI, 60, .inl (fun _ => 0))), (q4, .inl (cI, 60, .inl (fun _ => 0))), (q5, .inl (cI, 60, .inl (fun _ => 0))), (q6, .inl (cI, 60, .inl (fun _ => 0))), (q7, .inl (cL, 60, .inr (.inl (fun _ => 0))))] H := hP
  have hD : va_D A [(h0, .inr (4, [.null, .ref q1, .ref q2, .ref q3, .ref q4, .ref q5, .ref q6, .null, .null, .int 0, .int 0, .int 0])), (q1, .inl (cI, 60, .inl (fun _ => 0))), (q2, .inl (cL, 60, .inr (.inl (fun _ => 0)))), (q3, .inl (cI, 60, .inl (fun _ => 0))), (q4, .inl (cI, 60, .inl (fun _ => 0))), (q5, .inl (cI, 60, .inl (fun _ => 0))), (q6, .inl (cI, 60, .inl (fun _ => 0))), (q7, .inl (cL, 60, .inr (.inl (fun _ => 0))))] := hD
  refine va_putF (D := D) (ci := 4) (v := .ref q7) (ty := (.array .long)) (C := RX4) (T := TX4) (N := 12) hx hb hts (zi_X4 _) tyX4 tyX4_ok nmX4 hown hK hP hD hS 0 rfl rfl 7 (by decide) (hts _ (List.mem_cons_of_mem _ zt_f_X4_31)) (fun _ h9 => h9) rfl hin rfl (by decide +kernel) rfl rfl (Nat.le_of_ble_eq_true rfl) dX4_init_57 (fun H locs hP hD hS => ?_)
  have hP : va_P D vwCl [(h0, .inr (4, [.null, .ref q1, .ref q2, .ref q3, .ref q4, .ref q5, .ref q6, .ref q7, .null, .int 0, .int 0, .int 0])), (q1, .inl (cI, 60, .inl (fun _ => 0))), (q2, .inl (cL, 60, .inr (.inl (fun _ => 0)))), (q3, .inl (cI, 60, .inl (fun _ => 0))), (q4, .inl (cI, 60, .inl (fun _ => 0))), (q5, .inl (cI, 60, .inl (fun _ => 0))), (q6, .inl (cI, 60, .inl (fun _ => 0))), (q7, .inl (cL, 60, .inr (.inl (fun _ => 0))))] H := hP
  have hD : va_D A [(h0, .inr (4, [.null, .ref q1, .ref q2, .ref q3, .ref q4, .ref q5, .ref q6, .ref q7, .null, .int 0, .int 0, .int 0])), (q1, .inl (cI, 60, .inl (fun _ => 0))), (q2, .inl (cL, 60, .inr (.inl (fun _ => 0)))), (q3, .inl (cI, 60, .inl (fun _ => 0))), (q4, .inl (cI, 60, .inl (fun _ => 0))), (q5, .inl (cI, 60, .inl (fun _ => 0))), (q6, .inl (cI, 60, .inl (fun _ => 0))), (q7, .inl (cL, 60, .inr (.inl (fun _ => 0))))] := hD
  refine lv_aload_n hx hb dX4_init_60 rfl (lv_at hl 0 rfl) ?_
  refine lv_sipush (v := (300 : Int32)) hx hb dX4_init_61 (by decide) ?_
  refine mq_newaJ (N' := 300) (n := (300 : Int32)) hx hb (hts _ (List.mem_cons_of_mem _ zt_arr_J)) hK hP hD hS hA (by decide) (by decide) (by decide) (Nat.le_of_ble_eq_true rfl) (Nat.le_of_ble_eq_true rfl) dX4_init_64 (fun q8 H hP hD hS => ?_)
  have hP : va_P D vwCl [(h0, .inr (4, [.null, .ref q1, .ref q2, .ref q3, .ref q4, .ref q5, .ref q6, .ref q7, .null, .int 0, .int 0, .int 0])), (q1, .inl (cI, 60, .inl (fun _ => 0))), (q2, .inl (cL, 60, .inr (.inl (fun _ => 0)))), (q3, .inl (cI, 60, .inl (fun _ => 0))), (q4, .inl (cI, 60, .inl (fun _ => 0))), (q5, .inl (cI, 60, .inl (fun _ => 0))), (q6, .inl (cI, 60, .inl (fun _ => 0))), (q7, .inl (cL, 60, .inr (.inl (fun _ => 0)))), (q8, .inl (cL, 300, .inr (.inl (fun _ => 0))))] H := hP
  have hD : va_D A [(h0, .inr (4, [.null, .ref q1, .ref q2, .ref q3, .ref q4, .ref q5, .ref q6, .ref q7, .null, .int 0, .int 0, .int 0])), (q1, .inl (cI, 60, .inl (fun _ => 0))), (q2, .inl (cL, 60, .inr (.inl (fun _ => 0)))), (q3, .inl (cI, 60, .inl (fun _ => 0))), (q4, .inl (cI, 60, .inl (fun _ => 0))), (q5, .inl (cI, 60, .inl (fun _ => 0))), (q6, .inl (cI, 60, .inl (fun _ => 0))), (q7, .inl (cL, 60, .inr (.inl (fun _ => 0)))), (q8, .inl (cL, 300, .inr (.inl (fun _ => 0))))] := hD
  refine va_putF (D := D) (ci := 4) (v := .ref q8) (ty := (.array .long)) (C := RX4) (T := TX4) (N := 12) hx hb hts (zi_X4 _) tyX4 tyX4_ok nmX4 hown hK hP hD hS 0 rfl rfl 8 (by decide) (hts _ (List.mem_cons_of_mem _ zt_f_X4_34)) (fun _ h9 => h9) rfl hin rfl (by decide +kernel) rfl rfl (Nat.le_of_ble_eq_true rfl) dX4_init_66 (fun H locs hP hD hS => ?_)
  have hP : va_P D vwCl [(h0, .inr (4, [.null, .ref q1, .ref q2, .ref q3, .ref q4, .ref q5, .ref q6, .ref q7, .ref q8, .int 0, .int 0, .int 0])), (q1, .inl (cI, 60, .inl (fun _ => 0))), (q2, .inl (cL, 60, .inr (.inl (fun _ => 0)))), (q3, .inl (cI, 60, .inl (fun _ => 0))), (q4, .inl (cI, 60, .inl (fun _ => 0))), (q5, .inl (cI, 60, .inl (fun _ => 0))), (q6, .inl (cI, 60, .inl (fun _ => 0))), (q7, .inl (cL, 60, .inr (.inl (fun _ => 0)))), (q8, .inl (cL, 300, .inr (.inl (fun _ => 0))))] H := hP
  have hD : va_D A [(h0, .inr (4, [.null, .ref q1, .ref q2, .ref q3, .ref q4, .ref q5, .ref q6, .ref q7, .ref q8, .int 0, .int 0, .int 0])), (q1, .inl (cI, 60, .inl (fun _ => 0))), (q2, .inl (cL, 60, .inr (.inl (fun _ => 0)))), (q3, .inl (cI, 60, .inl (fun _ => 0))), (q4, .inl (cI, 60, .inl (fun _ => 0))), (q5, .inl (cI, 60, .inl (fun _ => 0))), (q6, .inl (cI, 60, .inl (fun _ => 0))), (q7, .inl (cL, 60, .inr (.inl (fun _ => 0)))), (q8, .inl (cL, 300, .inr (.inl (fun _ => 0))))] := hD
  refine lv_aload_n hx hb dX4_init_69 rfl (lv_at hl 0 rfl) ?_
  refine lv_aload_n hx hb dX4_init_70 rfl (lv_at hl 1 rfl) ?_
  refine va_putF (D := D) (ci := 4) (v := .ref r1) (ty := (.object "ModalDesk$Stock")) (C := RX4) (T := TX4) (N := 12) hx hb hts (zi_X4 _) tyX4 tyX4_ok nmX4 hown hK hP hD hS 0 rfl rfl 0 (by decide) (hts _ (List.mem_cons_of_mem _ zt_f_X4_37)) (fun _ h9 => h9) rfl hin rfl (by decide +kernel) rfl rfl (Nat.le_of_ble_eq_true rfl) dX4_init_71 (fun H locs hP hD hS => ?_)
  have hP : va_P D vwCl [(h0, .inr (4, [.ref r1, .ref q1, .ref q2, .ref q3, .ref q4, .ref q5, .ref q6, .ref q7, .ref q8, .int 0, .int 0, .int 0])), (q1, .inl (cI, 60, .inl (fun _ => 0))), (q2, .inl (cL, 60, .inr (.inl (fun _ => 0)))), (q3, .inl (cI, 60, .inl (fun _ => 0))), (q4, .inl (cI, 60, .inl (fun _ => 0))), (q5, .inl (cI, 60, .inl (fun _ => 0))), (q6, .inl (cI, 60, .inl (fun _ => 0))), (q7, .inl (cL, 60, .inr (.inl (fun _ => 0)))), (q8, .inl (cL, 300, .inr (.inl (fun _ => 0))))] H := hP
  have hD : va_D A [(h0, .inr (4, [.ref r1, .ref q1, .ref q2, .ref q3, .ref q4, .ref q5, .ref q6, .ref q7, .ref q8, .int 0, .int 0, .int 0])), (q1, .inl (cI, 60, .inl (fun _ => 0))), (q2, .inl (cL, 60, .inr (.inl (fun _ => 0)))), (q3, .inl (cI, 60, .inl (fun _ => 0))), (q4, .inl (cI, 60, .inl (fun _ => 0))), (q5, .inl (cI, 60, .inl (fun _ => 0))), (q6, .inl (cI, 60, .inl (fun _ => 0))), (q7, .inl (cL, 60, .inr (.inl (fun _ => 0)))), (q8, .inl (cL, 300, .inr (.inl (fun _ => 0))))] := hD
  exact W.vret hx hb hr (fun t ht hW => ⟨⟨(), rfl, trivial, q1, q2, q3, q4, q5, q6, q7, q8, by rw [ht]; exact hP, va_K.moved hW.alike hK, hD⟩, hS.F ht⟩) hS.2.2 dX4_init_74
