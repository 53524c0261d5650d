/-! The law. -/
theorem mq_sx {k j L : Nat} (h : k + j < L) (hL : L ≤ 3072) : vp_in (nI k + nI j) L ∧ (nI k + nI j).toNatClampNeg = k + j := by
  rw [nI_add]
  exact ⟨vp_in_nI h (by omega), nI_clamp (by omega)⟩
theorem mq_sx0 {k L : Nat} (h : k < L) (hL : L ≤ 3072) : vp_in (nI k) L ∧ (nI k).toNatClampNeg = k := ⟨vp_in_nI h (by omega), nI_clamp (by omega)⟩
/-- what the law's rows are given -/
def mq_L (p : Program) (s : State) (m : MethodId) (args : Array Value) (c : Code) (D : va_G) (cI cL cB cZ : ClassId) (c1 : Cond) (l : Launch) (sb L : Nat) (xs : Nat → Int32) (s1 s2 : Nat) : Prop :=
  mq_C p s m args c (fun q => s.heap.size ≤ q) D cI cL cB cZ cL_law 7 RL c1 ∧ l.stackTraces = false ∧ va_X sb L xs s s.heap ∧ sb < s.heap.size ∧ L ≤ 3072 ∧ mq_X (fun q => s.heap.size ≤ q) s1 s2 s

set_option maxHeartbeats 4000000 in
theorem zL_X10_feed {p : Program} {l : Launch} {e : Env} {R : Room} {s : State} {m : MethodId} {args : Array Value} {below : List Frame} {meth : Method} {c : Code} {A : Nat → Prop} {D : va_G} {a z : Nat → Nat} {cI cL cB cZ : ClassId} {Q : State → Prop} {cc : ByteArray} {nL idx pc N : Nat} {own : String} {c1 : Cond} {H : Heap} {locs : List Loc} {ls : Array Slot} {rest : List Value} {S : mq_St} {res : Int32 × mq_St} {v1 : Int32} {v2 : Int32} {v3 : Int32} {v4 : Int32} {v5 : Int32} {cells slots : Nat} {wl wr : va_W} (C : mq_C p s m args c A D cI cL cB cZ cc nL own c1) (hcs : cells ≤ R.cells ∧ slots ≤ R.slots) (hlk : Cond.methodLink own idx yX10_feed ∈ mq_T) (hR : zr_X10_feed.frames + 1 ≤ R.frames ∧ 8 + (6 + 11) + zr_X10_feed.locals ≤ R.locals) (h : zf_X10_feed N z v1 v2 v3 v4 v5 S = some res) (hP : va_P D vwCl (wl ++ ((wd_C a cI cL cB cZ z S) ++ wr)) H) (hD : va_D A (wl ++ ((wd_C a cI cL cB cZ z S) ++ wr))) (hS : va_S A s.heap H locs) (hls : ls.size = nL) (hrest : (rest.map fun v => v.category).sum ≤ 8) (hdg : decode cc pc = .ok (.invokevirtual idx, 3)) (kk : ∀ (H1 : Heap) (locs1 : List Loc), va_P D vwCl (wl ++ ((wd_C a cI cL cB cZ z res.2) ++ wr)) H1 → va_D A (wl ++ ((wd_C a cI cL cB cZ z res.2) ++ wr)) → va_S A s.heap H1 locs1 → W p l e R s m args below meth c H1 locs1 cells slots Q (F0 m (pc + 3) ls (.int res.1 :: rest))) : W p l e R s m args below meth c H locs cells slots Q (F0 m pc ls (.int (v5) :: .int (v4) :: .int (v3) :: .int (v2) :: .int (v1) :: .ref (a 0) :: rest)) := by
  obtain ⟨hx, hb, hml, hown, hts, hK, hA⟩ := C
  have hPc := mq_midP hP
  have hDc := mq_midD hD
  have hFc := mq_freeI hDc hS hA
  refine va_calli (va_runV (As := [.int (v1), .int (v2), .int (v3), .int (v4), .int (v5)]) (rest := rest) ⟨hx, hb, hml, hown, hts⟩ (zm_X10_feed l D a z cI cL cB cZ H.size N v1 v2 v3 v4 v5 S res h) (cwV 5 hts (mq_goodL (mq_wsV hlk zt_X10_feed_i zt_X10_feed_s zt_ini_X10 zt_X10_feed_c)) rfl rfl rfl (by decide +kernel) hR) ⟨fun a U g mk q => ⟨q.1, q.2.1, q.2.2.1, va_K.moved (u := U) (U := U.calling g mk a) (Vm.Alike.refl U.vm) q.2.2.2.1, q.2.2.2.2⟩, zy_C_0 hK hPc, fun U hU hW => ⟨rfl, by rw [hU], by rw [hU]; exact hPc, va_K.moved hW.alike hK, hDc.weaken (fun _ _ _ _ => trivial)⟩⟩ rfl rfl hls rfl (lv_room hrest) hdg hcs) hS (fun q _ h => hFc q h) hFc (fun r u t H1 locs ht hvm hw1 hB hz1 hk1 hS => ?_)
  obtain ⟨rfl, rfl⟩ := hw1
  obtain ⟨hP1, hK1, hD1⟩ := hB
  rw [ht] at hP1
  obtain ⟨hP2, hD2⟩ := mq_midJ (w1 := (wd_C a cI cL cB cZ z res.2)) hP hD rfl hk1 hP1
  exact kk H1 locs hP2 hD2 hS
set_option maxHeartbeats 4000000 in
theorem zL_X11_feed {p : Program} {l : Launch} {e : Env} {R : Room} {s : State} {m : MethodId} {args : Array Value} {below : List Frame} {meth : Method} {c : Code} {A : Nat → Prop} {D : va_G} {a z : Nat → Nat} {cI cL cB cZ : ClassId} {Q : State → Prop} {cc : ByteArray} {nL idx pc N : Nat} {own : String} {c1 : Cond} {H : Heap} {locs : List Loc} {ls : Array Slot} {rest : List Value} {S : mq_St} {res : Int32 × mq_St} {v1 : Int32} {v2 : Int32} {v3 : Int32} {v4 : Int32} {v5 : Int32} {cells slots : Nat} {wl wr : va_W} (C : mq_C p s m args c A D cI cL cB cZ cc nL own c1) (hcs : cells ≤ R.cells ∧ slots ≤ R.slots) (hlk : Cond.methodLink own idx yX11_feed ∈ mq_T) (hR : zr_X11_feed.frames + 1 ≤ R.frames ∧ 8 + (6 + 11) + zr_X11_feed.locals ≤ R.locals) (h : zf_X11_feed N z v1 v2 v3 v4 v5 S = some res) (hP : va_P D vwCl (wl ++ ((wd_R a cI cL cB cZ z S) ++ wr)) H) (hD : va_D A (wl ++ ((wd_R a cI cL cB cZ z S) ++ wr))) (hS : va_S A s.heap H locs) (hls : ls.size = nL) (hrest : (rest.map fun v => v.category).sum ≤ 8) (hdg : decode cc pc = .ok (.invokevirtual idx, 3)) (kk : ∀ (H1 : Heap) (locs1 : List Loc), va_P D vwCl (wl ++ ((wd_R a cI cL cB cZ z res.2) ++ wr)) H1 → va_D A (wl ++ ((wd_R a cI cL cB cZ z res.2) ++ wr)) → va_S A s.heap H1 locs1 → W p l e R s m args below meth c H1 locs1 cells slots Q (F0 m (pc + 3) ls (.int res.1 :: rest))) : W p l e R s m args below meth c H locs cells slots Q (F0 m pc ls (.int (v5) :: .int (v4) :: .int (v3) :: .int (v2) :: .int (v1) :: .ref (a 0) :: rest)) := by
  obtain ⟨hx, hb, hml, hown, hts, hK, hA⟩ := C
  have hPc := mq_midP hP
  have hDc := mq_midD hD
  have hFc := mq_freeI hDc hS hA
  refine va_calli (va_runV (As := [.int (v1), .int (v2), .int (v3), .int (v4), .int (v5)]) (rest := rest) ⟨hx, hb, hml, hown, hts⟩ (zm_X11_feed l D a z cI cL cB cZ H.size N v1 v2 v3 v4 v5 S res h) (cwV 5 hts (mq_goodL (mq_wsV hlk zt_X11_feed_i zt_X11_feed_s zt_ini_X11 zt_X11_feed_c)) rfl rfl rfl (by decide +kernel) hR) ⟨fun a U g mk q => ⟨q.1, q.2.1, q.2.2.1, va_K.moved (u := U) (U := U.calling g mk a) (Vm.Alike.refl U.vm) q.2.2.2.1, q.2.2.2.2⟩, zy_R_0 hK hPc, fun U hU hW => ⟨rfl, by rw [hU], by rw [hU]; exact hPc, va_K.moved hW.alike hK, hDc.weaken (fun _ _ _ _ => trivial)⟩⟩ rfl rfl hls rfl (lv_room hrest) hdg hcs) hS (fun q _ h => hFc q h) hFc (fun r u t H1 locs ht hvm hw1 hB hz1 hk1 hS => ?_)
  obtain ⟨rfl, rfl⟩ := hw1
  obtain ⟨hP1, hK1, hD1⟩ := hB
  rw [ht] at hP1
  obtain ⟨hP2, hD2⟩ := mq_midJ (w1 := (wd_R a cI cL cB cZ z res.2)) hP hD rfl hk1 hP1
  exact kk H1 locs hP2 hD2 hS
set_option maxHeartbeats 4000000 in
theorem zL_X10_end {p : Program} {l : Launch} {e : Env} {R : Room} {s : State} {m : MethodId} {args : Array Value} {below : List Frame} {meth : Method} {c : Code} {A : Nat → Prop} {D : va_G} {a z : Nat → Nat} {cI cL cB cZ : ClassId} {Q : State → Prop} {cc : ByteArray} {nL idx pc N : Nat} {own : String} {c1 : Cond} {H : Heap} {locs : List Loc} {ls : Array Slot} {rest : List Value} {S : mq_St} {res : Int32 × mq_St} {v1 : Int32} {cells slots : Nat} {wl wr : va_W} (C : mq_C p s m args c A D cI cL cB cZ cc nL own c1) (hcs : cells ≤ R.cells ∧ slots ≤ R.slots) (hlk : Cond.methodLink own idx yX10_end ∈ mq_T) (hR : zr_X10_end.frames + 1 ≤ R.frames ∧ 8 + (2 + 11) + zr_X10_end.locals ≤ R.locals) (h : zf_X10_end N z v1 S = some res) (hP : va_P D vwCl (wl ++ ((wd_C a cI cL cB cZ z S) ++ wr)) H) (hD : va_D A (wl ++ ((wd_C a cI cL cB cZ z S) ++ wr))) (hS : va_S A s.heap H locs) (hls : ls.size = nL) (hrest : (rest.map fun v => v.category).sum ≤ 8) (hdg : decode cc pc = .ok (.invokevirtual idx, 3)) (kk : ∀ (H1 : Heap) (locs1 : List Loc), va_P D vwCl (wl ++ ((wd_C a cI cL cB cZ z res.2) ++ wr)) H1 → va_D A (wl ++ ((wd_C a cI cL cB cZ z res.2) ++ wr)) → va_S A s.heap H1 locs1 → W p l e R s m args below meth c H1 locs1 cells slots Q (F0 m (pc + 3) ls (.int res.1 :: rest))) : W p l e R s m args below meth c H locs cells slots Q (F0 m pc ls (.int (v1) :: .ref (a 0) :: rest)) := by
  obtain ⟨hx, hb, hml, hown, hts, hK, hA⟩ := C
  have hPc := mq_midP hP
  have hDc := mq_midD hD
  have hFc := mq_freeI hDc hS hA
  refine va_calli (va_runV (As := [.int (v1)]) (rest := rest) ⟨hx, hb, hml, hown, hts⟩ (zm_X10_end l D a z cI cL cB cZ H.size N v1 S res h) (cwV 1 hts (mq_goodL (mq_wsV hlk zt_X10_end_i zt_X10_end_s zt_ini_X10 zt_X10_end_c)) rfl rfl rfl (by decide +kernel) hR) ⟨fun a U g mk q => ⟨q.1, q.2.1, q.2.2.1, va_K.moved (u := U) (U := U.calling g mk a) (Vm.Alike.refl U.vm) q.2.2.2.1, q.2.2.2.2⟩, zy_C_0 hK hPc, fun U hU hW => ⟨rfl, by rw [hU], by rw [hU]; exact hPc, va_K.moved hW.alike hK, hDc.weaken (fun _ _ _ _ => trivial)⟩⟩ rfl rfl hls rfl (lv_room hrest) hdg hcs) hS (fun q _ h => hFc q h) hFc (fun r u t H1 locs ht hvm hw1 hB hz1 hk1 hS => ?_)
  obtain ⟨rfl, rfl⟩ := hw1
  obtain ⟨hP1, hK1, hD1⟩ := hB
  rw [ht] at hP1
  obtain ⟨hP2, hD2⟩ := mq_midJ (w1 := (wd_C a cI cL cB cZ z res.2)) hP hD rfl hk1 hP1
  exact kk H1 locs hP2 hD2 hS
set_option maxHeartbeats 4000000 in
theorem zL_X11_end {p : Program} {l : Launch} {e : Env} {R : Room} {s : State} {m : MethodId} {args : Array Value} {below : List Frame} {meth : Method} {c : Code} {A : Nat → Prop} {D : va_G} {a z : Nat → Nat} {cI cL cB cZ : ClassId} {Q : State → Prop} {cc : ByteArray} {nL idx pc N : Nat} {own : String} {c1 : Cond} {H : Heap} {locs : List Loc} {ls : Array Slot} {rest : List Value} {S : mq_St} {res : Int32 × mq_St} {v1 : Int32} {cells slots : Nat} {wl wr : va_W} (C : mq_C p s m args c A D cI cL cB cZ cc nL own c1) (hcs : cells ≤ R.cells ∧ slots ≤ R.slots) (hlk : Cond.methodLink own idx yX11_end ∈ mq_T) (hR : zr_X11_end.frames + 1 ≤ R.frames ∧ 8 + (2 + 11) + zr_X11_end.locals ≤ R.locals) (h : zf_X11_end N z v1 S = some res) (hP : va_P D vwCl (wl ++ ((wd_R a cI cL cB cZ z S) ++ wr)) H) (hD : va_D A (wl ++ ((wd_R a cI cL cB cZ z S) ++ wr))) (hS : va_S A s.heap H locs) (hls : ls.size = nL) (hrest : (rest.map fun v => v.category).sum ≤ 8) (hdg : decode cc pc = .ok (.invokevirtual idx, 3)) (kk : ∀ (H1 : Heap) (locs1 : List Loc), va_P D vwCl (wl ++ ((wd_R a cI cL cB cZ z res.2) ++ wr)) H1 → va_D A (wl ++ ((wd_R a cI cL cB cZ z res.2) ++ wr)) → va_S A s.heap H1 locs1 → W p l e R s m args below meth c H1 locs1 cells slots Q (F0 m (pc + 3) ls (.int res.1 :: rest))) : W p l e R s m args below meth c H locs cells slots Q (F0 m pc ls (.int (v1) :: .ref (a 0) :: rest)) := by
  obtain ⟨hx, hb, hml, hown, hts, hK, hA⟩ := C
  have hPc := mq_midP hP
  have hDc := mq_midD hD
  have hFc := mq_freeI hDc hS hA
  refine va_calli (va_runV (As := [.int (v1)]) (rest := rest) ⟨hx, hb, hml, hown, hts⟩ (zm_X11_end l D a z cI cL cB cZ H.size N v1 S res h) (cwV 1 hts (mq_goodL (mq_wsV hlk zt_X11_end_i zt_X11_end_s zt_ini_X11 zt_X11_end_c)) rfl rfl rfl (by decide +kernel) hR) ⟨fun a U g mk q => ⟨q.1, q.2.1, q.2.2.1, va_K.moved (u := U) (U := U.calling g mk a) (Vm.Alike.refl U.vm) q.2.2.2.1, q.2.2.2.2⟩, zy_R_0 hK hPc, fun U hU hW => ⟨rfl, by rw [hU], by rw [hU]; exact hPc, va_K.moved hW.alike hK, hDc.weaken (fun _ _ _ _ => trivial)⟩⟩ rfl rfl hls rfl (lv_room hrest) hdg hcs) hS (fun q _ h => hFc q h) hFc (fun r u t H1 locs ht hvm hw1 hB hz1 hk1 hS => ?_)
  obtain ⟨rfl, rfl⟩ := hw1
  obtain ⟨hP1, hK1, hD1⟩ := hB
  rw [ht] at hP1
  obtain ⟨hP2, hD2⟩ := mq_midJ (w1 := (wd_R a cI cL cB cZ z res.2)) hP hD rfl hk1 hP1
  exact kk H1 locs hP2 hD2 hS
set_option maxHeartbeats 4000000 in
theorem zL_X10_take {p : Program} {l : Launch} {e : Env} {R : Room} {s : State} {m : MethodId} {args : Array Value} {below : List Frame} {meth : Method} {c : Code} {A : Nat → Prop} {D : va_G} {a z : Nat → Nat} {cI cL cB cZ : ClassId} {Q : State → Prop} {cc : ByteArray} {nL idx pc N : Nat} {own : String} {c1 : Cond} {H : Heap} {locs : List Loc} {ls : Array Slot} {rest : List Value} {S : mq_St} {res : Int32 × mq_St} {cells slots : Nat} {wl wr : va_W} (C : mq_C p s m args c A D cI cL cB cZ cc nL own c1) (hcs : cells ≤ R.cells ∧ slots ≤ R.slots) (hlk : Cond.methodLink own idx yX10_take ∈ mq_T) (hR : zr_X10_take.frames + 1 ≤ R.frames ∧ 8 + (1 + 11) + zr_X10_take.locals ≤ R.locals) (h : zf_X10_take N z S = some res) (hP : va_P D vwCl (wl ++ ((wd_C a cI cL cB cZ z S) ++ wr)) H) (hD : va_D A (wl ++ ((wd_C a cI cL cB cZ z S) ++ wr))) (hS : va_S A s.heap H locs) (hls : ls.size = nL) (hrest : (rest.map fun v => v.category).sum ≤ 8) (hdg : decode cc pc = .ok (.invokevirtual idx, 3)) (kk : ∀ (H1 : Heap) (locs1 : List Loc), va_P D vwCl (wl ++ ((wd_C a cI cL cB cZ z res.2) ++ wr)) H1 → va_D A (wl ++ ((wd_C a cI cL cB cZ z res.2) ++ wr)) → va_S A s.heap H1 locs1 → W p l e R s m args below meth c H1 locs1 cells slots Q (F0 m (pc + 3) ls (.int res.1 :: rest))) : W p l e R s m args below meth c H locs cells slots Q (F0 m pc ls (.ref (a 0) :: rest)) := by
  obtain ⟨hx, hb, hml, hown, hts, hK, hA⟩ := C
  have hPc := mq_midP hP
  have hDc := mq_midD hD
  have hFc := mq_freeI hDc hS hA
  refine va_calli (va_runV (As := []) (rest := rest) ⟨hx, hb, hml, hown, hts⟩ (zm_X10_take l D a z cI cL cB cZ H.size N S res h) (cwV 0 hts (mq_goodL (mq_wsV hlk zt_X10_take_i zt_X10_take_s zt_ini_X10 zt_X10_take_c)) rfl rfl rfl (by decide +kernel) hR) ⟨fun a U g mk q => ⟨q.1, q.2.1, q.2.2.1, va_K.moved (u := U) (U := U.calling g mk a) (Vm.Alike.refl U.vm) q.2.2.2.1, q.2.2.2.2⟩, zy_C_0 hK hPc, fun U hU hW => ⟨rfl, by rw [hU], by rw [hU]; exact hPc, va_K.moved hW.alike hK, hDc.weaken (fun _ _ _ _ => trivial)⟩⟩ rfl rfl hls rfl (lv_room hrest) hdg hcs) hS (fun q _ h => hFc q h) hFc (fun r u t H1 locs ht hvm hw1 hB hz1 hk1 hS => ?_)
  obtain ⟨rfl, rfl⟩ := hw1
  obtain ⟨hP1, hK1, hD1⟩ := hB
  rw [ht] at hP1
  obtain ⟨hP2, hD2⟩ := mq_midJ (w1 := (wd_C a cI cL cB cZ z res.2)) hP hD rfl hk1 hP1
  exact kk H1 locs hP2 hD2 hS
set_option maxHeartbeats 4000000 in
theorem zL_X11_take {p : Program} {l : Launch} {e : Env} {R : Room} {s : State} {m : MethodId} {args : Array Value} {below : List Frame} {meth : Method} {c : Code} {A : Nat → Prop} {D : va_G} {a z : Nat → Nat} {cI cL cB cZ : ClassId} {Q : State → Prop} {cc : ByteArray} {nL idx pc N : Nat} {own : String} {c1 : Cond} {H : Heap} {locs : List Loc} {ls : Array Slot} {rest : List Value} {S : mq_St} {res : Int32 × mq_St} {cells slots : Nat} {wl wr : va_W} (C : mq_C p s m args c A D cI cL cB cZ cc nL own c1) (hcs : cells ≤ R.cells ∧ slots ≤ R.slots) (hlk : Cond.methodLink own idx yX11_take ∈ mq_T) (hR : zr_X11_take.frames + 1 ≤ R.frames ∧ 8 + (2 + 11) + zr_X11_take.locals ≤ R.locals) (h : zf_X11_take N z S = some res) (hP : va_P D vwCl (wl ++ ((wd_R a cI cL cB cZ z S) ++ wr)) H) (hD : va_D A (wl ++ ((wd_R a cI cL cB cZ z S) ++ wr))) (hS : va_S A s.heap H locs) (hls : ls.size = nL) (hrest : (rest.map fun v => v.category).sum ≤ 8) (hdg : decode cc pc = .ok (.invokevirtual idx, 3)) (kk : ∀ (H1 : Heap) (locs1 : List Loc), va_P D vwCl (wl ++ ((wd_R a cI cL cB cZ z res.2) ++ wr)) H1 → va_D A (wl ++ ((wd_R a cI cL cB cZ z res.2) ++ wr)) → va_S A s.heap H1 locs1 → W p l e R s m args below meth c H1 locs1 cells slots Q (F0 m (pc + 3) ls (.int res.1 :: rest))) : W p l e R s m args below meth c H locs cells slots Q (F0 m pc ls (.ref (a 0) :: rest)) := by
  obtain ⟨hx, hb, hml, hown, hts, hK, hA⟩ := C
  have hPc := mq_midP hP
  have hDc := mq_midD hD
  have hFc := mq_freeI hDc hS hA
  refine va_calli (va_runV (As := []) (rest := rest) ⟨hx, hb, hml, hown, hts⟩ (zm_X11_take l D a z cI cL cB cZ H.size N S res h) (cwV 0 hts (mq_goodL (mq_wsV hlk zt_X11_take_i zt_X11_take_s zt_ini_X11 zt_X11_take_c)) rfl rfl rfl (by decide +kernel) hR) ⟨fun a U g mk q => ⟨q.1, q.2.1, q.2.2.1, va_K.moved (u := U) (U := U.calling g mk a) (Vm.Alike.refl U.vm) q.2.2.2.1, q.2.2.2.2⟩, zy_R_0 hK hPc, fun U hU hW => ⟨rfl, by rw [hU], by rw [hU]; exact hPc, va_K.moved hW.alike hK, hDc.weaken (fun _ _ _ _ => trivial)⟩⟩ rfl rfl hls rfl (lv_room hrest) hdg hcs) hS (fun q _ h => hFc q h) hFc (fun r u t H1 locs ht hvm hw1 hB hz1 hk1 hS => ?_)
  obtain ⟨rfl, rfl⟩ := hw1
  obtain ⟨hP1, hK1, hD1⟩ := hB
  rw [ht] at hP1
  obtain ⟨hP2, hD2⟩ := mq_midJ (w1 := (wd_R a cI cL cB cZ z res.2)) hP hD rfl hk1 hP1
  exact kk H1 locs hP2 hD2 hS
set_option maxHeartbeats 4000000 in
theorem zL_X10_alter {p : Program} {l : Launch} {e : Env} {R : Room} {s : State} {m : MethodId} {args : Array Value} {below : List Frame} {meth : Method} {c : Code} {A : Nat → Prop} {D : va_G} {a z : Nat → Nat} {cI cL cB cZ : ClassId} {Q : State → Prop} {cc : ByteArray} {nL idx pc N : Nat} {own : String} {c1 : Cond} {H : Heap} {locs : List Loc} {ls : Array Slot} {rest : List Value} {S : mq_St} {res : Int32 × mq_St} {v1 : Int32} {v2 : Int32} {cells slots : Nat} {wl wr : va_W} (C : mq_C p s m args c A D cI cL cB cZ cc nL own c1) (hcs : cells ≤ R.cells ∧ slots ≤ R.slots) (hlk : Cond.methodLink own idx yX10_alter ∈ mq_T) (hR : zr_X10_alter.frames + 1 ≤ R.frames ∧ 8 + (3 + 11) + zr_X10_alter.locals ≤ R.locals) (h : zf_X10_alter N z v1 v2 S = some res) (hP : va_P D vwCl (wl ++ ((wd_C a cI cL cB cZ z S) ++ wr)) H) (hD : va_D A (wl ++ ((wd_C a cI cL cB cZ z S) ++ wr))) (hS : va_S A s.heap H locs) (hls : ls.size = nL) (hrest : (rest.map fun v => v.category).sum ≤ 8) (hdg : decode cc pc = .ok (.invokevirtual idx, 3)) (kk : ∀ (H1 : Heap) (locs1 : List Loc), va_P D vwCl (wl ++ ((wd_C a cI cL cB cZ z res.2) ++ wr)) H1 → va_D A (wl ++ ((wd_C a cI cL cB cZ z res.2) ++ wr)) → va_S A s.heap H1 locs1 → W p l e R s m args below meth c H1 locs1 cells slots Q (F0 m (pc + 3) ls (.int res.1 :: rest))) : W p l e R s m args below meth c H locs cells slots Q (F0 m pc ls (.int (v2) :: .int (v1) :: .ref (a 0) :: rest)) := by
  obtain ⟨hx, hb, hml, hown, hts, hK, hA⟩ := C
  have hPc := mq_midP hP
  have hDc := mq_midD hD
  have hFc := mq_freeI hDc hS hA
  refine va_calli (va_runV (As := [.int (v1), .int (v2)]) (rest := rest) ⟨hx, hb, hml, hown, hts⟩ (zm_X10_alter l D a z cI cL cB cZ H.size N v1 v2 S res h) (cwV 2 hts (mq_goodL (mq_wsV hlk zt_X10_alter_i zt_X10_alter_s zt_ini_X10 zt_X10_alter_c)) rfl rfl rfl (by decide +kernel) hR) ⟨fun a U g mk q => ⟨q.1, q.2.1, q.2.2.1, va_K.moved (u := U) (U := U.calling g mk a) (Vm.Alike.refl U.vm) q.2.2.2.1, q.2.2.2.2⟩, zy_C_0 hK hPc, fun U hU hW => ⟨rfl, by rw [hU], by rw [hU]; exact hPc, va_K.moved hW.alike hK, hDc.weaken (fun _ _ _ _ => trivial)⟩⟩ rfl rfl hls rfl (lv_room hrest) hdg hcs) hS (fun q _ h => hFc q h) hFc (fun r u t H1 locs ht hvm hw1 hB hz1 hk1 hS => ?_)
  obtain ⟨rfl, rfl⟩ := hw1
  obtain ⟨hP1, hK1, hD1⟩ := hB
  rw [ht] at hP1
  obtain ⟨hP2, hD2⟩ := mq_midJ (w1 := (wd_C a cI cL cB cZ z res.2)) hP hD rfl hk1 hP1
  exact kk H1 locs hP2 hD2 hS
set_option maxHeartbeats 4000000 in
theorem zL_X11_alter {p : Program} {l : Launch} {e : Env} {R : Room} {s : State} {m : MethodId} {args : Array Value} {below : List Frame} {meth : Method} {c : Code} {A : Nat → Prop} {D : va_G} {a z : Nat → Nat} {cI cL cB cZ : ClassId} {Q : State → Prop} {cc : ByteArray} {nL idx pc N : Nat} {own : String} {c1 : Cond} {H : Heap} {locs : List Loc} {ls : Array Slot} {rest : List Value} {S : mq_St} {res : Int32 × mq_St} {v1 : Int32} {v2 : Int32} {cells slots : Nat} {wl wr : va_W} (C : mq_C p s m args c A D cI cL cB cZ cc nL own c1) (hcs : cells ≤ R.cells ∧ slots ≤ R.slots) (hlk : Cond.methodLink own idx yX11_alter ∈ mq_T) (hR : zr_X11_alter.frames + 1 ≤ R.frames ∧ 8 + (3 + 11) + zr_X11_alter.locals ≤ R.locals) (h : zf_X11_alter N z v1 v2 S = some res) (hP : va_P D vwCl (wl ++ ((wd_R a cI cL cB cZ z S) ++ wr)) H) (hD : va_D A (wl ++ ((wd_R a cI cL cB cZ z S) ++ wr))) (hS : va_S A s.heap H locs) (hls : ls.size = nL) (hrest : (rest.map fun v => v.category).sum ≤ 8) (hdg : decode cc pc = .ok (.invokevirtual idx, 3)) (kk : ∀ (H1 : Heap) (locs1 : List Loc), va_P D vwCl (wl ++ ((wd_R a cI cL cB cZ z res.2) ++ wr)) H1 → va_D A (wl ++ ((wd_R a cI cL cB cZ z res.2) ++ wr)) → va_S A s.heap H1 locs1 → W p l e R s m args below meth c H1 locs1 cells slots Q (F0 m (pc + 3) ls (.int res.1 :: rest))) : W p l e R s m args below meth c H locs cells slots Q (F0 m pc ls (.int (v2) :: .int (v1) :: .ref (a 0) :: rest)) := by
  obtain ⟨hx, hb, hml, hown, hts, hK, hA⟩ := C
  have hPc := mq_midP hP
  have hDc := mq_midD hD
  have hFc := mq_freeI hDc hS hA
  refine va_calli (va_runV (As := [.int (v1), .int (v2)]) (rest := rest) ⟨hx, hb, hml, hown, hts⟩ (zm_X11_alter l D a z cI cL cB cZ H.size N v1 v2 S res h) (cwV 2 hts (mq_goodL (mq_wsV hlk zt_X11_alter_i zt_X11_alter_s zt_ini_X11 zt_X11_alter_c)) rfl rfl rfl (by decide +kernel) hR) ⟨fun a U g mk q => ⟨q.1, q.2.1, q.2.2.1, va_K.moved (u := U) (U := U.calling g mk a) (Vm.Alike.refl U.vm) q.2.2.2.1, q.2.2.2.2⟩, zy_R_0 hK hPc, fun U hU hW => ⟨rfl, by rw [hU], by rw [hU]; exact hPc, va_K.moved hW.alike hK, hDc.weaken (fun _ _ _ _ => trivial)⟩⟩ rfl rfl hls rfl (lv_room hrest) hdg hcs) hS (fun q _ h => hFc q h) hFc (fun r u t H1 locs ht hvm hw1 hB hz1 hk1 hS => ?_)
  obtain ⟨rfl, rfl⟩ := hw1
  obtain ⟨hP1, hK1, hD1⟩ := hB
  rw [ht] at hP1
  obtain ⟨hP2, hD2⟩ := mq_midJ (w1 := (wd_R a cI cL cB cZ z res.2)) hP hD rfl hk1 hP1
  exact kk H1 locs hP2 hD2 hS
set_option maxHeartbeats 4000000 in
theorem zL_X10_out {p : Program} {l : Launch} {e : Env} {R : Room} {s : State} {m : MethodId} {args : Array Value} {below : List Frame} {meth : Method} {c : Code} {A : Nat → Prop} {D : va_G} {a z : Nat → Nat} {cI cL cB cZ : ClassId} {Q : State → Prop} {cc : ByteArray} {nL idx pc N : Nat} {own : String} {c1 : Cond} {H : Heap} {locs : List Loc} {ls : Array Slot} {rest : List Value} {S : mq_St} {res : Int32} {v1 : Int32} {cells slots : Nat} {wl wr : va_W} (C : mq_C p s m args c A D cI cL cB cZ cc nL own c1) (hcs : cells ≤ R.cells ∧ slots ≤ R.slots) (hlk : Cond.methodLink own idx yX10_out ∈ mq_T) (hR : zr_X10_out.frames + 1 ≤ R.frames ∧ 8 + (2 + 11) + zr_X10_out.locals ≤ R.locals) (h : zf_X10_out N z v1 S = some res) (hP : va_P D vwCl (wl ++ ((wd_C a cI cL cB cZ z S) ++ wr)) H) (hD : va_D A (wl ++ ((wd_C a cI cL cB cZ z S) ++ wr))) (hS : va_S A s.heap H locs) (hls : ls.size = nL) (hrest : (rest.map fun v => v.category).sum ≤ 8) (hdg : decode cc pc = .ok (.invokevirtual idx, 3)) (kk : ∀ (H1 : Heap) (locs1 : List Loc), va_P D vwCl (wl ++ ((wd_C a cI cL cB cZ z S) ++ wr)) H1 → va_D A (wl ++ ((wd_C a cI cL cB cZ z S) ++ wr)) → va_S A s.heap H1 locs1 → W p l e R s m args below meth c H1 locs1 cells slots Q (F0 m (pc + 3) ls (.int res :: rest))) : W p l e R s m args below meth c H locs cells slots Q (F0 m pc ls (.int (v1) :: .ref (a 0) :: rest)) := by
  obtain ⟨hx, hb, hml, hown, hts, hK, hA⟩ := C
  have hPc := mq_midP hP
  have hDc := mq_midD hD
  have hFc := mq_freeI hDc hS hA
  refine va_calli (va_runV (As := [.int (v1)]) (rest := rest) ⟨hx, hb, hml, hown, hts⟩ (zm_X10_out l D a z cI cL cB cZ H.size N v1 S res h) (cwV 1 hts (mq_goodL (mq_wsV hlk zt_X10_out_i zt_X10_out_s zt_ini_X10 zt_X10_out_c)) rfl rfl rfl (by decide +kernel) hR) ⟨fun a U g mk q => ⟨q.1, q.2.1, q.2.2.1, va_K.moved (u := U) (U := U.calling g mk a) (Vm.Alike.refl U.vm) q.2.2.2.1, q.2.2.2.2⟩, zy_C_0 hK hPc, fun U hU hW => ⟨rfl, by rw [hU], by rw [hU]; exact hPc, va_K.moved hW.alike hK, hDc.weaken (fun _ _ _ _ => trivial)⟩⟩ rfl rfl hls rfl (lv_room hrest) hdg hcs) hS (fun q _ h => hFc q h) hFc (fun r u t H1 locs ht hvm hw1 hB hz1 hk1 hS => ?_)
  obtain ⟨rfl, rfl⟩ := hw1
  obtain ⟨hP1, hK1, hD1⟩ := hB
  rw [ht] at hP1
  obtain ⟨hP2, hD2⟩ := mq_midJ hP hD rfl hk1 hP1
  exact kk H1 locs hP2 hD2 hS
set_option maxHeartbeats 4000000 in
theorem zL_X11_out {p : Program} {l : Launch} {e : Env} {R : Room} {s : State} {m : MethodId} {args : Array Value} {below : List Frame} {meth : Method} {c : Code} {A : Nat → Prop} {D : va_G} {a z : Nat → Nat} {cI cL cB cZ : ClassId} {Q : State → Prop} {cc : ByteArray} {nL idx pc N : Nat} {own : String} {c1 : Cond} {H : Heap} {locs : List Loc} {ls : Array Slot} {rest : List Value} {S : mq_St} {res : Int32 × mq_St} {v1 : Int32} {cells slots : Nat} {wl wr : va_W} (C : mq_C p s m args c A D cI cL cB cZ cc nL own c1) (hcs : cells ≤ R.cells ∧ slots ≤ R.slots) (hlk : Cond.methodLink own idx yX11_out ∈ mq_T) (hR : zr_X11_out.frames + 1 ≤ R.frames ∧ 8 + (2 + 11) + zr_X11_out.locals ≤ R.locals) (h : zf_X11_out N z v1 S = some res) (hP : va_P D vwCl (wl ++ ((wd_R a cI cL cB cZ z S) ++ wr)) H) (hD : va_D A (wl ++ ((wd_R a cI cL cB cZ z S) ++ wr))) (hS : va_S A s.heap H locs) (hls : ls.size = nL) (hrest : (rest.map fun v => v.category).sum ≤ 8) (hdg : decode cc pc = .ok (.invokevirtual idx, 3)) (kk : ∀ (H1 : Heap) (locs1 : List Loc), va_P D vwCl (wl ++ ((wd_R a cI cL cB cZ z res.2) ++ wr)) H1 → va_D A (wl ++ ((wd_R a cI cL cB cZ z res.2) ++ wr)) → va_S A s.heap H1 locs1 → W p l e R s m args below meth c H1 locs1 cells slots Q (F0 m (pc + 3) ls (.int res.1 :: rest))) : W p l e R s m args below meth c H locs cells slots Q (F0 m pc ls (.int (v1) :: .ref (a 0) :: rest)) := by
  obtain ⟨hx, hb, hml, hown, hts, hK, hA⟩ := C
  have hPc := mq_midP hP
  have hDc := mq_midD hD
  have hFc := mq_freeI hDc hS hA
  refine va_calli (va_runV (As := [.int (v1)]) (rest := rest) ⟨hx, hb, hml, hown, hts⟩ (zm_X11_out l D a z cI cL cB cZ H.size N v1 S res h) (cwV 1 hts (mq_goodL (mq_wsV hlk zt_X11_out_i zt_X11_out_s zt_ini_X11 zt_X11_out_c)) rfl rfl rfl (by decide +kernel) hR) ⟨fun a U g mk q => ⟨q.1, q.2.1, q.2.2.1, va_K.moved (u := U) (U := U.calling g mk a) (Vm.Alike.refl U.vm) q.2.2.2.1, q.2.2.2.2⟩, zy_R_0 hK hPc, fun U hU hW => ⟨rfl, by rw [hU], by rw [hU]; exact hPc, va_K.moved hW.alike hK, hDc.weaken (fun _ _ _ _ => trivial)⟩⟩ rfl rfl hls rfl (lv_room hrest) hdg hcs) hS (fun q _ h => hFc q h) hFc (fun r u t H1 locs ht hvm hw1 hB hz1 hk1 hS => ?_)
  obtain ⟨rfl, rfl⟩ := hw1
  obtain ⟨hP1, hK1, hD1⟩ := hB
  rw [ht] at hP1
  obtain ⟨hP2, hD2⟩ := mq_midJ (w1 := (wd_R a cI cL cB cZ z res.2)) hP hD rfl hk1 hP1
  exact kk H1 locs hP2 hD2 hS
set_option maxHeartbeats 4000000 in
theorem zL_X10_read {p : Program} {l : Launch} {e : Env} {R : Room} {s : State} {m : MethodId} {args : Array Value} {below : List Frame} {meth : Method} {c : Code} {A : Nat → Prop} {D : va_G} {a z : Nat → Nat} {cI cL cB cZ : ClassId} {Q : State → Prop} {cc : ByteArray} {nL idx pc N : Nat} {own : String} {c1 : Cond} {H : Heap} {locs : List Loc} {ls : Array Slot} {rest : List Value} {S : mq_St} {res : Int32 × mq_St} {v1 : Int32} {v2 : Int32} {cells slots : Nat} {wl wr : va_W} (C : mq_C p s m args c A D cI cL cB cZ cc nL own c1) (hcs : cells ≤ R.cells ∧ slots ≤ R.slots) (hlk : Cond.methodLink own idx yX10_read ∈ mq_T) (hR : zr_X10_read.frames + 1 ≤ R.frames ∧ 8 + (4 + 11) + zr_X10_read.locals ≤ R.locals) (h : zf_X10_read N z v1 v2 S = some res) (hP : va_P D vwCl (wl ++ ((wd_C a cI cL cB cZ z S) ++ wr)) H) (hD : va_D A (wl ++ ((wd_C a cI cL cB cZ z S) ++ wr))) (hS : va_S A s.heap H locs) (hls : ls.size = nL) (hrest : (rest.map fun v => v.category).sum ≤ 8) (hdg : decode cc pc = .ok (.invokevirtual idx, 3)) (kk : ∀ (H1 : Heap) (locs1 : List Loc), va_P D vwCl (wl ++ ((wd_C a cI cL cB cZ z res.2) ++ wr)) H1 → va_D A (wl ++ ((wd_C a cI cL cB cZ z res.2) ++ wr)) → va_S A s.heap H1 locs1 → W p l e R s m args below meth c H1 locs1 cells slots Q (F0 m (pc + 3) ls (.int res.1 :: rest))) : W p l e R s m args below meth c H locs cells slots Q (F0 m pc ls (.int (v2) :: .int (v1) :: .ref (a 0) :: rest)) := by
  obtain ⟨hx, hb, hml, hown, hts, hK, hA⟩ := C
  have hPc := mq_midP hP
  have hDc := mq_midD hD
  have hFc := mq_freeI hDc hS hA
  refine va_calli (va_runV (As := [.int (v1), .int (v2)]) (rest := rest) ⟨hx, hb, hml, hown, hts⟩ (zm_X10_read l D a z cI cL cB cZ H.size N v1 v2 S res h) (cwV 2 hts (mq_goodL (mq_wsV hlk zt_X10_read_i zt_X10_read_s zt_ini_X10 zt_X10_read_c)) rfl rfl rfl (by decide +kernel) hR) ⟨fun a U g mk q => ⟨q.1, q.2.1, q.2.2.1, va_K.moved (u := U) (U := U.calling g mk a) (Vm.Alike.refl U.vm) q.2.2.2.1, q.2.2.2.2⟩, zy_C_0 hK hPc, fun U hU hW => ⟨rfl, by rw [hU], by rw [hU]; exact hPc, va_K.moved hW.alike hK, hDc.weaken (fun _ _ _ _ => trivial)⟩⟩ rfl rfl hls rfl (lv_room hrest) hdg hcs) hS (fun q _ h => hFc q h) hFc (fun r u t H1 locs ht hvm hw1 hB hz1 hk1 hS => ?_)
  obtain ⟨rfl, rfl⟩ := hw1
  obtain ⟨hP1, hK1, hD1⟩ := hB
  rw [ht] at hP1
  obtain ⟨hP2, hD2⟩ := mq_midJ (w1 := (wd_C a cI cL cB cZ z res.2)) hP hD rfl hk1 hP1
  exact kk H1 locs hP2 hD2 hS
set_option maxHeartbeats 4000000 in
theorem zL_X11_read {p : Program} {l : Launch} {e : Env} {R : Room} {s : State} {m : MethodId} {args : Array Value} {below : List Frame} {meth : Method} {c : Code} {A : Nat → Prop} {D : va_G} {a z : Nat → Nat} {cI cL cB cZ : ClassId} {Q : State → Prop} {cc : ByteArray} {nL idx pc N : Nat} {own : String} {c1 : Cond} {H : Heap} {locs : List Loc} {ls : Array Slot} {rest : List Value} {S : mq_St} {res : Int32 × mq_St} {v1 : Int32} {v2 : Int32} {cells slots : Nat} {wl wr : va_W} (C : mq_C p s m args c A D cI cL cB cZ cc nL own c1) (hcs : cells ≤ R.cells ∧ slots ≤ R.slots) (hlk : Cond.methodLink own idx yX11_read ∈ mq_T) (hR : zr_X11_read.frames + 1 ≤ R.frames ∧ 8 + (8 + 11) + zr_X11_read.locals ≤ R.locals) (h : zf_X11_read N z v1 v2 S = some res) (hP : va_P D vwCl (wl ++ ((wd_R a cI cL cB cZ z S) ++ wr)) H) (hD : va_D A (wl ++ ((wd_R a cI cL cB cZ z S) ++ wr))) (hS : va_S A s.heap H locs) (hls : ls.size = nL) (hrest : (rest.map fun v => v.category).sum ≤ 8) (hdg : decode cc pc = .ok (.invokevirtual idx, 3)) (kk : ∀ (H1 : Heap) (locs1 : List Loc), va_P D vwCl (wl ++ ((wd_R a cI cL cB cZ z res.2) ++ wr)) H1 → va_D A (wl ++ ((wd_R a cI cL cB cZ z res.2) ++ wr)) → va_S A s.heap H1 locs1 → W p l e R s m args below meth c H1 locs1 cells slots Q (F0 m (pc + 3) ls (.int res.1 :: rest))) : W p l e R s m args below meth c H locs cells slots Q (F0 m pc ls (.int (v2) :: .int (v1) :: .ref (a 0) :: rest)) := by
  obtain ⟨hx, hb, hml, hown, hts, hK, hA⟩ := C
  have hPc := mq_midP hP
  have hDc := mq_midD hD
  have hFc := mq_freeI hDc hS hA
  refine va_calli (va_runV (As := [.int (v1), .int (v2)]) (rest := rest) ⟨hx, hb, hml, hown, hts⟩ (zm_X11_read l D a z cI cL cB cZ H.size N v1 v2 S res h) (cwV 2 hts (mq_goodL (mq_wsV hlk zt_X11_read_i zt_X11_read_s zt_ini_X11 zt_X11_read_c)) rfl rfl rfl (by decide +kernel) hR) ⟨fun a U g mk q => ⟨q.1, q.2.1, q.2.2.1, va_K.moved (u := U) (U := U.calling g mk a) (Vm.Alike.refl U.vm) q.2.2.2.1, q.2.2.2.2⟩, zy_R_0 hK hPc, fun U hU hW => ⟨rfl, by rw [hU], by rw [hU]; exact hPc, va_K.moved hW.alike hK, hDc.weaken (fun _ _ _ _ => trivial)⟩⟩ rfl rfl hls rfl (lv_room hrest) hdg hcs) hS (fun q _ h => hFc q h) hFc (fun r u t H1 locs ht hvm hw1 hB hz1 hk1 hS => ?_)
  obtain ⟨rfl, rfl⟩ := hw1
  obtain ⟨hP1, hK1, hD1⟩ := hB
  rw [ht] at hP1
  obtain ⟨hP2, hD2⟩ := mq_midJ (w1 := (wd_R a cI cL cB cZ z res.2)) hP hD rfl hk1 hP1
  exact kk H1 locs hP2 hD2 hS
set_option maxHeartbeats 4000000 in
theorem zL_X10_fault {p : Program} {l : Launch} {e : Env} {R : Room} {s : State} {m : MethodId} {args : Array Value} {below : List Frame} {meth : Method} {c : Code} {A : Nat → Prop} {D : va_G} {a z : Nat → Nat} {cI cL cB cZ : ClassId} {Q : State → Prop} {cc : ByteArray} {nL idx pc N : Nat} {own : String} {c1 : Cond} {H : Heap} {locs : List Loc} {ls : Array Slot} {rest : List Value} {S : mq_St} {res : Int32} {v1 : Int32} {cells slots : Nat} {wl wr : va_W} (C : mq_C p s m args c A D cI cL cB cZ cc nL own c1) (hcs : cells ≤ R.cells ∧ slots ≤ R.slots) (hlk : Cond.methodLink own idx yX10_fault ∈ mq_T) (hR : zr_X10_fault.frames + 1 ≤ R.frames ∧ 8 + (2 + 11) + zr_X10_fault.locals ≤ R.locals) (h : zf_X10_fault N z v1 S = some res) (hP : va_P D vwCl (wl ++ ((wd_C a cI cL cB cZ z S) ++ wr)) H) (hD : va_D A (wl ++ ((wd_C a cI cL cB cZ z S) ++ wr))) (hS : va_S A s.heap H locs) (hls : ls.size = nL) (hrest : (rest.map fun v => v.category).sum ≤ 8) (hdg : decode cc pc = .ok (.invokevirtual idx, 3)) (kk : ∀ (H1 : Heap) (locs1 : List Loc), va_P D vwCl (wl ++ ((wd_C a cI cL cB cZ z S) ++ wr)) H1 → va_D A (wl ++ ((wd_C a cI cL cB cZ z S) ++ wr)) → va_S A s.heap H1 locs1 → W p l e R s m args below meth c H1 locs1 cells slots Q (F0 m (pc + 3) ls (.int res :: rest))) : W p l e R s m args below meth c H locs cells slots Q (F0 m pc ls (.int (v1) :: .ref (a 0) :: rest)) := by
  obtain ⟨hx, hb, hml, hown, hts, hK, hA⟩ := C
  have hPc := mq_midP hP
  have hDc := mq_midD hD
  have hFc := mq_freeI hDc hS hA
  refine va_calli (va_runV (As := [.int (v1)]) (rest := rest) ⟨hx, hb, hml, hown, hts⟩ (zm_X10_fault l D a z cI cL cB cZ H.size N v1 S res h) (cwV 1 hts (mq_goodL (mq_wsV hlk zt_X10_fault_i zt_X10_fault_s zt_ini_X10 zt_X10_fault_c)) rfl rfl rfl (by decide +kernel) hR) ⟨fun a U g mk q => ⟨q.1, q.2.1, q.2.2.1, va_K.moved (u := U) (U := U.calling g mk a) (Vm.Alike.refl U.vm) q.2.2.2.1, q.2.2.2.2⟩, zy_C_0 hK hPc, fun U hU hW => ⟨rfl, by rw [hU], by rw [hU]; exact hPc, va_K.moved hW.alike hK, hDc.weaken (fun _ _ _ _ => trivial)⟩⟩ rfl rfl hls rfl (lv_room hrest) hdg hcs) hS (fun q _ h => hFc q h) hFc (fun r u t H1 locs ht hvm hw1 hB hz1 hk1 hS => ?_)
  obtain ⟨rfl, rfl⟩ := hw1
  obtain ⟨hP1, hK1, hD1⟩ := hB
  rw [ht] at hP1
  obtain ⟨hP2, hD2⟩ := mq_midJ hP hD rfl hk1 hP1
  exact kk H1 locs hP2 hD2 hS
set_option maxHeartbeats 4000000 in
theorem zL_X11_fault {p : Program} {l : Launch} {e : Env} {R : Room} {s : State} {m : MethodId} {args : Array Value} {below : List Frame} {meth : Method} {c : Code} {A : Nat → Prop} {D : va_G} {a z : Nat → Nat} {cI cL cB cZ : ClassId} {Q : State → Prop} {cc : ByteArray} {nL idx pc N : Nat} {own : String} {c1 : Cond} {H : Heap} {locs : List Loc} {ls : Array Slot} {rest : List Value} {S : mq_St} {res : Int32 × mq_St} {v1 : Int32} {cells slots : Nat} {wl wr : va_W} (C : mq_C p s m args c A D cI cL cB cZ cc nL own c1) (hcs : cells ≤ R.cells ∧ slots ≤ R.slots) (hlk : Cond.methodLink own idx yX11_fault ∈ mq_T) (hR : zr_X11_fault.frames + 1 ≤ R.frames ∧ 8 + (2 + 11) + zr_X11_fault.locals ≤ R.locals) (h : zf_X11_fault N z v1 S = some res) (hP : va_P D vwCl (wl ++ ((wd_R a cI cL cB cZ z S) ++ wr)) H) (hD : va_D A (wl ++ ((wd_R a cI cL cB cZ z S) ++ wr))) (hS : va_S A s.heap H locs) (hls : ls.size = nL) (hrest : (rest.map fun v => v.category).sum ≤ 8) (hdg : decode cc pc = .ok (.invokevirtual idx, 3)) (kk : ∀ (H1 : Heap) (locs1 : List Loc), va_P D vwCl (wl ++ ((wd_R a cI cL cB cZ z res.2) ++ wr)) H1 → va_D A (wl ++ ((wd_R a cI cL cB cZ z res.2) ++ wr)) → va_S A s.heap H1 locs1 → W p l e R s m args below meth c H1 locs1 cells slots Q (F0 m (pc + 3) ls (.int res.1 :: rest))) : W p l e R s m args below meth c H locs cells slots Q (F0 m pc ls (.int (v1) :: .ref (a 0) :: rest)) := by
  obtain ⟨hx, hb, hml, hown, hts, hK, hA⟩ := C
  have hPc := mq_midP hP
  have hDc := mq_midD hD
  have hFc := mq_freeI hDc hS hA
  refine va_calli (va_runV (As := [.int (v1)]) (rest := rest) ⟨hx, hb, hml, hown, hts⟩ (zm_X11_fault l D a z cI cL cB cZ H.size N v1 S res h) (cwV 1 hts (mq_goodL (mq_wsV hlk zt_X11_fault_i zt_X11_fault_s zt_ini_X11 zt_X11_fault_c)) rfl rfl rfl (by decide +kernel) hR) ⟨fun a U g mk q => ⟨q.1, q.2.1, q.2.2.1, va_K.moved (u := U) (U := U.calling g mk a) (Vm.Alike.refl U.vm) q.2.2.2.1, q.2.2.2.2⟩, zy_R_0 hK hPc, fun U hU hW => ⟨rfl, by rw [hU], by rw [hU]; exact hPc, va_K.moved hW.alike hK, hDc.weaken (fun _ _ _ _ => trivial)⟩⟩ rfl rfl hls rfl (lv_room hrest) hdg hcs) hS (fun q _ h => hFc q h) hFc (fun r u t H1 locs ht hvm hw1 hB hz1 hk1 hS => ?_)
  obtain ⟨rfl, rfl⟩ := hw1
  obtain ⟨hP1, hK1, hD1⟩ := hB
  rw [ht] at hP1
  obtain ⟨hP2, hD2⟩ := mq_midJ (w1 := (wd_R a cI cL cB cZ z res.2)) hP hD rfl hk1 hP1
  exact kk H1 locs hP2 hD2 hS
set_option maxHeartbeats 4000000 in
theorem zL_X10_set {p : Program} {l : Launch} {e : Env} {R : Room} {s : State} {m : MethodId} {args : Array Value} {below : List Frame} {meth : Method} {c : Code} {A : Nat → Prop} {D : va_G} {a z : Nat → Nat} {cI cL cB cZ : ClassId} {Q : State → Prop} {cc : ByteArray} {nL idx pc N : Nat} {own : String} {c1 : Cond} {H : Heap} {locs : List Loc} {ls : Array Slot} {rest : List Value} {S : mq_St} {res : Int32 × mq_St} {v1 : Int32} {v2 : Int32} {cells slots : Nat} {wl wr : va_W} (C : mq_C p s m args c A D cI cL cB cZ cc nL own c1) (hcs : cells ≤ R.cells ∧ slots ≤ R.slots) (hlk : Cond.methodLink own idx yX10_set ∈ mq_T) (hR : zr_X10_set.frames + 1 ≤ R.frames ∧ 8 + (3 + 11) + zr_X10_set.locals ≤ R.locals) (h : zf_X10_set N z v1 v2 S = some res) (hP : va_P D vwCl (wl ++ ((wd_C a cI cL cB cZ z S) ++ wr)) H) (hD : va_D A (wl ++ ((wd_C a cI cL cB cZ z S) ++ wr))) (hS : va_S A s.heap H locs) (hls : ls.size = nL) (hrest : (rest.map fun v => v.category).sum ≤ 8) (hdg : decode cc pc = .ok (.invokevirtual idx, 3)) (kk : ∀ (H1 : Heap) (locs1 : List Loc), va_P D vwCl (wl ++ ((wd_C a cI cL cB cZ z res.2) ++ wr)) H1 → va_D A (wl ++ ((wd_C a cI cL cB cZ z res.2) ++ wr)) → va_S A s.heap H1 locs1 → W p l e R s m args below meth c H1 locs1 cells slots Q (F0 m (pc + 3) ls (.int res.1 :: rest))) : W p l e R s m args below meth c H locs cells slots Q (F0 m pc ls (.int (v2) :: .int (v1) :: .ref (a 0) :: rest)) := by
  obtain ⟨hx, hb, hml, hown, hts, hK, hA⟩ := C
  have hPc := mq_midP hP
  have hDc := mq_midD hD
  have hFc := mq_freeI hDc hS hA
  refine va_calli (va_runV (As := [.int (v1), .int (v2)]) (rest := rest) ⟨hx, hb, hml, hown, hts⟩ (zm_X10_set l D a z cI cL cB cZ H.size N v1 v2 S res h) (cwV 2 hts (mq_goodL (mq_wsV hlk zt_X10_set_i zt_X10_set_s zt_ini_X10 zt_X10_set_c)) rfl rfl rfl (by decide +kernel) hR) ⟨fun a U g mk q => ⟨q.1, q.2.1, q.2.2.1, va_K.moved (u := U) (U := U.calling g mk a) (Vm.Alike.refl U.vm) q.2.2.2.1, q.2.2.2.2⟩, zy_C_0 hK hPc, fun U hU hW => ⟨rfl, by rw [hU], by rw [hU]; exact hPc, va_K.moved hW.alike hK, hDc.weaken (fun _ _ _ _ => trivial)⟩⟩ rfl rfl hls rfl (lv_room hrest) hdg hcs) hS (fun q _ h => hFc q h) hFc (fun r u t H1 locs ht hvm hw1 hB hz1 hk1 hS => ?_)
  obtain ⟨rfl, rfl⟩ := hw1
  obtain ⟨hP1, hK1, hD1⟩ := hB
  rw [ht] at hP1
  obtain ⟨hP2, hD2⟩ := mq_midJ (w1 := (wd_C a cI cL cB cZ z res.2)) hP hD rfl hk1 hP1
  exact kk H1 locs hP2 hD2 hS
set_option maxHeartbeats 4000000 in
theorem zL_X11_set {p : Program} {l : Launch} {e : Env} {R : Room} {s : State} {m : MethodId} {args : Array Value} {below : List Frame} {meth : Method} {c : Code} {A : Nat → Prop} {D : va_G} {a z : Nat → Nat} {cI cL cB cZ : ClassId} {Q : State → Prop} {cc : ByteArray} {nL idx pc N : Nat} {own : String} {c1 : Cond} {H : Heap} {locs : List Loc} {ls : Array Slot} {rest : List Value} {S : mq_St} {res : Int32 × mq_St} {v1 : Int32} {v2 : Int32} {cells slots : Nat} {wl wr : va_W} (C : mq_C p s m args c A D cI cL cB cZ cc nL own c1) (hcs : cells ≤ R.cells ∧ slots ≤ R.slots) (hlk : Cond.methodLink own idx yX11_set ∈ mq_T) (hR : zr_X11_set.frames + 1 ≤ R.frames ∧ 8 + (5 + 11) + zr_X11_set.locals ≤ R.locals) (h : zf_X11_set N z v1 v2 S = some res) (hP : va_P D vwCl (wl ++ ((wd_R a cI cL cB cZ z S) ++ wr)) H) (hD : va_D A (wl ++ ((wd_R a cI cL cB cZ z S) ++ wr))) (hS : va_S A s.heap H locs) (hls : ls.size = nL) (hrest : (rest.map fun v => v.category).sum ≤ 8) (hdg : decode cc pc = .ok (.invokevirtual idx, 3)) (kk : ∀ (H1 : Heap) (locs1 : List Loc), va_P D vwCl (wl ++ ((wd_R a cI cL cB cZ z res.2) ++ wr)) H1 → va_D A (wl ++ ((wd_R a cI cL cB cZ z res.2) ++ wr)) → va_S A s.heap H1 locs1 → W p l e R s m args below meth c H1 locs1 cells slots Q (F0 m (pc + 3) ls (.int res.1 :: rest))) : W p l e R s m args below meth c H locs cells slots Q (F0 m pc ls (.int (v2) :: .int (v1) :: .ref (a 0) :: rest)) := by
  obtain ⟨hx, hb, hml, hown, hts, hK, hA⟩ := C
  have hPc := mq_midP hP
  have hDc := mq_midD hD
  have hFc := mq_freeI hDc hS hA
  refine va_calli (va_runV (As := [.int (v1), .int (v2)]) (rest := rest) ⟨hx, hb, hml, hown, hts⟩ (zm_X11_set l D a z cI cL cB cZ H.size N v1 v2 S res h) (cwV 2 hts (mq_goodL (mq_wsV hlk zt_X11_set_i zt_X11_set_s zt_ini_X11 zt_X11_set_c)) rfl rfl rfl (by decide +kernel) hR) ⟨fun a U g mk q => ⟨q.1, q.2.1, q.2.2.1, va_K.moved (u := U) (U := U.calling g mk a) (Vm.Alike.refl U.vm) q.2.2.2.1, q.2.2.2.2⟩, zy_R_0 hK hPc, fun U hU hW => ⟨rfl, by rw [hU], by rw [hU]; exact hPc, va_K.moved hW.alike hK, hDc.weaken (fun _ _ _ _ => trivial)⟩⟩ rfl rfl hls rfl (lv_room hrest) hdg hcs) hS (fun q _ h => hFc q h) hFc (fun r u t H1 locs ht hvm hw1 hB hz1 hk1 hS => ?_)
  obtain ⟨rfl, rfl⟩ := hw1
  obtain ⟨hP1, hK1, hD1⟩ := hB
  rw [ht] at hP1
  obtain ⟨hP2, hD2⟩ := mq_midJ (w1 := (wd_R a cI cL cB cZ z res.2)) hP hD rfl hk1 hP1
  exact kk H1 locs hP2 hD2 hS
set_option maxHeartbeats 4000000 in
theorem zL_X10_slot {p : Program} {l : Launch} {e : Env} {R : Room} {s : State} {m : MethodId} {args : Array Value} {below : List Frame} {meth : Method} {c : Code} {A : Nat → Prop} {D : va_G} {a z : Nat → Nat} {cI cL cB cZ : ClassId} {Q : State → Prop} {cc : ByteArray} {nL idx pc N : Nat} {own : String} {c1 : Cond} {H : Heap} {locs : List Loc} {ls : Array Slot} {rest : List Value} {S : mq_St} {res : Int32} {v1 : Int32} {v2 : Int32} {cells slots : Nat} {wl wr : va_W} (C : mq_C p s m args c A D cI cL cB cZ cc nL own c1) (hcs : cells ≤ R.cells ∧ slots ≤ R.slots) (hlk : Cond.methodLink own idx yX10_slot ∈ mq_T) (hR : zr_X10_slot.frames + 1 ≤ R.frames ∧ 8 + (3 + 11) + zr_X10_slot.locals ≤ R.locals) (h : zf_X10_slot N z v1 v2 S = some res) (hP : va_P D vwCl (wl ++ ((wd_C a cI cL cB cZ z S) ++ wr)) H) (hD : va_D A (wl ++ ((wd_C a cI cL cB cZ z S) ++ wr))) (hS : va_S A s.heap H locs) (hls : ls.size = nL) (hrest : (rest.map fun v => v.category).sum ≤ 8) (hdg : decode cc pc = .ok (.invokevirtual idx, 3)) (kk : ∀ (H1 : Heap) (locs1 : List Loc), va_P D vwCl (wl ++ ((wd_C a cI cL cB cZ z S) ++ wr)) H1 → va_D A (wl ++ ((wd_C a cI cL cB cZ z S) ++ wr)) → va_S A s.heap H1 locs1 → W p l e R s m args below meth c H1 locs1 cells slots Q (F0 m (pc + 3) ls (.int res :: rest))) : W p l e R s m args below meth c H locs cells slots Q (F0 m pc ls (.int (v2) :: .int (v1) :: .ref (a 0) :: rest)) := by
  obtain ⟨hx, hb, hml, hown, hts, hK, hA⟩ := C
  have hPc := mq_midP hP
  have hDc := mq_midD hD
  have hFc := mq_freeI hDc hS hA
  refine va_calli (va_runV (As := [.int (v1), .int (v2)]) (rest := rest) ⟨hx, hb, hml, hown, hts⟩ (zm_X10_slot l D a z cI cL cB cZ H.size N v1 v2 S res h) (cwV 2 hts (mq_goodL (mq_wsV hlk zt_X10_slot_i zt_X10_slot_s zt_ini_X10 zt_X10_slot_c)) rfl rfl rfl (by decide +kernel) hR) ⟨fun a U g mk q => ⟨q.1, q.2.1, q.2.2.1, va_K.moved (u := U) (U := U.calling g mk a) (Vm.Alike.refl U.vm) q.2.2.2.1, q.2.2.2.2⟩, zy_C_0 hK hPc, fun U hU hW => ⟨rfl, by rw [hU], by rw [hU]; exact hPc, va_K.moved hW.alike hK, hDc.weaken (fun _ _ _ _ => trivial)⟩⟩ rfl rfl hls rfl (lv_room hrest) hdg hcs) hS (fun q _ h => hFc q h) hFc (fun r u t H1 locs ht hvm hw1 hB hz1 hk1 hS => ?_)
  obtain ⟨rfl, rfl⟩ := hw1
  obtain ⟨hP1, hK1, hD1⟩ := hB
  rw [ht] at hP1
  obtain ⟨hP2, hD2⟩ := mq_midJ hP hD rfl hk1 hP1
  exact kk H1 locs hP2 hD2 hS
set_option maxHeartbeats 4000000 in
theorem zL_X11_slot {p : Program} {l : Launch} {e : Env} {R : Room} {s : State} {m : MethodId} {args : Array Value} {below : List Frame} {meth : Method} {c : Code} {A : Nat → Prop} {D : va_G} {a z : Nat → Nat} {cI cL cB cZ : ClassId} {Q : State → Prop} {cc : ByteArray} {nL idx pc N : Nat} {own : String} {c1 : Cond} {H : Heap} {locs : List Loc} {ls : Array Slot} {rest : List Value} {S : mq_St} {res : Int32 × mq_St} {v1 : Int32} {v2 : Int32} {cells slots : Nat} {wl wr : va_W} (C : mq_C p s m args c A D cI cL cB cZ cc nL own c1) (hcs : cells ≤ R.cells ∧ slots ≤ R.slots) (hlk : Cond.methodLink own idx yX11_slot ∈ mq_T) (hR : zr_X11_slot.frames + 1 ≤ R.frames ∧ 8 + (3 + 11) + zr_X11_slot.locals ≤ R.locals) (h : zf_X11_slot N z v1 v2 S = some res) (hP : va_P D vwCl (wl ++ ((wd_R a cI cL cB cZ z S) ++ wr)) H) (hD : va_D A (wl ++ ((wd_R a cI cL cB cZ z S) ++ wr))) (hS : va_S A s.heap H locs) (hls : ls.size = nL) (hrest : (rest.map fun v => v.category).sum ≤ 8) (hdg : decode cc pc = .ok (.invokevirtual idx, 3)) (kk : ∀ (H1 : Heap) (locs1 : List Loc), va_P D vwCl (wl ++ ((wd_R a cI cL cB cZ z res.2) ++ wr)) H1 → va_D A (wl ++ ((wd_R a cI cL cB cZ z res.2) ++ wr)) → va_S A s.heap H1 locs1 → W p l e R s m args below meth c H1 locs1 cells slots Q (F0 m (pc + 3) ls (.int res.1 :: rest))) : W p l e R s m args below meth c H locs cells slots Q (F0 m pc ls (.int (v2) :: .int (v1) :: .ref (a 0) :: rest)) := by
  obtain ⟨hx, hb, hml, hown, hts, hK, hA⟩ := C
  have hPc := mq_midP hP
  have hDc := mq_midD hD
  have hFc := mq_freeI hDc hS hA
  refine va_calli (va_runV (As := [.int (v1), .int (v2)]) (rest := rest) ⟨hx, hb, hml, hown, hts⟩ (zm_X11_slot l D a z cI cL cB cZ H.size N v1 v2 S res h) (cwV 2 hts (mq_goodL (mq_wsV hlk zt_X11_slot_i zt_X11_slot_s zt_ini_X11 zt_X11_slot_c)) rfl rfl rfl (by decide +kernel) hR) ⟨fun a U g mk q => ⟨q.1, q.2.1, q.2.2.1, va_K.moved (u := U) (U := U.calling g mk a) (Vm.Alike.refl U.vm) q.2.2.2.1, q.2.2.2.2⟩, zy_R_0 hK hPc, fun U hU hW => ⟨rfl, by rw [hU], by rw [hU]; exact hPc, va_K.moved hW.alike hK, hDc.weaken (fun _ _ _ _ => trivial)⟩⟩ rfl rfl hls rfl (lv_room hrest) hdg hcs) hS (fun q _ h => hFc q h) hFc (fun r u t H1 locs ht hvm hw1 hB hz1 hk1 hS => ?_)
  obtain ⟨rfl, rfl⟩ := hw1
  obtain ⟨hP1, hK1, hD1⟩ := hB
  rw [ht] at hP1
  obtain ⟨hP2, hD2⟩ := mq_midJ (w1 := (wd_R a cI cL cB cZ z res.2)) hP hD rfl hk1 hP1
  exact kk H1 locs hP2 hD2 hS
set_option maxHeartbeats 4000000 in
theorem zL_X10_formulas {p : Program} {l : Launch} {e : Env} {R : Room} {s : State} {m : MethodId} {args : Array Value} {below : List Frame} {meth : Method} {c : Code} {A : Nat → Prop} {D : va_G} {a z : Nat → Nat} {cI cL cB cZ : ClassId} {Q : State → Prop} {cc : ByteArray} {nL idx pc N : Nat} {own : String} {c1 : Cond} {H : Heap} {locs : List Loc} {ls : Array Slot} {rest : List Value} {S : mq_St} {res : Int32} {cells slots : Nat} {wl wr : va_W} (C : mq_C p s m args c A D cI cL cB cZ cc nL own c1) (hcs : cells ≤ R.cells ∧ slots ≤ R.slots) (hlk : Cond.methodLink own idx yX10_formulas ∈ mq_T) (hR : zr_X10_formulas.frames + 1 ≤ R.frames ∧ 8 + (1 + 11) + zr_X10_formulas.locals ≤ R.locals) (h : zf_X10_formulas N z S = some res) (hP : va_P D vwCl (wl ++ ((wd_C a cI cL cB cZ z S) ++ wr)) H) (hD : va_D A (wl ++ ((wd_C a cI cL cB cZ z S) ++ wr))) (hS : va_S A s.heap H locs) (hls : ls.size = nL) (hrest : (rest.map fun v => v.category).sum ≤ 8) (hdg : decode cc pc = .ok (.invokevirtual idx, 3)) (kk : ∀ (H1 : Heap) (locs1 : List Loc), va_P D vwCl (wl ++ ((wd_C a cI cL cB cZ z S) ++ wr)) H1 → va_D A (wl ++ ((wd_C a cI cL cB cZ z S) ++ wr)) → va_S A s.heap H1 locs1 → W p l e R s m args below meth c H1 locs1 cells slots Q (F0 m (pc + 3) ls (.int res :: rest))) : W p l e R s m args below meth c H locs cells slots Q (F0 m pc ls (.ref (a 0) :: rest)) := by
  obtain ⟨hx, hb, hml, hown, hts, hK, hA⟩ := C
  have hPc := mq_midP hP
  have hDc := mq_midD hD
  have hFc := mq_freeI hDc hS hA
  refine va_calli (va_runV (As := []) (rest := rest) ⟨hx, hb, hml, hown, hts⟩ (zm_X10_formulas l D a z cI cL cB cZ H.size N S res h) (cwV 0 hts (mq_goodL (mq_wsV hlk zt_X10_formulas_i zt_X10_formulas_s zt_ini_X10 zt_X10_formulas_c)) rfl rfl rfl (by decide +kernel) hR) ⟨fun a U g mk q => ⟨q.1, q.2.1, q.2.2.1, va_K.moved (u := U) (U := U.calling g mk a) (Vm.Alike.refl U.vm) q.2.2.2.1, q.2.2.2.2⟩, zy_C_0 hK hPc, fun U hU hW => ⟨rfl, by rw [hU], by rw [hU]; exact hPc, va_K.moved hW.alike hK, hDc.weaken (fun _ _ _ _ => trivial)⟩⟩ rfl rfl hls rfl (lv_room hrest) hdg hcs) hS (fun q _ h => hFc q h) hFc (fun r u t H1 locs ht hvm hw1 hB hz1 hk1 hS => ?_)
  obtain ⟨rfl, rfl⟩ := hw1
  obtain ⟨hP1, hK1, hD1⟩ := hB
  rw [ht] at hP1
  obtain ⟨hP2, hD2⟩ := mq_midJ hP hD rfl hk1 hP1
  exact kk H1 locs hP2 hD2 hS
set_option maxHeartbeats 4000000 in
theorem zL_X11_formulas {p : Program} {l : Launch} {e : Env} {R : Room} {s : State} {m : MethodId} {args : Array Value} {below : List Frame} {meth : Method} {c : Code} {A : Nat → Prop} {D : va_G} {a z : Nat → Nat} {cI cL cB cZ : ClassId} {Q : State → Prop} {cc : ByteArray} {nL idx pc N : Nat} {own : String} {c1 : Cond} {H : Heap} {locs : List Loc} {ls : Array Slot} {rest : List Value} {S : mq_St} {res : Int32 × mq_St} {cells slots : Nat} {wl wr : va_W} (C : mq_C p s m args c A D cI cL cB cZ cc nL own c1) (hcs : cells ≤ R.cells ∧ slots ≤ R.slots) (hlk : Cond.methodLink own idx yX11_formulas ∈ mq_T) (hR : zr_X11_formulas.frames + 1 ≤ R.frames ∧ 8 + (1 + 11) + zr_X11_formulas.locals ≤ R.locals) (h : zf_X11_formulas N z S = some res) (hP : va_P D vwCl (wl ++ ((wd_R a cI cL cB cZ z S) ++ wr)) H) (hD : va_D A (wl ++ ((wd_R a cI cL cB cZ z S) ++ wr))) (hS : va_S A s.heap H locs) (hls : ls.size = nL) (hrest : (rest.map fun v => v.category).sum ≤ 8) (hdg : decode cc pc = .ok (.invokevirtual idx, 3)) (kk : ∀ (H1 : Heap) (locs1 : List Loc), va_P D vwCl (wl ++ ((wd_R a cI cL cB cZ z res.2) ++ wr)) H1 → va_D A (wl ++ ((wd_R a cI cL cB cZ z res.2) ++ wr)) → va_S A s.heap H1 locs1 → W p l e R s m args below meth c H1 locs1 cells slots Q (F0 m (pc + 3) ls (.int res.1 :: rest))) : W p l e R s m args below meth c H locs cells slots Q (F0 m pc ls (.ref (a 0) :: rest)) := by
  obtain ⟨hx, hb, hml, hown, hts, hK, hA⟩ := C
  have hPc := mq_midP hP
  have hDc := mq_midD hD
  have hFc := mq_freeI hDc hS hA
  refine va_calli (va_runV (As := []) (rest := rest) ⟨hx, hb, hml, hown, hts⟩ (zm_X11_formulas l D a z cI cL cB cZ H.size N S res h) (cwV 0 hts (mq_goodL (mq_wsV hlk zt_X11_formulas_i zt_X11_formulas_s zt_ini_X11 zt_X11_formulas_c)) rfl rfl rfl (by decide +kernel) hR) ⟨fun a U g mk q => ⟨q.1, q.2.1, q.2.2.1, va_K.moved (u := U) (U := U.calling g mk a) (Vm.Alike.refl U.vm) q.2.2.2.1, q.2.2.2.2⟩, zy_R_0 hK hPc, fun U hU hW => ⟨rfl, by rw [hU], by rw [hU]; exact hPc, va_K.moved hW.alike hK, hDc.weaken (fun _ _ _ _ => trivial)⟩⟩ rfl rfl hls rfl (lv_room hrest) hdg hcs) hS (fun q _ h => hFc q h) hFc (fun r u t H1 locs ht hvm hw1 hB hz1 hk1 hS => ?_)
  obtain ⟨rfl, rfl⟩ := hw1
  obtain ⟨hP1, hK1, hD1⟩ := hB
  rw [ht] at hP1
  obtain ⟨hP2, hD2⟩ := mq_midJ (w1 := (wd_R a cI cL cB cZ z res.2)) hP hD rfl hk1 hP1
  exact kk H1 locs hP2 hD2 hS
set_option maxHeartbeats 4000000 in
theorem zL_X10_formula {p : Program} {l : Launch} {e : Env} {R : Room} {s : State} {m : MethodId} {args : Array Value} {below : List Frame} {meth : Method} {c : Code} {A : Nat → Prop} {D : va_G} {a z : Nat → Nat} {cI cL cB cZ : ClassId} {Q : State → Prop} {cc : ByteArray} {nL idx pc N : Nat} {own : String} {c1 : Cond} {H : Heap} {locs : List Loc} {ls : Array Slot} {rest : List Value} {S : mq_St} {res : Int32} {v1 : Int32} {v2 : Int32} {cells slots : Nat} {wl wr : va_W} (C : mq_C p s m args c A D cI cL cB cZ cc nL own c1) (hcs : cells ≤ R.cells ∧ slots ≤ R.slots) (hlk : Cond.methodLink own idx yX10_formula ∈ mq_T) (hR : zr_X10_formula.frames + 1 ≤ R.frames ∧ 8 + (3 + 11) + zr_X10_formula.locals ≤ R.locals) (h : zf_X10_formula N z v1 v2 S = some res) (hP : va_P D vwCl (wl ++ ((wd_C a cI cL cB cZ z S) ++ wr)) H) (hD : va_D A (wl ++ ((wd_C a cI cL cB cZ z S) ++ wr))) (hS : va_S A s.heap H locs) (hls : ls.size = nL) (hrest : (rest.map fun v => v.category).sum ≤ 8) (hdg : decode cc pc = .ok (.invokevirtual idx, 3)) (kk : ∀ (H1 : Heap) (locs1 : List Loc), va_P D vwCl (wl ++ ((wd_C a cI cL cB cZ z S) ++ wr)) H1 → va_D A (wl ++ ((wd_C a cI cL cB cZ z S) ++ wr)) → va_S A s.heap H1 locs1 → W p l e R s m args below meth c H1 locs1 cells slots Q (F0 m (pc + 3) ls (.int res :: rest))) : W p l e R s m args below meth c H locs cells slots Q (F0 m pc ls (.int (v2) :: .int (v1) :: .ref (a 0) :: rest)) := by
  obtain ⟨hx, hb, hml, hown, hts, hK, hA⟩ := C
  have hPc := mq_midP hP
  have hDc := mq_midD hD
  have hFc := mq_freeI hDc hS hA
  refine va_calli (va_runV (As := [.int (v1), .int (v2)]) (rest := rest) ⟨hx, hb, hml, hown, hts⟩ (zm_X10_formula l D a z cI cL cB cZ H.size N v1 v2 S res h) (cwV 2 hts (mq_goodL (mq_wsV hlk zt_X10_formula_i zt_X10_formula_s zt_ini_X10 zt_X10_formula_c)) rfl rfl rfl (by decide +kernel) hR) ⟨fun a U g mk q => ⟨q.1, q.2.1, q.2.2.1, va_K.moved (u := U) (U := U.calling g mk a) (Vm.Alike.refl U.vm) q.2.2.2.1, q.2.2.2.2⟩, zy_C_0 hK hPc, fun U hU hW => ⟨rfl, by rw [hU], by rw [hU]; exact hPc, va_K.moved hW.alike hK, hDc.weaken (fun _ _ _ _ => trivial)⟩⟩ rfl rfl hls rfl (lv_room hrest) hdg hcs) hS (fun q _ h => hFc q h) hFc (fun r u t H1 locs ht hvm hw1 hB hz1 hk1 hS => ?_)
  obtain ⟨rfl, rfl⟩ := hw1
  obtain ⟨hP1, hK1, hD1⟩ := hB
  rw [ht] at hP1
  obtain ⟨hP2, hD2⟩ := mq_midJ hP hD rfl hk1 hP1
  exact kk H1 locs hP2 hD2 hS
set_option maxHeartbeats 4000000 in
theorem zL_X11_formula {p : Program} {l : Launch} {e : Env} {R : Room} {s : State} {m : MethodId} {args : Array Value} {below : List Frame} {meth : Method} {c : Code} {A : Nat → Prop} {D : va_G} {a z : Nat → Nat} {cI cL cB cZ : ClassId} {Q : State → Prop} {cc : ByteArray} {nL idx pc N : Nat} {own : String} {c1 : Cond} {H : Heap} {locs : List Loc} {ls : Array Slot} {rest : List Value} {S : mq_St} {res : Int32 × mq_St} {v1 : Int32} {v2 : Int32} {cells slots : Nat} {wl wr : va_W} (C : mq_C p s m args c A D cI cL cB cZ cc nL own c1) (hcs : cells ≤ R.cells ∧ slots ≤ R.slots) (hlk : Cond.methodLink own idx yX11_formula ∈ mq_T) (hR : zr_X11_formula.frames + 1 ≤ R.frames ∧ 8 + (3 + 11) + zr_X11_formula.locals ≤ R.locals) (h : zf_X11_formula N z v1 v2 S = some res) (hP : va_P D vwCl (wl ++ ((wd_R a cI cL cB cZ z S) ++ wr)) H) (hD : va_D A (wl ++ ((wd_R a cI cL cB cZ z S) ++ wr))) (hS : va_S A s.heap H locs) (hls : ls.size = nL) (hrest : (rest.map fun v => v.category).sum ≤ 8) (hdg : decode cc pc = .ok (.invokevirtual idx, 3)) (kk : ∀ (H1 : Heap) (locs1 : List Loc), va_P D vwCl (wl ++ ((wd_R a cI cL cB cZ z res.2) ++ wr)) H1 → va_D A (wl ++ ((wd_R a cI cL cB cZ z res.2) ++ wr)) → va_S A s.heap H1 locs1 → W p l e R s m args below meth c H1 locs1 cells slots Q (F0 m (pc + 3) ls (.int res.1 :: rest))) : W p l e R s m args below meth c H locs cells slots Q (F0 m pc ls (.int (v2) :: .int (v1) :: .ref (a 0) :: rest)) := by
  obtain ⟨hx, hb, hml, hown, hts, hK, hA⟩ := C
  have hPc := mq_midP hP
  have hDc := mq_midD hD
  have hFc := mq_freeI hDc hS hA
  refine va_calli (va_runV (As := [.int (v1), .int (v2)]) (rest := rest) ⟨hx, hb, hml, hown, hts⟩ (zm_X11_formula l D a z cI cL cB cZ H.size N v1 v2 S res h) (cwV 2 hts (mq_goodL (mq_wsV hlk zt_X11_formula_i zt_X11_formula_s zt_ini_X11 zt_X11_formula_c)) rfl rfl rfl (by decide +kernel) hR) ⟨fun a U g mk q => ⟨q.1, q.2.1, q.2.2.1, va_K.moved (u := U) (U := U.calling g mk a) (Vm.Alike.refl U.vm) q.2.2.2.1, q.2.2.2.2⟩, zy_R_0 hK hPc, fun U hU hW => ⟨rfl, by rw [hU], by rw [hU]; exact hPc, va_K.moved hW.alike hK, hDc.weaken (fun _ _ _ _ => trivial)⟩⟩ rfl rfl hls rfl (lv_room hrest) hdg hcs) hS (fun q _ h => hFc q h) hFc (fun r u t H1 locs ht hvm hw1 hB hz1 hk1 hS => ?_)
  obtain ⟨rfl, rfl⟩ := hw1
  obtain ⟨hP1, hK1, hD1⟩ := hB
  rw [ht] at hP1
  obtain ⟨hP2, hD2⟩ := mq_midJ (w1 := (wd_R a cI cL cB cZ z res.2)) hP hD rfl hk1 hP1
  exact kk H1 locs hP2 hD2 hS
set_option maxHeartbeats 4000000 in
theorem zL_X10_tell {p : Program} {l : Launch} {e : Env} {R : Room} {s : State} {m : MethodId} {args : Array Value} {below : List Frame} {meth : Method} {c : Code} {A : Nat → Prop} {D : va_G} {a z : Nat → Nat} {cI cL cB cZ : ClassId} {Q : State → Prop} {cc : ByteArray} {nL idx pc N : Nat} {own : String} {c1 : Cond} {H : Heap} {locs : List Loc} {ls : Array Slot} {rest : List Value} {S : mq_St} {res : Int32 × mq_St} {v1 : Int32} {cells slots : Nat} {wl wr : va_W} (C : mq_C p s m args c A D cI cL cB cZ cc nL own c1) (hcs : cells ≤ R.cells ∧ slots ≤ R.slots) (hlk : Cond.methodLink own idx yX10_tell ∈ mq_T) (hR : zr_X10_tell.frames + 1 ≤ R.frames ∧ 8 + (2 + 11) + zr_X10_tell.locals ≤ R.locals) (h : zf_X10_tell N z v1 S = some res) (hP : va_P D vwCl (wl ++ ((wd_C a cI cL cB cZ z S) ++ wr)) H) (hD : va_D A (wl ++ ((wd_C a cI cL cB cZ z S) ++ wr))) (hS : va_S A s.heap H locs) (hls : ls.size = nL) (hrest : (rest.map fun v => v.category).sum ≤ 8) (hdg : decode cc pc = .ok (.invokevirtual idx, 3)) (kk : ∀ (H1 : Heap) (locs1 : List Loc), va_P D vwCl (wl ++ ((wd_C a cI cL cB cZ z res.2) ++ wr)) H1 → va_D A (wl ++ ((wd_C a cI cL cB cZ z res.2) ++ wr)) → va_S A s.heap H1 locs1 → W p l e R s m args below meth c H1 locs1 cells slots Q (F0 m (pc + 3) ls (.int res.1 :: rest))) : W p l e R s m args below meth c H locs cells slots Q (F0 m pc ls (.int (v1) :: .ref (a 0) :: rest)) := by
  obtain ⟨hx, hb, hml, hown, hts, hK, hA⟩ := C
  have hPc := mq_midP hP
  have hDc := mq_midD hD
  have hFc := mq_freeI hDc hS hA
  refine va_calli (va_runV (As := [.int (v1)]) (rest := rest) ⟨hx, hb, hml, hown, hts⟩ (zm_X10_tell l D a z cI cL cB cZ H.size N v1 S res h) (cwV 1 hts (mq_goodL (mq_wsV hlk zt_X10_tell_i zt_X10_tell_s zt_ini_X10 zt_X10_tell_c)) rfl rfl rfl (by decide +kernel) hR) ⟨fun a U g mk q => ⟨q.1, q.2.1, q.2.2.1, va_K.moved (u := U) (U := U.calling g mk a) (Vm.Alike.refl U.vm) q.2.2.2.1, q.2.2.2.2⟩, zy_C_0 hK hPc, fun U hU hW => ⟨rfl, by rw [hU], by rw [hU]; exact hPc, va_K.moved hW.alike hK, hDc.weaken (fun _ _ _ _ => trivial)⟩⟩ rfl rfl hls rfl (lv_room hrest) hdg hcs) hS (fun q _ h => hFc q h) hFc (fun r u t H1 locs ht hvm hw1 hB hz1 hk1 hS => ?_)
  obtain ⟨rfl, rfl⟩ := hw1
  obtain ⟨hP1, hK1, hD1⟩ := hB
  rw [ht] at hP1
  obtain ⟨hP2, hD2⟩ := mq_midJ (w1 := (wd_C a cI cL cB cZ z res.2)) hP hD rfl hk1 hP1
  exact kk H1 locs hP2 hD2 hS
set_option maxHeartbeats 4000000 in
theorem zL_X11_tell {p : Program} {l : Launch} {e : Env} {R : Room} {s : State} {m : MethodId} {args : Array Value} {below : List Frame} {meth : Method} {c : Code} {A : Nat → Prop} {D : va_G} {a z : Nat → Nat} {cI cL cB cZ : ClassId} {Q : State → Prop} {cc : ByteArray} {nL idx pc N : Nat} {own : String} {c1 : Cond} {H : Heap} {locs : List Loc} {ls : Array Slot} {rest : List Value} {S : mq_St} {res : Int32 × mq_St} {v1 : Int32} {cells slots : Nat} {wl wr : va_W} (C : mq_C p s m args c A D cI cL cB cZ cc nL own c1) (hcs : cells ≤ R.cells ∧ slots ≤ R.slots) (hlk : Cond.methodLink own idx yX11_tell ∈ mq_T) (hR : zr_X11_tell.frames + 1 ≤ R.frames ∧ 8 + (4 + 11) + zr_X11_tell.locals ≤ R.locals) (h : zf_X11_tell N z v1 S = some res) (hP : va_P D vwCl (wl ++ ((wd_R a cI cL cB cZ z S) ++ wr)) H) (hD : va_D A (wl ++ ((wd_R a cI cL cB cZ z S) ++ wr))) (hS : va_S A s.heap H locs) (hls : ls.size = nL) (hrest : (rest.map fun v => v.category).sum ≤ 8) (hdg : decode cc pc = .ok (.invokevirtual idx, 3)) (kk : ∀ (H1 : Heap) (locs1 : List Loc), va_P D vwCl (wl ++ ((wd_R a cI cL cB cZ z res.2) ++ wr)) H1 → va_D A (wl ++ ((wd_R a cI cL cB cZ z res.2) ++ wr)) → va_S A s.heap H1 locs1 → W p l e R s m args below meth c H1 locs1 cells slots Q (F0 m (pc + 3) ls (.int res.1 :: rest))) : W p l e R s m args below meth c H locs cells slots Q (F0 m pc ls (.int (v1) :: .ref (a 0) :: rest)) := by
  obtain ⟨hx, hb, hml, hown, hts, hK, hA⟩ := C
  have hPc := mq_midP hP
  have hDc := mq_midD hD
  have hFc := mq_freeI hDc hS hA
  refine va_calli (va_runV (As := [.int (v1)]) (rest := rest) ⟨hx, hb, hml, hown, hts⟩ (zm_X11_tell l D a z cI cL cB cZ H.size N v1 S res h) (cwV 1 hts (mq_goodL (mq_wsV hlk zt_X11_tell_i zt_X11_tell_s zt_ini_X11 zt_X11_tell_c)) rfl rfl rfl (by decide +kernel) hR) ⟨fun a U g mk q => ⟨q.1, q.2.1, q.2.2.1, va_K.moved (u := U) (U := U.calling g mk a) (Vm.Alike.refl U.vm) q.2.2.2.1, q.2.2.2.2⟩, zy_R_0 hK hPc, fun U hU hW => ⟨rfl, by rw [hU], by rw [hU]; exact hPc, va_K.moved hW.alike hK, hDc.weaken (fun _ _ _ _ => trivial)⟩⟩ rfl rfl hls rfl (lv_room hrest) hdg hcs) hS (fun q _ h => hFc q h) hFc (fun r u t H1 locs ht hvm hw1 hB hz1 hk1 hS => ?_)
  obtain ⟨rfl, rfl⟩ := hw1
  obtain ⟨hP1, hK1, hD1⟩ := hB
  rw [ht] at hP1
  obtain ⟨hP2, hD2⟩ := mq_midJ (w1 := (wd_R a cI cL cB cZ z res.2)) hP hD rfl hk1 hP1
  exact kk H1 locs hP2 hD2 hS
set_option maxHeartbeats 4000000 in
theorem zL_X10_prove {p : Program} {l : Launch} {e : Env} {R : Room} {s : State} {m : MethodId} {args : Array Value} {below : List Frame} {meth : Method} {c : Code} {A : Nat → Prop} {D : va_G} {a z : Nat → Nat} {cI cL cB cZ : ClassId} {Q : State → Prop} {cc : ByteArray} {nL idx pc N : Nat} {own : String} {c1 : Cond} {H : Heap} {locs : List Loc} {ls : Array Slot} {rest : List Value} {S : mq_St} {res : Int32 × mq_St} {v1 : Int32} {v2 : Int32} {cells slots : Nat} {wl wr : va_W} (C : mq_C p s m args c A D cI cL cB cZ cc nL own c1) (hcs : cells ≤ R.cells ∧ slots ≤ R.slots) (hlk : Cond.methodLink own idx yX10_prove ∈ mq_T) (hR : zr_X10_prove.frames + 1 ≤ R.frames ∧ 8 + (4 + 11) + zr_X10_prove.locals ≤ R.locals) (h : zf_X10_prove N z v1 v2 S = some res) (hP : va_P D vwCl (wl ++ ((wd_C a cI cL cB cZ z S) ++ wr)) H) (hD : va_D A (wl ++ ((wd_C a cI cL cB cZ z S) ++ wr))) (hS : va_S A s.heap H locs) (hls : ls.size = nL) (hrest : (rest.map fun v => v.category).sum ≤ 8) (hdg : decode cc pc = .ok (.invokevirtual idx, 3)) (kk : ∀ (H1 : Heap) (locs1 : List Loc), va_P D vwCl (wl ++ ((wd_C a cI cL cB cZ z res.2) ++ wr)) H1 → va_D A (wl ++ ((wd_C a cI cL cB cZ z res.2) ++ wr)) → va_S A s.heap H1 locs1 → W p l e R s m args below meth c H1 locs1 cells slots Q (F0 m (pc + 3) ls (.int res.1 :: rest))) : W p l e R s m args below meth c H locs cells slots Q (F0 m pc ls (.int (v2) :: .int (v1) :: .ref (a 0) :: rest)) := by
  obtain ⟨hx, hb, hml, hown, hts, hK, hA⟩ := C
  have hPc := mq_midP hP
  have hDc := mq_midD hD
  have hFc := mq_freeI hDc hS hA
  refine va_calli (va_runV (As := [.int (v1), .int (v2)]) (rest := rest) ⟨hx, hb, hml, hown, hts⟩ (zm_X10_prove l D a z cI cL cB cZ H.size N v1 v2 S res h) (cwV 2 hts (mq_goodL (mq_wsV hlk zt_X10_prove_i zt_X10_prove_s zt_ini_X10 zt_X10_prove_c)) rfl rfl rfl (by decide +kernel) hR) ⟨fun a U g mk q => ⟨q.1, q.2.1, q.2.2.1, va_K.moved (u := U) (U := U.calling g mk a) (Vm.Alike.refl U.vm) q.2.2.2.1, q.2.2.2.2⟩, zy_C_0 hK hPc, fun U hU hW => ⟨rfl, by rw [hU], by rw [hU]; exact hPc, va_K.moved hW.alike hK, hDc.weaken (fun _ _ _ _ => trivial)⟩⟩ rfl rfl hls rfl (lv_room hrest) hdg hcs) hS (fun q _ h => hFc q h) hFc (fun r u t H1 locs ht hvm hw1 hB hz1 hk1 hS => ?_)
  obtain ⟨rfl, rfl⟩ := hw1
  obtain ⟨hP1, hK1, hD1⟩ := hB
  rw [ht] at hP1
  obtain ⟨hP2, hD2⟩ := mq_midJ (w1 := (wd_C a cI cL cB cZ z res.2)) hP hD rfl hk1 hP1
  exact kk H1 locs hP2 hD2 hS
set_option maxHeartbeats 4000000 in
theorem zL_X11_prove {p : Program} {l : Launch} {e : Env} {R : Room} {s : State} {m : MethodId} {args : Array Value} {below : List Frame} {meth : Method} {c : Code} {A : Nat → Prop} {D : va_G} {a z : Nat → Nat} {cI cL cB cZ : ClassId} {Q : State → Prop} {cc : ByteArray} {nL idx pc N : Nat} {own : String} {c1 : Cond} {H : Heap} {locs : List Loc} {ls : Array Slot} {rest : List Value} {S : mq_St} {res : Int32 × mq_St} {v1 : Int32} {v2 : Int32} {cells slots : Nat} {wl wr : va_W} (C : mq_C p s m args c A D cI cL cB cZ cc nL own c1) (hcs : cells ≤ R.cells ∧ slots ≤ R.slots) (hlk : Cond.methodLink own idx yX11_prove ∈ mq_T) (hR : zr_X11_prove.frames + 1 ≤ R.frames ∧ 8 + (5 + 11) + zr_X11_prove.locals ≤ R.locals) (h : zf_X11_prove N z v1 v2 S = some res) (hP : va_P D vwCl (wl ++ ((wd_R a cI cL cB cZ z S) ++ wr)) H) (hD : va_D A (wl ++ ((wd_R a cI cL cB cZ z S) ++ wr))) (hS : va_S A s.heap H locs) (hls : ls.size = nL) (hrest : (rest.map fun v => v.category).sum ≤ 8) (hdg : decode cc pc = .ok (.invokevirtual idx, 3)) (kk : ∀ (H1 : Heap) (locs1 : List Loc), va_P D vwCl (wl ++ ((wd_R a cI cL cB cZ z res.2) ++ wr)) H1 → va_D A (wl ++ ((wd_R a cI cL cB cZ z res.2) ++ wr)) → va_S A s.heap H1 locs1 → W p l e R s m args below meth c H1 locs1 cells slots Q (F0 m (pc + 3) ls (.int res.1 :: rest))) : W p l e R s m args below meth c H locs cells slots Q (F0 m pc ls (.int (v2) :: .int (v1) :: .ref (a 0) :: rest)) := by
  obtain ⟨hx, hb, hml, hown, hts, hK, hA⟩ := C
  have hPc := mq_midP hP
  have hDc := mq_midD hD
  have hFc := mq_freeI hDc hS hA
  refine va_calli (va_runV (As := [.int (v1), .int (v2)]) (rest := rest) ⟨hx, hb, hml, hown, hts⟩ (zm_X11_prove l D a z cI cL cB cZ H.size N v1 v2 S res h) (cwV 2 hts (mq_goodL (mq_wsV hlk zt_X11_prove_i zt_X11_prove_s zt_ini_X11 zt_X11_prove_c)) rfl rfl rfl (by decide +kernel) hR) ⟨fun a U g mk q => ⟨q.1, q.2.1, q.2.2.1, va_K.moved (u := U) (U := U.calling g mk a) (Vm.Alike.refl U.vm) q.2.2.2.1, q.2.2.2.2⟩, zy_R_0 hK hPc, fun U hU hW => ⟨rfl, by rw [hU], by rw [hU]; exact hPc, va_K.moved hW.alike hK, hDc.weaken (fun _ _ _ _ => trivial)⟩⟩ rfl rfl hls rfl (lv_room hrest) hdg hcs) hS (fun q _ h => hFc q h) hFc (fun r u t H1 locs ht hvm hw1 hB hz1 hk1 hS => ?_)
  obtain ⟨rfl, rfl⟩ := hw1
  obtain ⟨hP1, hK1, hD1⟩ := hB
  rw [ht] at hP1
  obtain ⟨hP2, hD2⟩ := mq_midJ (w1 := (wd_R a cI cL cB cZ z res.2)) hP hD rfl hk1 hP1
  exact kk H1 locs hP2 hD2 hS
set_option maxHeartbeats 4000000 in
theorem zL_X10_count {p : Program} {l : Launch} {e : Env} {R : Room} {s : State} {m : MethodId} {args : Array Value} {below : List Frame} {meth : Method} {c : Code} {A : Nat → Prop} {D : va_G} {a z : Nat → Nat} {cI cL cB cZ : ClassId} {Q : State → Prop} {cc : ByteArray} {nL idx pc N : Nat} {own : String} {c1 : Cond} {H : Heap} {locs : List Loc} {ls : Array Slot} {rest : List Value} {S : mq_St} {res : Int32} {v1 : Int32} {cells slots : Nat} {wl wr : va_W} (C : mq_C p s m args c A D cI cL cB cZ cc nL own c1) (hcs : cells ≤ R.cells ∧ slots ≤ R.slots) (hlk : Cond.methodLink own idx yX10_count ∈ mq_T) (hR : zr_X10_count.frames + 1 ≤ R.frames ∧ 8 + (2 + 11) + zr_X10_count.locals ≤ R.locals) (h : zf_X10_count N z v1 S = some res) (hP : va_P D vwCl (wl ++ ((wd_C a cI cL cB cZ z S) ++ wr)) H) (hD : va_D A (wl ++ ((wd_C a cI cL cB cZ z S) ++ wr))) (hS : va_S A s.heap H locs) (hls : ls.size = nL) (hrest : (rest.map fun v => v.category).sum ≤ 8) (hdg : decode cc pc = .ok (.invokevirtual idx, 3)) (kk : ∀ (H1 : Heap) (locs1 : List Loc), va_P D vwCl (wl ++ ((wd_C a cI cL cB cZ z S) ++ wr)) H1 → va_D A (wl ++ ((wd_C a cI cL cB cZ z S) ++ wr)) → va_S A s.heap H1 locs1 → W p l e R s m args below meth c H1 locs1 cells slots Q (F0 m (pc + 3) ls (.int res :: rest))) : W p l e R s m args below meth c H locs cells slots Q (F0 m pc ls (.int (v1) :: .ref (a 0) :: rest)) := by
  obtain ⟨hx, hb, hml, hown, hts, hK, hA⟩ := C
  have hPc := mq_midP hP
  have hDc := mq_midD hD
  have hFc := mq_freeI hDc hS hA
  refine va_calli (va_runV (As := [.int (v1)]) (rest := rest) ⟨hx, hb, hml, hown, hts⟩ (zm_X10_count l D a z cI cL cB cZ H.size N v1 S res h) (cwV 1 hts (mq_goodL (mq_wsV hlk zt_X10_count_i zt_X10_count_s zt_ini_X10 zt_X10_count_c)) rfl rfl rfl (by decide +kernel) hR) ⟨fun a U g mk q => ⟨q.1, q.2.1, q.2.2.1, va_K.moved (u := U) (U := U.calling g mk a) (Vm.Alike.refl U.vm) q.2.2.2.1, q.2.2.2.2⟩, zy_C_0 hK hPc, fun U hU hW => ⟨rfl, by rw [hU], by rw [hU]; exact hPc, va_K.moved hW.alike hK, hDc.weaken (fun _ _ _ _ => trivial)⟩⟩ rfl rfl hls rfl (lv_room hrest) hdg hcs) hS (fun q _ h => hFc q h) hFc (fun r u t H1 locs ht hvm hw1 hB hz1 hk1 hS => ?_)
  obtain ⟨rfl, rfl⟩ := hw1
  obtain ⟨hP1, hK1, hD1⟩ := hB
  rw [ht] at hP1
  obtain ⟨hP2, hD2⟩ := mq_midJ hP hD rfl hk1 hP1
  exact kk H1 locs hP2 hD2 hS
set_option maxHeartbeats 4000000 in
theorem zL_X11_count {p : Program} {l : Launch} {e : Env} {R : Room} {s : State} {m : MethodId} {args : Array Value} {below : List Frame} {meth : Method} {c : Code} {A : Nat → Prop} {D : va_G} {a z : Nat → Nat} {cI cL cB cZ : ClassId} {Q : State → Prop} {cc : ByteArray} {nL idx pc N : Nat} {own : String} {c1 : Cond} {H : Heap} {locs : List Loc} {ls : Array Slot} {rest : List Value} {S : mq_St} {res : Int32 × mq_St} {v1 : Int32} {cells slots : Nat} {wl wr : va_W} (C : mq_C p s m args c A D cI cL cB cZ cc nL own c1) (hcs : cells ≤ R.cells ∧ slots ≤ R.slots) (hlk : Cond.methodLink own idx yX11_count ∈ mq_T) (hR : zr_X11_count.frames + 1 ≤ R.frames ∧ 8 + (2 + 11) + zr_X11_count.locals ≤ R.locals) (h : zf_X11_count N z v1 S = some res) (hP : va_P D vwCl (wl ++ ((wd_R a cI cL cB cZ z S) ++ wr)) H) (hD : va_D A (wl ++ ((wd_R a cI cL cB cZ z S) ++ wr))) (hS : va_S A s.heap H locs) (hls : ls.size = nL) (hrest : (rest.map fun v => v.category).sum ≤ 8) (hdg : decode cc pc = .ok (.invokevirtual idx, 3)) (kk : ∀ (H1 : Heap) (locs1 : List Loc), va_P D vwCl (wl ++ ((wd_R a cI cL cB cZ z res.2) ++ wr)) H1 → va_D A (wl ++ ((wd_R a cI cL cB cZ z res.2) ++ wr)) → va_S A s.heap H1 locs1 → W p l e R s m args below meth c H1 locs1 cells slots Q (F0 m (pc + 3) ls (.int res.1 :: rest))) : W p l e R s m args below meth c H locs cells slots Q (F0 m pc ls (.int (v1) :: .ref (a 0) :: rest)) := by
  obtain ⟨hx, hb, hml, hown, hts, hK, hA⟩ := C
  have hPc := mq_midP hP
  have hDc := mq_midD hD
  have hFc := mq_freeI hDc hS hA
  refine va_calli (va_runV (As := [.int (v1)]) (rest := rest) ⟨hx, hb, hml, hown, hts⟩ (zm_X11_count l D a z cI cL cB cZ H.size N v1 S res h) (cwV 1 hts (mq_goodL (mq_wsV hlk zt_X11_count_i zt_X11_count_s zt_ini_X11 zt_X11_count_c)) rfl rfl rfl (by decide +kernel) hR) ⟨fun a U g mk q => ⟨q.1, q.2.1, q.2.2.1, va_K.moved (u := U) (U := U.calling g mk a) (Vm.Alike.refl U.vm) q.2.2.2.1, q.2.2.2.2⟩, zy_R_0 hK hPc, fun U hU hW => ⟨rfl, by rw [hU], by rw [hU]; exact hPc, va_K.moved hW.alike hK, hDc.weaken (fun _ _ _ _ => trivial)⟩⟩ rfl rfl hls rfl (lv_room hrest) hdg hcs) hS (fun q _ h => hFc q h) hFc (fun r u t H1 locs ht hvm hw1 hB hz1 hk1 hS => ?_)
  obtain ⟨rfl, rfl⟩ := hw1
  obtain ⟨hP1, hK1, hD1⟩ := hB
  rw [ht] at hP1
  obtain ⟨hP2, hD2⟩ := mq_midJ (w1 := (wd_R a cI cL cB cZ z res.2)) hP hD rfl hk1 hP1
  exact kk H1 locs hP2 hD2 hS
set_option maxHeartbeats 4000000 in
theorem zL_X10_proof {p : Program} {l : Launch} {e : Env} {R : Room} {s : State} {m : MethodId} {args : Array Value} {below : List Frame} {meth : Method} {c : Code} {A : Nat → Prop} {D : va_G} {a z : Nat → Nat} {cI cL cB cZ : ClassId} {Q : State → Prop} {cc : ByteArray} {nL idx pc N : Nat} {own : String} {c1 : Cond} {H : Heap} {locs : List Loc} {ls : Array Slot} {rest : List Value} {S : mq_St} {res : Int32 × mq_St} {cells slots : Nat} {wl wr : va_W} (C : mq_C p s m args c A D cI cL cB cZ cc nL own c1) (hcs : cells ≤ R.cells ∧ slots ≤ R.slots) (hlk : Cond.methodLink own idx yX10_proof ∈ mq_T) (hR : zr_X10_proof.frames + 1 ≤ R.frames ∧ 8 + (1 + 11) + zr_X10_proof.locals ≤ R.locals) (h : zf_X10_proof N z S = some res) (hP : va_P D vwCl (wl ++ ((wd_C a cI cL cB cZ z S) ++ wr)) H) (hD : va_D A (wl ++ ((wd_C a cI cL cB cZ z S) ++ wr))) (hS : va_S A s.heap H locs) (hls : ls.size = nL) (hrest : (rest.map fun v => v.category).sum ≤ 8) (hdg : decode cc pc = .ok (.invokevirtual idx, 3)) (kk : ∀ (H1 : Heap) (locs1 : List Loc), va_P D vwCl (wl ++ ((wd_C a cI cL cB cZ z res.2) ++ wr)) H1 → va_D A (wl ++ ((wd_C a cI cL cB cZ z res.2) ++ wr)) → va_S A s.heap H1 locs1 → W p l e R s m args below meth c H1 locs1 cells slots Q (F0 m (pc + 3) ls (.int res.1 :: rest))) : W p l e R s m args below meth c H locs cells slots Q (F0 m pc ls (.ref (a 0) :: rest)) := by
  obtain ⟨hx, hb, hml, hown, hts, hK, hA⟩ := C
  have hPc := mq_midP hP
  have hDc := mq_midD hD
  have hFc := mq_freeI hDc hS hA
  refine va_calli (va_runV (As := []) (rest := rest) ⟨hx, hb, hml, hown, hts⟩ (zm_X10_proof l D a z cI cL cB cZ H.size N S res h) (cwV 0 hts (mq_goodL (mq_wsV hlk zt_X10_proof_i zt_X10_proof_s zt_ini_X10 zt_X10_proof_c)) rfl rfl rfl (by decide +kernel) hR) ⟨fun a U g mk q => ⟨q.1, q.2.1, q.2.2.1, va_K.moved (u := U) (U := U.calling g mk a) (Vm.Alike.refl U.vm) q.2.2.2.1, q.2.2.2.2⟩, zy_C_0 hK hPc, fun U hU hW => ⟨rfl, by rw [hU], by rw [hU]; exact hPc, va_K.moved hW.alike hK, hDc.weaken (fun _ _ _ _ => trivial)⟩⟩ rfl rfl hls rfl (lv_room hrest) hdg hcs) hS (fun q _ h => hFc q h) hFc (fun r u t H1 locs ht hvm hw1 hB hz1 hk1 hS => ?_)
  obtain ⟨rfl, rfl⟩ := hw1
  obtain ⟨hP1, hK1, hD1⟩ := hB
  rw [ht] at hP1
  obtain ⟨hP2, hD2⟩ := mq_midJ (w1 := (wd_C a cI cL cB cZ z res.2)) hP hD rfl hk1 hP1
  exact kk H1 locs hP2 hD2 hS
set_option maxHeartbeats 4000000 in
theorem zL_X11_proof {p : Program} {l : Launch} {e : Env} {R : Room} {s : State} {m : MethodId} {args : Array Value} {below : List Frame} {meth : Method} {c : Code} {A : Nat → Prop} {D : va_G} {a z : Nat → Nat} {cI cL cB cZ : ClassId} {Q : State → Prop} {cc : ByteArray} {nL idx pc N : Nat} {own : String} {c1 : Cond} {H : Heap} {locs : List Loc} {ls : Array Slot} {rest : List Value} {S : mq_St} {res : Int32 × mq_St} {cells slots : Nat} {wl wr : va_W} (C : mq_C p s m args c A D cI cL cB cZ cc nL own c1) (hcs : cells ≤ R.cells ∧ slots ≤ R.slots) (hlk : Cond.methodLink own idx yX11_proof ∈ mq_T) (hR : zr_X11_proof.frames + 1 ≤ R.frames ∧ 8 + (2 + 11) + zr_X11_proof.locals ≤ R.locals) (h : zf_X11_proof N z S = some res) (hP : va_P D vwCl (wl ++ ((wd_R a cI cL cB cZ z S) ++ wr)) H) (hD : va_D A (wl ++ ((wd_R a cI cL cB cZ z S) ++ wr))) (hS : va_S A s.heap H locs) (hls : ls.size = nL) (hrest : (rest.map fun v => v.category).sum ≤ 8) (hdg : decode cc pc = .ok (.invokevirtual idx, 3)) (kk : ∀ (H1 : Heap) (locs1 : List Loc), va_P D vwCl (wl ++ ((wd_R a cI cL cB cZ z res.2) ++ wr)) H1 → va_D A (wl ++ ((wd_R a cI cL cB cZ z res.2) ++ wr)) → va_S A s.heap H1 locs1 → W p l e R s m args below meth c H1 locs1 cells slots Q (F0 m (pc + 3) ls (.int res.1 :: rest))) : W p l e R s m args below meth c H locs cells slots Q (F0 m pc ls (.ref (a 0) :: rest)) := by
  obtain ⟨hx, hb, hml, hown, hts, hK, hA⟩ := C
  have hPc := mq_midP hP
  have hDc := mq_midD hD
  have hFc := mq_freeI hDc hS hA
  refine va_calli (va_runV (As := []) (rest := rest) ⟨hx, hb, hml, hown, hts⟩ (zm_X11_proof l D a z cI cL cB cZ H.size N S res h) (cwV 0 hts (mq_goodL (mq_wsV hlk zt_X11_proof_i zt_X11_proof_s zt_ini_X11 zt_X11_proof_c)) rfl rfl rfl (by decide +kernel) hR) ⟨fun a U g mk q => ⟨q.1, q.2.1, q.2.2.1, va_K.moved (u := U) (U := U.calling g mk a) (Vm.Alike.refl U.vm) q.2.2.2.1, q.2.2.2.2⟩, zy_R_0 hK hPc, fun U hU hW => ⟨rfl, by rw [hU], by rw [hU]; exact hPc, va_K.moved hW.alike hK, hDc.weaken (fun _ _ _ _ => trivial)⟩⟩ rfl rfl hls rfl (lv_room hrest) hdg hcs) hS (fun q _ h => hFc q h) hFc (fun r u t H1 locs ht hvm hw1 hB hz1 hk1 hS => ?_)
  obtain ⟨rfl, rfl⟩ := hw1
  obtain ⟨hP1, hK1, hD1⟩ := hB
  rw [ht] at hP1
  obtain ⟨hP2, hD2⟩ := mq_midJ (w1 := (wd_R a cI cL cB cZ z res.2)) hP hD rfl hk1 hP1
  exact kk H1 locs hP2 hD2 hS
set_option maxHeartbeats 4000000 in
theorem zL_X10_verify {p : Program} {l : Launch} {e : Env} {R : Room} {s : State} {m : MethodId} {args : Array Value} {below : List Frame} {meth : Method} {c : Code} {A : Nat → Prop} {D : va_G} {a z : Nat → Nat} {cI cL cB cZ : ClassId} {Q : State → Prop} {cc : ByteArray} {nL idx pc N : Nat} {own : String} {c1 : Cond} {H : Heap} {locs : List Loc} {ls : Array Slot} {rest : List Value} {S : mq_St} {res : Int32 × mq_St} {v1 : Int32} {cells slots : Nat} {wl wr : va_W} (C : mq_C p s m args c A D cI cL cB cZ cc nL own c1) (hcs : cells ≤ R.cells ∧ slots ≤ R.slots) (hlk : Cond.methodLink own idx yX10_verify ∈ mq_T) (hR : zr_X10_verify.frames + 1 ≤ R.frames ∧ 8 + (3 + 11) + zr_X10_verify.locals ≤ R.locals) (h : zf_X10_verify N z v1 S = some res) (hP : va_P D vwCl (wl ++ ((wd_C a cI cL cB cZ z S) ++ wr)) H) (hD : va_D A (wl ++ ((wd_C a cI cL cB cZ z S) ++ wr))) (hS : va_S A s.heap H locs) (hls : ls.size = nL) (hrest : (rest.map fun v => v.category).sum ≤ 8) (hdg : decode cc pc = .ok (.invokevirtual idx, 3)) (kk : ∀ (H1 : Heap) (locs1 : List Loc), va_P D vwCl (wl ++ ((wd_C a cI cL cB cZ z res.2) ++ wr)) H1 → va_D A (wl ++ ((wd_C a cI cL cB cZ z res.2) ++ wr)) → va_S A s.heap H1 locs1 → W p l e R s m args below meth c H1 locs1 cells slots Q (F0 m (pc + 3) ls (.int res.1 :: rest))) : W p l e R s m args below meth c H locs cells slots Q (F0 m pc ls (.int (v1) :: .ref (a 0) :: rest)) := by
  obtain ⟨hx, hb, hml, hown, hts, hK, hA⟩ := C
  have hPc := mq_midP hP
  have hDc := mq_midD hD
  have hFc := mq_freeI hDc hS hA
  refine va_calli (va_runV (As := [.int (v1)]) (rest := rest) ⟨hx, hb, hml, hown, hts⟩ (zm_X10_verify l D a z cI cL cB cZ H.size N v1 S res h) (cwV 1 hts (mq_goodL (mq_wsV hlk zt_X10_verify_i zt_X10_verify_s zt_ini_X10 zt_X10_verify_c)) rfl rfl rfl (by decide +kernel) hR) ⟨fun a U g mk q => ⟨q.1, q.2.1, q.2.2.1, va_K.moved (u := U) (U := U.calling g mk a) (Vm.Alike.refl U.vm) q.2.2.2.1, q.2.2.2.2⟩, zy_C_0 hK hPc, fun U hU hW => ⟨rfl, by rw [hU], by rw [hU]; exact hPc, va_K.moved hW.alike hK, hDc.weaken (fun _ _ _ _ => trivial)⟩⟩ rfl rfl hls rfl (lv_room hrest) hdg hcs) hS (fun q _ h => hFc q h) hFc (fun r u t H1 locs ht hvm hw1 hB hz1 hk1 hS => ?_)
  obtain ⟨rfl, rfl⟩ := hw1
  obtain ⟨hP1, hK1, hD1⟩ := hB
  rw [ht] at hP1
  obtain ⟨hP2, hD2⟩ := mq_midJ (w1 := (wd_C a cI cL cB cZ z res.2)) hP hD rfl hk1 hP1
  exact kk H1 locs hP2 hD2 hS
set_option maxHeartbeats 4000000 in
theorem zL_X11_verify {p : Program} {l : Launch} {e : Env} {R : Room} {s : State} {m : MethodId} {args : Array Value} {below : List Frame} {meth : Method} {c : Code} {A : Nat → Prop} {D : va_G} {a z : Nat → Nat} {cI cL cB cZ : ClassId} {Q : State → Prop} {cc : ByteArray} {nL idx pc N : Nat} {own : String} {c1 : Cond} {H : Heap} {locs : List Loc} {ls : Array Slot} {rest : List Value} {S : mq_St} {res : Int32 × mq_St} {v1 : Int32} {cells slots : Nat} {wl wr : va_W} (C : mq_C p s m args c A D cI cL cB cZ cc nL own c1) (hcs : cells ≤ R.cells ∧ slots ≤ R.slots) (hlk : Cond.methodLink own idx yX11_verify ∈ mq_T) (hR : zr_X11_verify.frames + 1 ≤ R.frames ∧ 8 + (8 + 11) + zr_X11_verify.locals ≤ R.locals) (h : zf_X11_verify N z v1 S = some res) (hP : va_P D vwCl (wl ++ ((wd_R a cI cL cB cZ z S) ++ wr)) H) (hD : va_D A (wl ++ ((wd_R a cI cL cB cZ z S) ++ wr))) (hS : va_S A s.heap H locs) (hls : ls.size = nL) (hrest : (rest.map fun v => v.category).sum ≤ 8) (hdg : decode cc pc = .ok (.invokevirtual idx, 3)) (kk : ∀ (H1 : Heap) (locs1 : List Loc), va_P D vwCl (wl ++ ((wd_R a cI cL cB cZ z res.2) ++ wr)) H1 → va_D A (wl ++ ((wd_R a cI cL cB cZ z res.2) ++ wr)) → va_S A s.heap H1 locs1 → W p l e R s m args below meth c H1 locs1 cells slots Q (F0 m (pc + 3) ls (.int res.1 :: rest))) : W p l e R s m args below meth c H locs cells slots Q (F0 m pc ls (.int (v1) :: .ref (a 0) :: rest)) := by
  obtain ⟨hx, hb, hml, hown, hts, hK, hA⟩ := C
  have hPc := mq_midP hP
  have hDc := mq_midD hD
  have hFc := mq_freeI hDc hS hA
  refine va_calli (va_runV (As := [.int (v1)]) (rest := rest) ⟨hx, hb, hml, hown, hts⟩ (zm_X11_verify l D a z cI cL cB cZ H.size N v1 S res h) (cwV 1 hts (mq_goodL (mq_wsV hlk zt_X11_verify_i zt_X11_verify_s zt_ini_X11 zt_X11_verify_c)) rfl rfl rfl (by decide +kernel) hR) ⟨fun a U g mk q => ⟨q.1, q.2.1, q.2.2.1, va_K.moved (u := U) (U := U.calling g mk a) (Vm.Alike.refl U.vm) q.2.2.2.1, q.2.2.2.2⟩, zy_R_0 hK hPc, fun U hU hW => ⟨rfl, by rw [hU], by rw [hU]; exact hPc, va_K.moved hW.alike hK, hDc.weaken (fun _ _ _ _ => trivial)⟩⟩ rfl rfl hls rfl (lv_room hrest) hdg hcs) hS (fun q _ h => hFc q h) hFc (fun r u t H1 locs ht hvm hw1 hB hz1 hk1 hS => ?_)
  obtain ⟨rfl, rfl⟩ := hw1
  obtain ⟨hP1, hK1, hD1⟩ := hB
  rw [ht] at hP1
  obtain ⟨hP2, hD2⟩ := mq_midJ (w1 := (wd_R a cI cL cB cZ z res.2)) hP hD rfl hk1 hP1
  exact kk H1 locs hP2 hD2 hS
set_option maxHeartbeats 4000000 in
theorem zL_X10_worlds {p : Program} {l : Launch} {e : Env} {R : Room} {s : State} {m : MethodId} {args : Array Value} {below : List Frame} {meth : Method} {c : Code} {A : Nat → Prop} {D : va_G} {a z : Nat → Nat} {cI cL cB cZ : ClassId} {Q : State → Prop} {cc : ByteArray} {nL idx pc N : Nat} {own : String} {c1 : Cond} {H : Heap} {locs : List Loc} {ls : Array Slot} {rest : List Value} {S : mq_St} {res : Int32} {cells slots : Nat} {wl wr : va_W} (C : mq_C p s m args c A D cI cL cB cZ cc nL own c1) (hcs : cells ≤ R.cells ∧ slots ≤ R.slots) (hlk : Cond.methodLink own idx yX10_worlds ∈ mq_T) (hR : zr_X10_worlds.frames + 1 ≤ R.frames ∧ 8 + (1 + 11) + zr_X10_worlds.locals ≤ R.locals) (h : zf_X10_worlds N z S = some res) (hP : va_P D vwCl (wl ++ ((wd_C a cI cL cB cZ z S) ++ wr)) H) (hD : va_D A (wl ++ ((wd_C a cI cL cB cZ z S) ++ wr))) (hS : va_S A s.heap H locs) (hls : ls.size = nL) (hrest : (rest.map fun v => v.category).sum ≤ 8) (hdg : decode cc pc = .ok (.invokevirtual idx, 3)) (kk : ∀ (H1 : Heap) (locs1 : List Loc), va_P D vwCl (wl ++ ((wd_C a cI cL cB cZ z S) ++ wr)) H1 → va_D A (wl ++ ((wd_C a cI cL cB cZ z S) ++ wr)) → va_S A s.heap H1 locs1 → W p l e R s m args below meth c H1 locs1 cells slots Q (F0 m (pc + 3) ls (.int res :: rest))) : W p l e R s m args below meth c H locs cells slots Q (F0 m pc ls (.ref (a 0) :: rest)) := by
  obtain ⟨hx, hb, hml, hown, hts, hK, hA⟩ := C
  have hPc := mq_midP hP
  have hDc := mq_midD hD
  have hFc := mq_freeI hDc hS hA
  refine va_calli (va_runV (As := []) (rest := rest) ⟨hx, hb, hml, hown, hts⟩ (zm_X10_worlds l D a z cI cL cB cZ H.size N S res h) (cwV 0 hts (mq_goodL (mq_wsV hlk zt_X10_worlds_i zt_X10_worlds_s zt_ini_X10 zt_X10_worlds_c)) rfl rfl rfl (by decide +kernel) hR) ⟨fun a U g mk q => ⟨q.1, q.2.1, q.2.2.1, va_K.moved (u := U) (U := U.calling g mk a) (Vm.Alike.refl U.vm) q.2.2.2.1, q.2.2.2.2⟩, zy_C_0 hK hPc, fun U hU hW => ⟨rfl, by rw [hU], by rw [hU]; exact hPc, va_K.moved hW.alike hK, hDc.weaken (fun _ _ _ _ => trivial)⟩⟩ rfl rfl hls rfl (lv_room hrest) hdg hcs) hS (fun q _ h => hFc q h) hFc (fun r u t H1 locs ht hvm hw1 hB hz1 hk1 hS => ?_)
  obtain ⟨rfl, rfl⟩ := hw1
  obtain ⟨hP1, hK1, hD1⟩ := hB
  rw [ht] at hP1
  obtain ⟨hP2, hD2⟩ := mq_midJ hP hD rfl hk1 hP1
  exact kk H1 locs hP2 hD2 hS
set_option maxHeartbeats 4000000 in
theorem zL_X11_worlds {p : Program} {l : Launch} {e : Env} {R : Room} {s : State} {m : MethodId} {args : Array Value} {below : List Frame} {meth : Method} {c : Code} {A : Nat → Prop} {D : va_G} {a z : Nat → Nat} {cI cL cB cZ : ClassId} {Q : State → Prop} {cc : ByteArray} {nL idx pc N : Nat} {own : String} {c1 : Cond} {H : Heap} {locs : List Loc} {ls : Array Slot} {rest : List Value} {S : mq_St} {res : Int32 × mq_St} {cells slots : Nat} {wl wr : va_W} (C : mq_C p s m args c A D cI cL cB cZ cc nL own c1) (hcs : cells ≤ R.cells ∧ slots ≤ R.slots) (hlk : Cond.methodLink own idx yX11_worlds ∈ mq_T) (hR : zr_X11_worlds.frames + 1 ≤ R.frames ∧ 8 + (1 + 11) + zr_X11_worlds.locals ≤ R.locals) (h : zf_X11_worlds N z S = some res) (hP : va_P D vwCl (wl ++ ((wd_R a cI cL cB cZ z S) ++ wr)) H) (hD : va_D A (wl ++ ((wd_R a cI cL cB cZ z S) ++ wr))) (hS : va_S A s.heap H locs) (hls : ls.size = nL) (hrest : (rest.map fun v => v.category).sum ≤ 8) (hdg : decode cc pc = .ok (.invokevirtual idx, 3)) (kk : ∀ (H1 : Heap) (locs1 : List Loc), va_P D vwCl (wl ++ ((wd_R a cI cL cB cZ z res.2) ++ wr)) H1 → va_D A (wl ++ ((wd_R a cI cL cB cZ z res.2) ++ wr)) → va_S A s.heap H1 locs1 → W p l e R s m args below meth c H1 locs1 cells slots Q (F0 m (pc + 3) ls (.int res.1 :: rest))) : W p l e R s m args below meth c H locs cells slots Q (F0 m pc ls (.ref (a 0) :: rest)) := by
  obtain ⟨hx, hb, hml, hown, hts, hK, hA⟩ := C
  have hPc := mq_midP hP
  have hDc := mq_midD hD
  have hFc := mq_freeI hDc hS hA
  refine va_calli (va_runV (As := []) (rest := rest) ⟨hx, hb, hml, hown, hts⟩ (zm_X11_worlds l D a z cI cL cB cZ H.size N S res h) (cwV 0 hts (mq_goodL (mq_wsV hlk zt_X11_worlds_i zt_X11_worlds_s zt_ini_X11 zt_X11_worlds_c)) rfl rfl rfl (by decide +kernel) hR) ⟨fun a U g mk q => ⟨q.1, q.2.1, q.2.2.1, va_K.moved (u := U) (U := U.calling g mk a) (Vm.Alike.refl U.vm) q.2.2.2.1, q.2.2.2.2⟩, zy_R_0 hK hPc, fun U hU hW => ⟨rfl, by rw [hU], by rw [hU]; exact hPc, va_K.moved hW.alike hK, hDc.weaken (fun _ _ _ _ => trivial)⟩⟩ rfl rfl hls rfl (lv_room hrest) hdg hcs) hS (fun q _ h => hFc q h) hFc (fun r u t H1 locs ht hvm hw1 hB hz1 hk1 hS => ?_)
  obtain ⟨rfl, rfl⟩ := hw1
  obtain ⟨hP1, hK1, hD1⟩ := hB
  rw [ht] at hP1
  obtain ⟨hP2, hD2⟩ := mq_midJ (w1 := (wd_R a cI cL cB cZ z res.2)) hP hD rfl hk1 hP1
  exact kk H1 locs hP2 hD2 hS
set_option maxHeartbeats 4000000 in
theorem zL_X11_sees {p : Program} {l : Launch} {e : Env} {R : Room} {s : State} {m : MethodId} {args : Array Value} {below : List Frame} {meth : Method} {c : Code} {A : Nat → Prop} {D : va_G} {a z : Nat → Nat} {cI cL cB cZ : ClassId} {Q : State → Prop} {cc : ByteArray} {nL idx pc N : Nat} {own : String} {c1 : Cond} {H : Heap} {locs : List Loc} {ls : Array Slot} {rest : List Value} {S : mq_St} {res : Int32 × mq_St} {v1 : Int32} {v2 : Int32} {cells slots : Nat} {wl wr : va_W} (C : mq_C p s m args c A D cI cL cB cZ cc nL own c1) (hcs : cells ≤ R.cells ∧ slots ≤ R.slots) (hlk : Cond.methodLink own idx yX11_sees ∈ mq_T) (hR : zr_X11_sees.frames + 1 ≤ R.frames ∧ 8 + (3 + 11) + zr_X11_sees.locals ≤ R.locals) (h : zf_X11_sees N z v1 v2 S = some res) (hP : va_P D vwCl (wl ++ ((wd_R a cI cL cB cZ z S) ++ wr)) H) (hD : va_D A (wl ++ ((wd_R a cI cL cB cZ z S) ++ wr))) (hS : va_S A s.heap H locs) (hls : ls.size = nL) (hrest : (rest.map fun v => v.category).sum ≤ 8) (hdg : decode cc pc = .ok (.invokevirtual idx, 3)) (kk : ∀ (H1 : Heap) (locs1 : List Loc), va_P D vwCl (wl ++ ((wd_R a cI cL cB cZ z res.2) ++ wr)) H1 → va_D A (wl ++ ((wd_R a cI cL cB cZ z res.2) ++ wr)) → va_S A s.heap H1 locs1 → W p l e R s m args below meth c H1 locs1 cells slots Q (F0 m (pc + 3) ls (.int res.1 :: rest))) : W p l e R s m args below meth c H locs cells slots Q (F0 m pc ls (.int (v2) :: .int (v1) :: .ref (a 0) :: rest)) := by
  obtain ⟨hx, hb, hml, hown, hts, hK, hA⟩ := C
  have hPc := mq_midP hP
  have hDc := mq_midD hD
  have hFc := mq_freeI hDc hS hA
  refine va_calli (va_runV (As := [.int (v1), .int (v2)]) (rest := rest) ⟨hx, hb, hml, hown, hts⟩ (zm_X11_sees l D a z cI cL cB cZ H.size N v1 v2 S res h) (cwV 2 hts (mq_goodL (mq_wsV hlk zt_X11_sees_i zt_X11_sees_s zt_ini_X11 zt_X11_sees_c)) rfl rfl rfl (by decide +kernel) hR) ⟨fun a U g mk q => ⟨q.1, q.2.1, q.2.2.1, va_K.moved (u := U) (U := U.calling g mk a) (Vm.Alike.refl U.vm) q.2.2.2.1, q.2.2.2.2⟩, zy_R_0 hK hPc, fun U hU hW => ⟨rfl, by rw [hU], by rw [hU]; exact hPc, va_K.moved hW.alike hK, hDc.weaken (fun _ _ _ _ => trivial)⟩⟩ rfl rfl hls rfl (lv_room hrest) hdg hcs) hS (fun q _ h => hFc q h) hFc (fun r u t H1 locs ht hvm hw1 hB hz1 hk1 hS => ?_)
  obtain ⟨rfl, rfl⟩ := hw1
  obtain ⟨hP1, hK1, hD1⟩ := hB
  rw [ht] at hP1
  obtain ⟨hP2, hD2⟩ := mq_midJ (w1 := (wd_R a cI cL cB cZ z res.2)) hP hD rfl hk1 hP1
  exact kk H1 locs hP2 hD2 hS
set_option maxHeartbeats 4000000 in
theorem zL_X11_holds {p : Program} {l : Launch} {e : Env} {R : Room} {s : State} {m : MethodId} {args : Array Value} {below : List Frame} {meth : Method} {c : Code} {A : Nat → Prop} {D : va_G} {a z : Nat → Nat} {cI cL cB cZ : ClassId} {Q : State → Prop} {cc : ByteArray} {nL idx pc N : Nat} {own : String} {c1 : Cond} {H : Heap} {locs : List Loc} {ls : Array Slot} {rest : List Value} {S : mq_St} {res : Int32 × mq_St} {v1 : Int32} {v2 : Int32} {cells slots : Nat} {wl wr : va_W} (C : mq_C p s m args c A D cI cL cB cZ cc nL own c1) (hcs : cells ≤ R.cells ∧ slots ≤ R.slots) (hlk : Cond.methodLink own idx yX11_holds ∈ mq_T) (hR : zr_X11_holds.frames + 1 ≤ R.frames ∧ 8 + (5 + 11) + zr_X11_holds.locals ≤ R.locals) (h : zf_X11_holds N z v1 v2 S = some res) (hP : va_P D vwCl (wl ++ ((wd_R a cI cL cB cZ z S) ++ wr)) H) (hD : va_D A (wl ++ ((wd_R a cI cL cB cZ z S) ++ wr))) (hS : va_S A s.heap H locs) (hls : ls.size = nL) (hrest : (rest.map fun v => v.category).sum ≤ 8) (hdg : decode cc pc = .ok (.invokevirtual idx, 3)) (kk : ∀ (H1 : Heap) (locs1 : List Loc), va_P D vwCl (wl ++ ((wd_R a cI cL cB cZ z res.2) ++ wr)) H1 → va_D A (wl ++ ((wd_R a cI cL cB cZ z res.2) ++ wr)) → va_S A s.heap H1 locs1 → W p l e R s m args below meth c H1 locs1 cells slots Q (F0 m (pc + 3) ls (.int res.1 :: rest))) : W p l e R s m args below meth c H locs cells slots Q (F0 m pc ls (.int (v2) :: .int (v1) :: .ref (a 0) :: rest)) := by
  obtain ⟨hx, hb, hml, hown, hts, hK, hA⟩ := C
  have hPc := mq_midP hP
  have hDc := mq_midD hD
  have hFc := mq_freeI hDc hS hA
  refine va_calli (va_runV (As := [.int (v1), .int (v2)]) (rest := rest) ⟨hx, hb, hml, hown, hts⟩ (zm_X11_holds l D a z cI cL cB cZ H.size N v1 v2 S res h) (cwV 2 hts (mq_goodL (mq_wsV hlk zt_X11_holds_i zt_X11_holds_s zt_ini_X11 zt_X11_holds_c)) rfl rfl rfl (by decide +kernel) hR) ⟨fun a U g mk q => ⟨q.1, q.2.1, q.2.2.1, va_K.moved (u := U) (U := U.calling g mk a) (Vm.Alike.refl U.vm) q.2.2.2.1, q.2.2.2.2⟩, zy_R_0 hK hPc, fun U hU hW => ⟨rfl, by rw [hU], by rw [hU]; exact hPc, va_K.moved hW.alike hK, hDc.weaken (fun _ _ _ _ => trivial)⟩⟩ rfl rfl hls rfl (lv_room hrest) hdg hcs) hS (fun q _ h => hFc q h) hFc (fun r u t H1 locs ht hvm hw1 hB hz1 hk1 hS => ?_)
  obtain ⟨rfl, rfl⟩ := hw1
  obtain ⟨hP1, hK1, hD1⟩ := hB
  rw [ht] at hP1
  obtain ⟨hP2, hD2⟩ := mq_midJ (w1 := (wd_R a cI cL cB cZ z res.2)) hP hD rfl hk1 hP1
  exact kk H1 locs hP2 hD2 hS
set_option maxHeartbeats 4000000 in
theorem zL_X11_world {p : Program} {l : Launch} {e : Env} {R : Room} {s : State} {m : MethodId} {args : Array Value} {below : List Frame} {meth : Method} {c : Code} {A : Nat → Prop} {D : va_G} {a z : Nat → Nat} {cI cL cB cZ : ClassId} {Q : State → Prop} {cc : ByteArray} {nL idx pc N : Nat} {own : String} {c1 : Cond} {H : Heap} {locs : List Loc} {ls : Array Slot} {rest : List Value} {S : mq_St} {res : Int32 × mq_St} {v1 : Int32} {v2 : Int32} {cells slots : Nat} {wl wr : va_W} (C : mq_C p s m args c A D cI cL cB cZ cc nL own c1) (hcs : cells ≤ R.cells ∧ slots ≤ R.slots) (hlk : Cond.methodLink own idx yX11_world ∈ mq_T) (hR : zr_X11_world.frames + 1 ≤ R.frames ∧ 8 + (8 + 11) + zr_X11_world.locals ≤ R.locals) (h : zf_X11_world N z v1 v2 S = some res) (hP : va_P D vwCl (wl ++ ((wd_R a cI cL cB cZ z S) ++ wr)) H) (hD : va_D A (wl ++ ((wd_R a cI cL cB cZ z S) ++ wr))) (hS : va_S A s.heap H locs) (hls : ls.size = nL) (hrest : (rest.map fun v => v.category).sum ≤ 8) (hdg : decode cc pc = .ok (.invokevirtual idx, 3)) (kk : ∀ (H1 : Heap) (locs1 : List Loc), va_P D vwCl (wl ++ ((wd_R a cI cL cB cZ z res.2) ++ wr)) H1 → va_D A (wl ++ ((wd_R a cI cL cB cZ z res.2) ++ wr)) → va_S A s.heap H1 locs1 → W p l e R s m args below meth c H1 locs1 cells slots Q (F0 m (pc + 3) ls (.int res.1 :: rest))) : W p l e R s m args below meth c H locs cells slots Q (F0 m pc ls (.int (v2) :: .int (v1) :: .ref (a 0) :: rest)) := by
  obtain ⟨hx, hb, hml, hown, hts, hK, hA⟩ := C
  have hPc := mq_midP hP
  have hDc := mq_midD hD
  have hFc := mq_freeI hDc hS hA
  refine va_calli (va_runV (As := [.int (v1), .int (v2)]) (rest := rest) ⟨hx, hb, hml, hown, hts⟩ (zm_X11_world l D a z cI cL cB cZ H.size N v1 v2 S res h) (cwV 2 hts (mq_goodL (mq_wsV hlk zt_X11_world_i zt_X11_world_s zt_ini_X11 zt_X11_world_c)) rfl rfl rfl (by decide +kernel) hR) ⟨fun a U g mk q => ⟨q.1, q.2.1, q.2.2.1, va_K.moved (u := U) (U := U.calling g mk a) (Vm.Alike.refl U.vm) q.2.2.2.1, q.2.2.2.2⟩, zy_R_0 hK hPc, fun U hU hW => ⟨rfl, by rw [hU], by rw [hU]; exact hPc, va_K.moved hW.alike hK, hDc.weaken (fun _ _ _ _ => trivial)⟩⟩ rfl rfl hls rfl (lv_room hrest) hdg hcs) hS (fun q _ h => hFc q h) hFc (fun r u t H1 locs ht hvm hw1 hB hz1 hk1 hS => ?_)
  obtain ⟨rfl, rfl⟩ := hw1
  obtain ⟨hP1, hK1, hD1⟩ := hB
  rw [ht] at hP1
  obtain ⟨hP2, hD2⟩ := mq_midJ (w1 := (wd_R a cI cL cB cZ z res.2)) hP hD rfl hk1 hP1
  exact kk H1 locs hP2 hD2 hS
set_option maxHeartbeats 4000000 in
theorem zL_X10_fold {p : Program} {l : Launch} {e : Env} {R : Room} {s : State} {m : MethodId} {args : Array Value} {below : List Frame} {meth : Method} {c : Code} {A : Nat → Prop} {D : va_G} {a z : Nat → Nat} {cI cL cB cZ : ClassId} {Q : State → Prop} {cc : ByteArray} {nL idx pc N : Nat} {own : String} {c1 : Cond} {H : Heap} {locs : List Loc} {ls : Array Slot} {rest : List Value} {S : mq_St} {res : Int32 × mq_St} {cells slots : Nat} {wl wr : va_W} (C : mq_C p s m args c A D cI cL cB cZ cc nL own c1) (hcs : cells ≤ R.cells ∧ slots ≤ R.slots) (hlk : Cond.methodLink own idx yX10_fold ∈ mq_T) (hR : zr_X10_fold.frames + 1 ≤ R.frames ∧ 8 + (1 + 11) + zr_X10_fold.locals ≤ R.locals) (h : zf_X10_fold N z S = some res) (hP : va_P D vwCl (wl ++ ((wd_C a cI cL cB cZ z S) ++ wr)) H) (hD : va_D A (wl ++ ((wd_C a cI cL cB cZ z S) ++ wr))) (hS : va_S A s.heap H locs) (hls : ls.size = nL) (hrest : (rest.map fun v => v.category).sum ≤ 8) (hdg : decode cc pc = .ok (.invokevirtual idx, 3)) (kk : ∀ (H1 : Heap) (locs1 : List Loc), va_P D vwCl (wl ++ ((wd_C a cI cL cB cZ z res.2) ++ wr)) H1 → va_D A (wl ++ ((wd_C a cI cL cB cZ z res.2) ++ wr)) → va_S A s.heap H1 locs1 → W p l e R s m args below meth c H1 locs1 cells slots Q (F0 m (pc + 3) ls (.int res.1 :: rest))) : W p l e R s m args below meth c H locs cells slots Q (F0 m pc ls (.ref (a 0) :: rest)) := by
  obtain ⟨hx, hb, hml, hown, hts, hK, hA⟩ := C
  have hPc := mq_midP hP
  have hDc := mq_midD hD
  have hFc := mq_freeI hDc hS hA
  refine va_calli (va_runV (As := []) (rest := rest) ⟨hx, hb, hml, hown, hts⟩ (zm_X10_fold l D a z cI cL cB cZ H.size N S res h) (cwV 0 hts (mq_goodL (mq_wsV hlk zt_X10_fold_i zt_X10_fold_s zt_ini_X10 zt_X10_fold_c)) rfl rfl rfl (by decide +kernel) hR) ⟨fun a U g mk q => ⟨q.1, q.2.1, q.2.2.1, va_K.moved (u := U) (U := U.calling g mk a) (Vm.Alike.refl U.vm) q.2.2.2.1, q.2.2.2.2⟩, zy_C_0 hK hPc, fun U hU hW => ⟨rfl, by rw [hU], by rw [hU]; exact hPc, va_K.moved hW.alike hK, hDc.weaken (fun _ _ _ _ => trivial)⟩⟩ rfl rfl hls rfl (lv_room hrest) hdg hcs) hS (fun q _ h => hFc q h) hFc (fun r u t H1 locs ht hvm hw1 hB hz1 hk1 hS => ?_)
  obtain ⟨rfl, rfl⟩ := hw1
  obtain ⟨hP1, hK1, hD1⟩ := hB
  rw [ht] at hP1
  obtain ⟨hP2, hD2⟩ := mq_midJ (w1 := (wd_C a cI cL cB cZ z res.2)) hP hD rfl hk1 hP1
  exact kk H1 locs hP2 hD2 hS
set_option maxHeartbeats 4000000 in
theorem zL_X11_fold {p : Program} {l : Launch} {e : Env} {R : Room} {s : State} {m : MethodId} {args : Array Value} {below : List Frame} {meth : Method} {c : Code} {A : Nat → Prop} {D : va_G} {a z : Nat → Nat} {cI cL cB cZ : ClassId} {Q : State → Prop} {cc : ByteArray} {nL idx pc N : Nat} {own : String} {c1 : Cond} {H : Heap} {locs : List Loc} {ls : Array Slot} {rest : List Value} {S : mq_St} {res : Int32 × mq_St} {cells slots : Nat} {wl wr : va_W} (C : mq_C p s m args c A D cI cL cB cZ cc nL own c1) (hcs : cells ≤ R.cells ∧ slots ≤ R.slots) (hlk : Cond.methodLink own idx yX11_fold ∈ mq_T) (hR : zr_X11_fold.frames + 1 ≤ R.frames ∧ 8 + (7 + 11) + zr_X11_fold.locals ≤ R.locals) (h : zf_X11_fold N z S = some res) (hP : va_P D vwCl (wl ++ ((wd_R a cI cL cB cZ z S) ++ wr)) H) (hD : va_D A (wl ++ ((wd_R a cI cL cB cZ z S) ++ wr))) (hS : va_S A s.heap H locs) (hls : ls.size = nL) (hrest : (rest.map fun v => v.category).sum ≤ 8) (hdg : decode cc pc = .ok (.invokevirtual idx, 3)) (kk : ∀ (H1 : Heap) (locs1 : List Loc), va_P D vwCl (wl ++ ((wd_R a cI cL cB cZ z res.2) ++ wr)) H1 → va_D A (wl ++ ((wd_R a cI cL cB cZ z res.2) ++ wr)) → va_S A s.heap H1 locs1 → W p l e R s m args below meth c H1 locs1 cells slots Q (F0 m (pc + 3) ls (.int res.1 :: rest))) : W p l e R s m args below meth c H locs cells slots Q (F0 m pc ls (.ref (a 0) :: rest)) := by
  obtain ⟨hx, hb, hml, hown, hts, hK, hA⟩ := C
  have hPc := mq_midP hP
  have hDc := mq_midD hD
  have hFc := mq_freeI hDc hS hA
  refine va_calli (va_runV (As := []) (rest := rest) ⟨hx, hb, hml, hown, hts⟩ (zm_X11_fold l D a z cI cL cB cZ H.size N S res h) (cwV 0 hts (mq_goodL (mq_wsV hlk zt_X11_fold_i zt_X11_fold_s zt_ini_X11 zt_X11_fold_c)) rfl rfl rfl (by decide +kernel) hR) ⟨fun a U g mk q => ⟨q.1, q.2.1, q.2.2.1, va_K.moved (u := U) (U := U.calling g mk a) (Vm.Alike.refl U.vm) q.2.2.2.1, q.2.2.2.2⟩, zy_R_0 hK hPc, fun U hU hW => ⟨rfl, by rw [hU], by rw [hU]; exact hPc, va_K.moved hW.alike hK, hDc.weaken (fun _ _ _ _ => trivial)⟩⟩ rfl rfl hls rfl (lv_room hrest) hdg hcs) hS (fun q _ h => hFc q h) hFc (fun r u t H1 locs ht hvm hw1 hB hz1 hk1 hS => ?_)
  obtain ⟨rfl, rfl⟩ := hw1
  obtain ⟨hP1, hK1, hD1⟩ := hB
  rw [ht] at hP1
  obtain ⟨hP2, hD2⟩ := mq_midJ (w1 := (wd_R a cI cL cB cZ z res.2)) hP hD rfl hk1 hP1
  exact kk H1 locs hP2 hD2 hS
set_option maxHeartbeats 4000000 in
theorem zL_X11_cut {p : Program} {l : Launch} {e : Env} {R : Room} {s : State} {m : MethodId} {args : Array Value} {below : List Frame} {meth : Method} {c : Code} {A : Nat → Prop} {D : va_G} {a z : Nat → Nat} {cI cL cB cZ : ClassId} {Q : State → Prop} {cc : ByteArray} {nL idx pc N : Nat} {own : String} {c1 : Cond} {H : Heap} {locs : List Loc} {ls : Array Slot} {rest : List Value} {S : mq_St} {res : Int32 × mq_St} {v1 : Int32} {cells slots : Nat} {wl wr : va_W} (C : mq_C p s m args c A D cI cL cB cZ cc nL own c1) (hcs : cells ≤ R.cells ∧ slots ≤ R.slots) (hlk : Cond.methodLink own idx yX11_cut ∈ mq_T) (hR : zr_X11_cut.frames + 1 ≤ R.frames ∧ 8 + (5 + 11) + zr_X11_cut.locals ≤ R.locals) (h : zf_X11_cut N z v1 S = some res) (hP : va_P D vwCl (wl ++ ((wd_R a cI cL cB cZ z S) ++ wr)) H) (hD : va_D A (wl ++ ((wd_R a cI cL cB cZ z S) ++ wr))) (hS : va_S A s.heap H locs) (hls : ls.size = nL) (hrest : (rest.map fun v => v.category).sum ≤ 8) (hdg : decode cc pc = .ok (.invokevirtual idx, 3)) (kk : ∀ (H1 : Heap) (locs1 : List Loc), va_P D vwCl (wl ++ ((wd_R a cI cL cB cZ z res.2) ++ wr)) H1 → va_D A (wl ++ ((wd_R a cI cL cB cZ z res.2) ++ wr)) → va_S A s.heap H1 locs1 → W p l e R s m args below meth c H1 locs1 cells slots Q (F0 m (pc + 3) ls (.int res.1 :: rest))) : W p l e R s m args below meth c H locs cells slots Q (F0 m pc ls (.int (v1) :: .ref (a 0) :: rest)) := by
  obtain ⟨hx, hb, hml, hown, hts, hK, hA⟩ := C
  have hPc := mq_midP hP
  have hDc := mq_midD hD
  have hFc := mq_freeI hDc hS hA
  refine va_calli (va_runV (As := [.int (v1)]) (rest := rest) ⟨hx, hb, hml, hown, hts⟩ (zm_X11_cut l D a z cI cL cB cZ H.size N v1 S res h) (cwV 1 hts (mq_goodL (mq_wsV hlk zt_X11_cut_i zt_X11_cut_s zt_ini_X11 zt_X11_cut_c)) rfl rfl rfl (by decide +kernel) hR) ⟨fun a U g mk q => ⟨q.1, q.2.1, q.2.2.1, va_K.moved (u := U) (U := U.calling g mk a) (Vm.Alike.refl U.vm) q.2.2.2.1, q.2.2.2.2⟩, zy_R_0 hK hPc, fun U hU hW => ⟨rfl, by rw [hU], by rw [hU]; exact hPc, va_K.moved hW.alike hK, hDc.weaken (fun _ _ _ _ => trivial)⟩⟩ rfl rfl hls rfl (lv_room hrest) hdg hcs) hS (fun q _ h => hFc q h) hFc (fun r u t H1 locs ht hvm hw1 hB hz1 hk1 hS => ?_)
  obtain ⟨rfl, rfl⟩ := hw1
  obtain ⟨hP1, hK1, hD1⟩ := hB
  rw [ht] at hP1
  obtain ⟨hP2, hD2⟩ := mq_midJ (w1 := (wd_R a cI cL cB cZ z res.2)) hP hD rfl hk1 hP1
  exact kk H1 locs hP2 hD2 hS
