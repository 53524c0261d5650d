def zf_law_0 (N : Nat) (z : Nat → Nat) (x1 x2 x3 x4 x5 : Int32) (SC SR : mq_St) (f : Nat → Int64) : Option (mq_St × mq_St × (Nat → Int64)) := mq_cl (zf_X10_feed N z x1 x2 x3 x4 x5 SC) (fun r SC1 => mq_cl (zf_X11_feed N z x1 x2 x3 x4 x5 SR) (fun q SR1 => some (SC1, SR1, f)))
theorem zt_m_L_30 : Cond.methodLink RL 30 yX10_feed ∈ mq_T := mq_T_mem (mq_t2 (List.mem_of_getElem? (i := 140) rfl)) rfl
theorem zt_m_L_34 : Cond.methodLink RL 34 yX11_feed ∈ mq_T := mq_T_mem (mq_t6 (List.mem_of_getElem? (i := 155) rfl)) rfl
set_option maxHeartbeats 4000000 in
set_option maxRecDepth 100000 in
theorem zl_case_0 {p : Program} {l : Launch} {e : Env} {s : State} {m : MethodId} {args : Array Value} {below : List Frame} {meth : Method} {c : Code} {D : va_G} {a b z : Nat → Nat} {cI cL cB cZ : ClassId} {Q : State → Prop} {c1 : Cond} {N L k sb o s1 s2 cells slots : Nat} {xs : Nat → Int32} (C0 : mq_L p s m args c D cI cL cB cZ c1 l sb L xs s1 s2) (hk6 : k + 6 ≤ L) (hcs1 : cells + 1 ≤ room_1.cells ∧ slots + 6 ≤ room_1.slots) (SC SR : mq_St) (f : Nat → Int64) (res : mq_St × mq_St × (Nat → Int64)) (H : Heap) (locs : List Loc) (ls : Array Slot) (h : zf_law_0 N z (xs (k + 1)) (xs (k + 2)) (xs (k + 3)) (xs (k + 4)) (xs (k + 5)) SC SR f = some res) (hl : lv_has ls 7 [(0, .ref sb), (1, .ref (a 0)), (2, .ref (b 0)), (3, .ref o), (4, .int (nI k))]) (hP : va_P D vwCl (wd_R b cI cL cB cZ z SR ++ (wd_C a cI cL cB cZ z SC ++ mq_oo o cL (f))) H) (hD : va_D (fun q => s.heap.size ≤ q) (wd_R b cI cL cB cZ z SR ++ (wd_C a cI cL cB cZ z SC ++ mq_oo o cL (f)))) (hS : va_S (fun q => s.heap.size ≤ q) s.heap H locs) (kk : ∀ (H : Heap) (locs : List Loc) (ls : Array Slot), lv_has ls 7 [(0, .ref sb), (1, .ref (a 0)), (2, .ref (b 0)), (3, .ref o), (4, .int (nI k))] → va_P D vwCl (wd_R b cI cL cB cZ z res.2.1 ++ (wd_C a cI cL cB cZ z res.1 ++ mq_oo o cL (res.2.2))) H → va_D (fun q => s.heap.size ≤ q) (wd_R b cI cL cB cZ z res.2.1 ++ (wd_C a cI cL cB cZ z res.1 ++ mq_oo o cL (res.2.2))) → va_S (fun q => s.heap.size ≤ q) s.heap H locs → W p l e room_1 s m args below meth c H locs (cells + 1) (slots + 6) Q (F0 m 818 ls [])) : W p l e room_1 s m args below meth c H locs cells slots Q (F0 m 144 ls []) := by
  obtain ⟨C, hst, hXs, hbl, hL, hXX⟩ := C0
  obtain ⟨hx, hb, hml, hown, hts, hK, hA⟩ := id C
  have hbA : ¬ (fun q : Nat => s.heap.size ≤ q) sb := Nat.not_le.mpr hbl
  have hcs : cells ≤ room_1.cells ∧ slots ≤ room_1.slots := ⟨Nat.le_trans (Nat.le_add_right _ _) hcs1.1, Nat.le_trans (Nat.le_add_right _ _) hcs1.2⟩
  unfold zf_law_0 at h
  refine lv_aload_n hx hb dL_law_144 rfl (lv_at hl 1 rfl) ?_
  refine lv_aload_n hx hb dL_law_145 rfl (lv_at hl 0 rfl) ?_
  refine lv_iload hx hb dL_law_146 (lv_at hl 4 rfl) ?_
  refine lv_iconst (v := 1) hx hb dL_law_148 (by decide) ?_
  refine lv_iadd hx hb dL_law_149 ?_
  refine va_sld hx hb hXs hbl hbA hS (mq_sx (j := 1) (k := k) (by omega) hL).1 dL_law_150 ?_
  refine lv_topi (fun y1 ey1 => ?_)
  obtain rfl : y1 = xs (k + 1) := ey1.trans (congrArg xs (mq_sx (j := 1) (k := k) (by omega) hL).2)
  refine lv_aload_n hx hb dL_law_151 rfl (lv_at hl 0 rfl) ?_
  refine lv_iload hx hb dL_law_152 (lv_at hl 4 rfl) ?_
  refine lv_iconst (v := 2) hx hb dL_law_154 (by decide) ?_
  refine lv_iadd hx hb dL_law_155 ?_
  refine va_sld hx hb hXs hbl hbA hS (mq_sx (j := 2) (k := k) (by omega) hL).1 dL_law_156 ?_
  refine lv_topi (fun y2 ey2 => ?_)
  obtain rfl : y2 = xs (k + 2) := ey2.trans (congrArg xs (mq_sx (j := 2) (k := k) (by omega) hL).2)
  refine lv_aload_n hx hb dL_law_157 rfl (lv_at hl 0 rfl) ?_
  refine lv_iload hx hb dL_law_158 (lv_at hl 4 rfl) ?_
  refine lv_iconst (v := 3) hx hb dL_law_160 (by decide) ?_
  refine lv_iadd hx hb dL_law_161 ?_
  refine va_sld hx hb hXs hbl hbA hS (mq_sx (j := 3) (k := k) (by omega) hL).1 dL_law_162 ?_
  refine lv_topi (fun y3 ey3 => ?_)
  obtain rfl : y3 = xs (k + 3) := ey3.trans (congrArg xs (mq_sx (j := 3) (k := k) (by omega) hL).2)
  refine lv_aload_n hx hb dL_law_163 rfl (lv_at hl 0 rfl) ?_
  refine lv_iload hx hb dL_law_164 (lv_at hl 4 rfl) ?_
  refine lv_iconst (v := 4) hx hb dL_law_166 (by decide) ?_
  refine lv_iadd hx hb dL_law_167 ?_
  refine va_sld hx hb hXs hbl hbA hS (mq_sx (j := 4) (k := k) (by omega) hL).1 dL_law_168 ?_
  refine lv_topi (fun y4 ey4 => ?_)
  obtain rfl : y4 = xs (k + 4) := ey4.trans (congrArg xs (mq_sx (j := 4) (k := k) (by omega) hL).2)
  refine lv_aload_n hx hb dL_law_169 rfl (lv_at hl 0 rfl) ?_
  refine lv_iload hx hb dL_law_170 (lv_at hl 4 rfl) ?_
  refine lv_iconst (v := 5) hx hb dL_law_172 (by decide) ?_
  refine lv_iadd hx hb dL_law_173 ?_
  refine va_sld hx hb hXs hbl hbA hS (mq_sx (j := 5) (k := k) (by omega) hL).1 dL_law_174 ?_
  refine lv_topi (fun y5 ey5 => ?_)
  obtain rfl : y5 = xs (k + 5) := ey5.trans (congrArg xs (mq_sx (j := 5) (k := k) (by omega) hL).2)
  obtain ⟨q6, hc7, h⟩ := mq_cl_go h
  refine zL_X10_feed (a := a) (z := z) (wl := wd_R b cI cL cB cZ z SR) (wr := mq_oo o cL (f)) C hcs zt_m_L_30 ⟨Nat.le_of_ble_eq_true rfl, Nat.le_of_ble_eq_true rfl⟩ hc7 hP hD hS hl.1 (Nat.le_of_ble_eq_true rfl) dL_law_175 (fun H locs hP hD hS => ?_)
  obtain ⟨S8, eS8⟩ : ∃ y, y = q6.2 := ⟨_, rfl⟩
  rw [← eS8] at hP hD h
  have hP : va_P D vwCl (wd_R b cI cL cB cZ z SR ++ (wd_C a cI cL cB cZ z S8 ++ mq_oo o cL (f))) H := hP
  have hD : va_D (fun q => s.heap.size ≤ q) (wd_R b cI cL cB cZ z SR ++ (wd_C a cI cL cB cZ z S8 ++ mq_oo o cL (f))) := hD
  refine lv_pop hx hb dL_law_178 rfl ?_
  refine lv_aload_n hx hb dL_law_179 rfl (lv_at hl 2 rfl) ?_
  refine lv_aload_n hx hb dL_law_180 rfl (lv_at hl 0 rfl) ?_
  refine lv_iload hx hb dL_law_181 (lv_at hl 4 rfl) ?_
  refine lv_iconst (v := 1) hx hb dL_law_183 (by decide) ?_
  refine lv_iadd hx hb dL_law_184 ?_
  refine va_sld hx hb hXs hbl hbA hS (mq_sx (j := 1) (k := k) (by omega) hL).1 dL_law_185 ?_
  refine lv_topi (fun y9 ey9 => ?_)
  obtain rfl : y9 = xs (k + 1) := ey9.trans (congrArg xs (mq_sx (j := 1) (k := k) (by omega) hL).2)
  refine lv_aload_n hx hb dL_law_186 rfl (lv_at hl 0 rfl) ?_
  refine lv_iload hx hb dL_law_187 (lv_at hl 4 rfl) ?_
  refine lv_iconst (v := 2) hx hb dL_law_189 (by decide) ?_
  refine lv_iadd hx hb dL_law_190 ?_
  refine va_sld hx hb hXs hbl hbA hS (mq_sx (j := 2) (k := k) (by omega) hL).1 dL_law_191 ?_
  refine lv_topi (fun y10 ey10 => ?_)
  obtain rfl : y10 = xs (k + 2) := ey10.trans (congrArg xs (mq_sx (j := 2) (k := k) (by omega) hL).2)
  refine lv_aload_n hx hb dL_law_192 rfl (lv_at hl 0 rfl) ?_
  refine lv_iload hx hb dL_law_193 (lv_at hl 4 rfl) ?_
  refine lv_iconst (v := 3) hx hb dL_law_195 (by decide) ?_
  refine lv_iadd hx hb dL_law_196 ?_
  refine va_sld hx hb hXs hbl hbA hS (mq_sx (j := 3) (k := k) (by omega) hL).1 dL_law_197 ?_
  refine lv_topi (fun y11 ey11 => ?_)
  obtain rfl : y11 = xs (k + 3) := ey11.trans (congrArg xs (mq_sx (j := 3) (k := k) (by omega) hL).2)
  refine lv_aload_n hx hb dL_law_198 rfl (lv_at hl 0 rfl) ?_
  refine lv_iload hx hb dL_law_199 (lv_at hl 4 rfl) ?_
  refine lv_iconst (v := 4) hx hb dL_law_201 (by decide) ?_
  refine lv_iadd hx hb dL_law_202 ?_
  refine va_sld hx hb hXs hbl hbA hS (mq_sx (j := 4) (k := k) (by omega) hL).1 dL_law_203 ?_
  refine lv_topi (fun y12 ey12 => ?_)
  obtain rfl : y12 = xs (k + 4) := ey12.trans (congrArg xs (mq_sx (j := 4) (k := k) (by omega) hL).2)
  refine lv_aload_n hx hb dL_law_204 rfl (lv_at hl 0 rfl) ?_
  refine lv_iload hx hb dL_law_205 (lv_at hl 4 rfl) ?_
  refine lv_iconst (v := 5) hx hb dL_law_207 (by decide) ?_
  refine lv_iadd hx hb dL_law_208 ?_
  refine va_sld hx hb hXs hbl hbA hS (mq_sx (j := 5) (k := k) (by omega) hL).1 dL_law_209 ?_
  refine lv_topi (fun y13 ey13 => ?_)
  obtain rfl : y13 = xs (k + 5) := ey13.trans (congrArg xs (mq_sx (j := 5) (k := k) (by omega) hL).2)
  obtain ⟨q14, hc15, h⟩ := mq_cl_go h
  refine zL_X11_feed (a := b) (z := z) (wl := []) (wr := (wd_C a cI cL cB cZ z S8 ++ mq_oo o cL (f))) C hcs zt_m_L_34 ⟨Nat.le_of_ble_eq_true rfl, Nat.le_of_ble_eq_true rfl⟩ hc15 (by rw [List.nil_append]; exact hP) (by rw [List.nil_append]; exact hD) hS hl.1 (Nat.le_of_ble_eq_true rfl) dL_law_210 (fun H locs hP hD hS => ?_)
  obtain ⟨S16, eS16⟩ : ∃ y, y = q14.2 := ⟨_, rfl⟩
  rw [← eS16] at hP hD h
  have hP : va_P D vwCl (wd_R b cI cL cB cZ z S16 ++ (wd_C a cI cL cB cZ z S8 ++ mq_oo o cL (f))) H := hP
  have hD : va_D (fun q => s.heap.size ≤ q) (wd_R b cI cL cB cZ z S16 ++ (wd_C a cI cL cB cZ z S8 ++ mq_oo o cL (f))) := hD
  refine lv_pop hx hb dL_law_213 rfl ?_
  refine lv_goto (tgt := 818) hx hb dL_law_214 (by decide) ?_
  refine W.widen (k := cells + 1) (n := slots + 6) (Nat.le_add_right _ _) (Nat.le_add_right _ _) ?_
  cases h
  exact kk H locs ls (lv_sub hl [0, 1, 2, 3, 4] rfl) hP hD hS
def zf_law_1 (N : Nat) (z : Nat → Nat) (x1 x2 x3 x4 x5 : Int32) (SC SR : mq_St) (f : Nat → Int64) : Option (mq_St × mq_St × (Nat → Int64)) := mq_cl (zf_X10_end N z x1 SC) (fun r SC1 => mq_cl (zf_X11_end N z x1 SR) (fun q SR1 => some (SC1, SR1, f)))
theorem zt_m_L_35 : Cond.methodLink RL 35 yX10_end ∈ mq_T := mq_T_mem (mq_t2 (List.mem_of_getElem? (i := 160) rfl)) rfl
theorem zt_m_L_38 : Cond.methodLink RL 38 yX11_end ∈ mq_T := mq_T_mem (mq_t6 (List.mem_of_getElem? (i := 163) rfl)) rfl
set_option maxHeartbeats 4000000 in
set_option maxRecDepth 100000 in
theorem zl_case_1 {p : Program} {l : Launch} {e : Env} {s : State} {m : MethodId} {args : Array Value} {below : List Frame} {meth : Method} {c : Code} {D : va_G} {a b z : Nat → Nat} {cI cL cB cZ : ClassId} {Q : State → Prop} {c1 : Cond} {N L k sb o s1 s2 cells slots : Nat} {xs : Nat → Int32} (C0 : mq_L p s m args c D cI cL cB cZ c1 l sb L xs s1 s2) (hk6 : k + 6 ≤ L) (hcs1 : cells + 1 ≤ room_1.cells ∧ slots + 6 ≤ room_1.slots) (SC SR : mq_St) (f : Nat → Int64) (res : mq_St × mq_St × (Nat → Int64)) (H : Heap) (locs : List Loc) (ls : Array Slot) (h : zf_law_1 N z (xs (k + 1)) (xs (k + 2)) (xs (k + 3)) (xs (k + 4)) (xs (k + 5)) SC SR f = some res) (hl : lv_has ls 7 [(0, .ref sb), (1, .ref (a 0)), (2, .ref (b 0)), (3, .ref o), (4, .int (nI k))]) (hP : va_P D vwCl (wd_R b cI cL cB cZ z SR ++ (wd_C a cI cL cB cZ z SC ++ mq_oo o cL (f))) H) (hD : va_D (fun q => s.heap.size ≤ q) (wd_R b cI cL cB cZ z SR ++ (wd_C a cI cL cB cZ z SC ++ mq_oo o cL (f)))) (hS : va_S (fun q => s.heap.size ≤ q) s.heap H locs) (kk : ∀ (H : Heap) (locs : List Loc) (ls : Array Slot), lv_has ls 7 [(0, .ref sb), (1, .ref (a 0)), (2, .ref (b 0)), (3, .ref o), (4, .int (nI k))] → va_P D vwCl (wd_R b cI cL cB cZ z res.2.1 ++ (wd_C a cI cL cB cZ z res.1 ++ mq_oo o cL (res.2.2))) H → va_D (fun q => s.heap.size ≤ q) (wd_R b cI cL cB cZ z res.2.1 ++ (wd_C a cI cL cB cZ z res.1 ++ mq_oo o cL (res.2.2))) → va_S (fun q => s.heap.size ≤ q) s.heap H locs → W p l e room_1 s m args below meth c H locs (cells + 1) (slots + 6) Q (F0 m 818 ls [])) : W p l e room_1 s m args below meth c H locs cells slots Q (F0 m 217 ls []) := by
  obtain ⟨C, hst, hXs, hbl, hL, hXX⟩ := C0
  obtain ⟨hx, hb, hml, hown, hts, hK, hA⟩ := id C
  have hbA : ¬ (fun q : Nat => s.heap.size ≤ q) sb := Nat.not_le.mpr hbl
  have hcs : cells ≤ room_1.cells ∧ slots ≤ room_1.slots := ⟨Nat.le_trans (Nat.le_add_right _ _) hcs1.1, Nat.le_trans (Nat.le_add_right _ _) hcs1.2⟩
  unfold zf_law_1 at h
  refine lv_aload_n hx hb dL_law_217 rfl (lv_at hl 1 rfl) ?_
  refine lv_aload_n hx hb dL_law_218 rfl (lv_at hl 0 rfl) ?_
  refine lv_iload hx hb dL_law_219 (lv_at hl 4 rfl) ?_
  refine lv_iconst (v := 1) hx hb dL_law_221 (by decide) ?_
  refine lv_iadd hx hb dL_law_222 ?_
  refine va_sld hx hb hXs hbl hbA hS (mq_sx (j := 1) (k := k) (by omega) hL).1 dL_law_223 ?_
  refine lv_topi (fun y1 ey1 => ?_)
  obtain rfl : y1 = xs (k + 1) := ey1.trans (congrArg xs (mq_sx (j := 1) (k := k) (by omega) hL).2)
  obtain ⟨q2, hc3, h⟩ := mq_cl_go h
  refine zL_X10_end (a := a) (z := z) (wl := wd_R b cI cL cB cZ z SR) (wr := mq_oo o cL (f)) C hcs zt_m_L_35 ⟨Nat.le_of_ble_eq_true rfl, Nat.le_of_ble_eq_true rfl⟩ hc3 hP hD hS hl.1 (Nat.le_of_ble_eq_true rfl) dL_law_224 (fun H locs hP hD hS => ?_)
  obtain ⟨S4, eS4⟩ : ∃ y, y = q2.2 := ⟨_, rfl⟩
  rw [← eS4] at hP hD h
  have hP : va_P D vwCl (wd_R b cI cL cB cZ z SR ++ (wd_C a cI cL cB cZ z S4 ++ mq_oo o cL (f))) H := hP
  have hD : va_D (fun q => s.heap.size ≤ q) (wd_R b cI cL cB cZ z SR ++ (wd_C a cI cL cB cZ z S4 ++ mq_oo o cL (f))) := hD
  refine lv_pop hx hb dL_law_227 rfl ?_
  refine lv_aload_n hx hb dL_law_228 rfl (lv_at hl 2 rfl) ?_
  refine lv_aload_n hx hb dL_law_229 rfl (lv_at hl 0 rfl) ?_
  refine lv_iload hx hb dL_law_230 (lv_at hl 4 rfl) ?_
  refine lv_iconst (v := 1) hx hb dL_law_232 (by decide) ?_
  refine lv_iadd hx hb dL_law_233 ?_
  refine va_sld hx hb hXs hbl hbA hS (mq_sx (j := 1) (k := k) (by omega) hL).1 dL_law_234 ?_
  refine lv_topi (fun y5 ey5 => ?_)
  obtain rfl : y5 = xs (k + 1) := ey5.trans (congrArg xs (mq_sx (j := 1) (k := k) (by omega) hL).2)
  obtain ⟨q6, hc7, h⟩ := mq_cl_go h
  refine zL_X11_end (a := b) (z := z) (wl := []) (wr := (wd_C a cI cL cB cZ z S4 ++ mq_oo o cL (f))) C hcs zt_m_L_38 ⟨Nat.le_of_ble_eq_true rfl, Nat.le_of_ble_eq_true rfl⟩ hc7 (by rw [List.nil_append]; exact hP) (by rw [List.nil_append]; exact hD) hS hl.1 (Nat.le_of_ble_eq_true rfl) dL_law_235 (fun H locs hP hD hS => ?_)
  obtain ⟨S8, eS8⟩ : ∃ y, y = q6.2 := ⟨_, rfl⟩
  rw [← eS8] at hP hD h
  have hP : va_P D vwCl (wd_R b cI cL cB cZ z S8 ++ (wd_C a cI cL cB cZ z S4 ++ mq_oo o cL (f))) H := hP
  have hD : va_D (fun q => s.heap.size ≤ q) (wd_R b cI cL cB cZ z S8 ++ (wd_C a cI cL cB cZ z S4 ++ mq_oo o cL (f))) := hD
  refine lv_pop hx hb dL_law_238 rfl ?_
  refine lv_goto (tgt := 818) hx hb dL_law_239 (by decide) ?_
  refine W.widen (k := cells + 1) (n := slots + 6) (Nat.le_add_right _ _) (Nat.le_add_right _ _) ?_
  cases h
  exact kk H locs ls (lv_sub hl [0, 1, 2, 3, 4] rfl) hP hD hS
def zf_law_2 (N : Nat) (z : Nat → Nat) (x1 x2 x3 x4 x5 : Int32) (SC SR : mq_St) (f : Nat → Int64) : Option (mq_St × mq_St × (Nat → Int64)) := mq_cl (zf_X10_take N z SC) (fun r SC1 => mq_cl (zf_X11_take N z SR) (fun q SR1 => some (SC1, SR1, f)))
theorem zt_m_L_39 : Cond.methodLink RL 39 yX10_take ∈ mq_T := mq_T_mem (mq_t2 (List.mem_of_getElem? (i := 168) rfl)) rfl
theorem zt_m_L_43 : Cond.methodLink RL 43 yX11_take ∈ mq_T := mq_T_mem (mq_t6 (List.mem_of_getElem? (i := 170) rfl)) rfl
set_option maxHeartbeats 4000000 in
set_option maxRecDepth 100000 in
theorem zl_case_2 {p : Program} {l : Launch} {e : Env} {s : State} {m : MethodId} {args : Array Value} {below : List Frame} {meth : Method} {c : Code} {D : va_G} {a b z : Nat → Nat} {cI cL cB cZ : ClassId} {Q : State → Prop} {c1 : Cond} {N L k sb o s1 s2 cells slots : Nat} {xs : Nat → Int32} (C0 : mq_L p s m args c D cI cL cB cZ c1 l sb L xs s1 s2) (hk6 : k + 6 ≤ L) (hcs1 : cells + 1 ≤ room_1.cells ∧ slots + 6 ≤ room_1.slots) (SC SR : mq_St) (f : Nat → Int64) (res : mq_St × mq_St × (Nat → Int64)) (H : Heap) (locs : List Loc) (ls : Array Slot) (h : zf_law_2 N z (xs (k + 1)) (xs (k + 2)) (xs (k + 3)) (xs (k + 4)) (xs (k + 5)) SC SR f = some res) (hl : lv_has ls 7 [(0, .ref sb), (1, .ref (a 0)), (2, .ref (b 0)), (3, .ref o), (4, .int (nI k))]) (hP : va_P D vwCl (wd_R b cI cL cB cZ z SR ++ (wd_C a cI cL cB cZ z SC ++ mq_oo o cL (f))) H) (hD : va_D (fun q => s.heap.size ≤ q) (wd_R b cI cL cB cZ z SR ++ (wd_C a cI cL cB cZ z SC ++ mq_oo o cL (f)))) (hS : va_S (fun q => s.heap.size ≤ q) s.heap H locs) (kk : ∀ (H : Heap) (locs : List Loc) (ls : Array Slot), lv_has ls 7 [(0, .ref sb), (1, .ref (a 0)), (2, .ref (b 0)), (3, .ref o), (4, .int (nI k))] → va_P D vwCl (wd_R b cI cL cB cZ z res.2.1 ++ (wd_C a cI cL cB cZ z res.1 ++ mq_oo o cL (res.2.2))) H → va_D (fun q => s.heap.size ≤ q) (wd_R b cI cL cB cZ z res.2.1 ++ (wd_C a cI cL cB cZ z res.1 ++ mq_oo o cL (res.2.2))) → va_S (fun q => s.heap.size ≤ q) s.heap H locs → W p l e room_1 s m args below meth c H locs (cells + 1) (slots + 6) Q (F0 m 818 ls [])) : W p l e room_1 s m args below meth c H locs cells slots Q (F0 m 242 ls []) := by
  obtain ⟨C, hst, hXs, hbl, hL, hXX⟩ := C0
  obtain ⟨hx, hb, hml, hown, hts, hK, hA⟩ := id C
  have hbA : ¬ (fun q : Nat => s.heap.size ≤ q) sb := Nat.not_le.mpr hbl
  have hcs : cells ≤ room_1.cells ∧ slots ≤ room_1.slots := ⟨Nat.le_trans (Nat.le_add_right _ _) hcs1.1, Nat.le_trans (Nat.le_add_right _ _) hcs1.2⟩
  unfold zf_law_2 at h
  refine lv_aload_n hx hb dL_law_242 rfl (lv_at hl 1 rfl) ?_
  obtain ⟨q1, hc2, h⟩ := mq_cl_go h
  refine zL_X10_take (a := a) (z := z) (wl := wd_R b cI cL cB cZ z SR) (wr := mq_oo o cL (f)) C hcs zt_m_L_39 ⟨Nat.le_of_ble_eq_true rfl, Nat.le_of_ble_eq_true rfl⟩ hc2 hP hD hS hl.1 (Nat.le_of_ble_eq_true rfl) dL_law_243 (fun H locs hP hD hS => ?_)
  obtain ⟨S3, eS3⟩ : ∃ y, y = q1.2 := ⟨_, rfl⟩
  rw [← eS3] at hP hD h
  have hP : va_P D vwCl (wd_R b cI cL cB cZ z SR ++ (wd_C a cI cL cB cZ z S3 ++ mq_oo o cL (f))) H := hP
  have hD : va_D (fun q => s.heap.size ≤ q) (wd_R b cI cL cB cZ z SR ++ (wd_C a cI cL cB cZ z S3 ++ mq_oo o cL (f))) := hD
  refine lv_pop hx hb dL_law_246 rfl ?_
  refine lv_aload_n hx hb dL_law_247 rfl (lv_at hl 2 rfl) ?_
  obtain ⟨q4, hc5, h⟩ := mq_cl_go h
  refine zL_X11_take (a := b) (z := z) (wl := []) (wr := (wd_C a cI cL cB cZ z S3 ++ mq_oo o cL (f))) C hcs zt_m_L_43 ⟨Nat.le_of_ble_eq_true rfl, Nat.le_of_ble_eq_true rfl⟩ hc5 (by rw [List.nil_append]; exact hP) (by rw [List.nil_append]; exact hD) hS hl.1 (Nat.le_of_ble_eq_true rfl) dL_law_248 (fun H locs hP hD hS => ?_)
  obtain ⟨S6, eS6⟩ : ∃ y, y = q4.2 := ⟨_, rfl⟩
  rw [← eS6] at hP hD h
  have hP : va_P D vwCl (wd_R b cI cL cB cZ z S6 ++ (wd_C a cI cL cB cZ z S3 ++ mq_oo o cL (f))) H := hP
  have hD : va_D (fun q => s.heap.size ≤ q) (wd_R b cI cL cB cZ z S6 ++ (wd_C a cI cL cB cZ z S3 ++ mq_oo o cL (f))) := hD
  refine lv_pop hx hb dL_law_251 rfl ?_
  refine lv_goto (tgt := 818) hx hb dL_law_252 (by decide) ?_
  refine W.widen (k := cells + 1) (n := slots + 6) (Nat.le_add_right _ _) (Nat.le_add_right _ _) ?_
  cases h
  exact kk H locs ls (lv_sub hl [0, 1, 2, 3, 4] rfl) hP hD hS
def zf_law_3 (N : Nat) (z : Nat → Nat) (x1 x2 x3 x4 x5 : Int32) (SC SR : mq_St) (f : Nat → Int64) : Option (mq_St × mq_St × (Nat → Int64)) := mq_cl (zf_X10_alter N z x1 x2 SC) (fun r SC1 => mq_cl (zf_X11_alter N z x1 x2 SR) (fun q SR1 => some (SC1, SR1, f)))
theorem zt_m_L_44 : Cond.methodLink RL 44 yX10_alter ∈ mq_T := mq_T_mem (mq_t2 (List.mem_of_getElem? (i := 176) rfl)) rfl
theorem zt_m_L_47 : Cond.methodLink RL 47 yX11_alter ∈ mq_T := mq_T_mem (mq_t6 (List.mem_of_getElem? (i := 174) rfl)) rfl
set_option maxHeartbeats 4000000 in
set_option maxRecDepth 100000 in
theorem zl_case_3 {p : Program} {l : Launch} {e : Env} {s : State} {m : MethodId} {args : Array Value} {below : List Frame} {meth : Method} {c : Code} {D : va_G} {a b z : Nat → Nat} {cI cL cB cZ : ClassId} {Q : State → Prop} {c1 : Cond} {N L k sb o s1 s2 cells slots : Nat} {xs : Nat → Int32} (C0 : mq_L p s m args c D cI cL cB cZ c1 l sb L xs s1 s2) (hk6 : k + 6 ≤ L) (hcs1 : cells + 1 ≤ room_1.cells ∧ slots + 6 ≤ room_1.slots) (SC SR : mq_St) (f : Nat → Int64) (res : mq_St × mq_St × (Nat → Int64)) (H : Heap) (locs : List Loc) (ls : Array Slot) (h : zf_law_3 N z (xs (k + 1)) (xs (k + 2)) (xs (k + 3)) (xs (k + 4)) (xs (k + 5)) SC SR f = some res) (hl : lv_has ls 7 [(0, .ref sb), (1, .ref (a 0)), (2, .ref (b 0)), (3, .ref o), (4, .int (nI k))]) (hP : va_P D vwCl (wd_R b cI cL cB cZ z SR ++ (wd_C a cI cL cB cZ z SC ++ mq_oo o cL (f))) H) (hD : va_D (fun q => s.heap.size ≤ q) (wd_R b cI cL cB cZ z SR ++ (wd_C a cI cL cB cZ z SC ++ mq_oo o cL (f)))) (hS : va_S (fun q => s.heap.size ≤ q) s.heap H locs) (kk : ∀ (H : Heap) (locs : List Loc) (ls : Array Slot), lv_has ls 7 [(0, .ref sb), (1, .ref (a 0)), (2, .ref (b 0)), (3, .ref o), (4, .int (nI k))] → va_P D vwCl (wd_R b cI cL cB cZ z res.2.1 ++ (wd_C a cI cL cB cZ z res.1 ++ mq_oo o cL (res.2.2))) H → va_D (fun q => s.heap.size ≤ q) (wd_R b cI cL cB cZ z res.2.1 ++ (wd_C a cI cL cB cZ z res.1 ++ mq_oo o cL (res.2.2))) → va_S (fun q => s.heap.size ≤ q) s.heap H locs → W p l e room_1 s m args below meth c H locs (cells + 1) (slots + 6) Q (F0 m 818 ls [])) : W p l e room_1 s m args below meth c H locs cells slots Q (F0 m 255 ls []) := by
  obtain ⟨C, hst, hXs, hbl, hL, hXX⟩ := C0
  obtain ⟨hx, hb, hml, hown, hts, hK, hA⟩ := id C
  have hbA : ¬ (fun q : Nat => s.heap.size ≤ q) sb := Nat.not_le.mpr hbl
  have hcs : cells ≤ room_1.cells ∧ slots ≤ room_1.slots := ⟨Nat.le_trans (Nat.le_add_right _ _) hcs1.1, Nat.le_trans (Nat.le_add_right _ _) hcs1.2⟩
  unfold zf_law_3 at h
  refine lv_aload_n hx hb dL_law_255 rfl (lv_at hl 1 rfl) ?_
  refine lv_aload_n hx hb dL_law_256 rfl (lv_at hl 0 rfl) ?_
  refine lv_iload hx hb dL_law_257 (lv_at hl 4 rfl) ?_
  refine lv_iconst (v := 1) hx hb dL_law_259 (by decide) ?_
  refine lv_iadd hx hb dL_law_260 ?_
  refine va_sld hx hb hXs hbl hbA hS (mq_sx (j := 1) (k := k) (by omega) hL).1 dL_law_261 ?_
  refine lv_topi (fun y1 ey1 => ?_)
  obtain rfl : y1 = xs (k + 1) := ey1.trans (congrArg xs (mq_sx (j := 1) (k := k) (by omega) hL).2)
  refine lv_aload_n hx hb dL_law_262 rfl (lv_at hl 0 rfl) ?_
  refine lv_iload hx hb dL_law_263 (lv_at hl 4 rfl) ?_
  refine lv_iconst (v := 2) hx hb dL_law_265 (by decide) ?_
  refine lv_iadd hx hb dL_law_266 ?_
  refine va_sld hx hb hXs hbl hbA hS (mq_sx (j := 2) (k := k) (by omega) hL).1 dL_law_267 ?_
  refine lv_topi (fun y2 ey2 => ?_)
  obtain rfl : y2 = xs (k + 2) := ey2.trans (congrArg xs (mq_sx (j := 2) (k := k) (by omega) hL).2)
  obtain ⟨q3, hc4, h⟩ := mq_cl_go h
  refine zL_X10_alter (a := a) (z := z) (wl := wd_R b cI cL cB cZ z SR) (wr := mq_oo o cL (f)) C hcs zt_m_L_44 ⟨Nat.le_of_ble_eq_true rfl, Nat.le_of_ble_eq_true rfl⟩ hc4 hP hD hS hl.1 (Nat.le_of_ble_eq_true rfl) dL_law_268 (fun H locs hP hD hS => ?_)
  obtain ⟨S5, eS5⟩ : ∃ y, y = q3.2 := ⟨_, rfl⟩
  rw [← eS5] at hP hD h
  have hP : va_P D vwCl (wd_R b cI cL cB cZ z SR ++ (wd_C a cI cL cB cZ z S5 ++ mq_oo o cL (f))) H := hP
  have hD : va_D (fun q => s.heap.size ≤ q) (wd_R b cI cL cB cZ z SR ++ (wd_C a cI cL cB cZ z S5 ++ mq_oo o cL (f))) := hD
  refine lv_pop hx hb dL_law_271 rfl ?_
  refine lv_aload_n hx hb dL_law_272 rfl (lv_at hl 2 rfl) ?_
  refine lv_aload_n hx hb dL_law_273 rfl (lv_at hl 0 rfl) ?_
  refine lv_iload hx hb dL_law_274 (lv_at hl 4 rfl) ?_
  refine lv_iconst (v := 1) hx hb dL_law_276 (by decide) ?_
  refine lv_iadd hx hb dL_law_277 ?_
  refine va_sld hx hb hXs hbl hbA hS (mq_sx (j := 1) (k := k) (by omega) hL).1 dL_law_278 ?_
  refine lv_topi (fun y6 ey6 => ?_)
  obtain rfl : y6 = xs (k + 1) := ey6.trans (congrArg xs (mq_sx (j := 1) (k := k) (by omega) hL).2)
  refine lv_aload_n hx hb dL_law_279 rfl (lv_at hl 0 rfl) ?_
  refine lv_iload hx hb dL_law_280 (lv_at hl 4 rfl) ?_
  refine lv_iconst (v := 2) hx hb dL_law_282 (by decide) ?_
  refine lv_iadd hx hb dL_law_283 ?_
  refine va_sld hx hb hXs hbl hbA hS (mq_sx (j := 2) (k := k) (by omega) hL).1 dL_law_284 ?_
  refine lv_topi (fun y7 ey7 => ?_)
  obtain rfl : y7 = xs (k + 2) := ey7.trans (congrArg xs (mq_sx (j := 2) (k := k) (by omega) hL).2)
  obtain ⟨q8, hc9, h⟩ := mq_cl_go h
  refine zL_X11_alter (a := b) (z := z) (wl := []) (wr := (wd_C a cI cL cB cZ z S5 ++ mq_oo o cL (f))) C hcs zt_m_L_47 ⟨Nat.le_of_ble_eq_true rfl, Nat.le_of_ble_eq_true rfl⟩ hc9 (by rw [List.nil_append]; exact hP) (by rw [List.nil_append]; exact hD) hS hl.1 (Nat.le_of_ble_eq_true rfl) dL_law_285 (fun H locs hP hD hS => ?_)
  obtain ⟨S10, eS10⟩ : ∃ y, y = q8.2 := ⟨_, rfl⟩
  rw [← eS10] at hP hD h
  have hP : va_P D vwCl (wd_R b cI cL cB cZ z S10 ++ (wd_C a cI cL cB cZ z S5 ++ mq_oo o cL (f))) H := hP
  have hD : va_D (fun q => s.heap.size ≤ q) (wd_R b cI cL cB cZ z S10 ++ (wd_C a cI cL cB cZ z S5 ++ mq_oo o cL (f))) := hD
  refine lv_pop hx hb dL_law_288 rfl ?_
  refine lv_goto (tgt := 818) hx hb dL_law_289 (by decide) ?_
  refine W.widen (k := cells + 1) (n := slots + 6) (Nat.le_add_right _ _) (Nat.le_add_right _ _) ?_
  cases h
  exact kk H locs ls (lv_sub hl [0, 1, 2, 3, 4] rfl) hP hD hS
def zf_law_4 (N : Nat) (z : Nat → Nat) (x1 x2 x3 x4 x5 : Int32) (SC SR : mq_St) (f : Nat → Int64) : Option (mq_St × mq_St × (Nat → Int64)) := mq_cp (zf_X10_out N z x1 SC) (fun r => mq_cl (zf_X11_out N z x1 SR) (fun q SR1 => some (SC, SR1, f)))
theorem zt_m_L_48 : Cond.methodLink RL 48 yX10_out ∈ mq_T := mq_T_mem (mq_t2 (List.mem_of_getElem? (i := 181) rfl)) rfl
theorem zt_m_L_51 : Cond.methodLink RL 51 yX11_out ∈ mq_T := mq_T_mem (mq_t6 (List.mem_of_getElem? (i := 178) rfl)) rfl
set_option maxHeartbeats 4000000 in
set_option maxRecDepth 100000 in
theorem zl_case_4 {p : Program} {l : Launch} {e : Env} {s : State} {m : MethodId} {args : Array Value} {below : List Frame} {meth : Method} {c : Code} {D : va_G} {a b z : Nat → Nat} {cI cL cB cZ : ClassId} {Q : State → Prop} {c1 : Cond} {N L k sb o s1 s2 cells slots : Nat} {xs : Nat → Int32} (C0 : mq_L p s m args c D cI cL cB cZ c1 l sb L xs s1 s2) (hk6 : k + 6 ≤ L) (hcs1 : cells + 1 ≤ room_1.cells ∧ slots + 6 ≤ room_1.slots) (SC SR : mq_St) (f : Nat → Int64) (res : mq_St × mq_St × (Nat → Int64)) (H : Heap) (locs : List Loc) (ls : Array Slot) (h : zf_law_4 N z (xs (k + 1)) (xs (k + 2)) (xs (k + 3)) (xs (k + 4)) (xs (k + 5)) SC SR f = some res) (hl : lv_has ls 7 [(0, .ref sb), (1, .ref (a 0)), (2, .ref (b 0)), (3, .ref o), (4, .int (nI k))]) (hP : va_P D vwCl (wd_R b cI cL cB cZ z SR ++ (wd_C a cI cL cB cZ z SC ++ mq_oo o cL (f))) H) (hD : va_D (fun q => s.heap.size ≤ q) (wd_R b cI cL cB cZ z SR ++ (wd_C a cI cL cB cZ z SC ++ mq_oo o cL (f)))) (hS : va_S (fun q => s.heap.size ≤ q) s.heap H locs) (kk : ∀ (H : Heap) (locs : List Loc) (ls : Array Slot), lv_has ls 7 [(0, .ref sb), (1, .ref (a 0)), (2, .ref (b 0)), (3, .ref o), (4, .int (nI k))] → va_P D vwCl (wd_R b cI cL cB cZ z res.2.1 ++ (wd_C a cI cL cB cZ z res.1 ++ mq_oo o cL (res.2.2))) H → va_D (fun q => s.heap.size ≤ q) (wd_R b cI cL cB cZ z res.2.1 ++ (wd_C a cI cL cB cZ z res.1 ++ mq_oo o cL (res.2.2))) → va_S (fun q => s.heap.size ≤ q) s.heap H locs → W p l e room_1 s m args below meth c H locs (cells + 1) (slots + 6) Q (F0 m 818 ls [])) : W p l e room_1 s m args below meth c H locs cells slots Q (F0 m 292 ls []) := by
  obtain ⟨C, hst, hXs, hbl, hL, hXX⟩ := C0
  obtain ⟨hx, hb, hml, hown, hts, hK, hA⟩ := id C
  have hbA : ¬ (fun q : Nat => s.heap.size ≤ q) sb := Nat.not_le.mpr hbl
  have hcs : cells ≤ room_1.cells ∧ slots ≤ room_1.slots := ⟨Nat.le_trans (Nat.le_add_right _ _) hcs1.1, Nat.le_trans (Nat.le_add_right _ _) hcs1.2⟩
  unfold zf_law_4 at h
  refine lv_aload_n hx hb dL_law_292 rfl (lv_at hl 1 rfl) ?_
  refine lv_aload_n hx hb dL_law_293 rfl (lv_at hl 0 rfl) ?_
  refine lv_iload hx hb dL_law_294 (lv_at hl 4 rfl) ?_
  refine lv_iconst (v := 1) hx hb dL_law_296 (by decide) ?_
  refine lv_iadd hx hb dL_law_297 ?_
  refine va_sld hx hb hXs hbl hbA hS (mq_sx (j := 1) (k := k) (by omega) hL).1 dL_law_298 ?_
  refine lv_topi (fun y1 ey1 => ?_)
  obtain rfl : y1 = xs (k + 1) := ey1.trans (congrArg xs (mq_sx (j := 1) (k := k) (by omega) hL).2)
  obtain ⟨q2, hc3, h⟩ := mq_cp_go h
  refine zL_X10_out (a := a) (z := z) (wl := wd_R b cI cL cB cZ z SR) (wr := mq_oo o cL (f)) C hcs zt_m_L_48 ⟨Nat.le_of_ble_eq_true rfl, Nat.le_of_ble_eq_true rfl⟩ hc3 hP hD hS hl.1 (Nat.le_of_ble_eq_true rfl) dL_law_299 (fun H locs hP hD hS => ?_)
  have hP : va_P D vwCl (wd_R b cI cL cB cZ z SR ++ (wd_C a cI cL cB cZ z SC ++ mq_oo o cL (f))) H := hP
  have hD : va_D (fun q => s.heap.size ≤ q) (wd_R b cI cL cB cZ z SR ++ (wd_C a cI cL cB cZ z SC ++ mq_oo o cL (f))) := hD
  refine lv_pop hx hb dL_law_302 rfl ?_
  refine lv_aload_n hx hb dL_law_303 rfl (lv_at hl 2 rfl) ?_
  refine lv_aload_n hx hb dL_law_304 rfl (lv_at hl 0 rfl) ?_
  refine lv_iload hx hb dL_law_305 (lv_at hl 4 rfl) ?_
  refine lv_iconst (v := 1) hx hb dL_law_307 (by decide) ?_
  refine lv_iadd hx hb dL_law_308 ?_
  refine va_sld hx hb hXs hbl hbA hS (mq_sx (j := 1) (k := k) (by omega) hL).1 dL_law_309 ?_
  refine lv_topi (fun y4 ey4 => ?_)
  obtain rfl : y4 = xs (k + 1) := ey4.trans (congrArg xs (mq_sx (j := 1) (k := k) (by omega) hL).2)
  obtain ⟨q5, hc6, h⟩ := mq_cl_go h
  refine zL_X11_out (a := b) (z := z) (wl := []) (wr := (wd_C a cI cL cB cZ z SC ++ mq_oo o cL (f))) C hcs zt_m_L_51 ⟨Nat.le_of_ble_eq_true rfl, Nat.le_of_ble_eq_true rfl⟩ hc6 (by rw [List.nil_append]; exact hP) (by rw [List.nil_append]; exact hD) hS hl.1 (Nat.le_of_ble_eq_true rfl) dL_law_310 (fun H locs hP hD hS => ?_)
  obtain ⟨S7, eS7⟩ : ∃ y, y = q5.2 := ⟨_, rfl⟩
  rw [← eS7] at hP hD h
  have hP : va_P D vwCl (wd_R b cI cL cB cZ z S7 ++ (wd_C a cI cL cB cZ z SC ++ mq_oo o cL (f))) H := hP
  have hD : va_D (fun q => s.heap.size ≤ q) (wd_R b cI cL cB cZ z S7 ++ (wd_C a cI cL cB cZ z SC ++ mq_oo o cL (f))) := hD
  refine lv_pop hx hb dL_law_313 rfl ?_
  refine lv_goto (tgt := 818) hx hb dL_law_314 (by decide) ?_
  refine W.widen (k := cells + 1) (n := slots + 6) (Nat.le_add_right _ _) (Nat.le_add_right _ _) ?_
  cases h
  exact kk H locs ls (lv_sub hl [0, 1, 2, 3, 4] rfl) hP hD hS
def zf_law_5 (N : Nat) (z : Nat → Nat) (x1 x2 x3 x4 x5 : Int32) (SC SR : mq_St) (f : Nat → Int64) : Option (mq_St × mq_St × (Nat → Int64)) := mq_cl (zf_X10_read N z x1 (if x2 = 0 then 0 else 1) SC) (fun r SC1 => mq_cl (zf_X11_read N z x1 (if x2 = 0 then 0 else 1) SR) (fun q SR1 => some (SC1, SR1, f)))
theorem zt_m_L_52 : Cond.methodLink RL 52 yX10_read ∈ mq_T := mq_T_mem (mq_t2 (List.mem_of_getElem? (i := 189) rfl)) rfl
theorem zt_m_L_56 : Cond.methodLink RL 56 yX11_read ∈ mq_T := mq_T_mem (mq_t6 (List.mem_of_getElem? (i := 182) rfl)) rfl
set_option maxHeartbeats 4000000 in
set_option maxRecDepth 100000 in
theorem zl_case_5 {p : Program} {l : Launch} {e : Env} {s : State} {m : MethodId} {args : Array Value} {below : List Frame} {meth : Method} {c : Code} {D : va_G} {a b z : Nat → Nat} {cI cL cB cZ : ClassId} {Q : State → Prop} {c1 : Cond} {N L k sb o s1 s2 cells slots : Nat} {xs : Nat → Int32} (C0 : mq_L p s m args c D cI cL cB cZ c1 l sb L xs s1 s2) (hk6 : k + 6 ≤ L) (hcs1 : cells + 1 ≤ room_1.cells ∧ slots + 6 ≤ room_1.slots) (SC SR : mq_St) (f : Nat → Int64) (res : mq_St × mq_St × (Nat → Int64)) (H : Heap) (locs : List Loc) (ls : Array Slot) (h : zf_law_5 N z (xs (k + 1)) (xs (k + 2)) (xs (k + 3)) (xs (k + 4)) (xs (k + 5)) SC SR f = some res) (hl : lv_has ls 7 [(0, .ref sb), (1, .ref (a 0)), (2, .ref (b 0)), (3, .ref o), (4, .int (nI k))]) (hP : va_P D vwCl (wd_R b cI cL cB cZ z SR ++ (wd_C a cI cL cB cZ z SC ++ mq_oo o cL (f))) H) (hD : va_D (fun q => s.heap.size ≤ q) (wd_R b cI cL cB cZ z SR ++ (wd_C a cI cL cB cZ z SC ++ mq_oo o cL (f)))) (hS : va_S (fun q => s.heap.size ≤ q) s.heap H locs) (kk : ∀ (H : Heap) (locs : List Loc) (ls : Array Slot), lv_has ls 7 [(0, .ref sb), (1, .ref (a 0)), (2, .ref (b 0)), (3, .ref o), (4, .int (nI k))] → va_P D vwCl (wd_R b cI cL cB cZ z res.2.1 ++ (wd_C a cI cL cB cZ z res.1 ++ mq_oo o cL (res.2.2))) H → va_D (fun q => s.heap.size ≤ q) (wd_R b cI cL cB cZ z res.2.1 ++ (wd_C a cI cL cB cZ z res.1 ++ mq_oo o cL (res.2.2))) → va_S (fun q => s.heap.size ≤ q) s.heap H locs → W p l e room_1 s m args below meth c H locs (cells + 1) (slots + 6) Q (F0 m 818 ls [])) : W p l e room_1 s m args below meth c H locs cells slots Q (F0 m 317 ls []) := by
  obtain ⟨C, hst, hXs, hbl, hL, hXX⟩ := C0
  obtain ⟨hx, hb, hml, hown, hts, hK, hA⟩ := id C
  have hbA : ¬ (fun q : Nat => s.heap.size ≤ q) sb := Nat.not_le.mpr hbl
  have hcs : cells ≤ room_1.cells ∧ slots ≤ room_1.slots := ⟨Nat.le_trans (Nat.le_add_right _ _) hcs1.1, Nat.le_trans (Nat.le_add_right _ _) hcs1.2⟩
  unfold zf_law_5 at h
  refine lv_aload_n hx hb dL_law_317 rfl (lv_at hl 1 rfl) ?_
  refine lv_aload_n hx hb dL_law_318 rfl (lv_at hl 0 rfl) ?_
  refine lv_iload hx hb dL_law_319 (lv_at hl 4 rfl) ?_
  refine lv_iconst (v := 1) hx hb dL_law_321 (by decide) ?_
  refine lv_iadd hx hb dL_law_322 ?_
  refine va_sld hx hb hXs hbl hbA hS (mq_sx (j := 1) (k := k) (by omega) hL).1 dL_law_323 ?_
  refine lv_topi (fun y1 ey1 => ?_)
  obtain rfl : y1 = xs (k + 1) := ey1.trans (congrArg xs (mq_sx (j := 1) (k := k) (by omega) hL).2)
  refine lv_aload_n hx hb dL_law_324 rfl (lv_at hl 0 rfl) ?_
  refine lv_iload hx hb dL_law_325 (lv_at hl 4 rfl) ?_
  refine lv_iconst (v := 2) hx hb dL_law_327 (by decide) ?_
  refine lv_iadd hx hb dL_law_328 ?_
  refine va_sld hx hb hXs hbl hbA hS (mq_sx (j := 2) (k := k) (by omega) hL).1 dL_law_329 ?_
  refine lv_topi (fun y2 ey2 => ?_)
  obtain rfl : y2 = xs (k + 2) := ey2.trans (congrArg xs (mq_sx (j := 2) (k := k) (by omega) hL).2)
  by_cases cb : xs (k + 2) = 0
  · rw [if_pos cb] at h
    refine lv_if_eq (tgt := 337) hx hb dL_law_330 (by decide) (fun c3 => ?_) (fun c3 => ?_)
    · refine lv_iconst (v := 0) hx hb dL_law_337 (by decide) ?_
      obtain ⟨q4, hc5, h⟩ := mq_cl_go h
      refine zL_X10_read (a := a) (z := z) (wl := wd_R b cI cL cB cZ z SR) (wr := mq_oo o cL (f)) C hcs zt_m_L_52 ⟨Nat.le_of_ble_eq_true rfl, Nat.le_of_ble_eq_true rfl⟩ hc5 hP hD hS hl.1 (Nat.le_of_ble_eq_true rfl) dL_law_338 (fun H locs hP hD hS => ?_)
      obtain ⟨S6, eS6⟩ : ∃ y, y = q4.2 := ⟨_, rfl⟩
      rw [← eS6] at hP hD h
      have hP : va_P D vwCl (wd_R b cI cL cB cZ z SR ++ (wd_C a cI cL cB cZ z S6 ++ mq_oo o cL (f))) H := hP
      have hD : va_D (fun q => s.heap.size ≤ q) (wd_R b cI cL cB cZ z SR ++ (wd_C a cI cL cB cZ z S6 ++ mq_oo o cL (f))) := hD
      refine lv_pop hx hb dL_law_341 rfl ?_
      refine lv_aload_n hx hb dL_law_342 rfl (lv_at hl 2 rfl) ?_
      refine lv_aload_n hx hb dL_law_343 rfl (lv_at hl 0 rfl) ?_
      refine lv_iload hx hb dL_law_344 (lv_at hl 4 rfl) ?_
      refine lv_iconst (v := 1) hx hb dL_law_346 (by decide) ?_
      refine lv_iadd hx hb dL_law_347 ?_
      refine va_sld hx hb hXs hbl hbA hS (mq_sx (j := 1) (k := k) (by omega) hL).1 dL_law_348 ?_
      refine lv_topi (fun y7 ey7 => ?_)
      obtain rfl : y7 = xs (k + 1) := ey7.trans (congrArg xs (mq_sx (j := 1) (k := k) (by omega) hL).2)
      refine lv_aload_n hx hb dL_law_349 rfl (lv_at hl 0 rfl) ?_
      refine lv_iload hx hb dL_law_350 (lv_at hl 4 rfl) ?_
      refine lv_iconst (v := 2) hx hb dL_law_352 (by decide) ?_
      refine lv_iadd hx hb dL_law_353 ?_
      refine va_sld hx hb hXs hbl hbA hS (mq_sx (j := 2) (k := k) (by omega) hL).1 dL_law_354 ?_
      refine lv_topi (fun y8 ey8 => ?_)
      obtain rfl : y8 = xs (k + 2) := ey8.trans (congrArg xs (mq_sx (j := 2) (k := k) (by omega) hL).2)
      refine lv_if_eq (tgt := 362) hx hb dL_law_355 (by decide) (fun c9 => ?_) (fun c9 => ?_)
      · refine lv_iconst (v := 0) hx hb dL_law_362 (by decide) ?_
        obtain ⟨q10, hc11, h⟩ := mq_cl_go h
        refine zL_X11_read (a := b) (z := z) (wl := []) (wr := (wd_C a cI cL cB cZ z S6 ++ mq_oo o cL (f))) C hcs zt_m_L_56 ⟨Nat.le_of_ble_eq_true rfl, Nat.le_of_ble_eq_true rfl⟩ hc11 (by rw [List.nil_append]; exact hP) (by rw [List.nil_append]; exact hD) hS hl.1 (Nat.le_of_ble_eq_true rfl) dL_law_363 (fun H locs hP hD hS => ?_)
        obtain ⟨S12, eS12⟩ : ∃ y, y = q10.2 := ⟨_, rfl⟩
        rw [← eS12] at hP hD h
        have hP : va_P D vwCl (wd_R b cI cL cB cZ z S12 ++ (wd_C a cI cL cB cZ z S6 ++ mq_oo o cL (f))) H := hP
        have hD : va_D (fun q => s.heap.size ≤ q) (wd_R b cI cL cB cZ z S12 ++ (wd_C a cI cL cB cZ z S6 ++ mq_oo o cL (f))) := hD
        refine lv_pop hx hb dL_law_366 rfl ?_
        refine lv_goto (tgt := 818) hx hb dL_law_367 (by decide) ?_
        refine W.widen (k := cells + 1) (n := slots + 6) (Nat.le_add_right _ _) (Nat.le_add_right _ _) ?_
        cases h
        exact kk H locs ls (lv_sub hl [0, 1, 2, 3, 4] rfl) hP hD hS
      · exact absurd cb c9
    · exact absurd cb c3
  · rw [if_neg cb] at h
    refine lv_if_eq (tgt := 337) hx hb dL_law_330 (by decide) (fun c13 => ?_) (fun c13 => ?_)
    · exact absurd c13 cb
    · refine lv_iconst (v := 1) hx hb dL_law_333 (by decide) ?_
      refine lv_goto (tgt := 338) hx hb dL_law_334 (by decide) ?_
      obtain ⟨q14, hc15, h⟩ := mq_cl_go h
      refine zL_X10_read (a := a) (z := z) (wl := wd_R b cI cL cB cZ z SR) (wr := mq_oo o cL (f)) C hcs zt_m_L_52 ⟨Nat.le_of_ble_eq_true rfl, Nat.le_of_ble_eq_true rfl⟩ hc15 hP hD hS hl.1 (Nat.le_of_ble_eq_true rfl) dL_law_338 (fun H locs hP hD hS => ?_)
      obtain ⟨S16, eS16⟩ : ∃ y, y = q14.2 := ⟨_, rfl⟩
      rw [← eS16] at hP hD h
      have hP : va_P D vwCl (wd_R b cI cL cB cZ z SR ++ (wd_C a cI cL cB cZ z S16 ++ mq_oo o cL (f))) H := hP
      have hD : va_D (fun q => s.heap.size ≤ q) (wd_R b cI cL cB cZ z SR ++ (wd_C a cI cL cB cZ z S16 ++ mq_oo o cL (f))) := hD
      refine lv_pop hx hb dL_law_341 rfl ?_
      refine lv_aload_n hx hb dL_law_342 rfl (lv_at hl 2 rfl) ?_
      refine lv_aload_n hx hb dL_law_343 rfl (lv_at hl 0 rfl) ?_
      refine lv_iload hx hb dL_law_344 (lv_at hl 4 rfl) ?_
      refine lv_iconst (v := 1) hx hb dL_law_346 (by decide) ?_
      refine lv_iadd hx hb dL_law_347 ?_
      refine va_sld hx hb hXs hbl hbA hS (mq_sx (j := 1) (k := k) (by omega) hL).1 dL_law_348 ?_
      refine lv_topi (fun y17 ey17 => ?_)
      obtain rfl : y17 = xs (k + 1) := ey17.trans (congrArg xs (mq_sx (j := 1) (k := k) (by omega) hL).2)
      refine lv_aload_n hx hb dL_law_349 rfl (lv_at hl 0 rfl) ?_
      refine lv_iload hx hb dL_law_350 (lv_at hl 4 rfl) ?_
      refine lv_iconst (v := 2) hx hb dL_law_352 (by decide) ?_
      refine lv_iadd hx hb dL_law_353 ?_
      refine va_sld hx hb hXs hbl hbA hS (mq_sx (j := 2) (k := k) (by omega) hL).1 dL_law_354 ?_
      refine lv_topi (fun y18 ey18 => ?_)
      obtain rfl : y18 = xs (k + 2) := ey18.trans (congrArg xs (mq_sx (j := 2) (k := k) (by omega) hL).2)
      refine lv_if_eq (tgt := 362) hx hb dL_law_355 (by decide) (fun c19 => ?_) (fun c19 => ?_)
      · exact absurd c19 cb
      · refine lv_iconst (v := 1) hx hb dL_law_358 (by decide) ?_
        refine lv_goto (tgt := 363) hx hb dL_law_359 (by decide) ?_
        obtain ⟨q20, hc21, h⟩ := mq_cl_go h
        refine zL_X11_read (a := b) (z := z) (wl := []) (wr := (wd_C a cI cL cB cZ z S16 ++ mq_oo o cL (f))) C hcs zt_m_L_56 ⟨Nat.le_of_ble_eq_true rfl, Nat.le_of_ble_eq_true rfl⟩ hc21 (by rw [List.nil_append]; exact hP) (by rw [List.nil_append]; exact hD) hS hl.1 (Nat.le_of_ble_eq_true rfl) dL_law_363 (fun H locs hP hD hS => ?_)
        obtain ⟨S22, eS22⟩ : ∃ y, y = q20.2 := ⟨_, rfl⟩
        rw [← eS22] at hP hD h
        have hP : va_P D vwCl (wd_R b cI cL cB cZ z S22 ++ (wd_C a cI cL cB cZ z S16 ++ mq_oo o cL (f))) H := hP
        have hD : va_D (fun q => s.heap.size ≤ q) (wd_R b cI cL cB cZ z S22 ++ (wd_C a cI cL cB cZ z S16 ++ mq_oo o cL (f))) := hD
        refine lv_pop hx hb dL_law_366 rfl ?_
        refine lv_goto (tgt := 818) hx hb dL_law_367 (by decide) ?_
        refine W.widen (k := cells + 1) (n := slots + 6) (Nat.le_add_right _ _) (Nat.le_add_right _ _) ?_
        cases h
        exact kk H locs ls (lv_sub hl [0, 1, 2, 3, 4] rfl) hP hD hS
def zf_law_6 (N : Nat) (z : Nat → Nat) (x1 x2 x3 x4 x5 : Int32) (SC SR : mq_St) (f : Nat → Int64) : Option (mq_St × mq_St × (Nat → Int64)) := mq_cp (zf_X10_fault N z x1 SC) (fun r => mq_cl (zf_X11_fault N z x1 SR) (fun q SR1 => some (SC, SR1, f)))
theorem zt_m_L_57 : Cond.methodLink RL 57 yX10_fault ∈ mq_T := mq_T_mem (mq_t3 (List.mem_of_getElem? (i := 147) rfl)) rfl
theorem zt_m_L_60 : Cond.methodLink RL 60 yX11_fault ∈ mq_T := mq_T_mem (mq_t7 (List.mem_of_getElem? (i := 6) rfl)) rfl
set_option maxHeartbeats 4000000 in
set_option maxRecDepth 100000 in
theorem zl_case_6 {p : Program} {l : Launch} {e : Env} {s : State} {m : MethodId} {args : Array Value} {below : List Frame} {meth : Method} {c : Code} {D : va_G} {a b z : Nat → Nat} {cI cL cB cZ : ClassId} {Q : State → Prop} {c1 : Cond} {N L k sb o s1 s2 cells slots : Nat} {xs : Nat → Int32} (C0 : mq_L p s m args c D cI cL cB cZ c1 l sb L xs s1 s2) (hk6 : k + 6 ≤ L) (hcs1 : cells + 1 ≤ room_1.cells ∧ slots + 6 ≤ room_1.slots) (SC SR : mq_St) (f : Nat → Int64) (res : mq_St × mq_St × (Nat → Int64)) (H : Heap) (locs : List Loc) (ls : Array Slot) (h : zf_law_6 N z (xs (k + 1)) (xs (k + 2)) (xs (k + 3)) (xs (k + 4)) (xs (k + 5)) SC SR f = some res) (hl : lv_has ls 7 [(0, .ref sb), (1, .ref (a 0)), (2, .ref (b 0)), (3, .ref o), (4, .int (nI k))]) (hP : va_P D vwCl (wd_R b cI cL cB cZ z SR ++ (wd_C a cI cL cB cZ z SC ++ mq_oo o cL (f))) H) (hD : va_D (fun q => s.heap.size ≤ q) (wd_R b cI cL cB cZ z SR ++ (wd_C a cI cL cB cZ z SC ++ mq_oo o cL (f)))) (hS : va_S (fun q => s.heap.size ≤ q) s.heap H locs) (kk : ∀ (H : Heap) (locs : List Loc) (ls : Array Slot), lv_has ls 7 [(0, .ref sb), (1, .ref (a 0)), (2, .ref (b 0)), (3, .ref o), (4, .int (nI k))] → va_P D vwCl (wd_R b cI cL cB cZ z res.2.1 ++ (wd_C a cI cL cB cZ z res.1 ++ mq_oo o cL (res.2.2))) H → va_D (fun q => s.heap.size ≤ q) (wd_R b cI cL cB cZ z res.2.1 ++ (wd_C a cI cL cB cZ z res.1 ++ mq_oo o cL (res.2.2))) → va_S (fun q => s.heap.size ≤ q) s.heap H locs → W p l e room_1 s m args below meth c H locs (cells + 1) (slots + 6) Q (F0 m 818 ls [])) : W p l e room_1 s m args below meth c H locs cells slots Q (F0 m 370 ls []) := by
  obtain ⟨C, hst, hXs, hbl, hL, hXX⟩ := C0
  obtain ⟨hx, hb, hml, hown, hts, hK, hA⟩ := id C
  have hbA : ¬ (fun q : Nat => s.heap.size ≤ q) sb := Nat.not_le.mpr hbl
  have hcs : cells ≤ room_1.cells ∧ slots ≤ room_1.slots := ⟨Nat.le_trans (Nat.le_add_right _ _) hcs1.1, Nat.le_trans (Nat.le_add_right _ _) hcs1.2⟩
  unfold zf_law_6 at h
  refine lv_aload_n hx hb dL_law_370 rfl (lv_at hl 1 rfl) ?_
  refine lv_aload_n hx hb dL_law_371 rfl (lv_at hl 0 rfl) ?_
  refine lv_iload hx hb dL_law_372 (lv_at hl 4 rfl) ?_
  refine lv_iconst (v := 1) hx hb dL_law_374 (by decide) ?_
  refine lv_iadd hx hb dL_law_375 ?_
  refine va_sld hx hb hXs hbl hbA hS (mq_sx (j := 1) (k := k) (by omega) hL).1 dL_law_376 ?_
  refine lv_topi (fun y1 ey1 => ?_)
  obtain rfl : y1 = xs (k + 1) := ey1.trans (congrArg xs (mq_sx (j := 1) (k := k) (by omega) hL).2)
  obtain ⟨q2, hc3, h⟩ := mq_cp_go h
  refine zL_X10_fault (a := a) (z := z) (wl := wd_R b cI cL cB cZ z SR) (wr := mq_oo o cL (f)) C hcs zt_m_L_57 ⟨Nat.le_of_ble_eq_true rfl, Nat.le_of_ble_eq_true rfl⟩ hc3 hP hD hS hl.1 (Nat.le_of_ble_eq_true rfl) dL_law_377 (fun H locs hP hD hS => ?_)
  have hP : va_P D vwCl (wd_R b cI cL cB cZ z SR ++ (wd_C a cI cL cB cZ z SC ++ mq_oo o cL (f))) H := hP
  have hD : va_D (fun q => s.heap.size ≤ q) (wd_R b cI cL cB cZ z SR ++ (wd_C a cI cL cB cZ z SC ++ mq_oo o cL (f))) := hD
  refine lv_pop hx hb dL_law_380 rfl ?_
  refine lv_aload_n hx hb dL_law_381 rfl (lv_at hl 2 rfl) ?_
  refine lv_aload_n hx hb dL_law_382 rfl (lv_at hl 0 rfl) ?_
  refine lv_iload hx hb dL_law_383 (lv_at hl 4 rfl) ?_
  refine lv_iconst (v := 1) hx hb dL_law_385 (by decide) ?_
  refine lv_iadd hx hb dL_law_386 ?_
  refine va_sld hx hb hXs hbl hbA hS (mq_sx (j := 1) (k := k) (by omega) hL).1 dL_law_387 ?_
  refine lv_topi (fun y4 ey4 => ?_)
  obtain rfl : y4 = xs (k + 1) := ey4.trans (congrArg xs (mq_sx (j := 1) (k := k) (by omega) hL).2)
  obtain ⟨q5, hc6, h⟩ := mq_cl_go h
  refine zL_X11_fault (a := b) (z := z) (wl := []) (wr := (wd_C a cI cL cB cZ z SC ++ mq_oo o cL (f))) C hcs zt_m_L_60 ⟨Nat.le_of_ble_eq_true rfl, Nat.le_of_ble_eq_true rfl⟩ hc6 (by rw [List.nil_append]; exact hP) (by rw [List.nil_append]; exact hD) hS hl.1 (Nat.le_of_ble_eq_true rfl) dL_law_388 (fun H locs hP hD hS => ?_)
  obtain ⟨S7, eS7⟩ : ∃ y, y = q5.2 := ⟨_, rfl⟩
  rw [← eS7] at hP hD h
  have hP : va_P D vwCl (wd_R b cI cL cB cZ z S7 ++ (wd_C a cI cL cB cZ z SC ++ mq_oo o cL (f))) H := hP
  have hD : va_D (fun q => s.heap.size ≤ q) (wd_R b cI cL cB cZ z S7 ++ (wd_C a cI cL cB cZ z SC ++ mq_oo o cL (f))) := hD
  refine lv_pop hx hb dL_law_391 rfl ?_
  refine lv_goto (tgt := 818) hx hb dL_law_392 (by decide) ?_
  refine W.widen (k := cells + 1) (n := slots + 6) (Nat.le_add_right _ _) (Nat.le_add_right _ _) ?_
  cases h
  exact kk H locs ls (lv_sub hl [0, 1, 2, 3, 4] rfl) hP hD hS
def zf_law_7 (N : Nat) (z : Nat → Nat) (x1 x2 x3 x4 x5 : Int32) (SC SR : mq_St) (f : Nat → Int64) : Option (mq_St × mq_St × (Nat → Int64)) := mq_cl (zf_X10_set N z x1 x2 SC) (fun r SC1 => mq_cl (zf_X11_set N z x1 x2 SR) (fun q SR1 => some (SC1, SR1, f)))
theorem zt_m_L_61 : Cond.methodLink RL 61 yX10_set ∈ mq_T := mq_T_mem (mq_t3 (List.mem_of_getElem? (i := 159) rfl)) rfl
theorem zt_m_L_64 : Cond.methodLink RL 64 yX11_set ∈ mq_T := mq_T_mem (mq_t7 (List.mem_of_getElem? (i := 10) rfl)) rfl
set_option maxHeartbeats 4000000 in
set_option maxRecDepth 100000 in
theorem zl_case_7 {p : Program} {l : Launch} {e : Env} {s : State} {m : MethodId} {args : Array Value} {below : List Frame} {meth : Method} {c : Code} {D : va_G} {a b z : Nat → Nat} {cI cL cB cZ : ClassId} {Q : State → Prop} {c1 : Cond} {N L k sb o s1 s2 cells slots : Nat} {xs : Nat → Int32} (C0 : mq_L p s m args c D cI cL cB cZ c1 l sb L xs s1 s2) (hk6 : k + 6 ≤ L) (hcs1 : cells + 1 ≤ room_1.cells ∧ slots + 6 ≤ room_1.slots) (SC SR : mq_St) (f : Nat → Int64) (res : mq_St × mq_St × (Nat → Int64)) (H : Heap) (locs : List Loc) (ls : Array Slot) (h : zf_law_7 N z (xs (k + 1)) (xs (k + 2)) (xs (k + 3)) (xs (k + 4)) (xs (k + 5)) SC SR f = some res) (hl : lv_has ls 7 [(0, .ref sb), (1, .ref (a 0)), (2, .ref (b 0)), (3, .ref o), (4, .int (nI k))]) (hP : va_P D vwCl (wd_R b cI cL cB cZ z SR ++ (wd_C a cI cL cB cZ z SC ++ mq_oo o cL (f))) H) (hD : va_D (fun q => s.heap.size ≤ q) (wd_R b cI cL cB cZ z SR ++ (wd_C a cI cL cB cZ z SC ++ mq_oo o cL (f)))) (hS : va_S (fun q => s.heap.size ≤ q) s.heap H locs) (kk : ∀ (H : Heap) (locs : List Loc) (ls : Array Slot), lv_has ls 7 [(0, .ref sb), (1, .ref (a 0)), (2, .ref (b 0)), (3, .ref o), (4, .int (nI k))] → va_P D vwCl (wd_R b cI cL cB cZ z res.2.1 ++ (wd_C a cI cL cB cZ z res.1 ++ mq_oo o cL (res.2.2))) H → va_D (fun q => s.heap.size ≤ q) (wd_R b cI cL cB cZ z res.2.1 ++ (wd_C a cI cL cB cZ z res.1 ++ mq_oo o cL (res.2.2))) → va_S (fun q => s.heap.size ≤ q) s.heap H locs → W p l e room_1 s m args below meth c H locs (cells + 1) (slots + 6) Q (F0 m 818 ls [])) : W p l e room_1 s m args below meth c H locs cells slots Q (F0 m 395 ls []) := by
  obtain ⟨C, hst, hXs, hbl, hL, hXX⟩ := C0
  obtain ⟨hx, hb, hml, hown, hts, hK, hA⟩ := id C
  have hbA : ¬ (fun q : Nat => s.heap.size ≤ q) sb := Nat.not_le.mpr hbl
  have hcs : cells ≤ room_1.cells ∧ slots ≤ room_1.slots := ⟨Nat.le_trans (Nat.le_add_right _ _) hcs1.1, Nat.le_trans (Nat.le_add_right _ _) hcs1.2⟩
  unfold zf_law_7 at h
  refine lv_aload_n hx hb dL_law_395 rfl (lv_at hl 1 rfl) ?_
  refine lv_aload_n hx hb dL_law_396 rfl (lv_at hl 0 rfl) ?_
  refine lv_iload hx hb dL_law_397 (lv_at hl 4 rfl) ?_
  refine lv_iconst (v := 1) hx hb dL_law_399 (by decide) ?_
  refine lv_iadd hx hb dL_law_400 ?_
  refine va_sld hx hb hXs hbl hbA hS (mq_sx (j := 1) (k := k) (by omega) hL).1 dL_law_401 ?_
  refine lv_topi (fun y1 ey1 => ?_)
  obtain rfl : y1 = xs (k + 1) := ey1.trans (congrArg xs (mq_sx (j := 1) (k := k) (by omega) hL).2)
  refine lv_aload_n hx hb dL_law_402 rfl (lv_at hl 0 rfl) ?_
  refine lv_iload hx hb dL_law_403 (lv_at hl 4 rfl) ?_
  refine lv_iconst (v := 2) hx hb dL_law_405 (by decide) ?_
  refine lv_iadd hx hb dL_law_406 ?_
  refine va_sld hx hb hXs hbl hbA hS (mq_sx (j := 2) (k := k) (by omega) hL).1 dL_law_407 ?_
  refine lv_topi (fun y2 ey2 => ?_)
  obtain rfl : y2 = xs (k + 2) := ey2.trans (congrArg xs (mq_sx (j := 2) (k := k) (by omega) hL).2)
  obtain ⟨q3, hc4, h⟩ := mq_cl_go h
  refine zL_X10_set (a := a) (z := z) (wl := wd_R b cI cL cB cZ z SR) (wr := mq_oo o cL (f)) C hcs zt_m_L_61 ⟨Nat.le_of_ble_eq_true rfl, Nat.le_of_ble_eq_true rfl⟩ hc4 hP hD hS hl.1 (Nat.le_of_ble_eq_true rfl) dL_law_408 (fun H locs hP hD hS => ?_)
  obtain ⟨S5, eS5⟩ : ∃ y, y = q3.2 := ⟨_, rfl⟩
  rw [← eS5] at hP hD h
  have hP : va_P D vwCl (wd_R b cI cL cB cZ z SR ++ (wd_C a cI cL cB cZ z S5 ++ mq_oo o cL (f))) H := hP
  have hD : va_D (fun q => s.heap.size ≤ q) (wd_R b cI cL cB cZ z SR ++ (wd_C a cI cL cB cZ z S5 ++ mq_oo o cL (f))) := hD
  refine lv_pop hx hb dL_law_411 rfl ?_
  refine lv_aload_n hx hb dL_law_412 rfl (lv_at hl 2 rfl) ?_
  refine lv_aload_n hx hb dL_law_413 rfl (lv_at hl 0 rfl) ?_
  refine lv_iload hx hb dL_law_414 (lv_at hl 4 rfl) ?_
  refine lv_iconst (v := 1) hx hb dL_law_416 (by decide) ?_
  refine lv_iadd hx hb dL_law_417 ?_
  refine va_sld hx hb hXs hbl hbA hS (mq_sx (j := 1) (k := k) (by omega) hL).1 dL_law_418 ?_
  refine lv_topi (fun y6 ey6 => ?_)
  obtain rfl : y6 = xs (k + 1) := ey6.trans (congrArg xs (mq_sx (j := 1) (k := k) (by omega) hL).2)
  refine lv_aload_n hx hb dL_law_419 rfl (lv_at hl 0 rfl) ?_
  refine lv_iload hx hb dL_law_420 (lv_at hl 4 rfl) ?_
  refine lv_iconst (v := 2) hx hb dL_law_422 (by decide) ?_
  refine lv_iadd hx hb dL_law_423 ?_
  refine va_sld hx hb hXs hbl hbA hS (mq_sx (j := 2) (k := k) (by omega) hL).1 dL_law_424 ?_
  refine lv_topi (fun y7 ey7 => ?_)
  obtain rfl : y7 = xs (k + 2) := ey7.trans (congrArg xs (mq_sx (j := 2) (k := k) (by omega) hL).2)
  obtain ⟨q8, hc9, h⟩ := mq_cl_go h
  refine zL_X11_set (a := b) (z := z) (wl := []) (wr := (wd_C a cI cL cB cZ z S5 ++ mq_oo o cL (f))) C hcs zt_m_L_64 ⟨Nat.le_of_ble_eq_true rfl, Nat.le_of_ble_eq_true rfl⟩ hc9 (by rw [List.nil_append]; exact hP) (by rw [List.nil_append]; exact hD) hS hl.1 (Nat.le_of_ble_eq_true rfl) dL_law_425 (fun H locs hP hD hS => ?_)
  obtain ⟨S10, eS10⟩ : ∃ y, y = q8.2 := ⟨_, rfl⟩
  rw [← eS10] at hP hD h
  have hP : va_P D vwCl (wd_R b cI cL cB cZ z S10 ++ (wd_C a cI cL cB cZ z S5 ++ mq_oo o cL (f))) H := hP
  have hD : va_D (fun q => s.heap.size ≤ q) (wd_R b cI cL cB cZ z S10 ++ (wd_C a cI cL cB cZ z S5 ++ mq_oo o cL (f))) := hD
  refine lv_pop hx hb dL_law_428 rfl ?_
  refine lv_goto (tgt := 818) hx hb dL_law_429 (by decide) ?_
  refine W.widen (k := cells + 1) (n := slots + 6) (Nat.le_add_right _ _) (Nat.le_add_right _ _) ?_
  cases h
  exact kk H locs ls (lv_sub hl [0, 1, 2, 3, 4] rfl) hP hD hS
def zf_law_8 (N : Nat) (z : Nat → Nat) (x1 x2 x3 x4 x5 : Int32) (SC SR : mq_St) (f : Nat → Int64) : Option (mq_St × mq_St × (Nat → Int64)) := mq_cp (zf_X10_slot N z x1 x2 SC) (fun r => mq_cl (zf_X11_slot N z x1 x2 SR) (fun q SR1 => some (SC, SR1, f)))
theorem zt_m_L_65 : Cond.methodLink RL 65 yX10_slot ∈ mq_T := mq_T_mem (mq_t3 (List.mem_of_getElem? (i := 168) rfl)) rfl
theorem zt_m_L_68 : Cond.methodLink RL 68 yX11_slot ∈ mq_T := mq_T_mem (mq_t7 (List.mem_of_getElem? (i := 26) rfl)) rfl
set_option maxHeartbeats 4000000 in
set_option maxRecDepth 100000 in
theorem zl_case_8 {p : Program} {l : Launch} {e : Env} {s : State} {m : MethodId} {args : Array Value} {below : List Frame} {meth : Method} {c : Code} {D : va_G} {a b z : Nat → Nat} {cI cL cB cZ : ClassId} {Q : State → Prop} {c1 : Cond} {N L k sb o s1 s2 cells slots : Nat} {xs : Nat → Int32} (C0 : mq_L p s m args c D cI cL cB cZ c1 l sb L xs s1 s2) (hk6 : k + 6 ≤ L) (hcs1 : cells + 1 ≤ room_1.cells ∧ slots + 6 ≤ room_1.slots) (SC SR : mq_St) (f : Nat → Int64) (res : mq_St × mq_St × (Nat → Int64)) (H : Heap) (locs : List Loc) (ls : Array Slot) (h : zf_law_8 N z (xs (k + 1)) (xs (k + 2)) (xs (k + 3)) (xs (k + 4)) (xs (k + 5)) SC SR f = some res) (hl : lv_has ls 7 [(0, .ref sb), (1, .ref (a 0)), (2, .ref (b 0)), (3, .ref o), (4, .int (nI k))]) (hP : va_P D vwCl (wd_R b cI cL cB cZ z SR ++ (wd_C a cI cL cB cZ z SC ++ mq_oo o cL (f))) H) (hD : va_D (fun q => s.heap.size ≤ q) (wd_R b cI cL cB cZ z SR ++ (wd_C a cI cL cB cZ z SC ++ mq_oo o cL (f)))) (hS : va_S (fun q => s.heap.size ≤ q) s.heap H locs) (kk : ∀ (H : Heap) (locs : List Loc) (ls : Array Slot), lv_has ls 7 [(0, .ref sb), (1, .ref (a 0)), (2, .ref (b 0)), (3, .ref o), (4, .int (nI k))] → va_P D vwCl (wd_R b cI cL cB cZ z res.2.1 ++ (wd_C a cI cL cB cZ z res.1 ++ mq_oo o cL (res.2.2))) H → va_D (fun q => s.heap.size ≤ q) (wd_R b cI cL cB cZ z res.2.1 ++ (wd_C a cI cL cB cZ z res.1 ++ mq_oo o cL (res.2.2))) → va_S (fun q => s.heap.size ≤ q) s.heap H locs → W p l e room_1 s m args below meth c H locs (cells + 1) (slots + 6) Q (F0 m 818 ls [])) : W p l e room_1 s m args below meth c H locs cells slots Q (F0 m 432 ls []) := by
  obtain ⟨C, hst, hXs, hbl, hL, hXX⟩ := C0
  obtain ⟨hx, hb, hml, hown, hts, hK, hA⟩ := id C
  have hbA : ¬ (fun q : Nat => s.heap.size ≤ q) sb := Nat.not_le.mpr hbl
  have hcs : cells ≤ room_1.cells ∧ slots ≤ room_1.slots := ⟨Nat.le_trans (Nat.le_add_right _ _) hcs1.1, Nat.le_trans (Nat.le_add_right _ _) hcs1.2⟩
  unfold zf_law_8 at h
  refine lv_aload_n hx hb dL_law_432 rfl (lv_at hl 1 rfl) ?_
  refine lv_aload_n hx hb dL_law_433 rfl (lv_at hl 0 rfl) ?_
  refine lv_iload hx hb dL_law_434 (lv_at hl 4 rfl) ?_
  refine lv_iconst (v := 1) hx hb dL_law_436 (by decide) ?_
  refine lv_iadd hx hb dL_law_437 ?_
  refine va_sld hx hb hXs hbl hbA hS (mq_sx (j := 1) (k := k) (by omega) hL).1 dL_law_438 ?_
  refine lv_topi (fun y1 ey1 => ?_)
  obtain rfl : y1 = xs (k + 1) := ey1.trans (congrArg xs (mq_sx (j := 1) (k := k) (by omega) hL).2)
  refine lv_aload_n hx hb dL_law_439 rfl (lv_at hl 0 rfl) ?_
  refine lv_iload hx hb dL_law_440 (lv_at hl 4 rfl) ?_
  refine lv_iconst (v := 2) hx hb dL_law_442 (by decide) ?_
  refine lv_iadd hx hb dL_law_443 ?_
  refine va_sld hx hb hXs hbl hbA hS (mq_sx (j := 2) (k := k) (by omega) hL).1 dL_law_444 ?_
  refine lv_topi (fun y2 ey2 => ?_)
  obtain rfl : y2 = xs (k + 2) := ey2.trans (congrArg xs (mq_sx (j := 2) (k := k) (by omega) hL).2)
  obtain ⟨q3, hc4, h⟩ := mq_cp_go h
  refine zL_X10_slot (a := a) (z := z) (wl := wd_R b cI cL cB cZ z SR) (wr := mq_oo o cL (f)) C hcs zt_m_L_65 ⟨Nat.le_of_ble_eq_true rfl, Nat.le_of_ble_eq_true rfl⟩ hc4 hP hD hS hl.1 (Nat.le_of_ble_eq_true rfl) dL_law_445 (fun H locs hP hD hS => ?_)
  have hP : va_P D vwCl (wd_R b cI cL cB cZ z SR ++ (wd_C a cI cL cB cZ z SC ++ mq_oo o cL (f))) H := hP
  have hD : va_D (fun q => s.heap.size ≤ q) (wd_R b cI cL cB cZ z SR ++ (wd_C a cI cL cB cZ z SC ++ mq_oo o cL (f))) := hD
  refine lv_pop hx hb dL_law_448 rfl ?_
  refine lv_aload_n hx hb dL_law_449 rfl (lv_at hl 2 rfl) ?_
  refine lv_aload_n hx hb dL_law_450 rfl (lv_at hl 0 rfl) ?_
  refine lv_iload hx hb dL_law_451 (lv_at hl 4 rfl) ?_
  refine lv_iconst (v := 1) hx hb dL_law_453 (by decide) ?_
  refine lv_iadd hx hb dL_law_454 ?_
  refine va_sld hx hb hXs hbl hbA hS (mq_sx (j := 1) (k := k) (by omega) hL).1 dL_law_455 ?_
  refine lv_topi (fun y5 ey5 => ?_)
  obtain rfl : y5 = xs (k + 1) := ey5.trans (congrArg xs (mq_sx (j := 1) (k := k) (by omega) hL).2)
  refine lv_aload_n hx hb dL_law_456 rfl (lv_at hl 0 rfl) ?_
  refine lv_iload hx hb dL_law_457 (lv_at hl 4 rfl) ?_
  refine lv_iconst (v := 2) hx hb dL_law_459 (by decide) ?_
  refine lv_iadd hx hb dL_law_460 ?_
  refine va_sld hx hb hXs hbl hbA hS (mq_sx (j := 2) (k := k) (by omega) hL).1 dL_law_461 ?_
  refine lv_topi (fun y6 ey6 => ?_)
  obtain rfl : y6 = xs (k + 2) := ey6.trans (congrArg xs (mq_sx (j := 2) (k := k) (by omega) hL).2)
  obtain ⟨q7, hc8, h⟩ := mq_cl_go h
  refine zL_X11_slot (a := b) (z := z) (wl := []) (wr := (wd_C a cI cL cB cZ z SC ++ mq_oo o cL (f))) C hcs zt_m_L_68 ⟨Nat.le_of_ble_eq_true rfl, Nat.le_of_ble_eq_true rfl⟩ hc8 (by rw [List.nil_append]; exact hP) (by rw [List.nil_append]; exact hD) hS hl.1 (Nat.le_of_ble_eq_true rfl) dL_law_462 (fun H locs hP hD hS => ?_)
  obtain ⟨S9, eS9⟩ : ∃ y, y = q7.2 := ⟨_, rfl⟩
  rw [← eS9] at hP hD h
  have hP : va_P D vwCl (wd_R b cI cL cB cZ z S9 ++ (wd_C a cI cL cB cZ z SC ++ mq_oo o cL (f))) H := hP
  have hD : va_D (fun q => s.heap.size ≤ q) (wd_R b cI cL cB cZ z S9 ++ (wd_C a cI cL cB cZ z SC ++ mq_oo o cL (f))) := hD
  refine lv_pop hx hb dL_law_465 rfl ?_
  refine lv_goto (tgt := 818) hx hb dL_law_466 (by decide) ?_
  refine W.widen (k := cells + 1) (n := slots + 6) (Nat.le_add_right _ _) (Nat.le_add_right _ _) ?_
  cases h
  exact kk H locs ls (lv_sub hl [0, 1, 2, 3, 4] rfl) hP hD hS
def zf_law_9 (N : Nat) (z : Nat → Nat) (x1 x2 x3 x4 x5 : Int32) (SC SR : mq_St) (f : Nat → Int64) : Option (mq_St × mq_St × (Nat → Int64)) := mq_cp (zf_X10_formulas N z SC) (fun r => mq_cl (zf_X11_formulas N z SR) (fun q SR1 => some (SC, SR1, f)))
theorem zt_m_L_69 : Cond.methodLink RL 69 yX10_formulas ∈ mq_T := mq_T_mem (mq_t3 (List.mem_of_getElem? (i := 172) rfl)) rfl
theorem zt_m_L_72 : Cond.methodLink RL 72 yX11_formulas ∈ mq_T := mq_T_mem (mq_t7 (List.mem_of_getElem? (i := 30) rfl)) rfl
set_option maxHeartbeats 4000000 in
set_option maxRecDepth 100000 in
theorem zl_case_9 {p : Program} {l : Launch} {e : Env} {s : State} {m : MethodId} {args : Array Value} {below : List Frame} {meth : Method} {c : Code} {D : va_G} {a b z : Nat → Nat} {cI cL cB cZ : ClassId} {Q : State → Prop} {c1 : Cond} {N L k sb o s1 s2 cells slots : Nat} {xs : Nat → Int32} (C0 : mq_L p s m args c D cI cL cB cZ c1 l sb L xs s1 s2) (hk6 : k + 6 ≤ L) (hcs1 : cells + 1 ≤ room_1.cells ∧ slots + 6 ≤ room_1.slots) (SC SR : mq_St) (f : Nat → Int64) (res : mq_St × mq_St × (Nat → Int64)) (H : Heap) (locs : List Loc) (ls : Array Slot) (h : zf_law_9 N z (xs (k + 1)) (xs (k + 2)) (xs (k + 3)) (xs (k + 4)) (xs (k + 5)) SC SR f = some res) (hl : lv_has ls 7 [(0, .ref sb), (1, .ref (a 0)), (2, .ref (b 0)), (3, .ref o), (4, .int (nI k))]) (hP : va_P D vwCl (wd_R b cI cL cB cZ z SR ++ (wd_C a cI cL cB cZ z SC ++ mq_oo o cL (f))) H) (hD : va_D (fun q => s.heap.size ≤ q) (wd_R b cI cL cB cZ z SR ++ (wd_C a cI cL cB cZ z SC ++ mq_oo o cL (f)))) (hS : va_S (fun q => s.heap.size ≤ q) s.heap H locs) (kk : ∀ (H : Heap) (locs : List Loc) (ls : Array Slot), lv_has ls 7 [(0, .ref sb), (1, .ref (a 0)), (2, .ref (b 0)), (3, .ref o), (4, .int (nI k))] → va_P D vwCl (wd_R b cI cL cB cZ z res.2.1 ++ (wd_C a cI cL cB cZ z res.1 ++ mq_oo o cL (res.2.2))) H → va_D (fun q => s.heap.size ≤ q) (wd_R b cI cL cB cZ z res.2.1 ++ (wd_C a cI cL cB cZ z res.1 ++ mq_oo o cL (res.2.2))) → va_S (fun q => s.heap.size ≤ q) s.heap H locs → W p l e room_1 s m args below meth c H locs (cells + 1) (slots + 6) Q (F0 m 818 ls [])) : W p l e room_1 s m args below meth c H locs cells slots Q (F0 m 469 ls []) := by
  obtain ⟨C, hst, hXs, hbl, hL, hXX⟩ := C0
  obtain ⟨hx, hb, hml, hown, hts, hK, hA⟩ := id C
  have hbA : ¬ (fun q : Nat => s.heap.size ≤ q) sb := Nat.not_le.mpr hbl
  have hcs : cells ≤ room_1.cells ∧ slots ≤ room_1.slots := ⟨Nat.le_trans (Nat.le_add_right _ _) hcs1.1, Nat.le_trans (Nat.le_add_right _ _) hcs1.2⟩
  unfold zf_law_9 at h
  refine lv_aload_n hx hb dL_law_469 rfl (lv_at hl 1 rfl) ?_
  obtain ⟨q1, hc2, h⟩ := mq_cp_go h
  refine zL_X10_formulas (a := a) (z := z) (wl := wd_R b cI cL cB cZ z SR) (wr := mq_oo o cL (f)) C hcs zt_m_L_69 ⟨Nat.le_of_ble_eq_true rfl, Nat.le_of_ble_eq_true rfl⟩ hc2 hP hD hS hl.1 (Nat.le_of_ble_eq_true rfl) dL_law_470 (fun H locs hP hD hS => ?_)
  have hP : va_P D vwCl (wd_R b cI cL cB cZ z SR ++ (wd_C a cI cL cB cZ z SC ++ mq_oo o cL (f))) H := hP
  have hD : va_D (fun q => s.heap.size ≤ q) (wd_R b cI cL cB cZ z SR ++ (wd_C a cI cL cB cZ z SC ++ mq_oo o cL (f))) := hD
  refine lv_pop hx hb dL_law_473 rfl ?_
  refine lv_aload_n hx hb dL_law_474 rfl (lv_at hl 2 rfl) ?_
  obtain ⟨q3, hc4, h⟩ := mq_cl_go h
  refine zL_X11_formulas (a := b) (z := z) (wl := []) (wr := (wd_C a cI cL cB cZ z SC ++ mq_oo o cL (f))) C hcs zt_m_L_72 ⟨Nat.le_of_ble_eq_true rfl, Nat.le_of_ble_eq_true rfl⟩ hc4 (by rw [List.nil_append]; exact hP) (by rw [List.nil_append]; exact hD) hS hl.1 (Nat.le_of_ble_eq_true rfl) dL_law_475 (fun H locs hP hD hS => ?_)
  obtain ⟨S5, eS5⟩ : ∃ y, y = q3.2 := ⟨_, rfl⟩
  rw [← eS5] at hP hD h
  have hP : va_P D vwCl (wd_R b cI cL cB cZ z S5 ++ (wd_C a cI cL cB cZ z SC ++ mq_oo o cL (f))) H := hP
  have hD : va_D (fun q => s.heap.size ≤ q) (wd_R b cI cL cB cZ z S5 ++ (wd_C a cI cL cB cZ z SC ++ mq_oo o cL (f))) := hD
  refine lv_pop hx hb dL_law_478 rfl ?_
  refine lv_goto (tgt := 818) hx hb dL_law_479 (by decide) ?_
  refine W.widen (k := cells + 1) (n := slots + 6) (Nat.le_add_right _ _) (Nat.le_add_right _ _) ?_
  cases h
  exact kk H locs ls (lv_sub hl [0, 1, 2, 3, 4] rfl) hP hD hS
def zf_law_10 (N : Nat) (z : Nat → Nat) (x1 x2 x3 x4 x5 : Int32) (SC SR : mq_St) (f : Nat → Int64) : Option (mq_St × mq_St × (Nat → Int64)) := mq_cp (zf_X10_formula N z x1 x2 SC) (fun r => mq_cl (zf_X11_formula N z x1 x2 SR) (fun q SR1 => some (SC, SR1, f)))
theorem zt_m_L_73 : Cond.methodLink RL 73 yX10_formula ∈ mq_T := mq_T_mem (mq_t3 (List.mem_of_getElem? (i := 176) rfl)) rfl
theorem zt_m_L_76 : Cond.methodLink RL 76 yX11_formula ∈ mq_T := mq_T_mem (mq_t7 (List.mem_of_getElem? (i := 34) rfl)) rfl
set_option maxHeartbeats 4000000 in
set_option maxRecDepth 100000 in
theorem zl_case_10 {p : Program} {l : Launch} {e : Env} {s : State} {m : MethodId} {args : Array Value} {below : List Frame} {meth : Method} {c : Code} {D : va_G} {a b z : Nat → Nat} {cI cL cB cZ : ClassId} {Q : State → Prop} {c1 : Cond} {N L k sb o s1 s2 cells slots : Nat} {xs : Nat → Int32} (C0 : mq_L p s m args c D cI cL cB cZ c1 l sb L xs s1 s2) (hk6 : k + 6 ≤ L) (hcs1 : cells + 1 ≤ room_1.cells ∧ slots + 6 ≤ room_1.slots) (SC SR : mq_St) (f : Nat → Int64) (res : mq_St × mq_St × (Nat → Int64)) (H : Heap) (locs : List Loc) (ls : Array Slot) (h : zf_law_10 N z (xs (k + 1)) (xs (k + 2)) (xs (k + 3)) (xs (k + 4)) (xs (k + 5)) SC SR f = some res) (hl : lv_has ls 7 [(0, .ref sb), (1, .ref (a 0)), (2, .ref (b 0)), (3, .ref o), (4, .int (nI k))]) (hP : va_P D vwCl (wd_R b cI cL cB cZ z SR ++ (wd_C a cI cL cB cZ z SC ++ mq_oo o cL (f))) H) (hD : va_D (fun q => s.heap.size ≤ q) (wd_R b cI cL cB cZ z SR ++ (wd_C a cI cL cB cZ z SC ++ mq_oo o cL (f)))) (hS : va_S (fun q => s.heap.size ≤ q) s.heap H locs) (kk : ∀ (H : Heap) (locs : List Loc) (ls : Array Slot), lv_has ls 7 [(0, .ref sb), (1, .ref (a 0)), (2, .ref (b 0)), (3, .ref o), (4, .int (nI k))] → va_P D vwCl (wd_R b cI cL cB cZ z res.2.1 ++ (wd_C a cI cL cB cZ z res.1 ++ mq_oo o cL (res.2.2))) H → va_D (fun q => s.heap.size ≤ q) (wd_R b cI cL cB cZ z res.2.1 ++ (wd_C a cI cL cB cZ z res.1 ++ mq_oo o cL (res.2.2))) → va_S (fun q => s.heap.size ≤ q) s.heap H locs → W p l e room_1 s m args below meth c H locs (cells + 1) (slots + 6) Q (F0 m 818 ls [])) : W p l e room_1 s m args below meth c H locs cells slots Q (F0 m 482 ls []) := by
  obtain ⟨C, hst, hXs, hbl, hL, hXX⟩ := C0
  obtain ⟨hx, hb, hml, hown, hts, hK, hA⟩ := id C
  have hbA : ¬ (fun q : Nat => s.heap.size ≤ q) sb := Nat.not_le.mpr hbl
  have hcs : cells ≤ room_1.cells ∧ slots ≤ room_1.slots := ⟨Nat.le_trans (Nat.le_add_right _ _) hcs1.1, Nat.le_trans (Nat.le_add_right _ _) hcs1.2⟩
  unfold zf_law_10 at h
  refine lv_aload_n hx hb dL_law_482 rfl (lv_at hl 1 rfl) ?_
  refine lv_aload_n hx hb dL_law_483 rfl (lv_at hl 0 rfl) ?_
  refine lv_iload hx hb dL_law_484 (lv_at hl 4 rfl) ?_
  refine lv_iconst (v := 1) hx hb dL_law_486 (by decide) ?_
  refine lv_iadd hx hb dL_law_487 ?_
  refine va_sld hx hb hXs hbl hbA hS (mq_sx (j := 1) (k := k) (by omega) hL).1 dL_law_488 ?_
  refine lv_topi (fun y1 ey1 => ?_)
  obtain rfl : y1 = xs (k + 1) := ey1.trans (congrArg xs (mq_sx (j := 1) (k := k) (by omega) hL).2)
  refine lv_aload_n hx hb dL_law_489 rfl (lv_at hl 0 rfl) ?_
  refine lv_iload hx hb dL_law_490 (lv_at hl 4 rfl) ?_
  refine lv_iconst (v := 2) hx hb dL_law_492 (by decide) ?_
  refine lv_iadd hx hb dL_law_493 ?_
  refine va_sld hx hb hXs hbl hbA hS (mq_sx (j := 2) (k := k) (by omega) hL).1 dL_law_494 ?_
  refine lv_topi (fun y2 ey2 => ?_)
  obtain rfl : y2 = xs (k + 2) := ey2.trans (congrArg xs (mq_sx (j := 2) (k := k) (by omega) hL).2)
  obtain ⟨q3, hc4, h⟩ := mq_cp_go h
  refine zL_X10_formula (a := a) (z := z) (wl := wd_R b cI cL cB cZ z SR) (wr := mq_oo o cL (f)) C hcs zt_m_L_73 ⟨Nat.le_of_ble_eq_true rfl, Nat.le_of_ble_eq_true rfl⟩ hc4 hP hD hS hl.1 (Nat.le_of_ble_eq_true rfl) dL_law_495 (fun H locs hP hD hS => ?_)
  have hP : va_P D vwCl (wd_R b cI cL cB cZ z SR ++ (wd_C a cI cL cB cZ z SC ++ mq_oo o cL (f))) H := hP
  have hD : va_D (fun q => s.heap.size ≤ q) (wd_R b cI cL cB cZ z SR ++ (wd_C a cI cL cB cZ z SC ++ mq_oo o cL (f))) := hD
  refine lv_pop hx hb dL_law_498 rfl ?_
  refine lv_aload_n hx hb dL_law_499 rfl (lv_at hl 2 rfl) ?_
  refine lv_aload_n hx hb dL_law_500 rfl (lv_at hl 0 rfl) ?_
  refine lv_iload hx hb dL_law_501 (lv_at hl 4 rfl) ?_
  refine lv_iconst (v := 1) hx hb dL_law_503 (by decide) ?_
  refine lv_iadd hx hb dL_law_504 ?_
  refine va_sld hx hb hXs hbl hbA hS (mq_sx (j := 1) (k := k) (by omega) hL).1 dL_law_505 ?_
  refine lv_topi (fun y5 ey5 => ?_)
  obtain rfl : y5 = xs (k + 1) := ey5.trans (congrArg xs (mq_sx (j := 1) (k := k) (by omega) hL).2)
  refine lv_aload_n hx hb dL_law_506 rfl (lv_at hl 0 rfl) ?_
  refine lv_iload hx hb dL_law_507 (lv_at hl 4 rfl) ?_
  refine lv_iconst (v := 2) hx hb dL_law_509 (by decide) ?_
  refine lv_iadd hx hb dL_law_510 ?_
  refine va_sld hx hb hXs hbl hbA hS (mq_sx (j := 2) (k := k) (by omega) hL).1 dL_law_511 ?_
  refine lv_topi (fun y6 ey6 => ?_)
  obtain rfl : y6 = xs (k + 2) := ey6.trans (congrArg xs (mq_sx (j := 2) (k := k) (by omega) hL).2)
  obtain ⟨q7, hc8, h⟩ := mq_cl_go h
  refine zL_X11_formula (a := b) (z := z) (wl := []) (wr := (wd_C a cI cL cB cZ z SC ++ mq_oo o cL (f))) C hcs zt_m_L_76 ⟨Nat.le_of_ble_eq_true rfl, Nat.le_of_ble_eq_true rfl⟩ hc8 (by rw [List.nil_append]; exact hP) (by rw [List.nil_append]; exact hD) hS hl.1 (Nat.le_of_ble_eq_true rfl) dL_law_512 (fun H locs hP hD hS => ?_)
  obtain ⟨S9, eS9⟩ : ∃ y, y = q7.2 := ⟨_, rfl⟩
  rw [← eS9] at hP hD h
  have hP : va_P D vwCl (wd_R b cI cL cB cZ z S9 ++ (wd_C a cI cL cB cZ z SC ++ mq_oo o cL (f))) H := hP
  have hD : va_D (fun q => s.heap.size ≤ q) (wd_R b cI cL cB cZ z S9 ++ (wd_C a cI cL cB cZ z SC ++ mq_oo o cL (f))) := hD
  refine lv_pop hx hb dL_law_515 rfl ?_
  refine lv_goto (tgt := 818) hx hb dL_law_516 (by decide) ?_
  refine W.widen (k := cells + 1) (n := slots + 6) (Nat.le_add_right _ _) (Nat.le_add_right _ _) ?_
  cases h
  exact kk H locs ls (lv_sub hl [0, 1, 2, 3, 4] rfl) hP hD hS
def zf_law_11 (N : Nat) (z : Nat → Nat) (x1 x2 x3 x4 x5 : Int32) (SC SR : mq_St) (f : Nat → Int64) : Option (mq_St × mq_St × (Nat → Int64)) := mq_cl (zf_X10_tell N z x1 SC) (fun r SC1 => mq_cl (zf_X11_tell N z x1 SR) (fun q SR1 => some (SC1, SR1, f)))
theorem zt_m_L_77 : Cond.methodLink RL 77 yX10_tell ∈ mq_T := mq_T_mem (mq_t3 (List.mem_of_getElem? (i := 192) rfl)) rfl
theorem zt_m_L_80 : Cond.methodLink RL 80 yX11_tell ∈ mq_T := mq_T_mem (mq_t7 (List.mem_of_getElem? (i := 38) rfl)) rfl
set_option maxHeartbeats 4000000 in
set_option maxRecDepth 100000 in
theorem zl_case_11 {p : Program} {l : Launch} {e : Env} {s : State} {m : MethodId} {args : Array Value} {below : List Frame} {meth : Method} {c : Code} {D : va_G} {a b z : Nat → Nat} {cI cL cB cZ : ClassId} {Q : State → Prop} {c1 : Cond} {N L k sb o s1 s2 cells slots : Nat} {xs : Nat → Int32} (C0 : mq_L p s m args c D cI cL cB cZ c1 l sb L xs s1 s2) (hk6 : k + 6 ≤ L) (hcs1 : cells + 1 ≤ room_1.cells ∧ slots + 6 ≤ room_1.slots) (SC SR : mq_St) (f : Nat → Int64) (res : mq_St × mq_St × (Nat → Int64)) (H : Heap) (locs : List Loc) (ls : Array Slot) (h : zf_law_11 N z (xs (k + 1)) (xs (k + 2)) (xs (k + 3)) (xs (k + 4)) (xs (k + 5)) SC SR f = some res) (hl : lv_has ls 7 [(0, .ref sb), (1, .ref (a 0)), (2, .ref (b 0)), (3, .ref o), (4, .int (nI k))]) (hP : va_P D vwCl (wd_R b cI cL cB cZ z SR ++ (wd_C a cI cL cB cZ z SC ++ mq_oo o cL (f))) H) (hD : va_D (fun q => s.heap.size ≤ q) (wd_R b cI cL cB cZ z SR ++ (wd_C a cI cL cB cZ z SC ++ mq_oo o cL (f)))) (hS : va_S (fun q => s.heap.size ≤ q) s.heap H locs) (kk : ∀ (H : Heap) (locs : List Loc) (ls : Array Slot), lv_has ls 7 [(0, .ref sb), (1, .ref (a 0)), (2, .ref (b 0)), (3, .ref o), (4, .int (nI k))] → va_P D vwCl (wd_R b cI cL cB cZ z res.2.1 ++ (wd_C a cI cL cB cZ z res.1 ++ mq_oo o cL (res.2.2))) H → va_D (fun q => s.heap.size ≤ q) (wd_R b cI cL cB cZ z res.2.1 ++ (wd_C a cI cL cB cZ z res.1 ++ mq_oo o cL (res.2.2))) → va_S (fun q => s.heap.size ≤ q) s.heap H locs → W p l e room_1 s m args below meth c H locs (cells + 1) (slots + 6) Q (F0 m 818 ls [])) : W p l e room_1 s m args below meth c H locs cells slots Q (F0 m 519 ls []) := by
  obtain ⟨C, hst, hXs, hbl, hL, hXX⟩ := C0
  obtain ⟨hx, hb, hml, hown, hts, hK, hA⟩ := id C
  have hbA : ¬ (fun q : Nat => s.heap.size ≤ q) sb := Nat.not_le.mpr hbl
  have hcs : cells ≤ room_1.cells ∧ slots ≤ room_1.slots := ⟨Nat.le_trans (Nat.le_add_right _ _) hcs1.1, Nat.le_trans (Nat.le_add_right _ _) hcs1.2⟩
  unfold zf_law_11 at h
  refine lv_aload_n hx hb dL_law_519 rfl (lv_at hl 1 rfl) ?_
  refine lv_aload_n hx hb dL_law_520 rfl (lv_at hl 0 rfl) ?_
  refine lv_iload hx hb dL_law_521 (lv_at hl 4 rfl) ?_
  refine lv_iconst (v := 1) hx hb dL_law_523 (by decide) ?_
  refine lv_iadd hx hb dL_law_524 ?_
  refine va_sld hx hb hXs hbl hbA hS (mq_sx (j := 1) (k := k) (by omega) hL).1 dL_law_525 ?_
  refine lv_topi (fun y1 ey1 => ?_)
  obtain rfl : y1 = xs (k + 1) := ey1.trans (congrArg xs (mq_sx (j := 1) (k := k) (by omega) hL).2)
  obtain ⟨q2, hc3, h⟩ := mq_cl_go h
  refine zL_X10_tell (a := a) (z := z) (wl := wd_R b cI cL cB cZ z SR) (wr := mq_oo o cL (f)) C hcs zt_m_L_77 ⟨Nat.le_of_ble_eq_true rfl, Nat.le_of_ble_eq_true rfl⟩ hc3 hP hD hS hl.1 (Nat.le_of_ble_eq_true rfl) dL_law_526 (fun H locs hP hD hS => ?_)
  obtain ⟨S4, eS4⟩ : ∃ y, y = q2.2 := ⟨_, rfl⟩
  rw [← eS4] at hP hD h
  have hP : va_P D vwCl (wd_R b cI cL cB cZ z SR ++ (wd_C a cI cL cB cZ z S4 ++ mq_oo o cL (f))) H := hP
  have hD : va_D (fun q => s.heap.size ≤ q) (wd_R b cI cL cB cZ z SR ++ (wd_C a cI cL cB cZ z S4 ++ mq_oo o cL (f))) := hD
  refine lv_pop hx hb dL_law_529 rfl ?_
  refine lv_aload_n hx hb dL_law_530 rfl (lv_at hl 2 rfl) ?_
  refine lv_aload_n hx hb dL_law_531 rfl (lv_at hl 0 rfl) ?_
  refine lv_iload hx hb dL_law_532 (lv_at hl 4 rfl) ?_
  refine lv_iconst (v := 1) hx hb dL_law_534 (by decide) ?_
  refine lv_iadd hx hb dL_law_535 ?_
  refine va_sld hx hb hXs hbl hbA hS (mq_sx (j := 1) (k := k) (by omega) hL).1 dL_law_536 ?_
  refine lv_topi (fun y5 ey5 => ?_)
  obtain rfl : y5 = xs (k + 1) := ey5.trans (congrArg xs (mq_sx (j := 1) (k := k) (by omega) hL).2)
  obtain ⟨q6, hc7, h⟩ := mq_cl_go h
  refine zL_X11_tell (a := b) (z := z) (wl := []) (wr := (wd_C a cI cL cB cZ z S4 ++ mq_oo o cL (f))) C hcs zt_m_L_80 ⟨Nat.le_of_ble_eq_true rfl, Nat.le_of_ble_eq_true rfl⟩ hc7 (by rw [List.nil_append]; exact hP) (by rw [List.nil_append]; exact hD) hS hl.1 (Nat.le_of_ble_eq_true rfl) dL_law_537 (fun H locs hP hD hS => ?_)
  obtain ⟨S8, eS8⟩ : ∃ y, y = q6.2 := ⟨_, rfl⟩
  rw [← eS8] at hP hD h
  have hP : va_P D vwCl (wd_R b cI cL cB cZ z S8 ++ (wd_C a cI cL cB cZ z S4 ++ mq_oo o cL (f))) H := hP
  have hD : va_D (fun q => s.heap.size ≤ q) (wd_R b cI cL cB cZ z S8 ++ (wd_C a cI cL cB cZ z S4 ++ mq_oo o cL (f))) := hD
  refine lv_pop hx hb dL_law_540 rfl ?_
  refine lv_goto (tgt := 818) hx hb dL_law_541 (by decide) ?_
  refine W.widen (k := cells + 1) (n := slots + 6) (Nat.le_add_right _ _) (Nat.le_add_right _ _) ?_
  cases h
  exact kk H locs ls (lv_sub hl [0, 1, 2, 3, 4] rfl) hP hD hS
def zf_law_12 (N : Nat) (z : Nat → Nat) (x1 x2 x3 x4 x5 : Int32) (SC SR : mq_St) (f : Nat → Int64) : Option (mq_St × mq_St × (Nat → Int64)) := mq_cl (zf_X10_prove N z x1 x2 SC) (fun r SC1 => mq_cl (zf_X11_prove N z x1 x2 SR) (fun q SR1 => some (SC1, SR1, f)))
theorem zt_m_L_81 : Cond.methodLink RL 81 yX10_prove ∈ mq_T := mq_T_mem (mq_t3 (List.mem_of_getElem? (i := 231) rfl)) rfl
theorem zt_m_L_84 : Cond.methodLink RL 84 yX11_prove ∈ mq_T := mq_T_mem (mq_t7 (List.mem_of_getElem? (i := 46) rfl)) rfl
set_option maxHeartbeats 4000000 in
set_option maxRecDepth 100000 in
theorem zl_case_12 {p : Program} {l : Launch} {e : Env} {s : State} {m : MethodId} {args : Array Value} {below : List Frame} {meth : Method} {c : Code} {D : va_G} {a b z : Nat → Nat} {cI cL cB cZ : ClassId} {Q : State → Prop} {c1 : Cond} {N L k sb o s1 s2 cells slots : Nat} {xs : Nat → Int32} (C0 : mq_L p s m args c D cI cL cB cZ c1 l sb L xs s1 s2) (hk6 : k + 6 ≤ L) (hcs1 : cells + 1 ≤ room_1.cells ∧ slots + 6 ≤ room_1.slots) (SC SR : mq_St) (f : Nat → Int64) (res : mq_St × mq_St × (Nat → Int64)) (H : Heap) (locs : List Loc) (ls : Array Slot) (h : zf_law_12 N z (xs (k + 1)) (xs (k + 2)) (xs (k + 3)) (xs (k + 4)) (xs (k + 5)) SC SR f = some res) (hl : lv_has ls 7 [(0, .ref sb), (1, .ref (a 0)), (2, .ref (b 0)), (3, .ref o), (4, .int (nI k))]) (hP : va_P D vwCl (wd_R b cI cL cB cZ z SR ++ (wd_C a cI cL cB cZ z SC ++ mq_oo o cL (f))) H) (hD : va_D (fun q => s.heap.size ≤ q) (wd_R b cI cL cB cZ z SR ++ (wd_C a cI cL cB cZ z SC ++ mq_oo o cL (f)))) (hS : va_S (fun q => s.heap.size ≤ q) s.heap H locs) (kk : ∀ (H : Heap) (locs : List Loc) (ls : Array Slot), lv_has ls 7 [(0, .ref sb), (1, .ref (a 0)), (2, .ref (b 0)), (3, .ref o), (4, .int (nI k))] → va_P D vwCl (wd_R b cI cL cB cZ z res.2.1 ++ (wd_C a cI cL cB cZ z res.1 ++ mq_oo o cL (res.2.2))) H → va_D (fun q => s.heap.size ≤ q) (wd_R b cI cL cB cZ z res.2.1 ++ (wd_C a cI cL cB cZ z res.1 ++ mq_oo o cL (res.2.2))) → va_S (fun q => s.heap.size ≤ q) s.heap H locs → W p l e room_1 s m args below meth c H locs (cells + 1) (slots + 6) Q (F0 m 818 ls [])) : W p l e room_1 s m args below meth c H locs cells slots Q (F0 m 544 ls []) := by
  obtain ⟨C, hst, hXs, hbl, hL, hXX⟩ := C0
  obtain ⟨hx, hb, hml, hown, hts, hK, hA⟩ := id C
  have hbA : ¬ (fun q : Nat => s.heap.size ≤ q) sb := Nat.not_le.mpr hbl
  have hcs : cells ≤ room_1.cells ∧ slots ≤ room_1.slots := ⟨Nat.le_trans (Nat.le_add_right _ _) hcs1.1, Nat.le_trans (Nat.le_add_right _ _) hcs1.2⟩
  unfold zf_law_12 at h
  refine lv_aload_n hx hb dL_law_544 rfl (lv_at hl 1 rfl) ?_
  refine lv_aload_n hx hb dL_law_545 rfl (lv_at hl 0 rfl) ?_
  refine lv_iload hx hb dL_law_546 (lv_at hl 4 rfl) ?_
  refine lv_iconst (v := 1) hx hb dL_law_548 (by decide) ?_
  refine lv_iadd hx hb dL_law_549 ?_
  refine va_sld hx hb hXs hbl hbA hS (mq_sx (j := 1) (k := k) (by omega) hL).1 dL_law_550 ?_
  refine lv_topi (fun y1 ey1 => ?_)
  obtain rfl : y1 = xs (k + 1) := ey1.trans (congrArg xs (mq_sx (j := 1) (k := k) (by omega) hL).2)
  refine lv_aload_n hx hb dL_law_551 rfl (lv_at hl 0 rfl) ?_
  refine lv_iload hx hb dL_law_552 (lv_at hl 4 rfl) ?_
  refine lv_iconst (v := 2) hx hb dL_law_554 (by decide) ?_
  refine lv_iadd hx hb dL_law_555 ?_
  refine va_sld hx hb hXs hbl hbA hS (mq_sx (j := 2) (k := k) (by omega) hL).1 dL_law_556 ?_
  refine lv_topi (fun y2 ey2 => ?_)
  obtain rfl : y2 = xs (k + 2) := ey2.trans (congrArg xs (mq_sx (j := 2) (k := k) (by omega) hL).2)
  obtain ⟨q3, hc4, h⟩ := mq_cl_go h
  refine zL_X10_prove (a := a) (z := z) (wl := wd_R b cI cL cB cZ z SR) (wr := mq_oo o cL (f)) C hcs zt_m_L_81 ⟨Nat.le_of_ble_eq_true rfl, Nat.le_of_ble_eq_true rfl⟩ hc4 hP hD hS hl.1 (Nat.le_of_ble_eq_true rfl) dL_law_557 (fun H locs hP hD hS => ?_)
  obtain ⟨S5, eS5⟩ : ∃ y, y = q3.2 := ⟨_, rfl⟩
  rw [← eS5] at hP hD h
  have hP : va_P D vwCl (wd_R b cI cL cB cZ z SR ++ (wd_C a cI cL cB cZ z S5 ++ mq_oo o cL (f))) H := hP
  have hD : va_D (fun q => s.heap.size ≤ q) (wd_R b cI cL cB cZ z SR ++ (wd_C a cI cL cB cZ z S5 ++ mq_oo o cL (f))) := hD
  refine lv_pop hx hb dL_law_560 rfl ?_
  refine lv_aload_n hx hb dL_law_561 rfl (lv_at hl 2 rfl) ?_
  refine lv_aload_n hx hb dL_law_562 rfl (lv_at hl 0 rfl) ?_
  refine lv_iload hx hb dL_law_563 (lv_at hl 4 rfl) ?_
  refine lv_iconst (v := 1) hx hb dL_law_565 (by decide) ?_
  refine lv_iadd hx hb dL_law_566 ?_
  refine va_sld hx hb hXs hbl hbA hS (mq_sx (j := 1) (k := k) (by omega) hL).1 dL_law_567 ?_
  refine lv_topi (fun y6 ey6 => ?_)
  obtain rfl : y6 = xs (k + 1) := ey6.trans (congrArg xs (mq_sx (j := 1) (k := k) (by omega) hL).2)
  refine lv_aload_n hx hb dL_law_568 rfl (lv_at hl 0 rfl) ?_
  refine lv_iload hx hb dL_law_569 (lv_at hl 4 rfl) ?_
  refine lv_iconst (v := 2) hx hb dL_law_571 (by decide) ?_
  refine lv_iadd hx hb dL_law_572 ?_
  refine va_sld hx hb hXs hbl hbA hS (mq_sx (j := 2) (k := k) (by omega) hL).1 dL_law_573 ?_
  refine lv_topi (fun y7 ey7 => ?_)
  obtain rfl : y7 = xs (k + 2) := ey7.trans (congrArg xs (mq_sx (j := 2) (k := k) (by omega) hL).2)
  obtain ⟨q8, hc9, h⟩ := mq_cl_go h
  refine zL_X11_prove (a := b) (z := z) (wl := []) (wr := (wd_C a cI cL cB cZ z S5 ++ mq_oo o cL (f))) C hcs zt_m_L_84 ⟨Nat.le_of_ble_eq_true rfl, Nat.le_of_ble_eq_true rfl⟩ hc9 (by rw [List.nil_append]; exact hP) (by rw [List.nil_append]; exact hD) hS hl.1 (Nat.le_of_ble_eq_true rfl) dL_law_574 (fun H locs hP hD hS => ?_)
  obtain ⟨S10, eS10⟩ : ∃ y, y = q8.2 := ⟨_, rfl⟩
  rw [← eS10] at hP hD h
  have hP : va_P D vwCl (wd_R b cI cL cB cZ z S10 ++ (wd_C a cI cL cB cZ z S5 ++ mq_oo o cL (f))) H := hP
  have hD : va_D (fun q => s.heap.size ≤ q) (wd_R b cI cL cB cZ z S10 ++ (wd_C a cI cL cB cZ z S5 ++ mq_oo o cL (f))) := hD
  refine lv_pop hx hb dL_law_577 rfl ?_
  refine lv_goto (tgt := 818) hx hb dL_law_578 (by decide) ?_
  refine W.widen (k := cells + 1) (n := slots + 6) (Nat.le_add_right _ _) (Nat.le_add_right _ _) ?_
  cases h
  exact kk H locs ls (lv_sub hl [0, 1, 2, 3, 4] rfl) hP hD hS
def zf_law_13 (N : Nat) (z : Nat → Nat) (x1 x2 x3 x4 x5 : Int32) (SC SR : mq_St) (f : Nat → Int64) : Option (mq_St × mq_St × (Nat → Int64)) := mq_cp (zf_X10_count N z x1 SC) (fun r => mq_cl (zf_X11_count N z x1 SR) (fun q SR1 => some (SC, SR1, f)))
theorem zt_m_L_85 : Cond.methodLink RL 85 yX10_count ∈ mq_T := mq_T_mem (mq_t4 (List.mem_of_getElem? (i := 168) rfl)) rfl
theorem zt_m_L_88 : Cond.methodLink RL 88 yX11_count ∈ mq_T := mq_T_mem (mq_t7 (List.mem_of_getElem? (i := 132) rfl)) rfl
set_option maxHeartbeats 4000000 in
set_option maxRecDepth 100000 in
theorem zl_case_13 {p : Program} {l : Launch} {e : Env} {s : State} {m : MethodId} {args : Array Value} {below : List Frame} {meth : Method} {c : Code} {D : va_G} {a b z : Nat → Nat} {cI cL cB cZ : ClassId} {Q : State → Prop} {c1 : Cond} {N L k sb o s1 s2 cells slots : Nat} {xs : Nat → Int32} (C0 : mq_L p s m args c D cI cL cB cZ c1 l sb L xs s1 s2) (hk6 : k + 6 ≤ L) (hcs1 : cells + 1 ≤ room_1.cells ∧ slots + 6 ≤ room_1.slots) (SC SR : mq_St) (f : Nat → Int64) (res : mq_St × mq_St × (Nat → Int64)) (H : Heap) (locs : List Loc) (ls : Array Slot) (h : zf_law_13 N z (xs (k + 1)) (xs (k + 2)) (xs (k + 3)) (xs (k + 4)) (xs (k + 5)) SC SR f = some res) (hl : lv_has ls 7 [(0, .ref sb), (1, .ref (a 0)), (2, .ref (b 0)), (3, .ref o), (4, .int (nI k))]) (hP : va_P D vwCl (wd_R b cI cL cB cZ z SR ++ (wd_C a cI cL cB cZ z SC ++ mq_oo o cL (f))) H) (hD : va_D (fun q => s.heap.size ≤ q) (wd_R b cI cL cB cZ z SR ++ (wd_C a cI cL cB cZ z SC ++ mq_oo o cL (f)))) (hS : va_S (fun q => s.heap.size ≤ q) s.heap H locs) (kk : ∀ (H : Heap) (locs : List Loc) (ls : Array Slot), lv_has ls 7 [(0, .ref sb), (1, .ref (a 0)), (2, .ref (b 0)), (3, .ref o), (4, .int (nI k))] → va_P D vwCl (wd_R b cI cL cB cZ z res.2.1 ++ (wd_C a cI cL cB cZ z res.1 ++ mq_oo o cL (res.2.2))) H → va_D (fun q => s.heap.size ≤ q) (wd_R b cI cL cB cZ z res.2.1 ++ (wd_C a cI cL cB cZ z res.1 ++ mq_oo o cL (res.2.2))) → va_S (fun q => s.heap.size ≤ q) s.heap H locs → W p l e room_1 s m args below meth c H locs (cells + 1) (slots + 6) Q (F0 m 818 ls [])) : W p l e room_1 s m args below meth c H locs cells slots Q (F0 m 581 ls []) := by
  obtain ⟨C, hst, hXs, hbl, hL, hXX⟩ := C0
  obtain ⟨hx, hb, hml, hown, hts, hK, hA⟩ := id C
  have hbA : ¬ (fun q : Nat => s.heap.size ≤ q) sb := Nat.not_le.mpr hbl
  have hcs : cells ≤ room_1.cells ∧ slots ≤ room_1.slots := ⟨Nat.le_trans (Nat.le_add_right _ _) hcs1.1, Nat.le_trans (Nat.le_add_right _ _) hcs1.2⟩
  unfold zf_law_13 at h
  refine lv_aload_n hx hb dL_law_581 rfl (lv_at hl 1 rfl) ?_
  refine lv_aload_n hx hb dL_law_582 rfl (lv_at hl 0 rfl) ?_
  refine lv_iload hx hb dL_law_583 (lv_at hl 4 rfl) ?_
  refine lv_iconst (v := 1) hx hb dL_law_585 (by decide) ?_
  refine lv_iadd hx hb dL_law_586 ?_
  refine va_sld hx hb hXs hbl hbA hS (mq_sx (j := 1) (k := k) (by omega) hL).1 dL_law_587 ?_
  refine lv_topi (fun y1 ey1 => ?_)
  obtain rfl : y1 = xs (k + 1) := ey1.trans (congrArg xs (mq_sx (j := 1) (k := k) (by omega) hL).2)
  obtain ⟨q2, hc3, h⟩ := mq_cp_go h
  refine zL_X10_count (a := a) (z := z) (wl := wd_R b cI cL cB cZ z SR) (wr := mq_oo o cL (f)) C hcs zt_m_L_85 ⟨Nat.le_of_ble_eq_true rfl, Nat.le_of_ble_eq_true rfl⟩ hc3 hP hD hS hl.1 (Nat.le_of_ble_eq_true rfl) dL_law_588 (fun H locs hP hD hS => ?_)
  have hP : va_P D vwCl (wd_R b cI cL cB cZ z SR ++ (wd_C a cI cL cB cZ z SC ++ mq_oo o cL (f))) H := hP
  have hD : va_D (fun q => s.heap.size ≤ q) (wd_R b cI cL cB cZ z SR ++ (wd_C a cI cL cB cZ z SC ++ mq_oo o cL (f))) := hD
  refine lv_pop hx hb dL_law_591 rfl ?_
  refine lv_aload_n hx hb dL_law_592 rfl (lv_at hl 2 rfl) ?_
  refine lv_aload_n hx hb dL_law_593 rfl (lv_at hl 0 rfl) ?_
  refine lv_iload hx hb dL_law_594 (lv_at hl 4 rfl) ?_
  refine lv_iconst (v := 1) hx hb dL_law_596 (by decide) ?_
  refine lv_iadd hx hb dL_law_597 ?_
  refine va_sld hx hb hXs hbl hbA hS (mq_sx (j := 1) (k := k) (by omega) hL).1 dL_law_598 ?_
  refine lv_topi (fun y4 ey4 => ?_)
  obtain rfl : y4 = xs (k + 1) := ey4.trans (congrArg xs (mq_sx (j := 1) (k := k) (by omega) hL).2)
  obtain ⟨q5, hc6, h⟩ := mq_cl_go h
  refine zL_X11_count (a := b) (z := z) (wl := []) (wr := (wd_C a cI cL cB cZ z SC ++ mq_oo o cL (f))) C hcs zt_m_L_88 ⟨Nat.le_of_ble_eq_true rfl, Nat.le_of_ble_eq_true rfl⟩ hc6 (by rw [List.nil_append]; exact hP) (by rw [List.nil_append]; exact hD) hS hl.1 (Nat.le_of_ble_eq_true rfl) dL_law_599 (fun H locs hP hD hS => ?_)
  obtain ⟨S7, eS7⟩ : ∃ y, y = q5.2 := ⟨_, rfl⟩
  rw [← eS7] at hP hD h
  have hP : va_P D vwCl (wd_R b cI cL cB cZ z S7 ++ (wd_C a cI cL cB cZ z SC ++ mq_oo o cL (f))) H := hP
  have hD : va_D (fun q => s.heap.size ≤ q) (wd_R b cI cL cB cZ z S7 ++ (wd_C a cI cL cB cZ z SC ++ mq_oo o cL (f))) := hD
  refine lv_pop hx hb dL_law_602 rfl ?_
  refine lv_goto (tgt := 818) hx hb dL_law_603 (by decide) ?_
  refine W.widen (k := cells + 1) (n := slots + 6) (Nat.le_add_right _ _) (Nat.le_add_right _ _) ?_
  cases h
  exact kk H locs ls (lv_sub hl [0, 1, 2, 3, 4] rfl) hP hD hS
def zf_law_14 (N : Nat) (z : Nat → Nat) (x1 x2 x3 x4 x5 : Int32) (SC SR : mq_St) (f : Nat → Int64) : Option (mq_St × mq_St × (Nat → Int64)) := mq_cl (zf_X10_proof N z SC) (fun r SC1 => mq_cl (zf_X11_proof N z SR) (fun q SR1 => some (SC1, SR1, f)))
theorem zt_m_L_89 : Cond.methodLink RL 89 yX10_proof ∈ mq_T := mq_T_mem (mq_t4 (List.mem_of_getElem? (i := 176) rfl)) rfl
theorem zt_m_L_92 : Cond.methodLink RL 92 yX11_proof ∈ mq_T := mq_T_mem (mq_t7 (List.mem_of_getElem? (i := 136) rfl)) rfl
set_option maxHeartbeats 4000000 in
set_option maxRecDepth 100000 in
theorem zl_case_14 {p : Program} {l : Launch} {e : Env} {s : State} {m : MethodId} {args : Array Value} {below : List Frame} {meth : Method} {c : Code} {D : va_G} {a b z : Nat → Nat} {cI cL cB cZ : ClassId} {Q : State → Prop} {c1 : Cond} {N L k sb o s1 s2 cells slots : Nat} {xs : Nat → Int32} (C0 : mq_L p s m args c D cI cL cB cZ c1 l sb L xs s1 s2) (hk6 : k + 6 ≤ L) (hcs1 : cells + 1 ≤ room_1.cells ∧ slots + 6 ≤ room_1.slots) (SC SR : mq_St) (f : Nat → Int64) (res : mq_St × mq_St × (Nat → Int64)) (H : Heap) (locs : List Loc) (ls : Array Slot) (h : zf_law_14 N z (xs (k + 1)) (xs (k + 2)) (xs (k + 3)) (xs (k + 4)) (xs (k + 5)) SC SR f = some res) (hl : lv_has ls 7 [(0, .ref sb), (1, .ref (a 0)), (2, .ref (b 0)), (3, .ref o), (4, .int (nI k))]) (hP : va_P D vwCl (wd_R b cI cL cB cZ z SR ++ (wd_C a cI cL cB cZ z SC ++ mq_oo o cL (f))) H) (hD : va_D (fun q => s.heap.size ≤ q) (wd_R b cI cL cB cZ z SR ++ (wd_C a cI cL cB cZ z SC ++ mq_oo o cL (f)))) (hS : va_S (fun q => s.heap.size ≤ q) s.heap H locs) (kk : ∀ (H : Heap) (locs : List Loc) (ls : Array Slot), lv_has ls 7 [(0, .ref sb), (1, .ref (a 0)), (2, .ref (b 0)), (3, .ref o), (4, .int (nI k))] → va_P D vwCl (wd_R b cI cL cB cZ z res.2.1 ++ (wd_C a cI cL cB cZ z res.1 ++ mq_oo o cL (res.2.2))) H → va_D (fun q => s.heap.size ≤ q) (wd_R b cI cL cB cZ z res.2.1 ++ (wd_C a cI cL cB cZ z res.1 ++ mq_oo o cL (res.2.2))) → va_S (fun q => s.heap.size ≤ q) s.heap H locs → W p l e room_1 s m args below meth c H locs (cells + 1) (slots + 6) Q (F0 m 818 ls [])) : W p l e room_1 s m args below meth c H locs cells slots Q (F0 m 606 ls []) := by
  obtain ⟨C, hst, hXs, hbl, hL, hXX⟩ := C0
  obtain ⟨hx, hb, hml, hown, hts, hK, hA⟩ := id C
  have hbA : ¬ (fun q : Nat => s.heap.size ≤ q) sb := Nat.not_le.mpr hbl
  have hcs : cells ≤ room_1.cells ∧ slots ≤ room_1.slots := ⟨Nat.le_trans (Nat.le_add_right _ _) hcs1.1, Nat.le_trans (Nat.le_add_right _ _) hcs1.2⟩
  unfold zf_law_14 at h
  refine lv_aload_n hx hb dL_law_606 rfl (lv_at hl 1 rfl) ?_
  obtain ⟨q1, hc2, h⟩ := mq_cl_go h
  refine zL_X10_proof (a := a) (z := z) (wl := wd_R b cI cL cB cZ z SR) (wr := mq_oo o cL (f)) C hcs zt_m_L_89 ⟨Nat.le_of_ble_eq_true rfl, Nat.le_of_ble_eq_true rfl⟩ hc2 hP hD hS hl.1 (Nat.le_of_ble_eq_true rfl) dL_law_607 (fun H locs hP hD hS => ?_)
  obtain ⟨S3, eS3⟩ : ∃ y, y = q1.2 := ⟨_, rfl⟩
  rw [← eS3] at hP hD h
  have hP : va_P D vwCl (wd_R b cI cL cB cZ z SR ++ (wd_C a cI cL cB cZ z S3 ++ mq_oo o cL (f))) H := hP
  have hD : va_D (fun q => s.heap.size ≤ q) (wd_R b cI cL cB cZ z SR ++ (wd_C a cI cL cB cZ z S3 ++ mq_oo o cL (f))) := hD
  refine lv_pop hx hb dL_law_610 rfl ?_
  refine lv_aload_n hx hb dL_law_611 rfl (lv_at hl 2 rfl) ?_
  obtain ⟨q4, hc5, h⟩ := mq_cl_go h
  refine zL_X11_proof (a := b) (z := z) (wl := []) (wr := (wd_C a cI cL cB cZ z S3 ++ mq_oo o cL (f))) C hcs zt_m_L_92 ⟨Nat.le_of_ble_eq_true rfl, Nat.le_of_ble_eq_true rfl⟩ hc5 (by rw [List.nil_append]; exact hP) (by rw [List.nil_append]; exact hD) hS hl.1 (Nat.le_of_ble_eq_true rfl) dL_law_612 (fun H locs hP hD hS => ?_)
  obtain ⟨S6, eS6⟩ : ∃ y, y = q4.2 := ⟨_, rfl⟩
  rw [← eS6] at hP hD h
  have hP : va_P D vwCl (wd_R b cI cL cB cZ z S6 ++ (wd_C a cI cL cB cZ z S3 ++ mq_oo o cL (f))) H := hP
  have hD : va_D (fun q => s.heap.size ≤ q) (wd_R b cI cL cB cZ z S6 ++ (wd_C a cI cL cB cZ z S3 ++ mq_oo o cL (f))) := hD
  refine lv_pop hx hb dL_law_615 rfl ?_
  refine lv_goto (tgt := 818) hx hb dL_law_616 (by decide) ?_
  refine W.widen (k := cells + 1) (n := slots + 6) (Nat.le_add_right _ _) (Nat.le_add_right _ _) ?_
  cases h
  exact kk H locs ls (lv_sub hl [0, 1, 2, 3, 4] rfl) hP hD hS
def zf_law_15 (N : Nat) (z : Nat → Nat) (x1 x2 x3 x4 x5 : Int32) (SC SR : mq_St) (f : Nat → Int64) : Option (mq_St × mq_St × (Nat → Int64)) := mq_cl (zf_X10_verify N z x1 SC) (fun r SC1 => mq_cl (zf_X11_verify N z x1 SR) (fun q SR1 => some (SC1, SR1, f)))
theorem zt_m_L_93 : Cond.methodLink RL 93 yX10_verify ∈ mq_T := mq_T_mem (mq_t4 (List.mem_of_getElem? (i := 187) rfl)) rfl
theorem zt_m_L_96 : Cond.methodLink RL 96 yX11_verify ∈ mq_T := mq_T_mem (mq_t7 (List.mem_of_getElem? (i := 140) rfl)) rfl
set_option maxHeartbeats 4000000 in
set_option maxRecDepth 100000 in
theorem zl_case_15 {p : Program} {l : Launch} {e : Env} {s : State} {m : MethodId} {args : Array Value} {below : List Frame} {meth : Method} {c : Code} {D : va_G} {a b z : Nat → Nat} {cI cL cB cZ : ClassId} {Q : State → Prop} {c1 : Cond} {N L k sb o s1 s2 cells slots : Nat} {xs : Nat → Int32} (C0 : mq_L p s m args c D cI cL cB cZ c1 l sb L xs s1 s2) (hk6 : k + 6 ≤ L) (hcs1 : cells + 1 ≤ room_1.cells ∧ slots + 6 ≤ room_1.slots) (SC SR : mq_St) (f : Nat → Int64) (res : mq_St × mq_St × (Nat → Int64)) (H : Heap) (locs : List Loc) (ls : Array Slot) (h : zf_law_15 N z (xs (k + 1)) (xs (k + 2)) (xs (k + 3)) (xs (k + 4)) (xs (k + 5)) SC SR f = some res) (hl : lv_has ls 7 [(0, .ref sb), (1, .ref (a 0)), (2, .ref (b 0)), (3, .ref o), (4, .int (nI k))]) (hP : va_P D vwCl (wd_R b cI cL cB cZ z SR ++ (wd_C a cI cL cB cZ z SC ++ mq_oo o cL (f))) H) (hD : va_D (fun q => s.heap.size ≤ q) (wd_R b cI cL cB cZ z SR ++ (wd_C a cI cL cB cZ z SC ++ mq_oo o cL (f)))) (hS : va_S (fun q => s.heap.size ≤ q) s.heap H locs) (kk : ∀ (H : Heap) (locs : List Loc) (ls : Array Slot), lv_has ls 7 [(0, .ref sb), (1, .ref (a 0)), (2, .ref (b 0)), (3, .ref o), (4, .int (nI k))] → va_P D vwCl (wd_R b cI cL cB cZ z res.2.1 ++ (wd_C a cI cL cB cZ z res.1 ++ mq_oo o cL (res.2.2))) H → va_D (fun q => s.heap.size ≤ q) (wd_R b cI cL cB cZ z res.2.1 ++ (wd_C a cI cL cB cZ z res.1 ++ mq_oo o cL (res.2.2))) → va_S (fun q => s.heap.size ≤ q) s.heap H locs → W p l e room_1 s m args below meth c H locs (cells + 1) (slots + 6) Q (F0 m 818 ls [])) : W p l e room_1 s m args below meth c H locs cells slots Q (F0 m 619 ls []) := by
  obtain ⟨C, hst, hXs, hbl, hL, hXX⟩ := C0
  obtain ⟨hx, hb, hml, hown, hts, hK, hA⟩ := id C
  have hbA : ¬ (fun q : Nat => s.heap.size ≤ q) sb := Nat.not_le.mpr hbl
  have hcs : cells ≤ room_1.cells ∧ slots ≤ room_1.slots := ⟨Nat.le_trans (Nat.le_add_right _ _) hcs1.1, Nat.le_trans (Nat.le_add_right _ _) hcs1.2⟩
  unfold zf_law_15 at h
  refine lv_aload_n hx hb dL_law_619 rfl (lv_at hl 1 rfl) ?_
  refine lv_aload_n hx hb dL_law_620 rfl (lv_at hl 0 rfl) ?_
  refine lv_iload hx hb dL_law_621 (lv_at hl 4 rfl) ?_
  refine lv_iconst (v := 1) hx hb dL_law_623 (by decide) ?_
  refine lv_iadd hx hb dL_law_624 ?_
  refine va_sld hx hb hXs hbl hbA hS (mq_sx (j := 1) (k := k) (by omega) hL).1 dL_law_625 ?_
  refine lv_topi (fun y1 ey1 => ?_)
  obtain rfl : y1 = xs (k + 1) := ey1.trans (congrArg xs (mq_sx (j := 1) (k := k) (by omega) hL).2)
  obtain ⟨q2, hc3, h⟩ := mq_cl_go h
  refine zL_X10_verify (a := a) (z := z) (wl := wd_R b cI cL cB cZ z SR) (wr := mq_oo o cL (f)) C hcs zt_m_L_93 ⟨Nat.le_of_ble_eq_true rfl, Nat.le_of_ble_eq_true rfl⟩ hc3 hP hD hS hl.1 (Nat.le_of_ble_eq_true rfl) dL_law_626 (fun H locs hP hD hS => ?_)
  obtain ⟨S4, eS4⟩ : ∃ y, y = q2.2 := ⟨_, rfl⟩
  rw [← eS4] at hP hD h
  have hP : va_P D vwCl (wd_R b cI cL cB cZ z SR ++ (wd_C a cI cL cB cZ z S4 ++ mq_oo o cL (f))) H := hP
  have hD : va_D (fun q => s.heap.size ≤ q) (wd_R b cI cL cB cZ z SR ++ (wd_C a cI cL cB cZ z S4 ++ mq_oo o cL (f))) := hD
  refine lv_pop hx hb dL_law_629 rfl ?_
  refine lv_aload_n hx hb dL_law_630 rfl (lv_at hl 2 rfl) ?_
  refine lv_aload_n hx hb dL_law_631 rfl (lv_at hl 0 rfl) ?_
  refine lv_iload hx hb dL_law_632 (lv_at hl 4 rfl) ?_
  refine lv_iconst (v := 1) hx hb dL_law_634 (by decide) ?_
  refine lv_iadd hx hb dL_law_635 ?_
  refine va_sld hx hb hXs hbl hbA hS (mq_sx (j := 1) (k := k) (by omega) hL).1 dL_law_636 ?_
  refine lv_topi (fun y5 ey5 => ?_)
  obtain rfl : y5 = xs (k + 1) := ey5.trans (congrArg xs (mq_sx (j := 1) (k := k) (by omega) hL).2)
  obtain ⟨q6, hc7, h⟩ := mq_cl_go h
  refine zL_X11_verify (a := b) (z := z) (wl := []) (wr := (wd_C a cI cL cB cZ z S4 ++ mq_oo o cL (f))) C hcs zt_m_L_96 ⟨Nat.le_of_ble_eq_true rfl, Nat.le_of_ble_eq_true rfl⟩ hc7 (by rw [List.nil_append]; exact hP) (by rw [List.nil_append]; exact hD) hS hl.1 (Nat.le_of_ble_eq_true rfl) dL_law_637 (fun H locs hP hD hS => ?_)
  obtain ⟨S8, eS8⟩ : ∃ y, y = q6.2 := ⟨_, rfl⟩
  rw [← eS8] at hP hD h
  have hP : va_P D vwCl (wd_R b cI cL cB cZ z S8 ++ (wd_C a cI cL cB cZ z S4 ++ mq_oo o cL (f))) H := hP
  have hD : va_D (fun q => s.heap.size ≤ q) (wd_R b cI cL cB cZ z S8 ++ (wd_C a cI cL cB cZ z S4 ++ mq_oo o cL (f))) := hD
  refine lv_pop hx hb dL_law_640 rfl ?_
  refine lv_goto (tgt := 818) hx hb dL_law_641 (by decide) ?_
  refine W.widen (k := cells + 1) (n := slots + 6) (Nat.le_add_right _ _) (Nat.le_add_right _ _) ?_
  cases h
  exact kk H locs ls (lv_sub hl [0, 1, 2, 3, 4] rfl) hP hD hS
def zf_law_16 (N : Nat) (z : Nat → Nat) (x1 x2 x3 x4 x5 : Int32) (SC SR : mq_St) (f : Nat → Int64) : Option (mq_St × mq_St × (Nat → Int64)) := mq_cp (zf_X10_worlds N z SC) (fun r => mq_cl (zf_X11_worlds N z SR) (fun q SR1 => some (SC, SR1, f)))
theorem zt_m_L_97 : Cond.methodLink RL 97 yX10_worlds ∈ mq_T := mq_T_mem (mq_t4 (List.mem_of_getElem? (i := 215) rfl)) rfl
theorem zt_m_L_100 : Cond.methodLink RL 100 yX11_worlds ∈ mq_T := mq_T_mem (mq_t7 (List.mem_of_getElem? (i := 144) rfl)) rfl
set_option maxHeartbeats 4000000 in
set_option maxRecDepth 100000 in
theorem zl_case_16 {p : Program} {l : Launch} {e : Env} {s : State} {m : MethodId} {args : Array Value} {below : List Frame} {meth : Method} {c : Code} {D : va_G} {a b z : Nat → Nat} {cI cL cB cZ : ClassId} {Q : State → Prop} {c1 : Cond} {N L k sb o s1 s2 cells slots : Nat} {xs : Nat → Int32} (C0 : mq_L p s m args c D cI cL cB cZ c1 l sb L xs s1 s2) (hk6 : k + 6 ≤ L) (hcs1 : cells + 1 ≤ room_1.cells ∧ slots + 6 ≤ room_1.slots) (SC SR : mq_St) (f : Nat → Int64) (res : mq_St × mq_St × (Nat → Int64)) (H : Heap) (locs : List Loc) (ls : Array Slot) (h : zf_law_16 N z (xs (k + 1)) (xs (k + 2)) (xs (k + 3)) (xs (k + 4)) (xs (k + 5)) SC SR f = some res) (hl : lv_has ls 7 [(0, .ref sb), (1, .ref (a 0)), (2, .ref (b 0)), (3, .ref o), (4, .int (nI k))]) (hP : va_P D vwCl (wd_R b cI cL cB cZ z SR ++ (wd_C a cI cL cB cZ z SC ++ mq_oo o cL (f))) H) (hD : va_D (fun q => s.heap.size ≤ q) (wd_R b cI cL cB cZ z SR ++ (wd_C a cI cL cB cZ z SC ++ mq_oo o cL (f)))) (hS : va_S (fun q => s.heap.size ≤ q) s.heap H locs) (kk : ∀ (H : Heap) (locs : List Loc) (ls : Array Slot), lv_has ls 7 [(0, .ref sb), (1, .ref (a 0)), (2, .ref (b 0)), (3, .ref o), (4, .int (nI k))] → va_P D vwCl (wd_R b cI cL cB cZ z res.2.1 ++ (wd_C a cI cL cB cZ z res.1 ++ mq_oo o cL (res.2.2))) H → va_D (fun q => s.heap.size ≤ q) (wd_R b cI cL cB cZ z res.2.1 ++ (wd_C a cI cL cB cZ z res.1 ++ mq_oo o cL (res.2.2))) → va_S (fun q => s.heap.size ≤ q) s.heap H locs → W p l e room_1 s m args below meth c H locs (cells + 1) (slots + 6) Q (F0 m 818 ls [])) : W p l e room_1 s m args below meth c H locs cells slots Q (F0 m 644 ls []) := by
  obtain ⟨C, hst, hXs, hbl, hL, hXX⟩ := C0
  obtain ⟨hx, hb, hml, hown, hts, hK, hA⟩ := id C
  have hbA : ¬ (fun q : Nat => s.heap.size ≤ q) sb := Nat.not_le.mpr hbl
  have hcs : cells ≤ room_1.cells ∧ slots ≤ room_1.slots := ⟨Nat.le_trans (Nat.le_add_right _ _) hcs1.1, Nat.le_trans (Nat.le_add_right _ _) hcs1.2⟩
  unfold zf_law_16 at h
  refine lv_aload_n hx hb dL_law_644 rfl (lv_at hl 1 rfl) ?_
  obtain ⟨q1, hc2, h⟩ := mq_cp_go h
  refine zL_X10_worlds (a := a) (z := z) (wl := wd_R b cI cL cB cZ z SR) (wr := mq_oo o cL (f)) C hcs zt_m_L_97 ⟨Nat.le_of_ble_eq_true rfl, Nat.le_of_ble_eq_true rfl⟩ hc2 hP hD hS hl.1 (Nat.le_of_ble_eq_true rfl) dL_law_645 (fun H locs hP hD hS => ?_)
  have hP : va_P D vwCl (wd_R b cI cL cB cZ z SR ++ (wd_C a cI cL cB cZ z SC ++ mq_oo o cL (f))) H := hP
  have hD : va_D (fun q => s.heap.size ≤ q) (wd_R b cI cL cB cZ z SR ++ (wd_C a cI cL cB cZ z SC ++ mq_oo o cL (f))) := hD
  refine lv_pop hx hb dL_law_648 rfl ?_
  refine lv_aload_n hx hb dL_law_649 rfl (lv_at hl 2 rfl) ?_
  obtain ⟨q3, hc4, h⟩ := mq_cl_go h
  refine zL_X11_worlds (a := b) (z := z) (wl := []) (wr := (wd_C a cI cL cB cZ z SC ++ mq_oo o cL (f))) C hcs zt_m_L_100 ⟨Nat.le_of_ble_eq_true rfl, Nat.le_of_ble_eq_true rfl⟩ hc4 (by rw [List.nil_append]; exact hP) (by rw [List.nil_append]; exact hD) hS hl.1 (Nat.le_of_ble_eq_true rfl) dL_law_650 (fun H locs hP hD hS => ?_)
  obtain ⟨S5, eS5⟩ : ∃ y, y = q3.2 := ⟨_, rfl⟩
  rw [← eS5] at hP hD h
  have hP : va_P D vwCl (wd_R b cI cL cB cZ z S5 ++ (wd_C a cI cL cB cZ z SC ++ mq_oo o cL (f))) H := hP
  have hD : va_D (fun q => s.heap.size ≤ q) (wd_R b cI cL cB cZ z S5 ++ (wd_C a cI cL cB cZ z SC ++ mq_oo o cL (f))) := hD
  refine lv_pop hx hb dL_law_653 rfl ?_
  refine lv_goto (tgt := 818) hx hb dL_law_654 (by decide) ?_
  refine W.widen (k := cells + 1) (n := slots + 6) (Nat.le_add_right _ _) (Nat.le_add_right _ _) ?_
  cases h
  exact kk H locs ls (lv_sub hl [0, 1, 2, 3, 4] rfl) hP hD hS
def zf_law_17 (N : Nat) (z : Nat → Nat) (x1 x2 x3 x4 x5 : Int32) (SC SR : mq_St) (f : Nat → Int64) : Option (mq_St × mq_St × (Nat → Int64)) := match zf_L_sees N z x1 x2 SC f with
  | none => none
  | some q => mq_cl (zf_X11_sees N z x1 x2 SR) (fun _ SR1 => some (q.2.1, SR1, q.2.2))
theorem zt_m_L_101 : Cond.methodLink RL 101 yL_sees ∈ mq_T := mq_T_mem (mq_t5 (List.mem_of_getElem? (i := 8) rfl)) rfl
theorem zt_L_sees_c : zc_L_sees ∈ mq_T := mq_T_mem (mq_t5 (List.mem_of_getElem? (i := 10) rfl)) rfl
theorem zt_L_sees_s : Cond.static yL_sees ∈ mq_T := mq_T_mem (mq_t5 (List.mem_of_getElem? (i := 9) rfl)) rfl
theorem zt_ini_L : Cond.initialized RL ∈ mq_T := mq_T_mem (mq_t1 (List.mem_of_getElem? (i := 0) rfl)) rfl
theorem zt_m_L_106 : Cond.methodLink RL 106 yX11_sees ∈ mq_T := mq_T_mem (mq_t7 (List.mem_of_getElem? (i := 148) rfl)) rfl
set_option maxHeartbeats 4000000 in
set_option maxRecDepth 100000 in
theorem zl_case_17 {p : Program} {l : Launch} {e : Env} {s : State} {m : MethodId} {args : Array Value} {below : List Frame} {meth : Method} {c : Code} {D : va_G} {a b z : Nat → Nat} {cI cL cB cZ : ClassId} {Q : State → Prop} {c1 : Cond} {N L k sb o s1 s2 cells slots : Nat} {xs : Nat → Int32} (C0 : mq_L p s m args c D cI cL cB cZ c1 l sb L xs s1 s2) (hk6 : k + 6 ≤ L) (hcs1 : cells + 1 ≤ room_1.cells ∧ slots + 6 ≤ room_1.slots) (SC SR : mq_St) (f : Nat → Int64) (res : mq_St × mq_St × (Nat → Int64)) (H : Heap) (locs : List Loc) (ls : Array Slot) (h : zf_law_17 N z (xs (k + 1)) (xs (k + 2)) (xs (k + 3)) (xs (k + 4)) (xs (k + 5)) SC SR f = some res) (hl : lv_has ls 7 [(0, .ref sb), (1, .ref (a 0)), (2, .ref (b 0)), (3, .ref o), (4, .int (nI k))]) (hP : va_P D vwCl (wd_R b cI cL cB cZ z SR ++ (wd_C a cI cL cB cZ z SC ++ mq_oo o cL (f))) H) (hD : va_D (fun q => s.heap.size ≤ q) (wd_R b cI cL cB cZ z SR ++ (wd_C a cI cL cB cZ z SC ++ mq_oo o cL (f)))) (hS : va_S (fun q => s.heap.size ≤ q) s.heap H locs) (kk : ∀ (H : Heap) (locs : List Loc) (ls : Array Slot), lv_has ls 7 [(0, .ref sb), (1, .ref (a 0)), (2, .ref (b 0)), (3, .ref o), (4, .int (nI k))] → va_P D vwCl (wd_R b cI cL cB cZ z res.2.1 ++ (wd_C a cI cL cB cZ z res.1 ++ mq_oo o cL (res.2.2))) H → va_D (fun q => s.heap.size ≤ q) (wd_R b cI cL cB cZ z res.2.1 ++ (wd_C a cI cL cB cZ z res.1 ++ mq_oo o cL (res.2.2))) → va_S (fun q => s.heap.size ≤ q) s.heap H locs → W p l e room_1 s m args below meth c H locs (cells + 1) (slots + 6) Q (F0 m 818 ls [])) : W p l e room_1 s m args below meth c H locs cells slots Q (F0 m 657 ls []) := by
  obtain ⟨C, hst, hXs, hbl, hL, hXX⟩ := C0
  obtain ⟨hx, hb, hml, hown, hts, hK, hA⟩ := id C
  have hbA : ¬ (fun q : Nat => s.heap.size ≤ q) sb := Nat.not_le.mpr hbl
  have hcs : cells ≤ room_1.cells ∧ slots ≤ room_1.slots := ⟨Nat.le_trans (Nat.le_add_right _ _) hcs1.1, Nat.le_trans (Nat.le_add_right _ _) hcs1.2⟩
  unfold zf_law_17 at h
  refine lv_aload_n hx hb dL_law_657 rfl (lv_at hl 1 rfl) ?_
  refine lv_aload_n hx hb dL_law_658 rfl (lv_at hl 0 rfl) ?_
  refine lv_iload hx hb dL_law_659 (lv_at hl 4 rfl) ?_
  refine lv_iconst (v := 1) hx hb dL_law_661 (by decide) ?_
  refine lv_iadd hx hb dL_law_662 ?_
  refine va_sld hx hb hXs hbl hbA hS (mq_sx (j := 1) (k := k) (by omega) hL).1 dL_law_663 ?_
  refine lv_topi (fun y1 ey1 => ?_)
  obtain rfl : y1 = xs (k + 1) := ey1.trans (congrArg xs (mq_sx (j := 1) (k := k) (by omega) hL).2)
  refine lv_aload_n hx hb dL_law_664 rfl (lv_at hl 0 rfl) ?_
  refine lv_iload hx hb dL_law_665 (lv_at hl 4 rfl) ?_
  refine lv_iconst (v := 2) hx hb dL_law_667 (by decide) ?_
  refine lv_iadd hx hb dL_law_668 ?_
  refine va_sld hx hb hXs hbl hbA hS (mq_sx (j := 2) (k := k) (by omega) hL).1 dL_law_669 ?_
  refine lv_topi (fun y2 ey2 => ?_)
  obtain rfl : y2 = xs (k + 2) := ey2.trans (congrArg xs (mq_sx (j := 2) (k := k) (by omega) hL).2)
  refine lv_aload_n hx hb dL_law_670 rfl (lv_at hl 3 rfl) ?_
  cases hch : zf_L_sees N z (xs (k + 1)) (xs (k + 2)) SC f with
  | none => rw [hch] at h; cases h
  | some qh =>
  rw [hch] at h
  replace h : mq_cl (zf_X11_sees N z (xs (k + 1)) (xs (k + 2)) SR) (fun _ SR1 => some (qh.2.1, SR1, qh.2.2)) = some res := h
  have hP' : va_P D vwCl (wd_R b cI cL cB cZ z SR ++ ((wd_C a cI cL cB cZ z SC ++ mq_oo o cL (f)) ++ [])) H := by rw [List.append_nil]; exact hP
  have hD' : va_D (fun q => s.heap.size ≤ q) (wd_R b cI cL cB cZ z SR ++ ((wd_C a cI cL cB cZ z SC ++ mq_oo o cL (f)) ++ [])) := by rw [List.append_nil]; exact hD
  have hPc := mq_midP hP'
  have hDc := mq_midD hD'
  have hFc := mq_freeI hDc hS hA
  refine va_calli (vx_runSW (As := [.ref (a 0), .int (xs (k + 1)), .int (xs (k + 2)), .ref o]) (rest := []) ⟨hx, hb, hml, hown, hts⟩ (zm_L_sees l hst D a z cI cL cB cZ H.size N s1 s2 o (xs (k + 1)) (xs (k + 2)) SC f qh hch) (vx_cwSW 4 hts (mq_goodL (mq_wsS zt_m_L_101 zt_L_sees_s zt_ini_L zt_L_sees_c)) rfl rfl rfl (by decide +kernel) ⟨Nat.le_of_ble_eq_true rfl, Nat.le_of_ble_eq_true rfl⟩) ⟨fun a U g mk q => ⟨q.1, q.2.1, q.2.2.1, va_K.moved (u := U) (U := U.calling g mk a) (Vm.Alike.refl U.vm) q.2.2.2.1, q.2.2.2.2.1, mq_X_same (u := U) (U := U.calling g mk a) rfl rfl q.2.2.2.2.2⟩, fun U hU hW => ⟨rfl, by rw [hU], by rw [hU]; exact hPc, va_K.moved hW.alike hK, hDc.weaken (fun _ _ _ _ => trivial), mq_X_at (locs := locs) hW (by rw [hU]; exact hS) hFc hXX⟩⟩ rfl rfl hl.1 rfl (lv_room (Nat.le_of_ble_eq_true rfl)) dL_law_671 hcs1) hS (fun q _ h => hFc q h) hFc (fun r u t H1 locs ht hvm hw hB hz1 hk1 hS => ?_)
  obtain ⟨rfl, rfl⟩ := hw
  obtain ⟨hP1, hK1, hD1⟩ := hB
  rw [ht] at hP1
  obtain ⟨hP, hD⟩ := mq_midJ (w1 := (wd_C a cI cL cB cZ z qh.2.1 ++ mq_oo o cL (qh.2.2))) hP' hD' rfl hk1 hP1
  rw [List.append_nil] at hP hD
  generalize H1 = H at hP hS ⊢
  have hP : va_P D vwCl (wd_R b cI cL cB cZ z SR ++ (wd_C a cI cL cB cZ z qh.2.1 ++ mq_oo o cL (qh.2.2))) H := hP
  have hD : va_D (fun q => s.heap.size ≤ q) (wd_R b cI cL cB cZ z SR ++ (wd_C a cI cL cB cZ z qh.2.1 ++ mq_oo o cL (qh.2.2))) := hD
  refine lv_istore (lv' := [(5, .int qh.1), (0, .ref sb), (1, .ref (a 0)), (2, .ref (b 0)), (3, .ref o), (4, .int (nI k))]) hx hb dL_law_674 hl (by decide) rfl (fun ls hl => ?_)
  refine lv_aload_n hx hb dL_law_676 rfl (lv_at hl 3 rfl) ?_
  refine lv_aload_n hx hb dL_law_677 rfl (lv_at hl 1 rfl) ?_
  refine lv_iload hx hb dL_law_678 (lv_at hl 5 rfl) ?_
  refine lv_iconst (v := 1) hx hb dL_law_680 (by decide) ?_
  refine lv_iadd hx hb dL_law_681 ?_
  refine va_sld hx hb hXs hbl hbA hS (mq_sx (j := 1) (k := k) (by omega) hL).1 dL_law_682 ?_
  refine lv_topi (fun y3 ey3 => ?_)
  obtain rfl : y3 = xs (k + 1) := ey3.trans (congrArg xs (mq_sx (j := 1) (k := k) (by omega) hL).2)
  refine lv_aload_n hx hb dL_law_683 rfl (lv_at hl 1 rfl) ?_
  refine lv_iload hx hb dL_law_684 (lv_at hl 5 rfl) ?_
  refine lv_iconst (v := 2) hx hb dL_law_686 (by decide) ?_
  refine lv_iadd hx hb dL_law_687 ?_
  refine va_sld hx hb hXs hbl hbA hS (mq_sx (j := 2) (k := k) (by omega) hL).1 dL_law_688 ?_
  refine lv_topi (fun y4 ey4 => ?_)
  obtain rfl : y4 = xs (k + 2) := ey4.trans (congrArg xs (mq_sx (j := 2) (k := k) (by omega) hL).2)
  obtain ⟨q5, hc6, h⟩ := mq_cl_go h
  refine zL_X11_sees (a := b) (z := z) (wl := []) (wr := (wd_C a cI cL cB cZ z qh.2.1 ++ mq_oo o cL (qh.2.2))) C hcs1 zt_m_L_106 ⟨Nat.le_of_ble_eq_true rfl, Nat.le_of_ble_eq_true rfl⟩ hc6 (by rw [List.nil_append]; exact hP) (by rw [List.nil_append]; exact hD) hS hl.1 (Nat.le_of_ble_eq_true rfl) dL_law_689 (fun H locs hP hD hS => ?_)
  obtain ⟨S7, eS7⟩ : ∃ y, y = q5.2 := ⟨_, rfl⟩
  rw [← eS7] at hP hD h
  have hP : va_P D vwCl (wd_R b cI cL cB cZ z S7 ++ (wd_C a cI cL cB cZ z qh.2.1 ++ mq_oo o cL (qh.2.2))) H := hP
  have hD : va_D (fun q => s.heap.size ≤ q) (wd_R b cI cL cB cZ z S7 ++ (wd_C a cI cL cB cZ z qh.2.1 ++ mq_oo o cL (qh.2.2))) := hD
  refine lv_istore (lv' := [(6, .int q5.1), (5, .int qh.1), (0, .ref sb), (1, .ref (a 0)), (2, .ref (b 0)), (3, .ref o), (4, .int (nI k))]) hx hb dL_law_692 hl (by decide) rfl (fun ls hl => ?_)
  refine lv_goto (tgt := 818) hx hb dL_law_694 (by decide) ?_
  cases h
  exact kk H locs ls (lv_sub hl [2, 3, 4, 5, 6] rfl) hP hD hS
def zf_law_18 (N : Nat) (z : Nat → Nat) (x1 x2 x3 x4 x5 : Int32) (SC SR : mq_St) (f : Nat → Int64) : Option (mq_St × mq_St × (Nat → Int64)) := match zf_L_holds N z x1 x2 SC f with
  | none => none
  | some q => mq_cl (zf_X11_holds N z x1 x2 SR) (fun _ SR1 => some (q.2.1, SR1, q.2.2))
theorem zt_m_L_107 : Cond.methodLink RL 107 yL_holds ∈ mq_T := mq_T_mem (mq_t5 (List.mem_of_getElem? (i := 84) rfl)) rfl
theorem zt_L_holds_c : zc_L_holds ∈ mq_T := mq_T_mem (mq_t5 (List.mem_of_getElem? (i := 86) rfl)) rfl
theorem zt_L_holds_s : Cond.static yL_holds ∈ mq_T := mq_T_mem (mq_t5 (List.mem_of_getElem? (i := 85) rfl)) rfl
theorem zt_m_L_109 : Cond.methodLink RL 109 yX11_holds ∈ mq_T := mq_T_mem (mq_t7 (List.mem_of_getElem? (i := 156) rfl)) rfl
set_option maxHeartbeats 4000000 in
set_option maxRecDepth 100000 in
theorem zl_case_18 {p : Program} {l : Launch} {e : Env} {s : State} {m : MethodId} {args : Array Value} {below : List Frame} {meth : Method} {c : Code} {D : va_G} {a b z : Nat → Nat} {cI cL cB cZ : ClassId} {Q : State → Prop} {c1 : Cond} {N L k sb o s1 s2 cells slots : Nat} {xs : Nat → Int32} (C0 : mq_L p s m args c D cI cL cB cZ c1 l sb L xs s1 s2) (hk6 : k + 6 ≤ L) (hcs1 : cells + 1 ≤ room_1.cells ∧ slots + 6 ≤ room_1.slots) (SC SR : mq_St) (f : Nat → Int64) (res : mq_St × mq_St × (Nat → Int64)) (H : Heap) (locs : List Loc) (ls : Array Slot) (h : zf_law_18 N z (xs (k + 1)) (xs (k + 2)) (xs (k + 3)) (xs (k + 4)) (xs (k + 5)) SC SR f = some res) (hl : lv_has ls 7 [(0, .ref sb), (1, .ref (a 0)), (2, .ref (b 0)), (3, .ref o), (4, .int (nI k))]) (hP : va_P D vwCl (wd_R b cI cL cB cZ z SR ++ (wd_C a cI cL cB cZ z SC ++ mq_oo o cL (f))) H) (hD : va_D (fun q => s.heap.size ≤ q) (wd_R b cI cL cB cZ z SR ++ (wd_C a cI cL cB cZ z SC ++ mq_oo o cL (f)))) (hS : va_S (fun q => s.heap.size ≤ q) s.heap H locs) (kk : ∀ (H : Heap) (locs : List Loc) (ls : Array Slot), lv_has ls 7 [(0, .ref sb), (1, .ref (a 0)), (2, .ref (b 0)), (3, .ref o), (4, .int (nI k))] → va_P D vwCl (wd_R b cI cL cB cZ z res.2.1 ++ (wd_C a cI cL cB cZ z res.1 ++ mq_oo o cL (res.2.2))) H → va_D (fun q => s.heap.size ≤ q) (wd_R b cI cL cB cZ z res.2.1 ++ (wd_C a cI cL cB cZ z res.1 ++ mq_oo o cL (res.2.2))) → va_S (fun q => s.heap.size ≤ q) s.heap H locs → W p l e room_1 s m args below meth c H locs (cells + 1) (slots + 6) Q (F0 m 818 ls [])) : W p l e room_1 s m args below meth c H locs cells slots Q (F0 m 697 ls []) := by
  obtain ⟨C, hst, hXs, hbl, hL, hXX⟩ := C0
  obtain ⟨hx, hb, hml, hown, hts, hK, hA⟩ := id C
  have hbA : ¬ (fun q : Nat => s.heap.size ≤ q) sb := Nat.not_le.mpr hbl
  have hcs : cells ≤ room_1.cells ∧ slots ≤ room_1.slots := ⟨Nat.le_trans (Nat.le_add_right _ _) hcs1.1, Nat.le_trans (Nat.le_add_right _ _) hcs1.2⟩
  unfold zf_law_18 at h
  refine lv_aload_n hx hb dL_law_697 rfl (lv_at hl 1 rfl) ?_
  refine lv_aload_n hx hb dL_law_698 rfl (lv_at hl 0 rfl) ?_
  refine lv_iload hx hb dL_law_699 (lv_at hl 4 rfl) ?_
  refine lv_iconst (v := 1) hx hb dL_law_701 (by decide) ?_
  refine lv_iadd hx hb dL_law_702 ?_
  refine va_sld hx hb hXs hbl hbA hS (mq_sx (j := 1) (k := k) (by omega) hL).1 dL_law_703 ?_
  refine lv_topi (fun y1 ey1 => ?_)
  obtain rfl : y1 = xs (k + 1) := ey1.trans (congrArg xs (mq_sx (j := 1) (k := k) (by omega) hL).2)
  refine lv_aload_n hx hb dL_law_704 rfl (lv_at hl 0 rfl) ?_
  refine lv_iload hx hb dL_law_705 (lv_at hl 4 rfl) ?_
  refine lv_iconst (v := 2) hx hb dL_law_707 (by decide) ?_
  refine lv_iadd hx hb dL_law_708 ?_
  refine va_sld hx hb hXs hbl hbA hS (mq_sx (j := 2) (k := k) (by omega) hL).1 dL_law_709 ?_
  refine lv_topi (fun y2 ey2 => ?_)
  obtain rfl : y2 = xs (k + 2) := ey2.trans (congrArg xs (mq_sx (j := 2) (k := k) (by omega) hL).2)
  refine lv_aload_n hx hb dL_law_710 rfl (lv_at hl 3 rfl) ?_
  cases hch : zf_L_holds N z (xs (k + 1)) (xs (k + 2)) SC f with
  | none => rw [hch] at h; cases h
  | some qh =>
  rw [hch] at h
  replace h : mq_cl (zf_X11_holds N z (xs (k + 1)) (xs (k + 2)) SR) (fun _ SR1 => some (qh.2.1, SR1, qh.2.2)) = some res := h
  have hP' : va_P D vwCl (wd_R b cI cL cB cZ z SR ++ ((wd_C a cI cL cB cZ z SC ++ mq_oo o cL (f)) ++ [])) H := by rw [List.append_nil]; exact hP
  have hD' : va_D (fun q => s.heap.size ≤ q) (wd_R b cI cL cB cZ z SR ++ ((wd_C a cI cL cB cZ z SC ++ mq_oo o cL (f)) ++ [])) := by rw [List.append_nil]; exact hD
  have hPc := mq_midP hP'
  have hDc := mq_midD hD'
  have hFc := mq_freeI hDc hS hA
  refine va_calli (vx_runSW (As := [.ref (a 0), .int (xs (k + 1)), .int (xs (k + 2)), .ref o]) (rest := []) ⟨hx, hb, hml, hown, hts⟩ (zm_L_holds l hst D a z cI cL cB cZ H.size N s1 s2 o (xs (k + 1)) (xs (k + 2)) SC f qh hch) (vx_cwSW 4 hts (mq_goodL (mq_wsS zt_m_L_107 zt_L_holds_s zt_ini_L zt_L_holds_c)) rfl rfl rfl (by decide +kernel) ⟨Nat.le_of_ble_eq_true rfl, Nat.le_of_ble_eq_true rfl⟩) ⟨fun a U g mk q => ⟨q.1, q.2.1, q.2.2.1, va_K.moved (u := U) (U := U.calling g mk a) (Vm.Alike.refl U.vm) q.2.2.2.1, q.2.2.2.2.1, mq_X_same (u := U) (U := U.calling g mk a) rfl rfl q.2.2.2.2.2⟩, fun U hU hW => ⟨rfl, by rw [hU], by rw [hU]; exact hPc, va_K.moved hW.alike hK, hDc.weaken (fun _ _ _ _ => trivial), mq_X_at (locs := locs) hW (by rw [hU]; exact hS) hFc hXX⟩⟩ rfl rfl hl.1 rfl (lv_room (Nat.le_of_ble_eq_true rfl)) dL_law_711 hcs1) hS (fun q _ h => hFc q h) hFc (fun r u t H1 locs ht hvm hw hB hz1 hk1 hS => ?_)
  obtain ⟨rfl, rfl⟩ := hw
  obtain ⟨hP1, hK1, hD1⟩ := hB
  rw [ht] at hP1
  obtain ⟨hP, hD⟩ := mq_midJ (w1 := (wd_C a cI cL cB cZ z qh.2.1 ++ mq_oo o cL (qh.2.2))) hP' hD' rfl hk1 hP1
  rw [List.append_nil] at hP hD
  generalize H1 = H at hP hS ⊢
  have hP : va_P D vwCl (wd_R b cI cL cB cZ z SR ++ (wd_C a cI cL cB cZ z qh.2.1 ++ mq_oo o cL (qh.2.2))) H := hP
  have hD : va_D (fun q => s.heap.size ≤ q) (wd_R b cI cL cB cZ z SR ++ (wd_C a cI cL cB cZ z qh.2.1 ++ mq_oo o cL (qh.2.2))) := hD
  refine lv_istore (lv' := [(5, .int qh.1), (0, .ref sb), (1, .ref (a 0)), (2, .ref (b 0)), (3, .ref o), (4, .int (nI k))]) hx hb dL_law_714 hl (by decide) rfl (fun ls hl => ?_)
  refine lv_aload_n hx hb dL_law_716 rfl (lv_at hl 3 rfl) ?_
  refine lv_aload_n hx hb dL_law_717 rfl (lv_at hl 1 rfl) ?_
  refine lv_iload hx hb dL_law_718 (lv_at hl 5 rfl) ?_
  refine lv_iconst (v := 1) hx hb dL_law_720 (by decide) ?_
  refine lv_iadd hx hb dL_law_721 ?_
  refine va_sld hx hb hXs hbl hbA hS (mq_sx (j := 1) (k := k) (by omega) hL).1 dL_law_722 ?_
  refine lv_topi (fun y3 ey3 => ?_)
  obtain rfl : y3 = xs (k + 1) := ey3.trans (congrArg xs (mq_sx (j := 1) (k := k) (by omega) hL).2)
  refine lv_aload_n hx hb dL_law_723 rfl (lv_at hl 1 rfl) ?_
  refine lv_iload hx hb dL_law_724 (lv_at hl 5 rfl) ?_
  refine lv_iconst (v := 2) hx hb dL_law_726 (by decide) ?_
  refine lv_iadd hx hb dL_law_727 ?_
  refine va_sld hx hb hXs hbl hbA hS (mq_sx (j := 2) (k := k) (by omega) hL).1 dL_law_728 ?_
  refine lv_topi (fun y4 ey4 => ?_)
  obtain rfl : y4 = xs (k + 2) := ey4.trans (congrArg xs (mq_sx (j := 2) (k := k) (by omega) hL).2)
  obtain ⟨q5, hc6, h⟩ := mq_cl_go h
  refine zL_X11_holds (a := b) (z := z) (wl := []) (wr := (wd_C a cI cL cB cZ z qh.2.1 ++ mq_oo o cL (qh.2.2))) C hcs1 zt_m_L_109 ⟨Nat.le_of_ble_eq_true rfl, Nat.le_of_ble_eq_true rfl⟩ hc6 (by rw [List.nil_append]; exact hP) (by rw [List.nil_append]; exact hD) hS hl.1 (Nat.le_of_ble_eq_true rfl) dL_law_729 (fun H locs hP hD hS => ?_)
  obtain ⟨S7, eS7⟩ : ∃ y, y = q5.2 := ⟨_, rfl⟩
  rw [← eS7] at hP hD h
  have hP : va_P D vwCl (wd_R b cI cL cB cZ z S7 ++ (wd_C a cI cL cB cZ z qh.2.1 ++ mq_oo o cL (qh.2.2))) H := hP
  have hD : va_D (fun q => s.heap.size ≤ q) (wd_R b cI cL cB cZ z S7 ++ (wd_C a cI cL cB cZ z qh.2.1 ++ mq_oo o cL (qh.2.2))) := hD
  refine lv_istore (lv' := [(6, .int q5.1), (5, .int qh.1), (0, .ref sb), (1, .ref (a 0)), (2, .ref (b 0)), (3, .ref o), (4, .int (nI k))]) hx hb dL_law_732 hl (by decide) rfl (fun ls hl => ?_)
  refine lv_goto (tgt := 818) hx hb dL_law_734 (by decide) ?_
  cases h
  exact kk H locs ls (lv_sub hl [2, 3, 4, 5, 6] rfl) hP hD hS
def zf_law_19 (N : Nat) (z : Nat → Nat) (x1 x2 x3 x4 x5 : Int32) (SC SR : mq_St) (f : Nat → Int64) : Option (mq_St × mq_St × (Nat → Int64)) := match zf_L_world N z x1 x2 SC f with
  | none => none
  | some q => mq_cl (zf_X11_world N z x1 x2 SR) (fun _ SR1 => some (q.2.1, SR1, q.2.2))
theorem zt_m_L_110 : Cond.methodLink RL 110 yL_world ∈ mq_T := mq_T_mem (mq_t5 (List.mem_of_getElem? (i := 116) rfl)) rfl
theorem zt_L_world_c : zc_L_world ∈ mq_T := mq_T_mem (mq_t5 (List.mem_of_getElem? (i := 118) rfl)) rfl
theorem zt_L_world_s : Cond.static yL_world ∈ mq_T := mq_T_mem (mq_t5 (List.mem_of_getElem? (i := 117) rfl)) rfl
theorem zt_m_L_112 : Cond.methodLink RL 112 yX11_world ∈ mq_T := mq_T_mem (mq_t7 (List.mem_of_getElem? (i := 164) rfl)) rfl
set_option maxHeartbeats 4000000 in
set_option maxRecDepth 100000 in
theorem zl_case_19 {p : Program} {l : Launch} {e : Env} {s : State} {m : MethodId} {args : Array Value} {below : List Frame} {meth : Method} {c : Code} {D : va_G} {a b z : Nat → Nat} {cI cL cB cZ : ClassId} {Q : State → Prop} {c1 : Cond} {N L k sb o s1 s2 cells slots : Nat} {xs : Nat → Int32} (C0 : mq_L p s m args c D cI cL cB cZ c1 l sb L xs s1 s2) (hk6 : k + 6 ≤ L) (hcs1 : cells + 1 ≤ room_1.cells ∧ slots + 6 ≤ room_1.slots) (SC SR : mq_St) (f : Nat → Int64) (res : mq_St × mq_St × (Nat → Int64)) (H : Heap) (locs : List Loc) (ls : Array Slot) (h : zf_law_19 N z (xs (k + 1)) (xs (k + 2)) (xs (k + 3)) (xs (k + 4)) (xs (k + 5)) SC SR f = some res) (hl : lv_has ls 7 [(0, .ref sb), (1, .ref (a 0)), (2, .ref (b 0)), (3, .ref o), (4, .int (nI k))]) (hP : va_P D vwCl (wd_R b cI cL cB cZ z SR ++ (wd_C a cI cL cB cZ z SC ++ mq_oo o cL (f))) H) (hD : va_D (fun q => s.heap.size ≤ q) (wd_R b cI cL cB cZ z SR ++ (wd_C a cI cL cB cZ z SC ++ mq_oo o cL (f)))) (hS : va_S (fun q => s.heap.size ≤ q) s.heap H locs) (kk : ∀ (H : Heap) (locs : List Loc) (ls : Array Slot), lv_has ls 7 [(0, .ref sb), (1, .ref (a 0)), (2, .ref (b 0)), (3, .ref o), (4, .int (nI k))] → va_P D vwCl (wd_R b cI cL cB cZ z res.2.1 ++ (wd_C a cI cL cB cZ z res.1 ++ mq_oo o cL (res.2.2))) H → va_D (fun q => s.heap.size ≤ q) (wd_R b cI cL cB cZ z res.2.1 ++ (wd_C a cI cL cB cZ z res.1 ++ mq_oo o cL (res.2.2))) → va_S (fun q => s.heap.size ≤ q) s.heap H locs → W p l e room_1 s m args below meth c H locs (cells + 1) (slots + 6) Q (F0 m 818 ls [])) : W p l e room_1 s m args below meth c H locs cells slots Q (F0 m 737 ls []) := by
  obtain ⟨C, hst, hXs, hbl, hL, hXX⟩ := C0
  obtain ⟨hx, hb, hml, hown, hts, hK, hA⟩ := id C
  have hbA : ¬ (fun q : Nat => s.heap.size ≤ q) sb := Nat.not_le.mpr hbl
  have hcs : cells ≤ room_1.cells ∧ slots ≤ room_1.slots := ⟨Nat.le_trans (Nat.le_add_right _ _) hcs1.1, Nat.le_trans (Nat.le_add_right _ _) hcs1.2⟩
  unfold zf_law_19 at h
  refine lv_aload_n hx hb dL_law_737 rfl (lv_at hl 1 rfl) ?_
  refine lv_aload_n hx hb dL_law_738 rfl (lv_at hl 0 rfl) ?_
  refine lv_iload hx hb dL_law_739 (lv_at hl 4 rfl) ?_
  refine lv_iconst (v := 1) hx hb dL_law_741 (by decide) ?_
  refine lv_iadd hx hb dL_law_742 ?_
  refine va_sld hx hb hXs hbl hbA hS (mq_sx (j := 1) (k := k) (by omega) hL).1 dL_law_743 ?_
  refine lv_topi (fun y1 ey1 => ?_)
  obtain rfl : y1 = xs (k + 1) := ey1.trans (congrArg xs (mq_sx (j := 1) (k := k) (by omega) hL).2)
  refine lv_aload_n hx hb dL_law_744 rfl (lv_at hl 0 rfl) ?_
  refine lv_iload hx hb dL_law_745 (lv_at hl 4 rfl) ?_
  refine lv_iconst (v := 2) hx hb dL_law_747 (by decide) ?_
  refine lv_iadd hx hb dL_law_748 ?_
  refine va_sld hx hb hXs hbl hbA hS (mq_sx (j := 2) (k := k) (by omega) hL).1 dL_law_749 ?_
  refine lv_topi (fun y2 ey2 => ?_)
  obtain rfl : y2 = xs (k + 2) := ey2.trans (congrArg xs (mq_sx (j := 2) (k := k) (by omega) hL).2)
  refine lv_aload_n hx hb dL_law_750 rfl (lv_at hl 3 rfl) ?_
  cases hch : zf_L_world N z (xs (k + 1)) (xs (k + 2)) SC f with
  | none => rw [hch] at h; cases h
  | some qh =>
  rw [hch] at h
  replace h : mq_cl (zf_X11_world N z (xs (k + 1)) (xs (k + 2)) SR) (fun _ SR1 => some (qh.2.1, SR1, qh.2.2)) = some res := h
  have hP' : va_P D vwCl (wd_R b cI cL cB cZ z SR ++ ((wd_C a cI cL cB cZ z SC ++ mq_oo o cL (f)) ++ [])) H := by rw [List.append_nil]; exact hP
  have hD' : va_D (fun q => s.heap.size ≤ q) (wd_R b cI cL cB cZ z SR ++ ((wd_C a cI cL cB cZ z SC ++ mq_oo o cL (f)) ++ [])) := by rw [List.append_nil]; exact hD
  have hPc := mq_midP hP'
  have hDc := mq_midD hD'
  have hFc := mq_freeI hDc hS hA
  refine va_calli (vx_runSW (As := [.ref (a 0), .int (xs (k + 1)), .int (xs (k + 2)), .ref o]) (rest := []) ⟨hx, hb, hml, hown, hts⟩ (zm_L_world l hst D a z cI cL cB cZ H.size N s1 s2 o (xs (k + 1)) (xs (k + 2)) SC f qh hch) (vx_cwSW 4 hts (mq_goodL (mq_wsS zt_m_L_110 zt_L_world_s zt_ini_L zt_L_world_c)) rfl rfl rfl (by decide +kernel) ⟨Nat.le_of_ble_eq_true rfl, Nat.le_of_ble_eq_true rfl⟩) ⟨fun a U g mk q => ⟨q.1, q.2.1, q.2.2.1, va_K.moved (u := U) (U := U.calling g mk a) (Vm.Alike.refl U.vm) q.2.2.2.1, q.2.2.2.2.1, mq_X_same (u := U) (U := U.calling g mk a) rfl rfl q.2.2.2.2.2⟩, fun U hU hW => ⟨rfl, by rw [hU], by rw [hU]; exact hPc, va_K.moved hW.alike hK, hDc.weaken (fun _ _ _ _ => trivial), mq_X_at (locs := locs) hW (by rw [hU]; exact hS) hFc hXX⟩⟩ rfl rfl hl.1 rfl (lv_room (Nat.le_of_ble_eq_true rfl)) dL_law_751 hcs1) hS (fun q _ h => hFc q h) hFc (fun r u t H1 locs ht hvm hw hB hz1 hk1 hS => ?_)
  obtain ⟨rfl, rfl⟩ := hw
  obtain ⟨hP1, hK1, hD1⟩ := hB
  rw [ht] at hP1
  obtain ⟨hP, hD⟩ := mq_midJ (w1 := (wd_C a cI cL cB cZ z qh.2.1 ++ mq_oo o cL (qh.2.2))) hP' hD' rfl hk1 hP1
  rw [List.append_nil] at hP hD
  generalize H1 = H at hP hS ⊢
  have hP : va_P D vwCl (wd_R b cI cL cB cZ z SR ++ (wd_C a cI cL cB cZ z qh.2.1 ++ mq_oo o cL (qh.2.2))) H := hP
  have hD : va_D (fun q => s.heap.size ≤ q) (wd_R b cI cL cB cZ z SR ++ (wd_C a cI cL cB cZ z qh.2.1 ++ mq_oo o cL (qh.2.2))) := hD
  refine lv_istore (lv' := [(5, .int qh.1), (0, .ref sb), (1, .ref (a 0)), (2, .ref (b 0)), (3, .ref o), (4, .int (nI k))]) hx hb dL_law_754 hl (by decide) rfl (fun ls hl => ?_)
  refine lv_aload_n hx hb dL_law_756 rfl (lv_at hl 3 rfl) ?_
  refine lv_aload_n hx hb dL_law_757 rfl (lv_at hl 1 rfl) ?_
  refine lv_iload hx hb dL_law_758 (lv_at hl 5 rfl) ?_
  refine lv_iconst (v := 1) hx hb dL_law_760 (by decide) ?_
  refine lv_iadd hx hb dL_law_761 ?_
  refine va_sld hx hb hXs hbl hbA hS (mq_sx (j := 1) (k := k) (by omega) hL).1 dL_law_762 ?_
  refine lv_topi (fun y3 ey3 => ?_)
  obtain rfl : y3 = xs (k + 1) := ey3.trans (congrArg xs (mq_sx (j := 1) (k := k) (by omega) hL).2)
  refine lv_aload_n hx hb dL_law_763 rfl (lv_at hl 1 rfl) ?_
  refine lv_iload hx hb dL_law_764 (lv_at hl 5 rfl) ?_
  refine lv_iconst (v := 2) hx hb dL_law_766 (by decide) ?_
  refine lv_iadd hx hb dL_law_767 ?_
  refine va_sld hx hb hXs hbl hbA hS (mq_sx (j := 2) (k := k) (by omega) hL).1 dL_law_768 ?_
  refine lv_topi (fun y4 ey4 => ?_)
  obtain rfl : y4 = xs (k + 2) := ey4.trans (congrArg xs (mq_sx (j := 2) (k := k) (by omega) hL).2)
  obtain ⟨q5, hc6, h⟩ := mq_cl_go h
  refine zL_X11_world (a := b) (z := z) (wl := []) (wr := (wd_C a cI cL cB cZ z qh.2.1 ++ mq_oo o cL (qh.2.2))) C hcs1 zt_m_L_112 ⟨Nat.le_of_ble_eq_true rfl, Nat.le_of_ble_eq_true rfl⟩ hc6 (by rw [List.nil_append]; exact hP) (by rw [List.nil_append]; exact hD) hS hl.1 (Nat.le_of_ble_eq_true rfl) dL_law_769 (fun H locs hP hD hS => ?_)
  obtain ⟨S7, eS7⟩ : ∃ y, y = q5.2 := ⟨_, rfl⟩
  rw [← eS7] at hP hD h
  have hP : va_P D vwCl (wd_R b cI cL cB cZ z S7 ++ (wd_C a cI cL cB cZ z qh.2.1 ++ mq_oo o cL (qh.2.2))) H := hP
  have hD : va_D (fun q => s.heap.size ≤ q) (wd_R b cI cL cB cZ z S7 ++ (wd_C a cI cL cB cZ z qh.2.1 ++ mq_oo o cL (qh.2.2))) := hD
  refine lv_istore (lv' := [(6, .int q5.1), (5, .int qh.1), (0, .ref sb), (1, .ref (a 0)), (2, .ref (b 0)), (3, .ref o), (4, .int (nI k))]) hx hb dL_law_772 hl (by decide) rfl (fun ls hl => ?_)
  refine lv_goto (tgt := 818) hx hb dL_law_774 (by decide) ?_
  cases h
  exact kk H locs ls (lv_sub hl [2, 3, 4, 5, 6] rfl) hP hD hS
def zf_law_20 (N : Nat) (z : Nat → Nat) (x1 x2 x3 x4 x5 : Int32) (SC SR : mq_St) (f : Nat → Int64) : Option (mq_St × mq_St × (Nat → Int64)) := mq_cl (zf_X10_fold N z SC) (fun r SC1 => mq_cl (zf_X11_fold N z SR) (fun q SR1 => (if r = q then some (SC1, SR1, f) else none)))
theorem zt_m_L_113 : Cond.methodLink RL 113 yX10_fold ∈ mq_T := mq_T_mem (mq_t4 (List.mem_of_getElem? (i := 223) rfl)) rfl
theorem zt_m_L_116 : Cond.methodLink RL 116 yX11_fold ∈ mq_T := mq_T_mem (mq_t7 (List.mem_of_getElem? (i := 172) rfl)) rfl
set_option maxHeartbeats 4000000 in
set_option maxRecDepth 100000 in
theorem zl_case_20 {p : Program} {l : Launch} {e : Env} {s : State} {m : MethodId} {args : Array Value} {below : List Frame} {meth : Method} {c : Code} {D : va_G} {a b z : Nat → Nat} {cI cL cB cZ : ClassId} {Q : State → Prop} {c1 : Cond} {N L k sb o s1 s2 cells slots : Nat} {xs : Nat → Int32} (C0 : mq_L p s m args c D cI cL cB cZ c1 l sb L xs s1 s2) (hk6 : k + 6 ≤ L) (hcs1 : cells + 1 ≤ room_1.cells ∧ slots + 6 ≤ room_1.slots) (SC SR : mq_St) (f : Nat → Int64) (res : mq_St × mq_St × (Nat → Int64)) (H : Heap) (locs : List Loc) (ls : Array Slot) (h : zf_law_20 N z (xs (k + 1)) (xs (k + 2)) (xs (k + 3)) (xs (k + 4)) (xs (k + 5)) SC SR f = some res) (hl : lv_has ls 7 [(0, .ref sb), (1, .ref (a 0)), (2, .ref (b 0)), (3, .ref o), (4, .int (nI k))]) (hP : va_P D vwCl (wd_R b cI cL cB cZ z SR ++ (wd_C a cI cL cB cZ z SC ++ mq_oo o cL (f))) H) (hD : va_D (fun q => s.heap.size ≤ q) (wd_R b cI cL cB cZ z SR ++ (wd_C a cI cL cB cZ z SC ++ mq_oo o cL (f)))) (hS : va_S (fun q => s.heap.size ≤ q) s.heap H locs) (kk : ∀ (H : Heap) (locs : List Loc) (ls : Array Slot), lv_has ls 7 [(0, .ref sb), (1, .ref (a 0)), (2, .ref (b 0)), (3, .ref o), (4, .int (nI k))] → va_P D vwCl (wd_R b cI cL cB cZ z res.2.1 ++ (wd_C a cI cL cB cZ z res.1 ++ mq_oo o cL (res.2.2))) H → va_D (fun q => s.heap.size ≤ q) (wd_R b cI cL cB cZ z res.2.1 ++ (wd_C a cI cL cB cZ z res.1 ++ mq_oo o cL (res.2.2))) → va_S (fun q => s.heap.size ≤ q) s.heap H locs → W p l e room_1 s m args below meth c H locs (cells + 1) (slots + 6) Q (F0 m 818 ls [])) : W p l e room_1 s m args below meth c H locs cells slots Q (F0 m 777 ls []) := by
  obtain ⟨C, hst, hXs, hbl, hL, hXX⟩ := C0
  obtain ⟨hx, hb, hml, hown, hts, hK, hA⟩ := id C
  have hbA : ¬ (fun q : Nat => s.heap.size ≤ q) sb := Nat.not_le.mpr hbl
  have hcs : cells ≤ room_1.cells ∧ slots ≤ room_1.slots := ⟨Nat.le_trans (Nat.le_add_right _ _) hcs1.1, Nat.le_trans (Nat.le_add_right _ _) hcs1.2⟩
  unfold zf_law_20 at h
  refine lv_aload_n hx hb dL_law_777 rfl (lv_at hl 1 rfl) ?_
  obtain ⟨q1, hc2, h⟩ := mq_cl_go h
  refine zL_X10_fold (a := a) (z := z) (wl := wd_R b cI cL cB cZ z SR) (wr := mq_oo o cL (f)) C hcs zt_m_L_113 ⟨Nat.le_of_ble_eq_true rfl, Nat.le_of_ble_eq_true rfl⟩ hc2 hP hD hS hl.1 (Nat.le_of_ble_eq_true rfl) dL_law_778 (fun H locs hP hD hS => ?_)
  obtain ⟨S3, eS3⟩ : ∃ y, y = q1.2 := ⟨_, rfl⟩
  rw [← eS3] at hP hD h
  have hP : va_P D vwCl (wd_R b cI cL cB cZ z SR ++ (wd_C a cI cL cB cZ z S3 ++ mq_oo o cL (f))) H := hP
  have hD : va_D (fun q => s.heap.size ≤ q) (wd_R b cI cL cB cZ z SR ++ (wd_C a cI cL cB cZ z S3 ++ mq_oo o cL (f))) := hD
  refine lv_aload_n hx hb dL_law_781 rfl (lv_at hl 2 rfl) ?_
  obtain ⟨q4, hc5, h⟩ := mq_cl_go h
  refine zL_X11_fold (a := b) (z := z) (wl := []) (wr := (wd_C a cI cL cB cZ z S3 ++ mq_oo o cL (f))) C hcs zt_m_L_116 ⟨Nat.le_of_ble_eq_true rfl, Nat.le_of_ble_eq_true rfl⟩ hc5 (by rw [List.nil_append]; exact hP) (by rw [List.nil_append]; exact hD) hS hl.1 (Nat.le_of_ble_eq_true rfl) dL_law_782 (fun H locs hP hD hS => ?_)
  obtain ⟨S6, eS6⟩ : ∃ y, y = q4.2 := ⟨_, rfl⟩
  rw [← eS6] at hP hD h
  have hP : va_P D vwCl (wd_R b cI cL cB cZ z S6 ++ (wd_C a cI cL cB cZ z S3 ++ mq_oo o cL (f))) H := hP
  have hD : va_D (fun q => s.heap.size ≤ q) (wd_R b cI cL cB cZ z S6 ++ (wd_C a cI cL cB cZ z S3 ++ mq_oo o cL (f))) := hD
  refine lv_icmp_eq (tgt := 818) hx hb dL_law_785 (by decide) (fun c7 => ?_) (fun c7 => ?_)
  · rw [if_pos c7] at h
    refine W.widen (k := cells + 1) (n := slots + 6) (Nat.le_add_right _ _) (Nat.le_add_right _ _) ?_
    cases h
    exact kk H locs ls (lv_sub hl [0, 1, 2, 3, 4] rfl) hP hD hS
  · rw [if_neg c7] at h
    cases h
def zf_law_21 (N : Nat) (z : Nat → Nat) (x1 x2 x3 x4 x5 : Int32) (SC SR : mq_St) (f : Nat → Int64) : Option (mq_St × mq_St × (Nat → Int64)) := match zf_L_cut N z x1 SC f with
  | none => none
  | some q => mq_cl (zf_X11_cut N z x1 SR) (fun _ SR1 => some (q.2.1, SR1, q.2.2))
theorem zt_m_L_117 : Cond.methodLink RL 117 yL_cut ∈ mq_T := mq_T_mem (mq_t5 (List.mem_of_getElem? (i := 148) rfl)) rfl
theorem zt_L_cut_c : zc_L_cut ∈ mq_T := mq_T_mem (mq_t5 (List.mem_of_getElem? (i := 150) rfl)) rfl
theorem zt_L_cut_s : Cond.static yL_cut ∈ mq_T := mq_T_mem (mq_t5 (List.mem_of_getElem? (i := 149) rfl)) rfl
theorem zt_m_L_120 : Cond.methodLink RL 120 yX11_cut ∈ mq_T := mq_T_mem (mq_t7 (List.mem_of_getElem? (i := 192) rfl)) rfl
set_option maxHeartbeats 4000000 in
set_option maxRecDepth 100000 in
theorem zl_case_21 {p : Program} {l : Launch} {e : Env} {s : State} {m : MethodId} {args : Array Value} {below : List Frame} {meth : Method} {c : Code} {D : va_G} {a b z : Nat → Nat} {cI cL cB cZ : ClassId} {Q : State → Prop} {c1 : Cond} {N L k sb o s1 s2 cells slots : Nat} {xs : Nat → Int32} (C0 : mq_L p s m args c D cI cL cB cZ c1 l sb L xs s1 s2) (hk6 : k + 6 ≤ L) (hcs1 : cells + 1 ≤ room_1.cells ∧ slots + 6 ≤ room_1.slots) (SC SR : mq_St) (f : Nat → Int64) (res : mq_St × mq_St × (Nat → Int64)) (H : Heap) (locs : List Loc) (ls : Array Slot) (h : zf_law_21 N z (xs (k + 1)) (xs (k + 2)) (xs (k + 3)) (xs (k + 4)) (xs (k + 5)) SC SR f = some res) (hl : lv_has ls 7 [(0, .ref sb), (1, .ref (a 0)), (2, .ref (b 0)), (3, .ref o), (4, .int (nI k))]) (hP : va_P D vwCl (wd_R b cI cL cB cZ z SR ++ (wd_C a cI cL cB cZ z SC ++ mq_oo o cL (f))) H) (hD : va_D (fun q => s.heap.size ≤ q) (wd_R b cI cL cB cZ z SR ++ (wd_C a cI cL cB cZ z SC ++ mq_oo o cL (f)))) (hS : va_S (fun q => s.heap.size ≤ q) s.heap H locs) (kk : ∀ (H : Heap) (locs : List Loc) (ls : Array Slot), lv_has ls 7 [(0, .ref sb), (1, .ref (a 0)), (2, .ref (b 0)), (3, .ref o), (4, .int (nI k))] → va_P D vwCl (wd_R b cI cL cB cZ z res.2.1 ++ (wd_C a cI cL cB cZ z res.1 ++ mq_oo o cL (res.2.2))) H → va_D (fun q => s.heap.size ≤ q) (wd_R b cI cL cB cZ z res.2.1 ++ (wd_C a cI cL cB cZ z res.1 ++ mq_oo o cL (res.2.2))) → va_S (fun q => s.heap.size ≤ q) s.heap H locs → W p l e room_1 s m args below meth c H locs (cells + 1) (slots + 6) Q (F0 m 818 ls [])) : W p l e room_1 s m args below meth c H locs cells slots Q (F0 m 790 ls []) := by
  obtain ⟨C, hst, hXs, hbl, hL, hXX⟩ := C0
  obtain ⟨hx, hb, hml, hown, hts, hK, hA⟩ := id C
  have hbA : ¬ (fun q : Nat => s.heap.size ≤ q) sb := Nat.not_le.mpr hbl
  have hcs : cells ≤ room_1.cells ∧ slots ≤ room_1.slots := ⟨Nat.le_trans (Nat.le_add_right _ _) hcs1.1, Nat.le_trans (Nat.le_add_right _ _) hcs1.2⟩
  unfold zf_law_21 at h
  refine lv_aload_n hx hb dL_law_790 rfl (lv_at hl 1 rfl) ?_
  refine lv_aload_n hx hb dL_law_791 rfl (lv_at hl 0 rfl) ?_
  refine lv_iload hx hb dL_law_792 (lv_at hl 4 rfl) ?_
  refine lv_iconst (v := 1) hx hb dL_law_794 (by decide) ?_
  refine lv_iadd hx hb dL_law_795 ?_
  refine va_sld hx hb hXs hbl hbA hS (mq_sx (j := 1) (k := k) (by omega) hL).1 dL_law_796 ?_
  refine lv_topi (fun y1 ey1 => ?_)
  obtain rfl : y1 = xs (k + 1) := ey1.trans (congrArg xs (mq_sx (j := 1) (k := k) (by omega) hL).2)
  refine lv_aload_n hx hb dL_law_797 rfl (lv_at hl 3 rfl) ?_
  cases hch : zf_L_cut N z (xs (k + 1)) SC f with
  | none => rw [hch] at h; cases h
  | some qh =>
  rw [hch] at h
  replace h : mq_cl (zf_X11_cut N z (xs (k + 1)) SR) (fun _ SR1 => some (qh.2.1, SR1, qh.2.2)) = some res := h
  have hP' : va_P D vwCl (wd_R b cI cL cB cZ z SR ++ ((wd_C a cI cL cB cZ z SC ++ mq_oo o cL (f)) ++ [])) H := by rw [List.append_nil]; exact hP
  have hD' : va_D (fun q => s.heap.size ≤ q) (wd_R b cI cL cB cZ z SR ++ ((wd_C a cI cL cB cZ z SC ++ mq_oo o cL (f)) ++ [])) := by rw [List.append_nil]; exact hD
  have hPc := mq_midP hP'
  have hDc := mq_midD hD'
  have hFc := mq_freeI hDc hS hA
  refine va_calli (vx_runSW (As := [.ref (a 0), .int (xs (k + 1)), .ref o]) (rest := []) ⟨hx, hb, hml, hown, hts⟩ (zm_L_cut l hst D a z cI cL cB cZ H.size N s1 s2 o (xs (k + 1)) SC f qh hch) (vx_cwSW 3 hts (mq_goodL (mq_wsS zt_m_L_117 zt_L_cut_s zt_ini_L zt_L_cut_c)) rfl rfl rfl (by decide +kernel) ⟨Nat.le_of_ble_eq_true rfl, Nat.le_of_ble_eq_true rfl⟩) ⟨fun a U g mk q => ⟨q.1, q.2.1, q.2.2.1, va_K.moved (u := U) (U := U.calling g mk a) (Vm.Alike.refl U.vm) q.2.2.2.1, q.2.2.2.2.1, mq_X_same (u := U) (U := U.calling g mk a) rfl rfl q.2.2.2.2.2⟩, fun U hU hW => ⟨rfl, by rw [hU], by rw [hU]; exact hPc, va_K.moved hW.alike hK, hDc.weaken (fun _ _ _ _ => trivial), mq_X_at (locs := locs) hW (by rw [hU]; exact hS) hFc hXX⟩⟩ rfl rfl hl.1 rfl (lv_room (Nat.le_of_ble_eq_true rfl)) dL_law_798 hcs1) hS (fun q _ h => hFc q h) hFc (fun r u t H1 locs ht hvm hw hB hz1 hk1 hS => ?_)
  obtain ⟨rfl, rfl⟩ := hw
  obtain ⟨hP1, hK1, hD1⟩ := hB
  rw [ht] at hP1
  obtain ⟨hP, hD⟩ := mq_midJ (w1 := (wd_C a cI cL cB cZ z qh.2.1 ++ mq_oo o cL (qh.2.2))) hP' hD' rfl hk1 hP1
  rw [List.append_nil] at hP hD
  generalize H1 = H at hP hS ⊢
  have hP : va_P D vwCl (wd_R b cI cL cB cZ z SR ++ (wd_C a cI cL cB cZ z qh.2.1 ++ mq_oo o cL (qh.2.2))) H := hP
  have hD : va_D (fun q => s.heap.size ≤ q) (wd_R b cI cL cB cZ z SR ++ (wd_C a cI cL cB cZ z qh.2.1 ++ mq_oo o cL (qh.2.2))) := hD
  refine lv_istore (lv' := [(5, .int qh.1), (0, .ref sb), (1, .ref (a 0)), (2, .ref (b 0)), (3, .ref o), (4, .int (nI k))]) hx hb dL_law_801 hl (by decide) rfl (fun ls hl => ?_)
  refine lv_aload_n hx hb dL_law_803 rfl (lv_at hl 3 rfl) ?_
  refine lv_aload_n hx hb dL_law_804 rfl (lv_at hl 1 rfl) ?_
  refine lv_iload hx hb dL_law_805 (lv_at hl 5 rfl) ?_
  refine lv_iconst (v := 1) hx hb dL_law_807 (by decide) ?_
  refine lv_iadd hx hb dL_law_808 ?_
  refine va_sld hx hb hXs hbl hbA hS (mq_sx (j := 1) (k := k) (by omega) hL).1 dL_law_809 ?_
  refine lv_topi (fun y2 ey2 => ?_)
  obtain rfl : y2 = xs (k + 1) := ey2.trans (congrArg xs (mq_sx (j := 1) (k := k) (by omega) hL).2)
  obtain ⟨q3, hc4, h⟩ := mq_cl_go h
  refine zL_X11_cut (a := b) (z := z) (wl := []) (wr := (wd_C a cI cL cB cZ z qh.2.1 ++ mq_oo o cL (qh.2.2))) C hcs1 zt_m_L_120 ⟨Nat.le_of_ble_eq_true rfl, Nat.le_of_ble_eq_true rfl⟩ hc4 (by rw [List.nil_append]; exact hP) (by rw [List.nil_append]; exact hD) hS hl.1 (Nat.le_of_ble_eq_true rfl) dL_law_810 (fun H locs hP hD hS => ?_)
  obtain ⟨S5, eS5⟩ : ∃ y, y = q3.2 := ⟨_, rfl⟩
  rw [← eS5] at hP hD h
  have hP : va_P D vwCl (wd_R b cI cL cB cZ z S5 ++ (wd_C a cI cL cB cZ z qh.2.1 ++ mq_oo o cL (qh.2.2))) H := hP
  have hD : va_D (fun q => s.heap.size ≤ q) (wd_R b cI cL cB cZ z S5 ++ (wd_C a cI cL cB cZ z qh.2.1 ++ mq_oo o cL (qh.2.2))) := hD
  refine lv_istore (lv' := [(6, .int q3.1), (5, .int qh.1), (0, .ref sb), (1, .ref (a 0)), (2, .ref (b 0)), (3, .ref o), (4, .int (nI k))]) hx hb dL_law_813 hl (by decide) rfl (fun ls hl => ?_)
  refine lv_goto (tgt := 818) hx hb dL_law_815 (by decide) ?_
  cases h
  exact kk H locs ls (lv_sub hl [2, 3, 4, 5, 6] rfl) hP hD hS
