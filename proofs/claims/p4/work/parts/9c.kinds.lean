/-! The reference's makes(): what each kind asks for. -/
theorem kdR_is {N : Nat} {z : Nat → Nat} {S0 : mq_St} {T : List Tr} {m : Nat} {t : Tr} {wm : Nat} (h : ndM S0 T) (hm : mt T m t) (hw : wm < 3000) : kdR N z T m t wm S0 := by
  have hl := mt_lt hm
  have h3 := h.1
  have hen := h.2.2 (m / 2) _ hm
  have i1 : vp_in (nI (m / 2)) 3000 := vp_in_nI (by omega) (by omega)
  have k1 : (nI (m / 2)).toNatClampNeg = m / 2 := nI_clamp (by omega)
  have tk : ∀ {x : Nat} {u : Tr}, (T.take (m / 2))[x]? = some u → x < m / 2 ∧ mt T (2 * x) u ∧ mt T (2 * x + 1) (du u) := by
    intro x u hx
    have hxl := (List.getElem?_eq_some_iff.mp hx).1
    rw [List.length_take] at hxl
    rw [List.getElem?_take_of_lt (by omega)] at hx
    refine ⟨by omega, ?_, ?_⟩
    · unfold mt; rw [if_pos (by omega), show 2 * x / 2 = x by omega]; exact hx
    · unfold mt; rw [if_neg (by omega), du_du, show (2 * x + 1) / 2 = x by omega]; exact hx
  have iv0 : ∀ x : Nat, isv (2 * x) = 1 := fun x => by unfold isv; rw [if_pos (by omega)]
  have iv1 : ∀ x : Nat, isv (2 * x + 1) = 0 := fun x => by unfold isv; rw [if_neg (by omega)]
  have hv0 : ∀ x : Nat, 2 * x / 2 = x := fun x => by omega
  have hv1 : ∀ x : Nat, (2 * x + 1) / 2 = x := fun x => by omega
  have fl0 : ∀ x : Nat, fl (2 * x) = 2 * x + 1 := fun x => by unfold fl; rw [if_pos (by omega)]
  have fl1 : ∀ x : Nat, fl (2 * x + 1) = 2 * x := fun x => by unfold fl; rw [if_neg (by omega)]; omega
  have mc : ∀ (x : Option (Int32 × mq_St)), mq_cl x (fun v S => some (v, S)) = x := fun x => by cases x <;> rfl
  have d10 : ¬ (1 : Int32) = 0 := by decide
  have G7 : ∀ {S : mq_St}, ag [3, 6, 17] [2, 3, 4, 10, 11, 14] [] S0 S → S.2.1 7 = S0.2.1 7 ∧ S.2.1 8 = S0.2.1 8 ∧ S.2.1 9 = S0.2.1 9 := fun g => ⟨g.2.1 7 (by decide), g.2.1 8 (by decide), g.2.1 9 (by decide)⟩
  have ed : ∀ w : Tr, du t = w → t = du w := fun w q => by rw [← q, du_du]
  have hpar : (m % 2 = 0 ∧ isv m = 1 ∧ (if m % 2 = 0 then t else du t) = t) ∨ (m % 2 = 1 ∧ isv m = 0 ∧ (if m % 2 = 0 then t else du t) = du t) := by
    by_cases q : m % 2 = 0
    · exact Or.inl ⟨q, if_pos q, if_pos q⟩
    · exact Or.inr ⟨by omega, if_neg q, if_neg q⟩
  rcases hpar with ⟨hp, hi, e⟩ | ⟨hp, hi, e⟩
  · rw [e] at hen
    unfold kdR
    rw [hi]
    rcases hen with ⟨hk, q⟩ | ⟨hk, q⟩ | ⟨l, hl1, hk, ha, q⟩ | ⟨x, u, ha, hx, ⟨hk, q⟩ | ⟨hk, q⟩ | ⟨hk, q⟩⟩ | ⟨x, y, u, v, ha, hb, hx, hy, ⟨hk, q⟩ | ⟨hk, q⟩ | ⟨hk, q⟩ | ⟨hk, q⟩⟩
    · refine Or.inl ⟨0, by omega, q, fun S g h17 => ?_⟩
      obtain ⟨g7, g8, g9⟩ := G7 g
      unfold zf_X11_madeOf 
      simp only [mq_ck_of i1, k1, nI_e, g7, g8, g9, hk]
      rw [if_pos trivial, if_neg d10]
      rfl
    · refine Or.inl ⟨1, by omega, q, fun S g h17 => ?_⟩
      obtain ⟨g7, g8, g9⟩ := G7 g
      unfold zf_X11_madeOf 
      simp only [mq_ck_of i1, k1, nI_e, g7, g8, g9, hk]
      rw [if_neg (by decide), if_pos trivial, if_neg d10]
      rfl
    · refine Or.inr (Or.inl ⟨2, nI l, fun L => ?_, fun S g h17 => ?_⟩)
      · rw [q]
        show m1 (nI (2 + 2 * l % 2), nI (2 * l / 2), -1) L = _
        rw [show 2 + 2 * l % 2 = 2 by omega, show 2 * l / 2 = l by omega]
      · obtain ⟨g7, g8, g9⟩ := G7 g
        unfold zf_X11_madeOf zf_X11_madeOf_102
        simp only [mq_ck_of i1, k1, nI_e, g7, g8, g9, hk, ha]
        rw [if_neg (by decide), if_neg (by decide), if_pos trivial, if_neg d10, mc]
        rfl
    · obtain ⟨xl, m0, m1'⟩ := tk hx
      refine Or.inr (Or.inr (Or.inl ⟨2 * x + 1, by rw [q]; exact m1', by omega, fun S g h17 => ?_⟩))
      obtain ⟨g7, g8, g9⟩ := G7 g
      have A := mz_isMade (N := N) (z := z) (S := S) (y := (2 * x + 1)) (by omega) h17 hw
      have B := mz_has (N := N) (z := z) (S := S) (y := (2 * x + 1)) (by omega)
      rw [hv1, iv1] at A B
      unfold zf_X11_madeOf zf_X11_madeOf_119 zf_X11_madeOf_136
      simp only [mq_ck_of i1, k1, nI_e, g7, g8, g9, hk, ha]
      rw [if_neg (by decide), if_neg (by decide), if_neg (by decide), if_pos trivial, if_neg d10, A]
      by_cases c : Dm S (2 * x + 1) = -1
      · rw [if_pos c, if_pos c, mq_cl_s, if_pos rfl]
      · rw [if_neg c, if_neg c, mq_cl_s, if_neg d10, if_neg d10, B, mq_cp_s]
    · obtain ⟨xl, m0, m1'⟩ := tk hx
      refine Or.inr (Or.inr (Or.inr (Or.inl ⟨6, (2 * x), u, m0, by omega, fun L => by rw [q]; rfl, fun S g h17 => ?_⟩)))
      obtain ⟨g7, g8, g9⟩ := G7 g
      have A := mz_isMade (N := N) (z := z) (S := S) (y := (2 * x)) (by omega) h17 hw
      have B := mz_has (N := N) (z := z) (S := S) (y := (2 * x)) (by omega)
      rw [hv0, iv0] at A B
      unfold zf_X11_madeOf zf_X11_madeOf_324
      simp only [mq_ck_of i1, k1, nI_e, g7, g8, g9, hk, ha]
      rw [if_neg (by decide), if_neg (by decide), if_neg (by decide), if_neg (by decide), if_neg (by decide), if_neg (by decide), if_neg (by decide), if_neg (by decide), if_pos trivial, A]
      by_cases c : Dm S (2 * x) = -1
      · rw [if_pos c, if_pos c, mq_cl_s, if_pos rfl]
      · rw [if_neg c, if_neg c, mq_cl_s, if_neg d10, if_neg d10, B, mq_cp_s, mc]
        rfl
    · obtain ⟨xl, m0, m1'⟩ := tk hx
      refine Or.inr (Or.inr (Or.inr (Or.inl ⟨7, (2 * x), u, m0, by omega, fun L => by rw [q]; rfl, fun S g h17 => ?_⟩)))
      obtain ⟨g7, g8, g9⟩ := G7 g
      have A := mz_isMade (N := N) (z := z) (S := S) (y := (2 * x)) (by omega) h17 hw
      have B := mz_has (N := N) (z := z) (S := S) (y := (2 * x)) (by omega)
      rw [hv0, iv0] at A B
      unfold zf_X11_madeOf zf_X11_madeOf_360
      simp only [mq_ck_of i1, k1, nI_e, g7, g8, g9, hk, ha]
      rw [if_neg (by decide), if_neg (by decide), if_neg (by decide), if_neg (by decide), if_neg (by decide), if_neg (by decide), if_neg (by decide), if_neg (by decide), if_neg (by decide), A]
      by_cases c : Dm S (2 * x) = -1
      · rw [if_pos c, if_pos c, mq_cl_s, if_pos rfl]
      · rw [if_neg c, if_neg c, mq_cl_s, if_neg d10, if_neg d10, B, mq_cp_s, mc]
        rfl
    · obtain ⟨xl, mx0, mx1⟩ := tk hx
      obtain ⟨yl, my0, my1⟩ := tk hy
      refine Or.inr (Or.inr (Or.inr (Or.inr (Or.inl ⟨4, (2 * x), (2 * y), u, v, mx0, my0, by omega, by omega, fun L => by rw [q]; rfl, fun S g h17 => ?_⟩))))
      obtain ⟨g7, g8, g9⟩ := G7 g
      have A := mz_pair (N := N) (z := z) (S := S) (s := nI 4) (y := (2 * x)) (w := (2 * y)) (by omega) (by omega) h17 hw
      rw [hv0, iv0, hv0, iv0] at A
      unfold zf_X11_madeOf zf_X11_madeOf_154
      simp only [mq_ck_of i1, k1, nI_e, g7, g8, g9, hk, ha, hb]
      rw [if_neg (by decide), if_neg (by decide), if_neg (by decide), if_neg (by decide), if_pos trivial, if_neg d10, mc, ← A]
      rfl
    · obtain ⟨xl, mx0, mx1⟩ := tk hx
      obtain ⟨yl, my0, my1⟩ := tk hy
      refine Or.inr (Or.inr (Or.inr (Or.inr (Or.inl ⟨5, (2 * x), (2 * y), u, v, mx0, my0, by omega, by omega, fun L => by rw [q]; rfl, fun S g h17 => ?_⟩))))
      obtain ⟨g7, g8, g9⟩ := G7 g
      have A := mz_pair (N := N) (z := z) (S := S) (s := nI 5) (y := (2 * x)) (w := (2 * y)) (by omega) (by omega) h17 hw
      rw [hv0, iv0, hv0, iv0] at A
      unfold zf_X11_madeOf zf_X11_madeOf_173
      simp only [mq_ck_of i1, k1, nI_e, g7, g8, g9, hk, ha, hb]
      rw [if_neg (by decide), if_neg (by decide), if_neg (by decide), if_neg (by decide), if_neg (by decide), if_pos trivial, if_neg d10, mc, ← A]
      rfl
    · obtain ⟨xl, mx0, mx1⟩ := tk hx
      obtain ⟨yl, my0, my1⟩ := tk hy
      refine Or.inr (Or.inr (Or.inr (Or.inr (Or.inl ⟨5, (2 * x + 1), (2 * y), du u, v, mx1, my0, by omega, by omega, fun L => by rw [q]; rfl, fun S g h17 => ?_⟩))))
      obtain ⟨g7, g8, g9⟩ := G7 g
      have A := mz_pair (N := N) (z := z) (S := S) (s := nI 5) (y := (2 * x + 1)) (w := (2 * y)) (by omega) (by omega) h17 hw
      rw [hv1, iv1, hv0, iv0] at A
      unfold zf_X11_madeOf zf_X11_madeOf_192 zf_X11_madeOf_202
      simp only [mq_ck_of i1, k1, nI_e, g7, g8, g9, hk, ha, hb]
      rw [if_neg (by decide), if_neg (by decide), if_neg (by decide), if_neg (by decide), if_neg (by decide), if_neg (by decide), if_pos trivial, if_neg d10, if_neg d10, mc, ← A]
      rfl
    · obtain ⟨xl, mx0, mx1⟩ := tk hx
      obtain ⟨yl, my0, my1⟩ := tk hy
      refine Or.inr (Or.inr (Or.inr (Or.inr (Or.inr ⟨4, 5, (2 * x + 1), (2 * y), du u, v, .sub (du u) v, .sub u (du v), mx1, my0, by omega, by omega, fun L => rfl, fun L => by rw [du_du]; rfl, fun L => by rw [q]; rfl, fun S g h17 => ?_⟩))))
      obtain ⟨g7, g8, g9⟩ := G7 g
      rw [hv1, hv0, fl1, fl0, iv1, iv0, iv0, iv1]
      unfold zf_X11_madeOf zf_X11_madeOf_219 zf_X11_madeOf_229 zf_X11_madeOf_257 zf_X11_madeOf_270 zf_X11_madeOf_273 zf_X11_madeOf_295
      simp only [mq_ck_of i1, k1, nI_e, g7, g8, g9, hk, ha, hb, mc]
      rw [if_neg (by decide), if_neg (by decide), if_neg (by decide), if_neg (by decide), if_neg (by decide), if_neg (by decide), if_neg (by decide), if_pos trivial, if_neg d10, if_neg d10]
      simp only [if_neg d10, ↓reduceIte]
      rfl
  · rw [e] at hen
    unfold kdR
    rw [hi]
    rcases hen with ⟨hk, q⟩ | ⟨hk, q⟩ | ⟨l, hl1, hk, ha, q⟩ | ⟨x, u, ha, hx, ⟨hk, q⟩ | ⟨hk, q⟩ | ⟨hk, q⟩⟩ | ⟨x, y, u, v, ha, hb, hx, hy, ⟨hk, q⟩ | ⟨hk, q⟩ | ⟨hk, q⟩ | ⟨hk, q⟩⟩
    · refine Or.inl ⟨1, by omega, (ed _ q), fun S g h17 => ?_⟩
      obtain ⟨g7, g8, g9⟩ := G7 g
      unfold zf_X11_madeOf 
      simp only [mq_ck_of i1, k1, nI_e, g7, g8, g9, hk]
      rw [if_pos trivial, if_pos trivial]
      rfl
    · refine Or.inl ⟨0, by omega, (ed _ q), fun S g h17 => ?_⟩
      obtain ⟨g7, g8, g9⟩ := G7 g
      unfold zf_X11_madeOf 
      simp only [mq_ck_of i1, k1, nI_e, g7, g8, g9, hk]
      rw [if_neg (by decide), if_pos trivial, if_pos trivial]
      rfl
    · refine Or.inr (Or.inl ⟨3, nI l, fun L => ?_, fun S g h17 => ?_⟩)
      · rw [ed _ q]
        show m1 (nI (2 + fl (2 * l) % 2), nI (fl (2 * l) / 2), -1) L = _
        rw [fl0, show 2 + (2 * l + 1) % 2 = 3 by omega, show (2 * l + 1) / 2 = l by omega]
      · obtain ⟨g7, g8, g9⟩ := G7 g
        unfold zf_X11_madeOf zf_X11_madeOf_102
        simp only [mq_ck_of i1, k1, nI_e, g7, g8, g9, hk, ha]
        rw [if_neg (by decide), if_neg (by decide), if_pos trivial, if_pos trivial, mc]
        rfl
    · obtain ⟨xl, m0, m1'⟩ := tk hx
      refine Or.inr (Or.inr (Or.inl ⟨2 * x, by rw [ed _ q, du_du]; exact m0, by omega, fun S g h17 => ?_⟩))
      obtain ⟨g7, g8, g9⟩ := G7 g
      have A := mz_isMade (N := N) (z := z) (S := S) (y := (2 * x)) (by omega) h17 hw
      have B := mz_has (N := N) (z := z) (S := S) (y := (2 * x)) (by omega)
      rw [hv0, iv0] at A B
      unfold zf_X11_madeOf zf_X11_madeOf_119 zf_X11_madeOf_136
      simp only [mq_ck_of i1, k1, nI_e, g7, g8, g9, hk, ha]
      rw [if_neg (by decide), if_neg (by decide), if_neg (by decide), if_pos trivial, if_pos trivial, A]
      by_cases c : Dm S (2 * x) = -1
      · rw [if_pos c, if_pos c, mq_cl_s, if_pos rfl]
      · rw [if_neg c, if_neg c, mq_cl_s, if_neg d10, if_pos trivial, B, mq_cp_s]
    · obtain ⟨xl, m0, m1'⟩ := tk hx
      refine Or.inr (Or.inr (Or.inr (Or.inl ⟨7, (2 * x + 1), du u, m1', by omega, fun L => by rw [ed _ q]; rfl, fun S g h17 => ?_⟩)))
      obtain ⟨g7, g8, g9⟩ := G7 g
      have A := mz_isMade (N := N) (z := z) (S := S) (y := (2 * x + 1)) (by omega) h17 hw
      have B := mz_has (N := N) (z := z) (S := S) (y := (2 * x + 1)) (by omega)
      rw [hv1, iv1] at A B
      unfold zf_X11_madeOf zf_X11_madeOf_324
      simp only [mq_ck_of i1, k1, nI_e, g7, g8, g9, hk, ha]
      rw [if_neg (by decide), if_neg (by decide), if_neg (by decide), if_neg (by decide), if_neg (by decide), if_neg (by decide), if_neg (by decide), if_neg (by decide), if_pos trivial, A]
      by_cases c : Dm S (2 * x + 1) = -1
      · rw [if_pos c, if_pos c, mq_cl_s, if_pos rfl]
      · rw [if_neg c, if_neg c, mq_cl_s, if_neg d10, if_pos trivial, B, mq_cp_s, mc]
        rfl
    · obtain ⟨xl, m0, m1'⟩ := tk hx
      refine Or.inr (Or.inr (Or.inr (Or.inl ⟨6, (2 * x + 1), du u, m1', by omega, fun L => by rw [ed _ q]; rfl, fun S g h17 => ?_⟩)))
      obtain ⟨g7, g8, g9⟩ := G7 g
      have A := mz_isMade (N := N) (z := z) (S := S) (y := (2 * x + 1)) (by omega) h17 hw
      have B := mz_has (N := N) (z := z) (S := S) (y := (2 * x + 1)) (by omega)
      rw [hv1, iv1] at A B
      unfold zf_X11_madeOf zf_X11_madeOf_360
      simp only [mq_ck_of i1, k1, nI_e, g7, g8, g9, hk, ha]
      rw [if_neg (by decide), if_neg (by decide), if_neg (by decide), if_neg (by decide), if_neg (by decide), if_neg (by decide), if_neg (by decide), if_neg (by decide), if_neg (by decide), A]
      by_cases c : Dm S (2 * x + 1) = -1
      · rw [if_pos c, if_pos c, mq_cl_s, if_pos rfl]
      · rw [if_neg c, if_neg c, mq_cl_s, if_neg d10, if_pos trivial, B, mq_cp_s, mc]
        rfl
    · obtain ⟨xl, mx0, mx1⟩ := tk hx
      obtain ⟨yl, my0, my1⟩ := tk hy
      refine Or.inr (Or.inr (Or.inr (Or.inr (Or.inl ⟨5, (2 * x + 1), (2 * y + 1), du u, du v, mx1, my1, by omega, by omega, fun L => by rw [ed _ q]; rfl, fun S g h17 => ?_⟩))))
      obtain ⟨g7, g8, g9⟩ := G7 g
      have A := mz_pair (N := N) (z := z) (S := S) (s := nI 5) (y := (2 * x + 1)) (w := (2 * y + 1)) (by omega) (by omega) h17 hw
      rw [hv1, iv1, hv1, iv1] at A
      unfold zf_X11_madeOf zf_X11_madeOf_154
      simp only [mq_ck_of i1, k1, nI_e, g7, g8, g9, hk, ha, hb]
      rw [if_neg (by decide), if_neg (by decide), if_neg (by decide), if_neg (by decide), if_pos trivial, if_pos trivial, mc, ← A]
      rfl
    · obtain ⟨xl, mx0, mx1⟩ := tk hx
      obtain ⟨yl, my0, my1⟩ := tk hy
      refine Or.inr (Or.inr (Or.inr (Or.inr (Or.inl ⟨4, (2 * x + 1), (2 * y + 1), du u, du v, mx1, my1, by omega, by omega, fun L => by rw [ed _ q]; rfl, fun S g h17 => ?_⟩))))
      obtain ⟨g7, g8, g9⟩ := G7 g
      have A := mz_pair (N := N) (z := z) (S := S) (s := nI 4) (y := (2 * x + 1)) (w := (2 * y + 1)) (by omega) (by omega) h17 hw
      rw [hv1, iv1, hv1, iv1] at A
      unfold zf_X11_madeOf zf_X11_madeOf_173
      simp only [mq_ck_of i1, k1, nI_e, g7, g8, g9, hk, ha, hb]
      rw [if_neg (by decide), if_neg (by decide), if_neg (by decide), if_neg (by decide), if_neg (by decide), if_pos trivial, if_pos trivial, mc, ← A]
      rfl
    · obtain ⟨xl, mx0, mx1⟩ := tk hx
      obtain ⟨yl, my0, my1⟩ := tk hy
      refine Or.inr (Or.inr (Or.inr (Or.inr (Or.inl ⟨4, (2 * x), (2 * y + 1), u, du v, mx0, my1, by omega, by omega, fun L => by rw [ed _ q, show du (Int.Internal.Linear.Expr.sub (du u) v) = .add u (du v) from by show Int.Internal.Linear.Expr.add _ _ = _; rw [du_du]]; rfl, fun S g h17 => ?_⟩))))
      obtain ⟨g7, g8, g9⟩ := G7 g
      have A := mz_pair (N := N) (z := z) (S := S) (s := nI 4) (y := (2 * x)) (w := (2 * y + 1)) (by omega) (by omega) h17 hw
      rw [hv0, iv0, hv1, iv1] at A
      unfold zf_X11_madeOf zf_X11_madeOf_192 zf_X11_madeOf_202
      simp only [mq_ck_of i1, k1, nI_e, g7, g8, g9, hk, ha, hb]
      rw [if_neg (by decide), if_neg (by decide), if_neg (by decide), if_neg (by decide), if_neg (by decide), if_neg (by decide), if_pos trivial, if_pos trivial, if_pos trivial, mc, ← A]
      rfl
    · obtain ⟨xl, mx0, mx1⟩ := tk hx
      obtain ⟨yl, my0, my1⟩ := tk hy
      refine Or.inr (Or.inr (Or.inr (Or.inr (Or.inr ⟨5, 4, (2 * x), (2 * y + 1), u, du v, .add u (du v), .add (du u) v, mx0, my1, by omega, by omega, fun L => rfl, fun L => by rw [du_du]; rfl, fun L => by rw [ed _ q, show du (Int.Internal.Linear.Expr.add (.sub (du u) v) (.sub u (du v))) = .sub (.add u (du v)) (.add (du u) v) from by show Int.Internal.Linear.Expr.sub (.add (du (du u)) (du v)) (.add (du u) (du (du v))) = _; rw [du_du, du_du]]; rfl, fun S g h17 => ?_⟩))))
      obtain ⟨g7, g8, g9⟩ := G7 g
      rw [hv0, hv1, fl0, fl1, iv0, iv1, iv1, iv0]
      unfold zf_X11_madeOf zf_X11_madeOf_219 zf_X11_madeOf_229 zf_X11_madeOf_257 zf_X11_madeOf_270 zf_X11_madeOf_273 zf_X11_madeOf_295
      simp only [mq_ck_of i1, k1, nI_e, g7, g8, g9, hk, ha, hb, mc]
      rw [if_neg (by decide), if_neg (by decide), if_neg (by decide), if_neg (by decide), if_neg (by decide), if_neg (by decide), if_neg (by decide), if_pos trivial, if_pos trivial, if_pos trivial]
      simp only [eq_self, ↓reduceIte]
      rfl
