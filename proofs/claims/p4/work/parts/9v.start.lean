/-! The tableau: the START of a MAY, and the world that has it already. -/
section START
variable {N n F : Nat} {z : Nat → Nat} {so on tw : Nat → Int32} {d : Nat → Nat} {S SC SR : mq_St} {st W w ec ln wt m f p : Nat} {R : List Nat}
theorem push2 {a b : Nat} {q' : Nat → Int64} (hab : a ≠ b) : mq_push S (mq_sl (mq_pull S [] [] [a, b]) 0 q') [] [] [a, b] = mq_sl S a q' := by
  refine Prod.ext rfl (Prod.ext rfl ?_)
  funext q
  show (match [a, b].idxOf? q with | some j => (mq_sl (mq_pull S [] [] [a, b]) 0 q').2.2 j | none => S.2.2 q) = if q = a then q' else S.2.2 q
  by_cases ea : q = a
  · have : [a, b].idxOf? q = some 0 := by rw [ea]; simp [List.idxOf?, List.findIdx?_cons]
    rw [this, if_pos ea]
    rfl
  · by_cases eb : q = b
    · have : [a, b].idxOf? q = some 1 := by
        rw [eb]
        simp [List.idxOf?, List.findIdx?_cons, hab]
      rw [this, if_neg ea, eb]
      rfl
    · rw [if_neg ea, List.idxOf?_eq_none_iff.mpr (by simp [ea, eb])]
/-- the START: the NEEDS of the SET and one part -/
def sta (n : Nat) (so : Nat → Int32) (X : Nat → Bool) (p g : Nat) : Bool := (X g && decide (g < n ∧ so g = nI 6)) || decide (g = p)
theorem ck_dst (hN : 10 ≤ N) (hc : cxC S n so on tw d) (h15 : S.1 15 = nI W) (h16 : S.1 16 = nI w) (hw : w < 60) (hW : W ≤ 60) (hp : p < 320) :
    ∃ l2, zf_X8_drawStart N z (nI p) S = some ((), mq_sl S 2 l2) ∧ ∀ v g, g < 320 → lb l2 v g = if v = W then sta n so (lb (S.2.2 3) w) p g else lb (S.2.2 2) v g := by
  obtain ⟨q1, a1, a2, a3⟩ := ck_cp (N := N) (S := S) (a := 2) (b := 3) (ra := W) (rb := w) (RA := 61) (RB := 60) (y := fun k => [305, 300].getD k 0) hN (by decide) rfl rfl (by omega) (by omega) (by omega) hw
  obtain ⟨q2, b1, b2⟩ := se_meet (N := N) (R := 61) (R' := 8) (r := W) (r' := 6) (z := fun k => [305, 40].getD k 0) (S := mq_pull (mq_sl S 2 q1) [] [] [2, 0]) hN rfl rfl (by omega) (by omega) (by omega) (by omega)
  obtain ⟨q3, c1, c2⟩ := se_put (N := N) (R := 61) (r := W) (f := p) (z := fun k => [305].getD k 0) (S := mq_pull (mq_sl (mq_sl S 2 q1) 2 q2) [] [] [2]) rfl (by omega) (by omega) hp
  refine ⟨q3, ?_, fun v g hg => ?_⟩
  · unfold zf_X8_drawStart
    rw [h15, h16]
    refine (cl_go a1).trans ?_
    rw [a2, nS_e]
    refine (cp_go (v := ()) rfl).trans ?_
    have y1 : (mq_sl S 2 q1).1 15 = nI W := h15
    rw [y1]
    refine (cl_go b1).trans ?_
    rw [push2 (by decide), nS_e]
    have y2 : (mq_sl (mq_sl S 2 q1) 2 q2).1 15 = nI W := h15
    rw [y2]
    refine (cl_go c1).trans ?_
    rw [push1, nS_e, sl_sl, sl_sl]
  · rw [c2 v g hg]
    show (lb q2 v g || _) = _
    rw [b2 v g hg]
    show ((if v = W then (lb q1 W g && lb (S.2.2 0) 6 g) else lb q1 v g) || _) = _
    by_cases e : v = W
    · rw [if_pos e, if_pos e, a3 W g hg, if_pos rfl, hc.2.2.1 6 g (by omega) hg]
      unfold sta
      simp [e]
    · rw [if_neg e, if_neg e, a3 v g hg, if_neg e]
      simp [e]
theorem rf_pu31 {g : Nat} {α : Type} {k : mq_St → Option α} (hg : g < 320) : ∃ a, mq_cl (zf_X11_put N (fun k => [10].getD k 0) 0 (nI g) (mq_pull S [] [31] [])) (fun _ q => mq_nS (mq_push S q [] [31] []) k) = k (mq_sa S 31 a) ∧ ∀ h, h < 320 → ib a 0 h = (ib (S.2.1 31) 0 h || decide (h = g)) := by
  obtain ⟨a', h1, h2⟩ := ri_put (N := N) (R := 1) (r := 0) (z := fun k => [10].getD k 0) (S := mq_pull S [] [31] []) (f := g) rfl (by omega) (by omega) hg
  refine ⟨a', (cl_go h1).trans ((nS_go ?_).trans rfl), fun h hh => ?_⟩
  · have h0 : ∀ q : Nat, [q].idxOf? q = some 0 := fun q => by simp [List.idxOf?, List.findIdx?_cons]
    refine Prod.ext rfl (Prod.ext ?_ rfl)
    funext q
    show (match [31].idxOf? q with | some j => (mq_sa (mq_pull S [] [31] []) 0 a').2.1 j | none => S.2.1 q) = if q = 31 then a' else S.2.1 q
    by_cases e : q = 31
    · subst e; rw [h0, if_pos rfl]; rfl
    · rw [if_neg e, List.idxOf?_eq_none_iff.mpr (by simpa using e)]
  · rw [h2 0 h hh]
    show (ib (S.2.1 31) 0 h || decide (0 = 0 ∧ h = g)) = _
    congr 1
    rw [decide_eq_decide]
    exact ⟨fun q => q.2, fun q => ⟨rfl, q⟩⟩
theorem mk_37 (hx : cxR S n so on tw d) (hN : 400 ≤ N) : ∀ (fu k : Nat) (b : Nat → Int32), k ≤ n → n - k < fu → ∃ a, zf_X11_makeStart_37 N z fu (nI k) (mq_sa S 31 b) = some ((), mq_sa S 31 a) ∧ ∀ g, g < 320 → ib a 0 g = (ib b 0 g || (ib (S.2.1 17) 0 g && decide (k ≤ g ∧ g < n ∧ so g = nI 6)))
  | 0, k, b, _, h => by omega
  | fu + 1, k, b, hk, hfu => by
    have hfw := hx.2.2.2
    have h300 := hfw.2.1
    have s1 : zf_X11_makeStart_37 N z (fu + 1) (nI k) (mq_sa S 31 b) = zf_X11_makeStart_37b N z (fun v2 S => zf_X11_makeStart_37 N z fu v2 S) (nI k) (mq_sa S 31 b) := rfl
    have h3 : (mq_sa S 31 b).1 3 = nI n := hx.1
    by_cases e : k = n
    · refine ⟨b, ?_, fun g hg => ?_⟩
      · rw [s1]; unfold zf_X11_makeStart_37b
        rw [h3, if_pos (by rw [e]; exact nI_le (Nat.le_refl _) (by omega))]
      · rw [decide_eq_false (by omega), Bool.and_false, Bool.or_false]
    · have hk' : k < n := by omega
      have i1 : vp_in (nI k) 300 := vp_in_nI (by omega) (by omega)
      have c1 : (nI k).toNatClampNeg = k := nI_clamp (by omega)
      have pre : zf_X11_makeStart_37 N z (fu + 1) (nI k) (mq_sa S 31 b) = if so k = 6 then mq_cp (zf_X11_isIn N (fun k => [10].getD k 0) 0 (nI k) (mq_pull (mq_sa S 31 b) [] [17] [])) (fun q12 => if q12 = 0 then zf_X11_makeStart_37 N z fu (nI (k + 1)) (mq_sa S 31 b) else mq_cl (zf_X11_put N (fun k => [10].getD k 0) 0 (nI k) (mq_pull (mq_sa S 31 b) [] [31] [])) (fun _ q => mq_nS (mq_push (mq_sa S 31 b) q [] [31] []) (fun S16 => zf_X11_makeStart_37 N z fu (nI (k + 1)) S16))) else zf_X11_makeStart_37 N z fu (nI (k + 1)) (mq_sa S 31 b) := by
        rw [s1]; unfold zf_X11_makeStart_37b zf_X11_makeStart_77
        rw [h3, if_neg (nI_ge hk' (by omega)), mq_ck_of i1, c1, show (mq_sa S 31 b).2.1 2 k = so k from (hx.2.1 k hk').1, nI_e, nI_1]
        rfl
      have aux : ∀ g b', g < 320 → (∀ a : Nat → Int32, ib a 0 g = (ib b' 0 g || (ib (S.2.1 17) 0 g && decide (k + 1 ≤ g ∧ g < n ∧ so g = nI 6))) → (ib b' 0 g = (ib b 0 g || (decide (g = k) && (ib (S.2.1 17) 0 k && decide (so k = 6))))) → ib a 0 g = (ib b 0 g || (ib (S.2.1 17) 0 g && decide (k ≤ g ∧ g < n ∧ so g = nI 6)))) := fun g b' hg a h1 h2 => by
        rw [h1, h2]
        by_cases eg : g = k
        · subst eg
          by_cases e6 : so g = 6
          · rw [decide_eq_true (rfl : g = g), decide_eq_true e6, decide_eq_false (show ¬ (g + 1 ≤ g ∧ g < n ∧ so g = nI 6) from fun q => by have := q.1; omega), decide_eq_true (show g ≤ g ∧ g < n ∧ so g = nI 6 from ⟨Nat.le_refl _, hk', e6⟩)]
            simp
          · rw [decide_eq_false e6, decide_eq_false (show ¬ (g + 1 ≤ g ∧ g < n ∧ so g = nI 6) from fun q => e6 q.2.2), decide_eq_false (show ¬ (g ≤ g ∧ g < n ∧ so g = nI 6) from fun q => e6 q.2.2)]
            simp
        · rw [decide_eq_false eg, Bool.false_and, Bool.or_false]
          congr 2
          rw [decide_eq_decide]
          exact ⟨fun q => ⟨by have := q.1; omega, q.2⟩, fun q => ⟨by have := q.1; omega, q.2⟩⟩
      by_cases e6 : so k = 6
      · cases h17 : ib (S.2.1 17) 0 k with
        | true =>
          obtain ⟨b', g1, g2⟩ := rf_pu31 (N := N) (S := mq_sa S 31 b) (g := k) (k := fun S16 => zf_X11_makeStart_37 N z fu (nI (k + 1)) S16) (by omega)
          obtain ⟨a, f1, f2⟩ := mk_37 hx hN fu (k + 1) b' (by omega) (by omega)
          refine ⟨a, ?_, fun g hg => aux g b' hg a (f2 g hg) ?_⟩
          · rw [pre, if_pos e6]
            refine (cp_go (rs_now (N := N) (S := mq_sa S 31 b) (show k < 320 by omega))).trans ?_
            rw [show ib ((mq_sa S 31 b).2.1 17) 0 k = true from h17, if_pos rfl, if_neg (by decide)]
            refine g1.trans ?_
            rw [sa_sa]; exact f1
          · rw [g2 g hg, h17, e6]
            show (ib b 0 g || _) = _
            simp
        | false =>
          obtain ⟨a, f1, f2⟩ := mk_37 hx hN fu (k + 1) b (by omega) (by omega)
          refine ⟨a, ?_, fun g hg => aux g b hg a (f2 g hg) (by rw [h17]; simp)⟩
          rw [pre, if_pos e6]
          refine (cp_go (rs_now (N := N) (S := mq_sa S 31 b) (show k < 320 by omega))).trans ?_
          rw [show ib ((mq_sa S 31 b).2.1 17) 0 k = false from h17]
          exact (if_pos (by decide)).trans f1
      · obtain ⟨a, f1, f2⟩ := mk_37 hx hN fu (k + 1) b (by omega) (by omega)
        refine ⟨a, ?_, fun g hg => aux g b hg a (f2 g hg) (by rw [decide_eq_false e6]; simp)⟩
        rw [pre, if_neg e6]; exact f1
theorem mk_2 {α : Type} {k0 : Int32 → mq_St → Option α} (S : mq_St) (G : Nat → Int32 → mq_St → Option α) (hG : ∀ fu v (b : Nat → Int32), v < 10 → G (fu + 1) (nI v) (mq_sa S 31 b) = G fu (nI (v + 1)) (mq_sa S 31 (upd b v 0))) : ∀ (fu v : Nat) (b : Nat → Int32), v ≤ 10 → 10 - v < fu → (∀ i, i < v → b i = 0) → ∃ b' fu', fu + v = fu' + 10 + 1 ∧ G fu (nI v) (mq_sa S 31 b) = G (fu' + 1) (nI 10) (mq_sa S 31 b') ∧ ∀ i, i < 10 → b' i = 0
  | 0, v, b, _, h, _ => by omega
  | fu + 1, v, b, hv, hfu, hb => by
    by_cases e : v = 10
    · exact ⟨b, fu, by omega, by rw [e], fun i hi => hb i (by omega)⟩
    · obtain ⟨b', fu', g1, g2, g3⟩ := mk_2 (k0 := k0) S G hG fu (v + 1) (upd b v 0) (by omega) (by omega) (fun i hi => by
        by_cases q : i = v
        · rw [q, up_s]
        · rw [up_o q]; exact hb i (by omega))
      exact ⟨b', fu', by omega, (hG fu v b (by omega)).trans g2, g3⟩
theorem ib_0 {a : Nat → Int32} (h : ∀ i, i < 10 → a i = 0) {g : Nat} (hg : g < 320) : ib a 0 g = false := by
  unfold ib
  rw [h (10 * 0 + g / 32) (by omega)]
  exact BitVec.getLsbD_zero
theorem rf_mks (hx : cxR S n so on tw d) (hN : 400 ≤ N) (hf : f < n) (hs : so f = nI 7) : ∃ a, zf_X11_makeStart N z (nI f) S = some ((), mq_sa S 31 a) ∧ ∀ g, g < 320 → ib a 0 g = sta n so (ib (S.2.1 17) 0) (p1 on f) g := by
  have hfw := hx.2.2.2
  have h300 := hfw.2.1
  obtain ⟨p1f, p2f, p3f, p4f⟩ := fw_1 hfw hf hs (by omega) (by omega)
  have i1 : vp_in (nI f) 300 := vp_in_nI (by omega) (by omega)
  have c1 : (nI f).toNatClampNeg = f := nI_clamp (by omega)
  obtain ⟨b', fu', e1, e2, e3⟩ := mk_2 (k0 := fun _ _ => none) S (fun fu v S => zf_X11_makeStart_2 N z fu (nI f) v S) (fun fu v b hv => by
    show zf_X11_makeStart_2b N z (fun v1 v2 S => zf_X11_makeStart_2 N z fu v1 v2 S) (nI f) (nI v) (mq_sa S 31 b) = _
    unfold zf_X11_makeStart_2b
    rw [if_neg (show ¬ (10 : Int32) ≤ nI v from nI_ge (b := 10) hv (by omega)), mq_ck_of (vp_in_nI hv (by omega)), nI_clamp (by omega), nS_e, nI_e, nI_1, sa_sa]
    rfl) N 0 (S.2.1 31) (by omega) (by omega) (fun i hi => by omega)
  rw [sa_i] at e2
  obtain ⟨b2, g1, g2⟩ := rf_pu31 (N := N) (S := mq_sa S 31 b') (g := p1 on f) (k := fun S5 => mq_nI 2 (fun x6 => zf_X11_makeStart_37 N z N x6 S5)) (by omega)
  obtain ⟨a, f1, f2⟩ := mk_37 (N := N) (z := z) hx hN N 2 b2 hfw.1 (by omega)
  refine ⟨a, ?_, fun g hg => ?_⟩
  · unfold zf_X11_makeStart
    rw [nI_e]
    refine e2.trans ?_
    show zf_X11_makeStart_2b N z (fun v1 v2 S => zf_X11_makeStart_2 N z fu' v1 v2 S) (nI f) (nI 10) (mq_sa S 31 b') = _
    unfold zf_X11_makeStart_2b
    rw [if_pos (by decide), mq_ck_of i1, c1, show (mq_sa S 31 b').2.1 3 f = nI (p1 on f) from (hx.2.1 f hf).2.1.trans p2f]
    refine g1.trans ?_
    rw [nI_e, sa_sa]; exact f1
  · rw [f2 g hg, g2 g hg]
    show (ib b' 0 g || _ || _) = _
    rw [ib_0 e3 hg, Bool.false_or, Bool.or_comm]
    unfold sta
    congr 2
    rw [decide_eq_decide]
    refine ⟨fun q => q.2, fun q => ⟨?_, q⟩⟩
    have h2 : ¬ g < 2 := fun hh => sml hx hh 6 (by omega) (by omega) q.2
    omega
end START
