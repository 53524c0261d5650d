/-! an.mats -/
section
/-! The model on both sides: which worlds are seen from which, and the letters. -/
def sbi (x : Int64) (b : Nat) : Bool := x.toBitVec.getLsbD b
/-- a world's row takes in that of a world which it sees -/
def ws (M : Nat → Nat → Bool) (b a : Nat) : Nat → Nat → Bool := fun x c => if x = a ∧ M a b = true then (M x c || M b c) else M x c
def wi (M : Nat → Nat → Bool) (b : Nat) : Nat → Nat → Nat → Bool
  | 0 => M
  | a + 1 => ws (wi M b a) b a
def wo (M : Nat → Nat → Bool) (W : Nat) : Nat → Nat → Nat → Bool
  | 0 => M
  | b + 1 => wi (wo M W b) b W
/-- the rows of the class, those of the reference -/
def mtC (S : mq_St) (W : Nat) (M : Nat → Nat → Bool) : Prop := ∀ a b, a < W → b < W → sbi (S.2.2 7 a) b = M a b
def mtR (S : mq_St) (W : Nat) (M : Nat → Nat → Bool) : Prop := ∀ a b, a < W → b < W → S.2.1 35 (60 * a + b) = if M a b = true then 1 else 0
/-- the letters of a SET -/
def lt (so on : Nat → Int32) (X : Nat → Bool) : Nat → Int32
  | 0 => 0
  | k + 1 => if so k = 2 ∧ X k = true then lt so on X k ||| ((1 : Int32) <<< (on k &&& 31)) else lt so on X k
section MATS
variable {N n : Nat} {z : Nat → Nat} {so on tw : Nat → Int32} {d : Nat → Nat} {S S0 : mq_St} {W w u : Nat} {M : Nat → Nat → Bool}
theorem sbi_or (x y : Int64) (b : Nat) : sbi (x ||| y) b = (sbi x b || sbi y b) := by unfold sbi; rw [Int64.toBitVec_or, BitVec.getLsbD_or]
theorem sbi_1 {a b : Nat} (ha : a < 64) (hb : b < 64) : sbi (mq_lshl 1 (nI a)) b = decide (b = a) := l_one a ha b hb
theorem ck_hasT {a : Nat} (h : S.1 23 = nI W) (hW : W ≤ 60) (ha : a < W) : zf_X4_has N z (nI a) S = some 1 := by
  unfold zf_X4_has
  rw [h, if_neg (nI_pos (by omega)), if_neg (nI_ge ha (by omega)), mq_cz_1]
theorem ck_seenT {a b : Nat} (h : S.1 23 = nI W) (hW : W ≤ 60) (ha : a < W) (hb : b < W) : zf_X4_isSeen N z (nI a) (nI b) S = some (if sbi (S.2.2 7 a) b = true then 1 else 0) := by
  unfold zf_X4_isSeen
  rw [ck_hasT h hW ha, mq_cp_s, if_neg (by decide), ck_hasT h hW hb, mq_cp_s, if_neg (by decide), mq_ck_of (vp_in_nI (by omega) (by omega)), nI_clamp (by omega), mq_cz_0, mq_cz_1]
  unfold sbi
  cases q : (S.2.2 7 a).toBitVec.getLsbD b with
  | false =>
    rw [if_pos ((lg_cmp_eq _ _).mpr ((l_bit _ (by omega)).mpr q))]
    rfl
  | true =>
    rw [if_neg (fun p => by rw [(l_bit _ (by omega)).mp ((lg_cmp_eq _ _).mp p)] at q; cases q)]
    rfl
theorem cs_12T {k2 : Int32 → mq_St → Option (Unit × mq_St)} (hN : 100 ≤ N) (hW : W ≤ 60) (hw : w < W) (hS : ag [] [] [7] S0 S) (h : S0.1 23 = nI W) (hM : mtC S W M) : ∃ S', (ag [] [] [7] S0 S' ∧ mtC S' W (wi M w W)) ∧ zf_X4_closeSight_12 N z k2 N (nI w) (nI 0) S = k2 (nI (w + 1)) S' := by
  refine lp_i (F := fun fu k S => zf_X4_closeSight_12 N z k2 fu (nI w) k S) (n := W) (I := fun k S' => ag [] [] [7] S0 S' ∧ mtC S' W (wi M w k)) (G := fun S' => k2 (nI (w + 1)) S') (fun fu T hI => ?_) (fun fu k T hk hI => ?_) N 0 S (by omega) (by omega) ⟨hS, hM⟩
  · show zf_X4_closeSight_12b N z k2 _ (nI w) (nI W) T = _
    unfold zf_X4_closeSight_12b
    rw [hI.1.1 23 (by decide), h, if_pos (nI_le (Nat.le_refl _) (by omega)), nI_e, nI_1]
  · have h23 : T.1 23 = nI W := (hI.1.1 23 (by decide)).trans h
    show ∃ S', _ ∧ zf_X4_closeSight_12b N z k2 (fun v1 v2 S => zf_X4_closeSight_12 N z k2 fu v1 v2 S) (nI w) (nI k) T = _
    unfold zf_X4_closeSight_12b zf_X4_closeSight_44
    rw [ck_seenT h23 hW hk hw, mq_cp_s, h23, if_neg (nI_ge hk (by omega)), nI_e, nI_1, hI.2 k w hk hw]
    by_cases e : wi M w k k w = true
    · refine ⟨mq_sl T 7 (vp_updL (T.2.2 7) k (T.2.2 7 k ||| T.2.2 7 w)), ⟨ag_tr hI.1 (ag_sl (by decide)), fun x c hx hc => ?_⟩, ?_⟩
      · show sbi (vp_updL (T.2.2 7) k (T.2.2 7 k ||| T.2.2 7 w) x) c = ws (wi M w k) w k x c
        unfold ws
        by_cases q : x = k
        · rw [if_pos ⟨q, e⟩, q, ul_s, sbi_or, hI.2 k c hk hc, hI.2 w c hw hc]
        · rw [if_neg (fun p => q p.1), ul_o q]; exact hI.2 x c hx hc
      · rw [if_pos e, if_neg (by decide), mq_ck_of (vp_in_nI (by omega) (by omega)), mq_ck_of (vp_in_nI (by omega) (by omega)), mq_ck_of (vp_in_nI (by omega) (by omega)), nI_clamp (by omega), nI_clamp (by omega), nS_e]
        rfl
    · refine ⟨T, ⟨hI.1, fun x c hx hc => ?_⟩, by rw [if_neg e, if_pos rfl]⟩
      show sbi (T.2.2 7 x) c = ws (wi M w k) w k x c
      unfold ws
      rw [if_neg (fun p => e p.2)]; exact hI.2 x c hx hc
theorem cs_allT (hN : 100 ≤ N) (hW : W ≤ 60) (h : S.1 23 = nI W) (hM : mtC S W M) : ∃ S', ag [] [] [7] S S' ∧ mtC S' W (wo M W W) ∧ zf_X4_closeSight N z S = some ((), S') := by
  unfold zf_X4_closeSight
  rw [nI_e]
  obtain ⟨S', ⟨a, b⟩, c⟩ := lp_i (F := fun fu k S => zf_X4_closeSight_2 N z fu k S) (n := W) (I := fun k S' => ag [] [] [7] S S' ∧ mtC S' W (wo M W k)) (G := fun S' => some ((), S')) (fun fu T hI => by
    show zf_X4_closeSight_2b N z _ (nI W) T = _
    unfold zf_X4_closeSight_2b
    rw [hI.1.1 23 (by decide), h, if_pos (nI_le (Nat.le_refl _) (by omega))]) (fun fu k T hk hI => by
    obtain ⟨S', a, b⟩ := cs_12T (N := N) (z := z) (k2 := fun v1 S => zf_X4_closeSight_2 N z fu v1 S) hN hW hk hI.1 h hI.2
    refine ⟨S', a, ?_⟩
    show zf_X4_closeSight_2b N z (fun v1 S => zf_X4_closeSight_2 N z fu v1 S) (nI k) T = _
    unfold zf_X4_closeSight_2b
    rw [hI.1.1 23 (by decide), h, if_neg (nI_ge hk (by omega)), nI_e]
    exact b) N 0 S (by omega) (by omega) ⟨ag_rf, hM⟩
  exact ⟨S', a, b, c⟩
theorem ck_letsT (hN : 400 ≤ N) (hc : cxC S n so on tw d) (hw : w < 60) : zf_X8_lettersOf N z (nI w) S = some (lt so on (lb (S.2.2 3) w) n) := by
  have h300 := hc.2.2.2.2.1
  have key : ∀ fu k, k ≤ n → n - k < fu → zf_X8_lettersOf_4 N z S fu (nI w) (lt so on (lb (S.2.2 3) w) k) (nI k) = some (lt so on (lb (S.2.2 3) w) n) := by
    intro fu
    induction fu with
    | zero => intro k _ h; omega
    | succ fu ih =>
      intro k hk hfu
      show zf_X8_lettersOf_4b N z S (fun v1 v2 v3 => zf_X8_lettersOf_4 N z S fu v1 v2 v3) (nI w) _ (nI k) = _
      unfold zf_X8_lettersOf_4b zf_X8_lettersOf_52
      rw [show zf_X7_size N z S = some (nI n) from congrArg some hc.1, mq_cp_s]
      by_cases e : k = n
      · rw [e, if_pos (nI_le (Nat.le_refl _) (by omega))]
      · have hk' : k < n := by omega
        have i := ck_in (N := N) (z := z) hc.1 h300 hk'
        have hh := se_has (N := N) (R := 60) (r := w) (f := k) (z := fun k => [300].getD k 0) (S := mq_pull S [] [] [3]) rfl (by omega) hw (by omega)
        have hh' : zf_X6_has N (fun k => [300].getD k 0) (nI w) (nI k) (mq_pull S [] [] [3]) = some (if lb (S.2.2 3) w k = true then 1 else 0) := hh
        have ih := ih (k + 1) (by omega) (by omega)
        have st : lt so on (lb (S.2.2 3) w) (k + 1) = if so k = 2 ∧ lb (S.2.2 3) w k = true then lt so on (lb (S.2.2 3) w) k ||| ((1 : Int32) <<< (on k &&& 31)) else lt so on (lb (S.2.2 3) w) k := rfl
        rw [if_neg (nI_ge hk' (by omega)), i.1, mq_cp_s, i.2.1, hh', mq_cp_s, mq_cp_s, nI_e, nI_e, nI_e, nI_1, (hc.2.1 k hk').1, (hc.2.1 k hk').2.1]
        by_cases e1 : so k = 2
        · rw [if_pos e1]
          by_cases e2 : lb (S.2.2 3) w k = true
          · rw [if_pos ⟨e1, e2⟩] at st
            rw [if_pos e2, if_neg (by decide), ← st]; exact ih
          · rw [if_neg (fun q => e2 q.2)] at st
            rw [if_neg e2, if_pos rfl, ← st]; exact ih
        · rw [if_neg (fun q => e1 q.1)] at st
          rw [if_neg e1, ← st]; exact ih
  unfold zf_X8_lettersOf
  rw [nI_e, nI_e]
  exact key N 0 (by omega) (by omega)
/-- what a world sees at first: itself and where it leads -/
def m0 (le : Nat → Int64) : Nat → Nat → Bool := fun a b => sbi (le a) b || decide (b = a)
theorem ck_fillT {l : Nat → Int64} (hN : 400 ≤ N) (hc : cxC S n so on tw d) (h15 : S.1 15 = nI W) (hW : W ≤ 60) : ∃ S', frM S S' ∧ S'.1 23 = nI W ∧ S'.1 22 = 0 ∧ (∀ a, a < W → S'.2.1 23 a = lt so on (lb (S.2.2 3) a) n) ∧ mtC S' W (wo (m0 (S.2.2 1)) W W) ∧ zf_X8_fillModel N z S = some ((), S') := by
  have cl : zf_X4_clear N z S = some ((), mq_si (mq_si (mq_si S 23 0) 22 0) 24 0) := by
    unfold zf_X4_clear
    rw [nS_e, nS_e, mq_cz_0, nS_e]
  have key := lp_i (F := fun fu k T => zf_X8_fillModel_6 N z fu k T) (n := W) (I := fun k T => frM S T ∧ T.1 22 = 0 ∧ T.1 23 = nI k ∧ ∀ a, a < k → T.2.1 23 a = lt so on (lb (S.2.2 3) a) n ∧ T.2.2 7 a = S.2.2 1 a ||| mq_lshl 1 (nI a)) (G := fun T => zf_X8_fillModel_49 N z T) (fun fu T hI => by
    show zf_X8_fillModel_6b N z _ (nI W) T = _
    unfold zf_X8_fillModel_6b
    rw [hI.1.1 15 (by decide), h15, if_pos (nI_le (Nat.le_refl _) (by omega))]) (fun fu k T hk hI => by
    obtain ⟨hI1, hI2, hI3, hI4⟩ := hI
    have hcT : cxC T n so on tw d := cxC_c hc (hI1.1 2 (by decide)) (hI1.2.1 4 (by decide)) (hI1.2.1 5 (by decide)) (hI1.2.1 6 (by decide)) (hI1.2.1 7 (by decide)) (hI1.2.2 0 (by decide))
    have hr := ck_letsT (N := N) (z := z) (w := k) (by omega) hcT (by omega)
    rw [hI1.2.2 3 (by decide)] at hr
    obtain ⟨s, hs⟩ := ck_size (N := N) (S := T) (w := k) (l := fun _ => 0) (by omega) (by omega)
    have i1 : vp_in (nI k) 60 := vp_in_nI (by omega) (by omega)
    have aw : zf_X4_addWorld N z (lt so on (lb (S.2.2 3) k) n) (T.2.2 1 k) s T = some ((), mq_si (mq_sa (mq_sl (mq_sa T 23 (upd (T.2.1 23) k (lt so on (lb (S.2.2 3) k) n))) 7 (vp_updL (T.2.2 7) k (T.2.2 1 k ||| mq_lshl 1 (nI k)))) 25 (upd (T.2.1 25) k s)) 23 (nI (k + 1))) := by
      unfold zf_X4_addWorld
      rw [hI3, if_neg (show ¬ (60 : Int32) ≤ nI k from nI_ge (b := 60) (by omega) (by omega)), mq_ck_of i1, nI_clamp (by omega), nS_e, show (mq_sa T 23 (upd (T.2.1 23) k (lt so on (lb (S.2.2 3) k) n))).1 23 = nI k from hI3, mq_ck_of i1, nI_clamp (by omega), nS_e]
      rw [show (mq_sl (mq_sa T 23 (upd (T.2.1 23) k (lt so on (lb (S.2.2 3) k) n))) 7 (vp_updL ((mq_sa T 23 (upd (T.2.1 23) k (lt so on (lb (S.2.2 3) k) n))).2.2 7) k (T.2.2 1 k ||| mq_lshl 1 (nI k)))).1 23 = nI k from hI3, mq_ck_of i1, nI_clamp (by omega), nS_e, nS_e]
      show some ((), mq_si _ 23 (T.1 23 + 1)) = _
      rw [hI3, nI_1]
      rfl
    refine ⟨mq_si (mq_sa (mq_sl (mq_sa T 23 (upd (T.2.1 23) k (lt so on (lb (S.2.2 3) k) n))) 7 (vp_updL (T.2.2 7) k (T.2.2 1 k ||| mq_lshl 1 (nI k)))) 25 (upd (T.2.1 25) k s)) 23 (nI (k + 1)), ⟨ag_tr hI1 (ag_tr (ag_tr (ag_tr (ag_sa (by decide)) (ag_sl (by decide))) (ag_sa (by decide))) (ag_si (by decide))), hI2, rfl, fun a ha => ?_⟩, ?_⟩
    · show upd (T.2.1 23) k (lt so on (lb (S.2.2 3) k) n) a = _ ∧ vp_updL (T.2.2 7) k (T.2.2 1 k ||| mq_lshl 1 (nI k)) a = _
      by_cases q : a = k
      · rw [q, up_s, ul_s, hI1.2.2 1 (by decide)]; exact ⟨rfl, rfl⟩
      · rw [up_o q, ul_o q]; exact hI4 a (by omega)
    · show zf_X8_fillModel_6b N z (fun v2 S => zf_X8_fillModel_6 N z fu v2 S) (nI k) T = _
      unfold zf_X8_fillModel_6b
      rw [hI1.1 15 (by decide), h15, if_neg (nI_ge hk (by omega)), if_neg (show ¬ (60 : Int32) ≤ nI k from nI_ge (b := 60) (by omega) (by omega))]
      refine (cp_go hr).trans ?_
      rw [mq_ck_of (vp_in_nI (by omega) (by omega)), nI_clamp (by omega)]
      refine (cp_go hs).trans ((cl_go aw).trans ?_)
      rw [nI_e, nI_1]) N 0 (mq_si (mq_si (mq_si S 23 0) 22 0) 24 0) (by omega) (by omega) ⟨ag_tr (ag_tr (ag_si (by decide)) (ag_si (by decide))) (ag_si (by decide)), rfl, rfl, fun a ha => by omega⟩
  obtain ⟨T, ⟨k1, k2, k3, k4⟩, k5⟩ := key
  obtain ⟨S', b1, b2, b3⟩ := cs_allT (N := N) (z := z) (S := T) (M := m0 (S.2.2 1)) (by omega) hW k3 (fun a b ha hb => by rw [(k4 a ha).2, sbi_or, sbi_1 (by omega) (by omega)]; rfl)
  refine ⟨S', ag_tr k1 (ag_mono b1 (by decide) (by decide) (by decide)), (b1.1 23 (by decide)).trans k3, (b1.1 22 (by decide)).trans k2, fun a ha => by rw [b1.2.1 23 (by decide)]; exact (k4 a ha).1, b2, ?_⟩
  unfold zf_X8_fillModel
  rw [cl, mq_cl_s, nI_e]
  refine Eq.trans k5 ?_
  unfold zf_X8_fillModel_49
  rw [b3, mq_cl_s]
end MATS
end
/-! ao.matr -/
section
/-! The reference's model: takeModel() fills it as the class does. -/
section MATR
variable {N n : Nat} {z : Nat → Nat} {so on tw : Nat → Int32} {d : Nat → Nat} {S S0 : mq_St} {W w u : Nat} {M : Nat → Nat → Bool} {le : Nat → Int64}
theorem nb1 : vp_nar .boolean (1 : Int32) = 1 := by decide
theorem nb0 : vp_nar .boolean (0 : Int32) = 0 := by decide
theorem i60 {a b x y : Nat} (hb : b < 60) (hy : y < 60) : 60 * a + b = 60 * x + y ↔ a = x ∧ b = y := by omega
/-- the reference's leads are those of the class -/
def ldR (S : mq_St) (W : Nat) (le : Nat → Int64) : Prop := ∀ v u, v < W → u < 60 → S.2.1 22 (60 * v + u) = if sbi (le v) u = true then 1 else 0
theorem tk_106T {k10 : Int32 → mq_St → Option (Unit × mq_St)} (hN : 100 ≤ N) (h24 : S.1 24 = nI W) (hW : W ≤ 60) (hw : w < W) (hl : ldR S W le) : ∃ S', (ag [] [35] [] S S' ∧ ∀ x y, y < 60 → S'.2.1 35 (60 * x + y) = if x = w ∧ y < W then (if m0 le w y = true then 1 else 0) else S.2.1 35 (60 * x + y)) ∧ zf_X11_takeModel_106 N z k10 N (nI w) (nI 0) S = k10 (nI (w + 1)) S' := by
  refine lp_i (F := fun fu k S => zf_X11_takeModel_106 N z k10 fu (nI w) k S) (n := W) (I := fun k S' => ag [] [35] [] S S' ∧ ∀ x y, y < 60 → S'.2.1 35 (60 * x + y) = if x = w ∧ y < k then (if m0 le w y = true then 1 else 0) else S.2.1 35 (60 * x + y)) (G := fun S' => k10 (nI (w + 1)) S') (fun fu T hI => ?_) (fun fu k T hk hI => ?_) N 0 S (by omega) (by omega) ⟨ag_rf, fun x y _ => by rw [if_neg (by omega)]⟩
  · show zf_X11_takeModel_106b N z k10 _ (nI w) (nI W) T = _
    unfold zf_X11_takeModel_106b
    rw [hI.1.1 24 (by decide), h24, if_pos (nI_le (Nat.le_refl _) (by omega)), nI_e, nI_1]
  · show ∃ S', _ ∧ zf_X11_takeModel_106b N z k10 (fun v1 v2 S => zf_X11_takeModel_106 N z k10 fu v1 v2 S) (nI w) (nI k) T = _
    have fin : ∀ t2 : Int32, vp_nar .boolean t2 = (if m0 le w k = true then 1 else 0) → ∃ S', (ag [] [35] [] S S' ∧ ∀ x y, y < 60 → S'.2.1 35 (60 * x + y) = if x = w ∧ y < k + 1 then (if m0 le w y = true then 1 else 0) else S.2.1 35 (60 * x + y)) ∧ zf_X11_takeModel_148 N z k10 (fun v1 v2 S => zf_X11_takeModel_106 N z k10 fu v1 v2 S) (nI w) (nI k) (nI (60 * w + k)) t2 T = zf_X11_takeModel_106 N z k10 fu (nI w) (nI (k + 1)) S' := fun t2 ht => by
      refine ⟨mq_sa T 35 (upd (T.2.1 35) (60 * w + k) (vp_nar .boolean t2)), ⟨ag_tr hI.1 (ag_sa (by decide)), fun x y hy => ?_⟩, ?_⟩
      · show upd (T.2.1 35) (60 * w + k) (vp_nar .boolean t2) (60 * x + y) = _
        by_cases q : x = w ∧ y = k
        · rw [q.1, q.2, up_s, ht, if_pos (show w = w ∧ k < k + 1 from ⟨rfl, by omega⟩)]
        · rw [up_o (by rw [i60 hy (by omega)]; exact q), hI.2 x y hy]
          by_cases q' : x = w ∧ y < k
          · rw [if_pos q', if_pos (show x = w ∧ y < k + 1 from ⟨q'.1, by omega⟩)]
          · rw [if_neg q', if_neg (show ¬ (x = w ∧ y < k + 1) from fun p => q' ⟨p.1, by have := p.2; by_cases e : y = k; exact absurd ⟨p.1, e⟩ q; omega⟩)]
      · unfold zf_X11_takeModel_148
        rw [mq_ck_of (vp_in_nI (by omega) (by omega)), nI_clamp (by omega), nS_e, nI_e, nI_1]
    unfold zf_X11_takeModel_106b zf_X11_takeModel_143
    rw [hI.1.1 24 (by decide), h24, if_neg (nI_ge hk (by omega)), e60, mq_ck_of (vp_in_nI (by omega) (by omega)), nI_clamp (by omega), hI.1.2.1 22 (by decide), hl w k hw (by omega)]
    by_cases e : nI k = nI w
    · have ek : k = w := sp_inj e (by omega) (by omega)
      rw [if_pos e]; exact fin 1 (by rw [nb1]; unfold m0; rw [ek]; simp)
    · have ek : k ≠ w := fun q => e (by rw [q])
      rw [if_neg e]
      by_cases e' : sbi (le w) k = true
      · rw [if_pos e', if_neg (by decide)]; exact fin 1 (by rw [nb1]; unfold m0; rw [e']; simp)
      · rw [if_neg e', if_pos rfl]; exact fin 0 (by rw [nb0]; unfold m0; simp [e', ek])
theorem tk_34T {k10 : Int32 → mq_St → Option (Unit × mq_St)} (hN : 400 ≤ N) (hx : cxR S n so on tw d) (h24 : S.1 24 = nI W) (hW : W ≤ 60) (hw : w < W) (hl : ldR S W le) (h0 : S.2.1 34 w = 0) : ∃ S', (frK S S' ∧ (∀ x, S'.2.1 34 x = if x = w then lt so on (ib (S.2.1 19) w) n else S.2.1 34 x) ∧ ∀ x y, y < 60 → S'.2.1 35 (60 * x + y) = if x = w ∧ y < W then (if m0 le w y = true then 1 else 0) else S.2.1 35 (60 * x + y)) ∧ zf_X11_takeModel_34 N z k10 N (nI w) (nI 0) S = k10 (nI (w + 1)) S' := by
  have h300 := hx.2.2.2.2.1
  have i1 : vp_in (nI w) 60 := vp_in_nI (by omega) (by omega)
  have c1 : (nI w).toNatClampNeg = w := nI_clamp (by omega)
  obtain ⟨S1, ⟨a1, a2⟩, b⟩ := lp_i (F := fun fu k S => zf_X11_takeModel_34 N z k10 fu (nI w) k S) (n := n) (I := fun k S' => ag [] [34, 36] [] S S' ∧ ∀ x, S'.2.1 34 x = if x = w then lt so on (ib (S.2.1 19) w) k else S.2.1 34 x) (G := fun S' => zf_X11_takeModel_106 N z k10 N (nI w) (nI 0) S') (fun fu T hI => by
    show zf_X11_takeModel_34b N z k10 _ (nI w) (nI n) T = _
    unfold zf_X11_takeModel_34b
    rw [hI.1.1 3 (by decide), hx.1, if_pos (nI_le (Nat.le_refl _) (by omega)), nI_e]
    rfl) (fun fu k T hk hI => by
    show ∃ S', _ ∧ zf_X11_takeModel_34b N z k10 (fun v1 v2 S => zf_X11_takeModel_34 N z k10 fu v1 v2 S) (nI w) (nI k) T = _
    have i2 : vp_in (nI k) 300 := vp_in_nI (by omega) (by omega)
    have c2 : (nI k).toNatClampNeg = k := nI_clamp (by omega)
    have hh := ri_in (N := N) (R := 60) (r := w) (f := k) (z := fun k => [600].getD k 0) (S := mq_pull T [] [19] []) rfl (by omega) (by omega) (by omega)
    have hh' : zf_X11_isIn N (fun k => [600].getD k 0) (nI (10 * w)) (nI k) (mq_pull T [] [19] []) = some (if ib (S.2.1 19) w k = true then 1 else 0) := by
      rw [← hI.1.2.1 19 (by decide)]; exact hh
    have e10 : (10 : Int32) * nI w = nI (10 * w) := pk_mul 10 w
    have st : lt so on (ib (S.2.1 19) w) (k + 1) = if so k = 2 ∧ ib (S.2.1 19) w k = true then lt so on (ib (S.2.1 19) w) k ||| ((1 : Int32) <<< (on k &&& 31)) else lt so on (ib (S.2.1 19) w) k := rfl
    unfold zf_X11_takeModel_34b zf_X11_takeModel_98
    rw [hI.1.1 3 (by decide), hx.1, if_neg (nI_ge hk (by omega)), e10, hh', mq_cp_s, nI_e, nI_1]
    by_cases e : ib (S.2.1 19) w k = true
    · rw [if_pos e, if_neg (by decide), mq_ck_of i1, mq_ck_of i1, c1, nS_e, mq_ck_of i1, mq_ck_of i2, mq_ck_of i2, c2]
      have fin : ∀ t3 : Int32, lt so on (ib (S.2.1 19) w) k ||| t3 = lt so on (ib (S.2.1 19) w) (k + 1) → ∃ S', (ag [] [34, 36] [] S S' ∧ ∀ x, S'.2.1 34 x = if x = w then lt so on (ib (S.2.1 19) w) (k + 1) else S.2.1 34 x) ∧ zf_X11_takeModel_96 N z k10 (fun v1 v2 S => zf_X11_takeModel_34 N z k10 fu v1 v2 S) (nI w) (nI k) (nI w) ((mq_sa T 36 (upd (T.2.1 36) w (T.2.1 36 w + 1))).2.1 34 w) t3 (mq_sa T 36 (upd (T.2.1 36) w (T.2.1 36 w + 1))) = zf_X11_takeModel_34 N z k10 fu (nI w) (nI (k + 1)) S' := fun t3 h3 => by
        refine ⟨mq_sa (mq_sa T 36 (upd (T.2.1 36) w (T.2.1 36 w + 1))) 34 (upd (T.2.1 34) w (lt so on (ib (S.2.1 19) w) (k + 1))), ⟨ag_tr hI.1 (ag_tr (ag_sa (by decide)) (ag_sa (by decide))), fun x => ?_⟩, ?_⟩
        · show upd (T.2.1 34) w (lt so on (ib (S.2.1 19) w) (k + 1)) x = _
          by_cases q : x = w
          · rw [q, up_s, if_pos rfl]
          · rw [up_o q, hI.2 x, if_neg q, if_neg q]
        · unfold zf_X11_takeModel_96 zf_X11_takeModel_98
          have t2 : (mq_sa T 36 (upd (T.2.1 36) w (T.2.1 36 w + 1))).2.1 34 w = lt so on (ib (S.2.1 19) w) k := (hI.2 w).trans (if_pos rfl)
          rw [mq_ck_of i1, c1, nS_e, nI_e, nI_1, t2, h3]
          rfl
      have s2 : (mq_sa T 36 (upd (T.2.1 36) w (T.2.1 36 w + 1))).2.1 2 k = so k := (congrFun (hI.1.2.1 2 (by decide)) k).trans (hx.2.1 k hk).1
      have s3 : (mq_sa T 36 (upd (T.2.1 36) w (T.2.1 36 w + 1))).2.1 3 k = on k := (congrFun (hI.1.2.1 3 (by decide)) k).trans (hx.2.1 k hk).2.1
      rw [s2, s3]
      by_cases e' : so k = 2
      · rw [if_pos e']; exact fin _ (by rw [st, if_pos ⟨e', e⟩])
      · rw [if_neg e']; exact fin _ (by rw [st, if_neg (fun q => e' q.1), Int32.or_zero])
    · rw [if_neg e, if_pos rfl]
      exact ⟨T, ⟨hI.1, fun x => by rw [hI.2 x, st, if_neg (show ¬ (so k = 2 ∧ ib (S.2.1 19) w k = true) from fun q => e q.2)]⟩, rfl⟩) N 0 S (by omega) (by omega) ⟨ag_rf, fun x => by
      by_cases q : x = w
      · rw [if_pos q, q, h0]; rfl
      · rw [if_neg q]⟩
  obtain ⟨S2, ⟨c1', c2'⟩, e⟩ := tk_106T (N := N) (z := z) (k10 := k10) (S := S1) (le := le) (by omega) ((a1.1 24 (by decide)).trans h24) hW hw (fun v u hv hu => by rw [a1.2.1 22 (by decide)]; exact hl v u hv hu)
  refine ⟨S2, ⟨ag_tr (ag_mono a1 (by decide) (by decide) (by decide)) (ag_mono c1' (by decide) (by decide) (by decide)), fun x => by rw [c1'.2.1 34 (by decide)]; exact a2 x, fun x y hy => by rw [c2' x y hy, a1.2.1 35 (by decide)]⟩, Eq.trans b e⟩
theorem tk_183T {k163 : Int32 → mq_St → Option (Unit × mq_St)} {k173 : Int32 → Int32 → mq_St → Option (Unit × mq_St)} (hN : 100 ≤ N) (h24 : S0.1 24 = nI W) (hW : W ≤ 60) (hw : w < W) (hu : u < W) (hS : ag [] [35] [] S0 S) (hM : mtR S W M) : ∃ S', (ag [] [35] [] S0 S' ∧ mtR S' W (ws M w u)) ∧ zf_X11_takeModel_183 N z k163 k173 N (nI w) (nI u) (nI 0) S = k173 (nI w) (nI (u + 1)) S' := by
  by_cases e : M u w = true
  · obtain ⟨S', ⟨a, b⟩, c⟩ := lp_i (F := fun fu k S => zf_X11_takeModel_183 N z k163 k173 fu (nI w) (nI u) k S) (n := W) (I := fun k S' => ag [] [35] [] S0 S' ∧ mtR S' W (fun x y => if x = u ∧ y < k then (M u y || M w y) else M x y)) (G := fun S' => k173 (nI w) (nI (u + 1)) S') (fun fu T hI => by
      show zf_X11_takeModel_183b N z k163 k173 _ (nI w) (nI u) (nI W) T = _
      unfold zf_X11_takeModel_183b zf_X11_takeModel_255
      rw [hI.1.1 24 (by decide), h24, if_pos (nI_le (Nat.le_refl _) (by omega)), nI_e, nI_1]) (fun fu k T hk hI => by
      show ∃ S', _ ∧ zf_X11_takeModel_183b N z k163 k173 (fun v1 v2 v3 S => zf_X11_takeModel_183 N z k163 k173 fu v1 v2 v3 S) (nI w) (nI u) (nI k) T = _
      have fin : ∀ t2 : Int32, vp_nar .boolean t2 = (if (M u k || M w k) = true then 1 else 0) → ∃ S', (ag [] [35] [] S0 S' ∧ mtR S' W (fun x y => if x = u ∧ y < k + 1 then (M u y || M w y) else M x y)) ∧ zf_X11_takeModel_248 N z k163 k173 (fun v1 v2 v3 S => zf_X11_takeModel_183 N z k163 k173 fu v1 v2 v3 S) (nI w) (nI u) (nI k) (nI (60 * u + k)) t2 T = zf_X11_takeModel_183 N z k163 k173 fu (nI w) (nI u) (nI (k + 1)) S' := fun t2 ht => by
        refine ⟨mq_sa T 35 (upd (T.2.1 35) (60 * u + k) (vp_nar .boolean t2)), ⟨ag_tr hI.1 (ag_sa (by decide)), fun x y hx hy => ?_⟩, ?_⟩
        · show upd (T.2.1 35) (60 * u + k) (vp_nar .boolean t2) (60 * x + y) = _
          by_cases q : x = u ∧ y = k
          · rw [q.1, q.2, up_s, ht]
            show _ = if (if u = u ∧ k < k + 1 then (M u k || M w k) else M u k) = true then (1 : Int32) else 0
            rw [if_pos (show u = u ∧ k < k + 1 from ⟨rfl, by omega⟩)]
          · rw [up_o (by rw [i60 (by omega) (by omega)]; exact q), hI.2 x y hx hy]
            show (if (if x = u ∧ y < k then (M u y || M w y) else M x y) = true then (1 : Int32) else 0) = if (if x = u ∧ y < k + 1 then (M u y || M w y) else M x y) = true then (1 : Int32) else 0
            by_cases q' : x = u ∧ y < k
            · rw [if_pos q', if_pos (show x = u ∧ y < k + 1 from ⟨q'.1, by omega⟩)]
            · rw [if_neg q', if_neg (show ¬ (x = u ∧ y < k + 1) from fun p => q' ⟨p.1, by have := p.2; by_cases e : y = k; exact absurd ⟨p.1, e⟩ q; omega⟩)]
        · unfold zf_X11_takeModel_248
          rw [mq_ck_of (vp_in_nI (by omega) (by omega)), nI_clamp (by omega), nS_e, nI_e, nI_1]
      have v1 : T.2.1 35 (60 * u + w) = 1 := by
        rw [hI.2 u w hu hw]
        show (if (if u = u ∧ w < k then (M u w || M w w) else M u w) = true then (1 : Int32) else 0) = 1
        rw [e]; simp
      have v2 : T.2.1 35 (60 * u + k) = if M u k = true then 1 else 0 := by
        rw [hI.2 u k hu hk]
        show (if (if u = u ∧ k < k then (M u k || M w k) else M u k) = true then (1 : Int32) else 0) = _
        rw [if_neg (show ¬ (u = u ∧ k < k) from fun p => by omega)]
      have v3 : T.2.1 35 (60 * w + k) = if M w k = true then 1 else 0 := by
        rw [hI.2 w k hw hk]
        show (if (if w = u ∧ k < k then (M u k || M w k) else M w k) = true then (1 : Int32) else 0) = _
        rw [if_neg (show ¬ (w = u ∧ k < k) from fun p => by omega)]
      unfold zf_X11_takeModel_183b zf_X11_takeModel_243 zf_X11_takeModel_255
      rw [hI.1.1 24 (by decide), h24, if_neg (nI_ge hk (by omega)), e60, e60, e60, mq_ck_of (vp_in_nI (by omega) (by omega)), mq_ck_of (vp_in_nI (by omega) (by omega)), mq_ck_of (vp_in_nI (by omega) (by omega)), nI_clamp (by omega), nI_clamp (by omega), nI_clamp (by omega), nI_e, nI_1, v1, v2, v3, if_neg (show ¬ (1 : Int32) = 0 by decide)]
      by_cases q2 : M u k = true
      · rw [if_pos q2, if_neg (show ¬ (1 : Int32) = 0 by decide)]
        exact fin 1 (by rw [nb1, q2]; simp)
      · rw [if_neg q2, if_pos rfl]
        by_cases q3 : M w k = true
        · rw [if_pos q3, if_neg (show ¬ (1 : Int32) = 0 by decide)]
          exact fin 1 (by rw [nb1, q3]; simp)
        · rw [if_neg q3, if_pos rfl]
          exact fin 0 (by rw [nb0]; simp [q2, q3])) N 0 S (by omega) (by omega) ⟨hS, fun x y hx hy => by
        rw [hM x y hx hy]
        show _ = if (if x = u ∧ y < 0 then (M u y || M w y) else M x y) = true then (1 : Int32) else 0
        rw [if_neg (show ¬ (x = u ∧ y < 0) from fun p => by omega)]⟩
    refine ⟨S', ⟨a, fun x y hx hy => ?_⟩, c⟩
    rw [b x y hx hy]
    show (if (if x = u ∧ y < W then (M u y || M w y) else M x y) = true then (1 : Int32) else 0) = if ws M w u x y = true then 1 else 0
    unfold ws
    by_cases q : x = u
    · rw [if_pos (show x = u ∧ y < W from ⟨q, hy⟩), if_pos (show x = u ∧ M u w = true from ⟨q, e⟩), q]
    · rw [if_neg (show ¬ (x = u ∧ y < W) from fun p => q p.1), if_neg (show ¬ (x = u ∧ M u w = true) from fun p => q p.1)]
  · refine ⟨S, ⟨hS, fun x y hx hy => ?_⟩, ?_⟩
    · rw [hM x y hx hy]
      unfold ws
      rw [if_neg (show ¬ (x = u ∧ M u w = true) from fun p => e p.2)]
    · obtain ⟨fu, rfl⟩ : ∃ f', N = f' + 1 := ⟨N - 1, by omega⟩
      show zf_X11_takeModel_183b _ z k163 k173 _ (nI w) (nI u) (nI 0) S = _
      unfold zf_X11_takeModel_183b zf_X11_takeModel_255
      rw [hS.1 24 (by decide), h24, if_neg (nI_ge (show 0 < W by omega) (by omega)), e60, mq_ck_of (vp_in_nI (by omega) (by omega)), nI_clamp (by omega), hM u w hu hw, if_neg e, if_pos rfl, nI_e, nI_1]
theorem tk_163T (hN : 100 ≤ N) (h24 : S.1 24 = nI W) (hW : W ≤ 60) (hM : mtR S W M) : ∃ S', (ag [] [35] [] S S' ∧ mtR S' W (wo M W W)) ∧ zf_X11_takeModel_163 N z N (nI 0) S = some ((), S') := by
  refine lp_i (F := fun fu k S => zf_X11_takeModel_163 N z fu k S) (n := W) (I := fun k S' => ag [] [35] [] S S' ∧ mtR S' W (wo M W k)) (G := fun S' => some ((), S')) (fun fu T hI => ?_) (fun fu k T hk hI => ?_) N 0 S (by omega) (by omega) ⟨ag_rf, hM⟩
  · show zf_X11_takeModel_163b N z _ (nI W) T = _
    unfold zf_X11_takeModel_163b
    rw [hI.1.1 24 (by decide), h24, if_pos (nI_le (Nat.le_refl _) (by omega))]
  · show ∃ S', _ ∧ zf_X11_takeModel_163b N z (fun v1 S => zf_X11_takeModel_163 N z fu v1 S) (nI k) T = _
    unfold zf_X11_takeModel_163b
    rw [hI.1.1 24 (by decide), h24, if_neg (nI_ge hk (by omega)), nI_e]
    refine lp_i (F := fun fu2 j T => zf_X11_takeModel_173 N z (fun v1 S => zf_X11_takeModel_163 N z fu v1 S) fu2 (nI k) j T) (n := W) (I := fun j S' => ag [] [35] [] S S' ∧ mtR S' W (wi (wo M W k) k j)) (G := fun S' => zf_X11_takeModel_163 N z fu (nI (k + 1)) S') (fun fu2 T hI => ?_) (fun fu2 j T hj hI => ?_) N 0 T (by omega) (by omega) hI
    · show zf_X11_takeModel_173b N z _ _ (nI k) (nI W) T = _
      unfold zf_X11_takeModel_173b
      rw [hI.1.1 24 (by decide), h24, if_pos (nI_le (Nat.le_refl _) (by omega)), nI_e, nI_1]
    · obtain ⟨S', a, b⟩ := tk_183T (N := N) (z := z) (k163 := fun v1 S => zf_X11_takeModel_163 N z fu v1 S) (k173 := fun v1 v2 S => zf_X11_takeModel_173 N z (fun v1 S => zf_X11_takeModel_163 N z fu v1 S) fu2 v1 v2 S) (by omega) h24 hW hk hj hI.1 hI.2
      refine ⟨S', a, ?_⟩
      show zf_X11_takeModel_173b N z (fun v1 S => zf_X11_takeModel_163 N z fu v1 S) (fun v1 v2 S => zf_X11_takeModel_173 N z (fun v1 S => zf_X11_takeModel_163 N z fu v1 S) fu2 v1 v2 S) (nI k) (nI j) T = _
      unfold zf_X11_takeModel_173b
      rw [hI.1.1 24 (by decide), h24, if_neg (nI_ge hj (by omega)), nI_e]
      exact b
theorem tk_allT (hN : 400 ≤ N) (hx : cxR S n so on tw d) (h24 : S.1 24 = nI W) (hW : W ≤ 60) (hl : ldR S W le) : ∃ S', ag [31] [34, 35, 36] [] S S' ∧ S'.1 31 = nI W ∧ (∀ a, a < W → S'.2.1 34 a = lt so on (ib (S.2.1 19) a) n) ∧ mtR S' W (wo (m0 le) W W) ∧ zf_X11_takeModel N z S = some ((), S') := by
  obtain ⟨S1, ⟨a1, a2, a3⟩, b⟩ := lp_i (F := fun fu k S => zf_X11_takeModel_10 N z fu k S) (n := W) (I := fun k S' => ag [31] [34, 35, 36] [] S S' ∧ S'.1 31 = nI W ∧ ∀ a, a < k → S'.2.1 34 a = lt so on (ib (S.2.1 19) a) n ∧ ∀ b, b < W → S'.2.1 35 (60 * a + b) = if m0 le a b = true then 1 else 0) (G := fun S' => zf_X11_takeModel_163 N z N (nI 0) S') (fun fu T hI => by
    show zf_X11_takeModel_10b N z _ (nI W) T = _
    unfold zf_X11_takeModel_10b
    rw [hI.1.1 24 (by decide), h24, if_pos (nI_le (Nat.le_refl _) (by omega)), nI_e]
    rfl) (fun fu k T hk hI => by
    have i1 : vp_in (nI k) 60 := vp_in_nI (by omega) (by omega)
    have c1 : (nI k).toNatClampNeg = k := nI_clamp (by omega)
    have f1 : ag [31] [34, 35, 36] [] S (mq_sa (mq_sa T 34 (upd (T.2.1 34) k 0)) 36 (upd (T.2.1 36) k 0)) := ag_tr hI.1 (ag_tr (ag_sa (by decide)) (ag_sa (by decide)))
    obtain ⟨S', ⟨a1, a2, a3⟩, b⟩ := tk_34T (N := N) (z := z) (le := le) (k10 := fun v1 S => zf_X11_takeModel_10 N z fu v1 S) (S := mq_sa (mq_sa T 34 (upd (T.2.1 34) k 0)) 36 (upd (T.2.1 36) k 0)) hN (cxR_c hx (f1.1 3 (by decide)) (f1.2.1 2 (by decide)) (f1.2.1 3 (by decide)) (f1.2.1 4 (by decide))) ((f1.1 24 (by decide)).trans h24) hW hk (fun v u hv hu => by rw [f1.2.1 22 (by decide)]; exact hl v u hv hu) (up_s _ _ _)
    refine ⟨S', ⟨ag_tr f1 (ag_mono a1 (by decide) (by decide) (by decide)), (a1.1 31 (by decide)).trans hI.2.1, fun a ha => ⟨?_, fun b hb => ?_⟩⟩, ?_⟩
    · rw [a2 a]
      by_cases q : a = k
      · rw [if_pos q, f1.2.1 19 (by decide), q]
      · rw [if_neg q]
        show upd (T.2.1 34) k 0 a = _
        rw [up_o q]; exact (hI.2.2 a (by omega)).1
    · rw [a3 a b (by omega)]
      by_cases q : a = k
      · rw [if_pos (show a = k ∧ b < W from ⟨q, hb⟩), q]
      · rw [if_neg (show ¬ (a = k ∧ b < W) from fun p => q p.1)]; exact (hI.2.2 a (by omega)).2 b hb
    · show zf_X11_takeModel_10b N z (fun v1 S => zf_X11_takeModel_10 N z fu v1 S) (nI k) T = _
      unfold zf_X11_takeModel_10b
      rw [hI.1.1 24 (by decide), h24, if_neg (nI_ge hk (by omega)), mq_ck_of i1, c1, nS_e, mq_ck_of i1, nS_e, nI_e]
      exact b) N 0 (mq_si S 31 (nI W)) (by omega) (by omega) ⟨ag_si (by decide), rfl, fun a ha => by omega⟩
  obtain ⟨S2, ⟨c1, c2⟩, c3⟩ := tk_163T (N := N) (z := z) (S := S1) (M := m0 le) (by omega) ((a1.1 24 (by decide)).trans h24) hW (fun a b ha hb => (a3 a ha).2 b hb)
  refine ⟨S2, ag_tr a1 (ag_mono c1 (by decide) (by decide) (by decide)), (c1.1 31 (by decide)).trans a2, fun a ha => by rw [c1.2.1 34 (by decide)]; exact (a3 a ha).1, c2, ?_⟩
  unfold zf_X11_takeModel
  rw [h24, nS_e, nI_e]
  exact Eq.trans b c3
end MATR
end
/-! ap.prove2 -/
section
/-! prove() on both sides, with the models. -/
/-- class and reference have the same model -/
def mo (SC SR : mq_St) : Prop := ∃ W, W ≤ 60 ∧ SC.1 23 = nI W ∧ SR.1 31 = nI W ∧ (∀ a, a < W → SC.2.1 23 a = SR.2.1 34 a) ∧ ∃ M, mtC SC W M ∧ mtR SR W M
/-- the class's model and what it has reckoned are as before, or nothing is reckoned -/
def kpm (S S' : mq_St) : Prop := S'.1 22 = 0 ∨ (S'.1 22 = S.1 22 ∧ S'.1 23 = S.1 23 ∧ S'.2.1 23 = S.2.1 23 ∧ S'.2.2 7 = S.2.2 7 ∧ S'.2.2 9 = S.2.2 9)
theorem mo_c {SC SR SC' SR' : mq_St} (h : mo SC SR) (e1 : SC'.1 23 = SC.1 23) (e2 : SC'.2.1 23 = SC.2.1 23) (e3 : SC'.2.2 7 = SC.2.2 7) (e4 : SR'.1 31 = SR.1 31) (e5 : SR'.2.1 34 = SR.2.1 34) (e6 : SR'.2.1 35 = SR.2.1 35) : mo SC' SR' := by
  unfold mo mtC mtR at h ⊢
  rw [e1, e2, e3, e4, e5, e6]; exact h
theorem lt_c {so on : Nat → Int32} {X Y : Nat → Bool} : ∀ {k : Nat}, (∀ f, f < k → X f = Y f) → lt so on X k = lt so on Y k
  | 0, _ => rfl
  | k + 1, h => by
    show (if so k = 2 ∧ X k = true then lt so on X k ||| ((1 : Int32) <<< (on k &&& 31)) else lt so on X k) = if so k = 2 ∧ Y k = true then lt so on Y k ||| ((1 : Int32) <<< (on k &&& 31)) else lt so on Y k
    rw [lt_c (fun f hf => h f (by omega)), h k (by omega)]
section PROVE2
variable {N : Nat} {z : Nat → Nat} {SC SR : mq_St}
theorem st_prove2 (v1 v2 : Int32) (hN : 300000 ≤ N) (hF : ivF SC SR) (hp : ivP SC SR) (hl : ivL SC) (hmC : mdC SC) (hmR : mdR SR) (hcn : cn4 SC SR) (hmo : mo SC SR) :
    ∃ r SC' SR', zf_X10_prove N z v1 v2 SC = some (r, SC') ∧ zf_X11_prove N z v1 v2 SR = some (r, SR') ∧ ivP SC' SR' ∧ ivL SC' ∧ mdC SC' ∧ mdR SR' ∧ cn4 SC' SR' ∧ mo SC' SR' ∧ kpm SC SC' ∧ fpC SC SC' ∧ fpR SR SR' := by
  obtain ⟨n, so, on, tw, d, hc, hx, hs⟩ := ivF_cx hF
  have no : ∀ x, x = SC → True := fun _ _ => trivial
  have quit : zf_X10_prove N z v1 v2 SC = some (-1, SC) → zf_X11_prove N z v1 v2 SR = some (-1, mq_si SR 0 0) → ∃ r SC' SR', zf_X10_prove N z v1 v2 SC = some (r, SC') ∧ zf_X11_prove N z v1 v2 SR = some (r, SR') ∧ ivP SC' SR' ∧ ivL SC' ∧ mdC SC' ∧ mdR SR' ∧ cn4 SC' SR' ∧ mo SC' SR' ∧ kpm SC SC' ∧ fpC SC SC' ∧ fpR SR SR' := fun a b => ⟨-1, SC, mq_si SR 0 0, a, b, hp, hl, hmC, hmR, hcn, hmo, Or.inr ⟨rfl, rfl, rfl, rfl, rfl⟩, ag_rf, ag_si (by decide)⟩
  have fil : zf_X10_isFilled N z v1 SC = mq_cp (some (if v1 < 0 ∨ 8 ≤ v1 then (0 : Int32) else 1)) (fun q1 => (if q1 = (0 : Int32) then (mq_cz ((0 : Int32)) (some ((0 : Int32)))) else (mq_ck (v1) 8 (if (SC.2.1 1 (v1).toNatClampNeg) = (-1 : Int32) then (mq_cz ((0 : Int32)) (some ((0 : Int32)))) else (mq_cz ((1 : Int32)) (some ((1 : Int32)))))))) := by
    unfold zf_X10_isFilled
    rw [ck_isSlot]
  rcases mq_place v1 (t := 8) (by omega) with out | ⟨j, hj, hv, inn⟩
  · have out8 : v1 < 0 ∨ (8 : Int32) ≤ v1 := out
    have out' : v1 < 0 ∨ 7 < v1 := (mq_lst 8 (by omega) v1).mpr out
    apply quit
    · have : zf_X10_isFilled N z v1 SC = some 0 := by
        rw [fil, mq_cp_s, if_pos out8, if_pos rfl, mq_cz_0]
      unfold zf_X10_prove
      refine (cp_go this).trans ?_
      rw [if_pos rfl]
    · unfold zf_X11_prove
      rw [nS_e]
      refine (cp_go (rf_in v1 0 7)).trans ?_
      rw [if_pos out', if_pos rfl]
  · have inn8 : ¬ (v1 < 0 ∨ (8 : Int32) ≤ v1) := inn
    have inn' : ¬ (v1 < 0 ∨ 7 < v1) := fun q => inn ((mq_lst 8 (by omega) v1).mp q)
    have i1 : vp_in v1 8 := by rw [hv]; exact vp_in_nI hj (by omega)
    have c1 : v1.toNatClampNeg = j := by rw [hv]; exact nI_clamp (by omega)
    obtain ⟨s1, s2, s3⟩ := hs j hj
    have preR : zf_X11_prove N z v1 v2 SR = (if (SR.2.1 5 j) = (-1 : Int32) then (some ((-1 : Int32), mq_si SR 0 0)) else (mq_cp (zf_X11_in N z (v2) ((1 : Int32)) ((100000 : Int32)) (mq_pull (mq_si SR 0 0) [] [] [])) (fun q5 => (if q5 = (0 : Int32) then (some ((-1 : Int32), mq_si SR 0 0)) else (mq_nS (mq_si (mq_si SR 0 0) 18 (v2)) (fun S7 => (mq_ck (v1) 8 (mq_cl (zf_X11_tableau N z ((S7.2.1 6 (v1).toNatClampNeg)) S7) (fun q9v S11 => (mq_nI (q9v) (fun x12 => (if x12 = (1 : Int32) then (mq_cz ((1 : Int32)) (mq_nS (mq_si S11 29 ((1 : Int32))) (fun S19 => (mq_nS (mq_si S19 31 ((0 : Int32))) (fun S21 => (mq_nS (mq_si S21 30 ((S21.1 26))) (fun S22 => (mq_nI ((0 : Int32)) (fun x23 => (zf_X11_prove_80 N z N (x12) (x23) S22)))))))))) else (if x12 = (0 : Int32) then (mq_cz ((0 : Int32)) (mq_nS (mq_si S11 29 ((0 : Int32))) (fun S13 => (mq_cl (zf_X11_takeModel N z S13) (fun q15v S17 => (some (x12, S17))))))) else (some (x12, S11))))))))))))))) := by
      unfold zf_X11_prove
      rw [nS_e]
      refine (cp_go (rf_in v1 0 7)).trans ?_
      rw [if_neg inn', if_neg (by decide), mq_ck_of i1, c1]
      rfl
    rcases s3 with ⟨s3, s4⟩ | ⟨f, g, hf, hg, s3, s4⟩
    · apply quit
      · have : zf_X10_isFilled N z v1 SC = some 0 := by
          rw [fil, mq_cp_s, if_neg inn8, if_neg (by decide), mq_ck_of i1, c1, s4, if_pos rfl, mq_cz_0]
        unfold zf_X10_prove
        refine (cp_go this).trans ?_
        rw [if_pos rfl]
      · rw [preR, ← s1, s3, if_pos rfl]
    · have h300 := hc.2.2.2.2.1
      have filled : zf_X10_isFilled N z v1 SC = some 1 := by
        rw [fil, mq_cp_s, if_neg inn8, if_neg (by decide), mq_ck_of i1, c1, s4, if_neg (nI_nm (by omega)), mq_cz_1]
      by_cases a : v2 < 1
      · apply quit
        · unfold zf_X10_prove
          refine (cp_go filled).trans ?_
          rw [if_neg (by decide), if_pos a]
        · rw [preR, ← s1, s3, if_neg (nI_nm (by omega))]
          refine (cp_go (rf_in v2 1 100000)).trans ?_
          rw [if_pos (Or.inl a), if_pos rfl]
      · by_cases b : v2 ≤ 100000
        · have b' : ¬ (v2 < 1 ∨ 100000 < v2) := fun q => q.elim a (fun q => absurd b (Int32.not_le.mpr q))
          obtain ⟨F, hF1, hF2⟩ : ∃ F, F ≤ 100000 ∧ v2 = nI F := by
            rcases pk_ix v2 (n := 100001) (by omega) with q | q | ⟨F, q1, q2⟩
            · exact absurd (Int32.lt_trans q (by decide : (0 : Int32) < 1)) a
            · exact absurd (Int32.le_trans q b) (by decide)
            · exact ⟨F, by omega, q2⟩
          obtain ⟨l, hl1, hl2⟩ := hl
          obtain ⟨v, S1, S2, t1, t2, ⟨u1, u2, u3, u4⟩, t4, t5⟩ := st_tab (N := N) (z := z) (SC := SC) (SR := mq_si SR 0 0) (no := g) (F := F) hN hc (cxR_c hx rfl rfl rfl rfl) hl2 hl1 hg hF1
          have pC : zf_X10_prove N z v1 v2 SC = (if v = (1 : Int32) then (mq_cp (zf_X8_lines N z S1) (fun q15 => (mq_cl (zf_X3_copy N z (mq_pull S1 [25, 20] [28, 22] [])) (fun q17v q17s => mq_nS (mq_push S1 q17s [25, 20] [28, 22] []) (fun S19 => (mq_cl (zf_X4_clear N z S19) (fun q20v S22 => (some (v, S22))))))))) else (if v = (0 : Int32) then (mq_cl (zf_X3_shorten N z ((0 : Int32)) (mq_pull S1 [25] [28] [])) (fun q8v q8s => mq_nS (mq_push S1 q8s [25] [28] []) (fun S10 => (mq_cl (zf_X8_fillModel N z S10) (fun q11v S13 => (some (v, S13))))))) else (some (v, S1)))) := by
            unfold zf_X10_prove
            refine (cp_go filled).trans ?_
            rw [if_neg (by decide), if_neg a, if_pos b, mq_ck_of i1, c1, s4, hF2]
            refine (cl_go t1).trans ?_
            rw [nI_e]
          have pR : zf_X11_prove N z v1 v2 SR = (if v = (1 : Int32) then (mq_cz ((1 : Int32)) (mq_nS (mq_si S2 29 ((1 : Int32))) (fun S19 => (mq_nS (mq_si S19 31 ((0 : Int32))) (fun S21 => (mq_nS (mq_si S21 30 ((S21.1 26))) (fun S22 => (mq_nI ((0 : Int32)) (fun x23 => (zf_X11_prove_80 N z N (v) (x23) S22)))))))))) else (if v = (0 : Int32) then (mq_cz ((0 : Int32)) (mq_nS (mq_si S2 29 ((0 : Int32))) (fun S13 => (mq_cl (zf_X11_takeModel N z S13) (fun q15v S17 => (some (v, S17))))))) else (some (v, S2)))) := by
            rw [preR, ← s1, s3, if_neg (nI_nm (by omega))]
            refine (cp_go (rf_in v2 1 100000)).trans ?_
            rw [if_neg b', if_neg (by decide), nS_e, mq_ck_of i1, c1, show (mq_si (mq_si SR 0 0) 18 v2).2.1 6 j = nI g from s2.symm.trans s4, hF2]
            refine (cl_go t2).trans ?_
            rw [nI_e]
          have fC : fpC SC S1 := ag_mono t4 (by decide) (by decide) (by decide)
          have fR : fpR SR S2 := ag_tr (ag_si (by decide)) (ag_mono t5 (by decide) (by decide) (by decide))
          have cn : cn4 S1 S2 := ⟨u1, u2⟩
          obtain ⟨⟨Wm, hW1, hW2⟩, tm, ht1, ht2⟩ := hmC
          obtain ⟨Wr, hr1, hr2⟩ := hmR
          have mC : mdC S1 := ⟨⟨Wm, hW1, (t4.1 23 (by decide)).trans hW2⟩, tm, ht1, (t4.1 22 (by decide)).trans ht2⟩
          have mR : mdR S2 := ⟨Wr, hr1, (t5.1 31 (by decide)).trans hr2⟩
          have ivp : ivP S1 S2 := by
            unfold ivP
            rw [t4.1 25 (by decide), t4.2.1 28 (by decide), t5.1 29 (by decide), t5.1 30 (by decide), t5.2.1 32 (by decide), t5.2.1 33 (by decide)]
            exact hp
          have mo1 : mo S1 S2 := mo_c (SR := mq_si SR 0 0) hmo (t4.1 23 (by decide)) (t4.2.1 23 (by decide)) (t4.2.2 7 (by decide)) (t5.1 31 (by decide)) (t5.2.1 34 (by decide)) (t5.2.1 35 (by decide))
          have other : ¬ v = 1 → ¬ v = 0 → ∃ r SC' SR', zf_X10_prove N z v1 v2 SC = some (r, SC') ∧ zf_X11_prove N z v1 v2 SR = some (r, SR') ∧ ivP SC' SR' ∧ ivL SC' ∧ mdC SC' ∧ mdR SR' ∧ cn4 SC' SR' ∧ mo SC' SR' ∧ kpm SC SC' ∧ fpC SC SC' ∧ fpR SR SR' := fun h1 h0 => ⟨v, S1, S2, by rw [pC, if_neg h1, if_neg h0], by rw [pR, if_neg h1, if_neg h0], ivp, u3, mC, mR, cn, mo1, Or.inr ⟨t4.1 22 (by decide), t4.1 23 (by decide), t4.2.1 23 (by decide), t4.2.2 7 (by decide), t4.2.2 9 (by decide)⟩, fC, fR⟩
          rcases u4 with e | e | ⟨e, ln, w1, w2, w3, w4, w5⟩ | ⟨e, W, w1, w2, w3, w4, w5, w6⟩
          · exact other (by rw [e]; decide) (by rw [e]; decide)
          · exact other (by rw [e]; decide) (by rw [e]; decide)
          · subst e
            obtain ⟨aa, x1, x2⟩ := x3_cp (N := N) (z := z) (S := S1) (by omega) w2 w3
            obtain ⟨pa, pb, y1, y2⟩ := p80 (N := N) (z := z) (S := mq_si (mq_si (mq_si S2 29 1) 31 0) 30 (nI ln)) (v := 1) w2 w4 N 0 (S2.2.1 32) (S2.2.1 33) (by omega) (by omega) (fun i hi => by omega)
            refine ⟨1, mq_si (mq_si (mq_si (mq_sa (mq_si S1 25 (nI ln)) 28 aa) 23 0) 22 0) 24 0, mq_sa (mq_sa (mq_si (mq_si (mq_si S2 29 1) 31 0) 30 (nI ln)) 32 pa) 33 pb, ?_, ?_, ⟨ln, w2, rfl, Or.inr ⟨w1, rfl, rfl⟩, ln_all (fun i hi => ?_)⟩, u3, ⟨⟨0, by omega, rfl⟩, 0, by omega, rfl⟩, ⟨0, by omega, rfl⟩, cn, ⟨0, by omega, rfl, rfl, fun a ha => by omega, fun _ _ => false, fun a b ha => by omega, fun a b ha => by omega⟩, Or.inl rfl, ag_tr fC (ag_tr (ag_tr (ag_tr (ag_tr (ag_si (by decide)) (ag_sa (by decide))) (ag_si (by decide))) (ag_si (by decide))) (ag_si (by decide))), ag_tr fR (ag_tr (ag_tr (ag_tr (ag_tr (ag_si (by decide)) (ag_si (by decide))) (ag_si (by decide))) (ag_sa (by decide))) (ag_sa (by decide)))⟩
            · rw [pC, if_pos rfl]
              refine (cp_go (v := ()) rfl).trans ?_
              refine (cl_go x1).trans ?_
              rw [x3_pu, nS_e]
              have : zf_X4_clear N z (mq_sa (mq_si S1 25 (nI ln)) 28 aa) = some ((), mq_si (mq_si (mq_si (mq_sa (mq_si S1 25 (nI ln)) 28 aa) 23 0) 22 0) 24 0) := by
                unfold zf_X4_clear
                rw [nS_e, nS_e, mq_cz_0, nS_e]
              exact cl_go this
            · rw [pR, if_pos rfl, mq_cz_1, nS_e, nS_e, show (mq_si (mq_si S2 29 1) 31 0).1 26 = nI ln from w4, nS_e, nI_e]
              have i1' : mq_sa (mq_sa (mq_si (mq_si (mq_si S2 29 1) 31 0) 30 (nI ln)) 32 (S2.2.1 32)) 33 (S2.2.1 33) = mq_si (mq_si (mq_si S2 29 1) 31 0) 30 (nI ln) := by
                rw [show mq_sa (mq_si (mq_si (mq_si S2 29 1) 31 0) 30 (nI ln)) 32 (S2.2.1 32) = mq_si (mq_si (mq_si S2 29 1) 31 0) 30 (nI ln) from sa_i (mq_si (mq_si (mq_si S2 29 1) 31 0) 30 (nI ln)) 32]
                exact sa_i (mq_si (mq_si (mq_si S2 29 1) 31 0) 30 (nI ln)) 33
              rw [i1'] at y1
              exact y1
            · obtain ⟨r, f, q1, q2, q3, q4, q5⟩ := w5 i hi
              obtain ⟨q6, q7⟩ := y2 i hi
              exact ⟨r, f, q1, q2, (x2 i hi).trans q3, q6.trans q4, q7.trans q5⟩
          · subst e
            obtain ⟨mm, hm1, hm2, -, -⟩ := ivp
            obtain ⟨X, x1, x2⟩ := pu_4 (N := N) (z := z) (S := S1) hm2 hm1
            have hc1 : cxC S1 n so on tw d := cxC_f hc t4
            have hx1 : cxR S2 n so on tw d := cxR_f (S0 := mq_si SR 0 0) (cxR_c hx rfl rfl rfl rfl) t5
            obtain ⟨S3, y4, y2, y3, y6, y7, y5⟩ := ck_fillT (N := N) (z := z) (S := mq_si S1 25 (nI 0)) (l := fun _ => 0) (by omega) (cxC_c hc1 rfl rfl rfl rfl rfl rfl) w3 w2
            obtain ⟨S4, r1, r2, r4, r5, r3⟩ := tk_allT (N := N) (z := z) (S := mq_si S2 29 0) (le := S1.2.2 1) (by omega) (cxR_c hx1 rfl rfl rfl rfl) w4 w2 (fun v u hv hu => w5 v hv u hu)
            have mo2 : mo S3 S4 := ⟨W, w2, y2, r2, fun a ha => by rw [y6 a ha, r4 a ha]; exact lt_c (fun f hf => (w6 a ha f (by omega)).symm), _, y7, r5⟩
            obtain ⟨lx, lx1, lx2⟩ := u3
            refine ⟨0, S3, S4, ?_, ?_, ⟨0, by omega, (y4.1 25 (by decide)).trans rfl, Or.inl ⟨rfl, (r1.1 29 (by decide)).trans rfl⟩, fun i hi => by omega⟩, ⟨lx, lx1, (y4.1 20 (by decide)).trans lx2⟩, ⟨⟨W, w2, y2⟩, 0, by omega, y3⟩, ⟨W, w2, r2⟩, ⟨?_, ?_, ?_, ?_⟩, mo2, Or.inl y3, ag_tr fC (ag_tr (ag_si (by decide)) (ag_mono y4 (by decide) (by decide) (by decide))), ag_tr fR (ag_tr (ag_si (by decide)) (ag_mono r1 (by decide) (by decide) (by decide)))⟩
            · rw [pC, if_neg (by decide), if_pos rfl]
              refine (cl_go x1).trans ?_
              rw [x2, nS_e]
              exact cl_go y5
            · rw [pR, if_neg (by decide), if_pos rfl, mq_cz_0, nS_e]
              exact cl_go r3
            · rw [y4.2.1 21 (by decide), r1.1 19 (by decide)]; exact cn.1
            · rw [y4.2.1 21 (by decide), r1.1 20 (by decide)]; exact cn.2.1
            · rw [y4.2.1 21 (by decide), r1.1 21 (by decide)]; exact cn.2.2.1
            · rw [y4.2.1 21 (by decide), r1.1 22 (by decide)]; exact cn.2.2.2
        · have b' : 100000 < v2 := Int32.not_le.mp b
          apply quit
          · unfold zf_X10_prove
            refine (cp_go filled).trans ?_
            rw [if_neg (by decide), if_neg a, if_neg b]
          · rw [preR, ← s1, s3, if_neg (nI_nm (by omega))]
            refine (cp_go (rf_in v2 1 100000)).trans ?_
            rw [if_pos (Or.inr b'), if_pos rfl]
end PROVE2
end
/-! aq.reb -/
section
/-! rebuild() of the class and settle() of the reference, to the letter. -/
section REB
variable {N n : Nat} {z : Nat → Nat} {S S0 : mq_St} {W w c : Nat} {og : Nat → Nat}
theorem sbi_0 (j : Nat) : sbi 0 j = false := BitVec.getLsbD_zero
theorem bit_t {v : Int64} {k : Nat} (hk : k < 64) : (lg_cmp ((mq_lushr v (nI k)) &&& 1) (0 : Int64) = 0) ↔ ¬ sbi v k = true := by
  rw [lg_cmp_eq, l_bit v hk]
  unfold sbi
  cases v.toBitVec.getLsbD k <;> simp
theorem mv_T (v : Int64) (hN : 100 ≤ N) (h : S.1 23 = nI W) (hW : W ≤ 60) (hb : ∀ w, w < W → S.2.1 26 w = -1 ∨ ∃ j, j < 60 ∧ S.2.1 26 w = nI j) : ∃ r, zf_X4_moved N z v S = some r ∧ ∀ j, j < 64 → (sbi r j = true ↔ ∃ w, w < W ∧ sbi v w = true ∧ S.2.1 26 w = nI j) := by
  have key : ∀ fu k (a : Int64), k ≤ W → W - k < fu → (∀ j, j < 64 → (sbi a j = true ↔ ∃ w, w < k ∧ sbi v w = true ∧ S.2.1 26 w = nI j)) → ∃ r, zf_X4_moved_5 N z S fu v a (nI k) = some r ∧ ∀ j, j < 64 → (sbi r j = true ↔ ∃ w, w < W ∧ sbi v w = true ∧ S.2.1 26 w = nI j) := by
    intro fu
    induction fu with
    | zero => intro k a _ h; omega
    | succ fu ih =>
      intro k a hk hfu ha
      show ∃ r, zf_X4_moved_5b N z S (fun v1 v3 v5 => zf_X4_moved_5 N z S fu v1 v3 v5) v a (nI k) = some r ∧ _
      unfold zf_X4_moved_5b zf_X4_moved_48
      by_cases e : k = W
      · rw [h, e, if_pos (nI_le (Nat.le_refl _) (by omega))]
        subst e
        exact ⟨a, rfl, ha⟩
      · have hk' : k < W := by omega
        have i1 : vp_in (nI k) 60 := vp_in_nI (by omega) (by omega)
        rw [h, if_neg (nI_ge hk' (by omega)), mq_ck_of i1, mq_ck_of i1, nL_e, nI_e, nI_e, nI_1, nI_clamp (show k < 2147483648 by omega)]
        have same : (sbi v k = true → S.2.1 26 k = -1) → ∀ j, j < 64 → (sbi a j = true ↔ ∃ w, w < k + 1 ∧ sbi v w = true ∧ S.2.1 26 w = nI j) := fun hs j hj => by
          rw [ha j hj]
          constructor
          · rintro ⟨w, h1, h2, h3⟩; exact ⟨w, by omega, h2, h3⟩
          · rintro ⟨w, h1, h2, h3⟩
            by_cases q : w = k
            · subst q
              rw [hs h2] at h3
              exact absurd h3.symm (nI_nm1 (by omega))
            · exact ⟨w, by omega, h2, h3⟩
        by_cases e1 : sbi v k = true
        · rw [if_neg (fun q => (bit_t (by omega)).mp q e1)]
          rcases hb k hk' with q | ⟨m, hm, q⟩
          · rw [if_pos q]
            exact ih (k + 1) a (by omega) (by omega) (same (fun _ => q))
          · rw [if_neg (by rw [q]; exact nI_nm1 (by omega)), q]
            refine ih (k + 1) _ (by omega) (by omega) (fun j hj => ?_)
            rw [sbi_or, sbi_1 (by omega) (by omega), Bool.or_eq_true, ha j hj, decide_eq_true_iff]
            constructor
            · rintro (⟨w, h1, h2, h3⟩ | rfl)
              · exact ⟨w, by omega, h2, h3⟩
              · exact ⟨k, by omega, e1, q⟩
            · rintro ⟨w, h1, h2, h3⟩
              by_cases p : w = k
              · subst p
                right
                exact (sp_inj (q.symm.trans h3) (by omega) (by omega)).symm
              · exact Or.inl ⟨w, by omega, h2, h3⟩
        · rw [if_pos ((bit_t (by omega)).mpr e1)]
          exact ih (k + 1) a (by omega) (by omega) (same (fun q => absurd q e1))
  unfold zf_X4_moved
  rw [nL_e, nI_e]
  exact key N 0 0 (by omega) (by omega) (fun j hj => by rw [sbi_0]; simp)
/-- what the first loop of rebuild() has done for the worlds from k on -/
def rbI (S T : mq_St) (W k : Nat) : Prop := ag [] [24, 27] [8] S T ∧ (∀ w, k ≤ w → w < W → T.2.1 24 w = S.2.1 23 w ∧ ∀ j, j < 60 → (sbi (T.2.2 8 w) j = true ↔ ∃ x, x < W ∧ sbi (S.2.2 7 w) x = true ∧ S.2.1 26 x = nI j)) ∧ ∀ w, k ≤ w → w < W → ∀ j, j < 60 → S.2.1 26 w = nI j → ∃ x, k ≤ x ∧ x ≤ w ∧ T.2.1 27 j = nI x ∧ S.2.1 26 x = nI j ∧ ∀ y, k ≤ y → y < x → S.2.1 26 y ≠ nI j
theorem rb_79T {T : mq_St} (hN : 100 ≤ N) (h : S.1 23 = nI W) (hW : W ≤ 60) (hc : c ≤ W) (hog : ∀ n, n < c → og n < W ∧ S.2.1 26 (og n) = nI n ∧ ∀ w, w < og n → S.2.1 26 w ≠ nI n) (hT : rbI S T W 0) : ∃ S', frM S S' ∧ S'.1 23 = nI c ∧ S'.1 22 = 0 ∧ (∀ n, n < c → S'.2.1 23 n = S.2.1 23 (og n)) ∧ (∀ n j, n < c → j < 60 → (sbi (S'.2.2 7 n) j = true ↔ ∃ x, x < W ∧ sbi (S.2.2 7 (og n)) x = true ∧ S.2.1 26 x = nI j)) ∧ zf_X4_rebuild_79 N z N (nI c) (nI 0) T = some ((), S') := by
  obtain ⟨t1, t2, t3⟩ := hT
  have o27 : ∀ n, n < c → T.2.1 27 n = nI (og n) := fun n hn => by
    obtain ⟨g1, g2, g3⟩ := hog n hn
    obtain ⟨x, -, x2, x3, x4, x5⟩ := t3 (og n) (by omega) g1 n (by omega) g2
    by_cases q : x < og n
    · exact absurd x4 (g3 x q)
    · rw [x3, show x = og n by omega]
  obtain ⟨T2, ⟨b1, b2⟩, b3⟩ := lp_i (F := fun fu k T => zf_X4_rebuild_79 N z fu (nI c) k T) (n := c) (I := fun k T2 => ag [] [23] [7] T T2 ∧ ∀ n, n < k → T2.2.1 23 n = T.2.1 24 (og n) ∧ T2.2.2 7 n = T.2.2 8 (og n)) (G := fun T => zf_X4_rebuild_141 N z (nI c) T) (fun fu T2 hI => by
    show zf_X4_rebuild_79b N z _ (nI c) (nI c) T2 = _
    unfold zf_X4_rebuild_79b
    rw [if_pos (nI_le (Nat.le_refl _) (by omega))]) (fun fu k T2 hk hI => by
    show ∃ S', _ ∧ zf_X4_rebuild_79b N z (fun v1 v2 S => zf_X4_rebuild_79 N z fu v1 v2 S) (nI c) (nI k) T2 = _
    have i1 : vp_in (nI k) 60 := vp_in_nI (by omega) (by omega)
    have g1 := (hog k hk).1
    have i2 : vp_in (nI (og k)) 60 := vp_in_nI (by omega) (by omega)
    have h23 : T2.1 23 = nI W := (hI.1.1 23 (by decide)).trans ((t1.1 23 (by decide)).trans h)
    have h27 : T2.2.1 27 k = nI (og k) := by rw [hI.1.2.1 27 (by decide)]; exact o27 k hk
    refine ⟨mq_sl (mq_sa T2 23 (upd (T2.2.1 23) k (T2.2.1 24 (og k)))) 7 (vp_updL (T2.2.2 7) k (T2.2.2 8 (og k))), ⟨ag_tr hI.1 (ag_tr (ag_sa (by decide)) (ag_sl (by decide))), fun n hn => ?_⟩, ?_⟩
    · show upd (T2.2.1 23) k (T2.2.1 24 (og k)) n = _ ∧ vp_updL (T2.2.2 7) k (T2.2.2 8 (og k)) n = _
      by_cases q : n = k
      · rw [q, up_s, ul_s, hI.1.2.1 24 (by decide), hI.1.2.2 8 (by decide)]; exact ⟨rfl, rfl⟩
      · rw [up_o q, ul_o q]; exact hI.2 n (by omega)
    · unfold zf_X4_rebuild_79b zf_X4_rebuild_135
      rw [if_neg (nI_ge hk (by omega)), h23, if_neg (nI_ge (show k < W by omega) (by omega)), mq_ck_of i1, nI_clamp (show k < 2147483648 by omega), h27, nI_e, if_neg (nI_pos (by omega)), if_neg (nI_ge g1 (by omega)), mq_ck_of i2, mq_ck_of i1, nI_clamp (show og k < 2147483648 by omega), nS_e, mq_ck_of i2, mq_ck_of i1, nS_e, nI_e, nI_1]
      rfl) N 0 T (by omega) (by omega) ⟨ag_rf, fun n hn => by omega⟩
  have h23 : T2.1 23 = nI W := (b1.1 23 (by decide)).trans ((t1.1 23 (by decide)).trans h)
  refine ⟨mq_si (mq_si (mq_si T2 23 (nI c)) 22 0) 24 1, ag_tr (ag_tr (ag_mono t1 (by decide) (by decide) (by decide)) (ag_mono b1 (by decide) (by decide) (by decide))) (ag_tr (ag_tr (ag_si (by decide)) (ag_si (by decide))) (ag_si (by decide))), rfl, rfl, fun n hn => ?_, fun n j hn hj => ?_, Eq.trans b3 ?_⟩
  · show T2.2.1 23 n = _
    rw [(b2 n hn).1]; exact (t2 (og n) (by omega) (hog n hn).1).1
  · show sbi (T2.2.2 7 n) j = true ↔ _
    rw [(b2 n hn).2]; exact (t2 (og n) (by omega) (hog n hn).1).2 j hj
  · unfold zf_X4_rebuild_141
    have mn : mq_min (nI c) (nI W) = nI c := if_neg (nI_nlt hc (by omega))
    rw [h23, nS_e, nS_e, mq_cz_1, nS_e, mn]
theorem rb_7T (hN : 200 ≤ N) (h : S.1 23 = nI W) (hW : W ≤ 60) (hb : ∀ w, w < W → S.2.1 26 w = -1 ∨ ∃ j, j < 60 ∧ S.2.1 26 w = nI j) : ∀ (k fu : Nat) (T : mq_St), k ≤ W → k < fu → rbI S T W k → ∃ T', rbI S T' W 0 ∧ zf_X4_rebuild_7 N z fu (nI c) (nI k - 1) T = zf_X4_rebuild_79 N z N (nI c) (nI 0) T'
  | 0, 0, T, _, h, _ => by omega
  | 0, fu + 1, T, _, _, hT => by
    refine ⟨T, hT, ?_⟩
    show zf_X4_rebuild_7b N z _ (nI c) (nI 0 - 1) T = _
    unfold zf_X4_rebuild_7b
    rw [if_pos (by decide), nI_e]
    rfl
  | k + 1, 0, T, _, h, _ => by omega
  | k + 1, fu + 1, T, hk, hfu, hT => by
    obtain ⟨t1, t2, t3⟩ := hT
    have e1 : nI (k + 1) - 1 = nI k := by rw [show (1 : Int32) = nI 1 from rfl, pk_sub (by omega)]; rfl
    have e2 : nI k + -1 = nI k - 1 := (Int32.sub_eq_add_neg (nI k) 1).symm
    have i1 : vp_in (nI k) 60 := vp_in_nI (by omega) (by omega)
    have ck : (nI k).toNatClampNeg = k := nI_clamp (by omega)
    rw [e1]
    show ∃ T', _ ∧ zf_X4_rebuild_7b N z (fun v1 v2 S => zf_X4_rebuild_7 N z fu v1 v2 S) (nI c) (nI k) T = _
    have h23 : T.1 23 = nI W := (t1.1 23 (by decide)).trans h
    have h26 : T.2.1 26 = S.2.1 26 := t1.2.1 26 (by decide)
    have h7 : T.2.2 7 = S.2.2 7 := t1.2.2 7 (by decide)
    obtain ⟨r, hr, hr2⟩ := mv_T (N := N) (z := z) (S := T) (T.2.2 7 k) (by omega) h23 hW (by rw [h26]; exact hb)
    rw [h26, h7] at hr2
    unfold zf_X4_rebuild_7b zf_X4_rebuild_71
    rw [if_neg (show ¬ nI k < (0 : Int32) from nI_nlt (b := 0) (by omega) (by omega)), mq_ck_of i1, ck, hr, mq_cp_s, mq_ck_of i1, nS_e, mq_ck_of i1, mq_ck_of i1, nS_e, mq_ck_of i1, mq_ck_of i1, mq_ck_of i1, nI_e, e2]
    have hU : (mq_sa (mq_sl T 8 (vp_updL (T.2.2 8) k r)) 24 (upd ((mq_sl T 8 (vp_updL (T.2.2 8) k r)).2.1 24) k ((mq_sl T 8 (vp_updL (T.2.2 8) k r)).2.1 23 k))).2.1 26 k = S.2.1 26 k := congrFun h26 k
    rw [hU]
    have f1 : ag [] [24, 27] [8] S (mq_sa (mq_sl T 8 (vp_updL (T.2.2 8) k r)) 24 (upd ((mq_sl T 8 (vp_updL (T.2.2 8) k r)).2.1 24) k ((mq_sl T 8 (vp_updL (T.2.2 8) k r)).2.1 23 k))) := ag_tr t1 (ag_tr (ag_sl (by decide)) (ag_sa (by decide)))
    have f2 : ∀ w, k ≤ w → w < W → upd (T.2.1 24) k (T.2.1 23 k) w = S.2.1 23 w ∧ ∀ j, j < 60 → (sbi (vp_updL (T.2.2 8) k r w) j = true ↔ ∃ x, x < W ∧ sbi (S.2.2 7 w) x = true ∧ S.2.1 26 x = nI j) := fun w hw1 hw2 => by
      by_cases q : w = k
      · rw [q, up_s, ul_s, t1.2.1 23 (by decide)]; exact ⟨rfl, fun j hj => hr2 j (by omega)⟩
      · rw [up_o q, ul_o q]; exact t2 w (by omega) hw2
    rcases hb k (by omega) with q | ⟨m, hm, q⟩
    · rw [q, if_pos (by decide)]
      refine rb_7T hN h hW hb k fu _ (by omega) (by omega) ⟨f1, f2, fun w hw1 hw2 j hj e => ?_⟩
      have : w ≠ k := fun p => by rw [p, q] at e; exact absurd e.symm (nI_nm1 (by omega))
      obtain ⟨x, x1, x2, x3, x4, x5⟩ := t3 w (by omega) hw2 j hj e
      refine ⟨x, by omega, x2, x3, x4, fun y hy1 hy2 p => ?_⟩
      by_cases e' : y = k
      · rw [e', q] at p; exact absurd p.symm (nI_nm1 (by omega))
      · exact x5 y (by omega) hy2 p
    · rw [q, if_neg (show ¬ nI m < (0 : Int32) from nI_nlt (b := 0) (by omega) (by omega)), if_neg (show ¬ (60 : Int32) ≤ nI m from nI_ge (b := 60) hm (by omega)), mq_ck_of (vp_in_nI hm (by omega)), nI_clamp (show m < 2147483648 by omega), nS_e, nI_e]
      refine rb_7T hN h hW hb k fu _ (by omega) (by omega) ⟨ag_tr f1 (ag_sa (by decide)), f2, fun w hw1 hw2 j hj e => ?_⟩
      by_cases ej : j = m
      · refine ⟨k, by omega, by omega, ?_, by rw [ej]; exact q, fun y hy1 hy2 => by omega⟩
        rw [ej]; exact up_s _ _ _
      · have : w ≠ k := fun p => by rw [p, q] at e; exact ej (sp_inj e (by omega) (by omega)).symm
        obtain ⟨x, x1, x2, x3, x4, x5⟩ := t3 w (by omega) hw2 j hj e
        refine ⟨x, by omega, x2, (up_o ej).trans x3, x4, fun y hy1 hy2 p => ?_⟩
        by_cases e' : y = k
        · rw [e', q] at p; exact ej (sp_inj p (by omega) (by omega)).symm
        · exact x5 y (by omega) hy2 p
theorem ck_rebT (hN : 200 ≤ N) (h : S.1 23 = nI W) (hW : W ≤ 60) (hb : ∀ w, w < W → S.2.1 26 w = -1 ∨ ∃ j, j < 60 ∧ S.2.1 26 w = nI j) (hc : c ≤ W) (hog : ∀ n, n < c → og n < W ∧ S.2.1 26 (og n) = nI n ∧ ∀ w, w < og n → S.2.1 26 w ≠ nI n) : ∃ S', frM S S' ∧ S'.1 23 = nI c ∧ S'.1 22 = 0 ∧ (∀ n, n < c → S'.2.1 23 n = S.2.1 23 (og n)) ∧ (∀ n j, n < c → j < 60 → (sbi (S'.2.2 7 n) j = true ↔ ∃ x, x < W ∧ sbi (S.2.2 7 (og n)) x = true ∧ S.2.1 26 x = nI j)) ∧ zf_X4_rebuild N z (nI c) S = some ((), S') := by
  obtain ⟨T, a, b⟩ := rb_7T (N := N) (z := z) (c := c) hN h hW hb W N S (Nat.le_refl _) (by omega) ⟨ag_rf, fun w h1 h2 => by omega, fun w h1 h2 => by omega⟩
  obtain ⟨S', a1, a2, a3, a4, a5, a6⟩ := rb_79T (N := N) (z := z) (by omega) h hW hc hog a
  refine ⟨S', a1, a2, a3, a4, a5, ?_⟩
  unfold zf_X4_rebuild
  rw [h, nI_e, b]; exact a6
theorem nb_b (b : Bool) : vp_nar .boolean (if b = true then (1 : Int32) else 0) = if b = true then 1 else 0 := by
  cases b
  · exact nb0
  · exact nb1
/-- settle() of the reference -/
theorem rf_settleT {M : Nat → Nat → Bool} (hN : 100 ≤ N) (hc : c ≤ 60) (hk : ∀ n, n < c → og n < 60 ∧ S.2.1 42 n = nI (og n)) (hm : ∀ i j, i < c → j < c → S.2.1 43 (60 * i + j) = if M i j = true then 1 else 0) : ∃ S', ag [31] [34, 35, 36, 40] [] S S' ∧ S'.1 31 = nI c ∧ (∀ n, n < c → S'.2.1 34 n = S.2.1 34 (og n)) ∧ mtR S' c M ∧ zf_X11_settle N z (nI c) S = some ((), S') := by
  obtain ⟨T, ⟨a1, a2⟩, a3⟩ := lp_i (F := fun fu j T => zf_X11_settle_2 N z fu (nI c) j T) (n := c) (I := fun k T => ag [] [40] [] S T ∧ ∀ n, n < k → T.2.1 40 n = S.2.1 34 (og n)) (G := fun T => zf_X11_settle_32 N z N (nI c) 0 T) (fun fu T hI => by
    show zf_X11_settle_2b N z _ (nI c) (nI c) T = _
    unfold zf_X11_settle_2b
    rw [if_pos (nI_le (Nat.le_refl _) (by omega)), nI_e]) (fun fu j T hj hI => by
    obtain ⟨hq, hq'⟩ := hk j hj
    refine ⟨mq_sa T 40 (upd (T.2.1 40) j (S.2.1 34 (og j))), ⟨ag_tr hI.1 (ag_sa (by decide)), fun n hn => ?_⟩, ?_⟩
    · show upd (T.2.1 40) j (S.2.1 34 (og j)) n = _
      by_cases q : n = j
      · rw [q, up_s]
      · rw [up_o q]; exact hI.2 n (by omega)
    · show zf_X11_settle_2b N z (fun v1 v2 S => zf_X11_settle_2 N z fu v1 v2 S) (nI c) (nI j) T = _
      unfold zf_X11_settle_2b
      have i1 : vp_in (nI j) 60 := vp_in_nI (by omega) (by omega)
      rw [if_neg (nI_ge hj (by omega)), mq_ck_of i1, nI_clamp (show j < 2147483648 by omega), hI.1.2.1 42 (by decide), hq', mq_ck_of (vp_in_nI (by omega) (by omega)), mq_ck_of i1, nI_clamp (show og j < 2147483648 by omega), hI.1.2.1 34 (by decide), nS_e, nI_e, nI_1]) N 0 S (by omega) (by omega) ⟨ag_rf, fun n hn => by omega⟩
  obtain ⟨T2, ⟨b1, b2⟩, b3⟩ := lp_i (F := fun fu j T => zf_X11_settle_32 N z fu (nI c) j T) (n := c) (I := fun k T2 => ag [] [34, 35, 36] [] T T2 ∧ ∀ i, i < k → T2.2.1 34 i = T.2.1 40 i ∧ ∀ j, j < c → T2.2.1 35 (60 * i + j) = if M i j = true then 1 else 0) (G := fun T => some ((), mq_si T 31 (nI c))) (fun fu T hI => by
    show zf_X11_settle_32b N z _ (nI c) (nI c) T = _
    unfold zf_X11_settle_32b
    rw [if_pos (nI_le (Nat.le_refl _) (by omega)), nS_e]) (fun fu k T2 hk' hI => by
    have i1 : vp_in (nI k) 60 := vp_in_nI (by omega) (by omega)
    have ck : (nI k).toNatClampNeg = k := nI_clamp (by omega)
    obtain ⟨T3, ⟨c1, c2⟩, c3⟩ := lp_i (F := fun fu2 j T => zf_X11_settle_58 N z (fun v1 v2 S => zf_X11_settle_32 N z fu v1 v2 S) fu2 (nI c) (nI k) j T) (n := c) (I := fun j T3 => ag [] [35] [] (mq_sa (mq_sa T2 34 (upd (T2.2.1 34) k (T2.2.1 40 k))) 36 (upd (T2.2.1 36) k (-1))) T3 ∧ ∀ x y, y < 60 → T3.2.1 35 (60 * x + y) = if x = k ∧ y < j then (if M k y = true then 1 else 0) else T2.2.1 35 (60 * x + y)) (G := fun T => zf_X11_settle_32 N z fu (nI c) (nI (k + 1)) T) (fun fu2 T3 hJ => by
      show zf_X11_settle_58b N z _ _ (nI c) (nI k) (nI c) T3 = _
      unfold zf_X11_settle_58b
      rw [if_pos (nI_le (Nat.le_refl _) (by omega)), nI_e, nI_1]) (fun fu2 j T3 hj hJ => by
      have v43 : T3.2.1 43 (60 * k + j) = if M k j = true then 1 else 0 := by
        rw [hJ.1.2.1 43 (by decide)]
        show T2.2.1 43 (60 * k + j) = _
        rw [hI.1.2.1 43 (by decide), a1.2.1 43 (by decide)]
        exact hm k j hk' hj
      refine ⟨mq_sa T3 35 (upd (T3.2.1 35) (60 * k + j) (if M k j = true then 1 else 0)), ⟨ag_tr hJ.1 (ag_sa (by decide)), fun x y hy => ?_⟩, ?_⟩
      · show upd (T3.2.1 35) (60 * k + j) (if M k j = true then 1 else 0) (60 * x + y) = _
        by_cases q : x = k ∧ y = j
        · rw [q.1, q.2, up_s, if_pos (show k = k ∧ j < j + 1 from ⟨rfl, by omega⟩)]
        · rw [up_o (by rw [i60 hy (by omega)]; exact q), hJ.2 x y hy]
          by_cases q' : x = k ∧ y < j
          · rw [if_pos q', if_pos (show x = k ∧ y < j + 1 from ⟨q'.1, by omega⟩)]
          · rw [if_neg q', if_neg (show ¬ (x = k ∧ y < j + 1) from fun p => q' ⟨p.1, by have := p.2; by_cases e : y = j; exact absurd ⟨p.1, e⟩ q; omega⟩)]
      · show zf_X11_settle_58b N z (fun v1 v2 S => zf_X11_settle_32 N z fu v1 v2 S) (fun v1 v2 v3 S => zf_X11_settle_58 N z (fun v1 v2 S => zf_X11_settle_32 N z fu v1 v2 S) fu2 v1 v2 v3 S) (nI c) (nI k) (nI j) T3 = _
        unfold zf_X11_settle_58b
        have i2 : vp_in (nI (60 * k + j)) 3600 := vp_in_nI (by omega) (by omega)
        rw [if_neg (nI_ge hj (by omega)), e60, mq_ck_of i2, mq_ck_of i2, nI_clamp (by omega), v43, nb_b, nS_e, nI_e, nI_1]) N 0 (mq_sa (mq_sa T2 34 (upd (T2.2.1 34) k (T2.2.1 40 k))) 36 (upd (T2.2.1 36) k (-1))) (by omega) (by omega) ⟨ag_rf, fun x y hy => by rw [if_neg (by omega)]; rfl⟩
    refine ⟨T3, ⟨ag_tr hI.1 (ag_tr (ag_tr (ag_sa (by decide)) (ag_sa (by decide))) (ag_mono c1 (by decide) (by decide) (by decide))), fun i hi => ⟨?_, fun j hj => ?_⟩⟩, ?_⟩
    · rw [c1.2.1 34 (by decide)]
      show upd (T2.2.1 34) k (T2.2.1 40 k) i = _
      by_cases q : i = k
      · rw [q, up_s, hI.1.2.1 40 (by decide)]
      · rw [up_o q]; exact (hI.2 i (by omega)).1
    · rw [c2 i j (by omega)]
      by_cases q : i = k
      · rw [if_pos (show i = k ∧ j < c from ⟨q, hj⟩), q]
      · rw [if_neg (show ¬ (i = k ∧ j < c) from fun p => q p.1)]; exact (hI.2 i (by omega)).2 j hj
    · show zf_X11_settle_32b N z (fun v1 v2 S => zf_X11_settle_32 N z fu v1 v2 S) (nI c) (nI k) T2 = _
      unfold zf_X11_settle_32b
      rw [if_neg (nI_ge hk' (by omega)), mq_ck_of i1, mq_ck_of i1, ck, nS_e, mq_ck_of i1, nS_e, nI_e]
      exact c3) N 0 T (by omega) (by omega) ⟨ag_rf, fun n hn => by omega⟩
  refine ⟨mq_si T2 31 (nI c), ag_tr (ag_tr (ag_mono a1 (by decide) (by decide) (by decide)) (ag_mono b1 (by decide) (by decide) (by decide))) (ag_si (by decide)), rfl, fun n hn => ?_, fun i j hi hj => (b2 i hi).2 j hj, ?_⟩
  · show T2.2.1 34 n = _
    rw [(b2 n hn).1]; exact a2 n hn
  · unfold zf_X11_settle
    rw [nI_e]
    exact Eq.trans a3 b3
end REB
end
/-! ar.cut2 -/
section
/-! cut(): class and reference alike. -/
/-- the worlds that a cut keeps, of the first k -/
def kl (a : Nat) (M : Nat → Nat → Bool) : Nat → List Nat
  | 0 => [a]
  | k + 1 => if k ≠ a ∧ M a k = true then kl a M k ++ [k] else kl a M k
section CUT2
variable {N n : Nat} {z : Nat → Nat} {S S0 SC SR : mq_St} {W w c a : Nat} {M : Nat → Nat → Bool}
theorem kl_mem {x : Nat} : ∀ k, x ∈ kl a M k → x = a ∨ x < k
  | 0, h => by
    have : x ∈ [a] := h
    simp at this; exact Or.inl this
  | k + 1, h => by
    have h : x ∈ (if k ≠ a ∧ M a k = true then kl a M k ++ [k] else kl a M k) := h
    split at h
    · rcases List.mem_append.mp h with q | q
      · exact (kl_mem k q).imp id (fun q => by omega)
      · simp at q; right; omega
    · exact (kl_mem k h).imp id (fun q => by omega)
theorem kl_0 : ∀ k, (kl a M k)[0]? = some a
  | 0 => rfl
  | k + 1 => by
    show (if k ≠ a ∧ M a k = true then kl a M k ++ [k] else kl a M k)[0]? = some a
    split
    · rw [List.getElem?_append_left (List.getElem?_eq_some_iff.mp (kl_0 k)).1]; exact kl_0 k
    · exact kl_0 k
theorem kl_len : ∀ k, (kl a M k).length ≤ k + 1 ∧ (a < k → (kl a M k).length ≤ k)
  | 0 => ⟨by show [a].length ≤ 1; simp, fun h => by omega⟩
  | k + 1 => by
    obtain ⟨h1, h2⟩ := kl_len k
    have e : (kl a M (k + 1)).length = if k ≠ a ∧ M a k = true then (kl a M k).length + 1 else (kl a M k).length := by
      show (if k ≠ a ∧ M a k = true then kl a M k ++ [k] else kl a M k).length = _
      split
      · rw [List.length_append]; rfl
      · rfl
    rw [e]
    split
    · rename_i q
      exact ⟨by omega, fun h => by have := h2 (by omega); omega⟩
    · exact ⟨by omega, fun h => by omega⟩
theorem kl_inj {x : Nat} : ∀ (k i j : Nat), (kl a M k)[i]? = some x → (kl a M k)[j]? = some x → i = j
  | 0, i, j, hi, hj => by
    have h1 := (List.getElem?_eq_some_iff.mp hi).1
    have h2 := (List.getElem?_eq_some_iff.mp hj).1
    have h1 : i < 1 := h1
    have h2 : j < 1 := h2
    omega
  | k + 1, i, j, hi, hj => by
    have hi : (if k ≠ a ∧ M a k = true then kl a M k ++ [k] else kl a M k)[i]? = some x := hi
    have hj : (if k ≠ a ∧ M a k = true then kl a M k ++ [k] else kl a M k)[j]? = some x := hj
    split at hi
    · rename_i q
      rw [if_pos q] at hj
      have out : ∀ m, (kl a M k)[m]? = some k → False := fun m hm => by
        rcases kl_mem k (List.mem_of_getElem? hm) with p | p
        · exact q.1 p
        · omega
      have cs : ∀ m, (kl a M k ++ [k])[m]? = some x → (m < (kl a M k).length ∧ (kl a M k)[m]? = some x) ∨ (m = (kl a M k).length ∧ x = k) := fun m hm => by
        by_cases p : m < (kl a M k).length
        · rw [List.getElem?_append_left p] at hm; exact Or.inl ⟨p, hm⟩
        · rw [List.getElem?_append_right (by omega)] at hm
          have p2 := (List.getElem?_eq_some_iff.mp hm).1
          have p2 : m - (kl a M k).length < 1 := p2
          have e : m - (kl a M k).length = 0 := by omega
          rw [e] at hm
          exact Or.inr ⟨by omega, (Option.some.inj hm).symm⟩
      rcases cs i hi with ⟨-, p⟩ | ⟨p, p'⟩
      · rcases cs j hj with ⟨-, r⟩ | ⟨r, r'⟩
        · exact kl_inj k i j p r
        · rw [r'] at p; exact (out i p).elim
      · rcases cs j hj with ⟨-, r⟩ | ⟨r, -⟩
        · rw [p'] at r; exact (out j r).elim
        · omega
    · rename_i q
      rw [if_neg q] at hj
      exact kl_inj k i j hi hj
/-- the class's record of what the first k worlds become -/
def klC (b : Nat → Int32) (a : Nat) (M : Nat → Nat → Bool) (k : Nat) : Prop := ∀ w, w < k → (∃ i, (kl a M k)[i]? = some w ∧ b w = nI i) ∨ (w ∉ kl a M k ∧ b w = -1)
theorem klC_s {b b' : Nat → Int32} {k : Nat} (h : klC b a M k) (e : ∀ w, w < k → b' w = b w) (hk : (k = a ∧ b' k = 0) ∨ (k ≠ a ∧ M a k = true ∧ b' k = nI (kl a M k).length) ∨ (k ≠ a ∧ ¬ M a k = true ∧ b' k = -1)) : klC b' a M (k + 1) := by
  intro w hw
  show (∃ i, (if k ≠ a ∧ M a k = true then kl a M k ++ [k] else kl a M k)[i]? = some w ∧ b' w = nI i) ∨ (w ∉ (if k ≠ a ∧ M a k = true then kl a M k ++ [k] else kl a M k) ∧ b' w = -1)
  by_cases q : w = k
  · subst q
    rcases hk with ⟨h1, h2⟩ | ⟨h1, h2, h3⟩ | ⟨h1, h2, h3⟩
    · left
      rw [if_neg (fun p => p.1 h1)]
      exact ⟨0, by rw [kl_0, h1], h2⟩
    · left
      rw [if_pos ⟨h1, h2⟩]
      exact ⟨(kl a M w).length, by rw [List.getElem?_append_right (Nat.le_refl _), Nat.sub_self]; rfl, h3⟩
    · right
      rw [if_neg (fun p => h2 p.2)]
      exact ⟨fun m => (kl_mem w m).elim h1 (fun p => by omega), h3⟩
  · have hw' : w < k := by omega
    rw [e w hw']
    rcases h w hw' with ⟨i, h1, h2⟩ | ⟨h1, h2⟩
    · left
      refine ⟨i, ?_, h2⟩
      split
      · rw [List.getElem?_append_left (List.getElem?_eq_some_iff.mp h1).1]; exact h1
      · exact h1
    · right
      refine ⟨?_, h2⟩
      split
      · intro m
        rcases List.mem_append.mp m with p | p
        · exact h1 p
        · simp at p; omega
      · exact h1
theorem ct_4T (hN : 200 ≤ N) (h : S.1 23 = nI W) (hW : W ≤ 60) (ha : a < W) (hM : mtC S W M) : ∀ (fu k : Nat) (T : mq_St), k ≤ W → W - k < fu → ag [] [26] [] S T → klC (T.2.1 26) a M k → ∃ T', ag [] [26] [] S T' ∧ klC (T'.2.1 26) a M W ∧ zf_X4_cutTo_4 N z fu (nI a) (nI (kl a M k).length) (nI k) T = mq_cl (zf_X4_rebuild N z (nI (kl a M W).length) T') (fun _ S5 => some ((), S5))
  | 0, k, T, _, h, _, _ => by omega
  | fu + 1, k, T, hk, hfu, hT, hI => by
    show ∃ T', _ ∧ _ ∧ zf_X4_cutTo_4b N z (fun v1 v2 v3 S => zf_X4_cutTo_4 N z fu v1 v2 v3 S) (nI a) (nI (kl a M k).length) (nI k) T = _
    have h23 : T.1 23 = nI W := (hT.1 23 (by decide)).trans h
    unfold zf_X4_cutTo_4b zf_X4_cutTo_53
    rw [h23]
    by_cases e : k = W
    · subst e
      rw [if_pos (nI_le (Nat.le_refl _) (by omega))]
      exact ⟨T, hT, hI, rfl⟩
    · have hk' : k < W := by omega
      have i1 : vp_in (nI k) 60 := vp_in_nI (by omega) (by omega)
      have ck : (nI k).toNatClampNeg = k := nI_clamp (by omega)
      rw [if_neg (nI_ge hk' (by omega)), mq_ck_of i1, ck, nS_e, mq_ck_of i1, mq_ck_of i1, nI_e, nI_1]
      have f1 : ag [] [26] [] S (mq_sa T 26 (upd (T.2.1 26) k (-1))) := ag_tr hT (ag_sa (by decide))
      by_cases e' : nI k = nI a
      · have eka : k = a := sp_inj e' (by omega) (by omega)
        rw [if_pos e', nS_e, nI_e]
        have el : kl a M (k + 1) = kl a M k := if_neg (fun p => p.1 eka)
        have go := ct_4T hN h hW ha hM fu (k + 1) (mq_sa (mq_sa T 26 (upd (T.2.1 26) k (-1))) 26 (upd (upd (T.2.1 26) k (-1)) k 0)) (by omega) (by omega) (ag_tr f1 (ag_sa (by decide))) (klC_s hI (fun w hw => by
          show upd (upd (T.2.1 26) k (-1)) k 0 w = _
          rw [up_o (by omega), up_o (by omega)]) (Or.inl ⟨eka, up_s _ _ _⟩))
        rw [el] at go
        exact go
      · have nka : k ≠ a := fun q => e' (by rw [q])
        rw [if_neg e', ck_seenT (S := mq_sa T 26 (upd (T.2.1 26) k (-1))) h23 hW ha hk', mq_cp_s, show (mq_sa T 26 (upd (T.2.1 26) k (-1))).2.2 7 = S.2.2 7 from hT.2.2 7 (by decide), hM a k ha hk']
        by_cases er : M a k = true
        · have el : kl a M (k + 1) = kl a M k ++ [k] := if_pos ⟨nka, er⟩
          have ll : (kl a M (k + 1)).length = (kl a M k).length + 1 := by rw [el, List.length_append]; rfl
          rw [if_pos er, if_neg (show ¬ (1 : Int32) = 0 by decide), nS_e, nI_e, nI_1, nI_e]
          have go := ct_4T hN h hW ha hM fu (k + 1) (mq_sa (mq_sa T 26 (upd (T.2.1 26) k (-1))) 26 (upd (upd (T.2.1 26) k (-1)) k (nI (kl a M k).length))) (by omega) (by omega) (ag_tr f1 (ag_sa (by decide))) (klC_s hI (fun w hw => by
            show upd (upd (T.2.1 26) k (-1)) k (nI (kl a M k).length) w = _
            rw [up_o (by omega), up_o (by omega)]) (Or.inr (Or.inl ⟨nka, er, up_s _ _ _⟩)))
          rw [ll] at go
          exact go
        · have el : kl a M (k + 1) = kl a M k := if_neg (fun p => er p.2)
          rw [if_neg er, if_pos rfl]
          have go := ct_4T hN h hW ha hM fu (k + 1) (mq_sa T 26 (upd (T.2.1 26) k (-1))) (by omega) (by omega) f1 (klC_s hI (fun w hw => by
            show upd (T.2.1 26) k (-1) w = _
            rw [up_o (by omega)]) (Or.inr (Or.inr ⟨nka, er, up_s _ _ _⟩)))
          rw [el] at go
          exact go
/-- the n-th world that a cut keeps -/
def kg (a : Nat) (M : Nat → Nat → Bool) (W n : Nat) : Nat := ((kl a M W)[n]?).getD 0
theorem kg_is {i : Nat} (hi : i < (kl a M W).length) : (kl a M W)[i]? = some (kg a M W i) := by
  unfold kg
  rw [List.getElem?_eq_getElem hi]; rfl
theorem kg_lt {i : Nat} (ha : a < W) (hi : i < (kl a M W).length) : kg a M W i < W := by
  rcases kl_mem W (List.mem_of_getElem? (kg_is hi)) with q | q
  · omega
  · exact q
theorem ck_cutT (hN : 200 ≤ N) (h : S.1 23 = nI W) (hW : W ≤ 60) (ha : a < W) (hM : mtC S W M) : ∃ S', frM S S' ∧ S'.1 23 = nI (kl a M W).length ∧ S'.1 22 = 0 ∧ (∀ n, n < (kl a M W).length → S'.2.1 23 n = S.2.1 23 (kg a M W n)) ∧ mtC S' (kl a M W).length (fun i j => M (kg a M W i) (kg a M W j)) ∧ zf_X4_cutTo N z (nI a) S = some ((), S') := by
  have hl := (kl_len (a := a) (M := M) W).2 ha
  obtain ⟨T, t1, t2, t3⟩ := ct_4T (N := N) (z := z) hN h hW ha hM N 0 S (by omega) (by omega) ag_rf (fun w hw => by omega)
  have idx : ∀ w i, w < W → i < 60 → T.2.1 26 w = nI i → (kl a M W)[i]? = some w := fun w i hw hi e => by
    rcases t2 w hw with ⟨j, h1, h2⟩ | ⟨h1, h2⟩
    · have hj : j < (kl a M W).length := (List.getElem?_eq_some_iff.mp h1).1
      have : j = i := sp_inj (h2.symm.trans e) (by omega) (by omega)
      rw [← this]; exact h1
    · rw [h2] at e; exact absurd e.symm (nI_nm1 (by omega))
  have own : ∀ n, n < (kl a M W).length → T.2.1 26 (kg a M W n) = nI n := fun n hn => by
    rcases t2 _ (kg_lt ha hn) with ⟨i, h1, h2⟩ | ⟨h1, -⟩
    · rw [h2, kl_inj W i n h1 (kg_is hn)]
    · exact absurd (List.mem_of_getElem? (kg_is hn)) h1
  have rev : ∀ w n, w < W → n < (kl a M W).length → T.2.1 26 w = nI n → w = kg a M W n := fun w n hw hn e => by
    have := idx w n hw (by omega) e
    rw [kg_is hn] at this
    exact (Option.some.inj this).symm
  obtain ⟨S', s1, s2, s3, s4, s5, s6⟩ := ck_rebT (N := N) (z := z) (S := T) (c := (kl a M W).length) (og := kg a M W) hN ((t1.1 23 (by decide)).trans h) hW (fun w hw => by
    rcases t2 w hw with ⟨i, h1, h2⟩ | ⟨-, h2⟩
    · exact Or.inr ⟨i, by have := (List.getElem?_eq_some_iff.mp h1).1; omega, h2⟩
    · exact Or.inl h2) hl (fun n hn => ⟨kg_lt ha hn, own n hn, fun w hw e => by
      have := rev w n (by have := kg_lt ha hn; omega) hn e
      omega⟩)
  refine ⟨S', ag_tr (ag_mono t1 (by decide) (by decide) (by decide)) s1, s2, s3, fun n hn => by rw [s4 n hn, t1.2.1 23 (by decide)], fun i j hi hj => ?_, ?_⟩
  · have h5 := s5 i j hi (by omega)
    rw [t1.2.2 7 (by decide)] at h5
    have hgi := kg_lt ha hi
    have hgj := kg_lt ha hj
    rw [Bool.eq_iff_iff, h5]
    constructor
    · rintro ⟨x, x1, x2, x3⟩
      rw [rev x j x1 hj x3] at x2
      show M (kg a M W i) (kg a M W j) = true
      rw [← hM _ _ hgi hgj]; exact x2
    · intro q
      exact ⟨kg a M W j, hgj, by rw [hM _ _ hgi hgj]; exact q, own j hj⟩
  · unfold zf_X4_cutTo
    rw [nI_e, nI_e]
    refine Eq.trans t3 ?_
    rw [s6, mq_cl_s]
theorem ct_21T (hN : 100 ≤ N) (h : S.1 31 = nI W) (hW : W ≤ 60) (ha : a < W) (hM : mtR S W M) : ∀ (fu k : Nat) (T : mq_St), k ≤ W → W - k < fu → ag [] [42] [] S T → (∀ i, i < (kl a M k).length → T.2.1 42 i = nI (kg a M k i)) → ∃ T', ag [] [42] [] S T' ∧ (∀ i, i < (kl a M W).length → T'.2.1 42 i = nI (kg a M W i)) ∧ zf_X11_cut_21 N z fu (nI a) (nI (kl a M k).length) (nI k) T = zf_X11_cut_66 N z N (nI (kl a M W).length) 0 T'
  | 0, k, T, _, h, _, _ => by omega
  | fu + 1, k, T, hk, hfu, hT, hI => by
    show ∃ T', _ ∧ _ ∧ zf_X11_cut_21b N z (fun v1 v2 v3 S => zf_X11_cut_21 N z fu v1 v2 v3 S) (nI a) (nI (kl a M k).length) (nI k) T = _
    unfold zf_X11_cut_21b zf_X11_cut_58
    rw [hT.1 31 (by decide), h]
    by_cases e : k = W
    · subst e
      rw [if_pos (nI_le (Nat.le_refl _) (by omega)), nI_e]
      exact ⟨T, hT, hI, rfl⟩
    · have hk' : k < W := by omega
      rw [if_neg (nI_ge hk' (by omega)), nI_e, nI_1]
      by_cases e' : nI k = nI a
      · have eka : k = a := sp_inj e' (by omega) (by omega)
        have el : kl a M (k + 1) = kl a M k := if_neg (fun p => p.1 eka)
        have eg : kg a M (k + 1) = kg a M k := by unfold kg; rw [el]
        rw [if_pos e']
        have go := ct_21T hN h hW ha hM fu (k + 1) T (by omega) (by omega) hT (by rw [el, eg]; exact hI)
        rw [el] at go
        exact go
      · have nka : k ≠ a := fun q => e' (by rw [q])
        rw [if_neg e', e60, mq_ck_of (vp_in_nI (by omega) (by omega)), nI_clamp (by omega), hT.2.1 35 (by decide), hM a k ha hk']
        by_cases er : M a k = true
        · have el : kl a M (k + 1) = kl a M k ++ [k] := if_pos ⟨nka, er⟩
          have ll : (kl a M (k + 1)).length = (kl a M k).length + 1 := by rw [el, List.length_append]; rfl
          have hlen : (kl a M k).length < 60 := by
            have h1 := (kl_len (a := a) (M := M) (k + 1))
            by_cases q : a < k + 1
            · have := h1.2 q; omega
            · have := (kl_len (a := a) (M := M) k).1; omega
          rw [if_pos er, if_neg (show ¬ (1 : Int32) = 0 by decide), mq_ck_of (vp_in_nI hlen (by omega)), nI_clamp (by omega), nS_e, nI_e, nI_1, nI_e]
          have go := ct_21T hN h hW ha hM fu (k + 1) (mq_sa T 42 (upd (T.2.1 42) (kl a M k).length (nI k))) (by omega) (by omega) (ag_tr hT (ag_sa (by decide))) (fun i hi => by
            show upd (T.2.1 42) (kl a M k).length (nI k) i = _
            rw [ll] at hi
            unfold kg
            rw [el]
            by_cases q : i = (kl a M k).length
            · rw [q, up_s, List.getElem?_append_right (Nat.le_refl _), Nat.sub_self]; rfl
            · rw [up_o q, hI i (by omega), List.getElem?_append_left (by omega)]; rfl)
          rw [ll] at go
          exact go
        · have el : kl a M (k + 1) = kl a M k := if_neg (fun p => er p.2)
          have eg : kg a M (k + 1) = kg a M k := by unfold kg; rw [el]
          rw [if_neg er, if_pos rfl]
          have go := ct_21T hN h hW ha hM fu (k + 1) T (by omega) (by omega) hT (by rw [el, eg]; exact hI)
          rw [el] at go
          exact go
theorem rf_cutT (hN : 200 ≤ N) (h : S.1 31 = nI W) (hW : W ≤ 60) (ha : a < W) (hM : mtR S W M) : ∃ S', ag [31] [34, 35, 36, 40, 42, 43] [] S S' ∧ S'.1 31 = nI (kl a M W).length ∧ (∀ n, n < (kl a M W).length → S'.2.1 34 n = S.2.1 34 (kg a M W n)) ∧ mtR S' (kl a M W).length (fun i j => M (kg a M W i) (kg a M W j)) ∧ zf_X11_cut_21 N z N (nI a) (nI 1) (nI 0) (mq_sa S 42 (upd (S.2.1 42) 0 (nI a))) = some (nI (kl a M W).length, S') := by
  have hl := (kl_len (a := a) (M := M) W).2 ha
  obtain ⟨T, t1, t2, t3⟩ := ct_21T (N := N) (z := z) (by omega) h hW ha hM N 0 (mq_sa S 42 (upd (S.2.1 42) 0 (nI a))) (by omega) (by omega) (ag_sa (by decide)) (fun i hi => by
    have hi : i < 1 := hi
    have : i = 0 := by omega
    subst this
    show upd (S.2.1 42) 0 (nI a) 0 = nI a
    exact up_s _ _ _)
  obtain ⟨T2, ⟨b1, b2⟩, b3⟩ := lp_i (F := fun fu j T => zf_X11_cut_66 N z fu (nI (kl a M W).length) j T) (n := (kl a M W).length) (I := fun k T2 => ag [] [43] [] T T2 ∧ ∀ i j, i < k → j < (kl a M W).length → T2.2.1 43 (60 * i + j) = if M (kg a M W i) (kg a M W j) = true then 1 else 0) (G := fun T => mq_cl (zf_X11_settle N z (nI (kl a M W).length) T) (fun q18v S20 => (some (nI (kl a M W).length, S20)))) (fun fu T hI => by
    show zf_X11_cut_66b N z _ (nI (kl a M W).length) (nI (kl a M W).length) T = _
    unfold zf_X11_cut_66b
    rw [if_pos (nI_le (Nat.le_refl _) (by omega))]) (fun fu k T2 hk hI => by
    have gk := kg_lt ha hk
    obtain ⟨T3, ⟨c1, c2⟩, c3⟩ := lp_i (F := fun fu2 j T => zf_X11_cut_74 N z (fun v2 v3 S => zf_X11_cut_66 N z fu v2 v3 S) fu2 (nI (kl a M W).length) (nI k) j T) (n := (kl a M W).length) (I := fun j T3 => ag [] [43] [] T2 T3 ∧ ∀ x y, y < 60 → T3.2.1 43 (60 * x + y) = if x = k ∧ y < j then (if M (kg a M W k) (kg a M W y) = true then 1 else 0) else T2.2.1 43 (60 * x + y)) (G := fun T => zf_X11_cut_66 N z fu (nI (kl a M W).length) (nI (k + 1)) T) (fun fu2 T3 hJ => by
      show zf_X11_cut_74b N z _ _ (nI (kl a M W).length) (nI k) (nI (kl a M W).length) T3 = _
      unfold zf_X11_cut_74b
      rw [if_pos (nI_le (Nat.le_refl _) (by omega)), nI_e, nI_1]) (fun fu2 j T3 hj hJ => by
      have gj := kg_lt ha hj
      have v42 : ∀ i, i < (kl a M W).length → T3.2.1 42 i = nI (kg a M W i) := fun i hi => by
        rw [hJ.1.2.1 42 (by decide), hI.1.2.1 42 (by decide)]; exact t2 i hi
      have v35 : T3.2.1 35 (60 * kg a M W k + kg a M W j) = if M (kg a M W k) (kg a M W j) = true then 1 else 0 := by
        rw [hJ.1.2.1 35 (by decide), hI.1.2.1 35 (by decide), t1.2.1 35 (by decide)]; exact hM _ _ gk gj
      refine ⟨mq_sa T3 43 (upd (T3.2.1 43) (60 * k + j) (if M (kg a M W k) (kg a M W j) = true then 1 else 0)), ⟨ag_tr hJ.1 (ag_sa (by decide)), fun x y hy => ?_⟩, ?_⟩
      · show upd (T3.2.1 43) (60 * k + j) _ (60 * x + y) = _
        by_cases q : x = k ∧ y = j
        · rw [q.1, q.2, up_s, if_pos (show k = k ∧ j < j + 1 from ⟨rfl, by omega⟩)]
        · rw [up_o (by rw [i60 hy (by omega)]; exact q), hJ.2 x y hy]
          by_cases q' : x = k ∧ y < j
          · rw [if_pos q', if_pos (show x = k ∧ y < j + 1 from ⟨q'.1, by omega⟩)]
          · rw [if_neg q', if_neg (show ¬ (x = k ∧ y < j + 1) from fun p => q' ⟨p.1, by have := p.2; by_cases e : y = j; exact absurd ⟨p.1, e⟩ q; omega⟩)]
      · show zf_X11_cut_74b N z (fun v2 v3 S => zf_X11_cut_66 N z fu v2 v3 S) (fun v2 v3 v4 S => zf_X11_cut_74 N z (fun v2 v3 S => zf_X11_cut_66 N z fu v2 v3 S) fu2 v2 v3 v4 S) (nI (kl a M W).length) (nI k) (nI j) T3 = _
        unfold zf_X11_cut_74b
        rw [if_neg (nI_ge hj (by omega)), mq_ck_of (show vp_in (nI k) 60 from vp_in_nI (by omega) (by omega)), mq_ck_of (show vp_in (nI j) 60 from vp_in_nI (by omega) (by omega)), nI_clamp (show k < 2147483648 by omega), nI_clamp (show j < 2147483648 by omega), v42 k hk, v42 j hj, e60, e60, mq_ck_of (vp_in_nI (by omega) (by omega)), mq_ck_of (vp_in_nI (by omega) (by omega)), nI_clamp (by omega), nI_clamp (by omega), v35, nb_b, nS_e, nI_e, nI_1]) N 0 T2 (by omega) (by omega) ⟨ag_rf, fun x y hy => by rw [if_neg (by omega)]⟩
    refine ⟨T3, ⟨ag_tr hI.1 c1, fun i j hi hj => ?_⟩, ?_⟩
    · rw [c2 i j (by omega)]
      by_cases q : i = k
      · rw [if_pos (show i = k ∧ j < (kl a M W).length from ⟨q, hj⟩), q]
      · rw [if_neg (show ¬ (i = k ∧ j < (kl a M W).length) from fun p => q p.1)]; exact hI.2 i j (by omega) hj
    · show zf_X11_cut_66b N z (fun v2 v3 S => zf_X11_cut_66 N z fu v2 v3 S) (nI (kl a M W).length) (nI k) T2 = _
      unfold zf_X11_cut_66b
      rw [if_neg (nI_ge hk (by omega)), nI_e]
      exact c3) N 0 T (by omega) (by omega) ⟨ag_rf, fun i j hi => by omega⟩
  obtain ⟨S', s1, s2, s3, s4, s5⟩ := rf_settleT (N := N) (z := z) (S := T2) (c := (kl a M W).length) (og := kg a M W) (M := fun i j => M (kg a M W i) (kg a M W j)) (by omega) (by omega) (fun n hn => ⟨by have := kg_lt ha hn; omega, by rw [b1.2.1 42 (by decide)]; exact t2 n hn⟩) b2
  refine ⟨S', ag_tr (ag_tr (ag_mono t1 (by decide) (by decide) (by decide)) (ag_mono b1 (by decide) (by decide) (by decide))) (ag_mono s1 (by decide) (by decide) (by decide)), s2, fun n hn => ?_, s4, ?_⟩
  · rw [s3 n hn, b1.2.1 34 (by decide), t1.2.1 34 (by decide)]
  · exact (show zf_X11_cut_21 N z N (nI a) (nI 1) (nI 0) _ = _ from t3).trans (Eq.trans b3 (by rw [s5, mq_cl_s]))
theorem rf_w0' (k : Nat) (h : S.1 31 = nI W) (hW : W ≤ 60) (hk : k < W) : zf_X11_world0 N z (nI k) S = some (1, mq_si S 0 0) := by
  rcases rf_w0 (N := N) (z := z) (nI k) h hW with a | ⟨j, hj, e, a⟩
  · exfalso
    unfold zf_X11_world0 at a
    rw [h, rf_in, mq_cp_s, if_neg (show ¬ (nI k < 0 ∨ nI W - 1 < nI k) from fun q => by
      rcases (mq_lst W (by omega) (nI k)).mp q with q | q
      · exact nI_pos (by omega) q
      · exact nI_ge hk (by omega) q), if_neg (by decide)] at a
    unfold zf_X11_world0_20 at a
    rw [nS_e, if_pos (show (mq_si S 0 0).1 0 = 0 from rfl), mq_cz_1] at a
    injection a with a
    injection a with a _
    exact absurd a (by decide)
  · exact a
theorem st_cut (v : Int32) (hN : 200 ≤ N) (hm : mo SC SR) : ∃ r SC' q SR', zf_X10_cut N z v SC = some (r, SC') ∧ zf_X11_cut N z v SR = some (q, SR') ∧ mo SC' SR' ∧ frM SC SC' ∧ frX SR SR' ∧ (SC' = SC ∨ SC'.1 22 = 0) ∧ ((r = none ∧ SR'.1 0 = 1) ∨ (r = some q ∧ SR'.1 0 = 0)) := by
  obtain ⟨W, hW, h1, h2, hl, M, mC, mR⟩ := id hm
  unfold zf_X10_cut zf_X11_cut
  rcases rf_w0 (N := N) (z := z) v h2 hW with b | ⟨k, hk, e, b⟩
  · have a : zf_X4_has N z v SC = some 0 := by
      rcases ck_hasw (N := N) (z := z) v h1 hW with a | ⟨k, hk, e, a⟩
      · exact a
      · exfalso
        rcases rf_w0' (N := N) (z := z) (S := SR) k h2 hW hk with c
        rw [← e] at c
        rw [c] at b
        injection b with b
        injection b with b _
        exact absurd b (by decide)
    rw [a, mq_cp_s, if_pos rfl, b, mq_cl_s, if_pos rfl]
    exact ⟨none, SC, 0, mq_si SR 0 1, rfl, rfl, hm, ag_rf, ag_si (by decide), Or.inl rfl, Or.inl ⟨rfl, rfl⟩⟩
  · subst e
    obtain ⟨S1, a1, a2, a3, a4, a5, a6⟩ := ck_cutT (N := N) (z := z) hN h1 hW hk mC
    obtain ⟨S2, b1, b2, b3, b4, b5⟩ := rf_cutT (N := N) (z := z) (S := mq_si SR 0 0) (a := k) (M := M) hN h2 hW hk mR
    have hlen := (kl_len (a := k) (M := M) W).2 hk
    rw [ck_hasT h1 hW hk, mq_cp_s, if_neg (by decide), a6, mq_cl_s, b, mq_cl_s, if_neg (by decide), mq_ck_of (show vp_in (0 : Int32) 60 from vp_in_nI (n := 0) (by omega) (by omega)), nS_e, nI_e, nI_e]
    refine ⟨some (nI (kl k M W).length), S1, nI (kl k M W).length, S2, ?_, b5, ⟨_, by omega, a2, b2, fun n hn => ?_, _, a5, b4⟩, a1, ag_tr (ag_si (by decide)) (ag_mono b1 (by decide) (by decide) (by decide)), Or.inr a3, Or.inr ⟨rfl, b1.1 0 (by decide)⟩⟩
    · have sz : zf_X4_size N z S1 = some (nI (kl k M W).length) := congrArg some a2
      rw [sz, mq_cp_s]
    · rw [a4 n hn, b3 n hn]; exact hl _ (kg_lt hk hn)
end CUT2
end
/-! as.part -/
section
/-! Worlds that are alike, round by round: the parts of a fold. -/
section ALIKE
def sq (W : Nat) (L : Nat → Int32) (M : Nat → Nat → Bool) : Nat → Nat → Nat → Prop
  | 0, v, w => L v = L w
  | r + 1, v, w => sq W L M r v w ∧ ∀ u, u < W → ((∃ x, x < W ∧ M v x = true ∧ sq W L M r x u) ↔ ∃ x, x < W ∧ M w x = true ∧ sq W L M r x u)
variable {W : Nat} {L : Nat → Int32} {M : Nat → Nat → Bool}
theorem sq_r : ∀ (r v : Nat), sq W L M r v v
  | 0, _ => rfl
  | r + 1, v => ⟨sq_r r v, fun _ _ => Iff.rfl⟩
theorem sq_s : ∀ (r : Nat) {v w : Nat}, sq W L M r v w → sq W L M r w v
  | 0, _, _, h => Eq.symm h
  | r + 1, _, _, h => ⟨sq_s r h.1, fun u hu => (h.2 u hu).symm⟩
theorem sq_t : ∀ (r : Nat) {u v w : Nat}, sq W L M r u v → sq W L M r v w → sq W L M r u w
  | 0, _, _, _, h, h' => Eq.trans h h'
  | r + 1, _, _, _, h, h' => ⟨sq_t r h.1 h'.1, fun x hx => (h.2 x hx).trans (h'.2 x hx)⟩
/-- no world is parted further -/
def stb (W : Nat) (L : Nat → Int32) (M : Nat → Nat → Bool) (r : Nat) : Prop := ∀ v w, v < W → w < W → sq W L M r v w → sq W L M (r + 1) v w
theorem stb_s {r : Nat} (h : stb W L M r) : stb W L M (r + 1) := fun v w hv hw e => ⟨e, fun u hu => by
  have k : ∀ y, (∃ x, x < W ∧ M y x = true ∧ sq W L M (r + 1) x u) ↔ ∃ x, x < W ∧ M y x = true ∧ sq W L M r x u := fun y => ⟨fun ⟨x, a, b, c⟩ => ⟨x, a, b, c.1⟩, fun ⟨x, a, b, c⟩ => ⟨x, a, b, h x u a hu c⟩⟩
  rw [k v, k w]; exact e.2 u hu⟩
theorem stb_k {r : Nat} (h : stb W L M r) : ∀ k, stb W L M (r + k) ∧ ∀ v w, v < W → w < W → (sq W L M (r + k) v w ↔ sq W L M r v w)
  | 0 => ⟨h, fun _ _ _ _ => Iff.rfl⟩
  | k + 1 => by
    obtain ⟨a, b⟩ := stb_k h k
    exact ⟨stb_s a, fun v w hv hw => ⟨fun e => (b v w hv hw).mp e.1, fun e => a v w hv hw ((b v w hv hw).mpr e)⟩⟩
theorem stb_2 {r r' : Nat} (h : stb W L M r) (h' : stb W L M r') : ∀ v w, v < W → w < W → (sq W L M r v w ↔ sq W L M r' v w) := fun v w hv hw => by
  rcases Nat.le_total r r' with q | q
  · obtain ⟨k, rfl⟩ := Nat.exists_eq_add_of_le q
    exact ((stb_k h k).2 v w hv hw).symm
  · obtain ⟨k, rfl⟩ := Nat.exists_eq_add_of_le q
    exact (stb_k h' k).2 v w hv hw
/-- k is the first of its part -/
def hp (E : Nat → Nat → Prop) (k : Nat) : Prop := ∀ v, v < k → ¬ E v k
noncomputable def ch (E : Nat → Nat → Prop) : Nat → Nat
  | 0 => 0
  | k + 1 => ch E k + @ite _ (hp E k) (Classical.propDecidable _) 1 0
variable {E E' : Nat → Nat → Prop}
theorem ch_y {k : Nat} (h : hp E k) : ch E (k + 1) = ch E k + 1 := by
  show ch E k + @ite _ (hp E k) (Classical.propDecidable _) 1 0 = _
  rw [if_pos h]
theorem ch_n {k : Nat} (h : ¬ hp E k) : ch E (k + 1) = ch E k := by
  show ch E k + @ite _ (hp E k) (Classical.propDecidable _) 1 0 = _
  rw [if_neg h, Nat.add_zero]
theorem ch_1 (k : Nat) : ch E k ≤ ch E (k + 1) ∧ ch E (k + 1) ≤ ch E k + 1 := by
  rcases Classical.em (hp E k) with q | q
  · rw [ch_y q]; omega
  · rw [ch_n q]; omega
theorem ch_mono {k : Nat} : ∀ d, ch E k ≤ ch E (k + d)
  | 0 => Nat.le_refl _
  | d + 1 => Nat.le_trans (ch_mono d) (ch_1 (k + d)).1
theorem ch_le : ∀ k, ch E k ≤ k
  | 0 => Nat.le_refl _
  | k + 1 => by have := ch_le k; have := (ch_1 (E := E) k).2; omega
theorem ch_lt {k k' : Nat} (h : hp E k) (q : k < k') : ch E k < ch E k' := by
  obtain ⟨d, rfl⟩ := Nat.exists_eq_add_of_lt q
  have := ch_mono (E := E) (k := k + 1) d
  rw [ch_y h, show k + 1 + d = k + d + 1 by omega] at this
  omega
theorem ch_inj {k k' : Nat} (h : hp E k) (h' : hp E k') (e : ch E k = ch E k') : k = k' := by
  rcases Nat.lt_trichotomy k k' with q | q | q
  · have := ch_lt h q; omega
  · exact q
  · have := ch_lt h' q; omega
theorem ch_sur {n : Nat} : ∀ k, n < ch E k → ∃ h, h < k ∧ hp E h ∧ ch E h = n
  | 0, q => absurd q (Nat.not_lt_zero _)
  | k + 1, q => by
    by_cases p : n < ch E k
    · obtain ⟨h, a, b⟩ := ch_sur k p
      exact ⟨h, by omega, b⟩
    · rcases Classical.em (hp E k) with y | y
      · rw [ch_y y] at q
        exact ⟨k, by omega, y, by omega⟩
      · rw [ch_n y] at q; exact absurd q p
theorem hp_c {k : Nat} (h : ∀ v w, v < W → w < W → (E v w ↔ E' v w)) (hk : k < W) : hp E k ↔ hp E' k := ⟨fun q v hv e => q v hv ((h v k (by omega) hk).mpr e), fun q v hv e => q v hv ((h v k (by omega) hk).mp e)⟩
theorem ch_c (h : ∀ v w, v < W → w < W → (E v w ↔ E' v w)) : ∀ k, k ≤ W → ch E k = ch E' k
  | 0, _ => rfl
  | k + 1, hk => by
    have ih := ch_c h k (by omega)
    rcases Classical.em (hp E k) with y | y
    · rw [ch_y y, ch_y ((hp_c h (by omega)).mp y), ih]
    · rw [ch_n y, ch_n (fun q => y ((hp_c h (by omega)).mpr q)), ih]
theorem ch_fin (h : ∀ v w, E' v w → E v w) : ∀ k, ch E k ≤ ch E' k ∧ (ch E k = ch E' k → ∀ j, j < k → hp E' j → hp E j)
  | 0 => ⟨Nat.le_refl _, fun _ j hj => by omega⟩
  | k + 1 => by
    obtain ⟨a, b⟩ := ch_fin h k
    have f : hp E k → hp E' k := fun q v hv e => q v hv (h v k e)
    rcases Classical.em (hp E k) with y | y
    · rw [ch_y y, ch_y (f y)]
      refine ⟨by omega, fun e j hj q => ?_⟩
      by_cases p : j = k
      · rw [p]; exact y
      · exact b (by omega) j (by omega) q
    · rw [ch_n y]
      rcases Classical.em (hp E' k) with y' | y'
      · rw [ch_y y']; exact ⟨by omega, fun e => by omega⟩
      · rw [ch_n y']
        refine ⟨a, fun e j hj q => ?_⟩
        by_cases p : j = k
        · rw [p] at q; exact absurd q y'
        · exact b e j (by omega) q
/-- the first of a part is there -/
theorem hd_ex (ht : ∀ u v w, E u v → E v w → E u w) (hr : ∀ v, E v v) : ∀ (n w : Nat), w ≤ n → ∃ h, h ≤ w ∧ hp E h ∧ E h w
  | 0, w, hw => ⟨w, Nat.le_refl _, fun v hv => by omega, hr w⟩
  | n + 1, w, hw => by
    rcases Classical.em (hp E w) with y | y
    · exact ⟨w, Nat.le_refl _, y, hr w⟩
    · have : ∃ v, v < w ∧ E v w := by
        apply Classical.byContradiction
        intro q
        exact y (fun v hv e => q ⟨v, hv, e⟩)
      obtain ⟨v, hv, e⟩ := this
      obtain ⟨h, a, b, c⟩ := hd_ex ht hr n v (by omega)
      exact ⟨h, by omega, b, ht h v w c e⟩
theorem hd_un (hs : ∀ v w, E v w → E w v) (ht : ∀ u v w, E u v → E v w → E u w) {h h' v : Nat} (a : hp E h) (a' : hp E h') (e : E h v) (e' : E h' v) : h = h' := by
  rcases Nat.lt_trichotomy h h' with q | q | q
  · exact absurd (ht h v h' e (hs _ _ e')) (a' h q)
  · exact q
  · exact absurd (ht h' v h e' (hs _ _ e)) (a h' q)
/-- the class's numbers of parts, the reference's firsts -/
def num (E : Nat → Nat → Prop) (k : Nat) (b : Nat → Int32) : Prop := ∀ w, w < k → ∃ h, h ≤ w ∧ hp E h ∧ E h w ∧ b w = nI (ch E h)
def fst (E : Nat → Nat → Prop) (k : Nat) (g : Nat → Int32) : Prop := ∀ w, w < k → ∃ h, h ≤ w ∧ hp E h ∧ E h w ∧ g w = nI h
theorem num_iff {b : Nat → Int32} (hW : W ≤ 60) (hs : ∀ v w, E v w → E w v) (ht : ∀ u v w, E u v → E v w → E u w) (hb : num E W b) {v w : Nat} (hv : v < W) (hw : w < W) : b v = b w ↔ E v w := by
  obtain ⟨h, a1, a2, a3, a4⟩ := hb v hv
  obtain ⟨h', b1, b2, b3, b4⟩ := hb w hw
  have l1 := ch_le (E := E) h
  have l2 := ch_le (E := E) h'
  constructor
  · intro e
    have : h = h' := ch_inj a2 b2 (sp_inj (a4.symm.trans (e.trans b4)) (by omega) (by omega))
    rw [← this] at b3
    exact ht _ _ _ (hs _ _ a3) b3
  · intro e
    rw [a4, b4, hd_un hs ht a2 b2 (ht _ _ _ a3 e) b3]
theorem fst_iff {b : Nat → Int32} (hW : W ≤ 60) (hs : ∀ v w, E v w → E w v) (ht : ∀ u v w, E u v → E v w → E u w) (hb : fst E W b) {v w : Nat} (hv : v < W) (hw : w < W) : b v = b w ↔ E v w := by
  obtain ⟨h, a1, a2, a3, a4⟩ := hb v hv
  obtain ⟨h', b1, b2, b3, b4⟩ := hb w hw
  constructor
  · intro e
    have : h = h' := sp_inj (a4.symm.trans (e.trans b4)) (by omega) (by omega)
    rw [← this] at b3
    exact ht _ _ _ (hs _ _ a3) b3
  · intro e
    rw [a4, b4, hd_un hs ht a2 b2 (ht _ _ _ a3 e) b3]
theorem num_c {b : Nat → Int32} (h : ∀ v w, v < W → w < W → (E v w ↔ E' v w)) (hb : num E W b) : num E' W b := fun w hw => by
  obtain ⟨k, a1, a2, a3, a4⟩ := hb w hw
  exact ⟨k, a1, (hp_c h (by omega)).mp a2, (h k w (by omega) hw).mp a3, by rw [a4, ch_c h k (by omega)]⟩
/-- the n-th first -/
noncomputable def hg (E : Nat → Nat → Prop) (W n : Nat) : Nat := @dite _ (∃ h, h < W ∧ hp E h ∧ ch E h = n) (Classical.propDecidable _) (fun q => Classical.choose q) (fun _ => 0)
theorem hg_is {n : Nat} (hn : n < ch E W) : hg E W n < W ∧ hp E (hg E W n) ∧ ch E (hg E W n) = n := by
  have q := ch_sur W hn
  unfold hg
  rw [dif_pos q]
  exact Classical.choose_spec q
theorem sq_es (r : Nat) : (∀ v w, sq W L M r v w → sq W L M r w v) ∧ ∀ u v w, sq W L M r u v → sq W L M r v w → sq W L M r u w := ⟨fun _ _ h => sq_s r h, fun _ _ _ h h' => sq_t r h h'⟩
/-- the same number of parts: no world was parted -/
theorem stb_ch {r : Nat} (e : ch (sq W L M r) W = ch (sq W L M (r + 1)) W) : stb W L M r := fun v w hv hw q => by
  have key := (ch_fin (E := sq W L M r) (E' := sq W L M (r + 1)) (fun v w h => h.1) W).2 e
  obtain ⟨h, a1, a2, a3⟩ := hd_ex (E := sq W L M (r + 1)) (sq_es (r + 1)).2 (sq_r (r + 1)) v v (Nat.le_refl _)
  obtain ⟨h', b1, b2, b3⟩ := hd_ex (E := sq W L M (r + 1)) (sq_es (r + 1)).2 (sq_r (r + 1)) w w (Nat.le_refl _)
  have : h = h' := hd_un (sq_es r).1 (sq_es r).2 (key h (by omega) a2) (key h' (by omega) b2) (sq_t r a3.1 q) b3.1
  rw [← this] at b3
  exact sq_t (r + 1) (sq_s (r + 1) a3) b3
end ALIKE
end
/-! at.foldc -/
section
/-! fold(): the class's way. -/
/-- what the class parts by -/
def cE (S : mq_St) (v w : Nat) : Prop := S.2.1 26 v = S.2.1 26 w ∧ S.2.2 8 v = S.2.2 8 w
section FOLDC
variable {N n : Nat} {z : Nat → Nat} {S S0 : mq_St} {W w c : Nat} {M : Nat → Nat → Bool}
theorem cE_t : ∀ u v w, cE S u v → cE S v w → cE S u w := fun _ _ _ h h' => ⟨h.1.trans h'.1, h.2.trans h'.2⟩
theorem ll_2T (hw : w < 60) : ∀ fu v, v ≤ w → w - v < fu → (∀ u, u < v → ¬ cE S u w) → ∃ h, h ≤ w ∧ cE S h w ∧ (∀ u, u < h → ¬ cE S u w) ∧ zf_X4_leastLike_2 N z S fu (nI w) (nI v) = some (nI h)
  | 0, v, _, h, _ => by omega
  | fu + 1, v, hv, hfu, hn => by
    show ∃ h, _ ∧ _ ∧ _ ∧ zf_X4_leastLike_2b N z S (fun v1 v2 => zf_X4_leastLike_2 N z S fu v1 v2) (nI w) (nI v) = _
    unfold zf_X4_leastLike_2b zf_X4_leastLike_40
    by_cases e : v = w
    · rw [e, if_pos (nI_le (Nat.le_refl _) (by omega))]
      subst e
      exact ⟨v, Nat.le_refl _, ⟨rfl, rfl⟩, hn, rfl⟩
    · have i1 : vp_in (nI v) 60 := vp_in_nI (by omega) (by omega)
      have i2 : vp_in (nI w) 60 := vp_in_nI (by omega) (by omega)
      have go : ¬ cE S v w → ∃ h, h ≤ w ∧ cE S h w ∧ (∀ u, u < h → ¬ cE S u w) ∧ zf_X4_leastLike_2 N z S fu (nI w) (nI (v + 1)) = some (nI h) := fun q => ll_2T hw fu (v + 1) (by omega) (by omega) (fun u hu => by
        by_cases p : u = v
        · rw [p]; exact q
        · exact hn u (by omega))
      rw [if_neg (nI_ge (show v < w by omega) (by omega)), mq_ck_of i1, mq_ck_of i2, mq_ck_of i1, mq_ck_of i2, nI_clamp (show v < 2147483648 by omega), nI_clamp (show w < 2147483648 by omega), nI_e, nI_1]
      by_cases e1 : S.2.1 26 v = S.2.1 26 w
      · rw [if_pos e1]
        by_cases e2 : S.2.2 8 v = S.2.2 8 w
        · rw [if_pos ((lg_cmp_eq _ _).mpr e2)]
          exact ⟨v, hv, ⟨e1, e2⟩, hn, rfl⟩
        · rw [if_neg (fun q => e2 ((lg_cmp_eq _ _).mp q))]
          exact go (fun q => e2 q.2)
      · rw [if_neg e1]
        exact go (fun q => e1 q.1)
theorem sp_4T (hN : 100 ≤ N) (h : S.1 23 = nI W) (hW : W ≤ 60) : ∀ (fu k : Nat) (T : mq_St), k ≤ W → W - k < fu → ag [] [27] [] S T → num (cE S) k (T.2.1 27) → ∃ T', ag [] [27] [] S T' ∧ num (cE S) W (T'.2.1 27) ∧ zf_X4_splitBySigns_4 N z fu (nI (ch (cE S) k)) (nI k) T = zf_X4_splitBySigns_56 N z N (nI (ch (cE S) W)) (nI 0) T'
  | 0, k, T, _, h, _, _ => by omega
  | fu + 1, k, T, hk, hfu, hT, hI => by
    show ∃ T', _ ∧ _ ∧ zf_X4_splitBySigns_4b N z (fun v1 v2 S => zf_X4_splitBySigns_4 N z fu v1 v2 S) (nI (ch (cE S) k)) (nI k) T = _
    unfold zf_X4_splitBySigns_4b zf_X4_splitBySigns_48
    rw [hT.1 23 (by decide), h]
    by_cases e : k = W
    · subst e
      rw [if_pos (nI_le (Nat.le_refl _) (by omega)), nI_e]
      exact ⟨T, hT, hI, rfl⟩
    · have hk' : k < W := by omega
      have i1 : vp_in (nI k) 60 := vp_in_nI (by omega) (by omega)
      have ck : (nI k).toNatClampNeg = k := nI_clamp (by omega)
      have eT : cE T = cE S := by
        funext v w
        unfold cE
        rw [hT.2.1 26 (by decide), hT.2.2 8 (by decide)]
      obtain ⟨j, j1, j2, j3, j4⟩ := ll_2T (N := N) (z := z) (S := T) (w := k) (by omega) N 0 (by omega) (by omega) (fun u hu => by omega)
      rw [eT] at j2 j3
      have lk : zf_X4_leastLike N z (nI k) T = some (nI j) := by
        unfold zf_X4_leastLike
        rw [nI_e]; exact j4
      rw [if_neg (nI_ge hk' (by omega)), lk, mq_cp_s, nI_e]
      by_cases e1 : j = k
      · subst e1
        have hpk : hp (cE S) j := j3
        rw [if_pos rfl, mq_ck_of i1, ck, nS_e, nI_1, nI_e, nI_e, nI_1, ← ch_y hpk]
        refine sp_4T hN h hW fu (j + 1) _ (by omega) (by omega) (ag_tr hT (ag_sa (by decide))) (fun w hw => ?_)
        show ∃ h, h ≤ w ∧ hp (cE S) h ∧ cE S h w ∧ upd (T.2.1 27) j (nI (ch (cE S) j)) w = nI (ch (cE S) h)
        by_cases q : w = j
        · rw [q, up_s]; exact ⟨j, Nat.le_refl _, hpk, j2, rfl⟩
        · rw [up_o q]; exact hI w (by omega)
      · have jk : j < k := by omega
        have nh : ¬ hp (cE S) k := fun q => q j jk j2
        rw [if_neg (fun q => e1 (sp_inj q (by omega) (by omega))), mq_ck_of (vp_in_nI (show j < 60 by omega) (by omega)), mq_ck_of i1, ck, nI_clamp (show j < 2147483648 by omega), nS_e, nI_e, nI_1, ← ch_n nh]
        refine sp_4T hN h hW fu (k + 1) _ (by omega) (by omega) (ag_tr hT (ag_sa (by decide))) (fun w hw => ?_)
        show ∃ h, h ≤ w ∧ hp (cE S) h ∧ cE S h w ∧ upd (T.2.1 27) k (T.2.1 27 j) w = nI (ch (cE S) h)
        by_cases q : w = k
        · rw [q, up_s]
          obtain ⟨h', a1, a2, a3, a4⟩ := hI j jk
          exact ⟨h', by omega, a2, cE_t _ _ _ a3 j2, a4⟩
        · rw [up_o q]; exact hI w (by omega)
theorem ck_splT (hN : 100 ≤ N) (h : S.1 23 = nI W) (hW : W ≤ 60) : ∃ S', ag [] [26, 27] [] S S' ∧ num (cE S) W (S'.2.1 26) ∧ zf_X4_splitBySigns N z S = some (nI (ch (cE S) W), S') := by
  obtain ⟨T, t1, t2, t3⟩ := sp_4T (N := N) (z := z) hN h hW N 0 S (by omega) (by omega) ag_rf (fun w hw => by omega)
  obtain ⟨S', ⟨a1, a2⟩, a3⟩ := lp_i (F := fun fu k T => zf_X4_splitBySigns_56 N z fu (nI (ch (cE S) W)) k T) (n := W) (I := fun k T' => ag [] [26] [] T T' ∧ ∀ w, w < k → T'.2.1 26 w = T.2.1 27 w) (G := fun T' => some (nI (ch (cE S) W), T')) (fun fu T' hI => by
    show zf_X4_splitBySigns_56b N z _ _ (nI W) T' = _
    unfold zf_X4_splitBySigns_56b
    rw [hI.1.1 23 (by decide), t1.1 23 (by decide), h, if_pos (nI_le (Nat.le_refl _) (by omega))]) (fun fu k T' hk hI => by
    have i1 : vp_in (nI k) 60 := vp_in_nI (by omega) (by omega)
    have ck : (nI k).toNatClampNeg = k := nI_clamp (by omega)
    refine ⟨mq_sa T' 26 (upd (T'.2.1 26) k (T'.2.1 27 k)), ⟨ag_tr hI.1 (ag_sa (by decide)), fun w hw => ?_⟩, ?_⟩
    · show upd (T'.2.1 26) k (T'.2.1 27 k) w = _
      by_cases q : w = k
      · rw [q, up_s, hI.1.2.1 27 (by decide)]
      · rw [up_o q]; exact hI.2 w (by omega)
    · show zf_X4_splitBySigns_56b N z (fun v1 v2 S => zf_X4_splitBySigns_56 N z fu v1 v2 S) _ (nI k) T' = _
      unfold zf_X4_splitBySigns_56b
      rw [hI.1.1 23 (by decide), t1.1 23 (by decide), h, if_neg (nI_ge hk (by omega)), mq_ck_of i1, mq_ck_of i1, ck, nS_e, nI_e, nI_1]) N 0 T (by omega) (by omega) ⟨ag_rf, fun w hw => by omega⟩
  refine ⟨S', ag_tr (ag_mono t1 (by decide) (by decide) (by decide)) (ag_mono a1 (by decide) (by decide) (by decide)), fun w hw => ?_, ?_⟩
  · rw [a2 w hw]; exact t2 w hw
  · unfold zf_X4_splitBySigns
    rw [nI_e, nI_e]
    exact Eq.trans t3 a3
theorem sq_next {L : Nat → Int32} {r : Nat} {b : Nat → Int32} {s : Nat → Int64} (hW : W ≤ 60) (hb : num (sq W L M r) W b) (hs : ∀ w, w < W → ∀ j, j < 64 → (sbi (s w) j = true ↔ ∃ x, x < W ∧ M w x = true ∧ b x = nI j)) {v w : Nat} (hv : v < W) (hw : w < W) : (b v = b w ∧ s v = s w) ↔ sq W L M (r + 1) v w := by
  have ib := fun {v w : Nat} (hv : v < W) (hw : w < W) => num_iff hW (sq_es (W := W) (L := L) (M := M) r).1 (sq_es r).2 hb hv hw
  have bn : ∀ x, x < W → ∃ j, j < 60 ∧ b x = nI j := fun x hx => by
    obtain ⟨h, a1, -, -, a4⟩ := hb x hx
    exact ⟨_, by have := ch_le (E := sq W L M r) h; omega, a4⟩
  show _ ↔ sq W L M r v w ∧ _
  rw [← ib hv hw]
  refine and_congr_right (fun _ => ?_)
  constructor
  · intro e u hu
    obtain ⟨j, hj, ej⟩ := bn u hu
    have k : ∀ y, y < W → (sbi (s y) j = true ↔ ∃ x, x < W ∧ M y x = true ∧ sq W L M r x u) := fun y hy => by
      rw [hs y hy j (by omega)]
      constructor
      · rintro ⟨x, x1, x2, x3⟩; exact ⟨x, x1, x2, (ib x1 hu).mp (x3.trans ej.symm)⟩
      · rintro ⟨x, x1, x2, x3⟩; exact ⟨x, x1, x2, ((ib x1 hu).mpr x3).trans ej⟩
    rw [← k v hv, ← k w hw, e]
  · intro q
    apply l_ext
    intro j hj
    show sbi (s v) j = sbi (s w) j
    rw [Bool.eq_iff_iff, hs v hv j hj, hs w hw j hj]
    have k : ∀ y y', y < W → y' < W → (∀ u, u < W → ((∃ x, x < W ∧ M y x = true ∧ sq W L M r x u) → ∃ x, x < W ∧ M y' x = true ∧ sq W L M r x u)) → (∃ x, x < W ∧ M y x = true ∧ b x = nI j) → ∃ x, x < W ∧ M y' x = true ∧ b x = nI j := fun y y' hy hy' f => by
      rintro ⟨x, x1, x2, x3⟩
      obtain ⟨x', p1, p2, p3⟩ := f x x1 ⟨x, x1, x2, sq_r r x⟩
      exact ⟨x', p1, p2, ((ib p1 x1).mpr p3).trans x3⟩
    exact ⟨k v w hv hw (fun u hu => (q u hu).mp), k w v hw hv (fun u hu => (q u hu).mpr)⟩
theorem fu_43T {L : Nat → Int32} (hN : 100 ≤ N) (h : S.1 23 = nI W) (hW : W ≤ 60) (hM : mtC S W M) : ∀ (fu r : Nat) (T : mq_St), 61 ≤ r + fu → ag [] [26, 27] [8] S T → num (sq W L M r) W (T.2.1 26) → (W = 0 → r = 0) → (0 < W → r + 1 ≤ ch (sq W L M r) W) → ∃ T' r', stb W L M r' ∧ ag [] [26, 27] [8] S T' ∧ num (sq W L M r') W (T'.2.1 26) ∧ zf_X4_foldUp_43 N z fu (nI (ch (sq W L M r) W)) (nI r) T = zf_X4_foldUp_102 N z (nI (ch (sq W L M r') W)) T'
  | 0, r, T, h1, _, _, h0, hc => by
    have := ch_le (E := sq W L M r) W
    by_cases q : W = 0
    · have := h0 q; omega
    · have := hc (by omega); omega
  | fu + 1, r, T, h1, hT, hI, h0, hc => by
    have l1 := ch_le (E := sq W L M r) W
    have l2 := ch_le (E := sq W L M (r + 1)) W
    have hr : r < 60 := by
      by_cases q : W = 0
      · have := h0 q; omega
      · have := hc (by omega); omega
    show ∃ T' r', _ ∧ _ ∧ _ ∧ zf_X4_foldUp_43b N z (fun v1 v2 S => zf_X4_foldUp_43 N z fu v1 v2 S) (nI (ch (sq W L M r) W)) (nI r) T = _
    unfold zf_X4_foldUp_43b
    rw [if_neg (show ¬ (60 : Int32) ≤ nI r from nI_ge (b := 60) hr (by omega)), nI_e]
    have h23 : T.1 23 = nI W := (hT.1 23 (by decide)).trans h
    have h7 : T.2.2 7 = S.2.2 7 := hT.2.2 7 (by decide)
    obtain ⟨T2, ⟨a1, a2⟩, a3⟩ := lp_i (F := fun fu2 k T => zf_X4_foldUp_51 N z (fun v1 v2 S => zf_X4_foldUp_43 N z fu v1 v2 S) fu2 (nI (ch (sq W L M r) W)) (nI r) k T) (n := W) (I := fun k T2 => ag [] [] [8] T T2 ∧ ∀ w, w < k → ∀ j, j < 64 → (sbi (T2.2.2 8 w) j = true ↔ ∃ x, x < W ∧ M w x = true ∧ T.2.1 26 x = nI j)) (G := fun T2 => mq_cl (zf_X4_splitBySigns N z T2) (fun q16v S18 => (mq_nI (q16v) (fun x19 => (if x19 = (nI (ch (sq W L M r) W)) then (zf_X4_foldUp_102 N z (nI (ch (sq W L M r) W)) S18) else (mq_nI (x19) (fun x20 => (mq_nI (nI r + (1 : Int32)) (fun x21 => (zf_X4_foldUp_43 N z fu (x20) (x21) S18))))))))) ) (fun fu2 T2 hJ => by
      show zf_X4_foldUp_51b N z _ _ _ _ (nI W) T2 = _
      unfold zf_X4_foldUp_51b
      rw [hJ.1.1 23 (by decide), h23, if_pos (nI_le (Nat.le_refl _) (by omega))]) (fun fu2 k T2 hk hJ => by
      have i1 : vp_in (nI k) 60 := vp_in_nI (by omega) (by omega)
      have ck : (nI k).toNatClampNeg = k := nI_clamp (by omega)
      have h26 : T2.2.1 26 = T.2.1 26 := hJ.1.2.1 26 (by decide)
      have h7' : T2.2.2 7 = S.2.2 7 := (hJ.1.2.2 7 (by decide)).trans h7
      obtain ⟨rr, e1, e2⟩ := mv_T (N := N) (z := z) (S := T2) (T2.2.2 7 k) hN ((hJ.1.1 23 (by decide)).trans h23) hW (fun w hw => by
        rw [h26]
        obtain ⟨h', b1, -, -, b4⟩ := hI w hw
        exact Or.inr ⟨_, by have := ch_le (E := sq W L M r) h'; omega, b4⟩)
      refine ⟨mq_sl T2 8 (vp_updL (T2.2.2 8) k rr), ⟨ag_tr hJ.1 (ag_sl (by decide)), fun w hw j hj => ?_⟩, ?_⟩
      · show sbi (vp_updL (T2.2.2 8) k rr w) j = true ↔ _
        by_cases q : w = k
        · rw [q, ul_s, e2 j hj, h26, h7']
          constructor
          · rintro ⟨x, x1, x2, x3⟩; exact ⟨x, x1, by rw [← hM k x hk x1]; exact x2, x3⟩
          · rintro ⟨x, x1, x2, x3⟩; exact ⟨x, x1, by rw [hM k x hk x1]; exact x2, x3⟩
        · rw [ul_o q]; exact hJ.2 w (by omega) j hj
      · show zf_X4_foldUp_51b N z (fun v1 v2 S => zf_X4_foldUp_43 N z fu v1 v2 S) (fun v1 v2 v3 S => zf_X4_foldUp_51 N z (fun v1 v2 S => zf_X4_foldUp_43 N z fu v1 v2 S) fu2 v1 v2 v3 S) _ _ (nI k) T2 = _
        unfold zf_X4_foldUp_51b
        rw [hJ.1.1 23 (by decide), h23, if_neg (nI_ge hk (by omega)), mq_ck_of i1, ck, e1, mq_cp_s, mq_ck_of i1, nS_e, nI_e, nI_1]) N 0 T (by omega) (by omega) ⟨ag_rf, fun w hw => by omega⟩
    have h26 : T2.2.1 26 = T.2.1 26 := a1.2.1 26 (by decide)
    obtain ⟨T3, b1, b2, b3⟩ := ck_splT (N := N) (z := z) (S := T2) hN ((a1.1 23 (by decide)).trans h23) hW
    have eq : ∀ v w, v < W → w < W → (cE T2 v w ↔ sq W L M (r + 1) v w) := fun v w hv hw => by
      unfold cE
      rw [h26]
      exact sq_next hW hI a2 hv hw
    have nm : num (sq W L M (r + 1)) W (T3.2.1 26) := num_c eq b2
    have fr : ag [] [26, 27] [8] S T3 := ag_tr hT (ag_tr (ag_mono a1 (by decide) (by decide) (by decide)) (ag_mono b1 (by decide) (by decide) (by decide)))
    have fin := (ch_fin (E := sq W L M r) (E' := sq W L M (r + 1)) (fun v w h => h.1) W).1
    rw [ch_c eq W (Nat.le_refl _)] at b3
    have e0 : zf_X4_foldUp_51 N z (fun v1 v2 S => zf_X4_foldUp_43 N z fu v1 v2 S) N (nI (ch (sq W L M r) W)) (nI r) 0 T = mq_cl (zf_X4_splitBySigns N z T2) (fun q16v S18 => (mq_nI (q16v) (fun x19 => (if x19 = (nI (ch (sq W L M r) W)) then (zf_X4_foldUp_102 N z (nI (ch (sq W L M r) W)) S18) else (mq_nI (x19) (fun x20 => (mq_nI (nI r + (1 : Int32)) (fun x21 => (zf_X4_foldUp_43 N z fu (x20) (x21) S18))))))))) := a3
    rw [e0, b3, mq_cl_s, nI_e]
    by_cases q : ch (sq W L M (r + 1)) W = ch (sq W L M r) W
    · rw [if_pos (by rw [q])]
      exact ⟨T3, r + 1, stb_s (stb_ch q.symm), fr, nm, by rw [q]⟩
    · rw [if_neg (fun p => q (sp_inj p (by omega) (by omega))), nI_e, nI_e, nI_1]
      exact fu_43T hN h hW hM fu (r + 1) T3 (by omega) fr nm (fun p => by omega) (fun p => by have := hc p; omega)
theorem ck_foldT (hN : 200 ≤ N) (h : S.1 23 = nI W) (hW : W ≤ 60) (hM : mtC S W M) : ∃ S' r, stb W (S.2.1 23) M r ∧ frM S S' ∧ S'.1 23 = nI (ch (sq W (S.2.1 23) M r) W) ∧ S'.1 22 = 0 ∧ (∀ n, n < ch (sq W (S.2.1 23) M r) W → S'.2.1 23 n = S.2.1 23 (hg (sq W (S.2.1 23) M r) W n)) ∧ (∀ n j, n < ch (sq W (S.2.1 23) M r) W → j < ch (sq W (S.2.1 23) M r) W → (sbi (S'.2.2 7 n) j = true ↔ ∃ x, x < W ∧ M (hg (sq W (S.2.1 23) M r) W n) x = true ∧ sq W (S.2.1 23) M r x (hg (sq W (S.2.1 23) M r) W j))) ∧ zf_X4_foldUp N z S = some ((), S') := by
  obtain ⟨T, ⟨a1, a2⟩, a3⟩ := lp_i (F := fun fu j T => zf_X4_foldUp_2 N z fu j T) (n := W) (I := fun k T => ag [] [26] [8] S T ∧ ∀ w, w < k → T.2.1 26 w = 0 ∧ T.2.2 8 w = (S.2.1 23 w).toInt64) (G := fun T => mq_cl (zf_X4_splitBySigns N z T) (fun q2v S4 => (mq_nI (q2v) (fun x5 => (mq_nI ((0 : Int32)) (fun x6 => (zf_X4_foldUp_43 N z N (x5) (x6) S4))))))) (fun fu2 T hI => by
    show zf_X4_foldUp_2b N z _ (nI W) T = _
    unfold zf_X4_foldUp_2b
    rw [hI.1.1 23 (by decide), h, if_pos (nI_le (Nat.le_refl _) (by omega))]) (fun fu k T hk hI => by
    have i1 : vp_in (nI k) 60 := vp_in_nI (by omega) (by omega)
    have ck : (nI k).toNatClampNeg = k := nI_clamp (by omega)
    refine ⟨mq_sl (mq_sa T 26 (upd (T.2.1 26) k 0)) 8 (vp_updL (T.2.2 8) k (S.2.1 23 k).toInt64), ⟨ag_tr hI.1 (ag_tr (ag_sa (by decide)) (ag_sl (by decide))), fun w hw => ?_⟩, ?_⟩
    · show upd (T.2.1 26) k 0 w = 0 ∧ vp_updL (T.2.2 8) k (S.2.1 23 k).toInt64 w = _
      by_cases q : w = k
      · rw [q, up_s, ul_s]; exact ⟨rfl, rfl⟩
      · rw [up_o q, ul_o q]; exact hI.2 w (by omega)
    · show zf_X4_foldUp_2b N z (fun v1 S => zf_X4_foldUp_2 N z fu v1 S) (nI k) T = _
      unfold zf_X4_foldUp_2b
      have e23 : (mq_sa T 26 (upd (T.2.1 26) k 0)).2.1 23 k = S.2.1 23 k := congrFun (hI.1.2.1 23 (by decide)) k
      rw [hI.1.1 23 (by decide), h, if_neg (nI_ge hk (by omega)), mq_ck_of i1, ck, nS_e, mq_ck_of i1, mq_ck_of i1, e23, nS_e, nI_e, nI_1]
      rfl) N 0 S (by omega) (by omega) ⟨ag_rf, fun w hw => by omega⟩
  obtain ⟨T2, b1, b2, b3⟩ := ck_splT (N := N) (z := z) (S := T) (by omega) ((a1.1 23 (by decide)).trans h) hW
  have eq : ∀ v w, v < W → w < W → (cE T v w ↔ sq W (S.2.1 23) M 0 v w) := fun v w hv hw => by
    unfold cE
    rw [(a2 v hv).1, (a2 w hw).1, (a2 v hv).2, (a2 w hw).2]
    show _ ↔ S.2.1 23 v = S.2.1 23 w
    constructor
    · intro q
      have := congrArg Int64.toInt32 q.2
      rwa [Int32.toInt32_toInt64, Int32.toInt32_toInt64] at this
    · intro q; exact ⟨rfl, by rw [q]⟩
  have nm : num (sq W (S.2.1 23) M 0) W (T2.2.1 26) := num_c eq b2
  rw [ch_c eq W (Nat.le_refl _)] at b3
  obtain ⟨T3, r, c1, c2, c3, c4⟩ := fu_43T (N := N) (z := z) (S := S) (M := M) (L := S.2.1 23) (by omega) h hW hM N 0 T2 (by omega) (ag_tr (ag_mono a1 (by decide) (by decide) (by decide)) (ag_mono b1 (by decide) (by decide) (by decide))) nm (fun _ => rfl) (fun q => by
    have : ch (sq W (S.2.1 23) M 0) 1 = 0 + 1 := ch_y (k := 0) (fun v hv => by omega)
    have := ch_mono (E := sq W (S.2.1 23) M 0) (k := 1) (W - 1)
    rw [show 1 + (W - 1) = W by omega] at this
    omega)
  have lc := ch_le (E := sq W (S.2.1 23) M r) W
  have hs := (sq_es (W := W) (L := S.2.1 23) (M := M) r).1
  have ht := (sq_es (W := W) (L := S.2.1 23) (M := M) r).2
  have own : ∀ n, n < ch (sq W (S.2.1 23) M r) W → T3.2.1 26 (hg (sq W (S.2.1 23) M r) W n) = nI n := fun n hn => by
    obtain ⟨g1, g2, g3⟩ := hg_is hn
    obtain ⟨k, k1, k2, k3, k4⟩ := c3 _ g1
    have : k = hg (sq W (S.2.1 23) M r) W n := hd_un hs ht k2 g2 k3 (sq_r r _)
    rw [k4, this, g3]
  obtain ⟨S', s1, s2, s3, s4, s5, s6⟩ := ck_rebT (N := N) (z := z) (S := T3) (c := ch (sq W (S.2.1 23) M r) W) (og := hg (sq W (S.2.1 23) M r) W) hN ((c2.1 23 (by decide)).trans h) hW (fun w hw => by
    obtain ⟨k, k1, k2, k3, k4⟩ := c3 w hw
    exact Or.inr ⟨_, by have := ch_le (E := sq W (S.2.1 23) M r) k; omega, k4⟩) lc (fun n hn => by
    obtain ⟨g1, g2, g3⟩ := hg_is hn
    refine ⟨g1, own n hn, fun w hw e => ?_⟩
    obtain ⟨k, k1, k2, k3, k4⟩ := c3 w (by omega)
    have lk := ch_le (E := sq W (S.2.1 23) M r) k
    have : ch (sq W (S.2.1 23) M r) k = n := sp_inj (k4.symm.trans e) (by omega) (by omega)
    have := ch_inj k2 g2 (this.trans g3.symm)
    omega)
  refine ⟨S', r, c1, ag_tr (ag_mono c2 (by decide) (by decide) (by decide)) s1, s2, s3, fun n hn => by rw [s4 n hn, c2.2.1 23 (by decide)], fun n j hn hj => ?_, ?_⟩
  · have h5 := s5 n j hn (by omega)
    rw [c2.2.2 7 (by decide)] at h5
    obtain ⟨g1, g2, g3⟩ := hg_is hn
    obtain ⟨j1, j2, j3⟩ := hg_is hj
    rw [h5]
    constructor
    · rintro ⟨x, x1, x2, x3⟩
      exact ⟨x, x1, by rw [← hM _ x g1 x1]; exact x2, (num_iff hW hs ht c3 x1 j1).mp (x3.trans (own j hj).symm)⟩
    · rintro ⟨x, x1, x2, x3⟩
      exact ⟨x, x1, by rw [hM _ x g1 x1]; exact x2, ((num_iff hW hs ht c3 x1 j1).mpr x3).trans (own j hj)⟩
  · unfold zf_X4_foldUp
    rw [nI_e]
    refine Eq.trans a3 ?_
    rw [b3, mq_cl_s, nI_e, nI_e]
    refine Eq.trans c4 ?_
    unfold zf_X4_foldUp_102
    rw [s6, mq_cl_s]
end FOLDC
end
/-! au.foldr -/
section
/-! fold(): the reference's way. -/
section FOLDR
variable {N n : Nat} {z : Nat → Nat} {S S0 : mq_St} {W w c : Nat} {M : Nat → Nat → Bool} {L : Nat → Int32}
theorem sg_2T {u : Int32} (h : S.1 31 = nI W) (hW : W ≤ 60) (hw : w < W) (hM : mtR S W M) : ∀ fu k, k ≤ W → W - k < fu → (∀ x, x < k → ¬ (M w x = true ∧ S.2.1 39 x = u)) → ∃ r : Int32, zf_X11_seesGroup_2 N z S fu (nI w) u (nI k) = some r ∧ (r = 0 ∨ r = 1) ∧ (r = 1 ↔ ∃ x, x < W ∧ M w x = true ∧ S.2.1 39 x = u)
  | 0, k, _, h, _ => by omega
  | fu + 1, k, hk, hfu, hn => by
    show ∃ r : Int32, zf_X11_seesGroup_2b N z S (fun v1 v2 v3 => zf_X11_seesGroup_2 N z S fu v1 v2 v3) (nI w) u (nI k) = some r ∧ _
    unfold zf_X11_seesGroup_2b zf_X11_seesGroup_36
    rw [h]
    by_cases e : k = W
    · subst e
      rw [if_pos (nI_le (Nat.le_refl _) (by omega)), mq_cz_0]
      exact ⟨0, rfl, Or.inl rfl, fun q => absurd q (by decide), fun ⟨x, a, b⟩ => absurd b (hn x a)⟩
    · have hk' : k < W := by omega
      have go : ¬ (M w k = true ∧ S.2.1 39 k = u) → ∃ r : Int32, zf_X11_seesGroup_2 N z S fu (nI w) u (nI (k + 1)) = some r ∧ (r = 0 ∨ r = 1) ∧ (r = 1 ↔ ∃ x, x < W ∧ M w x = true ∧ S.2.1 39 x = u) := fun q => sg_2T h hW hw hM fu (k + 1) (by omega) (by omega) (fun x hx => by
        by_cases p : x = k
        · rw [p]; exact q
        · exact hn x (by omega))
      rw [if_neg (nI_ge hk' (by omega)), e60, mq_ck_of (vp_in_nI (by omega) (by omega)), mq_ck_of (show vp_in (nI k) 60 from vp_in_nI (by omega) (by omega)), mq_cz_1, nI_e, nI_1, nI_clamp (show 60 * w + k < 2147483648 by omega), nI_clamp (show k < 2147483648 by omega), hM w k hw hk']
      by_cases e1 : M w k = true
      · rw [if_pos e1, if_neg (show ¬ (1 : Int32) = 0 by decide)]
        by_cases e2 : S.2.1 39 k = u
        · rw [if_pos e2]
          exact ⟨1, rfl, Or.inr rfl, fun _ => ⟨k, hk', e1, e2⟩, fun _ => rfl⟩
        · rw [if_neg e2]; exact go (fun q => e2 q.2)
      · rw [if_neg e1, if_pos rfl]; exact go (fun q => e1 q.1)
theorem rf_groupT (u : Int32) (hN : 100 ≤ N) (h : S.1 31 = nI W) (hW : W ≤ 60) (hw : w < W) (hM : mtR S W M) : ∃ r : Int32, zf_X11_seesGroup N z (nI w) u S = some r ∧ (r = 0 ∨ r = 1) ∧ (r = 1 ↔ ∃ x, x < W ∧ M w x = true ∧ S.2.1 39 x = u) := by
  unfold zf_X11_seesGroup
  rw [nI_e]
  exact sg_2T h hW hw hM N 0 (by omega) (by omega) (fun x hx => by omega)
/-- an entry of look() -/
def lkP (S : mq_St) (W : Nat) (M : Nat → Nat → Bool) (v u : Nat) (y : Int32) : Prop := (y = 0 ∨ y = 1) ∧ (y = 1 ↔ ∃ x, x < W ∧ M v x = true ∧ S.2.1 39 x = nI u)
theorem nar01 {y : Int32} (h : y = 0 ∨ y = 1) : vp_nar .boolean y = y := by
  rcases h with rfl | rfl
  · exact nb0
  · exact nb1
theorem rf_lookT (hN : 100 ≤ N) (h : S.1 31 = nI W) (hW : W ≤ 60) (hM : mtR S W M) : ∃ S', (ag [] [41] [] S S' ∧ ∀ v u, v < W → u < W → lkP S W M v u (S'.2.1 41 (60 * v + u))) ∧ zf_X11_look N z S = some ((), S') := by
  unfold zf_X11_look
  rw [nI_e]
  refine lp_i (F := fun fu k T => zf_X11_look_2 N z fu k T) (n := W) (I := fun k T => ag [] [41] [] S T ∧ ∀ v u, v < k → u < W → lkP S W M v u (T.2.1 41 (60 * v + u))) (G := fun T => some ((), T)) (fun fu T hI => ?_) (fun fu k T hk hI => ?_) N 0 S (by omega) (by omega) ⟨ag_rf, fun v u hv => by omega⟩
  · show zf_X11_look_2b N z _ (nI W) T = _
    unfold zf_X11_look_2b
    rw [hI.1.1 31 (by decide), h, if_pos (nI_le (Nat.le_refl _) (by omega))]
  · show ∃ S', _ ∧ zf_X11_look_2b N z (fun v1 S => zf_X11_look_2 N z fu v1 S) (nI k) T = _
    unfold zf_X11_look_2b
    rw [hI.1.1 31 (by decide), h, if_neg (nI_ge hk (by omega)), nI_e]
    obtain ⟨T2, ⟨a1, a2⟩, a3⟩ := lp_i (F := fun fu2 j T => zf_X11_look_12 N z (fun v1 S => zf_X11_look_2 N z fu v1 S) fu2 (nI k) j T) (n := W) (I := fun j T2 => ag [] [41] [] S T2 ∧ ∀ v u, u < W → ((v < k) ∨ (v = k ∧ u < j)) → lkP S W M v u (T2.2.1 41 (60 * v + u))) (G := fun T => zf_X11_look_2 N z fu (nI (k + 1)) T) (fun fu2 T hJ => by
      show zf_X11_look_12b N z _ _ (nI k) (nI W) T = _
      unfold zf_X11_look_12b
      rw [hJ.1.1 31 (by decide), h, if_pos (nI_le (Nat.le_refl _) (by omega)), nI_e, nI_1]) (fun fu2 j T hj hJ => by
      have hT : T.1 31 = nI W := (hJ.1.1 31 (by decide)).trans h
      obtain ⟨r, hr, r01, rr⟩ := rf_groupT (N := N) (z := z) (S := T) (M := M) (nI j) hN hT hW hk (fun a b ha hb => by rw [hJ.1.2.1 35 (by decide)]; exact hM a b ha hb)
      rw [hJ.1.2.1 39 (by decide)] at rr
      refine ⟨mq_sa T 41 (upd (T.2.1 41) (60 * k + j) r), ⟨ag_tr hJ.1 (ag_sa (by decide)), fun v u hu q => ?_⟩, ?_⟩
      · show lkP S W M v u (upd (T.2.1 41) (60 * k + j) r (60 * v + u))
        by_cases p : v = k ∧ u = j
        · rw [p.1, p.2, up_s]; exact ⟨r01, rr⟩
        · rw [up_o (by rw [i60 (by omega) (by omega)]; exact p)]
          refine hJ.2 v u hu (q.imp id (fun q => ⟨q.1, ?_⟩))
          have := q.2
          by_cases e : u = j
          · exact absurd ⟨q.1, e⟩ p
          · omega
      · show zf_X11_look_12b N z (fun v1 S => zf_X11_look_2 N z fu v1 S) (fun v1 v2 S => zf_X11_look_12 N z (fun v1 S => zf_X11_look_2 N z fu v1 S) fu2 v1 v2 S) (nI k) (nI j) T = _
        unfold zf_X11_look_12b
        rw [hT, if_neg (nI_ge hj (by omega)), hr, mq_cp_s, e60, mq_ck_of (vp_in_nI (by omega) (by omega)), nI_clamp (by omega), nar01 r01, nS_e, nI_e, nI_1]) N 0 T (by omega) (by omega) ⟨hI.1, fun v u hu q => hI.2 v u (by omega) hu⟩
    exact ⟨T2, ⟨a1, fun v u hv hu => a2 v u hu (by omega)⟩, a3⟩
theorem al_19T {a b : Nat} (h : S.1 31 = nI W) (hW : W ≤ 60) (ha : a < W) (hb : b < W) : ∀ (fu k : Nat), k ≤ W → W - k < fu → ∃ r : Int32, zf_X11_isAlike_19 N z S fu (nI a) (nI b) (nI k) = some r ∧ (¬ r = 0 ↔ ∀ u, k ≤ u → u < W → S.2.1 41 (60 * a + u) = S.2.1 41 (60 * b + u))
  | 0, k, _, h => by omega
  | fu + 1, k, hk, hfu => by
    show ∃ r : Int32, zf_X11_isAlike_19b N z S (fun v1 v2 v3 => zf_X11_isAlike_19 N z S fu v1 v2 v3) (nI a) (nI b) (nI k) = some r ∧ _
    unfold zf_X11_isAlike_19b
    rw [h]
    by_cases e : k = W
    · rw [e, if_pos (nI_le (Nat.le_refl _) (by omega)), mq_cz_1]
      exact ⟨1, rfl, fun _ u h1 h2 => by omega, fun _ => by decide⟩
    · rw [if_neg (nI_ge (show k < W by omega) (by omega)), e60, e60, mq_ck_of (vp_in_nI (by omega) (by omega)), mq_ck_of (vp_in_nI (by omega) (by omega)), mq_cz_0, nI_e, nI_1, nI_clamp (by omega), nI_clamp (by omega)]
      by_cases q : S.2.1 41 (60 * a + k) = S.2.1 41 (60 * b + k)
      · rw [if_pos q]
        obtain ⟨r, h1, h2⟩ := al_19T h hW ha hb fu (k + 1) (by omega) (by omega)
        refine ⟨r, h1, h2.trans ⟨fun p u u1 u2 => ?_, fun p u u1 u2 => p u (by omega) u2⟩⟩
        by_cases e' : u = k
        · rw [e']; exact q
        · exact p u (by omega) u2
      · rw [if_neg q]; exact ⟨0, rfl, fun p => absurd rfl p, fun p => absurd (p k (Nat.le_refl _) (by omega)) q⟩
theorem rf_alikeT {a b : Nat} (hN : 100 ≤ N) (h : S.1 31 = nI W) (hW : W ≤ 60) (ha : a < W) (hb : b < W) : ∃ r : Int32, zf_X11_isAlike N z (nI a) (nI b) S = some r ∧ (¬ r = 0 ↔ S.2.1 39 a = S.2.1 39 b ∧ ∀ u, u < W → S.2.1 41 (60 * a + u) = S.2.1 41 (60 * b + u)) := by
  obtain ⟨r, h1, h2⟩ := al_19T (N := N) (z := z) h hW ha hb N 0 (by omega) (by omega)
  unfold zf_X11_isAlike
  rw [mq_ck_of (show vp_in (nI a) 60 from vp_in_nI (by omega) (by omega)), mq_ck_of (show vp_in (nI b) 60 from vp_in_nI (by omega) (by omega)), nI_clamp (show a < 2147483648 by omega), nI_clamp (show b < 2147483648 by omega), nI_e, mq_cz_0]
  by_cases q : S.2.1 39 a = S.2.1 39 b
  · rw [if_pos q]
    exact ⟨r, h1, h2.trans ⟨fun p => ⟨q, fun u hu => p u (by omega) hu⟩, fun p u _ hu => p.2 u hu⟩⟩
  · rw [if_neg q]; exact ⟨0, rfl, fun e => absurd rfl e, fun e => absurd e.1 q⟩
theorem sq_nextR {r : Nat} (hW : W ≤ 60) (hg : fst (sq W L M r) W (S.2.1 39)) {l : Nat → Int32} (hl : ∀ v u, v < W → u < W → lkP S W M v u (l (60 * v + u))) {v w : Nat} (hv : v < W) (hw : w < W) : (S.2.1 39 v = S.2.1 39 w ∧ ∀ u, u < W → l (60 * v + u) = l (60 * w + u)) ↔ sq W L M (r + 1) v w := by
  have ib := fun {v w : Nat} (hv : v < W) (hw : w < W) => fst_iff hW (sq_es (W := W) (L := L) (M := M) r).1 (sq_es r).2 hg hv hw
  show _ ↔ sq W L M r v w ∧ _
  rw [← ib hv hw]
  refine and_congr_right (fun _ => ?_)
  constructor
  · intro e u hu
    obtain ⟨h, h1, h2, h3, h4⟩ := hg u hu
    have k : ∀ y, y < W → (l (60 * y + h) = 1 ↔ ∃ x, x < W ∧ M y x = true ∧ sq W L M r x u) := fun y hy => by
      rw [(hl y h hy (by omega)).2]
      constructor
      · rintro ⟨x, x1, x2, x3⟩; exact ⟨x, x1, x2, (ib x1 hu).mp (x3.trans h4.symm)⟩
      · rintro ⟨x, x1, x2, x3⟩; exact ⟨x, x1, x2, ((ib x1 hu).mpr x3).trans h4⟩
    rw [← k v hv, ← k w hw, e h (by omega)]
  · intro q u hu
    have k : ∀ y y', y < W → y' < W → (∀ u, u < W → ((∃ x, x < W ∧ M y x = true ∧ sq W L M r x u) → ∃ x, x < W ∧ M y' x = true ∧ sq W L M r x u)) → l (60 * y + u) = 1 → l (60 * y' + u) = 1 := fun y y' hy hy' f e => by
      obtain ⟨x, x1, x2, x3⟩ := (hl y u hy hu).2.mp e
      obtain ⟨x', p1, p2, p3⟩ := f x x1 ⟨x, x1, x2, sq_r r x⟩
      exact (hl y' u hy' hu).2.mpr ⟨x', p1, p2, ((ib p1 x1).mpr p3).trans x3⟩
    have a := k v w hv hw (fun u hu => (q u hu).mp)
    have b := k w v hw hv (fun u hu => (q u hu).mpr)
    rcases (hl v u hv hu).1 with c | c
    · rcases (hl w u hw hu).1 with d | d
      · rw [c, d]
      · rw [b d] at c; exact absurd c (by decide)
    · rw [c, a c]
theorem fo_19T {k12 : Int32 → Int32 → mq_St → Option (Int32 × mq_St)} {v : Nat} (hW : W ≤ 60) (hv : v < W) : ∀ (fu u : Nat), u ≤ v → v - u < fu → (∀ x, x < u → ¬ S.2.1 34 x = S.2.1 34 v) → ∃ k, k ≤ v ∧ S.2.1 34 k = S.2.1 34 v ∧ (∀ x, x < k → ¬ S.2.1 34 x = S.2.1 34 v) ∧ zf_X11_fold_19 N z k12 fu (nI W) (nI v) (nI u) S = k12 (nI W) (nI (v + 1)) (mq_sa S 39 (upd (S.2.1 39) v (nI k)))
  | 0, u, _, h, _ => by omega
  | fu + 1, u, hu, hfu, hn => by
    show ∃ k, k ≤ v ∧ _ ∧ _ ∧ zf_X11_fold_19b N z k12 (fun v1 v2 v3 S => zf_X11_fold_19 N z k12 fu v1 v2 v3 S) (nI W) (nI v) (nI u) S = _
    unfold zf_X11_fold_19b
    rw [mq_ck_of (show vp_in (nI u) 60 from vp_in_nI (by omega) (by omega)), mq_ck_of (show vp_in (nI v) 60 from vp_in_nI (by omega) (by omega)), nI_clamp (show u < 2147483648 by omega), nI_clamp (show v < 2147483648 by omega), mq_ck_of (show vp_in (nI v) 60 from vp_in_nI (by omega) (by omega)), nS_e, nI_e, nI_e, nI_1, nI_1]
    by_cases e : S.2.1 34 u = S.2.1 34 v
    · rw [if_pos e]; exact ⟨u, hu, e, hn, rfl⟩
    · rw [if_neg e]
      have : u ≠ v := fun q => e (by rw [q])
      exact fo_19T hW hv fu (u + 1) (by omega) (by omega) (fun x hx => by
        by_cases p : x = u
        · rw [p]; exact e
        · exact hn x (by omega))
theorem fo_75T {k55 : Int32 → Int32 → mq_St → Option (Int32 × mq_St)} {k67 : Int32 → Int32 → Int32 → mq_St → Option (Int32 × mq_St)} {t : Int32} {v : Nat} {E : Nat → Nat → Prop} (hN : 100 ≤ N) (h : S.1 31 = nI W) (hW : W ≤ 60) (hv : v < W) (hE : ∀ a b, a < W → b < W → ((S.2.1 39 a = S.2.1 39 b ∧ ∀ u, u < W → S.2.1 41 (60 * a + u) = S.2.1 41 (60 * b + u)) ↔ E a b)) (hr : E v v) : ∀ (fu u : Nat), u ≤ v → v - u < fu → (∀ x, x < u → ¬ E x v) → ∃ k, k ≤ v ∧ E k v ∧ (∀ x, x < k → ¬ E x v) ∧ zf_X11_fold_75 N z k55 k67 fu (nI W) t (nI v) (nI u) S = k67 (nI W) t (nI (v + 1)) (mq_sa S 40 (upd (S.2.1 40) v (nI k)))
  | 0, u, _, h, _ => by omega
  | fu + 1, u, hu, hfu, hn => by
    show ∃ k, k ≤ v ∧ _ ∧ _ ∧ zf_X11_fold_75b N z k55 k67 (fun v1 v2 v3 v4 S => zf_X11_fold_75 N z k55 k67 fu v1 v2 v3 v4 S) (nI W) t (nI v) (nI u) S = _
    unfold zf_X11_fold_75b
    obtain ⟨r, h1, h2⟩ := rf_alikeT (N := N) (z := z) (S := S) (a := u) (b := v) hN h hW (by omega) hv
    rw [hE u v (by omega) hv] at h2
    rw [h1, mq_cp_s, mq_ck_of (show vp_in (nI v) 60 from vp_in_nI (by omega) (by omega)), nI_clamp (show v < 2147483648 by omega), nS_e, nI_e, nI_e, nI_1, nI_1]
    by_cases e : r = 0
    · rw [if_pos e]
      have ne : ¬ E u v := fun q => h2.mpr q e
      have : u ≠ v := fun q => ne (by rw [q]; exact hr)
      exact fo_75T hN h hW hv hE hr fu (u + 1) (by omega) (by omega) (fun x hx => by
        by_cases p : x = u
        · rw [p]; exact ne
        · exact hn x (by omega))
    · rw [if_neg e]; exact ⟨u, hu, h2.mp e, hn, rfl⟩
theorem fo_107T {k55 : Int32 → Int32 → mq_St → Option (Int32 × mq_St)} {a b : Nat → Int32} (hW : W ≤ 60) (h31 : S0.1 31 = nI W) (hb0 : S0.2.1 40 = b) : ∀ (fu k : Nat) (t : Int32) (S : mq_St), k ≤ W → W - k < fu → ag [] [39] [] S0 S → (∀ v, S.2.1 39 v = if v < k then b v else a v) → ((t = 0 ∧ ∀ v, v < k → b v = a v) ∨ (t = 1 ∧ ∃ v, v < k ∧ b v ≠ a v)) → ∃ t' S', ((t' = 0 ∧ ∀ v, v < W → b v = a v) ∨ (t' = 1 ∧ ∃ v, v < W ∧ b v ≠ a v)) ∧ ag [] [39] [] S0 S' ∧ (∀ v, v < W → S'.2.1 39 v = b v) ∧ zf_X11_fold_107 N z k55 fu (nI W) t (nI k) S = k55 (nI W) t' S'
  | 0, k, t, S, _, h, _, _, _ => by omega
  | fu + 1, k, t, S, hk, hfu, hS, ha, ht => by
    show ∃ t' S', _ ∧ _ ∧ _ ∧ zf_X11_fold_107b N z k55 (fun v1 v2 v3 S => zf_X11_fold_107 N z k55 fu v1 v2 v3 S) (nI W) t (nI k) S = _
    unfold zf_X11_fold_107b
    have hb : S.2.1 40 = b := (hS.2.1 40 (by decide)).trans hb0
    by_cases e : k = W
    · rw [e, if_pos (nI_le (Nat.le_refl _) (by omega))]
      subst e
      exact ⟨t, S, ht, hS, fun v hv => by rw [ha, if_pos hv], rfl⟩
    · rw [if_neg (nI_ge (show k < W by omega) (by omega))]
      have i1 : vp_in (nI k) 60 := vp_in_nI (by omega) (by omega)
      have st : ∀ t2 : Int32, zf_X11_fold_136 N z k55 (fun v1 v2 v3 S => zf_X11_fold_107 N z k55 fu v1 v2 v3 S) (nI W) (nI k) t2 S = zf_X11_fold_107 N z k55 fu (nI W) t2 (nI (k + 1)) (mq_sa S 39 (upd (S.2.1 39) k (b k))) := fun t2 => by
        unfold zf_X11_fold_136
        rw [nI_e, mq_ck_of i1, mq_ck_of i1, nI_clamp (show k < 2147483648 by omega), nS_e, nI_e, nI_1, hb]
      have ha' : ∀ v, (mq_sa S 39 (upd (S.2.1 39) k (b k))).2.1 39 v = if v < k + 1 then b v else a v := fun v => by
        show upd (S.2.1 39) k (b k) v = _
        by_cases q : v = k
        · rw [q, up_s, if_pos (by omega)]
        · rw [up_o q, ha]
          by_cases q' : v < k
          · rw [if_pos q', if_pos (by omega)]
          · rw [if_neg q', if_neg (by omega)]
      have go := fun t2 => fo_107T (k55 := k55) (a := a) (b := b) hW h31 hb0 fu (k + 1) t2 (mq_sa S 39 (upd (S.2.1 39) k (b k))) (by omega) (by omega) (ag_tr hS (ag_sa (by decide))) ha'
      unfold zf_X11_fold_131
      rw [st, st, mq_ck_of i1, mq_ck_of i1, nI_clamp (show k < 2147483648 by omega), hb, ha, if_neg (Nat.lt_irrefl _)]
      rcases ht with ⟨t0, q⟩ | ⟨t1, v, hv, q⟩
      · rw [if_pos t0]
        by_cases e2 : b k = a k
        · rw [if_pos e2]
          refine go 0 (Or.inl ⟨rfl, fun v hv => ?_⟩)
          by_cases q' : v = k
          · rw [q']; exact e2
          · exact q v (by omega)
        · rw [if_neg e2]
          exact go 1 (Or.inr ⟨rfl, k, by omega, e2⟩)
      · rw [if_neg (by rw [t1]; decide)]
        exact go 1 (Or.inr ⟨rfl, v, by omega, q⟩)
theorem fst_hd {E : Nat → Nat → Prop} {g : Nat → Int32} {k : Nat} (h : fst E k g) : hd g k := fun v hv => by
  obtain ⟨u, a, -, -, b⟩ := h v hv
  exact ⟨u, a, b⟩
/-- what fold() changes ahead of settle() -/
def frZ (S S' : mq_St) : Prop := ag [] [39, 40, 41, 42, 43] [] S S'
theorem fo_55T (hN : 4000 ≤ N) (h : S0.1 31 = nI W) (hW : W ≤ 60) (hM : mtR S0 W M) : ∀ (fu r : Nat) (S : mq_St), 3602 ≤ sm (S.2.1 39) W + fu → frZ S0 S → fst (sq W L M r) W (S.2.1 39) → ∃ S' r', stb W L M r' ∧ frZ S0 S' ∧ fst (sq W L M r') W (S'.2.1 39) ∧ zf_X11_fold_55 N z fu (nI W) 1 S = zf_X11_fold_163 N z N (nI W) (nI 0) (nI 0) S'
  | 0, r, S, h1, hS, hh => by have := sm_b W hW (fst_hd hh); omega
  | fu + 1, r, S, h1, hS, hh => by
    show ∃ S' r', _ ∧ _ ∧ _ ∧ zf_X11_fold_55b N z (fun v1 v2 S => zf_X11_fold_55 N z fu v1 v2 S) (nI W) 1 S = _
    unfold zf_X11_fold_55b
    have hS31 : S.1 31 = nI W := (hS.1 31 (by decide)).trans h
    obtain ⟨T, ⟨a1, a1'⟩, a2⟩ := rf_lookT (N := N) (z := z) (S := S) (M := M) (by omega) hS31 hW (fun a b ha hb => by rw [hS.2.1 35 (by decide)]; exact hM a b ha hb)
    have hT : T.1 31 = nI W := (a1.1 31 (by decide)).trans hS31
    have h39 : T.2.1 39 = S.2.1 39 := a1.2.1 39 (by decide)
    rw [if_neg (by decide), nI_e, a2, mq_cl_s, nI_e]
    obtain ⟨T2, ⟨c1, c2⟩, c3⟩ := lp_i (F := fun fu2 k T => zf_X11_fold_67 N z (fun v1 v2 S => zf_X11_fold_55 N z fu v1 v2 S) fu2 (nI W) 0 k T) (n := W) (I := fun k T2 => ag [] [40] [] T T2 ∧ fst (sq W L M (r + 1)) k (T2.2.1 40)) (G := fun T2 => zf_X11_fold_107 N z (fun v1 v2 S => zf_X11_fold_55 N z fu v1 v2 S) N (nI W) 0 0 T2) (fun fu2 T2 hI => by
      show zf_X11_fold_67b N z _ _ (nI W) 0 (nI W) T2 = _
      unfold zf_X11_fold_67b
      rw [if_pos (nI_le (Nat.le_refl _) (by omega)), nI_e]) (fun fu2 k T2 hk hI => by
      have hT2 : T2.1 31 = nI W := (hI.1.1 31 (by decide)).trans hT
      have h39' : T2.2.1 39 = S.2.1 39 := (hI.1.2.1 39 (by decide)).trans h39
      have h41' : T2.2.1 41 = T.2.1 41 := hI.1.2.1 41 (by decide)
      obtain ⟨u, d1, d2, d4, d3⟩ := fo_75T (N := N) (z := z) (S := T2) (k55 := fun v1 v2 S => zf_X11_fold_55 N z fu v1 v2 S) (k67 := fun v1 v2 v3 S => zf_X11_fold_67 N z (fun v1 v2 S => zf_X11_fold_55 N z fu v1 v2 S) fu2 v1 v2 v3 S) (t := 0) (E := sq W L M (r + 1)) (by omega) hT2 hW hk (fun a b ha hb => by rw [h39', h41']; exact sq_nextR hW hh a1' ha hb) (sq_r (r + 1) k) N 0 (by omega) (by omega) (fun x hx => by omega)
      refine ⟨mq_sa T2 40 (upd (T2.2.1 40) k (nI u)), ⟨ag_tr hI.1 (ag_sa (by decide)), fun v hv => ?_⟩, ?_⟩
      · show ∃ h, h ≤ v ∧ hp (sq W L M (r + 1)) h ∧ sq W L M (r + 1) h v ∧ upd (T2.2.1 40) k (nI u) v = nI h
        by_cases q : v = k
        · rw [q, up_s]
          exact ⟨u, d1, fun x hx e => d4 x hx (sq_t (r + 1) e d2), d2, rfl⟩
        · rw [up_o q]; exact hI.2 v (by omega)
      · show zf_X11_fold_67b N z (fun v1 v2 S => zf_X11_fold_55 N z fu v1 v2 S) (fun v1 v2 v3 S => zf_X11_fold_67 N z (fun v1 v2 S => zf_X11_fold_55 N z fu v1 v2 S) fu2 v1 v2 v3 S) (nI W) 0 (nI k) T2 = _
        unfold zf_X11_fold_67b
        rw [if_neg (nI_ge hk (by omega)), nI_e]
        exact d3) N 0 T (by omega) (by omega) ⟨ag_rf, fun v hv => by omega⟩
    have hT2 : T2.1 31 = nI W := (c1.1 31 (by decide)).trans hT
    have h39' : T2.2.1 39 = S.2.1 39 := (c1.2.1 39 (by decide)).trans h39
    have fS : frZ S T2 := ag_tr (ag_mono a1 (by decide) (by decide) (by decide)) (ag_mono c1 (by decide) (by decide) (by decide))
    obtain ⟨t', T3, e1, e2, e4, e5⟩ := fo_107T (N := N) (z := z) (S0 := T2) (k55 := fun v1 v2 S => zf_X11_fold_55 N z fu v1 v2 S) (a := S.2.1 39) (b := T2.2.1 40) hW hT2 rfl N 0 0 T2 (by omega) (by omega) ag_rf (fun v => by rw [if_neg (by omega), h39']) (Or.inl ⟨rfl, fun v hv => by omega⟩)
    have f3 : fst (sq W L M (r + 1)) W (T3.2.1 39) := fun v hv => by
      rw [e4 v hv]; exact c2 v hv
    have fr3 : frZ S0 T3 := ag_tr (ag_tr hS fS) (ag_mono e2 (by decide) (by decide) (by decide))
    have ge : ∀ v, v < W → (S.2.1 39 v).toNatClampNeg ≤ (T2.2.1 40 v).toNatClampNeg ∧ ((S.2.1 39 v).toNatClampNeg = (T2.2.1 40 v).toNatClampNeg → T2.2.1 40 v = S.2.1 39 v) := fun v hv => by
      obtain ⟨u, f1, f2, f3, f4⟩ := c2 v hv
      obtain ⟨p, g1, g2, g3, g4⟩ := hh v hv
      rw [f4, g4, nI_clamp (by omega), nI_clamp (by omega)]
      refine ⟨?_, fun e => by rw [e]⟩
      by_cases q : u < p
      · exact absurd (sq_t r f3.1 (sq_s r g3)) (g2 u q)
      · omega
    have s3 : ∀ k, k ≤ W → sm (T3.2.1 39) k = sm (T2.2.1 40) k := fun k => by
      induction k with
      | zero => intro _; rfl
      | succ k ih => intro hk; show sm _ k + _ = sm _ k + _; rw [ih (by omega), e4 k (by omega)]
    rcases e1 with ⟨q, p⟩ | ⟨q, v, hv, g⟩
    · have hfu : 1 ≤ fu := by have := sm_b W hW (fst_hd hh); omega
      obtain ⟨fu', rfl⟩ : ∃ f', fu = f' + 1 := ⟨fu - 1, by omega⟩
      have sr : stb W L M r := fun v w hv hw e => by
        have e39 := (fst_iff hW (sq_es (W := W) (L := L) (M := M) r).1 (sq_es r).2 hh hv hw).mpr e
        refine (fst_iff hW (sq_es (W := W) (L := L) (M := M) (r + 1)).1 (sq_es (r + 1)).2 f3 hv hw).mp ?_
        rw [e4 v hv, e4 w hw, p v hv, p w hw, e39]
      refine ⟨T3, r + 1, stb_s sr, fr3, f3, (Eq.trans c3 e5).trans ?_⟩
      show zf_X11_fold_55b N z _ (nI W) t' T3 = _
      unfold zf_X11_fold_55b
      rw [if_pos q, nI_e, nI_e]
      rfl
    · have lt : sm (S.2.1 39) W < sm (T2.2.1 40) W := sm_lt W (fun v hv => (ge v hv).1) ⟨v, hv, by
        have a := (ge v hv).1
        have b : (S.2.1 39 v).toNatClampNeg ≠ (T2.2.1 40 v).toNatClampNeg := fun q => g ((ge v hv).2 q)
        omega⟩
      obtain ⟨S', r', g1, g2, g3, g4⟩ := fo_55T hN h hW hM fu (r + 1) T3 (by rw [s3 W (Nat.le_refl _)]; omega) fr3 f3
      exact ⟨S', r', g1, g2, g3, (Eq.trans c3 e5).trans (by rw [q]; exact g4)⟩
theorem fo_163T {E : Nat → Nat → Prop} (hW : W ≤ 60) (hg : fst E W (S.2.1 39)) : ∀ (fu k : Nat) (T : mq_St), k ≤ W → W - k < fu → ag [] [42] [] S T → (∀ h, h < k → hp E h → T.2.1 42 (ch E h) = nI h) → ∃ T', ag [] [42] [] S T' ∧ (∀ h, h < W → hp E h → T'.2.1 42 (ch E h) = nI h) ∧ zf_X11_fold_163 N z fu (nI W) (nI (ch E k)) (nI k) T = zf_X11_fold_201 N z N (nI W) (nI (ch E W)) (nI 0) T'
  | 0, k, T, _, h, _, _ => by omega
  | fu + 1, k, T, hk, hfu, hT, hI => by
    show ∃ T', _ ∧ _ ∧ zf_X11_fold_163b N z (fun v1 v3 v4 S => zf_X11_fold_163 N z fu v1 v3 v4 S) (nI W) (nI (ch E k)) (nI k) T = _
    unfold zf_X11_fold_163b zf_X11_fold_192
    by_cases e : k = W
    · subst e
      rw [if_pos (nI_le (Nat.le_refl _) (by omega)), nI_e]
      exact ⟨T, hT, hI, rfl⟩
    · have lk := ch_le (E := E) k
      have hk' : k < W := by omega
      rw [if_neg (nI_ge hk' (by omega)), mq_ck_of (vp_in_nI (by omega) (by omega)), mq_ck_of (vp_in_nI (show ch E k < 60 by omega) (by omega)), nI_clamp (show ch E k < 2147483648 by omega), nS_e, nI_e, nI_e, nI_e, nI_1, nI_1, nI_clamp (show k < 2147483648 by omega), hT.2.1 39 (by decide)]
      obtain ⟨u, u1, u2, u3, u4⟩ := hg k hk'
      by_cases q : hp E k
      · have uk : u = k := by
          by_cases p : u < k
          · exact absurd u3 (q u p)
          · omega
        rw [if_pos (by rw [u4, uk]), ← ch_y q]
        refine fo_163T hW hg fu (k + 1) _ (by omega) (by omega) (ag_tr hT (ag_sa (by decide))) (fun j hj hpj => ?_)
        show upd (T.2.1 42) (ch E k) (nI k) (ch E j) = nI j
        by_cases p : j = k
        · rw [p, up_s]
        · have := ch_lt hpj (show j < k by omega)
          rw [up_o (by omega)]; exact hI j (by omega) hpj
      · rw [if_neg (fun p => q (by rw [u4] at p; rw [← sp_inj p (by omega) (by omega)]; exact u2)), ← ch_n q]
        refine fo_163T hW hg fu (k + 1) T (by omega) (by omega) hT (fun j hj hpj => ?_)
        by_cases p : j = k
        · rw [p] at hpj; exact absurd hpj q
        · exact hI j (by omega) hpj
/-- an entry of the folded model -/
def fdP (S : mq_St) (W : Nat) (M : Nat → Nat → Bool) (ki kj : Int32) (k : Nat) (y : Int32) : Prop := (y = 0 ∨ y = 1) ∧ (y = 1 ↔ ∃ v, v < k ∧ S.2.1 39 v = ki ∧ ∃ x, x < W ∧ M v x = true ∧ S.2.1 39 x = kj)
theorem fo_233T {i j : Nat} {k201 : Int32 → Int32 → Int32 → mq_St → Option (Int32 × mq_St)} {k210 : Int32 → Int32 → Int32 → Int32 → mq_St → Option (Int32 × mq_St)} (hN : 100 ≤ N) (h : S.1 31 = nI W) (hW : W ≤ 60) (hM : mtR S W M) (hc : c ≤ 60) (hi : i < c) (hj : j < c) {T : mq_St} (hT : ag [] [43] [] S T) (h0 : T.2.1 43 (60 * i + j) = 0) : ∃ T', (ag [] [43] [] S T' ∧ (∀ y, y ≠ 60 * i + j → T'.2.1 43 y = T.2.1 43 y) ∧ fdP S W M (S.2.1 42 i) (S.2.1 42 j) W (T'.2.1 43 (60 * i + j))) ∧ zf_X11_fold_233 N z k201 k210 N (nI W) (nI c) (nI i) (nI j) 0 T = k210 (nI W) (nI c) (nI i) (nI (j + 1)) T' := by
  refine lp_i (F := fun fu k T => zf_X11_fold_233 N z k201 k210 fu (nI W) (nI c) (nI i) (nI j) k T) (n := W) (I := fun k T' => ag [] [43] [] S T' ∧ (∀ y, y ≠ 60 * i + j → T'.2.1 43 y = T.2.1 43 y) ∧ fdP S W M (S.2.1 42 i) (S.2.1 42 j) k (T'.2.1 43 (60 * i + j))) (G := fun T' => k210 (nI W) (nI c) (nI i) (nI (j + 1)) T') (fun fu T' hI => ?_) (fun fu k T' hk hI => ?_) N 0 T (by omega) (by omega) ⟨hT, fun _ _ => rfl, Or.inl h0, fun q => by rw [h0] at q; exact absurd q (by decide), fun ⟨v, hv, _⟩ => by omega⟩
  · show zf_X11_fold_233b N z k201 k210 _ (nI W) (nI c) (nI i) (nI j) (nI W) T' = _
    unfold zf_X11_fold_233b
    rw [if_pos (nI_le (Nat.le_refl _) (by omega)), nI_e, nI_1]
  · obtain ⟨hI1, hI2, hI3, hI4⟩ := hI
    show ∃ S', _ ∧ zf_X11_fold_233b N z k201 k210 (fun v1 v3 v4 v5 v6 S => zf_X11_fold_233 N z k201 k210 fu v1 v3 v4 v5 v6 S) (nI W) (nI c) (nI i) (nI j) (nI k) T' = _
    unfold zf_X11_fold_233b zf_X11_fold_300 zf_X11_fold_304 zf_X11_fold_305
    obtain ⟨r, hr, r01, rr⟩ := rf_groupT (N := N) (z := z) (S := T') (M := M) (w := k) (T'.2.1 42 j) hN ((hI1.1 31 (by decide)).trans h) hW hk (fun a b ha hb => by rw [hI1.2.1 35 (by decide)]; exact hM a b ha hb)
    rw [hI1.2.1 39 (by decide), hI1.2.1 42 (by decide)] at rr
    rw [if_neg (nI_ge hk (by omega)), e60, mq_ck_of (vp_in_nI (by omega) (by omega)), mq_ck_of (show vp_in (nI k) 60 from vp_in_nI (by omega) (by omega)), mq_ck_of (show vp_in (nI i) 60 from vp_in_nI (by omega) (by omega)), mq_ck_of (show vp_in (nI j) 60 from vp_in_nI (by omega) (by omega)), nI_clamp (show j < 2147483648 by omega), nI_clamp (show i < 2147483648 by omega), nI_clamp (show k < 2147483648 by omega), nI_clamp (show 60 * i + j < 2147483648 by omega), hr, mq_cp_s, hI1.2.1 39 (by decide), hI1.2.1 42 (by decide)]
    have fin : ∀ t2 : Int32, (t2 = 0 ∨ t2 = 1) → (t2 = 1 ↔ ∃ v, v < k + 1 ∧ S.2.1 39 v = S.2.1 42 i ∧ ∃ x, x < W ∧ M v x = true ∧ S.2.1 39 x = S.2.1 42 j) → ∃ S', (ag [] [43] [] S S' ∧ (∀ y, y ≠ 60 * i + j → S'.2.1 43 y = T.2.1 43 y) ∧ fdP S W M (S.2.1 42 i) (S.2.1 42 j) (k + 1) (S'.2.1 43 (60 * i + j))) ∧ (mq_ck (nI (60 * i + j)) 3600 (mq_nS (mq_sa T' 43 (upd (T'.2.1 43) (60 * i + j) (vp_nar .boolean t2))) (fun S72 => mq_nI (nI k + 1) (fun x73 => zf_X11_fold_233 N z k201 k210 fu (nI W) (nI c) (nI i) (nI j) x73 S72)))) = zf_X11_fold_233 N z k201 k210 fu (nI W) (nI c) (nI i) (nI j) (nI (k + 1)) S' := fun t2 h01 hiff => by
      refine ⟨mq_sa T' 43 (upd (T'.2.1 43) (60 * i + j) t2), ⟨ag_tr hI1 (ag_sa (by decide)), fun y hy => ?_, ?_⟩, ?_⟩
      · show upd (T'.2.1 43) (60 * i + j) t2 y = _
        rw [up_o hy]; exact hI2 y hy
      · show fdP S W M _ _ _ (upd (T'.2.1 43) (60 * i + j) t2 (60 * i + j))
        rw [up_s]; exact ⟨h01, hiff⟩
      · rw [mq_ck_of (vp_in_nI (by omega) (by omega)), nar01 h01, nS_e, nI_e, nI_1]
    have old : ∀ {P : Prop}, (∃ v, v < k ∧ S.2.1 39 v = S.2.1 42 i ∧ ∃ x, x < W ∧ M v x = true ∧ S.2.1 39 x = S.2.1 42 j) → ∃ v, v < k + 1 ∧ S.2.1 39 v = S.2.1 42 i ∧ ∃ x, x < W ∧ M v x = true ∧ S.2.1 39 x = S.2.1 42 j := fun ⟨v, a, b⟩ => ⟨v, by omega, b⟩
    have none' : T'.2.1 43 (60 * i + j) = 0 → ¬ (S.2.1 39 k = S.2.1 42 i ∧ ∃ x, x < W ∧ M k x = true ∧ S.2.1 39 x = S.2.1 42 j) → ¬ ∃ v, v < k + 1 ∧ S.2.1 39 v = S.2.1 42 i ∧ ∃ x, x < W ∧ M v x = true ∧ S.2.1 39 x = S.2.1 42 j := fun z0 nk ⟨v, a, b⟩ => by
      by_cases p : v = k
      · rw [p] at b; exact nk b
      · have := hI4.mpr ⟨v, by omega, b⟩
        rw [z0] at this; exact absurd this (by decide)
    by_cases e0 : T'.2.1 43 (60 * i + j) = 0
    · rw [if_pos e0]
      by_cases e1 : S.2.1 39 k = S.2.1 42 i
      · rw [if_pos e1]
        by_cases e2 : r = 0
        · rw [if_pos e2]
          refine fin 0 (Or.inl rfl) ⟨fun q => absurd q (by decide), fun q => absurd q (none' e0 (fun p => ?_))⟩
          have := rr.mpr p.2
          rw [e2] at this; exact absurd this (by decide)
        · have r1 : r = 1 := r01.resolve_left e2
          rw [if_neg e2]
          exact fin 1 (Or.inr rfl) ⟨fun _ => ⟨k, by omega, e1, rr.mp r1⟩, fun _ => rfl⟩
      · rw [if_neg e1]
        exact fin 0 (Or.inl rfl) ⟨fun q => absurd q (by decide), fun q => absurd q (none' e0 (fun p => e1 p.1))⟩
    · rw [if_neg e0]
      exact fin 1 (Or.inr rfl) ⟨fun _ => old (P := True) (hI4.mp (hI3.resolve_left e0)), fun _ => rfl⟩
theorem fo_201T (hN : 100 ≤ N) (h : S.1 31 = nI W) (hW : W ≤ 60) (hM : mtR S W M) (hc : c ≤ 60) : ∃ S', ag [] [43] [] S S' ∧ (∀ i j, i < c → j < c → fdP S W M (S.2.1 42 i) (S.2.1 42 j) W (S'.2.1 43 (60 * i + j))) ∧ zf_X11_fold_201 N z N (nI W) (nI c) (nI 0) S = mq_cl (zf_X11_settle N z (nI c) S') (fun _ S52 => some (nI c, S52)) := by
  obtain ⟨T, ⟨a1, a2⟩, a3⟩ := lp_i (F := fun fu k T => zf_X11_fold_201 N z fu (nI W) (nI c) k T) (n := c) (I := fun k T => ag [] [43] [] S T ∧ ∀ i j, i < k → j < c → fdP S W M (S.2.1 42 i) (S.2.1 42 j) W (T.2.1 43 (60 * i + j))) (G := fun T => mq_cl (zf_X11_settle N z (nI c) T) (fun _ S52 => some (nI c, S52))) (fun fu T hI => by
    show zf_X11_fold_201b N z _ (nI W) (nI c) (nI c) T = _
    unfold zf_X11_fold_201b
    rw [if_pos (nI_le (Nat.le_refl _) (by omega))]) (fun fu k T hk hI => by
    obtain ⟨T2, ⟨b1, b2⟩, b3⟩ := lp_i (F := fun fu2 j T => zf_X11_fold_210 N z (fun v1 v3 v4 S => zf_X11_fold_201 N z fu v1 v3 v4 S) fu2 (nI W) (nI c) (nI k) j T) (n := c) (I := fun q T2 => ag [] [43] [] S T2 ∧ ∀ i j, j < c → (i < k ∨ (i = k ∧ j < q)) → fdP S W M (S.2.1 42 i) (S.2.1 42 j) W (T2.2.1 43 (60 * i + j))) (G := fun T => zf_X11_fold_201 N z fu (nI W) (nI c) (nI (k + 1)) T) (fun fu2 T hI => by
      show zf_X11_fold_210b N z _ _ (nI W) (nI c) (nI k) (nI c) T = _
      unfold zf_X11_fold_210b
      rw [if_pos (nI_le (Nat.le_refl _) (by omega)), nI_e, nI_1]) (fun fu2 q T hq hI => by
      obtain ⟨T3, ⟨d1, d2, d3⟩, d4⟩ := fo_233T (N := N) (z := z) (S := S) (i := k) (j := q) (k201 := fun v1 v3 v4 S => zf_X11_fold_201 N z fu v1 v3 v4 S) (k210 := fun v1 v3 v4 v5 S => zf_X11_fold_210 N z (fun v1 v3 v4 S => zf_X11_fold_201 N z fu v1 v3 v4 S) fu2 v1 v3 v4 v5 S) hN h hW hM hc hk hq (T := mq_sa T 43 (upd (T.2.1 43) (60 * k + q) 0)) (ag_tr hI.1 (ag_sa (by decide))) (up_s _ _ _)
      refine ⟨T3, ⟨d1, fun i j hj p => ?_⟩, ?_⟩
      · by_cases e : i = k ∧ j = q
        · rw [e.1, e.2]; exact d3
        · have ne : 60 * i + j ≠ 60 * k + q := by rw [Ne, i60 (by omega) (by omega)]; exact e
          rw [d2 _ ne]
          show fdP S W M _ _ _ (upd (T.2.1 43) (60 * k + q) 0 (60 * i + j))
          rw [up_o ne]
          refine hI.2 i j hj (p.imp id (fun p => ⟨p.1, ?_⟩))
          have := p.2
          by_cases e' : j = q
          · exact absurd ⟨p.1, e'⟩ e
          · omega
      · show zf_X11_fold_210b N z (fun v1 v3 v4 S => zf_X11_fold_201 N z fu v1 v3 v4 S) (fun v1 v3 v4 v5 S => zf_X11_fold_210 N z (fun v1 v3 v4 S => zf_X11_fold_201 N z fu v1 v3 v4 S) fu2 v1 v3 v4 v5 S) (nI W) (nI c) (nI k) (nI q) T = _
        unfold zf_X11_fold_210b
        rw [if_neg (nI_ge hq (by omega)), e60, mq_ck_of (vp_in_nI (by omega) (by omega)), nI_clamp (by omega), nb0, nS_e, nI_e]
        exact d4) N 0 T (by omega) (by omega) ⟨hI.1, fun i j hj p => hI.2 i j (by omega) hj⟩
    refine ⟨T2, ⟨b1, fun i j hi hj => b2 i j hj (by omega)⟩, ?_⟩
    show zf_X11_fold_201b N z (fun v1 v3 v4 S => zf_X11_fold_201 N z fu v1 v3 v4 S) (nI W) (nI c) (nI k) T = _
    unfold zf_X11_fold_201b
    rw [if_neg (nI_ge hk (by omega)), nI_e]
    exact b3) N 0 S (by omega) (by omega) ⟨ag_rf, fun i j hi => by omega⟩
  exact ⟨T, a1, a2, a3⟩
/-- what the folded model sees -/
noncomputable def fm (W : Nat) (L : Nat → Int32) (M : Nat → Nat → Bool) (r i j : Nat) : Bool := @decide (∃ x, x < W ∧ M (hg (sq W L M r) W i) x = true ∧ sq W L M r x (hg (sq W L M r) W j)) (Classical.propDecidable _)
theorem rf_foldT (hN : 4000 ≤ N) (h : S.1 31 = nI W) (hW : W ≤ 60) (hM : mtR S W M) (hL : ∀ a, a < W → S.2.1 34 a = L a) : ∃ S' r, stb W L M r ∧ frX S S' ∧ S'.1 31 = nI (ch (sq W L M r) W) ∧ (∀ n, n < ch (sq W L M r) W → S'.2.1 34 n = S.2.1 34 (hg (sq W L M r) W n)) ∧ mtR S' (ch (sq W L M r) W) (fm W L M r) ∧ zf_X11_fold N z S = some (nI (ch (sq W L M r) W), S') := by
  unfold zf_X11_fold
  rw [nS_e, nI_e, nI_e, show (mq_si S 0 0).1 31 = nI W from h]
  obtain ⟨T, ⟨a1, a3⟩, a4⟩ := lp_i (F := fun fu k T => zf_X11_fold_12 N z fu (nI W) k T) (n := W) (I := fun k T => frZ (mq_si S 0 0) T ∧ fst (sq W L M 0) k (T.2.1 39)) (G := fun T => zf_X11_fold_55 N z N (nI W) 1 T) (fun fu T hI => by
    show zf_X11_fold_12b N z _ (nI W) (nI W) T = _
    unfold zf_X11_fold_12b
    rw [if_pos (nI_le (Nat.le_refl _) (by omega)), nI_e]) (fun fu k T hk hI => by
    obtain ⟨u, b1, b3, b4, b2⟩ := fo_19T (N := N) (z := z) (S := T) (k12 := fun v1 v2 S => zf_X11_fold_12 N z fu v1 v2 S) hW hk N 0 (by omega) (by omega) (fun x hx => by omega)
    have e34 : T.2.1 34 = S.2.1 34 := hI.1.2.1 34 (by decide)
    rw [e34] at b3 b4
    rw [hL u (by omega), hL k hk] at b3
    refine ⟨mq_sa T 39 (upd (T.2.1 39) k (nI u)), ⟨ag_tr hI.1 (ag_sa (by decide)), fun v hv => ?_⟩, ?_⟩
    · show ∃ h, h ≤ v ∧ hp (sq W L M 0) h ∧ sq W L M 0 h v ∧ upd (T.2.1 39) k (nI u) v = nI h
      by_cases q : v = k
      · rw [q, up_s]
        refine ⟨u, b1, fun x hx e => b4 x hx ?_, b3, rfl⟩
        rw [hL x (by omega), hL k hk]
        exact Eq.trans (show L x = L u from e) b3
      · rw [up_o q]; exact hI.2 v (by omega)
    · show zf_X11_fold_12b N z (fun v1 v2 S => zf_X11_fold_12 N z fu v1 v2 S) (nI W) (nI k) T = _
      unfold zf_X11_fold_12b
      rw [if_neg (nI_ge hk (by omega)), nI_e]
      exact b2) N 0 (mq_si S 0 0) (by omega) (by omega) ⟨ag_rf, fun v hv => by omega⟩
  obtain ⟨T2, r, c1, c2, c3, c4⟩ := fo_55T (N := N) (z := z) (S0 := mq_si S 0 0) (M := M) (L := L) hN h hW hM N 0 T (by omega) a1 a3
  have lc := ch_le (E := sq W L M r) W
  obtain ⟨T3, d1, d2, d3⟩ := fo_163T (N := N) (z := z) (S := T2) (E := sq W L M r) hW c3 N 0 T2 (by omega) (by omega) ag_rf (fun j hj => by omega)
  have fr3 : frZ (mq_si S 0 0) T3 := ag_tr c2 (ag_mono d1 (by decide) (by decide) (by decide))
  have h39 : T3.2.1 39 = T2.2.1 39 := d1.2.1 39 (by decide)
  have mR3 : mtR T3 W M := fun a b ha hb => by rw [fr3.2.1 35 (by decide)]; exact hM a b ha hb
  obtain ⟨T4, e1, e2, e3⟩ := fo_201T (N := N) (z := z) (S := T3) (M := M) (c := ch (sq W L M r) W) (by omega) ((fr3.1 31 (by decide)).trans h) hW mR3 (by omega)
  have k42 : ∀ n, n < ch (sq W L M r) W → T3.2.1 42 n = nI (hg (sq W L M r) W n) := fun n hn => by
    obtain ⟨g1, g2, g3⟩ := hg_is hn
    have := d2 _ g1 g2
    rw [g3] at this; exact this
  have own : ∀ n, n < ch (sq W L M r) W → T2.2.1 39 (hg (sq W L M r) W n) = nI (hg (sq W L M r) W n) := fun n hn => by
    obtain ⟨g1, g2, g3⟩ := hg_is hn
    obtain ⟨u, u1, u2, u3, u4⟩ := c3 _ g1
    rw [u4, hd_un (sq_es (W := W) (L := L) (M := M) r).1 (sq_es r).2 u2 g2 u3 (sq_r r _)]
  have iff39 : ∀ n v, n < ch (sq W L M r) W → v < W → (T3.2.1 39 v = T3.2.1 42 n ↔ sq W L M r v (hg (sq W L M r) W n)) := fun n v hn hv => by
    rw [k42 n hn, h39, ← own n hn]
    exact fst_iff hW (sq_es (W := W) (L := L) (M := M) r).1 (sq_es r).2 c3 hv (hg_is hn).1
  obtain ⟨S', s1, s2, s3, s4, s5⟩ := rf_settleT (N := N) (z := z) (S := T4) (c := ch (sq W L M r) W) (og := hg (sq W L M r) W) (M := fm W L M r) (by omega) (by omega) (fun n hn => ⟨by have := (hg_is hn).1; omega, by rw [e1.2.1 42 (by decide)]; exact k42 n hn⟩) (fun i j hi hj => by
    obtain ⟨p01, piff⟩ := e2 i j hi hj
    obtain ⟨i1, -, -⟩ := hg_is hi
    obtain ⟨j1, -, -⟩ := hg_is hj
    have key : (T4.2.1 43 (60 * i + j) = 1) ↔ ∃ x, x < W ∧ M (hg (sq W L M r) W i) x = true ∧ sq W L M r x (hg (sq W L M r) W j) := by
      rw [piff]
      constructor
      · rintro ⟨v, v1, v2, x, x1, x2, x3⟩
        have a := (iff39 i v hi v1).mp v2
        have b := (iff39 j x hj x1).mp x3
        exact ((c1 v _ v1 i1 a).2 _ j1).mp ⟨x, x1, x2, b⟩
      · rintro ⟨x, x1, x2, x3⟩
        exact ⟨hg (sq W L M r) W i, i1, (iff39 i _ hi i1).mpr (sq_r r _), x, x1, x2, (iff39 j x hj x1).mpr x3⟩
    unfold fm
    by_cases q : T4.2.1 43 (60 * i + j) = 1
    · rw [q, if_pos (@decide_eq_true _ (Classical.propDecidable _) (key.mp q))]
    · rw [p01.resolve_right q, if_neg (fun p => q (key.mpr (@of_decide_eq_true _ (Classical.propDecidable _) p)))])
  have fr4 : frX S T4 := ag_tr (ag_si (by decide)) (ag_tr (ag_mono fr3 (by decide) (by decide) (by decide)) (ag_mono e1 (by decide) (by decide) (by decide)))
  refine ⟨S', r, c1, ag_tr fr4 (ag_mono s1 (by decide) (by decide) (by decide)), s2, fun n hn => ?_, s4, ?_⟩
  · rw [s3 n hn, e1.2.1 34 (by decide), fr3.2.1 34 (by decide)]; rfl
  · refine Eq.trans a4 (c4.trans (Eq.trans d3 (e3.trans ?_)))
    rw [s5, mq_cl_s]
end FOLDR
section STFOLD
variable {N : Nat} {z : Nat → Nat} {SC SR : mq_St}
theorem hg_c {W n : Nat} {E E' : Nat → Nat → Prop} (h : ∀ v w, v < W → w < W → (E v w ↔ E' v w)) (hn : n < ch E W) : hg E W n = hg E' W n := by
  obtain ⟨a1, a2, a3⟩ := hg_is hn
  obtain ⟨b1, b2, b3⟩ := hg_is (E := E') (W := W) (n := n) (by rw [← ch_c h W (Nat.le_refl _)]; exact hn)
  refine ch_inj (E := E') ((hp_c h a1).mp a2) b2 ?_
  rw [b3, ← ch_c h _ (by omega), a3]
theorem st_fold (hN : 4000 ≤ N) (hm : mo SC SR) : ∃ r SC' SR', zf_X10_fold N z SC = some (r, SC') ∧ zf_X11_fold N z SR = some (r, SR') ∧ mo SC' SR' ∧ frM SC SC' ∧ frX SR SR' ∧ SC'.1 22 = 0 := by
  obtain ⟨W, hW, h1, h2, hl, M, mC, mR⟩ := id hm
  obtain ⟨S1, r, a0, a1, a2, a3, a4, a5, a6⟩ := ck_foldT (N := N) (z := z) (by omega) h1 hW mC
  obtain ⟨S2, r', b0, b1, b2, b3, b4, b5⟩ := rf_foldT (N := N) (z := z) (S := SR) (L := SC.2.1 23) hN h2 hW mR (fun a ha => (hl a ha).symm)
  have eq := stb_2 a0 b0
  have ec := ch_c eq W (Nat.le_refl _)
  have lc := ch_le (E := sq W (SC.2.1 23) M r) W
  refine ⟨nI (ch (sq W (SC.2.1 23) M r) W), S1, S2, ?_, ?_, ⟨_, by omega, a2, by rw [b2, ec], fun n hn => ?_, fm W (SC.2.1 23) M r', fun i j hi hj => ?_, by rw [ec]; exact b4⟩, a1, b1, a3⟩
  · unfold zf_X10_fold
    have sz : zf_X4_size N z S1 = some (nI (ch (sq W (SC.2.1 23) M r) W)) := congrArg some a2
    rw [a6, mq_cl_s, sz, mq_cp_s]
  · rw [b5, ec]
  · rw [a4 n hn, b3 n (by rw [← ec]; exact hn), hg_c eq hn]
    exact hl _ (by rw [← hg_c eq hn]; exact (hg_is hn).1)
  · have gi := (hg_is hi).1
    have gj := (hg_is hj).1
    rw [Bool.eq_iff_iff, a5 i j hi hj]
    unfold fm
    rw [← hg_c eq hi, ← hg_c eq hj]
    constructor
    · rintro ⟨x, x1, x2, x3⟩
      exact @decide_eq_true _ (Classical.propDecidable _) ⟨x, x1, x2, (eq x _ x1 gj).mp x3⟩
    · intro q
      obtain ⟨x, x1, x2, x3⟩ := @of_decide_eq_true _ (Classical.propDecidable _) q
      exact ⟨x, x1, x2, (eq x _ x1 gj).mpr x3⟩
end STFOLD
end
/-! auh.holds2 -/
section
/-! The class's holds(): nothing but what it has reckoned changes. -/
def frH (S S' : mq_St) : Prop := ag [22] [] [9] S S'
section HOLDS2
variable {N n : Nat} {z : Nat → Nat} {so on tw : Nat → Int32} {d : Nat → Nat} {S S0 : mq_St} {W w t f : Nat}
theorem ck_true2 (v : Int32) (hN : 400 ≤ N) (hc : cxC S n so on tw d) (hm : mdC S) (hf : f < n) : ∃ r S', (r = 0 ∨ r = 1) ∧ zf_X4_isTrueAt N z v (nI f) S = some (r, S') ∧ mdC S' ∧ frH S S' := by
  have h300 := hc.2.2.2.2.1
  obtain ⟨⟨W, hW, h23⟩, t, ht, h22⟩ := id hm
  unfold zf_X4_isTrueAt
  rw [h22, nI_e]
  by_cases e : t ≤ f + 1
  · obtain ⟨S', ⟨a1, a2, t', a3, a4⟩, b⟩ := lp_to (F := fun fu k T => zf_X4_isTrueAt_5 N z fu v (nI f) k T) (n := f + 1) (I := fun T => frH S T ∧ T.1 23 = nI W ∧ ∃ t, t ≤ 300 ∧ T.1 22 = nI t) (G := fun T => zf_X4_isTrueAt_41 N z v (nI f) T) (fun fu T hI => by
      show zf_X4_isTrueAt_5b N z _ v (nI f) (nI (f + 1)) T = _
      unfold zf_X4_isTrueAt_5b
      rw [if_pos (nI_lt (by omega) (by omega))]) (fun fu k T hk hI => by
      obtain ⟨i1, i2, t', i3, i4⟩ := hI
      have hcT : cxC T n so on tw d := cxC_c hc (i1.1 2 (by decide)) (i1.2.1 4 (by decide)) (i1.2.1 5 (by decide)) (i1.2.1 6 (by decide)) (i1.2.1 7 (by decide)) (i1.2.2 0 (by decide))
      obtain ⟨r, hr⟩ := ck_wof (N := N) (z := z) (f := k) (by omega) hcT i2 hW i4 i3 (by omega)
      refine ⟨mq_si (mq_sl T 9 (vp_updL (T.2.2 9) k r)) 22 (nI (k + 1)), ⟨ag_tr i1 (ag_tr (ag_sl (by decide)) (ag_si (by decide))), i2, k + 1, by omega, rfl⟩, ?_⟩
      show zf_X4_isTrueAt_5b N z (fun v1 v2 v3 S => zf_X4_isTrueAt_5 N z fu v1 v2 v3 S) v (nI f) (nI k) T = _
      unfold zf_X4_isTrueAt_5b
      rw [if_neg (nI_nlt (by omega) (by omega)), if_neg (show ¬ (300 : Int32) ≤ nI k from nI_ge (b := 300) (by omega) (by omega))]
      refine (cp_go hr).trans ?_
      rw [mq_ck_of (vp_in_nI (by omega) (by omega)), nI_clamp (by omega), nS_e, nS_e, nI_e, nI_1]) N t S e (by omega) ⟨ag_rf, h23, t, ht, h22⟩
    obtain ⟨r, c1, c2⟩ := ck_41 (N := N) (z := z) v (nI f) a2 hW a4 a3
    exact ⟨r, S', c1, b.trans c2, ⟨⟨W, hW, a2⟩, t', a3, a4⟩, a1⟩
  · obtain ⟨r, c1, c2⟩ := ck_41 (N := N) (z := z) v (nI f) h23 hW h22 ht
    refine ⟨r, S, c1, ?_, hm, ag_rf⟩
    obtain ⟨N', rfl⟩ : ∃ q, N = q + 1 := ⟨N - 1, by omega⟩
    show zf_X4_isTrueAt_5b (N' + 1) z _ v (nI f) (nI t) S = _
    unfold zf_X4_isTrueAt_5b
    rw [if_pos (nI_lt (by omega) (by omega))]
    exact c2
theorem ck_holds2 (v u : Int32) (hN : 400 ≤ N) (hc : cxC S n so on tw d) (hm : mdC S) : ∃ r S', zf_X10_holds N z v u S = some (r, S') ∧ mdC S' ∧ frH S S' := by
  have h300 := hc.2.2.2.2.1
  obtain ⟨⟨W, hW, h23⟩, t, ht, h22⟩ := id hm
  unfold zf_X10_holds zf_X10_holds_22
  rcases ck_hasw (N := N) (z := z) v h23 hW with a | ⟨k, hk, e, a⟩
  · rw [a, mq_cp_s, if_pos rfl]; exact ⟨_, _, rfl, hm, ag_rf⟩
  · rw [a, mq_cp_s, if_neg (by decide), ck_has, mq_cp_s, hc.1]
    rcases mq_place u (t := n) (by omega) with q | ⟨f, hf, hv, q⟩
    · rw [if_pos q, if_pos rfl]; exact ⟨_, _, rfl, hm, ag_rf⟩
    · rw [if_neg q, if_neg (by decide), hv]
      obtain ⟨r, S', c1, c2, c3, c4⟩ := ck_true2 (N := N) (z := z) v hN hc hm hf
      rw [c2, mq_cl_s]
      rcases c1 with rfl | rfl
      · rw [mq_cz_0]; exact ⟨_, _, rfl, c3, c4⟩
      · rw [mq_cz_1]; exact ⟨_, _, rfl, c3, c4⟩
end HOLDS2
end
/-! av.inv2 -/
section
/-! What class and reference keep together, with the models. -/
def In2 (SC SR : mq_St) : Prop := iv_tape (SC.1 0) (SC.2.1 2) (SR.1 1) (SR.2.1 0) ∧ iv_tape (SC.1 1) (SC.2.1 3) (SR.1 2) (SR.2.1 1) ∧ ivB (SR.2.1 0) ∧ ivF SC SR ∧ (SC.1 11 = SR.1 4 ∧ SC.1 12 = SR.1 5) ∧ ivP SC SR ∧ ivL SC ∧ mdC SC ∧ mdR SR ∧ cn4 SC SR ∧ b01 (SR.2.1 38) ∧ mo SC SR
section INV2
variable {N : Nat} {z : Nat → Nat} {SC SR : mq_St}
theorem st_sees (v w : Int32) (hm : mo SC SR) : ∃ r q SR', zf_X10_sees N z v w SC = some (r, SC) ∧ zf_X11_sees N z v w SR = some (q, SR') ∧ ag [0] [] [] SR SR' ∧ ((r = none ∧ SR'.1 0 = 1) ∨ (r = some q ∧ SR'.1 0 = 0)) := by
  obtain ⟨W, hW, h1, h2, hl, M, mC, mR⟩ := id hm
  unfold zf_X10_sees zf_X10_sees_22 zf_X11_sees
  have no : ∀ v : Int32, zf_X11_world0 N z v SR = some (0, mq_si SR 0 1) → zf_X4_has N z v SC = some 0 := fun v b => by
    rcases ck_hasw (N := N) (z := z) v h1 hW with a | ⟨k, hk, e, a⟩
    · exact a
    · exfalso
      rw [e, rf_w0' k h2 hW hk] at b
      injection b with b
      injection b with b _
      exact absurd b (by decide)
  rcases rf_w0 (N := N) (z := z) v h2 hW with b | ⟨k, hk, e, b⟩
  · rw [no v b, mq_cp_s, if_pos rfl, b, mq_cl_s, if_pos rfl, mq_cz_0]
    exact ⟨none, 0, mq_si SR 0 1, rfl, rfl, ag_si (by decide), Or.inl ⟨rfl, rfl⟩⟩
  · subst e
    have h2' : (mq_si SR 0 0).1 31 = nI W := h2
    rw [ck_hasT h1 hW hk, mq_cp_s, if_neg (by decide), b, mq_cl_s, if_neg (by decide)]
    rcases rf_w0 (N := N) (z := z) (S := mq_si SR 0 0) w h2' hW with b' | ⟨k', hk', e', b'⟩
    · have no' : zf_X4_has N z w SC = some 0 := by
        rcases ck_hasw (N := N) (z := z) w h1 hW with a | ⟨k, hk, e, a⟩
        · exact a
        · exfalso
          rw [e, rf_w0' k h2' hW hk] at b'
          injection b' with b'
          injection b' with b' _
          exact absurd b' (by decide)
      rw [no', mq_cp_s, if_pos rfl, b', mq_cl_s, if_pos rfl, mq_cz_0]
      exact ⟨none, 0, mq_si (mq_si SR 0 0) 0 1, rfl, rfl, ag_tr (ag_si (by decide)) (ag_si (by decide)), Or.inl ⟨rfl, rfl⟩⟩
    · subst e'
      have v35 : (mq_si (mq_si SR 0 0) 0 0).2.1 35 (60 * k + k') = if M k k' = true then 1 else 0 := mR k k' hk hk'
      rw [ck_hasT h1 hW hk', mq_cp_s, if_neg (show ¬ (1 : Int32) = 0 by decide), ck_seenT h1 hW hk hk', mq_cp_s, mC k k' hk hk', b', mq_cl_s, if_neg (show ¬ (1 : Int32) = 0 by decide), e60, mq_ck_of (vp_in_nI (by omega) (by omega)), nI_clamp (by omega), v35, mq_cz_0, mq_cz_1]
      by_cases q : M k k' = true
      · rw [if_pos q, if_neg (show ¬ (1 : Int32) = 0 by decide), mq_cz_1]
        exact ⟨some 1, 1, _, rfl, rfl, ag_tr (ag_si (by decide)) (ag_si (by decide)), Or.inr ⟨rfl, rfl⟩⟩
      · rw [if_neg q, if_pos rfl, mq_cz_0]
        exact ⟨some 0, 0, _, rfl, rfl, ag_tr (ag_si (by decide)) (ag_si (by decide)), Or.inr ⟨rfl, rfl⟩⟩
theorem tv_feed (x1 : Int32) (x2 : Int32) (x3 : Int32) (x4 : Int32) (x5 : Int32) (hN : 300000 ≤ N) (i : In2 SC SR) : ∃ r SC' SR', zf_X10_feed N z x1 x2 x3 x4 x5 SC = some (r, SC') ∧ zf_X11_feed N z x1 x2 x3 x4 x5 SR = some (r, SR') ∧ In2 SC' SR' := by
  obtain ⟨r, SC', SR', e1, e2, h1, fC, fR⟩ := st_feed (N := N) (z := z) x1 x2 x3 x4 x5 (by omega) i.1
  exact ⟨r, SC', SR', e1, e2, ⟨h1, tp_c i.2.1 (fC.1 1 (by decide)) (fC.2.1 3 (by decide)) (fR.1 2 (by decide)) (fR.2.1 1 (by decide)), feed_B i.2.2.1 e2, ivF_k i.2.2.2.1 (fC.1 2 (by decide)) (fC.2.1 0 (by decide)) (fC.2.1 1 (by decide)) (fC.2.1 4 (by decide)) (fC.2.1 5 (by decide)) (fC.2.1 6 (by decide)) (fC.2.1 7 (by decide)) (fC.2.2 0 (by decide)) (fR.1 3 (by decide)) (fR.2.1 2 (by decide)) (fR.2.1 3 (by decide)) (fR.2.1 4 (by decide)) (fR.2.1 5 (by decide)) (fR.2.1 6 (by decide)), fa_c i.2.2.2.2.1 (fC.1 11 (by decide)) (fC.1 12 (by decide)) (fR.1 4 (by decide)) (fR.1 5 (by decide)), ivP_c i.2.2.2.2.2.1 (fC.1 25 (by decide)) (fC.2.1 28 (by decide)) (fR.1 29 (by decide)) (fR.1 30 (by decide)) (fR.2.1 32 (by decide)) (fR.2.1 33 (by decide)), ivL_c i.2.2.2.2.2.2.1 (fC.1 20 (by decide)), mdC_c i.2.2.2.2.2.2.2.1 (fC.1 23 (by decide)) (fC.1 22 (by decide)), mdR_c i.2.2.2.2.2.2.2.2.1 (fR.1 31 (by decide)), cn4_c i.2.2.2.2.2.2.2.2.2.1 (fC.2.1 21 (by decide)) (fR.1 19 (by decide)) (fR.1 20 (by decide)) (fR.1 21 (by decide)) (fR.1 22 (by decide)), (by rw [fR.2.1 38 (by decide)]; exact i.2.2.2.2.2.2.2.2.2.2.1), mo_c i.2.2.2.2.2.2.2.2.2.2.2 (fC.1 23 (by decide)) (fC.2.1 23 (by decide)) (fC.2.2 7 (by decide)) (fR.1 31 (by decide)) (fR.2.1 34 (by decide)) (fR.2.1 35 (by decide))⟩⟩
theorem tv_end (v : Int32) (hN : 300000 ≤ N) (i : In2 SC SR) : ∃ r SC' SR', zf_X10_end N z v SC = some (r, SC') ∧ zf_X11_end N z v SR = some (r, SR') ∧ In2 SC' SR' := by
  obtain ⟨r, SC', SR', e1, e2, h1, fC, fR⟩ := st_end (N := N) (z := z) v i.1
  exact ⟨r, SC', SR', e1, e2, ⟨h1, tp_c i.2.1 (fC.1 1 (by decide)) (fC.2.1 3 (by decide)) (fR.1 2 (by decide)) (fR.2.1 1 (by decide)), end_B i.2.2.1 e2, ivF_k i.2.2.2.1 (fC.1 2 (by decide)) (fC.2.1 0 (by decide)) (fC.2.1 1 (by decide)) (fC.2.1 4 (by decide)) (fC.2.1 5 (by decide)) (fC.2.1 6 (by decide)) (fC.2.1 7 (by decide)) (fC.2.2 0 (by decide)) (fR.1 3 (by decide)) (fR.2.1 2 (by decide)) (fR.2.1 3 (by decide)) (fR.2.1 4 (by decide)) (fR.2.1 5 (by decide)) (fR.2.1 6 (by decide)), fa_c i.2.2.2.2.1 (fC.1 11 (by decide)) (fC.1 12 (by decide)) (fR.1 4 (by decide)) (fR.1 5 (by decide)), ivP_c i.2.2.2.2.2.1 (fC.1 25 (by decide)) (fC.2.1 28 (by decide)) (fR.1 29 (by decide)) (fR.1 30 (by decide)) (fR.2.1 32 (by decide)) (fR.2.1 33 (by decide)), ivL_c i.2.2.2.2.2.2.1 (fC.1 20 (by decide)), mdC_c i.2.2.2.2.2.2.2.1 (fC.1 23 (by decide)) (fC.1 22 (by decide)), mdR_c i.2.2.2.2.2.2.2.2.1 (fR.1 31 (by decide)), cn4_c i.2.2.2.2.2.2.2.2.2.1 (fC.2.1 21 (by decide)) (fR.1 19 (by decide)) (fR.1 20 (by decide)) (fR.1 21 (by decide)) (fR.1 22 (by decide)), (by rw [fR.2.1 38 (by decide)]; exact i.2.2.2.2.2.2.2.2.2.2.1), mo_c i.2.2.2.2.2.2.2.2.2.2.2 (fC.1 23 (by decide)) (fC.2.1 23 (by decide)) (fC.2.2 7 (by decide)) (fR.1 31 (by decide)) (fR.2.1 34 (by decide)) (fR.2.1 35 (by decide))⟩⟩
theorem tv_take (hN : 300000 ≤ N) (i : In2 SC SR) : ∃ r SC' SR', zf_X10_take N z SC = some (r, SC') ∧ zf_X11_take N z SR = some (r, SR') ∧ In2 SC' SR' := by
  obtain ⟨r, SC', SR', e1, e2, h1, h2, fC, fR⟩ := st_take (N := N) (z := z) (by omega) i.2.1
  exact ⟨r, SC', SR', e1, e2, ⟨h1, h2, take_B i.2.2.1 e2, ivF_k i.2.2.2.1 (fC.1 2 (by decide)) (fC.2.1 0 (by decide)) (fC.2.1 1 (by decide)) (fC.2.1 4 (by decide)) (fC.2.1 5 (by decide)) (fC.2.1 6 (by decide)) (fC.2.1 7 (by decide)) (fC.2.2 0 (by decide)) (fR.1 3 (by decide)) (fR.2.1 2 (by decide)) (fR.2.1 3 (by decide)) (fR.2.1 4 (by decide)) (fR.2.1 5 (by decide)) (fR.2.1 6 (by decide)), fa_c i.2.2.2.2.1 (fC.1 11 (by decide)) (fC.1 12 (by decide)) (fR.1 4 (by decide)) (fR.1 5 (by decide)), ivP_c i.2.2.2.2.2.1 (fC.1 25 (by decide)) (fC.2.1 28 (by decide)) (fR.1 29 (by decide)) (fR.1 30 (by decide)) (fR.2.1 32 (by decide)) (fR.2.1 33 (by decide)), ivL_c i.2.2.2.2.2.2.1 (fC.1 20 (by decide)), mdC_c i.2.2.2.2.2.2.2.1 (fC.1 23 (by decide)) (fC.1 22 (by decide)), mdR_c i.2.2.2.2.2.2.2.2.1 (fR.1 31 (by decide)), cn4_c i.2.2.2.2.2.2.2.2.2.1 (fC.2.1 21 (by decide)) (fR.1 19 (by decide)) (fR.1 20 (by decide)) (fR.1 21 (by decide)) (fR.1 22 (by decide)), (by rw [fR.2.1 38 (by decide)]; exact i.2.2.2.2.2.2.2.2.2.2.1), mo_c i.2.2.2.2.2.2.2.2.2.2.2 (fC.1 23 (by decide)) (fC.2.1 23 (by decide)) (fC.2.2 7 (by decide)) (fR.1 31 (by decide)) (fR.2.1 34 (by decide)) (fR.2.1 35 (by decide))⟩⟩
theorem tv_alter (v : Int32) (w : Int32) (hN : 300000 ≤ N) (i : In2 SC SR) : ∃ r SC' SR', zf_X10_alter N z v w SC = some (r, SC') ∧ zf_X11_alter N z v w SR = some (r, SR') ∧ In2 SC' SR' := by
  obtain ⟨r, SC', SR', e1, e2, h1, fC, fR⟩ := st_alter (N := N) (z := z) v w i.1
  exact ⟨r, SC', SR', e1, e2, ⟨h1, tp_c i.2.1 (fC.1 1 (by decide)) (fC.2.1 3 (by decide)) (fR.1 2 (by decide)) (fR.2.1 1 (by decide)), alter_B i.2.2.1 e2, ivF_k i.2.2.2.1 (fC.1 2 (by decide)) (fC.2.1 0 (by decide)) (fC.2.1 1 (by decide)) (fC.2.1 4 (by decide)) (fC.2.1 5 (by decide)) (fC.2.1 6 (by decide)) (fC.2.1 7 (by decide)) (fC.2.2 0 (by decide)) (fR.1 3 (by decide)) (fR.2.1 2 (by decide)) (fR.2.1 3 (by decide)) (fR.2.1 4 (by decide)) (fR.2.1 5 (by decide)) (fR.2.1 6 (by decide)), fa_c i.2.2.2.2.1 (fC.1 11 (by decide)) (fC.1 12 (by decide)) (fR.1 4 (by decide)) (fR.1 5 (by decide)), ivP_c i.2.2.2.2.2.1 (fC.1 25 (by decide)) (fC.2.1 28 (by decide)) (fR.1 29 (by decide)) (fR.1 30 (by decide)) (fR.2.1 32 (by decide)) (fR.2.1 33 (by decide)), ivL_c i.2.2.2.2.2.2.1 (fC.1 20 (by decide)), mdC_c i.2.2.2.2.2.2.2.1 (fC.1 23 (by decide)) (fC.1 22 (by decide)), mdR_c i.2.2.2.2.2.2.2.2.1 (fR.1 31 (by decide)), cn4_c i.2.2.2.2.2.2.2.2.2.1 (fC.2.1 21 (by decide)) (fR.1 19 (by decide)) (fR.1 20 (by decide)) (fR.1 21 (by decide)) (fR.1 22 (by decide)), (by rw [fR.2.1 38 (by decide)]; exact i.2.2.2.2.2.2.2.2.2.2.1), mo_c i.2.2.2.2.2.2.2.2.2.2.2 (fC.1 23 (by decide)) (fC.2.1 23 (by decide)) (fC.2.2 7 (by decide)) (fR.1 31 (by decide)) (fR.2.1 34 (by decide)) (fR.2.1 35 (by decide))⟩⟩
theorem tv_out (v : Int32) (hN : 300000 ≤ N) (i : In2 SC SR) : ∃ r SR', zf_X10_out N z v SC = some r ∧ zf_X11_out N z v SR = some (r, SR') ∧ In2 SC SR' := by
  obtain ⟨r, SR', e1, e2, fR⟩ := st_out (N := N) (z := z) v i.2.1
  have fC : ag [] [] [] SC SC := ag_rf
  exact ⟨r, SR', e1, e2, ⟨tp_c i.1 (fC.1 0 (by decide)) (fC.2.1 2 (by decide)) (fR.1 1 (by decide)) (fR.2.1 0 (by decide)), tp_c i.2.1 (fC.1 1 (by decide)) (fC.2.1 3 (by decide)) (fR.1 2 (by decide)) (fR.2.1 1 (by decide)), (by rw [fR.2.1 0 (by decide)]; exact i.2.2.1), ivF_k i.2.2.2.1 (fC.1 2 (by decide)) (fC.2.1 0 (by decide)) (fC.2.1 1 (by decide)) (fC.2.1 4 (by decide)) (fC.2.1 5 (by decide)) (fC.2.1 6 (by decide)) (fC.2.1 7 (by decide)) (fC.2.2 0 (by decide)) (fR.1 3 (by decide)) (fR.2.1 2 (by decide)) (fR.2.1 3 (by decide)) (fR.2.1 4 (by decide)) (fR.2.1 5 (by decide)) (fR.2.1 6 (by decide)), fa_c i.2.2.2.2.1 (fC.1 11 (by decide)) (fC.1 12 (by decide)) (fR.1 4 (by decide)) (fR.1 5 (by decide)), ivP_c i.2.2.2.2.2.1 (fC.1 25 (by decide)) (fC.2.1 28 (by decide)) (fR.1 29 (by decide)) (fR.1 30 (by decide)) (fR.2.1 32 (by decide)) (fR.2.1 33 (by decide)), ivL_c i.2.2.2.2.2.2.1 (fC.1 20 (by decide)), mdC_c i.2.2.2.2.2.2.2.1 (fC.1 23 (by decide)) (fC.1 22 (by decide)), mdR_c i.2.2.2.2.2.2.2.2.1 (fR.1 31 (by decide)), cn4_c i.2.2.2.2.2.2.2.2.2.1 (fC.2.1 21 (by decide)) (fR.1 19 (by decide)) (fR.1 20 (by decide)) (fR.1 21 (by decide)) (fR.1 22 (by decide)), (by rw [fR.2.1 38 (by decide)]; exact i.2.2.2.2.2.2.2.2.2.2.1), mo_c i.2.2.2.2.2.2.2.2.2.2.2 (fC.1 23 (by decide)) (fC.2.1 23 (by decide)) (fC.2.2 7 (by decide)) (fR.1 31 (by decide)) (fR.2.1 34 (by decide)) (fR.2.1 35 (by decide))⟩⟩
theorem tv_read (v : Int32) (pl : Bool) (hN : 300000 ≤ N) (i : In2 SC SR) : ∃ r SC' SR', zf_X10_read N z v (if pl = true then 0 else 1) SC = some (r, SC') ∧ zf_X11_read N z v (if pl = true then 0 else 1) SR = some (r, SR') ∧ In2 SC' SR' := by
  obtain ⟨r, SC', SR', e1, e2, h1, h2, h3, fC, fR⟩ := st_read (N := N) (z := z) v pl (by omega) i.1 i.2.2.1 i.2.2.2.1 i.2.2.2.2.1
  exact ⟨r, SC', SR', e1, e2, ⟨h1, tp_c i.2.1 (fC.1 1 (by decide)) (fC.2.1 3 (by decide)) (fR.1 2 (by decide)) (fR.2.1 1 (by decide)), (by rw [fR.2.1 0 (by decide)]; exact i.2.2.1), h2, h3, ivP_c i.2.2.2.2.2.1 (fC.1 25 (by decide)) (fC.2.1 28 (by decide)) (fR.1 29 (by decide)) (fR.1 30 (by decide)) (fR.2.1 32 (by decide)) (fR.2.1 33 (by decide)), ivL_c i.2.2.2.2.2.2.1 (fC.1 20 (by decide)), mdC_c i.2.2.2.2.2.2.2.1 (fC.1 23 (by decide)) (fC.1 22 (by decide)), mdR_c i.2.2.2.2.2.2.2.2.1 (fR.1 31 (by decide)), cn4_c i.2.2.2.2.2.2.2.2.2.1 (fC.2.1 21 (by decide)) (fR.1 19 (by decide)) (fR.1 20 (by decide)) (fR.1 21 (by decide)) (fR.1 22 (by decide)), (by rw [fR.2.1 38 (by decide)]; exact i.2.2.2.2.2.2.2.2.2.2.1), mo_c i.2.2.2.2.2.2.2.2.2.2.2 (fC.1 23 (by decide)) (fC.2.1 23 (by decide)) (fC.2.2 7 (by decide)) (fR.1 31 (by decide)) (fR.2.1 34 (by decide)) (fR.2.1 35 (by decide))⟩⟩
theorem tv_fault (v : Int32) (hN : 300000 ≤ N) (i : In2 SC SR) : ∃ r SR', zf_X10_fault N z v SC = some r ∧ zf_X11_fault N z v SR = some (r, SR') ∧ In2 SC SR' := by
  obtain ⟨r, SR', e1, e2, fR⟩ := st_fault (N := N) (z := z) v i.2.2.2.2.1
  have fC : ag [] [] [] SC SC := ag_rf
  exact ⟨r, SR', e1, e2, ⟨tp_c i.1 (fC.1 0 (by decide)) (fC.2.1 2 (by decide)) (fR.1 1 (by decide)) (fR.2.1 0 (by decide)), tp_c i.2.1 (fC.1 1 (by decide)) (fC.2.1 3 (by decide)) (fR.1 2 (by decide)) (fR.2.1 1 (by decide)), (by rw [fR.2.1 0 (by decide)]; exact i.2.2.1), ivF_k i.2.2.2.1 (fC.1 2 (by decide)) (fC.2.1 0 (by decide)) (fC.2.1 1 (by decide)) (fC.2.1 4 (by decide)) (fC.2.1 5 (by decide)) (fC.2.1 6 (by decide)) (fC.2.1 7 (by decide)) (fC.2.2 0 (by decide)) (fR.1 3 (by decide)) (fR.2.1 2 (by decide)) (fR.2.1 3 (by decide)) (fR.2.1 4 (by decide)) (fR.2.1 5 (by decide)) (fR.2.1 6 (by decide)), fa_c i.2.2.2.2.1 (fC.1 11 (by decide)) (fC.1 12 (by decide)) (fR.1 4 (by decide)) (fR.1 5 (by decide)), ivP_c i.2.2.2.2.2.1 (fC.1 25 (by decide)) (fC.2.1 28 (by decide)) (fR.1 29 (by decide)) (fR.1 30 (by decide)) (fR.2.1 32 (by decide)) (fR.2.1 33 (by decide)), ivL_c i.2.2.2.2.2.2.1 (fC.1 20 (by decide)), mdC_c i.2.2.2.2.2.2.2.1 (fC.1 23 (by decide)) (fC.1 22 (by decide)), mdR_c i.2.2.2.2.2.2.2.2.1 (fR.1 31 (by decide)), cn4_c i.2.2.2.2.2.2.2.2.2.1 (fC.2.1 21 (by decide)) (fR.1 19 (by decide)) (fR.1 20 (by decide)) (fR.1 21 (by decide)) (fR.1 22 (by decide)), (by rw [fR.2.1 38 (by decide)]; exact i.2.2.2.2.2.2.2.2.2.2.1), mo_c i.2.2.2.2.2.2.2.2.2.2.2 (fC.1 23 (by decide)) (fC.2.1 23 (by decide)) (fC.2.2 7 (by decide)) (fR.1 31 (by decide)) (fR.2.1 34 (by decide)) (fR.2.1 35 (by decide))⟩⟩
theorem tv_set (v : Int32) (w : Int32) (hN : 300000 ≤ N) (i : In2 SC SR) : ∃ r SC' SR', zf_X10_set N z v w SC = some (r, SC') ∧ zf_X11_set N z v w SR = some (r, SR') ∧ In2 SC' SR' := by
  obtain ⟨L, g1, g2, g3, fs⟩ := ivF_fs i.2.2.2.1
  obtain ⟨r, SC', SR', e1, e2, h1, fC, fR⟩ := st_set (N := N) (z := z) v w (by omega) fs
  have F' : ivF SC' SR' := by
    refine ⟨L, g1, ?_, ?_, fun f hf => (h1.2.2.2.1 f hf).2.2.2, h1.2.2.2.2⟩
    · unfold tbC at g2 ⊢
      rw [fC.1 2 (by decide), fC.2.1 4 (by decide), fC.2.1 5 (by decide), fC.2.1 6 (by decide), fC.2.2 0 (by decide)]; exact g2
    · unfold tbR at g3 ⊢
      rw [fR.1 3 (by decide), fR.2.1 2 (by decide), fR.2.1 3 (by decide), fR.2.1 4 (by decide)]; exact g3
  exact ⟨r, SC', SR', e1, e2, ⟨tp_c i.1 (fC.1 0 (by decide)) (fC.2.1 2 (by decide)) (fR.1 1 (by decide)) (fR.2.1 0 (by decide)), tp_c i.2.1 (fC.1 1 (by decide)) (fC.2.1 3 (by decide)) (fR.1 2 (by decide)) (fR.2.1 1 (by decide)), (by rw [fR.2.1 0 (by decide)]; exact i.2.2.1), F', fa_c i.2.2.2.2.1 (fC.1 11 (by decide)) (fC.1 12 (by decide)) (fR.1 4 (by decide)) (fR.1 5 (by decide)), ivP_c i.2.2.2.2.2.1 (fC.1 25 (by decide)) (fC.2.1 28 (by decide)) (fR.1 29 (by decide)) (fR.1 30 (by decide)) (fR.2.1 32 (by decide)) (fR.2.1 33 (by decide)), ivL_c i.2.2.2.2.2.2.1 (fC.1 20 (by decide)), mdC_c i.2.2.2.2.2.2.2.1 (fC.1 23 (by decide)) (fC.1 22 (by decide)), mdR_c i.2.2.2.2.2.2.2.2.1 (fR.1 31 (by decide)), cn4_c i.2.2.2.2.2.2.2.2.2.1 (fC.2.1 21 (by decide)) (fR.1 19 (by decide)) (fR.1 20 (by decide)) (fR.1 21 (by decide)) (fR.1 22 (by decide)), (by rw [fR.2.1 38 (by decide)]; exact i.2.2.2.2.2.2.2.2.2.2.1), mo_c i.2.2.2.2.2.2.2.2.2.2.2 (fC.1 23 (by decide)) (fC.2.1 23 (by decide)) (fC.2.2 7 (by decide)) (fR.1 31 (by decide)) (fR.2.1 34 (by decide)) (fR.2.1 35 (by decide))⟩⟩
theorem tv_slot (v : Int32) (w : Int32) (hN : 300000 ≤ N) (i : In2 SC SR) : ∃ r SR', zf_X10_slot N z v w SC = some r ∧ zf_X11_slot N z v w SR = some (r, SR') ∧ In2 SC SR' := by
  obtain ⟨r, SR', e1, e2, fR⟩ := st_slot (N := N) (z := z) v w (ivF_same i.2.2.2.1).2
  have fC : ag [] [] [] SC SC := ag_rf
  exact ⟨r, SR', e1, e2, ⟨tp_c i.1 (fC.1 0 (by decide)) (fC.2.1 2 (by decide)) (fR.1 1 (by decide)) (fR.2.1 0 (by decide)), tp_c i.2.1 (fC.1 1 (by decide)) (fC.2.1 3 (by decide)) (fR.1 2 (by decide)) (fR.2.1 1 (by decide)), (by rw [fR.2.1 0 (by decide)]; exact i.2.2.1), ivF_k i.2.2.2.1 (fC.1 2 (by decide)) (fC.2.1 0 (by decide)) (fC.2.1 1 (by decide)) (fC.2.1 4 (by decide)) (fC.2.1 5 (by decide)) (fC.2.1 6 (by decide)) (fC.2.1 7 (by decide)) (fC.2.2 0 (by decide)) (fR.1 3 (by decide)) (fR.2.1 2 (by decide)) (fR.2.1 3 (by decide)) (fR.2.1 4 (by decide)) (fR.2.1 5 (by decide)) (fR.2.1 6 (by decide)), fa_c i.2.2.2.2.1 (fC.1 11 (by decide)) (fC.1 12 (by decide)) (fR.1 4 (by decide)) (fR.1 5 (by decide)), ivP_c i.2.2.2.2.2.1 (fC.1 25 (by decide)) (fC.2.1 28 (by decide)) (fR.1 29 (by decide)) (fR.1 30 (by decide)) (fR.2.1 32 (by decide)) (fR.2.1 33 (by decide)), ivL_c i.2.2.2.2.2.2.1 (fC.1 20 (by decide)), mdC_c i.2.2.2.2.2.2.2.1 (fC.1 23 (by decide)) (fC.1 22 (by decide)), mdR_c i.2.2.2.2.2.2.2.2.1 (fR.1 31 (by decide)), cn4_c i.2.2.2.2.2.2.2.2.2.1 (fC.2.1 21 (by decide)) (fR.1 19 (by decide)) (fR.1 20 (by decide)) (fR.1 21 (by decide)) (fR.1 22 (by decide)), (by rw [fR.2.1 38 (by decide)]; exact i.2.2.2.2.2.2.2.2.2.2.1), mo_c i.2.2.2.2.2.2.2.2.2.2.2 (fC.1 23 (by decide)) (fC.2.1 23 (by decide)) (fC.2.2 7 (by decide)) (fR.1 31 (by decide)) (fR.2.1 34 (by decide)) (fR.2.1 35 (by decide))⟩⟩
theorem tv_formulas (hN : 300000 ≤ N) (i : In2 SC SR) : ∃ r SR', zf_X10_formulas N z SC = some r ∧ zf_X11_formulas N z SR = some (r, SR') ∧ In2 SC SR' := by
  obtain ⟨r, SR', e1, e2, fR⟩ := st_formulas (N := N) (z := z) (ivF_same i.2.2.2.1).1
  have fC : ag [] [] [] SC SC := ag_rf
  exact ⟨r, SR', e1, e2, ⟨tp_c i.1 (fC.1 0 (by decide)) (fC.2.1 2 (by decide)) (fR.1 1 (by decide)) (fR.2.1 0 (by decide)), tp_c i.2.1 (fC.1 1 (by decide)) (fC.2.1 3 (by decide)) (fR.1 2 (by decide)) (fR.2.1 1 (by decide)), (by rw [fR.2.1 0 (by decide)]; exact i.2.2.1), ivF_k i.2.2.2.1 (fC.1 2 (by decide)) (fC.2.1 0 (by decide)) (fC.2.1 1 (by decide)) (fC.2.1 4 (by decide)) (fC.2.1 5 (by decide)) (fC.2.1 6 (by decide)) (fC.2.1 7 (by decide)) (fC.2.2 0 (by decide)) (fR.1 3 (by decide)) (fR.2.1 2 (by decide)) (fR.2.1 3 (by decide)) (fR.2.1 4 (by decide)) (fR.2.1 5 (by decide)) (fR.2.1 6 (by decide)), fa_c i.2.2.2.2.1 (fC.1 11 (by decide)) (fC.1 12 (by decide)) (fR.1 4 (by decide)) (fR.1 5 (by decide)), ivP_c i.2.2.2.2.2.1 (fC.1 25 (by decide)) (fC.2.1 28 (by decide)) (fR.1 29 (by decide)) (fR.1 30 (by decide)) (fR.2.1 32 (by decide)) (fR.2.1 33 (by decide)), ivL_c i.2.2.2.2.2.2.1 (fC.1 20 (by decide)), mdC_c i.2.2.2.2.2.2.2.1 (fC.1 23 (by decide)) (fC.1 22 (by decide)), mdR_c i.2.2.2.2.2.2.2.2.1 (fR.1 31 (by decide)), cn4_c i.2.2.2.2.2.2.2.2.2.1 (fC.2.1 21 (by decide)) (fR.1 19 (by decide)) (fR.1 20 (by decide)) (fR.1 21 (by decide)) (fR.1 22 (by decide)), (by rw [fR.2.1 38 (by decide)]; exact i.2.2.2.2.2.2.2.2.2.2.1), mo_c i.2.2.2.2.2.2.2.2.2.2.2 (fC.1 23 (by decide)) (fC.2.1 23 (by decide)) (fC.2.2 7 (by decide)) (fR.1 31 (by decide)) (fR.2.1 34 (by decide)) (fR.2.1 35 (by decide))⟩⟩
theorem tv_formula (v : Int32) (w : Int32) (hN : 300000 ≤ N) (i : In2 SC SR) : ∃ r SR', zf_X10_formula N z v w SC = some r ∧ zf_X11_formula N z v w SR = some (r, SR') ∧ In2 SC SR' := by
  obtain ⟨r, SR', e1, e2, fR⟩ := st_formula (N := N) (z := z) v w (ivF_same i.2.2.2.1).1
  have fC : ag [] [] [] SC SC := ag_rf
  exact ⟨r, SR', e1, e2, ⟨tp_c i.1 (fC.1 0 (by decide)) (fC.2.1 2 (by decide)) (fR.1 1 (by decide)) (fR.2.1 0 (by decide)), tp_c i.2.1 (fC.1 1 (by decide)) (fC.2.1 3 (by decide)) (fR.1 2 (by decide)) (fR.2.1 1 (by decide)), (by rw [fR.2.1 0 (by decide)]; exact i.2.2.1), ivF_k i.2.2.2.1 (fC.1 2 (by decide)) (fC.2.1 0 (by decide)) (fC.2.1 1 (by decide)) (fC.2.1 4 (by decide)) (fC.2.1 5 (by decide)) (fC.2.1 6 (by decide)) (fC.2.1 7 (by decide)) (fC.2.2 0 (by decide)) (fR.1 3 (by decide)) (fR.2.1 2 (by decide)) (fR.2.1 3 (by decide)) (fR.2.1 4 (by decide)) (fR.2.1 5 (by decide)) (fR.2.1 6 (by decide)), fa_c i.2.2.2.2.1 (fC.1 11 (by decide)) (fC.1 12 (by decide)) (fR.1 4 (by decide)) (fR.1 5 (by decide)), ivP_c i.2.2.2.2.2.1 (fC.1 25 (by decide)) (fC.2.1 28 (by decide)) (fR.1 29 (by decide)) (fR.1 30 (by decide)) (fR.2.1 32 (by decide)) (fR.2.1 33 (by decide)), ivL_c i.2.2.2.2.2.2.1 (fC.1 20 (by decide)), mdC_c i.2.2.2.2.2.2.2.1 (fC.1 23 (by decide)) (fC.1 22 (by decide)), mdR_c i.2.2.2.2.2.2.2.2.1 (fR.1 31 (by decide)), cn4_c i.2.2.2.2.2.2.2.2.2.1 (fC.2.1 21 (by decide)) (fR.1 19 (by decide)) (fR.1 20 (by decide)) (fR.1 21 (by decide)) (fR.1 22 (by decide)), (by rw [fR.2.1 38 (by decide)]; exact i.2.2.2.2.2.2.2.2.2.2.1), mo_c i.2.2.2.2.2.2.2.2.2.2.2 (fC.1 23 (by decide)) (fC.2.1 23 (by decide)) (fC.2.2 7 (by decide)) (fR.1 31 (by decide)) (fR.2.1 34 (by decide)) (fR.2.1 35 (by decide))⟩⟩
theorem tv_tell (v : Int32) (hN : 300000 ≤ N) (i : In2 SC SR) : ∃ r SC' SR', zf_X10_tell N z v SC = some (r, SC') ∧ zf_X11_tell N z v SR = some (r, SR') ∧ In2 SC' SR' := by
  obtain ⟨L, g1, g2, g3, fs⟩ := ivF_fs i.2.2.2.1
  obtain ⟨r, SC', SR', e1, e2, h1, fC, fR⟩ := st_tell (N := N) (z := z) v (by omega) i.2.1 fs
  exact ⟨r, SC', SR', e1, e2, ⟨tp_c i.1 (fC.1 0 (by decide)) (fC.2.1 2 (by decide)) (fR.1 1 (by decide)) (fR.2.1 0 (by decide)), h1, (by rw [fR.2.1 0 (by decide)]; exact i.2.2.1), ivF_k i.2.2.2.1 (fC.1 2 (by decide)) (fC.2.1 0 (by decide)) (fC.2.1 1 (by decide)) (fC.2.1 4 (by decide)) (fC.2.1 5 (by decide)) (fC.2.1 6 (by decide)) (fC.2.1 7 (by decide)) (fC.2.2 0 (by decide)) (fR.1 3 (by decide)) (fR.2.1 2 (by decide)) (fR.2.1 3 (by decide)) (fR.2.1 4 (by decide)) (fR.2.1 5 (by decide)) (fR.2.1 6 (by decide)), fa_c i.2.2.2.2.1 (fC.1 11 (by decide)) (fC.1 12 (by decide)) (fR.1 4 (by decide)) (fR.1 5 (by decide)), ivP_c i.2.2.2.2.2.1 (fC.1 25 (by decide)) (fC.2.1 28 (by decide)) (fR.1 29 (by decide)) (fR.1 30 (by decide)) (fR.2.1 32 (by decide)) (fR.2.1 33 (by decide)), ivL_c i.2.2.2.2.2.2.1 (fC.1 20 (by decide)), mdC_c i.2.2.2.2.2.2.2.1 (fC.1 23 (by decide)) (fC.1 22 (by decide)), mdR_c i.2.2.2.2.2.2.2.2.1 (fR.1 31 (by decide)), cn4_c i.2.2.2.2.2.2.2.2.2.1 (fC.2.1 21 (by decide)) (fR.1 19 (by decide)) (fR.1 20 (by decide)) (fR.1 21 (by decide)) (fR.1 22 (by decide)), (by rw [fR.2.1 38 (by decide)]; exact i.2.2.2.2.2.2.2.2.2.2.1), mo_c i.2.2.2.2.2.2.2.2.2.2.2 (fC.1 23 (by decide)) (fC.2.1 23 (by decide)) (fC.2.2 7 (by decide)) (fR.1 31 (by decide)) (fR.2.1 34 (by decide)) (fR.2.1 35 (by decide))⟩⟩
theorem tv_prove (v : Int32) (w : Int32) (hN : 300000 ≤ N) (i : In2 SC SR) : ∃ r SC' SR', zf_X10_prove N z v w SC = some (r, SC') ∧ zf_X11_prove N z v w SR = some (r, SR') ∧ In2 SC' SR' := by
  obtain ⟨r, SC', SR', e1, e2, h1, h2, h3, h4, h5, h6, -, fC, fR⟩ := st_prove2 (N := N) (z := z) v w hN i.2.2.2.1 i.2.2.2.2.2.1 i.2.2.2.2.2.2.1 i.2.2.2.2.2.2.2.1 i.2.2.2.2.2.2.2.2.1 i.2.2.2.2.2.2.2.2.2.1 i.2.2.2.2.2.2.2.2.2.2.2
  exact ⟨r, SC', SR', e1, e2, ⟨tp_c i.1 (fC.1 0 (by decide)) (fC.2.1 2 (by decide)) (fR.1 1 (by decide)) (fR.2.1 0 (by decide)), tp_c i.2.1 (fC.1 1 (by decide)) (fC.2.1 3 (by decide)) (fR.1 2 (by decide)) (fR.2.1 1 (by decide)), (by rw [fR.2.1 0 (by decide)]; exact i.2.2.1), ivF_k i.2.2.2.1 (fC.1 2 (by decide)) (fC.2.1 0 (by decide)) (fC.2.1 1 (by decide)) (fC.2.1 4 (by decide)) (fC.2.1 5 (by decide)) (fC.2.1 6 (by decide)) (fC.2.1 7 (by decide)) (fC.2.2 0 (by decide)) (fR.1 3 (by decide)) (fR.2.1 2 (by decide)) (fR.2.1 3 (by decide)) (fR.2.1 4 (by decide)) (fR.2.1 5 (by decide)) (fR.2.1 6 (by decide)), fa_c i.2.2.2.2.1 (fC.1 11 (by decide)) (fC.1 12 (by decide)) (fR.1 4 (by decide)) (fR.1 5 (by decide)), h1, h2, h3, h4, h5, (by rw [fR.2.1 38 (by decide)]; exact i.2.2.2.2.2.2.2.2.2.2.1), h6⟩⟩
theorem tv_count (v : Int32) (hN : 300000 ≤ N) (i : In2 SC SR) : ∃ r SR', zf_X10_count N z v SC = some r ∧ zf_X11_count N z v SR = some (r, SR') ∧ In2 SC SR' := by
  obtain ⟨r, SR', e1, e2, fR⟩ := st_count (N := N) (z := z) v i.2.2.2.2.2.2.2.2.2.1
  have fC : ag [] [] [] SC SC := ag_rf
  exact ⟨r, SR', e1, e2, ⟨tp_c i.1 (fC.1 0 (by decide)) (fC.2.1 2 (by decide)) (fR.1 1 (by decide)) (fR.2.1 0 (by decide)), tp_c i.2.1 (fC.1 1 (by decide)) (fC.2.1 3 (by decide)) (fR.1 2 (by decide)) (fR.2.1 1 (by decide)), (by rw [fR.2.1 0 (by decide)]; exact i.2.2.1), ivF_k i.2.2.2.1 (fC.1 2 (by decide)) (fC.2.1 0 (by decide)) (fC.2.1 1 (by decide)) (fC.2.1 4 (by decide)) (fC.2.1 5 (by decide)) (fC.2.1 6 (by decide)) (fC.2.1 7 (by decide)) (fC.2.2 0 (by decide)) (fR.1 3 (by decide)) (fR.2.1 2 (by decide)) (fR.2.1 3 (by decide)) (fR.2.1 4 (by decide)) (fR.2.1 5 (by decide)) (fR.2.1 6 (by decide)), fa_c i.2.2.2.2.1 (fC.1 11 (by decide)) (fC.1 12 (by decide)) (fR.1 4 (by decide)) (fR.1 5 (by decide)), ivP_c i.2.2.2.2.2.1 (fC.1 25 (by decide)) (fC.2.1 28 (by decide)) (fR.1 29 (by decide)) (fR.1 30 (by decide)) (fR.2.1 32 (by decide)) (fR.2.1 33 (by decide)), ivL_c i.2.2.2.2.2.2.1 (fC.1 20 (by decide)), mdC_c i.2.2.2.2.2.2.2.1 (fC.1 23 (by decide)) (fC.1 22 (by decide)), mdR_c i.2.2.2.2.2.2.2.2.1 (fR.1 31 (by decide)), cn4_c i.2.2.2.2.2.2.2.2.2.1 (fC.2.1 21 (by decide)) (fR.1 19 (by decide)) (fR.1 20 (by decide)) (fR.1 21 (by decide)) (fR.1 22 (by decide)), (by rw [fR.2.1 38 (by decide)]; exact i.2.2.2.2.2.2.2.2.2.2.1), mo_c i.2.2.2.2.2.2.2.2.2.2.2 (fC.1 23 (by decide)) (fC.2.1 23 (by decide)) (fC.2.2 7 (by decide)) (fR.1 31 (by decide)) (fR.2.1 34 (by decide)) (fR.2.1 35 (by decide))⟩⟩
theorem tv_proof (hN : 300000 ≤ N) (i : In2 SC SR) : ∃ r SC' SR', zf_X10_proof N z SC = some (r, SC') ∧ zf_X11_proof N z SR = some (r, SR') ∧ In2 SC' SR' := by
  obtain ⟨r, SC', SR', e1, e2, h1, h2, h3, fC, fR⟩ := st_proof (N := N) (z := z) (by omega) i.2.2.2.2.2.1 i.2.1
  exact ⟨r, SC', SR', e1, e2, ⟨tp_c i.1 (fC.1 0 (by decide)) (fC.2.1 2 (by decide)) (fR.1 1 (by decide)) (fR.2.1 0 (by decide)), h1, (by rw [fR.2.1 0 (by decide)]; exact i.2.2.1), ivF_k i.2.2.2.1 (fC.1 2 (by decide)) (fC.2.1 0 (by decide)) (fC.2.1 1 (by decide)) (fC.2.1 4 (by decide)) (fC.2.1 5 (by decide)) (fC.2.1 6 (by decide)) (fC.2.1 7 (by decide)) (fC.2.2 0 (by decide)) (fR.1 3 (by decide)) (fR.2.1 2 (by decide)) (fR.2.1 3 (by decide)) (fR.2.1 4 (by decide)) (fR.2.1 5 (by decide)) (fR.2.1 6 (by decide)), fa_c i.2.2.2.2.1 (fC.1 11 (by decide)) (fC.1 12 (by decide)) (fR.1 4 (by decide)) (fR.1 5 (by decide)), ivP_c i.2.2.2.2.2.1 h2 h3 (fR.1 29 (by decide)) (fR.1 30 (by decide)) (fR.2.1 32 (by decide)) (fR.2.1 33 (by decide)), ivL_c i.2.2.2.2.2.2.1 (fC.1 20 (by decide)), mdC_c i.2.2.2.2.2.2.2.1 (fC.1 23 (by decide)) (fC.1 22 (by decide)), mdR_c i.2.2.2.2.2.2.2.2.1 (fR.1 31 (by decide)), cn4_c i.2.2.2.2.2.2.2.2.2.1 (fC.2.1 21 (by decide)) (fR.1 19 (by decide)) (fR.1 20 (by decide)) (fR.1 21 (by decide)) (fR.1 22 (by decide)), (by rw [fR.2.1 38 (by decide)]; exact i.2.2.2.2.2.2.2.2.2.2.1), mo_c i.2.2.2.2.2.2.2.2.2.2.2 (fC.1 23 (by decide)) (fC.2.1 23 (by decide)) (fC.2.2 7 (by decide)) (fR.1 31 (by decide)) (fR.2.1 34 (by decide)) (fR.2.1 35 (by decide))⟩⟩
theorem tv_verify (v : Int32) (hN : 300000 ≤ N) (i : In2 SC SR) : ∃ r SC' SR', zf_X10_verify N z v SC = some (r, SC') ∧ zf_X11_verify N z v SR = some (r, SR') ∧ In2 SC' SR' := by
  obtain ⟨r, SC', SR', e1, e2, h1, fC, fR⟩ := st_verify (N := N) (z := z) v (by omega) i.2.2.2.1 i.1
  exact ⟨r, SC', SR', e1, e2, ⟨h1, tp_c i.2.1 (fC.1 1 (by decide)) (fC.2.1 3 (by decide)) (fR.1 2 (by decide)) (fR.2.1 1 (by decide)), (by rw [fR.2.1 0 (by decide)]; exact i.2.2.1), ivF_k i.2.2.2.1 (fC.1 2 (by decide)) (fC.2.1 0 (by decide)) (fC.2.1 1 (by decide)) (fC.2.1 4 (by decide)) (fC.2.1 5 (by decide)) (fC.2.1 6 (by decide)) (fC.2.1 7 (by decide)) (fC.2.2 0 (by decide)) (fR.1 3 (by decide)) (fR.2.1 2 (by decide)) (fR.2.1 3 (by decide)) (fR.2.1 4 (by decide)) (fR.2.1 5 (by decide)) (fR.2.1 6 (by decide)), fa_c i.2.2.2.2.1 (fC.1 11 (by decide)) (fC.1 12 (by decide)) (fR.1 4 (by decide)) (fR.1 5 (by decide)), ivP_c i.2.2.2.2.2.1 (fC.1 25 (by decide)) (fC.2.1 28 (by decide)) (fR.1 29 (by decide)) (fR.1 30 (by decide)) (fR.2.1 32 (by decide)) (fR.2.1 33 (by decide)), ivL_c i.2.2.2.2.2.2.1 (fC.1 20 (by decide)), mdC_c i.2.2.2.2.2.2.2.1 (fC.1 23 (by decide)) (fC.1 22 (by decide)), mdR_c i.2.2.2.2.2.2.2.2.1 (fR.1 31 (by decide)), cn4_c i.2.2.2.2.2.2.2.2.2.1 (fC.2.1 21 (by decide)) (fR.1 19 (by decide)) (fR.1 20 (by decide)) (fR.1 21 (by decide)) (fR.1 22 (by decide)), (by rw [fR.2.1 38 (by decide)]; exact i.2.2.2.2.2.2.2.2.2.2.1), mo_c i.2.2.2.2.2.2.2.2.2.2.2 (fC.1 23 (by decide)) (fC.2.1 23 (by decide)) (fC.2.2 7 (by decide)) (fR.1 31 (by decide)) (fR.2.1 34 (by decide)) (fR.2.1 35 (by decide))⟩⟩
theorem tv_worlds (hN : 300000 ≤ N) (i : In2 SC SR) : ∃ r SR', zf_X10_worlds N z SC = some r ∧ zf_X11_worlds N z SR = some (r, SR') ∧ In2 SC SR' := by
  obtain ⟨SR', e1, e2, fR⟩ := st_worlds (N := N) (z := z) (SC := SC) (SR := SR)
  have fC : ag [] [] [] SC SC := ag_rf
  obtain ⟨W, hW, h1, h2, -⟩ := id i.2.2.2.2.2.2.2.2.2.2.2
  have e : SR.1 31 = SC.1 23 := h2.trans h1.symm
  rw [e] at e2
  exact ⟨_, SR', e1, e2, ⟨tp_c i.1 (fC.1 0 (by decide)) (fC.2.1 2 (by decide)) (fR.1 1 (by decide)) (fR.2.1 0 (by decide)), tp_c i.2.1 (fC.1 1 (by decide)) (fC.2.1 3 (by decide)) (fR.1 2 (by decide)) (fR.2.1 1 (by decide)), (by rw [fR.2.1 0 (by decide)]; exact i.2.2.1), ivF_k i.2.2.2.1 (fC.1 2 (by decide)) (fC.2.1 0 (by decide)) (fC.2.1 1 (by decide)) (fC.2.1 4 (by decide)) (fC.2.1 5 (by decide)) (fC.2.1 6 (by decide)) (fC.2.1 7 (by decide)) (fC.2.2 0 (by decide)) (fR.1 3 (by decide)) (fR.2.1 2 (by decide)) (fR.2.1 3 (by decide)) (fR.2.1 4 (by decide)) (fR.2.1 5 (by decide)) (fR.2.1 6 (by decide)), fa_c i.2.2.2.2.1 (fC.1 11 (by decide)) (fC.1 12 (by decide)) (fR.1 4 (by decide)) (fR.1 5 (by decide)), ivP_c i.2.2.2.2.2.1 (fC.1 25 (by decide)) (fC.2.1 28 (by decide)) (fR.1 29 (by decide)) (fR.1 30 (by decide)) (fR.2.1 32 (by decide)) (fR.2.1 33 (by decide)), ivL_c i.2.2.2.2.2.2.1 (fC.1 20 (by decide)), mdC_c i.2.2.2.2.2.2.2.1 (fC.1 23 (by decide)) (fC.1 22 (by decide)), mdR_c i.2.2.2.2.2.2.2.2.1 (fR.1 31 (by decide)), cn4_c i.2.2.2.2.2.2.2.2.2.1 (fC.2.1 21 (by decide)) (fR.1 19 (by decide)) (fR.1 20 (by decide)) (fR.1 21 (by decide)) (fR.1 22 (by decide)), (by rw [fR.2.1 38 (by decide)]; exact i.2.2.2.2.2.2.2.2.2.2.1), mo_c i.2.2.2.2.2.2.2.2.2.2.2 (fC.1 23 (by decide)) (fC.2.1 23 (by decide)) (fC.2.2 7 (by decide)) (fR.1 31 (by decide)) (fR.2.1 34 (by decide)) (fR.2.1 35 (by decide))⟩⟩
theorem tv_sees (v w : Int32) (hN : 300000 ≤ N) (i : In2 SC SR) : ∃ r q SR', zf_X10_sees N z v w SC = some (r, SC) ∧ zf_X11_sees N z v w SR = some (q, SR') ∧ In2 SC SR' ∧ ((r = none ∧ SR'.1 0 = 1) ∨ (r = some q ∧ SR'.1 0 = 0)) := by
  obtain ⟨r, q, SR', e1, e2, fR, t⟩ := st_sees (N := N) (z := z) v w i.2.2.2.2.2.2.2.2.2.2.2
  have fC : ag [] [] [] SC SC := ag_rf
  exact ⟨r, q, SR', e1, e2, ⟨tp_c i.1 (fC.1 0 (by decide)) (fC.2.1 2 (by decide)) (fR.1 1 (by decide)) (fR.2.1 0 (by decide)), tp_c i.2.1 (fC.1 1 (by decide)) (fC.2.1 3 (by decide)) (fR.1 2 (by decide)) (fR.2.1 1 (by decide)), (by rw [fR.2.1 0 (by decide)]; exact i.2.2.1), ivF_k i.2.2.2.1 (fC.1 2 (by decide)) (fC.2.1 0 (by decide)) (fC.2.1 1 (by decide)) (fC.2.1 4 (by decide)) (fC.2.1 5 (by decide)) (fC.2.1 6 (by decide)) (fC.2.1 7 (by decide)) (fC.2.2 0 (by decide)) (fR.1 3 (by decide)) (fR.2.1 2 (by decide)) (fR.2.1 3 (by decide)) (fR.2.1 4 (by decide)) (fR.2.1 5 (by decide)) (fR.2.1 6 (by decide)), fa_c i.2.2.2.2.1 (fC.1 11 (by decide)) (fC.1 12 (by decide)) (fR.1 4 (by decide)) (fR.1 5 (by decide)), ivP_c i.2.2.2.2.2.1 (fC.1 25 (by decide)) (fC.2.1 28 (by decide)) (fR.1 29 (by decide)) (fR.1 30 (by decide)) (fR.2.1 32 (by decide)) (fR.2.1 33 (by decide)), ivL_c i.2.2.2.2.2.2.1 (fC.1 20 (by decide)), mdC_c i.2.2.2.2.2.2.2.1 (fC.1 23 (by decide)) (fC.1 22 (by decide)), mdR_c i.2.2.2.2.2.2.2.2.1 (fR.1 31 (by decide)), cn4_c i.2.2.2.2.2.2.2.2.2.1 (fC.2.1 21 (by decide)) (fR.1 19 (by decide)) (fR.1 20 (by decide)) (fR.1 21 (by decide)) (fR.1 22 (by decide)), (by rw [fR.2.1 38 (by decide)]; exact i.2.2.2.2.2.2.2.2.2.2.1), mo_c i.2.2.2.2.2.2.2.2.2.2.2 (fC.1 23 (by decide)) (fC.2.1 23 (by decide)) (fC.2.2 7 (by decide)) (fR.1 31 (by decide)) (fR.2.1 34 (by decide)) (fR.2.1 35 (by decide))⟩, t⟩
theorem tv_cut (v : Int32) (hN : 300000 ≤ N) (i : In2 SC SR) : ∃ r SC' q SR', zf_X10_cut N z v SC = some (r, SC') ∧ zf_X11_cut N z v SR = some (q, SR') ∧ In2 SC' SR' ∧ ((r = none ∧ SR'.1 0 = 1) ∨ (r = some q ∧ SR'.1 0 = 0)) := by
  obtain ⟨r, SC', q, SR', e1, e2, hmo, fC, fR, t22, t⟩ := st_cut (N := N) (z := z) v (by omega) i.2.2.2.2.2.2.2.2.2.2.2
  obtain ⟨W, hW, h1, h2, -⟩ := id hmo
  have hm : mdC SC' := ⟨⟨W, hW, h1⟩, by
    rcases t22 with e | e
    · rw [e]; exact i.2.2.2.2.2.2.2.1.2
    · exact ⟨0, by omega, e⟩⟩
  exact ⟨r, SC', q, SR', e1, e2, ⟨tp_c i.1 (fC.1 0 (by decide)) (fC.2.1 2 (by decide)) (fR.1 1 (by decide)) (fR.2.1 0 (by decide)), tp_c i.2.1 (fC.1 1 (by decide)) (fC.2.1 3 (by decide)) (fR.1 2 (by decide)) (fR.2.1 1 (by decide)), (by rw [fR.2.1 0 (by decide)]; exact i.2.2.1), ivF_k i.2.2.2.1 (fC.1 2 (by decide)) (fC.2.1 0 (by decide)) (fC.2.1 1 (by decide)) (fC.2.1 4 (by decide)) (fC.2.1 5 (by decide)) (fC.2.1 6 (by decide)) (fC.2.1 7 (by decide)) (fC.2.2 0 (by decide)) (fR.1 3 (by decide)) (fR.2.1 2 (by decide)) (fR.2.1 3 (by decide)) (fR.2.1 4 (by decide)) (fR.2.1 5 (by decide)) (fR.2.1 6 (by decide)), fa_c i.2.2.2.2.1 (fC.1 11 (by decide)) (fC.1 12 (by decide)) (fR.1 4 (by decide)) (fR.1 5 (by decide)), ivP_c i.2.2.2.2.2.1 (fC.1 25 (by decide)) (fC.2.1 28 (by decide)) (fR.1 29 (by decide)) (fR.1 30 (by decide)) (fR.2.1 32 (by decide)) (fR.2.1 33 (by decide)), ivL_c i.2.2.2.2.2.2.1 (fC.1 20 (by decide)), hm, ⟨W, hW, h2⟩, cn4_c i.2.2.2.2.2.2.2.2.2.1 (fC.2.1 21 (by decide)) (fR.1 19 (by decide)) (fR.1 20 (by decide)) (fR.1 21 (by decide)) (fR.1 22 (by decide)), (by rw [fR.2.1 38 (by decide)]; exact i.2.2.2.2.2.2.2.2.2.2.1), hmo⟩, t⟩
theorem tv_fold (hN : 300000 ≤ N) (i : In2 SC SR) : ∃ r SC' SR', zf_X10_fold N z SC = some (r, SC') ∧ zf_X11_fold N z SR = some (r, SR') ∧ In2 SC' SR' := by
  obtain ⟨r, SC', SR', e1, e2, hmo, fC, fR, t22⟩ := st_fold (N := N) (z := z) (by omega) i.2.2.2.2.2.2.2.2.2.2.2
  obtain ⟨W, hW, h1, h2, -⟩ := id hmo
  exact ⟨r, SC', SR', e1, e2, ⟨tp_c i.1 (fC.1 0 (by decide)) (fC.2.1 2 (by decide)) (fR.1 1 (by decide)) (fR.2.1 0 (by decide)), tp_c i.2.1 (fC.1 1 (by decide)) (fC.2.1 3 (by decide)) (fR.1 2 (by decide)) (fR.2.1 1 (by decide)), (by rw [fR.2.1 0 (by decide)]; exact i.2.2.1), ivF_k i.2.2.2.1 (fC.1 2 (by decide)) (fC.2.1 0 (by decide)) (fC.2.1 1 (by decide)) (fC.2.1 4 (by decide)) (fC.2.1 5 (by decide)) (fC.2.1 6 (by decide)) (fC.2.1 7 (by decide)) (fC.2.2 0 (by decide)) (fR.1 3 (by decide)) (fR.2.1 2 (by decide)) (fR.2.1 3 (by decide)) (fR.2.1 4 (by decide)) (fR.2.1 5 (by decide)) (fR.2.1 6 (by decide)), fa_c i.2.2.2.2.1 (fC.1 11 (by decide)) (fC.1 12 (by decide)) (fR.1 4 (by decide)) (fR.1 5 (by decide)), ivP_c i.2.2.2.2.2.1 (fC.1 25 (by decide)) (fC.2.1 28 (by decide)) (fR.1 29 (by decide)) (fR.1 30 (by decide)) (fR.2.1 32 (by decide)) (fR.2.1 33 (by decide)), ivL_c i.2.2.2.2.2.2.1 (fC.1 20 (by decide)), ⟨⟨W, hW, h1⟩, 0, by omega, t22⟩, ⟨W, hW, h2⟩, cn4_c i.2.2.2.2.2.2.2.2.2.1 (fC.2.1 21 (by decide)) (fR.1 19 (by decide)) (fR.1 20 (by decide)) (fR.1 21 (by decide)) (fR.1 22 (by decide)), (by rw [fR.2.1 38 (by decide)]; exact i.2.2.2.2.2.2.2.2.2.2.1), hmo⟩⟩
theorem tv_holds (v : Int32) (w : Int32) (hN : 300000 ≤ N) (i : In2 SC SR) : ∃ r SC' q SR', zf_X10_holds N z v w SC = some (r, SC') ∧ zf_X11_holds N z v w SR = some (q, SR') ∧ In2 SC' SR' := by
  obtain ⟨⟨W, hW, h23⟩, t, ht, h22⟩ := id i.2.2.2.2.2.2.2.1
  obtain ⟨W', hW', h31⟩ := id i.2.2.2.2.2.2.2.2.1
  obtain ⟨n, so, on, tw, d, hc, hx, -⟩ := ivF_cx i.2.2.2.1
  obtain ⟨r, SC', e1, hm, fC⟩ := ck_holds2 (N := N) (z := z) v w (by omega) hc i.2.2.2.2.2.2.2.1
  obtain ⟨q, SR', e2, fR, hb⟩ := rf_holds (N := N) (z := z) v w (by omega) hx h31 hW' i.2.2.2.2.2.2.2.2.2.2.1
  exact ⟨r, SC', q, SR', e1, e2, ⟨tp_c i.1 (fC.1 0 (by decide)) (fC.2.1 2 (by decide)) (fR.1 1 (by decide)) (fR.2.1 0 (by decide)), tp_c i.2.1 (fC.1 1 (by decide)) (fC.2.1 3 (by decide)) (fR.1 2 (by decide)) (fR.2.1 1 (by decide)), (by rw [fR.2.1 0 (by decide)]; exact i.2.2.1), ivF_k i.2.2.2.1 (fC.1 2 (by decide)) (fC.2.1 0 (by decide)) (fC.2.1 1 (by decide)) (fC.2.1 4 (by decide)) (fC.2.1 5 (by decide)) (fC.2.1 6 (by decide)) (fC.2.1 7 (by decide)) (fC.2.2 0 (by decide)) (fR.1 3 (by decide)) (fR.2.1 2 (by decide)) (fR.2.1 3 (by decide)) (fR.2.1 4 (by decide)) (fR.2.1 5 (by decide)) (fR.2.1 6 (by decide)), fa_c i.2.2.2.2.1 (fC.1 11 (by decide)) (fC.1 12 (by decide)) (fR.1 4 (by decide)) (fR.1 5 (by decide)), ivP_c i.2.2.2.2.2.1 (fC.1 25 (by decide)) (fC.2.1 28 (by decide)) (fR.1 29 (by decide)) (fR.1 30 (by decide)) (fR.2.1 32 (by decide)) (fR.2.1 33 (by decide)), ivL_c i.2.2.2.2.2.2.1 (fC.1 20 (by decide)), hm, mdR_c i.2.2.2.2.2.2.2.2.1 (fR.1 31 (by decide)), cn4_c i.2.2.2.2.2.2.2.2.2.1 (fC.2.1 21 (by decide)) (fR.1 19 (by decide)) (fR.1 20 (by decide)) (fR.1 21 (by decide)) (fR.1 22 (by decide)), hb, mo_c i.2.2.2.2.2.2.2.2.2.2.2 (fC.1 23 (by decide)) (fC.2.1 23 (by decide)) (fC.2.2 7 (by decide)) (fR.1 31 (by decide)) (fR.2.1 34 (by decide)) (fR.2.1 35 (by decide))⟩⟩
theorem tv_world (v : Int32) (w : Int32) (hN : 300000 ≤ N) (i : In2 SC SR) : ∃ r SC' q SR', zf_X10_world N z v w SC = some (r, SC') ∧ zf_X11_world N z v w SR = some (q, SR') ∧ In2 SC' SR' := by
  obtain ⟨⟨W, hW, h23⟩, t, ht, h22⟩ := id i.2.2.2.2.2.2.2.1
  obtain ⟨W', hW', h31⟩ := id i.2.2.2.2.2.2.2.2.1
  obtain ⟨n, so, on, tw, d, hc, hx, -⟩ := ivF_cx i.2.2.2.1
  obtain ⟨r, e1⟩ := ck_world (N := N) (z := z) v w (by omega) h23 hW
  obtain ⟨q, SR', e2, fR⟩ := rf_world (N := N) (z := z) v w (by omega) h31 hW'
  have fC : ag [] [] [] SC SC := ag_rf
  exact ⟨r, SC, q, SR', e1, e2, ⟨tp_c i.1 (fC.1 0 (by decide)) (fC.2.1 2 (by decide)) (fR.1 1 (by decide)) (fR.2.1 0 (by decide)), tp_c i.2.1 (fC.1 1 (by decide)) (fC.2.1 3 (by decide)) (fR.1 2 (by decide)) (fR.2.1 1 (by decide)), (by rw [fR.2.1 0 (by decide)]; exact i.2.2.1), ivF_k i.2.2.2.1 (fC.1 2 (by decide)) (fC.2.1 0 (by decide)) (fC.2.1 1 (by decide)) (fC.2.1 4 (by decide)) (fC.2.1 5 (by decide)) (fC.2.1 6 (by decide)) (fC.2.1 7 (by decide)) (fC.2.2 0 (by decide)) (fR.1 3 (by decide)) (fR.2.1 2 (by decide)) (fR.2.1 3 (by decide)) (fR.2.1 4 (by decide)) (fR.2.1 5 (by decide)) (fR.2.1 6 (by decide)), fa_c i.2.2.2.2.1 (fC.1 11 (by decide)) (fC.1 12 (by decide)) (fR.1 4 (by decide)) (fR.1 5 (by decide)), ivP_c i.2.2.2.2.2.1 (fC.1 25 (by decide)) (fC.2.1 28 (by decide)) (fR.1 29 (by decide)) (fR.1 30 (by decide)) (fR.2.1 32 (by decide)) (fR.2.1 33 (by decide)), ivL_c i.2.2.2.2.2.2.1 (fC.1 20 (by decide)), mdC_c i.2.2.2.2.2.2.2.1 (fC.1 23 (by decide)) (fC.1 22 (by decide)), mdR_c i.2.2.2.2.2.2.2.2.1 (fR.1 31 (by decide)), cn4_c i.2.2.2.2.2.2.2.2.2.1 (fC.2.1 21 (by decide)) (fR.1 19 (by decide)) (fR.1 20 (by decide)) (fR.1 21 (by decide)) (fR.1 22 (by decide)), (by rw [fR.2.1 38 (by decide)]; exact i.2.2.2.2.2.2.2.2.2.2.1), mo_c i.2.2.2.2.2.2.2.2.2.2.2 (fC.1 23 (by decide)) (fC.2.1 23 (by decide)) (fC.2.2 7 (by decide)) (fR.1 31 (by decide)) (fR.2.1 34 (by decide)) (fR.2.1 35 (by decide))⟩⟩
end INV2
end
