/-! auj.rtruth -/
section
/-! What holds where: the reference's way, and holds() alike. -/
section RTRUTH
variable {N n : Nat} {z : Nat → Nat} {so on tw : Nat → Int32} {d : Nat → Nat} {S S0 SC SR : mq_St} {W w t f g k : Nat} {L : Nat → Int32} {M : Nat → Nat → Bool}
theorem it_209T {v4 : Int32} {p : Nat} (hN : 100 ≤ N) (hx : cxR S n so on tw d) (h : S.1 31 = nI W) (hW : W ≤ 60) (hw : w < W) (hf : f < n) (hp : p < f) (hp' : on f = nI p) (hM : mtR S W M) : ∃ a : Int32, (a = 0 ∨ a = 1) ∧ (a = 1 ↔ ∃ x, x < W ∧ M w x = true ∧ ¬ S.2.1 38 (60 * p + x) = v4) ∧ zf_X11_isTrue_209 N z S N (nI f) (nI w) 0 v4 0 = some (if a = v4 then 0 else 1) := by
  have h300 := hx.2.2.2.2.1
  have i1 : vp_in (nI f) 300 := vp_in_nI (by omega) (by omega)
  have c1 : (nI f).toNatClampNeg = f := nI_clamp (by omega)
  have e3 : S.2.1 3 f = nI p := (hx.2.1 f hf).2.1.trans hp'
  have key : ∀ fu k (a : Int32), k ≤ W → W - k < fu → (a = 0 ∨ a = 1) → (a = 1 ↔ ∃ x, x < k ∧ M w x = true ∧ ¬ S.2.1 38 (60 * p + x) = v4) → ∃ a' : Int32, (a' = 0 ∨ a' = 1) ∧ (a' = 1 ↔ ∃ x, x < W ∧ M w x = true ∧ ¬ S.2.1 38 (60 * p + x) = v4) ∧ zf_X11_isTrue_209 N z S fu (nI f) (nI w) a v4 (nI k) = some (if a' = v4 then 0 else 1) := by
    intro fu
    induction fu with
    | zero => intro k a _ h; omega
    | succ fu ih =>
      intro k a hk hfu h01 ha
      show ∃ a' : Int32, _ ∧ _ ∧ zf_X11_isTrue_209b N z S (fun v1 v2 v3 v4 v5 => zf_X11_isTrue_209 N z S fu v1 v2 v3 v4 v5) (nI f) (nI w) a v4 (nI k) = _
      unfold zf_X11_isTrue_209b zf_X11_isTrue_263 zf_X11_isTrue_259 zf_X11_isTrue_264
      by_cases e : k = W
      · subst e
        refine ⟨a, h01, ha, ?_⟩
        rw [h, if_pos (nI_le (Nat.le_refl _) (by omega)), mq_cz_0, mq_cz_1]
        by_cases q : a = v4
        · rw [if_pos q, if_pos q]
        · rw [if_neg q, if_neg q]
      · have hk' : k < W := by omega
        rw [h, if_neg (nI_ge hk' (by omega)), c1, e3, e60, e60, mq_ck_of (vp_in_nI (by omega) (by omega)), mq_ck_of i1, mq_ck_of (vp_in_nI (by omega) (by omega)), nI_clamp (show 60 * w + k < 2147483648 by omega), nI_clamp (show 60 * p + k < 2147483648 by omega), hM w k hw hk']
        simp only [nI_e, nI_1]
        have yes : (∃ x, x < k + 1 ∧ M w x = true ∧ ¬ S.2.1 38 (60 * p + x) = v4) → ∃ a' : Int32, (a' = 0 ∨ a' = 1) ∧ (a' = 1 ↔ ∃ x, x < W ∧ M w x = true ∧ ¬ S.2.1 38 (60 * p + x) = v4) ∧ zf_X11_isTrue_209 N z S fu (nI f) (nI w) 1 v4 (nI (k + 1)) = some (if a' = v4 then 0 else 1) := fun q => ih (k + 1) 1 (by omega) (by omega) (Or.inr rfl) ⟨fun _ => q, fun _ => rfl⟩
        have no : a = 0 → ¬ (M w k = true ∧ ¬ S.2.1 38 (60 * p + k) = v4) → ∃ a' : Int32, (a' = 0 ∨ a' = 1) ∧ (a' = 1 ↔ ∃ x, x < W ∧ M w x = true ∧ ¬ S.2.1 38 (60 * p + x) = v4) ∧ zf_X11_isTrue_209 N z S fu (nI f) (nI w) 0 v4 (nI (k + 1)) = some (if a' = v4 then 0 else 1) := fun a0 q => ih (k + 1) 0 (by omega) (by omega) (Or.inl rfl) ⟨fun q => absurd q (by decide), fun ⟨x, x1, x2⟩ => by
          by_cases e' : x = k
          · rw [e'] at x2; exact absurd x2 q
          · have := ha.mpr ⟨x, by omega, x2⟩
            rw [a0] at this; exact absurd this (by decide)⟩
        by_cases a0 : a = 0
        · rw [if_pos a0]
          by_cases q1 : M w k = true
          · rw [if_pos q1, if_neg (show ¬ (1 : Int32) = 0 by decide)]
            by_cases q2 : S.2.1 38 (60 * p + k) = v4
            · rw [if_pos q2]; exact no a0 (fun q => q.2 q2)
            · rw [if_neg q2]; exact yes ⟨k, by omega, q1, q2⟩
          · rw [if_neg q1, if_pos rfl]; exact no a0 (fun q => q1 q.1)
        · rw [if_neg a0]
          obtain ⟨x, x1, x2⟩ := ha.mp (h01.resolve_left a0)
          exact yes ⟨x, by omega, x2⟩
  exact key N 0 0 (by omega) (by omega) (Or.inl rfl) ⟨fun q => absurd q (by decide), fun ⟨x, x1, _⟩ => by omega⟩
/-- the reference's truths of the FORMULAS ahead of f, and at f of the worlds ahead of w -/
def trR (S : mq_St) (so on tw : Nat → Int32) (W : Nat) (L : Nat → Int32) (M : Nat → Nat → Bool) (f w : Nat) : Prop := ∀ g x, x < W → (g < f ∨ (g = f ∧ x < w)) → S.2.1 38 (60 * g + x) = if tv so on tw W L M (g + 1) g x = true then 1 else 0
theorem i01 (b : Bool) : ((if b = true then (1 : Int32) else 0) = 0) ↔ ¬ b = true := by cases b <;> decide
theorem rt_T (hN : 100 ≤ N) (hx : cxR S n so on tw d) (h : S.1 31 = nI W) (hW : W ≤ 60) (hw : w < W) (hf : f < n) (hM : mtR S W M) (hL : ∀ a, a < W → S.2.1 34 a = L a) (ht : trR S so on tw W L M f 0) : zf_X11_isTrue N z (nI f) (nI w) S = some (if tv so on tw W L M (f + 1) f w = true then 1 else 0) := by
  have hfw := hx.2.2.2
  have h300 := hfw.2.1
  obtain ⟨s, hs, es⟩ := fw_so hfw hf
  have i1 : vp_in (nI f) 300 := vp_in_nI (by omega) (by omega)
  have c1 : (nI f).toNatClampNeg = f := nI_clamp (by omega)
  have i2 : vp_in (nI w) 60 := vp_in_nI (by omega) (by omega)
  have c2 : (nI w).toNatClampNeg = w := nI_clamp (by omega)
  have e2 : S.2.1 2 f = nI s := (hx.2.1 f hf).1.trans es
  have e3 : S.2.1 3 f = on f := (hx.2.1 f hf).2.1
  have e4 : S.2.1 4 f = tw f := (hx.2.1 f hf).2.2
  unfold zf_X11_isTrue zf_X11_isTrue_182 zf_X11_isTrue_204
  rw [nI_e, mq_ck_of i1, c1, e2]
  have c : s = 0 ∨ s = 1 ∨ (s = 2 ∨ s = 3) ∨ (s = 4 ∨ s = 5) ∨ (s = 6 ∨ s = 7) := by omega
  rcases c with rfl | rfl | c | c | c
  · rw [if_pos (by decide), mq_cz_1, tv_0 es, if_pos rfl]
  · rw [if_neg (by decide), if_pos (by decide), mq_cz_0, tv_1 es, if_neg (by decide)]
  · obtain ⟨l, hl, el⟩ : ∃ l : Nat, l < 26 ∧ on f = nI l := by
      rcases hfw.2.2.2.2 f hf with ⟨-, e, -⟩ | ⟨-, e, -⟩ | ⟨-, -, -, -, q⟩ | ⟨⟨e, -⟩ | ⟨e, -⟩, -⟩ | ⟨⟨e, -⟩ | ⟨e, -⟩, -⟩
      · rw [es] at e; have := sp_inj (b := 0) e (by omega) (by omega); omega
      · rw [es] at e; have := sp_inj (b := 1) e (by omega) (by omega); omega
      · exact q
      · rw [es] at e; have := sp_inj (b := 4) e (by omega) (by omega); omega
      · rw [es] at e; have := sp_inj (b := 5) e (by omega) (by omega); omega
      · rw [es] at e; have := sp_inj (b := 6) e (by omega) (by omega); omega
      · rw [es] at e; have := sp_inj (b := 7) e (by omega) (by omega); omega
    have pl : p1 on f = l := by unfold p1; rw [el, nI_clamp (by omega)]
    have bb := b_bit (L w) (n := l) (by omega)
    rcases c with rfl | rfl
    · rw [if_neg (by decide), if_neg (by decide), if_pos (by decide), mq_ck_of i2, mq_ck_of i1, mq_cz_0, mq_cz_1, c2, e3, el, hL w hw, tv_2 es, pl]
      cases q : bt (L w) l with
      | false => rw [if_pos (bb.mpr q)]; rfl
      | true => rw [if_neg (fun p => by rw [bb.mp p] at q; cases q)]; rfl
    · rw [if_neg (by decide), if_neg (by decide), if_neg (by decide), if_pos (by decide), mq_ck_of i2, mq_ck_of i1, mq_cz_0, mq_cz_1, c2, e3, el, hL w hw, tv_3 es, pl]
      cases q : bt (L w) l with
      | false => rw [if_pos (bb.mpr q)]; rfl
      | true => rw [if_neg (fun p => by rw [bb.mp p] at q; cases q)]; rfl
  · obtain ⟨w1, w2, w5, -⟩ := fw_1 hfw hf es (by omega) (by omega)
    obtain ⟨w3, w4⟩ := w5 (by omega)
    clear w5
    have a1 := ht _ w hw (Or.inl w1)
    have a2 := ht _ w hw (Or.inl w3)
    rcases c with rfl | rfl
    · rw [if_neg (by decide), if_neg (by decide), if_neg (by decide), if_neg (by decide), if_pos (by decide), mq_ck_of i1, e3, e4, w2, w4, e60, e60, mq_ck_of (vp_in_nI (by omega) (by omega)), mq_ck_of i1, mq_ck_of (vp_in_nI (by omega) (by omega)), mq_cz_0, mq_cz_1, nI_clamp (by omega), nI_clamp (by omega), a1, a2, tv_4 es, tv_p hfw w1 hf, tv_p hfw w3 hf]
      cases tv so on tw W L M (p1 on f + 1) (p1 on f) w <;> cases tv so on tw W L M (p1 tw f + 1) (p1 tw f) w <;> rfl
    · rw [if_neg (by decide), if_neg (by decide), if_neg (by decide), if_neg (by decide), if_neg (by decide), if_pos (by decide), mq_ck_of i1, e3, e4, w2, w4, e60, e60, mq_ck_of (vp_in_nI (by omega) (by omega)), mq_ck_of i1, mq_ck_of (vp_in_nI (by omega) (by omega)), mq_cz_0, mq_cz_1, nI_clamp (by omega), nI_clamp (by omega), a1, a2, tv_5 es, tv_p hfw w1 hf, tv_p hfw w3 hf]
      cases tv so on tw W L M (p1 on f + 1) (p1 on f) w <;> cases tv so on tw W L M (p1 tw f + 1) (p1 tw f) w <;> rfl
  · obtain ⟨w1, w2, -, -⟩ := fw_1 hfw hf es (by omega) (by omega)
    have a1 := fun x hx => ht (p1 on f) x hx (Or.inl w1)
    rcases c with rfl | rfl
    · rw [if_neg (by decide), if_neg (by decide), if_neg (by decide), if_neg (by decide), if_neg (by decide), if_neg (by decide), mq_ck_of i1, if_pos (by decide), nI_e, nI_e, tv_6 es]
      obtain ⟨a, b01', b1, b2⟩ := it_209T (N := N) (z := z) (v4 := 1) hN hx h hW hw hf w1 w2 hM
      rw [b2]
      congr 1
      have ta := tv_all (W := W) (L := L) (M := M) (w := w) hfw hf w1
      by_cases q : (List.range W).all (fun x => !M w x || tv so on tw W L M f (p1 on f) x) = true
      · rw [if_pos q, if_neg (fun e => ?_)]
        obtain ⟨x, x1, x2, x3⟩ := b1.mp e
        rw [a1 x x1, ta.mp q x x1 x2] at x3
        exact x3 rfl
      · rw [if_neg q, if_pos]
        apply b1.mpr
        apply Classical.byContradiction
        intro no
        refine q (ta.mpr (fun x x1 x2 => ?_))
        apply Classical.byContradiction
        intro e
        refine no ⟨x, x1, x2, ?_⟩
        rw [a1 x x1, if_neg e]; decide
    · rw [if_neg (by decide), if_neg (by decide), if_neg (by decide), if_neg (by decide), if_neg (by decide), if_neg (by decide), mq_ck_of i1, if_neg (by decide), nI_e, nI_e, tv_7 es]
      obtain ⟨a, b01', b1, b2⟩ := it_209T (N := N) (z := z) (v4 := 0) hN hx h hW hw hf w1 w2 hM
      rw [b2]
      congr 1
      have ta := tv_any (W := W) (L := L) (M := M) (w := w) hfw hf w1
      by_cases q : (List.range W).any (fun x => M w x && tv so on tw W L M f (p1 on f) x) = true
      · obtain ⟨x, x1, x2, x3⟩ := ta.mp q
        rw [if_pos q, if_neg (fun e => ?_)]
        have := b1.mpr ⟨x, x1, x2, by rw [a1 x x1, if_pos x3]; decide⟩
        rw [e] at this; exact absurd this (by decide)
      · rw [if_neg q, if_pos]
        apply Classical.byContradiction
        intro e
        obtain ⟨x, x1, x2, x3⟩ := b1.mp (b01'.resolve_left e)
        refine q (ta.mpr ⟨x, x1, x2, ?_⟩)
        apply Classical.byContradiction
        intro e'
        exact x3 (by rw [a1 x x1, if_neg e'])
theorem rf_holdsT {v : Nat} (hN : 400 ≤ N) (hx : cxR S n so on tw d) (h : S.1 31 = nI W) (hW : W ≤ 60) (hv : v < W) (hf : f < n) (hM : mtR S W M) (hL : ∀ a, a < W → S.2.1 34 a = L a) (hb : b01 (S.2.1 38)) : ∃ S', zf_X11_holds_27 N z N (nI v) (nI f) 0 S = some (if tv so on tw W L M (f + 1) f v = true then 1 else 0, S') ∧ ag [] [38] [] S S' ∧ b01 (S'.2.1 38) := by
  have h300 := hx.2.2.2.2.1
  obtain ⟨T, ⟨t1, t2, t4⟩, t3⟩ := lp_i (F := fun fu j T => zf_X11_holds_27 N z fu (nI v) (nI f) j T) (n := f + 1) (I := fun k T => ag [] [38] [] S T ∧ b01 (T.2.1 38) ∧ trR T so on tw W L M k 0) (G := fun T => some (T.2.1 38 (60 * f + v), T)) (fun fu T hI => by
    show zf_X11_holds_27b N z _ (nI v) (nI f) (nI (f + 1)) T = _
    unfold zf_X11_holds_27b
    rw [if_pos (nI_lt (by omega) (by omega)), e60, mq_ck_of (vp_in_nI (by omega) (by omega)), nI_clamp (by omega)]
    rcases hI.2.1 (60 * f + v) with e | e
    · rw [e, mq_cz_0]
    · rw [e, mq_cz_1]) (fun fu j T hj hI => by
    obtain ⟨T', ⟨a1, a2, a3⟩, a4⟩ := lp_i (F := fun fu2 q T => zf_X11_holds_35 N z (fun v1 v2 v3 S => zf_X11_holds_27 N z fu v1 v2 v3 S) fu2 (nI v) (nI f) (nI j) q T) (n := W) (I := fun q T' => ag [] [38] [] S T' ∧ b01 (T'.2.1 38) ∧ trR T' so on tw W L M j q) (G := fun T => zf_X11_holds_27 N z fu (nI v) (nI f) (nI (j + 1)) T) (fun fu2 T hJ => by
      show zf_X11_holds_35b N z _ _ (nI v) (nI f) (nI j) (nI W) T = _
      unfold zf_X11_holds_35b
      rw [hJ.1.1 31 (by decide), h, if_pos (nI_le (Nat.le_refl _) (by omega)), nI_e, nI_1]) (fun fu2 q T hq hJ => by
      obtain ⟨j1, j2, j3⟩ := hJ
      have hxT : cxR T n so on tw d := cxR_c hx (j1.1 3 (by decide)) (j1.2.1 2 (by decide)) (j1.2.1 3 (by decide)) (j1.2.1 4 (by decide))
      have hT : T.1 31 = nI W := (j1.1 31 (by decide)).trans h
      have hr := rt_T (N := N) (z := z) (S := T) (w := q) (f := j) (M := M) (L := L) (by omega) hxT hT hW hq (by omega) (fun a b ha hb => by rw [j1.2.1 35 (by decide)]; exact hM a b ha hb) (fun a ha => by rw [j1.2.1 34 (by decide)]; exact hL a ha) (fun g x hx' p => j3 g x hx' (by omega))
      refine ⟨mq_sa T 38 (upd (T.2.1 38) (60 * j + q) (if tv so on tw W L M (j + 1) j q = true then 1 else 0)), ⟨ag_tr j1 (ag_sa (by decide)), fun y => ?_, fun g x hx' p => ?_⟩, ?_⟩
      · show upd (T.2.1 38) (60 * j + q) _ y = 0 ∨ upd (T.2.1 38) (60 * j + q) _ y = 1
        by_cases e : y = 60 * j + q
        · rw [e, up_s]
          split
          · exact Or.inr rfl
          · exact Or.inl rfl
        · rw [up_o e]; exact j2 y
      · show upd (T.2.1 38) (60 * j + q) _ (60 * g + x) = _
        by_cases e : g = j ∧ x = q
        · rw [e.1, e.2, up_s]
        · rw [up_o (by rw [i60 (by omega) (by omega)]; exact e)]
          refine j3 g x hx' (p.imp id (fun p => ⟨p.1, ?_⟩))
          have := p.2
          by_cases e' : x = q
          · exact absurd ⟨p.1, e'⟩ e
          · omega
      · show zf_X11_holds_35b N z (fun v1 v2 v3 S => zf_X11_holds_27 N z fu v1 v2 v3 S) (fun v1 v2 v3 v4 S => zf_X11_holds_35 N z (fun v1 v2 v3 S => zf_X11_holds_27 N z fu v1 v2 v3 S) fu2 v1 v2 v3 v4 S) (nI v) (nI f) (nI j) (nI q) T = _
        unfold zf_X11_holds_35b
        rw [hT, if_neg (nI_ge hq (by omega)), hr, mq_cp_s, e60, mq_ck_of (vp_in_nI (by omega) (by omega)), nI_clamp (by omega), nb_b, nS_e, nI_e, nI_1]) N 0 T (by omega) (by omega) hI
    refine ⟨T', ⟨a1, a2, fun g x hx' p => a3 g x hx' (by omega)⟩, ?_⟩
    show zf_X11_holds_27b N z (fun v1 v2 v3 S => zf_X11_holds_27 N z fu v1 v2 v3 S) (nI v) (nI f) (nI j) T = _
    unfold zf_X11_holds_27b
    rw [if_neg (nI_nlt (by omega) (by omega)), nI_e]
    exact a4) N 0 S (by omega) (by omega) ⟨ag_rf, hb, fun g x hx' p => by omega⟩
  refine ⟨T, ?_, t1, t2⟩
  rw [← t4 f v hv (Or.inl (by omega))]
  exact t3
end RTRUTH
end
/-! auk.holds3 -/
section
/-! holds(): class and reference alike; what the class has reckoned stays right. -/
section HOLDS3
variable {N n : Nat} {z : Nat → Nat} {so on tw so' on' tw' : Nat → Int32} {d : Nat → Nat} {S S' SC SR : mq_St} {W t f g : Nat} {L : Nat → Int32} {M : Nat → Nat → Bool}
theorem tv_c (h : fw n so on tw d) (e : ∀ f, f < n → so' f = so f ∧ on' f = on f ∧ tw' f = tw f) : ∀ (k g : Nat), g < n → ∀ w, tv so' on' tw' W L M k g w = tv so on tw W L M k g w
  | 0, g, _, w => rfl
  | k + 1, g, hg, w => by
    obtain ⟨s, hs, es⟩ := fw_so h hg
    obtain ⟨e1, e2, e3⟩ := e g hg
    have es' : so' g = nI s := e1.trans es
    have p1' : p1 on' g = p1 on g := by unfold p1; rw [e2]
    have p2' : p1 tw' g = p1 tw g := by unfold p1; rw [e3]
    have q1 : 4 ≤ s → ∀ w, tv so' on' tw' W L M k (p1 on g) w = tv so on tw W L M k (p1 on g) w := fun h4 w => by
      obtain ⟨w1, -, -, -⟩ := fw_1 h hg es h4 hs
      exact tv_c h e k (p1 on g) (by omega) w
    have q2 : 4 ≤ s → s ≤ 5 → ∀ w, tv so' on' tw' W L M k (p1 tw g) w = tv so on tw W L M k (p1 tw g) w := fun h4 h5 w => by
      obtain ⟨-, -, w3, -⟩ := fw_1 h hg es h4 hs
      have := (w3 h5).1
      exact tv_c h e k (p1 tw g) (by omega) w
    have c : s = 0 ∨ s = 1 ∨ s = 2 ∨ s = 3 ∨ s = 4 ∨ s = 5 ∨ s = 6 ∨ s = 7 := by omega
    rcases c with rfl | rfl | rfl | rfl | rfl | rfl | rfl | rfl
    · rw [tv_0 es, tv_0 es']
    · rw [tv_1 es, tv_1 es']
    · rw [tv_2 es, tv_2 es', p1']
    · rw [tv_3 es, tv_3 es', p1']
    · rw [tv_4 es, tv_4 es', p1', p2', q1 (by omega), q2 (by omega) (by omega)]
    · rw [tv_5 es, tv_5 es', p1', p2', q1 (by omega), q2 (by omega) (by omega)]
    · rw [tv_6 es, tv_6 es', p1']
      simp only [q1 (by omega)]
    · rw [tv_7 es, tv_7 es', p1']
      simp only [q1 (by omega)]
/-- what the class has reckoned is right -/
def cac (S : mq_St) : Prop := ∃ n W t, S.1 2 = nI n ∧ n ≤ 300 ∧ S.1 23 = nI W ∧ W ≤ 60 ∧ S.1 22 = nI t ∧ t ≤ n ∧ tcC S (S.2.1 4) (S.2.1 5) (S.2.1 6) W (S.2.1 23) (fun a b => sbi (S.2.2 7 a) b) t
/-- the table has grown, its old entries stand -/
def ext (S S' : mq_St) : Prop := ∃ n n', S.1 2 = nI n ∧ S'.1 2 = nI n' ∧ n ≤ n' ∧ n' ≤ 300 ∧ ∀ f, f < n → S'.2.1 4 f = S.2.1 4 f ∧ S'.2.1 5 f = S.2.1 5 f ∧ S'.2.1 6 f = S.2.1 6 f
theorem cac_0 (hn : S.1 2 = nI n) (hn3 : n ≤ 300) (hW : W ≤ 60) (h : S.1 23 = nI W) (h0 : S.1 22 = 0) : cac S := ⟨n, W, 0, hn, hn3, h, hW, h0, by omega, fun g hg => by omega⟩
theorem cac_c (h : cac S) (e2 : S'.1 2 = S.1 2) (e4 : S'.2.1 4 = S.2.1 4) (e5 : S'.2.1 5 = S.2.1 5) (e6 : S'.2.1 6 = S.2.1 6) (f2 : S'.1 22 = S.1 22) (f3 : S'.1 23 = S.1 23) (g3 : S'.2.1 23 = S.2.1 23) (l7 : S'.2.2 7 = S.2.2 7) (l9 : S'.2.2 9 = S.2.2 9) : cac S' := by
  unfold cac tcC at h ⊢
  rw [e2, e4, e5, e6, f2, f3, g3, l7, l9]; exact h
theorem cac_x (hc : cxC S n so on tw d) (h : cac S) (e : ext S S') (f2 : S'.1 22 = S.1 22) (f3 : S'.1 23 = S.1 23) (g3 : S'.2.1 23 = S.2.1 23) (l7 : S'.2.2 7 = S.2.2 7) (l9 : S'.2.2 9 = S.2.2 9) : cac S' := by
  obtain ⟨m, W, t, h1, h2, h3, h4, h5, h6, h7⟩ := h
  obtain ⟨k, k', x1, x2, x3, x4, x5⟩ := e
  have hn3 := hc.2.2.2.2.1
  have mn : m = n := sp_inj (h1.symm.trans hc.1) (by omega) (by omega)
  have kn : k = n := sp_inj (x1.symm.trans hc.1) (by omega) (by omega)
  subst mn
  subst kn
  have hfw : fw k (S.2.1 4) (S.2.1 5) (S.2.1 6) d := fw_cong hc.2.2.2 hc.2.1
  refine ⟨k', W, t, x2, x4, f3.trans h3, h4, f2.trans h5, by omega, fun g hg j hj => ?_⟩
  rw [l9, l7, g3, h7 g hg j hj]
  show (_ && tv (S.2.1 4) (S.2.1 5) (S.2.1 6) W (S.2.1 23) _ (g + 1) g j) = (_ && tv (S'.2.1 4) (S'.2.1 5) (S'.2.1 6) W (S.2.1 23) _ (g + 1) g j)
  rw [tv_c hfw x5 (g + 1) g (by omega) j]
theorem st_holds (v w : Int32) (hN : 400 ≤ N) (hF : ivF SC SR) (hmo : mo SC SR) (hca : cac SC) (hb : b01 (SR.2.1 38)) : ∃ r SC' q SR', zf_X10_holds N z v w SC = some (r, SC') ∧ zf_X11_holds N z v w SR = some (q, SR') ∧ ag [22] [] [9] SC SC' ∧ ag [0] [38] [] SR SR' ∧ cac SC' ∧ b01 (SR'.2.1 38) ∧ ((r = none ∧ SR'.1 0 = 1) ∨ (r = some q ∧ SR'.1 0 = 0)) := by
  obtain ⟨n, so, on, tw, d, hc, hx, -⟩ := ivF_cx hF
  obtain ⟨W, hW, h1, h2, hl, M0, mC0, mR0⟩ := id hmo
  have hn3 := hc.2.2.2.2.1
  obtain ⟨n', W', t, c1, c2, c3, c4, c5, c6, c7⟩ := id hca
  have en : n' = n := sp_inj (c1.symm.trans hc.1) (by omega) (by omega)
  have eW : W' = W := sp_inj (c3.symm.trans h1) (by omega) (by omega)
  subst en
  subst eW
  have hfw : fw n' (SC.2.1 4) (SC.2.1 5) (SC.2.1 6) d := fw_cong hc.2.2.2 hc.2.1
  have hcS : cxC SC n' (SC.2.1 4) (SC.2.1 5) (SC.2.1 6) d := ⟨hc.1, fun f hf => ⟨rfl, rfl, rfl, (hc.2.1 f hf).2.2.2⟩, fun s f hs hf => by
    rw [hc.2.2.1 s f hs hf, decide_eq_decide]
    exact ⟨fun q => ⟨q.1, (hc.2.1 f q.1).1.trans q.2⟩, fun q => ⟨q.1, (hc.2.1 f q.1).1.symm.trans q.2⟩⟩, hfw⟩
  have hxS : cxR SR n' (SC.2.1 4) (SC.2.1 5) (SC.2.1 6) d := ⟨hx.1, fun f hf => ⟨(hx.2.1 f hf).1.trans (hc.2.1 f hf).1.symm, (hx.2.1 f hf).2.1.trans (hc.2.1 f hf).2.1.symm, (hx.2.1 f hf).2.2.trans (hc.2.1 f hf).2.2.1.symm⟩, ⟨(hc.2.1 0 (by have := hfw.1; omega)).1.trans hx.2.2.1.1, (hc.2.1 1 (by have := hfw.1; omega)).1.trans hx.2.2.1.2⟩, hfw⟩
  have mR : mtR SR W' (fun a b => sbi (SC.2.2 7 a) b) := fun a b ha hb => by
    show _ = if sbi (SC.2.2 7 a) b = true then 1 else 0
    rw [mR0 a b ha hb, mC0 a b ha hb]
  unfold zf_X10_holds zf_X10_holds_22 zf_X11_holds
  rcases rf_w0 (N := N) (z := z) v h2 hW with b | ⟨k, hk, e, b⟩
  · have a : zf_X4_has N z v SC = some 0 := by
      rcases ck_hasw (N := N) (z := z) v h1 hW with a | ⟨k, hk, e, a⟩
      · exact a
      · exfalso
        rw [e, rf_w0' k h2 hW hk] at b
        injection b with b
        injection b with b _
        exact absurd b (by decide)
    rw [a, mq_cp_s, if_pos rfl, b, mq_cl_s, if_pos rfl, mq_cz_0]
    exact ⟨none, SC, 0, mq_si SR 0 1, rfl, rfl, ag_rf, ag_si (by decide), hca, hb, Or.inl ⟨rfl, rfl⟩⟩
  · subst e
    rw [ck_hasT h1 hW hk, mq_cp_s, if_neg (show ¬ (1 : Int32) = 0 by decide), ck_has, mq_cp_s, hc.1, b, mq_cl_s, if_neg (show ¬ (1 : Int32) = 0 by decide), rf_isF w (show (mq_si SR 0 0).1 3 = nI n' from hx.1) hn3, mq_cp_s]
    rcases mq_place w (t := n') (by omega) with q | ⟨f, hf, hv, q⟩
    · rw [if_pos q, if_pos rfl, if_pos rfl, nS_e, mq_cz_0]
      exact ⟨none, SC, 0, _, rfl, rfl, ag_rf, ag_tr (ag_si (by decide)) (ag_si (by decide)), hca, hb, Or.inl ⟨rfl, rfl⟩⟩
    · subst hv
      rw [if_neg q, if_neg (show ¬ (1 : Int32) = 0 by decide), if_neg (show ¬ (1 : Int32) = 0 by decide), nI_e]
      obtain ⟨S1, t', a1, a2, a3, a4, a5⟩ := ita_T (N := N) (z := z) (S := SC) (v := k) (f := f) (M := fun a b => sbi (SC.2.2 7 a) b) (L := SC.2.1 23) (W := W') (t := t) hN hcS h1 hW (fun _ _ _ _ => rfl) (fun _ _ => rfl) c5 c6 c7 hk hf
      obtain ⟨S2, b1, b2, b3⟩ := rf_holdsT (N := N) (z := z) (S := mq_si SR 0 0) (v := k) (f := f) (M := fun a b => sbi (SC.2.2 7 a) b) (L := SC.2.1 23) (W := W') hN (cxR_c hxS rfl rfl rfl rfl) h2 hW hk hf mR (fun a ha => (hl a ha).symm) hb
      have ca : cac S1 := ⟨n', W', t', (a2.1 2 (by decide)).trans c1, c2, (a2.1 23 (by decide)).trans c3, c4, a3, a4, by rw [a2.2.1 4 (by decide), a2.2.1 5 (by decide), a2.2.1 6 (by decide), a2.2.1 23 (by decide), a2.2.2 7 (by decide)]; exact a5⟩
      rw [a1, mq_cl_s]
      refine ⟨some (if tv (SC.2.1 4) (SC.2.1 5) (SC.2.1 6) W' (SC.2.1 23) (fun a b => sbi (SC.2.2 7 a) b) (f + 1) f k = true then 1 else 0), S1, _, S2, ?_, b1, a2, ag_tr (ag_si (by decide)) (ag_mono b2 (by decide) (by decide) (by decide)), ca, b3, Or.inr ⟨rfl, b2.1 0 (by decide)⟩⟩
      split
      · rw [mq_cz_1]
      · rw [mq_cz_0]
end HOLDS3
end
/-! aul.read2 -/
section
/-! read(), with what it leaves of the table. -/
theorem tb_ext {S S' : mq_St} {L X : List En} (h : tbC S L) (h' : tbC S' (L ++ X)) : ext S S' := by
  refine ⟨L.length, (L ++ X).length, h.1, h'.1, by rw [List.length_append]; omega, h'.2.1, fun f hf => ?_⟩
  have a := h.2.2.1 f hf
  have b := h'.2.2.1 f (by rw [List.length_append]; omega)
  rw [List.getElem?_append_left hf, a] at b
  have b := Option.some.inj b
  exact ⟨(congrArg (fun q => q.1) b).symm, (congrArg (fun q => q.2.1) b).symm, (congrArg (fun q => q.2.2) b).symm⟩
theorem ext_r {SC SR : mq_St} (h : ivF SC SR) : ext SC SC := by
  obtain ⟨L, -, h2, -⟩ := h
  exact tb_ext (X := []) h2 (by rw [List.append_nil]; exact h2)
theorem st_read2 {N : Nat} {z : Nat → Nat} {SC SR : mq_St} (v : Int32) (pl : Bool) (hN : 20000 ≤ N) (ht : iv_tape (SC.1 0) (SC.2.1 2) (SR.1 1) (SR.2.1 0)) (hb : ivB (SR.2.1 0)) (hF : ivF SC SR) (hq : SC.1 11 = SR.1 4 ∧ SC.1 12 = SR.1 5) :
    ∃ r SC' SR', zf_X10_read N z v (if pl = true then 0 else 1) SC = some (r, SC') ∧ zf_X11_read N z v (if pl = true then 0 else 1) SR = some (r, SR') ∧ iv_tape (SC'.1 0) (SC'.2.1 2) (SR'.1 1) (SR'.2.1 0) ∧ ivF SC' SR' ∧ (SC'.1 11 = SR'.1 4 ∧ SC'.1 12 = SR'.1 5) ∧ ext SC SC' ∧ ag [0, 2, 3, 4, 5, 6, 7, 8, 9, 10, 11, 12] [0, 1, 2, 4, 5, 6, 7, 8, 9, 10, 11, 12, 13, 14] [0] SC SC' ∧ ag [0, 1, 3, 4, 5, 6, 7, 8, 9, 10, 11, 12, 13, 14, 15, 16, 17] [2, 3, 4, 5, 6, 7, 8, 9, 10, 11, 12, 13, 14] [] SR SR' := by
  have htall := ht
  obtain ⟨t, t4, tc, tr, tb⟩ := ht
  have e7 : (7 : Int32) = nI 8 - 1 := by decide
  have e8 : (8 : Int32) = nI 8 := rfl
  rcases mq_place v (t := 8) (by omega) with hv | ⟨s, hs, rfl, hv⟩
  · refine ⟨-1, SC, mq_si SR 0 0, ?_, ?_, htall, ivF_c hF rfl rfl rfl rfl rfl rfl rfl rfl rfl rfl rfl rfl rfl rfl, hq, ext_r hF, ag_rf, ag_si (by decide)⟩
    · unfold zf_X10_read
      rw [ck_isSlot, e8, if_pos hv, mq_cp_s, if_pos rfl]
    · unfold zf_X11_read
      rw [nS_e, rf_in, e7, if_pos ((mq_lst 8 (by omega) v).mpr hv), mq_cp_s, if_pos rfl]
  · obtain ⟨L, h1, h2, h3, h4, h5⟩ := hF
    have hF : ivF SC SR := ⟨L, h1, h2, h3, h4, h5⟩
    have hB : ∀ i, i < min t 400 → SR.2.1 0 i &&& 255 = nI (Bt (SC.2.1 2) i) ∧ Bt (SC.2.1 2) i < 256 ∧ ∀ w : Nat, w < 128 → (SR.2.1 0 i = nI w ↔ Bt (SC.2.1 2) i = w) := by
      intro i hi
      obtain ⟨a, b⟩ := bt_is (SC.2.1 2) i
      have e : SR.2.1 0 i &&& 255 = nI (Bt (SC.2.1 2) i) := by rw [← tb i (by omega), a]
      refine ⟨e, b, fun w hw => ?_⟩
      rw [by_eqv (hb i) hw, e]
      exact nI_eq (by omega) (by omega)
    obtain ⟨RF, RO⟩ := rf_read (N := N) (z := z) (S := SR) (pl := pl) hN hs tr t4 hB h3 h1.1
    obtain ⟨w, S1, d1, d2, d3, d4⟩ := ck_draw (N := N) (z := z) (pl := pl) (S := SC) (by omega) tc t4
    have t1 : S1.1 0 = nI t := (d4.1 0 (by decide)).trans tc
    have hk : zf_X0_keep N z 0 (mq_pull S1 [0] [2] []) = some (1, mq_si (mq_pull S1 [0] [2] []) 0 0) := by
      rw [by_keep, if_neg]
      rintro (q | q)
      · exact absurd q (by decide)
      · have q : S1.1 0 < 0 := q
        rw [t1] at q
        exact nI_pos (by omega) q
    let S2 : mq_St := mq_push S1 (mq_si (mq_pull S1 [0] [2] []) 0 0) [0] [2] []
    have g2 : ag [0] [2] [] S1 S2 := ag_push
    have k2 : S2.1 0 = 0 := rfl
    have g02 : ag [0, 2, 3, 4, 5, 6, 7, 8, 9, 10, 11, 12] [0, 1, 2, 4, 5, 6, 7, 8, 9, 10, 11, 12, 13, 14] [0] SC S2 := ag_tr (ag_mono d4 (by decide) (by decide) (by decide)) (ag_mono g2 (by decide) (by decide) (by decide))
    have E : zf_X10_read N z (nI s) (if pl = true then 0 else 1) SC = (if w = -1 then some (-2, S2) else mq_cl (zf_X10_fill N z (nI s) w S2) (fun q S12 => if q = 0 then mq_cl (zf_X5_fail N z 4 (-1) S12) (fun _ S16 => some (-2, S16)) else mq_ck (nI s) 8 (some (S12.2.1 0 (nI s).toNatClampNeg, S12)))) := by
      unfold zf_X10_read
      rw [ck_isSlot, e8, if_neg hv, mq_cp_s, if_neg (by decide), d1, mq_cl_s, nI_e, hk, mq_cl_s, nS_e]
    have emp : ∀ {SC' SR' : mq_St}, SC'.1 0 = 0 → SR'.1 1 = 0 → iv_tape (SC'.1 0) (SC'.2.1 2) (SR'.1 1) (SR'.2.1 0) := fun a b => ⟨0, by omega, a, b, fun i hi => by omega⟩
    have sC : tbC S2 L := tbC_c h2 (d4.1 2 (by decide)) (d4.2.1 4 (by decide)) (d4.2.1 5 (by decide)) (d4.2.1 6 (by decide)) (d4.2.2 0 (by decide))
    by_cases hz : (fiA pl (Bt (SC.2.1 2)) t N).1 = 0
    · obtain ⟨x11, x12, xv, xw, W, xd, xr, xu⟩ := d2 hz
      rw [if_neg xv] at E
      obtain ⟨RA, RB⟩ := RO hz
      have xd2 : dft S2 W := dft_c xd (g2.1 3 (by decide)) (g2.1 4 (by decide)) (g2.2.1 8 (by decide)) (g2.2.1 9 (by decide)) (g2.2.1 10 (by decide)) (g2.2.1 11 (by decide))
      obtain ⟨FA, FB⟩ := ck_fill (N := N) (z := z) (S := S2) (W := W) (L := L) (v := w) (s := s) (by omega) hs xd2 xr xw xu sC h1 (fun f hf => by
        show S1.2.1 7 f = _
        rw [d4.2.1 7 (by decide)]
        exact h4 f hf)
      generalize htr : (fiA pl (Bt (SC.2.1 2)) t N).2.2 = tt at *
      by_cases hlen : (mk (du tt) (mk tt L).2).2.length ≤ 300
      · obtain ⟨SC', a1, a2, a3, a4, a5, a6, a7⟩ := FA hlen
        obtain ⟨SR', b1, b2, b3, b4, b5, b6, b7, b8⟩ := RA hlen
        obtain ⟨X1, hX1⟩ := mk_ext tt L
        obtain ⟨X2, hX2⟩ := mk_ext (du tt) (mk tt L).2
        have eL : (mk (du tt) (mk tt L).2).2 = L ++ (X1 ++ X2) := by rw [hX2, hX1, List.append_assoc]
        have py : pr tt (mk (du tt) (mk tt L).2).2 (mk tt L).1 := by rw [hX2]; exact pr_mono (pr_mk tt L) X2
        have pn := pr_mk (du tt) (mk tt L).2
        have ylt := pr_lt xw a3.1 py
        have ddy := dd_is a3.1 (by omega) xw py pn
        have s0 : S2.2.1 0 = SC.2.1 0 := d4.2.1 0 (by decide)
        have s1 : S2.2.1 1 = SC.2.1 1 := d4.2.1 1 (by decide)
        rw [a1, mq_cl_s, if_neg (show ¬ (1 : Int32) = 0 by decide), mq_ck_of (vp_in_nI hs (by omega)), nI_clamp (by omega), a5, up_s] at E
        refine ⟨_, SC', SR', E, b1, emp ((a7.1 0 (by decide)).trans k2) b4, ⟨_, a3, a2, b5, a4, fun j hj => ?_⟩, ⟨?_, ?_⟩, tb_ext (X := X1 ++ X2) h2 (by rw [← eL]; exact a2), ag_tr g02 (ag_mono a7 (by decide) (by decide) (by decide)), b8⟩
        · rw [a5, a6, b6, b7, s0, s1]
          unfold upd
          by_cases e : j = s
          · simp only [if_pos e]
            exact ⟨trivial, trivial, Or.inr ⟨_, ylt, rfl, by rw [ddy]⟩⟩
          · simp only [if_neg e]
            obtain ⟨q1, q2, q3⟩ := h5 j hj
            refine ⟨q1, q2, ?_⟩
            rcases q3 with q3 | ⟨f, hf, f1, f2⟩
            · exact Or.inl q3
            · refine Or.inr ⟨f, by rw [eL, List.length_append]; omega, f1, ?_⟩
              rw [eL] at hlen ⊢
              rw [dd_old h1 (by omega) hf]
              exact f2
        · rw [b2, a7.1 11 (by decide)]
          exact (g2.1 11 (by decide)).trans x11
        · rw [b3, a7.1 12 (by decide)]
          exact (g2.1 12 (by decide)).trans x12
      · obtain ⟨S3, a1, a2, a3, a4⟩ := FB (by omega)
        obtain ⟨SR', b1, b2, b3, b4, b5, b6, b7, b8⟩ := RB (by omega)
        have s0 : S3.2.1 0 = SC.2.1 0 := (a4.2.1 0 (by decide)).trans (d4.2.1 0 (by decide))
        have s1 : S3.2.1 1 = SC.2.1 1 := (a4.2.1 1 (by decide)).trans (d4.2.1 1 (by decide))
        have hfl : zf_X5_fail N z 4 (-1) S3 = some ((), mq_si (mq_si S3 11 4) 12 (-1)) := by unfold zf_X5_fail; rw [nS_e, nS_e]
        rw [a1, mq_cl_s, if_pos rfl, hfl, mq_cl_s] at E
        refine ⟨-2, _, SR', E, b1, emp ((a4.1 0 (by decide)).trans k2) b4, ⟨L, h1, tbC_c a2 rfl rfl rfl rfl rfl, b5, a3, ?_⟩, ⟨?_, ?_⟩, tb_ext (X := []) h2 (by rw [List.append_nil]; exact tbC_c a2 rfl rfl rfl rfl rfl), ag_tr (ag_tr (ag_tr g02 (ag_mono a4 (by decide) (by decide) (by decide))) (ag_si (by decide))) (ag_si (by decide)), b8⟩
        · show ∀ j, j < 8 → S3.2.1 0 j = SR'.2.1 5 j ∧ S3.2.1 1 j = SR'.2.1 6 j ∧ ((S3.2.1 0 j = -1 ∧ S3.2.1 1 j = -1) ∨ ∃ f, f < L.length ∧ S3.2.1 0 j = nI f ∧ S3.2.1 1 j = nI (dd L f))
          rw [s0, s1, b6, b7]
          exact h5
        · rw [b2]; rfl
        · rw [b3]; rfl
    · obtain ⟨xv, x11, x12⟩ := d3 hz
      obtain ⟨SR', b1, b2, b3, b4, b5, b6, b7, b8⟩ := RF hz
      rw [if_pos xv] at E
      have s0 : S2.2.1 0 = SC.2.1 0 := d4.2.1 0 (by decide)
      have s1 : S2.2.1 1 = SC.2.1 1 := d4.2.1 1 (by decide)
      refine ⟨-2, S2, SR', E, b1, emp k2 b4, ⟨L, h1, sC, b5, fun f hf => ?_, ?_⟩, ⟨?_, ?_⟩, tb_ext (X := []) h2 (by rw [List.append_nil]; exact sC), g02, b8⟩
      · show S1.2.1 7 f = _
        rw [d4.2.1 7 (by decide)]
        exact h4 f hf
      · rw [s0, s1, b6, b7]
        exact h5
      · rw [b2]; exact x11
      · rw [b3]; exact x12
end
/-! av.inv2 -/
section
/-! What class and reference keep together, with the models. -/
def In2 (SC SR : mq_St) : Prop := iv_tape (SC.1 0) (SC.2.1 2) (SR.1 1) (SR.2.1 0) ∧ iv_tape (SC.1 1) (SC.2.1 3) (SR.1 2) (SR.2.1 1) ∧ ivB (SR.2.1 0) ∧ ivF SC SR ∧ (SC.1 11 = SR.1 4 ∧ SC.1 12 = SR.1 5) ∧ ivP SC SR ∧ ivL SC ∧ mdC SC ∧ mdR SR ∧ cn4 SC SR ∧ b01 (SR.2.1 38) ∧ mo SC SR
section INV2
variable {N : Nat} {z : Nat → Nat} {SC SR : mq_St}
theorem st_sees (v w : Int32) (hm : mo SC SR) : ∃ r q SR', zf_X10_sees N z v w SC = some (r, SC) ∧ zf_X11_sees N z v w SR = some (q, SR') ∧ ag [0] [] [] SR SR' ∧ ((r = none ∧ SR'.1 0 = 1) ∨ (r = some q ∧ SR'.1 0 = 0)) := by
  obtain ⟨W, hW, h1, h2, hl, M, mC, mR⟩ := id hm
  unfold zf_X10_sees zf_X10_sees_22 zf_X11_sees
  have no : ∀ v : Int32, zf_X11_world0 N z v SR = some (0, mq_si SR 0 1) → zf_X4_has N z v SC = some 0 := fun v b => by
    rcases ck_hasw (N := N) (z := z) v h1 hW with a | ⟨k, hk, e, a⟩
    · exact a
    · exfalso
      rw [e, rf_w0' k h2 hW hk] at b
      injection b with b
      injection b with b _
      exact absurd b (by decide)
  rcases rf_w0 (N := N) (z := z) v h2 hW with b | ⟨k, hk, e, b⟩
  · rw [no v b, mq_cp_s, if_pos rfl, b, mq_cl_s, if_pos rfl, mq_cz_0]
    exact ⟨none, 0, mq_si SR 0 1, rfl, rfl, ag_si (by decide), Or.inl ⟨rfl, rfl⟩⟩
  · subst e
    have h2' : (mq_si SR 0 0).1 31 = nI W := h2
    rw [ck_hasT h1 hW hk, mq_cp_s, if_neg (by decide), b, mq_cl_s, if_neg (by decide)]
    rcases rf_w0 (N := N) (z := z) (S := mq_si SR 0 0) w h2' hW with b' | ⟨k', hk', e', b'⟩
    · have no' : zf_X4_has N z w SC = some 0 := by
        rcases ck_hasw (N := N) (z := z) w h1 hW with a | ⟨k, hk, e, a⟩
        · exact a
        · exfalso
          rw [e, rf_w0' k h2' hW hk] at b'
          injection b' with b'
          injection b' with b' _
          exact absurd b' (by decide)
      rw [no', mq_cp_s, if_pos rfl, b', mq_cl_s, if_pos rfl, mq_cz_0]
      exact ⟨none, 0, mq_si (mq_si SR 0 0) 0 1, rfl, rfl, ag_tr (ag_si (by decide)) (ag_si (by decide)), Or.inl ⟨rfl, rfl⟩⟩
    · subst e'
      have v35 : (mq_si (mq_si SR 0 0) 0 0).2.1 35 (60 * k + k') = if M k k' = true then 1 else 0 := mR k k' hk hk'
      rw [ck_hasT h1 hW hk', mq_cp_s, if_neg (show ¬ (1 : Int32) = 0 by decide), ck_seenT h1 hW hk hk', mq_cp_s, mC k k' hk hk', b', mq_cl_s, if_neg (show ¬ (1 : Int32) = 0 by decide), e60, mq_ck_of (vp_in_nI (by omega) (by omega)), nI_clamp (by omega), v35, mq_cz_0, mq_cz_1]
      by_cases q : M k k' = true
      · rw [if_pos q, if_neg (show ¬ (1 : Int32) = 0 by decide), mq_cz_1]
        exact ⟨some 1, 1, _, rfl, rfl, ag_tr (ag_si (by decide)) (ag_si (by decide)), Or.inr ⟨rfl, rfl⟩⟩
      · rw [if_neg q, if_pos rfl, mq_cz_0]
        exact ⟨some 0, 0, _, rfl, rfl, ag_tr (ag_si (by decide)) (ag_si (by decide)), Or.inr ⟨rfl, rfl⟩⟩
theorem tv_feed (x1 : Int32) (x2 : Int32) (x3 : Int32) (x4 : Int32) (x5 : Int32) (hN : 300000 ≤ N) (i : In2 SC SR) : ∃ r SC' SR', zf_X10_feed N z x1 x2 x3 x4 x5 SC = some (r, SC') ∧ zf_X11_feed N z x1 x2 x3 x4 x5 SR = some (r, SR') ∧ In2 SC' SR' := by
  obtain ⟨r, SC', SR', e1, e2, h1, fC, fR⟩ := st_feed (N := N) (z := z) x1 x2 x3 x4 x5 (by omega) i.1
  exact ⟨r, SC', SR', e1, e2, ⟨h1, tp_c i.2.1 (fC.1 1 (by decide)) (fC.2.1 3 (by decide)) (fR.1 2 (by decide)) (fR.2.1 1 (by decide)), feed_B i.2.2.1 e2, ivF_k i.2.2.2.1 (fC.1 2 (by decide)) (fC.2.1 0 (by decide)) (fC.2.1 1 (by decide)) (fC.2.1 4 (by decide)) (fC.2.1 5 (by decide)) (fC.2.1 6 (by decide)) (fC.2.1 7 (by decide)) (fC.2.2 0 (by decide)) (fR.1 3 (by decide)) (fR.2.1 2 (by decide)) (fR.2.1 3 (by decide)) (fR.2.1 4 (by decide)) (fR.2.1 5 (by decide)) (fR.2.1 6 (by decide)), fa_c i.2.2.2.2.1 (fC.1 11 (by decide)) (fC.1 12 (by decide)) (fR.1 4 (by decide)) (fR.1 5 (by decide)), ivP_c i.2.2.2.2.2.1 (fC.1 25 (by decide)) (fC.2.1 28 (by decide)) (fR.1 29 (by decide)) (fR.1 30 (by decide)) (fR.2.1 32 (by decide)) (fR.2.1 33 (by decide)), ivL_c i.2.2.2.2.2.2.1 (fC.1 20 (by decide)), mdC_c i.2.2.2.2.2.2.2.1 (fC.1 23 (by decide)) (fC.1 22 (by decide)), mdR_c i.2.2.2.2.2.2.2.2.1 (fR.1 31 (by decide)), cn4_c i.2.2.2.2.2.2.2.2.2.1 (fC.2.1 21 (by decide)) (fR.1 19 (by decide)) (fR.1 20 (by decide)) (fR.1 21 (by decide)) (fR.1 22 (by decide)), (by rw [fR.2.1 38 (by decide)]; exact i.2.2.2.2.2.2.2.2.2.2.1), mo_c i.2.2.2.2.2.2.2.2.2.2.2 (fC.1 23 (by decide)) (fC.2.1 23 (by decide)) (fC.2.2 7 (by decide)) (fR.1 31 (by decide)) (fR.2.1 34 (by decide)) (fR.2.1 35 (by decide))⟩⟩
theorem tv_end (v : Int32) (hN : 300000 ≤ N) (i : In2 SC SR) : ∃ r SC' SR', zf_X10_end N z v SC = some (r, SC') ∧ zf_X11_end N z v SR = some (r, SR') ∧ In2 SC' SR' := by
  obtain ⟨r, SC', SR', e1, e2, h1, fC, fR⟩ := st_end (N := N) (z := z) v i.1
  exact ⟨r, SC', SR', e1, e2, ⟨h1, tp_c i.2.1 (fC.1 1 (by decide)) (fC.2.1 3 (by decide)) (fR.1 2 (by decide)) (fR.2.1 1 (by decide)), end_B i.2.2.1 e2, ivF_k i.2.2.2.1 (fC.1 2 (by decide)) (fC.2.1 0 (by decide)) (fC.2.1 1 (by decide)) (fC.2.1 4 (by decide)) (fC.2.1 5 (by decide)) (fC.2.1 6 (by decide)) (fC.2.1 7 (by decide)) (fC.2.2 0 (by decide)) (fR.1 3 (by decide)) (fR.2.1 2 (by decide)) (fR.2.1 3 (by decide)) (fR.2.1 4 (by decide)) (fR.2.1 5 (by decide)) (fR.2.1 6 (by decide)), fa_c i.2.2.2.2.1 (fC.1 11 (by decide)) (fC.1 12 (by decide)) (fR.1 4 (by decide)) (fR.1 5 (by decide)), ivP_c i.2.2.2.2.2.1 (fC.1 25 (by decide)) (fC.2.1 28 (by decide)) (fR.1 29 (by decide)) (fR.1 30 (by decide)) (fR.2.1 32 (by decide)) (fR.2.1 33 (by decide)), ivL_c i.2.2.2.2.2.2.1 (fC.1 20 (by decide)), mdC_c i.2.2.2.2.2.2.2.1 (fC.1 23 (by decide)) (fC.1 22 (by decide)), mdR_c i.2.2.2.2.2.2.2.2.1 (fR.1 31 (by decide)), cn4_c i.2.2.2.2.2.2.2.2.2.1 (fC.2.1 21 (by decide)) (fR.1 19 (by decide)) (fR.1 20 (by decide)) (fR.1 21 (by decide)) (fR.1 22 (by decide)), (by rw [fR.2.1 38 (by decide)]; exact i.2.2.2.2.2.2.2.2.2.2.1), mo_c i.2.2.2.2.2.2.2.2.2.2.2 (fC.1 23 (by decide)) (fC.2.1 23 (by decide)) (fC.2.2 7 (by decide)) (fR.1 31 (by decide)) (fR.2.1 34 (by decide)) (fR.2.1 35 (by decide))⟩⟩
theorem tv_take (hN : 300000 ≤ N) (i : In2 SC SR) : ∃ r SC' SR', zf_X10_take N z SC = some (r, SC') ∧ zf_X11_take N z SR = some (r, SR') ∧ In2 SC' SR' := by
  obtain ⟨r, SC', SR', e1, e2, h1, h2, fC, fR⟩ := st_take (N := N) (z := z) (by omega) i.2.1
  exact ⟨r, SC', SR', e1, e2, ⟨h1, h2, take_B i.2.2.1 e2, ivF_k i.2.2.2.1 (fC.1 2 (by decide)) (fC.2.1 0 (by decide)) (fC.2.1 1 (by decide)) (fC.2.1 4 (by decide)) (fC.2.1 5 (by decide)) (fC.2.1 6 (by decide)) (fC.2.1 7 (by decide)) (fC.2.2 0 (by decide)) (fR.1 3 (by decide)) (fR.2.1 2 (by decide)) (fR.2.1 3 (by decide)) (fR.2.1 4 (by decide)) (fR.2.1 5 (by decide)) (fR.2.1 6 (by decide)), fa_c i.2.2.2.2.1 (fC.1 11 (by decide)) (fC.1 12 (by decide)) (fR.1 4 (by decide)) (fR.1 5 (by decide)), ivP_c i.2.2.2.2.2.1 (fC.1 25 (by decide)) (fC.2.1 28 (by decide)) (fR.1 29 (by decide)) (fR.1 30 (by decide)) (fR.2.1 32 (by decide)) (fR.2.1 33 (by decide)), ivL_c i.2.2.2.2.2.2.1 (fC.1 20 (by decide)), mdC_c i.2.2.2.2.2.2.2.1 (fC.1 23 (by decide)) (fC.1 22 (by decide)), mdR_c i.2.2.2.2.2.2.2.2.1 (fR.1 31 (by decide)), cn4_c i.2.2.2.2.2.2.2.2.2.1 (fC.2.1 21 (by decide)) (fR.1 19 (by decide)) (fR.1 20 (by decide)) (fR.1 21 (by decide)) (fR.1 22 (by decide)), (by rw [fR.2.1 38 (by decide)]; exact i.2.2.2.2.2.2.2.2.2.2.1), mo_c i.2.2.2.2.2.2.2.2.2.2.2 (fC.1 23 (by decide)) (fC.2.1 23 (by decide)) (fC.2.2 7 (by decide)) (fR.1 31 (by decide)) (fR.2.1 34 (by decide)) (fR.2.1 35 (by decide))⟩⟩
theorem tv_alter (v : Int32) (w : Int32) (hN : 300000 ≤ N) (i : In2 SC SR) : ∃ r SC' SR', zf_X10_alter N z v w SC = some (r, SC') ∧ zf_X11_alter N z v w SR = some (r, SR') ∧ In2 SC' SR' := by
  obtain ⟨r, SC', SR', e1, e2, h1, fC, fR⟩ := st_alter (N := N) (z := z) v w i.1
  exact ⟨r, SC', SR', e1, e2, ⟨h1, tp_c i.2.1 (fC.1 1 (by decide)) (fC.2.1 3 (by decide)) (fR.1 2 (by decide)) (fR.2.1 1 (by decide)), alter_B i.2.2.1 e2, ivF_k i.2.2.2.1 (fC.1 2 (by decide)) (fC.2.1 0 (by decide)) (fC.2.1 1 (by decide)) (fC.2.1 4 (by decide)) (fC.2.1 5 (by decide)) (fC.2.1 6 (by decide)) (fC.2.1 7 (by decide)) (fC.2.2 0 (by decide)) (fR.1 3 (by decide)) (fR.2.1 2 (by decide)) (fR.2.1 3 (by decide)) (fR.2.1 4 (by decide)) (fR.2.1 5 (by decide)) (fR.2.1 6 (by decide)), fa_c i.2.2.2.2.1 (fC.1 11 (by decide)) (fC.1 12 (by decide)) (fR.1 4 (by decide)) (fR.1 5 (by decide)), ivP_c i.2.2.2.2.2.1 (fC.1 25 (by decide)) (fC.2.1 28 (by decide)) (fR.1 29 (by decide)) (fR.1 30 (by decide)) (fR.2.1 32 (by decide)) (fR.2.1 33 (by decide)), ivL_c i.2.2.2.2.2.2.1 (fC.1 20 (by decide)), mdC_c i.2.2.2.2.2.2.2.1 (fC.1 23 (by decide)) (fC.1 22 (by decide)), mdR_c i.2.2.2.2.2.2.2.2.1 (fR.1 31 (by decide)), cn4_c i.2.2.2.2.2.2.2.2.2.1 (fC.2.1 21 (by decide)) (fR.1 19 (by decide)) (fR.1 20 (by decide)) (fR.1 21 (by decide)) (fR.1 22 (by decide)), (by rw [fR.2.1 38 (by decide)]; exact i.2.2.2.2.2.2.2.2.2.2.1), mo_c i.2.2.2.2.2.2.2.2.2.2.2 (fC.1 23 (by decide)) (fC.2.1 23 (by decide)) (fC.2.2 7 (by decide)) (fR.1 31 (by decide)) (fR.2.1 34 (by decide)) (fR.2.1 35 (by decide))⟩⟩
theorem tv_out (v : Int32) (hN : 300000 ≤ N) (i : In2 SC SR) : ∃ r SR', zf_X10_out N z v SC = some r ∧ zf_X11_out N z v SR = some (r, SR') ∧ In2 SC SR' := by
  obtain ⟨r, SR', e1, e2, fR⟩ := st_out (N := N) (z := z) v i.2.1
  have fC : ag [] [] [] SC SC := ag_rf
  exact ⟨r, SR', e1, e2, ⟨tp_c i.1 (fC.1 0 (by decide)) (fC.2.1 2 (by decide)) (fR.1 1 (by decide)) (fR.2.1 0 (by decide)), tp_c i.2.1 (fC.1 1 (by decide)) (fC.2.1 3 (by decide)) (fR.1 2 (by decide)) (fR.2.1 1 (by decide)), (by rw [fR.2.1 0 (by decide)]; exact i.2.2.1), ivF_k i.2.2.2.1 (fC.1 2 (by decide)) (fC.2.1 0 (by decide)) (fC.2.1 1 (by decide)) (fC.2.1 4 (by decide)) (fC.2.1 5 (by decide)) (fC.2.1 6 (by decide)) (fC.2.1 7 (by decide)) (fC.2.2 0 (by decide)) (fR.1 3 (by decide)) (fR.2.1 2 (by decide)) (fR.2.1 3 (by decide)) (fR.2.1 4 (by decide)) (fR.2.1 5 (by decide)) (fR.2.1 6 (by decide)), fa_c i.2.2.2.2.1 (fC.1 11 (by decide)) (fC.1 12 (by decide)) (fR.1 4 (by decide)) (fR.1 5 (by decide)), ivP_c i.2.2.2.2.2.1 (fC.1 25 (by decide)) (fC.2.1 28 (by decide)) (fR.1 29 (by decide)) (fR.1 30 (by decide)) (fR.2.1 32 (by decide)) (fR.2.1 33 (by decide)), ivL_c i.2.2.2.2.2.2.1 (fC.1 20 (by decide)), mdC_c i.2.2.2.2.2.2.2.1 (fC.1 23 (by decide)) (fC.1 22 (by decide)), mdR_c i.2.2.2.2.2.2.2.2.1 (fR.1 31 (by decide)), cn4_c i.2.2.2.2.2.2.2.2.2.1 (fC.2.1 21 (by decide)) (fR.1 19 (by decide)) (fR.1 20 (by decide)) (fR.1 21 (by decide)) (fR.1 22 (by decide)), (by rw [fR.2.1 38 (by decide)]; exact i.2.2.2.2.2.2.2.2.2.2.1), mo_c i.2.2.2.2.2.2.2.2.2.2.2 (fC.1 23 (by decide)) (fC.2.1 23 (by decide)) (fC.2.2 7 (by decide)) (fR.1 31 (by decide)) (fR.2.1 34 (by decide)) (fR.2.1 35 (by decide))⟩⟩
theorem tv_read (v : Int32) (pl : Bool) (hN : 300000 ≤ N) (i : In2 SC SR) : ∃ r SC' SR', zf_X10_read N z v (if pl = true then 0 else 1) SC = some (r, SC') ∧ zf_X11_read N z v (if pl = true then 0 else 1) SR = some (r, SR') ∧ In2 SC' SR' := by
  obtain ⟨r, SC', SR', e1, e2, h1, h2, h3, fC, fR⟩ := st_read (N := N) (z := z) v pl (by omega) i.1 i.2.2.1 i.2.2.2.1 i.2.2.2.2.1
  exact ⟨r, SC', SR', e1, e2, ⟨h1, tp_c i.2.1 (fC.1 1 (by decide)) (fC.2.1 3 (by decide)) (fR.1 2 (by decide)) (fR.2.1 1 (by decide)), (by rw [fR.2.1 0 (by decide)]; exact i.2.2.1), h2, h3, ivP_c i.2.2.2.2.2.1 (fC.1 25 (by decide)) (fC.2.1 28 (by decide)) (fR.1 29 (by decide)) (fR.1 30 (by decide)) (fR.2.1 32 (by decide)) (fR.2.1 33 (by decide)), ivL_c i.2.2.2.2.2.2.1 (fC.1 20 (by decide)), mdC_c i.2.2.2.2.2.2.2.1 (fC.1 23 (by decide)) (fC.1 22 (by decide)), mdR_c i.2.2.2.2.2.2.2.2.1 (fR.1 31 (by decide)), cn4_c i.2.2.2.2.2.2.2.2.2.1 (fC.2.1 21 (by decide)) (fR.1 19 (by decide)) (fR.1 20 (by decide)) (fR.1 21 (by decide)) (fR.1 22 (by decide)), (by rw [fR.2.1 38 (by decide)]; exact i.2.2.2.2.2.2.2.2.2.2.1), mo_c i.2.2.2.2.2.2.2.2.2.2.2 (fC.1 23 (by decide)) (fC.2.1 23 (by decide)) (fC.2.2 7 (by decide)) (fR.1 31 (by decide)) (fR.2.1 34 (by decide)) (fR.2.1 35 (by decide))⟩⟩
theorem tv_fault (v : Int32) (hN : 300000 ≤ N) (i : In2 SC SR) : ∃ r SR', zf_X10_fault N z v SC = some r ∧ zf_X11_fault N z v SR = some (r, SR') ∧ In2 SC SR' := by
  obtain ⟨r, SR', e1, e2, fR⟩ := st_fault (N := N) (z := z) v i.2.2.2.2.1
  have fC : ag [] [] [] SC SC := ag_rf
  exact ⟨r, SR', e1, e2, ⟨tp_c i.1 (fC.1 0 (by decide)) (fC.2.1 2 (by decide)) (fR.1 1 (by decide)) (fR.2.1 0 (by decide)), tp_c i.2.1 (fC.1 1 (by decide)) (fC.2.1 3 (by decide)) (fR.1 2 (by decide)) (fR.2.1 1 (by decide)), (by rw [fR.2.1 0 (by decide)]; exact i.2.2.1), ivF_k i.2.2.2.1 (fC.1 2 (by decide)) (fC.2.1 0 (by decide)) (fC.2.1 1 (by decide)) (fC.2.1 4 (by decide)) (fC.2.1 5 (by decide)) (fC.2.1 6 (by decide)) (fC.2.1 7 (by decide)) (fC.2.2 0 (by decide)) (fR.1 3 (by decide)) (fR.2.1 2 (by decide)) (fR.2.1 3 (by decide)) (fR.2.1 4 (by decide)) (fR.2.1 5 (by decide)) (fR.2.1 6 (by decide)), fa_c i.2.2.2.2.1 (fC.1 11 (by decide)) (fC.1 12 (by decide)) (fR.1 4 (by decide)) (fR.1 5 (by decide)), ivP_c i.2.2.2.2.2.1 (fC.1 25 (by decide)) (fC.2.1 28 (by decide)) (fR.1 29 (by decide)) (fR.1 30 (by decide)) (fR.2.1 32 (by decide)) (fR.2.1 33 (by decide)), ivL_c i.2.2.2.2.2.2.1 (fC.1 20 (by decide)), mdC_c i.2.2.2.2.2.2.2.1 (fC.1 23 (by decide)) (fC.1 22 (by decide)), mdR_c i.2.2.2.2.2.2.2.2.1 (fR.1 31 (by decide)), cn4_c i.2.2.2.2.2.2.2.2.2.1 (fC.2.1 21 (by decide)) (fR.1 19 (by decide)) (fR.1 20 (by decide)) (fR.1 21 (by decide)) (fR.1 22 (by decide)), (by rw [fR.2.1 38 (by decide)]; exact i.2.2.2.2.2.2.2.2.2.2.1), mo_c i.2.2.2.2.2.2.2.2.2.2.2 (fC.1 23 (by decide)) (fC.2.1 23 (by decide)) (fC.2.2 7 (by decide)) (fR.1 31 (by decide)) (fR.2.1 34 (by decide)) (fR.2.1 35 (by decide))⟩⟩
theorem tv_set (v : Int32) (w : Int32) (hN : 300000 ≤ N) (i : In2 SC SR) : ∃ r SC' SR', zf_X10_set N z v w SC = some (r, SC') ∧ zf_X11_set N z v w SR = some (r, SR') ∧ In2 SC' SR' := by
  obtain ⟨L, g1, g2, g3, fs⟩ := ivF_fs i.2.2.2.1
  obtain ⟨r, SC', SR', e1, e2, h1, fC, fR⟩ := st_set (N := N) (z := z) v w (by omega) fs
  have F' : ivF SC' SR' := by
    refine ⟨L, g1, ?_, ?_, fun f hf => (h1.2.2.2.1 f hf).2.2.2, h1.2.2.2.2⟩
    · unfold tbC at g2 ⊢
      rw [fC.1 2 (by decide), fC.2.1 4 (by decide), fC.2.1 5 (by decide), fC.2.1 6 (by decide), fC.2.2 0 (by decide)]; exact g2
    · unfold tbR at g3 ⊢
      rw [fR.1 3 (by decide), fR.2.1 2 (by decide), fR.2.1 3 (by decide), fR.2.1 4 (by decide)]; exact g3
  exact ⟨r, SC', SR', e1, e2, ⟨tp_c i.1 (fC.1 0 (by decide)) (fC.2.1 2 (by decide)) (fR.1 1 (by decide)) (fR.2.1 0 (by decide)), tp_c i.2.1 (fC.1 1 (by decide)) (fC.2.1 3 (by decide)) (fR.1 2 (by decide)) (fR.2.1 1 (by decide)), (by rw [fR.2.1 0 (by decide)]; exact i.2.2.1), F', fa_c i.2.2.2.2.1 (fC.1 11 (by decide)) (fC.1 12 (by decide)) (fR.1 4 (by decide)) (fR.1 5 (by decide)), ivP_c i.2.2.2.2.2.1 (fC.1 25 (by decide)) (fC.2.1 28 (by decide)) (fR.1 29 (by decide)) (fR.1 30 (by decide)) (fR.2.1 32 (by decide)) (fR.2.1 33 (by decide)), ivL_c i.2.2.2.2.2.2.1 (fC.1 20 (by decide)), mdC_c i.2.2.2.2.2.2.2.1 (fC.1 23 (by decide)) (fC.1 22 (by decide)), mdR_c i.2.2.2.2.2.2.2.2.1 (fR.1 31 (by decide)), cn4_c i.2.2.2.2.2.2.2.2.2.1 (fC.2.1 21 (by decide)) (fR.1 19 (by decide)) (fR.1 20 (by decide)) (fR.1 21 (by decide)) (fR.1 22 (by decide)), (by rw [fR.2.1 38 (by decide)]; exact i.2.2.2.2.2.2.2.2.2.2.1), mo_c i.2.2.2.2.2.2.2.2.2.2.2 (fC.1 23 (by decide)) (fC.2.1 23 (by decide)) (fC.2.2 7 (by decide)) (fR.1 31 (by decide)) (fR.2.1 34 (by decide)) (fR.2.1 35 (by decide))⟩⟩
theorem tv_slot (v : Int32) (w : Int32) (hN : 300000 ≤ N) (i : In2 SC SR) : ∃ r SR', zf_X10_slot N z v w SC = some r ∧ zf_X11_slot N z v w SR = some (r, SR') ∧ In2 SC SR' := by
  obtain ⟨r, SR', e1, e2, fR⟩ := st_slot (N := N) (z := z) v w (ivF_same i.2.2.2.1).2
  have fC : ag [] [] [] SC SC := ag_rf
  exact ⟨r, SR', e1, e2, ⟨tp_c i.1 (fC.1 0 (by decide)) (fC.2.1 2 (by decide)) (fR.1 1 (by decide)) (fR.2.1 0 (by decide)), tp_c i.2.1 (fC.1 1 (by decide)) (fC.2.1 3 (by decide)) (fR.1 2 (by decide)) (fR.2.1 1 (by decide)), (by rw [fR.2.1 0 (by decide)]; exact i.2.2.1), ivF_k i.2.2.2.1 (fC.1 2 (by decide)) (fC.2.1 0 (by decide)) (fC.2.1 1 (by decide)) (fC.2.1 4 (by decide)) (fC.2.1 5 (by decide)) (fC.2.1 6 (by decide)) (fC.2.1 7 (by decide)) (fC.2.2 0 (by decide)) (fR.1 3 (by decide)) (fR.2.1 2 (by decide)) (fR.2.1 3 (by decide)) (fR.2.1 4 (by decide)) (fR.2.1 5 (by decide)) (fR.2.1 6 (by decide)), fa_c i.2.2.2.2.1 (fC.1 11 (by decide)) (fC.1 12 (by decide)) (fR.1 4 (by decide)) (fR.1 5 (by decide)), ivP_c i.2.2.2.2.2.1 (fC.1 25 (by decide)) (fC.2.1 28 (by decide)) (fR.1 29 (by decide)) (fR.1 30 (by decide)) (fR.2.1 32 (by decide)) (fR.2.1 33 (by decide)), ivL_c i.2.2.2.2.2.2.1 (fC.1 20 (by decide)), mdC_c i.2.2.2.2.2.2.2.1 (fC.1 23 (by decide)) (fC.1 22 (by decide)), mdR_c i.2.2.2.2.2.2.2.2.1 (fR.1 31 (by decide)), cn4_c i.2.2.2.2.2.2.2.2.2.1 (fC.2.1 21 (by decide)) (fR.1 19 (by decide)) (fR.1 20 (by decide)) (fR.1 21 (by decide)) (fR.1 22 (by decide)), (by rw [fR.2.1 38 (by decide)]; exact i.2.2.2.2.2.2.2.2.2.2.1), mo_c i.2.2.2.2.2.2.2.2.2.2.2 (fC.1 23 (by decide)) (fC.2.1 23 (by decide)) (fC.2.2 7 (by decide)) (fR.1 31 (by decide)) (fR.2.1 34 (by decide)) (fR.2.1 35 (by decide))⟩⟩
theorem tv_formulas (hN : 300000 ≤ N) (i : In2 SC SR) : ∃ r SR', zf_X10_formulas N z SC = some r ∧ zf_X11_formulas N z SR = some (r, SR') ∧ In2 SC SR' := by
  obtain ⟨r, SR', e1, e2, fR⟩ := st_formulas (N := N) (z := z) (ivF_same i.2.2.2.1).1
  have fC : ag [] [] [] SC SC := ag_rf
  exact ⟨r, SR', e1, e2, ⟨tp_c i.1 (fC.1 0 (by decide)) (fC.2.1 2 (by decide)) (fR.1 1 (by decide)) (fR.2.1 0 (by decide)), tp_c i.2.1 (fC.1 1 (by decide)) (fC.2.1 3 (by decide)) (fR.1 2 (by decide)) (fR.2.1 1 (by decide)), (by rw [fR.2.1 0 (by decide)]; exact i.2.2.1), ivF_k i.2.2.2.1 (fC.1 2 (by decide)) (fC.2.1 0 (by decide)) (fC.2.1 1 (by decide)) (fC.2.1 4 (by decide)) (fC.2.1 5 (by decide)) (fC.2.1 6 (by decide)) (fC.2.1 7 (by decide)) (fC.2.2 0 (by decide)) (fR.1 3 (by decide)) (fR.2.1 2 (by decide)) (fR.2.1 3 (by decide)) (fR.2.1 4 (by decide)) (fR.2.1 5 (by decide)) (fR.2.1 6 (by decide)), fa_c i.2.2.2.2.1 (fC.1 11 (by decide)) (fC.1 12 (by decide)) (fR.1 4 (by decide)) (fR.1 5 (by decide)), ivP_c i.2.2.2.2.2.1 (fC.1 25 (by decide)) (fC.2.1 28 (by decide)) (fR.1 29 (by decide)) (fR.1 30 (by decide)) (fR.2.1 32 (by decide)) (fR.2.1 33 (by decide)), ivL_c i.2.2.2.2.2.2.1 (fC.1 20 (by decide)), mdC_c i.2.2.2.2.2.2.2.1 (fC.1 23 (by decide)) (fC.1 22 (by decide)), mdR_c i.2.2.2.2.2.2.2.2.1 (fR.1 31 (by decide)), cn4_c i.2.2.2.2.2.2.2.2.2.1 (fC.2.1 21 (by decide)) (fR.1 19 (by decide)) (fR.1 20 (by decide)) (fR.1 21 (by decide)) (fR.1 22 (by decide)), (by rw [fR.2.1 38 (by decide)]; exact i.2.2.2.2.2.2.2.2.2.2.1), mo_c i.2.2.2.2.2.2.2.2.2.2.2 (fC.1 23 (by decide)) (fC.2.1 23 (by decide)) (fC.2.2 7 (by decide)) (fR.1 31 (by decide)) (fR.2.1 34 (by decide)) (fR.2.1 35 (by decide))⟩⟩
theorem tv_formula (v : Int32) (w : Int32) (hN : 300000 ≤ N) (i : In2 SC SR) : ∃ r SR', zf_X10_formula N z v w SC = some r ∧ zf_X11_formula N z v w SR = some (r, SR') ∧ In2 SC SR' := by
  obtain ⟨r, SR', e1, e2, fR⟩ := st_formula (N := N) (z := z) v w (ivF_same i.2.2.2.1).1
  have fC : ag [] [] [] SC SC := ag_rf
  exact ⟨r, SR', e1, e2, ⟨tp_c i.1 (fC.1 0 (by decide)) (fC.2.1 2 (by decide)) (fR.1 1 (by decide)) (fR.2.1 0 (by decide)), tp_c i.2.1 (fC.1 1 (by decide)) (fC.2.1 3 (by decide)) (fR.1 2 (by decide)) (fR.2.1 1 (by decide)), (by rw [fR.2.1 0 (by decide)]; exact i.2.2.1), ivF_k i.2.2.2.1 (fC.1 2 (by decide)) (fC.2.1 0 (by decide)) (fC.2.1 1 (by decide)) (fC.2.1 4 (by decide)) (fC.2.1 5 (by decide)) (fC.2.1 6 (by decide)) (fC.2.1 7 (by decide)) (fC.2.2 0 (by decide)) (fR.1 3 (by decide)) (fR.2.1 2 (by decide)) (fR.2.1 3 (by decide)) (fR.2.1 4 (by decide)) (fR.2.1 5 (by decide)) (fR.2.1 6 (by decide)), fa_c i.2.2.2.2.1 (fC.1 11 (by decide)) (fC.1 12 (by decide)) (fR.1 4 (by decide)) (fR.1 5 (by decide)), ivP_c i.2.2.2.2.2.1 (fC.1 25 (by decide)) (fC.2.1 28 (by decide)) (fR.1 29 (by decide)) (fR.1 30 (by decide)) (fR.2.1 32 (by decide)) (fR.2.1 33 (by decide)), ivL_c i.2.2.2.2.2.2.1 (fC.1 20 (by decide)), mdC_c i.2.2.2.2.2.2.2.1 (fC.1 23 (by decide)) (fC.1 22 (by decide)), mdR_c i.2.2.2.2.2.2.2.2.1 (fR.1 31 (by decide)), cn4_c i.2.2.2.2.2.2.2.2.2.1 (fC.2.1 21 (by decide)) (fR.1 19 (by decide)) (fR.1 20 (by decide)) (fR.1 21 (by decide)) (fR.1 22 (by decide)), (by rw [fR.2.1 38 (by decide)]; exact i.2.2.2.2.2.2.2.2.2.2.1), mo_c i.2.2.2.2.2.2.2.2.2.2.2 (fC.1 23 (by decide)) (fC.2.1 23 (by decide)) (fC.2.2 7 (by decide)) (fR.1 31 (by decide)) (fR.2.1 34 (by decide)) (fR.2.1 35 (by decide))⟩⟩
theorem tv_tell (v : Int32) (hN : 300000 ≤ N) (i : In2 SC SR) : ∃ r SC' SR', zf_X10_tell N z v SC = some (r, SC') ∧ zf_X11_tell N z v SR = some (r, SR') ∧ In2 SC' SR' := by
  obtain ⟨L, g1, g2, g3, fs⟩ := ivF_fs i.2.2.2.1
  obtain ⟨r, SC', SR', e1, e2, h1, fC, fR⟩ := st_tell (N := N) (z := z) v (by omega) i.2.1 fs
  exact ⟨r, SC', SR', e1, e2, ⟨tp_c i.1 (fC.1 0 (by decide)) (fC.2.1 2 (by decide)) (fR.1 1 (by decide)) (fR.2.1 0 (by decide)), h1, (by rw [fR.2.1 0 (by decide)]; exact i.2.2.1), ivF_k i.2.2.2.1 (fC.1 2 (by decide)) (fC.2.1 0 (by decide)) (fC.2.1 1 (by decide)) (fC.2.1 4 (by decide)) (fC.2.1 5 (by decide)) (fC.2.1 6 (by decide)) (fC.2.1 7 (by decide)) (fC.2.2 0 (by decide)) (fR.1 3 (by decide)) (fR.2.1 2 (by decide)) (fR.2.1 3 (by decide)) (fR.2.1 4 (by decide)) (fR.2.1 5 (by decide)) (fR.2.1 6 (by decide)), fa_c i.2.2.2.2.1 (fC.1 11 (by decide)) (fC.1 12 (by decide)) (fR.1 4 (by decide)) (fR.1 5 (by decide)), ivP_c i.2.2.2.2.2.1 (fC.1 25 (by decide)) (fC.2.1 28 (by decide)) (fR.1 29 (by decide)) (fR.1 30 (by decide)) (fR.2.1 32 (by decide)) (fR.2.1 33 (by decide)), ivL_c i.2.2.2.2.2.2.1 (fC.1 20 (by decide)), mdC_c i.2.2.2.2.2.2.2.1 (fC.1 23 (by decide)) (fC.1 22 (by decide)), mdR_c i.2.2.2.2.2.2.2.2.1 (fR.1 31 (by decide)), cn4_c i.2.2.2.2.2.2.2.2.2.1 (fC.2.1 21 (by decide)) (fR.1 19 (by decide)) (fR.1 20 (by decide)) (fR.1 21 (by decide)) (fR.1 22 (by decide)), (by rw [fR.2.1 38 (by decide)]; exact i.2.2.2.2.2.2.2.2.2.2.1), mo_c i.2.2.2.2.2.2.2.2.2.2.2 (fC.1 23 (by decide)) (fC.2.1 23 (by decide)) (fC.2.2 7 (by decide)) (fR.1 31 (by decide)) (fR.2.1 34 (by decide)) (fR.2.1 35 (by decide))⟩⟩
theorem tv_prove (v : Int32) (w : Int32) (hN : 300000 ≤ N) (i : In2 SC SR) : ∃ r SC' SR', zf_X10_prove N z v w SC = some (r, SC') ∧ zf_X11_prove N z v w SR = some (r, SR') ∧ In2 SC' SR' := by
  obtain ⟨r, SC', SR', e1, e2, h1, h2, h3, h4, h5, h6, -, fC, fR⟩ := st_prove2 (N := N) (z := z) v w hN i.2.2.2.1 i.2.2.2.2.2.1 i.2.2.2.2.2.2.1 i.2.2.2.2.2.2.2.1 i.2.2.2.2.2.2.2.2.1 i.2.2.2.2.2.2.2.2.2.1 i.2.2.2.2.2.2.2.2.2.2.2
  exact ⟨r, SC', SR', e1, e2, ⟨tp_c i.1 (fC.1 0 (by decide)) (fC.2.1 2 (by decide)) (fR.1 1 (by decide)) (fR.2.1 0 (by decide)), tp_c i.2.1 (fC.1 1 (by decide)) (fC.2.1 3 (by decide)) (fR.1 2 (by decide)) (fR.2.1 1 (by decide)), (by rw [fR.2.1 0 (by decide)]; exact i.2.2.1), ivF_k i.2.2.2.1 (fC.1 2 (by decide)) (fC.2.1 0 (by decide)) (fC.2.1 1 (by decide)) (fC.2.1 4 (by decide)) (fC.2.1 5 (by decide)) (fC.2.1 6 (by decide)) (fC.2.1 7 (by decide)) (fC.2.2 0 (by decide)) (fR.1 3 (by decide)) (fR.2.1 2 (by decide)) (fR.2.1 3 (by decide)) (fR.2.1 4 (by decide)) (fR.2.1 5 (by decide)) (fR.2.1 6 (by decide)), fa_c i.2.2.2.2.1 (fC.1 11 (by decide)) (fC.1 12 (by decide)) (fR.1 4 (by decide)) (fR.1 5 (by decide)), h1, h2, h3, h4, h5, (by rw [fR.2.1 38 (by decide)]; exact i.2.2.2.2.2.2.2.2.2.2.1), h6⟩⟩
theorem tv_count (v : Int32) (hN : 300000 ≤ N) (i : In2 SC SR) : ∃ r SR', zf_X10_count N z v SC = some r ∧ zf_X11_count N z v SR = some (r, SR') ∧ In2 SC SR' := by
  obtain ⟨r, SR', e1, e2, fR⟩ := st_count (N := N) (z := z) v i.2.2.2.2.2.2.2.2.2.1
  have fC : ag [] [] [] SC SC := ag_rf
  exact ⟨r, SR', e1, e2, ⟨tp_c i.1 (fC.1 0 (by decide)) (fC.2.1 2 (by decide)) (fR.1 1 (by decide)) (fR.2.1 0 (by decide)), tp_c i.2.1 (fC.1 1 (by decide)) (fC.2.1 3 (by decide)) (fR.1 2 (by decide)) (fR.2.1 1 (by decide)), (by rw [fR.2.1 0 (by decide)]; exact i.2.2.1), ivF_k i.2.2.2.1 (fC.1 2 (by decide)) (fC.2.1 0 (by decide)) (fC.2.1 1 (by decide)) (fC.2.1 4 (by decide)) (fC.2.1 5 (by decide)) (fC.2.1 6 (by decide)) (fC.2.1 7 (by decide)) (fC.2.2 0 (by decide)) (fR.1 3 (by decide)) (fR.2.1 2 (by decide)) (fR.2.1 3 (by decide)) (fR.2.1 4 (by decide)) (fR.2.1 5 (by decide)) (fR.2.1 6 (by decide)), fa_c i.2.2.2.2.1 (fC.1 11 (by decide)) (fC.1 12 (by decide)) (fR.1 4 (by decide)) (fR.1 5 (by decide)), ivP_c i.2.2.2.2.2.1 (fC.1 25 (by decide)) (fC.2.1 28 (by decide)) (fR.1 29 (by decide)) (fR.1 30 (by decide)) (fR.2.1 32 (by decide)) (fR.2.1 33 (by decide)), ivL_c i.2.2.2.2.2.2.1 (fC.1 20 (by decide)), mdC_c i.2.2.2.2.2.2.2.1 (fC.1 23 (by decide)) (fC.1 22 (by decide)), mdR_c i.2.2.2.2.2.2.2.2.1 (fR.1 31 (by decide)), cn4_c i.2.2.2.2.2.2.2.2.2.1 (fC.2.1 21 (by decide)) (fR.1 19 (by decide)) (fR.1 20 (by decide)) (fR.1 21 (by decide)) (fR.1 22 (by decide)), (by rw [fR.2.1 38 (by decide)]; exact i.2.2.2.2.2.2.2.2.2.2.1), mo_c i.2.2.2.2.2.2.2.2.2.2.2 (fC.1 23 (by decide)) (fC.2.1 23 (by decide)) (fC.2.2 7 (by decide)) (fR.1 31 (by decide)) (fR.2.1 34 (by decide)) (fR.2.1 35 (by decide))⟩⟩
theorem tv_proof (hN : 300000 ≤ N) (i : In2 SC SR) : ∃ r SC' SR', zf_X10_proof N z SC = some (r, SC') ∧ zf_X11_proof N z SR = some (r, SR') ∧ In2 SC' SR' := by
  obtain ⟨r, SC', SR', e1, e2, h1, h2, h3, fC, fR⟩ := st_proof (N := N) (z := z) (by omega) i.2.2.2.2.2.1 i.2.1
  exact ⟨r, SC', SR', e1, e2, ⟨tp_c i.1 (fC.1 0 (by decide)) (fC.2.1 2 (by decide)) (fR.1 1 (by decide)) (fR.2.1 0 (by decide)), h1, (by rw [fR.2.1 0 (by decide)]; exact i.2.2.1), ivF_k i.2.2.2.1 (fC.1 2 (by decide)) (fC.2.1 0 (by decide)) (fC.2.1 1 (by decide)) (fC.2.1 4 (by decide)) (fC.2.1 5 (by decide)) (fC.2.1 6 (by decide)) (fC.2.1 7 (by decide)) (fC.2.2 0 (by decide)) (fR.1 3 (by decide)) (fR.2.1 2 (by decide)) (fR.2.1 3 (by decide)) (fR.2.1 4 (by decide)) (fR.2.1 5 (by decide)) (fR.2.1 6 (by decide)), fa_c i.2.2.2.2.1 (fC.1 11 (by decide)) (fC.1 12 (by decide)) (fR.1 4 (by decide)) (fR.1 5 (by decide)), ivP_c i.2.2.2.2.2.1 h2 h3 (fR.1 29 (by decide)) (fR.1 30 (by decide)) (fR.2.1 32 (by decide)) (fR.2.1 33 (by decide)), ivL_c i.2.2.2.2.2.2.1 (fC.1 20 (by decide)), mdC_c i.2.2.2.2.2.2.2.1 (fC.1 23 (by decide)) (fC.1 22 (by decide)), mdR_c i.2.2.2.2.2.2.2.2.1 (fR.1 31 (by decide)), cn4_c i.2.2.2.2.2.2.2.2.2.1 (fC.2.1 21 (by decide)) (fR.1 19 (by decide)) (fR.1 20 (by decide)) (fR.1 21 (by decide)) (fR.1 22 (by decide)), (by rw [fR.2.1 38 (by decide)]; exact i.2.2.2.2.2.2.2.2.2.2.1), mo_c i.2.2.2.2.2.2.2.2.2.2.2 (fC.1 23 (by decide)) (fC.2.1 23 (by decide)) (fC.2.2 7 (by decide)) (fR.1 31 (by decide)) (fR.2.1 34 (by decide)) (fR.2.1 35 (by decide))⟩⟩
theorem tv_verify (v : Int32) (hN : 300000 ≤ N) (i : In2 SC SR) : ∃ r SC' SR', zf_X10_verify N z v SC = some (r, SC') ∧ zf_X11_verify N z v SR = some (r, SR') ∧ In2 SC' SR' := by
  obtain ⟨r, SC', SR', e1, e2, h1, fC, fR⟩ := st_verify (N := N) (z := z) v (by omega) i.2.2.2.1 i.1
  exact ⟨r, SC', SR', e1, e2, ⟨h1, tp_c i.2.1 (fC.1 1 (by decide)) (fC.2.1 3 (by decide)) (fR.1 2 (by decide)) (fR.2.1 1 (by decide)), (by rw [fR.2.1 0 (by decide)]; exact i.2.2.1), ivF_k i.2.2.2.1 (fC.1 2 (by decide)) (fC.2.1 0 (by decide)) (fC.2.1 1 (by decide)) (fC.2.1 4 (by decide)) (fC.2.1 5 (by decide)) (fC.2.1 6 (by decide)) (fC.2.1 7 (by decide)) (fC.2.2 0 (by decide)) (fR.1 3 (by decide)) (fR.2.1 2 (by decide)) (fR.2.1 3 (by decide)) (fR.2.1 4 (by decide)) (fR.2.1 5 (by decide)) (fR.2.1 6 (by decide)), fa_c i.2.2.2.2.1 (fC.1 11 (by decide)) (fC.1 12 (by decide)) (fR.1 4 (by decide)) (fR.1 5 (by decide)), ivP_c i.2.2.2.2.2.1 (fC.1 25 (by decide)) (fC.2.1 28 (by decide)) (fR.1 29 (by decide)) (fR.1 30 (by decide)) (fR.2.1 32 (by decide)) (fR.2.1 33 (by decide)), ivL_c i.2.2.2.2.2.2.1 (fC.1 20 (by decide)), mdC_c i.2.2.2.2.2.2.2.1 (fC.1 23 (by decide)) (fC.1 22 (by decide)), mdR_c i.2.2.2.2.2.2.2.2.1 (fR.1 31 (by decide)), cn4_c i.2.2.2.2.2.2.2.2.2.1 (fC.2.1 21 (by decide)) (fR.1 19 (by decide)) (fR.1 20 (by decide)) (fR.1 21 (by decide)) (fR.1 22 (by decide)), (by rw [fR.2.1 38 (by decide)]; exact i.2.2.2.2.2.2.2.2.2.2.1), mo_c i.2.2.2.2.2.2.2.2.2.2.2 (fC.1 23 (by decide)) (fC.2.1 23 (by decide)) (fC.2.2 7 (by decide)) (fR.1 31 (by decide)) (fR.2.1 34 (by decide)) (fR.2.1 35 (by decide))⟩⟩
theorem tv_worlds (hN : 300000 ≤ N) (i : In2 SC SR) : ∃ r SR', zf_X10_worlds N z SC = some r ∧ zf_X11_worlds N z SR = some (r, SR') ∧ In2 SC SR' := by
  obtain ⟨SR', e1, e2, fR⟩ := st_worlds (N := N) (z := z) (SC := SC) (SR := SR)
  have fC : ag [] [] [] SC SC := ag_rf
  obtain ⟨W, hW, h1, h2, -⟩ := id i.2.2.2.2.2.2.2.2.2.2.2
  have e : SR.1 31 = SC.1 23 := h2.trans h1.symm
  rw [e] at e2
  exact ⟨_, SR', e1, e2, ⟨tp_c i.1 (fC.1 0 (by decide)) (fC.2.1 2 (by decide)) (fR.1 1 (by decide)) (fR.2.1 0 (by decide)), tp_c i.2.1 (fC.1 1 (by decide)) (fC.2.1 3 (by decide)) (fR.1 2 (by decide)) (fR.2.1 1 (by decide)), (by rw [fR.2.1 0 (by decide)]; exact i.2.2.1), ivF_k i.2.2.2.1 (fC.1 2 (by decide)) (fC.2.1 0 (by decide)) (fC.2.1 1 (by decide)) (fC.2.1 4 (by decide)) (fC.2.1 5 (by decide)) (fC.2.1 6 (by decide)) (fC.2.1 7 (by decide)) (fC.2.2 0 (by decide)) (fR.1 3 (by decide)) (fR.2.1 2 (by decide)) (fR.2.1 3 (by decide)) (fR.2.1 4 (by decide)) (fR.2.1 5 (by decide)) (fR.2.1 6 (by decide)), fa_c i.2.2.2.2.1 (fC.1 11 (by decide)) (fC.1 12 (by decide)) (fR.1 4 (by decide)) (fR.1 5 (by decide)), ivP_c i.2.2.2.2.2.1 (fC.1 25 (by decide)) (fC.2.1 28 (by decide)) (fR.1 29 (by decide)) (fR.1 30 (by decide)) (fR.2.1 32 (by decide)) (fR.2.1 33 (by decide)), ivL_c i.2.2.2.2.2.2.1 (fC.1 20 (by decide)), mdC_c i.2.2.2.2.2.2.2.1 (fC.1 23 (by decide)) (fC.1 22 (by decide)), mdR_c i.2.2.2.2.2.2.2.2.1 (fR.1 31 (by decide)), cn4_c i.2.2.2.2.2.2.2.2.2.1 (fC.2.1 21 (by decide)) (fR.1 19 (by decide)) (fR.1 20 (by decide)) (fR.1 21 (by decide)) (fR.1 22 (by decide)), (by rw [fR.2.1 38 (by decide)]; exact i.2.2.2.2.2.2.2.2.2.2.1), mo_c i.2.2.2.2.2.2.2.2.2.2.2 (fC.1 23 (by decide)) (fC.2.1 23 (by decide)) (fC.2.2 7 (by decide)) (fR.1 31 (by decide)) (fR.2.1 34 (by decide)) (fR.2.1 35 (by decide))⟩⟩
theorem tv_sees (v w : Int32) (hN : 300000 ≤ N) (i : In2 SC SR) : ∃ r q SR', zf_X10_sees N z v w SC = some (r, SC) ∧ zf_X11_sees N z v w SR = some (q, SR') ∧ In2 SC SR' ∧ ((r = none ∧ SR'.1 0 = 1) ∨ (r = some q ∧ SR'.1 0 = 0)) := by
  obtain ⟨r, q, SR', e1, e2, fR, t⟩ := st_sees (N := N) (z := z) v w i.2.2.2.2.2.2.2.2.2.2.2
  have fC : ag [] [] [] SC SC := ag_rf
  exact ⟨r, q, SR', e1, e2, ⟨tp_c i.1 (fC.1 0 (by decide)) (fC.2.1 2 (by decide)) (fR.1 1 (by decide)) (fR.2.1 0 (by decide)), tp_c i.2.1 (fC.1 1 (by decide)) (fC.2.1 3 (by decide)) (fR.1 2 (by decide)) (fR.2.1 1 (by decide)), (by rw [fR.2.1 0 (by decide)]; exact i.2.2.1), ivF_k i.2.2.2.1 (fC.1 2 (by decide)) (fC.2.1 0 (by decide)) (fC.2.1 1 (by decide)) (fC.2.1 4 (by decide)) (fC.2.1 5 (by decide)) (fC.2.1 6 (by decide)) (fC.2.1 7 (by decide)) (fC.2.2 0 (by decide)) (fR.1 3 (by decide)) (fR.2.1 2 (by decide)) (fR.2.1 3 (by decide)) (fR.2.1 4 (by decide)) (fR.2.1 5 (by decide)) (fR.2.1 6 (by decide)), fa_c i.2.2.2.2.1 (fC.1 11 (by decide)) (fC.1 12 (by decide)) (fR.1 4 (by decide)) (fR.1 5 (by decide)), ivP_c i.2.2.2.2.2.1 (fC.1 25 (by decide)) (fC.2.1 28 (by decide)) (fR.1 29 (by decide)) (fR.1 30 (by decide)) (fR.2.1 32 (by decide)) (fR.2.1 33 (by decide)), ivL_c i.2.2.2.2.2.2.1 (fC.1 20 (by decide)), mdC_c i.2.2.2.2.2.2.2.1 (fC.1 23 (by decide)) (fC.1 22 (by decide)), mdR_c i.2.2.2.2.2.2.2.2.1 (fR.1 31 (by decide)), cn4_c i.2.2.2.2.2.2.2.2.2.1 (fC.2.1 21 (by decide)) (fR.1 19 (by decide)) (fR.1 20 (by decide)) (fR.1 21 (by decide)) (fR.1 22 (by decide)), (by rw [fR.2.1 38 (by decide)]; exact i.2.2.2.2.2.2.2.2.2.2.1), mo_c i.2.2.2.2.2.2.2.2.2.2.2 (fC.1 23 (by decide)) (fC.2.1 23 (by decide)) (fC.2.2 7 (by decide)) (fR.1 31 (by decide)) (fR.2.1 34 (by decide)) (fR.2.1 35 (by decide))⟩, t⟩
theorem tv_cut (v : Int32) (hN : 300000 ≤ N) (i : In2 SC SR) : ∃ r SC' q SR', zf_X10_cut N z v SC = some (r, SC') ∧ zf_X11_cut N z v SR = some (q, SR') ∧ In2 SC' SR' ∧ ((r = none ∧ SR'.1 0 = 1) ∨ (r = some q ∧ SR'.1 0 = 0)) := by
  obtain ⟨r, SC', q, SR', e1, e2, hmo, fC, fR, t22, t⟩ := st_cut (N := N) (z := z) v (by omega) i.2.2.2.2.2.2.2.2.2.2.2
  obtain ⟨W, hW, h1, h2, -⟩ := id hmo
  have hm : mdC SC' := ⟨⟨W, hW, h1⟩, by
    rcases t22 with e | e
    · rw [e]; exact i.2.2.2.2.2.2.2.1.2
    · exact ⟨0, by omega, e⟩⟩
  exact ⟨r, SC', q, SR', e1, e2, ⟨tp_c i.1 (fC.1 0 (by decide)) (fC.2.1 2 (by decide)) (fR.1 1 (by decide)) (fR.2.1 0 (by decide)), tp_c i.2.1 (fC.1 1 (by decide)) (fC.2.1 3 (by decide)) (fR.1 2 (by decide)) (fR.2.1 1 (by decide)), (by rw [fR.2.1 0 (by decide)]; exact i.2.2.1), ivF_k i.2.2.2.1 (fC.1 2 (by decide)) (fC.2.1 0 (by decide)) (fC.2.1 1 (by decide)) (fC.2.1 4 (by decide)) (fC.2.1 5 (by decide)) (fC.2.1 6 (by decide)) (fC.2.1 7 (by decide)) (fC.2.2 0 (by decide)) (fR.1 3 (by decide)) (fR.2.1 2 (by decide)) (fR.2.1 3 (by decide)) (fR.2.1 4 (by decide)) (fR.2.1 5 (by decide)) (fR.2.1 6 (by decide)), fa_c i.2.2.2.2.1 (fC.1 11 (by decide)) (fC.1 12 (by decide)) (fR.1 4 (by decide)) (fR.1 5 (by decide)), ivP_c i.2.2.2.2.2.1 (fC.1 25 (by decide)) (fC.2.1 28 (by decide)) (fR.1 29 (by decide)) (fR.1 30 (by decide)) (fR.2.1 32 (by decide)) (fR.2.1 33 (by decide)), ivL_c i.2.2.2.2.2.2.1 (fC.1 20 (by decide)), hm, ⟨W, hW, h2⟩, cn4_c i.2.2.2.2.2.2.2.2.2.1 (fC.2.1 21 (by decide)) (fR.1 19 (by decide)) (fR.1 20 (by decide)) (fR.1 21 (by decide)) (fR.1 22 (by decide)), (by rw [fR.2.1 38 (by decide)]; exact i.2.2.2.2.2.2.2.2.2.2.1), hmo⟩, t⟩
theorem tv_fold (hN : 300000 ≤ N) (i : In2 SC SR) : ∃ r SC' SR', zf_X10_fold N z SC = some (r, SC') ∧ zf_X11_fold N z SR = some (r, SR') ∧ In2 SC' SR' := by
  obtain ⟨r, SC', SR', e1, e2, hmo, fC, fR, t22⟩ := st_fold (N := N) (z := z) (by omega) i.2.2.2.2.2.2.2.2.2.2.2
  obtain ⟨W, hW, h1, h2, -⟩ := id hmo
  exact ⟨r, SC', SR', e1, e2, ⟨tp_c i.1 (fC.1 0 (by decide)) (fC.2.1 2 (by decide)) (fR.1 1 (by decide)) (fR.2.1 0 (by decide)), tp_c i.2.1 (fC.1 1 (by decide)) (fC.2.1 3 (by decide)) (fR.1 2 (by decide)) (fR.2.1 1 (by decide)), (by rw [fR.2.1 0 (by decide)]; exact i.2.2.1), ivF_k i.2.2.2.1 (fC.1 2 (by decide)) (fC.2.1 0 (by decide)) (fC.2.1 1 (by decide)) (fC.2.1 4 (by decide)) (fC.2.1 5 (by decide)) (fC.2.1 6 (by decide)) (fC.2.1 7 (by decide)) (fC.2.2 0 (by decide)) (fR.1 3 (by decide)) (fR.2.1 2 (by decide)) (fR.2.1 3 (by decide)) (fR.2.1 4 (by decide)) (fR.2.1 5 (by decide)) (fR.2.1 6 (by decide)), fa_c i.2.2.2.2.1 (fC.1 11 (by decide)) (fC.1 12 (by decide)) (fR.1 4 (by decide)) (fR.1 5 (by decide)), ivP_c i.2.2.2.2.2.1 (fC.1 25 (by decide)) (fC.2.1 28 (by decide)) (fR.1 29 (by decide)) (fR.1 30 (by decide)) (fR.2.1 32 (by decide)) (fR.2.1 33 (by decide)), ivL_c i.2.2.2.2.2.2.1 (fC.1 20 (by decide)), ⟨⟨W, hW, h1⟩, 0, by omega, t22⟩, ⟨W, hW, h2⟩, cn4_c i.2.2.2.2.2.2.2.2.2.1 (fC.2.1 21 (by decide)) (fR.1 19 (by decide)) (fR.1 20 (by decide)) (fR.1 21 (by decide)) (fR.1 22 (by decide)), (by rw [fR.2.1 38 (by decide)]; exact i.2.2.2.2.2.2.2.2.2.2.1), hmo⟩⟩
theorem tv_holds (v : Int32) (w : Int32) (hN : 300000 ≤ N) (i : In2 SC SR) : ∃ r SC' q SR', zf_X10_holds N z v w SC = some (r, SC') ∧ zf_X11_holds N z v w SR = some (q, SR') ∧ In2 SC' SR' := by
  obtain ⟨⟨W, hW, h23⟩, t, ht, h22⟩ := id i.2.2.2.2.2.2.2.1
  obtain ⟨W', hW', h31⟩ := id i.2.2.2.2.2.2.2.2.1
  obtain ⟨n, so, on, tw, d, hc, hx, -⟩ := ivF_cx i.2.2.2.1
  obtain ⟨r, SC', e1, hm, fC⟩ := ck_holds2 (N := N) (z := z) v w (by omega) hc i.2.2.2.2.2.2.2.1
  obtain ⟨q, SR', e2, fR, hb⟩ := rf_holds (N := N) (z := z) v w (by omega) hx h31 hW' i.2.2.2.2.2.2.2.2.2.2.1
  exact ⟨r, SC', q, SR', e1, e2, ⟨tp_c i.1 (fC.1 0 (by decide)) (fC.2.1 2 (by decide)) (fR.1 1 (by decide)) (fR.2.1 0 (by decide)), tp_c i.2.1 (fC.1 1 (by decide)) (fC.2.1 3 (by decide)) (fR.1 2 (by decide)) (fR.2.1 1 (by decide)), (by rw [fR.2.1 0 (by decide)]; exact i.2.2.1), ivF_k i.2.2.2.1 (fC.1 2 (by decide)) (fC.2.1 0 (by decide)) (fC.2.1 1 (by decide)) (fC.2.1 4 (by decide)) (fC.2.1 5 (by decide)) (fC.2.1 6 (by decide)) (fC.2.1 7 (by decide)) (fC.2.2 0 (by decide)) (fR.1 3 (by decide)) (fR.2.1 2 (by decide)) (fR.2.1 3 (by decide)) (fR.2.1 4 (by decide)) (fR.2.1 5 (by decide)) (fR.2.1 6 (by decide)), fa_c i.2.2.2.2.1 (fC.1 11 (by decide)) (fC.1 12 (by decide)) (fR.1 4 (by decide)) (fR.1 5 (by decide)), ivP_c i.2.2.2.2.2.1 (fC.1 25 (by decide)) (fC.2.1 28 (by decide)) (fR.1 29 (by decide)) (fR.1 30 (by decide)) (fR.2.1 32 (by decide)) (fR.2.1 33 (by decide)), ivL_c i.2.2.2.2.2.2.1 (fC.1 20 (by decide)), hm, mdR_c i.2.2.2.2.2.2.2.2.1 (fR.1 31 (by decide)), cn4_c i.2.2.2.2.2.2.2.2.2.1 (fC.2.1 21 (by decide)) (fR.1 19 (by decide)) (fR.1 20 (by decide)) (fR.1 21 (by decide)) (fR.1 22 (by decide)), hb, mo_c i.2.2.2.2.2.2.2.2.2.2.2 (fC.1 23 (by decide)) (fC.2.1 23 (by decide)) (fC.2.2 7 (by decide)) (fR.1 31 (by decide)) (fR.2.1 34 (by decide)) (fR.2.1 35 (by decide))⟩⟩
theorem tv_world (v : Int32) (w : Int32) (hN : 300000 ≤ N) (i : In2 SC SR) : ∃ r SC' q SR', zf_X10_world N z v w SC = some (r, SC') ∧ zf_X11_world N z v w SR = some (q, SR') ∧ In2 SC' SR' := by
  obtain ⟨⟨W, hW, h23⟩, t, ht, h22⟩ := id i.2.2.2.2.2.2.2.1
  obtain ⟨W', hW', h31⟩ := id i.2.2.2.2.2.2.2.2.1
  obtain ⟨n, so, on, tw, d, hc, hx, -⟩ := ivF_cx i.2.2.2.1
  obtain ⟨r, e1⟩ := ck_world (N := N) (z := z) v w (by omega) h23 hW
  obtain ⟨q, SR', e2, fR⟩ := rf_world (N := N) (z := z) v w (by omega) h31 hW'
  have fC : ag [] [] [] SC SC := ag_rf
  exact ⟨r, SC, q, SR', e1, e2, ⟨tp_c i.1 (fC.1 0 (by decide)) (fC.2.1 2 (by decide)) (fR.1 1 (by decide)) (fR.2.1 0 (by decide)), tp_c i.2.1 (fC.1 1 (by decide)) (fC.2.1 3 (by decide)) (fR.1 2 (by decide)) (fR.2.1 1 (by decide)), (by rw [fR.2.1 0 (by decide)]; exact i.2.2.1), ivF_k i.2.2.2.1 (fC.1 2 (by decide)) (fC.2.1 0 (by decide)) (fC.2.1 1 (by decide)) (fC.2.1 4 (by decide)) (fC.2.1 5 (by decide)) (fC.2.1 6 (by decide)) (fC.2.1 7 (by decide)) (fC.2.2 0 (by decide)) (fR.1 3 (by decide)) (fR.2.1 2 (by decide)) (fR.2.1 3 (by decide)) (fR.2.1 4 (by decide)) (fR.2.1 5 (by decide)) (fR.2.1 6 (by decide)), fa_c i.2.2.2.2.1 (fC.1 11 (by decide)) (fC.1 12 (by decide)) (fR.1 4 (by decide)) (fR.1 5 (by decide)), ivP_c i.2.2.2.2.2.1 (fC.1 25 (by decide)) (fC.2.1 28 (by decide)) (fR.1 29 (by decide)) (fR.1 30 (by decide)) (fR.2.1 32 (by decide)) (fR.2.1 33 (by decide)), ivL_c i.2.2.2.2.2.2.1 (fC.1 20 (by decide)), mdC_c i.2.2.2.2.2.2.2.1 (fC.1 23 (by decide)) (fC.1 22 (by decide)), mdR_c i.2.2.2.2.2.2.2.2.1 (fR.1 31 (by decide)), cn4_c i.2.2.2.2.2.2.2.2.2.1 (fC.2.1 21 (by decide)) (fR.1 19 (by decide)) (fR.1 20 (by decide)) (fR.1 21 (by decide)) (fR.1 22 (by decide)), (by rw [fR.2.1 38 (by decide)]; exact i.2.2.2.2.2.2.2.2.2.2.1), mo_c i.2.2.2.2.2.2.2.2.2.2.2 (fC.1 23 (by decide)) (fC.2.1 23 (by decide)) (fC.2.2 7 (by decide)) (fR.1 31 (by decide)) (fR.2.1 34 (by decide)) (fR.2.1 35 (by decide))⟩⟩
end INV2
end
/-! avv.inv3 -/
section
/-! What class and reference keep together, with the models and what the class has reckoned. -/
def In3 (SC SR : mq_St) : Prop := iv_tape (SC.1 0) (SC.2.1 2) (SR.1 1) (SR.2.1 0) ∧ iv_tape (SC.1 1) (SC.2.1 3) (SR.1 2) (SR.2.1 1) ∧ ivB (SR.2.1 0) ∧ ivF SC SR ∧ (SC.1 11 = SR.1 4 ∧ SC.1 12 = SR.1 5) ∧ ivP SC SR ∧ ivL SC ∧ mdC SC ∧ mdR SR ∧ cn4 SC SR ∧ b01 (SR.2.1 38) ∧ mo SC SR ∧ cac SC
theorem ca3 {SC SR SC' SR' : mq_St} (hF : ivF SC SR) (h : cac SC) (hm : mo SC' SR') (k : kpm SC SC') (e2 : SC'.1 2 = SC.1 2) (e4 : SC'.2.1 4 = SC.2.1 4) (e5 : SC'.2.1 5 = SC.2.1 5) (e6 : SC'.2.1 6 = SC.2.1 6) : cac SC' := by
  rcases k with k | ⟨k1, k2, k3, k4, k5⟩
  · obtain ⟨n, so, on, tw, d, hc, -, -⟩ := ivF_cx hF
    obtain ⟨W, hW, h1, -⟩ := hm
    exact cac_0 (e2.trans hc.1) hc.2.2.2.2.1 hW h1 k
  · exact cac_c h e2 e4 e5 e6 k1 k2 k3 k4 k5
theorem ca4 {SC SR SC' : mq_St} (hF : ivF SC SR) (h : cac SC) (e : ext SC SC') (f2 : SC'.1 22 = SC.1 22) (f3 : SC'.1 23 = SC.1 23) (g3 : SC'.2.1 23 = SC.2.1 23) (l7 : SC'.2.2 7 = SC.2.2 7) (l9 : SC'.2.2 9 = SC.2.2 9) : cac SC' := by
  obtain ⟨n, so, on, tw, d, hc, -, -⟩ := ivF_cx hF
  exact cac_x hc h e f2 f3 g3 l7 l9
theorem ca5 {SC SR SC' SR' : mq_St} (hF : ivF SC SR) (h : cac SC) (hm : mo SC' SR') (k : SC' = SC ∨ SC'.1 22 = 0) (e2 : SC'.1 2 = SC.1 2) : cac SC' := by
  rcases k with k | k
  · rw [k]; exact h
  · obtain ⟨n, so, on, tw, d, hc, -, -⟩ := ivF_cx hF
    obtain ⟨W, hW, h1, -⟩ := hm
    exact cac_0 (e2.trans hc.1) hc.2.2.2.2.1 hW h1 k
section INV3
variable {N : Nat} {z : Nat → Nat} {SC SR : mq_St}
theorem uv_feed (x1 : Int32) (x2 : Int32) (x3 : Int32) (x4 : Int32) (x5 : Int32) (hN : 300000 ≤ N) (i : In3 SC SR) : ∃ r SC' SR', zf_X10_feed N z x1 x2 x3 x4 x5 SC = some (r, SC') ∧ zf_X11_feed N z x1 x2 x3 x4 x5 SR = some (r, SR') ∧ In3 SC' SR' := by
  obtain ⟨r, SC', SR', e1, e2, h1, fC, fR⟩ := st_feed (N := N) (z := z) x1 x2 x3 x4 x5 (by omega) i.1
  exact ⟨r, SC', SR', e1, e2, ⟨h1, tp_c i.2.1 (fC.1 1 (by decide)) (fC.2.1 3 (by decide)) (fR.1 2 (by decide)) (fR.2.1 1 (by decide)), feed_B i.2.2.1 e2, ivF_k i.2.2.2.1 (fC.1 2 (by decide)) (fC.2.1 0 (by decide)) (fC.2.1 1 (by decide)) (fC.2.1 4 (by decide)) (fC.2.1 5 (by decide)) (fC.2.1 6 (by decide)) (fC.2.1 7 (by decide)) (fC.2.2 0 (by decide)) (fR.1 3 (by decide)) (fR.2.1 2 (by decide)) (fR.2.1 3 (by decide)) (fR.2.1 4 (by decide)) (fR.2.1 5 (by decide)) (fR.2.1 6 (by decide)), fa_c i.2.2.2.2.1 (fC.1 11 (by decide)) (fC.1 12 (by decide)) (fR.1 4 (by decide)) (fR.1 5 (by decide)), ivP_c i.2.2.2.2.2.1 (fC.1 25 (by decide)) (fC.2.1 28 (by decide)) (fR.1 29 (by decide)) (fR.1 30 (by decide)) (fR.2.1 32 (by decide)) (fR.2.1 33 (by decide)), ivL_c i.2.2.2.2.2.2.1 (fC.1 20 (by decide)), mdC_c i.2.2.2.2.2.2.2.1 (fC.1 23 (by decide)) (fC.1 22 (by decide)), mdR_c i.2.2.2.2.2.2.2.2.1 (fR.1 31 (by decide)), cn4_c i.2.2.2.2.2.2.2.2.2.1 (fC.2.1 21 (by decide)) (fR.1 19 (by decide)) (fR.1 20 (by decide)) (fR.1 21 (by decide)) (fR.1 22 (by decide)), (by rw [fR.2.1 38 (by decide)]; exact i.2.2.2.2.2.2.2.2.2.2.1), mo_c i.2.2.2.2.2.2.2.2.2.2.2.1 (fC.1 23 (by decide)) (fC.2.1 23 (by decide)) (fC.2.2 7 (by decide)) (fR.1 31 (by decide)) (fR.2.1 34 (by decide)) (fR.2.1 35 (by decide)), cac_c i.2.2.2.2.2.2.2.2.2.2.2.2 (fC.1 2 (by decide)) (fC.2.1 4 (by decide)) (fC.2.1 5 (by decide)) (fC.2.1 6 (by decide)) (fC.1 22 (by decide)) (fC.1 23 (by decide)) (fC.2.1 23 (by decide)) (fC.2.2 7 (by decide)) (fC.2.2 9 (by decide))⟩⟩
theorem uv_end (v : Int32) (hN : 300000 ≤ N) (i : In3 SC SR) : ∃ r SC' SR', zf_X10_end N z v SC = some (r, SC') ∧ zf_X11_end N z v SR = some (r, SR') ∧ In3 SC' SR' := by
  obtain ⟨r, SC', SR', e1, e2, h1, fC, fR⟩ := st_end (N := N) (z := z) v i.1
  exact ⟨r, SC', SR', e1, e2, ⟨h1, tp_c i.2.1 (fC.1 1 (by decide)) (fC.2.1 3 (by decide)) (fR.1 2 (by decide)) (fR.2.1 1 (by decide)), end_B i.2.2.1 e2, ivF_k i.2.2.2.1 (fC.1 2 (by decide)) (fC.2.1 0 (by decide)) (fC.2.1 1 (by decide)) (fC.2.1 4 (by decide)) (fC.2.1 5 (by decide)) (fC.2.1 6 (by decide)) (fC.2.1 7 (by decide)) (fC.2.2 0 (by decide)) (fR.1 3 (by decide)) (fR.2.1 2 (by decide)) (fR.2.1 3 (by decide)) (fR.2.1 4 (by decide)) (fR.2.1 5 (by decide)) (fR.2.1 6 (by decide)), fa_c i.2.2.2.2.1 (fC.1 11 (by decide)) (fC.1 12 (by decide)) (fR.1 4 (by decide)) (fR.1 5 (by decide)), ivP_c i.2.2.2.2.2.1 (fC.1 25 (by decide)) (fC.2.1 28 (by decide)) (fR.1 29 (by decide)) (fR.1 30 (by decide)) (fR.2.1 32 (by decide)) (fR.2.1 33 (by decide)), ivL_c i.2.2.2.2.2.2.1 (fC.1 20 (by decide)), mdC_c i.2.2.2.2.2.2.2.1 (fC.1 23 (by decide)) (fC.1 22 (by decide)), mdR_c i.2.2.2.2.2.2.2.2.1 (fR.1 31 (by decide)), cn4_c i.2.2.2.2.2.2.2.2.2.1 (fC.2.1 21 (by decide)) (fR.1 19 (by decide)) (fR.1 20 (by decide)) (fR.1 21 (by decide)) (fR.1 22 (by decide)), (by rw [fR.2.1 38 (by decide)]; exact i.2.2.2.2.2.2.2.2.2.2.1), mo_c i.2.2.2.2.2.2.2.2.2.2.2.1 (fC.1 23 (by decide)) (fC.2.1 23 (by decide)) (fC.2.2 7 (by decide)) (fR.1 31 (by decide)) (fR.2.1 34 (by decide)) (fR.2.1 35 (by decide)), cac_c i.2.2.2.2.2.2.2.2.2.2.2.2 (fC.1 2 (by decide)) (fC.2.1 4 (by decide)) (fC.2.1 5 (by decide)) (fC.2.1 6 (by decide)) (fC.1 22 (by decide)) (fC.1 23 (by decide)) (fC.2.1 23 (by decide)) (fC.2.2 7 (by decide)) (fC.2.2 9 (by decide))⟩⟩
theorem uv_take (hN : 300000 ≤ N) (i : In3 SC SR) : ∃ r SC' SR', zf_X10_take N z SC = some (r, SC') ∧ zf_X11_take N z SR = some (r, SR') ∧ In3 SC' SR' := by
  obtain ⟨r, SC', SR', e1, e2, h1, h2, fC, fR⟩ := st_take (N := N) (z := z) (by omega) i.2.1
  exact ⟨r, SC', SR', e1, e2, ⟨h1, h2, take_B i.2.2.1 e2, ivF_k i.2.2.2.1 (fC.1 2 (by decide)) (fC.2.1 0 (by decide)) (fC.2.1 1 (by decide)) (fC.2.1 4 (by decide)) (fC.2.1 5 (by decide)) (fC.2.1 6 (by decide)) (fC.2.1 7 (by decide)) (fC.2.2 0 (by decide)) (fR.1 3 (by decide)) (fR.2.1 2 (by decide)) (fR.2.1 3 (by decide)) (fR.2.1 4 (by decide)) (fR.2.1 5 (by decide)) (fR.2.1 6 (by decide)), fa_c i.2.2.2.2.1 (fC.1 11 (by decide)) (fC.1 12 (by decide)) (fR.1 4 (by decide)) (fR.1 5 (by decide)), ivP_c i.2.2.2.2.2.1 (fC.1 25 (by decide)) (fC.2.1 28 (by decide)) (fR.1 29 (by decide)) (fR.1 30 (by decide)) (fR.2.1 32 (by decide)) (fR.2.1 33 (by decide)), ivL_c i.2.2.2.2.2.2.1 (fC.1 20 (by decide)), mdC_c i.2.2.2.2.2.2.2.1 (fC.1 23 (by decide)) (fC.1 22 (by decide)), mdR_c i.2.2.2.2.2.2.2.2.1 (fR.1 31 (by decide)), cn4_c i.2.2.2.2.2.2.2.2.2.1 (fC.2.1 21 (by decide)) (fR.1 19 (by decide)) (fR.1 20 (by decide)) (fR.1 21 (by decide)) (fR.1 22 (by decide)), (by rw [fR.2.1 38 (by decide)]; exact i.2.2.2.2.2.2.2.2.2.2.1), mo_c i.2.2.2.2.2.2.2.2.2.2.2.1 (fC.1 23 (by decide)) (fC.2.1 23 (by decide)) (fC.2.2 7 (by decide)) (fR.1 31 (by decide)) (fR.2.1 34 (by decide)) (fR.2.1 35 (by decide)), cac_c i.2.2.2.2.2.2.2.2.2.2.2.2 (fC.1 2 (by decide)) (fC.2.1 4 (by decide)) (fC.2.1 5 (by decide)) (fC.2.1 6 (by decide)) (fC.1 22 (by decide)) (fC.1 23 (by decide)) (fC.2.1 23 (by decide)) (fC.2.2 7 (by decide)) (fC.2.2 9 (by decide))⟩⟩
theorem uv_alter (v : Int32) (w : Int32) (hN : 300000 ≤ N) (i : In3 SC SR) : ∃ r SC' SR', zf_X10_alter N z v w SC = some (r, SC') ∧ zf_X11_alter N z v w SR = some (r, SR') ∧ In3 SC' SR' := by
  obtain ⟨r, SC', SR', e1, e2, h1, fC, fR⟩ := st_alter (N := N) (z := z) v w i.1
  exact ⟨r, SC', SR', e1, e2, ⟨h1, tp_c i.2.1 (fC.1 1 (by decide)) (fC.2.1 3 (by decide)) (fR.1 2 (by decide)) (fR.2.1 1 (by decide)), alter_B i.2.2.1 e2, ivF_k i.2.2.2.1 (fC.1 2 (by decide)) (fC.2.1 0 (by decide)) (fC.2.1 1 (by decide)) (fC.2.1 4 (by decide)) (fC.2.1 5 (by decide)) (fC.2.1 6 (by decide)) (fC.2.1 7 (by decide)) (fC.2.2 0 (by decide)) (fR.1 3 (by decide)) (fR.2.1 2 (by decide)) (fR.2.1 3 (by decide)) (fR.2.1 4 (by decide)) (fR.2.1 5 (by decide)) (fR.2.1 6 (by decide)), fa_c i.2.2.2.2.1 (fC.1 11 (by decide)) (fC.1 12 (by decide)) (fR.1 4 (by decide)) (fR.1 5 (by decide)), ivP_c i.2.2.2.2.2.1 (fC.1 25 (by decide)) (fC.2.1 28 (by decide)) (fR.1 29 (by decide)) (fR.1 30 (by decide)) (fR.2.1 32 (by decide)) (fR.2.1 33 (by decide)), ivL_c i.2.2.2.2.2.2.1 (fC.1 20 (by decide)), mdC_c i.2.2.2.2.2.2.2.1 (fC.1 23 (by decide)) (fC.1 22 (by decide)), mdR_c i.2.2.2.2.2.2.2.2.1 (fR.1 31 (by decide)), cn4_c i.2.2.2.2.2.2.2.2.2.1 (fC.2.1 21 (by decide)) (fR.1 19 (by decide)) (fR.1 20 (by decide)) (fR.1 21 (by decide)) (fR.1 22 (by decide)), (by rw [fR.2.1 38 (by decide)]; exact i.2.2.2.2.2.2.2.2.2.2.1), mo_c i.2.2.2.2.2.2.2.2.2.2.2.1 (fC.1 23 (by decide)) (fC.2.1 23 (by decide)) (fC.2.2 7 (by decide)) (fR.1 31 (by decide)) (fR.2.1 34 (by decide)) (fR.2.1 35 (by decide)), cac_c i.2.2.2.2.2.2.2.2.2.2.2.2 (fC.1 2 (by decide)) (fC.2.1 4 (by decide)) (fC.2.1 5 (by decide)) (fC.2.1 6 (by decide)) (fC.1 22 (by decide)) (fC.1 23 (by decide)) (fC.2.1 23 (by decide)) (fC.2.2 7 (by decide)) (fC.2.2 9 (by decide))⟩⟩
theorem uv_out (v : Int32) (hN : 300000 ≤ N) (i : In3 SC SR) : ∃ r SR', zf_X10_out N z v SC = some r ∧ zf_X11_out N z v SR = some (r, SR') ∧ In3 SC SR' := by
  obtain ⟨r, SR', e1, e2, fR⟩ := st_out (N := N) (z := z) v i.2.1
  have fC : ag [] [] [] SC SC := ag_rf
  exact ⟨r, SR', e1, e2, ⟨tp_c i.1 (fC.1 0 (by decide)) (fC.2.1 2 (by decide)) (fR.1 1 (by decide)) (fR.2.1 0 (by decide)), tp_c i.2.1 (fC.1 1 (by decide)) (fC.2.1 3 (by decide)) (fR.1 2 (by decide)) (fR.2.1 1 (by decide)), (by rw [fR.2.1 0 (by decide)]; exact i.2.2.1), ivF_k i.2.2.2.1 (fC.1 2 (by decide)) (fC.2.1 0 (by decide)) (fC.2.1 1 (by decide)) (fC.2.1 4 (by decide)) (fC.2.1 5 (by decide)) (fC.2.1 6 (by decide)) (fC.2.1 7 (by decide)) (fC.2.2 0 (by decide)) (fR.1 3 (by decide)) (fR.2.1 2 (by decide)) (fR.2.1 3 (by decide)) (fR.2.1 4 (by decide)) (fR.2.1 5 (by decide)) (fR.2.1 6 (by decide)), fa_c i.2.2.2.2.1 (fC.1 11 (by decide)) (fC.1 12 (by decide)) (fR.1 4 (by decide)) (fR.1 5 (by decide)), ivP_c i.2.2.2.2.2.1 (fC.1 25 (by decide)) (fC.2.1 28 (by decide)) (fR.1 29 (by decide)) (fR.1 30 (by decide)) (fR.2.1 32 (by decide)) (fR.2.1 33 (by decide)), ivL_c i.2.2.2.2.2.2.1 (fC.1 20 (by decide)), mdC_c i.2.2.2.2.2.2.2.1 (fC.1 23 (by decide)) (fC.1 22 (by decide)), mdR_c i.2.2.2.2.2.2.2.2.1 (fR.1 31 (by decide)), cn4_c i.2.2.2.2.2.2.2.2.2.1 (fC.2.1 21 (by decide)) (fR.1 19 (by decide)) (fR.1 20 (by decide)) (fR.1 21 (by decide)) (fR.1 22 (by decide)), (by rw [fR.2.1 38 (by decide)]; exact i.2.2.2.2.2.2.2.2.2.2.1), mo_c i.2.2.2.2.2.2.2.2.2.2.2.1 (fC.1 23 (by decide)) (fC.2.1 23 (by decide)) (fC.2.2 7 (by decide)) (fR.1 31 (by decide)) (fR.2.1 34 (by decide)) (fR.2.1 35 (by decide)), cac_c i.2.2.2.2.2.2.2.2.2.2.2.2 (fC.1 2 (by decide)) (fC.2.1 4 (by decide)) (fC.2.1 5 (by decide)) (fC.2.1 6 (by decide)) (fC.1 22 (by decide)) (fC.1 23 (by decide)) (fC.2.1 23 (by decide)) (fC.2.2 7 (by decide)) (fC.2.2 9 (by decide))⟩⟩
theorem uv_read (v : Int32) (pl : Bool) (hN : 300000 ≤ N) (i : In3 SC SR) : ∃ r SC' SR', zf_X10_read N z v (if pl = true then 0 else 1) SC = some (r, SC') ∧ zf_X11_read N z v (if pl = true then 0 else 1) SR = some (r, SR') ∧ In3 SC' SR' := by
  obtain ⟨r, SC', SR', e1, e2, h1, h2, h3, hx, fC, fR⟩ := st_read2 (N := N) (z := z) v pl (by omega) i.1 i.2.2.1 i.2.2.2.1 i.2.2.2.2.1
  exact ⟨r, SC', SR', e1, e2, ⟨h1, tp_c i.2.1 (fC.1 1 (by decide)) (fC.2.1 3 (by decide)) (fR.1 2 (by decide)) (fR.2.1 1 (by decide)), (by rw [fR.2.1 0 (by decide)]; exact i.2.2.1), h2, h3, ivP_c i.2.2.2.2.2.1 (fC.1 25 (by decide)) (fC.2.1 28 (by decide)) (fR.1 29 (by decide)) (fR.1 30 (by decide)) (fR.2.1 32 (by decide)) (fR.2.1 33 (by decide)), ivL_c i.2.2.2.2.2.2.1 (fC.1 20 (by decide)), mdC_c i.2.2.2.2.2.2.2.1 (fC.1 23 (by decide)) (fC.1 22 (by decide)), mdR_c i.2.2.2.2.2.2.2.2.1 (fR.1 31 (by decide)), cn4_c i.2.2.2.2.2.2.2.2.2.1 (fC.2.1 21 (by decide)) (fR.1 19 (by decide)) (fR.1 20 (by decide)) (fR.1 21 (by decide)) (fR.1 22 (by decide)), (by rw [fR.2.1 38 (by decide)]; exact i.2.2.2.2.2.2.2.2.2.2.1), mo_c i.2.2.2.2.2.2.2.2.2.2.2.1 (fC.1 23 (by decide)) (fC.2.1 23 (by decide)) (fC.2.2 7 (by decide)) (fR.1 31 (by decide)) (fR.2.1 34 (by decide)) (fR.2.1 35 (by decide)), (ca4 i.2.2.2.1 i.2.2.2.2.2.2.2.2.2.2.2.2 hx (fC.1 22 (by decide)) (fC.1 23 (by decide)) (fC.2.1 23 (by decide)) (fC.2.2 7 (by decide)) (fC.2.2 9 (by decide)))⟩⟩
theorem uv_fault (v : Int32) (hN : 300000 ≤ N) (i : In3 SC SR) : ∃ r SR', zf_X10_fault N z v SC = some r ∧ zf_X11_fault N z v SR = some (r, SR') ∧ In3 SC SR' := by
  obtain ⟨r, SR', e1, e2, fR⟩ := st_fault (N := N) (z := z) v i.2.2.2.2.1
  have fC : ag [] [] [] SC SC := ag_rf
  exact ⟨r, SR', e1, e2, ⟨tp_c i.1 (fC.1 0 (by decide)) (fC.2.1 2 (by decide)) (fR.1 1 (by decide)) (fR.2.1 0 (by decide)), tp_c i.2.1 (fC.1 1 (by decide)) (fC.2.1 3 (by decide)) (fR.1 2 (by decide)) (fR.2.1 1 (by decide)), (by rw [fR.2.1 0 (by decide)]; exact i.2.2.1), ivF_k i.2.2.2.1 (fC.1 2 (by decide)) (fC.2.1 0 (by decide)) (fC.2.1 1 (by decide)) (fC.2.1 4 (by decide)) (fC.2.1 5 (by decide)) (fC.2.1 6 (by decide)) (fC.2.1 7 (by decide)) (fC.2.2 0 (by decide)) (fR.1 3 (by decide)) (fR.2.1 2 (by decide)) (fR.2.1 3 (by decide)) (fR.2.1 4 (by decide)) (fR.2.1 5 (by decide)) (fR.2.1 6 (by decide)), fa_c i.2.2.2.2.1 (fC.1 11 (by decide)) (fC.1 12 (by decide)) (fR.1 4 (by decide)) (fR.1 5 (by decide)), ivP_c i.2.2.2.2.2.1 (fC.1 25 (by decide)) (fC.2.1 28 (by decide)) (fR.1 29 (by decide)) (fR.1 30 (by decide)) (fR.2.1 32 (by decide)) (fR.2.1 33 (by decide)), ivL_c i.2.2.2.2.2.2.1 (fC.1 20 (by decide)), mdC_c i.2.2.2.2.2.2.2.1 (fC.1 23 (by decide)) (fC.1 22 (by decide)), mdR_c i.2.2.2.2.2.2.2.2.1 (fR.1 31 (by decide)), cn4_c i.2.2.2.2.2.2.2.2.2.1 (fC.2.1 21 (by decide)) (fR.1 19 (by decide)) (fR.1 20 (by decide)) (fR.1 21 (by decide)) (fR.1 22 (by decide)), (by rw [fR.2.1 38 (by decide)]; exact i.2.2.2.2.2.2.2.2.2.2.1), mo_c i.2.2.2.2.2.2.2.2.2.2.2.1 (fC.1 23 (by decide)) (fC.2.1 23 (by decide)) (fC.2.2 7 (by decide)) (fR.1 31 (by decide)) (fR.2.1 34 (by decide)) (fR.2.1 35 (by decide)), cac_c i.2.2.2.2.2.2.2.2.2.2.2.2 (fC.1 2 (by decide)) (fC.2.1 4 (by decide)) (fC.2.1 5 (by decide)) (fC.2.1 6 (by decide)) (fC.1 22 (by decide)) (fC.1 23 (by decide)) (fC.2.1 23 (by decide)) (fC.2.2 7 (by decide)) (fC.2.2 9 (by decide))⟩⟩
theorem uv_set (v : Int32) (w : Int32) (hN : 300000 ≤ N) (i : In3 SC SR) : ∃ r SC' SR', zf_X10_set N z v w SC = some (r, SC') ∧ zf_X11_set N z v w SR = some (r, SR') ∧ In3 SC' SR' := by
  obtain ⟨L, g1, g2, g3, fs⟩ := ivF_fs i.2.2.2.1
  obtain ⟨r, SC', SR', e1, e2, h1, fC, fR⟩ := st_set (N := N) (z := z) v w (by omega) fs
  have F' : ivF SC' SR' := by
    refine ⟨L, g1, ?_, ?_, fun f hf => (h1.2.2.2.1 f hf).2.2.2, h1.2.2.2.2⟩
    · unfold tbC at g2 ⊢
      rw [fC.1 2 (by decide), fC.2.1 4 (by decide), fC.2.1 5 (by decide), fC.2.1 6 (by decide), fC.2.2 0 (by decide)]; exact g2
    · unfold tbR at g3 ⊢
      rw [fR.1 3 (by decide), fR.2.1 2 (by decide), fR.2.1 3 (by decide), fR.2.1 4 (by decide)]; exact g3
  exact ⟨r, SC', SR', e1, e2, ⟨tp_c i.1 (fC.1 0 (by decide)) (fC.2.1 2 (by decide)) (fR.1 1 (by decide)) (fR.2.1 0 (by decide)), tp_c i.2.1 (fC.1 1 (by decide)) (fC.2.1 3 (by decide)) (fR.1 2 (by decide)) (fR.2.1 1 (by decide)), (by rw [fR.2.1 0 (by decide)]; exact i.2.2.1), F', fa_c i.2.2.2.2.1 (fC.1 11 (by decide)) (fC.1 12 (by decide)) (fR.1 4 (by decide)) (fR.1 5 (by decide)), ivP_c i.2.2.2.2.2.1 (fC.1 25 (by decide)) (fC.2.1 28 (by decide)) (fR.1 29 (by decide)) (fR.1 30 (by decide)) (fR.2.1 32 (by decide)) (fR.2.1 33 (by decide)), ivL_c i.2.2.2.2.2.2.1 (fC.1 20 (by decide)), mdC_c i.2.2.2.2.2.2.2.1 (fC.1 23 (by decide)) (fC.1 22 (by decide)), mdR_c i.2.2.2.2.2.2.2.2.1 (fR.1 31 (by decide)), cn4_c i.2.2.2.2.2.2.2.2.2.1 (fC.2.1 21 (by decide)) (fR.1 19 (by decide)) (fR.1 20 (by decide)) (fR.1 21 (by decide)) (fR.1 22 (by decide)), (by rw [fR.2.1 38 (by decide)]; exact i.2.2.2.2.2.2.2.2.2.2.1), mo_c i.2.2.2.2.2.2.2.2.2.2.2.1 (fC.1 23 (by decide)) (fC.2.1 23 (by decide)) (fC.2.2 7 (by decide)) (fR.1 31 (by decide)) (fR.2.1 34 (by decide)) (fR.2.1 35 (by decide)), cac_c i.2.2.2.2.2.2.2.2.2.2.2.2 (fC.1 2 (by decide)) (fC.2.1 4 (by decide)) (fC.2.1 5 (by decide)) (fC.2.1 6 (by decide)) (fC.1 22 (by decide)) (fC.1 23 (by decide)) (fC.2.1 23 (by decide)) (fC.2.2 7 (by decide)) (fC.2.2 9 (by decide))⟩⟩
theorem uv_slot (v : Int32) (w : Int32) (hN : 300000 ≤ N) (i : In3 SC SR) : ∃ r SR', zf_X10_slot N z v w SC = some r ∧ zf_X11_slot N z v w SR = some (r, SR') ∧ In3 SC SR' := by
  obtain ⟨r, SR', e1, e2, fR⟩ := st_slot (N := N) (z := z) v w (ivF_same i.2.2.2.1).2
  have fC : ag [] [] [] SC SC := ag_rf
  exact ⟨r, SR', e1, e2, ⟨tp_c i.1 (fC.1 0 (by decide)) (fC.2.1 2 (by decide)) (fR.1 1 (by decide)) (fR.2.1 0 (by decide)), tp_c i.2.1 (fC.1 1 (by decide)) (fC.2.1 3 (by decide)) (fR.1 2 (by decide)) (fR.2.1 1 (by decide)), (by rw [fR.2.1 0 (by decide)]; exact i.2.2.1), ivF_k i.2.2.2.1 (fC.1 2 (by decide)) (fC.2.1 0 (by decide)) (fC.2.1 1 (by decide)) (fC.2.1 4 (by decide)) (fC.2.1 5 (by decide)) (fC.2.1 6 (by decide)) (fC.2.1 7 (by decide)) (fC.2.2 0 (by decide)) (fR.1 3 (by decide)) (fR.2.1 2 (by decide)) (fR.2.1 3 (by decide)) (fR.2.1 4 (by decide)) (fR.2.1 5 (by decide)) (fR.2.1 6 (by decide)), fa_c i.2.2.2.2.1 (fC.1 11 (by decide)) (fC.1 12 (by decide)) (fR.1 4 (by decide)) (fR.1 5 (by decide)), ivP_c i.2.2.2.2.2.1 (fC.1 25 (by decide)) (fC.2.1 28 (by decide)) (fR.1 29 (by decide)) (fR.1 30 (by decide)) (fR.2.1 32 (by decide)) (fR.2.1 33 (by decide)), ivL_c i.2.2.2.2.2.2.1 (fC.1 20 (by decide)), mdC_c i.2.2.2.2.2.2.2.1 (fC.1 23 (by decide)) (fC.1 22 (by decide)), mdR_c i.2.2.2.2.2.2.2.2.1 (fR.1 31 (by decide)), cn4_c i.2.2.2.2.2.2.2.2.2.1 (fC.2.1 21 (by decide)) (fR.1 19 (by decide)) (fR.1 20 (by decide)) (fR.1 21 (by decide)) (fR.1 22 (by decide)), (by rw [fR.2.1 38 (by decide)]; exact i.2.2.2.2.2.2.2.2.2.2.1), mo_c i.2.2.2.2.2.2.2.2.2.2.2.1 (fC.1 23 (by decide)) (fC.2.1 23 (by decide)) (fC.2.2 7 (by decide)) (fR.1 31 (by decide)) (fR.2.1 34 (by decide)) (fR.2.1 35 (by decide)), cac_c i.2.2.2.2.2.2.2.2.2.2.2.2 (fC.1 2 (by decide)) (fC.2.1 4 (by decide)) (fC.2.1 5 (by decide)) (fC.2.1 6 (by decide)) (fC.1 22 (by decide)) (fC.1 23 (by decide)) (fC.2.1 23 (by decide)) (fC.2.2 7 (by decide)) (fC.2.2 9 (by decide))⟩⟩
theorem uv_formulas (hN : 300000 ≤ N) (i : In3 SC SR) : ∃ r SR', zf_X10_formulas N z SC = some r ∧ zf_X11_formulas N z SR = some (r, SR') ∧ In3 SC SR' := by
  obtain ⟨r, SR', e1, e2, fR⟩ := st_formulas (N := N) (z := z) (ivF_same i.2.2.2.1).1
  have fC : ag [] [] [] SC SC := ag_rf
  exact ⟨r, SR', e1, e2, ⟨tp_c i.1 (fC.1 0 (by decide)) (fC.2.1 2 (by decide)) (fR.1 1 (by decide)) (fR.2.1 0 (by decide)), tp_c i.2.1 (fC.1 1 (by decide)) (fC.2.1 3 (by decide)) (fR.1 2 (by decide)) (fR.2.1 1 (by decide)), (by rw [fR.2.1 0 (by decide)]; exact i.2.2.1), ivF_k i.2.2.2.1 (fC.1 2 (by decide)) (fC.2.1 0 (by decide)) (fC.2.1 1 (by decide)) (fC.2.1 4 (by decide)) (fC.2.1 5 (by decide)) (fC.2.1 6 (by decide)) (fC.2.1 7 (by decide)) (fC.2.2 0 (by decide)) (fR.1 3 (by decide)) (fR.2.1 2 (by decide)) (fR.2.1 3 (by decide)) (fR.2.1 4 (by decide)) (fR.2.1 5 (by decide)) (fR.2.1 6 (by decide)), fa_c i.2.2.2.2.1 (fC.1 11 (by decide)) (fC.1 12 (by decide)) (fR.1 4 (by decide)) (fR.1 5 (by decide)), ivP_c i.2.2.2.2.2.1 (fC.1 25 (by decide)) (fC.2.1 28 (by decide)) (fR.1 29 (by decide)) (fR.1 30 (by decide)) (fR.2.1 32 (by decide)) (fR.2.1 33 (by decide)), ivL_c i.2.2.2.2.2.2.1 (fC.1 20 (by decide)), mdC_c i.2.2.2.2.2.2.2.1 (fC.1 23 (by decide)) (fC.1 22 (by decide)), mdR_c i.2.2.2.2.2.2.2.2.1 (fR.1 31 (by decide)), cn4_c i.2.2.2.2.2.2.2.2.2.1 (fC.2.1 21 (by decide)) (fR.1 19 (by decide)) (fR.1 20 (by decide)) (fR.1 21 (by decide)) (fR.1 22 (by decide)), (by rw [fR.2.1 38 (by decide)]; exact i.2.2.2.2.2.2.2.2.2.2.1), mo_c i.2.2.2.2.2.2.2.2.2.2.2.1 (fC.1 23 (by decide)) (fC.2.1 23 (by decide)) (fC.2.2 7 (by decide)) (fR.1 31 (by decide)) (fR.2.1 34 (by decide)) (fR.2.1 35 (by decide)), cac_c i.2.2.2.2.2.2.2.2.2.2.2.2 (fC.1 2 (by decide)) (fC.2.1 4 (by decide)) (fC.2.1 5 (by decide)) (fC.2.1 6 (by decide)) (fC.1 22 (by decide)) (fC.1 23 (by decide)) (fC.2.1 23 (by decide)) (fC.2.2 7 (by decide)) (fC.2.2 9 (by decide))⟩⟩
theorem uv_formula (v : Int32) (w : Int32) (hN : 300000 ≤ N) (i : In3 SC SR) : ∃ r SR', zf_X10_formula N z v w SC = some r ∧ zf_X11_formula N z v w SR = some (r, SR') ∧ In3 SC SR' := by
  obtain ⟨r, SR', e1, e2, fR⟩ := st_formula (N := N) (z := z) v w (ivF_same i.2.2.2.1).1
  have fC : ag [] [] [] SC SC := ag_rf
  exact ⟨r, SR', e1, e2, ⟨tp_c i.1 (fC.1 0 (by decide)) (fC.2.1 2 (by decide)) (fR.1 1 (by decide)) (fR.2.1 0 (by decide)), tp_c i.2.1 (fC.1 1 (by decide)) (fC.2.1 3 (by decide)) (fR.1 2 (by decide)) (fR.2.1 1 (by decide)), (by rw [fR.2.1 0 (by decide)]; exact i.2.2.1), ivF_k i.2.2.2.1 (fC.1 2 (by decide)) (fC.2.1 0 (by decide)) (fC.2.1 1 (by decide)) (fC.2.1 4 (by decide)) (fC.2.1 5 (by decide)) (fC.2.1 6 (by decide)) (fC.2.1 7 (by decide)) (fC.2.2 0 (by decide)) (fR.1 3 (by decide)) (fR.2.1 2 (by decide)) (fR.2.1 3 (by decide)) (fR.2.1 4 (by decide)) (fR.2.1 5 (by decide)) (fR.2.1 6 (by decide)), fa_c i.2.2.2.2.1 (fC.1 11 (by decide)) (fC.1 12 (by decide)) (fR.1 4 (by decide)) (fR.1 5 (by decide)), ivP_c i.2.2.2.2.2.1 (fC.1 25 (by decide)) (fC.2.1 28 (by decide)) (fR.1 29 (by decide)) (fR.1 30 (by decide)) (fR.2.1 32 (by decide)) (fR.2.1 33 (by decide)), ivL_c i.2.2.2.2.2.2.1 (fC.1 20 (by decide)), mdC_c i.2.2.2.2.2.2.2.1 (fC.1 23 (by decide)) (fC.1 22 (by decide)), mdR_c i.2.2.2.2.2.2.2.2.1 (fR.1 31 (by decide)), cn4_c i.2.2.2.2.2.2.2.2.2.1 (fC.2.1 21 (by decide)) (fR.1 19 (by decide)) (fR.1 20 (by decide)) (fR.1 21 (by decide)) (fR.1 22 (by decide)), (by rw [fR.2.1 38 (by decide)]; exact i.2.2.2.2.2.2.2.2.2.2.1), mo_c i.2.2.2.2.2.2.2.2.2.2.2.1 (fC.1 23 (by decide)) (fC.2.1 23 (by decide)) (fC.2.2 7 (by decide)) (fR.1 31 (by decide)) (fR.2.1 34 (by decide)) (fR.2.1 35 (by decide)), cac_c i.2.2.2.2.2.2.2.2.2.2.2.2 (fC.1 2 (by decide)) (fC.2.1 4 (by decide)) (fC.2.1 5 (by decide)) (fC.2.1 6 (by decide)) (fC.1 22 (by decide)) (fC.1 23 (by decide)) (fC.2.1 23 (by decide)) (fC.2.2 7 (by decide)) (fC.2.2 9 (by decide))⟩⟩
theorem uv_tell (v : Int32) (hN : 300000 ≤ N) (i : In3 SC SR) : ∃ r SC' SR', zf_X10_tell N z v SC = some (r, SC') ∧ zf_X11_tell N z v SR = some (r, SR') ∧ In3 SC' SR' := by
  obtain ⟨L, g1, g2, g3, fs⟩ := ivF_fs i.2.2.2.1
  obtain ⟨r, SC', SR', e1, e2, h1, fC, fR⟩ := st_tell (N := N) (z := z) v (by omega) i.2.1 fs
  exact ⟨r, SC', SR', e1, e2, ⟨tp_c i.1 (fC.1 0 (by decide)) (fC.2.1 2 (by decide)) (fR.1 1 (by decide)) (fR.2.1 0 (by decide)), h1, (by rw [fR.2.1 0 (by decide)]; exact i.2.2.1), ivF_k i.2.2.2.1 (fC.1 2 (by decide)) (fC.2.1 0 (by decide)) (fC.2.1 1 (by decide)) (fC.2.1 4 (by decide)) (fC.2.1 5 (by decide)) (fC.2.1 6 (by decide)) (fC.2.1 7 (by decide)) (fC.2.2 0 (by decide)) (fR.1 3 (by decide)) (fR.2.1 2 (by decide)) (fR.2.1 3 (by decide)) (fR.2.1 4 (by decide)) (fR.2.1 5 (by decide)) (fR.2.1 6 (by decide)), fa_c i.2.2.2.2.1 (fC.1 11 (by decide)) (fC.1 12 (by decide)) (fR.1 4 (by decide)) (fR.1 5 (by decide)), ivP_c i.2.2.2.2.2.1 (fC.1 25 (by decide)) (fC.2.1 28 (by decide)) (fR.1 29 (by decide)) (fR.1 30 (by decide)) (fR.2.1 32 (by decide)) (fR.2.1 33 (by decide)), ivL_c i.2.2.2.2.2.2.1 (fC.1 20 (by decide)), mdC_c i.2.2.2.2.2.2.2.1 (fC.1 23 (by decide)) (fC.1 22 (by decide)), mdR_c i.2.2.2.2.2.2.2.2.1 (fR.1 31 (by decide)), cn4_c i.2.2.2.2.2.2.2.2.2.1 (fC.2.1 21 (by decide)) (fR.1 19 (by decide)) (fR.1 20 (by decide)) (fR.1 21 (by decide)) (fR.1 22 (by decide)), (by rw [fR.2.1 38 (by decide)]; exact i.2.2.2.2.2.2.2.2.2.2.1), mo_c i.2.2.2.2.2.2.2.2.2.2.2.1 (fC.1 23 (by decide)) (fC.2.1 23 (by decide)) (fC.2.2 7 (by decide)) (fR.1 31 (by decide)) (fR.2.1 34 (by decide)) (fR.2.1 35 (by decide)), cac_c i.2.2.2.2.2.2.2.2.2.2.2.2 (fC.1 2 (by decide)) (fC.2.1 4 (by decide)) (fC.2.1 5 (by decide)) (fC.2.1 6 (by decide)) (fC.1 22 (by decide)) (fC.1 23 (by decide)) (fC.2.1 23 (by decide)) (fC.2.2 7 (by decide)) (fC.2.2 9 (by decide))⟩⟩
theorem uv_prove (v : Int32) (w : Int32) (hN : 300000 ≤ N) (i : In3 SC SR) : ∃ r SC' SR', zf_X10_prove N z v w SC = some (r, SC') ∧ zf_X11_prove N z v w SR = some (r, SR') ∧ In3 SC' SR' := by
  obtain ⟨r, SC', SR', e1, e2, h1, h2, h3, h4, h5, h6, h7, fC, fR⟩ := st_prove2 (N := N) (z := z) v w hN i.2.2.2.1 i.2.2.2.2.2.1 i.2.2.2.2.2.2.1 i.2.2.2.2.2.2.2.1 i.2.2.2.2.2.2.2.2.1 i.2.2.2.2.2.2.2.2.2.1 i.2.2.2.2.2.2.2.2.2.2.2.1
  exact ⟨r, SC', SR', e1, e2, ⟨tp_c i.1 (fC.1 0 (by decide)) (fC.2.1 2 (by decide)) (fR.1 1 (by decide)) (fR.2.1 0 (by decide)), tp_c i.2.1 (fC.1 1 (by decide)) (fC.2.1 3 (by decide)) (fR.1 2 (by decide)) (fR.2.1 1 (by decide)), (by rw [fR.2.1 0 (by decide)]; exact i.2.2.1), ivF_k i.2.2.2.1 (fC.1 2 (by decide)) (fC.2.1 0 (by decide)) (fC.2.1 1 (by decide)) (fC.2.1 4 (by decide)) (fC.2.1 5 (by decide)) (fC.2.1 6 (by decide)) (fC.2.1 7 (by decide)) (fC.2.2 0 (by decide)) (fR.1 3 (by decide)) (fR.2.1 2 (by decide)) (fR.2.1 3 (by decide)) (fR.2.1 4 (by decide)) (fR.2.1 5 (by decide)) (fR.2.1 6 (by decide)), fa_c i.2.2.2.2.1 (fC.1 11 (by decide)) (fC.1 12 (by decide)) (fR.1 4 (by decide)) (fR.1 5 (by decide)), h1, h2, h3, h4, h5, (by rw [fR.2.1 38 (by decide)]; exact i.2.2.2.2.2.2.2.2.2.2.1), h6, (ca3 i.2.2.2.1 i.2.2.2.2.2.2.2.2.2.2.2.2 h6 h7 (fC.1 2 (by decide)) (fC.2.1 4 (by decide)) (fC.2.1 5 (by decide)) (fC.2.1 6 (by decide)))⟩⟩
theorem uv_count (v : Int32) (hN : 300000 ≤ N) (i : In3 SC SR) : ∃ r SR', zf_X10_count N z v SC = some r ∧ zf_X11_count N z v SR = some (r, SR') ∧ In3 SC SR' := by
  obtain ⟨r, SR', e1, e2, fR⟩ := st_count (N := N) (z := z) v i.2.2.2.2.2.2.2.2.2.1
  have fC : ag [] [] [] SC SC := ag_rf
  exact ⟨r, SR', e1, e2, ⟨tp_c i.1 (fC.1 0 (by decide)) (fC.2.1 2 (by decide)) (fR.1 1 (by decide)) (fR.2.1 0 (by decide)), tp_c i.2.1 (fC.1 1 (by decide)) (fC.2.1 3 (by decide)) (fR.1 2 (by decide)) (fR.2.1 1 (by decide)), (by rw [fR.2.1 0 (by decide)]; exact i.2.2.1), ivF_k i.2.2.2.1 (fC.1 2 (by decide)) (fC.2.1 0 (by decide)) (fC.2.1 1 (by decide)) (fC.2.1 4 (by decide)) (fC.2.1 5 (by decide)) (fC.2.1 6 (by decide)) (fC.2.1 7 (by decide)) (fC.2.2 0 (by decide)) (fR.1 3 (by decide)) (fR.2.1 2 (by decide)) (fR.2.1 3 (by decide)) (fR.2.1 4 (by decide)) (fR.2.1 5 (by decide)) (fR.2.1 6 (by decide)), fa_c i.2.2.2.2.1 (fC.1 11 (by decide)) (fC.1 12 (by decide)) (fR.1 4 (by decide)) (fR.1 5 (by decide)), ivP_c i.2.2.2.2.2.1 (fC.1 25 (by decide)) (fC.2.1 28 (by decide)) (fR.1 29 (by decide)) (fR.1 30 (by decide)) (fR.2.1 32 (by decide)) (fR.2.1 33 (by decide)), ivL_c i.2.2.2.2.2.2.1 (fC.1 20 (by decide)), mdC_c i.2.2.2.2.2.2.2.1 (fC.1 23 (by decide)) (fC.1 22 (by decide)), mdR_c i.2.2.2.2.2.2.2.2.1 (fR.1 31 (by decide)), cn4_c i.2.2.2.2.2.2.2.2.2.1 (fC.2.1 21 (by decide)) (fR.1 19 (by decide)) (fR.1 20 (by decide)) (fR.1 21 (by decide)) (fR.1 22 (by decide)), (by rw [fR.2.1 38 (by decide)]; exact i.2.2.2.2.2.2.2.2.2.2.1), mo_c i.2.2.2.2.2.2.2.2.2.2.2.1 (fC.1 23 (by decide)) (fC.2.1 23 (by decide)) (fC.2.2 7 (by decide)) (fR.1 31 (by decide)) (fR.2.1 34 (by decide)) (fR.2.1 35 (by decide)), cac_c i.2.2.2.2.2.2.2.2.2.2.2.2 (fC.1 2 (by decide)) (fC.2.1 4 (by decide)) (fC.2.1 5 (by decide)) (fC.2.1 6 (by decide)) (fC.1 22 (by decide)) (fC.1 23 (by decide)) (fC.2.1 23 (by decide)) (fC.2.2 7 (by decide)) (fC.2.2 9 (by decide))⟩⟩
theorem uv_proof (hN : 300000 ≤ N) (i : In3 SC SR) : ∃ r SC' SR', zf_X10_proof N z SC = some (r, SC') ∧ zf_X11_proof N z SR = some (r, SR') ∧ In3 SC' SR' := by
  obtain ⟨r, SC', SR', e1, e2, h1, h2, h3, fC, fR⟩ := st_proof (N := N) (z := z) (by omega) i.2.2.2.2.2.1 i.2.1
  exact ⟨r, SC', SR', e1, e2, ⟨tp_c i.1 (fC.1 0 (by decide)) (fC.2.1 2 (by decide)) (fR.1 1 (by decide)) (fR.2.1 0 (by decide)), h1, (by rw [fR.2.1 0 (by decide)]; exact i.2.2.1), ivF_k i.2.2.2.1 (fC.1 2 (by decide)) (fC.2.1 0 (by decide)) (fC.2.1 1 (by decide)) (fC.2.1 4 (by decide)) (fC.2.1 5 (by decide)) (fC.2.1 6 (by decide)) (fC.2.1 7 (by decide)) (fC.2.2 0 (by decide)) (fR.1 3 (by decide)) (fR.2.1 2 (by decide)) (fR.2.1 3 (by decide)) (fR.2.1 4 (by decide)) (fR.2.1 5 (by decide)) (fR.2.1 6 (by decide)), fa_c i.2.2.2.2.1 (fC.1 11 (by decide)) (fC.1 12 (by decide)) (fR.1 4 (by decide)) (fR.1 5 (by decide)), ivP_c i.2.2.2.2.2.1 h2 h3 (fR.1 29 (by decide)) (fR.1 30 (by decide)) (fR.2.1 32 (by decide)) (fR.2.1 33 (by decide)), ivL_c i.2.2.2.2.2.2.1 (fC.1 20 (by decide)), mdC_c i.2.2.2.2.2.2.2.1 (fC.1 23 (by decide)) (fC.1 22 (by decide)), mdR_c i.2.2.2.2.2.2.2.2.1 (fR.1 31 (by decide)), cn4_c i.2.2.2.2.2.2.2.2.2.1 (fC.2.1 21 (by decide)) (fR.1 19 (by decide)) (fR.1 20 (by decide)) (fR.1 21 (by decide)) (fR.1 22 (by decide)), (by rw [fR.2.1 38 (by decide)]; exact i.2.2.2.2.2.2.2.2.2.2.1), mo_c i.2.2.2.2.2.2.2.2.2.2.2.1 (fC.1 23 (by decide)) (fC.2.1 23 (by decide)) (fC.2.2 7 (by decide)) (fR.1 31 (by decide)) (fR.2.1 34 (by decide)) (fR.2.1 35 (by decide)), cac_c i.2.2.2.2.2.2.2.2.2.2.2.2 (fC.1 2 (by decide)) (fC.2.1 4 (by decide)) (fC.2.1 5 (by decide)) (fC.2.1 6 (by decide)) (fC.1 22 (by decide)) (fC.1 23 (by decide)) (fC.2.1 23 (by decide)) (fC.2.2 7 (by decide)) (fC.2.2 9 (by decide))⟩⟩
theorem uv_verify (v : Int32) (hN : 300000 ≤ N) (i : In3 SC SR) : ∃ r SC' SR', zf_X10_verify N z v SC = some (r, SC') ∧ zf_X11_verify N z v SR = some (r, SR') ∧ In3 SC' SR' := by
  obtain ⟨r, SC', SR', e1, e2, h1, fC, fR⟩ := st_verify (N := N) (z := z) v (by omega) i.2.2.2.1 i.1
  exact ⟨r, SC', SR', e1, e2, ⟨h1, tp_c i.2.1 (fC.1 1 (by decide)) (fC.2.1 3 (by decide)) (fR.1 2 (by decide)) (fR.2.1 1 (by decide)), (by rw [fR.2.1 0 (by decide)]; exact i.2.2.1), ivF_k i.2.2.2.1 (fC.1 2 (by decide)) (fC.2.1 0 (by decide)) (fC.2.1 1 (by decide)) (fC.2.1 4 (by decide)) (fC.2.1 5 (by decide)) (fC.2.1 6 (by decide)) (fC.2.1 7 (by decide)) (fC.2.2 0 (by decide)) (fR.1 3 (by decide)) (fR.2.1 2 (by decide)) (fR.2.1 3 (by decide)) (fR.2.1 4 (by decide)) (fR.2.1 5 (by decide)) (fR.2.1 6 (by decide)), fa_c i.2.2.2.2.1 (fC.1 11 (by decide)) (fC.1 12 (by decide)) (fR.1 4 (by decide)) (fR.1 5 (by decide)), ivP_c i.2.2.2.2.2.1 (fC.1 25 (by decide)) (fC.2.1 28 (by decide)) (fR.1 29 (by decide)) (fR.1 30 (by decide)) (fR.2.1 32 (by decide)) (fR.2.1 33 (by decide)), ivL_c i.2.2.2.2.2.2.1 (fC.1 20 (by decide)), mdC_c i.2.2.2.2.2.2.2.1 (fC.1 23 (by decide)) (fC.1 22 (by decide)), mdR_c i.2.2.2.2.2.2.2.2.1 (fR.1 31 (by decide)), cn4_c i.2.2.2.2.2.2.2.2.2.1 (fC.2.1 21 (by decide)) (fR.1 19 (by decide)) (fR.1 20 (by decide)) (fR.1 21 (by decide)) (fR.1 22 (by decide)), (by rw [fR.2.1 38 (by decide)]; exact i.2.2.2.2.2.2.2.2.2.2.1), mo_c i.2.2.2.2.2.2.2.2.2.2.2.1 (fC.1 23 (by decide)) (fC.2.1 23 (by decide)) (fC.2.2 7 (by decide)) (fR.1 31 (by decide)) (fR.2.1 34 (by decide)) (fR.2.1 35 (by decide)), cac_c i.2.2.2.2.2.2.2.2.2.2.2.2 (fC.1 2 (by decide)) (fC.2.1 4 (by decide)) (fC.2.1 5 (by decide)) (fC.2.1 6 (by decide)) (fC.1 22 (by decide)) (fC.1 23 (by decide)) (fC.2.1 23 (by decide)) (fC.2.2 7 (by decide)) (fC.2.2 9 (by decide))⟩⟩
theorem uv_worlds (hN : 300000 ≤ N) (i : In3 SC SR) : ∃ r SR', zf_X10_worlds N z SC = some r ∧ zf_X11_worlds N z SR = some (r, SR') ∧ In3 SC SR' := by
  obtain ⟨SR', e1, e2, fR⟩ := st_worlds (N := N) (z := z) (SC := SC) (SR := SR)
  have fC : ag [] [] [] SC SC := ag_rf
  obtain ⟨W, hW, h1, h2, -⟩ := id i.2.2.2.2.2.2.2.2.2.2.2.1
  have e : SR.1 31 = SC.1 23 := h2.trans h1.symm
  rw [e] at e2
  exact ⟨_, SR', e1, e2, ⟨tp_c i.1 (fC.1 0 (by decide)) (fC.2.1 2 (by decide)) (fR.1 1 (by decide)) (fR.2.1 0 (by decide)), tp_c i.2.1 (fC.1 1 (by decide)) (fC.2.1 3 (by decide)) (fR.1 2 (by decide)) (fR.2.1 1 (by decide)), (by rw [fR.2.1 0 (by decide)]; exact i.2.2.1), ivF_k i.2.2.2.1 (fC.1 2 (by decide)) (fC.2.1 0 (by decide)) (fC.2.1 1 (by decide)) (fC.2.1 4 (by decide)) (fC.2.1 5 (by decide)) (fC.2.1 6 (by decide)) (fC.2.1 7 (by decide)) (fC.2.2 0 (by decide)) (fR.1 3 (by decide)) (fR.2.1 2 (by decide)) (fR.2.1 3 (by decide)) (fR.2.1 4 (by decide)) (fR.2.1 5 (by decide)) (fR.2.1 6 (by decide)), fa_c i.2.2.2.2.1 (fC.1 11 (by decide)) (fC.1 12 (by decide)) (fR.1 4 (by decide)) (fR.1 5 (by decide)), ivP_c i.2.2.2.2.2.1 (fC.1 25 (by decide)) (fC.2.1 28 (by decide)) (fR.1 29 (by decide)) (fR.1 30 (by decide)) (fR.2.1 32 (by decide)) (fR.2.1 33 (by decide)), ivL_c i.2.2.2.2.2.2.1 (fC.1 20 (by decide)), mdC_c i.2.2.2.2.2.2.2.1 (fC.1 23 (by decide)) (fC.1 22 (by decide)), mdR_c i.2.2.2.2.2.2.2.2.1 (fR.1 31 (by decide)), cn4_c i.2.2.2.2.2.2.2.2.2.1 (fC.2.1 21 (by decide)) (fR.1 19 (by decide)) (fR.1 20 (by decide)) (fR.1 21 (by decide)) (fR.1 22 (by decide)), (by rw [fR.2.1 38 (by decide)]; exact i.2.2.2.2.2.2.2.2.2.2.1), mo_c i.2.2.2.2.2.2.2.2.2.2.2.1 (fC.1 23 (by decide)) (fC.2.1 23 (by decide)) (fC.2.2 7 (by decide)) (fR.1 31 (by decide)) (fR.2.1 34 (by decide)) (fR.2.1 35 (by decide)), cac_c i.2.2.2.2.2.2.2.2.2.2.2.2 (fC.1 2 (by decide)) (fC.2.1 4 (by decide)) (fC.2.1 5 (by decide)) (fC.2.1 6 (by decide)) (fC.1 22 (by decide)) (fC.1 23 (by decide)) (fC.2.1 23 (by decide)) (fC.2.2 7 (by decide)) (fC.2.2 9 (by decide))⟩⟩
theorem uv_sees (v w : Int32) (hN : 300000 ≤ N) (i : In3 SC SR) : ∃ r q SR', zf_X10_sees N z v w SC = some (r, SC) ∧ zf_X11_sees N z v w SR = some (q, SR') ∧ In3 SC SR' ∧ ((r = none ∧ SR'.1 0 = 1) ∨ (r = some q ∧ SR'.1 0 = 0)) := by
  obtain ⟨r, q, SR', e1, e2, fR, t⟩ := st_sees (N := N) (z := z) v w i.2.2.2.2.2.2.2.2.2.2.2.1
  have fC : ag [] [] [] SC SC := ag_rf
  exact ⟨r, q, SR', e1, e2, ⟨tp_c i.1 (fC.1 0 (by decide)) (fC.2.1 2 (by decide)) (fR.1 1 (by decide)) (fR.2.1 0 (by decide)), tp_c i.2.1 (fC.1 1 (by decide)) (fC.2.1 3 (by decide)) (fR.1 2 (by decide)) (fR.2.1 1 (by decide)), (by rw [fR.2.1 0 (by decide)]; exact i.2.2.1), ivF_k i.2.2.2.1 (fC.1 2 (by decide)) (fC.2.1 0 (by decide)) (fC.2.1 1 (by decide)) (fC.2.1 4 (by decide)) (fC.2.1 5 (by decide)) (fC.2.1 6 (by decide)) (fC.2.1 7 (by decide)) (fC.2.2 0 (by decide)) (fR.1 3 (by decide)) (fR.2.1 2 (by decide)) (fR.2.1 3 (by decide)) (fR.2.1 4 (by decide)) (fR.2.1 5 (by decide)) (fR.2.1 6 (by decide)), fa_c i.2.2.2.2.1 (fC.1 11 (by decide)) (fC.1 12 (by decide)) (fR.1 4 (by decide)) (fR.1 5 (by decide)), ivP_c i.2.2.2.2.2.1 (fC.1 25 (by decide)) (fC.2.1 28 (by decide)) (fR.1 29 (by decide)) (fR.1 30 (by decide)) (fR.2.1 32 (by decide)) (fR.2.1 33 (by decide)), ivL_c i.2.2.2.2.2.2.1 (fC.1 20 (by decide)), mdC_c i.2.2.2.2.2.2.2.1 (fC.1 23 (by decide)) (fC.1 22 (by decide)), mdR_c i.2.2.2.2.2.2.2.2.1 (fR.1 31 (by decide)), cn4_c i.2.2.2.2.2.2.2.2.2.1 (fC.2.1 21 (by decide)) (fR.1 19 (by decide)) (fR.1 20 (by decide)) (fR.1 21 (by decide)) (fR.1 22 (by decide)), (by rw [fR.2.1 38 (by decide)]; exact i.2.2.2.2.2.2.2.2.2.2.1), mo_c i.2.2.2.2.2.2.2.2.2.2.2.1 (fC.1 23 (by decide)) (fC.2.1 23 (by decide)) (fC.2.2 7 (by decide)) (fR.1 31 (by decide)) (fR.2.1 34 (by decide)) (fR.2.1 35 (by decide)), cac_c i.2.2.2.2.2.2.2.2.2.2.2.2 (fC.1 2 (by decide)) (fC.2.1 4 (by decide)) (fC.2.1 5 (by decide)) (fC.2.1 6 (by decide)) (fC.1 22 (by decide)) (fC.1 23 (by decide)) (fC.2.1 23 (by decide)) (fC.2.2 7 (by decide)) (fC.2.2 9 (by decide))⟩, t⟩
theorem uv_cut (v : Int32) (hN : 300000 ≤ N) (i : In3 SC SR) : ∃ r SC' q SR', zf_X10_cut N z v SC = some (r, SC') ∧ zf_X11_cut N z v SR = some (q, SR') ∧ In3 SC' SR' ∧ ((r = none ∧ SR'.1 0 = 1) ∨ (r = some q ∧ SR'.1 0 = 0)) := by
  obtain ⟨r, SC', q, SR', e1, e2, hmo, fC, fR, t22, t⟩ := st_cut (N := N) (z := z) v (by omega) i.2.2.2.2.2.2.2.2.2.2.2.1
  obtain ⟨W, hW, h1, h2, -⟩ := id hmo
  have hm : mdC SC' := ⟨⟨W, hW, h1⟩, by
    rcases t22 with e | e
    · rw [e]; exact i.2.2.2.2.2.2.2.1.2
    · exact ⟨0, by omega, e⟩⟩
  exact ⟨r, SC', q, SR', e1, e2, ⟨tp_c i.1 (fC.1 0 (by decide)) (fC.2.1 2 (by decide)) (fR.1 1 (by decide)) (fR.2.1 0 (by decide)), tp_c i.2.1 (fC.1 1 (by decide)) (fC.2.1 3 (by decide)) (fR.1 2 (by decide)) (fR.2.1 1 (by decide)), (by rw [fR.2.1 0 (by decide)]; exact i.2.2.1), ivF_k i.2.2.2.1 (fC.1 2 (by decide)) (fC.2.1 0 (by decide)) (fC.2.1 1 (by decide)) (fC.2.1 4 (by decide)) (fC.2.1 5 (by decide)) (fC.2.1 6 (by decide)) (fC.2.1 7 (by decide)) (fC.2.2 0 (by decide)) (fR.1 3 (by decide)) (fR.2.1 2 (by decide)) (fR.2.1 3 (by decide)) (fR.2.1 4 (by decide)) (fR.2.1 5 (by decide)) (fR.2.1 6 (by decide)), fa_c i.2.2.2.2.1 (fC.1 11 (by decide)) (fC.1 12 (by decide)) (fR.1 4 (by decide)) (fR.1 5 (by decide)), ivP_c i.2.2.2.2.2.1 (fC.1 25 (by decide)) (fC.2.1 28 (by decide)) (fR.1 29 (by decide)) (fR.1 30 (by decide)) (fR.2.1 32 (by decide)) (fR.2.1 33 (by decide)), ivL_c i.2.2.2.2.2.2.1 (fC.1 20 (by decide)), hm, ⟨W, hW, h2⟩, cn4_c i.2.2.2.2.2.2.2.2.2.1 (fC.2.1 21 (by decide)) (fR.1 19 (by decide)) (fR.1 20 (by decide)) (fR.1 21 (by decide)) (fR.1 22 (by decide)), (by rw [fR.2.1 38 (by decide)]; exact i.2.2.2.2.2.2.2.2.2.2.1), hmo, (ca5 i.2.2.2.1 i.2.2.2.2.2.2.2.2.2.2.2.2 hmo t22 (fC.1 2 (by decide)))⟩, t⟩
theorem uv_fold (hN : 300000 ≤ N) (i : In3 SC SR) : ∃ r SC' SR', zf_X10_fold N z SC = some (r, SC') ∧ zf_X11_fold N z SR = some (r, SR') ∧ In3 SC' SR' := by
  obtain ⟨r, SC', SR', e1, e2, hmo, fC, fR, t22⟩ := st_fold (N := N) (z := z) (by omega) i.2.2.2.2.2.2.2.2.2.2.2.1
  obtain ⟨W, hW, h1, h2, -⟩ := id hmo
  exact ⟨r, SC', SR', e1, e2, ⟨tp_c i.1 (fC.1 0 (by decide)) (fC.2.1 2 (by decide)) (fR.1 1 (by decide)) (fR.2.1 0 (by decide)), tp_c i.2.1 (fC.1 1 (by decide)) (fC.2.1 3 (by decide)) (fR.1 2 (by decide)) (fR.2.1 1 (by decide)), (by rw [fR.2.1 0 (by decide)]; exact i.2.2.1), ivF_k i.2.2.2.1 (fC.1 2 (by decide)) (fC.2.1 0 (by decide)) (fC.2.1 1 (by decide)) (fC.2.1 4 (by decide)) (fC.2.1 5 (by decide)) (fC.2.1 6 (by decide)) (fC.2.1 7 (by decide)) (fC.2.2 0 (by decide)) (fR.1 3 (by decide)) (fR.2.1 2 (by decide)) (fR.2.1 3 (by decide)) (fR.2.1 4 (by decide)) (fR.2.1 5 (by decide)) (fR.2.1 6 (by decide)), fa_c i.2.2.2.2.1 (fC.1 11 (by decide)) (fC.1 12 (by decide)) (fR.1 4 (by decide)) (fR.1 5 (by decide)), ivP_c i.2.2.2.2.2.1 (fC.1 25 (by decide)) (fC.2.1 28 (by decide)) (fR.1 29 (by decide)) (fR.1 30 (by decide)) (fR.2.1 32 (by decide)) (fR.2.1 33 (by decide)), ivL_c i.2.2.2.2.2.2.1 (fC.1 20 (by decide)), ⟨⟨W, hW, h1⟩, 0, by omega, t22⟩, ⟨W, hW, h2⟩, cn4_c i.2.2.2.2.2.2.2.2.2.1 (fC.2.1 21 (by decide)) (fR.1 19 (by decide)) (fR.1 20 (by decide)) (fR.1 21 (by decide)) (fR.1 22 (by decide)), (by rw [fR.2.1 38 (by decide)]; exact i.2.2.2.2.2.2.2.2.2.2.1), hmo, (ca5 i.2.2.2.1 i.2.2.2.2.2.2.2.2.2.2.2.2 hmo (Or.inr t22) (fC.1 2 (by decide)))⟩⟩
theorem uv_holds (v w : Int32) (hN : 300000 ≤ N) (i : In3 SC SR) : ∃ r SC' q SR', zf_X10_holds N z v w SC = some (r, SC') ∧ zf_X11_holds N z v w SR = some (q, SR') ∧ In3 SC' SR' ∧ ((r = none ∧ SR'.1 0 = 1) ∨ (r = some q ∧ SR'.1 0 = 0)) := by
  obtain ⟨r, SC', q, SR', e1, e2, fC, fR, hca, hb, t⟩ := st_holds (N := N) (z := z) v w (by omega) i.2.2.2.1 i.2.2.2.2.2.2.2.2.2.2.2.1 i.2.2.2.2.2.2.2.2.2.2.2.2 i.2.2.2.2.2.2.2.2.2.2.1
  obtain ⟨n9, W9, t9, q1, q2, q3, q4, q5, q6, -⟩ := id hca
  exact ⟨r, SC', q, SR', e1, e2, ⟨tp_c i.1 (fC.1 0 (by decide)) (fC.2.1 2 (by decide)) (fR.1 1 (by decide)) (fR.2.1 0 (by decide)), tp_c i.2.1 (fC.1 1 (by decide)) (fC.2.1 3 (by decide)) (fR.1 2 (by decide)) (fR.2.1 1 (by decide)), (by rw [fR.2.1 0 (by decide)]; exact i.2.2.1), ivF_k i.2.2.2.1 (fC.1 2 (by decide)) (fC.2.1 0 (by decide)) (fC.2.1 1 (by decide)) (fC.2.1 4 (by decide)) (fC.2.1 5 (by decide)) (fC.2.1 6 (by decide)) (fC.2.1 7 (by decide)) (fC.2.2 0 (by decide)) (fR.1 3 (by decide)) (fR.2.1 2 (by decide)) (fR.2.1 3 (by decide)) (fR.2.1 4 (by decide)) (fR.2.1 5 (by decide)) (fR.2.1 6 (by decide)), fa_c i.2.2.2.2.1 (fC.1 11 (by decide)) (fC.1 12 (by decide)) (fR.1 4 (by decide)) (fR.1 5 (by decide)), ivP_c i.2.2.2.2.2.1 (fC.1 25 (by decide)) (fC.2.1 28 (by decide)) (fR.1 29 (by decide)) (fR.1 30 (by decide)) (fR.2.1 32 (by decide)) (fR.2.1 33 (by decide)), ivL_c i.2.2.2.2.2.2.1 (fC.1 20 (by decide)), ⟨⟨W9, q4, q3⟩, t9, by omega, q5⟩, mdR_c i.2.2.2.2.2.2.2.2.1 (fR.1 31 (by decide)), cn4_c i.2.2.2.2.2.2.2.2.2.1 (fC.2.1 21 (by decide)) (fR.1 19 (by decide)) (fR.1 20 (by decide)) (fR.1 21 (by decide)) (fR.1 22 (by decide)), hb, mo_c i.2.2.2.2.2.2.2.2.2.2.2.1 (fC.1 23 (by decide)) (fC.2.1 23 (by decide)) (fC.2.2 7 (by decide)) (fR.1 31 (by decide)) (fR.2.1 34 (by decide)) (fR.2.1 35 (by decide)), hca⟩, t⟩
theorem uv_world (v : Int32) (w : Int32) (hN : 300000 ≤ N) (i : In3 SC SR) : ∃ r SC' q SR', zf_X10_world N z v w SC = some (r, SC') ∧ zf_X11_world N z v w SR = some (q, SR') ∧ In3 SC' SR' := by
  obtain ⟨⟨W, hW, h23⟩, t, ht, h22⟩ := id i.2.2.2.2.2.2.2.1
  obtain ⟨W', hW', h31⟩ := id i.2.2.2.2.2.2.2.2.1
  obtain ⟨n, so, on, tw, d, hc, hx, -⟩ := ivF_cx i.2.2.2.1
  obtain ⟨r, e1⟩ := ck_world (N := N) (z := z) v w (by omega) h23 hW
  obtain ⟨q, SR', e2, fR⟩ := rf_world (N := N) (z := z) v w (by omega) h31 hW'
  have fC : ag [] [] [] SC SC := ag_rf
  exact ⟨r, SC, q, SR', e1, e2, ⟨tp_c i.1 (fC.1 0 (by decide)) (fC.2.1 2 (by decide)) (fR.1 1 (by decide)) (fR.2.1 0 (by decide)), tp_c i.2.1 (fC.1 1 (by decide)) (fC.2.1 3 (by decide)) (fR.1 2 (by decide)) (fR.2.1 1 (by decide)), (by rw [fR.2.1 0 (by decide)]; exact i.2.2.1), ivF_k i.2.2.2.1 (fC.1 2 (by decide)) (fC.2.1 0 (by decide)) (fC.2.1 1 (by decide)) (fC.2.1 4 (by decide)) (fC.2.1 5 (by decide)) (fC.2.1 6 (by decide)) (fC.2.1 7 (by decide)) (fC.2.2 0 (by decide)) (fR.1 3 (by decide)) (fR.2.1 2 (by decide)) (fR.2.1 3 (by decide)) (fR.2.1 4 (by decide)) (fR.2.1 5 (by decide)) (fR.2.1 6 (by decide)), fa_c i.2.2.2.2.1 (fC.1 11 (by decide)) (fC.1 12 (by decide)) (fR.1 4 (by decide)) (fR.1 5 (by decide)), ivP_c i.2.2.2.2.2.1 (fC.1 25 (by decide)) (fC.2.1 28 (by decide)) (fR.1 29 (by decide)) (fR.1 30 (by decide)) (fR.2.1 32 (by decide)) (fR.2.1 33 (by decide)), ivL_c i.2.2.2.2.2.2.1 (fC.1 20 (by decide)), mdC_c i.2.2.2.2.2.2.2.1 (fC.1 23 (by decide)) (fC.1 22 (by decide)), mdR_c i.2.2.2.2.2.2.2.2.1 (fR.1 31 (by decide)), cn4_c i.2.2.2.2.2.2.2.2.2.1 (fC.2.1 21 (by decide)) (fR.1 19 (by decide)) (fR.1 20 (by decide)) (fR.1 21 (by decide)) (fR.1 22 (by decide)), (by rw [fR.2.1 38 (by decide)]; exact i.2.2.2.2.2.2.2.2.2.2.1), mo_c i.2.2.2.2.2.2.2.2.2.2.2.1 (fC.1 23 (by decide)) (fC.2.1 23 (by decide)) (fC.2.2 7 (by decide)) (fR.1 31 (by decide)) (fR.2.1 34 (by decide)) (fR.2.1 35 (by decide)), cac_c i.2.2.2.2.2.2.2.2.2.2.2.2 (fC.1 2 (by decide)) (fC.2.1 4 (by decide)) (fC.2.1 5 (by decide)) (fC.2.1 6 (by decide)) (fC.1 22 (by decide)) (fC.1 23 (by decide)) (fC.2.1 23 (by decide)) (fC.2.2 7 (by decide)) (fC.2.2 9 (by decide))⟩⟩
end INV3
end
