/-! The reference's reader: blanks, joins, what stands ahead. -/
theorem si_id {S : mq_St} {k : Nat} {v : Int32} (h : S.1 k = v) : mq_si S k v = S := by
  unfold mq_si
  refine Prod.ext ?_ rfl
  funext j
  show (if j = k then v else S.1 j) = S.1 j
  by_cases e : j = k
  · rw [if_pos e, e, h]
  · rw [if_neg e]
/-- the reference's bytes -/
def tpR (S : mq_St) (B : Nat → Nat) (len : Nat) : Prop := len ≤ 400 ∧ ∀ i, i < len → S.2.1 0 i &&& 255 = nI (B i) ∧ B i < 256 ∧ ∀ v : Nat, v < 128 → (S.2.1 0 i = nI v ↔ B i = v)
def nx (B : Nat → Nat) (len : Nat) : Nat → Nat → Nat
  | 0, p => p
  | n + 1, p => if p < len ∧ (B p = 32 ∨ B p = 10) then nx B len n (p + 1) else p
section RP
variable {N : Nat} {z : Nat → Nat} {S : mq_St} {B : Nat → Nat} {len : Nat}
theorem rs_see : ∀ (n fuel p : Nat) (S : mq_St), len - p ≤ n → n < fuel → tpR S B len → S.1 9 = nI len → S.1 8 = nI p → p ≤ len → zf_X11_see_z N z fuel S = some (if nx B len n p < len then nI (B (nx B len n p)) else -1, mq_si S 8 (nI (nx B len n p))) := by
  intro n
  induction n with
  | zero =>
    intro fuel p S hn hf hB h9 h8 hp
    obtain ⟨fu, rfl⟩ : ∃ q, fuel = q + 1 := ⟨fuel - 1, by omega⟩
    have e : p = len := by omega
    have hl := hB.1
    show zf_X11_see_zb N z _ S = _
    unfold zf_X11_see_zb zf_X11_see_52
    rw [h9, h8, if_pos (nI_le (by omega) (by omega)), if_pos (nI_le (by omega) (by omega))]
    show _ = some (if p < len then _ else _, mq_si S 8 (nI p))
    rw [if_neg (by omega), si_id h8]
  | succ n ih =>
    intro fuel p S hn hf hB h9 h8 hp
    obtain ⟨fu, rfl⟩ : ∃ q, fuel = q + 1 := ⟨fuel - 1, by omega⟩
    have hl := hB.1
    show zf_X11_see_zb N z (fun S => zf_X11_see_z N z fu S) S = _
    unfold zf_X11_see_zb zf_X11_see_52 zf_X11_see_39
    rw [h9, h8]
    by_cases e : len ≤ p
    · have ex : nx B len (n + 1) p = p := by rw [nx, if_neg (fun q => by omega)]
      rw [if_pos (nI_le (by omega) (by omega)), if_pos (nI_le (by omega) (by omega)), ex, if_neg (by omega), si_id h8]
    · obtain ⟨b1, b2, b3⟩ := hB.2 p (by omega)
      have i1 : vp_in (nI p) 4000 := vp_in_nI (by omega) (by omega)
      have c1 : (nI p).toNatClampNeg = p := nI_clamp (by omega)
      have q32 : (S.2.1 0 p = (32 : Int32)) ↔ B p = 32 := b3 32 (by omega)
      have q10 : (S.2.1 0 p = (10 : Int32)) ↔ B p = 10 := b3 10 (by omega)
      rw [if_neg (nI_ge (by omega) (by omega)), if_neg (nI_ge (by omega) (by omega))]
      simp only [mq_ck_of i1, c1, q32, q10, nS_e, nI_1, b1]
      by_cases hb : B p = 32 ∨ B p = 10
      · have ex : nx B len (n + 1) p = nx B len n (p + 1) := by rw [nx, if_pos ⟨by omega, hb⟩]
        have go := ih fu (p + 1) (mq_si S 8 (nI (p + 1))) (by omega) (by omega) hB h9 rfl (by omega)
        rw [si_si] at go
        rw [ex]
        rcases hb with q | q
        · rw [if_pos q]; exact go
        · by_cases q' : B p = 32
          · rw [if_pos q']; exact go
          · rw [if_neg q', if_pos q]; exact go
      · have ex : nx B len (n + 1) p = p := by rw [nx, if_neg (fun q => hb q.2)]
        rw [if_neg (fun q => hb (Or.inl q)), if_neg (fun q => hb (Or.inr q)), ex, if_pos (by omega), si_id h8]
theorem rs_blank {p : Nat} (hN : 500 ≤ N) (hB : tpR S B len) (h9 : S.1 9 = nI len) (h8 : S.1 8 = nI p) (hp : p < len) (hb : B p = 32 ∨ B p = 10) : zf_X11_see N z S = zf_X11_see N z (mq_si S 8 (nI (p + 1))) := by
  have hl := hB.1
  have a := rs_see (N := N) (z := z) (len - p) N p S (by omega) (by omega) hB h9 h8 (by omega)
  have b := rs_see (N := N) (z := z) (len - (p + 1)) N (p + 1) (mq_si S 8 (nI (p + 1))) (by omega) (by omega) hB h9 rfl (by omega)
  rw [si_si] at b
  have ex : nx B len (len - p) p = nx B len (len - (p + 1)) (p + 1) := by
    have : len - p = (len - (p + 1)) + 1 := by omega
    rw [this, nx, if_pos ⟨hp, hb⟩]
  rw [ex] at a
  unfold zf_X11_see
  rw [a, b]
theorem rs_here {p : Nat} (hN : 500 ≤ N) (hB : tpR S B len) (h9 : S.1 9 = nI len) (h8 : S.1 8 = nI p) (hp : p < len) (hb : ¬ (B p = 32 ∨ B p = 10)) : zf_X11_see N z S = some (nI (B p), S) := by
  have hl := hB.1
  have a := rs_see (N := N) (z := z) (len - p) N p S (by omega) (by omega) hB h9 h8 (by omega)
  have ex : nx B len (len - p) p = p := by
    have : len - p = (len - (p + 1)) + 1 := by omega
    rw [this, nx, if_neg (fun q => hb q.2)]
  rw [ex, if_pos hp, si_id h8] at a
  exact a
theorem rs_end (hN : 500 ≤ N) (hB : tpR S B len) (h9 : S.1 9 = nI len) (h8 : S.1 8 = nI len) : zf_X11_see N z S = some (-1, S) := by
  have hl := hB.1
  have a := rs_see (N := N) (z := z) 0 N len S (by omega) (by omega) hB h9 h8 (by omega)
  have ex : nx B len 0 len = len := rfl
  rw [ex, if_neg (by omega), si_id h8] at a
  exact a
end RP
def onGR (arr : Nat → Int32) : List Nat → Prop
  | [] => True
  | g :: G => arr G.length = nI g ∧ onGR arr G
def onVR (T : List Tr) (arr : Nat → Int32) : List Tr → Prop
  | [] => True
  | t :: V => RV T (arr V.length) t ∧ onVR T arr V
theorem onGR_upd {arr : Nat → Int32} {k : Nat} {v : Int32} : ∀ {G : List Nat}, G.length ≤ k → onGR arr G → onGR (upd arr k v) G
  | [], _, _ => trivial
  | g :: G, hk, h => by
    have hk : G.length + 1 ≤ k := hk
    exact ⟨by rw [up_o (by omega)]; exact h.1, onGR_upd (by omega) h.2⟩
theorem onVR_upd {T : List Tr} {arr : Nat → Int32} {k : Nat} {v : Int32} : ∀ {V : List Tr}, V.length ≤ k → onVR T arr V → onVR T (upd arr k v) V
  | [], _, _ => trivial
  | g :: V, hk, h => by
    have hk : V.length + 1 ≤ k := hk
    exact ⟨by rw [up_o (by omega)]; exact h.1, onVR_upd (by omega) h.2⟩
theorem onVR_app {T : List Tr} (X : List Tr) {arr : Nat → Int32} : ∀ {V : List Tr}, onVR T arr V → onVR (T ++ X) arr V
  | [], _ => trivial
  | _ :: _, h => ⟨RV_app h.1 X, onVR_app X h.2⟩
def rdR (S : mq_St) (G : List Nat) (V : List Tr) (pl : Bool) (T : List Tr) : Prop :=
  S.1 15 = nI G.length ∧ onGR (S.2.1 13) G ∧ S.1 14 = nI V.length ∧ onVR T (S.2.1 12) V ∧ S.1 12 = nI (nop G) ∧ S.1 16 = nI (G.count 0) ∧ S.1 13 = (if pl = true then 1 else 0) ∧ ndR S T
section RJ
variable {N : Nat} {z : Nat → Nat} {pl : Bool}
theorem rj_one {S : mq_St} {g : Nat} {G : List Nat} {x y : Tr} {V T : List Tr} (h : rdR S (g :: G) (y :: x :: V) pl T) (hg : 4 ≤ g ∧ g ≤ 7) (hl : T.length + 5 < 3000) (hG : G.length < 400) (hV : V.length < 400) :
    ∃ S' X, zf_X11_joins N z S = some ((), S') ∧ rdR S' G (comb pl g x y :: V) pl (T ++ X) ∧ X.length ≤ 5 ∧ ag [7, 14, 15] [7, 8, 9, 10, 11, 12] [] S S' := by
  obtain ⟨c15, cG, c14, cV, c12, c16, c13, cn⟩ := h
  have c15 : S.1 15 = nI (G.length + 1) := c15
  have c14 : S.1 14 = nI (V.length + 1 + 1) := c14
  have iV : vp_in (nI V.length) 410 := vp_in_nI (by omega) (by omega)
  have iV1 : vp_in (nI (V.length + 1)) 410 := vp_in_nI (by omega) (by omega)
  have iG : vp_in (nI G.length) 410 := vp_in_nI (by omega) (by omega)
  have kV : (nI V.length).toNatClampNeg = V.length := nI_clamp (by omega)
  have kV1 : (nI (V.length + 1)).toNatClampNeg = V.length + 1 := nI_clamp (by omega)
  have kG : (nI G.length).toNatClampNeg = G.length := nI_clamp (by omega)
  have h162 : ∀ (v : Int32) (S1 : mq_St), S1.1 14 = nI (V.length + 1) → zf_X11_joins_162 N z v S1 = some ((), mq_sa S1 12 (upd (S1.2.1 12) V.length v)) := fun v S1 e => by
    unfold zf_X11_joins_162
    rw [e, nI_pred, mq_ck_of iV, kV, nS_e]
  obtain ⟨v', S1, X, a1, a2, a3, a4, a5⟩ := rn_comb (N := N) (z := z) (S := mq_si (mq_si S 15 (nI G.length)) 14 (nI (V.length + 1))) (pl := pl) (g := g) (v := S.2.1 12 V.length) (w := S.2.1 12 (V.length + 1)) (ndR_c cn rfl rfl rfl rfl rfl rfl) c13 hl hg cV.2.1 cV.1 (fun v S1 => zf_X11_joins_162 N z v S1)
  refine ⟨mq_sa S1 12 (upd (S1.2.1 12) V.length v'), X, ?_, ?_, a3, ?_⟩
  · have e14 : S1.1 14 = nI (V.length + 1) := a5.1 14 (by decide)
    rw [h162 v' S1 e14] at a1
    rw [← a1]
    unfold zf_X11_joins zf_X11_joins_161
    rw [nS_e, c15, nI_pred, nS_e, show (mq_si S 15 (nI G.length)).1 14 = nI (V.length + 1 + 1) from c14, nI_pred]
    rw [show (mq_si (mq_si S 15 (nI G.length)) 14 (nI (V.length + 1))).1 14 = nI (V.length + 1) from rfl, show (mq_si (mq_si S 15 (nI G.length)) 14 (nI (V.length + 1))).1 15 = nI G.length from rfl]
    simp only [nI_pred, mq_ck_of iV, mq_ck_of iV1, mq_ck_of iG, kV, kV1, kG, nI_e]
    rw [show (mq_si (mq_si S 15 (nI G.length)) 14 (nI (V.length + 1))).2.1 13 G.length = nI g from cG.1]
    rfl
  · have k13 : S1.2.1 13 = S.2.1 13 := a5.2.1 13 (by decide)
    have k12 : S1.2.1 12 = S.2.1 12 := a5.2.1 12 (by decide)
    refine ⟨a5.1 15 (by decide), by show onGR (S1.2.1 13) G; rw [k13]; exact cG.2, a5.1 14 (by decide), ⟨?_, ?_⟩, ?_, ?_, (a5.1 13 (by decide)).trans c13, ndR_c a2 rfl rfl rfl rfl rfl rfl⟩
    · show RV (T ++ X) (upd (S1.2.1 12) V.length v' V.length) _
      rw [up_s]; exact a4
    · show onVR (T ++ X) (upd (S1.2.1 12) V.length v') V
      rw [k12]
      exact onVR_upd (Nat.le_refl _) (onVR_app X cV.2.2)
    · show S1.1 12 = _
      rw [a5.1 12 (by decide)]
      show S.1 12 = _
      rw [c12, nop_c, if_neg (by omega)]; rfl
    · show S1.1 16 = _
      rw [a5.1 16 (by decide)]
      show S.1 16 = _
      rw [c16, cn0_c, if_neg (by omega)]; rfl
  · refine ag_tr ?_ (ag_sa (by decide))
    refine ag_tr ?_ (ag_mono a5 (by decide) (by decide) (by decide))
    exact ag_tr (ag_si (by decide)) (ag_si (by decide))
/-- all that stands ahead -/
theorem rj_ahead : ∀ (G : List Nat) (V : List Tr) (S : mq_St) (T : List Tr) (fuel : Nat), rdR S G V pl T → okG G → V.length = nbi G + 1 → G.length < fuel → G.length ≤ 400 → V.length ≤ 400 → T.length + 5 * G.length < 2990 →
    ∃ S' T', zf_X11_ahead_z N z fuel S = some ((), S') ∧ rdR S' (aheadA pl G V).1 (aheadA pl G V).2 pl T' ∧ T'.length + 5 * (aheadA pl G V).1.length ≤ T.length + 5 * G.length ∧ ag [7, 12, 15] [7, 8, 9, 10, 11, 12] [] S S' := by
  intro G
  induction G with
  | nil =>
    intro V S T fuel h _ _ hf _ _ _
    obtain ⟨fu, rfl⟩ : ∃ q, fuel = q + 1 := ⟨fuel - 1, by omega⟩
    have e : aheadA pl [] V = ([], V) := by unfold aheadA; rfl
    rw [e]
    refine ⟨S, T, ?_, h, Nat.le_refl _, ag_rf⟩
    show zf_X11_ahead_zb N z _ S = _
    unfold zf_X11_ahead_zb
    rw [h.1, if_pos (by show nI 0 ≤ 0; decide)]
  | cons g G ih =>
    intro V S T fuel h hG hV hf hGl hVl hT
    obtain ⟨fu, rfl⟩ : ∃ q, fuel = q + 1 := ⟨fuel - 1, by omega⟩
    have hf : G.length + 1 < fu + 1 := hf
    have hGl : G.length + 1 ≤ 400 := hGl
    have hT : T.length + 5 * (G.length + 1) < 2990 := hT
    have hall := h
    obtain ⟨c15, cG, c14, cV, c12, c16, c13, cn⟩ := h
    have c15 : S.1 15 = nI (G.length + 1) := c15
    have hg7 := hG.1
    have iG : vp_in (nI G.length) 410 := vp_in_nI (by omega) (by omega)
    have kG : (nI G.length).toNatClampNeg = G.length := nI_clamp (by omega)
    have hsh : zf_X11_ahead_z N z (fu + 1) S = zf_X11_ahead_zb N z (fun S => zf_X11_ahead_z N z fu S) S := rfl
    rw [hsh]
    unfold zf_X11_ahead_zb
    rw [c15, if_neg (nI_nle (by omega) (by omega)), nI_pred, mq_ck_of iG, kG, cG.1, rf_in]
    have hc : (nI g < (1 : Int32) ∨ (3 : Int32) < nI g) ↔ ¬ (1 ≤ g ∧ g ≤ 3) := by
      have q1 : nI g < (1 : Int32) ↔ g < 1 := nI_ltI (b := 1) (by omega) (by omega)
      have q3 : (3 : Int32) < nI g ↔ 3 < g := nI_ltI (a := 3) (by omega) (by omega)
      rw [q1, q3]; omega
    match V, hV, hVl, c14, cV, hall with
    | [], hV, _, _, _, _ => exact absurd hV (by show ¬ 0 = _; omega)
    | x :: V, hV, hVl, c14, cV, hall =>
      by_cases hg : 1 ≤ g ∧ g ≤ 3
      · have e : aheadA pl (g :: G) (x :: V) = aheadA pl G (pref pl g x :: V) := by rw [aheadA]; exact if_pos hg
        rw [e, if_neg (fun q => hc.mp q hg), mq_cp_s, if_neg (by decide)]
        rw [nbi_c, if_neg (by omega)] at hV
        rw [nop_c, if_pos (by omega)] at c12
        have hVl : V.length + 1 ≤ 400 := hVl
        have c14 : S.1 14 = nI (V.length + 1) := c14
        have iV : vp_in (nI V.length) 410 := vp_in_nI (by omega) (by omega)
        have kV : (nI V.length).toNatClampNeg = V.length := nI_clamp (by omega)
        rw [nS_e, nS_e, show (mq_si S 15 (nI G.length)).1 12 - 1 = nI (nop G) from by
          show S.1 12 - 1 = _
          rw [c12, nI_pred]]
        rw [show (mq_si (mq_si S 15 (nI G.length)) 12 (nI (nop G))).1 15 = nI G.length from rfl, mq_ck_of iG, kG, nI_e, show (mq_si (mq_si S 15 (nI G.length)) 12 (nI (nop G))).2.1 13 G.length = nI g from cG.1, show (mq_si (mq_si S 15 (nI G.length)) 12 (nI (nop G))).1 14 = nI (V.length + 1) from c14, nI_pred, mq_ck_of iV, kV, nI_e]
        obtain ⟨v', S1, X, a1, a2, a3, a4, a5⟩ := rn_pref (N := N) (z := z) (S := mq_si (mq_si S 15 (nI G.length)) 12 (nI (nop G))) (pl := pl) (g := g) (v := S.2.1 12 V.length) (ndR_c cn rfl rfl rfl rfl rfl rfl) c13 (by omega) hg cV.1 (fun v S1 => zf_X11_ahead_115 N z (fun S => zf_X11_ahead_z N z fu S) (nI V.length) v S1)
        have a1' : (if nI g = 1 then mq_cl (zf_X11_node N z 3 ((mq_si (mq_si S 15 (nI G.length)) 12 (nI (nop G))).2.1 12 V.length) (-1) (mq_si (mq_si S 15 (nI G.length)) 12 (nI (nop G)))) (fun q11v S13 => mq_cl (zf_X11_box N z q11v S13) (fun q14v S16 => zf_X11_ahead_115 N z (fun S => zf_X11_ahead_z N z fu S) (nI V.length) q14v S16)) else if nI g = 2 then zf_X11_ahead_110 N z (fun S => zf_X11_ahead_z N z fu S) ((mq_si (mq_si S 15 (nI G.length)) 12 (nI (nop G))).2.1 12 V.length) (nI V.length) 8 (mq_si (mq_si S 15 (nI G.length)) 12 (nI (nop G))) else zf_X11_ahead_110 N z (fun S => zf_X11_ahead_z N z fu S) ((mq_si (mq_si S 15 (nI G.length)) 12 (nI (nop G))).2.1 12 V.length) (nI V.length) 9 (mq_si (mq_si S 15 (nI G.length)) 12 (nI (nop G)))) = zf_X11_ahead_115 N z (fun S => zf_X11_ahead_z N z fu S) (nI V.length) v' S1 := a1
        rw [a1']
        unfold zf_X11_ahead_115
        rw [mq_ck_of iV, kV, nS_e]
        have k13 : S1.2.1 13 = S.2.1 13 := a5.2.1 13 (by decide)
        have k12 : S1.2.1 12 = S.2.1 12 := a5.2.1 12 (by decide)
        obtain ⟨S2, T2, b1, b2, b3, b4⟩ := ih (pref pl g x :: V) (mq_sa S1 12 (upd (S1.2.1 12) V.length v')) (T ++ X) fu ⟨a5.1 15 (by decide), by show onGR (S1.2.1 13) G; rw [k13]; exact cG.2, (a5.1 14 (by decide)).trans c14, ⟨by
          show RV (T ++ X) (upd (S1.2.1 12) V.length v' V.length) _
          rw [up_s]; exact a4, by
          show onVR (T ++ X) (upd (S1.2.1 12) V.length v') V
          rw [k12]
          exact onVR_upd (Nat.le_refl _) (onVR_app X cV.2)⟩, a5.1 12 (by decide), by
          show S1.1 16 = _
          rw [a5.1 16 (by decide)]
          show S.1 16 = _
          rw [c16, cn0_c, if_neg (by omega)]; rfl, (a5.1 13 (by decide)).trans c13, ndR_c a2 rfl rfl rfl rfl rfl rfl⟩ hG.2.2 hV (by omega) (by omega) (by show V.length + 1 ≤ 400; omega) (by rw [List.length_append]; omega)
        refine ⟨S2, T2, b1, b2, ?_, ?_⟩
        · rw [List.length_append] at b3
          show _ ≤ T.length + 5 * (G.length + 1)
          omega
        · refine ag_tr ?_ b4
          refine ag_tr ?_ (ag_sa (by decide))
          refine ag_tr ?_ (ag_mono a5 (by decide) (by decide) (by decide))
          exact ag_tr (ag_si (by decide)) (ag_si (by decide))
      · have e : aheadA pl (g :: G) (x :: V) = (g :: G, x :: V) := by rw [aheadA]; exact if_neg hg
        rw [e, if_pos (hc.mpr hg), mq_cp_s, if_pos rfl]
        exact ⟨S, T, rfl, hall, Nat.le_refl _, ag_rf⟩
/-- joins down to code c: k85 comes to k149 -/
theorem rj_all {k17 : Int32 → mq_St → Option (Int32 × mq_St)} {v1 v2 v3 : Int32} {c : Nat} (hc : 4 ≤ c ∧ c ≤ 8) (hv3 : ∀ g : Nat, 4 ≤ g → g ≤ 7 → (v3 < nI g ∨ (nI g = v3 ∧ ¬ v3 = 5) ↔ c ≤ g)) : ∀ (G : List Nat) (V : List Tr) (S : mq_St) (T : List Tr) (fuel : Nat), rdR S G V pl T → okG G → tp G → V.length = nbi G + 1 → G.length < fuel → G.length ≤ 400 → V.length ≤ 400 → T.length + 5 * G.length < 2990 →
    ∃ S' T', zf_X11_whole_85 N z k17 fuel v1 v2 v3 S = zf_X11_whole_149 N z k17 v1 v2 v3 S' ∧ rdR S' (joinA pl c G V).1 (joinA pl c G V).2 pl T' ∧ T'.length + 5 * (joinA pl c G V).1.length ≤ T.length + 5 * G.length ∧ ag [7, 14, 15] [7, 8, 9, 10, 11, 12] [] S S' := by
  intro G
  induction G with
  | nil =>
    intro V S T fuel h _ _ _ hf _ _ _
    obtain ⟨fu, rfl⟩ : ∃ q, fuel = q + 1 := ⟨fuel - 1, by omega⟩
    have e : joinA pl c [] V = ([], V) := by unfold joinA; rfl
    rw [e]
    refine ⟨S, T, ?_, h, Nat.le_refl _, ag_rf⟩
    show zf_X11_whole_85b N z k17 _ v1 v2 v3 S = _
    unfold zf_X11_whole_85b
    rw [h.1, if_pos (by show nI 0 ≤ 0; decide)]
  | cons g G ih =>
    intro V S T fuel h hG ht hV hf hGl hVl hT
    obtain ⟨fu, rfl⟩ : ∃ q, fuel = q + 1 := ⟨fuel - 1, by omega⟩
    have hf : G.length + 1 < fu + 1 := hf
    have hGl : G.length + 1 ≤ 400 := hGl
    have hT : T.length + 5 * (G.length + 1) < 2990 := hT
    have hg7 := hG.1
    have iG : vp_in (nI G.length) 410 := vp_in_nI (by omega) (by omega)
    have kG : (nI G.length).toNatClampNeg = G.length := nI_clamp (by omega)
    have hsh : zf_X11_whole_85 N z k17 (fu + 1) v1 v2 v3 S = zf_X11_whole_85b N z k17 (fun v1 v2 v3 S => zf_X11_whole_85 N z k17 fu v1 v2 v3 S) v1 v2 v3 S := rfl
    have c15 : S.1 15 = nI (G.length + 1) := h.1
    rw [hsh]
    unfold zf_X11_whole_85b zf_X11_whole_142
    rw [c15, if_neg (nI_nle (by omega) (by omega)), nI_pred]
    simp only [mq_ck_of iG, kG, h.2.1.1]
    have q3 : nI g ≤ (3 : Int32) ↔ g ≤ 3 := nI_leI (b := 3) (by omega) (by omega)
    rw [nbi_c] at hV
    by_cases hg : c ≤ g
    · rw [if_pos (show 4 ≤ g by omega)] at hV
      match V, hV, hVl, h with
      | [], hV, _, _ => exact absurd hV (by show ¬ 0 = _; omega)
      | [_], hV, _, _ => exact absurd hV (by show ¬ 1 = _; omega)
      | y :: x :: V, hV, hVl, h =>
        have e : joinA pl c (g :: G) (y :: x :: V) = joinA pl c G (comb pl g x y :: V) := by rw [joinA]; exact if_pos hg
        have hVl : V.length + 2 ≤ 400 := hVl
        have hV : V.length + 2 = nbi G + 1 + 1 := hV
        rw [e]
        obtain ⟨S1, X, a1, a2, a3, a4⟩ := rj_one (N := N) (z := z) h (by omega) (by omega) (by omega) (by omega)
        obtain ⟨S2, T2, b1, b2, b3, b4⟩ := ih (comb pl g x y :: V) S1 (T ++ X) fu a2 hG.2.2 (hG.2.1 (by omega)) (by show V.length + 1 = _; omega) (by omega) (by omega) (by show V.length + 1 ≤ 400; omega) (by rw [List.length_append]; omega)
        rw [List.length_append] at b3
        refine ⟨S2, T2, ?_, b2, by show _ ≤ T.length + 5 * (G.length + 1); omega, ag_tr a4 b4⟩
        rw [if_neg (fun q => by have := q3.mp q; omega), a1, mq_cl_s, b1]
        rcases (hv3 g (by omega) hg7).mpr hg with q | ⟨q, q'⟩
        · rw [if_pos q]
        · by_cases p : v3 < nI g
          · rw [if_pos p]
          · rw [if_neg p, if_pos q, if_neg q']
    · have e : joinA pl c (g :: G) V = (g :: G, V) := by
        match V with
        | [] => unfold joinA; rfl
        | [_] => unfold joinA; rfl
        | y :: x :: V => rw [joinA]; exact if_neg hg
      rw [e]
      refine ⟨S, T, ?_, h, Nat.le_refl _, ag_rf⟩
      by_cases p3 : g ≤ 3
      · rw [if_pos (q3.mpr p3)]
      · rw [if_neg (fun q => p3 (q3.mp q))]
        have hn := fun q => hg ((hv3 g (by omega) hg7).mp q)
        rw [if_neg (fun q => hn (Or.inl q))]
        by_cases p4 : nI g = v3
        · rw [if_pos p4]
          by_cases p5 : v3 = 5
          · rw [if_pos p5]
          · exact absurd (Or.inr ⟨p4, p5⟩) hn
        · rw [if_neg p4]
end RJ
