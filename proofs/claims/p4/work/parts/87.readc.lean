/-! The class's reader does what the parser does. -/
def onG (arr : Nat → Int32) : List Nat → Prop
  | [] => True
  | g :: G => arr G.length = chr g ∧ onG arr G
def onV (W : List Tr) (arr : Nat → Int32) : List Tr → Prop
  | [] => True
  | t :: V => RM W (arr V.length) t ∧ onV W arr V
theorem onG_upd {arr : Nat → Int32} {k : Nat} {v : Int32} : ∀ {G : List Nat}, G.length ≤ k → onG arr G → onG (upd arr k v) G
  | [], _, _ => trivial
  | g :: G, hk, h => by
    have hk : G.length + 1 ≤ k := hk
    exact ⟨by rw [up_o (by omega)]; exact h.1, onG_upd (by omega) h.2⟩
theorem onV_upd {W : List Tr} {arr : Nat → Int32} {k : Nat} {v : Int32} : ∀ {V : List Tr}, V.length ≤ k → onV W arr V → onV W (upd arr k v) V
  | [], _, _ => trivial
  | g :: V, hk, h => by
    have hk : V.length + 1 ≤ k := hk
    exact ⟨by rw [up_o (by omega)]; exact h.1, onV_upd (by omega) h.2⟩
theorem onV_exw {W W' : List Tr} {u : Tr} (e : exw W W' u) {arr : Nat → Int32} : ∀ {V : List Tr}, onV W arr V → onV W' arr V
  | [], _ => trivial
  | _ :: _, h => ⟨RM_exw h.1 e, onV_exw e h.2⟩
def used (W V : List Tr) : Prop := ∀ w ∈ W, w = .num 0 ∨ ∃ v ∈ V, us w v
theorem used_go {W W' V V' : List Tr} {t : Tr} (h : used W V) (hv : ∀ v ∈ V, ∃ v' ∈ V', us v v') (e : exw W W' t) (ht : t ∈ V') : used W' V' := by
  obtain ⟨X, rfl, hX⟩ := e
  intro w hw
  rcases List.mem_append.mp hw with q | q
  · rcases h w q with e | ⟨v, hv1, hu⟩
    · exact Or.inl e
    · obtain ⟨v', h1, h2⟩ := hv v hv1
      exact Or.inr ⟨v', h1, us_tr hu h2⟩
  · exact Or.inr ⟨t, ht, hX w q⟩
def rdC (S : mq_St) (G : List Nat) (V : List Tr) (od pl : Bool) (W : List Tr) : Prop :=
  S.1 5 = nI G.length ∧ onG (S.2.1 13) G ∧ S.1 6 = nI V.length ∧ onV W (S.2.1 14) V ∧ S.1 7 = nI (nop G) ∧ S.1 8 = nI (G.count 0) ∧ S.1 9 = (if od = true then 1 else 0) ∧ S.1 10 = (if pl = true then 0 else 1) ∧ dft S W ∧ used W V
section RDC
variable {N : Nat} {z : Nat → Nat} {S : mq_St} {W : List Tr} {pl od : Bool}
theorem rc_pop {n : Nat} (h : S.1 6 = nI (n + 1)) (hn : n < 400) : zf_X5_popMark N z S = some (S.2.1 14 n, mq_si S 6 (nI n)) := by
  unfold zf_X5_popMark
  have h0 : (0 : Int32) < nI (n + 1) := nI_lt (a := 0) (b := n + 1) (by omega) (by omega)
  rw [h, if_pos h0, nS_e, nI_pred]
  show mq_ck (nI n) 400 (some (S.2.1 14 (nI n).toNatClampNeg, _)) = _
  rw [mq_ck_of (vp_in_nI hn (by omega)), nI_clamp (by omega)]
theorem rc_push {n : Nat} (v : Int32) (h : S.1 6 = nI n) (hn : n < 400) : zf_X5_pushMark N z v S = some ((), mq_si (mq_sa S 14 (upd (S.2.1 14) n v)) 6 (nI (n + 1))) := by
  unfold zf_X5_pushMark
  have h0 : ¬ (400 : Int32) ≤ nI n := nI_ge (a := n) (b := 400) hn (by omega)
  rw [h, if_neg h0, mq_ck_of (vp_in_nI hn (by omega)), nI_clamp (by omega), nS_e, nS_e, sa_1, h, nI_1]
theorem rc_sign {n : Nat} (v : Int32) (h : S.1 5 = nI n) (hn : n < 400) : zf_X5_pushSign N z v S = some ((), mq_si (mq_sa S 13 (upd (S.2.1 13) n v)) 5 (nI (n + 1))) := by
  unfold zf_X5_pushSign
  have h0 : ¬ (400 : Int32) ≤ nI n := nI_ge (a := n) (b := 400) hn (by omega)
  rw [h, if_neg h0, mq_ck_of (vp_in_nI hn (by omega)), nI_clamp (by omega), nS_e, nS_e, sa_1, h, nI_1]
theorem rc_top {n : Nat} (h : S.1 5 = nI (n + 1)) (hn : n < 400) : zf_X5_topSign N z S = some (S.2.1 13 n) := by
  unfold zf_X5_topSign
  rw [h, if_neg (nI_nle (by omega) (by omega)), nI_pred, mq_ck_of (vp_in_nI hn (by omega)), nI_clamp (by omega)]
theorem chr_rank : ∀ g, g < 8 → (chr g = 38 → g = 7) ∧ (chr g = 61 → g = 4) ∧ (chr g = 62 → g = 5) ∧ (chr g = 124 → g = 6) ∧ (g = 7 → chr g = 38) ∧ (g = 4 → chr g = 61) ∧ (g = 5 → chr g = 62) ∧ (g = 6 → chr g = 124) := by decide +kernel
theorem rc_rank {g : Nat} (hg : g ≤ 7) : zf_X5_rankOf N z (chr g) S = some (nI (g - 3)) := by
  unfold zf_X5_rankOf
  have : g = 0 ∨ g = 1 ∨ g = 2 ∨ g = 3 ∨ g = 4 ∨ g = 5 ∨ g = 6 ∨ g = 7 := by omega
  rcases this with rfl | rfl | rfl | rfl | rfl | rfl | rfl | rfl <;> rfl
theorem rc_join {r : Nat} (hN : 200 ≤ N) (hr : 1 ≤ r ∧ r ≤ 5) : ∀ (G : List Nat) (V : List Tr) (S : mq_St) (W : List Tr) (fuel : Nat), rdC S G V od pl W → okG G → tp G → V.length = nbi G + 1 → (∀ v ∈ V, wf v) → G.length < fuel → G.length ≤ 400 → V.length ≤ 400 →
    ∃ S' W', zf_X5_joinDownTo_5 N z fuel (nI r) (nI G.length) S = some ((), S') ∧ rdC S' (joinA pl (r + 3) G V).1 (joinA pl (r + 3) G V).2 od pl W' ∧ ag [3, 4, 5, 6] [8, 9, 10, 11, 14] [] S S' := by
  intro G
  induction G with
  | nil =>
    intro V S W fuel h _ _ _ _ hf _ _
    obtain ⟨fu, rfl⟩ : ∃ q, fuel = q + 1 := ⟨fuel - 1, by omega⟩
    have e : joinA pl (r + 3) [] V = ([], V) := by unfold joinA; rfl
    rw [e]
    refine ⟨S, W, ?_, h, ag_rf⟩
    show zf_X5_joinDownTo_5b N z _ (nI r) (nI 0) S = _
    unfold zf_X5_joinDownTo_5b
    rw [if_pos (by decide)]
  | cons g G ih =>
    intro V S W fuel h hG ht hV hw hf hGl hVl
    obtain ⟨fu, rfl⟩ : ∃ q, fuel = q + 1 := ⟨fuel - 1, by omega⟩
    have hf : G.length + 1 < fu + 1 := hf
    have hGl : G.length + 1 ≤ 400 := hGl
    have hall := h
    obtain ⟨c5, cG, c6, cV, c7, c8, c9, c10, cd, cu⟩ := h
    have c5 : S.1 5 = nI (G.length + 1) := c5
    have hg7 := hG.1
    have hsh : zf_X5_joinDownTo_5 N z (fu + 1) (nI r) (nI (g :: G).length) S = zf_X5_joinDownTo_5b N z (fun v1 v2 S => zf_X5_joinDownTo_5 N z fu v1 v2 S) (nI r) (nI (G.length + 1)) S := rfl
    rw [hsh]
    unfold zf_X5_joinDownTo_5b
    rw [if_neg (nI_nle (by omega) (by omega)), rc_top c5 (by omega), mq_cp_s, cG.1, rc_rank hg7, mq_cp_s]
    rw [nbi_c] at hV
    by_cases hg : r + 3 ≤ g
    · rw [if_pos (show 4 ≤ g by omega)] at hV
      match V, hV, hw, hVl, c6, cV, cu, hall with
      | [], hV, _, _, _, _, _, _ => exact absurd hV (by show ¬ 0 = _; omega)
      | [_], hV, _, _, _, _, _, _ => exact absurd hV (by show ¬ 1 = _; omega)
      | y :: x :: V, hV, hw, hVl, c6, cV, cu, hall =>
        have e : joinA pl (r + 3) (g :: G) (y :: x :: V) = joinA pl (r + 3) G (comb pl g x y :: V) := by rw [joinA]; exact if_pos hg
        rw [e]
        have hVl : V.length + 2 ≤ 400 := hVl
        have hV : V.length + 2 = nbi G + 1 + 1 := hV
        have wx := hw x (List.mem_cons_of_mem _ List.mem_cons_self)
        have wy := hw y List.mem_cons_self
        rw [if_neg (nI_nlt (a := g - 3) (b := r) (by omega) (by omega)), mq_cp_s, nI_e, nS_e, c5, nI_pred]
        rw [rc_pop (n := V.length + 1) (S := mq_si S 5 (nI G.length)) c6 (by omega), mq_cl_s, nI_e, rc_pop (n := V.length) rfl (by omega), mq_cl_s, nI_e]
        obtain ⟨v', S1, W1, a1, a2, a3, a4, a5⟩ := dk_joined (N := N) (z := z) (S := mq_si (mq_si (mq_si S 5 (nI G.length)) 6 (nI (V.length + 1))) 6 (nI V.length)) (pl := pl) (g := g) (v := S.2.1 14 V.length) (u := S.2.1 14 (V.length + 1)) hN (dft_c cd rfl rfl rfl rfl rfl rfl) c10 (by omega) cV.2.1 cV.1 wx wy
        have a1' : zf_X5_joined N z (chr g) ((mq_si (mq_si S 5 (nI G.length)) 6 (nI (V.length + 1))).2.1 14 V.length) ((mq_si S 5 (nI G.length)).2.1 14 (V.length + 1)) (mq_si (mq_si (mq_si S 5 (nI G.length)) 6 (nI (V.length + 1))) 6 (nI V.length)) = some (v', S1) := a1
        rw [a1', mq_cl_s, rc_push (n := V.length) v' (a5.1 6 (by decide)) (by omega), mq_cl_s, pk_m1, nI_e]
        have k13 : S1.2.1 13 = S.2.1 13 := a5.2.1 13 (by decide)
        have k14 : S1.2.1 14 = S.2.1 14 := a5.2.1 14 (by decide)
        obtain ⟨S2, W2, b1, b2, b3⟩ := ih (comb pl g x y :: V) (mq_si (mq_sa S1 14 (upd (S1.2.1 14) V.length v')) 6 (nI (V.length + 1))) W1 fu ⟨a5.1 5 (by decide), by
          show onG (S1.2.1 13) G
          rw [k13]
          exact cG.2, rfl, ⟨by
          show RM W1 (upd (S1.2.1 14) V.length v' V.length) _
          rw [up_s]
          exact a3, by
          show onV W1 (upd (S1.2.1 14) V.length v') V
          rw [k14]
          exact onV_upd (Nat.le_refl _) (onV_exw a4 cV.2.2)⟩, by
          show S1.1 7 = _
          rw [a5.1 7 (by decide)]
          show S.1 7 = _
          rw [c7, nop_c, if_neg (by omega)]
          rfl, by
          show S1.1 8 = _
          rw [a5.1 8 (by decide)]
          show S.1 8 = _
          rw [c8, cn0_c, if_neg (by omega)]
          rfl, (a5.1 9 (by decide)).trans c9, (a5.1 10 (by decide)).trans c10, dft_c a2 rfl rfl rfl rfl rfl rfl, used_go cu (fun v hv => by
          rcases List.mem_cons.mp hv with q | q
          · rw [q]; exact ⟨_, List.mem_cons_self, (us_comb pl g x y).2⟩
          · rcases List.mem_cons.mp q with q | q
            · rw [q]; exact ⟨_, List.mem_cons_self, (us_comb pl g x y).1⟩
            · exact ⟨v, List.mem_cons_of_mem _ q, us_rf v⟩) a4 List.mem_cons_self⟩ hG.2.2 (hG.2.1 (by omega)) (by show V.length + 1 = _; omega) (fun v hv => by
          rcases List.mem_cons.mp hv with q | q
          · rw [q]; exact wf_comb wx wy
          · exact hw v (List.mem_cons_of_mem _ (List.mem_cons_of_mem _ q))) (by omega) (by omega) (by show V.length + 1 ≤ 400; omega)
        refine ⟨S2, W2, b1, b2, ?_⟩
        refine ag_tr ?_ b3
        refine ag_tr ?_ (ag_si (by decide))
        refine ag_tr ?_ (ag_sa (by decide))
        refine ag_tr ?_ (ag_mono a5 (by decide) (by decide) (by decide))
        exact ag_tr (ag_tr (ag_si (by decide)) (ag_si (by decide))) (ag_si (by decide))
    · have e : joinA pl (r + 3) (g :: G) V = (g :: G, V) := by
        match V with
        | [] => unfold joinA; rfl
        | [_] => unfold joinA; rfl
        | y :: x :: V => rw [joinA]; exact if_neg hg
      rw [e]
      rw [if_pos (nI_lt (a := g - 3) (b := r) (by omega) (by omega))]
      exact ⟨S, W, rfl, hall, ag_rf⟩
end RDC
