/-! The class's reader: the end of an operand, one sign. -/
section RDD
variable {N : Nat} {z : Nat → Nat} {pl : Bool}
theorem rc_pre {S : mq_St} {g : Nat} (hg : g ≤ 7) : zf_X5_isPrefix N z (chr g) S = some (if 1 ≤ g ∧ g ≤ 3 then 1 else 0) := by
  unfold zf_X5_isPrefix zf_X5_isPrefix_18
  have : g = 0 ∨ g = 1 ∨ g = 2 ∨ g = 3 ∨ g = 4 ∨ g = 5 ∨ g = 6 ∨ g = 7 := by omega
  rcases this with rfl | rfl | rfl | rfl | rfl | rfl | rfl | rfl <;> rfl
theorem rc_end {od : Bool} (hN : 200 ≤ N) : ∀ (G : List Nat) (V : List Tr) (S : mq_St) (W : List Tr) (fuel : Nat), rdC S G V od pl W → okG G → V.length = nbi G + 1 → (∀ v ∈ V, wf v) → G.length < fuel → G.length ≤ 400 → V.length ≤ 400 → nop G ≤ 60 →
    ∃ S' W', zf_X5_endOperand_10 N z fuel (nI G.length) S = some ((), S') ∧ rdC S' (aheadA pl G V).1 (aheadA pl G V).2 od pl W' ∧ ag [3, 4, 5, 6, 7] [8, 9, 10, 11, 14] [] S S' := by
  intro G
  induction G with
  | nil =>
    intro V S W fuel h _ _ _ hf _ _ _
    obtain ⟨fu, rfl⟩ : ∃ q, fuel = q + 1 := ⟨fuel - 1, by omega⟩
    have e : aheadA pl [] V = ([], V) := by unfold aheadA; rfl
    rw [e]
    refine ⟨S, W, ?_, h, ag_rf⟩
    show zf_X5_endOperand_10b N z _ (nI 0) S = _
    unfold zf_X5_endOperand_10b
    rw [if_pos (by decide)]
  | cons g G ih =>
    intro V S W fuel h hG hV hw hf hGl hVl hop
    obtain ⟨fu, rfl⟩ : ∃ q, fuel = q + 1 := ⟨fuel - 1, by omega⟩
    have hf : G.length + 1 < fu + 1 := hf
    have hGl : G.length + 1 ≤ 400 := hGl
    have hall := h
    obtain ⟨c5, cG, c6, cV, c7, c8, c9, c10, cd, cu⟩ := h
    have c5 : S.1 5 = nI (G.length + 1) := c5
    have hg7 := hG.1
    have hsh : zf_X5_endOperand_10 N z (fu + 1) (nI (g :: G).length) S = zf_X5_endOperand_10b N z (fun v1 S => zf_X5_endOperand_10 N z fu v1 S) (nI (G.length + 1)) S := rfl
    rw [hsh]
    unfold zf_X5_endOperand_10b
    rw [if_neg (nI_nle (by omega) (by omega)), rc_top c5 (by omega), mq_cp_s, cG.1, rc_pre hg7, mq_cp_s]
    match V, hV, hw, hVl, c6, cV, cu, hall with
    | [], hV, _, _, _, _, _, _ => exact absurd hV (by show ¬ 0 = _; omega)
    | x :: V, hV, hw, hVl, c6, cV, cu, hall =>
      by_cases hg : 1 ≤ g ∧ g ≤ 3
      · have e : aheadA pl (g :: G) (x :: V) = aheadA pl G (pref pl g x :: V) := by rw [aheadA]; exact if_pos hg
        rw [e, if_pos hg, if_neg (by decide)]
        rw [nbi_c, if_neg (by omega)] at hV
        rw [nop_c, if_pos (by omega)] at c7 hop
        have hVl : V.length + 1 ≤ 400 := hVl
        have wx := hw x List.mem_cons_self
        rw [mq_cp_s, nI_e, nS_e, nS_e, c5, nI_pred, si_1, if_neg (by decide), c7, nI_pred]
        rw [rc_pop (n := V.length) (S := mq_si (mq_si S 5 (nI G.length)) 7 (nI (nop G))) c6 (by omega), mq_cl_s]
        obtain ⟨v', S1, W1, a1, a2, a3, a4, a5⟩ := dk_prefixed (N := N) (z := z) (S := mq_si (mq_si (mq_si S 5 (nI G.length)) 7 (nI (nop G))) 6 (nI V.length)) (pl := pl) (g := g) (v := S.2.1 14 V.length) hN (dft_c cd rfl rfl rfl rfl rfl rfl) c10 hg cV.1 wx
        have a1' : zf_X5_prefixed N z (chr g) ((mq_si (mq_si S 5 (nI G.length)) 7 (nI (nop G))).2.1 14 V.length) (mq_si (mq_si (mq_si S 5 (nI G.length)) 7 (nI (nop G))) 6 (nI V.length)) = some (v', S1) := a1
        rw [a1', mq_cl_s, rc_push (n := V.length) v' (a5.1 6 (by decide)) (by omega), mq_cl_s, pk_m1, nI_e]
        have k13 : S1.2.1 13 = S.2.1 13 := a5.2.1 13 (by decide)
        have k14 : S1.2.1 14 = S.2.1 14 := a5.2.1 14 (by decide)
        obtain ⟨S2, W2, b1, b2, b3⟩ := ih (pref pl g x :: V) (mq_si (mq_sa S1 14 (upd (S1.2.1 14) V.length v')) 6 (nI (V.length + 1))) W1 fu ⟨a5.1 5 (by decide), by
          show onG (S1.2.1 13) G
          rw [k13]
          exact cG.2, rfl, ⟨by
          show RM W1 (upd (S1.2.1 14) V.length v' V.length) _
          rw [up_s]
          exact a3, by
          show onV W1 (upd (S1.2.1 14) V.length v') V
          rw [k14]
          exact onV_upd (Nat.le_refl _) (onV_exw a4 cV.2)⟩, a5.1 7 (by decide), by
          show S1.1 8 = _
          rw [a5.1 8 (by decide)]
          show S.1 8 = _
          rw [c8, cn0_c, if_neg (by omega)]
          rfl, (a5.1 9 (by decide)).trans c9, (a5.1 10 (by decide)).trans c10, dft_c a2 rfl rfl rfl rfl rfl rfl, used_go cu (fun v hv => by
          rcases List.mem_cons.mp hv with q | q
          · rw [q]; exact ⟨_, List.mem_cons_self, us_pref pl g x⟩
          · exact ⟨v, List.mem_cons_of_mem _ q, us_rf v⟩) a4 List.mem_cons_self⟩ hG.2.2 hV (fun v hv => by
          rcases List.mem_cons.mp hv with q | q
          · rw [q]; exact wf_pref wx
          · exact hw v (List.mem_cons_of_mem _ q)) (by omega) (by omega) (by show V.length + 1 ≤ 400; omega) (by omega)
        refine ⟨S2, W2, b1, b2, ?_⟩
        refine ag_tr ?_ b3
        refine ag_tr ?_ (ag_si (by decide))
        refine ag_tr ?_ (ag_sa (by decide))
        refine ag_tr ?_ (ag_mono a5 (by decide) (by decide) (by decide))
        exact ag_tr (ag_tr (ag_si (by decide)) (ag_si (by decide))) (ag_si (by decide))
      · have e : aheadA pl (g :: G) (x :: V) = (g :: G, x :: V) := by rw [aheadA]; exact if_neg hg
        rw [e, if_neg hg, if_pos rfl]
        exact ⟨S, W, rfl, hall, ag_rf⟩
theorem rc_atom {S : mq_St} {s : Nat} (hs : s < 256) : zf_X5_isAtom N z (nI s) S = some (if isAt s then 1 else 0) := by
  unfold zf_X5_isAtom zf_X5_isAtom_12 zf_X5_isAtom_24
  have e84 : (nI s = (84 : Int32)) ↔ s = 84 := nI_eq (b := 84) (by omega) (by omega)
  have e70 : (nI s = (70 : Int32)) ↔ s = 70 := nI_eq (b := 70) (by omega) (by omega)
  have e97 : (nI s < (97 : Int32)) ↔ s < 97 := nI_ltI (b := 97) (by omega) (by omega)
  have e122 : (nI s ≤ (122 : Int32)) ↔ s ≤ 122 := nI_leI (b := 122) (by omega) (by omega)
  simp only [mq_cz_0, mq_cz_1, e84, e70, e97, e122]
  repeat' split
  all_goals first | rfl | (exfalso; omega)
theorem rc_open {S : mq_St} {s : Nat} (hs : s < 256) : zf_X5_isOpening N z (nI s) S = some (if opc s ≤ 3 then 1 else 0) := by
  unfold zf_X5_isOpening zf_X5_isOpening_13 zf_X5_isPrefix zf_X5_isPrefix_18 opc
  have e40 : (nI s = (40 : Int32)) ↔ s = 40 := nI_eq (b := 40) (by omega) (by omega)
  have e33 : (nI s = (33 : Int32)) ↔ s = 33 := nI_eq (b := 33) (by omega) (by omega)
  have e91 : (nI s = (91 : Int32)) ↔ s = 91 := nI_eq (b := 91) (by omega) (by omega)
  have e60 : (nI s = (60 : Int32)) ↔ s = 60 := nI_eq (b := 60) (by omega) (by omega)
  simp only [mq_cz_0, mq_cz_1, e40, e33, e91, e60]
  by_cases a : s = 40
  · rw [if_pos a, if_pos a]; rfl
  · rw [if_neg a, if_neg a]
    by_cases b : s = 33
    · rw [if_pos b, if_pos b]; rfl
    · rw [if_neg b, if_neg b]
      by_cases c : s = 91
      · rw [if_pos c, if_pos c]; rfl
      · rw [if_neg c, if_neg c]
        by_cases d : s = 60
        · rw [if_pos d, if_pos d]; rfl
        · rw [if_neg d, if_neg d]; rfl
theorem rc_bin {S : mq_St} {s : Nat} (hs : s < 256) : zf_X5_rankOf N z (nI s) S = some (nI (bic s - 3)) := by
  unfold zf_X5_rankOf bic
  have e38 : (nI s = 38) ↔ s = 38 := nI_eq (b := 38) (by omega) (by omega)
  have e61 : (nI s = 61) ↔ s = 61 := nI_eq (b := 61) (by omega) (by omega)
  have e62 : (nI s = 62) ↔ s = 62 := nI_eq (b := 62) (by omega) (by omega)
  have e124 : (nI s = 124) ↔ s = 124 := nI_eq (b := 124) (by omega) (by omega)
  simp only [e38, e61, e62, e124]
  repeat' split
  all_goals first | rfl | (exfalso; omega)
theorem chr_o {s : Nat} (h : opc s ≤ 3) : chr (opc s) = nI s := by
  unfold opc at h ⊢
  by_cases a : s = 40
  · rw [if_pos a, a]; rfl
  · rw [if_neg a] at h ⊢
    by_cases b : s = 33
    · rw [if_pos b, b]; rfl
    · rw [if_neg b] at h ⊢
      by_cases c : s = 91
      · rw [if_pos c, c]; rfl
      · rw [if_neg c] at h ⊢
        by_cases d : s = 60
        · rw [if_pos d, d]; rfl
        · rw [if_neg d] at h; exact absurd h (by decide)
theorem chr_b {s : Nat} (h : 4 ≤ bic s) : chr (bic s) = nI s := by
  unfold bic at h ⊢
  by_cases a : s = 61
  · rw [if_pos a, a]; rfl
  · rw [if_neg a] at h ⊢
    by_cases b : s = 62
    · rw [if_pos b, b]; rfl
    · rw [if_neg b] at h ⊢
      by_cases c : s = 124
      · rw [if_pos c, c]; rfl
      · rw [if_neg c] at h ⊢
        by_cases d : s = 38
        · rw [if_pos d, d]; rfl
        · rw [if_neg d] at h; exact absurd h (by decide)
end RDD
