/-! The class numbers what is drafted: build. -/
def dfb (S : mq_St) (W : List Tr) : Prop := S.1 3 = nI W.length ∧ W.length ≤ 150 ∧ W.Nodup ∧ (∀ w ∈ W, wf w ∧ po w = true) ∧ ∀ i t, W[i]? = some t → ent W i (S.2.1 8 i) (S.2.1 9 i) (S.2.1 10 i) t
theorem dfb_c {S S' : mq_St} {W : List Tr} (h : dfb S W) (e3 : S'.1 3 = S.1 3) (e8 : S'.2.1 8 = S.2.1 8) (e9 : S'.2.1 9 = S.2.1 9) (e10 : S'.2.1 10 = S.2.1 10) : dfb S' W := by
  unfold dfb
  rw [e3, e8, e9, e10]
  exact h
/-- what is numbered is numbered right -/
def nmb (D : Nat → Int32) (W : List Tr) (L : List En) : Prop := ∀ m t, mt W m t → D m = -1 ∨ ∃ k : Nat, D m = nI k ∧ pr t L k
/-- with a mark all below it are numbered -/
def clo (D : Nat → Int32) (W : List Tr) : Prop := ∀ j u, mt W j u → ¬ D j = -1 → ∀ j' u', mt W j' u' → u' ∈ sb u → ¬ D j' = -1
theorem nmb_app {D : Nat → Int32} {W : List Tr} {L : List En} (h : nmb D W L) (X : List En) : nmb D W (L ++ X) := fun m t q => by
  rcases h m t q with e | ⟨k, e, p⟩
  · exact Or.inl e
  · exact Or.inr ⟨k, e, pr_mono p X⟩
theorem mt_wf {W : List Tr} (hp : ∀ w ∈ W, wf w ∧ po w = true) {m : Nat} {t : Tr} (h : mt W m t) : wf t := by
  have := (hp _ (List.mem_of_getElem? h)).1
  by_cases q : m % 2 = 0
  · rw [if_pos q] at this; exact this
  · rw [if_neg q] at this
    rw [← du_du t]
    exact wf_du _ this
section BLD
variable {N : Nat} {z : Nat → Nat} {S : mq_St} {W : List Tr} {m : Nat} {t : Tr}
theorem bm_num (hm : m < 1000) : nI m >>> ((1 : Int32) &&& 31) = nI (m / 2) ∧ nI m &&& 1 = nI (m % 2) := by
  constructor
  · have := pk_shrN (n := m) (by omega) ((1 : Int32) &&& 31) 1 (by decide)
    simpa using this
  · have := pk_andN (n := m) (by omega) (m := 1) 1 (by decide)
    simpa using this
theorem bm_is (h : dfb S W) (hm : mt W m t) : zf_X2_isMark N z (nI m) S = some 1 := by
  have hl := mt_lt hm
  have := h.2.1
  unfold zf_X2_isMark
  rw [(bm_num (m := m) (by omega)).1, h.1, if_neg (nI_pos (by omega)), if_neg (nI_ge hl (by omega)), mq_cz_1]
theorem bm_no : zf_X2_isMark N z (-1) S = some 0 := by
  unfold zf_X2_isMark
  rw [if_pos (by decide), mq_cz_0]
theorem bn_of (h : dfb S W) (hm : mt W m t) : zf_X2_numberOf N z (nI m) S = some (S.2.1 11 m) := by
  have hl := mt_lt hm
  have := h.2.1
  unfold zf_X2_numberOf
  rw [bm_is h hm, mq_cp_s, if_neg (by decide), mq_ck_of (vp_in_nI (by omega) (by omega)), nI_clamp (by omega)]
theorem bn_no : zf_X2_numberOf N z (-1) S = some (-1) := by
  unfold zf_X2_numberOf
  rw [bm_no, mq_cp_s, if_pos rfl]
theorem b_first (h : dfb S W) (hm : mt W m t) : zf_X2_firstPart N z (nI m) S = if S.2.1 8 (m / 2) < 4 then some (-1) else some (S.2.1 9 (m / 2) ^^^ nI (m % 2)) := by
  have hl := mt_lt hm
  have := h.2.1
  have i1 : vp_in (nI (m / 2)) 150 := vp_in_nI (by omega) (by omega)
  unfold zf_X2_firstPart
  rw [bm_is h hm, mq_cp_s, if_neg (by decide), (bm_num (m := m) (by omega)).1, (bm_num (m := m) (by omega)).2, mq_ck_of i1, mq_ck_of i1, nI_clamp (by omega)]
theorem b_second (h : dfb S W) (hm : mt W m t) : zf_X2_secondPart N z (nI m) S = if S.2.1 8 (m / 2) = 4 then some (S.2.1 10 (m / 2) ^^^ nI (m % 2)) else some (-1) := by
  have hl := mt_lt hm
  have := h.2.1
  have i1 : vp_in (nI (m / 2)) 150 := vp_in_nI (by omega) (by omega)
  unfold zf_X2_secondPart
  rw [bm_is h hm, mq_cp_s, if_neg (by decide), (bm_num (m := m) (by omega)).1, (bm_num (m := m) (by omega)).2, mq_ck_of i1, mq_ck_of i1, nI_clamp (by omega)]
theorem mt_fl {a : Tr} (h : mt W m a) : mt W (fl m) (du a) := by
  unfold mt at h ⊢
  rw [fl_half, h]
  congr 1
  unfold fl
  by_cases c : m % 2 = 0
  · rw [if_pos c, if_pos c, if_neg (by omega), du_du]
  · rw [if_neg c, if_neg c, if_pos (by omega)]
theorem m1_num {L : List En} (h0 : ok0 L) (v : Nat) (hv : v < 2) : m1 (nI v, -1, -1) L = (v, L) := by
  have hv2 : v = 0 ∨ v = 1 := by omega
  unfold m1
  rcases hv2 with rfl | rfl
  · obtain ⟨a, b⟩ := ix_first (L := L) (e := (0, -1, -1)) (k := 0) (fun j hj => by omega) h0.1
    rw [show (nI 0, (-1 : Int32), (-1 : Int32)) = ((0, -1, -1) : En) from rfl, if_pos a, b]
  · obtain ⟨a, b⟩ := ix_first (L := L) (e := (1, -1, -1)) (k := 1) (fun j hj => by
      have : j = 0 := by omega
      rw [this, h0.1]
      decide) h0.2
    rw [show (nI 1, (-1 : Int32), (-1 : Int32)) = ((1, -1, -1) : En) from rfl, if_pos a, b]
/-- what numbering a mark asks for: no part, one, two -/
def kd (N : Nat) (z : Nat → Nat) (S : mq_St) (W : List Tr) (m : Nat) (t : Tr) : Prop :=
  (∃ (k : Nat) (v : Int32), zf_X2_firstPart N z (nI m) S = some (-1) ∧ zf_X2_secondPart N z (nI m) S = some (-1) ∧ S.2.1 8 (m / 2) < 4 ∧ (S.2.1 8 (m / 2) ||| nI (m % 2)) = nI k ∧ k < 8 ∧ S.2.1 9 (m / 2) = v ∧ sb t = [t] ∧ ∀ L, ok0 L → mk t L = m1 (nI k, v, -1) L) ∨
  (∃ (k x : Nat) (a : Tr), zf_X2_firstPart N z (nI m) S = some (nI x) ∧ zf_X2_secondPart N z (nI m) S = some (-1) ∧ ¬ S.2.1 8 (m / 2) < 4 ∧ (S.2.1 8 (m / 2) ||| nI (m % 2)) = nI k ∧ k < 8 ∧ mt W x a ∧ x / 2 < m / 2 ∧ sb t = t :: sb a ∧ ∀ L, mk t L = m1 (nI k, nI (mk a L).1, -1) (mk a L).2) ∨
  (∃ (k x y : Nat) (a b : Tr), zf_X2_firstPart N z (nI m) S = some (nI x) ∧ zf_X2_secondPart N z (nI m) S = some (nI y) ∧ ¬ S.2.1 8 (m / 2) < 4 ∧ (S.2.1 8 (m / 2) ||| nI (m % 2)) = nI k ∧ k < 8 ∧ mt W x a ∧ mt W y b ∧ x / 2 < m / 2 ∧ y / 2 < m / 2 ∧ sb t = t :: (sb a ++ sb b) ∧ ∀ L, mk t L = m1 (nI k, nI (mk a L).1, nI (mk b (mk a L).2).1) (mk b (mk a L).2).2)
theorem kd_is (h : dfb S W) (hm : mt W m t) : kd N z S W m t := by
  have hl := mt_lt hm
  have h150 := h.2.1
  have hen := h.2.2.2.2 (m / 2) _ hm
  have x0 : ∀ a : Nat, nI a ^^^ nI 0 = nI a := fun a => Int32.xor_zero
  have hpar : (m % 2 = 0 ∧ (if m % 2 = 0 then t else du t) = t) ∨ (m % 2 = 1 ∧ (if m % 2 = 0 then t else du t) = du t) := by
    by_cases q : m % 2 = 0
    · exact Or.inl ⟨q, if_pos q⟩
    · exact Or.inr ⟨by omega, if_neg q⟩
  have F := b_first (N := N) (z := z) h hm
  have G := b_second (N := N) (z := z) h hm
  rcases hpar with ⟨hp, e⟩ | ⟨hp, e⟩
  · rw [e] at hen
    rw [hp] at F G
    unfold kd
    rw [hp]
    rcases hen with ⟨s1, s2, s3, rfl⟩ | ⟨l, hl1, s1, s2, s3, rfl⟩ | ⟨x, y, a, b, s1, s2, s3, rfl, ma, mb, c1, c2⟩ | ⟨x, a, s1, s2, s3, rfl, ma, c1⟩
    · rw [s1, if_pos (by decide)] at F
      rw [s1, if_neg (by decide)] at G
      exact Or.inl ⟨0, -1, F, G, by rw [s1]; decide, by rw [s1]; rfl, by omega, s2, rfl, fun L h0 => (m1_num h0 0 (by omega)).symm⟩
    · rw [s1, if_pos (by decide)] at F
      rw [s1, if_neg (by decide)] at G
      refine Or.inl ⟨2, nI l, F, G, by rw [s1]; decide, by rw [s1]; rfl, by omega, s2, rfl, fun L h0 => ?_⟩
      show m1 (nI (2 + 2 * l % 2), nI (2 * l / 2), -1) L = _
      rw [show 2 + 2 * l % 2 = 2 by omega, show 2 * l / 2 = l by omega]
    · have u1 := mt_lt ma
      have u2 := mt_lt mb
      rw [s1, if_neg (by decide), s2, x0] at F
      rw [s1, if_pos rfl, s3, x0] at G
      exact Or.inr (Or.inr ⟨4, x, y, a, b, F, G, by rw [s1]; decide, by rw [s1]; rfl, by omega, ma, mb, c1, c2, rfl, fun L => rfl⟩)
    · have u1 := mt_lt ma
      rw [s1, if_neg (by decide), s2, x0] at F
      rw [s1, if_neg (by decide)] at G
      exact Or.inr (Or.inl ⟨6, x, a, F, G, by rw [s1]; decide, by rw [s1]; rfl, by omega, ma, c1, rfl, fun L => rfl⟩)
  · rw [e] at hen
    rw [hp] at F G
    unfold kd
    rw [hp]
    have ed : ∀ w : Tr, du t = w → t = du w := fun w q => by rw [← q, du_du]
    have x1 : ∀ a : Nat, a < 400 → nI a ^^^ nI 1 = nI (fl a) := fun a ha => xor_1 a ha
    rcases hen with ⟨s1, s2, s3, q⟩ | ⟨l, hl1, s1, s2, s3, q⟩ | ⟨x, y, a, b, s1, s2, s3, q, ma, mb, c1, c2⟩ | ⟨x, a, s1, s2, s3, q, ma, c1⟩
    · rw [ed _ q]
      rw [s1, if_pos (by decide)] at F
      rw [s1, if_neg (by decide)] at G
      exact Or.inl ⟨1, -1, F, G, by rw [s1]; decide, by rw [s1]; rfl, by omega, s2, rfl, fun L h0 => (m1_num h0 1 (by omega)).symm⟩
    · rw [ed _ q]
      rw [s1, if_pos (by decide)] at F
      rw [s1, if_neg (by decide)] at G
      refine Or.inl ⟨3, nI l, F, G, by rw [s1]; decide, by rw [s1]; rfl, by omega, s2, rfl, fun L h0 => ?_⟩
      show m1 (nI (2 + fl (2 * l) % 2), nI (fl (2 * l) / 2), -1) L = _
      have ef : fl (2 * l) = 2 * l + 1 := by unfold fl; rw [if_pos (by omega)]
      rw [ef, show 2 + (2 * l + 1) % 2 = 3 by omega, show (2 * l + 1) / 2 = l by omega]
    · rw [ed _ q]
      have u1 := mt_lt ma
      have u2 := mt_lt mb
      rw [s1, if_neg (by decide), s2, x1 x (by omega)] at F
      rw [s1, if_pos rfl, s3, x1 y (by omega)] at G
      exact Or.inr (Or.inr ⟨5, fl x, fl y, du a, du b, F, G, by rw [s1]; decide, by rw [s1]; rfl, by omega, mt_fl ma, mt_fl mb, by rw [fl_half]; exact c1, by rw [fl_half]; exact c2, rfl, fun L => rfl⟩)
    · rw [ed _ q]
      have u1 := mt_lt ma
      rw [s1, if_neg (by decide), s2, x1 x (by omega)] at F
      rw [s1, if_neg (by decide)] at G
      exact Or.inr (Or.inl ⟨7, fl x, du a, F, G, by rw [s1]; decide, by rw [s1]; rfl, by omega, mt_fl ma, by rw [fl_half]; exact c1, rfl, fun L => rfl⟩)
/-- a turn that makes a part's turn -/
theorem bs_push {v1 : Int32} {top turn fuel x : Nat} (ht : turn < 1000000) (htop : top < 149) (hw : S.2.1 12 top = nI m) (hp : zf_X2_partToMake N z (nI m) S = some (nI x)) (hx : x < 400) :
    zf_X2_build_11 N z (fuel + 1) v1 (nI top) (nI turn) S = zf_X2_build_11 N z fuel v1 (nI (top + 1)) (nI (turn + 1)) (mq_sa S 12 (upd (S.2.1 12) (top + 1) (nI x))) := by
  show zf_X2_build_11b N z _ v1 (nI top) (nI turn) S = _
  have e1 : ¬ (1000000 : Int32) ≤ nI turn := nI_ge (b := 1000000) ht (by omega)
  have e2 : ¬ (150 : Int32) ≤ nI top := nI_ge (b := 150) (by omega) (by omega)
  have e3 : ¬ (150 : Int32) ≤ nI (top + 1) := nI_ge (b := 150) (by omega) (by omega)
  unfold zf_X2_build_11b zf_X2_build_79 zf_X2_push
  rw [if_neg e1, if_neg (nI_pos (by omega)), if_neg e2, mq_ck_of (vp_in_nI (by omega) (by omega)), nI_clamp (by omega), hw, hp, mq_cp_s, nI_e, if_neg (nI_nm1 (by omega)), nI_1, nI_e, if_neg (nI_pos (by omega)), if_neg e3, mq_ck_of (vp_in_nI (by omega) (by omega)), nI_clamp (by omega), nS_e, mq_cl_s, nI_1, nI_e]
/-- a turn that numbers -/
theorem bs_num {v1 : Int32} {top turn fuel : Nat} (ht : turn < 1000000) (htop : top < 150) (hw : S.2.1 12 top = nI m) (hp : zf_X2_partToMake N z (nI m) S = some (-1)) :
    zf_X2_build_11 N z (fuel + 1) v1 (nI top) (nI turn) S = mq_cl (zf_X2_number N z (nI m) S) (fun q S16 => if q = 0 then some (-1, S16) else zf_X2_build_11 N z fuel v1 (nI top + (-1)) (nI (turn + 1)) S16) := by
  show zf_X2_build_11b N z _ v1 (nI top) (nI turn) S = _
  have e1 : ¬ (1000000 : Int32) ≤ nI turn := nI_ge (b := 1000000) ht (by omega)
  have e2 : ¬ (150 : Int32) ≤ nI top := nI_ge (b := 150) (by omega) (by omega)
  unfold zf_X2_build_11b zf_X2_build_79
  simp only [if_neg e1, if_neg (nI_pos (show top < 2 ^ 31 by omega)), if_neg e2, mq_ck_of (vp_in_nI htop (by omega)), nI_clamp (show top < 2 ^ 31 by omega), hw, hp, mq_cp_s, nI_e, nI_1, ↓reduceIte]
/-- the number is given, or there is no more room -/
theorem b_number {k : Nat} {x y : Int32} {L : List En} (hN : 400 ≤ N) (h : dfb S W) (hm : mt W m t) (hD : S.2.1 11 m = -1) (hL : tbC S L) (hk : k < 8) (hso : (S.2.1 8 (m / 2) ||| nI (m % 2)) = nI k)
    (h1 : (if S.2.1 8 (m / 2) < 4 then some (S.2.1 9 (m / 2)) else mq_cp (zf_X2_firstPart N z (nI m) S) (fun q => zf_X2_numberOf N z q S)) = some x) (h2 : mq_cp (zf_X2_secondPart N z (nI m) S) (fun q => zf_X2_numberOf N z q S) = some y) :
    ((m1 (nI k, x, y) L).2.length ≤ 300 → ∃ S', zf_X2_number N z (nI m) S = some (1, S') ∧ tbC S' (m1 (nI k, x, y) L).2 ∧ S'.2.1 11 = upd (S.2.1 11) m (nI (m1 (nI k, x, y) L).1) ∧ S'.2.1 12 = S.2.1 12 ∧ ag [2] [4, 5, 6, 7, 11] [0] S S' ∧ ∀ f, f < L.length → S'.2.1 7 f = S.2.1 7 f) ∧
    (300 < (m1 (nI k, x, y) L).2.length → ∃ S', zf_X2_number N z (nI m) S = some (0, S') ∧ tbC S' L ∧ ag [] [11] [] S S') := by
  have hl := mt_lt hm
  have h150 := h.2.1
  have i1 : vp_in (nI (m / 2)) 150 := vp_in_nI (by omega) (by omega)
  have c1 : (nI (m / 2)).toNatClampNeg = m / 2 := nI_clamp (by omega)
  have i2 : vp_in (nI m) 300 := vp_in_nI (by omega) (by omega)
  have c2 : (nI m).toNatClampNeg = m := nI_clamp (by omega)
  have E : zf_X2_number N z (nI m) S = mq_cl (zf_X7_make N z (nI k) x y S) (fun q S24 => zf_X2_number_90 N z (nI m) (mq_sa S24 11 (upd (S24.2.1 11) m q))) := by
    have E52 : ∀ v : Int32, zf_X2_number_52 N z (nI m) (nI (m / 2)) v S = mq_cl (zf_X7_make N z (nI k) v y S) (fun q S24 => zf_X2_number_90 N z (nI m) (mq_sa S24 11 (upd (S24.2.1 11) m q))) := by
      intro v
      unfold zf_X2_number_52
      cases hs : zf_X2_secondPart N z (nI m) S with
      | none => rw [hs] at h2; cases h2
      | some q =>
        rw [hs, mq_cp_s] at h2
        rw [nI_e, mq_cp_s, h2, mq_cp_s, nI_e, mq_ck_of i1, c1, (bm_num (m := m) (by omega)).2, hso]
        simp only [mq_ck_of i2, c2, nS_e]
    unfold zf_X2_number
    rw [bm_is h hm, mq_cp_s, if_neg (by decide), mq_ck_of i2, c2, if_pos hD, (bm_num (m := m) (by omega)).1, nI_e, mq_ck_of i1, mq_ck_of i1, c1]
    by_cases q4 : S.2.1 8 (m / 2) < 4
    · rw [if_pos q4] at h1 ⊢
      have : S.2.1 9 (m / 2) = x := Option.some.inj h1
      rw [this, E52]
    · rw [if_neg q4] at h1 ⊢
      cases hf : zf_X2_firstPart N z (nI m) S with
      | none => rw [hf] at h1; cases h1
      | some q =>
        rw [hf, mq_cp_s] at h1
        rw [mq_cp_s, h1, mq_cp_s, E52]
  obtain ⟨M1, M2⟩ := ck_make (N := N) (z := z) (a := x) (b := y) hN hL hk
  refine ⟨fun q => ?_, fun q => ?_⟩
  · obtain ⟨S1, a1, a2, a3, a4⟩ := M1 q
    have e11 : S1.2.1 11 = S.2.1 11 := a3.2.1 11 (by decide)
    refine ⟨mq_sa S1 11 (upd (S.2.1 11) m (nI (m1 (nI k, x, y) L).1)), ?_, a2, rfl, a3.2.1 12 (by decide), ag_tr (ag_mono a3 (by decide) (by decide) (by decide)) (ag_sa (by decide)), a4⟩
    have hlt : (m1 (nI k, x, y) L).1 < 300 := by
      have := List.idxOf_lt_length_of_mem (m1_mem (nI k, x, y) L)
      rw [← m1_idx] at this
      omega
    rw [E, a1, mq_cl_s, e11]
    unfold zf_X2_number_90
    rw [mq_ck_of i2, c2, show (mq_sa S1 11 (upd (S.2.1 11) m (nI (m1 (nI k, x, y) L).1))).2.1 11 m = nI (m1 (nI k, x, y) L).1 from up_s _ _ _, if_neg (nI_nm1 (by omega)), mq_cz_1]
  · have a1 := M2 q
    refine ⟨mq_sa S 11 (upd (S.2.1 11) m (-1)), ?_, hL, ag_sa (by decide)⟩
    rw [E, a1, mq_cl_s]
    unfold zf_X2_number_90
    rw [mq_ck_of i2, c2, show (mq_sa S 11 (upd (S.2.1 11) m (-1))).2.1 11 m = -1 from up_s _ _ _, if_pos rfl, mq_cz_0]
end BLD
