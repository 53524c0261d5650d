/-! The tape and what is told: the class's words beside the reference's bytes. -/
theorem mq_cl_s {α β : Type} (a : α) (S : mq_St) (k : α → mq_St → Option β) : mq_cl (some (a, S)) k = k a S := rfl
theorem mq_cp_s {α β : Type} (a : α) (k : α → Option β) : mq_cp (some a) k = k a := rfl
/-- two states agree but at these places -/
def ag (li la ll : List Nat) (S S' : mq_St) : Prop := (∀ j, j ∉ li → S'.1 j = S.1 j) ∧ (∀ j, j ∉ la → S'.2.1 j = S.2.1 j) ∧ ∀ j, j ∉ ll → S'.2.2 j = S.2.2 j
theorem ag_rf {li la ll : List Nat} {S : mq_St} : ag li la ll S S := ⟨fun _ _ => rfl, fun _ _ => rfl, fun _ _ => rfl⟩
theorem ag_tr {li la ll : List Nat} {S S1 S2 : mq_St} (h : ag li la ll S S1) (h' : ag li la ll S1 S2) : ag li la ll S S2 := ⟨fun j hj => (h'.1 j hj).trans (h.1 j hj), fun j hj => (h'.2.1 j hj).trans (h.2.1 j hj), fun j hj => (h'.2.2 j hj).trans (h.2.2 j hj)⟩
theorem ag_si {li la ll : List Nat} {S : mq_St} {k : Nat} {v : Int32} (hk : k ∈ li) : ag li la ll S (mq_si S k v) := ⟨fun j hj => by
  show (if j = k then v else S.1 j) = S.1 j
  rw [if_neg (fun e => hj (by rw [e]; exact hk))], fun _ _ => rfl, fun _ _ => rfl⟩
theorem ag_sa {li la ll : List Nat} {S : mq_St} {k : Nat} {f : Nat → Int32} (hk : k ∈ la) : ag li la ll S (mq_sa S k f) := ⟨fun _ _ => rfl, fun j hj => by
  show (if j = k then f else S.2.1 j) = S.2.1 j
  rw [if_neg (fun e => hj (by rw [e]; exact hk))], fun _ _ => rfl⟩
theorem ag_sl {li la ll : List Nat} {S : mq_St} {k : Nat} {f : Nat → Int64} (hk : k ∈ ll) : ag li la ll S (mq_sl S k f) := ⟨fun _ _ => rfl, fun _ _ => rfl, fun j hj => by
  show (if j = k then f else S.2.2 j) = S.2.2 j
  rw [if_neg (fun e => hj (by rw [e]; exact hk))]⟩
theorem ag_mono {li la ll li' la' ll' : List Nat} {S S' : mq_St} (h : ag li la ll S S') (h1 : ∀ j ∈ li, j ∈ li') (h2 : ∀ j ∈ la, j ∈ la') (h3 : ∀ j ∈ ll, j ∈ ll') : ag li' la' ll' S S' := ⟨fun j hj => h.1 j (fun q => hj (h1 j q)), fun j hj => h.2.1 j (fun q => hj (h2 j q)), fun j hj => h.2.2 j (fun q => hj (h3 j q))⟩
theorem ag_push {li la ll : List Nat} {S X : mq_St} : ag li la ll S (mq_push S X li la ll) := by
  refine ⟨fun j hj => ?_, fun j hj => ?_, fun j hj => ?_⟩
  · show (match li.idxOf? j with | some k => X.1 k | none => S.1 j) = S.1 j
    rw [List.idxOf?_eq_none_iff.mpr hj]
  · show (match la.idxOf? j with | some k => X.2.1 k | none => S.2.1 j) = S.2.1 j
    rw [List.idxOf?_eq_none_iff.mpr hj]
  · show (match ll.idxOf? j with | some k => X.2.2 k | none => S.2.2 j) = S.2.2 j
    rw [List.idxOf?_eq_none_iff.mpr hj]
/-- bytes in both: c0, w the class's number and words, r1, b the reference's -/
def iv_tape (c0 : Int32) (w : Nat → Int32) (r1 : Int32) (b : Nat → Int32) : Prop := ∃ t : Nat, t ≤ 4000 ∧ c0 = nI t ∧ r1 = nI t ∧ ∀ i, i < t → by_at w i = b i &&& 255
theorem bp_b (x : Int32) : x.toInt8.toInt32 &&& 255 = x &&& 255 := by
  apply Int32.toBitVec_inj.mp
  rw [Int32.toBitVec_and, Int32.toBitVec_and, Int8.toBitVec_toInt32, Int32.toBitVec_toInt8]
  apply BitVec.eq_of_getLsbD_eq
  intro i hi
  rw [BitVec.getLsbD_and, BitVec.getLsbD_and]
  have hm : ∀ i < 32, 8 ≤ i → (255 : Int32).toBitVec.getLsbD i = false := by decide
  rcases Nat.lt_or_ge i 8 with z | z
  · rw [BitVec.getLsbD_signExtend, BitVec.getLsbD_signExtend, if_pos z, if_pos hi]
    simp only [z, hi, decide_true, Bool.true_and]
  · rw [hm i hi z]; simp
theorem by_sh (v : Int32) {n : Nat} (hn : n ≤ 24) : (v >>> (nI n &&& 31)) &&& 255 = mq_iushr v (nI n) &&& 255 := by
  apply b_ext
  intro i hi
  rw [b_and, b_and, b_255]
  by_cases h : i < 8
  · unfold mq_iushr
    rw [b_sshr n (by omega) v hi, b_ushr n (by omega), if_pos (by omega)]
  · rw [decide_eq_false h, Bool.and_false, Bool.and_false]
theorem by_sh0 (v : Int32) : mq_iushr v (nI 0) &&& 255 = v &&& 255 := by
  apply b_ext
  intro i hi
  unfold mq_iushr
  rw [b_and, b_and, b_ushr 0 (by omega), Nat.zero_add]
/-- the four bytes of a number, from place t on -/
def by_four (g : Nat → Int32) (t : Nat) (v : Int32) : Nat → Int32 := upd (upd (upd (upd g t (mq_iushr v 24 &&& 255)) (t + 1) (mq_iushr v 16 &&& 255)) (t + 2) (mq_iushr v 8 &&& 255)) (t + 3) (v &&& 255)
theorem by_zpushNumber {N : Nat} {z : Nat → Nat} {S : mq_St} {t : Nat} {g : Nat → Int32} (v : Int32) (h : by_row S t g) (h4 : t + 4 ≤ 4000) : ∃ S', zf_X0_pushNumber N z v S = some ((), S') ∧ by_row S' (t + 4) (by_four g t v) := by
  obtain ⟨S1, e1, r1⟩ := by_zpush (N := N) (z := z) (mq_iushr v 24) h (by omega)
  obtain ⟨S2, e2, r2⟩ := by_zpush (N := N) (z := z) (mq_iushr v 16) r1 (by omega)
  obtain ⟨S3, e3, r3⟩ := by_zpush (N := N) (z := z) (mq_iushr v 8) r2 (by omega)
  obtain ⟨S4, e4, r4⟩ := by_zpush (N := N) (z := z) v r3 (by omega)
  refine ⟨S4, ?_, r4⟩
  unfold zf_X0_pushNumber
  rw [e1, mq_cl_s, e2, mq_cl_s, e3, mq_cl_s, e4, mq_cl_s]
/-- one byte of the reference's -/
theorem rf_four1 {N n t k : Nat} {z : Nat → Nat} {S : mq_St} (v : Int32) (ht : S.1 1 = nI t) (h4 : t < 4000) (hk : k ≤ 24) : zf_X11_four_3 N z (n + 1) v (nI k) S = zf_X11_four_3 N z n v (nI k + (-8)) (mq_si (mq_sa S 0 (upd (S.2.1 0) t (v >>> (nI k &&& 31)).toInt8.toInt32)) 1 (nI (t + 1))) := by
  show zf_X11_four_3b N z _ v (nI k) S = _
  unfold zf_X11_four_3b
  rw [if_neg (nI_pos (by omega)), ht, mq_ck_of (vp_in_nI h4 (by omega)), nI_clamp (by omega)]
  dsimp only [mq_nS, mq_nI]
  rw [vp_nar_byte, show (v >>> (nI k &&& 31)).toInt8.toInt32.toInt8.toInt32 = (v >>> (nI k &&& 31)).toInt8.toInt32 from by rw [Int8.toInt8_toInt32]]
  have e : (mq_sa S 0 (upd (S.2.1 0) t (v >>> (nI k &&& 31)).toInt8.toInt32)).1 1 + 1 = nI (t + 1) := by
    show S.1 1 + 1 = _
    rw [ht, nI_1]
  rw [e]
theorem rf_four {N t : Nat} {z : Nat → Nat} {S : mq_St} {g : Nat → Int32} (v : Int32) (hN : 5 ≤ N) (ht : S.1 1 = nI t) (h4 : t + 4 ≤ 4000) (hg : ∀ i, i < t → g i = S.2.1 0 i &&& 255) : ∃ S', zf_X11_four N z v S = some ((), S') ∧ S'.1 1 = nI (t + 4) ∧ (∀ i, i < t + 4 → by_four g t v i = S'.2.1 0 i &&& 255) ∧ ag [1] [0] [] S S' := by
  obtain ⟨n, rfl⟩ : ∃ n, N = n + 5 := ⟨N - 5, by omega⟩
  unfold zf_X11_four
  dsimp only [mq_nI]
  have a1 : (24 : Int32) = nI 24 := rfl
  have a2 : nI 24 + (-8) = nI 16 := by decide
  have a3 : nI 16 + (-8) = nI 8 := by decide
  have a4 : nI 8 + (-8) = nI 0 := by decide
  have a5 : nI 0 + (-8) = -8 := by decide
  rw [a1, rf_four1 v ht (by omega) (by omega), a2, rf_four1 v rfl (by omega) (by omega), a3, rf_four1 v rfl (by omega) (by omega), a4, rf_four1 v rfl (by omega) (by omega), a5]
  refine ⟨_, rfl, rfl, ?_, ?_⟩
  · intro i hi
    show by_four g t v i = (upd (upd (upd (upd (S.2.1 0) t (v >>> (nI 24 &&& 31)).toInt8.toInt32) (t + 1) (v >>> (nI 16 &&& 31)).toInt8.toInt32) (t + 1 + 1) (v >>> (nI 8 &&& 31)).toInt8.toInt32) (t + 1 + 1 + 1) (v >>> (nI 0 &&& 31)).toInt8.toInt32) i &&& 255
    unfold by_four upd
    by_cases h3 : i = t + 3
    · subst h3
      rw [if_pos rfl, if_pos rfl, bp_b, by_sh v (by omega), by_sh0]
    · rw [if_neg h3, if_neg (show ¬ i = t + 1 + 1 + 1 from h3)]
      by_cases h2 : i = t + 2
      · subst h2
        rw [if_pos rfl, if_pos rfl, bp_b, by_sh v (by omega)]
        rfl
      · rw [if_neg h2, if_neg (show ¬ i = t + 1 + 1 from h2)]
        by_cases h1 : i = t + 1
        · subst h1
          rw [if_pos rfl, if_pos rfl, bp_b, by_sh v (by omega)]
          rfl
        · rw [if_neg h1, if_neg h1]
          by_cases h0 : i = t
          · subst h0
            rw [if_pos rfl, if_pos rfl, bp_b, by_sh v (by omega)]
            rfl
          · rw [if_neg h0, if_neg h0]
            exact hg i (by omega)
  · refine ag_tr ?_ (ag_si (by decide))
    refine ag_tr ?_ (ag_sa (by decide))
    refine ag_tr ?_ (ag_si (by decide))
    refine ag_tr ?_ (ag_sa (by decide))
    refine ag_tr ?_ (ag_si (by decide))
    refine ag_tr ?_ (ag_sa (by decide))
    refine ag_tr ?_ (ag_si (by decide))
    refine ag_tr ?_ (ag_sa (by decide))
    exact ag_rf
/-- a number fed to both -/
theorem st_num {N : Nat} {z : Nat → Nat} {SC SR : mq_St} {t : Nat} (v : Int32) (hN : 5 ≤ N) (hc : SC.1 0 = nI t) (hr : SR.1 1 = nI t) (h4 : t + 4 ≤ 4000) (hb : ∀ i, i < t → by_at (SC.2.1 2) i = SR.2.1 0 i &&& 255) :
    ∃ X SR', zf_X0_pushNumber N z v (mq_pull SC [0] [2] []) = some ((), X) ∧ zf_X11_four N z v SR = some ((), SR') ∧ (mq_push SC X [0] [2] []).1 0 = nI (t + 4) ∧ SR'.1 1 = nI (t + 4) ∧ (∀ i, i < t + 4 → by_at ((mq_push SC X [0] [2] []).2.1 2) i = SR'.2.1 0 i &&& 255) ∧ ag [1] [0] [] SR SR' := by
  obtain ⟨X, e1, r1, r2, r3⟩ := by_zpushNumber (N := N) (z := z) (S := mq_pull SC [0] [2] []) (t := t) (g := fun i => SR.2.1 0 i &&& 255) v ⟨hc, by omega, hb⟩ h4
  obtain ⟨SR', e2, q1, q2, q3⟩ := rf_four (N := N) (z := z) (S := SR) (g := fun i => SR.2.1 0 i &&& 255) v hN hr h4 (fun i _ => rfl)
  exact ⟨X, SR', e1, e2, r1, q1, fun i hi => (r3 i hi).trans (q2 i hi), q3⟩
