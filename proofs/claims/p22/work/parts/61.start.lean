/-- one call of the script -/
def zf_step (N : Nat) (z : Nat → Nat) (op x1 x2 x3 x4 x5 : Int32) (SC SR : mq_St) (f : Nat → Int64) : Option (mq_St × mq_St × (Nat → Int64)) :=
  if op = 0 then zf_law_0 N z x1 x2 x3 x4 x5 SC SR f
  else if op = 1 then zf_law_1 N z x1 x2 x3 x4 x5 SC SR f
  else if op = 2 then zf_law_2 N z x1 x2 x3 x4 x5 SC SR f
  else if op = 3 then zf_law_3 N z x1 x2 x3 x4 x5 SC SR f
  else if op = 4 then zf_law_4 N z x1 x2 x3 x4 x5 SC SR f
  else if op = 5 then zf_law_5 N z x1 x2 x3 x4 x5 SC SR f
  else if op = 6 then zf_law_6 N z x1 x2 x3 x4 x5 SC SR f
  else if op = 7 then zf_law_7 N z x1 x2 x3 x4 x5 SC SR f
  else if op = 8 then zf_law_8 N z x1 x2 x3 x4 x5 SC SR f
  else if op = 9 then zf_law_9 N z x1 x2 x3 x4 x5 SC SR f
  else if op = 10 then zf_law_10 N z x1 x2 x3 x4 x5 SC SR f
  else if op = 11 then zf_law_11 N z x1 x2 x3 x4 x5 SC SR f
  else if op = 12 then zf_law_12 N z x1 x2 x3 x4 x5 SC SR f
  else if op = 13 then zf_law_13 N z x1 x2 x3 x4 x5 SC SR f
  else if op = 14 then zf_law_14 N z x1 x2 x3 x4 x5 SC SR f
  else if op = 15 then zf_law_15 N z x1 x2 x3 x4 x5 SC SR f
  else if op = 16 then zf_law_16 N z x1 x2 x3 x4 x5 SC SR f
  else if op = 17 then zf_law_17 N z x1 x2 x3 x4 x5 SC SR f
  else if op = 18 then zf_law_18 N z x1 x2 x3 x4 x5 SC SR f
  else if op = 19 then zf_law_19 N z x1 x2 x3 x4 x5 SC SR f
  else if op = 20 then zf_law_20 N z x1 x2 x3 x4 x5 SC SR f
  else if op = 21 then zf_law_21 N z x1 x2 x3 x4 x5 SC SR f
  else some (SC, SR, f)
/-- the script's calls from its place k on -/
def zf_law (N : Nat) (z : Nat → Nat) (xs : Nat → Int32) (L : Nat) : Nat → Nat → mq_St → mq_St → (Nat → Int64) → Option Unit
  | 0, _, _, _, _ => none
  | n + 1, k, SC, SR, f => if k + 6 ≤ L then (match zf_step N z (xs k &&& 31) (xs (k + 1)) (xs (k + 2)) (xs (k + 3)) (xs (k + 4)) (xs (k + 5)) SC SR f with
    | none => none
    | some q => zf_law N z xs L n (k + 6) q.1 q.2.1 q.2.2) else some ()
theorem mq_gt {k L : Nat} (hk : k ≤ 4000) (hL : L ≤ 3072) : (Int32.ofNat L - 6 < nI k) ↔ L < k + 6 := by
  have h6 : (6 : Int32) = nI 6 := rfl
  have e1 : (Int32.ofNat L - 6).toInt = (L : Int) - 6 := by rw [h6]; exact pk_sub_toInt (a := L) (b := 6) (by omega) (by omega)
  rw [Int32.lt_iff_toInt_lt, e1, nI_toInt (by omega)]
  omega
set_option maxHeartbeats 4000000 in
set_option maxRecDepth 100000 in
theorem law_loop {p : Program} {l : Launch} {e : Env} {s : State} {m : MethodId} {below : List Frame} {meth : Method} {c : Code} {D : va_G} {a b z : Nat → Nat} {cI cL cB cZ : ClassId} {c1 : Cond} {N L sb o s1 s2 : Nat} {xs : Nat → Int32} (C0 : mq_L p s m #[Value.ref sb] c D cI cL cB cZ c1 l sb L xs s1 s2) (hr : meth.sig.returnType = ret) (hlocks : meth.locks = false) :
    ∀ (n k j : Nat) (SC SR : mq_St) (f : Nat → Int64) (H : Heap) (locs : List Loc) (ls : Array Slot), k = 6 * j → j ≤ 512 → zf_law N z xs L n k SC SR f = some () → lv_has ls 7 [(0, .ref sb), (1, .ref (a 0)), (2, .ref (b 0)), (3, .ref o), (4, .int (nI k))] → va_P D vwCl (wd_R b cI cL cB cZ z SR ++ (wd_C a cI cL cB cZ z SC ++ mq_oo o cL (f))) H → va_D (fun q => s.heap.size ≤ q) (wd_R b cI cL cB cZ z SR ++ (wd_C a cI cL cB cZ z SC ++ mq_oo o cL (f))) → va_S (fun q => s.heap.size ≤ q) s.heap H locs → W p l e room_1 s m #[Value.ref sb] below meth c H locs (103 + j) (103353 + 6 * j) (lw_Z below #[Value.ref sb] s) (F0 m 23 ls []) := by
  obtain ⟨C, hst, hXs, hbl, hL, hXX⟩ := id C0
  obtain ⟨hx, hb, hml, hown, hts, hK, hA⟩ := id C
  have hbA : ¬ (fun q : Nat => s.heap.size ≤ q) sb := Nat.not_le.mpr hbl
  intro n
  induction n with
  | zero =>
    intro k j SC SR f H locs ls hk hj h
    exact nomatch (show (none : Option Unit) = some () from h)
  | succ n ih =>
    intro k j SC SR f H locs ls hk hj h hl hP hD hS
    refine lv_iload hx hb dL_law_23 (lv_at hl 4 rfl) ?_
    refine lv_aload_n hx hb dL_law_25 rfl (lv_at hl 0 rfl) ?_
    refine va_slen hx hb hXs hbl hbA hS dL_law_26 ?_
    refine lv_bipush (v := 6) hx hb dL_law_27 (by decide) ?_
    refine lv_isub hx hb dL_law_29 ?_
    refine lv_icmp_gt (tgt := 824) hx hb dL_law_30 (by decide) (fun c0 => ?_) (fun c0 => ?_)
    · refine lv_iconst (v := 1) hx hb dL_law_824 (by decide) ?_
      refine va_forget (fun q hq => hS.2.2 q hq) ?_
      refine W.widen (k := 601024) (n := 7293034) (by omega) (by omega) ?_
      exact lw_ret hx hb hr hlocks dL_law_825
    · have hk6 : k + 6 ≤ L := by
        rcases Nat.lt_or_ge L (k + 6) with q | q
        · exact absurd ((mq_gt (by omega) hL).mpr q) c0
        · exact q
      have h := h
      unfold zf_law at h
      rw [if_pos hk6] at h
      have hcs1 : 103 + j + 1 ≤ room_1.cells ∧ 103353 + 6 * j + 6 ≤ room_1.slots := by
        have e1 : room_1.cells = 601024 := rfl
        have e2 : room_1.slots = 7293034 := rfl
        rw [e1, e2]
        exact ⟨by omega, by omega⟩
      have tail : ∀ (q : mq_St × mq_St × (Nat → Int64)), zf_law N z xs L n (k + 6) q.1 q.2.1 q.2.2 = some () → ∀ (H : Heap) (locs : List Loc) (ls : Array Slot), lv_has ls 7 [(0, .ref sb), (1, .ref (a 0)), (2, .ref (b 0)), (3, .ref o), (4, .int (nI k))] → va_P D vwCl (wd_R b cI cL cB cZ z q.2.1 ++ (wd_C a cI cL cB cZ z q.1 ++ mq_oo o cL (q.2.2))) H → va_D (fun q => s.heap.size ≤ q) (wd_R b cI cL cB cZ z q.2.1 ++ (wd_C a cI cL cB cZ z q.1 ++ mq_oo o cL (q.2.2))) → va_S (fun q => s.heap.size ≤ q) s.heap H locs → W p l e room_1 s m #[Value.ref sb] below meth c H locs (103 + j + 1) (103353 + 6 * j + 6) (lw_Z below #[Value.ref sb] s) (F0 m 818 ls []) := by
        intro q hq H locs ls hl hP hD hS
        refine lv_iinc (v := nI (k + 6)) (lv' := [(4, .int (nI (k + 6))), (0, .ref sb), (1, .ref (a 0)), (2, .ref (b 0)), (3, .ref o)]) hx hb dL_law_818 hl (k := 4) rfl (nI_add k 6) (by decide) rfl (fun ls hl => ?_)
        refine lv_goto (tgt := 23) hx hb dL_law_821 (by decide) ?_
        exact ih (k + 6) (j + 1) q.1 q.2.1 q.2.2 H locs ls (by omega) (by omega) hq (lv_sub hl [1, 2, 3, 4, 0] rfl) hP hD hS
      refine lv_aload_n hx hb dL_law_33 rfl (lv_at hl 0 rfl) ?_
      refine lv_iload hx hb dL_law_34 (lv_at hl 4 rfl) ?_
      refine va_sld hx hb hXs hbl hbA hS (mq_sx0 (by omega) hL).1 dL_law_36 ?_
      refine lv_topi (fun y ey => ?_)
      obtain rfl : y = xs k := ey.trans (congrArg xs (mq_sx0 (by omega) hL).2)
      refine lv_bipush (v := 31) hx hb dL_law_37 (by decide) ?_
      refine lv_iand hx hb dL_law_39 ?_
      obtain ⟨q, hq, hr1⟩ : ∃ q, zf_step N z (xs k &&& 31) (xs (k + 1)) (xs (k + 2)) (xs (k + 3)) (xs (k + 4)) (xs (k + 5)) SC SR f = some q ∧ zf_law N z xs L n (k + 6) q.1 q.2.1 q.2.2 = some () := by
        cases hq : zf_step N z (xs k &&& 31) (xs (k + 1)) (xs (k + 2)) (xs (k + 3)) (xs (k + 4)) (xs (k + 5)) SC SR f with
        | none => rw [hq] at h; cases h
        | some q => rw [hq] at h; exact ⟨q, rfl, h⟩
      unfold zf_step at hq
      by_cases c0 : xs k &&& 31 = 0
      · rw [if_pos c0] at hq
        refine lv_tableIn (off := 104) (tgt := 144) hx hb dL_law_40 (by rw [c0]; decide) (by rw [c0]; decide) (by rw [c0]; rfl) (by decide) ?_
        exact zl_case_0 C0 hk6 hcs1 SC SR f q H locs ls hq hl hP hD hS (tail q hr1)
      rw [if_neg c0] at hq
      by_cases c1 : xs k &&& 31 = 1
      · rw [if_pos c1] at hq
        refine lv_tableIn (off := 177) (tgt := 217) hx hb dL_law_40 (by rw [c1]; decide) (by rw [c1]; decide) (by rw [c1]; rfl) (by decide) ?_
        exact zl_case_1 C0 hk6 hcs1 SC SR f q H locs ls hq hl hP hD hS (tail q hr1)
      rw [if_neg c1] at hq
      by_cases c2 : xs k &&& 31 = 2
      · rw [if_pos c2] at hq
        refine lv_tableIn (off := 202) (tgt := 242) hx hb dL_law_40 (by rw [c2]; decide) (by rw [c2]; decide) (by rw [c2]; rfl) (by decide) ?_
        exact zl_case_2 C0 hk6 hcs1 SC SR f q H locs ls hq hl hP hD hS (tail q hr1)
      rw [if_neg c2] at hq
      by_cases c3 : xs k &&& 31 = 3
      · rw [if_pos c3] at hq
        refine lv_tableIn (off := 215) (tgt := 255) hx hb dL_law_40 (by rw [c3]; decide) (by rw [c3]; decide) (by rw [c3]; rfl) (by decide) ?_
        exact zl_case_3 C0 hk6 hcs1 SC SR f q H locs ls hq hl hP hD hS (tail q hr1)
      rw [if_neg c3] at hq
      by_cases c4 : xs k &&& 31 = 4
      · rw [if_pos c4] at hq
        refine lv_tableIn (off := 252) (tgt := 292) hx hb dL_law_40 (by rw [c4]; decide) (by rw [c4]; decide) (by rw [c4]; rfl) (by decide) ?_
        exact zl_case_4 C0 hk6 hcs1 SC SR f q H locs ls hq hl hP hD hS (tail q hr1)
      rw [if_neg c4] at hq
      by_cases c5 : xs k &&& 31 = 5
      · rw [if_pos c5] at hq
        refine lv_tableIn (off := 277) (tgt := 317) hx hb dL_law_40 (by rw [c5]; decide) (by rw [c5]; decide) (by rw [c5]; rfl) (by decide) ?_
        exact zl_case_5 C0 hk6 hcs1 SC SR f q H locs ls hq hl hP hD hS (tail q hr1)
      rw [if_neg c5] at hq
      by_cases c6 : xs k &&& 31 = 6
      · rw [if_pos c6] at hq
        refine lv_tableIn (off := 330) (tgt := 370) hx hb dL_law_40 (by rw [c6]; decide) (by rw [c6]; decide) (by rw [c6]; rfl) (by decide) ?_
        exact zl_case_6 C0 hk6 hcs1 SC SR f q H locs ls hq hl hP hD hS (tail q hr1)
      rw [if_neg c6] at hq
      by_cases c7 : xs k &&& 31 = 7
      · rw [if_pos c7] at hq
        refine lv_tableIn (off := 355) (tgt := 395) hx hb dL_law_40 (by rw [c7]; decide) (by rw [c7]; decide) (by rw [c7]; rfl) (by decide) ?_
        exact zl_case_7 C0 hk6 hcs1 SC SR f q H locs ls hq hl hP hD hS (tail q hr1)
      rw [if_neg c7] at hq
      by_cases c8 : xs k &&& 31 = 8
      · rw [if_pos c8] at hq
        refine lv_tableIn (off := 392) (tgt := 432) hx hb dL_law_40 (by rw [c8]; decide) (by rw [c8]; decide) (by rw [c8]; rfl) (by decide) ?_
        exact zl_case_8 C0 hk6 hcs1 SC SR f q H locs ls hq hl hP hD hS (tail q hr1)
      rw [if_neg c8] at hq
      by_cases c9 : xs k &&& 31 = 9
      · rw [if_pos c9] at hq
        refine lv_tableIn (off := 429) (tgt := 469) hx hb dL_law_40 (by rw [c9]; decide) (by rw [c9]; decide) (by rw [c9]; rfl) (by decide) ?_
        exact zl_case_9 C0 hk6 hcs1 SC SR f q H locs ls hq hl hP hD hS (tail q hr1)
      rw [if_neg c9] at hq
      by_cases c10 : xs k &&& 31 = 10
      · rw [if_pos c10] at hq
        refine lv_tableIn (off := 442) (tgt := 482) hx hb dL_law_40 (by rw [c10]; decide) (by rw [c10]; decide) (by rw [c10]; rfl) (by decide) ?_
        exact zl_case_10 C0 hk6 hcs1 SC SR f q H locs ls hq hl hP hD hS (tail q hr1)
      rw [if_neg c10] at hq
      by_cases c11 : xs k &&& 31 = 11
      · rw [if_pos c11] at hq
        refine lv_tableIn (off := 479) (tgt := 519) hx hb dL_law_40 (by rw [c11]; decide) (by rw [c11]; decide) (by rw [c11]; rfl) (by decide) ?_
        exact zl_case_11 C0 hk6 hcs1 SC SR f q H locs ls hq hl hP hD hS (tail q hr1)
      rw [if_neg c11] at hq
      by_cases c12 : xs k &&& 31 = 12
      · rw [if_pos c12] at hq
        refine lv_tableIn (off := 504) (tgt := 544) hx hb dL_law_40 (by rw [c12]; decide) (by rw [c12]; decide) (by rw [c12]; rfl) (by decide) ?_
        exact zl_case_12 C0 hk6 hcs1 SC SR f q H locs ls hq hl hP hD hS (tail q hr1)
      rw [if_neg c12] at hq
      by_cases c13 : xs k &&& 31 = 13
      · rw [if_pos c13] at hq
        refine lv_tableIn (off := 541) (tgt := 581) hx hb dL_law_40 (by rw [c13]; decide) (by rw [c13]; decide) (by rw [c13]; rfl) (by decide) ?_
        exact zl_case_13 C0 hk6 hcs1 SC SR f q H locs ls hq hl hP hD hS (tail q hr1)
      rw [if_neg c13] at hq
      by_cases c14 : xs k &&& 31 = 14
      · rw [if_pos c14] at hq
        refine lv_tableIn (off := 566) (tgt := 606) hx hb dL_law_40 (by rw [c14]; decide) (by rw [c14]; decide) (by rw [c14]; rfl) (by decide) ?_
        exact zl_case_14 C0 hk6 hcs1 SC SR f q H locs ls hq hl hP hD hS (tail q hr1)
      rw [if_neg c14] at hq
      by_cases c15 : xs k &&& 31 = 15
      · rw [if_pos c15] at hq
        refine lv_tableIn (off := 579) (tgt := 619) hx hb dL_law_40 (by rw [c15]; decide) (by rw [c15]; decide) (by rw [c15]; rfl) (by decide) ?_
        exact zl_case_15 C0 hk6 hcs1 SC SR f q H locs ls hq hl hP hD hS (tail q hr1)
      rw [if_neg c15] at hq
      by_cases c16 : xs k &&& 31 = 16
      · rw [if_pos c16] at hq
        refine lv_tableIn (off := 604) (tgt := 644) hx hb dL_law_40 (by rw [c16]; decide) (by rw [c16]; decide) (by rw [c16]; rfl) (by decide) ?_
        exact zl_case_16 C0 hk6 hcs1 SC SR f q H locs ls hq hl hP hD hS (tail q hr1)
      rw [if_neg c16] at hq
      by_cases c17 : xs k &&& 31 = 17
      · rw [if_pos c17] at hq
        refine lv_tableIn (off := 617) (tgt := 657) hx hb dL_law_40 (by rw [c17]; decide) (by rw [c17]; decide) (by rw [c17]; rfl) (by decide) ?_
        exact zl_case_17 C0 hk6 hcs1 SC SR f q H locs ls hq hl hP hD hS (tail q hr1)
      rw [if_neg c17] at hq
      by_cases c18 : xs k &&& 31 = 18
      · rw [if_pos c18] at hq
        refine lv_tableIn (off := 657) (tgt := 697) hx hb dL_law_40 (by rw [c18]; decide) (by rw [c18]; decide) (by rw [c18]; rfl) (by decide) ?_
        exact zl_case_18 C0 hk6 hcs1 SC SR f q H locs ls hq hl hP hD hS (tail q hr1)
      rw [if_neg c18] at hq
      by_cases c19 : xs k &&& 31 = 19
      · rw [if_pos c19] at hq
        refine lv_tableIn (off := 697) (tgt := 737) hx hb dL_law_40 (by rw [c19]; decide) (by rw [c19]; decide) (by rw [c19]; rfl) (by decide) ?_
        exact zl_case_19 C0 hk6 hcs1 SC SR f q H locs ls hq hl hP hD hS (tail q hr1)
      rw [if_neg c19] at hq
      by_cases c20 : xs k &&& 31 = 20
      · rw [if_pos c20] at hq
        refine lv_tableIn (off := 737) (tgt := 777) hx hb dL_law_40 (by rw [c20]; decide) (by rw [c20]; decide) (by rw [c20]; rfl) (by decide) ?_
        exact zl_case_20 C0 hk6 hcs1 SC SR f q H locs ls hq hl hP hD hS (tail q hr1)
      rw [if_neg c20] at hq
      by_cases c21 : xs k &&& 31 = 21
      · rw [if_pos c21] at hq
        refine lv_tableIn (off := 750) (tgt := 790) hx hb dL_law_40 (by rw [c21]; decide) (by rw [c21]; decide) (by rw [c21]; rfl) (by decide) ?_
        exact zl_case_21 C0 hk6 hcs1 SC SR f q H locs ls hq hl hP hD hS (tail q hr1)
      rw [if_neg c21] at hq
      have n0 := lv_neT c0 (show Int32.toInt 0 = 0 by decide)
      have n1 := lv_neT c1 (show Int32.toInt 1 = 1 by decide)
      have n2 := lv_neT c2 (show Int32.toInt 2 = 2 by decide)
      have n3 := lv_neT c3 (show Int32.toInt 3 = 3 by decide)
      have n4 := lv_neT c4 (show Int32.toInt 4 = 4 by decide)
      have n5 := lv_neT c5 (show Int32.toInt 5 = 5 by decide)
      have n6 := lv_neT c6 (show Int32.toInt 6 = 6 by decide)
      have n7 := lv_neT c7 (show Int32.toInt 7 = 7 by decide)
      have n8 := lv_neT c8 (show Int32.toInt 8 = 8 by decide)
      have n9 := lv_neT c9 (show Int32.toInt 9 = 9 by decide)
      have n10 := lv_neT c10 (show Int32.toInt 10 = 10 by decide)
      have n11 := lv_neT c11 (show Int32.toInt 11 = 11 by decide)
      have n12 := lv_neT c12 (show Int32.toInt 12 = 12 by decide)
      have n13 := lv_neT c13 (show Int32.toInt 13 = 13 by decide)
      have n14 := lv_neT c14 (show Int32.toInt 14 = 14 by decide)
      have n15 := lv_neT c15 (show Int32.toInt 15 = 15 by decide)
      have n16 := lv_neT c16 (show Int32.toInt 16 = 16 by decide)
      have n17 := lv_neT c17 (show Int32.toInt 17 = 17 by decide)
      have n18 := lv_neT c18 (show Int32.toInt 18 = 18 by decide)
      have n19 := lv_neT c19 (show Int32.toInt 19 = 19 by decide)
      have n20 := lv_neT c20 (show Int32.toInt 20 = 20 by decide)
      have n21 := lv_neT c21 (show Int32.toInt 21 = 21 by decide)
      refine lv_tableOut (tgt := 818) hx hb dL_law_40 (by omega) (by decide) ?_
      refine W.widen (k := 103 + j + 1) (n := 103353 + 6 * j + 6) (Nat.le_add_right _ _) (Nat.le_add_right _ _) ?_
      cases hq
      exact tail _ hr1 H locs ls hl hP hD hS
theorem zt_inst_X10 : Cond.instantiable RX10 12 ∈ mq_T := mq_T_mem (mq_t1 (List.mem_of_getElem? (i := 20) rfl)) rfl
theorem zt_inst_X11 : Cond.instantiable RX11 76 ∈ mq_T := mq_T_mem (mq_t5 (List.mem_of_getElem? (i := 160) rfl)) rfl
theorem zt_c_L_8 : Cond.classLink RL 8 RX10 ∈ mq_T := mq_T_mem (mq_t1 (List.mem_of_getElem? (i := 19) rfl)) rfl
theorem zt_c_L_27 : Cond.classLink RL 27 RX11 ∈ mq_T := mq_T_mem (mq_t5 (List.mem_of_getElem? (i := 159) rfl)) rfl
theorem zt_m_L_26 : Cond.methodLink RL 26 yX10_init ∈ mq_T := mq_T_mem (mq_t1 (List.mem_of_getElem? (i := 21) rfl)) rfl
theorem zt_m_L_29 : Cond.methodLink RL 29 yX11_init ∈ mq_T := mq_T_mem (mq_t5 (List.mem_of_getElem? (i := 161) rfl)) rfl
theorem zt_X10_init_i : Cond.instanceMethod yX10_init ∈ mq_T := mq_T_mem (mq_t1 (List.mem_of_getElem? (i := 22) rfl)) rfl
theorem zt_X11_init_i : Cond.instanceMethod yX11_init ∈ mq_T := mq_T_mem (mq_t5 (List.mem_of_getElem? (i := 162) rfl)) rfl
theorem zt_X10_init_c : zc_X10_init ∈ mq_T := mq_T_mem (mq_t1 (List.mem_of_getElem? (i := 23) rfl)) rfl
theorem zt_X11_init_c : zc_X11_init ∈ mq_T := mq_T_mem (mq_t5 (List.mem_of_getElem? (i := 163) rfl)) rfl
theorem mq_arr {args : Array Value} {s : State} {ty : FieldType} (hp : ∀ C, ty ≠ .object C) (h : (Cond.arrayClass ty).before args s = true) : ∃ cA : ClassId, ArrOfT s cA ty ∧ va_RA s cA ty := by
  obtain ⟨cA, kA, comp, h1, h2, h3⟩ := Cond.arrayClass_spec h
  refine ⟨cA, fun n z => ⟨fun k h => (by cases h), kA, h2, comp, h3⟩, ?_⟩
  cases ty with
  | object C => exact absurd rfl (hp C)
  | _ => exact h1
/-- WHAT IS LEFT: of functions alone -/
def zH : Prop := ∃ (N : Nat) (z : Nat → Nat) (S1 SC SR : mq_St), zf_X7_init_t N z mq_Z = some ((), S1) ∧ zf_X10_init_t N z (zS_C S1) = some ((), SC) ∧ zf_X11_init_t N z zS_R = some ((), SR) ∧ ∀ (xs : Nat → Int32) (L : Nat), L ≤ 3072 → ∃ n : Nat, zf_law N z xs L n 0 SC SR (fun _ => 0) = some ()
set_option maxHeartbeats 8000000 in
set_option maxRecDepth 100000 in
/-- THE LAW, from its entry -/
theorem whole_start_open (hH : zH) {p : Program} {e : Env} {s : State} {m : MethodId} {below : List Frame} {meth : Method} {c : Code} (l : Launch) (hst : l.stackTraces = false) {sb L : Nat} {xs : Nat → Int32} (hL : L ≤ 3072) (C0 : lw_At p s m meth c sb L xs) : W p l e room_1 s m #[Value.ref sb] below meth c s.heap [] 0 0 (lw_Z below #[Value.ref sb] s) (entryFrame m ([Value.ref sb] : List Value).toArray 7) := by
  obtain ⟨N, z, S1, SC, SR, hi1, hi2, hi3, hrun⟩ := hH
  obtain ⟨nf, hlaw⟩ := hrun xs L hL
  obtain ⟨hx, hb, hr, hml, hown, hts0, hX, hbl, hlocks, hgv⟩ := id C0
  have hmT : ∀ w ∈ mq_T, w.before #[Value.ref sb] s = true := fun w h => hts0 w (List.mem_filter.mp h).1
  have hts : ∀ w ∈ zc_X10_init :: mq_T, w.before #[Value.ref sb] s = true := fun w h => (List.mem_cons.mp h).elim (fun e => by rw [e]; exact hmT _ zt_X10_init_c) (hmT w)
  have hflat := flat_of_before _ hgv
  have hA : ∀ q : Nat, s.heap.size ≤ q → (fun q : Nat => s.heap.size ≤ q) q := fun _ h => h
  have hnA : ∀ q : Nat, q < s.heap.size → ¬ (fun q : Nat => s.heap.size ≤ q) q := fun q h => Nat.not_le.mpr h
  obtain ⟨c0, iS0, hKn0⟩ := u_known (C := RX0) (T := TX0) (N := 2) (n := 2) hts (zi_X0 _) (hts _ (List.mem_cons_of_mem _ zt_inst_X0))
  obtain ⟨c1, iS1, hKn1⟩ := u_known (C := RX1) (T := TX1) (N := 5) (n := 5) hts (zi_X1 _) (hts _ (List.mem_cons_of_mem _ zt_inst_X1))
  obtain ⟨c2, iS2, hKn2⟩ := u_known (C := RX2) (T := TX2) (N := 8) (n := 8) hts (zi_X2 _) (hts _ (List.mem_cons_of_mem _ zt_inst_X2))
  obtain ⟨c3, iS3, hKn3⟩ := u_known (C := RX3) (T := TX3) (N := 2) (n := 2) hts (zi_X3 _) (hts _ (List.mem_cons_of_mem _ zt_inst_X3))
  obtain ⟨c4, iS4, hKn4⟩ := u_known (C := RX4) (T := TX4) (N := 12) (n := 12) hts (zi_X4 _) (hts _ (List.mem_cons_of_mem _ zt_inst_X4))
  obtain ⟨c5, iS5, hKn5⟩ := u_known (C := RX5) (T := TX5) (N := 12) (n := 12) hts (zi_X5 _) (hts _ (List.mem_cons_of_mem _ zt_inst_X5))
  obtain ⟨c6, iS6, hKn6⟩ := u_known (C := RX6) (T := TX6) (N := 1) (n := 1) hts (zi_X6 _) (hts _ (List.mem_cons_of_mem _ zt_inst_X6))
  obtain ⟨c7, iS7, hKn7⟩ := u_known (C := RX7) (T := TX7) (N := 6) (n := 6) hts (zi_X7 _) (hts _ (List.mem_cons_of_mem _ zt_inst_X7))
  obtain ⟨c8, iS8, hKn8⟩ := u_known (C := RX8) (T := TX8) (N := 19) (n := 19) hts (zi_X8 _) (hts _ (List.mem_cons_of_mem _ zt_inst_X8))
  obtain ⟨c9, iS9, hKn9⟩ := u_known (C := RX9) (T := TX9) (N := 4) (n := 4) hts (zi_X9 _) (hts _ (List.mem_cons_of_mem _ zt_inst_X9))
  obtain ⟨c10, iS10, hKn10⟩ := u_known (C := RX10) (T := TX10) (N := 12) (n := 12) hts (zi_X10 _) (hts _ (List.mem_cons_of_mem _ zt_inst_X10))
  obtain ⟨c11, iS11, hKn11⟩ := u_known (C := RX11) (T := TX11) (N := 76) (n := 76) hts (zi_X11 _) (hts _ (List.mem_cons_of_mem _ zt_inst_X11))
  obtain ⟨dC, dI, hKc⟩ : ∃ (dC : Nat → ClassId) (dI : Nat → Nat → Nat), ∀ (k : Nat) (q : vw_C), vwCl[k]? = some q → u_Kn s q.1 q.2.1 q.2.2 (dC k) (dI k) := by
    refine ⟨fun k => if k = 0 then c0 else if k = 1 then c1 else if k = 2 then c2 else if k = 3 then c3 else if k = 4 then c4 else if k = 5 then c5 else if k = 6 then c6 else if k = 7 then c7 else if k = 8 then c8 else if k = 9 then c9 else if k = 10 then c10 else c11, fun k => if k = 0 then iS0 else if k = 1 then iS1 else if k = 2 then iS2 else if k = 3 then iS3 else if k = 4 then iS4 else if k = 5 then iS5 else if k = 6 then iS6 else if k = 7 then iS7 else if k = 8 then iS8 else if k = 9 then iS9 else if k = 10 then iS10 else iS11, ?_⟩
    intro k q hq
    match k, hq with
    | 0, hq => cases hq; exact hKn0
    | 1, hq => cases hq; exact hKn1
    | 2, hq => cases hq; exact hKn2
    | 3, hq => cases hq; exact hKn3
    | 4, hq => cases hq; exact hKn4
    | 5, hq => cases hq; exact hKn5
    | 6, hq => cases hq; exact hKn6
    | 7, hq => cases hq; exact hKn7
    | 8, hq => cases hq; exact hKn8
    | 9, hq => cases hq; exact hKn9
    | 10, hq => cases hq; exact hKn10
    | 11, hq => cases hq; exact hKn11
    | k + 12, hq => simp [vwCl] at hq
  obtain ⟨cI, hI⟩ := mq_arr (by intro C h; cases h) (hts _ (List.mem_cons_of_mem _ zt_arr_I))
  obtain ⟨cL, hLn⟩ := mq_arr (by intro C h; cases h) (hts _ (List.mem_cons_of_mem _ zt_arr_J))
  obtain ⟨cB, hB⟩ := mq_arr (by intro C h; cases h) (hts _ (List.mem_cons_of_mem _ zt_arr_B))
  obtain ⟨cZ, hZ⟩ := mq_arr (by intro C h; cases h) (hts _ (List.mem_cons_of_mem _ zt_arr_Z))
  have hK : va_K (dC, dI) vwCl (mq_tys cI cL cB cZ) s := by
    refine ⟨hKc, fun k q h => ?_⟩
    match k, h with
    | 0, h => cases h; exact hI
    | 1, h => cases h; exact hLn
    | 2, h => cases h; exact hB
    | 3, h => cases h; exact hZ
    | k + 4, h => simp at h
  obtain ⟨s1, x1, x2, x3, hs1, -⟩ := Cond.exactly_spec (args := #[Value.ref sb]) (first := s) (o := none) (s := s) (idx := []) (t := .string "ModalDesk" 198) (cls := "java/lang/String") (hflat _ (by decide +kernel))
  obtain ⟨s2, y1, y2, y3, hs2, -⟩ := Cond.exactly_spec (args := #[Value.ref sb]) (first := s) (o := none) (s := s) (idx := []) (t := .string "ModalDesk" 206) (cls := "java/lang/String") (hflat _ (by decide +kernel))
  have hXX : mq_X (fun q => s.heap.size ≤ q) s1 s2 s := ⟨vk_R.of (hts0 (.stringRef RX10 198 "no such world") (by decide +kernel)) hs1, vk_R.of (hts0 (.stringRef RX10 206 "no such world, or formula") (by decide +kernel)) hs2, vx_Zqof (hts0 _ (by decide +kernel)) (hts0 _ (by decide +kernel)) (hflat _ (by decide +kernel)) hnA, vx_Zqof (hts0 _ (by decide +kernel)) (hts0 _ (by decide +kernel)) (hflat _ (by decide +kernel)) hnA, va_Nw.of rfl (hts0 _ (by decide +kernel)), va_Nw.of rfl (hts0 _ (by decide +kernel)), va_Nw.of rfl (hts0 _ (by decide +kernel)), va_Nw.of rfl (hts0 _ (by decide +kernel))⟩
  have hNn : mq_N s := ⟨va_Nw.of rfl (hts0 _ (by decide +kernel)), va_Nw.of rfl (hts0 _ (by decide +kernel)), va_Nw.of rfl (hts0 _ (by decide +kernel))⟩
  have hS : va_S (fun q : Nat => s.heap.size ≤ q) s.heap s.heap [] := va_S.rf
  have hP : va_P (dC, dI) vwCl [] s.heap := fun k q h => by simp at h
  have hD : va_D (fun q : Nat => s.heap.size ≤ q) [] := ⟨fun i j p q h => by simp at h, fun k q h => by simp at h⟩
  have hl := lv_entry ([.ref sb]) (n := 7) (Nat.le_of_ble_eq_true rfl)
  rw [lg_entry_eq]
  generalize (lg_sl ([.ref sb]) ++ List.replicate (7 - (lg_sl ([.ref sb])).length) Slot.unset).toArray = ls at hl ⊢
  have hl : lv_has ls 7 [(0, .ref sb)] := hl
  refine va_new (ci := 10) (fs := [.null, .null, .null, .null, .null, .null, .null, .null, .null, .null, .null, .null]) (C := RX10) (T := TX10) (N := 12) hx hb hts (zi_X10 _) tyX10 tyX10_ok hown (hts _ (List.mem_cons_of_mem _ zt_c_L_8)) (hts _ (List.mem_cons_of_mem _ zt_inst_X10)) (hts _ (List.mem_cons_of_mem _ zt_ini_X10)) hK hP hD hS hA rfl (by decide +kernel) (by decide) (by decide) dL_law_0 (fun h1 H hP hD hS => ?_)
  have hP : va_P (dC, dI) vwCl [(h1, .inr (10, [.null, .null, .null, .null, .null, .null, .null, .null, .null, .null, .null, .null]))] H := hP
  have hD : va_D (fun q : Nat => s.heap.size ≤ q) [(h1, .inr (10, [.null, .null, .null, .null, .null, .null, .null, .null, .null, .null, .null, .null]))] := hD
  refine lv_dup hx hb dL_law_3 rfl ?_
  have hFc := va_free (wc := [(h1, .inr (10, [.null, .null, .null, .null, .null, .null, .null, .null, .null, .null, .null, .null]))]) hD hS hA [0] rfl
  refine va_callv (va_runI (As := []) (rest := [.ref h1]) ⟨hx, hb, hml, hown, hts⟩ (zn_X10_init l (dC, dI) cI cL cB cZ H.size h1 N z S1 hi1 SC hi2) (cwI 0 hts (mq_goodL (ws := zc_X10_init :: mq_T) (fun w hw => (List.mem_cons.mp hw).elim (fun e => e ▸ zt_X10_init_c) id)) rfl rfl rfl (hts _ (List.mem_cons_of_mem _ zt_ini_X10)) (hts _ (List.mem_cons_of_mem _ zt_m_L_26)) (hts _ (List.mem_cons_of_mem _ zt_X10_init_i)) rfl (by decide +kernel) ⟨Nat.le_of_ble_eq_true rfl, Nat.le_of_ble_eq_true rfl⟩) ⟨fun a U g mk q => ⟨q.1, q.2.1, q.2.2.1, va_K.moved (u := U) (U := U.calling g mk a) (Vm.Alike.refl U.vm) q.2.2.2.1, q.2.2.2.2.1, mq_N_same rfl q.2.2.2.2.2⟩, fun U hU hW => ⟨rfl, by rw [hU], by rw [hU]; exact hP, va_K.moved hW.alike hK, hD.weaken (fun _ _ _ _ => trivial), mq_N_warm hW hNn⟩⟩ rfl rfl hl.1 rfl (lv_room (Nat.le_of_ble_eq_true rfl)) dL_law_4 ⟨by decide, by decide⟩) hS (fun q _ h => hFc q h) hFc (fun u t H1 locs ht hvm hw hB hz1 hk1 hS => ?_)
  obtain ⟨u1, u2, u3, u4, u5, u6, u7, u8, u9, u10, u11, u12, u13, u14, u15, u16, u17, u18, u19, u20, u21, u22, u23, u24, u25, u26, u27, u28, u29, u30, u31, u32, u33, u34, u35, u36, u37, u38, u39, u40, u41, u42, u43, u44, u45, u46, u47, u48, u49, u50, u51, u52, u53, u54, u55, u56, hP1, hK1, hD1⟩ := hB
  rw [ht] at hP1
  obtain ⟨a, ha0, hP1, hD1⟩ : ∃ a : Nat → Nat, h1 = a 0 ∧ va_P (dC, dI) vwCl (wd_C a cI cL cB cZ z SC) H1 ∧ va_D (va_A [(h1, .inr (10, [.null, .null, .null, .null, .null, .null, .null, .null, .null, .null, .null, .null]))] H.size) (wd_C a cI cL cB cZ z SC) := ⟨_, rfl, hP1, hD1⟩
  obtain ⟨hPj, hDj⟩ := va_join (wr := []) (w1 := wd_C a cI cL cB cZ z SC) hP hD [0] [] rfl rfl (by decide) (by decide) hk1 hFc hP1 hD1
  clear hP1 hD1 hk1 hFc hK1 hP hD
  generalize H1 = H at hPj hS ⊢
  subst ha0
  have hP : va_P (dC, dI) vwCl (wd_C a cI cL cB cZ z SC) H := hPj
  have hD : va_D (fun q : Nat => s.heap.size ≤ q) (wd_C a cI cL cB cZ z SC) := hDj
  refine lv_astore_n (lv' := [(1, .ref (a 0)), (0, .ref sb)]) hx hb dL_law_7 rfl hl (by decide) rfl (fun ls hl => ?_)
  refine va_new (ci := 11) (fs := [.int 0, .null, .int 0, .null, .int 0, .null, .null, .null, .int 0, .null, .null, .int 0, .int 0, .int 0, .null, .null, .null, .null, .null, .int 0, .int 0, .int 0, .int 0, .int 0, .int 0, .int 0, .null, .null, .int 0, .int 0, .int 0, .null, .int 0, .null, .null, .null, .int 0, .int 0, .int 0, .int 0, .int 0, .int 0, .int 0, .int 0, .null, .null, .null, .null, .null, .int 0, .null, .null, .int 0, .int 0, .null, .null, .null, .null, .null, .null, .null, .int 0, .int 0, .null, .null, .int 0, .null, .null, .null, .null, .null, .null, .null, .null, .null, .null]) (C := RX11) (T := TX11) (N := 76) hx hb hts (zi_X11 _) tyX11 tyX11_ok hown (hts _ (List.mem_cons_of_mem _ zt_c_L_27)) (hts _ (List.mem_cons_of_mem _ zt_inst_X11)) (hts _ (List.mem_cons_of_mem _ zt_ini_X11)) hK hP hD hS hA rfl (by decide +kernel) (by decide) (by decide) dL_law_8 (fun h2 H hP hD hS => ?_)
  refine lv_dup hx hb dL_law_11 rfl ?_
  have hPx : va_P (dC, dI) vwCl ((wd_C a cI cL cB cZ z SC) ++ ([(h2, .inr (11, [.int 0, .null, .int 0, .null, .int 0, .null, .null, .null, .int 0, .null, .null, .int 0, .int 0, .int 0, .null, .null, .null, .null, .null, .int 0, .int 0, .int 0, .int 0, .int 0, .int 0, .int 0, .null, .null, .int 0, .int 0, .int 0, .null, .int 0, .null, .null, .null, .int 0, .int 0, .int 0, .int 0, .int 0, .int 0, .int 0, .int 0, .null, .null, .null, .null, .null, .int 0, .null, .null, .int 0, .int 0, .null, .null, .null, .null, .null, .null, .null, .int 0, .int 0, .null, .null, .int 0, .null, .null, .null, .null, .null, .null, .null, .null, .null, .null]))] ++ [])) H := hP
  have hDx : va_D (fun q : Nat => s.heap.size ≤ q) ((wd_C a cI cL cB cZ z SC) ++ ([(h2, .inr (11, [.int 0, .null, .int 0, .null, .int 0, .null, .null, .null, .int 0, .null, .null, .int 0, .int 0, .int 0, .null, .null, .null, .null, .null, .int 0, .int 0, .int 0, .int 0, .int 0, .int 0, .int 0, .null, .null, .int 0, .int 0, .int 0, .null, .int 0, .null, .null, .null, .int 0, .int 0, .int 0, .int 0, .int 0, .int 0, .int 0, .int 0, .null, .null, .null, .null, .null, .int 0, .null, .null, .int 0, .int 0, .null, .null, .null, .null, .null, .null, .null, .int 0, .int 0, .null, .null, .int 0, .null, .null, .null, .null, .null, .null, .null, .null, .null, .null]))] ++ [])) := hD
  have hPc := mq_midP hPx
  have hDc := mq_midD hDx
  have hFc := mq_freeI hDc hS hA
  refine va_callv (va_runI (As := []) (rest := [.ref h2]) ⟨hx, hb, hml, hown, hts⟩ (zn_X11_init l (dC, dI) cI cL cB cZ H.size h2 N z SR hi3) (cwI 0 hts (mq_goodL (ws := zc_X11_init :: mq_T) (fun w hw => (List.mem_cons.mp hw).elim (fun e => e ▸ zt_X11_init_c) id)) rfl rfl rfl (hts _ (List.mem_cons_of_mem _ zt_ini_X11)) (hts _ (List.mem_cons_of_mem _ zt_m_L_29)) (hts _ (List.mem_cons_of_mem _ zt_X11_init_i)) rfl (by decide +kernel) ⟨Nat.le_of_ble_eq_true rfl, Nat.le_of_ble_eq_true rfl⟩) ⟨fun a U g mk q => ⟨q.1, q.2.1, q.2.2.1, va_K.moved (u := U) (U := U.calling g mk a) (Vm.Alike.refl U.vm) q.2.2.2.1, q.2.2.2.2⟩, fun U hU hW => ⟨rfl, by rw [hU], by rw [hU]; exact hPc, va_K.moved hW.alike hK, hDc.weaken (fun _ _ _ _ => trivial)⟩⟩ rfl rfl hl.1 rfl (lv_room (Nat.le_of_ble_eq_true rfl)) dL_law_12 ⟨by decide, by decide⟩) hS (fun q _ h => hFc q h) hFc (fun u t H1 locs ht hvm hw hB hz1 hk1 hS => ?_)
  obtain ⟨w1, w2, w3, w4, w5, w6, w7, w8, w9, w10, w11, w12, w13, w14, w15, w16, w17, w18, w19, w20, w21, w22, w23, w24, w25, w26, w27, w28, w29, w30, w31, w32, w33, w34, w35, w36, w37, w38, w39, w40, w41, w42, w43, w44, hP1, hK1, hD1⟩ := hB
  rw [ht] at hP1
  obtain ⟨b, hb0, hP1, hD1⟩ : ∃ b : Nat → Nat, h2 = b 0 ∧ va_P (dC, dI) vwCl (wd_R b cI cL cB cZ z SR) H1 ∧ va_D (va_A [(h2, .inr (11, [.int 0, .null, .int 0, .null, .int 0, .null, .null, .null, .int 0, .null, .null, .int 0, .int 0, .int 0, .null, .null, .null, .null, .null, .int 0, .int 0, .int 0, .int 0, .int 0, .int 0, .int 0, .null, .null, .int 0, .int 0, .int 0, .null, .int 0, .null, .null, .null, .int 0, .int 0, .int 0, .int 0, .int 0, .int 0, .int 0, .int 0, .null, .null, .null, .null, .null, .int 0, .null, .null, .int 0, .int 0, .null, .null, .null, .null, .null, .null, .null, .int 0, .int 0, .null, .null, .int 0, .null, .null, .null, .null, .null, .null, .null, .null, .null, .null]))] H.size) (wd_R b cI cL cB cZ z SR) := ⟨_, rfl, hP1, hD1⟩
  obtain ⟨hPj, hDj⟩ := va_join (wr := wd_C a cI cL cB cZ z SC) (w1 := wd_R b cI cL cB cZ z SR) hP hD [57] (List.range 57) rfl rfl (by decide) (by decide) hk1 hFc hP1 hD1
  clear hP1 hD1 hk1 hFc hK1 hPc hDc hPx hDx hP hD
  generalize H1 = H at hPj hS ⊢
  subst hb0
  have hP : va_P (dC, dI) vwCl (wd_C a cI cL cB cZ z SC ++ wd_R b cI cL cB cZ z SR) H := hPj
  have hD : va_D (fun q : Nat => s.heap.size ≤ q) (wd_C a cI cL cB cZ z SC ++ wd_R b cI cL cB cZ z SR) := hDj
  refine lv_astore_n (lv' := [(2, .ref (b 0)), (1, .ref (a 0)), (0, .ref sb)]) hx hb dL_law_15 rfl hl (by decide) rfl (fun ls hl => ?_)
  refine lv_iconst (v := 1) hx hb dL_law_16 (by decide) ?_
  refine mq_newaJ (N' := 1) (n := 1) hx hb (hts _ (List.mem_cons_of_mem _ zt_arr_J)) hK hP hD hS hA (by decide) (by decide) (by decide) (by decide) (by decide) dL_law_17 (fun o H hP hD hS => ?_)
  refine lv_astore_n (lv' := [(3, .ref o), (2, .ref (b 0)), (1, .ref (a 0)), (0, .ref sb)]) hx hb dL_law_19 rfl hl (by decide) rfl (fun ls hl => ?_)
  refine lv_iconst (v := 0) hx hb dL_law_20 (by decide) ?_
  refine lv_istore (lv' := [(4, .int 0), (3, .ref o), (2, .ref (b 0)), (1, .ref (a 0)), (0, .ref sb)]) hx hb dL_law_21 hl (by decide) rfl (fun ls hl => ?_)
  have hP : va_P (dC, dI) vwCl (wd_R b cI cL cB cZ z SR ++ (wd_C a cI cL cB cZ z SC ++ mq_oo o cL ((fun _ => 0)))) H := hP.sub (((List.range 45).map (fun i => 57 + i)) ++ (List.range 57 ++ [102])) rfl
  have hD : va_D (fun q : Nat => s.heap.size ≤ q) (wd_R b cI cL cB cZ z SR ++ (wd_C a cI cL cB cZ z SC ++ mq_oo o cL ((fun _ => 0)))) := hD.sub (((List.range 45).map (fun i => 57 + i)) ++ (List.range 57 ++ [102])) (by decide) rfl
  exact law_loop (N := N) (a := a) (b := b) (z := z) (D := (dC, dI)) ⟨⟨hx, hb, hml, hown, hts, hK, hA⟩, hst, hX, hbl, hL, hXX⟩ hr hlocks nf 0 0 SC SR (fun _ => 0) H _ ls rfl (Nat.zero_le _) hlaw (lv_sub hl [4, 3, 2, 1, 0] rfl) hP hD hS
