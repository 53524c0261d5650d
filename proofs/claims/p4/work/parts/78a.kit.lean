/-! Rows for simp over decompiled functions: numbers as nI, states by places. -/
theorem sp_le {a b : Nat} (ha : a < 2147483648) (hb : b < 2147483648) : (nI a ≤ nI b) = (a ≤ b) := propext (nI_leI ha hb)
theorem sp_lt {a b : Nat} (ha : a < 2147483648) (hb : b < 2147483648) : (nI a < nI b) = (a < b) := propext (nI_ltI ha hb)
theorem sp_eq {a b : Nat} (ha : a < 2147483648) (hb : b < 2147483648) : (nI a = nI b) = (a = b) := propext (nI_eq ha hb)
theorem sp_inj {a b : Nat} (h : nI a = nI b) (ha : a < 2147483648) (hb : b < 2147483648) : a = b := (nI_eq ha hb).mp h
theorem sp_leT {a b : Nat} (h : a ≤ b) (hb : b < 2147483648) : (nI a ≤ nI b) = True := eq_true (nI_le h hb)
theorem sp_leF {a b : Nat} (h : b < a) (ha : a < 2147483648) : (nI a ≤ nI b) = False := eq_false (nI_ge h ha)
theorem sp_ltT {a b : Nat} (h : a < b) (hb : b < 2147483648) : (nI a < nI b) = True := eq_true (nI_lt h hb)
theorem sp_ltF {a b : Nat} (h : b ≤ a) (ha : a < 2147483648) : (nI a < nI b) = False := eq_false (nI_nlt h ha)
theorem sp_eqT {a b : Nat} (h : a = b) : (nI a = nI b) = True := eq_true (by rw [h])
theorem sp_eqF {a b : Nat} (h : ¬ a = b) (ha : a < 2147483648) (hb : b < 2147483648) : (nI a = nI b) = False := eq_false (fun q => h ((nI_eq ha hb).mp q))
theorem sp_m1 {a : Nat} (ha : a < 2147483648) : (nI a = -1) = False := eq_false (nI_nm1 ha)
theorem sp_m1' {a : Nat} (ha : a < 2147483648) : ((-1 : Int32) = nI a) = False := eq_false (fun q => nI_nm1 ha q.symm)
theorem sp_m1s : ((-1 : Int32) = -1) = True := eq_true rfl
theorem sp_lt0 {a : Nat} (ha : a < 2147483648) : (nI a < 0) = False := eq_false (nI_pos ha)
theorem sp_le0 {a : Nat} (h0 : 0 < a) (ha : a < 2147483648) : (nI a ≤ 0) = False := eq_false (nI_nle h0 ha)
theorem sp_ml {a : Nat} (ha : a < 2147483648) : ((-1 : Int32) < nI a) = True := eq_true (by
  rw [Int32.lt_iff_toInt_lt, nI_toInt ha, show (-1 : Int32).toInt = -1 from by decide]
  omega)
theorem sp_mle {a : Nat} (ha : a < 2147483648) : (nI a ≤ (-1 : Int32)) = False := eq_false (by
  rw [Int32.le_iff_toInt_le, nI_toInt ha, show (-1 : Int32).toInt = -1 from by decide]
  omega)
theorem sp_mlt {a : Nat} (ha : a < 2147483648) : (nI a < (-1 : Int32)) = False := eq_false (by
  rw [Int32.lt_iff_toInt_lt, nI_toInt ha, show (-1 : Int32).toInt = -1 from by decide]
  omega)
theorem sp_mle' {a : Nat} (ha : a < 2147483648) : ((-1 : Int32) ≤ nI a) = True := eq_true (by
  rw [Int32.le_iff_toInt_le, nI_toInt ha, show (-1 : Int32).toInt = -1 from by decide]
  omega)
theorem sp_ck {α : Type} {i n : Nat} {k : Option α} (h : i < n) (hn : n < 2147483648) : mq_ck (nI i) n k = k := mq_ck_of (vp_in_nI h hn)
theorem sp_cl {a : Nat} (ha : a < 2147483648) : (nI a).toNatClampNeg = a := nI_clamp ha
theorem sp_ad (a b : Nat) : nI a + nI b = nI (a + b) := nI_add a b
theorem sp_mu (a b : Nat) : nI a * nI b = nI (a * b) := pk_mul a b
theorem sp_su {a b : Nat} (h : b ≤ a) : nI a - nI b = nI (a - b) := pk_sub h
theorem sp_ne {a b : Nat} (h : b ≤ a) : nI a + -nI b = nI (a - b) := by rw [← Int32.sub_eq_add_neg, pk_sub h]
theorem sp_cz {α : Type} {a : Nat} {k : Option α} (h : a ≤ 1) : mq_cz (nI a) k = k := by
  have : a = 0 ∨ a = 1 := by omega
  unfold mq_cz
  rcases this with rfl | rfl
  · rw [if_pos (Or.inl (by decide))]
  · rw [if_pos (Or.inr (by decide))]
theorem sp_a1 (a b : Nat) : a + b - b = a := by omega
theorem sp_a0 (a : Nat) : a + 0 = a := rfl
theorem sp_0a (a : Nat) : 0 + a = a := Nat.zero_add a
theorem si_1 (S : mq_St) (k : Nat) (v : Int32) (j : Nat) : (mq_si S k v).1 j = if j = k then v else S.1 j := rfl
theorem si_2 (S : mq_St) (k : Nat) (v : Int32) : (mq_si S k v).2 = S.2 := rfl
theorem sa_1 (S : mq_St) (k : Nat) (f : Nat → Int32) : (mq_sa S k f).1 = S.1 := rfl
theorem sa_2 (S : mq_St) (k : Nat) (f : Nat → Int32) (j : Nat) : (mq_sa S k f).2.1 j = if j = k then f else S.2.1 j := rfl
theorem sa_3 (S : mq_St) (k : Nat) (f : Nat → Int32) : (mq_sa S k f).2.2 = S.2.2 := rfl
theorem sl_1 (S : mq_St) (k : Nat) (f : Nat → Int64) : (mq_sl S k f).1 = S.1 := rfl
theorem sl_2 (S : mq_St) (k : Nat) (f : Nat → Int64) : (mq_sl S k f).2.1 = S.2.1 := rfl
theorem sl_3 (S : mq_St) (k : Nat) (f : Nat → Int64) (j : Nat) : (mq_sl S k f).2.2 j = if j = k then f else S.2.2 j := rfl
theorem up_s (f : Nat → Int32) (k : Nat) (v : Int32) : upd f k v k = v := if_pos rfl
theorem up_o {f : Nat → Int32} {k j : Nat} {v : Int32} (h : ¬ j = k) : upd f k v j = f j := if_neg h
theorem ul_s (f : Nat → Int64) (k : Nat) (v : Int64) : vp_updL f k v k = v := if_pos rfl
theorem ul_o {f : Nat → Int64} {k j : Nat} {v : Int64} (h : ¬ j = k) : vp_updL f k v j = f j := if_neg h
theorem sa_sa (S : mq_St) (k : Nat) (f g : Nat → Int32) : mq_sa (mq_sa S k f) k g = mq_sa S k g := by
  unfold mq_sa
  simp only
  congr 2
  funext j
  by_cases h : j = k
  · rw [if_pos h, if_pos h]
  · rw [if_neg h, if_neg h, if_neg h]
theorem si_si (S : mq_St) (k : Nat) (f g : Int32) : mq_si (mq_si S k f) k g = mq_si S k g := by
  unfold mq_si
  simp only
  congr 1
  funext j
  by_cases h : j = k
  · rw [if_pos h, if_pos h]
  · rw [if_neg h, if_neg h, if_neg h]
theorem sl_sl (S : mq_St) (k : Nat) (f g : Nat → Int64) : mq_sl (mq_sl S k f) k g = mq_sl S k g := by
  unfold mq_sl
  simp only
  congr 2
  funext j
  by_cases h : j = k
  · rw [if_pos h, if_pos h]
  · rw [if_neg h, if_neg h, if_neg h]
theorem nI_e {α : Type} (v : Int32) (k : Int32 → Option α) : mq_nI v k = k v := Eq.trans rfl rfl
theorem nL_e {α : Type} (v : Int64) (k : Int64 → Option α) : mq_nL v k = k v := Eq.trans rfl rfl
theorem nS_e {α : Type} (v : mq_St) (k : mq_St → Option α) : mq_nS v k = k v := Eq.trans rfl rfl
theorem L0 : (0 : Int32) = nI 0 := by decide
theorem L1 : (1 : Int32) = nI 1 := by decide
theorem L2 : (2 : Int32) = nI 2 := by decide
theorem L3 : (3 : Int32) = nI 3 := by decide
theorem L4 : (4 : Int32) = nI 4 := by decide
theorem L5 : (5 : Int32) = nI 5 := by decide
theorem L6 : (6 : Int32) = nI 6 := by decide
theorem L7 : (7 : Int32) = nI 7 := by decide
theorem L8 : (8 : Int32) = nI 8 := by decide
theorem L9 : (9 : Int32) = nI 9 := by decide
theorem L10 : (10 : Int32) = nI 10 := by decide
theorem L16 : (16 : Int32) = nI 16 := by decide
theorem L20 : (20 : Int32) = nI 20 := by decide
theorem L24 : (24 : Int32) = nI 24 := by decide
theorem L32 : (32 : Int32) = nI 32 := by decide
theorem L60 : (60 : Int32) = nI 60 := by decide
theorem L300 : (300 : Int32) = nI 300 := by decide
theorem L400 : (400 : Int32) = nI 400 := by decide
theorem L470 : (470 : Int32) = nI 470 := by decide
theorem L64 : (64 : Int32) = nI 64 := by decide
theorem L320 : (320 : Int32) = nI 320 := by decide
theorem L150 : (150 : Int32) = nI 150 := by decide
theorem L1299 : (1299 : Int32) = nI 1299 := by decide
theorem L1300 : (1300 : Int32) = nI 1300 := by decide
theorem L97 : (97 : Int32) = nI 97 := by decide
theorem L122 : (122 : Int32) = nI 122 := by decide
theorem L84 : (84 : Int32) = nI 84 := by decide
theorem L70 : (70 : Int32) = nI 70 := by decide
theorem L33 : (33 : Int32) = nI 33 := by decide
theorem L40 : (40 : Int32) = nI 40 := by decide
theorem L41 : (41 : Int32) = nI 41 := by decide
theorem L62 : (62 : Int32) = nI 62 := by decide
theorem L91 : (91 : Int32) = nI 91 := by decide
theorem L93 : (93 : Int32) = nI 93 := by decide
theorem L38 : (38 : Int32) = nI 38 := by decide
theorem L124 : (124 : Int32) = nI 124 := by decide
theorem L61 : (61 : Int32) = nI 61 := by decide
theorem L31 : (31 : Int32) = nI 31 := by decide
theorem L63 : (63 : Int32) = nI 63 := by decide
theorem L600 : (600 : Int32) = nI 600 := by decide
theorem L1000000 : (1000000 : Int32) = nI 1000000 := by decide
theorem L100000 : (100000 : Int32) = nI 100000 := by decide
theorem L4000 : (4000 : Int32) = nI 4000 := by decide
theorem L3000 : (3000 : Int32) = nI 3000 := by decide
theorem L2000 : (2000 : Int32) = nI 2000 := by decide
theorem L410 : (410 : Int32) = nI 410 := by decide
theorem L3600 : (3600 : Int32) = nI 3600 := by decide
