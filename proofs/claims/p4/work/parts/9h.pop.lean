/-! Long.bitCount: how many bits; the lowest bit. -/
def nt (x : Int64) : Nat := x.toBitVec.toNat
theorem nt_lt (x : Int64) : nt x < 18446744073709551616 := x.toBitVec.isLt
theorem nt_shr (x : Int64) (k : Nat) (hk : k < 64) : nt (mq_lushr x (nI k)) = nt x / 2 ^ k := by
  show (x.toUInt64 >>> ((nI k).toInt64.toUInt64 &&& Int64.toUInt64 63)).toBitVec.toNat = x.toUInt64.toBitVec.toNat / 2 ^ k
  rw [UInt64.toBitVec_shiftRight]
  show (x.toUInt64.toBitVec >>> (((nI k).toInt64.toUInt64 &&& Int64.toUInt64 63).toBitVec % 64).toNat).toNat = _
  rw [l_u k hk, BitVec.toNat_ushiftRight, Nat.shiftRight_eq_div_pow]
theorem nt_and (x y : Int64) : nt (x &&& y) = nt x &&& nt y := by
  unfold nt
  rw [Int64.toBitVec_and, BitVec.toNat_and]
theorem nt_add (x y : Int64) (h : nt x + nt y < 18446744073709551616) : nt (x + y) = nt x + nt y := by
  unfold nt at h ⊢
  rw [Int64.toBitVec_add, BitVec.toNat_add]
  exact Nat.mod_eq_of_lt h
theorem nt_sub (x y : Int64) (h : nt y ≤ nt x) : nt (x - y) = nt x - nt y := by
  have hx := nt_lt x
  unfold nt at h hx ⊢
  rw [Int64.toBitVec_sub, BitVec.toNat_sub]
  have e : 2 ^ 64 - y.toBitVec.toNat + x.toBitVec.toNat = 2 ^ 64 + (x.toBitVec.toNat - y.toBitVec.toNat) := by
    have := y.toBitVec.isLt
    omega
  rw [e, Nat.add_mod_left, Nat.mod_eq_of_lt (by omega)]
/-- byte by byte -/
def mp (g : Nat → Nat) : Nat → Nat → Nat
  | 0, _ => 0
  | k + 1, u => 256 * mp g k (u / 256) + g (u % 256)
def ms (c : Nat) : Nat → Nat
  | 0 => 0
  | k + 1 => 256 * ms c k + c
theorem and_256 (a b c d : Nat) (hb : b < 256) (hd : d < 256) : (256 * a + b) &&& (256 * c + d) = 256 * (a &&& c) + (b &&& d) := by
  have h1 : ((256 * a + b) &&& (256 * c + d)) / 2 ^ 8 = a &&& c := by
    rw [Nat.and_div_two_pow]
    show (256 * a + b) / 256 &&& (256 * c + d) / 256 = _
    rw [show (256 * a + b) / 256 = a by omega, show (256 * c + d) / 256 = c by omega]
  have h2 : ((256 * a + b) &&& (256 * c + d)) % 2 ^ 8 = b &&& d := by
    rw [Nat.and_mod_two_pow]
    show (256 * a + b) % 256 &&& (256 * c + d) % 256 = _
    rw [show (256 * a + b) % 256 = b by omega, show (256 * c + d) % 256 = d by omega]
  have h1 : ((256 * a + b) &&& (256 * c + d)) / 256 = a &&& c := h1
  have h2 : ((256 * a + b) &&& (256 * c + d)) % 256 = b &&& d := h2
  omega
def t1 (e : Nat) : Nat := e - ((e / 2) &&& 85)
def t2 (e : Nat) : Nat := (e &&& 51) + ((e / 4) &&& 51)
def t3 (e : Nat) : Nat := (e + e / 16) &&& 15
theorem d_1 : ∀ e, e < 256 → ∀ c, c < 2 → ((128 * c + e / 2) &&& 85) = ((e / 2) &&& 85) ∧ ((e / 2) &&& 85) ≤ e := by decide +kernel
theorem d_2 : ∀ e, e < 256 → ∀ c, c < 4 → ((64 * c + e / 4) &&& 51) = ((e / 4) &&& 51) ∧ t2 e < 256 := by decide +kernel
theorem d_3 : ∀ e, e < 256 → t2 (t1 e) % 16 ≤ 4 ∧ t2 (t1 e) / 16 ≤ 4 ∧ t1 e < 256 ∧ t3 (t2 (t1 e)) ≤ 8 := by decide +kernel
theorem d_4 : ∀ e, e < 137 → ∀ c, c < 16 → e + 16 * c < 256 → ((16 * c + e) &&& 15) = (e &&& 15) := by decide +kernel
theorem s_1 : ∀ (k u : Nat), u < 256 ^ k → ((u / 2) &&& ms 85 k) ≤ u ∧ u - ((u / 2) &&& ms 85 k) = mp t1 k u
  | 0, u, h => by
    have : u = 0 := by simpa using h
    rw [this]
    decide
  | k + 1, u, h => by
    have h' : u / 256 < 256 ^ k := by rw [Nat.pow_succ] at h; omega
    obtain ⟨i1, i2⟩ := s_1 k (u / 256) h'
    obtain ⟨a1, a2⟩ := d_1 (u % 256) (by omega) (u / 256 % 2) (by omega)
    have e : (u / 2) &&& ms 85 (k + 1) = 256 * ((u / 256 / 2) &&& ms 85 k) + ((u % 256 / 2) &&& 85) := by
      show (u / 2) &&& (256 * ms 85 k + 85) = _
      have eu : u / 2 = 256 * (u / 256 / 2) + (128 * (u / 256 % 2) + u % 256 / 2) := by omega
      rw [eu, and_256 _ _ _ _ (by omega) (by omega), a1]
    show _ ∧ _ = 256 * mp t1 k (u / 256) + t1 (u % 256)
    rw [e, ← i2]
    unfold t1
    omega
theorem s_2 : ∀ (k u : Nat), u < 256 ^ k → (u &&& ms 51 k) + ((u / 4) &&& ms 51 k) = mp t2 k u
  | 0, u, h => by
    have : u = 0 := by simpa using h
    rw [this]
    decide
  | k + 1, u, h => by
    have h' : u / 256 < 256 ^ k := by rw [Nat.pow_succ] at h; omega
    have i2 := s_2 k (u / 256) h'
    obtain ⟨a1, a2⟩ := d_2 (u % 256) (by omega) (u / 256 % 4) (by omega)
    have e1 : u &&& ms 51 (k + 1) = 256 * ((u / 256) &&& ms 51 k) + ((u % 256) &&& 51) := by
      show u &&& (256 * ms 51 k + 51) = _
      have eu : u = 256 * (u / 256) + u % 256 := by omega
      rw [← and_256 _ _ _ _ (by omega) (by omega), ← eu]
    have e2 : (u / 4) &&& ms 51 (k + 1) = 256 * ((u / 256 / 4) &&& ms 51 k) + ((u % 256 / 4) &&& 51) := by
      show (u / 4) &&& (256 * ms 51 k + 51) = _
      have eu : u / 4 = 256 * (u / 256 / 4) + (64 * (u / 256 % 4) + u % 256 / 4) := by omega
      rw [eu, and_256 _ _ _ _ (by omega) (by omega), a1]
    show _ = 256 * mp t2 k (u / 256) + t2 (u % 256)
    rw [e1, e2, ← i2]
    unfold t2
    omega
theorem mp_lt {g : Nat → Nat} (hg : ∀ e, e < 256 → g e < 256) : ∀ (k u : Nat), mp g k u < 256 ^ k
  | 0, _ => by show 0 < 1; omega
  | k + 1, u => by
    have := mp_lt hg k (u / 256)
    have := hg (u % 256) (by omega)
    show 256 * mp g k (u / 256) + g (u % 256) < 256 ^ (k + 1)
    rw [Nat.pow_succ]
    omega
theorem mp_mp {f g : Nat → Nat} (hg : ∀ e, e < 256 → g e < 256) : ∀ (k u : Nat), mp f k (mp g k u) = mp (fun e => f (g e)) k u
  | 0, _ => rfl
  | k + 1, u => by
    have h := hg (u % 256) (by omega)
    have ih := mp_mp (f := f) hg k (u / 256)
    show 256 * mp f k ((256 * mp g k (u / 256) + g (u % 256)) / 256) + f ((256 * mp g k (u / 256) + g (u % 256)) % 256) = 256 * mp (fun e => f (g e)) k (u / 256) + f (g (u % 256))
    rw [show (256 * mp g k (u / 256) + g (u % 256)) / 256 = mp g k (u / 256) by omega, show (256 * mp g k (u / 256) + g (u % 256)) % 256 = g (u % 256) by omega, ih]
/-- every byte has small halves -/
theorem s_3 {g : Nat → Nat} (hg : ∀ e, e < 256 → g e % 16 ≤ 4 ∧ g e / 16 ≤ 4) : ∀ (k u : Nat), ((mp g k u + mp g k u / 16) &&& ms 15 k) = mp (fun e => t3 (g e)) k u
  | 0, _ => by show (0 + 0 / 16) &&& 0 = 0; decide
  | k + 1, u => by
    have ih := s_3 hg k (u / 256)
    have h := hg (u % 256) (by omega)
    have hw : mp g k (u / 256) % 16 ≤ 4 := by
      cases k with
      | zero => show 0 % 16 ≤ 4; omega
      | succ k =>
        have := (hg (u / 256 % 256) (by omega)).1
        show (256 * mp g k (u / 256 / 256) + g (u / 256 % 256)) % 16 ≤ 4
        omega
    have a := d_4 (g (u % 256) + g (u % 256) / 16) (by omega) (mp g k (u / 256) % 16) (by omega) (by omega)
    show ((256 * mp g k (u / 256) + g (u % 256)) + (256 * mp g k (u / 256) + g (u % 256)) / 16) &&& (256 * ms 15 k + 15) = 256 * mp (fun e => t3 (g e)) k (u / 256) + t3 (g (u % 256))
    have e : (256 * mp g k (u / 256) + g (u % 256)) + (256 * mp g k (u / 256) + g (u % 256)) / 16 = 256 * (mp g k (u / 256) + mp g k (u / 256) / 16) + (16 * (mp g k (u / 256) % 16) + (g (u % 256) + g (u % 256) / 16)) := by omega
    rw [e, and_256 _ _ _ _ (by omega) (by omega), ih, a]
    rfl
def pb (e : Nat) : Nat := t3 (t2 (t1 e))
/-- the bits of a word, counted from the lowest on -/
def cb (u : Nat) : Nat → Nat
  | 0 => 0
  | k + 1 => cb u k + (if u.testBit k = true then 1 else 0)
theorem pb_is : ∀ e, e < 256 → pb e = cb e 8 := by decide +kernel
theorem cb_shift (u : Nat) (a : Nat) : ∀ k : Nat, cb u (a + k) = cb u a + cb (u / 2 ^ a) k
  | 0 => rfl
  | k + 1 => by
    show cb u (a + k) + (if u.testBit (a + k) = true then 1 else 0) = cb u a + (cb (u / 2 ^ a) k + (if (u / 2 ^ a).testBit k = true then 1 else 0))
    rw [cb_shift u a k, Nat.testBit_div_two_pow, Nat.add_comm k a, Nat.add_assoc]
theorem cb_mod (u : Nat) (n : Nat) : ∀ k : Nat, k ≤ n → cb (u % 2 ^ n) k = cb u k
  | 0, _ => rfl
  | k + 1, h => by
    show cb (u % 2 ^ n) k + (if (u % 2 ^ n).testBit k = true then 1 else 0) = cb u k + (if u.testBit k = true then 1 else 0)
    rw [cb_mod u n k (by omega), Nat.testBit_mod_two_pow, decide_eq_true (show k < n by omega), Bool.true_and]
theorem cb_8 (u : Nat) : cb u 8 = pb (u % 256) := by
  rw [pb_is _ (by omega)]
  exact (cb_mod u 8 8 (by omega)).symm
theorem cb_64 (u : Nat) : cb u 64 = pb (u % 256) + pb (u / 256 % 256) + pb (u / 65536 % 256) + pb (u / 16777216 % 256) + pb (u / 4294967296 % 256) + pb (u / 1099511627776 % 256) + pb (u / 281474976710656 % 256) + pb (u / 72057594037927936 % 256) := by
  rw [show 64 = 8 + (8 + (8 + (8 + (8 + (8 + (8 + 8)))))) from rfl]
  rw [cb_shift u 8, cb_shift _ 8, cb_shift _ 8, cb_shift _ 8, cb_shift _ 8, cb_shift _ 8, cb_shift _ 8]
  simp only [cb_8, Nat.div_div_eq_div_mul]
  simp only [Nat.reducePow, Nat.reduceMul]
  omega
theorem mp_8 (g : Nat → Nat) (u : Nat) : mp g 8 u = g (u % 256) + 256 * g (u / 256 % 256) + 65536 * g (u / 65536 % 256) + 16777216 * g (u / 16777216 % 256) + 4294967296 * g (u / 4294967296 % 256) + 1099511627776 * g (u / 1099511627776 % 256) + 281474976710656 * g (u / 281474976710656 % 256) + 72057594037927936 * g (u / 72057594037927936 % 256) := by
  simp only [mp, Nat.div_div_eq_div_mul, Nat.reduceMul]
  omega
theorem bc_is {N : Nat} {z : Nat → Nat} {S : mq_St} (x : Int64) : zf_J13_bitCount_95d88 N z x S = some (nI (cb (nt x) 64)) := by
  have hx := nt_lt x
  have p8 : (256 : Nat) ^ 8 = 18446744073709551616 := by decide
  have m1' : nt (6148914691236517205 : Int64) = ms 85 8 := by decide
  have m2' : nt (3689348814741910323 : Int64) = ms 51 8 := by decide
  have m3' : nt (1085102592571150095 : Int64) = ms 15 8 := by decide
  have g1 : ∀ e, e < 256 → t1 e < 256 := fun e he => (d_3 e he).2.2.1
  have g2 : ∀ e, e < 256 → t2 (t1 e) < 256 := fun e he => (d_2 (t1 e) (g1 e he) 0 (by omega)).2
  have g3 : ∀ e, e < 256 → pb e ≤ 8 := fun e he => (d_3 e he).2.2.2
  obtain ⟨a1, a2⟩ := s_1 8 (nt x) (by omega)
  -- the first step
  have e1 : nt (mq_lushr x 1 &&& 6148914691236517205) = (nt x / 2) &&& ms 85 8 := by
    rw [nt_and, m1', show (1 : Int32) = nI 1 from rfl, nt_shr x 1 (by omega)]
  have x1 : nt (x - (mq_lushr x 1 &&& 6148914691236517205)) = mp t1 8 (nt x) := by rw [nt_sub _ _ (by rw [e1]; exact a1), e1, a2]
  generalize hx1 : x - (mq_lushr x 1 &&& 6148914691236517205) = y1 at x1
  have l1 := mp_lt g1 8 (nt x)
  -- the second
  have b2 := s_2 8 (nt y1) (by rw [x1]; exact l1)
  have x2 : nt ((y1 &&& 3689348814741910323) + (mq_lushr y1 2 &&& 3689348814741910323)) = mp (fun e => t2 (t1 e)) 8 (nt x) := by
    have e2 : nt (y1 &&& 3689348814741910323) = nt y1 &&& ms 51 8 := by rw [nt_and, m2']
    have e3 : nt (mq_lushr y1 2 &&& 3689348814741910323) = (nt y1 / 4) &&& ms 51 8 := by
      rw [nt_and, m2', show (2 : Int32) = nI 2 from rfl, nt_shr y1 2 (by omega)]
    have l2 := mp_lt g2 8 (nt x)
    have l2' : mp t2 8 (nt y1) < 18446744073709551616 := by rw [x1, mp_mp g1, ← p8]; exact l2
    rw [nt_add _ _ (by rw [e2, e3, b2]; exact l2'), e2, e3, b2, x1, mp_mp g1]
  generalize hx2 : (y1 &&& 3689348814741910323) + (mq_lushr y1 2 &&& 3689348814741910323) = y2 at x2
  -- the third
  have b3 := s_3 (g := fun e => t2 (t1 e)) (fun e he => ⟨(d_3 e he).1, (d_3 e he).2.1⟩) 8 (nt x)
  have hsm : mp (fun e => t2 (t1 e)) 8 (nt x) < 5000000000000000000 := by
    rw [mp_8]
    have q : ∀ e, t2 (t1 (e % 256)) ≤ 68 := fun e => by have := d_3 (e % 256) (by omega); omega
    have := q (nt x); have := q (nt x / 256); have := q (nt x / 65536); have := q (nt x / 16777216); have := q (nt x / 4294967296); have := q (nt x / 1099511627776); have := q (nt x / 281474976710656); have := q (nt x / 72057594037927936)
    omega
  have x3 : nt ((y2 + mq_lushr y2 4) &&& 1085102592571150095) = mp pb 8 (nt x) := by
    have e4 : nt (mq_lushr y2 4) = nt y2 / 16 := by rw [show (4 : Int32) = nI 4 from rfl, nt_shr y2 4 (by omega)]
    rw [nt_and, m3', nt_add _ _ (by rw [e4, x2]; omega), e4, x2, b3]
    rfl
  generalize hx3 : (y2 + mq_lushr y2 4) &&& 1085102592571150095 = y3 at x3
  rw [mp_8] at x3
  have c := cb_64 (nt x)
  have q : ∀ e, pb (e % 256) ≤ 8 := fun e => g3 (e % 256) (by omega)
  have q0 := q (nt x)
  have q1 := q (nt x / 256)
  have q2 := q (nt x / 65536)
  have q3 := q (nt x / 16777216)
  have q4 := q (nt x / 4294967296)
  have q5 := q (nt x / 1099511627776)
  have q6 := q (nt x / 281474976710656)
  have q7 := q (nt x / 72057594037927936)
  generalize pb (nt x % 256) = c0 at *
  generalize pb (nt x / 256 % 256) = c1 at *
  generalize pb (nt x / 65536 % 256) = c2 at *
  generalize pb (nt x / 16777216 % 256) = c3 at *
  generalize pb (nt x / 4294967296 % 256) = c4 at *
  generalize pb (nt x / 1099511627776 % 256) = c5 at *
  generalize pb (nt x / 281474976710656 % 256) = c6 at *
  generalize pb (nt x / 72057594037927936 % 256) = c7 at *
  have f4 : nt (mq_lushr y3 8) = c1 + 256 * c2 + 65536 * c3 + 16777216 * c4 + 4294967296 * c5 + 1099511627776 * c6 + 281474976710656 * c7 := by
    rw [show (8 : Int32) = nI 8 from rfl, nt_shr y3 8 (by omega), x3]
    show _ / 256 = _
    omega
  have x4 : nt (y3 + mq_lushr y3 8) = (c0 + c1) + 256 * (c1 + c2) + 65536 * (c2 + c3) + 16777216 * (c3 + c4) + 4294967296 * (c4 + c5) + 1099511627776 * (c5 + c6) + 281474976710656 * (c6 + c7) + 72057594037927936 * c7 := by
    rw [nt_add _ _ (by rw [f4, x3]; omega), f4, x3]
    omega
  generalize hx4 : y3 + mq_lushr y3 8 = y4 at x4
  have f5 : nt (mq_lushr y4 16) = (c2 + c3) + 256 * (c3 + c4) + 65536 * (c4 + c5) + 16777216 * (c5 + c6) + 4294967296 * (c6 + c7) + 1099511627776 * c7 := by
    rw [show (16 : Int32) = nI 16 from rfl, nt_shr y4 16 (by omega), x4]
    show _ / 65536 = _
    omega
  have x5 : nt (y4 + mq_lushr y4 16) = (c0 + c1 + c2 + c3) + 256 * (c1 + c2 + c3 + c4) + 65536 * (c2 + c3 + c4 + c5) + 16777216 * (c3 + c4 + c5 + c6) + 4294967296 * (c4 + c5 + c6 + c7) + 1099511627776 * (c5 + c6 + c7) + 281474976710656 * (c6 + c7) + 72057594037927936 * c7 := by
    rw [nt_add _ _ (by rw [f5, x4]; omega), f5, x4]
    omega
  generalize hx5 : y4 + mq_lushr y4 16 = y5 at x5
  have f6 : nt (mq_lushr y5 32) = (c4 + c5 + c6 + c7) + 256 * (c5 + c6 + c7) + 65536 * (c6 + c7) + 16777216 * c7 := by
    rw [show (32 : Int32) = nI 32 from rfl, nt_shr y5 32 (by omega), x5]
    show _ / 4294967296 = _
    omega
  have x6 : nt (y5 + mq_lushr y5 32) % 128 = cb (nt x) 64 := by
    rw [nt_add _ _ (by rw [f6, x5]; omega), f6, x5, c]
    omega
  unfold zf_J13_bitCount_95d88
  rw [nL_e, hx1, nL_e, hx2, nL_e, hx3, nL_e, hx4, nL_e, hx5, nL_e, pk_and _ 7 (by decide)]
  congr 2
  rw [← x6]
  unfold nt
  rw [Int64.toBitVec_toInt32, BitVec.signExtend_eq_setWidth_of_le _ (by omega), BitVec.toNat_setWidth]
  show _ % 4294967296 % 128 = _
  omega
