/-! The tableau: what the reference looks for in a SET. -/
def cxR (S : mq_St) (n : Nat) (so on tw : Nat → Int32) (d : Nat → Nat) : Prop := S.1 3 = nI n ∧ (∀ f, f < n → S.2.1 2 f = so f ∧ S.2.1 3 f = on f ∧ S.2.1 4 f = tw f) ∧ (so 0 = 0 ∧ so 1 = 1) ∧ fw n so on tw d
theorem cxR_c {S S' : mq_St} {n : Nat} {so on tw : Nat → Int32} {d : Nat → Nat} (h : cxR S n so on tw d) (e3 : S'.1 3 = S.1 3) (a2 : S'.2.1 2 = S.2.1 2) (a3 : S'.2.1 3 = S.2.1 3) (a4 : S'.2.1 4 = S.2.1 4) : cxR S' n so on tw d := by
  unfold cxR
  rw [e3, a2, a3, a4]
  exact h
theorem srch {F : Nat → Int32 → Option Int32} {n : Nat} {P : Nat → Prop} (hs : ∀ fuel, F (fuel + 1) (nI n) = some (-1)) (hy : ∀ fuel k, k < n → P k → F (fuel + 1) (nI k) = some (nI k)) (hn : ∀ fuel k, k < n → ¬ P k → F (fuel + 1) (nI k) = F fuel (nI (k + 1))) : ∀ (fuel k : Nat), k ≤ n → n - k < fuel → (F fuel (nI k) = some (-1) ∧ ∀ g, k ≤ g → g < n → ¬ P g) ∨ ∃ f, k ≤ f ∧ f < n ∧ P f ∧ (∀ g, k ≤ g → g < f → ¬ P g) ∧ F fuel (nI k) = some (nI f) := by
  intro fuel
  induction fuel with
  | zero => intro k _ h; omega
  | succ fuel ih =>
    intro k hk hf
    by_cases e : k = n
    · subst e
      exact Or.inl ⟨hs fuel, fun g h1 h2 => by omega⟩
    · by_cases p : P k
      · exact Or.inr ⟨k, Nat.le_refl _, by omega, p, fun g h1 h2 => by omega, hy fuel k (by omega) p⟩
      · rw [hn fuel k (by omega) p]
        rcases ih (k + 1) (by omega) (by omega) with ⟨a, b⟩ | ⟨f, f1, f2, f3, f4, f5⟩
        · refine Or.inl ⟨a, fun g h1 h2 => ?_⟩
          by_cases q : g = k
          · rw [q]; exact p
          · exact b g (by omega) h2
        · refine Or.inr ⟨f, by omega, f2, f3, fun g h1 h2 => ?_, f5⟩
          by_cases q : g = k
          · rw [q]; exact p
          · exact f4 g (by omega) h2
section RS
variable {N n : Nat} {z : Nat → Nat} {S : mq_St} {so on tw : Nat → Int32} {d : Nat → Nat}
theorem rs_now {f : Nat} (hf : f < 320) : zf_X11_isIn N (fun k => [10].getD k 0) 0 (nI f) (mq_pull S [] [17] []) = some (if ib (S.2.1 17) 0 f = true then 1 else 0) :=
  ri_in (R := 1) (r := 0) (z := fun k => [10].getD k 0) (S := mq_pull S [] [17] []) rfl (by omega) (by omega) hf
/-- at f of sort s something is to do -/
def td (so on tw : Nat → Int32) (s : Nat) (X : Nat → Bool) (f : Nat) : Prop := so f = nI s ∧ X f = true ∧ ¬ dn on tw s X f
theorem sml {k : Nat} (h : cxR S n so on tw d) (hk : k < 2) (s : Nat) (h2 : 2 ≤ s) (h7 : s ≤ 7) : ¬ so k = nI s := fun q => by
  have : k = 0 ∨ k = 1 := by omega
  rcases this with rfl | rfl
  · rw [h.2.2.1.1] at q
    have := sp_inj (a := 0) q (by omega) (by omega); omega
  · rw [h.2.2.1.2] at q
    have := sp_inj (a := 1) q (by omega) (by omega); omega
/-- the least, or none -/
def lst (n : Nat) (P : Nat → Prop) (v : Int32) : Prop := (v = -1 ∧ ∀ f, f < n → ¬ P f) ∨ ∃ f, f < n ∧ v = nI f ∧ P f ∧ ∀ g, g < f → ¬ P g
theorem rs_both (hN : 400 ≤ N) (h : cxR S n so on tw d) : ∃ v, zf_X11_firstBoth N z S = some v ∧ lst n (td so on tw 4 (ib (S.2.1 17) 0)) v := by
  obtain ⟨h3, hr, h01, hfw⟩ := id h
  have h300 := hfw.2.1
  have h2n := hfw.1
  have stp : ∀ fuel k, k < n → (td so on tw 4 (ib (S.2.1 17) 0) k → zf_X11_firstBoth_2 N z S (fuel + 1) (nI k) = some (nI k)) ∧ (¬ td so on tw 4 (ib (S.2.1 17) 0) k → zf_X11_firstBoth_2 N z S (fuel + 1) (nI k) = zf_X11_firstBoth_2 N z S fuel (nI (k + 1))) := by
    intro fuel k hk
    have hsh : zf_X11_firstBoth_2 N z S (fuel + 1) (nI k) = zf_X11_firstBoth_2b N z S (fun v1 => zf_X11_firstBoth_2 N z S fuel v1) (nI k) := rfl
    have i1 : vp_in (nI k) 300 := vp_in_nI (by omega) (by omega)
    have c1 : (nI k).toNatClampNeg = k := nI_clamp (by omega)
    rw [hsh]
    unfold zf_X11_firstBoth_2b zf_X11_firstBoth_68
    rw [h3, if_neg (nI_ge hk (by omega))]
    simp only [mq_ck_of i1, c1, nI_e, nI_1, (hr k hk).1, (hr k hk).2.1, (hr k hk).2.2, rs_now (N := N) (S := S) (show k < 320 by omega), mq_cp_s]
    by_cases s4 : so k = nI 4
    · obtain ⟨q1, q2, q3, -⟩ := fw_1 hfw hk s4 (by omega) (by omega)
      have q3 := q3 (by omega)
      rw [if_pos (show so k = (4 : Int32) from s4), q2, q3.2, rs_now (N := N) (S := S) (show p1 on k < 320 by omega), mq_cp_s, rs_now (N := N) (S := S) (show p1 tw k < 320 by omega), mq_cp_s]
      unfold td dn
      rw [if_pos rfl]
      cases a : ib (S.2.1 17) 0 k <;> cases b : ib (S.2.1 17) 0 (p1 on k) <;> cases c : ib (S.2.1 17) 0 (p1 tw k) <;> exact ⟨fun q => by first | rfl | (exact absurd q.2.1 (by decide)) | (exact absurd ⟨rfl, rfl⟩ q.2.2), fun q => by first | rfl | (exact absurd ⟨s4, rfl, fun x => by first | (cases x.1; done) | (cases x.2; done)⟩ q)⟩
    · rw [if_neg (show ¬ so k = (4 : Int32) from s4)]
      exact ⟨fun q => absurd q.1 s4, fun _ => rfl⟩
  have stop : ∀ fuel, zf_X11_firstBoth_2 N z S (fuel + 1) (nI n) = some (-1) := fun fuel => by
    show zf_X11_firstBoth_2b N z S _ (nI n) = _
    unfold zf_X11_firstBoth_2b
    rw [h3, if_pos (nI_le (Nat.le_refl _) (by omega))]
  unfold zf_X11_firstBoth
  rw [nI_e]
  rcases srch stop (fun fuel k hk p => (stp fuel k hk).1 p) (fun fuel k hk p => (stp fuel k hk).2 p) N 2 (by omega) (by omega) with ⟨a, b⟩ | ⟨f, f1, f2, f3, f4, f5⟩
  · refine ⟨-1, a, Or.inl ⟨rfl, fun f hf q => ?_⟩⟩
    by_cases e : f < 2
    · exact sml h e 4 (by omega) (by omega) q.1
    · exact b f (by omega) hf q
  · refine ⟨nI f, f5, Or.inr ⟨f, f2, rfl, f3, fun g hg q => ?_⟩⟩
    by_cases e : g < 2
    · exact sml h e 4 (by omega) (by omega) q.1
    · exact f4 g (by omega) hg q
theorem rs_self (hN : 400 ≤ N) (h : cxR S n so on tw d) : ∃ v, zf_X11_firstSelf N z S = some v ∧ lst n (td so on tw 6 (ib (S.2.1 17) 0)) v := by
  obtain ⟨h3, hr, h01, hfw⟩ := id h
  have h300 := hfw.2.1
  have h2n := hfw.1
  have stp : ∀ fuel k, k < n → (td so on tw 6 (ib (S.2.1 17) 0) k → zf_X11_firstSelf_2 N z S (fuel + 1) (nI k) = some (nI k)) ∧ (¬ td so on tw 6 (ib (S.2.1 17) 0) k → zf_X11_firstSelf_2 N z S (fuel + 1) (nI k) = zf_X11_firstSelf_2 N z S fuel (nI (k + 1))) := by
    intro fuel k hk
    have hsh : zf_X11_firstSelf_2 N z S (fuel + 1) (nI k) = zf_X11_firstSelf_2b N z S (fun v1 => zf_X11_firstSelf_2 N z S fuel v1) (nI k) := rfl
    have i1 : vp_in (nI k) 300 := vp_in_nI (by omega) (by omega)
    have c1 : (nI k).toNatClampNeg = k := nI_clamp (by omega)
    rw [hsh]
    unfold zf_X11_firstSelf_2b zf_X11_firstSelf_52
    rw [h3, if_neg (nI_ge hk (by omega))]
    simp only [mq_ck_of i1, c1, nI_e, nI_1, (hr k hk).1, (hr k hk).2.1, rs_now (N := N) (S := S) (show k < 320 by omega), mq_cp_s]
    by_cases s4 : so k = nI 6
    · obtain ⟨q1, q2, -, -⟩ := fw_1 hfw hk s4 (by omega) (by omega)
      rw [if_pos (show so k = (6 : Int32) from s4), q2, rs_now (N := N) (S := S) (show p1 on k < 320 by omega), mq_cp_s]
      unfold td dn
      rw [if_neg (by decide), if_neg (by decide)]
      cases a : ib (S.2.1 17) 0 k <;> cases b : ib (S.2.1 17) 0 (p1 on k) <;> exact ⟨fun q => by first | rfl | (exact absurd q.2.1 (by decide)) | (exact absurd rfl q.2.2), fun q => by first | rfl | (exact absurd ⟨s4, rfl, fun x => by cases x⟩ q)⟩
    · rw [if_neg (show ¬ so k = (6 : Int32) from s4)]
      exact ⟨fun q => absurd q.1 s4, fun _ => rfl⟩
  have stop : ∀ fuel, zf_X11_firstSelf_2 N z S (fuel + 1) (nI n) = some (-1) := fun fuel => by
    show zf_X11_firstSelf_2b N z S _ (nI n) = _
    unfold zf_X11_firstSelf_2b
    rw [h3, if_pos (nI_le (Nat.le_refl _) (by omega))]
  unfold zf_X11_firstSelf
  rw [nI_e]
  rcases srch stop (fun fuel k hk p => (stp fuel k hk).1 p) (fun fuel k hk p => (stp fuel k hk).2 p) N 2 (by omega) (by omega) with ⟨a, b⟩ | ⟨f, f1, f2, f3, f4, f5⟩
  · refine ⟨-1, a, Or.inl ⟨rfl, fun f hf q => ?_⟩⟩
    by_cases e : f < 2
    · exact sml h e 6 (by omega) (by omega) q.1
    · exact b f (by omega) hf q
  · refine ⟨nI f, f5, Or.inr ⟨f, f2, rfl, f3, fun g hg q => ?_⟩⟩
    by_cases e : g < 2
    · exact sml h e 6 (by omega) (by omega) q.1
    · exact f4 g (by omega) hg q
theorem rs_either (hN : 400 ≤ N) (h : cxR S n so on tw d) : ∃ v, zf_X11_firstEither N z S = some v ∧ lst n (td so on tw 5 (ib (S.2.1 17) 0)) v := by
  obtain ⟨h3, hr, h01, hfw⟩ := id h
  have h300 := hfw.2.1
  have h2n := hfw.1
  have stp : ∀ fuel k, k < n → (td so on tw 5 (ib (S.2.1 17) 0) k → zf_X11_firstEither_2 N z S (fuel + 1) (nI k) = some (nI k)) ∧ (¬ td so on tw 5 (ib (S.2.1 17) 0) k → zf_X11_firstEither_2 N z S (fuel + 1) (nI k) = zf_X11_firstEither_2 N z S fuel (nI (k + 1))) := by
    intro fuel k hk
    have hsh : zf_X11_firstEither_2 N z S (fuel + 1) (nI k) = zf_X11_firstEither_2b N z S (fun v1 => zf_X11_firstEither_2 N z S fuel v1) (nI k) := rfl
    have i1 : vp_in (nI k) 300 := vp_in_nI (by omega) (by omega)
    have c1 : (nI k).toNatClampNeg = k := nI_clamp (by omega)
    rw [hsh]
    unfold zf_X11_firstEither_2b zf_X11_firstEither_68
    rw [h3, if_neg (nI_ge hk (by omega))]
    simp only [mq_ck_of i1, c1, nI_e, nI_1, (hr k hk).1, (hr k hk).2.1, (hr k hk).2.2, rs_now (N := N) (S := S) (show k < 320 by omega), mq_cp_s]
    by_cases s4 : so k = nI 5
    · obtain ⟨q1, q2, q3, -⟩ := fw_1 hfw hk s4 (by omega) (by omega)
      have q3 := q3 (by omega)
      rw [if_pos (show so k = (5 : Int32) from s4), q2, q3.2, rs_now (N := N) (S := S) (show p1 on k < 320 by omega), mq_cp_s, rs_now (N := N) (S := S) (show p1 tw k < 320 by omega), mq_cp_s]
      unfold td dn
      rw [if_neg (by decide), if_pos rfl]
      cases a : ib (S.2.1 17) 0 k <;> cases b : ib (S.2.1 17) 0 (p1 on k) <;> cases c : ib (S.2.1 17) 0 (p1 tw k) <;> exact ⟨fun q => by first | rfl | (exact absurd q.2.1 (by decide)) | (exact absurd (Or.inl rfl) q.2.2) | (exact absurd (Or.inr rfl) q.2.2), fun q => by first | rfl | (exact absurd ⟨s4, rfl, fun x => by rcases x with x | x <;> cases x⟩ q)⟩
    · rw [if_neg (show ¬ so k = (5 : Int32) from s4)]
      exact ⟨fun q => absurd q.1 s4, fun _ => rfl⟩
  have stop : ∀ fuel, zf_X11_firstEither_2 N z S (fuel + 1) (nI n) = some (-1) := fun fuel => by
    show zf_X11_firstEither_2b N z S _ (nI n) = _
    unfold zf_X11_firstEither_2b
    rw [h3, if_pos (nI_le (Nat.le_refl _) (by omega))]
  unfold zf_X11_firstEither
  rw [nI_e]
  rcases srch stop (fun fuel k hk p => (stp fuel k hk).1 p) (fun fuel k hk p => (stp fuel k hk).2 p) N 2 (by omega) (by omega) with ⟨a, b⟩ | ⟨f, f1, f2, f3, f4, f5⟩
  · refine ⟨-1, a, Or.inl ⟨rfl, fun f hf q => ?_⟩⟩
    by_cases e : f < 2
    · exact sml h e 5 (by omega) (by omega) q.1
    · exact b f (by omega) hf q
  · refine ⟨nI f, f5, Or.inr ⟨f, f2, rfl, f3, fun g hg q => ?_⟩⟩
    by_cases e : g < 2
    · exact sml h e 5 (by omega) (by omega) q.1
    · exact f4 g (by omega) hg q
/-- the next MAY from k on -/
theorem rs_may {k : Nat} {v : Int32} (hN : 400 ≤ N) (h : cxR S n so on tw d) (hk : k ≤ n) (hv : v + 1 = nI k) : ∃ u, zf_X11_nextMay N z v S = some u ∧ lst n (fun f => k ≤ f ∧ td so on tw 7 (ib (S.2.1 17) 0) f) u := by
  obtain ⟨h3, hr, h01, hfw⟩ := id h
  have h300 := hfw.2.1
  have h2n := hfw.1
  have stp : ∀ fuel k, k < n → (td so on tw 7 (ib (S.2.1 17) 0) k → zf_X11_nextMay_4 N z S (fuel + 1) (nI k) = some (nI k)) ∧ (¬ td so on tw 7 (ib (S.2.1 17) 0) k → zf_X11_nextMay_4 N z S (fuel + 1) (nI k) = zf_X11_nextMay_4 N z S fuel (nI (k + 1))) := by
    intro fuel k hk
    have hsh : zf_X11_nextMay_4 N z S (fuel + 1) (nI k) = zf_X11_nextMay_4b N z S (fun v1 => zf_X11_nextMay_4 N z S fuel v1) (nI k) := rfl
    have i1 : vp_in (nI k) 300 := vp_in_nI (by omega) (by omega)
    have c1 : (nI k).toNatClampNeg = k := nI_clamp (by omega)
    rw [hsh]
    unfold zf_X11_nextMay_4b zf_X11_nextMay_54
    rw [h3, if_neg (nI_ge hk (by omega))]
    simp only [mq_ck_of i1, c1, nI_e, nI_1, (hr k hk).1, (hr k hk).2.1, rs_now (N := N) (S := S) (show k < 320 by omega), mq_cp_s]
    by_cases s4 : so k = nI 7
    · obtain ⟨q1, q2, -, -⟩ := fw_1 hfw hk s4 (by omega) (by omega)
      rw [if_pos (show so k = (7 : Int32) from s4), q2, rs_now (N := N) (S := S) (show p1 on k < 320 by omega), mq_cp_s]
      unfold td dn
      rw [if_neg (by decide), if_neg (by decide)]
      cases a : ib (S.2.1 17) 0 k <;> cases b : ib (S.2.1 17) 0 (p1 on k) <;> exact ⟨fun q => by first | rfl | (exact absurd q.2.1 (by decide)) | (exact absurd rfl q.2.2), fun q => by first | rfl | (exact absurd ⟨s4, rfl, fun x => by cases x⟩ q)⟩
    · rw [if_neg (show ¬ so k = (7 : Int32) from s4)]
      exact ⟨fun q => absurd q.1 s4, fun _ => rfl⟩
  have stop : ∀ fuel, zf_X11_nextMay_4 N z S (fuel + 1) (nI n) = some (-1) := fun fuel => by
    show zf_X11_nextMay_4b N z S _ (nI n) = _
    unfold zf_X11_nextMay_4b
    rw [h3, if_pos (nI_le (Nat.le_refl _) (by omega))]
  unfold zf_X11_nextMay
  rw [nI_e, hv]
  rcases srch stop (fun fuel k hk p => (stp fuel k hk).1 p) (fun fuel k hk p => (stp fuel k hk).2 p) N k (by omega) (by omega) with ⟨a, b⟩ | ⟨f, f1, f2, f3, f4, f5⟩
  · exact ⟨-1, a, Or.inl ⟨rfl, fun f hf q => b f q.1 hf q.2⟩⟩
  · exact ⟨nI f, f5, Or.inr ⟨f, f2, rfl, ⟨f1, f3⟩, fun g hg q => f4 g q.1 hg q.2⟩⟩
theorem rs_opp {f : Nat} (hN : 400 ≤ N) (h : cxR S n so on tw d) (hf : f < n) (hs : so f = 2) : zf_X11_hasOpposite N z (nI f) S = some (if ib (S.2.1 17) 0 (d f) = true then 1 else 0) := by
  obtain ⟨h3, hr, h01, hfw⟩ := id h
  have h300 := hfw.2.1
  obtain ⟨l1, l2, l3, l4⟩ := (fw_let hfw hf).1 hs
  have ge2 : 2 ≤ d f := by
    by_cases e : d f < 2
    · exact absurd l2 (sml h e 3 (by omega) (by omega))
    · omega
  have loop : ∀ fuel k, k ≤ d f → d f - k < fuel → zf_X11_hasOpposite_2 N z S fuel (nI f) (nI k) = some (if ib (S.2.1 17) 0 (d f) = true then 1 else 0) := by
    intro fuel
    induction fuel with
    | zero => intro k _ h; omega
    | succ fuel ih =>
      intro k hk hfu
      have i1 : vp_in (nI k) 300 := vp_in_nI (by omega) (by omega)
      have c1 : (nI k).toNatClampNeg = k := nI_clamp (by omega)
      have i2 : vp_in (nI f) 300 := vp_in_nI (by omega) (by omega)
      have c2 : (nI f).toNatClampNeg = f := nI_clamp (by omega)
      have hsh : zf_X11_hasOpposite_2 N z S (fuel + 1) (nI f) (nI k) = zf_X11_hasOpposite_2b N z S (fun v1 v2 => zf_X11_hasOpposite_2 N z S fuel v1 v2) (nI f) (nI k) := rfl
      rw [hsh]
      unfold zf_X11_hasOpposite_2b zf_X11_hasOpposite_45
      rw [h3, if_neg (nI_ge (by omega) (by omega))]
      simp only [mq_ck_of i1, c1, mq_ck_of i2, c2, nI_e, nI_1, (hr k (by omega)).1, (hr k (by omega)).2.1, (hr f hf).2.1, rs_now (N := N) (S := S) (show k < 320 by omega), mq_cp_s]
      by_cases e : k = d f
      · rw [e, if_pos l2, if_pos l3]
        cases ib (S.2.1 17) 0 (d f)
        · exact mq_cz_0 _
        · exact mq_cz_1 _
      · have go := ih (k + 1) (by omega) (by omega)
        by_cases s3 : so k = 3
        · rw [if_pos s3]
          by_cases o3 : on k = on f
          · exfalso
            obtain ⟨m1', m2', m3', m4'⟩ := (fw_let hfw (show k < n by omega)).2.1 s3
            -- the same letter: the same number
            have hk' := hfw.2.2.2.2 k (by omega)
            have hd' := hfw.2.2.2.2 (d f) l1
            have tw1 : ∀ g, g < n → so g = 3 → tw g = -1 := fun g hg q => by
              rcases hfw.2.2.2.2 g hg with ⟨-, e, -⟩ | ⟨-, e, -⟩ | ⟨-, -, -, e, -⟩ | ⟨e, -⟩ | ⟨e, -⟩
              · rw [e] at q; exact absurd q (by decide)
              · rw [e] at q; exact absurd q (by decide)
              · exact e
              · rcases e with ⟨e, -⟩ | ⟨e, -⟩ <;> (rw [e] at q; exact absurd q (by decide))
              · rcases e with ⟨e, -⟩ | ⟨e, -⟩ <;> (rw [e] at q; exact absurd q (by decide))
            exact e (hfw.2.2.1 k (d f) (by omega) l1 (s3.trans l2.symm) (o3.trans l3.symm) ((tw1 k (by omega) s3).trans (tw1 (d f) l1 l2).symm))
          · rw [if_neg o3]; exact go
        · rw [if_neg s3]; exact go
  unfold zf_X11_hasOpposite
  rw [nI_e]
  exact loop N 2 ge2 (by omega)
theorem rs_clash (hN : 400 ≤ N) (h : cxR S n so on tw d) : ∃ v, zf_X11_clash N z S = some v ∧ clV n so d (ib (S.2.1 17) 0) v := by
  obtain ⟨h3, hr, h01, hfw⟩ := id h
  have h300 := hfw.2.1
  have h2n := hfw.1
  have hdl := hfw.2.2.2.1
  unfold zf_X11_clash
  rw [show (1 : Int32) = nI 1 from rfl, rs_now (N := N) (S := S) (show 1 < 320 by omega), mq_cp_s]
  cases a : ib (S.2.1 17) 0 1 with
  | true =>
    refine ⟨nI 1, rfl, Or.inr ⟨1, by omega, rfl, Or.inl ⟨h01.2, a⟩, fun c hc q => ?_⟩⟩
    have : c = 0 := by omega
    rw [this] at q
    rcases q with ⟨q, -⟩ | ⟨q, -⟩
    · rw [h01.1] at q; exact absurd q (by decide)
    · rw [h01.1] at q; exact absurd q (by decide)
  | false =>
    rw [if_pos (by decide), nI_e]
    have no1 : ∀ c, c < n → so c = 1 → ib (S.2.1 17) 0 c = false := fun c hc q => by rw [(fw_let hfw hc).2.2 q]; exact a
    have stp : ∀ fuel k, k < n → (cls so d (ib (S.2.1 17) 0) k → zf_X11_clash_16 N z S (fuel + 1) (nI k) = some (nI k)) ∧ (¬ cls so d (ib (S.2.1 17) 0) k → zf_X11_clash_16 N z S (fuel + 1) (nI k) = zf_X11_clash_16 N z S fuel (nI (k + 1))) := by
      intro fuel k hk
      have hsh : zf_X11_clash_16 N z S (fuel + 1) (nI k) = zf_X11_clash_16b N z S (fun v1 => zf_X11_clash_16 N z S fuel v1) (nI k) := rfl
      have i1 : vp_in (nI k) 300 := vp_in_nI (by omega) (by omega)
      have c1 : (nI k).toNatClampNeg = k := nI_clamp (by omega)
      rw [hsh]
      unfold zf_X11_clash_16b zf_X11_clash_56
      rw [h3, if_neg (nI_ge hk (by omega))]
      simp only [mq_ck_of i1, c1, nI_e, nI_1, (hr k hk).1, rs_now (N := N) (S := S) (show k < 320 by omega), mq_cp_s]
      by_cases s2 : so k = 2
      · rw [if_pos s2, rs_opp hN h hk s2, mq_cp_s]
        unfold cls
        cases b : ib (S.2.1 17) 0 k <;> cases c : ib (S.2.1 17) 0 (d k) <;> exact ⟨fun q => by first | rfl | (rcases q with ⟨q, -⟩ | ⟨-, q, r⟩ <;> first | (rw [s2] at q; exact absurd q (by decide)) | exact absurd q (by decide) | exact absurd r (by decide)), fun q => by first | rfl | (exact absurd (Or.inr ⟨s2, rfl, rfl⟩) q)⟩
      · rw [if_neg s2]
        refine ⟨fun q => ?_, fun _ => rfl⟩
        rcases q with ⟨q1, q2⟩ | ⟨q1, -⟩
        · rw [no1 k hk q1] at q2; cases q2
        · exact absurd q1 s2
    have stop : ∀ fuel, zf_X11_clash_16 N z S (fuel + 1) (nI n) = some (-1) := fun fuel => by
      show zf_X11_clash_16b N z S _ (nI n) = _
      unfold zf_X11_clash_16b
      rw [h3, if_pos (nI_le (Nat.le_refl _) (by omega))]
    have lo : ∀ c, c < 2 → ¬ cls so d (ib (S.2.1 17) 0) c := fun c hc q => by
      have : c = 0 ∨ c = 1 := by omega
      rcases this with rfl | rfl
      · rcases q with ⟨q, -⟩ | ⟨q, -⟩ <;> (rw [h01.1] at q; exact absurd q (by decide))
      · rcases q with ⟨-, q⟩ | ⟨q, -⟩
        · rw [a] at q; cases q
        · rw [h01.2] at q; exact absurd q (by decide)
    rcases srch stop (fun fuel k hk p => (stp fuel k hk).1 p) (fun fuel k hk p => (stp fuel k hk).2 p) N 2 (by omega) (by omega) with ⟨x, y⟩ | ⟨f, f1, f2, f3, f4, f5⟩
    · refine ⟨-1, x, Or.inl ⟨rfl, fun c hc q => ?_⟩⟩
      by_cases e : c < 2
      · exact lo c e q
      · exact y c (by omega) hc q
    · refine ⟨nI f, f5, Or.inr ⟨f, f2, rfl, f3, fun c hc q => ?_⟩⟩
      by_cases e : c < 2
      · exact lo c e q
      · exact f4 c (by omega) hc q
end RS
