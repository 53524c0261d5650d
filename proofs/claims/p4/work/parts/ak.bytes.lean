/-! The reference's tape holds bytes: feed(), alter() and take() keep it so. -/
section IVB
variable {N : Nat} {z : Nat → Nat}
theorem ck_inv {α : Type} {i : Int32} {n : Nat} {k : Option α} {x : α} (h : mq_ck i n k = some x) : k = some x := by
  unfold mq_ck at h
  split at h
  · exact h
  · exact absurd h (by simp)
theorem cz_inv {α : Type} {i : Int32} {k : Option α} {x : α} (h : mq_cz i k = some x) : k = some x := by
  unfold mq_cz at h
  split at h
  · exact h
  · exact absurd h (by simp)
theorem cl_inv {α β : Type} {x : Option (α × mq_St)} {k : α → mq_St → Option β} {y : β} (h : mq_cl x k = some y) : ∃ a S, x = some (a, S) ∧ k a S = some y := by
  rcases x with _ | ⟨a, S⟩
  · exact absurd h (by simp [mq_cl])
  · exact ⟨a, S, rfl, h⟩
theorem cp_inv {α β : Type} {x : Option α} {k : α → Option β} {y : β} (h : mq_cp x k = some y) : ∃ a, x = some a ∧ k a = some y := by
  rcases x with _ | a
  · exact absurd h (by simp [mq_cp])
  · exact ⟨a, rfl, h⟩
theorem so_2 {α : Type} {a b : α} {S T : mq_St} (h : some (a, S) = some (b, T)) : T = S := by
  injection h with h; injection h with _ h; exact h.symm
theorem bB {b : Nat → Int32} (i : Nat) (x : Int32) (h : ivB b) : ivB (upd b i (vp_nar .byte x)) := fun j => by
  by_cases e : j = i
  · rw [e, up_s]
    show (x.toInt8.toInt32).toInt8.toInt32 = x.toInt8.toInt32
    rw [Int8.toInt8_toInt32]
  · rw [up_o e]; exact h j
theorem four_B : ∀ (fu : Nat) (v w : Int32) (S S' : mq_St) (r : Unit), ivB (S.2.1 0) → zf_X11_four_3 N z fu v w S = some (r, S') → ivB (S'.2.1 0)
  | 0, v, w, S, S', r, _, h => absurd h (by simp [zf_X11_four_3])
  | fu + 1, v, w, S, S', r, hb, h => by
    have h : zf_X11_four_3b N z (fun v1 v2 S => zf_X11_four_3 N z fu v1 v2 S) v w S = some (r, S') := h
    unfold zf_X11_four_3b at h
    split at h
    · rw [so_2 h]; exact hb
    · have h := ck_inv h
      rw [nS_e, nS_e, nI_e] at h
      refine four_B fu _ _ _ S' r ?_ h
      rw [si_2, sa_2, if_pos rfl]
      exact bB _ _ hb
theorem feed_B {x1 x2 x3 x4 x5 r : Int32} {S S' : mq_St} (hb : ivB (S.2.1 0)) (h : zf_X11_feed N z x1 x2 x3 x4 x5 S = some (r, S')) : ivB (S'.2.1 0) := by
  unfold zf_X11_feed at h
  rw [nS_e] at h
  split at h
  · obtain ⟨a1, T1, e1, h⟩ := cl_inv h
    obtain ⟨a2, T2, e2, h⟩ := cl_inv h
    obtain ⟨a3, T3, e3, h⟩ := cl_inv h
    obtain ⟨a4, T4, e4, h⟩ := cl_inv h
    obtain ⟨a5, T5, e5, h⟩ := cl_inv h
    unfold zf_X11_four at e1 e2 e3 e4 e5
    rw [nI_e] at e1 e2 e3 e4 e5
    rw [so_2 h]
    exact four_B _ _ _ _ _ _ (four_B _ _ _ _ _ _ (four_B _ _ _ _ _ _ (four_B _ _ _ _ _ _ (four_B _ _ _ _ _ _ (by exact hb) e1) e2) e3) e4) e5
  · rw [so_2 h]; exact hb
theorem end_B {v r : Int32} {S S' : mq_St} (hb : ivB (S.2.1 0)) (h : zf_X11_end N z v S = some (r, S')) : ivB (S'.2.1 0) := by
  unfold zf_X11_end at h
  rw [nS_e] at h
  obtain ⟨a, -, h⟩ := cp_inv h
  split at h
  · rw [so_2 h]; exact hb
  · rw [nS_e] at h; rw [so_2 h]; exact hb
theorem alter_B {v w r : Int32} {S S' : mq_St} (hb : ivB (S.2.1 0)) (h : zf_X11_alter N z v w S = some (r, S')) : ivB (S'.2.1 0) := by
  unfold zf_X11_alter at h
  rw [nS_e] at h
  obtain ⟨a, -, h⟩ := cp_inv h
  split at h
  · rw [so_2 (cz_inv h)]; exact hb
  · have h := ck_inv h
    rw [nS_e] at h
    rw [so_2 (cz_inv h)]
    exact bB _ _ hb
theorem take_B7 : ∀ (fu : Nat) (v : Int32) (S S' : mq_St) (r : Int32), ivB (S.2.1 0) → zf_X11_take_7 N z fu v S = some (r, S') → ivB (S'.2.1 0)
  | 0, v, S, S', r, _, h => absurd h (by simp [zf_X11_take_7])
  | fu + 1, v, S, S', r, hb, h => by
    have h : zf_X11_take_7b N z (fun v1 S => zf_X11_take_7 N z fu v1 S) v S = some (r, S') := h
    unfold zf_X11_take_7b at h
    split at h
    · rw [nS_e] at h; rw [so_2 h]; exact hb
    · have h := ck_inv (ck_inv h)
      rw [nS_e, nI_e] at h
      refine take_B7 fu _ _ S' r ?_ h
      rw [sa_2, if_pos rfl]
      exact bB _ _ hb
theorem take_B {r : Int32} {S S' : mq_St} (hb : ivB (S.2.1 0)) (h : zf_X11_take N z S = some (r, S')) : ivB (S'.2.1 0) := by
  unfold zf_X11_take at h
  rw [nS_e, nI_e] at h
  exact take_B7 _ _ _ _ _ (by exact hb) h
end IVB
