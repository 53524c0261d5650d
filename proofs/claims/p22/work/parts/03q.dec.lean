/-! decode at pc by the bytes from pc on -/
theorem dq_tl {l : List UInt8} {p : Nat} {b : UInt8} {r : List UInt8} (h : l.drop p = b :: r) : l.drop (p + 1) = r := by
  have h1 : (l.drop p).drop 1 = r := by rw [h]; rfl
  rw [List.drop_drop] at h1
  exact h1
theorem dq_suf {l t r : List UInt8} {m p : Nat} (j : Nat) (h : l.drop m = t) (ep : m + j = p) (e : t.drop j = r) : l.drop p = r := by
  rw [← e, ← h, ← ep, List.drop_drop]
theorem dq_run {c : ByteArray} {p : Nat} {b : UInt8} {r : List UInt8} (h : c.data.toList.drop p = b :: r) : (ReaderT.run (Jvm.ClassFile.Reader.u1 : Jvm.ClassFile.Reader Jvm.ClassFile.DecodeError Nat) c).run p = Except.ok (b.toNat, p + 1) := by
  have h0 : c.data.toList[p]? = some b := by
    have h1 := congrArg List.head? h
    rw [List.head?_drop] at h1
    exact h1
  obtain ⟨hp, e⟩ := List.getElem?_eq_some_iff.mp h0
  have hp' : p < c.size := hp
  have e' : c[p] = b := e
  unfold Jvm.ClassFile.Reader.u1
  show (ReaderT.run (if h : p < c.size then (do set (p + 1); pure c[p].toNat) else throw (Jvm.ClassFile.HasTruncated.truncated p) : Jvm.ClassFile.Reader Jvm.ClassFile.DecodeError Nat) c).run p = Except.ok (b.toNat, p + 1)
  rw [dif_pos hp']
  show Except.ok (c[p].toNat, p + 1) = _
  rw [e']
theorem dq_run2 {c : ByteArray} {p : Nat} {b d : UInt8} {r : List UInt8} (h : c.data.toList.drop p = b :: d :: r) : (ReaderT.run (Jvm.ClassFile.Reader.u2 : Jvm.ClassFile.Reader Jvm.ClassFile.DecodeError Nat) c).run p = Except.ok (b.toNat * 256 + d.toNat, p + 1 + 1) := by
  show ((ReaderT.run (Jvm.ClassFile.Reader.u1 : Jvm.ClassFile.Reader Jvm.ClassFile.DecodeError Nat) c).run p >>= fun x => (ReaderT.run (Jvm.ClassFile.Reader.u1 : Jvm.ClassFile.Reader Jvm.ClassFile.DecodeError Nat) c).run x.2 >>= fun y => (Except.ok (x.1 * 256 + y.1, y.2) : Except Jvm.ClassFile.DecodeError (Nat × Nat))) = _
  rw [dq_run h]
  show ((ReaderT.run (Jvm.ClassFile.Reader.u1 : Jvm.ClassFile.Reader Jvm.ClassFile.DecodeError Nat) c).run (p + 1) >>= fun y => (Except.ok (b.toNat * 256 + y.1, y.2) : Except Jvm.ClassFile.DecodeError (Nat × Nat))) = _
  rw [dq_run (dq_tl h)]
  rfl
theorem dq_runs {c : ByteArray} {p : Nat} {b : UInt8} {r : List UInt8} (h : c.data.toList.drop p = b :: r) : (ReaderT.run (Jvm.ClassFile.Reader.s1 : Jvm.ClassFile.Reader Jvm.ClassFile.DecodeError Int) c).run p = Except.ok (Jvm.ClassFile.Reader.signed 8 b.toNat, p + 1) := by
  show ((ReaderT.run (Jvm.ClassFile.Reader.u1 : Jvm.ClassFile.Reader Jvm.ClassFile.DecodeError Nat) c).run p >>= fun x => (Except.ok (Jvm.ClassFile.Reader.signed 8 x.1, x.2) : Except Jvm.ClassFile.DecodeError (Int × Nat))) = _
  rw [dq_run h]
  rfl
theorem dq_runs2 {c : ByteArray} {p : Nat} {b d : UInt8} {r : List UInt8} (h : c.data.toList.drop p = b :: d :: r) : (ReaderT.run (Jvm.ClassFile.Reader.s2 : Jvm.ClassFile.Reader Jvm.ClassFile.DecodeError Int) c).run p = Except.ok (Jvm.ClassFile.Reader.signed 16 (b.toNat * 256 + d.toNat), p + 1 + 1) := by
  show ((ReaderT.run (Jvm.ClassFile.Reader.u2 : Jvm.ClassFile.Reader Jvm.ClassFile.DecodeError Nat) c).run p >>= fun x => (Except.ok (Jvm.ClassFile.Reader.signed 16 x.1, x.2) : Except Jvm.ClassFile.DecodeError (Int × Nat))) = _
  rw [dq_run2 h]
  rfl
theorem dq_bind {α β : Type} {c : ByteArray} {p q : Nat} {x : α} {g : Jvm.ClassFile.Reader Jvm.ClassFile.DecodeError α} {f : α → Jvm.ClassFile.Reader Jvm.ClassFile.DecodeError β} (h : (ReaderT.run g c).run p = Except.ok (x, q)) : Jvm.ClassFile.Reader.runAt (g >>= f) c p = Jvm.ClassFile.Reader.runAt (f x) c q := by
  show ((ReaderT.run g c).run p >>= fun y => (ReaderT.run (f y.1) c).run y.2) = _
  rw [h]
  rfl
theorem dq_n1 (p : Nat) : p + 1 - p = 1 := Nat.add_sub_cancel_left p 1
theorem dq_n2 (p : Nat) : p + 1 + 1 - p = 2 := Nat.add_sub_cancel_left p 2
theorem dq_n3 (p : Nat) : p + 1 + 1 + 1 - p = 3 := Nat.add_sub_cancel_left p 3
theorem dq_2 {c : ByteArray} {p : Nat} {r : List UInt8} (h : c.data.toList.drop p = 2 :: r) : decode c p = .ok (.iconst (-1), 1) := by
  unfold decode Jvm.ClassFile.Decoder.instr
  rw [dq_bind (dq_run h)]
  show Except.ok (_, p + 1 - p) = _
  rw [dq_n1 p]
theorem dq_3 {c : ByteArray} {p : Nat} {r : List UInt8} (h : c.data.toList.drop p = 3 :: r) : decode c p = .ok (.iconst 0, 1) := by
  unfold decode Jvm.ClassFile.Decoder.instr
  rw [dq_bind (dq_run h)]
  show Except.ok (_, p + 1 - p) = _
  rw [dq_n1 p]
theorem dq_4 {c : ByteArray} {p : Nat} {r : List UInt8} (h : c.data.toList.drop p = 4 :: r) : decode c p = .ok (.iconst 1, 1) := by
  unfold decode Jvm.ClassFile.Decoder.instr
  rw [dq_bind (dq_run h)]
  show Except.ok (_, p + 1 - p) = _
  rw [dq_n1 p]
theorem dq_5 {c : ByteArray} {p : Nat} {r : List UInt8} (h : c.data.toList.drop p = 5 :: r) : decode c p = .ok (.iconst 2, 1) := by
  unfold decode Jvm.ClassFile.Decoder.instr
  rw [dq_bind (dq_run h)]
  show Except.ok (_, p + 1 - p) = _
  rw [dq_n1 p]
theorem dq_6 {c : ByteArray} {p : Nat} {r : List UInt8} (h : c.data.toList.drop p = 6 :: r) : decode c p = .ok (.iconst 3, 1) := by
  unfold decode Jvm.ClassFile.Decoder.instr
  rw [dq_bind (dq_run h)]
  show Except.ok (_, p + 1 - p) = _
  rw [dq_n1 p]
theorem dq_7 {c : ByteArray} {p : Nat} {r : List UInt8} (h : c.data.toList.drop p = 7 :: r) : decode c p = .ok (.iconst 4, 1) := by
  unfold decode Jvm.ClassFile.Decoder.instr
  rw [dq_bind (dq_run h)]
  show Except.ok (_, p + 1 - p) = _
  rw [dq_n1 p]
theorem dq_8 {c : ByteArray} {p : Nat} {r : List UInt8} (h : c.data.toList.drop p = 8 :: r) : decode c p = .ok (.iconst 5, 1) := by
  unfold decode Jvm.ClassFile.Decoder.instr
  rw [dq_bind (dq_run h)]
  show Except.ok (_, p + 1 - p) = _
  rw [dq_n1 p]
theorem dq_9 {c : ByteArray} {p : Nat} {r : List UInt8} (h : c.data.toList.drop p = 9 :: r) : decode c p = .ok (.lconst 0, 1) := by
  unfold decode Jvm.ClassFile.Decoder.instr
  rw [dq_bind (dq_run h)]
  show Except.ok (_, p + 1 - p) = _
  rw [dq_n1 p]
theorem dq_10 {c : ByteArray} {p : Nat} {r : List UInt8} (h : c.data.toList.drop p = 10 :: r) : decode c p = .ok (.lconst 1, 1) := by
  unfold decode Jvm.ClassFile.Decoder.instr
  rw [dq_bind (dq_run h)]
  show Except.ok (_, p + 1 - p) = _
  rw [dq_n1 p]
theorem dq_16 {c : ByteArray} {p : Nat} {d : UInt8} {r : List UInt8} {v : Int} (h : c.data.toList.drop p = 16 :: d :: r) (hv : Jvm.ClassFile.Reader.signed 8 d.toNat = v) : decode c p = .ok (.bipush v, 2) := by
  unfold decode Jvm.ClassFile.Decoder.instr
  rw [dq_bind (dq_run h)]
  show (Jvm.ClassFile.Reader.runAt ((Jvm.ClassFile.Reader.s1 : Jvm.ClassFile.Reader Jvm.ClassFile.DecodeError Int) >>= fun a => pure (Jvm.ClassFile.Instr.bipush a)) c (p + 1) >>= _) = _
  rw [dq_bind (dq_runs (dq_tl h)), hv]
  show Except.ok (_, p + 1 + 1 - p) = _
  rw [dq_n2 p]
theorem dq_17 {c : ByteArray} {p : Nat} {d d' : UInt8} {r : List UInt8} {v : Int} (h : c.data.toList.drop p = 17 :: d :: d' :: r) (hv : Jvm.ClassFile.Reader.signed 16 (d.toNat * 256 + d'.toNat) = v) : decode c p = .ok (.sipush v, 3) := by
  unfold decode Jvm.ClassFile.Decoder.instr
  rw [dq_bind (dq_run h)]
  show (Jvm.ClassFile.Reader.runAt ((Jvm.ClassFile.Reader.s2 : Jvm.ClassFile.Reader Jvm.ClassFile.DecodeError Int) >>= fun a => pure (Jvm.ClassFile.Instr.sipush a)) c (p + 1) >>= _) = _
  rw [dq_bind (dq_runs2 (dq_tl h)), hv]
  show Except.ok (_, p + 1 + 1 + 1 - p) = _
  rw [dq_n3 p]
theorem dq_18 {c : ByteArray} {p : Nat} {d : UInt8} {r : List UInt8} {v : Nat} (h : c.data.toList.drop p = 18 :: d :: r) (hv : d.toNat = v) : decode c p = .ok (.ldc v, 2) := by
  unfold decode Jvm.ClassFile.Decoder.instr
  rw [dq_bind (dq_run h)]
  show (Jvm.ClassFile.Reader.runAt ((Jvm.ClassFile.Reader.u1 : Jvm.ClassFile.Reader Jvm.ClassFile.DecodeError Nat) >>= fun a => pure (Jvm.ClassFile.Instr.ldc a)) c (p + 1) >>= _) = _
  rw [dq_bind (dq_run (dq_tl h)), hv]
  show Except.ok (_, p + 1 + 1 - p) = _
  rw [dq_n2 p]
theorem dq_19 {c : ByteArray} {p : Nat} {d d' : UInt8} {r : List UInt8} {v : Nat} (h : c.data.toList.drop p = 19 :: d :: d' :: r) (hv : d.toNat * 256 + d'.toNat = v) : decode c p = .ok (.ldc_w v, 3) := by
  unfold decode Jvm.ClassFile.Decoder.instr
  rw [dq_bind (dq_run h)]
  show (Jvm.ClassFile.Reader.runAt ((Jvm.ClassFile.Reader.u2 : Jvm.ClassFile.Reader Jvm.ClassFile.DecodeError Nat) >>= fun a => pure (Jvm.ClassFile.Instr.ldc_w a)) c (p + 1) >>= _) = _
  rw [dq_bind (dq_run2 (dq_tl h)), hv]
  show Except.ok (_, p + 1 + 1 + 1 - p) = _
  rw [dq_n3 p]
theorem dq_20 {c : ByteArray} {p : Nat} {d d' : UInt8} {r : List UInt8} {v : Nat} (h : c.data.toList.drop p = 20 :: d :: d' :: r) (hv : d.toNat * 256 + d'.toNat = v) : decode c p = .ok (.ldc2_w v, 3) := by
  unfold decode Jvm.ClassFile.Decoder.instr
  rw [dq_bind (dq_run h)]
  show (Jvm.ClassFile.Reader.runAt ((Jvm.ClassFile.Reader.u2 : Jvm.ClassFile.Reader Jvm.ClassFile.DecodeError Nat) >>= fun a => pure (Jvm.ClassFile.Instr.ldc2_w a)) c (p + 1) >>= _) = _
  rw [dq_bind (dq_run2 (dq_tl h)), hv]
  show Except.ok (_, p + 1 + 1 + 1 - p) = _
  rw [dq_n3 p]
theorem dq_21 {c : ByteArray} {p : Nat} {d : UInt8} {r : List UInt8} {v : Nat} (h : c.data.toList.drop p = 21 :: d :: r) (hv : d.toNat = v) : decode c p = .ok (.iload v, 2) := by
  unfold decode Jvm.ClassFile.Decoder.instr
  rw [dq_bind (dq_run h)]
  show (Jvm.ClassFile.Reader.runAt ((Jvm.ClassFile.Reader.u1 : Jvm.ClassFile.Reader Jvm.ClassFile.DecodeError Nat) >>= fun a => pure (Jvm.ClassFile.Instr.iload a)) c (p + 1) >>= _) = _
  rw [dq_bind (dq_run (dq_tl h)), hv]
  show Except.ok (_, p + 1 + 1 - p) = _
  rw [dq_n2 p]
theorem dq_22 {c : ByteArray} {p : Nat} {d : UInt8} {r : List UInt8} {v : Nat} (h : c.data.toList.drop p = 22 :: d :: r) (hv : d.toNat = v) : decode c p = .ok (.lload v, 2) := by
  unfold decode Jvm.ClassFile.Decoder.instr
  rw [dq_bind (dq_run h)]
  show (Jvm.ClassFile.Reader.runAt ((Jvm.ClassFile.Reader.u1 : Jvm.ClassFile.Reader Jvm.ClassFile.DecodeError Nat) >>= fun a => pure (Jvm.ClassFile.Instr.lload a)) c (p + 1) >>= _) = _
  rw [dq_bind (dq_run (dq_tl h)), hv]
  show Except.ok (_, p + 1 + 1 - p) = _
  rw [dq_n2 p]
theorem dq_26 {c : ByteArray} {p : Nat} {r : List UInt8} (h : c.data.toList.drop p = 26 :: r) : decode c p = .ok (.iload_n 0, 1) := by
  unfold decode Jvm.ClassFile.Decoder.instr
  rw [dq_bind (dq_run h)]
  show Except.ok (_, p + 1 - p) = _
  rw [dq_n1 p]
theorem dq_27 {c : ByteArray} {p : Nat} {r : List UInt8} (h : c.data.toList.drop p = 27 :: r) : decode c p = .ok (.iload_n 1, 1) := by
  unfold decode Jvm.ClassFile.Decoder.instr
  rw [dq_bind (dq_run h)]
  show Except.ok (_, p + 1 - p) = _
  rw [dq_n1 p]
theorem dq_28 {c : ByteArray} {p : Nat} {r : List UInt8} (h : c.data.toList.drop p = 28 :: r) : decode c p = .ok (.iload_n 2, 1) := by
  unfold decode Jvm.ClassFile.Decoder.instr
  rw [dq_bind (dq_run h)]
  show Except.ok (_, p + 1 - p) = _
  rw [dq_n1 p]
theorem dq_29 {c : ByteArray} {p : Nat} {r : List UInt8} (h : c.data.toList.drop p = 29 :: r) : decode c p = .ok (.iload_n 3, 1) := by
  unfold decode Jvm.ClassFile.Decoder.instr
  rw [dq_bind (dq_run h)]
  show Except.ok (_, p + 1 - p) = _
  rw [dq_n1 p]
theorem dq_30 {c : ByteArray} {p : Nat} {r : List UInt8} (h : c.data.toList.drop p = 30 :: r) : decode c p = .ok (.lload_n 0, 1) := by
  unfold decode Jvm.ClassFile.Decoder.instr
  rw [dq_bind (dq_run h)]
  show Except.ok (_, p + 1 - p) = _
  rw [dq_n1 p]
theorem dq_31 {c : ByteArray} {p : Nat} {r : List UInt8} (h : c.data.toList.drop p = 31 :: r) : decode c p = .ok (.lload_n 1, 1) := by
  unfold decode Jvm.ClassFile.Decoder.instr
  rw [dq_bind (dq_run h)]
  show Except.ok (_, p + 1 - p) = _
  rw [dq_n1 p]
theorem dq_32 {c : ByteArray} {p : Nat} {r : List UInt8} (h : c.data.toList.drop p = 32 :: r) : decode c p = .ok (.lload_n 2, 1) := by
  unfold decode Jvm.ClassFile.Decoder.instr
  rw [dq_bind (dq_run h)]
  show Except.ok (_, p + 1 - p) = _
  rw [dq_n1 p]
theorem dq_33 {c : ByteArray} {p : Nat} {r : List UInt8} (h : c.data.toList.drop p = 33 :: r) : decode c p = .ok (.lload_n 3, 1) := by
  unfold decode Jvm.ClassFile.Decoder.instr
  rw [dq_bind (dq_run h)]
  show Except.ok (_, p + 1 - p) = _
  rw [dq_n1 p]
theorem dq_42 {c : ByteArray} {p : Nat} {r : List UInt8} (h : c.data.toList.drop p = 42 :: r) : decode c p = .ok (.aload_n 0, 1) := by
  unfold decode Jvm.ClassFile.Decoder.instr
  rw [dq_bind (dq_run h)]
  show Except.ok (_, p + 1 - p) = _
  rw [dq_n1 p]
theorem dq_43 {c : ByteArray} {p : Nat} {r : List UInt8} (h : c.data.toList.drop p = 43 :: r) : decode c p = .ok (.aload_n 1, 1) := by
  unfold decode Jvm.ClassFile.Decoder.instr
  rw [dq_bind (dq_run h)]
  show Except.ok (_, p + 1 - p) = _
  rw [dq_n1 p]
theorem dq_44 {c : ByteArray} {p : Nat} {r : List UInt8} (h : c.data.toList.drop p = 44 :: r) : decode c p = .ok (.aload_n 2, 1) := by
  unfold decode Jvm.ClassFile.Decoder.instr
  rw [dq_bind (dq_run h)]
  show Except.ok (_, p + 1 - p) = _
  rw [dq_n1 p]
theorem dq_45 {c : ByteArray} {p : Nat} {r : List UInt8} (h : c.data.toList.drop p = 45 :: r) : decode c p = .ok (.aload_n 3, 1) := by
  unfold decode Jvm.ClassFile.Decoder.instr
  rw [dq_bind (dq_run h)]
  show Except.ok (_, p + 1 - p) = _
  rw [dq_n1 p]
theorem dq_46 {c : ByteArray} {p : Nat} {r : List UInt8} (h : c.data.toList.drop p = 46 :: r) : decode c p = .ok (.iaload, 1) := by
  unfold decode Jvm.ClassFile.Decoder.instr
  rw [dq_bind (dq_run h)]
  show Except.ok (_, p + 1 - p) = _
  rw [dq_n1 p]
theorem dq_47 {c : ByteArray} {p : Nat} {r : List UInt8} (h : c.data.toList.drop p = 47 :: r) : decode c p = .ok (.laload, 1) := by
  unfold decode Jvm.ClassFile.Decoder.instr
  rw [dq_bind (dq_run h)]
  show Except.ok (_, p + 1 - p) = _
  rw [dq_n1 p]
theorem dq_51 {c : ByteArray} {p : Nat} {r : List UInt8} (h : c.data.toList.drop p = 51 :: r) : decode c p = .ok (.baload, 1) := by
  unfold decode Jvm.ClassFile.Decoder.instr
  rw [dq_bind (dq_run h)]
  show Except.ok (_, p + 1 - p) = _
  rw [dq_n1 p]
theorem dq_54 {c : ByteArray} {p : Nat} {d : UInt8} {r : List UInt8} {v : Nat} (h : c.data.toList.drop p = 54 :: d :: r) (hv : d.toNat = v) : decode c p = .ok (.istore v, 2) := by
  unfold decode Jvm.ClassFile.Decoder.instr
  rw [dq_bind (dq_run h)]
  show (Jvm.ClassFile.Reader.runAt ((Jvm.ClassFile.Reader.u1 : Jvm.ClassFile.Reader Jvm.ClassFile.DecodeError Nat) >>= fun a => pure (Jvm.ClassFile.Instr.istore a)) c (p + 1) >>= _) = _
  rw [dq_bind (dq_run (dq_tl h)), hv]
  show Except.ok (_, p + 1 + 1 - p) = _
  rw [dq_n2 p]
theorem dq_55 {c : ByteArray} {p : Nat} {d : UInt8} {r : List UInt8} {v : Nat} (h : c.data.toList.drop p = 55 :: d :: r) (hv : d.toNat = v) : decode c p = .ok (.lstore v, 2) := by
  unfold decode Jvm.ClassFile.Decoder.instr
  rw [dq_bind (dq_run h)]
  show (Jvm.ClassFile.Reader.runAt ((Jvm.ClassFile.Reader.u1 : Jvm.ClassFile.Reader Jvm.ClassFile.DecodeError Nat) >>= fun a => pure (Jvm.ClassFile.Instr.lstore a)) c (p + 1) >>= _) = _
  rw [dq_bind (dq_run (dq_tl h)), hv]
  show Except.ok (_, p + 1 + 1 - p) = _
  rw [dq_n2 p]
theorem dq_58 {c : ByteArray} {p : Nat} {d : UInt8} {r : List UInt8} {v : Nat} (h : c.data.toList.drop p = 58 :: d :: r) (hv : d.toNat = v) : decode c p = .ok (.astore v, 2) := by
  unfold decode Jvm.ClassFile.Decoder.instr
  rw [dq_bind (dq_run h)]
  show (Jvm.ClassFile.Reader.runAt ((Jvm.ClassFile.Reader.u1 : Jvm.ClassFile.Reader Jvm.ClassFile.DecodeError Nat) >>= fun a => pure (Jvm.ClassFile.Instr.astore a)) c (p + 1) >>= _) = _
  rw [dq_bind (dq_run (dq_tl h)), hv]
  show Except.ok (_, p + 1 + 1 - p) = _
  rw [dq_n2 p]
theorem dq_60 {c : ByteArray} {p : Nat} {r : List UInt8} (h : c.data.toList.drop p = 60 :: r) : decode c p = .ok (.istore_n 1, 1) := by
  unfold decode Jvm.ClassFile.Decoder.instr
  rw [dq_bind (dq_run h)]
  show Except.ok (_, p + 1 - p) = _
  rw [dq_n1 p]
theorem dq_61 {c : ByteArray} {p : Nat} {r : List UInt8} (h : c.data.toList.drop p = 61 :: r) : decode c p = .ok (.istore_n 2, 1) := by
  unfold decode Jvm.ClassFile.Decoder.instr
  rw [dq_bind (dq_run h)]
  show Except.ok (_, p + 1 - p) = _
  rw [dq_n1 p]
theorem dq_62 {c : ByteArray} {p : Nat} {r : List UInt8} (h : c.data.toList.drop p = 62 :: r) : decode c p = .ok (.istore_n 3, 1) := by
  unfold decode Jvm.ClassFile.Decoder.instr
  rw [dq_bind (dq_run h)]
  show Except.ok (_, p + 1 - p) = _
  rw [dq_n1 p]
theorem dq_63 {c : ByteArray} {p : Nat} {r : List UInt8} (h : c.data.toList.drop p = 63 :: r) : decode c p = .ok (.lstore_n 0, 1) := by
  unfold decode Jvm.ClassFile.Decoder.instr
  rw [dq_bind (dq_run h)]
  show Except.ok (_, p + 1 - p) = _
  rw [dq_n1 p]
theorem dq_65 {c : ByteArray} {p : Nat} {r : List UInt8} (h : c.data.toList.drop p = 65 :: r) : decode c p = .ok (.lstore_n 2, 1) := by
  unfold decode Jvm.ClassFile.Decoder.instr
  rw [dq_bind (dq_run h)]
  show Except.ok (_, p + 1 - p) = _
  rw [dq_n1 p]
theorem dq_66 {c : ByteArray} {p : Nat} {r : List UInt8} (h : c.data.toList.drop p = 66 :: r) : decode c p = .ok (.lstore_n 3, 1) := by
  unfold decode Jvm.ClassFile.Decoder.instr
  rw [dq_bind (dq_run h)]
  show Except.ok (_, p + 1 - p) = _
  rw [dq_n1 p]
theorem dq_76 {c : ByteArray} {p : Nat} {r : List UInt8} (h : c.data.toList.drop p = 76 :: r) : decode c p = .ok (.astore_n 1, 1) := by
  unfold decode Jvm.ClassFile.Decoder.instr
  rw [dq_bind (dq_run h)]
  show Except.ok (_, p + 1 - p) = _
  rw [dq_n1 p]
theorem dq_77 {c : ByteArray} {p : Nat} {r : List UInt8} (h : c.data.toList.drop p = 77 :: r) : decode c p = .ok (.astore_n 2, 1) := by
  unfold decode Jvm.ClassFile.Decoder.instr
  rw [dq_bind (dq_run h)]
  show Except.ok (_, p + 1 - p) = _
  rw [dq_n1 p]
theorem dq_78 {c : ByteArray} {p : Nat} {r : List UInt8} (h : c.data.toList.drop p = 78 :: r) : decode c p = .ok (.astore_n 3, 1) := by
  unfold decode Jvm.ClassFile.Decoder.instr
  rw [dq_bind (dq_run h)]
  show Except.ok (_, p + 1 - p) = _
  rw [dq_n1 p]
theorem dq_79 {c : ByteArray} {p : Nat} {r : List UInt8} (h : c.data.toList.drop p = 79 :: r) : decode c p = .ok (.iastore, 1) := by
  unfold decode Jvm.ClassFile.Decoder.instr
  rw [dq_bind (dq_run h)]
  show Except.ok (_, p + 1 - p) = _
  rw [dq_n1 p]
theorem dq_80 {c : ByteArray} {p : Nat} {r : List UInt8} (h : c.data.toList.drop p = 80 :: r) : decode c p = .ok (.lastore, 1) := by
  unfold decode Jvm.ClassFile.Decoder.instr
  rw [dq_bind (dq_run h)]
  show Except.ok (_, p + 1 - p) = _
  rw [dq_n1 p]
theorem dq_84 {c : ByteArray} {p : Nat} {r : List UInt8} (h : c.data.toList.drop p = 84 :: r) : decode c p = .ok (.bastore, 1) := by
  unfold decode Jvm.ClassFile.Decoder.instr
  rw [dq_bind (dq_run h)]
  show Except.ok (_, p + 1 - p) = _
  rw [dq_n1 p]
theorem dq_87 {c : ByteArray} {p : Nat} {r : List UInt8} (h : c.data.toList.drop p = 87 :: r) : decode c p = .ok (.pop, 1) := by
  unfold decode Jvm.ClassFile.Decoder.instr
  rw [dq_bind (dq_run h)]
  show Except.ok (_, p + 1 - p) = _
  rw [dq_n1 p]
theorem dq_89 {c : ByteArray} {p : Nat} {r : List UInt8} (h : c.data.toList.drop p = 89 :: r) : decode c p = .ok (.dup, 1) := by
  unfold decode Jvm.ClassFile.Decoder.instr
  rw [dq_bind (dq_run h)]
  show Except.ok (_, p + 1 - p) = _
  rw [dq_n1 p]
theorem dq_92 {c : ByteArray} {p : Nat} {r : List UInt8} (h : c.data.toList.drop p = 92 :: r) : decode c p = .ok (.dup2, 1) := by
  unfold decode Jvm.ClassFile.Decoder.instr
  rw [dq_bind (dq_run h)]
  show Except.ok (_, p + 1 - p) = _
  rw [dq_n1 p]
theorem dq_96 {c : ByteArray} {p : Nat} {r : List UInt8} (h : c.data.toList.drop p = 96 :: r) : decode c p = .ok (.iadd, 1) := by
  unfold decode Jvm.ClassFile.Decoder.instr
  rw [dq_bind (dq_run h)]
  show Except.ok (_, p + 1 - p) = _
  rw [dq_n1 p]
theorem dq_97 {c : ByteArray} {p : Nat} {r : List UInt8} (h : c.data.toList.drop p = 97 :: r) : decode c p = .ok (.ladd, 1) := by
  unfold decode Jvm.ClassFile.Decoder.instr
  rw [dq_bind (dq_run h)]
  show Except.ok (_, p + 1 - p) = _
  rw [dq_n1 p]
theorem dq_100 {c : ByteArray} {p : Nat} {r : List UInt8} (h : c.data.toList.drop p = 100 :: r) : decode c p = .ok (.isub, 1) := by
  unfold decode Jvm.ClassFile.Decoder.instr
  rw [dq_bind (dq_run h)]
  show Except.ok (_, p + 1 - p) = _
  rw [dq_n1 p]
theorem dq_101 {c : ByteArray} {p : Nat} {r : List UInt8} (h : c.data.toList.drop p = 101 :: r) : decode c p = .ok (.lsub, 1) := by
  unfold decode Jvm.ClassFile.Decoder.instr
  rw [dq_bind (dq_run h)]
  show Except.ok (_, p + 1 - p) = _
  rw [dq_n1 p]
theorem dq_104 {c : ByteArray} {p : Nat} {r : List UInt8} (h : c.data.toList.drop p = 104 :: r) : decode c p = .ok (.imul, 1) := by
  unfold decode Jvm.ClassFile.Decoder.instr
  rw [dq_bind (dq_run h)]
  show Except.ok (_, p + 1 - p) = _
  rw [dq_n1 p]
theorem dq_108 {c : ByteArray} {p : Nat} {r : List UInt8} (h : c.data.toList.drop p = 108 :: r) : decode c p = .ok (.idiv, 1) := by
  unfold decode Jvm.ClassFile.Decoder.instr
  rw [dq_bind (dq_run h)]
  show Except.ok (_, p + 1 - p) = _
  rw [dq_n1 p]
theorem dq_112 {c : ByteArray} {p : Nat} {r : List UInt8} (h : c.data.toList.drop p = 112 :: r) : decode c p = .ok (.irem, 1) := by
  unfold decode Jvm.ClassFile.Decoder.instr
  rw [dq_bind (dq_run h)]
  show Except.ok (_, p + 1 - p) = _
  rw [dq_n1 p]
theorem dq_116 {c : ByteArray} {p : Nat} {r : List UInt8} (h : c.data.toList.drop p = 116 :: r) : decode c p = .ok (.ineg, 1) := by
  unfold decode Jvm.ClassFile.Decoder.instr
  rw [dq_bind (dq_run h)]
  show Except.ok (_, p + 1 - p) = _
  rw [dq_n1 p]
theorem dq_117 {c : ByteArray} {p : Nat} {r : List UInt8} (h : c.data.toList.drop p = 117 :: r) : decode c p = .ok (.lneg, 1) := by
  unfold decode Jvm.ClassFile.Decoder.instr
  rw [dq_bind (dq_run h)]
  show Except.ok (_, p + 1 - p) = _
  rw [dq_n1 p]
theorem dq_120 {c : ByteArray} {p : Nat} {r : List UInt8} (h : c.data.toList.drop p = 120 :: r) : decode c p = .ok (.ishl, 1) := by
  unfold decode Jvm.ClassFile.Decoder.instr
  rw [dq_bind (dq_run h)]
  show Except.ok (_, p + 1 - p) = _
  rw [dq_n1 p]
theorem dq_121 {c : ByteArray} {p : Nat} {r : List UInt8} (h : c.data.toList.drop p = 121 :: r) : decode c p = .ok (.lshl, 1) := by
  unfold decode Jvm.ClassFile.Decoder.instr
  rw [dq_bind (dq_run h)]
  show Except.ok (_, p + 1 - p) = _
  rw [dq_n1 p]
theorem dq_122 {c : ByteArray} {p : Nat} {r : List UInt8} (h : c.data.toList.drop p = 122 :: r) : decode c p = .ok (.ishr, 1) := by
  unfold decode Jvm.ClassFile.Decoder.instr
  rw [dq_bind (dq_run h)]
  show Except.ok (_, p + 1 - p) = _
  rw [dq_n1 p]
theorem dq_124 {c : ByteArray} {p : Nat} {r : List UInt8} (h : c.data.toList.drop p = 124 :: r) : decode c p = .ok (.iushr, 1) := by
  unfold decode Jvm.ClassFile.Decoder.instr
  rw [dq_bind (dq_run h)]
  show Except.ok (_, p + 1 - p) = _
  rw [dq_n1 p]
theorem dq_125 {c : ByteArray} {p : Nat} {r : List UInt8} (h : c.data.toList.drop p = 125 :: r) : decode c p = .ok (.lushr, 1) := by
  unfold decode Jvm.ClassFile.Decoder.instr
  rw [dq_bind (dq_run h)]
  show Except.ok (_, p + 1 - p) = _
  rw [dq_n1 p]
theorem dq_126 {c : ByteArray} {p : Nat} {r : List UInt8} (h : c.data.toList.drop p = 126 :: r) : decode c p = .ok (.iand, 1) := by
  unfold decode Jvm.ClassFile.Decoder.instr
  rw [dq_bind (dq_run h)]
  show Except.ok (_, p + 1 - p) = _
  rw [dq_n1 p]
theorem dq_127 {c : ByteArray} {p : Nat} {r : List UInt8} (h : c.data.toList.drop p = 127 :: r) : decode c p = .ok (.land, 1) := by
  unfold decode Jvm.ClassFile.Decoder.instr
  rw [dq_bind (dq_run h)]
  show Except.ok (_, p + 1 - p) = _
  rw [dq_n1 p]
theorem dq_128 {c : ByteArray} {p : Nat} {r : List UInt8} (h : c.data.toList.drop p = 128 :: r) : decode c p = .ok (.ior, 1) := by
  unfold decode Jvm.ClassFile.Decoder.instr
  rw [dq_bind (dq_run h)]
  show Except.ok (_, p + 1 - p) = _
  rw [dq_n1 p]
theorem dq_129 {c : ByteArray} {p : Nat} {r : List UInt8} (h : c.data.toList.drop p = 129 :: r) : decode c p = .ok (.lor, 1) := by
  unfold decode Jvm.ClassFile.Decoder.instr
  rw [dq_bind (dq_run h)]
  show Except.ok (_, p + 1 - p) = _
  rw [dq_n1 p]
theorem dq_130 {c : ByteArray} {p : Nat} {r : List UInt8} (h : c.data.toList.drop p = 130 :: r) : decode c p = .ok (.ixor, 1) := by
  unfold decode Jvm.ClassFile.Decoder.instr
  rw [dq_bind (dq_run h)]
  show Except.ok (_, p + 1 - p) = _
  rw [dq_n1 p]
theorem dq_131 {c : ByteArray} {p : Nat} {r : List UInt8} (h : c.data.toList.drop p = 131 :: r) : decode c p = .ok (.lxor, 1) := by
  unfold decode Jvm.ClassFile.Decoder.instr
  rw [dq_bind (dq_run h)]
  show Except.ok (_, p + 1 - p) = _
  rw [dq_n1 p]
theorem dq_132 {c : ByteArray} {p : Nat} {d d' : UInt8} {r : List UInt8} {v : Nat} {w : Int} (h : c.data.toList.drop p = 132 :: d :: d' :: r) (hv : d.toNat = v) (hw : Jvm.ClassFile.Reader.signed 8 d'.toNat = w) : decode c p = .ok (.iinc v w, 3) := by
  unfold decode Jvm.ClassFile.Decoder.instr
  rw [dq_bind (dq_run h)]
  show (Jvm.ClassFile.Reader.runAt ((Jvm.ClassFile.Reader.u1 : Jvm.ClassFile.Reader Jvm.ClassFile.DecodeError Nat) >>= fun a => (Jvm.ClassFile.Reader.s1 : Jvm.ClassFile.Reader Jvm.ClassFile.DecodeError Int) >>= fun a' => pure (Jvm.ClassFile.Instr.iinc a a')) c (p + 1) >>= _) = _
  rw [dq_bind (dq_run (dq_tl h)), dq_bind (dq_runs (dq_tl (dq_tl h))), hv, hw]
  show Except.ok (_, p + 1 + 1 + 1 - p) = _
  rw [dq_n3 p]
theorem dq_133 {c : ByteArray} {p : Nat} {r : List UInt8} (h : c.data.toList.drop p = 133 :: r) : decode c p = .ok (.i2l, 1) := by
  unfold decode Jvm.ClassFile.Decoder.instr
  rw [dq_bind (dq_run h)]
  show Except.ok (_, p + 1 - p) = _
  rw [dq_n1 p]
theorem dq_136 {c : ByteArray} {p : Nat} {r : List UInt8} (h : c.data.toList.drop p = 136 :: r) : decode c p = .ok (.l2i, 1) := by
  unfold decode Jvm.ClassFile.Decoder.instr
  rw [dq_bind (dq_run h)]
  show Except.ok (_, p + 1 - p) = _
  rw [dq_n1 p]
theorem dq_145 {c : ByteArray} {p : Nat} {r : List UInt8} (h : c.data.toList.drop p = 145 :: r) : decode c p = .ok (.i2b, 1) := by
  unfold decode Jvm.ClassFile.Decoder.instr
  rw [dq_bind (dq_run h)]
  show Except.ok (_, p + 1 - p) = _
  rw [dq_n1 p]
theorem dq_148 {c : ByteArray} {p : Nat} {r : List UInt8} (h : c.data.toList.drop p = 148 :: r) : decode c p = .ok (.lcmp, 1) := by
  unfold decode Jvm.ClassFile.Decoder.instr
  rw [dq_bind (dq_run h)]
  show Except.ok (_, p + 1 - p) = _
  rw [dq_n1 p]
theorem dq_153 {c : ByteArray} {p : Nat} {d d' : UInt8} {r : List UInt8} {v : Int} (h : c.data.toList.drop p = 153 :: d :: d' :: r) (hv : Jvm.ClassFile.Reader.signed 16 (d.toNat * 256 + d'.toNat) = v) : decode c p = .ok (.ifCond .eq v, 3) := by
  unfold decode Jvm.ClassFile.Decoder.instr
  rw [dq_bind (dq_run h)]
  show (Jvm.ClassFile.Reader.runAt ((Jvm.ClassFile.Reader.s2 : Jvm.ClassFile.Reader Jvm.ClassFile.DecodeError Int) >>= fun a => pure (Jvm.ClassFile.Instr.ifCond .eq a)) c (p + 1) >>= _) = _
  rw [dq_bind (dq_runs2 (dq_tl h)), hv]
  show Except.ok (_, p + 1 + 1 + 1 - p) = _
  rw [dq_n3 p]
theorem dq_154 {c : ByteArray} {p : Nat} {d d' : UInt8} {r : List UInt8} {v : Int} (h : c.data.toList.drop p = 154 :: d :: d' :: r) (hv : Jvm.ClassFile.Reader.signed 16 (d.toNat * 256 + d'.toNat) = v) : decode c p = .ok (.ifCond .ne v, 3) := by
  unfold decode Jvm.ClassFile.Decoder.instr
  rw [dq_bind (dq_run h)]
  show (Jvm.ClassFile.Reader.runAt ((Jvm.ClassFile.Reader.s2 : Jvm.ClassFile.Reader Jvm.ClassFile.DecodeError Int) >>= fun a => pure (Jvm.ClassFile.Instr.ifCond .ne a)) c (p + 1) >>= _) = _
  rw [dq_bind (dq_runs2 (dq_tl h)), hv]
  show Except.ok (_, p + 1 + 1 + 1 - p) = _
  rw [dq_n3 p]
theorem dq_155 {c : ByteArray} {p : Nat} {d d' : UInt8} {r : List UInt8} {v : Int} (h : c.data.toList.drop p = 155 :: d :: d' :: r) (hv : Jvm.ClassFile.Reader.signed 16 (d.toNat * 256 + d'.toNat) = v) : decode c p = .ok (.ifCond .lt v, 3) := by
  unfold decode Jvm.ClassFile.Decoder.instr
  rw [dq_bind (dq_run h)]
  show (Jvm.ClassFile.Reader.runAt ((Jvm.ClassFile.Reader.s2 : Jvm.ClassFile.Reader Jvm.ClassFile.DecodeError Int) >>= fun a => pure (Jvm.ClassFile.Instr.ifCond .lt a)) c (p + 1) >>= _) = _
  rw [dq_bind (dq_runs2 (dq_tl h)), hv]
  show Except.ok (_, p + 1 + 1 + 1 - p) = _
  rw [dq_n3 p]
theorem dq_156 {c : ByteArray} {p : Nat} {d d' : UInt8} {r : List UInt8} {v : Int} (h : c.data.toList.drop p = 156 :: d :: d' :: r) (hv : Jvm.ClassFile.Reader.signed 16 (d.toNat * 256 + d'.toNat) = v) : decode c p = .ok (.ifCond .ge v, 3) := by
  unfold decode Jvm.ClassFile.Decoder.instr
  rw [dq_bind (dq_run h)]
  show (Jvm.ClassFile.Reader.runAt ((Jvm.ClassFile.Reader.s2 : Jvm.ClassFile.Reader Jvm.ClassFile.DecodeError Int) >>= fun a => pure (Jvm.ClassFile.Instr.ifCond .ge a)) c (p + 1) >>= _) = _
  rw [dq_bind (dq_runs2 (dq_tl h)), hv]
  show Except.ok (_, p + 1 + 1 + 1 - p) = _
  rw [dq_n3 p]
theorem dq_157 {c : ByteArray} {p : Nat} {d d' : UInt8} {r : List UInt8} {v : Int} (h : c.data.toList.drop p = 157 :: d :: d' :: r) (hv : Jvm.ClassFile.Reader.signed 16 (d.toNat * 256 + d'.toNat) = v) : decode c p = .ok (.ifCond .gt v, 3) := by
  unfold decode Jvm.ClassFile.Decoder.instr
  rw [dq_bind (dq_run h)]
  show (Jvm.ClassFile.Reader.runAt ((Jvm.ClassFile.Reader.s2 : Jvm.ClassFile.Reader Jvm.ClassFile.DecodeError Int) >>= fun a => pure (Jvm.ClassFile.Instr.ifCond .gt a)) c (p + 1) >>= _) = _
  rw [dq_bind (dq_runs2 (dq_tl h)), hv]
  show Except.ok (_, p + 1 + 1 + 1 - p) = _
  rw [dq_n3 p]
theorem dq_158 {c : ByteArray} {p : Nat} {d d' : UInt8} {r : List UInt8} {v : Int} (h : c.data.toList.drop p = 158 :: d :: d' :: r) (hv : Jvm.ClassFile.Reader.signed 16 (d.toNat * 256 + d'.toNat) = v) : decode c p = .ok (.ifCond .le v, 3) := by
  unfold decode Jvm.ClassFile.Decoder.instr
  rw [dq_bind (dq_run h)]
  show (Jvm.ClassFile.Reader.runAt ((Jvm.ClassFile.Reader.s2 : Jvm.ClassFile.Reader Jvm.ClassFile.DecodeError Int) >>= fun a => pure (Jvm.ClassFile.Instr.ifCond .le a)) c (p + 1) >>= _) = _
  rw [dq_bind (dq_runs2 (dq_tl h)), hv]
  show Except.ok (_, p + 1 + 1 + 1 - p) = _
  rw [dq_n3 p]
theorem dq_159 {c : ByteArray} {p : Nat} {d d' : UInt8} {r : List UInt8} {v : Int} (h : c.data.toList.drop p = 159 :: d :: d' :: r) (hv : Jvm.ClassFile.Reader.signed 16 (d.toNat * 256 + d'.toNat) = v) : decode c p = .ok (.if_icmp .eq v, 3) := by
  unfold decode Jvm.ClassFile.Decoder.instr
  rw [dq_bind (dq_run h)]
  show (Jvm.ClassFile.Reader.runAt ((Jvm.ClassFile.Reader.s2 : Jvm.ClassFile.Reader Jvm.ClassFile.DecodeError Int) >>= fun a => pure (Jvm.ClassFile.Instr.if_icmp .eq a)) c (p + 1) >>= _) = _
  rw [dq_bind (dq_runs2 (dq_tl h)), hv]
  show Except.ok (_, p + 1 + 1 + 1 - p) = _
  rw [dq_n3 p]
theorem dq_160 {c : ByteArray} {p : Nat} {d d' : UInt8} {r : List UInt8} {v : Int} (h : c.data.toList.drop p = 160 :: d :: d' :: r) (hv : Jvm.ClassFile.Reader.signed 16 (d.toNat * 256 + d'.toNat) = v) : decode c p = .ok (.if_icmp .ne v, 3) := by
  unfold decode Jvm.ClassFile.Decoder.instr
  rw [dq_bind (dq_run h)]
  show (Jvm.ClassFile.Reader.runAt ((Jvm.ClassFile.Reader.s2 : Jvm.ClassFile.Reader Jvm.ClassFile.DecodeError Int) >>= fun a => pure (Jvm.ClassFile.Instr.if_icmp .ne a)) c (p + 1) >>= _) = _
  rw [dq_bind (dq_runs2 (dq_tl h)), hv]
  show Except.ok (_, p + 1 + 1 + 1 - p) = _
  rw [dq_n3 p]
theorem dq_161 {c : ByteArray} {p : Nat} {d d' : UInt8} {r : List UInt8} {v : Int} (h : c.data.toList.drop p = 161 :: d :: d' :: r) (hv : Jvm.ClassFile.Reader.signed 16 (d.toNat * 256 + d'.toNat) = v) : decode c p = .ok (.if_icmp .lt v, 3) := by
  unfold decode Jvm.ClassFile.Decoder.instr
  rw [dq_bind (dq_run h)]
  show (Jvm.ClassFile.Reader.runAt ((Jvm.ClassFile.Reader.s2 : Jvm.ClassFile.Reader Jvm.ClassFile.DecodeError Int) >>= fun a => pure (Jvm.ClassFile.Instr.if_icmp .lt a)) c (p + 1) >>= _) = _
  rw [dq_bind (dq_runs2 (dq_tl h)), hv]
  show Except.ok (_, p + 1 + 1 + 1 - p) = _
  rw [dq_n3 p]
theorem dq_162 {c : ByteArray} {p : Nat} {d d' : UInt8} {r : List UInt8} {v : Int} (h : c.data.toList.drop p = 162 :: d :: d' :: r) (hv : Jvm.ClassFile.Reader.signed 16 (d.toNat * 256 + d'.toNat) = v) : decode c p = .ok (.if_icmp .ge v, 3) := by
  unfold decode Jvm.ClassFile.Decoder.instr
  rw [dq_bind (dq_run h)]
  show (Jvm.ClassFile.Reader.runAt ((Jvm.ClassFile.Reader.s2 : Jvm.ClassFile.Reader Jvm.ClassFile.DecodeError Int) >>= fun a => pure (Jvm.ClassFile.Instr.if_icmp .ge a)) c (p + 1) >>= _) = _
  rw [dq_bind (dq_runs2 (dq_tl h)), hv]
  show Except.ok (_, p + 1 + 1 + 1 - p) = _
  rw [dq_n3 p]
theorem dq_163 {c : ByteArray} {p : Nat} {d d' : UInt8} {r : List UInt8} {v : Int} (h : c.data.toList.drop p = 163 :: d :: d' :: r) (hv : Jvm.ClassFile.Reader.signed 16 (d.toNat * 256 + d'.toNat) = v) : decode c p = .ok (.if_icmp .gt v, 3) := by
  unfold decode Jvm.ClassFile.Decoder.instr
  rw [dq_bind (dq_run h)]
  show (Jvm.ClassFile.Reader.runAt ((Jvm.ClassFile.Reader.s2 : Jvm.ClassFile.Reader Jvm.ClassFile.DecodeError Int) >>= fun a => pure (Jvm.ClassFile.Instr.if_icmp .gt a)) c (p + 1) >>= _) = _
  rw [dq_bind (dq_runs2 (dq_tl h)), hv]
  show Except.ok (_, p + 1 + 1 + 1 - p) = _
  rw [dq_n3 p]
theorem dq_164 {c : ByteArray} {p : Nat} {d d' : UInt8} {r : List UInt8} {v : Int} (h : c.data.toList.drop p = 164 :: d :: d' :: r) (hv : Jvm.ClassFile.Reader.signed 16 (d.toNat * 256 + d'.toNat) = v) : decode c p = .ok (.if_icmp .le v, 3) := by
  unfold decode Jvm.ClassFile.Decoder.instr
  rw [dq_bind (dq_run h)]
  show (Jvm.ClassFile.Reader.runAt ((Jvm.ClassFile.Reader.s2 : Jvm.ClassFile.Reader Jvm.ClassFile.DecodeError Int) >>= fun a => pure (Jvm.ClassFile.Instr.if_icmp .le a)) c (p + 1) >>= _) = _
  rw [dq_bind (dq_runs2 (dq_tl h)), hv]
  show Except.ok (_, p + 1 + 1 + 1 - p) = _
  rw [dq_n3 p]
theorem dq_167 {c : ByteArray} {p : Nat} {d d' : UInt8} {r : List UInt8} {v : Int} (h : c.data.toList.drop p = 167 :: d :: d' :: r) (hv : Jvm.ClassFile.Reader.signed 16 (d.toNat * 256 + d'.toNat) = v) : decode c p = .ok (.goto v, 3) := by
  unfold decode Jvm.ClassFile.Decoder.instr
  rw [dq_bind (dq_run h)]
  show (Jvm.ClassFile.Reader.runAt ((Jvm.ClassFile.Reader.s2 : Jvm.ClassFile.Reader Jvm.ClassFile.DecodeError Int) >>= fun a => pure (Jvm.ClassFile.Instr.goto a)) c (p + 1) >>= _) = _
  rw [dq_bind (dq_runs2 (dq_tl h)), hv]
  show Except.ok (_, p + 1 + 1 + 1 - p) = _
  rw [dq_n3 p]
theorem dq_172 {c : ByteArray} {p : Nat} {r : List UInt8} (h : c.data.toList.drop p = 172 :: r) : decode c p = .ok (.ireturn, 1) := by
  unfold decode Jvm.ClassFile.Decoder.instr
  rw [dq_bind (dq_run h)]
  show Except.ok (_, p + 1 - p) = _
  rw [dq_n1 p]
theorem dq_173 {c : ByteArray} {p : Nat} {r : List UInt8} (h : c.data.toList.drop p = 173 :: r) : decode c p = .ok (.lreturn, 1) := by
  unfold decode Jvm.ClassFile.Decoder.instr
  rw [dq_bind (dq_run h)]
  show Except.ok (_, p + 1 - p) = _
  rw [dq_n1 p]
theorem dq_176 {c : ByteArray} {p : Nat} {r : List UInt8} (h : c.data.toList.drop p = 176 :: r) : decode c p = .ok (.areturn, 1) := by
  unfold decode Jvm.ClassFile.Decoder.instr
  rw [dq_bind (dq_run h)]
  show Except.ok (_, p + 1 - p) = _
  rw [dq_n1 p]
theorem dq_177 {c : ByteArray} {p : Nat} {r : List UInt8} (h : c.data.toList.drop p = 177 :: r) : decode c p = .ok (.return_, 1) := by
  unfold decode Jvm.ClassFile.Decoder.instr
  rw [dq_bind (dq_run h)]
  show Except.ok (_, p + 1 - p) = _
  rw [dq_n1 p]
theorem dq_180 {c : ByteArray} {p : Nat} {d d' : UInt8} {r : List UInt8} {v : Nat} (h : c.data.toList.drop p = 180 :: d :: d' :: r) (hv : d.toNat * 256 + d'.toNat = v) : decode c p = .ok (.getfield v, 3) := by
  unfold decode Jvm.ClassFile.Decoder.instr
  rw [dq_bind (dq_run h)]
  show (Jvm.ClassFile.Reader.runAt ((Jvm.ClassFile.Reader.u2 : Jvm.ClassFile.Reader Jvm.ClassFile.DecodeError Nat) >>= fun a => pure (Jvm.ClassFile.Instr.getfield a)) c (p + 1) >>= _) = _
  rw [dq_bind (dq_run2 (dq_tl h)), hv]
  show Except.ok (_, p + 1 + 1 + 1 - p) = _
  rw [dq_n3 p]
theorem dq_181 {c : ByteArray} {p : Nat} {d d' : UInt8} {r : List UInt8} {v : Nat} (h : c.data.toList.drop p = 181 :: d :: d' :: r) (hv : d.toNat * 256 + d'.toNat = v) : decode c p = .ok (.putfield v, 3) := by
  unfold decode Jvm.ClassFile.Decoder.instr
  rw [dq_bind (dq_run h)]
  show (Jvm.ClassFile.Reader.runAt ((Jvm.ClassFile.Reader.u2 : Jvm.ClassFile.Reader Jvm.ClassFile.DecodeError Nat) >>= fun a => pure (Jvm.ClassFile.Instr.putfield a)) c (p + 1) >>= _) = _
  rw [dq_bind (dq_run2 (dq_tl h)), hv]
  show Except.ok (_, p + 1 + 1 + 1 - p) = _
  rw [dq_n3 p]
theorem dq_182 {c : ByteArray} {p : Nat} {d d' : UInt8} {r : List UInt8} {v : Nat} (h : c.data.toList.drop p = 182 :: d :: d' :: r) (hv : d.toNat * 256 + d'.toNat = v) : decode c p = .ok (.invokevirtual v, 3) := by
  unfold decode Jvm.ClassFile.Decoder.instr
  rw [dq_bind (dq_run h)]
  show (Jvm.ClassFile.Reader.runAt ((Jvm.ClassFile.Reader.u2 : Jvm.ClassFile.Reader Jvm.ClassFile.DecodeError Nat) >>= fun a => pure (Jvm.ClassFile.Instr.invokevirtual a)) c (p + 1) >>= _) = _
  rw [dq_bind (dq_run2 (dq_tl h)), hv]
  show Except.ok (_, p + 1 + 1 + 1 - p) = _
  rw [dq_n3 p]
theorem dq_183 {c : ByteArray} {p : Nat} {d d' : UInt8} {r : List UInt8} {v : Nat} (h : c.data.toList.drop p = 183 :: d :: d' :: r) (hv : d.toNat * 256 + d'.toNat = v) : decode c p = .ok (.invokespecial v, 3) := by
  unfold decode Jvm.ClassFile.Decoder.instr
  rw [dq_bind (dq_run h)]
  show (Jvm.ClassFile.Reader.runAt ((Jvm.ClassFile.Reader.u2 : Jvm.ClassFile.Reader Jvm.ClassFile.DecodeError Nat) >>= fun a => pure (Jvm.ClassFile.Instr.invokespecial a)) c (p + 1) >>= _) = _
  rw [dq_bind (dq_run2 (dq_tl h)), hv]
  show Except.ok (_, p + 1 + 1 + 1 - p) = _
  rw [dq_n3 p]
theorem dq_184 {c : ByteArray} {p : Nat} {d d' : UInt8} {r : List UInt8} {v : Nat} (h : c.data.toList.drop p = 184 :: d :: d' :: r) (hv : d.toNat * 256 + d'.toNat = v) : decode c p = .ok (.invokestatic v, 3) := by
  unfold decode Jvm.ClassFile.Decoder.instr
  rw [dq_bind (dq_run h)]
  show (Jvm.ClassFile.Reader.runAt ((Jvm.ClassFile.Reader.u2 : Jvm.ClassFile.Reader Jvm.ClassFile.DecodeError Nat) >>= fun a => pure (Jvm.ClassFile.Instr.invokestatic a)) c (p + 1) >>= _) = _
  rw [dq_bind (dq_run2 (dq_tl h)), hv]
  show Except.ok (_, p + 1 + 1 + 1 - p) = _
  rw [dq_n3 p]
theorem dq_187 {c : ByteArray} {p : Nat} {d d' : UInt8} {r : List UInt8} {v : Nat} (h : c.data.toList.drop p = 187 :: d :: d' :: r) (hv : d.toNat * 256 + d'.toNat = v) : decode c p = .ok (.new v, 3) := by
  unfold decode Jvm.ClassFile.Decoder.instr
  rw [dq_bind (dq_run h)]
  show (Jvm.ClassFile.Reader.runAt ((Jvm.ClassFile.Reader.u2 : Jvm.ClassFile.Reader Jvm.ClassFile.DecodeError Nat) >>= fun a => pure (Jvm.ClassFile.Instr.new a)) c (p + 1) >>= _) = _
  rw [dq_bind (dq_run2 (dq_tl h)), hv]
  show Except.ok (_, p + 1 + 1 + 1 - p) = _
  rw [dq_n3 p]
theorem dq_190 {c : ByteArray} {p : Nat} {r : List UInt8} (h : c.data.toList.drop p = 190 :: r) : decode c p = .ok (.arraylength, 1) := by
  unfold decode Jvm.ClassFile.Decoder.instr
  rw [dq_bind (dq_run h)]
  show Except.ok (_, p + 1 - p) = _
  rw [dq_n1 p]
theorem dq_191 {c : ByteArray} {p : Nat} {r : List UInt8} (h : c.data.toList.drop p = 191 :: r) : decode c p = .ok (.athrow, 1) := by
  unfold decode Jvm.ClassFile.Decoder.instr
  rw [dq_bind (dq_run h)]
  show Except.ok (_, p + 1 - p) = _
  rw [dq_n1 p]
