/-! decoding by bytes: what stands at a place, a lemma an opcode (by program) -/
def bsL : List UInt8 → List Nat → Bool
  | _, [] => true
  | x :: xs, n :: ns => Nat.beq x.toNat n && bsL xs ns
  | [], _ :: _ => false
def bs (c : ByteArray) (p : Nat) (l : List Nat) : Bool := bsL (c.data.toList.drop p) l
theorem bs_cons {c : ByteArray} {p n : Nat} {ns : List Nat} (h : bs c p (n :: ns) = true) : (∃ hp : p < c.size, c[p].toNat = n) ∧ bs c (p + 1) ns = true := by
  unfold bs at h
  cases e : c.data.toList.drop p with
  | nil => rw [e] at h; cases h
  | cons x xs =>
    rw [e] at h
    unfold bsL at h
    rw [Bool.and_eq_true] at h
    have hp : p < c.data.toList.length := by
      rcases Nat.lt_or_ge p c.data.toList.length with z | z
      · exact z
      · rw [List.drop_eq_nil_iff.mpr z] at e; cases e
    have e2 := List.drop_eq_getElem_cons hp
    rw [e] at e2
    have ex : x = c.data.toList[p] := (List.cons.inj e2).1
    have exs : xs = c.data.toList.drop (p + 1) := (List.cons.inj e2).2
    refine ⟨⟨hp, ?_⟩, ?_⟩
    · have := Nat.eq_of_beq_eq_true h.1
      rw [ex] at this
      exact this
    · unfold bs
      rw [← exs]
      exact h.2
section DQ
variable {α β : Type} {c : ByteArray} {p q : Nat}
theorem rd_bind {r : Decoder α} {f : α → Decoder β} {x : α} (h : Reader.runAt r c p = .ok (x, q)) : Reader.runAt (r >>= f) c p = Reader.runAt (f x) c q := by
  have h' : r c p = Except.ok (x, q) := h
  show (StateT.bind (r c) (fun a => f a c)) p = f x c q
  unfold StateT.bind
  show Except.bind (r c p) _ = _
  rw [h']
  rfl
theorem rd_u1 {n : Nat} {ns : List Nat} (h : bs c p (n :: ns) = true) : Reader.runAt (Reader.u1 : Decoder Nat) c p = .ok (n, p + 1) := by
  obtain ⟨⟨hp, hv⟩, -⟩ := bs_cons h
  subst hv
  show (Reader.u1 : Decoder Nat) c p = _
  unfold Reader.u1
  show (dite (p < c.size) (fun _ => (do set (p + 1); pure c[p].toNat : Decoder Nat)) (fun _ => throw (HasTruncated.truncated p))) c p = _
  rw [dif_pos hp]
  rfl
theorem rd_u2 {a b : Nat} {ns : List Nat} (h : bs c p (a :: b :: ns) = true) : Reader.runAt (Reader.u2 : Decoder Nat) c p = .ok (a * 256 + b, p + 2) := by
  unfold Reader.u2
  rw [rd_bind (rd_u1 h), rd_bind (rd_u1 (bs_cons h).2)]
  rfl
theorem rd_s1 {a : Nat} {ns : List Nat} (h : bs c p (a :: ns) = true) : Reader.runAt (Reader.s1 : Decoder Int) c p = .ok (Reader.signed 8 a, p + 1) := by
  show Reader.runAt (Reader.signed 8 <$> (Reader.u1 : Decoder Nat)) c p = _
  rw [map_eq_pure_bind, rd_bind (rd_u1 h)]
  rfl
theorem rd_s2 {a b : Nat} {ns : List Nat} (h : bs c p (a :: b :: ns) = true) : Reader.runAt (Reader.s2 : Decoder Int) c p = .ok (Reader.signed 16 (a * 256 + b), p + 2) := by
  show Reader.runAt (Reader.signed 16 <$> (Reader.u2 : Decoder Nat)) c p = _
  rw [map_eq_pure_bind, rd_bind (rd_u2 h)]
  rfl
theorem dec_of {i : Instr} {n : Nat} (h : Reader.runAt (Decoder.instr p) c p = .ok (i, p + n)) : decode c p = .ok (i, n) := by
  unfold decode
  rw [h]
  show Except.ok (i, p + n - p) = _
  rw [Nat.add_sub_cancel_left]
theorem dq_2 (h : bs c p [2] = true) : decode c p = .ok (.iconst (-1), 1) := dec_of (by unfold Decoder.instr; rw [rd_bind (rd_u1 h)]; rfl)
theorem dq_3 (h : bs c p [3] = true) : decode c p = .ok (.iconst 0, 1) := dec_of (by unfold Decoder.instr; rw [rd_bind (rd_u1 h)]; rfl)
theorem dq_4 (h : bs c p [4] = true) : decode c p = .ok (.iconst 1, 1) := dec_of (by unfold Decoder.instr; rw [rd_bind (rd_u1 h)]; rfl)
theorem dq_5 (h : bs c p [5] = true) : decode c p = .ok (.iconst 2, 1) := dec_of (by unfold Decoder.instr; rw [rd_bind (rd_u1 h)]; rfl)
theorem dq_6 (h : bs c p [6] = true) : decode c p = .ok (.iconst 3, 1) := dec_of (by unfold Decoder.instr; rw [rd_bind (rd_u1 h)]; rfl)
theorem dq_7 (h : bs c p [7] = true) : decode c p = .ok (.iconst 4, 1) := dec_of (by unfold Decoder.instr; rw [rd_bind (rd_u1 h)]; rfl)
theorem dq_8 (h : bs c p [8] = true) : decode c p = .ok (.iconst 5, 1) := dec_of (by unfold Decoder.instr; rw [rd_bind (rd_u1 h)]; rfl)
theorem dq_1 (h : bs c p [1] = true) : decode c p = .ok (.aconst_null, 1) := dec_of (by unfold Decoder.instr; rw [rd_bind (rd_u1 h)]; rfl)
theorem dq_9 (h : bs c p [9] = true) : decode c p = .ok (.lconst 0, 1) := dec_of (by unfold Decoder.instr; rw [rd_bind (rd_u1 h)]; rfl)
theorem dq_10 (h : bs c p [10] = true) : decode c p = .ok (.lconst 1, 1) := dec_of (by unfold Decoder.instr; rw [rd_bind (rd_u1 h)]; rfl)
theorem dq_26 (h : bs c p [26] = true) : decode c p = .ok (.iload_n 0, 1) := dec_of (by unfold Decoder.instr; rw [rd_bind (rd_u1 h)]; rfl)
theorem dq_30 (h : bs c p [30] = true) : decode c p = .ok (.lload_n 0, 1) := dec_of (by unfold Decoder.instr; rw [rd_bind (rd_u1 h)]; rfl)
theorem dq_42 (h : bs c p [42] = true) : decode c p = .ok (.aload_n 0, 1) := dec_of (by unfold Decoder.instr; rw [rd_bind (rd_u1 h)]; rfl)
theorem dq_59 (h : bs c p [59] = true) : decode c p = .ok (.istore_n 0, 1) := dec_of (by unfold Decoder.instr; rw [rd_bind (rd_u1 h)]; rfl)
theorem dq_63 (h : bs c p [63] = true) : decode c p = .ok (.lstore_n 0, 1) := dec_of (by unfold Decoder.instr; rw [rd_bind (rd_u1 h)]; rfl)
theorem dq_75 (h : bs c p [75] = true) : decode c p = .ok (.astore_n 0, 1) := dec_of (by unfold Decoder.instr; rw [rd_bind (rd_u1 h)]; rfl)
theorem dq_27 (h : bs c p [27] = true) : decode c p = .ok (.iload_n 1, 1) := dec_of (by unfold Decoder.instr; rw [rd_bind (rd_u1 h)]; rfl)
theorem dq_31 (h : bs c p [31] = true) : decode c p = .ok (.lload_n 1, 1) := dec_of (by unfold Decoder.instr; rw [rd_bind (rd_u1 h)]; rfl)
theorem dq_43 (h : bs c p [43] = true) : decode c p = .ok (.aload_n 1, 1) := dec_of (by unfold Decoder.instr; rw [rd_bind (rd_u1 h)]; rfl)
theorem dq_60 (h : bs c p [60] = true) : decode c p = .ok (.istore_n 1, 1) := dec_of (by unfold Decoder.instr; rw [rd_bind (rd_u1 h)]; rfl)
theorem dq_64 (h : bs c p [64] = true) : decode c p = .ok (.lstore_n 1, 1) := dec_of (by unfold Decoder.instr; rw [rd_bind (rd_u1 h)]; rfl)
theorem dq_76 (h : bs c p [76] = true) : decode c p = .ok (.astore_n 1, 1) := dec_of (by unfold Decoder.instr; rw [rd_bind (rd_u1 h)]; rfl)
theorem dq_28 (h : bs c p [28] = true) : decode c p = .ok (.iload_n 2, 1) := dec_of (by unfold Decoder.instr; rw [rd_bind (rd_u1 h)]; rfl)
theorem dq_32 (h : bs c p [32] = true) : decode c p = .ok (.lload_n 2, 1) := dec_of (by unfold Decoder.instr; rw [rd_bind (rd_u1 h)]; rfl)
theorem dq_44 (h : bs c p [44] = true) : decode c p = .ok (.aload_n 2, 1) := dec_of (by unfold Decoder.instr; rw [rd_bind (rd_u1 h)]; rfl)
theorem dq_61 (h : bs c p [61] = true) : decode c p = .ok (.istore_n 2, 1) := dec_of (by unfold Decoder.instr; rw [rd_bind (rd_u1 h)]; rfl)
theorem dq_65 (h : bs c p [65] = true) : decode c p = .ok (.lstore_n 2, 1) := dec_of (by unfold Decoder.instr; rw [rd_bind (rd_u1 h)]; rfl)
theorem dq_77 (h : bs c p [77] = true) : decode c p = .ok (.astore_n 2, 1) := dec_of (by unfold Decoder.instr; rw [rd_bind (rd_u1 h)]; rfl)
theorem dq_29 (h : bs c p [29] = true) : decode c p = .ok (.iload_n 3, 1) := dec_of (by unfold Decoder.instr; rw [rd_bind (rd_u1 h)]; rfl)
theorem dq_33 (h : bs c p [33] = true) : decode c p = .ok (.lload_n 3, 1) := dec_of (by unfold Decoder.instr; rw [rd_bind (rd_u1 h)]; rfl)
theorem dq_45 (h : bs c p [45] = true) : decode c p = .ok (.aload_n 3, 1) := dec_of (by unfold Decoder.instr; rw [rd_bind (rd_u1 h)]; rfl)
theorem dq_62 (h : bs c p [62] = true) : decode c p = .ok (.istore_n 3, 1) := dec_of (by unfold Decoder.instr; rw [rd_bind (rd_u1 h)]; rfl)
theorem dq_66 (h : bs c p [66] = true) : decode c p = .ok (.lstore_n 3, 1) := dec_of (by unfold Decoder.instr; rw [rd_bind (rd_u1 h)]; rfl)
theorem dq_78 (h : bs c p [78] = true) : decode c p = .ok (.astore_n 3, 1) := dec_of (by unfold Decoder.instr; rw [rd_bind (rd_u1 h)]; rfl)
theorem dq_46 (h : bs c p [46] = true) : decode c p = .ok (.iaload, 1) := dec_of (by unfold Decoder.instr; rw [rd_bind (rd_u1 h)]; rfl)
theorem dq_51 (h : bs c p [51] = true) : decode c p = .ok (.baload, 1) := dec_of (by unfold Decoder.instr; rw [rd_bind (rd_u1 h)]; rfl)
theorem dq_79 (h : bs c p [79] = true) : decode c p = .ok (.iastore, 1) := dec_of (by unfold Decoder.instr; rw [rd_bind (rd_u1 h)]; rfl)
theorem dq_84 (h : bs c p [84] = true) : decode c p = .ok (.bastore, 1) := dec_of (by unfold Decoder.instr; rw [rd_bind (rd_u1 h)]; rfl)
theorem dq_87 (h : bs c p [87] = true) : decode c p = .ok (.pop, 1) := dec_of (by unfold Decoder.instr; rw [rd_bind (rd_u1 h)]; rfl)
theorem dq_88 (h : bs c p [88] = true) : decode c p = .ok (.pop2, 1) := dec_of (by unfold Decoder.instr; rw [rd_bind (rd_u1 h)]; rfl)
theorem dq_89 (h : bs c p [89] = true) : decode c p = .ok (.dup, 1) := dec_of (by unfold Decoder.instr; rw [rd_bind (rd_u1 h)]; rfl)
theorem dq_92 (h : bs c p [92] = true) : decode c p = .ok (.dup2, 1) := dec_of (by unfold Decoder.instr; rw [rd_bind (rd_u1 h)]; rfl)
theorem dq_96 (h : bs c p [96] = true) : decode c p = .ok (.iadd, 1) := dec_of (by unfold Decoder.instr; rw [rd_bind (rd_u1 h)]; rfl)
theorem dq_97 (h : bs c p [97] = true) : decode c p = .ok (.ladd, 1) := dec_of (by unfold Decoder.instr; rw [rd_bind (rd_u1 h)]; rfl)
theorem dq_100 (h : bs c p [100] = true) : decode c p = .ok (.isub, 1) := dec_of (by unfold Decoder.instr; rw [rd_bind (rd_u1 h)]; rfl)
theorem dq_104 (h : bs c p [104] = true) : decode c p = .ok (.imul, 1) := dec_of (by unfold Decoder.instr; rw [rd_bind (rd_u1 h)]; rfl)
theorem dq_108 (h : bs c p [108] = true) : decode c p = .ok (.idiv, 1) := dec_of (by unfold Decoder.instr; rw [rd_bind (rd_u1 h)]; rfl)
theorem dq_109 (h : bs c p [109] = true) : decode c p = .ok (.ldiv, 1) := dec_of (by unfold Decoder.instr; rw [rd_bind (rd_u1 h)]; rfl)
theorem dq_112 (h : bs c p [112] = true) : decode c p = .ok (.irem, 1) := dec_of (by unfold Decoder.instr; rw [rd_bind (rd_u1 h)]; rfl)
theorem dq_113 (h : bs c p [113] = true) : decode c p = .ok (.lrem, 1) := dec_of (by unfold Decoder.instr; rw [rd_bind (rd_u1 h)]; rfl)
theorem dq_120 (h : bs c p [120] = true) : decode c p = .ok (.ishl, 1) := dec_of (by unfold Decoder.instr; rw [rd_bind (rd_u1 h)]; rfl)
theorem dq_121 (h : bs c p [121] = true) : decode c p = .ok (.lshl, 1) := dec_of (by unfold Decoder.instr; rw [rd_bind (rd_u1 h)]; rfl)
theorem dq_122 (h : bs c p [122] = true) : decode c p = .ok (.ishr, 1) := dec_of (by unfold Decoder.instr; rw [rd_bind (rd_u1 h)]; rfl)
theorem dq_123 (h : bs c p [123] = true) : decode c p = .ok (.lshr, 1) := dec_of (by unfold Decoder.instr; rw [rd_bind (rd_u1 h)]; rfl)
theorem dq_124 (h : bs c p [124] = true) : decode c p = .ok (.iushr, 1) := dec_of (by unfold Decoder.instr; rw [rd_bind (rd_u1 h)]; rfl)
theorem dq_126 (h : bs c p [126] = true) : decode c p = .ok (.iand, 1) := dec_of (by unfold Decoder.instr; rw [rd_bind (rd_u1 h)]; rfl)
theorem dq_127 (h : bs c p [127] = true) : decode c p = .ok (.land, 1) := dec_of (by unfold Decoder.instr; rw [rd_bind (rd_u1 h)]; rfl)
theorem dq_128 (h : bs c p [128] = true) : decode c p = .ok (.ior, 1) := dec_of (by unfold Decoder.instr; rw [rd_bind (rd_u1 h)]; rfl)
theorem dq_129 (h : bs c p [129] = true) : decode c p = .ok (.lor, 1) := dec_of (by unfold Decoder.instr; rw [rd_bind (rd_u1 h)]; rfl)
theorem dq_130 (h : bs c p [130] = true) : decode c p = .ok (.ixor, 1) := dec_of (by unfold Decoder.instr; rw [rd_bind (rd_u1 h)]; rfl)
theorem dq_133 (h : bs c p [133] = true) : decode c p = .ok (.i2l, 1) := dec_of (by unfold Decoder.instr; rw [rd_bind (rd_u1 h)]; rfl)
theorem dq_136 (h : bs c p [136] = true) : decode c p = .ok (.l2i, 1) := dec_of (by unfold Decoder.instr; rw [rd_bind (rd_u1 h)]; rfl)
theorem dq_145 (h : bs c p [145] = true) : decode c p = .ok (.i2b, 1) := dec_of (by unfold Decoder.instr; rw [rd_bind (rd_u1 h)]; rfl)
theorem dq_146 (h : bs c p [146] = true) : decode c p = .ok (.i2c, 1) := dec_of (by unfold Decoder.instr; rw [rd_bind (rd_u1 h)]; rfl)
theorem dq_147 (h : bs c p [147] = true) : decode c p = .ok (.i2s, 1) := dec_of (by unfold Decoder.instr; rw [rd_bind (rd_u1 h)]; rfl)
theorem dq_148 (h : bs c p [148] = true) : decode c p = .ok (.lcmp, 1) := dec_of (by unfold Decoder.instr; rw [rd_bind (rd_u1 h)]; rfl)
theorem dq_172 (h : bs c p [172] = true) : decode c p = .ok (.ireturn, 1) := dec_of (by unfold Decoder.instr; rw [rd_bind (rd_u1 h)]; rfl)
theorem dq_173 (h : bs c p [173] = true) : decode c p = .ok (.lreturn, 1) := dec_of (by unfold Decoder.instr; rw [rd_bind (rd_u1 h)]; rfl)
theorem dq_176 (h : bs c p [176] = true) : decode c p = .ok (.areturn, 1) := dec_of (by unfold Decoder.instr; rw [rd_bind (rd_u1 h)]; rfl)
theorem dq_177 (h : bs c p [177] = true) : decode c p = .ok (.return_, 1) := dec_of (by unfold Decoder.instr; rw [rd_bind (rd_u1 h)]; rfl)
theorem dq_190 (h : bs c p [190] = true) : decode c p = .ok (.arraylength, 1) := dec_of (by unfold Decoder.instr; rw [rd_bind (rd_u1 h)]; rfl)
theorem dq_191 (h : bs c p [191] = true) : decode c p = .ok (.athrow, 1) := dec_of (by unfold Decoder.instr; rw [rd_bind (rd_u1 h)]; rfl)
theorem dq_21 {a : Nat} (h : bs c p [21, a] = true) : decode c p = .ok (.iload a, 2) := dec_of (by unfold Decoder.instr; rw [rd_bind (rd_u1 h)]; exact rd_bind (f := fun x => pure (Instr.iload x)) (rd_u1 (bs_cons h).2))
theorem dq_22 {a : Nat} (h : bs c p [22, a] = true) : decode c p = .ok (.lload a, 2) := dec_of (by unfold Decoder.instr; rw [rd_bind (rd_u1 h)]; exact rd_bind (f := fun x => pure (Instr.lload x)) (rd_u1 (bs_cons h).2))
theorem dq_25 {a : Nat} (h : bs c p [25, a] = true) : decode c p = .ok (.aload a, 2) := dec_of (by unfold Decoder.instr; rw [rd_bind (rd_u1 h)]; exact rd_bind (f := fun x => pure (Instr.aload x)) (rd_u1 (bs_cons h).2))
theorem dq_54 {a : Nat} (h : bs c p [54, a] = true) : decode c p = .ok (.istore a, 2) := dec_of (by unfold Decoder.instr; rw [rd_bind (rd_u1 h)]; exact rd_bind (f := fun x => pure (Instr.istore x)) (rd_u1 (bs_cons h).2))
theorem dq_55 {a : Nat} (h : bs c p [55, a] = true) : decode c p = .ok (.lstore a, 2) := dec_of (by unfold Decoder.instr; rw [rd_bind (rd_u1 h)]; exact rd_bind (f := fun x => pure (Instr.lstore x)) (rd_u1 (bs_cons h).2))
theorem dq_58 {a : Nat} (h : bs c p [58, a] = true) : decode c p = .ok (.astore a, 2) := dec_of (by unfold Decoder.instr; rw [rd_bind (rd_u1 h)]; exact rd_bind (f := fun x => pure (Instr.astore x)) (rd_u1 (bs_cons h).2))
theorem dq_18 {a : Nat} (h : bs c p [18, a] = true) : decode c p = .ok (.ldc a, 2) := dec_of (by unfold Decoder.instr; rw [rd_bind (rd_u1 h)]; exact rd_bind (f := fun x => pure (Instr.ldc x)) (rd_u1 (bs_cons h).2))
theorem dq_16 {a : Nat} {i : Int} (h : bs c p [16, a] = true) (e : Reader.signed 8 a = i) : decode c p = .ok (.bipush i, 2) := by subst e; exact dec_of (by unfold Decoder.instr; rw [rd_bind (rd_u1 h)]; exact rd_bind (f := fun x => pure (Instr.bipush x)) (rd_s1 (bs_cons h).2))
theorem dq_19 {a b i : Nat} (h : bs c p [19, a, b] = true) (e : a * 256 + b = i) : decode c p = .ok (.ldc_w i, 3) := by subst e; exact dec_of (by unfold Decoder.instr; rw [rd_bind (rd_u1 h)]; exact rd_bind (f := fun x => pure (Instr.ldc_w x)) (rd_u2 (bs_cons h).2))
theorem dq_20 {a b i : Nat} (h : bs c p [20, a, b] = true) (e : a * 256 + b = i) : decode c p = .ok (.ldc2_w i, 3) := by subst e; exact dec_of (by unfold Decoder.instr; rw [rd_bind (rd_u1 h)]; exact rd_bind (f := fun x => pure (Instr.ldc2_w x)) (rd_u2 (bs_cons h).2))
theorem dq_178 {a b i : Nat} (h : bs c p [178, a, b] = true) (e : a * 256 + b = i) : decode c p = .ok (.getstatic i, 3) := by subst e; exact dec_of (by unfold Decoder.instr; rw [rd_bind (rd_u1 h)]; exact rd_bind (f := fun x => pure (Instr.getstatic x)) (rd_u2 (bs_cons h).2))
theorem dq_180 {a b i : Nat} (h : bs c p [180, a, b] = true) (e : a * 256 + b = i) : decode c p = .ok (.getfield i, 3) := by subst e; exact dec_of (by unfold Decoder.instr; rw [rd_bind (rd_u1 h)]; exact rd_bind (f := fun x => pure (Instr.getfield x)) (rd_u2 (bs_cons h).2))
theorem dq_181 {a b i : Nat} (h : bs c p [181, a, b] = true) (e : a * 256 + b = i) : decode c p = .ok (.putfield i, 3) := by subst e; exact dec_of (by unfold Decoder.instr; rw [rd_bind (rd_u1 h)]; exact rd_bind (f := fun x => pure (Instr.putfield x)) (rd_u2 (bs_cons h).2))
theorem dq_182 {a b i : Nat} (h : bs c p [182, a, b] = true) (e : a * 256 + b = i) : decode c p = .ok (.invokevirtual i, 3) := by subst e; exact dec_of (by unfold Decoder.instr; rw [rd_bind (rd_u1 h)]; exact rd_bind (f := fun x => pure (Instr.invokevirtual x)) (rd_u2 (bs_cons h).2))
theorem dq_183 {a b i : Nat} (h : bs c p [183, a, b] = true) (e : a * 256 + b = i) : decode c p = .ok (.invokespecial i, 3) := by subst e; exact dec_of (by unfold Decoder.instr; rw [rd_bind (rd_u1 h)]; exact rd_bind (f := fun x => pure (Instr.invokespecial x)) (rd_u2 (bs_cons h).2))
theorem dq_184 {a b i : Nat} (h : bs c p [184, a, b] = true) (e : a * 256 + b = i) : decode c p = .ok (.invokestatic i, 3) := by subst e; exact dec_of (by unfold Decoder.instr; rw [rd_bind (rd_u1 h)]; exact rd_bind (f := fun x => pure (Instr.invokestatic x)) (rd_u2 (bs_cons h).2))
theorem dq_187 {a b i : Nat} (h : bs c p [187, a, b] = true) (e : a * 256 + b = i) : decode c p = .ok (.new i, 3) := by subst e; exact dec_of (by unfold Decoder.instr; rw [rd_bind (rd_u1 h)]; exact rd_bind (f := fun x => pure (Instr.new x)) (rd_u2 (bs_cons h).2))
theorem dq_17 {a b : Nat} {i : Int} (h : bs c p [17, a, b] = true) (e : Reader.signed 16 (a * 256 + b) = i) : decode c p = .ok (.sipush i, 3) := by subst e; exact dec_of (by unfold Decoder.instr; rw [rd_bind (rd_u1 h)]; exact rd_bind (f := fun x => pure (Instr.sipush x)) (rd_s2 (bs_cons h).2))
theorem dq_167 {a b : Nat} {i : Int} (h : bs c p [167, a, b] = true) (e : Reader.signed 16 (a * 256 + b) = i) : decode c p = .ok (.goto i, 3) := by subst e; exact dec_of (by unfold Decoder.instr; rw [rd_bind (rd_u1 h)]; exact rd_bind (f := fun x => pure (Instr.goto x)) (rd_s2 (bs_cons h).2))
theorem dq_198 {a b : Nat} {i : Int} (h : bs c p [198, a, b] = true) (e : Reader.signed 16 (a * 256 + b) = i) : decode c p = .ok (.ifnull i, 3) := by subst e; exact dec_of (by unfold Decoder.instr; rw [rd_bind (rd_u1 h)]; exact rd_bind (f := fun x => pure (Instr.ifnull x)) (rd_s2 (bs_cons h).2))
theorem dq_199 {a b : Nat} {i : Int} (h : bs c p [199, a, b] = true) (e : Reader.signed 16 (a * 256 + b) = i) : decode c p = .ok (.ifnonnull i, 3) := by subst e; exact dec_of (by unfold Decoder.instr; rw [rd_bind (rd_u1 h)]; exact rd_bind (f := fun x => pure (Instr.ifnonnull x)) (rd_s2 (bs_cons h).2))
theorem dq_153 {a b : Nat} {i : Int} (h : bs c p [153, a, b] = true) (e : Reader.signed 16 (a * 256 + b) = i) : decode c p = .ok (.ifCond .eq i, 3) := by subst e; exact dec_of (by unfold Decoder.instr; rw [rd_bind (rd_u1 h)]; exact rd_bind (f := fun x => pure (Instr.ifCond .eq x)) (rd_s2 (bs_cons h).2))
theorem dq_159 {a b : Nat} {i : Int} (h : bs c p [159, a, b] = true) (e : Reader.signed 16 (a * 256 + b) = i) : decode c p = .ok (.if_icmp .eq i, 3) := by subst e; exact dec_of (by unfold Decoder.instr; rw [rd_bind (rd_u1 h)]; exact rd_bind (f := fun x => pure (Instr.if_icmp .eq x)) (rd_s2 (bs_cons h).2))
theorem dq_154 {a b : Nat} {i : Int} (h : bs c p [154, a, b] = true) (e : Reader.signed 16 (a * 256 + b) = i) : decode c p = .ok (.ifCond .ne i, 3) := by subst e; exact dec_of (by unfold Decoder.instr; rw [rd_bind (rd_u1 h)]; exact rd_bind (f := fun x => pure (Instr.ifCond .ne x)) (rd_s2 (bs_cons h).2))
theorem dq_160 {a b : Nat} {i : Int} (h : bs c p [160, a, b] = true) (e : Reader.signed 16 (a * 256 + b) = i) : decode c p = .ok (.if_icmp .ne i, 3) := by subst e; exact dec_of (by unfold Decoder.instr; rw [rd_bind (rd_u1 h)]; exact rd_bind (f := fun x => pure (Instr.if_icmp .ne x)) (rd_s2 (bs_cons h).2))
theorem dq_155 {a b : Nat} {i : Int} (h : bs c p [155, a, b] = true) (e : Reader.signed 16 (a * 256 + b) = i) : decode c p = .ok (.ifCond .lt i, 3) := by subst e; exact dec_of (by unfold Decoder.instr; rw [rd_bind (rd_u1 h)]; exact rd_bind (f := fun x => pure (Instr.ifCond .lt x)) (rd_s2 (bs_cons h).2))
theorem dq_161 {a b : Nat} {i : Int} (h : bs c p [161, a, b] = true) (e : Reader.signed 16 (a * 256 + b) = i) : decode c p = .ok (.if_icmp .lt i, 3) := by subst e; exact dec_of (by unfold Decoder.instr; rw [rd_bind (rd_u1 h)]; exact rd_bind (f := fun x => pure (Instr.if_icmp .lt x)) (rd_s2 (bs_cons h).2))
theorem dq_156 {a b : Nat} {i : Int} (h : bs c p [156, a, b] = true) (e : Reader.signed 16 (a * 256 + b) = i) : decode c p = .ok (.ifCond .ge i, 3) := by subst e; exact dec_of (by unfold Decoder.instr; rw [rd_bind (rd_u1 h)]; exact rd_bind (f := fun x => pure (Instr.ifCond .ge x)) (rd_s2 (bs_cons h).2))
theorem dq_162 {a b : Nat} {i : Int} (h : bs c p [162, a, b] = true) (e : Reader.signed 16 (a * 256 + b) = i) : decode c p = .ok (.if_icmp .ge i, 3) := by subst e; exact dec_of (by unfold Decoder.instr; rw [rd_bind (rd_u1 h)]; exact rd_bind (f := fun x => pure (Instr.if_icmp .ge x)) (rd_s2 (bs_cons h).2))
theorem dq_157 {a b : Nat} {i : Int} (h : bs c p [157, a, b] = true) (e : Reader.signed 16 (a * 256 + b) = i) : decode c p = .ok (.ifCond .gt i, 3) := by subst e; exact dec_of (by unfold Decoder.instr; rw [rd_bind (rd_u1 h)]; exact rd_bind (f := fun x => pure (Instr.ifCond .gt x)) (rd_s2 (bs_cons h).2))
theorem dq_163 {a b : Nat} {i : Int} (h : bs c p [163, a, b] = true) (e : Reader.signed 16 (a * 256 + b) = i) : decode c p = .ok (.if_icmp .gt i, 3) := by subst e; exact dec_of (by unfold Decoder.instr; rw [rd_bind (rd_u1 h)]; exact rd_bind (f := fun x => pure (Instr.if_icmp .gt x)) (rd_s2 (bs_cons h).2))
theorem dq_158 {a b : Nat} {i : Int} (h : bs c p [158, a, b] = true) (e : Reader.signed 16 (a * 256 + b) = i) : decode c p = .ok (.ifCond .le i, 3) := by subst e; exact dec_of (by unfold Decoder.instr; rw [rd_bind (rd_u1 h)]; exact rd_bind (f := fun x => pure (Instr.ifCond .le x)) (rd_s2 (bs_cons h).2))
theorem dq_164 {a b : Nat} {i : Int} (h : bs c p [164, a, b] = true) (e : Reader.signed 16 (a * 256 + b) = i) : decode c p = .ok (.if_icmp .le i, 3) := by subst e; exact dec_of (by unfold Decoder.instr; rw [rd_bind (rd_u1 h)]; exact rd_bind (f := fun x => pure (Instr.if_icmp .le x)) (rd_s2 (bs_cons h).2))
theorem dq_132 {a b : Nat} {i : Int} (h : bs c p [132, a, b] = true) (e : Reader.signed 8 b = i) : decode c p = .ok (.iinc a i, 3) := by subst e; exact dec_of (by unfold Decoder.instr; rw [rd_bind (rd_u1 h)]; exact (rd_bind (f := fun x => do pure (Instr.iinc x (← Reader.s1))) (rd_u1 (bs_cons h).2)).trans (rd_bind (f := fun y => pure (Instr.iinc a y)) (rd_s1 (bs_cons (bs_cons h).2).2)))
end DQ
