/-! a block's run, instruction by instruction: rfl, or one of these -/
theorem ci_sq {f g : ci_F} {pc2 : Nat} {s s1 : ci_S} {r : Option (Nat × ci_S)} (h1 : f s = some (pc2, s1)) (h2 : g s1 = r) : ci_seq f pc2 g s = r := by
  unfold ci_seq
  rw [h1]
  dsimp only
  rw [Nat.beq_refl]
  exact h2
theorem ce_getf {ci k nx q : Nat} {lc : ci_L} {sk : List Value} {w : ci_W} {vs : List Value} {v : Value} (h : w q = some (.inr (ci, vs))) (hv : vs[k]? = some v) : ci_getf ci k nx (lc, .ref (q + 1) :: sk, w) = some (nx, lc, v :: sk, w) := by
  unfold ci_getf
  dsimp only
  rw [h]
  dsimp only
  rw [Nat.beq_refl]
  dsimp only [cond_true]
  rw [hv]
theorem ce_putf {ci k nx q : Nat} {ty : FieldType} {lc : ci_L} {sk : List Value} {w : ci_W} {vs : List Value} {v : Value} (h : w q = some (.inr (ci, vs))) (hf : ci_fit ty v = true) (hk : k < vs.length) : ci_putf ci k ty nx (lc, v :: .ref (q + 1) :: sk, w) = some (nx, lc, sk, ci_set w q (.inr (ci, vs.set k v))) := by
  unfold ci_putf
  dsimp only
  rw [h]
  dsimp only
  have hb : Nat.blt k vs.length = true := Nat.ble_eq_true_of_le hk
  rw [Nat.beq_refl, hf, hb]
  rfl
theorem ce_ald {ty : FieldType} {nx q n : Nat} {i : Int32} {f : Nat → Int32} {lc : ci_L} {sk : List Value} {w : ci_W} (h : w q = some (.inl (ty, n, f))) (h1 : 0 ≤ i.toInt) (h2 : i.toInt < (n : Int)) : ci_ald ty nx (lc, .int i :: .ref (q + 1) :: sk, w) = some (nx, lc, .int (f i.toInt.toNat) :: sk, w) := by
  unfold ci_ald
  dsimp only
  rw [h]
  dsimp only
  rw [if_pos ⟨rfl, h1, h2⟩]
theorem ce_ast {ty : FieldType} {nx q n : Nat} {i x : Int32} {f : Nat → Int32} {lc : ci_L} {sk : List Value} {w : ci_W} (h : w q = some (.inl (ty, n, f))) (h1 : 0 ≤ i.toInt) (h2 : i.toInt < (n : Int)) (h3 : ci_afit ty x = true) : ci_ast ty nx (lc, .int x :: .int i :: .ref (q + 1) :: sk, w) = some (nx, lc, sk, ci_set w q (.inl (ty, n, upd f i.toInt.toNat x))) := by
  unfold ci_ast
  dsimp only
  rw [h]
  dsimp only
  rw [if_pos ⟨rfl, h1, h2, h3⟩]
theorem ce_set_same {w : ci_W} {q : Nat} {c : ci_C} : ci_set w q c q = some c := by
  unfold ci_set
  rw [if_pos rfl]
theorem ce_set_ne {w : ci_W} {q q' : Nat} {c : ci_C} (h : q' ≠ q) : ci_set w q c q' = w q' := by
  unfold ci_set
  rw [if_neg h]
