/-- the model's in(): from low to high -/
theorem m_in (d : Nat) (v lo hi : Int64) (w : ci_W) : ci_Met d (yX9_in, cX9_in, 6, some .boolean, [], 0, 0) [.long v, .long lo, .long hi] w (fun r w' => r = some (.int (if lo ≤ v ∧ v ≤ hi then 1 else 0)) ∧ w' = w) := by
  refine ci_met (by decide) (Nat.le_of_ble_eq_true rfl) ?_ ?_
  · rintro r w' ⟨rfl, rfl⟩
    exact ce_if01
  · change ci_T _ _ _ _ _ _ ([(0, .long v), (2, .long lo), (4, .long hi)], [], w) _
    refine ci_T.step cb_X9_in_0 (ci_sq rfl (ci_sq rfl (ci_sq rfl rfl))) ?_
    refine ci_br (fun h0 => ?_) (fun h0 => ?_)
    · rw [if_neg (fun z => Int32.not_lt.mpr ((lg_cmp_ge v lo).mpr z.1) h0)]
      refine ci_T.step cb_X9_in_17 rfl ?_
      exact ci_T.done (v := some _) cd_X9_in_18 ⟨rfl, rfl⟩
    · refine ci_T.step cb_X9_in_6 (ci_sq rfl (ci_sq rfl (ci_sq rfl rfl))) ?_
      refine ci_br (fun h1 => ?_) (fun h1 => ?_)
      · rw [if_neg (fun z => Int32.not_lt.mpr ((lg_cmp_le v hi).mpr z.2) h1)]
        refine ci_T.step cb_X9_in_17 rfl ?_
        exact ci_T.done (v := some _) cd_X9_in_18 ⟨rfl, rfl⟩
      · rw [if_pos ⟨(lg_cmp_ge v lo).mp (Int32.not_lt.mp h0), (lg_cmp_le v hi).mp (Int32.not_lt.mp h1)⟩]
        refine ci_T.step cb_X9_in_13 (ci_sq rfl rfl) ?_
        exact ci_T.done (v := some _) cd_X9_in_18 ⟨rfl, rfl⟩
theorem m_flag (d : Nat) (b : Int32) (w : ci_W) : ci_Met d (yX9_flag, cX9_flag, 1, some .int, [], 0, 0) [.int b] w (fun r w' => r = some (.int (if b = 0 then 0 else 1)) ∧ w' = w) := by
  refine ci_met (by decide) (Nat.le_of_ble_eq_true rfl) ?_ ?_
  · rintro r w' ⟨rfl, rfl⟩
    trivial
  · change ci_T _ _ _ _ _ _ ([(0, .int b)], [], w) _
    refine ci_T.step cb_X9_flag_0 (ci_sq rfl rfl) ?_
    refine ci_br (fun h0 => ?_) (fun h0 => ?_)
    · rw [if_pos h0]
      refine ci_T.step cb_X9_flag_8 rfl ?_
      exact ci_T.done (v := some _) cd_X9_flag_9 ⟨rfl, rfl⟩
    · rw [if_neg h0]
      refine ci_T.step cb_X9_flag_4 (ci_sq rfl rfl) ?_
      exact ci_T.done (v := some _) cd_X9_flag_9 ⟨rfl, rfl⟩
theorem ce_i2l (x : Int32) : x.toInt64.toInt = x.toInt := Int32.toInt_toInt64 x
/-- ints as longs: the same order -/
theorem ce_le64 {a b : Int32} : a.toInt64 ≤ b.toInt64 ↔ a ≤ b := by
  rw [Int64.le_iff_toInt_le, ce_i2l, ce_i2l, Int32.le_iff_toInt_le]
/-- the class's end(): the tape's length alone -/
theorem m_end (d o q : Nat) (n len : Int32) (os : List Value) (bs : Value) (t2 t3 t4 t5 t6 t7 : Value) (w : ci_W) (ho : w o = some (.inr (8, os))) (hos : os[7]? = some (.ref (q + 1))) (h0 : w q = some (.inr (6, [bs, .int len, t2, t3, t4, t5, t6, t7]))) :
    ci_Met d (yX8_end, cX8_end, 3, some .int, [], 0, 0) [.ref (o + 1), .int n] w (fun r w' => (¬ (0 ≤ n ∧ n ≤ len) ∧ r = some (.int (-1)) ∧ w' = w) ∨ ((0 ≤ n ∧ n ≤ len) ∧ r = some (.int len) ∧ w' = ci_set w q (.inr (6, [bs, .int n, t2, t3, t4, t5, t6, t7])))) := by
  refine ci_met (by decide) (Nat.le_of_ble_eq_true rfl) ?_ ?_
  · rintro r w' (⟨-, rfl, -⟩ | ⟨-, rfl, -⟩) <;> trivial
  · change ci_T _ _ _ _ _ _ ([(0, .ref (o + 1)), (1, .int n)], [], w) _
    refine ci_T.step cb_X8_end_0 (ci_sq rfl rfl) ?_
    refine ci_br (fun c0 => ?_) (fun c0 => ?_)
    · refine ci_T.step cb_X8_end_15 rfl ?_
      exact ci_T.done (v := some _) cd_X8_end_16 (Or.inl ⟨fun z => Int32.not_lt.mpr z.1 c0, rfl, rfl⟩)
    · refine ci_T.step cb_X8_end_4 (ci_sq rfl (ci_sq rfl (ci_sq (ce_getf ho hos) (ci_sq (ce_getf h0 rfl) rfl)))) ?_
      refine ci_br (fun c1 => ?_) (fun c1 => ?_)
      · refine ci_T.step cb_X8_end_17 (ci_sq rfl (ci_sq (ce_getf ho hos) (ci_sq (ce_getf h0 rfl) (ci_sq rfl (ci_sq rfl (ci_sq (ce_getf ho hos) (ci_sq rfl (ci_sq (ce_putf h0 rfl (Nat.le_of_ble_eq_true rfl)) rfl)))))))) ?_
        exact ci_T.done (v := some _) cd_X8_end_34 (Or.inr ⟨⟨Int32.not_lt.mp c0, c1⟩, rfl, rfl⟩)
      · refine ci_T.step cb_X8_end_15 rfl ?_
        exact ci_T.done (v := some _) cd_X8_end_16 (Or.inl ⟨fun z => c1 z.2, rfl, rfl⟩)
