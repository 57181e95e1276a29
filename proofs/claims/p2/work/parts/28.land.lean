theorem m_has (d : Nat) (bits c : Int32) (w : ci_W) : ci_Met d (yX8_has, cX8_has, 2, some .boolean, [], 0, 0) [.int bits, .int c] w (fun v w' => v = some (.int (if (bits >>> (c &&& 31)) &&& 1 = 0 then 0 else 1)) ∧ w' = w) := by
  refine ci_met (by decide) (Nat.le_of_ble_eq_true rfl) ?_ ?_
  · rintro v w' ⟨rfl, rfl⟩
    by_cases h : (bits >>> (c &&& 31)) &&& 1 = 0
    · rw [if_pos h]; exact Or.inl rfl
    · rw [if_neg h]; exact Or.inr rfl
  · refine ci_T.step cb_X8_has_0 rfl ?_
    by_cases h : (bits >>> (c &&& 31)) &&& 1 = 0
    · rw [if_pos h]
      simp only [h]
      refine ci_T.step cb_X8_has_12 rfl ?_
      exact ci_T.done (v := some _) cd_X8_has_13 ⟨rfl, rfl⟩
    · rw [if_neg h]
      simp only [h]
      refine ci_T.step cb_X8_has_8 rfl ?_
      exact ci_T.done (v := some _) cd_X8_has_13 ⟨rfl, rfl⟩
theorem m_hasCell (d q : Nat) (c wd hg fm : Int32) (g0 g1 : Value) (w : ci_W) (hq : w q = some (.inr (3, [g0, g1, .int wd, .int hg, .int fm]))) : ci_Met d (yX3_hasCell, cX3_hasCell, 2, some .boolean, [], 0, 0) [.ref (q + 1), .int c] w (fun v w' => v = some (.int (if 0 ≤ c ∧ c < wd * hg then 1 else 0)) ∧ w' = w) := by
  refine ci_met (by decide) (Nat.le_of_ble_eq_true rfl) ?_ ?_
  · rintro v w' ⟨rfl, rfl⟩
    by_cases h : 0 ≤ c ∧ c < wd * hg
    · rw [if_pos h]; exact Or.inr rfl
    · rw [if_neg h]; exact Or.inl rfl
  · change ci_T _ _ _ _ _ _ ([(0, .ref (q + 1)), (1, .int c)], [], w) _
    refine ci_T.step cb_X3_hasCell_0 (ci_sq rfl rfl) ?_
    dsimp only
    by_cases h0 : c < 0
    · rw [decide_eq_true h0, if_neg (fun z => Int32.not_lt.mpr z.1 h0)]
      refine ci_T.step cb_X3_hasCell_21 rfl ?_
      exact ci_T.done (v := some _) cd_X3_hasCell_22 ⟨rfl, rfl⟩
    · rw [decide_eq_false h0]
      refine ci_T.step cb_X3_hasCell_4 (ci_sq rfl (ci_sq rfl (ci_sq (ce_getf hq rfl) (ci_sq rfl (ci_sq (ce_getf hq rfl) (ci_sq rfl rfl)))))) ?_
      dsimp only
      by_cases h1 : wd * hg ≤ c
      · rw [decide_eq_true h1, if_neg (fun z => Int32.not_lt.mpr h1 z.2)]
        refine ci_T.step cb_X3_hasCell_21 rfl ?_
        exact ci_T.done (v := some _) cd_X3_hasCell_22 ⟨rfl, rfl⟩
      · rw [decide_eq_false h1, if_pos ⟨Int32.not_lt.mp h0, Int32.not_le.mp h1⟩]
        refine ci_T.step cb_X3_hasCell_17 (ci_sq rfl rfl) ?_
        exact ci_T.done (v := some _) cd_X3_hasCell_22 ⟨rfl, rfl⟩
/-- a branch -/
theorem ci_br {y : MethodName} {cc : ByteArray} {nL : Nat} {ret : Option FieldType} {d tg nx : Nat} {st : ci_S} {Post : Option Value → ci_W → Prop} {P : Prop} {i : Decidable P} (h1 : P → ci_T y cc nL ret d tg st Post) (h2 : ¬ P → ci_T y cc nL ret d nx st Post) : ci_T y cc nL ret d (bif @decide P i then tg else nx) st Post := by
  by_cases h : P
  · rw [@decide_eq_true P i h]; exact h1 h
  · rw [@decide_eq_false P i h]; exact h2 h
theorem ci_brn {y : MethodName} {cc : ByteArray} {nL : Nat} {ret : Option FieldType} {d tg nx : Nat} {st : ci_S} {Post : Option Value → ci_W → Prop} {P : Prop} {i : Decidable P} (h1 : ¬ P → ci_T y cc nL ret d tg st Post) (h2 : P → ci_T y cc nL ret d nx st Post) : ci_T y cc nL ret d (bif !@decide P i then tg else nx) st Post := by
  by_cases h : P
  · rw [@decide_eq_true P i h]; exact h2 h
  · rw [@decide_eq_false P i h]; exact h1 h
theorem m_hasFarm (d q : Nat) (f wd hg fm : Int32) (g0 g1 : Value) (w : ci_W) (hq : w q = some (.inr (3, [g0, g1, .int wd, .int hg, .int fm]))) : ci_Met d (yX3_hasFarm, cX3_hasFarm, 2, some .boolean, [], 0, 0) [.ref (q + 1), .int f] w (fun v w' => v = some (.int (if 0 ≤ f ∧ f < fm then 1 else 0)) ∧ w' = w) := by
  refine ci_met (by decide) (Nat.le_of_ble_eq_true rfl) ?_ ?_
  · rintro v w' ⟨rfl, rfl⟩
    by_cases h : 0 ≤ f ∧ f < fm
    · rw [if_pos h]; exact Or.inr rfl
    · rw [if_neg h]; exact Or.inl rfl
  · change ci_T _ _ _ _ _ _ ([(0, .ref (q + 1)), (1, .int f)], [], w) _
    refine ci_T.step cb_X3_hasFarm_0 (ci_sq rfl rfl) ?_
    refine ci_br (fun h0 => ?_) (fun h0 => ?_)
    · rw [if_neg (fun z => Int32.not_lt.mpr z.1 h0)]
      refine ci_T.step cb_X3_hasFarm_16 rfl ?_
      exact ci_T.done (v := some _) cd_X3_hasFarm_17 ⟨rfl, rfl⟩
    · refine ci_T.step cb_X3_hasFarm_4 (ci_sq rfl (ci_sq rfl (ci_sq (ce_getf hq rfl) rfl))) ?_
      refine ci_br (fun h1 => ?_) (fun h1 => ?_)
      · rw [if_neg (fun z => Int32.not_lt.mpr h1 z.2)]
        refine ci_T.step cb_X3_hasFarm_16 rfl ?_
        exact ci_T.done (v := some _) cd_X3_hasFarm_17 ⟨rfl, rfl⟩
      · rw [if_pos ⟨Int32.not_lt.mp h0, Int32.not_le.mp h1⟩]
        refine ci_T.step cb_X3_hasFarm_12 (ci_sq rfl rfl) ?_
        exact ci_T.done (v := some _) cd_X3_hasFarm_17 ⟨rfl, rfl⟩
