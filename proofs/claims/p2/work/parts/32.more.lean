theorem ce_l0 : (0 : Int64).toInt = 0 := rfl
/-- the model's isSheet() -/
theorem m_isSheet (d : Nat) (k lane : Int32) (w : ci_W) : ci_Met (d + 1) (yX9_isSheet, cX9_isSheet, 2, some .boolean, [], 0, 0) [.int k, .int lane] w (fun r w' => r = some (.int (if (0 ≤ k ∧ k < 4) ∧ (0 ≤ lane ∧ lane < 3) then 1 else 0)) ∧ w' = w) := by
  have e1 : ((0 : Int64) ≤ k.toInt64 ∧ k.toInt64 ≤ 3) ↔ (0 ≤ k ∧ k < 4) := by
    rw [Int64.le_iff_toInt_le, Int64.le_iff_toInt_le, ce_i2l, Int32.le_iff_toInt_le, Int32.lt_iff_toInt_lt]
    show (0 ≤ k.toInt ∧ k.toInt ≤ 3) ↔ (0 ≤ k.toInt ∧ k.toInt < 4)
    omega
  have e2 : ((0 : Int64) ≤ lane.toInt64 ∧ lane.toInt64 ≤ 2) ↔ (0 ≤ lane ∧ lane < 3) := by
    rw [Int64.le_iff_toInt_le, Int64.le_iff_toInt_le, ce_i2l, Int32.le_iff_toInt_le, Int32.lt_iff_toInt_lt]
    show (0 ≤ lane.toInt ∧ lane.toInt ≤ 2) ↔ (0 ≤ lane.toInt ∧ lane.toInt < 3)
    omega
  refine ci_met (by decide) (Nat.le_of_ble_eq_true rfl) ?_ ?_
  · rintro r w' ⟨rfl, rfl⟩
    exact ce_if01
  · change ci_T _ _ _ _ _ _ ([(0, .int k), (1, .int lane)], [], w) _
    refine ci_T.step cb_X9_isSheet_0 (ci_sq rfl (ci_sq rfl (ci_sq rfl rfl))) ?_
    refine ci_T.call (as := [.long k.toInt64, .long 0, .long 3]) (rest := []) kc_X9_in ki_X9_in (by decide) cl_X9_isSheet_6 rfl (by decide) trivial (m_in d k.toInt64 0 3 w) ?_
    intro v w' hcp
    obtain ⟨hv, hw⟩ := hcp
    subst hv
    rw [hw]
    refine ci_T.step cb_X9_isSheet_9 rfl ?_
    refine ci_br (fun c0 => ?_) (fun c0 => ?_)
    · have hn : ¬ (0 ≤ k ∧ k < 4) := fun z => by rw [if_pos (e1.mpr z)] at c0; exact absurd c0 (by decide)
      rw [if_neg (fun z => hn z.1)]
      refine ci_T.step cb_X9_isSheet_28 rfl ?_
      exact ci_T.done (v := some _) cd_X9_isSheet_29 ⟨rfl, rfl⟩
    · have hk : 0 ≤ k ∧ k < 4 := Classical.byContradiction (fun z => c0 (if_neg (fun q => z (e1.mp q))))
      refine ci_T.step cb_X9_isSheet_12 (ci_sq rfl (ci_sq rfl (ci_sq rfl rfl))) ?_
      refine ci_T.call (as := [.long lane.toInt64, .long 0, .long 2]) (rest := []) kc_X9_in ki_X9_in (by decide) cl_X9_isSheet_18 rfl (by decide) trivial (m_in d lane.toInt64 0 2 w) ?_
      intro v w' hcp
      obtain ⟨hv, hw⟩ := hcp
      subst hv
      rw [hw]
      refine ci_T.step cb_X9_isSheet_21 rfl ?_
      refine ci_br (fun c1 => ?_) (fun c1 => ?_)
      · have hn : ¬ (0 ≤ lane ∧ lane < 3) := fun z => by rw [if_pos (e2.mpr z)] at c1; exact absurd c1 (by decide)
        rw [if_neg (fun z => hn z.2)]
        refine ci_T.step cb_X9_isSheet_28 rfl ?_
        exact ci_T.done (v := some _) cd_X9_isSheet_29 ⟨rfl, rfl⟩
      · have hl : 0 ≤ lane ∧ lane < 3 := Classical.byContradiction (fun z => c1 (if_neg (fun q => z (e2.mp q))))
        rw [if_pos ⟨hk, hl⟩]
        refine ci_T.step cb_X9_isSheet_24 (ci_sq rfl rfl) ?_
        exact ci_T.done (v := some _) cd_X9_isSheet_29 ⟨rfl, rfl⟩
