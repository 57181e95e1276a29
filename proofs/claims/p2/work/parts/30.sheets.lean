theorem ce_if01 {P : Prop} {i : Decidable P} : (@ite Int32 P i 1 0) = 0 ∨ (@ite Int32 P i 1 0) = 1 := by
  by_cases h : P
  · rw [if_pos h]; exact Or.inr rfl
  · rw [if_neg h]; exact Or.inl rfl
theorem m_hasSheet (d q : Nat) (k : Int32) (w : ci_W) : ci_Met d (yX5_hasSheet, cX5_hasSheet, 2, some .boolean, [], 0, 0) [.ref (q + 1), .int k] w (fun v w' => v = some (.int (if 0 ≤ k ∧ k < 4 then 1 else 0)) ∧ w' = w) := by
  refine ci_met (by decide) (Nat.le_of_ble_eq_true rfl) ?_ ?_
  · rintro v w' ⟨rfl, rfl⟩
    exact ce_if01
  · change ci_T _ _ _ _ _ _ ([(0, .ref (q + 1)), (1, .int k)], [], w) _
    refine ci_T.step cb_X5_hasSheet_0 (ci_sq rfl rfl) ?_
    refine ci_br (fun h0 => ?_) (fun h0 => ?_)
    · rw [if_neg (fun z => Int32.not_lt.mpr z.1 h0)]
      refine ci_T.step cb_X5_hasSheet_13 rfl ?_
      exact ci_T.done (v := some _) cd_X5_hasSheet_14 ⟨rfl, rfl⟩
    · refine ci_T.step cb_X5_hasSheet_4 (ci_sq rfl (ci_sq rfl rfl)) ?_
      refine ci_br (fun h1 => ?_) (fun h1 => ?_)
      · rw [if_neg (fun z => Int32.not_lt.mpr h1 z.2)]
        refine ci_T.step cb_X5_hasSheet_13 rfl ?_
        exact ci_T.done (v := some _) cd_X5_hasSheet_14 ⟨rfl, rfl⟩
      · rw [if_pos ⟨Int32.not_lt.mp h0, Int32.not_le.mp h1⟩]
        refine ci_T.step cb_X5_hasSheet_9 (ci_sq rfl rfl) ?_
        exact ci_T.done (v := some _) cd_X5_hasSheet_14 ⟨rfl, rfl⟩
theorem m_hasLane (d q : Nat) (k : Int32) (w : ci_W) : ci_Met d (yX5_hasLane, cX5_hasLane, 2, some .boolean, [], 0, 0) [.ref (q + 1), .int k] w (fun v w' => v = some (.int (if 0 ≤ k ∧ k < 3 then 1 else 0)) ∧ w' = w) := by
  refine ci_met (by decide) (Nat.le_of_ble_eq_true rfl) ?_ ?_
  · rintro v w' ⟨rfl, rfl⟩
    exact ce_if01
  · change ci_T _ _ _ _ _ _ ([(0, .ref (q + 1)), (1, .int k)], [], w) _
    refine ci_T.step cb_X5_hasLane_0 (ci_sq rfl rfl) ?_
    refine ci_br (fun h0 => ?_) (fun h0 => ?_)
    · rw [if_neg (fun z => Int32.not_lt.mpr z.1 h0)]
      refine ci_T.step cb_X5_hasLane_13 rfl ?_
      exact ci_T.done (v := some _) cd_X5_hasLane_14 ⟨rfl, rfl⟩
    · refine ci_T.step cb_X5_hasLane_4 (ci_sq rfl (ci_sq rfl rfl)) ?_
      refine ci_br (fun h1 => ?_) (fun h1 => ?_)
      · rw [if_neg (fun z => Int32.not_lt.mpr h1 z.2)]
        refine ci_T.step cb_X5_hasLane_13 rfl ?_
        exact ci_T.done (v := some _) cd_X5_hasLane_14 ⟨rfl, rfl⟩
      · rw [if_pos ⟨Int32.not_lt.mp h0, Int32.not_le.mp h1⟩]
        refine ci_T.step cb_X5_hasLane_9 (ci_sq rfl rfl) ?_
        exact ci_T.done (v := some _) cd_X5_hasLane_14 ⟨rfl, rfl⟩
theorem m_reachFault (d q ql qs qv : Nat) (k i : Int32) (fs : Nat → Int32) (w : ci_W) (h0 : w q = some (.inr (5, [.ref (ql + 1), .ref (qs + 1), .ref (qv + 1)]))) (h2 : w qs = some (.inl (.int, 4, fs))) (hk0 : 0 ≤ k.toInt) (hk1 : k.toInt < 4) :
    ci_Met d (yX5_reachFault, cX5_reachFault, 3, some .int, [], 0, 0) [.ref (q + 1), .int k, .int i] w (fun v w' => v = some (.int (if fs k.toInt.toNat < 0 then 1 else if i < 0 ∨ fs k.toInt.toNat ≤ i then 2 else 0)) ∧ w' = w) := by
  refine ci_met (by decide) (Nat.le_of_ble_eq_true rfl) ?_ ?_
  · rintro v w' ⟨rfl, rfl⟩
    trivial
  · change ci_T _ _ _ _ _ _ ([(0, .ref (q + 1)), (1, .int k), (2, .int i)], [], w) _
    refine ci_T.step cb_X5_reachFault_0 (ci_sq rfl (ci_sq (ce_getf h0 rfl) (ci_sq rfl (ci_sq (ce_ald h2 hk0 hk1) rfl)))) ?_
    refine ci_br (fun c0 => ?_) (fun c0 => ?_)
    · rw [if_neg (Int32.not_lt.mpr c0)]
      refine ci_T.step cb_X5_reachFault_11 (ci_sq rfl rfl) ?_
      refine ci_br (fun c1 => ?_) (fun c1 => ?_)
      · rw [if_pos (Or.inl c1)]
        refine ci_T.step cb_X5_reachFault_25 (ci_sq rfl rfl) ?_
        exact ci_T.done (v := some _) cd_X5_reachFault_30 ⟨rfl, rfl⟩
      · refine ci_T.step cb_X5_reachFault_15 (ci_sq rfl (ci_sq rfl (ci_sq (ce_getf h0 rfl) (ci_sq rfl (ci_sq (ce_ald h2 hk0 hk1) rfl))))) ?_
        refine ci_br (fun c2 => ?_) (fun c2 => ?_)
        · rw [if_neg (fun z => z.elim c1 (fun z => Int32.not_lt.mpr z c2))]
          refine ci_T.step cb_X5_reachFault_29 rfl ?_
          exact ci_T.done (v := some _) cd_X5_reachFault_30 ⟨rfl, rfl⟩
        · rw [if_pos (Or.inr (Int32.not_lt.mp c2))]
          refine ci_T.step cb_X5_reachFault_25 (ci_sq rfl rfl) ?_
          exact ci_T.done (v := some _) cd_X5_reachFault_30 ⟨rfl, rfl⟩
    · rw [if_pos (Int32.not_le.mp c0)]
      refine ci_T.step cb_X5_reachFault_9 rfl ?_
      exact ci_T.done (v := some _) cd_X5_reachFault_10 ⟨rfl, rfl⟩
theorem m_valueAt (d q ql qs qv : Nat) (k i : Int32) (fv : Nat → Int32) (w : ci_W) (h0 : w q = some (.inr (5, [.ref (ql + 1), .ref (qs + 1), .ref (qv + 1)]))) (h3 : w qv = some (.inl (.int, 160, fv))) (hk0 : 0 ≤ k.toInt) (hk1 : k.toInt < 4) (hi0 : 0 ≤ i.toInt) (hi1 : i.toInt < 40) :
    ci_Met d (yX5_valueAt, cX5_valueAt, 3, some .int, [], 0, 0) [.ref (q + 1), .int k, .int i] w (fun v w' => v = some (.int (fv (40 * k.toInt.toNat + i.toInt.toNat))) ∧ w' = w) := by
  refine ci_met (by decide) (Nat.le_of_ble_eq_true rfl) ?_ ?_
  · rintro v w' ⟨rfl, rfl⟩
    trivial
  · change ci_T _ _ _ _ _ _ ([(0, .ref (q + 1)), (1, .int k), (2, .int i)], [], w) _
    have em : (k * 40).toInt = k.toInt * 40 := ce_mul (by rw [ce_40]; omega) (by rw [ce_40]; omega)
    have ea : (k * 40 + i).toInt = k.toInt * 40 + i.toInt := by rw [ce_add (by omega) (by omega), em]
    refine ci_T.step cb_X5_valueAt_0 (ci_sq rfl (ci_sq (ce_getf h0 rfl) (ci_sq rfl (ci_sq rfl (ci_sq rfl (ci_sq rfl (ci_sq rfl (ce_ald h3 (by rw [ea]; omega) (by rw [ea]; omega))))))))) ?_
    have e : (k * 40 + i).toInt.toNat = 40 * k.toInt.toNat + i.toInt.toNat := by rw [ea]; omega
    rw [e]
    exact ci_T.done (v := some _) cd_X5_valueAt_11 ⟨rfl, rfl⟩
/-- the class's own sheet(): what it answers, what becomes of the sheets -/
theorem m_sheet (d q ql qs qv o : Nat) (k lane n : Int32) (fl fs fv : Nat → Int32) (w : ci_W) (os : List Value) (ho : w o = some (.inr (8, os))) (hos : os[9]? = some (.ref (q + 1))) (h0 : w q = some (.inr (5, [.ref (ql + 1), .ref (qs + 1), .ref (qv + 1)]))) (h1 : w ql = some (.inl (.int, 4, fl))) (h2 : w qs = some (.inl (.int, 4, fs))) (h3 : w qv = some (.inl (.int, 160, fv))) (n01 : q ≠ ql) (n02 : q ≠ qs) (n03 : q ≠ qv) (n12 : ql ≠ qs) (n13 : ql ≠ qv) (n23 : qs ≠ qv) :
    ci_Met (d + 1) (yX8_sheet, cX8_sheet, 4, some .int, [], 0, 0) [.ref (o + 1), .int k, .int lane, .int n] w (fun v w' =>
      ((¬ (0 ≤ k ∧ k < 4) ∨ ¬ (0 ≤ lane ∧ lane < 3) ∨ 40 < n) ∧ v = some (.int (-1)) ∧ w' = w) ∨ ((0 ≤ k ∧ k < 4) ∧ (0 ≤ lane ∧ lane < 3) ∧ n < 0 ∧ v = some (.int (-14)) ∧ w' = w) ∨
      ((0 ≤ k ∧ k < 4) ∧ (0 ≤ lane ∧ lane < 3) ∧ 0 ≤ n ∧ n ≤ 40 ∧ v = some (.int 1) ∧ w' = ci_set (ci_set (ci_set w ql (.inl (.int, 4, upd fl k.toInt.toNat lane))) qs (.inl (.int, 4, upd fs k.toInt.toNat n))) qv (.inl (.int, 160, fun j => if 40 * k.toInt.toNat ≤ j ∧ j < 40 * k.toInt.toNat + 40 then 0 else fv j)))) := by
  refine ci_met (by decide) (Nat.le_of_ble_eq_true rfl) ?_ ?_
  · rintro v w' (⟨-, rfl, -⟩ | ⟨-, -, -, rfl, -⟩ | ⟨-, -, -, -, rfl, -⟩) <;> trivial
  · change ci_T _ _ _ _ _ _ ([(0, .ref (o + 1)), (1, .int k), (2, .int lane), (3, .int n)], [], w) _
    refine ci_T.step cb_X8_sheet_0 (ci_sq rfl (ci_sq (ce_getf ho hos) rfl)) ?_
    refine ci_T.call (as := [.ref (q + 1), .int k]) (rest := []) kc_X5_hasSheet ki_X5_hasSheet (by decide) cl_X8_sheet_5 rfl (by decide) ⟨⟨_, rfl⟩, q, _, _, rfl, h0⟩ (m_hasSheet d q k w) ?_
    intro v w' hcp
    obtain ⟨hv, hw⟩ := hcp
    subst hv
    rw [hw]
    refine ci_T.step cb_X8_sheet_8 rfl ?_
    refine ci_br (fun c0 => ?_) (fun c0 => ?_)
    · have hn : ¬ (0 ≤ k ∧ k < 4) := fun z => by rw [if_pos z] at c0; exact absurd c0 (by decide)
      refine ci_T.step cb_X8_sheet_28 rfl ?_
      exact ci_T.done (v := some _) cd_X8_sheet_29 (Or.inl ⟨Or.inl hn, rfl, rfl⟩)
    · have hk : 0 ≤ k ∧ k < 4 := Classical.byContradiction (fun z => c0 (if_neg z))
      refine ci_T.step cb_X8_sheet_11 (ci_sq rfl (ci_sq (ce_getf ho hos) rfl)) ?_
      refine ci_T.call (as := [.ref (q + 1), .int lane]) (rest := []) kc_X5_hasLane ki_X5_hasLane (by decide) cl_X8_sheet_16 rfl (by decide) ⟨⟨_, rfl⟩, q, _, _, rfl, h0⟩ (m_hasLane d q lane w) ?_
      intro v w' hcp
      obtain ⟨hv, hw⟩ := hcp
      subst hv
      rw [hw]
      refine ci_T.step cb_X8_sheet_19 rfl ?_
      refine ci_br (fun c1 => ?_) (fun c1 => ?_)
      · have hn : ¬ (0 ≤ lane ∧ lane < 3) := fun z => by rw [if_pos z] at c1; exact absurd c1 (by decide)
        refine ci_T.step cb_X8_sheet_28 rfl ?_
        exact ci_T.done (v := some _) cd_X8_sheet_29 (Or.inl ⟨Or.inr (Or.inl hn), rfl, rfl⟩)
      · have hl : 0 ≤ lane ∧ lane < 3 := Classical.byContradiction (fun z => c1 (if_neg z))
        refine ci_T.step cb_X8_sheet_22 (ci_sq rfl (ci_sq rfl rfl)) ?_
        refine ci_br (fun c2 => ?_) (fun c2 => ?_)
        · refine ci_T.step cb_X8_sheet_30 (ci_sq rfl rfl) ?_
          refine ci_br (fun c3 => ?_) (fun c3 => ?_)
          · refine ci_T.step cb_X8_sheet_37 (ci_sq rfl (ci_sq (ce_getf ho hos) (ci_sq rfl (ci_sq rfl rfl)))) ?_
            have hk0 : 0 ≤ k.toInt := Int32.le_iff_toInt_le.mp hk.1
            have hk1 : k.toInt < 4 := Int32.lt_iff_toInt_lt.mp hk.2
            refine ci_T.call (as := [.ref (q + 1), .int k, .int lane, .int n]) (rest := []) kc_X5_renew ki_X5_renew (by decide) cl_X8_sheet_44 rfl (by decide) ⟨⟨_, rfl⟩, q, _, _, rfl, h0⟩ (m_renew d q ql qs qv k lane n fl fs fv w h0 h1 h2 h3 n01 n02 n03 n12 n13 n23 hk0 hk1) ?_
            intro v w' hcp
            obtain ⟨hv, hw⟩ := hcp
            subst hv
            rw [hw]
            refine ci_T.step cb_X8_sheet_47 rfl ?_
            exact ci_T.done (v := some _) cd_X8_sheet_48 (Or.inr (Or.inr ⟨hk, hl, c3, c2, rfl, rfl⟩))
          · refine ci_T.step cb_X8_sheet_34 rfl ?_
            exact ci_T.done (v := some _) cd_X8_sheet_36 (Or.inr (Or.inl ⟨hk, hl, Int32.not_le.mp c3, rfl, rfl⟩))
        · refine ci_T.step cb_X8_sheet_28 rfl ?_
          exact ci_T.done (v := some _) cd_X8_sheet_29 (Or.inl ⟨Or.inr (Or.inr (Int32.not_le.mp c2)), rfl, rfl⟩)
