/-- the model's end() -/
theorem m9_end (d o : Nat) (n len : Int32) (ms : List Value) (w : ci_W) (ho : w o = some (.inr (9, ms))) (hl : ms[23]? = some (.int len)) :
    ci_Met (d + 1) (yX9_end, cX9_end, 3, some .int, [], 0, 0) [.ref (o + 1), .int n] w (fun r w' => (¬ (0 ≤ n ∧ n ≤ len) ∧ r = some (.int (-1)) ∧ w' = w) ∨ ((0 ≤ n ∧ n ≤ len) ∧ r = some (.int len) ∧ w' = ci_set w o (.inr (9, ms.set 23 (.int n))))) := by
  have e1 : ((0 : Int64) ≤ n.toInt64 ∧ n.toInt64 ≤ len.toInt64) ↔ (0 ≤ n ∧ n ≤ len) := by
    rw [Int64.le_iff_toInt_le, Int64.le_iff_toInt_le, ce_i2l, ce_i2l, Int32.le_iff_toInt_le, Int32.le_iff_toInt_le]
    show (0 ≤ n.toInt ∧ n.toInt ≤ len.toInt) ↔ (0 ≤ n.toInt ∧ n.toInt ≤ len.toInt)
    exact Iff.rfl
  refine ci_met (by decide) (Nat.le_of_ble_eq_true rfl) ?_ ?_
  · rintro r w' (⟨-, rfl, -⟩ | ⟨-, rfl, -⟩) <;> trivial
  · change ci_T _ _ _ _ _ _ ([(0, .ref (o + 1)), (1, .int n)], [], w) _
    refine ci_T.step cb_X9_end_0 (ci_sq rfl (ci_sq rfl (ci_sq rfl (ci_sq rfl (ci_sq (ce_getf ho hl) rfl))))) ?_
    refine ci_T.call (as := [.long n.toInt64, .long 0, .long len.toInt64]) (rest := []) kc_X9_in ki_X9_in (by decide) cl_X9_end_8 rfl (by decide) trivial (m_in d n.toInt64 0 len.toInt64 w) ?_
    intro v w' hcp
    obtain ⟨hv, hw⟩ := hcp
    subst hv
    rw [hw]
    refine ci_T.step cb_X9_end_11 rfl ?_
    refine ci_brn (fun c0 => ?_) (fun c0 => ?_)
    · have hn : 0 ≤ n ∧ n ≤ len := Classical.byContradiction (fun z => c0 (if_neg (fun q => z (e1.mp q))))
      refine ci_T.step cb_X9_end_16 (ci_sq rfl (ci_sq (ce_getf ho hl) (ci_sq rfl (ci_sq rfl (ci_sq rfl (ci_sq (ce_putf ho rfl (List.getElem?_eq_some_iff.mp hl).1) rfl)))))) ?_
      exact ci_T.done (v := some _) cd_X9_end_27 (Or.inr ⟨hn, rfl, rfl⟩)
    · have hn : ¬ (0 ≤ n ∧ n ≤ len) := fun z => by rw [if_pos (e1.mpr z)] at c0; exact absurd c0 (by decide)
      refine ci_T.step cb_X9_end_14 rfl ?_
      exact ci_T.done (v := some _) cd_X9_end_15 (Or.inl ⟨hn, rfl, rfl⟩)
/-- the model's sheet() -/
theorem m9_sheet (d o ql qs qv : Nat) (k lane n : Int32) (fl fs fv : Nat → Int32) (ms : List Value) (w : ci_W) (ho : w o = some (.inr (9, ms))) (hm1 : ms[42]? = some (.ref (ql + 1))) (hm2 : ms[43]? = some (.ref (qs + 1))) (hm3 : ms[44]? = some (.ref (qv + 1))) (h1 : w ql = some (.inl (.int, 4, fl))) (h2 : w qs = some (.inl (.int, 4, fs))) (h3 : w qv = some (.inl (.int, 160, fv))) (n01 : o ≠ ql) (n02 : o ≠ qs) (n03 : o ≠ qv) (n12 : ql ≠ qs) (n13 : ql ≠ qv) (n23 : qs ≠ qv) :
    ci_Met (d + 2) (yX9_sheet, cX9_sheet, 5, some .int, [], 0, 0) [.ref (o + 1), .int k, .int lane, .int n] w (fun v w' =>
      ((¬ (0 ≤ k ∧ k < 4) ∨ ¬ (0 ≤ lane ∧ lane < 3) ∨ 40 < n) ∧ v = some (.int (-1)) ∧ w' = w) ∨ ((0 ≤ k ∧ k < 4) ∧ (0 ≤ lane ∧ lane < 3) ∧ n < 0 ∧ v = some (.int (-14)) ∧ w' = w) ∨
      ((0 ≤ k ∧ k < 4) ∧ (0 ≤ lane ∧ lane < 3) ∧ 0 ≤ n ∧ n ≤ 40 ∧ v = some (.int 1) ∧ w' = ci_set (ci_set (ci_set w ql (.inl (.int, 4, upd fl k.toInt.toNat lane))) qs (.inl (.int, 4, upd fs k.toInt.toNat n))) qv (.inl (.int, 160, fun j => if 40 * k.toInt.toNat ≤ j ∧ j < 40 * k.toInt.toNat + 40 then 0 else fv j)))) := by
  refine ci_met (by decide) (Nat.le_of_ble_eq_true rfl) ?_ ?_
  · rintro v w' (⟨-, rfl, -⟩ | ⟨-, -, -, rfl, -⟩ | ⟨-, -, -, -, rfl, -⟩) <;> trivial
  · change ci_T _ _ _ _ _ _ ([(0, .ref (o + 1)), (1, .int k), (2, .int lane), (3, .int n)], [], w) _
    refine ci_T.step cb_X9_sheet_0 (ci_sq rfl rfl) ?_
    refine ci_T.call (as := [.int k, .int lane]) (rest := []) kc_X9_isSheet ki_X9_isSheet (by decide) cl_X9_sheet_2 rfl (by decide) trivial (m_isSheet d k lane w) ?_
    intro v w' hcp
    obtain ⟨hv, hw⟩ := hcp
    subst hv
    rw [hw]
    refine ci_T.step cb_X9_sheet_5 rfl ?_
    refine ci_br (fun c0 => ?_) (fun c0 => ?_)
    · have hn : ¬ ((0 ≤ k ∧ k < 4) ∧ (0 ≤ lane ∧ lane < 3)) := fun z => by rw [if_pos z] at c0; exact absurd c0 (by decide)
      refine ci_T.step cb_X9_sheet_14 rfl ?_
      refine ci_T.done (v := some _) cd_X9_sheet_15 (Or.inl ⟨?_, rfl, rfl⟩)
      by_cases hk : 0 ≤ k ∧ k < 4
      · exact Or.inr (Or.inl (fun z => hn ⟨hk, z⟩))
      · exact Or.inl hk
    · have hkl : (0 ≤ k ∧ k < 4) ∧ (0 ≤ lane ∧ lane < 3) := Classical.byContradiction (fun z => c0 (if_neg z))
      have hk0 : 0 ≤ k.toInt := Int32.le_iff_toInt_le.mp hkl.1.1
      have hk1 : k.toInt < 4 := Int32.lt_iff_toInt_lt.mp hkl.1.2
      refine ci_T.step cb_X9_sheet_8 (ci_sq rfl (ci_sq rfl rfl)) ?_
      refine ci_br (fun c2 => ?_) (fun c2 => ?_)
      · refine ci_T.step cb_X9_sheet_16 (ci_sq rfl rfl) ?_
        refine ci_br (fun c3 => ?_) (fun c3 => ?_)
        · refine ci_T.step cb_X9_sheet_23 (ci_sq rfl (ci_sq (ce_getf ho hm1) (ci_sq rfl (ci_sq rfl (ci_sq (ce_ast h1 hk0 hk1 rfl) (ci_sq rfl (ci_sq (ce_getf (by rw [ce_set_ne n01]; exact ho) hm2) (ci_sq rfl (ci_sq rfl (ci_sq (ce_ast (by rw [ce_set_ne n12.symm]; exact h2) hk0 hk1 rfl) (ci_sq rfl rfl))))))))))) ?_
          obtain ⟨w2, hw2⟩ : ∃ w2 : ci_W, w2 = ci_set (ci_set w ql (.inl (.int, 4, upd fl k.toInt.toNat lane))) qs (.inl (.int, 4, upd fs k.toInt.toNat n)) := ⟨_, rfl⟩
          have g0 : w2 o = some (.inr (9, ms)) := by rw [hw2, ce_set_ne n02, ce_set_ne n01]; exact ho
          have g3 : w2 qv = some (.inl (.int, 160, fv)) := by rw [hw2, ce_set_ne n23.symm, ce_set_ne n13.symm]; exact h3
          rw [← hw2]
          have loop : ∀ (m : Nat) (i : Int32), m ≤ 40 → i.toInt = 40 - (m : Int) → ci_T yX9_sheet cX9_sheet 5 (some .int) (d + 2) 40 ([(4, .int i), (0, .ref (o + 1)), (1, .int k), (2, .int lane), (3, .int n)], [], ci_set w2 qv (.inl (.int, 160, fun j => if 40 * k.toInt.toNat ≤ j ∧ j < 40 * k.toInt.toNat + i.toInt.toNat then 0 else fv j))) (fun v w' => v = some (.int 1) ∧ w' = ci_set w2 qv (.inl (.int, 160, fun j => if 40 * k.toInt.toNat ≤ j ∧ j < 40 * k.toInt.toNat + 40 then 0 else fv j))) := by
            intro m
            induction m with
            | zero =>
              intro i hm hi
              refine ci_T.step cb_X9_sheet_40 (ci_sq rfl (ci_sq rfl rfl)) ?_
              refine ci_br (fun _ => ?_) (fun hc => ?_)
              · have e : i.toInt.toNat = 40 := by omega
                rw [e]
                refine ci_T.step cb_X9_sheet_66 rfl ?_
                exact ci_T.done (v := some _) cd_X9_sheet_67 ⟨rfl, rfl⟩
              · exact absurd (Int32.le_iff_toInt_le.mpr (by rw [ce_40]; omega)) hc
            | succ m ih =>
              intro i hm hi
              refine ci_T.step cb_X9_sheet_40 (ci_sq rfl (ci_sq rfl rfl)) ?_
              refine ci_br (fun hc => ?_) (fun _ => ?_)
              · have := Int32.le_iff_toInt_le.mp hc
                rw [ce_40] at this
                omega
              · have em : (40 * k).toInt = 40 * k.toInt := ce_mul (by rw [ce_40]; omega) (by rw [ce_40]; omega)
                have ea : (40 * k + i).toInt = 40 * k.toInt + i.toInt := by rw [ce_add (by omega) (by omega), em]
                refine ci_T.step cb_X9_sheet_47 (ci_sq rfl (ci_sq (ce_getf (by rw [ce_set_ne n03]; exact g0) hm3) (ci_sq rfl (ci_sq rfl (ci_sq rfl (ci_sq rfl (ci_sq rfl (ci_sq rfl (ci_sq (ce_ast ce_set_same (by rw [ea]; omega) (by rw [ea]; omega) rfl) (ci_sq rfl rfl)))))))))) ?_
                have e1 : (i + Int32.ofInt 1).toInt = i.toInt + 1 := by
                  have e0 : (Int32.ofInt 1).toInt = 1 := by decide
                  rw [ce_add (by omega) (by omega), e0]
                have e2 : upd (fun j => if 40 * k.toInt.toNat ≤ j ∧ j < 40 * k.toInt.toNat + i.toInt.toNat then 0 else fv j) (40 * k + i).toInt.toNat 0 = fun j => if 40 * k.toInt.toNat ≤ j ∧ j < 40 * k.toInt.toNat + (i + Int32.ofInt 1).toInt.toNat then 0 else fv j := by
                  funext j
                  unfold upd
                  rw [ea, e1]
                  by_cases c1 : j = (40 * k.toInt + i.toInt).toNat
                  · rw [if_pos c1, if_pos (by omega)]
                  · rw [if_neg c1]
                    dsimp only
                    by_cases c2 : 40 * k.toInt.toNat ≤ j ∧ j < 40 * k.toInt.toNat + i.toInt.toNat
                    · rw [if_pos c2, if_pos (by omega)]
                    · rw [if_neg c2, if_neg (by omega)]
                rw [ce_set_set, e2]
                exact ih (i + Int32.ofInt 1) (by omega) (by omega)
          have start := loop 40 0 (Nat.le_refl _) (by decide)
          have e0 : (fun j => if 40 * k.toInt.toNat ≤ j ∧ j < 40 * k.toInt.toNat + (0 : Int32).toInt.toNat then 0 else fv j) = fv := by
            funext j
            rw [if_neg (by have : (0 : Int32).toInt.toNat = 0 := rfl; omega)]
          rw [e0, ce_set_id g3] at start
          exact start.mono (fun v w' h => Or.inr (Or.inr ⟨hkl.1, hkl.2, c3, c2, h.1, h.2⟩))
        · refine ci_T.step cb_X9_sheet_20 rfl ?_
          exact ci_T.done (v := some _) cd_X9_sheet_22 (Or.inr (Or.inl ⟨hkl.1, hkl.2, Int32.not_le.mp c3, rfl, rfl⟩))
      · refine ci_T.step cb_X9_sheet_14 rfl ?_
        exact ci_T.done (v := some _) cd_X9_sheet_15 (Or.inl ⟨Or.inr (Or.inr (Int32.not_le.mp c2)), rfl, rfl⟩)
