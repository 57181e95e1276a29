theorem s_X8_imageOf (d : Nat) {ρ : pm} (o : pm) {x : Int} (hx : inR x) : ci_Met d (yX8_imageOf, cX8_imageOf, 2, (some (.object "RiverDiggers$Times")), [], 0, 0) [.ref 1, .int (Int32.ofInt x)] (pk true ρ o) (fun v w' => v = some (if x = 0 then .ref 12 else .ref 19) ∧ w' = pk true ρ o) := by
  refine ci_met (by decide) (Nat.le_of_ble_eq_true rfl) ?_ ?_
  · rintro v w' ⟨rfl, rfl⟩
    by_cases c : x = 0
    · rw [if_pos c]; trivial
    · rw [if_neg c]; trivial
  · change ci_T _ _ _ _ _ _ ([(0, .ref 1), (1, .int (Int32.ofInt x))], [], pk true ρ o) _
    refine ci_T.step cb_X8_imageOf_0 (ci_sq rfl (pe_if_ne hx)) ?_
    by_cases c : x = 0
    · rw [decide_eq_true c, if_pos c]
      refine ci_T.step cb_X8_imageOf_4 (ci_sq rfl (ci_sq (pe_getR tq_0 rfl rfl) rfl)) ?_
      exact ci_T.done (v := some _) cd_X8_imageOf_15 ⟨rfl, rfl⟩
    · rw [decide_eq_false c, if_neg c]
      refine ci_T.step cb_X8_imageOf_11 (ci_sq rfl (pe_getR tq_0 rfl rfl)) ?_
      exact ci_T.done (v := some _) cd_X8_imageOf_15 ⟨rfl, rfl⟩
def f_X0_cutOf (l1 : Int) (ρ : pm) : Option Int := ck (inR l1) (if l1 ≤ 0 then some (ρ 34 2) else if l1 ≤ 0 + 1 then some (ρ 35 2) else if l1 ≤ 0 + 1 + 1 then some (ρ 36 2) else some (ρ 37 2))
theorem s_X0_cutOf (d : Nat) {ρ : pm} (o : pm) {l1 : Int} {rv : Int} (h : f_X0_cutOf l1 ρ = some rv) : ci_Met d (yX0_cutOf, cX0_cutOf, 4, (some .int), [], 0, 0) [.ref 35, .int (Int32.ofInt l1)] (pk true ρ o) (pP true rv ρ o) := by
  refine ci_met (by decide) (Nat.le_of_ble_eq_true rfl) ?_ ?_
  · rintro v w' ⟨rfl, rfl⟩
    trivial
  · change ci_T _ _ _ _ _ _ ([(0, .ref 35), (1, .int (Int32.ofInt l1))], [], pk true ρ o) _
    unfold f_X0_cutOf at h
    obtain ⟨h1, h⟩ := ck_some h
    refine ci_T.step cb_X0_cutOf_0 (ci_sq rfl (ci_sq rfl (ci_sq (pe_push pc_0) rfl))) ?_
    refine ci_T.step cb_X0_cutOf_4 (ci_sq rfl (ci_sq rfl (pe_ic_ge pR_0 h1))) ?_
    refine pbr h (fun hc h => ?_) (fun hc h => ?_)
    · refine ci_T.step cb_X0_cutOf_27 (ci_sq rfl (pe_getI (kI := 2) tq_34 rfl rfl rfl)) ?_
      cases h
      exact ci_T.done (v := some (.int _)) cd_X0_cutOf_31 ⟨rfl, rfl⟩
    · refine ci_T.step cb_X0_cutOf_9 (ci_sq rfl (ci_sq (pe_getR tq_34 rfl rfl) rfl)) ?_
      refine ci_T.step cb_X0_cutOf_16 (ci_sq rfl (ci_sq (pe_getR tq_34 rfl rfl) (ci_sq rfl (ci_sq (pe_inc (x := 0) rfl) rfl)))) ?_
      refine ci_T.step cb_X0_cutOf_4 (ci_sq rfl (ci_sq rfl (pe_ic_ge (x := 0 + 1) ⟨by decide, by decide⟩ h1))) ?_
      refine pbr h (fun hc h => ?_) (fun hc h => ?_)
      · refine ci_T.step cb_X0_cutOf_27 (ci_sq rfl (pe_getI (kI := 2) tq_35 rfl rfl rfl)) ?_
        cases h
        exact ci_T.done (v := some (.int _)) cd_X0_cutOf_31 ⟨rfl, rfl⟩
      · refine ci_T.step cb_X0_cutOf_9 (ci_sq rfl (ci_sq (pe_getR tq_35 rfl rfl) rfl)) ?_
        refine ci_T.step cb_X0_cutOf_16 (ci_sq rfl (ci_sq (pe_getR tq_35 rfl rfl) (ci_sq rfl (ci_sq (pe_inc (x := 0 + 1) rfl) rfl)))) ?_
        refine ci_T.step cb_X0_cutOf_4 (ci_sq rfl (ci_sq rfl (pe_ic_ge (x := 0 + 1 + 1) ⟨by decide, by decide⟩ h1))) ?_
        refine pbr h (fun hc h => ?_) (fun hc h => ?_)
        · refine ci_T.step cb_X0_cutOf_27 (ci_sq rfl (pe_getI (kI := 2) tq_36 rfl rfl rfl)) ?_
          cases h
          exact ci_T.done (v := some (.int _)) cd_X0_cutOf_31 ⟨rfl, rfl⟩
        · cases h
          refine ci_T.step cb_X0_cutOf_9 (ci_sq rfl (ci_sq (pe_getR tq_36 rfl rfl) rfl)) ?_
          refine ci_T.step cb_X0_cutOf_16 (ci_sq rfl (ci_sq (pe_getR tq_36 rfl rfl) (ci_sq rfl (ci_sq (pe_inc (x := 0 + 1 + 1) rfl) rfl)))) ?_
          refine ci_T.step cb_X0_cutOf_4 (ci_sq rfl (ci_sq rfl (pe_ic_ge (x := 0 + 1 + 1 + 1) ⟨by decide, by decide⟩ h1))) ?_
          by_cases c3 : l1 ≤ 0 + 1 + 1 + 1
          · rw [decide_eq_true c3]
            refine ci_T.step cb_X0_cutOf_27 (ci_sq rfl (pe_getI (kI := 2) tq_37 rfl rfl rfl)) ?_
            exact ci_T.done (v := some (.int _)) cd_X0_cutOf_31 ⟨rfl, rfl⟩
          · rw [decide_eq_false c3]
            refine ci_T.step cb_X0_cutOf_9 (ci_sq rfl (ci_sq (pe_getR tq_37 rfl rfl) rfl)) ?_
            refine ci_T.step cb_X0_cutOf_27 (ci_sq rfl (pe_getI (kI := 2) tq_37 rfl rfl rfl)) ?_
            exact ci_T.done (v := some (.int _)) cd_X0_cutOf_31 ⟨rfl, rfl⟩
/-- a number as the machine has it -/
def wr (x : Int) : Int := (Int32.ofInt x).toInt
theorem pe_isubw {lc : ci_L} {sk : List Value} {w : ci_W} {nx : Nat} {x y : Int} : ci_bin (fun a b => a - b) nx (lc, .int (Int32.ofInt y) :: .int (Int32.ofInt x) :: sk, w) = some (nx, lc, .int (Int32.ofInt (wr (x - y))) :: sk, w) := by
  unfold wr
  rw [Int32.ofInt_toInt, Int32.ofInt_sub]
  rfl
