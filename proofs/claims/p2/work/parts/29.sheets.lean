theorem ce_set_set {w : ci_W} {q : Nat} {c c' : ci_C} : ci_set (ci_set w q c) q c' = ci_set w q c' := by
  funext x
  unfold ci_set
  by_cases h : x = q
  · rw [if_pos h, if_pos h]
  · rw [if_neg h, if_neg h, if_neg h]
theorem ce_set_id {w : ci_W} {q : Nat} {c : ci_C} (h : w q = some c) : ci_set w q c = w := by
  funext x
  unfold ci_set
  by_cases e : x = q
  · rw [if_pos e, e, h]
  · rw [if_neg e]
theorem ce_mul {a b : Int32} (h1 : -2147483648 ≤ a.toInt * b.toInt) (h2 : a.toInt * b.toInt ≤ 2147483647) : (a * b).toInt = a.toInt * b.toInt := by
  rw [Int32.toInt_mul]
  exact zi_bm h1 h2
theorem ce_add {a b : Int32} (h1 : -2147483648 ≤ a.toInt + b.toInt) (h2 : a.toInt + b.toInt ≤ 2147483647) : (a + b).toInt = a.toInt + b.toInt := by
  rw [Int32.toInt_add]
  exact zi_bm h1 h2
theorem ce_40 : (40 : Int32).toInt = 40 := rfl
/-- a sheet made anew: its lane, its size, its forty cells -/
theorem m_renew (d q ql qs qv : Nat) (k lane n : Int32) (fl fs fv : Nat → Int32) (w : ci_W) (h0 : w q = some (.inr (5, [.ref (ql + 1), .ref (qs + 1), .ref (qv + 1)]))) (h1 : w ql = some (.inl (.int, 4, fl))) (h2 : w qs = some (.inl (.int, 4, fs))) (h3 : w qv = some (.inl (.int, 160, fv))) (n01 : q ≠ ql) (n02 : q ≠ qs) (n03 : q ≠ qv) (n12 : ql ≠ qs) (n13 : ql ≠ qv) (n23 : qs ≠ qv) (hk0 : 0 ≤ k.toInt) (hk1 : k.toInt < 4) :
    ci_Met d (yX5_renew, cX5_renew, 5, none, [], 0, 0) [.ref (q + 1), .int k, .int lane, .int n] w (fun v w' => v = none ∧ w' = ci_set (ci_set (ci_set w ql (.inl (.int, 4, upd fl k.toInt.toNat lane))) qs (.inl (.int, 4, upd fs k.toInt.toNat n))) qv (.inl (.int, 160, fun j => if 40 * k.toInt.toNat ≤ j ∧ j < 40 * k.toInt.toNat + 40 then 0 else fv j))) := by
  refine ci_met (by decide) (Nat.le_of_ble_eq_true rfl) ?_ ?_
  · rintro v w' ⟨rfl, rfl⟩
    trivial
  · change ci_T _ _ _ _ _ _ ([(0, .ref (q + 1)), (1, .int k), (2, .int lane), (3, .int n)], [], w) _
    refine ci_T.step cb_X5_renew_0 (ci_sq rfl (ci_sq (ce_getf h0 rfl) (ci_sq rfl (ci_sq rfl (ci_sq (ce_ast h1 hk0 hk1 rfl) (ci_sq rfl (ci_sq (ce_getf (by rw [ce_set_ne n01]; exact h0) rfl) (ci_sq rfl (ci_sq rfl (ci_sq (ce_ast (by rw [ce_set_ne n12.symm]; exact h2) hk0 hk1 rfl) (ci_sq rfl rfl))))))))))) ?_
    obtain ⟨w2, hw2⟩ : ∃ w2 : ci_W, w2 = ci_set (ci_set w ql (.inl (.int, 4, upd fl k.toInt.toNat lane))) qs (.inl (.int, 4, upd fs k.toInt.toNat n)) := ⟨_, rfl⟩
    have g0 : w2 q = some (.inr (5, [.ref (ql + 1), .ref (qs + 1), .ref (qv + 1)])) := by rw [hw2, ce_set_ne n02, ce_set_ne n01]; exact h0
    have g3 : w2 qv = some (.inl (.int, 160, fv)) := by rw [hw2, ce_set_ne n23.symm, ce_set_ne n13.symm]; exact h3
    rw [← hw2]
    have loop : ∀ (m : Nat) (i : Int32), m ≤ 40 → i.toInt = 40 - (m : Int) → ci_T yX5_renew cX5_renew 5 none d 17 ([(4, .int i), (0, .ref (q + 1)), (1, .int k), (2, .int lane), (3, .int n)], [], ci_set w2 qv (.inl (.int, 160, fun j => if 40 * k.toInt.toNat ≤ j ∧ j < 40 * k.toInt.toNat + i.toInt.toNat then 0 else fv j))) (fun v w' => v = none ∧ w' = ci_set w2 qv (.inl (.int, 160, fun j => if 40 * k.toInt.toNat ≤ j ∧ j < 40 * k.toInt.toNat + 40 then 0 else fv j))) := by
      intro m
      induction m with
      | zero =>
        intro i hm hi
        refine ci_T.step cb_X5_renew_17 (ci_sq rfl (ci_sq rfl rfl)) ?_
        refine ci_br (fun _ => ?_) (fun hc => ?_)
        · have e : i.toInt.toNat = 40 := by omega
          rw [e]
          exact ci_T.done (v := none) cd_X5_renew_43 ⟨rfl, rfl⟩
        · exact absurd (Int32.le_iff_toInt_le.mpr (by rw [ce_40]; omega)) hc
      | succ m ih =>
        intro i hm hi
        refine ci_T.step cb_X5_renew_17 (ci_sq rfl (ci_sq rfl rfl)) ?_
        refine ci_br (fun hc => ?_) (fun _ => ?_)
        · have := Int32.le_iff_toInt_le.mp hc
          rw [ce_40] at this
          omega
        · have em : (k * 40).toInt = k.toInt * 40 := ce_mul (by rw [ce_40]; omega) (by rw [ce_40]; omega)
          have ea : (k * 40 + i).toInt = k.toInt * 40 + i.toInt := by rw [ce_add (by omega) (by omega), em]
          refine ci_T.step cb_X5_renew_24 (ci_sq rfl (ci_sq (ce_getf (by rw [ce_set_ne n03]; exact g0) rfl) (ci_sq rfl (ci_sq rfl (ci_sq rfl (ci_sq rfl (ci_sq rfl (ci_sq rfl (ci_sq (ce_ast ce_set_same (by rw [ea]; omega) (by rw [ea]; omega) rfl) (ci_sq rfl rfl)))))))))) ?_
          have e1 : (i + Int32.ofInt 1).toInt = i.toInt + 1 := by
            have e0 : (Int32.ofInt 1).toInt = 1 := by decide
            rw [ce_add (by omega) (by omega), e0]
          have e2 : upd (fun j => if 40 * k.toInt.toNat ≤ j ∧ j < 40 * k.toInt.toNat + i.toInt.toNat then 0 else fv j) (k * 40 + i).toInt.toNat 0 = fun j => if 40 * k.toInt.toNat ≤ j ∧ j < 40 * k.toInt.toNat + (i + Int32.ofInt 1).toInt.toNat then 0 else fv j := by
            funext j
            unfold upd
            rw [ea, e1]
            by_cases c1 : j = (k.toInt * 40 + i.toInt).toNat
            · rw [if_pos c1, if_pos (by omega)]
            · rw [if_neg c1]
              dsimp only
              by_cases c2 : 40 * k.toInt.toNat ≤ j ∧ j < 40 * k.toInt.toNat + i.toInt.toNat
              · rw [if_pos c2, if_pos (by omega)]
              · rw [if_neg c2, if_neg (by omega)]
          rw [ce_set_set, e2]
          exact ih (i + Int32.ofInt 1) (by omega) (by omega)
    have start := loop 40 0 (Nat.le_refl _) (by decide)
    have e0 : (fun j => if 40 * k.toInt.toNat ≤ j ∧ j < 40 * k.toInt.toNat + (0 : Int32).toInt.toNat then 0 else fv j) = fv := by
      funext j
      rw [if_neg (by have : (0 : Int32).toInt.toNat = 0 := rfl; omega)]
    rw [e0, ce_set_id g3] at start
    exact start
