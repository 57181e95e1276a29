theorem ce_8 : (8 : Int32).toInt = 8 := rfl
theorem ce_byte (x : Int32) : ci_afit .byte x.toInt8.toInt32 = true := by
  show decide (-128 ≤ x.toInt8.toInt32.toInt ∧ x.toInt8.toInt32.toInt ≤ 127) = true
  rw [Int8.toInt_toInt32]
  have h1 := x.toInt8.le_toInt
  have h2 := x.toInt8.toInt_lt
  exact decide_eq_true ⟨by omega, by omega⟩
/-- the tape's append(): eight bytes, if they have room; which bytes is not told here -/
theorem m_append (d q qb : Nat) (x : Int64) (len : Int32) (t2 t3 t4 t5 t6 t7 : Value) (fb : Nat → Int32) (w : ci_W) (h0 : w q = some (.inr (6, [.ref (qb + 1), .int len, t2, t3, t4, t5, t6, t7]))) (hb : w qb = some (.inl (.byte, 320, fb))) (nb : q ≠ qb) (hl0 : 0 ≤ len.toInt) (hl1 : len.toInt ≤ 320) :
    ci_Met d (yX6_append, cX6_append, 4, some .boolean, [], 0, 0) [.ref (q + 1), .long x] w (fun r w' => (¬ len + 8 ≤ 320 ∧ r = some (.int 0) ∧ w' = w) ∨ (len + 8 ≤ 320 ∧ r = some (.int 1) ∧ ∃ fb' : Nat → Int32, w' = ci_set (ci_set w qb (.inl (.byte, 320, fb'))) q (.inr (6, [.ref (qb + 1), .int (len + 8), t2, t3, t4, t5, t6, t7])))) := by
  have el : (len + 8).toInt = len.toInt + 8 := by rw [ce_add (by rw [ce_8]; omega) (by rw [ce_8]; omega), ce_8]
  refine ci_met (by decide) (Nat.le_of_ble_eq_true rfl) ?_ ?_
  · rintro r w' (⟨-, rfl, -⟩ | ⟨-, rfl, -⟩)
    · exact Or.inl rfl
    · exact Or.inr rfl
  · change ci_T _ _ _ _ _ _ ([(0, .ref (q + 1)), (1, .long x)], [], w) _
    refine ci_T.step cb_X6_append_0 (ci_sq rfl (ci_sq (ce_getf h0 rfl) (ci_sq rfl (ci_sq rfl (ci_sq rfl rfl))))) ?_
    refine ci_br (fun c0 => ?_) (fun c0 => ?_)
    · have hroom : len.toInt + 8 ≤ 320 := by
        have := Int32.le_iff_toInt_le.mp c0
        rw [el] at this
        exact this
      refine ci_T.step cb_X6_append_15 (ci_sq rfl rfl) ?_
      have loop : ∀ (m : Nat) (i : Int32) (f : Nat → Int32), m ≤ 8 → i.toInt = 8 - (m : Int) → ci_T yX6_append cX6_append 4 (some .boolean) d 17 ([(3, .int i), (0, .ref (q + 1)), (1, .long x)], [], ci_set w qb (.inl (.byte, 320, f))) (fun r w' => r = some (.int 1) ∧ ∃ fb' : Nat → Int32, w' = ci_set (ci_set w qb (.inl (.byte, 320, fb'))) q (.inr (6, [.ref (qb + 1), .int (len + 8), t2, t3, t4, t5, t6, t7]))) := by
        intro m
        induction m with
        | zero =>
          intro i f hm hi
          refine ci_T.step cb_X6_append_17 (ci_sq rfl (ci_sq rfl rfl)) ?_
          refine ci_br (fun _ => ?_) (fun hc => ?_)
          · refine ci_T.step cb_X6_append_51 (ci_sq rfl (ci_sq rfl (ci_sq (ce_getf (by rw [ce_set_ne nb]; exact h0) rfl) (ci_sq rfl (ci_sq rfl (ci_sq (ce_putf (by rw [ce_set_ne nb]; exact h0) rfl (Nat.le_of_ble_eq_true rfl)) rfl)))))) ?_
            exact ci_T.done (v := some _) cd_X6_append_63 ⟨rfl, f, rfl⟩
          · exact absurd (Int32.le_iff_toInt_le.mpr (by rw [ce_8]; omega)) hc
        | succ m ih =>
          intro i f hm hi
          refine ci_T.step cb_X6_append_17 (ci_sq rfl (ci_sq rfl rfl)) ?_
          refine ci_br (fun hc => ?_) (fun _ => ?_)
          · have := Int32.le_iff_toInt_le.mp hc
            rw [ce_8] at this
            omega
          · have ea : (len + i).toInt = len.toInt + i.toInt := ce_add (by omega) (by omega)
            refine ci_T.step cb_X6_append_23 (ci_sq rfl (ci_sq (ce_getf (by rw [ce_set_ne nb]; exact h0) rfl) (ci_sq rfl (ci_sq (ce_getf (by rw [ce_set_ne nb]; exact h0) rfl) (ci_sq rfl (ci_sq rfl (ci_sq rfl (ci_sq rfl (ci_sq rfl (ci_sq rfl (ci_sq rfl (ci_sq rfl (ci_sq rfl (ci_sq rfl (ci_sq rfl (ci_sq (ce_ast ce_set_same (by rw [ea]; omega) (by rw [ea]; omega) (ce_byte _)) (ci_sq rfl rfl))))))))))))))))) ?_
            have e1 : (i + Int32.ofInt 1).toInt = i.toInt + 1 := by
              have e0 : (Int32.ofInt 1).toInt = 1 := by decide
              rw [ce_add (by omega) (by omega), e0]
            rw [ce_set_set]
            exact ih (i + Int32.ofInt 1) _ (by omega) (by omega)
      have start := loop 8 0 fb (Nat.le_refl _) (by decide)
      rw [ce_set_id hb] at start
      exact start.mono (fun r w' h => Or.inr ⟨c0, h.1, h.2⟩)
    · refine ci_T.step cb_X6_append_13 rfl ?_
      exact ci_T.done (v := some _) cd_X6_append_14 (Or.inl ⟨c0, rfl, rfl⟩)
