/-- the class's feed(): FULL, or how many bytes the tape has -/
theorem m_feed (d o q qb : Nat) (x : Int64) (len : Int32) (os : List Value) (t2 t3 t4 t5 t6 t7 : Value) (fb : Nat → Int32) (w : ci_W) (ho : w o = some (.inr (8, os))) (hos : os[7]? = some (.ref (q + 1))) (h0 : w q = some (.inr (6, [.ref (qb + 1), .int len, t2, t3, t4, t5, t6, t7]))) (hb : w qb = some (.inl (.byte, 320, fb))) (nb : q ≠ qb) (no : o ≠ q) (nob : o ≠ qb) (hl0 : 0 ≤ len.toInt) (hl1 : len.toInt ≤ 320) :
    ci_Met (d + 1) (yX8_feed, cX8_feed, 3, some .int, [], 0, 0) [.ref (o + 1), .long x] w (fun r w' => (¬ len + 8 ≤ 320 ∧ r = some (.int (-3)) ∧ w' = w) ∨ (len + 8 ≤ 320 ∧ r = some (.int (len + 8)) ∧ ∃ fb' : Nat → Int32, w' = ci_set (ci_set w qb (.inl (.byte, 320, fb'))) q (.inr (6, [.ref (qb + 1), .int (len + 8), t2, t3, t4, t5, t6, t7])))) := by
  refine ci_met (by decide) (Nat.le_of_ble_eq_true rfl) ?_ ?_
  · rintro r w' (⟨-, rfl, -⟩ | ⟨-, rfl, -⟩) <;> trivial
  · change ci_T _ _ _ _ _ _ ([(0, .ref (o + 1)), (1, .long x)], [], w) _
    refine ci_T.step cb_X8_feed_0 (ci_sq rfl (ci_sq (ce_getf ho hos) rfl)) ?_
    refine ci_T.call (as := [.ref (q + 1), .long x]) (rest := []) kc_X6_append ki_X6_append (by decide) cl_X8_feed_5 rfl (by decide) ⟨⟨_, rfl⟩, q, _, _, rfl, h0⟩ (m_append d q qb x len t2 t3 t4 t5 t6 t7 fb w h0 hb nb hl0 hl1) ?_
    intro v w' hcp
    rcases hcp with ⟨c0, hv, hw⟩ | ⟨c0, hv, fb', hw⟩
    · subst hv
      rw [hw]
      refine ci_T.step cb_X8_feed_8 rfl ?_
      refine ci_br (fun _ => ?_) (fun z => absurd rfl z)
      refine ci_T.step cb_X8_feed_21 rfl ?_
      exact ci_T.done (v := some _) cd_X8_feed_23 (Or.inl ⟨c0, rfl, rfl⟩)
    · subst hv
      rw [hw]
      refine ci_T.step cb_X8_feed_8 rfl ?_
      refine ci_br (fun z => absurd z (by decide)) (fun _ => ?_)
      refine ci_T.step cb_X8_feed_11 (ci_sq rfl (ci_sq (ce_getf (by rw [ce_set_ne no, ce_set_ne nob]; exact ho) hos) (ci_sq (ce_getf ce_set_same rfl) rfl))) ?_
      exact ci_T.done (v := some _) cd_X8_feed_23 (Or.inr ⟨c0, rfl, fb', rfl⟩)
