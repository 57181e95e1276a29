theorem ce_fold {w : ci_W} {a b : Nat} {c0 c1 d0 d1 : ci_C} (h : a ≠ b) : ci_set (ci_set (ci_set (ci_set w b c0) a d0) b c1) a d1 = ci_set (ci_set w b c1) a d1 := by
  funext x
  unfold ci_set
  by_cases h1 : x = a
  · simp [h1]
  · by_cases h2 : x = b
    · simp [h1, h2]
    · simp [h1, h2]
theorem ce_self {ms : List Value} {k : Nat} {v : Value} (h : ms[k]? = some v) : ms.set k v = ms := by
  apply List.ext_getElem?
  intro i
  rw [List.getElem?_set]
  split
  · rename_i e
    subst e
    rw [if_pos (List.getElem?_eq_some_iff.mp h).1, h]
  · rfl
/-- the model's feed() -/
theorem m9_feed (d o qb : Nat) (x : Int64) (len : Int32) (ms : List Value) (fb : Nat → Int32) (w : ci_W) (ho : w o = some (.inr (9, ms))) (hm1 : ms[22]? = some (.ref (qb + 1))) (hm2 : ms[23]? = some (.int len)) (hb : w qb = some (.inl (.int, 320, fb))) (nb : o ≠ qb) (hl0 : 0 ≤ len.toInt) (hl1 : len.toInt ≤ 320) :
    ci_Met d (yX9_feed, cX9_feed, 4, some .int, [], 0, 0) [.ref (o + 1), .long x] w (fun r w' => (¬ len + 8 ≤ 320 ∧ r = some (.int (-3)) ∧ w' = w) ∨ (len + 8 ≤ 320 ∧ r = some (.int (len + 8)) ∧ ∃ fb' : Nat → Int32, w' = ci_set (ci_set w qb (.inl (.int, 320, fb'))) o (.inr (9, ms.set 23 (.int (len + 8)))))) := by
  have el : (len + 8).toInt = len.toInt + 8 := by rw [ce_add (by rw [ce_8]; omega) (by rw [ce_8]; omega), ce_8]
  have hlen : 23 < ms.length := (List.getElem?_eq_some_iff.mp hm2).1
  refine ci_met (by decide) (Nat.le_of_ble_eq_true rfl) ?_ ?_
  · rintro r w' (⟨-, rfl, -⟩ | ⟨-, rfl, -⟩) <;> trivial
  · change ci_T _ _ _ _ _ _ ([(0, .ref (o + 1)), (1, .long x)], [], w) _
    refine ci_T.step cb_X9_feed_0 (ci_sq rfl (ci_sq (ce_getf ho hm2) (ci_sq rfl (ci_sq rfl (ci_sq rfl rfl))))) ?_
    refine ci_br (fun c0 => ?_) (fun c0 => ?_)
    · have hroom : len.toInt + 8 ≤ 320 := by
        have := Int32.le_iff_toInt_le.mp c0
        rw [el] at this
        exact this
      refine ci_T.step cb_X9_feed_16 (ci_sq rfl rfl) ?_
      have loop : ∀ (m : Nat) (s t : Int32) (f : Nat → Int32), m ≤ 8 → s.toInt = 8 * (m : Int) - 8 → t.toInt = len.toInt + 8 - (m : Int) → ci_T yX9_feed cX9_feed 4 (some .int) d 19 ([(3, .int s), (0, .ref (o + 1)), (1, .long x)], [], ci_set (ci_set w qb (.inl (.int, 320, f))) o (.inr (9, ms.set 23 (.int t)))) (fun r w' => r = some (.int (len + 8)) ∧ ∃ fb' : Nat → Int32, w' = ci_set (ci_set w qb (.inl (.int, 320, fb'))) o (.inr (9, ms.set 23 (.int (len + 8))))) := by
        intro m
        induction m with
        | zero =>
          intro s t f hm hs ht
          have et : t = len + 8 := Int32.toInt_inj.mp (by rw [el, ht]; omega)
          refine ci_T.step cb_X9_feed_19 (ci_sq rfl rfl) ?_
          refine ci_br (fun _ => ?_) (fun hc => ?_)
          · refine ci_T.step cb_X9_feed_56 (ci_sq rfl (ce_getf ce_set_same (List.getElem?_set_self hlen))) ?_
            rw [et]
            exact ci_T.done (v := some _) cd_X9_feed_60 ⟨rfl, f, rfl⟩
          · exact absurd (Int32.lt_iff_toInt_lt.mpr (by have : (0 : Int32).toInt = 0 := rfl; omega)) hc
        | succ m ih =>
          intro s t f hm hs ht
          refine ci_T.step cb_X9_feed_19 (ci_sq rfl rfl) ?_
          refine ci_br (fun hc => ?_) (fun _ => ?_)
          · have := Int32.lt_iff_toInt_lt.mp hc
            have e0 : (0 : Int32).toInt = 0 := rfl
            omega
          · refine ci_T.step cb_X9_feed_23 (ci_sq rfl (ci_sq (ce_getf ce_set_same (by rw [List.getElem?_set_ne (by decide)]; exact hm1)) (ci_sq rfl (ci_sq (ce_getf ce_set_same (List.getElem?_set_self hlen)) (ci_sq rfl (ci_sq rfl (ci_sq rfl (ci_sq rfl (ci_sq rfl (ci_sq rfl (ci_sq (ce_ast (by rw [ce_set_ne nb.symm]; exact ce_set_same) (by omega) (by omega) rfl) (ci_sq rfl (ci_sq rfl (ci_sq (ce_getf (by rw [ce_set_ne nb]; exact ce_set_same) (List.getElem?_set_self hlen)) (ci_sq rfl (ci_sq rfl (ci_sq (ce_putf (by rw [ce_set_ne nb]; exact ce_set_same) rfl (by rw [List.length_set]; exact hlen)) (ci_sq rfl rfl)))))))))))))))))) ?_
            have e1 : (s + Int32.ofInt (-8)).toInt = s.toInt - 8 := by
              have e0 : (Int32.ofInt (-8)).toInt = -8 := by decide
              rw [ce_add (by omega) (by omega), e0]
              omega
            have e2 : (t + 1).toInt = t.toInt + 1 := by
              have e0 : (1 : Int32).toInt = 1 := rfl
              rw [ce_add (by omega) (by omega), e0]
            rw [ce_fold nb, List.set_set]
            exact ih (s + Int32.ofInt (-8)) (t + 1) _ (by omega) (by omega) (by omega)
      have start := loop 8 56 len fb (Nat.le_refl _) (by decide) (by omega)
      rw [ce_set_id hb, ce_self hm2, ce_set_id ho] at start
      exact start.mono (fun r w' h => Or.inr ⟨c0, h.1, h.2⟩)
    · refine ci_T.step cb_X9_feed_13 rfl ?_
      exact ci_T.done (v := some _) cd_X9_feed_15 (Or.inl ⟨c0, rfl, rfl⟩)
