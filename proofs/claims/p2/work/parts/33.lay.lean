/-- what a cell of a lane keeps of an int -/
def cs_cut (lane v : Int32) : Int32 := if lane = 0 then v.toInt8.toInt32 else if lane = 1 then v.toInt16.toInt32 else v
theorem m_put (d q ql qs qv : Nat) (k i v : Int32) (fl fv : Nat → Int32) (w : ci_W) (h0 : w q = some (.inr (5, [.ref (ql + 1), .ref (qs + 1), .ref (qv + 1)]))) (h1 : w ql = some (.inl (.int, 4, fl))) (h3 : w qv = some (.inl (.int, 160, fv))) (hk0 : 0 ≤ k.toInt) (hk1 : k.toInt < 4) (hi0 : 0 ≤ i.toInt) (hi1 : i.toInt < 40) :
    ci_Met d (yX5_put, cX5_put, 5, none, [], 0, 0) [.ref (q + 1), .int k, .int i, .int v] w (fun r w' => r = none ∧ w' = ci_set w qv (.inl (.int, 160, upd fv (40 * k.toInt.toNat + i.toInt.toNat) (cs_cut (fl k.toInt.toNat) v)))) := by
  have em : (k * 40).toInt = k.toInt * 40 := ce_mul (by rw [ce_40]; omega) (by rw [ce_40]; omega)
  have ea : (k * 40 + i).toInt = k.toInt * 40 + i.toInt := by rw [ce_add (by omega) (by omega), em]
  have en : (k * 40 + i).toInt.toNat = 40 * k.toInt.toNat + i.toInt.toNat := by rw [ea]; omega
  refine ci_met (by decide) (Nat.le_of_ble_eq_true rfl) ?_ ?_
  · rintro r w' ⟨rfl, rfl⟩
    trivial
  · change ci_T _ _ _ _ _ _ ([(0, .ref (q + 1)), (1, .int k), (2, .int i), (3, .int v)], [], w) _
    refine ci_T.step cb_X5_put_0 (ci_sq rfl (ci_sq (ce_getf h0 rfl) (ci_sq rfl (ci_sq (ce_ald h1 hk0 hk1) (ci_sq rfl (ci_sq rfl (ci_sq (ce_getf h0 rfl) (ci_sq rfl (ci_sq rfl (ci_sq rfl (ci_sq rfl (ci_sq rfl (ci_sq rfl rfl))))))))))))) ?_
    have fin : ∀ (x : Int32) (lc : ci_L), x = cs_cut (fl k.toInt.toNat) v → ci_T yX5_put cX5_put 5 none d 40 (lc, [.int x, .int (k * 40 + i), .ref (qv + 1)], w) (fun r w' => r = none ∧ w' = ci_set w qv (.inl (.int, 160, upd fv (40 * k.toInt.toNat + i.toInt.toNat) (cs_cut (fl k.toInt.toNat) v)))) := by
      intro x lc hx
      refine ci_T.step cb_X5_put_40 (ce_ast h3 (by rw [ea]; omega) (by rw [ea]; omega) rfl) ?_
      rw [en, hx]
      exact ci_T.done (v := none) cd_X5_put_41 ⟨rfl, rfl⟩
    refine ci_brn (fun c0 => ?_) (fun c0 => ?_)
    · refine ci_T.step cb_X5_put_28 (ci_sq rfl (ci_sq rfl rfl)) ?_
      refine ci_brn (fun c1 => ?_) (fun c1 => ?_)
      · refine ci_T.step cb_X5_put_39 rfl ?_
        exact fin v _ (by unfold cs_cut; rw [if_neg c0, if_neg c1])
      · refine ci_T.step cb_X5_put_34 (ci_sq rfl (ci_sq rfl rfl)) ?_
        exact fin _ _ (by unfold cs_cut; rw [if_neg c0, if_pos c1])
    · refine ci_T.step cb_X5_put_23 (ci_sq rfl (ci_sq rfl rfl)) ?_
      exact fin _ _ (by unfold cs_cut; rw [if_pos c0])
