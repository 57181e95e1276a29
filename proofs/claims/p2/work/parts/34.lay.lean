/-- the class's lay() -/
theorem m_lay (d q ql qs qv o : Nat) (k i v : Int32) (fl fs fv : Nat → Int32) (w : ci_W) (os : List Value) (ho : w o = some (.inr (8, os))) (hos : os[9]? = some (.ref (q + 1))) (h0 : w q = some (.inr (5, [.ref (ql + 1), .ref (qs + 1), .ref (qv + 1)]))) (h1 : w ql = some (.inl (.int, 4, fl))) (h2 : w qs = some (.inl (.int, 4, fs))) (h3 : w qv = some (.inl (.int, 160, fv))) (hsz : ∀ j, j < 4 → (fs j).toInt ≤ 40) :
    ci_Met (d + 1) (yX8_lay, cX8_lay, 5, some .int, [], 0, 0) [.ref (o + 1), .int k, .int i, .int v] w (fun r w' =>
      (¬ (0 ≤ k ∧ k < 4) ∧ r = some (.int (-1)) ∧ w' = w) ∨ ((0 ≤ k ∧ k < 4) ∧ fs k.toInt.toNat < 0 ∧ r = some (.int (-10 - 1)) ∧ w' = w) ∨ ((0 ≤ k ∧ k < 4) ∧ ¬ fs k.toInt.toNat < 0 ∧ (i < 0 ∨ fs k.toInt.toNat ≤ i) ∧ r = some (.int (-10 - 2)) ∧ w' = w) ∨
      ((0 ≤ k ∧ k < 4) ∧ ¬ fs k.toInt.toNat < 0 ∧ ¬ (i < 0 ∨ fs k.toInt.toNat ≤ i) ∧ r = some (.int 1) ∧ w' = ci_set w qv (.inl (.int, 160, upd fv (40 * k.toInt.toNat + i.toInt.toNat) (cs_cut (fl k.toInt.toNat) v))))) := by
  refine ci_met (by decide) (Nat.le_of_ble_eq_true rfl) ?_ ?_
  · rintro r w' (⟨-, rfl, -⟩ | ⟨-, -, rfl, -⟩ | ⟨-, -, -, rfl, -⟩ | ⟨-, -, -, rfl, -⟩) <;> trivial
  · change ci_T _ _ _ _ _ _ ([(0, .ref (o + 1)), (1, .int k), (2, .int i), (3, .int v)], [], w) _
    refine ci_T.step cb_X8_lay_0 (ci_sq rfl (ci_sq (ce_getf ho hos) rfl)) ?_
    refine ci_T.call (as := [.ref (q + 1), .int k]) (rest := []) kc_X5_hasSheet ki_X5_hasSheet (by decide) cl_X8_lay_5 rfl (by decide) ⟨⟨_, rfl⟩, q, _, _, rfl, h0⟩ (m_hasSheet d q k w) ?_
    intro r w' hcp
    obtain ⟨hv, hw⟩ := hcp
    subst hv
    rw [hw]
    refine ci_T.step cb_X8_lay_8 rfl ?_
    refine ci_brn (fun c0 => ?_) (fun c0 => ?_)
    · have hk : 0 ≤ k ∧ k < 4 := Classical.byContradiction (fun z => c0 (if_neg z))
      have hk0 : 0 ≤ k.toInt := Int32.le_iff_toInt_le.mp hk.1
      have hk1 : k.toInt < 4 := Int32.lt_iff_toInt_lt.mp hk.2
      refine ci_T.step cb_X8_lay_13 (ci_sq rfl (ci_sq (ce_getf ho hos) (ci_sq rfl rfl))) ?_
      refine ci_T.call (as := [.ref (q + 1), .int k, .int i]) (rest := []) kc_X5_reachFault ki_X5_reachFault (by decide) cl_X8_lay_19 rfl (by decide) ⟨⟨_, rfl⟩, q, _, _, rfl, h0⟩ (m_reachFault d q ql qs qv k i fs w h0 h2 hk0 hk1) ?_
      intro r w' hcp
      obtain ⟨hv, hw⟩ := hcp
      subst hv
      rw [hw]
      refine ci_T.step cb_X8_lay_22 (ci_sq rfl (ci_sq rfl rfl)) ?_
      by_cases c1 : fs k.toInt.toNat < 0
      · rw [if_pos c1]
        refine ci_br (fun z => absurd z (by decide)) (fun _ => ?_)
        refine ci_T.step cb_X8_lay_29 (ci_sq rfl (ci_sq rfl rfl)) ?_
        exact ci_T.done (v := some _) cd_X8_lay_34 (Or.inr (Or.inl ⟨hk, c1, rfl, rfl⟩))
      · rw [if_neg c1]
        by_cases c2 : i < 0 ∨ fs k.toInt.toNat ≤ i
        · rw [if_pos c2]
          refine ci_br (fun z => absurd z (by decide)) (fun _ => ?_)
          refine ci_T.step cb_X8_lay_29 (ci_sq rfl (ci_sq rfl rfl)) ?_
          exact ci_T.done (v := some _) cd_X8_lay_34 (Or.inr (Or.inr (Or.inl ⟨hk, c1, c2, rfl, rfl⟩)))
        · rw [if_neg c2]
          refine ci_br (fun _ => ?_) (fun z => absurd rfl z)
          have hi0 : 0 ≤ i.toInt := Int32.le_iff_toInt_le.mp (Int32.not_lt.mp (fun z => c2 (Or.inl z)))
          have hi1 : i.toInt < (fs k.toInt.toNat).toInt := Int32.lt_iff_toInt_lt.mp (Int32.not_le.mp (fun z => c2 (Or.inr z)))
          have hs := hsz k.toInt.toNat (by omega)
          refine ci_T.step cb_X8_lay_35 (ci_sq rfl (ci_sq (ce_getf ho hos) (ci_sq rfl (ci_sq rfl rfl)))) ?_
          refine ci_T.call (as := [.ref (q + 1), .int k, .int i, .int v]) (rest := []) kc_X5_put ki_X5_put (by decide) cl_X8_lay_42 rfl (by decide) ⟨⟨_, rfl⟩, q, _, _, rfl, h0⟩ (m_put d q ql qs qv k i v fl fv w h0 h1 h3 hk0 hk1 hi0 (by omega)) ?_
          intro r w' hcp
          obtain ⟨hv, hw⟩ := hcp
          subst hv
          rw [hw]
          refine ci_T.step cb_X8_lay_45 rfl ?_
          exact ci_T.done (v := some _) cd_X8_lay_46 (Or.inr (Or.inr (Or.inr ⟨hk, c1, c2, rfl, rfl⟩)))
    · have hn : ¬ (0 ≤ k ∧ k < 4) := fun z => by rw [if_pos z] at c0; exact absurd c0 (by decide)
      refine ci_T.step cb_X8_lay_11 rfl ?_
      exact ci_T.done (v := some _) cd_X8_lay_12 (Or.inl ⟨hn, rfl, rfl⟩)
