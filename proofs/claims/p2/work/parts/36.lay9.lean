/-- the model's lay() -/
theorem m9_lay (d o ql qs qv : Nat) (k i v : Int32) (fl fs fv : Nat → Int32) (ms : List Value) (w : ci_W) (ho : w o = some (.inr (9, ms))) (hm1 : ms[42]? = some (.ref (ql + 1))) (hm2 : ms[43]? = some (.ref (qs + 1))) (hm3 : ms[44]? = some (.ref (qv + 1))) (h1 : w ql = some (.inl (.int, 4, fl))) (h2 : w qs = some (.inl (.int, 4, fs))) (h3 : w qv = some (.inl (.int, 160, fv))) (hsz : ∀ j, j < 4 → 0 ≤ (fs j).toInt ∧ (fs j).toInt ≤ 40) :
    ci_Met (d + 2) (yX9_lay, cX9_lay, 4, some .int, [], 0, 0) [.ref (o + 1), .int k, .int i, .int v] w (fun r w' =>
      (¬ (0 ≤ k ∧ k < 4) ∧ r = some (.int (-1)) ∧ w' = w) ∨ ((0 ≤ k ∧ k < 4) ∧ fl k.toInt.toNat = -4 ∧ r = some (.int (-11)) ∧ w' = w) ∨ ((0 ≤ k ∧ k < 4) ∧ ¬ fl k.toInt.toNat = -4 ∧ (i < 0 ∨ fs k.toInt.toNat ≤ i) ∧ r = some (.int (-12)) ∧ w' = w) ∨
      ((0 ≤ k ∧ k < 4) ∧ ¬ fl k.toInt.toNat = -4 ∧ ¬ (i < 0 ∨ fs k.toInt.toNat ≤ i) ∧ r = some (.int 1) ∧ w' = ci_set w qv (.inl (.int, 160, upd fv (40 * k.toInt.toNat + i.toInt.toNat) (cs_cut (fl k.toInt.toNat) v))))) := by
  refine ci_met (by decide) (Nat.le_of_ble_eq_true rfl) ?_ ?_
  · rintro r w' (⟨-, rfl, -⟩ | ⟨-, -, rfl, -⟩ | ⟨-, -, -, rfl, -⟩ | ⟨-, -, -, rfl, -⟩) <;> trivial
  · change ci_T _ _ _ _ _ _ ([(0, .ref (o + 1)), (1, .int k), (2, .int i), (3, .int v)], [], w) _
    refine ci_T.step cb_X9_lay_0 (ci_sq rfl rfl) ?_
    refine ci_T.call (as := [.int k, .int 0]) (rest := []) kc_X9_isSheet ki_X9_isSheet (by decide) cl_X9_lay_2 rfl (by decide) trivial (m_isSheet d k 0 w) ?_
    intro r w' hcp
    obtain ⟨hv, hw⟩ := hcp
    subst hv
    rw [hw]
    have hz : (0 : Int32) ≤ 0 ∧ (0 : Int32) < 3 := ⟨by decide, by decide⟩
    refine ci_T.step cb_X9_lay_5 rfl ?_
    refine ci_brn (fun c0 => ?_) (fun c0 => ?_)
    · have hk : 0 ≤ k ∧ k < 4 := Classical.byContradiction (fun z => c0 (if_neg (fun q => z q.1)))
      have hk0 : 0 ≤ k.toInt := Int32.le_iff_toInt_le.mp hk.1
      have hk1 : k.toInt < 4 := Int32.lt_iff_toInt_lt.mp hk.2
      obtain ⟨s0, s1⟩ := hsz k.toInt.toNat (by omega)
      refine ci_T.step cb_X9_lay_10 (ci_sq rfl (ci_sq (ce_getf ho hm1) (ci_sq rfl (ci_sq (ce_ald h1 hk0 hk1) (ci_sq rfl rfl))))) ?_
      refine ci_brn (fun c1 => ?_) (fun c1 => ?_)
      · refine ci_T.step cb_X9_lay_24 (ci_sq rfl (ci_sq rfl (ci_sq rfl (ci_sq rfl (ci_sq (ce_getf ho hm2) (ci_sq rfl (ci_sq (ce_ald h2 hk0 hk1) (ci_sq rfl (ci_sq rfl rfl))))))))) ?_
        refine ci_T.call (as := [.long i.toInt64, .long 0, .long (fs k.toInt.toNat - 1).toInt64]) (rest := []) kc_X9_in ki_X9_in (by decide) cl_X9_lay_36 rfl (by decide) trivial (m_in (d + 1) i.toInt64 0 (fs k.toInt.toNat - 1).toInt64 w) ?_
        have e1 : ((0 : Int64) ≤ i.toInt64 ∧ i.toInt64 ≤ (fs k.toInt.toNat - 1).toInt64) ↔ ¬ (i < 0 ∨ fs k.toInt.toNat ≤ i) := by
          have es : (fs k.toInt.toNat - 1).toInt = (fs k.toInt.toNat).toInt - 1 := by
            have e9 : (1 : Int32).toInt = 1 := rfl
            rw [Int32.toInt_sub, e9]
            exact zi_bm (by omega) (by omega)
          rw [Int64.le_iff_toInt_le, Int64.le_iff_toInt_le, ce_i2l, ce_i2l, es, Int32.lt_iff_toInt_lt, Int32.le_iff_toInt_le]
          show (0 ≤ i.toInt ∧ i.toInt ≤ (fs k.toInt.toNat).toInt - 1) ↔ ¬ (i.toInt < 0 ∨ (fs k.toInt.toNat).toInt ≤ i.toInt)
          omega
        intro r w' hcp
        obtain ⟨hv, hw⟩ := hcp
        subst hv
        rw [hw]
        refine ci_T.step cb_X9_lay_39 rfl ?_
        refine ci_brn (fun c2 => ?_) (fun c2 => ?_)
        · have hin : ¬ (i < 0 ∨ fs k.toInt.toNat ≤ i) := Classical.byContradiction (fun z => c2 (if_neg (fun q => z (e1.mp q))))
          have hi0 : 0 ≤ i.toInt := Int32.le_iff_toInt_le.mp (Int32.not_lt.mp (fun z => hin (Or.inl z)))
          have hi1 : i.toInt < (fs k.toInt.toNat).toInt := Int32.lt_iff_toInt_lt.mp (Int32.not_le.mp (fun z => hin (Or.inr z)))
          have em : (40 * k).toInt = 40 * k.toInt := ce_mul (by rw [ce_40]; omega) (by rw [ce_40]; omega)
          have ea : (40 * k + i).toInt = 40 * k.toInt + i.toInt := by rw [ce_add (by omega) (by omega), em]
          have en : (40 * k + i).toInt.toNat = 40 * k.toInt.toNat + i.toInt.toNat := by rw [ea]; omega
          refine ci_T.step cb_X9_lay_45 (ci_sq rfl (ci_sq (ce_getf ho hm3) (ci_sq rfl (ci_sq rfl (ci_sq rfl (ci_sq rfl (ci_sq rfl (ci_sq rfl (ci_sq (ce_getf ho hm1) (ci_sq rfl (ci_sq (ce_ald h1 hk0 hk1) rfl))))))))))) ?_
          have fin : ∀ (x : Int32) (lc : ci_L), x = cs_cut (fl k.toInt.toNat) v → ci_T yX9_lay cX9_lay 4 (some .int) (d + 2) 85 (lc, [.int x, .int (40 * k + i), .ref (qv + 1)], w) (fun r w' => r = some (.int 1) ∧ w' = ci_set w qv (.inl (.int, 160, upd fv (40 * k.toInt.toNat + i.toInt.toNat) (cs_cut (fl k.toInt.toNat) v)))) := by
            intro x lc hx
            refine ci_T.step cb_X9_lay_85 (ci_sq (ce_ast h3 (by rw [ea]; omega) (by rw [ea]; omega) rfl) rfl) ?_
            rw [en, hx]
            exact ci_T.done (v := some _) cd_X9_lay_87 ⟨rfl, rfl⟩
          have out : ∀ (r : Option Value) (w' : ci_W), (r = some (.int 1) ∧ w' = ci_set w qv (.inl (.int, 160, upd fv (40 * k.toInt.toNat + i.toInt.toNat) (cs_cut (fl k.toInt.toNat) v)))) → (¬ (0 ≤ k ∧ k < 4) ∧ r = some (.int (-1)) ∧ w' = w) ∨ ((0 ≤ k ∧ k < 4) ∧ fl k.toInt.toNat = -4 ∧ r = some (.int (-11)) ∧ w' = w) ∨ ((0 ≤ k ∧ k < 4) ∧ ¬ fl k.toInt.toNat = -4 ∧ (i < 0 ∨ fs k.toInt.toNat ≤ i) ∧ r = some (.int (-12)) ∧ w' = w) ∨ ((0 ≤ k ∧ k < 4) ∧ ¬ fl k.toInt.toNat = -4 ∧ ¬ (i < 0 ∨ fs k.toInt.toNat ≤ i) ∧ r = some (.int 1) ∧ w' = ci_set w qv (.inl (.int, 160, upd fv (40 * k.toInt.toNat + i.toInt.toNat) (cs_cut (fl k.toInt.toNat) v)))) := fun r w' h => Or.inr (Or.inr (Or.inr ⟨hk, c1, hin, h.1, h.2⟩))
          refine ci_brn (fun c3 => ?_) (fun c3 => ?_)
          · refine ci_T.step cb_X9_lay_69 (ci_sq rfl (ci_sq (ce_getf ho hm1) (ci_sq rfl (ci_sq (ce_ald h1 hk0 hk1) (ci_sq rfl rfl))))) ?_
            refine ci_brn (fun c4 => ?_) (fun c4 => ?_)
            · refine ci_T.step cb_X9_lay_84 rfl ?_
              exact (fin v _ (by unfold cs_cut; rw [if_neg c3, if_neg c4])).mono out
            · refine ci_T.step cb_X9_lay_79 (ci_sq rfl (ci_sq rfl rfl)) ?_
              exact (fin _ _ (by unfold cs_cut; rw [if_neg c3, if_pos c4])).mono out
          · refine ci_T.step cb_X9_lay_64 (ci_sq rfl (ci_sq rfl rfl)) ?_
            exact (fin _ _ (by unfold cs_cut; rw [if_pos c3])).mono out
        · have hout : i < 0 ∨ fs k.toInt.toNat ≤ i := Classical.byContradiction (fun z => by rw [if_pos (e1.mpr z)] at c2; exact absurd c2 (by decide))
          refine ci_T.step cb_X9_lay_42 rfl ?_
          exact ci_T.done (v := some _) cd_X9_lay_44 (Or.inr (Or.inr (Or.inl ⟨hk, c1, hout, rfl, rfl⟩)))
      · refine ci_T.step cb_X9_lay_21 rfl ?_
        exact ci_T.done (v := some _) cd_X9_lay_23 (Or.inr (Or.inl ⟨hk, c1, rfl, rfl⟩))
    · have hn : ¬ (0 ≤ k ∧ k < 4) := fun z => by rw [if_pos ⟨z, hz⟩] at c0; exact absurd c0 (by decide)
      refine ci_T.step cb_X9_lay_8 rfl ?_
      exact ci_T.done (v := some _) cd_X9_lay_9 (Or.inl ⟨hn, rfl, rfl⟩)
