/-- X8_sheet -/
def f_X8_sheet (l1 l2 l3 : Int) (ρ : pm) : Option (Int × pm) := (f_X5_hasSheet l1).bind (fun v1 => if v1 = 0 then some ((-1), ρ) else (f_X5_hasLane l2).bind (fun v3 => if v3 = 0 then some ((-1), ρ) else ck (inR l3) (if l3 ≤ 40 then if 0 ≤ l3 then (f_X5_renew l1 l2 l3 ρ).bind (fun ρ6 => some (1, ρ6)) else some ((-14), ρ) else some ((-1), ρ))))
set_option maxRecDepth 100000 in
theorem s_X8_sheet (d : Nat)   {ρ : pm} (o : pm) {l1 l2 l3 : Int} {rv : Int} {rρ : pm} (h : f_X8_sheet l1 l2 l3 ρ = some (rv, rρ)) : ci_Met (d + 1) (yX8_sheet, cX8_sheet, 4, (some .int), [], 0, 0) [.ref 1, .int (Int32.ofInt l1), .int (Int32.ofInt l2), .int (Int32.ofInt l3)] (pk true ρ o) (pP true rv rρ o) := by
  refine ci_met (by decide) (Nat.le_of_ble_eq_true rfl) ?_ ?_
  · rintro v w' ⟨rfl, rfl⟩
    trivial
  · change ci_T _ _ _ _ _ _ ([(0, .ref 1), (1, .int (Int32.ofInt l1)), (2, .int (Int32.ofInt l2)), (3, .int (Int32.ofInt l3))], [], pk true ρ o) _
    unfold f_X8_sheet at h
    refine ci_T.step cb_X8_sheet_0 (ci_sq rfl (ci_sq (pe_getR tq_0 rfl rfl) rfl)) ?_
    obtain ⟨v1, hv, h⟩ := bn_some h
    refine ci_T.call (as := [_, _]) (rest := []) kc_X5_hasSheet ki_X5_hasSheet (by decide) cl_X8_sheet_5 rfl (Nat.le_of_ble_eq_true rfl) ⟨⟨_, rfl⟩, _, _, _, rfl, pk_obj tq_57 rfl _ _⟩ (s_X5_hasSheet d o hv) ?_
    rintro _ _ ⟨⟨rfl, rfl⟩, hz2⟩
    clear hv
    refine ci_T.step cb_X8_sheet_8 (pe_if_eq (Z_R hz2)) ?_
    refine pbr h (fun hc h => ?_) (fun hc h => ?_)
    · refine ci_T.step cb_X8_sheet_28 (pe_push pc_m1) ?_
      cases h
      exact ci_T.done (v := some (.int _)) cd_X8_sheet_29 ⟨rfl, rfl⟩
    · refine ci_T.step cb_X8_sheet_11 (ci_sq rfl (ci_sq (pe_getR tq_0 rfl rfl) rfl)) ?_
      obtain ⟨v3, hv, h⟩ := bn_some h
      refine ci_T.call (as := [_, _]) (rest := []) kc_X5_hasLane ki_X5_hasLane (by decide) cl_X8_sheet_16 rfl (Nat.le_of_ble_eq_true rfl) ⟨⟨_, rfl⟩, _, _, _, rfl, pk_obj tq_57 rfl _ _⟩ (s_X5_hasLane d o hv) ?_
      rintro _ _ ⟨⟨rfl, rfl⟩, hz4⟩
      clear hv
      refine ci_T.step cb_X8_sheet_19 (pe_if_eq (Z_R hz4)) ?_
      refine pbr h (fun hc h => ?_) (fun hc h => ?_)
      · refine ci_T.step cb_X8_sheet_28 (pe_push pc_m1) ?_
        cases h
        exact ci_T.done (v := some (.int _)) cd_X8_sheet_29 ⟨rfl, rfl⟩
      · obtain ⟨h5, h⟩ := ck_some h
        refine ci_T.step cb_X8_sheet_22 (ci_sq rfl (ci_sq (pe_push pc_40) (pe_ic_le h5 pR_40))) ?_
        refine pbr h (fun hc h => ?_) (fun hc h => ?_)
        · refine ci_T.step cb_X8_sheet_30 (ci_sq rfl (pe_if_ge h5)) ?_
          refine pbr h (fun hc h => ?_) (fun hc h => ?_)
          · refine ci_T.step cb_X8_sheet_37 (ci_sq rfl (ci_sq (pe_getR tq_0 rfl rfl) (ci_sq rfl (ci_sq rfl rfl)))) ?_
            obtain ⟨ρ6, hv, h⟩ := bn_some h
            refine ci_T.call (as := [_, _, _, _]) (rest := []) kc_X5_renew ki_X5_renew (by decide) cl_X8_sheet_44 rfl (Nat.le_of_ble_eq_true rfl) ⟨⟨_, rfl⟩, _, _, _, rfl, pk_obj tq_57 rfl _ _⟩ (s_X5_renew d o hv) ?_
            rintro _ _ ⟨rfl, rfl⟩
            clear hv
            refine ci_T.step cb_X8_sheet_47 (pe_push pc_1) ?_
            cases h
            exact ci_T.done (v := some (.int _)) cd_X8_sheet_48 ⟨rfl, rfl⟩
          · refine ci_T.step cb_X8_sheet_34 (pe_push pc_m14) ?_
            cases h
            exact ci_T.done (v := some (.int _)) cd_X8_sheet_36 ⟨rfl, rfl⟩
        · refine ci_T.step cb_X8_sheet_28 (pe_push pc_m1) ?_
          cases h
          exact ci_T.done (v := some (.int _)) cd_X8_sheet_29 ⟨rfl, rfl⟩
/-- X5_reachFault -/
def f_X5_reachFault (l1 l2 : Int) (ρ : pm) : Option Int := ck (0 ≤ l1 ∧ l1 < 4) (ck (inR (ρ 59 l1)) (if 0 ≤ (ρ 59 l1) then ck (inR l2) (if l2 < 0 then some 2 else if l2 < (ρ 59 l1) then some 0 else some 2) else some 1))
set_option maxRecDepth 100000 in
theorem s_X5_reachFault (d : Nat)   {ρ : pm} (o : pm) {l1 l2 : Int} {rv : Int} (h : f_X5_reachFault l1 l2 ρ = some rv) : ci_Met d (yX5_reachFault, cX5_reachFault, 3, (some .int), [], 0, 0) [.ref 58, .int (Int32.ofInt l1), .int (Int32.ofInt l2)] (pk true ρ o) (pP true rv ρ o) := by
  refine ci_met (by decide) (Nat.le_of_ble_eq_true rfl) ?_ ?_
  · rintro v w' ⟨rfl, rfl⟩
    trivial
  · change ci_T _ _ _ _ _ _ ([(0, .ref 58), (1, .int (Int32.ofInt l1)), (2, .int (Int32.ofInt l2))], [], pk true ρ o) _
    unfold f_X5_reachFault at h
    obtain ⟨h1, h⟩ := ck_some h
    obtain ⟨h2, h⟩ := ck_some h
    refine ci_T.step cb_X5_reachFault_0 (ci_sq rfl (ci_sq (pe_getR tq_57 rfl rfl) (ci_sq rfl (ci_sq (pe_ald (nI := 4) tq_59 rfl rfl h1) (pe_if_ge h2))))) ?_
    refine pbr h (fun hc h => ?_) (fun hc h => ?_)
    · obtain ⟨h3, h⟩ := ck_some h
      refine ci_T.step cb_X5_reachFault_11 (ci_sq rfl (pe_if_lt h3)) ?_
      refine pbr h (fun hc h => ?_) (fun hc h => ?_)
      · refine ci_T.step cb_X5_reachFault_25 (ci_sq (pe_push pc_2) rfl) ?_
        cases h
        exact ci_T.done (v := some (.int _)) cd_X5_reachFault_30 ⟨rfl, rfl⟩
      · refine ci_T.step cb_X5_reachFault_15 (ci_sq rfl (ci_sq rfl (ci_sq (pe_getR tq_57 rfl rfl) (ci_sq rfl (ci_sq (pe_ald (nI := 4) tq_59 rfl rfl h1) (pe_ic_lt h3 h2)))))) ?_
        refine pbr h (fun hc h => ?_) (fun hc h => ?_)
        · refine ci_T.step cb_X5_reachFault_29 (pe_push pc_0) ?_
          cases h
          exact ci_T.done (v := some (.int _)) cd_X5_reachFault_30 ⟨rfl, rfl⟩
        · refine ci_T.step cb_X5_reachFault_25 (ci_sq (pe_push pc_2) rfl) ?_
          cases h
          exact ci_T.done (v := some (.int _)) cd_X5_reachFault_30 ⟨rfl, rfl⟩
    · refine ci_T.step cb_X5_reachFault_9 (pe_push pc_1) ?_
      cases h
      exact ci_T.done (v := some (.int _)) cd_X5_reachFault_10 ⟨rfl, rfl⟩
/-- X5_put -/
def f_X5_put (l1 l2 l3 : Int) (ρ : pm) : Option pm := ck (0 ≤ l1 ∧ l1 < 4) (jn (ρ 58 l1) (fun x2 => ck (inR x2) (if x2 = 0 then ck (0 ≤ (l1 * 40) + l2 ∧ (l1 * 40) + l2 < 160) (jn (pup ρ 60 ((l1 * 40) + l2) (b8 l3)) (fun ρ9 => some ρ9)) else if x2 = 1 then ck (0 ≤ (l1 * 40) + l2 ∧ (l1 * 40) + l2 < 160) (jn (pup ρ 60 ((l1 * 40) + l2) (s16 l3)) (fun ρ7 => some ρ7)) else ck (0 ≤ (l1 * 40) + l2 ∧ (l1 * 40) + l2 < 160) (jn (pup ρ 60 ((l1 * 40) + l2) l3) (fun ρ5 => some ρ5)))))
set_option maxRecDepth 100000 in
theorem s_X5_put (d : Nat)   {ρ : pm} (o : pm) {l1 l2 l3 : Int} {rρ : pm} (h : f_X5_put l1 l2 l3 ρ = some rρ) : ci_Met d (yX5_put, cX5_put, 5, none, [], 0, 0) [.ref 58, .int (Int32.ofInt l1), .int (Int32.ofInt l2), .int (Int32.ofInt l3)] (pk true ρ o) (pV true rρ o) := by
  refine ci_met (by decide) (Nat.le_of_ble_eq_true rfl) ?_ ?_
  · rintro v w' ⟨rfl, rfl⟩
    trivial
  · change ci_T _ _ _ _ _ _ ([(0, .ref 58), (1, .int (Int32.ofInt l1)), (2, .int (Int32.ofInt l2)), (3, .int (Int32.ofInt l3))], [], pk true ρ o) _
    unfold f_X5_put at h
    obtain ⟨h1, h⟩ := ck_some h
    replace h := jn_some h
    obtain ⟨h3, h⟩ := ck_some h
    refine ci_T.step cb_X5_put_0 (ci_sq rfl (ci_sq (pe_getR tq_57 rfl rfl) (ci_sq rfl (ci_sq (pe_ald (nI := 4) tq_58 rfl rfl h1) (ci_sq rfl (ci_sq rfl (ci_sq (pe_getR tq_57 rfl rfl) (ci_sq rfl (ci_sq (pe_push pc_40) (ci_sq pe_imul (ci_sq rfl (ci_sq pe_iadd (ci_sq rfl (pe_if_ne h3)))))))))))))) ?_
    refine pbrn h (fun hc h => ?_) (fun hc h => ?_)
    · refine ci_T.step cb_X5_put_28 (ci_sq rfl (ci_sq (pe_push pc_1) (pe_ic_ne h3 pR_1))) ?_
      refine pbrn h (fun hc h => ?_) (fun hc h => ?_)
      · refine ci_T.step cb_X5_put_39 rfl ?_
        obtain ⟨h4, h⟩ := ck_some h
        replace h := jn_some h
        refine ci_T.step cb_X5_put_40 (pe_ast (nI := 160) tq_60 rfl rfl h4 rfl) ?_
        cases h
        exact ci_T.done (v := none) cd_X5_put_41 ⟨rfl, rfl⟩
      · refine ci_T.step cb_X5_put_34 (ci_sq rfl (ci_sq pe_i2s rfl)) ?_
        obtain ⟨h6, h⟩ := ck_some h
        replace h := jn_some h
        refine ci_T.step cb_X5_put_40 (pe_ast (nI := 160) tq_60 rfl rfl h6 rfl) ?_
        cases h
        exact ci_T.done (v := none) cd_X5_put_41 ⟨rfl, rfl⟩
    · refine ci_T.step cb_X5_put_23 (ci_sq rfl (ci_sq pe_i2b rfl)) ?_
      obtain ⟨h8, h⟩ := ck_some h
      replace h := jn_some h
      refine ci_T.step cb_X5_put_40 (pe_ast (nI := 160) tq_60 rfl rfl h8 rfl) ?_
      cases h
      exact ci_T.done (v := none) cd_X5_put_41 ⟨rfl, rfl⟩
/-- X8_lay -/
def f_X8_lay (l1 l2 l3 : Int) (ρ : pm) : Option (Int × pm) := (f_X5_hasSheet l1).bind (fun v1 => if v1 = 0 then some ((-1), ρ) else (f_X5_reachFault l1 l2 ρ).bind (fun v3 => ck (inR v3) (if v3 = 0 then (f_X5_put l1 l2 l3 ρ).bind (fun ρ5 => some (1, ρ5)) else some ((-10) - v3, ρ))))
set_option maxRecDepth 100000 in
theorem s_X8_lay (d : Nat)   {ρ : pm} (o : pm) {l1 l2 l3 : Int} {rv : Int} {rρ : pm} (h : f_X8_lay l1 l2 l3 ρ = some (rv, rρ)) : ci_Met (d + 1) (yX8_lay, cX8_lay, 5, (some .int), [], 0, 0) [.ref 1, .int (Int32.ofInt l1), .int (Int32.ofInt l2), .int (Int32.ofInt l3)] (pk true ρ o) (pP true rv rρ o) := by
  refine ci_met (by decide) (Nat.le_of_ble_eq_true rfl) ?_ ?_
  · rintro v w' ⟨rfl, rfl⟩
    trivial
  · change ci_T _ _ _ _ _ _ ([(0, .ref 1), (1, .int (Int32.ofInt l1)), (2, .int (Int32.ofInt l2)), (3, .int (Int32.ofInt l3))], [], pk true ρ o) _
    unfold f_X8_lay at h
    refine ci_T.step cb_X8_lay_0 (ci_sq rfl (ci_sq (pe_getR tq_0 rfl rfl) rfl)) ?_
    obtain ⟨v1, hv, h⟩ := bn_some h
    refine ci_T.call (as := [_, _]) (rest := []) kc_X5_hasSheet ki_X5_hasSheet (by decide) cl_X8_lay_5 rfl (Nat.le_of_ble_eq_true rfl) ⟨⟨_, rfl⟩, _, _, _, rfl, pk_obj tq_57 rfl _ _⟩ (s_X5_hasSheet d o hv) ?_
    rintro _ _ ⟨⟨rfl, rfl⟩, hz2⟩
    clear hv
    refine ci_T.step cb_X8_lay_8 (pe_if_ne (Z_R hz2)) ?_
    refine pbrn h (fun hc h => ?_) (fun hc h => ?_)
    · refine ci_T.step cb_X8_lay_13 (ci_sq rfl (ci_sq (pe_getR tq_0 rfl rfl) (ci_sq rfl rfl))) ?_
      obtain ⟨v3, hv, h⟩ := bn_some h
      refine ci_T.call (as := [_, _, _]) (rest := []) kc_X5_reachFault ki_X5_reachFault (by decide) cl_X8_lay_19 rfl (Nat.le_of_ble_eq_true rfl) ⟨⟨_, rfl⟩, _, _, _, rfl, pk_obj tq_57 rfl _ _⟩ (s_X5_reachFault d o hv) ?_
      rintro _ _ ⟨rfl, rfl⟩
      clear hv
      obtain ⟨h4, h⟩ := ck_some h
      refine ci_T.step cb_X8_lay_22 (ci_sq rfl (ci_sq rfl (pe_if_eq h4))) ?_
      refine pbr h (fun hc h => ?_) (fun hc h => ?_)
      · refine ci_T.step cb_X8_lay_35 (ci_sq rfl (ci_sq (pe_getR tq_0 rfl rfl) (ci_sq rfl (ci_sq rfl rfl)))) ?_
        obtain ⟨ρ5, hv, h⟩ := bn_some h
        refine ci_T.call (as := [_, _, _, _]) (rest := []) kc_X5_put ki_X5_put (by decide) cl_X8_lay_42 rfl (Nat.le_of_ble_eq_true rfl) ⟨⟨_, rfl⟩, _, _, _, rfl, pk_obj tq_57 rfl _ _⟩ (s_X5_put d o hv) ?_
        rintro _ _ ⟨rfl, rfl⟩
        clear hv
        refine ci_T.step cb_X8_lay_45 (pe_push pc_1) ?_
        cases h
        exact ci_T.done (v := some (.int _)) cd_X8_lay_46 ⟨rfl, rfl⟩
      · refine ci_T.step cb_X8_lay_29 (ci_sq (pe_push pc_m10) (ci_sq rfl pe_isub)) ?_
        cases h
        exact ci_T.done (v := some (.int _)) cd_X8_lay_34 ⟨rfl, rfl⟩
    · refine ci_T.step cb_X8_lay_11 (pe_push pc_m1) ?_
      cases h
      exact ci_T.done (v := some (.int _)) cd_X8_lay_12 ⟨rfl, rfl⟩
/-- X5_takeFault -/
def f_X5_takeFault (l1 l2 l3 : Int) (ρ : pm) : Option Int := ck (0 ≤ l1 ∧ l1 < 4) (ck (inR (ρ 59 l1)) (jn (fun (l1 l3 : Int) => (f_X5_reachFault l1 l3 ρ).bind (fun v3 => some v3)) (fun j23 => if (ρ 59 l1) < 0 then j23 l1 l3 else ck (inR (ρ 58 l1)) (ck (inR l2) (if (ρ 58 l1) = l2 then j23 l1 l3 else some 3)))))
set_option maxRecDepth 100000 in
theorem s_X5_takeFault (d : Nat)   {ρ : pm} (o : pm) {l1 l2 l3 : Int} {rv : Int} (h : f_X5_takeFault l1 l2 l3 ρ = some rv) : ci_Met (d + 1) (yX5_takeFault, cX5_takeFault, 4, (some .int), [], 0, 0) [.ref 58, .int (Int32.ofInt l1), .int (Int32.ofInt l2), .int (Int32.ofInt l3)] (pk true ρ o) (pP true rv ρ o) := by
  refine ci_met (by decide) (Nat.le_of_ble_eq_true rfl) ?_ ?_
  · rintro v w' ⟨rfl, rfl⟩
    trivial
  · change ci_T _ _ _ _ _ _ ([(0, .ref 58), (1, .int (Int32.ofInt l1)), (2, .int (Int32.ofInt l2)), (3, .int (Int32.ofInt l3))], [], pk true ρ o) _
    unfold f_X5_takeFault at h
    obtain ⟨h1, h⟩ := ck_some h
    obtain ⟨h2, h⟩ := ck_some h
    refine ci_T.step cb_X5_takeFault_0 (ci_sq rfl (ci_sq (pe_getR tq_57 rfl rfl) (ci_sq rfl (ci_sq (pe_ald (nI := 4) tq_59 rfl rfl h1) (pe_if_lt h2))))) ?_
    obtain ⟨j23, hj, h⟩ := jn_ex h
    have J23 : ∀ (l1 l3 : Int), j23 l1 l3 = some rv → ci_T yX5_takeFault cX5_takeFault 4 (some .int) (d + 1) 23 ([(0, .ref 58), (1, .int (Int32.ofInt l1)), (3, .int (Int32.ofInt l3))], [], pk true ρ o) (pP true rv ρ o) := by
      intro l1 l3 h
      subst hj
      refine ci_T.step cb_X5_takeFault_23 (ci_sq rfl (ci_sq rfl rfl)) ?_
      obtain ⟨v3, hv, h⟩ := bn_some h
      refine ci_T.call (as := [_, _, _]) (rest := []) kc_X5_reachFault ki_X5_reachFault (by decide) cl_X5_takeFault_26 rfl (Nat.le_of_ble_eq_true rfl) ⟨⟨_, rfl⟩, _, _, _, rfl, pk_obj tq_57 rfl _ _⟩ (s_X5_reachFault d o hv) ?_
      rintro _ _ ⟨rfl, rfl⟩
      clear hv
      cases h
      exact ci_T.done (v := some (.int _)) cd_X5_takeFault_29 ⟨rfl, rfl⟩
    clear hj
    refine pbr h (fun hc h => ?_) (fun hc h => ?_)
    · exact ci_T.sub [0, 1, 3] (J23 _ _ h) rfl
    · obtain ⟨h4, h⟩ := ck_some h
      obtain ⟨h5, h⟩ := ck_some h
      refine ci_T.step cb_X5_takeFault_9 (ci_sq rfl (ci_sq (pe_getR tq_57 rfl rfl) (ci_sq rfl (ci_sq (pe_ald (nI := 4) tq_58 rfl rfl h1) (ci_sq rfl (pe_ic_eq h4 h5)))))) ?_
      refine pbr h (fun hc h => ?_) (fun hc h => ?_)
      · exact ci_T.sub [0, 1, 3] (J23 _ _ h) rfl
      · refine ci_T.step cb_X5_takeFault_19 (ci_sq (pe_push pc_3) rfl) ?_
        cases h
        exact ci_T.done (v := some (.int _)) cd_X5_takeFault_29 ⟨rfl, rfl⟩
/-- X5_valueAt -/
def f_X5_valueAt (l1 l2 : Int) (ρ : pm) : Option Int := ck (0 ≤ (l1 * 40) + l2 ∧ (l1 * 40) + l2 < 160) (some (ρ 60 ((l1 * 40) + l2)))
set_option maxRecDepth 100000 in
theorem s_X5_valueAt (d : Nat)   {ρ : pm} (o : pm) {l1 l2 : Int} {rv : Int} (h : f_X5_valueAt l1 l2 ρ = some rv) : ci_Met d (yX5_valueAt, cX5_valueAt, 3, (some .int), [], 0, 0) [.ref 58, .int (Int32.ofInt l1), .int (Int32.ofInt l2)] (pk true ρ o) (pP true rv ρ o) := by
  refine ci_met (by decide) (Nat.le_of_ble_eq_true rfl) ?_ ?_
  · rintro v w' ⟨rfl, rfl⟩
    trivial
  · change ci_T _ _ _ _ _ _ ([(0, .ref 58), (1, .int (Int32.ofInt l1)), (2, .int (Int32.ofInt l2))], [], pk true ρ o) _
    unfold f_X5_valueAt at h
    obtain ⟨h1, h⟩ := ck_some h
    refine ci_T.step cb_X5_valueAt_0 (ci_sq rfl (ci_sq (pe_getR tq_57 rfl rfl) (ci_sq rfl (ci_sq (pe_push pc_40) (ci_sq pe_imul (ci_sq rfl (ci_sq pe_iadd (pe_ald (nI := 160) tq_60 rfl rfl h1)))))))) ?_
    cases h
    exact ci_T.done (v := some (.int _)) cd_X5_valueAt_11 ⟨rfl, rfl⟩
/-- X8_read -/
def L_X8_read_59 (K151 : Int → Int → pm → Option (Int × pm)) : Nat → Int → Int → Int → Int → Int → Int → Int → pm → Option (Int × pm)
  | 0, _, _, _, _, _, _, _, _ => none
  | n + 1, l1, l2, l3, l4, l5, l6, l7, ρ => ck (inR l7) (ck (inR l4) (if l4 ≤ l7 then K151 l5 l6 ρ else ck (inR l6) (if l6 = 0 then (f_X5_takeFault l1 l2 (l3 + l7) ρ).bind (fun v10 => ck (inR v10) (jn (fun (l1 l2 l3 l4 l5 l6 l7 : Int) (ρ : pm) => jn (l7 + 1) (fun x12 => L_X8_read_59 K151 n l1 l2 l3 l4 l5 l6 x12 ρ)) (fun j145 => if v10 = 0 then (f_X5_valueAt l1 (l3 + l7) ρ).bind (fun v13 => (f_X8_refusal 25 v13 ((ρ 4 4) + l7) ρ).bind (fun v14 => ck (inR v14) (if v14 = 0 then (f_X2_pass 25 v13 ρ).bind (fun ρ16 => jn (l5 + 1) (fun x17 => j145 l1 l2 l3 l4 x17 v10 l7 ρ16)) else some ((-20) - l7, ρ)))) else j145 l1 l2 l3 l4 l5 v10 l7 ρ))) else K151 l5 l6 ρ)))
def f_X8_read (l1 l2 l3 l4 : Int) (ρ : pm) : Option (Int × pm) := (f_X5_hasSheet l1).bind (fun v1 => if v1 = 0 then some ((-1), ρ) else (f_X5_hasLane l2).bind (fun v3 => if v3 = 0 then some ((-1), ρ) else ck (inR l4) (if l4 < 0 then some ((-1), ρ) else if l4 ≤ 20 then (f_X2_copy 25 8 ρ).bind (fun ρ6 => L_X8_read_59 (fun (l5 l6 : Int) (ρ : pm) => (f_X2_copy 8 25 ρ).bind (fun ρ18 => jn (pup ρ18 4 4 ((ρ18 4 4) + l5)) (fun ρ19 => jn (pup ρ19 28 6 0) (fun ρ20 => jn (pup ρ20 0 13 l6) (fun ρ21 => some (l5, ρ21)))))) fu l1 l2 l3 l4 0 0 0 ρ6) else some ((-1), ρ))))
set_option maxRecDepth 100000 in
theorem t_X8_read_59 {d : Nat}    {o : pm} {rv : Int} {rρ : pm} {K151 : Int → Int → pm → Option (Int × pm)} (hK151 : ∀ (l5 l6 : Int) (ρ : pm), K151 l5 l6 ρ = some (rv, rρ) → ci_T yX8_read cX8_read 9 (some .int) (d + 5) 151 ([(0, .ref 1), (5, .int (Int32.ofInt l5)), (6, .int (Int32.ofInt l6))], [], pk true ρ o) (pP true rv rρ o)) : ∀ (n : Nat) (l1 l2 l3 l4 l5 l6 l7 : Int) (ρ : pm), L_X8_read_59 K151 n l1 l2 l3 l4 l5 l6 l7 ρ = some (rv, rρ) → ci_T yX8_read cX8_read 9 (some .int) (d + 5) 59 ([(0, .ref 1), (1, .int (Int32.ofInt l1)), (2, .int (Int32.ofInt l2)), (3, .int (Int32.ofInt l3)), (4, .int (Int32.ofInt l4)), (5, .int (Int32.ofInt l5)), (6, .int (Int32.ofInt l6)), (7, .int (Int32.ofInt l7))], [], pk true ρ o) (pP true rv rρ o) := by
  intro n
  induction n with
  | zero =>
    intro l1 l2 l3 l4 l5 l6 l7 ρ h
    rw [L_X8_read_59] at h
    cases h
  | succ n ih =>
    intro l1 l2 l3 l4 l5 l6 l7 ρ h
    rw [L_X8_read_59] at h
    obtain ⟨h7, h⟩ := ck_some h
    obtain ⟨h8, h⟩ := ck_some h
    refine ci_T.step cb_X8_read_59 (ci_sq rfl (ci_sq rfl (pe_ic_ge h7 h8))) ?_
    refine pbr h (fun hc h => ?_) (fun hc h => ?_)
    · exact ci_T.sub [0, 5, 6] (hK151 _ _ _ h) rfl
    · obtain ⟨h9, h⟩ := ck_some h
      refine ci_T.step cb_X8_read_66 (ci_sq rfl (pe_if_ne h9)) ?_
      refine pbrn h (fun hc h => ?_) (fun hc h => ?_)
      · exact ci_T.sub [0, 5, 6] (hK151 _ _ _ h) rfl
      · refine ci_T.step cb_X8_read_71 (ci_sq rfl (ci_sq (pe_getR tq_0 rfl rfl) (ci_sq rfl (ci_sq rfl (ci_sq rfl (ci_sq rfl pe_iadd)))))) ?_
        obtain ⟨v10, hv, h⟩ := bn_some h
        refine ci_T.call (as := [_, _, _, _]) (rest := []) kc_X5_takeFault ki_X5_takeFault (by decide) cl_X8_read_81 rfl (Nat.le_of_ble_eq_true rfl) ⟨⟨_, rfl⟩, _, _, _, rfl, pk_obj tq_57 rfl _ _⟩ (s_X5_takeFault (d + 3) o hv) ?_
        rintro _ _ ⟨rfl, rfl⟩
        clear hv
        obtain ⟨h11, h⟩ := ck_some h
        refine ci_T.step cb_X8_read_84 (ci_sq rfl (ci_sq rfl (pe_if_ne h11))) ?_
        obtain ⟨j145, hj, h⟩ := jn_ex h
        have J145 : ∀ (l1 l2 l3 l4 l5 l6 l7 : Int) (ρ : pm), j145 l1 l2 l3 l4 l5 l6 l7 ρ = some (rv, rρ) → ci_T yX8_read cX8_read 9 (some .int) (d + 5) 145 ([(0, .ref 1), (1, .int (Int32.ofInt l1)), (2, .int (Int32.ofInt l2)), (3, .int (Int32.ofInt l3)), (4, .int (Int32.ofInt l4)), (5, .int (Int32.ofInt l5)), (6, .int (Int32.ofInt l6)), (7, .int (Int32.ofInt l7))], [], pk true ρ o) (pP true rv rρ o) := by
          intro l1 l2 l3 l4 l5 l6 l7 ρ h
          subst hj
          replace h := jn_some h
          refine ci_T.step cb_X8_read_145 (ci_sq (pe_inc rfl) rfl) ?_
          exact ci_T.sub [1, 2, 3, 4, 5, 6, 7, 0] (ih _ _ _ _ _ _ _ _ h) rfl
        clear hj
        refine pbrn h (fun hc h => ?_) (fun hc h => ?_)
        · exact ci_T.sub [1, 2, 3, 4, 5, 6, 0, 7] (J145 _ _ _ _ _ _ _ _ h) rfl
        · refine ci_T.step cb_X8_read_91 (ci_sq rfl (ci_sq (pe_getR tq_0 rfl rfl) (ci_sq rfl (ci_sq rfl (ci_sq rfl pe_iadd))))) ?_
          obtain ⟨v13, hv, h⟩ := bn_some h
          refine ci_T.call (as := [_, _, _]) (rest := []) kc_X5_valueAt ki_X5_valueAt (by decide) cl_X8_read_100 rfl (Nat.le_of_ble_eq_true rfl) ⟨⟨_, rfl⟩, _, _, _, rfl, pk_obj tq_57 rfl _ _⟩ (s_X5_valueAt (d + 4) o hv) ?_
          rintro _ _ ⟨rfl, rfl⟩
          clear hv
          refine ci_T.step cb_X8_read_103 (ci_sq rfl (ci_sq rfl (ci_sq (pe_getR tq_0 rfl rfl) (ci_sq rfl (ci_sq rfl (ci_sq (pe_getR tq_0 rfl rfl) (ci_sq (pe_getI (kI := 4) tq_4 rfl rfl rfl) (ci_sq rfl pe_iadd)))))))) ?_
          obtain ⟨v14, hv, h⟩ := bn_some h
          refine ci_T.call (as := [_, _, _]) (rest := []) kc_X8_refusal ki_X8_refusal (by decide) cl_X8_read_121 rfl (Nat.le_of_ble_eq_true rfl) trivial (s_X8_refusal d 25 iF_25 o hv) ?_
          rintro _ _ ⟨rfl, rfl⟩
          clear hv
          obtain ⟨h15, h⟩ := ck_some h
          refine ci_T.step cb_X8_read_124 (pe_if_eq h15) ?_
          refine pbr h (fun hc h => ?_) (fun hc h => ?_)
          · refine ci_T.step cb_X8_read_133 (ci_sq rfl (ci_sq (pe_getR tq_0 rfl rfl) rfl)) ?_
            obtain ⟨ρ16, hv, h⟩ := bn_some h
            refine ci_T.call (as := [_, _]) (rest := []) kc_X2_pass ki_X2_pass (by decide) cl_X8_read_139 rfl (Nat.le_of_ble_eq_true rfl) ⟨⟨_, rfl⟩, _, _, _, rfl, pk_obj tq_25 rfl _ _⟩ (s_X2_pass (d + 1) 25 iF_25 o hv) ?_
            rintro _ _ ⟨rfl, rfl⟩
            clear hv
            replace h := jn_some h
            refine ci_T.step cb_X8_read_142 (pe_inc rfl) ?_
            exact ci_T.sub [3, 4, 5, 6, 7, 0, 2, 8] (J145 _ _ _ _ _ _ _ _ h) rfl
          · refine ci_T.step cb_X8_read_127 (ci_sq (pe_push pc_m20) (ci_sq rfl pe_isub)) ?_
            cases h
            exact ci_T.done (v := some (.int _)) cd_X8_read_132 ⟨rfl, rfl⟩
set_option maxRecDepth 100000 in
theorem s_X8_read (d : Nat)   {ρ : pm} (o : pm) {l1 l2 l3 l4 : Int} {rv : Int} {rρ : pm} (h : f_X8_read l1 l2 l3 l4 ρ = some (rv, rρ)) : ci_Met (d + 5) (yX8_read, cX8_read, 9, (some .int), [], 0, 0) [.ref 1, .int (Int32.ofInt l1), .int (Int32.ofInt l2), .int (Int32.ofInt l3), .int (Int32.ofInt l4)] (pk true ρ o) (pP true rv rρ o) := by
  refine ci_met (by decide) (Nat.le_of_ble_eq_true rfl) ?_ ?_
  · rintro v w' ⟨rfl, rfl⟩
    trivial
  · change ci_T _ _ _ _ _ _ ([(0, .ref 1), (1, .int (Int32.ofInt l1)), (2, .int (Int32.ofInt l2)), (3, .int (Int32.ofInt l3)), (4, .int (Int32.ofInt l4))], [], pk true ρ o) _
    unfold f_X8_read at h
    refine ci_T.step cb_X8_read_0 (ci_sq rfl (ci_sq (pe_getR tq_0 rfl rfl) rfl)) ?_
    obtain ⟨v1, hv, h⟩ := bn_some h
    refine ci_T.call (as := [_, _]) (rest := []) kc_X5_hasSheet ki_X5_hasSheet (by decide) cl_X8_read_5 rfl (Nat.le_of_ble_eq_true rfl) ⟨⟨_, rfl⟩, _, _, _, rfl, pk_obj tq_57 rfl _ _⟩ (s_X5_hasSheet (d + 4) o hv) ?_
    rintro _ _ ⟨⟨rfl, rfl⟩, hz2⟩
    clear hv
    refine ci_T.step cb_X8_read_8 (pe_if_eq (Z_R hz2)) ?_
    refine pbr h (fun hc h => ?_) (fun hc h => ?_)
    · refine ci_T.step cb_X8_read_34 (pe_push pc_m1) ?_
      cases h
      exact ci_T.done (v := some (.int _)) cd_X8_read_35 ⟨rfl, rfl⟩
    · refine ci_T.step cb_X8_read_11 (ci_sq rfl (ci_sq (pe_getR tq_0 rfl rfl) rfl)) ?_
      obtain ⟨v3, hv, h⟩ := bn_some h
      refine ci_T.call (as := [_, _]) (rest := []) kc_X5_hasLane ki_X5_hasLane (by decide) cl_X8_read_16 rfl (Nat.le_of_ble_eq_true rfl) ⟨⟨_, rfl⟩, _, _, _, rfl, pk_obj tq_57 rfl _ _⟩ (s_X5_hasLane (d + 4) o hv) ?_
      rintro _ _ ⟨⟨rfl, rfl⟩, hz4⟩
      clear hv
      refine ci_T.step cb_X8_read_19 (pe_if_eq (Z_R hz4)) ?_
      refine pbr h (fun hc h => ?_) (fun hc h => ?_)
      · refine ci_T.step cb_X8_read_34 (pe_push pc_m1) ?_
        cases h
        exact ci_T.done (v := some (.int _)) cd_X8_read_35 ⟨rfl, rfl⟩
      · obtain ⟨h5, h⟩ := ck_some h
        refine ci_T.step cb_X8_read_22 (ci_sq rfl (pe_if_lt h5)) ?_
        refine pbr h (fun hc h => ?_) (fun hc h => ?_)
        · refine ci_T.step cb_X8_read_34 (pe_push pc_m1) ?_
          cases h
          exact ci_T.done (v := some (.int _)) cd_X8_read_35 ⟨rfl, rfl⟩
        · refine ci_T.step cb_X8_read_27 (ci_sq rfl (ci_sq (pe_push pc_20) (pe_ic_le h5 pR_20))) ?_
          refine pbr h (fun hc h => ?_) (fun hc h => ?_)
          · refine ci_T.step cb_X8_read_36 (ci_sq rfl (ci_sq (pe_getR tq_0 rfl rfl) (ci_sq rfl (ci_sq (pe_getR tq_0 rfl rfl) (pe_getR tq_4 rfl rfl))))) ?_
            obtain ⟨ρ6, hv, h⟩ := bn_some h
            refine ci_T.call (as := [_, _]) (rest := []) kc_X2_copy ki_X2_copy (by decide) cl_X8_read_47 rfl (Nat.le_of_ble_eq_true rfl) ⟨⟨_, rfl⟩, _, _, _, rfl, pk_obj tq_25 rfl _ _⟩ (s_X2_copy (d + 4) 25 8 iF_25 iF_8 o hv) ?_
            rintro _ _ ⟨rfl, rfl⟩
            clear hv
            refine ci_T.step cb_X8_read_50 (ci_sq (pe_push pc_0) (ci_sq rfl (ci_sq (pe_push pc_0) (ci_sq rfl (ci_sq (pe_push pc_0) rfl))))) ?_
            refine ci_T.sub [3, 4, 5, 6, 7, 2, 1, 0] (t_X8_read_59 ?_ fu _ _ _ _ _ _ _ _ h) rfl
            · intro l5 l6 ρ h
              refine ci_T.step cb_X8_read_151 (ci_sq rfl (ci_sq (pe_getR tq_0 rfl rfl) (ci_sq (pe_getR tq_4 rfl rfl) (ci_sq rfl (pe_getR tq_0 rfl rfl))))) ?_
              obtain ⟨ρ18, hv, h⟩ := bn_some h
              refine ci_T.call (as := [_, _]) (rest := []) kc_X2_copy ki_X2_copy (by decide) cl_X8_read_162 rfl (Nat.le_of_ble_eq_true rfl) ⟨⟨_, rfl⟩, _, _, _, rfl, pk_obj tq_8 rfl _ _⟩ (s_X2_copy (d + 4) 8 25 iF_8 iF_25 o hv) ?_
              rintro _ _ ⟨rfl, rfl⟩
              clear hv
              replace h := jn_some h
              replace h := jn_some h
              replace h := jn_some h
              refine ci_T.step cb_X8_read_165 (ci_sq rfl (ci_sq (pe_getR tq_0 rfl rfl) (ci_sq rfl (ci_sq (pe_getI (kI := 4) tq_4 rfl rfl rfl) (ci_sq rfl (ci_sq pe_iadd (ci_sq (pe_putI (kI := 4) tq_4 rfl rfl rfl) (ci_sq rfl (ci_sq (pe_getR tq_0 rfl rfl) (ci_sq (pe_push pc_0) (ci_sq (pe_putZ (kI := 6) tq_28 rfl rfl rfl (Or.inl rfl)) (ci_sq rfl (ci_sq rfl (ci_sq (pe_putI (kI := 13) tq_0 rfl rfl rfl) rfl)))))))))))))) ?_
              cases h
              exact ci_T.done (v := some (.int _)) cd_X8_read_195 ⟨rfl, rfl⟩
          · refine ci_T.step cb_X8_read_34 (pe_push pc_m1) ?_
            cases h
            exact ci_T.done (v := some (.int _)) cd_X8_read_35 ⟨rfl, rfl⟩
/-- X8_torn -/
def f_X8_torn (ρ : pm) : Option Int := some (ρ 0 13)
set_option maxRecDepth 100000 in
theorem s_X8_torn (d : Nat)   {ρ : pm} (o : pm)  {rv : Int} (h : f_X8_torn ρ = some rv) : ci_Met d (yX8_torn, cX8_torn, 1, (some .int), [], 0, 0) [.ref 1] (pk true ρ o) (pP true rv ρ o) := by
  refine ci_met (by decide) (Nat.le_of_ble_eq_true rfl) ?_ ?_
  · rintro v w' ⟨rfl, rfl⟩
    trivial
  · change ci_T _ _ _ _ _ _ ([(0, .ref 1)], [], pk true ρ o) _
    unfold f_X8_torn at h
    refine ci_T.step cb_X8_torn_0 (ci_sq rfl (pe_getI (kI := 13) tq_0 rfl rfl rfl)) ?_
    cases h
    exact ci_T.done (v := some (.int _)) cd_X8_torn_4 ⟨rfl, rfl⟩
/-- X2_allParts -/
def L_X2_allParts_4 (q : Nat) (ρ : pm) : Nat → Int → Int → Option Int
  | 0, _, _ => none
  | n + 1, l1, l2 => ck (inR l2) (if 25 ≤ l2 then some l1 else ck (0 ≤ l2 ∧ l2 < 25) (jn (l1 + (ρ (q + 1) l2)) (fun x3 => jn (l2 + 1) (fun x4 => L_X2_allParts_4 q ρ n x3 x4))))
def f_X2_allParts (q : Nat) (ρ : pm) : Option Int := L_X2_allParts_4 q ρ fu 0 0
set_option maxRecDepth 100000 in
theorem t_X2_allParts_4 {d : Nat} {q : Nat} (hq : isF q) {ρ : pm} {o : pm} {rv : Int}   : ∀ (n : Nat) (l1 l2 : Int), L_X2_allParts_4 q ρ n l1 l2 = some rv → ci_T yX2_allParts cX2_allParts 3 (some .int) d 4 ([(0, .ref (q + 1)), (1, .int (Int32.ofInt l1)), (2, .int (Int32.ofInt l2))], [], pk true ρ o) (pP true rv ρ o) := by
  intro n
  induction n with
  | zero =>
    intro l1 l2 h
    rw [L_X2_allParts_4] at h
    cases h
  | succ n ih =>
    intro l1 l2 h
    rw [L_X2_allParts_4] at h
    obtain ⟨h1, h⟩ := ck_some h
    refine ci_T.step cb_X2_allParts_4 (ci_sq rfl (ci_sq (pe_push pc_25) (pe_ic_ge h1 pR_25))) ?_
    refine pbr h (fun hc h => ?_) (fun hc h => ?_)
    · refine ci_T.step cb_X2_allParts_25 rfl ?_
      cases h
      exact ci_T.done (v := some (.int _)) cd_X2_allParts_26 ⟨rfl, rfl⟩
    · obtain ⟨h2, h⟩ := ck_some h
      replace h := jn_some h
      replace h := jn_some h
      refine ci_T.step cb_X2_allParts_10 (ci_sq rfl (ci_sq rfl (ci_sq (pe_getR hq.1 hq.2.2.2.1 rfl) (ci_sq rfl (ci_sq (pe_ald (nI := 25) hq.2.1 hq.2.2.2.2.1 rfl h2) (ci_sq pe_iadd (ci_sq rfl (ci_sq (pe_inc rfl) rfl)))))))) ?_
      exact ci_T.sub [2, 1, 0] (ih _ _ h) rfl
set_option maxRecDepth 100000 in
theorem s_X2_allParts (d : Nat) (q : Nat) (hq : isF q) {ρ : pm} (o : pm)  {rv : Int} (h : f_X2_allParts q ρ = some rv) : ci_Met d (yX2_allParts, cX2_allParts, 3, (some .int), [], 0, 0) [.ref (q + 1)] (pk true ρ o) (pP true rv ρ o) := by
  refine ci_met (by decide) (Nat.le_of_ble_eq_true rfl) ?_ ?_
  · rintro v w' ⟨rfl, rfl⟩
    trivial
  · change ci_T _ _ _ _ _ _ ([(0, .ref (q + 1))], [], pk true ρ o) _
    unfold f_X2_allParts at h
    refine ci_T.step cb_X2_allParts_0 (ci_sq (pe_push pc_0) (ci_sq rfl (ci_sq (pe_push pc_0) rfl))) ?_
    exact ci_T.sub [2, 1, 0] (t_X2_allParts_4 hq fu _ _ h) rfl
/-- X2_possibleYears -/
def L_X2_possibleYears_4 (q : Nat) (ρ : pm) : Nat → Int → Int → Option Int
  | 0, _, _ => none
  | n + 1, l1, l2 => ck (inR l2) (ck (inR (ρ 1 4)) (if (ρ 1 4) ≤ l2 then some l1 else (f_X2_cuttable (q) l2 ρ).bind (fun v3 => (f_J6_bitCount v3).bind (fun v4 => jn (l1 * (1 + v4)) (fun x5 => jn (l2 + 1) (fun x6 => L_X2_possibleYears_4 q ρ n x5 x6))))))
def f_X2_possibleYears (q : Nat) (ρ : pm) : Option Int := L_X2_possibleYears_4 q ρ fu 1 0
set_option maxRecDepth 100000 in
theorem t_X2_possibleYears_4 {d : Nat} {q : Nat} (hq : isF q) {ρ : pm} {o : pm} {rv : Int}   : ∀ (n : Nat) (l1 l2 : Int), L_X2_possibleYears_4 q ρ n l1 l2 = some rv → ci_T yX2_possibleYears cX2_possibleYears 3 (some .int) (d + 3) 4 ([(0, .ref (q + 1)), (1, .int (Int32.ofInt l1)), (2, .int (Int32.ofInt l2))], [], pk true ρ o) (pP true rv ρ o) := by
  intro n
  induction n with
  | zero =>
    intro l1 l2 h
    rw [L_X2_possibleYears_4] at h
    cases h
  | succ n ih =>
    intro l1 l2 h
    rw [L_X2_possibleYears_4] at h
    obtain ⟨h1, h⟩ := ck_some h
    obtain ⟨h2, h⟩ := ck_some h
    refine ci_T.step cb_X2_possibleYears_4 (ci_sq rfl (ci_sq rfl (ci_sq (pe_getR hq.1 hq.2.2.2.1 rfl) (ci_sq (pe_getI (kI := 4) tq_1 rfl rfl rfl) (pe_ic_ge h1 h2))))) ?_
    refine pbr h (fun hc h => ?_) (fun hc h => ?_)
    · refine ci_T.step cb_X2_possibleYears_34 rfl ?_
      cases h
      exact ci_T.done (v := some (.int _)) cd_X2_possibleYears_35 ⟨rfl, rfl⟩
    · refine ci_T.step cb_X2_possibleYears_15 (ci_sq rfl (ci_sq (pe_push pc_1) (ci_sq rfl rfl))) ?_
      obtain ⟨v3, hv, h⟩ := bn_some h
      refine ci_T.call (as := [_, _]) (rest := [_, _]) kc_X2_cuttable ki_X2_cuttable (by decide) cl_X2_possibleYears_19 rfl (Nat.le_of_ble_eq_true rfl) ⟨⟨_, rfl⟩, _, _, _, rfl, pk_obj hq.1 hq.2.2.2.1 _ _⟩ (s_X2_cuttable d (q) hq o hv) ?_
      rintro _ _ ⟨rfl, rfl⟩
      clear hv
      obtain ⟨v4, hv, h⟩ := bn_some h
      refine ci_T.call (as := [_]) (rest := [_, _]) kc_J6_bitCount_0f7a4 ki_J6_bitCount_0f7a4 (by decide) cl_X2_possibleYears_22 rfl (Nat.le_of_ble_eq_true rfl) trivial (s_J6_bitCount (d + 2) o hv) ?_
      rintro _ _ ⟨rfl, rfl⟩
      clear hv
      replace h := jn_some h
      replace h := jn_some h
      refine ci_T.step cb_X2_possibleYears_25 (ci_sq pe_iadd (ci_sq pe_imul (ci_sq rfl (ci_sq (pe_inc rfl) rfl)))) ?_
      exact ci_T.sub [2, 1, 0] (ih _ _ h) rfl
set_option maxRecDepth 100000 in
theorem s_X2_possibleYears (d : Nat) (q : Nat) (hq : isF q) {ρ : pm} (o : pm)  {rv : Int} (h : f_X2_possibleYears q ρ = some rv) : ci_Met (d + 3) (yX2_possibleYears, cX2_possibleYears, 3, (some .int), [], 0, 0) [.ref (q + 1)] (pk true ρ o) (pP true rv ρ o) := by
  refine ci_met (by decide) (Nat.le_of_ble_eq_true rfl) ?_ ?_
  · rintro v w' ⟨rfl, rfl⟩
    trivial
  · change ci_T _ _ _ _ _ _ ([(0, .ref (q + 1))], [], pk true ρ o) _
    unfold f_X2_possibleYears at h
    refine ci_T.step cb_X2_possibleYears_0 (ci_sq (pe_push pc_1) (ci_sq rfl (ci_sq (pe_push pc_0) rfl))) ?_
    exact ci_T.sub [2, 1, 0] (t_X2_possibleYears_4 hq fu _ _ h) rfl
/-- X8_count -/
def f_X8_count (l1 : Int) (ρ : pm) : Option Int := ck (inR l1) (if l1 = 0 then some (ρ 8 3) else if l1 = 1 then some (ρ 4 5) else if l1 = 2 then some (ρ 4 6) else if l1 = 3 then (f_J6_bitCount (ρ 0 11)).bind (fun v5 => some v5) else if l1 = 4 then some (ρ 50 1) else if l1 = 5 then ck (inR (ρ 59 0)) (if 0 ≤ (ρ 59 0) then some (ρ 59 0) else some (-4)) else if l1 = 6 then (f_X2_allParts 8 ρ).bind (fun v10 => some v10) else if l1 = 7 then (f_X2_possibleYears 8 ρ).bind (fun v12 => some v12) else some (-1))
set_option maxRecDepth 100000 in
theorem s_X8_count (d : Nat)   {ρ : pm} (o : pm) {l1 : Int} {rv : Int} (h : f_X8_count l1 ρ = some rv) : ci_Met (d + 4) (yX8_count, cX8_count, 2, (some .int), [], 0, 0) [.ref 1, .int (Int32.ofInt l1)] (pk true ρ o) (pP true rv ρ o) := by
  refine ci_met (by decide) (Nat.le_of_ble_eq_true rfl) ?_ ?_
  · rintro v w' ⟨rfl, rfl⟩
    trivial
  · change ci_T _ _ _ _ _ _ ([(0, .ref 1), (1, .int (Int32.ofInt l1))], [], pk true ρ o) _
    unfold f_X8_count at h
    obtain ⟨h1, h⟩ := ck_some h
    refine ci_T.step cb_X8_count_0 (ci_sq rfl (pe_tsw h1 rfl)) ?_
    refine pite h (fun hc2 h => ?_) (fun hc2 h => ?_)
    · refine tsw_T hc2 rfl ?_
      refine ci_T.step cb_X8_count_48 (ci_sq rfl (ci_sq (pe_getR tq_0 rfl rfl) (ci_sq (pe_getR tq_4 rfl rfl) (pe_getI (kI := 3) tq_8 rfl rfl rfl)))) ?_
      cases h
      exact ci_T.done (v := some (.int _)) cd_X8_count_58 ⟨rfl, rfl⟩
    refine pite h (fun hc3 h => ?_) (fun hc3 h => ?_)
    · refine tsw_T hc3 rfl ?_
      refine ci_T.step cb_X8_count_59 (ci_sq rfl (ci_sq (pe_getR tq_0 rfl rfl) (pe_getI (kI := 5) tq_4 rfl rfl rfl))) ?_
      cases h
      exact ci_T.done (v := some (.int _)) cd_X8_count_66 ⟨rfl, rfl⟩
    refine pite h (fun hc4 h => ?_) (fun hc4 h => ?_)
    · refine tsw_T hc4 rfl ?_
      refine ci_T.step cb_X8_count_67 (ci_sq rfl (ci_sq (pe_getR tq_0 rfl rfl) (pe_getI (kI := 6) tq_4 rfl rfl rfl))) ?_
      cases h
      exact ci_T.done (v := some (.int _)) cd_X8_count_74 ⟨rfl, rfl⟩
    refine pite h (fun hc6 h => ?_) (fun hc6 h => ?_)
    · refine tsw_T hc6 rfl ?_
      refine ci_T.step cb_X8_count_75 (ci_sq rfl (pe_getI (kI := 11) tq_0 rfl rfl rfl)) ?_
      obtain ⟨v5, hv, h⟩ := bn_some h
      refine ci_T.call (as := [_]) (rest := []) kc_J6_bitCount_0f7a4 ki_J6_bitCount_0f7a4 (by decide) cl_X8_count_79 rfl (Nat.le_of_ble_eq_true rfl) trivial (s_J6_bitCount (d + 3) o hv) ?_
      rintro _ _ ⟨rfl, rfl⟩
      clear hv
      cases h
      exact ci_T.done (v := some (.int _)) cd_X8_count_82 ⟨rfl, rfl⟩
    refine pite h (fun hc7 h => ?_) (fun hc7 h => ?_)
    · refine tsw_T hc7 rfl ?_
      refine ci_T.step cb_X8_count_83 (ci_sq rfl (ci_sq (pe_getR tq_0 rfl rfl) (pe_getI (kI := 1) tq_50 rfl rfl rfl))) ?_
      cases h
      exact ci_T.done (v := some (.int _)) cd_X8_count_90 ⟨rfl, rfl⟩
    refine pite h (fun hc9 h => ?_) (fun hc9 h => ?_)
    · refine tsw_T hc9 rfl ?_
      obtain ⟨h8, h⟩ := ck_some h
      refine ci_T.step cb_X8_count_91 (ci_sq rfl (ci_sq (pe_getR tq_0 rfl rfl) (ci_sq (pe_getR tq_57 rfl rfl) (ci_sq (pe_push pc_0) (ci_sq (pe_ald (nI := 4) tq_59 rfl rfl ⟨by decide, by decide⟩) (pe_if_ge h8)))))) ?_
      refine pbr h (fun hc h => ?_) (fun hc h => ?_)
      · refine ci_T.step cb_X8_count_108 (ci_sq rfl (ci_sq (pe_getR tq_0 rfl rfl) (ci_sq (pe_getR tq_57 rfl rfl) (ci_sq (pe_push pc_0) (pe_ald (nI := 4) tq_59 rfl rfl ⟨by decide, by decide⟩))))) ?_
        cases h
        exact ci_T.done (v := some (.int _)) cd_X8_count_117 ⟨rfl, rfl⟩
      · refine ci_T.step cb_X8_count_103 (ci_sq (pe_push pc_m4) rfl) ?_
        cases h
        exact ci_T.done (v := some (.int _)) cd_X8_count_117 ⟨rfl, rfl⟩
    refine pite h (fun hc11 h => ?_) (fun hc11 h => ?_)
    · refine tsw_T hc11 rfl ?_
      refine ci_T.step cb_X8_count_118 (ci_sq rfl (ci_sq (pe_getR tq_0 rfl rfl) (pe_getR tq_4 rfl rfl))) ?_
      obtain ⟨v10, hv, h⟩ := bn_some h
      refine ci_T.call (as := [_]) (rest := []) kc_X2_allParts ki_X2_allParts (by decide) cl_X8_count_125 rfl (Nat.le_of_ble_eq_true rfl) ⟨⟨_, rfl⟩, _, _, _, rfl, pk_obj tq_8 rfl _ _⟩ (s_X2_allParts (d + 3) 8 iF_8 o hv) ?_
      rintro _ _ ⟨rfl, rfl⟩
      clear hv
      cases h
      exact ci_T.done (v := some (.int _)) cd_X8_count_128 ⟨rfl, rfl⟩
    refine pite h (fun hc13 h => ?_) (fun hc13 h => ?_)
    · refine tsw_T hc13 rfl ?_
      refine ci_T.step cb_X8_count_129 (ci_sq rfl (ci_sq (pe_getR tq_0 rfl rfl) (pe_getR tq_4 rfl rfl))) ?_
      obtain ⟨v12, hv, h⟩ := bn_some h
      refine ci_T.call (as := [_]) (rest := []) kc_X2_possibleYears ki_X2_possibleYears (by decide) cl_X8_count_136 rfl (Nat.le_of_ble_eq_true rfl) ⟨⟨_, rfl⟩, _, _, _, rfl, pk_obj tq_8 rfl _ _⟩ (s_X2_possibleYears d 8 iF_8 o hv) ?_
      rintro _ _ ⟨rfl, rfl⟩
      clear hv
      cases h
      exact ci_T.done (v := some (.int _)) cd_X8_count_139 ⟨rfl, rfl⟩
    refine tsw_D (hi := 7) rfl (by omega) ?_
    refine ci_T.step cb_X8_count_140 (pe_push pc_m1) ?_
    cases h
    exact ci_T.done (v := some (.int _)) cd_X8_count_141 ⟨rfl, rfl⟩
/-- X9_firstDraft -/
def L_X9_firstDraft_32 (K59 : pm → Option pm) : Nat → Int → pm → Option pm
  | 0, _, _ => none
  | n + 1, l1, ρ => ck (inR l1) (if 25 ≤ l1 then K59 ρ else ck (0 ≤ l1 ∧ l1 < 25) (jn (pup ρ 66 l1 0) (fun ρ9 => jn (pup ρ9 68 l1 (-4)) (fun ρ10 => jn (l1 + 1) (fun x11 => L_X9_firstDraft_32 K59 n x11 ρ10)))))
def L_X9_firstDraft_61 (K86 : pm → Option pm) : Nat → Int → pm → Option pm
  | 0, _, _ => none
  | n + 1, l1, ρ => ck (inR l1) (if 3 ≤ l1 then K86 ρ else ck (0 ≤ l1 ∧ l1 < 3) (jn (pup ρ 69 l1 0) (fun ρ14 => jn (pup ρ14 67 l1 0) (fun ρ15 => jn (l1 + 1) (fun x16 => L_X9_firstDraft_61 K86 n x16 ρ15)))))
def f_X9_firstDraft (ρ : pm) : Option pm := jn (pup ρ 62 6 3) (fun ρ1 => jn (pup ρ1 62 7 3) (fun ρ2 => jn (pup ρ2 62 8 0) (fun ρ3 => jn (pup ρ3 62 9 0) (fun ρ4 => jn (pup ρ4 62 10 0) (fun ρ5 => jn (pup ρ5 62 11 0) (fun ρ6 => L_X9_firstDraft_32 (fun (ρ : pm) => L_X9_firstDraft_61 (fun (ρ : pm) => jn (pup ρ 62 16 0) (fun ρ17 => jn (pup ρ17 62 17 0) (fun ρ18 => jn (pup ρ18 62 18 (-4)) (fun ρ19 => jn (pup ρ19 62 19 (-4)) (fun ρ20 => jn (pup ρ20 62 20 (-4)) (fun ρ21 => jn (pup ρ21 62 21 (-4)) (fun ρ22 => some ρ22))))))) fu 0 ρ) fu 0 ρ6))))))
set_option maxRecDepth 100000 in
theorem t_X9_firstDraft_32 {d : Nat}    {o : pm} {rρ : pm} {K59 : pm → Option pm} (hK59 : ∀ (ρ : pm), K59 ρ = some rρ → ci_T yX9_firstDraft cX9_firstDraft 2 none d 59 ([(0, .ref 63)], [], pk false ρ o) (pV false rρ o)) : ∀ (n : Nat) (l1 : Int) (ρ : pm), L_X9_firstDraft_32 K59 n l1 ρ = some rρ → ci_T yX9_firstDraft cX9_firstDraft 2 none d 32 ([(0, .ref 63), (1, .int (Int32.ofInt l1))], [], pk false ρ o) (pV false rρ o) := by
  intro n
  induction n with
  | zero =>
    intro l1 ρ h
    rw [L_X9_firstDraft_32] at h
    cases h
  | succ n ih =>
    intro l1 ρ h
    rw [L_X9_firstDraft_32] at h
    obtain ⟨h7, h⟩ := ck_some h
    refine ci_T.step cb_X9_firstDraft_32 (ci_sq rfl (ci_sq (pe_push pc_25) (pe_ic_ge h7 pR_25))) ?_
    refine pbr h (fun hc h => ?_) (fun hc h => ?_)
    · exact ci_T.sub [0] (hK59 _ h) rfl
    · obtain ⟨h8, h⟩ := ck_some h
      replace h := jn_some h
      replace h := jn_some h
      replace h := jn_some h
      refine ci_T.step cb_X9_firstDraft_38 (ci_sq rfl (ci_sq (pe_getR tq_62 rfl rfl) (ci_sq rfl (ci_sq (pe_push pc_0) (ci_sq (pe_ast (nI := 25) tq_66 rfl rfl h8 rfl) (ci_sq rfl (ci_sq (pe_getR tq_62 rfl rfl) (ci_sq rfl (ci_sq (pe_push pc_m4) (ci_sq (pe_ast (nI := 25) tq_68 rfl rfl h8 rfl) (ci_sq (pe_inc rfl) rfl))))))))))) ?_
      exact ci_T.sub [1, 0] (ih _ _ h) rfl
set_option maxRecDepth 100000 in
theorem t_X9_firstDraft_61 {d : Nat}    {o : pm} {rρ : pm} {K86 : pm → Option pm} (hK86 : ∀ (ρ : pm), K86 ρ = some rρ → ci_T yX9_firstDraft cX9_firstDraft 2 none d 86 ([(0, .ref 63)], [], pk false ρ o) (pV false rρ o)) : ∀ (n : Nat) (l1 : Int) (ρ : pm), L_X9_firstDraft_61 K86 n l1 ρ = some rρ → ci_T yX9_firstDraft cX9_firstDraft 2 none d 61 ([(0, .ref 63), (1, .int (Int32.ofInt l1))], [], pk false ρ o) (pV false rρ o) := by
  intro n
  induction n with
  | zero =>
    intro l1 ρ h
    rw [L_X9_firstDraft_61] at h
    cases h
  | succ n ih =>
    intro l1 ρ h
    rw [L_X9_firstDraft_61] at h
    obtain ⟨h12, h⟩ := ck_some h
    refine ci_T.step cb_X9_firstDraft_61 (ci_sq rfl (ci_sq (pe_push pc_3) (pe_ic_ge h12 pR_3))) ?_
    refine pbr h (fun hc h => ?_) (fun hc h => ?_)
    · exact ci_T.sub [0] (hK86 _ h) rfl
    · obtain ⟨h13, h⟩ := ck_some h
      replace h := jn_some h
      replace h := jn_some h
      replace h := jn_some h
      refine ci_T.step cb_X9_firstDraft_66 (ci_sq rfl (ci_sq (pe_getR tq_62 rfl rfl) (ci_sq rfl (ci_sq (pe_push pc_0) (ci_sq (pe_ast (nI := 3) tq_69 rfl rfl h13 rfl) (ci_sq rfl (ci_sq (pe_getR tq_62 rfl rfl) (ci_sq rfl (ci_sq (pe_push pc_0) (ci_sq (pe_ast (nI := 3) tq_67 rfl rfl h13 rfl) (ci_sq (pe_inc rfl) rfl))))))))))) ?_
      exact ci_T.sub [1, 0] (ih _ _ h) rfl
set_option maxRecDepth 100000 in
theorem s_X9_firstDraft (d : Nat)   {ρ : pm} (o : pm)  {rρ : pm} (h : f_X9_firstDraft ρ = some rρ) : ci_Met d (yX9_firstDraft, cX9_firstDraft, 2, none, [], 0, 0) [.ref 63] (pk false ρ o) (pV false rρ o) := by
  refine ci_met (by decide) (Nat.le_of_ble_eq_true rfl) ?_ ?_
  · rintro v w' ⟨rfl, rfl⟩
    trivial
  · change ci_T _ _ _ _ _ _ ([(0, .ref 63)], [], pk false ρ o) _
    unfold f_X9_firstDraft at h
    replace h := jn_some h
    replace h := jn_some h
    replace h := jn_some h
    replace h := jn_some h
    replace h := jn_some h
    replace h := jn_some h
    refine ci_T.step cb_X9_firstDraft_0 (ci_sq rfl (ci_sq (pe_push pc_3) (ci_sq (pe_putI (kI := 6) tq_62 rfl rfl rfl) (ci_sq rfl (ci_sq (pe_push pc_3) (ci_sq (pe_putI (kI := 7) tq_62 rfl rfl rfl) (ci_sq rfl (ci_sq (pe_push pc_0) (ci_sq (pe_putI (kI := 8) tq_62 rfl rfl rfl) (ci_sq rfl (ci_sq (pe_push pc_0) (ci_sq (pe_putI (kI := 9) tq_62 rfl rfl rfl) (ci_sq rfl (ci_sq (pe_push pc_0) (ci_sq (pe_putI (kI := 10) tq_62 rfl rfl rfl) (ci_sq rfl (ci_sq (pe_push pc_0) (ci_sq (pe_putI (kI := 11) tq_62 rfl rfl rfl) (ci_sq (pe_push pc_0) rfl))))))))))))))))))) ?_
    refine ci_T.sub [1, 0] (t_X9_firstDraft_32 ?_ fu _ _ h) rfl
    · intro ρ h
      refine ci_T.step cb_X9_firstDraft_59 (ci_sq (pe_push pc_0) rfl) ?_
      refine ci_T.sub [1, 0] (t_X9_firstDraft_61 ?_ fu _ _ h) rfl
      · intro ρ h
        replace h := jn_some h
        replace h := jn_some h
        replace h := jn_some h
        replace h := jn_some h
        replace h := jn_some h
        replace h := jn_some h
        refine ci_T.step cb_X9_firstDraft_86 (ci_sq rfl (ci_sq (pe_push pc_0) (ci_sq (pe_putI (kI := 16) tq_62 rfl rfl rfl) (ci_sq rfl (ci_sq (pe_push pc_0) (ci_sq (pe_putI (kI := 17) tq_62 rfl rfl rfl) (ci_sq rfl (ci_sq (pe_push pc_m4) (ci_sq (pe_putI (kI := 18) tq_62 rfl rfl rfl) (ci_sq rfl (ci_sq (pe_push pc_m4) (ci_sq (pe_putI (kI := 19) tq_62 rfl rfl rfl) (ci_sq rfl (ci_sq (pe_push pc_m4) (ci_sq (pe_putI (kI := 20) tq_62 rfl rfl rfl) (ci_sq rfl (ci_sq (pe_push pc_m4) (pe_putI (kI := 21) tq_62 rfl rfl rfl)))))))))))))))))) ?_
        cases h
        exact ci_T.done (v := none) cd_X9_firstDraft_120 ⟨rfl, rfl⟩
/-- X9_keepDraft -/
def L_X9_keepDraft_2 (K21 : pm → Option pm) : Nat → Int → pm → Option pm
  | 0, _, _ => none
  | n + 1, l1, ρ => ck (inR l1) (if 56 ≤ l1 then K21 ρ else ck (0 ≤ l1 ∧ l1 < 168) (jn (pup ρ 63 l1 0) (fun ρ3 => jn (l1 + 1) (fun x4 => L_X9_keepDraft_2 K21 n x4 ρ3))))
def L_X9_keepDraft_47 (K116 : pm → Option pm) : Nat → Int → pm → Option pm
  | 0, _, _ => none
  | n + 1, l1, ρ => ck (inR l1) (if 25 ≤ l1 then K116 ρ else ck (0 ≤ l1 ∧ l1 < 25) (jn (pup ρ 65 l1 (ρ 68 l1)) (fun ρ10 => ck (inR ((ρ10 62 2) * (ρ10 62 3))) (jn (fun (l1 s1 s2 : Int) (ρ : pm) => ck (0 ≤ s1 ∧ s1 < 168) (jn (pup ρ 63 s1 s2) (fun ρ13 => jn (l1 + 1) (fun x14 => L_X9_keepDraft_47 K116 n x14 ρ13)))) (fun j109 => if ((ρ10 62 2) * (ρ10 62 3)) ≤ l1 then j109 l1 l1 0 ρ10 else ck (inR (ρ10 62 2)) (ck ((ρ10 62 2) ≠ 0) (ck (0 ≤ (5 * (Int.tdiv l1 (ρ10 62 2))) + (Int.tmod l1 (ρ10 62 2)) ∧ (5 * (Int.tdiv l1 (ρ10 62 2))) + (Int.tmod l1 (ρ10 62 2)) < 25) (j109 l1 l1 (3 * (ρ10 66 ((5 * (Int.tdiv l1 (ρ10 62 2))) + (Int.tmod l1 (ρ10 62 2))))) ρ10))))))))
def L_X9_keepDraft_151 (K177 : pm → Option pm) : Nat → Int → pm → Option pm
  | 0, _, _ => none
  | n + 1, l1, ρ => ck (inR l1) (if 3 ≤ l1 then K177 ρ else ck (0 ≤ l1 ∧ l1 < 3) (ck (0 ≤ 28 + l1 ∧ 28 + l1 < 168) (jn (pup ρ 63 (28 + l1) (ρ 67 l1)) (fun ρ24 => jn (l1 + 1) (fun x25 => L_X9_keepDraft_151 K177 n x25 ρ24)))))
def f_X9_keepDraft (ρ : pm) : Option pm := L_X9_keepDraft_2 (fun (ρ : pm) => jn (pup ρ 62 2 (ρ 62 6)) (fun ρ5 => jn (pup ρ5 62 3 (ρ5 62 7)) (fun ρ6 => jn (pup ρ6 62 4 (ρ6 62 9)) (fun ρ7 => L_X9_keepDraft_47 (fun (ρ : pm) => jn (pup ρ 63 25 (ρ 62 8)) (fun ρ18 => jn (pup ρ18 63 26 (ρ18 62 10)) (fun ρ19 => jn (pup ρ19 63 27 (ρ19 62 11)) (fun ρ20 => L_X9_keepDraft_151 (fun (ρ : pm) => jn (pup ρ 64 0 0) (fun ρ26 => jn (pup ρ26 64 1 0) (fun ρ27 => some ρ27))) fu 0 ρ20)))) fu 0 ρ7)))) fu 0 ρ
set_option maxRecDepth 100000 in
theorem t_X9_keepDraft_2 {d : Nat}    {o : pm} {rρ : pm} {K21 : pm → Option pm} (hK21 : ∀ (ρ : pm), K21 ρ = some rρ → ci_T yX9_keepDraft cX9_keepDraft 2 none d 21 ([(0, .ref 63)], [], pk false ρ o) (pV false rρ o)) : ∀ (n : Nat) (l1 : Int) (ρ : pm), L_X9_keepDraft_2 K21 n l1 ρ = some rρ → ci_T yX9_keepDraft cX9_keepDraft 2 none d 2 ([(0, .ref 63), (1, .int (Int32.ofInt l1))], [], pk false ρ o) (pV false rρ o) := by
  intro n
  induction n with
  | zero =>
    intro l1 ρ h
    rw [L_X9_keepDraft_2] at h
    cases h
  | succ n ih =>
    intro l1 ρ h
    rw [L_X9_keepDraft_2] at h
    obtain ⟨h1, h⟩ := ck_some h
    refine ci_T.step cb_X9_keepDraft_2 (ci_sq rfl (ci_sq (pe_push pc_56) (pe_ic_ge h1 pR_56))) ?_
    refine pbr h (fun hc h => ?_) (fun hc h => ?_)
    · exact ci_T.sub [0] (hK21 _ h) rfl
    · obtain ⟨h2, h⟩ := ck_some h
      replace h := jn_some h
      replace h := jn_some h
      refine ci_T.step cb_X9_keepDraft_8 (ci_sq rfl (ci_sq (pe_getR tq_62 rfl rfl) (ci_sq rfl (ci_sq (pe_push pc_0) (ci_sq (pe_ast (nI := 168) tq_63 rfl rfl h2 rfl) (ci_sq (pe_inc rfl) rfl)))))) ?_
      exact ci_T.sub [1, 0] (ih _ _ h) rfl
set_option maxRecDepth 100000 in
theorem t_X9_keepDraft_47 {d : Nat}    {o : pm} {rρ : pm} {K116 : pm → Option pm} (hK116 : ∀ (ρ : pm), K116 ρ = some rρ → ci_T yX9_keepDraft cX9_keepDraft 2 none d 116 ([(0, .ref 63)], [], pk false ρ o) (pV false rρ o)) : ∀ (n : Nat) (l1 : Int) (ρ : pm), L_X9_keepDraft_47 K116 n l1 ρ = some rρ → ci_T yX9_keepDraft cX9_keepDraft 2 none d 47 ([(0, .ref 63), (1, .int (Int32.ofInt l1))], [], pk false ρ o) (pV false rρ o) := by
  intro n
  induction n with
  | zero =>
    intro l1 ρ h
    rw [L_X9_keepDraft_47] at h
    cases h
  | succ n ih =>
    intro l1 ρ h
    rw [L_X9_keepDraft_47] at h
    obtain ⟨h8, h⟩ := ck_some h
    refine ci_T.step cb_X9_keepDraft_47 (ci_sq rfl (ci_sq (pe_push pc_25) (pe_ic_ge h8 pR_25))) ?_
    refine pbr h (fun hc h => ?_) (fun hc h => ?_)
    · exact ci_T.sub [0] (hK116 _ h) rfl
    · obtain ⟨h9, h⟩ := ck_some h
      replace h := jn_some h
      obtain ⟨h11, h⟩ := ck_some h
      refine ci_T.step cb_X9_keepDraft_53 (ci_sq rfl (ci_sq (pe_getR tq_62 rfl rfl) (ci_sq rfl (ci_sq rfl (ci_sq (pe_getR tq_62 rfl rfl) (ci_sq rfl (ci_sq (pe_ald (nI := 25) tq_68 rfl rfl h9) (ci_sq (pe_ast (nI := 25) tq_65 rfl rfl h9 rfl) (ci_sq rfl (ci_sq (pe_getR tq_62 rfl rfl) (ci_sq rfl (ci_sq rfl (ci_sq rfl (ci_sq (pe_getI (kI := 2) tq_62 rfl rfl rfl) (ci_sq rfl (ci_sq (pe_getI (kI := 3) tq_62 rfl rfl rfl) (ci_sq pe_imul (pe_ic_ge h8 h11)))))))))))))))))) ?_
      obtain ⟨j109, hj, h⟩ := jn_ex h
      have J109 : ∀ (l1 s1 s2 : Int) (ρ : pm), j109 l1 s1 s2 ρ = some rρ → ci_T yX9_keepDraft cX9_keepDraft 2 none d 109 ([(0, .ref 63), (1, .int (Int32.ofInt l1))], [.int (Int32.ofInt s2), .int (Int32.ofInt s1), .ref 64], pk false ρ o) (pV false rρ o) := by
        intro l1 s1 s2 ρ h
        subst hj
        obtain ⟨h12, h⟩ := ck_some h
        replace h := jn_some h
        replace h := jn_some h
        refine ci_T.step cb_X9_keepDraft_109 (ci_sq (pe_ast (nI := 168) tq_63 rfl rfl h12 rfl) (ci_sq (pe_inc rfl) rfl)) ?_
        exact ci_T.sub [1, 0] (ih _ _ h) rfl
      clear hj
      refine pbr h (fun hc h => ?_) (fun hc h => ?_)
      · refine ci_T.step cb_X9_keepDraft_108 (pe_push pc_0) ?_
        exact ci_T.sub [0, 1] (J109 _ _ _ _ h) rfl
      · obtain ⟨h15, h⟩ := ck_some h
        obtain ⟨h16, h⟩ := ck_some h
        obtain ⟨h17, h⟩ := ck_some h
        refine ci_T.step cb_X9_keepDraft_83 (ci_sq (pe_push pc_3) (ci_sq rfl (ci_sq (pe_getR tq_62 rfl rfl) (ci_sq (pe_push pc_5) (ci_sq rfl (ci_sq rfl (ci_sq (pe_getI (kI := 2) tq_62 rfl rfl rfl) (ci_sq (pe_idiv ⟨h8, h15, h16⟩) (ci_sq pe_imul (ci_sq rfl (ci_sq rfl (ci_sq (pe_getI (kI := 2) tq_62 rfl rfl rfl) (ci_sq (pe_irem ⟨h8, h15, h16⟩) (ci_sq pe_iadd (ci_sq (pe_ald (nI := 25) tq_66 rfl rfl h17) (ci_sq pe_imul rfl)))))))))))))))) ?_
        exact ci_T.sub [0, 1] (J109 _ _ _ _ h) rfl
set_option maxRecDepth 100000 in
theorem t_X9_keepDraft_151 {d : Nat}    {o : pm} {rρ : pm} {K177 : pm → Option pm} (hK177 : ∀ (ρ : pm), K177 ρ = some rρ → ci_T yX9_keepDraft cX9_keepDraft 2 none d 177 ([(0, .ref 63)], [], pk false ρ o) (pV false rρ o)) : ∀ (n : Nat) (l1 : Int) (ρ : pm), L_X9_keepDraft_151 K177 n l1 ρ = some rρ → ci_T yX9_keepDraft cX9_keepDraft 2 none d 151 ([(0, .ref 63), (1, .int (Int32.ofInt l1))], [], pk false ρ o) (pV false rρ o) := by
  intro n
  induction n with
  | zero =>
    intro l1 ρ h
    rw [L_X9_keepDraft_151] at h
    cases h
  | succ n ih =>
    intro l1 ρ h
    rw [L_X9_keepDraft_151] at h
    obtain ⟨h21, h⟩ := ck_some h
    refine ci_T.step cb_X9_keepDraft_151 (ci_sq rfl (ci_sq (pe_push pc_3) (pe_ic_ge h21 pR_3))) ?_
    refine pbr h (fun hc h => ?_) (fun hc h => ?_)
    · exact ci_T.sub [0] (hK177 _ h) rfl
    · obtain ⟨h22, h⟩ := ck_some h
      obtain ⟨h23, h⟩ := ck_some h
      replace h := jn_some h
      replace h := jn_some h
      refine ci_T.step cb_X9_keepDraft_156 (ci_sq rfl (ci_sq (pe_getR tq_62 rfl rfl) (ci_sq (pe_push pc_28) (ci_sq rfl (ci_sq pe_iadd (ci_sq rfl (ci_sq (pe_getR tq_62 rfl rfl) (ci_sq rfl (ci_sq (pe_ald (nI := 3) tq_67 rfl rfl h22) (ci_sq (pe_ast (nI := 168) tq_63 rfl rfl h23 rfl) (ci_sq (pe_inc rfl) rfl))))))))))) ?_
      exact ci_T.sub [1, 0] (ih _ _ h) rfl
set_option maxRecDepth 100000 in
theorem s_X9_keepDraft (d : Nat)   {ρ : pm} (o : pm)  {rρ : pm} (h : f_X9_keepDraft ρ = some rρ) : ci_Met d (yX9_keepDraft, cX9_keepDraft, 2, none, [], 0, 0) [.ref 63] (pk false ρ o) (pV false rρ o) := by
  refine ci_met (by decide) (Nat.le_of_ble_eq_true rfl) ?_ ?_
  · rintro v w' ⟨rfl, rfl⟩
    trivial
  · change ci_T _ _ _ _ _ _ ([(0, .ref 63)], [], pk false ρ o) _
    unfold f_X9_keepDraft at h
    refine ci_T.step cb_X9_keepDraft_0 (ci_sq (pe_push pc_0) rfl) ?_
    refine ci_T.sub [1, 0] (t_X9_keepDraft_2 ?_ fu _ _ h) rfl
    · intro ρ h
      replace h := jn_some h
      replace h := jn_some h
      replace h := jn_some h
      refine ci_T.step cb_X9_keepDraft_21 (ci_sq rfl (ci_sq rfl (ci_sq (pe_getI (kI := 6) tq_62 rfl rfl rfl) (ci_sq (pe_putI (kI := 2) tq_62 rfl rfl rfl) (ci_sq rfl (ci_sq rfl (ci_sq (pe_getI (kI := 7) tq_62 rfl rfl rfl) (ci_sq (pe_putI (kI := 3) tq_62 rfl rfl rfl) (ci_sq rfl (ci_sq rfl (ci_sq (pe_getI (kI := 9) tq_62 rfl rfl rfl) (ci_sq (pe_putI (kI := 4) tq_62 rfl rfl rfl) (ci_sq (pe_push pc_0) rfl))))))))))))) ?_
      refine ci_T.sub [1, 0] (t_X9_keepDraft_47 ?_ fu _ _ h) rfl
      · intro ρ h
        replace h := jn_some h
        replace h := jn_some h
        replace h := jn_some h
        refine ci_T.step cb_X9_keepDraft_116 (ci_sq rfl (ci_sq (pe_getR tq_62 rfl rfl) (ci_sq (pe_push pc_25) (ci_sq rfl (ci_sq (pe_getI (kI := 8) tq_62 rfl rfl rfl) (ci_sq (pe_ast (nI := 168) tq_63 rfl rfl ⟨by decide, by decide⟩ rfl) (ci_sq rfl (ci_sq (pe_getR tq_62 rfl rfl) (ci_sq (pe_push pc_26) (ci_sq rfl (ci_sq (pe_getI (kI := 10) tq_62 rfl rfl rfl) (ci_sq (pe_ast (nI := 168) tq_63 rfl rfl ⟨by decide, by decide⟩ rfl) (ci_sq rfl (ci_sq (pe_getR tq_62 rfl rfl) (ci_sq (pe_push pc_27) (ci_sq rfl (ci_sq (pe_getI (kI := 11) tq_62 rfl rfl rfl) (ci_sq (pe_ast (nI := 168) tq_63 rfl rfl ⟨by decide, by decide⟩ rfl) (ci_sq (pe_push pc_0) rfl))))))))))))))))))) ?_
        refine ci_T.sub [1, 0] (t_X9_keepDraft_151 ?_ fu _ _ h) rfl
        · intro ρ h
          replace h := jn_some h
          replace h := jn_some h
          refine ci_T.step cb_X9_keepDraft_177 (ci_sq rfl (ci_sq (pe_getR tq_62 rfl rfl) (ci_sq (pe_push pc_0) (ci_sq (pe_push pc_0) (ci_sq (pe_ast (nI := 2) tq_64 rfl rfl ⟨by decide, by decide⟩ (by decide)) (ci_sq rfl (ci_sq (pe_getR tq_62 rfl rfl) (ci_sq (pe_push pc_1) (ci_sq (pe_push pc_0) (pe_ast (nI := 2) tq_64 rfl rfl ⟨by decide, by decide⟩ (by decide))))))))))) ?_
          cases h
          exact ci_T.done (v := none) cd_X9_keepDraft_191 ⟨rfl, rfl⟩
/-- X9_feed -/
def L_X9_feed_19  : Nat → Int → Int → pm → Option (Int × pm)
  | 0, _, _, _ => none
  | n + 1, l1, l3, ρ => ck (inR l3) (if l3 < 0 then some (ρ 62 23, ρ) else ck (0 ≤ ρ 62 23 ∧ ρ 62 23 < 320) (jn (pup ρ 70 (ρ 62 23) (land64 (lshr64 l1 l3) 255)) (fun ρ4 => jn (pup ρ4 62 23 ((ρ4 62 23) + 1)) (fun ρ5 => jn (l3 + (-8)) (fun x6 => L_X9_feed_19 n l1 x6 ρ5)))))
def f_X9_feed (l1 : Int) (ρ : pm) : Option (Int × pm) := ck (inR ((ρ 62 23) + 8)) (if ((ρ 62 23) + 8) ≤ 320 then L_X9_feed_19 fu l1 56 ρ else some ((-3), ρ))
set_option maxRecDepth 100000 in
theorem t_X9_feed_19 {d : Nat}    {o : pm} {rv : Int} {rρ : pm}   : ∀ (n : Nat) (l1 l3 : Int) (ρ : pm), L_X9_feed_19 n l1 l3 ρ = some (rv, rρ) → ci_T yX9_feed cX9_feed 4 (some .int) d 19 ([(0, .ref 63), (1, .long (Int64.ofInt l1)), (3, .int (Int32.ofInt l3))], [], pk false ρ o) (pP false rv rρ o) := by
  intro n
  induction n with
  | zero =>
    intro l1 l3 ρ h
    rw [L_X9_feed_19] at h
    cases h
  | succ n ih =>
    intro l1 l3 ρ h
    rw [L_X9_feed_19] at h
    obtain ⟨h2, h⟩ := ck_some h
    refine ci_T.step cb_X9_feed_19 (ci_sq rfl (pe_if_lt h2)) ?_
    refine pbr h (fun hc h => ?_) (fun hc h => ?_)
    · refine ci_T.step cb_X9_feed_56 (ci_sq rfl (pe_getI (kI := 23) tq_62 rfl rfl rfl)) ?_
      cases h
      exact ci_T.done (v := some (.int _)) cd_X9_feed_60 ⟨rfl, rfl⟩
    · obtain ⟨h3, h⟩ := ck_some h
      replace h := jn_some h
      replace h := jn_some h
      replace h := jn_some h
      refine ci_T.step cb_X9_feed_23 (ci_sq rfl (ci_sq (pe_getR tq_62 rfl rfl) (ci_sq rfl (ci_sq (pe_getI (kI := 23) tq_62 rfl rfl rfl) (ci_sq rfl (ci_sq rfl (ci_sq pe_lshr (ci_sq (pe_pushl pcl_255) (ci_sq pe_land (ci_sq pe_l2i (ci_sq (pe_ast (nI := 320) tq_70 rfl rfl h3 rfl) (ci_sq rfl (ci_sq rfl (ci_sq (pe_getI (kI := 23) tq_62 rfl rfl rfl) (ci_sq (pe_push pc_1) (ci_sq pe_iadd (ci_sq (pe_putI (kI := 23) tq_62 rfl rfl rfl) (ci_sq (pe_inc rfl) rfl)))))))))))))))))) ?_
      exact ci_T.sub [1, 2, 0] (ih _ _ _ h) rfl
set_option maxRecDepth 100000 in
theorem s_X9_feed (d : Nat)   {ρ : pm} (o : pm) {l1 : Int} {rv : Int} {rρ : pm} (h : f_X9_feed l1 ρ = some (rv, rρ)) : ci_Met d (yX9_feed, cX9_feed, 4, (some .int), [], 0, 0) [.ref 63, .long (Int64.ofInt l1)] (pk false ρ o) (pP false rv rρ o) := by
  refine ci_met (by decide) (Nat.le_of_ble_eq_true rfl) ?_ ?_
  · rintro v w' ⟨rfl, rfl⟩
    trivial
  · change ci_T _ _ _ _ _ _ ([(0, .ref 63), (1, .long (Int64.ofInt l1))], [], pk false ρ o) _
    unfold f_X9_feed at h
    obtain ⟨h1, h⟩ := ck_some h
    refine ci_T.step cb_X9_feed_0 (ci_sq rfl (ci_sq (pe_getI (kI := 23) tq_62 rfl rfl rfl) (ci_sq (pe_push pc_8) (ci_sq pe_iadd (ci_sq (pe_push pc_320) (pe_ic_le h1 pR_320)))))) ?_
    refine pbr h (fun hc h => ?_) (fun hc h => ?_)
    · refine ci_T.step cb_X9_feed_16 (ci_sq (pe_push pc_56) rfl) ?_
      exact ci_T.sub [1, 2, 0] (t_X9_feed_19 fu _ _ _ h) rfl
    · refine ci_T.step cb_X9_feed_13 (pe_push pc_m3) ?_
      cases h
      exact ci_T.done (v := some (.int _)) cd_X9_feed_15 ⟨rfl, rfl⟩
/-- X9_in -/
def f_X9_in (l0 l2 l4 : Int) : Option Int := ck (inL l0) (ck (inL l2) (if (lcm64 l0 l2) < 0 then some 0 else ck (inL l4) (if 0 < (lcm64 l0 l4) then some 0 else some 1)))
set_option maxRecDepth 100000 in
theorem s_X9_in (d : Nat)   {ρ : pm} (o : pm) {l0 l2 l4 : Int} {rv : Int} (h : f_X9_in l0 l2 l4 = some rv) : ci_Met d (yX9_in, cX9_in, 6, (some .boolean), [], 0, 0) [.long (Int64.ofInt l0), .long (Int64.ofInt l2), .long (Int64.ofInt l4)] (pk false ρ o) (pZ false rv ρ o) := by
  refine ci_met (by decide) (Nat.le_of_ble_eq_true rfl) ?_ ?_
  · rintro v w' ⟨⟨rfl, rfl⟩, hz⟩
    exact Z_of hz
  · change ci_T _ _ _ _ _ _ ([(0, .long (Int64.ofInt l0)), (2, .long (Int64.ofInt l2)), (4, .long (Int64.ofInt l4))], [], pk false ρ o) _
    unfold f_X9_in at h
    obtain ⟨h1, h⟩ := ck_some h
    obtain ⟨h2, h⟩ := ck_some h
    refine ci_T.step cb_X9_in_0 (ci_sq rfl (ci_sq rfl (ci_sq (pe_lcmp ⟨h1, h2⟩) (pe_if_lt (lcm64_R _ _))))) ?_
    refine pbr h (fun hc h => ?_) (fun hc h => ?_)
    · refine ci_T.step cb_X9_in_17 (pe_push pc_0) ?_
      cases h
      exact ci_T.done (v := some (.int _)) cd_X9_in_18 ⟨⟨rfl, rfl⟩, (Or.inl rfl)⟩
    · obtain ⟨h3, h⟩ := ck_some h
      refine ci_T.step cb_X9_in_6 (ci_sq rfl (ci_sq rfl (ci_sq (pe_lcmp ⟨h1, h3⟩) (pe_if_gt (lcm64_R _ _))))) ?_
      refine pbr h (fun hc h => ?_) (fun hc h => ?_)
      · refine ci_T.step cb_X9_in_17 (pe_push pc_0) ?_
        cases h
        exact ci_T.done (v := some (.int _)) cd_X9_in_18 ⟨⟨rfl, rfl⟩, (Or.inl rfl)⟩
      · refine ci_T.step cb_X9_in_13 (ci_sq (pe_push pc_1) rfl) ?_
        cases h
        exact ci_T.done (v := some (.int _)) cd_X9_in_18 ⟨⟨rfl, rfl⟩, (Or.inr rfl)⟩
/-- X9_end -/
def f_X9_end (l1 : Int) (ρ : pm) : Option (Int × pm) := ck (inR l1) (ck (inR (ρ 62 23)) ((f_X9_in l1 0 (ρ 62 23)).bind (fun v3 => if v3 = 0 then some ((-1), ρ) else jn (ρ 62 23) (fun x5 => jn (pup ρ 62 23 l1) (fun ρ6 => some (x5, ρ6))))))
set_option maxRecDepth 100000 in
theorem s_X9_end (d : Nat)   {ρ : pm} (o : pm) {l1 : Int} {rv : Int} {rρ : pm} (h : f_X9_end l1 ρ = some (rv, rρ)) : ci_Met (d + 1) (yX9_end, cX9_end, 3, (some .int), [], 0, 0) [.ref 63, .int (Int32.ofInt l1)] (pk false ρ o) (pP false rv rρ o) := by
  refine ci_met (by decide) (Nat.le_of_ble_eq_true rfl) ?_ ?_
  · rintro v w' ⟨rfl, rfl⟩
    trivial
  · change ci_T _ _ _ _ _ _ ([(0, .ref 63), (1, .int (Int32.ofInt l1))], [], pk false ρ o) _
    unfold f_X9_end at h
    obtain ⟨h1, h⟩ := ck_some h
    obtain ⟨h2, h⟩ := ck_some h
    refine ci_T.step cb_X9_end_0 (ci_sq rfl (ci_sq (pe_i2l h1) (ci_sq (pe_pushl pcl_0) (ci_sq rfl (ci_sq (pe_getI (kI := 23) tq_62 rfl rfl rfl) (pe_i2l h2)))))) ?_
    obtain ⟨v3, hv, h⟩ := bn_some h
    refine ci_T.call (as := [_, _, _]) (rest := []) kc_X9_in ki_X9_in (by decide) cl_X9_end_8 rfl (Nat.le_of_ble_eq_true rfl) trivial (s_X9_in d o hv) ?_
    rintro _ _ ⟨⟨rfl, rfl⟩, hz4⟩
    clear hv
    refine ci_T.step cb_X9_end_11 (pe_if_ne (Z_R hz4)) ?_
    refine pbrn h (fun hc h => ?_) (fun hc h => ?_)
    · replace h := jn_some h
      replace h := jn_some h
      refine ci_T.step cb_X9_end_16 (ci_sq rfl (ci_sq (pe_getI (kI := 23) tq_62 rfl rfl rfl) (ci_sq rfl (ci_sq rfl (ci_sq rfl (ci_sq (pe_putI (kI := 23) tq_62 rfl rfl rfl) rfl)))))) ?_
      cases h
      exact ci_T.done (v := some (.int _)) cd_X9_end_27 ⟨rfl, rfl⟩
    · refine ci_T.step cb_X9_end_14 (pe_push pc_m1) ?_
      cases h
      exact ci_T.done (v := some (.int _)) cd_X9_end_15 ⟨rfl, rfl⟩
/-- X9_needs -/
def f_X9_needs (l1 l2 : Int) (ρ : pm) : Option pm := ck (inR l1) (if l1 = 0 then ck (inR (ρ 62 28)) (if (ρ 62 28) = 0 then jn (pup ρ 62 28 l2) (fun ρ3 => jn (pup ρ3 62 29 (ρ3 62 25)) (fun ρ4 => some ρ4)) else some ρ) else some ρ)
set_option maxRecDepth 100000 in
theorem s_X9_needs (d : Nat)   {ρ : pm} (o : pm) {l1 l2 : Int} {rρ : pm} (h : f_X9_needs l1 l2 ρ = some rρ) : ci_Met d (yX9_needs, cX9_needs, 3, none, [], 0, 0) [.ref 63, .int (Int32.ofInt l1), .int (Int32.ofInt l2)] (pk false ρ o) (pV false rρ o) := by
  refine ci_met (by decide) (Nat.le_of_ble_eq_true rfl) ?_ ?_
  · rintro v w' ⟨rfl, rfl⟩
    trivial
  · change ci_T _ _ _ _ _ _ ([(0, .ref 63), (1, .int (Int32.ofInt l1)), (2, .int (Int32.ofInt l2))], [], pk false ρ o) _
    unfold f_X9_needs at h
    obtain ⟨h1, h⟩ := ck_some h
    refine ci_T.step cb_X9_needs_0 (ci_sq rfl (pe_if_ne h1)) ?_
    refine pbrn h (fun hc h => ?_) (fun hc h => ?_)
    · cases h
      exact ci_T.done (v := none) cd_X9_needs_24 ⟨rfl, rfl⟩
    · obtain ⟨h2, h⟩ := ck_some h
      refine ci_T.step cb_X9_needs_4 (ci_sq rfl (ci_sq (pe_getI (kI := 28) tq_62 rfl rfl rfl) (pe_if_ne h2))) ?_
      refine pbrn h (fun hc h => ?_) (fun hc h => ?_)
      · cases h
        exact ci_T.done (v := none) cd_X9_needs_24 ⟨rfl, rfl⟩
      · replace h := jn_some h
        replace h := jn_some h
        refine ci_T.step cb_X9_needs_11 (ci_sq rfl (ci_sq rfl (ci_sq (pe_putI (kI := 28) tq_62 rfl rfl rfl) (ci_sq rfl (ci_sq rfl (ci_sq (pe_getI (kI := 25) tq_62 rfl rfl rfl) (pe_putI (kI := 29) tq_62 rfl rfl rfl))))))) ?_
        cases h
        exact ci_T.done (v := none) cd_X9_needs_24 ⟨rfl, rfl⟩
/-- X9_look -/
def f_X9_look (l1 : Int) (ρ : pm) : Option Int := ck (inR l1) (ck (inR (ρ 62 23)) (if (ρ 62 23) ≤ l1 then some (-1) else ck (0 ≤ l1 ∧ l1 < 320) (some (ρ 70 l1))))
set_option maxRecDepth 100000 in
theorem s_X9_look (d : Nat)   {ρ : pm} (o : pm) {l1 : Int} {rv : Int} (h : f_X9_look l1 ρ = some rv) : ci_Met d (yX9_look, cX9_look, 2, (some .int), [], 0, 0) [.ref 63, .int (Int32.ofInt l1)] (pk false ρ o) (pP false rv ρ o) := by
  refine ci_met (by decide) (Nat.le_of_ble_eq_true rfl) ?_ ?_
  · rintro v w' ⟨rfl, rfl⟩
    trivial
  · change ci_T _ _ _ _ _ _ ([(0, .ref 63), (1, .int (Int32.ofInt l1))], [], pk false ρ o) _
    unfold f_X9_look at h
    obtain ⟨h1, h⟩ := ck_some h
    obtain ⟨h2, h⟩ := ck_some h
    refine ci_T.step cb_X9_look_0 (ci_sq rfl (ci_sq rfl (ci_sq (pe_getI (kI := 23) tq_62 rfl rfl rfl) (pe_ic_ge h1 h2)))) ?_
    refine pbr h (fun hc h => ?_) (fun hc h => ?_)
    · refine ci_T.step cb_X9_look_17 (pe_push pc_m1) ?_
      cases h
      exact ci_T.done (v := some (.int _)) cd_X9_look_18 ⟨rfl, rfl⟩
    · obtain ⟨h3, h⟩ := ck_some h
      refine ci_T.step cb_X9_look_8 (ci_sq rfl (ci_sq (pe_getR tq_62 rfl rfl) (ci_sq rfl (ci_sq (pe_ald (nI := 320) tq_70 rfl rfl h3) rfl)))) ?_
      cases h
      exact ci_T.done (v := some (.int _)) cd_X9_look_18 ⟨rfl, rfl⟩
/-- X9_is -/
def f_X9_is (l1 l2 l3 l4 : Int) (ρ : pm) : Option Int := ck (inR ((ρ 62 24) - (ρ 62 25))) (ck (inR l1) (if ((ρ 62 24) - (ρ 62 25)) = l1 then (f_X9_look (ρ 62 25) ρ).bind (fun v3 => ck (inR v3) (ck (inR l2) (if v3 = l2 then (f_X9_look ((ρ 62 25) + 1) ρ).bind (fun v6 => ck (inR v6) (ck (inR l3) (if v6 = l3 then (f_X9_look ((ρ 62 25) + 2) ρ).bind (fun v9 => ck (inR v9) (ck (inR l4) (if v9 = l4 then some 1 else some 0))) else some 0))) else some 0))) else some 0))
set_option maxRecDepth 100000 in
theorem s_X9_is (d : Nat)   {ρ : pm} (o : pm) {l1 l2 l3 l4 : Int} {rv : Int} (h : f_X9_is l1 l2 l3 l4 ρ = some rv) : ci_Met (d + 1) (yX9_is, cX9_is, 5, (some .boolean), [], 0, 0) [.ref 63, .int (Int32.ofInt l1), .int (Int32.ofInt l2), .int (Int32.ofInt l3), .int (Int32.ofInt l4)] (pk false ρ o) (pZ false rv ρ o) := by
  refine ci_met (by decide) (Nat.le_of_ble_eq_true rfl) ?_ ?_
  · rintro v w' ⟨⟨rfl, rfl⟩, hz⟩
    exact Z_of hz
  · change ci_T _ _ _ _ _ _ ([(0, .ref 63), (1, .int (Int32.ofInt l1)), (2, .int (Int32.ofInt l2)), (3, .int (Int32.ofInt l3)), (4, .int (Int32.ofInt l4))], [], pk false ρ o) _
    unfold f_X9_is at h
    obtain ⟨h1, h⟩ := ck_some h
    obtain ⟨h2, h⟩ := ck_some h
    refine ci_T.step cb_X9_is_0 (ci_sq rfl (ci_sq (pe_getI (kI := 24) tq_62 rfl rfl rfl) (ci_sq rfl (ci_sq (pe_getI (kI := 25) tq_62 rfl rfl rfl) (ci_sq pe_isub (ci_sq rfl (pe_ic_ne h1 h2))))))) ?_
    refine pbrn h (fun hc h => ?_) (fun hc h => ?_)
    · refine ci_T.step cb_X9_is_58 (pe_push pc_0) ?_
      cases h
      exact ci_T.done (v := some (.int _)) cd_X9_is_59 ⟨⟨rfl, rfl⟩, (Or.inl rfl)⟩
    · refine ci_T.step cb_X9_is_13 (ci_sq rfl (ci_sq rfl (pe_getI (kI := 25) tq_62 rfl rfl rfl))) ?_
      obtain ⟨v3, hv, h⟩ := bn_some h
      refine ci_T.call (as := [_, _]) (rest := []) kc_X9_look ki_X9_look (by decide) cl_X9_is_18 rfl (Nat.le_of_ble_eq_true rfl) ⟨⟨_, rfl⟩, _, _, _, rfl, pk_obj tq_62 rfl _ _⟩ (s_X9_look d o hv) ?_
      rintro _ _ ⟨rfl, rfl⟩
      clear hv
      obtain ⟨h4, h⟩ := ck_some h
      obtain ⟨h5, h⟩ := ck_some h
      refine ci_T.step cb_X9_is_21 (ci_sq rfl (pe_ic_ne h4 h5)) ?_
      refine pbrn h (fun hc h => ?_) (fun hc h => ?_)
      · refine ci_T.step cb_X9_is_58 (pe_push pc_0) ?_
        cases h
        exact ci_T.done (v := some (.int _)) cd_X9_is_59 ⟨⟨rfl, rfl⟩, (Or.inl rfl)⟩
      · refine ci_T.step cb_X9_is_25 (ci_sq rfl (ci_sq rfl (ci_sq (pe_getI (kI := 25) tq_62 rfl rfl rfl) (ci_sq (pe_push pc_1) pe_iadd)))) ?_
        obtain ⟨v6, hv, h⟩ := bn_some h
        refine ci_T.call (as := [_, _]) (rest := []) kc_X9_look ki_X9_look (by decide) cl_X9_is_32 rfl (Nat.le_of_ble_eq_true rfl) ⟨⟨_, rfl⟩, _, _, _, rfl, pk_obj tq_62 rfl _ _⟩ (s_X9_look d o hv) ?_
        rintro _ _ ⟨rfl, rfl⟩
        clear hv
        obtain ⟨h7, h⟩ := ck_some h
        obtain ⟨h8, h⟩ := ck_some h
        refine ci_T.step cb_X9_is_35 (ci_sq rfl (pe_ic_ne h7 h8)) ?_
        refine pbrn h (fun hc h => ?_) (fun hc h => ?_)
        · refine ci_T.step cb_X9_is_58 (pe_push pc_0) ?_
          cases h
          exact ci_T.done (v := some (.int _)) cd_X9_is_59 ⟨⟨rfl, rfl⟩, (Or.inl rfl)⟩
        · refine ci_T.step cb_X9_is_39 (ci_sq rfl (ci_sq rfl (ci_sq (pe_getI (kI := 25) tq_62 rfl rfl rfl) (ci_sq (pe_push pc_2) pe_iadd)))) ?_
          obtain ⟨v9, hv, h⟩ := bn_some h
          refine ci_T.call (as := [_, _]) (rest := []) kc_X9_look ki_X9_look (by decide) cl_X9_is_46 rfl (Nat.le_of_ble_eq_true rfl) ⟨⟨_, rfl⟩, _, _, _, rfl, pk_obj tq_62 rfl _ _⟩ (s_X9_look d o hv) ?_
          rintro _ _ ⟨rfl, rfl⟩
          clear hv
          obtain ⟨h10, h⟩ := ck_some h
          obtain ⟨h11, h⟩ := ck_some h
          refine ci_T.step cb_X9_is_49 (ci_sq rfl (pe_ic_ne h10 h11)) ?_
          refine pbrn h (fun hc h => ?_) (fun hc h => ?_)
          · refine ci_T.step cb_X9_is_58 (pe_push pc_0) ?_
            cases h
            exact ci_T.done (v := some (.int _)) cd_X9_is_59 ⟨⟨rfl, rfl⟩, (Or.inl rfl)⟩
          · refine ci_T.step cb_X9_is_54 (ci_sq (pe_push pc_1) rfl) ?_
            cases h
            exact ci_T.done (v := some (.int _)) cd_X9_is_59 ⟨⟨rfl, rfl⟩, (Or.inr rfl)⟩
/-- X9_ends -/
def f_X9_ends (l1 l2 l3 : Int) (ρ : pm) : Option Int := (f_X9_look ((ρ 62 25) + 3) ρ).bind (fun v1 => ck (inR v1) (ck (inR l1) (if v1 = l1 then ck (inR l2) (jn (fun (l3 : Int) => ck (inR l3) (if l3 = 0 then some 1 else (f_X9_look ((ρ 62 25) + 5) ρ).bind (fun v6 => ck (inR v6) (if v6 = l3 then some 1 else some 0)))) (fun j32 => if l2 = 0 then j32 l3 else (f_X9_look ((ρ 62 25) + 4) ρ).bind (fun v8 => ck (inR v8) (if v8 = l2 then j32 l3 else some 0)))) else some 0)))
set_option maxRecDepth 100000 in
theorem s_X9_ends (d : Nat)   {ρ : pm} (o : pm) {l1 l2 l3 : Int} {rv : Int} (h : f_X9_ends l1 l2 l3 ρ = some rv) : ci_Met (d + 1) (yX9_ends, cX9_ends, 4, (some .boolean), [], 0, 0) [.ref 63, .int (Int32.ofInt l1), .int (Int32.ofInt l2), .int (Int32.ofInt l3)] (pk false ρ o) (pZ false rv ρ o) := by
  refine ci_met (by decide) (Nat.le_of_ble_eq_true rfl) ?_ ?_
  · rintro v w' ⟨⟨rfl, rfl⟩, hz⟩
    exact Z_of hz
  · change ci_T _ _ _ _ _ _ ([(0, .ref 63), (1, .int (Int32.ofInt l1)), (2, .int (Int32.ofInt l2)), (3, .int (Int32.ofInt l3))], [], pk false ρ o) _
    unfold f_X9_ends at h
    refine ci_T.step cb_X9_ends_0 (ci_sq rfl (ci_sq rfl (ci_sq (pe_getI (kI := 25) tq_62 rfl rfl rfl) (ci_sq (pe_push pc_3) pe_iadd)))) ?_
    obtain ⟨v1, hv, h⟩ := bn_some h
    refine ci_T.call (as := [_, _]) (rest := []) kc_X9_look ki_X9_look (by decide) cl_X9_ends_7 rfl (Nat.le_of_ble_eq_true rfl) ⟨⟨_, rfl⟩, _, _, _, rfl, pk_obj tq_62 rfl _ _⟩ (s_X9_look d o hv) ?_
    rintro _ _ ⟨rfl, rfl⟩
    clear hv
    obtain ⟨h2, h⟩ := ck_some h
    obtain ⟨h3, h⟩ := ck_some h
    refine ci_T.step cb_X9_ends_10 (ci_sq rfl (pe_ic_ne h2 h3)) ?_
    refine pbrn h (fun hc h => ?_) (fun hc h => ?_)
    · refine ci_T.step cb_X9_ends_54 (pe_push pc_0) ?_
      cases h
      exact ci_T.done (v := some (.int _)) cd_X9_ends_55 ⟨⟨rfl, rfl⟩, (Or.inl rfl)⟩
    · obtain ⟨h4, h⟩ := ck_some h
      refine ci_T.step cb_X9_ends_14 (ci_sq rfl (pe_if_eq h4)) ?_
      obtain ⟨j32, hj, h⟩ := jn_ex h
      have J32 : ∀ (l3 : Int), j32 l3 = some rv → ci_T yX9_ends cX9_ends 4 (some .boolean) (d + 1) 32 ([(0, .ref 63), (3, .int (Int32.ofInt l3))], [], pk false ρ o) (pZ false rv ρ o) := by
        intro l3 h
        subst hj
        obtain ⟨h5, h⟩ := ck_some h
        refine ci_T.step cb_X9_ends_32 (ci_sq rfl (pe_if_eq h5)) ?_
        refine pbr h (fun hc h => ?_) (fun hc h => ?_)
        · refine ci_T.step cb_X9_ends_50 (ci_sq (pe_push pc_1) rfl) ?_
          cases h
          exact ci_T.done (v := some (.int _)) cd_X9_ends_55 ⟨⟨rfl, rfl⟩, (Or.inr rfl)⟩
        · refine ci_T.step cb_X9_ends_36 (ci_sq rfl (ci_sq rfl (ci_sq (pe_getI (kI := 25) tq_62 rfl rfl rfl) (ci_sq (pe_push pc_5) pe_iadd)))) ?_
          obtain ⟨v6, hv, h⟩ := bn_some h
          refine ci_T.call (as := [_, _]) (rest := []) kc_X9_look ki_X9_look (by decide) cl_X9_ends_43 rfl (Nat.le_of_ble_eq_true rfl) ⟨⟨_, rfl⟩, _, _, _, rfl, pk_obj tq_62 rfl _ _⟩ (s_X9_look d o hv) ?_
          rintro _ _ ⟨rfl, rfl⟩
          clear hv
          obtain ⟨h7, h⟩ := ck_some h
          refine ci_T.step cb_X9_ends_46 (ci_sq rfl (pe_ic_ne h7 h5)) ?_
          refine pbrn h (fun hc h => ?_) (fun hc h => ?_)
          · refine ci_T.step cb_X9_ends_54 (pe_push pc_0) ?_
            cases h
            exact ci_T.done (v := some (.int _)) cd_X9_ends_55 ⟨⟨rfl, rfl⟩, (Or.inl rfl)⟩
          · refine ci_T.step cb_X9_ends_50 (ci_sq (pe_push pc_1) rfl) ?_
            cases h
            exact ci_T.done (v := some (.int _)) cd_X9_ends_55 ⟨⟨rfl, rfl⟩, (Or.inr rfl)⟩
      clear hj
      refine pbr h (fun hc h => ?_) (fun hc h => ?_)
      · exact ci_T.sub [0, 3] (J32 _ h) rfl
      · refine ci_T.step cb_X9_ends_18 (ci_sq rfl (ci_sq rfl (ci_sq (pe_getI (kI := 25) tq_62 rfl rfl rfl) (ci_sq (pe_push pc_4) pe_iadd)))) ?_
        obtain ⟨v8, hv, h⟩ := bn_some h
        refine ci_T.call (as := [_, _]) (rest := []) kc_X9_look ki_X9_look (by decide) cl_X9_ends_25 rfl (Nat.le_of_ble_eq_true rfl) ⟨⟨_, rfl⟩, _, _, _, rfl, pk_obj tq_62 rfl _ _⟩ (s_X9_look d o hv) ?_
        rintro _ _ ⟨rfl, rfl⟩
        clear hv
        obtain ⟨h9, h⟩ := ck_some h
        refine ci_T.step cb_X9_ends_28 (ci_sq rfl (pe_ic_ne h9 h4)) ?_
        refine pbrn h (fun hc h => ?_) (fun hc h => ?_)
        · refine ci_T.step cb_X9_ends_54 (pe_push pc_0) ?_
          cases h
          exact ci_T.done (v := some (.int _)) cd_X9_ends_55 ⟨⟨rfl, rfl⟩, (Or.inl rfl)⟩
        · exact ci_T.sub [0, 3] (J32 _ h) rfl
/-- X9_ruleLine -/
def f_X9_ruleLine (ρ : pm) : Option Int := (f_X9_is 5 112 108 97 ρ).bind (fun v1 => jn ((f_X9_is 6 115 112 114 ρ).bind (fun v3 => jn ((f_X9_is 3 108 97 119 ρ).bind (fun v5 => if v5 = 0 then (f_X9_is 4 115 105 108 ρ).bind (fun v7 => if v7 = 0 then some (-4) else (f_X9_ends 116 0 0 ρ).bind (fun v9 => if v9 = 0 then some (-4) else some 3)) else some 2)) (fun j58 => if v3 = 0 then j58 else (f_X9_ends 105 110 103 ρ).bind (fun v11 => if v11 = 0 then j58 else some 1)))) (fun j28 => if v1 = 0 then j28 else (f_X9_ends 105 110 0 ρ).bind (fun v13 => if v13 = 0 then j28 else some 0)))
set_option maxRecDepth 100000 in
theorem s_X9_ruleLine (d : Nat)   {ρ : pm} (o : pm)  {rv : Int} (h : f_X9_ruleLine ρ = some rv) : ci_Met (d + 2) (yX9_ruleLine, cX9_ruleLine, 1, (some .int), [], 0, 0) [.ref 63] (pk false ρ o) (pP false rv ρ o) := by
  refine ci_met (by decide) (Nat.le_of_ble_eq_true rfl) ?_ ?_
  · rintro v w' ⟨rfl, rfl⟩
    trivial
  · change ci_T _ _ _ _ _ _ ([(0, .ref 63)], [], pk false ρ o) _
    unfold f_X9_ruleLine at h
    refine ci_T.step cb_X9_ruleLine_0 (ci_sq rfl (ci_sq (pe_push pc_5) (ci_sq (pe_push pc_112) (ci_sq (pe_push pc_108) (pe_push pc_97))))) ?_
    obtain ⟨v1, hv, h⟩ := bn_some h
    refine ci_T.call (as := [_, _, _, _, _]) (rest := []) kc_X9_is ki_X9_is (by decide) cl_X9_ruleLine_8 rfl (Nat.le_of_ble_eq_true rfl) ⟨⟨_, rfl⟩, _, _, _, rfl, pk_obj tq_62 rfl _ _⟩ (s_X9_is d o hv) ?_
    rintro _ _ ⟨⟨rfl, rfl⟩, hz2⟩
    clear hv
    refine ci_T.step cb_X9_ruleLine_11 (pe_if_eq (Z_R hz2)) ?_
    obtain ⟨j28, hj, h⟩ := jn_ex h
    have J28 : j28 = some rv → ci_T yX9_ruleLine cX9_ruleLine 1 (some .int) (d + 2) 28 ([(0, .ref 63)], [], pk false ρ o) (pP false rv ρ o) := by
      intro h
      subst hj
      refine ci_T.step cb_X9_ruleLine_28 (ci_sq rfl (ci_sq (pe_push pc_6) (ci_sq (pe_push pc_115) (ci_sq (pe_push pc_112) (pe_push pc_114))))) ?_
      obtain ⟨v3, hv, h⟩ := bn_some h
      refine ci_T.call (as := [_, _, _, _, _]) (rest := []) kc_X9_is ki_X9_is (by decide) cl_X9_ruleLine_37 rfl (Nat.le_of_ble_eq_true rfl) ⟨⟨_, rfl⟩, _, _, _, rfl, pk_obj tq_62 rfl _ _⟩ (s_X9_is d o hv) ?_
      rintro _ _ ⟨⟨rfl, rfl⟩, hz4⟩
      clear hv
      refine ci_T.step cb_X9_ruleLine_40 (pe_if_eq (Z_R hz4)) ?_
      obtain ⟨j58, hj, h⟩ := jn_ex h
      have J58 : j58 = some rv → ci_T yX9_ruleLine cX9_ruleLine 1 (some .int) (d + 2) 58 ([(0, .ref 63)], [], pk false ρ o) (pP false rv ρ o) := by
        intro h
        subst hj
        refine ci_T.step cb_X9_ruleLine_58 (ci_sq rfl (ci_sq (pe_push pc_3) (ci_sq (pe_push pc_108) (ci_sq (pe_push pc_97) (pe_push pc_119))))) ?_
        obtain ⟨v5, hv, h⟩ := bn_some h
        refine ci_T.call (as := [_, _, _, _, _]) (rest := []) kc_X9_is ki_X9_is (by decide) cl_X9_ruleLine_66 rfl (Nat.le_of_ble_eq_true rfl) ⟨⟨_, rfl⟩, _, _, _, rfl, pk_obj tq_62 rfl _ _⟩ (s_X9_is d o hv) ?_
        rintro _ _ ⟨⟨rfl, rfl⟩, hz6⟩
        clear hv
        refine ci_T.step cb_X9_ruleLine_69 (pe_if_eq (Z_R hz6)) ?_
        refine pbr h (fun hc h => ?_) (fun hc h => ?_)
        · refine ci_T.step cb_X9_ruleLine_76 (ci_sq rfl (ci_sq (pe_push pc_4) (ci_sq (pe_push pc_115) (ci_sq (pe_push pc_105) (pe_push pc_108))))) ?_
          obtain ⟨v7, hv, h⟩ := bn_some h
          refine ci_T.call (as := [_, _, _, _, _]) (rest := []) kc_X9_is ki_X9_is (by decide) cl_X9_ruleLine_84 rfl (Nat.le_of_ble_eq_true rfl) ⟨⟨_, rfl⟩, _, _, _, rfl, pk_obj tq_62 rfl _ _⟩ (s_X9_is d o hv) ?_
          rintro _ _ ⟨⟨rfl, rfl⟩, hz8⟩
          clear hv
          refine ci_T.step cb_X9_ruleLine_87 (pe_if_eq (Z_R hz8)) ?_
          refine pbr h (fun hc h => ?_) (fun hc h => ?_)
          · refine ci_T.step cb_X9_ruleLine_105 (pe_push pc_m4) ?_
            cases h
            exact ci_T.done (v := some (.int _)) cd_X9_ruleLine_107 ⟨rfl, rfl⟩
          · refine ci_T.step cb_X9_ruleLine_90 (ci_sq rfl (ci_sq (pe_push pc_116) (ci_sq (pe_push pc_0) (pe_push pc_0)))) ?_
            obtain ⟨v9, hv, h⟩ := bn_some h
            refine ci_T.call (as := [_, _, _, _]) (rest := []) kc_X9_ends ki_X9_ends (by decide) cl_X9_ruleLine_95 rfl (Nat.le_of_ble_eq_true rfl) ⟨⟨_, rfl⟩, _, _, _, rfl, pk_obj tq_62 rfl _ _⟩ (s_X9_ends d o hv) ?_
            rintro _ _ ⟨⟨rfl, rfl⟩, hz10⟩
            clear hv
            refine ci_T.step cb_X9_ruleLine_98 (pe_if_eq (Z_R hz10)) ?_
            refine pbr h (fun hc h => ?_) (fun hc h => ?_)
            · refine ci_T.step cb_X9_ruleLine_105 (pe_push pc_m4) ?_
              cases h
              exact ci_T.done (v := some (.int _)) cd_X9_ruleLine_107 ⟨rfl, rfl⟩
            · refine ci_T.step cb_X9_ruleLine_101 (ci_sq (pe_push pc_3) rfl) ?_
              cases h
              exact ci_T.done (v := some (.int _)) cd_X9_ruleLine_107 ⟨rfl, rfl⟩
        · refine ci_T.step cb_X9_ruleLine_72 (ci_sq (pe_push pc_2) rfl) ?_
          cases h
          exact ci_T.done (v := some (.int _)) cd_X9_ruleLine_107 ⟨rfl, rfl⟩
      clear hj
      refine pbr h (fun hc h => ?_) (fun hc h => ?_)
      · exact ci_T.sub [0] (J58 h) rfl
      · refine ci_T.step cb_X9_ruleLine_43 (ci_sq rfl (ci_sq (pe_push pc_105) (ci_sq (pe_push pc_110) (pe_push pc_103)))) ?_
        obtain ⟨v11, hv, h⟩ := bn_some h
        refine ci_T.call (as := [_, _, _, _]) (rest := []) kc_X9_ends ki_X9_ends (by decide) cl_X9_ruleLine_50 rfl (Nat.le_of_ble_eq_true rfl) ⟨⟨_, rfl⟩, _, _, _, rfl, pk_obj tq_62 rfl _ _⟩ (s_X9_ends d o hv) ?_
        rintro _ _ ⟨⟨rfl, rfl⟩, hz12⟩
        clear hv
        refine ci_T.step cb_X9_ruleLine_53 (pe_if_eq (Z_R hz12)) ?_
        refine pbr h (fun hc h => ?_) (fun hc h => ?_)
        · exact ci_T.sub [0] (J58 h) rfl
        · refine ci_T.step cb_X9_ruleLine_56 (pe_push pc_1) ?_
          cases h
          exact ci_T.done (v := some (.int _)) cd_X9_ruleLine_57 ⟨rfl, rfl⟩
    clear hj
    refine pbr h (fun hc h => ?_) (fun hc h => ?_)
    · exact ci_T.sub [0] (J28 h) rfl
    · refine ci_T.step cb_X9_ruleLine_14 (ci_sq rfl (ci_sq (pe_push pc_105) (ci_sq (pe_push pc_110) (pe_push pc_0)))) ?_
      obtain ⟨v13, hv, h⟩ := bn_some h
      refine ci_T.call (as := [_, _, _, _]) (rest := []) kc_X9_ends ki_X9_ends (by decide) cl_X9_ruleLine_20 rfl (Nat.le_of_ble_eq_true rfl) ⟨⟨_, rfl⟩, _, _, _, rfl, pk_obj tq_62 rfl _ _⟩ (s_X9_ends d o hv) ?_
      rintro _ _ ⟨⟨rfl, rfl⟩, hz14⟩
      clear hv
      refine ci_T.step cb_X9_ruleLine_23 (pe_if_eq (Z_R hz14)) ?_
      refine pbr h (fun hc h => ?_) (fun hc h => ?_)
      · exact ci_T.sub [0] (J28 h) rfl
      · refine ci_T.step cb_X9_ruleLine_26 (pe_push pc_0) ?_
        cases h
        exact ci_T.done (v := some (.int _)) cd_X9_ruleLine_27 ⟨rfl, rfl⟩
/-- X9_lineNow -/
def f_X9_lineNow (ρ : pm) : Option Int := (f_X9_is 3 114 111 119 ρ).bind (fun v1 => if v1 = 0 then (f_X9_is 4 102 97 114 ρ).bind (fun v3 => jn ((f_X9_is 6 103 114 111 ρ).bind (fun v5 => jn ((f_X9_ruleLine ρ).bind (fun v7 => some v7)) (fun j76 => if v5 = 0 then j76 else (f_X9_ends 117 110 100 ρ).bind (fun v8 => if v8 = 0 then j76 else some 6)))) (fun j43 => if v3 = 0 then j43 else (f_X9_ends 109 0 0 ρ).bind (fun v10 => if v10 = 0 then j43 else some 5))) else some 4)
set_option maxRecDepth 100000 in
theorem s_X9_lineNow (d : Nat)   {ρ : pm} (o : pm)  {rv : Int} (h : f_X9_lineNow ρ = some rv) : ci_Met (d + 3) (yX9_lineNow, cX9_lineNow, 1, (some .int), [], 0, 0) [.ref 63] (pk false ρ o) (pP false rv ρ o) := by
  refine ci_met (by decide) (Nat.le_of_ble_eq_true rfl) ?_ ?_
  · rintro v w' ⟨rfl, rfl⟩
    trivial
  · change ci_T _ _ _ _ _ _ ([(0, .ref 63)], [], pk false ρ o) _
    unfold f_X9_lineNow at h
    refine ci_T.step cb_X9_lineNow_0 (ci_sq rfl (ci_sq (pe_push pc_3) (ci_sq (pe_push pc_114) (ci_sq (pe_push pc_111) (pe_push pc_119))))) ?_
    obtain ⟨v1, hv, h⟩ := bn_some h
    refine ci_T.call (as := [_, _, _, _, _]) (rest := []) kc_X9_is ki_X9_is (by decide) cl_X9_lineNow_8 rfl (Nat.le_of_ble_eq_true rfl) ⟨⟨_, rfl⟩, _, _, _, rfl, pk_obj tq_62 rfl _ _⟩ (s_X9_is (d + 1) o hv) ?_
    rintro _ _ ⟨⟨rfl, rfl⟩, hz2⟩
    clear hv
    refine ci_T.step cb_X9_lineNow_11 (pe_if_eq (Z_R hz2)) ?_
    refine pbr h (fun hc h => ?_) (fun hc h => ?_)
    · refine ci_T.step cb_X9_lineNow_16 (ci_sq rfl (ci_sq (pe_push pc_4) (ci_sq (pe_push pc_102) (ci_sq (pe_push pc_97) (pe_push pc_114))))) ?_
      obtain ⟨v3, hv, h⟩ := bn_some h
      refine ci_T.call (as := [_, _, _, _, _]) (rest := []) kc_X9_is ki_X9_is (by decide) cl_X9_lineNow_24 rfl (Nat.le_of_ble_eq_true rfl) ⟨⟨_, rfl⟩, _, _, _, rfl, pk_obj tq_62 rfl _ _⟩ (s_X9_is (d + 1) o hv) ?_
      rintro _ _ ⟨⟨rfl, rfl⟩, hz4⟩
      clear hv
      refine ci_T.step cb_X9_lineNow_27 (pe_if_eq (Z_R hz4)) ?_
      obtain ⟨j43, hj, h⟩ := jn_ex h
      have J43 : j43 = some rv → ci_T yX9_lineNow cX9_lineNow 1 (some .int) (d + 3) 43 ([(0, .ref 63)], [], pk false ρ o) (pP false rv ρ o) := by
        intro h
        subst hj
        refine ci_T.step cb_X9_lineNow_43 (ci_sq rfl (ci_sq (pe_push pc_6) (ci_sq (pe_push pc_103) (ci_sq (pe_push pc_114) (pe_push pc_111))))) ?_
        obtain ⟨v5, hv, h⟩ := bn_some h
        refine ci_T.call (as := [_, _, _, _, _]) (rest := []) kc_X9_is ki_X9_is (by decide) cl_X9_lineNow_52 rfl (Nat.le_of_ble_eq_true rfl) ⟨⟨_, rfl⟩, _, _, _, rfl, pk_obj tq_62 rfl _ _⟩ (s_X9_is (d + 1) o hv) ?_
        rintro _ _ ⟨⟨rfl, rfl⟩, hz6⟩
        clear hv
        refine ci_T.step cb_X9_lineNow_55 (pe_if_eq (Z_R hz6)) ?_
        obtain ⟨j76, hj, h⟩ := jn_ex h
        have J76 : j76 = some rv → ci_T yX9_lineNow cX9_lineNow 1 (some .int) (d + 3) 76 ([(0, .ref 63)], [], pk false ρ o) (pP false rv ρ o) := by
          intro h
          subst hj
          refine ci_T.step cb_X9_lineNow_76 rfl ?_
          obtain ⟨v7, hv, h⟩ := bn_some h
          refine ci_T.call (as := [_]) (rest := []) kc_X9_ruleLine ki_X9_ruleLine (by decide) cl_X9_lineNow_77 rfl (Nat.le_of_ble_eq_true rfl) ⟨⟨_, rfl⟩, _, _, _, rfl, pk_obj tq_62 rfl _ _⟩ (s_X9_ruleLine d o hv) ?_
          rintro _ _ ⟨rfl, rfl⟩
          clear hv
          cases h
          exact ci_T.done (v := some (.int _)) cd_X9_lineNow_80 ⟨rfl, rfl⟩
        clear hj
        refine pbr h (fun hc h => ?_) (fun hc h => ?_)
        · exact ci_T.sub [0] (J76 h) rfl
        · refine ci_T.step cb_X9_lineNow_58 (ci_sq rfl (ci_sq (pe_push pc_117) (ci_sq (pe_push pc_110) (pe_push pc_100)))) ?_
          obtain ⟨v8, hv, h⟩ := bn_some h
          refine ci_T.call (as := [_, _, _, _]) (rest := []) kc_X9_ends ki_X9_ends (by decide) cl_X9_lineNow_65 rfl (Nat.le_of_ble_eq_true rfl) ⟨⟨_, rfl⟩, _, _, _, rfl, pk_obj tq_62 rfl _ _⟩ (s_X9_ends (d + 1) o hv) ?_
          rintro _ _ ⟨⟨rfl, rfl⟩, hz9⟩
          clear hv
          refine ci_T.step cb_X9_lineNow_68 (pe_if_eq (Z_R hz9)) ?_
          refine pbr h (fun hc h => ?_) (fun hc h => ?_)
          · exact ci_T.sub [0] (J76 h) rfl
          · refine ci_T.step cb_X9_lineNow_71 (ci_sq (pe_push pc_6) rfl) ?_
            cases h
            exact ci_T.done (v := some (.int _)) cd_X9_lineNow_80 ⟨rfl, rfl⟩
      clear hj
      refine pbr h (fun hc h => ?_) (fun hc h => ?_)
      · exact ci_T.sub [0] (J43 h) rfl
      · refine ci_T.step cb_X9_lineNow_30 (ci_sq rfl (ci_sq (pe_push pc_109) (ci_sq (pe_push pc_0) (pe_push pc_0)))) ?_
        obtain ⟨v10, hv, h⟩ := bn_some h
        refine ci_T.call (as := [_, _, _, _]) (rest := []) kc_X9_ends ki_X9_ends (by decide) cl_X9_lineNow_35 rfl (Nat.le_of_ble_eq_true rfl) ⟨⟨_, rfl⟩, _, _, _, rfl, pk_obj tq_62 rfl _ _⟩ (s_X9_ends (d + 1) o hv) ?_
        rintro _ _ ⟨⟨rfl, rfl⟩, hz11⟩
        clear hv
        refine ci_T.step cb_X9_lineNow_38 (pe_if_eq (Z_R hz11)) ?_
        refine pbr h (fun hc h => ?_) (fun hc h => ?_)
        · exact ci_T.sub [0] (J43 h) rfl
        · refine ci_T.step cb_X9_lineNow_41 (pe_push pc_5) ?_
          cases h
          exact ci_T.done (v := some (.int _)) cd_X9_lineNow_42 ⟨rfl, rfl⟩
    · refine ci_T.step cb_X9_lineNow_14 (pe_push pc_4) ?_
      cases h
      exact ci_T.done (v := some (.int _)) cd_X9_lineNow_15 ⟨rfl, rfl⟩
/-- X9_next -/
def L_X9_next_8 (K34 : pm → Option pm) : Nat → pm → Option pm
  | 0, _ => none
  | n + 1, ρ => (f_X9_look (ρ 62 24) ρ).bind (fun v2 => ck (inR v2) (if v2 = 32 then jn (pup ρ 62 24 ((ρ 62 24) + 1)) (fun ρ4 => L_X9_next_8 K34 n ρ4) else K34 ρ))
def L_X9_next_140 (K217 : pm → Option pm) : Nat → pm → Option pm
  | 0, _ => none
  | n + 1, ρ => (f_X9_look (ρ 62 24) ρ).bind (fun v17 => ck (inR v17) ((f_X9_in v17 48 57).bind (fun v19 => if v19 = 0 then K217 ρ else ck (inR ((ρ 62 24) - (ρ 62 25))) (jn (fun (s1 : Int) (ρ : pm) => jn (pup ρ 62 27 s1) (fun ρ22 => jn (pup ρ22 62 24 ((ρ22 62 24) + 1)) (fun ρ23 => L_X9_next_140 K217 n ρ23))) (fun j201 => if 2 ≤ ((ρ 62 24) - (ρ 62 25)) then j201 (ρ 62 27) ρ else (f_X9_look (ρ 62 24) ρ).bind (fun v24 => j201 (((10 * (ρ 62 27)) + v24) - 48) ρ))))))
def L_X9_next_82  : Nat → pm → Option pm
  | 0, _ => none
  | n + 1, ρ => (f_X9_look (ρ 62 24) ρ).bind (fun v28 => ck (inR v28) ((f_X9_in v28 97 122).bind (fun v30 => if v30 = 0 then some ρ else jn (pup ρ 62 24 ((ρ 62 24) + 1)) (fun ρ32 => L_X9_next_82 n ρ32))))
def f_X9_next (ρ : pm) : Option pm := ck (inR (ρ 62 28)) (if (ρ 62 28) ≤ 0 then L_X9_next_8 (fun (ρ : pm) => jn (pup ρ 62 25 (ρ 62 24)) (fun ρ5 => (f_X9_look (ρ5 62 24) ρ5).bind (fun v6 => ck (inR v6) (if 0 ≤ v6 then (f_X9_in v6 97 122).bind (fun v8 => if v8 = 0 then (f_X9_in v6 48 57).bind (fun v10 => if v10 = 0 then jn (pup ρ5 62 26 3) (fun ρ12 => jn (fun (s1 : Int) (ρ : pm) => (f_X9_needs s1 1 ρ).bind (fun ρ13 => jn (pup ρ13 62 24 ((ρ13 62 24) + 1)) (fun ρ14 => some ρ14))) (fun j260 => if v6 = 59 then j260 1 ρ12 else j260 0 ρ12)) else jn (pup ρ5 62 26 2) (fun ρ15 => jn (pup ρ15 62 27 0) (fun ρ16 => L_X9_next_140 (fun (ρ : pm) => ck (inR ((ρ 62 24) - (ρ 62 25))) (jn (fun (s1 : Int) (ρ : pm) => (f_X9_needs s1 1 ρ).bind (fun ρ26 => some ρ26)) (fun j236 => if 2 < ((ρ 62 24) - (ρ 62 25)) then j236 0 ρ else j236 1 ρ))) fu ρ16))) else jn (pup ρ5 62 26 1) (fun ρ27 => L_X9_next_82 fu ρ27)) else jn (pup ρ5 62 26 0) (fun ρ33 => some ρ33))))) fu ρ else some ρ)
set_option maxRecDepth 100000 in
theorem t_X9_next_8 {d : Nat}    {o : pm} {rρ : pm} {K34 : pm → Option pm} (hK34 : ∀ (ρ : pm), K34 ρ = some rρ → ci_T yX9_next cX9_next 2 none (d + 1) 34 ([(0, .ref 63)], [], pk false ρ o) (pV false rρ o)) : ∀ (n : Nat) (ρ : pm), L_X9_next_8 K34 n ρ = some rρ → ci_T yX9_next cX9_next 2 none (d + 1) 8 ([(0, .ref 63)], [], pk false ρ o) (pV false rρ o) := by
  intro n
  induction n with
  | zero =>
    intro ρ h
    rw [L_X9_next_8] at h
    cases h
  | succ n ih =>
    intro ρ h
    rw [L_X9_next_8] at h
    refine ci_T.step cb_X9_next_8 (ci_sq rfl (ci_sq rfl (pe_getI (kI := 24) tq_62 rfl rfl rfl))) ?_
    obtain ⟨v2, hv, h⟩ := bn_some h
    refine ci_T.call (as := [_, _]) (rest := []) kc_X9_look ki_X9_look (by decide) cl_X9_next_13 rfl (Nat.le_of_ble_eq_true rfl) ⟨⟨_, rfl⟩, _, _, _, rfl, pk_obj tq_62 rfl _ _⟩ (s_X9_look d o hv) ?_
    rintro _ _ ⟨rfl, rfl⟩
    clear hv
    obtain ⟨h3, h⟩ := ck_some h
    refine ci_T.step cb_X9_next_16 (ci_sq (pe_push pc_32) (pe_ic_ne h3 pR_32)) ?_
    refine pbrn h (fun hc h => ?_) (fun hc h => ?_)
    · exact ci_T.sub [0] (hK34 _ h) rfl
    · replace h := jn_some h
      refine ci_T.step cb_X9_next_21 (ci_sq rfl (ci_sq rfl (ci_sq (pe_getI (kI := 24) tq_62 rfl rfl rfl) (ci_sq (pe_push pc_1) (ci_sq pe_iadd (ci_sq (pe_putI (kI := 24) tq_62 rfl rfl rfl) rfl)))))) ?_
      exact ci_T.sub [0] (ih _ h) rfl
set_option maxRecDepth 100000 in
theorem t_X9_next_140 {d : Nat}    {o : pm} {rρ : pm} {K217 : pm → Option pm} (hK217 : ∀ (ρ : pm), K217 ρ = some rρ → ci_T yX9_next cX9_next 2 none (d + 1) 217 ([(0, .ref 63)], [], pk false ρ o) (pV false rρ o)) : ∀ (n : Nat) (ρ : pm), L_X9_next_140 K217 n ρ = some rρ → ci_T yX9_next cX9_next 2 none (d + 1) 140 ([(0, .ref 63)], [], pk false ρ o) (pV false rρ o) := by
  intro n
  induction n with
  | zero =>
    intro ρ h
    rw [L_X9_next_140] at h
    cases h
  | succ n ih =>
    intro ρ h
    rw [L_X9_next_140] at h
    refine ci_T.step cb_X9_next_140 (ci_sq rfl (ci_sq rfl (pe_getI (kI := 24) tq_62 rfl rfl rfl))) ?_
    obtain ⟨v17, hv, h⟩ := bn_some h
    refine ci_T.call (as := [_, _]) (rest := []) kc_X9_look ki_X9_look (by decide) cl_X9_next_145 rfl (Nat.le_of_ble_eq_true rfl) ⟨⟨_, rfl⟩, _, _, _, rfl, pk_obj tq_62 rfl _ _⟩ (s_X9_look d o hv) ?_
    rintro _ _ ⟨rfl, rfl⟩
    clear hv
    obtain ⟨h18, h⟩ := ck_some h
    refine ci_T.step cb_X9_next_148 (ci_sq (pe_i2l h18) (ci_sq (pe_pushl pcl_48) (pe_pushl pcl_57))) ?_
    obtain ⟨v19, hv, h⟩ := bn_some h
    refine ci_T.call (as := [_, _, _]) (rest := []) kc_X9_in ki_X9_in (by decide) cl_X9_next_155 rfl (Nat.le_of_ble_eq_true rfl) trivial (s_X9_in d o hv) ?_
    rintro _ _ ⟨⟨rfl, rfl⟩, hz20⟩
    clear hv
    refine ci_T.step cb_X9_next_158 (pe_if_eq (Z_R hz20)) ?_
    refine pbr h (fun hc h => ?_) (fun hc h => ?_)
    · exact ci_T.sub [0] (hK217 _ h) rfl
    · obtain ⟨h21, h⟩ := ck_some h
      refine ci_T.step cb_X9_next_161 (ci_sq rfl (ci_sq rfl (ci_sq (pe_getI (kI := 24) tq_62 rfl rfl rfl) (ci_sq rfl (ci_sq (pe_getI (kI := 25) tq_62 rfl rfl rfl) (ci_sq pe_isub (ci_sq (pe_push pc_2) (pe_ic_ge h21 pR_2)))))))) ?_
      obtain ⟨j201, hj, h⟩ := jn_ex h
      have J201 : ∀ (s1 : Int) (ρ : pm), j201 s1 ρ = some rρ → ci_T yX9_next cX9_next 2 none (d + 1) 201 ([(0, .ref 63)], [.int (Int32.ofInt s1), .ref 63], pk false ρ o) (pV false rρ o) := by
        intro s1 ρ h
        subst hj
        replace h := jn_some h
        replace h := jn_some h
        refine ci_T.step cb_X9_next_201 (ci_sq (pe_putI (kI := 27) tq_62 rfl rfl rfl) (ci_sq rfl (ci_sq rfl (ci_sq (pe_getI (kI := 24) tq_62 rfl rfl rfl) (ci_sq (pe_push pc_1) (ci_sq pe_iadd (ci_sq (pe_putI (kI := 24) tq_62 rfl rfl rfl) rfl))))))) ?_
        exact ci_T.sub [0] (ih _ h) rfl
      clear hj
      refine pbr h (fun hc h => ?_) (fun hc h => ?_)
      · refine ci_T.step cb_X9_next_197 (ci_sq rfl (pe_getI (kI := 27) tq_62 rfl rfl rfl)) ?_
        exact ci_T.sub [0] (J201 _ _ h) rfl
      · refine ci_T.step cb_X9_next_175 (ci_sq (pe_push pc_10) (ci_sq rfl (ci_sq (pe_getI (kI := 27) tq_62 rfl rfl rfl) (ci_sq pe_imul (ci_sq rfl (ci_sq rfl (pe_getI (kI := 24) tq_62 rfl rfl rfl))))))) ?_
        obtain ⟨v24, hv, h⟩ := bn_some h
        refine ci_T.call (as := [_, _]) (rest := [_, _]) kc_X9_look ki_X9_look (by decide) cl_X9_next_187 rfl (Nat.le_of_ble_eq_true rfl) ⟨⟨_, rfl⟩, _, _, _, rfl, pk_obj tq_62 rfl _ _⟩ (s_X9_look d o hv) ?_
        rintro _ _ ⟨rfl, rfl⟩
        clear hv
        refine ci_T.step cb_X9_next_190 (ci_sq pe_iadd (ci_sq (pe_push pc_48) (ci_sq pe_isub rfl))) ?_
        exact ci_T.sub [0] (J201 _ _ h) rfl
set_option maxRecDepth 100000 in
theorem t_X9_next_82 {d : Nat}    {o : pm} {rρ : pm}   : ∀ (n : Nat) (ρ : pm), L_X9_next_82 n ρ = some rρ → ci_T yX9_next cX9_next 2 none (d + 1) 82 ([(0, .ref 63)], [], pk false ρ o) (pV false rρ o) := by
  intro n
  induction n with
  | zero =>
    intro ρ h
    rw [L_X9_next_82] at h
    cases h
  | succ n ih =>
    intro ρ h
    rw [L_X9_next_82] at h
    refine ci_T.step cb_X9_next_82 (ci_sq rfl (ci_sq rfl (pe_getI (kI := 24) tq_62 rfl rfl rfl))) ?_
    obtain ⟨v28, hv, h⟩ := bn_some h
    refine ci_T.call (as := [_, _]) (rest := []) kc_X9_look ki_X9_look (by decide) cl_X9_next_87 rfl (Nat.le_of_ble_eq_true rfl) ⟨⟨_, rfl⟩, _, _, _, rfl, pk_obj tq_62 rfl _ _⟩ (s_X9_look d o hv) ?_
    rintro _ _ ⟨rfl, rfl⟩
    clear hv
    obtain ⟨h29, h⟩ := ck_some h
    refine ci_T.step cb_X9_next_90 (ci_sq (pe_i2l h29) (ci_sq (pe_pushl pcl_97) (pe_pushl pcl_122))) ?_
    obtain ⟨v30, hv, h⟩ := bn_some h
    refine ci_T.call (as := [_, _, _]) (rest := []) kc_X9_in ki_X9_in (by decide) cl_X9_next_97 rfl (Nat.le_of_ble_eq_true rfl) trivial (s_X9_in d o hv) ?_
    rintro _ _ ⟨⟨rfl, rfl⟩, hz31⟩
    clear hv
    refine ci_T.step cb_X9_next_100 (pe_if_eq (Z_R hz31)) ?_
    refine pbr h (fun hc h => ?_) (fun hc h => ?_)
    · cases h
      exact ci_T.done (v := none) cd_X9_next_274 ⟨rfl, rfl⟩
    · replace h := jn_some h
      refine ci_T.step cb_X9_next_103 (ci_sq rfl (ci_sq rfl (ci_sq (pe_getI (kI := 24) tq_62 rfl rfl rfl) (ci_sq (pe_push pc_1) (ci_sq pe_iadd (ci_sq (pe_putI (kI := 24) tq_62 rfl rfl rfl) rfl)))))) ?_
      exact ci_T.sub [0] (ih _ h) rfl
set_option maxRecDepth 100000 in
theorem s_X9_next (d : Nat)   {ρ : pm} (o : pm)  {rρ : pm} (h : f_X9_next ρ = some rρ) : ci_Met (d + 1) (yX9_next, cX9_next, 2, none, [], 0, 0) [.ref 63] (pk false ρ o) (pV false rρ o) := by
  refine ci_met (by decide) (Nat.le_of_ble_eq_true rfl) ?_ ?_
  · rintro v w' ⟨rfl, rfl⟩
    trivial
  · change ci_T _ _ _ _ _ _ ([(0, .ref 63)], [], pk false ρ o) _
    unfold f_X9_next at h
    obtain ⟨h1, h⟩ := ck_some h
    refine ci_T.step cb_X9_next_0 (ci_sq rfl (ci_sq (pe_getI (kI := 28) tq_62 rfl rfl rfl) (pe_if_le h1))) ?_
    refine pbr h (fun hc h => ?_) (fun hc h => ?_)
    · refine ci_T.sub [0] (t_X9_next_8 ?_ fu _ h) rfl
      · intro ρ h
        replace h := jn_some h
        refine ci_T.step cb_X9_next_34 (ci_sq rfl (ci_sq rfl (ci_sq (pe_getI (kI := 24) tq_62 rfl rfl rfl) (ci_sq (pe_putI (kI := 25) tq_62 rfl rfl rfl) (ci_sq rfl (ci_sq rfl (pe_getI (kI := 24) tq_62 rfl rfl rfl))))))) ?_
        obtain ⟨v6, hv, h⟩ := bn_some h
        refine ci_T.call (as := [_, _]) (rest := []) kc_X9_look ki_X9_look (by decide) cl_X9_next_47 rfl (Nat.le_of_ble_eq_true rfl) ⟨⟨_, rfl⟩, _, _, _, rfl, pk_obj tq_62 rfl _ _⟩ (s_X9_look d o hv) ?_
        rintro _ _ ⟨rfl, rfl⟩
        clear hv
        obtain ⟨h7, h⟩ := ck_some h
        refine ci_T.step cb_X9_next_50 (ci_sq rfl (ci_sq rfl (pe_if_ge h7))) ?_
        refine pbr h (fun hc h => ?_) (fun hc h => ?_)
        · refine ci_T.step cb_X9_next_63 (ci_sq rfl (ci_sq (pe_i2l h7) (ci_sq (pe_pushl pcl_97) (pe_pushl pcl_122)))) ?_
          obtain ⟨v8, hv, h⟩ := bn_some h
          refine ci_T.call (as := [_, _, _]) (rest := []) kc_X9_in ki_X9_in (by decide) cl_X9_next_71 rfl (Nat.le_of_ble_eq_true rfl) trivial (s_X9_in d o hv) ?_
          rintro _ _ ⟨⟨rfl, rfl⟩, hz9⟩
          clear hv
          refine ci_T.step cb_X9_next_74 (pe_if_eq (Z_R hz9)) ?_
          refine pbr h (fun hc h => ?_) (fun hc h => ?_)
          · refine ci_T.step cb_X9_next_116 (ci_sq rfl (ci_sq (pe_i2l h7) (ci_sq (pe_pushl pcl_48) (pe_pushl pcl_57)))) ?_
            obtain ⟨v10, hv, h⟩ := bn_some h
            refine ci_T.call (as := [_, _, _]) (rest := []) kc_X9_in ki_X9_in (by decide) cl_X9_next_124 rfl (Nat.le_of_ble_eq_true rfl) trivial (s_X9_in d o hv) ?_
            rintro _ _ ⟨⟨rfl, rfl⟩, hz11⟩
            clear hv
            refine ci_T.step cb_X9_next_127 (pe_if_eq (Z_R hz11)) ?_
            refine pbr h (fun hc h => ?_) (fun hc h => ?_)
            · replace h := jn_some h
              refine ci_T.step cb_X9_next_243 (ci_sq rfl (ci_sq (pe_push pc_3) (ci_sq (pe_putI (kI := 26) tq_62 rfl rfl rfl) (ci_sq rfl (ci_sq rfl (ci_sq (pe_push pc_59) (pe_ic_ne h7 pR_59))))))) ?_
              obtain ⟨j260, hj, h⟩ := jn_ex h
              have J260 : ∀ (s1 : Int) (ρ : pm), j260 s1 ρ = some rρ → ci_T yX9_next cX9_next 2 none (d + 1) 260 ([(0, .ref 63)], [.int (Int32.ofInt s1), .ref 63], pk false ρ o) (pV false rρ o) := by
                intro s1 ρ h
                subst hj
                refine ci_T.step cb_X9_next_260 (pe_push pc_1) ?_
                obtain ⟨ρ13, hv, h⟩ := bn_some h
                refine ci_T.call (as := [_, _, _]) (rest := []) kc_X9_needs ki_X9_needs (by decide) cl_X9_next_261 rfl (Nat.le_of_ble_eq_true rfl) ⟨⟨_, rfl⟩, _, _, _, rfl, pk_obj tq_62 rfl _ _⟩ (s_X9_needs d o hv) ?_
                rintro _ _ ⟨rfl, rfl⟩
                clear hv
                replace h := jn_some h
                refine ci_T.step cb_X9_next_264 (ci_sq rfl (ci_sq rfl (ci_sq (pe_getI (kI := 24) tq_62 rfl rfl rfl) (ci_sq (pe_push pc_1) (ci_sq pe_iadd (pe_putI (kI := 24) tq_62 rfl rfl rfl)))))) ?_
                cases h
                exact ci_T.done (v := none) cd_X9_next_274 ⟨rfl, rfl⟩
              clear hj
              refine pbrn h (fun hc h => ?_) (fun hc h => ?_)
              · refine ci_T.step cb_X9_next_259 (pe_push pc_0) ?_
                exact ci_T.sub [1] (J260 _ _ h) rfl
              · refine ci_T.step cb_X9_next_255 (ci_sq (pe_push pc_1) rfl) ?_
                exact ci_T.sub [1] (J260 _ _ h) rfl
            · replace h := jn_some h
              replace h := jn_some h
              refine ci_T.step cb_X9_next_130 (ci_sq rfl (ci_sq (pe_push pc_2) (ci_sq (pe_putI (kI := 26) tq_62 rfl rfl rfl) (ci_sq rfl (ci_sq (pe_push pc_0) (pe_putI (kI := 27) tq_62 rfl rfl rfl)))))) ?_
              refine ci_T.sub [1] (t_X9_next_140 ?_ fu _ h) rfl
              · intro ρ h
                obtain ⟨h25, h⟩ := ck_some h
                refine ci_T.step cb_X9_next_217 (ci_sq rfl (ci_sq rfl (ci_sq (pe_getI (kI := 24) tq_62 rfl rfl rfl) (ci_sq rfl (ci_sq (pe_getI (kI := 25) tq_62 rfl rfl rfl) (ci_sq pe_isub (ci_sq (pe_push pc_2) (pe_ic_gt h25 pR_2)))))))) ?_
                obtain ⟨j236, hj, h⟩ := jn_ex h
                have J236 : ∀ (s1 : Int) (ρ : pm), j236 s1 ρ = some rρ → ci_T yX9_next cX9_next 2 none (d + 1) 236 ([], [.int (Int32.ofInt s1), .ref 63], pk false ρ o) (pV false rρ o) := by
                  intro s1 ρ h
                  subst hj
                  refine ci_T.step cb_X9_next_236 (pe_push pc_1) ?_
                  obtain ⟨ρ26, hv, h⟩ := bn_some h
                  refine ci_T.call (as := [_, _, _]) (rest := []) kc_X9_needs ki_X9_needs (by decide) cl_X9_next_237 rfl (Nat.le_of_ble_eq_true rfl) ⟨⟨_, rfl⟩, _, _, _, rfl, pk_obj tq_62 rfl _ _⟩ (s_X9_needs d o hv) ?_
                  rintro _ _ ⟨rfl, rfl⟩
                  clear hv
                  refine ci_T.step cb_X9_next_240 rfl ?_
                  cases h
                  exact ci_T.done (v := none) cd_X9_next_274 ⟨rfl, rfl⟩
                clear hj
                refine pbr h (fun hc h => ?_) (fun hc h => ?_)
                · refine ci_T.step cb_X9_next_235 (pe_push pc_0) ?_
                  exact ci_T.sub [] (J236 _ _ h) rfl
                · refine ci_T.step cb_X9_next_231 (ci_sq (pe_push pc_1) rfl) ?_
                  exact ci_T.sub [] (J236 _ _ h) rfl
          · replace h := jn_some h
            refine ci_T.step cb_X9_next_77 (ci_sq rfl (ci_sq (pe_push pc_1) (pe_putI (kI := 26) tq_62 rfl rfl rfl))) ?_
            exact ci_T.sub [1] (t_X9_next_82 fu _ h) rfl
        · replace h := jn_some h
          refine ci_T.step cb_X9_next_55 (ci_sq rfl (ci_sq (pe_push pc_0) (ci_sq (pe_putI (kI := 26) tq_62 rfl rfl rfl) rfl))) ?_
          cases h
          exact ci_T.done (v := none) cd_X9_next_274 ⟨rfl, rfl⟩
    · cases h
      exact ci_T.done (v := none) cd_X9_next_7 ⟨rfl, rfl⟩
