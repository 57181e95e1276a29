/-- X8_tell -/
def f_X8_tell (l1 : Int) (ρ : pm) : Option (Int × pm) := (f_X8_isNumber l1).bind (fun v1 => if v1 = 0 then some ((-1), ρ) else ck (inR (ρ 4 5)) (if (ρ 4 5) < 6 then ck (0 ≤ ρ 4 5 ∧ ρ 4 5 < 6) (jn (pup ρ 6 (ρ 4 5) l1) (fun ρ5 => jn (pup ρ5 4 5 ((ρ5 4 5) + 1)) (fun ρ6 => some (ρ6 4 5, ρ6)))) else some ((-3), ρ)))
set_option maxRecDepth 100000 in
theorem s_X8_tell (d : Nat)   {ρ : pm} (o : pm) {l1 : Int} {rv : Int} {rρ : pm} (h : f_X8_tell l1 ρ = some (rv, rρ)) : ci_Met (d + 1) (yX8_tell, cX8_tell, 2, (some .int), [], 0, 0) [.ref 1, .int (Int32.ofInt l1)] (pk true ρ o) (pP true rv rρ o) := by
  refine ci_met (by decide) (Nat.le_of_ble_eq_true rfl) ?_ ?_
  · rintro v w' ⟨rfl, rfl⟩
    trivial
  · change ci_T _ _ _ _ _ _ ([(0, .ref 1), (1, .int (Int32.ofInt l1))], [], pk true ρ o) _
    unfold f_X8_tell at h
    refine ci_T.step cb_X8_tell_0 rfl ?_
    obtain ⟨v1, hv, h⟩ := bn_some h
    refine ci_T.call (as := [_]) (rest := []) kc_X8_isNumber ki_X8_isNumber (by decide) cl_X8_tell_1 rfl (Nat.le_of_ble_eq_true rfl) trivial (s_X8_isNumber d o hv) ?_
    rintro _ _ ⟨⟨rfl, rfl⟩, hz2⟩
    clear hv
    refine ci_T.step cb_X8_tell_4 (pe_if_ne (Z_R hz2)) ?_
    refine pbrn h (fun hc h => ?_) (fun hc h => ?_)
    · obtain ⟨h3, h⟩ := ck_some h
      refine ci_T.step cb_X8_tell_9 (ci_sq rfl (ci_sq (pe_getR tq_0 rfl rfl) (ci_sq (pe_getI (kI := 5) tq_4 rfl rfl rfl) (ci_sq (pe_push pc_6) (pe_ic_lt h3 pR_6))))) ?_
      refine pbr h (fun hc h => ?_) (fun hc h => ?_)
      · obtain ⟨h4, h⟩ := ck_some h
        replace h := jn_some h
        replace h := jn_some h
        refine ci_T.step cb_X8_tell_24 (ci_sq rfl (ci_sq (pe_getR tq_0 rfl rfl) (ci_sq (pe_getR tq_4 rfl rfl) (ci_sq rfl (ci_sq (pe_getR tq_0 rfl rfl) (ci_sq (pe_getI (kI := 5) tq_4 rfl rfl rfl) (ci_sq rfl (ci_sq (pe_ast (nI := 6) tq_6 rfl rfl h4 rfl) (ci_sq rfl (ci_sq (pe_getR tq_0 rfl rfl) (ci_sq rfl (ci_sq (pe_getI (kI := 5) tq_4 rfl rfl rfl) (ci_sq (pe_push pc_1) (ci_sq pe_iadd (ci_sq (pe_putI (kI := 5) tq_4 rfl rfl rfl) (ci_sq rfl (ci_sq (pe_getR tq_0 rfl rfl) (pe_getI (kI := 5) tq_4 rfl rfl rfl)))))))))))))))))) ?_
        cases h
        exact ci_T.done (v := some (.int _)) cd_X8_tell_60 ⟨rfl, rfl⟩
      · refine ci_T.step cb_X8_tell_21 (pe_push pc_m3) ?_
        cases h
        exact ci_T.done (v := some (.int _)) cd_X8_tell_23 ⟨rfl, rfl⟩
    · refine ci_T.step cb_X8_tell_7 (pe_push pc_m1) ?_
      cases h
      exact ci_T.done (v := some (.int _)) cd_X8_tell_8 ⟨rfl, rfl⟩
/-- X8_drop -/
def f_X8_drop (l1 : Int) (ρ : pm) : Option (Int × pm) := ck (inR l1) (if l1 < 0 then some ((-1), ρ) else ck (inR (ρ 4 5)) (if l1 ≤ (ρ 4 5) then jn (ρ 4 5) (fun x3 => jn (pup ρ 4 5 l1) (fun ρ4 => some (x3, ρ4))) else some ((-1), ρ)))
set_option maxRecDepth 100000 in
theorem s_X8_drop (d : Nat)   {ρ : pm} (o : pm) {l1 : Int} {rv : Int} {rρ : pm} (h : f_X8_drop l1 ρ = some (rv, rρ)) : ci_Met d (yX8_drop, cX8_drop, 3, (some .int), [], 0, 0) [.ref 1, .int (Int32.ofInt l1)] (pk true ρ o) (pP true rv rρ o) := by
  refine ci_met (by decide) (Nat.le_of_ble_eq_true rfl) ?_ ?_
  · rintro v w' ⟨rfl, rfl⟩
    trivial
  · change ci_T _ _ _ _ _ _ ([(0, .ref 1), (1, .int (Int32.ofInt l1))], [], pk true ρ o) _
    unfold f_X8_drop at h
    obtain ⟨h1, h⟩ := ck_some h
    refine ci_T.step cb_X8_drop_0 (ci_sq rfl (pe_if_lt h1)) ?_
    refine pbr h (fun hc h => ?_) (fun hc h => ?_)
    · refine ci_T.step cb_X8_drop_15 (pe_push pc_m1) ?_
      cases h
      exact ci_T.done (v := some (.int _)) cd_X8_drop_16 ⟨rfl, rfl⟩
    · obtain ⟨h2, h⟩ := ck_some h
      refine ci_T.step cb_X8_drop_4 (ci_sq rfl (ci_sq rfl (ci_sq (pe_getR tq_0 rfl rfl) (ci_sq (pe_getI (kI := 5) tq_4 rfl rfl rfl) (pe_ic_le h1 h2))))) ?_
      refine pbr h (fun hc h => ?_) (fun hc h => ?_)
      · replace h := jn_some h
        replace h := jn_some h
        refine ci_T.step cb_X8_drop_17 (ci_sq rfl (ci_sq (pe_getR tq_0 rfl rfl) (ci_sq (pe_getI (kI := 5) tq_4 rfl rfl rfl) (ci_sq rfl (ci_sq rfl (ci_sq (pe_getR tq_0 rfl rfl) (ci_sq rfl (ci_sq (pe_putI (kI := 5) tq_4 rfl rfl rfl) rfl)))))))) ?_
        cases h
        exact ci_T.done (v := some (.int _)) cd_X8_drop_34 ⟨rfl, rfl⟩
      · refine ci_T.step cb_X8_drop_15 (pe_push pc_m1) ?_
        cases h
        exact ci_T.done (v := some (.int _)) cd_X8_drop_16 ⟨rfl, rfl⟩
/-- X8_judge -/
def L_X8_judge_27 (K65 : Int → Int → Int → pm → Option (Int × pm)) : Nat → Int → Int → pm → Option (Int × pm)
  | 0, _, _, _ => none
  | n + 1, l1, l2, ρ => ck (inR l2) (ck (inR (ρ 4 5)) (if (ρ 4 5) ≤ l2 then some ((-4), ρ) else if 6 ≤ l2 then some ((-4), ρ) else ck (0 ≤ l2 ∧ l2 < 6) ((f_X2_refused 25 (ρ 6 l2) ρ).bind (fun v6 => ck (inR v6) (if v6 < 0 then (f_X2_pass 25 (ρ 6 l2) ρ).bind (fun ρ8 => jn (l2 + 1) (fun x9 => L_X8_judge_27 K65 n l1 x9 ρ8)) else K65 l1 l2 v6 ρ)))))
def f_X8_judge (l1 : Int) (ρ : pm) : Option (Int × pm) := ck (inR l1) (if l1 < 0 then some ((-1), ρ) else if l1 ≤ 1 then (f_X2_copy 25 8 ρ).bind (fun ρ2 => L_X8_judge_27 (fun (l1 l2 l3 : Int) (ρ : pm) => ck (inR l1) (if l1 = 0 then some (l2, ρ) else (f_X3_hasFarm l3 ρ).bind (fun v11 => if v11 = 0 then some ((-4), ρ) else some (l3, ρ)))) fu l1 0 ρ2) else some ((-1), ρ))
set_option maxRecDepth 100000 in
theorem t_X8_judge_27 {d : Nat}    {o : pm} {rv : Int} {rρ : pm} {K65 : Int → Int → Int → pm → Option (Int × pm)} (hK65 : ∀ (l1 l2 l3 : Int) (ρ : pm), K65 l1 l2 l3 ρ = some (rv, rρ) → ci_T yX8_judge cX8_judge 4 (some .int) (d + 4) 65 ([(0, .ref 1), (1, .int (Int32.ofInt l1)), (2, .int (Int32.ofInt l2)), (3, .int (Int32.ofInt l3))], [], pk true ρ o) (pP true rv rρ o)) : ∀ (n : Nat) (l1 l2 : Int) (ρ : pm), L_X8_judge_27 K65 n l1 l2 ρ = some (rv, rρ) → ci_T yX8_judge cX8_judge 4 (some .int) (d + 4) 27 ([(0, .ref 1), (1, .int (Int32.ofInt l1)), (2, .int (Int32.ofInt l2))], [], pk true ρ o) (pP true rv rρ o) := by
  intro n
  induction n with
  | zero =>
    intro l1 l2 ρ h
    rw [L_X8_judge_27] at h
    cases h
  | succ n ih =>
    intro l1 l2 ρ h
    rw [L_X8_judge_27] at h
    obtain ⟨h3, h⟩ := ck_some h
    obtain ⟨h4, h⟩ := ck_some h
    refine ci_T.step cb_X8_judge_27 (ci_sq rfl (ci_sq rfl (ci_sq (pe_getR tq_0 rfl rfl) (ci_sq (pe_getI (kI := 5) tq_4 rfl rfl rfl) (pe_ic_ge h3 h4))))) ?_
    refine pbr h (fun hc h => ?_) (fun hc h => ?_)
    · refine ci_T.step cb_X8_judge_113 (pe_push pc_m4) ?_
      cases h
      exact ci_T.done (v := some (.int _)) cd_X8_judge_115 ⟨rfl, rfl⟩
    · refine ci_T.step cb_X8_judge_38 (ci_sq rfl (ci_sq (pe_push pc_6) (pe_ic_ge h3 pR_6))) ?_
      refine pbr h (fun hc h => ?_) (fun hc h => ?_)
      · refine ci_T.step cb_X8_judge_113 (pe_push pc_m4) ?_
        cases h
        exact ci_T.done (v := some (.int _)) cd_X8_judge_115 ⟨rfl, rfl⟩
      · obtain ⟨h5, h⟩ := ck_some h
        refine ci_T.step cb_X8_judge_44 (ci_sq rfl (ci_sq (pe_getR tq_0 rfl rfl) (ci_sq rfl (ci_sq (pe_getR tq_0 rfl rfl) (ci_sq (pe_getR tq_4 rfl rfl) (ci_sq rfl (pe_ald (nI := 6) tq_6 rfl rfl h5))))))) ?_
        obtain ⟨v6, hv, h⟩ := bn_some h
        refine ci_T.call (as := [_, _]) (rest := []) kc_X2_refused ki_X2_refused (by decide) cl_X8_judge_57 rfl (Nat.le_of_ble_eq_true rfl) ⟨⟨_, rfl⟩, _, _, _, rfl, pk_obj tq_25 rfl _ _⟩ (s_X2_refused d 25 iF_25 o hv) ?_
        rintro _ _ ⟨rfl, rfl⟩
        clear hv
        obtain ⟨h7, h⟩ := ck_some h
        refine ci_T.step cb_X8_judge_60 (ci_sq rfl (ci_sq rfl (pe_if_lt h7))) ?_
        refine pbr h (fun hc h => ?_) (fun hc h => ?_)
        · refine ci_T.step cb_X8_judge_91 (ci_sq rfl (ci_sq (pe_getR tq_0 rfl rfl) (ci_sq rfl (ci_sq (pe_getR tq_0 rfl rfl) (ci_sq (pe_getR tq_4 rfl rfl) (ci_sq rfl (pe_ald (nI := 6) tq_6 rfl rfl h5))))))) ?_
          obtain ⟨ρ8, hv, h⟩ := bn_some h
          refine ci_T.call (as := [_, _]) (rest := []) kc_X2_pass ki_X2_pass (by decide) cl_X8_judge_104 rfl (Nat.le_of_ble_eq_true rfl) ⟨⟨_, rfl⟩, _, _, _, rfl, pk_obj tq_25 rfl _ _⟩ (s_X2_pass d 25 iF_25 o hv) ?_
          rintro _ _ ⟨rfl, rfl⟩
          clear hv
          replace h := jn_some h
          refine ci_T.step cb_X8_judge_107 (ci_sq (pe_inc rfl) rfl) ?_
          exact ci_T.sub [2, 3, 0] (ih _ _ _ h) rfl
        · exact ci_T.sub [1, 2, 3, 0] (hK65 _ _ _ _ h) rfl
set_option maxRecDepth 100000 in
theorem s_X8_judge (d : Nat)   {ρ : pm} (o : pm) {l1 : Int} {rv : Int} {rρ : pm} (h : f_X8_judge l1 ρ = some (rv, rρ)) : ci_Met (d + 4) (yX8_judge, cX8_judge, 4, (some .int), [], 0, 0) [.ref 1, .int (Int32.ofInt l1)] (pk true ρ o) (pP true rv rρ o) := by
  refine ci_met (by decide) (Nat.le_of_ble_eq_true rfl) ?_ ?_
  · rintro v w' ⟨rfl, rfl⟩
    trivial
  · change ci_T _ _ _ _ _ _ ([(0, .ref 1), (1, .int (Int32.ofInt l1))], [], pk true ρ o) _
    unfold f_X8_judge at h
    obtain ⟨h1, h⟩ := ck_some h
    refine ci_T.step cb_X8_judge_0 (ci_sq rfl (pe_if_lt h1)) ?_
    refine pbr h (fun hc h => ?_) (fun hc h => ?_)
    · refine ci_T.step cb_X8_judge_9 (pe_push pc_m1) ?_
      cases h
      exact ci_T.done (v := some (.int _)) cd_X8_judge_10 ⟨rfl, rfl⟩
    · refine ci_T.step cb_X8_judge_4 (ci_sq rfl (ci_sq (pe_push pc_1) (pe_ic_le h1 pR_1))) ?_
      refine pbr h (fun hc h => ?_) (fun hc h => ?_)
      · refine ci_T.step cb_X8_judge_11 (ci_sq rfl (ci_sq (pe_getR tq_0 rfl rfl) (ci_sq rfl (ci_sq (pe_getR tq_0 rfl rfl) (pe_getR tq_4 rfl rfl))))) ?_
        obtain ⟨ρ2, hv, h⟩ := bn_some h
        refine ci_T.call (as := [_, _]) (rest := []) kc_X2_copy ki_X2_copy (by decide) cl_X8_judge_22 rfl (Nat.le_of_ble_eq_true rfl) ⟨⟨_, rfl⟩, _, _, _, rfl, pk_obj tq_25 rfl _ _⟩ (s_X2_copy (d + 3) 25 8 iF_25 iF_8 o hv) ?_
        rintro _ _ ⟨rfl, rfl⟩
        clear hv
        refine ci_T.step cb_X8_judge_25 (ci_sq (pe_push pc_0) rfl) ?_
        refine ci_T.sub [1, 2, 0] (t_X8_judge_27 ?_ fu _ _ _ h) rfl
        · intro l1 l2 l3 ρ h
          obtain ⟨h10, h⟩ := ck_some h
          refine ci_T.step cb_X8_judge_65 (ci_sq rfl (pe_if_ne h10)) ?_
          refine pbrn h (fun hc h => ?_) (fun hc h => ?_)
          · refine ci_T.step cb_X8_judge_73 (ci_sq rfl (ci_sq (pe_getR tq_0 rfl rfl) rfl)) ?_
            obtain ⟨v11, hv, h⟩ := bn_some h
            refine ci_T.call (as := [_, _]) (rest := []) kc_X3_hasFarm ki_X3_hasFarm (by decide) cl_X8_judge_78 rfl (Nat.le_of_ble_eq_true rfl) ⟨⟨_, rfl⟩, _, _, _, rfl, pk_obj tq_1 rfl _ _⟩ (s_X3_hasFarm (d + 3) o hv) ?_
            rintro _ _ ⟨⟨rfl, rfl⟩, hz12⟩
            clear hv
            refine ci_T.step cb_X8_judge_81 (pe_if_eq (Z_R hz12)) ?_
            refine pbr h (fun hc h => ?_) (fun hc h => ?_)
            · refine ci_T.step cb_X8_judge_88 (pe_push pc_m4) ?_
              cases h
              exact ci_T.done (v := some (.int _)) cd_X8_judge_90 ⟨rfl, rfl⟩
            · refine ci_T.step cb_X8_judge_84 (ci_sq rfl rfl) ?_
              cases h
              exact ci_T.done (v := some (.int _)) cd_X8_judge_90 ⟨rfl, rfl⟩
          · refine ci_T.step cb_X8_judge_69 (ci_sq rfl rfl) ?_
            cases h
            exact ci_T.done (v := some (.int _)) cd_X8_judge_90 ⟨rfl, rfl⟩
      · refine ci_T.step cb_X8_judge_9 (pe_push pc_m1) ?_
        cases h
        exact ci_T.done (v := some (.int _)) cd_X8_judge_10 ⟨rfl, rfl⟩
/-- X8_numberOf -/
def f_X8_numberOf (l0 l1 : Int) : Option Int := ck (inR l1) (if l1 = 0 then some l0 else if l1 = 1 then some (l0 * 26) else if l1 = 2 then some ((l0 * 26) * 26) else some 0)
set_option maxRecDepth 100000 in
theorem s_X8_numberOf (d : Nat)   {ρ : pm} (o : pm) {l0 l1 : Int} {rv : Int} (h : f_X8_numberOf l0 l1 = some rv) : ci_Met d (yX8_numberOf, cX8_numberOf, 2, (some .int), [], 0, 0) [.int (Int32.ofInt l0), .int (Int32.ofInt l1)] (pk true ρ o) (pP true rv ρ o) := by
  refine ci_met (by decide) (Nat.le_of_ble_eq_true rfl) ?_ ?_
  · rintro v w' ⟨rfl, rfl⟩
    trivial
  · change ci_T _ _ _ _ _ _ ([(0, .int (Int32.ofInt l0)), (1, .int (Int32.ofInt l1))], [], pk true ρ o) _
    unfold f_X8_numberOf at h
    obtain ⟨h1, h⟩ := ck_some h
    refine ci_T.step cb_X8_numberOf_0 (ci_sq rfl (pe_tsw h1 rfl)) ?_
    refine pite h (fun hc2 h => ?_) (fun hc2 h => ?_)
    · refine tsw_T hc2 rfl ?_
      refine ci_T.step cb_X8_numberOf_28 rfl ?_
      cases h
      exact ci_T.done (v := some (.int _)) cd_X8_numberOf_29 ⟨rfl, rfl⟩
    refine pite h (fun hc3 h => ?_) (fun hc3 h => ?_)
    · refine tsw_T hc3 rfl ?_
      refine ci_T.step cb_X8_numberOf_30 (ci_sq rfl (ci_sq (pe_push pc_26) pe_imul)) ?_
      cases h
      exact ci_T.done (v := some (.int _)) cd_X8_numberOf_34 ⟨rfl, rfl⟩
    refine pite h (fun hc4 h => ?_) (fun hc4 h => ?_)
    · refine tsw_T hc4 rfl ?_
      refine ci_T.step cb_X8_numberOf_35 (ci_sq rfl (ci_sq (pe_push pc_26) (ci_sq pe_imul (ci_sq (pe_push pc_26) pe_imul)))) ?_
      cases h
      exact ci_T.done (v := some (.int _)) cd_X8_numberOf_42 ⟨rfl, rfl⟩
    refine tsw_D (hi := 2) rfl (by omega) ?_
    refine ci_T.step cb_X8_numberOf_43 (pe_push pc_0) ?_
    cases h
    exact ci_T.done (v := some (.int _)) cd_X8_numberOf_44 ⟨rfl, rfl⟩
/-- X0_brings37 -/
def f_X0_brings37 (l1 l2 l3 : Int) (ρ : pm) : Option (Int × pm) := ck (inR l3) (jn (fun (l2 : Int) (ρ : pm) => (f_X8_has (ρ 38 4) l2).bind (fun v2 => some (v2, ρ))) (fun j11 => if l3 ≤ 0 then j11 l2 ρ else j11 l2 ρ))
set_option maxRecDepth 100000 in
theorem s_X0_brings37 (d : Nat)   {ρ : pm} (o : pm) {l1 l2 l3 : Int} {rv : Int} {rρ : pm} (h : f_X0_brings37 l1 l2 l3 ρ = some (rv, rρ)) : ci_Met (d + 1) (yX0_brings, cX0_brings, 6, (some .boolean), [], 0, 0) [.ref 38, .int (Int32.ofInt l1), .int (Int32.ofInt l2), .int (Int32.ofInt l3)] (pk true ρ o) (pZ true rv rρ o) := by
  refine ci_met (by decide) (Nat.le_of_ble_eq_true rfl) ?_ ?_
  · rintro v w' ⟨⟨rfl, rfl⟩, hz⟩
    exact Z_of hz
  · change ci_T _ _ _ _ _ _ ([(0, .ref 38), (1, .int (Int32.ofInt l1)), (2, .int (Int32.ofInt l2)), (3, .int (Int32.ofInt l3))], [], pk true ρ o) _
    unfold f_X0_brings37 at h
    obtain ⟨h1, h⟩ := ck_some h
    refine ci_T.step cb_X0_brings_0 (ci_sq rfl (pe_if_le h1)) ?_
    obtain ⟨j11, hj, h⟩ := jn_ex h
    have J11 : ∀ (l2 : Int) (ρ : pm), j11 l2 ρ = some (rv, rρ) → ci_T yX0_brings cX0_brings 6 (some .boolean) (d + 1) 11 ([(0, .ref 38), (2, .int (Int32.ofInt l2))], [], pk true ρ o) (pZ true rv rρ o) := by
      intro l2 ρ h
      subst hj
      refine ci_T.step cb_X0_brings_11 (ci_sq rfl (ci_sq (pe_getR tq_37 rfl rfl) (ci_sq (pe_getI (kI := 4) tq_38 rfl rfl rfl) rfl))) ?_
      obtain ⟨v2, hv, h⟩ := bn_some h
      refine ci_T.call (as := [_, _]) (rest := []) kc_X8_has ki_X8_has (by decide) cl_X0_brings_19 rfl (Nat.le_of_ble_eq_true rfl) trivial (s_X8_has d o hv) ?_
      rintro _ _ ⟨⟨rfl, rfl⟩, hz3⟩
      clear hv
      cases h
      exact ci_T.done (v := some (.int _)) cd_X0_brings_22 ⟨⟨rfl, rfl⟩, hz3⟩
    clear hj
    refine pbr h (fun hc h => ?_) (fun hc h => ?_)
    · exact ci_T.sub [0, 2] (J11 _ _ h) rfl
    · refine ci_T.step cb_X0_brings_4 (ci_sq rfl (ci_sq (pe_getR tq_37 rfl rfl) rfl)) ?_
      exact ci_T.sub [0, 2] (J11 _ _ h) rfl
/-- X0_brings36 -/
def L_X0_brings36_36  : Nat → Int → Int → Int → Int → Int → pm → Option (Int × pm)
  | 0, _, _, _, _, _, _ => none
  | n + 1, l1, l2, l3, l4, l5, ρ => ck (inR l5) (if 25 < l5 then some (0, ρ) else jn (fun (l1 l2 l3 l4 l5 : Int) (ρ : pm) => jn (l5 + 1) (fun x6 => L_X0_brings36_36 n l1 l2 l3 l4 x6 ρ)) (fun j125 => jn (fun (l1 l2 l3 l4 l5 : Int) (ρ : pm) => ck (inR l5) (jn (fun (l1 l2 l3 l4 l5 s1 : Int) (ρ : pm) => jn (pup ρ 36 2 s1) (fun ρ8 => (f_X2_copy 38 41 ρ8).bind (fun ρ9 => (f_X8_numberOf l5 l1).bind (fun v10 => (f_X2_pass 38 v10 ρ9).bind (fun ρ11 => bn2 (f_X0_brings37 l1 l2 (l3 - 1) ρ11) (fun v12 ρ13 => if v12 = 0 then j125 l1 l2 l3 l4 l5 ρ13 else some (1, ρ13))))))) (fun j75 => if l5 = 0 then j75 l1 l2 l3 l4 l5 25 ρ else j75 l1 l2 l3 l4 l5 (l5 - 1) ρ))) (fun j60 => if l5 = 0 then j60 l1 l2 l3 l4 l5 ρ else (f_X8_has l4 (l5 - 1)).bind (fun v15 => if v15 = 0 then j125 l1 l2 l3 l4 l5 ρ else j60 l1 l2 l3 l4 l5 ρ))))
def f_X0_brings36 (l1 l2 l3 : Int) (ρ : pm) : Option (Int × pm) := ck (inR l3) (jn (fun (l2 : Int) (ρ : pm) => (f_X8_has (ρ 41 4) l2).bind (fun v2 => some (v2, ρ))) (fun j11 => if l3 ≤ 0 then j11 l2 ρ else (f_X2_cuttable 41 l1 ρ).bind (fun v4 => L_X0_brings36_36 fu l1 l2 l3 v4 0 ρ)))
set_option maxRecDepth 100000 in
theorem t_X0_brings36_36 {d : Nat}    {o : pm} {rv : Int} {rρ : pm}   : ∀ (n : Nat) (l1 l2 l3 l4 l5 : Int) (ρ : pm), L_X0_brings36_36 n l1 l2 l3 l4 l5 ρ = some (rv, rρ) → ci_T yX0_brings cX0_brings 6 (some .boolean) (d + 4) 36 ([(0, .ref 37), (1, .int (Int32.ofInt l1)), (2, .int (Int32.ofInt l2)), (3, .int (Int32.ofInt l3)), (4, .int (Int32.ofInt l4)), (5, .int (Int32.ofInt l5))], [], pk true ρ o) (pZ true rv rρ o) := by
  intro n
  induction n with
  | zero =>
    intro l1 l2 l3 l4 l5 ρ h
    rw [L_X0_brings36_36] at h
    cases h
  | succ n ih =>
    intro l1 l2 l3 l4 l5 ρ h
    rw [L_X0_brings36_36] at h
    obtain ⟨h5, h⟩ := ck_some h
    refine ci_T.step cb_X0_brings_36 (ci_sq rfl (ci_sq (pe_push pc_25) (pe_ic_gt h5 pR_25))) ?_
    refine pbr h (fun hc h => ?_) (fun hc h => ?_)
    · refine ci_T.step cb_X0_brings_131 (pe_push pc_0) ?_
      cases h
      exact ci_T.done (v := some (.int _)) cd_X0_brings_132 ⟨⟨rfl, rfl⟩, (Or.inl rfl)⟩
    · refine ci_T.step cb_X0_brings_43 (ci_sq rfl (pe_if_eq h5)) ?_
      obtain ⟨j125, hj, h⟩ := jn_ex h
      have J125 : ∀ (l1 l2 l3 l4 l5 : Int) (ρ : pm), j125 l1 l2 l3 l4 l5 ρ = some (rv, rρ) → ci_T yX0_brings cX0_brings 6 (some .boolean) (d + 4) 125 ([(0, .ref 37), (1, .int (Int32.ofInt l1)), (2, .int (Int32.ofInt l2)), (3, .int (Int32.ofInt l3)), (4, .int (Int32.ofInt l4)), (5, .int (Int32.ofInt l5))], [], pk true ρ o) (pZ true rv rρ o) := by
        intro l1 l2 l3 l4 l5 ρ h
        subst hj
        replace h := jn_some h
        refine ci_T.step cb_X0_brings_125 (ci_sq (pe_inc rfl) rfl) ?_
        exact ci_T.sub [1, 2, 3, 4, 5, 0] (ih _ _ _ _ _ _ h) rfl
      clear hj
      obtain ⟨j60, hj, h⟩ := jn_ex h
      have J60 : ∀ (l1 l2 l3 l4 l5 : Int) (ρ : pm), j60 l1 l2 l3 l4 l5 ρ = some (rv, rρ) → ci_T yX0_brings cX0_brings 6 (some .boolean) (d + 4) 60 ([(0, .ref 37), (1, .int (Int32.ofInt l1)), (2, .int (Int32.ofInt l2)), (3, .int (Int32.ofInt l3)), (4, .int (Int32.ofInt l4)), (5, .int (Int32.ofInt l5))], [], pk true ρ o) (pZ true rv rρ o) := by
        intro l1 l2 l3 l4 l5 ρ h
        subst hj
        obtain ⟨h7, h⟩ := ck_some h
        refine ci_T.step cb_X0_brings_60 (ci_sq rfl (ci_sq rfl (pe_if_ne h7))) ?_
        obtain ⟨j75, hj, h⟩ := jn_ex h
        have J75 : ∀ (l1 l2 l3 l4 l5 s1 : Int) (ρ : pm), j75 l1 l2 l3 l4 l5 s1 ρ = some (rv, rρ) → ci_T yX0_brings cX0_brings 6 (some .boolean) (d + 4) 75 ([(0, .ref 37), (1, .int (Int32.ofInt l1)), (2, .int (Int32.ofInt l2)), (3, .int (Int32.ofInt l3)), (4, .int (Int32.ofInt l4)), (5, .int (Int32.ofInt l5))], [.int (Int32.ofInt s1), .ref 37], pk true ρ o) (pZ true rv rρ o) := by
          intro l1 l2 l3 l4 l5 s1 ρ h
          subst hj
          replace h := jn_some h
          refine ci_T.step cb_X0_brings_75 (ci_sq (pe_putI (kI := 2) tq_36 rfl rfl rfl) (ci_sq rfl (ci_sq (pe_getR tq_36 rfl rfl) (ci_sq (pe_getR tq_37 rfl rfl) (ci_sq rfl (pe_getR tq_36 rfl rfl)))))) ?_
          obtain ⟨ρ9, hv, h⟩ := bn_some h
          refine ci_T.call (as := [_, _]) (rest := []) kc_X2_copy ki_X2_copy (by decide) cl_X0_brings_89 rfl (Nat.le_of_ble_eq_true rfl) ⟨⟨_, rfl⟩, _, _, _, rfl, pk_obj tq_38 rfl _ _⟩ (s_X2_copy (d + 3) 38 41 iF_38 iF_41 o hv) ?_
          rintro _ _ ⟨rfl, rfl⟩
          clear hv
          refine ci_T.step cb_X0_brings_92 (ci_sq rfl (ci_sq (pe_getR tq_36 rfl rfl) (ci_sq (pe_getR tq_37 rfl rfl) (ci_sq rfl rfl)))) ?_
          obtain ⟨v10, hv, h⟩ := bn_some h
          refine ci_T.call (as := [_, _]) (rest := [_]) kc_X8_numberOf ki_X8_numberOf (by decide) cl_X0_brings_102 rfl (Nat.le_of_ble_eq_true rfl) trivial (s_X8_numberOf (d + 3) o hv) ?_
          rintro _ _ ⟨rfl, rfl⟩
          clear hv
          obtain ⟨ρ11, hv, h⟩ := bn_some h
          refine ci_T.call (as := [_, _]) (rest := []) kc_X2_pass ki_X2_pass (by decide) cl_X0_brings_105 rfl (Nat.le_of_ble_eq_true rfl) ⟨⟨_, rfl⟩, _, _, _, rfl, pk_obj tq_38 rfl _ _⟩ (s_X2_pass d 38 iF_38 o hv) ?_
          rintro _ _ ⟨rfl, rfl⟩
          clear hv
          refine ci_T.step cb_X0_brings_108 (ci_sq rfl (ci_sq (pe_getR tq_36 rfl rfl) (ci_sq rfl (ci_sq rfl (ci_sq rfl (ci_sq (pe_push pc_1) pe_isub)))))) ?_
          obtain ⟨v12, ρ13, hv, h⟩ := bn2_some h
          refine ci_T.call (as := [_, _, _, _]) (rest := []) kc_X0_brings ki_X0_brings (by decide) cl_X0_brings_117 rfl (Nat.le_of_ble_eq_true rfl) ⟨⟨_, rfl⟩, _, _, _, rfl, pk_obj tq_37 rfl _ _⟩ (s_X0_brings37 (d + 2) o hv) ?_
          rintro _ _ ⟨⟨rfl, rfl⟩, hz14⟩
          clear hv
          refine ci_T.step cb_X0_brings_120 (pe_if_eq (Z_R hz14)) ?_
          refine pbr h (fun hc h => ?_) (fun hc h => ?_)
          · exact ci_T.sub [0, 1, 2, 3, 4, 5] (J125 _ _ _ _ _ _ h) rfl
          · refine ci_T.step cb_X0_brings_123 (pe_push pc_1) ?_
            cases h
            exact ci_T.done (v := some (.int _)) cd_X0_brings_124 ⟨⟨rfl, rfl⟩, (Or.inr rfl)⟩
        clear hj
        refine pbrn h (fun hc h => ?_) (fun hc h => ?_)
        · refine ci_T.step cb_X0_brings_71 (ci_sq rfl (ci_sq (pe_push pc_1) pe_isub)) ?_
          exact ci_T.sub [0, 1, 2, 3, 4, 5] (J75 _ _ _ _ _ _ _ h) rfl
        · refine ci_T.step cb_X0_brings_66 (ci_sq (pe_push pc_25) rfl) ?_
          exact ci_T.sub [0, 1, 2, 3, 4, 5] (J75 _ _ _ _ _ _ _ h) rfl
      clear hj
      refine pbr h (fun hc h => ?_) (fun hc h => ?_)
      · exact ci_T.sub [0, 1, 2, 3, 4, 5] (J60 _ _ _ _ _ _ h) rfl
      · refine ci_T.step cb_X0_brings_48 (ci_sq rfl (ci_sq rfl (ci_sq (pe_push pc_1) pe_isub))) ?_
        obtain ⟨v15, hv, h⟩ := bn_some h
        refine ci_T.call (as := [_, _]) (rest := []) kc_X8_has ki_X8_has (by decide) cl_X0_brings_54 rfl (Nat.le_of_ble_eq_true rfl) trivial (s_X8_has (d + 3) o hv) ?_
        rintro _ _ ⟨⟨rfl, rfl⟩, hz16⟩
        clear hv
        refine ci_T.step cb_X0_brings_57 (pe_if_eq (Z_R hz16)) ?_
        refine pbr h (fun hc h => ?_) (fun hc h => ?_)
        · exact ci_T.sub [0, 1, 2, 3, 4, 5] (J125 _ _ _ _ _ _ h) rfl
        · exact ci_T.sub [0, 1, 2, 3, 4, 5] (J60 _ _ _ _ _ _ h) rfl
set_option maxRecDepth 100000 in
theorem s_X0_brings36 (d : Nat)   {ρ : pm} (o : pm) {l1 l2 l3 : Int} {rv : Int} {rρ : pm} (h : f_X0_brings36 l1 l2 l3 ρ = some (rv, rρ)) : ci_Met (d + 4) (yX0_brings, cX0_brings, 6, (some .boolean), [], 0, 0) [.ref 37, .int (Int32.ofInt l1), .int (Int32.ofInt l2), .int (Int32.ofInt l3)] (pk true ρ o) (pZ true rv rρ o) := by
  refine ci_met (by decide) (Nat.le_of_ble_eq_true rfl) ?_ ?_
  · rintro v w' ⟨⟨rfl, rfl⟩, hz⟩
    exact Z_of hz
  · change ci_T _ _ _ _ _ _ ([(0, .ref 37), (1, .int (Int32.ofInt l1)), (2, .int (Int32.ofInt l2)), (3, .int (Int32.ofInt l3))], [], pk true ρ o) _
    unfold f_X0_brings36 at h
    obtain ⟨h1, h⟩ := ck_some h
    refine ci_T.step cb_X0_brings_0 (ci_sq rfl (pe_if_le h1)) ?_
    obtain ⟨j11, hj, h⟩ := jn_ex h
    have J11 : ∀ (l2 : Int) (ρ : pm), j11 l2 ρ = some (rv, rρ) → ci_T yX0_brings cX0_brings 6 (some .boolean) (d + 4) 11 ([(0, .ref 37), (2, .int (Int32.ofInt l2))], [], pk true ρ o) (pZ true rv rρ o) := by
      intro l2 ρ h
      subst hj
      refine ci_T.step cb_X0_brings_11 (ci_sq rfl (ci_sq (pe_getR tq_36 rfl rfl) (ci_sq (pe_getI (kI := 4) tq_41 rfl rfl rfl) rfl))) ?_
      obtain ⟨v2, hv, h⟩ := bn_some h
      refine ci_T.call (as := [_, _]) (rest := []) kc_X8_has ki_X8_has (by decide) cl_X0_brings_19 rfl (Nat.le_of_ble_eq_true rfl) trivial (s_X8_has (d + 3) o hv) ?_
      rintro _ _ ⟨⟨rfl, rfl⟩, hz3⟩
      clear hv
      cases h
      exact ci_T.done (v := some (.int _)) cd_X0_brings_22 ⟨⟨rfl, rfl⟩, hz3⟩
    clear hj
    refine pbr h (fun hc h => ?_) (fun hc h => ?_)
    · exact ci_T.sub [0, 2] (J11 _ _ h) rfl
    · refine ci_T.step cb_X0_brings_4 (ci_sq rfl (ci_sq (pe_getR tq_36 rfl rfl) rfl)) ?_
      refine ci_T.step cb_X0_brings_23 (ci_sq rfl (ci_sq (pe_getR tq_36 rfl rfl) rfl)) ?_
      obtain ⟨v4, hv, h⟩ := bn_some h
      refine ci_T.call (as := [_, _]) (rest := []) kc_X2_cuttable ki_X2_cuttable (by decide) cl_X0_brings_28 rfl (Nat.le_of_ble_eq_true rfl) ⟨⟨_, rfl⟩, _, _, _, rfl, pk_obj tq_41 rfl _ _⟩ (s_X2_cuttable (d + 1) 41 iF_41 o hv) ?_
      rintro _ _ ⟨rfl, rfl⟩
      clear hv
      refine ci_T.step cb_X0_brings_31 (ci_sq rfl (ci_sq (pe_push pc_0) rfl)) ?_
      exact ci_T.sub [2, 3, 4, 5, 1, 0] (t_X0_brings36_36 fu _ _ _ _ _ _ h) rfl
/-- X0_brings35 -/
def L_X0_brings35_36  : Nat → Int → Int → Int → Int → Int → pm → Option (Int × pm)
  | 0, _, _, _, _, _, _ => none
  | n + 1, l1, l2, l3, l4, l5, ρ => ck (inR l5) (if 25 < l5 then some (0, ρ) else jn (fun (l1 l2 l3 l4 l5 : Int) (ρ : pm) => jn (l5 + 1) (fun x6 => L_X0_brings35_36 n l1 l2 l3 l4 x6 ρ)) (fun j125 => jn (fun (l1 l2 l3 l4 l5 : Int) (ρ : pm) => ck (inR l5) (jn (fun (l1 l2 l3 l4 l5 s1 : Int) (ρ : pm) => jn (pup ρ 35 2 s1) (fun ρ8 => (f_X2_copy 41 44 ρ8).bind (fun ρ9 => (f_X8_numberOf l5 l1).bind (fun v10 => (f_X2_pass 41 v10 ρ9).bind (fun ρ11 => bn2 (f_X0_brings36 l1 l2 (l3 - 1) ρ11) (fun v12 ρ13 => if v12 = 0 then j125 l1 l2 l3 l4 l5 ρ13 else some (1, ρ13))))))) (fun j75 => if l5 = 0 then j75 l1 l2 l3 l4 l5 25 ρ else j75 l1 l2 l3 l4 l5 (l5 - 1) ρ))) (fun j60 => if l5 = 0 then j60 l1 l2 l3 l4 l5 ρ else (f_X8_has l4 (l5 - 1)).bind (fun v15 => if v15 = 0 then j125 l1 l2 l3 l4 l5 ρ else j60 l1 l2 l3 l4 l5 ρ))))
def f_X0_brings35 (l1 l2 l3 : Int) (ρ : pm) : Option (Int × pm) := ck (inR l3) (jn (fun (l2 : Int) (ρ : pm) => (f_X8_has (ρ 44 4) l2).bind (fun v2 => some (v2, ρ))) (fun j11 => if l3 ≤ 0 then j11 l2 ρ else (f_X2_cuttable 44 l1 ρ).bind (fun v4 => L_X0_brings35_36 fu l1 l2 l3 v4 0 ρ)))
set_option maxRecDepth 100000 in
theorem t_X0_brings35_36 {d : Nat}    {o : pm} {rv : Int} {rρ : pm}   : ∀ (n : Nat) (l1 l2 l3 l4 l5 : Int) (ρ : pm), L_X0_brings35_36 n l1 l2 l3 l4 l5 ρ = some (rv, rρ) → ci_T yX0_brings cX0_brings 6 (some .boolean) (d + 5) 36 ([(0, .ref 36), (1, .int (Int32.ofInt l1)), (2, .int (Int32.ofInt l2)), (3, .int (Int32.ofInt l3)), (4, .int (Int32.ofInt l4)), (5, .int (Int32.ofInt l5))], [], pk true ρ o) (pZ true rv rρ o) := by
  intro n
  induction n with
  | zero =>
    intro l1 l2 l3 l4 l5 ρ h
    rw [L_X0_brings35_36] at h
    cases h
  | succ n ih =>
    intro l1 l2 l3 l4 l5 ρ h
    rw [L_X0_brings35_36] at h
    obtain ⟨h5, h⟩ := ck_some h
    refine ci_T.step cb_X0_brings_36 (ci_sq rfl (ci_sq (pe_push pc_25) (pe_ic_gt h5 pR_25))) ?_
    refine pbr h (fun hc h => ?_) (fun hc h => ?_)
    · refine ci_T.step cb_X0_brings_131 (pe_push pc_0) ?_
      cases h
      exact ci_T.done (v := some (.int _)) cd_X0_brings_132 ⟨⟨rfl, rfl⟩, (Or.inl rfl)⟩
    · refine ci_T.step cb_X0_brings_43 (ci_sq rfl (pe_if_eq h5)) ?_
      obtain ⟨j125, hj, h⟩ := jn_ex h
      have J125 : ∀ (l1 l2 l3 l4 l5 : Int) (ρ : pm), j125 l1 l2 l3 l4 l5 ρ = some (rv, rρ) → ci_T yX0_brings cX0_brings 6 (some .boolean) (d + 5) 125 ([(0, .ref 36), (1, .int (Int32.ofInt l1)), (2, .int (Int32.ofInt l2)), (3, .int (Int32.ofInt l3)), (4, .int (Int32.ofInt l4)), (5, .int (Int32.ofInt l5))], [], pk true ρ o) (pZ true rv rρ o) := by
        intro l1 l2 l3 l4 l5 ρ h
        subst hj
        replace h := jn_some h
        refine ci_T.step cb_X0_brings_125 (ci_sq (pe_inc rfl) rfl) ?_
        exact ci_T.sub [1, 2, 3, 4, 5, 0] (ih _ _ _ _ _ _ h) rfl
      clear hj
      obtain ⟨j60, hj, h⟩ := jn_ex h
      have J60 : ∀ (l1 l2 l3 l4 l5 : Int) (ρ : pm), j60 l1 l2 l3 l4 l5 ρ = some (rv, rρ) → ci_T yX0_brings cX0_brings 6 (some .boolean) (d + 5) 60 ([(0, .ref 36), (1, .int (Int32.ofInt l1)), (2, .int (Int32.ofInt l2)), (3, .int (Int32.ofInt l3)), (4, .int (Int32.ofInt l4)), (5, .int (Int32.ofInt l5))], [], pk true ρ o) (pZ true rv rρ o) := by
        intro l1 l2 l3 l4 l5 ρ h
        subst hj
        obtain ⟨h7, h⟩ := ck_some h
        refine ci_T.step cb_X0_brings_60 (ci_sq rfl (ci_sq rfl (pe_if_ne h7))) ?_
        obtain ⟨j75, hj, h⟩ := jn_ex h
        have J75 : ∀ (l1 l2 l3 l4 l5 s1 : Int) (ρ : pm), j75 l1 l2 l3 l4 l5 s1 ρ = some (rv, rρ) → ci_T yX0_brings cX0_brings 6 (some .boolean) (d + 5) 75 ([(0, .ref 36), (1, .int (Int32.ofInt l1)), (2, .int (Int32.ofInt l2)), (3, .int (Int32.ofInt l3)), (4, .int (Int32.ofInt l4)), (5, .int (Int32.ofInt l5))], [.int (Int32.ofInt s1), .ref 36], pk true ρ o) (pZ true rv rρ o) := by
          intro l1 l2 l3 l4 l5 s1 ρ h
          subst hj
          replace h := jn_some h
          refine ci_T.step cb_X0_brings_75 (ci_sq (pe_putI (kI := 2) tq_35 rfl rfl rfl) (ci_sq rfl (ci_sq (pe_getR tq_35 rfl rfl) (ci_sq (pe_getR tq_36 rfl rfl) (ci_sq rfl (pe_getR tq_35 rfl rfl)))))) ?_
          obtain ⟨ρ9, hv, h⟩ := bn_some h
          refine ci_T.call (as := [_, _]) (rest := []) kc_X2_copy ki_X2_copy (by decide) cl_X0_brings_89 rfl (Nat.le_of_ble_eq_true rfl) ⟨⟨_, rfl⟩, _, _, _, rfl, pk_obj tq_41 rfl _ _⟩ (s_X2_copy (d + 4) 41 44 iF_41 iF_44 o hv) ?_
          rintro _ _ ⟨rfl, rfl⟩
          clear hv
          refine ci_T.step cb_X0_brings_92 (ci_sq rfl (ci_sq (pe_getR tq_35 rfl rfl) (ci_sq (pe_getR tq_36 rfl rfl) (ci_sq rfl rfl)))) ?_
          obtain ⟨v10, hv, h⟩ := bn_some h
          refine ci_T.call (as := [_, _]) (rest := [_]) kc_X8_numberOf ki_X8_numberOf (by decide) cl_X0_brings_102 rfl (Nat.le_of_ble_eq_true rfl) trivial (s_X8_numberOf (d + 4) o hv) ?_
          rintro _ _ ⟨rfl, rfl⟩
          clear hv
          obtain ⟨ρ11, hv, h⟩ := bn_some h
          refine ci_T.call (as := [_, _]) (rest := []) kc_X2_pass ki_X2_pass (by decide) cl_X0_brings_105 rfl (Nat.le_of_ble_eq_true rfl) ⟨⟨_, rfl⟩, _, _, _, rfl, pk_obj tq_41 rfl _ _⟩ (s_X2_pass (d + 1) 41 iF_41 o hv) ?_
          rintro _ _ ⟨rfl, rfl⟩
          clear hv
          refine ci_T.step cb_X0_brings_108 (ci_sq rfl (ci_sq (pe_getR tq_35 rfl rfl) (ci_sq rfl (ci_sq rfl (ci_sq rfl (ci_sq (pe_push pc_1) pe_isub)))))) ?_
          obtain ⟨v12, ρ13, hv, h⟩ := bn2_some h
          refine ci_T.call (as := [_, _, _, _]) (rest := []) kc_X0_brings ki_X0_brings (by decide) cl_X0_brings_117 rfl (Nat.le_of_ble_eq_true rfl) ⟨⟨_, rfl⟩, _, _, _, rfl, pk_obj tq_36 rfl _ _⟩ (s_X0_brings36 d o hv) ?_
          rintro _ _ ⟨⟨rfl, rfl⟩, hz14⟩
          clear hv
          refine ci_T.step cb_X0_brings_120 (pe_if_eq (Z_R hz14)) ?_
          refine pbr h (fun hc h => ?_) (fun hc h => ?_)
          · exact ci_T.sub [0, 1, 2, 3, 4, 5] (J125 _ _ _ _ _ _ h) rfl
          · refine ci_T.step cb_X0_brings_123 (pe_push pc_1) ?_
            cases h
            exact ci_T.done (v := some (.int _)) cd_X0_brings_124 ⟨⟨rfl, rfl⟩, (Or.inr rfl)⟩
        clear hj
        refine pbrn h (fun hc h => ?_) (fun hc h => ?_)
        · refine ci_T.step cb_X0_brings_71 (ci_sq rfl (ci_sq (pe_push pc_1) pe_isub)) ?_
          exact ci_T.sub [0, 1, 2, 3, 4, 5] (J75 _ _ _ _ _ _ _ h) rfl
        · refine ci_T.step cb_X0_brings_66 (ci_sq (pe_push pc_25) rfl) ?_
          exact ci_T.sub [0, 1, 2, 3, 4, 5] (J75 _ _ _ _ _ _ _ h) rfl
      clear hj
      refine pbr h (fun hc h => ?_) (fun hc h => ?_)
      · exact ci_T.sub [0, 1, 2, 3, 4, 5] (J60 _ _ _ _ _ _ h) rfl
      · refine ci_T.step cb_X0_brings_48 (ci_sq rfl (ci_sq rfl (ci_sq (pe_push pc_1) pe_isub))) ?_
        obtain ⟨v15, hv, h⟩ := bn_some h
        refine ci_T.call (as := [_, _]) (rest := []) kc_X8_has ki_X8_has (by decide) cl_X0_brings_54 rfl (Nat.le_of_ble_eq_true rfl) trivial (s_X8_has (d + 4) o hv) ?_
        rintro _ _ ⟨⟨rfl, rfl⟩, hz16⟩
        clear hv
        refine ci_T.step cb_X0_brings_57 (pe_if_eq (Z_R hz16)) ?_
        refine pbr h (fun hc h => ?_) (fun hc h => ?_)
        · exact ci_T.sub [0, 1, 2, 3, 4, 5] (J125 _ _ _ _ _ _ h) rfl
        · exact ci_T.sub [0, 1, 2, 3, 4, 5] (J60 _ _ _ _ _ _ h) rfl
set_option maxRecDepth 100000 in
theorem s_X0_brings35 (d : Nat)   {ρ : pm} (o : pm) {l1 l2 l3 : Int} {rv : Int} {rρ : pm} (h : f_X0_brings35 l1 l2 l3 ρ = some (rv, rρ)) : ci_Met (d + 5) (yX0_brings, cX0_brings, 6, (some .boolean), [], 0, 0) [.ref 36, .int (Int32.ofInt l1), .int (Int32.ofInt l2), .int (Int32.ofInt l3)] (pk true ρ o) (pZ true rv rρ o) := by
  refine ci_met (by decide) (Nat.le_of_ble_eq_true rfl) ?_ ?_
  · rintro v w' ⟨⟨rfl, rfl⟩, hz⟩
    exact Z_of hz
  · change ci_T _ _ _ _ _ _ ([(0, .ref 36), (1, .int (Int32.ofInt l1)), (2, .int (Int32.ofInt l2)), (3, .int (Int32.ofInt l3))], [], pk true ρ o) _
    unfold f_X0_brings35 at h
    obtain ⟨h1, h⟩ := ck_some h
    refine ci_T.step cb_X0_brings_0 (ci_sq rfl (pe_if_le h1)) ?_
    obtain ⟨j11, hj, h⟩ := jn_ex h
    have J11 : ∀ (l2 : Int) (ρ : pm), j11 l2 ρ = some (rv, rρ) → ci_T yX0_brings cX0_brings 6 (some .boolean) (d + 5) 11 ([(0, .ref 36), (2, .int (Int32.ofInt l2))], [], pk true ρ o) (pZ true rv rρ o) := by
      intro l2 ρ h
      subst hj
      refine ci_T.step cb_X0_brings_11 (ci_sq rfl (ci_sq (pe_getR tq_35 rfl rfl) (ci_sq (pe_getI (kI := 4) tq_44 rfl rfl rfl) rfl))) ?_
      obtain ⟨v2, hv, h⟩ := bn_some h
      refine ci_T.call (as := [_, _]) (rest := []) kc_X8_has ki_X8_has (by decide) cl_X0_brings_19 rfl (Nat.le_of_ble_eq_true rfl) trivial (s_X8_has (d + 4) o hv) ?_
      rintro _ _ ⟨⟨rfl, rfl⟩, hz3⟩
      clear hv
      cases h
      exact ci_T.done (v := some (.int _)) cd_X0_brings_22 ⟨⟨rfl, rfl⟩, hz3⟩
    clear hj
    refine pbr h (fun hc h => ?_) (fun hc h => ?_)
    · exact ci_T.sub [0, 2] (J11 _ _ h) rfl
    · refine ci_T.step cb_X0_brings_4 (ci_sq rfl (ci_sq (pe_getR tq_35 rfl rfl) rfl)) ?_
      refine ci_T.step cb_X0_brings_23 (ci_sq rfl (ci_sq (pe_getR tq_35 rfl rfl) rfl)) ?_
      obtain ⟨v4, hv, h⟩ := bn_some h
      refine ci_T.call (as := [_, _]) (rest := []) kc_X2_cuttable ki_X2_cuttable (by decide) cl_X0_brings_28 rfl (Nat.le_of_ble_eq_true rfl) ⟨⟨_, rfl⟩, _, _, _, rfl, pk_obj tq_44 rfl _ _⟩ (s_X2_cuttable (d + 2) 44 iF_44 o hv) ?_
      rintro _ _ ⟨rfl, rfl⟩
      clear hv
      refine ci_T.step cb_X0_brings_31 (ci_sq rfl (ci_sq (pe_push pc_0) rfl)) ?_
      exact ci_T.sub [2, 3, 4, 5, 1, 0] (t_X0_brings35_36 fu _ _ _ _ _ _ h) rfl
/-- X0_brings34 -/
def L_X0_brings34_36  : Nat → Int → Int → Int → Int → Int → pm → Option (Int × pm)
  | 0, _, _, _, _, _, _ => none
  | n + 1, l1, l2, l3, l4, l5, ρ => ck (inR l5) (if 25 < l5 then some (0, ρ) else jn (fun (l1 l2 l3 l4 l5 : Int) (ρ : pm) => jn (l5 + 1) (fun x6 => L_X0_brings34_36 n l1 l2 l3 l4 x6 ρ)) (fun j125 => jn (fun (l1 l2 l3 l4 l5 : Int) (ρ : pm) => ck (inR l5) (jn (fun (l1 l2 l3 l4 l5 s1 : Int) (ρ : pm) => jn (pup ρ 34 2 s1) (fun ρ8 => (f_X2_copy 44 47 ρ8).bind (fun ρ9 => (f_X8_numberOf l5 l1).bind (fun v10 => (f_X2_pass 44 v10 ρ9).bind (fun ρ11 => bn2 (f_X0_brings35 l1 l2 (l3 - 1) ρ11) (fun v12 ρ13 => if v12 = 0 then j125 l1 l2 l3 l4 l5 ρ13 else some (1, ρ13))))))) (fun j75 => if l5 = 0 then j75 l1 l2 l3 l4 l5 25 ρ else j75 l1 l2 l3 l4 l5 (l5 - 1) ρ))) (fun j60 => if l5 = 0 then j60 l1 l2 l3 l4 l5 ρ else (f_X8_has l4 (l5 - 1)).bind (fun v15 => if v15 = 0 then j125 l1 l2 l3 l4 l5 ρ else j60 l1 l2 l3 l4 l5 ρ))))
def f_X0_brings34 (l1 l2 l3 : Int) (ρ : pm) : Option (Int × pm) := ck (inR l3) (jn (fun (l2 : Int) (ρ : pm) => (f_X8_has (ρ 47 4) l2).bind (fun v2 => some (v2, ρ))) (fun j11 => if l3 ≤ 0 then j11 l2 ρ else (f_X2_cuttable 47 l1 ρ).bind (fun v4 => L_X0_brings34_36 fu l1 l2 l3 v4 0 ρ)))
set_option maxRecDepth 100000 in
theorem t_X0_brings34_36 {d : Nat}    {o : pm} {rv : Int} {rρ : pm}   : ∀ (n : Nat) (l1 l2 l3 l4 l5 : Int) (ρ : pm), L_X0_brings34_36 n l1 l2 l3 l4 l5 ρ = some (rv, rρ) → ci_T yX0_brings cX0_brings 6 (some .boolean) (d + 6) 36 ([(0, .ref 35), (1, .int (Int32.ofInt l1)), (2, .int (Int32.ofInt l2)), (3, .int (Int32.ofInt l3)), (4, .int (Int32.ofInt l4)), (5, .int (Int32.ofInt l5))], [], pk true ρ o) (pZ true rv rρ o) := by
  intro n
  induction n with
  | zero =>
    intro l1 l2 l3 l4 l5 ρ h
    rw [L_X0_brings34_36] at h
    cases h
  | succ n ih =>
    intro l1 l2 l3 l4 l5 ρ h
    rw [L_X0_brings34_36] at h
    obtain ⟨h5, h⟩ := ck_some h
    refine ci_T.step cb_X0_brings_36 (ci_sq rfl (ci_sq (pe_push pc_25) (pe_ic_gt h5 pR_25))) ?_
    refine pbr h (fun hc h => ?_) (fun hc h => ?_)
    · refine ci_T.step cb_X0_brings_131 (pe_push pc_0) ?_
      cases h
      exact ci_T.done (v := some (.int _)) cd_X0_brings_132 ⟨⟨rfl, rfl⟩, (Or.inl rfl)⟩
    · refine ci_T.step cb_X0_brings_43 (ci_sq rfl (pe_if_eq h5)) ?_
      obtain ⟨j125, hj, h⟩ := jn_ex h
      have J125 : ∀ (l1 l2 l3 l4 l5 : Int) (ρ : pm), j125 l1 l2 l3 l4 l5 ρ = some (rv, rρ) → ci_T yX0_brings cX0_brings 6 (some .boolean) (d + 6) 125 ([(0, .ref 35), (1, .int (Int32.ofInt l1)), (2, .int (Int32.ofInt l2)), (3, .int (Int32.ofInt l3)), (4, .int (Int32.ofInt l4)), (5, .int (Int32.ofInt l5))], [], pk true ρ o) (pZ true rv rρ o) := by
        intro l1 l2 l3 l4 l5 ρ h
        subst hj
        replace h := jn_some h
        refine ci_T.step cb_X0_brings_125 (ci_sq (pe_inc rfl) rfl) ?_
        exact ci_T.sub [1, 2, 3, 4, 5, 0] (ih _ _ _ _ _ _ h) rfl
      clear hj
      obtain ⟨j60, hj, h⟩ := jn_ex h
      have J60 : ∀ (l1 l2 l3 l4 l5 : Int) (ρ : pm), j60 l1 l2 l3 l4 l5 ρ = some (rv, rρ) → ci_T yX0_brings cX0_brings 6 (some .boolean) (d + 6) 60 ([(0, .ref 35), (1, .int (Int32.ofInt l1)), (2, .int (Int32.ofInt l2)), (3, .int (Int32.ofInt l3)), (4, .int (Int32.ofInt l4)), (5, .int (Int32.ofInt l5))], [], pk true ρ o) (pZ true rv rρ o) := by
        intro l1 l2 l3 l4 l5 ρ h
        subst hj
        obtain ⟨h7, h⟩ := ck_some h
        refine ci_T.step cb_X0_brings_60 (ci_sq rfl (ci_sq rfl (pe_if_ne h7))) ?_
        obtain ⟨j75, hj, h⟩ := jn_ex h
        have J75 : ∀ (l1 l2 l3 l4 l5 s1 : Int) (ρ : pm), j75 l1 l2 l3 l4 l5 s1 ρ = some (rv, rρ) → ci_T yX0_brings cX0_brings 6 (some .boolean) (d + 6) 75 ([(0, .ref 35), (1, .int (Int32.ofInt l1)), (2, .int (Int32.ofInt l2)), (3, .int (Int32.ofInt l3)), (4, .int (Int32.ofInt l4)), (5, .int (Int32.ofInt l5))], [.int (Int32.ofInt s1), .ref 35], pk true ρ o) (pZ true rv rρ o) := by
          intro l1 l2 l3 l4 l5 s1 ρ h
          subst hj
          replace h := jn_some h
          refine ci_T.step cb_X0_brings_75 (ci_sq (pe_putI (kI := 2) tq_34 rfl rfl rfl) (ci_sq rfl (ci_sq (pe_getR tq_34 rfl rfl) (ci_sq (pe_getR tq_35 rfl rfl) (ci_sq rfl (pe_getR tq_34 rfl rfl)))))) ?_
          obtain ⟨ρ9, hv, h⟩ := bn_some h
          refine ci_T.call (as := [_, _]) (rest := []) kc_X2_copy ki_X2_copy (by decide) cl_X0_brings_89 rfl (Nat.le_of_ble_eq_true rfl) ⟨⟨_, rfl⟩, _, _, _, rfl, pk_obj tq_44 rfl _ _⟩ (s_X2_copy (d + 5) 44 47 iF_44 iF_47 o hv) ?_
          rintro _ _ ⟨rfl, rfl⟩
          clear hv
          refine ci_T.step cb_X0_brings_92 (ci_sq rfl (ci_sq (pe_getR tq_34 rfl rfl) (ci_sq (pe_getR tq_35 rfl rfl) (ci_sq rfl rfl)))) ?_
          obtain ⟨v10, hv, h⟩ := bn_some h
          refine ci_T.call (as := [_, _]) (rest := [_]) kc_X8_numberOf ki_X8_numberOf (by decide) cl_X0_brings_102 rfl (Nat.le_of_ble_eq_true rfl) trivial (s_X8_numberOf (d + 5) o hv) ?_
          rintro _ _ ⟨rfl, rfl⟩
          clear hv
          obtain ⟨ρ11, hv, h⟩ := bn_some h
          refine ci_T.call (as := [_, _]) (rest := []) kc_X2_pass ki_X2_pass (by decide) cl_X0_brings_105 rfl (Nat.le_of_ble_eq_true rfl) ⟨⟨_, rfl⟩, _, _, _, rfl, pk_obj tq_44 rfl _ _⟩ (s_X2_pass (d + 2) 44 iF_44 o hv) ?_
          rintro _ _ ⟨rfl, rfl⟩
          clear hv
          refine ci_T.step cb_X0_brings_108 (ci_sq rfl (ci_sq (pe_getR tq_34 rfl rfl) (ci_sq rfl (ci_sq rfl (ci_sq rfl (ci_sq (pe_push pc_1) pe_isub)))))) ?_
          obtain ⟨v12, ρ13, hv, h⟩ := bn2_some h
          refine ci_T.call (as := [_, _, _, _]) (rest := []) kc_X0_brings ki_X0_brings (by decide) cl_X0_brings_117 rfl (Nat.le_of_ble_eq_true rfl) ⟨⟨_, rfl⟩, _, _, _, rfl, pk_obj tq_35 rfl _ _⟩ (s_X0_brings35 d o hv) ?_
          rintro _ _ ⟨⟨rfl, rfl⟩, hz14⟩
          clear hv
          refine ci_T.step cb_X0_brings_120 (pe_if_eq (Z_R hz14)) ?_
          refine pbr h (fun hc h => ?_) (fun hc h => ?_)
          · exact ci_T.sub [0, 1, 2, 3, 4, 5] (J125 _ _ _ _ _ _ h) rfl
          · refine ci_T.step cb_X0_brings_123 (pe_push pc_1) ?_
            cases h
            exact ci_T.done (v := some (.int _)) cd_X0_brings_124 ⟨⟨rfl, rfl⟩, (Or.inr rfl)⟩
        clear hj
        refine pbrn h (fun hc h => ?_) (fun hc h => ?_)
        · refine ci_T.step cb_X0_brings_71 (ci_sq rfl (ci_sq (pe_push pc_1) pe_isub)) ?_
          exact ci_T.sub [0, 1, 2, 3, 4, 5] (J75 _ _ _ _ _ _ _ h) rfl
        · refine ci_T.step cb_X0_brings_66 (ci_sq (pe_push pc_25) rfl) ?_
          exact ci_T.sub [0, 1, 2, 3, 4, 5] (J75 _ _ _ _ _ _ _ h) rfl
      clear hj
      refine pbr h (fun hc h => ?_) (fun hc h => ?_)
      · exact ci_T.sub [0, 1, 2, 3, 4, 5] (J60 _ _ _ _ _ _ h) rfl
      · refine ci_T.step cb_X0_brings_48 (ci_sq rfl (ci_sq rfl (ci_sq (pe_push pc_1) pe_isub))) ?_
        obtain ⟨v15, hv, h⟩ := bn_some h
        refine ci_T.call (as := [_, _]) (rest := []) kc_X8_has ki_X8_has (by decide) cl_X0_brings_54 rfl (Nat.le_of_ble_eq_true rfl) trivial (s_X8_has (d + 5) o hv) ?_
        rintro _ _ ⟨⟨rfl, rfl⟩, hz16⟩
        clear hv
        refine ci_T.step cb_X0_brings_57 (pe_if_eq (Z_R hz16)) ?_
        refine pbr h (fun hc h => ?_) (fun hc h => ?_)
        · exact ci_T.sub [0, 1, 2, 3, 4, 5] (J125 _ _ _ _ _ _ h) rfl
        · exact ci_T.sub [0, 1, 2, 3, 4, 5] (J60 _ _ _ _ _ _ h) rfl
set_option maxRecDepth 100000 in
theorem s_X0_brings34 (d : Nat)   {ρ : pm} (o : pm) {l1 l2 l3 : Int} {rv : Int} {rρ : pm} (h : f_X0_brings34 l1 l2 l3 ρ = some (rv, rρ)) : ci_Met (d + 6) (yX0_brings, cX0_brings, 6, (some .boolean), [], 0, 0) [.ref 35, .int (Int32.ofInt l1), .int (Int32.ofInt l2), .int (Int32.ofInt l3)] (pk true ρ o) (pZ true rv rρ o) := by
  refine ci_met (by decide) (Nat.le_of_ble_eq_true rfl) ?_ ?_
  · rintro v w' ⟨⟨rfl, rfl⟩, hz⟩
    exact Z_of hz
  · change ci_T _ _ _ _ _ _ ([(0, .ref 35), (1, .int (Int32.ofInt l1)), (2, .int (Int32.ofInt l2)), (3, .int (Int32.ofInt l3))], [], pk true ρ o) _
    unfold f_X0_brings34 at h
    obtain ⟨h1, h⟩ := ck_some h
    refine ci_T.step cb_X0_brings_0 (ci_sq rfl (pe_if_le h1)) ?_
    obtain ⟨j11, hj, h⟩ := jn_ex h
    have J11 : ∀ (l2 : Int) (ρ : pm), j11 l2 ρ = some (rv, rρ) → ci_T yX0_brings cX0_brings 6 (some .boolean) (d + 6) 11 ([(0, .ref 35), (2, .int (Int32.ofInt l2))], [], pk true ρ o) (pZ true rv rρ o) := by
      intro l2 ρ h
      subst hj
      refine ci_T.step cb_X0_brings_11 (ci_sq rfl (ci_sq (pe_getR tq_34 rfl rfl) (ci_sq (pe_getI (kI := 4) tq_47 rfl rfl rfl) rfl))) ?_
      obtain ⟨v2, hv, h⟩ := bn_some h
      refine ci_T.call (as := [_, _]) (rest := []) kc_X8_has ki_X8_has (by decide) cl_X0_brings_19 rfl (Nat.le_of_ble_eq_true rfl) trivial (s_X8_has (d + 5) o hv) ?_
      rintro _ _ ⟨⟨rfl, rfl⟩, hz3⟩
      clear hv
      cases h
      exact ci_T.done (v := some (.int _)) cd_X0_brings_22 ⟨⟨rfl, rfl⟩, hz3⟩
    clear hj
    refine pbr h (fun hc h => ?_) (fun hc h => ?_)
    · exact ci_T.sub [0, 2] (J11 _ _ h) rfl
    · refine ci_T.step cb_X0_brings_4 (ci_sq rfl (ci_sq (pe_getR tq_34 rfl rfl) rfl)) ?_
      refine ci_T.step cb_X0_brings_23 (ci_sq rfl (ci_sq (pe_getR tq_34 rfl rfl) rfl)) ?_
      obtain ⟨v4, hv, h⟩ := bn_some h
      refine ci_T.call (as := [_, _]) (rest := []) kc_X2_cuttable ki_X2_cuttable (by decide) cl_X0_brings_28 rfl (Nat.le_of_ble_eq_true rfl) ⟨⟨_, rfl⟩, _, _, _, rfl, pk_obj tq_47 rfl _ _⟩ (s_X2_cuttable (d + 3) 47 iF_47 o hv) ?_
      rintro _ _ ⟨rfl, rfl⟩
      clear hv
      refine ci_T.step cb_X0_brings_31 (ci_sq rfl (ci_sq (pe_push pc_0) rfl)) ?_
      exact ci_T.sub [2, 3, 4, 5, 1, 0] (t_X0_brings34_36 fu _ _ _ _ _ _ h) rfl
/-- X0_fewest -/
def L_X0_fewest_11  : Nat → Int → Int → Int → pm → Option (Int × pm)
  | 0, _, _, _, _ => none
  | n + 1, l2, l3, l4, ρ => ck (inR l4) (if 3 < l4 then some ((-1), ρ) else bn2 (f_X0_brings34 l2 l3 l4 ρ) (fun v3 ρ4 => if v3 = 0 then jn (l4 + 1) (fun x6 => L_X0_fewest_11 n l2 l3 x6 ρ4) else some (l4, ρ4)))
def f_X0_fewest (l2 l3 : Int) (ρ : pm) : Option (Int × pm) := (f_X2_copy 47 8 ρ).bind (fun ρ1 => L_X0_fewest_11 fu l2 l3 0 ρ1)
set_option maxRecDepth 100000 in
theorem t_X0_fewest_11 {d : Nat}    {o : pm} {rv : Int} {rρ : pm}   : ∀ (n : Nat) (l2 l3 l4 : Int) (ρ : pm), L_X0_fewest_11 n l2 l3 l4 ρ = some (rv, rρ) → ci_T yX0_fewest cX0_fewest 5 (some .int) (d + 7) 11 ([(0, .ref 35), (2, .int (Int32.ofInt l2)), (3, .int (Int32.ofInt l3)), (4, .int (Int32.ofInt l4))], [], pk true ρ o) (pP true rv rρ o) := by
  intro n
  induction n with
  | zero =>
    intro l2 l3 l4 ρ h
    rw [L_X0_fewest_11] at h
    cases h
  | succ n ih =>
    intro l2 l3 l4 ρ h
    rw [L_X0_fewest_11] at h
    obtain ⟨h2, h⟩ := ck_some h
    refine ci_T.step cb_X0_fewest_11 (ci_sq rfl (ci_sq (pe_push pc_3) (pe_ic_gt h2 pR_3))) ?_
    refine pbr h (fun hc h => ?_) (fun hc h => ?_)
    · refine ci_T.step cb_X0_fewest_37 (pe_push pc_m1) ?_
      cases h
      exact ci_T.done (v := some (.int _)) cd_X0_fewest_38 ⟨rfl, rfl⟩
    · refine ci_T.step cb_X0_fewest_17 (ci_sq rfl (ci_sq rfl (ci_sq rfl rfl))) ?_
      obtain ⟨v3, ρ4, hv, h⟩ := bn2_some h
      refine ci_T.call (as := [_, _, _, _]) (rest := []) kc_X0_brings ki_X0_brings (by decide) cl_X0_fewest_22 rfl (Nat.le_of_ble_eq_true rfl) ⟨⟨_, rfl⟩, _, _, _, rfl, pk_obj tq_34 rfl _ _⟩ (s_X0_brings34 d o hv) ?_
      rintro _ _ ⟨⟨rfl, rfl⟩, hz5⟩
      clear hv
      refine ci_T.step cb_X0_fewest_25 (pe_if_eq (Z_R hz5)) ?_
      refine pbr h (fun hc h => ?_) (fun hc h => ?_)
      · replace h := jn_some h
        refine ci_T.step cb_X0_fewest_31 (ci_sq (pe_inc rfl) rfl) ?_
        exact ci_T.sub [1, 2, 3, 0] (ih _ _ _ _ h) rfl
      · refine ci_T.step cb_X0_fewest_28 rfl ?_
        cases h
        exact ci_T.done (v := some (.int _)) cd_X0_fewest_30 ⟨rfl, rfl⟩
set_option maxRecDepth 100000 in
theorem s_X0_fewest (d : Nat)   {ρ : pm} (o : pm) {l2 l3 : Int} {rv : Int} {rρ : pm} (h : f_X0_fewest l2 l3 ρ = some (rv, rρ)) : ci_Met (d + 7) (yX0_fewest, cX0_fewest, 5, (some .int), [], 0, 0) [.ref 35, .ref 9, .int (Int32.ofInt l2), .int (Int32.ofInt l3)] (pk true ρ o) (pP true rv rρ o) := by
  refine ci_met (by decide) (Nat.le_of_ble_eq_true rfl) ?_ ?_
  · rintro v w' ⟨rfl, rfl⟩
    trivial
  · change ci_T _ _ _ _ _ _ ([(0, .ref 35), (1, .ref 9), (2, .int (Int32.ofInt l2)), (3, .int (Int32.ofInt l3))], [], pk true ρ o) _
    unfold f_X0_fewest at h
    refine ci_T.step cb_X0_fewest_0 (ci_sq rfl (ci_sq (pe_getR tq_34 rfl rfl) rfl)) ?_
    obtain ⟨ρ1, hv, h⟩ := bn_some h
    refine ci_T.call (as := [_, _]) (rest := []) kc_X2_copy ki_X2_copy (by decide) cl_X0_fewest_5 rfl (Nat.le_of_ble_eq_true rfl) ⟨⟨_, rfl⟩, _, _, _, rfl, pk_obj tq_47 rfl _ _⟩ (s_X2_copy (d + 6) 47 8 iF_47 iF_8 o hv) ?_
    rintro _ _ ⟨rfl, rfl⟩
    clear hv
    refine ci_T.step cb_X0_fewest_8 (ci_sq (pe_push pc_0) rfl) ?_
    exact ci_T.sub [1, 3, 4, 0] (t_X0_fewest_11 fu _ _ _ _ h) rfl
/-- X8_alone -/
def f_X8_alone (l1 l2 l3 : Int) (ρ : pm) : Option (Int × pm) := ck (inR l3) (jn (fun (l1 l2 l3 s0 : Int) (ρ : pm) => (f_X3_hasFarm l1 ρ).bind (fun v2 => if v2 = 0 then some ((-1), ρ) else (f_X3_hasCell l2 ρ).bind (fun v4 => if v4 = 0 then some ((-1), ρ) else ck (inR l3) (jn (fun (l1 l2 l3 : Int) (ρ : pm) => bn2 (f_X0_fewest l1 l2 ρ) (fun v7 ρ8 => ck (inR v7) (if 0 ≤ v7 then ck (inR l3) (if l3 = 0 then some (v7, ρ8) else ck (inR (l3 - 10)) (if v7 ≤ (l3 - 10) then some ((-4), ρ8) else (f_X0_cutOf (l3 - 10) ρ8).bind (fun v12 => some (v12, ρ8)))) else some ((-4), ρ8)))) (fun j52 => if l3 = 0 then j52 l1 l2 l3 ρ else ck (inR s0) (if s0 = 0 then some ((-1), ρ) else j52 l1 l2 l3 ρ)))))) (fun j17 => jn (fun (l1 l2 l3 : Int) (ρ : pm) => j17 l1 l2 l3 0 ρ) (fun j16 => if l3 < 10 then j16 l1 l2 l3 ρ else if 13 ≤ l3 then j16 l1 l2 l3 ρ else j17 l1 l2 l3 1 ρ)))
set_option maxRecDepth 100000 in
theorem s_X8_alone (d : Nat)   {ρ : pm} (o : pm) {l1 l2 l3 : Int} {rv : Int} {rρ : pm} (h : f_X8_alone l1 l2 l3 ρ = some (rv, rρ)) : ci_Met (d + 8) (yX8_alone, cX8_alone, 6, (some .int), [], 0, 0) [.ref 1, .int (Int32.ofInt l1), .int (Int32.ofInt l2), .int (Int32.ofInt l3)] (pk true ρ o) (pP true rv rρ o) := by
  refine ci_met (by decide) (Nat.le_of_ble_eq_true rfl) ?_ ?_
  · rintro v w' ⟨rfl, rfl⟩
    trivial
  · change ci_T _ _ _ _ _ _ ([(0, .ref 1), (1, .int (Int32.ofInt l1)), (2, .int (Int32.ofInt l2)), (3, .int (Int32.ofInt l3))], [], pk true ρ o) _
    unfold f_X8_alone at h
    obtain ⟨h1, h⟩ := ck_some h
    refine ci_T.step cb_X8_alone_0 (ci_sq rfl (ci_sq (pe_push pc_10) (pe_ic_lt h1 pR_10))) ?_
    obtain ⟨j17, hj, h⟩ := jn_ex h
    have J17 : ∀ (l1 l2 l3 s0 : Int) (ρ : pm), j17 l1 l2 l3 s0 ρ = some (rv, rρ) → ci_T yX8_alone cX8_alone 6 (some .int) (d + 8) 17 ([(0, .ref 1), (1, .int (Int32.ofInt l1)), (2, .int (Int32.ofInt l2)), (3, .int (Int32.ofInt l3))], [.int (Int32.ofInt s0)], pk true ρ o) (pP true rv rρ o) := by
      intro l1 l2 l3 s0 ρ h
      subst hj
      refine ci_T.step cb_X8_alone_17 (ci_sq rfl (ci_sq rfl (ci_sq (pe_getR tq_0 rfl rfl) rfl))) ?_
      obtain ⟨v2, hv, h⟩ := bn_some h
      refine ci_T.call (as := [_, _]) (rest := []) kc_X3_hasFarm ki_X3_hasFarm (by decide) cl_X8_alone_24 rfl (Nat.le_of_ble_eq_true rfl) ⟨⟨_, rfl⟩, _, _, _, rfl, pk_obj tq_1 rfl _ _⟩ (s_X3_hasFarm (d + 7) o hv) ?_
      rintro _ _ ⟨⟨rfl, rfl⟩, hz3⟩
      clear hv
      refine ci_T.step cb_X8_alone_27 (pe_if_eq (Z_R hz3)) ?_
      refine pbr h (fun hc h => ?_) (fun hc h => ?_)
      · refine ci_T.step cb_X8_alone_50 (pe_push pc_m1) ?_
        cases h
        exact ci_T.done (v := some (.int _)) cd_X8_alone_51 ⟨rfl, rfl⟩
      · refine ci_T.step cb_X8_alone_30 (ci_sq rfl (ci_sq (pe_getR tq_0 rfl rfl) rfl)) ?_
        obtain ⟨v4, hv, h⟩ := bn_some h
        refine ci_T.call (as := [_, _]) (rest := []) kc_X3_hasCell ki_X3_hasCell (by decide) cl_X8_alone_35 rfl (Nat.le_of_ble_eq_true rfl) ⟨⟨_, rfl⟩, _, _, _, rfl, pk_obj tq_1 rfl _ _⟩ (s_X3_hasCell (d + 7) o hv) ?_
        rintro _ _ ⟨⟨rfl, rfl⟩, hz5⟩
        clear hv
        refine ci_T.step cb_X8_alone_38 (pe_if_eq (Z_R hz5)) ?_
        refine pbr h (fun hc h => ?_) (fun hc h => ?_)
        · refine ci_T.step cb_X8_alone_50 (pe_push pc_m1) ?_
          cases h
          exact ci_T.done (v := some (.int _)) cd_X8_alone_51 ⟨rfl, rfl⟩
        · obtain ⟨h6, h⟩ := ck_some h
          refine ci_T.step cb_X8_alone_41 (ci_sq rfl (pe_if_eq h6)) ?_
          obtain ⟨j52, hj, h⟩ := jn_ex h
          have J52 : ∀ (l1 l2 l3 : Int) (ρ : pm), j52 l1 l2 l3 ρ = some (rv, rρ) → ci_T yX8_alone cX8_alone 6 (some .int) (d + 8) 52 ([(0, .ref 1), (1, .int (Int32.ofInt l1)), (2, .int (Int32.ofInt l2)), (3, .int (Int32.ofInt l3))], [], pk true ρ o) (pP true rv rρ o) := by
            intro l1 l2 l3 ρ h
            subst hj
            refine ci_T.step cb_X8_alone_52 (ci_sq rfl (ci_sq (pe_getR tq_0 rfl rfl) (ci_sq rfl (ci_sq (pe_getR tq_0 rfl rfl) (ci_sq (pe_getR tq_4 rfl rfl) (ci_sq rfl rfl)))))) ?_
            obtain ⟨v7, ρ8, hv, h⟩ := bn2_some h
            refine ci_T.call (as := [_, _, _, _]) (rest := []) kc_X0_fewest ki_X0_fewest (by decide) cl_X8_alone_65 rfl (Nat.le_of_ble_eq_true rfl) ⟨⟨_, rfl⟩, _, _, _, rfl, pk_obj tq_34 rfl _ _⟩ (s_X0_fewest d o hv) ?_
            rintro _ _ ⟨rfl, rfl⟩
            clear hv
            obtain ⟨h9, h⟩ := ck_some h
            refine ci_T.step cb_X8_alone_68 (ci_sq rfl (ci_sq rfl (pe_if_ge h9))) ?_
            refine pbr h (fun hc h => ?_) (fun hc h => ?_)
            · obtain ⟨h10, h⟩ := ck_some h
              refine ci_T.step cb_X8_alone_78 (ci_sq rfl (pe_if_ne h10)) ?_
              refine pbrn h (fun hc h => ?_) (fun hc h => ?_)
              · obtain ⟨h11, h⟩ := ck_some h
                refine ci_T.step cb_X8_alone_85 (ci_sq rfl (ci_sq (pe_push pc_10) (ci_sq pe_isub (ci_sq rfl (pe_ic_ge h11 h9))))) ?_
                refine pbr h (fun hc h => ?_) (fun hc h => ?_)
                · refine ci_T.step cb_X8_alone_108 (pe_push pc_m4) ?_
                  cases h
                  exact ci_T.done (v := some (.int _)) cd_X8_alone_110 ⟨rfl, rfl⟩
                · refine ci_T.step cb_X8_alone_94 (ci_sq rfl (ci_sq (pe_getR tq_0 rfl rfl) (ci_sq rfl (ci_sq (pe_push pc_10) pe_isub)))) ?_
                  obtain ⟨v12, hv, h⟩ := bn_some h
                  refine ci_T.call (as := [_, _]) (rest := []) kc_X0_cutOf ki_X0_cutOf (by decide) cl_X8_alone_102 rfl (Nat.le_of_ble_eq_true rfl) ⟨⟨_, rfl⟩, _, _, _, rfl, pk_obj tq_34 rfl _ _⟩ (s_X0_cutOf (d + 7) o hv) ?_
                  rintro _ _ ⟨rfl, rfl⟩
                  clear hv
                  refine ci_T.step cb_X8_alone_105 rfl ?_
                  cases h
                  exact ci_T.done (v := some (.int _)) cd_X8_alone_110 ⟨rfl, rfl⟩
              · refine ci_T.step cb_X8_alone_82 rfl ?_
                cases h
                exact ci_T.done (v := some (.int _)) cd_X8_alone_84 ⟨rfl, rfl⟩
            · refine ci_T.step cb_X8_alone_75 (pe_push pc_m4) ?_
              cases h
              exact ci_T.done (v := some (.int _)) cd_X8_alone_77 ⟨rfl, rfl⟩
          clear hj
          refine pbr h (fun hc h => ?_) (fun hc h => ?_)
          · exact ci_T.sub [1, 2, 3, 4] (J52 _ _ _ _ h) rfl
          · obtain ⟨h13, h⟩ := ck_some h
            refine ci_T.step cb_X8_alone_45 (ci_sq rfl (pe_if_ne h13)) ?_
            refine pbrn h (fun hc h => ?_) (fun hc h => ?_)
            · exact ci_T.sub [1, 2, 3, 4] (J52 _ _ _ _ h) rfl
            · refine ci_T.step cb_X8_alone_50 (pe_push pc_m1) ?_
              cases h
              exact ci_T.done (v := some (.int _)) cd_X8_alone_51 ⟨rfl, rfl⟩
    clear hj
    obtain ⟨j16, hj, h⟩ := jn_ex h
    have J16 : ∀ (l1 l2 l3 : Int) (ρ : pm), j16 l1 l2 l3 ρ = some (rv, rρ) → ci_T yX8_alone cX8_alone 6 (some .int) (d + 8) 16 ([(0, .ref 1), (1, .int (Int32.ofInt l1)), (2, .int (Int32.ofInt l2)), (3, .int (Int32.ofInt l3))], [], pk true ρ o) (pP true rv rρ o) := by
      intro l1 l2 l3 ρ h
      subst hj
      refine ci_T.step cb_X8_alone_16 (pe_push pc_0) ?_
      exact ci_T.sub [0, 1, 2, 3] (J17 _ _ _ _ _ h) rfl
    clear hj
    refine pbr h (fun hc h => ?_) (fun hc h => ?_)
    · exact ci_T.sub [0, 1, 2, 3] (J16 _ _ _ _ h) rfl
    · refine ci_T.step cb_X8_alone_6 (ci_sq rfl (ci_sq (pe_push pc_13) (pe_ic_ge h1 pR_13))) ?_
      refine pbr h (fun hc h => ?_) (fun hc h => ?_)
      · exact ci_T.sub [0, 1, 2, 3] (J16 _ _ _ _ h) rfl
      · refine ci_T.step cb_X8_alone_12 (ci_sq (pe_push pc_1) rfl) ?_
        exact ci_T.sub [0, 1, 2, 3] (J17 _ _ _ _ _ h) rfl
/-- X4_list -/
def L_X4_list_15 (K61 : Int → Int → pm → Option pm) : Nat → Int → Int → Int → Int → pm → Option pm
  | 0, _, _, _, _, _ => none
  | n + 1, l1, l2, l3, l4, ρ => ck (inR l4) (if 25 ≤ l4 then K61 l1 l3 ρ else ck (inR l3) (if 9 ≤ l3 then K61 l1 l3 ρ else (f_X8_has l2 l4).bind (fun v5 => jn (fun (l1 l2 l3 l4 : Int) (ρ : pm) => jn (l4 + 1) (fun x7 => L_X4_list_15 K61 n l1 l2 l3 x7 ρ)) (fun j55 => if v5 = 0 then j55 l1 l2 l3 l4 ρ else ck (0 ≤ (l1 * 9) + l3 ∧ (l1 * 9) + l3 < 27) (jn (pup ρ 29 ((l1 * 9) + l3) (l4 + 1)) (fun ρ9 => jn (l3 + 1) (fun x10 => j55 l1 l2 x10 l4 ρ9)))))))
def f_X4_list (l1 l2 : Int) (ρ : pm) : Option pm := ck (0 ≤ l1 * 9 ∧ l1 * 9 < 27) (jn (pup ρ 29 (l1 * 9) 0) (fun ρ2 => L_X4_list_15 (fun (l1 l3 : Int) (ρ : pm) => ck (0 ≤ l1 ∧ l1 < 3) (jn (pup ρ 30 l1 l3) (fun ρ12 => some ρ12))) fu l1 l2 1 0 ρ2))
set_option maxRecDepth 100000 in
theorem t_X4_list_15 {d : Nat}    {o : pm} {rρ : pm} {K61 : Int → Int → pm → Option pm} (hK61 : ∀ (l1 l3 : Int) (ρ : pm), K61 l1 l3 ρ = some rρ → ci_T yX4_list cX4_list 5 none (d + 1) 61 ([(0, .ref 29), (1, .int (Int32.ofInt l1)), (3, .int (Int32.ofInt l3))], [], pk true ρ o) (pV true rρ o)) : ∀ (n : Nat) (l1 l2 l3 l4 : Int) (ρ : pm), L_X4_list_15 K61 n l1 l2 l3 l4 ρ = some rρ → ci_T yX4_list cX4_list 5 none (d + 1) 15 ([(0, .ref 29), (1, .int (Int32.ofInt l1)), (2, .int (Int32.ofInt l2)), (3, .int (Int32.ofInt l3)), (4, .int (Int32.ofInt l4))], [], pk true ρ o) (pV true rρ o) := by
  intro n
  induction n with
  | zero =>
    intro l1 l2 l3 l4 ρ h
    rw [L_X4_list_15] at h
    cases h
  | succ n ih =>
    intro l1 l2 l3 l4 ρ h
    rw [L_X4_list_15] at h
    obtain ⟨h3, h⟩ := ck_some h
    refine ci_T.step cb_X4_list_15 (ci_sq rfl (ci_sq (pe_push pc_25) (pe_ic_ge h3 pR_25))) ?_
    refine pbr h (fun hc h => ?_) (fun hc h => ?_)
    · exact ci_T.sub [0, 1, 3] (hK61 _ _ _ h) rfl
    · obtain ⟨h4, h⟩ := ck_some h
      refine ci_T.step cb_X4_list_22 (ci_sq rfl (ci_sq (pe_push pc_9) (pe_ic_ge h4 pR_9))) ?_
      refine pbr h (fun hc h => ?_) (fun hc h => ?_)
      · exact ci_T.sub [0, 1, 3] (hK61 _ _ _ h) rfl
      · refine ci_T.step cb_X4_list_28 (ci_sq rfl rfl) ?_
        obtain ⟨v5, hv, h⟩ := bn_some h
        refine ci_T.call (as := [_, _]) (rest := []) kc_X8_has ki_X8_has (by decide) cl_X4_list_31 rfl (Nat.le_of_ble_eq_true rfl) trivial (s_X8_has d o hv) ?_
        rintro _ _ ⟨⟨rfl, rfl⟩, hz6⟩
        clear hv
        refine ci_T.step cb_X4_list_34 (pe_if_eq (Z_R hz6)) ?_
        obtain ⟨j55, hj, h⟩ := jn_ex h
        have J55 : ∀ (l1 l2 l3 l4 : Int) (ρ : pm), j55 l1 l2 l3 l4 ρ = some rρ → ci_T yX4_list cX4_list 5 none (d + 1) 55 ([(0, .ref 29), (1, .int (Int32.ofInt l1)), (2, .int (Int32.ofInt l2)), (3, .int (Int32.ofInt l3)), (4, .int (Int32.ofInt l4))], [], pk true ρ o) (pV true rρ o) := by
          intro l1 l2 l3 l4 ρ h
          subst hj
          replace h := jn_some h
          refine ci_T.step cb_X4_list_55 (ci_sq (pe_inc rfl) rfl) ?_
          exact ci_T.sub [1, 2, 3, 4, 0] (ih _ _ _ _ _ h) rfl
        clear hj
        refine pbr h (fun hc h => ?_) (fun hc h => ?_)
        · exact ci_T.sub [0, 1, 2, 3, 4] (J55 _ _ _ _ _ h) rfl
        · obtain ⟨h8, h⟩ := ck_some h
          replace h := jn_some h
          replace h := jn_some h
          refine ci_T.step cb_X4_list_37 (ci_sq rfl (ci_sq (pe_getR tq_28 rfl rfl) (ci_sq rfl (ci_sq (pe_push pc_9) (ci_sq pe_imul (ci_sq rfl (ci_sq pe_iadd (ci_sq rfl (ci_sq (pe_push pc_1) (ci_sq pe_iadd (ci_sq (pe_ast (nI := 27) tq_29 rfl rfl h8 rfl) (pe_inc rfl)))))))))))) ?_
          exact ci_T.sub [1, 2, 3, 0, 4] (J55 _ _ _ _ _ h) rfl
set_option maxRecDepth 100000 in
theorem s_X4_list (d : Nat)   {ρ : pm} (o : pm) {l1 l2 : Int} {rρ : pm} (h : f_X4_list l1 l2 ρ = some rρ) : ci_Met (d + 1) (yX4_list, cX4_list, 5, none, [], 0, 0) [.ref 29, .int (Int32.ofInt l1), .int (Int32.ofInt l2)] (pk true ρ o) (pV true rρ o) := by
  refine ci_met (by decide) (Nat.le_of_ble_eq_true rfl) ?_ ?_
  · rintro v w' ⟨rfl, rfl⟩
    trivial
  · change ci_T _ _ _ _ _ _ ([(0, .ref 29), (1, .int (Int32.ofInt l1)), (2, .int (Int32.ofInt l2))], [], pk true ρ o) _
    unfold f_X4_list at h
    obtain ⟨h1, h⟩ := ck_some h
    replace h := jn_some h
    refine ci_T.step cb_X4_list_0 (ci_sq (pe_push pc_1) (ci_sq rfl (ci_sq rfl (ci_sq (pe_getR tq_28 rfl rfl) (ci_sq rfl (ci_sq (pe_push pc_9) (ci_sq pe_imul (ci_sq (pe_push pc_0) (ci_sq (pe_ast (nI := 27) tq_29 rfl rfl h1 rfl) (ci_sq (pe_push pc_0) rfl)))))))))) ?_
    refine ci_T.sub [2, 3, 4, 1, 0] (t_X4_list_15 ?_ fu _ _ _ _ _ h) rfl
    · intro l1 l3 ρ h
      obtain ⟨h11, h⟩ := ck_some h
      replace h := jn_some h
      refine ci_T.step cb_X4_list_61 (ci_sq rfl (ci_sq (pe_getR tq_28 rfl rfl) (ci_sq rfl (ci_sq rfl (pe_ast (nI := 3) tq_30 rfl rfl h11 rfl))))) ?_
      cases h
      exact ci_T.done (v := none) cd_X4_list_68 ⟨rfl, rfl⟩
/-- X4_build -/
def L_X4_build_5 (K47 : pm → Option pm) : Nat → Int → Int → pm → Option pm
  | 0, _, _, _ => none
  | n + 1, l3, l4, ρ => ck (inR l4) (if 3 ≤ l4 then K47 ρ else (f_X2_cuttable 8 l4 ρ).bind (fun v2 => (f_X4_list l4 v2 ρ).bind (fun ρ3 => ck (0 ≤ l4 ∧ l4 < 3) (jn (pup ρ3 31 l4 l3) (fun ρ5 => jn (l3 * (ρ5 30 l4)) (fun x6 => jn (l4 + 1) (fun x7 => L_X4_build_5 K47 n x6 x7 ρ5)))))))
def L_X4_build_114 (K205 : Int → Int → pm → Option pm) : Nat → Int → Int → Int → Int → pm → Option pm
  | 0, _, _, _, _, _ => none
  | n + 1, l4, l5, l6, l7, ρ => ck (inR l7) (ck (inR (ρ 30 0)) (if (ρ 30 0) ≤ l7 then K205 l4 l5 ρ else ck (inR (ρ 28 5)) (if 729 ≤ (ρ 28 5) then K205 l4 l5 ρ else ck (0 ≤ l7 ∧ l7 < 27) ((f_X8_numberOf (ρ 29 l7) 0).bind (fun v23 => ck (0 ≤ ρ 28 5 ∧ ρ 28 5 < 729) (jn (pup ρ 32 (ρ 28 5) (v23 + l6)) (fun ρ25 => (f_X2_copy 25 8 ρ25).bind (fun ρ26 => ck (0 ≤ ρ26 28 5 ∧ ρ26 28 5 < 729) ((f_X2_pass 25 (ρ26 32 (ρ26 28 5)) ρ26).bind (fun ρ28 => ck (0 ≤ ρ28 28 5 ∧ ρ28 28 5 < 729) (jn (pup ρ28 33 (ρ28 28 5) (ρ28 25 4)) (fun ρ30 => jn (pup ρ30 28 5 ((ρ30 28 5) + 1)) (fun ρ31 => jn (l7 + 1) (fun x32 => L_X4_build_114 K205 n l4 l5 l6 x32 ρ31))))))))))))))
def L_X4_build_69 (K211 : Int → pm → Option pm) : Nat → Int → Int → pm → Option pm
  | 0, _, _, _ => none
  | n + 1, l4, l5, ρ => ck (inR l5) (ck (inR (ρ 30 1)) (if (ρ 30 1) ≤ l5 then K211 l4 ρ else ck (0 ≤ 9 + l5 ∧ 9 + l5 < 27) ((f_X8_numberOf (ρ 29 (9 + l5)) 1).bind (fun v15 => ck (0 ≤ 18 + l4 ∧ 18 + l4 < 27) ((f_X8_numberOf (ρ 29 (18 + l4)) 2).bind (fun v17 => jn (v15 + v17) (fun x18 => L_X4_build_114 (fun (l4 l5 : Int) (ρ : pm) => jn (l5 + 1) (fun x33 => L_X4_build_69 K211 n l4 x33 ρ)) fu l4 l5 x18 0 ρ)))))))
def L_X4_build_55  : Nat → Int → pm → Option pm
  | 0, _, _ => none
  | n + 1, l4, ρ => ck (inR l4) (ck (inR (ρ 30 2)) (if (ρ 30 2) ≤ l4 then jn (pup ρ 28 6 1) (fun ρ11 => some ρ11) else L_X4_build_69 (fun (l4 : Int) (ρ : pm) => jn (l4 + 1) (fun x34 => L_X4_build_55 n x34 ρ)) fu l4 0 ρ))
def f_X4_build (ρ : pm) : Option pm := L_X4_build_5 (fun (ρ : pm) => jn (pup ρ 28 5 0) (fun ρ8 => L_X4_build_55 fu 0 ρ8)) fu 1 0 ρ
set_option maxRecDepth 100000 in
theorem t_X4_build_5 {d : Nat}    {o : pm} {rρ : pm} {K47 : pm → Option pm} (hK47 : ∀ (ρ : pm), K47 ρ = some rρ → ci_T yX4_build cX4_build 8 none (d + 4) 47 ([(0, .ref 29), (1, .ref 9), (2, .ref 26)], [], pk true ρ o) (pV true rρ o)) : ∀ (n : Nat) (l3 l4 : Int) (ρ : pm), L_X4_build_5 K47 n l3 l4 ρ = some rρ → ci_T yX4_build cX4_build 8 none (d + 4) 5 ([(0, .ref 29), (1, .ref 9), (2, .ref 26), (3, .int (Int32.ofInt l3)), (4, .int (Int32.ofInt l4))], [], pk true ρ o) (pV true rρ o) := by
  intro n
  induction n with
  | zero =>
    intro l3 l4 ρ h
    rw [L_X4_build_5] at h
    cases h
  | succ n ih =>
    intro l3 l4 ρ h
    rw [L_X4_build_5] at h
    obtain ⟨h1, h⟩ := ck_some h
    refine ci_T.step cb_X4_build_5 (ci_sq rfl (ci_sq (pe_push pc_3) (pe_ic_ge h1 pR_3))) ?_
    refine pbr h (fun hc h => ?_) (fun hc h => ?_)
    · exact ci_T.sub [0, 1, 2] (hK47 _ h) rfl
    · refine ci_T.step cb_X4_build_11 (ci_sq rfl (ci_sq rfl (ci_sq rfl rfl))) ?_
      obtain ⟨v2, hv, h⟩ := bn_some h
      refine ci_T.call (as := [_, _]) (rest := [_, _]) kc_X2_cuttable ki_X2_cuttable (by decide) cl_X4_build_17 rfl (Nat.le_of_ble_eq_true rfl) ⟨⟨_, rfl⟩, _, _, _, rfl, pk_obj tq_8 rfl _ _⟩ (s_X2_cuttable (d + 1) 8 iF_8 o hv) ?_
      rintro _ _ ⟨rfl, rfl⟩
      clear hv
      obtain ⟨ρ3, hv, h⟩ := bn_some h
      refine ci_T.call (as := [_, _, _]) (rest := []) kc_X4_list ki_X4_list (by decide) cl_X4_build_20 rfl (Nat.le_of_ble_eq_true rfl) ⟨⟨_, rfl⟩, _, _, _, rfl, pk_obj tq_28 rfl _ _⟩ (s_X4_list (d + 2) o hv) ?_
      rintro _ _ ⟨rfl, rfl⟩
      clear hv
      obtain ⟨h4, h⟩ := ck_some h
      replace h := jn_some h
      replace h := jn_some h
      replace h := jn_some h
      refine ci_T.step cb_X4_build_23 (ci_sq rfl (ci_sq (pe_getR tq_28 rfl rfl) (ci_sq rfl (ci_sq rfl (ci_sq (pe_ast (nI := 3) tq_31 rfl rfl h4 rfl) (ci_sq rfl (ci_sq rfl (ci_sq (pe_getR tq_28 rfl rfl) (ci_sq rfl (ci_sq (pe_ald (nI := 3) tq_30 rfl rfl h4) (ci_sq pe_imul (ci_sq rfl (ci_sq (pe_inc rfl) rfl))))))))))))) ?_
      exact ci_T.sub [2, 3, 4, 1, 0] (ih _ _ _ h) rfl
set_option maxRecDepth 100000 in
theorem t_X4_build_114 {d : Nat}    {o : pm} {rρ : pm} {K205 : Int → Int → pm → Option pm} (hK205 : ∀ (l4 l5 : Int) (ρ : pm), K205 l4 l5 ρ = some rρ → ci_T yX4_build cX4_build 8 none (d + 4) 205 ([(0, .ref 29), (1, .ref 9), (2, .ref 26), (4, .int (Int32.ofInt l4)), (5, .int (Int32.ofInt l5))], [], pk true ρ o) (pV true rρ o)) : ∀ (n : Nat) (l4 l5 l6 l7 : Int) (ρ : pm), L_X4_build_114 K205 n l4 l5 l6 l7 ρ = some rρ → ci_T yX4_build cX4_build 8 none (d + 4) 114 ([(0, .ref 29), (1, .ref 9), (2, .ref 26), (4, .int (Int32.ofInt l4)), (5, .int (Int32.ofInt l5)), (6, .int (Int32.ofInt l6)), (7, .int (Int32.ofInt l7))], [], pk true ρ o) (pV true rρ o) := by
  intro n
  induction n with
  | zero =>
    intro l4 l5 l6 l7 ρ h
    rw [L_X4_build_114] at h
    cases h
  | succ n ih =>
    intro l4 l5 l6 l7 ρ h
    rw [L_X4_build_114] at h
    obtain ⟨h19, h⟩ := ck_some h
    obtain ⟨h20, h⟩ := ck_some h
    refine ci_T.step cb_X4_build_114 (ci_sq rfl (ci_sq rfl (ci_sq (pe_getR tq_28 rfl rfl) (ci_sq (pe_push pc_0) (ci_sq (pe_ald (nI := 3) tq_30 rfl rfl ⟨by decide, by decide⟩) (pe_ic_ge h19 h20)))))) ?_
    refine pbr h (fun hc h => ?_) (fun hc h => ?_)
    · exact ci_T.sub [0, 1, 2, 3, 4] (hK205 _ _ _ h) rfl
    · obtain ⟨h21, h⟩ := ck_some h
      refine ci_T.step cb_X4_build_125 (ci_sq rfl (ci_sq (pe_getI (kI := 5) tq_28 rfl rfl rfl) (ci_sq (pe_push pc_729) (pe_ic_ge h21 pR_729)))) ?_
      refine pbr h (fun hc h => ?_) (fun hc h => ?_)
      · exact ci_T.sub [0, 1, 2, 3, 4] (hK205 _ _ _ h) rfl
      · obtain ⟨h22, h⟩ := ck_some h
        refine ci_T.step cb_X4_build_135 (ci_sq rfl (ci_sq (pe_getR tq_28 rfl rfl) (ci_sq rfl (ci_sq (pe_getI (kI := 5) tq_28 rfl rfl rfl) (ci_sq rfl (ci_sq (pe_getR tq_28 rfl rfl) (ci_sq rfl (ci_sq (pe_ald (nI := 27) tq_29 rfl rfl h22) (pe_push pc_0))))))))) ?_
        obtain ⟨v23, hv, h⟩ := bn_some h
        refine ci_T.call (as := [_, _]) (rest := [_, _]) kc_X8_numberOf ki_X8_numberOf (by decide) cl_X4_build_151 rfl (Nat.le_of_ble_eq_true rfl) trivial (s_X8_numberOf (d + 3) o hv) ?_
        rintro _ _ ⟨rfl, rfl⟩
        clear hv
        obtain ⟨h24, h⟩ := ck_some h
        replace h := jn_some h
        refine ci_T.step cb_X4_build_154 (ci_sq rfl (ci_sq pe_iadd (ci_sq (pe_ast (nI := 729) tq_32 rfl rfl h24 rfl) (ci_sq rfl rfl)))) ?_
        obtain ⟨ρ26, hv, h⟩ := bn_some h
        refine ci_T.call (as := [_, _]) (rest := []) kc_X2_copy ki_X2_copy (by decide) cl_X4_build_160 rfl (Nat.le_of_ble_eq_true rfl) ⟨⟨_, rfl⟩, _, _, _, rfl, pk_obj tq_25 rfl _ _⟩ (s_X2_copy (d + 3) 25 8 iF_25 iF_8 o hv) ?_
        rintro _ _ ⟨rfl, rfl⟩
        clear hv
        obtain ⟨h27, h⟩ := ck_some h
        refine ci_T.step cb_X4_build_163 (ci_sq rfl (ci_sq rfl (ci_sq (pe_getR tq_28 rfl rfl) (ci_sq rfl (ci_sq (pe_getI (kI := 5) tq_28 rfl rfl rfl) (pe_ald (nI := 729) tq_32 rfl rfl h27)))))) ?_
        obtain ⟨ρ28, hv, h⟩ := bn_some h
        refine ci_T.call (as := [_, _]) (rest := []) kc_X2_pass ki_X2_pass (by decide) cl_X4_build_173 rfl (Nat.le_of_ble_eq_true rfl) ⟨⟨_, rfl⟩, _, _, _, rfl, pk_obj tq_25 rfl _ _⟩ (s_X2_pass d 25 iF_25 o hv) ?_
        rintro _ _ ⟨rfl, rfl⟩
        clear hv
        obtain ⟨h29, h⟩ := ck_some h
        replace h := jn_some h
        replace h := jn_some h
        replace h := jn_some h
        refine ci_T.step cb_X4_build_176 (ci_sq rfl (ci_sq (pe_getR tq_28 rfl rfl) (ci_sq rfl (ci_sq (pe_getI (kI := 5) tq_28 rfl rfl rfl) (ci_sq rfl (ci_sq (pe_getI (kI := 4) tq_25 rfl rfl rfl) (ci_sq (pe_ast (nI := 729) tq_33 rfl rfl h29 rfl) (ci_sq rfl (ci_sq rfl (ci_sq (pe_getI (kI := 5) tq_28 rfl rfl rfl) (ci_sq (pe_push pc_1) (ci_sq pe_iadd (ci_sq (pe_putI (kI := 5) tq_28 rfl rfl rfl) (ci_sq (pe_inc rfl) rfl)))))))))))))) ?_
        exact ci_T.sub [1, 2, 3, 4, 5, 6, 0] (ih _ _ _ _ _ h) rfl
set_option maxRecDepth 100000 in
theorem t_X4_build_69 {d : Nat}    {o : pm} {rρ : pm} {K211 : Int → pm → Option pm} (hK211 : ∀ (l4 : Int) (ρ : pm), K211 l4 ρ = some rρ → ci_T yX4_build cX4_build 8 none (d + 4) 211 ([(0, .ref 29), (1, .ref 9), (2, .ref 26), (4, .int (Int32.ofInt l4))], [], pk true ρ o) (pV true rρ o)) : ∀ (n : Nat) (l4 l5 : Int) (ρ : pm), L_X4_build_69 K211 n l4 l5 ρ = some rρ → ci_T yX4_build cX4_build 8 none (d + 4) 69 ([(0, .ref 29), (1, .ref 9), (2, .ref 26), (4, .int (Int32.ofInt l4)), (5, .int (Int32.ofInt l5))], [], pk true ρ o) (pV true rρ o) := by
  intro n
  induction n with
  | zero =>
    intro l4 l5 ρ h
    rw [L_X4_build_69] at h
    cases h
  | succ n ih =>
    intro l4 l5 ρ h
    rw [L_X4_build_69] at h
    obtain ⟨h12, h⟩ := ck_some h
    obtain ⟨h13, h⟩ := ck_some h
    refine ci_T.step cb_X4_build_69 (ci_sq rfl (ci_sq rfl (ci_sq (pe_getR tq_28 rfl rfl) (ci_sq (pe_push pc_1) (ci_sq (pe_ald (nI := 3) tq_30 rfl rfl ⟨by decide, by decide⟩) (pe_ic_ge h12 h13)))))) ?_
    refine pbr h (fun hc h => ?_) (fun hc h => ?_)
    · exact ci_T.sub [0, 1, 2, 3] (hK211 _ _ h) rfl
    · obtain ⟨h14, h⟩ := ck_some h
      refine ci_T.step cb_X4_build_80 (ci_sq rfl (ci_sq (pe_getR tq_28 rfl rfl) (ci_sq (pe_push pc_9) (ci_sq rfl (ci_sq pe_iadd (ci_sq (pe_ald (nI := 27) tq_29 rfl rfl h14) (pe_push pc_1))))))) ?_
      obtain ⟨v15, hv, h⟩ := bn_some h
      refine ci_T.call (as := [_, _]) (rest := []) kc_X8_numberOf ki_X8_numberOf (by decide) cl_X4_build_91 rfl (Nat.le_of_ble_eq_true rfl) trivial (s_X8_numberOf (d + 3) o hv) ?_
      rintro _ _ ⟨rfl, rfl⟩
      clear hv
      obtain ⟨h16, h⟩ := ck_some h
      refine ci_T.step cb_X4_build_94 (ci_sq rfl (ci_sq (pe_getR tq_28 rfl rfl) (ci_sq (pe_push pc_18) (ci_sq rfl (ci_sq pe_iadd (ci_sq (pe_ald (nI := 27) tq_29 rfl rfl h16) (pe_push pc_2))))))) ?_
      obtain ⟨v17, hv, h⟩ := bn_some h
      refine ci_T.call (as := [_, _]) (rest := [_]) kc_X8_numberOf ki_X8_numberOf (by decide) cl_X4_build_105 rfl (Nat.le_of_ble_eq_true rfl) trivial (s_X8_numberOf (d + 3) o hv) ?_
      rintro _ _ ⟨rfl, rfl⟩
      clear hv
      replace h := jn_some h
      refine ci_T.step cb_X4_build_108 (ci_sq pe_iadd (ci_sq rfl (ci_sq (pe_push pc_0) rfl))) ?_
      refine ci_T.sub [2, 3, 4, 5, 6, 1, 0] (t_X4_build_114 ?_ fu _ _ _ _ _ h) rfl
      · intro l4 l5 ρ h
        replace h := jn_some h
        refine ci_T.step cb_X4_build_205 (ci_sq (pe_inc rfl) rfl) ?_
        exact ci_T.sub [1, 2, 3, 4, 0] (ih _ _ _ h) rfl
set_option maxRecDepth 100000 in
theorem t_X4_build_55 {d : Nat}    {o : pm} {rρ : pm}   : ∀ (n : Nat) (l4 : Int) (ρ : pm), L_X4_build_55 n l4 ρ = some rρ → ci_T yX4_build cX4_build 8 none (d + 4) 55 ([(0, .ref 29), (1, .ref 9), (2, .ref 26), (4, .int (Int32.ofInt l4))], [], pk true ρ o) (pV true rρ o) := by
  intro n
  induction n with
  | zero =>
    intro l4 ρ h
    rw [L_X4_build_55] at h
    cases h
  | succ n ih =>
    intro l4 ρ h
    rw [L_X4_build_55] at h
    obtain ⟨h9, h⟩ := ck_some h
    obtain ⟨h10, h⟩ := ck_some h
    refine ci_T.step cb_X4_build_55 (ci_sq rfl (ci_sq rfl (ci_sq (pe_getR tq_28 rfl rfl) (ci_sq (pe_push pc_2) (ci_sq (pe_ald (nI := 3) tq_30 rfl rfl ⟨by decide, by decide⟩) (pe_ic_ge h9 h10)))))) ?_
    refine pbr h (fun hc h => ?_) (fun hc h => ?_)
    · replace h := jn_some h
      refine ci_T.step cb_X4_build_217 (ci_sq rfl (ci_sq (pe_push pc_1) (pe_putZ (kI := 6) tq_28 rfl rfl rfl (Or.inr rfl)))) ?_
      cases h
      exact ci_T.done (v := none) cd_X4_build_222 ⟨rfl, rfl⟩
    · refine ci_T.step cb_X4_build_66 (ci_sq (pe_push pc_0) rfl) ?_
      refine ci_T.sub [1, 2, 3, 4, 0] (t_X4_build_69 ?_ fu _ _ _ h) rfl
      · intro l4 ρ h
        replace h := jn_some h
        refine ci_T.step cb_X4_build_211 (ci_sq (pe_inc rfl) rfl) ?_
        exact ci_T.sub [1, 2, 3, 0] (ih _ _ h) rfl
set_option maxRecDepth 100000 in
theorem s_X4_build (d : Nat)   {ρ : pm} (o : pm)  {rρ : pm} (h : f_X4_build ρ = some rρ) : ci_Met (d + 4) (yX4_build, cX4_build, 8, none, [], 0, 0) [.ref 29, .ref 9, .ref 26] (pk true ρ o) (pV true rρ o) := by
  refine ci_met (by decide) (Nat.le_of_ble_eq_true rfl) ?_ ?_
  · rintro v w' ⟨rfl, rfl⟩
    trivial
  · change ci_T _ _ _ _ _ _ ([(0, .ref 29), (1, .ref 9), (2, .ref 26)], [], pk true ρ o) _
    unfold f_X4_build at h
    refine ci_T.step cb_X4_build_0 (ci_sq (pe_push pc_1) (ci_sq rfl (ci_sq (pe_push pc_0) rfl))) ?_
    refine ci_T.sub [2, 3, 4, 1, 0] (t_X4_build_5 ?_ fu _ _ _ h) rfl
    · intro ρ h
      replace h := jn_some h
      refine ci_T.step cb_X4_build_47 (ci_sq rfl (ci_sq (pe_push pc_0) (ci_sq (pe_putI (kI := 5) tq_28 rfl rfl rfl) (ci_sq (pe_push pc_0) rfl)))) ?_
      exact ci_T.sub [1, 2, 3, 0] (t_X4_build_55 fu _ _ h) rfl
/-- X8_lookAhead -/
def f_X8_lookAhead (ρ : pm) : Option pm := ck (inR (ρ 28 6)) (if (ρ 28 6) = 0 then (f_X4_build ρ).bind (fun ρ2 => some ρ2) else some ρ)
set_option maxRecDepth 100000 in
theorem s_X8_lookAhead (d : Nat)   {ρ : pm} (o : pm)  {rρ : pm} (h : f_X8_lookAhead ρ = some rρ) : ci_Met (d + 5) (yX8_lookAhead, cX8_lookAhead, 1, none, [], 0, 0) [.ref 1] (pk true ρ o) (pV true rρ o) := by
  refine ci_met (by decide) (Nat.le_of_ble_eq_true rfl) ?_ ?_
  · rintro v w' ⟨rfl, rfl⟩
    trivial
  · change ci_T _ _ _ _ _ _ ([(0, .ref 1)], [], pk true ρ o) _
    unfold f_X8_lookAhead at h
    obtain ⟨h1, h⟩ := ck_some h
    refine ci_T.step cb_X8_lookAhead_0 (ci_sq rfl (ci_sq (pe_getR tq_0 rfl rfl) (ci_sq (pe_getI (kI := 6) tq_28 rfl rfl rfl) (pe_if_ne h1)))) ?_
    refine pbrn h (fun hc h => ?_) (fun hc h => ?_)
    · cases h
      exact ci_T.done (v := none) cd_X8_lookAhead_28 ⟨rfl, rfl⟩
    · refine ci_T.step cb_X8_lookAhead_10 (ci_sq rfl (ci_sq (pe_getR tq_0 rfl rfl) (ci_sq rfl (ci_sq (pe_getR tq_0 rfl rfl) (ci_sq (pe_getR tq_4 rfl rfl) (ci_sq rfl (pe_getR tq_0 rfl rfl))))))) ?_
      obtain ⟨ρ2, hv, h⟩ := bn_some h
      refine ci_T.call (as := [_, _, _]) (rest := []) kc_X4_build ki_X4_build (by decide) cl_X8_lookAhead_25 rfl (Nat.le_of_ble_eq_true rfl) ⟨⟨_, rfl⟩, _, _, _, rfl, pk_obj tq_28 rfl _ _⟩ (s_X4_build d o hv) ?_
      rintro _ _ ⟨rfl, rfl⟩
      clear hv
      cases h
      exact ci_T.done (v := none) cd_X8_lookAhead_28 ⟨rfl, rfl⟩
/-- X8_cutters -/
def L_X8_cutters_4  : Nat → Int → Int → Int → Option Int
  | 0, _, _, _ => none
  | n + 1, l0, l1, l2 => ck (inR l2) (if 3 ≤ l2 then some l1 else (f_X8_option l0 l2).bind (fun v2 => ck (inR v2) (jn (fun (l0 l1 l2 : Int) => jn (l2 + 1) (fun x4 => L_X8_cutters_4 n l0 l1 x4)) (fun j23 => if v2 = 0 then j23 l0 l1 l2 else jn (bor l1 (bshl 1 l2)) (fun x5 => j23 l0 x5 l2)))))
def f_X8_cutters (l0 : Int) : Option Int := L_X8_cutters_4 fu l0 0 0
set_option maxRecDepth 100000 in
theorem t_X8_cutters_4 {d : Nat}   {ρ : pm} {o : pm} {rv : Int}   : ∀ (n : Nat) (l0 l1 l2 : Int), L_X8_cutters_4 n l0 l1 l2 = some rv → ci_T yX8_cutters cX8_cutters 3 (some .int) (d + 1) 4 ([(0, .int (Int32.ofInt l0)), (1, .int (Int32.ofInt l1)), (2, .int (Int32.ofInt l2))], [], pk true ρ o) (pP true rv ρ o) := by
  intro n
  induction n with
  | zero =>
    intro l0 l1 l2 h
    rw [L_X8_cutters_4] at h
    cases h
  | succ n ih =>
    intro l0 l1 l2 h
    rw [L_X8_cutters_4] at h
    obtain ⟨h1, h⟩ := ck_some h
    refine ci_T.step cb_X8_cutters_4 (ci_sq rfl (ci_sq (pe_push pc_3) (pe_ic_ge h1 pR_3))) ?_
    refine pbr h (fun hc h => ?_) (fun hc h => ?_)
    · refine ci_T.step cb_X8_cutters_29 rfl ?_
      cases h
      exact ci_T.done (v := some (.int _)) cd_X8_cutters_30 ⟨rfl, rfl⟩
    · refine ci_T.step cb_X8_cutters_9 (ci_sq rfl rfl) ?_
      obtain ⟨v2, hv, h⟩ := bn_some h
      refine ci_T.call (as := [_, _]) (rest := []) kc_X8_option ki_X8_option (by decide) cl_X8_cutters_11 rfl (Nat.le_of_ble_eq_true rfl) trivial (s_X8_option d o hv) ?_
      rintro _ _ ⟨rfl, rfl⟩
      clear hv
      obtain ⟨h3, h⟩ := ck_some h
      refine ci_T.step cb_X8_cutters_14 (pe_if_eq h3) ?_
      obtain ⟨j23, hj, h⟩ := jn_ex h
      have J23 : ∀ (l0 l1 l2 : Int), j23 l0 l1 l2 = some rv → ci_T yX8_cutters cX8_cutters 3 (some .int) (d + 1) 23 ([(0, .int (Int32.ofInt l0)), (1, .int (Int32.ofInt l1)), (2, .int (Int32.ofInt l2))], [], pk true ρ o) (pP true rv ρ o) := by
        intro l0 l1 l2 h
        subst hj
        replace h := jn_some h
        refine ci_T.step cb_X8_cutters_23 (ci_sq (pe_inc rfl) rfl) ?_
        exact ci_T.sub [1, 2, 0] (ih _ _ _ h) rfl
      clear hj
      refine pbr h (fun hc h => ?_) (fun hc h => ?_)
      · exact ci_T.sub [0, 1, 2] (J23 _ _ _ h) rfl
      · replace h := jn_some h
        refine ci_T.step cb_X8_cutters_17 (ci_sq rfl (ci_sq (pe_push pc_1) (ci_sq rfl (ci_sq pe_ishl (ci_sq pe_ior rfl))))) ?_
        exact ci_T.sub [1, 0, 2] (J23 _ _ _ h) rfl
set_option maxRecDepth 100000 in
theorem s_X8_cutters (d : Nat)   {ρ : pm} (o : pm) {l0 : Int} {rv : Int} (h : f_X8_cutters l0 = some rv) : ci_Met (d + 1) (yX8_cutters, cX8_cutters, 3, (some .int), [], 0, 0) [.int (Int32.ofInt l0)] (pk true ρ o) (pP true rv ρ o) := by
  refine ci_met (by decide) (Nat.le_of_ble_eq_true rfl) ?_ ?_
  · rintro v w' ⟨rfl, rfl⟩
    trivial
  · change ci_T _ _ _ _ _ _ ([(0, .int (Int32.ofInt l0))], [], pk true ρ o) _
    unfold f_X8_cutters at h
    refine ci_T.step cb_X8_cutters_0 (ci_sq (pe_push pc_0) (ci_sq rfl (ci_sq (pe_push pc_0) rfl))) ?_
    exact ci_T.sub [2, 1, 0] (t_X8_cutters_4 fu _ _ _ h) rfl
/-- X8_together -/
def L_X8_together_35 (K109 : Int → Int → Int → pm → Option (Int × pm)) : Nat → Int → Int → Int → Int → Int → pm → Option (Int × pm)
  | 0, _, _, _, _, _, _ => none
  | n + 1, l1, l2, l3, l4, l5, ρ => ck (inR l5) (ck (inR (ρ 28 5)) (if (ρ 28 5) ≤ l5 then K109 l2 l3 l4 ρ else ck (0 ≤ l5 ∧ l5 < 729) ((f_X8_cutters (ρ 32 l5)).bind (fun v8 => (f_J6_bitCount v8).bind (fun v9 => (f_X8_has (ρ 33 l5) l1).bind (fun v10 => jn (fun (l1 l2 l3 l4 l5 : Int) (ρ : pm) => jn (l5 + 1) (fun x12 => L_X8_together_35 K109 n l1 l2 l3 l4 x12 ρ)) (fun j103 => if v10 = 0 then j103 l1 l2 l3 l4 l5 ρ else ck (inR v9) (ck (inR l3) (if l3 ≤ v9 then j103 l1 l2 l3 l4 l5 ρ else jn (ρ 32 l5) (fun x15 => j103 l1 l2 v9 x15 l5 ρ))))))))))
def f_X8_together (l1 l2 : Int) (ρ : pm) : Option (Int × pm) := (f_X3_hasCell l1 ρ).bind (fun v1 => if v1 = 0 then some ((-1), ρ) else ck (inR l2) (if l2 < 0 then some ((-1), ρ) else if l2 ≤ 1 then (f_X8_lookAhead ρ).bind (fun ρ4 => L_X8_together_35 (fun (l2 l3 l4 : Int) (ρ : pm) => ck (inR l4) (if l4 = (-4) then some (l4, ρ) else ck (inR l2) (if l2 = 1 then some (l4, ρ) else some (l3, ρ)))) fu l1 l2 4 (-4) 0 ρ4) else some ((-1), ρ)))
set_option maxRecDepth 100000 in
theorem t_X8_together_35 {d : Nat}    {o : pm} {rv : Int} {rρ : pm} {K109 : Int → Int → Int → pm → Option (Int × pm)} (hK109 : ∀ (l2 l3 l4 : Int) (ρ : pm), K109 l2 l3 l4 ρ = some (rv, rρ) → ci_T yX8_together cX8_together 7 (some .int) (d + 6) 109 ([(2, .int (Int32.ofInt l2)), (3, .int (Int32.ofInt l3)), (4, .int (Int32.ofInt l4))], [], pk true ρ o) (pP true rv rρ o)) : ∀ (n : Nat) (l1 l2 l3 l4 l5 : Int) (ρ : pm), L_X8_together_35 K109 n l1 l2 l3 l4 l5 ρ = some (rv, rρ) → ci_T yX8_together cX8_together 7 (some .int) (d + 6) 35 ([(0, .ref 1), (1, .int (Int32.ofInt l1)), (2, .int (Int32.ofInt l2)), (3, .int (Int32.ofInt l3)), (4, .int (Int32.ofInt l4)), (5, .int (Int32.ofInt l5))], [], pk true ρ o) (pP true rv rρ o) := by
  intro n
  induction n with
  | zero =>
    intro l1 l2 l3 l4 l5 ρ h
    rw [L_X8_together_35] at h
    cases h
  | succ n ih =>
    intro l1 l2 l3 l4 l5 ρ h
    rw [L_X8_together_35] at h
    obtain ⟨h5, h⟩ := ck_some h
    obtain ⟨h6, h⟩ := ck_some h
    refine ci_T.step cb_X8_together_35 (ci_sq rfl (ci_sq rfl (ci_sq (pe_getR tq_0 rfl rfl) (ci_sq (pe_getI (kI := 5) tq_28 rfl rfl rfl) (pe_ic_ge h5 h6))))) ?_
    refine pbr h (fun hc h => ?_) (fun hc h => ?_)
    · exact ci_T.sub [2, 3, 4] (hK109 _ _ _ _ h) rfl
    · obtain ⟨h7, h⟩ := ck_some h
      refine ci_T.step cb_X8_together_47 (ci_sq rfl (ci_sq (pe_getR tq_0 rfl rfl) (ci_sq (pe_getR tq_28 rfl rfl) (ci_sq rfl (pe_ald (nI := 729) tq_32 rfl rfl h7))))) ?_
      obtain ⟨v8, hv, h⟩ := bn_some h
      refine ci_T.call (as := [_]) (rest := []) kc_X8_cutters ki_X8_cutters (by decide) cl_X8_together_57 rfl (Nat.le_of_ble_eq_true rfl) trivial (s_X8_cutters (d + 4) o hv) ?_
      rintro _ _ ⟨rfl, rfl⟩
      clear hv
      obtain ⟨v9, hv, h⟩ := bn_some h
      refine ci_T.call (as := [_]) (rest := []) kc_J6_bitCount_0f7a4 ki_J6_bitCount_0f7a4 (by decide) cl_X8_together_60 rfl (Nat.le_of_ble_eq_true rfl) trivial (s_J6_bitCount (d + 5) o hv) ?_
      rintro _ _ ⟨rfl, rfl⟩
      clear hv
      refine ci_T.step cb_X8_together_63 (ci_sq rfl (ci_sq rfl (ci_sq (pe_getR tq_0 rfl rfl) (ci_sq (pe_getR tq_28 rfl rfl) (ci_sq rfl (ci_sq (pe_ald (nI := 729) tq_33 rfl rfl h7) rfl)))))) ?_
      obtain ⟨v10, hv, h⟩ := bn_some h
      refine ci_T.call (as := [_, _]) (rest := []) kc_X8_has ki_X8_has (by decide) cl_X8_together_76 rfl (Nat.le_of_ble_eq_true rfl) trivial (s_X8_has (d + 5) o hv) ?_
      rintro _ _ ⟨⟨rfl, rfl⟩, hz11⟩
      clear hv
      refine ci_T.step cb_X8_together_79 (pe_if_eq (Z_R hz11)) ?_
      obtain ⟨j103, hj, h⟩ := jn_ex h
      have J103 : ∀ (l1 l2 l3 l4 l5 : Int) (ρ : pm), j103 l1 l2 l3 l4 l5 ρ = some (rv, rρ) → ci_T yX8_together cX8_together 7 (some .int) (d + 6) 103 ([(0, .ref 1), (1, .int (Int32.ofInt l1)), (2, .int (Int32.ofInt l2)), (3, .int (Int32.ofInt l3)), (4, .int (Int32.ofInt l4)), (5, .int (Int32.ofInt l5))], [], pk true ρ o) (pP true rv rρ o) := by
        intro l1 l2 l3 l4 l5 ρ h
        subst hj
        replace h := jn_some h
        refine ci_T.step cb_X8_together_103 (ci_sq (pe_inc rfl) rfl) ?_
        exact ci_T.sub [1, 2, 3, 4, 5, 0] (ih _ _ _ _ _ _ h) rfl
      clear hj
      refine pbr h (fun hc h => ?_) (fun hc h => ?_)
      · exact ci_T.sub [1, 2, 3, 4, 5, 6] (J103 _ _ _ _ _ _ h) rfl
      · obtain ⟨h13, h⟩ := ck_some h
        obtain ⟨h14, h⟩ := ck_some h
        refine ci_T.step cb_X8_together_82 (ci_sq rfl (ci_sq rfl (pe_ic_ge h13 h14))) ?_
        refine pbr h (fun hc h => ?_) (fun hc h => ?_)
        · exact ci_T.sub [1, 2, 3, 4, 5, 6] (J103 _ _ _ _ _ _ h) rfl
        · replace h := jn_some h
          refine ci_T.step cb_X8_together_88 (ci_sq rfl (ci_sq rfl (ci_sq rfl (ci_sq (pe_getR tq_0 rfl rfl) (ci_sq (pe_getR tq_28 rfl rfl) (ci_sq rfl (ci_sq (pe_ald (nI := 729) tq_32 rfl rfl h7) rfl))))))) ?_
          exact ci_T.sub [3, 4, 5, 1, 0, 6] (J103 _ _ _ _ _ _ h) rfl
set_option maxRecDepth 100000 in
theorem s_X8_together (d : Nat)   {ρ : pm} (o : pm) {l1 l2 : Int} {rv : Int} {rρ : pm} (h : f_X8_together l1 l2 ρ = some (rv, rρ)) : ci_Met (d + 6) (yX8_together, cX8_together, 7, (some .int), [], 0, 0) [.ref 1, .int (Int32.ofInt l1), .int (Int32.ofInt l2)] (pk true ρ o) (pP true rv rρ o) := by
  refine ci_met (by decide) (Nat.le_of_ble_eq_true rfl) ?_ ?_
  · rintro v w' ⟨rfl, rfl⟩
    trivial
  · change ci_T _ _ _ _ _ _ ([(0, .ref 1), (1, .int (Int32.ofInt l1)), (2, .int (Int32.ofInt l2))], [], pk true ρ o) _
    unfold f_X8_together at h
    refine ci_T.step cb_X8_together_0 (ci_sq rfl (ci_sq (pe_getR tq_0 rfl rfl) rfl)) ?_
    obtain ⟨v1, hv, h⟩ := bn_some h
    refine ci_T.call (as := [_, _]) (rest := []) kc_X3_hasCell ki_X3_hasCell (by decide) cl_X8_together_5 rfl (Nat.le_of_ble_eq_true rfl) ⟨⟨_, rfl⟩, _, _, _, rfl, pk_obj tq_1 rfl _ _⟩ (s_X3_hasCell (d + 5) o hv) ?_
    rintro _ _ ⟨⟨rfl, rfl⟩, hz2⟩
    clear hv
    refine ci_T.step cb_X8_together_8 (pe_if_eq (Z_R hz2)) ?_
    refine pbr h (fun hc h => ?_) (fun hc h => ?_)
    · refine ci_T.step cb_X8_together_20 (pe_push pc_m1) ?_
      cases h
      exact ci_T.done (v := some (.int _)) cd_X8_together_21 ⟨rfl, rfl⟩
    · obtain ⟨h3, h⟩ := ck_some h
      refine ci_T.step cb_X8_together_11 (ci_sq rfl (pe_if_lt h3)) ?_
      refine pbr h (fun hc h => ?_) (fun hc h => ?_)
      · refine ci_T.step cb_X8_together_20 (pe_push pc_m1) ?_
        cases h
        exact ci_T.done (v := some (.int _)) cd_X8_together_21 ⟨rfl, rfl⟩
      · refine ci_T.step cb_X8_together_15 (ci_sq rfl (ci_sq (pe_push pc_1) (pe_ic_le h3 pR_1))) ?_
        refine pbr h (fun hc h => ?_) (fun hc h => ?_)
        · refine ci_T.step cb_X8_together_22 rfl ?_
          obtain ⟨ρ4, hv, h⟩ := bn_some h
          refine ci_T.call (as := [_]) (rest := []) kc_X8_lookAhead ki_X8_lookAhead (by decide) cl_X8_together_23 rfl (Nat.le_of_ble_eq_true rfl) ⟨⟨_, rfl⟩, _, _, _, rfl, pk_obj tq_0 rfl _ _⟩ (s_X8_lookAhead d o hv) ?_
          rintro _ _ ⟨rfl, rfl⟩
          clear hv
          refine ci_T.step cb_X8_together_26 (ci_sq (pe_push pc_4) (ci_sq rfl (ci_sq (pe_push pc_m4) (ci_sq rfl (ci_sq (pe_push pc_0) rfl))))) ?_
          refine ci_T.sub [3, 4, 5, 2, 1, 0] (t_X8_together_35 ?_ fu _ _ _ _ _ _ h) rfl
          · intro l2 l3 l4 ρ h
            obtain ⟨h16, h⟩ := ck_some h
            refine ci_T.step cb_X8_together_109 (ci_sq rfl (ci_sq (pe_push pc_m4) (pe_ic_eq h16 pR_m4))) ?_
            refine pbr h (fun hc h => ?_) (fun hc h => ?_)
            · refine ci_T.step cb_X8_together_121 (ci_sq rfl rfl) ?_
              cases h
              exact ci_T.done (v := some (.int _)) cd_X8_together_127 ⟨rfl, rfl⟩
            · obtain ⟨h17, h⟩ := ck_some h
              refine ci_T.step cb_X8_together_116 (ci_sq rfl (ci_sq (pe_push pc_1) (pe_ic_ne h17 pR_1))) ?_
              refine pbrn h (fun hc h => ?_) (fun hc h => ?_)
              · refine ci_T.step cb_X8_together_126 rfl ?_
                cases h
                exact ci_T.done (v := some (.int _)) cd_X8_together_127 ⟨rfl, rfl⟩
              · refine ci_T.step cb_X8_together_121 (ci_sq rfl rfl) ?_
                cases h
                exact ci_T.done (v := some (.int _)) cd_X8_together_127 ⟨rfl, rfl⟩
        · refine ci_T.step cb_X8_together_20 (pe_push pc_m1) ?_
          cases h
          exact ci_T.done (v := some (.int _)) cd_X8_together_21 ⟨rfl, rfl⟩
/-- X4_chosen -/
def L_X4_chosen_25 (F : Int → Int → pm → Option Int) (ρ : pm) : Nat → Int → Int → Int → Int → Option Int
  | 0, _, _, _, _ => none
  | n + 1, l2, l3, l4, l5 => ck (0 ≤ l2 ∧ l2 < 3) (ck (inR l5) (ck (inR (ρ 30 l2)) (if (ρ 30 l2) ≤ l5 then some l4 else (F (l2 + 1) (l3 + (l5 * (ρ 31 l2))) ρ).bind (fun v6 => ck (0 ≤ v6 ∧ v6 < 729) ((f_X7_gain l2 (ρ 33 v6) ρ).bind (fun v8 => ck (0 ≤ l4 ∧ l4 < 729) ((f_X7_gain l2 (ρ 33 l4) ρ).bind (fun v10 => ck (inR v8) (ck (inR v10) (jn (fun (l2 l3 l4 l5 : Int) => jn (l5 + 1) (fun x13 => L_X4_chosen_25 F ρ n l2 l3 l4 x13)) (fun j88 => if v8 ≤ v10 then j88 l2 l3 l4 l5 else j88 l2 l3 v6 l5)))))))))))
def g_X4_chosen (F : Int → Int → pm → Option Int) (l2 l3 : Int) (ρ : pm) : Option Int := ck (inR l2) (if l2 < 0 then some l3 else if l2 < 3 then (F (l2 + 1) l3 ρ).bind (fun v2 => L_X4_chosen_25 F ρ fu l2 l3 v2 1) else some l3)
def f_X4_chosen : Nat → Int → Int → pm → Option Int
  | 0, _, _, _ => none
  | k + 1, l2, l3, ρ => g_X4_chosen (f_X4_chosen k) l2 l3 ρ
set_option maxRecDepth 100000 in
theorem t_X4_chosen_25 {d : Nat}  {ρ : pm} {o : pm} {F : Int → Int → pm → Option Int} (hF : ∀ {a b v : Int}, F a b ρ = some v → ci_Met (d + 1) (yX4_chosen, cX4_chosen, 7, (some .int), [], 0, 0) [.ref 29, .ref 5, .int (Int32.ofInt a), .int (Int32.ofInt b)] (pk true ρ o) (pP true v ρ o))   {rv : Int}   : ∀ (n : Nat) (l2 l3 l4 l5 : Int), L_X4_chosen_25 F ρ n l2 l3 l4 l5 = some rv → ci_T yX4_chosen cX4_chosen 7 (some .int) (d + 2) 25 ([(0, .ref 29), (1, .ref 5), (2, .int (Int32.ofInt l2)), (3, .int (Int32.ofInt l3)), (4, .int (Int32.ofInt l4)), (5, .int (Int32.ofInt l5))], [], pk true ρ o) (pP true rv ρ o) := by
  intro n
  induction n with
  | zero =>
    intro l2 l3 l4 l5 h
    rw [L_X4_chosen_25] at h
    cases h
  | succ n ih =>
    intro l2 l3 l4 l5 h
    rw [L_X4_chosen_25] at h
    obtain ⟨h3, h⟩ := ck_some h
    obtain ⟨h4, h⟩ := ck_some h
    obtain ⟨h5, h⟩ := ck_some h
    refine ci_T.step cb_X4_chosen_25 (ci_sq rfl (ci_sq rfl (ci_sq (pe_getR tq_28 rfl rfl) (ci_sq rfl (ci_sq (pe_ald (nI := 3) tq_30 rfl rfl h3) (pe_ic_ge h4 h5)))))) ?_
    refine pbr h (fun hc h => ?_) (fun hc h => ?_)
    · refine ci_T.step cb_X4_chosen_94 rfl ?_
      cases h
      exact ci_T.done (v := some (.int _)) cd_X4_chosen_96 ⟨rfl, rfl⟩
    · refine ci_T.step cb_X4_chosen_36 (ci_sq rfl (ci_sq rfl (ci_sq rfl (ci_sq (pe_push pc_1) (ci_sq pe_iadd (ci_sq rfl (ci_sq rfl (ci_sq rfl (ci_sq (pe_getR tq_28 rfl rfl) (ci_sq rfl (ci_sq (pe_ald (nI := 3) tq_31 rfl rfl h3) (ci_sq pe_imul pe_iadd)))))))))))) ?_
      obtain ⟨v6, hv, h⟩ := bn_some h
      refine ci_T.call (as := [_, _, _, _]) (rest := []) kc_X4_chosen ki_X4_chosen (by decide) cl_X4_chosen_52 rfl (Nat.le_of_ble_eq_true rfl) ⟨⟨_, rfl⟩, _, _, _, rfl, pk_obj tq_28 rfl _ _⟩ (hF hv) ?_
      rintro _ _ ⟨rfl, rfl⟩
      clear hv
      obtain ⟨h7, h⟩ := ck_some h
      refine ci_T.step cb_X4_chosen_55 (ci_sq rfl (ci_sq rfl (ci_sq rfl (ci_sq rfl (ci_sq (pe_getR tq_28 rfl rfl) (ci_sq rfl (pe_ald (nI := 729) tq_33 rfl rfl h7))))))) ?_
      obtain ⟨v8, hv, h⟩ := bn_some h
      refine ci_T.call (as := [_, _, _]) (rest := []) kc_X7_gain ki_X7_gain (by decide) cl_X4_chosen_66 rfl (Nat.le_of_ble_eq_true rfl) ⟨⟨_, rfl⟩, _, _, _, rfl, pk_obj tq_4 rfl _ _⟩ (s_X7_gain d o hv) ?_
      rintro _ _ ⟨rfl, rfl⟩
      clear hv
      obtain ⟨h9, h⟩ := ck_some h
      refine ci_T.step cb_X4_chosen_69 (ci_sq rfl (ci_sq rfl (ci_sq rfl (ci_sq (pe_getR tq_28 rfl rfl) (ci_sq rfl (pe_ald (nI := 729) tq_33 rfl rfl h9)))))) ?_
      obtain ⟨v10, hv, h⟩ := bn_some h
      refine ci_T.call (as := [_, _, _]) (rest := [_]) kc_X7_gain ki_X7_gain (by decide) cl_X4_chosen_78 rfl (Nat.le_of_ble_eq_true rfl) ⟨⟨_, rfl⟩, _, _, _, rfl, pk_obj tq_4 rfl _ _⟩ (s_X7_gain d o hv) ?_
      rintro _ _ ⟨rfl, rfl⟩
      clear hv
      obtain ⟨h11, h⟩ := ck_some h
      obtain ⟨h12, h⟩ := ck_some h
      refine ci_T.step cb_X4_chosen_81 (pe_ic_le h11 h12) ?_
      obtain ⟨j88, hj, h⟩ := jn_ex h
      have J88 : ∀ (l2 l3 l4 l5 : Int), j88 l2 l3 l4 l5 = some rv → ci_T yX4_chosen cX4_chosen 7 (some .int) (d + 2) 88 ([(0, .ref 29), (1, .ref 5), (2, .int (Int32.ofInt l2)), (3, .int (Int32.ofInt l3)), (4, .int (Int32.ofInt l4)), (5, .int (Int32.ofInt l5))], [], pk true ρ o) (pP true rv ρ o) := by
        intro l2 l3 l4 l5 h
        subst hj
        replace h := jn_some h
        refine ci_T.step cb_X4_chosen_88 (ci_sq (pe_inc rfl) rfl) ?_
        exact ci_T.sub [1, 2, 3, 4, 5, 0] (ih _ _ _ _ h) rfl
      clear hj
      refine pbr h (fun hc h => ?_) (fun hc h => ?_)
      · exact ci_T.sub [1, 2, 3, 4, 5, 6] (J88 _ _ _ _ h) rfl
      · refine ci_T.step cb_X4_chosen_84 (ci_sq rfl rfl) ?_
        exact ci_T.sub [2, 3, 4, 5, 0, 6] (J88 _ _ _ _ h) rfl
set_option maxRecDepth 100000 in
theorem s_X4_chosen (k : Nat) : ∀ (d : Nat) {ρ : pm} (o : pm) {l2 l3 : Int} {rv : Int} (h : f_X4_chosen k l2 l3 ρ = some rv), ci_Met (d + 2 + k) (yX4_chosen, cX4_chosen, 7, (some .int), [], 0, 0) [.ref 29, .ref 5, .int (Int32.ofInt l2), .int (Int32.ofInt l3)] (pk true ρ o) (pP true rv ρ o) := by
  induction k with
  | zero =>
    intro d ρ o l2 l3 rv h
    rw [f_X4_chosen] at h
    cases h
  | succ k ih =>
    intro d0 ρ o l2 l3 rv h
    rw [f_X4_chosen] at h
    have hF : ∀ {a b v : Int}, f_X4_chosen k a b ρ = some v → ci_Met (d0 + 2 + k) (yX4_chosen, cX4_chosen, 7, (some .int), [], 0, 0) [.ref 29, .ref 5, .int (Int32.ofInt a), .int (Int32.ofInt b)] (pk true ρ o) (pP true v ρ o) := fun hv => ih d0 o hv
    obtain ⟨d, hd⟩ : ∃ d, d0 + 2 + k = d + 1 := ⟨d0 + 1 + k, by omega⟩
    rw [show d0 + 2 + (k + 1) = d + 2 by omega]
    rw [hd] at hF
    refine ci_met (by decide) (Nat.le_of_ble_eq_true rfl) ?_ ?_
    · rintro v w' ⟨rfl, rfl⟩
      trivial
    · change ci_T _ _ _ _ _ _ ([(0, .ref 29), (1, .ref 5), (2, .int (Int32.ofInt l2)), (3, .int (Int32.ofInt l3))], [], pk true ρ o) _
      unfold g_X4_chosen at h
      obtain ⟨h1, h⟩ := ck_some h
      refine ci_T.step cb_X4_chosen_0 (ci_sq rfl (pe_if_lt h1)) ?_
      refine pbr h (fun hc h => ?_) (fun hc h => ?_)
      · refine ci_T.step cb_X4_chosen_9 rfl ?_
        cases h
        exact ci_T.done (v := some (.int _)) cd_X4_chosen_10 ⟨rfl, rfl⟩
      · refine ci_T.step cb_X4_chosen_4 (ci_sq rfl (ci_sq (pe_push pc_3) (pe_ic_lt h1 pR_3))) ?_
        refine pbr h (fun hc h => ?_) (fun hc h => ?_)
        · refine ci_T.step cb_X4_chosen_11 (ci_sq rfl (ci_sq rfl (ci_sq rfl (ci_sq (pe_push pc_1) (ci_sq pe_iadd rfl))))) ?_
          obtain ⟨v2, hv, h⟩ := bn_some h
          refine ci_T.call (as := [_, _, _, _]) (rest := []) kc_X4_chosen ki_X4_chosen (by decide) cl_X4_chosen_17 rfl (Nat.le_of_ble_eq_true rfl) ⟨⟨_, rfl⟩, _, _, _, rfl, pk_obj tq_28 rfl _ _⟩ (hF hv) ?_
          rintro _ _ ⟨rfl, rfl⟩
          clear hv
          refine ci_T.step cb_X4_chosen_20 (ci_sq rfl (ci_sq (pe_push pc_1) rfl)) ?_
          exact ci_T.sub [2, 3, 4, 5, 1, 0] (t_X4_chosen_25 hF fu _ _ _ _ h) rfl
        · refine ci_T.step cb_X4_chosen_9 rfl ?_
          cases h
          exact ci_T.done (v := some (.int _)) cd_X4_chosen_10 ⟨rfl, rfl⟩
