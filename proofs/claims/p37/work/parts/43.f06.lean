/-- X9_mayCut -/
def L_X9_mayCut_10  : Nat → Int → Int → Int → Int → pm → Option (Int × pm)
  | 0, _, _, _, _, _ => none
  | n + 1, l1, l2, l3, l4, ρ => ck (inR l4) (ck (inR ((ρ 62 2) * (ρ 62 3))) (if ((ρ 62 2) * (ρ 62 3)) ≤ l4 then some (l3, ρ) else jn (fun (l1 l2 l3 l4 s0 : Int) (ρ : pm) => (f_X9_isBeside l4 l2 ρ).bind (fun v5 => ck (inR (ρ 63 26)) (jn (fun (l1 l2 l3 l4 s0 : Int) (ρ : pm) => ck (0 ≤ l4 ∧ l4 < 25) (ck (inR (ρ 65 l4)) (ck (inR l1) (jn (fun (l1 l2 l4 s0 s1 : Int) (ρ : pm) => (f_X9_flag s1).bind (fun v11 => jn (bor s0 (bshl v11 l4)) (fun x12 => jn (l4 + 1) (fun x13 => L_X9_mayCut_10 n l1 l2 x12 x13 ρ)))) (fun j142 => jn (fun (l1 l2 l4 s0 : Int) (ρ : pm) => j142 l1 l2 l4 s0 0 ρ) (fun j141 => if (ρ 65 l4) = l1 then ck (0 ≤ l4 ∧ l4 < 168) (ck (inR (ρ 63 l4)) (if (ρ 63 l4) < 3 then j141 l1 l2 l4 l3 ρ else ck (inR s0) (if s0 = 0 then j141 l1 l2 l4 l3 ρ else j142 l1 l2 l4 l3 1 ρ))) else j141 l1 l2 l4 l3 ρ)))))) (fun j107 => jn (fun (l1 l2 l3 l4 : Int) (ρ : pm) => j107 l1 l2 l3 l4 1 ρ) (fun j102 => if (ρ 63 26) = 0 then j102 l1 l2 l3 l4 ρ else jn (fun (l1 l2 l3 l4 l5 l6 : Int) (ρ : pm) => ck (inR (ρ 63 26)) (jn (fun (l1 l2 l3 l4 : Int) (ρ : pm) => j107 l1 l2 l3 l4 0 ρ) (fun j106 => if (ρ 63 26) = 2 then ck (inR l6) (if l6 = 0 then j106 l1 l2 l3 l4 ρ else ck (inR l5) (if l5 = 0 then j102 l1 l2 l3 l4 ρ else j106 l1 l2 l3 l4 ρ)) else j106 l1 l2 l3 l4 ρ))) (fun j81 => if (ρ 63 26) = 1 then ck (inR s0) (if s0 = 0 then if v5 = 0 then j81 l1 l2 l3 l4 s0 v5 ρ else j102 l1 l2 l3 l4 ρ else j102 l1 l2 l3 l4 ρ) else j81 l1 l2 l3 l4 s0 v5 ρ)))))) (fun j39 => if (band (bshr l2 l4) 1) = 1 then j39 l1 l2 l3 l4 1 ρ else j39 l1 l2 l3 l4 0 ρ)))
def f_X9_mayCut (l1 : Int) (ρ : pm) : Option (Int × pm) := bn2 (f_X9_bedNow ρ) (fun v1 ρ2 => L_X9_mayCut_10 fu l1 v1 0 0 ρ2)
set_option maxRecDepth 100000 in
theorem t_X9_mayCut_10 {d : Nat}    {o : pm} {rv : Int} {rρ : pm}   : ∀ (n : Nat) (l1 l2 l3 l4 : Int) (ρ : pm), L_X9_mayCut_10 n l1 l2 l3 l4 ρ = some (rv, rρ) → ci_T yX9_mayCut cX9_mayCut 8 (some .int) (d + 4) 10 ([(0, .ref 63), (1, .int (Int32.ofInt l1)), (2, .int (Int32.ofInt l2)), (3, .int (Int32.ofInt l3)), (4, .int (Int32.ofInt l4))], [], pk false ρ o) (pP false rv rρ o) := by
  intro n
  induction n with
  | zero =>
    intro l1 l2 l3 l4 ρ h
    rw [L_X9_mayCut_10] at h
    cases h
  | succ n ih =>
    intro l1 l2 l3 l4 ρ h
    rw [L_X9_mayCut_10] at h
    obtain ⟨h3, h⟩ := ck_some h
    obtain ⟨h4, h⟩ := ck_some h
    refine ci_T.step cb_X9_mayCut_10 (ci_sq rfl (ci_sq rfl (ci_sq (pe_getI (kI := 2) tq_62 rfl rfl rfl) (ci_sq rfl (ci_sq (pe_getI (kI := 3) tq_62 rfl rfl rfl) (ci_sq pe_imul (pe_ic_ge h3 h4))))))) ?_
    refine pbr h (fun hc h => ?_) (fun hc h => ?_)
    · refine ci_T.step cb_X9_mayCut_156 rfl ?_
      cases h
      exact ci_T.done (v := some (.int _)) cd_X9_mayCut_157 ⟨rfl, rfl⟩
    · refine ci_T.step cb_X9_mayCut_24 (ci_sq rfl (ci_sq rfl (ci_sq pe_ishr (ci_sq (pe_push pc_1) (ci_sq pe_iand (ci_sq (pe_push pc_1) (pe_ic_ne (band_R _ _) pR_1))))))) ?_
      obtain ⟨j39, hj, h⟩ := jn_ex h
      have J39 : ∀ (l1 l2 l3 l4 s0 : Int) (ρ : pm), j39 l1 l2 l3 l4 s0 ρ = some (rv, rρ) → ci_T yX9_mayCut cX9_mayCut 8 (some .int) (d + 4) 39 ([(0, .ref 63), (1, .int (Int32.ofInt l1)), (2, .int (Int32.ofInt l2)), (3, .int (Int32.ofInt l3)), (4, .int (Int32.ofInt l4))], [.int (Int32.ofInt s0)], pk false ρ o) (pP false rv rρ o) := by
        intro l1 l2 l3 l4 s0 ρ h
        subst hj
        refine ci_T.step cb_X9_mayCut_39 (ci_sq rfl (ci_sq rfl (ci_sq rfl rfl))) ?_
        obtain ⟨v5, hv, h⟩ := bn_some h
        refine ci_T.call (as := [_, _, _]) (rest := []) kc_X9_isBeside ki_X9_isBeside (by decide) cl_X9_mayCut_45 rfl (Nat.le_of_ble_eq_true rfl) ⟨⟨_, rfl⟩, _, _, _, rfl, pk_obj tq_62 rfl _ _⟩ (s_X9_isBeside (d + 2) o hv) ?_
        rintro _ _ ⟨⟨rfl, rfl⟩, hz6⟩
        clear hv
        obtain ⟨h7, h⟩ := ck_some h
        refine ci_T.step cb_X9_mayCut_48 (ci_sq rfl (ci_sq rfl (ci_sq (pe_getR tq_62 rfl rfl) (ci_sq (pe_push pc_26) (ci_sq (pe_ald (nI := 168) tq_63 rfl rfl ⟨by decide, by decide⟩) (pe_if_eq h7)))))) ?_
        obtain ⟨j107, hj, h⟩ := jn_ex h
        have J107 : ∀ (l1 l2 l3 l4 s0 : Int) (ρ : pm), j107 l1 l2 l3 l4 s0 ρ = some (rv, rρ) → ci_T yX9_mayCut cX9_mayCut 8 (some .int) (d + 4) 107 ([(0, .ref 63), (1, .int (Int32.ofInt l1)), (2, .int (Int32.ofInt l2)), (3, .int (Int32.ofInt l3)), (4, .int (Int32.ofInt l4))], [.int (Int32.ofInt s0)], pk false ρ o) (pP false rv rρ o) := by
          intro l1 l2 l3 l4 s0 ρ h
          subst hj
          obtain ⟨h8, h⟩ := ck_some h
          obtain ⟨h9, h⟩ := ck_some h
          obtain ⟨h10, h⟩ := ck_some h
          refine ci_T.step cb_X9_mayCut_107 (ci_sq rfl (ci_sq rfl (ci_sq rfl (ci_sq (pe_getR tq_62 rfl rfl) (ci_sq rfl (ci_sq (pe_ald (nI := 25) tq_65 rfl rfl h8) (ci_sq rfl (pe_ic_ne h9 h10)))))))) ?_
          obtain ⟨j142, hj, h⟩ := jn_ex h
          have J142 : ∀ (l1 l2 l4 s0 s1 : Int) (ρ : pm), j142 l1 l2 l4 s0 s1 ρ = some (rv, rρ) → ci_T yX9_mayCut cX9_mayCut 8 (some .int) (d + 4) 142 ([(0, .ref 63), (1, .int (Int32.ofInt l1)), (2, .int (Int32.ofInt l2)), (4, .int (Int32.ofInt l4))], [.int (Int32.ofInt s1), .int (Int32.ofInt s0)], pk false ρ o) (pP false rv rρ o) := by
            intro l1 l2 l4 s0 s1 ρ h
            subst hj
            obtain ⟨v11, hv, h⟩ := bn_some h
            refine ci_T.call (as := [_]) (rest := [_]) kc_X9_flag ki_X9_flag (by decide) cl_X9_mayCut_142 rfl (Nat.le_of_ble_eq_true rfl) trivial (s_X9_flag (d + 3) o hv) ?_
            rintro _ _ ⟨rfl, rfl⟩
            clear hv
            replace h := jn_some h
            replace h := jn_some h
            refine ci_T.step cb_X9_mayCut_145 (ci_sq rfl (ci_sq pe_ishl (ci_sq pe_ior (ci_sq rfl (ci_sq (pe_inc rfl) rfl))))) ?_
            exact ci_T.sub [2, 3, 4, 1, 0] (ih _ _ _ _ _ h) rfl
          clear hj
          obtain ⟨j141, hj, h⟩ := jn_ex h
          have J141 : ∀ (l1 l2 l4 s0 : Int) (ρ : pm), j141 l1 l2 l4 s0 ρ = some (rv, rρ) → ci_T yX9_mayCut cX9_mayCut 8 (some .int) (d + 4) 141 ([(0, .ref 63), (1, .int (Int32.ofInt l1)), (2, .int (Int32.ofInt l2)), (4, .int (Int32.ofInt l4))], [.int (Int32.ofInt s0)], pk false ρ o) (pP false rv rρ o) := by
            intro l1 l2 l4 s0 ρ h
            subst hj
            refine ci_T.step cb_X9_mayCut_141 (pe_push pc_0) ?_
            exact ci_T.sub [0, 1, 2, 3] (J142 _ _ _ _ _ _ h) rfl
          clear hj
          refine pbrn h (fun hc h => ?_) (fun hc h => ?_)
          · exact ci_T.sub [1, 2, 3, 5] (J141 _ _ _ _ _ h) rfl
          · obtain ⟨h14, h⟩ := ck_some h
            obtain ⟨h15, h⟩ := ck_some h
            refine ci_T.step cb_X9_mayCut_121 (ci_sq rfl (ci_sq (pe_getR tq_62 rfl rfl) (ci_sq rfl (ci_sq (pe_ald (nI := 168) tq_63 rfl rfl h14) (ci_sq (pe_push pc_3) (pe_ic_lt h15 pR_3)))))) ?_
            refine pbr h (fun hc h => ?_) (fun hc h => ?_)
            · exact ci_T.sub [1, 2, 3, 5] (J141 _ _ _ _ _ h) rfl
            · obtain ⟨h16, h⟩ := ck_some h
              refine ci_T.step cb_X9_mayCut_132 (ci_sq rfl (pe_if_eq h16)) ?_
              refine pbr h (fun hc h => ?_) (fun hc h => ?_)
              · exact ci_T.sub [1, 2, 3, 5] (J141 _ _ _ _ _ h) rfl
              · refine ci_T.step cb_X9_mayCut_137 (ci_sq (pe_push pc_1) rfl) ?_
                exact ci_T.sub [1, 2, 3, 5] (J142 _ _ _ _ _ _ h) rfl
        clear hj
        obtain ⟨j102, hj, h⟩ := jn_ex h
        have J102 : ∀ (l1 l2 l3 l4 : Int) (ρ : pm), j102 l1 l2 l3 l4 ρ = some (rv, rρ) → ci_T yX9_mayCut cX9_mayCut 8 (some .int) (d + 4) 102 ([(0, .ref 63), (1, .int (Int32.ofInt l1)), (2, .int (Int32.ofInt l2)), (3, .int (Int32.ofInt l3)), (4, .int (Int32.ofInt l4))], [], pk false ρ o) (pP false rv rρ o) := by
          intro l1 l2 l3 l4 ρ h
          subst hj
          refine ci_T.step cb_X9_mayCut_102 (ci_sq (pe_push pc_1) rfl) ?_
          exact ci_T.sub [0, 1, 2, 3, 4] (J107 _ _ _ _ _ _ h) rfl
        clear hj
        refine pbr h (fun hc h => ?_) (fun hc h => ?_)
        · exact ci_T.sub [2, 3, 4, 5, 6] (J102 _ _ _ _ _ h) rfl
        · refine ci_T.step cb_X9_mayCut_60 (ci_sq rfl (ci_sq (pe_getR tq_62 rfl rfl) (ci_sq (pe_push pc_26) (ci_sq (pe_ald (nI := 168) tq_63 rfl rfl ⟨by decide, by decide⟩) (ci_sq (pe_push pc_1) (pe_ic_ne h7 pR_1)))))) ?_
          obtain ⟨j81, hj, h⟩ := jn_ex h
          have J81 : ∀ (l1 l2 l3 l4 l5 l6 : Int) (ρ : pm), j81 l1 l2 l3 l4 l5 l6 ρ = some (rv, rρ) → ci_T yX9_mayCut cX9_mayCut 8 (some .int) (d + 4) 81 ([(0, .ref 63), (1, .int (Int32.ofInt l1)), (2, .int (Int32.ofInt l2)), (3, .int (Int32.ofInt l3)), (4, .int (Int32.ofInt l4)), (5, .int (Int32.ofInt l5)), (6, .int (Int32.ofInt l6))], [], pk false ρ o) (pP false rv rρ o) := by
            intro l1 l2 l3 l4 l5 l6 ρ h
            subst hj
            obtain ⟨h17, h⟩ := ck_some h
            refine ci_T.step cb_X9_mayCut_81 (ci_sq rfl (ci_sq (pe_getR tq_62 rfl rfl) (ci_sq (pe_push pc_26) (ci_sq (pe_ald (nI := 168) tq_63 rfl rfl ⟨by decide, by decide⟩) (ci_sq (pe_push pc_2) (pe_ic_ne h17 pR_2)))))) ?_
            obtain ⟨j106, hj, h⟩ := jn_ex h
            have J106 : ∀ (l1 l2 l3 l4 : Int) (ρ : pm), j106 l1 l2 l3 l4 ρ = some (rv, rρ) → ci_T yX9_mayCut cX9_mayCut 8 (some .int) (d + 4) 106 ([(0, .ref 63), (1, .int (Int32.ofInt l1)), (2, .int (Int32.ofInt l2)), (3, .int (Int32.ofInt l3)), (4, .int (Int32.ofInt l4))], [], pk false ρ o) (pP false rv rρ o) := by
              intro l1 l2 l3 l4 ρ h
              subst hj
              refine ci_T.step cb_X9_mayCut_106 (pe_push pc_0) ?_
              exact ci_T.sub [0, 1, 2, 3, 4] (J107 _ _ _ _ _ _ h) rfl
            clear hj
            refine pbrn h (fun hc h => ?_) (fun hc h => ?_)
            · exact ci_T.sub [0, 1, 2, 3, 4] (J106 _ _ _ _ _ h) rfl
            · obtain ⟨h18, h⟩ := ck_some h
              refine ci_T.step cb_X9_mayCut_92 (ci_sq rfl (pe_if_eq h18)) ?_
              refine pbr h (fun hc h => ?_) (fun hc h => ?_)
              · exact ci_T.sub [0, 1, 2, 3, 4] (J106 _ _ _ _ _ h) rfl
              · obtain ⟨h19, h⟩ := ck_some h
                refine ci_T.step cb_X9_mayCut_97 (ci_sq rfl (pe_if_ne h19)) ?_
                refine pbrn h (fun hc h => ?_) (fun hc h => ?_)
                · exact ci_T.sub [0, 1, 2, 3, 4] (J106 _ _ _ _ _ h) rfl
                · exact ci_T.sub [0, 1, 2, 3, 4] (J102 _ _ _ _ _ h) rfl
          clear hj
          refine pbrn h (fun hc h => ?_) (fun hc h => ?_)
          · exact ci_T.sub [2, 3, 4, 5, 6, 1, 0] (J81 _ _ _ _ _ _ _ h) rfl
          · obtain ⟨h20, h⟩ := ck_some h
            refine ci_T.step cb_X9_mayCut_71 (ci_sq rfl (pe_if_ne h20)) ?_
            refine pbrn h (fun hc h => ?_) (fun hc h => ?_)
            · exact ci_T.sub [2, 3, 4, 5, 6] (J102 _ _ _ _ _ h) rfl
            · refine ci_T.step cb_X9_mayCut_76 (ci_sq rfl (pe_if_ne (Z_R hz6))) ?_
              refine pbrn h (fun hc h => ?_) (fun hc h => ?_)
              · exact ci_T.sub [2, 3, 4, 5, 6] (J102 _ _ _ _ _ h) rfl
              · exact ci_T.sub [2, 3, 4, 5, 6, 1, 0] (J81 _ _ _ _ _ _ _ h) rfl
      clear hj
      refine pbrn h (fun hc h => ?_) (fun hc h => ?_)
      · refine ci_T.step cb_X9_mayCut_38 (pe_push pc_0) ?_
        exact ci_T.sub [0, 1, 2, 3, 4] (J39 _ _ _ _ _ _ h) rfl
      · refine ci_T.step cb_X9_mayCut_34 (ci_sq (pe_push pc_1) rfl) ?_
        exact ci_T.sub [0, 1, 2, 3, 4] (J39 _ _ _ _ _ _ h) rfl
set_option maxRecDepth 100000 in
theorem s_X9_mayCut (d : Nat)   {ρ : pm} (o : pm) {l1 : Int} {rv : Int} {rρ : pm} (h : f_X9_mayCut l1 ρ = some (rv, rρ)) : ci_Met (d + 4) (yX9_mayCut, cX9_mayCut, 8, (some .int), [], 0, 0) [.ref 63, .int (Int32.ofInt l1)] (pk false ρ o) (pP false rv rρ o) := by
  refine ci_met (by decide) (Nat.le_of_ble_eq_true rfl) ?_ ?_
  · rintro v w' ⟨rfl, rfl⟩
    trivial
  · change ci_T _ _ _ _ _ _ ([(0, .ref 63), (1, .int (Int32.ofInt l1))], [], pk false ρ o) _
    unfold f_X9_mayCut at h
    refine ci_T.step cb_X9_mayCut_0 rfl ?_
    obtain ⟨v1, ρ2, hv, h⟩ := bn2_some h
    refine ci_T.call (as := [_]) (rest := []) kc_X9_bedNow ki_X9_bedNow (by decide) cl_X9_mayCut_1 rfl (Nat.le_of_ble_eq_true rfl) ⟨⟨_, rfl⟩, _, _, _, rfl, pk_obj tq_62 rfl _ _⟩ (s_X9_bedNow d o hv) ?_
    rintro _ _ ⟨rfl, rfl⟩
    clear hv
    refine ci_T.step cb_X9_mayCut_4 (ci_sq rfl (ci_sq (pe_push pc_0) (ci_sq rfl (ci_sq (pe_push pc_0) rfl)))) ?_
    exact ci_T.sub [3, 4, 2, 1, 0] (t_X9_mayCut_10 fu _ _ _ _ _ h) rfl
/-- X9_rule -/
def f_X9_rule (l1 : Int) (ρ : pm) : Option Int := ck (inR l1) (if l1 = 0 then some (ρ 62 2) else if l1 = 1 then some (ρ 62 3) else if l1 = 2 then some (ρ 63 25) else if l1 = 3 then some (ρ 62 4) else if l1 = 4 then some (ρ 63 26) else if l1 = 5 then some (ρ 63 27) else if l1 = 6 then some (ρ 63 31) else some (-1))
set_option maxRecDepth 100000 in
theorem s_X9_rule (d : Nat)   {ρ : pm} (o : pm) {l1 : Int} {rv : Int} (h : f_X9_rule l1 ρ = some rv) : ci_Met d (yX9_rule, cX9_rule, 2, (some .int), [], 0, 0) [.ref 63, .int (Int32.ofInt l1)] (pk false ρ o) (pP false rv ρ o) := by
  refine ci_met (by decide) (Nat.le_of_ble_eq_true rfl) ?_ ?_
  · rintro v w' ⟨rfl, rfl⟩
    trivial
  · change ci_T _ _ _ _ _ _ ([(0, .ref 63), (1, .int (Int32.ofInt l1))], [], pk false ρ o) _
    unfold f_X9_rule at h
    obtain ⟨h1, h⟩ := ck_some h
    refine ci_T.step cb_X9_rule_0 (ci_sq rfl (pe_tsw h1 rfl)) ?_
    refine pite h (fun hc2 h => ?_) (fun hc2 h => ?_)
    · refine tsw_T hc2 rfl ?_
      refine ci_T.step cb_X9_rule_44 (ci_sq rfl (pe_getI (kI := 2) tq_62 rfl rfl rfl)) ?_
      cases h
      exact ci_T.done (v := some (.int _)) cd_X9_rule_48 ⟨rfl, rfl⟩
    refine pite h (fun hc3 h => ?_) (fun hc3 h => ?_)
    · refine tsw_T hc3 rfl ?_
      refine ci_T.step cb_X9_rule_49 (ci_sq rfl (pe_getI (kI := 3) tq_62 rfl rfl rfl)) ?_
      cases h
      exact ci_T.done (v := some (.int _)) cd_X9_rule_53 ⟨rfl, rfl⟩
    refine pite h (fun hc4 h => ?_) (fun hc4 h => ?_)
    · refine tsw_T hc4 rfl ?_
      refine ci_T.step cb_X9_rule_54 (ci_sq rfl (ci_sq (pe_getR tq_62 rfl rfl) (ci_sq (pe_push pc_25) (pe_ald (nI := 168) tq_63 rfl rfl ⟨by decide, by decide⟩)))) ?_
      cases h
      exact ci_T.done (v := some (.int _)) cd_X9_rule_61 ⟨rfl, rfl⟩
    refine pite h (fun hc5 h => ?_) (fun hc5 h => ?_)
    · refine tsw_T hc5 rfl ?_
      refine ci_T.step cb_X9_rule_62 (ci_sq rfl (pe_getI (kI := 4) tq_62 rfl rfl rfl)) ?_
      cases h
      exact ci_T.done (v := some (.int _)) cd_X9_rule_66 ⟨rfl, rfl⟩
    refine pite h (fun hc6 h => ?_) (fun hc6 h => ?_)
    · refine tsw_T hc6 rfl ?_
      refine ci_T.step cb_X9_rule_67 (ci_sq rfl (ci_sq (pe_getR tq_62 rfl rfl) (ci_sq (pe_push pc_26) (pe_ald (nI := 168) tq_63 rfl rfl ⟨by decide, by decide⟩)))) ?_
      cases h
      exact ci_T.done (v := some (.int _)) cd_X9_rule_74 ⟨rfl, rfl⟩
    refine pite h (fun hc7 h => ?_) (fun hc7 h => ?_)
    · refine tsw_T hc7 rfl ?_
      refine ci_T.step cb_X9_rule_75 (ci_sq rfl (ci_sq (pe_getR tq_62 rfl rfl) (ci_sq (pe_push pc_27) (pe_ald (nI := 168) tq_63 rfl rfl ⟨by decide, by decide⟩)))) ?_
      cases h
      exact ci_T.done (v := some (.int _)) cd_X9_rule_82 ⟨rfl, rfl⟩
    refine pite h (fun hc8 h => ?_) (fun hc8 h => ?_)
    · refine tsw_T hc8 rfl ?_
      refine ci_T.step cb_X9_rule_83 (ci_sq rfl (ci_sq (pe_getR tq_62 rfl rfl) (ci_sq (pe_push pc_31) (pe_ald (nI := 168) tq_63 rfl rfl ⟨by decide, by decide⟩)))) ?_
      cases h
      exact ci_T.done (v := some (.int _)) cd_X9_rule_90 ⟨rfl, rfl⟩
    refine tsw_D (hi := 6) rfl (by omega) ?_
    refine ci_T.step cb_X9_rule_91 (pe_push pc_m1) ?_
    cases h
    exact ci_T.done (v := some (.int _)) cd_X9_rule_92 ⟨rfl, rfl⟩
/-- X9_cell -/
def f_X9_cell (l1 l2 : Int) (ρ : pm) : Option Int := (f_X9_isCell l1 ρ).bind (fun v1 => if v1 = 0 then some (-1) else ck (inR l2) ((f_X9_in l2 0 1).bind (fun v4 => if v4 = 0 then some (-1) else if l2 = 0 then ck (0 ≤ l1 ∧ l1 < 168) (some (ρ 63 l1)) else ck (0 ≤ l1 ∧ l1 < 25) (some (ρ 65 l1)))))
set_option maxRecDepth 100000 in
theorem s_X9_cell (d : Nat)   {ρ : pm} (o : pm) {l1 l2 : Int} {rv : Int} (h : f_X9_cell l1 l2 ρ = some rv) : ci_Met (d + 2) (yX9_cell, cX9_cell, 3, (some .int), [], 0, 0) [.ref 63, .int (Int32.ofInt l1), .int (Int32.ofInt l2)] (pk false ρ o) (pP false rv ρ o) := by
  refine ci_met (by decide) (Nat.le_of_ble_eq_true rfl) ?_ ?_
  · rintro v w' ⟨rfl, rfl⟩
    trivial
  · change ci_T _ _ _ _ _ _ ([(0, .ref 63), (1, .int (Int32.ofInt l1)), (2, .int (Int32.ofInt l2))], [], pk false ρ o) _
    unfold f_X9_cell at h
    refine ci_T.step cb_X9_cell_0 (ci_sq rfl rfl) ?_
    obtain ⟨v1, hv, h⟩ := bn_some h
    refine ci_T.call (as := [_, _]) (rest := []) kc_X9_isCell ki_X9_isCell (by decide) cl_X9_cell_2 rfl (Nat.le_of_ble_eq_true rfl) ⟨⟨_, rfl⟩, _, _, _, rfl, pk_obj tq_62 rfl _ _⟩ (s_X9_isCell d o hv) ?_
    rintro _ _ ⟨⟨rfl, rfl⟩, hz2⟩
    clear hv
    refine ci_T.step cb_X9_cell_5 (pe_if_eq (Z_R hz2)) ?_
    refine pbr h (fun hc h => ?_) (fun hc h => ?_)
    · refine ci_T.step cb_X9_cell_18 (ci_sq (pe_push pc_m1) rfl) ?_
      cases h
      exact ci_T.done (v := some (.int _)) cd_X9_cell_41 ⟨rfl, rfl⟩
    · obtain ⟨h3, h⟩ := ck_some h
      refine ci_T.step cb_X9_cell_8 (ci_sq rfl (ci_sq (pe_i2l h3) (ci_sq (pe_pushl pcl_0) (pe_pushl pcl_1)))) ?_
      obtain ⟨v4, hv, h⟩ := bn_some h
      refine ci_T.call (as := [_, _, _]) (rest := []) kc_X9_in ki_X9_in (by decide) cl_X9_cell_12 rfl (Nat.le_of_ble_eq_true rfl) trivial (s_X9_in (d + 1) o hv) ?_
      rintro _ _ ⟨⟨rfl, rfl⟩, hz5⟩
      clear hv
      refine ci_T.step cb_X9_cell_15 (pe_if_ne (Z_R hz5)) ?_
      refine pbrn h (fun hc h => ?_) (fun hc h => ?_)
      · refine ci_T.step cb_X9_cell_22 (ci_sq rfl (pe_if_ne h3)) ?_
        refine pbrn h (fun hc h => ?_) (fun hc h => ?_)
        · obtain ⟨h6, h⟩ := ck_some h
          refine ci_T.step cb_X9_cell_35 (ci_sq rfl (ci_sq (pe_getR tq_62 rfl rfl) (ci_sq rfl (pe_ald (nI := 25) tq_65 rfl rfl h6)))) ?_
          cases h
          exact ci_T.done (v := some (.int _)) cd_X9_cell_41 ⟨rfl, rfl⟩
        · obtain ⟨h7, h⟩ := ck_some h
          refine ci_T.step cb_X9_cell_26 (ci_sq rfl (ci_sq (pe_getR tq_62 rfl rfl) (ci_sq rfl (ci_sq (pe_ald (nI := 168) tq_63 rfl rfl h7) rfl)))) ?_
          cases h
          exact ci_T.done (v := some (.int _)) cd_X9_cell_41 ⟨rfl, rfl⟩
      · refine ci_T.step cb_X9_cell_18 (ci_sq (pe_push pc_m1) rfl) ?_
        cases h
        exact ci_T.done (v := some (.int _)) cd_X9_cell_41 ⟨rfl, rfl⟩
/-- X9_farm -/
def L_X9_farm_27 (K72 : Int → Int → Int → pm → Option (Int × pm)) : Nat → Int → Int → Int → Int → pm → Option (Int × pm)
  | 0, _, _, _, _, _ => none
  | n + 1, l1, l2, l3, l4, ρ => ck (inR l4) (ck (inR ((ρ 62 2) * (ρ 62 3))) (if ((ρ 62 2) * (ρ 62 3)) ≤ l4 then K72 l1 l2 l3 ρ else ck (0 ≤ l4 ∧ l4 < 25) (ck (inR (ρ 65 l4)) (ck (inR l1) (jn (fun (l1 l2 l4 s0 s1 : Int) (ρ : pm) => (f_X9_flag s1).bind (fun v11 => jn (bor s0 (bshl v11 l4)) (fun x12 => jn (l4 + 1) (fun x13 => L_X9_farm_27 K72 n l1 l2 x12 x13 ρ)))) (fun j58 => if (ρ 65 l4) = l1 then j58 l1 l2 l4 l3 1 ρ else j58 l1 l2 l4 l3 0 ρ))))))
def f_X9_farm (l1 l2 : Int) (ρ : pm) : Option (Int × pm) := (f_X9_isFarm l1 ρ).bind (fun v1 => if v1 = 0 then some ((-1), ρ) else ck (inR l2) ((f_X9_in l2 0 3).bind (fun v4 => if v4 = 0 then some ((-1), ρ) else L_X9_farm_27 (fun (l1 l2 l3 : Int) (ρ : pm) => ck (inR l2) (if l2 = 0 then ck (0 ≤ 28 + l1 ∧ 28 + l1 < 168) (some (ρ 63 (28 + l1), ρ)) else if l2 = 1 then some (l3, ρ) else if l2 = 2 then bn2 (f_X9_hasNow l1 ρ) (fun v17 ρ18 => some (v17, ρ18)) else bn2 (f_X9_mayCut l1 ρ) (fun v15 ρ16 => some (v15, ρ16)))) fu l1 l2 0 0 ρ)))
set_option maxRecDepth 100000 in
theorem t_X9_farm_27 {d : Nat}    {o : pm} {rv : Int} {rρ : pm} {K72 : Int → Int → Int → pm → Option (Int × pm)} (hK72 : ∀ (l1 l2 l3 : Int) (ρ : pm), K72 l1 l2 l3 ρ = some (rv, rρ) → ci_T yX9_farm cX9_farm 5 (some .int) (d + 5) 72 ([(0, .ref 63), (1, .int (Int32.ofInt l1)), (2, .int (Int32.ofInt l2)), (3, .int (Int32.ofInt l3))], [], pk false ρ o) (pP false rv rρ o)) : ∀ (n : Nat) (l1 l2 l3 l4 : Int) (ρ : pm), L_X9_farm_27 K72 n l1 l2 l3 l4 ρ = some (rv, rρ) → ci_T yX9_farm cX9_farm 5 (some .int) (d + 5) 27 ([(0, .ref 63), (1, .int (Int32.ofInt l1)), (2, .int (Int32.ofInt l2)), (3, .int (Int32.ofInt l3)), (4, .int (Int32.ofInt l4))], [], pk false ρ o) (pP false rv rρ o) := by
  intro n
  induction n with
  | zero =>
    intro l1 l2 l3 l4 ρ h
    rw [L_X9_farm_27] at h
    cases h
  | succ n ih =>
    intro l1 l2 l3 l4 ρ h
    rw [L_X9_farm_27] at h
    obtain ⟨h6, h⟩ := ck_some h
    obtain ⟨h7, h⟩ := ck_some h
    refine ci_T.step cb_X9_farm_27 (ci_sq rfl (ci_sq rfl (ci_sq (pe_getI (kI := 2) tq_62 rfl rfl rfl) (ci_sq rfl (ci_sq (pe_getI (kI := 3) tq_62 rfl rfl rfl) (ci_sq pe_imul (pe_ic_ge h6 h7))))))) ?_
    refine pbr h (fun hc h => ?_) (fun hc h => ?_)
    · exact ci_T.sub [0, 1, 2, 3] (hK72 _ _ _ _ h) rfl
    · obtain ⟨h8, h⟩ := ck_some h
      obtain ⟨h9, h⟩ := ck_some h
      obtain ⟨h10, h⟩ := ck_some h
      refine ci_T.step cb_X9_farm_41 (ci_sq rfl (ci_sq rfl (ci_sq (pe_getR tq_62 rfl rfl) (ci_sq rfl (ci_sq (pe_ald (nI := 25) tq_65 rfl rfl h8) (ci_sq rfl (pe_ic_ne h9 h10))))))) ?_
      obtain ⟨j58, hj, h⟩ := jn_ex h
      have J58 : ∀ (l1 l2 l4 s0 s1 : Int) (ρ : pm), j58 l1 l2 l4 s0 s1 ρ = some (rv, rρ) → ci_T yX9_farm cX9_farm 5 (some .int) (d + 5) 58 ([(0, .ref 63), (1, .int (Int32.ofInt l1)), (2, .int (Int32.ofInt l2)), (4, .int (Int32.ofInt l4))], [.int (Int32.ofInt s1), .int (Int32.ofInt s0)], pk false ρ o) (pP false rv rρ o) := by
        intro l1 l2 l4 s0 s1 ρ h
        subst hj
        obtain ⟨v11, hv, h⟩ := bn_some h
        refine ci_T.call (as := [_]) (rest := [_]) kc_X9_flag ki_X9_flag (by decide) cl_X9_farm_58 rfl (Nat.le_of_ble_eq_true rfl) trivial (s_X9_flag (d + 4) o hv) ?_
        rintro _ _ ⟨rfl, rfl⟩
        clear hv
        replace h := jn_some h
        replace h := jn_some h
        refine ci_T.step cb_X9_farm_61 (ci_sq rfl (ci_sq pe_ishl (ci_sq pe_ior (ci_sq rfl (ci_sq (pe_inc rfl) rfl))))) ?_
        exact ci_T.sub [2, 3, 4, 1, 0] (ih _ _ _ _ _ h) rfl
      clear hj
      refine pbrn h (fun hc h => ?_) (fun hc h => ?_)
      · refine ci_T.step cb_X9_farm_57 (pe_push pc_0) ?_
        exact ci_T.sub [0, 1, 2, 4] (J58 _ _ _ _ _ _ h) rfl
      · refine ci_T.step cb_X9_farm_53 (ci_sq (pe_push pc_1) rfl) ?_
        exact ci_T.sub [0, 1, 2, 4] (J58 _ _ _ _ _ _ h) rfl
set_option maxRecDepth 100000 in
theorem s_X9_farm (d : Nat)   {ρ : pm} (o : pm) {l1 l2 : Int} {rv : Int} {rρ : pm} (h : f_X9_farm l1 l2 ρ = some (rv, rρ)) : ci_Met (d + 5) (yX9_farm, cX9_farm, 5, (some .int), [], 0, 0) [.ref 63, .int (Int32.ofInt l1), .int (Int32.ofInt l2)] (pk false ρ o) (pP false rv rρ o) := by
  refine ci_met (by decide) (Nat.le_of_ble_eq_true rfl) ?_ ?_
  · rintro v w' ⟨rfl, rfl⟩
    trivial
  · change ci_T _ _ _ _ _ _ ([(0, .ref 63), (1, .int (Int32.ofInt l1)), (2, .int (Int32.ofInt l2))], [], pk false ρ o) _
    unfold f_X9_farm at h
    refine ci_T.step cb_X9_farm_0 (ci_sq rfl rfl) ?_
    obtain ⟨v1, hv, h⟩ := bn_some h
    refine ci_T.call (as := [_, _]) (rest := []) kc_X9_isFarm ki_X9_isFarm (by decide) cl_X9_farm_2 rfl (Nat.le_of_ble_eq_true rfl) ⟨⟨_, rfl⟩, _, _, _, rfl, pk_obj tq_62 rfl _ _⟩ (s_X9_isFarm (d + 3) o hv) ?_
    rintro _ _ ⟨⟨rfl, rfl⟩, hz2⟩
    clear hv
    refine ci_T.step cb_X9_farm_5 (pe_if_eq (Z_R hz2)) ?_
    refine pbr h (fun hc h => ?_) (fun hc h => ?_)
    · refine ci_T.step cb_X9_farm_20 (pe_push pc_m1) ?_
      cases h
      exact ci_T.done (v := some (.int _)) cd_X9_farm_21 ⟨rfl, rfl⟩
    · obtain ⟨h3, h⟩ := ck_some h
      refine ci_T.step cb_X9_farm_8 (ci_sq rfl (ci_sq (pe_i2l h3) (ci_sq (pe_pushl pcl_0) (pe_pushl pcl_3)))) ?_
      obtain ⟨v4, hv, h⟩ := bn_some h
      refine ci_T.call (as := [_, _, _]) (rest := []) kc_X9_in ki_X9_in (by decide) cl_X9_farm_14 rfl (Nat.le_of_ble_eq_true rfl) trivial (s_X9_in (d + 4) o hv) ?_
      rintro _ _ ⟨⟨rfl, rfl⟩, hz5⟩
      clear hv
      refine ci_T.step cb_X9_farm_17 (pe_if_ne (Z_R hz5)) ?_
      refine pbrn h (fun hc h => ?_) (fun hc h => ?_)
      · refine ci_T.step cb_X9_farm_22 (ci_sq (pe_push pc_0) (ci_sq rfl (ci_sq (pe_push pc_0) rfl))) ?_
        refine ci_T.sub [2, 3, 4, 1, 0] (t_X9_farm_27 ?_ fu _ _ _ _ _ h) rfl
        · intro l1 l2 l3 ρ h
          obtain ⟨h14, h⟩ := ck_some h
          refine ci_T.step cb_X9_farm_72 (ci_sq rfl (pe_if_ne h14)) ?_
          refine pbrn h (fun hc h => ?_) (fun hc h => ?_)
          · refine ci_T.step cb_X9_farm_88 (ci_sq rfl (ci_sq (pe_push pc_1) (pe_ic_ne h14 pR_1))) ?_
            refine pbrn h (fun hc h => ?_) (fun hc h => ?_)
            · refine ci_T.step cb_X9_farm_97 (ci_sq rfl (ci_sq (pe_push pc_2) (pe_ic_ne h14 pR_2))) ?_
              refine pbrn h (fun hc h => ?_) (fun hc h => ?_)
              · refine ci_T.step cb_X9_farm_110 (ci_sq rfl rfl) ?_
                obtain ⟨v15, ρ16, hv, h⟩ := bn2_some h
                refine ci_T.call (as := [_, _]) (rest := []) kc_X9_mayCut ki_X9_mayCut (by decide) cl_X9_farm_112 rfl (Nat.le_of_ble_eq_true rfl) ⟨⟨_, rfl⟩, _, _, _, rfl, pk_obj tq_62 rfl _ _⟩ (s_X9_mayCut d o hv) ?_
                rintro _ _ ⟨rfl, rfl⟩
                clear hv
                cases h
                exact ci_T.done (v := some (.int _)) cd_X9_farm_115 ⟨rfl, rfl⟩
              · refine ci_T.step cb_X9_farm_102 (ci_sq rfl rfl) ?_
                obtain ⟨v17, ρ18, hv, h⟩ := bn2_some h
                refine ci_T.call (as := [_, _]) (rest := []) kc_X9_hasNow ki_X9_hasNow (by decide) cl_X9_farm_104 rfl (Nat.le_of_ble_eq_true rfl) ⟨⟨_, rfl⟩, _, _, _, rfl, pk_obj tq_62 rfl _ _⟩ (s_X9_hasNow d o hv) ?_
                rintro _ _ ⟨rfl, rfl⟩
                clear hv
                refine ci_T.step cb_X9_farm_107 rfl ?_
                cases h
                exact ci_T.done (v := some (.int _)) cd_X9_farm_115 ⟨rfl, rfl⟩
            · refine ci_T.step cb_X9_farm_93 (ci_sq rfl rfl) ?_
              cases h
              exact ci_T.done (v := some (.int _)) cd_X9_farm_115 ⟨rfl, rfl⟩
          · obtain ⟨h19, h⟩ := ck_some h
            refine ci_T.step cb_X9_farm_76 (ci_sq rfl (ci_sq (pe_getR tq_62 rfl rfl) (ci_sq (pe_push pc_28) (ci_sq rfl (ci_sq pe_iadd (ci_sq (pe_ald (nI := 168) tq_63 rfl rfl h19) rfl)))))) ?_
            cases h
            exact ci_T.done (v := some (.int _)) cd_X9_farm_115 ⟨rfl, rfl⟩
      · refine ci_T.step cb_X9_farm_20 (pe_push pc_m1) ?_
        cases h
        exact ci_T.done (v := some (.int _)) cd_X9_farm_21 ⟨rfl, rfl⟩
/-- X9_bed -/
def f_X9_bed (l1 : Int) (ρ : pm) : Option (Int × pm) := ck (inR l1) (if 0 ≤ l1 then (f_X9_findBed ρ).bind (fun ρ2 => ck (inR (ρ2 62 31)) (if (ρ2 62 31) ≤ l1 then some ((-4), ρ2) else ck (0 ≤ l1 ∧ l1 < 25) (some (ρ2 71 l1, ρ2)))) else some ((-1), ρ))
set_option maxRecDepth 100000 in
theorem s_X9_bed (d : Nat)   {ρ : pm} (o : pm) {l1 : Int} {rv : Int} {rρ : pm} (h : f_X9_bed l1 ρ = some (rv, rρ)) : ci_Met (d + 3) (yX9_bed, cX9_bed, 2, (some .int), [], 0, 0) [.ref 63, .int (Int32.ofInt l1)] (pk false ρ o) (pP false rv rρ o) := by
  refine ci_met (by decide) (Nat.le_of_ble_eq_true rfl) ?_ ?_
  · rintro v w' ⟨rfl, rfl⟩
    trivial
  · change ci_T _ _ _ _ _ _ ([(0, .ref 63), (1, .int (Int32.ofInt l1))], [], pk false ρ o) _
    unfold f_X9_bed at h
    obtain ⟨h1, h⟩ := ck_some h
    refine ci_T.step cb_X9_bed_0 (ci_sq rfl (pe_if_ge h1)) ?_
    refine pbr h (fun hc h => ?_) (fun hc h => ?_)
    · refine ci_T.step cb_X9_bed_6 rfl ?_
      obtain ⟨ρ2, hv, h⟩ := bn_some h
      refine ci_T.call (as := [_]) (rest := []) kc_X9_findBed ki_X9_findBed (by decide) cl_X9_bed_7 rfl (Nat.le_of_ble_eq_true rfl) ⟨⟨_, rfl⟩, _, _, _, rfl, pk_obj tq_62 rfl _ _⟩ (s_X9_findBed d o hv) ?_
      rintro _ _ ⟨rfl, rfl⟩
      clear hv
      obtain ⟨h3, h⟩ := ck_some h
      refine ci_T.step cb_X9_bed_10 (ci_sq rfl (ci_sq rfl (ci_sq (pe_getI (kI := 31) tq_62 rfl rfl rfl) (pe_ic_ge h1 h3)))) ?_
      refine pbr h (fun hc h => ?_) (fun hc h => ?_)
      · refine ci_T.step cb_X9_bed_27 (pe_push pc_m4) ?_
        cases h
        exact ci_T.done (v := some (.int _)) cd_X9_bed_29 ⟨rfl, rfl⟩
      · obtain ⟨h4, h⟩ := ck_some h
        refine ci_T.step cb_X9_bed_18 (ci_sq rfl (ci_sq (pe_getR tq_62 rfl rfl) (ci_sq rfl (ci_sq (pe_ald (nI := 25) tq_71 rfl rfl h4) rfl)))) ?_
        cases h
        exact ci_T.done (v := some (.int _)) cd_X9_bed_29 ⟨rfl, rfl⟩
    · refine ci_T.step cb_X9_bed_4 (pe_push pc_m1) ?_
      cases h
      exact ci_T.done (v := some (.int _)) cd_X9_bed_5 ⟨rfl, rfl⟩
/-- X9_becomes -/
def f_X9_becomes (l1 l2 : Int) (ρ : pm) : Option (Int × pm) := ck (0 ≤ l1 ∧ l1 < 168) (jn (ρ 63 l1) (fun x2 => jn (pup ρ 63 l1 l2) (fun ρ3 => some (x2, ρ3))))
set_option maxRecDepth 100000 in
theorem s_X9_becomes (d : Nat)   {ρ : pm} (o : pm) {l1 l2 : Int} {rv : Int} {rρ : pm} (h : f_X9_becomes l1 l2 ρ = some (rv, rρ)) : ci_Met d (yX9_becomes, cX9_becomes, 4, (some .int), [], 0, 0) [.ref 63, .int (Int32.ofInt l1), .int (Int32.ofInt l2)] (pk false ρ o) (pP false rv rρ o) := by
  refine ci_met (by decide) (Nat.le_of_ble_eq_true rfl) ?_ ?_
  · rintro v w' ⟨rfl, rfl⟩
    trivial
  · change ci_T _ _ _ _ _ _ ([(0, .ref 63), (1, .int (Int32.ofInt l1)), (2, .int (Int32.ofInt l2))], [], pk false ρ o) _
    unfold f_X9_becomes at h
    obtain ⟨h1, h⟩ := ck_some h
    replace h := jn_some h
    replace h := jn_some h
    refine ci_T.step cb_X9_becomes_0 (ci_sq rfl (ci_sq (pe_getR tq_62 rfl rfl) (ci_sq rfl (ci_sq (pe_ald (nI := 168) tq_63 rfl rfl h1) (ci_sq rfl (ci_sq rfl (ci_sq (pe_getR tq_62 rfl rfl) (ci_sq rfl (ci_sq rfl (ci_sq (pe_ast (nI := 168) tq_63 rfl rfl h1 rfl) rfl)))))))))) ?_
    cases h
    exact ci_T.done (v := some (.int _)) cd_X9_becomes_15 ⟨rfl, rfl⟩
/-- X9_dam -/
def f_X9_dam (l1 l2 : Int) (ρ : pm) : Option (Int × pm) := (f_X9_isCell l1 ρ).bind (fun v1 => if v1 = 0 then some ((-1), ρ) else ck (inR l2) ((f_X9_in l2 0 99).bind (fun v4 => if v4 = 0 then some ((-1), ρ) else bn2 (f_X9_becomes l1 l2 ρ) (fun v6 ρ7 => some (v6, ρ7)))))
set_option maxRecDepth 100000 in
theorem s_X9_dam (d : Nat)   {ρ : pm} (o : pm) {l1 l2 : Int} {rv : Int} {rρ : pm} (h : f_X9_dam l1 l2 ρ = some (rv, rρ)) : ci_Met (d + 2) (yX9_dam, cX9_dam, 3, (some .int), [], 0, 0) [.ref 63, .int (Int32.ofInt l1), .int (Int32.ofInt l2)] (pk false ρ o) (pP false rv rρ o) := by
  refine ci_met (by decide) (Nat.le_of_ble_eq_true rfl) ?_ ?_
  · rintro v w' ⟨rfl, rfl⟩
    trivial
  · change ci_T _ _ _ _ _ _ ([(0, .ref 63), (1, .int (Int32.ofInt l1)), (2, .int (Int32.ofInt l2))], [], pk false ρ o) _
    unfold f_X9_dam at h
    refine ci_T.step cb_X9_dam_0 (ci_sq rfl rfl) ?_
    obtain ⟨v1, hv, h⟩ := bn_some h
    refine ci_T.call (as := [_, _]) (rest := []) kc_X9_isCell ki_X9_isCell (by decide) cl_X9_dam_2 rfl (Nat.le_of_ble_eq_true rfl) ⟨⟨_, rfl⟩, _, _, _, rfl, pk_obj tq_62 rfl _ _⟩ (s_X9_isCell d o hv) ?_
    rintro _ _ ⟨⟨rfl, rfl⟩, hz2⟩
    clear hv
    refine ci_T.step cb_X9_dam_5 (pe_if_eq (Z_R hz2)) ?_
    refine pbr h (fun hc h => ?_) (fun hc h => ?_)
    · refine ci_T.step cb_X9_dam_29 (pe_push pc_m1) ?_
      cases h
      exact ci_T.done (v := some (.int _)) cd_X9_dam_30 ⟨rfl, rfl⟩
    · obtain ⟨h3, h⟩ := ck_some h
      refine ci_T.step cb_X9_dam_8 (ci_sq rfl (ci_sq (pe_i2l h3) (ci_sq (pe_pushl pcl_0) (pe_pushl pcl_99)))) ?_
      obtain ⟨v4, hv, h⟩ := bn_some h
      refine ci_T.call (as := [_, _, _]) (rest := []) kc_X9_in ki_X9_in (by decide) cl_X9_dam_14 rfl (Nat.le_of_ble_eq_true rfl) trivial (s_X9_in (d + 1) o hv) ?_
      rintro _ _ ⟨⟨rfl, rfl⟩, hz5⟩
      clear hv
      refine ci_T.step cb_X9_dam_17 (pe_if_eq (Z_R hz5)) ?_
      refine pbr h (fun hc h => ?_) (fun hc h => ?_)
      · refine ci_T.step cb_X9_dam_29 (pe_push pc_m1) ?_
        cases h
        exact ci_T.done (v := some (.int _)) cd_X9_dam_30 ⟨rfl, rfl⟩
      · refine ci_T.step cb_X9_dam_20 (ci_sq rfl (ci_sq rfl rfl)) ?_
        obtain ⟨v6, ρ7, hv, h⟩ := bn2_some h
        refine ci_T.call (as := [_, _, _]) (rest := []) kc_X9_becomes ki_X9_becomes (by decide) cl_X9_dam_23 rfl (Nat.le_of_ble_eq_true rfl) ⟨⟨_, rfl⟩, _, _, _, rfl, pk_obj tq_62 rfl _ _⟩ (s_X9_becomes (d + 1) o hv) ?_
        rintro _ _ ⟨rfl, rfl⟩
        clear hv
        refine ci_T.step cb_X9_dam_26 rfl ?_
        cases h
        exact ci_T.done (v := some (.int _)) cd_X9_dam_30 ⟨rfl, rfl⟩
/-- X9_move -/
def f_X9_move (l1 : Int) (ρ : pm) : Option (Int × pm) := (f_X9_isCell l1 ρ).bind (fun v1 => if v1 = 0 then some ((-1), ρ) else bn2 (f_X9_becomes 25 l1 ρ) (fun v3 ρ4 => some (v3, ρ4)))
set_option maxRecDepth 100000 in
theorem s_X9_move (d : Nat)   {ρ : pm} (o : pm) {l1 : Int} {rv : Int} {rρ : pm} (h : f_X9_move l1 ρ = some (rv, rρ)) : ci_Met (d + 2) (yX9_move, cX9_move, 2, (some .int), [], 0, 0) [.ref 63, .int (Int32.ofInt l1)] (pk false ρ o) (pP false rv rρ o) := by
  refine ci_met (by decide) (Nat.le_of_ble_eq_true rfl) ?_ ?_
  · rintro v w' ⟨rfl, rfl⟩
    trivial
  · change ci_T _ _ _ _ _ _ ([(0, .ref 63), (1, .int (Int32.ofInt l1))], [], pk false ρ o) _
    unfold f_X9_move at h
    refine ci_T.step cb_X9_move_0 (ci_sq rfl rfl) ?_
    obtain ⟨v1, hv, h⟩ := bn_some h
    refine ci_T.call (as := [_, _]) (rest := []) kc_X9_isCell ki_X9_isCell (by decide) cl_X9_move_2 rfl (Nat.le_of_ble_eq_true rfl) ⟨⟨_, rfl⟩, _, _, _, rfl, pk_obj tq_62 rfl _ _⟩ (s_X9_isCell d o hv) ?_
    rintro _ _ ⟨⟨rfl, rfl⟩, hz2⟩
    clear hv
    refine ci_T.step cb_X9_move_5 (pe_if_eq (Z_R hz2)) ?_
    refine pbr h (fun hc h => ?_) (fun hc h => ?_)
    · refine ci_T.step cb_X9_move_18 (pe_push pc_m1) ?_
      cases h
      exact ci_T.done (v := some (.int _)) cd_X9_move_19 ⟨rfl, rfl⟩
    · refine ci_T.step cb_X9_move_8 (ci_sq rfl (ci_sq (pe_push pc_25) rfl)) ?_
      obtain ⟨v3, ρ4, hv, h⟩ := bn2_some h
      refine ci_T.call (as := [_, _, _]) (rest := []) kc_X9_becomes ki_X9_becomes (by decide) cl_X9_move_12 rfl (Nat.le_of_ble_eq_true rfl) ⟨⟨_, rfl⟩, _, _, _, rfl, pk_obj tq_62 rfl _ _⟩ (s_X9_becomes (d + 1) o hv) ?_
      rintro _ _ ⟨rfl, rfl⟩
      clear hv
      refine ci_T.step cb_X9_move_15 rfl ?_
      cases h
      exact ci_T.done (v := some (.int _)) cd_X9_move_19 ⟨rfl, rfl⟩
/-- X9_law -/
def f_X9_law (l1 : Int) (ρ : pm) : Option (Int × pm) := ck (inR l1) ((f_X9_in l1 0 2).bind (fun v2 => if v2 = 0 then some ((-1), ρ) else bn2 (f_X9_becomes 26 l1 ρ) (fun v4 ρ5 => some (v4, ρ5))))
set_option maxRecDepth 100000 in
theorem s_X9_law (d : Nat)   {ρ : pm} (o : pm) {l1 : Int} {rv : Int} {rρ : pm} (h : f_X9_law l1 ρ = some (rv, rρ)) : ci_Met (d + 1) (yX9_law, cX9_law, 2, (some .int), [], 0, 0) [.ref 63, .int (Int32.ofInt l1)] (pk false ρ o) (pP false rv rρ o) := by
  refine ci_met (by decide) (Nat.le_of_ble_eq_true rfl) ?_ ?_
  · rintro v w' ⟨rfl, rfl⟩
    trivial
  · change ci_T _ _ _ _ _ _ ([(0, .ref 63), (1, .int (Int32.ofInt l1))], [], pk false ρ o) _
    unfold f_X9_law at h
    obtain ⟨h1, h⟩ := ck_some h
    refine ci_T.step cb_X9_law_0 (ci_sq rfl (ci_sq (pe_i2l h1) (ci_sq (pe_pushl pcl_0) (pe_pushl pcl_2)))) ?_
    obtain ⟨v2, hv, h⟩ := bn_some h
    refine ci_T.call (as := [_, _, _]) (rest := []) kc_X9_in ki_X9_in (by decide) cl_X9_law_6 rfl (Nat.le_of_ble_eq_true rfl) trivial (s_X9_in d o hv) ?_
    rintro _ _ ⟨⟨rfl, rfl⟩, hz3⟩
    clear hv
    refine ci_T.step cb_X9_law_9 (pe_if_eq (Z_R hz3)) ?_
    refine pbr h (fun hc h => ?_) (fun hc h => ?_)
    · refine ci_T.step cb_X9_law_22 (pe_push pc_m1) ?_
      cases h
      exact ci_T.done (v := some (.int _)) cd_X9_law_23 ⟨rfl, rfl⟩
    · refine ci_T.step cb_X9_law_12 (ci_sq rfl (ci_sq (pe_push pc_26) rfl)) ?_
      obtain ⟨v4, ρ5, hv, h⟩ := bn2_some h
      refine ci_T.call (as := [_, _, _]) (rest := []) kc_X9_becomes ki_X9_becomes (by decide) cl_X9_law_16 rfl (Nat.le_of_ble_eq_true rfl) ⟨⟨_, rfl⟩, _, _, _, rfl, pk_obj tq_62 rfl _ _⟩ (s_X9_becomes d o hv) ?_
      rintro _ _ ⟨rfl, rfl⟩
      clear hv
      refine ci_T.step cb_X9_law_19 rfl ?_
      cases h
      exact ci_T.done (v := some (.int _)) cd_X9_law_23 ⟨rfl, rfl⟩
/-- X9_silt -/
def f_X9_silt (l1 : Int) (ρ : pm) : Option (Int × pm) := (f_X9_flag l1).bind (fun v1 => bn2 (f_X9_becomes 27 v1 ρ) (fun v2 ρ3 => some (v2, ρ3)))
set_option maxRecDepth 100000 in
theorem s_X9_silt (d : Nat)   {ρ : pm} (o : pm) {l1 : Int} {rv : Int} {rρ : pm} (h : f_X9_silt l1 ρ = some (rv, rρ)) : ci_Met (d + 1) (yX9_silt, cX9_silt, 2, (some .int), [], 0, 0) [.ref 63, .int (Int32.ofInt l1)] (pk false ρ o) (pP false rv rρ o) := by
  refine ci_met (by decide) (Nat.le_of_ble_eq_true rfl) ?_ ?_
  · rintro v w' ⟨rfl, rfl⟩
    trivial
  · change ci_T _ _ _ _ _ _ ([(0, .ref 63), (1, .int (Int32.ofInt l1))], [], pk false ρ o) _
    unfold f_X9_silt at h
    refine ci_T.step cb_X9_silt_0 (ci_sq rfl (ci_sq (pe_push pc_27) rfl)) ?_
    obtain ⟨v1, hv, h⟩ := bn_some h
    refine ci_T.call (as := [_]) (rest := [_, _]) kc_X9_flag ki_X9_flag (by decide) cl_X9_silt_4 rfl (Nat.le_of_ble_eq_true rfl) trivial (s_X9_flag d o hv) ?_
    rintro _ _ ⟨rfl, rfl⟩
    clear hv
    obtain ⟨v2, ρ3, hv, h⟩ := bn2_some h
    refine ci_T.call (as := [_, _, _]) (rest := []) kc_X9_becomes ki_X9_becomes (by decide) cl_X9_silt_7 rfl (Nat.le_of_ble_eq_true rfl) ⟨⟨_, rfl⟩, _, _, _, rfl, pk_obj tq_62 rfl _ _⟩ (s_X9_becomes d o hv) ?_
    rintro _ _ ⟨rfl, rfl⟩
    clear hv
    cases h
    exact ci_T.done (v := some (.int _)) cd_X9_silt_10 ⟨rfl, rfl⟩
/-- X9_price -/
def f_X9_price (l1 l2 : Int) (ρ : pm) : Option (Int × pm) := (f_X9_isFarm l1 ρ).bind (fun v1 => if v1 = 0 then some ((-1), ρ) else ck (inR l2) ((f_X9_in l2 1 9).bind (fun v4 => if v4 = 0 then some ((-1), ρ) else bn2 (f_X9_becomes (28 + l1) l2 ρ) (fun v6 ρ7 => some (v6, ρ7)))))
set_option maxRecDepth 100000 in
theorem s_X9_price (d : Nat)   {ρ : pm} (o : pm) {l1 l2 : Int} {rv : Int} {rρ : pm} (h : f_X9_price l1 l2 ρ = some (rv, rρ)) : ci_Met (d + 2) (yX9_price, cX9_price, 3, (some .int), [], 0, 0) [.ref 63, .int (Int32.ofInt l1), .int (Int32.ofInt l2)] (pk false ρ o) (pP false rv rρ o) := by
  refine ci_met (by decide) (Nat.le_of_ble_eq_true rfl) ?_ ?_
  · rintro v w' ⟨rfl, rfl⟩
    trivial
  · change ci_T _ _ _ _ _ _ ([(0, .ref 63), (1, .int (Int32.ofInt l1)), (2, .int (Int32.ofInt l2))], [], pk false ρ o) _
    unfold f_X9_price at h
    refine ci_T.step cb_X9_price_0 (ci_sq rfl rfl) ?_
    obtain ⟨v1, hv, h⟩ := bn_some h
    refine ci_T.call (as := [_, _]) (rest := []) kc_X9_isFarm ki_X9_isFarm (by decide) cl_X9_price_2 rfl (Nat.le_of_ble_eq_true rfl) ⟨⟨_, rfl⟩, _, _, _, rfl, pk_obj tq_62 rfl _ _⟩ (s_X9_isFarm d o hv) ?_
    rintro _ _ ⟨⟨rfl, rfl⟩, hz2⟩
    clear hv
    refine ci_T.step cb_X9_price_5 (pe_if_eq (Z_R hz2)) ?_
    refine pbr h (fun hc h => ?_) (fun hc h => ?_)
    · refine ci_T.step cb_X9_price_32 (pe_push pc_m1) ?_
      cases h
      exact ci_T.done (v := some (.int _)) cd_X9_price_33 ⟨rfl, rfl⟩
    · obtain ⟨h3, h⟩ := ck_some h
      refine ci_T.step cb_X9_price_8 (ci_sq rfl (ci_sq (pe_i2l h3) (ci_sq (pe_pushl pcl_1) (pe_pushl pcl_9)))) ?_
      obtain ⟨v4, hv, h⟩ := bn_some h
      refine ci_T.call (as := [_, _, _]) (rest := []) kc_X9_in ki_X9_in (by decide) cl_X9_price_14 rfl (Nat.le_of_ble_eq_true rfl) trivial (s_X9_in (d + 1) o hv) ?_
      rintro _ _ ⟨⟨rfl, rfl⟩, hz5⟩
      clear hv
      refine ci_T.step cb_X9_price_17 (pe_if_eq (Z_R hz5)) ?_
      refine pbr h (fun hc h => ?_) (fun hc h => ?_)
      · refine ci_T.step cb_X9_price_32 (pe_push pc_m1) ?_
        cases h
        exact ci_T.done (v := some (.int _)) cd_X9_price_33 ⟨rfl, rfl⟩
      · refine ci_T.step cb_X9_price_20 (ci_sq rfl (ci_sq (pe_push pc_28) (ci_sq rfl (ci_sq pe_iadd rfl)))) ?_
        obtain ⟨v6, ρ7, hv, h⟩ := bn2_some h
        refine ci_T.call (as := [_, _, _]) (rest := []) kc_X9_becomes ki_X9_becomes (by decide) cl_X9_price_26 rfl (Nat.le_of_ble_eq_true rfl) ⟨⟨_, rfl⟩, _, _, _, rfl, pk_obj tq_62 rfl _ _⟩ (s_X9_becomes (d + 1) o hv) ?_
        rintro _ _ ⟨rfl, rfl⟩
        clear hv
        refine ci_T.step cb_X9_price_29 rfl ?_
        cases h
        exact ci_T.done (v := some (.int _)) cd_X9_price_33 ⟨rfl, rfl⟩
/-- X9_marks -/
def L_X9_marks_2  : Nat → Int → pm → Option pm
  | 0, _, _ => none
  | n + 1, l1, ρ => ck (inR l1) (if 25 ≤ l1 then some ρ else ck (0 ≤ l1 ∧ l1 < 168) (ck (0 ≤ l1 ∧ l1 < 25) (jn (pup ρ 72 l1 (ρ 63 l1)) (fun ρ4 => jn (l1 + 1) (fun x5 => L_X9_marks_2 n x5 ρ4)))))
def f_X9_marks (ρ : pm) : Option pm := L_X9_marks_2 fu 0 ρ
set_option maxRecDepth 100000 in
theorem t_X9_marks_2 {d : Nat}    {o : pm} {rρ : pm}   : ∀ (n : Nat) (l1 : Int) (ρ : pm), L_X9_marks_2 n l1 ρ = some rρ → ci_T yX9_marks cX9_marks 2 none d 2 ([(0, .ref 63), (1, .int (Int32.ofInt l1))], [], pk false ρ o) (pV false rρ o) := by
  intro n
  induction n with
  | zero =>
    intro l1 ρ h
    rw [L_X9_marks_2] at h
    cases h
  | succ n ih =>
    intro l1 ρ h
    rw [L_X9_marks_2] at h
    obtain ⟨h1, h⟩ := ck_some h
    refine ci_T.step cb_X9_marks_2 (ci_sq rfl (ci_sq (pe_push pc_25) (pe_ic_ge h1 pR_25))) ?_
    refine pbr h (fun hc h => ?_) (fun hc h => ?_)
    · cases h
      exact ci_T.done (v := none) cd_X9_marks_26 ⟨rfl, rfl⟩
    · obtain ⟨h2, h⟩ := ck_some h
      obtain ⟨h3, h⟩ := ck_some h
      replace h := jn_some h
      replace h := jn_some h
      refine ci_T.step cb_X9_marks_8 (ci_sq rfl (ci_sq (pe_getR tq_62 rfl rfl) (ci_sq rfl (ci_sq rfl (ci_sq (pe_getR tq_62 rfl rfl) (ci_sq rfl (ci_sq (pe_ald (nI := 168) tq_63 rfl rfl h2) (ci_sq (pe_ast (nI := 25) tq_72 rfl rfl h3 rfl) (ci_sq (pe_inc rfl) rfl))))))))) ?_
      exact ci_T.sub [1, 0] (ih _ _ h) rfl
set_option maxRecDepth 100000 in
theorem s_X9_marks (d : Nat)   {ρ : pm} (o : pm)  {rρ : pm} (h : f_X9_marks ρ = some rρ) : ci_Met d (yX9_marks, cX9_marks, 2, none, [], 0, 0) [.ref 63] (pk false ρ o) (pV false rρ o) := by
  refine ci_met (by decide) (Nat.le_of_ble_eq_true rfl) ?_ ?_
  · rintro v w' ⟨rfl, rfl⟩
    trivial
  · change ci_T _ _ _ _ _ _ ([(0, .ref 63)], [], pk false ρ o) _
    unfold f_X9_marks at h
    refine ci_T.step cb_X9_marks_0 (ci_sq (pe_push pc_0) rfl) ?_
    exact ci_T.sub [1, 0] (t_X9_marks_2 fu _ _ h) rfl
/-- X9_returns -/
def L_X9_returns_2  : Nat → Int → pm → Option pm
  | 0, _, _ => none
  | n + 1, l1, ρ => ck (inR l1) (if 25 ≤ l1 then some ρ else ck (0 ≤ l1 ∧ l1 < 25) (ck (0 ≤ l1 ∧ l1 < 168) (jn (pup ρ 63 l1 (ρ 72 l1)) (fun ρ4 => jn (l1 + 1) (fun x5 => L_X9_returns_2 n x5 ρ4)))))
def f_X9_returns (ρ : pm) : Option pm := L_X9_returns_2 fu 0 ρ
set_option maxRecDepth 100000 in
theorem t_X9_returns_2 {d : Nat}    {o : pm} {rρ : pm}   : ∀ (n : Nat) (l1 : Int) (ρ : pm), L_X9_returns_2 n l1 ρ = some rρ → ci_T yX9_returns cX9_returns 2 none d 2 ([(0, .ref 63), (1, .int (Int32.ofInt l1))], [], pk false ρ o) (pV false rρ o) := by
  intro n
  induction n with
  | zero =>
    intro l1 ρ h
    rw [L_X9_returns_2] at h
    cases h
  | succ n ih =>
    intro l1 ρ h
    rw [L_X9_returns_2] at h
    obtain ⟨h1, h⟩ := ck_some h
    refine ci_T.step cb_X9_returns_2 (ci_sq rfl (ci_sq (pe_push pc_25) (pe_ic_ge h1 pR_25))) ?_
    refine pbr h (fun hc h => ?_) (fun hc h => ?_)
    · cases h
      exact ci_T.done (v := none) cd_X9_returns_26 ⟨rfl, rfl⟩
    · obtain ⟨h2, h⟩ := ck_some h
      obtain ⟨h3, h⟩ := ck_some h
      replace h := jn_some h
      replace h := jn_some h
      refine ci_T.step cb_X9_returns_8 (ci_sq rfl (ci_sq (pe_getR tq_62 rfl rfl) (ci_sq rfl (ci_sq rfl (ci_sq (pe_getR tq_62 rfl rfl) (ci_sq rfl (ci_sq (pe_ald (nI := 25) tq_72 rfl rfl h2) (ci_sq (pe_ast (nI := 168) tq_63 rfl rfl h3 rfl) (ci_sq (pe_inc rfl) rfl))))))))) ?_
      exact ci_T.sub [1, 0] (ih _ _ h) rfl
set_option maxRecDepth 100000 in
theorem s_X9_returns (d : Nat)   {ρ : pm} (o : pm)  {rρ : pm} (h : f_X9_returns ρ = some rρ) : ci_Met d (yX9_returns, cX9_returns, 2, none, [], 0, 0) [.ref 63] (pk false ρ o) (pV false rρ o) := by
  refine ci_met (by decide) (Nat.le_of_ble_eq_true rfl) ?_ ?_
  · rintro v w' ⟨rfl, rfl⟩
    trivial
  · change ci_T _ _ _ _ _ _ ([(0, .ref 63)], [], pk false ρ o) _
    unfold f_X9_returns at h
    refine ci_T.step cb_X9_returns_0 (ci_sq (pe_push pc_0) rfl) ?_
    exact ci_T.sub [1, 0] (t_X9_returns_2 fu _ _ h) rfl
/-- X9_cutOf -/
def f_X9_cutOf (l0 l1 : Int) : Option Int := ck (inR l1) (jn (fun (s0 : Int) => ck (inR s0) (some ((Int.tmod s0 26) - 1))) (fun j25 => if l1 = 0 then j25 l0 else if l1 = 1 then ck (inR l0) (j25 (Int.tdiv l0 26)) else ck (inR l0) (j25 (Int.tdiv l0 676))))
set_option maxRecDepth 100000 in
theorem s_X9_cutOf (d : Nat)   {ρ : pm} (o : pm) {l0 l1 : Int} {rv : Int} (h : f_X9_cutOf l0 l1 = some rv) : ci_Met d (yX9_cutOf, cX9_cutOf, 3, (some .int), [], 0, 0) [.int (Int32.ofInt l0), .int (Int32.ofInt l1)] (pk false ρ o) (pP false rv ρ o) := by
  refine ci_met (by decide) (Nat.le_of_ble_eq_true rfl) ?_ ?_
  · rintro v w' ⟨rfl, rfl⟩
    trivial
  · change ci_T _ _ _ _ _ _ ([(0, .int (Int32.ofInt l0)), (1, .int (Int32.ofInt l1))], [], pk false ρ o) _
    unfold f_X9_cutOf at h
    obtain ⟨h1, h⟩ := ck_some h
    refine ci_T.step cb_X9_cutOf_0 (ci_sq rfl (pe_if_ne h1)) ?_
    obtain ⟨j25, hj, h⟩ := jn_ex h
    have J25 : ∀ (s0 : Int), j25 s0 = some rv → ci_T yX9_cutOf cX9_cutOf 3 (some .int) d 25 ([], [.int (Int32.ofInt s0)], pk false ρ o) (pP false rv ρ o) := by
      intro s0 h
      subst hj
      obtain ⟨h2, h⟩ := ck_some h
      refine ci_T.step cb_X9_cutOf_25 (ci_sq rfl (ci_sq rfl (ci_sq (pe_push pc_26) (ci_sq (pe_irem ⟨h2, pR_26, by decide⟩) (ci_sq (pe_push pc_1) pe_isub))))) ?_
      cases h
      exact ci_T.done (v := some (.int _)) cd_X9_cutOf_32 ⟨rfl, rfl⟩
    clear hj
    refine pbrn h (fun hc h => ?_) (fun hc h => ?_)
    · refine ci_T.step cb_X9_cutOf_8 (ci_sq rfl (ci_sq (pe_push pc_1) (pe_ic_ne h1 pR_1))) ?_
      refine pbrn h (fun hc h => ?_) (fun hc h => ?_)
      · obtain ⟨h3, h⟩ := ck_some h
        refine ci_T.step cb_X9_cutOf_20 (ci_sq rfl (ci_sq (pe_push pc_676) (pe_idiv ⟨h3, pR_676, by decide⟩))) ?_
        exact ci_T.sub [] (J25 _ h) rfl
      · obtain ⟨h4, h⟩ := ck_some h
        refine ci_T.step cb_X9_cutOf_13 (ci_sq rfl (ci_sq (pe_push pc_26) (ci_sq (pe_idiv ⟨h4, pR_26, by decide⟩) rfl))) ?_
        exact ci_T.sub [] (J25 _ h) rfl
    · refine ci_T.step cb_X9_cutOf_4 (ci_sq rfl rfl) ?_
      exact ci_T.sub [] (J25 _ h) rfl
/-- X9_firstWrong -/
def L_X9_firstWrong_4  : Nat → Int → Int → Int → pm → Option (Int × pm)
  | 0, _, _, _, _ => none
  | n + 1, l1, l2, l3, ρ => ck (inR l3) (if l3 < 0 then some (l2, ρ) else (f_X9_cutOf l1 l3).bind (fun v2 => ck (inR v2) (jn (fun (l1 l2 l3 s0 : Int) (ρ : pm) => ck (inR s0) (jn (fun (l1 l3 s0 : Int) (ρ : pm) => jn (l3 + (-1)) (fun x5 => L_X9_firstWrong_4 n l1 s0 x5 ρ)) (fun j59 => if s0 = 0 then j59 l1 l3 l3 ρ else j59 l1 l3 l2 ρ))) (fun j47 => jn (fun (l1 l2 l3 : Int) (ρ : pm) => j47 l1 l2 l3 1 ρ) (fun j42 => if v2 < 0 then j42 l1 l2 l3 ρ else ck (inR (ρ 62 4)) (jn (fun (l1 l2 l3 : Int) (ρ : pm) => j47 l1 l2 l3 0 ρ) (fun j46 => if (ρ 62 4) ≤ l3 then j46 l1 l2 l3 ρ else bn2 (f_X9_mayCut l3 ρ) (fun v7 ρ8 => if (band (bshr v7 v2) 1) = 1 then j42 l1 l2 l3 ρ8 else j46 l1 l2 l3 ρ8))))))))
def f_X9_firstWrong (l1 : Int) (ρ : pm) : Option (Int × pm) := L_X9_firstWrong_4 fu l1 3 2 ρ
set_option maxRecDepth 100000 in
theorem t_X9_firstWrong_4 {d : Nat}    {o : pm} {rv : Int} {rρ : pm}   : ∀ (n : Nat) (l1 l2 l3 : Int) (ρ : pm), L_X9_firstWrong_4 n l1 l2 l3 ρ = some (rv, rρ) → ci_T yX9_firstWrong cX9_firstWrong 6 (some .int) (d + 5) 4 ([(0, .ref 63), (1, .int (Int32.ofInt l1)), (2, .int (Int32.ofInt l2)), (3, .int (Int32.ofInt l3))], [], pk false ρ o) (pP false rv rρ o) := by
  intro n
  induction n with
  | zero =>
    intro l1 l2 l3 ρ h
    rw [L_X9_firstWrong_4] at h
    cases h
  | succ n ih =>
    intro l1 l2 l3 ρ h
    rw [L_X9_firstWrong_4] at h
    obtain ⟨h1, h⟩ := ck_some h
    refine ci_T.step cb_X9_firstWrong_4 (ci_sq rfl (pe_if_lt h1)) ?_
    refine pbr h (fun hc h => ?_) (fun hc h => ?_)
    · refine ci_T.step cb_X9_firstWrong_66 rfl ?_
      cases h
      exact ci_T.done (v := some (.int _)) cd_X9_firstWrong_67 ⟨rfl, rfl⟩
    · refine ci_T.step cb_X9_firstWrong_8 (ci_sq rfl rfl) ?_
      obtain ⟨v2, hv, h⟩ := bn_some h
      refine ci_T.call (as := [_, _]) (rest := []) kc_X9_cutOf ki_X9_cutOf (by decide) cl_X9_firstWrong_10 rfl (Nat.le_of_ble_eq_true rfl) trivial (s_X9_cutOf (d + 4) o hv) ?_
      rintro _ _ ⟨rfl, rfl⟩
      clear hv
      obtain ⟨h3, h⟩ := ck_some h
      refine ci_T.step cb_X9_firstWrong_13 (ci_sq rfl (ci_sq rfl (pe_if_lt h3))) ?_
      obtain ⟨j47, hj, h⟩ := jn_ex h
      have J47 : ∀ (l1 l2 l3 s0 : Int) (ρ : pm), j47 l1 l2 l3 s0 ρ = some (rv, rρ) → ci_T yX9_firstWrong cX9_firstWrong 6 (some .int) (d + 5) 47 ([(0, .ref 63), (1, .int (Int32.ofInt l1)), (2, .int (Int32.ofInt l2)), (3, .int (Int32.ofInt l3))], [.int (Int32.ofInt s0)], pk false ρ o) (pP false rv rρ o) := by
        intro l1 l2 l3 s0 ρ h
        subst hj
        obtain ⟨h4, h⟩ := ck_some h
        refine ci_T.step cb_X9_firstWrong_47 (ci_sq rfl (ci_sq rfl (pe_if_eq h4))) ?_
        obtain ⟨j59, hj, h⟩ := jn_ex h
        have J59 : ∀ (l1 l3 s0 : Int) (ρ : pm), j59 l1 l3 s0 ρ = some (rv, rρ) → ci_T yX9_firstWrong cX9_firstWrong 6 (some .int) (d + 5) 59 ([(0, .ref 63), (1, .int (Int32.ofInt l1)), (3, .int (Int32.ofInt l3))], [.int (Int32.ofInt s0)], pk false ρ o) (pP false rv rρ o) := by
          intro l1 l3 s0 ρ h
          subst hj
          replace h := jn_some h
          refine ci_T.step cb_X9_firstWrong_59 (ci_sq rfl (ci_sq (pe_inc rfl) rfl)) ?_
          exact ci_T.sub [2, 3, 1, 0] (ih _ _ _ _ h) rfl
        clear hj
        refine pbr h (fun hc h => ?_) (fun hc h => ?_)
        · refine ci_T.step cb_X9_firstWrong_58 rfl ?_
          exact ci_T.sub [1, 2, 4] (J59 _ _ _ _ h) rfl
        · refine ci_T.step cb_X9_firstWrong_54 (ci_sq rfl rfl) ?_
          exact ci_T.sub [1, 2, 4] (J59 _ _ _ _ h) rfl
      clear hj
      obtain ⟨j42, hj, h⟩ := jn_ex h
      have J42 : ∀ (l1 l2 l3 : Int) (ρ : pm), j42 l1 l2 l3 ρ = some (rv, rρ) → ci_T yX9_firstWrong cX9_firstWrong 6 (some .int) (d + 5) 42 ([(0, .ref 63), (1, .int (Int32.ofInt l1)), (2, .int (Int32.ofInt l2)), (3, .int (Int32.ofInt l3))], [], pk false ρ o) (pP false rv rρ o) := by
        intro l1 l2 l3 ρ h
        subst hj
        refine ci_T.step cb_X9_firstWrong_42 (ci_sq (pe_push pc_1) rfl) ?_
        exact ci_T.sub [0, 1, 2, 3] (J47 _ _ _ _ _ h) rfl
      clear hj
      refine pbr h (fun hc h => ?_) (fun hc h => ?_)
      · exact ci_T.sub [1, 2, 3, 4] (J42 _ _ _ _ h) rfl
      · obtain ⟨h6, h⟩ := ck_some h
        refine ci_T.step cb_X9_firstWrong_20 (ci_sq rfl (ci_sq rfl (ci_sq (pe_getI (kI := 4) tq_62 rfl rfl rfl) (pe_ic_ge h1 h6)))) ?_
        obtain ⟨j46, hj, h⟩ := jn_ex h
        have J46 : ∀ (l1 l2 l3 : Int) (ρ : pm), j46 l1 l2 l3 ρ = some (rv, rρ) → ci_T yX9_firstWrong cX9_firstWrong 6 (some .int) (d + 5) 46 ([(0, .ref 63), (1, .int (Int32.ofInt l1)), (2, .int (Int32.ofInt l2)), (3, .int (Int32.ofInt l3))], [], pk false ρ o) (pP false rv rρ o) := by
          intro l1 l2 l3 ρ h
          subst hj
          refine ci_T.step cb_X9_firstWrong_46 (pe_push pc_0) ?_
          exact ci_T.sub [0, 1, 2, 3] (J47 _ _ _ _ _ h) rfl
        clear hj
        refine pbr h (fun hc h => ?_) (fun hc h => ?_)
        · exact ci_T.sub [1, 2, 3, 4] (J46 _ _ _ _ h) rfl
        · refine ci_T.step cb_X9_firstWrong_28 (ci_sq rfl rfl) ?_
          obtain ⟨v7, ρ8, hv, h⟩ := bn2_some h
          refine ci_T.call (as := [_, _]) (rest := []) kc_X9_mayCut ki_X9_mayCut (by decide) cl_X9_firstWrong_30 rfl (Nat.le_of_ble_eq_true rfl) ⟨⟨_, rfl⟩, _, _, _, rfl, pk_obj tq_62 rfl _ _⟩ (s_X9_mayCut d o hv) ?_
          rintro _ _ ⟨rfl, rfl⟩
          clear hv
          refine ci_T.step cb_X9_firstWrong_33 (ci_sq rfl (ci_sq pe_ishr (ci_sq (pe_push pc_1) (ci_sq pe_iand (ci_sq (pe_push pc_1) (pe_ic_ne (band_R _ _) pR_1)))))) ?_
          refine pbrn h (fun hc h => ?_) (fun hc h => ?_)
          · exact ci_T.sub [1, 2, 3, 4] (J46 _ _ _ _ h) rfl
          · exact ci_T.sub [1, 2, 3, 4] (J42 _ _ _ _ h) rfl
set_option maxRecDepth 100000 in
theorem s_X9_firstWrong (d : Nat)   {ρ : pm} (o : pm) {l1 : Int} {rv : Int} {rρ : pm} (h : f_X9_firstWrong l1 ρ = some (rv, rρ)) : ci_Met (d + 5) (yX9_firstWrong, cX9_firstWrong, 6, (some .int), [], 0, 0) [.ref 63, .int (Int32.ofInt l1)] (pk false ρ o) (pP false rv rρ o) := by
  refine ci_met (by decide) (Nat.le_of_ble_eq_true rfl) ?_ ?_
  · rintro v w' ⟨rfl, rfl⟩
    trivial
  · change ci_T _ _ _ _ _ _ ([(0, .ref 63), (1, .int (Int32.ofInt l1))], [], pk false ρ o) _
    unfold f_X9_firstWrong at h
    refine ci_T.step cb_X9_firstWrong_0 (ci_sq (pe_push pc_3) (ci_sq rfl (ci_sq (pe_push pc_2) rfl))) ?_
    exact ci_T.sub [2, 3, 1, 0] (t_X9_firstWrong_4 fu _ _ _ _ h) rfl
/-- X9_canBe -/
def f_X9_canBe (l1 : Int) (ρ : pm) : Option (Int × pm) := bn2 (f_X9_firstWrong l1 ρ) (fun v1 ρ2 => ck (inR v1) (if v1 = 3 then some (1, ρ2) else some (0, ρ2)))
set_option maxRecDepth 100000 in
theorem s_X9_canBe (d : Nat)   {ρ : pm} (o : pm) {l1 : Int} {rv : Int} {rρ : pm} (h : f_X9_canBe l1 ρ = some (rv, rρ)) : ci_Met (d + 6) (yX9_canBe, cX9_canBe, 2, (some .boolean), [], 0, 0) [.ref 63, .int (Int32.ofInt l1)] (pk false ρ o) (pZ false rv rρ o) := by
  refine ci_met (by decide) (Nat.le_of_ble_eq_true rfl) ?_ ?_
  · rintro v w' ⟨⟨rfl, rfl⟩, hz⟩
    exact Z_of hz
  · change ci_T _ _ _ _ _ _ ([(0, .ref 63), (1, .int (Int32.ofInt l1))], [], pk false ρ o) _
    unfold f_X9_canBe at h
    refine ci_T.step cb_X9_canBe_0 (ci_sq rfl rfl) ?_
    obtain ⟨v1, ρ2, hv, h⟩ := bn2_some h
    refine ci_T.call (as := [_, _]) (rest := []) kc_X9_firstWrong ki_X9_firstWrong (by decide) cl_X9_canBe_2 rfl (Nat.le_of_ble_eq_true rfl) ⟨⟨_, rfl⟩, _, _, _, rfl, pk_obj tq_62 rfl _ _⟩ (s_X9_firstWrong d o hv) ?_
    rintro _ _ ⟨rfl, rfl⟩
    clear hv
    obtain ⟨h3, h⟩ := ck_some h
    refine ci_T.step cb_X9_canBe_5 (ci_sq (pe_push pc_3) (pe_ic_ne h3 pR_3)) ?_
    refine pbrn h (fun hc h => ?_) (fun hc h => ?_)
    · refine ci_T.step cb_X9_canBe_13 (pe_push pc_0) ?_
      cases h
      exact ci_T.done (v := some (.int _)) cd_X9_canBe_14 ⟨⟨rfl, rfl⟩, (Or.inl rfl)⟩
    · refine ci_T.step cb_X9_canBe_9 (ci_sq (pe_push pc_1) rfl) ?_
      cases h
      exact ci_T.done (v := some (.int _)) cd_X9_canBe_14 ⟨⟨rfl, rfl⟩, (Or.inr rfl)⟩
/-- X9_silts -/
def L_X9_silts_27 (K77 : Int → pm → Option pm) : Nat → Int → Int → pm → Option pm
  | 0, _, _, _ => none
  | n + 1, l1, l2, ρ => ck (inR l2) (if 4 ≤ l2 then K77 l1 ρ else ck (0 ≤ l2 ∧ l2 < 25) (ck (0 ≤ ρ 71 l2 ∧ ρ 71 l2 < 168) (ck (inR (ρ 63 (ρ 71 l2))) (jn (fun (l1 l2 s0 : Int) (ρ : pm) => ck (0 ≤ l2 ∧ l2 < 25) (ck (0 ≤ ρ 71 l2 ∧ ρ 71 l2 < 168) (jn (pup ρ 63 (ρ 71 l2) ((ρ 63 (ρ 71 l2)) - s0)) (fun ρ10 => jn (l1 + s0) (fun x11 => jn (l2 + 1) (fun x12 => L_X9_silts_27 K77 n x11 x12 ρ10)))))) (fun j51 => if (ρ 63 (ρ 71 l2)) ≤ 0 then j51 l1 l2 0 ρ else j51 l1 l2 1 ρ)))))
def f_X9_silts (ρ : pm) : Option pm := (f_X9_findBed ρ).bind (fun ρ1 => ck (inR (ρ1 63 27)) (if (ρ1 63 27) = 0 then some ρ1 else ck (inR (ρ1 62 31)) (if 4 ≤ (ρ1 62 31) then L_X9_silts_27 (fun (l1 : Int) (ρ : pm) => ck (0 ≤ (ρ 62 31) - 1 ∧ (ρ 62 31) - 1 < 25) (ck (0 ≤ ρ 71 ((ρ 62 31) - 1) ∧ ρ 71 ((ρ 62 31) - 1) < 168) (jn (pup ρ 63 (ρ 71 ((ρ 62 31) - 1)) ((ρ 63 (ρ 71 ((ρ 62 31) - 1))) + l1)) (fun ρ15 => some ρ15)))) fu 0 1 ρ1 else some ρ1)))
set_option maxRecDepth 100000 in
theorem t_X9_silts_27 {d : Nat}    {o : pm} {rρ : pm} {K77 : Int → pm → Option pm} (hK77 : ∀ (l1 : Int) (ρ : pm), K77 l1 ρ = some rρ → ci_T yX9_silts cX9_silts 4 none (d + 3) 77 ([(0, .ref 63), (1, .int (Int32.ofInt l1))], [], pk false ρ o) (pV false rρ o)) : ∀ (n : Nat) (l1 l2 : Int) (ρ : pm), L_X9_silts_27 K77 n l1 l2 ρ = some rρ → ci_T yX9_silts cX9_silts 4 none (d + 3) 27 ([(0, .ref 63), (1, .int (Int32.ofInt l1)), (2, .int (Int32.ofInt l2))], [], pk false ρ o) (pV false rρ o) := by
  intro n
  induction n with
  | zero =>
    intro l1 l2 ρ h
    rw [L_X9_silts_27] at h
    cases h
  | succ n ih =>
    intro l1 l2 ρ h
    rw [L_X9_silts_27] at h
    obtain ⟨h4, h⟩ := ck_some h
    refine ci_T.step cb_X9_silts_27 (ci_sq rfl (ci_sq (pe_push pc_4) (pe_ic_ge h4 pR_4))) ?_
    refine pbr h (fun hc h => ?_) (fun hc h => ?_)
    · exact ci_T.sub [0, 1] (hK77 _ _ h) rfl
    · obtain ⟨h5, h⟩ := ck_some h
      obtain ⟨h6, h⟩ := ck_some h
      obtain ⟨h7, h⟩ := ck_some h
      refine ci_T.step cb_X9_silts_32 (ci_sq rfl (ci_sq (pe_getR tq_62 rfl rfl) (ci_sq rfl (ci_sq (pe_getR tq_62 rfl rfl) (ci_sq rfl (ci_sq (pe_ald (nI := 25) tq_71 rfl rfl h5) (ci_sq (pe_ald (nI := 168) tq_63 rfl rfl h6) (pe_if_le h7)))))))) ?_
      obtain ⟨j51, hj, h⟩ := jn_ex h
      have J51 : ∀ (l1 l2 s0 : Int) (ρ : pm), j51 l1 l2 s0 ρ = some rρ → ci_T yX9_silts cX9_silts 4 none (d + 3) 51 ([(0, .ref 63), (1, .int (Int32.ofInt l1)), (2, .int (Int32.ofInt l2))], [.int (Int32.ofInt s0)], pk false ρ o) (pV false rρ o) := by
        intro l1 l2 s0 ρ h
        subst hj
        obtain ⟨h8, h⟩ := ck_some h
        obtain ⟨h9, h⟩ := ck_some h
        replace h := jn_some h
        replace h := jn_some h
        replace h := jn_some h
        refine ci_T.step cb_X9_silts_51 (ci_sq rfl (ci_sq rfl (ci_sq (pe_getR tq_62 rfl rfl) (ci_sq rfl (ci_sq (pe_getR tq_62 rfl rfl) (ci_sq rfl (ci_sq (pe_ald (nI := 25) tq_71 rfl rfl h8) (ci_sq rfl (ci_sq (pe_ald (nI := 168) tq_63 rfl rfl h9) (ci_sq rfl (ci_sq pe_isub (ci_sq (pe_ast (nI := 168) tq_63 rfl rfl h9 rfl) (ci_sq rfl (ci_sq rfl (ci_sq pe_iadd (ci_sq rfl (ci_sq (pe_inc rfl) rfl))))))))))))))))) ?_
        exact ci_T.sub [3, 1, 0] (ih _ _ _ h) rfl
      clear hj
      refine pbr h (fun hc h => ?_) (fun hc h => ?_)
      · refine ci_T.step cb_X9_silts_50 (pe_push pc_0) ?_
        exact ci_T.sub [0, 1, 2] (J51 _ _ _ _ h) rfl
      · refine ci_T.step cb_X9_silts_46 (ci_sq (pe_push pc_1) rfl) ?_
        exact ci_T.sub [0, 1, 2] (J51 _ _ _ _ h) rfl
set_option maxRecDepth 100000 in
theorem s_X9_silts (d : Nat)   {ρ : pm} (o : pm)  {rρ : pm} (h : f_X9_silts ρ = some rρ) : ci_Met (d + 3) (yX9_silts, cX9_silts, 4, none, [], 0, 0) [.ref 63] (pk false ρ o) (pV false rρ o) := by
  refine ci_met (by decide) (Nat.le_of_ble_eq_true rfl) ?_ ?_
  · rintro v w' ⟨rfl, rfl⟩
    trivial
  · change ci_T _ _ _ _ _ _ ([(0, .ref 63)], [], pk false ρ o) _
    unfold f_X9_silts at h
    refine ci_T.step cb_X9_silts_0 rfl ?_
    obtain ⟨ρ1, hv, h⟩ := bn_some h
    refine ci_T.call (as := [_]) (rest := []) kc_X9_findBed ki_X9_findBed (by decide) cl_X9_silts_1 rfl (Nat.le_of_ble_eq_true rfl) ⟨⟨_, rfl⟩, _, _, _, rfl, pk_obj tq_62 rfl _ _⟩ (s_X9_findBed d o hv) ?_
    rintro _ _ ⟨rfl, rfl⟩
    clear hv
    obtain ⟨h2, h⟩ := ck_some h
    refine ci_T.step cb_X9_silts_4 (ci_sq rfl (ci_sq (pe_getR tq_62 rfl rfl) (ci_sq (pe_push pc_27) (ci_sq (pe_ald (nI := 168) tq_63 rfl rfl ⟨by decide, by decide⟩) (pe_if_eq h2))))) ?_
    refine pbr h (fun hc h => ?_) (fun hc h => ?_)
    · cases h
      exact ci_T.done (v := none) cd_X9_silts_22 ⟨rfl, rfl⟩
    · obtain ⟨h3, h⟩ := ck_some h
      refine ci_T.step cb_X9_silts_14 (ci_sq rfl (ci_sq (pe_getI (kI := 31) tq_62 rfl rfl rfl) (ci_sq (pe_push pc_4) (pe_ic_ge h3 pR_4)))) ?_
      refine pbr h (fun hc h => ?_) (fun hc h => ?_)
      · refine ci_T.step cb_X9_silts_23 (ci_sq (pe_push pc_0) (ci_sq rfl (ci_sq (pe_push pc_1) rfl))) ?_
        refine ci_T.sub [2, 1, 0] (t_X9_silts_27 ?_ fu _ _ _ h) rfl
        · intro l1 ρ h
          obtain ⟨h13, h⟩ := ck_some h
          obtain ⟨h14, h⟩ := ck_some h
          replace h := jn_some h
          refine ci_T.step cb_X9_silts_77 (ci_sq rfl (ci_sq (pe_getR tq_62 rfl rfl) (ci_sq rfl (ci_sq (pe_getR tq_62 rfl rfl) (ci_sq rfl (ci_sq (pe_getI (kI := 31) tq_62 rfl rfl rfl) (ci_sq (pe_push pc_1) (ci_sq pe_isub (ci_sq (pe_ald (nI := 25) tq_71 rfl rfl h13) (ci_sq rfl (ci_sq (pe_ald (nI := 168) tq_63 rfl rfl h14) (ci_sq rfl (ci_sq pe_iadd (pe_ast (nI := 168) tq_63 rfl rfl h14 rfl)))))))))))))) ?_
          cases h
          exact ci_T.done (v := none) cd_X9_silts_97 ⟨rfl, rfl⟩
      · cases h
        exact ci_T.done (v := none) cd_X9_silts_22 ⟨rfl, rfl⟩
/-- X9_goes -/
def L_X9_goes_2 (K33 : pm → Option pm) : Nat → Int → Int → pm → Option pm
  | 0, _, _, _ => none
  | n + 1, l1, l2, ρ => ck (inR l2) (if 3 ≤ l2 then K33 ρ else (f_X9_cutOf l1 l2).bind (fun v2 => ck (inR v2) (jn (fun (l1 l2 : Int) (ρ : pm) => jn (l2 + 1) (fun x4 => L_X9_goes_2 K33 n l1 x4 ρ)) (fun j27 => if v2 < 0 then j27 l1 l2 ρ else ck (0 ≤ v2 ∧ v2 < 168) (jn (pup ρ 63 v2 ((ρ 63 v2) - 3)) (fun ρ6 => j27 l1 l2 ρ6))))))
def f_X9_goes (l1 : Int) (ρ : pm) : Option pm := L_X9_goes_2 (fun (ρ : pm) => (f_X9_silts ρ).bind (fun ρ7 => some ρ7)) fu l1 0 ρ
set_option maxRecDepth 100000 in
theorem t_X9_goes_2 {d : Nat}    {o : pm} {rρ : pm} {K33 : pm → Option pm} (hK33 : ∀ (ρ : pm), K33 ρ = some rρ → ci_T yX9_goes cX9_goes 4 none (d + 4) 33 ([(0, .ref 63)], [], pk false ρ o) (pV false rρ o)) : ∀ (n : Nat) (l1 l2 : Int) (ρ : pm), L_X9_goes_2 K33 n l1 l2 ρ = some rρ → ci_T yX9_goes cX9_goes 4 none (d + 4) 2 ([(0, .ref 63), (1, .int (Int32.ofInt l1)), (2, .int (Int32.ofInt l2))], [], pk false ρ o) (pV false rρ o) := by
  intro n
  induction n with
  | zero =>
    intro l1 l2 ρ h
    rw [L_X9_goes_2] at h
    cases h
  | succ n ih =>
    intro l1 l2 ρ h
    rw [L_X9_goes_2] at h
    obtain ⟨h1, h⟩ := ck_some h
    refine ci_T.step cb_X9_goes_2 (ci_sq rfl (ci_sq (pe_push pc_3) (pe_ic_ge h1 pR_3))) ?_
    refine pbr h (fun hc h => ?_) (fun hc h => ?_)
    · exact ci_T.sub [0] (hK33 _ h) rfl
    · refine ci_T.step cb_X9_goes_7 (ci_sq rfl rfl) ?_
      obtain ⟨v2, hv, h⟩ := bn_some h
      refine ci_T.call (as := [_, _]) (rest := []) kc_X9_cutOf ki_X9_cutOf (by decide) cl_X9_goes_9 rfl (Nat.le_of_ble_eq_true rfl) trivial (s_X9_cutOf (d + 3) o hv) ?_
      rintro _ _ ⟨rfl, rfl⟩
      clear hv
      obtain ⟨h3, h⟩ := ck_some h
      refine ci_T.step cb_X9_goes_12 (ci_sq rfl (ci_sq rfl (pe_if_lt h3))) ?_
      obtain ⟨j27, hj, h⟩ := jn_ex h
      have J27 : ∀ (l1 l2 : Int) (ρ : pm), j27 l1 l2 ρ = some rρ → ci_T yX9_goes cX9_goes 4 none (d + 4) 27 ([(0, .ref 63), (1, .int (Int32.ofInt l1)), (2, .int (Int32.ofInt l2))], [], pk false ρ o) (pV false rρ o) := by
        intro l1 l2 ρ h
        subst hj
        replace h := jn_some h
        refine ci_T.step cb_X9_goes_27 (ci_sq (pe_inc rfl) rfl) ?_
        exact ci_T.sub [1, 2, 0] (ih _ _ _ h) rfl
      clear hj
      refine pbr h (fun hc h => ?_) (fun hc h => ?_)
      · exact ci_T.sub [1, 2, 3] (J27 _ _ _ h) rfl
      · obtain ⟨h5, h⟩ := ck_some h
        replace h := jn_some h
        refine ci_T.step cb_X9_goes_17 (ci_sq rfl (ci_sq (pe_getR tq_62 rfl rfl) (ci_sq rfl (ci_sq rfl (ci_sq (pe_ald (nI := 168) tq_63 rfl rfl h5) (ci_sq (pe_push pc_3) (ci_sq pe_isub (pe_ast (nI := 168) tq_63 rfl rfl h5 rfl)))))))) ?_
        exact ci_T.sub [1, 2, 3] (J27 _ _ _ h) rfl
set_option maxRecDepth 100000 in
theorem s_X9_goes (d : Nat)   {ρ : pm} (o : pm) {l1 : Int} {rρ : pm} (h : f_X9_goes l1 ρ = some rρ) : ci_Met (d + 4) (yX9_goes, cX9_goes, 4, none, [], 0, 0) [.ref 63, .int (Int32.ofInt l1)] (pk false ρ o) (pV false rρ o) := by
  refine ci_met (by decide) (Nat.le_of_ble_eq_true rfl) ?_ ?_
  · rintro v w' ⟨rfl, rfl⟩
    trivial
  · change ci_T _ _ _ _ _ _ ([(0, .ref 63), (1, .int (Int32.ofInt l1))], [], pk false ρ o) _
    unfold f_X9_goes at h
    refine ci_T.step cb_X9_goes_0 (ci_sq (pe_push pc_0) rfl) ?_
    refine ci_T.sub [1, 2, 0] (t_X9_goes_2 ?_ fu _ _ _ h) rfl
    · intro ρ h
      refine ci_T.step cb_X9_goes_33 rfl ?_
      obtain ⟨ρ7, hv, h⟩ := bn_some h
      refine ci_T.call (as := [_]) (rest := []) kc_X9_silts ki_X9_silts (by decide) cl_X9_goes_34 rfl (Nat.le_of_ble_eq_true rfl) ⟨⟨_, rfl⟩, _, _, _, rfl, pk_obj tq_62 rfl _ _⟩ (s_X9_silts d o hv) ?_
      rintro _ _ ⟨rfl, rfl⟩
      clear hv
      cases h
      exact ci_T.done (v := none) cd_X9_goes_37 ⟨rfl, rfl⟩
/-- X9_isYear -/
def f_X9_isYear (l0 : Int) : Option Int := ck (inR l0) ((f_X9_in l0 0 17575).bind (fun v2 => some v2))
set_option maxRecDepth 100000 in
theorem s_X9_isYear (d : Nat)   {ρ : pm} (o : pm) {l0 : Int} {rv : Int} (h : f_X9_isYear l0 = some rv) : ci_Met (d + 1) (yX9_isYear, cX9_isYear, 1, (some .boolean), [], 0, 0) [.int (Int32.ofInt l0)] (pk false ρ o) (pZ false rv ρ o) := by
  refine ci_met (by decide) (Nat.le_of_ble_eq_true rfl) ?_ ?_
  · rintro v w' ⟨⟨rfl, rfl⟩, hz⟩
    exact Z_of hz
  · change ci_T _ _ _ _ _ _ ([(0, .int (Int32.ofInt l0))], [], pk false ρ o) _
    unfold f_X9_isYear at h
    obtain ⟨h1, h⟩ := ck_some h
    refine ci_T.step cb_X9_isYear_0 (ci_sq rfl (ci_sq (pe_i2l h1) (ci_sq (pe_pushl pcl_0) (pe_pushl pcl_17575)))) ?_
    obtain ⟨v2, hv, h⟩ := bn_some h
    refine ci_T.call (as := [_, _, _]) (rest := []) kc_X9_in ki_X9_in (by decide) cl_X9_isYear_6 rfl (Nat.le_of_ble_eq_true rfl) trivial (s_X9_in d o hv) ?_
    rintro _ _ ⟨⟨rfl, rfl⟩, hz3⟩
    clear hv
    cases h
    exact ci_T.done (v := some (.int _)) cd_X9_isYear_9 ⟨⟨rfl, rfl⟩, hz3⟩
/-- X9_year -/
def f_X9_year (l1 : Int) (ρ : pm) : Option (Int × pm) := (f_X9_isYear l1).bind (fun v1 => if v1 = 0 then some ((-1), ρ) else bn2 (f_X9_canBe l1 ρ) (fun v3 ρ4 => if v3 = 0 then some ((-2), ρ4) else ck (inR (ρ4 63 31)) (if (ρ4 63 31) = 999 then some ((-3), ρ4) else (f_X9_goes l1 ρ4).bind (fun ρ7 => jn (pup ρ7 63 31 ((ρ7 63 31) + 1)) (fun ρ8 => (f_X9_findBed ρ8).bind (fun ρ9 => some (ρ9 62 31, ρ9)))))))
set_option maxRecDepth 100000 in
theorem s_X9_year (d : Nat)   {ρ : pm} (o : pm) {l1 : Int} {rv : Int} {rρ : pm} (h : f_X9_year l1 ρ = some (rv, rρ)) : ci_Met (d + 7) (yX9_year, cX9_year, 2, (some .int), [], 0, 0) [.ref 63, .int (Int32.ofInt l1)] (pk false ρ o) (pP false rv rρ o) := by
  refine ci_met (by decide) (Nat.le_of_ble_eq_true rfl) ?_ ?_
  · rintro v w' ⟨rfl, rfl⟩
    trivial
  · change ci_T _ _ _ _ _ _ ([(0, .ref 63), (1, .int (Int32.ofInt l1))], [], pk false ρ o) _
    unfold f_X9_year at h
    refine ci_T.step cb_X9_year_0 rfl ?_
    obtain ⟨v1, hv, h⟩ := bn_some h
    refine ci_T.call (as := [_]) (rest := []) kc_X9_isYear ki_X9_isYear (by decide) cl_X9_year_1 rfl (Nat.le_of_ble_eq_true rfl) trivial (s_X9_isYear (d + 5) o hv) ?_
    rintro _ _ ⟨⟨rfl, rfl⟩, hz2⟩
    clear hv
    refine ci_T.step cb_X9_year_4 (pe_if_ne (Z_R hz2)) ?_
    refine pbrn h (fun hc h => ?_) (fun hc h => ?_)
    · refine ci_T.step cb_X9_year_9 (ci_sq rfl rfl) ?_
      obtain ⟨v3, ρ4, hv, h⟩ := bn2_some h
      refine ci_T.call (as := [_, _]) (rest := []) kc_X9_canBe ki_X9_canBe (by decide) cl_X9_year_11 rfl (Nat.le_of_ble_eq_true rfl) ⟨⟨_, rfl⟩, _, _, _, rfl, pk_obj tq_62 rfl _ _⟩ (s_X9_canBe d o hv) ?_
      rintro _ _ ⟨⟨rfl, rfl⟩, hz5⟩
      clear hv
      refine ci_T.step cb_X9_year_14 (pe_if_ne (Z_R hz5)) ?_
      refine pbrn h (fun hc h => ?_) (fun hc h => ?_)
      · obtain ⟨h6, h⟩ := ck_some h
        refine ci_T.step cb_X9_year_20 (ci_sq rfl (ci_sq (pe_getR tq_62 rfl rfl) (ci_sq (pe_push pc_31) (ci_sq (pe_ald (nI := 168) tq_63 rfl rfl ⟨by decide, by decide⟩) (ci_sq (pe_push pc_999) (pe_ic_ne h6 pR_999)))))) ?_
        refine pbrn h (fun hc h => ?_) (fun hc h => ?_)
        · refine ci_T.step cb_X9_year_36 (ci_sq rfl rfl) ?_
          obtain ⟨ρ7, hv, h⟩ := bn_some h
          refine ci_T.call (as := [_, _]) (rest := []) kc_X9_goes ki_X9_goes (by decide) cl_X9_year_38 rfl (Nat.le_of_ble_eq_true rfl) ⟨⟨_, rfl⟩, _, _, _, rfl, pk_obj tq_62 rfl _ _⟩ (s_X9_goes (d + 2) o hv) ?_
          rintro _ _ ⟨rfl, rfl⟩
          clear hv
          replace h := jn_some h
          refine ci_T.step cb_X9_year_41 (ci_sq rfl (ci_sq (pe_getR tq_62 rfl rfl) (ci_sq (pe_push pc_31) (ci_sq rfl (ci_sq (pe_ald (nI := 168) tq_63 rfl rfl ⟨by decide, by decide⟩) (ci_sq (pe_push pc_1) (ci_sq pe_iadd (ci_sq (pe_ast (nI := 168) tq_63 rfl rfl ⟨by decide, by decide⟩ rfl) rfl)))))))) ?_
          obtain ⟨ρ9, hv, h⟩ := bn_some h
          refine ci_T.call (as := [_]) (rest := []) kc_X9_findBed ki_X9_findBed (by decide) cl_X9_year_53 rfl (Nat.le_of_ble_eq_true rfl) ⟨⟨_, rfl⟩, _, _, _, rfl, pk_obj tq_62 rfl _ _⟩ (s_X9_findBed (d + 4) o hv) ?_
          rintro _ _ ⟨rfl, rfl⟩
          clear hv
          refine ci_T.step cb_X9_year_56 (ci_sq rfl (pe_getI (kI := 31) tq_62 rfl rfl rfl)) ?_
          cases h
          exact ci_T.done (v := some (.int _)) cd_X9_year_60 ⟨rfl, rfl⟩
        · refine ci_T.step cb_X9_year_33 (pe_push pc_m3) ?_
          cases h
          exact ci_T.done (v := some (.int _)) cd_X9_year_35 ⟨rfl, rfl⟩
      · refine ci_T.step cb_X9_year_17 (pe_push pc_m2) ?_
        cases h
        exact ci_T.done (v := some (.int _)) cd_X9_year_19 ⟨rfl, rfl⟩
    · refine ci_T.step cb_X9_year_7 (pe_push pc_m1) ?_
      cases h
      exact ci_T.done (v := some (.int _)) cd_X9_year_8 ⟨rfl, rfl⟩
/-- X9_hasBy -/
def f_X9_hasBy (l1 l2 : Int) (ρ : pm) : Option (Int × pm) := (f_X9_marks ρ).bind (fun ρ1 => (f_X9_goes l1 ρ1).bind (fun ρ2 => bn2 (f_X9_hasNow l2 ρ2) (fun v3 ρ4 => (f_X9_returns ρ4).bind (fun ρ5 => some (v3, ρ5)))))
set_option maxRecDepth 100000 in
theorem s_X9_hasBy (d : Nat)   {ρ : pm} (o : pm) {l1 l2 : Int} {rv : Int} {rρ : pm} (h : f_X9_hasBy l1 l2 ρ = some (rv, rρ)) : ci_Met (d + 5) (yX9_hasBy, cX9_hasBy, 4, (some .int), [], 0, 0) [.ref 63, .int (Int32.ofInt l1), .int (Int32.ofInt l2)] (pk false ρ o) (pP false rv rρ o) := by
  refine ci_met (by decide) (Nat.le_of_ble_eq_true rfl) ?_ ?_
  · rintro v w' ⟨rfl, rfl⟩
    trivial
  · change ci_T _ _ _ _ _ _ ([(0, .ref 63), (1, .int (Int32.ofInt l1)), (2, .int (Int32.ofInt l2))], [], pk false ρ o) _
    unfold f_X9_hasBy at h
    refine ci_T.step cb_X9_hasBy_0 rfl ?_
    obtain ⟨ρ1, hv, h⟩ := bn_some h
    refine ci_T.call (as := [_]) (rest := []) kc_X9_marks ki_X9_marks (by decide) cl_X9_hasBy_1 rfl (Nat.le_of_ble_eq_true rfl) ⟨⟨_, rfl⟩, _, _, _, rfl, pk_obj tq_62 rfl _ _⟩ (s_X9_marks (d + 4) o hv) ?_
    rintro _ _ ⟨rfl, rfl⟩
    clear hv
    refine ci_T.step cb_X9_hasBy_4 (ci_sq rfl rfl) ?_
    obtain ⟨ρ2, hv, h⟩ := bn_some h
    refine ci_T.call (as := [_, _]) (rest := []) kc_X9_goes ki_X9_goes (by decide) cl_X9_hasBy_6 rfl (Nat.le_of_ble_eq_true rfl) ⟨⟨_, rfl⟩, _, _, _, rfl, pk_obj tq_62 rfl _ _⟩ (s_X9_goes d o hv) ?_
    rintro _ _ ⟨rfl, rfl⟩
    clear hv
    refine ci_T.step cb_X9_hasBy_9 (ci_sq rfl rfl) ?_
    obtain ⟨v3, ρ4, hv, h⟩ := bn2_some h
    refine ci_T.call (as := [_, _]) (rest := []) kc_X9_hasNow ki_X9_hasNow (by decide) cl_X9_hasBy_11 rfl (Nat.le_of_ble_eq_true rfl) ⟨⟨_, rfl⟩, _, _, _, rfl, pk_obj tq_62 rfl _ _⟩ (s_X9_hasNow d o hv) ?_
    rintro _ _ ⟨rfl, rfl⟩
    clear hv
    refine ci_T.step cb_X9_hasBy_14 (ci_sq rfl rfl) ?_
    obtain ⟨ρ5, hv, h⟩ := bn_some h
    refine ci_T.call (as := [_]) (rest := []) kc_X9_returns ki_X9_returns (by decide) cl_X9_hasBy_16 rfl (Nat.le_of_ble_eq_true rfl) ⟨⟨_, rfl⟩, _, _, _, rfl, pk_obj tq_62 rfl _ _⟩ (s_X9_returns (d + 4) o hv) ?_
    rintro _ _ ⟨rfl, rfl⟩
    clear hv
    refine ci_T.step cb_X9_hasBy_19 rfl ?_
    cases h
    exact ci_T.done (v := some (.int _)) cd_X9_hasBy_20 ⟨rfl, rfl⟩
/-- X9_bedBy -/
def f_X9_bedBy (l1 : Int) (ρ : pm) : Option (Int × pm) := (f_X9_marks ρ).bind (fun ρ1 => (f_X9_goes l1 ρ1).bind (fun ρ2 => bn2 (f_X9_bedNow ρ2) (fun v3 ρ4 => (f_X9_returns ρ4).bind (fun ρ5 => some (v3, ρ5)))))
set_option maxRecDepth 100000 in
theorem s_X9_bedBy (d : Nat)   {ρ : pm} (o : pm) {l1 : Int} {rv : Int} {rρ : pm} (h : f_X9_bedBy l1 ρ = some (rv, rρ)) : ci_Met (d + 5) (yX9_bedBy, cX9_bedBy, 3, (some .int), [], 0, 0) [.ref 63, .int (Int32.ofInt l1)] (pk false ρ o) (pP false rv rρ o) := by
  refine ci_met (by decide) (Nat.le_of_ble_eq_true rfl) ?_ ?_
  · rintro v w' ⟨rfl, rfl⟩
    trivial
  · change ci_T _ _ _ _ _ _ ([(0, .ref 63), (1, .int (Int32.ofInt l1))], [], pk false ρ o) _
    unfold f_X9_bedBy at h
    refine ci_T.step cb_X9_bedBy_0 rfl ?_
    obtain ⟨ρ1, hv, h⟩ := bn_some h
    refine ci_T.call (as := [_]) (rest := []) kc_X9_marks ki_X9_marks (by decide) cl_X9_bedBy_1 rfl (Nat.le_of_ble_eq_true rfl) ⟨⟨_, rfl⟩, _, _, _, rfl, pk_obj tq_62 rfl _ _⟩ (s_X9_marks (d + 4) o hv) ?_
    rintro _ _ ⟨rfl, rfl⟩
    clear hv
    refine ci_T.step cb_X9_bedBy_4 (ci_sq rfl rfl) ?_
    obtain ⟨ρ2, hv, h⟩ := bn_some h
    refine ci_T.call (as := [_, _]) (rest := []) kc_X9_goes ki_X9_goes (by decide) cl_X9_bedBy_6 rfl (Nat.le_of_ble_eq_true rfl) ⟨⟨_, rfl⟩, _, _, _, rfl, pk_obj tq_62 rfl _ _⟩ (s_X9_goes d o hv) ?_
    rintro _ _ ⟨rfl, rfl⟩
    clear hv
    refine ci_T.step cb_X9_bedBy_9 rfl ?_
    obtain ⟨v3, ρ4, hv, h⟩ := bn2_some h
    refine ci_T.call (as := [_]) (rest := []) kc_X9_bedNow ki_X9_bedNow (by decide) cl_X9_bedBy_10 rfl (Nat.le_of_ble_eq_true rfl) ⟨⟨_, rfl⟩, _, _, _, rfl, pk_obj tq_62 rfl _ _⟩ (s_X9_bedNow (d + 1) o hv) ?_
    rintro _ _ ⟨rfl, rfl⟩
    clear hv
    refine ci_T.step cb_X9_bedBy_13 (ci_sq rfl rfl) ?_
    obtain ⟨ρ5, hv, h⟩ := bn_some h
    refine ci_T.call (as := [_]) (rest := []) kc_X9_returns ki_X9_returns (by decide) cl_X9_bedBy_15 rfl (Nat.le_of_ble_eq_true rfl) ⟨⟨_, rfl⟩, _, _, _, rfl, pk_obj tq_62 rfl _ _⟩ (s_X9_returns (d + 4) o hv) ?_
    rintro _ _ ⟨rfl, rfl⟩
    clear hv
    refine ci_T.step cb_X9_bedBy_18 rfl ?_
    cases h
    exact ci_T.done (v := some (.int _)) cd_X9_bedBy_19 ⟨rfl, rfl⟩
/-- X9_would -/
def f_X9_would (l1 l2 : Int) (ρ : pm) : Option (Int × pm) := (f_X9_isYear l1).bind (fun v1 => if v1 = 0 then some ((-1), ρ) else (f_X9_isFarm l2 ρ).bind (fun v3 => if v3 = 0 then some ((-1), ρ) else bn2 (f_X9_canBe l1 ρ) (fun v5 ρ6 => if v5 = 0 then some ((-2), ρ6) else bn2 (f_X9_hasBy l1 l2 ρ6) (fun v8 ρ9 => some (v8, ρ9)))))
set_option maxRecDepth 100000 in
theorem s_X9_would (d : Nat)   {ρ : pm} (o : pm) {l1 l2 : Int} {rv : Int} {rρ : pm} (h : f_X9_would l1 l2 ρ = some (rv, rρ)) : ci_Met (d + 7) (yX9_would, cX9_would, 3, (some .int), [], 0, 0) [.ref 63, .int (Int32.ofInt l1), .int (Int32.ofInt l2)] (pk false ρ o) (pP false rv rρ o) := by
  refine ci_met (by decide) (Nat.le_of_ble_eq_true rfl) ?_ ?_
  · rintro v w' ⟨rfl, rfl⟩
    trivial
  · change ci_T _ _ _ _ _ _ ([(0, .ref 63), (1, .int (Int32.ofInt l1)), (2, .int (Int32.ofInt l2))], [], pk false ρ o) _
    unfold f_X9_would at h
    refine ci_T.step cb_X9_would_0 rfl ?_
    obtain ⟨v1, hv, h⟩ := bn_some h
    refine ci_T.call (as := [_]) (rest := []) kc_X9_isYear ki_X9_isYear (by decide) cl_X9_would_1 rfl (Nat.le_of_ble_eq_true rfl) trivial (s_X9_isYear (d + 5) o hv) ?_
    rintro _ _ ⟨⟨rfl, rfl⟩, hz2⟩
    clear hv
    refine ci_T.step cb_X9_would_4 (pe_if_eq (Z_R hz2)) ?_
    refine pbr h (fun hc h => ?_) (fun hc h => ?_)
    · refine ci_T.step cb_X9_would_15 (pe_push pc_m1) ?_
      cases h
      exact ci_T.done (v := some (.int _)) cd_X9_would_16 ⟨rfl, rfl⟩
    · refine ci_T.step cb_X9_would_7 (ci_sq rfl rfl) ?_
      obtain ⟨v3, hv, h⟩ := bn_some h
      refine ci_T.call (as := [_, _]) (rest := []) kc_X9_isFarm ki_X9_isFarm (by decide) cl_X9_would_9 rfl (Nat.le_of_ble_eq_true rfl) ⟨⟨_, rfl⟩, _, _, _, rfl, pk_obj tq_62 rfl _ _⟩ (s_X9_isFarm (d + 5) o hv) ?_
      rintro _ _ ⟨⟨rfl, rfl⟩, hz4⟩
      clear hv
      refine ci_T.step cb_X9_would_12 (pe_if_ne (Z_R hz4)) ?_
      refine pbrn h (fun hc h => ?_) (fun hc h => ?_)
      · refine ci_T.step cb_X9_would_17 (ci_sq rfl rfl) ?_
        obtain ⟨v5, ρ6, hv, h⟩ := bn2_some h
        refine ci_T.call (as := [_, _]) (rest := []) kc_X9_canBe ki_X9_canBe (by decide) cl_X9_would_19 rfl (Nat.le_of_ble_eq_true rfl) ⟨⟨_, rfl⟩, _, _, _, rfl, pk_obj tq_62 rfl _ _⟩ (s_X9_canBe d o hv) ?_
        rintro _ _ ⟨⟨rfl, rfl⟩, hz7⟩
        clear hv
        refine ci_T.step cb_X9_would_22 (pe_if_eq (Z_R hz7)) ?_
        refine pbr h (fun hc h => ?_) (fun hc h => ?_)
        · refine ci_T.step cb_X9_would_34 (pe_push pc_m2) ?_
          cases h
          exact ci_T.done (v := some (.int _)) cd_X9_would_36 ⟨rfl, rfl⟩
        · refine ci_T.step cb_X9_would_25 (ci_sq rfl (ci_sq rfl rfl)) ?_
          obtain ⟨v8, ρ9, hv, h⟩ := bn2_some h
          refine ci_T.call (as := [_, _, _]) (rest := []) kc_X9_hasBy ki_X9_hasBy (by decide) cl_X9_would_28 rfl (Nat.le_of_ble_eq_true rfl) ⟨⟨_, rfl⟩, _, _, _, rfl, pk_obj tq_62 rfl _ _⟩ (s_X9_hasBy (d + 1) o hv) ?_
          rintro _ _ ⟨rfl, rfl⟩
          clear hv
          refine ci_T.step cb_X9_would_31 rfl ?_
          cases h
          exact ci_T.done (v := some (.int _)) cd_X9_would_36 ⟨rfl, rfl⟩
      · refine ci_T.step cb_X9_would_15 (pe_push pc_m1) ?_
        cases h
        exact ci_T.done (v := some (.int _)) cd_X9_would_16 ⟨rfl, rfl⟩
/-- X9_tell -/
def f_X9_tell (l1 : Int) (ρ : pm) : Option (Int × pm) := (f_X9_isYear l1).bind (fun v1 => if v1 = 0 then some ((-1), ρ) else ck (inR (ρ 63 32)) (if (ρ 63 32) = 6 then some ((-3), ρ) else ck (0 ≤ 33 + (ρ 63 32) ∧ 33 + (ρ 63 32) < 168) (jn (pup ρ 63 (33 + (ρ 63 32)) l1) (fun ρ5 => jn (pup ρ5 63 32 ((ρ5 63 32) + 1)) (fun ρ6 => some (ρ6 63 32, ρ6))))))
set_option maxRecDepth 100000 in
theorem s_X9_tell (d : Nat)   {ρ : pm} (o : pm) {l1 : Int} {rv : Int} {rρ : pm} (h : f_X9_tell l1 ρ = some (rv, rρ)) : ci_Met (d + 2) (yX9_tell, cX9_tell, 2, (some .int), [], 0, 0) [.ref 63, .int (Int32.ofInt l1)] (pk false ρ o) (pP false rv rρ o) := by
  refine ci_met (by decide) (Nat.le_of_ble_eq_true rfl) ?_ ?_
  · rintro v w' ⟨rfl, rfl⟩
    trivial
  · change ci_T _ _ _ _ _ _ ([(0, .ref 63), (1, .int (Int32.ofInt l1))], [], pk false ρ o) _
    unfold f_X9_tell at h
    refine ci_T.step cb_X9_tell_0 rfl ?_
    obtain ⟨v1, hv, h⟩ := bn_some h
    refine ci_T.call (as := [_]) (rest := []) kc_X9_isYear ki_X9_isYear (by decide) cl_X9_tell_1 rfl (Nat.le_of_ble_eq_true rfl) trivial (s_X9_isYear d o hv) ?_
    rintro _ _ ⟨⟨rfl, rfl⟩, hz2⟩
    clear hv
    refine ci_T.step cb_X9_tell_4 (pe_if_ne (Z_R hz2)) ?_
    refine pbrn h (fun hc h => ?_) (fun hc h => ?_)
    · obtain ⟨h3, h⟩ := ck_some h
      refine ci_T.step cb_X9_tell_9 (ci_sq rfl (ci_sq (pe_getR tq_62 rfl rfl) (ci_sq (pe_push pc_32) (ci_sq (pe_ald (nI := 168) tq_63 rfl rfl ⟨by decide, by decide⟩) (ci_sq (pe_push pc_6) (pe_ic_ne h3 pR_6)))))) ?_
      refine pbrn h (fun hc h => ?_) (fun hc h => ?_)
      · obtain ⟨h4, h⟩ := ck_some h
        replace h := jn_some h
        replace h := jn_some h
        refine ci_T.step cb_X9_tell_24 (ci_sq rfl (ci_sq (pe_getR tq_62 rfl rfl) (ci_sq (pe_push pc_33) (ci_sq rfl (ci_sq (pe_getR tq_62 rfl rfl) (ci_sq (pe_push pc_32) (ci_sq (pe_ald (nI := 168) tq_63 rfl rfl ⟨by decide, by decide⟩) (ci_sq pe_iadd (ci_sq rfl (ci_sq (pe_ast (nI := 168) tq_63 rfl rfl h4 rfl) (ci_sq rfl (ci_sq (pe_getR tq_62 rfl rfl) (ci_sq (pe_push pc_32) (ci_sq rfl (ci_sq (pe_ald (nI := 168) tq_63 rfl rfl ⟨by decide, by decide⟩) (ci_sq (pe_push pc_1) (ci_sq pe_iadd (ci_sq (pe_ast (nI := 168) tq_63 rfl rfl ⟨by decide, by decide⟩ rfl) (ci_sq rfl (ci_sq (pe_getR tq_62 rfl rfl) (ci_sq (pe_push pc_32) (pe_ald (nI := 168) tq_63 rfl rfl ⟨by decide, by decide⟩)))))))))))))))))))))) ?_
        cases h
        exact ci_T.done (v := some (.int _)) cd_X9_tell_58 ⟨rfl, rfl⟩
      · refine ci_T.step cb_X9_tell_21 (pe_push pc_m3) ?_
        cases h
        exact ci_T.done (v := some (.int _)) cd_X9_tell_23 ⟨rfl, rfl⟩
    · refine ci_T.step cb_X9_tell_7 (pe_push pc_m1) ?_
      cases h
      exact ci_T.done (v := some (.int _)) cd_X9_tell_8 ⟨rfl, rfl⟩
/-- X9_drop -/
def f_X9_drop (l1 : Int) (ρ : pm) : Option (Int × pm) := ck (inR l1) (ck (inR (ρ 63 32)) ((f_X9_in l1 0 (ρ 63 32)).bind (fun v3 => if v3 = 0 then some ((-1), ρ) else jn (ρ 63 32) (fun x5 => jn (pup ρ 63 32 l1) (fun ρ6 => some (x5, ρ6))))))
set_option maxRecDepth 100000 in
theorem s_X9_drop (d : Nat)   {ρ : pm} (o : pm) {l1 : Int} {rv : Int} {rρ : pm} (h : f_X9_drop l1 ρ = some (rv, rρ)) : ci_Met (d + 1) (yX9_drop, cX9_drop, 3, (some .int), [], 0, 0) [.ref 63, .int (Int32.ofInt l1)] (pk false ρ o) (pP false rv rρ o) := by
  refine ci_met (by decide) (Nat.le_of_ble_eq_true rfl) ?_ ?_
  · rintro v w' ⟨rfl, rfl⟩
    trivial
  · change ci_T _ _ _ _ _ _ ([(0, .ref 63), (1, .int (Int32.ofInt l1))], [], pk false ρ o) _
    unfold f_X9_drop at h
    obtain ⟨h1, h⟩ := ck_some h
    obtain ⟨h2, h⟩ := ck_some h
    refine ci_T.step cb_X9_drop_0 (ci_sq rfl (ci_sq (pe_i2l h1) (ci_sq (pe_pushl pcl_0) (ci_sq rfl (ci_sq (pe_getR tq_62 rfl rfl) (ci_sq (pe_push pc_32) (ci_sq (pe_ald (nI := 168) tq_63 rfl rfl ⟨by decide, by decide⟩) (pe_i2l h2)))))))) ?_
    obtain ⟨v3, hv, h⟩ := bn_some h
    refine ci_T.call (as := [_, _, _]) (rest := []) kc_X9_in ki_X9_in (by decide) cl_X9_drop_11 rfl (Nat.le_of_ble_eq_true rfl) trivial (s_X9_in d o hv) ?_
    rintro _ _ ⟨⟨rfl, rfl⟩, hz4⟩
    clear hv
    refine ci_T.step cb_X9_drop_14 (pe_if_ne (Z_R hz4)) ?_
    refine pbrn h (fun hc h => ?_) (fun hc h => ?_)
    · replace h := jn_some h
      replace h := jn_some h
      refine ci_T.step cb_X9_drop_19 (ci_sq rfl (ci_sq (pe_getR tq_62 rfl rfl) (ci_sq (pe_push pc_32) (ci_sq (pe_ald (nI := 168) tq_63 rfl rfl ⟨by decide, by decide⟩) (ci_sq rfl (ci_sq rfl (ci_sq (pe_getR tq_62 rfl rfl) (ci_sq (pe_push pc_32) (ci_sq rfl (ci_sq (pe_ast (nI := 168) tq_63 rfl rfl ⟨by decide, by decide⟩ rfl) rfl)))))))))) ?_
      cases h
      exact ci_T.done (v := some (.int _)) cd_X9_drop_36 ⟨rfl, rfl⟩
    · refine ci_T.step cb_X9_drop_17 (pe_push pc_m1) ?_
      cases h
      exact ci_T.done (v := some (.int _)) cd_X9_drop_18 ⟨rfl, rfl⟩
/-- X9_judge -/
def L_X9_judge_14 (K38 : Int → pm → Option (Int × pm)) : Nat → Int → Int → pm → Option (Int × pm)
  | 0, _, _, _ => none
  | n + 1, l1, l2, ρ => ck (inR l2) (if 25 ≤ l2 then K38 l1 ρ else ck (0 ≤ l2 ∧ l2 < 168) (ck (0 ≤ l2 ∧ l2 < 25) (jn (pup ρ 73 l2 (ρ 63 l2)) (fun ρ7 => jn (l2 + 1) (fun x8 => L_X9_judge_14 K38 n l1 x8 ρ7)))))
def L_X9_judge_47 (K130 : Int → Int → Int → pm → Option (Int × pm)) : Nat → Int → Int → Int → Int → pm → Option (Int × pm)
  | 0, _, _, _, _, _ => none
  | n + 1, l1, l2, l3, l4, ρ => ck (inR l4) (ck (inR (ρ 63 32)) (if (ρ 63 32) ≤ l4 then K130 l1 l2 l3 ρ else ck (inR l2) (if l2 = (-4) then ck (0 ≤ 33 + l4 ∧ 33 + l4 < 168) (bn2 (f_X9_firstWrong (ρ 63 (33 + l4)) ρ) (fun v13 ρ14 => ck (inR v13) (jn (fun (l1 l2 l3 l4 : Int) (ρ : pm) => jn (l4 + 1) (fun x16 => L_X9_judge_47 K130 n l1 l2 l3 x16 ρ)) (fun j124 => if v13 = 3 then (f_X9_goes (ρ14 63 (33 + l4)) ρ14).bind (fun ρ18 => j124 l1 l2 l3 l4 ρ18) else ck (inR (ρ14 62 4)) (jn (fun (l1 l2 l4 s0 : Int) (ρ : pm) => j124 l1 l2 s0 l4 ρ) (fun j123 => if (ρ14 62 4) ≤ v13 then j123 l1 l4 l4 (-4) ρ14 else j123 l1 l4 l4 v13 ρ14)))))) else K130 l1 l2 l3 ρ)))
def L_X9_judge_133 (K160 : Int → Int → Int → pm → Option (Int × pm)) : Nat → Int → Int → Int → Int → pm → Option (Int × pm)
  | 0, _, _, _, _, _ => none
  | n + 1, l1, l2, l3, l4, ρ => ck (inR l4) (if 25 ≤ l4 then K160 l1 l2 l3 ρ else ck (0 ≤ l4 ∧ l4 < 25) (ck (0 ≤ l4 ∧ l4 < 168) (jn (pup ρ 63 l4 (ρ 73 l4)) (fun ρ22 => jn (l4 + 1) (fun x23 => L_X9_judge_133 K160 n l1 l2 l3 x23 ρ22)))))
def f_X9_judge (l1 : Int) (ρ : pm) : Option (Int × pm) := ck (inR l1) ((f_X9_in l1 0 1).bind (fun v2 => if v2 = 0 then some ((-1), ρ) else L_X9_judge_14 (fun (l1 : Int) (ρ : pm) => L_X9_judge_47 (fun (l1 l2 l3 : Int) (ρ : pm) => L_X9_judge_133 (fun (l1 l2 l3 : Int) (ρ : pm) => ck (inR l1) (if l1 = 0 then some (l2, ρ) else some (l3, ρ))) fu l1 l2 l3 0 ρ) fu l1 (-4) (-4) 0 ρ) fu l1 0 ρ))
set_option maxRecDepth 100000 in
theorem t_X9_judge_14 {d : Nat}    {o : pm} {rv : Int} {rρ : pm} {K38 : Int → pm → Option (Int × pm)} (hK38 : ∀ (l1 : Int) (ρ : pm), K38 l1 ρ = some (rv, rρ) → ci_T yX9_judge cX9_judge 6 (some .int) (d + 6) 38 ([(0, .ref 63), (1, .int (Int32.ofInt l1))], [], pk false ρ o) (pP false rv rρ o)) : ∀ (n : Nat) (l1 l2 : Int) (ρ : pm), L_X9_judge_14 K38 n l1 l2 ρ = some (rv, rρ) → ci_T yX9_judge cX9_judge 6 (some .int) (d + 6) 14 ([(0, .ref 63), (1, .int (Int32.ofInt l1)), (2, .int (Int32.ofInt l2))], [], pk false ρ o) (pP false rv rρ o) := by
  intro n
  induction n with
  | zero =>
    intro l1 l2 ρ h
    rw [L_X9_judge_14] at h
    cases h
  | succ n ih =>
    intro l1 l2 ρ h
    rw [L_X9_judge_14] at h
    obtain ⟨h4, h⟩ := ck_some h
    refine ci_T.step cb_X9_judge_14 (ci_sq rfl (ci_sq (pe_push pc_25) (pe_ic_ge h4 pR_25))) ?_
    refine pbr h (fun hc h => ?_) (fun hc h => ?_)
    · exact ci_T.sub [0, 1] (hK38 _ _ h) rfl
    · obtain ⟨h5, h⟩ := ck_some h
      obtain ⟨h6, h⟩ := ck_some h
      replace h := jn_some h
      replace h := jn_some h
      refine ci_T.step cb_X9_judge_20 (ci_sq rfl (ci_sq (pe_getR tq_62 rfl rfl) (ci_sq rfl (ci_sq rfl (ci_sq (pe_getR tq_62 rfl rfl) (ci_sq rfl (ci_sq (pe_ald (nI := 168) tq_63 rfl rfl h5) (ci_sq (pe_ast (nI := 25) tq_73 rfl rfl h6 rfl) (ci_sq (pe_inc rfl) rfl))))))))) ?_
      exact ci_T.sub [1, 2, 0] (ih _ _ _ h) rfl
set_option maxRecDepth 100000 in
theorem t_X9_judge_47 {d : Nat}    {o : pm} {rv : Int} {rρ : pm} {K130 : Int → Int → Int → pm → Option (Int × pm)} (hK130 : ∀ (l1 l2 l3 : Int) (ρ : pm), K130 l1 l2 l3 ρ = some (rv, rρ) → ci_T yX9_judge cX9_judge 6 (some .int) (d + 6) 130 ([(0, .ref 63), (1, .int (Int32.ofInt l1)), (2, .int (Int32.ofInt l2)), (3, .int (Int32.ofInt l3))], [], pk false ρ o) (pP false rv rρ o)) : ∀ (n : Nat) (l1 l2 l3 l4 : Int) (ρ : pm), L_X9_judge_47 K130 n l1 l2 l3 l4 ρ = some (rv, rρ) → ci_T yX9_judge cX9_judge 6 (some .int) (d + 6) 47 ([(0, .ref 63), (1, .int (Int32.ofInt l1)), (2, .int (Int32.ofInt l2)), (3, .int (Int32.ofInt l3)), (4, .int (Int32.ofInt l4))], [], pk false ρ o) (pP false rv rρ o) := by
  intro n
  induction n with
  | zero =>
    intro l1 l2 l3 l4 ρ h
    rw [L_X9_judge_47] at h
    cases h
  | succ n ih =>
    intro l1 l2 l3 l4 ρ h
    rw [L_X9_judge_47] at h
    obtain ⟨h9, h⟩ := ck_some h
    obtain ⟨h10, h⟩ := ck_some h
    refine ci_T.step cb_X9_judge_47 (ci_sq rfl (ci_sq rfl (ci_sq (pe_getR tq_62 rfl rfl) (ci_sq (pe_push pc_32) (ci_sq (pe_ald (nI := 168) tq_63 rfl rfl ⟨by decide, by decide⟩) (pe_ic_ge h9 h10)))))) ?_
    refine pbr h (fun hc h => ?_) (fun hc h => ?_)
    · exact ci_T.sub [0, 1, 2, 3] (hK130 _ _ _ _ h) rfl
    · obtain ⟨h11, h⟩ := ck_some h
      refine ci_T.step cb_X9_judge_59 (ci_sq rfl (ci_sq (pe_push pc_m4) (pe_ic_ne h11 pR_m4))) ?_
      refine pbrn h (fun hc h => ?_) (fun hc h => ?_)
      · exact ci_T.sub [0, 1, 2, 3] (hK130 _ _ _ _ h) rfl
      · obtain ⟨h12, h⟩ := ck_some h
        refine ci_T.step cb_X9_judge_65 (ci_sq rfl (ci_sq rfl (ci_sq (pe_getR tq_62 rfl rfl) (ci_sq (pe_push pc_33) (ci_sq rfl (ci_sq pe_iadd (pe_ald (nI := 168) tq_63 rfl rfl h12))))))) ?_
        obtain ⟨v13, ρ14, hv, h⟩ := bn2_some h
        refine ci_T.call (as := [_, _]) (rest := []) kc_X9_firstWrong ki_X9_firstWrong (by decide) cl_X9_judge_76 rfl (Nat.le_of_ble_eq_true rfl) ⟨⟨_, rfl⟩, _, _, _, rfl, pk_obj tq_62 rfl _ _⟩ (s_X9_firstWrong d o hv) ?_
        rintro _ _ ⟨rfl, rfl⟩
        clear hv
        obtain ⟨h15, h⟩ := ck_some h
        refine ci_T.step cb_X9_judge_79 (ci_sq rfl (ci_sq rfl (ci_sq (pe_push pc_3) (pe_ic_ne h15 pR_3)))) ?_
        obtain ⟨j124, hj, h⟩ := jn_ex h
        have J124 : ∀ (l1 l2 l3 l4 : Int) (ρ : pm), j124 l1 l2 l3 l4 ρ = some (rv, rρ) → ci_T yX9_judge cX9_judge 6 (some .int) (d + 6) 124 ([(0, .ref 63), (1, .int (Int32.ofInt l1)), (2, .int (Int32.ofInt l2)), (3, .int (Int32.ofInt l3)), (4, .int (Int32.ofInt l4))], [], pk false ρ o) (pP false rv rρ o) := by
          intro l1 l2 l3 l4 ρ h
          subst hj
          replace h := jn_some h
          refine ci_T.step cb_X9_judge_124 (ci_sq (pe_inc rfl) rfl) ?_
          exact ci_T.sub [1, 2, 3, 4, 0] (ih _ _ _ _ _ h) rfl
        clear hj
        refine pbrn h (fun hc h => ?_) (fun hc h => ?_)
        · obtain ⟨h17, h⟩ := ck_some h
          refine ci_T.step cb_X9_judge_104 (ci_sq rfl (ci_sq rfl (ci_sq rfl (ci_sq rfl (ci_sq (pe_getI (kI := 4) tq_62 rfl rfl rfl) (pe_ic_ge h15 h17)))))) ?_
          obtain ⟨j123, hj, h⟩ := jn_ex h
          have J123 : ∀ (l1 l2 l4 s0 : Int) (ρ : pm), j123 l1 l2 l4 s0 ρ = some (rv, rρ) → ci_T yX9_judge cX9_judge 6 (some .int) (d + 6) 123 ([(0, .ref 63), (1, .int (Int32.ofInt l1)), (2, .int (Int32.ofInt l2)), (4, .int (Int32.ofInt l4))], [.int (Int32.ofInt s0)], pk false ρ o) (pP false rv rρ o) := by
            intro l1 l2 l4 s0 ρ h
            subst hj
            refine ci_T.step cb_X9_judge_123 rfl ?_
            exact ci_T.sub [1, 2, 3, 0, 4] (J124 _ _ _ _ _ h) rfl
          clear hj
          refine pbr h (fun hc h => ?_) (fun hc h => ?_)
          · refine ci_T.step cb_X9_judge_121 (pe_push pc_m4) ?_
            exact ci_T.sub [2, 3, 0, 5] (J123 _ _ _ _ _ h) rfl
          · refine ci_T.step cb_X9_judge_116 (ci_sq rfl rfl) ?_
            exact ci_T.sub [2, 3, 0, 5] (J123 _ _ _ _ _ h) rfl
        · refine ci_T.step cb_X9_judge_87 (ci_sq rfl (ci_sq rfl (ci_sq (pe_getR tq_62 rfl rfl) (ci_sq (pe_push pc_33) (ci_sq rfl (ci_sq pe_iadd (pe_ald (nI := 168) tq_63 rfl rfl h12))))))) ?_
          obtain ⟨ρ18, hv, h⟩ := bn_some h
          refine ci_T.call (as := [_, _]) (rest := []) kc_X9_goes ki_X9_goes (by decide) cl_X9_judge_98 rfl (Nat.le_of_ble_eq_true rfl) ⟨⟨_, rfl⟩, _, _, _, rfl, pk_obj tq_62 rfl _ _⟩ (s_X9_goes (d + 1) o hv) ?_
          rintro _ _ ⟨rfl, rfl⟩
          clear hv
          refine ci_T.step cb_X9_judge_101 rfl ?_
          exact ci_T.sub [1, 2, 3, 4, 5] (J124 _ _ _ _ _ h) rfl
set_option maxRecDepth 100000 in
theorem t_X9_judge_133 {d : Nat}    {o : pm} {rv : Int} {rρ : pm} {K160 : Int → Int → Int → pm → Option (Int × pm)} (hK160 : ∀ (l1 l2 l3 : Int) (ρ : pm), K160 l1 l2 l3 ρ = some (rv, rρ) → ci_T yX9_judge cX9_judge 6 (some .int) (d + 6) 160 ([(1, .int (Int32.ofInt l1)), (2, .int (Int32.ofInt l2)), (3, .int (Int32.ofInt l3))], [], pk false ρ o) (pP false rv rρ o)) : ∀ (n : Nat) (l1 l2 l3 l4 : Int) (ρ : pm), L_X9_judge_133 K160 n l1 l2 l3 l4 ρ = some (rv, rρ) → ci_T yX9_judge cX9_judge 6 (some .int) (d + 6) 133 ([(0, .ref 63), (1, .int (Int32.ofInt l1)), (2, .int (Int32.ofInt l2)), (3, .int (Int32.ofInt l3)), (4, .int (Int32.ofInt l4))], [], pk false ρ o) (pP false rv rρ o) := by
  intro n
  induction n with
  | zero =>
    intro l1 l2 l3 l4 ρ h
    rw [L_X9_judge_133] at h
    cases h
  | succ n ih =>
    intro l1 l2 l3 l4 ρ h
    rw [L_X9_judge_133] at h
    obtain ⟨h19, h⟩ := ck_some h
    refine ci_T.step cb_X9_judge_133 (ci_sq rfl (ci_sq (pe_push pc_25) (pe_ic_ge h19 pR_25))) ?_
    refine pbr h (fun hc h => ?_) (fun hc h => ?_)
    · exact ci_T.sub [1, 2, 3] (hK160 _ _ _ _ h) rfl
    · obtain ⟨h20, h⟩ := ck_some h
      obtain ⟨h21, h⟩ := ck_some h
      replace h := jn_some h
      replace h := jn_some h
      refine ci_T.step cb_X9_judge_140 (ci_sq rfl (ci_sq (pe_getR tq_62 rfl rfl) (ci_sq rfl (ci_sq rfl (ci_sq (pe_getR tq_62 rfl rfl) (ci_sq rfl (ci_sq (pe_ald (nI := 25) tq_73 rfl rfl h20) (ci_sq (pe_ast (nI := 168) tq_63 rfl rfl h21 rfl) (ci_sq (pe_inc rfl) rfl))))))))) ?_
      exact ci_T.sub [1, 2, 3, 4, 0] (ih _ _ _ _ _ h) rfl
set_option maxRecDepth 100000 in
theorem s_X9_judge (d : Nat)   {ρ : pm} (o : pm) {l1 : Int} {rv : Int} {rρ : pm} (h : f_X9_judge l1 ρ = some (rv, rρ)) : ci_Met (d + 6) (yX9_judge, cX9_judge, 6, (some .int), [], 0, 0) [.ref 63, .int (Int32.ofInt l1)] (pk false ρ o) (pP false rv rρ o) := by
  refine ci_met (by decide) (Nat.le_of_ble_eq_true rfl) ?_ ?_
  · rintro v w' ⟨rfl, rfl⟩
    trivial
  · change ci_T _ _ _ _ _ _ ([(0, .ref 63), (1, .int (Int32.ofInt l1))], [], pk false ρ o) _
    unfold f_X9_judge at h
    obtain ⟨h1, h⟩ := ck_some h
    refine ci_T.step cb_X9_judge_0 (ci_sq rfl (ci_sq (pe_i2l h1) (ci_sq (pe_pushl pcl_0) (pe_pushl pcl_1)))) ?_
    obtain ⟨v2, hv, h⟩ := bn_some h
    refine ci_T.call (as := [_, _, _]) (rest := []) kc_X9_in ki_X9_in (by decide) cl_X9_judge_4 rfl (Nat.le_of_ble_eq_true rfl) trivial (s_X9_in (d + 5) o hv) ?_
    rintro _ _ ⟨⟨rfl, rfl⟩, hz3⟩
    clear hv
    refine ci_T.step cb_X9_judge_7 (pe_if_ne (Z_R hz3)) ?_
    refine pbrn h (fun hc h => ?_) (fun hc h => ?_)
    · refine ci_T.step cb_X9_judge_12 (ci_sq (pe_push pc_0) rfl) ?_
      refine ci_T.sub [1, 2, 0] (t_X9_judge_14 ?_ fu _ _ _ h) rfl
      · intro l1 ρ h
        refine ci_T.step cb_X9_judge_38 (ci_sq (pe_push pc_m4) (ci_sq rfl (ci_sq (pe_push pc_m4) (ci_sq rfl (ci_sq (pe_push pc_0) rfl))))) ?_
        refine ci_T.sub [3, 4, 2, 1, 0] (t_X9_judge_47 ?_ fu _ _ _ _ _ h) rfl
        · intro l1 l2 l3 ρ h
          refine ci_T.step cb_X9_judge_130 (ci_sq (pe_push pc_0) rfl) ?_
          refine ci_T.sub [1, 2, 3, 4, 0] (t_X9_judge_133 ?_ fu _ _ _ _ _ h) rfl
          · intro l1 l2 l3 ρ h
            obtain ⟨h24, h⟩ := ck_some h
            refine ci_T.step cb_X9_judge_160 (ci_sq rfl (pe_if_ne h24)) ?_
            refine pbrn h (fun hc h => ?_) (fun hc h => ?_)
            · refine ci_T.step cb_X9_judge_168 rfl ?_
              cases h
              exact ci_T.done (v := some (.int _)) cd_X9_judge_169 ⟨rfl, rfl⟩
            · refine ci_T.step cb_X9_judge_164 (ci_sq rfl rfl) ?_
              cases h
              exact ci_T.done (v := some (.int _)) cd_X9_judge_169 ⟨rfl, rfl⟩
    · refine ci_T.step cb_X9_judge_10 (pe_push pc_m1) ?_
      cases h
      exact ci_T.done (v := some (.int _)) cd_X9_judge_11 ⟨rfl, rfl⟩
