/-- X9_timesOf -/
def f_X9_timesOf (l0 : Int) : Option Int := ck (inR l0) (if l0 = 0 then some 1 else if l0 = 1 then some 26 else some 676)
set_option maxRecDepth 100000 in
theorem s_X9_timesOf (d : Nat)   {ρ : pm} (o : pm) {l0 : Int} {rv : Int} (h : f_X9_timesOf l0 = some rv) : ci_Met d (yX9_timesOf, cX9_timesOf, 1, (some .int), [], 0, 0) [.int (Int32.ofInt l0)] (pk false ρ o) (pP false rv ρ o) := by
  refine ci_met (by decide) (Nat.le_of_ble_eq_true rfl) ?_ ?_
  · rintro v w' ⟨rfl, rfl⟩
    trivial
  · change ci_T _ _ _ _ _ _ ([(0, .int (Int32.ofInt l0))], [], pk false ρ o) _
    unfold f_X9_timesOf at h
    obtain ⟨h1, h⟩ := ck_some h
    refine ci_T.step cb_X9_timesOf_0 (ci_sq rfl (pe_if_ne h1)) ?_
    refine pbrn h (fun hc h => ?_) (fun hc h => ?_)
    · refine ci_T.step cb_X9_timesOf_8 (ci_sq rfl (ci_sq (pe_push pc_1) (pe_ic_ne h1 pR_1))) ?_
      refine pbrn h (fun hc h => ?_) (fun hc h => ?_)
      · refine ci_T.step cb_X9_timesOf_18 (pe_push pc_676) ?_
        cases h
        exact ci_T.done (v := some (.int _)) cd_X9_timesOf_21 ⟨rfl, rfl⟩
      · refine ci_T.step cb_X9_timesOf_13 (ci_sq (pe_push pc_26) rfl) ?_
        cases h
        exact ci_T.done (v := some (.int _)) cd_X9_timesOf_21 ⟨rfl, rfl⟩
    · refine ci_T.step cb_X9_timesOf_4 (ci_sq (pe_push pc_1) rfl) ?_
      cases h
      exact ci_T.done (v := some (.int _)) cd_X9_timesOf_21 ⟨rfl, rfl⟩
/-- X9_findOptions -/
def L_X9_findOptions_44 (K106 : Int → pm → Option pm) : Nat → Int → Int → Int → pm → Option pm
  | 0, _, _, _, _ => none
  | n + 1, l1, l2, l3, ρ => ck (inR l3) (ck (inR ((ρ 62 2) * (ρ 62 3))) (if ((ρ 62 2) * (ρ 62 3)) ≤ l3 then K106 l1 ρ else jn (fun (l1 l2 l3 : Int) (ρ : pm) => jn (l3 + 1) (fun x9 => L_X9_findOptions_44 K106 n l1 l2 x9 ρ)) (fun j100 => if (band (bshr l2 l3) 1) = 1 then ck (0 ≤ l1 ∧ l1 < 3) ((f_X9_timesOf l1).bind (fun v11 => ck (0 ≤ (9 * l1) + (ρ 75 l1) ∧ (9 * l1) + (ρ 75 l1) < 27) (jn (pup ρ 74 ((9 * l1) + (ρ 75 l1)) (v11 * (l3 + 1))) (fun ρ13 => jn (pup ρ13 75 l1 ((ρ13 75 l1) + 1)) (fun ρ14 => j100 l1 l2 l3 ρ14))))) else j100 l1 l2 l3 ρ)))
def L_X9_findOptions_2  : Nat → Int → pm → Option pm
  | 0, _, _ => none
  | n + 1, l1, ρ => ck (inR l1) (if 3 ≤ l1 then some ρ else ck (inR (ρ 62 4)) (jn (fun (l1 s0 : Int) (ρ : pm) => ck (0 ≤ 9 * l1 ∧ 9 * l1 < 27) (jn (pup ρ 74 (9 * l1) 0) (fun ρ4 => ck (0 ≤ l1 ∧ l1 < 3) (jn (pup ρ4 75 l1 1) (fun ρ6 => L_X9_findOptions_44 (fun (l1 : Int) (ρ : pm) => jn (l1 + 1) (fun x15 => L_X9_findOptions_2 n x15 ρ)) fu l1 s0 0 ρ6))))) (fun j24 => if (ρ 62 4) ≤ l1 then j24 l1 0 ρ else bn2 (f_X9_mayCut l1 ρ) (fun v16 ρ17 => j24 l1 v16 ρ17))))
def f_X9_findOptions (ρ : pm) : Option pm := L_X9_findOptions_2 fu 0 ρ
set_option maxRecDepth 100000 in
theorem t_X9_findOptions_44 {d : Nat}    {o : pm} {rρ : pm} {K106 : Int → pm → Option pm} (hK106 : ∀ (l1 : Int) (ρ : pm), K106 l1 ρ = some rρ → ci_T yX9_findOptions cX9_findOptions 4 none (d + 5) 106 ([(0, .ref 63), (1, .int (Int32.ofInt l1))], [], pk false ρ o) (pV false rρ o)) : ∀ (n : Nat) (l1 l2 l3 : Int) (ρ : pm), L_X9_findOptions_44 K106 n l1 l2 l3 ρ = some rρ → ci_T yX9_findOptions cX9_findOptions 4 none (d + 5) 44 ([(0, .ref 63), (1, .int (Int32.ofInt l1)), (2, .int (Int32.ofInt l2)), (3, .int (Int32.ofInt l3))], [], pk false ρ o) (pV false rρ o) := by
  intro n
  induction n with
  | zero =>
    intro l1 l2 l3 ρ h
    rw [L_X9_findOptions_44] at h
    cases h
  | succ n ih =>
    intro l1 l2 l3 ρ h
    rw [L_X9_findOptions_44] at h
    obtain ⟨h7, h⟩ := ck_some h
    obtain ⟨h8, h⟩ := ck_some h
    refine ci_T.step cb_X9_findOptions_44 (ci_sq rfl (ci_sq rfl (ci_sq (pe_getI (kI := 2) tq_62 rfl rfl rfl) (ci_sq rfl (ci_sq (pe_getI (kI := 3) tq_62 rfl rfl rfl) (ci_sq pe_imul (pe_ic_ge h7 h8))))))) ?_
    refine pbr h (fun hc h => ?_) (fun hc h => ?_)
    · exact ci_T.sub [0, 1] (hK106 _ _ h) rfl
    · refine ci_T.step cb_X9_findOptions_57 (ci_sq rfl (ci_sq rfl (ci_sq pe_ishr (ci_sq (pe_push pc_1) (ci_sq pe_iand (ci_sq (pe_push pc_1) (pe_ic_ne (band_R _ _) pR_1))))))) ?_
      obtain ⟨j100, hj, h⟩ := jn_ex h
      have J100 : ∀ (l1 l2 l3 : Int) (ρ : pm), j100 l1 l2 l3 ρ = some rρ → ci_T yX9_findOptions cX9_findOptions 4 none (d + 5) 100 ([(0, .ref 63), (1, .int (Int32.ofInt l1)), (2, .int (Int32.ofInt l2)), (3, .int (Int32.ofInt l3))], [], pk false ρ o) (pV false rρ o) := by
        intro l1 l2 l3 ρ h
        subst hj
        replace h := jn_some h
        refine ci_T.step cb_X9_findOptions_100 (ci_sq (pe_inc rfl) rfl) ?_
        exact ci_T.sub [1, 2, 3, 0] (ih _ _ _ _ h) rfl
      clear hj
      refine pbrn h (fun hc h => ?_) (fun hc h => ?_)
      · exact ci_T.sub [0, 1, 2, 3] (J100 _ _ _ _ h) rfl
      · obtain ⟨h10, h⟩ := ck_some h
        refine ci_T.step cb_X9_findOptions_66 (ci_sq rfl (ci_sq (pe_getR tq_62 rfl rfl) (ci_sq (pe_push pc_9) (ci_sq rfl (ci_sq pe_imul (ci_sq rfl (ci_sq (pe_getR tq_62 rfl rfl) (ci_sq rfl (ci_sq (pe_ald (nI := 3) tq_75 rfl rfl h10) (ci_sq pe_iadd rfl)))))))))) ?_
        obtain ⟨v11, hv, h⟩ := bn_some h
        refine ci_T.call (as := [_]) (rest := [_, _]) kc_X9_timesOf ki_X9_timesOf (by decide) cl_X9_findOptions_82 rfl (Nat.le_of_ble_eq_true rfl) trivial (s_X9_timesOf (d + 4) o hv) ?_
        rintro _ _ ⟨rfl, rfl⟩
        clear hv
        obtain ⟨h12, h⟩ := ck_some h
        replace h := jn_some h
        replace h := jn_some h
        refine ci_T.step cb_X9_findOptions_85 (ci_sq rfl (ci_sq (pe_push pc_1) (ci_sq pe_iadd (ci_sq pe_imul (ci_sq (pe_ast (nI := 27) tq_74 rfl rfl h12 rfl) (ci_sq rfl (ci_sq (pe_getR tq_62 rfl rfl) (ci_sq rfl (ci_sq rfl (ci_sq (pe_ald (nI := 3) tq_75 rfl rfl h10) (ci_sq (pe_push pc_1) (ci_sq pe_iadd (pe_ast (nI := 3) tq_75 rfl rfl h10 rfl))))))))))))) ?_
        exact ci_T.sub [0, 1, 2, 3] (J100 _ _ _ _ h) rfl
set_option maxRecDepth 100000 in
theorem t_X9_findOptions_2 {d : Nat}    {o : pm} {rρ : pm}   : ∀ (n : Nat) (l1 : Int) (ρ : pm), L_X9_findOptions_2 n l1 ρ = some rρ → ci_T yX9_findOptions cX9_findOptions 4 none (d + 5) 2 ([(0, .ref 63), (1, .int (Int32.ofInt l1))], [], pk false ρ o) (pV false rρ o) := by
  intro n
  induction n with
  | zero =>
    intro l1 ρ h
    rw [L_X9_findOptions_2] at h
    cases h
  | succ n ih =>
    intro l1 ρ h
    rw [L_X9_findOptions_2] at h
    obtain ⟨h1, h⟩ := ck_some h
    refine ci_T.step cb_X9_findOptions_2 (ci_sq rfl (ci_sq (pe_push pc_3) (pe_ic_ge h1 pR_3))) ?_
    refine pbr h (fun hc h => ?_) (fun hc h => ?_)
    · cases h
      exact ci_T.done (v := none) cd_X9_findOptions_112 ⟨rfl, rfl⟩
    · obtain ⟨h2, h⟩ := ck_some h
      refine ci_T.step cb_X9_findOptions_7 (ci_sq rfl (ci_sq rfl (ci_sq (pe_getI (kI := 4) tq_62 rfl rfl rfl) (pe_ic_ge h1 h2)))) ?_
      obtain ⟨j24, hj, h⟩ := jn_ex h
      have J24 : ∀ (l1 s0 : Int) (ρ : pm), j24 l1 s0 ρ = some rρ → ci_T yX9_findOptions cX9_findOptions 4 none (d + 5) 24 ([(0, .ref 63), (1, .int (Int32.ofInt l1))], [.int (Int32.ofInt s0)], pk false ρ o) (pV false rρ o) := by
        intro l1 s0 ρ h
        subst hj
        obtain ⟨h3, h⟩ := ck_some h
        replace h := jn_some h
        obtain ⟨h5, h⟩ := ck_some h
        replace h := jn_some h
        refine ci_T.step cb_X9_findOptions_24 (ci_sq rfl (ci_sq rfl (ci_sq (pe_getR tq_62 rfl rfl) (ci_sq (pe_push pc_9) (ci_sq rfl (ci_sq pe_imul (ci_sq (pe_push pc_0) (ci_sq (pe_ast (nI := 27) tq_74 rfl rfl h3 rfl) (ci_sq rfl (ci_sq (pe_getR tq_62 rfl rfl) (ci_sq rfl (ci_sq (pe_push pc_1) (ci_sq (pe_ast (nI := 3) tq_75 rfl rfl h5 rfl) (ci_sq (pe_push pc_0) rfl)))))))))))))) ?_
        refine ci_T.sub [2, 3, 1, 0] (t_X9_findOptions_44 ?_ fu _ _ _ _ h) rfl
        · intro l1 ρ h
          replace h := jn_some h
          refine ci_T.step cb_X9_findOptions_106 (ci_sq (pe_inc rfl) rfl) ?_
          exact ci_T.sub [1, 0] (ih _ _ h) rfl
      clear hj
      refine pbr h (fun hc h => ?_) (fun hc h => ?_)
      · refine ci_T.step cb_X9_findOptions_23 (pe_push pc_0) ?_
        exact ci_T.sub [0, 1] (J24 _ _ _ h) rfl
      · refine ci_T.step cb_X9_findOptions_15 (ci_sq rfl rfl) ?_
        obtain ⟨v16, ρ17, hv, h⟩ := bn2_some h
        refine ci_T.call (as := [_, _]) (rest := []) kc_X9_mayCut ki_X9_mayCut (by decide) cl_X9_findOptions_17 rfl (Nat.le_of_ble_eq_true rfl) ⟨⟨_, rfl⟩, _, _, _, rfl, pk_obj tq_62 rfl _ _⟩ (s_X9_mayCut d o hv) ?_
        rintro _ _ ⟨rfl, rfl⟩
        clear hv
        refine ci_T.step cb_X9_findOptions_20 rfl ?_
        exact ci_T.sub [0, 1] (J24 _ _ _ h) rfl
set_option maxRecDepth 100000 in
theorem s_X9_findOptions (d : Nat)   {ρ : pm} (o : pm)  {rρ : pm} (h : f_X9_findOptions ρ = some rρ) : ci_Met (d + 5) (yX9_findOptions, cX9_findOptions, 4, none, [], 0, 0) [.ref 63] (pk false ρ o) (pV false rρ o) := by
  refine ci_met (by decide) (Nat.le_of_ble_eq_true rfl) ?_ ?_
  · rintro v w' ⟨rfl, rfl⟩
    trivial
  · change ci_T _ _ _ _ _ _ ([(0, .ref 63)], [], pk false ρ o) _
    unfold f_X9_findOptions at h
    refine ci_T.step cb_X9_findOptions_0 (ci_sq (pe_push pc_0) rfl) ?_
    exact ci_T.sub [1, 0] (t_X9_findOptions_2 fu _ _ h) rfl
/-- X9_allOptions -/
def f_X9_allOptions (ρ : pm) : Option Int := some (((ρ 75 0) * (ρ 75 1)) * (ρ 75 2))
set_option maxRecDepth 100000 in
theorem s_X9_allOptions (d : Nat)   {ρ : pm} (o : pm)  {rv : Int} (h : f_X9_allOptions ρ = some rv) : ci_Met d (yX9_allOptions, cX9_allOptions, 1, (some .int), [], 0, 0) [.ref 63] (pk false ρ o) (pP false rv ρ o) := by
  refine ci_met (by decide) (Nat.le_of_ble_eq_true rfl) ?_ ?_
  · rintro v w' ⟨rfl, rfl⟩
    trivial
  · change ci_T _ _ _ _ _ _ ([(0, .ref 63)], [], pk false ρ o) _
    unfold f_X9_allOptions at h
    refine ci_T.step cb_X9_allOptions_0 (ci_sq rfl (ci_sq (pe_getR tq_62 rfl rfl) (ci_sq (pe_push pc_0) (ci_sq (pe_ald (nI := 3) tq_75 rfl rfl ⟨by decide, by decide⟩) (ci_sq rfl (ci_sq (pe_getR tq_62 rfl rfl) (ci_sq (pe_push pc_1) (ci_sq (pe_ald (nI := 3) tq_75 rfl rfl ⟨by decide, by decide⟩) (ci_sq pe_imul (ci_sq rfl (ci_sq (pe_getR tq_62 rfl rfl) (ci_sq (pe_push pc_2) (ci_sq (pe_ald (nI := 3) tq_75 rfl rfl ⟨by decide, by decide⟩) pe_imul))))))))))))) ?_
    cases h
    exact ci_T.done (v := some (.int _)) cd_X9_allOptions_20 ⟨rfl, rfl⟩
/-- X9_yearOf -/
def f_X9_yearOf (l1 l2 l3 : Int) (ρ : pm) : Option Int := ck (0 ≤ l1 ∧ l1 < 27) (ck (0 ≤ 9 + l2 ∧ 9 + l2 < 27) (ck (0 ≤ 18 + l3 ∧ 18 + l3 < 27) (some (((ρ 74 l1) + (ρ 74 (9 + l2))) + (ρ 74 (18 + l3))))))
set_option maxRecDepth 100000 in
theorem s_X9_yearOf (d : Nat)   {ρ : pm} (o : pm) {l1 l2 l3 : Int} {rv : Int} (h : f_X9_yearOf l1 l2 l3 ρ = some rv) : ci_Met d (yX9_yearOf, cX9_yearOf, 4, (some .int), [], 0, 0) [.ref 63, .int (Int32.ofInt l1), .int (Int32.ofInt l2), .int (Int32.ofInt l3)] (pk false ρ o) (pP false rv ρ o) := by
  refine ci_met (by decide) (Nat.le_of_ble_eq_true rfl) ?_ ?_
  · rintro v w' ⟨rfl, rfl⟩
    trivial
  · change ci_T _ _ _ _ _ _ ([(0, .ref 63), (1, .int (Int32.ofInt l1)), (2, .int (Int32.ofInt l2)), (3, .int (Int32.ofInt l3))], [], pk false ρ o) _
    unfold f_X9_yearOf at h
    obtain ⟨h1, h⟩ := ck_some h
    obtain ⟨h2, h⟩ := ck_some h
    obtain ⟨h3, h⟩ := ck_some h
    refine ci_T.step cb_X9_yearOf_0 (ci_sq rfl (ci_sq (pe_getR tq_62 rfl rfl) (ci_sq rfl (ci_sq (pe_ald (nI := 27) tq_74 rfl rfl h1) (ci_sq rfl (ci_sq (pe_getR tq_62 rfl rfl) (ci_sq (pe_push pc_9) (ci_sq rfl (ci_sq pe_iadd (ci_sq (pe_ald (nI := 27) tq_74 rfl rfl h2) (ci_sq pe_iadd (ci_sq rfl (ci_sq (pe_getR tq_62 rfl rfl) (ci_sq (pe_push pc_18) (ci_sq rfl (ci_sq pe_iadd (ci_sq (pe_ald (nI := 27) tq_74 rfl rfl h3) pe_iadd))))))))))))))))) ?_
    cases h
    exact ci_T.done (v := some (.int _)) cd_X9_yearOf_26 ⟨rfl, rfl⟩
/-- X9_yearAt -/
def f_X9_yearAt (l1 : Int) (ρ : pm) : Option Int := ck (inR l1) (ck (inR (ρ 75 0)) (ck ((ρ 75 0) ≠ 0) (ck (inR (Int.tdiv l1 (ρ 75 0))) (ck (inR (ρ 75 1)) (ck ((ρ 75 1) ≠ 0) (ck (inR ((ρ 75 0) * (ρ 75 1))) (ck (((ρ 75 0) * (ρ 75 1)) ≠ 0) ((f_X9_yearOf (Int.tmod l1 (ρ 75 0)) (Int.tmod (Int.tdiv l1 (ρ 75 0)) (ρ 75 1)) (Int.tdiv l1 ((ρ 75 0) * (ρ 75 1))) ρ).bind (fun v9 => some v9)))))))))
set_option maxRecDepth 100000 in
theorem s_X9_yearAt (d : Nat)   {ρ : pm} (o : pm) {l1 : Int} {rv : Int} (h : f_X9_yearAt l1 ρ = some rv) : ci_Met (d + 1) (yX9_yearAt, cX9_yearAt, 2, (some .int), [], 0, 0) [.ref 63, .int (Int32.ofInt l1)] (pk false ρ o) (pP false rv ρ o) := by
  refine ci_met (by decide) (Nat.le_of_ble_eq_true rfl) ?_ ?_
  · rintro v w' ⟨rfl, rfl⟩
    trivial
  · change ci_T _ _ _ _ _ _ ([(0, .ref 63), (1, .int (Int32.ofInt l1))], [], pk false ρ o) _
    unfold f_X9_yearAt at h
    obtain ⟨h1, h⟩ := ck_some h
    obtain ⟨h2, h⟩ := ck_some h
    obtain ⟨h3, h⟩ := ck_some h
    obtain ⟨h4, h⟩ := ck_some h
    obtain ⟨h5, h⟩ := ck_some h
    obtain ⟨h6, h⟩ := ck_some h
    obtain ⟨h7, h⟩ := ck_some h
    obtain ⟨h8, h⟩ := ck_some h
    refine ci_T.step cb_X9_yearAt_0 (ci_sq rfl (ci_sq rfl (ci_sq rfl (ci_sq (pe_getR tq_62 rfl rfl) (ci_sq (pe_push pc_0) (ci_sq (pe_ald (nI := 3) tq_75 rfl rfl ⟨by decide, by decide⟩) (ci_sq (pe_irem ⟨h1, h2, h3⟩) (ci_sq rfl (ci_sq rfl (ci_sq (pe_getR tq_62 rfl rfl) (ci_sq (pe_push pc_0) (ci_sq (pe_ald (nI := 3) tq_75 rfl rfl ⟨by decide, by decide⟩) (ci_sq (pe_idiv ⟨h1, h2, h3⟩) (ci_sq rfl (ci_sq (pe_getR tq_62 rfl rfl) (ci_sq (pe_push pc_1) (ci_sq (pe_ald (nI := 3) tq_75 rfl rfl ⟨by decide, by decide⟩) (ci_sq (pe_irem ⟨h4, h5, h6⟩) (ci_sq rfl (ci_sq rfl (ci_sq (pe_getR tq_62 rfl rfl) (ci_sq (pe_push pc_0) (ci_sq (pe_ald (nI := 3) tq_75 rfl rfl ⟨by decide, by decide⟩) (ci_sq rfl (ci_sq (pe_getR tq_62 rfl rfl) (ci_sq (pe_push pc_1) (ci_sq (pe_ald (nI := 3) tq_75 rfl rfl ⟨by decide, by decide⟩) (ci_sq pe_imul (pe_idiv ⟨h1, h7, h8⟩))))))))))))))))))))))))))))) ?_
    obtain ⟨v9, hv, h⟩ := bn_some h
    refine ci_T.call (as := [_, _, _, _]) (rest := []) kc_X9_yearOf ki_X9_yearOf (by decide) cl_X9_yearAt_39 rfl (Nat.le_of_ble_eq_true rfl) ⟨⟨_, rfl⟩, _, _, _, rfl, pk_obj tq_62 rfl _ _⟩ (s_X9_yearOf d o hv) ?_
    rintro _ _ ⟨rfl, rfl⟩
    clear hv
    cases h
    exact ci_T.done (v := some (.int _)) cd_X9_yearAt_42 ⟨rfl, rfl⟩
/-- X9_enters -/
def L_X9_enters_2 (K31 : Int → Int → pm → Option pm) : Nat → Int → Int → Int → pm → Option pm
  | 0, _, _, _, _ => none
  | n + 1, l1, l2, l3, ρ => ck (inR l3) (if 25 ≤ l3 then K31 l1 l2 ρ else ck (0 ≤ l3 ∧ l3 < 168) (ck (0 ≤ (25 * l2) + l3 ∧ (25 * l2) + l3 < 100) (jn (pup ρ 76 ((25 * l2) + l3) (ρ 63 l3)) (fun ρ4 => jn (l3 + 1) (fun x5 => L_X9_enters_2 K31 n l1 l2 x5 ρ4)))))
def L_X9_enters_58  : Nat → Int → Int → Int → pm → Option pm
  | 0, _, _, _, _ => none
  | n + 1, l2, l3, l4, ρ => ck (inR l4) (ck (inR ((ρ 62 2) * (ρ 62 3))) (if ((ρ 62 2) * (ρ 62 3)) ≤ l4 then some ρ else jn (fun (l2 l3 l4 : Int) (ρ : pm) => jn (l4 + 1) (fun x14 => L_X9_enters_58 n l2 l3 x14 ρ)) (fun j110 => if (band (bshr l3 l4) 1) = 1 then ck (0 ≤ l2 ∧ l2 < 4) (ck (0 ≤ (9 * l2) + (ρ 79 l2) ∧ (9 * l2) + (ρ 79 l2) < 36) (jn (pup ρ 78 ((9 * l2) + (ρ 79 l2)) l4) (fun ρ17 => jn (pup ρ17 79 l2 ((ρ17 79 l2) + 1)) (fun ρ18 => j110 l2 l3 l4 ρ18)))) else j110 l2 l3 l4 ρ)))
def f_X9_enters (l1 l2 : Int) (ρ : pm) : Option pm := L_X9_enters_2 (fun (l1 l2 : Int) (ρ : pm) => bn2 (f_X9_mayCut l1 ρ) (fun v6 ρ7 => ck (0 ≤ 9 * l2 ∧ 9 * l2 < 36) (jn (pup ρ7 78 (9 * l2) 25) (fun ρ9 => ck (0 ≤ l2 ∧ l2 < 4) (jn (pup ρ9 79 l2 1) (fun ρ11 => L_X9_enters_58 fu l2 v6 0 ρ11)))))) fu l1 l2 0 ρ
set_option maxRecDepth 100000 in
theorem t_X9_enters_2 {d : Nat}    {o : pm} {rρ : pm} {K31 : Int → Int → pm → Option pm} (hK31 : ∀ (l1 l2 : Int) (ρ : pm), K31 l1 l2 ρ = some rρ → ci_T yX9_enters cX9_enters 5 none (d + 5) 31 ([(0, .ref 63), (1, .int (Int32.ofInt l1)), (2, .int (Int32.ofInt l2))], [], pk false ρ o) (pV false rρ o)) : ∀ (n : Nat) (l1 l2 l3 : Int) (ρ : pm), L_X9_enters_2 K31 n l1 l2 l3 ρ = some rρ → ci_T yX9_enters cX9_enters 5 none (d + 5) 2 ([(0, .ref 63), (1, .int (Int32.ofInt l1)), (2, .int (Int32.ofInt l2)), (3, .int (Int32.ofInt l3))], [], pk false ρ o) (pV false rρ o) := by
  intro n
  induction n with
  | zero =>
    intro l1 l2 l3 ρ h
    rw [L_X9_enters_2] at h
    cases h
  | succ n ih =>
    intro l1 l2 l3 ρ h
    rw [L_X9_enters_2] at h
    obtain ⟨h1, h⟩ := ck_some h
    refine ci_T.step cb_X9_enters_2 (ci_sq rfl (ci_sq (pe_push pc_25) (pe_ic_ge h1 pR_25))) ?_
    refine pbr h (fun hc h => ?_) (fun hc h => ?_)
    · exact ci_T.sub [0, 1, 2] (hK31 _ _ _ h) rfl
    · obtain ⟨h2, h⟩ := ck_some h
      obtain ⟨h3, h⟩ := ck_some h
      replace h := jn_some h
      replace h := jn_some h
      refine ci_T.step cb_X9_enters_8 (ci_sq rfl (ci_sq (pe_getR tq_62 rfl rfl) (ci_sq (pe_push pc_25) (ci_sq rfl (ci_sq pe_imul (ci_sq rfl (ci_sq pe_iadd (ci_sq rfl (ci_sq (pe_getR tq_62 rfl rfl) (ci_sq rfl (ci_sq (pe_ald (nI := 168) tq_63 rfl rfl h2) (ci_sq (pe_ast (nI := 100) tq_76 rfl rfl h3 rfl) (ci_sq (pe_inc rfl) rfl))))))))))))) ?_
      exact ci_T.sub [1, 2, 3, 0] (ih _ _ _ _ h) rfl
set_option maxRecDepth 100000 in
theorem t_X9_enters_58 {d : Nat}    {o : pm} {rρ : pm}   : ∀ (n : Nat) (l2 l3 l4 : Int) (ρ : pm), L_X9_enters_58 n l2 l3 l4 ρ = some rρ → ci_T yX9_enters cX9_enters 5 none (d + 5) 58 ([(0, .ref 63), (2, .int (Int32.ofInt l2)), (3, .int (Int32.ofInt l3)), (4, .int (Int32.ofInt l4))], [], pk false ρ o) (pV false rρ o) := by
  intro n
  induction n with
  | zero =>
    intro l2 l3 l4 ρ h
    rw [L_X9_enters_58] at h
    cases h
  | succ n ih =>
    intro l2 l3 l4 ρ h
    rw [L_X9_enters_58] at h
    obtain ⟨h12, h⟩ := ck_some h
    obtain ⟨h13, h⟩ := ck_some h
    refine ci_T.step cb_X9_enters_58 (ci_sq rfl (ci_sq rfl (ci_sq (pe_getI (kI := 2) tq_62 rfl rfl rfl) (ci_sq rfl (ci_sq (pe_getI (kI := 3) tq_62 rfl rfl rfl) (ci_sq pe_imul (pe_ic_ge h12 h13))))))) ?_
    refine pbr h (fun hc h => ?_) (fun hc h => ?_)
    · cases h
      exact ci_T.done (v := none) cd_X9_enters_116 ⟨rfl, rfl⟩
    · refine ci_T.step cb_X9_enters_72 (ci_sq rfl (ci_sq rfl (ci_sq pe_ishr (ci_sq (pe_push pc_1) (ci_sq pe_iand (ci_sq (pe_push pc_1) (pe_ic_ne (band_R _ _) pR_1))))))) ?_
      obtain ⟨j110, hj, h⟩ := jn_ex h
      have J110 : ∀ (l2 l3 l4 : Int) (ρ : pm), j110 l2 l3 l4 ρ = some rρ → ci_T yX9_enters cX9_enters 5 none (d + 5) 110 ([(0, .ref 63), (2, .int (Int32.ofInt l2)), (3, .int (Int32.ofInt l3)), (4, .int (Int32.ofInt l4))], [], pk false ρ o) (pV false rρ o) := by
        intro l2 l3 l4 ρ h
        subst hj
        replace h := jn_some h
        refine ci_T.step cb_X9_enters_110 (ci_sq (pe_inc rfl) rfl) ?_
        exact ci_T.sub [1, 2, 3, 0] (ih _ _ _ _ h) rfl
      clear hj
      refine pbrn h (fun hc h => ?_) (fun hc h => ?_)
      · exact ci_T.sub [0, 1, 2, 3] (J110 _ _ _ _ h) rfl
      · obtain ⟨h15, h⟩ := ck_some h
        obtain ⟨h16, h⟩ := ck_some h
        replace h := jn_some h
        replace h := jn_some h
        refine ci_T.step cb_X9_enters_82 (ci_sq rfl (ci_sq (pe_getR tq_62 rfl rfl) (ci_sq (pe_push pc_9) (ci_sq rfl (ci_sq pe_imul (ci_sq rfl (ci_sq (pe_getR tq_62 rfl rfl) (ci_sq rfl (ci_sq (pe_ald (nI := 4) tq_79 rfl rfl h15) (ci_sq pe_iadd (ci_sq rfl (ci_sq (pe_ast (nI := 36) tq_78 rfl rfl h16 rfl) (ci_sq rfl (ci_sq (pe_getR tq_62 rfl rfl) (ci_sq rfl (ci_sq rfl (ci_sq (pe_ald (nI := 4) tq_79 rfl rfl h15) (ci_sq (pe_push pc_1) (ci_sq pe_iadd (pe_ast (nI := 4) tq_79 rfl rfl h15 rfl)))))))))))))))))))) ?_
        exact ci_T.sub [0, 1, 2, 3] (J110 _ _ _ _ h) rfl
set_option maxRecDepth 100000 in
theorem s_X9_enters (d : Nat)   {ρ : pm} (o : pm) {l1 l2 : Int} {rρ : pm} (h : f_X9_enters l1 l2 ρ = some rρ) : ci_Met (d + 5) (yX9_enters, cX9_enters, 5, none, [], 0, 0) [.ref 63, .int (Int32.ofInt l1), .int (Int32.ofInt l2)] (pk false ρ o) (pV false rρ o) := by
  refine ci_met (by decide) (Nat.le_of_ble_eq_true rfl) ?_ ?_
  · rintro v w' ⟨rfl, rfl⟩
    trivial
  · change ci_T _ _ _ _ _ _ ([(0, .ref 63), (1, .int (Int32.ofInt l1)), (2, .int (Int32.ofInt l2))], [], pk false ρ o) _
    unfold f_X9_enters at h
    refine ci_T.step cb_X9_enters_0 (ci_sq (pe_push pc_0) rfl) ?_
    refine ci_T.sub [1, 2, 3, 0] (t_X9_enters_2 ?_ fu _ _ _ _ h) rfl
    · intro l1 l2 ρ h
      refine ci_T.step cb_X9_enters_31 (ci_sq rfl rfl) ?_
      obtain ⟨v6, ρ7, hv, h⟩ := bn2_some h
      refine ci_T.call (as := [_, _]) (rest := []) kc_X9_mayCut ki_X9_mayCut (by decide) cl_X9_enters_33 rfl (Nat.le_of_ble_eq_true rfl) ⟨⟨_, rfl⟩, _, _, _, rfl, pk_obj tq_62 rfl _ _⟩ (s_X9_mayCut d o hv) ?_
      rintro _ _ ⟨rfl, rfl⟩
      clear hv
      obtain ⟨h8, h⟩ := ck_some h
      replace h := jn_some h
      obtain ⟨h10, h⟩ := ck_some h
      replace h := jn_some h
      refine ci_T.step cb_X9_enters_36 (ci_sq rfl (ci_sq rfl (ci_sq (pe_getR tq_62 rfl rfl) (ci_sq (pe_push pc_9) (ci_sq rfl (ci_sq pe_imul (ci_sq (pe_push pc_25) (ci_sq (pe_ast (nI := 36) tq_78 rfl rfl h8 rfl) (ci_sq rfl (ci_sq (pe_getR tq_62 rfl rfl) (ci_sq rfl (ci_sq (pe_push pc_1) (ci_sq (pe_ast (nI := 4) tq_79 rfl rfl h10 rfl) (ci_sq (pe_push pc_0) rfl)))))))))))))) ?_
      exact ci_T.sub [2, 4, 1, 0] (t_X9_enters_58 fu _ _ _ _ h) rfl
/-- X9_leaves -/
def L_X9_leaves_2  : Nat → Int → Int → pm → Option pm
  | 0, _, _, _ => none
  | n + 1, l1, l2, ρ => ck (inR l2) (if 25 ≤ l2 then some ρ else ck (0 ≤ (25 * l1) + l2 ∧ (25 * l1) + l2 < 100) (ck (0 ≤ l2 ∧ l2 < 168) (jn (pup ρ 63 l2 (ρ 76 ((25 * l1) + l2))) (fun ρ4 => jn (l2 + 1) (fun x5 => L_X9_leaves_2 n l1 x5 ρ4)))))
def f_X9_leaves (l1 : Int) (ρ : pm) : Option pm := L_X9_leaves_2 fu l1 0 ρ
set_option maxRecDepth 100000 in
theorem t_X9_leaves_2 {d : Nat}    {o : pm} {rρ : pm}   : ∀ (n : Nat) (l1 l2 : Int) (ρ : pm), L_X9_leaves_2 n l1 l2 ρ = some rρ → ci_T yX9_leaves cX9_leaves 3 none d 2 ([(0, .ref 63), (1, .int (Int32.ofInt l1)), (2, .int (Int32.ofInt l2))], [], pk false ρ o) (pV false rρ o) := by
  intro n
  induction n with
  | zero =>
    intro l1 l2 ρ h
    rw [L_X9_leaves_2] at h
    cases h
  | succ n ih =>
    intro l1 l2 ρ h
    rw [L_X9_leaves_2] at h
    obtain ⟨h1, h⟩ := ck_some h
    refine ci_T.step cb_X9_leaves_2 (ci_sq rfl (ci_sq (pe_push pc_25) (pe_ic_ge h1 pR_25))) ?_
    refine pbr h (fun hc h => ?_) (fun hc h => ?_)
    · cases h
      exact ci_T.done (v := none) cd_X9_leaves_31 ⟨rfl, rfl⟩
    · obtain ⟨h2, h⟩ := ck_some h
      obtain ⟨h3, h⟩ := ck_some h
      replace h := jn_some h
      replace h := jn_some h
      refine ci_T.step cb_X9_leaves_8 (ci_sq rfl (ci_sq (pe_getR tq_62 rfl rfl) (ci_sq rfl (ci_sq rfl (ci_sq (pe_getR tq_62 rfl rfl) (ci_sq (pe_push pc_25) (ci_sq rfl (ci_sq pe_imul (ci_sq rfl (ci_sq pe_iadd (ci_sq (pe_ald (nI := 100) tq_76 rfl rfl h2) (ci_sq (pe_ast (nI := 168) tq_63 rfl rfl h3 rfl) (ci_sq (pe_inc rfl) rfl))))))))))))) ?_
      exact ci_T.sub [1, 2, 0] (ih _ _ _ h) rfl
set_option maxRecDepth 100000 in
theorem s_X9_leaves (d : Nat)   {ρ : pm} (o : pm) {l1 : Int} {rρ : pm} (h : f_X9_leaves l1 ρ = some rρ) : ci_Met d (yX9_leaves, cX9_leaves, 3, none, [], 0, 0) [.ref 63, .int (Int32.ofInt l1)] (pk false ρ o) (pV false rρ o) := by
  refine ci_met (by decide) (Nat.le_of_ble_eq_true rfl) ?_ ?_
  · rintro v w' ⟨rfl, rfl⟩
    trivial
  · change ci_T _ _ _ _ _ _ ([(0, .ref 63), (1, .int (Int32.ofInt l1))], [], pk false ρ o) _
    unfold f_X9_leaves at h
    refine ci_T.step cb_X9_leaves_0 (ci_sq (pe_push pc_0) rfl) ?_
    exact ci_T.sub [1, 2, 0] (t_X9_leaves_2 fu _ _ _ h) rfl
/-- X9_isBrought -/
def L_X9_isBrought_43 (K220 : Int → pm → Option (Int × pm)) : Nat → Int → Int → Int → Int → Int → pm → Option (Int × pm)
  | 0, _, _, _, _, _, _ => none
  | n + 1, l1, l2, l3, l4, l5, ρ => ck (inR l3) (if l3 ≤ 0 then K220 l5 ρ else ck (inR l4) (if l4 < 0 then K220 l5 ρ else ck (inR l5) (if l5 = 0 then ck (0 ≤ l4 ∧ l4 < 3) (ck (0 ≤ l4 ∧ l4 < 4) (ck (inR (ρ 77 l4)) (ck (inR (ρ 79 l4)) (if (ρ 77 l4) = (ρ 79 l4) then jn (l4 + (-1)) (fun x30 => ck (inR x30) (if x30 < 0 then L_X9_isBrought_43 K220 n l1 l2 l3 x30 l5 ρ else ck (0 ≤ x30 ∧ x30 < 3) (jn (pup ρ 77 x30 ((ρ 77 x30) + 1)) (fun ρ33 => L_X9_isBrought_43 K220 n l1 l2 l3 x30 l5 ρ33)))) else (f_X9_leaves l4 ρ).bind (fun ρ11 => ck (0 ≤ (9 * l4) + (ρ11 77 l4) ∧ (9 * l4) + (ρ11 77 l4) < 36) (jn (ρ11 78 ((9 * l4) + (ρ11 77 l4))) (fun x13 => ck (inR x13) (jn (fun (l1 l2 l3 l4 l5 s1 : Int) (ρ : pm) => (f_X9_goes s1 ρ).bind (fun ρ15 => ck (inR l4) (ck (inR (l3 - 1)) (jn (fun (l1 l2 l3 l4 l5 : Int) (ρ : pm) => L_X9_isBrought_43 K220 n l1 l2 l3 l4 l5 ρ) (fun j217 => if l4 = (l3 - 1) then bn2 (f_X9_bedNow ρ15) (fun v22 ρ23 => jn (fun (l1 l2 l3 l4 s0 : Int) (ρ : pm) => ck (0 ≤ l4 ∧ l4 < 3) (ck (inR s0) (jn (fun (l1 l2 l3 l4 l5 s1 s2 s3 : Int) (ρ : pm) => (f_X9_flag s3).bind (fun v26 => ck (0 ≤ s1 ∧ s1 < 3) (jn (pup ρ 77 s1 (s2 + v26)) (fun ρ28 => j217 l1 l2 l3 l4 l5 ρ28)))) (fun j191 => if s0 = 0 then j191 l1 l2 l3 l4 s0 l4 (ρ 77 l4) 1 ρ else j191 l1 l2 l3 l4 s0 l4 (ρ 77 l4) 0 ρ)))) (fun j171 => if (band (bshr v22 l2) 1) = 1 then j171 l1 l2 l3 l4 1 ρ23 else j171 l1 l2 l3 l4 0 ρ23)) else jn (l4 + 1) (fun x18 => (f_X9_enters l1 x18 ρ15).bind (fun ρ19 => ck (0 ≤ x18 ∧ x18 < 3) (jn (pup ρ19 77 x18 0) (fun ρ21 => j217 l1 l2 l3 x18 l5 ρ21))))))))) (fun j143 => if x13 = 25 then j143 l1 l2 l3 l4 l5 0 ρ11 else (f_X9_timesOf l1).bind (fun v29 => j143 l1 l2 l3 l4 l5 (v29 * (x13 + 1)) ρ11)))))))))) else K220 l5 ρ)))
def f_X9_isBrought (l1 l2 l3 : Int) (ρ : pm) : Option (Int × pm) := (f_X9_enters l1 0 ρ).bind (fun ρ1 => ck (inR l3) (jn (fun (l1 l2 l3 l4 s0 : Int) (ρ : pm) => ck (inR l3) (jn (fun (l1 l2 l3 l4 l5 : Int) (ρ : pm) => L_X9_isBrought_43 (fun (l5 : Int) (ρ : pm) => (f_X9_leaves 0 ρ).bind (fun ρ34 => ck (l5 = 0 ∨ l5 = 1) (some (l5, ρ34)))) fu l1 l2 l3 l4 l5 ρ) (fun j43 => if l3 ≤ 0 then j43 l1 l2 l3 l4 s0 ρ else jn (pup ρ 77 0 0) (fun ρ36 => j43 l1 l2 l3 l4 s0 ρ36)))) (fun j30 => jn (fun (l1 l2 l3 l4 : Int) (ρ : pm) => j30 l1 l2 l3 l4 0 ρ) (fun j29 => if l3 = 0 then bn2 (f_X9_bedNow ρ1) (fun v37 ρ38 => if (band (bshr v37 l2) 1) = 1 then j30 l1 l2 l3 0 1 ρ38 else j29 l1 l2 l3 0 ρ38) else j29 l1 l2 l3 0 ρ1))))
set_option maxRecDepth 100000 in
theorem t_X9_isBrought_43 {d : Nat}    {o : pm} {rv : Int} {rρ : pm} {K220 : Int → pm → Option (Int × pm)} (hK220 : ∀ (l5 : Int) (ρ : pm), K220 l5 ρ = some (rv, rρ) → ci_T yX9_isBrought cX9_isBrought 7 (some .boolean) (d + 6) 220 ([(0, .ref 63), (5, .int (Int32.ofInt l5))], [], pk false ρ o) (pZ false rv rρ o)) : ∀ (n : Nat) (l1 l2 l3 l4 l5 : Int) (ρ : pm), L_X9_isBrought_43 K220 n l1 l2 l3 l4 l5 ρ = some (rv, rρ) → ci_T yX9_isBrought cX9_isBrought 7 (some .boolean) (d + 6) 43 ([(0, .ref 63), (1, .int (Int32.ofInt l1)), (2, .int (Int32.ofInt l2)), (3, .int (Int32.ofInt l3)), (4, .int (Int32.ofInt l4)), (5, .int (Int32.ofInt l5))], [], pk false ρ o) (pZ false rv rρ o) := by
  intro n
  induction n with
  | zero =>
    intro l1 l2 l3 l4 l5 ρ h
    rw [L_X9_isBrought_43] at h
    cases h
  | succ n ih =>
    intro l1 l2 l3 l4 l5 ρ h
    rw [L_X9_isBrought_43] at h
    obtain ⟨h4, h⟩ := ck_some h
    refine ci_T.step cb_X9_isBrought_43 (ci_sq rfl (pe_if_le h4)) ?_
    refine pbr h (fun hc h => ?_) (fun hc h => ?_)
    · exact ci_T.sub [0, 5] (hK220 _ _ h) rfl
    · obtain ⟨h5, h⟩ := ck_some h
      refine ci_T.step cb_X9_isBrought_47 (ci_sq rfl (pe_if_lt h5)) ?_
      refine pbr h (fun hc h => ?_) (fun hc h => ?_)
      · exact ci_T.sub [0, 5] (hK220 _ _ h) rfl
      · obtain ⟨h6, h⟩ := ck_some h
        refine ci_T.step cb_X9_isBrought_52 (ci_sq rfl (pe_if_ne h6)) ?_
        refine pbrn h (fun hc h => ?_) (fun hc h => ?_)
        · exact ci_T.sub [0, 5] (hK220 _ _ h) rfl
        · obtain ⟨h7, h⟩ := ck_some h
          obtain ⟨h8, h⟩ := ck_some h
          obtain ⟨h9, h⟩ := ck_some h
          obtain ⟨h10, h⟩ := ck_some h
          refine ci_T.step cb_X9_isBrought_57 (ci_sq rfl (ci_sq (pe_getR tq_62 rfl rfl) (ci_sq rfl (ci_sq (pe_ald (nI := 3) tq_77 rfl rfl h7) (ci_sq rfl (ci_sq (pe_getR tq_62 rfl rfl) (ci_sq rfl (ci_sq (pe_ald (nI := 4) tq_79 rfl rfl h8) (pe_ic_ne h9 h10))))))))) ?_
          refine pbrn h (fun hc h => ?_) (fun hc h => ?_)
          · refine ci_T.step cb_X9_isBrought_96 (ci_sq rfl rfl) ?_
            obtain ⟨ρ11, hv, h⟩ := bn_some h
            refine ci_T.call (as := [_, _]) (rest := []) kc_X9_leaves ki_X9_leaves (by decide) cl_X9_isBrought_99 rfl (Nat.le_of_ble_eq_true rfl) ⟨⟨_, rfl⟩, _, _, _, rfl, pk_obj tq_62 rfl _ _⟩ (s_X9_leaves (d + 5) o hv) ?_
            rintro _ _ ⟨rfl, rfl⟩
            clear hv
            obtain ⟨h12, h⟩ := ck_some h
            replace h := jn_some h
            obtain ⟨h14, h⟩ := ck_some h
            refine ci_T.step cb_X9_isBrought_102 (ci_sq rfl (ci_sq (pe_getR tq_62 rfl rfl) (ci_sq (pe_push pc_9) (ci_sq rfl (ci_sq pe_imul (ci_sq rfl (ci_sq (pe_getR tq_62 rfl rfl) (ci_sq rfl (ci_sq (pe_ald (nI := 3) tq_77 rfl rfl h7) (ci_sq pe_iadd (ci_sq (pe_ald (nI := 36) tq_78 rfl rfl h12) (ci_sq rfl (ci_sq rfl (ci_sq rfl (ci_sq (pe_push pc_25) (pe_ic_ne h14 pR_25)))))))))))))))) ?_
            obtain ⟨j143, hj, h⟩ := jn_ex h
            have J143 : ∀ (l1 l2 l3 l4 l5 s1 : Int) (ρ : pm), j143 l1 l2 l3 l4 l5 s1 ρ = some (rv, rρ) → ci_T yX9_isBrought cX9_isBrought 7 (some .boolean) (d + 6) 143 ([(0, .ref 63), (1, .int (Int32.ofInt l1)), (2, .int (Int32.ofInt l2)), (3, .int (Int32.ofInt l3)), (4, .int (Int32.ofInt l4)), (5, .int (Int32.ofInt l5))], [.int (Int32.ofInt s1), .ref 63], pk false ρ o) (pZ false rv rρ o) := by
              intro l1 l2 l3 l4 l5 s1 ρ h
              subst hj
              obtain ⟨ρ15, hv, h⟩ := bn_some h
              refine ci_T.call (as := [_, _]) (rest := []) kc_X9_goes ki_X9_goes (by decide) cl_X9_isBrought_143 rfl (Nat.le_of_ble_eq_true rfl) ⟨⟨_, rfl⟩, _, _, _, rfl, pk_obj tq_62 rfl _ _⟩ (s_X9_goes (d + 1) o hv) ?_
              rintro _ _ ⟨rfl, rfl⟩
              clear hv
              obtain ⟨h16, h⟩ := ck_some h
              obtain ⟨h17, h⟩ := ck_some h
              refine ci_T.step cb_X9_isBrought_146 (ci_sq rfl (ci_sq rfl (ci_sq (pe_push pc_1) (ci_sq pe_isub (pe_ic_ne h16 h17))))) ?_
              obtain ⟨j217, hj, h⟩ := jn_ex h
              have J217 : ∀ (l1 l2 l3 l4 l5 : Int) (ρ : pm), j217 l1 l2 l3 l4 l5 ρ = some (rv, rρ) → ci_T yX9_isBrought cX9_isBrought 7 (some .boolean) (d + 6) 217 ([(0, .ref 63), (1, .int (Int32.ofInt l1)), (2, .int (Int32.ofInt l2)), (3, .int (Int32.ofInt l3)), (4, .int (Int32.ofInt l4)), (5, .int (Int32.ofInt l5))], [], pk false ρ o) (pZ false rv rρ o) := by
                intro l1 l2 l3 l4 l5 ρ h
                subst hj
                refine ci_T.step cb_X9_isBrought_217 rfl ?_
                exact ci_T.sub [0, 1, 2, 3, 4, 5] (ih _ _ _ _ _ _ h) rfl
              clear hj
              refine pbrn h (fun hc h => ?_) (fun hc h => ?_)
              · replace h := jn_some h
                refine ci_T.step cb_X9_isBrought_199 (ci_sq (pe_inc rfl) (ci_sq rfl (ci_sq rfl rfl))) ?_
                obtain ⟨ρ19, hv, h⟩ := bn_some h
                refine ci_T.call (as := [_, _, _]) (rest := []) kc_X9_enters ki_X9_enters (by decide) cl_X9_isBrought_206 rfl (Nat.le_of_ble_eq_true rfl) ⟨⟨_, rfl⟩, _, _, _, rfl, pk_obj tq_62 rfl _ _⟩ (s_X9_enters d o hv) ?_
                rintro _ _ ⟨rfl, rfl⟩
                clear hv
                obtain ⟨h20, h⟩ := ck_some h
                replace h := jn_some h
                refine ci_T.step cb_X9_isBrought_209 (ci_sq rfl (ci_sq (pe_getR tq_62 rfl rfl) (ci_sq rfl (ci_sq (pe_push pc_0) (pe_ast (nI := 3) tq_77 rfl rfl h20 rfl))))) ?_
                exact ci_T.sub [1, 2, 3, 4, 0, 5] (J217 _ _ _ _ _ _ h) rfl
              · refine ci_T.step cb_X9_isBrought_154 rfl ?_
                obtain ⟨v22, ρ23, hv, h⟩ := bn2_some h
                refine ci_T.call (as := [_]) (rest := []) kc_X9_bedNow ki_X9_bedNow (by decide) cl_X9_isBrought_155 rfl (Nat.le_of_ble_eq_true rfl) ⟨⟨_, rfl⟩, _, _, _, rfl, pk_obj tq_62 rfl _ _⟩ (s_X9_bedNow (d + 2) o hv) ?_
                rintro _ _ ⟨rfl, rfl⟩
                clear hv
                refine ci_T.step cb_X9_isBrought_158 (ci_sq rfl (ci_sq pe_ishr (ci_sq (pe_push pc_1) (ci_sq pe_iand (ci_sq (pe_push pc_1) (pe_ic_ne (band_R _ _) pR_1)))))) ?_
                obtain ⟨j171, hj, h⟩ := jn_ex h
                have J171 : ∀ (l1 l2 l3 l4 s0 : Int) (ρ : pm), j171 l1 l2 l3 l4 s0 ρ = some (rv, rρ) → ci_T yX9_isBrought cX9_isBrought 7 (some .boolean) (d + 6) 171 ([(0, .ref 63), (1, .int (Int32.ofInt l1)), (2, .int (Int32.ofInt l2)), (3, .int (Int32.ofInt l3)), (4, .int (Int32.ofInt l4))], [.int (Int32.ofInt s0)], pk false ρ o) (pZ false rv rρ o) := by
                  intro l1 l2 l3 l4 s0 ρ h
                  subst hj
                  obtain ⟨h24, h⟩ := ck_some h
                  obtain ⟨h25, h⟩ := ck_some h
                  refine ci_T.step cb_X9_isBrought_171 (ci_sq rfl (ci_sq rfl (ci_sq (pe_getR tq_62 rfl rfl) (ci_sq rfl (ci_sq rfl (ci_sq (pe_ald (nI := 3) tq_77 rfl rfl h24) (ci_sq rfl (pe_if_ne h25)))))))) ?_
                  obtain ⟨j191, hj, h⟩ := jn_ex h
                  have J191 : ∀ (l1 l2 l3 l4 l5 s1 s2 s3 : Int) (ρ : pm), j191 l1 l2 l3 l4 l5 s1 s2 s3 ρ = some (rv, rρ) → ci_T yX9_isBrought cX9_isBrought 7 (some .boolean) (d + 6) 191 ([(0, .ref 63), (1, .int (Int32.ofInt l1)), (2, .int (Int32.ofInt l2)), (3, .int (Int32.ofInt l3)), (4, .int (Int32.ofInt l4)), (5, .int (Int32.ofInt l5))], [.int (Int32.ofInt s3), .int (Int32.ofInt s2), .int (Int32.ofInt s1), .ref 78], pk false ρ o) (pZ false rv rρ o) := by
                    intro l1 l2 l3 l4 l5 s1 s2 s3 ρ h
                    subst hj
                    obtain ⟨v26, hv, h⟩ := bn_some h
                    refine ci_T.call (as := [_]) (rest := [_, _, _]) kc_X9_flag ki_X9_flag (by decide) cl_X9_isBrought_191 rfl (Nat.le_of_ble_eq_true rfl) trivial (s_X9_flag (d + 5) o hv) ?_
                    rintro _ _ ⟨rfl, rfl⟩
                    clear hv
                    obtain ⟨h27, h⟩ := ck_some h
                    replace h := jn_some h
                    refine ci_T.step cb_X9_isBrought_194 (ci_sq pe_iadd (ci_sq (pe_ast (nI := 3) tq_77 rfl rfl h27 rfl) rfl)) ?_
                    exact ci_T.sub [0, 1, 2, 3, 4, 5] (J217 _ _ _ _ _ _ h) rfl
                  clear hj
                  refine pbrn h (fun hc h => ?_) (fun hc h => ?_)
                  · refine ci_T.step cb_X9_isBrought_190 (pe_push pc_0) ?_
                    exact ci_T.sub [1, 2, 3, 4, 5, 0] (J191 _ _ _ _ _ _ _ _ _ h) rfl
                  · refine ci_T.step cb_X9_isBrought_186 (ci_sq (pe_push pc_1) rfl) ?_
                    exact ci_T.sub [1, 2, 3, 4, 5, 0] (J191 _ _ _ _ _ _ _ _ _ h) rfl
                clear hj
                refine pbrn h (fun hc h => ?_) (fun hc h => ?_)
                · refine ci_T.step cb_X9_isBrought_170 (pe_push pc_0) ?_
                  exact ci_T.sub [0, 1, 2, 3, 4] (J171 _ _ _ _ _ _ h) rfl
                · refine ci_T.step cb_X9_isBrought_166 (ci_sq (pe_push pc_1) rfl) ?_
                  exact ci_T.sub [0, 1, 2, 3, 4] (J171 _ _ _ _ _ _ h) rfl
            clear hj
            refine pbrn h (fun hc h => ?_) (fun hc h => ?_)
            · refine ci_T.step cb_X9_isBrought_134 rfl ?_
              obtain ⟨v29, hv, h⟩ := bn_some h
              refine ci_T.call (as := [_]) (rest := [_]) kc_X9_timesOf ki_X9_timesOf (by decide) cl_X9_isBrought_135 rfl (Nat.le_of_ble_eq_true rfl) trivial (s_X9_timesOf (d + 5) o hv) ?_
              rintro _ _ ⟨rfl, rfl⟩
              clear hv
              refine ci_T.step cb_X9_isBrought_138 (ci_sq rfl (ci_sq (pe_push pc_1) (ci_sq pe_iadd pe_imul))) ?_
              exact ci_T.sub [1, 2, 3, 4, 5, 6] (J143 _ _ _ _ _ _ _ h) rfl
            · refine ci_T.step cb_X9_isBrought_130 (ci_sq (pe_push pc_0) rfl) ?_
              exact ci_T.sub [1, 2, 3, 4, 5, 6] (J143 _ _ _ _ _ _ _ h) rfl
          · replace h := jn_some h
            obtain ⟨h31, h⟩ := ck_some h
            refine ci_T.step cb_X9_isBrought_74 (ci_sq (pe_inc rfl) (ci_sq rfl (pe_if_lt h31))) ?_
            refine pbr h (fun hc h => ?_) (fun hc h => ?_)
            · exact ci_T.sub [1, 2, 3, 4, 0, 5] (ih _ _ _ _ _ _ h) rfl
            · obtain ⟨h32, h⟩ := ck_some h
              replace h := jn_some h
              refine ci_T.step cb_X9_isBrought_82 (ci_sq rfl (ci_sq (pe_getR tq_62 rfl rfl) (ci_sq rfl (ci_sq rfl (ci_sq (pe_ald (nI := 3) tq_77 rfl rfl h32) (ci_sq (pe_push pc_1) (ci_sq pe_iadd (ci_sq (pe_ast (nI := 3) tq_77 rfl rfl h32 rfl) rfl)))))))) ?_
              exact ci_T.sub [1, 2, 3, 4, 0, 5] (ih _ _ _ _ _ _ h) rfl
set_option maxRecDepth 100000 in
theorem s_X9_isBrought (d : Nat)   {ρ : pm} (o : pm) {l1 l2 l3 : Int} {rv : Int} {rρ : pm} (h : f_X9_isBrought l1 l2 l3 ρ = some (rv, rρ)) : ci_Met (d + 6) (yX9_isBrought, cX9_isBrought, 7, (some .boolean), [], 0, 0) [.ref 63, .int (Int32.ofInt l1), .int (Int32.ofInt l2), .int (Int32.ofInt l3)] (pk false ρ o) (pZ false rv rρ o) := by
  refine ci_met (by decide) (Nat.le_of_ble_eq_true rfl) ?_ ?_
  · rintro v w' ⟨⟨rfl, rfl⟩, hz⟩
    exact Z_of hz
  · change ci_T _ _ _ _ _ _ ([(0, .ref 63), (1, .int (Int32.ofInt l1)), (2, .int (Int32.ofInt l2)), (3, .int (Int32.ofInt l3))], [], pk false ρ o) _
    unfold f_X9_isBrought at h
    refine ci_T.step cb_X9_isBrought_0 (ci_sq rfl (ci_sq rfl (pe_push pc_0))) ?_
    obtain ⟨ρ1, hv, h⟩ := bn_some h
    refine ci_T.call (as := [_, _, _]) (rest := []) kc_X9_enters ki_X9_enters (by decide) cl_X9_isBrought_3 rfl (Nat.le_of_ble_eq_true rfl) ⟨⟨_, rfl⟩, _, _, _, rfl, pk_obj tq_62 rfl _ _⟩ (s_X9_enters d o hv) ?_
    rintro _ _ ⟨rfl, rfl⟩
    clear hv
    obtain ⟨h2, h⟩ := ck_some h
    refine ci_T.step cb_X9_isBrought_6 (ci_sq (pe_push pc_0) (ci_sq rfl (ci_sq rfl (pe_if_ne h2)))) ?_
    obtain ⟨j30, hj, h⟩ := jn_ex h
    have J30 : ∀ (l1 l2 l3 l4 s0 : Int) (ρ : pm), j30 l1 l2 l3 l4 s0 ρ = some (rv, rρ) → ci_T yX9_isBrought cX9_isBrought 7 (some .boolean) (d + 6) 30 ([(0, .ref 63), (1, .int (Int32.ofInt l1)), (2, .int (Int32.ofInt l2)), (3, .int (Int32.ofInt l3)), (4, .int (Int32.ofInt l4))], [.int (Int32.ofInt s0)], pk false ρ o) (pZ false rv rρ o) := by
      intro l1 l2 l3 l4 s0 ρ h
      subst hj
      obtain ⟨h3, h⟩ := ck_some h
      refine ci_T.step cb_X9_isBrought_30 (ci_sq rfl (ci_sq rfl (pe_if_le h3))) ?_
      obtain ⟨j43, hj, h⟩ := jn_ex h
      have J43 : ∀ (l1 l2 l3 l4 l5 : Int) (ρ : pm), j43 l1 l2 l3 l4 l5 ρ = some (rv, rρ) → ci_T yX9_isBrought cX9_isBrought 7 (some .boolean) (d + 6) 43 ([(0, .ref 63), (1, .int (Int32.ofInt l1)), (2, .int (Int32.ofInt l2)), (3, .int (Int32.ofInt l3)), (4, .int (Int32.ofInt l4)), (5, .int (Int32.ofInt l5))], [], pk false ρ o) (pZ false rv rρ o) := by
        intro l1 l2 l3 l4 l5 ρ h
        subst hj
        refine ci_T.sub [0, 1, 2, 3, 4, 5] (t_X9_isBrought_43 ?_ fu _ _ _ _ _ _ h) rfl
        · intro l5 ρ h
          refine ci_T.step cb_X9_isBrought_220 (ci_sq rfl (pe_push pc_0)) ?_
          obtain ⟨ρ34, hv, h⟩ := bn_some h
          refine ci_T.call (as := [_, _]) (rest := []) kc_X9_leaves ki_X9_leaves (by decide) cl_X9_isBrought_222 rfl (Nat.le_of_ble_eq_true rfl) ⟨⟨_, rfl⟩, _, _, _, rfl, pk_obj tq_62 rfl _ _⟩ (s_X9_leaves (d + 5) o hv) ?_
          rintro _ _ ⟨rfl, rfl⟩
          clear hv
          refine ci_T.step cb_X9_isBrought_225 rfl ?_
          obtain ⟨h35, h⟩ := ck_some h
          cases h
          exact ci_T.done (v := some (.int _)) cd_X9_isBrought_227 ⟨⟨rfl, rfl⟩, h35⟩
      clear hj
      refine pbr h (fun hc h => ?_) (fun hc h => ?_)
      · exact ci_T.sub [1, 2, 3, 4, 5, 0] (J43 _ _ _ _ _ _ h) rfl
      · replace h := jn_some h
        refine ci_T.step cb_X9_isBrought_36 (ci_sq rfl (ci_sq (pe_getR tq_62 rfl rfl) (ci_sq (pe_push pc_0) (ci_sq (pe_push pc_0) (pe_ast (nI := 3) tq_77 rfl rfl ⟨by decide, by decide⟩ rfl))))) ?_
        exact ci_T.sub [1, 2, 3, 4, 5, 0] (J43 _ _ _ _ _ _ h) rfl
    clear hj
    obtain ⟨j29, hj, h⟩ := jn_ex h
    have J29 : ∀ (l1 l2 l3 l4 : Int) (ρ : pm), j29 l1 l2 l3 l4 ρ = some (rv, rρ) → ci_T yX9_isBrought cX9_isBrought 7 (some .boolean) (d + 6) 29 ([(0, .ref 63), (1, .int (Int32.ofInt l1)), (2, .int (Int32.ofInt l2)), (3, .int (Int32.ofInt l3)), (4, .int (Int32.ofInt l4))], [], pk false ρ o) (pZ false rv rρ o) := by
      intro l1 l2 l3 l4 ρ h
      subst hj
      refine ci_T.step cb_X9_isBrought_29 (pe_push pc_0) ?_
      exact ci_T.sub [0, 1, 2, 3, 4] (J30 _ _ _ _ _ _ h) rfl
    clear hj
    refine pbrn h (fun hc h => ?_) (fun hc h => ?_)
    · exact ci_T.sub [1, 2, 3, 4, 0] (J29 _ _ _ _ _ h) rfl
    · refine ci_T.step cb_X9_isBrought_13 rfl ?_
      obtain ⟨v37, ρ38, hv, h⟩ := bn2_some h
      refine ci_T.call (as := [_]) (rest := []) kc_X9_bedNow ki_X9_bedNow (by decide) cl_X9_isBrought_14 rfl (Nat.le_of_ble_eq_true rfl) ⟨⟨_, rfl⟩, _, _, _, rfl, pk_obj tq_62 rfl _ _⟩ (s_X9_bedNow (d + 2) o hv) ?_
      rintro _ _ ⟨rfl, rfl⟩
      clear hv
      refine ci_T.step cb_X9_isBrought_17 (ci_sq rfl (ci_sq pe_ishr (ci_sq (pe_push pc_1) (ci_sq pe_iand (ci_sq (pe_push pc_1) (pe_ic_ne (band_R _ _) pR_1)))))) ?_
      refine pbrn h (fun hc h => ?_) (fun hc h => ?_)
      · exact ci_T.sub [1, 2, 3, 4, 0] (J29 _ _ _ _ _ h) rfl
      · refine ci_T.step cb_X9_isBrought_25 (ci_sq (pe_push pc_1) rfl) ?_
        exact ci_T.sub [1, 2, 3, 4, 0] (J30 _ _ _ _ _ _ h) rfl
/-- X9_alone -/
def L_X9_alone_39 (K56 : Int → Int → pm → Option (Int × pm)) : Nat → Int → Int → Int → Int → pm → Option (Int × pm)
  | 0, _, _, _, _, _ => none
  | n + 1, l1, l2, l3, l4, ρ => ck (inR l4) (if 3 < l4 then some ((-4), ρ) else bn2 (f_X9_isBrought l1 l2 l4 ρ) (fun v7 ρ8 => if v7 = 0 then jn (l4 + 1) (fun x10 => L_X9_alone_39 K56 n l1 l2 l3 x10 ρ8) else K56 l3 l4 ρ8))
def f_X9_alone (l1 l2 l3 : Int) (ρ : pm) : Option (Int × pm) := (f_X9_isFarm l1 ρ).bind (fun v1 => if v1 = 0 then some ((-1), ρ) else (f_X9_isCell l2 ρ).bind (fun v3 => if v3 = 0 then some ((-1), ρ) else ck (inR l3) (jn (fun (l1 l2 l3 : Int) (ρ : pm) => L_X9_alone_39 (fun (l3 l4 : Int) (ρ : pm) => ck (inR l3) (if l3 = 0 then some (l4, ρ) else ck (inR (l3 - 10)) (ck (inR l4) (if l4 ≤ (l3 - 10) then some ((-4), ρ) else ck (0 ≤ l3 - 10 ∧ l3 - 10 < 3) (ck (0 ≤ (9 * (l3 - 10)) + (ρ 77 (l3 - 10)) ∧ (9 * (l3 - 10)) + (ρ 77 (l3 - 10)) < 36) (some (ρ 78 ((9 * (l3 - 10)) + (ρ 77 (l3 - 10))), ρ))))))) fu l1 l2 l3 0 ρ) (fun j36 => if l3 = 0 then j36 l1 l2 l3 ρ else (f_X9_in l3 10 12).bind (fun v16 => if v16 = 0 then some ((-1), ρ) else j36 l1 l2 l3 ρ)))))
set_option maxRecDepth 100000 in
theorem t_X9_alone_39 {d : Nat}    {o : pm} {rv : Int} {rρ : pm} {K56 : Int → Int → pm → Option (Int × pm)} (hK56 : ∀ (l3 l4 : Int) (ρ : pm), K56 l3 l4 ρ = some (rv, rρ) → ci_T yX9_alone cX9_alone 5 (some .int) (d + 7) 56 ([(0, .ref 63), (3, .int (Int32.ofInt l3)), (4, .int (Int32.ofInt l4))], [], pk false ρ o) (pP false rv rρ o)) : ∀ (n : Nat) (l1 l2 l3 l4 : Int) (ρ : pm), L_X9_alone_39 K56 n l1 l2 l3 l4 ρ = some (rv, rρ) → ci_T yX9_alone cX9_alone 5 (some .int) (d + 7) 39 ([(0, .ref 63), (1, .int (Int32.ofInt l1)), (2, .int (Int32.ofInt l2)), (3, .int (Int32.ofInt l3)), (4, .int (Int32.ofInt l4))], [], pk false ρ o) (pP false rv rρ o) := by
  intro n
  induction n with
  | zero =>
    intro l1 l2 l3 l4 ρ h
    rw [L_X9_alone_39] at h
    cases h
  | succ n ih =>
    intro l1 l2 l3 l4 ρ h
    rw [L_X9_alone_39] at h
    obtain ⟨h6, h⟩ := ck_some h
    refine ci_T.step cb_X9_alone_39 (ci_sq rfl (ci_sq (pe_push pc_3) (pe_ic_gt h6 pR_3))) ?_
    refine pbr h (fun hc h => ?_) (fun hc h => ?_)
    · refine ci_T.step cb_X9_alone_108 (pe_push pc_m4) ?_
      cases h
      exact ci_T.done (v := some (.int _)) cd_X9_alone_110 ⟨rfl, rfl⟩
    · refine ci_T.step cb_X9_alone_45 (ci_sq rfl (ci_sq rfl (ci_sq rfl rfl))) ?_
      obtain ⟨v7, ρ8, hv, h⟩ := bn2_some h
      refine ci_T.call (as := [_, _, _, _]) (rest := []) kc_X9_isBrought ki_X9_isBrought (by decide) cl_X9_alone_50 rfl (Nat.le_of_ble_eq_true rfl) ⟨⟨_, rfl⟩, _, _, _, rfl, pk_obj tq_62 rfl _ _⟩ (s_X9_isBrought d o hv) ?_
      rintro _ _ ⟨⟨rfl, rfl⟩, hz9⟩
      clear hv
      refine ci_T.step cb_X9_alone_53 (pe_if_eq (Z_R hz9)) ?_
      refine pbr h (fun hc h => ?_) (fun hc h => ?_)
      · replace h := jn_some h
        refine ci_T.step cb_X9_alone_102 (ci_sq (pe_inc rfl) rfl) ?_
        exact ci_T.sub [1, 2, 3, 4, 0] (ih _ _ _ _ _ h) rfl
      · exact ci_T.sub [0, 3, 4] (hK56 _ _ _ h) rfl
set_option maxRecDepth 100000 in
theorem s_X9_alone (d : Nat)   {ρ : pm} (o : pm) {l1 l2 l3 : Int} {rv : Int} {rρ : pm} (h : f_X9_alone l1 l2 l3 ρ = some (rv, rρ)) : ci_Met (d + 7) (yX9_alone, cX9_alone, 5, (some .int), [], 0, 0) [.ref 63, .int (Int32.ofInt l1), .int (Int32.ofInt l2), .int (Int32.ofInt l3)] (pk false ρ o) (pP false rv rρ o) := by
  refine ci_met (by decide) (Nat.le_of_ble_eq_true rfl) ?_ ?_
  · rintro v w' ⟨rfl, rfl⟩
    trivial
  · change ci_T _ _ _ _ _ _ ([(0, .ref 63), (1, .int (Int32.ofInt l1)), (2, .int (Int32.ofInt l2)), (3, .int (Int32.ofInt l3))], [], pk false ρ o) _
    unfold f_X9_alone at h
    refine ci_T.step cb_X9_alone_0 (ci_sq rfl rfl) ?_
    obtain ⟨v1, hv, h⟩ := bn_some h
    refine ci_T.call (as := [_, _]) (rest := []) kc_X9_isFarm ki_X9_isFarm (by decide) cl_X9_alone_2 rfl (Nat.le_of_ble_eq_true rfl) ⟨⟨_, rfl⟩, _, _, _, rfl, pk_obj tq_62 rfl _ _⟩ (s_X9_isFarm (d + 5) o hv) ?_
    rintro _ _ ⟨⟨rfl, rfl⟩, hz2⟩
    clear hv
    refine ci_T.step cb_X9_alone_5 (pe_if_eq (Z_R hz2)) ?_
    refine pbr h (fun hc h => ?_) (fun hc h => ?_)
    · refine ci_T.step cb_X9_alone_34 (pe_push pc_m1) ?_
      cases h
      exact ci_T.done (v := some (.int _)) cd_X9_alone_35 ⟨rfl, rfl⟩
    · refine ci_T.step cb_X9_alone_8 (ci_sq rfl rfl) ?_
      obtain ⟨v3, hv, h⟩ := bn_some h
      refine ci_T.call (as := [_, _]) (rest := []) kc_X9_isCell ki_X9_isCell (by decide) cl_X9_alone_10 rfl (Nat.le_of_ble_eq_true rfl) ⟨⟨_, rfl⟩, _, _, _, rfl, pk_obj tq_62 rfl _ _⟩ (s_X9_isCell (d + 5) o hv) ?_
      rintro _ _ ⟨⟨rfl, rfl⟩, hz4⟩
      clear hv
      refine ci_T.step cb_X9_alone_13 (pe_if_eq (Z_R hz4)) ?_
      refine pbr h (fun hc h => ?_) (fun hc h => ?_)
      · refine ci_T.step cb_X9_alone_34 (pe_push pc_m1) ?_
        cases h
        exact ci_T.done (v := some (.int _)) cd_X9_alone_35 ⟨rfl, rfl⟩
      · obtain ⟨h5, h⟩ := ck_some h
        refine ci_T.step cb_X9_alone_16 (ci_sq rfl (pe_if_eq h5)) ?_
        obtain ⟨j36, hj, h⟩ := jn_ex h
        have J36 : ∀ (l1 l2 l3 : Int) (ρ : pm), j36 l1 l2 l3 ρ = some (rv, rρ) → ci_T yX9_alone cX9_alone 5 (some .int) (d + 7) 36 ([(0, .ref 63), (1, .int (Int32.ofInt l1)), (2, .int (Int32.ofInt l2)), (3, .int (Int32.ofInt l3))], [], pk false ρ o) (pP false rv rρ o) := by
          intro l1 l2 l3 ρ h
          subst hj
          refine ci_T.step cb_X9_alone_36 (ci_sq (pe_push pc_0) rfl) ?_
          refine ci_T.sub [1, 2, 3, 4, 0] (t_X9_alone_39 ?_ fu _ _ _ _ _ h) rfl
          · intro l3 l4 ρ h
            obtain ⟨h11, h⟩ := ck_some h
            refine ci_T.step cb_X9_alone_56 (ci_sq rfl (pe_if_ne h11)) ?_
            refine pbrn h (fun hc h => ?_) (fun hc h => ?_)
            · obtain ⟨h12, h⟩ := ck_some h
              obtain ⟨h13, h⟩ := ck_some h
              refine ci_T.step cb_X9_alone_65 (ci_sq rfl (ci_sq (pe_push pc_10) (ci_sq pe_isub (ci_sq rfl (pe_ic_ge h12 h13))))) ?_
              refine pbr h (fun hc h => ?_) (fun hc h => ?_)
              · refine ci_T.step cb_X9_alone_99 (pe_push pc_m4) ?_
                cases h
                exact ci_T.done (v := some (.int _)) cd_X9_alone_101 ⟨rfl, rfl⟩
              · obtain ⟨h14, h⟩ := ck_some h
                obtain ⟨h15, h⟩ := ck_some h
                refine ci_T.step cb_X9_alone_74 (ci_sq rfl (ci_sq (pe_getR tq_62 rfl rfl) (ci_sq (pe_push pc_9) (ci_sq rfl (ci_sq (pe_push pc_10) (ci_sq pe_isub (ci_sq pe_imul (ci_sq rfl (ci_sq (pe_getR tq_62 rfl rfl) (ci_sq rfl (ci_sq (pe_push pc_10) (ci_sq pe_isub (ci_sq (pe_ald (nI := 3) tq_77 rfl rfl h14) (ci_sq pe_iadd (ci_sq (pe_ald (nI := 36) tq_78 rfl rfl h15) rfl))))))))))))))) ?_
                cases h
                exact ci_T.done (v := some (.int _)) cd_X9_alone_101 ⟨rfl, rfl⟩
            · refine ci_T.step cb_X9_alone_60 (ci_sq rfl rfl) ?_
              cases h
              exact ci_T.done (v := some (.int _)) cd_X9_alone_101 ⟨rfl, rfl⟩
        clear hj
        refine pbr h (fun hc h => ?_) (fun hc h => ?_)
        · exact ci_T.sub [0, 1, 2, 3] (J36 _ _ _ _ h) rfl
        · refine ci_T.step cb_X9_alone_20 (ci_sq rfl (ci_sq (pe_i2l h5) (ci_sq (pe_pushl pcl_10) (pe_pushl pcl_12)))) ?_
          obtain ⟨v16, hv, h⟩ := bn_some h
          refine ci_T.call (as := [_, _, _]) (rest := []) kc_X9_in ki_X9_in (by decide) cl_X9_alone_28 rfl (Nat.le_of_ble_eq_true rfl) trivial (s_X9_in (d + 6) o hv) ?_
          rintro _ _ ⟨⟨rfl, rfl⟩, hz17⟩
          clear hv
          refine ci_T.step cb_X9_alone_31 (pe_if_ne (Z_R hz17)) ?_
          refine pbrn h (fun hc h => ?_) (fun hc h => ?_)
          · exact ci_T.sub [0, 1, 2, 3] (J36 _ _ _ _ h) rfl
          · refine ci_T.step cb_X9_alone_34 (pe_push pc_m1) ?_
            cases h
            exact ci_T.done (v := some (.int _)) cd_X9_alone_35 ⟨rfl, rfl⟩
/-- X9_cutsOf -/
def L_X9_cutsOf_4  : Nat → Int → Int → Int → Option Int
  | 0, _, _, _ => none
  | n + 1, l0, l1, l2 => ck (inR l2) (if 3 ≤ l2 then some l1 else (f_X9_cutOf l0 l2).bind (fun v2 => ck (inR v2) (jn (fun (l0 l2 s0 s1 : Int) => (f_X9_flag s1).bind (fun v4 => jn (s0 + v4) (fun x5 => jn (l2 + 1) (fun x6 => L_X9_cutsOf_4 n l0 x5 x6)))) (fun j23 => if v2 < 0 then j23 l0 l2 l1 0 else j23 l0 l2 l1 1))))
def f_X9_cutsOf (l0 : Int) : Option Int := L_X9_cutsOf_4 fu l0 0 0
set_option maxRecDepth 100000 in
theorem t_X9_cutsOf_4 {d : Nat}   {ρ : pm} {o : pm} {rv : Int}   : ∀ (n : Nat) (l0 l1 l2 : Int), L_X9_cutsOf_4 n l0 l1 l2 = some rv → ci_T yX9_cutsOf cX9_cutsOf 3 (some .int) (d + 1) 4 ([(0, .int (Int32.ofInt l0)), (1, .int (Int32.ofInt l1)), (2, .int (Int32.ofInt l2))], [], pk false ρ o) (pP false rv ρ o) := by
  intro n
  induction n with
  | zero =>
    intro l0 l1 l2 h
    rw [L_X9_cutsOf_4] at h
    cases h
  | succ n ih =>
    intro l0 l1 l2 h
    rw [L_X9_cutsOf_4] at h
    obtain ⟨h1, h⟩ := ck_some h
    refine ci_T.step cb_X9_cutsOf_4 (ci_sq rfl (ci_sq (pe_push pc_3) (pe_ic_ge h1 pR_3))) ?_
    refine pbr h (fun hc h => ?_) (fun hc h => ?_)
    · refine ci_T.step cb_X9_cutsOf_34 rfl ?_
      cases h
      exact ci_T.done (v := some (.int _)) cd_X9_cutsOf_35 ⟨rfl, rfl⟩
    · refine ci_T.step cb_X9_cutsOf_9 (ci_sq rfl (ci_sq rfl rfl)) ?_
      obtain ⟨v2, hv, h⟩ := bn_some h
      refine ci_T.call (as := [_, _]) (rest := [_]) kc_X9_cutOf ki_X9_cutOf (by decide) cl_X9_cutsOf_12 rfl (Nat.le_of_ble_eq_true rfl) trivial (s_X9_cutOf d o hv) ?_
      rintro _ _ ⟨rfl, rfl⟩
      clear hv
      obtain ⟨h3, h⟩ := ck_some h
      refine ci_T.step cb_X9_cutsOf_15 (pe_if_lt h3) ?_
      obtain ⟨j23, hj, h⟩ := jn_ex h
      have J23 : ∀ (l0 l2 s0 s1 : Int), j23 l0 l2 s0 s1 = some rv → ci_T yX9_cutsOf cX9_cutsOf 3 (some .int) (d + 1) 23 ([(0, .int (Int32.ofInt l0)), (2, .int (Int32.ofInt l2))], [.int (Int32.ofInt s1), .int (Int32.ofInt s0)], pk false ρ o) (pP false rv ρ o) := by
        intro l0 l2 s0 s1 h
        subst hj
        obtain ⟨v4, hv, h⟩ := bn_some h
        refine ci_T.call (as := [_]) (rest := [_]) kc_X9_flag ki_X9_flag (by decide) cl_X9_cutsOf_23 rfl (Nat.le_of_ble_eq_true rfl) trivial (s_X9_flag d o hv) ?_
        rintro _ _ ⟨rfl, rfl⟩
        clear hv
        replace h := jn_some h
        replace h := jn_some h
        refine ci_T.step cb_X9_cutsOf_26 (ci_sq pe_iadd (ci_sq rfl (ci_sq (pe_inc rfl) rfl))) ?_
        exact ci_T.sub [2, 1, 0] (ih _ _ _ h) rfl
      clear hj
      refine pbr h (fun hc h => ?_) (fun hc h => ?_)
      · refine ci_T.step cb_X9_cutsOf_22 (pe_push pc_0) ?_
        exact ci_T.sub [0, 2] (J23 _ _ _ _ h) rfl
      · refine ci_T.step cb_X9_cutsOf_18 (ci_sq (pe_push pc_1) rfl) ?_
        exact ci_T.sub [0, 2] (J23 _ _ _ _ h) rfl
set_option maxRecDepth 100000 in
theorem s_X9_cutsOf (d : Nat)   {ρ : pm} (o : pm) {l0 : Int} {rv : Int} (h : f_X9_cutsOf l0 = some rv) : ci_Met (d + 1) (yX9_cutsOf, cX9_cutsOf, 3, (some .int), [], 0, 0) [.int (Int32.ofInt l0)] (pk false ρ o) (pP false rv ρ o) := by
  refine ci_met (by decide) (Nat.le_of_ble_eq_true rfl) ?_ ?_
  · rintro v w' ⟨rfl, rfl⟩
    trivial
  · change ci_T _ _ _ _ _ _ ([(0, .int (Int32.ofInt l0))], [], pk false ρ o) _
    unfold f_X9_cutsOf at h
    refine ci_T.step cb_X9_cutsOf_0 (ci_sq (pe_push pc_0) (ci_sq rfl (ci_sq (pe_push pc_0) rfl))) ?_
    exact ci_T.sub [2, 1, 0] (t_X9_cutsOf_4 fu _ _ _ h) rfl
/-- X9_together -/
def L_X9_together_34 (K136 : Int → Int → Int → pm → Option (Int × pm)) : Nat → Int → Int → Int → Int → Int → pm → Option (Int × pm)
  | 0, _, _, _, _, _, _ => none
  | n + 1, l1, l2, l3, l4, l5, ρ => (f_X9_allOptions ρ).bind (fun v7 => ck (inR l5) (ck (inR v7) (if v7 ≤ l5 then K136 l2 l3 l4 ρ else (f_X9_yearAt l5 ρ).bind (fun v10 => bn2 (f_X9_bedBy v10 ρ) (fun v11 ρ12 => jn (fun (l1 l2 l3 l4 l5 : Int) (ρ : pm) => jn (l5 + 1) (fun x13 => L_X9_together_34 K136 n l1 l2 l3 l4 x13 ρ)) (fun j130 => if (band (bshr v11 l1) 1) = 1 then (f_X9_cutsOf v10).bind (fun v14 => ck (inR l3) (jn (fun (l1 l2 l3 l4 l5 l6 l7 s0 : Int) (ρ : pm) => ck (inR s0) (jn (fun (l1 l2 l4 l5 l6 l8 s0 : Int) (ρ : pm) => ck (inR l8) (jn (fun (l1 l2 l3 l5 s0 : Int) (ρ : pm) => j130 l1 l2 l3 s0 l5 ρ) (fun j128 => if l8 = 0 then j128 l1 l2 s0 l5 l4 ρ else j128 l1 l2 s0 l5 l6 ρ))) (fun j115 => if s0 = 0 then j115 l1 l2 l4 l5 l6 s0 l3 ρ else j115 l1 l2 l4 l5 l6 s0 l7 ρ))) (fun j102 => jn (fun (l1 l2 l3 l4 l5 l6 l7 : Int) (ρ : pm) => j102 l1 l2 l3 l4 l5 l6 l7 1 ρ) (fun j97 => if l3 = (-4) then j97 l1 l2 l3 l4 l5 v10 v14 ρ12 else ck (inR v14) (if v14 < l3 then j97 l1 l2 l3 l4 l5 v10 v14 ρ12 else jn (fun (l1 l2 l3 l4 l5 l6 l7 : Int) (ρ : pm) => j102 l1 l2 l3 l4 l5 l6 l7 0 ρ) (fun j101 => if v14 = l3 then ck (inR v10) (ck (inR l4) (if l4 ≤ v10 then j101 l1 l2 l3 l4 l5 v10 v14 ρ12 else j97 l1 l2 l3 l4 l5 v10 v14 ρ12)) else j101 l1 l2 l3 l4 l5 v10 v14 ρ12)))))) else j130 l1 l2 l3 l4 l5 ρ12))))))
def f_X9_together (l1 l2 : Int) (ρ : pm) : Option (Int × pm) := (f_X9_isCell l1 ρ).bind (fun v1 => if v1 = 0 then some ((-1), ρ) else ck (inR l2) ((f_X9_in l2 0 1).bind (fun v4 => if v4 = 0 then some ((-1), ρ) else (f_X9_findOptions ρ).bind (fun ρ6 => L_X9_together_34 (fun (l2 l3 l4 : Int) (ρ : pm) => ck (inR l2) (if l2 = 0 then some (l3, ρ) else some (l4, ρ))) fu l1 l2 (-4) (-4) 0 ρ6))))
set_option maxRecDepth 100000 in
theorem t_X9_together_34 {d : Nat}    {o : pm} {rv : Int} {rρ : pm} {K136 : Int → Int → Int → pm → Option (Int × pm)} (hK136 : ∀ (l2 l3 l4 : Int) (ρ : pm), K136 l2 l3 l4 ρ = some (rv, rρ) → ci_T yX9_together cX9_together 9 (some .int) (d + 6) 136 ([(2, .int (Int32.ofInt l2)), (3, .int (Int32.ofInt l3)), (4, .int (Int32.ofInt l4))], [], pk false ρ o) (pP false rv rρ o)) : ∀ (n : Nat) (l1 l2 l3 l4 l5 : Int) (ρ : pm), L_X9_together_34 K136 n l1 l2 l3 l4 l5 ρ = some (rv, rρ) → ci_T yX9_together cX9_together 9 (some .int) (d + 6) 34 ([(0, .ref 63), (1, .int (Int32.ofInt l1)), (2, .int (Int32.ofInt l2)), (3, .int (Int32.ofInt l3)), (4, .int (Int32.ofInt l4)), (5, .int (Int32.ofInt l5))], [], pk false ρ o) (pP false rv rρ o) := by
  intro n
  induction n with
  | zero =>
    intro l1 l2 l3 l4 l5 ρ h
    rw [L_X9_together_34] at h
    cases h
  | succ n ih =>
    intro l1 l2 l3 l4 l5 ρ h
    rw [L_X9_together_34] at h
    refine ci_T.step cb_X9_together_34 (ci_sq rfl rfl) ?_
    obtain ⟨v7, hv, h⟩ := bn_some h
    refine ci_T.call (as := [_]) (rest := [_]) kc_X9_allOptions ki_X9_allOptions (by decide) cl_X9_together_37 rfl (Nat.le_of_ble_eq_true rfl) ⟨⟨_, rfl⟩, _, _, _, rfl, pk_obj tq_62 rfl _ _⟩ (s_X9_allOptions (d + 5) o hv) ?_
    rintro _ _ ⟨rfl, rfl⟩
    clear hv
    obtain ⟨h8, h⟩ := ck_some h
    obtain ⟨h9, h⟩ := ck_some h
    refine ci_T.step cb_X9_together_40 (pe_ic_ge h8 h9) ?_
    refine pbr h (fun hc h => ?_) (fun hc h => ?_)
    · exact ci_T.sub [2, 3, 4] (hK136 _ _ _ _ h) rfl
    · refine ci_T.step cb_X9_together_43 (ci_sq rfl rfl) ?_
      obtain ⟨v10, hv, h⟩ := bn_some h
      refine ci_T.call (as := [_, _]) (rest := []) kc_X9_yearAt ki_X9_yearAt (by decide) cl_X9_together_46 rfl (Nat.le_of_ble_eq_true rfl) ⟨⟨_, rfl⟩, _, _, _, rfl, pk_obj tq_62 rfl _ _⟩ (s_X9_yearAt (d + 4) o hv) ?_
      rintro _ _ ⟨rfl, rfl⟩
      clear hv
      refine ci_T.step cb_X9_together_49 (ci_sq rfl (ci_sq rfl rfl)) ?_
      obtain ⟨v11, ρ12, hv, h⟩ := bn2_some h
      refine ci_T.call (as := [_, _]) (rest := []) kc_X9_bedBy ki_X9_bedBy (by decide) cl_X9_together_54 rfl (Nat.le_of_ble_eq_true rfl) ⟨⟨_, rfl⟩, _, _, _, rfl, pk_obj tq_62 rfl _ _⟩ (s_X9_bedBy d o hv) ?_
      rintro _ _ ⟨rfl, rfl⟩
      clear hv
      refine ci_T.step cb_X9_together_57 (ci_sq rfl (ci_sq pe_ishr (ci_sq (pe_push pc_1) (ci_sq pe_iand (ci_sq (pe_push pc_1) (pe_ic_ne (band_R _ _) pR_1)))))) ?_
      obtain ⟨j130, hj, h⟩ := jn_ex h
      have J130 : ∀ (l1 l2 l3 l4 l5 : Int) (ρ : pm), j130 l1 l2 l3 l4 l5 ρ = some (rv, rρ) → ci_T yX9_together cX9_together 9 (some .int) (d + 6) 130 ([(0, .ref 63), (1, .int (Int32.ofInt l1)), (2, .int (Int32.ofInt l2)), (3, .int (Int32.ofInt l3)), (4, .int (Int32.ofInt l4)), (5, .int (Int32.ofInt l5))], [], pk false ρ o) (pP false rv rρ o) := by
        intro l1 l2 l3 l4 l5 ρ h
        subst hj
        replace h := jn_some h
        refine ci_T.step cb_X9_together_130 (ci_sq (pe_inc rfl) rfl) ?_
        exact ci_T.sub [1, 2, 3, 4, 5, 0] (ih _ _ _ _ _ _ h) rfl
      clear hj
      refine pbrn h (fun hc h => ?_) (fun hc h => ?_)
      · exact ci_T.sub [1, 2, 3, 4, 5, 6] (J130 _ _ _ _ _ _ h) rfl
      · refine ci_T.step cb_X9_together_65 rfl ?_
        obtain ⟨v14, hv, h⟩ := bn_some h
        refine ci_T.call (as := [_]) (rest := []) kc_X9_cutsOf ki_X9_cutsOf (by decide) cl_X9_together_67 rfl (Nat.le_of_ble_eq_true rfl) trivial (s_X9_cutsOf (d + 4) o hv) ?_
        rintro _ _ ⟨rfl, rfl⟩
        clear hv
        obtain ⟨h15, h⟩ := ck_some h
        refine ci_T.step cb_X9_together_70 (ci_sq rfl (ci_sq rfl (ci_sq (pe_push pc_m4) (pe_ic_eq h15 pR_m4)))) ?_
        obtain ⟨j102, hj, h⟩ := jn_ex h
        have J102 : ∀ (l1 l2 l3 l4 l5 l6 l7 s0 : Int) (ρ : pm), j102 l1 l2 l3 l4 l5 l6 l7 s0 ρ = some (rv, rρ) → ci_T yX9_together cX9_together 9 (some .int) (d + 6) 102 ([(0, .ref 63), (1, .int (Int32.ofInt l1)), (2, .int (Int32.ofInt l2)), (3, .int (Int32.ofInt l3)), (4, .int (Int32.ofInt l4)), (5, .int (Int32.ofInt l5)), (6, .int (Int32.ofInt l6)), (7, .int (Int32.ofInt l7))], [.int (Int32.ofInt s0)], pk false ρ o) (pP false rv rρ o) := by
          intro l1 l2 l3 l4 l5 l6 l7 s0 ρ h
          subst hj
          obtain ⟨h16, h⟩ := ck_some h
          refine ci_T.step cb_X9_together_102 (ci_sq rfl (ci_sq rfl (pe_if_eq h16))) ?_
          obtain ⟨j115, hj, h⟩ := jn_ex h
          have J115 : ∀ (l1 l2 l4 l5 l6 l8 s0 : Int) (ρ : pm), j115 l1 l2 l4 l5 l6 l8 s0 ρ = some (rv, rρ) → ci_T yX9_together cX9_together 9 (some .int) (d + 6) 115 ([(0, .ref 63), (1, .int (Int32.ofInt l1)), (2, .int (Int32.ofInt l2)), (4, .int (Int32.ofInt l4)), (5, .int (Int32.ofInt l5)), (6, .int (Int32.ofInt l6)), (8, .int (Int32.ofInt l8))], [.int (Int32.ofInt s0)], pk false ρ o) (pP false rv rρ o) := by
            intro l1 l2 l4 l5 l6 l8 s0 ρ h
            subst hj
            obtain ⟨h17, h⟩ := ck_some h
            refine ci_T.step cb_X9_together_115 (ci_sq rfl (ci_sq rfl (pe_if_eq h17))) ?_
            obtain ⟨j128, hj, h⟩ := jn_ex h
            have J128 : ∀ (l1 l2 l3 l5 s0 : Int) (ρ : pm), j128 l1 l2 l3 l5 s0 ρ = some (rv, rρ) → ci_T yX9_together cX9_together 9 (some .int) (d + 6) 128 ([(0, .ref 63), (1, .int (Int32.ofInt l1)), (2, .int (Int32.ofInt l2)), (3, .int (Int32.ofInt l3)), (5, .int (Int32.ofInt l5))], [.int (Int32.ofInt s0)], pk false ρ o) (pP false rv rρ o) := by
              intro l1 l2 l3 l5 s0 ρ h
              subst hj
              refine ci_T.step cb_X9_together_128 rfl ?_
              exact ci_T.sub [1, 2, 3, 4, 0, 5] (J130 _ _ _ _ _ _ h) rfl
            clear hj
            refine pbr h (fun hc h => ?_) (fun hc h => ?_)
            · refine ci_T.step cb_X9_together_126 rfl ?_
              exact ci_T.sub [1, 2, 3, 0, 5] (J128 _ _ _ _ _ _ h) rfl
            · refine ci_T.step cb_X9_together_121 (ci_sq rfl rfl) ?_
              exact ci_T.sub [1, 2, 3, 0, 5] (J128 _ _ _ _ _ _ h) rfl
          clear hj
          refine pbr h (fun hc h => ?_) (fun hc h => ?_)
          · refine ci_T.step cb_X9_together_114 rfl ?_
            exact ci_T.sub [1, 2, 3, 5, 6, 7, 0] (J115 _ _ _ _ _ _ _ _ h) rfl
          · refine ci_T.step cb_X9_together_109 (ci_sq rfl rfl) ?_
            exact ci_T.sub [1, 2, 3, 5, 6, 7, 0] (J115 _ _ _ _ _ _ _ _ h) rfl
        clear hj
        obtain ⟨j97, hj, h⟩ := jn_ex h
        have J97 : ∀ (l1 l2 l3 l4 l5 l6 l7 : Int) (ρ : pm), j97 l1 l2 l3 l4 l5 l6 l7 ρ = some (rv, rρ) → ci_T yX9_together cX9_together 9 (some .int) (d + 6) 97 ([(0, .ref 63), (1, .int (Int32.ofInt l1)), (2, .int (Int32.ofInt l2)), (3, .int (Int32.ofInt l3)), (4, .int (Int32.ofInt l4)), (5, .int (Int32.ofInt l5)), (6, .int (Int32.ofInt l6)), (7, .int (Int32.ofInt l7))], [], pk false ρ o) (pP false rv rρ o) := by
          intro l1 l2 l3 l4 l5 l6 l7 ρ h
          subst hj
          refine ci_T.step cb_X9_together_97 (ci_sq (pe_push pc_1) rfl) ?_
          exact ci_T.sub [0, 1, 2, 3, 4, 5, 6, 7] (J102 _ _ _ _ _ _ _ _ _ h) rfl
        clear hj
        refine pbr h (fun hc h => ?_) (fun hc h => ?_)
        · exact ci_T.sub [2, 3, 4, 5, 6, 7, 1, 0] (J97 _ _ _ _ _ _ _ _ h) rfl
        · obtain ⟨h18, h⟩ := ck_some h
          refine ci_T.step cb_X9_together_78 (ci_sq rfl (ci_sq rfl (pe_ic_lt h18 h15))) ?_
          refine pbr h (fun hc h => ?_) (fun hc h => ?_)
          · exact ci_T.sub [2, 3, 4, 5, 6, 7, 1, 0] (J97 _ _ _ _ _ _ _ _ h) rfl
          · refine ci_T.step cb_X9_together_84 (ci_sq rfl (ci_sq rfl (pe_ic_ne h18 h15))) ?_
            obtain ⟨j101, hj, h⟩ := jn_ex h
            have J101 : ∀ (l1 l2 l3 l4 l5 l6 l7 : Int) (ρ : pm), j101 l1 l2 l3 l4 l5 l6 l7 ρ = some (rv, rρ) → ci_T yX9_together cX9_together 9 (some .int) (d + 6) 101 ([(0, .ref 63), (1, .int (Int32.ofInt l1)), (2, .int (Int32.ofInt l2)), (3, .int (Int32.ofInt l3)), (4, .int (Int32.ofInt l4)), (5, .int (Int32.ofInt l5)), (6, .int (Int32.ofInt l6)), (7, .int (Int32.ofInt l7))], [], pk false ρ o) (pP false rv rρ o) := by
              intro l1 l2 l3 l4 l5 l6 l7 ρ h
              subst hj
              refine ci_T.step cb_X9_together_101 (pe_push pc_0) ?_
              exact ci_T.sub [0, 1, 2, 3, 4, 5, 6, 7] (J102 _ _ _ _ _ _ _ _ _ h) rfl
            clear hj
            refine pbrn h (fun hc h => ?_) (fun hc h => ?_)
            · exact ci_T.sub [2, 3, 4, 5, 6, 7, 1, 0] (J101 _ _ _ _ _ _ _ _ h) rfl
            · obtain ⟨h19, h⟩ := ck_some h
              obtain ⟨h20, h⟩ := ck_some h
              refine ci_T.step cb_X9_together_90 (ci_sq rfl (ci_sq rfl (pe_ic_ge h19 h20))) ?_
              refine pbr h (fun hc h => ?_) (fun hc h => ?_)
              · exact ci_T.sub [2, 3, 4, 5, 6, 7, 1, 0] (J101 _ _ _ _ _ _ _ _ h) rfl
              · exact ci_T.sub [2, 3, 4, 5, 6, 7, 1, 0] (J97 _ _ _ _ _ _ _ _ h) rfl
set_option maxRecDepth 100000 in
theorem s_X9_together (d : Nat)   {ρ : pm} (o : pm) {l1 l2 : Int} {rv : Int} {rρ : pm} (h : f_X9_together l1 l2 ρ = some (rv, rρ)) : ci_Met (d + 6) (yX9_together, cX9_together, 9, (some .int), [], 0, 0) [.ref 63, .int (Int32.ofInt l1), .int (Int32.ofInt l2)] (pk false ρ o) (pP false rv rρ o) := by
  refine ci_met (by decide) (Nat.le_of_ble_eq_true rfl) ?_ ?_
  · rintro v w' ⟨rfl, rfl⟩
    trivial
  · change ci_T _ _ _ _ _ _ ([(0, .ref 63), (1, .int (Int32.ofInt l1)), (2, .int (Int32.ofInt l2))], [], pk false ρ o) _
    unfold f_X9_together at h
    refine ci_T.step cb_X9_together_0 (ci_sq rfl rfl) ?_
    obtain ⟨v1, hv, h⟩ := bn_some h
    refine ci_T.call (as := [_, _]) (rest := []) kc_X9_isCell ki_X9_isCell (by decide) cl_X9_together_2 rfl (Nat.le_of_ble_eq_true rfl) ⟨⟨_, rfl⟩, _, _, _, rfl, pk_obj tq_62 rfl _ _⟩ (s_X9_isCell (d + 4) o hv) ?_
    rintro _ _ ⟨⟨rfl, rfl⟩, hz2⟩
    clear hv
    refine ci_T.step cb_X9_together_5 (pe_if_eq (Z_R hz2)) ?_
    refine pbr h (fun hc h => ?_) (fun hc h => ?_)
    · refine ci_T.step cb_X9_together_18 (pe_push pc_m1) ?_
      cases h
      exact ci_T.done (v := some (.int _)) cd_X9_together_19 ⟨rfl, rfl⟩
    · obtain ⟨h3, h⟩ := ck_some h
      refine ci_T.step cb_X9_together_8 (ci_sq rfl (ci_sq (pe_i2l h3) (ci_sq (pe_pushl pcl_0) (pe_pushl pcl_1)))) ?_
      obtain ⟨v4, hv, h⟩ := bn_some h
      refine ci_T.call (as := [_, _, _]) (rest := []) kc_X9_in ki_X9_in (by decide) cl_X9_together_12 rfl (Nat.le_of_ble_eq_true rfl) trivial (s_X9_in (d + 5) o hv) ?_
      rintro _ _ ⟨⟨rfl, rfl⟩, hz5⟩
      clear hv
      refine ci_T.step cb_X9_together_15 (pe_if_ne (Z_R hz5)) ?_
      refine pbrn h (fun hc h => ?_) (fun hc h => ?_)
      · refine ci_T.step cb_X9_together_20 rfl ?_
        obtain ⟨ρ6, hv, h⟩ := bn_some h
        refine ci_T.call (as := [_]) (rest := []) kc_X9_findOptions ki_X9_findOptions (by decide) cl_X9_together_21 rfl (Nat.le_of_ble_eq_true rfl) ⟨⟨_, rfl⟩, _, _, _, rfl, pk_obj tq_62 rfl _ _⟩ (s_X9_findOptions d o hv) ?_
        rintro _ _ ⟨rfl, rfl⟩
        clear hv
        refine ci_T.step cb_X9_together_24 (ci_sq (pe_push pc_m4) (ci_sq rfl (ci_sq (pe_push pc_m4) (ci_sq rfl (ci_sq (pe_push pc_0) rfl))))) ?_
        refine ci_T.sub [3, 4, 5, 2, 1, 0] (t_X9_together_34 ?_ fu _ _ _ _ _ _ h) rfl
        · intro l2 l3 l4 ρ h
          obtain ⟨h21, h⟩ := ck_some h
          refine ci_T.step cb_X9_together_136 (ci_sq rfl (pe_if_ne h21)) ?_
          refine pbrn h (fun hc h => ?_) (fun hc h => ?_)
          · refine ci_T.step cb_X9_together_144 rfl ?_
            cases h
            exact ci_T.done (v := some (.int _)) cd_X9_together_146 ⟨rfl, rfl⟩
          · refine ci_T.step cb_X9_together_140 (ci_sq rfl rfl) ?_
            cases h
            exact ci_T.done (v := some (.int _)) cd_X9_together_146 ⟨rfl, rfl⟩
      · refine ci_T.step cb_X9_together_18 (pe_push pc_m1) ?_
        cases h
        exact ci_T.done (v := some (.int _)) cd_X9_together_19 ⟨rfl, rfl⟩
/-- X9_lastOf -/
def L_X9_lastOf_9  : Nat → Int → Int → Int → Int → Int → pm → Option (Int × pm)
  | 0, _, _, _, _, _, _ => none
  | n + 1, l1, l2, l3, l4, l5, ρ => ck (inR l5) (ck (inR (ρ 75 2)) (if (ρ 75 2) ≤ l5 then some (l3, ρ) else ck (inR (ρ 62 4)) (jn (fun (l1 l2 l3 l4 l5 s0 : Int) (ρ : pm) => ck (inR s0) (ck (inR l4) (jn (fun (l1 l2 l4 l5 l6 s0 : Int) (ρ : pm) => ck (inR l6) (ck (inR l4) (jn (fun (l1 l2 l3 l5 s0 : Int) (ρ : pm) => jn (l5 + 1) (fun x8 => L_X9_lastOf_9 n l1 l2 l3 s0 x8 ρ)) (fun j75 => if l6 ≤ l4 then j75 l1 l2 s0 l5 l4 ρ else j75 l1 l2 s0 l5 l6 ρ)))) (fun j60 => if s0 ≤ l4 then j60 l1 l2 l4 l5 s0 l3 ρ else j60 l1 l2 l4 l5 s0 l5 ρ)))) (fun j45 => if (ρ 62 4) ≤ 2 then j45 l1 l2 l3 l4 l5 0 ρ else (f_X9_yearOf l1 l2 l5 ρ).bind (fun v9 => bn2 (f_X9_hasBy v9 2 ρ) (fun v10 ρ11 => j45 l1 l2 l3 l4 l5 v10 ρ11))))))
def f_X9_lastOf (l1 l2 : Int) (ρ : pm) : Option (Int × pm) := L_X9_lastOf_9 fu l1 l2 0 (-4) 0 ρ
set_option maxRecDepth 100000 in
theorem t_X9_lastOf_9 {d : Nat}    {o : pm} {rv : Int} {rρ : pm}   : ∀ (n : Nat) (l1 l2 l3 l4 l5 : Int) (ρ : pm), L_X9_lastOf_9 n l1 l2 l3 l4 l5 ρ = some (rv, rρ) → ci_T yX9_lastOf cX9_lastOf 7 (some .int) (d + 6) 9 ([(0, .ref 63), (1, .int (Int32.ofInt l1)), (2, .int (Int32.ofInt l2)), (3, .int (Int32.ofInt l3)), (4, .int (Int32.ofInt l4)), (5, .int (Int32.ofInt l5))], [], pk false ρ o) (pP false rv rρ o) := by
  intro n
  induction n with
  | zero =>
    intro l1 l2 l3 l4 l5 ρ h
    rw [L_X9_lastOf_9] at h
    cases h
  | succ n ih =>
    intro l1 l2 l3 l4 l5 ρ h
    rw [L_X9_lastOf_9] at h
    obtain ⟨h1, h⟩ := ck_some h
    obtain ⟨h2, h⟩ := ck_some h
    refine ci_T.step cb_X9_lastOf_9 (ci_sq rfl (ci_sq rfl (ci_sq (pe_getR tq_62 rfl rfl) (ci_sq (pe_push pc_2) (ci_sq (pe_ald (nI := 3) tq_75 rfl rfl ⟨by decide, by decide⟩) (pe_ic_ge h1 h2)))))) ?_
    refine pbr h (fun hc h => ?_) (fun hc h => ?_)
    · refine ci_T.step cb_X9_lastOf_83 rfl ?_
      cases h
      exact ci_T.done (v := some (.int _)) cd_X9_lastOf_84 ⟨rfl, rfl⟩
    · obtain ⟨h3, h⟩ := ck_some h
      refine ci_T.step cb_X9_lastOf_20 (ci_sq rfl (ci_sq (pe_getI (kI := 4) tq_62 rfl rfl rfl) (ci_sq (pe_push pc_2) (pe_ic_le h3 pR_2)))) ?_
      obtain ⟨j45, hj, h⟩ := jn_ex h
      have J45 : ∀ (l1 l2 l3 l4 l5 s0 : Int) (ρ : pm), j45 l1 l2 l3 l4 l5 s0 ρ = some (rv, rρ) → ci_T yX9_lastOf cX9_lastOf 7 (some .int) (d + 6) 45 ([(0, .ref 63), (1, .int (Int32.ofInt l1)), (2, .int (Int32.ofInt l2)), (3, .int (Int32.ofInt l3)), (4, .int (Int32.ofInt l4)), (5, .int (Int32.ofInt l5))], [.int (Int32.ofInt s0)], pk false ρ o) (pP false rv rρ o) := by
        intro l1 l2 l3 l4 l5 s0 ρ h
        subst hj
        obtain ⟨h4, h⟩ := ck_some h
        obtain ⟨h5, h⟩ := ck_some h
        refine ci_T.step cb_X9_lastOf_45 (ci_sq rfl (ci_sq rfl (ci_sq rfl (pe_ic_le h4 h5)))) ?_
        obtain ⟨j60, hj, h⟩ := jn_ex h
        have J60 : ∀ (l1 l2 l4 l5 l6 s0 : Int) (ρ : pm), j60 l1 l2 l4 l5 l6 s0 ρ = some (rv, rρ) → ci_T yX9_lastOf cX9_lastOf 7 (some .int) (d + 6) 60 ([(0, .ref 63), (1, .int (Int32.ofInt l1)), (2, .int (Int32.ofInt l2)), (4, .int (Int32.ofInt l4)), (5, .int (Int32.ofInt l5)), (6, .int (Int32.ofInt l6))], [.int (Int32.ofInt s0)], pk false ρ o) (pP false rv rρ o) := by
          intro l1 l2 l4 l5 l6 s0 ρ h
          subst hj
          obtain ⟨h6, h⟩ := ck_some h
          obtain ⟨h7, h⟩ := ck_some h
          refine ci_T.step cb_X9_lastOf_60 (ci_sq rfl (ci_sq rfl (ci_sq rfl (pe_ic_le h6 h7)))) ?_
          obtain ⟨j75, hj, h⟩ := jn_ex h
          have J75 : ∀ (l1 l2 l3 l5 s0 : Int) (ρ : pm), j75 l1 l2 l3 l5 s0 ρ = some (rv, rρ) → ci_T yX9_lastOf cX9_lastOf 7 (some .int) (d + 6) 75 ([(0, .ref 63), (1, .int (Int32.ofInt l1)), (2, .int (Int32.ofInt l2)), (3, .int (Int32.ofInt l3)), (5, .int (Int32.ofInt l5))], [.int (Int32.ofInt s0)], pk false ρ o) (pP false rv rρ o) := by
            intro l1 l2 l3 l5 s0 ρ h
            subst hj
            replace h := jn_some h
            refine ci_T.step cb_X9_lastOf_75 (ci_sq rfl (ci_sq (pe_inc rfl) rfl)) ?_
            exact ci_T.sub [2, 3, 4, 5, 1, 0] (ih _ _ _ _ _ _ h) rfl
          clear hj
          refine pbr h (fun hc h => ?_) (fun hc h => ?_)
          · refine ci_T.step cb_X9_lastOf_73 rfl ?_
            exact ci_T.sub [1, 2, 3, 0, 5] (J75 _ _ _ _ _ _ h) rfl
          · refine ci_T.step cb_X9_lastOf_68 (ci_sq rfl rfl) ?_
            exact ci_T.sub [1, 2, 3, 0, 5] (J75 _ _ _ _ _ _ h) rfl
        clear hj
        refine pbr h (fun hc h => ?_) (fun hc h => ?_)
        · refine ci_T.step cb_X9_lastOf_59 rfl ?_
          exact ci_T.sub [1, 2, 3, 5, 6, 0] (J60 _ _ _ _ _ _ _ h) rfl
        · refine ci_T.step cb_X9_lastOf_54 (ci_sq rfl rfl) ?_
          exact ci_T.sub [1, 2, 3, 5, 6, 0] (J60 _ _ _ _ _ _ _ h) rfl
      clear hj
      refine pbr h (fun hc h => ?_) (fun hc h => ?_)
      · refine ci_T.step cb_X9_lastOf_44 (pe_push pc_0) ?_
        exact ci_T.sub [0, 1, 2, 3, 4, 5] (J45 _ _ _ _ _ _ _ h) rfl
      · refine ci_T.step cb_X9_lastOf_28 (ci_sq rfl (ci_sq rfl (ci_sq rfl (ci_sq rfl rfl)))) ?_
        obtain ⟨v9, hv, h⟩ := bn_some h
        refine ci_T.call (as := [_, _, _, _]) (rest := [_]) kc_X9_yearOf ki_X9_yearOf (by decide) cl_X9_lastOf_34 rfl (Nat.le_of_ble_eq_true rfl) ⟨⟨_, rfl⟩, _, _, _, rfl, pk_obj tq_62 rfl _ _⟩ (s_X9_yearOf (d + 5) o hv) ?_
        rintro _ _ ⟨rfl, rfl⟩
        clear hv
        refine ci_T.step cb_X9_lastOf_37 (pe_push pc_2) ?_
        obtain ⟨v10, ρ11, hv, h⟩ := bn2_some h
        refine ci_T.call (as := [_, _, _]) (rest := []) kc_X9_hasBy ki_X9_hasBy (by decide) cl_X9_lastOf_38 rfl (Nat.le_of_ble_eq_true rfl) ⟨⟨_, rfl⟩, _, _, _, rfl, pk_obj tq_62 rfl _ _⟩ (s_X9_hasBy d o hv) ?_
        rintro _ _ ⟨rfl, rfl⟩
        clear hv
        refine ci_T.step cb_X9_lastOf_41 rfl ?_
        exact ci_T.sub [0, 1, 2, 3, 4, 5] (J45 _ _ _ _ _ _ _ h) rfl
set_option maxRecDepth 100000 in
theorem s_X9_lastOf (d : Nat)   {ρ : pm} (o : pm) {l1 l2 : Int} {rv : Int} {rρ : pm} (h : f_X9_lastOf l1 l2 ρ = some (rv, rρ)) : ci_Met (d + 6) (yX9_lastOf, cX9_lastOf, 7, (some .int), [], 0, 0) [.ref 63, .int (Int32.ofInt l1), .int (Int32.ofInt l2)] (pk false ρ o) (pP false rv rρ o) := by
  refine ci_met (by decide) (Nat.le_of_ble_eq_true rfl) ?_ ?_
  · rintro v w' ⟨rfl, rfl⟩
    trivial
  · change ci_T _ _ _ _ _ _ ([(0, .ref 63), (1, .int (Int32.ofInt l1)), (2, .int (Int32.ofInt l2))], [], pk false ρ o) _
    unfold f_X9_lastOf at h
    refine ci_T.step cb_X9_lastOf_0 (ci_sq (pe_push pc_0) (ci_sq rfl (ci_sq (pe_push pc_m4) (ci_sq rfl (ci_sq (pe_push pc_0) rfl))))) ?_
    exact ci_T.sub [3, 4, 5, 2, 1, 0] (t_X9_lastOf_9 fu _ _ _ _ _ _ h) rfl
/-- X9_secondOf -/
def L_X9_secondOf_8  : Nat → Int → Int → Int → Int → pm → Option (Int × pm)
  | 0, _, _, _, _, _ => none
  | n + 1, l1, l2, l3, l4, ρ => ck (inR l4) (ck (inR (ρ 75 1)) (if (ρ 75 1) ≤ l4 then some (l2, ρ) else ck (inR (ρ 62 4)) (jn (fun (l1 l2 l3 l4 s0 : Int) (ρ : pm) => ck (inR s0) (ck (inR l3) (jn (fun (l1 l3 l4 l5 s0 : Int) (ρ : pm) => ck (inR l5) (ck (inR l3) (jn (fun (l1 l2 l4 s0 : Int) (ρ : pm) => jn (l4 + 1) (fun x8 => L_X9_secondOf_8 n l1 l2 s0 x8 ρ)) (fun j77 => if l5 ≤ l3 then j77 l1 s0 l4 l3 ρ else j77 l1 s0 l4 l5 ρ)))) (fun j64 => if s0 ≤ l3 then j64 l1 l3 l4 s0 l2 ρ else j64 l1 l3 l4 s0 l4 ρ)))) (fun j50 => if (ρ 62 4) ≤ 1 then j50 l1 l2 l3 l4 0 ρ else bn2 (f_X9_lastOf l1 l4 ρ) (fun v9 ρ10 => (f_X9_yearOf l1 l4 v9 ρ10).bind (fun v11 => bn2 (f_X9_hasBy v11 1 ρ10) (fun v12 ρ13 => j50 l1 l2 l3 l4 v12 ρ13)))))))
def f_X9_secondOf (l1 : Int) (ρ : pm) : Option (Int × pm) := L_X9_secondOf_8 fu l1 0 (-4) 0 ρ
set_option maxRecDepth 100000 in
theorem t_X9_secondOf_8 {d : Nat}    {o : pm} {rv : Int} {rρ : pm}   : ∀ (n : Nat) (l1 l2 l3 l4 : Int) (ρ : pm), L_X9_secondOf_8 n l1 l2 l3 l4 ρ = some (rv, rρ) → ci_T yX9_secondOf cX9_secondOf 6 (some .int) (d + 7) 8 ([(0, .ref 63), (1, .int (Int32.ofInt l1)), (2, .int (Int32.ofInt l2)), (3, .int (Int32.ofInt l3)), (4, .int (Int32.ofInt l4))], [], pk false ρ o) (pP false rv rρ o) := by
  intro n
  induction n with
  | zero =>
    intro l1 l2 l3 l4 ρ h
    rw [L_X9_secondOf_8] at h
    cases h
  | succ n ih =>
    intro l1 l2 l3 l4 ρ h
    rw [L_X9_secondOf_8] at h
    obtain ⟨h1, h⟩ := ck_some h
    obtain ⟨h2, h⟩ := ck_some h
    refine ci_T.step cb_X9_secondOf_8 (ci_sq rfl (ci_sq rfl (ci_sq (pe_getR tq_62 rfl rfl) (ci_sq (pe_push pc_1) (ci_sq (pe_ald (nI := 3) tq_75 rfl rfl ⟨by decide, by decide⟩) (pe_ic_ge h1 h2)))))) ?_
    refine pbr h (fun hc h => ?_) (fun hc h => ?_)
    · refine ci_T.step cb_X9_secondOf_84 rfl ?_
      cases h
      exact ci_T.done (v := some (.int _)) cd_X9_secondOf_85 ⟨rfl, rfl⟩
    · obtain ⟨h3, h⟩ := ck_some h
      refine ci_T.step cb_X9_secondOf_19 (ci_sq rfl (ci_sq (pe_getI (kI := 4) tq_62 rfl rfl rfl) (ci_sq (pe_push pc_1) (pe_ic_le h3 pR_1)))) ?_
      obtain ⟨j50, hj, h⟩ := jn_ex h
      have J50 : ∀ (l1 l2 l3 l4 s0 : Int) (ρ : pm), j50 l1 l2 l3 l4 s0 ρ = some (rv, rρ) → ci_T yX9_secondOf cX9_secondOf 6 (some .int) (d + 7) 50 ([(0, .ref 63), (1, .int (Int32.ofInt l1)), (2, .int (Int32.ofInt l2)), (3, .int (Int32.ofInt l3)), (4, .int (Int32.ofInt l4))], [.int (Int32.ofInt s0)], pk false ρ o) (pP false rv rρ o) := by
        intro l1 l2 l3 l4 s0 ρ h
        subst hj
        obtain ⟨h4, h⟩ := ck_some h
        obtain ⟨h5, h⟩ := ck_some h
        refine ci_T.step cb_X9_secondOf_50 (ci_sq rfl (ci_sq rfl (ci_sq rfl (pe_ic_le h4 h5)))) ?_
        obtain ⟨j64, hj, h⟩ := jn_ex h
        have J64 : ∀ (l1 l3 l4 l5 s0 : Int) (ρ : pm), j64 l1 l3 l4 l5 s0 ρ = some (rv, rρ) → ci_T yX9_secondOf cX9_secondOf 6 (some .int) (d + 7) 64 ([(0, .ref 63), (1, .int (Int32.ofInt l1)), (3, .int (Int32.ofInt l3)), (4, .int (Int32.ofInt l4)), (5, .int (Int32.ofInt l5))], [.int (Int32.ofInt s0)], pk false ρ o) (pP false rv rρ o) := by
          intro l1 l3 l4 l5 s0 ρ h
          subst hj
          obtain ⟨h6, h⟩ := ck_some h
          obtain ⟨h7, h⟩ := ck_some h
          refine ci_T.step cb_X9_secondOf_64 (ci_sq rfl (ci_sq rfl (ci_sq rfl (pe_ic_le h6 h7)))) ?_
          obtain ⟨j77, hj, h⟩ := jn_ex h
          have J77 : ∀ (l1 l2 l4 s0 : Int) (ρ : pm), j77 l1 l2 l4 s0 ρ = some (rv, rρ) → ci_T yX9_secondOf cX9_secondOf 6 (some .int) (d + 7) 77 ([(0, .ref 63), (1, .int (Int32.ofInt l1)), (2, .int (Int32.ofInt l2)), (4, .int (Int32.ofInt l4))], [.int (Int32.ofInt s0)], pk false ρ o) (pP false rv rρ o) := by
            intro l1 l2 l4 s0 ρ h
            subst hj
            replace h := jn_some h
            refine ci_T.step cb_X9_secondOf_77 (ci_sq rfl (ci_sq (pe_inc rfl) rfl)) ?_
            exact ci_T.sub [2, 3, 4, 1, 0] (ih _ _ _ _ _ h) rfl
          clear hj
          refine pbr h (fun hc h => ?_) (fun hc h => ?_)
          · refine ci_T.step cb_X9_secondOf_76 rfl ?_
            exact ci_T.sub [1, 2, 0, 4] (J77 _ _ _ _ _ h) rfl
          · refine ci_T.step cb_X9_secondOf_71 (ci_sq rfl rfl) ?_
            exact ci_T.sub [1, 2, 0, 4] (J77 _ _ _ _ _ h) rfl
        clear hj
        refine pbr h (fun hc h => ?_) (fun hc h => ?_)
        · refine ci_T.step cb_X9_secondOf_63 rfl ?_
          exact ci_T.sub [1, 2, 4, 5, 0] (J64 _ _ _ _ _ _ h) rfl
        · refine ci_T.step cb_X9_secondOf_58 (ci_sq rfl rfl) ?_
          exact ci_T.sub [1, 2, 4, 5, 0] (J64 _ _ _ _ _ _ h) rfl
      clear hj
      refine pbr h (fun hc h => ?_) (fun hc h => ?_)
      · refine ci_T.step cb_X9_secondOf_49 (pe_push pc_0) ?_
        exact ci_T.sub [0, 1, 2, 3, 4] (J50 _ _ _ _ _ _ h) rfl
      · refine ci_T.step cb_X9_secondOf_27 (ci_sq rfl (ci_sq rfl (ci_sq rfl (ci_sq rfl (ci_sq rfl (ci_sq rfl rfl)))))) ?_
        obtain ⟨v9, ρ10, hv, h⟩ := bn2_some h
        refine ci_T.call (as := [_, _, _]) (rest := [_, _, _, _]) kc_X9_lastOf ki_X9_lastOf (by decide) cl_X9_secondOf_36 rfl (Nat.le_of_ble_eq_true rfl) ⟨⟨_, rfl⟩, _, _, _, rfl, pk_obj tq_62 rfl _ _⟩ (s_X9_lastOf d o hv) ?_
        rintro _ _ ⟨rfl, rfl⟩
        clear hv
        obtain ⟨v11, hv, h⟩ := bn_some h
        refine ci_T.call (as := [_, _, _, _]) (rest := [_]) kc_X9_yearOf ki_X9_yearOf (by decide) cl_X9_secondOf_39 rfl (Nat.le_of_ble_eq_true rfl) ⟨⟨_, rfl⟩, _, _, _, rfl, pk_obj tq_62 rfl _ _⟩ (s_X9_yearOf (d + 6) o hv) ?_
        rintro _ _ ⟨rfl, rfl⟩
        clear hv
        refine ci_T.step cb_X9_secondOf_42 (pe_push pc_1) ?_
        obtain ⟨v12, ρ13, hv, h⟩ := bn2_some h
        refine ci_T.call (as := [_, _, _]) (rest := []) kc_X9_hasBy ki_X9_hasBy (by decide) cl_X9_secondOf_43 rfl (Nat.le_of_ble_eq_true rfl) ⟨⟨_, rfl⟩, _, _, _, rfl, pk_obj tq_62 rfl _ _⟩ (s_X9_hasBy (d + 1) o hv) ?_
        rintro _ _ ⟨rfl, rfl⟩
        clear hv
        refine ci_T.step cb_X9_secondOf_46 rfl ?_
        exact ci_T.sub [0, 1, 2, 3, 4] (J50 _ _ _ _ _ _ h) rfl
set_option maxRecDepth 100000 in
theorem s_X9_secondOf (d : Nat)   {ρ : pm} (o : pm) {l1 : Int} {rv : Int} {rρ : pm} (h : f_X9_secondOf l1 ρ = some (rv, rρ)) : ci_Met (d + 7) (yX9_secondOf, cX9_secondOf, 6, (some .int), [], 0, 0) [.ref 63, .int (Int32.ofInt l1)] (pk false ρ o) (pP false rv rρ o) := by
  refine ci_met (by decide) (Nat.le_of_ble_eq_true rfl) ?_ ?_
  · rintro v w' ⟨rfl, rfl⟩
    trivial
  · change ci_T _ _ _ _ _ _ ([(0, .ref 63), (1, .int (Int32.ofInt l1))], [], pk false ρ o) _
    unfold f_X9_secondOf at h
    refine ci_T.step cb_X9_secondOf_0 (ci_sq (pe_push pc_0) (ci_sq rfl (ci_sq (pe_push pc_m4) (ci_sq rfl (ci_sq (pe_push pc_0) rfl))))) ?_
    exact ci_T.sub [3, 4, 2, 1, 0] (t_X9_secondOf_8 fu _ _ _ _ _ h) rfl
/-- X9_selfishYear -/
def L_X9_selfishYear_11 (K91 : Int → pm → Option (Int × pm)) : Nat → Int → Int → Int → pm → Option (Int × pm)
  | 0, _, _, _, _ => none
  | n + 1, l1, l2, l3, ρ => ck (inR l3) (ck (inR (ρ 75 0)) (if (ρ 75 0) ≤ l3 then K91 l1 ρ else bn2 (f_X9_secondOf l3 ρ) (fun v4 ρ5 => ck (inR (ρ5 62 4)) (jn (fun (l1 l2 l3 s0 : Int) (ρ : pm) => ck (inR s0) (ck (inR l2) (jn (fun (l2 l3 l5 s0 : Int) (ρ : pm) => ck (inR l5) (ck (inR l2) (jn (fun (l1 l3 s0 : Int) (ρ : pm) => jn (l3 + 1) (fun x11 => L_X9_selfishYear_11 K91 n l1 s0 x11 ρ)) (fun j84 => if l5 ≤ l2 then j84 s0 l3 l2 ρ else j84 s0 l3 l5 ρ)))) (fun j71 => if s0 ≤ l2 then j71 l2 l3 s0 l1 ρ else j71 l2 l3 s0 l3 ρ)))) (fun j58 => if (ρ5 62 4) ≤ 0 then j58 l1 l2 l3 0 ρ5 else bn2 (f_X9_lastOf l3 v4 ρ5) (fun v12 ρ13 => (f_X9_yearOf l3 v4 v12 ρ13).bind (fun v14 => bn2 (f_X9_hasBy v14 0 ρ13) (fun v15 ρ16 => j58 l1 l2 l3 v15 ρ16))))))))
def f_X9_selfishYear (ρ : pm) : Option (Int × pm) := (f_X9_findOptions ρ).bind (fun ρ1 => L_X9_selfishYear_11 (fun (l1 : Int) (ρ : pm) => bn2 (f_X9_secondOf l1 ρ) (fun v17 ρ18 => bn2 (f_X9_lastOf l1 v17 ρ18) (fun v19 ρ20 => (f_X9_yearOf l1 v17 v19 ρ20).bind (fun v21 => some (v21, ρ20))))) fu 0 (-4) 0 ρ1)
set_option maxRecDepth 100000 in
theorem t_X9_selfishYear_11 {d : Nat}    {o : pm} {rv : Int} {rρ : pm} {K91 : Int → pm → Option (Int × pm)} (hK91 : ∀ (l1 : Int) (ρ : pm), K91 l1 ρ = some (rv, rρ) → ci_T yX9_selfishYear cX9_selfishYear 6 (some .int) (d + 8) 91 ([(0, .ref 63), (1, .int (Int32.ofInt l1))], [], pk false ρ o) (pP false rv rρ o)) : ∀ (n : Nat) (l1 l2 l3 : Int) (ρ : pm), L_X9_selfishYear_11 K91 n l1 l2 l3 ρ = some (rv, rρ) → ci_T yX9_selfishYear cX9_selfishYear 6 (some .int) (d + 8) 11 ([(0, .ref 63), (1, .int (Int32.ofInt l1)), (2, .int (Int32.ofInt l2)), (3, .int (Int32.ofInt l3))], [], pk false ρ o) (pP false rv rρ o) := by
  intro n
  induction n with
  | zero =>
    intro l1 l2 l3 ρ h
    rw [L_X9_selfishYear_11] at h
    cases h
  | succ n ih =>
    intro l1 l2 l3 ρ h
    rw [L_X9_selfishYear_11] at h
    obtain ⟨h2, h⟩ := ck_some h
    obtain ⟨h3, h⟩ := ck_some h
    refine ci_T.step cb_X9_selfishYear_11 (ci_sq rfl (ci_sq rfl (ci_sq (pe_getR tq_62 rfl rfl) (ci_sq (pe_push pc_0) (ci_sq (pe_ald (nI := 3) tq_75 rfl rfl ⟨by decide, by decide⟩) (pe_ic_ge h2 h3)))))) ?_
    refine pbr h (fun hc h => ?_) (fun hc h => ?_)
    · exact ci_T.sub [0, 1] (hK91 _ _ h) rfl
    · refine ci_T.step cb_X9_selfishYear_21 (ci_sq rfl rfl) ?_
      obtain ⟨v4, ρ5, hv, h⟩ := bn2_some h
      refine ci_T.call (as := [_, _]) (rest := []) kc_X9_secondOf ki_X9_secondOf (by decide) cl_X9_selfishYear_23 rfl (Nat.le_of_ble_eq_true rfl) ⟨⟨_, rfl⟩, _, _, _, rfl, pk_obj tq_62 rfl _ _⟩ (s_X9_secondOf d o hv) ?_
      rintro _ _ ⟨rfl, rfl⟩
      clear hv
      obtain ⟨h6, h⟩ := ck_some h
      refine ci_T.step cb_X9_selfishYear_26 (ci_sq rfl (ci_sq rfl (ci_sq (pe_getI (kI := 4) tq_62 rfl rfl rfl) (pe_if_le h6)))) ?_
      obtain ⟨j58, hj, h⟩ := jn_ex h
      have J58 : ∀ (l1 l2 l3 s0 : Int) (ρ : pm), j58 l1 l2 l3 s0 ρ = some (rv, rρ) → ci_T yX9_selfishYear cX9_selfishYear 6 (some .int) (d + 8) 58 ([(0, .ref 63), (1, .int (Int32.ofInt l1)), (2, .int (Int32.ofInt l2)), (3, .int (Int32.ofInt l3))], [.int (Int32.ofInt s0)], pk false ρ o) (pP false rv rρ o) := by
        intro l1 l2 l3 s0 ρ h
        subst hj
        obtain ⟨h7, h⟩ := ck_some h
        obtain ⟨h8, h⟩ := ck_some h
        refine ci_T.step cb_X9_selfishYear_58 (ci_sq rfl (ci_sq rfl (ci_sq rfl (pe_ic_le h7 h8)))) ?_
        obtain ⟨j71, hj, h⟩ := jn_ex h
        have J71 : ∀ (l2 l3 l5 s0 : Int) (ρ : pm), j71 l2 l3 l5 s0 ρ = some (rv, rρ) → ci_T yX9_selfishYear cX9_selfishYear 6 (some .int) (d + 8) 71 ([(0, .ref 63), (2, .int (Int32.ofInt l2)), (3, .int (Int32.ofInt l3)), (5, .int (Int32.ofInt l5))], [.int (Int32.ofInt s0)], pk false ρ o) (pP false rv rρ o) := by
          intro l2 l3 l5 s0 ρ h
          subst hj
          obtain ⟨h9, h⟩ := ck_some h
          obtain ⟨h10, h⟩ := ck_some h
          refine ci_T.step cb_X9_selfishYear_71 (ci_sq rfl (ci_sq rfl (ci_sq rfl (pe_ic_le h9 h10)))) ?_
          obtain ⟨j84, hj, h⟩ := jn_ex h
          have J84 : ∀ (l1 l3 s0 : Int) (ρ : pm), j84 l1 l3 s0 ρ = some (rv, rρ) → ci_T yX9_selfishYear cX9_selfishYear 6 (some .int) (d + 8) 84 ([(0, .ref 63), (1, .int (Int32.ofInt l1)), (3, .int (Int32.ofInt l3))], [.int (Int32.ofInt s0)], pk false ρ o) (pP false rv rρ o) := by
            intro l1 l3 s0 ρ h
            subst hj
            replace h := jn_some h
            refine ci_T.step cb_X9_selfishYear_84 (ci_sq rfl (ci_sq (pe_inc rfl) rfl)) ?_
            exact ci_T.sub [2, 3, 1, 0] (ih _ _ _ _ h) rfl
          clear hj
          refine pbr h (fun hc h => ?_) (fun hc h => ?_)
          · refine ci_T.step cb_X9_selfishYear_83 rfl ?_
            exact ci_T.sub [1, 0, 3] (J84 _ _ _ _ h) rfl
          · refine ci_T.step cb_X9_selfishYear_78 (ci_sq rfl rfl) ?_
            exact ci_T.sub [1, 0, 3] (J84 _ _ _ _ h) rfl
        clear hj
        refine pbr h (fun hc h => ?_) (fun hc h => ?_)
        · refine ci_T.step cb_X9_selfishYear_70 rfl ?_
          exact ci_T.sub [1, 3, 4, 0] (J71 _ _ _ _ _ h) rfl
        · refine ci_T.step cb_X9_selfishYear_66 (ci_sq rfl rfl) ?_
          exact ci_T.sub [1, 3, 4, 0] (J71 _ _ _ _ _ h) rfl
      clear hj
      refine pbr h (fun hc h => ?_) (fun hc h => ?_)
      · refine ci_T.step cb_X9_selfishYear_57 (pe_push pc_0) ?_
        exact ci_T.sub [1, 2, 3, 4] (J58 _ _ _ _ _ h) rfl
      · refine ci_T.step cb_X9_selfishYear_35 (ci_sq rfl (ci_sq rfl (ci_sq rfl (ci_sq rfl (ci_sq rfl (ci_sq rfl rfl)))))) ?_
        obtain ⟨v12, ρ13, hv, h⟩ := bn2_some h
        refine ci_T.call (as := [_, _, _]) (rest := [_, _, _, _]) kc_X9_lastOf ki_X9_lastOf (by decide) cl_X9_selfishYear_44 rfl (Nat.le_of_ble_eq_true rfl) ⟨⟨_, rfl⟩, _, _, _, rfl, pk_obj tq_62 rfl _ _⟩ (s_X9_lastOf (d + 1) o hv) ?_
        rintro _ _ ⟨rfl, rfl⟩
        clear hv
        obtain ⟨v14, hv, h⟩ := bn_some h
        refine ci_T.call (as := [_, _, _, _]) (rest := [_]) kc_X9_yearOf ki_X9_yearOf (by decide) cl_X9_selfishYear_47 rfl (Nat.le_of_ble_eq_true rfl) ⟨⟨_, rfl⟩, _, _, _, rfl, pk_obj tq_62 rfl _ _⟩ (s_X9_yearOf (d + 7) o hv) ?_
        rintro _ _ ⟨rfl, rfl⟩
        clear hv
        refine ci_T.step cb_X9_selfishYear_50 (pe_push pc_0) ?_
        obtain ⟨v15, ρ16, hv, h⟩ := bn2_some h
        refine ci_T.call (as := [_, _, _]) (rest := []) kc_X9_hasBy ki_X9_hasBy (by decide) cl_X9_selfishYear_51 rfl (Nat.le_of_ble_eq_true rfl) ⟨⟨_, rfl⟩, _, _, _, rfl, pk_obj tq_62 rfl _ _⟩ (s_X9_hasBy (d + 2) o hv) ?_
        rintro _ _ ⟨rfl, rfl⟩
        clear hv
        refine ci_T.step cb_X9_selfishYear_54 rfl ?_
        exact ci_T.sub [1, 2, 3, 4] (J58 _ _ _ _ _ h) rfl
set_option maxRecDepth 100000 in
theorem s_X9_selfishYear (d : Nat)   {ρ : pm} (o : pm)  {rv : Int} {rρ : pm} (h : f_X9_selfishYear ρ = some (rv, rρ)) : ci_Met (d + 8) (yX9_selfishYear, cX9_selfishYear, 6, (some .int), [], 0, 0) [.ref 63] (pk false ρ o) (pP false rv rρ o) := by
  refine ci_met (by decide) (Nat.le_of_ble_eq_true rfl) ?_ ?_
  · rintro v w' ⟨rfl, rfl⟩
    trivial
  · change ci_T _ _ _ _ _ _ ([(0, .ref 63)], [], pk false ρ o) _
    unfold f_X9_selfishYear at h
    refine ci_T.step cb_X9_selfishYear_0 rfl ?_
    obtain ⟨ρ1, hv, h⟩ := bn_some h
    refine ci_T.call (as := [_]) (rest := []) kc_X9_findOptions ki_X9_findOptions (by decide) cl_X9_selfishYear_1 rfl (Nat.le_of_ble_eq_true rfl) ⟨⟨_, rfl⟩, _, _, _, rfl, pk_obj tq_62 rfl _ _⟩ (s_X9_findOptions (d + 2) o hv) ?_
    rintro _ _ ⟨rfl, rfl⟩
    clear hv
    refine ci_T.step cb_X9_selfishYear_4 (ci_sq (pe_push pc_0) (ci_sq rfl (ci_sq (pe_push pc_m4) (ci_sq rfl (ci_sq (pe_push pc_0) rfl))))) ?_
    refine ci_T.sub [3, 2, 1, 0] (t_X9_selfishYear_11 ?_ fu _ _ _ _ h) rfl
    · intro l1 ρ h
      refine ci_T.step cb_X9_selfishYear_91 (ci_sq rfl rfl) ?_
      obtain ⟨v17, ρ18, hv, h⟩ := bn2_some h
      refine ci_T.call (as := [_, _]) (rest := []) kc_X9_secondOf ki_X9_secondOf (by decide) cl_X9_selfishYear_93 rfl (Nat.le_of_ble_eq_true rfl) ⟨⟨_, rfl⟩, _, _, _, rfl, pk_obj tq_62 rfl _ _⟩ (s_X9_secondOf d o hv) ?_
      rintro _ _ ⟨rfl, rfl⟩
      clear hv
      refine ci_T.step cb_X9_selfishYear_96 (ci_sq rfl (ci_sq rfl (ci_sq rfl (ci_sq rfl (ci_sq rfl (ci_sq rfl rfl)))))) ?_
      obtain ⟨v19, ρ20, hv, h⟩ := bn2_some h
      refine ci_T.call (as := [_, _, _]) (rest := [_, _, _]) kc_X9_lastOf ki_X9_lastOf (by decide) cl_X9_selfishYear_103 rfl (Nat.le_of_ble_eq_true rfl) ⟨⟨_, rfl⟩, _, _, _, rfl, pk_obj tq_62 rfl _ _⟩ (s_X9_lastOf (d + 1) o hv) ?_
      rintro _ _ ⟨rfl, rfl⟩
      clear hv
      obtain ⟨v21, hv, h⟩ := bn_some h
      refine ci_T.call (as := [_, _, _, _]) (rest := []) kc_X9_yearOf ki_X9_yearOf (by decide) cl_X9_selfishYear_106 rfl (Nat.le_of_ble_eq_true rfl) ⟨⟨_, rfl⟩, _, _, _, rfl, pk_obj tq_62 rfl _ _⟩ (s_X9_yearOf (d + 7) o hv) ?_
      rintro _ _ ⟨rfl, rfl⟩
      clear hv
      cases h
      exact ci_T.done (v := some (.int _)) cd_X9_selfishYear_109 ⟨rfl, rfl⟩
/-- X9_selfish -/
def f_X9_selfish (l1 : Int) (ρ : pm) : Option (Int × pm) := ck (inR l1) (jn (fun (l1 : Int) (ρ : pm) => bn2 (f_X9_selfishYear ρ) (fun v2 ρ3 => ck (inR l1) (if l1 = 0 then some (v2, ρ3) else bn2 (f_X9_hasBy v2 (wr (l1 - 10)) ρ3) (fun v5 ρ6 => some (v5, ρ6))))) (fun j17 => if l1 = 0 then j17 l1 ρ else (f_X9_isFarm (wr (l1 - 10)) ρ).bind (fun v7 => if v7 = 0 then some ((-1), ρ) else j17 l1 ρ)))
set_option maxRecDepth 100000 in
theorem s_X9_selfish (d : Nat)   {ρ : pm} (o : pm) {l1 : Int} {rv : Int} {rρ : pm} (h : f_X9_selfish l1 ρ = some (rv, rρ)) : ci_Met (d + 9) (yX9_selfish, cX9_selfish, 3, (some .int), [], 0, 0) [.ref 63, .int (Int32.ofInt l1)] (pk false ρ o) (pP false rv rρ o) := by
  refine ci_met (by decide) (Nat.le_of_ble_eq_true rfl) ?_ ?_
  · rintro v w' ⟨rfl, rfl⟩
    trivial
  · change ci_T _ _ _ _ _ _ ([(0, .ref 63), (1, .int (Int32.ofInt l1))], [], pk false ρ o) _
    unfold f_X9_selfish at h
    obtain ⟨h1, h⟩ := ck_some h
    refine ci_T.step cb_X9_selfish_0 (ci_sq rfl (pe_if_eq h1)) ?_
    obtain ⟨j17, hj, h⟩ := jn_ex h
    have J17 : ∀ (l1 : Int) (ρ : pm), j17 l1 ρ = some (rv, rρ) → ci_T yX9_selfish cX9_selfish 3 (some .int) (d + 9) 17 ([(0, .ref 63), (1, .int (Int32.ofInt l1))], [], pk false ρ o) (pP false rv rρ o) := by
      intro l1 ρ h
      subst hj
      refine ci_T.step cb_X9_selfish_17 rfl ?_
      obtain ⟨v2, ρ3, hv, h⟩ := bn2_some h
      refine ci_T.call (as := [_]) (rest := []) kc_X9_selfishYear ki_X9_selfishYear (by decide) cl_X9_selfish_18 rfl (Nat.le_of_ble_eq_true rfl) ⟨⟨_, rfl⟩, _, _, _, rfl, pk_obj tq_62 rfl _ _⟩ (s_X9_selfishYear d o hv) ?_
      rintro _ _ ⟨rfl, rfl⟩
      clear hv
      obtain ⟨h4, h⟩ := ck_some h
      refine ci_T.step cb_X9_selfish_21 (ci_sq rfl (ci_sq rfl (pe_if_ne h4))) ?_
      refine pbrn h (fun hc h => ?_) (fun hc h => ?_)
      · refine ci_T.step cb_X9_selfish_30 (ci_sq rfl (ci_sq rfl (ci_sq rfl (ci_sq (pe_push pc_10) pe_isubw)))) ?_
        obtain ⟨v5, ρ6, hv, h⟩ := bn2_some h
        refine ci_T.call (as := [_, _, _]) (rest := []) kc_X9_hasBy ki_X9_hasBy (by decide) cl_X9_selfish_36 rfl (Nat.le_of_ble_eq_true rfl) ⟨⟨_, rfl⟩, _, _, _, rfl, pk_obj tq_62 rfl _ _⟩ (s_X9_hasBy (d + 3) o hv) ?_
        rintro _ _ ⟨rfl, rfl⟩
        clear hv
        cases h
        exact ci_T.done (v := some (.int _)) cd_X9_selfish_39 ⟨rfl, rfl⟩
      · refine ci_T.step cb_X9_selfish_26 (ci_sq rfl rfl) ?_
        cases h
        exact ci_T.done (v := some (.int _)) cd_X9_selfish_39 ⟨rfl, rfl⟩
    clear hj
    refine pbr h (fun hc h => ?_) (fun hc h => ?_)
    · exact ci_T.sub [0, 1] (J17 _ _ h) rfl
    · refine ci_T.step cb_X9_selfish_4 (ci_sq rfl (ci_sq rfl (ci_sq (pe_push pc_10) pe_isubw))) ?_
      obtain ⟨v7, hv, h⟩ := bn_some h
      refine ci_T.call (as := [_, _]) (rest := []) kc_X9_isFarm ki_X9_isFarm (by decide) cl_X9_selfish_9 rfl (Nat.le_of_ble_eq_true rfl) ⟨⟨_, rfl⟩, _, _, _, rfl, pk_obj tq_62 rfl _ _⟩ (s_X9_isFarm (d + 7) o hv) ?_
      rintro _ _ ⟨⟨rfl, rfl⟩, hz8⟩
      clear hv
      refine ci_T.step cb_X9_selfish_12 (pe_if_ne (Z_R hz8)) ?_
      refine pbrn h (fun hc h => ?_) (fun hc h => ?_)
      · exact ci_T.sub [0, 1] (J17 _ _ h) rfl
      · refine ci_T.step cb_X9_selfish_15 (pe_push pc_m1) ?_
        cases h
        exact ci_T.done (v := some (.int _)) cd_X9_selfish_16 ⟨rfl, rfl⟩
/-- X9_breaksOf -/
def L_X9_breaksOf_39 (K94 : Int → Int → Int → pm → Option (Int × pm)) : Nat → Int → Int → Int → Int → Int → Int → pm → Option (Int × pm)
  | 0, _, _, _, _, _, _, _ => none
  | n + 1, l1, l2, l3, l4, l5, l6, ρ => ck (0 ≤ l3 ∧ l3 < 3) (ck (inR l6) (ck (inR (ρ 75 l3)) (if (ρ 75 l3) ≤ l6 then K94 l1 l2 l3 ρ else ck (0 ≤ (9 * l3) + l6 ∧ (9 * l3) + l6 < 27) (bn2 (f_X9_hasBy (l4 + (ρ 74 ((9 * l3) + l6))) l3 ρ) (fun v12 ρ13 => ck (inR v12) (ck (inR l5) (jn (fun (l1 l3 l4 l5 l6 s0 s1 : Int) (ρ : pm) => (f_X9_flag s1).bind (fun v16 => jn (bor s0 (bshl v16 l3)) (fun x17 => jn (l6 + 1) (fun x18 => L_X9_breaksOf_39 K94 n l1 x17 l3 l4 l5 x18 ρ)))) (fun j81 => if v12 ≤ l5 then j81 l1 l3 l4 l5 l6 l2 0 ρ13 else j81 l1 l3 l4 l5 l6 l2 1 ρ13))))))))
def L_X9_breaksOf_4  : Nat → Int → Int → Int → pm → Option (Int × pm)
  | 0, _, _, _, _ => none
  | n + 1, l1, l2, l3, ρ => ck (inR l3) (ck (inR (ρ 62 4)) (if (ρ 62 4) ≤ l3 then some (l2, ρ) else (f_X9_timesOf l3).bind (fun v3 => (f_X9_cutOf l1 l3).bind (fun v4 => jn (l1 - (v3 * (v4 + 1))) (fun x5 => bn2 (f_X9_hasBy l1 l3 ρ) (fun v6 ρ7 => L_X9_breaksOf_39 (fun (l1 l2 l3 : Int) (ρ : pm) => jn (l3 + 1) (fun x19 => L_X9_breaksOf_4 n l1 l2 x19 ρ)) fu l1 l2 l3 x5 v6 0 ρ7))))))
def f_X9_breaksOf (l1 : Int) (ρ : pm) : Option (Int × pm) := L_X9_breaksOf_4 fu l1 0 0 ρ
set_option maxRecDepth 100000 in
theorem t_X9_breaksOf_39 {d : Nat}    {o : pm} {rv : Int} {rρ : pm} {K94 : Int → Int → Int → pm → Option (Int × pm)} (hK94 : ∀ (l1 l2 l3 : Int) (ρ : pm), K94 l1 l2 l3 ρ = some (rv, rρ) → ci_T yX9_breaksOf cX9_breaksOf 7 (some .int) (d + 6) 94 ([(0, .ref 63), (1, .int (Int32.ofInt l1)), (2, .int (Int32.ofInt l2)), (3, .int (Int32.ofInt l3))], [], pk false ρ o) (pP false rv rρ o)) : ∀ (n : Nat) (l1 l2 l3 l4 l5 l6 : Int) (ρ : pm), L_X9_breaksOf_39 K94 n l1 l2 l3 l4 l5 l6 ρ = some (rv, rρ) → ci_T yX9_breaksOf cX9_breaksOf 7 (some .int) (d + 6) 39 ([(0, .ref 63), (1, .int (Int32.ofInt l1)), (2, .int (Int32.ofInt l2)), (3, .int (Int32.ofInt l3)), (4, .int (Int32.ofInt l4)), (5, .int (Int32.ofInt l5)), (6, .int (Int32.ofInt l6))], [], pk false ρ o) (pP false rv rρ o) := by
  intro n
  induction n with
  | zero =>
    intro l1 l2 l3 l4 l5 l6 ρ h
    rw [L_X9_breaksOf_39] at h
    cases h
  | succ n ih =>
    intro l1 l2 l3 l4 l5 l6 ρ h
    rw [L_X9_breaksOf_39] at h
    obtain ⟨h8, h⟩ := ck_some h
    obtain ⟨h9, h⟩ := ck_some h
    obtain ⟨h10, h⟩ := ck_some h
    refine ci_T.step cb_X9_breaksOf_39 (ci_sq rfl (ci_sq rfl (ci_sq (pe_getR tq_62 rfl rfl) (ci_sq rfl (ci_sq (pe_ald (nI := 3) tq_75 rfl rfl h8) (pe_ic_ge h9 h10)))))) ?_
    refine pbr h (fun hc h => ?_) (fun hc h => ?_)
    · exact ci_T.sub [0, 1, 2, 3] (hK94 _ _ _ _ h) rfl
    · obtain ⟨h11, h⟩ := ck_some h
      refine ci_T.step cb_X9_breaksOf_50 (ci_sq rfl (ci_sq rfl (ci_sq rfl (ci_sq rfl (ci_sq (pe_getR tq_62 rfl rfl) (ci_sq (pe_push pc_9) (ci_sq rfl (ci_sq pe_imul (ci_sq rfl (ci_sq pe_iadd (ci_sq (pe_ald (nI := 27) tq_74 rfl rfl h11) (ci_sq pe_iadd rfl)))))))))))) ?_
      obtain ⟨v12, ρ13, hv, h⟩ := bn2_some h
      refine ci_T.call (as := [_, _, _]) (rest := [_]) kc_X9_hasBy ki_X9_hasBy (by decide) cl_X9_breaksOf_68 rfl (Nat.le_of_ble_eq_true rfl) ⟨⟨_, rfl⟩, _, _, _, rfl, pk_obj tq_62 rfl _ _⟩ (s_X9_hasBy d o hv) ?_
      rintro _ _ ⟨rfl, rfl⟩
      clear hv
      obtain ⟨h14, h⟩ := ck_some h
      obtain ⟨h15, h⟩ := ck_some h
      refine ci_T.step cb_X9_breaksOf_71 (ci_sq rfl (pe_ic_le h14 h15)) ?_
      obtain ⟨j81, hj, h⟩ := jn_ex h
      have J81 : ∀ (l1 l3 l4 l5 l6 s0 s1 : Int) (ρ : pm), j81 l1 l3 l4 l5 l6 s0 s1 ρ = some (rv, rρ) → ci_T yX9_breaksOf cX9_breaksOf 7 (some .int) (d + 6) 81 ([(0, .ref 63), (1, .int (Int32.ofInt l1)), (3, .int (Int32.ofInt l3)), (4, .int (Int32.ofInt l4)), (5, .int (Int32.ofInt l5)), (6, .int (Int32.ofInt l6))], [.int (Int32.ofInt s1), .int (Int32.ofInt s0)], pk false ρ o) (pP false rv rρ o) := by
        intro l1 l3 l4 l5 l6 s0 s1 ρ h
        subst hj
        obtain ⟨v16, hv, h⟩ := bn_some h
        refine ci_T.call (as := [_]) (rest := [_]) kc_X9_flag ki_X9_flag (by decide) cl_X9_breaksOf_81 rfl (Nat.le_of_ble_eq_true rfl) trivial (s_X9_flag (d + 5) o hv) ?_
        rintro _ _ ⟨rfl, rfl⟩
        clear hv
        replace h := jn_some h
        replace h := jn_some h
        refine ci_T.step cb_X9_breaksOf_84 (ci_sq rfl (ci_sq pe_ishl (ci_sq pe_ior (ci_sq rfl (ci_sq (pe_inc rfl) rfl))))) ?_
        exact ci_T.sub [2, 3, 1, 4, 5, 6, 0] (ih _ _ _ _ _ _ _ h) rfl
      clear hj
      refine pbr h (fun hc h => ?_) (fun hc h => ?_)
      · refine ci_T.step cb_X9_breaksOf_80 (pe_push pc_0) ?_
        exact ci_T.sub [0, 1, 3, 4, 5, 6] (J81 _ _ _ _ _ _ _ _ h) rfl
      · refine ci_T.step cb_X9_breaksOf_76 (ci_sq (pe_push pc_1) rfl) ?_
        exact ci_T.sub [0, 1, 3, 4, 5, 6] (J81 _ _ _ _ _ _ _ _ h) rfl
set_option maxRecDepth 100000 in
theorem t_X9_breaksOf_4 {d : Nat}    {o : pm} {rv : Int} {rρ : pm}   : ∀ (n : Nat) (l1 l2 l3 : Int) (ρ : pm), L_X9_breaksOf_4 n l1 l2 l3 ρ = some (rv, rρ) → ci_T yX9_breaksOf cX9_breaksOf 7 (some .int) (d + 6) 4 ([(0, .ref 63), (1, .int (Int32.ofInt l1)), (2, .int (Int32.ofInt l2)), (3, .int (Int32.ofInt l3))], [], pk false ρ o) (pP false rv rρ o) := by
  intro n
  induction n with
  | zero =>
    intro l1 l2 l3 ρ h
    rw [L_X9_breaksOf_4] at h
    cases h
  | succ n ih =>
    intro l1 l2 l3 ρ h
    rw [L_X9_breaksOf_4] at h
    obtain ⟨h1, h⟩ := ck_some h
    obtain ⟨h2, h⟩ := ck_some h
    refine ci_T.step cb_X9_breaksOf_4 (ci_sq rfl (ci_sq rfl (ci_sq (pe_getI (kI := 4) tq_62 rfl rfl rfl) (pe_ic_ge h1 h2)))) ?_
    refine pbr h (fun hc h => ?_) (fun hc h => ?_)
    · refine ci_T.step cb_X9_breaksOf_100 rfl ?_
      cases h
      exact ci_T.done (v := some (.int _)) cd_X9_breaksOf_101 ⟨rfl, rfl⟩
    · refine ci_T.step cb_X9_breaksOf_12 (ci_sq rfl rfl) ?_
      obtain ⟨v3, hv, h⟩ := bn_some h
      refine ci_T.call (as := [_]) (rest := [_]) kc_X9_timesOf ki_X9_timesOf (by decide) cl_X9_breaksOf_14 rfl (Nat.le_of_ble_eq_true rfl) trivial (s_X9_timesOf (d + 5) o hv) ?_
      rintro _ _ ⟨rfl, rfl⟩
      clear hv
      refine ci_T.step cb_X9_breaksOf_17 (ci_sq rfl rfl) ?_
      obtain ⟨v4, hv, h⟩ := bn_some h
      refine ci_T.call (as := [_, _]) (rest := [_, _]) kc_X9_cutOf ki_X9_cutOf (by decide) cl_X9_breaksOf_19 rfl (Nat.le_of_ble_eq_true rfl) trivial (s_X9_cutOf (d + 5) o hv) ?_
      rintro _ _ ⟨rfl, rfl⟩
      clear hv
      replace h := jn_some h
      refine ci_T.step cb_X9_breaksOf_22 (ci_sq (pe_push pc_1) (ci_sq pe_iadd (ci_sq pe_imul (ci_sq pe_isub (ci_sq rfl (ci_sq rfl (ci_sq rfl rfl))))))) ?_
      obtain ⟨v6, ρ7, hv, h⟩ := bn2_some h
      refine ci_T.call (as := [_, _, _]) (rest := []) kc_X9_hasBy ki_X9_hasBy (by decide) cl_X9_breaksOf_31 rfl (Nat.le_of_ble_eq_true rfl) ⟨⟨_, rfl⟩, _, _, _, rfl, pk_obj tq_62 rfl _ _⟩ (s_X9_hasBy d o hv) ?_
      rintro _ _ ⟨rfl, rfl⟩
      clear hv
      refine ci_T.step cb_X9_breaksOf_34 (ci_sq rfl (ci_sq (pe_push pc_0) rfl)) ?_
      refine ci_T.sub [3, 4, 5, 6, 2, 1, 0] (t_X9_breaksOf_39 ?_ fu _ _ _ _ _ _ _ h) rfl
      · intro l1 l2 l3 ρ h
        replace h := jn_some h
        refine ci_T.step cb_X9_breaksOf_94 (ci_sq (pe_inc rfl) rfl) ?_
        exact ci_T.sub [1, 2, 3, 0] (ih _ _ _ _ h) rfl
set_option maxRecDepth 100000 in
theorem s_X9_breaksOf (d : Nat)   {ρ : pm} (o : pm) {l1 : Int} {rv : Int} {rρ : pm} (h : f_X9_breaksOf l1 ρ = some (rv, rρ)) : ci_Met (d + 6) (yX9_breaksOf, cX9_breaksOf, 7, (some .int), [], 0, 0) [.ref 63, .int (Int32.ofInt l1)] (pk false ρ o) (pP false rv rρ o) := by
  refine ci_met (by decide) (Nat.le_of_ble_eq_true rfl) ?_ ?_
  · rintro v w' ⟨rfl, rfl⟩
    trivial
  · change ci_T _ _ _ _ _ _ ([(0, .ref 63), (1, .int (Int32.ofInt l1))], [], pk false ρ o) _
    unfold f_X9_breaksOf at h
    refine ci_T.step cb_X9_breaksOf_0 (ci_sq (pe_push pc_0) (ci_sq rfl (ci_sq (pe_push pc_0) rfl))) ?_
    exact ci_T.sub [2, 3, 1, 0] (t_X9_breaksOf_4 fu _ _ _ _ h) rfl
