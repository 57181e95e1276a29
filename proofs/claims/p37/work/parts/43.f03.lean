/-- X8_selfish -/
def f_X8_selfish (l1 : Int) (ρ : pm) : Option (Int × pm) := ck (inR l1) (jn (fun (l1 : Int) (ρ : pm) => (f_X8_lookAhead ρ).bind (fun ρ2 => (f_X4_chosen 4 0 0 ρ2).bind (fun v3 => ck (inR l1) (if l1 = 0 then ck (0 ≤ v3 ∧ v3 < 729) (some (ρ2 32 v3, ρ2)) else ck (0 ≤ v3 ∧ v3 < 729) ((f_X7_gain (l1 - 10) (ρ2 33 v3) ρ2).bind (fun v6 => some (v6, ρ2))))))) (fun j26 => if l1 = 0 then j26 l1 ρ else if l1 < 10 then some ((-1), ρ) else (f_X3_hasFarm (l1 - 10) ρ).bind (fun v8 => if v8 = 0 then some ((-1), ρ) else j26 l1 ρ)))
set_option maxRecDepth 100000 in
theorem s_X8_selfish (d : Nat)   {ρ : pm} (o : pm) {l1 : Int} {rv : Int} {rρ : pm} (h : f_X8_selfish l1 ρ = some (rv, rρ)) : ci_Met (d + 7) (yX8_selfish, cX8_selfish, 3, (some .int), [], 0, 0) [.ref 1, .int (Int32.ofInt l1)] (pk true ρ o) (pP true rv rρ o) := by
  refine ci_met (by decide) (Nat.le_of_ble_eq_true rfl) ?_ ?_
  · rintro v w' ⟨rfl, rfl⟩
    trivial
  · change ci_T _ _ _ _ _ _ ([(0, .ref 1), (1, .int (Int32.ofInt l1))], [], pk true ρ o) _
    unfold f_X8_selfish at h
    obtain ⟨h1, h⟩ := ck_some h
    refine ci_T.step cb_X8_selfish_0 (ci_sq rfl (pe_if_eq h1)) ?_
    obtain ⟨j26, hj, h⟩ := jn_ex h
    have J26 : ∀ (l1 : Int) (ρ : pm), j26 l1 ρ = some (rv, rρ) → ci_T yX8_selfish cX8_selfish 3 (some .int) (d + 7) 26 ([(0, .ref 1), (1, .int (Int32.ofInt l1))], [], pk true ρ o) (pP true rv rρ o) := by
      intro l1 ρ h
      subst hj
      refine ci_T.step cb_X8_selfish_26 rfl ?_
      obtain ⟨ρ2, hv, h⟩ := bn_some h
      refine ci_T.call (as := [_]) (rest := []) kc_X8_lookAhead ki_X8_lookAhead (by decide) cl_X8_selfish_27 rfl (Nat.le_of_ble_eq_true rfl) ⟨⟨_, rfl⟩, _, _, _, rfl, pk_obj tq_0 rfl _ _⟩ (s_X8_lookAhead (d + 1) o hv) ?_
      rintro _ _ ⟨rfl, rfl⟩
      clear hv
      refine ci_T.step cb_X8_selfish_30 (ci_sq rfl (ci_sq (pe_getR tq_0 rfl rfl) (ci_sq rfl (ci_sq (pe_getR tq_0 rfl rfl) (ci_sq (pe_push pc_0) (pe_push pc_0)))))) ?_
      obtain ⟨v3, hv, h⟩ := bn_some h
      refine ci_T.call (as := [_, _, _, _]) (rest := []) kc_X4_chosen ki_X4_chosen (by decide) cl_X8_selfish_40 rfl (Nat.le_of_ble_eq_true rfl) ⟨⟨_, rfl⟩, _, _, _, rfl, pk_obj tq_28 rfl _ _⟩ (s_X4_chosen 4 d o hv) ?_
      rintro _ _ ⟨rfl, rfl⟩
      clear hv
      obtain ⟨h4, h⟩ := ck_some h
      refine ci_T.step cb_X8_selfish_43 (ci_sq rfl (ci_sq rfl (pe_if_ne h4))) ?_
      refine pbrn h (fun hc h => ?_) (fun hc h => ?_)
      · obtain ⟨h5, h⟩ := ck_some h
        refine ci_T.step cb_X8_selfish_60 (ci_sq rfl (ci_sq (pe_getR tq_0 rfl rfl) (ci_sq rfl (ci_sq (pe_push pc_10) (ci_sq pe_isub (ci_sq rfl (ci_sq (pe_getR tq_0 rfl rfl) (ci_sq (pe_getR tq_28 rfl rfl) (ci_sq rfl (pe_ald (nI := 729) tq_33 rfl rfl h5)))))))))) ?_
        obtain ⟨v6, hv, h⟩ := bn_some h
        refine ci_T.call (as := [_, _, _]) (rest := []) kc_X7_gain ki_X7_gain (by decide) cl_X8_selfish_77 rfl (Nat.le_of_ble_eq_true rfl) ⟨⟨_, rfl⟩, _, _, _, rfl, pk_obj tq_4 rfl _ _⟩ (s_X7_gain (d + 5) o hv) ?_
        rintro _ _ ⟨rfl, rfl⟩
        clear hv
        cases h
        exact ci_T.done (v := some (.int _)) cd_X8_selfish_80 ⟨rfl, rfl⟩
      · obtain ⟨h7, h⟩ := ck_some h
        refine ci_T.step cb_X8_selfish_48 (ci_sq rfl (ci_sq (pe_getR tq_0 rfl rfl) (ci_sq (pe_getR tq_28 rfl rfl) (ci_sq rfl (ci_sq (pe_ald (nI := 729) tq_32 rfl rfl h7) rfl))))) ?_
        cases h
        exact ci_T.done (v := some (.int _)) cd_X8_selfish_80 ⟨rfl, rfl⟩
    clear hj
    refine pbr h (fun hc h => ?_) (fun hc h => ?_)
    · exact ci_T.sub [0, 1] (J26 _ _ h) rfl
    · refine ci_T.step cb_X8_selfish_4 (ci_sq rfl (ci_sq (pe_push pc_10) (pe_ic_lt h1 pR_10))) ?_
      refine pbr h (fun hc h => ?_) (fun hc h => ?_)
      · refine ci_T.step cb_X8_selfish_24 (pe_push pc_m1) ?_
        cases h
        exact ci_T.done (v := some (.int _)) cd_X8_selfish_25 ⟨rfl, rfl⟩
      · refine ci_T.step cb_X8_selfish_10 (ci_sq rfl (ci_sq (pe_getR tq_0 rfl rfl) (ci_sq rfl (ci_sq (pe_push pc_10) pe_isub)))) ?_
        obtain ⟨v8, hv, h⟩ := bn_some h
        refine ci_T.call (as := [_, _]) (rest := []) kc_X3_hasFarm ki_X3_hasFarm (by decide) cl_X8_selfish_18 rfl (Nat.le_of_ble_eq_true rfl) ⟨⟨_, rfl⟩, _, _, _, rfl, pk_obj tq_1 rfl _ _⟩ (s_X3_hasFarm (d + 6) o hv) ?_
        rintro _ _ ⟨⟨rfl, rfl⟩, hz9⟩
        clear hv
        refine ci_T.step cb_X8_selfish_21 (pe_if_ne (Z_R hz9)) ?_
        refine pbrn h (fun hc h => ?_) (fun hc h => ?_)
        · exact ci_T.sub [0, 1] (J26 _ _ h) rfl
        · refine ci_T.step cb_X8_selfish_24 (pe_push pc_m1) ?_
          cases h
          exact ci_T.done (v := some (.int _)) cd_X8_selfish_25 ⟨rfl, rfl⟩
/-- X4_placeOf -/
def L_X4_placeOf_2 (ρ : pm) : Nat → Int → Int → Int → Option Int
  | 0, _, _, _ => none
  | n + 1, l1, l2, l3 => ck (0 ≤ l1 ∧ l1 < 3) (ck (inR l3) (ck (inR (ρ 30 l1)) (if (ρ 30 l1) ≤ l3 then some 0 else ck (0 ≤ (l1 * 9) + l3 ∧ (l1 * 9) + l3 < 27) (ck (inR (ρ 29 ((l1 * 9) + l3))) (ck (inR l2) (if (ρ 29 ((l1 * 9) + l3)) = l2 then some l3 else jn (l3 + 1) (fun x7 => L_X4_placeOf_2 ρ n l1 l2 x7)))))))
def f_X4_placeOf (l1 l2 : Int) (ρ : pm) : Option Int := L_X4_placeOf_2 ρ fu l1 l2 0
set_option maxRecDepth 100000 in
theorem t_X4_placeOf_2 {d : Nat}   {ρ : pm} {o : pm} {rv : Int}   : ∀ (n : Nat) (l1 l2 l3 : Int), L_X4_placeOf_2 ρ n l1 l2 l3 = some rv → ci_T yX4_placeOf cX4_placeOf 4 (some .int) d 2 ([(0, .ref 29), (1, .int (Int32.ofInt l1)), (2, .int (Int32.ofInt l2)), (3, .int (Int32.ofInt l3))], [], pk true ρ o) (pP true rv ρ o) := by
  intro n
  induction n with
  | zero =>
    intro l1 l2 l3 h
    rw [L_X4_placeOf_2] at h
    cases h
  | succ n ih =>
    intro l1 l2 l3 h
    rw [L_X4_placeOf_2] at h
    obtain ⟨h1, h⟩ := ck_some h
    obtain ⟨h2, h⟩ := ck_some h
    obtain ⟨h3, h⟩ := ck_some h
    refine ci_T.step cb_X4_placeOf_2 (ci_sq rfl (ci_sq rfl (ci_sq (pe_getR tq_28 rfl rfl) (ci_sq rfl (ci_sq (pe_ald (nI := 3) tq_30 rfl rfl h1) (pe_ic_ge h2 h3)))))) ?_
    refine pbr h (fun hc h => ?_) (fun hc h => ?_)
    · refine ci_T.step cb_X4_placeOf_35 (pe_push pc_0) ?_
      cases h
      exact ci_T.done (v := some (.int _)) cd_X4_placeOf_36 ⟨rfl, rfl⟩
    · obtain ⟨h4, h⟩ := ck_some h
      obtain ⟨h5, h⟩ := ck_some h
      obtain ⟨h6, h⟩ := ck_some h
      refine ci_T.step cb_X4_placeOf_12 (ci_sq rfl (ci_sq (pe_getR tq_28 rfl rfl) (ci_sq rfl (ci_sq (pe_push pc_9) (ci_sq pe_imul (ci_sq rfl (ci_sq pe_iadd (ci_sq (pe_ald (nI := 27) tq_29 rfl rfl h4) (ci_sq rfl (pe_ic_ne h5 h6)))))))))) ?_
      refine pbrn h (fun hc h => ?_) (fun hc h => ?_)
      · replace h := jn_some h
        refine ci_T.step cb_X4_placeOf_29 (ci_sq (pe_inc rfl) rfl) ?_
        exact ci_T.sub [1, 2, 3, 0] (ih _ _ _ h) rfl
      · refine ci_T.step cb_X4_placeOf_27 rfl ?_
        cases h
        exact ci_T.done (v := some (.int _)) cd_X4_placeOf_28 ⟨rfl, rfl⟩
set_option maxRecDepth 100000 in
theorem s_X4_placeOf (d : Nat)   {ρ : pm} (o : pm) {l1 l2 : Int} {rv : Int} (h : f_X4_placeOf l1 l2 ρ = some rv) : ci_Met d (yX4_placeOf, cX4_placeOf, 4, (some .int), [], 0, 0) [.ref 29, .int (Int32.ofInt l1), .int (Int32.ofInt l2)] (pk true ρ o) (pP true rv ρ o) := by
  refine ci_met (by decide) (Nat.le_of_ble_eq_true rfl) ?_ ?_
  · rintro v w' ⟨rfl, rfl⟩
    trivial
  · change ci_T _ _ _ _ _ _ ([(0, .ref 29), (1, .int (Int32.ofInt l1)), (2, .int (Int32.ofInt l2))], [], pk true ρ o) _
    unfold f_X4_placeOf at h
    refine ci_T.step cb_X4_placeOf_0 (ci_sq (pe_push pc_0) rfl) ?_
    exact ci_T.sub [1, 2, 3, 0] (t_X4_placeOf_2 fu _ _ _ h) rfl
/-- X4_breakers -/
def L_X4_breakers_57 (ρ : pm) (K111 : Int → Int → Int → Option Int) : Nat → Int → Int → Int → Int → Int → Int → Option Int
  | 0, _, _, _, _, _, _ => none
  | n + 1, l2, l3, l4, l5, l6, l7 => ck (0 ≤ l4 ∧ l4 < 3) (ck (inR l7) (ck (inR (ρ 30 l4)) (if (ρ 30 l4) ≤ l7 then K111 l2 l3 l4 else ck (0 ≤ l5 + (l7 * (ρ 31 l4)) ∧ l5 + (l7 * (ρ 31 l4)) < 729) ((f_X7_gain l4 (ρ 33 (l5 + (l7 * (ρ 31 l4)))) ρ).bind (fun v12 => ck (inR v12) (ck (inR l6) (jn (fun (l2 l3 l4 l5 l6 l7 : Int) => jn (l7 + 1) (fun x15 => L_X4_breakers_57 ρ K111 n l2 l3 l4 l5 l6 x15)) (fun j105 => if v12 ≤ l6 then j105 l2 l3 l4 l5 l6 l7 else jn (bor l3 (bshl 1 l4)) (fun x16 => j105 l2 x16 l4 l5 l6 l7)))))))))
def L_X4_breakers_5 (ρ : pm) : Nat → Int → Int → Int → Option Int
  | 0, _, _, _ => none
  | n + 1, l2, l3, l4 => ck (inR l4) (if 3 ≤ l4 then some l3 else ck (0 ≤ l4 ∧ l4 < 3) (ck (0 ≤ l2 ∧ l2 < 729) ((f_X8_option (ρ 32 l2) l4).bind (fun v4 => (f_X4_placeOf l4 v4 ρ).bind (fun v5 => jn (l2 - ((ρ 31 l4) * v5)) (fun x6 => (f_X7_gain l4 (ρ 33 l2) ρ).bind (fun v7 => L_X4_breakers_57 ρ (fun (l2 l3 l4 : Int) => jn (l4 + 1) (fun x17 => L_X4_breakers_5 ρ n l2 l3 x17)) fu l2 l3 l4 x6 v7 0)))))))
def f_X4_breakers (l2 : Int) (ρ : pm) : Option Int := L_X4_breakers_5 ρ fu l2 0 0
set_option maxRecDepth 100000 in
theorem t_X4_breakers_57 {d : Nat}   {ρ : pm} {o : pm} {rv : Int} {K111 : Int → Int → Int → Option Int} (hK111 : ∀ (l2 l3 l4 : Int), K111 l2 l3 l4 = some rv → ci_T yX4_breakers cX4_breakers 8 (some .int) (d + 2) 111 ([(0, .ref 29), (1, .ref 5), (2, .int (Int32.ofInt l2)), (3, .int (Int32.ofInt l3)), (4, .int (Int32.ofInt l4))], [], pk true ρ o) (pP true rv ρ o)) : ∀ (n : Nat) (l2 l3 l4 l5 l6 l7 : Int), L_X4_breakers_57 ρ K111 n l2 l3 l4 l5 l6 l7 = some rv → ci_T yX4_breakers cX4_breakers 8 (some .int) (d + 2) 57 ([(0, .ref 29), (1, .ref 5), (2, .int (Int32.ofInt l2)), (3, .int (Int32.ofInt l3)), (4, .int (Int32.ofInt l4)), (5, .int (Int32.ofInt l5)), (6, .int (Int32.ofInt l6)), (7, .int (Int32.ofInt l7))], [], pk true ρ o) (pP true rv ρ o) := by
  intro n
  induction n with
  | zero =>
    intro l2 l3 l4 l5 l6 l7 h
    rw [L_X4_breakers_57] at h
    cases h
  | succ n ih =>
    intro l2 l3 l4 l5 l6 l7 h
    rw [L_X4_breakers_57] at h
    obtain ⟨h8, h⟩ := ck_some h
    obtain ⟨h9, h⟩ := ck_some h
    obtain ⟨h10, h⟩ := ck_some h
    refine ci_T.step cb_X4_breakers_57 (ci_sq rfl (ci_sq rfl (ci_sq (pe_getR tq_28 rfl rfl) (ci_sq rfl (ci_sq (pe_ald (nI := 3) tq_30 rfl rfl h8) (pe_ic_ge h9 h10)))))) ?_
    refine pbr h (fun hc h => ?_) (fun hc h => ?_)
    · exact ci_T.sub [0, 1, 2, 3, 4] (hK111 _ _ _ h) rfl
    · obtain ⟨h11, h⟩ := ck_some h
      refine ci_T.step cb_X4_breakers_69 (ci_sq rfl (ci_sq rfl (ci_sq rfl (ci_sq (pe_getR tq_28 rfl rfl) (ci_sq rfl (ci_sq rfl (ci_sq rfl (ci_sq (pe_getR tq_28 rfl rfl) (ci_sq rfl (ci_sq (pe_ald (nI := 3) tq_31 rfl rfl h8) (ci_sq pe_imul (ci_sq pe_iadd (pe_ald (nI := 729) tq_33 rfl rfl h11))))))))))))) ?_
      obtain ⟨v12, hv, h⟩ := bn_some h
      refine ci_T.call (as := [_, _, _]) (rest := []) kc_X7_gain ki_X7_gain (by decide) cl_X4_breakers_90 rfl (Nat.le_of_ble_eq_true rfl) ⟨⟨_, rfl⟩, _, _, _, rfl, pk_obj tq_4 rfl _ _⟩ (s_X7_gain d o hv) ?_
      rintro _ _ ⟨rfl, rfl⟩
      clear hv
      obtain ⟨h13, h⟩ := ck_some h
      obtain ⟨h14, h⟩ := ck_some h
      refine ci_T.step cb_X4_breakers_93 (ci_sq rfl (pe_ic_le h13 h14)) ?_
      obtain ⟨j105, hj, h⟩ := jn_ex h
      have J105 : ∀ (l2 l3 l4 l5 l6 l7 : Int), j105 l2 l3 l4 l5 l6 l7 = some rv → ci_T yX4_breakers cX4_breakers 8 (some .int) (d + 2) 105 ([(0, .ref 29), (1, .ref 5), (2, .int (Int32.ofInt l2)), (3, .int (Int32.ofInt l3)), (4, .int (Int32.ofInt l4)), (5, .int (Int32.ofInt l5)), (6, .int (Int32.ofInt l6)), (7, .int (Int32.ofInt l7))], [], pk true ρ o) (pP true rv ρ o) := by
        intro l2 l3 l4 l5 l6 l7 h
        subst hj
        replace h := jn_some h
        refine ci_T.step cb_X4_breakers_105 (ci_sq (pe_inc rfl) rfl) ?_
        exact ci_T.sub [1, 2, 3, 4, 5, 6, 7, 0] (ih _ _ _ _ _ _ h) rfl
      clear hj
      refine pbr h (fun hc h => ?_) (fun hc h => ?_)
      · exact ci_T.sub [0, 1, 2, 3, 4, 5, 6, 7] (J105 _ _ _ _ _ _ h) rfl
      · replace h := jn_some h
        refine ci_T.step cb_X4_breakers_98 (ci_sq rfl (ci_sq (pe_push pc_1) (ci_sq rfl (ci_sq pe_ishl (ci_sq pe_ior rfl))))) ?_
        exact ci_T.sub [1, 2, 3, 0, 4, 5, 6, 7] (J105 _ _ _ _ _ _ h) rfl
set_option maxRecDepth 100000 in
theorem t_X4_breakers_5 {d : Nat}   {ρ : pm} {o : pm} {rv : Int}   : ∀ (n : Nat) (l2 l3 l4 : Int), L_X4_breakers_5 ρ n l2 l3 l4 = some rv → ci_T yX4_breakers cX4_breakers 8 (some .int) (d + 2) 5 ([(0, .ref 29), (1, .ref 5), (2, .int (Int32.ofInt l2)), (3, .int (Int32.ofInt l3)), (4, .int (Int32.ofInt l4))], [], pk true ρ o) (pP true rv ρ o) := by
  intro n
  induction n with
  | zero =>
    intro l2 l3 l4 h
    rw [L_X4_breakers_5] at h
    cases h
  | succ n ih =>
    intro l2 l3 l4 h
    rw [L_X4_breakers_5] at h
    obtain ⟨h1, h⟩ := ck_some h
    refine ci_T.step cb_X4_breakers_5 (ci_sq rfl (ci_sq (pe_push pc_3) (pe_ic_ge h1 pR_3))) ?_
    refine pbr h (fun hc h => ?_) (fun hc h => ?_)
    · refine ci_T.step cb_X4_breakers_117 rfl ?_
      cases h
      exact ci_T.done (v := some (.int _)) cd_X4_breakers_118 ⟨rfl, rfl⟩
    · obtain ⟨h2, h⟩ := ck_some h
      obtain ⟨h3, h⟩ := ck_some h
      refine ci_T.step cb_X4_breakers_11 (ci_sq rfl (ci_sq rfl (ci_sq (pe_getR tq_28 rfl rfl) (ci_sq rfl (ci_sq (pe_ald (nI := 3) tq_31 rfl rfl h2) (ci_sq rfl (ci_sq rfl (ci_sq rfl (ci_sq (pe_getR tq_28 rfl rfl) (ci_sq rfl (ci_sq (pe_ald (nI := 729) tq_32 rfl rfl h3) rfl))))))))))) ?_
      obtain ⟨v4, hv, h⟩ := bn_some h
      refine ci_T.call (as := [_, _]) (rest := [_, _, _, _]) kc_X8_option ki_X8_option (by decide) cl_X4_breakers_30 rfl (Nat.le_of_ble_eq_true rfl) trivial (s_X8_option (d + 1) o hv) ?_
      rintro _ _ ⟨rfl, rfl⟩
      clear hv
      obtain ⟨v5, hv, h⟩ := bn_some h
      refine ci_T.call (as := [_, _, _]) (rest := [_, _]) kc_X4_placeOf ki_X4_placeOf (by decide) cl_X4_breakers_33 rfl (Nat.le_of_ble_eq_true rfl) ⟨⟨_, rfl⟩, _, _, _, rfl, pk_obj tq_28 rfl _ _⟩ (s_X4_placeOf (d + 1) o hv) ?_
      rintro _ _ ⟨rfl, rfl⟩
      clear hv
      replace h := jn_some h
      refine ci_T.step cb_X4_breakers_36 (ci_sq pe_imul (ci_sq pe_isub (ci_sq rfl (ci_sq rfl (ci_sq rfl (ci_sq rfl (ci_sq (pe_getR tq_28 rfl rfl) (ci_sq rfl (pe_ald (nI := 729) tq_33 rfl rfl h3))))))))) ?_
      obtain ⟨v7, hv, h⟩ := bn_some h
      refine ci_T.call (as := [_, _, _]) (rest := []) kc_X7_gain ki_X7_gain (by decide) cl_X4_breakers_49 rfl (Nat.le_of_ble_eq_true rfl) ⟨⟨_, rfl⟩, _, _, _, rfl, pk_obj tq_4 rfl _ _⟩ (s_X7_gain d o hv) ?_
      rintro _ _ ⟨rfl, rfl⟩
      clear hv
      refine ci_T.step cb_X4_breakers_52 (ci_sq rfl (ci_sq (pe_push pc_0) rfl)) ?_
      refine ci_T.sub [3, 4, 5, 6, 7, 2, 1, 0] (t_X4_breakers_57 ?_ fu _ _ _ _ _ _ h) rfl
      · intro l2 l3 l4 h
        replace h := jn_some h
        refine ci_T.step cb_X4_breakers_111 (ci_sq (pe_inc rfl) rfl) ?_
        exact ci_T.sub [1, 2, 3, 4, 0] (ih _ _ _ h) rfl
set_option maxRecDepth 100000 in
theorem s_X4_breakers (d : Nat)   {ρ : pm} (o : pm) {l2 : Int} {rv : Int} (h : f_X4_breakers l2 ρ = some rv) : ci_Met (d + 2) (yX4_breakers, cX4_breakers, 8, (some .int), [], 0, 0) [.ref 29, .ref 5, .int (Int32.ofInt l2)] (pk true ρ o) (pP true rv ρ o) := by
  refine ci_met (by decide) (Nat.le_of_ble_eq_true rfl) ?_ ?_
  · rintro v w' ⟨rfl, rfl⟩
    trivial
  · change ci_T _ _ _ _ _ _ ([(0, .ref 29), (1, .ref 5), (2, .int (Int32.ofInt l2))], [], pk true ρ o) _
    unfold f_X4_breakers at h
    refine ci_T.step cb_X4_breakers_0 (ci_sq (pe_push pc_0) (ci_sq rfl (ci_sq (pe_push pc_0) rfl))) ?_
    exact ci_T.sub [2, 3, 4, 1, 0] (t_X4_breakers_5 fu _ _ _ h) rfl
/-- X8_rests -/
def L_X8_rests_19 (K69 : Int → Int → pm → Option (Int × pm)) (K50 : Int → pm → Option (Int × pm)) : Nat → Int → Int → Int → pm → Option (Int × pm)
  | 0, _, _, _, _ => none
  | n + 1, l1, l2, l3, ρ => ck (inR l3) (ck (inR (ρ 28 5)) (if (ρ 28 5) ≤ l3 then K69 l1 l2 ρ else (f_X4_breakers l3 ρ).bind (fun v5 => ck (inR v5) (jn (fun (l1 l2 l3 : Int) (ρ : pm) => jn (l3 + 1) (fun x7 => L_X8_rests_19 K69 K50 n l1 l2 x7 ρ)) (fun j63 => if v5 = 0 then ck (inR l1) (if l1 = 1 then K50 l3 ρ else jn (l2 + 1) (fun x9 => j63 l1 x9 l3 ρ)) else j63 l1 l2 l3 ρ)))))
def f_X8_rests (l1 : Int) (ρ : pm) : Option (Int × pm) := ck (inR l1) (if l1 < 0 then some ((-1), ρ) else if l1 ≤ 1 then (f_X8_lookAhead ρ).bind (fun ρ2 => L_X8_rests_19 (fun (l1 l2 : Int) (ρ : pm) => ck (inR l1) (if l1 = 0 then some (l2, ρ) else some ((-4), ρ))) (fun (l3 : Int) (ρ : pm) => ck (0 ≤ l3 ∧ l3 < 729) (some (ρ 32 l3, ρ))) fu l1 0 0 ρ2) else some ((-1), ρ))
set_option maxRecDepth 100000 in
theorem t_X8_rests_19 {d : Nat}    {o : pm} {rv : Int} {rρ : pm} {K69 : Int → Int → pm → Option (Int × pm)} {K50 : Int → pm → Option (Int × pm)} (hK69 : ∀ (l1 l2 : Int) (ρ : pm), K69 l1 l2 ρ = some (rv, rρ) → ci_T yX8_rests cX8_rests 4 (some .int) (d + 6) 69 ([(1, .int (Int32.ofInt l1)), (2, .int (Int32.ofInt l2))], [], pk true ρ o) (pP true rv rρ o)) (hK50 : ∀ (l3 : Int) (ρ : pm), K50 l3 ρ = some (rv, rρ) → ci_T yX8_rests cX8_rests 4 (some .int) (d + 6) 50 ([(0, .ref 1), (3, .int (Int32.ofInt l3))], [], pk true ρ o) (pP true rv rρ o)) : ∀ (n : Nat) (l1 l2 l3 : Int) (ρ : pm), L_X8_rests_19 K69 K50 n l1 l2 l3 ρ = some (rv, rρ) → ci_T yX8_rests cX8_rests 4 (some .int) (d + 6) 19 ([(0, .ref 1), (1, .int (Int32.ofInt l1)), (2, .int (Int32.ofInt l2)), (3, .int (Int32.ofInt l3))], [], pk true ρ o) (pP true rv rρ o) := by
  intro n
  induction n with
  | zero =>
    intro l1 l2 l3 ρ h
    rw [L_X8_rests_19] at h
    cases h
  | succ n ih =>
    intro l1 l2 l3 ρ h
    rw [L_X8_rests_19] at h
    obtain ⟨h3, h⟩ := ck_some h
    obtain ⟨h4, h⟩ := ck_some h
    refine ci_T.step cb_X8_rests_19 (ci_sq rfl (ci_sq rfl (ci_sq (pe_getR tq_0 rfl rfl) (ci_sq (pe_getI (kI := 5) tq_28 rfl rfl rfl) (pe_ic_ge h3 h4))))) ?_
    refine pbr h (fun hc h => ?_) (fun hc h => ?_)
    · exact ci_T.sub [1, 2] (hK69 _ _ _ h) rfl
    · refine ci_T.step cb_X8_rests_30 (ci_sq rfl (ci_sq (pe_getR tq_0 rfl rfl) (ci_sq rfl (ci_sq (pe_getR tq_0 rfl rfl) rfl)))) ?_
      obtain ⟨v5, hv, h⟩ := bn_some h
      refine ci_T.call (as := [_, _, _]) (rest := []) kc_X4_breakers ki_X4_breakers (by decide) cl_X8_rests_39 rfl (Nat.le_of_ble_eq_true rfl) ⟨⟨_, rfl⟩, _, _, _, rfl, pk_obj tq_28 rfl _ _⟩ (s_X4_breakers (d + 3) o hv) ?_
      rintro _ _ ⟨rfl, rfl⟩
      clear hv
      obtain ⟨h6, h⟩ := ck_some h
      refine ci_T.step cb_X8_rests_42 (pe_if_ne h6) ?_
      obtain ⟨j63, hj, h⟩ := jn_ex h
      have J63 : ∀ (l1 l2 l3 : Int) (ρ : pm), j63 l1 l2 l3 ρ = some (rv, rρ) → ci_T yX8_rests cX8_rests 4 (some .int) (d + 6) 63 ([(0, .ref 1), (1, .int (Int32.ofInt l1)), (2, .int (Int32.ofInt l2)), (3, .int (Int32.ofInt l3))], [], pk true ρ o) (pP true rv rρ o) := by
        intro l1 l2 l3 ρ h
        subst hj
        replace h := jn_some h
        refine ci_T.step cb_X8_rests_63 (ci_sq (pe_inc rfl) rfl) ?_
        exact ci_T.sub [1, 2, 3, 0] (ih _ _ _ _ h) rfl
      clear hj
      refine pbrn h (fun hc h => ?_) (fun hc h => ?_)
      · exact ci_T.sub [0, 1, 2, 3] (J63 _ _ _ _ h) rfl
      · obtain ⟨h8, h⟩ := ck_some h
        refine ci_T.step cb_X8_rests_45 (ci_sq rfl (ci_sq (pe_push pc_1) (pe_ic_ne h8 pR_1))) ?_
        refine pbrn h (fun hc h => ?_) (fun hc h => ?_)
        · replace h := jn_some h
          refine ci_T.step cb_X8_rests_60 (pe_inc rfl) ?_
          exact ci_T.sub [1, 2, 0, 3] (J63 _ _ _ _ h) rfl
        · exact ci_T.sub [0, 3] (hK50 _ _ h) rfl
set_option maxRecDepth 100000 in
theorem s_X8_rests (d : Nat)   {ρ : pm} (o : pm) {l1 : Int} {rv : Int} {rρ : pm} (h : f_X8_rests l1 ρ = some (rv, rρ)) : ci_Met (d + 6) (yX8_rests, cX8_rests, 4, (some .int), [], 0, 0) [.ref 1, .int (Int32.ofInt l1)] (pk true ρ o) (pP true rv rρ o) := by
  refine ci_met (by decide) (Nat.le_of_ble_eq_true rfl) ?_ ?_
  · rintro v w' ⟨rfl, rfl⟩
    trivial
  · change ci_T _ _ _ _ _ _ ([(0, .ref 1), (1, .int (Int32.ofInt l1))], [], pk true ρ o) _
    unfold f_X8_rests at h
    obtain ⟨h1, h⟩ := ck_some h
    refine ci_T.step cb_X8_rests_0 (ci_sq rfl (pe_if_lt h1)) ?_
    refine pbr h (fun hc h => ?_) (fun hc h => ?_)
    · refine ci_T.step cb_X8_rests_9 (pe_push pc_m1) ?_
      cases h
      exact ci_T.done (v := some (.int _)) cd_X8_rests_10 ⟨rfl, rfl⟩
    · refine ci_T.step cb_X8_rests_4 (ci_sq rfl (ci_sq (pe_push pc_1) (pe_ic_le h1 pR_1))) ?_
      refine pbr h (fun hc h => ?_) (fun hc h => ?_)
      · refine ci_T.step cb_X8_rests_11 rfl ?_
        obtain ⟨ρ2, hv, h⟩ := bn_some h
        refine ci_T.call (as := [_]) (rest := []) kc_X8_lookAhead ki_X8_lookAhead (by decide) cl_X8_rests_12 rfl (Nat.le_of_ble_eq_true rfl) ⟨⟨_, rfl⟩, _, _, _, rfl, pk_obj tq_0 rfl _ _⟩ (s_X8_lookAhead d o hv) ?_
        rintro _ _ ⟨rfl, rfl⟩
        clear hv
        refine ci_T.step cb_X8_rests_15 (ci_sq (pe_push pc_0) (ci_sq rfl (ci_sq (pe_push pc_0) rfl))) ?_
        refine ci_T.sub [2, 3, 1, 0] (t_X8_rests_19 ?_ ?_ fu _ _ _ _ h) rfl
        · intro l1 l2 ρ h
          obtain ⟨h10, h⟩ := ck_some h
          refine ci_T.step cb_X8_rests_69 (ci_sq rfl (pe_if_ne h10)) ?_
          refine pbrn h (fun hc h => ?_) (fun hc h => ?_)
          · refine ci_T.step cb_X8_rests_77 (pe_push pc_m4) ?_
            cases h
            exact ci_T.done (v := some (.int _)) cd_X8_rests_79 ⟨rfl, rfl⟩
          · refine ci_T.step cb_X8_rests_73 (ci_sq rfl rfl) ?_
            cases h
            exact ci_T.done (v := some (.int _)) cd_X8_rests_79 ⟨rfl, rfl⟩
        · intro l3 ρ h
          obtain ⟨h11, h⟩ := ck_some h
          refine ci_T.step cb_X8_rests_50 (ci_sq rfl (ci_sq (pe_getR tq_0 rfl rfl) (ci_sq (pe_getR tq_28 rfl rfl) (ci_sq rfl (pe_ald (nI := 729) tq_32 rfl rfl h11))))) ?_
          cases h
          exact ci_T.done (v := some (.int _)) cd_X8_rests_59 ⟨rfl, rfl⟩
      · refine ci_T.step cb_X8_rests_9 (pe_push pc_m1) ?_
        cases h
        exact ci_T.done (v := some (.int _)) cd_X8_rests_10 ⟨rfl, rfl⟩
/-- X4_indexOf -/
def L_X4_indexOf_2 (ρ : pm) : Nat → Int → Int → Option Int
  | 0, _, _ => none
  | n + 1, l1, l2 => ck (inR l2) (ck (inR (ρ 28 5)) (if (ρ 28 5) ≤ l2 then some (-1) else ck (0 ≤ l2 ∧ l2 < 729) (ck (inR (ρ 32 l2)) (ck (inR l1) (if (ρ 32 l2) = l1 then some l2 else jn (l2 + 1) (fun x6 => L_X4_indexOf_2 ρ n l1 x6))))))
def f_X4_indexOf (l1 : Int) (ρ : pm) : Option Int := L_X4_indexOf_2 ρ fu l1 0
set_option maxRecDepth 100000 in
theorem t_X4_indexOf_2 {d : Nat}   {ρ : pm} {o : pm} {rv : Int}   : ∀ (n : Nat) (l1 l2 : Int), L_X4_indexOf_2 ρ n l1 l2 = some rv → ci_T yX4_indexOf cX4_indexOf 3 (some .int) d 2 ([(0, .ref 29), (1, .int (Int32.ofInt l1)), (2, .int (Int32.ofInt l2))], [], pk true ρ o) (pP true rv ρ o) := by
  intro n
  induction n with
  | zero =>
    intro l1 l2 h
    rw [L_X4_indexOf_2] at h
    cases h
  | succ n ih =>
    intro l1 l2 h
    rw [L_X4_indexOf_2] at h
    obtain ⟨h1, h⟩ := ck_some h
    obtain ⟨h2, h⟩ := ck_some h
    refine ci_T.step cb_X4_indexOf_2 (ci_sq rfl (ci_sq rfl (ci_sq (pe_getI (kI := 5) tq_28 rfl rfl rfl) (pe_ic_ge h1 h2)))) ?_
    refine pbr h (fun hc h => ?_) (fun hc h => ?_)
    · refine ci_T.step cb_X4_indexOf_28 (pe_push pc_m1) ?_
      cases h
      exact ci_T.done (v := some (.int _)) cd_X4_indexOf_29 ⟨rfl, rfl⟩
    · obtain ⟨h3, h⟩ := ck_some h
      obtain ⟨h4, h⟩ := ck_some h
      obtain ⟨h5, h⟩ := ck_some h
      refine ci_T.step cb_X4_indexOf_10 (ci_sq rfl (ci_sq (pe_getR tq_28 rfl rfl) (ci_sq rfl (ci_sq (pe_ald (nI := 729) tq_32 rfl rfl h3) (ci_sq rfl (pe_ic_ne h4 h5)))))) ?_
      refine pbrn h (fun hc h => ?_) (fun hc h => ?_)
      · replace h := jn_some h
        refine ci_T.step cb_X4_indexOf_22 (ci_sq (pe_inc rfl) rfl) ?_
        exact ci_T.sub [1, 2, 0] (ih _ _ h) rfl
      · refine ci_T.step cb_X4_indexOf_20 rfl ?_
        cases h
        exact ci_T.done (v := some (.int _)) cd_X4_indexOf_21 ⟨rfl, rfl⟩
set_option maxRecDepth 100000 in
theorem s_X4_indexOf (d : Nat)   {ρ : pm} (o : pm) {l1 : Int} {rv : Int} (h : f_X4_indexOf l1 ρ = some rv) : ci_Met d (yX4_indexOf, cX4_indexOf, 3, (some .int), [], 0, 0) [.ref 29, .int (Int32.ofInt l1)] (pk true ρ o) (pP true rv ρ o) := by
  refine ci_met (by decide) (Nat.le_of_ble_eq_true rfl) ?_ ?_
  · rintro v w' ⟨rfl, rfl⟩
    trivial
  · change ci_T _ _ _ _ _ _ ([(0, .ref 29), (1, .int (Int32.ofInt l1))], [], pk true ρ o) _
    unfold f_X4_indexOf at h
    refine ci_T.step cb_X4_indexOf_0 (ci_sq (pe_push pc_0) rfl) ?_
    exact ci_T.sub [1, 2, 0] (t_X4_indexOf_2 fu _ _ h) rfl
/-- X8_breaks -/
def f_X8_breaks (l1 : Int) (ρ : pm) : Option (Int × pm) := (f_X8_isNumber l1).bind (fun v1 => if v1 = 0 then some ((-1), ρ) else (f_X8_lookAhead ρ).bind (fun ρ3 => (f_X4_indexOf l1 ρ3).bind (fun v4 => ck (inR v4) (if 0 ≤ v4 then (f_X4_breakers v4 ρ3).bind (fun v6 => some (v6, ρ3)) else some ((-2), ρ3)))))
set_option maxRecDepth 100000 in
theorem s_X8_breaks (d : Nat)   {ρ : pm} (o : pm) {l1 : Int} {rv : Int} {rρ : pm} (h : f_X8_breaks l1 ρ = some (rv, rρ)) : ci_Met (d + 6) (yX8_breaks, cX8_breaks, 3, (some .int), [], 0, 0) [.ref 1, .int (Int32.ofInt l1)] (pk true ρ o) (pP true rv rρ o) := by
  refine ci_met (by decide) (Nat.le_of_ble_eq_true rfl) ?_ ?_
  · rintro v w' ⟨rfl, rfl⟩
    trivial
  · change ci_T _ _ _ _ _ _ ([(0, .ref 1), (1, .int (Int32.ofInt l1))], [], pk true ρ o) _
    unfold f_X8_breaks at h
    refine ci_T.step cb_X8_breaks_0 rfl ?_
    obtain ⟨v1, hv, h⟩ := bn_some h
    refine ci_T.call (as := [_]) (rest := []) kc_X8_isNumber ki_X8_isNumber (by decide) cl_X8_breaks_1 rfl (Nat.le_of_ble_eq_true rfl) trivial (s_X8_isNumber (d + 5) o hv) ?_
    rintro _ _ ⟨⟨rfl, rfl⟩, hz2⟩
    clear hv
    refine ci_T.step cb_X8_breaks_4 (pe_if_ne (Z_R hz2)) ?_
    refine pbrn h (fun hc h => ?_) (fun hc h => ?_)
    · refine ci_T.step cb_X8_breaks_9 rfl ?_
      obtain ⟨ρ3, hv, h⟩ := bn_some h
      refine ci_T.call (as := [_]) (rest := []) kc_X8_lookAhead ki_X8_lookAhead (by decide) cl_X8_breaks_10 rfl (Nat.le_of_ble_eq_true rfl) ⟨⟨_, rfl⟩, _, _, _, rfl, pk_obj tq_0 rfl _ _⟩ (s_X8_lookAhead d o hv) ?_
      rintro _ _ ⟨rfl, rfl⟩
      clear hv
      refine ci_T.step cb_X8_breaks_13 (ci_sq rfl (ci_sq (pe_getR tq_0 rfl rfl) rfl)) ?_
      obtain ⟨v4, hv, h⟩ := bn_some h
      refine ci_T.call (as := [_, _]) (rest := []) kc_X4_indexOf ki_X4_indexOf (by decide) cl_X8_breaks_18 rfl (Nat.le_of_ble_eq_true rfl) ⟨⟨_, rfl⟩, _, _, _, rfl, pk_obj tq_28 rfl _ _⟩ (s_X4_indexOf (d + 5) o hv) ?_
      rintro _ _ ⟨rfl, rfl⟩
      clear hv
      obtain ⟨h5, h⟩ := ck_some h
      refine ci_T.step cb_X8_breaks_21 (ci_sq rfl (ci_sq rfl (pe_if_ge h5))) ?_
      refine pbr h (fun hc h => ?_) (fun hc h => ?_)
      · refine ci_T.step cb_X8_breaks_31 (ci_sq rfl (ci_sq (pe_getR tq_0 rfl rfl) (ci_sq rfl (ci_sq (pe_getR tq_0 rfl rfl) rfl)))) ?_
        obtain ⟨v6, hv, h⟩ := bn_some h
        refine ci_T.call (as := [_, _, _]) (rest := []) kc_X4_breakers ki_X4_breakers (by decide) cl_X8_breaks_40 rfl (Nat.le_of_ble_eq_true rfl) ⟨⟨_, rfl⟩, _, _, _, rfl, pk_obj tq_28 rfl _ _⟩ (s_X4_breakers (d + 3) o hv) ?_
        rintro _ _ ⟨rfl, rfl⟩
        clear hv
        cases h
        exact ci_T.done (v := some (.int _)) cd_X8_breaks_43 ⟨rfl, rfl⟩
      · refine ci_T.step cb_X8_breaks_26 (ci_sq (pe_push pc_m2) rfl) ?_
        cases h
        exact ci_T.done (v := some (.int _)) cd_X8_breaks_43 ⟨rfl, rfl⟩
    · refine ci_T.step cb_X8_breaks_7 (pe_push pc_m1) ?_
      cases h
      exact ci_T.done (v := some (.int _)) cd_X8_breaks_8 ⟨rfl, rfl⟩
/-- X8_stands -/
def L_X8_stands_49  : Nat → Int → Int → pm → Option (Int × pm)
  | 0, _, _, _ => none
  | n + 1, l1, l2, ρ => ck (inR l2) (if 20 ≤ l2 then some (20, ρ) else (f_X2_pass 25 0 ρ).bind (fun ρ7 => (f_X8_has (ρ7 25 4) l1).bind (fun v8 => if v8 = 0 then some (l2, ρ7) else jn (l2 + 1) (fun x10 => L_X8_stands_49 n l1 x10 ρ7))))
def f_X8_stands (l1 : Int) (ρ : pm) : Option (Int × pm) := (f_X3_hasCell l1 ρ).bind (fun v1 => if v1 = 0 then some ((-1), ρ) else (f_X8_has (ρ 8 4) l1).bind (fun v3 => if v3 = 0 then some ((-2), ρ) else (f_X2_copy 25 8 ρ).bind (fun ρ5 => L_X8_stands_49 fu l1 0 ρ5)))
set_option maxRecDepth 100000 in
theorem t_X8_stands_49 {d : Nat}    {o : pm} {rv : Int} {rρ : pm}   : ∀ (n : Nat) (l1 l2 : Int) (ρ : pm), L_X8_stands_49 n l1 l2 ρ = some (rv, rρ) → ci_T yX8_stands cX8_stands 3 (some .int) (d + 4) 49 ([(0, .ref 1), (1, .int (Int32.ofInt l1)), (2, .int (Int32.ofInt l2))], [], pk true ρ o) (pP true rv rρ o) := by
  intro n
  induction n with
  | zero =>
    intro l1 l2 ρ h
    rw [L_X8_stands_49] at h
    cases h
  | succ n ih =>
    intro l1 l2 ρ h
    rw [L_X8_stands_49] at h
    obtain ⟨h6, h⟩ := ck_some h
    refine ci_T.step cb_X8_stands_49 (ci_sq rfl (ci_sq (pe_push pc_20) (pe_ic_ge h6 pR_20))) ?_
    refine pbr h (fun hc h => ?_) (fun hc h => ?_)
    · refine ci_T.step cb_X8_stands_85 (pe_push pc_20) ?_
      cases h
      exact ci_T.done (v := some (.int _)) cd_X8_stands_87 ⟨rfl, rfl⟩
    · refine ci_T.step cb_X8_stands_55 (ci_sq rfl (ci_sq (pe_getR tq_0 rfl rfl) (pe_push pc_0))) ?_
      obtain ⟨ρ7, hv, h⟩ := bn_some h
      refine ci_T.call (as := [_, _]) (rest := []) kc_X2_pass ki_X2_pass (by decide) cl_X8_stands_60 rfl (Nat.le_of_ble_eq_true rfl) ⟨⟨_, rfl⟩, _, _, _, rfl, pk_obj tq_25 rfl _ _⟩ (s_X2_pass d 25 iF_25 o hv) ?_
      rintro _ _ ⟨rfl, rfl⟩
      clear hv
      refine ci_T.step cb_X8_stands_63 (ci_sq rfl (ci_sq (pe_getR tq_0 rfl rfl) (ci_sq (pe_getI (kI := 4) tq_25 rfl rfl rfl) rfl))) ?_
      obtain ⟨v8, hv, h⟩ := bn_some h
      refine ci_T.call (as := [_, _]) (rest := []) kc_X8_has ki_X8_has (by decide) cl_X8_stands_71 rfl (Nat.le_of_ble_eq_true rfl) trivial (s_X8_has (d + 3) o hv) ?_
      rintro _ _ ⟨⟨rfl, rfl⟩, hz9⟩
      clear hv
      refine ci_T.step cb_X8_stands_74 (pe_if_ne (Z_R hz9)) ?_
      refine pbrn h (fun hc h => ?_) (fun hc h => ?_)
      · replace h := jn_some h
        refine ci_T.step cb_X8_stands_79 (ci_sq (pe_inc rfl) rfl) ?_
        exact ci_T.sub [1, 2, 0] (ih _ _ _ h) rfl
      · refine ci_T.step cb_X8_stands_77 rfl ?_
        cases h
        exact ci_T.done (v := some (.int _)) cd_X8_stands_78 ⟨rfl, rfl⟩
set_option maxRecDepth 100000 in
theorem s_X8_stands (d : Nat)   {ρ : pm} (o : pm) {l1 : Int} {rv : Int} {rρ : pm} (h : f_X8_stands l1 ρ = some (rv, rρ)) : ci_Met (d + 4) (yX8_stands, cX8_stands, 3, (some .int), [], 0, 0) [.ref 1, .int (Int32.ofInt l1)] (pk true ρ o) (pP true rv rρ o) := by
  refine ci_met (by decide) (Nat.le_of_ble_eq_true rfl) ?_ ?_
  · rintro v w' ⟨rfl, rfl⟩
    trivial
  · change ci_T _ _ _ _ _ _ ([(0, .ref 1), (1, .int (Int32.ofInt l1))], [], pk true ρ o) _
    unfold f_X8_stands at h
    refine ci_T.step cb_X8_stands_0 (ci_sq rfl (ci_sq (pe_getR tq_0 rfl rfl) rfl)) ?_
    obtain ⟨v1, hv, h⟩ := bn_some h
    refine ci_T.call (as := [_, _]) (rest := []) kc_X3_hasCell ki_X3_hasCell (by decide) cl_X8_stands_5 rfl (Nat.le_of_ble_eq_true rfl) ⟨⟨_, rfl⟩, _, _, _, rfl, pk_obj tq_1 rfl _ _⟩ (s_X3_hasCell (d + 3) o hv) ?_
    rintro _ _ ⟨⟨rfl, rfl⟩, hz2⟩
    clear hv
    refine ci_T.step cb_X8_stands_8 (pe_if_ne (Z_R hz2)) ?_
    refine pbrn h (fun hc h => ?_) (fun hc h => ?_)
    · refine ci_T.step cb_X8_stands_13 (ci_sq rfl (ci_sq (pe_getR tq_0 rfl rfl) (ci_sq (pe_getR tq_4 rfl rfl) (ci_sq (pe_getI (kI := 4) tq_8 rfl rfl rfl) rfl)))) ?_
      obtain ⟨v3, hv, h⟩ := bn_some h
      refine ci_T.call (as := [_, _]) (rest := []) kc_X8_has ki_X8_has (by decide) cl_X8_stands_24 rfl (Nat.le_of_ble_eq_true rfl) trivial (s_X8_has (d + 3) o hv) ?_
      rintro _ _ ⟨⟨rfl, rfl⟩, hz4⟩
      clear hv
      refine ci_T.step cb_X8_stands_27 (pe_if_ne (Z_R hz4)) ?_
      refine pbrn h (fun hc h => ?_) (fun hc h => ?_)
      · refine ci_T.step cb_X8_stands_33 (ci_sq rfl (ci_sq (pe_getR tq_0 rfl rfl) (ci_sq rfl (ci_sq (pe_getR tq_0 rfl rfl) (pe_getR tq_4 rfl rfl))))) ?_
        obtain ⟨ρ5, hv, h⟩ := bn_some h
        refine ci_T.call (as := [_, _]) (rest := []) kc_X2_copy ki_X2_copy (by decide) cl_X8_stands_44 rfl (Nat.le_of_ble_eq_true rfl) ⟨⟨_, rfl⟩, _, _, _, rfl, pk_obj tq_25 rfl _ _⟩ (s_X2_copy (d + 3) 25 8 iF_25 iF_8 o hv) ?_
        rintro _ _ ⟨rfl, rfl⟩
        clear hv
        refine ci_T.step cb_X8_stands_47 (ci_sq (pe_push pc_0) rfl) ?_
        exact ci_T.sub [1, 2, 0] (t_X8_stands_49 fu _ _ _ h) rfl
      · refine ci_T.step cb_X8_stands_30 (pe_push pc_m2) ?_
        cases h
        exact ci_T.done (v := some (.int _)) cd_X8_stands_32 ⟨rfl, rfl⟩
    · refine ci_T.step cb_X8_stands_11 (pe_push pc_m1) ?_
      cases h
      exact ci_T.done (v := some (.int _)) cd_X8_stands_12 ⟨rfl, rfl⟩
/-- X8_note -/
def f_X8_note (l1 : Int) (ρ : pm) : Option pm := ck ((0 : Int) ≤ 25 ∧ (0 : Int) ≤ (l1 * 25) ∧ (0 : Int) ≤ 0 ∧ (0 : Int) + 25 ≤ 25 ∧ (l1 * 25) + 25 ≤ 1525) (jn (pcp ρ 26 0 61 (l1 * 25) 25) (fun ρ2 => some ρ2))
set_option maxRecDepth 100000 in
theorem s_X8_note (d : Nat)   {ρ : pm} (o : pm) {l1 : Int} {rρ : pm} (h : f_X8_note l1 ρ = some rρ) : ci_Met d (yX8_note, cX8_note, 2, none, [], 0, 0) [.ref 1, .int (Int32.ofInt l1)] (pk true ρ o) (pV true rρ o) := by
  refine ci_met (by decide) (Nat.le_of_ble_eq_true rfl) ?_ ?_
  · rintro v w' ⟨rfl, rfl⟩
    trivial
  · change ci_T _ _ _ _ _ _ ([(0, .ref 1), (1, .int (Int32.ofInt l1))], [], pk true ρ o) _
    unfold f_X8_note at h
    obtain ⟨h1, h⟩ := ck_some h
    replace h := jn_some h
    refine ci_T.step cb_X8_note_0 (ci_sq rfl (ci_sq (pe_getR tq_0 rfl rfl) (ci_sq (pe_getR tq_25 rfl rfl) (ci_sq (pe_push pc_0) (ci_sq rfl (ci_sq (pe_getR tq_0 rfl rfl) (ci_sq rfl (ci_sq (pe_push pc_25) (ci_sq pe_imul (ci_sq (pe_push pc_25) (pe_copy (N0 := 25) (N1 := 1525) tq_26 tq_61 rfl rfl rfl rfl h1 (Nat.le_of_ble_eq_true rfl)))))))))))) ?_
    cases h
    exact ci_T.done (v := none) cd_X8_note_21 ⟨rfl, rfl⟩
/-- X8_isAlike -/
def L_X8_isAlike_2 (ρ : pm) : Nat → Int → Int → Option Int
  | 0, _, _ => none
  | n + 1, l1, l2 => ck (inR l2) (if 25 ≤ l2 then some 1 else ck (0 ≤ (l1 * 25) + l2 ∧ (l1 * 25) + l2 < 1525) (ck (0 ≤ l2 ∧ l2 < 25) (ck (inR (ρ 61 ((l1 * 25) + l2))) (ck (inR (ρ 26 l2)) (if (ρ 61 ((l1 * 25) + l2)) = (ρ 26 l2) then jn (l2 + 1) (fun x6 => L_X8_isAlike_2 ρ n l1 x6) else some 0)))))
def f_X8_isAlike (l1 : Int) (ρ : pm) : Option Int := L_X8_isAlike_2 ρ fu l1 0
set_option maxRecDepth 100000 in
theorem t_X8_isAlike_2 {d : Nat}   {ρ : pm} {o : pm} {rv : Int}   : ∀ (n : Nat) (l1 l2 : Int), L_X8_isAlike_2 ρ n l1 l2 = some rv → ci_T yX8_isAlike cX8_isAlike 3 (some .boolean) d 2 ([(0, .ref 1), (1, .int (Int32.ofInt l1)), (2, .int (Int32.ofInt l2))], [], pk true ρ o) (pZ true rv ρ o) := by
  intro n
  induction n with
  | zero =>
    intro l1 l2 h
    rw [L_X8_isAlike_2] at h
    cases h
  | succ n ih =>
    intro l1 l2 h
    rw [L_X8_isAlike_2] at h
    obtain ⟨h1, h⟩ := ck_some h
    refine ci_T.step cb_X8_isAlike_2 (ci_sq rfl (ci_sq (pe_push pc_25) (pe_ic_ge h1 pR_25))) ?_
    refine pbr h (fun hc h => ?_) (fun hc h => ?_)
    · refine ci_T.step cb_X8_isAlike_39 (pe_push pc_1) ?_
      cases h
      exact ci_T.done (v := some (.int _)) cd_X8_isAlike_40 ⟨⟨rfl, rfl⟩, (Or.inr rfl)⟩
    · obtain ⟨h2, h⟩ := ck_some h
      obtain ⟨h3, h⟩ := ck_some h
      obtain ⟨h4, h⟩ := ck_some h
      obtain ⟨h5, h⟩ := ck_some h
      refine ci_T.step cb_X8_isAlike_8 (ci_sq rfl (ci_sq (pe_getR tq_0 rfl rfl) (ci_sq rfl (ci_sq (pe_push pc_25) (ci_sq pe_imul (ci_sq rfl (ci_sq pe_iadd (ci_sq (pe_ald (nI := 1525) tq_61 rfl rfl h2) (ci_sq rfl (ci_sq (pe_getR tq_0 rfl rfl) (ci_sq (pe_getR tq_25 rfl rfl) (ci_sq rfl (ci_sq (pe_ald (nI := 25) tq_26 rfl rfl h3) (pe_ic_eq h4 h5)))))))))))))) ?_
      refine pbr h (fun hc h => ?_) (fun hc h => ?_)
      · replace h := jn_some h
        refine ci_T.step cb_X8_isAlike_33 (ci_sq (pe_inc rfl) rfl) ?_
        exact ci_T.sub [1, 2, 0] (ih _ _ h) rfl
      · refine ci_T.step cb_X8_isAlike_31 (pe_push pc_0) ?_
        cases h
        exact ci_T.done (v := some (.int _)) cd_X8_isAlike_32 ⟨⟨rfl, rfl⟩, (Or.inl rfl)⟩
set_option maxRecDepth 100000 in
theorem s_X8_isAlike (d : Nat)   {ρ : pm} (o : pm) {l1 : Int} {rv : Int} (h : f_X8_isAlike l1 ρ = some rv) : ci_Met d (yX8_isAlike, cX8_isAlike, 3, (some .boolean), [], 0, 0) [.ref 1, .int (Int32.ofInt l1)] (pk true ρ o) (pZ true rv ρ o) := by
  refine ci_met (by decide) (Nat.le_of_ble_eq_true rfl) ?_ ?_
  · rintro v w' ⟨⟨rfl, rfl⟩, hz⟩
    exact Z_of hz
  · change ci_T _ _ _ _ _ _ ([(0, .ref 1), (1, .int (Int32.ofInt l1))], [], pk true ρ o) _
    unfold f_X8_isAlike at h
    refine ci_T.step cb_X8_isAlike_0 (ci_sq (pe_push pc_0) rfl) ?_
    exact ci_T.sub [1, 2, 0] (t_X8_isAlike_2 fu _ _ h) rfl
/-- X8_firstAlike -/
def L_X8_firstAlike_2 (ρ : pm) : Nat → Int → Int → Option Int
  | 0, _, _ => none
  | n + 1, l1, l2 => ck (inR l2) (ck (inR l1) (if l1 ≤ l2 then some (-1) else (f_X8_isAlike l2 ρ).bind (fun v3 => if v3 = 0 then jn (l2 + 1) (fun x5 => L_X8_firstAlike_2 ρ n l1 x5) else some l2)))
def f_X8_firstAlike (l1 : Int) (ρ : pm) : Option Int := L_X8_firstAlike_2 ρ fu l1 0
set_option maxRecDepth 100000 in
theorem t_X8_firstAlike_2 {d : Nat}   {ρ : pm} {o : pm} {rv : Int}   : ∀ (n : Nat) (l1 l2 : Int), L_X8_firstAlike_2 ρ n l1 l2 = some rv → ci_T yX8_firstAlike cX8_firstAlike 3 (some .int) (d + 1) 2 ([(0, .ref 1), (1, .int (Int32.ofInt l1)), (2, .int (Int32.ofInt l2))], [], pk true ρ o) (pP true rv ρ o) := by
  intro n
  induction n with
  | zero =>
    intro l1 l2 h
    rw [L_X8_firstAlike_2] at h
    cases h
  | succ n ih =>
    intro l1 l2 h
    rw [L_X8_firstAlike_2] at h
    obtain ⟨h1, h⟩ := ck_some h
    obtain ⟨h2, h⟩ := ck_some h
    refine ci_T.step cb_X8_firstAlike_2 (ci_sq rfl (ci_sq rfl (pe_ic_ge h1 h2))) ?_
    refine pbr h (fun hc h => ?_) (fun hc h => ?_)
    · refine ci_T.step cb_X8_firstAlike_23 (pe_push pc_m1) ?_
      cases h
      exact ci_T.done (v := some (.int _)) cd_X8_firstAlike_24 ⟨rfl, rfl⟩
    · refine ci_T.step cb_X8_firstAlike_7 (ci_sq rfl rfl) ?_
      obtain ⟨v3, hv, h⟩ := bn_some h
      refine ci_T.call (as := [_, _]) (rest := []) kc_X8_isAlike ki_X8_isAlike (by decide) cl_X8_firstAlike_9 rfl (Nat.le_of_ble_eq_true rfl) ⟨⟨_, rfl⟩, _, _, _, rfl, pk_obj tq_0 rfl _ _⟩ (s_X8_isAlike d o hv) ?_
      rintro _ _ ⟨⟨rfl, rfl⟩, hz4⟩
      clear hv
      refine ci_T.step cb_X8_firstAlike_12 (pe_if_eq (Z_R hz4)) ?_
      refine pbr h (fun hc h => ?_) (fun hc h => ?_)
      · replace h := jn_some h
        refine ci_T.step cb_X8_firstAlike_17 (ci_sq (pe_inc rfl) rfl) ?_
        exact ci_T.sub [1, 2, 0] (ih _ _ h) rfl
      · refine ci_T.step cb_X8_firstAlike_15 rfl ?_
        cases h
        exact ci_T.done (v := some (.int _)) cd_X8_firstAlike_16 ⟨rfl, rfl⟩
set_option maxRecDepth 100000 in
theorem s_X8_firstAlike (d : Nat)   {ρ : pm} (o : pm) {l1 : Int} {rv : Int} (h : f_X8_firstAlike l1 ρ = some rv) : ci_Met (d + 1) (yX8_firstAlike, cX8_firstAlike, 3, (some .int), [], 0, 0) [.ref 1, .int (Int32.ofInt l1)] (pk true ρ o) (pP true rv ρ o) := by
  refine ci_met (by decide) (Nat.le_of_ble_eq_true rfl) ?_ ?_
  · rintro v w' ⟨rfl, rfl⟩
    trivial
  · change ci_T _ _ _ _ _ _ ([(0, .ref 1), (1, .int (Int32.ofInt l1))], [], pk true ρ o) _
    unfold f_X8_firstAlike at h
    refine ci_T.step cb_X8_firstAlike_0 (ci_sq (pe_push pc_0) rfl) ?_
    exact ci_T.sub [1, 2, 0] (t_X8_firstAlike_2 fu _ _ h) rfl
/-- X8_again -/
def L_X8_again_32 (K56 : Int → Int → Int → pm → Option (Int × pm)) : Nat → Int → Int → pm → Option (Int × pm)
  | 0, _, _, _ => none
  | n + 1, l1, l2, ρ => ck (inR l2) (if 60 < l2 then some ((-4), ρ) else (f_X2_pass 25 0 ρ).bind (fun ρ5 => (f_X8_firstAlike l2 ρ5).bind (fun v6 => ck (inR v6) (if v6 < 0 then (f_X8_note l2 ρ5).bind (fun ρ8 => jn (l2 + 1) (fun x9 => L_X8_again_32 K56 n l1 x9 ρ8)) else K56 l1 l2 v6 ρ5))))
def f_X8_again (l1 : Int) (ρ : pm) : Option (Int × pm) := ck (inR l1) (if l1 < 0 then some ((-1), ρ) else if l1 ≤ 1 then (f_X2_copy 25 8 ρ).bind (fun ρ2 => (f_X8_note 0 ρ2).bind (fun ρ3 => L_X8_again_32 (fun (l1 l2 l3 : Int) (ρ : pm) => ck (inR l1) (if l1 = 0 then some (l3, ρ) else some (l2 - l3, ρ))) fu l1 1 ρ3)) else some ((-1), ρ))
set_option maxRecDepth 100000 in
theorem t_X8_again_32 {d : Nat}    {o : pm} {rv : Int} {rρ : pm} {K56 : Int → Int → Int → pm → Option (Int × pm)} (hK56 : ∀ (l1 l2 l3 : Int) (ρ : pm), K56 l1 l2 l3 ρ = some (rv, rρ) → ci_T yX8_again cX8_again 4 (some .int) (d + 4) 56 ([(1, .int (Int32.ofInt l1)), (2, .int (Int32.ofInt l2)), (3, .int (Int32.ofInt l3))], [], pk true ρ o) (pP true rv rρ o)) : ∀ (n : Nat) (l1 l2 : Int) (ρ : pm), L_X8_again_32 K56 n l1 l2 ρ = some (rv, rρ) → ci_T yX8_again cX8_again 4 (some .int) (d + 4) 32 ([(0, .ref 1), (1, .int (Int32.ofInt l1)), (2, .int (Int32.ofInt l2))], [], pk true ρ o) (pP true rv rρ o) := by
  intro n
  induction n with
  | zero =>
    intro l1 l2 ρ h
    rw [L_X8_again_32] at h
    cases h
  | succ n ih =>
    intro l1 l2 ρ h
    rw [L_X8_again_32] at h
    obtain ⟨h4, h⟩ := ck_some h
    refine ci_T.step cb_X8_again_32 (ci_sq rfl (ci_sq (pe_push pc_60) (pe_ic_gt h4 pR_60))) ?_
    refine pbr h (fun hc h => ?_) (fun hc h => ?_)
    · refine ci_T.step cb_X8_again_79 (pe_push pc_m4) ?_
      cases h
      exact ci_T.done (v := some (.int _)) cd_X8_again_81 ⟨rfl, rfl⟩
    · refine ci_T.step cb_X8_again_38 (ci_sq rfl (ci_sq (pe_getR tq_0 rfl rfl) (pe_push pc_0))) ?_
      obtain ⟨ρ5, hv, h⟩ := bn_some h
      refine ci_T.call (as := [_, _]) (rest := []) kc_X2_pass ki_X2_pass (by decide) cl_X8_again_43 rfl (Nat.le_of_ble_eq_true rfl) ⟨⟨_, rfl⟩, _, _, _, rfl, pk_obj tq_25 rfl _ _⟩ (s_X2_pass d 25 iF_25 o hv) ?_
      rintro _ _ ⟨rfl, rfl⟩
      clear hv
      refine ci_T.step cb_X8_again_46 (ci_sq rfl rfl) ?_
      obtain ⟨v6, hv, h⟩ := bn_some h
      refine ci_T.call (as := [_, _]) (rest := []) kc_X8_firstAlike ki_X8_firstAlike (by decide) cl_X8_again_48 rfl (Nat.le_of_ble_eq_true rfl) ⟨⟨_, rfl⟩, _, _, _, rfl, pk_obj tq_0 rfl _ _⟩ (s_X8_firstAlike (d + 2) o hv) ?_
      rintro _ _ ⟨rfl, rfl⟩
      clear hv
      obtain ⟨h7, h⟩ := ck_some h
      refine ci_T.step cb_X8_again_51 (ci_sq rfl (ci_sq rfl (pe_if_lt h7))) ?_
      refine pbr h (fun hc h => ?_) (fun hc h => ?_)
      · refine ci_T.step cb_X8_again_68 (ci_sq rfl rfl) ?_
        obtain ⟨ρ8, hv, h⟩ := bn_some h
        refine ci_T.call (as := [_, _]) (rest := []) kc_X8_note ki_X8_note (by decide) cl_X8_again_70 rfl (Nat.le_of_ble_eq_true rfl) ⟨⟨_, rfl⟩, _, _, _, rfl, pk_obj tq_0 rfl _ _⟩ (s_X8_note (d + 3) o hv) ?_
        rintro _ _ ⟨rfl, rfl⟩
        clear hv
        replace h := jn_some h
        refine ci_T.step cb_X8_again_73 (ci_sq (pe_inc rfl) rfl) ?_
        exact ci_T.sub [2, 3, 0] (ih _ _ _ h) rfl
      · exact ci_T.sub [2, 3, 0] (hK56 _ _ _ _ h) rfl
set_option maxRecDepth 100000 in
theorem s_X8_again (d : Nat)   {ρ : pm} (o : pm) {l1 : Int} {rv : Int} {rρ : pm} (h : f_X8_again l1 ρ = some (rv, rρ)) : ci_Met (d + 4) (yX8_again, cX8_again, 4, (some .int), [], 0, 0) [.ref 1, .int (Int32.ofInt l1)] (pk true ρ o) (pP true rv rρ o) := by
  refine ci_met (by decide) (Nat.le_of_ble_eq_true rfl) ?_ ?_
  · rintro v w' ⟨rfl, rfl⟩
    trivial
  · change ci_T _ _ _ _ _ _ ([(0, .ref 1), (1, .int (Int32.ofInt l1))], [], pk true ρ o) _
    unfold f_X8_again at h
    obtain ⟨h1, h⟩ := ck_some h
    refine ci_T.step cb_X8_again_0 (ci_sq rfl (pe_if_lt h1)) ?_
    refine pbr h (fun hc h => ?_) (fun hc h => ?_)
    · refine ci_T.step cb_X8_again_9 (pe_push pc_m1) ?_
      cases h
      exact ci_T.done (v := some (.int _)) cd_X8_again_10 ⟨rfl, rfl⟩
    · refine ci_T.step cb_X8_again_4 (ci_sq rfl (ci_sq (pe_push pc_1) (pe_ic_le h1 pR_1))) ?_
      refine pbr h (fun hc h => ?_) (fun hc h => ?_)
      · refine ci_T.step cb_X8_again_11 (ci_sq rfl (ci_sq (pe_getR tq_0 rfl rfl) (ci_sq rfl (ci_sq (pe_getR tq_0 rfl rfl) (pe_getR tq_4 rfl rfl))))) ?_
        obtain ⟨ρ2, hv, h⟩ := bn_some h
        refine ci_T.call (as := [_, _]) (rest := []) kc_X2_copy ki_X2_copy (by decide) cl_X8_again_22 rfl (Nat.le_of_ble_eq_true rfl) ⟨⟨_, rfl⟩, _, _, _, rfl, pk_obj tq_25 rfl _ _⟩ (s_X2_copy (d + 3) 25 8 iF_25 iF_8 o hv) ?_
        rintro _ _ ⟨rfl, rfl⟩
        clear hv
        refine ci_T.step cb_X8_again_25 (ci_sq rfl (pe_push pc_0)) ?_
        obtain ⟨ρ3, hv, h⟩ := bn_some h
        refine ci_T.call (as := [_, _]) (rest := []) kc_X8_note ki_X8_note (by decide) cl_X8_again_27 rfl (Nat.le_of_ble_eq_true rfl) ⟨⟨_, rfl⟩, _, _, _, rfl, pk_obj tq_0 rfl _ _⟩ (s_X8_note (d + 3) o hv) ?_
        rintro _ _ ⟨rfl, rfl⟩
        clear hv
        refine ci_T.step cb_X8_again_30 (ci_sq (pe_push pc_1) rfl) ?_
        refine ci_T.sub [1, 2, 0] (t_X8_again_32 ?_ fu _ _ _ h) rfl
        · intro l1 l2 l3 ρ h
          obtain ⟨h10, h⟩ := ck_some h
          refine ci_T.step cb_X8_again_56 (ci_sq rfl (pe_if_ne h10)) ?_
          refine pbrn h (fun hc h => ?_) (fun hc h => ?_)
          · refine ci_T.step cb_X8_again_64 (ci_sq rfl (ci_sq rfl pe_isub)) ?_
            cases h
            exact ci_T.done (v := some (.int _)) cd_X8_again_67 ⟨rfl, rfl⟩
          · refine ci_T.step cb_X8_again_60 (ci_sq rfl rfl) ?_
            cases h
            exact ci_T.done (v := some (.int _)) cd_X8_again_67 ⟨rfl, rfl⟩
      · refine ci_T.step cb_X8_again_9 (pe_push pc_m1) ?_
        cases h
        exact ci_T.done (v := some (.int _)) cd_X8_again_10 ⟨rfl, rfl⟩
/-- X8_commonDivisor -/
def L_X8_commonDivisor_7  : Nat → Int → Int → Int → Option Int
  | 0, _, _, _ => none
  | n + 1, l2, l3, l4 => ck (inR l4) (if 64 ≤ l4 then some l2 else ck (inR l3) (if l3 = 0 then some l2 else ck (inR l2) (ck (l3 ≠ 0) (jn (Int.tmod l2 l3) (fun x5 => jn (l4 + 1) (fun x6 => L_X8_commonDivisor_7 n l3 x5 x6))))))
def f_X8_commonDivisor (l0 l1 : Int) : Option Int := L_X8_commonDivisor_7 fu l0 l1 0
set_option maxRecDepth 100000 in
theorem t_X8_commonDivisor_7 {d : Nat}   {ρ : pm} {o : pm} {rv : Int}   : ∀ (n : Nat) (l2 l3 l4 : Int), L_X8_commonDivisor_7 n l2 l3 l4 = some rv → ci_T yX8_commonDivisor cX8_commonDivisor 6 (some .int) d 7 ([(2, .int (Int32.ofInt l2)), (3, .int (Int32.ofInt l3)), (4, .int (Int32.ofInt l4))], [], pk true ρ o) (pP true rv ρ o) := by
  intro n
  induction n with
  | zero =>
    intro l2 l3 l4 h
    rw [L_X8_commonDivisor_7] at h
    cases h
  | succ n ih =>
    intro l2 l3 l4 h
    rw [L_X8_commonDivisor_7] at h
    obtain ⟨h1, h⟩ := ck_some h
    refine ci_T.step cb_X8_commonDivisor_7 (ci_sq rfl (ci_sq (pe_push pc_64) (pe_ic_ge h1 pR_64))) ?_
    refine pbr h (fun hc h => ?_) (fun hc h => ?_)
    · refine ci_T.step cb_X8_commonDivisor_34 rfl ?_
      cases h
      exact ci_T.done (v := some (.int _)) cd_X8_commonDivisor_35 ⟨rfl, rfl⟩
    · obtain ⟨h2, h⟩ := ck_some h
      refine ci_T.step cb_X8_commonDivisor_14 (ci_sq rfl (pe_if_eq h2)) ?_
      refine pbr h (fun hc h => ?_) (fun hc h => ?_)
      · refine ci_T.step cb_X8_commonDivisor_34 rfl ?_
        cases h
        exact ci_T.done (v := some (.int _)) cd_X8_commonDivisor_35 ⟨rfl, rfl⟩
      · obtain ⟨h3, h⟩ := ck_some h
        obtain ⟨h4, h⟩ := ck_some h
        replace h := jn_some h
        replace h := jn_some h
        refine ci_T.step cb_X8_commonDivisor_18 (ci_sq rfl (ci_sq rfl (ci_sq (pe_irem ⟨h3, h2, h4⟩) (ci_sq rfl (ci_sq rfl (ci_sq rfl (ci_sq rfl (ci_sq rfl (ci_sq (pe_inc rfl) rfl))))))))) ?_
        exact ci_T.sub [2, 1, 0] (ih _ _ _ h) rfl
set_option maxRecDepth 100000 in
theorem s_X8_commonDivisor (d : Nat)   {ρ : pm} (o : pm) {l0 l1 : Int} {rv : Int} (h : f_X8_commonDivisor l0 l1 = some rv) : ci_Met d (yX8_commonDivisor, cX8_commonDivisor, 6, (some .int), [], 0, 0) [.int (Int32.ofInt l0), .int (Int32.ofInt l1)] (pk true ρ o) (pP true rv ρ o) := by
  refine ci_met (by decide) (Nat.le_of_ble_eq_true rfl) ?_ ?_
  · rintro v w' ⟨rfl, rfl⟩
    trivial
  · change ci_T _ _ _ _ _ _ ([(0, .int (Int32.ofInt l0)), (1, .int (Int32.ofInt l1))], [], pk true ρ o) _
    unfold f_X8_commonDivisor at h
    refine ci_T.step cb_X8_commonDivisor_0 (ci_sq rfl (ci_sq rfl (ci_sq rfl (ci_sq rfl (ci_sq (pe_push pc_0) rfl))))) ?_
    exact ci_T.sub [2, 1, 0] (t_X8_commonDivisor_7 fu _ _ _ h) rfl
/-- X8_odds -/
def L_X8_odds_33 (K71 : Int → Int → pm → Option (Int × pm)) : Nat → Int → Int → Int → Int → pm → Option (Int × pm)
  | 0, _, _, _, _, _ => none
  | n + 1, l1, l2, l3, l4, ρ => ck (inR l4) (ck (inR (ρ 28 5)) (if (ρ 28 5) ≤ l4 then K71 l2 l3 ρ else ck (0 ≤ l4 ∧ l4 < 729) ((f_X8_has (ρ 33 l4) l1).bind (fun v8 => jn (fun (l1 l2 l3 l4 : Int) (ρ : pm) => jn (l4 + 1) (fun x10 => L_X8_odds_33 K71 n l1 l2 l3 x10 ρ)) (fun j65 => if v8 = 0 then j65 l1 l2 l3 l4 ρ else jn (l3 + 1) (fun x11 => j65 l1 l2 x11 l4 ρ))))))
def f_X8_odds (l1 l2 : Int) (ρ : pm) : Option (Int × pm) := (f_X3_hasCell l1 ρ).bind (fun v1 => if v1 = 0 then some ((-1), ρ) else ck (inR l2) (if l2 < 0 then some ((-1), ρ) else if l2 ≤ 1 then (f_X8_lookAhead ρ).bind (fun ρ4 => L_X8_odds_33 (fun (l2 l3 : Int) (ρ : pm) => (f_X8_commonDivisor (ρ 28 5) l3).bind (fun v12 => ck (inR v12) (if 1 ≤ v12 then ck (inR l2) (if l2 = 0 then ck (inR l3) (ck (v12 ≠ 0) (ck (inR (Int.tdiv l3 v12)) (some (Int.tdiv l3 v12, ρ)))) else ck (inR (ρ 28 5)) (ck (v12 ≠ 0) (ck (inR (Int.tdiv (ρ 28 5) v12)) (some (Int.tdiv (ρ 28 5) v12, ρ))))) else some (0, ρ)))) fu l1 l2 0 0 ρ4) else some ((-1), ρ)))
set_option maxRecDepth 100000 in
theorem t_X8_odds_33 {d : Nat}    {o : pm} {rv : Int} {rρ : pm} {K71 : Int → Int → pm → Option (Int × pm)} (hK71 : ∀ (l2 l3 : Int) (ρ : pm), K71 l2 l3 ρ = some (rv, rρ) → ci_T yX8_odds cX8_odds 5 (some .long) (d + 6) 71 ([(0, .ref 1), (2, .int (Int32.ofInt l2)), (3, .int (Int32.ofInt l3))], [], pk true ρ o) (pL true rv rρ o)) : ∀ (n : Nat) (l1 l2 l3 l4 : Int) (ρ : pm), L_X8_odds_33 K71 n l1 l2 l3 l4 ρ = some (rv, rρ) → ci_T yX8_odds cX8_odds 5 (some .long) (d + 6) 33 ([(0, .ref 1), (1, .int (Int32.ofInt l1)), (2, .int (Int32.ofInt l2)), (3, .int (Int32.ofInt l3)), (4, .int (Int32.ofInt l4))], [], pk true ρ o) (pL true rv rρ o) := by
  intro n
  induction n with
  | zero =>
    intro l1 l2 l3 l4 ρ h
    rw [L_X8_odds_33] at h
    cases h
  | succ n ih =>
    intro l1 l2 l3 l4 ρ h
    rw [L_X8_odds_33] at h
    obtain ⟨h5, h⟩ := ck_some h
    obtain ⟨h6, h⟩ := ck_some h
    refine ci_T.step cb_X8_odds_33 (ci_sq rfl (ci_sq rfl (ci_sq (pe_getR tq_0 rfl rfl) (ci_sq (pe_getI (kI := 5) tq_28 rfl rfl rfl) (pe_ic_ge h5 h6))))) ?_
    refine pbr h (fun hc h => ?_) (fun hc h => ?_)
    · exact ci_T.sub [0, 2, 3] (hK71 _ _ _ h) rfl
    · obtain ⟨h7, h⟩ := ck_some h
      refine ci_T.step cb_X8_odds_45 (ci_sq rfl (ci_sq (pe_getR tq_0 rfl rfl) (ci_sq (pe_getR tq_28 rfl rfl) (ci_sq rfl (ci_sq (pe_ald (nI := 729) tq_33 rfl rfl h7) rfl))))) ?_
      obtain ⟨v8, hv, h⟩ := bn_some h
      refine ci_T.call (as := [_, _]) (rest := []) kc_X8_has ki_X8_has (by decide) cl_X8_odds_56 rfl (Nat.le_of_ble_eq_true rfl) trivial (s_X8_has (d + 5) o hv) ?_
      rintro _ _ ⟨⟨rfl, rfl⟩, hz9⟩
      clear hv
      refine ci_T.step cb_X8_odds_59 (pe_if_eq (Z_R hz9)) ?_
      obtain ⟨j65, hj, h⟩ := jn_ex h
      have J65 : ∀ (l1 l2 l3 l4 : Int) (ρ : pm), j65 l1 l2 l3 l4 ρ = some (rv, rρ) → ci_T yX8_odds cX8_odds 5 (some .long) (d + 6) 65 ([(0, .ref 1), (1, .int (Int32.ofInt l1)), (2, .int (Int32.ofInt l2)), (3, .int (Int32.ofInt l3)), (4, .int (Int32.ofInt l4))], [], pk true ρ o) (pL true rv rρ o) := by
        intro l1 l2 l3 l4 ρ h
        subst hj
        replace h := jn_some h
        refine ci_T.step cb_X8_odds_65 (ci_sq (pe_inc rfl) rfl) ?_
        exact ci_T.sub [1, 2, 3, 4, 0] (ih _ _ _ _ _ h) rfl
      clear hj
      refine pbr h (fun hc h => ?_) (fun hc h => ?_)
      · exact ci_T.sub [0, 1, 2, 3, 4] (J65 _ _ _ _ _ h) rfl
      · replace h := jn_some h
        refine ci_T.step cb_X8_odds_62 (pe_inc rfl) ?_
        exact ci_T.sub [1, 2, 3, 0, 4] (J65 _ _ _ _ _ h) rfl
set_option maxRecDepth 100000 in
theorem s_X8_odds (d : Nat)   {ρ : pm} (o : pm) {l1 l2 : Int} {rv : Int} {rρ : pm} (h : f_X8_odds l1 l2 ρ = some (rv, rρ)) : ci_Met (d + 6) (yX8_odds, cX8_odds, 5, (some .long), [], 0, 0) [.ref 1, .int (Int32.ofInt l1), .int (Int32.ofInt l2)] (pk true ρ o) (pL true rv rρ o) := by
  refine ci_met (by decide) (Nat.le_of_ble_eq_true rfl) ?_ ?_
  · rintro v w' ⟨rfl, rfl⟩
    trivial
  · change ci_T _ _ _ _ _ _ ([(0, .ref 1), (1, .int (Int32.ofInt l1)), (2, .int (Int32.ofInt l2))], [], pk true ρ o) _
    unfold f_X8_odds at h
    refine ci_T.step cb_X8_odds_0 (ci_sq rfl (ci_sq (pe_getR tq_0 rfl rfl) rfl)) ?_
    obtain ⟨v1, hv, h⟩ := bn_some h
    refine ci_T.call (as := [_, _]) (rest := []) kc_X3_hasCell ki_X3_hasCell (by decide) cl_X8_odds_5 rfl (Nat.le_of_ble_eq_true rfl) ⟨⟨_, rfl⟩, _, _, _, rfl, pk_obj tq_1 rfl _ _⟩ (s_X3_hasCell (d + 5) o hv) ?_
    rintro _ _ ⟨⟨rfl, rfl⟩, hz2⟩
    clear hv
    refine ci_T.step cb_X8_odds_8 (pe_if_eq (Z_R hz2)) ?_
    refine pbr h (fun hc h => ?_) (fun hc h => ?_)
    · refine ci_T.step cb_X8_odds_20 (pe_pushl pcl_m1) ?_
      cases h
      exact ci_T.done (v := some (.long _)) cd_X8_odds_23 ⟨rfl, rfl⟩
    · obtain ⟨h3, h⟩ := ck_some h
      refine ci_T.step cb_X8_odds_11 (ci_sq rfl (pe_if_lt h3)) ?_
      refine pbr h (fun hc h => ?_) (fun hc h => ?_)
      · refine ci_T.step cb_X8_odds_20 (pe_pushl pcl_m1) ?_
        cases h
        exact ci_T.done (v := some (.long _)) cd_X8_odds_23 ⟨rfl, rfl⟩
      · refine ci_T.step cb_X8_odds_15 (ci_sq rfl (ci_sq (pe_push pc_1) (pe_ic_le h3 pR_1))) ?_
        refine pbr h (fun hc h => ?_) (fun hc h => ?_)
        · refine ci_T.step cb_X8_odds_24 rfl ?_
          obtain ⟨ρ4, hv, h⟩ := bn_some h
          refine ci_T.call (as := [_]) (rest := []) kc_X8_lookAhead ki_X8_lookAhead (by decide) cl_X8_odds_25 rfl (Nat.le_of_ble_eq_true rfl) ⟨⟨_, rfl⟩, _, _, _, rfl, pk_obj tq_0 rfl _ _⟩ (s_X8_lookAhead d o hv) ?_
          rintro _ _ ⟨rfl, rfl⟩
          clear hv
          refine ci_T.step cb_X8_odds_28 (ci_sq (pe_push pc_0) (ci_sq rfl (ci_sq (pe_push pc_0) rfl))) ?_
          refine ci_T.sub [2, 3, 4, 1, 0] (t_X8_odds_33 ?_ fu _ _ _ _ _ h) rfl
          · intro l2 l3 ρ h
            refine ci_T.step cb_X8_odds_71 (ci_sq rfl (ci_sq (pe_getR tq_0 rfl rfl) (ci_sq (pe_getI (kI := 5) tq_28 rfl rfl rfl) rfl))) ?_
            obtain ⟨v12, hv, h⟩ := bn_some h
            refine ci_T.call (as := [_, _]) (rest := []) kc_X8_commonDivisor ki_X8_commonDivisor (by decide) cl_X8_odds_79 rfl (Nat.le_of_ble_eq_true rfl) trivial (s_X8_commonDivisor (d + 5) o hv) ?_
            rintro _ _ ⟨rfl, rfl⟩
            clear hv
            obtain ⟨h13, h⟩ := ck_some h
            refine ci_T.step cb_X8_odds_82 (ci_sq rfl (ci_sq rfl (ci_sq (pe_push pc_1) (pe_ic_ge h13 pR_1)))) ?_
            refine pbr h (fun hc h => ?_) (fun hc h => ?_)
            · obtain ⟨h14, h⟩ := ck_some h
              refine ci_T.step cb_X8_odds_94 (ci_sq rfl (pe_if_ne h14)) ?_
              refine pbrn h (fun hc h => ?_) (fun hc h => ?_)
              · refine ci_T.step cb_X8_odds_102 (ci_sq rfl (ci_sq (pe_getR tq_0 rfl rfl) (pe_getI (kI := 5) tq_28 rfl rfl rfl))) ?_
                obtain ⟨h15, h⟩ := ck_some h
                obtain ⟨h16, h⟩ := ck_some h
                obtain ⟨h17, h⟩ := ck_some h
                refine ci_T.step cb_X8_odds_109 (ci_sq rfl (ci_sq (pe_idiv ⟨h15, h13, h16⟩) (pe_i2l h17))) ?_
                cases h
                exact ci_T.done (v := some (.long _)) cd_X8_odds_113 ⟨rfl, rfl⟩
              · refine ci_T.step cb_X8_odds_98 (ci_sq rfl rfl) ?_
                obtain ⟨h18, h⟩ := ck_some h
                obtain ⟨h19, h⟩ := ck_some h
                obtain ⟨h20, h⟩ := ck_some h
                refine ci_T.step cb_X8_odds_109 (ci_sq rfl (ci_sq (pe_idiv ⟨h18, h13, h19⟩) (pe_i2l h20))) ?_
                cases h
                exact ci_T.done (v := some (.long _)) cd_X8_odds_113 ⟨rfl, rfl⟩
            · refine ci_T.step cb_X8_odds_90 (ci_sq (pe_pushl pcl_0) rfl) ?_
              cases h
              exact ci_T.done (v := some (.long _)) cd_X8_odds_113 ⟨rfl, rfl⟩
        · refine ci_T.step cb_X8_odds_20 (pe_pushl pcl_m1) ?_
          cases h
          exact ci_T.done (v := some (.long _)) cd_X8_odds_23 ⟨rfl, rfl⟩
/-- X8_see -/
def f_X8_see (l1 l2 : Int) (ρ : pm) : Option (Int × pm) := (f_X3_hasCell l1 ρ).bind (fun v1 => if v1 = 0 then some ((-1), ρ) else ck (inR (ρ 4 6)) (if (ρ 4 6) < 8 then ck (inR l2) (jn (fun (s1 s2 : Int) (ρ : pm) => ck (0 ≤ s1 ∧ s1 < 8) (jn (pup ρ 7 s1 s2) (fun ρ6 => jn (pup ρ6 4 6 ((ρ6 4 6) + 1)) (fun ρ7 => some (ρ7 4 6, ρ7))))) (fun j54 => if l2 = 0 then j54 (ρ 4 6) (l1 - 25) ρ else j54 (ρ 4 6) l1 ρ)) else some ((-3), ρ)))
set_option maxRecDepth 100000 in
theorem s_X8_see (d : Nat)   {ρ : pm} (o : pm) {l1 l2 : Int} {rv : Int} {rρ : pm} (h : f_X8_see l1 l2 ρ = some (rv, rρ)) : ci_Met (d + 1) (yX8_see, cX8_see, 3, (some .int), [], 0, 0) [.ref 1, .int (Int32.ofInt l1), .int (Int32.ofInt l2)] (pk true ρ o) (pP true rv rρ o) := by
  refine ci_met (by decide) (Nat.le_of_ble_eq_true rfl) ?_ ?_
  · rintro v w' ⟨rfl, rfl⟩
    trivial
  · change ci_T _ _ _ _ _ _ ([(0, .ref 1), (1, .int (Int32.ofInt l1)), (2, .int (Int32.ofInt l2))], [], pk true ρ o) _
    unfold f_X8_see at h
    refine ci_T.step cb_X8_see_0 (ci_sq rfl (ci_sq (pe_getR tq_0 rfl rfl) rfl)) ?_
    obtain ⟨v1, hv, h⟩ := bn_some h
    refine ci_T.call (as := [_, _]) (rest := []) kc_X3_hasCell ki_X3_hasCell (by decide) cl_X8_see_5 rfl (Nat.le_of_ble_eq_true rfl) ⟨⟨_, rfl⟩, _, _, _, rfl, pk_obj tq_1 rfl _ _⟩ (s_X3_hasCell d o hv) ?_
    rintro _ _ ⟨⟨rfl, rfl⟩, hz2⟩
    clear hv
    refine ci_T.step cb_X8_see_8 (pe_if_ne (Z_R hz2)) ?_
    refine pbrn h (fun hc h => ?_) (fun hc h => ?_)
    · obtain ⟨h3, h⟩ := ck_some h
      refine ci_T.step cb_X8_see_13 (ci_sq rfl (ci_sq (pe_getR tq_0 rfl rfl) (ci_sq (pe_getI (kI := 6) tq_4 rfl rfl rfl) (ci_sq (pe_push pc_8) (pe_ic_lt h3 pR_8))))) ?_
      refine pbr h (fun hc h => ?_) (fun hc h => ?_)
      · obtain ⟨h4, h⟩ := ck_some h
        refine ci_T.step cb_X8_see_28 (ci_sq rfl (ci_sq (pe_getR tq_0 rfl rfl) (ci_sq (pe_getR tq_4 rfl rfl) (ci_sq rfl (ci_sq (pe_getR tq_0 rfl rfl) (ci_sq (pe_getI (kI := 6) tq_4 rfl rfl rfl) (ci_sq rfl (pe_if_eq h4)))))))) ?_
        obtain ⟨j54, hj, h⟩ := jn_ex h
        have J54 : ∀ (s1 s2 : Int) (ρ : pm), j54 s1 s2 ρ = some (rv, rρ) → ci_T yX8_see cX8_see 3 (some .int) (d + 1) 54 ([(0, .ref 1)], [.int (Int32.ofInt s2), .int (Int32.ofInt s1), .ref 8], pk true ρ o) (pP true rv rρ o) := by
          intro s1 s2 ρ h
          subst hj
          obtain ⟨h5, h⟩ := ck_some h
          replace h := jn_some h
          replace h := jn_some h
          refine ci_T.step cb_X8_see_54 (ci_sq (pe_ast (nI := 8) tq_7 rfl rfl h5 rfl) (ci_sq rfl (ci_sq (pe_getR tq_0 rfl rfl) (ci_sq rfl (ci_sq (pe_getI (kI := 6) tq_4 rfl rfl rfl) (ci_sq (pe_push pc_1) (ci_sq pe_iadd (ci_sq (pe_putI (kI := 6) tq_4 rfl rfl rfl) (ci_sq rfl (ci_sq (pe_getR tq_0 rfl rfl) (pe_getI (kI := 6) tq_4 rfl rfl rfl))))))))))) ?_
          cases h
          exact ci_T.done (v := some (.int _)) cd_X8_see_75 ⟨rfl, rfl⟩
        clear hj
        refine pbr h (fun hc h => ?_) (fun hc h => ?_)
        · refine ci_T.step cb_X8_see_50 (ci_sq rfl (ci_sq (pe_push pc_25) pe_isub)) ?_
          exact ci_T.sub [0] (J54 _ _ _ h) rfl
        · refine ci_T.step cb_X8_see_46 (ci_sq rfl rfl) ?_
          exact ci_T.sub [0] (J54 _ _ _ h) rfl
      · refine ci_T.step cb_X8_see_25 (pe_push pc_m3) ?_
        cases h
        exact ci_T.done (v := some (.int _)) cd_X8_see_27 ⟨rfl, rfl⟩
    · refine ci_T.step cb_X8_see_11 (pe_push pc_m1) ?_
      cases h
      exact ci_T.done (v := some (.int _)) cd_X8_see_12 ⟨rfl, rfl⟩
/-- X8_forget -/
def f_X8_forget (l1 : Int) (ρ : pm) : Option (Int × pm) := ck (inR l1) (if l1 < 0 then some ((-1), ρ) else ck (inR (ρ 4 6)) (if l1 ≤ (ρ 4 6) then jn (ρ 4 6) (fun x3 => jn (pup ρ 4 6 l1) (fun ρ4 => some (x3, ρ4))) else some ((-1), ρ)))
set_option maxRecDepth 100000 in
theorem s_X8_forget (d : Nat)   {ρ : pm} (o : pm) {l1 : Int} {rv : Int} {rρ : pm} (h : f_X8_forget l1 ρ = some (rv, rρ)) : ci_Met d (yX8_forget, cX8_forget, 3, (some .int), [], 0, 0) [.ref 1, .int (Int32.ofInt l1)] (pk true ρ o) (pP true rv rρ o) := by
  refine ci_met (by decide) (Nat.le_of_ble_eq_true rfl) ?_ ?_
  · rintro v w' ⟨rfl, rfl⟩
    trivial
  · change ci_T _ _ _ _ _ _ ([(0, .ref 1), (1, .int (Int32.ofInt l1))], [], pk true ρ o) _
    unfold f_X8_forget at h
    obtain ⟨h1, h⟩ := ck_some h
    refine ci_T.step cb_X8_forget_0 (ci_sq rfl (pe_if_lt h1)) ?_
    refine pbr h (fun hc h => ?_) (fun hc h => ?_)
    · refine ci_T.step cb_X8_forget_15 (pe_push pc_m1) ?_
      cases h
      exact ci_T.done (v := some (.int _)) cd_X8_forget_16 ⟨rfl, rfl⟩
    · obtain ⟨h2, h⟩ := ck_some h
      refine ci_T.step cb_X8_forget_4 (ci_sq rfl (ci_sq rfl (ci_sq (pe_getR tq_0 rfl rfl) (ci_sq (pe_getI (kI := 6) tq_4 rfl rfl rfl) (pe_ic_le h1 h2))))) ?_
      refine pbr h (fun hc h => ?_) (fun hc h => ?_)
      · replace h := jn_some h
        replace h := jn_some h
        refine ci_T.step cb_X8_forget_17 (ci_sq rfl (ci_sq (pe_getR tq_0 rfl rfl) (ci_sq (pe_getI (kI := 6) tq_4 rfl rfl rfl) (ci_sq rfl (ci_sq rfl (ci_sq (pe_getR tq_0 rfl rfl) (ci_sq rfl (ci_sq (pe_putI (kI := 6) tq_4 rfl rfl rfl) rfl)))))))) ?_
        cases h
        exact ci_T.done (v := some (.int _)) cd_X8_forget_34 ⟨rfl, rfl⟩
      · refine ci_T.step cb_X8_forget_15 (pe_push pc_m1) ?_
        cases h
        exact ci_T.done (v := some (.int _)) cd_X8_forget_16 ⟨rfl, rfl⟩
/-- X7_agrees -/
def L_X7_agrees_2 (ρ : pm) : Nat → Int → Int → Option Int
  | 0, _, _ => none
  | n + 1, l1, l2 => ck (inR l2) (ck (inR (ρ 4 6)) (if (ρ 4 6) ≤ l2 then some 1 else if 8 ≤ l2 then some 1 else ck (0 ≤ l2 ∧ l2 < 8) (ck (inR (ρ 7 l2)) (jn (fun (l1 l2 s0 : Int) => ck (inR s0) (jn (fun (l1 l2 l3 s0 s1 : Int) => (f_X8_has s0 s1).bind (fun v6 => ck (inR l3) (if v6 = l3 then jn (l2 + 1) (fun x9 => L_X7_agrees_2 ρ n l1 x9) else some 0))) (fun j54 => if s0 = 0 then ck (0 ≤ l2 ∧ l2 < 8) (j54 l1 l2 s0 l1 ((ρ 7 l2) + 25)) else ck (0 ≤ l2 ∧ l2 < 8) (j54 l1 l2 s0 l1 (ρ 7 l2))))) (fun j30 => if (ρ 7 l2) < 0 then j30 l1 l2 0 else j30 l1 l2 1)))))
def f_X7_agrees (l1 : Int) (ρ : pm) : Option Int := L_X7_agrees_2 ρ fu l1 0
set_option maxRecDepth 100000 in
theorem t_X7_agrees_2 {d : Nat}   {ρ : pm} {o : pm} {rv : Int}   : ∀ (n : Nat) (l1 l2 : Int), L_X7_agrees_2 ρ n l1 l2 = some rv → ci_T yX7_agrees cX7_agrees 4 (some .boolean) (d + 1) 2 ([(0, .ref 5), (1, .int (Int32.ofInt l1)), (2, .int (Int32.ofInt l2))], [], pk true ρ o) (pZ true rv ρ o) := by
  intro n
  induction n with
  | zero =>
    intro l1 l2 h
    rw [L_X7_agrees_2] at h
    cases h
  | succ n ih =>
    intro l1 l2 h
    rw [L_X7_agrees_2] at h
    obtain ⟨h1, h⟩ := ck_some h
    obtain ⟨h2, h⟩ := ck_some h
    refine ci_T.step cb_X7_agrees_2 (ci_sq rfl (ci_sq rfl (ci_sq (pe_getI (kI := 6) tq_4 rfl rfl rfl) (pe_ic_ge h1 h2)))) ?_
    refine pbr h (fun hc h => ?_) (fun hc h => ?_)
    · refine ci_T.step cb_X7_agrees_69 (pe_push pc_1) ?_
      cases h
      exact ci_T.done (v := some (.int _)) cd_X7_agrees_70 ⟨⟨rfl, rfl⟩, (Or.inr rfl)⟩
    · refine ci_T.step cb_X7_agrees_10 (ci_sq rfl (ci_sq (pe_push pc_8) (pe_ic_ge h1 pR_8))) ?_
      refine pbr h (fun hc h => ?_) (fun hc h => ?_)
      · refine ci_T.step cb_X7_agrees_69 (pe_push pc_1) ?_
        cases h
        exact ci_T.done (v := some (.int _)) cd_X7_agrees_70 ⟨⟨rfl, rfl⟩, (Or.inr rfl)⟩
      · obtain ⟨h3, h⟩ := ck_some h
        obtain ⟨h4, h⟩ := ck_some h
        refine ci_T.step cb_X7_agrees_16 (ci_sq rfl (ci_sq (pe_getR tq_4 rfl rfl) (ci_sq rfl (ci_sq (pe_ald (nI := 8) tq_7 rfl rfl h3) (pe_if_lt h4))))) ?_
        obtain ⟨j30, hj, h⟩ := jn_ex h
        have J30 : ∀ (l1 l2 s0 : Int), j30 l1 l2 s0 = some rv → ci_T yX7_agrees cX7_agrees 4 (some .boolean) (d + 1) 30 ([(0, .ref 5), (1, .int (Int32.ofInt l1)), (2, .int (Int32.ofInt l2))], [.int (Int32.ofInt s0)], pk true ρ o) (pZ true rv ρ o) := by
          intro l1 l2 s0 h
          subst hj
          obtain ⟨h5, h⟩ := ck_some h
          refine ci_T.step cb_X7_agrees_30 (ci_sq rfl (ci_sq rfl (ci_sq rfl (pe_if_eq h5)))) ?_
          obtain ⟨j54, hj, h⟩ := jn_ex h
          have J54 : ∀ (l1 l2 l3 s0 s1 : Int), j54 l1 l2 l3 s0 s1 = some rv → ci_T yX7_agrees cX7_agrees 4 (some .boolean) (d + 1) 54 ([(0, .ref 5), (1, .int (Int32.ofInt l1)), (2, .int (Int32.ofInt l2)), (3, .int (Int32.ofInt l3))], [.int (Int32.ofInt s1), .int (Int32.ofInt s0)], pk true ρ o) (pZ true rv ρ o) := by
            intro l1 l2 l3 s0 s1 h
            subst hj
            obtain ⟨v6, hv, h⟩ := bn_some h
            refine ci_T.call (as := [_, _]) (rest := []) kc_X8_has ki_X8_has (by decide) cl_X7_agrees_54 rfl (Nat.le_of_ble_eq_true rfl) trivial (s_X8_has d o hv) ?_
            rintro _ _ ⟨⟨rfl, rfl⟩, hz7⟩
            clear hv
            obtain ⟨h8, h⟩ := ck_some h
            refine ci_T.step cb_X7_agrees_57 (ci_sq rfl (pe_ic_eq (Z_R hz7) h8)) ?_
            refine pbr h (fun hc h => ?_) (fun hc h => ?_)
            · replace h := jn_some h
              refine ci_T.step cb_X7_agrees_63 (ci_sq (pe_inc rfl) rfl) ?_
              exact ci_T.sub [1, 2, 0] (ih _ _ h) rfl
            · refine ci_T.step cb_X7_agrees_61 (pe_push pc_0) ?_
              cases h
              exact ci_T.done (v := some (.int _)) cd_X7_agrees_62 ⟨⟨rfl, rfl⟩, (Or.inl rfl)⟩
          clear hj
          refine pbr h (fun hc h => ?_) (fun hc h => ?_)
          · obtain ⟨h10, h⟩ := ck_some h
            refine ci_T.step cb_X7_agrees_45 (ci_sq rfl (ci_sq (pe_getR tq_4 rfl rfl) (ci_sq rfl (ci_sq (pe_ald (nI := 8) tq_7 rfl rfl h10) (ci_sq (pe_push pc_25) pe_iadd))))) ?_
            exact ci_T.sub [1, 2, 3, 0] (J54 _ _ _ _ _ h) rfl
          · obtain ⟨h11, h⟩ := ck_some h
            refine ci_T.step cb_X7_agrees_36 (ci_sq rfl (ci_sq (pe_getR tq_4 rfl rfl) (ci_sq rfl (ci_sq (pe_ald (nI := 8) tq_7 rfl rfl h11) rfl)))) ?_
            exact ci_T.sub [1, 2, 3, 0] (J54 _ _ _ _ _ h) rfl
        clear hj
        refine pbr h (fun hc h => ?_) (fun hc h => ?_)
        · refine ci_T.step cb_X7_agrees_29 (pe_push pc_0) ?_
          exact ci_T.sub [0, 1, 2] (J30 _ _ _ h) rfl
        · refine ci_T.step cb_X7_agrees_25 (ci_sq (pe_push pc_1) rfl) ?_
          exact ci_T.sub [0, 1, 2] (J30 _ _ _ h) rfl
set_option maxRecDepth 100000 in
theorem s_X7_agrees (d : Nat)   {ρ : pm} (o : pm) {l1 : Int} {rv : Int} (h : f_X7_agrees l1 ρ = some rv) : ci_Met (d + 1) (yX7_agrees, cX7_agrees, 4, (some .boolean), [], 0, 0) [.ref 5, .int (Int32.ofInt l1)] (pk true ρ o) (pZ true rv ρ o) := by
  refine ci_met (by decide) (Nat.le_of_ble_eq_true rfl) ?_ ?_
  · rintro v w' ⟨⟨rfl, rfl⟩, hz⟩
    exact Z_of hz
  · change ci_T _ _ _ _ _ _ ([(0, .ref 5), (1, .int (Int32.ofInt l1))], [], pk true ρ o) _
    unfold f_X7_agrees at h
    refine ci_T.step cb_X7_agrees_0 (ci_sq (pe_push pc_0) rfl) ?_
    exact ci_T.sub [1, 2, 0] (t_X7_agrees_2 fu _ _ h) rfl
/-- X8_fits -/
def L_X8_fits_40 (K131 : Int → Int → Int → Int → Int → pm → Option (Int × pm)) : Nat → Int → Int → Int → Int → Int → Int → pm → Option (Int × pm)
  | 0, _, _, _, _, _, _, _ => none
  | n + 1, l1, l2, l3, l4, l5, l6, ρ => ck (inR l6) (ck (inR (ρ 28 5)) (if (ρ 28 5) ≤ l6 then K131 l1 l2 l3 l4 l5 ρ else ck (0 ≤ l6 ∧ l6 < 729) ((f_X7_agrees (ρ 33 l6) ρ).bind (fun v7 => jn (fun (l1 l2 l3 l4 l5 l6 : Int) (ρ : pm) => jn (l6 + 1) (fun x9 => L_X8_fits_40 K131 n l1 l2 l3 l4 l5 x9 ρ)) (fun j125 => if v7 = 0 then j125 l1 l2 l3 l4 l5 l6 ρ else (f_X8_cutters (ρ 32 l6)).bind (fun v10 => ck (inR l2) (jn (fun (l1 l2 l4 l5 l6 l7 s0 : Int) (ρ : pm) => jn (band l4 l7) (fun x12 => jn (band l5 (bxor l7 (-1))) (fun x13 => jn (l2 + 1) (fun x14 => j125 l1 x14 s0 x12 x13 l6 ρ)))) (fun j105 => if l2 = 0 then j105 l1 l2 l4 l5 l6 v10 (ρ 32 l6) ρ else j105 l1 l2 l4 l5 l6 v10 l3 ρ))))))))
def f_X8_fits (l1 : Int) (ρ : pm) : Option (Int × pm) := ck (inR l1) (if l1 < 0 then some ((-1), ρ) else if l1 ≤ 3 then (f_X8_lookAhead ρ).bind (fun ρ2 => jn ((bshl 1 (ρ2 1 4)) - 1) (fun x3 => L_X8_fits_40 (fun (l1 l2 l3 l4 l5 : Int) (ρ : pm) => ck (inR l1) (jn (fun (l1 l2 : Int) (ρ : pm) => ck (inR l1) (if l1 = 0 then some (l2, ρ) else some ((-4), ρ))) (fun j139 => if l1 = 0 then j139 l1 l2 ρ else ck (inR l2) (if l2 = 0 then j139 l1 l2 ρ else if l1 = 1 then some (l3, ρ) else if l1 = 2 then some (l4, ρ) else some (l5, ρ))))) fu l1 0 (-4) x3 x3 0 ρ2)) else some ((-1), ρ))
set_option maxRecDepth 100000 in
theorem t_X8_fits_40 {d : Nat}    {o : pm} {rv : Int} {rρ : pm} {K131 : Int → Int → Int → Int → Int → pm → Option (Int × pm)} (hK131 : ∀ (l1 l2 l3 l4 l5 : Int) (ρ : pm), K131 l1 l2 l3 l4 l5 ρ = some (rv, rρ) → ci_T yX8_fits cX8_fits 8 (some .int) (d + 6) 131 ([(1, .int (Int32.ofInt l1)), (2, .int (Int32.ofInt l2)), (3, .int (Int32.ofInt l3)), (4, .int (Int32.ofInt l4)), (5, .int (Int32.ofInt l5))], [], pk true ρ o) (pP true rv rρ o)) : ∀ (n : Nat) (l1 l2 l3 l4 l5 l6 : Int) (ρ : pm), L_X8_fits_40 K131 n l1 l2 l3 l4 l5 l6 ρ = some (rv, rρ) → ci_T yX8_fits cX8_fits 8 (some .int) (d + 6) 40 ([(0, .ref 1), (1, .int (Int32.ofInt l1)), (2, .int (Int32.ofInt l2)), (3, .int (Int32.ofInt l3)), (4, .int (Int32.ofInt l4)), (5, .int (Int32.ofInt l5)), (6, .int (Int32.ofInt l6))], [], pk true ρ o) (pP true rv rρ o) := by
  intro n
  induction n with
  | zero =>
    intro l1 l2 l3 l4 l5 l6 ρ h
    rw [L_X8_fits_40] at h
    cases h
  | succ n ih =>
    intro l1 l2 l3 l4 l5 l6 ρ h
    rw [L_X8_fits_40] at h
    obtain ⟨h4, h⟩ := ck_some h
    obtain ⟨h5, h⟩ := ck_some h
    refine ci_T.step cb_X8_fits_40 (ci_sq rfl (ci_sq rfl (ci_sq (pe_getR tq_0 rfl rfl) (ci_sq (pe_getI (kI := 5) tq_28 rfl rfl rfl) (pe_ic_ge h4 h5))))) ?_
    refine pbr h (fun hc h => ?_) (fun hc h => ?_)
    · exact ci_T.sub [1, 2, 3, 4, 5] (hK131 _ _ _ _ _ _ h) rfl
    · obtain ⟨h6, h⟩ := ck_some h
      refine ci_T.step cb_X8_fits_52 (ci_sq rfl (ci_sq (pe_getR tq_0 rfl rfl) (ci_sq rfl (ci_sq (pe_getR tq_0 rfl rfl) (ci_sq (pe_getR tq_28 rfl rfl) (ci_sq rfl (pe_ald (nI := 729) tq_33 rfl rfl h6))))))) ?_
      obtain ⟨v7, hv, h⟩ := bn_some h
      refine ci_T.call (as := [_, _]) (rest := []) kc_X7_agrees ki_X7_agrees (by decide) cl_X8_fits_66 rfl (Nat.le_of_ble_eq_true rfl) ⟨⟨_, rfl⟩, _, _, _, rfl, pk_obj tq_4 rfl _ _⟩ (s_X7_agrees (d + 4) o hv) ?_
      rintro _ _ ⟨⟨rfl, rfl⟩, hz8⟩
      clear hv
      refine ci_T.step cb_X8_fits_69 (pe_if_eq (Z_R hz8)) ?_
      obtain ⟨j125, hj, h⟩ := jn_ex h
      have J125 : ∀ (l1 l2 l3 l4 l5 l6 : Int) (ρ : pm), j125 l1 l2 l3 l4 l5 l6 ρ = some (rv, rρ) → ci_T yX8_fits cX8_fits 8 (some .int) (d + 6) 125 ([(0, .ref 1), (1, .int (Int32.ofInt l1)), (2, .int (Int32.ofInt l2)), (3, .int (Int32.ofInt l3)), (4, .int (Int32.ofInt l4)), (5, .int (Int32.ofInt l5)), (6, .int (Int32.ofInt l6))], [], pk true ρ o) (pP true rv rρ o) := by
        intro l1 l2 l3 l4 l5 l6 ρ h
        subst hj
        replace h := jn_some h
        refine ci_T.step cb_X8_fits_125 (ci_sq (pe_inc rfl) rfl) ?_
        exact ci_T.sub [1, 2, 3, 4, 5, 6, 0] (ih _ _ _ _ _ _ _ h) rfl
      clear hj
      refine pbr h (fun hc h => ?_) (fun hc h => ?_)
      · exact ci_T.sub [0, 1, 2, 3, 4, 5, 6] (J125 _ _ _ _ _ _ _ h) rfl
      · refine ci_T.step cb_X8_fits_72 (ci_sq rfl (ci_sq (pe_getR tq_0 rfl rfl) (ci_sq (pe_getR tq_28 rfl rfl) (ci_sq rfl (pe_ald (nI := 729) tq_32 rfl rfl h6))))) ?_
        obtain ⟨v10, hv, h⟩ := bn_some h
        refine ci_T.call (as := [_]) (rest := []) kc_X8_cutters ki_X8_cutters (by decide) cl_X8_fits_82 rfl (Nat.le_of_ble_eq_true rfl) trivial (s_X8_cutters (d + 4) o hv) ?_
        rintro _ _ ⟨rfl, rfl⟩
        clear hv
        obtain ⟨h11, h⟩ := ck_some h
        refine ci_T.step cb_X8_fits_85 (ci_sq rfl (ci_sq rfl (pe_if_ne h11))) ?_
        obtain ⟨j105, hj, h⟩ := jn_ex h
        have J105 : ∀ (l1 l2 l4 l5 l6 l7 s0 : Int) (ρ : pm), j105 l1 l2 l4 l5 l6 l7 s0 ρ = some (rv, rρ) → ci_T yX8_fits cX8_fits 8 (some .int) (d + 6) 105 ([(0, .ref 1), (1, .int (Int32.ofInt l1)), (2, .int (Int32.ofInt l2)), (4, .int (Int32.ofInt l4)), (5, .int (Int32.ofInt l5)), (6, .int (Int32.ofInt l6)), (7, .int (Int32.ofInt l7))], [.int (Int32.ofInt s0)], pk true ρ o) (pP true rv rρ o) := by
          intro l1 l2 l4 l5 l6 l7 s0 ρ h
          subst hj
          replace h := jn_some h
          replace h := jn_some h
          replace h := jn_some h
          refine ci_T.step cb_X8_fits_105 (ci_sq rfl (ci_sq rfl (ci_sq rfl (ci_sq pe_iand (ci_sq rfl (ci_sq rfl (ci_sq rfl (ci_sq (pe_push pc_m1) (ci_sq pe_ixor (ci_sq pe_iand (ci_sq rfl (pe_inc rfl)))))))))))) ?_
          exact ci_T.sub [4, 5, 0, 3, 2, 1, 6] (J125 _ _ _ _ _ _ _ h) rfl
        clear hj
        refine pbrn h (fun hc h => ?_) (fun hc h => ?_)
        · refine ci_T.step cb_X8_fits_104 rfl ?_
          exact ci_T.sub [1, 2, 3, 5, 6, 7, 0] (J105 _ _ _ _ _ _ _ _ h) rfl
        · refine ci_T.step cb_X8_fits_91 (ci_sq rfl (ci_sq (pe_getR tq_0 rfl rfl) (ci_sq (pe_getR tq_28 rfl rfl) (ci_sq rfl (ci_sq (pe_ald (nI := 729) tq_32 rfl rfl h6) rfl))))) ?_
          exact ci_T.sub [1, 2, 3, 5, 6, 7, 0] (J105 _ _ _ _ _ _ _ _ h) rfl
set_option maxRecDepth 100000 in
theorem s_X8_fits (d : Nat)   {ρ : pm} (o : pm) {l1 : Int} {rv : Int} {rρ : pm} (h : f_X8_fits l1 ρ = some (rv, rρ)) : ci_Met (d + 6) (yX8_fits, cX8_fits, 8, (some .int), [], 0, 0) [.ref 1, .int (Int32.ofInt l1)] (pk true ρ o) (pP true rv rρ o) := by
  refine ci_met (by decide) (Nat.le_of_ble_eq_true rfl) ?_ ?_
  · rintro v w' ⟨rfl, rfl⟩
    trivial
  · change ci_T _ _ _ _ _ _ ([(0, .ref 1), (1, .int (Int32.ofInt l1))], [], pk true ρ o) _
    unfold f_X8_fits at h
    obtain ⟨h1, h⟩ := ck_some h
    refine ci_T.step cb_X8_fits_0 (ci_sq rfl (pe_if_lt h1)) ?_
    refine pbr h (fun hc h => ?_) (fun hc h => ?_)
    · refine ci_T.step cb_X8_fits_9 (pe_push pc_m1) ?_
      cases h
      exact ci_T.done (v := some (.int _)) cd_X8_fits_10 ⟨rfl, rfl⟩
    · refine ci_T.step cb_X8_fits_4 (ci_sq rfl (ci_sq (pe_push pc_3) (pe_ic_le h1 pR_3))) ?_
      refine pbr h (fun hc h => ?_) (fun hc h => ?_)
      · refine ci_T.step cb_X8_fits_11 rfl ?_
        obtain ⟨ρ2, hv, h⟩ := bn_some h
        refine ci_T.call (as := [_]) (rest := []) kc_X8_lookAhead ki_X8_lookAhead (by decide) cl_X8_fits_12 rfl (Nat.le_of_ble_eq_true rfl) ⟨⟨_, rfl⟩, _, _, _, rfl, pk_obj tq_0 rfl _ _⟩ (s_X8_lookAhead d o hv) ?_
        rintro _ _ ⟨rfl, rfl⟩
        clear hv
        replace h := jn_some h
        refine ci_T.step cb_X8_fits_15 (ci_sq (pe_push pc_0) (ci_sq rfl (ci_sq (pe_push pc_m4) (ci_sq rfl (ci_sq (pe_push pc_1) (ci_sq rfl (ci_sq (pe_getR tq_0 rfl rfl) (ci_sq (pe_getI (kI := 4) tq_1 rfl rfl rfl) (ci_sq pe_ishl (ci_sq (pe_push pc_1) (ci_sq pe_isub (ci_sq rfl (ci_sq rfl (ci_sq rfl (ci_sq (pe_push pc_0) rfl))))))))))))))) ?_
        refine ci_T.sub [5, 6, 4, 3, 2, 1, 0] (t_X8_fits_40 ?_ fu _ _ _ _ _ _ _ h) rfl
        · intro l1 l2 l3 l4 l5 ρ h
          obtain ⟨h15, h⟩ := ck_some h
          refine ci_T.step cb_X8_fits_131 (ci_sq rfl (pe_if_eq h15)) ?_
          obtain ⟨j139, hj, h⟩ := jn_ex h
          have J139 : ∀ (l1 l2 : Int) (ρ : pm), j139 l1 l2 ρ = some (rv, rρ) → ci_T yX8_fits cX8_fits 8 (some .int) (d + 6) 139 ([(1, .int (Int32.ofInt l1)), (2, .int (Int32.ofInt l2))], [], pk true ρ o) (pP true rv rρ o) := by
            intro l1 l2 ρ h
            subst hj
            obtain ⟨h16, h⟩ := ck_some h
            refine ci_T.step cb_X8_fits_139 (ci_sq rfl (pe_if_ne h16)) ?_
            refine pbrn h (fun hc h => ?_) (fun hc h => ?_)
            · refine ci_T.step cb_X8_fits_147 (pe_push pc_m4) ?_
              cases h
              exact ci_T.done (v := some (.int _)) cd_X8_fits_149 ⟨rfl, rfl⟩
            · refine ci_T.step cb_X8_fits_143 (ci_sq rfl rfl) ?_
              cases h
              exact ci_T.done (v := some (.int _)) cd_X8_fits_149 ⟨rfl, rfl⟩
          clear hj
          refine pbr h (fun hc h => ?_) (fun hc h => ?_)
          · exact ci_T.sub [0, 1] (J139 _ _ _ h) rfl
          · obtain ⟨h17, h⟩ := ck_some h
            refine ci_T.step cb_X8_fits_135 (ci_sq rfl (pe_if_ne h17)) ?_
            refine pbrn h (fun hc h => ?_) (fun hc h => ?_)
            · refine ci_T.step cb_X8_fits_150 (ci_sq rfl (ci_sq (pe_push pc_1) (pe_ic_ne h15 pR_1))) ?_
              refine pbrn h (fun hc h => ?_) (fun hc h => ?_)
              · refine ci_T.step cb_X8_fits_159 (ci_sq rfl (ci_sq (pe_push pc_2) (pe_ic_ne h15 pR_2))) ?_
                refine pbrn h (fun hc h => ?_) (fun hc h => ?_)
                · refine ci_T.step cb_X8_fits_169 rfl ?_
                  cases h
                  exact ci_T.done (v := some (.int _)) cd_X8_fits_171 ⟨rfl, rfl⟩
                · refine ci_T.step cb_X8_fits_164 (ci_sq rfl rfl) ?_
                  cases h
                  exact ci_T.done (v := some (.int _)) cd_X8_fits_171 ⟨rfl, rfl⟩
              · refine ci_T.step cb_X8_fits_155 (ci_sq rfl rfl) ?_
                cases h
                exact ci_T.done (v := some (.int _)) cd_X8_fits_171 ⟨rfl, rfl⟩
            · exact ci_T.sub [0, 1] (J139 _ _ _ h) rfl
      · refine ci_T.step cb_X8_fits_9 (pe_push pc_m1) ?_
        cases h
        exact ci_T.done (v := some (.int _)) cd_X8_fits_10 ⟨rfl, rfl⟩
/-- X7_copy -/
def f_X7_copy (q p : Nat) (ρ : pm) : Option pm := (f_X2_copy (q + 4) (p + 4) ρ).bind (fun ρ1 => jn (pcp ρ1 (p + 1) 0 (q + 1) 0 3) (fun ρ2 => jn (pcp ρ2 (p + 2) 0 (q + 2) 0 6) (fun ρ3 => jn (pcp ρ3 (p + 3) 0 (q + 3) 0 8) (fun ρ4 => jn (pup ρ4 q 4 (ρ4 p 4)) (fun ρ5 => jn (pup ρ5 q 5 (ρ5 p 5)) (fun ρ6 => jn (pup ρ6 q 6 (ρ6 p 6)) (fun ρ7 => some ρ7)))))))
set_option maxRecDepth 100000 in
theorem s_X7_copy (d : Nat) (q p : Nat) (hq : isT q) (hp : isT p) {ρ : pm} (o : pm)  {rρ : pm} (h : f_X7_copy q p ρ = some rρ) : ci_Met (d + 1) (yX7_copy, cX7_copy, 2, none, [], 0, 0) [.ref (q + 1), .ref (p + 1)] (pk true ρ o) (pV true rρ o) := by
  refine ci_met (by decide) (Nat.le_of_ble_eq_true rfl) ?_ ?_
  · rintro v w' ⟨rfl, rfl⟩
    trivial
  · change ci_T _ _ _ _ _ _ ([(0, .ref (q + 1)), (1, .ref (p + 1))], [], pk true ρ o) _
    unfold f_X7_copy at h
    refine ci_T.step cb_X7_copy_0 (ci_sq rfl (ci_sq (pe_getR hq.1 hq.2.2.2.2.2.1 rfl) (ci_sq rfl (pe_getR hp.1 hp.2.2.2.2.2.1 rfl)))) ?_
    obtain ⟨ρ1, hv, h⟩ := bn_some h
    refine ci_T.call (as := [_, _]) (rest := []) kc_X2_copy ki_X2_copy (by decide) cl_X7_copy_8 rfl (Nat.le_of_ble_eq_true rfl) ⟨⟨_, rfl⟩, _, _, _, rfl, pk_obj hq.2.2.2.2.1.1 hq.2.2.2.2.1.2.2.2.1 _ _⟩ (s_X2_copy d (q + 4) (p + 4) hq.2.2.2.2.1 hp.2.2.2.2.1 o hv) ?_
    rintro _ _ ⟨rfl, rfl⟩
    clear hv
    replace h := jn_some h
    replace h := jn_some h
    replace h := jn_some h
    replace h := jn_some h
    replace h := jn_some h
    replace h := jn_some h
    refine ci_T.step cb_X7_copy_11 (ci_sq rfl (ci_sq (pe_getR hp.1 hp.2.2.2.2.2.1 rfl) (ci_sq (pe_push pc_0) (ci_sq rfl (ci_sq (pe_getR hq.1 hq.2.2.2.2.2.1 rfl) (ci_sq (pe_push pc_0) (ci_sq (pe_push pc_3) (ci_sq (pe_copy (N0 := 3) (N1 := 3) hp.2.1 hq.2.1 hp.2.2.2.2.2.2.1 hq.2.2.2.2.2.2.1 rfl rfl ⟨by decide, by decide, by decide, by decide, by decide⟩ (Nat.le_of_ble_eq_true rfl)) (ci_sq rfl (ci_sq (pe_getR hp.1 hp.2.2.2.2.2.1 rfl) (ci_sq (pe_push pc_0) (ci_sq rfl (ci_sq (pe_getR hq.1 hq.2.2.2.2.2.1 rfl) (ci_sq (pe_push pc_0) (ci_sq (pe_push pc_6) (ci_sq (pe_copy (N0 := 6) (N1 := 6) hp.2.2.1 hq.2.2.1 hp.2.2.2.2.2.2.2.1 hq.2.2.2.2.2.2.2.1 rfl rfl ⟨by decide, by decide, by decide, by decide, by decide⟩ (Nat.le_of_ble_eq_true rfl)) (ci_sq rfl (ci_sq (pe_getR hp.1 hp.2.2.2.2.2.1 rfl) (ci_sq (pe_push pc_0) (ci_sq rfl (ci_sq (pe_getR hq.1 hq.2.2.2.2.2.1 rfl) (ci_sq (pe_push pc_0) (ci_sq (pe_push pc_8) (ci_sq (pe_copy (N0 := 8) (N1 := 8) hp.2.2.2.1 hq.2.2.2.1 hp.2.2.2.2.2.2.2.2 hq.2.2.2.2.2.2.2.2 rfl rfl ⟨by decide, by decide, by decide, by decide, by decide⟩ (Nat.le_of_ble_eq_true rfl)) (ci_sq rfl (ci_sq rfl (ci_sq (pe_getI (kI := 4) hp.1 hp.2.2.2.2.2.1 rfl rfl) (ci_sq (pe_putI (kI := 4) hq.1 hq.2.2.2.2.2.1 rfl rfl) (ci_sq rfl (ci_sq rfl (ci_sq (pe_getI (kI := 5) hp.1 hp.2.2.2.2.2.1 rfl rfl) (ci_sq (pe_putI (kI := 5) hq.1 hq.2.2.2.2.2.1 rfl rfl) (ci_sq rfl (ci_sq rfl (ci_sq (pe_getI (kI := 6) hp.1 hp.2.2.2.2.2.1 rfl rfl) (pe_putI (kI := 6) hq.1 hq.2.2.2.2.2.1 rfl rfl)))))))))))))))))))))))))))))))))))) ?_
    cases h
    exact ci_T.done (v := none) cd_X7_copy_79 ⟨rfl, rfl⟩
/-- X8_keep -/
def f_X8_keep (l1 : Int) (ρ : pm) : Option (Int × pm) := ck (inR l1) (if l1 < 0 then some ((-1), ρ) else if l1 < 2 then jn (band (bshr (ρ 0 11) l1) 1) (fun x2 => if l1 = 0 then (f_X7_copy 11 4 ρ).bind (fun ρ3 => jn (pup ρ3 0 11 (bor (ρ3 0 11) (bshl 1 l1))) (fun ρ4 => some (x2, ρ4))) else (f_X7_copy 18 4 ρ).bind (fun ρ5 => jn (pup ρ5 0 11 (bor (ρ5 0 11) (bshl 1 l1))) (fun ρ6 => some (x2, ρ6)))) else some ((-1), ρ))
set_option maxRecDepth 100000 in
theorem s_X8_keep (d : Nat)   {ρ : pm} (o : pm) {l1 : Int} {rv : Int} {rρ : pm} (h : f_X8_keep l1 ρ = some (rv, rρ)) : ci_Met (d + 2) (yX8_keep, cX8_keep, 3, (some .int), [], 0, 0) [.ref 1, .int (Int32.ofInt l1)] (pk true ρ o) (pP true rv rρ o) := by
  refine ci_met (by decide) (Nat.le_of_ble_eq_true rfl) ?_ ?_
  · rintro v w' ⟨rfl, rfl⟩
    trivial
  · change ci_T _ _ _ _ _ _ ([(0, .ref 1), (1, .int (Int32.ofInt l1))], [], pk true ρ o) _
    unfold f_X8_keep at h
    obtain ⟨h1, h⟩ := ck_some h
    refine ci_T.step cb_X8_keep_0 (ci_sq rfl (pe_if_lt h1)) ?_
    refine pbr h (fun hc h => ?_) (fun hc h => ?_)
    · refine ci_T.step cb_X8_keep_9 (pe_push pc_m1) ?_
      cases h
      exact ci_T.done (v := some (.int _)) cd_X8_keep_10 ⟨rfl, rfl⟩
    · refine ci_T.step cb_X8_keep_4 (ci_sq rfl (ci_sq (pe_push pc_2) (pe_ic_lt h1 pR_2))) ?_
      refine pbr h (fun hc h => ?_) (fun hc h => ?_)
      · replace h := jn_some h
        refine ci_T.step cb_X8_keep_11 (ci_sq rfl (ci_sq (pe_getI (kI := 11) tq_0 rfl rfl rfl) (ci_sq rfl (ci_sq pe_ishr (ci_sq (pe_push pc_1) (ci_sq pe_iand (ci_sq rfl (ci_sq rfl rfl)))))))) ?_
        refine ci_T.call (as := [_, _]) (rest := []) kc_X8_imageOf ki_X8_imageOf (by decide) cl_X8_keep_22 rfl (Nat.le_of_ble_eq_true rfl) ⟨⟨_, rfl⟩, _, _, _, rfl, pk_obj tq_0 rfl _ _⟩ (s_X8_imageOf (d + 1) o h1) ?_
        rintro _ _ ⟨rfl, rfl⟩
        refine pite h (fun hc h => ?_) (fun hc h => ?_)
        · rw [if_pos hc]
          refine ci_T.step cb_X8_keep_25 (ci_sq rfl (pe_getR tq_0 rfl rfl)) ?_
          obtain ⟨ρ3, hv, h⟩ := bn_some h
          refine ci_T.call (as := [_, _]) (rest := []) kc_X7_copy ki_X7_copy (by decide) cl_X8_keep_29 rfl (Nat.le_of_ble_eq_true rfl) ⟨⟨_, rfl⟩, _, _, _, rfl, pk_obj tq_11 rfl _ _⟩ (s_X7_copy d 11 4 iT_11 iT_4 o hv) ?_
          rintro _ _ ⟨rfl, rfl⟩
          clear hv
          replace h := jn_some h
          refine ci_T.step cb_X8_keep_32 (ci_sq rfl (ci_sq rfl (ci_sq (pe_getI (kI := 11) tq_0 rfl rfl rfl) (ci_sq (pe_push pc_1) (ci_sq rfl (ci_sq pe_ishl (ci_sq pe_ior (ci_sq (pe_putI (kI := 11) tq_0 rfl rfl rfl) rfl)))))))) ?_
          cases h
          exact ci_T.done (v := some (.int _)) cd_X8_keep_45 ⟨rfl, rfl⟩
        · rw [if_neg hc]
          refine ci_T.step cb_X8_keep_25 (ci_sq rfl (pe_getR tq_0 rfl rfl)) ?_
          obtain ⟨ρ5, hv, h⟩ := bn_some h
          refine ci_T.call (as := [_, _]) (rest := []) kc_X7_copy ki_X7_copy (by decide) cl_X8_keep_29 rfl (Nat.le_of_ble_eq_true rfl) ⟨⟨_, rfl⟩, _, _, _, rfl, pk_obj tq_18 rfl _ _⟩ (s_X7_copy d 18 4 iT_18 iT_4 o hv) ?_
          rintro _ _ ⟨rfl, rfl⟩
          clear hv
          replace h := jn_some h
          refine ci_T.step cb_X8_keep_32 (ci_sq rfl (ci_sq rfl (ci_sq (pe_getI (kI := 11) tq_0 rfl rfl rfl) (ci_sq (pe_push pc_1) (ci_sq rfl (ci_sq pe_ishl (ci_sq pe_ior (ci_sq (pe_putI (kI := 11) tq_0 rfl rfl rfl) rfl)))))))) ?_
          cases h
          exact ci_T.done (v := some (.int _)) cd_X8_keep_45 ⟨rfl, rfl⟩
      · refine ci_T.step cb_X8_keep_9 (pe_push pc_m1) ?_
        cases h
        exact ci_T.done (v := some (.int _)) cd_X8_keep_10 ⟨rfl, rfl⟩
/-- X8_back -/
def f_X8_back (l1 : Int) (ρ : pm) : Option (Int × pm) := ck (inR l1) (if l1 < 0 then some ((-1), ρ) else if l1 < 2 then (f_X8_has (ρ 0 11) l1).bind (fun v2 => if v2 = 0 then some ((-2), ρ) else if l1 = 0 then (f_X7_copy 4 11 ρ).bind (fun ρ4 => jn (pup ρ4 28 6 0) (fun ρ5 => some (ρ5 4 4, ρ5))) else (f_X7_copy 4 18 ρ).bind (fun ρ6 => jn (pup ρ6 28 6 0) (fun ρ7 => some (ρ7 4 4, ρ7)))) else some ((-1), ρ))
set_option maxRecDepth 100000 in
theorem s_X8_back (d : Nat)   {ρ : pm} (o : pm) {l1 : Int} {rv : Int} {rρ : pm} (h : f_X8_back l1 ρ = some (rv, rρ)) : ci_Met (d + 2) (yX8_back, cX8_back, 2, (some .int), [], 0, 0) [.ref 1, .int (Int32.ofInt l1)] (pk true ρ o) (pP true rv rρ o) := by
  refine ci_met (by decide) (Nat.le_of_ble_eq_true rfl) ?_ ?_
  · rintro v w' ⟨rfl, rfl⟩
    trivial
  · change ci_T _ _ _ _ _ _ ([(0, .ref 1), (1, .int (Int32.ofInt l1))], [], pk true ρ o) _
    unfold f_X8_back at h
    obtain ⟨h1, h⟩ := ck_some h
    refine ci_T.step cb_X8_back_0 (ci_sq rfl (pe_if_lt h1)) ?_
    refine pbr h (fun hc h => ?_) (fun hc h => ?_)
    · refine ci_T.step cb_X8_back_9 (pe_push pc_m1) ?_
      cases h
      exact ci_T.done (v := some (.int _)) cd_X8_back_10 ⟨rfl, rfl⟩
    · refine ci_T.step cb_X8_back_4 (ci_sq rfl (ci_sq (pe_push pc_2) (pe_ic_lt h1 pR_2))) ?_
      refine pbr h (fun hc h => ?_) (fun hc h => ?_)
      · refine ci_T.step cb_X8_back_11 (ci_sq rfl (ci_sq (pe_getI (kI := 11) tq_0 rfl rfl rfl) rfl)) ?_
        obtain ⟨v2, hv, h⟩ := bn_some h
        refine ci_T.call (as := [_, _]) (rest := []) kc_X8_has ki_X8_has (by decide) cl_X8_back_16 rfl (Nat.le_of_ble_eq_true rfl) trivial (s_X8_has (d + 1) o hv) ?_
        rintro _ _ ⟨⟨rfl, rfl⟩, hz3⟩
        clear hv
        refine ci_T.step cb_X8_back_19 (pe_if_ne (Z_R hz3)) ?_
        refine pbrn h (fun hc h => ?_) (fun hc h => ?_)
        · refine ci_T.step cb_X8_back_25 (ci_sq rfl (ci_sq (pe_getR tq_0 rfl rfl) (ci_sq rfl rfl))) ?_
          refine ci_T.call (as := [_, _]) (rest := [_]) kc_X8_imageOf ki_X8_imageOf (by decide) cl_X8_back_31 rfl (Nat.le_of_ble_eq_true rfl) ⟨⟨_, rfl⟩, _, _, _, rfl, pk_obj tq_0 rfl _ _⟩ (s_X8_imageOf (d + 1) o h1) ?_
          rintro _ _ ⟨rfl, rfl⟩
          refine pite h (fun hc h => ?_) (fun hc h => ?_)
          · rw [if_pos hc]
            obtain ⟨ρ4, hv, h⟩ := bn_some h
            refine ci_T.call (as := [_, _]) (rest := []) kc_X7_copy ki_X7_copy (by decide) cl_X8_back_34 rfl (Nat.le_of_ble_eq_true rfl) ⟨⟨_, rfl⟩, _, _, _, rfl, pk_obj tq_4 rfl _ _⟩ (s_X7_copy d 4 11 iT_4 iT_11 o hv) ?_
            rintro _ _ ⟨rfl, rfl⟩
            clear hv
            replace h := jn_some h
            refine ci_T.step cb_X8_back_37 (ci_sq rfl (ci_sq (pe_getR tq_0 rfl rfl) (ci_sq (pe_push pc_0) (ci_sq (pe_putZ (kI := 6) tq_28 rfl rfl rfl (Or.inl rfl)) (ci_sq rfl (ci_sq (pe_getR tq_0 rfl rfl) (pe_getI (kI := 4) tq_4 rfl rfl rfl))))))) ?_
            cases h
            exact ci_T.done (v := some (.int _)) cd_X8_back_52 ⟨rfl, rfl⟩
          · rw [if_neg hc]
            obtain ⟨ρ6, hv, h⟩ := bn_some h
            refine ci_T.call (as := [_, _]) (rest := []) kc_X7_copy ki_X7_copy (by decide) cl_X8_back_34 rfl (Nat.le_of_ble_eq_true rfl) ⟨⟨_, rfl⟩, _, _, _, rfl, pk_obj tq_4 rfl _ _⟩ (s_X7_copy d 4 18 iT_4 iT_18 o hv) ?_
            rintro _ _ ⟨rfl, rfl⟩
            clear hv
            replace h := jn_some h
            refine ci_T.step cb_X8_back_37 (ci_sq rfl (ci_sq (pe_getR tq_0 rfl rfl) (ci_sq (pe_push pc_0) (ci_sq (pe_putZ (kI := 6) tq_28 rfl rfl rfl (Or.inl rfl)) (ci_sq rfl (ci_sq (pe_getR tq_0 rfl rfl) (pe_getI (kI := 4) tq_4 rfl rfl rfl))))))) ?_
            cases h
            exact ci_T.done (v := some (.int _)) cd_X8_back_52 ⟨rfl, rfl⟩
        · refine ci_T.step cb_X8_back_22 (pe_push pc_m2) ?_
          cases h
          exact ci_T.done (v := some (.int _)) cd_X8_back_24 ⟨rfl, rfl⟩
      · refine ci_T.step cb_X8_back_9 (pe_push pc_m1) ?_
        cases h
        exact ci_T.done (v := some (.int _)) cd_X8_back_10 ⟨rfl, rfl⟩
/-- X5_hasSheet -/
def f_X5_hasSheet (l1 : Int) : Option Int := ck (inR l1) (if l1 < 0 then some 0 else if 4 ≤ l1 then some 0 else some 1)
set_option maxRecDepth 100000 in
theorem s_X5_hasSheet (d : Nat)   {ρ : pm} (o : pm) {l1 : Int} {rv : Int} (h : f_X5_hasSheet l1 = some rv) : ci_Met d (yX5_hasSheet, cX5_hasSheet, 2, (some .boolean), [], 0, 0) [.ref 58, .int (Int32.ofInt l1)] (pk true ρ o) (pZ true rv ρ o) := by
  refine ci_met (by decide) (Nat.le_of_ble_eq_true rfl) ?_ ?_
  · rintro v w' ⟨⟨rfl, rfl⟩, hz⟩
    exact Z_of hz
  · change ci_T _ _ _ _ _ _ ([(0, .ref 58), (1, .int (Int32.ofInt l1))], [], pk true ρ o) _
    unfold f_X5_hasSheet at h
    obtain ⟨h1, h⟩ := ck_some h
    refine ci_T.step cb_X5_hasSheet_0 (ci_sq rfl (pe_if_lt h1)) ?_
    refine pbr h (fun hc h => ?_) (fun hc h => ?_)
    · refine ci_T.step cb_X5_hasSheet_13 (pe_push pc_0) ?_
      cases h
      exact ci_T.done (v := some (.int _)) cd_X5_hasSheet_14 ⟨⟨rfl, rfl⟩, (Or.inl rfl)⟩
    · refine ci_T.step cb_X5_hasSheet_4 (ci_sq rfl (ci_sq (pe_push pc_4) (pe_ic_ge h1 pR_4))) ?_
      refine pbr h (fun hc h => ?_) (fun hc h => ?_)
      · refine ci_T.step cb_X5_hasSheet_13 (pe_push pc_0) ?_
        cases h
        exact ci_T.done (v := some (.int _)) cd_X5_hasSheet_14 ⟨⟨rfl, rfl⟩, (Or.inl rfl)⟩
      · refine ci_T.step cb_X5_hasSheet_9 (ci_sq (pe_push pc_1) rfl) ?_
        cases h
        exact ci_T.done (v := some (.int _)) cd_X5_hasSheet_14 ⟨⟨rfl, rfl⟩, (Or.inr rfl)⟩
/-- X5_hasLane -/
def f_X5_hasLane (l1 : Int) : Option Int := ck (inR l1) (if l1 < 0 then some 0 else if 3 ≤ l1 then some 0 else some 1)
set_option maxRecDepth 100000 in
theorem s_X5_hasLane (d : Nat)   {ρ : pm} (o : pm) {l1 : Int} {rv : Int} (h : f_X5_hasLane l1 = some rv) : ci_Met d (yX5_hasLane, cX5_hasLane, 2, (some .boolean), [], 0, 0) [.ref 58, .int (Int32.ofInt l1)] (pk true ρ o) (pZ true rv ρ o) := by
  refine ci_met (by decide) (Nat.le_of_ble_eq_true rfl) ?_ ?_
  · rintro v w' ⟨⟨rfl, rfl⟩, hz⟩
    exact Z_of hz
  · change ci_T _ _ _ _ _ _ ([(0, .ref 58), (1, .int (Int32.ofInt l1))], [], pk true ρ o) _
    unfold f_X5_hasLane at h
    obtain ⟨h1, h⟩ := ck_some h
    refine ci_T.step cb_X5_hasLane_0 (ci_sq rfl (pe_if_lt h1)) ?_
    refine pbr h (fun hc h => ?_) (fun hc h => ?_)
    · refine ci_T.step cb_X5_hasLane_13 (pe_push pc_0) ?_
      cases h
      exact ci_T.done (v := some (.int _)) cd_X5_hasLane_14 ⟨⟨rfl, rfl⟩, (Or.inl rfl)⟩
    · refine ci_T.step cb_X5_hasLane_4 (ci_sq rfl (ci_sq (pe_push pc_3) (pe_ic_ge h1 pR_3))) ?_
      refine pbr h (fun hc h => ?_) (fun hc h => ?_)
      · refine ci_T.step cb_X5_hasLane_13 (pe_push pc_0) ?_
        cases h
        exact ci_T.done (v := some (.int _)) cd_X5_hasLane_14 ⟨⟨rfl, rfl⟩, (Or.inl rfl)⟩
      · refine ci_T.step cb_X5_hasLane_9 (ci_sq (pe_push pc_1) rfl) ?_
        cases h
        exact ci_T.done (v := some (.int _)) cd_X5_hasLane_14 ⟨⟨rfl, rfl⟩, (Or.inr rfl)⟩
/-- X5_renew -/
def L_X5_renew_17  : Nat → Int → Int → pm → Option pm
  | 0, _, _, _ => none
  | n + 1, l1, l4, ρ => ck (inR l4) (if 40 ≤ l4 then some ρ else ck (0 ≤ (l1 * 40) + l4 ∧ (l1 * 40) + l4 < 160) (jn (pup ρ 60 ((l1 * 40) + l4) 0) (fun ρ6 => jn (l4 + 1) (fun x7 => L_X5_renew_17 n l1 x7 ρ6))))
def f_X5_renew (l1 l2 l3 : Int) (ρ : pm) : Option pm := ck (0 ≤ l1 ∧ l1 < 4) (jn (pup ρ 58 l1 l2) (fun ρ2 => jn (pup ρ2 59 l1 l3) (fun ρ3 => L_X5_renew_17 fu l1 0 ρ3)))
set_option maxRecDepth 100000 in
theorem t_X5_renew_17 {d : Nat}    {o : pm} {rρ : pm}   : ∀ (n : Nat) (l1 l4 : Int) (ρ : pm), L_X5_renew_17 n l1 l4 ρ = some rρ → ci_T yX5_renew cX5_renew 5 none d 17 ([(0, .ref 58), (1, .int (Int32.ofInt l1)), (4, .int (Int32.ofInt l4))], [], pk true ρ o) (pV true rρ o) := by
  intro n
  induction n with
  | zero =>
    intro l1 l4 ρ h
    rw [L_X5_renew_17] at h
    cases h
  | succ n ih =>
    intro l1 l4 ρ h
    rw [L_X5_renew_17] at h
    obtain ⟨h4, h⟩ := ck_some h
    refine ci_T.step cb_X5_renew_17 (ci_sq rfl (ci_sq (pe_push pc_40) (pe_ic_ge h4 pR_40))) ?_
    refine pbr h (fun hc h => ?_) (fun hc h => ?_)
    · cases h
      exact ci_T.done (v := none) cd_X5_renew_43 ⟨rfl, rfl⟩
    · obtain ⟨h5, h⟩ := ck_some h
      replace h := jn_some h
      replace h := jn_some h
      refine ci_T.step cb_X5_renew_24 (ci_sq rfl (ci_sq (pe_getR tq_57 rfl rfl) (ci_sq rfl (ci_sq (pe_push pc_40) (ci_sq pe_imul (ci_sq rfl (ci_sq pe_iadd (ci_sq (pe_push pc_0) (ci_sq (pe_ast (nI := 160) tq_60 rfl rfl h5 rfl) (ci_sq (pe_inc rfl) rfl)))))))))) ?_
      exact ci_T.sub [1, 2, 0] (ih _ _ _ h) rfl
set_option maxRecDepth 100000 in
theorem s_X5_renew (d : Nat)   {ρ : pm} (o : pm) {l1 l2 l3 : Int} {rρ : pm} (h : f_X5_renew l1 l2 l3 ρ = some rρ) : ci_Met d (yX5_renew, cX5_renew, 5, none, [], 0, 0) [.ref 58, .int (Int32.ofInt l1), .int (Int32.ofInt l2), .int (Int32.ofInt l3)] (pk true ρ o) (pV true rρ o) := by
  refine ci_met (by decide) (Nat.le_of_ble_eq_true rfl) ?_ ?_
  · rintro v w' ⟨rfl, rfl⟩
    trivial
  · change ci_T _ _ _ _ _ _ ([(0, .ref 58), (1, .int (Int32.ofInt l1)), (2, .int (Int32.ofInt l2)), (3, .int (Int32.ofInt l3))], [], pk true ρ o) _
    unfold f_X5_renew at h
    obtain ⟨h1, h⟩ := ck_some h
    replace h := jn_some h
    replace h := jn_some h
    refine ci_T.step cb_X5_renew_0 (ci_sq rfl (ci_sq (pe_getR tq_57 rfl rfl) (ci_sq rfl (ci_sq rfl (ci_sq (pe_ast (nI := 4) tq_58 rfl rfl h1 rfl) (ci_sq rfl (ci_sq (pe_getR tq_57 rfl rfl) (ci_sq rfl (ci_sq rfl (ci_sq (pe_ast (nI := 4) tq_59 rfl rfl h1 rfl) (ci_sq (pe_push pc_0) rfl))))))))))) ?_
    exact ci_T.sub [1, 2, 0] (t_X5_renew_17 fu _ _ _ h) rfl
