/-- X1_comesOnce -/
def f_X1_comesOnce (l2 : Int) (ρ : pm) : Option (Int × pm) := if (band (ρ 52 9) l2) = 0 then jn (pup ρ 52 9 (bor (ρ 52 9) l2)) (fun ρ1 => some (1, ρ1)) else (f_X6_fail 4 ρ).bind (fun ρ2 => some (0, ρ2))
set_option maxRecDepth 100000 in
theorem s_X1_comesOnce (d : Nat)   {ρ : pm} (o : pm) {l2 : Int} {rv : Int} {rρ : pm} (h : f_X1_comesOnce l2 ρ = some (rv, rρ)) : ci_Met (d + 1) (yX1_comesOnce, cX1_comesOnce, 3, (some .boolean), [], 0, 0) [.ref 53, .ref 51, .int (Int32.ofInt l2)] (pk true ρ o) (pZ true rv rρ o) := by
  refine ci_met (by decide) (Nat.le_of_ble_eq_true rfl) ?_ ?_
  · rintro v w' ⟨⟨rfl, rfl⟩, hz⟩
    exact Z_of hz
  · change ci_T _ _ _ _ _ _ ([(0, .ref 53), (1, .ref 51), (2, .int (Int32.ofInt l2))], [], pk true ρ o) _
    unfold f_X1_comesOnce at h
    refine ci_T.step cb_X1_comesOnce_0 (ci_sq rfl (ci_sq (pe_getI (kI := 9) tq_52 rfl rfl rfl) (ci_sq rfl (ci_sq pe_iand (pe_if_eq (band_R _ _)))))) ?_
    refine pbr h (fun hc h => ?_) (fun hc h => ?_)
    · replace h := jn_some h
      refine ci_T.step cb_X1_comesOnce_16 (ci_sq rfl (ci_sq rfl (ci_sq (pe_getI (kI := 9) tq_52 rfl rfl rfl) (ci_sq rfl (ci_sq pe_ior (ci_sq (pe_putI (kI := 9) tq_52 rfl rfl rfl) (pe_push pc_1))))))) ?_
      cases h
      exact ci_T.done (v := some (.int _)) cd_X1_comesOnce_27 ⟨⟨rfl, rfl⟩, (Or.inr rfl)⟩
    · refine ci_T.step cb_X1_comesOnce_9 (ci_sq rfl (pe_push pc_4)) ?_
      obtain ⟨ρ2, hv, h⟩ := bn_some h
      refine ci_T.call (as := [_, _]) (rest := []) kc_X6_fail ki_X6_fail (by decide) cl_X1_comesOnce_11 rfl (Nat.le_of_ble_eq_true rfl) ⟨⟨_, rfl⟩, _, _, _, rfl, pk_obj tq_50 rfl _ _⟩ (s_X6_fail d o hv) ?_
      rintro _ _ ⟨rfl, rfl⟩
      clear hv
      refine ci_T.step cb_X1_comesOnce_14 (pe_push pc_0) ?_
      cases h
      exact ci_T.done (v := some (.int _)) cd_X1_comesOnce_15 ⟨⟨rfl, rfl⟩, (Or.inl rfl)⟩
/-- X6_isNumber -/
def f_X6_isNumber (l1 l2 : Int) (ρ : pm) : Option (Int × pm) := ck (inR (ρ 50 6)) (jn (fun (l1 l2 : Int) (ρ : pm) => ck (inR (ρ 50 6)) (jn (fun (ρ : pm) => ck (inR (ρ 50 6)) (if (ρ 50 6) = 0 then some (1, ρ) else some (0, ρ))) (fun j48 => if (ρ 50 6) = 0 then ck (inR (ρ 50 5)) (ck (inR l1) (jn (fun (ρ : pm) => (f_X6_fail 3 ρ).bind (fun ρ6 => j48 ρ6)) (fun j43 => if (ρ 50 5) < l1 then j43 ρ else ck (inR l2) (if (ρ 50 5) ≤ l2 then j48 ρ else j43 ρ)))) else j48 ρ))) (fun j20 => if (ρ 50 6) = 0 then ck (inR (ρ 50 3)) (if (ρ 50 3) = 2 then j20 l1 l2 ρ else (f_X6_fail 2 ρ).bind (fun ρ9 => j20 l1 l2 ρ9)) else j20 l1 l2 ρ))
set_option maxRecDepth 100000 in
theorem s_X6_isNumber (d : Nat)   {ρ : pm} (o : pm) {l1 l2 : Int} {rv : Int} {rρ : pm} (h : f_X6_isNumber l1 l2 ρ = some (rv, rρ)) : ci_Met (d + 1) (yX6_isNumber, cX6_isNumber, 3, (some .boolean), [], 0, 0) [.ref 51, .int (Int32.ofInt l1), .int (Int32.ofInt l2)] (pk true ρ o) (pZ true rv rρ o) := by
  refine ci_met (by decide) (Nat.le_of_ble_eq_true rfl) ?_ ?_
  · rintro v w' ⟨⟨rfl, rfl⟩, hz⟩
    exact Z_of hz
  · change ci_T _ _ _ _ _ _ ([(0, .ref 51), (1, .int (Int32.ofInt l1)), (2, .int (Int32.ofInt l2))], [], pk true ρ o) _
    unfold f_X6_isNumber at h
    obtain ⟨h1, h⟩ := ck_some h
    refine ci_T.step cb_X6_isNumber_0 (ci_sq rfl (ci_sq (pe_getI (kI := 6) tq_50 rfl rfl rfl) (pe_if_ne h1))) ?_
    obtain ⟨j20, hj, h⟩ := jn_ex h
    have J20 : ∀ (l1 l2 : Int) (ρ : pm), j20 l1 l2 ρ = some (rv, rρ) → ci_T yX6_isNumber cX6_isNumber 3 (some .boolean) (d + 1) 20 ([(0, .ref 51), (1, .int (Int32.ofInt l1)), (2, .int (Int32.ofInt l2))], [], pk true ρ o) (pZ true rv rρ o) := by
      intro l1 l2 ρ h
      subst hj
      obtain ⟨h2, h⟩ := ck_some h
      refine ci_T.step cb_X6_isNumber_20 (ci_sq rfl (ci_sq (pe_getI (kI := 6) tq_50 rfl rfl rfl) (pe_if_ne h2))) ?_
      obtain ⟨j48, hj, h⟩ := jn_ex h
      have J48 : ∀ (ρ : pm), j48 ρ = some (rv, rρ) → ci_T yX6_isNumber cX6_isNumber 3 (some .boolean) (d + 1) 48 ([(0, .ref 51)], [], pk true ρ o) (pZ true rv rρ o) := by
        intro ρ h
        subst hj
        obtain ⟨h3, h⟩ := ck_some h
        refine ci_T.step cb_X6_isNumber_48 (ci_sq rfl (ci_sq (pe_getI (kI := 6) tq_50 rfl rfl rfl) (pe_if_ne h3))) ?_
        refine pbrn h (fun hc h => ?_) (fun hc h => ?_)
        · refine ci_T.step cb_X6_isNumber_59 (pe_push pc_0) ?_
          cases h
          exact ci_T.done (v := some (.int _)) cd_X6_isNumber_60 ⟨⟨rfl, rfl⟩, (Or.inl rfl)⟩
        · refine ci_T.step cb_X6_isNumber_55 (ci_sq (pe_push pc_1) rfl) ?_
          cases h
          exact ci_T.done (v := some (.int _)) cd_X6_isNumber_60 ⟨⟨rfl, rfl⟩, (Or.inr rfl)⟩
      clear hj
      refine pbrn h (fun hc h => ?_) (fun hc h => ?_)
      · exact ci_T.sub [0] (J48 _ h) rfl
      · obtain ⟨h4, h⟩ := ck_some h
        obtain ⟨h5, h⟩ := ck_some h
        refine ci_T.step cb_X6_isNumber_27 (ci_sq rfl (ci_sq (pe_getI (kI := 5) tq_50 rfl rfl rfl) (ci_sq rfl (pe_ic_lt h4 h5)))) ?_
        obtain ⟨j43, hj, h⟩ := jn_ex h
        have J43 : ∀ (ρ : pm), j43 ρ = some (rv, rρ) → ci_T yX6_isNumber cX6_isNumber 3 (some .boolean) (d + 1) 43 ([(0, .ref 51)], [], pk true ρ o) (pZ true rv rρ o) := by
          intro ρ h
          subst hj
          refine ci_T.step cb_X6_isNumber_43 (ci_sq rfl (pe_push pc_3)) ?_
          obtain ⟨ρ6, hv, h⟩ := bn_some h
          refine ci_T.call (as := [_, _]) (rest := []) kc_X6_fail ki_X6_fail (by decide) cl_X6_isNumber_45 rfl (Nat.le_of_ble_eq_true rfl) ⟨⟨_, rfl⟩, _, _, _, rfl, pk_obj tq_50 rfl _ _⟩ (s_X6_fail d o hv) ?_
          rintro _ _ ⟨rfl, rfl⟩
          clear hv
          exact ci_T.sub [0] (J48 _ h) rfl
        clear hj
        refine pbr h (fun hc h => ?_) (fun hc h => ?_)
        · exact ci_T.sub [0] (J43 _ h) rfl
        · obtain ⟨h7, h⟩ := ck_some h
          refine ci_T.step cb_X6_isNumber_35 (ci_sq rfl (ci_sq (pe_getI (kI := 5) tq_50 rfl rfl rfl) (ci_sq rfl (pe_ic_le h4 h7)))) ?_
          refine pbr h (fun hc h => ?_) (fun hc h => ?_)
          · exact ci_T.sub [0] (J48 _ h) rfl
          · exact ci_T.sub [0] (J43 _ h) rfl
    clear hj
    refine pbrn h (fun hc h => ?_) (fun hc h => ?_)
    · exact ci_T.sub [0, 1, 2] (J20 _ _ _ h) rfl
    · obtain ⟨h8, h⟩ := ck_some h
      refine ci_T.step cb_X6_isNumber_7 (ci_sq rfl (ci_sq (pe_getI (kI := 3) tq_50 rfl rfl rfl) (ci_sq (pe_push pc_2) (pe_ic_eq h8 pR_2)))) ?_
      refine pbr h (fun hc h => ?_) (fun hc h => ?_)
      · exact ci_T.sub [0, 1, 2] (J20 _ _ _ h) rfl
      · refine ci_T.step cb_X6_isNumber_15 (ci_sq rfl (pe_push pc_2)) ?_
        obtain ⟨ρ9, hv, h⟩ := bn_some h
        refine ci_T.call (as := [_, _]) (rest := []) kc_X6_fail ki_X6_fail (by decide) cl_X6_isNumber_17 rfl (Nat.le_of_ble_eq_true rfl) ⟨⟨_, rfl⟩, _, _, _, rfl, pk_obj tq_50 rfl _ _⟩ (s_X6_fail d o hv) ?_
        rintro _ _ ⟨rfl, rfl⟩
        clear hv
        exact ci_T.sub [0, 1, 2] (J20 _ _ _ h) rfl
/-- X6_nextNumber -/
def f_X6_nextNumber (l1 l2 : Int) (ρ : pm) : Option (Int × pm) := (f_X6_next ρ).bind (fun ρ1 => bn2 (f_X6_isNumber l1 l2 ρ1) (fun v2 ρ3 => some (v2, ρ3)))
set_option maxRecDepth 100000 in
theorem s_X6_nextNumber (d : Nat)   {ρ : pm} (o : pm) {l1 l2 : Int} {rv : Int} {rρ : pm} (h : f_X6_nextNumber l1 l2 ρ = some (rv, rρ)) : ci_Met (d + 2) (yX6_nextNumber, cX6_nextNumber, 3, (some .boolean), [], 0, 0) [.ref 51, .int (Int32.ofInt l1), .int (Int32.ofInt l2)] (pk true ρ o) (pZ true rv rρ o) := by
  refine ci_met (by decide) (Nat.le_of_ble_eq_true rfl) ?_ ?_
  · rintro v w' ⟨⟨rfl, rfl⟩, hz⟩
    exact Z_of hz
  · change ci_T _ _ _ _ _ _ ([(0, .ref 51), (1, .int (Int32.ofInt l1)), (2, .int (Int32.ofInt l2))], [], pk true ρ o) _
    unfold f_X6_nextNumber at h
    refine ci_T.step cb_X6_nextNumber_0 rfl ?_
    obtain ⟨ρ1, hv, h⟩ := bn_some h
    refine ci_T.call (as := [_]) (rest := []) kc_X6_next ki_X6_next (by decide) cl_X6_nextNumber_1 rfl (Nat.le_of_ble_eq_true rfl) ⟨⟨_, rfl⟩, _, _, _, rfl, pk_obj tq_50 rfl _ _⟩ (s_X6_next d o hv) ?_
    rintro _ _ ⟨rfl, rfl⟩
    clear hv
    refine ci_T.step cb_X6_nextNumber_4 (ci_sq rfl (ci_sq rfl rfl)) ?_
    obtain ⟨v2, ρ3, hv, h⟩ := bn2_some h
    refine ci_T.call (as := [_, _, _]) (rest := []) kc_X6_isNumber ki_X6_isNumber (by decide) cl_X6_nextNumber_7 rfl (Nat.le_of_ble_eq_true rfl) ⟨⟨_, rfl⟩, _, _, _, rfl, pk_obj tq_50 rfl _ _⟩ (s_X6_isNumber d o hv) ?_
    rintro _ _ ⟨⟨rfl, rfl⟩, hz4⟩
    clear hv
    cases h
    exact ci_T.done (v := some (.int _)) cd_X6_nextNumber_10 ⟨⟨rfl, rfl⟩, hz4⟩
/-- X6_nextStop -/
def f_X6_nextStop (ρ : pm) : Option pm := (f_X6_next ρ).bind (fun ρ1 => ck (inR (ρ1 50 6)) (if (ρ1 50 6) = 0 then ck (inR (ρ1 50 3)) (if (ρ1 50 3) = 3 then some ρ1 else (f_X6_fail 2 ρ1).bind (fun ρ4 => some ρ4)) else some ρ1))
set_option maxRecDepth 100000 in
theorem s_X6_nextStop (d : Nat)   {ρ : pm} (o : pm)  {rρ : pm} (h : f_X6_nextStop ρ = some rρ) : ci_Met (d + 2) (yX6_nextStop, cX6_nextStop, 1, none, [], 0, 0) [.ref 51] (pk true ρ o) (pV true rρ o) := by
  refine ci_met (by decide) (Nat.le_of_ble_eq_true rfl) ?_ ?_
  · rintro v w' ⟨rfl, rfl⟩
    trivial
  · change ci_T _ _ _ _ _ _ ([(0, .ref 51)], [], pk true ρ o) _
    unfold f_X6_nextStop at h
    refine ci_T.step cb_X6_nextStop_0 rfl ?_
    obtain ⟨ρ1, hv, h⟩ := bn_some h
    refine ci_T.call (as := [_]) (rest := []) kc_X6_next ki_X6_next (by decide) cl_X6_nextStop_1 rfl (Nat.le_of_ble_eq_true rfl) ⟨⟨_, rfl⟩, _, _, _, rfl, pk_obj tq_50 rfl _ _⟩ (s_X6_next d o hv) ?_
    rintro _ _ ⟨rfl, rfl⟩
    clear hv
    obtain ⟨h2, h⟩ := ck_some h
    refine ci_T.step cb_X6_nextStop_4 (ci_sq rfl (ci_sq (pe_getI (kI := 6) tq_50 rfl rfl rfl) (pe_if_ne h2))) ?_
    refine pbrn h (fun hc h => ?_) (fun hc h => ?_)
    · cases h
      exact ci_T.done (v := none) cd_X6_nextStop_24 ⟨rfl, rfl⟩
    · obtain ⟨h3, h⟩ := ck_some h
      refine ci_T.step cb_X6_nextStop_11 (ci_sq rfl (ci_sq (pe_getI (kI := 3) tq_50 rfl rfl rfl) (ci_sq (pe_push pc_3) (pe_ic_eq h3 pR_3)))) ?_
      refine pbr h (fun hc h => ?_) (fun hc h => ?_)
      · cases h
        exact ci_T.done (v := none) cd_X6_nextStop_24 ⟨rfl, rfl⟩
      · refine ci_T.step cb_X6_nextStop_19 (ci_sq rfl (pe_push pc_2)) ?_
        obtain ⟨ρ4, hv, h⟩ := bn_some h
        refine ci_T.call (as := [_, _]) (rest := []) kc_X6_fail ki_X6_fail (by decide) cl_X6_nextStop_21 rfl (Nat.le_of_ble_eq_true rfl) ⟨⟨_, rfl⟩, _, _, _, rfl, pk_obj tq_50 rfl _ _⟩ (s_X6_fail (d + 1) o hv) ?_
        rintro _ _ ⟨rfl, rfl⟩
        clear hv
        cases h
        exact ci_T.done (v := none) cd_X6_nextStop_24 ⟨rfl, rfl⟩
/-- X1_takePlain -/
def f_X1_takePlain (ρ : pm) : Option pm := bn2 (f_X1_comesOnce 1 ρ) (fun v1 ρ2 => if v1 = 0 then some ρ2 else bn2 (f_X6_nextNumber 2 5 ρ2) (fun v4 ρ5 => if v4 = 0 then some ρ5 else jn (pup ρ5 52 4 (ρ5 50 5)) (fun ρ7 => bn2 (f_X6_nextNumber 2 5 ρ7) (fun v8 ρ9 => if v8 = 0 then some ρ9 else jn (pup ρ9 52 5 (ρ9 50 5)) (fun ρ11 => (f_X6_nextStop ρ11).bind (fun ρ12 => some ρ12))))))
set_option maxRecDepth 100000 in
theorem s_X1_takePlain (d : Nat)   {ρ : pm} (o : pm)  {rρ : pm} (h : f_X1_takePlain ρ = some rρ) : ci_Met (d + 3) (yX1_takePlain, cX1_takePlain, 2, none, [], 0, 0) [.ref 53, .ref 51] (pk true ρ o) (pV true rρ o) := by
  refine ci_met (by decide) (Nat.le_of_ble_eq_true rfl) ?_ ?_
  · rintro v w' ⟨rfl, rfl⟩
    trivial
  · change ci_T _ _ _ _ _ _ ([(0, .ref 53), (1, .ref 51)], [], pk true ρ o) _
    unfold f_X1_takePlain at h
    refine ci_T.step cb_X1_takePlain_0 (ci_sq rfl (ci_sq rfl (pe_push pc_1))) ?_
    obtain ⟨v1, ρ2, hv, h⟩ := bn2_some h
    refine ci_T.call (as := [_, _, _]) (rest := []) kc_X1_comesOnce ki_X1_comesOnce (by decide) cl_X1_takePlain_3 rfl (Nat.le_of_ble_eq_true rfl) ⟨⟨_, rfl⟩, _, _, _, rfl, pk_obj tq_52 rfl _ _⟩ (s_X1_comesOnce (d + 1) o hv) ?_
    rintro _ _ ⟨⟨rfl, rfl⟩, hz3⟩
    clear hv
    refine ci_T.step cb_X1_takePlain_6 (pe_if_eq (Z_R hz3)) ?_
    refine pbr h (fun hc h => ?_) (fun hc h => ?_)
    · cases h
      exact ci_T.done (v := none) cd_X1_takePlain_18 ⟨rfl, rfl⟩
    · refine ci_T.step cb_X1_takePlain_9 (ci_sq rfl (ci_sq (pe_push pc_2) (pe_push pc_5))) ?_
      obtain ⟨v4, ρ5, hv, h⟩ := bn2_some h
      refine ci_T.call (as := [_, _, _]) (rest := []) kc_X6_nextNumber ki_X6_nextNumber (by decide) cl_X1_takePlain_12 rfl (Nat.le_of_ble_eq_true rfl) ⟨⟨_, rfl⟩, _, _, _, rfl, pk_obj tq_50 rfl _ _⟩ (s_X6_nextNumber d o hv) ?_
      rintro _ _ ⟨⟨rfl, rfl⟩, hz6⟩
      clear hv
      refine ci_T.step cb_X1_takePlain_15 (pe_if_ne (Z_R hz6)) ?_
      refine pbrn h (fun hc h => ?_) (fun hc h => ?_)
      · replace h := jn_some h
        refine ci_T.step cb_X1_takePlain_19 (ci_sq rfl (ci_sq rfl (ci_sq (pe_getI (kI := 5) tq_50 rfl rfl rfl) (ci_sq (pe_putI (kI := 4) tq_52 rfl rfl rfl) (ci_sq rfl (ci_sq (pe_push pc_2) (pe_push pc_5))))))) ?_
        obtain ⟨v8, ρ9, hv, h⟩ := bn2_some h
        refine ci_T.call (as := [_, _, _]) (rest := []) kc_X6_nextNumber ki_X6_nextNumber (by decide) cl_X1_takePlain_30 rfl (Nat.le_of_ble_eq_true rfl) ⟨⟨_, rfl⟩, _, _, _, rfl, pk_obj tq_50 rfl _ _⟩ (s_X6_nextNumber d o hv) ?_
        rintro _ _ ⟨⟨rfl, rfl⟩, hz10⟩
        clear hv
        refine ci_T.step cb_X1_takePlain_33 (pe_if_ne (Z_R hz10)) ?_
        refine pbrn h (fun hc h => ?_) (fun hc h => ?_)
        · replace h := jn_some h
          refine ci_T.step cb_X1_takePlain_37 (ci_sq rfl (ci_sq rfl (ci_sq (pe_getI (kI := 5) tq_50 rfl rfl rfl) (ci_sq (pe_putI (kI := 5) tq_52 rfl rfl rfl) rfl)))) ?_
          obtain ⟨ρ12, hv, h⟩ := bn_some h
          refine ci_T.call (as := [_]) (rest := []) kc_X6_nextStop ki_X6_nextStop (by decide) cl_X1_takePlain_46 rfl (Nat.le_of_ble_eq_true rfl) ⟨⟨_, rfl⟩, _, _, _, rfl, pk_obj tq_50 rfl _ _⟩ (s_X6_nextStop d o hv) ?_
          rintro _ _ ⟨rfl, rfl⟩
          clear hv
          cases h
          exact ci_T.done (v := none) cd_X1_takePlain_49 ⟨rfl, rfl⟩
        · cases h
          exact ci_T.done (v := none) cd_X1_takePlain_36 ⟨rfl, rfl⟩
      · cases h
        exact ci_T.done (v := none) cd_X1_takePlain_18 ⟨rfl, rfl⟩
/-- X1_takeRow -/
def L_X1_takeRow_32 (K77 : pm → Option pm) : Nat → Int → Int → pm → Option pm
  | 0, _, _, _ => none
  | n + 1, l2, l3, ρ => ck (inR l3) (if 5 < l3 then some ρ else (f_X6_next ρ).bind (fun ρ8 => jn (fun (l2 l3 : Int) (ρ : pm) => bn2 (f_X6_isNumber 0 9 ρ) (fun v9 ρ10 => if v9 = 0 then some ρ10 else ck (inR l3) (if l3 < 5 then ck (0 ≤ (l2 * 5) + l3 ∧ (l2 * 5) + l3 < 25) (jn (pup ρ10 53 ((l2 * 5) + l3) (ρ10 50 5)) (fun ρ14 => ck (0 ≤ l2 ∧ l2 < 5) (jn (pup ρ14 54 l2 (l3 + 1)) (fun ρ16 => jn (l3 + 1) (fun x17 => L_X1_takeRow_32 K77 n l2 x17 ρ16))))) else K77 ρ10))) (fun j61 => if l3 ≤ 0 then j61 l2 l3 ρ8 else ck (inR (ρ8 50 6)) (if (ρ8 50 6) = 0 then ck (inR (ρ8 50 3)) (if (ρ8 50 3) = 3 then some ρ8 else j61 l2 l3 ρ8) else j61 l2 l3 ρ8))))
def f_X1_takeRow (ρ : pm) : Option pm := bn2 (f_X6_nextNumber 0 4 ρ) (fun v1 ρ2 => if v1 = 0 then some ρ2 else jn (ρ2 50 5) (fun x4 => ck (0 ≤ x4 ∧ x4 < 5) (ck (inR (ρ2 54 x4)) (if (ρ2 54 x4) = 0 then L_X1_takeRow_32 (fun (ρ : pm) => (f_X6_fail 5 ρ).bind (fun ρ20 => some ρ20)) fu x4 0 ρ2 else (f_X6_fail 4 ρ2).bind (fun ρ21 => some ρ21)))))
set_option maxRecDepth 100000 in
theorem t_X1_takeRow_32 {d : Nat}    {o : pm} {rρ : pm} {K77 : pm → Option pm} (hK77 : ∀ (ρ : pm), K77 ρ = some rρ → ci_T yX1_takeRow cX1_takeRow 4 none (d + 3) 77 ([(1, .ref 51)], [], pk true ρ o) (pV true rρ o)) : ∀ (n : Nat) (l2 l3 : Int) (ρ : pm), L_X1_takeRow_32 K77 n l2 l3 ρ = some rρ → ci_T yX1_takeRow cX1_takeRow 4 none (d + 3) 32 ([(0, .ref 53), (1, .ref 51), (2, .int (Int32.ofInt l2)), (3, .int (Int32.ofInt l3))], [], pk true ρ o) (pV true rρ o) := by
  intro n
  induction n with
  | zero =>
    intro l2 l3 ρ h
    rw [L_X1_takeRow_32] at h
    cases h
  | succ n ih =>
    intro l2 l3 ρ h
    rw [L_X1_takeRow_32] at h
    obtain ⟨h7, h⟩ := ck_some h
    refine ci_T.step cb_X1_takeRow_32 (ci_sq rfl (ci_sq (pe_push pc_5) (pe_ic_gt h7 pR_5))) ?_
    refine pbr h (fun hc h => ?_) (fun hc h => ?_)
    · cases h
      exact ci_T.done (v := none) cd_X1_takeRow_112 ⟨rfl, rfl⟩
    · refine ci_T.step cb_X1_takeRow_37 rfl ?_
      obtain ⟨ρ8, hv, h⟩ := bn_some h
      refine ci_T.call (as := [_]) (rest := []) kc_X6_next ki_X6_next (by decide) cl_X1_takeRow_38 rfl (Nat.le_of_ble_eq_true rfl) ⟨⟨_, rfl⟩, _, _, _, rfl, pk_obj tq_50 rfl _ _⟩ (s_X6_next (d + 1) o hv) ?_
      rintro _ _ ⟨rfl, rfl⟩
      clear hv
      refine ci_T.step cb_X1_takeRow_41 (ci_sq rfl (pe_if_le h7)) ?_
      obtain ⟨j61, hj, h⟩ := jn_ex h
      have J61 : ∀ (l2 l3 : Int) (ρ : pm), j61 l2 l3 ρ = some rρ → ci_T yX1_takeRow cX1_takeRow 4 none (d + 3) 61 ([(0, .ref 53), (1, .ref 51), (2, .int (Int32.ofInt l2)), (3, .int (Int32.ofInt l3))], [], pk true ρ o) (pV true rρ o) := by
        intro l2 l3 ρ h
        subst hj
        refine ci_T.step cb_X1_takeRow_61 (ci_sq rfl (ci_sq (pe_push pc_0) (pe_push pc_9))) ?_
        obtain ⟨v9, ρ10, hv, h⟩ := bn2_some h
        refine ci_T.call (as := [_, _, _]) (rest := []) kc_X6_isNumber ki_X6_isNumber (by decide) cl_X1_takeRow_65 rfl (Nat.le_of_ble_eq_true rfl) ⟨⟨_, rfl⟩, _, _, _, rfl, pk_obj tq_50 rfl _ _⟩ (s_X6_isNumber (d + 1) o hv) ?_
        rintro _ _ ⟨⟨rfl, rfl⟩, hz11⟩
        clear hv
        refine ci_T.step cb_X1_takeRow_68 (pe_if_ne (Z_R hz11)) ?_
        refine pbrn h (fun hc h => ?_) (fun hc h => ?_)
        · obtain ⟨h12, h⟩ := ck_some h
          refine ci_T.step cb_X1_takeRow_72 (ci_sq rfl (ci_sq (pe_push pc_5) (pe_ic_lt h12 pR_5))) ?_
          refine pbr h (fun hc h => ?_) (fun hc h => ?_)
          · obtain ⟨h13, h⟩ := ck_some h
            replace h := jn_some h
            obtain ⟨h15, h⟩ := ck_some h
            replace h := jn_some h
            replace h := jn_some h
            refine ci_T.step cb_X1_takeRow_83 (ci_sq rfl (ci_sq (pe_getR tq_52 rfl rfl) (ci_sq rfl (ci_sq (pe_push pc_5) (ci_sq pe_imul (ci_sq rfl (ci_sq pe_iadd (ci_sq rfl (ci_sq (pe_getI (kI := 5) tq_50 rfl rfl rfl) (ci_sq (pe_ast (nI := 25) tq_53 rfl rfl h13 rfl) (ci_sq rfl (ci_sq (pe_getR tq_52 rfl rfl) (ci_sq rfl (ci_sq rfl (ci_sq (pe_push pc_1) (ci_sq pe_iadd (ci_sq (pe_ast (nI := 5) tq_54 rfl rfl h15 rfl) (ci_sq (pe_inc rfl) rfl)))))))))))))))))) ?_
            exact ci_T.sub [1, 2, 3, 0] (ih _ _ _ h) rfl
          · exact ci_T.sub [1] (hK77 _ h) rfl
        · cases h
          exact ci_T.done (v := none) cd_X1_takeRow_71 ⟨rfl, rfl⟩
      clear hj
      refine pbr h (fun hc h => ?_) (fun hc h => ?_)
      · exact ci_T.sub [0, 1, 2, 3] (J61 _ _ _ h) rfl
      · obtain ⟨h18, h⟩ := ck_some h
        refine ci_T.step cb_X1_takeRow_45 (ci_sq rfl (ci_sq (pe_getI (kI := 6) tq_50 rfl rfl rfl) (pe_if_ne h18))) ?_
        refine pbrn h (fun hc h => ?_) (fun hc h => ?_)
        · exact ci_T.sub [0, 1, 2, 3] (J61 _ _ _ h) rfl
        · obtain ⟨h19, h⟩ := ck_some h
          refine ci_T.step cb_X1_takeRow_52 (ci_sq rfl (ci_sq (pe_getI (kI := 3) tq_50 rfl rfl rfl) (ci_sq (pe_push pc_3) (pe_ic_ne h19 pR_3)))) ?_
          refine pbrn h (fun hc h => ?_) (fun hc h => ?_)
          · exact ci_T.sub [0, 1, 2, 3] (J61 _ _ _ h) rfl
          · cases h
            exact ci_T.done (v := none) cd_X1_takeRow_60 ⟨rfl, rfl⟩
set_option maxRecDepth 100000 in
theorem s_X1_takeRow (d : Nat)   {ρ : pm} (o : pm)  {rρ : pm} (h : f_X1_takeRow ρ = some rρ) : ci_Met (d + 3) (yX1_takeRow, cX1_takeRow, 4, none, [], 0, 0) [.ref 53, .ref 51] (pk true ρ o) (pV true rρ o) := by
  refine ci_met (by decide) (Nat.le_of_ble_eq_true rfl) ?_ ?_
  · rintro v w' ⟨rfl, rfl⟩
    trivial
  · change ci_T _ _ _ _ _ _ ([(0, .ref 53), (1, .ref 51)], [], pk true ρ o) _
    unfold f_X1_takeRow at h
    refine ci_T.step cb_X1_takeRow_0 (ci_sq rfl (ci_sq (pe_push pc_0) (pe_push pc_4))) ?_
    obtain ⟨v1, ρ2, hv, h⟩ := bn2_some h
    refine ci_T.call (as := [_, _, _]) (rest := []) kc_X6_nextNumber ki_X6_nextNumber (by decide) cl_X1_takeRow_3 rfl (Nat.le_of_ble_eq_true rfl) ⟨⟨_, rfl⟩, _, _, _, rfl, pk_obj tq_50 rfl _ _⟩ (s_X6_nextNumber d o hv) ?_
    rintro _ _ ⟨⟨rfl, rfl⟩, hz3⟩
    clear hv
    refine ci_T.step cb_X1_takeRow_6 (pe_if_ne (Z_R hz3)) ?_
    refine pbrn h (fun hc h => ?_) (fun hc h => ?_)
    · replace h := jn_some h
      obtain ⟨h5, h⟩ := ck_some h
      obtain ⟨h6, h⟩ := ck_some h
      refine ci_T.step cb_X1_takeRow_10 (ci_sq rfl (ci_sq (pe_getI (kI := 5) tq_50 rfl rfl rfl) (ci_sq rfl (ci_sq rfl (ci_sq (pe_getR tq_52 rfl rfl) (ci_sq rfl (ci_sq (pe_ald (nI := 5) tq_54 rfl rfl h5) (pe_if_eq h6)))))))) ?_
      refine pbr h (fun hc h => ?_) (fun hc h => ?_)
      · refine ci_T.step cb_X1_takeRow_30 (ci_sq (pe_push pc_0) rfl) ?_
        refine ci_T.sub [2, 3, 1, 0] (t_X1_takeRow_32 ?_ fu _ _ _ h) rfl
        · intro ρ h
          refine ci_T.step cb_X1_takeRow_77 (ci_sq rfl (pe_push pc_5)) ?_
          obtain ⟨ρ20, hv, h⟩ := bn_some h
          refine ci_T.call (as := [_, _]) (rest := []) kc_X6_fail ki_X6_fail (by decide) cl_X1_takeRow_79 rfl (Nat.le_of_ble_eq_true rfl) ⟨⟨_, rfl⟩, _, _, _, rfl, pk_obj tq_50 rfl _ _⟩ (s_X6_fail (d + 2) o hv) ?_
          rintro _ _ ⟨rfl, rfl⟩
          clear hv
          cases h
          exact ci_T.done (v := none) cd_X1_takeRow_82 ⟨rfl, rfl⟩
      · refine ci_T.step cb_X1_takeRow_24 (ci_sq rfl (pe_push pc_4)) ?_
        obtain ⟨ρ21, hv, h⟩ := bn_some h
        refine ci_T.call (as := [_, _]) (rest := []) kc_X6_fail ki_X6_fail (by decide) cl_X1_takeRow_26 rfl (Nat.le_of_ble_eq_true rfl) ⟨⟨_, rfl⟩, _, _, _, rfl, pk_obj tq_50 rfl _ _⟩ (s_X6_fail (d + 2) o hv) ?_
        rintro _ _ ⟨rfl, rfl⟩
        clear hv
        cases h
        exact ci_T.done (v := none) cd_X1_takeRow_29 ⟨rfl, rfl⟩
    · cases h
      exact ci_T.done (v := none) cd_X1_takeRow_9 ⟨rfl, rfl⟩
/-- X1_takeSpring -/
def f_X1_takeSpring (ρ : pm) : Option pm := bn2 (f_X1_comesOnce 2 ρ) (fun v1 ρ2 => if v1 = 0 then some ρ2 else bn2 (f_X6_nextNumber 0 24 ρ2) (fun v4 ρ5 => if v4 = 0 then some ρ5 else jn (pup ρ5 52 6 (ρ5 50 5)) (fun ρ7 => (f_X6_nextStop ρ7).bind (fun ρ8 => some ρ8))))
set_option maxRecDepth 100000 in
theorem s_X1_takeSpring (d : Nat)   {ρ : pm} (o : pm)  {rρ : pm} (h : f_X1_takeSpring ρ = some rρ) : ci_Met (d + 3) (yX1_takeSpring, cX1_takeSpring, 2, none, [], 0, 0) [.ref 53, .ref 51] (pk true ρ o) (pV true rρ o) := by
  refine ci_met (by decide) (Nat.le_of_ble_eq_true rfl) ?_ ?_
  · rintro v w' ⟨rfl, rfl⟩
    trivial
  · change ci_T _ _ _ _ _ _ ([(0, .ref 53), (1, .ref 51)], [], pk true ρ o) _
    unfold f_X1_takeSpring at h
    refine ci_T.step cb_X1_takeSpring_0 (ci_sq rfl (ci_sq rfl (pe_push pc_2))) ?_
    obtain ⟨v1, ρ2, hv, h⟩ := bn2_some h
    refine ci_T.call (as := [_, _, _]) (rest := []) kc_X1_comesOnce ki_X1_comesOnce (by decide) cl_X1_takeSpring_3 rfl (Nat.le_of_ble_eq_true rfl) ⟨⟨_, rfl⟩, _, _, _, rfl, pk_obj tq_52 rfl _ _⟩ (s_X1_comesOnce (d + 1) o hv) ?_
    rintro _ _ ⟨⟨rfl, rfl⟩, hz3⟩
    clear hv
    refine ci_T.step cb_X1_takeSpring_6 (pe_if_eq (Z_R hz3)) ?_
    refine pbr h (fun hc h => ?_) (fun hc h => ?_)
    · cases h
      exact ci_T.done (v := none) cd_X1_takeSpring_31 ⟨rfl, rfl⟩
    · refine ci_T.step cb_X1_takeSpring_9 (ci_sq rfl (ci_sq (pe_push pc_0) (pe_push pc_24))) ?_
      obtain ⟨v4, ρ5, hv, h⟩ := bn2_some h
      refine ci_T.call (as := [_, _, _]) (rest := []) kc_X6_nextNumber ki_X6_nextNumber (by decide) cl_X1_takeSpring_13 rfl (Nat.le_of_ble_eq_true rfl) ⟨⟨_, rfl⟩, _, _, _, rfl, pk_obj tq_50 rfl _ _⟩ (s_X6_nextNumber d o hv) ?_
      rintro _ _ ⟨⟨rfl, rfl⟩, hz6⟩
      clear hv
      refine ci_T.step cb_X1_takeSpring_16 (pe_if_eq (Z_R hz6)) ?_
      refine pbr h (fun hc h => ?_) (fun hc h => ?_)
      · cases h
        exact ci_T.done (v := none) cd_X1_takeSpring_31 ⟨rfl, rfl⟩
      · replace h := jn_some h
        refine ci_T.step cb_X1_takeSpring_19 (ci_sq rfl (ci_sq rfl (ci_sq (pe_getI (kI := 5) tq_50 rfl rfl rfl) (ci_sq (pe_putI (kI := 6) tq_52 rfl rfl rfl) rfl)))) ?_
        obtain ⟨ρ8, hv, h⟩ := bn_some h
        refine ci_T.call (as := [_]) (rest := []) kc_X6_nextStop ki_X6_nextStop (by decide) cl_X1_takeSpring_28 rfl (Nat.le_of_ble_eq_true rfl) ⟨⟨_, rfl⟩, _, _, _, rfl, pk_obj tq_50 rfl _ _⟩ (s_X6_nextStop d o hv) ?_
        rintro _ _ ⟨rfl, rfl⟩
        clear hv
        cases h
        exact ci_T.done (v := none) cd_X1_takeSpring_31 ⟨rfl, rfl⟩
/-- X1_takeFarm -/
def f_X1_takeFarm (ρ : pm) : Option pm := ck (inR (ρ 52 8)) (if (ρ 52 8) < 3 then bn2 (f_X6_nextNumber 1 9 ρ) (fun v2 ρ3 => if v2 = 0 then some ρ3 else ck (0 ≤ ρ3 52 8 ∧ ρ3 52 8 < 3) (jn (pup ρ3 56 (ρ3 52 8) (ρ3 50 5)) (fun ρ6 => jn (pup ρ6 52 8 ((ρ6 52 8) + 1)) (fun ρ7 => (f_X6_nextStop ρ7).bind (fun ρ8 => some ρ8))))) else (f_X6_fail 5 ρ).bind (fun ρ9 => some ρ9))
set_option maxRecDepth 100000 in
theorem s_X1_takeFarm (d : Nat)   {ρ : pm} (o : pm)  {rρ : pm} (h : f_X1_takeFarm ρ = some rρ) : ci_Met (d + 3) (yX1_takeFarm, cX1_takeFarm, 2, none, [], 0, 0) [.ref 53, .ref 51] (pk true ρ o) (pV true rρ o) := by
  refine ci_met (by decide) (Nat.le_of_ble_eq_true rfl) ?_ ?_
  · rintro v w' ⟨rfl, rfl⟩
    trivial
  · change ci_T _ _ _ _ _ _ ([(0, .ref 53), (1, .ref 51)], [], pk true ρ o) _
    unfold f_X1_takeFarm at h
    obtain ⟨h1, h⟩ := ck_some h
    refine ci_T.step cb_X1_takeFarm_0 (ci_sq rfl (ci_sq (pe_getI (kI := 8) tq_52 rfl rfl rfl) (ci_sq (pe_push pc_3) (pe_ic_lt h1 pR_3)))) ?_
    refine pbr h (fun hc h => ?_) (fun hc h => ?_)
    · refine ci_T.step cb_X1_takeFarm_16 (ci_sq rfl (ci_sq (pe_push pc_1) (pe_push pc_9))) ?_
      obtain ⟨v2, ρ3, hv, h⟩ := bn2_some h
      refine ci_T.call (as := [_, _, _]) (rest := []) kc_X6_nextNumber ki_X6_nextNumber (by decide) cl_X1_takeFarm_20 rfl (Nat.le_of_ble_eq_true rfl) ⟨⟨_, rfl⟩, _, _, _, rfl, pk_obj tq_50 rfl _ _⟩ (s_X6_nextNumber d o hv) ?_
      rintro _ _ ⟨⟨rfl, rfl⟩, hz4⟩
      clear hv
      refine ci_T.step cb_X1_takeFarm_23 (pe_if_eq (Z_R hz4)) ?_
      refine pbr h (fun hc h => ?_) (fun hc h => ?_)
      · cases h
        exact ci_T.done (v := none) cd_X1_takeFarm_53 ⟨rfl, rfl⟩
      · obtain ⟨h5, h⟩ := ck_some h
        replace h := jn_some h
        replace h := jn_some h
        refine ci_T.step cb_X1_takeFarm_26 (ci_sq rfl (ci_sq (pe_getR tq_52 rfl rfl) (ci_sq rfl (ci_sq (pe_getI (kI := 8) tq_52 rfl rfl rfl) (ci_sq rfl (ci_sq (pe_getI (kI := 5) tq_50 rfl rfl rfl) (ci_sq (pe_ast (nI := 3) tq_56 rfl rfl h5 rfl) (ci_sq rfl (ci_sq rfl (ci_sq (pe_getI (kI := 8) tq_52 rfl rfl rfl) (ci_sq (pe_push pc_1) (ci_sq pe_iadd (ci_sq (pe_putI (kI := 8) tq_52 rfl rfl rfl) rfl))))))))))))) ?_
        obtain ⟨ρ8, hv, h⟩ := bn_some h
        refine ci_T.call (as := [_]) (rest := []) kc_X6_nextStop ki_X6_nextStop (by decide) cl_X1_takeFarm_50 rfl (Nat.le_of_ble_eq_true rfl) ⟨⟨_, rfl⟩, _, _, _, rfl, pk_obj tq_50 rfl _ _⟩ (s_X6_nextStop d o hv) ?_
        rintro _ _ ⟨rfl, rfl⟩
        clear hv
        cases h
        exact ci_T.done (v := none) cd_X1_takeFarm_53 ⟨rfl, rfl⟩
    · refine ci_T.step cb_X1_takeFarm_8 (ci_sq rfl (pe_push pc_5)) ?_
      obtain ⟨ρ9, hv, h⟩ := bn_some h
      refine ci_T.call (as := [_, _]) (rest := []) kc_X6_fail ki_X6_fail (by decide) cl_X1_takeFarm_10 rfl (Nat.le_of_ble_eq_true rfl) ⟨⟨_, rfl⟩, _, _, _, rfl, pk_obj tq_50 rfl _ _⟩ (s_X6_fail (d + 2) o hv) ?_
      rintro _ _ ⟨rfl, rfl⟩
      clear hv
      refine ci_T.step cb_X1_takeFarm_13 rfl ?_
      cases h
      exact ci_T.done (v := none) cd_X1_takeFarm_53 ⟨rfl, rfl⟩
/-- X1_takeGround -/
def L_X1_takeGround_17 (K88 : pm → Option pm) (K108 : pm → Option pm) : Nat → Int → Int → pm → Option pm
  | 0, _, _, _ => none
  | n + 1, l2, l3, ρ => ck (inR l3) (if 8 < l3 then some ρ else (f_X6_next ρ).bind (fun ρ6 => jn (fun (l2 l3 : Int) (ρ : pm) => bn2 (f_X6_isNumber 0 24 ρ) (fun v7 ρ8 => if v7 = 0 then some ρ8 else (f_X8_has (bor (bor (ρ8 55 0) (ρ8 55 1)) (ρ8 55 2)) (ρ8 50 5)).bind (fun v10 => if v10 = 0 then ck (0 ≤ l2 ∧ l2 < 3) ((f_J6_bitCount (ρ8 55 l2)).bind (fun v13 => ck (inR v13) (if v13 < 8 then jn (pup ρ8 55 l2 (bor (ρ8 55 l2) (bshl 1 (ρ8 50 5)))) (fun ρ15 => jn (l3 + 1) (fun x16 => L_X1_takeGround_17 K88 K108 n l2 x16 ρ15)) else K108 ρ8))) else K88 ρ8))) (fun j47 => if l3 ≤ 0 then j47 l2 l3 ρ6 else ck (inR (ρ6 50 6)) (if (ρ6 50 6) = 0 then ck (inR (ρ6 50 3)) (if (ρ6 50 3) = 3 then some ρ6 else j47 l2 l3 ρ6) else j47 l2 l3 ρ6))))
def f_X1_takeGround (ρ : pm) : Option pm := bn2 (f_X6_nextNumber 0 2 ρ) (fun v1 ρ2 => if v1 = 0 then some ρ2 else jn (ρ2 50 5) (fun x4 => L_X1_takeGround_17 (fun (ρ : pm) => (f_X6_fail 4 ρ).bind (fun ρ19 => some ρ19)) (fun (ρ : pm) => (f_X6_fail 5 ρ).bind (fun ρ20 => some ρ20)) fu x4 0 ρ2))
set_option maxRecDepth 100000 in
theorem t_X1_takeGround_17 {d : Nat}    {o : pm} {rρ : pm} {K88 : pm → Option pm} {K108 : pm → Option pm} (hK88 : ∀ (ρ : pm), K88 ρ = some rρ → ci_T yX1_takeGround cX1_takeGround 4 none (d + 3) 88 ([(1, .ref 51)], [], pk true ρ o) (pV true rρ o)) (hK108 : ∀ (ρ : pm), K108 ρ = some rρ → ci_T yX1_takeGround cX1_takeGround 4 none (d + 3) 108 ([(1, .ref 51)], [], pk true ρ o) (pV true rρ o)) : ∀ (n : Nat) (l2 l3 : Int) (ρ : pm), L_X1_takeGround_17 K88 K108 n l2 l3 ρ = some rρ → ci_T yX1_takeGround cX1_takeGround 4 none (d + 3) 17 ([(0, .ref 53), (1, .ref 51), (2, .int (Int32.ofInt l2)), (3, .int (Int32.ofInt l3))], [], pk true ρ o) (pV true rρ o) := by
  intro n
  induction n with
  | zero =>
    intro l2 l3 ρ h
    rw [L_X1_takeGround_17] at h
    cases h
  | succ n ih =>
    intro l2 l3 ρ h
    rw [L_X1_takeGround_17] at h
    obtain ⟨h5, h⟩ := ck_some h
    refine ci_T.step cb_X1_takeGround_17 (ci_sq rfl (ci_sq (pe_push pc_8) (pe_ic_gt h5 pR_8))) ?_
    refine pbr h (fun hc h => ?_) (fun hc h => ?_)
    · cases h
      exact ci_T.done (v := none) cd_X1_takeGround_135 ⟨rfl, rfl⟩
    · refine ci_T.step cb_X1_takeGround_23 rfl ?_
      obtain ⟨ρ6, hv, h⟩ := bn_some h
      refine ci_T.call (as := [_]) (rest := []) kc_X6_next ki_X6_next (by decide) cl_X1_takeGround_24 rfl (Nat.le_of_ble_eq_true rfl) ⟨⟨_, rfl⟩, _, _, _, rfl, pk_obj tq_50 rfl _ _⟩ (s_X6_next (d + 1) o hv) ?_
      rintro _ _ ⟨rfl, rfl⟩
      clear hv
      refine ci_T.step cb_X1_takeGround_27 (ci_sq rfl (pe_if_le h5)) ?_
      obtain ⟨j47, hj, h⟩ := jn_ex h
      have J47 : ∀ (l2 l3 : Int) (ρ : pm), j47 l2 l3 ρ = some rρ → ci_T yX1_takeGround cX1_takeGround 4 none (d + 3) 47 ([(0, .ref 53), (1, .ref 51), (2, .int (Int32.ofInt l2)), (3, .int (Int32.ofInt l3))], [], pk true ρ o) (pV true rρ o) := by
        intro l2 l3 ρ h
        subst hj
        refine ci_T.step cb_X1_takeGround_47 (ci_sq rfl (ci_sq (pe_push pc_0) (pe_push pc_24))) ?_
        obtain ⟨v7, ρ8, hv, h⟩ := bn2_some h
        refine ci_T.call (as := [_, _, _]) (rest := []) kc_X6_isNumber ki_X6_isNumber (by decide) cl_X1_takeGround_51 rfl (Nat.le_of_ble_eq_true rfl) ⟨⟨_, rfl⟩, _, _, _, rfl, pk_obj tq_50 rfl _ _⟩ (s_X6_isNumber (d + 1) o hv) ?_
        rintro _ _ ⟨⟨rfl, rfl⟩, hz9⟩
        clear hv
        refine ci_T.step cb_X1_takeGround_54 (pe_if_ne (Z_R hz9)) ?_
        refine pbrn h (fun hc h => ?_) (fun hc h => ?_)
        · refine ci_T.step cb_X1_takeGround_58 (ci_sq rfl (ci_sq (pe_getR tq_52 rfl rfl) (ci_sq (pe_push pc_0) (ci_sq (pe_ald (nI := 3) tq_55 rfl rfl ⟨by decide, by decide⟩) (ci_sq rfl (ci_sq (pe_getR tq_52 rfl rfl) (ci_sq (pe_push pc_1) (ci_sq (pe_ald (nI := 3) tq_55 rfl rfl ⟨by decide, by decide⟩) (ci_sq pe_ior (ci_sq rfl (ci_sq (pe_getR tq_52 rfl rfl) (ci_sq (pe_push pc_2) (ci_sq (pe_ald (nI := 3) tq_55 rfl rfl ⟨by decide, by decide⟩) (ci_sq pe_ior (ci_sq rfl (pe_getI (kI := 5) tq_50 rfl rfl rfl)))))))))))))))) ?_
          obtain ⟨v10, hv, h⟩ := bn_some h
          refine ci_T.call (as := [_, _]) (rest := []) kc_X8_has ki_X8_has (by decide) cl_X1_takeGround_82 rfl (Nat.le_of_ble_eq_true rfl) trivial (s_X8_has (d + 2) o hv) ?_
          rintro _ _ ⟨⟨rfl, rfl⟩, hz11⟩
          clear hv
          refine ci_T.step cb_X1_takeGround_85 (pe_if_eq (Z_R hz11)) ?_
          refine pbr h (fun hc h => ?_) (fun hc h => ?_)
          · obtain ⟨h12, h⟩ := ck_some h
            refine ci_T.step cb_X1_takeGround_94 (ci_sq rfl (ci_sq (pe_getR tq_52 rfl rfl) (ci_sq rfl (pe_ald (nI := 3) tq_55 rfl rfl h12)))) ?_
            obtain ⟨v13, hv, h⟩ := bn_some h
            refine ci_T.call (as := [_]) (rest := []) kc_J6_bitCount_0f7a4 ki_J6_bitCount_0f7a4 (by decide) cl_X1_takeGround_100 rfl (Nat.le_of_ble_eq_true rfl) trivial (s_J6_bitCount (d + 2) o hv) ?_
            rintro _ _ ⟨rfl, rfl⟩
            clear hv
            obtain ⟨h14, h⟩ := ck_some h
            refine ci_T.step cb_X1_takeGround_103 (ci_sq (pe_push pc_8) (pe_ic_lt h14 pR_8)) ?_
            refine pbr h (fun hc h => ?_) (fun hc h => ?_)
            · replace h := jn_some h
              replace h := jn_some h
              refine ci_T.step cb_X1_takeGround_114 (ci_sq rfl (ci_sq (pe_getR tq_52 rfl rfl) (ci_sq rfl (ci_sq rfl (ci_sq (pe_ald (nI := 3) tq_55 rfl rfl h12) (ci_sq (pe_push pc_1) (ci_sq rfl (ci_sq (pe_getI (kI := 5) tq_50 rfl rfl rfl) (ci_sq pe_ishl (ci_sq pe_ior (ci_sq (pe_ast (nI := 3) tq_55 rfl rfl h12 rfl) (ci_sq (pe_inc rfl) rfl)))))))))))) ?_
              exact ci_T.sub [1, 2, 3, 0] (ih _ _ _ h) rfl
            · exact ci_T.sub [1] (hK108 _ h) rfl
          · exact ci_T.sub [1] (hK88 _ h) rfl
        · cases h
          exact ci_T.done (v := none) cd_X1_takeGround_57 ⟨rfl, rfl⟩
      clear hj
      refine pbr h (fun hc h => ?_) (fun hc h => ?_)
      · exact ci_T.sub [0, 1, 2, 3] (J47 _ _ _ h) rfl
      · obtain ⟨h17, h⟩ := ck_some h
        refine ci_T.step cb_X1_takeGround_31 (ci_sq rfl (ci_sq (pe_getI (kI := 6) tq_50 rfl rfl rfl) (pe_if_ne h17))) ?_
        refine pbrn h (fun hc h => ?_) (fun hc h => ?_)
        · exact ci_T.sub [0, 1, 2, 3] (J47 _ _ _ h) rfl
        · obtain ⟨h18, h⟩ := ck_some h
          refine ci_T.step cb_X1_takeGround_38 (ci_sq rfl (ci_sq (pe_getI (kI := 3) tq_50 rfl rfl rfl) (ci_sq (pe_push pc_3) (pe_ic_ne h18 pR_3)))) ?_
          refine pbrn h (fun hc h => ?_) (fun hc h => ?_)
          · exact ci_T.sub [0, 1, 2, 3] (J47 _ _ _ h) rfl
          · cases h
            exact ci_T.done (v := none) cd_X1_takeGround_46 ⟨rfl, rfl⟩
set_option maxRecDepth 100000 in
theorem s_X1_takeGround (d : Nat)   {ρ : pm} (o : pm)  {rρ : pm} (h : f_X1_takeGround ρ = some rρ) : ci_Met (d + 3) (yX1_takeGround, cX1_takeGround, 4, none, [], 0, 0) [.ref 53, .ref 51] (pk true ρ o) (pV true rρ o) := by
  refine ci_met (by decide) (Nat.le_of_ble_eq_true rfl) ?_ ?_
  · rintro v w' ⟨rfl, rfl⟩
    trivial
  · change ci_T _ _ _ _ _ _ ([(0, .ref 53), (1, .ref 51)], [], pk true ρ o) _
    unfold f_X1_takeGround at h
    refine ci_T.step cb_X1_takeGround_0 (ci_sq rfl (ci_sq (pe_push pc_0) (pe_push pc_2))) ?_
    obtain ⟨v1, ρ2, hv, h⟩ := bn2_some h
    refine ci_T.call (as := [_, _, _]) (rest := []) kc_X6_nextNumber ki_X6_nextNumber (by decide) cl_X1_takeGround_3 rfl (Nat.le_of_ble_eq_true rfl) ⟨⟨_, rfl⟩, _, _, _, rfl, pk_obj tq_50 rfl _ _⟩ (s_X6_nextNumber d o hv) ?_
    rintro _ _ ⟨⟨rfl, rfl⟩, hz3⟩
    clear hv
    refine ci_T.step cb_X1_takeGround_6 (pe_if_ne (Z_R hz3)) ?_
    refine pbrn h (fun hc h => ?_) (fun hc h => ?_)
    · replace h := jn_some h
      refine ci_T.step cb_X1_takeGround_10 (ci_sq rfl (ci_sq (pe_getI (kI := 5) tq_50 rfl rfl rfl) (ci_sq rfl (ci_sq (pe_push pc_0) rfl)))) ?_
      refine ci_T.sub [2, 3, 1, 0] (t_X1_takeGround_17 ?_ ?_ fu _ _ _ h) rfl
      · intro ρ h
        refine ci_T.step cb_X1_takeGround_88 (ci_sq rfl (pe_push pc_4)) ?_
        obtain ⟨ρ19, hv, h⟩ := bn_some h
        refine ci_T.call (as := [_, _]) (rest := []) kc_X6_fail ki_X6_fail (by decide) cl_X1_takeGround_90 rfl (Nat.le_of_ble_eq_true rfl) ⟨⟨_, rfl⟩, _, _, _, rfl, pk_obj tq_50 rfl _ _⟩ (s_X6_fail (d + 2) o hv) ?_
        rintro _ _ ⟨rfl, rfl⟩
        clear hv
        cases h
        exact ci_T.done (v := none) cd_X1_takeGround_93 ⟨rfl, rfl⟩
      · intro ρ h
        refine ci_T.step cb_X1_takeGround_108 (ci_sq rfl (pe_push pc_5)) ?_
        obtain ⟨ρ20, hv, h⟩ := bn_some h
        refine ci_T.call (as := [_, _]) (rest := []) kc_X6_fail ki_X6_fail (by decide) cl_X1_takeGround_110 rfl (Nat.le_of_ble_eq_true rfl) ⟨⟨_, rfl⟩, _, _, _, rfl, pk_obj tq_50 rfl _ _⟩ (s_X6_fail (d + 2) o hv) ?_
        rintro _ _ ⟨rfl, rfl⟩
        clear hv
        cases h
        exact ci_T.done (v := none) cd_X1_takeGround_113 ⟨rfl, rfl⟩
    · cases h
      exact ci_T.done (v := none) cd_X1_takeGround_9 ⟨rfl, rfl⟩
/-- X1_takeLaw -/
def f_X1_takeLaw (ρ : pm) : Option pm := bn2 (f_X1_comesOnce 4 ρ) (fun v1 ρ2 => if v1 = 0 then some ρ2 else bn2 (f_X6_nextNumber 0 2 ρ2) (fun v4 ρ5 => if v4 = 0 then some ρ5 else jn (pup ρ5 52 7 (ρ5 50 5)) (fun ρ7 => (f_X6_nextStop ρ7).bind (fun ρ8 => some ρ8))))
set_option maxRecDepth 100000 in
theorem s_X1_takeLaw (d : Nat)   {ρ : pm} (o : pm)  {rρ : pm} (h : f_X1_takeLaw ρ = some rρ) : ci_Met (d + 3) (yX1_takeLaw, cX1_takeLaw, 2, none, [], 0, 0) [.ref 53, .ref 51] (pk true ρ o) (pV true rρ o) := by
  refine ci_met (by decide) (Nat.le_of_ble_eq_true rfl) ?_ ?_
  · rintro v w' ⟨rfl, rfl⟩
    trivial
  · change ci_T _ _ _ _ _ _ ([(0, .ref 53), (1, .ref 51)], [], pk true ρ o) _
    unfold f_X1_takeLaw at h
    refine ci_T.step cb_X1_takeLaw_0 (ci_sq rfl (ci_sq rfl (pe_push pc_4))) ?_
    obtain ⟨v1, ρ2, hv, h⟩ := bn2_some h
    refine ci_T.call (as := [_, _, _]) (rest := []) kc_X1_comesOnce ki_X1_comesOnce (by decide) cl_X1_takeLaw_3 rfl (Nat.le_of_ble_eq_true rfl) ⟨⟨_, rfl⟩, _, _, _, rfl, pk_obj tq_52 rfl _ _⟩ (s_X1_comesOnce (d + 1) o hv) ?_
    rintro _ _ ⟨⟨rfl, rfl⟩, hz3⟩
    clear hv
    refine ci_T.step cb_X1_takeLaw_6 (pe_if_eq (Z_R hz3)) ?_
    refine pbr h (fun hc h => ?_) (fun hc h => ?_)
    · cases h
      exact ci_T.done (v := none) cd_X1_takeLaw_30 ⟨rfl, rfl⟩
    · refine ci_T.step cb_X1_takeLaw_9 (ci_sq rfl (ci_sq (pe_push pc_0) (pe_push pc_2))) ?_
      obtain ⟨v4, ρ5, hv, h⟩ := bn2_some h
      refine ci_T.call (as := [_, _, _]) (rest := []) kc_X6_nextNumber ki_X6_nextNumber (by decide) cl_X1_takeLaw_12 rfl (Nat.le_of_ble_eq_true rfl) ⟨⟨_, rfl⟩, _, _, _, rfl, pk_obj tq_50 rfl _ _⟩ (s_X6_nextNumber d o hv) ?_
      rintro _ _ ⟨⟨rfl, rfl⟩, hz6⟩
      clear hv
      refine ci_T.step cb_X1_takeLaw_15 (pe_if_eq (Z_R hz6)) ?_
      refine pbr h (fun hc h => ?_) (fun hc h => ?_)
      · cases h
        exact ci_T.done (v := none) cd_X1_takeLaw_30 ⟨rfl, rfl⟩
      · replace h := jn_some h
        refine ci_T.step cb_X1_takeLaw_18 (ci_sq rfl (ci_sq rfl (ci_sq (pe_getI (kI := 5) tq_50 rfl rfl rfl) (ci_sq (pe_putI (kI := 7) tq_52 rfl rfl rfl) rfl)))) ?_
        obtain ⟨ρ8, hv, h⟩ := bn_some h
        refine ci_T.call (as := [_]) (rest := []) kc_X6_nextStop ki_X6_nextStop (by decide) cl_X1_takeLaw_27 rfl (Nat.le_of_ble_eq_true rfl) ⟨⟨_, rfl⟩, _, _, _, rfl, pk_obj tq_50 rfl _ _⟩ (s_X6_nextStop d o hv) ?_
        rintro _ _ ⟨rfl, rfl⟩
        clear hv
        cases h
        exact ci_T.done (v := none) cd_X1_takeLaw_30 ⟨rfl, rfl⟩
/-- X1_takeSilt -/
def f_X1_takeSilt (ρ : pm) : Option pm := bn2 (f_X1_comesOnce 8 ρ) (fun v1 ρ2 => if v1 = 0 then some ρ2 else (f_X6_nextStop ρ2).bind (fun ρ4 => some ρ4))
set_option maxRecDepth 100000 in
theorem s_X1_takeSilt (d : Nat)   {ρ : pm} (o : pm)  {rρ : pm} (h : f_X1_takeSilt ρ = some rρ) : ci_Met (d + 3) (yX1_takeSilt, cX1_takeSilt, 2, none, [], 0, 0) [.ref 53, .ref 51] (pk true ρ o) (pV true rρ o) := by
  refine ci_met (by decide) (Nat.le_of_ble_eq_true rfl) ?_ ?_
  · rintro v w' ⟨rfl, rfl⟩
    trivial
  · change ci_T _ _ _ _ _ _ ([(0, .ref 53), (1, .ref 51)], [], pk true ρ o) _
    unfold f_X1_takeSilt at h
    refine ci_T.step cb_X1_takeSilt_0 (ci_sq rfl (ci_sq rfl (pe_push pc_8))) ?_
    obtain ⟨v1, ρ2, hv, h⟩ := bn2_some h
    refine ci_T.call (as := [_, _, _]) (rest := []) kc_X1_comesOnce ki_X1_comesOnce (by decide) cl_X1_takeSilt_4 rfl (Nat.le_of_ble_eq_true rfl) ⟨⟨_, rfl⟩, _, _, _, rfl, pk_obj tq_52 rfl _ _⟩ (s_X1_comesOnce (d + 1) o hv) ?_
    rintro _ _ ⟨⟨rfl, rfl⟩, hz3⟩
    clear hv
    refine ci_T.step cb_X1_takeSilt_7 (pe_if_eq (Z_R hz3)) ?_
    refine pbr h (fun hc h => ?_) (fun hc h => ?_)
    · cases h
      exact ci_T.done (v := none) cd_X1_takeSilt_14 ⟨rfl, rfl⟩
    · refine ci_T.step cb_X1_takeSilt_10 rfl ?_
      obtain ⟨ρ4, hv, h⟩ := bn_some h
      refine ci_T.call (as := [_]) (rest := []) kc_X6_nextStop ki_X6_nextStop (by decide) cl_X1_takeSilt_11 rfl (Nat.le_of_ble_eq_true rfl) ⟨⟨_, rfl⟩, _, _, _, rfl, pk_obj tq_50 rfl _ _⟩ (s_X6_nextStop d o hv) ?_
      rintro _ _ ⟨rfl, rfl⟩
      clear hv
      cases h
      exact ci_T.done (v := none) cd_X1_takeSilt_14 ⟨rfl, rfl⟩
