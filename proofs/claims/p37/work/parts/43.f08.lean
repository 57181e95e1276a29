/-- X9_rests -/
def L_X9_rests_24 (K78 : Int → Int → Int → pm → Option (Int × pm)) : Nat → Int → Int → Int → Int → pm → Option (Int × pm)
  | 0, _, _, _, _, _ => none
  | n + 1, l1, l2, l3, l4, ρ => (f_X9_allOptions ρ).bind (fun v5 => ck (inR l4) (ck (inR v5) (if v5 ≤ l4 then K78 l1 l2 l3 ρ else (f_X9_yearAt l4 ρ).bind (fun v8 => bn2 (f_X9_breaksOf v8 ρ) (fun v9 ρ10 => ck (inR v9) (jn (fun (l1 l2 l3 l4 : Int) (ρ : pm) => jn (l4 + 1) (fun x12 => L_X9_rests_24 K78 n l1 l2 l3 x12 ρ)) (fun j72 => if v9 = 0 then ck (inR l3) (jn (fun (l1 l2 l4 s0 : Int) (ρ : pm) => jn (l2 + 1) (fun x14 => j72 l1 x14 s0 l4 ρ)) (fun j68 => jn (fun (l1 l2 l4 l5 : Int) (ρ : pm) => j68 l1 l2 l4 l5 ρ) (fun j62 => if l3 = (-4) then j62 l1 l2 l4 v8 ρ10 else ck (inR v8) (if l3 ≤ v8 then j68 l1 l2 l4 l3 ρ10 else j62 l1 l2 l4 v8 ρ10)))) else j72 l1 l2 l3 l4 ρ10)))))))
def f_X9_rests (l1 : Int) (ρ : pm) : Option (Int × pm) := ck (inR l1) ((f_X9_in l1 0 1).bind (fun v2 => if v2 = 0 then some ((-1), ρ) else (f_X9_findOptions ρ).bind (fun ρ4 => L_X9_rests_24 (fun (l1 l2 l3 : Int) (ρ : pm) => ck (inR l1) (if l1 = 0 then some (l2, ρ) else some (l3, ρ))) fu l1 0 (-4) 0 ρ4)))
set_option maxRecDepth 100000 in
theorem t_X9_rests_24 {d : Nat}    {o : pm} {rv : Int} {rρ : pm} {K78 : Int → Int → Int → pm → Option (Int × pm)} (hK78 : ∀ (l1 l2 l3 : Int) (ρ : pm), K78 l1 l2 l3 ρ = some (rv, rρ) → ci_T yX9_rests cX9_rests 6 (some .int) (d + 7) 78 ([(1, .int (Int32.ofInt l1)), (2, .int (Int32.ofInt l2)), (3, .int (Int32.ofInt l3))], [], pk false ρ o) (pP false rv rρ o)) : ∀ (n : Nat) (l1 l2 l3 l4 : Int) (ρ : pm), L_X9_rests_24 K78 n l1 l2 l3 l4 ρ = some (rv, rρ) → ci_T yX9_rests cX9_rests 6 (some .int) (d + 7) 24 ([(0, .ref 63), (1, .int (Int32.ofInt l1)), (2, .int (Int32.ofInt l2)), (3, .int (Int32.ofInt l3)), (4, .int (Int32.ofInt l4))], [], pk false ρ o) (pP false rv rρ o) := by
  intro n
  induction n with
  | zero =>
    intro l1 l2 l3 l4 ρ h
    rw [L_X9_rests_24] at h
    cases h
  | succ n ih =>
    intro l1 l2 l3 l4 ρ h
    rw [L_X9_rests_24] at h
    refine ci_T.step cb_X9_rests_24 (ci_sq rfl rfl) ?_
    obtain ⟨v5, hv, h⟩ := bn_some h
    refine ci_T.call (as := [_]) (rest := [_]) kc_X9_allOptions ki_X9_allOptions (by decide) cl_X9_rests_27 rfl (Nat.le_of_ble_eq_true rfl) ⟨⟨_, rfl⟩, _, _, _, rfl, pk_obj tq_62 rfl _ _⟩ (s_X9_allOptions (d + 6) o hv) ?_
    rintro _ _ ⟨rfl, rfl⟩
    clear hv
    obtain ⟨h6, h⟩ := ck_some h
    obtain ⟨h7, h⟩ := ck_some h
    refine ci_T.step cb_X9_rests_30 (pe_ic_ge h6 h7) ?_
    refine pbr h (fun hc h => ?_) (fun hc h => ?_)
    · exact ci_T.sub [1, 2, 3] (hK78 _ _ _ _ h) rfl
    · refine ci_T.step cb_X9_rests_33 (ci_sq rfl rfl) ?_
      obtain ⟨v8, hv, h⟩ := bn_some h
      refine ci_T.call (as := [_, _]) (rest := []) kc_X9_yearAt ki_X9_yearAt (by decide) cl_X9_rests_36 rfl (Nat.le_of_ble_eq_true rfl) ⟨⟨_, rfl⟩, _, _, _, rfl, pk_obj tq_62 rfl _ _⟩ (s_X9_yearAt (d + 5) o hv) ?_
      rintro _ _ ⟨rfl, rfl⟩
      clear hv
      refine ci_T.step cb_X9_rests_39 (ci_sq rfl (ci_sq rfl rfl)) ?_
      obtain ⟨v9, ρ10, hv, h⟩ := bn2_some h
      refine ci_T.call (as := [_, _]) (rest := []) kc_X9_breaksOf ki_X9_breaksOf (by decide) cl_X9_rests_44 rfl (Nat.le_of_ble_eq_true rfl) ⟨⟨_, rfl⟩, _, _, _, rfl, pk_obj tq_62 rfl _ _⟩ (s_X9_breaksOf d o hv) ?_
      rintro _ _ ⟨rfl, rfl⟩
      clear hv
      obtain ⟨h11, h⟩ := ck_some h
      refine ci_T.step cb_X9_rests_47 (pe_if_ne h11) ?_
      obtain ⟨j72, hj, h⟩ := jn_ex h
      have J72 : ∀ (l1 l2 l3 l4 : Int) (ρ : pm), j72 l1 l2 l3 l4 ρ = some (rv, rρ) → ci_T yX9_rests cX9_rests 6 (some .int) (d + 7) 72 ([(0, .ref 63), (1, .int (Int32.ofInt l1)), (2, .int (Int32.ofInt l2)), (3, .int (Int32.ofInt l3)), (4, .int (Int32.ofInt l4))], [], pk false ρ o) (pP false rv rρ o) := by
        intro l1 l2 l3 l4 ρ h
        subst hj
        replace h := jn_some h
        refine ci_T.step cb_X9_rests_72 (ci_sq (pe_inc rfl) rfl) ?_
        exact ci_T.sub [1, 2, 3, 4, 0] (ih _ _ _ _ _ h) rfl
      clear hj
      refine pbrn h (fun hc h => ?_) (fun hc h => ?_)
      · exact ci_T.sub [1, 2, 3, 4, 5] (J72 _ _ _ _ _ h) rfl
      · obtain ⟨h13, h⟩ := ck_some h
        refine ci_T.step cb_X9_rests_50 (ci_sq rfl (ci_sq (pe_push pc_m4) (pe_ic_eq h13 pR_m4))) ?_
        obtain ⟨j68, hj, h⟩ := jn_ex h
        have J68 : ∀ (l1 l2 l4 s0 : Int) (ρ : pm), j68 l1 l2 l4 s0 ρ = some (rv, rρ) → ci_T yX9_rests cX9_rests 6 (some .int) (d + 7) 68 ([(0, .ref 63), (1, .int (Int32.ofInt l1)), (2, .int (Int32.ofInt l2)), (4, .int (Int32.ofInt l4))], [.int (Int32.ofInt s0)], pk false ρ o) (pP false rv rρ o) := by
          intro l1 l2 l4 s0 ρ h
          subst hj
          replace h := jn_some h
          refine ci_T.step cb_X9_rests_68 (ci_sq rfl (pe_inc rfl)) ?_
          exact ci_T.sub [2, 3, 0, 1, 4] (J72 _ _ _ _ _ h) rfl
        clear hj
        obtain ⟨j62, hj, h⟩ := jn_ex h
        have J62 : ∀ (l1 l2 l4 l5 : Int) (ρ : pm), j62 l1 l2 l4 l5 ρ = some (rv, rρ) → ci_T yX9_rests cX9_rests 6 (some .int) (d + 7) 62 ([(0, .ref 63), (1, .int (Int32.ofInt l1)), (2, .int (Int32.ofInt l2)), (4, .int (Int32.ofInt l4)), (5, .int (Int32.ofInt l5))], [], pk false ρ o) (pP false rv rρ o) := by
          intro l1 l2 l4 l5 ρ h
          subst hj
          refine ci_T.step cb_X9_rests_62 (ci_sq rfl rfl) ?_
          exact ci_T.sub [0, 1, 2, 3] (J68 _ _ _ _ _ h) rfl
        clear hj
        refine pbr h (fun hc h => ?_) (fun hc h => ?_)
        · exact ci_T.sub [1, 2, 3, 5, 0] (J62 _ _ _ _ _ h) rfl
        · obtain ⟨h15, h⟩ := ck_some h
          refine ci_T.step cb_X9_rests_56 (ci_sq rfl (ci_sq rfl (pe_ic_ge h15 h13))) ?_
          refine pbr h (fun hc h => ?_) (fun hc h => ?_)
          · refine ci_T.step cb_X9_rests_67 rfl ?_
            exact ci_T.sub [1, 2, 3, 5] (J68 _ _ _ _ _ h) rfl
          · exact ci_T.sub [1, 2, 3, 5, 0] (J62 _ _ _ _ _ h) rfl
set_option maxRecDepth 100000 in
theorem s_X9_rests (d : Nat)   {ρ : pm} (o : pm) {l1 : Int} {rv : Int} {rρ : pm} (h : f_X9_rests l1 ρ = some (rv, rρ)) : ci_Met (d + 7) (yX9_rests, cX9_rests, 6, (some .int), [], 0, 0) [.ref 63, .int (Int32.ofInt l1)] (pk false ρ o) (pP false rv rρ o) := by
  refine ci_met (by decide) (Nat.le_of_ble_eq_true rfl) ?_ ?_
  · rintro v w' ⟨rfl, rfl⟩
    trivial
  · change ci_T _ _ _ _ _ _ ([(0, .ref 63), (1, .int (Int32.ofInt l1))], [], pk false ρ o) _
    unfold f_X9_rests at h
    obtain ⟨h1, h⟩ := ck_some h
    refine ci_T.step cb_X9_rests_0 (ci_sq rfl (ci_sq (pe_i2l h1) (ci_sq (pe_pushl pcl_0) (pe_pushl pcl_1)))) ?_
    obtain ⟨v2, hv, h⟩ := bn_some h
    refine ci_T.call (as := [_, _, _]) (rest := []) kc_X9_in ki_X9_in (by decide) cl_X9_rests_4 rfl (Nat.le_of_ble_eq_true rfl) trivial (s_X9_in (d + 6) o hv) ?_
    rintro _ _ ⟨⟨rfl, rfl⟩, hz3⟩
    clear hv
    refine ci_T.step cb_X9_rests_7 (pe_if_ne (Z_R hz3)) ?_
    refine pbrn h (fun hc h => ?_) (fun hc h => ?_)
    · refine ci_T.step cb_X9_rests_12 rfl ?_
      obtain ⟨ρ4, hv, h⟩ := bn_some h
      refine ci_T.call (as := [_]) (rest := []) kc_X9_findOptions ki_X9_findOptions (by decide) cl_X9_rests_13 rfl (Nat.le_of_ble_eq_true rfl) ⟨⟨_, rfl⟩, _, _, _, rfl, pk_obj tq_62 rfl _ _⟩ (s_X9_findOptions (d + 1) o hv) ?_
      rintro _ _ ⟨rfl, rfl⟩
      clear hv
      refine ci_T.step cb_X9_rests_16 (ci_sq (pe_push pc_0) (ci_sq rfl (ci_sq (pe_push pc_m4) (ci_sq rfl (ci_sq (pe_push pc_0) rfl))))) ?_
      refine ci_T.sub [3, 4, 2, 1, 0] (t_X9_rests_24 ?_ fu _ _ _ _ _ h) rfl
      · intro l1 l2 l3 ρ h
        obtain ⟨h16, h⟩ := ck_some h
        refine ci_T.step cb_X9_rests_78 (ci_sq rfl (pe_if_ne h16)) ?_
        refine pbrn h (fun hc h => ?_) (fun hc h => ?_)
        · refine ci_T.step cb_X9_rests_86 rfl ?_
          cases h
          exact ci_T.done (v := some (.int _)) cd_X9_rests_87 ⟨rfl, rfl⟩
        · refine ci_T.step cb_X9_rests_82 (ci_sq rfl rfl) ?_
          cases h
          exact ci_T.done (v := some (.int _)) cd_X9_rests_87 ⟨rfl, rfl⟩
    · refine ci_T.step cb_X9_rests_10 (pe_push pc_m1) ?_
      cases h
      exact ci_T.done (v := some (.int _)) cd_X9_rests_11 ⟨rfl, rfl⟩
/-- X9_breaks -/
def f_X9_breaks (l1 : Int) (ρ : pm) : Option (Int × pm) := (f_X9_isYear l1).bind (fun v1 => if v1 = 0 then some ((-1), ρ) else bn2 (f_X9_canBe l1 ρ) (fun v3 ρ4 => if v3 = 0 then some ((-2), ρ4) else (f_X9_findOptions ρ4).bind (fun ρ6 => bn2 (f_X9_breaksOf l1 ρ6) (fun v7 ρ8 => some (v7, ρ8)))))
set_option maxRecDepth 100000 in
theorem s_X9_breaks (d : Nat)   {ρ : pm} (o : pm) {l1 : Int} {rv : Int} {rρ : pm} (h : f_X9_breaks l1 ρ = some (rv, rρ)) : ci_Met (d + 7) (yX9_breaks, cX9_breaks, 2, (some .int), [], 0, 0) [.ref 63, .int (Int32.ofInt l1)] (pk false ρ o) (pP false rv rρ o) := by
  refine ci_met (by decide) (Nat.le_of_ble_eq_true rfl) ?_ ?_
  · rintro v w' ⟨rfl, rfl⟩
    trivial
  · change ci_T _ _ _ _ _ _ ([(0, .ref 63), (1, .int (Int32.ofInt l1))], [], pk false ρ o) _
    unfold f_X9_breaks at h
    refine ci_T.step cb_X9_breaks_0 rfl ?_
    obtain ⟨v1, hv, h⟩ := bn_some h
    refine ci_T.call (as := [_]) (rest := []) kc_X9_isYear ki_X9_isYear (by decide) cl_X9_breaks_1 rfl (Nat.le_of_ble_eq_true rfl) trivial (s_X9_isYear (d + 5) o hv) ?_
    rintro _ _ ⟨⟨rfl, rfl⟩, hz2⟩
    clear hv
    refine ci_T.step cb_X9_breaks_4 (pe_if_ne (Z_R hz2)) ?_
    refine pbrn h (fun hc h => ?_) (fun hc h => ?_)
    · refine ci_T.step cb_X9_breaks_9 (ci_sq rfl rfl) ?_
      obtain ⟨v3, ρ4, hv, h⟩ := bn2_some h
      refine ci_T.call (as := [_, _]) (rest := []) kc_X9_canBe ki_X9_canBe (by decide) cl_X9_breaks_11 rfl (Nat.le_of_ble_eq_true rfl) ⟨⟨_, rfl⟩, _, _, _, rfl, pk_obj tq_62 rfl _ _⟩ (s_X9_canBe d o hv) ?_
      rintro _ _ ⟨⟨rfl, rfl⟩, hz5⟩
      clear hv
      refine ci_T.step cb_X9_breaks_14 (pe_if_ne (Z_R hz5)) ?_
      refine pbrn h (fun hc h => ?_) (fun hc h => ?_)
      · refine ci_T.step cb_X9_breaks_20 rfl ?_
        obtain ⟨ρ6, hv, h⟩ := bn_some h
        refine ci_T.call (as := [_]) (rest := []) kc_X9_findOptions ki_X9_findOptions (by decide) cl_X9_breaks_21 rfl (Nat.le_of_ble_eq_true rfl) ⟨⟨_, rfl⟩, _, _, _, rfl, pk_obj tq_62 rfl _ _⟩ (s_X9_findOptions (d + 1) o hv) ?_
        rintro _ _ ⟨rfl, rfl⟩
        clear hv
        refine ci_T.step cb_X9_breaks_24 (ci_sq rfl rfl) ?_
        obtain ⟨v7, ρ8, hv, h⟩ := bn2_some h
        refine ci_T.call (as := [_, _]) (rest := []) kc_X9_breaksOf ki_X9_breaksOf (by decide) cl_X9_breaks_26 rfl (Nat.le_of_ble_eq_true rfl) ⟨⟨_, rfl⟩, _, _, _, rfl, pk_obj tq_62 rfl _ _⟩ (s_X9_breaksOf d o hv) ?_
        rintro _ _ ⟨rfl, rfl⟩
        clear hv
        cases h
        exact ci_T.done (v := some (.int _)) cd_X9_breaks_29 ⟨rfl, rfl⟩
      · refine ci_T.step cb_X9_breaks_17 (pe_push pc_m2) ?_
        cases h
        exact ci_T.done (v := some (.int _)) cd_X9_breaks_19 ⟨rfl, rfl⟩
    · refine ci_T.step cb_X9_breaks_7 (pe_push pc_m1) ?_
      cases h
      exact ci_T.done (v := some (.int _)) cd_X9_breaks_8 ⟨rfl, rfl⟩
/-- X9_stands -/
def L_X9_stands_32 (K74 : Int → pm → Option (Int × pm)) : Nat → Int → Int → Int → pm → Option (Int × pm)
  | 0, _, _, _, _ => none
  | n + 1, l1, l2, l3, ρ => ck (inR l3) (if l3 = 0 then K74 l2 ρ else ck (inR l2) (if 20 ≤ l2 then K74 l2 ρ else (f_X9_silts ρ).bind (fun ρ8 => bn2 (f_X9_bedNow ρ8) (fun v9 ρ10 => jn (fun (l1 l2 s0 : Int) (ρ : pm) => (f_X9_flag s0).bind (fun v11 => jn (l2 + v11) (fun x12 => L_X9_stands_32 K74 n l1 x12 s0 ρ))) (fun j63 => if (band (bshr v9 l1) 1) = 1 then j63 l1 l2 1 ρ10 else j63 l1 l2 0 ρ10)))))
def f_X9_stands (l1 : Int) (ρ : pm) : Option (Int × pm) := (f_X9_isCell l1 ρ).bind (fun v1 => if v1 = 0 then some ((-1), ρ) else bn2 (f_X9_bedNow ρ) (fun v3 ρ4 => if (band (bshr v3 l1) 1) = 0 then some ((-2), ρ4) else (f_X9_marks ρ4).bind (fun ρ5 => L_X9_stands_32 (fun (l2 : Int) (ρ : pm) => (f_X9_returns ρ).bind (fun ρ13 => some (l2, ρ13))) fu l1 0 1 ρ5)))
set_option maxRecDepth 100000 in
theorem t_X9_stands_32 {d : Nat}    {o : pm} {rv : Int} {rρ : pm} {K74 : Int → pm → Option (Int × pm)} (hK74 : ∀ (l2 : Int) (ρ : pm), K74 l2 ρ = some (rv, rρ) → ci_T yX9_stands cX9_stands 4 (some .int) (d + 4) 74 ([(0, .ref 63), (2, .int (Int32.ofInt l2))], [], pk false ρ o) (pP false rv rρ o)) : ∀ (n : Nat) (l1 l2 l3 : Int) (ρ : pm), L_X9_stands_32 K74 n l1 l2 l3 ρ = some (rv, rρ) → ci_T yX9_stands cX9_stands 4 (some .int) (d + 4) 32 ([(0, .ref 63), (1, .int (Int32.ofInt l1)), (2, .int (Int32.ofInt l2)), (3, .int (Int32.ofInt l3))], [], pk false ρ o) (pP false rv rρ o) := by
  intro n
  induction n with
  | zero =>
    intro l1 l2 l3 ρ h
    rw [L_X9_stands_32] at h
    cases h
  | succ n ih =>
    intro l1 l2 l3 ρ h
    rw [L_X9_stands_32] at h
    obtain ⟨h6, h⟩ := ck_some h
    refine ci_T.step cb_X9_stands_32 (ci_sq rfl (pe_if_eq h6)) ?_
    refine pbr h (fun hc h => ?_) (fun hc h => ?_)
    · exact ci_T.sub [0, 2] (hK74 _ _ h) rfl
    · obtain ⟨h7, h⟩ := ck_some h
      refine ci_T.step cb_X9_stands_36 (ci_sq rfl (ci_sq (pe_push pc_20) (pe_ic_ge h7 pR_20))) ?_
      refine pbr h (fun hc h => ?_) (fun hc h => ?_)
      · exact ci_T.sub [0, 2] (hK74 _ _ h) rfl
      · refine ci_T.step cb_X9_stands_42 rfl ?_
        obtain ⟨ρ8, hv, h⟩ := bn_some h
        refine ci_T.call (as := [_]) (rest := []) kc_X9_silts ki_X9_silts (by decide) cl_X9_stands_43 rfl (Nat.le_of_ble_eq_true rfl) ⟨⟨_, rfl⟩, _, _, _, rfl, pk_obj tq_62 rfl _ _⟩ (s_X9_silts d o hv) ?_
        rintro _ _ ⟨rfl, rfl⟩
        clear hv
        refine ci_T.step cb_X9_stands_46 rfl ?_
        obtain ⟨v9, ρ10, hv, h⟩ := bn2_some h
        refine ci_T.call (as := [_]) (rest := []) kc_X9_bedNow ki_X9_bedNow (by decide) cl_X9_stands_47 rfl (Nat.le_of_ble_eq_true rfl) ⟨⟨_, rfl⟩, _, _, _, rfl, pk_obj tq_62 rfl _ _⟩ (s_X9_bedNow d o hv) ?_
        rintro _ _ ⟨rfl, rfl⟩
        clear hv
        refine ci_T.step cb_X9_stands_50 (ci_sq rfl (ci_sq pe_ishr (ci_sq (pe_push pc_1) (ci_sq pe_iand (ci_sq (pe_push pc_1) (pe_ic_ne (band_R _ _) pR_1)))))) ?_
        obtain ⟨j63, hj, h⟩ := jn_ex h
        have J63 : ∀ (l1 l2 s0 : Int) (ρ : pm), j63 l1 l2 s0 ρ = some (rv, rρ) → ci_T yX9_stands cX9_stands 4 (some .int) (d + 4) 63 ([(0, .ref 63), (1, .int (Int32.ofInt l1)), (2, .int (Int32.ofInt l2))], [.int (Int32.ofInt s0)], pk false ρ o) (pP false rv rρ o) := by
          intro l1 l2 s0 ρ h
          subst hj
          refine ci_T.step cb_X9_stands_63 (ci_sq rfl (ci_sq rfl rfl)) ?_
          obtain ⟨v11, hv, h⟩ := bn_some h
          refine ci_T.call (as := [_]) (rest := [_]) kc_X9_flag ki_X9_flag (by decide) cl_X9_stands_66 rfl (Nat.le_of_ble_eq_true rfl) trivial (s_X9_flag (d + 3) o hv) ?_
          rintro _ _ ⟨rfl, rfl⟩
          clear hv
          replace h := jn_some h
          refine ci_T.step cb_X9_stands_69 (ci_sq pe_iadd (ci_sq rfl rfl)) ?_
          exact ci_T.sub [2, 3, 0, 1] (ih _ _ _ _ h) rfl
        clear hj
        refine pbrn h (fun hc h => ?_) (fun hc h => ?_)
        · refine ci_T.step cb_X9_stands_62 (pe_push pc_0) ?_
          exact ci_T.sub [0, 1, 2] (J63 _ _ _ _ h) rfl
        · refine ci_T.step cb_X9_stands_58 (ci_sq (pe_push pc_1) rfl) ?_
          exact ci_T.sub [0, 1, 2] (J63 _ _ _ _ h) rfl
set_option maxRecDepth 100000 in
theorem s_X9_stands (d : Nat)   {ρ : pm} (o : pm) {l1 : Int} {rv : Int} {rρ : pm} (h : f_X9_stands l1 ρ = some (rv, rρ)) : ci_Met (d + 4) (yX9_stands, cX9_stands, 4, (some .int), [], 0, 0) [.ref 63, .int (Int32.ofInt l1)] (pk false ρ o) (pP false rv rρ o) := by
  refine ci_met (by decide) (Nat.le_of_ble_eq_true rfl) ?_ ?_
  · rintro v w' ⟨rfl, rfl⟩
    trivial
  · change ci_T _ _ _ _ _ _ ([(0, .ref 63), (1, .int (Int32.ofInt l1))], [], pk false ρ o) _
    unfold f_X9_stands at h
    refine ci_T.step cb_X9_stands_0 (ci_sq rfl rfl) ?_
    obtain ⟨v1, hv, h⟩ := bn_some h
    refine ci_T.call (as := [_, _]) (rest := []) kc_X9_isCell ki_X9_isCell (by decide) cl_X9_stands_2 rfl (Nat.le_of_ble_eq_true rfl) ⟨⟨_, rfl⟩, _, _, _, rfl, pk_obj tq_62 rfl _ _⟩ (s_X9_isCell (d + 2) o hv) ?_
    rintro _ _ ⟨⟨rfl, rfl⟩, hz2⟩
    clear hv
    refine ci_T.step cb_X9_stands_5 (pe_if_ne (Z_R hz2)) ?_
    refine pbrn h (fun hc h => ?_) (fun hc h => ?_)
    · refine ci_T.step cb_X9_stands_10 rfl ?_
      obtain ⟨v3, ρ4, hv, h⟩ := bn2_some h
      refine ci_T.call (as := [_]) (rest := []) kc_X9_bedNow ki_X9_bedNow (by decide) cl_X9_stands_11 rfl (Nat.le_of_ble_eq_true rfl) ⟨⟨_, rfl⟩, _, _, _, rfl, pk_obj tq_62 rfl _ _⟩ (s_X9_bedNow d o hv) ?_
      rintro _ _ ⟨rfl, rfl⟩
      clear hv
      refine ci_T.step cb_X9_stands_14 (ci_sq rfl (ci_sq pe_ishr (ci_sq (pe_push pc_1) (ci_sq pe_iand (pe_if_ne (band_R _ _)))))) ?_
      refine pbrn h (fun hc h => ?_) (fun hc h => ?_)
      · refine ci_T.step cb_X9_stands_24 rfl ?_
        obtain ⟨ρ5, hv, h⟩ := bn_some h
        refine ci_T.call (as := [_]) (rest := []) kc_X9_marks ki_X9_marks (by decide) cl_X9_stands_25 rfl (Nat.le_of_ble_eq_true rfl) ⟨⟨_, rfl⟩, _, _, _, rfl, pk_obj tq_62 rfl _ _⟩ (s_X9_marks (d + 3) o hv) ?_
        rintro _ _ ⟨rfl, rfl⟩
        clear hv
        refine ci_T.step cb_X9_stands_28 (ci_sq (pe_push pc_0) (ci_sq rfl (ci_sq (pe_push pc_1) rfl))) ?_
        refine ci_T.sub [2, 3, 1, 0] (t_X9_stands_32 ?_ fu _ _ _ _ h) rfl
        · intro l2 ρ h
          refine ci_T.step cb_X9_stands_74 rfl ?_
          obtain ⟨ρ13, hv, h⟩ := bn_some h
          refine ci_T.call (as := [_]) (rest := []) kc_X9_returns ki_X9_returns (by decide) cl_X9_stands_75 rfl (Nat.le_of_ble_eq_true rfl) ⟨⟨_, rfl⟩, _, _, _, rfl, pk_obj tq_62 rfl _ _⟩ (s_X9_returns (d + 3) o hv) ?_
          rintro _ _ ⟨rfl, rfl⟩
          clear hv
          refine ci_T.step cb_X9_stands_78 rfl ?_
          cases h
          exact ci_T.done (v := some (.int _)) cd_X9_stands_79 ⟨rfl, rfl⟩
      · refine ci_T.step cb_X9_stands_21 (pe_push pc_m2) ?_
        cases h
        exact ci_T.done (v := some (.int _)) cd_X9_stands_23 ⟨rfl, rfl⟩
    · refine ci_T.step cb_X9_stands_8 (pe_push pc_m1) ?_
      cases h
      exact ci_T.done (v := some (.int _)) cd_X9_stands_9 ⟨rfl, rfl⟩
/-- X9_areAlike -/
def L_X9_areAlike_5 (ρ : pm) : Nat → Int → Int → Int → Int → Option Int
  | 0, _, _, _, _ => none
  | n + 1, l1, l2, l3, l4 => ck (inR l4) (if 25 ≤ l4 then ck (l3 = 0 ∨ l3 = 1) (some l3) else ck (inR l3) (jn (fun (l1 l2 l4 s0 : Int) => jn (l4 + 1) (fun x4 => L_X9_areAlike_5 ρ n l1 l2 s0 x4)) (fun j48 => jn (fun (l1 l2 l4 : Int) => j48 l1 l2 l4 0) (fun j47 => if l3 = 0 then j47 l1 l2 l4 else ck (0 ≤ (25 * l1) + l4 ∧ (25 * l1) + l4 < 1525) (ck (0 ≤ (25 * l2) + l4 ∧ (25 * l2) + l4 < 1525) (ck (inR (ρ 80 ((25 * l1) + l4))) (ck (inR (ρ 80 ((25 * l2) + l4))) (if (ρ 80 ((25 * l1) + l4)) = (ρ 80 ((25 * l2) + l4)) then j48 l1 l2 l4 1 else j47 l1 l2 l4))))))))
def f_X9_areAlike (l1 l2 : Int) (ρ : pm) : Option Int := L_X9_areAlike_5 ρ fu l1 l2 1 0
set_option maxRecDepth 100000 in
theorem t_X9_areAlike_5 {d : Nat}   {ρ : pm} {o : pm} {rv : Int}   : ∀ (n : Nat) (l1 l2 l3 l4 : Int), L_X9_areAlike_5 ρ n l1 l2 l3 l4 = some rv → ci_T yX9_areAlike cX9_areAlike 5 (some .boolean) d 5 ([(0, .ref 63), (1, .int (Int32.ofInt l1)), (2, .int (Int32.ofInt l2)), (3, .int (Int32.ofInt l3)), (4, .int (Int32.ofInt l4))], [], pk false ρ o) (pZ false rv ρ o) := by
  intro n
  induction n with
  | zero =>
    intro l1 l2 l3 l4 h
    rw [L_X9_areAlike_5] at h
    cases h
  | succ n ih =>
    intro l1 l2 l3 l4 h
    rw [L_X9_areAlike_5] at h
    obtain ⟨h1, h⟩ := ck_some h
    refine ci_T.step cb_X9_areAlike_5 (ci_sq rfl (ci_sq (pe_push pc_25) (pe_ic_ge h1 pR_25))) ?_
    refine pbr h (fun hc h => ?_) (fun hc h => ?_)
    · refine ci_T.step cb_X9_areAlike_55 rfl ?_
      obtain ⟨h2, h⟩ := ck_some h
      cases h
      exact ci_T.done (v := some (.int _)) cd_X9_areAlike_56 ⟨⟨rfl, rfl⟩, h2⟩
    · obtain ⟨h3, h⟩ := ck_some h
      refine ci_T.step cb_X9_areAlike_12 (ci_sq rfl (pe_if_eq h3)) ?_
      obtain ⟨j48, hj, h⟩ := jn_ex h
      have J48 : ∀ (l1 l2 l4 s0 : Int), j48 l1 l2 l4 s0 = some rv → ci_T yX9_areAlike cX9_areAlike 5 (some .boolean) d 48 ([(0, .ref 63), (1, .int (Int32.ofInt l1)), (2, .int (Int32.ofInt l2)), (4, .int (Int32.ofInt l4))], [.int (Int32.ofInt s0)], pk false ρ o) (pZ false rv ρ o) := by
        intro l1 l2 l4 s0 h
        subst hj
        replace h := jn_some h
        refine ci_T.step cb_X9_areAlike_48 (ci_sq rfl (ci_sq (pe_inc rfl) rfl)) ?_
        exact ci_T.sub [2, 3, 4, 1, 0] (ih _ _ _ _ h) rfl
      clear hj
      obtain ⟨j47, hj, h⟩ := jn_ex h
      have J47 : ∀ (l1 l2 l4 : Int), j47 l1 l2 l4 = some rv → ci_T yX9_areAlike cX9_areAlike 5 (some .boolean) d 47 ([(0, .ref 63), (1, .int (Int32.ofInt l1)), (2, .int (Int32.ofInt l2)), (4, .int (Int32.ofInt l4))], [], pk false ρ o) (pZ false rv ρ o) := by
        intro l1 l2 l4 h
        subst hj
        refine ci_T.step cb_X9_areAlike_47 (pe_push pc_0) ?_
        exact ci_T.sub [0, 1, 2, 3] (J48 _ _ _ _ h) rfl
      clear hj
      refine pbr h (fun hc h => ?_) (fun hc h => ?_)
      · exact ci_T.sub [0, 1, 2, 4] (J47 _ _ _ h) rfl
      · obtain ⟨h5, h⟩ := ck_some h
        obtain ⟨h6, h⟩ := ck_some h
        obtain ⟨h7, h⟩ := ck_some h
        obtain ⟨h8, h⟩ := ck_some h
        refine ci_T.step cb_X9_areAlike_16 (ci_sq rfl (ci_sq (pe_getR tq_62 rfl rfl) (ci_sq (pe_push pc_25) (ci_sq rfl (ci_sq pe_imul (ci_sq rfl (ci_sq pe_iadd (ci_sq (pe_ald (nI := 1525) tq_80 rfl rfl h5) (ci_sq rfl (ci_sq (pe_getR tq_62 rfl rfl) (ci_sq (pe_push pc_25) (ci_sq rfl (ci_sq pe_imul (ci_sq rfl (ci_sq pe_iadd (ci_sq (pe_ald (nI := 1525) tq_80 rfl rfl h6) (pe_ic_ne h7 h8))))))))))))))))) ?_
        refine pbrn h (fun hc h => ?_) (fun hc h => ?_)
        · exact ci_T.sub [0, 1, 2, 4] (J47 _ _ _ h) rfl
        · refine ci_T.step cb_X9_areAlike_43 (ci_sq (pe_push pc_1) rfl) ?_
          exact ci_T.sub [0, 1, 2, 4] (J48 _ _ _ _ h) rfl
set_option maxRecDepth 100000 in
theorem s_X9_areAlike (d : Nat)   {ρ : pm} (o : pm) {l1 l2 : Int} {rv : Int} (h : f_X9_areAlike l1 l2 ρ = some rv) : ci_Met d (yX9_areAlike, cX9_areAlike, 5, (some .boolean), [], 0, 0) [.ref 63, .int (Int32.ofInt l1), .int (Int32.ofInt l2)] (pk false ρ o) (pZ false rv ρ o) := by
  refine ci_met (by decide) (Nat.le_of_ble_eq_true rfl) ?_ ?_
  · rintro v w' ⟨⟨rfl, rfl⟩, hz⟩
    exact Z_of hz
  · change ci_T _ _ _ _ _ _ ([(0, .ref 63), (1, .int (Int32.ofInt l1)), (2, .int (Int32.ofInt l2))], [], pk false ρ o) _
    unfold f_X9_areAlike at h
    refine ci_T.step cb_X9_areAlike_0 (ci_sq (pe_push pc_1) (ci_sq rfl (ci_sq (pe_push pc_0) rfl))) ?_
    exact ci_T.sub [2, 3, 4, 1, 0] (t_X9_areAlike_5 fu _ _ _ _ h) rfl
/-- X9_again -/
def L_X9_again_41 (K74 : Int → Int → Int → Int → pm → Option (Int × pm)) : Nat → Int → Int → Int → Int → Int → pm → Option (Int × pm)
  | 0, _, _, _, _, _, _ => none
  | n + 1, l1, l2, l3, l4, l5, ρ => ck (inR l5) (if 25 ≤ l5 then K74 l1 l2 l3 l4 ρ else ck (0 ≤ l5 ∧ l5 < 168) (ck (0 ≤ (25 * l4) + l5 ∧ (25 * l4) + l5 < 1525) (jn (pup ρ 80 ((25 * l4) + l5) (ρ 63 l5)) (fun ρ10 => jn (l5 + 1) (fun x11 => L_X9_again_41 K74 n l1 l2 l3 l4 x11 ρ10)))))
def L_X9_again_80 (K111 : Int → Int → Int → Int → pm → Option (Int × pm)) : Nat → Int → Int → Int → Int → Int → pm → Option (Int × pm)
  | 0, _, _, _, _, _, _ => none
  | n + 1, l1, l2, l3, l4, l5, ρ => ck (inR l5) (if l5 < 0 then K111 l1 l2 l3 l4 ρ else (f_X9_areAlike l5 l4 ρ).bind (fun v14 => jn (fun (l1 l2 l3 l4 l5 : Int) (ρ : pm) => jn (l5 + (-1)) (fun x16 => L_X9_again_80 K111 n l1 l2 l3 l4 x16 ρ)) (fun j105 => if v14 = 0 then j105 l1 l2 l3 l4 l5 ρ else jn (l4 - l5) (fun x17 => j105 l1 l5 x17 l4 l5 ρ))))
def L_X9_again_25 (K121 : Int → Int → Int → pm → Option (Int × pm)) : Nat → Int → Int → Int → Int → pm → Option (Int × pm)
  | 0, _, _, _, _, _ => none
  | n + 1, l1, l2, l3, l4, ρ => ck (inR l4) (if 60 < l4 then K121 l1 l2 l3 ρ else ck (inR l2) (if l2 = (-4) then L_X9_again_41 (fun (l1 l2 l3 l4 : Int) (ρ : pm) => jn (l4 - 1) (fun x12 => L_X9_again_80 (fun (l1 l2 l3 l4 : Int) (ρ : pm) => (f_X9_silts ρ).bind (fun ρ18 => jn (l4 + 1) (fun x19 => L_X9_again_25 K121 n l1 l2 l3 x19 ρ18))) fu l1 l2 l3 l4 x12 ρ)) fu l1 l2 l3 l4 0 ρ else K121 l1 l2 l3 ρ))
def f_X9_again (l1 : Int) (ρ : pm) : Option (Int × pm) := ck (inR l1) ((f_X9_in l1 0 1).bind (fun v2 => if v2 = 0 then some ((-1), ρ) else (f_X9_marks ρ).bind (fun ρ4 => L_X9_again_25 (fun (l1 l2 l3 : Int) (ρ : pm) => (f_X9_returns ρ).bind (fun ρ20 => ck (inR l1) (if l1 = 0 then some (l2, ρ20) else some (l3, ρ20)))) fu l1 (-4) (-4) 0 ρ4)))
set_option maxRecDepth 100000 in
theorem t_X9_again_41 {d : Nat}    {o : pm} {rv : Int} {rρ : pm} {K74 : Int → Int → Int → Int → pm → Option (Int × pm)} (hK74 : ∀ (l1 l2 l3 l4 : Int) (ρ : pm), K74 l1 l2 l3 l4 ρ = some (rv, rρ) → ci_T yX9_again cX9_again 6 (some .int) (d + 4) 74 ([(0, .ref 63), (1, .int (Int32.ofInt l1)), (2, .int (Int32.ofInt l2)), (3, .int (Int32.ofInt l3)), (4, .int (Int32.ofInt l4))], [], pk false ρ o) (pP false rv rρ o)) : ∀ (n : Nat) (l1 l2 l3 l4 l5 : Int) (ρ : pm), L_X9_again_41 K74 n l1 l2 l3 l4 l5 ρ = some (rv, rρ) → ci_T yX9_again cX9_again 6 (some .int) (d + 4) 41 ([(0, .ref 63), (1, .int (Int32.ofInt l1)), (2, .int (Int32.ofInt l2)), (3, .int (Int32.ofInt l3)), (4, .int (Int32.ofInt l4)), (5, .int (Int32.ofInt l5))], [], pk false ρ o) (pP false rv rρ o) := by
  intro n
  induction n with
  | zero =>
    intro l1 l2 l3 l4 l5 ρ h
    rw [L_X9_again_41] at h
    cases h
  | succ n ih =>
    intro l1 l2 l3 l4 l5 ρ h
    rw [L_X9_again_41] at h
    obtain ⟨h7, h⟩ := ck_some h
    refine ci_T.step cb_X9_again_41 (ci_sq rfl (ci_sq (pe_push pc_25) (pe_ic_ge h7 pR_25))) ?_
    refine pbr h (fun hc h => ?_) (fun hc h => ?_)
    · exact ci_T.sub [0, 1, 2, 3, 4] (hK74 _ _ _ _ _ h) rfl
    · obtain ⟨h8, h⟩ := ck_some h
      obtain ⟨h9, h⟩ := ck_some h
      replace h := jn_some h
      replace h := jn_some h
      refine ci_T.step cb_X9_again_48 (ci_sq rfl (ci_sq (pe_getR tq_62 rfl rfl) (ci_sq (pe_push pc_25) (ci_sq rfl (ci_sq pe_imul (ci_sq rfl (ci_sq pe_iadd (ci_sq rfl (ci_sq (pe_getR tq_62 rfl rfl) (ci_sq rfl (ci_sq (pe_ald (nI := 168) tq_63 rfl rfl h8) (ci_sq (pe_ast (nI := 1525) tq_80 rfl rfl h9 rfl) (ci_sq (pe_inc rfl) rfl))))))))))))) ?_
      exact ci_T.sub [1, 2, 3, 4, 5, 0] (ih _ _ _ _ _ _ h) rfl
set_option maxRecDepth 100000 in
theorem t_X9_again_80 {d : Nat}    {o : pm} {rv : Int} {rρ : pm} {K111 : Int → Int → Int → Int → pm → Option (Int × pm)} (hK111 : ∀ (l1 l2 l3 l4 : Int) (ρ : pm), K111 l1 l2 l3 l4 ρ = some (rv, rρ) → ci_T yX9_again cX9_again 6 (some .int) (d + 4) 111 ([(0, .ref 63), (1, .int (Int32.ofInt l1)), (2, .int (Int32.ofInt l2)), (3, .int (Int32.ofInt l3)), (4, .int (Int32.ofInt l4))], [], pk false ρ o) (pP false rv rρ o)) : ∀ (n : Nat) (l1 l2 l3 l4 l5 : Int) (ρ : pm), L_X9_again_80 K111 n l1 l2 l3 l4 l5 ρ = some (rv, rρ) → ci_T yX9_again cX9_again 6 (some .int) (d + 4) 80 ([(0, .ref 63), (1, .int (Int32.ofInt l1)), (2, .int (Int32.ofInt l2)), (3, .int (Int32.ofInt l3)), (4, .int (Int32.ofInt l4)), (5, .int (Int32.ofInt l5))], [], pk false ρ o) (pP false rv rρ o) := by
  intro n
  induction n with
  | zero =>
    intro l1 l2 l3 l4 l5 ρ h
    rw [L_X9_again_80] at h
    cases h
  | succ n ih =>
    intro l1 l2 l3 l4 l5 ρ h
    rw [L_X9_again_80] at h
    obtain ⟨h13, h⟩ := ck_some h
    refine ci_T.step cb_X9_again_80 (ci_sq rfl (pe_if_lt h13)) ?_
    refine pbr h (fun hc h => ?_) (fun hc h => ?_)
    · exact ci_T.sub [0, 1, 2, 3, 4] (hK111 _ _ _ _ _ h) rfl
    · refine ci_T.step cb_X9_again_85 (ci_sq rfl (ci_sq rfl rfl)) ?_
      obtain ⟨v14, hv, h⟩ := bn_some h
      refine ci_T.call (as := [_, _, _]) (rest := []) kc_X9_areAlike ki_X9_areAlike (by decide) cl_X9_again_90 rfl (Nat.le_of_ble_eq_true rfl) ⟨⟨_, rfl⟩, _, _, _, rfl, pk_obj tq_62 rfl _ _⟩ (s_X9_areAlike (d + 3) o hv) ?_
      rintro _ _ ⟨⟨rfl, rfl⟩, hz15⟩
      clear hv
      refine ci_T.step cb_X9_again_93 (pe_if_eq (Z_R hz15)) ?_
      obtain ⟨j105, hj, h⟩ := jn_ex h
      have J105 : ∀ (l1 l2 l3 l4 l5 : Int) (ρ : pm), j105 l1 l2 l3 l4 l5 ρ = some (rv, rρ) → ci_T yX9_again cX9_again 6 (some .int) (d + 4) 105 ([(0, .ref 63), (1, .int (Int32.ofInt l1)), (2, .int (Int32.ofInt l2)), (3, .int (Int32.ofInt l3)), (4, .int (Int32.ofInt l4)), (5, .int (Int32.ofInt l5))], [], pk false ρ o) (pP false rv rρ o) := by
        intro l1 l2 l3 l4 l5 ρ h
        subst hj
        replace h := jn_some h
        refine ci_T.step cb_X9_again_105 (ci_sq (pe_inc rfl) rfl) ?_
        exact ci_T.sub [1, 2, 3, 4, 5, 0] (ih _ _ _ _ _ _ h) rfl
      clear hj
      refine pbr h (fun hc h => ?_) (fun hc h => ?_)
      · exact ci_T.sub [0, 1, 2, 3, 4, 5] (J105 _ _ _ _ _ _ h) rfl
      · replace h := jn_some h
        refine ci_T.step cb_X9_again_96 (ci_sq rfl (ci_sq rfl (ci_sq rfl (ci_sq rfl (ci_sq pe_isub rfl))))) ?_
        exact ci_T.sub [2, 3, 1, 0, 4, 5] (J105 _ _ _ _ _ _ h) rfl
set_option maxRecDepth 100000 in
theorem t_X9_again_25 {d : Nat}    {o : pm} {rv : Int} {rρ : pm} {K121 : Int → Int → Int → pm → Option (Int × pm)} (hK121 : ∀ (l1 l2 l3 : Int) (ρ : pm), K121 l1 l2 l3 ρ = some (rv, rρ) → ci_T yX9_again cX9_again 6 (some .int) (d + 4) 121 ([(0, .ref 63), (1, .int (Int32.ofInt l1)), (2, .int (Int32.ofInt l2)), (3, .int (Int32.ofInt l3))], [], pk false ρ o) (pP false rv rρ o)) : ∀ (n : Nat) (l1 l2 l3 l4 : Int) (ρ : pm), L_X9_again_25 K121 n l1 l2 l3 l4 ρ = some (rv, rρ) → ci_T yX9_again cX9_again 6 (some .int) (d + 4) 25 ([(0, .ref 63), (1, .int (Int32.ofInt l1)), (2, .int (Int32.ofInt l2)), (3, .int (Int32.ofInt l3)), (4, .int (Int32.ofInt l4))], [], pk false ρ o) (pP false rv rρ o) := by
  intro n
  induction n with
  | zero =>
    intro l1 l2 l3 l4 ρ h
    rw [L_X9_again_25] at h
    cases h
  | succ n ih =>
    intro l1 l2 l3 l4 ρ h
    rw [L_X9_again_25] at h
    obtain ⟨h5, h⟩ := ck_some h
    refine ci_T.step cb_X9_again_25 (ci_sq rfl (ci_sq (pe_push pc_60) (pe_ic_gt h5 pR_60))) ?_
    refine pbr h (fun hc h => ?_) (fun hc h => ?_)
    · exact ci_T.sub [0, 1, 2, 3] (hK121 _ _ _ _ h) rfl
    · obtain ⟨h6, h⟩ := ck_some h
      refine ci_T.step cb_X9_again_32 (ci_sq rfl (ci_sq (pe_push pc_m4) (pe_ic_ne h6 pR_m4))) ?_
      refine pbrn h (fun hc h => ?_) (fun hc h => ?_)
      · exact ci_T.sub [0, 1, 2, 3] (hK121 _ _ _ _ h) rfl
      · refine ci_T.step cb_X9_again_38 (ci_sq (pe_push pc_0) rfl) ?_
        refine ci_T.sub [1, 2, 3, 4, 5, 0] (t_X9_again_41 ?_ fu _ _ _ _ _ _ h) rfl
        · intro l1 l2 l3 l4 ρ h
          replace h := jn_some h
          refine ci_T.step cb_X9_again_74 (ci_sq rfl (ci_sq (pe_push pc_1) (ci_sq pe_isub rfl))) ?_
          refine ci_T.sub [1, 2, 3, 4, 5, 0] (t_X9_again_80 ?_ fu _ _ _ _ _ _ h) rfl
          · intro l1 l2 l3 l4 ρ h
            refine ci_T.step cb_X9_again_111 rfl ?_
            obtain ⟨ρ18, hv, h⟩ := bn_some h
            refine ci_T.call (as := [_]) (rest := []) kc_X9_silts ki_X9_silts (by decide) cl_X9_again_112 rfl (Nat.le_of_ble_eq_true rfl) ⟨⟨_, rfl⟩, _, _, _, rfl, pk_obj tq_62 rfl _ _⟩ (s_X9_silts d o hv) ?_
            rintro _ _ ⟨rfl, rfl⟩
            clear hv
            replace h := jn_some h
            refine ci_T.step cb_X9_again_115 (ci_sq (pe_inc rfl) rfl) ?_
            exact ci_T.sub [1, 2, 3, 4, 0] (ih _ _ _ _ _ h) rfl
set_option maxRecDepth 100000 in
theorem s_X9_again (d : Nat)   {ρ : pm} (o : pm) {l1 : Int} {rv : Int} {rρ : pm} (h : f_X9_again l1 ρ = some (rv, rρ)) : ci_Met (d + 4) (yX9_again, cX9_again, 6, (some .int), [], 0, 0) [.ref 63, .int (Int32.ofInt l1)] (pk false ρ o) (pP false rv rρ o) := by
  refine ci_met (by decide) (Nat.le_of_ble_eq_true rfl) ?_ ?_
  · rintro v w' ⟨rfl, rfl⟩
    trivial
  · change ci_T _ _ _ _ _ _ ([(0, .ref 63), (1, .int (Int32.ofInt l1))], [], pk false ρ o) _
    unfold f_X9_again at h
    obtain ⟨h1, h⟩ := ck_some h
    refine ci_T.step cb_X9_again_0 (ci_sq rfl (ci_sq (pe_i2l h1) (ci_sq (pe_pushl pcl_0) (pe_pushl pcl_1)))) ?_
    obtain ⟨v2, hv, h⟩ := bn_some h
    refine ci_T.call (as := [_, _, _]) (rest := []) kc_X9_in ki_X9_in (by decide) cl_X9_again_4 rfl (Nat.le_of_ble_eq_true rfl) trivial (s_X9_in (d + 3) o hv) ?_
    rintro _ _ ⟨⟨rfl, rfl⟩, hz3⟩
    clear hv
    refine ci_T.step cb_X9_again_7 (pe_if_ne (Z_R hz3)) ?_
    refine pbrn h (fun hc h => ?_) (fun hc h => ?_)
    · refine ci_T.step cb_X9_again_12 rfl ?_
      obtain ⟨ρ4, hv, h⟩ := bn_some h
      refine ci_T.call (as := [_]) (rest := []) kc_X9_marks ki_X9_marks (by decide) cl_X9_again_13 rfl (Nat.le_of_ble_eq_true rfl) ⟨⟨_, rfl⟩, _, _, _, rfl, pk_obj tq_62 rfl _ _⟩ (s_X9_marks (d + 3) o hv) ?_
      rintro _ _ ⟨rfl, rfl⟩
      clear hv
      refine ci_T.step cb_X9_again_16 (ci_sq (pe_push pc_m4) (ci_sq rfl (ci_sq (pe_push pc_m4) (ci_sq rfl (ci_sq (pe_push pc_0) rfl))))) ?_
      refine ci_T.sub [3, 4, 2, 1, 0] (t_X9_again_25 ?_ fu _ _ _ _ _ h) rfl
      · intro l1 l2 l3 ρ h
        refine ci_T.step cb_X9_again_121 rfl ?_
        obtain ⟨ρ20, hv, h⟩ := bn_some h
        refine ci_T.call (as := [_]) (rest := []) kc_X9_returns ki_X9_returns (by decide) cl_X9_again_122 rfl (Nat.le_of_ble_eq_true rfl) ⟨⟨_, rfl⟩, _, _, _, rfl, pk_obj tq_62 rfl _ _⟩ (s_X9_returns (d + 3) o hv) ?_
        rintro _ _ ⟨rfl, rfl⟩
        clear hv
        obtain ⟨h21, h⟩ := ck_some h
        refine ci_T.step cb_X9_again_125 (ci_sq rfl (pe_if_ne h21)) ?_
        refine pbrn h (fun hc h => ?_) (fun hc h => ?_)
        · refine ci_T.step cb_X9_again_133 rfl ?_
          cases h
          exact ci_T.done (v := some (.int _)) cd_X9_again_134 ⟨rfl, rfl⟩
        · refine ci_T.step cb_X9_again_129 (ci_sq rfl rfl) ?_
          cases h
          exact ci_T.done (v := some (.int _)) cd_X9_again_134 ⟨rfl, rfl⟩
    · refine ci_T.step cb_X9_again_10 (pe_push pc_m1) ?_
      cases h
      exact ci_T.done (v := some (.int _)) cd_X9_again_11 ⟨rfl, rfl⟩
/-- X9_common -/
def L_X9_common_6  : Nat → Int → Int → Option Int
  | 0, _, _ => none
  | n + 1, l4, l6 => ck (inL l6) (if (lcm64 l6 0) = 0 then some l4 else ck (inL l4) (ck (l6 ≠ 0) (jn (Int.tmod l4 l6) (fun x4 => L_X9_common_6 n l6 x4))))
def f_X9_common (l0 l2 : Int) : Option Int := L_X9_common_6 fu l0 l2
set_option maxRecDepth 100000 in
theorem t_X9_common_6 {d : Nat}   {ρ : pm} {o : pm} {rv : Int}   : ∀ (n : Nat) (l4 l6 : Int), L_X9_common_6 n l4 l6 = some rv → ci_T yX9_common cX9_common 10 (some .long) d 6 ([(4, .long (Int64.ofInt l4)), (6, .long (Int64.ofInt l6))], [], pk false ρ o) (pL false rv ρ o) := by
  intro n
  induction n with
  | zero =>
    intro l4 l6 h
    rw [L_X9_common_6] at h
    cases h
  | succ n ih =>
    intro l4 l6 h
    rw [L_X9_common_6] at h
    obtain ⟨h1, h⟩ := ck_some h
    refine ci_T.step cb_X9_common_6 (ci_sq rfl (ci_sq (pe_pushl pcl_0) (ci_sq (pe_lcmp ⟨h1, pLL_0⟩) (pe_if_eq (lcm64_R _ _))))) ?_
    refine pbr h (fun hc h => ?_) (fun hc h => ?_)
    · refine ci_T.step cb_X9_common_31 rfl ?_
      cases h
      exact ci_T.done (v := some (.long _)) cd_X9_common_33 ⟨rfl, rfl⟩
    · obtain ⟨h2, h⟩ := ck_some h
      obtain ⟨h3, h⟩ := ck_some h
      replace h := jn_some h
      refine ci_T.step cb_X9_common_13 (ci_sq rfl (ci_sq rfl (ci_sq (pe_lrem ⟨h2, h1, h3⟩) (ci_sq rfl (ci_sq rfl (ci_sq rfl (ci_sq rfl (ci_sq rfl rfl)))))))) ?_
      exact ci_T.sub [1, 0] (ih _ _ h) rfl
set_option maxRecDepth 100000 in
theorem s_X9_common (d : Nat)   {ρ : pm} (o : pm) {l0 l2 : Int} {rv : Int} (h : f_X9_common l0 l2 = some rv) : ci_Met d (yX9_common, cX9_common, 10, (some .long), [], 0, 0) [.long (Int64.ofInt l0), .long (Int64.ofInt l2)] (pk false ρ o) (pL false rv ρ o) := by
  refine ci_met (by decide) (Nat.le_of_ble_eq_true rfl) ?_ ?_
  · rintro v w' ⟨rfl, rfl⟩
    trivial
  · change ci_T _ _ _ _ _ _ ([(0, .long (Int64.ofInt l0)), (2, .long (Int64.ofInt l2))], [], pk false ρ o) _
    unfold f_X9_common at h
    refine ci_T.step cb_X9_common_0 (ci_sq rfl (ci_sq rfl (ci_sq rfl rfl))) ?_
    exact ci_T.sub [1, 0] (t_X9_common_6 fu _ _ h) rfl
/-- X9_odds -/
def L_X9_odds_37 (K69 : Int → Int → Int → pm → Option (Int × pm)) : Nat → Int → Int → Int → Int → Int → pm → Option (Int × pm)
  | 0, _, _, _, _, _, _ => none
  | n + 1, l1, l2, l3, l4, l6, ρ => ck (inR l6) (ck (inR l3) (if l3 ≤ l6 then K69 l2 l3 l4 ρ else (f_X9_yearAt l6 ρ).bind (fun v10 => bn2 (f_X9_bedBy v10 ρ) (fun v11 ρ12 => jn (l4 + (band (bshr v11 l1) 1)) (fun x13 => jn (l6 + 1) (fun x14 => L_X9_odds_37 K69 n l1 l2 l3 x13 x14 ρ12))))))
def f_X9_odds (l1 l2 : Int) (ρ : pm) : Option (Int × pm) := (f_X9_isCell l1 ρ).bind (fun v1 => if v1 = 0 then some ((-1), ρ) else ck (inR l2) ((f_X9_in l2 0 1).bind (fun v4 => if v4 = 0 then some ((-1), ρ) else (f_X9_findOptions ρ).bind (fun ρ6 => (f_X9_allOptions ρ6).bind (fun v7 => L_X9_odds_37 (fun (l2 l3 l4 : Int) (ρ : pm) => ck (inR l3) ((f_X9_common l3 l4).bind (fun v16 => ck (inR l2) (if l2 = 0 then ck (inL l4) (ck (inL v16) (ck (v16 ≠ 0) (some (Int.tdiv l4 v16, ρ)))) else ck (inL v16) (ck (v16 ≠ 0) (some (Int.tdiv l3 v16, ρ))))))) fu l1 l2 v7 0 0 ρ6)))))
set_option maxRecDepth 100000 in
theorem t_X9_odds_37 {d : Nat}    {o : pm} {rv : Int} {rρ : pm} {K69 : Int → Int → Int → pm → Option (Int × pm)} (hK69 : ∀ (l2 l3 l4 : Int) (ρ : pm), K69 l2 l3 l4 ρ = some (rv, rρ) → ci_T yX9_odds cX9_odds 8 (some .long) (d + 6) 69 ([(2, .int (Int32.ofInt l2)), (3, .int (Int32.ofInt l3)), (4, .long (Int64.ofInt l4))], [], pk false ρ o) (pL false rv rρ o)) : ∀ (n : Nat) (l1 l2 l3 l4 l6 : Int) (ρ : pm), L_X9_odds_37 K69 n l1 l2 l3 l4 l6 ρ = some (rv, rρ) → ci_T yX9_odds cX9_odds 8 (some .long) (d + 6) 37 ([(0, .ref 63), (1, .int (Int32.ofInt l1)), (2, .int (Int32.ofInt l2)), (3, .int (Int32.ofInt l3)), (4, .long (Int64.ofInt l4)), (6, .int (Int32.ofInt l6))], [], pk false ρ o) (pL false rv rρ o) := by
  intro n
  induction n with
  | zero =>
    intro l1 l2 l3 l4 l6 ρ h
    rw [L_X9_odds_37] at h
    cases h
  | succ n ih =>
    intro l1 l2 l3 l4 l6 ρ h
    rw [L_X9_odds_37] at h
    obtain ⟨h8, h⟩ := ck_some h
    obtain ⟨h9, h⟩ := ck_some h
    refine ci_T.step cb_X9_odds_37 (ci_sq rfl (ci_sq rfl (pe_ic_ge h8 h9))) ?_
    refine pbr h (fun hc h => ?_) (fun hc h => ?_)
    · exact ci_T.sub [2, 3, 4] (hK69 _ _ _ _ h) rfl
    · refine ci_T.step cb_X9_odds_43 (ci_sq rfl (ci_sq rfl (ci_sq rfl rfl))) ?_
      obtain ⟨v10, hv, h⟩ := bn_some h
      refine ci_T.call (as := [_, _]) (rest := [_, _]) kc_X9_yearAt ki_X9_yearAt (by decide) cl_X9_odds_49 rfl (Nat.le_of_ble_eq_true rfl) ⟨⟨_, rfl⟩, _, _, _, rfl, pk_obj tq_62 rfl _ _⟩ (s_X9_yearAt (d + 4) o hv) ?_
      rintro _ _ ⟨rfl, rfl⟩
      clear hv
      obtain ⟨v11, ρ12, hv, h⟩ := bn2_some h
      refine ci_T.call (as := [_, _]) (rest := [_]) kc_X9_bedBy ki_X9_bedBy (by decide) cl_X9_odds_52 rfl (Nat.le_of_ble_eq_true rfl) ⟨⟨_, rfl⟩, _, _, _, rfl, pk_obj tq_62 rfl _ _⟩ (s_X9_bedBy d o hv) ?_
      rintro _ _ ⟨rfl, rfl⟩
      clear hv
      replace h := jn_some h
      replace h := jn_some h
      refine ci_T.step cb_X9_odds_55 (ci_sq rfl (ci_sq pe_ishr (ci_sq (pe_push pc_1) (ci_sq pe_iand (ci_sq (pe_i2l (band_R _ _)) (ci_sq pe_ladd (ci_sq rfl (ci_sq (pe_inc rfl) rfl)))))))) ?_
      exact ci_T.sub [2, 3, 4, 5, 1, 0] (ih _ _ _ _ _ _ h) rfl
set_option maxRecDepth 100000 in
theorem s_X9_odds (d : Nat)   {ρ : pm} (o : pm) {l1 l2 : Int} {rv : Int} {rρ : pm} (h : f_X9_odds l1 l2 ρ = some (rv, rρ)) : ci_Met (d + 6) (yX9_odds, cX9_odds, 8, (some .long), [], 0, 0) [.ref 63, .int (Int32.ofInt l1), .int (Int32.ofInt l2)] (pk false ρ o) (pL false rv rρ o) := by
  refine ci_met (by decide) (Nat.le_of_ble_eq_true rfl) ?_ ?_
  · rintro v w' ⟨rfl, rfl⟩
    trivial
  · change ci_T _ _ _ _ _ _ ([(0, .ref 63), (1, .int (Int32.ofInt l1)), (2, .int (Int32.ofInt l2))], [], pk false ρ o) _
    unfold f_X9_odds at h
    refine ci_T.step cb_X9_odds_0 (ci_sq rfl rfl) ?_
    obtain ⟨v1, hv, h⟩ := bn_some h
    refine ci_T.call (as := [_, _]) (rest := []) kc_X9_isCell ki_X9_isCell (by decide) cl_X9_odds_2 rfl (Nat.le_of_ble_eq_true rfl) ⟨⟨_, rfl⟩, _, _, _, rfl, pk_obj tq_62 rfl _ _⟩ (s_X9_isCell (d + 4) o hv) ?_
    rintro _ _ ⟨⟨rfl, rfl⟩, hz2⟩
    clear hv
    refine ci_T.step cb_X9_odds_5 (pe_if_eq (Z_R hz2)) ?_
    refine pbr h (fun hc h => ?_) (fun hc h => ?_)
    · refine ci_T.step cb_X9_odds_18 (pe_pushl pcl_m1) ?_
      cases h
      exact ci_T.done (v := some (.long _)) cd_X9_odds_21 ⟨rfl, rfl⟩
    · obtain ⟨h3, h⟩ := ck_some h
      refine ci_T.step cb_X9_odds_8 (ci_sq rfl (ci_sq (pe_i2l h3) (ci_sq (pe_pushl pcl_0) (pe_pushl pcl_1)))) ?_
      obtain ⟨v4, hv, h⟩ := bn_some h
      refine ci_T.call (as := [_, _, _]) (rest := []) kc_X9_in ki_X9_in (by decide) cl_X9_odds_12 rfl (Nat.le_of_ble_eq_true rfl) trivial (s_X9_in (d + 5) o hv) ?_
      rintro _ _ ⟨⟨rfl, rfl⟩, hz5⟩
      clear hv
      refine ci_T.step cb_X9_odds_15 (pe_if_ne (Z_R hz5)) ?_
      refine pbrn h (fun hc h => ?_) (fun hc h => ?_)
      · refine ci_T.step cb_X9_odds_22 rfl ?_
        obtain ⟨ρ6, hv, h⟩ := bn_some h
        refine ci_T.call (as := [_]) (rest := []) kc_X9_findOptions ki_X9_findOptions (by decide) cl_X9_odds_23 rfl (Nat.le_of_ble_eq_true rfl) ⟨⟨_, rfl⟩, _, _, _, rfl, pk_obj tq_62 rfl _ _⟩ (s_X9_findOptions d o hv) ?_
        rintro _ _ ⟨rfl, rfl⟩
        clear hv
        refine ci_T.step cb_X9_odds_26 rfl ?_
        obtain ⟨v7, hv, h⟩ := bn_some h
        refine ci_T.call (as := [_]) (rest := []) kc_X9_allOptions ki_X9_allOptions (by decide) cl_X9_odds_27 rfl (Nat.le_of_ble_eq_true rfl) ⟨⟨_, rfl⟩, _, _, _, rfl, pk_obj tq_62 rfl _ _⟩ (s_X9_allOptions (d + 5) o hv) ?_
        rintro _ _ ⟨rfl, rfl⟩
        clear hv
        refine ci_T.step cb_X9_odds_30 (ci_sq rfl (ci_sq (pe_pushl pcl_0) (ci_sq rfl (ci_sq (pe_push pc_0) rfl)))) ?_
        refine ci_T.sub [3, 4, 5, 2, 1, 0] (t_X9_odds_37 ?_ fu _ _ _ _ _ _ h) rfl
        · intro l2 l3 l4 ρ h
          obtain ⟨h15, h⟩ := ck_some h
          refine ci_T.step cb_X9_odds_69 (ci_sq rfl (ci_sq (pe_i2l h15) rfl)) ?_
          obtain ⟨v16, hv, h⟩ := bn_some h
          refine ci_T.call (as := [_, _]) (rest := []) kc_X9_common ki_X9_common (by decide) cl_X9_odds_73 rfl (Nat.le_of_ble_eq_true rfl) trivial (s_X9_common (d + 5) o hv) ?_
          rintro _ _ ⟨rfl, rfl⟩
          clear hv
          obtain ⟨h17, h⟩ := ck_some h
          refine ci_T.step cb_X9_odds_76 (ci_sq rfl (ci_sq rfl (pe_if_ne h17))) ?_
          refine pbrn h (fun hc h => ?_) (fun hc h => ?_)
          · obtain ⟨h18, h⟩ := ck_some h
            obtain ⟨h19, h⟩ := ck_some h
            refine ci_T.step cb_X9_odds_90 (ci_sq rfl (ci_sq (pe_i2l h15) (ci_sq rfl (pe_ldiv ⟨(L_of_R h15), h18, h19⟩)))) ?_
            cases h
            exact ci_T.done (v := some (.long _)) cd_X9_odds_95 ⟨rfl, rfl⟩
          · obtain ⟨h20, h⟩ := ck_some h
            obtain ⟨h21, h⟩ := ck_some h
            obtain ⟨h22, h⟩ := ck_some h
            refine ci_T.step cb_X9_odds_82 (ci_sq rfl (ci_sq rfl (ci_sq (pe_ldiv ⟨h20, h21, h22⟩) rfl))) ?_
            cases h
            exact ci_T.done (v := some (.long _)) cd_X9_odds_95 ⟨rfl, rfl⟩
      · refine ci_T.step cb_X9_odds_18 (pe_pushl pcl_m1) ?_
        cases h
        exact ci_T.done (v := some (.long _)) cd_X9_odds_21 ⟨rfl, rfl⟩
/-- X9_see -/
def f_X9_see (l1 l2 : Int) (ρ : pm) : Option (Int × pm) := (f_X9_isCell l1 ρ).bind (fun v1 => if v1 = 0 then some ((-1), ρ) else ck (inR (ρ 63 39)) (if (ρ 63 39) = 8 then some ((-3), ρ) else ck (0 ≤ 40 + (2 * (ρ 63 39)) ∧ 40 + (2 * (ρ 63 39)) < 168) (jn (pup ρ 63 (40 + (2 * (ρ 63 39))) l1) (fun ρ5 => (f_X9_flag l2).bind (fun v6 => ck (0 ≤ (40 + (2 * (ρ5 63 39))) + 1 ∧ (40 + (2 * (ρ5 63 39))) + 1 < 168) (jn (pup ρ5 63 ((40 + (2 * (ρ5 63 39))) + 1) v6) (fun ρ8 => jn (pup ρ8 63 39 ((ρ8 63 39) + 1)) (fun ρ9 => some (ρ9 63 39, ρ9)))))))))
set_option maxRecDepth 100000 in
theorem s_X9_see (d : Nat)   {ρ : pm} (o : pm) {l1 l2 : Int} {rv : Int} {rρ : pm} (h : f_X9_see l1 l2 ρ = some (rv, rρ)) : ci_Met (d + 2) (yX9_see, cX9_see, 3, (some .int), [], 0, 0) [.ref 63, .int (Int32.ofInt l1), .int (Int32.ofInt l2)] (pk false ρ o) (pP false rv rρ o) := by
  refine ci_met (by decide) (Nat.le_of_ble_eq_true rfl) ?_ ?_
  · rintro v w' ⟨rfl, rfl⟩
    trivial
  · change ci_T _ _ _ _ _ _ ([(0, .ref 63), (1, .int (Int32.ofInt l1)), (2, .int (Int32.ofInt l2))], [], pk false ρ o) _
    unfold f_X9_see at h
    refine ci_T.step cb_X9_see_0 (ci_sq rfl rfl) ?_
    obtain ⟨v1, hv, h⟩ := bn_some h
    refine ci_T.call (as := [_, _]) (rest := []) kc_X9_isCell ki_X9_isCell (by decide) cl_X9_see_2 rfl (Nat.le_of_ble_eq_true rfl) ⟨⟨_, rfl⟩, _, _, _, rfl, pk_obj tq_62 rfl _ _⟩ (s_X9_isCell d o hv) ?_
    rintro _ _ ⟨⟨rfl, rfl⟩, hz2⟩
    clear hv
    refine ci_T.step cb_X9_see_5 (pe_if_ne (Z_R hz2)) ?_
    refine pbrn h (fun hc h => ?_) (fun hc h => ?_)
    · obtain ⟨h3, h⟩ := ck_some h
      refine ci_T.step cb_X9_see_10 (ci_sq rfl (ci_sq (pe_getR tq_62 rfl rfl) (ci_sq (pe_push pc_39) (ci_sq (pe_ald (nI := 168) tq_63 rfl rfl ⟨by decide, by decide⟩) (ci_sq (pe_push pc_8) (pe_ic_ne h3 pR_8)))))) ?_
      refine pbrn h (fun hc h => ?_) (fun hc h => ?_)
      · obtain ⟨h4, h⟩ := ck_some h
        replace h := jn_some h
        refine ci_T.step cb_X9_see_25 (ci_sq rfl (ci_sq (pe_getR tq_62 rfl rfl) (ci_sq (pe_push pc_40) (ci_sq (pe_push pc_2) (ci_sq rfl (ci_sq (pe_getR tq_62 rfl rfl) (ci_sq (pe_push pc_39) (ci_sq (pe_ald (nI := 168) tq_63 rfl rfl ⟨by decide, by decide⟩) (ci_sq pe_imul (ci_sq pe_iadd (ci_sq rfl (ci_sq (pe_ast (nI := 168) tq_63 rfl rfl h4 rfl) (ci_sq rfl (ci_sq (pe_getR tq_62 rfl rfl) (ci_sq (pe_push pc_40) (ci_sq (pe_push pc_2) (ci_sq rfl (ci_sq (pe_getR tq_62 rfl rfl) (ci_sq (pe_push pc_39) (ci_sq (pe_ald (nI := 168) tq_63 rfl rfl ⟨by decide, by decide⟩) (ci_sq pe_imul (ci_sq pe_iadd (ci_sq (pe_push pc_1) (ci_sq pe_iadd rfl)))))))))))))))))))))))) ?_
        obtain ⟨v6, hv, h⟩ := bn_some h
        refine ci_T.call (as := [_]) (rest := [_, _]) kc_X9_flag ki_X9_flag (by decide) cl_X9_see_62 rfl (Nat.le_of_ble_eq_true rfl) trivial (s_X9_flag (d + 1) o hv) ?_
        rintro _ _ ⟨rfl, rfl⟩
        clear hv
        obtain ⟨h7, h⟩ := ck_some h
        replace h := jn_some h
        replace h := jn_some h
        refine ci_T.step cb_X9_see_65 (ci_sq (pe_ast (nI := 168) tq_63 rfl rfl h7 rfl) (ci_sq rfl (ci_sq (pe_getR tq_62 rfl rfl) (ci_sq (pe_push pc_39) (ci_sq rfl (ci_sq (pe_ald (nI := 168) tq_63 rfl rfl ⟨by decide, by decide⟩) (ci_sq (pe_push pc_1) (ci_sq pe_iadd (ci_sq (pe_ast (nI := 168) tq_63 rfl rfl ⟨by decide, by decide⟩ rfl) (ci_sq rfl (ci_sq (pe_getR tq_62 rfl rfl) (ci_sq (pe_push pc_39) (pe_ald (nI := 168) tq_63 rfl rfl ⟨by decide, by decide⟩))))))))))))) ?_
        cases h
        exact ci_T.done (v := some (.int _)) cd_X9_see_84 ⟨rfl, rfl⟩
      · refine ci_T.step cb_X9_see_22 (pe_push pc_m3) ?_
        cases h
        exact ci_T.done (v := some (.int _)) cd_X9_see_24 ⟨rfl, rfl⟩
    · refine ci_T.step cb_X9_see_8 (pe_push pc_m1) ?_
      cases h
      exact ci_T.done (v := some (.int _)) cd_X9_see_9 ⟨rfl, rfl⟩
/-- X9_forget -/
def f_X9_forget (l1 : Int) (ρ : pm) : Option (Int × pm) := ck (inR l1) (ck (inR (ρ 63 39)) ((f_X9_in l1 0 (ρ 63 39)).bind (fun v3 => if v3 = 0 then some ((-1), ρ) else jn (ρ 63 39) (fun x5 => jn (pup ρ 63 39 l1) (fun ρ6 => some (x5, ρ6))))))
set_option maxRecDepth 100000 in
theorem s_X9_forget (d : Nat)   {ρ : pm} (o : pm) {l1 : Int} {rv : Int} {rρ : pm} (h : f_X9_forget l1 ρ = some (rv, rρ)) : ci_Met (d + 1) (yX9_forget, cX9_forget, 3, (some .int), [], 0, 0) [.ref 63, .int (Int32.ofInt l1)] (pk false ρ o) (pP false rv rρ o) := by
  refine ci_met (by decide) (Nat.le_of_ble_eq_true rfl) ?_ ?_
  · rintro v w' ⟨rfl, rfl⟩
    trivial
  · change ci_T _ _ _ _ _ _ ([(0, .ref 63), (1, .int (Int32.ofInt l1))], [], pk false ρ o) _
    unfold f_X9_forget at h
    obtain ⟨h1, h⟩ := ck_some h
    obtain ⟨h2, h⟩ := ck_some h
    refine ci_T.step cb_X9_forget_0 (ci_sq rfl (ci_sq (pe_i2l h1) (ci_sq (pe_pushl pcl_0) (ci_sq rfl (ci_sq (pe_getR tq_62 rfl rfl) (ci_sq (pe_push pc_39) (ci_sq (pe_ald (nI := 168) tq_63 rfl rfl ⟨by decide, by decide⟩) (pe_i2l h2)))))))) ?_
    obtain ⟨v3, hv, h⟩ := bn_some h
    refine ci_T.call (as := [_, _, _]) (rest := []) kc_X9_in ki_X9_in (by decide) cl_X9_forget_11 rfl (Nat.le_of_ble_eq_true rfl) trivial (s_X9_in d o hv) ?_
    rintro _ _ ⟨⟨rfl, rfl⟩, hz4⟩
    clear hv
    refine ci_T.step cb_X9_forget_14 (pe_if_ne (Z_R hz4)) ?_
    refine pbrn h (fun hc h => ?_) (fun hc h => ?_)
    · replace h := jn_some h
      replace h := jn_some h
      refine ci_T.step cb_X9_forget_19 (ci_sq rfl (ci_sq (pe_getR tq_62 rfl rfl) (ci_sq (pe_push pc_39) (ci_sq (pe_ald (nI := 168) tq_63 rfl rfl ⟨by decide, by decide⟩) (ci_sq rfl (ci_sq rfl (ci_sq (pe_getR tq_62 rfl rfl) (ci_sq (pe_push pc_39) (ci_sq rfl (ci_sq (pe_ast (nI := 168) tq_63 rfl rfl ⟨by decide, by decide⟩ rfl) rfl)))))))))) ?_
      cases h
      exact ci_T.done (v := some (.int _)) cd_X9_forget_36 ⟨rfl, rfl⟩
    · refine ci_T.step cb_X9_forget_17 (pe_push pc_m1) ?_
      cases h
      exact ci_T.done (v := some (.int _)) cd_X9_forget_18 ⟨rfl, rfl⟩
/-- X9_isSo -/
def L_X9_isSo_4 (ρ : pm) : Nat → Int → Int → Int → Option Int
  | 0, _, _, _ => none
  | n + 1, l1, l2, l3 => ck (inR l3) (ck (inR (ρ 63 39)) (if (ρ 63 39) ≤ l3 then ck (l2 = 0 ∨ l2 = 1) (some l2) else ck (inR l2) (jn (fun (l1 l3 s0 : Int) => jn (l3 + 1) (fun x5 => L_X9_isSo_4 ρ n l1 s0 x5)) (fun j55 => jn (fun (l1 l3 : Int) => j55 l1 l3 0) (fun j54 => if l2 = 0 then j54 l1 l3 else ck (0 ≤ 40 + (2 * l3) ∧ 40 + (2 * l3) < 168) (ck (0 ≤ (40 + (2 * l3)) + 1 ∧ (40 + (2 * l3)) + 1 < 168) (ck (inR (ρ 63 ((40 + (2 * l3)) + 1))) (if (band (bshr l1 (ρ 63 (40 + (2 * l3)))) 1) = (ρ 63 ((40 + (2 * l3)) + 1)) then j55 l1 l3 1 else j54 l1 l3))))))))
def f_X9_isSo (l1 : Int) (ρ : pm) : Option Int := L_X9_isSo_4 ρ fu l1 1 0
set_option maxRecDepth 100000 in
theorem t_X9_isSo_4 {d : Nat}   {ρ : pm} {o : pm} {rv : Int}   : ∀ (n : Nat) (l1 l2 l3 : Int), L_X9_isSo_4 ρ n l1 l2 l3 = some rv → ci_T yX9_isSo cX9_isSo 4 (some .boolean) d 4 ([(0, .ref 63), (1, .int (Int32.ofInt l1)), (2, .int (Int32.ofInt l2)), (3, .int (Int32.ofInt l3))], [], pk false ρ o) (pZ false rv ρ o) := by
  intro n
  induction n with
  | zero =>
    intro l1 l2 l3 h
    rw [L_X9_isSo_4] at h
    cases h
  | succ n ih =>
    intro l1 l2 l3 h
    rw [L_X9_isSo_4] at h
    obtain ⟨h1, h⟩ := ck_some h
    obtain ⟨h2, h⟩ := ck_some h
    refine ci_T.step cb_X9_isSo_4 (ci_sq rfl (ci_sq rfl (ci_sq (pe_getR tq_62 rfl rfl) (ci_sq (pe_push pc_39) (ci_sq (pe_ald (nI := 168) tq_63 rfl rfl ⟨by decide, by decide⟩) (pe_ic_ge h1 h2)))))) ?_
    refine pbr h (fun hc h => ?_) (fun hc h => ?_)
    · refine ci_T.step cb_X9_isSo_62 rfl ?_
      obtain ⟨h3, h⟩ := ck_some h
      cases h
      exact ci_T.done (v := some (.int _)) cd_X9_isSo_63 ⟨⟨rfl, rfl⟩, h3⟩
    · obtain ⟨h4, h⟩ := ck_some h
      refine ci_T.step cb_X9_isSo_15 (ci_sq rfl (pe_if_eq h4)) ?_
      obtain ⟨j55, hj, h⟩ := jn_ex h
      have J55 : ∀ (l1 l3 s0 : Int), j55 l1 l3 s0 = some rv → ci_T yX9_isSo cX9_isSo 4 (some .boolean) d 55 ([(0, .ref 63), (1, .int (Int32.ofInt l1)), (3, .int (Int32.ofInt l3))], [.int (Int32.ofInt s0)], pk false ρ o) (pZ false rv ρ o) := by
        intro l1 l3 s0 h
        subst hj
        replace h := jn_some h
        refine ci_T.step cb_X9_isSo_55 (ci_sq rfl (ci_sq (pe_inc rfl) rfl)) ?_
        exact ci_T.sub [2, 3, 1, 0] (ih _ _ _ h) rfl
      clear hj
      obtain ⟨j54, hj, h⟩ := jn_ex h
      have J54 : ∀ (l1 l3 : Int), j54 l1 l3 = some rv → ci_T yX9_isSo cX9_isSo 4 (some .boolean) d 54 ([(0, .ref 63), (1, .int (Int32.ofInt l1)), (3, .int (Int32.ofInt l3))], [], pk false ρ o) (pZ false rv ρ o) := by
        intro l1 l3 h
        subst hj
        refine ci_T.step cb_X9_isSo_54 (pe_push pc_0) ?_
        exact ci_T.sub [0, 1, 2] (J55 _ _ _ h) rfl
      clear hj
      refine pbr h (fun hc h => ?_) (fun hc h => ?_)
      · exact ci_T.sub [0, 1, 3] (J54 _ _ h) rfl
      · obtain ⟨h6, h⟩ := ck_some h
        obtain ⟨h7, h⟩ := ck_some h
        obtain ⟨h8, h⟩ := ck_some h
        refine ci_T.step cb_X9_isSo_19 (ci_sq rfl (ci_sq rfl (ci_sq (pe_getR tq_62 rfl rfl) (ci_sq (pe_push pc_40) (ci_sq (pe_push pc_2) (ci_sq rfl (ci_sq pe_imul (ci_sq pe_iadd (ci_sq (pe_ald (nI := 168) tq_63 rfl rfl h6) (ci_sq pe_ishr (ci_sq (pe_push pc_1) (ci_sq pe_iand (ci_sq rfl (ci_sq (pe_getR tq_62 rfl rfl) (ci_sq (pe_push pc_40) (ci_sq (pe_push pc_2) (ci_sq rfl (ci_sq pe_imul (ci_sq pe_iadd (ci_sq (pe_push pc_1) (ci_sq pe_iadd (ci_sq (pe_ald (nI := 168) tq_63 rfl rfl h7) (pe_ic_ne (band_R _ _) h8))))))))))))))))))))))) ?_
        refine pbrn h (fun hc h => ?_) (fun hc h => ?_)
        · exact ci_T.sub [0, 1, 3] (J54 _ _ h) rfl
        · refine ci_T.step cb_X9_isSo_50 (ci_sq (pe_push pc_1) rfl) ?_
          exact ci_T.sub [0, 1, 3] (J55 _ _ _ h) rfl
set_option maxRecDepth 100000 in
theorem s_X9_isSo (d : Nat)   {ρ : pm} (o : pm) {l1 : Int} {rv : Int} (h : f_X9_isSo l1 ρ = some rv) : ci_Met d (yX9_isSo, cX9_isSo, 4, (some .boolean), [], 0, 0) [.ref 63, .int (Int32.ofInt l1)] (pk false ρ o) (pZ false rv ρ o) := by
  refine ci_met (by decide) (Nat.le_of_ble_eq_true rfl) ?_ ?_
  · rintro v w' ⟨⟨rfl, rfl⟩, hz⟩
    exact Z_of hz
  · change ci_T _ _ _ _ _ _ ([(0, .ref 63), (1, .int (Int32.ofInt l1))], [], pk false ρ o) _
    unfold f_X9_isSo at h
    refine ci_T.step cb_X9_isSo_0 (ci_sq (pe_push pc_1) (ci_sq rfl (ci_sq (pe_push pc_0) rfl))) ?_
    exact ci_T.sub [2, 3, 1, 0] (t_X9_isSo_4 fu _ _ _ h) rfl
/-- X9_cutters -/
def L_X9_cutters_4  : Nat → Int → Int → Int → Option Int
  | 0, _, _, _ => none
  | n + 1, l0, l1, l2 => ck (inR l2) (if 3 ≤ l2 then some l1 else (f_X9_cutOf l0 l2).bind (fun v2 => ck (inR v2) (jn (fun (l0 l2 s0 s1 : Int) => (f_X9_flag s1).bind (fun v4 => jn (bor s0 (bshl v4 l2)) (fun x5 => jn (l2 + 1) (fun x6 => L_X9_cutters_4 n l0 x5 x6)))) (fun j23 => if v2 < 0 then j23 l0 l2 l1 0 else j23 l0 l2 l1 1))))
def f_X9_cutters (l0 : Int) : Option Int := L_X9_cutters_4 fu l0 0 0
set_option maxRecDepth 100000 in
theorem t_X9_cutters_4 {d : Nat}   {ρ : pm} {o : pm} {rv : Int}   : ∀ (n : Nat) (l0 l1 l2 : Int), L_X9_cutters_4 n l0 l1 l2 = some rv → ci_T yX9_cutters cX9_cutters 3 (some .int) (d + 1) 4 ([(0, .int (Int32.ofInt l0)), (1, .int (Int32.ofInt l1)), (2, .int (Int32.ofInt l2))], [], pk false ρ o) (pP false rv ρ o) := by
  intro n
  induction n with
  | zero =>
    intro l0 l1 l2 h
    rw [L_X9_cutters_4] at h
    cases h
  | succ n ih =>
    intro l0 l1 l2 h
    rw [L_X9_cutters_4] at h
    obtain ⟨h1, h⟩ := ck_some h
    refine ci_T.step cb_X9_cutters_4 (ci_sq rfl (ci_sq (pe_push pc_3) (pe_ic_ge h1 pR_3))) ?_
    refine pbr h (fun hc h => ?_) (fun hc h => ?_)
    · refine ci_T.step cb_X9_cutters_36 rfl ?_
      cases h
      exact ci_T.done (v := some (.int _)) cd_X9_cutters_37 ⟨rfl, rfl⟩
    · refine ci_T.step cb_X9_cutters_9 (ci_sq rfl (ci_sq rfl rfl)) ?_
      obtain ⟨v2, hv, h⟩ := bn_some h
      refine ci_T.call (as := [_, _]) (rest := [_]) kc_X9_cutOf ki_X9_cutOf (by decide) cl_X9_cutters_12 rfl (Nat.le_of_ble_eq_true rfl) trivial (s_X9_cutOf d o hv) ?_
      rintro _ _ ⟨rfl, rfl⟩
      clear hv
      obtain ⟨h3, h⟩ := ck_some h
      refine ci_T.step cb_X9_cutters_15 (pe_if_lt h3) ?_
      obtain ⟨j23, hj, h⟩ := jn_ex h
      have J23 : ∀ (l0 l2 s0 s1 : Int), j23 l0 l2 s0 s1 = some rv → ci_T yX9_cutters cX9_cutters 3 (some .int) (d + 1) 23 ([(0, .int (Int32.ofInt l0)), (2, .int (Int32.ofInt l2))], [.int (Int32.ofInt s1), .int (Int32.ofInt s0)], pk false ρ o) (pP false rv ρ o) := by
        intro l0 l2 s0 s1 h
        subst hj
        obtain ⟨v4, hv, h⟩ := bn_some h
        refine ci_T.call (as := [_]) (rest := [_]) kc_X9_flag ki_X9_flag (by decide) cl_X9_cutters_23 rfl (Nat.le_of_ble_eq_true rfl) trivial (s_X9_flag d o hv) ?_
        rintro _ _ ⟨rfl, rfl⟩
        clear hv
        replace h := jn_some h
        replace h := jn_some h
        refine ci_T.step cb_X9_cutters_26 (ci_sq rfl (ci_sq pe_ishl (ci_sq pe_ior (ci_sq rfl (ci_sq (pe_inc rfl) rfl))))) ?_
        exact ci_T.sub [2, 1, 0] (ih _ _ _ h) rfl
      clear hj
      refine pbr h (fun hc h => ?_) (fun hc h => ?_)
      · refine ci_T.step cb_X9_cutters_22 (pe_push pc_0) ?_
        exact ci_T.sub [0, 2] (J23 _ _ _ _ h) rfl
      · refine ci_T.step cb_X9_cutters_18 (ci_sq (pe_push pc_1) rfl) ?_
        exact ci_T.sub [0, 2] (J23 _ _ _ _ h) rfl
set_option maxRecDepth 100000 in
theorem s_X9_cutters (d : Nat)   {ρ : pm} (o : pm) {l0 : Int} {rv : Int} (h : f_X9_cutters l0 = some rv) : ci_Met (d + 1) (yX9_cutters, cX9_cutters, 3, (some .int), [], 0, 0) [.int (Int32.ofInt l0)] (pk false ρ o) (pP false rv ρ o) := by
  refine ci_met (by decide) (Nat.le_of_ble_eq_true rfl) ?_ ?_
  · rintro v w' ⟨rfl, rfl⟩
    trivial
  · change ci_T _ _ _ _ _ _ ([(0, .int (Int32.ofInt l0))], [], pk false ρ o) _
    unfold f_X9_cutters at h
    refine ci_T.step cb_X9_cutters_0 (ci_sq (pe_push pc_0) (ci_sq rfl (ci_sq (pe_push pc_0) rfl))) ?_
    exact ci_T.sub [2, 1, 0] (t_X9_cutters_4 fu _ _ _ h) rfl
/-- X9_fits -/
def L_X9_fits_39 (K115 : Int → Int → Int → Int → Int → pm → Option (Int × pm)) : Nat → Int → Int → Int → Int → Int → Int → pm → Option (Int × pm)
  | 0, _, _, _, _, _, _, _ => none
  | n + 1, l1, l2, l3, l4, l5, l6, ρ => (f_X9_allOptions ρ).bind (fun v6 => ck (inR l6) (ck (inR v6) (if v6 ≤ l6 then K115 l1 l2 l3 l4 l5 ρ else (f_X9_yearAt l6 ρ).bind (fun v9 => bn2 (f_X9_bedBy v9 ρ) (fun v10 ρ11 => (f_X9_isSo v10 ρ11).bind (fun v12 => jn (fun (l1 l2 l3 l4 l5 l6 : Int) (ρ : pm) => jn (l6 + 1) (fun x14 => L_X9_fits_39 K115 n l1 l2 l3 l4 l5 x14 ρ)) (fun j109 => if v12 = 0 then j109 l1 l2 l3 l4 l5 l6 ρ11 else ck (inR l2) (jn (fun (l1 l2 l4 l5 l6 l7 s0 : Int) (ρ : pm) => (f_X9_cutters l7).bind (fun v16 => jn (band l4 v16) (fun x17 => (f_X9_cutters l7).bind (fun v18 => jn (bor l5 v18) (fun x19 => jn (l2 + 1) (fun x20 => j109 l1 x20 s0 x17 x19 l6 ρ)))))) (fun j85 => jn (fun (l1 l2 l4 l5 l6 l7 : Int) (ρ : pm) => j85 l1 l2 l4 l5 l6 l7 l7 ρ) (fun j79 => if l2 = 0 then j79 l1 l2 l4 l5 l6 v9 ρ11 else ck (inR v9) (ck (inR l3) (if l3 ≤ v9 then j85 l1 l2 l4 l5 l6 v9 l3 ρ11 else j79 l1 l2 l4 l5 l6 v9 ρ11))))))))))))
def f_X9_fits (l1 : Int) (ρ : pm) : Option (Int × pm) := ck (inR l1) ((f_X9_in l1 0 3).bind (fun v2 => if v2 = 0 then some ((-1), ρ) else (f_X9_findOptions ρ).bind (fun ρ4 => jn ((bshl 1 (ρ4 62 4)) - 1) (fun x5 => L_X9_fits_39 (fun (l1 l2 l3 l4 l5 : Int) (ρ : pm) => ck (inR l1) (jn (fun (l1 l2 : Int) (ρ : pm) => ck (inR l1) (if l1 = 0 then some (l2, ρ) else some ((-4), ρ))) (fun j123 => if l1 = 0 then j123 l1 l2 ρ else ck (inR l2) (if l2 = 0 then j123 l1 l2 ρ else if l1 = 1 then some (l3, ρ) else if l1 = 2 then some (l4, ρ) else some (band ((bshl 1 (ρ 62 4)) - 1) (bxor l5 (-1)), ρ))))) fu l1 0 (-4) x5 0 0 ρ4))))
set_option maxRecDepth 100000 in
theorem t_X9_fits_39 {d : Nat}    {o : pm} {rv : Int} {rρ : pm} {K115 : Int → Int → Int → Int → Int → pm → Option (Int × pm)} (hK115 : ∀ (l1 l2 l3 l4 l5 : Int) (ρ : pm), K115 l1 l2 l3 l4 l5 ρ = some (rv, rρ) → ci_T yX9_fits cX9_fits 8 (some .int) (d + 6) 115 ([(0, .ref 63), (1, .int (Int32.ofInt l1)), (2, .int (Int32.ofInt l2)), (3, .int (Int32.ofInt l3)), (4, .int (Int32.ofInt l4)), (5, .int (Int32.ofInt l5))], [], pk false ρ o) (pP false rv rρ o)) : ∀ (n : Nat) (l1 l2 l3 l4 l5 l6 : Int) (ρ : pm), L_X9_fits_39 K115 n l1 l2 l3 l4 l5 l6 ρ = some (rv, rρ) → ci_T yX9_fits cX9_fits 8 (some .int) (d + 6) 39 ([(0, .ref 63), (1, .int (Int32.ofInt l1)), (2, .int (Int32.ofInt l2)), (3, .int (Int32.ofInt l3)), (4, .int (Int32.ofInt l4)), (5, .int (Int32.ofInt l5)), (6, .int (Int32.ofInt l6))], [], pk false ρ o) (pP false rv rρ o) := by
  intro n
  induction n with
  | zero =>
    intro l1 l2 l3 l4 l5 l6 ρ h
    rw [L_X9_fits_39] at h
    cases h
  | succ n ih =>
    intro l1 l2 l3 l4 l5 l6 ρ h
    rw [L_X9_fits_39] at h
    refine ci_T.step cb_X9_fits_39 (ci_sq rfl rfl) ?_
    obtain ⟨v6, hv, h⟩ := bn_some h
    refine ci_T.call (as := [_]) (rest := [_]) kc_X9_allOptions ki_X9_allOptions (by decide) cl_X9_fits_42 rfl (Nat.le_of_ble_eq_true rfl) ⟨⟨_, rfl⟩, _, _, _, rfl, pk_obj tq_62 rfl _ _⟩ (s_X9_allOptions (d + 5) o hv) ?_
    rintro _ _ ⟨rfl, rfl⟩
    clear hv
    obtain ⟨h7, h⟩ := ck_some h
    obtain ⟨h8, h⟩ := ck_some h
    refine ci_T.step cb_X9_fits_45 (pe_ic_ge h7 h8) ?_
    refine pbr h (fun hc h => ?_) (fun hc h => ?_)
    · exact ci_T.sub [0, 1, 2, 3, 4, 5] (hK115 _ _ _ _ _ _ h) rfl
    · refine ci_T.step cb_X9_fits_48 (ci_sq rfl rfl) ?_
      obtain ⟨v9, hv, h⟩ := bn_some h
      refine ci_T.call (as := [_, _]) (rest := []) kc_X9_yearAt ki_X9_yearAt (by decide) cl_X9_fits_51 rfl (Nat.le_of_ble_eq_true rfl) ⟨⟨_, rfl⟩, _, _, _, rfl, pk_obj tq_62 rfl _ _⟩ (s_X9_yearAt (d + 4) o hv) ?_
      rintro _ _ ⟨rfl, rfl⟩
      clear hv
      refine ci_T.step cb_X9_fits_54 (ci_sq rfl (ci_sq rfl (ci_sq rfl rfl))) ?_
      obtain ⟨v10, ρ11, hv, h⟩ := bn2_some h
      refine ci_T.call (as := [_, _]) (rest := [_]) kc_X9_bedBy ki_X9_bedBy (by decide) cl_X9_fits_60 rfl (Nat.le_of_ble_eq_true rfl) ⟨⟨_, rfl⟩, _, _, _, rfl, pk_obj tq_62 rfl _ _⟩ (s_X9_bedBy d o hv) ?_
      rintro _ _ ⟨rfl, rfl⟩
      clear hv
      obtain ⟨v12, hv, h⟩ := bn_some h
      refine ci_T.call (as := [_, _]) (rest := []) kc_X9_isSo ki_X9_isSo (by decide) cl_X9_fits_63 rfl (Nat.le_of_ble_eq_true rfl) ⟨⟨_, rfl⟩, _, _, _, rfl, pk_obj tq_62 rfl _ _⟩ (s_X9_isSo (d + 5) o hv) ?_
      rintro _ _ ⟨⟨rfl, rfl⟩, hz13⟩
      clear hv
      refine ci_T.step cb_X9_fits_66 (pe_if_eq (Z_R hz13)) ?_
      obtain ⟨j109, hj, h⟩ := jn_ex h
      have J109 : ∀ (l1 l2 l3 l4 l5 l6 : Int) (ρ : pm), j109 l1 l2 l3 l4 l5 l6 ρ = some (rv, rρ) → ci_T yX9_fits cX9_fits 8 (some .int) (d + 6) 109 ([(0, .ref 63), (1, .int (Int32.ofInt l1)), (2, .int (Int32.ofInt l2)), (3, .int (Int32.ofInt l3)), (4, .int (Int32.ofInt l4)), (5, .int (Int32.ofInt l5)), (6, .int (Int32.ofInt l6))], [], pk false ρ o) (pP false rv rρ o) := by
        intro l1 l2 l3 l4 l5 l6 ρ h
        subst hj
        replace h := jn_some h
        refine ci_T.step cb_X9_fits_109 (ci_sq (pe_inc rfl) rfl) ?_
        exact ci_T.sub [1, 2, 3, 4, 5, 6, 0] (ih _ _ _ _ _ _ _ h) rfl
      clear hj
      refine pbr h (fun hc h => ?_) (fun hc h => ?_)
      · exact ci_T.sub [1, 2, 3, 4, 5, 6, 7] (J109 _ _ _ _ _ _ _ h) rfl
      · obtain ⟨h15, h⟩ := ck_some h
        refine ci_T.step cb_X9_fits_69 (ci_sq rfl (pe_if_eq h15)) ?_
        obtain ⟨j85, hj, h⟩ := jn_ex h
        have J85 : ∀ (l1 l2 l4 l5 l6 l7 s0 : Int) (ρ : pm), j85 l1 l2 l4 l5 l6 l7 s0 ρ = some (rv, rρ) → ci_T yX9_fits cX9_fits 8 (some .int) (d + 6) 85 ([(0, .ref 63), (1, .int (Int32.ofInt l1)), (2, .int (Int32.ofInt l2)), (4, .int (Int32.ofInt l4)), (5, .int (Int32.ofInt l5)), (6, .int (Int32.ofInt l6)), (7, .int (Int32.ofInt l7))], [.int (Int32.ofInt s0)], pk false ρ o) (pP false rv rρ o) := by
          intro l1 l2 l4 l5 l6 l7 s0 ρ h
          subst hj
          refine ci_T.step cb_X9_fits_85 (ci_sq rfl (ci_sq rfl rfl)) ?_
          obtain ⟨v16, hv, h⟩ := bn_some h
          refine ci_T.call (as := [_]) (rest := [_]) kc_X9_cutters ki_X9_cutters (by decide) cl_X9_fits_90 rfl (Nat.le_of_ble_eq_true rfl) trivial (s_X9_cutters (d + 4) o hv) ?_
          rintro _ _ ⟨rfl, rfl⟩
          clear hv
          replace h := jn_some h
          refine ci_T.step cb_X9_fits_93 (ci_sq pe_iand (ci_sq rfl (ci_sq rfl rfl))) ?_
          obtain ⟨v18, hv, h⟩ := bn_some h
          refine ci_T.call (as := [_]) (rest := [_]) kc_X9_cutters ki_X9_cutters (by decide) cl_X9_fits_100 rfl (Nat.le_of_ble_eq_true rfl) trivial (s_X9_cutters (d + 4) o hv) ?_
          rintro _ _ ⟨rfl, rfl⟩
          clear hv
          replace h := jn_some h
          replace h := jn_some h
          refine ci_T.step cb_X9_fits_103 (ci_sq pe_ior (ci_sq rfl (pe_inc rfl))) ?_
          exact ci_T.sub [4, 5, 0, 3, 2, 1, 6] (J109 _ _ _ _ _ _ _ h) rfl
        clear hj
        obtain ⟨j79, hj, h⟩ := jn_ex h
        have J79 : ∀ (l1 l2 l4 l5 l6 l7 : Int) (ρ : pm), j79 l1 l2 l4 l5 l6 l7 ρ = some (rv, rρ) → ci_T yX9_fits cX9_fits 8 (some .int) (d + 6) 79 ([(0, .ref 63), (1, .int (Int32.ofInt l1)), (2, .int (Int32.ofInt l2)), (4, .int (Int32.ofInt l4)), (5, .int (Int32.ofInt l5)), (6, .int (Int32.ofInt l6)), (7, .int (Int32.ofInt l7))], [], pk false ρ o) (pP false rv rρ o) := by
          intro l1 l2 l4 l5 l6 l7 ρ h
          subst hj
          refine ci_T.step cb_X9_fits_79 (ci_sq rfl rfl) ?_
          exact ci_T.sub [0, 1, 2, 3, 4, 5, 6] (J85 _ _ _ _ _ _ _ _ h) rfl
        clear hj
        refine pbr h (fun hc h => ?_) (fun hc h => ?_)
        · exact ci_T.sub [1, 2, 3, 5, 6, 7, 0] (J79 _ _ _ _ _ _ _ h) rfl
        · obtain ⟨h21, h⟩ := ck_some h
          obtain ⟨h22, h⟩ := ck_some h
          refine ci_T.step cb_X9_fits_73 (ci_sq rfl (ci_sq rfl (pe_ic_ge h21 h22))) ?_
          refine pbr h (fun hc h => ?_) (fun hc h => ?_)
          · refine ci_T.step cb_X9_fits_84 rfl ?_
            exact ci_T.sub [1, 2, 3, 5, 6, 7, 0] (J85 _ _ _ _ _ _ _ _ h) rfl
          · exact ci_T.sub [1, 2, 3, 5, 6, 7, 0] (J79 _ _ _ _ _ _ _ h) rfl
set_option maxRecDepth 100000 in
theorem s_X9_fits (d : Nat)   {ρ : pm} (o : pm) {l1 : Int} {rv : Int} {rρ : pm} (h : f_X9_fits l1 ρ = some (rv, rρ)) : ci_Met (d + 6) (yX9_fits, cX9_fits, 8, (some .int), [], 0, 0) [.ref 63, .int (Int32.ofInt l1)] (pk false ρ o) (pP false rv rρ o) := by
  refine ci_met (by decide) (Nat.le_of_ble_eq_true rfl) ?_ ?_
  · rintro v w' ⟨rfl, rfl⟩
    trivial
  · change ci_T _ _ _ _ _ _ ([(0, .ref 63), (1, .int (Int32.ofInt l1))], [], pk false ρ o) _
    unfold f_X9_fits at h
    obtain ⟨h1, h⟩ := ck_some h
    refine ci_T.step cb_X9_fits_0 (ci_sq rfl (ci_sq (pe_i2l h1) (ci_sq (pe_pushl pcl_0) (pe_pushl pcl_3)))) ?_
    obtain ⟨v2, hv, h⟩ := bn_some h
    refine ci_T.call (as := [_, _, _]) (rest := []) kc_X9_in ki_X9_in (by decide) cl_X9_fits_6 rfl (Nat.le_of_ble_eq_true rfl) trivial (s_X9_in (d + 5) o hv) ?_
    rintro _ _ ⟨⟨rfl, rfl⟩, hz3⟩
    clear hv
    refine ci_T.step cb_X9_fits_9 (pe_if_ne (Z_R hz3)) ?_
    refine pbrn h (fun hc h => ?_) (fun hc h => ?_)
    · refine ci_T.step cb_X9_fits_14 rfl ?_
      obtain ⟨ρ4, hv, h⟩ := bn_some h
      refine ci_T.call (as := [_]) (rest := []) kc_X9_findOptions ki_X9_findOptions (by decide) cl_X9_fits_15 rfl (Nat.le_of_ble_eq_true rfl) ⟨⟨_, rfl⟩, _, _, _, rfl, pk_obj tq_62 rfl _ _⟩ (s_X9_findOptions d o hv) ?_
      rintro _ _ ⟨rfl, rfl⟩
      clear hv
      replace h := jn_some h
      refine ci_T.step cb_X9_fits_18 (ci_sq (pe_push pc_0) (ci_sq rfl (ci_sq (pe_push pc_m4) (ci_sq rfl (ci_sq (pe_push pc_1) (ci_sq rfl (ci_sq (pe_getI (kI := 4) tq_62 rfl rfl rfl) (ci_sq pe_ishl (ci_sq (pe_push pc_1) (ci_sq pe_isub (ci_sq rfl (ci_sq (pe_push pc_0) (ci_sq rfl (ci_sq (pe_push pc_0) rfl)))))))))))))) ?_
      refine ci_T.sub [5, 6, 4, 3, 2, 1, 0] (t_X9_fits_39 ?_ fu _ _ _ _ _ _ _ h) rfl
      · intro l1 l2 l3 l4 l5 ρ h
        obtain ⟨h23, h⟩ := ck_some h
        refine ci_T.step cb_X9_fits_115 (ci_sq rfl (pe_if_eq h23)) ?_
        obtain ⟨j123, hj, h⟩ := jn_ex h
        have J123 : ∀ (l1 l2 : Int) (ρ : pm), j123 l1 l2 ρ = some (rv, rρ) → ci_T yX9_fits cX9_fits 8 (some .int) (d + 6) 123 ([(1, .int (Int32.ofInt l1)), (2, .int (Int32.ofInt l2))], [], pk false ρ o) (pP false rv rρ o) := by
          intro l1 l2 ρ h
          subst hj
          obtain ⟨h24, h⟩ := ck_some h
          refine ci_T.step cb_X9_fits_123 (ci_sq rfl (pe_if_ne h24)) ?_
          refine pbrn h (fun hc h => ?_) (fun hc h => ?_)
          · refine ci_T.step cb_X9_fits_131 (pe_push pc_m4) ?_
            cases h
            exact ci_T.done (v := some (.int _)) cd_X9_fits_133 ⟨rfl, rfl⟩
          · refine ci_T.step cb_X9_fits_127 (ci_sq rfl rfl) ?_
            cases h
            exact ci_T.done (v := some (.int _)) cd_X9_fits_133 ⟨rfl, rfl⟩
        clear hj
        refine pbr h (fun hc h => ?_) (fun hc h => ?_)
        · exact ci_T.sub [1, 2] (J123 _ _ _ h) rfl
        · obtain ⟨h25, h⟩ := ck_some h
          refine ci_T.step cb_X9_fits_119 (ci_sq rfl (pe_if_ne h25)) ?_
          refine pbrn h (fun hc h => ?_) (fun hc h => ?_)
          · refine ci_T.step cb_X9_fits_134 (ci_sq rfl (ci_sq (pe_push pc_1) (pe_ic_ne h23 pR_1))) ?_
            refine pbrn h (fun hc h => ?_) (fun hc h => ?_)
            · refine ci_T.step cb_X9_fits_143 (ci_sq rfl (ci_sq (pe_push pc_2) (pe_ic_ne h23 pR_2))) ?_
              refine pbrn h (fun hc h => ?_) (fun hc h => ?_)
              · refine ci_T.step cb_X9_fits_153 (ci_sq (pe_push pc_1) (ci_sq rfl (ci_sq (pe_getI (kI := 4) tq_62 rfl rfl rfl) (ci_sq pe_ishl (ci_sq (pe_push pc_1) (ci_sq pe_isub (ci_sq rfl (ci_sq (pe_push pc_m1) (ci_sq pe_ixor pe_iand))))))))) ?_
                cases h
                exact ci_T.done (v := some (.int _)) cd_X9_fits_166 ⟨rfl, rfl⟩
              · refine ci_T.step cb_X9_fits_148 (ci_sq rfl rfl) ?_
                cases h
                exact ci_T.done (v := some (.int _)) cd_X9_fits_166 ⟨rfl, rfl⟩
            · refine ci_T.step cb_X9_fits_139 (ci_sq rfl rfl) ?_
              cases h
              exact ci_T.done (v := some (.int _)) cd_X9_fits_166 ⟨rfl, rfl⟩
          · exact ci_T.sub [1, 2] (J123 _ _ _ h) rfl
    · refine ci_T.step cb_X9_fits_12 (pe_push pc_m1) ?_
      cases h
      exact ci_T.done (v := some (.int _)) cd_X9_fits_13 ⟨rfl, rfl⟩
/-- X9_copies -/
def L_X9_copies_2  : Nat → Int → Int → Int → pm → Option pm
  | 0, _, _, _, _ => none
  | n + 1, l1, l2, l3, ρ => ck (inR l3) (if 56 ≤ l3 then some ρ else ck (0 ≤ l2 + l3 ∧ l2 + l3 < 168) (ck (0 ≤ l1 + l3 ∧ l1 + l3 < 168) (jn (pup ρ 63 (l1 + l3) (ρ 63 (l2 + l3))) (fun ρ4 => jn (l3 + 1) (fun x5 => L_X9_copies_2 n l1 l2 x5 ρ4)))))
def f_X9_copies (l1 l2 : Int) (ρ : pm) : Option pm := L_X9_copies_2 fu l1 l2 0 ρ
set_option maxRecDepth 100000 in
theorem t_X9_copies_2 {d : Nat}    {o : pm} {rρ : pm}   : ∀ (n : Nat) (l1 l2 l3 : Int) (ρ : pm), L_X9_copies_2 n l1 l2 l3 ρ = some rρ → ci_T yX9_copies cX9_copies 4 none d 2 ([(0, .ref 63), (1, .int (Int32.ofInt l1)), (2, .int (Int32.ofInt l2)), (3, .int (Int32.ofInt l3))], [], pk false ρ o) (pV false rρ o) := by
  intro n
  induction n with
  | zero =>
    intro l1 l2 l3 ρ h
    rw [L_X9_copies_2] at h
    cases h
  | succ n ih =>
    intro l1 l2 l3 ρ h
    rw [L_X9_copies_2] at h
    obtain ⟨h1, h⟩ := ck_some h
    refine ci_T.step cb_X9_copies_2 (ci_sq rfl (ci_sq (pe_push pc_56) (pe_ic_ge h1 pR_56))) ?_
    refine pbr h (fun hc h => ?_) (fun hc h => ?_)
    · cases h
      exact ci_T.done (v := none) cd_X9_copies_30 ⟨rfl, rfl⟩
    · obtain ⟨h2, h⟩ := ck_some h
      obtain ⟨h3, h⟩ := ck_some h
      replace h := jn_some h
      replace h := jn_some h
      refine ci_T.step cb_X9_copies_8 (ci_sq rfl (ci_sq (pe_getR tq_62 rfl rfl) (ci_sq rfl (ci_sq rfl (ci_sq pe_iadd (ci_sq rfl (ci_sq (pe_getR tq_62 rfl rfl) (ci_sq rfl (ci_sq rfl (ci_sq pe_iadd (ci_sq (pe_ald (nI := 168) tq_63 rfl rfl h2) (ci_sq (pe_ast (nI := 168) tq_63 rfl rfl h3 rfl) (ci_sq (pe_inc rfl) rfl))))))))))))) ?_
      exact ci_T.sub [1, 2, 3, 0] (ih _ _ _ _ h) rfl
set_option maxRecDepth 100000 in
theorem s_X9_copies (d : Nat)   {ρ : pm} (o : pm) {l1 l2 : Int} {rρ : pm} (h : f_X9_copies l1 l2 ρ = some rρ) : ci_Met d (yX9_copies, cX9_copies, 4, none, [], 0, 0) [.ref 63, .int (Int32.ofInt l1), .int (Int32.ofInt l2)] (pk false ρ o) (pV false rρ o) := by
  refine ci_met (by decide) (Nat.le_of_ble_eq_true rfl) ?_ ?_
  · rintro v w' ⟨rfl, rfl⟩
    trivial
  · change ci_T _ _ _ _ _ _ ([(0, .ref 63), (1, .int (Int32.ofInt l1)), (2, .int (Int32.ofInt l2))], [], pk false ρ o) _
    unfold f_X9_copies at h
    refine ci_T.step cb_X9_copies_0 (ci_sq (pe_push pc_0) rfl) ?_
    exact ci_T.sub [1, 2, 3, 0] (t_X9_copies_2 fu _ _ _ _ h) rfl
/-- X9_keep -/
def f_X9_keep (l1 : Int) (ρ : pm) : Option (Int × pm) := ck (inR l1) ((f_X9_in l1 0 1).bind (fun v2 => if v2 = 0 then some ((-1), ρ) else ck (0 ≤ l1 ∧ l1 < 2) ((f_X9_flag (ρ 64 l1)).bind (fun v5 => jn (pup ρ 64 l1 1) (fun ρ6 => (f_X9_copies (56 * (l1 + 1)) 0 ρ6).bind (fun ρ7 => some (v5, ρ7)))))))
set_option maxRecDepth 100000 in
theorem s_X9_keep (d : Nat)   {ρ : pm} (o : pm) {l1 : Int} {rv : Int} {rρ : pm} (h : f_X9_keep l1 ρ = some (rv, rρ)) : ci_Met (d + 1) (yX9_keep, cX9_keep, 3, (some .int), [], 0, 0) [.ref 63, .int (Int32.ofInt l1)] (pk false ρ o) (pP false rv rρ o) := by
  refine ci_met (by decide) (Nat.le_of_ble_eq_true rfl) ?_ ?_
  · rintro v w' ⟨rfl, rfl⟩
    trivial
  · change ci_T _ _ _ _ _ _ ([(0, .ref 63), (1, .int (Int32.ofInt l1))], [], pk false ρ o) _
    unfold f_X9_keep at h
    obtain ⟨h1, h⟩ := ck_some h
    refine ci_T.step cb_X9_keep_0 (ci_sq rfl (ci_sq (pe_i2l h1) (ci_sq (pe_pushl pcl_0) (pe_pushl pcl_1)))) ?_
    obtain ⟨v2, hv, h⟩ := bn_some h
    refine ci_T.call (as := [_, _, _]) (rest := []) kc_X9_in ki_X9_in (by decide) cl_X9_keep_4 rfl (Nat.le_of_ble_eq_true rfl) trivial (s_X9_in d o hv) ?_
    rintro _ _ ⟨⟨rfl, rfl⟩, hz3⟩
    clear hv
    refine ci_T.step cb_X9_keep_7 (pe_if_ne (Z_R hz3)) ?_
    refine pbrn h (fun hc h => ?_) (fun hc h => ?_)
    · obtain ⟨h4, h⟩ := ck_some h
      refine ci_T.step cb_X9_keep_12 (ci_sq rfl (ci_sq (pe_getR tq_62 rfl rfl) (ci_sq rfl (pe_ald (nI := 2) tq_64 rfl rfl h4)))) ?_
      obtain ⟨v5, hv, h⟩ := bn_some h
      refine ci_T.call (as := [_]) (rest := []) kc_X9_flag ki_X9_flag (by decide) cl_X9_keep_18 rfl (Nat.le_of_ble_eq_true rfl) trivial (s_X9_flag d o hv) ?_
      rintro _ _ ⟨rfl, rfl⟩
      clear hv
      replace h := jn_some h
      refine ci_T.step cb_X9_keep_21 (ci_sq rfl (ci_sq rfl (ci_sq (pe_getR tq_62 rfl rfl) (ci_sq rfl (ci_sq (pe_push pc_1) (ci_sq (pe_ast (nI := 2) tq_64 rfl rfl h4 (by decide)) (ci_sq rfl (ci_sq (pe_push pc_56) (ci_sq rfl (ci_sq (pe_push pc_1) (ci_sq pe_iadd (ci_sq pe_imul (pe_push pc_0))))))))))))) ?_
      obtain ⟨ρ7, hv, h⟩ := bn_some h
      refine ci_T.call (as := [_, _, _]) (rest := []) kc_X9_copies ki_X9_copies (by decide) cl_X9_keep_37 rfl (Nat.le_of_ble_eq_true rfl) ⟨⟨_, rfl⟩, _, _, _, rfl, pk_obj tq_62 rfl _ _⟩ (s_X9_copies d o hv) ?_
      rintro _ _ ⟨rfl, rfl⟩
      clear hv
      refine ci_T.step cb_X9_keep_40 rfl ?_
      cases h
      exact ci_T.done (v := some (.int _)) cd_X9_keep_41 ⟨rfl, rfl⟩
    · refine ci_T.step cb_X9_keep_10 (pe_push pc_m1) ?_
      cases h
      exact ci_T.done (v := some (.int _)) cd_X9_keep_11 ⟨rfl, rfl⟩
/-- X9_back -/
def f_X9_back (l1 : Int) (ρ : pm) : Option (Int × pm) := ck (inR l1) ((f_X9_in l1 0 1).bind (fun v2 => if v2 = 0 then some ((-1), ρ) else ck (0 ≤ l1 ∧ l1 < 2) (ck (inR (ρ 64 l1)) (if (ρ 64 l1) = 0 then some ((-2), ρ) else (f_X9_copies 0 (56 * (l1 + 1)) ρ).bind (fun ρ6 => some (ρ6 63 31, ρ6))))))
set_option maxRecDepth 100000 in
theorem s_X9_back (d : Nat)   {ρ : pm} (o : pm) {l1 : Int} {rv : Int} {rρ : pm} (h : f_X9_back l1 ρ = some (rv, rρ)) : ci_Met (d + 1) (yX9_back, cX9_back, 2, (some .int), [], 0, 0) [.ref 63, .int (Int32.ofInt l1)] (pk false ρ o) (pP false rv rρ o) := by
  refine ci_met (by decide) (Nat.le_of_ble_eq_true rfl) ?_ ?_
  · rintro v w' ⟨rfl, rfl⟩
    trivial
  · change ci_T _ _ _ _ _ _ ([(0, .ref 63), (1, .int (Int32.ofInt l1))], [], pk false ρ o) _
    unfold f_X9_back at h
    obtain ⟨h1, h⟩ := ck_some h
    refine ci_T.step cb_X9_back_0 (ci_sq rfl (ci_sq (pe_i2l h1) (ci_sq (pe_pushl pcl_0) (pe_pushl pcl_1)))) ?_
    obtain ⟨v2, hv, h⟩ := bn_some h
    refine ci_T.call (as := [_, _, _]) (rest := []) kc_X9_in ki_X9_in (by decide) cl_X9_back_4 rfl (Nat.le_of_ble_eq_true rfl) trivial (s_X9_in d o hv) ?_
    rintro _ _ ⟨⟨rfl, rfl⟩, hz3⟩
    clear hv
    refine ci_T.step cb_X9_back_7 (pe_if_ne (Z_R hz3)) ?_
    refine pbrn h (fun hc h => ?_) (fun hc h => ?_)
    · obtain ⟨h4, h⟩ := ck_some h
      obtain ⟨h5, h⟩ := ck_some h
      refine ci_T.step cb_X9_back_12 (ci_sq rfl (ci_sq (pe_getR tq_62 rfl rfl) (ci_sq rfl (ci_sq (pe_ald (nI := 2) tq_64 rfl rfl h4) (pe_if_ne h5))))) ?_
      refine pbrn h (fun hc h => ?_) (fun hc h => ?_)
      · refine ci_T.step cb_X9_back_24 (ci_sq rfl (ci_sq (pe_push pc_0) (ci_sq (pe_push pc_56) (ci_sq rfl (ci_sq (pe_push pc_1) (ci_sq pe_iadd pe_imul)))))) ?_
        obtain ⟨ρ6, hv, h⟩ := bn_some h
        refine ci_T.call (as := [_, _, _]) (rest := []) kc_X9_copies ki_X9_copies (by decide) cl_X9_back_32 rfl (Nat.le_of_ble_eq_true rfl) ⟨⟨_, rfl⟩, _, _, _, rfl, pk_obj tq_62 rfl _ _⟩ (s_X9_copies d o hv) ?_
        rintro _ _ ⟨rfl, rfl⟩
        clear hv
        refine ci_T.step cb_X9_back_35 (ci_sq rfl (ci_sq (pe_getR tq_62 rfl rfl) (ci_sq (pe_push pc_31) (pe_ald (nI := 168) tq_63 rfl rfl ⟨by decide, by decide⟩)))) ?_
        cases h
        exact ci_T.done (v := some (.int _)) cd_X9_back_42 ⟨rfl, rfl⟩
      · refine ci_T.step cb_X9_back_21 (pe_push pc_m2) ?_
        cases h
        exact ci_T.done (v := some (.int _)) cd_X9_back_23 ⟨rfl, rfl⟩
    · refine ci_T.step cb_X9_back_10 (pe_push pc_m1) ?_
      cases h
      exact ci_T.done (v := some (.int _)) cd_X9_back_11 ⟨rfl, rfl⟩
/-- X9_isSheet -/
def f_X9_isSheet (l0 l1 : Int) : Option Int := ck (inR l0) ((f_X9_in l0 0 3).bind (fun v2 => if v2 = 0 then some 0 else ck (inR l1) ((f_X9_in l1 0 2).bind (fun v5 => if v5 = 0 then some 0 else some 1))))
set_option maxRecDepth 100000 in
theorem s_X9_isSheet (d : Nat)   {ρ : pm} (o : pm) {l0 l1 : Int} {rv : Int} (h : f_X9_isSheet l0 l1 = some rv) : ci_Met (d + 1) (yX9_isSheet, cX9_isSheet, 2, (some .boolean), [], 0, 0) [.int (Int32.ofInt l0), .int (Int32.ofInt l1)] (pk false ρ o) (pZ false rv ρ o) := by
  refine ci_met (by decide) (Nat.le_of_ble_eq_true rfl) ?_ ?_
  · rintro v w' ⟨⟨rfl, rfl⟩, hz⟩
    exact Z_of hz
  · change ci_T _ _ _ _ _ _ ([(0, .int (Int32.ofInt l0)), (1, .int (Int32.ofInt l1))], [], pk false ρ o) _
    unfold f_X9_isSheet at h
    obtain ⟨h1, h⟩ := ck_some h
    refine ci_T.step cb_X9_isSheet_0 (ci_sq rfl (ci_sq (pe_i2l h1) (ci_sq (pe_pushl pcl_0) (pe_pushl pcl_3)))) ?_
    obtain ⟨v2, hv, h⟩ := bn_some h
    refine ci_T.call (as := [_, _, _]) (rest := []) kc_X9_in ki_X9_in (by decide) cl_X9_isSheet_6 rfl (Nat.le_of_ble_eq_true rfl) trivial (s_X9_in d o hv) ?_
    rintro _ _ ⟨⟨rfl, rfl⟩, hz3⟩
    clear hv
    refine ci_T.step cb_X9_isSheet_9 (pe_if_eq (Z_R hz3)) ?_
    refine pbr h (fun hc h => ?_) (fun hc h => ?_)
    · refine ci_T.step cb_X9_isSheet_28 (pe_push pc_0) ?_
      cases h
      exact ci_T.done (v := some (.int _)) cd_X9_isSheet_29 ⟨⟨rfl, rfl⟩, (Or.inl rfl)⟩
    · obtain ⟨h4, h⟩ := ck_some h
      refine ci_T.step cb_X9_isSheet_12 (ci_sq rfl (ci_sq (pe_i2l h4) (ci_sq (pe_pushl pcl_0) (pe_pushl pcl_2)))) ?_
      obtain ⟨v5, hv, h⟩ := bn_some h
      refine ci_T.call (as := [_, _, _]) (rest := []) kc_X9_in ki_X9_in (by decide) cl_X9_isSheet_18 rfl (Nat.le_of_ble_eq_true rfl) trivial (s_X9_in d o hv) ?_
      rintro _ _ ⟨⟨rfl, rfl⟩, hz6⟩
      clear hv
      refine ci_T.step cb_X9_isSheet_21 (pe_if_eq (Z_R hz6)) ?_
      refine pbr h (fun hc h => ?_) (fun hc h => ?_)
      · refine ci_T.step cb_X9_isSheet_28 (pe_push pc_0) ?_
        cases h
        exact ci_T.done (v := some (.int _)) cd_X9_isSheet_29 ⟨⟨rfl, rfl⟩, (Or.inl rfl)⟩
      · refine ci_T.step cb_X9_isSheet_24 (ci_sq (pe_push pc_1) rfl) ?_
        cases h
        exact ci_T.done (v := some (.int _)) cd_X9_isSheet_29 ⟨⟨rfl, rfl⟩, (Or.inr rfl)⟩
/-- X9_sheet -/
def L_X9_sheet_40  : Nat → Int → Int → pm → Option (Int × pm)
  | 0, _, _, _ => none
  | n + 1, l1, l4, ρ => ck (inR l4) (if 40 ≤ l4 then some (1, ρ) else ck (0 ≤ (40 * l1) + l4 ∧ (40 * l1) + l4 < 160) (jn (pup ρ 83 ((40 * l1) + l4) 0) (fun ρ9 => jn (l4 + 1) (fun x10 => L_X9_sheet_40 n l1 x10 ρ9))))
def f_X9_sheet (l1 l2 l3 : Int) (ρ : pm) : Option (Int × pm) := (f_X9_isSheet l1 l2).bind (fun v1 => if v1 = 0 then some ((-1), ρ) else ck (inR l3) (if l3 ≤ 40 then if 0 ≤ l3 then ck (0 ≤ l1 ∧ l1 < 4) (jn (pup ρ 81 l1 l2) (fun ρ5 => jn (pup ρ5 82 l1 l3) (fun ρ6 => L_X9_sheet_40 fu l1 0 ρ6))) else some ((-14), ρ) else some ((-1), ρ)))
set_option maxRecDepth 100000 in
theorem t_X9_sheet_40 {d : Nat}    {o : pm} {rv : Int} {rρ : pm}   : ∀ (n : Nat) (l1 l4 : Int) (ρ : pm), L_X9_sheet_40 n l1 l4 ρ = some (rv, rρ) → ci_T yX9_sheet cX9_sheet 5 (some .int) (d + 2) 40 ([(0, .ref 63), (1, .int (Int32.ofInt l1)), (4, .int (Int32.ofInt l4))], [], pk false ρ o) (pP false rv rρ o) := by
  intro n
  induction n with
  | zero =>
    intro l1 l4 ρ h
    rw [L_X9_sheet_40] at h
    cases h
  | succ n ih =>
    intro l1 l4 ρ h
    rw [L_X9_sheet_40] at h
    obtain ⟨h7, h⟩ := ck_some h
    refine ci_T.step cb_X9_sheet_40 (ci_sq rfl (ci_sq (pe_push pc_40) (pe_ic_ge h7 pR_40))) ?_
    refine pbr h (fun hc h => ?_) (fun hc h => ?_)
    · refine ci_T.step cb_X9_sheet_66 (pe_push pc_1) ?_
      cases h
      exact ci_T.done (v := some (.int _)) cd_X9_sheet_67 ⟨rfl, rfl⟩
    · obtain ⟨h8, h⟩ := ck_some h
      replace h := jn_some h
      replace h := jn_some h
      refine ci_T.step cb_X9_sheet_47 (ci_sq rfl (ci_sq (pe_getR tq_62 rfl rfl) (ci_sq (pe_push pc_40) (ci_sq rfl (ci_sq pe_imul (ci_sq rfl (ci_sq pe_iadd (ci_sq (pe_push pc_0) (ci_sq (pe_ast (nI := 160) tq_83 rfl rfl h8 rfl) (ci_sq (pe_inc rfl) rfl)))))))))) ?_
      exact ci_T.sub [1, 2, 0] (ih _ _ _ h) rfl
set_option maxRecDepth 100000 in
theorem s_X9_sheet (d : Nat)   {ρ : pm} (o : pm) {l1 l2 l3 : Int} {rv : Int} {rρ : pm} (h : f_X9_sheet l1 l2 l3 ρ = some (rv, rρ)) : ci_Met (d + 2) (yX9_sheet, cX9_sheet, 5, (some .int), [], 0, 0) [.ref 63, .int (Int32.ofInt l1), .int (Int32.ofInt l2), .int (Int32.ofInt l3)] (pk false ρ o) (pP false rv rρ o) := by
  refine ci_met (by decide) (Nat.le_of_ble_eq_true rfl) ?_ ?_
  · rintro v w' ⟨rfl, rfl⟩
    trivial
  · change ci_T _ _ _ _ _ _ ([(0, .ref 63), (1, .int (Int32.ofInt l1)), (2, .int (Int32.ofInt l2)), (3, .int (Int32.ofInt l3))], [], pk false ρ o) _
    unfold f_X9_sheet at h
    refine ci_T.step cb_X9_sheet_0 (ci_sq rfl rfl) ?_
    obtain ⟨v1, hv, h⟩ := bn_some h
    refine ci_T.call (as := [_, _]) (rest := []) kc_X9_isSheet ki_X9_isSheet (by decide) cl_X9_sheet_2 rfl (Nat.le_of_ble_eq_true rfl) trivial (s_X9_isSheet d o hv) ?_
    rintro _ _ ⟨⟨rfl, rfl⟩, hz2⟩
    clear hv
    refine ci_T.step cb_X9_sheet_5 (pe_if_eq (Z_R hz2)) ?_
    refine pbr h (fun hc h => ?_) (fun hc h => ?_)
    · refine ci_T.step cb_X9_sheet_14 (pe_push pc_m1) ?_
      cases h
      exact ci_T.done (v := some (.int _)) cd_X9_sheet_15 ⟨rfl, rfl⟩
    · obtain ⟨h3, h⟩ := ck_some h
      refine ci_T.step cb_X9_sheet_8 (ci_sq rfl (ci_sq (pe_push pc_40) (pe_ic_le h3 pR_40))) ?_
      refine pbr h (fun hc h => ?_) (fun hc h => ?_)
      · refine ci_T.step cb_X9_sheet_16 (ci_sq rfl (pe_if_ge h3)) ?_
        refine pbr h (fun hc h => ?_) (fun hc h => ?_)
        · obtain ⟨h4, h⟩ := ck_some h
          replace h := jn_some h
          replace h := jn_some h
          refine ci_T.step cb_X9_sheet_23 (ci_sq rfl (ci_sq (pe_getR tq_62 rfl rfl) (ci_sq rfl (ci_sq rfl (ci_sq (pe_ast (nI := 4) tq_81 rfl rfl h4 rfl) (ci_sq rfl (ci_sq (pe_getR tq_62 rfl rfl) (ci_sq rfl (ci_sq rfl (ci_sq (pe_ast (nI := 4) tq_82 rfl rfl h4 rfl) (ci_sq (pe_push pc_0) rfl))))))))))) ?_
          exact ci_T.sub [1, 2, 0] (t_X9_sheet_40 fu _ _ _ h) rfl
        · refine ci_T.step cb_X9_sheet_20 (pe_push pc_m14) ?_
          cases h
          exact ci_T.done (v := some (.int _)) cd_X9_sheet_22 ⟨rfl, rfl⟩
      · refine ci_T.step cb_X9_sheet_14 (pe_push pc_m1) ?_
        cases h
        exact ci_T.done (v := some (.int _)) cd_X9_sheet_15 ⟨rfl, rfl⟩
/-- X9_lay -/
def f_X9_lay (l1 l2 l3 : Int) (ρ : pm) : Option (Int × pm) := (f_X9_isSheet l1 0).bind (fun v1 => if v1 = 0 then some ((-1), ρ) else ck (0 ≤ l1 ∧ l1 < 4) (ck (inR (ρ 81 l1)) (if (ρ 81 l1) = (-4) then some ((-11), ρ) else ck (inR l2) (ck (inR ((ρ 82 l1) - 1)) ((f_X9_in l2 0 ((ρ 82 l1) - 1)).bind (fun v7 => if v7 = 0 then some ((-12), ρ) else if (ρ 81 l1) = 0 then ck (0 ≤ (40 * l1) + l2 ∧ (40 * l1) + l2 < 160) (jn (pup ρ 83 ((40 * l1) + l2) (b8 l3)) (fun ρ14 => some (1, ρ14))) else if (ρ 81 l1) = 1 then ck (0 ≤ (40 * l1) + l2 ∧ (40 * l1) + l2 < 160) (jn (pup ρ 83 ((40 * l1) + l2) (s16 l3)) (fun ρ12 => some (1, ρ12))) else ck (0 ≤ (40 * l1) + l2 ∧ (40 * l1) + l2 < 160) (jn (pup ρ 83 ((40 * l1) + l2) l3) (fun ρ10 => some (1, ρ10)))))))))
set_option maxRecDepth 100000 in
theorem s_X9_lay (d : Nat)   {ρ : pm} (o : pm) {l1 l2 l3 : Int} {rv : Int} {rρ : pm} (h : f_X9_lay l1 l2 l3 ρ = some (rv, rρ)) : ci_Met (d + 2) (yX9_lay, cX9_lay, 4, (some .int), [], 0, 0) [.ref 63, .int (Int32.ofInt l1), .int (Int32.ofInt l2), .int (Int32.ofInt l3)] (pk false ρ o) (pP false rv rρ o) := by
  refine ci_met (by decide) (Nat.le_of_ble_eq_true rfl) ?_ ?_
  · rintro v w' ⟨rfl, rfl⟩
    trivial
  · change ci_T _ _ _ _ _ _ ([(0, .ref 63), (1, .int (Int32.ofInt l1)), (2, .int (Int32.ofInt l2)), (3, .int (Int32.ofInt l3))], [], pk false ρ o) _
    unfold f_X9_lay at h
    refine ci_T.step cb_X9_lay_0 (ci_sq rfl (pe_push pc_0)) ?_
    obtain ⟨v1, hv, h⟩ := bn_some h
    refine ci_T.call (as := [_, _]) (rest := []) kc_X9_isSheet ki_X9_isSheet (by decide) cl_X9_lay_2 rfl (Nat.le_of_ble_eq_true rfl) trivial (s_X9_isSheet d o hv) ?_
    rintro _ _ ⟨⟨rfl, rfl⟩, hz2⟩
    clear hv
    refine ci_T.step cb_X9_lay_5 (pe_if_ne (Z_R hz2)) ?_
    refine pbrn h (fun hc h => ?_) (fun hc h => ?_)
    · obtain ⟨h3, h⟩ := ck_some h
      obtain ⟨h4, h⟩ := ck_some h
      refine ci_T.step cb_X9_lay_10 (ci_sq rfl (ci_sq (pe_getR tq_62 rfl rfl) (ci_sq rfl (ci_sq (pe_ald (nI := 4) tq_81 rfl rfl h3) (ci_sq (pe_push pc_m4) (pe_ic_ne h4 pR_m4)))))) ?_
      refine pbrn h (fun hc h => ?_) (fun hc h => ?_)
      · obtain ⟨h5, h⟩ := ck_some h
        obtain ⟨h6, h⟩ := ck_some h
        refine ci_T.step cb_X9_lay_24 (ci_sq rfl (ci_sq (pe_i2l h5) (ci_sq (pe_pushl pcl_0) (ci_sq rfl (ci_sq (pe_getR tq_62 rfl rfl) (ci_sq rfl (ci_sq (pe_ald (nI := 4) tq_82 rfl rfl h3) (ci_sq (pe_push pc_1) (ci_sq pe_isub (pe_i2l h6)))))))))) ?_
        obtain ⟨v7, hv, h⟩ := bn_some h
        refine ci_T.call (as := [_, _, _]) (rest := []) kc_X9_in ki_X9_in (by decide) cl_X9_lay_36 rfl (Nat.le_of_ble_eq_true rfl) trivial (s_X9_in (d + 1) o hv) ?_
        rintro _ _ ⟨⟨rfl, rfl⟩, hz8⟩
        clear hv
        refine ci_T.step cb_X9_lay_39 (pe_if_ne (Z_R hz8)) ?_
        refine pbrn h (fun hc h => ?_) (fun hc h => ?_)
        · refine ci_T.step cb_X9_lay_45 (ci_sq rfl (ci_sq (pe_getR tq_62 rfl rfl) (ci_sq (pe_push pc_40) (ci_sq rfl (ci_sq pe_imul (ci_sq rfl (ci_sq pe_iadd (ci_sq rfl (ci_sq (pe_getR tq_62 rfl rfl) (ci_sq rfl (ci_sq (pe_ald (nI := 4) tq_81 rfl rfl h3) (pe_if_ne h4)))))))))))) ?_
          refine pbrn h (fun hc h => ?_) (fun hc h => ?_)
          · refine ci_T.step cb_X9_lay_69 (ci_sq rfl (ci_sq (pe_getR tq_62 rfl rfl) (ci_sq rfl (ci_sq (pe_ald (nI := 4) tq_81 rfl rfl h3) (ci_sq (pe_push pc_1) (pe_ic_ne h4 pR_1)))))) ?_
            refine pbrn h (fun hc h => ?_) (fun hc h => ?_)
            · refine ci_T.step cb_X9_lay_84 rfl ?_
              obtain ⟨h9, h⟩ := ck_some h
              replace h := jn_some h
              refine ci_T.step cb_X9_lay_85 (ci_sq (pe_ast (nI := 160) tq_83 rfl rfl h9 rfl) (pe_push pc_1)) ?_
              cases h
              exact ci_T.done (v := some (.int _)) cd_X9_lay_87 ⟨rfl, rfl⟩
            · refine ci_T.step cb_X9_lay_79 (ci_sq rfl (ci_sq pe_i2s rfl)) ?_
              obtain ⟨h11, h⟩ := ck_some h
              replace h := jn_some h
              refine ci_T.step cb_X9_lay_85 (ci_sq (pe_ast (nI := 160) tq_83 rfl rfl h11 rfl) (pe_push pc_1)) ?_
              cases h
              exact ci_T.done (v := some (.int _)) cd_X9_lay_87 ⟨rfl, rfl⟩
          · refine ci_T.step cb_X9_lay_64 (ci_sq rfl (ci_sq pe_i2b rfl)) ?_
            obtain ⟨h13, h⟩ := ck_some h
            replace h := jn_some h
            refine ci_T.step cb_X9_lay_85 (ci_sq (pe_ast (nI := 160) tq_83 rfl rfl h13 rfl) (pe_push pc_1)) ?_
            cases h
            exact ci_T.done (v := some (.int _)) cd_X9_lay_87 ⟨rfl, rfl⟩
        · refine ci_T.step cb_X9_lay_42 (pe_push pc_m12) ?_
          cases h
          exact ci_T.done (v := some (.int _)) cd_X9_lay_44 ⟨rfl, rfl⟩
      · refine ci_T.step cb_X9_lay_21 (pe_push pc_m11) ?_
        cases h
        exact ci_T.done (v := some (.int _)) cd_X9_lay_23 ⟨rfl, rfl⟩
    · refine ci_T.step cb_X9_lay_8 (pe_push pc_m1) ?_
      cases h
      exact ci_T.done (v := some (.int _)) cd_X9_lay_9 ⟨rfl, rfl⟩
/-- X9_read -/
def L_X9_read_35 (K62 : Int → Int → Int → Int → Int → pm → Option (Int × pm)) : Nat → Int → Int → Int → Int → Int → Int → pm → Option (Int × pm)
  | 0, _, _, _, _, _, _, _ => none
  | n + 1, l1, l2, l3, l4, l5, l6, ρ => ck (inR l6) (if 25 ≤ l6 then K62 l1 l2 l3 l4 l5 ρ else ck (0 ≤ l6 ∧ l6 < 168) (ck (0 ≤ l6 ∧ l6 < 25) (jn (pup ρ 84 l6 (ρ 63 l6)) (fun ρ10 => jn (l6 + 1) (fun x11 => L_X9_read_35 K62 n l1 l2 l3 l4 l5 x11 ρ10)))))
def L_X9_read_71 (K173 : Int → Int → pm → Option (Int × pm)) : Nat → Int → Int → Int → Int → Int → Int → Int → Int → pm → Option (Int × pm)
  | 0, _, _, _, _, _, _, _, _, _ => none
  | n + 1, l1, l2, l3, l4, l5, l6, l7, l8, ρ => ck (inR l8) (ck (inR l4) (if l4 ≤ l8 then jn (pup ρ 62 45 l6) (fun ρ14 => some (l7, ρ14)) else ck (inR l6) (if l6 = 0 then ck (inR l3) (jn (l3 + l8) (fun x18 => ck (0 ≤ l1 ∧ l1 < 4) (ck (inR (ρ 81 l1)) (jn (fun (l1 l2 l3 l4 l5 l7 l8 s0 : Int) (ρ : pm) => ck (inR s0) (jn (fun (l1 l2 l3 l4 l5 l6 l7 l8 : Int) (ρ : pm) => jn (l8 + 1) (fun x22 => L_X9_read_71 K173 n l1 l2 l3 l4 l5 l6 l7 x22 ρ)) (fun j221 => if s0 = 0 then ck (0 ≤ ((40 * l1) + l3) + l8 ∧ ((40 * l1) + l3) + l8 < 160) (bn2 (f_X9_year (ρ 83 (((40 * l1) + l3) + l8)) ρ) (fun v24 ρ25 => ck (inR v24) (if 0 ≤ v24 then jn (l7 + 1) (fun x27 => j221 l1 l2 l3 l4 l5 s0 x27 l8 ρ25) else K173 l5 l8 ρ25))) else j221 l1 l2 l3 l4 l5 s0 l7 l8 ρ))) (fun j145 => if (ρ 81 l1) = (-4) then j145 l1 l2 l3 l4 l5 l7 l8 1 ρ else ck (inR l2) (if (ρ 81 l1) = l2 then ck (inL x18) (jn (fun (l1 l2 l3 l4 l5 l7 l8 : Int) (ρ : pm) => j145 l1 l2 l3 l4 l5 l7 l8 2 ρ) (fun j140 => if (lcm64 x18 0) < 0 then j140 l1 l2 l3 l4 l5 l7 l8 ρ else ck (inR (ρ 82 l1)) (if (lcm64 x18 (ρ 82 l1)) < 0 then j145 l1 l2 l3 l4 l5 l7 l8 0 ρ else j140 l1 l2 l3 l4 l5 l7 l8 ρ))) else j145 l1 l2 l3 l4 l5 l7 l8 3 ρ)))))) else jn (pup ρ 62 45 l6) (fun ρ16 => some (l7, ρ16)))))
def L_X9_read_185  : Nat → Int → Int → pm → Option (Int × pm)
  | 0, _, _, _ => none
  | n + 1, l8, l11, ρ => ck (inR l11) (if 25 ≤ l11 then some ((-20) - l8, ρ) else ck (0 ≤ l11 ∧ l11 < 25) (ck (0 ≤ l11 ∧ l11 < 168) (jn (pup ρ 63 l11 (ρ 84 l11)) (fun ρ35 => jn (l11 + 1) (fun x36 => L_X9_read_185 n l8 x36 ρ35)))))
def f_X9_read (l1 l2 l3 l4 : Int) (ρ : pm) : Option (Int × pm) := (f_X9_isSheet l1 l2).bind (fun v1 => if v1 = 0 then some ((-1), ρ) else ck (inR l4) ((f_X9_in l4 0 20).bind (fun v4 => if v4 = 0 then some ((-1), ρ) else jn (ρ 63 31) (fun x6 => L_X9_read_35 (fun (l1 l2 l3 l4 l5 : Int) (ρ : pm) => L_X9_read_71 (fun (l5 l8 : Int) (ρ : pm) => jn (pup ρ 63 31 l5) (fun ρ31 => L_X9_read_185 fu l8 0 ρ31)) fu l1 l2 l3 l4 l5 0 0 0 ρ) fu l1 l2 l3 l4 x6 0 ρ))))
set_option maxRecDepth 100000 in
theorem t_X9_read_35 {d : Nat}    {o : pm} {rv : Int} {rρ : pm} {K62 : Int → Int → Int → Int → Int → pm → Option (Int × pm)} (hK62 : ∀ (l1 l2 l3 l4 l5 : Int) (ρ : pm), K62 l1 l2 l3 l4 l5 ρ = some (rv, rρ) → ci_T yX9_read cX9_read 12 (some .int) (d + 8) 62 ([(0, .ref 63), (1, .int (Int32.ofInt l1)), (2, .int (Int32.ofInt l2)), (3, .int (Int32.ofInt l3)), (4, .int (Int32.ofInt l4)), (5, .int (Int32.ofInt l5))], [], pk false ρ o) (pP false rv rρ o)) : ∀ (n : Nat) (l1 l2 l3 l4 l5 l6 : Int) (ρ : pm), L_X9_read_35 K62 n l1 l2 l3 l4 l5 l6 ρ = some (rv, rρ) → ci_T yX9_read cX9_read 12 (some .int) (d + 8) 35 ([(0, .ref 63), (1, .int (Int32.ofInt l1)), (2, .int (Int32.ofInt l2)), (3, .int (Int32.ofInt l3)), (4, .int (Int32.ofInt l4)), (5, .int (Int32.ofInt l5)), (6, .int (Int32.ofInt l6))], [], pk false ρ o) (pP false rv rρ o) := by
  intro n
  induction n with
  | zero =>
    intro l1 l2 l3 l4 l5 l6 ρ h
    rw [L_X9_read_35] at h
    cases h
  | succ n ih =>
    intro l1 l2 l3 l4 l5 l6 ρ h
    rw [L_X9_read_35] at h
    obtain ⟨h7, h⟩ := ck_some h
    refine ci_T.step cb_X9_read_35 (ci_sq rfl (ci_sq (pe_push pc_25) (pe_ic_ge h7 pR_25))) ?_
    refine pbr h (fun hc h => ?_) (fun hc h => ?_)
    · exact ci_T.sub [0, 1, 2, 3, 4, 5] (hK62 _ _ _ _ _ _ h) rfl
    · obtain ⟨h8, h⟩ := ck_some h
      obtain ⟨h9, h⟩ := ck_some h
      replace h := jn_some h
      replace h := jn_some h
      refine ci_T.step cb_X9_read_42 (ci_sq rfl (ci_sq (pe_getR tq_62 rfl rfl) (ci_sq rfl (ci_sq rfl (ci_sq (pe_getR tq_62 rfl rfl) (ci_sq rfl (ci_sq (pe_ald (nI := 168) tq_63 rfl rfl h8) (ci_sq (pe_ast (nI := 25) tq_84 rfl rfl h9 rfl) (ci_sq (pe_inc rfl) rfl))))))))) ?_
      exact ci_T.sub [1, 2, 3, 4, 5, 6, 0] (ih _ _ _ _ _ _ _ h) rfl
set_option maxRecDepth 100000 in
theorem t_X9_read_71 {d : Nat}    {o : pm} {rv : Int} {rρ : pm} {K173 : Int → Int → pm → Option (Int × pm)} (hK173 : ∀ (l5 l8 : Int) (ρ : pm), K173 l5 l8 ρ = some (rv, rρ) → ci_T yX9_read cX9_read 12 (some .int) (d + 8) 173 ([(0, .ref 63), (5, .int (Int32.ofInt l5)), (8, .int (Int32.ofInt l8))], [], pk false ρ o) (pP false rv rρ o)) : ∀ (n : Nat) (l1 l2 l3 l4 l5 l6 l7 l8 : Int) (ρ : pm), L_X9_read_71 K173 n l1 l2 l3 l4 l5 l6 l7 l8 ρ = some (rv, rρ) → ci_T yX9_read cX9_read 12 (some .int) (d + 8) 71 ([(0, .ref 63), (1, .int (Int32.ofInt l1)), (2, .int (Int32.ofInt l2)), (3, .int (Int32.ofInt l3)), (4, .int (Int32.ofInt l4)), (5, .int (Int32.ofInt l5)), (6, .int (Int32.ofInt l6)), (7, .int (Int32.ofInt l7)), (8, .int (Int32.ofInt l8))], [], pk false ρ o) (pP false rv rρ o) := by
  intro n
  induction n with
  | zero =>
    intro l1 l2 l3 l4 l5 l6 l7 l8 ρ h
    rw [L_X9_read_71] at h
    cases h
  | succ n ih =>
    intro l1 l2 l3 l4 l5 l6 l7 l8 ρ h
    rw [L_X9_read_71] at h
    obtain ⟨h12, h⟩ := ck_some h
    obtain ⟨h13, h⟩ := ck_some h
    refine ci_T.step cb_X9_read_71 (ci_sq rfl (ci_sq rfl (pe_ic_ge h12 h13))) ?_
    refine pbr h (fun hc h => ?_) (fun hc h => ?_)
    · replace h := jn_some h
      refine ci_T.step cb_X9_read_227 (ci_sq rfl (ci_sq rfl (ci_sq (pe_putI (kI := 45) tq_62 rfl rfl rfl) rfl))) ?_
      cases h
      exact ci_T.done (v := some (.int _)) cd_X9_read_235 ⟨rfl, rfl⟩
    · obtain ⟨h15, h⟩ := ck_some h
      refine ci_T.step cb_X9_read_78 (ci_sq rfl (pe_if_ne h15)) ?_
      refine pbrn h (fun hc h => ?_) (fun hc h => ?_)
      · replace h := jn_some h
        refine ci_T.step cb_X9_read_227 (ci_sq rfl (ci_sq rfl (ci_sq (pe_putI (kI := 45) tq_62 rfl rfl rfl) rfl))) ?_
        cases h
        exact ci_T.done (v := some (.int _)) cd_X9_read_235 ⟨rfl, rfl⟩
      · obtain ⟨h17, h⟩ := ck_some h
        replace h := jn_some h
        obtain ⟨h19, h⟩ := ck_some h
        obtain ⟨h20, h⟩ := ck_some h
        refine ci_T.step cb_X9_read_83 (ci_sq rfl (ci_sq (pe_i2l h17) (ci_sq rfl (ci_sq (pe_i2l h12) (ci_sq pe_ladd (ci_sq rfl (ci_sq rfl (ci_sq (pe_getR tq_62 rfl rfl) (ci_sq rfl (ci_sq (pe_ald (nI := 4) tq_81 rfl rfl h19) (ci_sq (pe_push pc_m4) (pe_ic_ne h20 pR_m4)))))))))))) ?_
        obtain ⟨j145, hj, h⟩ := jn_ex h
        have J145 : ∀ (l1 l2 l3 l4 l5 l7 l8 s0 : Int) (ρ : pm), j145 l1 l2 l3 l4 l5 l7 l8 s0 ρ = some (rv, rρ) → ci_T yX9_read cX9_read 12 (some .int) (d + 8) 145 ([(0, .ref 63), (1, .int (Int32.ofInt l1)), (2, .int (Int32.ofInt l2)), (3, .int (Int32.ofInt l3)), (4, .int (Int32.ofInt l4)), (5, .int (Int32.ofInt l5)), (7, .int (Int32.ofInt l7)), (8, .int (Int32.ofInt l8))], [.int (Int32.ofInt s0)], pk false ρ o) (pP false rv rρ o) := by
          intro l1 l2 l3 l4 l5 l7 l8 s0 ρ h
          subst hj
          obtain ⟨h21, h⟩ := ck_some h
          refine ci_T.step cb_X9_read_145 (ci_sq rfl (ci_sq rfl (pe_if_ne h21))) ?_
          obtain ⟨j221, hj, h⟩ := jn_ex h
          have J221 : ∀ (l1 l2 l3 l4 l5 l6 l7 l8 : Int) (ρ : pm), j221 l1 l2 l3 l4 l5 l6 l7 l8 ρ = some (rv, rρ) → ci_T yX9_read cX9_read 12 (some .int) (d + 8) 221 ([(0, .ref 63), (1, .int (Int32.ofInt l1)), (2, .int (Int32.ofInt l2)), (3, .int (Int32.ofInt l3)), (4, .int (Int32.ofInt l4)), (5, .int (Int32.ofInt l5)), (6, .int (Int32.ofInt l6)), (7, .int (Int32.ofInt l7)), (8, .int (Int32.ofInt l8))], [], pk false ρ o) (pP false rv rρ o) := by
            intro l1 l2 l3 l4 l5 l6 l7 l8 ρ h
            subst hj
            replace h := jn_some h
            refine ci_T.step cb_X9_read_221 (ci_sq (pe_inc rfl) rfl) ?_
            exact ci_T.sub [1, 2, 3, 4, 5, 6, 7, 8, 0] (ih _ _ _ _ _ _ _ _ _ h) rfl
          clear hj
          refine pbrn h (fun hc h => ?_) (fun hc h => ?_)
          · exact ci_T.sub [1, 2, 3, 4, 5, 6, 0, 7, 8] (J221 _ _ _ _ _ _ _ _ _ h) rfl
          · obtain ⟨h23, h⟩ := ck_some h
            refine ci_T.step cb_X9_read_152 (ci_sq rfl (ci_sq rfl (ci_sq (pe_getR tq_62 rfl rfl) (ci_sq (pe_push pc_40) (ci_sq rfl (ci_sq pe_imul (ci_sq rfl (ci_sq pe_iadd (ci_sq rfl (ci_sq pe_iadd (pe_ald (nI := 160) tq_83 rfl rfl h23))))))))))) ?_
            obtain ⟨v24, ρ25, hv, h⟩ := bn2_some h
            refine ci_T.call (as := [_, _]) (rest := []) kc_X9_year ki_X9_year (by decide) cl_X9_read_167 rfl (Nat.le_of_ble_eq_true rfl) ⟨⟨_, rfl⟩, _, _, _, rfl, pk_obj tq_62 rfl _ _⟩ (s_X9_year d o hv) ?_
            rintro _ _ ⟨rfl, rfl⟩
            clear hv
            obtain ⟨h26, h⟩ := ck_some h
            refine ci_T.step cb_X9_read_170 (pe_if_ge h26) ?_
            refine pbr h (fun hc h => ?_) (fun hc h => ?_)
            · replace h := jn_some h
              refine ci_T.step cb_X9_read_218 (pe_inc rfl) ?_
              exact ci_T.sub [2, 3, 4, 5, 6, 7, 1, 0, 8] (J221 _ _ _ _ _ _ _ _ _ h) rfl
            · exact ci_T.sub [1, 6, 8] (hK173 _ _ _ h) rfl
        clear hj
        refine pbrn h (fun hc h => ?_) (fun hc h => ?_)
        · obtain ⟨h28, h⟩ := ck_some h
          refine ci_T.step cb_X9_read_106 (ci_sq rfl (ci_sq (pe_getR tq_62 rfl rfl) (ci_sq rfl (ci_sq (pe_ald (nI := 4) tq_81 rfl rfl h19) (ci_sq rfl (pe_ic_eq h20 h28)))))) ?_
          refine pbr h (fun hc h => ?_) (fun hc h => ?_)
          · obtain ⟨h29, h⟩ := ck_some h
            refine ci_T.step cb_X9_read_120 (ci_sq rfl (ci_sq (pe_pushl pcl_0) (ci_sq (pe_lcmp ⟨h29, pLL_0⟩) (pe_if_lt (lcm64_R _ _))))) ?_
            obtain ⟨j140, hj, h⟩ := jn_ex h
            have J140 : ∀ (l1 l2 l3 l4 l5 l7 l8 : Int) (ρ : pm), j140 l1 l2 l3 l4 l5 l7 l8 ρ = some (rv, rρ) → ci_T yX9_read cX9_read 12 (some .int) (d + 8) 140 ([(0, .ref 63), (1, .int (Int32.ofInt l1)), (2, .int (Int32.ofInt l2)), (3, .int (Int32.ofInt l3)), (4, .int (Int32.ofInt l4)), (5, .int (Int32.ofInt l5)), (7, .int (Int32.ofInt l7)), (8, .int (Int32.ofInt l8))], [], pk false ρ o) (pP false rv rρ o) := by
              intro l1 l2 l3 l4 l5 l7 l8 ρ h
              subst hj
              refine ci_T.step cb_X9_read_140 (ci_sq (pe_push pc_2) rfl) ?_
              exact ci_T.sub [0, 1, 2, 3, 4, 5, 6, 7] (J145 _ _ _ _ _ _ _ _ _ h) rfl
            clear hj
            refine pbr h (fun hc h => ?_) (fun hc h => ?_)
            · exact ci_T.sub [1, 2, 3, 4, 5, 6, 8, 9] (J140 _ _ _ _ _ _ _ _ h) rfl
            · obtain ⟨h30, h⟩ := ck_some h
              refine ci_T.step cb_X9_read_127 (ci_sq rfl (ci_sq rfl (ci_sq (pe_getR tq_62 rfl rfl) (ci_sq rfl (ci_sq (pe_ald (nI := 4) tq_82 rfl rfl h19) (ci_sq (pe_i2l h30) (ci_sq (pe_lcmp ⟨h29, (L_of_R h30)⟩) (pe_if_lt (lcm64_R _ _))))))))) ?_
              refine pbr h (fun hc h => ?_) (fun hc h => ?_)
              · refine ci_T.step cb_X9_read_144 (pe_push pc_0) ?_
                exact ci_T.sub [1, 2, 3, 4, 5, 6, 8, 9] (J145 _ _ _ _ _ _ _ _ _ h) rfl
              · exact ci_T.sub [1, 2, 3, 4, 5, 6, 8, 9] (J140 _ _ _ _ _ _ _ _ h) rfl
          · refine ci_T.step cb_X9_read_116 (ci_sq (pe_push pc_3) rfl) ?_
            exact ci_T.sub [1, 2, 3, 4, 5, 6, 8, 9] (J145 _ _ _ _ _ _ _ _ _ h) rfl
        · refine ci_T.step cb_X9_read_102 (ci_sq (pe_push pc_1) rfl) ?_
          exact ci_T.sub [1, 2, 3, 4, 5, 6, 8, 9] (J145 _ _ _ _ _ _ _ _ _ h) rfl
set_option maxRecDepth 100000 in
theorem t_X9_read_185 {d : Nat}    {o : pm} {rv : Int} {rρ : pm}   : ∀ (n : Nat) (l8 l11 : Int) (ρ : pm), L_X9_read_185 n l8 l11 ρ = some (rv, rρ) → ci_T yX9_read cX9_read 12 (some .int) (d + 8) 185 ([(0, .ref 63), (8, .int (Int32.ofInt l8)), (11, .int (Int32.ofInt l11))], [], pk false ρ o) (pP false rv rρ o) := by
  intro n
  induction n with
  | zero =>
    intro l8 l11 ρ h
    rw [L_X9_read_185] at h
    cases h
  | succ n ih =>
    intro l8 l11 ρ h
    rw [L_X9_read_185] at h
    obtain ⟨h32, h⟩ := ck_some h
    refine ci_T.step cb_X9_read_185 (ci_sq rfl (ci_sq (pe_push pc_25) (pe_ic_ge h32 pR_25))) ?_
    refine pbr h (fun hc h => ?_) (fun hc h => ?_)
    · refine ci_T.step cb_X9_read_212 (ci_sq (pe_push pc_m20) (ci_sq rfl pe_isub)) ?_
      cases h
      exact ci_T.done (v := some (.int _)) cd_X9_read_217 ⟨rfl, rfl⟩
    · obtain ⟨h33, h⟩ := ck_some h
      obtain ⟨h34, h⟩ := ck_some h
      replace h := jn_some h
      replace h := jn_some h
      refine ci_T.step cb_X9_read_192 (ci_sq rfl (ci_sq (pe_getR tq_62 rfl rfl) (ci_sq rfl (ci_sq rfl (ci_sq (pe_getR tq_62 rfl rfl) (ci_sq rfl (ci_sq (pe_ald (nI := 25) tq_84 rfl rfl h33) (ci_sq (pe_ast (nI := 168) tq_63 rfl rfl h34 rfl) (ci_sq (pe_inc rfl) rfl))))))))) ?_
      exact ci_T.sub [1, 2, 0] (ih _ _ _ h) rfl
set_option maxRecDepth 100000 in
theorem s_X9_read (d : Nat)   {ρ : pm} (o : pm) {l1 l2 l3 l4 : Int} {rv : Int} {rρ : pm} (h : f_X9_read l1 l2 l3 l4 ρ = some (rv, rρ)) : ci_Met (d + 8) (yX9_read, cX9_read, 12, (some .int), [], 0, 0) [.ref 63, .int (Int32.ofInt l1), .int (Int32.ofInt l2), .int (Int32.ofInt l3), .int (Int32.ofInt l4)] (pk false ρ o) (pP false rv rρ o) := by
  refine ci_met (by decide) (Nat.le_of_ble_eq_true rfl) ?_ ?_
  · rintro v w' ⟨rfl, rfl⟩
    trivial
  · change ci_T _ _ _ _ _ _ ([(0, .ref 63), (1, .int (Int32.ofInt l1)), (2, .int (Int32.ofInt l2)), (3, .int (Int32.ofInt l3)), (4, .int (Int32.ofInt l4))], [], pk false ρ o) _
    unfold f_X9_read at h
    refine ci_T.step cb_X9_read_0 (ci_sq rfl rfl) ?_
    obtain ⟨v1, hv, h⟩ := bn_some h
    refine ci_T.call (as := [_, _]) (rest := []) kc_X9_isSheet ki_X9_isSheet (by decide) cl_X9_read_2 rfl (Nat.le_of_ble_eq_true rfl) trivial (s_X9_isSheet (d + 6) o hv) ?_
    rintro _ _ ⟨⟨rfl, rfl⟩, hz2⟩
    clear hv
    refine ci_T.step cb_X9_read_5 (pe_if_eq (Z_R hz2)) ?_
    refine pbr h (fun hc h => ?_) (fun hc h => ?_)
    · refine ci_T.step cb_X9_read_21 (pe_push pc_m1) ?_
      cases h
      exact ci_T.done (v := some (.int _)) cd_X9_read_22 ⟨rfl, rfl⟩
    · obtain ⟨h3, h⟩ := ck_some h
      refine ci_T.step cb_X9_read_8 (ci_sq rfl (ci_sq (pe_i2l h3) (ci_sq (pe_pushl pcl_0) (pe_pushl pcl_20)))) ?_
      obtain ⟨v4, hv, h⟩ := bn_some h
      refine ci_T.call (as := [_, _, _]) (rest := []) kc_X9_in ki_X9_in (by decide) cl_X9_read_15 rfl (Nat.le_of_ble_eq_true rfl) trivial (s_X9_in (d + 7) o hv) ?_
      rintro _ _ ⟨⟨rfl, rfl⟩, hz5⟩
      clear hv
      refine ci_T.step cb_X9_read_18 (pe_if_ne (Z_R hz5)) ?_
      refine pbrn h (fun hc h => ?_) (fun hc h => ?_)
      · replace h := jn_some h
        refine ci_T.step cb_X9_read_23 (ci_sq rfl (ci_sq (pe_getR tq_62 rfl rfl) (ci_sq (pe_push pc_31) (ci_sq (pe_ald (nI := 168) tq_63 rfl rfl ⟨by decide, by decide⟩) (ci_sq rfl (ci_sq (pe_push pc_0) rfl)))))) ?_
        refine ci_T.sub [2, 3, 4, 5, 6, 1, 0] (t_X9_read_35 ?_ fu _ _ _ _ _ _ _ h) rfl
        · intro l1 l2 l3 l4 l5 ρ h
          refine ci_T.step cb_X9_read_62 (ci_sq (pe_push pc_0) (ci_sq rfl (ci_sq (pe_push pc_0) (ci_sq rfl (ci_sq (pe_push pc_0) rfl))))) ?_
          refine ci_T.sub [3, 4, 5, 6, 7, 8, 2, 1, 0] (t_X9_read_71 ?_ fu _ _ _ _ _ _ _ _ _ h) rfl
          · intro l5 l8 ρ h
            replace h := jn_some h
            refine ci_T.step cb_X9_read_173 (ci_sq rfl (ci_sq (pe_getR tq_62 rfl rfl) (ci_sq (pe_push pc_31) (ci_sq rfl (ci_sq (pe_ast (nI := 168) tq_63 rfl rfl ⟨by decide, by decide⟩ rfl) (ci_sq (pe_push pc_0) rfl)))))) ?_
            exact ci_T.sub [1, 3, 0] (t_X9_read_185 fu _ _ _ h) rfl
      · refine ci_T.step cb_X9_read_21 (pe_push pc_m1) ?_
        cases h
        exact ci_T.done (v := some (.int _)) cd_X9_read_22 ⟨rfl, rfl⟩
