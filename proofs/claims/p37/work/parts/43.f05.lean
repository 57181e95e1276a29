/-- X9_looked -/
def f_X9_looked (l1 l2 : Int) (ρ : pm) : Option (Int × pm) := ck (inR (ρ 62 28)) (jn (fun (l1 l2 : Int) (ρ : pm) => ck (inR (ρ 62 28)) (jn (fun (ρ : pm) => ck (inR (ρ 62 28)) (if (ρ 62 28) = 0 then some (ρ 62 27, ρ) else some (0, ρ))) (fun j49 => if (ρ 62 28) = 0 then ck (inR (ρ 62 27)) (ck (inR l1) (ck (inR l2) ((f_X9_in (ρ 62 27) l1 l2).bind (fun v7 => (f_X9_needs v7 3 ρ).bind (fun ρ9 => j49 ρ9))))) else j49 ρ))) (fun j25 => if (ρ 62 28) = 0 then ck (inR (ρ 62 26)) (jn (fun (l1 l2 s1 : Int) (ρ : pm) => (f_X9_needs s1 2 ρ).bind (fun ρ11 => j25 l1 l2 ρ11)) (fun j21 => if (ρ 62 26) = 2 then j21 l1 l2 1 ρ else j21 l1 l2 0 ρ)) else j25 l1 l2 ρ))
set_option maxRecDepth 100000 in
theorem s_X9_looked (d : Nat)   {ρ : pm} (o : pm) {l1 l2 : Int} {rv : Int} {rρ : pm} (h : f_X9_looked l1 l2 ρ = some (rv, rρ)) : ci_Met (d + 1) (yX9_looked, cX9_looked, 3, (some .int), [], 0, 0) [.ref 63, .int (Int32.ofInt l1), .int (Int32.ofInt l2)] (pk false ρ o) (pP false rv rρ o) := by
  refine ci_met (by decide) (Nat.le_of_ble_eq_true rfl) ?_ ?_
  · rintro v w' ⟨rfl, rfl⟩
    trivial
  · change ci_T _ _ _ _ _ _ ([(0, .ref 63), (1, .int (Int32.ofInt l1)), (2, .int (Int32.ofInt l2))], [], pk false ρ o) _
    unfold f_X9_looked at h
    obtain ⟨h1, h⟩ := ck_some h
    refine ci_T.step cb_X9_looked_0 (ci_sq rfl (ci_sq (pe_getI (kI := 28) tq_62 rfl rfl rfl) (pe_if_ne h1))) ?_
    obtain ⟨j25, hj, h⟩ := jn_ex h
    have J25 : ∀ (l1 l2 : Int) (ρ : pm), j25 l1 l2 ρ = some (rv, rρ) → ci_T yX9_looked cX9_looked 3 (some .int) (d + 1) 25 ([(0, .ref 63), (1, .int (Int32.ofInt l1)), (2, .int (Int32.ofInt l2))], [], pk false ρ o) (pP false rv rρ o) := by
      intro l1 l2 ρ h
      subst hj
      obtain ⟨h2, h⟩ := ck_some h
      refine ci_T.step cb_X9_looked_25 (ci_sq rfl (ci_sq (pe_getI (kI := 28) tq_62 rfl rfl rfl) (pe_if_ne h2))) ?_
      obtain ⟨j49, hj, h⟩ := jn_ex h
      have J49 : ∀ (ρ : pm), j49 ρ = some (rv, rρ) → ci_T yX9_looked cX9_looked 3 (some .int) (d + 1) 49 ([(0, .ref 63)], [], pk false ρ o) (pP false rv rρ o) := by
        intro ρ h
        subst hj
        obtain ⟨h3, h⟩ := ck_some h
        refine ci_T.step cb_X9_looked_49 (ci_sq rfl (ci_sq (pe_getI (kI := 28) tq_62 rfl rfl rfl) (pe_if_ne h3))) ?_
        refine pbrn h (fun hc h => ?_) (fun hc h => ?_)
        · refine ci_T.step cb_X9_looked_63 (pe_push pc_0) ?_
          cases h
          exact ci_T.done (v := some (.int _)) cd_X9_looked_64 ⟨rfl, rfl⟩
        · refine ci_T.step cb_X9_looked_56 (ci_sq rfl (ci_sq (pe_getI (kI := 27) tq_62 rfl rfl rfl) rfl)) ?_
          cases h
          exact ci_T.done (v := some (.int _)) cd_X9_looked_64 ⟨rfl, rfl⟩
      clear hj
      refine pbrn h (fun hc h => ?_) (fun hc h => ?_)
      · exact ci_T.sub [0] (J49 _ h) rfl
      · obtain ⟨h4, h⟩ := ck_some h
        obtain ⟨h5, h⟩ := ck_some h
        obtain ⟨h6, h⟩ := ck_some h
        refine ci_T.step cb_X9_looked_32 (ci_sq rfl (ci_sq rfl (ci_sq (pe_getI (kI := 27) tq_62 rfl rfl rfl) (ci_sq (pe_i2l h4) (ci_sq rfl (ci_sq (pe_i2l h5) (ci_sq rfl (pe_i2l h6)))))))) ?_
        obtain ⟨v7, hv, h⟩ := bn_some h
        refine ci_T.call (as := [_, _, _]) (rest := [_]) kc_X9_in ki_X9_in (by decide) cl_X9_looked_42 rfl (Nat.le_of_ble_eq_true rfl) trivial (s_X9_in d o hv) ?_
        rintro _ _ ⟨⟨rfl, rfl⟩, hz8⟩
        clear hv
        refine ci_T.step cb_X9_looked_45 (pe_push pc_3) ?_
        obtain ⟨ρ9, hv, h⟩ := bn_some h
        refine ci_T.call (as := [_, _, _]) (rest := []) kc_X9_needs ki_X9_needs (by decide) cl_X9_looked_46 rfl (Nat.le_of_ble_eq_true rfl) ⟨⟨_, rfl⟩, _, _, _, rfl, pk_obj tq_62 rfl _ _⟩ (s_X9_needs d o hv) ?_
        rintro _ _ ⟨rfl, rfl⟩
        clear hv
        exact ci_T.sub [0] (J49 _ h) rfl
    clear hj
    refine pbrn h (fun hc h => ?_) (fun hc h => ?_)
    · exact ci_T.sub [0, 1, 2] (J25 _ _ _ h) rfl
    · obtain ⟨h10, h⟩ := ck_some h
      refine ci_T.step cb_X9_looked_7 (ci_sq rfl (ci_sq rfl (ci_sq (pe_getI (kI := 26) tq_62 rfl rfl rfl) (ci_sq (pe_push pc_2) (pe_ic_ne h10 pR_2))))) ?_
      obtain ⟨j21, hj, h⟩ := jn_ex h
      have J21 : ∀ (l1 l2 s1 : Int) (ρ : pm), j21 l1 l2 s1 ρ = some (rv, rρ) → ci_T yX9_looked cX9_looked 3 (some .int) (d + 1) 21 ([(0, .ref 63), (1, .int (Int32.ofInt l1)), (2, .int (Int32.ofInt l2))], [.int (Int32.ofInt s1), .ref 63], pk false ρ o) (pP false rv rρ o) := by
        intro l1 l2 s1 ρ h
        subst hj
        refine ci_T.step cb_X9_looked_21 (pe_push pc_2) ?_
        obtain ⟨ρ11, hv, h⟩ := bn_some h
        refine ci_T.call (as := [_, _, _]) (rest := []) kc_X9_needs ki_X9_needs (by decide) cl_X9_looked_22 rfl (Nat.le_of_ble_eq_true rfl) ⟨⟨_, rfl⟩, _, _, _, rfl, pk_obj tq_62 rfl _ _⟩ (s_X9_needs d o hv) ?_
        rintro _ _ ⟨rfl, rfl⟩
        clear hv
        exact ci_T.sub [0, 1, 2] (J25 _ _ _ h) rfl
      clear hj
      refine pbrn h (fun hc h => ?_) (fun hc h => ?_)
      · refine ci_T.step cb_X9_looked_20 (pe_push pc_0) ?_
        exact ci_T.sub [0, 1, 2] (J21 _ _ _ _ h) rfl
      · refine ci_T.step cb_X9_looked_16 (ci_sq (pe_push pc_1) rfl) ?_
        exact ci_T.sub [0, 1, 2] (J21 _ _ _ _ h) rfl
/-- X9_readNumber -/
def f_X9_readNumber (l1 l2 : Int) (ρ : pm) : Option (Int × pm) := bn2 (f_X9_looked l1 l2 ρ) (fun v1 ρ2 => (f_X9_next ρ2).bind (fun ρ3 => some (v1, ρ3)))
set_option maxRecDepth 100000 in
theorem s_X9_readNumber (d : Nat)   {ρ : pm} (o : pm) {l1 l2 : Int} {rv : Int} {rρ : pm} (h : f_X9_readNumber l1 l2 ρ = some (rv, rρ)) : ci_Met (d + 2) (yX9_readNumber, cX9_readNumber, 4, (some .int), [], 0, 0) [.ref 63, .int (Int32.ofInt l1), .int (Int32.ofInt l2)] (pk false ρ o) (pP false rv rρ o) := by
  refine ci_met (by decide) (Nat.le_of_ble_eq_true rfl) ?_ ?_
  · rintro v w' ⟨rfl, rfl⟩
    trivial
  · change ci_T _ _ _ _ _ _ ([(0, .ref 63), (1, .int (Int32.ofInt l1)), (2, .int (Int32.ofInt l2))], [], pk false ρ o) _
    unfold f_X9_readNumber at h
    refine ci_T.step cb_X9_readNumber_0 (ci_sq rfl (ci_sq rfl rfl)) ?_
    obtain ⟨v1, ρ2, hv, h⟩ := bn2_some h
    refine ci_T.call (as := [_, _, _]) (rest := []) kc_X9_looked ki_X9_looked (by decide) cl_X9_readNumber_3 rfl (Nat.le_of_ble_eq_true rfl) ⟨⟨_, rfl⟩, _, _, _, rfl, pk_obj tq_62 rfl _ _⟩ (s_X9_looked d o hv) ?_
    rintro _ _ ⟨rfl, rfl⟩
    clear hv
    refine ci_T.step cb_X9_readNumber_6 (ci_sq rfl rfl) ?_
    obtain ⟨ρ3, hv, h⟩ := bn_some h
    refine ci_T.call (as := [_]) (rest := []) kc_X9_next ki_X9_next (by decide) cl_X9_readNumber_8 rfl (Nat.le_of_ble_eq_true rfl) ⟨⟨_, rfl⟩, _, _, _, rfl, pk_obj tq_62 rfl _ _⟩ (s_X9_next d o hv) ?_
    rintro _ _ ⟨rfl, rfl⟩
    clear hv
    refine ci_T.step cb_X9_readNumber_11 rfl ?_
    cases h
    exact ci_T.done (v := some (.int _)) cd_X9_readNumber_12 ⟨rfl, rfl⟩
/-- X9_readRow -/
def L_X9_readRow_75  : Nat → Int → Int → Int → pm → Option pm
  | 0, _, _, _, _ => none
  | n + 1, l1, l2, l3, ρ => ck (inR (ρ 62 28)) (if (ρ 62 28) = 0 then ck (inR l3) (if l3 = 0 then some ρ else ck (inR (ρ 62 26)) (jn (fun (l1 l2 s1 : Int) (ρ : pm) => (f_X9_needs s1 5 ρ).bind (fun ρ8 => bn2 (f_X9_looked 0 9 ρ8) (fun v9 ρ10 => ck (inR (ρ10 62 28)) (jn (fun (l1 l2 : Int) (ρ : pm) => (f_X9_next ρ).bind (fun ρ12 => ck (inR (ρ12 62 26)) (jn (fun (l1 l2 s0 : Int) (ρ : pm) => L_X9_readRow_75 n l1 l2 s0 ρ) (fun j177 => if (ρ12 62 26) = 2 then j177 l1 l2 1 ρ12 else j177 l1 l2 0 ρ12)))) (fun j160 => if (ρ10 62 28) = 0 then ck (0 ≤ (5 * l1) + l2 ∧ (5 * l1) + l2 < 25) (jn (pup ρ10 66 ((5 * l1) + l2) v9) (fun ρ15 => ck (inR l2) (ck (inR (ρ15 62 19)) (jn (fun (l1 l2 s1 : Int) (ρ : pm) => jn (pup ρ 62 19 s1) (fun ρ18 => jn (l2 + 1) (fun x19 => j160 l1 x19 ρ18))) (fun j154 => if l2 ≤ (ρ15 62 19) then j154 l1 l2 (ρ15 62 19) ρ15 else j154 l1 l2 l2 ρ15))))) else j160 l1 l2 ρ10))))) (fun j105 => jn (fun (l1 l2 : Int) (ρ : pm) => j105 l1 l2 1 ρ) (fun j100 => if (ρ 62 26) = 2 then ck (inR l2) (if 5 ≤ l2 then j105 l1 l2 0 ρ else j100 l1 l2 ρ) else j100 l1 l2 ρ)))) else some ρ)
def f_X9_readRow (ρ : pm) : Option pm := bn2 (f_X9_looked 0 4 ρ) (fun v1 ρ2 => ck (inR (ρ2 62 28)) (jn (fun (l1 : Int) (ρ : pm) => (f_X9_next ρ).bind (fun ρ4 => L_X9_readRow_75 fu l1 0 1 ρ4)) (fun j67 => if (ρ2 62 28) = 0 then jn (fun (l1 s1 : Int) (ρ : pm) => (f_X9_needs s1 4 ρ).bind (fun ρ21 => jn (pup ρ21 62 17 (bor (ρ21 62 17) (bshl 1 l1))) (fun ρ22 => ck (inR l1) (ck (inR (ρ22 62 18)) (jn (fun (l1 s1 : Int) (ρ : pm) => jn (pup ρ 62 18 s1) (fun ρ25 => j67 l1 ρ25)) (fun j64 => if l1 ≤ (ρ22 62 18) then j64 l1 (ρ22 62 18) ρ22 else j64 l1 l1 ρ22)))))) (fun j31 => if (band (bshr (ρ2 62 17) v1) 1) = 0 then j31 v1 1 ρ2 else j31 v1 0 ρ2) else j67 v1 ρ2)))
set_option maxRecDepth 100000 in
theorem t_X9_readRow_75 {d : Nat}    {o : pm} {rρ : pm}   : ∀ (n : Nat) (l1 l2 l3 : Int) (ρ : pm), L_X9_readRow_75 n l1 l2 l3 ρ = some rρ → ci_T yX9_readRow cX9_readRow 5 none (d + 2) 75 ([(0, .ref 63), (1, .int (Int32.ofInt l1)), (2, .int (Int32.ofInt l2)), (3, .int (Int32.ofInt l3))], [], pk false ρ o) (pV false rρ o) := by
  intro n
  induction n with
  | zero =>
    intro l1 l2 l3 ρ h
    rw [L_X9_readRow_75] at h
    cases h
  | succ n ih =>
    intro l1 l2 l3 ρ h
    rw [L_X9_readRow_75] at h
    obtain ⟨h5, h⟩ := ck_some h
    refine ci_T.step cb_X9_readRow_75 (ci_sq rfl (ci_sq (pe_getI (kI := 28) tq_62 rfl rfl rfl) (pe_if_ne h5))) ?_
    refine pbrn h (fun hc h => ?_) (fun hc h => ?_)
    · cases h
      exact ci_T.done (v := none) cd_X9_readRow_181 ⟨rfl, rfl⟩
    · obtain ⟨h6, h⟩ := ck_some h
      refine ci_T.step cb_X9_readRow_82 (ci_sq rfl (pe_if_eq h6)) ?_
      refine pbr h (fun hc h => ?_) (fun hc h => ?_)
      · cases h
        exact ci_T.done (v := none) cd_X9_readRow_181 ⟨rfl, rfl⟩
      · obtain ⟨h7, h⟩ := ck_some h
        refine ci_T.step cb_X9_readRow_86 (ci_sq rfl (ci_sq rfl (ci_sq (pe_getI (kI := 26) tq_62 rfl rfl rfl) (ci_sq (pe_push pc_2) (pe_ic_ne h7 pR_2))))) ?_
        obtain ⟨j105, hj, h⟩ := jn_ex h
        have J105 : ∀ (l1 l2 s1 : Int) (ρ : pm), j105 l1 l2 s1 ρ = some rρ → ci_T yX9_readRow cX9_readRow 5 none (d + 2) 105 ([(0, .ref 63), (1, .int (Int32.ofInt l1)), (2, .int (Int32.ofInt l2))], [.int (Int32.ofInt s1), .ref 63], pk false ρ o) (pV false rρ o) := by
          intro l1 l2 s1 ρ h
          subst hj
          refine ci_T.step cb_X9_readRow_105 (pe_push pc_5) ?_
          obtain ⟨ρ8, hv, h⟩ := bn_some h
          refine ci_T.call (as := [_, _, _]) (rest := []) kc_X9_needs ki_X9_needs (by decide) cl_X9_readRow_106 rfl (Nat.le_of_ble_eq_true rfl) ⟨⟨_, rfl⟩, _, _, _, rfl, pk_obj tq_62 rfl _ _⟩ (s_X9_needs (d + 1) o hv) ?_
          rintro _ _ ⟨rfl, rfl⟩
          clear hv
          refine ci_T.step cb_X9_readRow_109 (ci_sq rfl (ci_sq (pe_push pc_0) (pe_push pc_9))) ?_
          obtain ⟨v9, ρ10, hv, h⟩ := bn2_some h
          refine ci_T.call (as := [_, _, _]) (rest := []) kc_X9_looked ki_X9_looked (by decide) cl_X9_readRow_113 rfl (Nat.le_of_ble_eq_true rfl) ⟨⟨_, rfl⟩, _, _, _, rfl, pk_obj tq_62 rfl _ _⟩ (s_X9_looked d o hv) ?_
          rintro _ _ ⟨rfl, rfl⟩
          clear hv
          obtain ⟨h11, h⟩ := ck_some h
          refine ci_T.step cb_X9_readRow_116 (ci_sq rfl (ci_sq rfl (ci_sq (pe_getI (kI := 28) tq_62 rfl rfl rfl) (pe_if_ne h11)))) ?_
          obtain ⟨j160, hj, h⟩ := jn_ex h
          have J160 : ∀ (l1 l2 : Int) (ρ : pm), j160 l1 l2 ρ = some rρ → ci_T yX9_readRow cX9_readRow 5 none (d + 2) 160 ([(0, .ref 63), (1, .int (Int32.ofInt l1)), (2, .int (Int32.ofInt l2))], [], pk false ρ o) (pV false rρ o) := by
            intro l1 l2 ρ h
            subst hj
            refine ci_T.step cb_X9_readRow_160 rfl ?_
            obtain ⟨ρ12, hv, h⟩ := bn_some h
            refine ci_T.call (as := [_]) (rest := []) kc_X9_next ki_X9_next (by decide) cl_X9_readRow_161 rfl (Nat.le_of_ble_eq_true rfl) ⟨⟨_, rfl⟩, _, _, _, rfl, pk_obj tq_62 rfl _ _⟩ (s_X9_next d o hv) ?_
            rintro _ _ ⟨rfl, rfl⟩
            clear hv
            obtain ⟨h13, h⟩ := ck_some h
            refine ci_T.step cb_X9_readRow_164 (ci_sq rfl (ci_sq (pe_getI (kI := 26) tq_62 rfl rfl rfl) (ci_sq (pe_push pc_2) (pe_ic_ne h13 pR_2)))) ?_
            obtain ⟨j177, hj, h⟩ := jn_ex h
            have J177 : ∀ (l1 l2 s0 : Int) (ρ : pm), j177 l1 l2 s0 ρ = some rρ → ci_T yX9_readRow cX9_readRow 5 none (d + 2) 177 ([(0, .ref 63), (1, .int (Int32.ofInt l1)), (2, .int (Int32.ofInt l2))], [.int (Int32.ofInt s0)], pk false ρ o) (pV false rρ o) := by
              intro l1 l2 s0 ρ h
              subst hj
              refine ci_T.step cb_X9_readRow_177 (ci_sq rfl rfl) ?_
              exact ci_T.sub [1, 2, 3, 0] (ih _ _ _ _ h) rfl
            clear hj
            refine pbrn h (fun hc h => ?_) (fun hc h => ?_)
            · refine ci_T.step cb_X9_readRow_176 (pe_push pc_0) ?_
              exact ci_T.sub [0, 1, 2] (J177 _ _ _ _ h) rfl
            · refine ci_T.step cb_X9_readRow_172 (ci_sq (pe_push pc_1) rfl) ?_
              exact ci_T.sub [0, 1, 2] (J177 _ _ _ _ h) rfl
          clear hj
          refine pbrn h (fun hc h => ?_) (fun hc h => ?_)
          · exact ci_T.sub [1, 2, 3] (J160 _ _ _ h) rfl
          · obtain ⟨h14, h⟩ := ck_some h
            replace h := jn_some h
            obtain ⟨h16, h⟩ := ck_some h
            obtain ⟨h17, h⟩ := ck_some h
            refine ci_T.step cb_X9_readRow_125 (ci_sq rfl (ci_sq (pe_getR tq_62 rfl rfl) (ci_sq (pe_push pc_5) (ci_sq rfl (ci_sq pe_imul (ci_sq rfl (ci_sq pe_iadd (ci_sq rfl (ci_sq (pe_ast (nI := 25) tq_66 rfl rfl h14 rfl) (ci_sq rfl (ci_sq rfl (ci_sq rfl (ci_sq (pe_getI (kI := 19) tq_62 rfl rfl rfl) (pe_ic_le h16 h17)))))))))))))) ?_
            obtain ⟨j154, hj, h⟩ := jn_ex h
            have J154 : ∀ (l1 l2 s1 : Int) (ρ : pm), j154 l1 l2 s1 ρ = some rρ → ci_T yX9_readRow cX9_readRow 5 none (d + 2) 154 ([(0, .ref 63), (1, .int (Int32.ofInt l1)), (2, .int (Int32.ofInt l2))], [.int (Int32.ofInt s1), .ref 63], pk false ρ o) (pV false rρ o) := by
              intro l1 l2 s1 ρ h
              subst hj
              replace h := jn_some h
              replace h := jn_some h
              refine ci_T.step cb_X9_readRow_154 (ci_sq (pe_putI (kI := 19) tq_62 rfl rfl rfl) (pe_inc rfl)) ?_
              exact ci_T.sub [1, 2, 0] (J160 _ _ _ h) rfl
            clear hj
            refine pbr h (fun hc h => ?_) (fun hc h => ?_)
            · refine ci_T.step cb_X9_readRow_150 (ci_sq rfl (pe_getI (kI := 19) tq_62 rfl rfl rfl)) ?_
              exact ci_T.sub [1, 2, 3] (J154 _ _ _ _ h) rfl
            · refine ci_T.step cb_X9_readRow_146 (ci_sq rfl rfl) ?_
              exact ci_T.sub [1, 2, 3] (J154 _ _ _ _ h) rfl
        clear hj
        obtain ⟨j100, hj, h⟩ := jn_ex h
        have J100 : ∀ (l1 l2 : Int) (ρ : pm), j100 l1 l2 ρ = some rρ → ci_T yX9_readRow cX9_readRow 5 none (d + 2) 100 ([(0, .ref 63), (1, .int (Int32.ofInt l1)), (2, .int (Int32.ofInt l2))], [.ref 63], pk false ρ o) (pV false rρ o) := by
          intro l1 l2 ρ h
          subst hj
          refine ci_T.step cb_X9_readRow_100 (ci_sq (pe_push pc_1) rfl) ?_
          exact ci_T.sub [0, 1, 2] (J105 _ _ _ _ h) rfl
        clear hj
        refine pbrn h (fun hc h => ?_) (fun hc h => ?_)
        · exact ci_T.sub [0, 1, 2] (J100 _ _ _ h) rfl
        · obtain ⟨h20, h⟩ := ck_some h
          refine ci_T.step cb_X9_readRow_95 (ci_sq rfl (ci_sq (pe_push pc_5) (pe_ic_ge h20 pR_5))) ?_
          refine pbr h (fun hc h => ?_) (fun hc h => ?_)
          · refine ci_T.step cb_X9_readRow_104 (pe_push pc_0) ?_
            exact ci_T.sub [0, 1, 2] (J105 _ _ _ _ h) rfl
          · exact ci_T.sub [0, 1, 2] (J100 _ _ _ h) rfl
set_option maxRecDepth 100000 in
theorem s_X9_readRow (d : Nat)   {ρ : pm} (o : pm)  {rρ : pm} (h : f_X9_readRow ρ = some rρ) : ci_Met (d + 2) (yX9_readRow, cX9_readRow, 5, none, [], 0, 0) [.ref 63] (pk false ρ o) (pV false rρ o) := by
  refine ci_met (by decide) (Nat.le_of_ble_eq_true rfl) ?_ ?_
  · rintro v w' ⟨rfl, rfl⟩
    trivial
  · change ci_T _ _ _ _ _ _ ([(0, .ref 63)], [], pk false ρ o) _
    unfold f_X9_readRow at h
    refine ci_T.step cb_X9_readRow_0 (ci_sq rfl (ci_sq (pe_push pc_0) (pe_push pc_4))) ?_
    obtain ⟨v1, ρ2, hv, h⟩ := bn2_some h
    refine ci_T.call (as := [_, _, _]) (rest := []) kc_X9_looked ki_X9_looked (by decide) cl_X9_readRow_3 rfl (Nat.le_of_ble_eq_true rfl) ⟨⟨_, rfl⟩, _, _, _, rfl, pk_obj tq_62 rfl _ _⟩ (s_X9_looked d o hv) ?_
    rintro _ _ ⟨rfl, rfl⟩
    clear hv
    obtain ⟨h3, h⟩ := ck_some h
    refine ci_T.step cb_X9_readRow_6 (ci_sq rfl (ci_sq rfl (ci_sq (pe_getI (kI := 28) tq_62 rfl rfl rfl) (pe_if_ne h3)))) ?_
    obtain ⟨j67, hj, h⟩ := jn_ex h
    have J67 : ∀ (l1 : Int) (ρ : pm), j67 l1 ρ = some rρ → ci_T yX9_readRow cX9_readRow 5 none (d + 2) 67 ([(0, .ref 63), (1, .int (Int32.ofInt l1))], [], pk false ρ o) (pV false rρ o) := by
      intro l1 ρ h
      subst hj
      refine ci_T.step cb_X9_readRow_67 rfl ?_
      obtain ⟨ρ4, hv, h⟩ := bn_some h
      refine ci_T.call (as := [_]) (rest := []) kc_X9_next ki_X9_next (by decide) cl_X9_readRow_68 rfl (Nat.le_of_ble_eq_true rfl) ⟨⟨_, rfl⟩, _, _, _, rfl, pk_obj tq_62 rfl _ _⟩ (s_X9_next d o hv) ?_
      rintro _ _ ⟨rfl, rfl⟩
      clear hv
      refine ci_T.step cb_X9_readRow_71 (ci_sq (pe_push pc_0) (ci_sq rfl (ci_sq (pe_push pc_1) rfl))) ?_
      exact ci_T.sub [2, 3, 1, 0] (t_X9_readRow_75 fu _ _ _ _ h) rfl
    clear hj
    refine pbrn h (fun hc h => ?_) (fun hc h => ?_)
    · exact ci_T.sub [1, 0] (J67 _ _ h) rfl
    · refine ci_T.step cb_X9_readRow_14 (ci_sq rfl (ci_sq rfl (ci_sq (pe_getI (kI := 17) tq_62 rfl rfl rfl) (ci_sq rfl (ci_sq pe_ishr (ci_sq (pe_push pc_1) (ci_sq pe_iand (pe_if_ne (band_R _ _))))))))) ?_
      obtain ⟨j31, hj, h⟩ := jn_ex h
      have J31 : ∀ (l1 s1 : Int) (ρ : pm), j31 l1 s1 ρ = some rρ → ci_T yX9_readRow cX9_readRow 5 none (d + 2) 31 ([(0, .ref 63), (1, .int (Int32.ofInt l1))], [.int (Int32.ofInt s1), .ref 63], pk false ρ o) (pV false rρ o) := by
        intro l1 s1 ρ h
        subst hj
        refine ci_T.step cb_X9_readRow_31 (pe_push pc_4) ?_
        obtain ⟨ρ21, hv, h⟩ := bn_some h
        refine ci_T.call (as := [_, _, _]) (rest := []) kc_X9_needs ki_X9_needs (by decide) cl_X9_readRow_32 rfl (Nat.le_of_ble_eq_true rfl) ⟨⟨_, rfl⟩, _, _, _, rfl, pk_obj tq_62 rfl _ _⟩ (s_X9_needs (d + 1) o hv) ?_
        rintro _ _ ⟨rfl, rfl⟩
        clear hv
        replace h := jn_some h
        obtain ⟨h23, h⟩ := ck_some h
        obtain ⟨h24, h⟩ := ck_some h
        refine ci_T.step cb_X9_readRow_35 (ci_sq rfl (ci_sq rfl (ci_sq (pe_getI (kI := 17) tq_62 rfl rfl rfl) (ci_sq (pe_push pc_1) (ci_sq rfl (ci_sq pe_ishl (ci_sq pe_ior (ci_sq (pe_putI (kI := 17) tq_62 rfl rfl rfl) (ci_sq rfl (ci_sq rfl (ci_sq rfl (ci_sq (pe_getI (kI := 18) tq_62 rfl rfl rfl) (pe_ic_le h23 h24))))))))))))) ?_
        obtain ⟨j64, hj, h⟩ := jn_ex h
        have J64 : ∀ (l1 s1 : Int) (ρ : pm), j64 l1 s1 ρ = some rρ → ci_T yX9_readRow cX9_readRow 5 none (d + 2) 64 ([(0, .ref 63), (1, .int (Int32.ofInt l1))], [.int (Int32.ofInt s1), .ref 63], pk false ρ o) (pV false rρ o) := by
          intro l1 s1 ρ h
          subst hj
          replace h := jn_some h
          refine ci_T.step cb_X9_readRow_64 (pe_putI (kI := 18) tq_62 rfl rfl rfl) ?_
          exact ci_T.sub [0, 1] (J67 _ _ h) rfl
        clear hj
        refine pbr h (fun hc h => ?_) (fun hc h => ?_)
        · refine ci_T.step cb_X9_readRow_60 (ci_sq rfl (pe_getI (kI := 18) tq_62 rfl rfl rfl)) ?_
          exact ci_T.sub [0, 1] (J64 _ _ _ h) rfl
        · refine ci_T.step cb_X9_readRow_56 (ci_sq rfl rfl) ?_
          exact ci_T.sub [0, 1] (J64 _ _ _ h) rfl
      clear hj
      refine pbrn h (fun hc h => ?_) (fun hc h => ?_)
      · refine ci_T.step cb_X9_readRow_30 (pe_push pc_0) ?_
        exact ci_T.sub [1, 0] (J31 _ _ _ h) rfl
      · refine ci_T.step cb_X9_readRow_26 (ci_sq (pe_push pc_1) rfl) ?_
        exact ci_T.sub [1, 0] (J31 _ _ _ h) rfl
/-- X9_sawCell -/
def f_X9_sawCell (l1 : Int) (ρ : pm) : Option pm := ck (inR l1) (ck (inR (ρ 62 20)) (if l1 ≤ (ρ 62 20) then jn (pup ρ 62 20 (ρ 62 20)) (fun ρ3 => some ρ3) else jn (pup ρ 62 20 l1) (fun ρ4 => some ρ4)))
set_option maxRecDepth 100000 in
theorem s_X9_sawCell (d : Nat)   {ρ : pm} (o : pm) {l1 : Int} {rρ : pm} (h : f_X9_sawCell l1 ρ = some rρ) : ci_Met d (yX9_sawCell, cX9_sawCell, 2, none, [], 0, 0) [.ref 63, .int (Int32.ofInt l1)] (pk false ρ o) (pV false rρ o) := by
  refine ci_met (by decide) (Nat.le_of_ble_eq_true rfl) ?_ ?_
  · rintro v w' ⟨rfl, rfl⟩
    trivial
  · change ci_T _ _ _ _ _ _ ([(0, .ref 63), (1, .int (Int32.ofInt l1))], [], pk false ρ o) _
    unfold f_X9_sawCell at h
    obtain ⟨h1, h⟩ := ck_some h
    obtain ⟨h2, h⟩ := ck_some h
    refine ci_T.step cb_X9_sawCell_0 (ci_sq rfl (ci_sq rfl (ci_sq rfl (ci_sq (pe_getI (kI := 20) tq_62 rfl rfl rfl) (pe_ic_le h1 h2))))) ?_
    refine pbr h (fun hc h => ?_) (fun hc h => ?_)
    · refine ci_T.step cb_X9_sawCell_13 (ci_sq rfl (pe_getI (kI := 20) tq_62 rfl rfl rfl)) ?_
      replace h := jn_some h
      refine ci_T.step cb_X9_sawCell_17 (pe_putI (kI := 20) tq_62 rfl rfl rfl) ?_
      cases h
      exact ci_T.done (v := none) cd_X9_sawCell_20 ⟨rfl, rfl⟩
    · refine ci_T.step cb_X9_sawCell_9 (ci_sq rfl rfl) ?_
      replace h := jn_some h
      refine ci_T.step cb_X9_sawCell_17 (pe_putI (kI := 20) tq_62 rfl rfl rfl) ?_
      cases h
      exact ci_T.done (v := none) cd_X9_sawCell_20 ⟨rfl, rfl⟩
/-- X9_readGround -/
def L_X9_readGround_29  : Nat → Int → Int → pm → Option pm
  | 0, _, _, _ => none
  | n + 1, l1, l2, ρ => ck (inR (ρ 62 28)) (if (ρ 62 28) = 0 then ck (inR l2) (if l2 = 0 then some ρ else ck (inR (ρ 62 26)) (jn (fun (l1 s1 : Int) (ρ : pm) => (f_X9_needs s1 5 ρ).bind (fun ρ9 => bn2 (f_X9_looked 0 24 ρ9) (fun v10 ρ11 => ck (inR (ρ11 62 28)) (jn (fun (l1 l3 : Int) (ρ : pm) => ck (inR (ρ 62 28)) (jn (fun (l1 : Int) (ρ : pm) => (f_X9_next ρ).bind (fun ρ14 => ck (inR (ρ14 62 26)) (jn (fun (l1 s0 : Int) (ρ : pm) => L_X9_readGround_29 n l1 s0 ρ) (fun j151 => if (ρ14 62 26) = 2 then j151 l1 1 ρ14 else j151 l1 0 ρ14)))) (fun j134 => if (ρ 62 28) = 0 then ck (0 ≤ l3 ∧ l3 < 25) (jn (pup ρ 68 l3 l1) (fun ρ17 => ck (0 ≤ l1 ∧ l1 < 3) (jn (pup ρ17 69 l1 ((ρ17 69 l1) + 1)) (fun ρ19 => (f_X9_sawCell l3 ρ19).bind (fun ρ20 => j134 l1 ρ20))))) else j134 l1 ρ))) (fun j105 => if (ρ11 62 28) = 0 then ck (0 ≤ v10 ∧ v10 < 25) (ck (inR (ρ11 68 v10)) (jn (fun (l1 l3 s1 : Int) (ρ : pm) => (f_X9_needs s1 4 ρ).bind (fun ρ23 => j105 l1 l3 ρ23)) (fun j101 => if (ρ11 68 v10) = (-4) then j101 l1 v10 1 ρ11 else j101 l1 v10 0 ρ11))) else j105 l1 v10 ρ11))))) (fun j65 => jn (fun (l1 : Int) (ρ : pm) => j65 l1 1 ρ) (fun j60 => if (ρ 62 26) = 2 then ck (0 ≤ l1 ∧ l1 < 3) (ck (inR (ρ 69 l1)) (if 8 ≤ (ρ 69 l1) then j65 l1 0 ρ else j60 l1 ρ)) else j60 l1 ρ)))) else some ρ)
def f_X9_readGround (ρ : pm) : Option pm := bn2 (f_X9_readNumber 0 2 ρ) (fun v1 ρ2 => ck (inR v1) (ck (inR (ρ2 62 21)) (jn (fun (l1 s1 : Int) (ρ : pm) => jn (pup ρ 62 21 s1) (fun ρ5 => L_X9_readGround_29 fu l1 1 ρ5)) (fun j24 => if v1 ≤ (ρ2 62 21) then j24 v1 (ρ2 62 21) ρ2 else j24 v1 v1 ρ2))))
set_option maxRecDepth 100000 in
theorem t_X9_readGround_29 {d : Nat}    {o : pm} {rρ : pm}   : ∀ (n : Nat) (l1 l2 : Int) (ρ : pm), L_X9_readGround_29 n l1 l2 ρ = some rρ → ci_T yX9_readGround cX9_readGround 4 none (d + 3) 29 ([(0, .ref 63), (1, .int (Int32.ofInt l1)), (2, .int (Int32.ofInt l2))], [], pk false ρ o) (pV false rρ o) := by
  intro n
  induction n with
  | zero =>
    intro l1 l2 ρ h
    rw [L_X9_readGround_29] at h
    cases h
  | succ n ih =>
    intro l1 l2 ρ h
    rw [L_X9_readGround_29] at h
    obtain ⟨h6, h⟩ := ck_some h
    refine ci_T.step cb_X9_readGround_29 (ci_sq rfl (ci_sq (pe_getI (kI := 28) tq_62 rfl rfl rfl) (pe_if_ne h6))) ?_
    refine pbrn h (fun hc h => ?_) (fun hc h => ?_)
    · cases h
      exact ci_T.done (v := none) cd_X9_readGround_155 ⟨rfl, rfl⟩
    · obtain ⟨h7, h⟩ := ck_some h
      refine ci_T.step cb_X9_readGround_36 (ci_sq rfl (pe_if_eq h7)) ?_
      refine pbr h (fun hc h => ?_) (fun hc h => ?_)
      · cases h
        exact ci_T.done (v := none) cd_X9_readGround_155 ⟨rfl, rfl⟩
      · obtain ⟨h8, h⟩ := ck_some h
        refine ci_T.step cb_X9_readGround_40 (ci_sq rfl (ci_sq rfl (ci_sq (pe_getI (kI := 26) tq_62 rfl rfl rfl) (ci_sq (pe_push pc_2) (pe_ic_ne h8 pR_2))))) ?_
        obtain ⟨j65, hj, h⟩ := jn_ex h
        have J65 : ∀ (l1 s1 : Int) (ρ : pm), j65 l1 s1 ρ = some rρ → ci_T yX9_readGround cX9_readGround 4 none (d + 3) 65 ([(0, .ref 63), (1, .int (Int32.ofInt l1))], [.int (Int32.ofInt s1), .ref 63], pk false ρ o) (pV false rρ o) := by
          intro l1 s1 ρ h
          subst hj
          refine ci_T.step cb_X9_readGround_65 (pe_push pc_5) ?_
          obtain ⟨ρ9, hv, h⟩ := bn_some h
          refine ci_T.call (as := [_, _, _]) (rest := []) kc_X9_needs ki_X9_needs (by decide) cl_X9_readGround_66 rfl (Nat.le_of_ble_eq_true rfl) ⟨⟨_, rfl⟩, _, _, _, rfl, pk_obj tq_62 rfl _ _⟩ (s_X9_needs (d + 2) o hv) ?_
          rintro _ _ ⟨rfl, rfl⟩
          clear hv
          refine ci_T.step cb_X9_readGround_69 (ci_sq rfl (ci_sq (pe_push pc_0) (pe_push pc_24))) ?_
          obtain ⟨v10, ρ11, hv, h⟩ := bn2_some h
          refine ci_T.call (as := [_, _, _]) (rest := []) kc_X9_looked ki_X9_looked (by decide) cl_X9_readGround_73 rfl (Nat.le_of_ble_eq_true rfl) ⟨⟨_, rfl⟩, _, _, _, rfl, pk_obj tq_62 rfl _ _⟩ (s_X9_looked (d + 1) o hv) ?_
          rintro _ _ ⟨rfl, rfl⟩
          clear hv
          obtain ⟨h12, h⟩ := ck_some h
          refine ci_T.step cb_X9_readGround_76 (ci_sq rfl (ci_sq rfl (ci_sq (pe_getI (kI := 28) tq_62 rfl rfl rfl) (pe_if_ne h12)))) ?_
          obtain ⟨j105, hj, h⟩ := jn_ex h
          have J105 : ∀ (l1 l3 : Int) (ρ : pm), j105 l1 l3 ρ = some rρ → ci_T yX9_readGround cX9_readGround 4 none (d + 3) 105 ([(0, .ref 63), (1, .int (Int32.ofInt l1)), (3, .int (Int32.ofInt l3))], [], pk false ρ o) (pV false rρ o) := by
            intro l1 l3 ρ h
            subst hj
            obtain ⟨h13, h⟩ := ck_some h
            refine ci_T.step cb_X9_readGround_105 (ci_sq rfl (ci_sq (pe_getI (kI := 28) tq_62 rfl rfl rfl) (pe_if_ne h13))) ?_
            obtain ⟨j134, hj, h⟩ := jn_ex h
            have J134 : ∀ (l1 : Int) (ρ : pm), j134 l1 ρ = some rρ → ci_T yX9_readGround cX9_readGround 4 none (d + 3) 134 ([(0, .ref 63), (1, .int (Int32.ofInt l1))], [], pk false ρ o) (pV false rρ o) := by
              intro l1 ρ h
              subst hj
              refine ci_T.step cb_X9_readGround_134 rfl ?_
              obtain ⟨ρ14, hv, h⟩ := bn_some h
              refine ci_T.call (as := [_]) (rest := []) kc_X9_next ki_X9_next (by decide) cl_X9_readGround_135 rfl (Nat.le_of_ble_eq_true rfl) ⟨⟨_, rfl⟩, _, _, _, rfl, pk_obj tq_62 rfl _ _⟩ (s_X9_next (d + 1) o hv) ?_
              rintro _ _ ⟨rfl, rfl⟩
              clear hv
              obtain ⟨h15, h⟩ := ck_some h
              refine ci_T.step cb_X9_readGround_138 (ci_sq rfl (ci_sq (pe_getI (kI := 26) tq_62 rfl rfl rfl) (ci_sq (pe_push pc_2) (pe_ic_ne h15 pR_2)))) ?_
              obtain ⟨j151, hj, h⟩ := jn_ex h
              have J151 : ∀ (l1 s0 : Int) (ρ : pm), j151 l1 s0 ρ = some rρ → ci_T yX9_readGround cX9_readGround 4 none (d + 3) 151 ([(0, .ref 63), (1, .int (Int32.ofInt l1))], [.int (Int32.ofInt s0)], pk false ρ o) (pV false rρ o) := by
                intro l1 s0 ρ h
                subst hj
                refine ci_T.step cb_X9_readGround_151 (ci_sq rfl rfl) ?_
                exact ci_T.sub [1, 2, 0] (ih _ _ _ h) rfl
              clear hj
              refine pbrn h (fun hc h => ?_) (fun hc h => ?_)
              · refine ci_T.step cb_X9_readGround_150 (pe_push pc_0) ?_
                exact ci_T.sub [0, 1] (J151 _ _ _ h) rfl
              · refine ci_T.step cb_X9_readGround_146 (ci_sq (pe_push pc_1) rfl) ?_
                exact ci_T.sub [0, 1] (J151 _ _ _ h) rfl
            clear hj
            refine pbrn h (fun hc h => ?_) (fun hc h => ?_)
            · exact ci_T.sub [0, 1] (J134 _ _ h) rfl
            · obtain ⟨h16, h⟩ := ck_some h
              replace h := jn_some h
              obtain ⟨h18, h⟩ := ck_some h
              replace h := jn_some h
              refine ci_T.step cb_X9_readGround_112 (ci_sq rfl (ci_sq (pe_getR tq_62 rfl rfl) (ci_sq rfl (ci_sq rfl (ci_sq (pe_ast (nI := 25) tq_68 rfl rfl h16 rfl) (ci_sq rfl (ci_sq (pe_getR tq_62 rfl rfl) (ci_sq rfl (ci_sq rfl (ci_sq (pe_ald (nI := 3) tq_69 rfl rfl h18) (ci_sq (pe_push pc_1) (ci_sq pe_iadd (ci_sq (pe_ast (nI := 3) tq_69 rfl rfl h18 rfl) (ci_sq rfl rfl)))))))))))))) ?_
              obtain ⟨ρ20, hv, h⟩ := bn_some h
              refine ci_T.call (as := [_, _]) (rest := []) kc_X9_sawCell ki_X9_sawCell (by decide) cl_X9_readGround_131 rfl (Nat.le_of_ble_eq_true rfl) ⟨⟨_, rfl⟩, _, _, _, rfl, pk_obj tq_62 rfl _ _⟩ (s_X9_sawCell (d + 2) o hv) ?_
              rintro _ _ ⟨rfl, rfl⟩
              clear hv
              exact ci_T.sub [0, 1] (J134 _ _ h) rfl
          clear hj
          refine pbrn h (fun hc h => ?_) (fun hc h => ?_)
          · exact ci_T.sub [1, 2, 0] (J105 _ _ _ h) rfl
          · obtain ⟨h21, h⟩ := ck_some h
            obtain ⟨h22, h⟩ := ck_some h
            refine ci_T.step cb_X9_readGround_84 (ci_sq rfl (ci_sq rfl (ci_sq (pe_getR tq_62 rfl rfl) (ci_sq rfl (ci_sq (pe_ald (nI := 25) tq_68 rfl rfl h21) (ci_sq (pe_push pc_m4) (pe_ic_ne h22 pR_m4))))))) ?_
            obtain ⟨j101, hj, h⟩ := jn_ex h
            have J101 : ∀ (l1 l3 s1 : Int) (ρ : pm), j101 l1 l3 s1 ρ = some rρ → ci_T yX9_readGround cX9_readGround 4 none (d + 3) 101 ([(0, .ref 63), (1, .int (Int32.ofInt l1)), (3, .int (Int32.ofInt l3))], [.int (Int32.ofInt s1), .ref 63], pk false ρ o) (pV false rρ o) := by
              intro l1 l3 s1 ρ h
              subst hj
              refine ci_T.step cb_X9_readGround_101 (pe_push pc_4) ?_
              obtain ⟨ρ23, hv, h⟩ := bn_some h
              refine ci_T.call (as := [_, _, _]) (rest := []) kc_X9_needs ki_X9_needs (by decide) cl_X9_readGround_102 rfl (Nat.le_of_ble_eq_true rfl) ⟨⟨_, rfl⟩, _, _, _, rfl, pk_obj tq_62 rfl _ _⟩ (s_X9_needs (d + 2) o hv) ?_
              rintro _ _ ⟨rfl, rfl⟩
              clear hv
              exact ci_T.sub [0, 1, 2] (J105 _ _ _ h) rfl
            clear hj
            refine pbrn h (fun hc h => ?_) (fun hc h => ?_)
            · refine ci_T.step cb_X9_readGround_100 (pe_push pc_0) ?_
              exact ci_T.sub [1, 2, 0] (J101 _ _ _ _ h) rfl
            · refine ci_T.step cb_X9_readGround_96 (ci_sq (pe_push pc_1) rfl) ?_
              exact ci_T.sub [1, 2, 0] (J101 _ _ _ _ h) rfl
        clear hj
        obtain ⟨j60, hj, h⟩ := jn_ex h
        have J60 : ∀ (l1 : Int) (ρ : pm), j60 l1 ρ = some rρ → ci_T yX9_readGround cX9_readGround 4 none (d + 3) 60 ([(0, .ref 63), (1, .int (Int32.ofInt l1))], [.ref 63], pk false ρ o) (pV false rρ o) := by
          intro l1 ρ h
          subst hj
          refine ci_T.step cb_X9_readGround_60 (ci_sq (pe_push pc_1) rfl) ?_
          exact ci_T.sub [0, 1] (J65 _ _ _ h) rfl
        clear hj
        refine pbrn h (fun hc h => ?_) (fun hc h => ?_)
        · exact ci_T.sub [0, 1] (J60 _ _ h) rfl
        · obtain ⟨h24, h⟩ := ck_some h
          obtain ⟨h25, h⟩ := ck_some h
          refine ci_T.step cb_X9_readGround_49 (ci_sq rfl (ci_sq (pe_getR tq_62 rfl rfl) (ci_sq rfl (ci_sq (pe_ald (nI := 3) tq_69 rfl rfl h24) (ci_sq (pe_push pc_8) (pe_ic_ge h25 pR_8)))))) ?_
          refine pbr h (fun hc h => ?_) (fun hc h => ?_)
          · refine ci_T.step cb_X9_readGround_64 (pe_push pc_0) ?_
            exact ci_T.sub [0, 1] (J65 _ _ _ h) rfl
          · exact ci_T.sub [0, 1] (J60 _ _ h) rfl
set_option maxRecDepth 100000 in
theorem s_X9_readGround (d : Nat)   {ρ : pm} (o : pm)  {rρ : pm} (h : f_X9_readGround ρ = some rρ) : ci_Met (d + 3) (yX9_readGround, cX9_readGround, 4, none, [], 0, 0) [.ref 63] (pk false ρ o) (pV false rρ o) := by
  refine ci_met (by decide) (Nat.le_of_ble_eq_true rfl) ?_ ?_
  · rintro v w' ⟨rfl, rfl⟩
    trivial
  · change ci_T _ _ _ _ _ _ ([(0, .ref 63)], [], pk false ρ o) _
    unfold f_X9_readGround at h
    refine ci_T.step cb_X9_readGround_0 (ci_sq rfl (ci_sq (pe_push pc_0) (pe_push pc_2))) ?_
    obtain ⟨v1, ρ2, hv, h⟩ := bn2_some h
    refine ci_T.call (as := [_, _, _]) (rest := []) kc_X9_readNumber ki_X9_readNumber (by decide) cl_X9_readGround_3 rfl (Nat.le_of_ble_eq_true rfl) ⟨⟨_, rfl⟩, _, _, _, rfl, pk_obj tq_62 rfl _ _⟩ (s_X9_readNumber d o hv) ?_
    rintro _ _ ⟨rfl, rfl⟩
    clear hv
    obtain ⟨h3, h⟩ := ck_some h
    obtain ⟨h4, h⟩ := ck_some h
    refine ci_T.step cb_X9_readGround_6 (ci_sq rfl (ci_sq rfl (ci_sq rfl (ci_sq rfl (ci_sq (pe_getI (kI := 21) tq_62 rfl rfl rfl) (pe_ic_le h3 h4)))))) ?_
    obtain ⟨j24, hj, h⟩ := jn_ex h
    have J24 : ∀ (l1 s1 : Int) (ρ : pm), j24 l1 s1 ρ = some rρ → ci_T yX9_readGround cX9_readGround 4 none (d + 3) 24 ([(0, .ref 63), (1, .int (Int32.ofInt l1))], [.int (Int32.ofInt s1), .ref 63], pk false ρ o) (pV false rρ o) := by
      intro l1 s1 ρ h
      subst hj
      replace h := jn_some h
      refine ci_T.step cb_X9_readGround_24 (ci_sq (pe_putI (kI := 21) tq_62 rfl rfl rfl) (ci_sq (pe_push pc_1) rfl)) ?_
      exact ci_T.sub [1, 2, 0] (t_X9_readGround_29 fu _ _ _ h) rfl
    clear hj
    refine pbr h (fun hc h => ?_) (fun hc h => ?_)
    · refine ci_T.step cb_X9_readGround_20 (ci_sq rfl (pe_getI (kI := 21) tq_62 rfl rfl rfl)) ?_
      exact ci_T.sub [1, 0] (J24 _ _ _ h) rfl
    · refine ci_T.step cb_X9_readGround_16 (ci_sq rfl rfl) ?_
      exact ci_T.sub [1, 0] (J24 _ _ _ h) rfl
/-- X9_readLineOf -/
def f_X9_readLineOf (l1 : Int) (ρ : pm) : Option pm := ck (inR l1) (if l1 = 0 then bn2 (f_X9_readNumber 2 5 ρ) (fun v2 ρ3 => jn (pup ρ3 62 6 v2) (fun ρ4 => bn2 (f_X9_readNumber 2 5 ρ4) (fun v5 ρ6 => jn (pup ρ6 62 7 v5) (fun ρ7 => some ρ7)))) else if l1 = 1 then bn2 (f_X9_readNumber 0 24 ρ) (fun v9 ρ10 => jn (pup ρ10 62 8 v9) (fun ρ11 => (f_X9_sawCell (ρ11 62 8) ρ11).bind (fun ρ12 => some ρ12))) else if l1 = 2 then bn2 (f_X9_readNumber 0 2 ρ) (fun v14 ρ15 => jn (pup ρ15 62 10 v14) (fun ρ16 => some ρ16)) else if l1 = 3 then jn (pup ρ 62 11 1) (fun ρ18 => some ρ18) else if l1 = 4 then (f_X9_readRow ρ).bind (fun ρ20 => some ρ20) else if l1 = 5 then bn2 (f_X9_readNumber 1 9 ρ) (fun v22 ρ23 => ck (0 ≤ ρ 62 9 ∧ ρ 62 9 < 3) (jn (pup ρ23 67 (ρ 62 9) v22) (fun ρ25 => jn (pup ρ25 62 9 ((ρ25 62 9) + 1)) (fun ρ26 => some ρ26)))) else (f_X9_readGround ρ).bind (fun ρ28 => some ρ28))
set_option maxRecDepth 100000 in
theorem s_X9_readLineOf (d : Nat)   {ρ : pm} (o : pm) {l1 : Int} {rρ : pm} (h : f_X9_readLineOf l1 ρ = some rρ) : ci_Met (d + 4) (yX9_readLineOf, cX9_readLineOf, 2, none, [], 0, 0) [.ref 63, .int (Int32.ofInt l1)] (pk false ρ o) (pV false rρ o) := by
  refine ci_met (by decide) (Nat.le_of_ble_eq_true rfl) ?_ ?_
  · rintro v w' ⟨rfl, rfl⟩
    trivial
  · change ci_T _ _ _ _ _ _ ([(0, .ref 63), (1, .int (Int32.ofInt l1))], [], pk false ρ o) _
    unfold f_X9_readLineOf at h
    obtain ⟨h1, h⟩ := ck_some h
    refine ci_T.step cb_X9_readLineOf_0 (ci_sq rfl (pe_tsw h1 rfl)) ?_
    refine pite h (fun hc8 h => ?_) (fun hc8 h => ?_)
    · refine tsw_T hc8 rfl ?_
      refine ci_T.step cb_X9_readLineOf_40 (ci_sq rfl (ci_sq rfl (ci_sq (pe_push pc_2) (pe_push pc_5)))) ?_
      obtain ⟨v2, ρ3, hv, h⟩ := bn2_some h
      refine ci_T.call (as := [_, _, _]) (rest := [_]) kc_X9_readNumber ki_X9_readNumber (by decide) cl_X9_readLineOf_44 rfl (Nat.le_of_ble_eq_true rfl) ⟨⟨_, rfl⟩, _, _, _, rfl, pk_obj tq_62 rfl _ _⟩ (s_X9_readNumber (d + 1) o hv) ?_
      rintro _ _ ⟨rfl, rfl⟩
      clear hv
      replace h := jn_some h
      refine ci_T.step cb_X9_readLineOf_47 (ci_sq (pe_putI (kI := 6) tq_62 rfl rfl rfl) (ci_sq rfl (ci_sq rfl (ci_sq (pe_push pc_2) (pe_push pc_5))))) ?_
      obtain ⟨v5, ρ6, hv, h⟩ := bn2_some h
      refine ci_T.call (as := [_, _, _]) (rest := [_]) kc_X9_readNumber ki_X9_readNumber (by decide) cl_X9_readLineOf_54 rfl (Nat.le_of_ble_eq_true rfl) ⟨⟨_, rfl⟩, _, _, _, rfl, pk_obj tq_62 rfl _ _⟩ (s_X9_readNumber (d + 1) o hv) ?_
      rintro _ _ ⟨rfl, rfl⟩
      clear hv
      replace h := jn_some h
      refine ci_T.step cb_X9_readLineOf_57 (ci_sq (pe_putI (kI := 7) tq_62 rfl rfl rfl) rfl) ?_
      cases h
      exact ci_T.done (v := none) cd_X9_readLineOf_146 ⟨rfl, rfl⟩
    refine pite h (fun hc13 h => ?_) (fun hc13 h => ?_)
    · refine tsw_T hc13 rfl ?_
      refine ci_T.step cb_X9_readLineOf_63 (ci_sq rfl (ci_sq rfl (ci_sq (pe_push pc_0) (pe_push pc_24)))) ?_
      obtain ⟨v9, ρ10, hv, h⟩ := bn2_some h
      refine ci_T.call (as := [_, _, _]) (rest := [_]) kc_X9_readNumber ki_X9_readNumber (by decide) cl_X9_readLineOf_68 rfl (Nat.le_of_ble_eq_true rfl) ⟨⟨_, rfl⟩, _, _, _, rfl, pk_obj tq_62 rfl _ _⟩ (s_X9_readNumber (d + 1) o hv) ?_
      rintro _ _ ⟨rfl, rfl⟩
      clear hv
      replace h := jn_some h
      refine ci_T.step cb_X9_readLineOf_71 (ci_sq (pe_putI (kI := 8) tq_62 rfl rfl rfl) (ci_sq rfl (ci_sq rfl (pe_getI (kI := 8) tq_62 rfl rfl rfl)))) ?_
      obtain ⟨ρ12, hv, h⟩ := bn_some h
      refine ci_T.call (as := [_, _]) (rest := []) kc_X9_sawCell ki_X9_sawCell (by decide) cl_X9_readLineOf_79 rfl (Nat.le_of_ble_eq_true rfl) ⟨⟨_, rfl⟩, _, _, _, rfl, pk_obj tq_62 rfl _ _⟩ (s_X9_sawCell (d + 3) o hv) ?_
      rintro _ _ ⟨rfl, rfl⟩
      clear hv
      refine ci_T.step cb_X9_readLineOf_82 rfl ?_
      cases h
      exact ci_T.done (v := none) cd_X9_readLineOf_146 ⟨rfl, rfl⟩
    refine pite h (fun hc17 h => ?_) (fun hc17 h => ?_)
    · refine tsw_T hc17 rfl ?_
      refine ci_T.step cb_X9_readLineOf_85 (ci_sq rfl (ci_sq rfl (ci_sq (pe_push pc_0) (pe_push pc_2)))) ?_
      obtain ⟨v14, ρ15, hv, h⟩ := bn2_some h
      refine ci_T.call (as := [_, _, _]) (rest := [_]) kc_X9_readNumber ki_X9_readNumber (by decide) cl_X9_readLineOf_89 rfl (Nat.le_of_ble_eq_true rfl) ⟨⟨_, rfl⟩, _, _, _, rfl, pk_obj tq_62 rfl _ _⟩ (s_X9_readNumber (d + 1) o hv) ?_
      rintro _ _ ⟨rfl, rfl⟩
      clear hv
      replace h := jn_some h
      refine ci_T.step cb_X9_readLineOf_92 (ci_sq (pe_putI (kI := 10) tq_62 rfl rfl rfl) rfl) ?_
      cases h
      exact ci_T.done (v := none) cd_X9_readLineOf_146 ⟨rfl, rfl⟩
    refine pite h (fun hc19 h => ?_) (fun hc19 h => ?_)
    · refine tsw_T hc19 rfl ?_
      replace h := jn_some h
      refine ci_T.step cb_X9_readLineOf_98 (ci_sq rfl (ci_sq (pe_push pc_1) (ci_sq (pe_putI (kI := 11) tq_62 rfl rfl rfl) rfl))) ?_
      cases h
      exact ci_T.done (v := none) cd_X9_readLineOf_146 ⟨rfl, rfl⟩
    refine pite h (fun hc21 h => ?_) (fun hc21 h => ?_)
    · refine tsw_T hc21 rfl ?_
      refine ci_T.step cb_X9_readLineOf_106 rfl ?_
      obtain ⟨ρ20, hv, h⟩ := bn_some h
      refine ci_T.call (as := [_]) (rest := []) kc_X9_readRow ki_X9_readRow (by decide) cl_X9_readLineOf_107 rfl (Nat.le_of_ble_eq_true rfl) ⟨⟨_, rfl⟩, _, _, _, rfl, pk_obj tq_62 rfl _ _⟩ (s_X9_readRow (d + 1) o hv) ?_
      rintro _ _ ⟨rfl, rfl⟩
      clear hv
      refine ci_T.step cb_X9_readLineOf_110 rfl ?_
      cases h
      exact ci_T.done (v := none) cd_X9_readLineOf_146 ⟨rfl, rfl⟩
    refine pite h (fun hc27 h => ?_) (fun hc27 h => ?_)
    · refine tsw_T hc27 rfl ?_
      refine ci_T.step cb_X9_readLineOf_113 (ci_sq rfl (ci_sq (pe_getR tq_62 rfl rfl) (ci_sq rfl (ci_sq (pe_getI (kI := 9) tq_62 rfl rfl rfl) (ci_sq rfl (ci_sq (pe_push pc_1) (pe_push pc_9))))))) ?_
      obtain ⟨v22, ρ23, hv, h⟩ := bn2_some h
      refine ci_T.call (as := [_, _, _]) (rest := [_, _]) kc_X9_readNumber ki_X9_readNumber (by decide) cl_X9_readLineOf_125 rfl (Nat.le_of_ble_eq_true rfl) ⟨⟨_, rfl⟩, _, _, _, rfl, pk_obj tq_62 rfl _ _⟩ (s_X9_readNumber (d + 1) o hv) ?_
      rintro _ _ ⟨rfl, rfl⟩
      clear hv
      obtain ⟨h24, h⟩ := ck_some h
      replace h := jn_some h
      replace h := jn_some h
      refine ci_T.step cb_X9_readLineOf_128 (ci_sq (pe_ast (nI := 3) tq_67 rfl rfl h24 rfl) (ci_sq rfl (ci_sq rfl (ci_sq (pe_getI (kI := 9) tq_62 rfl rfl rfl) (ci_sq (pe_push pc_1) (ci_sq pe_iadd (ci_sq (pe_putI (kI := 9) tq_62 rfl rfl rfl) rfl))))))) ?_
      cases h
      exact ci_T.done (v := none) cd_X9_readLineOf_146 ⟨rfl, rfl⟩
    refine tsw_D (hi := 5) rfl (by omega) ?_
    refine ci_T.step cb_X9_readLineOf_142 rfl ?_
    obtain ⟨ρ28, hv, h⟩ := bn_some h
    refine ci_T.call (as := [_]) (rest := []) kc_X9_readGround ki_X9_readGround (by decide) cl_X9_readLineOf_143 rfl (Nat.le_of_ble_eq_true rfl) ⟨⟨_, rfl⟩, _, _, _, rfl, pk_obj tq_62 rfl _ _⟩ (s_X9_readGround d o hv) ?_
    rintro _ _ ⟨rfl, rfl⟩
    clear hv
    cases h
    exact ci_T.done (v := none) cd_X9_readLineOf_146 ⟨rfl, rfl⟩
/-- X9_readLine -/
def f_X9_readLine (ρ : pm) : Option pm := ck (inR (ρ 62 26)) (jn (fun (s0 : Int) (ρ : pm) => ck (inR s0) (jn (fun (l1 s1 : Int) (ρ : pm) => (f_X9_needs s1 2 ρ).bind (fun ρ3 => ck (inR l1) (jn (fun (l1 s1 : Int) (ρ : pm) => (f_X9_needs s1 5 ρ).bind (fun ρ5 => ck (inR (ρ5 62 28)) (jn (fun (l1 : Int) (ρ : pm) => (f_X9_next ρ).bind (fun ρ7 => ck (inR (ρ7 62 28)) (if (ρ7 62 28) ≤ 0 then (f_X9_readLineOf l1 ρ7).bind (fun ρ9 => ck (inR (ρ9 62 28)) (jn (fun (ρ : pm) => (f_X9_next ρ).bind (fun ρ11 => some ρ11)) (fun j144 => if (ρ9 62 28) = 0 then ck (inR (ρ9 62 26)) (jn (fun (s1 : Int) (ρ : pm) => (f_X9_needs s1 2 ρ).bind (fun ρ13 => j144 ρ13)) (fun j140 => if (ρ9 62 26) = 3 then j140 1 ρ9 else j140 0 ρ9)) else j144 ρ9))) else some ρ7))) (fun j102 => if (ρ5 62 28) = 0 then ck (inR l1) (if 3 < l1 then j102 l1 ρ5 else jn (fun (l1 s1 : Int) (ρ : pm) => (f_X9_needs s1 4 ρ).bind (fun ρ15 => jn (pup ρ15 62 16 (bor (ρ15 62 16) (bshl 1 l1))) (fun ρ16 => j102 l1 ρ16))) (fun j86 => if (band (bshr (ρ5 62 16) l1) 1) = 0 then j86 l1 1 ρ5 else j86 l1 0 ρ5)) else j102 l1 ρ5)))) (fun j53 => jn (fun (l1 : Int) (ρ : pm) => j53 l1 1 ρ) (fun j48 => if l1 = 5 then ck (inR (ρ3 62 9)) (if 3 ≤ (ρ3 62 9) then j53 l1 0 ρ3 else j48 l1 ρ3) else j48 l1 ρ3))))) (fun j30 => if s0 = (-4) then j30 s0 0 ρ else j30 s0 1 ρ))) (fun j17 => if (ρ 62 26) = 1 then (f_X9_lineNow ρ).bind (fun v18 => j17 v18 ρ) else j17 (-4) ρ))
set_option maxRecDepth 100000 in
theorem s_X9_readLine (d : Nat)   {ρ : pm} (o : pm)  {rρ : pm} (h : f_X9_readLine ρ = some rρ) : ci_Met (d + 5) (yX9_readLine, cX9_readLine, 2, none, [], 0, 0) [.ref 63] (pk false ρ o) (pV false rρ o) := by
  refine ci_met (by decide) (Nat.le_of_ble_eq_true rfl) ?_ ?_
  · rintro v w' ⟨rfl, rfl⟩
    trivial
  · change ci_T _ _ _ _ _ _ ([(0, .ref 63)], [], pk false ρ o) _
    unfold f_X9_readLine at h
    obtain ⟨h1, h⟩ := ck_some h
    refine ci_T.step cb_X9_readLine_0 (ci_sq rfl (ci_sq (pe_getI (kI := 26) tq_62 rfl rfl rfl) (ci_sq (pe_push pc_1) (pe_ic_ne h1 pR_1)))) ?_
    obtain ⟨j17, hj, h⟩ := jn_ex h
    have J17 : ∀ (s0 : Int) (ρ : pm), j17 s0 ρ = some rρ → ci_T yX9_readLine cX9_readLine 2 none (d + 5) 17 ([(0, .ref 63)], [.int (Int32.ofInt s0)], pk false ρ o) (pV false rρ o) := by
      intro s0 ρ h
      subst hj
      obtain ⟨h2, h⟩ := ck_some h
      refine ci_T.step cb_X9_readLine_17 (ci_sq rfl (ci_sq rfl (ci_sq rfl (ci_sq (pe_push pc_m4) (pe_ic_eq h2 pR_m4))))) ?_
      obtain ⟨j30, hj, h⟩ := jn_ex h
      have J30 : ∀ (l1 s1 : Int) (ρ : pm), j30 l1 s1 ρ = some rρ → ci_T yX9_readLine cX9_readLine 2 none (d + 5) 30 ([(0, .ref 63), (1, .int (Int32.ofInt l1))], [.int (Int32.ofInt s1), .ref 63], pk false ρ o) (pV false rρ o) := by
        intro l1 s1 ρ h
        subst hj
        refine ci_T.step cb_X9_readLine_30 (pe_push pc_2) ?_
        obtain ⟨ρ3, hv, h⟩ := bn_some h
        refine ci_T.call (as := [_, _, _]) (rest := []) kc_X9_needs ki_X9_needs (by decide) cl_X9_readLine_31 rfl (Nat.le_of_ble_eq_true rfl) ⟨⟨_, rfl⟩, _, _, _, rfl, pk_obj tq_62 rfl _ _⟩ (s_X9_needs (d + 4) o hv) ?_
        rintro _ _ ⟨rfl, rfl⟩
        clear hv
        obtain ⟨h4, h⟩ := ck_some h
        refine ci_T.step cb_X9_readLine_34 (ci_sq rfl (ci_sq rfl (ci_sq (pe_push pc_5) (pe_ic_ne h4 pR_5)))) ?_
        obtain ⟨j53, hj, h⟩ := jn_ex h
        have J53 : ∀ (l1 s1 : Int) (ρ : pm), j53 l1 s1 ρ = some rρ → ci_T yX9_readLine cX9_readLine 2 none (d + 5) 53 ([(0, .ref 63), (1, .int (Int32.ofInt l1))], [.int (Int32.ofInt s1), .ref 63], pk false ρ o) (pV false rρ o) := by
          intro l1 s1 ρ h
          subst hj
          refine ci_T.step cb_X9_readLine_53 (pe_push pc_5) ?_
          obtain ⟨ρ5, hv, h⟩ := bn_some h
          refine ci_T.call (as := [_, _, _]) (rest := []) kc_X9_needs ki_X9_needs (by decide) cl_X9_readLine_54 rfl (Nat.le_of_ble_eq_true rfl) ⟨⟨_, rfl⟩, _, _, _, rfl, pk_obj tq_62 rfl _ _⟩ (s_X9_needs (d + 4) o hv) ?_
          rintro _ _ ⟨rfl, rfl⟩
          clear hv
          obtain ⟨h6, h⟩ := ck_some h
          refine ci_T.step cb_X9_readLine_57 (ci_sq rfl (ci_sq (pe_getI (kI := 28) tq_62 rfl rfl rfl) (pe_if_ne h6))) ?_
          obtain ⟨j102, hj, h⟩ := jn_ex h
          have J102 : ∀ (l1 : Int) (ρ : pm), j102 l1 ρ = some rρ → ci_T yX9_readLine cX9_readLine 2 none (d + 5) 102 ([(0, .ref 63), (1, .int (Int32.ofInt l1))], [], pk false ρ o) (pV false rρ o) := by
            intro l1 ρ h
            subst hj
            refine ci_T.step cb_X9_readLine_102 rfl ?_
            obtain ⟨ρ7, hv, h⟩ := bn_some h
            refine ci_T.call (as := [_]) (rest := []) kc_X9_next ki_X9_next (by decide) cl_X9_readLine_103 rfl (Nat.le_of_ble_eq_true rfl) ⟨⟨_, rfl⟩, _, _, _, rfl, pk_obj tq_62 rfl _ _⟩ (s_X9_next (d + 3) o hv) ?_
            rintro _ _ ⟨rfl, rfl⟩
            clear hv
            obtain ⟨h8, h⟩ := ck_some h
            refine ci_T.step cb_X9_readLine_106 (ci_sq rfl (ci_sq (pe_getI (kI := 28) tq_62 rfl rfl rfl) (pe_if_le h8))) ?_
            refine pbr h (fun hc h => ?_) (fun hc h => ?_)
            · refine ci_T.step cb_X9_readLine_114 (ci_sq rfl rfl) ?_
              obtain ⟨ρ9, hv, h⟩ := bn_some h
              refine ci_T.call (as := [_, _]) (rest := []) kc_X9_readLineOf ki_X9_readLineOf (by decide) cl_X9_readLine_116 rfl (Nat.le_of_ble_eq_true rfl) ⟨⟨_, rfl⟩, _, _, _, rfl, pk_obj tq_62 rfl _ _⟩ (s_X9_readLineOf d o hv) ?_
              rintro _ _ ⟨rfl, rfl⟩
              clear hv
              obtain ⟨h10, h⟩ := ck_some h
              refine ci_T.step cb_X9_readLine_119 (ci_sq rfl (ci_sq (pe_getI (kI := 28) tq_62 rfl rfl rfl) (pe_if_ne h10))) ?_
              obtain ⟨j144, hj, h⟩ := jn_ex h
              have J144 : ∀ (ρ : pm), j144 ρ = some rρ → ci_T yX9_readLine cX9_readLine 2 none (d + 5) 144 ([(0, .ref 63)], [], pk false ρ o) (pV false rρ o) := by
                intro ρ h
                subst hj
                refine ci_T.step cb_X9_readLine_144 rfl ?_
                obtain ⟨ρ11, hv, h⟩ := bn_some h
                refine ci_T.call (as := [_]) (rest := []) kc_X9_next ki_X9_next (by decide) cl_X9_readLine_145 rfl (Nat.le_of_ble_eq_true rfl) ⟨⟨_, rfl⟩, _, _, _, rfl, pk_obj tq_62 rfl _ _⟩ (s_X9_next (d + 3) o hv) ?_
                rintro _ _ ⟨rfl, rfl⟩
                clear hv
                cases h
                exact ci_T.done (v := none) cd_X9_readLine_148 ⟨rfl, rfl⟩
              clear hj
              refine pbrn h (fun hc h => ?_) (fun hc h => ?_)
              · exact ci_T.sub [0] (J144 _ h) rfl
              · obtain ⟨h12, h⟩ := ck_some h
                refine ci_T.step cb_X9_readLine_126 (ci_sq rfl (ci_sq rfl (ci_sq (pe_getI (kI := 26) tq_62 rfl rfl rfl) (ci_sq (pe_push pc_3) (pe_ic_ne h12 pR_3))))) ?_
                obtain ⟨j140, hj, h⟩ := jn_ex h
                have J140 : ∀ (s1 : Int) (ρ : pm), j140 s1 ρ = some rρ → ci_T yX9_readLine cX9_readLine 2 none (d + 5) 140 ([(0, .ref 63)], [.int (Int32.ofInt s1), .ref 63], pk false ρ o) (pV false rρ o) := by
                  intro s1 ρ h
                  subst hj
                  refine ci_T.step cb_X9_readLine_140 (pe_push pc_2) ?_
                  obtain ⟨ρ13, hv, h⟩ := bn_some h
                  refine ci_T.call (as := [_, _, _]) (rest := []) kc_X9_needs ki_X9_needs (by decide) cl_X9_readLine_141 rfl (Nat.le_of_ble_eq_true rfl) ⟨⟨_, rfl⟩, _, _, _, rfl, pk_obj tq_62 rfl _ _⟩ (s_X9_needs (d + 4) o hv) ?_
                  rintro _ _ ⟨rfl, rfl⟩
                  clear hv
                  exact ci_T.sub [0] (J144 _ h) rfl
                clear hj
                refine pbrn h (fun hc h => ?_) (fun hc h => ?_)
                · refine ci_T.step cb_X9_readLine_139 (pe_push pc_0) ?_
                  exact ci_T.sub [0] (J140 _ _ h) rfl
                · refine ci_T.step cb_X9_readLine_135 (ci_sq (pe_push pc_1) rfl) ?_
                  exact ci_T.sub [0] (J140 _ _ h) rfl
            · cases h
              exact ci_T.done (v := none) cd_X9_readLine_113 ⟨rfl, rfl⟩
          clear hj
          refine pbrn h (fun hc h => ?_) (fun hc h => ?_)
          · exact ci_T.sub [0, 1] (J102 _ _ h) rfl
          · obtain ⟨h14, h⟩ := ck_some h
            refine ci_T.step cb_X9_readLine_64 (ci_sq rfl (ci_sq (pe_push pc_3) (pe_ic_gt h14 pR_3))) ?_
            refine pbr h (fun hc h => ?_) (fun hc h => ?_)
            · exact ci_T.sub [0, 1] (J102 _ _ h) rfl
            · refine ci_T.step cb_X9_readLine_69 (ci_sq rfl (ci_sq rfl (ci_sq (pe_getI (kI := 16) tq_62 rfl rfl rfl) (ci_sq rfl (ci_sq pe_ishr (ci_sq (pe_push pc_1) (ci_sq pe_iand (pe_if_ne (band_R _ _))))))))) ?_
              obtain ⟨j86, hj, h⟩ := jn_ex h
              have J86 : ∀ (l1 s1 : Int) (ρ : pm), j86 l1 s1 ρ = some rρ → ci_T yX9_readLine cX9_readLine 2 none (d + 5) 86 ([(0, .ref 63), (1, .int (Int32.ofInt l1))], [.int (Int32.ofInt s1), .ref 63], pk false ρ o) (pV false rρ o) := by
                intro l1 s1 ρ h
                subst hj
                refine ci_T.step cb_X9_readLine_86 (pe_push pc_4) ?_
                obtain ⟨ρ15, hv, h⟩ := bn_some h
                refine ci_T.call (as := [_, _, _]) (rest := []) kc_X9_needs ki_X9_needs (by decide) cl_X9_readLine_87 rfl (Nat.le_of_ble_eq_true rfl) ⟨⟨_, rfl⟩, _, _, _, rfl, pk_obj tq_62 rfl _ _⟩ (s_X9_needs (d + 4) o hv) ?_
                rintro _ _ ⟨rfl, rfl⟩
                clear hv
                replace h := jn_some h
                refine ci_T.step cb_X9_readLine_90 (ci_sq rfl (ci_sq rfl (ci_sq (pe_getI (kI := 16) tq_62 rfl rfl rfl) (ci_sq (pe_push pc_1) (ci_sq rfl (ci_sq pe_ishl (ci_sq pe_ior (pe_putI (kI := 16) tq_62 rfl rfl rfl)))))))) ?_
                exact ci_T.sub [0, 1] (J102 _ _ h) rfl
              clear hj
              refine pbrn h (fun hc h => ?_) (fun hc h => ?_)
              · refine ci_T.step cb_X9_readLine_85 (pe_push pc_0) ?_
                exact ci_T.sub [0, 1] (J86 _ _ _ h) rfl
              · refine ci_T.step cb_X9_readLine_81 (ci_sq (pe_push pc_1) rfl) ?_
                exact ci_T.sub [0, 1] (J86 _ _ _ h) rfl
        clear hj
        obtain ⟨j48, hj, h⟩ := jn_ex h
        have J48 : ∀ (l1 : Int) (ρ : pm), j48 l1 ρ = some rρ → ci_T yX9_readLine cX9_readLine 2 none (d + 5) 48 ([(0, .ref 63), (1, .int (Int32.ofInt l1))], [.ref 63], pk false ρ o) (pV false rρ o) := by
          intro l1 ρ h
          subst hj
          refine ci_T.step cb_X9_readLine_48 (ci_sq (pe_push pc_1) rfl) ?_
          exact ci_T.sub [0, 1] (J53 _ _ _ h) rfl
        clear hj
        refine pbrn h (fun hc h => ?_) (fun hc h => ?_)
        · exact ci_T.sub [0, 1] (J48 _ _ h) rfl
        · obtain ⟨h17, h⟩ := ck_some h
          refine ci_T.step cb_X9_readLine_40 (ci_sq rfl (ci_sq (pe_getI (kI := 9) tq_62 rfl rfl rfl) (ci_sq (pe_push pc_3) (pe_ic_ge h17 pR_3)))) ?_
          refine pbr h (fun hc h => ?_) (fun hc h => ?_)
          · refine ci_T.step cb_X9_readLine_52 (pe_push pc_0) ?_
            exact ci_T.sub [0, 1] (J53 _ _ _ h) rfl
          · exact ci_T.sub [0, 1] (J48 _ _ h) rfl
      clear hj
      refine pbr h (fun hc h => ?_) (fun hc h => ?_)
      · refine ci_T.step cb_X9_readLine_29 (pe_push pc_0) ?_
        exact ci_T.sub [1, 0] (J30 _ _ _ h) rfl
      · refine ci_T.step cb_X9_readLine_25 (ci_sq (pe_push pc_1) rfl) ?_
        exact ci_T.sub [1, 0] (J30 _ _ _ h) rfl
    clear hj
    refine pbrn h (fun hc h => ?_) (fun hc h => ?_)
    · refine ci_T.step cb_X9_readLine_15 (pe_push pc_m4) ?_
      exact ci_T.sub [0] (J17 _ _ h) rfl
    · refine ci_T.step cb_X9_readLine_8 rfl ?_
      obtain ⟨v18, hv, h⟩ := bn_some h
      refine ci_T.call (as := [_]) (rest := []) kc_X9_lineNow ki_X9_lineNow (by decide) cl_X9_readLine_9 rfl (Nat.le_of_ble_eq_true rfl) ⟨⟨_, rfl⟩, _, _, _, rfl, pk_obj tq_62 rfl _ _⟩ (s_X9_lineNow (d + 1) o hv) ?_
      rintro _ _ ⟨rfl, rfl⟩
      clear hv
      refine ci_T.step cb_X9_readLine_12 rfl ?_
      exact ci_T.sub [0] (J17 _ _ h) rfl
/-- X9_text -/
def L_X9_text_20 (K44 : Int → pm → Option (Int × pm)) : Nat → Int → pm → Option (Int × pm)
  | 0, _, _ => none
  | n + 1, l1, ρ => ck (inR (ρ 62 28)) (if (ρ 62 28) = 0 then ck (inR (ρ 62 26)) (if (ρ 62 26) = 0 then K44 l1 ρ else (f_X9_readLine ρ).bind (fun ρ7 => jn (l1 + 1) (fun x8 => L_X9_text_20 K44 n x8 ρ7))) else K44 l1 ρ)
def f_X9_text (ρ : pm) : Option (Int × pm) := jn (pup ρ 62 28 0) (fun ρ1 => jn (pup ρ1 62 24 0) (fun ρ2 => (f_X9_firstDraft ρ2).bind (fun ρ3 => (f_X9_next ρ3).bind (fun ρ4 => L_X9_text_20 (fun (l1 : Int) (ρ : pm) => ck (inR (ρ 62 28)) (jn (fun (l1 : Int) (ρ : pm) => jn (pup ρ 62 23 0) (fun ρ10 => ck (inR (ρ10 62 28)) (if (ρ10 62 28) ≤ 0 then (f_X9_keepDraft ρ10).bind (fun ρ12 => some (l1, ρ12)) else some ((-10) - (ρ10 62 29), ρ10)))) (fun j111 => if (ρ 62 28) = 0 then ck (inR (ρ 62 18)) (ck (inR (ρ 62 7)) (jn (fun (l1 s1 : Int) (ρ : pm) => (f_X9_needs s1 6 ρ).bind (fun ρ15 => j111 l1 ρ15)) (fun j106 => jn (fun (l1 : Int) (ρ : pm) => j106 l1 0 ρ) (fun j105 => if (ρ 62 7) ≤ (ρ 62 18) then j105 l1 ρ else ck (inR (ρ 62 19)) (ck (inR (ρ 62 6)) (if (ρ 62 6) ≤ (ρ 62 19) then j105 l1 ρ else ck (inR (ρ 62 20)) (ck (inR ((ρ 62 6) * (ρ 62 7))) (if ((ρ 62 6) * (ρ 62 7)) ≤ (ρ 62 20) then j105 l1 ρ else ck (inR (ρ 62 21)) (ck (inR (ρ 62 9)) (if (ρ 62 9) ≤ (ρ 62 21) then j105 l1 ρ else j106 l1 1 ρ)))))))))) else j111 l1 ρ))) fu 0 ρ4))))
set_option maxRecDepth 100000 in
theorem t_X9_text_20 {d : Nat}    {o : pm} {rv : Int} {rρ : pm} {K44 : Int → pm → Option (Int × pm)} (hK44 : ∀ (l1 : Int) (ρ : pm), K44 l1 ρ = some (rv, rρ) → ci_T yX9_text cX9_text 2 (some .int) (d + 6) 44 ([(0, .ref 63), (1, .int (Int32.ofInt l1))], [], pk false ρ o) (pP false rv rρ o)) : ∀ (n : Nat) (l1 : Int) (ρ : pm), L_X9_text_20 K44 n l1 ρ = some (rv, rρ) → ci_T yX9_text cX9_text 2 (some .int) (d + 6) 20 ([(0, .ref 63), (1, .int (Int32.ofInt l1))], [], pk false ρ o) (pP false rv rρ o) := by
  intro n
  induction n with
  | zero =>
    intro l1 ρ h
    rw [L_X9_text_20] at h
    cases h
  | succ n ih =>
    intro l1 ρ h
    rw [L_X9_text_20] at h
    obtain ⟨h5, h⟩ := ck_some h
    refine ci_T.step cb_X9_text_20 (ci_sq rfl (ci_sq (pe_getI (kI := 28) tq_62 rfl rfl rfl) (pe_if_ne h5))) ?_
    refine pbrn h (fun hc h => ?_) (fun hc h => ?_)
    · exact ci_T.sub [0, 1] (hK44 _ _ h) rfl
    · obtain ⟨h6, h⟩ := ck_some h
      refine ci_T.step cb_X9_text_27 (ci_sq rfl (ci_sq (pe_getI (kI := 26) tq_62 rfl rfl rfl) (pe_if_eq h6))) ?_
      refine pbr h (fun hc h => ?_) (fun hc h => ?_)
      · exact ci_T.sub [0, 1] (hK44 _ _ h) rfl
      · refine ci_T.step cb_X9_text_34 rfl ?_
        obtain ⟨ρ7, hv, h⟩ := bn_some h
        refine ci_T.call (as := [_]) (rest := []) kc_X9_readLine ki_X9_readLine (by decide) cl_X9_text_35 rfl (Nat.le_of_ble_eq_true rfl) ⟨⟨_, rfl⟩, _, _, _, rfl, pk_obj tq_62 rfl _ _⟩ (s_X9_readLine d o hv) ?_
        rintro _ _ ⟨rfl, rfl⟩
        clear hv
        replace h := jn_some h
        refine ci_T.step cb_X9_text_38 (ci_sq (pe_inc rfl) rfl) ?_
        exact ci_T.sub [1, 0] (ih _ _ h) rfl
set_option maxRecDepth 100000 in
theorem s_X9_text (d : Nat)   {ρ : pm} (o : pm)  {rv : Int} {rρ : pm} (h : f_X9_text ρ = some (rv, rρ)) : ci_Met (d + 6) (yX9_text, cX9_text, 2, (some .int), [], 0, 0) [.ref 63] (pk false ρ o) (pP false rv rρ o) := by
  refine ci_met (by decide) (Nat.le_of_ble_eq_true rfl) ?_ ?_
  · rintro v w' ⟨rfl, rfl⟩
    trivial
  · change ci_T _ _ _ _ _ _ ([(0, .ref 63)], [], pk false ρ o) _
    unfold f_X9_text at h
    replace h := jn_some h
    replace h := jn_some h
    refine ci_T.step cb_X9_text_0 (ci_sq (pe_push pc_0) (ci_sq rfl (ci_sq rfl (ci_sq (pe_push pc_0) (ci_sq (pe_putI (kI := 28) tq_62 rfl rfl rfl) (ci_sq rfl (ci_sq (pe_push pc_0) (ci_sq (pe_putI (kI := 24) tq_62 rfl rfl rfl) rfl)))))))) ?_
    obtain ⟨ρ3, hv, h⟩ := bn_some h
    refine ci_T.call (as := [_]) (rest := []) kc_X9_firstDraft ki_X9_firstDraft (by decide) cl_X9_text_13 rfl (Nat.le_of_ble_eq_true rfl) ⟨⟨_, rfl⟩, _, _, _, rfl, pk_obj tq_62 rfl _ _⟩ (s_X9_firstDraft (d + 5) o hv) ?_
    rintro _ _ ⟨rfl, rfl⟩
    clear hv
    refine ci_T.step cb_X9_text_16 rfl ?_
    obtain ⟨ρ4, hv, h⟩ := bn_some h
    refine ci_T.call (as := [_]) (rest := []) kc_X9_next ki_X9_next (by decide) cl_X9_text_17 rfl (Nat.le_of_ble_eq_true rfl) ⟨⟨_, rfl⟩, _, _, _, rfl, pk_obj tq_62 rfl _ _⟩ (s_X9_next (d + 4) o hv) ?_
    rintro _ _ ⟨rfl, rfl⟩
    clear hv
    refine ci_T.sub [1, 0] (t_X9_text_20 ?_ fu _ _ h) rfl
    · intro l1 ρ h
      obtain ⟨h9, h⟩ := ck_some h
      refine ci_T.step cb_X9_text_44 (ci_sq rfl (ci_sq (pe_getI (kI := 28) tq_62 rfl rfl rfl) (pe_if_ne h9))) ?_
      obtain ⟨j111, hj, h⟩ := jn_ex h
      have J111 : ∀ (l1 : Int) (ρ : pm), j111 l1 ρ = some (rv, rρ) → ci_T yX9_text cX9_text 2 (some .int) (d + 6) 111 ([(0, .ref 63), (1, .int (Int32.ofInt l1))], [], pk false ρ o) (pP false rv rρ o) := by
        intro l1 ρ h
        subst hj
        replace h := jn_some h
        obtain ⟨h11, h⟩ := ck_some h
        refine ci_T.step cb_X9_text_111 (ci_sq rfl (ci_sq (pe_push pc_0) (ci_sq (pe_putI (kI := 23) tq_62 rfl rfl rfl) (ci_sq rfl (ci_sq (pe_getI (kI := 28) tq_62 rfl rfl rfl) (pe_if_le h11)))))) ?_
        refine pbr h (fun hc h => ?_) (fun hc h => ?_)
        · refine ci_T.step cb_X9_text_131 rfl ?_
          obtain ⟨ρ12, hv, h⟩ := bn_some h
          refine ci_T.call (as := [_]) (rest := []) kc_X9_keepDraft ki_X9_keepDraft (by decide) cl_X9_text_132 rfl (Nat.le_of_ble_eq_true rfl) ⟨⟨_, rfl⟩, _, _, _, rfl, pk_obj tq_62 rfl _ _⟩ (s_X9_keepDraft (d + 5) o hv) ?_
          rintro _ _ ⟨rfl, rfl⟩
          clear hv
          refine ci_T.step cb_X9_text_135 rfl ?_
          cases h
          exact ci_T.done (v := some (.int _)) cd_X9_text_136 ⟨rfl, rfl⟩
        · refine ci_T.step cb_X9_text_123 (ci_sq (pe_push pc_m10) (ci_sq rfl (ci_sq (pe_getI (kI := 29) tq_62 rfl rfl rfl) pe_isub))) ?_
          cases h
          exact ci_T.done (v := some (.int _)) cd_X9_text_130 ⟨rfl, rfl⟩
      clear hj
      refine pbrn h (fun hc h => ?_) (fun hc h => ?_)
      · exact ci_T.sub [0, 1] (J111 _ _ h) rfl
      · obtain ⟨h13, h⟩ := ck_some h
        obtain ⟨h14, h⟩ := ck_some h
        refine ci_T.step cb_X9_text_51 (ci_sq rfl (ci_sq rfl (ci_sq (pe_getI (kI := 18) tq_62 rfl rfl rfl) (ci_sq rfl (ci_sq (pe_getI (kI := 7) tq_62 rfl rfl rfl) (pe_ic_ge h13 h14)))))) ?_
        obtain ⟨j106, hj, h⟩ := jn_ex h
        have J106 : ∀ (l1 s1 : Int) (ρ : pm), j106 l1 s1 ρ = some (rv, rρ) → ci_T yX9_text cX9_text 2 (some .int) (d + 6) 106 ([(0, .ref 63), (1, .int (Int32.ofInt l1))], [.int (Int32.ofInt s1), .ref 63], pk false ρ o) (pP false rv rρ o) := by
          intro l1 s1 ρ h
          subst hj
          refine ci_T.step cb_X9_text_106 (pe_push pc_6) ?_
          obtain ⟨ρ15, hv, h⟩ := bn_some h
          refine ci_T.call (as := [_, _, _]) (rest := []) kc_X9_needs ki_X9_needs (by decide) cl_X9_text_108 rfl (Nat.le_of_ble_eq_true rfl) ⟨⟨_, rfl⟩, _, _, _, rfl, pk_obj tq_62 rfl _ _⟩ (s_X9_needs (d + 5) o hv) ?_
          rintro _ _ ⟨rfl, rfl⟩
          clear hv
          exact ci_T.sub [0, 1] (J111 _ _ h) rfl
        clear hj
        obtain ⟨j105, hj, h⟩ := jn_ex h
        have J105 : ∀ (l1 : Int) (ρ : pm), j105 l1 ρ = some (rv, rρ) → ci_T yX9_text cX9_text 2 (some .int) (d + 6) 105 ([(0, .ref 63), (1, .int (Int32.ofInt l1))], [.ref 63], pk false ρ o) (pP false rv rρ o) := by
          intro l1 ρ h
          subst hj
          refine ci_T.step cb_X9_text_105 (pe_push pc_0) ?_
          exact ci_T.sub [0, 1] (J106 _ _ _ h) rfl
        clear hj
        refine pbr h (fun hc h => ?_) (fun hc h => ?_)
        · exact ci_T.sub [0, 1] (J105 _ _ h) rfl
        · obtain ⟨h16, h⟩ := ck_some h
          obtain ⟨h17, h⟩ := ck_some h
          refine ci_T.step cb_X9_text_63 (ci_sq rfl (ci_sq (pe_getI (kI := 19) tq_62 rfl rfl rfl) (ci_sq rfl (ci_sq (pe_getI (kI := 6) tq_62 rfl rfl rfl) (pe_ic_ge h16 h17))))) ?_
          refine pbr h (fun hc h => ?_) (fun hc h => ?_)
          · exact ci_T.sub [0, 1] (J105 _ _ h) rfl
          · obtain ⟨h18, h⟩ := ck_some h
            obtain ⟨h19, h⟩ := ck_some h
            refine ci_T.step cb_X9_text_74 (ci_sq rfl (ci_sq (pe_getI (kI := 20) tq_62 rfl rfl rfl) (ci_sq rfl (ci_sq (pe_getI (kI := 6) tq_62 rfl rfl rfl) (ci_sq rfl (ci_sq (pe_getI (kI := 7) tq_62 rfl rfl rfl) (ci_sq pe_imul (pe_ic_ge h18 h19)))))))) ?_
            refine pbr h (fun hc h => ?_) (fun hc h => ?_)
            · exact ci_T.sub [0, 1] (J105 _ _ h) rfl
            · obtain ⟨h20, h⟩ := ck_some h
              obtain ⟨h21, h⟩ := ck_some h
              refine ci_T.step cb_X9_text_90 (ci_sq rfl (ci_sq (pe_getI (kI := 21) tq_62 rfl rfl rfl) (ci_sq rfl (ci_sq (pe_getI (kI := 9) tq_62 rfl rfl rfl) (pe_ic_ge h20 h21))))) ?_
              refine pbr h (fun hc h => ?_) (fun hc h => ?_)
              · exact ci_T.sub [0, 1] (J105 _ _ h) rfl
              · refine ci_T.step cb_X9_text_101 (ci_sq (pe_push pc_1) rfl) ?_
                exact ci_T.sub [0, 1] (J106 _ _ _ h) rfl
/-- X9_fault -/
def f_X9_fault (ρ : pm) : Option Int := some (ρ 62 28)
set_option maxRecDepth 100000 in
theorem s_X9_fault (d : Nat)   {ρ : pm} (o : pm)  {rv : Int} (h : f_X9_fault ρ = some rv) : ci_Met d (yX9_fault, cX9_fault, 1, (some .int), [], 0, 0) [.ref 63] (pk false ρ o) (pP false rv ρ o) := by
  refine ci_met (by decide) (Nat.le_of_ble_eq_true rfl) ?_ ?_
  · rintro v w' ⟨rfl, rfl⟩
    trivial
  · change ci_T _ _ _ _ _ _ ([(0, .ref 63)], [], pk false ρ o) _
    unfold f_X9_fault at h
    refine ci_T.step cb_X9_fault_0 (ci_sq rfl (pe_getI (kI := 28) tq_62 rfl rfl rfl)) ?_
    cases h
    exact ci_T.done (v := some (.int _)) cd_X9_fault_4 ⟨rfl, rfl⟩
/-- X9_isCell -/
def f_X9_isCell (l1 : Int) (ρ : pm) : Option Int := ck (inR l1) (ck (inR (((ρ 62 2) * (ρ 62 3)) - 1)) ((f_X9_in l1 0 (((ρ 62 2) * (ρ 62 3)) - 1)).bind (fun v3 => some v3)))
set_option maxRecDepth 100000 in
theorem s_X9_isCell (d : Nat)   {ρ : pm} (o : pm) {l1 : Int} {rv : Int} (h : f_X9_isCell l1 ρ = some rv) : ci_Met (d + 1) (yX9_isCell, cX9_isCell, 2, (some .boolean), [], 0, 0) [.ref 63, .int (Int32.ofInt l1)] (pk false ρ o) (pZ false rv ρ o) := by
  refine ci_met (by decide) (Nat.le_of_ble_eq_true rfl) ?_ ?_
  · rintro v w' ⟨⟨rfl, rfl⟩, hz⟩
    exact Z_of hz
  · change ci_T _ _ _ _ _ _ ([(0, .ref 63), (1, .int (Int32.ofInt l1))], [], pk false ρ o) _
    unfold f_X9_isCell at h
    obtain ⟨h1, h⟩ := ck_some h
    obtain ⟨h2, h⟩ := ck_some h
    refine ci_T.step cb_X9_isCell_0 (ci_sq rfl (ci_sq (pe_i2l h1) (ci_sq (pe_pushl pcl_0) (ci_sq rfl (ci_sq (pe_getI (kI := 2) tq_62 rfl rfl rfl) (ci_sq rfl (ci_sq (pe_getI (kI := 3) tq_62 rfl rfl rfl) (ci_sq pe_imul (ci_sq (pe_push pc_1) (ci_sq pe_isub (pe_i2l h2))))))))))) ?_
    obtain ⟨v3, hv, h⟩ := bn_some h
    refine ci_T.call (as := [_, _, _]) (rest := []) kc_X9_in ki_X9_in (by decide) cl_X9_isCell_15 rfl (Nat.le_of_ble_eq_true rfl) trivial (s_X9_in d o hv) ?_
    rintro _ _ ⟨⟨rfl, rfl⟩, hz4⟩
    clear hv
    cases h
    exact ci_T.done (v := some (.int _)) cd_X9_isCell_18 ⟨⟨rfl, rfl⟩, hz4⟩
/-- X9_isFarm -/
def f_X9_isFarm (l1 : Int) (ρ : pm) : Option Int := ck (inR l1) (ck (inR ((ρ 62 4) - 1)) ((f_X9_in l1 0 ((ρ 62 4) - 1)).bind (fun v3 => some v3)))
set_option maxRecDepth 100000 in
theorem s_X9_isFarm (d : Nat)   {ρ : pm} (o : pm) {l1 : Int} {rv : Int} (h : f_X9_isFarm l1 ρ = some rv) : ci_Met (d + 1) (yX9_isFarm, cX9_isFarm, 2, (some .boolean), [], 0, 0) [.ref 63, .int (Int32.ofInt l1)] (pk false ρ o) (pZ false rv ρ o) := by
  refine ci_met (by decide) (Nat.le_of_ble_eq_true rfl) ?_ ?_
  · rintro v w' ⟨⟨rfl, rfl⟩, hz⟩
    exact Z_of hz
  · change ci_T _ _ _ _ _ _ ([(0, .ref 63), (1, .int (Int32.ofInt l1))], [], pk false ρ o) _
    unfold f_X9_isFarm at h
    obtain ⟨h1, h⟩ := ck_some h
    obtain ⟨h2, h⟩ := ck_some h
    refine ci_T.step cb_X9_isFarm_0 (ci_sq rfl (ci_sq (pe_i2l h1) (ci_sq (pe_pushl pcl_0) (ci_sq rfl (ci_sq (pe_getI (kI := 4) tq_62 rfl rfl rfl) (ci_sq (pe_push pc_1) (ci_sq pe_isub (pe_i2l h2)))))))) ?_
    obtain ⟨v3, hv, h⟩ := bn_some h
    refine ci_T.call (as := [_, _, _]) (rest := []) kc_X9_in ki_X9_in (by decide) cl_X9_isFarm_10 rfl (Nat.le_of_ble_eq_true rfl) trivial (s_X9_in d o hv) ?_
    rintro _ _ ⟨⟨rfl, rfl⟩, hz4⟩
    clear hv
    cases h
    exact ci_T.done (v := some (.int _)) cd_X9_isFarm_13 ⟨⟨rfl, rfl⟩, hz4⟩
/-- X9_beside -/
def f_X9_beside (l1 l2 : Int) (ρ : pm) : Option Int := ck (inR l1) (ck (inR (ρ 62 2)) (ck ((ρ 62 2) ≠ 0) (jn (Int.tdiv l1 (ρ 62 2)) (fun x4 => jn (Int.tmod l1 (ρ 62 2)) (fun x5 => ck (inR l2) (if l2 = 0 then ck (inR x4) (if x4 ≤ 0 then some (-4) else some (l1 - (ρ 62 2))) else if l2 = 1 then ck (inR (x5 + 1)) (if (ρ 62 2) ≤ (x5 + 1) then some (-4) else some (l1 + 1)) else if l2 = 2 then ck (inR (x4 + 1)) (ck (inR (ρ 62 3)) (if (ρ 62 3) ≤ (x4 + 1) then some (-4) else some (l1 + (ρ 62 2)))) else ck (inR x5) (if x5 ≤ 0 then some (-4) else some (l1 - 1))))))))
set_option maxRecDepth 100000 in
theorem s_X9_beside (d : Nat)   {ρ : pm} (o : pm) {l1 l2 : Int} {rv : Int} (h : f_X9_beside l1 l2 ρ = some rv) : ci_Met d (yX9_beside, cX9_beside, 5, (some .int), [], 0, 0) [.ref 63, .int (Int32.ofInt l1), .int (Int32.ofInt l2)] (pk false ρ o) (pP false rv ρ o) := by
  refine ci_met (by decide) (Nat.le_of_ble_eq_true rfl) ?_ ?_
  · rintro v w' ⟨rfl, rfl⟩
    trivial
  · change ci_T _ _ _ _ _ _ ([(0, .ref 63), (1, .int (Int32.ofInt l1)), (2, .int (Int32.ofInt l2))], [], pk false ρ o) _
    unfold f_X9_beside at h
    obtain ⟨h1, h⟩ := ck_some h
    obtain ⟨h2, h⟩ := ck_some h
    obtain ⟨h3, h⟩ := ck_some h
    replace h := jn_some h
    replace h := jn_some h
    obtain ⟨h6, h⟩ := ck_some h
    refine ci_T.step cb_X9_beside_0 (ci_sq rfl (ci_sq rfl (ci_sq (pe_getI (kI := 2) tq_62 rfl rfl rfl) (ci_sq (pe_idiv ⟨h1, h2, h3⟩) (ci_sq rfl (ci_sq rfl (ci_sq rfl (ci_sq (pe_getI (kI := 2) tq_62 rfl rfl rfl) (ci_sq (pe_irem ⟨h1, h2, h3⟩) (ci_sq rfl (ci_sq rfl (pe_tsw h6 rfl)))))))))))) ?_
    refine pite h (fun hc8 h => ?_) (fun hc8 h => ?_)
    · refine tsw_T hc8 rfl ?_
      obtain ⟨h7, h⟩ := ck_some h
      refine ci_T.step cb_X9_beside_44 (ci_sq rfl (pe_if_le h7)) ?_
      refine pbr h (fun hc h => ?_) (fun hc h => ?_)
      · refine ci_T.step cb_X9_beside_57 (pe_push pc_m4) ?_
        cases h
        exact ci_T.done (v := some (.int _)) cd_X9_beside_59 ⟨rfl, rfl⟩
      · refine ci_T.step cb_X9_beside_48 (ci_sq rfl (ci_sq rfl (ci_sq (pe_getI (kI := 2) tq_62 rfl rfl rfl) (ci_sq pe_isub rfl)))) ?_
        cases h
        exact ci_T.done (v := some (.int _)) cd_X9_beside_59 ⟨rfl, rfl⟩
    refine pite h (fun hc10 h => ?_) (fun hc10 h => ?_)
    · refine tsw_T hc10 rfl ?_
      obtain ⟨h9, h⟩ := ck_some h
      refine ci_T.step cb_X9_beside_60 (ci_sq rfl (ci_sq (pe_push pc_1) (ci_sq pe_iadd (ci_sq rfl (ci_sq (pe_getI (kI := 2) tq_62 rfl rfl rfl) (pe_ic_ge h9 h2)))))) ?_
      refine pbr h (fun hc h => ?_) (fun hc h => ?_)
      · refine ci_T.step cb_X9_beside_77 (pe_push pc_m4) ?_
        cases h
        exact ci_T.done (v := some (.int _)) cd_X9_beside_79 ⟨rfl, rfl⟩
      · refine ci_T.step cb_X9_beside_71 (ci_sq rfl (ci_sq (pe_push pc_1) (ci_sq pe_iadd rfl))) ?_
        cases h
        exact ci_T.done (v := some (.int _)) cd_X9_beside_79 ⟨rfl, rfl⟩
    refine pite h (fun hc13 h => ?_) (fun hc13 h => ?_)
    · refine tsw_T hc13 rfl ?_
      obtain ⟨h11, h⟩ := ck_some h
      obtain ⟨h12, h⟩ := ck_some h
      refine ci_T.step cb_X9_beside_80 (ci_sq rfl (ci_sq (pe_push pc_1) (ci_sq pe_iadd (ci_sq rfl (ci_sq (pe_getI (kI := 3) tq_62 rfl rfl rfl) (pe_ic_ge h11 h12)))))) ?_
      refine pbr h (fun hc h => ?_) (fun hc h => ?_)
      · refine ci_T.step cb_X9_beside_99 (pe_push pc_m4) ?_
        cases h
        exact ci_T.done (v := some (.int _)) cd_X9_beside_101 ⟨rfl, rfl⟩
      · refine ci_T.step cb_X9_beside_90 (ci_sq rfl (ci_sq rfl (ci_sq (pe_getI (kI := 2) tq_62 rfl rfl rfl) (ci_sq pe_iadd rfl)))) ?_
        cases h
        exact ci_T.done (v := some (.int _)) cd_X9_beside_101 ⟨rfl, rfl⟩
    refine tsw_D (hi := 2) rfl (by omega) ?_
    obtain ⟨h14, h⟩ := ck_some h
    refine ci_T.step cb_X9_beside_102 (ci_sq rfl (pe_if_le h14)) ?_
    refine pbr h (fun hc h => ?_) (fun hc h => ?_)
    · refine ci_T.step cb_X9_beside_113 (pe_push pc_m4) ?_
      cases h
      exact ci_T.done (v := some (.int _)) cd_X9_beside_115 ⟨rfl, rfl⟩
    · refine ci_T.step cb_X9_beside_107 (ci_sq rfl (ci_sq (pe_push pc_1) (ci_sq pe_isub rfl))) ?_
      cases h
      exact ci_T.done (v := some (.int _)) cd_X9_beside_115 ⟨rfl, rfl⟩
/-- X9_lowestBeside -/
def L_X9_lowestBeside_5 (ρ : pm) : Nat → Int → Int → Int → Option Int
  | 0, _, _, _ => none
  | n + 1, l1, l2, l3 => ck (inR l3) (if 4 ≤ l3 then some l2 else (f_X9_beside l1 l3 ρ).bind (fun v2 => ck (inR v2) (jn (fun (l1 l2 l3 l4 s0 : Int) => ck (inR s0) (jn (fun (l1 l3 s0 : Int) => jn (l3 + 1) (fun x5 => L_X9_lowestBeside_5 ρ n l1 s0 x5)) (fun j93 => jn (fun (l1 l2 l3 : Int) => j93 l1 l3 l2) (fun j92 => if s0 = 0 then j92 l1 l2 l3 else ck (inR l2) (jn (fun (l1 l3 l4 : Int) => j93 l1 l3 l4) (fun j87 => if l2 = (-4) then j87 l1 l3 l4 else ck (0 ≤ l4 ∧ l4 < 168) (ck (0 ≤ l2 ∧ l2 < 168) (ck (inR (ρ 63 l4)) (ck (inR (ρ 63 l2)) (if (ρ 63 l2) ≤ (ρ 63 l4) then j92 l1 l2 l3 else j87 l1 l3 l4)))))))))) (fun j58 => jn (fun (l1 l2 l3 l4 : Int) => j58 l1 l2 l3 l4 0) (fun j57 => if v2 = (-4) then j57 l1 l2 l3 v2 else if (band (bshr (ρ 62 32) v2) 1) = 0 then ck (0 ≤ v2 ∧ v2 < 168) (ck (0 ≤ l1 ∧ l1 < 168) (ck (inR (ρ 63 v2)) (ck (inR (ρ 63 l1)) (if (ρ 63 l1) < (ρ 63 v2) then j57 l1 l2 l3 v2 else j58 l1 l2 l3 v2 1)))) else j57 l1 l2 l3 v2)))))
def f_X9_lowestBeside (l1 : Int) (ρ : pm) : Option Int := L_X9_lowestBeside_5 ρ fu l1 (-4) 0
set_option maxRecDepth 100000 in
theorem t_X9_lowestBeside_5 {d : Nat}   {ρ : pm} {o : pm} {rv : Int}   : ∀ (n : Nat) (l1 l2 l3 : Int), L_X9_lowestBeside_5 ρ n l1 l2 l3 = some rv → ci_T yX9_lowestBeside cX9_lowestBeside 6 (some .int) (d + 1) 5 ([(0, .ref 63), (1, .int (Int32.ofInt l1)), (2, .int (Int32.ofInt l2)), (3, .int (Int32.ofInt l3))], [], pk false ρ o) (pP false rv ρ o) := by
  intro n
  induction n with
  | zero =>
    intro l1 l2 l3 h
    rw [L_X9_lowestBeside_5] at h
    cases h
  | succ n ih =>
    intro l1 l2 l3 h
    rw [L_X9_lowestBeside_5] at h
    obtain ⟨h1, h⟩ := ck_some h
    refine ci_T.step cb_X9_lowestBeside_5 (ci_sq rfl (ci_sq (pe_push pc_4) (pe_ic_ge h1 pR_4))) ?_
    refine pbr h (fun hc h => ?_) (fun hc h => ?_)
    · refine ci_T.step cb_X9_lowestBeside_100 rfl ?_
      cases h
      exact ci_T.done (v := some (.int _)) cd_X9_lowestBeside_101 ⟨rfl, rfl⟩
    · refine ci_T.step cb_X9_lowestBeside_10 (ci_sq rfl (ci_sq rfl rfl)) ?_
      obtain ⟨v2, hv, h⟩ := bn_some h
      refine ci_T.call (as := [_, _, _]) (rest := []) kc_X9_beside ki_X9_beside (by decide) cl_X9_lowestBeside_13 rfl (Nat.le_of_ble_eq_true rfl) ⟨⟨_, rfl⟩, _, _, _, rfl, pk_obj tq_62 rfl _ _⟩ (s_X9_beside d o hv) ?_
      rintro _ _ ⟨rfl, rfl⟩
      clear hv
      obtain ⟨h3, h⟩ := ck_some h
      refine ci_T.step cb_X9_lowestBeside_16 (ci_sq rfl (ci_sq rfl (ci_sq (pe_push pc_m4) (pe_ic_eq h3 pR_m4)))) ?_
      obtain ⟨j58, hj, h⟩ := jn_ex h
      have J58 : ∀ (l1 l2 l3 l4 s0 : Int), j58 l1 l2 l3 l4 s0 = some rv → ci_T yX9_lowestBeside cX9_lowestBeside 6 (some .int) (d + 1) 58 ([(0, .ref 63), (1, .int (Int32.ofInt l1)), (2, .int (Int32.ofInt l2)), (3, .int (Int32.ofInt l3)), (4, .int (Int32.ofInt l4))], [.int (Int32.ofInt s0)], pk false ρ o) (pP false rv ρ o) := by
        intro l1 l2 l3 l4 s0 h
        subst hj
        obtain ⟨h4, h⟩ := ck_some h
        refine ci_T.step cb_X9_lowestBeside_58 (ci_sq rfl (ci_sq rfl (pe_if_eq h4))) ?_
        obtain ⟨j93, hj, h⟩ := jn_ex h
        have J93 : ∀ (l1 l3 s0 : Int), j93 l1 l3 s0 = some rv → ci_T yX9_lowestBeside cX9_lowestBeside 6 (some .int) (d + 1) 93 ([(0, .ref 63), (1, .int (Int32.ofInt l1)), (3, .int (Int32.ofInt l3))], [.int (Int32.ofInt s0)], pk false ρ o) (pP false rv ρ o) := by
          intro l1 l3 s0 h
          subst hj
          replace h := jn_some h
          refine ci_T.step cb_X9_lowestBeside_93 (ci_sq rfl (ci_sq (pe_inc rfl) rfl)) ?_
          exact ci_T.sub [2, 3, 1, 0] (ih _ _ _ h) rfl
        clear hj
        obtain ⟨j92, hj, h⟩ := jn_ex h
        have J92 : ∀ (l1 l2 l3 : Int), j92 l1 l2 l3 = some rv → ci_T yX9_lowestBeside cX9_lowestBeside 6 (some .int) (d + 1) 92 ([(0, .ref 63), (1, .int (Int32.ofInt l1)), (2, .int (Int32.ofInt l2)), (3, .int (Int32.ofInt l3))], [], pk false ρ o) (pP false rv ρ o) := by
          intro l1 l2 l3 h
          subst hj
          refine ci_T.step cb_X9_lowestBeside_92 rfl ?_
          exact ci_T.sub [0, 1, 3] (J93 _ _ _ h) rfl
        clear hj
        refine pbr h (fun hc h => ?_) (fun hc h => ?_)
        · exact ci_T.sub [1, 2, 3, 4] (J92 _ _ _ h) rfl
        · obtain ⟨h6, h⟩ := ck_some h
          refine ci_T.step cb_X9_lowestBeside_65 (ci_sq rfl (ci_sq (pe_push pc_m4) (pe_ic_eq h6 pR_m4))) ?_
          obtain ⟨j87, hj, h⟩ := jn_ex h
          have J87 : ∀ (l1 l3 l4 : Int), j87 l1 l3 l4 = some rv → ci_T yX9_lowestBeside cX9_lowestBeside 6 (some .int) (d + 1) 87 ([(0, .ref 63), (1, .int (Int32.ofInt l1)), (3, .int (Int32.ofInt l3)), (4, .int (Int32.ofInt l4))], [], pk false ρ o) (pP false rv ρ o) := by
            intro l1 l3 l4 h
            subst hj
            refine ci_T.step cb_X9_lowestBeside_87 (ci_sq rfl rfl) ?_
            exact ci_T.sub [0, 1, 2] (J93 _ _ _ h) rfl
          clear hj
          refine pbr h (fun hc h => ?_) (fun hc h => ?_)
          · exact ci_T.sub [1, 2, 4, 5] (J87 _ _ _ h) rfl
          · obtain ⟨h7, h⟩ := ck_some h
            obtain ⟨h8, h⟩ := ck_some h
            obtain ⟨h9, h⟩ := ck_some h
            obtain ⟨h10, h⟩ := ck_some h
            refine ci_T.step cb_X9_lowestBeside_71 (ci_sq rfl (ci_sq (pe_getR tq_62 rfl rfl) (ci_sq rfl (ci_sq (pe_ald (nI := 168) tq_63 rfl rfl h7) (ci_sq rfl (ci_sq (pe_getR tq_62 rfl rfl) (ci_sq rfl (ci_sq (pe_ald (nI := 168) tq_63 rfl rfl h8) (pe_ic_ge h9 h10))))))))) ?_
            refine pbr h (fun hc h => ?_) (fun hc h => ?_)
            · exact ci_T.sub [1, 2, 3, 4] (J92 _ _ _ h) rfl
            · exact ci_T.sub [1, 2, 4, 5] (J87 _ _ _ h) rfl
      clear hj
      obtain ⟨j57, hj, h⟩ := jn_ex h
      have J57 : ∀ (l1 l2 l3 l4 : Int), j57 l1 l2 l3 l4 = some rv → ci_T yX9_lowestBeside cX9_lowestBeside 6 (some .int) (d + 1) 57 ([(0, .ref 63), (1, .int (Int32.ofInt l1)), (2, .int (Int32.ofInt l2)), (3, .int (Int32.ofInt l3)), (4, .int (Int32.ofInt l4))], [], pk false ρ o) (pP false rv ρ o) := by
        intro l1 l2 l3 l4 h
        subst hj
        refine ci_T.step cb_X9_lowestBeside_57 (pe_push pc_0) ?_
        exact ci_T.sub [0, 1, 2, 3, 4] (J58 _ _ _ _ _ h) rfl
      clear hj
      refine pbr h (fun hc h => ?_) (fun hc h => ?_)
      · exact ci_T.sub [1, 2, 3, 4, 0] (J57 _ _ _ _ h) rfl
      · refine ci_T.step cb_X9_lowestBeside_25 (ci_sq rfl (ci_sq (pe_getI (kI := 32) tq_62 rfl rfl rfl) (ci_sq rfl (ci_sq pe_ishr (ci_sq (pe_push pc_1) (ci_sq pe_iand (pe_if_ne (band_R _ _)))))))) ?_
        refine pbrn h (fun hc h => ?_) (fun hc h => ?_)
        · exact ci_T.sub [1, 2, 3, 4, 0] (J57 _ _ _ _ h) rfl
        · obtain ⟨h11, h⟩ := ck_some h
          obtain ⟨h12, h⟩ := ck_some h
          obtain ⟨h13, h⟩ := ck_some h
          obtain ⟨h14, h⟩ := ck_some h
          refine ci_T.step cb_X9_lowestBeside_37 (ci_sq rfl (ci_sq (pe_getR tq_62 rfl rfl) (ci_sq rfl (ci_sq (pe_ald (nI := 168) tq_63 rfl rfl h11) (ci_sq rfl (ci_sq (pe_getR tq_62 rfl rfl) (ci_sq rfl (ci_sq (pe_ald (nI := 168) tq_63 rfl rfl h12) (pe_ic_gt h13 h14))))))))) ?_
          refine pbr h (fun hc h => ?_) (fun hc h => ?_)
          · exact ci_T.sub [1, 2, 3, 4, 0] (J57 _ _ _ _ h) rfl
          · refine ci_T.step cb_X9_lowestBeside_53 (ci_sq (pe_push pc_1) rfl) ?_
            exact ci_T.sub [1, 2, 3, 4, 0] (J58 _ _ _ _ _ h) rfl
set_option maxRecDepth 100000 in
theorem s_X9_lowestBeside (d : Nat)   {ρ : pm} (o : pm) {l1 : Int} {rv : Int} (h : f_X9_lowestBeside l1 ρ = some rv) : ci_Met (d + 1) (yX9_lowestBeside, cX9_lowestBeside, 6, (some .int), [], 0, 0) [.ref 63, .int (Int32.ofInt l1)] (pk false ρ o) (pP false rv ρ o) := by
  refine ci_met (by decide) (Nat.le_of_ble_eq_true rfl) ?_ ?_
  · rintro v w' ⟨rfl, rfl⟩
    trivial
  · change ci_T _ _ _ _ _ _ ([(0, .ref 63), (1, .int (Int32.ofInt l1))], [], pk false ρ o) _
    unfold f_X9_lowestBeside at h
    refine ci_T.step cb_X9_lowestBeside_0 (ci_sq (pe_push pc_m4) (ci_sq rfl (ci_sq (pe_push pc_0) rfl))) ?_
    exact ci_T.sub [2, 3, 1, 0] (t_X9_lowestBeside_5 fu _ _ _ h) rfl
/-- X9_findBed -/
def L_X9_findBed_18  : Nat → Int → pm → Option pm
  | 0, _, _ => none
  | n + 1, l1, ρ => ck (inR l1) (if l1 = (-4) then some ρ else ck (0 ≤ ρ 62 31 ∧ ρ 62 31 < 25) (jn (pup ρ 71 (ρ 62 31) l1) (fun ρ6 => jn (pup ρ6 62 31 ((ρ6 62 31) + 1)) (fun ρ7 => jn (pup ρ7 62 32 (bor (ρ7 62 32) (bshl 1 l1))) (fun ρ8 => (f_X9_lowestBeside l1 ρ8).bind (fun v9 => L_X9_findBed_18 n v9 ρ8))))))
def f_X9_findBed (ρ : pm) : Option pm := jn (pup ρ 62 31 0) (fun ρ1 => jn (pup ρ1 62 32 0) (fun ρ2 => jn (ρ2 63 25) (fun x3 => L_X9_findBed_18 fu x3 ρ2)))
set_option maxRecDepth 100000 in
theorem t_X9_findBed_18 {d : Nat}    {o : pm} {rρ : pm}   : ∀ (n : Nat) (l1 : Int) (ρ : pm), L_X9_findBed_18 n l1 ρ = some rρ → ci_T yX9_findBed cX9_findBed 2 none (d + 2) 18 ([(0, .ref 63), (1, .int (Int32.ofInt l1))], [], pk false ρ o) (pV false rρ o) := by
  intro n
  induction n with
  | zero =>
    intro l1 ρ h
    rw [L_X9_findBed_18] at h
    cases h
  | succ n ih =>
    intro l1 ρ h
    rw [L_X9_findBed_18] at h
    obtain ⟨h4, h⟩ := ck_some h
    refine ci_T.step cb_X9_findBed_18 (ci_sq rfl (ci_sq (pe_push pc_m4) (pe_ic_eq h4 pR_m4))) ?_
    refine pbr h (fun hc h => ?_) (fun hc h => ?_)
    · cases h
      exact ci_T.done (v := none) cd_X9_findBed_65 ⟨rfl, rfl⟩
    · obtain ⟨h5, h⟩ := ck_some h
      replace h := jn_some h
      replace h := jn_some h
      replace h := jn_some h
      refine ci_T.step cb_X9_findBed_24 (ci_sq rfl (ci_sq (pe_getR tq_62 rfl rfl) (ci_sq rfl (ci_sq (pe_getI (kI := 31) tq_62 rfl rfl rfl) (ci_sq rfl (ci_sq (pe_ast (nI := 25) tq_71 rfl rfl h5 rfl) (ci_sq rfl (ci_sq rfl (ci_sq (pe_getI (kI := 31) tq_62 rfl rfl rfl) (ci_sq (pe_push pc_1) (ci_sq pe_iadd (ci_sq (pe_putI (kI := 31) tq_62 rfl rfl rfl) (ci_sq rfl (ci_sq rfl (ci_sq (pe_getI (kI := 32) tq_62 rfl rfl rfl) (ci_sq (pe_push pc_1) (ci_sq rfl (ci_sq pe_ishl (ci_sq pe_ior (ci_sq (pe_putI (kI := 32) tq_62 rfl rfl rfl) (ci_sq rfl rfl))))))))))))))))))))) ?_
      obtain ⟨v9, hv, h⟩ := bn_some h
      refine ci_T.call (as := [_, _]) (rest := []) kc_X9_lowestBeside ki_X9_lowestBeside (by decide) cl_X9_findBed_58 rfl (Nat.le_of_ble_eq_true rfl) ⟨⟨_, rfl⟩, _, _, _, rfl, pk_obj tq_62 rfl _ _⟩ (s_X9_lowestBeside d o hv) ?_
      rintro _ _ ⟨rfl, rfl⟩
      clear hv
      refine ci_T.step cb_X9_findBed_61 (ci_sq rfl rfl) ?_
      exact ci_T.sub [1, 0] (ih _ _ h) rfl
set_option maxRecDepth 100000 in
theorem s_X9_findBed (d : Nat)   {ρ : pm} (o : pm)  {rρ : pm} (h : f_X9_findBed ρ = some rρ) : ci_Met (d + 2) (yX9_findBed, cX9_findBed, 2, none, [], 0, 0) [.ref 63] (pk false ρ o) (pV false rρ o) := by
  refine ci_met (by decide) (Nat.le_of_ble_eq_true rfl) ?_ ?_
  · rintro v w' ⟨rfl, rfl⟩
    trivial
  · change ci_T _ _ _ _ _ _ ([(0, .ref 63)], [], pk false ρ o) _
    unfold f_X9_findBed at h
    replace h := jn_some h
    replace h := jn_some h
    replace h := jn_some h
    refine ci_T.step cb_X9_findBed_0 (ci_sq rfl (ci_sq (pe_push pc_0) (ci_sq (pe_putI (kI := 31) tq_62 rfl rfl rfl) (ci_sq rfl (ci_sq (pe_push pc_0) (ci_sq (pe_putI (kI := 32) tq_62 rfl rfl rfl) (ci_sq rfl (ci_sq (pe_getR tq_62 rfl rfl) (ci_sq (pe_push pc_25) (ci_sq (pe_ald (nI := 168) tq_63 rfl rfl ⟨by decide, by decide⟩) rfl)))))))))) ?_
    exact ci_T.sub [1, 0] (t_X9_findBed_18 fu _ _ h) rfl
/-- X9_bedNow -/
def f_X9_bedNow (ρ : pm) : Option (Int × pm) := (f_X9_findBed ρ).bind (fun ρ1 => some (ρ1 62 32, ρ1))
set_option maxRecDepth 100000 in
theorem s_X9_bedNow (d : Nat)   {ρ : pm} (o : pm)  {rv : Int} {rρ : pm} (h : f_X9_bedNow ρ = some (rv, rρ)) : ci_Met (d + 3) (yX9_bedNow, cX9_bedNow, 1, (some .int), [], 0, 0) [.ref 63] (pk false ρ o) (pP false rv rρ o) := by
  refine ci_met (by decide) (Nat.le_of_ble_eq_true rfl) ?_ ?_
  · rintro v w' ⟨rfl, rfl⟩
    trivial
  · change ci_T _ _ _ _ _ _ ([(0, .ref 63)], [], pk false ρ o) _
    unfold f_X9_bedNow at h
    refine ci_T.step cb_X9_bedNow_0 rfl ?_
    obtain ⟨ρ1, hv, h⟩ := bn_some h
    refine ci_T.call (as := [_]) (rest := []) kc_X9_findBed ki_X9_findBed (by decide) cl_X9_bedNow_1 rfl (Nat.le_of_ble_eq_true rfl) ⟨⟨_, rfl⟩, _, _, _, rfl, pk_obj tq_62 rfl _ _⟩ (s_X9_findBed d o hv) ?_
    rintro _ _ ⟨rfl, rfl⟩
    clear hv
    refine ci_T.step cb_X9_bedNow_4 (ci_sq rfl (pe_getI (kI := 32) tq_62 rfl rfl rfl)) ?_
    cases h
    exact ci_T.done (v := some (.int _)) cd_X9_bedNow_8 ⟨rfl, rfl⟩
/-- X9_hasNow -/
def L_X9_hasNow_10 (K54 : Int → Int → pm → Option (Int × pm)) : Nat → Int → Int → Int → Int → pm → Option (Int × pm)
  | 0, _, _, _, _, _ => none
  | n + 1, l1, l2, l3, l4, ρ => ck (inR l4) (ck (inR ((ρ 62 2) * (ρ 62 3))) (if ((ρ 62 2) * (ρ 62 3)) ≤ l4 then K54 l1 l3 ρ else ck (0 ≤ l4 ∧ l4 < 25) (ck (inR (ρ 65 l4)) (ck (inR l1) (jn (fun (l1 l2 l4 s0 s1 : Int) (ρ : pm) => jn (s0 + s1) (fun x8 => jn (l4 + 1) (fun x9 => L_X9_hasNow_10 K54 n l1 l2 x8 x9 ρ))) (fun j46 => if (ρ 65 l4) = l1 then j46 l1 l2 l4 l3 (band (bshr l2 l4) 1) ρ else j46 l1 l2 l4 l3 0 ρ))))))
def f_X9_hasNow (l1 : Int) (ρ : pm) : Option (Int × pm) := bn2 (f_X9_bedNow ρ) (fun v1 ρ2 => L_X9_hasNow_10 (fun (l1 l3 : Int) (ρ : pm) => ck (0 ≤ 28 + l1 ∧ 28 + l1 < 168) (some (l3 * (ρ 63 (28 + l1)), ρ))) fu l1 v1 0 0 ρ2)
set_option maxRecDepth 100000 in
theorem t_X9_hasNow_10 {d : Nat}    {o : pm} {rv : Int} {rρ : pm} {K54 : Int → Int → pm → Option (Int × pm)} (hK54 : ∀ (l1 l3 : Int) (ρ : pm), K54 l1 l3 ρ = some (rv, rρ) → ci_T yX9_hasNow cX9_hasNow 5 (some .int) (d + 4) 54 ([(0, .ref 63), (1, .int (Int32.ofInt l1)), (3, .int (Int32.ofInt l3))], [], pk false ρ o) (pP false rv rρ o)) : ∀ (n : Nat) (l1 l2 l3 l4 : Int) (ρ : pm), L_X9_hasNow_10 K54 n l1 l2 l3 l4 ρ = some (rv, rρ) → ci_T yX9_hasNow cX9_hasNow 5 (some .int) (d + 4) 10 ([(0, .ref 63), (1, .int (Int32.ofInt l1)), (2, .int (Int32.ofInt l2)), (3, .int (Int32.ofInt l3)), (4, .int (Int32.ofInt l4))], [], pk false ρ o) (pP false rv rρ o) := by
  intro n
  induction n with
  | zero =>
    intro l1 l2 l3 l4 ρ h
    rw [L_X9_hasNow_10] at h
    cases h
  | succ n ih =>
    intro l1 l2 l3 l4 ρ h
    rw [L_X9_hasNow_10] at h
    obtain ⟨h3, h⟩ := ck_some h
    obtain ⟨h4, h⟩ := ck_some h
    refine ci_T.step cb_X9_hasNow_10 (ci_sq rfl (ci_sq rfl (ci_sq (pe_getI (kI := 2) tq_62 rfl rfl rfl) (ci_sq rfl (ci_sq (pe_getI (kI := 3) tq_62 rfl rfl rfl) (ci_sq pe_imul (pe_ic_ge h3 h4))))))) ?_
    refine pbr h (fun hc h => ?_) (fun hc h => ?_)
    · exact ci_T.sub [0, 1, 3] (hK54 _ _ _ h) rfl
    · obtain ⟨h5, h⟩ := ck_some h
      obtain ⟨h6, h⟩ := ck_some h
      obtain ⟨h7, h⟩ := ck_some h
      refine ci_T.step cb_X9_hasNow_24 (ci_sq rfl (ci_sq rfl (ci_sq (pe_getR tq_62 rfl rfl) (ci_sq rfl (ci_sq (pe_ald (nI := 25) tq_65 rfl rfl h5) (ci_sq rfl (pe_ic_ne h6 h7))))))) ?_
      obtain ⟨j46, hj, h⟩ := jn_ex h
      have J46 : ∀ (l1 l2 l4 s0 s1 : Int) (ρ : pm), j46 l1 l2 l4 s0 s1 ρ = some (rv, rρ) → ci_T yX9_hasNow cX9_hasNow 5 (some .int) (d + 4) 46 ([(0, .ref 63), (1, .int (Int32.ofInt l1)), (2, .int (Int32.ofInt l2)), (4, .int (Int32.ofInt l4))], [.int (Int32.ofInt s1), .int (Int32.ofInt s0)], pk false ρ o) (pP false rv rρ o) := by
        intro l1 l2 l4 s0 s1 ρ h
        subst hj
        replace h := jn_some h
        replace h := jn_some h
        refine ci_T.step cb_X9_hasNow_46 (ci_sq pe_iadd (ci_sq rfl (ci_sq (pe_inc rfl) rfl))) ?_
        exact ci_T.sub [2, 3, 4, 1, 0] (ih _ _ _ _ _ h) rfl
      clear hj
      refine pbrn h (fun hc h => ?_) (fun hc h => ?_)
      · refine ci_T.step cb_X9_hasNow_45 (pe_push pc_0) ?_
        exact ci_T.sub [0, 1, 2, 4] (J46 _ _ _ _ _ _ h) rfl
      · refine ci_T.step cb_X9_hasNow_36 (ci_sq rfl (ci_sq rfl (ci_sq pe_ishr (ci_sq (pe_push pc_1) (ci_sq pe_iand rfl))))) ?_
        exact ci_T.sub [0, 1, 2, 4] (J46 _ _ _ _ _ _ h) rfl
set_option maxRecDepth 100000 in
theorem s_X9_hasNow (d : Nat)   {ρ : pm} (o : pm) {l1 : Int} {rv : Int} {rρ : pm} (h : f_X9_hasNow l1 ρ = some (rv, rρ)) : ci_Met (d + 4) (yX9_hasNow, cX9_hasNow, 5, (some .int), [], 0, 0) [.ref 63, .int (Int32.ofInt l1)] (pk false ρ o) (pP false rv rρ o) := by
  refine ci_met (by decide) (Nat.le_of_ble_eq_true rfl) ?_ ?_
  · rintro v w' ⟨rfl, rfl⟩
    trivial
  · change ci_T _ _ _ _ _ _ ([(0, .ref 63), (1, .int (Int32.ofInt l1))], [], pk false ρ o) _
    unfold f_X9_hasNow at h
    refine ci_T.step cb_X9_hasNow_0 rfl ?_
    obtain ⟨v1, ρ2, hv, h⟩ := bn2_some h
    refine ci_T.call (as := [_]) (rest := []) kc_X9_bedNow ki_X9_bedNow (by decide) cl_X9_hasNow_1 rfl (Nat.le_of_ble_eq_true rfl) ⟨⟨_, rfl⟩, _, _, _, rfl, pk_obj tq_62 rfl _ _⟩ (s_X9_bedNow d o hv) ?_
    rintro _ _ ⟨rfl, rfl⟩
    clear hv
    refine ci_T.step cb_X9_hasNow_4 (ci_sq rfl (ci_sq (pe_push pc_0) (ci_sq rfl (ci_sq (pe_push pc_0) rfl)))) ?_
    refine ci_T.sub [3, 4, 2, 1, 0] (t_X9_hasNow_10 ?_ fu _ _ _ _ _ h) rfl
    · intro l1 l3 ρ h
      obtain ⟨h10, h⟩ := ck_some h
      refine ci_T.step cb_X9_hasNow_54 (ci_sq rfl (ci_sq rfl (ci_sq (pe_getR tq_62 rfl rfl) (ci_sq (pe_push pc_28) (ci_sq rfl (ci_sq pe_iadd (ci_sq (pe_ald (nI := 168) tq_63 rfl rfl h10) pe_imul))))))) ?_
      cases h
      exact ci_T.done (v := some (.int _)) cd_X9_hasNow_65 ⟨rfl, rfl⟩
/-- X9_isBeside -/
def L_X9_isBeside_5 (ρ : pm) : Nat → Int → Int → Int → Int → Option Int
  | 0, _, _, _, _ => none
  | n + 1, l1, l2, l3, l4 => ck (inR l4) (if 4 ≤ l4 then ck (l3 = 0 ∨ l3 = 1) (some l3) else (f_X9_beside l1 l4 ρ).bind (fun v3 => ck (inR l3) (jn (fun (l1 l2 l4 s0 : Int) => jn (l4 + 1) (fun x5 => L_X9_isBeside_5 ρ n l1 l2 s0 x5)) (fun j46 => jn (fun (l1 l2 l4 : Int) => j46 l1 l2 l4 1) (fun j41 => if l3 = 0 then ck (inR v3) (jn (fun (l1 l2 l4 : Int) => j46 l1 l2 l4 0) (fun j45 => if v3 = (-4) then j45 l1 l2 l4 else if (band (bshr l2 v3) 1) = 1 then j41 l1 l2 l4 else j45 l1 l2 l4)) else j41 l1 l2 l4)))))
def f_X9_isBeside (l1 l2 : Int) (ρ : pm) : Option Int := L_X9_isBeside_5 ρ fu l1 l2 0 0
set_option maxRecDepth 100000 in
theorem t_X9_isBeside_5 {d : Nat}   {ρ : pm} {o : pm} {rv : Int}   : ∀ (n : Nat) (l1 l2 l3 l4 : Int), L_X9_isBeside_5 ρ n l1 l2 l3 l4 = some rv → ci_T yX9_isBeside cX9_isBeside 6 (some .boolean) (d + 1) 5 ([(0, .ref 63), (1, .int (Int32.ofInt l1)), (2, .int (Int32.ofInt l2)), (3, .int (Int32.ofInt l3)), (4, .int (Int32.ofInt l4))], [], pk false ρ o) (pZ false rv ρ o) := by
  intro n
  induction n with
  | zero =>
    intro l1 l2 l3 l4 h
    rw [L_X9_isBeside_5] at h
    cases h
  | succ n ih =>
    intro l1 l2 l3 l4 h
    rw [L_X9_isBeside_5] at h
    obtain ⟨h1, h⟩ := ck_some h
    refine ci_T.step cb_X9_isBeside_5 (ci_sq rfl (ci_sq (pe_push pc_4) (pe_ic_ge h1 pR_4))) ?_
    refine pbr h (fun hc h => ?_) (fun hc h => ?_)
    · refine ci_T.step cb_X9_isBeside_53 rfl ?_
      obtain ⟨h2, h⟩ := ck_some h
      cases h
      exact ci_T.done (v := some (.int _)) cd_X9_isBeside_54 ⟨⟨rfl, rfl⟩, h2⟩
    · refine ci_T.step cb_X9_isBeside_11 (ci_sq rfl (ci_sq rfl rfl)) ?_
      obtain ⟨v3, hv, h⟩ := bn_some h
      refine ci_T.call (as := [_, _, _]) (rest := []) kc_X9_beside ki_X9_beside (by decide) cl_X9_isBeside_15 rfl (Nat.le_of_ble_eq_true rfl) ⟨⟨_, rfl⟩, _, _, _, rfl, pk_obj tq_62 rfl _ _⟩ (s_X9_beside d o hv) ?_
      rintro _ _ ⟨rfl, rfl⟩
      clear hv
      obtain ⟨h4, h⟩ := ck_some h
      refine ci_T.step cb_X9_isBeside_18 (ci_sq rfl (ci_sq rfl (pe_if_ne h4))) ?_
      obtain ⟨j46, hj, h⟩ := jn_ex h
      have J46 : ∀ (l1 l2 l4 s0 : Int), j46 l1 l2 l4 s0 = some rv → ci_T yX9_isBeside cX9_isBeside 6 (some .boolean) (d + 1) 46 ([(0, .ref 63), (1, .int (Int32.ofInt l1)), (2, .int (Int32.ofInt l2)), (4, .int (Int32.ofInt l4))], [.int (Int32.ofInt s0)], pk false ρ o) (pZ false rv ρ o) := by
        intro l1 l2 l4 s0 h
        subst hj
        replace h := jn_some h
        refine ci_T.step cb_X9_isBeside_46 (ci_sq rfl (ci_sq (pe_inc rfl) rfl)) ?_
        exact ci_T.sub [2, 3, 4, 1, 0] (ih _ _ _ _ h) rfl
      clear hj
      obtain ⟨j41, hj, h⟩ := jn_ex h
      have J41 : ∀ (l1 l2 l4 : Int), j41 l1 l2 l4 = some rv → ci_T yX9_isBeside cX9_isBeside 6 (some .boolean) (d + 1) 41 ([(0, .ref 63), (1, .int (Int32.ofInt l1)), (2, .int (Int32.ofInt l2)), (4, .int (Int32.ofInt l4))], [], pk false ρ o) (pZ false rv ρ o) := by
        intro l1 l2 l4 h
        subst hj
        refine ci_T.step cb_X9_isBeside_41 (ci_sq (pe_push pc_1) rfl) ?_
        exact ci_T.sub [0, 1, 2, 3] (J46 _ _ _ _ h) rfl
      clear hj
      refine pbrn h (fun hc h => ?_) (fun hc h => ?_)
      · exact ci_T.sub [1, 2, 3, 5] (J41 _ _ _ h) rfl
      · obtain ⟨h6, h⟩ := ck_some h
        refine ci_T.step cb_X9_isBeside_24 (ci_sq rfl (ci_sq (pe_push pc_m4) (pe_ic_eq h6 pR_m4))) ?_
        obtain ⟨j45, hj, h⟩ := jn_ex h
        have J45 : ∀ (l1 l2 l4 : Int), j45 l1 l2 l4 = some rv → ci_T yX9_isBeside cX9_isBeside 6 (some .boolean) (d + 1) 45 ([(0, .ref 63), (1, .int (Int32.ofInt l1)), (2, .int (Int32.ofInt l2)), (4, .int (Int32.ofInt l4))], [], pk false ρ o) (pZ false rv ρ o) := by
          intro l1 l2 l4 h
          subst hj
          refine ci_T.step cb_X9_isBeside_45 (pe_push pc_0) ?_
          exact ci_T.sub [0, 1, 2, 3] (J46 _ _ _ _ h) rfl
        clear hj
        refine pbr h (fun hc h => ?_) (fun hc h => ?_)
        · exact ci_T.sub [1, 2, 3, 5] (J45 _ _ _ h) rfl
        · refine ci_T.step cb_X9_isBeside_31 (ci_sq rfl (ci_sq rfl (ci_sq pe_ishr (ci_sq (pe_push pc_1) (ci_sq pe_iand (ci_sq (pe_push pc_1) (pe_ic_ne (band_R _ _) pR_1))))))) ?_
          refine pbrn h (fun hc h => ?_) (fun hc h => ?_)
          · exact ci_T.sub [1, 2, 3, 5] (J45 _ _ _ h) rfl
          · exact ci_T.sub [1, 2, 3, 5] (J41 _ _ _ h) rfl
set_option maxRecDepth 100000 in
theorem s_X9_isBeside (d : Nat)   {ρ : pm} (o : pm) {l1 l2 : Int} {rv : Int} (h : f_X9_isBeside l1 l2 ρ = some rv) : ci_Met (d + 1) (yX9_isBeside, cX9_isBeside, 6, (some .boolean), [], 0, 0) [.ref 63, .int (Int32.ofInt l1), .int (Int32.ofInt l2)] (pk false ρ o) (pZ false rv ρ o) := by
  refine ci_met (by decide) (Nat.le_of_ble_eq_true rfl) ?_ ?_
  · rintro v w' ⟨⟨rfl, rfl⟩, hz⟩
    exact Z_of hz
  · change ci_T _ _ _ _ _ _ ([(0, .ref 63), (1, .int (Int32.ofInt l1)), (2, .int (Int32.ofInt l2))], [], pk false ρ o) _
    unfold f_X9_isBeside at h
    refine ci_T.step cb_X9_isBeside_0 (ci_sq (pe_push pc_0) (ci_sq rfl (ci_sq (pe_push pc_0) rfl))) ?_
    exact ci_T.sub [2, 3, 4, 1, 0] (t_X9_isBeside_5 fu _ _ _ _ h) rfl
/-- X9_flag -/
def f_X9_flag (l0 : Int) : Option Int := ck (inR l0) (if l0 = 0 then some 0 else some 1)
set_option maxRecDepth 100000 in
theorem s_X9_flag (d : Nat)   {ρ : pm} (o : pm) {l0 : Int} {rv : Int} (h : f_X9_flag l0 = some rv) : ci_Met d (yX9_flag, cX9_flag, 1, (some .int), [], 0, 0) [.int (Int32.ofInt l0)] (pk false ρ o) (pP false rv ρ o) := by
  refine ci_met (by decide) (Nat.le_of_ble_eq_true rfl) ?_ ?_
  · rintro v w' ⟨rfl, rfl⟩
    trivial
  · change ci_T _ _ _ _ _ _ ([(0, .int (Int32.ofInt l0))], [], pk false ρ o) _
    unfold f_X9_flag at h
    obtain ⟨h1, h⟩ := ck_some h
    refine ci_T.step cb_X9_flag_0 (ci_sq rfl (pe_if_eq h1)) ?_
    refine pbr h (fun hc h => ?_) (fun hc h => ?_)
    · refine ci_T.step cb_X9_flag_8 (pe_push pc_0) ?_
      cases h
      exact ci_T.done (v := some (.int _)) cd_X9_flag_9 ⟨rfl, rfl⟩
    · refine ci_T.step cb_X9_flag_4 (ci_sq (pe_push pc_1) rfl) ?_
      cases h
      exact ci_T.done (v := some (.int _)) cd_X9_flag_9 ⟨rfl, rfl⟩
