/-- X9_torn -/
def f_X9_torn (ρ : pm) : Option Int := some (ρ 62 45)
set_option maxRecDepth 100000 in
theorem s_X9_torn (d : Nat)   {ρ : pm} (o : pm)  {rv : Int} (h : f_X9_torn ρ = some rv) : ci_Met d (yX9_torn, cX9_torn, 1, (some .int), [], 0, 0) [.ref 63] (pk false ρ o) (pP false rv ρ o) := by
  refine ci_met (by decide) (Nat.le_of_ble_eq_true rfl) ?_ ?_
  · rintro v w' ⟨rfl, rfl⟩
    trivial
  · change ci_T _ _ _ _ _ _ ([(0, .ref 63)], [], pk false ρ o) _
    unfold f_X9_torn at h
    refine ci_T.step cb_X9_torn_0 (ci_sq rfl (pe_getI (kI := 45) tq_62 rfl rfl rfl)) ?_
    cases h
    exact ci_T.done (v := some (.int _)) cd_X9_torn_4 ⟨rfl, rfl⟩
/-- X9_count -/
def L_X9_count_4 (K25 : Int → Int → pm → Option (Int × pm)) : Nat → Int → Int → Int → pm → Option (Int × pm)
  | 0, _, _, _, _ => none
  | n + 1, l1, l2, l3, ρ => ck (inR l3) (if 25 ≤ l3 then K25 l1 l2 ρ else ck (0 ≤ l3 ∧ l3 < 168) (jn (l2 + (ρ 63 l3)) (fun x3 => jn (l3 + 1) (fun x4 => L_X9_count_4 K25 n l1 x3 x4 ρ))))
def f_X9_count (l1 : Int) (ρ : pm) : Option (Int × pm) := L_X9_count_4 (fun (l1 l2 : Int) (ρ : pm) => ck (inR l1) (if l1 = 0 then (f_X9_findBed ρ).bind (fun ρ6 => some (ρ6 62 31, ρ6)) else if l1 = 1 then some (ρ 63 32, ρ) else if l1 = 2 then some (ρ 63 39, ρ) else if l1 = 3 then (f_X9_flag (ρ 64 0)).bind (fun v10 => (f_X9_flag (ρ 64 1)).bind (fun v11 => some (v10 + v11, ρ))) else if l1 = 4 then some (ρ 62 23, ρ) else if l1 = 5 then ck (inR (ρ 81 0)) (if (ρ 81 0) = (-4) then some ((-4), ρ) else some (ρ 82 0, ρ)) else if l1 = 6 then some (l2, ρ) else if l1 = 7 then (f_X9_findOptions ρ).bind (fun ρ17 => (f_X9_allOptions ρ17).bind (fun v18 => some (v18, ρ17))) else some ((-1), ρ))) fu l1 0 0 ρ
set_option maxRecDepth 100000 in
theorem t_X9_count_4 {d : Nat}    {o : pm} {rv : Int} {rρ : pm} {K25 : Int → Int → pm → Option (Int × pm)} (hK25 : ∀ (l1 l2 : Int) (ρ : pm), K25 l1 l2 ρ = some (rv, rρ) → ci_T yX9_count cX9_count 4 (some .int) (d + 6) 25 ([(0, .ref 63), (1, .int (Int32.ofInt l1)), (2, .int (Int32.ofInt l2))], [], pk false ρ o) (pP false rv rρ o)) : ∀ (n : Nat) (l1 l2 l3 : Int) (ρ : pm), L_X9_count_4 K25 n l1 l2 l3 ρ = some (rv, rρ) → ci_T yX9_count cX9_count 4 (some .int) (d + 6) 4 ([(0, .ref 63), (1, .int (Int32.ofInt l1)), (2, .int (Int32.ofInt l2)), (3, .int (Int32.ofInt l3))], [], pk false ρ o) (pP false rv rρ o) := by
  intro n
  induction n with
  | zero =>
    intro l1 l2 l3 ρ h
    rw [L_X9_count_4] at h
    cases h
  | succ n ih =>
    intro l1 l2 l3 ρ h
    rw [L_X9_count_4] at h
    obtain ⟨h1, h⟩ := ck_some h
    refine ci_T.step cb_X9_count_4 (ci_sq rfl (ci_sq (pe_push pc_25) (pe_ic_ge h1 pR_25))) ?_
    refine pbr h (fun hc h => ?_) (fun hc h => ?_)
    · exact ci_T.sub [0, 1, 2] (hK25 _ _ _ h) rfl
    · obtain ⟨h2, h⟩ := ck_some h
      replace h := jn_some h
      replace h := jn_some h
      refine ci_T.step cb_X9_count_10 (ci_sq rfl (ci_sq rfl (ci_sq (pe_getR tq_62 rfl rfl) (ci_sq rfl (ci_sq (pe_ald (nI := 168) tq_63 rfl rfl h2) (ci_sq pe_iadd (ci_sq rfl (ci_sq (pe_inc rfl) rfl)))))))) ?_
      exact ci_T.sub [2, 3, 1, 0] (ih _ _ _ _ h) rfl
set_option maxRecDepth 100000 in
theorem s_X9_count (d : Nat)   {ρ : pm} (o : pm) {l1 : Int} {rv : Int} {rρ : pm} (h : f_X9_count l1 ρ = some (rv, rρ)) : ci_Met (d + 6) (yX9_count, cX9_count, 4, (some .int), [], 0, 0) [.ref 63, .int (Int32.ofInt l1)] (pk false ρ o) (pP false rv rρ o) := by
  refine ci_met (by decide) (Nat.le_of_ble_eq_true rfl) ?_ ?_
  · rintro v w' ⟨rfl, rfl⟩
    trivial
  · change ci_T _ _ _ _ _ _ ([(0, .ref 63), (1, .int (Int32.ofInt l1))], [], pk false ρ o) _
    unfold f_X9_count at h
    refine ci_T.step cb_X9_count_0 (ci_sq (pe_push pc_0) (ci_sq rfl (ci_sq (pe_push pc_0) rfl))) ?_
    refine ci_T.sub [2, 3, 1, 0] (t_X9_count_4 ?_ fu _ _ _ _ h) rfl
    · intro l1 l2 ρ h
      obtain ⟨h5, h⟩ := ck_some h
      refine ci_T.step cb_X9_count_25 (ci_sq rfl (pe_tsw h5 rfl)) ?_
      refine pite h (fun hc7 h => ?_) (fun hc7 h => ?_)
      · refine tsw_T hc7 rfl ?_
        refine ci_T.step cb_X9_count_72 rfl ?_
        obtain ⟨ρ6, hv, h⟩ := bn_some h
        refine ci_T.call (as := [_]) (rest := []) kc_X9_findBed ki_X9_findBed (by decide) cl_X9_count_73 rfl (Nat.le_of_ble_eq_true rfl) ⟨⟨_, rfl⟩, _, _, _, rfl, pk_obj tq_62 rfl _ _⟩ (s_X9_findBed (d + 3) o hv) ?_
        rintro _ _ ⟨rfl, rfl⟩
        clear hv
        refine ci_T.step cb_X9_count_76 (ci_sq rfl (pe_getI (kI := 31) tq_62 rfl rfl rfl)) ?_
        cases h
        exact ci_T.done (v := some (.int _)) cd_X9_count_80 ⟨rfl, rfl⟩
      refine pite h (fun hc8 h => ?_) (fun hc8 h => ?_)
      · refine tsw_T hc8 rfl ?_
        refine ci_T.step cb_X9_count_81 (ci_sq rfl (ci_sq (pe_getR tq_62 rfl rfl) (ci_sq (pe_push pc_32) (pe_ald (nI := 168) tq_63 rfl rfl ⟨by decide, by decide⟩)))) ?_
        cases h
        exact ci_T.done (v := some (.int _)) cd_X9_count_88 ⟨rfl, rfl⟩
      refine pite h (fun hc9 h => ?_) (fun hc9 h => ?_)
      · refine tsw_T hc9 rfl ?_
        refine ci_T.step cb_X9_count_89 (ci_sq rfl (ci_sq (pe_getR tq_62 rfl rfl) (ci_sq (pe_push pc_39) (pe_ald (nI := 168) tq_63 rfl rfl ⟨by decide, by decide⟩)))) ?_
        cases h
        exact ci_T.done (v := some (.int _)) cd_X9_count_96 ⟨rfl, rfl⟩
      refine pite h (fun hc12 h => ?_) (fun hc12 h => ?_)
      · refine tsw_T hc12 rfl ?_
        refine ci_T.step cb_X9_count_97 (ci_sq rfl (ci_sq (pe_getR tq_62 rfl rfl) (ci_sq (pe_push pc_0) (pe_ald (nI := 2) tq_64 rfl rfl ⟨by decide, by decide⟩)))) ?_
        obtain ⟨v10, hv, h⟩ := bn_some h
        refine ci_T.call (as := [_]) (rest := []) kc_X9_flag ki_X9_flag (by decide) cl_X9_count_103 rfl (Nat.le_of_ble_eq_true rfl) trivial (s_X9_flag (d + 5) o hv) ?_
        rintro _ _ ⟨rfl, rfl⟩
        clear hv
        refine ci_T.step cb_X9_count_106 (ci_sq rfl (ci_sq (pe_getR tq_62 rfl rfl) (ci_sq (pe_push pc_1) (pe_ald (nI := 2) tq_64 rfl rfl ⟨by decide, by decide⟩)))) ?_
        obtain ⟨v11, hv, h⟩ := bn_some h
        refine ci_T.call (as := [_]) (rest := [_]) kc_X9_flag ki_X9_flag (by decide) cl_X9_count_112 rfl (Nat.le_of_ble_eq_true rfl) trivial (s_X9_flag (d + 5) o hv) ?_
        rintro _ _ ⟨rfl, rfl⟩
        clear hv
        refine ci_T.step cb_X9_count_115 pe_iadd ?_
        cases h
        exact ci_T.done (v := some (.int _)) cd_X9_count_116 ⟨rfl, rfl⟩
      refine pite h (fun hc13 h => ?_) (fun hc13 h => ?_)
      · refine tsw_T hc13 rfl ?_
        refine ci_T.step cb_X9_count_117 (ci_sq rfl (pe_getI (kI := 23) tq_62 rfl rfl rfl)) ?_
        cases h
        exact ci_T.done (v := some (.int _)) cd_X9_count_121 ⟨rfl, rfl⟩
      refine pite h (fun hc15 h => ?_) (fun hc15 h => ?_)
      · refine tsw_T hc15 rfl ?_
        obtain ⟨h14, h⟩ := ck_some h
        refine ci_T.step cb_X9_count_122 (ci_sq rfl (ci_sq (pe_getR tq_62 rfl rfl) (ci_sq (pe_push pc_0) (ci_sq (pe_ald (nI := 4) tq_81 rfl rfl ⟨by decide, by decide⟩) (ci_sq (pe_push pc_m4) (pe_ic_ne h14 pR_m4)))))) ?_
        refine pbrn h (fun hc h => ?_) (fun hc h => ?_)
        · refine ci_T.step cb_X9_count_138 (ci_sq rfl (ci_sq (pe_getR tq_62 rfl rfl) (ci_sq (pe_push pc_0) (pe_ald (nI := 4) tq_82 rfl rfl ⟨by decide, by decide⟩)))) ?_
          cases h
          exact ci_T.done (v := some (.int _)) cd_X9_count_144 ⟨rfl, rfl⟩
        · refine ci_T.step cb_X9_count_133 (ci_sq (pe_push pc_m4) rfl) ?_
          cases h
          exact ci_T.done (v := some (.int _)) cd_X9_count_144 ⟨rfl, rfl⟩
      refine pite h (fun hc16 h => ?_) (fun hc16 h => ?_)
      · refine tsw_T hc16 rfl ?_
        refine ci_T.step cb_X9_count_145 rfl ?_
        cases h
        exact ci_T.done (v := some (.int _)) cd_X9_count_146 ⟨rfl, rfl⟩
      refine pite h (fun hc19 h => ?_) (fun hc19 h => ?_)
      · refine tsw_T hc19 rfl ?_
        refine ci_T.step cb_X9_count_147 rfl ?_
        obtain ⟨ρ17, hv, h⟩ := bn_some h
        refine ci_T.call (as := [_]) (rest := []) kc_X9_findOptions ki_X9_findOptions (by decide) cl_X9_count_148 rfl (Nat.le_of_ble_eq_true rfl) ⟨⟨_, rfl⟩, _, _, _, rfl, pk_obj tq_62 rfl _ _⟩ (s_X9_findOptions d o hv) ?_
        rintro _ _ ⟨rfl, rfl⟩
        clear hv
        refine ci_T.step cb_X9_count_151 rfl ?_
        obtain ⟨v18, hv, h⟩ := bn_some h
        refine ci_T.call (as := [_]) (rest := []) kc_X9_allOptions ki_X9_allOptions (by decide) cl_X9_count_152 rfl (Nat.le_of_ble_eq_true rfl) ⟨⟨_, rfl⟩, _, _, _, rfl, pk_obj tq_62 rfl _ _⟩ (s_X9_allOptions (d + 5) o hv) ?_
        rintro _ _ ⟨rfl, rfl⟩
        clear hv
        cases h
        exact ci_T.done (v := some (.int _)) cd_X9_count_155 ⟨rfl, rfl⟩
      refine tsw_D (hi := 7) rfl (by omega) ?_
      refine ci_T.step cb_X9_count_156 (pe_push pc_m1) ?_
      cases h
      exact ci_T.done (v := some (.int _)) cd_X9_count_157 ⟨rfl, rfl⟩
