/-! takeLine, take, text: their contracts -/
theorem tl_lc : ∀ q ∈ ([(0, .ref 53), (1, .ref 51)] : ci_L), q.2 ≠ .ref 0 := by
  intro q hq
  rcases List.mem_cons.mp hq with rfl | hq
  · intro e; cases e
  · rcases List.mem_cons.mp hq with rfl | hq
    · intro e; cases e
    · cases hq
theorem tl_sk : ∀ v ∈ ([.ref 51] : List Value), v ≠ .ref 0 := by
  intro v hv
  rcases List.mem_cons.mp hv with rfl | hv
  · intro e; cases e
  · cases hv
set_option maxRecDepth 100000 in
theorem s_X1_takeLine {K V : Nat → Nat} (d : Nat) {ρ : pm} (o : pm) {rρ : pm} (h : f_X1_takeLine ρ = some rρ) : cs_Met K V (fun _ => True) (d + 6) (yX1_takeLine, cX1_takeLine, 2, none, [], 0, 0) [.ref 53, .ref 51] (pk true ρ o) (pV true rρ o) := by
  refine cs_met (by decide) (Nat.le_of_ble_eq_true rfl) ?_ ?_
  · rintro v w' ⟨rfl, rfl⟩
    trivial
  · change cs_T _ _ _ _ _ _ _ _ _ ([(0, .ref 53), (1, .ref 51)], [], pk true ρ o) _
    have hP : ∀ v w', pV true rρ o v w' → (∀ x, v = some x → x ≠ .ref 0) ∧ nob w' := by
      rintro v w' ⟨rfl, rfl⟩
      exact ⟨fun x z => (by cases z), pk_nob _ _ _⟩
    have fin : ∀ (Bp : Nat → Prop), cs_T K V Bp yX1_takeLine cX1_takeLine 2 none (d + 6) 124 ([(0, .ref 53), (1, .ref 51)], [], pk true rρ o) (pV true rρ o) := fun _ => cs_T.done (v := none) cd_X1_takeLine_124 ⟨rfl, rfl⟩
    unfold f_X1_takeLine at h
    obtain ⟨v, hv, h⟩ := bn_some h
    refine cs_T.step cb_X1_takeLine_0 rfl ?_
    refine cs_T.rebase (K 0) tl_lc tl_sk (pk_nob _ _ _) hP ?_
    refine cs_ldc (i := 0) (by decide) rfl (by decide +kernel) ?_
    refine cs_T.callS (as := [_, _]) (rest := []) kc_X6_says ki_X6_says (by decide) cl_X1_takeLine_3 rfl (Nat.le_of_ble_eq_true rfl) ⟨⟨_, rfl⟩, _, _, _, rfl, pk_obj tq_50 rfl _ _⟩ (s_X6_says (d + 1) (i := 0) (by decide) o (show f_X6_says (wds.getD 0 []) ρ = some v from hv)) ?_
    rintro _ _ ⟨⟨rfl, rfl⟩, hz⟩
    clear hv
    refine cs_T.step cb_X1_takeLine_6 (pe_if_eq (Z_R hz)) ?_
    refine cs_pbr h (fun hc h => ?_) (fun hc h => ?_)
    rotate_left
    · refine cs_T.step cb_X1_takeLine_9 (ci_sq rfl rfl) ?_
      obtain ⟨ρ1, hv, h⟩ := bn_some h
      refine cs_T.call (as := [_, _]) (rest := []) kc_X1_takePlain ki_X1_takePlain (by decide) cl_X1_takeLine_11 rfl (Nat.le_of_ble_eq_true rfl) ⟨⟨_, rfl⟩, _, _, _, rfl, pk_obj tq_52 rfl _ _⟩ (s_X1_takePlain (d + 2) o hv) ?_
      rintro _ _ ⟨rfl, rfl⟩
      cases h
      refine cs_T.step cb_X1_takeLine_14 rfl ?_
      exact fin _
    clear hc
    obtain ⟨v, hv, h⟩ := bn_some h
    refine cs_T.step cb_X1_takeLine_17 rfl ?_
    refine cs_T.rebase (K 1) tl_lc tl_sk (pk_nob _ _ _) hP ?_
    refine cs_ldc (i := 1) (by decide) rfl (by decide +kernel) ?_
    refine cs_T.callS (as := [_, _]) (rest := []) kc_X6_says ki_X6_says (by decide) cl_X1_takeLine_20 rfl (Nat.le_of_ble_eq_true rfl) ⟨⟨_, rfl⟩, _, _, _, rfl, pk_obj tq_50 rfl _ _⟩ (s_X6_says (d + 1) (i := 1) (by decide) o (show f_X6_says (wds.getD 1 []) ρ = some v from hv)) ?_
    rintro _ _ ⟨⟨rfl, rfl⟩, hz⟩
    clear hv
    refine cs_T.step cb_X1_takeLine_23 (pe_if_eq (Z_R hz)) ?_
    refine cs_pbr h (fun hc h => ?_) (fun hc h => ?_)
    rotate_left
    · refine cs_T.step cb_X1_takeLine_26 (ci_sq rfl rfl) ?_
      obtain ⟨ρ1, hv, h⟩ := bn_some h
      refine cs_T.call (as := [_, _]) (rest := []) kc_X1_takeRow ki_X1_takeRow (by decide) cl_X1_takeLine_28 rfl (Nat.le_of_ble_eq_true rfl) ⟨⟨_, rfl⟩, _, _, _, rfl, pk_obj tq_52 rfl _ _⟩ (s_X1_takeRow (d + 2) o hv) ?_
      rintro _ _ ⟨rfl, rfl⟩
      cases h
      refine cs_T.step cb_X1_takeLine_31 rfl ?_
      exact fin _
    clear hc
    obtain ⟨v, hv, h⟩ := bn_some h
    refine cs_T.step cb_X1_takeLine_34 rfl ?_
    refine cs_T.rebase (K 2) tl_lc tl_sk (pk_nob _ _ _) hP ?_
    refine cs_ldc (i := 2) (by decide) rfl (by decide +kernel) ?_
    refine cs_T.callS (as := [_, _]) (rest := []) kc_X6_says ki_X6_says (by decide) cl_X1_takeLine_37 rfl (Nat.le_of_ble_eq_true rfl) ⟨⟨_, rfl⟩, _, _, _, rfl, pk_obj tq_50 rfl _ _⟩ (s_X6_says (d + 1) (i := 2) (by decide) o (show f_X6_says (wds.getD 2 []) ρ = some v from hv)) ?_
    rintro _ _ ⟨⟨rfl, rfl⟩, hz⟩
    clear hv
    refine cs_T.step cb_X1_takeLine_40 (pe_if_eq (Z_R hz)) ?_
    refine cs_pbr h (fun hc h => ?_) (fun hc h => ?_)
    rotate_left
    · refine cs_T.step cb_X1_takeLine_43 (ci_sq rfl rfl) ?_
      obtain ⟨ρ1, hv, h⟩ := bn_some h
      refine cs_T.call (as := [_, _]) (rest := []) kc_X1_takeSpring ki_X1_takeSpring (by decide) cl_X1_takeLine_45 rfl (Nat.le_of_ble_eq_true rfl) ⟨⟨_, rfl⟩, _, _, _, rfl, pk_obj tq_52 rfl _ _⟩ (s_X1_takeSpring (d + 2) o hv) ?_
      rintro _ _ ⟨rfl, rfl⟩
      cases h
      refine cs_T.step cb_X1_takeLine_48 rfl ?_
      exact fin _
    clear hc
    obtain ⟨v, hv, h⟩ := bn_some h
    refine cs_T.step cb_X1_takeLine_51 rfl ?_
    refine cs_T.rebase (K 3) tl_lc tl_sk (pk_nob _ _ _) hP ?_
    refine cs_ldc (i := 3) (by decide) rfl (by decide +kernel) ?_
    refine cs_T.callS (as := [_, _]) (rest := []) kc_X6_says ki_X6_says (by decide) cl_X1_takeLine_54 rfl (Nat.le_of_ble_eq_true rfl) ⟨⟨_, rfl⟩, _, _, _, rfl, pk_obj tq_50 rfl _ _⟩ (s_X6_says (d + 1) (i := 3) (by decide) o (show f_X6_says (wds.getD 3 []) ρ = some v from hv)) ?_
    rintro _ _ ⟨⟨rfl, rfl⟩, hz⟩
    clear hv
    refine cs_T.step cb_X1_takeLine_57 (pe_if_eq (Z_R hz)) ?_
    refine cs_pbr h (fun hc h => ?_) (fun hc h => ?_)
    rotate_left
    · refine cs_T.step cb_X1_takeLine_60 (ci_sq rfl rfl) ?_
      obtain ⟨ρ1, hv, h⟩ := bn_some h
      refine cs_T.call (as := [_, _]) (rest := []) kc_X1_takeFarm ki_X1_takeFarm (by decide) cl_X1_takeLine_62 rfl (Nat.le_of_ble_eq_true rfl) ⟨⟨_, rfl⟩, _, _, _, rfl, pk_obj tq_52 rfl _ _⟩ (s_X1_takeFarm (d + 2) o hv) ?_
      rintro _ _ ⟨rfl, rfl⟩
      cases h
      refine cs_T.step cb_X1_takeLine_65 rfl ?_
      exact fin _
    clear hc
    obtain ⟨v, hv, h⟩ := bn_some h
    refine cs_T.step cb_X1_takeLine_68 rfl ?_
    refine cs_T.rebase (K 4) tl_lc tl_sk (pk_nob _ _ _) hP ?_
    refine cs_ldc (i := 4) (by decide) rfl (by decide +kernel) ?_
    refine cs_T.callS (as := [_, _]) (rest := []) kc_X6_says ki_X6_says (by decide) cl_X1_takeLine_71 rfl (Nat.le_of_ble_eq_true rfl) ⟨⟨_, rfl⟩, _, _, _, rfl, pk_obj tq_50 rfl _ _⟩ (s_X6_says (d + 1) (i := 4) (by decide) o (show f_X6_says (wds.getD 4 []) ρ = some v from hv)) ?_
    rintro _ _ ⟨⟨rfl, rfl⟩, hz⟩
    clear hv
    refine cs_T.step cb_X1_takeLine_74 (pe_if_eq (Z_R hz)) ?_
    refine cs_pbr h (fun hc h => ?_) (fun hc h => ?_)
    rotate_left
    · refine cs_T.step cb_X1_takeLine_77 (ci_sq rfl rfl) ?_
      obtain ⟨ρ1, hv, h⟩ := bn_some h
      refine cs_T.call (as := [_, _]) (rest := []) kc_X1_takeGround ki_X1_takeGround (by decide) cl_X1_takeLine_79 rfl (Nat.le_of_ble_eq_true rfl) ⟨⟨_, rfl⟩, _, _, _, rfl, pk_obj tq_52 rfl _ _⟩ (s_X1_takeGround (d + 2) o hv) ?_
      rintro _ _ ⟨rfl, rfl⟩
      cases h
      refine cs_T.step cb_X1_takeLine_82 rfl ?_
      exact fin _
    clear hc
    obtain ⟨v, hv, h⟩ := bn_some h
    refine cs_T.step cb_X1_takeLine_85 rfl ?_
    refine cs_T.rebase (K 5) tl_lc tl_sk (pk_nob _ _ _) hP ?_
    refine cs_ldc (i := 5) (by decide) rfl (by decide +kernel) ?_
    refine cs_T.callS (as := [_, _]) (rest := []) kc_X6_says ki_X6_says (by decide) cl_X1_takeLine_88 rfl (Nat.le_of_ble_eq_true rfl) ⟨⟨_, rfl⟩, _, _, _, rfl, pk_obj tq_50 rfl _ _⟩ (s_X6_says (d + 1) (i := 5) (by decide) o (show f_X6_says (wds.getD 5 []) ρ = some v from hv)) ?_
    rintro _ _ ⟨⟨rfl, rfl⟩, hz⟩
    clear hv
    refine cs_T.step cb_X1_takeLine_91 (pe_if_eq (Z_R hz)) ?_
    refine cs_pbr h (fun hc h => ?_) (fun hc h => ?_)
    rotate_left
    · refine cs_T.step cb_X1_takeLine_94 (ci_sq rfl rfl) ?_
      obtain ⟨ρ1, hv, h⟩ := bn_some h
      refine cs_T.call (as := [_, _]) (rest := []) kc_X1_takeLaw ki_X1_takeLaw (by decide) cl_X1_takeLine_96 rfl (Nat.le_of_ble_eq_true rfl) ⟨⟨_, rfl⟩, _, _, _, rfl, pk_obj tq_52 rfl _ _⟩ (s_X1_takeLaw (d + 2) o hv) ?_
      rintro _ _ ⟨rfl, rfl⟩
      cases h
      refine cs_T.step cb_X1_takeLine_99 rfl ?_
      exact fin _
    clear hc
    obtain ⟨v, hv, h⟩ := bn_some h
    refine cs_T.step cb_X1_takeLine_102 rfl ?_
    refine cs_T.rebase (K 6) tl_lc tl_sk (pk_nob _ _ _) hP ?_
    refine cs_ldc (i := 6) (by decide) rfl (by decide +kernel) ?_
    refine cs_T.callS (as := [_, _]) (rest := []) kc_X6_says ki_X6_says (by decide) cl_X1_takeLine_105 rfl (Nat.le_of_ble_eq_true rfl) ⟨⟨_, rfl⟩, _, _, _, rfl, pk_obj tq_50 rfl _ _⟩ (s_X6_says (d + 1) (i := 6) (by decide) o (show f_X6_says (wds.getD 6 []) ρ = some v from hv)) ?_
    rintro _ _ ⟨⟨rfl, rfl⟩, hz⟩
    clear hv
    refine cs_T.step cb_X1_takeLine_108 (pe_if_eq (Z_R hz)) ?_
    refine cs_pbr h (fun hc h => ?_) (fun hc h => ?_)
    rotate_left
    · refine cs_T.step cb_X1_takeLine_111 (ci_sq rfl rfl) ?_
      obtain ⟨ρ1, hv, h⟩ := bn_some h
      refine cs_T.call (as := [_, _]) (rest := []) kc_X1_takeSilt ki_X1_takeSilt (by decide) cl_X1_takeLine_113 rfl (Nat.le_of_ble_eq_true rfl) ⟨⟨_, rfl⟩, _, _, _, rfl, pk_obj tq_52 rfl _ _⟩ (s_X1_takeSilt (d + 2) o hv) ?_
      rintro _ _ ⟨rfl, rfl⟩
      cases h
      refine cs_T.step cb_X1_takeLine_116 rfl ?_
      exact fin _
    clear hc
    refine cs_T.step cb_X1_takeLine_119 (ci_sq rfl (pe_push pc_2)) ?_
    obtain ⟨ρ1, hv, h⟩ := bn_some h
    refine cs_T.call (as := [_, _]) (rest := []) kc_X6_fail ki_X6_fail (by decide) cl_X1_takeLine_121 rfl (Nat.le_of_ble_eq_true rfl) ⟨⟨_, rfl⟩, _, _, _, rfl, pk_obj tq_50 rfl _ _⟩ (s_X6_fail (d + 5) o hv) ?_
    rintro _ _ ⟨rfl, rfl⟩
    cases h
    exact fin _
set_option maxRecDepth 100000 in
theorem t_X1_take_12 {K V : Nat → Nat} {d : Nat}    {o : pm} {rv : Int} {rρ : pm} {K70 : Int → pm → Option (Int × pm)} {K37 : Int → pm → Option (Int × pm)} (hK70 : ∀ (l2 : Int) (ρ : pm), K70 l2 ρ = some (rv, rρ) → cs_T K V (fun _ => True) yX1_take cX1_take 4 (some .int) (d + 7) 70 ([(0, .ref 53), (1, .ref 51), (2, .int (Int32.ofInt l2))], [], pk true ρ o) (pP true rv rρ o)) (hK37 : ∀ (l2 : Int) (ρ : pm), K37 l2 ρ = some (rv, rρ) → cs_T K V (fun _ => True) yX1_take cX1_take 4 (some .int) (d + 7) 37 ([(0, .ref 53), (1, .ref 51), (2, .int (Int32.ofInt l2))], [], pk true ρ o) (pP true rv rρ o)) : ∀ (n : Nat) (l2 l3 : Int) (ρ : pm), L_X1_take_12 K70 K37 n l2 l3 ρ = some (rv, rρ) → cs_T K V (fun _ => True) yX1_take cX1_take 4 (some .int) (d + 7) 12 ([(0, .ref 53), (1, .ref 51), (2, .int (Int32.ofInt l2)), (3, .int (Int32.ofInt l3))], [], pk true ρ o) (pP true rv rρ o) := by
  intro n
  induction n with
  | zero =>
    intro l2 l3 ρ h
    rw [L_X1_take_12] at h
    cases h
  | succ n ih =>
    intro l2 l3 ρ h
    rw [L_X1_take_12] at h
    obtain ⟨h3, h⟩ := ck_some h
    refine cs_T.step cb_X1_take_12 (ci_sq rfl (ci_sq (pe_push pc_320) (pe_ic_gt h3 pR_320))) ?_
    refine cs_pbr h (fun hc h => ?_) (fun hc h => ?_)
    · exact cs_T.sub [0, 1, 2] (hK70 _ _ h) rfl
    · refine cs_T.step cb_X1_take_19 rfl ?_
      obtain ⟨ρ4, hv, h⟩ := bn_some h
      refine cs_T.call (as := [_]) (rest := []) kc_X6_next ki_X6_next (by decide) cl_X1_take_20 rfl (Nat.le_of_ble_eq_true rfl) ⟨⟨_, rfl⟩, _, _, _, rfl, pk_obj tq_50 rfl _ _⟩ (s_X6_next (d + 5) o hv) ?_
      rintro _ _ ⟨rfl, rfl⟩
      clear hv
      obtain ⟨h5, h⟩ := ck_some h
      refine cs_T.step cb_X1_take_23 (ci_sq rfl (ci_sq (pe_getI (kI := 6) tq_50 rfl rfl rfl) (pe_if_ne h5))) ?_
      obtain ⟨j40, hj, h⟩ := jn_ex h
      have J40 : ∀ (l2 l3 : Int) (ρ : pm), j40 l2 l3 ρ = some (rv, rρ) → cs_T K V (fun _ => True) yX1_take cX1_take 4 (some .int) (d + 7) 40 ([(0, .ref 53), (1, .ref 51), (2, .int (Int32.ofInt l2)), (3, .int (Int32.ofInt l3))], [], pk true ρ o) (pP true rv rρ o) := by
        intro l2 l3 ρ h
        subst hj
        obtain ⟨h6, h⟩ := ck_some h
        refine cs_T.step cb_X1_take_40 (ci_sq rfl (ci_sq (pe_getI (kI := 6) tq_50 rfl rfl rfl) (pe_if_ne h6))) ?_
        obtain ⟨j52, hj, h⟩ := jn_ex h
        have J52 : ∀ (l2 l3 : Int) (ρ : pm), j52 l2 l3 ρ = some (rv, rρ) → cs_T K V (fun _ => True) yX1_take cX1_take 4 (some .int) (d + 7) 52 ([(0, .ref 53), (1, .ref 51), (2, .int (Int32.ofInt l2)), (3, .int (Int32.ofInt l3))], [], pk true ρ o) (pP true rv rρ o) := by
          intro l2 l3 ρ h
          subst hj
          obtain ⟨h7, h⟩ := ck_some h
          refine cs_T.step cb_X1_take_52 (ci_sq rfl (ci_sq (pe_getI (kI := 6) tq_50 rfl rfl rfl) (pe_if_eq h7))) ?_
          refine cs_pbr h (fun hc h => ?_) (fun hc h => ?_)
          · replace h := jn_some h
            replace h := jn_some h
            refine cs_T.step cb_X1_take_61 (ci_sq (pe_inc rfl) (ci_sq (pe_inc rfl) rfl)) ?_
            exact cs_T.sub [2, 3, 1, 0] (ih _ _ _ h) rfl
          · refine cs_T.step cb_X1_take_59 (pe_push pc_0) ?_
            cases h
            exact cs_T.done (v := some (.int _)) cd_X1_take_60 ⟨rfl, rfl⟩
        clear hj
        refine cs_pbrn h (fun hc h => ?_) (fun hc h => ?_)
        · exact cs_T.sub [0, 1, 2, 3] (J52 _ _ _ h) rfl
        · refine cs_T.step cb_X1_take_47 (ci_sq rfl rfl) ?_
          obtain ⟨ρ10, hv, h⟩ := bn_some h
          refine cs_T.callS (as := [_, _]) (rest := []) kc_X1_takeLine ki_X1_takeLine (by decide) cl_X1_take_49 rfl (Nat.le_of_ble_eq_true rfl) ⟨⟨_, rfl⟩, _, _, _, rfl, pk_obj tq_52 rfl _ _⟩ (s_X1_takeLine d o hv) ?_
          rintro _ _ ⟨rfl, rfl⟩
          clear hv
          exact cs_T.sub [0, 1, 2, 3] (J52 _ _ _ h) rfl
      clear hj
      refine cs_pbrn h (fun hc h => ?_) (fun hc h => ?_)
      · exact cs_T.sub [0, 1, 2, 3] (J40 _ _ _ h) rfl
      · obtain ⟨h11, h⟩ := ck_some h
        refine cs_T.step cb_X1_take_30 (ci_sq rfl (ci_sq (pe_getI (kI := 3) tq_50 rfl rfl rfl) (pe_if_ne h11))) ?_
        refine cs_pbrn h (fun hc h => ?_) (fun hc h => ?_)
        · exact cs_T.sub [0, 1, 2, 3] (J40 _ _ _ h) rfl
        · exact cs_T.sub [0, 1, 2] (hK37 _ _ h) rfl
set_option maxRecDepth 100000 in
theorem s_X1_take {K V : Nat → Nat} (d : Nat)   {ρ : pm} (o : pm)  {rv : Int} {rρ : pm} (h : f_X1_take ρ = some (rv, rρ)) : cs_Met K V (fun _ => True) (d + 7) (yX1_take, cX1_take, 4, (some .int), [], 0, 0) [.ref 53, .ref 51] (pk true ρ o) (pP true rv rρ o) := by
  refine cs_met (by decide) (Nat.le_of_ble_eq_true rfl) ?_ ?_
  · rintro v w' ⟨rfl, rfl⟩
    trivial
  · change cs_T _ _ _ _ _ _ _ _ _ ([(0, .ref 53), (1, .ref 51)], [], pk true ρ o) _
    unfold f_X1_take at h
    refine cs_T.step cb_X1_take_0 rfl ?_
    obtain ⟨ρ1, hv, h⟩ := bn_some h
    refine cs_T.call (as := [_]) (rest := []) kc_X1_clear ki_X1_clear (by decide) cl_X1_take_1 rfl (Nat.le_of_ble_eq_true rfl) ⟨⟨_, rfl⟩, _, _, _, rfl, pk_obj tq_52 rfl _ _⟩ (s_X1_clear (d + 5) o hv) ?_
    rintro _ _ ⟨rfl, rfl⟩
    clear hv
    refine cs_T.step cb_X1_take_4 rfl ?_
    obtain ⟨ρ2, hv, h⟩ := bn_some h
    refine cs_T.call (as := [_]) (rest := []) kc_X6_rewind ki_X6_rewind (by decide) cl_X1_take_5 rfl (Nat.le_of_ble_eq_true rfl) ⟨⟨_, rfl⟩, _, _, _, rfl, pk_obj tq_50 rfl _ _⟩ (s_X6_rewind (d + 6) o hv) ?_
    rintro _ _ ⟨rfl, rfl⟩
    clear hv
    refine cs_T.step cb_X1_take_8 (ci_sq (pe_push pc_0) (ci_sq rfl (ci_sq (pe_push pc_0) rfl))) ?_
    refine cs_T.sub [2, 3, 1, 0] (t_X1_take_12 ?_ ?_ fu _ _ _ h) rfl
    · intro l2 ρ h
      refine cs_T.step cb_X1_take_70 rfl ?_
      obtain ⟨v12, hv, h⟩ := bn_some h
      refine cs_T.call (as := [_]) (rest := []) kc_X1_isWhole ki_X1_isWhole (by decide) cl_X1_take_71 rfl (Nat.le_of_ble_eq_true rfl) ⟨⟨_, rfl⟩, _, _, _, rfl, pk_obj tq_52 rfl _ _⟩ (s_X1_isWhole (d + 6) o hv) ?_
      rintro _ _ ⟨⟨rfl, rfl⟩, hz13⟩
      clear hv
      refine cs_T.step cb_X1_take_74 (pe_if_ne (Z_R hz13)) ?_
      refine cs_pbrn h (fun hc h => ?_) (fun hc h => ?_)
      · refine cs_T.step cb_X1_take_83 rfl ?_
        cases h
        exact cs_T.done (v := some (.int _)) cd_X1_take_84 ⟨rfl, rfl⟩
      · refine cs_T.step cb_X1_take_77 (ci_sq rfl (pe_push pc_6)) ?_
        obtain ⟨ρ14, hv, h⟩ := bn_some h
        refine cs_T.call (as := [_, _]) (rest := []) kc_X6_failBehindAll ki_X6_failBehindAll (by decide) cl_X1_take_80 rfl (Nat.le_of_ble_eq_true rfl) ⟨⟨_, rfl⟩, _, _, _, rfl, pk_obj tq_50 rfl _ _⟩ (s_X6_failBehindAll (d + 6) o hv) ?_
        rintro _ _ ⟨rfl, rfl⟩
        clear hv
        refine cs_T.step cb_X1_take_83 rfl ?_
        cases h
        exact cs_T.done (v := some (.int _)) cd_X1_take_84 ⟨rfl, rfl⟩
    · intro l2 ρ h
      refine cs_T.step cb_X1_take_37 rfl ?_
      refine cs_T.step cb_X1_take_70 rfl ?_
      obtain ⟨v15, hv, h⟩ := bn_some h
      refine cs_T.call (as := [_]) (rest := []) kc_X1_isWhole ki_X1_isWhole (by decide) cl_X1_take_71 rfl (Nat.le_of_ble_eq_true rfl) ⟨⟨_, rfl⟩, _, _, _, rfl, pk_obj tq_52 rfl _ _⟩ (s_X1_isWhole (d + 6) o hv) ?_
      rintro _ _ ⟨⟨rfl, rfl⟩, hz16⟩
      clear hv
      refine cs_T.step cb_X1_take_74 (pe_if_ne (Z_R hz16)) ?_
      refine cs_pbrn h (fun hc h => ?_) (fun hc h => ?_)
      · refine cs_T.step cb_X1_take_83 rfl ?_
        cases h
        exact cs_T.done (v := some (.int _)) cd_X1_take_84 ⟨rfl, rfl⟩
      · refine cs_T.step cb_X1_take_77 (ci_sq rfl (pe_push pc_6)) ?_
        obtain ⟨ρ17, hv, h⟩ := bn_some h
        refine cs_T.call (as := [_, _]) (rest := []) kc_X6_failBehindAll ki_X6_failBehindAll (by decide) cl_X1_take_80 rfl (Nat.le_of_ble_eq_true rfl) ⟨⟨_, rfl⟩, _, _, _, rfl, pk_obj tq_50 rfl _ _⟩ (s_X6_failBehindAll (d + 6) o hv) ?_
        rintro _ _ ⟨rfl, rfl⟩
        clear hv
        refine cs_T.step cb_X1_take_83 rfl ?_
        cases h
        exact cs_T.done (v := some (.int _)) cd_X1_take_84 ⟨rfl, rfl⟩
set_option maxRecDepth 100000 in
theorem s_X8_text {K V : Nat → Nat} (d : Nat)   {ρ : pm} (o : pm)  {rv : Int} {rρ : pm} (h : f_X8_text ρ = some (rv, rρ)) : cs_Met K V (fun _ => True) (d + 8) (yX8_text, cX8_text, 2, (some .int), [], 0, 0) [.ref 1] (pk true ρ o) (pP true rv rρ o) := by
  refine cs_met (by decide) (Nat.le_of_ble_eq_true rfl) ?_ ?_
  · rintro v w' ⟨rfl, rfl⟩
    trivial
  · change cs_T _ _ _ _ _ _ _ _ _ ([(0, .ref 1)], [], pk true ρ o) _
    unfold f_X8_text at h
    refine cs_T.step cb_X8_text_0 (ci_sq rfl (ci_sq (pe_getR tq_0 rfl rfl) (ci_sq rfl (pe_getR tq_0 rfl rfl)))) ?_
    obtain ⟨v1, ρ2, hv, h⟩ := bn2_some h
    refine cs_T.callS (as := [_, _]) (rest := []) kc_X1_take ki_X1_take (by decide) cl_X8_text_8 rfl (Nat.le_of_ble_eq_true rfl) ⟨⟨_, rfl⟩, _, _, _, rfl, pk_obj tq_52 rfl _ _⟩ (s_X1_take d o hv) ?_
    rintro _ _ ⟨rfl, rfl⟩
    clear hv
    replace h := jn_some h
    replace h := jn_some h
    obtain ⟨h5, h⟩ := ck_some h
    refine cs_T.step cb_X8_text_11 (ci_sq rfl (ci_sq rfl (ci_sq rfl (ci_sq (pe_getR tq_0 rfl rfl) (ci_sq (pe_getI (kI := 6) tq_50 rfl rfl rfl) (ci_sq (pe_putI (kI := 12) tq_0 rfl rfl rfl) (ci_sq rfl (ci_sq (pe_getR tq_0 rfl rfl) (ci_sq (pe_push pc_0) (ci_sq (pe_putI (kI := 1) tq_50 rfl rfl rfl) (ci_sq rfl (ci_sq (pe_getI (kI := 12) tq_0 rfl rfl rfl) (pe_if_eq h5))))))))))))) ?_
    refine cs_pbr h (fun hc h => ?_) (fun hc h => ?_)
    · refine cs_T.step cb_X8_text_49 (ci_sq rfl (ci_sq (pe_getR tq_0 rfl rfl) (ci_sq rfl (ci_sq (pe_getR tq_0 rfl rfl) (ci_sq rfl (pe_getR tq_0 rfl rfl)))))) ?_
      obtain ⟨ρ6, hv, h⟩ := bn_some h
      refine cs_T.call (as := [_, _, _]) (rest := []) kc_X1_settle ki_X1_settle (by decide) cl_X8_text_61 rfl (Nat.le_of_ble_eq_true rfl) ⟨⟨_, rfl⟩, _, _, _, rfl, pk_obj tq_52 rfl _ _⟩ (s_X1_settle (d + 4) o hv) ?_
      rintro _ _ ⟨rfl, rfl⟩
      clear hv
      replace h := jn_some h
      replace h := jn_some h
      refine cs_T.step cb_X8_text_64 (ci_sq rfl (ci_sq (pe_getR tq_0 rfl rfl) (ci_sq (pe_push pc_0) (ci_sq (pe_putZ (kI := 6) tq_28 rfl rfl rfl (Or.inl rfl)) (ci_sq rfl (ci_sq (pe_push pc_0) (ci_sq (pe_putI (kI := 11) tq_0 rfl rfl rfl) rfl))))))) ?_
      cases h
      exact cs_T.done (v := some (.int _)) cd_X8_text_78 ⟨rfl, rfl⟩
    · refine cs_T.step cb_X8_text_38 (ci_sq (pe_push pc_m10) (ci_sq rfl (ci_sq (pe_getR tq_0 rfl rfl) (ci_sq (pe_getI (kI := 7) tq_50 rfl rfl rfl) pe_isub)))) ?_
      cases h
      exact cs_T.done (v := some (.int _)) cd_X8_text_48 ⟨rfl, rfl⟩

