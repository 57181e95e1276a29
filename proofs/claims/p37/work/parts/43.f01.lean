/-- X8_has -/
def f_X8_has (l0 l1 : Int) : Option Int := if (band (bshr l0 l1) 1) = 0 then some 0 else some 1
set_option maxRecDepth 100000 in
theorem s_X8_has (d : Nat)   {ρ : pm} (o : pm) {l0 l1 : Int} {rv : Int} (h : f_X8_has l0 l1 = some rv) : ci_Met d (yX8_has, cX8_has, 2, (some .boolean), [], 0, 0) [.int (Int32.ofInt l0), .int (Int32.ofInt l1)] (pk true ρ o) (pZ true rv ρ o) := by
  refine ci_met (by decide) (Nat.le_of_ble_eq_true rfl) ?_ ?_
  · rintro v w' ⟨⟨rfl, rfl⟩, hz⟩
    exact Z_of hz
  · change ci_T _ _ _ _ _ _ ([(0, .int (Int32.ofInt l0)), (1, .int (Int32.ofInt l1))], [], pk true ρ o) _
    unfold f_X8_has at h
    refine ci_T.step cb_X8_has_0 (ci_sq rfl (ci_sq rfl (ci_sq pe_ishr (ci_sq (pe_push pc_1) (ci_sq pe_iand (pe_if_eq (band_R _ _))))))) ?_
    refine pbr h (fun hc h => ?_) (fun hc h => ?_)
    · refine ci_T.step cb_X8_has_12 (pe_push pc_0) ?_
      cases h
      exact ci_T.done (v := some (.int _)) cd_X8_has_13 ⟨⟨rfl, rfl⟩, (Or.inl rfl)⟩
    · refine ci_T.step cb_X8_has_8 (ci_sq (pe_push pc_1) rfl) ?_
      cases h
      exact ci_T.done (v := some (.int _)) cd_X8_has_13 ⟨⟨rfl, rfl⟩, (Or.inr rfl)⟩
/-- X2_lowestNextTo -/
def L_X2_lowestNextTo_4 (q : Nat) (ρ : pm) : Nat → Int → Int → Int → Option Int
  | 0, _, _, _ => none
  | n + 1, l1, l2, l3 => ck (inR l3) (if 4 ≤ l3 then some l2 else ck (0 ≤ (l1 * 4) + l3 ∧ (l1 * 4) + l3 < 100) (jn (ρ 3 ((l1 * 4) + l3)) (fun x3 => ck (inR x3) (jn (fun (l1 l2 l3 l4 s0 : Int) => ck (inR s0) (jn (fun (l1 l2 l3 : Int) => jn (l3 + 1) (fun x6 => L_X2_lowestNextTo_4 q ρ n l1 l2 x6)) (fun j92 => if s0 = 0 then j92 l1 l2 l3 else ck (inR l2) (jn (fun (l1 l3 l4 : Int) => j92 l1 l4 l3) (fun j89 => if l2 < 0 then j89 l1 l3 l4 else ck (0 ≤ l4 ∧ l4 < 25) (ck (0 ≤ l2 ∧ l2 < 25) (ck (inR (ρ (q + 1) l4)) (ck (inR (ρ (q + 1) l2)) (if (ρ (q + 1) l2) ≤ (ρ (q + 1) l4) then j92 l1 l2 l3 else j89 l1 l3 l4))))))))) (fun j62 => jn (fun (l1 l2 l3 l4 : Int) => j62 l1 l2 l3 l4 0) (fun j61 => if x3 < 0 then j61 l1 l2 l3 x3 else (f_X8_has (ρ q 4) x3).bind (fun v12 => if v12 = 0 then ck (0 ≤ x3 ∧ x3 < 25) (ck (0 ≤ l1 ∧ l1 < 25) (ck (inR (ρ (q + 1) x3)) (ck (inR (ρ (q + 1) l1)) (if (ρ (q + 1) l1) < (ρ (q + 1) x3) then j61 l1 l2 l3 x3 else j62 l1 l2 l3 x3 1)))) else j61 l1 l2 l3 x3)))))))
def f_X2_lowestNextTo (q : Nat) (l1 : Int) (ρ : pm) : Option Int := L_X2_lowestNextTo_4 q ρ fu l1 (-1) 0
set_option maxRecDepth 100000 in
theorem t_X2_lowestNextTo_4 {d : Nat} {q : Nat} (hq : isF q) {ρ : pm} {o : pm} {rv : Int}   : ∀ (n : Nat) (l1 l2 l3 : Int), L_X2_lowestNextTo_4 q ρ n l1 l2 l3 = some rv → ci_T yX2_lowestNextTo cX2_lowestNextTo 6 (some .int) (d + 1) 4 ([(0, .ref (q + 1)), (1, .int (Int32.ofInt l1)), (2, .int (Int32.ofInt l2)), (3, .int (Int32.ofInt l3))], [], pk true ρ o) (pP true rv ρ o) := by
  intro n
  induction n with
  | zero =>
    intro l1 l2 l3 h
    rw [L_X2_lowestNextTo_4] at h
    cases h
  | succ n ih =>
    intro l1 l2 l3 h
    rw [L_X2_lowestNextTo_4] at h
    obtain ⟨h1, h⟩ := ck_some h
    refine ci_T.step cb_X2_lowestNextTo_4 (ci_sq rfl (ci_sq (pe_push pc_4) (pe_ic_ge h1 pR_4))) ?_
    refine pbr h (fun hc h => ?_) (fun hc h => ?_)
    · refine ci_T.step cb_X2_lowestNextTo_98 rfl ?_
      cases h
      exact ci_T.done (v := some (.int _)) cd_X2_lowestNextTo_99 ⟨rfl, rfl⟩
    · obtain ⟨h2, h⟩ := ck_some h
      replace h := jn_some h
      obtain ⟨h4, h⟩ := ck_some h
      refine ci_T.step cb_X2_lowestNextTo_9 (ci_sq rfl (ci_sq (pe_getR hq.1 hq.2.2.2.1 rfl) (ci_sq (pe_getR tq_1 rfl rfl) (ci_sq rfl (ci_sq (pe_push pc_4) (ci_sq pe_imul (ci_sq rfl (ci_sq pe_iadd (ci_sq (pe_ald (nI := 100) tq_3 rfl rfl h2) (ci_sq rfl (ci_sq rfl (pe_if_lt h4)))))))))))) ?_
      obtain ⟨j62, hj, h⟩ := jn_ex h
      have J62 : ∀ (l1 l2 l3 l4 s0 : Int), j62 l1 l2 l3 l4 s0 = some rv → ci_T yX2_lowestNextTo cX2_lowestNextTo 6 (some .int) (d + 1) 62 ([(0, .ref (q + 1)), (1, .int (Int32.ofInt l1)), (2, .int (Int32.ofInt l2)), (3, .int (Int32.ofInt l3)), (4, .int (Int32.ofInt l4))], [.int (Int32.ofInt s0)], pk true ρ o) (pP true rv ρ o) := by
        intro l1 l2 l3 l4 s0 h
        subst hj
        obtain ⟨h5, h⟩ := ck_some h
        refine ci_T.step cb_X2_lowestNextTo_62 (ci_sq rfl (ci_sq rfl (pe_if_eq h5))) ?_
        obtain ⟨j92, hj, h⟩ := jn_ex h
        have J92 : ∀ (l1 l2 l3 : Int), j92 l1 l2 l3 = some rv → ci_T yX2_lowestNextTo cX2_lowestNextTo 6 (some .int) (d + 1) 92 ([(0, .ref (q + 1)), (1, .int (Int32.ofInt l1)), (2, .int (Int32.ofInt l2)), (3, .int (Int32.ofInt l3))], [], pk true ρ o) (pP true rv ρ o) := by
          intro l1 l2 l3 h
          subst hj
          replace h := jn_some h
          refine ci_T.step cb_X2_lowestNextTo_92 (ci_sq (pe_inc rfl) rfl) ?_
          exact ci_T.sub [1, 2, 3, 0] (ih _ _ _ h) rfl
        clear hj
        refine pbr h (fun hc h => ?_) (fun hc h => ?_)
        · exact ci_T.sub [1, 2, 3, 4] (J92 _ _ _ h) rfl
        · obtain ⟨h7, h⟩ := ck_some h
          refine ci_T.step cb_X2_lowestNextTo_69 (ci_sq rfl (pe_if_lt h7)) ?_
          obtain ⟨j89, hj, h⟩ := jn_ex h
          have J89 : ∀ (l1 l3 l4 : Int), j89 l1 l3 l4 = some rv → ci_T yX2_lowestNextTo cX2_lowestNextTo 6 (some .int) (d + 1) 89 ([(0, .ref (q + 1)), (1, .int (Int32.ofInt l1)), (3, .int (Int32.ofInt l3)), (4, .int (Int32.ofInt l4))], [], pk true ρ o) (pP true rv ρ o) := by
            intro l1 l3 l4 h
            subst hj
            refine ci_T.step cb_X2_lowestNextTo_89 (ci_sq rfl rfl) ?_
            exact ci_T.sub [1, 2, 0, 3] (J92 _ _ _ h) rfl
          clear hj
          refine pbr h (fun hc h => ?_) (fun hc h => ?_)
          · exact ci_T.sub [1, 2, 4, 5] (J89 _ _ _ h) rfl
          · obtain ⟨h8, h⟩ := ck_some h
            obtain ⟨h9, h⟩ := ck_some h
            obtain ⟨h10, h⟩ := ck_some h
            obtain ⟨h11, h⟩ := ck_some h
            refine ci_T.step cb_X2_lowestNextTo_73 (ci_sq rfl (ci_sq (pe_getR hq.1 hq.2.2.2.1 rfl) (ci_sq rfl (ci_sq (pe_ald (nI := 25) hq.2.1 hq.2.2.2.2.1 rfl h8) (ci_sq rfl (ci_sq (pe_getR hq.1 hq.2.2.2.1 rfl) (ci_sq rfl (ci_sq (pe_ald (nI := 25) hq.2.1 hq.2.2.2.2.1 rfl h9) (pe_ic_ge h10 h11))))))))) ?_
            refine pbr h (fun hc h => ?_) (fun hc h => ?_)
            · exact ci_T.sub [1, 2, 3, 4] (J92 _ _ _ h) rfl
            · exact ci_T.sub [1, 2, 4, 5] (J89 _ _ _ h) rfl
      clear hj
      obtain ⟨j61, hj, h⟩ := jn_ex h
      have J61 : ∀ (l1 l2 l3 l4 : Int), j61 l1 l2 l3 l4 = some rv → ci_T yX2_lowestNextTo cX2_lowestNextTo 6 (some .int) (d + 1) 61 ([(0, .ref (q + 1)), (1, .int (Int32.ofInt l1)), (2, .int (Int32.ofInt l2)), (3, .int (Int32.ofInt l3)), (4, .int (Int32.ofInt l4))], [], pk true ρ o) (pP true rv ρ o) := by
        intro l1 l2 l3 l4 h
        subst hj
        refine ci_T.step cb_X2_lowestNextTo_61 (pe_push pc_0) ?_
        exact ci_T.sub [0, 1, 2, 3, 4] (J62 _ _ _ _ _ h) rfl
      clear hj
      refine pbr h (fun hc h => ?_) (fun hc h => ?_)
      · exact ci_T.sub [1, 2, 3, 4, 0] (J61 _ _ _ _ h) rfl
      · refine ci_T.step cb_X2_lowestNextTo_29 (ci_sq rfl (ci_sq (pe_getI (kI := 4) hq.1 hq.2.2.2.1 rfl rfl) rfl)) ?_
        obtain ⟨v12, hv, h⟩ := bn_some h
        refine ci_T.call (as := [_, _]) (rest := []) kc_X8_has ki_X8_has (by decide) cl_X2_lowestNextTo_35 rfl (Nat.le_of_ble_eq_true rfl) trivial (s_X8_has d o hv) ?_
        rintro _ _ ⟨⟨rfl, rfl⟩, hz13⟩
        clear hv
        refine ci_T.step cb_X2_lowestNextTo_38 (pe_if_ne (Z_R hz13)) ?_
        refine pbrn h (fun hc h => ?_) (fun hc h => ?_)
        · exact ci_T.sub [1, 2, 3, 4, 0] (J61 _ _ _ _ h) rfl
        · obtain ⟨h14, h⟩ := ck_some h
          obtain ⟨h15, h⟩ := ck_some h
          obtain ⟨h16, h⟩ := ck_some h
          obtain ⟨h17, h⟩ := ck_some h
          refine ci_T.step cb_X2_lowestNextTo_41 (ci_sq rfl (ci_sq (pe_getR hq.1 hq.2.2.2.1 rfl) (ci_sq rfl (ci_sq (pe_ald (nI := 25) hq.2.1 hq.2.2.2.2.1 rfl h14) (ci_sq rfl (ci_sq (pe_getR hq.1 hq.2.2.2.1 rfl) (ci_sq rfl (ci_sq (pe_ald (nI := 25) hq.2.1 hq.2.2.2.2.1 rfl h15) (pe_ic_gt h16 h17))))))))) ?_
          refine pbr h (fun hc h => ?_) (fun hc h => ?_)
          · exact ci_T.sub [1, 2, 3, 4, 0] (J61 _ _ _ _ h) rfl
          · refine ci_T.step cb_X2_lowestNextTo_57 (ci_sq (pe_push pc_1) rfl) ?_
            exact ci_T.sub [1, 2, 3, 4, 0] (J62 _ _ _ _ _ h) rfl
set_option maxRecDepth 100000 in
theorem s_X2_lowestNextTo (d : Nat) (q : Nat) (hq : isF q) {ρ : pm} (o : pm) {l1 : Int} {rv : Int} (h : f_X2_lowestNextTo q l1 ρ = some rv) : ci_Met (d + 1) (yX2_lowestNextTo, cX2_lowestNextTo, 6, (some .int), [], 0, 0) [.ref (q + 1), .int (Int32.ofInt l1)] (pk true ρ o) (pP true rv ρ o) := by
  refine ci_met (by decide) (Nat.le_of_ble_eq_true rfl) ?_ ?_
  · rintro v w' ⟨rfl, rfl⟩
    trivial
  · change ci_T _ _ _ _ _ _ ([(0, .ref (q + 1)), (1, .int (Int32.ofInt l1))], [], pk true ρ o) _
    unfold f_X2_lowestNextTo at h
    refine ci_T.step cb_X2_lowestNextTo_0 (ci_sq (pe_push pc_m1) (ci_sq rfl (ci_sq (pe_push pc_0) rfl))) ?_
    exact ci_T.sub [2, 3, 1, 0] (t_X2_lowestNextTo_4 hq fu _ _ _ h) rfl
/-- X2_trace -/
def L_X2_trace_15 (q : Nat) : Nat → Int → pm → Option pm
  | 0, _, _ => none
  | n + 1, l1, ρ => ck (inR l1) (if l1 < 0 then some ρ else ck (inR (ρ q 3)) (if 25 ≤ (ρ q 3) then some ρ else ck (0 ≤ ρ q 3 ∧ ρ q 3 < 25) (jn (pup ρ (q + 2) (ρ q 3) l1) (fun ρ7 => jn (pup ρ7 q 3 ((ρ7 q 3) + 1)) (fun ρ8 => jn (pup ρ8 q 4 (bor (ρ8 q 4) (bshl 1 l1))) (fun ρ9 => (f_X2_lowestNextTo (q) l1 ρ9).bind (fun v10 => L_X2_trace_15 q n v10 ρ9)))))))
def f_X2_trace (q : Nat) (ρ : pm) : Option pm := jn (pup ρ q 3 0) (fun ρ1 => jn (pup ρ1 q 4 0) (fun ρ2 => jn (ρ2 q 5) (fun x3 => L_X2_trace_15 q fu x3 ρ2)))
set_option maxRecDepth 100000 in
theorem t_X2_trace_15 {d : Nat} {q : Nat} (hq : isF q)  {o : pm} {rρ : pm}   : ∀ (n : Nat) (l1 : Int) (ρ : pm), L_X2_trace_15 q n l1 ρ = some rρ → ci_T yX2_trace cX2_trace 2 none (d + 2) 15 ([(0, .ref (q + 1)), (1, .int (Int32.ofInt l1))], [], pk true ρ o) (pV true rρ o) := by
  intro n
  induction n with
  | zero =>
    intro l1 ρ h
    rw [L_X2_trace_15] at h
    cases h
  | succ n ih =>
    intro l1 ρ h
    rw [L_X2_trace_15] at h
    obtain ⟨h4, h⟩ := ck_some h
    refine ci_T.step cb_X2_trace_15 (ci_sq rfl (pe_if_lt h4)) ?_
    refine pbr h (fun hc h => ?_) (fun hc h => ?_)
    · cases h
      exact ci_T.done (v := none) cd_X2_trace_69 ⟨rfl, rfl⟩
    · obtain ⟨h5, h⟩ := ck_some h
      refine ci_T.step cb_X2_trace_19 (ci_sq rfl (ci_sq (pe_getI (kI := 3) hq.1 hq.2.2.2.1 rfl rfl) (ci_sq (pe_push pc_25) (pe_ic_ge h5 pR_25)))) ?_
      refine pbr h (fun hc h => ?_) (fun hc h => ?_)
      · cases h
        exact ci_T.done (v := none) cd_X2_trace_69 ⟨rfl, rfl⟩
      · obtain ⟨h6, h⟩ := ck_some h
        replace h := jn_some h
        replace h := jn_some h
        replace h := jn_some h
        refine ci_T.step cb_X2_trace_28 (ci_sq rfl (ci_sq (pe_getR hq.1 hq.2.2.2.1 rfl) (ci_sq rfl (ci_sq (pe_getI (kI := 3) hq.1 hq.2.2.2.1 rfl rfl) (ci_sq rfl (ci_sq (pe_ast (nI := 25) hq.2.2.1 hq.2.2.2.2.2 rfl h6 rfl) (ci_sq rfl (ci_sq rfl (ci_sq (pe_getI (kI := 3) hq.1 hq.2.2.2.1 rfl rfl) (ci_sq (pe_push pc_1) (ci_sq pe_iadd (ci_sq (pe_putI (kI := 3) hq.1 hq.2.2.2.1 rfl rfl) (ci_sq rfl (ci_sq rfl (ci_sq (pe_getI (kI := 4) hq.1 hq.2.2.2.1 rfl rfl) (ci_sq (pe_push pc_1) (ci_sq rfl (ci_sq pe_ishl (ci_sq pe_ior (ci_sq (pe_putI (kI := 4) hq.1 hq.2.2.2.1 rfl rfl) (ci_sq rfl rfl))))))))))))))))))))) ?_
        obtain ⟨v10, hv, h⟩ := bn_some h
        refine ci_T.call (as := [_, _]) (rest := []) kc_X2_lowestNextTo ki_X2_lowestNextTo (by decide) cl_X2_trace_62 rfl (Nat.le_of_ble_eq_true rfl) ⟨⟨_, rfl⟩, _, _, _, rfl, pk_obj hq.1 hq.2.2.2.1 _ _⟩ (s_X2_lowestNextTo d (q) hq o hv) ?_
        rintro _ _ ⟨rfl, rfl⟩
        clear hv
        refine ci_T.step cb_X2_trace_65 (ci_sq rfl rfl) ?_
        exact ci_T.sub [1, 0] (ih _ _ h) rfl
set_option maxRecDepth 100000 in
theorem s_X2_trace (d : Nat) (q : Nat) (hq : isF q) {ρ : pm} (o : pm)  {rρ : pm} (h : f_X2_trace q ρ = some rρ) : ci_Met (d + 2) (yX2_trace, cX2_trace, 2, none, [], 0, 0) [.ref (q + 1)] (pk true ρ o) (pV true rρ o) := by
  refine ci_met (by decide) (Nat.le_of_ble_eq_true rfl) ?_ ?_
  · rintro v w' ⟨rfl, rfl⟩
    trivial
  · change ci_T _ _ _ _ _ _ ([(0, .ref (q + 1))], [], pk true ρ o) _
    unfold f_X2_trace at h
    replace h := jn_some h
    replace h := jn_some h
    replace h := jn_some h
    refine ci_T.step cb_X2_trace_0 (ci_sq rfl (ci_sq (pe_push pc_0) (ci_sq (pe_putI (kI := 3) hq.1 hq.2.2.2.1 rfl rfl) (ci_sq rfl (ci_sq (pe_push pc_0) (ci_sq (pe_putI (kI := 4) hq.1 hq.2.2.2.1 rfl rfl) (ci_sq rfl (ci_sq (pe_getI (kI := 5) hq.1 hq.2.2.2.1 rfl rfl) rfl)))))))) ?_
    exact ci_T.sub [1, 0] (t_X2_trace_15 hq fu _ _ h) rfl
/-- X1_settle -/
def f_X1_settle (ρ : pm) : Option pm := jn (pup ρ 1 2 (ρ 52 4)) (fun ρ1 => jn (pup ρ1 1 3 (ρ1 52 5)) (fun ρ2 => jn (pup ρ2 1 4 (ρ2 52 8)) (fun ρ3 => jn (pcp ρ3 55 0 2 0 3) (fun ρ4 => (f_X3_join ρ4).bind (fun ρ5 => jn (pcp ρ5 56 0 5 0 3) (fun ρ6 => jn (pup ρ6 4 4 0) (fun ρ7 => jn (pup ρ7 4 5 0) (fun ρ8 => jn (pup ρ8 4 6 0) (fun ρ9 => (f_X1_raise ρ9).bind (fun ρ10 => jn (pup ρ10 8 5 (ρ10 52 6)) (fun ρ11 => jn (pup ρ11 8 6 (ρ11 52 7)) (fun ρ12 => jn (fun (s1 : Int) (ρ : pm) => ck (s1 = 0 ∨ s1 = 1) (jn (pup ρ 8 7 s1) (fun ρ14 => (f_X2_trace 8 ρ14).bind (fun ρ15 => some ρ15)))) (fun j123 => if (band (ρ12 52 9) 8) = 0 then j123 0 ρ12 else j123 1 ρ12)))))))))))))
set_option maxRecDepth 100000 in
theorem s_X1_settle (d : Nat)   {ρ : pm} (o : pm)  {rρ : pm} (h : f_X1_settle ρ = some rρ) : ci_Met (d + 3) (yX1_settle, cX1_settle, 3, none, [], 0, 0) [.ref 53, .ref 2, .ref 5] (pk true ρ o) (pV true rρ o) := by
  refine ci_met (by decide) (Nat.le_of_ble_eq_true rfl) ?_ ?_
  · rintro v w' ⟨rfl, rfl⟩
    trivial
  · change ci_T _ _ _ _ _ _ ([(0, .ref 53), (1, .ref 2), (2, .ref 5)], [], pk true ρ o) _
    unfold f_X1_settle at h
    replace h := jn_some h
    replace h := jn_some h
    replace h := jn_some h
    replace h := jn_some h
    refine ci_T.step cb_X1_settle_0 (ci_sq rfl (ci_sq rfl (ci_sq (pe_getI (kI := 4) tq_52 rfl rfl rfl) (ci_sq (pe_putI (kI := 2) tq_1 rfl rfl rfl) (ci_sq rfl (ci_sq rfl (ci_sq (pe_getI (kI := 5) tq_52 rfl rfl rfl) (ci_sq (pe_putI (kI := 3) tq_1 rfl rfl rfl) (ci_sq rfl (ci_sq rfl (ci_sq (pe_getI (kI := 8) tq_52 rfl rfl rfl) (ci_sq (pe_putI (kI := 4) tq_1 rfl rfl rfl) (ci_sq rfl (ci_sq (pe_getR tq_52 rfl rfl) (ci_sq (pe_push pc_0) (ci_sq rfl (ci_sq (pe_getR tq_1 rfl rfl) (ci_sq (pe_push pc_0) (ci_sq (pe_push pc_3) (ci_sq (pe_copy (N0 := 3) (N1 := 3) tq_55 tq_2 rfl rfl rfl rfl ⟨by decide, by decide, by decide, by decide, by decide⟩ (Nat.le_of_ble_eq_true rfl)) rfl)))))))))))))))))))) ?_
    obtain ⟨ρ5, hv, h⟩ := bn_some h
    refine ci_T.call (as := [_]) (rest := []) kc_X3_join ki_X3_join (by decide) cl_X1_settle_39 rfl (Nat.le_of_ble_eq_true rfl) ⟨⟨_, rfl⟩, _, _, _, rfl, pk_obj tq_1 rfl _ _⟩ (s_X3_join (d + 2) o hv) ?_
    rintro _ _ ⟨rfl, rfl⟩
    clear hv
    replace h := jn_some h
    replace h := jn_some h
    replace h := jn_some h
    replace h := jn_some h
    refine ci_T.step cb_X1_settle_42 (ci_sq rfl (ci_sq (pe_getR tq_52 rfl rfl) (ci_sq (pe_push pc_0) (ci_sq rfl (ci_sq (pe_getR tq_4 rfl rfl) (ci_sq (pe_push pc_0) (ci_sq (pe_push pc_3) (ci_sq (pe_copy (N0 := 3) (N1 := 3) tq_56 tq_5 rfl rfl rfl rfl ⟨by decide, by decide, by decide, by decide, by decide⟩ (Nat.le_of_ble_eq_true rfl)) (ci_sq rfl (ci_sq (pe_push pc_0) (ci_sq (pe_putI (kI := 4) tq_4 rfl rfl rfl) (ci_sq rfl (ci_sq (pe_push pc_0) (ci_sq (pe_putI (kI := 5) tq_4 rfl rfl rfl) (ci_sq rfl (ci_sq (pe_push pc_0) (ci_sq (pe_putI (kI := 6) tq_4 rfl rfl rfl) (ci_sq rfl (ci_sq rfl (ci_sq (pe_getR tq_4 rfl rfl) (pe_getR tq_8 rfl rfl))))))))))))))))))))) ?_
    obtain ⟨ρ10, hv, h⟩ := bn_some h
    refine ci_T.call (as := [_, _]) (rest := []) kc_X1_raise ki_X1_raise (by decide) cl_X1_settle_79 rfl (Nat.le_of_ble_eq_true rfl) ⟨⟨_, rfl⟩, _, _, _, rfl, pk_obj tq_52 rfl _ _⟩ (s_X1_raise (d + 1) o hv) ?_
    rintro _ _ ⟨rfl, rfl⟩
    clear hv
    replace h := jn_some h
    replace h := jn_some h
    refine ci_T.step cb_X1_settle_82 (ci_sq rfl (ci_sq (pe_getR tq_4 rfl rfl) (ci_sq rfl (ci_sq (pe_getI (kI := 6) tq_52 rfl rfl rfl) (ci_sq (pe_putI (kI := 5) tq_8 rfl rfl rfl) (ci_sq rfl (ci_sq (pe_getR tq_4 rfl rfl) (ci_sq rfl (ci_sq (pe_getI (kI := 7) tq_52 rfl rfl rfl) (ci_sq (pe_putI (kI := 6) tq_8 rfl rfl rfl) (ci_sq rfl (ci_sq (pe_getR tq_4 rfl rfl) (ci_sq rfl (ci_sq (pe_getI (kI := 9) tq_52 rfl rfl rfl) (ci_sq (pe_push pc_8) (ci_sq pe_iand (pe_if_eq (band_R _ _)))))))))))))))))) ?_
    obtain ⟨j123, hj, h⟩ := jn_ex h
    have J123 : ∀ (s1 : Int) (ρ : pm), j123 s1 ρ = some rρ → ci_T yX1_settle cX1_settle 3 none (d + 3) 123 ([(2, .ref 5)], [.int (Int32.ofInt s1), .ref 9], pk true ρ o) (pV true rρ o) := by
      intro s1 ρ h
      subst hj
      obtain ⟨h13, h⟩ := ck_some h
      replace h := jn_some h
      refine ci_T.step cb_X1_settle_123 (ci_sq (pe_putZ (kI := 7) tq_8 rfl rfl rfl h13) (ci_sq rfl (pe_getR tq_4 rfl rfl))) ?_
      obtain ⟨ρ15, hv, h⟩ := bn_some h
      refine ci_T.call (as := [_]) (rest := []) kc_X2_trace ki_X2_trace (by decide) cl_X1_settle_130 rfl (Nat.le_of_ble_eq_true rfl) ⟨⟨_, rfl⟩, _, _, _, rfl, pk_obj tq_8 rfl _ _⟩ (s_X2_trace d 8 iF_8 o hv) ?_
      rintro _ _ ⟨rfl, rfl⟩
      clear hv
      cases h
      exact ci_T.done (v := none) cd_X1_settle_133 ⟨rfl, rfl⟩
    clear hj
    refine pbr h (fun hc h => ?_) (fun hc h => ?_)
    · refine ci_T.step cb_X1_settle_122 (pe_push pc_0) ?_
      exact ci_T.sub [2] (J123 _ _ h) rfl
    · refine ci_T.step cb_X1_settle_118 (ci_sq (pe_push pc_1) rfl) ?_
      exact ci_T.sub [2] (J123 _ _ h) rfl
/-- X8_fault -/
def f_X8_fault (ρ : pm) : Option Int := some (ρ 0 12)
set_option maxRecDepth 100000 in
theorem s_X8_fault (d : Nat)   {ρ : pm} (o : pm)  {rv : Int} (h : f_X8_fault ρ = some rv) : ci_Met d (yX8_fault, cX8_fault, 1, (some .int), [], 0, 0) [.ref 1] (pk true ρ o) (pP true rv ρ o) := by
  refine ci_met (by decide) (Nat.le_of_ble_eq_true rfl) ?_ ?_
  · rintro v w' ⟨rfl, rfl⟩
    trivial
  · change ci_T _ _ _ _ _ _ ([(0, .ref 1)], [], pk true ρ o) _
    unfold f_X8_fault at h
    refine ci_T.step cb_X8_fault_0 (ci_sq rfl (pe_getI (kI := 12) tq_0 rfl rfl rfl)) ?_
    cases h
    exact ci_T.done (v := some (.int _)) cd_X8_fault_4 ⟨rfl, rfl⟩
/-- X8_rule -/
def f_X8_rule (l1 : Int) (ρ : pm) : Option Int := ck (inR l1) (if l1 = 0 then some (ρ 1 2) else if l1 = 1 then some (ρ 1 3) else if l1 = 2 then some (ρ 8 5) else if l1 = 3 then some (ρ 1 4) else if l1 = 4 then some (ρ 8 6) else if l1 = 5 then ck (inR (ρ 8 7)) (if (ρ 8 7) = 0 then some 0 else some 1) else if l1 = 6 then some (ρ 4 4) else some (-1))
set_option maxRecDepth 100000 in
theorem s_X8_rule (d : Nat)   {ρ : pm} (o : pm) {l1 : Int} {rv : Int} (h : f_X8_rule l1 ρ = some rv) : ci_Met d (yX8_rule, cX8_rule, 2, (some .int), [], 0, 0) [.ref 1, .int (Int32.ofInt l1)] (pk true ρ o) (pP true rv ρ o) := by
  refine ci_met (by decide) (Nat.le_of_ble_eq_true rfl) ?_ ?_
  · rintro v w' ⟨rfl, rfl⟩
    trivial
  · change ci_T _ _ _ _ _ _ ([(0, .ref 1), (1, .int (Int32.ofInt l1))], [], pk true ρ o) _
    unfold f_X8_rule at h
    obtain ⟨h1, h⟩ := ck_some h
    refine ci_T.step cb_X8_rule_0 (ci_sq rfl (pe_tsw h1 rfl)) ?_
    refine pite h (fun hc2 h => ?_) (fun hc2 h => ?_)
    · refine tsw_T hc2 rfl ?_
      refine ci_T.step cb_X8_rule_44 (ci_sq rfl (ci_sq (pe_getR tq_0 rfl rfl) (pe_getI (kI := 2) tq_1 rfl rfl rfl))) ?_
      cases h
      exact ci_T.done (v := some (.int _)) cd_X8_rule_51 ⟨rfl, rfl⟩
    refine pite h (fun hc3 h => ?_) (fun hc3 h => ?_)
    · refine tsw_T hc3 rfl ?_
      refine ci_T.step cb_X8_rule_52 (ci_sq rfl (ci_sq (pe_getR tq_0 rfl rfl) (pe_getI (kI := 3) tq_1 rfl rfl rfl))) ?_
      cases h
      exact ci_T.done (v := some (.int _)) cd_X8_rule_59 ⟨rfl, rfl⟩
    refine pite h (fun hc4 h => ?_) (fun hc4 h => ?_)
    · refine tsw_T hc4 rfl ?_
      refine ci_T.step cb_X8_rule_60 (ci_sq rfl (ci_sq (pe_getR tq_0 rfl rfl) (ci_sq (pe_getR tq_4 rfl rfl) (pe_getI (kI := 5) tq_8 rfl rfl rfl)))) ?_
      cases h
      exact ci_T.done (v := some (.int _)) cd_X8_rule_70 ⟨rfl, rfl⟩
    refine pite h (fun hc5 h => ?_) (fun hc5 h => ?_)
    · refine tsw_T hc5 rfl ?_
      refine ci_T.step cb_X8_rule_71 (ci_sq rfl (ci_sq (pe_getR tq_0 rfl rfl) (pe_getI (kI := 4) tq_1 rfl rfl rfl))) ?_
      cases h
      exact ci_T.done (v := some (.int _)) cd_X8_rule_78 ⟨rfl, rfl⟩
    refine pite h (fun hc6 h => ?_) (fun hc6 h => ?_)
    · refine tsw_T hc6 rfl ?_
      refine ci_T.step cb_X8_rule_79 (ci_sq rfl (ci_sq (pe_getR tq_0 rfl rfl) (ci_sq (pe_getR tq_4 rfl rfl) (pe_getI (kI := 6) tq_8 rfl rfl rfl)))) ?_
      cases h
      exact ci_T.done (v := some (.int _)) cd_X8_rule_89 ⟨rfl, rfl⟩
    refine pite h (fun hc8 h => ?_) (fun hc8 h => ?_)
    · refine tsw_T hc8 rfl ?_
      obtain ⟨h7, h⟩ := ck_some h
      refine ci_T.step cb_X8_rule_90 (ci_sq rfl (ci_sq (pe_getR tq_0 rfl rfl) (ci_sq (pe_getR tq_4 rfl rfl) (ci_sq (pe_getI (kI := 7) tq_8 rfl rfl rfl) (pe_if_eq h7))))) ?_
      refine pbr h (fun hc h => ?_) (fun hc h => ?_)
      · refine ci_T.step cb_X8_rule_107 (pe_push pc_0) ?_
        cases h
        exact ci_T.done (v := some (.int _)) cd_X8_rule_108 ⟨rfl, rfl⟩
      · refine ci_T.step cb_X8_rule_103 (ci_sq (pe_push pc_1) rfl) ?_
        cases h
        exact ci_T.done (v := some (.int _)) cd_X8_rule_108 ⟨rfl, rfl⟩
    refine pite h (fun hc9 h => ?_) (fun hc9 h => ?_)
    · refine tsw_T hc9 rfl ?_
      refine ci_T.step cb_X8_rule_109 (ci_sq rfl (ci_sq (pe_getR tq_0 rfl rfl) (pe_getI (kI := 4) tq_4 rfl rfl rfl))) ?_
      cases h
      exact ci_T.done (v := some (.int _)) cd_X8_rule_116 ⟨rfl, rfl⟩
    refine tsw_D (hi := 6) rfl (by omega) ?_
    refine ci_T.step cb_X8_rule_117 (pe_push pc_m1) ?_
    cases h
    exact ci_T.done (v := some (.int _)) cd_X8_rule_118 ⟨rfl, rfl⟩
/-- X3_hasCell -/
def f_X3_hasCell (l1 : Int) (ρ : pm) : Option Int := ck (inR l1) (if l1 < 0 then some 0 else ck (inR ((ρ 1 2) * (ρ 1 3))) (if ((ρ 1 2) * (ρ 1 3)) ≤ l1 then some 0 else some 1))
set_option maxRecDepth 100000 in
theorem s_X3_hasCell (d : Nat)   {ρ : pm} (o : pm) {l1 : Int} {rv : Int} (h : f_X3_hasCell l1 ρ = some rv) : ci_Met d (yX3_hasCell, cX3_hasCell, 2, (some .boolean), [], 0, 0) [.ref 2, .int (Int32.ofInt l1)] (pk true ρ o) (pZ true rv ρ o) := by
  refine ci_met (by decide) (Nat.le_of_ble_eq_true rfl) ?_ ?_
  · rintro v w' ⟨⟨rfl, rfl⟩, hz⟩
    exact Z_of hz
  · change ci_T _ _ _ _ _ _ ([(0, .ref 2), (1, .int (Int32.ofInt l1))], [], pk true ρ o) _
    unfold f_X3_hasCell at h
    obtain ⟨h1, h⟩ := ck_some h
    refine ci_T.step cb_X3_hasCell_0 (ci_sq rfl (pe_if_lt h1)) ?_
    refine pbr h (fun hc h => ?_) (fun hc h => ?_)
    · refine ci_T.step cb_X3_hasCell_21 (pe_push pc_0) ?_
      cases h
      exact ci_T.done (v := some (.int _)) cd_X3_hasCell_22 ⟨⟨rfl, rfl⟩, (Or.inl rfl)⟩
    · obtain ⟨h2, h⟩ := ck_some h
      refine ci_T.step cb_X3_hasCell_4 (ci_sq rfl (ci_sq rfl (ci_sq (pe_getI (kI := 2) tq_1 rfl rfl rfl) (ci_sq rfl (ci_sq (pe_getI (kI := 3) tq_1 rfl rfl rfl) (ci_sq pe_imul (pe_ic_ge h1 h2))))))) ?_
      refine pbr h (fun hc h => ?_) (fun hc h => ?_)
      · refine ci_T.step cb_X3_hasCell_21 (pe_push pc_0) ?_
        cases h
        exact ci_T.done (v := some (.int _)) cd_X3_hasCell_22 ⟨⟨rfl, rfl⟩, (Or.inl rfl)⟩
      · refine ci_T.step cb_X3_hasCell_17 (ci_sq (pe_push pc_1) rfl) ?_
        cases h
        exact ci_T.done (v := some (.int _)) cd_X3_hasCell_22 ⟨⟨rfl, rfl⟩, (Or.inr rfl)⟩
/-- X3_ownerOf -/
def L_X3_ownerOf_2 (ρ : pm) : Nat → Int → Int → Option Int
  | 0, _, _ => none
  | n + 1, l1, l2 => ck (inR l2) (ck (inR (ρ 1 4)) (if (ρ 1 4) ≤ l2 then some (-4) else ck (0 ≤ l2 ∧ l2 < 3) ((f_X8_has (ρ 2 l2) l1).bind (fun v4 => if v4 = 0 then jn (l2 + 1) (fun x6 => L_X3_ownerOf_2 ρ n l1 x6) else some l2))))
def f_X3_ownerOf (l1 : Int) (ρ : pm) : Option Int := L_X3_ownerOf_2 ρ fu l1 0
set_option maxRecDepth 100000 in
theorem t_X3_ownerOf_2 {d : Nat}   {ρ : pm} {o : pm} {rv : Int}   : ∀ (n : Nat) (l1 l2 : Int), L_X3_ownerOf_2 ρ n l1 l2 = some rv → ci_T yX3_ownerOf cX3_ownerOf 3 (some .int) (d + 1) 2 ([(0, .ref 2), (1, .int (Int32.ofInt l1)), (2, .int (Int32.ofInt l2))], [], pk true ρ o) (pP true rv ρ o) := by
  intro n
  induction n with
  | zero =>
    intro l1 l2 h
    rw [L_X3_ownerOf_2] at h
    cases h
  | succ n ih =>
    intro l1 l2 h
    rw [L_X3_ownerOf_2] at h
    obtain ⟨h1, h⟩ := ck_some h
    obtain ⟨h2, h⟩ := ck_some h
    refine ci_T.step cb_X3_ownerOf_2 (ci_sq rfl (ci_sq rfl (ci_sq (pe_getI (kI := 4) tq_1 rfl rfl rfl) (pe_ic_ge h1 h2)))) ?_
    refine pbr h (fun hc h => ?_) (fun hc h => ?_)
    · refine ci_T.step cb_X3_ownerOf_31 (pe_push pc_m4) ?_
      cases h
      exact ci_T.done (v := some (.int _)) cd_X3_ownerOf_33 ⟨rfl, rfl⟩
    · obtain ⟨h3, h⟩ := ck_some h
      refine ci_T.step cb_X3_ownerOf_10 (ci_sq rfl (ci_sq (pe_getR tq_1 rfl rfl) (ci_sq rfl (ci_sq (pe_ald (nI := 3) tq_2 rfl rfl h3) rfl)))) ?_
      obtain ⟨v4, hv, h⟩ := bn_some h
      refine ci_T.call (as := [_, _]) (rest := []) kc_X8_has ki_X8_has (by decide) cl_X3_ownerOf_17 rfl (Nat.le_of_ble_eq_true rfl) trivial (s_X8_has d o hv) ?_
      rintro _ _ ⟨⟨rfl, rfl⟩, hz5⟩
      clear hv
      refine ci_T.step cb_X3_ownerOf_20 (pe_if_eq (Z_R hz5)) ?_
      refine pbr h (fun hc h => ?_) (fun hc h => ?_)
      · replace h := jn_some h
        refine ci_T.step cb_X3_ownerOf_25 (ci_sq (pe_inc rfl) rfl) ?_
        exact ci_T.sub [1, 2, 0] (ih _ _ h) rfl
      · refine ci_T.step cb_X3_ownerOf_23 rfl ?_
        cases h
        exact ci_T.done (v := some (.int _)) cd_X3_ownerOf_24 ⟨rfl, rfl⟩
set_option maxRecDepth 100000 in
theorem s_X3_ownerOf (d : Nat)   {ρ : pm} (o : pm) {l1 : Int} {rv : Int} (h : f_X3_ownerOf l1 ρ = some rv) : ci_Met (d + 1) (yX3_ownerOf, cX3_ownerOf, 3, (some .int), [], 0, 0) [.ref 2, .int (Int32.ofInt l1)] (pk true ρ o) (pP true rv ρ o) := by
  refine ci_met (by decide) (Nat.le_of_ble_eq_true rfl) ?_ ?_
  · rintro v w' ⟨rfl, rfl⟩
    trivial
  · change ci_T _ _ _ _ _ _ ([(0, .ref 2), (1, .int (Int32.ofInt l1))], [], pk true ρ o) _
    unfold f_X3_ownerOf at h
    refine ci_T.step cb_X3_ownerOf_0 (ci_sq (pe_push pc_0) rfl) ?_
    exact ci_T.sub [1, 2, 0] (t_X3_ownerOf_2 fu _ _ h) rfl
/-- X8_cell -/
def f_X8_cell (l1 l2 : Int) (ρ : pm) : Option Int := (f_X3_hasCell l1 ρ).bind (fun v1 => if v1 = 0 then some (-1) else ck (inR l2) (if l2 < 0 then some (-1) else if l2 ≤ 1 then if l2 = 0 then ck (0 ≤ l1 ∧ l1 < 25) (some (ρ 9 l1)) else (f_X3_ownerOf l1 ρ).bind (fun v4 => some v4) else some (-1)))
set_option maxRecDepth 100000 in
theorem s_X8_cell (d : Nat)   {ρ : pm} (o : pm) {l1 l2 : Int} {rv : Int} (h : f_X8_cell l1 l2 ρ = some rv) : ci_Met (d + 2) (yX8_cell, cX8_cell, 3, (some .int), [], 0, 0) [.ref 1, .int (Int32.ofInt l1), .int (Int32.ofInt l2)] (pk true ρ o) (pP true rv ρ o) := by
  refine ci_met (by decide) (Nat.le_of_ble_eq_true rfl) ?_ ?_
  · rintro v w' ⟨rfl, rfl⟩
    trivial
  · change ci_T _ _ _ _ _ _ ([(0, .ref 1), (1, .int (Int32.ofInt l1)), (2, .int (Int32.ofInt l2))], [], pk true ρ o) _
    unfold f_X8_cell at h
    refine ci_T.step cb_X8_cell_0 (ci_sq rfl (ci_sq (pe_getR tq_0 rfl rfl) rfl)) ?_
    obtain ⟨v1, hv, h⟩ := bn_some h
    refine ci_T.call (as := [_, _]) (rest := []) kc_X3_hasCell ki_X3_hasCell (by decide) cl_X8_cell_5 rfl (Nat.le_of_ble_eq_true rfl) ⟨⟨_, rfl⟩, _, _, _, rfl, pk_obj tq_1 rfl _ _⟩ (s_X3_hasCell (d + 1) o hv) ?_
    rintro _ _ ⟨⟨rfl, rfl⟩, hz2⟩
    clear hv
    refine ci_T.step cb_X8_cell_8 (pe_if_eq (Z_R hz2)) ?_
    refine pbr h (fun hc h => ?_) (fun hc h => ?_)
    · refine ci_T.step cb_X8_cell_20 (pe_push pc_m1) ?_
      cases h
      exact ci_T.done (v := some (.int _)) cd_X8_cell_21 ⟨rfl, rfl⟩
    · obtain ⟨h3, h⟩ := ck_some h
      refine ci_T.step cb_X8_cell_11 (ci_sq rfl (pe_if_lt h3)) ?_
      refine pbr h (fun hc h => ?_) (fun hc h => ?_)
      · refine ci_T.step cb_X8_cell_20 (pe_push pc_m1) ?_
        cases h
        exact ci_T.done (v := some (.int _)) cd_X8_cell_21 ⟨rfl, rfl⟩
      · refine ci_T.step cb_X8_cell_15 (ci_sq rfl (ci_sq (pe_push pc_1) (pe_ic_le h3 pR_1))) ?_
        refine pbr h (fun hc h => ?_) (fun hc h => ?_)
        · refine ci_T.step cb_X8_cell_22 (ci_sq rfl (pe_if_ne h3)) ?_
          refine pbrn h (fun hc h => ?_) (fun hc h => ?_)
          · refine ci_T.step cb_X8_cell_41 (ci_sq rfl (ci_sq (pe_getR tq_0 rfl rfl) rfl)) ?_
            obtain ⟨v4, hv, h⟩ := bn_some h
            refine ci_T.call (as := [_, _]) (rest := []) kc_X3_ownerOf ki_X3_ownerOf (by decide) cl_X8_cell_46 rfl (Nat.le_of_ble_eq_true rfl) ⟨⟨_, rfl⟩, _, _, _, rfl, pk_obj tq_1 rfl _ _⟩ (s_X3_ownerOf d o hv) ?_
            rintro _ _ ⟨rfl, rfl⟩
            clear hv
            cases h
            exact ci_T.done (v := some (.int _)) cd_X8_cell_49 ⟨rfl, rfl⟩
          · obtain ⟨h5, h⟩ := ck_some h
            refine ci_T.step cb_X8_cell_26 (ci_sq rfl (ci_sq (pe_getR tq_0 rfl rfl) (ci_sq (pe_getR tq_4 rfl rfl) (ci_sq (pe_getR tq_8 rfl rfl) (ci_sq rfl (ci_sq (pe_ald (nI := 25) tq_9 rfl rfl h5) rfl)))))) ?_
            cases h
            exact ci_T.done (v := some (.int _)) cd_X8_cell_49 ⟨rfl, rfl⟩
        · refine ci_T.step cb_X8_cell_20 (pe_push pc_m1) ?_
          cases h
          exact ci_T.done (v := some (.int _)) cd_X8_cell_21 ⟨rfl, rfl⟩
/-- X3_hasFarm -/
def f_X3_hasFarm (l1 : Int) (ρ : pm) : Option Int := ck (inR l1) (if l1 < 0 then some 0 else ck (inR (ρ 1 4)) (if (ρ 1 4) ≤ l1 then some 0 else some 1))
set_option maxRecDepth 100000 in
theorem s_X3_hasFarm (d : Nat)   {ρ : pm} (o : pm) {l1 : Int} {rv : Int} (h : f_X3_hasFarm l1 ρ = some rv) : ci_Met d (yX3_hasFarm, cX3_hasFarm, 2, (some .boolean), [], 0, 0) [.ref 2, .int (Int32.ofInt l1)] (pk true ρ o) (pZ true rv ρ o) := by
  refine ci_met (by decide) (Nat.le_of_ble_eq_true rfl) ?_ ?_
  · rintro v w' ⟨⟨rfl, rfl⟩, hz⟩
    exact Z_of hz
  · change ci_T _ _ _ _ _ _ ([(0, .ref 2), (1, .int (Int32.ofInt l1))], [], pk true ρ o) _
    unfold f_X3_hasFarm at h
    obtain ⟨h1, h⟩ := ck_some h
    refine ci_T.step cb_X3_hasFarm_0 (ci_sq rfl (pe_if_lt h1)) ?_
    refine pbr h (fun hc h => ?_) (fun hc h => ?_)
    · refine ci_T.step cb_X3_hasFarm_16 (pe_push pc_0) ?_
      cases h
      exact ci_T.done (v := some (.int _)) cd_X3_hasFarm_17 ⟨⟨rfl, rfl⟩, (Or.inl rfl)⟩
    · obtain ⟨h2, h⟩ := ck_some h
      refine ci_T.step cb_X3_hasFarm_4 (ci_sq rfl (ci_sq rfl (ci_sq (pe_getI (kI := 4) tq_1 rfl rfl rfl) (pe_ic_ge h1 h2)))) ?_
      refine pbr h (fun hc h => ?_) (fun hc h => ?_)
      · refine ci_T.step cb_X3_hasFarm_16 (pe_push pc_0) ?_
        cases h
        exact ci_T.done (v := some (.int _)) cd_X3_hasFarm_17 ⟨⟨rfl, rfl⟩, (Or.inl rfl)⟩
      · refine ci_T.step cb_X3_hasFarm_12 (ci_sq (pe_push pc_1) rfl) ?_
        cases h
        exact ci_T.done (v := some (.int _)) cd_X3_hasFarm_17 ⟨⟨rfl, rfl⟩, (Or.inr rfl)⟩
/-- J6_bitCount -/
def f_J6_bitCount (l0 : Int) : Option Int := jn (l0 - (band (bushr l0 1) 1431655765)) (fun x1 => jn ((band x1 858993459) + (band (bushr x1 2) 858993459)) (fun x2 => jn (band (x2 + (bushr x2 4)) 252645135) (fun x3 => jn (x3 + (bushr x3 8)) (fun x4 => jn (x4 + (bushr x4 16)) (fun x5 => some (band x5 63))))))
set_option maxRecDepth 100000 in
theorem s_J6_bitCount (d : Nat)   {ρ : pm} (o : pm) {l0 : Int} {rv : Int} (h : f_J6_bitCount l0 = some rv) : ci_Met d (yJ6_bitCount_0f7a4, cJ6_bitCount_0f7a4, 1, (some .int), [], 0, 0) [.int (Int32.ofInt l0)] (pk true ρ o) (pP true rv ρ o) := by
  refine ci_met (by decide) (Nat.le_of_ble_eq_true rfl) ?_ ?_
  · rintro v w' ⟨rfl, rfl⟩
    trivial
  · change ci_T _ _ _ _ _ _ ([(0, .int (Int32.ofInt l0))], [], pk true ρ o) _
    unfold f_J6_bitCount at h
    replace h := jn_some h
    replace h := jn_some h
    replace h := jn_some h
    replace h := jn_some h
    replace h := jn_some h
    refine ci_T.step cb_J6_bitCount_0f7a4_0 (ci_sq rfl (ci_sq rfl (ci_sq (pe_push pc_1) (ci_sq pe_iushr (ci_sq (pe_push pc_1431655765) (ci_sq pe_iand (ci_sq pe_isub (ci_sq rfl (ci_sq rfl (ci_sq (pe_push pc_858993459) (ci_sq pe_iand (ci_sq rfl (ci_sq (pe_push pc_2) (ci_sq pe_iushr (ci_sq (pe_push pc_858993459) (ci_sq pe_iand (ci_sq pe_iadd (ci_sq rfl (ci_sq rfl (ci_sq rfl (ci_sq (pe_push pc_4) (ci_sq pe_iushr (ci_sq pe_iadd (ci_sq (pe_push pc_252645135) (ci_sq pe_iand (ci_sq rfl (ci_sq rfl (ci_sq rfl (ci_sq (pe_push pc_8) (ci_sq pe_iushr (ci_sq pe_iadd (ci_sq rfl (ci_sq rfl (ci_sq rfl (ci_sq (pe_push pc_16) (ci_sq pe_iushr (ci_sq pe_iadd (ci_sq rfl (ci_sq rfl (ci_sq (pe_push pc_63) pe_iand)))))))))))))))))))))))))))))))))))))))) ?_
    cases h
    exact ci_T.done (v := some (.int _)) cd_J6_bitCount_0f7a4_52 ⟨rfl, rfl⟩
/-- X7_gain -/
def f_X7_gain (l1 l2 : Int) (ρ : pm) : Option Int := (f_X3_hasFarm l1 ρ).bind (fun v1 => if v1 = 0 then some 0 else ck (0 ≤ l1 ∧ l1 < 3) ((f_J6_bitCount (band (ρ 2 l1) l2)).bind (fun v4 => some ((ρ 5 l1) * v4))))
set_option maxRecDepth 100000 in
theorem s_X7_gain (d : Nat)   {ρ : pm} (o : pm) {l1 l2 : Int} {rv : Int} (h : f_X7_gain l1 l2 ρ = some rv) : ci_Met (d + 1) (yX7_gain, cX7_gain, 3, (some .int), [], 0, 0) [.ref 5, .int (Int32.ofInt l1), .int (Int32.ofInt l2)] (pk true ρ o) (pP true rv ρ o) := by
  refine ci_met (by decide) (Nat.le_of_ble_eq_true rfl) ?_ ?_
  · rintro v w' ⟨rfl, rfl⟩
    trivial
  · change ci_T _ _ _ _ _ _ ([(0, .ref 5), (1, .int (Int32.ofInt l1)), (2, .int (Int32.ofInt l2))], [], pk true ρ o) _
    unfold f_X7_gain at h
    refine ci_T.step cb_X7_gain_0 (ci_sq rfl (ci_sq (pe_getR tq_4 rfl rfl) (ci_sq (pe_getR tq_8 rfl rfl) rfl))) ?_
    obtain ⟨v1, hv, h⟩ := bn_some h
    refine ci_T.call (as := [_, _]) (rest := []) kc_X3_hasFarm ki_X3_hasFarm (by decide) cl_X7_gain_8 rfl (Nat.le_of_ble_eq_true rfl) ⟨⟨_, rfl⟩, _, _, _, rfl, pk_obj tq_1 rfl _ _⟩ (s_X3_hasFarm d o hv) ?_
    rintro _ _ ⟨⟨rfl, rfl⟩, hz2⟩
    clear hv
    refine ci_T.step cb_X7_gain_11 (pe_if_ne (Z_R hz2)) ?_
    refine pbrn h (fun hc h => ?_) (fun hc h => ?_)
    · obtain ⟨h3, h⟩ := ck_some h
      refine ci_T.step cb_X7_gain_16 (ci_sq rfl (ci_sq (pe_getR tq_4 rfl rfl) (ci_sq rfl (ci_sq (pe_ald (nI := 3) tq_5 rfl rfl h3) (ci_sq rfl (ci_sq (pe_getR tq_4 rfl rfl) (ci_sq (pe_getR tq_8 rfl rfl) (ci_sq (pe_getR tq_1 rfl rfl) (ci_sq rfl (ci_sq (pe_ald (nI := 3) tq_2 rfl rfl h3) (ci_sq rfl pe_iand))))))))))) ?_
      obtain ⟨v4, hv, h⟩ := bn_some h
      refine ci_T.call (as := [_]) (rest := [_]) kc_J6_bitCount_0f7a4 ki_J6_bitCount_0f7a4 (by decide) cl_X7_gain_36 rfl (Nat.le_of_ble_eq_true rfl) trivial (s_J6_bitCount d o hv) ?_
      rintro _ _ ⟨rfl, rfl⟩
      clear hv
      refine ci_T.step cb_X7_gain_39 pe_imul ?_
      cases h
      exact ci_T.done (v := some (.int _)) cd_X7_gain_40 ⟨rfl, rfl⟩
    · refine ci_T.step cb_X7_gain_14 (pe_push pc_0) ?_
      cases h
      exact ci_T.done (v := some (.int _)) cd_X7_gain_15 ⟨rfl, rfl⟩
/-- X3_beside -/
def L_X3_beside_4 (ρ : pm) : Nat → Int → Int → Int → Option Int
  | 0, _, _, _ => none
  | n + 1, l1, l2, l3 => ck (inR l3) (ck (inR (((ρ 1 2) * (ρ 1 3)) * 4)) (if (((ρ 1 2) * (ρ 1 3)) * 4) ≤ l3 then some l2 else ck (0 ≤ l3 ∧ l3 < 100) (ck (inR (ρ 3 l3)) (jn (fun (l1 l2 l3 : Int) => jn (l3 + 1) (fun x5 => L_X3_beside_4 ρ n l1 l2 x5)) (fun j49 => if (ρ 3 l3) < 0 then j49 l1 l2 l3 else (f_X8_has l1 (Int.tdiv l3 4)).bind (fun v6 => if v6 = 0 then j49 l1 l2 l3 else jn (bor l2 (bshl 1 (ρ 3 l3))) (fun x8 => j49 l1 x8 l3)))))))
def f_X3_beside (l1 : Int) (ρ : pm) : Option Int := L_X3_beside_4 ρ fu l1 0 0
set_option maxRecDepth 100000 in
theorem t_X3_beside_4 {d : Nat}   {ρ : pm} {o : pm} {rv : Int}   : ∀ (n : Nat) (l1 l2 l3 : Int), L_X3_beside_4 ρ n l1 l2 l3 = some rv → ci_T yX3_beside cX3_beside 4 (some .int) (d + 1) 4 ([(0, .ref 2), (1, .int (Int32.ofInt l1)), (2, .int (Int32.ofInt l2)), (3, .int (Int32.ofInt l3))], [], pk true ρ o) (pP true rv ρ o) := by
  intro n
  induction n with
  | zero =>
    intro l1 l2 l3 h
    rw [L_X3_beside_4] at h
    cases h
  | succ n ih =>
    intro l1 l2 l3 h
    rw [L_X3_beside_4] at h
    obtain ⟨h1, h⟩ := ck_some h
    obtain ⟨h2, h⟩ := ck_some h
    refine ci_T.step cb_X3_beside_4 (ci_sq rfl (ci_sq rfl (ci_sq (pe_getI (kI := 2) tq_1 rfl rfl rfl) (ci_sq rfl (ci_sq (pe_getI (kI := 3) tq_1 rfl rfl rfl) (ci_sq pe_imul (ci_sq (pe_push pc_4) (ci_sq pe_imul (pe_ic_ge h1 h2))))))))) ?_
    refine pbr h (fun hc h => ?_) (fun hc h => ?_)
    · refine ci_T.step cb_X3_beside_55 rfl ?_
      cases h
      exact ci_T.done (v := some (.int _)) cd_X3_beside_56 ⟨rfl, rfl⟩
    · obtain ⟨h3, h⟩ := ck_some h
      obtain ⟨h4, h⟩ := ck_some h
      refine ci_T.step cb_X3_beside_19 (ci_sq rfl (ci_sq (pe_getR tq_1 rfl rfl) (ci_sq rfl (ci_sq (pe_ald (nI := 100) tq_3 rfl rfl h3) (pe_if_lt h4))))) ?_
      obtain ⟨j49, hj, h⟩ := jn_ex h
      have J49 : ∀ (l1 l2 l3 : Int), j49 l1 l2 l3 = some rv → ci_T yX3_beside cX3_beside 4 (some .int) (d + 1) 49 ([(0, .ref 2), (1, .int (Int32.ofInt l1)), (2, .int (Int32.ofInt l2)), (3, .int (Int32.ofInt l3))], [], pk true ρ o) (pP true rv ρ o) := by
        intro l1 l2 l3 h
        subst hj
        replace h := jn_some h
        refine ci_T.step cb_X3_beside_49 (ci_sq (pe_inc rfl) rfl) ?_
        exact ci_T.sub [1, 2, 3, 0] (ih _ _ _ h) rfl
      clear hj
      refine pbr h (fun hc h => ?_) (fun hc h => ?_)
      · exact ci_T.sub [0, 1, 2, 3] (J49 _ _ _ h) rfl
      · refine ci_T.step cb_X3_beside_28 (ci_sq rfl (ci_sq rfl (ci_sq (pe_push pc_4) (pe_idiv ⟨h1, pR_4, by decide⟩)))) ?_
        obtain ⟨v6, hv, h⟩ := bn_some h
        refine ci_T.call (as := [_, _]) (rest := []) kc_X8_has ki_X8_has (by decide) cl_X3_beside_32 rfl (Nat.le_of_ble_eq_true rfl) trivial (s_X8_has d o hv) ?_
        rintro _ _ ⟨⟨rfl, rfl⟩, hz7⟩
        clear hv
        refine ci_T.step cb_X3_beside_35 (pe_if_eq (Z_R hz7)) ?_
        refine pbr h (fun hc h => ?_) (fun hc h => ?_)
        · exact ci_T.sub [0, 1, 2, 3] (J49 _ _ _ h) rfl
        · replace h := jn_some h
          refine ci_T.step cb_X3_beside_38 (ci_sq rfl (ci_sq (pe_push pc_1) (ci_sq rfl (ci_sq (pe_getR tq_1 rfl rfl) (ci_sq rfl (ci_sq (pe_ald (nI := 100) tq_3 rfl rfl h3) (ci_sq pe_ishl (ci_sq pe_ior rfl)))))))) ?_
          exact ci_T.sub [1, 2, 0, 3] (J49 _ _ _ h) rfl
set_option maxRecDepth 100000 in
theorem s_X3_beside (d : Nat)   {ρ : pm} (o : pm) {l1 : Int} {rv : Int} (h : f_X3_beside l1 ρ = some rv) : ci_Met (d + 1) (yX3_beside, cX3_beside, 4, (some .int), [], 0, 0) [.ref 2, .int (Int32.ofInt l1)] (pk true ρ o) (pP true rv ρ o) := by
  refine ci_met (by decide) (Nat.le_of_ble_eq_true rfl) ?_ ?_
  · rintro v w' ⟨rfl, rfl⟩
    trivial
  · change ci_T _ _ _ _ _ _ ([(0, .ref 2), (1, .int (Int32.ofInt l1))], [], pk true ρ o) _
    unfold f_X3_beside at h
    refine ci_T.step cb_X3_beside_0 (ci_sq (pe_push pc_0) (ci_sq rfl (ci_sq (pe_push pc_0) rfl))) ?_
    exact ci_T.sub [2, 3, 1, 0] (t_X3_beside_4 fu _ _ _ h) rfl
/-- X2_cuttable -/
def L_X2_cuttable_17 (q : Nat) (ρ : pm) (K61 : Int → Option Int) : Nat → Int → Int → Int → Option Int
  | 0, _, _, _ => none
  | n + 1, l1, l2, l3 => ck (inR l3) (if 25 ≤ l3 then K61 l2 else ck (0 ≤ l1 ∧ l1 < 3) ((f_X8_has (ρ 2 l1) l3).bind (fun v5 => jn (fun (l1 l2 l3 : Int) => jn (l3 + 1) (fun x7 => L_X2_cuttable_17 q ρ K61 n l1 l2 x7)) (fun j55 => if v5 = 0 then j55 l1 l2 l3 else ck (0 ≤ l3 ∧ l3 < 25) (ck (inR (ρ (q + 1) l3)) (if (ρ (q + 1) l3) < 3 then j55 l1 l2 l3 else jn (bor l2 (bshl 1 l3)) (fun x10 => j55 l1 x10 l3)))))))
def f_X2_cuttable (q : Nat) (l1 : Int) (ρ : pm) : Option Int := (f_X3_hasFarm l1 ρ).bind (fun v1 => if v1 = 0 then some 0 else L_X2_cuttable_17 q ρ (fun (l2 : Int) => ck (inR (ρ q 6)) (if (ρ q 6) = 1 then (f_X3_beside (ρ q 4) ρ).bind (fun v13 => some (band l2 (bor (ρ q 4) v13))) else if (ρ q 6) = 2 then (f_X3_beside (ρ q 4) ρ).bind (fun v12 => some (band (band l2 v12) (bxor (ρ q 4) (-1)))) else some l2)) fu l1 0 0)
set_option maxRecDepth 100000 in
theorem t_X2_cuttable_17 {d : Nat} {q : Nat} (hq : isF q) {ρ : pm} {o : pm} {rv : Int} {K61 : Int → Option Int} (hK61 : ∀ (l2 : Int), K61 l2 = some rv → ci_T yX2_cuttable cX2_cuttable 4 (some .int) (d + 2) 61 ([(0, .ref (q + 1)), (2, .int (Int32.ofInt l2))], [], pk true ρ o) (pP true rv ρ o)) : ∀ (n : Nat) (l1 l2 l3 : Int), L_X2_cuttable_17 q ρ K61 n l1 l2 l3 = some rv → ci_T yX2_cuttable cX2_cuttable 4 (some .int) (d + 2) 17 ([(0, .ref (q + 1)), (1, .int (Int32.ofInt l1)), (2, .int (Int32.ofInt l2)), (3, .int (Int32.ofInt l3))], [], pk true ρ o) (pP true rv ρ o) := by
  intro n
  induction n with
  | zero =>
    intro l1 l2 l3 h
    rw [L_X2_cuttable_17] at h
    cases h
  | succ n ih =>
    intro l1 l2 l3 h
    rw [L_X2_cuttable_17] at h
    obtain ⟨h3, h⟩ := ck_some h
    refine ci_T.step cb_X2_cuttable_17 (ci_sq rfl (ci_sq (pe_push pc_25) (pe_ic_ge h3 pR_25))) ?_
    refine pbr h (fun hc h => ?_) (fun hc h => ?_)
    · exact ci_T.sub [0, 2] (hK61 _ h) rfl
    · obtain ⟨h4, h⟩ := ck_some h
      refine ci_T.step cb_X2_cuttable_23 (ci_sq rfl (ci_sq (pe_getR hq.1 hq.2.2.2.1 rfl) (ci_sq (pe_getR tq_1 rfl rfl) (ci_sq rfl (ci_sq (pe_ald (nI := 3) tq_2 rfl rfl h4) rfl))))) ?_
      obtain ⟨v5, hv, h⟩ := bn_some h
      refine ci_T.call (as := [_, _]) (rest := []) kc_X8_has ki_X8_has (by decide) cl_X2_cuttable_33 rfl (Nat.le_of_ble_eq_true rfl) trivial (s_X8_has (d + 1) o hv) ?_
      rintro _ _ ⟨⟨rfl, rfl⟩, hz6⟩
      clear hv
      refine ci_T.step cb_X2_cuttable_36 (pe_if_eq (Z_R hz6)) ?_
      obtain ⟨j55, hj, h⟩ := jn_ex h
      have J55 : ∀ (l1 l2 l3 : Int), j55 l1 l2 l3 = some rv → ci_T yX2_cuttable cX2_cuttable 4 (some .int) (d + 2) 55 ([(0, .ref (q + 1)), (1, .int (Int32.ofInt l1)), (2, .int (Int32.ofInt l2)), (3, .int (Int32.ofInt l3))], [], pk true ρ o) (pP true rv ρ o) := by
        intro l1 l2 l3 h
        subst hj
        replace h := jn_some h
        refine ci_T.step cb_X2_cuttable_55 (ci_sq (pe_inc rfl) rfl) ?_
        exact ci_T.sub [1, 2, 3, 0] (ih _ _ _ h) rfl
      clear hj
      refine pbr h (fun hc h => ?_) (fun hc h => ?_)
      · exact ci_T.sub [0, 1, 2, 3] (J55 _ _ _ h) rfl
      · obtain ⟨h8, h⟩ := ck_some h
        obtain ⟨h9, h⟩ := ck_some h
        refine ci_T.step cb_X2_cuttable_39 (ci_sq rfl (ci_sq (pe_getR hq.1 hq.2.2.2.1 rfl) (ci_sq rfl (ci_sq (pe_ald (nI := 25) hq.2.1 hq.2.2.2.2.1 rfl h8) (ci_sq (pe_push pc_3) (pe_ic_lt h9 pR_3)))))) ?_
        refine pbr h (fun hc h => ?_) (fun hc h => ?_)
        · exact ci_T.sub [0, 1, 2, 3] (J55 _ _ _ h) rfl
        · replace h := jn_some h
          refine ci_T.step cb_X2_cuttable_49 (ci_sq rfl (ci_sq (pe_push pc_1) (ci_sq rfl (ci_sq pe_ishl (ci_sq pe_ior rfl))))) ?_
          exact ci_T.sub [1, 2, 0, 3] (J55 _ _ _ h) rfl
set_option maxRecDepth 100000 in
theorem s_X2_cuttable (d : Nat) (q : Nat) (hq : isF q) {ρ : pm} (o : pm) {l1 : Int} {rv : Int} (h : f_X2_cuttable q l1 ρ = some rv) : ci_Met (d + 2) (yX2_cuttable, cX2_cuttable, 4, (some .int), [], 0, 0) [.ref (q + 1), .int (Int32.ofInt l1)] (pk true ρ o) (pP true rv ρ o) := by
  refine ci_met (by decide) (Nat.le_of_ble_eq_true rfl) ?_ ?_
  · rintro v w' ⟨rfl, rfl⟩
    trivial
  · change ci_T _ _ _ _ _ _ ([(0, .ref (q + 1)), (1, .int (Int32.ofInt l1))], [], pk true ρ o) _
    unfold f_X2_cuttable at h
    refine ci_T.step cb_X2_cuttable_0 (ci_sq rfl (ci_sq (pe_getR hq.1 hq.2.2.2.1 rfl) rfl)) ?_
    obtain ⟨v1, hv, h⟩ := bn_some h
    refine ci_T.call (as := [_, _]) (rest := []) kc_X3_hasFarm ki_X3_hasFarm (by decide) cl_X2_cuttable_5 rfl (Nat.le_of_ble_eq_true rfl) ⟨⟨_, rfl⟩, _, _, _, rfl, pk_obj tq_1 rfl _ _⟩ (s_X3_hasFarm (d + 1) o hv) ?_
    rintro _ _ ⟨⟨rfl, rfl⟩, hz2⟩
    clear hv
    refine ci_T.step cb_X2_cuttable_8 (pe_if_ne (Z_R hz2)) ?_
    refine pbrn h (fun hc h => ?_) (fun hc h => ?_)
    · refine ci_T.step cb_X2_cuttable_13 (ci_sq (pe_push pc_0) (ci_sq rfl (ci_sq (pe_push pc_0) rfl))) ?_
      refine ci_T.sub [2, 3, 1, 0] (t_X2_cuttable_17 hq ?_ fu _ _ _ h) rfl
      · intro l2 h
        obtain ⟨h11, h⟩ := ck_some h
        refine ci_T.step cb_X2_cuttable_61 (ci_sq rfl (ci_sq (pe_getI (kI := 6) hq.1 hq.2.2.2.1 rfl rfl) (ci_sq (pe_push pc_1) (pe_ic_ne h11 pR_1)))) ?_
        refine pbrn h (fun hc h => ?_) (fun hc h => ?_)
        · refine ci_T.step cb_X2_cuttable_88 (ci_sq rfl (ci_sq (pe_getI (kI := 6) hq.1 hq.2.2.2.1 rfl rfl) (ci_sq (pe_push pc_2) (pe_ic_ne h11 pR_2)))) ?_
          refine pbrn h (fun hc h => ?_) (fun hc h => ?_)
          · refine ci_T.step cb_X2_cuttable_119 rfl ?_
            cases h
            exact ci_T.done (v := some (.int _)) cd_X2_cuttable_120 ⟨rfl, rfl⟩
          · refine ci_T.step cb_X2_cuttable_96 (ci_sq rfl (ci_sq rfl (ci_sq (pe_getR hq.1 hq.2.2.2.1 rfl) (ci_sq rfl (pe_getI (kI := 4) hq.1 hq.2.2.2.1 rfl rfl))))) ?_
            obtain ⟨v12, hv, h⟩ := bn_some h
            refine ci_T.call (as := [_, _]) (rest := [_]) kc_X3_beside ki_X3_beside (by decide) cl_X2_cuttable_105 rfl (Nat.le_of_ble_eq_true rfl) ⟨⟨_, rfl⟩, _, _, _, rfl, pk_obj tq_1 rfl _ _⟩ (s_X3_beside d o hv) ?_
            rintro _ _ ⟨rfl, rfl⟩
            clear hv
            refine ci_T.step cb_X2_cuttable_108 (ci_sq pe_iand (ci_sq rfl (ci_sq (pe_getI (kI := 4) hq.1 hq.2.2.2.1 rfl rfl) (ci_sq (pe_push pc_m1) (ci_sq pe_ixor (ci_sq pe_iand rfl)))))) ?_
            cases h
            exact ci_T.done (v := some (.int _)) cd_X2_cuttable_120 ⟨rfl, rfl⟩
        · refine ci_T.step cb_X2_cuttable_69 (ci_sq rfl (ci_sq rfl (ci_sq (pe_getI (kI := 4) hq.1 hq.2.2.2.1 rfl rfl) (ci_sq rfl (ci_sq (pe_getR hq.1 hq.2.2.2.1 rfl) (ci_sq rfl (pe_getI (kI := 4) hq.1 hq.2.2.2.1 rfl rfl))))))) ?_
          obtain ⟨v13, hv, h⟩ := bn_some h
          refine ci_T.call (as := [_, _]) (rest := [_, _]) kc_X3_beside ki_X3_beside (by decide) cl_X2_cuttable_82 rfl (Nat.le_of_ble_eq_true rfl) ⟨⟨_, rfl⟩, _, _, _, rfl, pk_obj tq_1 rfl _ _⟩ (s_X3_beside d o hv) ?_
          rintro _ _ ⟨rfl, rfl⟩
          clear hv
          refine ci_T.step cb_X2_cuttable_85 (ci_sq pe_ior pe_iand) ?_
          cases h
          exact ci_T.done (v := some (.int _)) cd_X2_cuttable_87 ⟨rfl, rfl⟩
    · refine ci_T.step cb_X2_cuttable_11 (pe_push pc_0) ?_
      cases h
      exact ci_T.done (v := some (.int _)) cd_X2_cuttable_12 ⟨rfl, rfl⟩
/-- X8_farm -/
def f_X8_farm (l1 l2 : Int) (ρ : pm) : Option Int := (f_X3_hasFarm l1 ρ).bind (fun v1 => if v1 = 0 then some (-1) else ck (inR l2) (if l2 = 0 then ck (0 ≤ l1 ∧ l1 < 3) (some (ρ 5 l1)) else if l2 = 1 then ck (0 ≤ l1 ∧ l1 < 3) (some (ρ 2 l1)) else if l2 = 2 then (f_X7_gain l1 (ρ 8 4) ρ).bind (fun v8 => some v8) else if l2 = 3 then (f_X2_cuttable 8 l1 ρ).bind (fun v10 => some v10) else some (-1)))
set_option maxRecDepth 100000 in
theorem s_X8_farm (d : Nat)   {ρ : pm} (o : pm) {l1 l2 : Int} {rv : Int} (h : f_X8_farm l1 l2 ρ = some rv) : ci_Met (d + 3) (yX8_farm, cX8_farm, 3, (some .int), [], 0, 0) [.ref 1, .int (Int32.ofInt l1), .int (Int32.ofInt l2)] (pk true ρ o) (pP true rv ρ o) := by
  refine ci_met (by decide) (Nat.le_of_ble_eq_true rfl) ?_ ?_
  · rintro v w' ⟨rfl, rfl⟩
    trivial
  · change ci_T _ _ _ _ _ _ ([(0, .ref 1), (1, .int (Int32.ofInt l1)), (2, .int (Int32.ofInt l2))], [], pk true ρ o) _
    unfold f_X8_farm at h
    refine ci_T.step cb_X8_farm_0 (ci_sq rfl (ci_sq (pe_getR tq_0 rfl rfl) rfl)) ?_
    obtain ⟨v1, hv, h⟩ := bn_some h
    refine ci_T.call (as := [_, _]) (rest := []) kc_X3_hasFarm ki_X3_hasFarm (by decide) cl_X8_farm_5 rfl (Nat.le_of_ble_eq_true rfl) ⟨⟨_, rfl⟩, _, _, _, rfl, pk_obj tq_1 rfl _ _⟩ (s_X3_hasFarm (d + 2) o hv) ?_
    rintro _ _ ⟨⟨rfl, rfl⟩, hz2⟩
    clear hv
    refine ci_T.step cb_X8_farm_8 (pe_if_ne (Z_R hz2)) ?_
    refine pbrn h (fun hc h => ?_) (fun hc h => ?_)
    · obtain ⟨h3, h⟩ := ck_some h
      refine ci_T.step cb_X8_farm_13 (ci_sq rfl (pe_tsw h3 rfl)) ?_
      refine pite h (fun hc5 h => ?_) (fun hc5 h => ?_)
      · refine tsw_T hc5 rfl ?_
        obtain ⟨h4, h⟩ := ck_some h
        refine ci_T.step cb_X8_farm_44 (ci_sq rfl (ci_sq (pe_getR tq_0 rfl rfl) (ci_sq (pe_getR tq_4 rfl rfl) (ci_sq rfl (pe_ald (nI := 3) tq_5 rfl rfl h4))))) ?_
        cases h
        exact ci_T.done (v := some (.int _)) cd_X8_farm_53 ⟨rfl, rfl⟩
      refine pite h (fun hc7 h => ?_) (fun hc7 h => ?_)
      · refine tsw_T hc7 rfl ?_
        obtain ⟨h6, h⟩ := ck_some h
        refine ci_T.step cb_X8_farm_54 (ci_sq rfl (ci_sq (pe_getR tq_0 rfl rfl) (ci_sq (pe_getR tq_1 rfl rfl) (ci_sq rfl (pe_ald (nI := 3) tq_2 rfl rfl h6))))) ?_
        cases h
        exact ci_T.done (v := some (.int _)) cd_X8_farm_63 ⟨rfl, rfl⟩
      refine pite h (fun hc9 h => ?_) (fun hc9 h => ?_)
      · refine tsw_T hc9 rfl ?_
        refine ci_T.step cb_X8_farm_64 (ci_sq rfl (ci_sq (pe_getR tq_0 rfl rfl) (ci_sq rfl (ci_sq rfl (ci_sq (pe_getR tq_0 rfl rfl) (ci_sq (pe_getR tq_4 rfl rfl) (pe_getI (kI := 4) tq_8 rfl rfl rfl))))))) ?_
        obtain ⟨v8, hv, h⟩ := bn_some h
        refine ci_T.call (as := [_, _, _]) (rest := []) kc_X7_gain ki_X7_gain (by decide) cl_X8_farm_79 rfl (Nat.le_of_ble_eq_true rfl) ⟨⟨_, rfl⟩, _, _, _, rfl, pk_obj tq_4 rfl _ _⟩ (s_X7_gain (d + 1) o hv) ?_
        rintro _ _ ⟨rfl, rfl⟩
        clear hv
        cases h
        exact ci_T.done (v := some (.int _)) cd_X8_farm_82 ⟨rfl, rfl⟩
      refine pite h (fun hc11 h => ?_) (fun hc11 h => ?_)
      · refine tsw_T hc11 rfl ?_
        refine ci_T.step cb_X8_farm_83 (ci_sq rfl (ci_sq (pe_getR tq_0 rfl rfl) (ci_sq (pe_getR tq_4 rfl rfl) rfl))) ?_
        obtain ⟨v10, hv, h⟩ := bn_some h
        refine ci_T.call (as := [_, _]) (rest := []) kc_X2_cuttable ki_X2_cuttable (by decide) cl_X8_farm_91 rfl (Nat.le_of_ble_eq_true rfl) ⟨⟨_, rfl⟩, _, _, _, rfl, pk_obj tq_8 rfl _ _⟩ (s_X2_cuttable d 8 iF_8 o hv) ?_
        rintro _ _ ⟨rfl, rfl⟩
        clear hv
        cases h
        exact ci_T.done (v := some (.int _)) cd_X8_farm_94 ⟨rfl, rfl⟩
      refine tsw_D (hi := 3) rfl (by omega) ?_
      refine ci_T.step cb_X8_farm_95 (pe_push pc_m1) ?_
      cases h
      exact ci_T.done (v := some (.int _)) cd_X8_farm_96 ⟨rfl, rfl⟩
    · refine ci_T.step cb_X8_farm_11 (pe_push pc_m1) ?_
      cases h
      exact ci_T.done (v := some (.int _)) cd_X8_farm_12 ⟨rfl, rfl⟩
/-- X8_bed -/
def f_X8_bed (l1 : Int) (ρ : pm) : Option Int := ck (inR l1) (if 0 ≤ l1 then ck (inR (ρ 8 3)) (if (ρ 8 3) ≤ l1 then some (-4) else ck (0 ≤ l1 ∧ l1 < 25) (some (ρ 10 l1))) else some (-1))
set_option maxRecDepth 100000 in
theorem s_X8_bed (d : Nat)   {ρ : pm} (o : pm) {l1 : Int} {rv : Int} (h : f_X8_bed l1 ρ = some rv) : ci_Met d (yX8_bed, cX8_bed, 2, (some .int), [], 0, 0) [.ref 1, .int (Int32.ofInt l1)] (pk true ρ o) (pP true rv ρ o) := by
  refine ci_met (by decide) (Nat.le_of_ble_eq_true rfl) ?_ ?_
  · rintro v w' ⟨rfl, rfl⟩
    trivial
  · change ci_T _ _ _ _ _ _ ([(0, .ref 1), (1, .int (Int32.ofInt l1))], [], pk true ρ o) _
    unfold f_X8_bed at h
    obtain ⟨h1, h⟩ := ck_some h
    refine ci_T.step cb_X8_bed_0 (ci_sq rfl (pe_if_ge h1)) ?_
    refine pbr h (fun hc h => ?_) (fun hc h => ?_)
    · obtain ⟨h2, h⟩ := ck_some h
      refine ci_T.step cb_X8_bed_6 (ci_sq rfl (ci_sq rfl (ci_sq (pe_getR tq_0 rfl rfl) (ci_sq (pe_getR tq_4 rfl rfl) (ci_sq (pe_getI (kI := 3) tq_8 rfl rfl rfl) (pe_ic_ge h1 h2)))))) ?_
      refine pbr h (fun hc h => ?_) (fun hc h => ?_)
      · refine ci_T.step cb_X8_bed_35 (pe_push pc_m4) ?_
        cases h
        exact ci_T.done (v := some (.int _)) cd_X8_bed_37 ⟨rfl, rfl⟩
      · obtain ⟨h3, h⟩ := ck_some h
        refine ci_T.step cb_X8_bed_20 (ci_sq rfl (ci_sq (pe_getR tq_0 rfl rfl) (ci_sq (pe_getR tq_4 rfl rfl) (ci_sq (pe_getR tq_8 rfl rfl) (ci_sq rfl (ci_sq (pe_ald (nI := 25) tq_10 rfl rfl h3) rfl)))))) ?_
        cases h
        exact ci_T.done (v := some (.int _)) cd_X8_bed_37 ⟨rfl, rfl⟩
    · refine ci_T.step cb_X8_bed_4 (pe_push pc_m1) ?_
      cases h
      exact ci_T.done (v := some (.int _)) cd_X8_bed_5 ⟨rfl, rfl⟩
/-- X8_retrace -/
def f_X8_retrace (ρ : pm) : Option pm := (f_X2_trace 8 ρ).bind (fun ρ1 => jn (pup ρ1 28 6 0) (fun ρ2 => some ρ2))
set_option maxRecDepth 100000 in
theorem s_X8_retrace (d : Nat)   {ρ : pm} (o : pm)  {rρ : pm} (h : f_X8_retrace ρ = some rρ) : ci_Met (d + 3) (yX8_retrace, cX8_retrace, 1, none, [], 0, 0) [.ref 1] (pk true ρ o) (pV true rρ o) := by
  refine ci_met (by decide) (Nat.le_of_ble_eq_true rfl) ?_ ?_
  · rintro v w' ⟨rfl, rfl⟩
    trivial
  · change ci_T _ _ _ _ _ _ ([(0, .ref 1)], [], pk true ρ o) _
    unfold f_X8_retrace at h
    refine ci_T.step cb_X8_retrace_0 (ci_sq rfl (ci_sq (pe_getR tq_0 rfl rfl) (pe_getR tq_4 rfl rfl))) ?_
    obtain ⟨ρ1, hv, h⟩ := bn_some h
    refine ci_T.call (as := [_]) (rest := []) kc_X2_trace ki_X2_trace (by decide) cl_X8_retrace_7 rfl (Nat.le_of_ble_eq_true rfl) ⟨⟨_, rfl⟩, _, _, _, rfl, pk_obj tq_8 rfl _ _⟩ (s_X2_trace d 8 iF_8 o hv) ?_
    rintro _ _ ⟨rfl, rfl⟩
    clear hv
    replace h := jn_some h
    refine ci_T.step cb_X8_retrace_10 (ci_sq rfl (ci_sq (pe_getR tq_0 rfl rfl) (ci_sq (pe_push pc_0) (pe_putZ (kI := 6) tq_28 rfl rfl rfl (Or.inl rfl))))) ?_
    cases h
    exact ci_T.done (v := none) cd_X8_retrace_18 ⟨rfl, rfl⟩
/-- X8_dam -/
def f_X8_dam (l1 l2 : Int) (ρ : pm) : Option (Int × pm) := (f_X3_hasCell l1 ρ).bind (fun v1 => if v1 = 0 then some ((-1), ρ) else ck (inR l2) (if l2 < 0 then some ((-1), ρ) else if l2 ≤ 99 then ck (0 ≤ l1 ∧ l1 < 25) (jn (ρ 9 l1) (fun x5 => jn (pup ρ 9 l1 l2) (fun ρ6 => (f_X8_retrace ρ6).bind (fun ρ7 => some (x5, ρ7))))) else some ((-1), ρ)))
set_option maxRecDepth 100000 in
theorem s_X8_dam (d : Nat)   {ρ : pm} (o : pm) {l1 l2 : Int} {rv : Int} {rρ : pm} (h : f_X8_dam l1 l2 ρ = some (rv, rρ)) : ci_Met (d + 4) (yX8_dam, cX8_dam, 4, (some .int), [], 0, 0) [.ref 1, .int (Int32.ofInt l1), .int (Int32.ofInt l2)] (pk true ρ o) (pP true rv rρ o) := by
  refine ci_met (by decide) (Nat.le_of_ble_eq_true rfl) ?_ ?_
  · rintro v w' ⟨rfl, rfl⟩
    trivial
  · change ci_T _ _ _ _ _ _ ([(0, .ref 1), (1, .int (Int32.ofInt l1)), (2, .int (Int32.ofInt l2))], [], pk true ρ o) _
    unfold f_X8_dam at h
    refine ci_T.step cb_X8_dam_0 (ci_sq rfl (ci_sq (pe_getR tq_0 rfl rfl) rfl)) ?_
    obtain ⟨v1, hv, h⟩ := bn_some h
    refine ci_T.call (as := [_, _]) (rest := []) kc_X3_hasCell ki_X3_hasCell (by decide) cl_X8_dam_5 rfl (Nat.le_of_ble_eq_true rfl) ⟨⟨_, rfl⟩, _, _, _, rfl, pk_obj tq_1 rfl _ _⟩ (s_X3_hasCell (d + 3) o hv) ?_
    rintro _ _ ⟨⟨rfl, rfl⟩, hz2⟩
    clear hv
    refine ci_T.step cb_X8_dam_8 (pe_if_eq (Z_R hz2)) ?_
    refine pbr h (fun hc h => ?_) (fun hc h => ?_)
    · refine ci_T.step cb_X8_dam_21 (pe_push pc_m1) ?_
      cases h
      exact ci_T.done (v := some (.int _)) cd_X8_dam_22 ⟨rfl, rfl⟩
    · obtain ⟨h3, h⟩ := ck_some h
      refine ci_T.step cb_X8_dam_11 (ci_sq rfl (pe_if_lt h3)) ?_
      refine pbr h (fun hc h => ?_) (fun hc h => ?_)
      · refine ci_T.step cb_X8_dam_21 (pe_push pc_m1) ?_
        cases h
        exact ci_T.done (v := some (.int _)) cd_X8_dam_22 ⟨rfl, rfl⟩
      · refine ci_T.step cb_X8_dam_15 (ci_sq rfl (ci_sq (pe_push pc_99) (pe_ic_le h3 pR_99))) ?_
        refine pbr h (fun hc h => ?_) (fun hc h => ?_)
        · obtain ⟨h4, h⟩ := ck_some h
          replace h := jn_some h
          replace h := jn_some h
          refine ci_T.step cb_X8_dam_23 (ci_sq rfl (ci_sq (pe_getR tq_0 rfl rfl) (ci_sq (pe_getR tq_4 rfl rfl) (ci_sq (pe_getR tq_8 rfl rfl) (ci_sq rfl (ci_sq (pe_ald (nI := 25) tq_9 rfl rfl h4) (ci_sq rfl (ci_sq rfl (ci_sq (pe_getR tq_0 rfl rfl) (ci_sq (pe_getR tq_4 rfl rfl) (ci_sq (pe_getR tq_8 rfl rfl) (ci_sq rfl (ci_sq rfl (ci_sq (pe_ast (nI := 25) tq_9 rfl rfl h4 rfl) rfl)))))))))))))) ?_
          obtain ⟨ρ7, hv, h⟩ := bn_some h
          refine ci_T.call (as := [_]) (rest := []) kc_X8_retrace ki_X8_retrace (by decide) cl_X8_dam_50 rfl (Nat.le_of_ble_eq_true rfl) ⟨⟨_, rfl⟩, _, _, _, rfl, pk_obj tq_0 rfl _ _⟩ (s_X8_retrace d o hv) ?_
          rintro _ _ ⟨rfl, rfl⟩
          clear hv
          refine ci_T.step cb_X8_dam_53 rfl ?_
          cases h
          exact ci_T.done (v := some (.int _)) cd_X8_dam_54 ⟨rfl, rfl⟩
        · refine ci_T.step cb_X8_dam_21 (pe_push pc_m1) ?_
          cases h
          exact ci_T.done (v := some (.int _)) cd_X8_dam_22 ⟨rfl, rfl⟩
/-- X8_move -/
def f_X8_move (l1 : Int) (ρ : pm) : Option (Int × pm) := (f_X3_hasCell l1 ρ).bind (fun v1 => if v1 = 0 then some ((-1), ρ) else jn (ρ 8 5) (fun x3 => jn (pup ρ 8 5 l1) (fun ρ4 => (f_X8_retrace ρ4).bind (fun ρ5 => some (x3, ρ5)))))
set_option maxRecDepth 100000 in
theorem s_X8_move (d : Nat)   {ρ : pm} (o : pm) {l1 : Int} {rv : Int} {rρ : pm} (h : f_X8_move l1 ρ = some (rv, rρ)) : ci_Met (d + 4) (yX8_move, cX8_move, 3, (some .int), [], 0, 0) [.ref 1, .int (Int32.ofInt l1)] (pk true ρ o) (pP true rv rρ o) := by
  refine ci_met (by decide) (Nat.le_of_ble_eq_true rfl) ?_ ?_
  · rintro v w' ⟨rfl, rfl⟩
    trivial
  · change ci_T _ _ _ _ _ _ ([(0, .ref 1), (1, .int (Int32.ofInt l1))], [], pk true ρ o) _
    unfold f_X8_move at h
    refine ci_T.step cb_X8_move_0 (ci_sq rfl (ci_sq (pe_getR tq_0 rfl rfl) rfl)) ?_
    obtain ⟨v1, hv, h⟩ := bn_some h
    refine ci_T.call (as := [_, _]) (rest := []) kc_X3_hasCell ki_X3_hasCell (by decide) cl_X8_move_5 rfl (Nat.le_of_ble_eq_true rfl) ⟨⟨_, rfl⟩, _, _, _, rfl, pk_obj tq_1 rfl _ _⟩ (s_X3_hasCell (d + 3) o hv) ?_
    rintro _ _ ⟨⟨rfl, rfl⟩, hz2⟩
    clear hv
    refine ci_T.step cb_X8_move_8 (pe_if_ne (Z_R hz2)) ?_
    refine pbrn h (fun hc h => ?_) (fun hc h => ?_)
    · replace h := jn_some h
      replace h := jn_some h
      refine ci_T.step cb_X8_move_13 (ci_sq rfl (ci_sq (pe_getR tq_0 rfl rfl) (ci_sq (pe_getR tq_4 rfl rfl) (ci_sq (pe_getI (kI := 5) tq_8 rfl rfl rfl) (ci_sq rfl (ci_sq rfl (ci_sq (pe_getR tq_0 rfl rfl) (ci_sq (pe_getR tq_4 rfl rfl) (ci_sq rfl (ci_sq (pe_putI (kI := 5) tq_8 rfl rfl rfl) rfl)))))))))) ?_
      obtain ⟨ρ5, hv, h⟩ := bn_some h
      refine ci_T.call (as := [_]) (rest := []) kc_X8_retrace ki_X8_retrace (by decide) cl_X8_move_36 rfl (Nat.le_of_ble_eq_true rfl) ⟨⟨_, rfl⟩, _, _, _, rfl, pk_obj tq_0 rfl _ _⟩ (s_X8_retrace d o hv) ?_
      rintro _ _ ⟨rfl, rfl⟩
      clear hv
      refine ci_T.step cb_X8_move_39 rfl ?_
      cases h
      exact ci_T.done (v := some (.int _)) cd_X8_move_40 ⟨rfl, rfl⟩
    · refine ci_T.step cb_X8_move_11 (pe_push pc_m1) ?_
      cases h
      exact ci_T.done (v := some (.int _)) cd_X8_move_12 ⟨rfl, rfl⟩
/-- X8_law -/
def f_X8_law (l1 : Int) (ρ : pm) : Option (Int × pm) := ck (inR l1) (if l1 < 0 then some ((-1), ρ) else if l1 < 3 then jn (ρ 8 6) (fun x2 => jn (pup ρ 8 6 l1) (fun ρ3 => jn (pup ρ3 28 6 0) (fun ρ4 => some (x2, ρ4)))) else some ((-1), ρ))
set_option maxRecDepth 100000 in
theorem s_X8_law (d : Nat)   {ρ : pm} (o : pm) {l1 : Int} {rv : Int} {rρ : pm} (h : f_X8_law l1 ρ = some (rv, rρ)) : ci_Met d (yX8_law, cX8_law, 3, (some .int), [], 0, 0) [.ref 1, .int (Int32.ofInt l1)] (pk true ρ o) (pP true rv rρ o) := by
  refine ci_met (by decide) (Nat.le_of_ble_eq_true rfl) ?_ ?_
  · rintro v w' ⟨rfl, rfl⟩
    trivial
  · change ci_T _ _ _ _ _ _ ([(0, .ref 1), (1, .int (Int32.ofInt l1))], [], pk true ρ o) _
    unfold f_X8_law at h
    obtain ⟨h1, h⟩ := ck_some h
    refine ci_T.step cb_X8_law_0 (ci_sq rfl (pe_if_lt h1)) ?_
    refine pbr h (fun hc h => ?_) (fun hc h => ?_)
    · refine ci_T.step cb_X8_law_9 (pe_push pc_m1) ?_
      cases h
      exact ci_T.done (v := some (.int _)) cd_X8_law_10 ⟨rfl, rfl⟩
    · refine ci_T.step cb_X8_law_4 (ci_sq rfl (ci_sq (pe_push pc_3) (pe_ic_lt h1 pR_3))) ?_
      refine pbr h (fun hc h => ?_) (fun hc h => ?_)
      · replace h := jn_some h
        replace h := jn_some h
        replace h := jn_some h
        refine ci_T.step cb_X8_law_11 (ci_sq rfl (ci_sq (pe_getR tq_0 rfl rfl) (ci_sq (pe_getR tq_4 rfl rfl) (ci_sq (pe_getI (kI := 6) tq_8 rfl rfl rfl) (ci_sq rfl (ci_sq rfl (ci_sq (pe_getR tq_0 rfl rfl) (ci_sq (pe_getR tq_4 rfl rfl) (ci_sq rfl (ci_sq (pe_putI (kI := 6) tq_8 rfl rfl rfl) (ci_sq rfl (ci_sq (pe_getR tq_0 rfl rfl) (ci_sq (pe_push pc_0) (ci_sq (pe_putZ (kI := 6) tq_28 rfl rfl rfl (Or.inl rfl)) rfl)))))))))))))) ?_
        cases h
        exact ci_T.done (v := some (.int _)) cd_X8_law_42 ⟨rfl, rfl⟩
      · refine ci_T.step cb_X8_law_9 (pe_push pc_m1) ?_
        cases h
        exact ci_T.done (v := some (.int _)) cd_X8_law_10 ⟨rfl, rfl⟩
/-- X8_silt -/
def f_X8_silt (l1 : Int) (ρ : pm) : Option (Int × pm) := ck (inR (ρ 8 7)) (jn (fun (l1 s0 : Int) (ρ : pm) => ck (l1 = 0 ∨ l1 = 1) (jn (pup ρ 8 7 l1) (fun ρ3 => jn (pup ρ3 28 6 0) (fun ρ4 => some (s0, ρ4))))) (fun j18 => if (ρ 8 7) = 0 then j18 l1 0 ρ else j18 l1 1 ρ))
set_option maxRecDepth 100000 in
theorem s_X8_silt (d : Nat)   {ρ : pm} (o : pm) {l1 : Int} {rv : Int} {rρ : pm} (h : f_X8_silt l1 ρ = some (rv, rρ)) : ci_Met d (yX8_silt, cX8_silt, 3, (some .int), [], 0, 0) [.ref 1, .int (Int32.ofInt l1)] (pk true ρ o) (pP true rv rρ o) := by
  refine ci_met (by decide) (Nat.le_of_ble_eq_true rfl) ?_ ?_
  · rintro v w' ⟨rfl, rfl⟩
    trivial
  · change ci_T _ _ _ _ _ _ ([(0, .ref 1), (1, .int (Int32.ofInt l1))], [], pk true ρ o) _
    unfold f_X8_silt at h
    obtain ⟨h1, h⟩ := ck_some h
    refine ci_T.step cb_X8_silt_0 (ci_sq rfl (ci_sq (pe_getR tq_0 rfl rfl) (ci_sq (pe_getR tq_4 rfl rfl) (ci_sq (pe_getI (kI := 7) tq_8 rfl rfl rfl) (pe_if_eq h1))))) ?_
    obtain ⟨j18, hj, h⟩ := jn_ex h
    have J18 : ∀ (l1 s0 : Int) (ρ : pm), j18 l1 s0 ρ = some (rv, rρ) → ci_T yX8_silt cX8_silt 3 (some .int) d 18 ([(0, .ref 1), (1, .int (Int32.ofInt l1))], [.int (Int32.ofInt s0)], pk true ρ o) (pP true rv rρ o) := by
      intro l1 s0 ρ h
      subst hj
      obtain ⟨h2, h⟩ := ck_some h
      replace h := jn_some h
      replace h := jn_some h
      refine ci_T.step cb_X8_silt_18 (ci_sq rfl (ci_sq rfl (ci_sq (pe_getR tq_0 rfl rfl) (ci_sq (pe_getR tq_4 rfl rfl) (ci_sq rfl (ci_sq (pe_putZ (kI := 7) tq_8 rfl rfl rfl h2) (ci_sq rfl (ci_sq (pe_getR tq_0 rfl rfl) (ci_sq (pe_push pc_0) (ci_sq (pe_putZ (kI := 6) tq_28 rfl rfl rfl (Or.inl rfl)) rfl)))))))))) ?_
      cases h
      exact ci_T.done (v := some (.int _)) cd_X8_silt_39 ⟨rfl, rfl⟩
    clear hj
    refine pbr h (fun hc h => ?_) (fun hc h => ?_)
    · refine ci_T.step cb_X8_silt_17 (pe_push pc_0) ?_
      exact ci_T.sub [0, 1] (J18 _ _ _ h) rfl
    · refine ci_T.step cb_X8_silt_13 (ci_sq (pe_push pc_1) rfl) ?_
      exact ci_T.sub [0, 1] (J18 _ _ _ h) rfl
/-- X8_price -/
def f_X8_price (l1 l2 : Int) (ρ : pm) : Option (Int × pm) := (f_X3_hasFarm l1 ρ).bind (fun v1 => if v1 = 0 then some ((-1), ρ) else ck (inR l2) (if l2 < 1 then some ((-1), ρ) else if l2 ≤ 9 then ck (0 ≤ l1 ∧ l1 < 3) (jn (ρ 5 l1) (fun x5 => jn (pup ρ 5 l1 l2) (fun ρ6 => some (x5, ρ6)))) else some ((-1), ρ)))
set_option maxRecDepth 100000 in
theorem s_X8_price (d : Nat)   {ρ : pm} (o : pm) {l1 l2 : Int} {rv : Int} {rρ : pm} (h : f_X8_price l1 l2 ρ = some (rv, rρ)) : ci_Met (d + 1) (yX8_price, cX8_price, 4, (some .int), [], 0, 0) [.ref 1, .int (Int32.ofInt l1), .int (Int32.ofInt l2)] (pk true ρ o) (pP true rv rρ o) := by
  refine ci_met (by decide) (Nat.le_of_ble_eq_true rfl) ?_ ?_
  · rintro v w' ⟨rfl, rfl⟩
    trivial
  · change ci_T _ _ _ _ _ _ ([(0, .ref 1), (1, .int (Int32.ofInt l1)), (2, .int (Int32.ofInt l2))], [], pk true ρ o) _
    unfold f_X8_price at h
    refine ci_T.step cb_X8_price_0 (ci_sq rfl (ci_sq (pe_getR tq_0 rfl rfl) rfl)) ?_
    obtain ⟨v1, hv, h⟩ := bn_some h
    refine ci_T.call (as := [_, _]) (rest := []) kc_X3_hasFarm ki_X3_hasFarm (by decide) cl_X8_price_5 rfl (Nat.le_of_ble_eq_true rfl) ⟨⟨_, rfl⟩, _, _, _, rfl, pk_obj tq_1 rfl _ _⟩ (s_X3_hasFarm d o hv) ?_
    rintro _ _ ⟨⟨rfl, rfl⟩, hz2⟩
    clear hv
    refine ci_T.step cb_X8_price_8 (pe_if_eq (Z_R hz2)) ?_
    refine pbr h (fun hc h => ?_) (fun hc h => ?_)
    · refine ci_T.step cb_X8_price_22 (pe_push pc_m1) ?_
      cases h
      exact ci_T.done (v := some (.int _)) cd_X8_price_23 ⟨rfl, rfl⟩
    · obtain ⟨h3, h⟩ := ck_some h
      refine ci_T.step cb_X8_price_11 (ci_sq rfl (ci_sq (pe_push pc_1) (pe_ic_lt h3 pR_1))) ?_
      refine pbr h (fun hc h => ?_) (fun hc h => ?_)
      · refine ci_T.step cb_X8_price_22 (pe_push pc_m1) ?_
        cases h
        exact ci_T.done (v := some (.int _)) cd_X8_price_23 ⟨rfl, rfl⟩
      · refine ci_T.step cb_X8_price_16 (ci_sq rfl (ci_sq (pe_push pc_9) (pe_ic_le h3 pR_9))) ?_
        refine pbr h (fun hc h => ?_) (fun hc h => ?_)
        · obtain ⟨h4, h⟩ := ck_some h
          replace h := jn_some h
          replace h := jn_some h
          refine ci_T.step cb_X8_price_24 (ci_sq rfl (ci_sq (pe_getR tq_0 rfl rfl) (ci_sq (pe_getR tq_4 rfl rfl) (ci_sq rfl (ci_sq (pe_ald (nI := 3) tq_5 rfl rfl h4) (ci_sq rfl (ci_sq rfl (ci_sq (pe_getR tq_0 rfl rfl) (ci_sq (pe_getR tq_4 rfl rfl) (ci_sq rfl (ci_sq rfl (ci_sq (pe_ast (nI := 3) tq_5 rfl rfl h4 rfl) rfl)))))))))))) ?_
          cases h
          exact ci_T.done (v := some (.int _)) cd_X8_price_45 ⟨rfl, rfl⟩
        · refine ci_T.step cb_X8_price_22 (pe_push pc_m1) ?_
          cases h
          exact ci_T.done (v := some (.int _)) cd_X8_price_23 ⟨rfl, rfl⟩
/-- X8_isNumber -/
def f_X8_isNumber (l0 : Int) : Option Int := ck (inR l0) (if l0 < 0 then some 0 else if 17575 < l0 then some 0 else some 1)
set_option maxRecDepth 100000 in
theorem s_X8_isNumber (d : Nat)   {ρ : pm} (o : pm) {l0 : Int} {rv : Int} (h : f_X8_isNumber l0 = some rv) : ci_Met d (yX8_isNumber, cX8_isNumber, 1, (some .boolean), [], 0, 0) [.int (Int32.ofInt l0)] (pk true ρ o) (pZ true rv ρ o) := by
  refine ci_met (by decide) (Nat.le_of_ble_eq_true rfl) ?_ ?_
  · rintro v w' ⟨⟨rfl, rfl⟩, hz⟩
    exact Z_of hz
  · change ci_T _ _ _ _ _ _ ([(0, .int (Int32.ofInt l0))], [], pk true ρ o) _
    unfold f_X8_isNumber at h
    obtain ⟨h1, h⟩ := ck_some h
    refine ci_T.step cb_X8_isNumber_0 (ci_sq rfl (pe_if_lt h1)) ?_
    refine pbr h (fun hc h => ?_) (fun hc h => ?_)
    · refine ci_T.step cb_X8_isNumber_15 (pe_push pc_0) ?_
      cases h
      exact ci_T.done (v := some (.int _)) cd_X8_isNumber_16 ⟨⟨rfl, rfl⟩, (Or.inl rfl)⟩
    · refine ci_T.step cb_X8_isNumber_4 (ci_sq rfl (ci_sq (pe_push pc_17575) (pe_ic_gt h1 pR_17575))) ?_
      refine pbr h (fun hc h => ?_) (fun hc h => ?_)
      · refine ci_T.step cb_X8_isNumber_15 (pe_push pc_0) ?_
        cases h
        exact ci_T.done (v := some (.int _)) cd_X8_isNumber_16 ⟨⟨rfl, rfl⟩, (Or.inl rfl)⟩
      · refine ci_T.step cb_X8_isNumber_11 (ci_sq (pe_push pc_1) rfl) ?_
        cases h
        exact ci_T.done (v := some (.int _)) cd_X8_isNumber_16 ⟨⟨rfl, rfl⟩, (Or.inr rfl)⟩
/-- X8_option -/
def f_X8_option (l0 l1 : Int) : Option Int := ck (inR l1) (if l1 = 0 then ck (inR l0) (some (Int.tmod l0 26)) else if l1 = 1 then ck (inR l0) (ck (inR (Int.tdiv l0 26)) (some (Int.tmod (Int.tdiv l0 26) 26))) else if l1 = 2 then ck (inR l0) (ck (inR (Int.tdiv l0 676)) (some (Int.tmod (Int.tdiv l0 676) 26))) else some 0)
set_option maxRecDepth 100000 in
theorem s_X8_option (d : Nat)   {ρ : pm} (o : pm) {l0 l1 : Int} {rv : Int} (h : f_X8_option l0 l1 = some rv) : ci_Met d (yX8_option, cX8_option, 2, (some .int), [], 0, 0) [.int (Int32.ofInt l0), .int (Int32.ofInt l1)] (pk true ρ o) (pP true rv ρ o) := by
  refine ci_met (by decide) (Nat.le_of_ble_eq_true rfl) ?_ ?_
  · rintro v w' ⟨rfl, rfl⟩
    trivial
  · change ci_T _ _ _ _ _ _ ([(0, .int (Int32.ofInt l0)), (1, .int (Int32.ofInt l1))], [], pk true ρ o) _
    unfold f_X8_option at h
    obtain ⟨h1, h⟩ := ck_some h
    refine ci_T.step cb_X8_option_0 (ci_sq rfl (pe_tsw h1 rfl)) ?_
    refine pite h (fun hc3 h => ?_) (fun hc3 h => ?_)
    · refine tsw_T hc3 rfl ?_
      obtain ⟨h2, h⟩ := ck_some h
      refine ci_T.step cb_X8_option_28 (ci_sq rfl (ci_sq (pe_push pc_26) (pe_irem ⟨h2, pR_26, by decide⟩))) ?_
      cases h
      exact ci_T.done (v := some (.int _)) cd_X8_option_32 ⟨rfl, rfl⟩
    refine pite h (fun hc6 h => ?_) (fun hc6 h => ?_)
    · refine tsw_T hc6 rfl ?_
      obtain ⟨h4, h⟩ := ck_some h
      obtain ⟨h5, h⟩ := ck_some h
      refine ci_T.step cb_X8_option_33 (ci_sq rfl (ci_sq (pe_push pc_26) (ci_sq (pe_idiv ⟨h4, pR_26, by decide⟩) (ci_sq (pe_push pc_26) (pe_irem ⟨h5, pR_26, by decide⟩))))) ?_
      cases h
      exact ci_T.done (v := some (.int _)) cd_X8_option_40 ⟨rfl, rfl⟩
    refine pite h (fun hc9 h => ?_) (fun hc9 h => ?_)
    · refine tsw_T hc9 rfl ?_
      obtain ⟨h7, h⟩ := ck_some h
      obtain ⟨h8, h⟩ := ck_some h
      refine ci_T.step cb_X8_option_41 (ci_sq rfl (ci_sq (pe_push pc_676) (ci_sq (pe_idiv ⟨h7, pR_676, by decide⟩) (ci_sq (pe_push pc_26) (pe_irem ⟨h8, pR_26, by decide⟩))))) ?_
      cases h
      exact ci_T.done (v := some (.int _)) cd_X8_option_49 ⟨rfl, rfl⟩
    refine tsw_D (hi := 2) rfl (by omega) ?_
    refine ci_T.step cb_X8_option_50 (pe_push pc_0) ?_
    cases h
    exact ci_T.done (v := some (.int _)) cd_X8_option_51 ⟨rfl, rfl⟩
/-- X2_refused -/
def L_X2_refused_2 (q : Nat) (ρ : pm) : Nat → Int → Int → Option Int
  | 0, _, _ => none
  | n + 1, l1, l2 => ck (inR l2) (if 3 ≤ l2 then some (-1) else (f_X8_option l1 l2).bind (fun v2 => ck (inR v2) (jn (fun (l1 l2 : Int) => jn (l2 + 1) (fun x4 => L_X2_refused_2 q ρ n l1 x4)) (fun j33 => if v2 = 0 then j33 l1 l2 else (f_X2_cuttable (q) l2 ρ).bind (fun v5 => (f_X8_has v5 (v2 - 1)).bind (fun v6 => if v6 = 0 then some l2 else j33 l1 l2))))))
def f_X2_refused (q : Nat) (l1 : Int) (ρ : pm) : Option Int := L_X2_refused_2 q ρ fu l1 0
set_option maxRecDepth 100000 in
theorem t_X2_refused_2 {d : Nat} {q : Nat} (hq : isF q) {ρ : pm} {o : pm} {rv : Int}   : ∀ (n : Nat) (l1 l2 : Int), L_X2_refused_2 q ρ n l1 l2 = some rv → ci_T yX2_refused cX2_refused 4 (some .int) (d + 3) 2 ([(0, .ref (q + 1)), (1, .int (Int32.ofInt l1)), (2, .int (Int32.ofInt l2))], [], pk true ρ o) (pP true rv ρ o) := by
  intro n
  induction n with
  | zero =>
    intro l1 l2 h
    rw [L_X2_refused_2] at h
    cases h
  | succ n ih =>
    intro l1 l2 h
    rw [L_X2_refused_2] at h
    obtain ⟨h1, h⟩ := ck_some h
    refine ci_T.step cb_X2_refused_2 (ci_sq rfl (ci_sq (pe_push pc_3) (pe_ic_ge h1 pR_3))) ?_
    refine pbr h (fun hc h => ?_) (fun hc h => ?_)
    · refine ci_T.step cb_X2_refused_39 (pe_push pc_m1) ?_
      cases h
      exact ci_T.done (v := some (.int _)) cd_X2_refused_40 ⟨rfl, rfl⟩
    · refine ci_T.step cb_X2_refused_7 (ci_sq rfl rfl) ?_
      obtain ⟨v2, hv, h⟩ := bn_some h
      refine ci_T.call (as := [_, _]) (rest := []) kc_X8_option ki_X8_option (by decide) cl_X2_refused_9 rfl (Nat.le_of_ble_eq_true rfl) trivial (s_X8_option (d + 2) o hv) ?_
      rintro _ _ ⟨rfl, rfl⟩
      clear hv
      obtain ⟨h3, h⟩ := ck_some h
      refine ci_T.step cb_X2_refused_12 (ci_sq rfl (ci_sq rfl (pe_if_eq h3))) ?_
      obtain ⟨j33, hj, h⟩ := jn_ex h
      have J33 : ∀ (l1 l2 : Int), j33 l1 l2 = some rv → ci_T yX2_refused cX2_refused 4 (some .int) (d + 3) 33 ([(0, .ref (q + 1)), (1, .int (Int32.ofInt l1)), (2, .int (Int32.ofInt l2))], [], pk true ρ o) (pP true rv ρ o) := by
        intro l1 l2 h
        subst hj
        replace h := jn_some h
        refine ci_T.step cb_X2_refused_33 (ci_sq (pe_inc rfl) rfl) ?_
        exact ci_T.sub [1, 2, 0] (ih _ _ h) rfl
      clear hj
      refine pbr h (fun hc h => ?_) (fun hc h => ?_)
      · exact ci_T.sub [1, 2, 3] (J33 _ _ h) rfl
      · refine ci_T.step cb_X2_refused_17 (ci_sq rfl rfl) ?_
        obtain ⟨v5, hv, h⟩ := bn_some h
        refine ci_T.call (as := [_, _]) (rest := []) kc_X2_cuttable ki_X2_cuttable (by decide) cl_X2_refused_19 rfl (Nat.le_of_ble_eq_true rfl) ⟨⟨_, rfl⟩, _, _, _, rfl, pk_obj hq.1 hq.2.2.2.1 _ _⟩ (s_X2_cuttable d (q) hq o hv) ?_
        rintro _ _ ⟨rfl, rfl⟩
        clear hv
        refine ci_T.step cb_X2_refused_22 (ci_sq rfl (ci_sq (pe_push pc_1) pe_isub)) ?_
        obtain ⟨v6, hv, h⟩ := bn_some h
        refine ci_T.call (as := [_, _]) (rest := []) kc_X8_has ki_X8_has (by decide) cl_X2_refused_25 rfl (Nat.le_of_ble_eq_true rfl) trivial (s_X8_has (d + 2) o hv) ?_
        rintro _ _ ⟨⟨rfl, rfl⟩, hz7⟩
        clear hv
        refine ci_T.step cb_X2_refused_28 (pe_if_ne (Z_R hz7)) ?_
        refine pbrn h (fun hc h => ?_) (fun hc h => ?_)
        · exact ci_T.sub [1, 2, 3] (J33 _ _ h) rfl
        · refine ci_T.step cb_X2_refused_31 rfl ?_
          cases h
          exact ci_T.done (v := some (.int _)) cd_X2_refused_32 ⟨rfl, rfl⟩
set_option maxRecDepth 100000 in
theorem s_X2_refused (d : Nat) (q : Nat) (hq : isF q) {ρ : pm} (o : pm) {l1 : Int} {rv : Int} (h : f_X2_refused q l1 ρ = some rv) : ci_Met (d + 3) (yX2_refused, cX2_refused, 4, (some .int), [], 0, 0) [.ref (q + 1), .int (Int32.ofInt l1)] (pk true ρ o) (pP true rv ρ o) := by
  refine ci_met (by decide) (Nat.le_of_ble_eq_true rfl) ?_ ?_
  · rintro v w' ⟨rfl, rfl⟩
    trivial
  · change ci_T _ _ _ _ _ _ ([(0, .ref (q + 1)), (1, .int (Int32.ofInt l1))], [], pk true ρ o) _
    unfold f_X2_refused at h
    refine ci_T.step cb_X2_refused_0 (ci_sq (pe_push pc_0) rfl) ?_
    exact ci_T.sub [1, 2, 0] (t_X2_refused_2 hq fu _ _ h) rfl
/-- X8_refusal -/
def f_X8_refusal (q : Nat) (l1 l2 : Int) (ρ : pm) : Option Int := (f_X8_isNumber l1).bind (fun v1 => if v1 = 0 then some (-1) else (f_X2_refused (q) l1 ρ).bind (fun v3 => ck (inR v3) (if v3 < 0 then ck (inR l2) (if l2 < 999 then some 0 else some (-3)) else some (-2))))
set_option maxRecDepth 100000 in
theorem s_X8_refusal (d : Nat) (q : Nat) (hq : isF q) {ρ : pm} (o : pm) {l1 l2 : Int} {rv : Int} (h : f_X8_refusal q l1 l2 ρ = some rv) : ci_Met (d + 4) (yX8_refusal, cX8_refusal, 3, (some .int), [], 0, 0) [.ref (q + 1), .int (Int32.ofInt l1), .int (Int32.ofInt l2)] (pk true ρ o) (pP true rv ρ o) := by
  refine ci_met (by decide) (Nat.le_of_ble_eq_true rfl) ?_ ?_
  · rintro v w' ⟨rfl, rfl⟩
    trivial
  · change ci_T _ _ _ _ _ _ ([(0, .ref (q + 1)), (1, .int (Int32.ofInt l1)), (2, .int (Int32.ofInt l2))], [], pk true ρ o) _
    unfold f_X8_refusal at h
    refine ci_T.step cb_X8_refusal_0 rfl ?_
    obtain ⟨v1, hv, h⟩ := bn_some h
    refine ci_T.call (as := [_]) (rest := []) kc_X8_isNumber ki_X8_isNumber (by decide) cl_X8_refusal_1 rfl (Nat.le_of_ble_eq_true rfl) trivial (s_X8_isNumber (d + 3) o hv) ?_
    rintro _ _ ⟨⟨rfl, rfl⟩, hz2⟩
    clear hv
    refine ci_T.step cb_X8_refusal_4 (pe_if_ne (Z_R hz2)) ?_
    refine pbrn h (fun hc h => ?_) (fun hc h => ?_)
    · refine ci_T.step cb_X8_refusal_9 (ci_sq rfl rfl) ?_
      obtain ⟨v3, hv, h⟩ := bn_some h
      refine ci_T.call (as := [_, _]) (rest := []) kc_X2_refused ki_X2_refused (by decide) cl_X8_refusal_11 rfl (Nat.le_of_ble_eq_true rfl) ⟨⟨_, rfl⟩, _, _, _, rfl, pk_obj hq.1 hq.2.2.2.1 _ _⟩ (s_X2_refused d (q) hq o hv) ?_
      rintro _ _ ⟨rfl, rfl⟩
      clear hv
      obtain ⟨h4, h⟩ := ck_some h
      refine ci_T.step cb_X8_refusal_14 (pe_if_lt h4) ?_
      refine pbr h (fun hc h => ?_) (fun hc h => ?_)
      · obtain ⟨h5, h⟩ := ck_some h
        refine ci_T.step cb_X8_refusal_20 (ci_sq rfl (ci_sq (pe_push pc_999) (pe_ic_lt h5 pR_999))) ?_
        refine pbr h (fun hc h => ?_) (fun hc h => ?_)
        · refine ci_T.step cb_X8_refusal_32 (pe_push pc_0) ?_
          cases h
          exact ci_T.done (v := some (.int _)) cd_X8_refusal_33 ⟨rfl, rfl⟩
        · refine ci_T.step cb_X8_refusal_27 (ci_sq (pe_push pc_m3) rfl) ?_
          cases h
          exact ci_T.done (v := some (.int _)) cd_X8_refusal_33 ⟨rfl, rfl⟩
      · refine ci_T.step cb_X8_refusal_17 (pe_push pc_m2) ?_
        cases h
        exact ci_T.done (v := some (.int _)) cd_X8_refusal_19 ⟨rfl, rfl⟩
    · refine ci_T.step cb_X8_refusal_7 (pe_push pc_m1) ?_
      cases h
      exact ci_T.done (v := some (.int _)) cd_X8_refusal_8 ⟨rfl, rfl⟩
/-- X2_carrySilt -/
def L_X2_carrySilt_4 (q : Nat) (K47 : Int → pm → Option pm) : Nat → Int → Int → pm → Option pm
  | 0, _, _, _ => none
  | n + 1, l1, l2, ρ => ck (inR l2) (if 3 < l2 then K47 l1 ρ else ck (0 ≤ l2 ∧ l2 < 25) (ck (0 ≤ ρ (q + 2) l2 ∧ ρ (q + 2) l2 < 25) (ck (inR (ρ (q + 1) (ρ (q + 2) l2))) (jn (fun (l1 l2 : Int) (ρ : pm) => jn (l2 + 1) (fun x5 => L_X2_carrySilt_4 q K47 n l1 x5 ρ)) (fun j41 => if (ρ (q + 1) (ρ (q + 2) l2)) ≤ 0 then j41 l1 l2 ρ else jn (pup ρ (q + 1) (ρ (q + 2) l2) ((ρ (q + 1) (ρ (q + 2) l2)) - 1)) (fun ρ6 => jn (l1 + 1) (fun x7 => j41 x7 l2 ρ6)))))))
def f_X2_carrySilt (q : Nat) (ρ : pm) : Option pm := L_X2_carrySilt_4 q (fun (l1 : Int) (ρ : pm) => ck (0 ≤ (ρ q 3) - 1 ∧ (ρ q 3) - 1 < 25) (ck (0 ≤ ρ (q + 2) ((ρ q 3) - 1) ∧ ρ (q + 2) ((ρ q 3) - 1) < 25) (jn (pup ρ (q + 1) (ρ (q + 2) ((ρ q 3) - 1)) ((ρ (q + 1) (ρ (q + 2) ((ρ q 3) - 1))) + l1)) (fun ρ10 => some ρ10)))) fu 0 1 ρ
set_option maxRecDepth 100000 in
theorem t_X2_carrySilt_4 {d : Nat} {q : Nat} (hq : isF q)  {o : pm} {rρ : pm} {K47 : Int → pm → Option pm} (hK47 : ∀ (l1 : Int) (ρ : pm), K47 l1 ρ = some rρ → ci_T yX2_carrySilt cX2_carrySilt 3 none d 47 ([(0, .ref (q + 1)), (1, .int (Int32.ofInt l1))], [], pk true ρ o) (pV true rρ o)) : ∀ (n : Nat) (l1 l2 : Int) (ρ : pm), L_X2_carrySilt_4 q K47 n l1 l2 ρ = some rρ → ci_T yX2_carrySilt cX2_carrySilt 3 none d 4 ([(0, .ref (q + 1)), (1, .int (Int32.ofInt l1)), (2, .int (Int32.ofInt l2))], [], pk true ρ o) (pV true rρ o) := by
  intro n
  induction n with
  | zero =>
    intro l1 l2 ρ h
    rw [L_X2_carrySilt_4] at h
    cases h
  | succ n ih =>
    intro l1 l2 ρ h
    rw [L_X2_carrySilt_4] at h
    obtain ⟨h1, h⟩ := ck_some h
    refine ci_T.step cb_X2_carrySilt_4 (ci_sq rfl (ci_sq (pe_push pc_3) (pe_ic_gt h1 pR_3))) ?_
    refine pbr h (fun hc h => ?_) (fun hc h => ?_)
    · exact ci_T.sub [0, 1] (hK47 _ _ h) rfl
    · obtain ⟨h2, h⟩ := ck_some h
      obtain ⟨h3, h⟩ := ck_some h
      obtain ⟨h4, h⟩ := ck_some h
      refine ci_T.step cb_X2_carrySilt_9 (ci_sq rfl (ci_sq (pe_getR hq.1 hq.2.2.2.1 rfl) (ci_sq rfl (ci_sq (pe_getR hq.1 hq.2.2.2.1 rfl) (ci_sq rfl (ci_sq (pe_ald (nI := 25) hq.2.2.1 hq.2.2.2.2.2 rfl h2) (ci_sq (pe_ald (nI := 25) hq.2.1 hq.2.2.2.2.1 rfl h3) (pe_if_le h4)))))))) ?_
      obtain ⟨j41, hj, h⟩ := jn_ex h
      have J41 : ∀ (l1 l2 : Int) (ρ : pm), j41 l1 l2 ρ = some rρ → ci_T yX2_carrySilt cX2_carrySilt 3 none d 41 ([(0, .ref (q + 1)), (1, .int (Int32.ofInt l1)), (2, .int (Int32.ofInt l2))], [], pk true ρ o) (pV true rρ o) := by
        intro l1 l2 ρ h
        subst hj
        replace h := jn_some h
        refine ci_T.step cb_X2_carrySilt_41 (ci_sq (pe_inc rfl) rfl) ?_
        exact ci_T.sub [1, 2, 0] (ih _ _ _ h) rfl
      clear hj
      refine pbr h (fun hc h => ?_) (fun hc h => ?_)
      · exact ci_T.sub [0, 1, 2] (J41 _ _ _ h) rfl
      · replace h := jn_some h
        replace h := jn_some h
        refine ci_T.step cb_X2_carrySilt_23 (ci_sq rfl (ci_sq (pe_getR hq.1 hq.2.2.2.1 rfl) (ci_sq rfl (ci_sq (pe_getR hq.1 hq.2.2.2.1 rfl) (ci_sq rfl (ci_sq (pe_ald (nI := 25) hq.2.2.1 hq.2.2.2.2.2 rfl h2) (ci_sq rfl (ci_sq (pe_ald (nI := 25) hq.2.1 hq.2.2.2.2.1 rfl h3) (ci_sq (pe_push pc_1) (ci_sq pe_isub (ci_sq (pe_ast (nI := 25) hq.2.1 hq.2.2.2.2.1 rfl h3 rfl) (pe_inc rfl)))))))))))) ?_
        exact ci_T.sub [1, 0, 2] (J41 _ _ _ h) rfl
set_option maxRecDepth 100000 in
theorem s_X2_carrySilt (d : Nat) (q : Nat) (hq : isF q) {ρ : pm} (o : pm)  {rρ : pm} (h : f_X2_carrySilt q ρ = some rρ) : ci_Met d (yX2_carrySilt, cX2_carrySilt, 3, none, [], 0, 0) [.ref (q + 1)] (pk true ρ o) (pV true rρ o) := by
  refine ci_met (by decide) (Nat.le_of_ble_eq_true rfl) ?_ ?_
  · rintro v w' ⟨rfl, rfl⟩
    trivial
  · change ci_T _ _ _ _ _ _ ([(0, .ref (q + 1))], [], pk true ρ o) _
    unfold f_X2_carrySilt at h
    refine ci_T.step cb_X2_carrySilt_0 (ci_sq (pe_push pc_0) (ci_sq rfl (ci_sq (pe_push pc_1) rfl))) ?_
    refine ci_T.sub [2, 1, 0] (t_X2_carrySilt_4 hq ?_ fu _ _ _ h) rfl
    · intro l1 ρ h
      obtain ⟨h8, h⟩ := ck_some h
      obtain ⟨h9, h⟩ := ck_some h
      replace h := jn_some h
      refine ci_T.step cb_X2_carrySilt_47 (ci_sq rfl (ci_sq (pe_getR hq.1 hq.2.2.2.1 rfl) (ci_sq rfl (ci_sq (pe_getR hq.1 hq.2.2.2.1 rfl) (ci_sq rfl (ci_sq (pe_getI (kI := 3) hq.1 hq.2.2.2.1 rfl rfl) (ci_sq (pe_push pc_1) (ci_sq pe_isub (ci_sq (pe_ald (nI := 25) hq.2.2.1 hq.2.2.2.2.2 rfl h8) (ci_sq rfl (ci_sq (pe_ald (nI := 25) hq.2.1 hq.2.2.2.2.1 rfl h9) (ci_sq rfl (ci_sq pe_iadd (pe_ast (nI := 25) hq.2.1 hq.2.2.2.2.1 rfl h9 rfl)))))))))))))) ?_
      cases h
      exact ci_T.done (v := none) cd_X2_carrySilt_67 ⟨rfl, rfl⟩
/-- X2_pass -/
def L_X2_pass_2 (q : Nat) (K35 : pm → Option pm) : Nat → Int → Int → pm → Option pm
  | 0, _, _, _ => none
  | n + 1, l1, l2, ρ => ck (inR l2) (if 3 ≤ l2 then K35 ρ else (f_X8_option l1 l2).bind (fun v2 => ck (inR v2) (jn (fun (l1 l2 : Int) (ρ : pm) => jn (l2 + 1) (fun x4 => L_X2_pass_2 q K35 n l1 x4 ρ)) (fun j29 => if v2 ≤ 0 then j29 l1 l2 ρ else ck (0 ≤ v2 - 1 ∧ v2 - 1 < 25) (jn (pup ρ (q + 1) (v2 - 1) ((ρ (q + 1) (v2 - 1)) - 3)) (fun ρ6 => j29 l1 l2 ρ6))))))
def f_X2_pass (q : Nat) (l1 : Int) (ρ : pm) : Option pm := L_X2_pass_2 q (fun (ρ : pm) => (f_X2_trace (q) ρ).bind (fun ρ7 => ck (inR (ρ7 q 7)) (if (ρ7 q 7) = 0 then some ρ7 else ck (inR (ρ7 q 3)) (if (ρ7 q 3) < 4 then some ρ7 else (f_X2_carrySilt (q) ρ7).bind (fun ρ10 => (f_X2_trace (q) ρ10).bind (fun ρ11 => some ρ11)))))) fu l1 0 ρ
set_option maxRecDepth 100000 in
theorem t_X2_pass_2 {d : Nat} {q : Nat} (hq : isF q)  {o : pm} {rρ : pm} {K35 : pm → Option pm} (hK35 : ∀ (ρ : pm), K35 ρ = some rρ → ci_T yX2_pass cX2_pass 4 none (d + 3) 35 ([(0, .ref (q + 1))], [], pk true ρ o) (pV true rρ o)) : ∀ (n : Nat) (l1 l2 : Int) (ρ : pm), L_X2_pass_2 q K35 n l1 l2 ρ = some rρ → ci_T yX2_pass cX2_pass 4 none (d + 3) 2 ([(0, .ref (q + 1)), (1, .int (Int32.ofInt l1)), (2, .int (Int32.ofInt l2))], [], pk true ρ o) (pV true rρ o) := by
  intro n
  induction n with
  | zero =>
    intro l1 l2 ρ h
    rw [L_X2_pass_2] at h
    cases h
  | succ n ih =>
    intro l1 l2 ρ h
    rw [L_X2_pass_2] at h
    obtain ⟨h1, h⟩ := ck_some h
    refine ci_T.step cb_X2_pass_2 (ci_sq rfl (ci_sq (pe_push pc_3) (pe_ic_ge h1 pR_3))) ?_
    refine pbr h (fun hc h => ?_) (fun hc h => ?_)
    · exact ci_T.sub [0] (hK35 _ h) rfl
    · refine ci_T.step cb_X2_pass_7 (ci_sq rfl rfl) ?_
      obtain ⟨v2, hv, h⟩ := bn_some h
      refine ci_T.call (as := [_, _]) (rest := []) kc_X8_option ki_X8_option (by decide) cl_X2_pass_9 rfl (Nat.le_of_ble_eq_true rfl) trivial (s_X8_option (d + 2) o hv) ?_
      rintro _ _ ⟨rfl, rfl⟩
      clear hv
      obtain ⟨h3, h⟩ := ck_some h
      refine ci_T.step cb_X2_pass_12 (ci_sq rfl (ci_sq rfl (pe_if_le h3))) ?_
      obtain ⟨j29, hj, h⟩ := jn_ex h
      have J29 : ∀ (l1 l2 : Int) (ρ : pm), j29 l1 l2 ρ = some rρ → ci_T yX2_pass cX2_pass 4 none (d + 3) 29 ([(0, .ref (q + 1)), (1, .int (Int32.ofInt l1)), (2, .int (Int32.ofInt l2))], [], pk true ρ o) (pV true rρ o) := by
        intro l1 l2 ρ h
        subst hj
        replace h := jn_some h
        refine ci_T.step cb_X2_pass_29 (ci_sq (pe_inc rfl) rfl) ?_
        exact ci_T.sub [1, 2, 0] (ih _ _ _ h) rfl
      clear hj
      refine pbr h (fun hc h => ?_) (fun hc h => ?_)
      · exact ci_T.sub [1, 2, 3] (J29 _ _ _ h) rfl
      · obtain ⟨h5, h⟩ := ck_some h
        replace h := jn_some h
        refine ci_T.step cb_X2_pass_17 (ci_sq rfl (ci_sq (pe_getR hq.1 hq.2.2.2.1 rfl) (ci_sq rfl (ci_sq (pe_push pc_1) (ci_sq pe_isub (ci_sq rfl (ci_sq (pe_ald (nI := 25) hq.2.1 hq.2.2.2.2.1 rfl h5) (ci_sq (pe_push pc_3) (ci_sq pe_isub (pe_ast (nI := 25) hq.2.1 hq.2.2.2.2.1 rfl h5 rfl)))))))))) ?_
        exact ci_T.sub [1, 2, 3] (J29 _ _ _ h) rfl
set_option maxRecDepth 100000 in
theorem s_X2_pass (d : Nat) (q : Nat) (hq : isF q) {ρ : pm} (o : pm) {l1 : Int} {rρ : pm} (h : f_X2_pass q l1 ρ = some rρ) : ci_Met (d + 3) (yX2_pass, cX2_pass, 4, none, [], 0, 0) [.ref (q + 1), .int (Int32.ofInt l1)] (pk true ρ o) (pV true rρ o) := by
  refine ci_met (by decide) (Nat.le_of_ble_eq_true rfl) ?_ ?_
  · rintro v w' ⟨rfl, rfl⟩
    trivial
  · change ci_T _ _ _ _ _ _ ([(0, .ref (q + 1)), (1, .int (Int32.ofInt l1))], [], pk true ρ o) _
    unfold f_X2_pass at h
    refine ci_T.step cb_X2_pass_0 (ci_sq (pe_push pc_0) rfl) ?_
    refine ci_T.sub [1, 2, 0] (t_X2_pass_2 hq ?_ fu _ _ _ h) rfl
    · intro ρ h
      refine ci_T.step cb_X2_pass_35 rfl ?_
      obtain ⟨ρ7, hv, h⟩ := bn_some h
      refine ci_T.call (as := [_]) (rest := []) kc_X2_trace ki_X2_trace (by decide) cl_X2_pass_36 rfl (Nat.le_of_ble_eq_true rfl) ⟨⟨_, rfl⟩, _, _, _, rfl, pk_obj hq.1 hq.2.2.2.1 _ _⟩ (s_X2_trace d (q) hq o hv) ?_
      rintro _ _ ⟨rfl, rfl⟩
      clear hv
      obtain ⟨h8, h⟩ := ck_some h
      refine ci_T.step cb_X2_pass_39 (ci_sq rfl (ci_sq (pe_getI (kI := 7) hq.1 hq.2.2.2.1 rfl rfl) (pe_if_eq h8))) ?_
      refine pbr h (fun hc h => ?_) (fun hc h => ?_)
      · cases h
        exact ci_T.done (v := none) cd_X2_pass_62 ⟨rfl, rfl⟩
      · obtain ⟨h9, h⟩ := ck_some h
        refine ci_T.step cb_X2_pass_46 (ci_sq rfl (ci_sq (pe_getI (kI := 3) hq.1 hq.2.2.2.1 rfl rfl) (ci_sq (pe_push pc_4) (pe_ic_lt h9 pR_4)))) ?_
        refine pbr h (fun hc h => ?_) (fun hc h => ?_)
        · cases h
          exact ci_T.done (v := none) cd_X2_pass_62 ⟨rfl, rfl⟩
        · refine ci_T.step cb_X2_pass_54 rfl ?_
          obtain ⟨ρ10, hv, h⟩ := bn_some h
          refine ci_T.call (as := [_]) (rest := []) kc_X2_carrySilt ki_X2_carrySilt (by decide) cl_X2_pass_55 rfl (Nat.le_of_ble_eq_true rfl) ⟨⟨_, rfl⟩, _, _, _, rfl, pk_obj hq.1 hq.2.2.2.1 _ _⟩ (s_X2_carrySilt (d + 2) (q) hq o hv) ?_
          rintro _ _ ⟨rfl, rfl⟩
          clear hv
          refine ci_T.step cb_X2_pass_58 rfl ?_
          obtain ⟨ρ11, hv, h⟩ := bn_some h
          refine ci_T.call (as := [_]) (rest := []) kc_X2_trace ki_X2_trace (by decide) cl_X2_pass_59 rfl (Nat.le_of_ble_eq_true rfl) ⟨⟨_, rfl⟩, _, _, _, rfl, pk_obj hq.1 hq.2.2.2.1 _ _⟩ (s_X2_trace d (q) hq o hv) ?_
          rintro _ _ ⟨rfl, rfl⟩
          clear hv
          cases h
          exact ci_T.done (v := none) cd_X2_pass_62 ⟨rfl, rfl⟩
/-- X8_year -/
def f_X8_year (l1 : Int) (ρ : pm) : Option (Int × pm) := (f_X8_refusal 8 l1 (ρ 4 4) ρ).bind (fun v1 => ck (inR v1) (if v1 = 0 then (f_X2_pass 8 l1 ρ).bind (fun ρ3 => jn (pup ρ3 4 4 ((ρ3 4 4) + 1)) (fun ρ4 => jn (pup ρ4 28 6 0) (fun ρ5 => some (ρ5 8 3, ρ5)))) else some (v1, ρ)))
set_option maxRecDepth 100000 in
theorem s_X8_year (d : Nat)   {ρ : pm} (o : pm) {l1 : Int} {rv : Int} {rρ : pm} (h : f_X8_year l1 ρ = some (rv, rρ)) : ci_Met (d + 5) (yX8_year, cX8_year, 3, (some .int), [], 0, 0) [.ref 1, .int (Int32.ofInt l1)] (pk true ρ o) (pP true rv rρ o) := by
  refine ci_met (by decide) (Nat.le_of_ble_eq_true rfl) ?_ ?_
  · rintro v w' ⟨rfl, rfl⟩
    trivial
  · change ci_T _ _ _ _ _ _ ([(0, .ref 1), (1, .int (Int32.ofInt l1))], [], pk true ρ o) _
    unfold f_X8_year at h
    refine ci_T.step cb_X8_year_0 (ci_sq rfl (ci_sq (pe_getR tq_0 rfl rfl) (ci_sq (pe_getR tq_4 rfl rfl) (ci_sq rfl (ci_sq rfl (ci_sq (pe_getR tq_0 rfl rfl) (pe_getI (kI := 4) tq_4 rfl rfl rfl))))))) ?_
    obtain ⟨v1, hv, h⟩ := bn_some h
    refine ci_T.call (as := [_, _, _]) (rest := []) kc_X8_refusal ki_X8_refusal (by decide) cl_X8_year_15 rfl (Nat.le_of_ble_eq_true rfl) trivial (s_X8_refusal d 8 iF_8 o hv) ?_
    rintro _ _ ⟨rfl, rfl⟩
    clear hv
    obtain ⟨h2, h⟩ := ck_some h
    refine ci_T.step cb_X8_year_18 (ci_sq rfl (ci_sq rfl (pe_if_eq h2))) ?_
    refine pbr h (fun hc h => ?_) (fun hc h => ?_)
    · refine ci_T.step cb_X8_year_25 (ci_sq rfl (ci_sq (pe_getR tq_0 rfl rfl) (ci_sq (pe_getR tq_4 rfl rfl) rfl))) ?_
      obtain ⟨ρ3, hv, h⟩ := bn_some h
      refine ci_T.call (as := [_, _]) (rest := []) kc_X2_pass ki_X2_pass (by decide) cl_X8_year_33 rfl (Nat.le_of_ble_eq_true rfl) ⟨⟨_, rfl⟩, _, _, _, rfl, pk_obj tq_8 rfl _ _⟩ (s_X2_pass (d + 1) 8 iF_8 o hv) ?_
      rintro _ _ ⟨rfl, rfl⟩
      clear hv
      replace h := jn_some h
      replace h := jn_some h
      refine ci_T.step cb_X8_year_36 (ci_sq rfl (ci_sq (pe_getR tq_0 rfl rfl) (ci_sq rfl (ci_sq (pe_getI (kI := 4) tq_4 rfl rfl rfl) (ci_sq (pe_push pc_1) (ci_sq pe_iadd (ci_sq (pe_putI (kI := 4) tq_4 rfl rfl rfl) (ci_sq rfl (ci_sq (pe_getR tq_0 rfl rfl) (ci_sq (pe_push pc_0) (ci_sq (pe_putZ (kI := 6) tq_28 rfl rfl rfl (Or.inl rfl)) (ci_sq rfl (ci_sq (pe_getR tq_0 rfl rfl) (ci_sq (pe_getR tq_4 rfl rfl) (pe_getI (kI := 3) tq_8 rfl rfl rfl))))))))))))))) ?_
      cases h
      exact ci_T.done (v := some (.int _)) cd_X8_year_67 ⟨rfl, rfl⟩
    · refine ci_T.step cb_X8_year_23 rfl ?_
      cases h
      exact ci_T.done (v := some (.int _)) cd_X8_year_24 ⟨rfl, rfl⟩
/-- X2_copy -/
def f_X2_copy (q p : Nat) (ρ : pm) : Option pm := jn (pcp ρ (p + 1) 0 (q + 1) 0 25) (fun ρ1 => jn (pcp ρ1 (p + 2) 0 (q + 2) 0 25) (fun ρ2 => jn (pup ρ2 q 3 (ρ2 p 3)) (fun ρ3 => jn (pup ρ3 q 4 (ρ3 p 4)) (fun ρ4 => jn (pup ρ4 q 5 (ρ4 p 5)) (fun ρ5 => jn (pup ρ5 q 6 (ρ5 p 6)) (fun ρ6 => ck (ρ6 p 7 = 0 ∨ ρ6 p 7 = 1) (jn (pup ρ6 q 7 (ρ6 p 7)) (fun ρ8 => some ρ8))))))))
set_option maxRecDepth 100000 in
theorem s_X2_copy (d : Nat) (q p : Nat) (hq : isF q) (hp : isF p) {ρ : pm} (o : pm)  {rρ : pm} (h : f_X2_copy q p ρ = some rρ) : ci_Met d (yX2_copy, cX2_copy, 2, none, [], 0, 0) [.ref (q + 1), .ref (p + 1)] (pk true ρ o) (pV true rρ o) := by
  refine ci_met (by decide) (Nat.le_of_ble_eq_true rfl) ?_ ?_
  · rintro v w' ⟨rfl, rfl⟩
    trivial
  · change ci_T _ _ _ _ _ _ ([(0, .ref (q + 1)), (1, .ref (p + 1))], [], pk true ρ o) _
    unfold f_X2_copy at h
    replace h := jn_some h
    replace h := jn_some h
    replace h := jn_some h
    replace h := jn_some h
    replace h := jn_some h
    replace h := jn_some h
    obtain ⟨h7, h⟩ := ck_some h
    replace h := jn_some h
    refine ci_T.step cb_X2_copy_0 (ci_sq rfl (ci_sq (pe_getR hp.1 hp.2.2.2.1 rfl) (ci_sq (pe_push pc_0) (ci_sq rfl (ci_sq (pe_getR hq.1 hq.2.2.2.1 rfl) (ci_sq (pe_push pc_0) (ci_sq (pe_push pc_25) (ci_sq (pe_copy (N0 := 25) (N1 := 25) hp.2.1 hq.2.1 hp.2.2.2.2.1 hq.2.2.2.2.1 rfl rfl ⟨by decide, by decide, by decide, by decide, by decide⟩ (Nat.le_of_ble_eq_true rfl)) (ci_sq rfl (ci_sq (pe_getR hp.1 hp.2.2.2.1 rfl) (ci_sq (pe_push pc_0) (ci_sq rfl (ci_sq (pe_getR hq.1 hq.2.2.2.1 rfl) (ci_sq (pe_push pc_0) (ci_sq (pe_push pc_25) (ci_sq (pe_copy (N0 := 25) (N1 := 25) hp.2.2.1 hq.2.2.1 hp.2.2.2.2.2 hq.2.2.2.2.2 rfl rfl ⟨by decide, by decide, by decide, by decide, by decide⟩ (Nat.le_of_ble_eq_true rfl)) (ci_sq rfl (ci_sq rfl (ci_sq (pe_getI (kI := 3) hp.1 hp.2.2.2.1 rfl rfl) (ci_sq (pe_putI (kI := 3) hq.1 hq.2.2.2.1 rfl rfl) (ci_sq rfl (ci_sq rfl (ci_sq (pe_getI (kI := 4) hp.1 hp.2.2.2.1 rfl rfl) (ci_sq (pe_putI (kI := 4) hq.1 hq.2.2.2.1 rfl rfl) (ci_sq rfl (ci_sq rfl (ci_sq (pe_getI (kI := 5) hp.1 hp.2.2.2.1 rfl rfl) (ci_sq (pe_putI (kI := 5) hq.1 hq.2.2.2.1 rfl rfl) (ci_sq rfl (ci_sq rfl (ci_sq (pe_getI (kI := 6) hp.1 hp.2.2.2.1 rfl rfl) (ci_sq (pe_putI (kI := 6) hq.1 hq.2.2.2.1 rfl rfl) (ci_sq rfl (ci_sq rfl (ci_sq (pe_getI (kI := 7) hp.1 hp.2.2.2.1 rfl rfl) (pe_putZ (kI := 7) hq.1 hq.2.2.2.1 rfl rfl h7)))))))))))))))))))))))))))))))))))) ?_
    cases h
    exact ci_T.done (v := none) cd_X2_copy_70 ⟨rfl, rfl⟩
/-- X8_would -/
def f_X8_would (l1 l2 : Int) (ρ : pm) : Option (Int × pm) := (f_X8_isNumber l1).bind (fun v1 => if v1 = 0 then some ((-1), ρ) else (f_X3_hasFarm l2 ρ).bind (fun v3 => if v3 = 0 then some ((-1), ρ) else (f_X2_refused 8 l1 ρ).bind (fun v5 => ck (inR v5) (if v5 < 0 then (f_X2_copy 25 8 ρ).bind (fun ρ7 => (f_X2_pass 25 l1 ρ7).bind (fun ρ8 => (f_X7_gain l2 (ρ8 25 4) ρ8).bind (fun v9 => some (v9, ρ8)))) else some ((-2), ρ)))))
set_option maxRecDepth 100000 in
theorem s_X8_would (d : Nat)   {ρ : pm} (o : pm) {l1 l2 : Int} {rv : Int} {rρ : pm} (h : f_X8_would l1 l2 ρ = some (rv, rρ)) : ci_Met (d + 4) (yX8_would, cX8_would, 3, (some .int), [], 0, 0) [.ref 1, .int (Int32.ofInt l1), .int (Int32.ofInt l2)] (pk true ρ o) (pP true rv rρ o) := by
  refine ci_met (by decide) (Nat.le_of_ble_eq_true rfl) ?_ ?_
  · rintro v w' ⟨rfl, rfl⟩
    trivial
  · change ci_T _ _ _ _ _ _ ([(0, .ref 1), (1, .int (Int32.ofInt l1)), (2, .int (Int32.ofInt l2))], [], pk true ρ o) _
    unfold f_X8_would at h
    refine ci_T.step cb_X8_would_0 rfl ?_
    obtain ⟨v1, hv, h⟩ := bn_some h
    refine ci_T.call (as := [_]) (rest := []) kc_X8_isNumber ki_X8_isNumber (by decide) cl_X8_would_1 rfl (Nat.le_of_ble_eq_true rfl) trivial (s_X8_isNumber (d + 3) o hv) ?_
    rintro _ _ ⟨⟨rfl, rfl⟩, hz2⟩
    clear hv
    refine ci_T.step cb_X8_would_4 (pe_if_eq (Z_R hz2)) ?_
    refine pbr h (fun hc h => ?_) (fun hc h => ?_)
    · refine ci_T.step cb_X8_would_18 (pe_push pc_m1) ?_
      cases h
      exact ci_T.done (v := some (.int _)) cd_X8_would_19 ⟨rfl, rfl⟩
    · refine ci_T.step cb_X8_would_7 (ci_sq rfl (ci_sq (pe_getR tq_0 rfl rfl) rfl)) ?_
      obtain ⟨v3, hv, h⟩ := bn_some h
      refine ci_T.call (as := [_, _]) (rest := []) kc_X3_hasFarm ki_X3_hasFarm (by decide) cl_X8_would_12 rfl (Nat.le_of_ble_eq_true rfl) ⟨⟨_, rfl⟩, _, _, _, rfl, pk_obj tq_1 rfl _ _⟩ (s_X3_hasFarm (d + 3) o hv) ?_
      rintro _ _ ⟨⟨rfl, rfl⟩, hz4⟩
      clear hv
      refine ci_T.step cb_X8_would_15 (pe_if_ne (Z_R hz4)) ?_
      refine pbrn h (fun hc h => ?_) (fun hc h => ?_)
      · refine ci_T.step cb_X8_would_20 (ci_sq rfl (ci_sq (pe_getR tq_0 rfl rfl) (ci_sq (pe_getR tq_4 rfl rfl) rfl))) ?_
        obtain ⟨v5, hv, h⟩ := bn_some h
        refine ci_T.call (as := [_, _]) (rest := []) kc_X2_refused ki_X2_refused (by decide) cl_X8_would_28 rfl (Nat.le_of_ble_eq_true rfl) ⟨⟨_, rfl⟩, _, _, _, rfl, pk_obj tq_8 rfl _ _⟩ (s_X2_refused d 8 iF_8 o hv) ?_
        rintro _ _ ⟨rfl, rfl⟩
        clear hv
        obtain ⟨h6, h⟩ := ck_some h
        refine ci_T.step cb_X8_would_31 (pe_if_lt h6) ?_
        refine pbr h (fun hc h => ?_) (fun hc h => ?_)
        · refine ci_T.step cb_X8_would_37 (ci_sq rfl (ci_sq (pe_getR tq_0 rfl rfl) (ci_sq rfl (ci_sq (pe_getR tq_0 rfl rfl) (pe_getR tq_4 rfl rfl))))) ?_
          obtain ⟨ρ7, hv, h⟩ := bn_some h
          refine ci_T.call (as := [_, _]) (rest := []) kc_X2_copy ki_X2_copy (by decide) cl_X8_would_48 rfl (Nat.le_of_ble_eq_true rfl) ⟨⟨_, rfl⟩, _, _, _, rfl, pk_obj tq_25 rfl _ _⟩ (s_X2_copy (d + 3) 25 8 iF_25 iF_8 o hv) ?_
          rintro _ _ ⟨rfl, rfl⟩
          clear hv
          refine ci_T.step cb_X8_would_51 (ci_sq rfl (ci_sq (pe_getR tq_0 rfl rfl) rfl)) ?_
          obtain ⟨ρ8, hv, h⟩ := bn_some h
          refine ci_T.call (as := [_, _]) (rest := []) kc_X2_pass ki_X2_pass (by decide) cl_X8_would_56 rfl (Nat.le_of_ble_eq_true rfl) ⟨⟨_, rfl⟩, _, _, _, rfl, pk_obj tq_25 rfl _ _⟩ (s_X2_pass d 25 iF_25 o hv) ?_
          rintro _ _ ⟨rfl, rfl⟩
          clear hv
          refine ci_T.step cb_X8_would_59 (ci_sq rfl (ci_sq (pe_getR tq_0 rfl rfl) (ci_sq rfl (ci_sq rfl (ci_sq (pe_getR tq_0 rfl rfl) (pe_getI (kI := 4) tq_25 rfl rfl rfl)))))) ?_
          obtain ⟨v9, hv, h⟩ := bn_some h
          refine ci_T.call (as := [_, _, _]) (rest := []) kc_X7_gain ki_X7_gain (by decide) cl_X8_would_71 rfl (Nat.le_of_ble_eq_true rfl) ⟨⟨_, rfl⟩, _, _, _, rfl, pk_obj tq_4 rfl _ _⟩ (s_X7_gain (d + 2) o hv) ?_
          rintro _ _ ⟨rfl, rfl⟩
          clear hv
          cases h
          exact ci_T.done (v := some (.int _)) cd_X8_would_74 ⟨rfl, rfl⟩
        · refine ci_T.step cb_X8_would_34 (pe_push pc_m2) ?_
          cases h
          exact ci_T.done (v := some (.int _)) cd_X8_would_36 ⟨rfl, rfl⟩
      · refine ci_T.step cb_X8_would_18 (pe_push pc_m1) ?_
        cases h
        exact ci_T.done (v := some (.int _)) cd_X8_would_19 ⟨rfl, rfl⟩
