/-- X6_append -/
def L_X6_append_17 (K51 : pm → Option (Int × pm)) : Nat → Int → Int → pm → Option (Int × pm)
  | 0, _, _, _ => none
  | n + 1, l1, l3, ρ => ck (inR l3) (if 8 ≤ l3 then K51 ρ else ck (0 ≤ (ρ 50 1) + l3 ∧ (ρ 50 1) + l3 < 320) (jn (pup ρ 51 ((ρ 50 1) + l3) (b8 (lshr64 l1 (8 * (7 - l3))))) (fun ρ4 => jn (l3 + 1) (fun x5 => L_X6_append_17 K51 n l1 x5 ρ4))))
def f_X6_append (l1 : Int) (ρ : pm) : Option (Int × pm) := ck (inR ((ρ 50 1) + 8)) (if ((ρ 50 1) + 8) ≤ 320 then L_X6_append_17 (fun (ρ : pm) => jn (pup ρ 50 1 ((ρ 50 1) + 8)) (fun ρ6 => some (1, ρ6))) fu l1 0 ρ else some (0, ρ))
set_option maxRecDepth 100000 in
theorem t_X6_append_17 {d : Nat}    {o : pm} {rv : Int} {rρ : pm} {K51 : pm → Option (Int × pm)} (hK51 : ∀ (ρ : pm), K51 ρ = some (rv, rρ) → ci_T yX6_append cX6_append 4 (some .boolean) d 51 ([(0, .ref 51)], [], pk true ρ o) (pZ true rv rρ o)) : ∀ (n : Nat) (l1 l3 : Int) (ρ : pm), L_X6_append_17 K51 n l1 l3 ρ = some (rv, rρ) → ci_T yX6_append cX6_append 4 (some .boolean) d 17 ([(0, .ref 51), (1, .long (Int64.ofInt l1)), (3, .int (Int32.ofInt l3))], [], pk true ρ o) (pZ true rv rρ o) := by
  intro n
  induction n with
  | zero =>
    intro l1 l3 ρ h
    rw [L_X6_append_17] at h
    cases h
  | succ n ih =>
    intro l1 l3 ρ h
    rw [L_X6_append_17] at h
    obtain ⟨h2, h⟩ := ck_some h
    refine ci_T.step cb_X6_append_17 (ci_sq rfl (ci_sq (pe_push pc_8) (pe_ic_ge h2 pR_8))) ?_
    refine pbr h (fun hc h => ?_) (fun hc h => ?_)
    · exact ci_T.sub [0] (hK51 _ h) rfl
    · obtain ⟨h3, h⟩ := ck_some h
      replace h := jn_some h
      replace h := jn_some h
      refine ci_T.step cb_X6_append_23 (ci_sq rfl (ci_sq (pe_getR tq_50 rfl rfl) (ci_sq rfl (ci_sq (pe_getI (kI := 1) tq_50 rfl rfl rfl) (ci_sq rfl (ci_sq pe_iadd (ci_sq rfl (ci_sq (pe_push pc_8) (ci_sq (pe_push pc_7) (ci_sq rfl (ci_sq pe_isub (ci_sq pe_imul (ci_sq pe_lshr (ci_sq pe_l2i (ci_sq pe_i2b (ci_sq (pe_ast (nI := 320) tq_51 rfl rfl h3 fit_b8) (ci_sq (pe_inc rfl) rfl))))))))))))))))) ?_
      exact ci_T.sub [1, 2, 0] (ih _ _ _ h) rfl
set_option maxRecDepth 100000 in
theorem s_X6_append (d : Nat)   {ρ : pm} (o : pm) {l1 : Int} {rv : Int} {rρ : pm} (h : f_X6_append l1 ρ = some (rv, rρ)) : ci_Met d (yX6_append, cX6_append, 4, (some .boolean), [], 0, 0) [.ref 51, .long (Int64.ofInt l1)] (pk true ρ o) (pZ true rv rρ o) := by
  refine ci_met (by decide) (Nat.le_of_ble_eq_true rfl) ?_ ?_
  · rintro v w' ⟨⟨rfl, rfl⟩, hz⟩
    exact Z_of hz
  · change ci_T _ _ _ _ _ _ ([(0, .ref 51), (1, .long (Int64.ofInt l1))], [], pk true ρ o) _
    unfold f_X6_append at h
    obtain ⟨h1, h⟩ := ck_some h
    refine ci_T.step cb_X6_append_0 (ci_sq rfl (ci_sq (pe_getI (kI := 1) tq_50 rfl rfl rfl) (ci_sq (pe_push pc_8) (ci_sq pe_iadd (ci_sq (pe_push pc_320) (pe_ic_le h1 pR_320)))))) ?_
    refine pbr h (fun hc h => ?_) (fun hc h => ?_)
    · refine ci_T.step cb_X6_append_15 (ci_sq (pe_push pc_0) rfl) ?_
      refine ci_T.sub [1, 2, 0] (t_X6_append_17 ?_ fu _ _ _ h) rfl
      · intro ρ h
        replace h := jn_some h
        refine ci_T.step cb_X6_append_51 (ci_sq rfl (ci_sq rfl (ci_sq (pe_getI (kI := 1) tq_50 rfl rfl rfl) (ci_sq (pe_push pc_8) (ci_sq pe_iadd (ci_sq (pe_putI (kI := 1) tq_50 rfl rfl rfl) (pe_push pc_1))))))) ?_
        cases h
        exact ci_T.done (v := some (.int _)) cd_X6_append_63 ⟨⟨rfl, rfl⟩, (Or.inr rfl)⟩
    · refine ci_T.step cb_X6_append_13 (pe_push pc_0) ?_
      cases h
      exact ci_T.done (v := some (.int _)) cd_X6_append_14 ⟨⟨rfl, rfl⟩, (Or.inl rfl)⟩
/-- X8_feed -/
def f_X8_feed (l1 : Int) (ρ : pm) : Option (Int × pm) := bn2 (f_X6_append l1 ρ) (fun v1 ρ2 => if v1 = 0 then some ((-3), ρ2) else some (ρ2 50 1, ρ2))
set_option maxRecDepth 100000 in
theorem s_X8_feed (d : Nat)   {ρ : pm} (o : pm) {l1 : Int} {rv : Int} {rρ : pm} (h : f_X8_feed l1 ρ = some (rv, rρ)) : ci_Met (d + 1) (yX8_feed, cX8_feed, 3, (some .int), [], 0, 0) [.ref 1, .long (Int64.ofInt l1)] (pk true ρ o) (pP true rv rρ o) := by
  refine ci_met (by decide) (Nat.le_of_ble_eq_true rfl) ?_ ?_
  · rintro v w' ⟨rfl, rfl⟩
    trivial
  · change ci_T _ _ _ _ _ _ ([(0, .ref 1), (1, .long (Int64.ofInt l1))], [], pk true ρ o) _
    unfold f_X8_feed at h
    refine ci_T.step cb_X8_feed_0 (ci_sq rfl (ci_sq (pe_getR tq_0 rfl rfl) rfl)) ?_
    obtain ⟨v1, ρ2, hv, h⟩ := bn2_some h
    refine ci_T.call (as := [_, _]) (rest := []) kc_X6_append ki_X6_append (by decide) cl_X8_feed_5 rfl (Nat.le_of_ble_eq_true rfl) ⟨⟨_, rfl⟩, _, _, _, rfl, pk_obj tq_50 rfl _ _⟩ (s_X6_append d o hv) ?_
    rintro _ _ ⟨⟨rfl, rfl⟩, hz3⟩
    clear hv
    refine ci_T.step cb_X8_feed_8 (pe_if_eq (Z_R hz3)) ?_
    refine pbr h (fun hc h => ?_) (fun hc h => ?_)
    · refine ci_T.step cb_X8_feed_21 (pe_push pc_m3) ?_
      cases h
      exact ci_T.done (v := some (.int _)) cd_X8_feed_23 ⟨rfl, rfl⟩
    · refine ci_T.step cb_X8_feed_11 (ci_sq rfl (ci_sq (pe_getR tq_0 rfl rfl) (ci_sq (pe_getI (kI := 1) tq_50 rfl rfl rfl) rfl))) ?_
      cases h
      exact ci_T.done (v := some (.int _)) cd_X8_feed_23 ⟨rfl, rfl⟩
/-- X8_end -/
def f_X8_end (l1 : Int) (ρ : pm) : Option (Int × pm) := ck (inR l1) (if l1 < 0 then some ((-1), ρ) else ck (inR (ρ 50 1)) (if l1 ≤ (ρ 50 1) then jn (ρ 50 1) (fun x3 => jn (pup ρ 50 1 l1) (fun ρ4 => some (x3, ρ4))) else some ((-1), ρ)))
set_option maxRecDepth 100000 in
theorem s_X8_end (d : Nat)   {ρ : pm} (o : pm) {l1 : Int} {rv : Int} {rρ : pm} (h : f_X8_end l1 ρ = some (rv, rρ)) : ci_Met d (yX8_end, cX8_end, 3, (some .int), [], 0, 0) [.ref 1, .int (Int32.ofInt l1)] (pk true ρ o) (pP true rv rρ o) := by
  refine ci_met (by decide) (Nat.le_of_ble_eq_true rfl) ?_ ?_
  · rintro v w' ⟨rfl, rfl⟩
    trivial
  · change ci_T _ _ _ _ _ _ ([(0, .ref 1), (1, .int (Int32.ofInt l1))], [], pk true ρ o) _
    unfold f_X8_end at h
    obtain ⟨h1, h⟩ := ck_some h
    refine ci_T.step cb_X8_end_0 (ci_sq rfl (pe_if_lt h1)) ?_
    refine pbr h (fun hc h => ?_) (fun hc h => ?_)
    · refine ci_T.step cb_X8_end_15 (pe_push pc_m1) ?_
      cases h
      exact ci_T.done (v := some (.int _)) cd_X8_end_16 ⟨rfl, rfl⟩
    · obtain ⟨h2, h⟩ := ck_some h
      refine ci_T.step cb_X8_end_4 (ci_sq rfl (ci_sq rfl (ci_sq (pe_getR tq_0 rfl rfl) (ci_sq (pe_getI (kI := 1) tq_50 rfl rfl rfl) (pe_ic_le h1 h2))))) ?_
      refine pbr h (fun hc h => ?_) (fun hc h => ?_)
      · replace h := jn_some h
        replace h := jn_some h
        refine ci_T.step cb_X8_end_17 (ci_sq rfl (ci_sq (pe_getR tq_0 rfl rfl) (ci_sq (pe_getI (kI := 1) tq_50 rfl rfl rfl) (ci_sq rfl (ci_sq rfl (ci_sq (pe_getR tq_0 rfl rfl) (ci_sq rfl (ci_sq (pe_putI (kI := 1) tq_50 rfl rfl rfl) rfl)))))))) ?_
        cases h
        exact ci_T.done (v := some (.int _)) cd_X8_end_34 ⟨rfl, rfl⟩
      · refine ci_T.step cb_X8_end_15 (pe_push pc_m1) ?_
        cases h
        exact ci_T.done (v := some (.int _)) cd_X8_end_16 ⟨rfl, rfl⟩
/-- J7_fill -/
def L_J7_fill_5 (q nn : Nat) : Nat → Int → Int → Int → pm → Option pm
  | 0, _, _, _, _ => none
  | n + 1, l1, l2, l3, ρ => ck (inR l2) (ck (inR l3) (if l3 ≤ l2 then some ρ else ck (0 ≤ l2 ∧ l2 < (nn : Int)) (jn (pup ρ q l2 l1) (fun ρ5 => jn (l2 + 1) (fun x6 => L_J7_fill_5 q nn n l1 x6 l3 ρ5)))))
def f_J7_fill (q nn : Nat) (l1 : Int) (ρ : pm) : Option pm := jn ((nn : Int)) (fun x1 => L_J7_fill_5 q nn fu l1 0 x1 ρ)
set_option maxRecDepth 100000 in
theorem t_J7_fill_5 {d : Nat} {q nn : Nat} (hq : isA q nn)  {o : pm} {rρ : pm}   : ∀ (n : Nat) (l1 l2 l3 : Int) (ρ : pm), L_J7_fill_5 q nn n l1 l2 l3 ρ = some rρ → ci_T yJ7_fill_53178 cJ7_fill_53178 4 none d 5 ([(0, .ref (q + 1)), (1, .int (Int32.ofInt l1)), (2, .int (Int32.ofInt l2)), (3, .int (Int32.ofInt l3))], [], pk true ρ o) (pV true rρ o) := by
  intro n
  induction n with
  | zero =>
    intro l1 l2 l3 ρ h
    rw [L_J7_fill_5] at h
    cases h
  | succ n ih =>
    intro l1 l2 l3 ρ h
    rw [L_J7_fill_5] at h
    obtain ⟨h2, h⟩ := ck_some h
    obtain ⟨h3, h⟩ := ck_some h
    refine ci_T.step cb_J7_fill_53178_5 (ci_sq rfl (ci_sq rfl (pe_ic_ge h2 h3))) ?_
    refine pbr h (fun hc h => ?_) (fun hc h => ?_)
    · cases h
      exact ci_T.done (v := none) cd_J7_fill_53178_20 ⟨rfl, rfl⟩
    · obtain ⟨h4, h⟩ := ck_some h
      replace h := jn_some h
      replace h := jn_some h
      refine ci_T.step cb_J7_fill_53178_10 (ci_sq rfl (ci_sq rfl (ci_sq rfl (ci_sq (pe_ast (nI := nn) hq.1 hq.2 rfl h4 rfl) (ci_sq (pe_inc rfl) rfl))))) ?_
      exact ci_T.sub [1, 2, 0, 3] (ih _ _ _ _ h) rfl
set_option maxRecDepth 100000 in
theorem s_J7_fill (d : Nat) (q nn : Nat) (hq : isA q nn) {ρ : pm} (o : pm) {l1 : Int} {rρ : pm} (h : f_J7_fill q nn l1 ρ = some rρ) : ci_Met d (yJ7_fill_53178, cJ7_fill_53178, 4, none, [], 0, 0) [.ref (q + 1), .int (Int32.ofInt l1)] (pk true ρ o) (pV true rρ o) := by
  refine ci_met (by decide) (Nat.le_of_ble_eq_true rfl) ?_ ?_
  · rintro v w' ⟨rfl, rfl⟩
    trivial
  · change ci_T _ _ _ _ _ _ ([(0, .ref (q + 1)), (1, .int (Int32.ofInt l1))], [], pk true ρ o) _
    unfold f_J7_fill at h
    replace h := jn_some h
    refine ci_T.step cb_J7_fill_53178_0 (ci_sq (pe_push pc_0) (ci_sq rfl (ci_sq rfl (ci_sq (pe_alen (nI := nn) hq.1 hq.2 rfl) rfl)))) ?_
    exact ci_T.sub [2, 3, 1, 0] (t_J7_fill_5 hq fu _ _ _ _ h) rfl
/-- X1_clear -/
def f_X1_clear (ρ : pm) : Option pm := (f_J7_fill 53 25 0 ρ).bind (fun ρ1 => (f_J7_fill 54 5 0 ρ1).bind (fun ρ2 => (f_J7_fill 55 3 0 ρ2).bind (fun ρ3 => (f_J7_fill 56 3 0 ρ3).bind (fun ρ4 => jn (pup ρ4 52 4 3) (fun ρ5 => jn (pup ρ5 52 5 3) (fun ρ6 => jn (pup ρ6 52 6 0) (fun ρ7 => jn (pup ρ7 52 7 0) (fun ρ8 => jn (pup ρ8 52 8 0) (fun ρ9 => jn (pup ρ9 52 9 0) (fun ρ10 => some ρ10))))))))))
set_option maxRecDepth 100000 in
theorem s_X1_clear (d : Nat)   {ρ : pm} (o : pm)  {rρ : pm} (h : f_X1_clear ρ = some rρ) : ci_Met (d + 1) (yX1_clear, cX1_clear, 1, none, [], 0, 0) [.ref 53] (pk true ρ o) (pV true rρ o) := by
  refine ci_met (by decide) (Nat.le_of_ble_eq_true rfl) ?_ ?_
  · rintro v w' ⟨rfl, rfl⟩
    trivial
  · change ci_T _ _ _ _ _ _ ([(0, .ref 53)], [], pk true ρ o) _
    unfold f_X1_clear at h
    refine ci_T.step cb_X1_clear_0 (ci_sq rfl (ci_sq (pe_getR tq_52 rfl rfl) (pe_push pc_0))) ?_
    obtain ⟨ρ1, hv, h⟩ := bn_some h
    refine ci_T.call (as := [_, _]) (rest := []) kc_J7_fill_53178 ki_J7_fill_53178 (by decide) cl_X1_clear_5 rfl (Nat.le_of_ble_eq_true rfl) trivial (s_J7_fill d 53 25 iA_53 o hv) ?_
    rintro _ _ ⟨rfl, rfl⟩
    clear hv
    refine ci_T.step cb_X1_clear_8 (ci_sq rfl (ci_sq (pe_getR tq_52 rfl rfl) (pe_push pc_0))) ?_
    obtain ⟨ρ2, hv, h⟩ := bn_some h
    refine ci_T.call (as := [_, _]) (rest := []) kc_J7_fill_53178 ki_J7_fill_53178 (by decide) cl_X1_clear_13 rfl (Nat.le_of_ble_eq_true rfl) trivial (s_J7_fill d 54 5 iA_54 o hv) ?_
    rintro _ _ ⟨rfl, rfl⟩
    clear hv
    refine ci_T.step cb_X1_clear_16 (ci_sq rfl (ci_sq (pe_getR tq_52 rfl rfl) (pe_push pc_0))) ?_
    obtain ⟨ρ3, hv, h⟩ := bn_some h
    refine ci_T.call (as := [_, _]) (rest := []) kc_J7_fill_53178 ki_J7_fill_53178 (by decide) cl_X1_clear_21 rfl (Nat.le_of_ble_eq_true rfl) trivial (s_J7_fill d 55 3 iA_55 o hv) ?_
    rintro _ _ ⟨rfl, rfl⟩
    clear hv
    refine ci_T.step cb_X1_clear_24 (ci_sq rfl (ci_sq (pe_getR tq_52 rfl rfl) (pe_push pc_0))) ?_
    obtain ⟨ρ4, hv, h⟩ := bn_some h
    refine ci_T.call (as := [_, _]) (rest := []) kc_J7_fill_53178 ki_J7_fill_53178 (by decide) cl_X1_clear_29 rfl (Nat.le_of_ble_eq_true rfl) trivial (s_J7_fill d 56 3 iA_56 o hv) ?_
    rintro _ _ ⟨rfl, rfl⟩
    clear hv
    replace h := jn_some h
    replace h := jn_some h
    replace h := jn_some h
    replace h := jn_some h
    replace h := jn_some h
    replace h := jn_some h
    refine ci_T.step cb_X1_clear_32 (ci_sq rfl (ci_sq (pe_push pc_3) (ci_sq (pe_putI (kI := 4) tq_52 rfl rfl rfl) (ci_sq rfl (ci_sq (pe_push pc_3) (ci_sq (pe_putI (kI := 5) tq_52 rfl rfl rfl) (ci_sq rfl (ci_sq (pe_push pc_0) (ci_sq (pe_putI (kI := 6) tq_52 rfl rfl rfl) (ci_sq rfl (ci_sq (pe_push pc_0) (ci_sq (pe_putI (kI := 7) tq_52 rfl rfl rfl) (ci_sq rfl (ci_sq (pe_push pc_0) (ci_sq (pe_putI (kI := 8) tq_52 rfl rfl rfl) (ci_sq rfl (ci_sq (pe_push pc_0) (pe_putI (kI := 9) tq_52 rfl rfl rfl)))))))))))))))))) ?_
    cases h
    exact ci_T.done (v := none) cd_X1_clear_62 ⟨rfl, rfl⟩
/-- X6_rewind -/
def f_X6_rewind (ρ : pm) : Option pm := jn (pup ρ 50 2 0) (fun ρ1 => jn (pup ρ1 50 6 0) (fun ρ2 => jn (pup ρ2 50 7 0) (fun ρ3 => some ρ3)))
set_option maxRecDepth 100000 in
theorem s_X6_rewind (d : Nat)   {ρ : pm} (o : pm)  {rρ : pm} (h : f_X6_rewind ρ = some rρ) : ci_Met d (yX6_rewind, cX6_rewind, 1, none, [], 0, 0) [.ref 51] (pk true ρ o) (pV true rρ o) := by
  refine ci_met (by decide) (Nat.le_of_ble_eq_true rfl) ?_ ?_
  · rintro v w' ⟨rfl, rfl⟩
    trivial
  · change ci_T _ _ _ _ _ _ ([(0, .ref 51)], [], pk true ρ o) _
    unfold f_X6_rewind at h
    replace h := jn_some h
    replace h := jn_some h
    replace h := jn_some h
    refine ci_T.step cb_X6_rewind_0 (ci_sq rfl (ci_sq (pe_push pc_0) (ci_sq (pe_putI (kI := 2) tq_50 rfl rfl rfl) (ci_sq rfl (ci_sq (pe_push pc_0) (ci_sq (pe_putI (kI := 6) tq_50 rfl rfl rfl) (ci_sq rfl (ci_sq (pe_push pc_0) (pe_putI (kI := 7) tq_50 rfl rfl rfl))))))))) ?_
    cases h
    exact ci_T.done (v := none) cd_X6_rewind_15 ⟨rfl, rfl⟩
/-- X6_isLetter -/
def f_X6_isLetter (l0 : Int) : Option Int := ck (inR l0) (if l0 < 97 then some 0 else if 122 < l0 then some 0 else some 1)
set_option maxRecDepth 100000 in
theorem s_X6_isLetter (d : Nat)   {ρ : pm} (o : pm) {l0 : Int} {rv : Int} (h : f_X6_isLetter l0 = some rv) : ci_Met d (yX6_isLetter, cX6_isLetter, 1, (some .boolean), [], 0, 0) [.int (Int32.ofInt l0)] (pk true ρ o) (pZ true rv ρ o) := by
  refine ci_met (by decide) (Nat.le_of_ble_eq_true rfl) ?_ ?_
  · rintro v w' ⟨⟨rfl, rfl⟩, hz⟩
    exact Z_of hz
  · change ci_T _ _ _ _ _ _ ([(0, .int (Int32.ofInt l0))], [], pk true ρ o) _
    unfold f_X6_isLetter at h
    obtain ⟨h1, h⟩ := ck_some h
    refine ci_T.step cb_X6_isLetter_0 (ci_sq rfl (ci_sq (pe_push pc_97) (pe_ic_lt h1 pR_97))) ?_
    refine pbr h (fun hc h => ?_) (fun hc h => ?_)
    · refine ci_T.step cb_X6_isLetter_16 (pe_push pc_0) ?_
      cases h
      exact ci_T.done (v := some (.int _)) cd_X6_isLetter_17 ⟨⟨rfl, rfl⟩, (Or.inl rfl)⟩
    · refine ci_T.step cb_X6_isLetter_6 (ci_sq rfl (ci_sq (pe_push pc_122) (pe_ic_gt h1 pR_122))) ?_
      refine pbr h (fun hc h => ?_) (fun hc h => ?_)
      · refine ci_T.step cb_X6_isLetter_16 (pe_push pc_0) ?_
        cases h
        exact ci_T.done (v := some (.int _)) cd_X6_isLetter_17 ⟨⟨rfl, rfl⟩, (Or.inl rfl)⟩
      · refine ci_T.step cb_X6_isLetter_12 (ci_sq (pe_push pc_1) rfl) ?_
        cases h
        exact ci_T.done (v := some (.int _)) cd_X6_isLetter_17 ⟨⟨rfl, rfl⟩, (Or.inr rfl)⟩
/-- X6_fail -/
def f_X6_fail (l1 : Int) (ρ : pm) : Option pm := jn (pup ρ 50 6 l1) (fun ρ1 => jn (pup ρ1 50 7 (ρ1 50 4)) (fun ρ2 => some ρ2))
set_option maxRecDepth 100000 in
theorem s_X6_fail (d : Nat)   {ρ : pm} (o : pm) {l1 : Int} {rρ : pm} (h : f_X6_fail l1 ρ = some rρ) : ci_Met d (yX6_fail, cX6_fail, 2, none, [], 0, 0) [.ref 51, .int (Int32.ofInt l1)] (pk true ρ o) (pV true rρ o) := by
  refine ci_met (by decide) (Nat.le_of_ble_eq_true rfl) ?_ ?_
  · rintro v w' ⟨rfl, rfl⟩
    trivial
  · change ci_T _ _ _ _ _ _ ([(0, .ref 51), (1, .int (Int32.ofInt l1))], [], pk true ρ o) _
    unfold f_X6_fail at h
    replace h := jn_some h
    replace h := jn_some h
    refine ci_T.step cb_X6_fail_0 (ci_sq rfl (ci_sq rfl (ci_sq (pe_putI (kI := 6) tq_50 rfl rfl rfl) (ci_sq rfl (ci_sq rfl (ci_sq (pe_getI (kI := 4) tq_50 rfl rfl rfl) (pe_putI (kI := 7) tq_50 rfl rfl rfl))))))) ?_
    cases h
    exact ci_T.done (v := none) cd_X6_fail_13 ⟨rfl, rfl⟩
/-- X6_isFigure -/
def f_X6_isFigure (l0 : Int) : Option Int := ck (inR l0) (if l0 < 48 then some 0 else if 57 < l0 then some 0 else some 1)
set_option maxRecDepth 100000 in
theorem s_X6_isFigure (d : Nat)   {ρ : pm} (o : pm) {l0 : Int} {rv : Int} (h : f_X6_isFigure l0 = some rv) : ci_Met d (yX6_isFigure, cX6_isFigure, 1, (some .boolean), [], 0, 0) [.int (Int32.ofInt l0)] (pk true ρ o) (pZ true rv ρ o) := by
  refine ci_met (by decide) (Nat.le_of_ble_eq_true rfl) ?_ ?_
  · rintro v w' ⟨⟨rfl, rfl⟩, hz⟩
    exact Z_of hz
  · change ci_T _ _ _ _ _ _ ([(0, .int (Int32.ofInt l0))], [], pk true ρ o) _
    unfold f_X6_isFigure at h
    obtain ⟨h1, h⟩ := ck_some h
    refine ci_T.step cb_X6_isFigure_0 (ci_sq rfl (ci_sq (pe_push pc_48) (pe_ic_lt h1 pR_48))) ?_
    refine pbr h (fun hc h => ?_) (fun hc h => ?_)
    · refine ci_T.step cb_X6_isFigure_16 (pe_push pc_0) ?_
      cases h
      exact ci_T.done (v := some (.int _)) cd_X6_isFigure_17 ⟨⟨rfl, rfl⟩, (Or.inl rfl)⟩
    · refine ci_T.step cb_X6_isFigure_6 (ci_sq rfl (ci_sq (pe_push pc_57) (pe_ic_gt h1 pR_57))) ?_
      refine pbr h (fun hc h => ?_) (fun hc h => ?_)
      · refine ci_T.step cb_X6_isFigure_16 (pe_push pc_0) ?_
        cases h
        exact ci_T.done (v := some (.int _)) cd_X6_isFigure_17 ⟨⟨rfl, rfl⟩, (Or.inl rfl)⟩
      · refine ci_T.step cb_X6_isFigure_12 (ci_sq (pe_push pc_1) rfl) ?_
        cases h
        exact ci_T.done (v := some (.int _)) cd_X6_isFigure_17 ⟨⟨rfl, rfl⟩, (Or.inr rfl)⟩
/-- X6_next -/
def L_X6_next_122 (K169 : pm → Option pm) : Nat → pm → Option pm
  | 0, _ => none
  | n + 1, ρ => ck (inR (ρ 50 2)) (ck (inR (ρ 50 1)) (if (ρ 50 1) ≤ (ρ 50 2) then K169 ρ else ck (inR (ρ 50 3)) (if (ρ 50 3) = 1 then ck (0 ≤ ρ 50 2 ∧ ρ 50 2 < 320) ((f_X6_isLetter (ρ 51 (ρ 50 2))).bind (fun v16 => if v16 = 0 then K169 ρ else jn (pup ρ 50 2 ((ρ 50 2) + 1)) (fun ρ18 => L_X6_next_122 K169 n ρ18))) else K169 ρ)))
def L_X6_next_169 (K240 : pm → Option pm) : Nat → pm → Option pm
  | 0, _ => none
  | n + 1, ρ => ck (inR (ρ 50 2)) (ck (inR (ρ 50 1)) (if (ρ 50 1) ≤ (ρ 50 2) then K240 ρ else ck (inR (ρ 50 3)) (if (ρ 50 3) = 2 then ck (0 ≤ ρ 50 2 ∧ ρ 50 2 < 320) ((f_X6_isFigure (ρ 51 (ρ 50 2))).bind (fun v41 => if v41 = 0 then K240 ρ else jn (pup ρ 50 5 ((((ρ 50 5) * 10) + (ρ 51 (ρ 50 2))) - 48)) (fun ρ43 => jn (pup ρ43 50 2 ((ρ43 50 2) + 1)) (fun ρ44 => L_X6_next_169 K240 n ρ44)))) else K240 ρ)))
def L_X6_next_0 (K38 : pm → Option pm) : Nat → pm → Option pm
  | 0, _ => none
  | n + 1, ρ => ck (inR (ρ 50 2)) (ck (inR (ρ 50 1)) (if (ρ 50 1) ≤ (ρ 50 2) then K38 ρ else ck (0 ≤ ρ 50 2 ∧ ρ 50 2 < 320) (ck (inR (ρ 51 (ρ 50 2))) (if (ρ 51 (ρ 50 2)) = 32 then jn (pup ρ 50 2 ((ρ 50 2) + 1)) (fun ρ95 => L_X6_next_0 K38 n ρ95) else K38 ρ))))
def f_X6_next (ρ : pm) : Option pm := ck (inR (ρ 50 2)) (ck (inR (ρ 50 1)) (if (ρ 50 1) ≤ (ρ 50 2) then jn (pup ρ 50 4 (ρ 50 2)) (fun ρ3 => jn (pup ρ3 50 5 0) (fun ρ4 => ck (inR (ρ4 50 2)) (ck (inR (ρ4 50 1)) (if (ρ4 50 2) < (ρ4 50 1) then ck (0 ≤ ρ4 50 2 ∧ ρ4 50 2 < 320) (ck (inR (ρ4 51 (ρ4 50 2))) (if (ρ4 51 (ρ4 50 2)) = 59 then jn (pup ρ4 50 3 3) (fun ρ50 => jn (pup ρ50 50 2 ((ρ50 50 2) + 1)) (fun ρ51 => some ρ51)) else (f_X6_isLetter (ρ4 51 (ρ4 50 2))).bind (fun v9 => jn (fun (s1 : Int) (ρ : pm) => jn (pup ρ 50 3 s1) (fun ρ11 => L_X6_next_122 (fun (ρ : pm) => ck (inR (ρ 50 2)) (ck (inR (ρ 50 1)) (if (ρ 50 1) ≤ (ρ 50 2) then ck (inR (ρ 50 4)) (jn (fun (ρ : pm) => (f_X6_fail 1 ρ).bind (fun ρ22 => some ρ22)) (fun j272 => if (ρ 50 2) = (ρ 50 4) then j272 ρ else ck (inR (ρ 50 3)) (if (ρ 50 3) = 2 then ck (inR ((ρ 50 2) - (ρ 50 4))) (if ((ρ 50 2) - (ρ 50 4)) ≤ 2 then some ρ else j272 ρ) else some ρ))) else ck (inR (ρ 50 3)) (if (ρ 50 3) = 2 then ck (0 ≤ ρ 50 2 ∧ ρ 50 2 < 320) ((f_X6_isFigure (ρ 51 (ρ 50 2))).bind (fun v30 => if v30 = 0 then ck (inR (ρ 50 4)) (jn (fun (ρ : pm) => (f_X6_fail 1 ρ).bind (fun ρ33 => some ρ33)) (fun j272 => if (ρ 50 2) = (ρ 50 4) then j272 ρ else if (ρ 50 3) = 2 then ck (inR ((ρ 50 2) - (ρ 50 4))) (if ((ρ 50 2) - (ρ 50 4)) ≤ 2 then some ρ else j272 ρ) else some ρ)) else jn (pup ρ 50 5 ((((ρ 50 5) * 10) + (ρ 51 (ρ 50 2))) - 48)) (fun ρ35 => jn (pup ρ35 50 2 ((ρ35 50 2) + 1)) (fun ρ36 => L_X6_next_169 (fun (ρ : pm) => ck (inR (ρ 50 2)) (ck (inR (ρ 50 4)) (jn (fun (ρ : pm) => (f_X6_fail 1 ρ).bind (fun ρ47 => some ρ47)) (fun j272 => if (ρ 50 2) = (ρ 50 4) then j272 ρ else ck (inR (ρ 50 3)) (if (ρ 50 3) = 2 then ck (inR ((ρ 50 2) - (ρ 50 4))) (if ((ρ 50 2) - (ρ 50 4)) ≤ 2 then some ρ else j272 ρ) else some ρ))))) fu ρ36)))) else ck (inR (ρ 50 4)) (jn (fun (ρ : pm) => (f_X6_fail 1 ρ).bind (fun ρ27 => some ρ27)) (fun j272 => if (ρ 50 2) = (ρ 50 4) then j272 ρ else if (ρ 50 3) = 2 then ck (inR ((ρ 50 2) - (ρ 50 4))) (if ((ρ 50 2) - (ρ 50 4)) ≤ 2 then some ρ else j272 ρ) else some ρ)))))) fu ρ11)) (fun j119 => if v9 = 0 then j119 2 ρ4 else j119 1 ρ4)))) else jn (pup ρ4 50 3 0) (fun ρ52 => some ρ52))))) else ck (0 ≤ ρ 50 2 ∧ ρ 50 2 < 320) (ck (inR (ρ 51 (ρ 50 2))) (if (ρ 51 (ρ 50 2)) = 32 then jn (pup ρ 50 2 ((ρ 50 2) + 1)) (fun ρ90 => L_X6_next_0 (fun (ρ : pm) => jn (pup ρ 50 4 (ρ 50 2)) (fun ρ96 => jn (pup ρ96 50 5 0) (fun ρ97 => ck (inR (ρ97 50 2)) (ck (inR (ρ97 50 1)) (if (ρ97 50 2) < (ρ97 50 1) then ck (0 ≤ ρ97 50 2 ∧ ρ97 50 2 < 320) (ck (inR (ρ97 51 (ρ97 50 2))) (if (ρ97 51 (ρ97 50 2)) = 59 then jn (pup ρ97 50 3 3) (fun ρ128 => jn (pup ρ128 50 2 ((ρ128 50 2) + 1)) (fun ρ129 => some ρ129)) else (f_X6_isLetter (ρ97 51 (ρ97 50 2))).bind (fun v102 => jn (fun (s1 : Int) (ρ : pm) => jn (pup ρ 50 3 s1) (fun ρ104 => L_X6_next_122 (fun (ρ : pm) => ck (inR (ρ 50 2)) (ck (inR (ρ 50 1)) (if (ρ 50 1) ≤ (ρ 50 2) then ck (inR (ρ 50 4)) (jn (fun (ρ : pm) => (f_X6_fail 1 ρ).bind (fun ρ108 => some ρ108)) (fun j272 => if (ρ 50 2) = (ρ 50 4) then j272 ρ else ck (inR (ρ 50 3)) (if (ρ 50 3) = 2 then ck (inR ((ρ 50 2) - (ρ 50 4))) (if ((ρ 50 2) - (ρ 50 4)) ≤ 2 then some ρ else j272 ρ) else some ρ))) else ck (inR (ρ 50 3)) (if (ρ 50 3) = 2 then ck (0 ≤ ρ 50 2 ∧ ρ 50 2 < 320) ((f_X6_isFigure (ρ 51 (ρ 50 2))).bind (fun v116 => if v116 = 0 then ck (inR (ρ 50 4)) (jn (fun (ρ : pm) => (f_X6_fail 1 ρ).bind (fun ρ119 => some ρ119)) (fun j272 => if (ρ 50 2) = (ρ 50 4) then j272 ρ else if (ρ 50 3) = 2 then ck (inR ((ρ 50 2) - (ρ 50 4))) (if ((ρ 50 2) - (ρ 50 4)) ≤ 2 then some ρ else j272 ρ) else some ρ)) else jn (pup ρ 50 5 ((((ρ 50 5) * 10) + (ρ 51 (ρ 50 2))) - 48)) (fun ρ121 => jn (pup ρ121 50 2 ((ρ121 50 2) + 1)) (fun ρ122 => L_X6_next_169 (fun (ρ : pm) => ck (inR (ρ 50 2)) (ck (inR (ρ 50 4)) (jn (fun (ρ : pm) => (f_X6_fail 1 ρ).bind (fun ρ125 => some ρ125)) (fun j272 => if (ρ 50 2) = (ρ 50 4) then j272 ρ else ck (inR (ρ 50 3)) (if (ρ 50 3) = 2 then ck (inR ((ρ 50 2) - (ρ 50 4))) (if ((ρ 50 2) - (ρ 50 4)) ≤ 2 then some ρ else j272 ρ) else some ρ))))) fu ρ122)))) else ck (inR (ρ 50 4)) (jn (fun (ρ : pm) => (f_X6_fail 1 ρ).bind (fun ρ113 => some ρ113)) (fun j272 => if (ρ 50 2) = (ρ 50 4) then j272 ρ else if (ρ 50 3) = 2 then ck (inR ((ρ 50 2) - (ρ 50 4))) (if ((ρ 50 2) - (ρ 50 4)) ≤ 2 then some ρ else j272 ρ) else some ρ)))))) fu ρ104)) (fun j119 => if v102 = 0 then j119 2 ρ97 else j119 1 ρ97)))) else jn (pup ρ97 50 3 0) (fun ρ130 => some ρ130)))))) fu ρ90) else jn (pup ρ 50 4 (ρ 50 2)) (fun ρ55 => jn (pup ρ55 50 5 0) (fun ρ56 => ck (inR (ρ56 50 2)) (ck (inR (ρ56 50 1)) (if (ρ56 50 2) < (ρ56 50 1) then ck (0 ≤ ρ56 50 2 ∧ ρ56 50 2 < 320) (ck (inR (ρ56 51 (ρ56 50 2))) (if (ρ56 51 (ρ56 50 2)) = 59 then jn (pup ρ56 50 3 3) (fun ρ87 => jn (pup ρ87 50 2 ((ρ87 50 2) + 1)) (fun ρ88 => some ρ88)) else (f_X6_isLetter (ρ56 51 (ρ56 50 2))).bind (fun v61 => jn (fun (s1 : Int) (ρ : pm) => jn (pup ρ 50 3 s1) (fun ρ63 => L_X6_next_122 (fun (ρ : pm) => ck (inR (ρ 50 2)) (ck (inR (ρ 50 1)) (if (ρ 50 1) ≤ (ρ 50 2) then ck (inR (ρ 50 4)) (jn (fun (ρ : pm) => (f_X6_fail 1 ρ).bind (fun ρ67 => some ρ67)) (fun j272 => if (ρ 50 2) = (ρ 50 4) then j272 ρ else ck (inR (ρ 50 3)) (if (ρ 50 3) = 2 then ck (inR ((ρ 50 2) - (ρ 50 4))) (if ((ρ 50 2) - (ρ 50 4)) ≤ 2 then some ρ else j272 ρ) else some ρ))) else ck (inR (ρ 50 3)) (if (ρ 50 3) = 2 then ck (0 ≤ ρ 50 2 ∧ ρ 50 2 < 320) ((f_X6_isFigure (ρ 51 (ρ 50 2))).bind (fun v75 => if v75 = 0 then ck (inR (ρ 50 4)) (jn (fun (ρ : pm) => (f_X6_fail 1 ρ).bind (fun ρ78 => some ρ78)) (fun j272 => if (ρ 50 2) = (ρ 50 4) then j272 ρ else if (ρ 50 3) = 2 then ck (inR ((ρ 50 2) - (ρ 50 4))) (if ((ρ 50 2) - (ρ 50 4)) ≤ 2 then some ρ else j272 ρ) else some ρ)) else jn (pup ρ 50 5 ((((ρ 50 5) * 10) + (ρ 51 (ρ 50 2))) - 48)) (fun ρ80 => jn (pup ρ80 50 2 ((ρ80 50 2) + 1)) (fun ρ81 => L_X6_next_169 (fun (ρ : pm) => ck (inR (ρ 50 2)) (ck (inR (ρ 50 4)) (jn (fun (ρ : pm) => (f_X6_fail 1 ρ).bind (fun ρ84 => some ρ84)) (fun j272 => if (ρ 50 2) = (ρ 50 4) then j272 ρ else ck (inR (ρ 50 3)) (if (ρ 50 3) = 2 then ck (inR ((ρ 50 2) - (ρ 50 4))) (if ((ρ 50 2) - (ρ 50 4)) ≤ 2 then some ρ else j272 ρ) else some ρ))))) fu ρ81)))) else ck (inR (ρ 50 4)) (jn (fun (ρ : pm) => (f_X6_fail 1 ρ).bind (fun ρ72 => some ρ72)) (fun j272 => if (ρ 50 2) = (ρ 50 4) then j272 ρ else if (ρ 50 3) = 2 then ck (inR ((ρ 50 2) - (ρ 50 4))) (if ((ρ 50 2) - (ρ 50 4)) ≤ 2 then some ρ else j272 ρ) else some ρ)))))) fu ρ63)) (fun j119 => if v61 = 0 then j119 2 ρ56 else j119 1 ρ56)))) else jn (pup ρ56 50 3 0) (fun ρ89 => some ρ89)))))))))
set_option maxRecDepth 100000 in
theorem t_X6_next_122 {d : Nat}    {o : pm} {rρ : pm} {K169 : pm → Option pm} (hK169 : ∀ (ρ : pm), K169 ρ = some rρ → ci_T yX6_next cX6_next 1 none (d + 1) 169 ([(0, .ref 51)], [], pk true ρ o) (pV true rρ o)) : ∀ (n : Nat) (ρ : pm), L_X6_next_122 K169 n ρ = some rρ → ci_T yX6_next cX6_next 1 none (d + 1) 122 ([(0, .ref 51)], [], pk true ρ o) (pV true rρ o) := by
  intro n
  induction n with
  | zero =>
    intro ρ h
    rw [L_X6_next_122] at h
    cases h
  | succ n ih =>
    intro ρ h
    rw [L_X6_next_122] at h
    obtain ⟨h12, h⟩ := ck_some h
    obtain ⟨h13, h⟩ := ck_some h
    refine ci_T.step cb_X6_next_122 (ci_sq rfl (ci_sq (pe_getI (kI := 2) tq_50 rfl rfl rfl) (ci_sq rfl (ci_sq (pe_getI (kI := 1) tq_50 rfl rfl rfl) (pe_ic_ge h12 h13))))) ?_
    refine pbr h (fun hc h => ?_) (fun hc h => ?_)
    · exact ci_T.sub [0] (hK169 _ h) rfl
    · obtain ⟨h14, h⟩ := ck_some h
      refine ci_T.step cb_X6_next_133 (ci_sq rfl (ci_sq (pe_getI (kI := 3) tq_50 rfl rfl rfl) (ci_sq (pe_push pc_1) (pe_ic_ne h14 pR_1)))) ?_
      refine pbrn h (fun hc h => ?_) (fun hc h => ?_)
      · exact ci_T.sub [0] (hK169 _ h) rfl
      · obtain ⟨h15, h⟩ := ck_some h
        refine ci_T.step cb_X6_next_141 (ci_sq rfl (ci_sq (pe_getR tq_50 rfl rfl) (ci_sq rfl (ci_sq (pe_getI (kI := 2) tq_50 rfl rfl rfl) (pe_ald (nI := 320) tq_51 rfl rfl h15))))) ?_
        obtain ⟨v16, hv, h⟩ := bn_some h
        refine ci_T.call (as := [_]) (rest := []) kc_X6_isLetter ki_X6_isLetter (by decide) cl_X6_next_150 rfl (Nat.le_of_ble_eq_true rfl) trivial (s_X6_isLetter d o hv) ?_
        rintro _ _ ⟨⟨rfl, rfl⟩, hz17⟩
        clear hv
        refine ci_T.step cb_X6_next_153 (pe_if_eq (Z_R hz17)) ?_
        refine pbr h (fun hc h => ?_) (fun hc h => ?_)
        · exact ci_T.sub [0] (hK169 _ h) rfl
        · replace h := jn_some h
          refine ci_T.step cb_X6_next_156 (ci_sq rfl (ci_sq rfl (ci_sq (pe_getI (kI := 2) tq_50 rfl rfl rfl) (ci_sq (pe_push pc_1) (ci_sq pe_iadd (ci_sq (pe_putI (kI := 2) tq_50 rfl rfl rfl) rfl)))))) ?_
          exact ci_T.sub [0] (ih _ h) rfl
set_option maxRecDepth 100000 in
theorem t_X6_next_169 {d : Nat}    {o : pm} {rρ : pm} {K240 : pm → Option pm} (hK240 : ∀ (ρ : pm), K240 ρ = some rρ → ci_T yX6_next cX6_next 1 none (d + 1) 240 ([(0, .ref 51)], [], pk true ρ o) (pV true rρ o)) : ∀ (n : Nat) (ρ : pm), L_X6_next_169 K240 n ρ = some rρ → ci_T yX6_next cX6_next 1 none (d + 1) 169 ([(0, .ref 51)], [], pk true ρ o) (pV true rρ o) := by
  intro n
  induction n with
  | zero =>
    intro ρ h
    rw [L_X6_next_169] at h
    cases h
  | succ n ih =>
    intro ρ h
    rw [L_X6_next_169] at h
    obtain ⟨h37, h⟩ := ck_some h
    obtain ⟨h38, h⟩ := ck_some h
    refine ci_T.step cb_X6_next_169 (ci_sq rfl (ci_sq (pe_getI (kI := 2) tq_50 rfl rfl rfl) (ci_sq rfl (ci_sq (pe_getI (kI := 1) tq_50 rfl rfl rfl) (pe_ic_ge h37 h38))))) ?_
    refine pbr h (fun hc h => ?_) (fun hc h => ?_)
    · exact ci_T.sub [0] (hK240 _ h) rfl
    · obtain ⟨h39, h⟩ := ck_some h
      refine ci_T.step cb_X6_next_180 (ci_sq rfl (ci_sq (pe_getI (kI := 3) tq_50 rfl rfl rfl) (ci_sq (pe_push pc_2) (pe_ic_ne h39 pR_2)))) ?_
      refine pbrn h (fun hc h => ?_) (fun hc h => ?_)
      · exact ci_T.sub [0] (hK240 _ h) rfl
      · obtain ⟨h40, h⟩ := ck_some h
        refine ci_T.step cb_X6_next_188 (ci_sq rfl (ci_sq (pe_getR tq_50 rfl rfl) (ci_sq rfl (ci_sq (pe_getI (kI := 2) tq_50 rfl rfl rfl) (pe_ald (nI := 320) tq_51 rfl rfl h40))))) ?_
        obtain ⟨v41, hv, h⟩ := bn_some h
        refine ci_T.call (as := [_]) (rest := []) kc_X6_isFigure ki_X6_isFigure (by decide) cl_X6_next_197 rfl (Nat.le_of_ble_eq_true rfl) trivial (s_X6_isFigure d o hv) ?_
        rintro _ _ ⟨⟨rfl, rfl⟩, hz42⟩
        clear hv
        refine ci_T.step cb_X6_next_200 (pe_if_eq (Z_R hz42)) ?_
        refine pbr h (fun hc h => ?_) (fun hc h => ?_)
        · exact ci_T.sub [0] (hK240 _ h) rfl
        · replace h := jn_some h
          replace h := jn_some h
          refine ci_T.step cb_X6_next_203 (ci_sq rfl (ci_sq rfl (ci_sq (pe_getI (kI := 5) tq_50 rfl rfl rfl) (ci_sq (pe_push pc_10) (ci_sq pe_imul (ci_sq rfl (ci_sq (pe_getR tq_50 rfl rfl) (ci_sq rfl (ci_sq (pe_getI (kI := 2) tq_50 rfl rfl rfl) (ci_sq (pe_ald (nI := 320) tq_51 rfl rfl h40) (ci_sq pe_iadd (ci_sq (pe_push pc_48) (ci_sq pe_isub (ci_sq (pe_putI (kI := 5) tq_50 rfl rfl rfl) (ci_sq rfl (ci_sq rfl (ci_sq (pe_getI (kI := 2) tq_50 rfl rfl rfl) (ci_sq (pe_push pc_1) (ci_sq pe_iadd (ci_sq (pe_putI (kI := 2) tq_50 rfl rfl rfl) rfl)))))))))))))))))))) ?_
          exact ci_T.sub [0] (ih _ h) rfl
set_option maxRecDepth 100000 in
theorem t_X6_next_0 {d : Nat}    {o : pm} {rρ : pm} {K38 : pm → Option pm} (hK38 : ∀ (ρ : pm), K38 ρ = some rρ → ci_T yX6_next cX6_next 1 none (d + 1) 38 ([(0, .ref 51)], [], pk true ρ o) (pV true rρ o)) : ∀ (n : Nat) (ρ : pm), L_X6_next_0 K38 n ρ = some rρ → ci_T yX6_next cX6_next 1 none (d + 1) 0 ([(0, .ref 51)], [], pk true ρ o) (pV true rρ o) := by
  intro n
  induction n with
  | zero =>
    intro ρ h
    rw [L_X6_next_0] at h
    cases h
  | succ n ih =>
    intro ρ h
    rw [L_X6_next_0] at h
    obtain ⟨h91, h⟩ := ck_some h
    obtain ⟨h92, h⟩ := ck_some h
    refine ci_T.step cb_X6_next_0 (ci_sq rfl (ci_sq (pe_getI (kI := 2) tq_50 rfl rfl rfl) (ci_sq rfl (ci_sq (pe_getI (kI := 1) tq_50 rfl rfl rfl) (pe_ic_ge h91 h92))))) ?_
    refine pbr h (fun hc h => ?_) (fun hc h => ?_)
    · exact ci_T.sub [0] (hK38 _ h) rfl
    · obtain ⟨h93, h⟩ := ck_some h
      obtain ⟨h94, h⟩ := ck_some h
      refine ci_T.step cb_X6_next_11 (ci_sq rfl (ci_sq (pe_getR tq_50 rfl rfl) (ci_sq rfl (ci_sq (pe_getI (kI := 2) tq_50 rfl rfl rfl) (ci_sq (pe_ald (nI := 320) tq_51 rfl rfl h93) (ci_sq (pe_push pc_32) (pe_ic_ne h94 pR_32))))))) ?_
      refine pbrn h (fun hc h => ?_) (fun hc h => ?_)
      · exact ci_T.sub [0] (hK38 _ h) rfl
      · replace h := jn_some h
        refine ci_T.step cb_X6_next_25 (ci_sq rfl (ci_sq rfl (ci_sq (pe_getI (kI := 2) tq_50 rfl rfl rfl) (ci_sq (pe_push pc_1) (ci_sq pe_iadd (ci_sq (pe_putI (kI := 2) tq_50 rfl rfl rfl) rfl)))))) ?_
        exact ci_T.sub [0] (ih _ h) rfl
set_option maxRecDepth 100000 in
theorem s_X6_next (d : Nat)   {ρ : pm} (o : pm)  {rρ : pm} (h : f_X6_next ρ = some rρ) : ci_Met (d + 1) (yX6_next, cX6_next, 1, none, [], 0, 0) [.ref 51] (pk true ρ o) (pV true rρ o) := by
  refine ci_met (by decide) (Nat.le_of_ble_eq_true rfl) ?_ ?_
  · rintro v w' ⟨rfl, rfl⟩
    trivial
  · change ci_T _ _ _ _ _ _ ([(0, .ref 51)], [], pk true ρ o) _
    unfold f_X6_next at h
    obtain ⟨h1, h⟩ := ck_some h
    obtain ⟨h2, h⟩ := ck_some h
    refine ci_T.step cb_X6_next_0 (ci_sq rfl (ci_sq (pe_getI (kI := 2) tq_50 rfl rfl rfl) (ci_sq rfl (ci_sq (pe_getI (kI := 1) tq_50 rfl rfl rfl) (pe_ic_ge h1 h2))))) ?_
    refine pbr h (fun hc h => ?_) (fun hc h => ?_)
    · replace h := jn_some h
      replace h := jn_some h
      obtain ⟨h5, h⟩ := ck_some h
      obtain ⟨h6, h⟩ := ck_some h
      refine ci_T.step cb_X6_next_38 (ci_sq rfl (ci_sq rfl (ci_sq (pe_getI (kI := 2) tq_50 rfl rfl rfl) (ci_sq (pe_putI (kI := 4) tq_50 rfl rfl rfl) (ci_sq rfl (ci_sq (pe_push pc_0) (ci_sq (pe_putI (kI := 5) tq_50 rfl rfl rfl) (ci_sq rfl (ci_sq (pe_getI (kI := 2) tq_50 rfl rfl rfl) (ci_sq rfl (ci_sq (pe_getI (kI := 1) tq_50 rfl rfl rfl) (pe_ic_lt h5 h6)))))))))))) ?_
      refine pbr h (fun hc h => ?_) (fun hc h => ?_)
      · obtain ⟨h7, h⟩ := ck_some h
        obtain ⟨h8, h⟩ := ck_some h
        refine ci_T.step cb_X6_next_68 (ci_sq rfl (ci_sq (pe_getR tq_50 rfl rfl) (ci_sq rfl (ci_sq (pe_getI (kI := 2) tq_50 rfl rfl rfl) (ci_sq (pe_ald (nI := 320) tq_51 rfl rfl h7) (ci_sq (pe_push pc_59) (pe_ic_ne h8 pR_59))))))) ?_
        refine pbrn h (fun hc h => ?_) (fun hc h => ?_)
        · refine ci_T.step cb_X6_next_98 (ci_sq rfl (ci_sq rfl (ci_sq (pe_getR tq_50 rfl rfl) (ci_sq rfl (ci_sq (pe_getI (kI := 2) tq_50 rfl rfl rfl) (pe_ald (nI := 320) tq_51 rfl rfl h7)))))) ?_
          obtain ⟨v9, hv, h⟩ := bn_some h
          refine ci_T.call (as := [_]) (rest := [_]) kc_X6_isLetter ki_X6_isLetter (by decide) cl_X6_next_108 rfl (Nat.le_of_ble_eq_true rfl) trivial (s_X6_isLetter d o hv) ?_
          rintro _ _ ⟨⟨rfl, rfl⟩, hz10⟩
          clear hv
          refine ci_T.step cb_X6_next_111 (pe_if_eq (Z_R hz10)) ?_
          obtain ⟨j119, hj, h⟩ := jn_ex h
          have J119 : ∀ (s1 : Int) (ρ : pm), j119 s1 ρ = some rρ → ci_T yX6_next cX6_next 1 none (d + 1) 119 ([(0, .ref 51)], [.int (Int32.ofInt s1), .ref 51], pk true ρ o) (pV true rρ o) := by
            intro s1 ρ h
            subst hj
            replace h := jn_some h
            refine ci_T.step cb_X6_next_119 (pe_putI (kI := 3) tq_50 rfl rfl rfl) ?_
            refine ci_T.sub [0] (t_X6_next_122 ?_ fu _ h) rfl
            · intro ρ h
              obtain ⟨h19, h⟩ := ck_some h
              obtain ⟨h20, h⟩ := ck_some h
              refine ci_T.step cb_X6_next_169 (ci_sq rfl (ci_sq (pe_getI (kI := 2) tq_50 rfl rfl rfl) (ci_sq rfl (ci_sq (pe_getI (kI := 1) tq_50 rfl rfl rfl) (pe_ic_ge h19 h20))))) ?_
              refine pbr h (fun hc h => ?_) (fun hc h => ?_)
              · obtain ⟨h21, h⟩ := ck_some h
                refine ci_T.step cb_X6_next_240 (ci_sq rfl (ci_sq (pe_getI (kI := 2) tq_50 rfl rfl rfl) (ci_sq rfl (ci_sq (pe_getI (kI := 4) tq_50 rfl rfl rfl) (pe_ic_eq h19 h21))))) ?_
                obtain ⟨j272, hj, h⟩ := jn_ex h
                have J272 : ∀ (ρ : pm), j272 ρ = some rρ → ci_T yX6_next cX6_next 1 none (d + 1) 272 ([(0, .ref 51)], [], pk true ρ o) (pV true rρ o) := by
                  intro ρ h
                  subst hj
                  refine ci_T.step cb_X6_next_272 (ci_sq rfl (pe_push pc_1)) ?_
                  obtain ⟨ρ22, hv, h⟩ := bn_some h
                  refine ci_T.call (as := [_, _]) (rest := []) kc_X6_fail ki_X6_fail (by decide) cl_X6_next_274 rfl (Nat.le_of_ble_eq_true rfl) ⟨⟨_, rfl⟩, _, _, _, rfl, pk_obj tq_50 rfl _ _⟩ (s_X6_fail d o hv) ?_
                  rintro _ _ ⟨rfl, rfl⟩
                  clear hv
                  cases h
                  exact ci_T.done (v := none) cd_X6_next_277 ⟨rfl, rfl⟩
                clear hj
                refine pbr h (fun hc h => ?_) (fun hc h => ?_)
                · exact ci_T.sub [0] (J272 _ h) rfl
                · obtain ⟨h23, h⟩ := ck_some h
                  refine ci_T.step cb_X6_next_251 (ci_sq rfl (ci_sq (pe_getI (kI := 3) tq_50 rfl rfl rfl) (ci_sq (pe_push pc_2) (pe_ic_ne h23 pR_2)))) ?_
                  refine pbrn h (fun hc h => ?_) (fun hc h => ?_)
                  · cases h
                    exact ci_T.done (v := none) cd_X6_next_277 ⟨rfl, rfl⟩
                  · obtain ⟨h24, h⟩ := ck_some h
                    refine ci_T.step cb_X6_next_259 (ci_sq rfl (ci_sq (pe_getI (kI := 2) tq_50 rfl rfl rfl) (ci_sq rfl (ci_sq (pe_getI (kI := 4) tq_50 rfl rfl rfl) (ci_sq pe_isub (ci_sq (pe_push pc_2) (pe_ic_le h24 pR_2))))))) ?_
                    refine pbr h (fun hc h => ?_) (fun hc h => ?_)
                    · cases h
                      exact ci_T.done (v := none) cd_X6_next_277 ⟨rfl, rfl⟩
                    · exact ci_T.sub [0] (J272 _ h) rfl
              · obtain ⟨h25, h⟩ := ck_some h
                refine ci_T.step cb_X6_next_180 (ci_sq rfl (ci_sq (pe_getI (kI := 3) tq_50 rfl rfl rfl) (ci_sq (pe_push pc_2) (pe_ic_ne h25 pR_2)))) ?_
                refine pbrn h (fun hc h => ?_) (fun hc h => ?_)
                · obtain ⟨h26, h⟩ := ck_some h
                  refine ci_T.step cb_X6_next_240 (ci_sq rfl (ci_sq (pe_getI (kI := 2) tq_50 rfl rfl rfl) (ci_sq rfl (ci_sq (pe_getI (kI := 4) tq_50 rfl rfl rfl) (pe_ic_eq h19 h26))))) ?_
                  obtain ⟨j272, hj, h⟩ := jn_ex h
                  have J272 : ∀ (ρ : pm), j272 ρ = some rρ → ci_T yX6_next cX6_next 1 none (d + 1) 272 ([(0, .ref 51)], [], pk true ρ o) (pV true rρ o) := by
                    intro ρ h
                    subst hj
                    refine ci_T.step cb_X6_next_272 (ci_sq rfl (pe_push pc_1)) ?_
                    obtain ⟨ρ27, hv, h⟩ := bn_some h
                    refine ci_T.call (as := [_, _]) (rest := []) kc_X6_fail ki_X6_fail (by decide) cl_X6_next_274 rfl (Nat.le_of_ble_eq_true rfl) ⟨⟨_, rfl⟩, _, _, _, rfl, pk_obj tq_50 rfl _ _⟩ (s_X6_fail d o hv) ?_
                    rintro _ _ ⟨rfl, rfl⟩
                    clear hv
                    cases h
                    exact ci_T.done (v := none) cd_X6_next_277 ⟨rfl, rfl⟩
                  clear hj
                  refine pbr h (fun hc h => ?_) (fun hc h => ?_)
                  · exact ci_T.sub [0] (J272 _ h) rfl
                  · refine ci_T.step cb_X6_next_251 (ci_sq rfl (ci_sq (pe_getI (kI := 3) tq_50 rfl rfl rfl) (ci_sq (pe_push pc_2) (pe_ic_ne h25 pR_2)))) ?_
                    refine pbrn h (fun hc h => ?_) (fun hc h => ?_)
                    · cases h
                      exact ci_T.done (v := none) cd_X6_next_277 ⟨rfl, rfl⟩
                    · obtain ⟨h28, h⟩ := ck_some h
                      refine ci_T.step cb_X6_next_259 (ci_sq rfl (ci_sq (pe_getI (kI := 2) tq_50 rfl rfl rfl) (ci_sq rfl (ci_sq (pe_getI (kI := 4) tq_50 rfl rfl rfl) (ci_sq pe_isub (ci_sq (pe_push pc_2) (pe_ic_le h28 pR_2))))))) ?_
                      refine pbr h (fun hc h => ?_) (fun hc h => ?_)
                      · cases h
                        exact ci_T.done (v := none) cd_X6_next_277 ⟨rfl, rfl⟩
                      · exact ci_T.sub [0] (J272 _ h) rfl
                · obtain ⟨h29, h⟩ := ck_some h
                  refine ci_T.step cb_X6_next_188 (ci_sq rfl (ci_sq (pe_getR tq_50 rfl rfl) (ci_sq rfl (ci_sq (pe_getI (kI := 2) tq_50 rfl rfl rfl) (pe_ald (nI := 320) tq_51 rfl rfl h29))))) ?_
                  obtain ⟨v30, hv, h⟩ := bn_some h
                  refine ci_T.call (as := [_]) (rest := []) kc_X6_isFigure ki_X6_isFigure (by decide) cl_X6_next_197 rfl (Nat.le_of_ble_eq_true rfl) trivial (s_X6_isFigure d o hv) ?_
                  rintro _ _ ⟨⟨rfl, rfl⟩, hz31⟩
                  clear hv
                  refine ci_T.step cb_X6_next_200 (pe_if_eq (Z_R hz31)) ?_
                  refine pbr h (fun hc h => ?_) (fun hc h => ?_)
                  · obtain ⟨h32, h⟩ := ck_some h
                    refine ci_T.step cb_X6_next_240 (ci_sq rfl (ci_sq (pe_getI (kI := 2) tq_50 rfl rfl rfl) (ci_sq rfl (ci_sq (pe_getI (kI := 4) tq_50 rfl rfl rfl) (pe_ic_eq h19 h32))))) ?_
                    obtain ⟨j272, hj, h⟩ := jn_ex h
                    have J272 : ∀ (ρ : pm), j272 ρ = some rρ → ci_T yX6_next cX6_next 1 none (d + 1) 272 ([(0, .ref 51)], [], pk true ρ o) (pV true rρ o) := by
                      intro ρ h
                      subst hj
                      refine ci_T.step cb_X6_next_272 (ci_sq rfl (pe_push pc_1)) ?_
                      obtain ⟨ρ33, hv, h⟩ := bn_some h
                      refine ci_T.call (as := [_, _]) (rest := []) kc_X6_fail ki_X6_fail (by decide) cl_X6_next_274 rfl (Nat.le_of_ble_eq_true rfl) ⟨⟨_, rfl⟩, _, _, _, rfl, pk_obj tq_50 rfl _ _⟩ (s_X6_fail d o hv) ?_
                      rintro _ _ ⟨rfl, rfl⟩
                      clear hv
                      cases h
                      exact ci_T.done (v := none) cd_X6_next_277 ⟨rfl, rfl⟩
                    clear hj
                    refine pbr h (fun hc h => ?_) (fun hc h => ?_)
                    · exact ci_T.sub [0] (J272 _ h) rfl
                    · refine ci_T.step cb_X6_next_251 (ci_sq rfl (ci_sq (pe_getI (kI := 3) tq_50 rfl rfl rfl) (ci_sq (pe_push pc_2) (pe_ic_ne h25 pR_2)))) ?_
                      refine pbrn h (fun hc h => ?_) (fun hc h => ?_)
                      · cases h
                        exact ci_T.done (v := none) cd_X6_next_277 ⟨rfl, rfl⟩
                      · obtain ⟨h34, h⟩ := ck_some h
                        refine ci_T.step cb_X6_next_259 (ci_sq rfl (ci_sq (pe_getI (kI := 2) tq_50 rfl rfl rfl) (ci_sq rfl (ci_sq (pe_getI (kI := 4) tq_50 rfl rfl rfl) (ci_sq pe_isub (ci_sq (pe_push pc_2) (pe_ic_le h34 pR_2))))))) ?_
                        refine pbr h (fun hc h => ?_) (fun hc h => ?_)
                        · cases h
                          exact ci_T.done (v := none) cd_X6_next_277 ⟨rfl, rfl⟩
                        · exact ci_T.sub [0] (J272 _ h) rfl
                  · replace h := jn_some h
                    replace h := jn_some h
                    refine ci_T.step cb_X6_next_203 (ci_sq rfl (ci_sq rfl (ci_sq (pe_getI (kI := 5) tq_50 rfl rfl rfl) (ci_sq (pe_push pc_10) (ci_sq pe_imul (ci_sq rfl (ci_sq (pe_getR tq_50 rfl rfl) (ci_sq rfl (ci_sq (pe_getI (kI := 2) tq_50 rfl rfl rfl) (ci_sq (pe_ald (nI := 320) tq_51 rfl rfl h29) (ci_sq pe_iadd (ci_sq (pe_push pc_48) (ci_sq pe_isub (ci_sq (pe_putI (kI := 5) tq_50 rfl rfl rfl) (ci_sq rfl (ci_sq rfl (ci_sq (pe_getI (kI := 2) tq_50 rfl rfl rfl) (ci_sq (pe_push pc_1) (ci_sq pe_iadd (ci_sq (pe_putI (kI := 2) tq_50 rfl rfl rfl) rfl)))))))))))))))))))) ?_
                    refine ci_T.sub [0] (t_X6_next_169 ?_ fu _ h) rfl
                    · intro ρ h
                      obtain ⟨h45, h⟩ := ck_some h
                      obtain ⟨h46, h⟩ := ck_some h
                      refine ci_T.step cb_X6_next_240 (ci_sq rfl (ci_sq (pe_getI (kI := 2) tq_50 rfl rfl rfl) (ci_sq rfl (ci_sq (pe_getI (kI := 4) tq_50 rfl rfl rfl) (pe_ic_eq h45 h46))))) ?_
                      obtain ⟨j272, hj, h⟩ := jn_ex h
                      have J272 : ∀ (ρ : pm), j272 ρ = some rρ → ci_T yX6_next cX6_next 1 none (d + 1) 272 ([(0, .ref 51)], [], pk true ρ o) (pV true rρ o) := by
                        intro ρ h
                        subst hj
                        refine ci_T.step cb_X6_next_272 (ci_sq rfl (pe_push pc_1)) ?_
                        obtain ⟨ρ47, hv, h⟩ := bn_some h
                        refine ci_T.call (as := [_, _]) (rest := []) kc_X6_fail ki_X6_fail (by decide) cl_X6_next_274 rfl (Nat.le_of_ble_eq_true rfl) ⟨⟨_, rfl⟩, _, _, _, rfl, pk_obj tq_50 rfl _ _⟩ (s_X6_fail d o hv) ?_
                        rintro _ _ ⟨rfl, rfl⟩
                        clear hv
                        cases h
                        exact ci_T.done (v := none) cd_X6_next_277 ⟨rfl, rfl⟩
                      clear hj
                      refine pbr h (fun hc h => ?_) (fun hc h => ?_)
                      · exact ci_T.sub [0] (J272 _ h) rfl
                      · obtain ⟨h48, h⟩ := ck_some h
                        refine ci_T.step cb_X6_next_251 (ci_sq rfl (ci_sq (pe_getI (kI := 3) tq_50 rfl rfl rfl) (ci_sq (pe_push pc_2) (pe_ic_ne h48 pR_2)))) ?_
                        refine pbrn h (fun hc h => ?_) (fun hc h => ?_)
                        · cases h
                          exact ci_T.done (v := none) cd_X6_next_277 ⟨rfl, rfl⟩
                        · obtain ⟨h49, h⟩ := ck_some h
                          refine ci_T.step cb_X6_next_259 (ci_sq rfl (ci_sq (pe_getI (kI := 2) tq_50 rfl rfl rfl) (ci_sq rfl (ci_sq (pe_getI (kI := 4) tq_50 rfl rfl rfl) (ci_sq pe_isub (ci_sq (pe_push pc_2) (pe_ic_le h49 pR_2))))))) ?_
                          refine pbr h (fun hc h => ?_) (fun hc h => ?_)
                          · cases h
                            exact ci_T.done (v := none) cd_X6_next_277 ⟨rfl, rfl⟩
                          · exact ci_T.sub [0] (J272 _ h) rfl
          clear hj
          refine pbr h (fun hc h => ?_) (fun hc h => ?_)
          · refine ci_T.step cb_X6_next_118 (pe_push pc_2) ?_
            exact ci_T.sub [0] (J119 _ _ h) rfl
          · refine ci_T.step cb_X6_next_114 (ci_sq (pe_push pc_1) rfl) ?_
            exact ci_T.sub [0] (J119 _ _ h) rfl
        · replace h := jn_some h
          replace h := jn_some h
          refine ci_T.step cb_X6_next_82 (ci_sq rfl (ci_sq (pe_push pc_3) (ci_sq (pe_putI (kI := 3) tq_50 rfl rfl rfl) (ci_sq rfl (ci_sq rfl (ci_sq (pe_getI (kI := 2) tq_50 rfl rfl rfl) (ci_sq (pe_push pc_1) (ci_sq pe_iadd (pe_putI (kI := 2) tq_50 rfl rfl rfl))))))))) ?_
          cases h
          exact ci_T.done (v := none) cd_X6_next_97 ⟨rfl, rfl⟩
      · replace h := jn_some h
        refine ci_T.step cb_X6_next_62 (ci_sq rfl (ci_sq (pe_push pc_0) (pe_putI (kI := 3) tq_50 rfl rfl rfl))) ?_
        cases h
        exact ci_T.done (v := none) cd_X6_next_67 ⟨rfl, rfl⟩
    · obtain ⟨h53, h⟩ := ck_some h
      obtain ⟨h54, h⟩ := ck_some h
      refine ci_T.step cb_X6_next_11 (ci_sq rfl (ci_sq (pe_getR tq_50 rfl rfl) (ci_sq rfl (ci_sq (pe_getI (kI := 2) tq_50 rfl rfl rfl) (ci_sq (pe_ald (nI := 320) tq_51 rfl rfl h53) (ci_sq (pe_push pc_32) (pe_ic_ne h54 pR_32))))))) ?_
      refine pbrn h (fun hc h => ?_) (fun hc h => ?_)
      · replace h := jn_some h
        replace h := jn_some h
        obtain ⟨h57, h⟩ := ck_some h
        obtain ⟨h58, h⟩ := ck_some h
        refine ci_T.step cb_X6_next_38 (ci_sq rfl (ci_sq rfl (ci_sq (pe_getI (kI := 2) tq_50 rfl rfl rfl) (ci_sq (pe_putI (kI := 4) tq_50 rfl rfl rfl) (ci_sq rfl (ci_sq (pe_push pc_0) (ci_sq (pe_putI (kI := 5) tq_50 rfl rfl rfl) (ci_sq rfl (ci_sq (pe_getI (kI := 2) tq_50 rfl rfl rfl) (ci_sq rfl (ci_sq (pe_getI (kI := 1) tq_50 rfl rfl rfl) (pe_ic_lt h57 h58)))))))))))) ?_
        refine pbr h (fun hc h => ?_) (fun hc h => ?_)
        · obtain ⟨h59, h⟩ := ck_some h
          obtain ⟨h60, h⟩ := ck_some h
          refine ci_T.step cb_X6_next_68 (ci_sq rfl (ci_sq (pe_getR tq_50 rfl rfl) (ci_sq rfl (ci_sq (pe_getI (kI := 2) tq_50 rfl rfl rfl) (ci_sq (pe_ald (nI := 320) tq_51 rfl rfl h59) (ci_sq (pe_push pc_59) (pe_ic_ne h60 pR_59))))))) ?_
          refine pbrn h (fun hc h => ?_) (fun hc h => ?_)
          · refine ci_T.step cb_X6_next_98 (ci_sq rfl (ci_sq rfl (ci_sq (pe_getR tq_50 rfl rfl) (ci_sq rfl (ci_sq (pe_getI (kI := 2) tq_50 rfl rfl rfl) (pe_ald (nI := 320) tq_51 rfl rfl h59)))))) ?_
            obtain ⟨v61, hv, h⟩ := bn_some h
            refine ci_T.call (as := [_]) (rest := [_]) kc_X6_isLetter ki_X6_isLetter (by decide) cl_X6_next_108 rfl (Nat.le_of_ble_eq_true rfl) trivial (s_X6_isLetter d o hv) ?_
            rintro _ _ ⟨⟨rfl, rfl⟩, hz62⟩
            clear hv
            refine ci_T.step cb_X6_next_111 (pe_if_eq (Z_R hz62)) ?_
            obtain ⟨j119, hj, h⟩ := jn_ex h
            have J119 : ∀ (s1 : Int) (ρ : pm), j119 s1 ρ = some rρ → ci_T yX6_next cX6_next 1 none (d + 1) 119 ([(0, .ref 51)], [.int (Int32.ofInt s1), .ref 51], pk true ρ o) (pV true rρ o) := by
              intro s1 ρ h
              subst hj
              replace h := jn_some h
              refine ci_T.step cb_X6_next_119 (pe_putI (kI := 3) tq_50 rfl rfl rfl) ?_
              refine ci_T.sub [0] (t_X6_next_122 ?_ fu _ h) rfl
              · intro ρ h
                obtain ⟨h64, h⟩ := ck_some h
                obtain ⟨h65, h⟩ := ck_some h
                refine ci_T.step cb_X6_next_169 (ci_sq rfl (ci_sq (pe_getI (kI := 2) tq_50 rfl rfl rfl) (ci_sq rfl (ci_sq (pe_getI (kI := 1) tq_50 rfl rfl rfl) (pe_ic_ge h64 h65))))) ?_
                refine pbr h (fun hc h => ?_) (fun hc h => ?_)
                · obtain ⟨h66, h⟩ := ck_some h
                  refine ci_T.step cb_X6_next_240 (ci_sq rfl (ci_sq (pe_getI (kI := 2) tq_50 rfl rfl rfl) (ci_sq rfl (ci_sq (pe_getI (kI := 4) tq_50 rfl rfl rfl) (pe_ic_eq h64 h66))))) ?_
                  obtain ⟨j272, hj, h⟩ := jn_ex h
                  have J272 : ∀ (ρ : pm), j272 ρ = some rρ → ci_T yX6_next cX6_next 1 none (d + 1) 272 ([(0, .ref 51)], [], pk true ρ o) (pV true rρ o) := by
                    intro ρ h
                    subst hj
                    refine ci_T.step cb_X6_next_272 (ci_sq rfl (pe_push pc_1)) ?_
                    obtain ⟨ρ67, hv, h⟩ := bn_some h
                    refine ci_T.call (as := [_, _]) (rest := []) kc_X6_fail ki_X6_fail (by decide) cl_X6_next_274 rfl (Nat.le_of_ble_eq_true rfl) ⟨⟨_, rfl⟩, _, _, _, rfl, pk_obj tq_50 rfl _ _⟩ (s_X6_fail d o hv) ?_
                    rintro _ _ ⟨rfl, rfl⟩
                    clear hv
                    cases h
                    exact ci_T.done (v := none) cd_X6_next_277 ⟨rfl, rfl⟩
                  clear hj
                  refine pbr h (fun hc h => ?_) (fun hc h => ?_)
                  · exact ci_T.sub [0] (J272 _ h) rfl
                  · obtain ⟨h68, h⟩ := ck_some h
                    refine ci_T.step cb_X6_next_251 (ci_sq rfl (ci_sq (pe_getI (kI := 3) tq_50 rfl rfl rfl) (ci_sq (pe_push pc_2) (pe_ic_ne h68 pR_2)))) ?_
                    refine pbrn h (fun hc h => ?_) (fun hc h => ?_)
                    · cases h
                      exact ci_T.done (v := none) cd_X6_next_277 ⟨rfl, rfl⟩
                    · obtain ⟨h69, h⟩ := ck_some h
                      refine ci_T.step cb_X6_next_259 (ci_sq rfl (ci_sq (pe_getI (kI := 2) tq_50 rfl rfl rfl) (ci_sq rfl (ci_sq (pe_getI (kI := 4) tq_50 rfl rfl rfl) (ci_sq pe_isub (ci_sq (pe_push pc_2) (pe_ic_le h69 pR_2))))))) ?_
                      refine pbr h (fun hc h => ?_) (fun hc h => ?_)
                      · cases h
                        exact ci_T.done (v := none) cd_X6_next_277 ⟨rfl, rfl⟩
                      · exact ci_T.sub [0] (J272 _ h) rfl
                · obtain ⟨h70, h⟩ := ck_some h
                  refine ci_T.step cb_X6_next_180 (ci_sq rfl (ci_sq (pe_getI (kI := 3) tq_50 rfl rfl rfl) (ci_sq (pe_push pc_2) (pe_ic_ne h70 pR_2)))) ?_
                  refine pbrn h (fun hc h => ?_) (fun hc h => ?_)
                  · obtain ⟨h71, h⟩ := ck_some h
                    refine ci_T.step cb_X6_next_240 (ci_sq rfl (ci_sq (pe_getI (kI := 2) tq_50 rfl rfl rfl) (ci_sq rfl (ci_sq (pe_getI (kI := 4) tq_50 rfl rfl rfl) (pe_ic_eq h64 h71))))) ?_
                    obtain ⟨j272, hj, h⟩ := jn_ex h
                    have J272 : ∀ (ρ : pm), j272 ρ = some rρ → ci_T yX6_next cX6_next 1 none (d + 1) 272 ([(0, .ref 51)], [], pk true ρ o) (pV true rρ o) := by
                      intro ρ h
                      subst hj
                      refine ci_T.step cb_X6_next_272 (ci_sq rfl (pe_push pc_1)) ?_
                      obtain ⟨ρ72, hv, h⟩ := bn_some h
                      refine ci_T.call (as := [_, _]) (rest := []) kc_X6_fail ki_X6_fail (by decide) cl_X6_next_274 rfl (Nat.le_of_ble_eq_true rfl) ⟨⟨_, rfl⟩, _, _, _, rfl, pk_obj tq_50 rfl _ _⟩ (s_X6_fail d o hv) ?_
                      rintro _ _ ⟨rfl, rfl⟩
                      clear hv
                      cases h
                      exact ci_T.done (v := none) cd_X6_next_277 ⟨rfl, rfl⟩
                    clear hj
                    refine pbr h (fun hc h => ?_) (fun hc h => ?_)
                    · exact ci_T.sub [0] (J272 _ h) rfl
                    · refine ci_T.step cb_X6_next_251 (ci_sq rfl (ci_sq (pe_getI (kI := 3) tq_50 rfl rfl rfl) (ci_sq (pe_push pc_2) (pe_ic_ne h70 pR_2)))) ?_
                      refine pbrn h (fun hc h => ?_) (fun hc h => ?_)
                      · cases h
                        exact ci_T.done (v := none) cd_X6_next_277 ⟨rfl, rfl⟩
                      · obtain ⟨h73, h⟩ := ck_some h
                        refine ci_T.step cb_X6_next_259 (ci_sq rfl (ci_sq (pe_getI (kI := 2) tq_50 rfl rfl rfl) (ci_sq rfl (ci_sq (pe_getI (kI := 4) tq_50 rfl rfl rfl) (ci_sq pe_isub (ci_sq (pe_push pc_2) (pe_ic_le h73 pR_2))))))) ?_
                        refine pbr h (fun hc h => ?_) (fun hc h => ?_)
                        · cases h
                          exact ci_T.done (v := none) cd_X6_next_277 ⟨rfl, rfl⟩
                        · exact ci_T.sub [0] (J272 _ h) rfl
                  · obtain ⟨h74, h⟩ := ck_some h
                    refine ci_T.step cb_X6_next_188 (ci_sq rfl (ci_sq (pe_getR tq_50 rfl rfl) (ci_sq rfl (ci_sq (pe_getI (kI := 2) tq_50 rfl rfl rfl) (pe_ald (nI := 320) tq_51 rfl rfl h74))))) ?_
                    obtain ⟨v75, hv, h⟩ := bn_some h
                    refine ci_T.call (as := [_]) (rest := []) kc_X6_isFigure ki_X6_isFigure (by decide) cl_X6_next_197 rfl (Nat.le_of_ble_eq_true rfl) trivial (s_X6_isFigure d o hv) ?_
                    rintro _ _ ⟨⟨rfl, rfl⟩, hz76⟩
                    clear hv
                    refine ci_T.step cb_X6_next_200 (pe_if_eq (Z_R hz76)) ?_
                    refine pbr h (fun hc h => ?_) (fun hc h => ?_)
                    · obtain ⟨h77, h⟩ := ck_some h
                      refine ci_T.step cb_X6_next_240 (ci_sq rfl (ci_sq (pe_getI (kI := 2) tq_50 rfl rfl rfl) (ci_sq rfl (ci_sq (pe_getI (kI := 4) tq_50 rfl rfl rfl) (pe_ic_eq h64 h77))))) ?_
                      obtain ⟨j272, hj, h⟩ := jn_ex h
                      have J272 : ∀ (ρ : pm), j272 ρ = some rρ → ci_T yX6_next cX6_next 1 none (d + 1) 272 ([(0, .ref 51)], [], pk true ρ o) (pV true rρ o) := by
                        intro ρ h
                        subst hj
                        refine ci_T.step cb_X6_next_272 (ci_sq rfl (pe_push pc_1)) ?_
                        obtain ⟨ρ78, hv, h⟩ := bn_some h
                        refine ci_T.call (as := [_, _]) (rest := []) kc_X6_fail ki_X6_fail (by decide) cl_X6_next_274 rfl (Nat.le_of_ble_eq_true rfl) ⟨⟨_, rfl⟩, _, _, _, rfl, pk_obj tq_50 rfl _ _⟩ (s_X6_fail d o hv) ?_
                        rintro _ _ ⟨rfl, rfl⟩
                        clear hv
                        cases h
                        exact ci_T.done (v := none) cd_X6_next_277 ⟨rfl, rfl⟩
                      clear hj
                      refine pbr h (fun hc h => ?_) (fun hc h => ?_)
                      · exact ci_T.sub [0] (J272 _ h) rfl
                      · refine ci_T.step cb_X6_next_251 (ci_sq rfl (ci_sq (pe_getI (kI := 3) tq_50 rfl rfl rfl) (ci_sq (pe_push pc_2) (pe_ic_ne h70 pR_2)))) ?_
                        refine pbrn h (fun hc h => ?_) (fun hc h => ?_)
                        · cases h
                          exact ci_T.done (v := none) cd_X6_next_277 ⟨rfl, rfl⟩
                        · obtain ⟨h79, h⟩ := ck_some h
                          refine ci_T.step cb_X6_next_259 (ci_sq rfl (ci_sq (pe_getI (kI := 2) tq_50 rfl rfl rfl) (ci_sq rfl (ci_sq (pe_getI (kI := 4) tq_50 rfl rfl rfl) (ci_sq pe_isub (ci_sq (pe_push pc_2) (pe_ic_le h79 pR_2))))))) ?_
                          refine pbr h (fun hc h => ?_) (fun hc h => ?_)
                          · cases h
                            exact ci_T.done (v := none) cd_X6_next_277 ⟨rfl, rfl⟩
                          · exact ci_T.sub [0] (J272 _ h) rfl
                    · replace h := jn_some h
                      replace h := jn_some h
                      refine ci_T.step cb_X6_next_203 (ci_sq rfl (ci_sq rfl (ci_sq (pe_getI (kI := 5) tq_50 rfl rfl rfl) (ci_sq (pe_push pc_10) (ci_sq pe_imul (ci_sq rfl (ci_sq (pe_getR tq_50 rfl rfl) (ci_sq rfl (ci_sq (pe_getI (kI := 2) tq_50 rfl rfl rfl) (ci_sq (pe_ald (nI := 320) tq_51 rfl rfl h74) (ci_sq pe_iadd (ci_sq (pe_push pc_48) (ci_sq pe_isub (ci_sq (pe_putI (kI := 5) tq_50 rfl rfl rfl) (ci_sq rfl (ci_sq rfl (ci_sq (pe_getI (kI := 2) tq_50 rfl rfl rfl) (ci_sq (pe_push pc_1) (ci_sq pe_iadd (ci_sq (pe_putI (kI := 2) tq_50 rfl rfl rfl) rfl)))))))))))))))))))) ?_
                      refine ci_T.sub [0] (t_X6_next_169 ?_ fu _ h) rfl
                      · intro ρ h
                        obtain ⟨h82, h⟩ := ck_some h
                        obtain ⟨h83, h⟩ := ck_some h
                        refine ci_T.step cb_X6_next_240 (ci_sq rfl (ci_sq (pe_getI (kI := 2) tq_50 rfl rfl rfl) (ci_sq rfl (ci_sq (pe_getI (kI := 4) tq_50 rfl rfl rfl) (pe_ic_eq h82 h83))))) ?_
                        obtain ⟨j272, hj, h⟩ := jn_ex h
                        have J272 : ∀ (ρ : pm), j272 ρ = some rρ → ci_T yX6_next cX6_next 1 none (d + 1) 272 ([(0, .ref 51)], [], pk true ρ o) (pV true rρ o) := by
                          intro ρ h
                          subst hj
                          refine ci_T.step cb_X6_next_272 (ci_sq rfl (pe_push pc_1)) ?_
                          obtain ⟨ρ84, hv, h⟩ := bn_some h
                          refine ci_T.call (as := [_, _]) (rest := []) kc_X6_fail ki_X6_fail (by decide) cl_X6_next_274 rfl (Nat.le_of_ble_eq_true rfl) ⟨⟨_, rfl⟩, _, _, _, rfl, pk_obj tq_50 rfl _ _⟩ (s_X6_fail d o hv) ?_
                          rintro _ _ ⟨rfl, rfl⟩
                          clear hv
                          cases h
                          exact ci_T.done (v := none) cd_X6_next_277 ⟨rfl, rfl⟩
                        clear hj
                        refine pbr h (fun hc h => ?_) (fun hc h => ?_)
                        · exact ci_T.sub [0] (J272 _ h) rfl
                        · obtain ⟨h85, h⟩ := ck_some h
                          refine ci_T.step cb_X6_next_251 (ci_sq rfl (ci_sq (pe_getI (kI := 3) tq_50 rfl rfl rfl) (ci_sq (pe_push pc_2) (pe_ic_ne h85 pR_2)))) ?_
                          refine pbrn h (fun hc h => ?_) (fun hc h => ?_)
                          · cases h
                            exact ci_T.done (v := none) cd_X6_next_277 ⟨rfl, rfl⟩
                          · obtain ⟨h86, h⟩ := ck_some h
                            refine ci_T.step cb_X6_next_259 (ci_sq rfl (ci_sq (pe_getI (kI := 2) tq_50 rfl rfl rfl) (ci_sq rfl (ci_sq (pe_getI (kI := 4) tq_50 rfl rfl rfl) (ci_sq pe_isub (ci_sq (pe_push pc_2) (pe_ic_le h86 pR_2))))))) ?_
                            refine pbr h (fun hc h => ?_) (fun hc h => ?_)
                            · cases h
                              exact ci_T.done (v := none) cd_X6_next_277 ⟨rfl, rfl⟩
                            · exact ci_T.sub [0] (J272 _ h) rfl
            clear hj
            refine pbr h (fun hc h => ?_) (fun hc h => ?_)
            · refine ci_T.step cb_X6_next_118 (pe_push pc_2) ?_
              exact ci_T.sub [0] (J119 _ _ h) rfl
            · refine ci_T.step cb_X6_next_114 (ci_sq (pe_push pc_1) rfl) ?_
              exact ci_T.sub [0] (J119 _ _ h) rfl
          · replace h := jn_some h
            replace h := jn_some h
            refine ci_T.step cb_X6_next_82 (ci_sq rfl (ci_sq (pe_push pc_3) (ci_sq (pe_putI (kI := 3) tq_50 rfl rfl rfl) (ci_sq rfl (ci_sq rfl (ci_sq (pe_getI (kI := 2) tq_50 rfl rfl rfl) (ci_sq (pe_push pc_1) (ci_sq pe_iadd (pe_putI (kI := 2) tq_50 rfl rfl rfl))))))))) ?_
            cases h
            exact ci_T.done (v := none) cd_X6_next_97 ⟨rfl, rfl⟩
        · replace h := jn_some h
          refine ci_T.step cb_X6_next_62 (ci_sq rfl (ci_sq (pe_push pc_0) (pe_putI (kI := 3) tq_50 rfl rfl rfl))) ?_
          cases h
          exact ci_T.done (v := none) cd_X6_next_67 ⟨rfl, rfl⟩
      · replace h := jn_some h
        refine ci_T.step cb_X6_next_25 (ci_sq rfl (ci_sq rfl (ci_sq (pe_getI (kI := 2) tq_50 rfl rfl rfl) (ci_sq (pe_push pc_1) (ci_sq pe_iadd (ci_sq (pe_putI (kI := 2) tq_50 rfl rfl rfl) rfl)))))) ?_
        refine ci_T.sub [0] (t_X6_next_0 ?_ fu _ h) rfl
        · intro ρ h
          replace h := jn_some h
          replace h := jn_some h
          obtain ⟨h98, h⟩ := ck_some h
          obtain ⟨h99, h⟩ := ck_some h
          refine ci_T.step cb_X6_next_38 (ci_sq rfl (ci_sq rfl (ci_sq (pe_getI (kI := 2) tq_50 rfl rfl rfl) (ci_sq (pe_putI (kI := 4) tq_50 rfl rfl rfl) (ci_sq rfl (ci_sq (pe_push pc_0) (ci_sq (pe_putI (kI := 5) tq_50 rfl rfl rfl) (ci_sq rfl (ci_sq (pe_getI (kI := 2) tq_50 rfl rfl rfl) (ci_sq rfl (ci_sq (pe_getI (kI := 1) tq_50 rfl rfl rfl) (pe_ic_lt h98 h99)))))))))))) ?_
          refine pbr h (fun hc h => ?_) (fun hc h => ?_)
          · obtain ⟨h100, h⟩ := ck_some h
            obtain ⟨h101, h⟩ := ck_some h
            refine ci_T.step cb_X6_next_68 (ci_sq rfl (ci_sq (pe_getR tq_50 rfl rfl) (ci_sq rfl (ci_sq (pe_getI (kI := 2) tq_50 rfl rfl rfl) (ci_sq (pe_ald (nI := 320) tq_51 rfl rfl h100) (ci_sq (pe_push pc_59) (pe_ic_ne h101 pR_59))))))) ?_
            refine pbrn h (fun hc h => ?_) (fun hc h => ?_)
            · refine ci_T.step cb_X6_next_98 (ci_sq rfl (ci_sq rfl (ci_sq (pe_getR tq_50 rfl rfl) (ci_sq rfl (ci_sq (pe_getI (kI := 2) tq_50 rfl rfl rfl) (pe_ald (nI := 320) tq_51 rfl rfl h100)))))) ?_
              obtain ⟨v102, hv, h⟩ := bn_some h
              refine ci_T.call (as := [_]) (rest := [_]) kc_X6_isLetter ki_X6_isLetter (by decide) cl_X6_next_108 rfl (Nat.le_of_ble_eq_true rfl) trivial (s_X6_isLetter d o hv) ?_
              rintro _ _ ⟨⟨rfl, rfl⟩, hz103⟩
              clear hv
              refine ci_T.step cb_X6_next_111 (pe_if_eq (Z_R hz103)) ?_
              obtain ⟨j119, hj, h⟩ := jn_ex h
              have J119 : ∀ (s1 : Int) (ρ : pm), j119 s1 ρ = some rρ → ci_T yX6_next cX6_next 1 none (d + 1) 119 ([(0, .ref 51)], [.int (Int32.ofInt s1), .ref 51], pk true ρ o) (pV true rρ o) := by
                intro s1 ρ h
                subst hj
                replace h := jn_some h
                refine ci_T.step cb_X6_next_119 (pe_putI (kI := 3) tq_50 rfl rfl rfl) ?_
                refine ci_T.sub [0] (t_X6_next_122 ?_ fu _ h) rfl
                · intro ρ h
                  obtain ⟨h105, h⟩ := ck_some h
                  obtain ⟨h106, h⟩ := ck_some h
                  refine ci_T.step cb_X6_next_169 (ci_sq rfl (ci_sq (pe_getI (kI := 2) tq_50 rfl rfl rfl) (ci_sq rfl (ci_sq (pe_getI (kI := 1) tq_50 rfl rfl rfl) (pe_ic_ge h105 h106))))) ?_
                  refine pbr h (fun hc h => ?_) (fun hc h => ?_)
                  · obtain ⟨h107, h⟩ := ck_some h
                    refine ci_T.step cb_X6_next_240 (ci_sq rfl (ci_sq (pe_getI (kI := 2) tq_50 rfl rfl rfl) (ci_sq rfl (ci_sq (pe_getI (kI := 4) tq_50 rfl rfl rfl) (pe_ic_eq h105 h107))))) ?_
                    obtain ⟨j272, hj, h⟩ := jn_ex h
                    have J272 : ∀ (ρ : pm), j272 ρ = some rρ → ci_T yX6_next cX6_next 1 none (d + 1) 272 ([(0, .ref 51)], [], pk true ρ o) (pV true rρ o) := by
                      intro ρ h
                      subst hj
                      refine ci_T.step cb_X6_next_272 (ci_sq rfl (pe_push pc_1)) ?_
                      obtain ⟨ρ108, hv, h⟩ := bn_some h
                      refine ci_T.call (as := [_, _]) (rest := []) kc_X6_fail ki_X6_fail (by decide) cl_X6_next_274 rfl (Nat.le_of_ble_eq_true rfl) ⟨⟨_, rfl⟩, _, _, _, rfl, pk_obj tq_50 rfl _ _⟩ (s_X6_fail d o hv) ?_
                      rintro _ _ ⟨rfl, rfl⟩
                      clear hv
                      cases h
                      exact ci_T.done (v := none) cd_X6_next_277 ⟨rfl, rfl⟩
                    clear hj
                    refine pbr h (fun hc h => ?_) (fun hc h => ?_)
                    · exact ci_T.sub [0] (J272 _ h) rfl
                    · obtain ⟨h109, h⟩ := ck_some h
                      refine ci_T.step cb_X6_next_251 (ci_sq rfl (ci_sq (pe_getI (kI := 3) tq_50 rfl rfl rfl) (ci_sq (pe_push pc_2) (pe_ic_ne h109 pR_2)))) ?_
                      refine pbrn h (fun hc h => ?_) (fun hc h => ?_)
                      · cases h
                        exact ci_T.done (v := none) cd_X6_next_277 ⟨rfl, rfl⟩
                      · obtain ⟨h110, h⟩ := ck_some h
                        refine ci_T.step cb_X6_next_259 (ci_sq rfl (ci_sq (pe_getI (kI := 2) tq_50 rfl rfl rfl) (ci_sq rfl (ci_sq (pe_getI (kI := 4) tq_50 rfl rfl rfl) (ci_sq pe_isub (ci_sq (pe_push pc_2) (pe_ic_le h110 pR_2))))))) ?_
                        refine pbr h (fun hc h => ?_) (fun hc h => ?_)
                        · cases h
                          exact ci_T.done (v := none) cd_X6_next_277 ⟨rfl, rfl⟩
                        · exact ci_T.sub [0] (J272 _ h) rfl
                  · obtain ⟨h111, h⟩ := ck_some h
                    refine ci_T.step cb_X6_next_180 (ci_sq rfl (ci_sq (pe_getI (kI := 3) tq_50 rfl rfl rfl) (ci_sq (pe_push pc_2) (pe_ic_ne h111 pR_2)))) ?_
                    refine pbrn h (fun hc h => ?_) (fun hc h => ?_)
                    · obtain ⟨h112, h⟩ := ck_some h
                      refine ci_T.step cb_X6_next_240 (ci_sq rfl (ci_sq (pe_getI (kI := 2) tq_50 rfl rfl rfl) (ci_sq rfl (ci_sq (pe_getI (kI := 4) tq_50 rfl rfl rfl) (pe_ic_eq h105 h112))))) ?_
                      obtain ⟨j272, hj, h⟩ := jn_ex h
                      have J272 : ∀ (ρ : pm), j272 ρ = some rρ → ci_T yX6_next cX6_next 1 none (d + 1) 272 ([(0, .ref 51)], [], pk true ρ o) (pV true rρ o) := by
                        intro ρ h
                        subst hj
                        refine ci_T.step cb_X6_next_272 (ci_sq rfl (pe_push pc_1)) ?_
                        obtain ⟨ρ113, hv, h⟩ := bn_some h
                        refine ci_T.call (as := [_, _]) (rest := []) kc_X6_fail ki_X6_fail (by decide) cl_X6_next_274 rfl (Nat.le_of_ble_eq_true rfl) ⟨⟨_, rfl⟩, _, _, _, rfl, pk_obj tq_50 rfl _ _⟩ (s_X6_fail d o hv) ?_
                        rintro _ _ ⟨rfl, rfl⟩
                        clear hv
                        cases h
                        exact ci_T.done (v := none) cd_X6_next_277 ⟨rfl, rfl⟩
                      clear hj
                      refine pbr h (fun hc h => ?_) (fun hc h => ?_)
                      · exact ci_T.sub [0] (J272 _ h) rfl
                      · refine ci_T.step cb_X6_next_251 (ci_sq rfl (ci_sq (pe_getI (kI := 3) tq_50 rfl rfl rfl) (ci_sq (pe_push pc_2) (pe_ic_ne h111 pR_2)))) ?_
                        refine pbrn h (fun hc h => ?_) (fun hc h => ?_)
                        · cases h
                          exact ci_T.done (v := none) cd_X6_next_277 ⟨rfl, rfl⟩
                        · obtain ⟨h114, h⟩ := ck_some h
                          refine ci_T.step cb_X6_next_259 (ci_sq rfl (ci_sq (pe_getI (kI := 2) tq_50 rfl rfl rfl) (ci_sq rfl (ci_sq (pe_getI (kI := 4) tq_50 rfl rfl rfl) (ci_sq pe_isub (ci_sq (pe_push pc_2) (pe_ic_le h114 pR_2))))))) ?_
                          refine pbr h (fun hc h => ?_) (fun hc h => ?_)
                          · cases h
                            exact ci_T.done (v := none) cd_X6_next_277 ⟨rfl, rfl⟩
                          · exact ci_T.sub [0] (J272 _ h) rfl
                    · obtain ⟨h115, h⟩ := ck_some h
                      refine ci_T.step cb_X6_next_188 (ci_sq rfl (ci_sq (pe_getR tq_50 rfl rfl) (ci_sq rfl (ci_sq (pe_getI (kI := 2) tq_50 rfl rfl rfl) (pe_ald (nI := 320) tq_51 rfl rfl h115))))) ?_
                      obtain ⟨v116, hv, h⟩ := bn_some h
                      refine ci_T.call (as := [_]) (rest := []) kc_X6_isFigure ki_X6_isFigure (by decide) cl_X6_next_197 rfl (Nat.le_of_ble_eq_true rfl) trivial (s_X6_isFigure d o hv) ?_
                      rintro _ _ ⟨⟨rfl, rfl⟩, hz117⟩
                      clear hv
                      refine ci_T.step cb_X6_next_200 (pe_if_eq (Z_R hz117)) ?_
                      refine pbr h (fun hc h => ?_) (fun hc h => ?_)
                      · obtain ⟨h118, h⟩ := ck_some h
                        refine ci_T.step cb_X6_next_240 (ci_sq rfl (ci_sq (pe_getI (kI := 2) tq_50 rfl rfl rfl) (ci_sq rfl (ci_sq (pe_getI (kI := 4) tq_50 rfl rfl rfl) (pe_ic_eq h105 h118))))) ?_
                        obtain ⟨j272, hj, h⟩ := jn_ex h
                        have J272 : ∀ (ρ : pm), j272 ρ = some rρ → ci_T yX6_next cX6_next 1 none (d + 1) 272 ([(0, .ref 51)], [], pk true ρ o) (pV true rρ o) := by
                          intro ρ h
                          subst hj
                          refine ci_T.step cb_X6_next_272 (ci_sq rfl (pe_push pc_1)) ?_
                          obtain ⟨ρ119, hv, h⟩ := bn_some h
                          refine ci_T.call (as := [_, _]) (rest := []) kc_X6_fail ki_X6_fail (by decide) cl_X6_next_274 rfl (Nat.le_of_ble_eq_true rfl) ⟨⟨_, rfl⟩, _, _, _, rfl, pk_obj tq_50 rfl _ _⟩ (s_X6_fail d o hv) ?_
                          rintro _ _ ⟨rfl, rfl⟩
                          clear hv
                          cases h
                          exact ci_T.done (v := none) cd_X6_next_277 ⟨rfl, rfl⟩
                        clear hj
                        refine pbr h (fun hc h => ?_) (fun hc h => ?_)
                        · exact ci_T.sub [0] (J272 _ h) rfl
                        · refine ci_T.step cb_X6_next_251 (ci_sq rfl (ci_sq (pe_getI (kI := 3) tq_50 rfl rfl rfl) (ci_sq (pe_push pc_2) (pe_ic_ne h111 pR_2)))) ?_
                          refine pbrn h (fun hc h => ?_) (fun hc h => ?_)
                          · cases h
                            exact ci_T.done (v := none) cd_X6_next_277 ⟨rfl, rfl⟩
                          · obtain ⟨h120, h⟩ := ck_some h
                            refine ci_T.step cb_X6_next_259 (ci_sq rfl (ci_sq (pe_getI (kI := 2) tq_50 rfl rfl rfl) (ci_sq rfl (ci_sq (pe_getI (kI := 4) tq_50 rfl rfl rfl) (ci_sq pe_isub (ci_sq (pe_push pc_2) (pe_ic_le h120 pR_2))))))) ?_
                            refine pbr h (fun hc h => ?_) (fun hc h => ?_)
                            · cases h
                              exact ci_T.done (v := none) cd_X6_next_277 ⟨rfl, rfl⟩
                            · exact ci_T.sub [0] (J272 _ h) rfl
                      · replace h := jn_some h
                        replace h := jn_some h
                        refine ci_T.step cb_X6_next_203 (ci_sq rfl (ci_sq rfl (ci_sq (pe_getI (kI := 5) tq_50 rfl rfl rfl) (ci_sq (pe_push pc_10) (ci_sq pe_imul (ci_sq rfl (ci_sq (pe_getR tq_50 rfl rfl) (ci_sq rfl (ci_sq (pe_getI (kI := 2) tq_50 rfl rfl rfl) (ci_sq (pe_ald (nI := 320) tq_51 rfl rfl h115) (ci_sq pe_iadd (ci_sq (pe_push pc_48) (ci_sq pe_isub (ci_sq (pe_putI (kI := 5) tq_50 rfl rfl rfl) (ci_sq rfl (ci_sq rfl (ci_sq (pe_getI (kI := 2) tq_50 rfl rfl rfl) (ci_sq (pe_push pc_1) (ci_sq pe_iadd (ci_sq (pe_putI (kI := 2) tq_50 rfl rfl rfl) rfl)))))))))))))))))))) ?_
                        refine ci_T.sub [0] (t_X6_next_169 ?_ fu _ h) rfl
                        · intro ρ h
                          obtain ⟨h123, h⟩ := ck_some h
                          obtain ⟨h124, h⟩ := ck_some h
                          refine ci_T.step cb_X6_next_240 (ci_sq rfl (ci_sq (pe_getI (kI := 2) tq_50 rfl rfl rfl) (ci_sq rfl (ci_sq (pe_getI (kI := 4) tq_50 rfl rfl rfl) (pe_ic_eq h123 h124))))) ?_
                          obtain ⟨j272, hj, h⟩ := jn_ex h
                          have J272 : ∀ (ρ : pm), j272 ρ = some rρ → ci_T yX6_next cX6_next 1 none (d + 1) 272 ([(0, .ref 51)], [], pk true ρ o) (pV true rρ o) := by
                            intro ρ h
                            subst hj
                            refine ci_T.step cb_X6_next_272 (ci_sq rfl (pe_push pc_1)) ?_
                            obtain ⟨ρ125, hv, h⟩ := bn_some h
                            refine ci_T.call (as := [_, _]) (rest := []) kc_X6_fail ki_X6_fail (by decide) cl_X6_next_274 rfl (Nat.le_of_ble_eq_true rfl) ⟨⟨_, rfl⟩, _, _, _, rfl, pk_obj tq_50 rfl _ _⟩ (s_X6_fail d o hv) ?_
                            rintro _ _ ⟨rfl, rfl⟩
                            clear hv
                            cases h
                            exact ci_T.done (v := none) cd_X6_next_277 ⟨rfl, rfl⟩
                          clear hj
                          refine pbr h (fun hc h => ?_) (fun hc h => ?_)
                          · exact ci_T.sub [0] (J272 _ h) rfl
                          · obtain ⟨h126, h⟩ := ck_some h
                            refine ci_T.step cb_X6_next_251 (ci_sq rfl (ci_sq (pe_getI (kI := 3) tq_50 rfl rfl rfl) (ci_sq (pe_push pc_2) (pe_ic_ne h126 pR_2)))) ?_
                            refine pbrn h (fun hc h => ?_) (fun hc h => ?_)
                            · cases h
                              exact ci_T.done (v := none) cd_X6_next_277 ⟨rfl, rfl⟩
                            · obtain ⟨h127, h⟩ := ck_some h
                              refine ci_T.step cb_X6_next_259 (ci_sq rfl (ci_sq (pe_getI (kI := 2) tq_50 rfl rfl rfl) (ci_sq rfl (ci_sq (pe_getI (kI := 4) tq_50 rfl rfl rfl) (ci_sq pe_isub (ci_sq (pe_push pc_2) (pe_ic_le h127 pR_2))))))) ?_
                              refine pbr h (fun hc h => ?_) (fun hc h => ?_)
                              · cases h
                                exact ci_T.done (v := none) cd_X6_next_277 ⟨rfl, rfl⟩
                              · exact ci_T.sub [0] (J272 _ h) rfl
              clear hj
              refine pbr h (fun hc h => ?_) (fun hc h => ?_)
              · refine ci_T.step cb_X6_next_118 (pe_push pc_2) ?_
                exact ci_T.sub [0] (J119 _ _ h) rfl
              · refine ci_T.step cb_X6_next_114 (ci_sq (pe_push pc_1) rfl) ?_
                exact ci_T.sub [0] (J119 _ _ h) rfl
            · replace h := jn_some h
              replace h := jn_some h
              refine ci_T.step cb_X6_next_82 (ci_sq rfl (ci_sq (pe_push pc_3) (ci_sq (pe_putI (kI := 3) tq_50 rfl rfl rfl) (ci_sq rfl (ci_sq rfl (ci_sq (pe_getI (kI := 2) tq_50 rfl rfl rfl) (ci_sq (pe_push pc_1) (ci_sq pe_iadd (pe_putI (kI := 2) tq_50 rfl rfl rfl))))))))) ?_
              cases h
              exact ci_T.done (v := none) cd_X6_next_97 ⟨rfl, rfl⟩
          · replace h := jn_some h
            refine ci_T.step cb_X6_next_62 (ci_sq rfl (ci_sq (pe_push pc_0) (pe_putI (kI := 3) tq_50 rfl rfl rfl))) ?_
            cases h
            exact ci_T.done (v := none) cd_X6_next_67 ⟨rfl, rfl⟩
/-- X1_isWhole -/
def L_X1_isWhole_2 (ρ : pm) (K40 : Option Int) : Nat → Int → Option Int
  | 0, _ => none
  | n + 1, l1 => ck (inR l1) (if 5 ≤ l1 then K40 else ck (0 ≤ l1 ∧ l1 < 5) (ck (inR (ρ 52 5)) (jn (fun (l1 s0 s1 : Int) => ck (inR s0) (ck (inR s1) (if s0 ≤ s1 then jn (l1 + 1) (fun x6 => L_X1_isWhole_2 ρ K40 n x6) else some 0))) (fun j29 => if (ρ 52 5) ≤ l1 then j29 l1 (ρ 54 l1) 0 else j29 l1 (ρ 54 l1) (ρ 52 4)))))
def L_X1_isWhole_42 (ρ : pm) (K86 : Option Int) : Nat → Int → Option Int
  | 0, _ => none
  | n + 1, l1 => ck (inR l1) (if 3 ≤ l1 then K86 else ck (0 ≤ l1 ∧ l1 < 3) (ck (inR (ρ 52 8)) (jn (fun (l1 s0 s1 : Int) => if (bshr s0 s1) = 0 then jn (l1 + 1) (fun x10 => L_X1_isWhole_42 ρ K86 n x10) else some 0) (fun j74 => if (ρ 52 8) ≤ l1 then j74 l1 (ρ 55 l1) 0 else j74 l1 (ρ 55 l1) ((ρ 52 4) * (ρ 52 5))))))
def f_X1_isWhole (ρ : pm) : Option Int := L_X1_isWhole_2 ρ (L_X1_isWhole_42 ρ (ck (inR (ρ 52 6)) (ck (inR ((ρ 52 4) * (ρ 52 5))) (if ((ρ 52 4) * (ρ 52 5)) ≤ (ρ 52 6) then some 0 else some 1))) fu 0) fu 0
set_option maxRecDepth 100000 in
theorem t_X1_isWhole_2 {d : Nat}   {ρ : pm} {o : pm} {rv : Int} {K40 : Option Int} (hK40 : K40 = some rv → ci_T yX1_isWhole cX1_isWhole 2 (some .boolean) d 40 ([(0, .ref 53)], [], pk true ρ o) (pZ true rv ρ o)) : ∀ (n : Nat) (l1 : Int), L_X1_isWhole_2 ρ K40 n l1 = some rv → ci_T yX1_isWhole cX1_isWhole 2 (some .boolean) d 2 ([(0, .ref 53), (1, .int (Int32.ofInt l1))], [], pk true ρ o) (pZ true rv ρ o) := by
  intro n
  induction n with
  | zero =>
    intro l1 h
    rw [L_X1_isWhole_2] at h
    cases h
  | succ n ih =>
    intro l1 h
    rw [L_X1_isWhole_2] at h
    obtain ⟨h1, h⟩ := ck_some h
    refine ci_T.step cb_X1_isWhole_2 (ci_sq rfl (ci_sq (pe_push pc_5) (pe_ic_ge h1 pR_5))) ?_
    refine pbr h (fun hc h => ?_) (fun hc h => ?_)
    · exact ci_T.sub [0] (hK40 h) rfl
    · obtain ⟨h2, h⟩ := ck_some h
      obtain ⟨h3, h⟩ := ck_some h
      refine ci_T.step cb_X1_isWhole_7 (ci_sq rfl (ci_sq (pe_getR tq_52 rfl rfl) (ci_sq rfl (ci_sq (pe_ald (nI := 5) tq_54 rfl rfl h2) (ci_sq rfl (ci_sq rfl (ci_sq (pe_getI (kI := 5) tq_52 rfl rfl rfl) (pe_ic_ge h1 h3)))))))) ?_
      obtain ⟨j29, hj, h⟩ := jn_ex h
      have J29 : ∀ (l1 s0 s1 : Int), j29 l1 s0 s1 = some rv → ci_T yX1_isWhole cX1_isWhole 2 (some .boolean) d 29 ([(0, .ref 53), (1, .int (Int32.ofInt l1))], [.int (Int32.ofInt s1), .int (Int32.ofInt s0)], pk true ρ o) (pZ true rv ρ o) := by
        intro l1 s0 s1 h
        subst hj
        obtain ⟨h4, h⟩ := ck_some h
        obtain ⟨h5, h⟩ := ck_some h
        refine ci_T.step cb_X1_isWhole_29 (pe_ic_le h4 h5) ?_
        refine pbr h (fun hc h => ?_) (fun hc h => ?_)
        · replace h := jn_some h
          refine ci_T.step cb_X1_isWhole_34 (ci_sq (pe_inc rfl) rfl) ?_
          exact ci_T.sub [1, 0] (ih _ h) rfl
        · refine ci_T.step cb_X1_isWhole_32 (pe_push pc_0) ?_
          cases h
          exact ci_T.done (v := some (.int _)) cd_X1_isWhole_33 ⟨⟨rfl, rfl⟩, (Or.inl rfl)⟩
      clear hj
      refine pbr h (fun hc h => ?_) (fun hc h => ?_)
      · refine ci_T.step cb_X1_isWhole_28 (pe_push pc_0) ?_
        exact ci_T.sub [0, 1] (J29 _ _ _ h) rfl
      · refine ci_T.step cb_X1_isWhole_21 (ci_sq rfl (ci_sq (pe_getI (kI := 4) tq_52 rfl rfl rfl) rfl)) ?_
        exact ci_T.sub [0, 1] (J29 _ _ _ h) rfl
set_option maxRecDepth 100000 in
theorem t_X1_isWhole_42 {d : Nat}   {ρ : pm} {o : pm} {rv : Int} {K86 : Option Int} (hK86 : K86 = some rv → ci_T yX1_isWhole cX1_isWhole 2 (some .boolean) d 86 ([(0, .ref 53)], [], pk true ρ o) (pZ true rv ρ o)) : ∀ (n : Nat) (l1 : Int), L_X1_isWhole_42 ρ K86 n l1 = some rv → ci_T yX1_isWhole cX1_isWhole 2 (some .boolean) d 42 ([(0, .ref 53), (1, .int (Int32.ofInt l1))], [], pk true ρ o) (pZ true rv ρ o) := by
  intro n
  induction n with
  | zero =>
    intro l1 h
    rw [L_X1_isWhole_42] at h
    cases h
  | succ n ih =>
    intro l1 h
    rw [L_X1_isWhole_42] at h
    obtain ⟨h7, h⟩ := ck_some h
    refine ci_T.step cb_X1_isWhole_42 (ci_sq rfl (ci_sq (pe_push pc_3) (pe_ic_ge h7 pR_3))) ?_
    refine pbr h (fun hc h => ?_) (fun hc h => ?_)
    · exact ci_T.sub [0] (hK86 h) rfl
    · obtain ⟨h8, h⟩ := ck_some h
      obtain ⟨h9, h⟩ := ck_some h
      refine ci_T.step cb_X1_isWhole_47 (ci_sq rfl (ci_sq (pe_getR tq_52 rfl rfl) (ci_sq rfl (ci_sq (pe_ald (nI := 3) tq_55 rfl rfl h8) (ci_sq rfl (ci_sq rfl (ci_sq (pe_getI (kI := 8) tq_52 rfl rfl rfl) (pe_ic_ge h7 h9)))))))) ?_
      obtain ⟨j74, hj, h⟩ := jn_ex h
      have J74 : ∀ (l1 s0 s1 : Int), j74 l1 s0 s1 = some rv → ci_T yX1_isWhole cX1_isWhole 2 (some .boolean) d 74 ([(0, .ref 53), (1, .int (Int32.ofInt l1))], [.int (Int32.ofInt s1), .int (Int32.ofInt s0)], pk true ρ o) (pZ true rv ρ o) := by
        intro l1 s0 s1 h
        subst hj
        refine ci_T.step cb_X1_isWhole_74 (ci_sq pe_ishr (pe_if_eq (bshr_R _ _))) ?_
        refine pbr h (fun hc h => ?_) (fun hc h => ?_)
        · replace h := jn_some h
          refine ci_T.step cb_X1_isWhole_80 (ci_sq (pe_inc rfl) rfl) ?_
          exact ci_T.sub [1, 0] (ih _ h) rfl
        · refine ci_T.step cb_X1_isWhole_78 (pe_push pc_0) ?_
          cases h
          exact ci_T.done (v := some (.int _)) cd_X1_isWhole_79 ⟨⟨rfl, rfl⟩, (Or.inl rfl)⟩
      clear hj
      refine pbr h (fun hc h => ?_) (fun hc h => ?_)
      · refine ci_T.step cb_X1_isWhole_73 (pe_push pc_0) ?_
        exact ci_T.sub [0, 1] (J74 _ _ _ h) rfl
      · refine ci_T.step cb_X1_isWhole_61 (ci_sq rfl (ci_sq (pe_getI (kI := 4) tq_52 rfl rfl rfl) (ci_sq rfl (ci_sq (pe_getI (kI := 5) tq_52 rfl rfl rfl) (ci_sq pe_imul rfl))))) ?_
        exact ci_T.sub [0, 1] (J74 _ _ _ h) rfl
set_option maxRecDepth 100000 in
theorem s_X1_isWhole (d : Nat)   {ρ : pm} (o : pm)  {rv : Int} (h : f_X1_isWhole ρ = some rv) : ci_Met d (yX1_isWhole, cX1_isWhole, 2, (some .boolean), [], 0, 0) [.ref 53] (pk true ρ o) (pZ true rv ρ o) := by
  refine ci_met (by decide) (Nat.le_of_ble_eq_true rfl) ?_ ?_
  · rintro v w' ⟨⟨rfl, rfl⟩, hz⟩
    exact Z_of hz
  · change ci_T _ _ _ _ _ _ ([(0, .ref 53)], [], pk true ρ o) _
    unfold f_X1_isWhole at h
    refine ci_T.step cb_X1_isWhole_0 (ci_sq (pe_push pc_0) rfl) ?_
    refine ci_T.sub [1, 0] (t_X1_isWhole_2 ?_ fu _ h) rfl
    · intro h
      refine ci_T.step cb_X1_isWhole_40 (ci_sq (pe_push pc_0) rfl) ?_
      refine ci_T.sub [1, 0] (t_X1_isWhole_42 ?_ fu _ h) rfl
      · intro h
        obtain ⟨h11, h⟩ := ck_some h
        obtain ⟨h12, h⟩ := ck_some h
        refine ci_T.step cb_X1_isWhole_86 (ci_sq rfl (ci_sq (pe_getI (kI := 6) tq_52 rfl rfl rfl) (ci_sq rfl (ci_sq (pe_getI (kI := 4) tq_52 rfl rfl rfl) (ci_sq rfl (ci_sq (pe_getI (kI := 5) tq_52 rfl rfl rfl) (ci_sq pe_imul (pe_ic_ge h11 h12)))))))) ?_
        refine pbr h (fun hc h => ?_) (fun hc h => ?_)
        · refine ci_T.step cb_X1_isWhole_106 (pe_push pc_0) ?_
          cases h
          exact ci_T.done (v := some (.int _)) cd_X1_isWhole_107 ⟨⟨rfl, rfl⟩, (Or.inl rfl)⟩
        · refine ci_T.step cb_X1_isWhole_102 (ci_sq (pe_push pc_1) rfl) ?_
          cases h
          exact ci_T.done (v := some (.int _)) cd_X1_isWhole_107 ⟨⟨rfl, rfl⟩, (Or.inr rfl)⟩
/-- X6_failBehindAll -/
def f_X6_failBehindAll (l1 : Int) (ρ : pm) : Option pm := jn (pup ρ 50 6 l1) (fun ρ1 => jn (pup ρ1 50 7 (ρ1 50 1)) (fun ρ2 => some ρ2))
set_option maxRecDepth 100000 in
theorem s_X6_failBehindAll (d : Nat)   {ρ : pm} (o : pm) {l1 : Int} {rρ : pm} (h : f_X6_failBehindAll l1 ρ = some rρ) : ci_Met d (yX6_failBehindAll, cX6_failBehindAll, 2, none, [], 0, 0) [.ref 51, .int (Int32.ofInt l1)] (pk true ρ o) (pV true rρ o) := by
  refine ci_met (by decide) (Nat.le_of_ble_eq_true rfl) ?_ ?_
  · rintro v w' ⟨rfl, rfl⟩
    trivial
  · change ci_T _ _ _ _ _ _ ([(0, .ref 51), (1, .int (Int32.ofInt l1))], [], pk true ρ o) _
    unfold f_X6_failBehindAll at h
    replace h := jn_some h
    replace h := jn_some h
    refine ci_T.step cb_X6_failBehindAll_0 (ci_sq rfl (ci_sq rfl (ci_sq (pe_putI (kI := 6) tq_50 rfl rfl rfl) (ci_sq rfl (ci_sq rfl (ci_sq (pe_getI (kI := 1) tq_50 rfl rfl rfl) (pe_putI (kI := 7) tq_50 rfl rfl rfl))))))) ?_
    cases h
    exact ci_T.done (v := none) cd_X6_failBehindAll_13 ⟨rfl, rfl⟩
/-- X3_join -/
def L_X3_join_12 (K135 : Int → pm → Option pm) : Nat → Int → Int → pm → Option pm
  | 0, _, _, _ => none
  | n + 1, l1, l2, ρ => ck (inR l2) (ck (inR (ρ 1 2)) (if (ρ 1 2) ≤ l2 then K135 l1 ρ else jn ((l1 * (ρ 1 2)) + l2) (fun x5 => ck (inR l1) (jn (fun (l1 l2 l3 s1 s2 : Int) (ρ : pm) => ck (0 ≤ s1 ∧ s1 < 100) (jn (pup ρ 3 s1 s2) (fun ρ8 => ck (inR (l2 + 1)) (ck (inR (ρ8 1 2)) (jn (fun (l1 l2 l3 s1 s2 : Int) (ρ : pm) => ck (0 ≤ s1 ∧ s1 < 100) (jn (pup ρ 3 s1 s2) (fun ρ12 => ck (inR (l1 + 1)) (ck (inR (ρ12 1 3)) (jn (fun (l1 l2 l3 s1 s2 : Int) (ρ : pm) => ck (0 ≤ s1 ∧ s1 < 100) (jn (pup ρ 3 s1 s2) (fun ρ16 => ck (inR l2) (jn (fun (l1 l2 s1 s2 : Int) (ρ : pm) => ck (0 ≤ s1 ∧ s1 < 100) (jn (pup ρ 3 s1 s2) (fun ρ19 => jn (l2 + 1) (fun x20 => L_X3_join_12 K135 n l1 x20 ρ19)))) (fun j128 => if l2 ≤ 0 then j128 l1 l2 ((l3 * 4) + 3) (-1) ρ16 else j128 l1 l2 ((l3 * 4) + 3) (l3 - 1) ρ16))))) (fun j107 => if (ρ12 1 3) ≤ (l1 + 1) then j107 l1 l2 l3 ((l3 * 4) + 2) (-1) ρ12 else j107 l1 l2 l3 ((l3 * 4) + 2) (l3 + (ρ12 1 2)) ρ12)))))) (fun j77 => if (ρ8 1 2) ≤ (l2 + 1) then j77 l1 l2 l3 ((l3 * 4) + 1) (-1) ρ8 else j77 l1 l2 l3 ((l3 * 4) + 1) (l3 + 1) ρ8)))))) (fun j50 => if l1 ≤ 0 then j50 l1 l2 x5 (x5 * 4) (-1) ρ else j50 l1 l2 x5 (x5 * 4) (x5 - (ρ 1 2)) ρ)))))
def L_X3_join_2  : Nat → Int → pm → Option pm
  | 0, _, _ => none
  | n + 1, l1, ρ => ck (inR l1) (ck (inR (ρ 1 3)) (if (ρ 1 3) ≤ l1 then some ρ else L_X3_join_12 (fun (l1 : Int) (ρ : pm) => jn (l1 + 1) (fun x21 => L_X3_join_2 n x21 ρ)) fu l1 0 ρ))
def f_X3_join (ρ : pm) : Option pm := L_X3_join_2 fu 0 ρ
set_option maxRecDepth 100000 in
theorem t_X3_join_12 {d : Nat}    {o : pm} {rρ : pm} {K135 : Int → pm → Option pm} (hK135 : ∀ (l1 : Int) (ρ : pm), K135 l1 ρ = some rρ → ci_T yX3_join cX3_join 4 none d 135 ([(0, .ref 2), (1, .int (Int32.ofInt l1))], [], pk true ρ o) (pV true rρ o)) : ∀ (n : Nat) (l1 l2 : Int) (ρ : pm), L_X3_join_12 K135 n l1 l2 ρ = some rρ → ci_T yX3_join cX3_join 4 none d 12 ([(0, .ref 2), (1, .int (Int32.ofInt l1)), (2, .int (Int32.ofInt l2))], [], pk true ρ o) (pV true rρ o) := by
  intro n
  induction n with
  | zero =>
    intro l1 l2 ρ h
    rw [L_X3_join_12] at h
    cases h
  | succ n ih =>
    intro l1 l2 ρ h
    rw [L_X3_join_12] at h
    obtain ⟨h3, h⟩ := ck_some h
    obtain ⟨h4, h⟩ := ck_some h
    refine ci_T.step cb_X3_join_12 (ci_sq rfl (ci_sq rfl (ci_sq (pe_getI (kI := 2) tq_1 rfl rfl rfl) (pe_ic_ge h3 h4)))) ?_
    refine pbr h (fun hc h => ?_) (fun hc h => ?_)
    · exact ci_T.sub [0, 1] (hK135 _ _ h) rfl
    · replace h := jn_some h
      obtain ⟨h6, h⟩ := ck_some h
      refine ci_T.step cb_X3_join_20 (ci_sq rfl (ci_sq rfl (ci_sq (pe_getI (kI := 2) tq_1 rfl rfl rfl) (ci_sq pe_imul (ci_sq rfl (ci_sq pe_iadd (ci_sq rfl (ci_sq rfl (ci_sq (pe_getR tq_1 rfl rfl) (ci_sq rfl (ci_sq (pe_push pc_4) (ci_sq pe_imul (ci_sq rfl (pe_if_le h6)))))))))))))) ?_
      obtain ⟨j50, hj, h⟩ := jn_ex h
      have J50 : ∀ (l1 l2 l3 s1 s2 : Int) (ρ : pm), j50 l1 l2 l3 s1 s2 ρ = some rρ → ci_T yX3_join cX3_join 4 none d 50 ([(0, .ref 2), (1, .int (Int32.ofInt l1)), (2, .int (Int32.ofInt l2)), (3, .int (Int32.ofInt l3))], [.int (Int32.ofInt s2), .int (Int32.ofInt s1), .ref 4], pk true ρ o) (pV true rρ o) := by
        intro l1 l2 l3 s1 s2 ρ h
        subst hj
        obtain ⟨h7, h⟩ := ck_some h
        replace h := jn_some h
        obtain ⟨h9, h⟩ := ck_some h
        obtain ⟨h10, h⟩ := ck_some h
        refine ci_T.step cb_X3_join_50 (ci_sq (pe_ast (nI := 100) tq_3 rfl rfl h7 rfl) (ci_sq rfl (ci_sq (pe_getR tq_1 rfl rfl) (ci_sq rfl (ci_sq (pe_push pc_4) (ci_sq pe_imul (ci_sq (pe_push pc_1) (ci_sq pe_iadd (ci_sq rfl (ci_sq (pe_push pc_1) (ci_sq pe_iadd (ci_sq rfl (ci_sq (pe_getI (kI := 2) tq_1 rfl rfl rfl) (pe_ic_ge h9 h10)))))))))))))) ?_
        obtain ⟨j77, hj, h⟩ := jn_ex h
        have J77 : ∀ (l1 l2 l3 s1 s2 : Int) (ρ : pm), j77 l1 l2 l3 s1 s2 ρ = some rρ → ci_T yX3_join cX3_join 4 none d 77 ([(0, .ref 2), (1, .int (Int32.ofInt l1)), (2, .int (Int32.ofInt l2)), (3, .int (Int32.ofInt l3))], [.int (Int32.ofInt s2), .int (Int32.ofInt s1), .ref 4], pk true ρ o) (pV true rρ o) := by
          intro l1 l2 l3 s1 s2 ρ h
          subst hj
          obtain ⟨h11, h⟩ := ck_some h
          replace h := jn_some h
          obtain ⟨h13, h⟩ := ck_some h
          obtain ⟨h14, h⟩ := ck_some h
          refine ci_T.step cb_X3_join_77 (ci_sq (pe_ast (nI := 100) tq_3 rfl rfl h11 rfl) (ci_sq rfl (ci_sq (pe_getR tq_1 rfl rfl) (ci_sq rfl (ci_sq (pe_push pc_4) (ci_sq pe_imul (ci_sq (pe_push pc_2) (ci_sq pe_iadd (ci_sq rfl (ci_sq (pe_push pc_1) (ci_sq pe_iadd (ci_sq rfl (ci_sq (pe_getI (kI := 3) tq_1 rfl rfl rfl) (pe_ic_ge h13 h14)))))))))))))) ?_
          obtain ⟨j107, hj, h⟩ := jn_ex h
          have J107 : ∀ (l1 l2 l3 s1 s2 : Int) (ρ : pm), j107 l1 l2 l3 s1 s2 ρ = some rρ → ci_T yX3_join cX3_join 4 none d 107 ([(0, .ref 2), (1, .int (Int32.ofInt l1)), (2, .int (Int32.ofInt l2)), (3, .int (Int32.ofInt l3))], [.int (Int32.ofInt s2), .int (Int32.ofInt s1), .ref 4], pk true ρ o) (pV true rρ o) := by
            intro l1 l2 l3 s1 s2 ρ h
            subst hj
            obtain ⟨h15, h⟩ := ck_some h
            replace h := jn_some h
            obtain ⟨h17, h⟩ := ck_some h
            refine ci_T.step cb_X3_join_107 (ci_sq (pe_ast (nI := 100) tq_3 rfl rfl h15 rfl) (ci_sq rfl (ci_sq (pe_getR tq_1 rfl rfl) (ci_sq rfl (ci_sq (pe_push pc_4) (ci_sq pe_imul (ci_sq (pe_push pc_3) (ci_sq pe_iadd (ci_sq rfl (pe_if_le h17)))))))))) ?_
            obtain ⟨j128, hj, h⟩ := jn_ex h
            have J128 : ∀ (l1 l2 s1 s2 : Int) (ρ : pm), j128 l1 l2 s1 s2 ρ = some rρ → ci_T yX3_join cX3_join 4 none d 128 ([(0, .ref 2), (1, .int (Int32.ofInt l1)), (2, .int (Int32.ofInt l2))], [.int (Int32.ofInt s2), .int (Int32.ofInt s1), .ref 4], pk true ρ o) (pV true rρ o) := by
              intro l1 l2 s1 s2 ρ h
              subst hj
              obtain ⟨h18, h⟩ := ck_some h
              replace h := jn_some h
              replace h := jn_some h
              refine ci_T.step cb_X3_join_128 (ci_sq (pe_ast (nI := 100) tq_3 rfl rfl h18 rfl) (ci_sq (pe_inc rfl) rfl)) ?_
              exact ci_T.sub [1, 2, 0] (ih _ _ _ h) rfl
            clear hj
            refine pbr h (fun hc h => ?_) (fun hc h => ?_)
            · refine ci_T.step cb_X3_join_127 (pe_push pc_m1) ?_
              exact ci_T.sub [0, 1, 2] (J128 _ _ _ _ _ h) rfl
            · refine ci_T.step cb_X3_join_121 (ci_sq rfl (ci_sq (pe_push pc_1) (ci_sq pe_isub rfl))) ?_
              exact ci_T.sub [0, 1, 2] (J128 _ _ _ _ _ h) rfl
          clear hj
          refine pbr h (fun hc h => ?_) (fun hc h => ?_)
          · refine ci_T.step cb_X3_join_106 (pe_push pc_m1) ?_
            exact ci_T.sub [0, 1, 2, 3] (J107 _ _ _ _ _ _ h) rfl
          · refine ci_T.step cb_X3_join_97 (ci_sq rfl (ci_sq rfl (ci_sq (pe_getI (kI := 2) tq_1 rfl rfl rfl) (ci_sq pe_iadd rfl)))) ?_
            exact ci_T.sub [0, 1, 2, 3] (J107 _ _ _ _ _ _ h) rfl
        clear hj
        refine pbr h (fun hc h => ?_) (fun hc h => ?_)
        · refine ci_T.step cb_X3_join_76 (pe_push pc_m1) ?_
          exact ci_T.sub [0, 1, 2, 3] (J77 _ _ _ _ _ _ h) rfl
        · refine ci_T.step cb_X3_join_70 (ci_sq rfl (ci_sq (pe_push pc_1) (ci_sq pe_iadd rfl))) ?_
          exact ci_T.sub [0, 1, 2, 3] (J77 _ _ _ _ _ _ h) rfl
      clear hj
      refine pbr h (fun hc h => ?_) (fun hc h => ?_)
      · refine ci_T.step cb_X3_join_49 (pe_push pc_m1) ?_
        exact ci_T.sub [1, 2, 3, 0] (J50 _ _ _ _ _ _ h) rfl
      · refine ci_T.step cb_X3_join_40 (ci_sq rfl (ci_sq rfl (ci_sq (pe_getI (kI := 2) tq_1 rfl rfl rfl) (ci_sq pe_isub rfl)))) ?_
        exact ci_T.sub [1, 2, 3, 0] (J50 _ _ _ _ _ _ h) rfl
set_option maxRecDepth 100000 in
theorem t_X3_join_2 {d : Nat}    {o : pm} {rρ : pm}   : ∀ (n : Nat) (l1 : Int) (ρ : pm), L_X3_join_2 n l1 ρ = some rρ → ci_T yX3_join cX3_join 4 none d 2 ([(0, .ref 2), (1, .int (Int32.ofInt l1))], [], pk true ρ o) (pV true rρ o) := by
  intro n
  induction n with
  | zero =>
    intro l1 ρ h
    rw [L_X3_join_2] at h
    cases h
  | succ n ih =>
    intro l1 ρ h
    rw [L_X3_join_2] at h
    obtain ⟨h1, h⟩ := ck_some h
    obtain ⟨h2, h⟩ := ck_some h
    refine ci_T.step cb_X3_join_2 (ci_sq rfl (ci_sq rfl (ci_sq (pe_getI (kI := 3) tq_1 rfl rfl rfl) (pe_ic_ge h1 h2)))) ?_
    refine pbr h (fun hc h => ?_) (fun hc h => ?_)
    · cases h
      exact ci_T.done (v := none) cd_X3_join_141 ⟨rfl, rfl⟩
    · refine ci_T.step cb_X3_join_10 (ci_sq (pe_push pc_0) rfl) ?_
      refine ci_T.sub [1, 2, 0] (t_X3_join_12 ?_ fu _ _ _ h) rfl
      · intro l1 ρ h
        replace h := jn_some h
        refine ci_T.step cb_X3_join_135 (ci_sq (pe_inc rfl) rfl) ?_
        exact ci_T.sub [1, 0] (ih _ _ h) rfl
set_option maxRecDepth 100000 in
theorem s_X3_join (d : Nat)   {ρ : pm} (o : pm)  {rρ : pm} (h : f_X3_join ρ = some rρ) : ci_Met d (yX3_join, cX3_join, 4, none, [], 0, 0) [.ref 2] (pk true ρ o) (pV true rρ o) := by
  refine ci_met (by decide) (Nat.le_of_ble_eq_true rfl) ?_ ?_
  · rintro v w' ⟨rfl, rfl⟩
    trivial
  · change ci_T _ _ _ _ _ _ ([(0, .ref 2)], [], pk true ρ o) _
    unfold f_X3_join at h
    refine ci_T.step cb_X3_join_0 (ci_sq (pe_push pc_0) rfl) ?_
    exact ci_T.sub [1, 0] (t_X3_join_2 fu _ _ h) rfl
/-- X1_raise -/
def L_X1_raise_17 (K53 : Int → pm → Option pm) : Nat → Int → Int → pm → Option pm
  | 0, _, _, _ => none
  | n + 1, l2, l3, ρ => ck (inR l3) (ck (inR (ρ 52 4)) (if (ρ 52 4) ≤ l3 then K53 l2 ρ else ck (0 ≤ (l2 * 5) + l3 ∧ (l2 * 5) + l3 < 25) (ck (0 ≤ (l2 * (ρ 52 4)) + l3 ∧ (l2 * (ρ 52 4)) + l3 < 25) (jn (pup ρ 9 ((l2 * (ρ 52 4)) + l3) (3 * (ρ 53 ((l2 * 5) + l3)))) (fun ρ8 => jn (l3 + 1) (fun x9 => L_X1_raise_17 K53 n l2 x9 ρ8))))))
def L_X1_raise_7  : Nat → Int → pm → Option pm
  | 0, _, _ => none
  | n + 1, l2, ρ => ck (inR l2) (ck (inR (ρ 52 5)) (if (ρ 52 5) ≤ l2 then some ρ else L_X1_raise_17 (fun (l2 : Int) (ρ : pm) => jn (l2 + 1) (fun x10 => L_X1_raise_7 n x10 ρ)) fu l2 0 ρ))
def f_X1_raise (ρ : pm) : Option pm := (f_J7_fill 9 25 0 ρ).bind (fun ρ1 => L_X1_raise_7 fu 0 ρ1)
set_option maxRecDepth 100000 in
theorem t_X1_raise_17 {d : Nat}    {o : pm} {rρ : pm} {K53 : Int → pm → Option pm} (hK53 : ∀ (l2 : Int) (ρ : pm), K53 l2 ρ = some rρ → ci_T yX1_raise cX1_raise 4 none (d + 1) 53 ([(0, .ref 53), (1, .ref 10), (2, .int (Int32.ofInt l2))], [], pk true ρ o) (pV true rρ o)) : ∀ (n : Nat) (l2 l3 : Int) (ρ : pm), L_X1_raise_17 K53 n l2 l3 ρ = some rρ → ci_T yX1_raise cX1_raise 4 none (d + 1) 17 ([(0, .ref 53), (1, .ref 10), (2, .int (Int32.ofInt l2)), (3, .int (Int32.ofInt l3))], [], pk true ρ o) (pV true rρ o) := by
  intro n
  induction n with
  | zero =>
    intro l2 l3 ρ h
    rw [L_X1_raise_17] at h
    cases h
  | succ n ih =>
    intro l2 l3 ρ h
    rw [L_X1_raise_17] at h
    obtain ⟨h4, h⟩ := ck_some h
    obtain ⟨h5, h⟩ := ck_some h
    refine ci_T.step cb_X1_raise_17 (ci_sq rfl (ci_sq rfl (ci_sq (pe_getI (kI := 4) tq_52 rfl rfl rfl) (pe_ic_ge h4 h5)))) ?_
    refine pbr h (fun hc h => ?_) (fun hc h => ?_)
    · exact ci_T.sub [0, 1, 2] (hK53 _ _ h) rfl
    · obtain ⟨h6, h⟩ := ck_some h
      obtain ⟨h7, h⟩ := ck_some h
      replace h := jn_some h
      replace h := jn_some h
      refine ci_T.step cb_X1_raise_25 (ci_sq rfl (ci_sq rfl (ci_sq rfl (ci_sq (pe_getI (kI := 4) tq_52 rfl rfl rfl) (ci_sq pe_imul (ci_sq rfl (ci_sq pe_iadd (ci_sq (pe_push pc_3) (ci_sq rfl (ci_sq (pe_getR tq_52 rfl rfl) (ci_sq rfl (ci_sq (pe_push pc_5) (ci_sq pe_imul (ci_sq rfl (ci_sq pe_iadd (ci_sq (pe_ald (nI := 25) tq_53 rfl rfl h6) (ci_sq pe_imul (ci_sq (pe_ast (nI := 25) tq_9 rfl rfl h7 rfl) (ci_sq (pe_inc rfl) rfl))))))))))))))))))) ?_
      exact ci_T.sub [1, 2, 3, 0] (ih _ _ _ h) rfl
set_option maxRecDepth 100000 in
theorem t_X1_raise_7 {d : Nat}    {o : pm} {rρ : pm}   : ∀ (n : Nat) (l2 : Int) (ρ : pm), L_X1_raise_7 n l2 ρ = some rρ → ci_T yX1_raise cX1_raise 4 none (d + 1) 7 ([(0, .ref 53), (1, .ref 10), (2, .int (Int32.ofInt l2))], [], pk true ρ o) (pV true rρ o) := by
  intro n
  induction n with
  | zero =>
    intro l2 ρ h
    rw [L_X1_raise_7] at h
    cases h
  | succ n ih =>
    intro l2 ρ h
    rw [L_X1_raise_7] at h
    obtain ⟨h2, h⟩ := ck_some h
    obtain ⟨h3, h⟩ := ck_some h
    refine ci_T.step cb_X1_raise_7 (ci_sq rfl (ci_sq rfl (ci_sq (pe_getI (kI := 5) tq_52 rfl rfl rfl) (pe_ic_ge h2 h3)))) ?_
    refine pbr h (fun hc h => ?_) (fun hc h => ?_)
    · cases h
      exact ci_T.done (v := none) cd_X1_raise_59 ⟨rfl, rfl⟩
    · refine ci_T.step cb_X1_raise_15 (ci_sq (pe_push pc_0) rfl) ?_
      refine ci_T.sub [1, 2, 3, 0] (t_X1_raise_17 ?_ fu _ _ _ h) rfl
      · intro l2 ρ h
        replace h := jn_some h
        refine ci_T.step cb_X1_raise_53 (ci_sq (pe_inc rfl) rfl) ?_
        exact ci_T.sub [1, 2, 0] (ih _ _ h) rfl
set_option maxRecDepth 100000 in
theorem s_X1_raise (d : Nat)   {ρ : pm} (o : pm)  {rρ : pm} (h : f_X1_raise ρ = some rρ) : ci_Met (d + 1) (yX1_raise, cX1_raise, 4, none, [], 0, 0) [.ref 53, .ref 10] (pk true ρ o) (pV true rρ o) := by
  refine ci_met (by decide) (Nat.le_of_ble_eq_true rfl) ?_ ?_
  · rintro v w' ⟨rfl, rfl⟩
    trivial
  · change ci_T _ _ _ _ _ _ ([(0, .ref 53), (1, .ref 10)], [], pk true ρ o) _
    unfold f_X1_raise at h
    refine ci_T.step cb_X1_raise_0 (ci_sq rfl (pe_push pc_0)) ?_
    obtain ⟨ρ1, hv, h⟩ := bn_some h
    refine ci_T.call (as := [_, _]) (rest := []) kc_J7_fill_53178 ki_J7_fill_53178 (by decide) cl_X1_raise_2 rfl (Nat.le_of_ble_eq_true rfl) trivial (s_J7_fill d 9 25 iA_9 o hv) ?_
    rintro _ _ ⟨rfl, rfl⟩
    clear hv
    refine ci_T.step cb_X1_raise_5 (ci_sq (pe_push pc_0) rfl) ?_
    exact ci_T.sub [1, 2, 0] (t_X1_raise_7 fu _ _ h) rfl
