/-! the law: its cases (by program) -/
set_option maxRecDepth 100000 in
theorem law_c0 {K V : Nat → Nat} {L : Nat} {xs : Nat → Int32} (hL : L ≤ 2560) {i : Int} (hi : 0 ≤ i ∧ i + 5 ≤ (L : Int)) {ρ τ : pm} (h : Rel ρ τ) (IH : ∀ ρ' τ', Rel ρ' τ' → cl_T K V L xs (fun _ => True) yL_law cL_law 4 (some .boolean) 12 18 ([(3, .int (Int32.ofInt (i + 5))), (2, .ref 63), (1, .ref 1), (0, .ref 0)], [], pk true ρ' τ') lawP) : cl_T K V L xs (fun _ => True) yL_law cL_law 4 (some .boolean) 12 192 ([(3, .int (Int32.ofInt i)), (2, .ref 63), (1, .ref 1), (0, .ref 0)], [], pk true ρ τ) lawP := by
  obtain ⟨r, ρ', τ', h1, h2, hr⟩ := k_feed h (lor64 (lshl64 (sx xs (i + 1)) 32) (land64 (sx xs (i + 2)) 4294967295))
  refine cl_T.step cb_L_law_192 (ci_sq rfl (ci_sq rfl (ci_sq rfl (ci_sq (pe_push lq_1) pe_iadd)))) ?_
  refine cl_sld (by decide +kernel) rfl (by omega) (by omega) ?_
  refine cl_T.step cb_L_law_198 (ci_sq (pe_i2l (sx_R _ _)) (ci_sq (pe_push lq_32) (ci_sq pe_lshl (ci_sq rfl (ci_sq rfl (ci_sq (pe_push lq_2) pe_iadd)))))) ?_
  refine cl_sld (by decide +kernel) rfl (by omega) (by omega) ?_
  refine cl_T.step cb_L_law_207 (ci_sq (pe_i2l (sx_R _ _)) (ci_sq (pe_pushl lqL_4294967295) (ci_sq pe_land pe_lor))) ?_
  refine cl_T.call (as := [_, _]) (rest := []) kc_X8_feed ki_X8_feed (by decide) cl_L_law_213 rfl (Nat.le_of_ble_eq_true rfl) ⟨⟨_, rfl⟩, _, _, _, rfl, pk_obj tq_0 rfl _ _⟩ (s_X8_feed 10 _ h1) ?_
  rintro _ _ ⟨rfl, rfl⟩
  refine cl_T.step cb_L_law_216 (ci_sq rfl (ci_sq rfl (ci_sq rfl (ci_sq rfl (ci_sq (pe_push lq_1) pe_iadd))))) ?_
  refine cl_sld (by decide +kernel) rfl (by omega) (by omega) ?_
  refine cl_T.step cb_L_law_223 (ci_sq (pe_i2l (sx_R _ _)) (ci_sq (pe_push lq_32) (ci_sq pe_lshl (ci_sq rfl (ci_sq rfl (ci_sq (pe_push lq_2) pe_iadd)))))) ?_
  refine cl_sld (by decide +kernel) rfl (by omega) (by omega) ?_
  refine cl_T.step cb_L_law_232 (ci_sq (pe_i2l (sx_R _ _)) (ci_sq (pe_pushl lqL_4294967295) (ci_sq pe_land pe_lor))) ?_
  rw [pk_sw]
  refine cl_T.call (as := [_, _]) (rest := []) kc_X9_feed ki_X9_feed (by decide) cl_L_law_238 rfl (Nat.le_of_ble_eq_true rfl) ⟨⟨_, rfl⟩, _, _, _, rfl, pk_obj tq_62 rfl _ _⟩ (s_X9_feed 11 _ h2) ?_
  rintro _ _ ⟨rfl, rfl⟩
  rw [← pk_sw]
  refine cl_T.step cb_L_law_241 (ci_sq rfl rfl) ?_
  refine cl_T.step cb_L_law_1222 (ci_sq (pe_inc rfl) rfl) ?_
  exact IH _ _ hr
set_option maxRecDepth 100000 in
theorem law_c1 {K V : Nat → Nat} {L : Nat} {xs : Nat → Int32} (hL : L ≤ 2560) {i : Int} (hi : 0 ≤ i ∧ i + 5 ≤ (L : Int)) {ρ τ : pm} (h : Rel ρ τ) (IH : ∀ ρ' τ', Rel ρ' τ' → cl_T K V L xs (fun _ => True) yL_law cL_law 4 (some .boolean) 12 18 ([(3, .int (Int32.ofInt (i + 5))), (2, .ref 63), (1, .ref 1), (0, .ref 0)], [], pk true ρ' τ') lawP) : cl_T K V L xs (fun _ => True) yL_law cL_law 4 (some .boolean) 12 245 ([(3, .int (Int32.ofInt i)), (2, .ref 63), (1, .ref 1), (0, .ref 0)], [], pk true ρ τ) lawP := by
  obtain ⟨r, ρ', τ', h1, h2, hr⟩ := k_end h (sx_R xs (i + 1))
  refine cl_T.step cb_L_law_245 (ci_sq rfl (ci_sq rfl (ci_sq rfl (ci_sq (pe_push lq_1) pe_iadd)))) ?_
  refine cl_sld (by decide +kernel) rfl (by omega) (by omega) ?_
  refine cl_T.call (as := [_, _]) (rest := []) kc_X8_end ki_X8_end (by decide) cl_L_law_251 rfl (Nat.le_of_ble_eq_true rfl) ⟨⟨_, rfl⟩, _, _, _, rfl, pk_obj tq_0 rfl _ _⟩ (s_X8_end 11 _ h1) ?_
  rintro _ _ ⟨rfl, rfl⟩
  refine cl_T.step cb_L_law_254 (ci_sq rfl (ci_sq rfl (ci_sq rfl (ci_sq rfl (ci_sq (pe_push lq_1) pe_iadd))))) ?_
  refine cl_sld (by decide +kernel) rfl (by omega) (by omega) ?_
  rw [pk_sw]
  refine cl_T.call (as := [_, _]) (rest := []) kc_X9_end ki_X9_end (by decide) cl_L_law_261 rfl (Nat.le_of_ble_eq_true rfl) ⟨⟨_, rfl⟩, _, _, _, rfl, pk_obj tq_62 rfl _ _⟩ (s_X9_end 10 _ h2) ?_
  rintro _ _ ⟨rfl, rfl⟩
  rw [← pk_sw]
  refine cl_T.step cb_L_law_264 (ci_sq rfl rfl) ?_
  refine cl_T.step cb_L_law_1222 (ci_sq (pe_inc rfl) rfl) ?_
  exact IH _ _ hr
set_option maxRecDepth 100000 in
theorem law_c2 {K V : Nat → Nat} {L : Nat} {xs : Nat → Int32} (hL : L ≤ 2560) {i : Int} (hi : 0 ≤ i ∧ i + 5 ≤ (L : Int)) {ρ τ : pm} (h : Rel ρ τ) (IH : ∀ ρ' τ', Rel ρ' τ' → cl_T K V L xs (fun _ => True) yL_law cL_law 4 (some .boolean) 12 18 ([(3, .int (Int32.ofInt (i + 5))), (2, .ref 63), (1, .ref 1), (0, .ref 0)], [], pk true ρ' τ') lawP) : cl_T K V L xs (fun _ => True) yL_law cL_law 4 (some .boolean) 12 268 ([(3, .int (Int32.ofInt i)), (2, .ref 63), (1, .ref 1), (0, .ref 0)], [], pk true ρ τ) lawP := by
  obtain ⟨r, ρ', τ', h1, h2, hr⟩ := k_text h
  refine cl_T.step cb_L_law_268 rfl ?_
  refine cl_T.callS (as := [_]) (rest := []) kc_X8_text ki_X8_text (by decide) cl_L_law_269 rfl (Nat.le_of_ble_eq_true rfl) ⟨⟨_, rfl⟩, _, _, _, rfl, pk_obj tq_0 rfl _ _⟩ (s_X8_text 3 _ h1) ?_
  rintro _ _ ⟨rfl, rfl⟩
  refine cl_T.step cb_L_law_272 (ci_sq rfl rfl) ?_
  rw [pk_sw]
  refine cl_T.call (as := [_]) (rest := []) kc_X9_text ki_X9_text (by decide) cl_L_law_274 rfl (Nat.le_of_ble_eq_true rfl) ⟨⟨_, rfl⟩, _, _, _, rfl, pk_obj tq_62 rfl _ _⟩ (s_X9_text 5 _ h2) ?_
  rintro _ _ ⟨rfl, rfl⟩
  rw [← pk_sw]
  refine cl_T.step cb_L_law_277 (ci_sq rfl rfl) ?_
  refine cl_T.step cb_L_law_1222 (ci_sq (pe_inc rfl) rfl) ?_
  exact IH _ _ hr
set_option maxRecDepth 100000 in
theorem law_c3 {K V : Nat → Nat} {L : Nat} {xs : Nat → Int32} (hL : L ≤ 2560) {i : Int} (hi : 0 ≤ i ∧ i + 5 ≤ (L : Int)) {ρ τ : pm} (h : Rel ρ τ) (IH : ∀ ρ' τ', Rel ρ' τ' → cl_T K V L xs (fun _ => True) yL_law cL_law 4 (some .boolean) 12 18 ([(3, .int (Int32.ofInt (i + 5))), (2, .ref 63), (1, .ref 1), (0, .ref 0)], [], pk true ρ' τ') lawP) : cl_T K V L xs (fun _ => True) yL_law cL_law 4 (some .boolean) 12 281 ([(3, .int (Int32.ofInt i)), (2, .ref 63), (1, .ref 1), (0, .ref 0)], [], pk true ρ τ) lawP := by
  have h1 : f_X8_fault ρ = some (ρ 0 12) := rfl
  have h2 : f_X9_fault τ = some (τ 62 28) := rfl
  refine cl_T.step cb_L_law_281 rfl ?_
  refine cl_T.call (as := [_]) (rest := []) kc_X8_fault ki_X8_fault (by decide) cl_L_law_282 rfl (Nat.le_of_ble_eq_true rfl) ⟨⟨_, rfl⟩, _, _, _, rfl, pk_obj tq_0 rfl _ _⟩ (s_X8_fault 11 _ h1) ?_
  rintro _ _ ⟨rfl, rfl⟩
  refine cl_T.step cb_L_law_285 (ci_sq rfl rfl) ?_
  rw [pk_sw]
  refine cl_T.call (as := [_]) (rest := []) kc_X9_fault ki_X9_fault (by decide) cl_L_law_287 rfl (Nat.le_of_ble_eq_true rfl) ⟨⟨_, rfl⟩, _, _, _, rfl, pk_obj tq_62 rfl _ _⟩ (s_X9_fault 11 _ h2) ?_
  rintro _ _ ⟨rfl, rfl⟩
  rw [← pk_sw]
  refine cl_T.step cb_L_law_290 (ci_sq rfl rfl) ?_
  refine cl_T.step cb_L_law_1222 (ci_sq (pe_inc rfl) rfl) ?_
  exact IH _ _ h
set_option maxRecDepth 100000 in
theorem law_c4 {K V : Nat → Nat} {L : Nat} {xs : Nat → Int32} (hL : L ≤ 2560) {i : Int} (hi : 0 ≤ i ∧ i + 5 ≤ (L : Int)) {ρ τ : pm} (h : Rel ρ τ) (IH : ∀ ρ' τ', Rel ρ' τ' → cl_T K V L xs (fun _ => True) yL_law cL_law 4 (some .boolean) 12 18 ([(3, .int (Int32.ofInt (i + 5))), (2, .ref 63), (1, .ref 1), (0, .ref 0)], [], pk true ρ' τ') lawP) : cl_T K V L xs (fun _ => True) yL_law cL_law 4 (some .boolean) 12 294 ([(3, .int (Int32.ofInt i)), (2, .ref 63), (1, .ref 1), (0, .ref 0)], [], pk true ρ τ) lawP := by
  obtain ⟨r, h1, h2⟩ := k_rule h (sx_R xs (i + 1))
  refine cl_T.step cb_L_law_294 (ci_sq rfl (ci_sq rfl (ci_sq rfl (ci_sq (pe_push lq_1) pe_iadd)))) ?_
  refine cl_sld (by decide +kernel) rfl (by omega) (by omega) ?_
  refine cl_T.call (as := [_, _]) (rest := []) kc_X8_rule ki_X8_rule (by decide) cl_L_law_300 rfl (Nat.le_of_ble_eq_true rfl) ⟨⟨_, rfl⟩, _, _, _, rfl, pk_obj tq_0 rfl _ _⟩ (s_X8_rule 11 _ h1) ?_
  rintro _ _ ⟨rfl, rfl⟩
  refine cl_T.step cb_L_law_303 (ci_sq rfl (ci_sq rfl (ci_sq rfl (ci_sq rfl (ci_sq (pe_push lq_1) pe_iadd))))) ?_
  refine cl_sld (by decide +kernel) rfl (by omega) (by omega) ?_
  rw [pk_sw]
  refine cl_T.call (as := [_, _]) (rest := []) kc_X9_rule ki_X9_rule (by decide) cl_L_law_310 rfl (Nat.le_of_ble_eq_true rfl) ⟨⟨_, rfl⟩, _, _, _, rfl, pk_obj tq_62 rfl _ _⟩ (s_X9_rule 11 _ h2) ?_
  rintro _ _ ⟨rfl, rfl⟩
  rw [← pk_sw]
  refine cl_T.step cb_L_law_313 (ci_sq rfl rfl) ?_
  refine cl_T.step cb_L_law_1222 (ci_sq (pe_inc rfl) rfl) ?_
  exact IH _ _ h
set_option maxRecDepth 100000 in
theorem law_c5 {K V : Nat → Nat} {L : Nat} {xs : Nat → Int32} (hL : L ≤ 2560) {i : Int} (hi : 0 ≤ i ∧ i + 5 ≤ (L : Int)) {ρ τ : pm} (h : Rel ρ τ) (IH : ∀ ρ' τ', Rel ρ' τ' → cl_T K V L xs (fun _ => True) yL_law cL_law 4 (some .boolean) 12 18 ([(3, .int (Int32.ofInt (i + 5))), (2, .ref 63), (1, .ref 1), (0, .ref 0)], [], pk true ρ' τ') lawP) : cl_T K V L xs (fun _ => True) yL_law cL_law 4 (some .boolean) 12 317 ([(3, .int (Int32.ofInt i)), (2, .ref 63), (1, .ref 1), (0, .ref 0)], [], pk true ρ τ) lawP := by
  obtain ⟨r, h1, h2⟩ := k_cell h (sx_R xs (i + 1)) (sx_R xs (i + 2))
  refine cl_T.step cb_L_law_317 (ci_sq rfl (ci_sq rfl (ci_sq rfl (ci_sq (pe_push lq_1) pe_iadd)))) ?_
  refine cl_sld (by decide +kernel) rfl (by omega) (by omega) ?_
  refine cl_T.step cb_L_law_323 (ci_sq rfl (ci_sq rfl (ci_sq (pe_push lq_2) pe_iadd))) ?_
  refine cl_sld (by decide +kernel) rfl (by omega) (by omega) ?_
  refine cl_T.call (as := [_, _, _]) (rest := []) kc_X8_cell ki_X8_cell (by decide) cl_L_law_328 rfl (Nat.le_of_ble_eq_true rfl) ⟨⟨_, rfl⟩, _, _, _, rfl, pk_obj tq_0 rfl _ _⟩ (s_X8_cell 9 _ h1) ?_
  rintro _ _ ⟨rfl, rfl⟩
  refine cl_T.step cb_L_law_331 (ci_sq rfl (ci_sq rfl (ci_sq rfl (ci_sq rfl (ci_sq (pe_push lq_1) pe_iadd))))) ?_
  refine cl_sld (by decide +kernel) rfl (by omega) (by omega) ?_
  refine cl_T.step cb_L_law_338 (ci_sq rfl (ci_sq rfl (ci_sq (pe_push lq_2) pe_iadd))) ?_
  refine cl_sld (by decide +kernel) rfl (by omega) (by omega) ?_
  rw [pk_sw]
  refine cl_T.call (as := [_, _, _]) (rest := []) kc_X9_cell ki_X9_cell (by decide) cl_L_law_343 rfl (Nat.le_of_ble_eq_true rfl) ⟨⟨_, rfl⟩, _, _, _, rfl, pk_obj tq_62 rfl _ _⟩ (s_X9_cell 9 _ h2) ?_
  rintro _ _ ⟨rfl, rfl⟩
  rw [← pk_sw]
  refine cl_T.step cb_L_law_346 (ci_sq rfl rfl) ?_
  refine cl_T.step cb_L_law_1222 (ci_sq (pe_inc rfl) rfl) ?_
  exact IH _ _ h
set_option maxRecDepth 100000 in
theorem law_c6 {K V : Nat → Nat} {L : Nat} {xs : Nat → Int32} (hL : L ≤ 2560) {i : Int} (hi : 0 ≤ i ∧ i + 5 ≤ (L : Int)) {ρ τ : pm} (h : Rel ρ τ) (IH : ∀ ρ' τ', Rel ρ' τ' → cl_T K V L xs (fun _ => True) yL_law cL_law 4 (some .boolean) 12 18 ([(3, .int (Int32.ofInt (i + 5))), (2, .ref 63), (1, .ref 1), (0, .ref 0)], [], pk true ρ' τ') lawP) : cl_T K V L xs (fun _ => True) yL_law cL_law 4 (some .boolean) 12 350 ([(3, .int (Int32.ofInt i)), (2, .ref 63), (1, .ref 1), (0, .ref 0)], [], pk true ρ τ) lawP := by
  obtain ⟨r, τ', h1, h2, hr⟩ := k_farm h (sx_R xs (i + 1)) (sx_R xs (i + 2))
  refine cl_T.step cb_L_law_350 (ci_sq rfl (ci_sq rfl (ci_sq rfl (ci_sq (pe_push lq_1) pe_iadd)))) ?_
  refine cl_sld (by decide +kernel) rfl (by omega) (by omega) ?_
  refine cl_T.step cb_L_law_356 (ci_sq rfl (ci_sq rfl (ci_sq (pe_push lq_2) pe_iadd))) ?_
  refine cl_sld (by decide +kernel) rfl (by omega) (by omega) ?_
  refine cl_T.call (as := [_, _, _]) (rest := []) kc_X8_farm ki_X8_farm (by decide) cl_L_law_361 rfl (Nat.le_of_ble_eq_true rfl) ⟨⟨_, rfl⟩, _, _, _, rfl, pk_obj tq_0 rfl _ _⟩ (s_X8_farm 8 _ h1) ?_
  rintro _ _ ⟨rfl, rfl⟩
  refine cl_T.step cb_L_law_364 (ci_sq rfl (ci_sq rfl (ci_sq rfl (ci_sq rfl (ci_sq (pe_push lq_1) pe_iadd))))) ?_
  refine cl_sld (by decide +kernel) rfl (by omega) (by omega) ?_
  refine cl_T.step cb_L_law_371 (ci_sq rfl (ci_sq rfl (ci_sq (pe_push lq_2) pe_iadd))) ?_
  refine cl_sld (by decide +kernel) rfl (by omega) (by omega) ?_
  rw [pk_sw]
  refine cl_T.call (as := [_, _, _]) (rest := []) kc_X9_farm ki_X9_farm (by decide) cl_L_law_376 rfl (Nat.le_of_ble_eq_true rfl) ⟨⟨_, rfl⟩, _, _, _, rfl, pk_obj tq_62 rfl _ _⟩ (s_X9_farm 6 _ h2) ?_
  rintro _ _ ⟨rfl, rfl⟩
  rw [← pk_sw]
  refine cl_T.step cb_L_law_379 (ci_sq rfl rfl) ?_
  refine cl_T.step cb_L_law_1222 (ci_sq (pe_inc rfl) rfl) ?_
  exact IH _ _ hr
set_option maxRecDepth 100000 in
theorem law_c7 {K V : Nat → Nat} {L : Nat} {xs : Nat → Int32} (hL : L ≤ 2560) {i : Int} (hi : 0 ≤ i ∧ i + 5 ≤ (L : Int)) {ρ τ : pm} (h : Rel ρ τ) (IH : ∀ ρ' τ', Rel ρ' τ' → cl_T K V L xs (fun _ => True) yL_law cL_law 4 (some .boolean) 12 18 ([(3, .int (Int32.ofInt (i + 5))), (2, .ref 63), (1, .ref 1), (0, .ref 0)], [], pk true ρ' τ') lawP) : cl_T K V L xs (fun _ => True) yL_law cL_law 4 (some .boolean) 12 383 ([(3, .int (Int32.ofInt i)), (2, .ref 63), (1, .ref 1), (0, .ref 0)], [], pk true ρ τ) lawP := by
  obtain ⟨r, τ', h1, h2, hr⟩ := k_bed h (sx_R xs (i + 1))
  refine cl_T.step cb_L_law_383 (ci_sq rfl (ci_sq rfl (ci_sq rfl (ci_sq (pe_push lq_1) pe_iadd)))) ?_
  refine cl_sld (by decide +kernel) rfl (by omega) (by omega) ?_
  refine cl_T.call (as := [_, _]) (rest := []) kc_X8_bed ki_X8_bed (by decide) cl_L_law_389 rfl (Nat.le_of_ble_eq_true rfl) ⟨⟨_, rfl⟩, _, _, _, rfl, pk_obj tq_0 rfl _ _⟩ (s_X8_bed 11 _ h1) ?_
  rintro _ _ ⟨rfl, rfl⟩
  refine cl_T.step cb_L_law_392 (ci_sq rfl (ci_sq rfl (ci_sq rfl (ci_sq rfl (ci_sq (pe_push lq_1) pe_iadd))))) ?_
  refine cl_sld (by decide +kernel) rfl (by omega) (by omega) ?_
  rw [pk_sw]
  refine cl_T.call (as := [_, _]) (rest := []) kc_X9_bed ki_X9_bed (by decide) cl_L_law_399 rfl (Nat.le_of_ble_eq_true rfl) ⟨⟨_, rfl⟩, _, _, _, rfl, pk_obj tq_62 rfl _ _⟩ (s_X9_bed 8 _ h2) ?_
  rintro _ _ ⟨rfl, rfl⟩
  rw [← pk_sw]
  refine cl_T.step cb_L_law_402 (ci_sq rfl rfl) ?_
  refine cl_T.step cb_L_law_1222 (ci_sq (pe_inc rfl) rfl) ?_
  exact IH _ _ hr
set_option maxRecDepth 100000 in
theorem law_c8 {K V : Nat → Nat} {L : Nat} {xs : Nat → Int32} (hL : L ≤ 2560) {i : Int} (hi : 0 ≤ i ∧ i + 5 ≤ (L : Int)) {ρ τ : pm} (h : Rel ρ τ) (IH : ∀ ρ' τ', Rel ρ' τ' → cl_T K V L xs (fun _ => True) yL_law cL_law 4 (some .boolean) 12 18 ([(3, .int (Int32.ofInt (i + 5))), (2, .ref 63), (1, .ref 1), (0, .ref 0)], [], pk true ρ' τ') lawP) : cl_T K V L xs (fun _ => True) yL_law cL_law 4 (some .boolean) 12 406 ([(3, .int (Int32.ofInt i)), (2, .ref 63), (1, .ref 1), (0, .ref 0)], [], pk true ρ τ) lawP := by
  obtain ⟨r, ρ', τ', h1, h2, hr⟩ := k_dam h (sx_R xs (i + 1)) (sx_R xs (i + 2))
  refine cl_T.step cb_L_law_406 (ci_sq rfl (ci_sq rfl (ci_sq rfl (ci_sq (pe_push lq_1) pe_iadd)))) ?_
  refine cl_sld (by decide +kernel) rfl (by omega) (by omega) ?_
  refine cl_T.step cb_L_law_412 (ci_sq rfl (ci_sq rfl (ci_sq (pe_push lq_2) pe_iadd))) ?_
  refine cl_sld (by decide +kernel) rfl (by omega) (by omega) ?_
  refine cl_T.call (as := [_, _, _]) (rest := []) kc_X8_dam ki_X8_dam (by decide) cl_L_law_417 rfl (Nat.le_of_ble_eq_true rfl) ⟨⟨_, rfl⟩, _, _, _, rfl, pk_obj tq_0 rfl _ _⟩ (s_X8_dam 7 _ h1) ?_
  rintro _ _ ⟨rfl, rfl⟩
  refine cl_T.step cb_L_law_420 (ci_sq rfl (ci_sq rfl (ci_sq rfl (ci_sq rfl (ci_sq (pe_push lq_1) pe_iadd))))) ?_
  refine cl_sld (by decide +kernel) rfl (by omega) (by omega) ?_
  refine cl_T.step cb_L_law_427 (ci_sq rfl (ci_sq rfl (ci_sq (pe_push lq_2) pe_iadd))) ?_
  refine cl_sld (by decide +kernel) rfl (by omega) (by omega) ?_
  rw [pk_sw]
  refine cl_T.call (as := [_, _, _]) (rest := []) kc_X9_dam ki_X9_dam (by decide) cl_L_law_432 rfl (Nat.le_of_ble_eq_true rfl) ⟨⟨_, rfl⟩, _, _, _, rfl, pk_obj tq_62 rfl _ _⟩ (s_X9_dam 9 _ h2) ?_
  rintro _ _ ⟨rfl, rfl⟩
  rw [← pk_sw]
  refine cl_T.step cb_L_law_435 (ci_sq rfl rfl) ?_
  refine cl_T.step cb_L_law_1222 (ci_sq (pe_inc rfl) rfl) ?_
  exact IH _ _ hr
set_option maxRecDepth 100000 in
theorem law_c9 {K V : Nat → Nat} {L : Nat} {xs : Nat → Int32} (hL : L ≤ 2560) {i : Int} (hi : 0 ≤ i ∧ i + 5 ≤ (L : Int)) {ρ τ : pm} (h : Rel ρ τ) (IH : ∀ ρ' τ', Rel ρ' τ' → cl_T K V L xs (fun _ => True) yL_law cL_law 4 (some .boolean) 12 18 ([(3, .int (Int32.ofInt (i + 5))), (2, .ref 63), (1, .ref 1), (0, .ref 0)], [], pk true ρ' τ') lawP) : cl_T K V L xs (fun _ => True) yL_law cL_law 4 (some .boolean) 12 439 ([(3, .int (Int32.ofInt i)), (2, .ref 63), (1, .ref 1), (0, .ref 0)], [], pk true ρ τ) lawP := by
  obtain ⟨r, ρ', τ', h1, h2, hr⟩ := k_move h (sx_R xs (i + 1))
  refine cl_T.step cb_L_law_439 (ci_sq rfl (ci_sq rfl (ci_sq rfl (ci_sq (pe_push lq_1) pe_iadd)))) ?_
  refine cl_sld (by decide +kernel) rfl (by omega) (by omega) ?_
  refine cl_T.call (as := [_, _]) (rest := []) kc_X8_move ki_X8_move (by decide) cl_L_law_445 rfl (Nat.le_of_ble_eq_true rfl) ⟨⟨_, rfl⟩, _, _, _, rfl, pk_obj tq_0 rfl _ _⟩ (s_X8_move 7 _ h1) ?_
  rintro _ _ ⟨rfl, rfl⟩
  refine cl_T.step cb_L_law_448 (ci_sq rfl (ci_sq rfl (ci_sq rfl (ci_sq rfl (ci_sq (pe_push lq_1) pe_iadd))))) ?_
  refine cl_sld (by decide +kernel) rfl (by omega) (by omega) ?_
  rw [pk_sw]
  refine cl_T.call (as := [_, _]) (rest := []) kc_X9_move ki_X9_move (by decide) cl_L_law_455 rfl (Nat.le_of_ble_eq_true rfl) ⟨⟨_, rfl⟩, _, _, _, rfl, pk_obj tq_62 rfl _ _⟩ (s_X9_move 9 _ h2) ?_
  rintro _ _ ⟨rfl, rfl⟩
  rw [← pk_sw]
  refine cl_T.step cb_L_law_458 (ci_sq rfl rfl) ?_
  refine cl_T.step cb_L_law_1222 (ci_sq (pe_inc rfl) rfl) ?_
  exact IH _ _ hr
set_option maxRecDepth 100000 in
theorem law_c10 {K V : Nat → Nat} {L : Nat} {xs : Nat → Int32} (hL : L ≤ 2560) {i : Int} (hi : 0 ≤ i ∧ i + 5 ≤ (L : Int)) {ρ τ : pm} (h : Rel ρ τ) (IH : ∀ ρ' τ', Rel ρ' τ' → cl_T K V L xs (fun _ => True) yL_law cL_law 4 (some .boolean) 12 18 ([(3, .int (Int32.ofInt (i + 5))), (2, .ref 63), (1, .ref 1), (0, .ref 0)], [], pk true ρ' τ') lawP) : cl_T K V L xs (fun _ => True) yL_law cL_law 4 (some .boolean) 12 462 ([(3, .int (Int32.ofInt i)), (2, .ref 63), (1, .ref 1), (0, .ref 0)], [], pk true ρ τ) lawP := by
  obtain ⟨r, ρ', τ', h1, h2, hr⟩ := k_law h (sx_R xs (i + 1))
  refine cl_T.step cb_L_law_462 (ci_sq rfl (ci_sq rfl (ci_sq rfl (ci_sq (pe_push lq_1) pe_iadd)))) ?_
  refine cl_sld (by decide +kernel) rfl (by omega) (by omega) ?_
  refine cl_T.call (as := [_, _]) (rest := []) kc_X8_law ki_X8_law (by decide) cl_L_law_468 rfl (Nat.le_of_ble_eq_true rfl) ⟨⟨_, rfl⟩, _, _, _, rfl, pk_obj tq_0 rfl _ _⟩ (s_X8_law 11 _ h1) ?_
  rintro _ _ ⟨rfl, rfl⟩
  refine cl_T.step cb_L_law_471 (ci_sq rfl (ci_sq rfl (ci_sq rfl (ci_sq rfl (ci_sq (pe_push lq_1) pe_iadd))))) ?_
  refine cl_sld (by decide +kernel) rfl (by omega) (by omega) ?_
  rw [pk_sw]
  refine cl_T.call (as := [_, _]) (rest := []) kc_X9_law ki_X9_law (by decide) cl_L_law_478 rfl (Nat.le_of_ble_eq_true rfl) ⟨⟨_, rfl⟩, _, _, _, rfl, pk_obj tq_62 rfl _ _⟩ (s_X9_law 10 _ h2) ?_
  rintro _ _ ⟨rfl, rfl⟩
  rw [← pk_sw]
  refine cl_T.step cb_L_law_481 (ci_sq rfl rfl) ?_
  refine cl_T.step cb_L_law_1222 (ci_sq (pe_inc rfl) rfl) ?_
  exact IH _ _ hr
set_option maxRecDepth 100000 in
theorem law_c11 {K V : Nat → Nat} {L : Nat} {xs : Nat → Int32} (hL : L ≤ 2560) {i : Int} (hi : 0 ≤ i ∧ i + 5 ≤ (L : Int)) {ρ τ : pm} (h : Rel ρ τ) (IH : ∀ ρ' τ', Rel ρ' τ' → cl_T K V L xs (fun _ => True) yL_law cL_law 4 (some .boolean) 12 18 ([(3, .int (Int32.ofInt (i + 5))), (2, .ref 63), (1, .ref 1), (0, .ref 0)], [], pk true ρ' τ') lawP) : cl_T K V L xs (fun _ => True) yL_law cL_law 4 (some .boolean) 12 485 ([(3, .int (Int32.ofInt i)), (2, .ref 63), (1, .ref 1), (0, .ref 0)], [], pk true ρ τ) lawP := by
  by_cases z : sx xs (i + 1) = 0
  · obtain ⟨r, ρ', τ', h1, h2, hr⟩ := k_silt h (Or.inl rfl)
    refine cl_T.step cb_L_law_485 (ci_sq rfl (ci_sq rfl (ci_sq rfl (ci_sq (pe_push lq_1) pe_iadd)))) ?_
    refine cl_sld (by decide +kernel) rfl (by omega) (by omega) ?_
    refine cl_T.step cb_L_law_491 (pe_if_eq (sx_R _ _)) ?_
    rw [decide_eq_true z]
    refine cl_T.step cb_L_law_498 (pe_push lq_0) ?_
    refine cl_T.call (as := [_, _]) (rest := []) kc_X8_silt ki_X8_silt (by decide) cl_L_law_499 rfl (Nat.le_of_ble_eq_true rfl) ⟨⟨_, rfl⟩, _, _, _, rfl, pk_obj tq_0 rfl _ _⟩ (s_X8_silt 11 _ h1) ?_
    rintro _ _ ⟨rfl, rfl⟩
    refine cl_T.step cb_L_law_502 (ci_sq rfl (ci_sq rfl (ci_sq rfl (ci_sq rfl (ci_sq (pe_push lq_1) pe_iadd))))) ?_
    refine cl_sld (by decide +kernel) rfl (by omega) (by omega) ?_
    refine cl_T.step cb_L_law_509 (pe_if_eq (sx_R _ _)) ?_
    rw [decide_eq_true z]
    refine cl_T.step cb_L_law_516 (pe_push lq_0) ?_
    rw [pk_sw]
    refine cl_T.call (as := [_, _]) (rest := []) kc_X9_silt ki_X9_silt (by decide) cl_L_law_517 rfl (Nat.le_of_ble_eq_true rfl) ⟨⟨_, rfl⟩, _, _, _, rfl, pk_obj tq_62 rfl _ _⟩ (s_X9_silt 10 _ h2) ?_
    rintro _ _ ⟨rfl, rfl⟩
    rw [← pk_sw]
    refine cl_T.step cb_L_law_520 (ci_sq rfl rfl) ?_
    refine cl_T.step cb_L_law_1222 (ci_sq (pe_inc rfl) rfl) ?_
    exact IH _ _ hr
  · obtain ⟨r, ρ', τ', h1, h2, hr⟩ := k_silt h (Or.inr rfl)
    refine cl_T.step cb_L_law_485 (ci_sq rfl (ci_sq rfl (ci_sq rfl (ci_sq (pe_push lq_1) pe_iadd)))) ?_
    refine cl_sld (by decide +kernel) rfl (by omega) (by omega) ?_
    refine cl_T.step cb_L_law_491 (pe_if_eq (sx_R _ _)) ?_
    rw [decide_eq_false z]
    refine cl_T.step cb_L_law_494 (ci_sq (pe_push lq_1) rfl) ?_
    refine cl_T.call (as := [_, _]) (rest := []) kc_X8_silt ki_X8_silt (by decide) cl_L_law_499 rfl (Nat.le_of_ble_eq_true rfl) ⟨⟨_, rfl⟩, _, _, _, rfl, pk_obj tq_0 rfl _ _⟩ (s_X8_silt 11 _ h1) ?_
    rintro _ _ ⟨rfl, rfl⟩
    refine cl_T.step cb_L_law_502 (ci_sq rfl (ci_sq rfl (ci_sq rfl (ci_sq rfl (ci_sq (pe_push lq_1) pe_iadd))))) ?_
    refine cl_sld (by decide +kernel) rfl (by omega) (by omega) ?_
    refine cl_T.step cb_L_law_509 (pe_if_eq (sx_R _ _)) ?_
    rw [decide_eq_false z]
    refine cl_T.step cb_L_law_512 (ci_sq (pe_push lq_1) rfl) ?_
    rw [pk_sw]
    refine cl_T.call (as := [_, _]) (rest := []) kc_X9_silt ki_X9_silt (by decide) cl_L_law_517 rfl (Nat.le_of_ble_eq_true rfl) ⟨⟨_, rfl⟩, _, _, _, rfl, pk_obj tq_62 rfl _ _⟩ (s_X9_silt 10 _ h2) ?_
    rintro _ _ ⟨rfl, rfl⟩
    rw [← pk_sw]
    refine cl_T.step cb_L_law_520 (ci_sq rfl rfl) ?_
    refine cl_T.step cb_L_law_1222 (ci_sq (pe_inc rfl) rfl) ?_
    exact IH _ _ hr
set_option maxRecDepth 100000 in
theorem law_c12 {K V : Nat → Nat} {L : Nat} {xs : Nat → Int32} (hL : L ≤ 2560) {i : Int} (hi : 0 ≤ i ∧ i + 5 ≤ (L : Int)) {ρ τ : pm} (h : Rel ρ τ) (IH : ∀ ρ' τ', Rel ρ' τ' → cl_T K V L xs (fun _ => True) yL_law cL_law 4 (some .boolean) 12 18 ([(3, .int (Int32.ofInt (i + 5))), (2, .ref 63), (1, .ref 1), (0, .ref 0)], [], pk true ρ' τ') lawP) : cl_T K V L xs (fun _ => True) yL_law cL_law 4 (some .boolean) 12 524 ([(3, .int (Int32.ofInt i)), (2, .ref 63), (1, .ref 1), (0, .ref 0)], [], pk true ρ τ) lawP := by
  obtain ⟨r, ρ', τ', h1, h2, hr⟩ := k_price h (sx_R xs (i + 1)) (sx_R xs (i + 2))
  refine cl_T.step cb_L_law_524 (ci_sq rfl (ci_sq rfl (ci_sq rfl (ci_sq (pe_push lq_1) pe_iadd)))) ?_
  refine cl_sld (by decide +kernel) rfl (by omega) (by omega) ?_
  refine cl_T.step cb_L_law_530 (ci_sq rfl (ci_sq rfl (ci_sq (pe_push lq_2) pe_iadd))) ?_
  refine cl_sld (by decide +kernel) rfl (by omega) (by omega) ?_
  refine cl_T.call (as := [_, _, _]) (rest := []) kc_X8_price ki_X8_price (by decide) cl_L_law_535 rfl (Nat.le_of_ble_eq_true rfl) ⟨⟨_, rfl⟩, _, _, _, rfl, pk_obj tq_0 rfl _ _⟩ (s_X8_price 10 _ h1) ?_
  rintro _ _ ⟨rfl, rfl⟩
  refine cl_T.step cb_L_law_538 (ci_sq rfl (ci_sq rfl (ci_sq rfl (ci_sq rfl (ci_sq (pe_push lq_1) pe_iadd))))) ?_
  refine cl_sld (by decide +kernel) rfl (by omega) (by omega) ?_
  refine cl_T.step cb_L_law_545 (ci_sq rfl (ci_sq rfl (ci_sq (pe_push lq_2) pe_iadd))) ?_
  refine cl_sld (by decide +kernel) rfl (by omega) (by omega) ?_
  rw [pk_sw]
  refine cl_T.call (as := [_, _, _]) (rest := []) kc_X9_price ki_X9_price (by decide) cl_L_law_550 rfl (Nat.le_of_ble_eq_true rfl) ⟨⟨_, rfl⟩, _, _, _, rfl, pk_obj tq_62 rfl _ _⟩ (s_X9_price 9 _ h2) ?_
  rintro _ _ ⟨rfl, rfl⟩
  rw [← pk_sw]
  refine cl_T.step cb_L_law_553 (ci_sq rfl rfl) ?_
  refine cl_T.step cb_L_law_1222 (ci_sq (pe_inc rfl) rfl) ?_
  exact IH _ _ hr
set_option maxRecDepth 100000 in
theorem law_c13 {K V : Nat → Nat} {L : Nat} {xs : Nat → Int32} (hL : L ≤ 2560) {i : Int} (hi : 0 ≤ i ∧ i + 5 ≤ (L : Int)) {ρ τ : pm} (h : Rel ρ τ) (IH : ∀ ρ' τ', Rel ρ' τ' → cl_T K V L xs (fun _ => True) yL_law cL_law 4 (some .boolean) 12 18 ([(3, .int (Int32.ofInt (i + 5))), (2, .ref 63), (1, .ref 1), (0, .ref 0)], [], pk true ρ' τ') lawP) : cl_T K V L xs (fun _ => True) yL_law cL_law 4 (some .boolean) 12 557 ([(3, .int (Int32.ofInt i)), (2, .ref 63), (1, .ref 1), (0, .ref 0)], [], pk true ρ τ) lawP := by
  obtain ⟨r, ρ', τ', h1, h2, hr⟩ := k_year h (sx_R xs (i + 1))
  refine cl_T.step cb_L_law_557 (ci_sq rfl (ci_sq rfl (ci_sq rfl (ci_sq (pe_push lq_1) pe_iadd)))) ?_
  refine cl_sld (by decide +kernel) rfl (by omega) (by omega) ?_
  refine cl_T.call (as := [_, _]) (rest := []) kc_X8_year ki_X8_year (by decide) cl_L_law_563 rfl (Nat.le_of_ble_eq_true rfl) ⟨⟨_, rfl⟩, _, _, _, rfl, pk_obj tq_0 rfl _ _⟩ (s_X8_year 6 _ h1) ?_
  rintro _ _ ⟨rfl, rfl⟩
  refine cl_T.step cb_L_law_566 (ci_sq rfl (ci_sq rfl (ci_sq rfl (ci_sq rfl (ci_sq (pe_push lq_1) pe_iadd))))) ?_
  refine cl_sld (by decide +kernel) rfl (by omega) (by omega) ?_
  rw [pk_sw]
  refine cl_T.call (as := [_, _]) (rest := []) kc_X9_year ki_X9_year (by decide) cl_L_law_573 rfl (Nat.le_of_ble_eq_true rfl) ⟨⟨_, rfl⟩, _, _, _, rfl, pk_obj tq_62 rfl _ _⟩ (s_X9_year 4 _ h2) ?_
  rintro _ _ ⟨rfl, rfl⟩
  rw [← pk_sw]
  refine cl_T.step cb_L_law_576 (ci_sq rfl rfl) ?_
  refine cl_T.step cb_L_law_1222 (ci_sq (pe_inc rfl) rfl) ?_
  exact IH _ _ hr
set_option maxRecDepth 100000 in
theorem law_c14 {K V : Nat → Nat} {L : Nat} {xs : Nat → Int32} (hL : L ≤ 2560) {i : Int} (hi : 0 ≤ i ∧ i + 5 ≤ (L : Int)) {ρ τ : pm} (h : Rel ρ τ) (IH : ∀ ρ' τ', Rel ρ' τ' → cl_T K V L xs (fun _ => True) yL_law cL_law 4 (some .boolean) 12 18 ([(3, .int (Int32.ofInt (i + 5))), (2, .ref 63), (1, .ref 1), (0, .ref 0)], [], pk true ρ' τ') lawP) : cl_T K V L xs (fun _ => True) yL_law cL_law 4 (some .boolean) 12 580 ([(3, .int (Int32.ofInt i)), (2, .ref 63), (1, .ref 1), (0, .ref 0)], [], pk true ρ τ) lawP := by
  obtain ⟨r, ρ', τ', h1, h2, hr⟩ := k_would h (sx_R xs (i + 1)) (sx_R xs (i + 2))
  refine cl_T.step cb_L_law_580 (ci_sq rfl (ci_sq rfl (ci_sq rfl (ci_sq (pe_push lq_1) pe_iadd)))) ?_
  refine cl_sld (by decide +kernel) rfl (by omega) (by omega) ?_
  refine cl_T.step cb_L_law_586 (ci_sq rfl (ci_sq rfl (ci_sq (pe_push lq_2) pe_iadd))) ?_
  refine cl_sld (by decide +kernel) rfl (by omega) (by omega) ?_
  refine cl_T.call (as := [_, _, _]) (rest := []) kc_X8_would ki_X8_would (by decide) cl_L_law_591 rfl (Nat.le_of_ble_eq_true rfl) ⟨⟨_, rfl⟩, _, _, _, rfl, pk_obj tq_0 rfl _ _⟩ (s_X8_would 7 _ h1) ?_
  rintro _ _ ⟨rfl, rfl⟩
  refine cl_T.step cb_L_law_594 (ci_sq rfl (ci_sq rfl (ci_sq rfl (ci_sq rfl (ci_sq (pe_push lq_1) pe_iadd))))) ?_
  refine cl_sld (by decide +kernel) rfl (by omega) (by omega) ?_
  refine cl_T.step cb_L_law_601 (ci_sq rfl (ci_sq rfl (ci_sq (pe_push lq_2) pe_iadd))) ?_
  refine cl_sld (by decide +kernel) rfl (by omega) (by omega) ?_
  rw [pk_sw]
  refine cl_T.call (as := [_, _, _]) (rest := []) kc_X9_would ki_X9_would (by decide) cl_L_law_606 rfl (Nat.le_of_ble_eq_true rfl) ⟨⟨_, rfl⟩, _, _, _, rfl, pk_obj tq_62 rfl _ _⟩ (s_X9_would 4 _ h2) ?_
  rintro _ _ ⟨rfl, rfl⟩
  rw [← pk_sw]
  refine cl_T.step cb_L_law_609 (ci_sq rfl rfl) ?_
  refine cl_T.step cb_L_law_1222 (ci_sq (pe_inc rfl) rfl) ?_
  exact IH _ _ hr
set_option maxRecDepth 100000 in
theorem law_c15 {K V : Nat → Nat} {L : Nat} {xs : Nat → Int32} (hL : L ≤ 2560) {i : Int} (hi : 0 ≤ i ∧ i + 5 ≤ (L : Int)) {ρ τ : pm} (h : Rel ρ τ) (IH : ∀ ρ' τ', Rel ρ' τ' → cl_T K V L xs (fun _ => True) yL_law cL_law 4 (some .boolean) 12 18 ([(3, .int (Int32.ofInt (i + 5))), (2, .ref 63), (1, .ref 1), (0, .ref 0)], [], pk true ρ' τ') lawP) : cl_T K V L xs (fun _ => True) yL_law cL_law 4 (some .boolean) 12 613 ([(3, .int (Int32.ofInt i)), (2, .ref 63), (1, .ref 1), (0, .ref 0)], [], pk true ρ τ) lawP := by
  obtain ⟨r, ρ', τ', h1, h2, hr⟩ := k_tell h (sx_R xs (i + 1))
  refine cl_T.step cb_L_law_613 (ci_sq rfl (ci_sq rfl (ci_sq rfl (ci_sq (pe_push lq_1) pe_iadd)))) ?_
  refine cl_sld (by decide +kernel) rfl (by omega) (by omega) ?_
  refine cl_T.call (as := [_, _]) (rest := []) kc_X8_tell ki_X8_tell (by decide) cl_L_law_619 rfl (Nat.le_of_ble_eq_true rfl) ⟨⟨_, rfl⟩, _, _, _, rfl, pk_obj tq_0 rfl _ _⟩ (s_X8_tell 10 _ h1) ?_
  rintro _ _ ⟨rfl, rfl⟩
  refine cl_T.step cb_L_law_622 (ci_sq rfl (ci_sq rfl (ci_sq rfl (ci_sq rfl (ci_sq (pe_push lq_1) pe_iadd))))) ?_
  refine cl_sld (by decide +kernel) rfl (by omega) (by omega) ?_
  rw [pk_sw]
  refine cl_T.call (as := [_, _]) (rest := []) kc_X9_tell ki_X9_tell (by decide) cl_L_law_629 rfl (Nat.le_of_ble_eq_true rfl) ⟨⟨_, rfl⟩, _, _, _, rfl, pk_obj tq_62 rfl _ _⟩ (s_X9_tell 9 _ h2) ?_
  rintro _ _ ⟨rfl, rfl⟩
  rw [← pk_sw]
  refine cl_T.step cb_L_law_632 (ci_sq rfl rfl) ?_
  refine cl_T.step cb_L_law_1222 (ci_sq (pe_inc rfl) rfl) ?_
  exact IH _ _ hr
set_option maxRecDepth 100000 in
theorem law_c16 {K V : Nat → Nat} {L : Nat} {xs : Nat → Int32} (hL : L ≤ 2560) {i : Int} (hi : 0 ≤ i ∧ i + 5 ≤ (L : Int)) {ρ τ : pm} (h : Rel ρ τ) (IH : ∀ ρ' τ', Rel ρ' τ' → cl_T K V L xs (fun _ => True) yL_law cL_law 4 (some .boolean) 12 18 ([(3, .int (Int32.ofInt (i + 5))), (2, .ref 63), (1, .ref 1), (0, .ref 0)], [], pk true ρ' τ') lawP) : cl_T K V L xs (fun _ => True) yL_law cL_law 4 (some .boolean) 12 636 ([(3, .int (Int32.ofInt i)), (2, .ref 63), (1, .ref 1), (0, .ref 0)], [], pk true ρ τ) lawP := by
  obtain ⟨r, ρ', τ', h1, h2, hr⟩ := k_drop h (sx_R xs (i + 1))
  refine cl_T.step cb_L_law_636 (ci_sq rfl (ci_sq rfl (ci_sq rfl (ci_sq (pe_push lq_1) pe_iadd)))) ?_
  refine cl_sld (by decide +kernel) rfl (by omega) (by omega) ?_
  refine cl_T.call (as := [_, _]) (rest := []) kc_X8_drop ki_X8_drop (by decide) cl_L_law_642 rfl (Nat.le_of_ble_eq_true rfl) ⟨⟨_, rfl⟩, _, _, _, rfl, pk_obj tq_0 rfl _ _⟩ (s_X8_drop 11 _ h1) ?_
  rintro _ _ ⟨rfl, rfl⟩
  refine cl_T.step cb_L_law_645 (ci_sq rfl (ci_sq rfl (ci_sq rfl (ci_sq rfl (ci_sq (pe_push lq_1) pe_iadd))))) ?_
  refine cl_sld (by decide +kernel) rfl (by omega) (by omega) ?_
  rw [pk_sw]
  refine cl_T.call (as := [_, _]) (rest := []) kc_X9_drop ki_X9_drop (by decide) cl_L_law_652 rfl (Nat.le_of_ble_eq_true rfl) ⟨⟨_, rfl⟩, _, _, _, rfl, pk_obj tq_62 rfl _ _⟩ (s_X9_drop 10 _ h2) ?_
  rintro _ _ ⟨rfl, rfl⟩
  rw [← pk_sw]
  refine cl_T.step cb_L_law_655 (ci_sq rfl rfl) ?_
  refine cl_T.step cb_L_law_1222 (ci_sq (pe_inc rfl) rfl) ?_
  exact IH _ _ hr
set_option maxRecDepth 100000 in
theorem law_c17 {K V : Nat → Nat} {L : Nat} {xs : Nat → Int32} (hL : L ≤ 2560) {i : Int} (hi : 0 ≤ i ∧ i + 5 ≤ (L : Int)) {ρ τ : pm} (h : Rel ρ τ) (IH : ∀ ρ' τ', Rel ρ' τ' → cl_T K V L xs (fun _ => True) yL_law cL_law 4 (some .boolean) 12 18 ([(3, .int (Int32.ofInt (i + 5))), (2, .ref 63), (1, .ref 1), (0, .ref 0)], [], pk true ρ' τ') lawP) : cl_T K V L xs (fun _ => True) yL_law cL_law 4 (some .boolean) 12 659 ([(3, .int (Int32.ofInt i)), (2, .ref 63), (1, .ref 1), (0, .ref 0)], [], pk true ρ τ) lawP := by
  obtain ⟨r, ρ', τ', h1, h2, hr⟩ := k_judge h (sx_R xs (i + 1))
  refine cl_T.step cb_L_law_659 (ci_sq rfl (ci_sq rfl (ci_sq rfl (ci_sq (pe_push lq_1) pe_iadd)))) ?_
  refine cl_sld (by decide +kernel) rfl (by omega) (by omega) ?_
  refine cl_T.call (as := [_, _]) (rest := []) kc_X8_judge ki_X8_judge (by decide) cl_L_law_665 rfl (Nat.le_of_ble_eq_true rfl) ⟨⟨_, rfl⟩, _, _, _, rfl, pk_obj tq_0 rfl _ _⟩ (s_X8_judge 7 _ h1) ?_
  rintro _ _ ⟨rfl, rfl⟩
  refine cl_T.step cb_L_law_668 (ci_sq rfl (ci_sq rfl (ci_sq rfl (ci_sq rfl (ci_sq (pe_push lq_1) pe_iadd))))) ?_
  refine cl_sld (by decide +kernel) rfl (by omega) (by omega) ?_
  rw [pk_sw]
  refine cl_T.call (as := [_, _]) (rest := []) kc_X9_judge ki_X9_judge (by decide) cl_L_law_675 rfl (Nat.le_of_ble_eq_true rfl) ⟨⟨_, rfl⟩, _, _, _, rfl, pk_obj tq_62 rfl _ _⟩ (s_X9_judge 5 _ h2) ?_
  rintro _ _ ⟨rfl, rfl⟩
  rw [← pk_sw]
  refine cl_T.step cb_L_law_678 (ci_sq rfl rfl) ?_
  refine cl_T.step cb_L_law_1222 (ci_sq (pe_inc rfl) rfl) ?_
  exact IH _ _ hr
set_option maxRecDepth 100000 in
theorem law_c18 {K V : Nat → Nat} {L : Nat} {xs : Nat → Int32} (hL : L ≤ 2560) {i : Int} (hi : 0 ≤ i ∧ i + 5 ≤ (L : Int)) {ρ τ : pm} (h : Rel ρ τ) (IH : ∀ ρ' τ', Rel ρ' τ' → cl_T K V L xs (fun _ => True) yL_law cL_law 4 (some .boolean) 12 18 ([(3, .int (Int32.ofInt (i + 5))), (2, .ref 63), (1, .ref 1), (0, .ref 0)], [], pk true ρ' τ') lawP) : cl_T K V L xs (fun _ => True) yL_law cL_law 4 (some .boolean) 12 682 ([(3, .int (Int32.ofInt i)), (2, .ref 63), (1, .ref 1), (0, .ref 0)], [], pk true ρ τ) lawP := by
  obtain ⟨r, ρ', τ', h1, h2, hr⟩ := k_alone h (sx_R xs (i + 1)) (sx_R xs (i + 2)) (sx_R xs (i + 3))
  refine cl_T.step cb_L_law_682 (ci_sq rfl (ci_sq rfl (ci_sq rfl (ci_sq (pe_push lq_1) pe_iadd)))) ?_
  refine cl_sld (by decide +kernel) rfl (by omega) (by omega) ?_
  refine cl_T.step cb_L_law_688 (ci_sq rfl (ci_sq rfl (ci_sq (pe_push lq_2) pe_iadd))) ?_
  refine cl_sld (by decide +kernel) rfl (by omega) (by omega) ?_
  refine cl_T.step cb_L_law_693 (ci_sq rfl (ci_sq rfl (ci_sq (pe_push lq_3) pe_iadd))) ?_
  refine cl_sld (by decide +kernel) rfl (by omega) (by omega) ?_
  refine cl_T.call (as := [_, _, _, _]) (rest := []) kc_X8_alone ki_X8_alone (by decide) cl_L_law_698 rfl (Nat.le_of_ble_eq_true rfl) ⟨⟨_, rfl⟩, _, _, _, rfl, pk_obj tq_0 rfl _ _⟩ (s_X8_alone 3 _ h1) ?_
  rintro _ _ ⟨rfl, rfl⟩
  refine cl_T.step cb_L_law_701 (ci_sq rfl (ci_sq rfl (ci_sq rfl (ci_sq rfl (ci_sq (pe_push lq_1) pe_iadd))))) ?_
  refine cl_sld (by decide +kernel) rfl (by omega) (by omega) ?_
  refine cl_T.step cb_L_law_708 (ci_sq rfl (ci_sq rfl (ci_sq (pe_push lq_2) pe_iadd))) ?_
  refine cl_sld (by decide +kernel) rfl (by omega) (by omega) ?_
  refine cl_T.step cb_L_law_713 (ci_sq rfl (ci_sq rfl (ci_sq (pe_push lq_3) pe_iadd))) ?_
  refine cl_sld (by decide +kernel) rfl (by omega) (by omega) ?_
  rw [pk_sw]
  refine cl_T.call (as := [_, _, _, _]) (rest := []) kc_X9_alone ki_X9_alone (by decide) cl_L_law_718 rfl (Nat.le_of_ble_eq_true rfl) ⟨⟨_, rfl⟩, _, _, _, rfl, pk_obj tq_62 rfl _ _⟩ (s_X9_alone 4 _ h2) ?_
  rintro _ _ ⟨rfl, rfl⟩
  rw [← pk_sw]
  refine cl_T.step cb_L_law_721 (ci_sq rfl rfl) ?_
  refine cl_T.step cb_L_law_1222 (ci_sq (pe_inc rfl) rfl) ?_
  exact IH _ _ hr
set_option maxRecDepth 100000 in
theorem law_c19 {K V : Nat → Nat} {L : Nat} {xs : Nat → Int32} (hL : L ≤ 2560) {i : Int} (hi : 0 ≤ i ∧ i + 5 ≤ (L : Int)) {ρ τ : pm} (h : Rel ρ τ) (IH : ∀ ρ' τ', Rel ρ' τ' → cl_T K V L xs (fun _ => True) yL_law cL_law 4 (some .boolean) 12 18 ([(3, .int (Int32.ofInt (i + 5))), (2, .ref 63), (1, .ref 1), (0, .ref 0)], [], pk true ρ' τ') lawP) : cl_T K V L xs (fun _ => True) yL_law cL_law 4 (some .boolean) 12 725 ([(3, .int (Int32.ofInt i)), (2, .ref 63), (1, .ref 1), (0, .ref 0)], [], pk true ρ τ) lawP := by
  obtain ⟨r, ρ', τ', h1, h2, hr⟩ := k_together h (sx_R xs (i + 1)) (sx_R xs (i + 2))
  refine cl_T.step cb_L_law_725 (ci_sq rfl (ci_sq rfl (ci_sq rfl (ci_sq (pe_push lq_1) pe_iadd)))) ?_
  refine cl_sld (by decide +kernel) rfl (by omega) (by omega) ?_
  refine cl_T.step cb_L_law_731 (ci_sq rfl (ci_sq rfl (ci_sq (pe_push lq_2) pe_iadd))) ?_
  refine cl_sld (by decide +kernel) rfl (by omega) (by omega) ?_
  refine cl_T.call (as := [_, _, _]) (rest := []) kc_X8_together ki_X8_together (by decide) cl_L_law_736 rfl (Nat.le_of_ble_eq_true rfl) ⟨⟨_, rfl⟩, _, _, _, rfl, pk_obj tq_0 rfl _ _⟩ (s_X8_together 5 _ h1) ?_
  rintro _ _ ⟨rfl, rfl⟩
  refine cl_T.step cb_L_law_739 (ci_sq rfl (ci_sq rfl (ci_sq rfl (ci_sq rfl (ci_sq (pe_push lq_1) pe_iadd))))) ?_
  refine cl_sld (by decide +kernel) rfl (by omega) (by omega) ?_
  refine cl_T.step cb_L_law_746 (ci_sq rfl (ci_sq rfl (ci_sq (pe_push lq_2) pe_iadd))) ?_
  refine cl_sld (by decide +kernel) rfl (by omega) (by omega) ?_
  rw [pk_sw]
  refine cl_T.call (as := [_, _, _]) (rest := []) kc_X9_together ki_X9_together (by decide) cl_L_law_751 rfl (Nat.le_of_ble_eq_true rfl) ⟨⟨_, rfl⟩, _, _, _, rfl, pk_obj tq_62 rfl _ _⟩ (s_X9_together 5 _ h2) ?_
  rintro _ _ ⟨rfl, rfl⟩
  rw [← pk_sw]
  refine cl_T.step cb_L_law_754 (ci_sq rfl rfl) ?_
  refine cl_T.step cb_L_law_1222 (ci_sq (pe_inc rfl) rfl) ?_
  exact IH _ _ hr
set_option maxRecDepth 100000 in
theorem law_c20 {K V : Nat → Nat} {L : Nat} {xs : Nat → Int32} (hL : L ≤ 2560) {i : Int} (hi : 0 ≤ i ∧ i + 5 ≤ (L : Int)) {ρ τ : pm} (h : Rel ρ τ) (IH : ∀ ρ' τ', Rel ρ' τ' → cl_T K V L xs (fun _ => True) yL_law cL_law 4 (some .boolean) 12 18 ([(3, .int (Int32.ofInt (i + 5))), (2, .ref 63), (1, .ref 1), (0, .ref 0)], [], pk true ρ' τ') lawP) : cl_T K V L xs (fun _ => True) yL_law cL_law 4 (some .boolean) 12 758 ([(3, .int (Int32.ofInt i)), (2, .ref 63), (1, .ref 1), (0, .ref 0)], [], pk true ρ τ) lawP := by
  obtain ⟨r, ρ', τ', h1, h2, hr⟩ := k_selfish h (sx_R xs (i + 1))
  refine cl_T.step cb_L_law_758 (ci_sq rfl (ci_sq rfl (ci_sq rfl (ci_sq (pe_push lq_1) pe_iadd)))) ?_
  refine cl_sld (by decide +kernel) rfl (by omega) (by omega) ?_
  refine cl_T.call (as := [_, _]) (rest := []) kc_X8_selfish ki_X8_selfish (by decide) cl_L_law_764 rfl (Nat.le_of_ble_eq_true rfl) ⟨⟨_, rfl⟩, _, _, _, rfl, pk_obj tq_0 rfl _ _⟩ (s_X8_selfish 4 _ h1) ?_
  rintro _ _ ⟨rfl, rfl⟩
  refine cl_T.step cb_L_law_767 (ci_sq rfl (ci_sq rfl (ci_sq rfl (ci_sq rfl (ci_sq (pe_push lq_1) pe_iadd))))) ?_
  refine cl_sld (by decide +kernel) rfl (by omega) (by omega) ?_
  rw [pk_sw]
  refine cl_T.call (as := [_, _]) (rest := []) kc_X9_selfish ki_X9_selfish (by decide) cl_L_law_774 rfl (Nat.le_of_ble_eq_true rfl) ⟨⟨_, rfl⟩, _, _, _, rfl, pk_obj tq_62 rfl _ _⟩ (s_X9_selfish 2 _ h2) ?_
  rintro _ _ ⟨rfl, rfl⟩
  rw [← pk_sw]
  refine cl_T.step cb_L_law_777 (ci_sq rfl rfl) ?_
  refine cl_T.step cb_L_law_1222 (ci_sq (pe_inc rfl) rfl) ?_
  exact IH _ _ hr
set_option maxRecDepth 100000 in
theorem law_c21 {K V : Nat → Nat} {L : Nat} {xs : Nat → Int32} (hL : L ≤ 2560) {i : Int} (hi : 0 ≤ i ∧ i + 5 ≤ (L : Int)) {ρ τ : pm} (h : Rel ρ τ) (IH : ∀ ρ' τ', Rel ρ' τ' → cl_T K V L xs (fun _ => True) yL_law cL_law 4 (some .boolean) 12 18 ([(3, .int (Int32.ofInt (i + 5))), (2, .ref 63), (1, .ref 1), (0, .ref 0)], [], pk true ρ' τ') lawP) : cl_T K V L xs (fun _ => True) yL_law cL_law 4 (some .boolean) 12 781 ([(3, .int (Int32.ofInt i)), (2, .ref 63), (1, .ref 1), (0, .ref 0)], [], pk true ρ τ) lawP := by
  obtain ⟨r, ρ', τ', h1, h2, hr⟩ := k_rests h (sx_R xs (i + 1))
  refine cl_T.step cb_L_law_781 (ci_sq rfl (ci_sq rfl (ci_sq rfl (ci_sq (pe_push lq_1) pe_iadd)))) ?_
  refine cl_sld (by decide +kernel) rfl (by omega) (by omega) ?_
  refine cl_T.call (as := [_, _]) (rest := []) kc_X8_rests ki_X8_rests (by decide) cl_L_law_787 rfl (Nat.le_of_ble_eq_true rfl) ⟨⟨_, rfl⟩, _, _, _, rfl, pk_obj tq_0 rfl _ _⟩ (s_X8_rests 5 _ h1) ?_
  rintro _ _ ⟨rfl, rfl⟩
  refine cl_T.step cb_L_law_790 (ci_sq rfl (ci_sq rfl (ci_sq rfl (ci_sq rfl (ci_sq (pe_push lq_1) pe_iadd))))) ?_
  refine cl_sld (by decide +kernel) rfl (by omega) (by omega) ?_
  rw [pk_sw]
  refine cl_T.call (as := [_, _]) (rest := []) kc_X9_rests ki_X9_rests (by decide) cl_L_law_797 rfl (Nat.le_of_ble_eq_true rfl) ⟨⟨_, rfl⟩, _, _, _, rfl, pk_obj tq_62 rfl _ _⟩ (s_X9_rests 4 _ h2) ?_
  rintro _ _ ⟨rfl, rfl⟩
  rw [← pk_sw]
  refine cl_T.step cb_L_law_800 (ci_sq rfl rfl) ?_
  refine cl_T.step cb_L_law_1222 (ci_sq (pe_inc rfl) rfl) ?_
  exact IH _ _ hr
set_option maxRecDepth 100000 in
theorem law_c22 {K V : Nat → Nat} {L : Nat} {xs : Nat → Int32} (hL : L ≤ 2560) {i : Int} (hi : 0 ≤ i ∧ i + 5 ≤ (L : Int)) {ρ τ : pm} (h : Rel ρ τ) (IH : ∀ ρ' τ', Rel ρ' τ' → cl_T K V L xs (fun _ => True) yL_law cL_law 4 (some .boolean) 12 18 ([(3, .int (Int32.ofInt (i + 5))), (2, .ref 63), (1, .ref 1), (0, .ref 0)], [], pk true ρ' τ') lawP) : cl_T K V L xs (fun _ => True) yL_law cL_law 4 (some .boolean) 12 804 ([(3, .int (Int32.ofInt i)), (2, .ref 63), (1, .ref 1), (0, .ref 0)], [], pk true ρ τ) lawP := by
  obtain ⟨r, ρ', τ', h1, h2, hr⟩ := k_breaks h (sx_R xs (i + 1))
  refine cl_T.step cb_L_law_804 (ci_sq rfl (ci_sq rfl (ci_sq rfl (ci_sq (pe_push lq_1) pe_iadd)))) ?_
  refine cl_sld (by decide +kernel) rfl (by omega) (by omega) ?_
  refine cl_T.call (as := [_, _]) (rest := []) kc_X8_breaks ki_X8_breaks (by decide) cl_L_law_810 rfl (Nat.le_of_ble_eq_true rfl) ⟨⟨_, rfl⟩, _, _, _, rfl, pk_obj tq_0 rfl _ _⟩ (s_X8_breaks 5 _ h1) ?_
  rintro _ _ ⟨rfl, rfl⟩
  refine cl_T.step cb_L_law_813 (ci_sq rfl (ci_sq rfl (ci_sq rfl (ci_sq rfl (ci_sq (pe_push lq_1) pe_iadd))))) ?_
  refine cl_sld (by decide +kernel) rfl (by omega) (by omega) ?_
  rw [pk_sw]
  refine cl_T.call (as := [_, _]) (rest := []) kc_X9_breaks ki_X9_breaks (by decide) cl_L_law_820 rfl (Nat.le_of_ble_eq_true rfl) ⟨⟨_, rfl⟩, _, _, _, rfl, pk_obj tq_62 rfl _ _⟩ (s_X9_breaks 4 _ h2) ?_
  rintro _ _ ⟨rfl, rfl⟩
  rw [← pk_sw]
  refine cl_T.step cb_L_law_823 (ci_sq rfl rfl) ?_
  refine cl_T.step cb_L_law_1222 (ci_sq (pe_inc rfl) rfl) ?_
  exact IH _ _ hr
set_option maxRecDepth 100000 in
theorem law_c23 {K V : Nat → Nat} {L : Nat} {xs : Nat → Int32} (hL : L ≤ 2560) {i : Int} (hi : 0 ≤ i ∧ i + 5 ≤ (L : Int)) {ρ τ : pm} (h : Rel ρ τ) (IH : ∀ ρ' τ', Rel ρ' τ' → cl_T K V L xs (fun _ => True) yL_law cL_law 4 (some .boolean) 12 18 ([(3, .int (Int32.ofInt (i + 5))), (2, .ref 63), (1, .ref 1), (0, .ref 0)], [], pk true ρ' τ') lawP) : cl_T K V L xs (fun _ => True) yL_law cL_law 4 (some .boolean) 12 827 ([(3, .int (Int32.ofInt i)), (2, .ref 63), (1, .ref 1), (0, .ref 0)], [], pk true ρ τ) lawP := by
  obtain ⟨r, ρ', τ', h1, h2, hr⟩ := k_stands h (sx_R xs (i + 1))
  refine cl_T.step cb_L_law_827 (ci_sq rfl (ci_sq rfl (ci_sq rfl (ci_sq (pe_push lq_1) pe_iadd)))) ?_
  refine cl_sld (by decide +kernel) rfl (by omega) (by omega) ?_
  refine cl_T.call (as := [_, _]) (rest := []) kc_X8_stands ki_X8_stands (by decide) cl_L_law_833 rfl (Nat.le_of_ble_eq_true rfl) ⟨⟨_, rfl⟩, _, _, _, rfl, pk_obj tq_0 rfl _ _⟩ (s_X8_stands 7 _ h1) ?_
  rintro _ _ ⟨rfl, rfl⟩
  refine cl_T.step cb_L_law_836 (ci_sq rfl (ci_sq rfl (ci_sq rfl (ci_sq rfl (ci_sq (pe_push lq_1) pe_iadd))))) ?_
  refine cl_sld (by decide +kernel) rfl (by omega) (by omega) ?_
  rw [pk_sw]
  refine cl_T.call (as := [_, _]) (rest := []) kc_X9_stands ki_X9_stands (by decide) cl_L_law_843 rfl (Nat.le_of_ble_eq_true rfl) ⟨⟨_, rfl⟩, _, _, _, rfl, pk_obj tq_62 rfl _ _⟩ (s_X9_stands 7 _ h2) ?_
  rintro _ _ ⟨rfl, rfl⟩
  rw [← pk_sw]
  refine cl_T.step cb_L_law_846 (ci_sq rfl rfl) ?_
  refine cl_T.step cb_L_law_1222 (ci_sq (pe_inc rfl) rfl) ?_
  exact IH _ _ hr
set_option maxRecDepth 100000 in
theorem law_c24 {K V : Nat → Nat} {L : Nat} {xs : Nat → Int32} (hL : L ≤ 2560) {i : Int} (hi : 0 ≤ i ∧ i + 5 ≤ (L : Int)) {ρ τ : pm} (h : Rel ρ τ) (IH : ∀ ρ' τ', Rel ρ' τ' → cl_T K V L xs (fun _ => True) yL_law cL_law 4 (some .boolean) 12 18 ([(3, .int (Int32.ofInt (i + 5))), (2, .ref 63), (1, .ref 1), (0, .ref 0)], [], pk true ρ' τ') lawP) : cl_T K V L xs (fun _ => True) yL_law cL_law 4 (some .boolean) 12 850 ([(3, .int (Int32.ofInt i)), (2, .ref 63), (1, .ref 1), (0, .ref 0)], [], pk true ρ τ) lawP := by
  obtain ⟨r, ρ', τ', h1, h2, hr⟩ := k_again h (sx_R xs (i + 1))
  refine cl_T.step cb_L_law_850 (ci_sq rfl (ci_sq rfl (ci_sq rfl (ci_sq (pe_push lq_1) pe_iadd)))) ?_
  refine cl_sld (by decide +kernel) rfl (by omega) (by omega) ?_
  refine cl_T.call (as := [_, _]) (rest := []) kc_X8_again ki_X8_again (by decide) cl_L_law_856 rfl (Nat.le_of_ble_eq_true rfl) ⟨⟨_, rfl⟩, _, _, _, rfl, pk_obj tq_0 rfl _ _⟩ (s_X8_again 7 _ h1) ?_
  rintro _ _ ⟨rfl, rfl⟩
  refine cl_T.step cb_L_law_859 (ci_sq rfl (ci_sq rfl (ci_sq rfl (ci_sq rfl (ci_sq (pe_push lq_1) pe_iadd))))) ?_
  refine cl_sld (by decide +kernel) rfl (by omega) (by omega) ?_
  rw [pk_sw]
  refine cl_T.call (as := [_, _]) (rest := []) kc_X9_again ki_X9_again (by decide) cl_L_law_866 rfl (Nat.le_of_ble_eq_true rfl) ⟨⟨_, rfl⟩, _, _, _, rfl, pk_obj tq_62 rfl _ _⟩ (s_X9_again 7 _ h2) ?_
  rintro _ _ ⟨rfl, rfl⟩
  rw [← pk_sw]
  refine cl_T.step cb_L_law_869 (ci_sq rfl rfl) ?_
  refine cl_T.step cb_L_law_1222 (ci_sq (pe_inc rfl) rfl) ?_
  exact IH _ _ hr
set_option maxRecDepth 100000 in
theorem law_c25 {K V : Nat → Nat} {L : Nat} {xs : Nat → Int32} (hL : L ≤ 2560) {i : Int} (hi : 0 ≤ i ∧ i + 5 ≤ (L : Int)) {ρ τ : pm} (h : Rel ρ τ) (IH : ∀ ρ' τ', Rel ρ' τ' → cl_T K V L xs (fun _ => True) yL_law cL_law 4 (some .boolean) 12 18 ([(3, .int (Int32.ofInt (i + 5))), (2, .ref 63), (1, .ref 1), (0, .ref 0)], [], pk true ρ' τ') lawP) : cl_T K V L xs (fun _ => True) yL_law cL_law 4 (some .boolean) 12 873 ([(3, .int (Int32.ofInt i)), (2, .ref 63), (1, .ref 1), (0, .ref 0)], [], pk true ρ τ) lawP := by
  obtain ⟨r, ρ', τ', h1, h2, hr⟩ := k_odds h (sx_R xs (i + 1)) (sx_R xs (i + 2))
  refine cl_T.step cb_L_law_873 (ci_sq rfl (ci_sq rfl (ci_sq rfl (ci_sq (pe_push lq_1) pe_iadd)))) ?_
  refine cl_sld (by decide +kernel) rfl (by omega) (by omega) ?_
  refine cl_T.step cb_L_law_879 (ci_sq rfl (ci_sq rfl (ci_sq (pe_push lq_2) pe_iadd))) ?_
  refine cl_sld (by decide +kernel) rfl (by omega) (by omega) ?_
  refine cl_T.call (as := [_, _, _]) (rest := []) kc_X8_odds ki_X8_odds (by decide) cl_L_law_884 rfl (Nat.le_of_ble_eq_true rfl) ⟨⟨_, rfl⟩, _, _, _, rfl, pk_obj tq_0 rfl _ _⟩ (s_X8_odds 5 _ h1) ?_
  rintro _ _ ⟨rfl, rfl⟩
  refine cl_pop2 (by decide +kernel) rfl ?_
  refine cl_T.step cb_L_law_888 (ci_sq rfl (ci_sq rfl (ci_sq rfl (ci_sq (pe_push lq_1) pe_iadd)))) ?_
  refine cl_sld (by decide +kernel) rfl (by omega) (by omega) ?_
  refine cl_T.step cb_L_law_894 (ci_sq rfl (ci_sq rfl (ci_sq (pe_push lq_2) pe_iadd))) ?_
  refine cl_sld (by decide +kernel) rfl (by omega) (by omega) ?_
  rw [pk_sw]
  refine cl_T.call (as := [_, _, _]) (rest := []) kc_X9_odds ki_X9_odds (by decide) cl_L_law_899 rfl (Nat.le_of_ble_eq_true rfl) ⟨⟨_, rfl⟩, _, _, _, rfl, pk_obj tq_62 rfl _ _⟩ (s_X9_odds 5 _ h2) ?_
  rintro _ _ ⟨rfl, rfl⟩
  rw [← pk_sw]
  refine cl_pop2 (by decide +kernel) rfl ?_
  refine cl_T.step cb_L_law_903 rfl ?_
  refine cl_T.step cb_L_law_1222 (ci_sq (pe_inc rfl) rfl) ?_
  exact IH _ _ hr
set_option maxRecDepth 100000 in
theorem law_c26 {K V : Nat → Nat} {L : Nat} {xs : Nat → Int32} (hL : L ≤ 2560) {i : Int} (hi : 0 ≤ i ∧ i + 5 ≤ (L : Int)) {ρ τ : pm} (h : Rel ρ τ) (IH : ∀ ρ' τ', Rel ρ' τ' → cl_T K V L xs (fun _ => True) yL_law cL_law 4 (some .boolean) 12 18 ([(3, .int (Int32.ofInt (i + 5))), (2, .ref 63), (1, .ref 1), (0, .ref 0)], [], pk true ρ' τ') lawP) : cl_T K V L xs (fun _ => True) yL_law cL_law 4 (some .boolean) 12 906 ([(3, .int (Int32.ofInt i)), (2, .ref 63), (1, .ref 1), (0, .ref 0)], [], pk true ρ τ) lawP := by
  by_cases z : sx xs (i + 2) = 0
  · obtain ⟨r, ρ', τ', h1, h2, hr⟩ := k_see h (sx_R xs (i + 1)) (Or.inl rfl)
    refine cl_T.step cb_L_law_906 (ci_sq rfl (ci_sq rfl (ci_sq rfl (ci_sq (pe_push lq_1) pe_iadd)))) ?_
    refine cl_sld (by decide +kernel) rfl (by omega) (by omega) ?_
    refine cl_T.step cb_L_law_912 (ci_sq rfl (ci_sq rfl (ci_sq (pe_push lq_2) pe_iadd))) ?_
    refine cl_sld (by decide +kernel) rfl (by omega) (by omega) ?_
    refine cl_T.step cb_L_law_917 (pe_if_eq (sx_R _ _)) ?_
    rw [decide_eq_true z]
    refine cl_T.step cb_L_law_924 (pe_push lq_0) ?_
    refine cl_T.call (as := [_, _, _]) (rest := []) kc_X8_see ki_X8_see (by decide) cl_L_law_925 rfl (Nat.le_of_ble_eq_true rfl) ⟨⟨_, rfl⟩, _, _, _, rfl, pk_obj tq_0 rfl _ _⟩ (s_X8_see 10 _ h1) ?_
    rintro _ _ ⟨rfl, rfl⟩
    refine cl_T.step cb_L_law_928 (ci_sq rfl (ci_sq rfl (ci_sq rfl (ci_sq rfl (ci_sq (pe_push lq_1) pe_iadd))))) ?_
    refine cl_sld (by decide +kernel) rfl (by omega) (by omega) ?_
    refine cl_T.step cb_L_law_935 (ci_sq rfl (ci_sq rfl (ci_sq (pe_push lq_2) pe_iadd))) ?_
    refine cl_sld (by decide +kernel) rfl (by omega) (by omega) ?_
    refine cl_T.step cb_L_law_940 (pe_if_eq (sx_R _ _)) ?_
    rw [decide_eq_true z]
    refine cl_T.step cb_L_law_947 (pe_push lq_0) ?_
    rw [pk_sw]
    refine cl_T.call (as := [_, _, _]) (rest := []) kc_X9_see ki_X9_see (by decide) cl_L_law_948 rfl (Nat.le_of_ble_eq_true rfl) ⟨⟨_, rfl⟩, _, _, _, rfl, pk_obj tq_62 rfl _ _⟩ (s_X9_see 9 _ h2) ?_
    rintro _ _ ⟨rfl, rfl⟩
    rw [← pk_sw]
    refine cl_T.step cb_L_law_951 (ci_sq rfl rfl) ?_
    refine cl_T.step cb_L_law_1222 (ci_sq (pe_inc rfl) rfl) ?_
    exact IH _ _ hr
  · obtain ⟨r, ρ', τ', h1, h2, hr⟩ := k_see h (sx_R xs (i + 1)) (Or.inr rfl)
    refine cl_T.step cb_L_law_906 (ci_sq rfl (ci_sq rfl (ci_sq rfl (ci_sq (pe_push lq_1) pe_iadd)))) ?_
    refine cl_sld (by decide +kernel) rfl (by omega) (by omega) ?_
    refine cl_T.step cb_L_law_912 (ci_sq rfl (ci_sq rfl (ci_sq (pe_push lq_2) pe_iadd))) ?_
    refine cl_sld (by decide +kernel) rfl (by omega) (by omega) ?_
    refine cl_T.step cb_L_law_917 (pe_if_eq (sx_R _ _)) ?_
    rw [decide_eq_false z]
    refine cl_T.step cb_L_law_920 (ci_sq (pe_push lq_1) rfl) ?_
    refine cl_T.call (as := [_, _, _]) (rest := []) kc_X8_see ki_X8_see (by decide) cl_L_law_925 rfl (Nat.le_of_ble_eq_true rfl) ⟨⟨_, rfl⟩, _, _, _, rfl, pk_obj tq_0 rfl _ _⟩ (s_X8_see 10 _ h1) ?_
    rintro _ _ ⟨rfl, rfl⟩
    refine cl_T.step cb_L_law_928 (ci_sq rfl (ci_sq rfl (ci_sq rfl (ci_sq rfl (ci_sq (pe_push lq_1) pe_iadd))))) ?_
    refine cl_sld (by decide +kernel) rfl (by omega) (by omega) ?_
    refine cl_T.step cb_L_law_935 (ci_sq rfl (ci_sq rfl (ci_sq (pe_push lq_2) pe_iadd))) ?_
    refine cl_sld (by decide +kernel) rfl (by omega) (by omega) ?_
    refine cl_T.step cb_L_law_940 (pe_if_eq (sx_R _ _)) ?_
    rw [decide_eq_false z]
    refine cl_T.step cb_L_law_943 (ci_sq (pe_push lq_1) rfl) ?_
    rw [pk_sw]
    refine cl_T.call (as := [_, _, _]) (rest := []) kc_X9_see ki_X9_see (by decide) cl_L_law_948 rfl (Nat.le_of_ble_eq_true rfl) ⟨⟨_, rfl⟩, _, _, _, rfl, pk_obj tq_62 rfl _ _⟩ (s_X9_see 9 _ h2) ?_
    rintro _ _ ⟨rfl, rfl⟩
    rw [← pk_sw]
    refine cl_T.step cb_L_law_951 (ci_sq rfl rfl) ?_
    refine cl_T.step cb_L_law_1222 (ci_sq (pe_inc rfl) rfl) ?_
    exact IH _ _ hr
set_option maxRecDepth 100000 in
theorem law_c27 {K V : Nat → Nat} {L : Nat} {xs : Nat → Int32} (hL : L ≤ 2560) {i : Int} (hi : 0 ≤ i ∧ i + 5 ≤ (L : Int)) {ρ τ : pm} (h : Rel ρ τ) (IH : ∀ ρ' τ', Rel ρ' τ' → cl_T K V L xs (fun _ => True) yL_law cL_law 4 (some .boolean) 12 18 ([(3, .int (Int32.ofInt (i + 5))), (2, .ref 63), (1, .ref 1), (0, .ref 0)], [], pk true ρ' τ') lawP) : cl_T K V L xs (fun _ => True) yL_law cL_law 4 (some .boolean) 12 955 ([(3, .int (Int32.ofInt i)), (2, .ref 63), (1, .ref 1), (0, .ref 0)], [], pk true ρ τ) lawP := by
  obtain ⟨r, ρ', τ', h1, h2, hr⟩ := k_forget h (sx_R xs (i + 1))
  refine cl_T.step cb_L_law_955 (ci_sq rfl (ci_sq rfl (ci_sq rfl (ci_sq (pe_push lq_1) pe_iadd)))) ?_
  refine cl_sld (by decide +kernel) rfl (by omega) (by omega) ?_
  refine cl_T.call (as := [_, _]) (rest := []) kc_X8_forget ki_X8_forget (by decide) cl_L_law_961 rfl (Nat.le_of_ble_eq_true rfl) ⟨⟨_, rfl⟩, _, _, _, rfl, pk_obj tq_0 rfl _ _⟩ (s_X8_forget 11 _ h1) ?_
  rintro _ _ ⟨rfl, rfl⟩
  refine cl_T.step cb_L_law_964 (ci_sq rfl (ci_sq rfl (ci_sq rfl (ci_sq rfl (ci_sq (pe_push lq_1) pe_iadd))))) ?_
  refine cl_sld (by decide +kernel) rfl (by omega) (by omega) ?_
  rw [pk_sw]
  refine cl_T.call (as := [_, _]) (rest := []) kc_X9_forget ki_X9_forget (by decide) cl_L_law_971 rfl (Nat.le_of_ble_eq_true rfl) ⟨⟨_, rfl⟩, _, _, _, rfl, pk_obj tq_62 rfl _ _⟩ (s_X9_forget 10 _ h2) ?_
  rintro _ _ ⟨rfl, rfl⟩
  rw [← pk_sw]
  refine cl_T.step cb_L_law_974 (ci_sq rfl rfl) ?_
  refine cl_T.step cb_L_law_1222 (ci_sq (pe_inc rfl) rfl) ?_
  exact IH _ _ hr
set_option maxRecDepth 100000 in
theorem law_c28 {K V : Nat → Nat} {L : Nat} {xs : Nat → Int32} (hL : L ≤ 2560) {i : Int} (hi : 0 ≤ i ∧ i + 5 ≤ (L : Int)) {ρ τ : pm} (h : Rel ρ τ) (IH : ∀ ρ' τ', Rel ρ' τ' → cl_T K V L xs (fun _ => True) yL_law cL_law 4 (some .boolean) 12 18 ([(3, .int (Int32.ofInt (i + 5))), (2, .ref 63), (1, .ref 1), (0, .ref 0)], [], pk true ρ' τ') lawP) : cl_T K V L xs (fun _ => True) yL_law cL_law 4 (some .boolean) 12 978 ([(3, .int (Int32.ofInt i)), (2, .ref 63), (1, .ref 1), (0, .ref 0)], [], pk true ρ τ) lawP := by
  obtain ⟨r, ρ', τ', h1, h2, hr⟩ := k_fits h (sx_R xs (i + 1))
  refine cl_T.step cb_L_law_978 (ci_sq rfl (ci_sq rfl (ci_sq rfl (ci_sq (pe_push lq_1) pe_iadd)))) ?_
  refine cl_sld (by decide +kernel) rfl (by omega) (by omega) ?_
  refine cl_T.call (as := [_, _]) (rest := []) kc_X8_fits ki_X8_fits (by decide) cl_L_law_984 rfl (Nat.le_of_ble_eq_true rfl) ⟨⟨_, rfl⟩, _, _, _, rfl, pk_obj tq_0 rfl _ _⟩ (s_X8_fits 5 _ h1) ?_
  rintro _ _ ⟨rfl, rfl⟩
  refine cl_T.step cb_L_law_987 (ci_sq rfl (ci_sq rfl (ci_sq rfl (ci_sq rfl (ci_sq (pe_push lq_1) pe_iadd))))) ?_
  refine cl_sld (by decide +kernel) rfl (by omega) (by omega) ?_
  rw [pk_sw]
  refine cl_T.call (as := [_, _]) (rest := []) kc_X9_fits ki_X9_fits (by decide) cl_L_law_994 rfl (Nat.le_of_ble_eq_true rfl) ⟨⟨_, rfl⟩, _, _, _, rfl, pk_obj tq_62 rfl _ _⟩ (s_X9_fits 5 _ h2) ?_
  rintro _ _ ⟨rfl, rfl⟩
  rw [← pk_sw]
  refine cl_T.step cb_L_law_997 (ci_sq rfl rfl) ?_
  refine cl_T.step cb_L_law_1222 (ci_sq (pe_inc rfl) rfl) ?_
  exact IH _ _ hr
set_option maxRecDepth 100000 in
theorem law_c29 {K V : Nat → Nat} {L : Nat} {xs : Nat → Int32} (hL : L ≤ 2560) {i : Int} (hi : 0 ≤ i ∧ i + 5 ≤ (L : Int)) {ρ τ : pm} (h : Rel ρ τ) (IH : ∀ ρ' τ', Rel ρ' τ' → cl_T K V L xs (fun _ => True) yL_law cL_law 4 (some .boolean) 12 18 ([(3, .int (Int32.ofInt (i + 5))), (2, .ref 63), (1, .ref 1), (0, .ref 0)], [], pk true ρ' τ') lawP) : cl_T K V L xs (fun _ => True) yL_law cL_law 4 (some .boolean) 12 1001 ([(3, .int (Int32.ofInt i)), (2, .ref 63), (1, .ref 1), (0, .ref 0)], [], pk true ρ τ) lawP := by
  obtain ⟨r, ρ', τ', h1, h2, hr⟩ := k_keep h (sx_R xs (i + 1))
  refine cl_T.step cb_L_law_1001 (ci_sq rfl (ci_sq rfl (ci_sq rfl (ci_sq (pe_push lq_1) pe_iadd)))) ?_
  refine cl_sld (by decide +kernel) rfl (by omega) (by omega) ?_
  refine cl_T.call (as := [_, _]) (rest := []) kc_X8_keep ki_X8_keep (by decide) cl_L_law_1007 rfl (Nat.le_of_ble_eq_true rfl) ⟨⟨_, rfl⟩, _, _, _, rfl, pk_obj tq_0 rfl _ _⟩ (s_X8_keep 9 _ h1) ?_
  rintro _ _ ⟨rfl, rfl⟩
  refine cl_T.step cb_L_law_1010 (ci_sq rfl (ci_sq rfl (ci_sq rfl (ci_sq rfl (ci_sq (pe_push lq_1) pe_iadd))))) ?_
  refine cl_sld (by decide +kernel) rfl (by omega) (by omega) ?_
  rw [pk_sw]
  refine cl_T.call (as := [_, _]) (rest := []) kc_X9_keep ki_X9_keep (by decide) cl_L_law_1017 rfl (Nat.le_of_ble_eq_true rfl) ⟨⟨_, rfl⟩, _, _, _, rfl, pk_obj tq_62 rfl _ _⟩ (s_X9_keep 10 _ h2) ?_
  rintro _ _ ⟨rfl, rfl⟩
  rw [← pk_sw]
  refine cl_T.step cb_L_law_1020 (ci_sq rfl rfl) ?_
  refine cl_T.step cb_L_law_1222 (ci_sq (pe_inc rfl) rfl) ?_
  exact IH _ _ hr
set_option maxRecDepth 100000 in
theorem law_c30 {K V : Nat → Nat} {L : Nat} {xs : Nat → Int32} (hL : L ≤ 2560) {i : Int} (hi : 0 ≤ i ∧ i + 5 ≤ (L : Int)) {ρ τ : pm} (h : Rel ρ τ) (IH : ∀ ρ' τ', Rel ρ' τ' → cl_T K V L xs (fun _ => True) yL_law cL_law 4 (some .boolean) 12 18 ([(3, .int (Int32.ofInt (i + 5))), (2, .ref 63), (1, .ref 1), (0, .ref 0)], [], pk true ρ' τ') lawP) : cl_T K V L xs (fun _ => True) yL_law cL_law 4 (some .boolean) 12 1024 ([(3, .int (Int32.ofInt i)), (2, .ref 63), (1, .ref 1), (0, .ref 0)], [], pk true ρ τ) lawP := by
  obtain ⟨r, ρ', τ', h1, h2, hr⟩ := k_back h (sx_R xs (i + 1))
  refine cl_T.step cb_L_law_1024 (ci_sq rfl (ci_sq rfl (ci_sq rfl (ci_sq (pe_push lq_1) pe_iadd)))) ?_
  refine cl_sld (by decide +kernel) rfl (by omega) (by omega) ?_
  refine cl_T.call (as := [_, _]) (rest := []) kc_X8_back ki_X8_back (by decide) cl_L_law_1030 rfl (Nat.le_of_ble_eq_true rfl) ⟨⟨_, rfl⟩, _, _, _, rfl, pk_obj tq_0 rfl _ _⟩ (s_X8_back 9 _ h1) ?_
  rintro _ _ ⟨rfl, rfl⟩
  refine cl_T.step cb_L_law_1033 (ci_sq rfl (ci_sq rfl (ci_sq rfl (ci_sq rfl (ci_sq (pe_push lq_1) pe_iadd))))) ?_
  refine cl_sld (by decide +kernel) rfl (by omega) (by omega) ?_
  rw [pk_sw]
  refine cl_T.call (as := [_, _]) (rest := []) kc_X9_back ki_X9_back (by decide) cl_L_law_1040 rfl (Nat.le_of_ble_eq_true rfl) ⟨⟨_, rfl⟩, _, _, _, rfl, pk_obj tq_62 rfl _ _⟩ (s_X9_back 10 _ h2) ?_
  rintro _ _ ⟨rfl, rfl⟩
  rw [← pk_sw]
  refine cl_T.step cb_L_law_1043 (ci_sq rfl rfl) ?_
  refine cl_T.step cb_L_law_1222 (ci_sq (pe_inc rfl) rfl) ?_
  exact IH _ _ hr
set_option maxRecDepth 100000 in
theorem law_c31 {K V : Nat → Nat} {L : Nat} {xs : Nat → Int32} (hL : L ≤ 2560) {i : Int} (hi : 0 ≤ i ∧ i + 5 ≤ (L : Int)) {ρ τ : pm} (h : Rel ρ τ) (IH : ∀ ρ' τ', Rel ρ' τ' → cl_T K V L xs (fun _ => True) yL_law cL_law 4 (some .boolean) 12 18 ([(3, .int (Int32.ofInt (i + 5))), (2, .ref 63), (1, .ref 1), (0, .ref 0)], [], pk true ρ' τ') lawP) : cl_T K V L xs (fun _ => True) yL_law cL_law 4 (some .boolean) 12 1047 ([(3, .int (Int32.ofInt i)), (2, .ref 63), (1, .ref 1), (0, .ref 0)], [], pk true ρ τ) lawP := by
  obtain ⟨r, ρ', τ', h1, h2, hr⟩ := k_sheet h (sx_R xs (i + 1)) (sx_R xs (i + 2)) (sx_R xs (i + 3))
  refine cl_T.step cb_L_law_1047 (ci_sq rfl (ci_sq rfl (ci_sq rfl (ci_sq (pe_push lq_1) pe_iadd)))) ?_
  refine cl_sld (by decide +kernel) rfl (by omega) (by omega) ?_
  refine cl_T.step cb_L_law_1053 (ci_sq rfl (ci_sq rfl (ci_sq (pe_push lq_2) pe_iadd))) ?_
  refine cl_sld (by decide +kernel) rfl (by omega) (by omega) ?_
  refine cl_T.step cb_L_law_1058 (ci_sq rfl (ci_sq rfl (ci_sq (pe_push lq_3) pe_iadd))) ?_
  refine cl_sld (by decide +kernel) rfl (by omega) (by omega) ?_
  refine cl_T.call (as := [_, _, _, _]) (rest := []) kc_X8_sheet ki_X8_sheet (by decide) cl_L_law_1063 rfl (Nat.le_of_ble_eq_true rfl) ⟨⟨_, rfl⟩, _, _, _, rfl, pk_obj tq_0 rfl _ _⟩ (s_X8_sheet 10 _ h1) ?_
  rintro _ _ ⟨rfl, rfl⟩
  refine cl_T.step cb_L_law_1066 (ci_sq rfl (ci_sq rfl (ci_sq rfl (ci_sq rfl (ci_sq (pe_push lq_1) pe_iadd))))) ?_
  refine cl_sld (by decide +kernel) rfl (by omega) (by omega) ?_
  refine cl_T.step cb_L_law_1073 (ci_sq rfl (ci_sq rfl (ci_sq (pe_push lq_2) pe_iadd))) ?_
  refine cl_sld (by decide +kernel) rfl (by omega) (by omega) ?_
  refine cl_T.step cb_L_law_1078 (ci_sq rfl (ci_sq rfl (ci_sq (pe_push lq_3) pe_iadd))) ?_
  refine cl_sld (by decide +kernel) rfl (by omega) (by omega) ?_
  rw [pk_sw]
  refine cl_T.call (as := [_, _, _, _]) (rest := []) kc_X9_sheet ki_X9_sheet (by decide) cl_L_law_1083 rfl (Nat.le_of_ble_eq_true rfl) ⟨⟨_, rfl⟩, _, _, _, rfl, pk_obj tq_62 rfl _ _⟩ (s_X9_sheet 9 _ h2) ?_
  rintro _ _ ⟨rfl, rfl⟩
  rw [← pk_sw]
  refine cl_T.step cb_L_law_1086 (ci_sq rfl rfl) ?_
  refine cl_T.step cb_L_law_1222 (ci_sq (pe_inc rfl) rfl) ?_
  exact IH _ _ hr
set_option maxRecDepth 100000 in
theorem law_c32 {K V : Nat → Nat} {L : Nat} {xs : Nat → Int32} (hL : L ≤ 2560) {i : Int} (hi : 0 ≤ i ∧ i + 5 ≤ (L : Int)) {ρ τ : pm} (h : Rel ρ τ) (IH : ∀ ρ' τ', Rel ρ' τ' → cl_T K V L xs (fun _ => True) yL_law cL_law 4 (some .boolean) 12 18 ([(3, .int (Int32.ofInt (i + 5))), (2, .ref 63), (1, .ref 1), (0, .ref 0)], [], pk true ρ' τ') lawP) : cl_T K V L xs (fun _ => True) yL_law cL_law 4 (some .boolean) 12 1090 ([(3, .int (Int32.ofInt i)), (2, .ref 63), (1, .ref 1), (0, .ref 0)], [], pk true ρ τ) lawP := by
  obtain ⟨r, ρ', τ', h1, h2, hr⟩ := k_lay h (sx_R xs (i + 1)) (sx_R xs (i + 2)) (sx_R xs (i + 3))
  refine cl_T.step cb_L_law_1090 (ci_sq rfl (ci_sq rfl (ci_sq rfl (ci_sq (pe_push lq_1) pe_iadd)))) ?_
  refine cl_sld (by decide +kernel) rfl (by omega) (by omega) ?_
  refine cl_T.step cb_L_law_1096 (ci_sq rfl (ci_sq rfl (ci_sq (pe_push lq_2) pe_iadd))) ?_
  refine cl_sld (by decide +kernel) rfl (by omega) (by omega) ?_
  refine cl_T.step cb_L_law_1101 (ci_sq rfl (ci_sq rfl (ci_sq (pe_push lq_3) pe_iadd))) ?_
  refine cl_sld (by decide +kernel) rfl (by omega) (by omega) ?_
  refine cl_T.call (as := [_, _, _, _]) (rest := []) kc_X8_lay ki_X8_lay (by decide) cl_L_law_1106 rfl (Nat.le_of_ble_eq_true rfl) ⟨⟨_, rfl⟩, _, _, _, rfl, pk_obj tq_0 rfl _ _⟩ (s_X8_lay 10 _ h1) ?_
  rintro _ _ ⟨rfl, rfl⟩
  refine cl_T.step cb_L_law_1109 (ci_sq rfl (ci_sq rfl (ci_sq rfl (ci_sq rfl (ci_sq (pe_push lq_1) pe_iadd))))) ?_
  refine cl_sld (by decide +kernel) rfl (by omega) (by omega) ?_
  refine cl_T.step cb_L_law_1116 (ci_sq rfl (ci_sq rfl (ci_sq (pe_push lq_2) pe_iadd))) ?_
  refine cl_sld (by decide +kernel) rfl (by omega) (by omega) ?_
  refine cl_T.step cb_L_law_1121 (ci_sq rfl (ci_sq rfl (ci_sq (pe_push lq_3) pe_iadd))) ?_
  refine cl_sld (by decide +kernel) rfl (by omega) (by omega) ?_
  rw [pk_sw]
  refine cl_T.call (as := [_, _, _, _]) (rest := []) kc_X9_lay ki_X9_lay (by decide) cl_L_law_1126 rfl (Nat.le_of_ble_eq_true rfl) ⟨⟨_, rfl⟩, _, _, _, rfl, pk_obj tq_62 rfl _ _⟩ (s_X9_lay 9 _ h2) ?_
  rintro _ _ ⟨rfl, rfl⟩
  rw [← pk_sw]
  refine cl_T.step cb_L_law_1129 (ci_sq rfl rfl) ?_
  refine cl_T.step cb_L_law_1222 (ci_sq (pe_inc rfl) rfl) ?_
  exact IH _ _ hr
set_option maxRecDepth 100000 in
theorem law_c33 {K V : Nat → Nat} {L : Nat} {xs : Nat → Int32} (hL : L ≤ 2560) {i : Int} (hi : 0 ≤ i ∧ i + 5 ≤ (L : Int)) {ρ τ : pm} (h : Rel ρ τ) (IH : ∀ ρ' τ', Rel ρ' τ' → cl_T K V L xs (fun _ => True) yL_law cL_law 4 (some .boolean) 12 18 ([(3, .int (Int32.ofInt (i + 5))), (2, .ref 63), (1, .ref 1), (0, .ref 0)], [], pk true ρ' τ') lawP) : cl_T K V L xs (fun _ => True) yL_law cL_law 4 (some .boolean) 12 1133 ([(3, .int (Int32.ofInt i)), (2, .ref 63), (1, .ref 1), (0, .ref 0)], [], pk true ρ τ) lawP := by
  obtain ⟨r, ρ', τ', h1, h2, hr⟩ := k_read h (sx_R xs (i + 1)) (sx_R xs (i + 2)) (sx_R xs (i + 3)) (sx_R xs (i + 4))
  refine cl_T.step cb_L_law_1133 (ci_sq rfl (ci_sq rfl (ci_sq rfl (ci_sq (pe_push lq_1) pe_iadd)))) ?_
  refine cl_sld (by decide +kernel) rfl (by omega) (by omega) ?_
  refine cl_T.step cb_L_law_1139 (ci_sq rfl (ci_sq rfl (ci_sq (pe_push lq_2) pe_iadd))) ?_
  refine cl_sld (by decide +kernel) rfl (by omega) (by omega) ?_
  refine cl_T.step cb_L_law_1144 (ci_sq rfl (ci_sq rfl (ci_sq (pe_push lq_3) pe_iadd))) ?_
  refine cl_sld (by decide +kernel) rfl (by omega) (by omega) ?_
  refine cl_T.step cb_L_law_1149 (ci_sq rfl (ci_sq rfl (ci_sq (pe_push lq_4) pe_iadd))) ?_
  refine cl_sld (by decide +kernel) rfl (by omega) (by omega) ?_
  refine cl_T.call (as := [_, _, _, _, _]) (rest := []) kc_X8_read ki_X8_read (by decide) cl_L_law_1154 rfl (Nat.le_of_ble_eq_true rfl) ⟨⟨_, rfl⟩, _, _, _, rfl, pk_obj tq_0 rfl _ _⟩ (s_X8_read 6 _ h1) ?_
  rintro _ _ ⟨rfl, rfl⟩
  refine cl_T.step cb_L_law_1157 (ci_sq rfl (ci_sq rfl (ci_sq rfl (ci_sq rfl (ci_sq (pe_push lq_1) pe_iadd))))) ?_
  refine cl_sld (by decide +kernel) rfl (by omega) (by omega) ?_
  refine cl_T.step cb_L_law_1164 (ci_sq rfl (ci_sq rfl (ci_sq (pe_push lq_2) pe_iadd))) ?_
  refine cl_sld (by decide +kernel) rfl (by omega) (by omega) ?_
  refine cl_T.step cb_L_law_1169 (ci_sq rfl (ci_sq rfl (ci_sq (pe_push lq_3) pe_iadd))) ?_
  refine cl_sld (by decide +kernel) rfl (by omega) (by omega) ?_
  refine cl_T.step cb_L_law_1174 (ci_sq rfl (ci_sq rfl (ci_sq (pe_push lq_4) pe_iadd))) ?_
  refine cl_sld (by decide +kernel) rfl (by omega) (by omega) ?_
  rw [pk_sw]
  refine cl_T.call (as := [_, _, _, _, _]) (rest := []) kc_X9_read ki_X9_read (by decide) cl_L_law_1179 rfl (Nat.le_of_ble_eq_true rfl) ⟨⟨_, rfl⟩, _, _, _, rfl, pk_obj tq_62 rfl _ _⟩ (s_X9_read 3 _ h2) ?_
  rintro _ _ ⟨rfl, rfl⟩
  rw [← pk_sw]
  refine cl_T.step cb_L_law_1182 (ci_sq rfl rfl) ?_
  refine cl_T.step cb_L_law_1222 (ci_sq (pe_inc rfl) rfl) ?_
  exact IH _ _ hr
set_option maxRecDepth 100000 in
theorem law_c34 {K V : Nat → Nat} {L : Nat} {xs : Nat → Int32} (hL : L ≤ 2560) {i : Int} (hi : 0 ≤ i ∧ i + 5 ≤ (L : Int)) {ρ τ : pm} (h : Rel ρ τ) (IH : ∀ ρ' τ', Rel ρ' τ' → cl_T K V L xs (fun _ => True) yL_law cL_law 4 (some .boolean) 12 18 ([(3, .int (Int32.ofInt (i + 5))), (2, .ref 63), (1, .ref 1), (0, .ref 0)], [], pk true ρ' τ') lawP) : cl_T K V L xs (fun _ => True) yL_law cL_law 4 (some .boolean) 12 1186 ([(3, .int (Int32.ofInt i)), (2, .ref 63), (1, .ref 1), (0, .ref 0)], [], pk true ρ τ) lawP := by
  obtain ⟨r, h1, h2⟩ := k_torn h
  refine cl_T.step cb_L_law_1186 rfl ?_
  refine cl_T.call (as := [_]) (rest := []) kc_X8_torn ki_X8_torn (by decide) cl_L_law_1187 rfl (Nat.le_of_ble_eq_true rfl) ⟨⟨_, rfl⟩, _, _, _, rfl, pk_obj tq_0 rfl _ _⟩ (s_X8_torn 11 _ h1) ?_
  rintro _ _ ⟨rfl, rfl⟩
  refine cl_T.step cb_L_law_1190 (ci_sq rfl rfl) ?_
  rw [pk_sw]
  refine cl_T.call (as := [_]) (rest := []) kc_X9_torn ki_X9_torn (by decide) cl_L_law_1192 rfl (Nat.le_of_ble_eq_true rfl) ⟨⟨_, rfl⟩, _, _, _, rfl, pk_obj tq_62 rfl _ _⟩ (s_X9_torn 11 _ h2) ?_
  rintro _ _ ⟨rfl, rfl⟩
  rw [← pk_sw]
  refine cl_T.step cb_L_law_1195 (ci_sq rfl rfl) ?_
  refine cl_T.step cb_L_law_1222 (ci_sq (pe_inc rfl) rfl) ?_
  exact IH _ _ h
set_option maxRecDepth 100000 in
theorem law_c35 {K V : Nat → Nat} {L : Nat} {xs : Nat → Int32} (hL : L ≤ 2560) {i : Int} (hi : 0 ≤ i ∧ i + 5 ≤ (L : Int)) {ρ τ : pm} (h : Rel ρ τ) (IH : ∀ ρ' τ', Rel ρ' τ' → cl_T K V L xs (fun _ => True) yL_law cL_law 4 (some .boolean) 12 18 ([(3, .int (Int32.ofInt (i + 5))), (2, .ref 63), (1, .ref 1), (0, .ref 0)], [], pk true ρ' τ') lawP) : cl_T K V L xs (fun _ => True) yL_law cL_law 4 (some .boolean) 12 1199 ([(3, .int (Int32.ofInt i)), (2, .ref 63), (1, .ref 1), (0, .ref 0)], [], pk true ρ τ) lawP := by
  obtain ⟨r, τ', h1, h2, hr⟩ := k_count h (sx_R xs (i + 1))
  refine cl_T.step cb_L_law_1199 (ci_sq rfl (ci_sq rfl (ci_sq rfl (ci_sq (pe_push lq_1) pe_iadd)))) ?_
  refine cl_sld (by decide +kernel) rfl (by omega) (by omega) ?_
  refine cl_T.call (as := [_, _]) (rest := []) kc_X8_count ki_X8_count (by decide) cl_L_law_1205 rfl (Nat.le_of_ble_eq_true rfl) ⟨⟨_, rfl⟩, _, _, _, rfl, pk_obj tq_0 rfl _ _⟩ (s_X8_count 7 _ h1) ?_
  rintro _ _ ⟨rfl, rfl⟩
  refine cl_T.step cb_L_law_1208 (ci_sq rfl (ci_sq rfl (ci_sq rfl (ci_sq (pe_push lq_1) pe_iadd)))) ?_
  refine cl_sld (by decide +kernel) rfl (by omega) (by omega) ?_
  rw [pk_sw]
  refine cl_T.call (as := [_, _]) (rest := [.int (Int32.ofInt r)]) kc_X9_count ki_X9_count (by decide) cl_L_law_1214 rfl (Nat.le_of_ble_eq_true rfl) ⟨⟨_, rfl⟩, _, _, _, rfl, pk_obj tq_62 rfl _ _⟩ (s_X9_count 5 _ h2) ?_
  rintro _ _ ⟨rfl, rfl⟩
  rw [← pk_sw]
  refine cl_T.step cb_L_law_1217 lq_same ?_
  refine cl_T.step cb_L_law_1222 (ci_sq (pe_inc rfl) rfl) ?_
  exact IH _ _ hr
