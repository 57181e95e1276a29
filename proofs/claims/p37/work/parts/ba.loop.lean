/-! the law: its loop -/
set_option maxRecDepth 100000 in
theorem law_loop {K V : Nat → Nat} {L : Nat} {xs : Nat → Int32} (hL : L ≤ 2560) : ∀ (n : Nat) (i : Int) (ρ τ : pm), (L : Int) ≤ i + (n : Int) → 0 ≤ i → i ≤ 2565 → Rel ρ τ → cl_T K V L xs (fun _ => True) yL_law cL_law 4 (some .boolean) 12 18 ([(3, .int (Int32.ofInt i)), (2, .ref 63), (1, .ref 1), (0, .ref 0)], [], pk true ρ τ) lawP := by
  have fin : ∀ (i : Int) (ρ τ : pm), cl_T K V L xs (fun _ => True) yL_law cL_law 4 (some .boolean) 12 1228 ([(3, .int (Int32.ofInt i)), (2, .ref 63), (1, .ref 1), (0, .ref 0)], [], pk true ρ τ) lawP := fun i ρ τ => by
    refine cl_T.step cb_L_law_1228 rfl ?_
    exact cl_T.done (v := some (.int 1)) cd_L_law_1229 rfl
  intro n
  induction n with
  | zero =>
    intro i ρ τ hn h0 h1 h
    refine cl_T.step cb_L_law_18 (ci_sq rfl rfl) ?_
    refine cl_slen (by decide +kernel) rfl ?_
    refine cl_T.step cb_L_law_21 (ci_sq (pe_push lq_5) (ci_sq pe_isub (pe_ic_gt ⟨by omega, by omega⟩ ⟨by omega, by omega⟩))) ?_
    rw [decide_eq_true (show (L : Int) - 5 < i by omega)]
    exact fin i ρ τ
  | succ n ih =>
    intro i ρ τ hn h0 h1 h
    refine cl_T.step cb_L_law_18 (ci_sq rfl rfl) ?_
    refine cl_slen (by decide +kernel) rfl ?_
    refine cl_T.step cb_L_law_21 (ci_sq (pe_push lq_5) (ci_sq pe_isub (pe_ic_gt ⟨by omega, by omega⟩ ⟨by omega, by omega⟩))) ?_
    by_cases z : (L : Int) - 5 < i
    · rw [decide_eq_true z]
      exact fin i ρ τ
    · rw [decide_eq_false z]
      have hi : 0 ≤ i ∧ i + 5 ≤ (L : Int) := by omega
      have IH : ∀ ρ' τ', Rel ρ' τ' → cl_T K V L xs (fun _ => True) yL_law cL_law 4 (some .boolean) 12 18 ([(3, .int (Int32.ofInt (i + 5))), (2, .ref 63), (1, .ref 1), (0, .ref 0)], [], pk true ρ' τ') lawP := fun ρ' τ' hr => ih (i + 5) ρ' τ' (by omega) (by omega) (by omega) hr
      refine cl_T.step cb_L_law_26 (ci_sq rfl rfl) ?_
      refine cl_sld (by decide +kernel) rfl (by omega) (by omega) ?_
      refine cl_T.step cb_L_law_29 (ci_sq (pe_push lq_63) (ci_sq pe_iand (pe_tsw (band_R _ _) rfl))) ?_
      generalize band (sx xs i) 63 = x
      by_cases e0 : x = 0
      · rw [e0]
        exact law_c0 hL hi h IH
      by_cases e1 : x = 1
      · rw [e1]
        exact law_c1 hL hi h IH
      by_cases e2 : x = 2
      · rw [e2]
        exact law_c2 hL hi h IH
      by_cases e3 : x = 3
      · rw [e3]
        exact law_c3 hL hi h IH
      by_cases e4 : x = 4
      · rw [e4]
        exact law_c4 hL hi h IH
      by_cases e5 : x = 5
      · rw [e5]
        exact law_c5 hL hi h IH
      by_cases e6 : x = 6
      · rw [e6]
        exact law_c6 hL hi h IH
      by_cases e7 : x = 7
      · rw [e7]
        exact law_c7 hL hi h IH
      by_cases e8 : x = 8
      · rw [e8]
        exact law_c8 hL hi h IH
      by_cases e9 : x = 9
      · rw [e9]
        exact law_c9 hL hi h IH
      by_cases e10 : x = 10
      · rw [e10]
        exact law_c10 hL hi h IH
      by_cases e11 : x = 11
      · rw [e11]
        exact law_c11 hL hi h IH
      by_cases e12 : x = 12
      · rw [e12]
        exact law_c12 hL hi h IH
      by_cases e13 : x = 13
      · rw [e13]
        exact law_c13 hL hi h IH
      by_cases e14 : x = 14
      · rw [e14]
        exact law_c14 hL hi h IH
      by_cases e15 : x = 15
      · rw [e15]
        exact law_c15 hL hi h IH
      by_cases e16 : x = 16
      · rw [e16]
        exact law_c16 hL hi h IH
      by_cases e17 : x = 17
      · rw [e17]
        exact law_c17 hL hi h IH
      by_cases e18 : x = 18
      · rw [e18]
        exact law_c18 hL hi h IH
      by_cases e19 : x = 19
      · rw [e19]
        exact law_c19 hL hi h IH
      by_cases e20 : x = 20
      · rw [e20]
        exact law_c20 hL hi h IH
      by_cases e21 : x = 21
      · rw [e21]
        exact law_c21 hL hi h IH
      by_cases e22 : x = 22
      · rw [e22]
        exact law_c22 hL hi h IH
      by_cases e23 : x = 23
      · rw [e23]
        exact law_c23 hL hi h IH
      by_cases e24 : x = 24
      · rw [e24]
        exact law_c24 hL hi h IH
      by_cases e25 : x = 25
      · rw [e25]
        exact law_c25 hL hi h IH
      by_cases e26 : x = 26
      · rw [e26]
        exact law_c26 hL hi h IH
      by_cases e27 : x = 27
      · rw [e27]
        exact law_c27 hL hi h IH
      by_cases e28 : x = 28
      · rw [e28]
        exact law_c28 hL hi h IH
      by_cases e29 : x = 29
      · rw [e29]
        exact law_c29 hL hi h IH
      by_cases e30 : x = 30
      · rw [e30]
        exact law_c30 hL hi h IH
      by_cases e31 : x = 31
      · rw [e31]
        exact law_c31 hL hi h IH
      by_cases e32 : x = 32
      · rw [e32]
        exact law_c32 hL hi h IH
      by_cases e33 : x = 33
      · rw [e33]
        exact law_c33 hL hi h IH
      by_cases e34 : x = 34
      · rw [e34]
        exact law_c34 hL hi h IH
      by_cases e35 : x = 35
      · rw [e35]
        exact law_c35 hL hi h IH
      rw [tswp_df (hi := 35) rfl (by omega)]
      refine cl_T.step cb_L_law_1222 (ci_sq (pe_inc rfl) rfl) ?_
      exact IH _ _ h
