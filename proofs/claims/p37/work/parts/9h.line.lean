/-! which line it is, of both -/
theorem lineNowR {ρ τ : pm} (tp : TpR ρ τ) (h : TokR ρ τ) (k1 : ρ 50 3 = 1) : ∃ k, f_X9_lineNow τ = some k ∧ f_X1_takeLine ρ = tkL k ρ ∧ (k = -4 ∨ (0 ≤ k ∧ k ≤ 6)) := by
  have h' := h
  obtain ⟨b1, b2, b3, b4, b5, b6, b7, b8, b9, b10⟩ := h'
  have t1 := tp.1
  obtain ⟨n, en⟩ : ∃ n, n = ρ 50 2 - ρ 50 4 := ⟨_, rfl⟩
  obtain ⟨p, ep⟩ : ∃ p, p = ρ 50 4 := ⟨_, rfl⟩
  obtain ⟨x, ex⟩ : ∃ x : Int → Int, x = lkB (τ 70) (ρ 50 1) := ⟨_, rfl⟩
  have hp : 0 ≤ ρ 50 4 ∧ ρ 50 4 ≤ 320 ∧ 0 ≤ ρ 50 2 ∧ ρ 50 2 ≤ 320 := by omega
  have hq : 0 ≤ ρ 50 4 ∧ ρ 50 4 ≤ 320 := by omega
  have im := fun (n a b c : Int) (hn : inR n) (ha : inR a) (hb : inR b) (hc : inR c) => isM tp b4 b5 hp hn ha hb hc
  have em := fun (a b c : Int) (ha : inR a) (hb : inR b) (hc : inR c) => endsM tp b5 hq ha hb hc
  rw [← ex, ← en, ← ep] at im
  rw [← ex, ← ep] at em
  have sy := fun (w : List Int) (Q : Prop) [Decidable Q] (hc : ∀ c ∈ w, 0 ≤ c ∧ c < 128) (hQ : Q ↔ (n = (w.length : Int) ∧ eqL x w p)) => saysC tp h k1 (w := w) (Q := Q) hc (by rw [← en, ← ex, ← ep]; exact hQ)
  have s1 := sy w_plain (n = 5 ∧ x p = 112 ∧ x (p + 1) = 108 ∧ x (p + 2) = 97 ∧ x (p + 3) = 105 ∧ x (p + 4) = 110) (by decide) (by
    simp only [w_plain, eqL, List.length_cons, List.length_nil, and_true, show p + 1 + 1 = p + 2 by omega, show p + 2 + 1 = p + 3 by omega, show p + 3 + 1 = p + 4 by omega, show p + 4 + 1 = p + 5 by omega]
    omega)
  have s2 := sy w_row (n = 3 ∧ x p = 114 ∧ x (p + 1) = 111 ∧ x (p + 2) = 119) (by decide) (by
    simp only [w_row, eqL, List.length_cons, List.length_nil, and_true, show p + 1 + 1 = p + 2 by omega, show p + 2 + 1 = p + 3 by omega, show p + 3 + 1 = p + 4 by omega, show p + 4 + 1 = p + 5 by omega]
    omega)
  have s3 := sy w_spring (n = 6 ∧ x p = 115 ∧ x (p + 1) = 112 ∧ x (p + 2) = 114 ∧ x (p + 3) = 105 ∧ x (p + 4) = 110 ∧ x (p + 5) = 103) (by decide) (by
    simp only [w_spring, eqL, List.length_cons, List.length_nil, and_true, show p + 1 + 1 = p + 2 by omega, show p + 2 + 1 = p + 3 by omega, show p + 3 + 1 = p + 4 by omega, show p + 4 + 1 = p + 5 by omega]
    omega)
  have s4 := sy w_farm (n = 4 ∧ x p = 102 ∧ x (p + 1) = 97 ∧ x (p + 2) = 114 ∧ x (p + 3) = 109) (by decide) (by
    simp only [w_farm, eqL, List.length_cons, List.length_nil, and_true, show p + 1 + 1 = p + 2 by omega, show p + 2 + 1 = p + 3 by omega, show p + 3 + 1 = p + 4 by omega, show p + 4 + 1 = p + 5 by omega]
    omega)
  have s5 := sy w_ground (n = 6 ∧ x p = 103 ∧ x (p + 1) = 114 ∧ x (p + 2) = 111 ∧ x (p + 3) = 117 ∧ x (p + 4) = 110 ∧ x (p + 5) = 100) (by decide) (by
    simp only [w_ground, eqL, List.length_cons, List.length_nil, and_true, show p + 1 + 1 = p + 2 by omega, show p + 2 + 1 = p + 3 by omega, show p + 3 + 1 = p + 4 by omega, show p + 4 + 1 = p + 5 by omega]
    omega)
  have s6 := sy w_law (n = 3 ∧ x p = 108 ∧ x (p + 1) = 97 ∧ x (p + 2) = 119) (by decide) (by
    simp only [w_law, eqL, List.length_cons, List.length_nil, and_true, show p + 1 + 1 = p + 2 by omega, show p + 2 + 1 = p + 3 by omega, show p + 3 + 1 = p + 4 by omega, show p + 4 + 1 = p + 5 by omega]
    omega)
  have s7 := sy w_silt (n = 4 ∧ x p = 115 ∧ x (p + 1) = 105 ∧ x (p + 2) = 108 ∧ x (p + 3) = 116) (by decide) (by
    simp only [w_silt, eqL, List.length_cons, List.length_nil, and_true, show p + 1 + 1 = p + 2 by omega, show p + 2 + 1 = p + 3 by omega, show p + 3 + 1 = p + 4 by omega, show p + 4 + 1 = p + 5 by omega]
    omega)
  have eL : f_X1_takeLine ρ = if (n = 5 ∧ x p = 112 ∧ x (p + 1) = 108 ∧ x (p + 2) = 97 ∧ x (p + 3) = 105 ∧ x (p + 4) = 110) then f_X1_takePlain ρ else if (n = 3 ∧ x p = 114 ∧ x (p + 1) = 111 ∧ x (p + 2) = 119) then f_X1_takeRow ρ else if (n = 6 ∧ x p = 115 ∧ x (p + 1) = 112 ∧ x (p + 2) = 114 ∧ x (p + 3) = 105 ∧ x (p + 4) = 110 ∧ x (p + 5) = 103) then f_X1_takeSpring ρ else if (n = 4 ∧ x p = 102 ∧ x (p + 1) = 97 ∧ x (p + 2) = 114 ∧ x (p + 3) = 109) then f_X1_takeFarm ρ else if (n = 6 ∧ x p = 103 ∧ x (p + 1) = 114 ∧ x (p + 2) = 111 ∧ x (p + 3) = 117 ∧ x (p + 4) = 110 ∧ x (p + 5) = 100) then f_X1_takeGround ρ else if (n = 3 ∧ x p = 108 ∧ x (p + 1) = 97 ∧ x (p + 2) = 119) then f_X1_takeLaw ρ else if (n = 4 ∧ x p = 115 ∧ x (p + 1) = 105 ∧ x (p + 2) = 108 ∧ x (p + 3) = 116) then f_X1_takeSilt ρ else f_X6_fail 2 ρ := by
    unfold f_X1_takeLine
    rw [s1, bI, s2, bI, s3, bI, s4, bI, s5, bI, s6, bI, s7, bI, bS, bS, bS, bS, bS, bS, bS, bS]
  have eR : f_X9_ruleLine τ = some (if (n = 5 ∧ x p = 112 ∧ x (p + 1) = 108 ∧ x (p + 2) = 97 ∧ x (p + 3) = 105 ∧ x (p + 4) = 110) then 0 else if (n = 6 ∧ x p = 115 ∧ x (p + 1) = 112 ∧ x (p + 2) = 114 ∧ x (p + 3) = 105 ∧ x (p + 4) = 110 ∧ x (p + 5) = 103) then 1 else if (n = 3 ∧ x p = 108 ∧ x (p + 1) = 97 ∧ x (p + 2) = 119) then 2 else if (n = 4 ∧ x p = 115 ∧ x (p + 1) = 105 ∧ x (p + 2) = 108 ∧ x (p + 3) = 116) then 3 else -4) := by
    unfold f_X9_ruleLine
    dsimp only [jn]
    rw [im 5 112 108 97 (by decide) (by decide) (by decide) (by decide), im 6 115 112 114 (by decide) (by decide) (by decide) (by decide), im 3 108 97 119 (by decide) (by decide) (by decide) (by decide), im 4 115 105 108 (by decide) (by decide) (by decide) (by decide), em 116 0 0 (by decide) (by decide) (by decide), em 105 110 103 (by decide) (by decide) (by decide), em 105 110 0 (by decide) (by decide) (by decide)]
    simp only [bI, true_or, and_true, show ((110 : Int) = 0) = False from eq_false (by decide), show ((103 : Int) = 0) = False from eq_false (by decide), show ((100 : Int) = 0) = False from eq_false (by decide), false_or]
    generalize x p = x0
    generalize x (p + 1) = x1
    generalize x (p + 2) = x2
    generalize x (p + 3) = x3
    generalize x (p + 4) = x4
    generalize x (p + 5) = x5
    clear im em sy s1 s2 s3 s4 s5 s6 s7 eL
    by_cases q1 : n = 5 ∧ x0 = 112 ∧ x1 = 108 ∧ x2 = 97 ∧ x3 = 105 ∧ x4 = 110
    · rw [if_pos (by omega), if_pos (by omega), if_pos q1]
    · by_cases q3 : n = 6 ∧ x0 = 115 ∧ x1 = 112 ∧ x2 = 114 ∧ x3 = 105 ∧ x4 = 110 ∧ x5 = 103
      · rw [if_neg (show ¬ (n = 5 ∧ x0 = 112 ∧ x1 = 108 ∧ x2 = 97) by omega), if_pos (show n = 6 ∧ x0 = 115 ∧ x1 = 112 ∧ x2 = 114 by omega), if_pos (by omega), if_neg q1, if_pos q3]
      · by_cases q6 : n = 3 ∧ x0 = 108 ∧ x1 = 97 ∧ x2 = 119
        · rw [if_neg (show ¬ (n = 5 ∧ x0 = 112 ∧ x1 = 108 ∧ x2 = 97) by omega), if_neg (show ¬ (n = 6 ∧ x0 = 115 ∧ x1 = 112 ∧ x2 = 114) by omega), if_pos q6, if_neg q1, if_neg q3, if_pos q6]
        · by_cases q7 : n = 4 ∧ x0 = 115 ∧ x1 = 105 ∧ x2 = 108 ∧ x3 = 116
          · rw [if_neg (show ¬ (n = 5 ∧ x0 = 112 ∧ x1 = 108 ∧ x2 = 97) by omega), if_neg (show ¬ (n = 6 ∧ x0 = 115 ∧ x1 = 112 ∧ x2 = 114) by omega), if_neg q6, if_pos (by omega), if_pos (by omega), if_neg q1, if_neg q3, if_neg q6, if_pos q7]
          · have T : (if n = 3 ∧ x0 = 108 ∧ x1 = 97 ∧ x2 = 119 then some (2 : Int) else if n = 4 ∧ x0 = 115 ∧ x1 = 105 ∧ x2 = 108 then (if x3 = 116 then some 3 else some (-4)) else some (-4)) = some (-4) := by
              rw [if_neg q6]
              by_cases z : n = 4 ∧ x0 = 115 ∧ x1 = 105 ∧ x2 = 108
              · rw [if_pos z, if_neg (by omega)]
              · rw [if_neg z]
            rw [T, if_neg q1, if_neg q3, if_neg q6, if_neg q7]
            have T2 : (if n = 6 ∧ x0 = 115 ∧ x1 = 112 ∧ x2 = 114 then (if x3 = 105 ∧ x4 = 110 ∧ x5 = 103 then some 1 else some (-4)) else some (-4 : Int)) = some (-4) := by
              by_cases z : n = 6 ∧ x0 = 115 ∧ x1 = 112 ∧ x2 = 114
              · rw [if_pos z, if_neg (by omega)]
              · rw [if_neg z]
            rw [T2]
            by_cases z : n = 5 ∧ x0 = 112 ∧ x1 = 108 ∧ x2 = 97
            · rw [if_pos z, if_neg (by omega)]
            · rw [if_neg z]
  have eN : f_X9_lineNow τ = some (if (n = 3 ∧ x p = 114 ∧ x (p + 1) = 111 ∧ x (p + 2) = 119) then 4 else if (n = 4 ∧ x p = 102 ∧ x (p + 1) = 97 ∧ x (p + 2) = 114 ∧ x (p + 3) = 109) then 5 else if (n = 6 ∧ x p = 103 ∧ x (p + 1) = 114 ∧ x (p + 2) = 111 ∧ x (p + 3) = 117 ∧ x (p + 4) = 110 ∧ x (p + 5) = 100) then 6 else if (n = 5 ∧ x p = 112 ∧ x (p + 1) = 108 ∧ x (p + 2) = 97 ∧ x (p + 3) = 105 ∧ x (p + 4) = 110) then 0 else if (n = 6 ∧ x p = 115 ∧ x (p + 1) = 112 ∧ x (p + 2) = 114 ∧ x (p + 3) = 105 ∧ x (p + 4) = 110 ∧ x (p + 5) = 103) then 1 else if (n = 3 ∧ x p = 108 ∧ x (p + 1) = 97 ∧ x (p + 2) = 119) then 2 else if (n = 4 ∧ x p = 115 ∧ x (p + 1) = 105 ∧ x (p + 2) = 108 ∧ x (p + 3) = 116) then 3 else -4) := by
    unfold f_X9_lineNow
    dsimp only [jn]
    rw [eR, Option.bind_some, im 3 114 111 119 (by decide) (by decide) (by decide) (by decide), im 4 102 97 114 (by decide) (by decide) (by decide) (by decide), im 6 103 114 111 (by decide) (by decide) (by decide) (by decide), em 109 0 0 (by decide) (by decide) (by decide), em 117 110 100 (by decide) (by decide) (by decide)]
    simp only [bI, true_or, and_true, show ((110 : Int) = 0) = False from eq_false (by decide), show ((103 : Int) = 0) = False from eq_false (by decide), show ((100 : Int) = 0) = False from eq_false (by decide), false_or]
    generalize (if (n = 5 ∧ x p = 112 ∧ x (p + 1) = 108 ∧ x (p + 2) = 97 ∧ x (p + 3) = 105 ∧ x (p + 4) = 110) then (0 : Int) else if (n = 6 ∧ x p = 115 ∧ x (p + 1) = 112 ∧ x (p + 2) = 114 ∧ x (p + 3) = 105 ∧ x (p + 4) = 110 ∧ x (p + 5) = 103) then 1 else if (n = 3 ∧ x p = 108 ∧ x (p + 1) = 97 ∧ x (p + 2) = 119) then 2 else if (n = 4 ∧ x p = 115 ∧ x (p + 1) = 105 ∧ x (p + 2) = 108 ∧ x (p + 3) = 116) then 3 else -4) = r
    generalize x p = x0
    generalize x (p + 1) = x1
    generalize x (p + 2) = x2
    generalize x (p + 3) = x3
    generalize x (p + 4) = x4
    generalize x (p + 5) = x5
    clear im em sy s1 s2 s3 s4 s5 s6 s7 eL eR
    by_cases q2 : n = 3 ∧ x0 = 114 ∧ x1 = 111 ∧ x2 = 119
    · rw [if_pos q2, if_pos q2]
    · rw [if_neg q2, if_neg q2]
      have T : (if n = 6 ∧ x0 = 103 ∧ x1 = 114 ∧ x2 = 111 then (if x3 = 117 ∧ x4 = 110 ∧ x5 = 100 then some 6 else some r) else some r) = some (if (n = 6 ∧ x0 = 103 ∧ x1 = 114 ∧ x2 = 111 ∧ x3 = 117 ∧ x4 = 110 ∧ x5 = 100) then 6 else r) := by
        by_cases q5 : n = 6 ∧ x0 = 103 ∧ x1 = 114 ∧ x2 = 111 ∧ x3 = 117 ∧ x4 = 110 ∧ x5 = 100
        · rw [if_pos (by omega), if_pos (by omega), if_pos q5]
        · rw [if_neg q5]
          by_cases z : n = 6 ∧ x0 = 103 ∧ x1 = 114 ∧ x2 = 111
          · rw [if_pos z, if_neg (by omega)]
          · rw [if_neg z]
      rw [T]
      by_cases q4 : n = 4 ∧ x0 = 102 ∧ x1 = 97 ∧ x2 = 114 ∧ x3 = 109
      · rw [if_pos (by omega), if_pos (by omega), if_pos q4]
      · rw [if_neg q4]
        by_cases z : n = 4 ∧ x0 = 102 ∧ x1 = 97 ∧ x2 = 114
        · rw [if_pos z, if_neg (by omega)]
        · rw [if_neg z]
  refine ⟨_, eN, ?_, ?_⟩
  · rw [eL]
    generalize x p = x0
    generalize x (p + 1) = x1
    generalize x (p + 2) = x2
    generalize x (p + 3) = x3
    generalize x (p + 4) = x4
    generalize x (p + 5) = x5
    clear im em sy s1 s2 s3 s4 s5 s6 s7 eL eR eN
    unfold tkL
    by_cases q1 : n = 5 ∧ x0 = 112 ∧ x1 = 108 ∧ x2 = 97 ∧ x3 = 105 ∧ x4 = 110
    · rw [if_pos q1, if_neg (show ¬ (n = 3 ∧ x0 = 114 ∧ x1 = 111 ∧ x2 = 119) by omega), if_neg (show ¬ (n = 4 ∧ x0 = 102 ∧ x1 = 97 ∧ x2 = 114 ∧ x3 = 109) by omega), if_neg (show ¬ (n = 6 ∧ x0 = 103 ∧ x1 = 114 ∧ x2 = 111 ∧ x3 = 117 ∧ x4 = 110 ∧ x5 = 100) by omega), if_pos q1]
      rfl
    rw [if_neg q1]
    by_cases q2 : n = 3 ∧ x0 = 114 ∧ x1 = 111 ∧ x2 = 119
    · rw [if_pos q2, if_pos q2]
      rfl
    rw [if_neg q2, if_neg q2]
    by_cases q3 : n = 6 ∧ x0 = 115 ∧ x1 = 112 ∧ x2 = 114 ∧ x3 = 105 ∧ x4 = 110 ∧ x5 = 103
    · rw [if_pos q3, if_neg (show ¬ (n = 4 ∧ x0 = 102 ∧ x1 = 97 ∧ x2 = 114 ∧ x3 = 109) by omega), if_neg (show ¬ (n = 6 ∧ x0 = 103 ∧ x1 = 114 ∧ x2 = 111 ∧ x3 = 117 ∧ x4 = 110 ∧ x5 = 100) by omega), if_neg q1, if_pos q3]
      rfl
    rw [if_neg q3]
    by_cases q4 : n = 4 ∧ x0 = 102 ∧ x1 = 97 ∧ x2 = 114 ∧ x3 = 109
    · rw [if_pos q4, if_pos q4]
      rfl
    rw [if_neg q4, if_neg q4]
    by_cases q5 : n = 6 ∧ x0 = 103 ∧ x1 = 114 ∧ x2 = 111 ∧ x3 = 117 ∧ x4 = 110 ∧ x5 = 100
    · rw [if_pos q5, if_pos q5]
      rfl
    rw [if_neg q5, if_neg q5, if_neg q1, if_neg q3]
    by_cases q6 : n = 3 ∧ x0 = 108 ∧ x1 = 97 ∧ x2 = 119
    · rw [if_pos q6, if_pos q6]
      rfl
    rw [if_neg q6, if_neg q6]
    by_cases q7 : n = 4 ∧ x0 = 115 ∧ x1 = 105 ∧ x2 = 108 ∧ x3 = 116
    · rw [if_pos q7, if_pos q7]
      rfl
    rw [if_neg q7, if_neg q7]
    rfl
  · clear im em sy s1 s2 s3 s4 s5 s6 s7 eL eR eN
    split
    · omega
    · split
      · omega
      · split
        · omega
        · split
          · omega
          · split
            · omega
            · split
              · omega
              · split
                · omega
                · omega
/-! readLine() of the reference, in pieces -/
def rlTail (τ9 : pm) : Option pm := ck (inR (τ9 62 28)) (jn (fun (ρ : pm) => (f_X9_next ρ).bind (fun ρ11 => some ρ11)) (fun j144 => if (τ9 62 28) = 0 then ck (inR (τ9 62 26)) (jn (fun (s1 : Int) (ρ : pm) => (f_X9_needs s1 2 ρ).bind (fun ρ13 => j144 ρ13)) (fun j140 => if (τ9 62 26) = 3 then j140 1 τ9 else j140 0 τ9)) else j144 τ9))
def goOn (k : Int) (τ : pm) : Option pm := (f_X9_next τ).bind (fun τ7 => ck (inR (τ7 62 28)) (if (τ7 62 28) ≤ 0 then (f_X9_readLineOf k τ7).bind rlTail else some τ7))
theorem bad_tail {τ : pm} (h : 1 ≤ τ 62 28 ∧ τ 62 28 ≤ 6) : rlTail τ = some τ := by
  unfold rlTail
  dsimp only [jn]
  rw [ckp (show inR (τ 62 28) from ⟨by omega, by omega⟩), if_neg (by omega), bad_next h, Option.bind_some]
theorem bad_goOn {τ : pm} {k : Int} (h : 1 ≤ τ 62 28 ∧ τ 62 28 ≤ 6) : goOn k τ = some τ := by
  unfold goOn
  rw [bad_next h, Option.bind_some, ckp (show inR (τ 62 28) from ⟨by omega, by omega⟩), if_neg (by omega)]
theorem AhR.tail {ρ τ : pm} (h : AhR ρ τ) : ∃ ρ' τ', f_X6_nextStop ρ = some ρ' ∧ rlTail τ = some τ' ∧ tkC ρ ρ' ∧ tkM τ τ' ∧ (BadR ρ' τ' ∨ (AhR ρ' τ' ∧ ρ 50 2 < ρ' 50 2)) := by
  obtain ⟨ρ1, c1, c2, tp, c3, c4⟩ := h.next
  unfold f_X6_nextStop
  rw [c1, Option.bind_some]
  rcases c4 with ⟨b, b1⟩ | t
  · refine ⟨ρ1, τ, ?_, bad_tail b.2.1, c2, tkM.refl _, Or.inl b⟩
    rw [ckp (show inR (ρ1 50 6) from ⟨by have := b.1; omega, by have := b.1; omega⟩), if_neg (by have := b.1; omega)]
  · have t' := t
    obtain ⟨b1, b2, b3, b4, b5, b6, b7, b8, b9, b10⟩ := t'
    have r3 : inR (ρ1 50 3) := ⟨by omega, by omega⟩
    by_cases k : ρ1 50 3 = 3
    · obtain ⟨τ', m1, m2, m3⟩ := t.next tp
      refine ⟨ρ1, τ', ?_, ?_, c2, m2, Or.inr ⟨m3, by have := b8 (by omega); omega⟩⟩
      · rw [b1, ckp R_0, i00, ckp r3, if_pos k]
      · unfold rlTail
        dsimp only [jn]
        rw [b2, ckp R_0, i00, b3, ckp r3, if_pos k, needs_ok (by decide) (by decide), Option.bind_some, m1, Option.bind_some]
    · refine ⟨_, _, ?_, ?_, c2.trans (tk_failC _ _ _), tk_failM _ _ _, Or.inl (t.fails (c := 2) (d := 2) tp (by omega) (by omega))⟩
      · rw [b1, ckp R_0, i00, ckp r3, if_neg k, fail_eq, Option.bind_some]
      · unfold rlTail
        dsimp only [jn]
        rw [b2, ckp R_0, i00, b3, ckp r3, if_neg k, needs_no b2, Option.bind_some, bad_next (by rw [pup_off (by omega), pup_at]; omega), Option.bind_some]
theorem rl_eq (τ : pm) : f_X9_readLine τ = ck (inR (τ 62 26)) (jn (fun (s0 : Int) (ρ : pm) => ck (inR s0) (jn (fun (l1 s1 : Int) (ρ : pm) => (f_X9_needs s1 2 ρ).bind (fun ρ3 => ck (inR l1) (jn (fun (l1 s1 : Int) (ρ : pm) => (f_X9_needs s1 5 ρ).bind (fun ρ5 => ck (inR (ρ5 62 28)) (jn (fun (l1 : Int) (ρ : pm) => goOn l1 ρ) (fun j102 => if (ρ5 62 28) = 0 then ck (inR l1) (if 3 < l1 then j102 l1 ρ5 else jn (fun (l1 s1 : Int) (ρ : pm) => (f_X9_needs s1 4 ρ).bind (fun ρ15 => jn (pup ρ15 62 16 (bor (ρ15 62 16) (bshl 1 l1))) (fun ρ16 => j102 l1 ρ16))) (fun j86 => if (band (bshr (ρ5 62 16) l1) 1) = 0 then j86 l1 1 ρ5 else j86 l1 0 ρ5)) else j102 l1 ρ5)))) (fun j53 => jn (fun (l1 : Int) (ρ : pm) => j53 l1 1 ρ) (fun j48 => if l1 = 5 then ck (inR (ρ3 62 9)) (if 3 ≤ (ρ3 62 9) then j53 l1 0 ρ3 else j48 l1 ρ3) else j48 l1 ρ3))))) (fun j30 => if s0 = (-4) then j30 s0 0 ρ else j30 s0 1 ρ))) (fun j17 => if (τ 62 26) = 1 then (f_X9_lineNow τ).bind (fun v18 => j17 v18 τ) else j17 (-4) τ)) := rfl
theorem rl_none {τ : pm} (h28 : τ 62 28 = 0) (h26 : inR (τ 62 26)) (h : τ 62 26 ≠ 1 ∨ f_X9_lineNow τ = some (-4)) : f_X9_readLine τ = some (pup (pup τ 62 28 2) 62 29 (τ 62 25)) := by
  have e28 : (pup (pup τ 62 28 2) 62 29 (τ 62 25)) 62 28 = 2 := by rw [pup_off (by omega), pup_at]
  rw [rl_eq]
  dsimp only [jn]
  rw [ckp h26]
  by_cases k : τ 62 26 = 1
  · rw [if_pos k, h.resolve_left (fun z => z k), Option.bind_some, ckp (by decide), if_pos rfl, needs_no h28, Option.bind_some, ckp (by decide), if_neg (by decide), needs_ok (by decide) (by decide), Option.bind_some, e28, ckp (by decide), if_neg (by decide), bad_goOn (by omega)]
  · rw [if_neg k, ckp (by decide), if_pos rfl, needs_no h28, Option.bind_some, ckp (by decide), if_neg (by decide), needs_ok (by decide) (by decide), Option.bind_some, e28, ckp (by decide), if_neg (by decide), bad_goOn (by omega)]
theorem rl_of {τ : pm} {k : Int} (h28 : τ 62 28 = 0) (h26 : τ 62 26 = 1) (hk : f_X9_lineNow τ = some k) (k0 : 0 ≤ k ∧ k ≤ 6) (h9 : inR (τ 62 9)) : f_X9_readLine τ = if k = 5 ∧ 3 ≤ τ 62 9 then some (pup (pup τ 62 28 5) 62 29 (τ 62 25)) else if 3 < k then goOn k τ else if bt (τ 62 16) k = 0 then goOn k (pup τ 62 16 (bor (τ 62 16) (bshl 1 k))) else some (pup (pup (pup τ 62 28 4) 62 29 (τ 62 25)) 62 16 (bor (τ 62 16) (bshl 1 k))) := by
  have rk : inR k := ⟨by omega, by omega⟩
  rw [rl_eq]
  dsimp only [jn]
  rw [h26, ckp (by decide), if_pos rfl, hk, Option.bind_some, ckp rk, if_neg (by omega), needs_ok (by decide) (by decide), Option.bind_some, ckp rk]
  by_cases k5 : k = 5
  · rw [if_pos k5, ckp h9]
    by_cases f3 : 3 ≤ τ 62 9
    · rw [if_pos f3, if_pos ⟨k5, f3⟩, needs_no h28, Option.bind_some]
      have e28 : (pup (pup τ 62 28 5) 62 29 (τ 62 25)) 62 28 = 5 := by rw [pup_off (by omega), pup_at]
      rw [e28, ckp (by decide), if_neg (by decide), bad_goOn (by omega)]
    · rw [if_neg f3, if_neg (fun z => f3 z.2), needs_ok (by decide) (by decide), Option.bind_some, h28, ckp R_0, i00, ckp rk, if_pos (by omega)]
      rw [if_pos (by omega)]
  · rw [if_neg k5, if_neg (fun z => k5 z.1), needs_ok (by decide) (by decide), Option.bind_some, h28, ckp R_0, i00, ckp rk]
    by_cases k3 : 3 < k
    · rw [if_pos k3, if_pos k3]
    · rw [if_neg k3, if_neg k3]
      by_cases b : bt (τ 62 16) k = 0
      · rw [if_pos b, if_pos (show band (bshr (τ 62 16) k) 1 = 0 from b), needs_ok (by decide) (by decide), Option.bind_some]
      · rw [if_neg b, if_neg (show ¬ band (bshr (τ 62 16) k) 1 = 0 from b), needs_no h28, Option.bind_some]
        rw [show (pup (pup τ 62 28 4) 62 29 (τ 62 25)) 62 16 = τ 62 16 by rw [pup_off (by omega), pup_off (by omega)]]
        rw [bad_goOn (by rw [pup_off (by omega), pup_off (by omega), pup_at]; omega)]
