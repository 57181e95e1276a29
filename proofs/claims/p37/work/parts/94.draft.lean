/-! keepDraft() -/
theorem kd_zero {K : pm → Option pm} : ∀ (m n : Nat) (i : Int) (τ : pm), m + 1 ≤ n → i + (m : Int) = 56 → 0 ≤ i → ∃ τ', L_X9_keepDraft_2 K n i τ = K τ' ∧ (∀ q, q ≠ 63 → τ' q = τ q) ∧ (∀ j, i ≤ j → j < 56 → τ' 63 j = 0) ∧ (∀ j, (j < i ∨ 56 ≤ j) → τ' 63 j = τ 63 j) := by
  intro m
  induction m with
  | zero =>
    intro n i τ hn hi i0
    obtain ⟨x, rfl⟩ : ∃ x, n = x + 1 := ⟨n - 1, by omega⟩
    rw [L_X9_keepDraft_2, ckp (by omega), if_pos (by omega)]
    exact ⟨τ, rfl, fun _ _ => rfl, fun j j0 j1 => by omega, fun _ _ => rfl⟩
  | succ m ih =>
    intro n i τ hn hi i0
    obtain ⟨x, rfl⟩ : ∃ x, n = x + 1 := ⟨n - 1, by omega⟩
    rw [L_X9_keepDraft_2, ckp (by omega), if_neg (by omega), ckp (by omega), jn_eq, jn_eq]
    obtain ⟨τ', g1, g2, g3, g4⟩ := ih x (i + 1) (pup τ 63 i 0) (by omega) (by omega) (by omega)
    refine ⟨τ', g1, fun q hq => by rw [g2 q hq, pup_ne hq], fun j j0 j1 => ?_, fun j hj => by rw [g4 j (by omega), pup_off (by omega)]⟩
    by_cases e : j = i
    · rw [g4 j (by omega), e, pup_at]
    · exact g3 j (by omega) j1
theorem kd_cells {W H : Int} {K : pm → Option pm} (hw : wh W H) : ∀ (m n : Nat) (i : Int) (τ : pm), m + 1 ≤ n → i + (m : Int) = 25 → 0 ≤ i → τ 62 2 = W → τ 62 3 = H → ∃ τ', L_X9_keepDraft_47 K n i τ = K τ' ∧ (∀ q, q ≠ 63 → q ≠ 65 → τ' q = τ q) ∧ (∀ j, i ≤ j → j < 25 → τ' 65 j = τ 68 j ∧ τ' 63 j = hDr W H (τ 66) j) ∧ (∀ j, (j < i ∨ 25 ≤ j) → τ' 63 j = τ 63 j ∧ τ' 65 j = τ 65 j) := by
  have bd := hw.bd
  intro m
  induction m with
  | zero =>
    intro n i τ hn hi i0 h2 h3
    obtain ⟨x, rfl⟩ : ∃ x, n = x + 1 := ⟨n - 1, by omega⟩
    rw [L_X9_keepDraft_47, ckp (by omega), if_pos (by omega)]
    exact ⟨τ, rfl, fun _ _ _ => rfl, fun j j0 j1 => by omega, fun _ _ => ⟨rfl, rfl⟩⟩
  | succ m ih =>
    intro n i τ hn hi i0 h2 h3
    obtain ⟨x, rfl⟩ : ∃ x, n = x + 1 := ⟨n - 1, by omega⟩
    obtain ⟨τ1, e1⟩ : ∃ τ1, τ1 = pup τ 65 i (τ 68 i) := ⟨_, rfl⟩
    have n1 : ∀ q, q ≠ 65 → τ1 q = τ q := fun q hq => by rw [e1, pup_ne hq]
    have step : L_X9_keepDraft_47 K (x + 1) i τ = L_X9_keepDraft_47 K x (i + 1) (pup τ1 63 i (hDr W H (τ 66) i)) := by
      rw [L_X9_keepDraft_47, ckp (by omega), if_neg (by omega), ckp (by omega), jn_eq, ← e1, n1 62 (by omega), n1 66 (by omega), h2, h3, ckp (by omega)]
      dsimp only [jn]
      unfold hDr
      by_cases e : W * H ≤ i
      · rw [if_pos e, if_pos e, ckp (by omega)]
      · have q0 : 0 ≤ i % W ∧ i % W < W := ⟨Int.emod_nonneg _ (by omega), Int.emod_lt_of_pos _ (by omega)⟩
        have q1 : 0 ≤ i / W ∧ i / W < H := ⟨Int.ediv_nonneg i0 (by omega), Int.ediv_lt_of_lt_mul (by omega) (by rw [Int.mul_comm]; omega)⟩
        rw [if_neg e, if_neg e, ckp (by omega), ckp (by omega), tdiv_pos i0, tmod_pos i0, ckp (by omega), ckp (by omega)]
    rw [step]
    obtain ⟨τ', g1, g2, g3, g4⟩ := ih x (i + 1) (pup τ1 63 i (hDr W H (τ 66) i)) (by omega) (by omega) (by omega) (by rw [pup_ne (by omega), n1 62 (by omega)]; exact h2) (by rw [pup_ne (by omega), n1 62 (by omega)]; exact h3)
    refine ⟨τ', g1, fun q a b => by rw [g2 q a b, pup_ne a, n1 q b], fun j j0 j1 => ?_, fun j hj => ?_⟩
    · by_cases e : j = i
      · rw [(g4 j (by omega)).1, (g4 j (by omega)).2, e, pup_at, pup_ne (by omega), e1, pup_at]
        exact ⟨rfl, rfl⟩
      · have := g3 j (by omega) j1
        rw [pup_ne (by omega), pup_ne (by omega), n1 68 (by omega), n1 66 (by omega)] at this
        exact this
    · rw [(g4 j (by omega)).1, (g4 j (by omega)).2, pup_off (by omega), n1 63 (by omega), pup_ne (by omega), e1, pup_off (by omega)]
      exact ⟨rfl, rfl⟩
theorem kd_worth {K : pm → Option pm} : ∀ (m n : Nat) (i : Int) (τ : pm), m + 1 ≤ n → i + (m : Int) = 3 → 0 ≤ i → ∃ τ', L_X9_keepDraft_151 K n i τ = K τ' ∧ (∀ q, q ≠ 63 → τ' q = τ q) ∧ (∀ j, i ≤ j → j < 3 → τ' 63 (28 + j) = τ 67 j) ∧ (∀ j, (j < 28 + i ∨ 31 ≤ j) → τ' 63 j = τ 63 j) := by
  intro m
  induction m with
  | zero =>
    intro n i τ hn hi i0
    obtain ⟨x, rfl⟩ : ∃ x, n = x + 1 := ⟨n - 1, by omega⟩
    rw [L_X9_keepDraft_151, ckp (by omega), if_pos (by omega)]
    exact ⟨τ, rfl, fun _ _ => rfl, fun j j0 j1 => by omega, fun _ _ => rfl⟩
  | succ m ih =>
    intro n i τ hn hi i0
    obtain ⟨x, rfl⟩ : ∃ x, n = x + 1 := ⟨n - 1, by omega⟩
    rw [L_X9_keepDraft_151, ckp (by omega), if_neg (by omega), ckp (by omega), ckp (by omega), jn_eq, jn_eq]
    obtain ⟨τ', g1, g2, g3, g4⟩ := ih x (i + 1) (pup τ 63 (28 + i) (τ 67 i)) (by omega) (by omega) (by omega)
    refine ⟨τ', g1, fun q hq => by rw [g2 q hq, pup_ne hq], fun j j0 j1 => ?_, fun j hj => by rw [g4 j (by omega), pup_off (by omega)]⟩
    by_cases e : j = i
    · rw [g4 _ (by omega), e, pup_at]
    · rw [g3 j (by omega) j1, pup_ne (by omega)]
theorem keepM {W H : Int} {τ : pm} (hw : wh W H) (h6 : τ 62 6 = W) (h7 : τ 62 7 = H) : ∃ τ', f_X9_keepDraft τ = some τ' ∧ (∀ q, q ≠ 62 → q ≠ 63 → q ≠ 64 → q ≠ 65 → τ' q = τ q) ∧ τ' 62 2 = W ∧ τ' 62 3 = H ∧ τ' 62 4 = τ 62 9 ∧ (∀ j, j ≠ 2 → j ≠ 3 → j ≠ 4 → τ' 62 j = τ 62 j) ∧ (∀ j, 0 ≤ j → j < 25 → τ' 65 j = τ 68 j ∧ τ' 63 j = hDr W H (τ 66) j) ∧ τ' 63 25 = τ 62 8 ∧ τ' 63 26 = τ 62 10 ∧ τ' 63 27 = τ 62 11 ∧ (∀ j, 0 ≤ j → j < 3 → τ' 63 (28 + j) = τ 67 j) ∧ (∀ j, 31 ≤ j → j < 56 → τ' 63 j = 0) ∧ (∀ j, 56 ≤ j → τ' 63 j = τ 63 j) ∧ τ' 64 0 = 0 ∧ τ' 64 1 = 0 := by
  unfold f_X9_keepDraft
  obtain ⟨K3, e3⟩ : ∃ K3 : pm → Option pm, K3 = fun (ρ : pm) => jn (pup ρ 64 0 0) (fun ρ26 => jn (pup ρ26 64 1 0) (fun ρ27 => some ρ27)) := ⟨_, rfl⟩
  rw [← e3]
  obtain ⟨K2, e2⟩ : ∃ K2 : pm → Option pm, K2 = fun (ρ : pm) => jn (pup ρ 63 25 (ρ 62 8)) (fun ρ18 => jn (pup ρ18 63 26 (ρ18 62 10)) (fun ρ19 => jn (pup ρ19 63 27 (ρ19 62 11)) (fun ρ20 => L_X9_keepDraft_151 K3 fu 0 ρ20))) := ⟨_, rfl⟩
  rw [← e2]
  obtain ⟨K1, e1⟩ : ∃ K1 : pm → Option pm, K1 = fun (ρ : pm) => jn (pup ρ 62 2 (ρ 62 6)) (fun ρ5 => jn (pup ρ5 62 3 (ρ5 62 7)) (fun ρ6 => jn (pup ρ6 62 4 (ρ6 62 9)) (fun ρ7 => L_X9_keepDraft_47 K2 fu 0 ρ7))) := ⟨_, rfl⟩
  rw [← e1]
  obtain ⟨τ1, a1, a2, a3, a4⟩ := kd_zero (K := K1) 56 fu 0 τ (by unfold fu; omega) (by omega) (by omega)
  obtain ⟨τ2, x2⟩ : ∃ τ2, τ2 = pup (pup (pup τ1 62 2 (τ1 62 6)) 62 3 (τ1 62 7)) 62 4 (τ1 62 9) := ⟨_, rfl⟩
  have k1 : K1 τ1 = L_X9_keepDraft_47 K2 fu 0 τ2 := by
    rw [e1]
    show jn (pup τ1 62 2 (τ1 62 6)) (fun ρ5 => jn (pup ρ5 62 3 (ρ5 62 7)) (fun ρ6 => jn (pup ρ6 62 4 (ρ6 62 9)) (fun ρ7 => L_X9_keepDraft_47 K2 fu 0 ρ7))) = _
    rw [jn_eq, jn_eq, jn_eq, pup_off (show (9 : Int) ≠ 3 by omega), pup_off (show (9 : Int) ≠ 2 by omega), pup_off (show (7 : Int) ≠ 2 by omega), ← x2]
  have t1 : τ1 62 = τ 62 := a2 62 (by omega)
  have n2 : ∀ q, q ≠ 62 → τ2 q = τ1 q := fun q hq => by rw [x2, pup_ne hq, pup_ne hq, pup_ne hq]
  have f2 : τ2 62 2 = W := by rw [x2, pup_off (by omega), pup_off (by omega), pup_at, t1]; exact h6
  have f3 : τ2 62 3 = H := by rw [x2, pup_off (by omega), pup_at, t1]; exact h7
  have f4 : τ2 62 4 = τ 62 9 := by rw [x2, pup_at, t1]
  have fo : ∀ j, j ≠ 2 → j ≠ 3 → j ≠ 4 → τ2 62 j = τ 62 j := fun j b1 b2 b3 => by rw [x2, pup_off b3, pup_off b2, pup_off b1, t1]
  obtain ⟨τ3, b1, b2, b3, b4⟩ := kd_cells (K := K2) hw 25 fu 0 τ2 (by unfold fu; omega) (by omega) (by omega) f2 f3
  have t3 : τ3 62 = τ2 62 := b2 62 (by omega) (by omega)
  obtain ⟨τ4, x4⟩ : ∃ τ4, τ4 = pup (pup (pup τ3 63 25 (τ3 62 8)) 63 26 (τ3 62 10)) 63 27 (τ3 62 11) := ⟨_, rfl⟩
  have k2 : K2 τ3 = L_X9_keepDraft_151 K3 fu 0 τ4 := by
    rw [e2]
    show jn (pup τ3 63 25 (τ3 62 8)) (fun ρ18 => jn (pup ρ18 63 26 (ρ18 62 10)) (fun ρ19 => jn (pup ρ19 63 27 (ρ19 62 11)) (fun ρ20 => L_X9_keepDraft_151 K3 fu 0 ρ20))) = _
    rw [jn_eq, jn_eq, jn_eq, pup_ne (show 62 ≠ 63 by omega), pup_ne (show 62 ≠ 63 by omega), pup_ne (show 62 ≠ 63 by omega), ← x4]
  have n4 : ∀ q, q ≠ 63 → τ4 q = τ3 q := fun q hq => by rw [x4, pup_ne hq, pup_ne hq, pup_ne hq]
  obtain ⟨τ5, c1, c2, c3, c4⟩ := kd_worth (K := K3) 3 fu 0 τ4 (by unfold fu; omega) (by omega) (by omega)
  have k3 : K3 τ5 = some (pup (pup τ5 64 0 0) 64 1 0) := by
    rw [e3]
    show jn (pup τ5 64 0 0) (fun ρ26 => jn (pup ρ26 64 1 0) (fun ρ27 => some ρ27)) = _
    rw [jn_eq, jn_eq]
  rw [a1, k1, b1, k2, c1, k3]
  obtain ⟨τ6, x6⟩ : ∃ τ6, τ6 = pup (pup τ5 64 0 0) 64 1 0 := ⟨_, rfl⟩
  rw [← x6]
  have n6 : ∀ q, q ≠ 64 → τ6 q = τ5 q := fun q hq => by rw [x6, pup_ne hq, pup_ne hq]
  have e62 : τ6 62 = τ2 62 := by rw [n6 62 (by omega), c2 62 (by omega), n4 62 (by omega), t3]
  have g63 : ∀ j, (j < 25 ∨ 31 ≤ j) → τ6 63 j = τ3 63 j := fun j hj => by rw [n6 63 (by omega), c4 j (by omega), x4, pup_off (by omega), pup_off (by omega), pup_off (by omega)]
  refine ⟨τ6, rfl, fun q q1 q2 q3 q4 => by rw [n6 q q3, c2 q q2, n4 q q2, b2 q q2 q4, n2 q q1, a2 q q2], by rw [e62]; exact f2, by rw [e62]; exact f3, by rw [e62]; exact f4, fun j z1 z2 z3 => by rw [e62]; exact fo j z1 z2 z3, fun j j0 j1 => ?_, ?_, ?_, ?_, fun j j0 j1 => ?_, fun j j0 j1 => ?_, fun j j0 => ?_, ?_, ?_⟩
  · have := b3 j j0 j1
    rw [n2 68 (by omega), n2 66 (by omega), a2 68 (by omega), a2 66 (by omega)] at this
    rw [g63 j (by omega), n6 65 (by omega), c2 65 (by omega), n4 65 (by omega)]
    exact this
  · rw [n6 63 (by omega), c4 25 (by omega), x4, pup_off (by omega), pup_off (by omega), pup_at, t3, fo 8 (by omega) (by omega) (by omega)]
  · rw [n6 63 (by omega), c4 26 (by omega), x4, pup_off (by omega), pup_at, t3, fo 10 (by omega) (by omega) (by omega)]
  · rw [n6 63 (by omega), c4 27 (by omega), x4, pup_at, t3, fo 11 (by omega) (by omega) (by omega)]
  · rw [n6 63 (by omega), c3 j j0 j1, n4 67 (by omega), b2 67 (by omega) (by omega), n2 67 (by omega), a2 67 (by omega)]
  · rw [g63 j (by omega), (b4 j (by omega)).1, n2 63 (by omega), a3 j (by omega) j1]
  · rw [g63 j (by omega), (b4 j (by omega)).1, n2 63 (by omega), a4 j (by omega)]
  · rw [x6, pup_off (by omega), pup_at]
  · rw [x6, pup_at]
