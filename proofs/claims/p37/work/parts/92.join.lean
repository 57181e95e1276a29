/-! join(): the neighbours, found once -/
theorem nbr_at {W H r k : Int} (hW : 2 ≤ W) (hk : 0 ≤ k ∧ k < W) (s : Int) : nbr W H (r * W + k) s = if s = 0 then (if r ≤ 0 then -1 else r * W + k - W) else if s = 1 then (if W ≤ k + 1 then -1 else r * W + k + 1) else if s = 2 then (if H ≤ r + 1 then -1 else r * W + k + W) else (if k ≤ 0 then -1 else r * W + k - 1) := by
  have e1 : (r * W + k) / W = r := by
    rw [Int.add_comm, Int.add_mul_ediv_right _ _ (by omega), Int.ediv_eq_zero_of_lt hk.1 hk.2]
    omega
  have e2 : (r * W + k) % W = k := by
    rw [Int.add_comm, Int.add_mul_emod_self_right, Int.emod_eq_of_lt hk.1 hk.2]
  unfold nbr
  rw [e1, e2]
theorem join_step {W H r k : Int} {n : Nat} {ρ : pm} {K : Int → pm → Option pm} (h2 : ρ 1 2 = W) (h3 : ρ 1 3 = H) (hW : 2 ≤ W ∧ W ≤ 5) (hH : 2 ≤ H ∧ H ≤ 5) (hr : 0 ≤ r ∧ r < H) (hk : 0 ≤ k ∧ k < W) (hc : 0 ≤ r * W ∧ r * W + W ≤ 25) :
    L_X3_join_12 K (n + 1) r k ρ = L_X3_join_12 K n r (k + 1) (pup (pup (pup (pup ρ 3 ((r * W + k) * 4) (nbr W H (r * W + k) 0)) 3 ((r * W + k) * 4 + 1) (nbr W H (r * W + k) 1)) 3 ((r * W + k) * 4 + 2) (nbr W H (r * W + k) 2)) 3 ((r * W + k) * 4 + 3) (nbr W H (r * W + k) 3)) := by
  have pn : ∀ (ρ : pm) j v, pup ρ 3 j v 1 = ρ 1 := fun ρ j v => pup_ne (by omega)
  have v0 := nbr_at (H := H) (r := r) hW.1 hk 0
  have v1 := nbr_at (H := H) (r := r) hW.1 hk 1
  have v2 := nbr_at (H := H) (r := r) hW.1 hk 2
  have v3 := nbr_at (H := H) (r := r) hW.1 hk 3
  rw [if_pos rfl] at v0
  rw [if_neg (by decide), if_pos rfl] at v1
  rw [if_neg (by decide), if_neg (by decide), if_pos rfl] at v2
  rw [if_neg (by decide), if_neg (by decide), if_neg (by decide)] at v3
  rw [v0, v1, v2, v3]
  have c0 : 0 ≤ (r * W + k) * 4 ∧ (r * W + k) * 4 < 100 := by omega
  have c1 : 0 ≤ (r * W + k) * 4 + 1 ∧ (r * W + k) * 4 + 1 < 100 := by omega
  have c2 : 0 ≤ (r * W + k) * 4 + 2 ∧ (r * W + k) * 4 + 2 < 100 := by omega
  have c3 : 0 ≤ (r * W + k) * 4 + 3 ∧ (r * W + k) * 4 + 3 < 100 := by omega
  have rr : inR r := by omega
  have rk : inR k := by omega
  have rr1 : inR (r + 1) := by omega
  have rk1 : inR (k + 1) := by omega
  have rW : inR W := by omega
  have rH : inR H := by omega
  rw [L_X3_join_12]
  dsimp only [jn]
  simp only [pn, h2, h3, ckp c0, ckp c1, ckp c2, ckp c3, ckp rr, ckp rk, ckp rr1, ckp rk1, ckp rW, ckp rH]
  rw [if_neg (show ¬ W ≤ k by omega)]
  by_cases p0 : r ≤ 0
  · simp only [if_pos p0]
    by_cases p1 : W ≤ k + 1
    · simp only [if_pos p1]
      by_cases p2 : H ≤ r + 1
      · simp only [if_pos p2]
        by_cases p3 : k ≤ 0
        · simp only [if_pos p3]
        · simp only [if_neg p3]
      · simp only [if_neg p2]
        by_cases p3 : k ≤ 0
        · simp only [if_pos p3]
        · simp only [if_neg p3]
    · simp only [if_neg p1]
      by_cases p2 : H ≤ r + 1
      · simp only [if_pos p2]
        by_cases p3 : k ≤ 0
        · simp only [if_pos p3]
        · simp only [if_neg p3]
      · simp only [if_neg p2]
        by_cases p3 : k ≤ 0
        · simp only [if_pos p3]
        · simp only [if_neg p3]
  · simp only [if_neg p0]
    by_cases p1 : W ≤ k + 1
    · simp only [if_pos p1]
      by_cases p2 : H ≤ r + 1
      · simp only [if_pos p2]
        by_cases p3 : k ≤ 0
        · simp only [if_pos p3]
        · simp only [if_neg p3]
      · simp only [if_neg p2]
        by_cases p3 : k ≤ 0
        · simp only [if_pos p3]
        · simp only [if_neg p3]
    · simp only [if_neg p1]
      by_cases p2 : H ≤ r + 1
      · simp only [if_pos p2]
        by_cases p3 : k ≤ 0
        · simp only [if_pos p3]
        · simp only [if_neg p3]
      · simp only [if_neg p2]
        by_cases p3 : k ≤ 0
        · simp only [if_pos p3]
        · simp only [if_neg p3]
theorem joinC_row {W H r : Int} {K : Int → pm → Option pm} (hW : 2 ≤ W ∧ W ≤ 5) (hH : 2 ≤ H ∧ H ≤ 5) (hr : 0 ≤ r ∧ r < H) (hc : 0 ≤ r * W ∧ r * W + W ≤ 25) : ∀ (m n : Nat) (k : Int) (ρ : pm), m + 1 ≤ n → k + (m : Int) = W → 0 ≤ k → ρ 1 2 = W → ρ 1 3 = H → ∃ ρ', L_X3_join_12 K n r k ρ = K r ρ' ∧ (∀ q, q ≠ 3 → ρ' q = ρ q) ∧ (∀ j, (j < (r * W + k) * 4 ∨ (r * W + W) * 4 ≤ j) → ρ' 3 j = ρ 3 j) ∧ (∀ i s, k ≤ i → i < W → 0 ≤ s → s < 4 → ρ' 3 ((r * W + i) * 4 + s) = nbr W H (r * W + i) s) := by
  intro m
  induction m with
  | zero =>
    intro n k ρ hn hk k0 h2 h3
    obtain ⟨x, rfl⟩ : ∃ x, n = x + 1 := ⟨n - 1, by omega⟩
    rw [L_X3_join_12, h2, ckp (by omega), ckp (by omega), if_pos (by omega)]
    exact ⟨ρ, rfl, fun _ _ => rfl, fun _ _ => rfl, fun i s i0 i1 => by omega⟩
  | succ m ih =>
    intro n k ρ hn hk k0 h2 h3
    obtain ⟨x, rfl⟩ : ∃ x, n = x + 1 := ⟨n - 1, by omega⟩
    obtain ⟨ρ2, e2⟩ : ∃ ρ2, ρ2 = pup (pup (pup (pup ρ 3 ((r * W + k) * 4) (nbr W H (r * W + k) 0)) 3 ((r * W + k) * 4 + 1) (nbr W H (r * W + k) 1)) 3 ((r * W + k) * 4 + 2) (nbr W H (r * W + k) 2)) 3 ((r * W + k) * 4 + 3) (nbr W H (r * W + k) 3) := ⟨_, rfl⟩
    have n2 : ∀ q, q ≠ 3 → ρ2 q = ρ q := fun q hq => by rw [e2, pup_ne hq, pup_ne hq, pup_ne hq, pup_ne hq]
    rw [join_step h2 h3 hW hH hr (by omega) hc, ← e2]
    obtain ⟨ρ', g1, g2, g3, g4⟩ := ih x (k + 1) ρ2 (by omega) (by omega) (by omega) (by rw [n2 1 (by omega)]; exact h2) (by rw [n2 1 (by omega)]; exact h3)
    refine ⟨ρ', g1, fun q hq => by rw [g2 q hq, n2 q hq], fun j hj => ?_, fun i s i0 i1 s0 s1 => ?_⟩
    · rw [g3 j (by omega), e2, pup_off (by omega), pup_off (by omega), pup_off (by omega), pup_off (by omega)]
    · by_cases e : i = k
      · subst e
        rw [g3 _ (by omega), e2]
        have s4 : s = 0 ∨ s = 1 ∨ s = 2 ∨ s = 3 := by omega
        rcases s4 with rfl | rfl | rfl | rfl
        · rw [Int.add_zero, pup_off (by omega), pup_off (by omega), pup_off (by omega), pup_at]
        · rw [pup_off (by omega), pup_off (by omega), pup_at]
        · rw [pup_off (by omega), pup_at]
        · rw [pup_at]
      · exact g4 i s (by omega) i1 s0 s1
theorem joinC_all {W H : Int} (hw : wh W H) : ∀ (m n : Nat) (r : Int) (ρ : pm), m + 1 ≤ n → r + (m : Int) = H → 0 ≤ r → ρ 1 2 = W → ρ 1 3 = H → (∀ r' i s, 0 ≤ r' → r' < r → 0 ≤ i → i < W → 0 ≤ s → s < 4 → ρ 3 ((r' * W + i) * 4 + s) = nbr W H (r' * W + i) s) → ∃ ρ', L_X3_join_2 n r ρ = some ρ' ∧ (∀ q, q ≠ 3 → ρ' q = ρ q) ∧ (∀ r' i s, 0 ≤ r' → r' < H → 0 ≤ i → i < W → 0 ≤ s → s < 4 → ρ' 3 ((r' * W + i) * 4 + s) = nbr W H (r' * W + i) s) := by
  have bd := hw.bd
  intro m
  induction m with
  | zero =>
    intro n r ρ hn hr r0 h2 h3 hp
    obtain ⟨x, rfl⟩ : ∃ x, n = x + 1 := ⟨n - 1, by omega⟩
    rw [L_X3_join_2, h3, ckp (by omega), ckp (by omega), if_pos (by omega)]
    exact ⟨ρ, rfl, fun _ _ => rfl, fun r' i s a b => hp r' i s a (by omega)⟩
  | succ m ih =>
    intro n r ρ hn hr r0 h2 h3 hp
    obtain ⟨x, rfl⟩ : ∃ x, n = x + 1 := ⟨n - 1, by omega⟩
    have q0 : 0 ≤ r * W := Int.mul_nonneg r0 (by omega)
    have q1 : (r + 1) * W ≤ H * W := Int.mul_le_mul_of_nonneg_right (by omega) (by omega)
    rw [Int.add_mul, Int.one_mul, Int.mul_comm H W] at q1
    obtain ⟨ρ1, g1, g2, g3, g4⟩ := joinC_row (K := fun (l1 : Int) (ρ : pm) => jn (l1 + 1) (fun x21 => L_X3_join_2 x x21 ρ)) (H := H) (r := r) ⟨bd.1, bd.2.1⟩ ⟨bd.2.2.1, bd.2.2.2.1⟩ (by omega) (by omega) W.toNat fu 0 ρ (by unfold fu; omega) (by omega) (by omega) h2 h3
    obtain ⟨ρ', k1, k2, k3⟩ := ih x (r + 1) ρ1 (by omega) (by omega) (by omega) (by rw [g2 1 (by omega)]; exact h2) (by rw [g2 1 (by omega)]; exact h3) (fun r' i s a b i0 i1 s0 s1 => by
      by_cases e : r' = r
      · subst e
        exact g4 i s i0 i1 s0 s1
      · have q2 : (r' + 1) * W ≤ r * W := Int.mul_le_mul_of_nonneg_right (by omega) (by omega)
        rw [Int.add_mul, Int.one_mul] at q2
        rw [g3 _ (by omega)]
        exact hp r' i s a (by omega) i0 i1 s0 s1)
    rw [jn_eq] at g1
    rw [L_X3_join_2, h3, ckp (by omega), ckp (by omega), if_neg (by omega), g1]
    exact ⟨ρ', k1, fun q hq => by rw [k2 q hq, g2 q hq], k3⟩
theorem joinC {W H : Int} {ρ : pm} (hw : wh W H) (h2 : ρ 1 2 = W) (h3 : ρ 1 3 = H) : ∃ ρ', f_X3_join ρ = some ρ' ∧ (∀ q, q ≠ 3 → ρ' q = ρ q) ∧ landC ρ' W H := by
  have bd := hw.bd
  obtain ⟨ρ', k1, k2, k3⟩ := joinC_all hw H.toNat fu 0 ρ (by unfold fu; omega) (by omega) (by omega) h2 h3 (fun r' i s a b => by omega)
  refine ⟨ρ', k1, k2, hw, by rw [k2 1 (by omega)]; exact h2, by rw [k2 1 (by omega)]; exact h3, fun c s c0 c1 s0 s1 => ?_⟩
  have e : c / W * W + c % W = c := by
    rw [Int.mul_comm]
    exact Int.mul_ediv_add_emod c W
  have := k3 (c / W) (c % W) s (Int.ediv_nonneg c0 (by omega)) (Int.ediv_lt_of_lt_mul (by omega) (by rw [Int.mul_comm]; exact c1)) (Int.emod_nonneg _ (by omega)) (Int.emod_lt_of_pos _ (by omega)) s0 s1
  rw [e] at this
  exact this
