/-! raise(), keepDraft(): a text's heights -/
theorem fill_loop {q nn : Nat} {v : Int} : ∀ (m n : Nat) (i : Int) (ρ : pm), m + 1 ≤ n → i + (m : Int) = (nn : Int) → 0 ≤ i → nn ≤ 1000 → ∃ ρ', L_J7_fill_5 q nn n v i (nn : Int) ρ = some ρ' ∧ (∀ p, p ≠ q → ρ' p = ρ p) ∧ (∀ j, i ≤ j → j < (nn : Int) → ρ' q j = v) ∧ (∀ j, (j < i ∨ (nn : Int) ≤ j) → ρ' q j = ρ q j) := by
  intro m
  induction m with
  | zero =>
    intro n i ρ hn hi i0 hnn
    obtain ⟨x, rfl⟩ : ∃ x, n = x + 1 := ⟨n - 1, by omega⟩
    rw [L_J7_fill_5, ckp (by omega), ckp (by omega), if_pos (by omega)]
    exact ⟨ρ, rfl, fun _ _ => rfl, fun j j0 j1 => by omega, fun _ _ => rfl⟩
  | succ m ih =>
    intro n i ρ hn hi i0 hnn
    obtain ⟨x, rfl⟩ : ∃ x, n = x + 1 := ⟨n - 1, by omega⟩
    rw [L_J7_fill_5, ckp (by omega), ckp (by omega), if_neg (by omega), ckp (by omega)]
    rw [jn_eq, jn_eq]
    obtain ⟨ρ', g1, g2, g3, g4⟩ := ih x (i + 1) (pup ρ q i v) (by omega) (by omega) (by omega) hnn
    refine ⟨ρ', g1, fun p hp => by rw [g2 p hp, pup_ne hp], fun j j0 j1 => ?_, fun j hj => by rw [g4 j (by omega), pup_off (by omega)]⟩
    by_cases e : j = i
    · rw [g4 j (by omega), e, pup_at]
    · exact g3 j (by omega) j1
theorem fillC {q nn : Nat} {v : Int} (ρ : pm) (hnn : nn ≤ 1000) : ∃ ρ', f_J7_fill q nn v ρ = some ρ' ∧ (∀ p, p ≠ q → ρ' p = ρ p) ∧ (∀ j, 0 ≤ j → j < (nn : Int) → ρ' q j = v) ∧ (∀ j, (j < 0 ∨ (nn : Int) ≤ j) → ρ' q j = ρ q j) := by
  unfold f_J7_fill
  rw [jn_eq]
  exact fill_loop nn fu 0 ρ (by unfold fu; omega) (by omega) (by omega) hnn
theorem raise_row {W r : Int} {K : Int → pm → Option pm} (hW : 2 ≤ W ∧ W ≤ 5) (hr : 0 ≤ r ∧ r < 5) (hc : 0 ≤ r * W ∧ r * W + W ≤ 25) : ∀ (m n : Nat) (k : Int) (ρ : pm), m + 1 ≤ n → k + (m : Int) = W → 0 ≤ k → ρ 52 4 = W → ∃ ρ', L_X1_raise_17 K n r k ρ = K r ρ' ∧ (∀ q, q ≠ 9 → ρ' q = ρ q) ∧ (∀ j, (j < r * W + k ∨ r * W + W ≤ j) → ρ' 9 j = ρ 9 j) ∧ (∀ i, k ≤ i → i < W → ρ' 9 (r * W + i) = 3 * ρ 53 (r * 5 + i)) := by
  intro m
  induction m with
  | zero =>
    intro n k ρ hn hk k0 h4
    obtain ⟨x, rfl⟩ : ∃ x, n = x + 1 := ⟨n - 1, by omega⟩
    rw [L_X1_raise_17, h4, ckp (by omega), ckp (by omega), if_pos (by omega)]
    exact ⟨ρ, rfl, fun _ _ => rfl, fun _ _ => rfl, fun i i0 i1 => by omega⟩
  | succ m ih =>
    intro n k ρ hn hk k0 h4
    obtain ⟨x, rfl⟩ : ∃ x, n = x + 1 := ⟨n - 1, by omega⟩
    rw [L_X1_raise_17, h4, ckp (by omega), ckp (by omega), if_neg (by omega), ckp (by omega), ckp (by omega), jn_eq, jn_eq]
    obtain ⟨ρ', g1, g2, g3, g4⟩ := ih x (k + 1) (pup ρ 9 (r * W + k) (3 * ρ 53 (r * 5 + k))) (by omega) (by omega) (by omega) (by rw [pup_ne (by omega)]; exact h4)
    refine ⟨ρ', g1, fun q hq => by rw [g2 q hq, pup_ne hq], fun j hj => by rw [g3 j (by omega), pup_off (by omega)], fun i i0 i1 => ?_⟩
    by_cases e : i = k
    · rw [g3 _ (by omega), e, pup_at]
    · rw [g4 i (by omega) i1, pup_ne (by omega)]
theorem raise_all {W H : Int} {h : Int → Int} (hw : wh W H) : ∀ (m n : Nat) (r : Int) (ρ : pm), m + 1 ≤ n → r + (m : Int) = H → 0 ≤ r → ρ 52 4 = W → ρ 52 5 = H → ρ 53 = h → (∀ r' i, 0 ≤ r' → r' < r → 0 ≤ i → i < W → ρ 9 (r' * W + i) = 3 * h (r' * 5 + i)) → ∃ ρ', L_X1_raise_7 n r ρ = some ρ' ∧ (∀ q, q ≠ 9 → ρ' q = ρ q) ∧ (∀ r' i, 0 ≤ r' → r' < H → 0 ≤ i → i < W → ρ' 9 (r' * W + i) = 3 * h (r' * 5 + i)) ∧ ∀ j, W * H ≤ j → ρ' 9 j = ρ 9 j := by
  have bd := hw.bd
  intro m
  induction m with
  | zero =>
    intro n r ρ hn hr r0 h4 h5 h53 hp
    obtain ⟨x, rfl⟩ : ∃ x, n = x + 1 := ⟨n - 1, by omega⟩
    rw [L_X1_raise_7, h5, ckp (by omega), ckp (by omega), if_pos (by omega)]
    exact ⟨ρ, rfl, fun _ _ => rfl, fun r' i a b => hp r' i a (by omega), fun _ _ => rfl⟩
  | succ m ih =>
    intro n r ρ hn hr r0 h4 h5 h53 hp
    obtain ⟨x, rfl⟩ : ∃ x, n = x + 1 := ⟨n - 1, by omega⟩
    have q0 : 0 ≤ r * W := Int.mul_nonneg r0 (by omega)
    have q1 : (r + 1) * W ≤ H * W := Int.mul_le_mul_of_nonneg_right (by omega) (by omega)
    rw [Int.add_mul, Int.one_mul, Int.mul_comm H W] at q1
    obtain ⟨ρ1, g1, g2, g3, g4⟩ := raise_row (K := fun (l2 : Int) (ρ : pm) => jn (l2 + 1) (fun x10 => L_X1_raise_7 x x10 ρ)) (r := r) ⟨bd.1, bd.2.1⟩ (by omega) (by omega) W.toNat fu 0 ρ (by unfold fu; omega) (by omega) (by omega) h4
    obtain ⟨ρ', k1, k2, k3, k4⟩ := ih x (r + 1) ρ1 (by omega) (by omega) (by omega) (by rw [g2 52 (by omega)]; exact h4) (by rw [g2 52 (by omega)]; exact h5) (by rw [g2 53 (by omega)]; exact h53) (fun r' i a b i0 i1 => by
      by_cases e : r' = r
      · rw [e, g4 i i0 i1, h53]
      · have q2 : (r' + 1) * W ≤ r * W := Int.mul_le_mul_of_nonneg_right (by omega) (by omega)
        rw [Int.add_mul, Int.one_mul] at q2
        rw [g3 _ (by omega)]
        exact hp r' i a (by omega) i0 i1)
    rw [jn_eq] at g1
    rw [L_X1_raise_7, h5, ckp (by omega), ckp (by omega), if_neg (by omega), g1]
    exact ⟨ρ', k1, fun q hq => by rw [k2 q hq, g2 q hq], k3, fun j hj => by rw [k4 j hj, g3 j (by omega)]⟩
/-- the heights out of a draft's rows -/
def hDr (W H : Int) (h : Int → Int) (c : Int) : Int := if W * H ≤ c then 0 else 3 * h (5 * (c / W) + c % W)
theorem raiseC {W H : Int} {ρ : pm} (hw : wh W H) (h4 : ρ 52 4 = W) (h5 : ρ 52 5 = H) : ∃ ρ', f_X1_raise ρ = some ρ' ∧ (∀ q, q ≠ 9 → ρ' q = ρ q) ∧ ∀ c, 0 ≤ c → c < 25 → ρ' 9 c = hDr W H (ρ 53) c := by
  have bd := hw.bd
  obtain ⟨ρ1, f1, f2, f3, f4⟩ := fillC (q := 9) (nn := 25) (v := 0) ρ (by omega)
  obtain ⟨ρ', k1, k2, k3, k4⟩ := raise_all (h := ρ 53) hw H.toNat fu 0 ρ1 (by unfold fu; omega) (by omega) (by omega) (by rw [f2 52 (by omega)]; exact h4) (by rw [f2 52 (by omega)]; exact h5) (f2 53 (by omega)) (fun r' i a b => by omega)
  unfold f_X1_raise
  rw [f1, Option.bind_some, k1]
  refine ⟨ρ', rfl, fun q hq => by rw [k2 q hq, f2 q hq], fun c c0 c1 => ?_⟩
  unfold hDr
  by_cases e : W * H ≤ c
  · rw [if_pos e, k4 c e, f3 c c0 (by omega)]
  · rw [if_neg e]
    have e1 : c / W * W + c % W = c := by
      rw [Int.mul_comm]
      exact Int.mul_ediv_add_emod c W
    have := k3 (c / W) (c % W) (Int.ediv_nonneg c0 (by omega)) (Int.ediv_lt_of_lt_mul (by omega) (by rw [Int.mul_comm]; omega)) (Int.emod_nonneg _ (by omega)) (Int.emod_lt_of_pos _ (by omega))
    rw [e1] at this
    rw [this, Int.mul_comm 5]
