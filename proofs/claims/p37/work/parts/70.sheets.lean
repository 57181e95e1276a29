theorem hasSheet_yes {k : Int} (h : 0 ≤ k ∧ k < 4) : f_X5_hasSheet k = some 1 := by
  unfold f_X5_hasSheet
  rw [ckp (by omega), if_neg (by omega), if_neg (by omega)]
theorem hasSheet_no {k : Int} (hR : inR k) (h : ¬ (0 ≤ k ∧ k < 4)) : f_X5_hasSheet k = some 0 := by
  unfold f_X5_hasSheet
  rw [ckp hR]
  by_cases c : k < 0
  · rw [if_pos c]
  · rw [if_neg c, if_pos (by omega)]
theorem hasLane_yes {k : Int} (h : 0 ≤ k ∧ k < 3) : f_X5_hasLane k = some 1 := by
  unfold f_X5_hasLane
  rw [ckp (by omega), if_neg (by omega), if_neg (by omega)]
theorem hasLane_no {k : Int} (hR : inR k) (h : ¬ (0 ≤ k ∧ k < 3)) : f_X5_hasLane k = some 0 := by
  unfold f_X5_hasLane
  rw [ckp hR]
  by_cases c : k < 0
  · rw [if_pos c]
  · rw [if_neg c, if_pos (by omega)]
theorem isSheet_yes {k l : Int} (h : 0 ≤ k ∧ k < 4) (hl : 0 ≤ l ∧ l < 3) : f_X9_isSheet k l = some 1 := by
  unfold f_X9_isSheet
  rw [ckp (by omega), in_yes (by omega) (by omega) (by omega) (by omega), Option.bind_some, i10, ckp (by omega), in_yes (by omega) (by omega) (by omega) (by omega), Option.bind_some, i10]
theorem isSheet_no1 {k l : Int} (hR : inR k) (h : ¬ (0 ≤ k ∧ k < 4)) : f_X9_isSheet k l = some 0 := by
  unfold f_X9_isSheet
  rw [ckp hR, in_no (L_of_R hR) (by omega) (by omega) (by omega), Option.bind_some, i00]
theorem isSheet_no2 {k l : Int} (h : 0 ≤ k ∧ k < 4) (hR : inR l) (hl : ¬ (0 ≤ l ∧ l < 3)) : f_X9_isSheet k l = some 0 := by
  unfold f_X9_isSheet
  rw [ckp (by omega), in_yes (by omega) (by omega) (by omega) (by omega), Option.bind_some, i10, ckp hR, in_no (L_of_R hR) (by omega) (by omega) (by omega), Option.bind_some, i00]
theorem renewC_loop {k : Int} (hk : 0 ≤ k ∧ k < 4) : ∀ (m n : Nat) (i : Int) (ρ : pm), m + 1 ≤ n → i + (m : Int) = 40 → 0 ≤ i → ∃ ρ', L_X5_renew_17 n k i ρ = some ρ' ∧ (∀ q, q ≠ 60 → ρ' q = ρ q) ∧ (∀ j, (j < k * 40 + i ∨ k * 40 + 40 ≤ j) → ρ' 60 j = ρ 60 j) ∧ (∀ j, k * 40 + i ≤ j → j < k * 40 + 40 → ρ' 60 j = 0) := by
  intro m
  induction m with
  | zero =>
    intro n i ρ hn hi i0
    obtain ⟨x, rfl⟩ : ∃ x, n = x + 1 := ⟨n - 1, by omega⟩
    rw [L_X5_renew_17, ckp (by omega), if_pos (by omega)]
    exact ⟨ρ, rfl, fun _ _ => rfl, fun _ _ => rfl, fun j j0 j1 => by omega⟩
  | succ m ih =>
    intro n i ρ hn hi i0
    obtain ⟨x, rfl⟩ : ∃ x, n = x + 1 := ⟨n - 1, by omega⟩
    rw [L_X5_renew_17, ckp (by omega), if_neg (by omega), ckp (by omega)]
    dsimp only [jn]
    obtain ⟨ρ', g1, g2, g3, g4⟩ := ih x (i + 1) (pup ρ 60 (k * 40 + i) 0) (by omega) (by omega) (by omega)
    refine ⟨ρ', g1, fun q hq => by rw [g2 q hq, pup_ne hq], fun j hj => by rw [g3 j (by omega), pup_off (by omega)], fun j j0 j1 => ?_⟩
    by_cases e : j = k * 40 + i
    · rw [g3 j (by omega), e, pup_at]
    · exact g4 j (by omega) j1
theorem sheetM_loop {k : Int} (hk : 0 ≤ k ∧ k < 4) : ∀ (m n : Nat) (i : Int) (τ : pm), m + 1 ≤ n → i + (m : Int) = 40 → 0 ≤ i → ∃ τ', L_X9_sheet_40 n k i τ = some (1, τ') ∧ (∀ q, q ≠ 83 → τ' q = τ q) ∧ (∀ j, (j < k * 40 + i ∨ k * 40 + 40 ≤ j) → τ' 83 j = τ 83 j) ∧ (∀ j, k * 40 + i ≤ j → j < k * 40 + 40 → τ' 83 j = 0) := by
  intro m
  induction m with
  | zero =>
    intro n i τ hn hi i0
    obtain ⟨x, rfl⟩ : ∃ x, n = x + 1 := ⟨n - 1, by omega⟩
    rw [L_X9_sheet_40, ckp (by omega), if_pos (by omega)]
    exact ⟨τ, rfl, fun _ _ => rfl, fun _ _ => rfl, fun j j0 j1 => by omega⟩
  | succ m ih =>
    intro n i τ hn hi i0
    obtain ⟨x, rfl⟩ : ∃ x, n = x + 1 := ⟨n - 1, by omega⟩
    rw [L_X9_sheet_40, ckp (by omega), if_neg (by omega), ckp (by omega)]
    dsimp only [jn]
    obtain ⟨τ', g1, g2, g3, g4⟩ := ih x (i + 1) (pup τ 83 (40 * k + i) 0) (by omega) (by omega) (by omega)
    refine ⟨τ', g1, fun q hq => by rw [g2 q hq, pup_ne hq], fun j hj => by rw [g3 j (by omega), pup_off (by omega)], fun j j0 j1 => ?_⟩
    by_cases e : j = 40 * k + i
    · rw [g3 j (by omega), e, pup_at]
    · exact g4 j (by omega) j1
/-- only the sheets change -/
theorem RelW.shs {W H fm : Int} {ρ τ ρ' τ' : pm} (h : RelW W H fm ρ τ) (c : ∀ q, (q < 57 ∨ 60 < q) → ρ' q = ρ q) (m : ∀ q, (q < 81 ∨ 83 < q) → τ' q = τ q) (sh : ShR ρ' τ') : RelW W H fm ρ' τ' := by
  obtain ⟨a1, a2, a3, a4, a5, a6, a7, a8⟩ := h
  have c0 := c 0 (by omega)
  have t63 := m 63 (by omega)
  have t62 := m 62 (by omega)
  refine ⟨a1.keep (c _ (by omega)) (c _ (by omega)) (c _ (by omega)) (by rw [t62]) (by rw [t62]) (by rw [t62]) (m _ (by omega)), ?_, a3.keep (c _ (by omega)) (c _ (by omega)) (c _ (by omega)) (c _ (by omega)) (fun j _ _ => by rw [t63]), a4.keep (by rw [c0]) (fun q q0 q1 => c q (by omega)) (m _ (by omega)) (fun j _ _ => by rw [t63]), sh, a6.keep (by rw [c 50 (by omega)]) (c _ (by omega)) (by rw [t62]) (m _ (by omega)), by rw [t62, c0]; exact a7, a8.keep (c _ (by omega)) (c _ (by omega)) (fun q q0 q1 => c q (by omega)) (m _ (by omega))⟩
  rw [c 4 (by omega)]
  exact a2.keep (c _ (by omega)) (c _ (by omega)) (c _ (by omega)) (fun j _ _ => by rw [t63])
section Calls
variable {ρ τ : pm}
theorem k_sheet (h : Rel ρ τ) {k l n : Int} (hk : inR k) (hl : inR l) (hn : inR n) : ∃ r ρ' τ', f_X8_sheet k l n ρ = some (r, ρ') ∧ f_X9_sheet k l n τ = some (r, τ') ∧ Rel ρ' τ' := by
  obtain ⟨W, H, fm, hr⟩ := h
  obtain ⟨s1, s2⟩ := hr.2.2.2.2.1
  unfold f_X8_sheet f_X9_sheet
  by_cases c : 0 ≤ k ∧ k < 4
  · by_cases c1 : 0 ≤ l ∧ l < 3
    · rw [hasSheet_yes c, hasLane_yes c1, isSheet_yes c c1]
      simp only [Option.bind_some, i10, ckp hn]
      by_cases c2 : n ≤ 40
      · rw [if_pos c2, if_pos c2]
        by_cases c3 : 0 ≤ n
        · rw [if_pos c3, if_pos c3]
          unfold f_X5_renew
          rw [ckp c, ckp c]
          dsimp only [jn]
          obtain ⟨ρ', g1, g2, g3, g4⟩ := renewC_loop c 40 fu 0 (pup (pup ρ 58 k l) 59 k n) (by unfold fu; omega) (by omega) (by omega)
          obtain ⟨τ', u1, u2, u3, u4⟩ := sheetM_loop c 40 fu 0 (pup (pup τ 81 k l) 82 k n) (by unfold fu; omega) (by omega) (by omega)
          rw [g1, u1, Option.bind_some]
          refine ⟨_, _, _, rfl, rfl, W, H, fm, hr.shs (fun q hq => by rw [g2 q (by omega), pup_ne (by omega), pup_ne (by omega)]) (fun q hq => by rw [u2 q (by omega), pup_ne (by omega), pup_ne (by omega)]) ?_⟩
          have e58 : ∀ j, ρ' 58 j = if j = k then l else ρ 58 j := fun j => by
            rw [g2 58 (by omega), pup_ne (by omega)]
            by_cases e : j = k
            · rw [if_pos e, e, pup_at]
            · rw [if_neg e, pup_off e]
          have e59 : ∀ j, ρ' 59 j = if j = k then n else ρ 59 j := fun j => by
            rw [g2 59 (by omega)]
            by_cases e : j = k
            · rw [if_pos e, e, pup_at]
            · rw [if_neg e, pup_off e, pup_ne (by omega)]
          have t81 : ∀ j, τ' 81 j = if j = k then l else τ 81 j := fun j => by
            rw [u2 81 (by omega), pup_ne (by omega)]
            by_cases e : j = k
            · rw [if_pos e, e, pup_at]
            · rw [if_neg e, pup_off e]
          have t82 : ∀ j, τ' 82 j = if j = k then n else τ 82 j := fun j => by
            rw [u2 82 (by omega)]
            by_cases e : j = k
            · rw [if_pos e, e, pup_at]
            · rw [if_neg e, pup_off e, pup_ne (by omega)]
          have e60 : ∀ j, ρ' 60 j = if k * 40 ≤ j ∧ j < k * 40 + 40 then 0 else ρ 60 j := fun j => by
            by_cases e : k * 40 ≤ j ∧ j < k * 40 + 40
            · rw [if_pos e, g4 j (by omega) e.2]
            · rw [if_neg e, g3 j (by omega), pup_ne (by omega), pup_ne (by omega)]
          have t83 : ∀ j, τ' 83 j = if k * 40 ≤ j ∧ j < k * 40 + 40 then 0 else τ 83 j := fun j => by
            by_cases e : k * 40 ≤ j ∧ j < k * 40 + 40
            · rw [if_pos e, u4 j (by omega) e.2]
            · rw [if_neg e, u3 j (by omega), pup_ne (by omega), pup_ne (by omega)]
          refine ⟨fun i i0 i1 => ?_, fun j j0 j1 => ⟨?_, fun i i0 i1 a b z => ?_⟩⟩
          · rw [e58, e59, t81, t82]
            by_cases e : i = k
            · simp only [if_pos e]
              exact Or.inr ⟨c3, c2, trivial, c1.1, by omega, trivial⟩
            · simp only [if_neg e]
              exact s1 i i0 i1
          · rw [e60]
            split
            · exact ⟨by decide, by decide⟩
            · exact (s2 j j0 j1).1
          · rw [e60, t83]
            by_cases e : i = k
            · subst e
              rw [if_pos ⟨a, b⟩, if_pos ⟨a, b⟩]
            · rw [e59, if_neg e] at z
              rw [if_neg (by omega), if_neg (by omega)]
              exact (s2 j j0 j1).2 i i0 i1 a b z
        · rw [if_neg c3, if_neg c3]
          exact ⟨_, _, _, rfl, rfl, W, H, fm, hr⟩
      · rw [if_neg c2, if_neg c2]
        exact ⟨_, _, _, rfl, rfl, W, H, fm, hr⟩
    · rw [hasSheet_yes c, hasLane_no hl c1, isSheet_no2 c hl c1]
      exact ⟨_, _, _, rfl, rfl, W, H, fm, hr⟩
  · rw [hasSheet_no hk c, isSheet_no1 hk c]
    exact ⟨_, _, _, rfl, rfl, W, H, fm, hr⟩
theorem shR_put {k i x : Int} (h : ShR ρ τ) (hk : 0 ≤ k ∧ k < 4) (hi : 0 ≤ i ∧ i < 40) (hx : inR x) : ShR (pup ρ 60 (k * 40 + i) x) (pup τ 83 (k * 40 + i) x) := by
  obtain ⟨s1, s2⟩ := h
  unfold ShR
  rw [pup_ne (show 58 ≠ 60 by omega), pup_ne (show 59 ≠ 60 by omega), pup_ne (show 81 ≠ 83 by omega), pup_ne (show 82 ≠ 83 by omega)]
  refine ⟨s1, fun j j0 j1 => ?_⟩
  by_cases e : j = k * 40 + i
  · rw [e, pup_at, pup_at]; exact ⟨hx, fun _ _ _ _ _ _ => rfl⟩
  · rw [pup_off e, pup_off e]; exact s2 j j0 j1
theorem k_lay (h : Rel ρ τ) {k i v : Int} (hk : inR k) (hi : inR i) (hv : inR v) : ∃ r ρ' τ', f_X8_lay k i v ρ = some (r, ρ') ∧ f_X9_lay k i v τ = some (r, τ') ∧ Rel ρ' τ' := by
  obtain ⟨W, H, fm, hr⟩ := h
  obtain ⟨s1, s2⟩ := id hr.2.2.2.2.1
  unfold f_X8_lay f_X9_lay
  by_cases c : 0 ≤ k ∧ k < 4
  · rw [hasSheet_yes c, isSheet_yes c (by omega)]
    simp only [Option.bind_some, i10]
    unfold f_X5_reachFault
    rw [ckp c, ckp c]
    rcases s1 k c.1 c.2 with ⟨e1, e2⟩ | ⟨b1, b2, b3, b4, b5, b6⟩
    · rw [e1, e2, ckp (by decide), if_neg (by decide), Option.bind_some, ckp (by decide), if_neg (by decide), ckp (by decide), if_pos rfl]
      exact ⟨_, _, _, rfl, rfl, W, H, fm, hr⟩
    · have hR9 : inR (ρ 59 k) := by omega
      have hR9' : inR (ρ 59 k - 1) := by omega
      have hR8 : inR (ρ 58 k) := by omega
      rw [b6, b3]
      simp only [ckp hR9, ckp hR9', ckp hR8, ckp hi, if_pos b1, if_neg (show ¬ ρ 58 k = -4 by omega)]
      by_cases c1 : 0 ≤ i ∧ i ≤ ρ 59 k - 1
      · rw [if_neg (show ¬ i < 0 by omega), if_pos (show i < ρ 59 k by omega), Option.bind_some, ckp (by decide), i00, in_yes (L_of_R hi) (by omega) (by omega) c1, Option.bind_some, i10]
        unfold f_X5_put
        rw [ckp c]
        dsimp only [jn]
        have hx : 0 ≤ k * 40 + i ∧ k * 40 + i < 160 := by omega
        rw [show 40 * k + i = k * 40 + i by omega]
        simp only [ckp hR8, ckp hx]
        have fin : ∀ x, inR x → ∃ r ρ' τ', ((some (pup ρ 60 (k * 40 + i) x)).bind fun ρ5 => some ((1 : Int), ρ5)) = some (r, ρ') ∧ some ((1 : Int), pup τ 83 (k * 40 + i) x) = some (r, τ') ∧ Rel ρ' τ' := fun x hx' => ⟨_, _, _, rfl, rfl, W, H, fm, hr.shs (fun q hq => pup_ne (by omega)) (fun q hq => pup_ne (by omega)) (shR_put ⟨s1, s2⟩ c (by omega) hx')⟩
        by_cases c2 : ρ 58 k = 0
        · simp only [if_pos c2]; exact fin _ (b8_R _)
        · simp only [if_neg c2]
          by_cases c3 : ρ 58 k = 1
          · simp only [if_pos c3]; exact fin _ (s16_R _)
          · simp only [if_neg c3]; exact fin _ hv
      · rw [in_no (L_of_R hi) (by omega) (by omega) c1, Option.bind_some, i00]
        refine ⟨-12, ρ, τ, ?_, rfl, W, H, fm, hr⟩
        by_cases c0 : i < 0
        · rw [if_pos c0]; rfl
        · rw [if_neg c0, if_neg (by omega)]; rfl
  · rw [hasSheet_no hk c, isSheet_no1 hk c]
    exact ⟨_, _, _, rfl, rfl, W, H, fm, hr⟩
end Calls
