/-! the calls, one by one -/
theorem pup_ne {ρ : pm} {q q' : Nat} {i x : Int} (h : q' ≠ q) : pup ρ q i x q' = ρ q' := funext fun j => if_neg (fun z => h z.1)
theorem pup_at {ρ : pm} {q : Nat} {i x : Int} : pup ρ q i x q i = x := if_pos ⟨rfl, rfl⟩
theorem pup_off {ρ : pm} {q : Nat} {i x j : Int} (h : j ≠ i) : pup ρ q i x q j = ρ q j := if_neg (fun z => h z.2)
theorem lcm_lt {a b : Int} : lcm64 a b < 0 ↔ a < b := by
  unfold lcm64
  split
  · omega
  · split <;> omega
theorem lcm_gt {a b : Int} : 0 < lcm64 a b ↔ b < a := by
  unfold lcm64
  split
  · omega
  · split <;> omega
theorem in_yes {v lo hi : Int} (hv : inL v) (hl : inL lo) (hh : inL hi) (h : lo ≤ v ∧ v ≤ hi) : f_X9_in v lo hi = some 1 := by
  unfold f_X9_in
  rw [ckp hv, ckp hl, if_neg (fun z => by have := lcm_lt.mp z; omega), ckp hh, if_neg (fun z => by have := lcm_gt.mp z; omega)]
theorem in_no {v lo hi : Int} (hv : inL v) (hl : inL lo) (hh : inL hi) (h : ¬ (lo ≤ v ∧ v ≤ hi)) : f_X9_in v lo hi = some 0 := by
  unfold f_X9_in
  rw [ckp hv, ckp hl]
  by_cases c : v < lo
  · rw [if_pos (lcm_lt.mpr c)]
  · rw [if_neg (fun z => c (lcm_lt.mp z)), ckp hh, if_pos (lcm_gt.mpr (by omega))]
theorem isCell_yes {τ : pm} {W H c : Int} (hl : landM τ W H) (h : 0 ≤ c ∧ c < W * H) : f_X9_isCell c τ = some 1 := by
  have bd := hl.1.bd
  unfold f_X9_isCell
  rw [hl.2.1, hl.2.2, ckp (by omega), ckp (by omega), in_yes (by omega) (by omega) (by omega) (by omega)]
  rfl
theorem isCell_no {τ : pm} {W H c : Int} (hl : landM τ W H) (hR : inR c) (h : ¬ (0 ≤ c ∧ c < W * H)) : f_X9_isCell c τ = some 0 := by
  have bd := hl.1.bd
  unfold f_X9_isCell
  rw [hl.2.1, hl.2.2, ckp hR, ckp (by omega), in_no (L_of_R hR) (by omega) (by omega) (by omega)]
  rfl
theorem hasCell_yes {ρ : pm} {W H c : Int} (hl : landC ρ W H) (h : 0 ≤ c ∧ c < W * H) : f_X3_hasCell c ρ = some 1 := by
  have bd := hl.1.bd
  unfold f_X3_hasCell
  rw [hl.2.1, hl.2.2.1, ckp (by omega), if_neg (by omega), ckp (by omega), if_neg (by omega)]
theorem hasCell_no {ρ : pm} {W H c : Int} (hl : landC ρ W H) (hR : inR c) (h : ¬ (0 ≤ c ∧ c < W * H)) : f_X3_hasCell c ρ = some 0 := by
  have bd := hl.1.bd
  unfold f_X3_hasCell
  rw [hl.2.1, hl.2.2.1, ckp hR]
  by_cases c0 : c < 0
  · rw [if_pos c0]
  · rw [if_neg c0, ckp (by omega), if_pos (by omega)]
theorem isFarm_yes {τ : pm} {f fm : Int} (h4 : τ 62 4 = fm) (hfm : 0 ≤ fm ∧ fm ≤ 3) (h : 0 ≤ f ∧ f < fm) : f_X9_isFarm f τ = some 1 := by
  unfold f_X9_isFarm
  rw [h4, ckp (by omega), ckp (by omega), in_yes (by omega) (by omega) (by omega) (by omega)]
  rfl
theorem isFarm_no {τ : pm} {f fm : Int} (hR : inR f) (h4 : τ 62 4 = fm) (hfm : 0 ≤ fm ∧ fm ≤ 3) (h : ¬ (0 ≤ f ∧ f < fm)) : f_X9_isFarm f τ = some 0 := by
  unfold f_X9_isFarm
  rw [h4, ckp hR, ckp (by omega), in_no (L_of_R hR) (by omega) (by omega) (by omega)]
  rfl
theorem isYear_yes {y : Int} (h : 0 ≤ y ∧ y ≤ 17575) : f_X9_isYear y = some 1 := by
  unfold f_X9_isYear
  rw [ckp (by omega), in_yes (by omega) (by omega) (by omega) (by omega)]
  rfl
theorem isYear_no {y : Int} (hR : inR y) (h : ¬ (0 ≤ y ∧ y ≤ 17575)) : f_X9_isYear y = some 0 := by
  unfold f_X9_isYear
  rw [ckp hR, in_no (L_of_R hR) (by omega) (by omega) (by omega)]
  rfl
theorem isNumber_yes {y : Int} (h : 0 ≤ y ∧ y ≤ 17575) : f_X8_isNumber y = some 1 := by
  unfold f_X8_isNumber
  rw [ckp (by omega), if_neg (by omega), if_neg (by omega)]
theorem isNumber_no {y : Int} (hR : inR y) (h : ¬ (0 ≤ y ∧ y ≤ 17575)) : f_X8_isNumber y = some 0 := by
  unfold f_X8_isNumber
  rw [ckp hR]
  by_cases c : y < 0
  · rw [if_pos c]
  · rw [if_neg c, if_pos (by omega)]
theorem becomes_eq {τ : pm} {k v : Int} (h : 0 ≤ k ∧ k < 168) : f_X9_becomes k v τ = some (τ 63 k, pup τ 63 k v) := by
  unfold f_X9_becomes
  rw [ckp h]
  rfl
theorem bn2_of {β : Type} {v : Int} {ρ : pm} {k : Int → pm → Option β} : bn2 (some (v, ρ)) k = k v ρ := rfl
/-- only the present changes -/
theorem RelW.now {W H fm : Int} {ρ τ ρ' τ' : pm} (h : RelW W H fm ρ τ) (c : ∀ q, (q ≤ 3 ∨ (11 ≤ q ∧ q ≤ 24) ∨ (50 ≤ q ∧ q ≤ 51) ∨ (57 ≤ q ∧ q ≤ 60)) → ρ' q = ρ q) (m : ∀ q, ((64 ≤ q ∧ q ≤ 70) ∨ (81 ≤ q ∧ q ≤ 83)) → τ' q = τ q) (m2 : ∀ j, j ≠ 31 → j ≠ 32 → τ' 62 j = τ 62 j) (m3 : ∀ j, 56 ≤ j → j < 168 → τ' 63 j = τ 63 j) (fl : FlR W H (ρ' 4 4) ρ' τ' 8 0) (mi : MiR ρ' τ' 4 0) (out : OutR W H fm ρ' τ') : RelW W H fm ρ' τ' := by
  obtain ⟨a1, a2, a3, a4, a5, a6, a7, a8⟩ := h
  have c0 := c 0 (by omega)
  exact ⟨a1.keep (c _ (by omega)) (c _ (by omega)) (c _ (by omega)) (m2 _ (by omega) (by omega)) (m2 _ (by omega) (by omega)) (m2 _ (by omega) (by omega)) (m _ (by omega)), fl, mi, a4.keep (by rw [c0]) (fun q q0 q1 => c q (by omega)) (m _ (by omega)) m3, a5.keep (c _ (by omega)) (c _ (by omega)) (c _ (by omega)) (m _ (by omega)) (m _ (by omega)) (m _ (by omega)), a6.keep (by rw [c 50 (by omega)]) (c _ (by omega)) (m2 _ (by omega) (by omega)) (m _ (by omega)), by rw [m2 45 (by omega) (by omega), c0]; exact a7, out⟩
section Calls
variable {ρ τ : pm}
theorem k_rule (h : Rel ρ τ) {a : Int} (ha : inR a) : ∃ v, f_X8_rule a ρ = some v ∧ f_X9_rule a τ = some v := by
  obtain ⟨W, H, fm, ld, fl, mi, -⟩ := h
  obtain ⟨lc, lm, h4, h4', -⟩ := ld
  obtain ⟨-, -, f5, f6, f7, -⟩ := fl
  have m1 := mi.1
  rw [Int.zero_add] at f5 f6 f7 m1
  unfold f_X8_rule f_X9_rule
  rw [ckp ha, ckp ha, lc.2.1, lm.2.1, lc.2.2.1, lm.2.2, h4, h4', f5.2.2, f6.2.2, f7.2, m1.2.2]
  by_cases c0 : a = 0
  · simp only [if_pos c0]; exact ⟨_, rfl, rfl⟩
  · simp only [if_neg c0]
    by_cases c1 : a = 1
    · simp only [if_pos c1]; exact ⟨_, rfl, rfl⟩
    · simp only [if_neg c1]
      by_cases c2 : a = 2
      · simp only [if_pos c2]; exact ⟨_, rfl, rfl⟩
      · simp only [if_neg c2]
        by_cases c3 : a = 3
        · simp only [if_pos c3]; exact ⟨_, rfl, rfl⟩
        · simp only [if_neg c3]
          by_cases c4 : a = 4
          · simp only [if_pos c4]; exact ⟨_, rfl, rfl⟩
          · simp only [if_neg c4]
            by_cases c5 : a = 5
            · simp only [if_pos c5, ckp (Z_R f7.1)]
              rcases f7.1 with e | e
              · rw [e]; exact ⟨0, rfl, rfl⟩
              · rw [e]; exact ⟨1, rfl, rfl⟩
            · simp only [if_neg c5]
              by_cases c6 : a = 6
              · simp only [if_pos c6]; exact ⟨_, rfl, rfl⟩
              · simp only [if_neg c6]; exact ⟨_, rfl, rfl⟩
theorem k_fault : f_X8_fault ρ = some (ρ 0 12) ∧ f_X9_fault τ = some (τ 62 28) := ⟨rfl, rfl⟩
theorem k_torn (h : Rel ρ τ) : ∃ v, f_X8_torn ρ = some v ∧ f_X9_torn τ = some v := by
  obtain ⟨W, H, fm, -, -, -, -, -, -, t, -⟩ := h
  exact ⟨ρ 0 13, rfl, by unfold f_X9_torn; rw [t]⟩
theorem k_law (h : Rel ρ τ) {a : Int} (ha : inR a) : ∃ v ρ' τ', f_X8_law a ρ = some (v, ρ') ∧ f_X9_law a τ = some (v, τ') ∧ Rel ρ' τ' := by
  obtain ⟨W, H, fm, hr⟩ := h
  obtain ⟨a1, a2, a3, a4, a5, a6, a7, a8⟩ := id hr
  obtain ⟨f1, f2, f3, f4, f5, f6⟩ := a2
  unfold f_X8_law f_X9_law
  rw [ckp ha, ckp ha]
  by_cases c : 0 ≤ a ∧ a ≤ 2
  · rw [if_neg (by omega), if_pos (by omega), in_yes (L_of_R ha) (by omega) (by omega) c, Option.bind_some, if_neg (by decide), becomes_eq (by omega), bn2_of]
    refine ⟨_, _, _, rfl, by rw [← f4.2.2, Int.zero_add], W, H, fm, ?_⟩
    have e8 : ∀ j, j ≠ 6 → pup (pup ρ 8 6 a) 28 6 0 8 j = ρ 8 j := fun j hj => by rw [pup_ne (by omega), pup_off hj]
    have e86 : pup (pup ρ 8 6 a) 28 6 0 8 6 = a := by rw [pup_ne (by omega), pup_at]
    have eo : ∀ q, q ≠ 8 → q ≠ 28 → pup (pup ρ 8 6 a) 28 6 0 q = ρ q := fun q b1 b2 => by rw [pup_ne b2, pup_ne b1]
    refine hr.now (fun q hq => eo q (by omega) (by omega)) (fun q hq => pup_ne (by omega)) (fun j _ _ => by rw [pup_ne (by omega)]) (fun j j0 j1 => pup_off (by omega)) ?_ (a3.keep (eo _ (by omega) (by omega)) (eo _ (by omega) (by omega)) (eo _ (by omega) (by omega)) (eo _ (by omega) (by omega)) (fun j j0 j1 => pup_off (by omega))) (Or.inl pup_at)
    rw [eo 4 (by omega) (by omega)]
    unfold FlR bedR
    rw [eo 9 (by omega) (by omega), eo 10 (by omega) (by omega), e8 5 (by omega), e86, e8 7 (by omega), e8 3 (by omega), e8 4 (by omega)]
    refine ⟨fun c c0 c1 => by rw [pup_off (by omega)]; exact f1 c c0 c1, f2, by rw [pup_off (by omega)]; exact f3, ⟨c.1, c.2, by rw [Int.zero_add]; exact pup_at⟩, by rw [pup_off (by omega)]; exact f5, f6⟩
  · rw [in_no (L_of_R ha) (by omega) (by omega) c, Option.bind_some, if_pos rfl]
    refine ⟨-1, ρ, τ, ?_, rfl, W, H, fm, hr⟩
    by_cases c0 : a < 0
    · rw [if_pos c0]
    · rw [if_neg c0, if_neg (by omega)]
theorem k_silt (h : Rel ρ τ) {a : Int} (ha : a = 0 ∨ a = 1) : ∃ v ρ' τ', f_X8_silt a ρ = some (v, ρ') ∧ f_X9_silt a τ = some (v, τ') ∧ Rel ρ' τ' := by
  obtain ⟨W, H, fm, hr⟩ := h
  obtain ⟨a1, a2, a3, a4, a5, a6, a7, a8⟩ := id hr
  obtain ⟨f1, f2, f3, f4, f5, f6⟩ := a2
  have ev : f_X8_silt a ρ = some (ρ 8 7, pup (pup ρ 8 7 a) 28 6 0) := by
    unfold f_X8_silt
    rw [ckp (Z_R f5.1)]
    dsimp only [jn]
    simp only [ckp ha]
    rcases f5.1 with e | e <;> rw [e] <;> rfl
  have ew : f_X9_silt a τ = some (ρ 8 7, pup τ 63 27 a) := by
    unfold f_X9_silt
    rw [flag_eq (Z_R ha), Option.bind_some, becomes_eq (by omega), bn2_of, ← f5.2, Int.zero_add]
    rcases ha with e | e <;> rw [e] <;> rfl
  refine ⟨_, _, _, ev, ew, W, H, fm, ?_⟩
  have e8 : ∀ j, j ≠ 7 → pup (pup ρ 8 7 a) 28 6 0 8 j = ρ 8 j := fun j hj => by rw [pup_ne (by omega), pup_off hj]
  have e86 : pup (pup ρ 8 7 a) 28 6 0 8 7 = a := by rw [pup_ne (by omega), pup_at]
  have eo : ∀ q, q ≠ 8 → q ≠ 28 → pup (pup ρ 8 7 a) 28 6 0 q = ρ q := fun q b1 b2 => by rw [pup_ne b2, pup_ne b1]
  refine hr.now (fun q hq => eo q (by omega) (by omega)) (fun q hq => pup_ne (by omega)) (fun j _ _ => by rw [pup_ne (by omega)]) (fun j j0 j1 => pup_off (by omega)) ?_ (a3.keep (eo _ (by omega) (by omega)) (eo _ (by omega) (by omega)) (eo _ (by omega) (by omega)) (eo _ (by omega) (by omega)) (fun j j0 j1 => pup_off (by omega))) (Or.inl pup_at)
  rw [eo 4 (by omega) (by omega)]
  unfold FlR bedR
  rw [eo 9 (by omega) (by omega), eo 10 (by omega) (by omega), e8 5 (by omega), e86, e8 6 (by omega), e8 3 (by omega), e8 4 (by omega)]
  exact ⟨fun c c0 c1 => by rw [pup_off (by omega)]; exact f1 c c0 c1, f2, by rw [pup_off (by omega)]; exact f3, by rw [pup_off (by omega)]; exact f4, ⟨ha, by rw [Int.zero_add]; exact pup_at⟩, f6⟩
end Calls
