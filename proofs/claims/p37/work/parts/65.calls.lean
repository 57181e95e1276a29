theorem i10 {α : Type} {a b : α} : (if (1 : Int) = 0 then a else b) = b := rfl
theorem i00 {α : Type} {a b : α} : (if (0 : Int) = 0 then a else b) = a := rfl
section Calls
variable {ρ τ : pm}
theorem k_price (h : Rel ρ τ) {f v : Int} (hf : inR f) (hv : inR v) : ∃ r ρ' τ', f_X8_price f v ρ = some (r, ρ') ∧ f_X9_price f v τ = some (r, τ') ∧ Rel ρ' τ' := by
  obtain ⟨W, H, fm, hr⟩ := h
  obtain ⟨a1, a2, a3, a4, a5, a6, a7, a8⟩ := id hr
  obtain ⟨lc, lm, h4, h4', hfm, -⟩ := a1
  unfold f_X8_price f_X9_price
  by_cases c : 0 ≤ f ∧ f < fm
  · rw [hasFarm_yes h4 hfm c, isFarm_yes h4' hfm c, Option.bind_some, Option.bind_some, i10, i10, ckp hv, ckp hv]
    by_cases c1 : 1 ≤ v ∧ v ≤ 9
    · rw [if_neg (by omega), if_pos (by omega), ckp (by omega), in_yes (L_of_R hv) (by omega) (by omega) c1, Option.bind_some, i10, becomes_eq (by omega), bn2_of]
      obtain ⟨m1, m2, m3, m4, m5, m6⟩ := a3
      refine ⟨_, _, _, rfl, by rw [← (m2 f (by omega) (by omega)).1, Int.zero_add], W, H, fm, ?_⟩
      have eo : ∀ q, q ≠ 5 → pup ρ 5 f v q = ρ q := fun q b1 => pup_ne b1
      refine hr.now (fun q hq => eo q (by omega)) (fun q hq => pup_ne (by omega)) (fun j _ _ => by rw [pup_ne (by omega)]) (fun j j0 j1 => pup_off (by omega)) ?_ ?_ (a8.keep (eo _ (by omega)) (eo _ (by omega)) (fun q q0 q1 => eo q (by omega)) (pup_ne (by omega)))
      · rw [eo 4 (by omega)]
        exact a2.keep (eo _ (by omega)) (eo _ (by omega)) (eo _ (by omega)) (fun j j0 j1 => pup_off (by omega))
      · unfold MiR
        rw [eo 4 (by omega), eo (4 + 2) (by omega), eo (4 + 3) (by omega)]
        refine ⟨by rw [pup_off (by omega)]; exact m1, fun g g0 g1 => ?_, by rw [pup_off (by omega)]; exact m3, fun i i0 i1 => by rw [pup_off (by omega)]; exact m4 i i0 i1, by rw [pup_off (by omega)]; exact m5, fun i i0 i1 => by rw [pup_off (by omega), pup_off (by omega)]; exact m6 i i0 i1⟩
        by_cases e : g = f
        · subst e
          rw [show (0 : Int) + 28 + g = 28 + g by omega, pup_at, pup_at]
          exact ⟨rfl, by omega, by omega⟩
        · rw [pup_off (by omega), pup_off e]
          exact m2 g g0 g1
    · rw [in_no (L_of_R hv) (by omega) (by omega) c1, Option.bind_some, i00]
      refine ⟨-1, ρ, τ, ?_, rfl, W, H, fm, hr⟩
      by_cases c0 : v < 1
      · rw [if_pos c0]
      · rw [if_neg c0, if_neg (by omega)]
  · rw [hasFarm_no hf h4 hfm c, isFarm_no hf h4' hfm c, Option.bind_some, Option.bind_some, i00, i00]
    exact ⟨-1, ρ, τ, rfl, rfl, W, H, fm, hr⟩
theorem k_tell (h : Rel ρ τ) {y : Int} (hy : inR y) : ∃ r ρ' τ', f_X8_tell y ρ = some (r, ρ') ∧ f_X9_tell y τ = some (r, τ') ∧ Rel ρ' τ' := by
  obtain ⟨W, H, fm, hr⟩ := h
  obtain ⟨a1, a2, a3, a4, a5, a6, a7, a8⟩ := id hr
  obtain ⟨m1, m2, m3, m4, m5, m6⟩ := a3
  have e32 : τ 63 32 = ρ 4 5 := by rw [← m3.2.2, Int.zero_add]
  have hR : inR (ρ 4 5) := by omega
  unfold f_X8_tell f_X9_tell
  by_cases c : 0 ≤ y ∧ y ≤ 17575
  · rw [isNumber_yes c, isYear_yes c, Option.bind_some, Option.bind_some, i10, i10, e32]
    simp only [ckp hR]
    by_cases c1 : ρ 4 5 < 6
    · rw [if_pos c1, if_neg (by omega), ckp (by omega), ckp (by omega)]
      dsimp only [jn]
      have g1 : pup ρ 6 (ρ 4 5) y 4 5 = ρ 4 5 := by rw [pup_ne (by omega)]
      have g2 : pup τ 63 (33 + ρ 4 5) y 63 32 = ρ 4 5 := by rw [pup_off (by omega)]; exact e32
      rw [g1, g2, pup_at, pup_at]
      refine ⟨_, _, _, rfl, rfl, W, H, fm, ?_⟩
      have eo : ∀ q, q ≠ 6 → q ≠ 4 → pup (pup ρ 6 (ρ 4 5) y) 4 5 (ρ 4 5 + 1) q = ρ q := fun q b1 b2 => by rw [pup_ne b2, pup_ne b1]
      have e4 : ∀ j, j ≠ 5 → pup (pup ρ 6 (ρ 4 5) y) 4 5 (ρ 4 5 + 1) 4 j = ρ 4 j := fun j b => by rw [pup_off b, pup_ne (by omega)]
      have et : ∀ j, j ≠ 32 → j ≠ 33 + ρ 4 5 → pup (pup τ 63 (33 + ρ 4 5) y) 63 32 (ρ 4 5 + 1) 63 j = τ 63 j := fun j b1 b2 => by rw [pup_off b1, pup_off b2]
      refine hr.now (fun q hq => eo q (by omega) (by omega)) (fun q hq => by rw [pup_ne (by omega), pup_ne (by omega)]) (fun j _ _ => by rw [pup_ne (by omega), pup_ne (by omega)]) (fun j j0 j1 => et j (by omega) (by omega)) ?_ ?_ (a8.keep (eo _ (by omega) (by omega)) (eo _ (by omega) (by omega)) (fun q q0 q1 => eo q (by omega) (by omega)) (by rw [pup_ne (by omega), pup_ne (by omega)]))
      · rw [e4 4 (by omega)]
        exact a2.keep (eo _ (by omega) (by omega)) (eo _ (by omega) (by omega)) (eo _ (by omega) (by omega)) (fun j j0 j1 => et j (by omega) (by omega))
      · unfold MiR
        rw [e4 4 (by omega), e4 6 (by omega), pup_at, eo (4 + 1) (by omega) (by omega), eo (4 + 3) (by omega) (by omega)]
        refine ⟨by rw [et _ (by omega) (by omega)]; exact m1, fun g g0 g1 => by rw [et _ (by omega) (by omega)]; exact m2 g g0 g1, ⟨by omega, by omega, by rw [Int.zero_add, pup_at]⟩, fun i i0 i1 => ?_, by rw [et _ (by omega) (by omega)]; exact m5, fun i i0 i1 => by rw [et _ (by omega) (by omega), et _ (by omega) (by omega)]; exact m6 i i0 i1⟩
        rw [pup_ne (show 4 + 2 ≠ 4 by omega)]
        by_cases e : i = ρ 4 5
        · subst e
          rw [pup_off (by omega), show (0 : Int) + 33 + ρ 4 5 = 33 + ρ 4 5 by omega, pup_at, pup_at]
          exact ⟨rfl, by omega, by omega⟩
        · rw [et _ (by omega) (by omega), pup_off e]
          exact m4 i i0 (by omega)
    · rw [if_neg c1, if_pos (by omega)]
      exact ⟨-3, ρ, τ, rfl, rfl, W, H, fm, hr⟩
  · rw [isNumber_no hy c, isYear_no hy c, Option.bind_some, Option.bind_some, i00, i00]
    exact ⟨-1, ρ, τ, rfl, rfl, W, H, fm, hr⟩
theorem k_drop (h : Rel ρ τ) {n : Int} (hn : inR n) : ∃ r ρ' τ', f_X8_drop n ρ = some (r, ρ') ∧ f_X9_drop n τ = some (r, τ') ∧ Rel ρ' τ' := by
  obtain ⟨W, H, fm, hr⟩ := h
  obtain ⟨a1, a2, a3, a4, a5, a6, a7, a8⟩ := id hr
  obtain ⟨m1, m2, m3, m4, m5, m6⟩ := a3
  have e32 : τ 63 32 = ρ 4 5 := by rw [← m3.2.2, Int.zero_add]
  have hR : inR (ρ 4 5) := by omega
  unfold f_X8_drop f_X9_drop
  rw [ckp hn, ckp hn, e32]
  simp only [ckp hR]
  by_cases c : 0 ≤ n ∧ n ≤ ρ 4 5
  · rw [if_neg (by omega), if_pos c.2, in_yes (L_of_R hn) (by omega) (by omega) c, Option.bind_some, i10]
    dsimp only [jn]
    refine ⟨_, _, _, rfl, rfl, W, H, fm, ?_⟩
    have eo : ∀ q, q ≠ 4 → pup ρ 4 5 n q = ρ q := fun q b1 => pup_ne b1
    have e4 : ∀ j, j ≠ 5 → pup ρ 4 5 n 4 j = ρ 4 j := fun j b => pup_off b
    refine hr.now (fun q hq => eo q (by omega)) (fun q hq => pup_ne (by omega)) (fun j _ _ => by rw [pup_ne (by omega)]) (fun j j0 j1 => pup_off (by omega)) ?_ ?_ (a8.keep (eo _ (by omega)) (eo _ (by omega)) (fun q q0 q1 => eo q (by omega)) (pup_ne (by omega)))
    · rw [e4 4 (by omega)]
      exact a2.keep (eo _ (by omega)) (eo _ (by omega)) (eo _ (by omega)) (fun j j0 j1 => pup_off (by omega))
    · unfold MiR
      rw [e4 4 (by omega), e4 6 (by omega), pup_at, eo (4 + 1) (by omega), eo (4 + 2) (by omega), eo (4 + 3) (by omega)]
      exact ⟨by rw [pup_off (by omega)]; exact m1, fun g g0 g1 => by rw [pup_off (by omega)]; exact m2 g g0 g1, ⟨by omega, by omega, by rw [Int.zero_add, pup_at]⟩, fun i i0 i1 => by rw [pup_off (by omega)]; exact m4 i i0 (by omega), by rw [pup_off (by omega)]; exact m5, fun i i0 i1 => by rw [pup_off (by omega), pup_off (by omega)]; exact m6 i i0 i1⟩
  · rw [in_no (L_of_R hn) (by omega) (by omega) c, Option.bind_some, i00]
    refine ⟨-1, ρ, τ, ?_, rfl, W, H, fm, hr⟩
    by_cases c0 : n < 0
    · rw [if_pos c0]
    · rw [if_neg c0, if_neg (by omega)]
theorem k_forget (h : Rel ρ τ) {n : Int} (hn : inR n) : ∃ r ρ' τ', f_X8_forget n ρ = some (r, ρ') ∧ f_X9_forget n τ = some (r, τ') ∧ Rel ρ' τ' := by
  obtain ⟨W, H, fm, hr⟩ := h
  obtain ⟨a1, a2, a3, a4, a5, a6, a7, a8⟩ := id hr
  obtain ⟨m1, m2, m3, m4, m5, m6⟩ := a3
  have e39 : τ 63 39 = ρ 4 6 := by rw [← m5.2.2, Int.zero_add]
  have hR : inR (ρ 4 6) := by omega
  unfold f_X8_forget f_X9_forget
  rw [ckp hn, ckp hn, e39]
  simp only [ckp hR]
  by_cases c : 0 ≤ n ∧ n ≤ ρ 4 6
  · rw [if_neg (by omega), if_pos c.2, in_yes (L_of_R hn) (by omega) (by omega) c, Option.bind_some, i10]
    dsimp only [jn]
    refine ⟨_, _, _, rfl, rfl, W, H, fm, ?_⟩
    have eo : ∀ q, q ≠ 4 → pup ρ 4 6 n q = ρ q := fun q b1 => pup_ne b1
    have e4 : ∀ j, j ≠ 6 → pup ρ 4 6 n 4 j = ρ 4 j := fun j b => pup_off b
    refine hr.now (fun q hq => eo q (by omega)) (fun q hq => pup_ne (by omega)) (fun j _ _ => by rw [pup_ne (by omega)]) (fun j j0 j1 => pup_off (by omega)) ?_ ?_ (a8.keep (eo _ (by omega)) (eo _ (by omega)) (fun q q0 q1 => eo q (by omega)) (pup_ne (by omega)))
    · rw [e4 4 (by omega)]
      exact a2.keep (eo _ (by omega)) (eo _ (by omega)) (eo _ (by omega)) (fun j j0 j1 => pup_off (by omega))
    · unfold MiR
      rw [e4 4 (by omega), e4 5 (by omega), pup_at, eo (4 + 1) (by omega), eo (4 + 2) (by omega), eo (4 + 3) (by omega)]
      exact ⟨by rw [pup_off (by omega)]; exact m1, fun g g0 g1 => by rw [pup_off (by omega)]; exact m2 g g0 g1, by rw [pup_off (by omega)]; exact m3, fun i i0 i1 => by rw [pup_off (by omega)]; exact m4 i i0 i1, ⟨by omega, by omega, by rw [Int.zero_add, pup_at]⟩, fun i i0 i1 => by rw [pup_off (by omega), pup_off (by omega)]; exact m6 i i0 (by omega)⟩
  · rw [in_no (L_of_R hn) (by omega) (by omega) c, Option.bind_some, i00]
    refine ⟨-1, ρ, τ, ?_, rfl, W, H, fm, hr⟩
    by_cases c0 : n < 0
    · rw [if_pos c0]
    · rw [if_neg c0, if_neg (by omega)]
theorem k_see (h : Rel ρ τ) {c b : Int} (hc : inR c) (hb : b = 0 ∨ b = 1) : ∃ r ρ' τ', f_X8_see c b ρ = some (r, ρ') ∧ f_X9_see c b τ = some (r, τ') ∧ Rel ρ' τ' := by
  obtain ⟨W, H, fm, hr⟩ := h
  obtain ⟨a1, a2, a3, a4, a5, a6, a7, a8⟩ := id hr
  obtain ⟨m1, m2, m3, m4, m5, m6⟩ := a3
  obtain ⟨lc, lm, -⟩ := a1
  have bd := lc.1.bd
  have e39 : τ 63 39 = ρ 4 6 := by rw [← m5.2.2, Int.zero_add]
  have hR : inR (ρ 4 6) := by omega
  unfold f_X8_see f_X9_see
  by_cases k : 0 ≤ c ∧ c < W * H
  · rw [hasCell_yes lc k, isCell_yes lm k, Option.bind_some, Option.bind_some, i10, i10, e39]
    simp only [ckp hR]
    by_cases c1 : ρ 4 6 < 8
    · rw [if_pos c1, if_neg (by omega), ckp (Z_R hb), ckp (by omega)]
      dsimp only [jn]
      rw [flag_eq (Z_R hb), Option.bind_some]
      obtain ⟨n, en⟩ : ∃ n, n = ρ 4 6 := ⟨_, rfl⟩
      rw [← en] at c1 m5 m6 e39 ⊢
      have g1 : ∀ x, pup ρ 7 n x 4 6 = n := fun x => by rw [pup_ne (by omega), en]
      have g2 : pup τ 63 (40 + 2 * n) c 63 39 = n := by rw [pup_off (by omega)]; exact e39
      have g3 : ∀ x, pup (pup τ 63 (40 + 2 * n) c) 63 (40 + 2 * n + 1) x 63 39 = n := fun x => by rw [pup_off (by omega), g2]
      have fb : (if b = 0 then (0 : Int) else 1) = b := by rcases hb with rfl | rfl <;> rfl
      have hA : 0 ≤ n ∧ n < 8 := by omega
      have hB' : 0 ≤ 40 + 2 * n + 1 ∧ 40 + 2 * n + 1 < 168 := by omega
      rw [fb, g2]
      simp only [ckp hA, ckp hB', g1, g3, pup_at]
      obtain ⟨x, ex⟩ : ∃ x, x = if b = 0 then c - 25 else c := ⟨_, rfl⟩
      have ev : (if b = 0 then some (n + 1, pup (pup ρ 7 n (c - 25)) 4 6 (n + 1)) else some (n + 1, pup (pup ρ 7 n c) 4 6 (n + 1))) = some (n + 1, pup (pup ρ 7 n x) 4 6 (n + 1)) := by
        rw [ex]
        rcases hb with rfl | rfl <;> rfl
      rw [ev]
      refine ⟨_, _, _, rfl, rfl, W, H, fm, ?_⟩
      have eo : ∀ q, q ≠ 7 → q ≠ 4 → pup (pup ρ 7 n x) 4 6 (n + 1) q = ρ q := fun q b1 b2 => by rw [pup_ne b2, pup_ne b1]
      have e4 : ∀ j, j ≠ 6 → pup (pup ρ 7 n x) 4 6 (n + 1) 4 j = ρ 4 j := fun j b => by rw [pup_off b, pup_ne (by omega)]
      have et : ∀ j, j ≠ 39 → j ≠ 40 + 2 * n → j ≠ 40 + 2 * n + 1 → pup (pup (pup τ 63 (40 + 2 * n) c) 63 (40 + 2 * n + 1) b) 63 39 (n + 1) 63 j = τ 63 j := fun j b1 b2 b3 => by rw [pup_off b1, pup_off b3, pup_off b2]
      refine hr.now (fun q hq => eo q (by omega) (by omega)) (fun q hq => by rw [pup_ne (by omega), pup_ne (by omega), pup_ne (by omega)]) (fun j _ _ => by rw [pup_ne (by omega), pup_ne (by omega), pup_ne (by omega)]) (fun j j0 j1 => et j (by omega) (by omega) (by omega)) ?_ ?_ (a8.keep (eo _ (by omega) (by omega)) (eo _ (by omega) (by omega)) (fun q q0 q1 => eo q (by omega) (by omega)) (by rw [pup_ne (by omega), pup_ne (by omega), pup_ne (by omega)]))
      · rw [e4 4 (by omega)]
        exact a2.keep (eo _ (by omega) (by omega)) (eo _ (by omega) (by omega)) (eo _ (by omega) (by omega)) (fun j j0 j1 => et j (by omega) (by omega) (by omega))
      · unfold MiR
        rw [e4 4 (by omega), e4 5 (by omega), pup_at, eo (4 + 1) (by omega) (by omega), eo (4 + 2) (by omega) (by omega)]
        refine ⟨by rw [et _ (by omega) (by omega) (by omega)]; exact m1, fun g g0 g1 => by rw [et _ (by omega) (by omega) (by omega)]; exact m2 g g0 g1, by rw [et _ (by omega) (by omega) (by omega)]; exact m3, fun i i0 i1 => by rw [et _ (by omega) (by omega) (by omega)]; exact m4 i i0 i1, ⟨by omega, by omega, by rw [Int.zero_add, pup_at]⟩, fun i i0 i1 => ?_⟩
        rw [pup_ne (show 4 + 3 ≠ 4 by omega)]
        by_cases e : i = n
        · subst e
          have t1 : pup (pup (pup τ 63 (40 + 2 * i) c) 63 (40 + 2 * i + 1) b) 63 39 (i + 1) 63 (40 + 2 * i) = c := by rw [pup_off (by omega), pup_off (by omega), pup_at]
          have t2 : pup (pup (pup τ 63 (40 + 2 * i) c) 63 (40 + 2 * i + 1) b) 63 39 (i + 1) 63 (40 + 2 * i + 1) = b := by rw [pup_off (by omega), pup_at]
          have t3 : pup ρ 7 i x (4 + 3) i = x := pup_at
          rw [show (0 : Int) + 40 + 2 * i = 40 + 2 * i by omega, show (0 : Int) + 41 + 2 * i = 40 + 2 * i + 1 by omega, t1, t2, t3]
          refine ⟨k.1, by omega, ?_⟩
          rcases hb with rfl | rfl
          · exact Or.inr ⟨rfl, ex⟩
          · exact Or.inl ⟨rfl, ex⟩
        · rw [et _ (by omega) (by omega) (by omega), et _ (by omega) (by omega) (by omega), pup_off e]
          exact m6 i i0 (by omega)
    · rw [if_neg c1, if_pos (by omega)]
      exact ⟨-3, ρ, τ, rfl, rfl, W, H, fm, hr⟩
  · rw [hasCell_no lc hc k, isCell_no lm hc k, Option.bind_some, Option.bind_some, i00, i00]
    exact ⟨-1, ρ, τ, rfl, rfl, W, H, fm, hr⟩
end Calls
