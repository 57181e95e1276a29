/-! text() of both -/
def L_X1_take_12 (K70 : Int → pm → Option (Int × pm)) (K37 : Int → pm → Option (Int × pm)) : Nat → Int → Int → pm → Option (Int × pm)
  | 0, _, _, _ => none
  | n + 1, l2, l3, ρ => ck (inR l3) (if 320 < l3 then K70 l2 ρ else (f_X6_next ρ).bind (fun ρ4 => ck (inR (ρ4 50 6)) (jn (fun (l2 l3 : Int) (ρ : pm) => ck (inR (ρ 50 6)) (jn (fun (l2 l3 : Int) (ρ : pm) => ck (inR (ρ 50 6)) (if (ρ 50 6) = 0 then jn (l2 + 1) (fun x8 => jn (l3 + 1) (fun x9 => L_X1_take_12 K70 K37 n x8 x9 ρ)) else some (0, ρ))) (fun j52 => if (ρ 50 6) = 0 then (f_X1_takeLine ρ).bind (fun ρ10 => j52 l2 l3 ρ10) else j52 l2 l3 ρ))) (fun j40 => if (ρ4 50 6) = 0 then ck (inR (ρ4 50 3)) (if (ρ4 50 3) = 0 then K37 l2 ρ4 else j40 l2 l3 ρ4) else j40 l2 l3 ρ4))))
def f_X1_take (ρ : pm) : Option (Int × pm) := (f_X1_clear ρ).bind (fun ρ1 => (f_X6_rewind ρ1).bind (fun ρ2 => L_X1_take_12 (fun (l2 : Int) (ρ : pm) => (f_X1_isWhole ρ).bind (fun v12 => if v12 = 0 then (f_X6_failBehindAll 6 ρ).bind (fun ρ14 => some (l2, ρ14)) else some (l2, ρ))) (fun (l2 : Int) (ρ : pm) => (f_X1_isWhole ρ).bind (fun v15 => if v15 = 0 then (f_X6_failBehindAll 6 ρ).bind (fun ρ17 => some (l2, ρ17)) else some (l2, ρ))) fu 0 0 ρ2))
def f_X8_text (ρ : pm) : Option (Int × pm) := bn2 (f_X1_take ρ) (fun v1 ρ2 => jn (pup ρ2 0 12 (ρ2 50 6)) (fun ρ3 => jn (pup ρ3 50 1 0) (fun ρ4 => ck (inR (ρ4 0 12)) (if (ρ4 0 12) = 0 then (f_X1_settle ρ4).bind (fun ρ6 => jn (pup ρ6 28 6 0) (fun ρ7 => jn (pup ρ7 0 11 0) (fun ρ8 => some (v1, ρ8)))) else some ((-10) - (ρ4 50 7), ρ4)))))
theorem clearC (ρ : pm) : ∃ ρ', f_X1_clear ρ = some ρ' ∧ (∀ q, q < 52 ∨ 56 < q → ρ' q = ρ q) ∧ ρ' 52 4 = 3 ∧ ρ' 52 5 = 3 ∧ ρ' 52 6 = 0 ∧ ρ' 52 7 = 0 ∧ ρ' 52 8 = 0 ∧ ρ' 52 9 = 0 ∧ (∀ j, 0 ≤ j → j < 25 → ρ' 53 j = 0) ∧ (∀ j, 0 ≤ j → j < 5 → ρ' 54 j = 0) ∧ (∀ j, 0 ≤ j → j < 3 → ρ' 55 j = 0) ∧ (∀ j, 0 ≤ j → j < 3 → ρ' 56 j = 0) := by
  obtain ⟨ρ1, a1, a2, a3, a4⟩ := fillC (q := 53) (nn := 25) (v := 0) ρ (by omega)
  obtain ⟨ρ2, b1, b2, b3, b4⟩ := fillC (q := 54) (nn := 5) (v := 0) ρ1 (by omega)
  obtain ⟨ρ3, c1, c2, c3, c4⟩ := fillC (q := 55) (nn := 3) (v := 0) ρ2 (by omega)
  obtain ⟨ρ4, d1, d2, d3, d4⟩ := fillC (q := 56) (nn := 3) (v := 0) ρ3 (by omega)
  unfold f_X1_clear
  dsimp only [jn]
  rw [a1, Option.bind_some, b1, Option.bind_some, c1, Option.bind_some, d1, Option.bind_some]
  refine ⟨_, rfl, fun q hq => ?_, ?_, ?_, ?_, ?_, ?_, ?_, fun j j0 j1 => ?_, fun j j0 j1 => ?_, fun j j0 j1 => ?_, fun j j0 j1 => ?_⟩
  · rw [pup_ne (by omega), pup_ne (by omega), pup_ne (by omega), pup_ne (by omega), pup_ne (by omega), pup_ne (by omega), d2 q (by omega), c2 q (by omega), b2 q (by omega), a2 q (by omega)]
  · rw [pup_off (by omega), pup_off (by omega), pup_off (by omega), pup_off (by omega), pup_off (by omega), pup_at]
  · rw [pup_off (by omega), pup_off (by omega), pup_off (by omega), pup_off (by omega), pup_at]
  · rw [pup_off (by omega), pup_off (by omega), pup_off (by omega), pup_at]
  · rw [pup_off (by omega), pup_off (by omega), pup_at]
  · rw [pup_off (by omega), pup_at]
  · rw [pup_at]
  · rw [pup_ne (by omega), pup_ne (by omega), pup_ne (by omega), pup_ne (by omega), pup_ne (by omega), pup_ne (by omega), d2 53 (by omega), c2 53 (by omega), b2 53 (by omega)]; exact a3 j j0 (by omega)
  · rw [pup_ne (by omega), pup_ne (by omega), pup_ne (by omega), pup_ne (by omega), pup_ne (by omega), pup_ne (by omega), d2 54 (by omega), c2 54 (by omega)]; exact b3 j j0 (by omega)
  · rw [pup_ne (by omega), pup_ne (by omega), pup_ne (by omega), pup_ne (by omega), pup_ne (by omega), pup_ne (by omega), d2 55 (by omega)]; exact c3 j j0 (by omega)
  · rw [pup_ne (by omega), pup_ne (by omega), pup_ne (by omega), pup_ne (by omega), pup_ne (by omega), pup_ne (by omega)]; exact d3 j j0 (by omega)
theorem fd_cells {K : pm → Option pm} : ∀ (m n : Nat) (i : Int) (τ : pm), m + 1 ≤ n → i + (m : Int) = 25 → 0 ≤ i → ∃ τ', L_X9_firstDraft_32 K n i τ = K τ' ∧ (∀ q, q ≠ 66 → q ≠ 68 → τ' q = τ q) ∧ (∀ j, i ≤ j → j < 25 → τ' 66 j = 0 ∧ τ' 68 j = -4) ∧ (∀ j, j < i → τ' 66 j = τ 66 j ∧ τ' 68 j = τ 68 j) := by
  intro m
  induction m with
  | zero =>
    intro n i τ hn e i0
    obtain ⟨n, rfl⟩ : ∃ n', n = n' + 1 := ⟨n - 1, by omega⟩
    refine ⟨τ, ?_, fun _ _ _ => rfl, fun j j0 j1 => by omega, fun _ _ => ⟨rfl, rfl⟩⟩
    rw [L_X9_firstDraft_32, ckp (show inR i from ⟨by omega, by omega⟩), if_pos (by omega)]
  | succ m ih =>
    intro n i τ hn e i0
    obtain ⟨n, rfl⟩ : ∃ n', n = n' + 1 := ⟨n - 1, by omega⟩
    obtain ⟨τ', x1, x2, x3, x4⟩ := ih n (i + 1) (pup (pup τ 66 i 0) 68 i (-4)) (by omega) (by omega) (by omega)
    refine ⟨τ', ?_, fun q a b => by rw [x2 q a b, pup_ne b, pup_ne a], fun j j0 j1 => ?_, fun j j0 => ?_⟩
    · rw [L_X9_firstDraft_32, ckp (show inR i from ⟨by omega, by omega⟩), if_neg (by omega), ckp (by omega), jn_eq, jn_eq, jn_eq]
      exact x1
    · by_cases ej : j = i
      · have := x4 j (by omega)
        rw [this.1, this.2, ej, pup_at, pup_ne (by omega), pup_at]
        exact ⟨rfl, rfl⟩
      · exact x3 j (by omega) j1
    · have := x4 j (by omega)
      rw [this.1, this.2, pup_off (by omega), pup_ne (by omega), pup_off (by omega), pup_ne (by omega)]
      exact ⟨rfl, rfl⟩
theorem fd_farms {K : pm → Option pm} : ∀ (m n : Nat) (i : Int) (τ : pm), m + 1 ≤ n → i + (m : Int) = 3 → 0 ≤ i → ∃ τ', L_X9_firstDraft_61 K n i τ = K τ' ∧ (∀ q, q ≠ 67 → q ≠ 69 → τ' q = τ q) ∧ (∀ j, i ≤ j → j < 3 → τ' 67 j = 0 ∧ τ' 69 j = 0) ∧ (∀ j, j < i → τ' 67 j = τ 67 j ∧ τ' 69 j = τ 69 j) := by
  intro m
  induction m with
  | zero =>
    intro n i τ hn e i0
    obtain ⟨n, rfl⟩ : ∃ n', n = n' + 1 := ⟨n - 1, by omega⟩
    refine ⟨τ, ?_, fun _ _ _ => rfl, fun j j0 j1 => by omega, fun _ _ => ⟨rfl, rfl⟩⟩
    rw [L_X9_firstDraft_61, ckp (show inR i from ⟨by omega, by omega⟩), if_pos (by omega)]
  | succ m ih =>
    intro n i τ hn e i0
    obtain ⟨n, rfl⟩ : ∃ n', n = n' + 1 := ⟨n - 1, by omega⟩
    obtain ⟨τ', x1, x2, x3, x4⟩ := ih n (i + 1) (pup (pup τ 69 i 0) 67 i 0) (by omega) (by omega) (by omega)
    refine ⟨τ', ?_, fun q a b => by rw [x2 q a b, pup_ne a, pup_ne b], fun j j0 j1 => ?_, fun j j0 => ?_⟩
    · rw [L_X9_firstDraft_61, ckp (show inR i from ⟨by omega, by omega⟩), if_neg (by omega), ckp (by omega), jn_eq, jn_eq, jn_eq]
      exact x1
    · by_cases ej : j = i
      · have := x4 j (by omega)
        rw [this.1, this.2, ej, pup_at, pup_ne (by omega), pup_at]
        exact ⟨rfl, rfl⟩
      · exact x3 j (by omega) j1
    · have := x4 j (by omega)
      rw [this.1, this.2, pup_off (by omega), pup_ne (by omega), pup_ne (by omega), pup_off (by omega)]
      exact ⟨rfl, rfl⟩
theorem draftM (τ : pm) : ∃ τ', f_X9_firstDraft τ = some τ' ∧ (∀ q, q ≠ 62 → (q < 66 ∨ 69 < q) → τ' q = τ q) ∧ (∀ j, (j < 6 ∨ j = 22 ∨ j = 23 ∨ 23 < j) → τ' 62 j = τ 62 j) ∧ τ' 62 6 = 3 ∧ τ' 62 7 = 3 ∧ τ' 62 8 = 0 ∧ τ' 62 9 = 0 ∧ τ' 62 10 = 0 ∧ τ' 62 11 = 0 ∧ τ' 62 16 = 0 ∧ τ' 62 17 = 0 ∧ τ' 62 18 = -4 ∧ τ' 62 19 = -4 ∧ τ' 62 20 = -4 ∧ τ' 62 21 = -4 ∧ (∀ j, 0 ≤ j → j < 25 → τ' 66 j = 0 ∧ τ' 68 j = -4) ∧ (∀ j, 0 ≤ j → j < 3 → τ' 67 j = 0 ∧ τ' 69 j = 0) := by
  unfold f_X9_firstDraft
  rw [jn_eq, jn_eq, jn_eq, jn_eq, jn_eq, jn_eq]
  obtain ⟨τ6, e6⟩ : ∃ τ6, τ6 = pup (pup (pup (pup (pup (pup τ 62 6 3) 62 7 3) 62 8 0) 62 9 0) 62 10 0) 62 11 0 := ⟨_, rfl⟩
  rw [← e6]
  obtain ⟨K2, eK2⟩ : ∃ K2 : pm → Option pm, K2 = fun (ρ : pm) => jn (pup ρ 62 16 0) (fun ρ17 => jn (pup ρ17 62 17 0) (fun ρ18 => jn (pup ρ18 62 18 (-4)) (fun ρ19 => jn (pup ρ19 62 19 (-4)) (fun ρ20 => jn (pup ρ20 62 20 (-4)) (fun ρ21 => jn (pup ρ21 62 21 (-4)) (fun ρ22 => some ρ22)))))) := ⟨_, rfl⟩
  rw [← eK2]
  obtain ⟨K1, eK1⟩ : ∃ K1 : pm → Option pm, K1 = fun (ρ : pm) => L_X9_firstDraft_61 K2 fu 0 ρ := ⟨_, rfl⟩
  rw [← eK1]
  obtain ⟨τa, a1, a2, a3, a4⟩ := fd_cells (K := K1) 25 fu 0 τ6 (by unfold fu; omega) (by omega) (by omega)
  obtain ⟨τb, b1, b2, b3, b4⟩ := fd_farms (K := K2) 3 fu 0 τa (by unfold fu; omega) (by omega) (by omega)
  rw [a1, eK1]
  show ∃ τ', L_X9_firstDraft_61 K2 fu 0 τa = some τ' ∧ _
  rw [b1, eK2]
  dsimp only [jn]
  have s62 : τb 62 = τ6 62 := by rw [b2 62 (by omega) (by omega), a2 62 (by omega) (by omega)]
  refine ⟨_, rfl, fun q x y => ?_, fun j hj => ?_, ?_, ?_, ?_, ?_, ?_, ?_, ?_, ?_, ?_, ?_, ?_, ?_, fun j j0 j1 => ?_, fun j j0 j1 => ?_⟩
  · rw [pup_ne x, pup_ne x, pup_ne x, pup_ne x, pup_ne x, pup_ne x, b2 q (by omega) (by omega), a2 q (by omega) (by omega), e6, pup_ne x, pup_ne x, pup_ne x, pup_ne x, pup_ne x, pup_ne x]
  · rw [pup_off (by omega), pup_off (by omega), pup_off (by omega), pup_off (by omega), pup_off (by omega), pup_off (by omega), s62, e6, pup_off (by omega), pup_off (by omega), pup_off (by omega), pup_off (by omega), pup_off (by omega), pup_off (by omega)]
  · rw [pup_off (by omega), pup_off (by omega), pup_off (by omega), pup_off (by omega), pup_off (by omega), pup_off (by omega), s62, e6, pup_off (by omega), pup_off (by omega), pup_off (by omega), pup_off (by omega), pup_off (by omega), pup_at]
  · rw [pup_off (by omega), pup_off (by omega), pup_off (by omega), pup_off (by omega), pup_off (by omega), pup_off (by omega), s62, e6, pup_off (by omega), pup_off (by omega), pup_off (by omega), pup_off (by omega), pup_at]
  · rw [pup_off (by omega), pup_off (by omega), pup_off (by omega), pup_off (by omega), pup_off (by omega), pup_off (by omega), s62, e6, pup_off (by omega), pup_off (by omega), pup_off (by omega), pup_at]
  · rw [pup_off (by omega), pup_off (by omega), pup_off (by omega), pup_off (by omega), pup_off (by omega), pup_off (by omega), s62, e6, pup_off (by omega), pup_off (by omega), pup_at]
  · rw [pup_off (by omega), pup_off (by omega), pup_off (by omega), pup_off (by omega), pup_off (by omega), pup_off (by omega), s62, e6, pup_off (by omega), pup_at]
  · rw [pup_off (by omega), pup_off (by omega), pup_off (by omega), pup_off (by omega), pup_off (by omega), pup_off (by omega), s62, e6, pup_at]
  · rw [pup_off (by omega), pup_off (by omega), pup_off (by omega), pup_off (by omega), pup_off (by omega), pup_at]
  · rw [pup_off (by omega), pup_off (by omega), pup_off (by omega), pup_off (by omega), pup_at]
  · rw [pup_off (by omega), pup_off (by omega), pup_off (by omega), pup_at]
  · rw [pup_off (by omega), pup_off (by omega), pup_at]
  · rw [pup_off (by omega), pup_at]
  · rw [pup_at]
  · rw [pup_ne (by omega), pup_ne (by omega), pup_ne (by omega), pup_ne (by omega), pup_ne (by omega), pup_ne (by omega), b2 66 (by omega) (by omega), pup_ne (by omega), pup_ne (by omega), pup_ne (by omega), pup_ne (by omega), pup_ne (by omega), pup_ne (by omega), b2 68 (by omega) (by omega)]
    exact a3 j j0 j1
  · rw [pup_ne (by omega), pup_ne (by omega), pup_ne (by omega), pup_ne (by omega), pup_ne (by omega), pup_ne (by omega), pup_ne (by omega), pup_ne (by omega), pup_ne (by omega), pup_ne (by omega), pup_ne (by omega), pup_ne (by omega)]
    exact b3 j j0 j1
/-- the loop over the lines -/
theorem takeLoop {K70 K37 : Int → pm → Option (Int × pm)} {K44 : Int → pm → Option (Int × pm)} : ∀ (k n m : Nat) (i : Int) (ρ τ : pm), i + (k : Int) = 320 → 0 ≤ i → k + 2 ≤ n → k + 2 ≤ m → AhR ρ τ → DraR ρ τ → i ≤ ρ 50 2 →
    (∃ v ρ' τ' l, L_X1_take_12 K70 K37 n i i ρ = some (v, ρ') ∧ L_X9_text_20 K44 m i τ = K44 l τ' ∧ BadR ρ' τ' ∧ lnC ρ ρ' ∧ lnM τ τ') ∨
    (∃ l ρ' τ', L_X1_take_12 K70 K37 n i i ρ = K37 l ρ' ∧ L_X9_text_20 K44 m i τ = K44 l τ' ∧ TokR ρ' τ' ∧ ρ' 50 3 = 0 ∧ DraR ρ' τ' ∧ lnC ρ ρ' ∧ lnM τ τ') := by
  intro k
  induction k with
  | zero =>
    intro n m i ρ τ e i0 hn hm a d hp
    obtain ⟨n, rfl⟩ : ∃ n', n = n' + 1 := ⟨n - 1, by omega⟩
    obtain ⟨m, rfl⟩ : ∃ m', m = m' + 2 := ⟨m - 2, by omega⟩
    have tp0 := a.1.1
    obtain ⟨ρ4, c1, c2, tp, c3, c4⟩ := a.next
    rw [L_X1_take_12, ckp (show inR i from ⟨by omega, by omega⟩), if_neg (by omega), c1, Option.bind_some]
    dsimp only [jn]
    rcases c4 with ⟨b, b1⟩ | t
    · left
      have b6 := b.1
      have r6 : inR (ρ4 50 6) := ⟨by omega, by omega⟩
      refine ⟨0, ρ4, τ, i, ?_, ?_, b, c2.ln, tkM.ln (tkM.refl _)⟩
      · rw [ckp r6, if_neg (by omega), ckp r6, if_neg (by omega), ckp r6, if_neg (by omega)]
      · rw [L_X9_text_20, b1, ckp (by decide), if_neg (by decide)]
    · right
      have t' := t
      obtain ⟨b1, b2, b3, b4, b5, b6, b7, b8, b9, b10⟩ := t'
      have e1 := c2.2 1 (by omega)
      have k0 : ρ4 50 3 = 0 := Classical.byContradiction (fun z => by have := b8 z; omega)
      refine ⟨i, ρ4, τ, ?_, ?_, t, k0, d.tk c2 (tkM.refl _), c2.ln, tkM.ln (tkM.refl _)⟩
      · rw [b1, ckp R_0, i00, k0, ckp R_0, i00]
      · rw [L_X9_text_20, b2, ckp R_0, i00, b3, k0, ckp R_0, i00]
  | succ k ih =>
    intro n m i ρ τ e i0 hn hm a d hp
    obtain ⟨n, rfl⟩ : ∃ n', n = n' + 1 := ⟨n - 1, by omega⟩
    obtain ⟨m, rfl⟩ : ∃ m', m = m' + 2 := ⟨m - 2, by omega⟩
    have tp0 := a.1.1
    obtain ⟨ρ4, c1, c2, tp, c3, c4⟩ := a.next
    rw [L_X1_take_12, ckp (show inR i from ⟨by omega, by omega⟩), if_neg (by omega), c1, Option.bind_some]
    dsimp only [jn]
    rcases c4 with ⟨b, b1⟩ | t
    · left
      have b6 := b.1
      have r6 : inR (ρ4 50 6) := ⟨by omega, by omega⟩
      refine ⟨0, ρ4, τ, i, ?_, ?_, b, c2.ln, tkM.ln (tkM.refl _)⟩
      · rw [ckp r6, if_neg (by omega), ckp r6, if_neg (by omega), ckp r6, if_neg (by omega)]
      · rw [L_X9_text_20, b1, ckp (by decide), if_neg (by decide)]
    · have t' := t
      obtain ⟨b1, b2, b3, b4, b5, b6, b7, b8, b9, b10⟩ := t'
      have r3 : inR (ρ4 50 3) := ⟨by omega, by omega⟩
      by_cases k0 : ρ4 50 3 = 0
      · right
        refine ⟨i, ρ4, τ, ?_, ?_, t, k0, d.tk c2 (tkM.refl _), c2.ln, tkM.ln (tkM.refl _)⟩
        · rw [b1, ckp R_0, i00, k0, ckp R_0, i00]
        · rw [L_X9_text_20, b2, ckp R_0, i00, b3, k0, ckp R_0, i00]
      · obtain ⟨ρ5, τ5, l1, l2, l3, l4, l5⟩ := lineR tp t (d.tk c2 (tkM.refl _))
        have eT : L_X9_text_20 K44 (m + 2) i τ = L_X9_text_20 K44 (m + 1) (i + 1) τ5 := by
          rw [show m + 2 = (m + 1) + 1 from rfl, L_X9_text_20, b2, ckp R_0, i00, b3, ckp r3, if_neg k0, l2, Option.bind_some, jn_eq]
        rw [eT, b1, ckp R_0, i00, ckp r3, if_neg k0, ckp R_0, i00, l1, Option.bind_some]
        rcases l5 with b | ⟨a5, d5, p5⟩
        · left
          have q6 := b.1
          have q28 := b.2.1
          refine ⟨0, ρ5, τ5, i + 1, ?_, ?_, b, c2.ln.trans l3, l4⟩
          · rw [ckp (show inR (ρ5 50 6) from ⟨by omega, by omega⟩), if_neg (by omega)]
          · rw [L_X9_text_20, ckp (show inR (τ5 62 28) from ⟨by omega, by omega⟩), if_neg (by omega)]
        · have f5 := a5.2.1
          rw [f5, ckp R_0, i00]
          have := b8 k0
          rcases ih n (m + 1) (i + 1) ρ5 τ5 (by omega) (by omega) (by omega) (by omega) a5 d5 (by omega) with ⟨v, ρ', τ', l, x1, x2, x3, x4, x5⟩ | ⟨l, ρ', τ', x1, x2, x3, x4, x5, x6, x7⟩
          · exact Or.inl ⟨v, ρ', τ', l, x1, x2, x3, (c2.ln.trans l3).trans x4, l4.trans x5⟩
          · exact Or.inr ⟨l, ρ', τ', x1, x2, x3, x4, x5, (c2.ln.trans l3).trans x6, l4.trans x7⟩
theorem DraR.first {ρ τ : pm} (c4 : ρ 52 4 = 3) (c5 : ρ 52 5 = 3) (c6 : ρ 52 6 = 0) (c7 : ρ 52 7 = 0) (c8 : ρ 52 8 = 0) (c9 : ρ 52 9 = 0) (y : ∀ j, 0 ≤ j → j < 25 → ρ 53 j = 0) (l : ∀ j, 0 ≤ j → j < 5 → ρ 54 j = 0) (g : ∀ j, 0 ≤ j → j < 3 → ρ 55 j = 0) (w : ∀ j, 0 ≤ j → j < 3 → ρ 56 j = 0)
    (m6 : τ 62 6 = 3) (m7 : τ 62 7 = 3) (m8 : τ 62 8 = 0) (m9 : τ 62 9 = 0) (m10 : τ 62 10 = 0) (m11 : τ 62 11 = 0) (m16 : τ 62 16 = 0) (m17 : τ 62 17 = 0) (m18 : τ 62 18 = -4) (m19 : τ 62 19 = -4) (m20 : τ 62 20 = -4) (m21 : τ 62 21 = -4) (o : ∀ j, 0 ≤ j → j < 25 → τ 66 j = 0 ∧ τ 68 j = -4) (p : ∀ j, 0 ≤ j → j < 3 → τ 67 j = 0 ∧ τ 69 j = 0) : DraR ρ τ := by
  unfold DraR DsR DlR DcR DwR DyR DgR
  rw [c4, c5, c6, c7, c8, c9, m6, m7, m8, m9, m10, m11, m16, m17, m18, m19, m20, m21]
  refine ⟨by omega, by omega, ⟨by omega, rfl, by decide, fun _ => rfl⟩, ⟨by omega, rfl, fun f f0 f1 => ?_⟩, ⟨fun j j0 j1 => ?_, fun r r0 r1 => ?_, by omega, by omega, fun H hH => ⟨fun _ r r0 r1 z => absurd (l r r0 r1) z, fun _ => by omega⟩, fun W hW => ⟨fun _ r r0 r1 => by rw [l r r0 r1]; exact hW, fun _ => by omega⟩⟩, ⟨by omega, fun c c0 c1 => Or.inl (o c c0 c1).2, fun f f0 f1 => ⟨?_, ?_, fun c c0 c1 => ?_⟩, by omega, by omega, fun N hN => ⟨fun _ => ⟨by omega, fun c c0 c1 z => absurd (o c c0 c1).2 z⟩, fun _ => by omega⟩, fun n hn => ⟨fun _ c c0 c1 => by rw [(o c c0 c1).2]; omega, fun _ => by omega⟩⟩⟩
  · rw [(p f f0 f1).1, w f f0 f1]; omega
  · rw [(o j j0 j1).1, y j j0 j1]; omega
  · rw [l r r0 r1, bt_zero (by omega)]; omega
  · rw [g f f0 f1]; omega
  · rw [(p f f0 f1).2]
    have := sm_bd (f := fun c => if τ 68 c = f then 1 else 0) (a := 0) (b := 0) (n := 25) (fun j hj => by
      show 0 ≤ (if τ 68 (j : Int) = f then (1 : Int) else 0) ∧ (if τ 68 (j : Int) = f then (1 : Int) else 0) ≤ 0
      rw [(o (j : Int) (by omega) (by omega)).2, if_neg (by omega)]
      omega)
    omega
  · rw [g f f0 f1]
    refine ⟨fun z => absurd z (on_zero (by omega)), fun z => ?_⟩
    have := (o c c0 z.1).2
    omega
theorem RelW.text {W H fm : Int} {ρ τ ρ' τ' : pm} (h : RelW W H fm ρ τ) (c : ∀ q, (1 ≤ q ∧ q < 50) ∨ q = 51 ∨ 56 < q → ρ' q = ρ q) (c11 : ρ' 0 11 = ρ 0 11) (c13 : ρ' 0 13 = ρ 0 13) (m : ∀ q, (62 < q ∧ q < 66) ∨ 69 < q → τ' q = τ q) (m2 : ∀ j, j = 2 ∨ j = 3 ∨ j = 4 ∨ j = 45 → τ' 62 j = τ 62 j) (tp : TpR ρ' τ') : RelW W H fm ρ' τ' := by
  obtain ⟨a1, a2, a3, a4, a5, a6, a7, a8⟩ := h
  have t63 := m 63 (by omega)
  refine ⟨a1.keep (c _ (by omega)) (c _ (by omega)) (c _ (by omega)) (m2 _ (by omega)) (m2 _ (by omega)) (m2 _ (by omega)) (m _ (by omega)), ?_, a3.keep (c _ (by omega)) (c _ (by omega)) (c _ (by omega)) (c _ (by omega)) (fun j _ _ => by rw [t63]), a4.keep c11 (fun q q0 q1 => c q (by omega)) (m _ (by omega)) (fun j _ _ => by rw [t63]), a5.keep (c _ (by omega)) (c _ (by omega)) (c _ (by omega)) (m _ (by omega)) (m _ (by omega)) (m _ (by omega)), tp, by rw [m2 45 (by omega), c13]; exact a7, a8.keep (c _ (by omega)) (c _ (by omega)) (fun q q0 q1 => c q (by omega)) (m _ (by omega))⟩
  rw [c 4 (by omega)]
  exact a2.keep (c _ (by omega)) (c _ (by omega)) (c _ (by omega)) (fun j _ _ => by rw [t63])
