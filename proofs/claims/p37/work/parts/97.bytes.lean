/-! the bytes of a text, as both see them -/
theorem lookM {ρ τ : pm} (tp : TpR ρ τ) {i : Int} (hi : 0 ≤ i ∧ i ≤ 330) : f_X9_look i τ = some (if ρ 50 1 ≤ i then -1 else τ 70 i) := by
  obtain ⟨⟨t1, t2, t3⟩, -⟩ := tp
  unfold f_X9_look
  rw [t3, ckp (by omega), ckp (by omega)]
  by_cases e : ρ 50 1 ≤ i
  · rw [if_pos e, if_pos e]
  · rw [if_neg e, if_neg e, ckp (by omega)]
theorem b8_val {x : Int} (h : 0 ≤ x ∧ x ≤ 255) : b8 x = if x < 128 then x else x - 256 := by
  have key : ∀ k : Fin 256, b8 (k.val : Int) = if (k.val : Int) < 128 then (k.val : Int) else (k.val : Int) - 256 := by decide +kernel
  have := key ⟨x.toNat, by omega⟩
  rw [show ((x.toNat : Nat) : Int) = x by omega] at this
  exact this
theorem b8_eq {x c : Int} (h : 0 ≤ x ∧ x ≤ 255) (hc : 0 ≤ c ∧ c < 128) : b8 x = c ↔ x = c := by
  rw [b8_val h]
  split <;> omega
theorem letterC {x : Int} (h : 0 ≤ x ∧ x ≤ 255) : f_X6_isLetter (b8 x) = some (if 97 ≤ x ∧ x ≤ 122 then 1 else 0) := by
  have b := b8_val h
  have r := b8_bd x
  unfold f_X6_isLetter
  rw [ckp (by omega)]
  by_cases c1 : b8 x < 97
  · rw [if_pos c1, if_neg (by split at b <;> omega)]
  · rw [if_neg c1]
    by_cases c2 : 122 < b8 x
    · rw [if_pos c2, if_neg (by split at b <;> omega)]
    · rw [if_neg c2, if_pos (by split at b <;> omega)]
theorem figureC {x : Int} (h : 0 ≤ x ∧ x ≤ 255) : f_X6_isFigure (b8 x) = some (if 48 ≤ x ∧ x ≤ 57 then 1 else 0) := by
  have b := b8_val h
  have r := b8_bd x
  unfold f_X6_isFigure
  rw [ckp (by omega)]
  by_cases c1 : b8 x < 48
  · rw [if_pos c1, if_neg (by split at b <;> omega)]
  · rw [if_neg c1]
    by_cases c2 : 57 < b8 x
    · rw [if_pos c2, if_neg (by split at b <;> omega)]
    · rw [if_neg c2, if_pos (by split at b <;> omega)]
/-- past the spaces; past the letters -/
def spc (B : Int → Int) : Nat → Int → Int
  | 0, a => a
  | m + 1, a => if B a = 32 then spc B m (a + 1) else a
def ltr (B : Int → Int) : Nat → Int → Int
  | 0, a => a
  | m + 1, a => if 97 ≤ B a ∧ B a ≤ 122 then ltr B m (a + 1) else a
theorem skipM {K : pm → Option pm} {ρ : pm} : ∀ (m n : Nat) (τ : pm) (a : Int), TpR ρ τ → m + 1 ≤ n → a + (m : Int) = ρ 50 1 → 0 ≤ a → τ 62 24 = a → ∃ τ', L_X9_next_8 K n τ = K τ' ∧ (∀ q, q ≠ 62 → τ' q = τ q) ∧ (∀ j, j ≠ 24 → τ' 62 j = τ 62 j) ∧ τ' 62 24 = spc (τ 70) m a := by
  intro m
  induction m with
  | zero =>
    intro n τ a tp hn ha a0 e
    obtain ⟨x, rfl⟩ : ∃ x, n = x + 1 := ⟨n - 1, by omega⟩
    have := tp.1
    rw [L_X9_next_8, e, lookM tp (by omega), Option.bind_some, if_pos (by omega), ckp (by decide), if_neg (by decide)]
    exact ⟨τ, rfl, fun _ _ => rfl, fun _ _ => rfl, e⟩
  | succ m ih =>
    intro n τ a tp hn ha a0 e
    obtain ⟨x, rfl⟩ : ∃ x, n = x + 1 := ⟨n - 1, by omega⟩
    have t1 := tp.1
    have t2 := tp.2 a a0 (by omega)
    have sp : spc (τ 70) (m + 1) a = if τ 70 a = 32 then spc (τ 70) m (a + 1) else a := rfl
    rw [L_X9_next_8, e, lookM tp (by omega), Option.bind_some, if_neg (by omega), ckp (by omega), sp]
    by_cases c : τ 70 a = 32
    · rw [if_pos c, if_pos c, jn_eq]
      have tp2 : TpR ρ (pup τ 62 24 (a + 1)) := tp.keep rfl rfl (pup_off (by omega)) (pup_ne (by omega))
      obtain ⟨τ', g1, g2, g3, g4⟩ := ih x (pup τ 62 24 (a + 1)) (a + 1) tp2 (by omega) (by omega) (by omega) pup_at
      rw [pup_ne (show 70 ≠ 62 by omega)] at g4
      exact ⟨τ', g1, fun q hq => by rw [g2 q hq, pup_ne hq], fun j hj => by rw [g3 j hj, pup_off hj], g4⟩
    · rw [if_neg c, if_neg c]
      exact ⟨τ, rfl, fun _ _ => rfl, fun _ _ => rfl, e⟩
theorem skipC {K : pm → Option pm} {τ : pm} : ∀ (m n : Nat) (ρ : pm) (a : Int), TpR ρ τ → m + 1 ≤ n → a + (m : Int) = ρ 50 1 → 0 ≤ a → ρ 50 2 = a → ∃ ρ', L_X6_next_0 K n ρ = K ρ' ∧ (∀ q, q ≠ 50 → ρ' q = ρ q) ∧ (∀ j, j ≠ 2 → ρ' 50 j = ρ 50 j) ∧ ρ' 50 2 = spc (τ 70) m a := by
  intro m
  induction m with
  | zero =>
    intro n ρ a tp hn ha a0 e
    obtain ⟨x, rfl⟩ : ∃ x, n = x + 1 := ⟨n - 1, by omega⟩
    have := tp.1
    rw [L_X6_next_0, e, ckp (by omega), ckp (by omega), if_pos (by omega)]
    exact ⟨ρ, rfl, fun _ _ => rfl, fun _ _ => rfl, e⟩
  | succ m ih =>
    intro n ρ a tp hn ha a0 e
    obtain ⟨x, rfl⟩ : ∃ x, n = x + 1 := ⟨n - 1, by omega⟩
    have t1 := tp.1
    have t2 := tp.2 a a0 (by omega)
    have rb := b8_R (τ 70 a)
    have sp : spc (τ 70) (m + 1) a = if τ 70 a = 32 then spc (τ 70) m (a + 1) else a := rfl
    rw [L_X6_next_0, e, ckp (by omega), ckp (by omega), if_neg (by omega), ckp (by omega), t2.2.2, ckp rb, sp]
    by_cases c : τ 70 a = 32
    · rw [if_pos ((b8_eq ⟨t2.1, t2.2.1⟩ (by omega)).mpr c), if_pos c, jn_eq]
      have tp2 : TpR (pup ρ 50 2 (a + 1)) τ := tp.keep (pup_off (by omega)) (pup_ne (by omega)) rfl rfl
      obtain ⟨ρ', g1, g2, g3, g4⟩ := ih x (pup ρ 50 2 (a + 1)) (a + 1) tp2 (by omega) (by rw [pup_off (by omega)]; omega) (by omega) pup_at
      exact ⟨ρ', g1, fun q hq => by rw [g2 q hq, pup_ne hq], fun j hj => by rw [g3 j hj, pup_off hj], g4⟩
    · rw [if_neg (fun z => c ((b8_eq ⟨t2.1, t2.2.1⟩ (by omega)).mp z)), if_neg c]
      exact ⟨ρ, rfl, fun _ _ => rfl, fun _ _ => rfl, e⟩
theorem lettersM {ρ : pm} : ∀ (m n : Nat) (τ : pm) (a : Int), TpR ρ τ → m + 1 ≤ n → a + (m : Int) = ρ 50 1 → 0 ≤ a → τ 62 24 = a → ∃ τ', L_X9_next_82 n τ = some τ' ∧ (∀ q, q ≠ 62 → τ' q = τ q) ∧ (∀ j, j ≠ 24 → τ' 62 j = τ 62 j) ∧ τ' 62 24 = ltr (τ 70) m a := by
  intro m
  induction m with
  | zero =>
    intro n τ a tp hn ha a0 e
    obtain ⟨x, rfl⟩ : ∃ x, n = x + 1 := ⟨n - 1, by omega⟩
    have := tp.1
    rw [L_X9_next_82, e, lookM tp (by omega), Option.bind_some, if_pos (by omega), ckp (by decide), in_no (by decide) (by decide) (by decide) (by decide), Option.bind_some, i00]
    exact ⟨τ, rfl, fun _ _ => rfl, fun _ _ => rfl, e⟩
  | succ m ih =>
    intro n τ a tp hn ha a0 e
    obtain ⟨x, rfl⟩ : ∃ x, n = x + 1 := ⟨n - 1, by omega⟩
    have t1 := tp.1
    have t2 := tp.2 a a0 (by omega)
    have sp : ltr (τ 70) (m + 1) a = if 97 ≤ τ 70 a ∧ τ 70 a ≤ 122 then ltr (τ 70) m (a + 1) else a := rfl
    rw [L_X9_next_82, e, lookM tp (by omega), Option.bind_some, if_neg (by omega), ckp (by omega), sp]
    by_cases c : 97 ≤ τ 70 a ∧ τ 70 a ≤ 122
    · rw [in_yes (by omega) (by omega) (by omega) c, Option.bind_some, i10, if_pos c, jn_eq]
      have tp2 : TpR ρ (pup τ 62 24 (a + 1)) := tp.keep rfl rfl (pup_off (by omega)) (pup_ne (by omega))
      obtain ⟨τ', g1, g2, g3, g4⟩ := ih x (pup τ 62 24 (a + 1)) (a + 1) tp2 (by omega) (by omega) (by omega) pup_at
      rw [pup_ne (show 70 ≠ 62 by omega)] at g4
      exact ⟨τ', g1, fun q hq => by rw [g2 q hq, pup_ne hq], fun j hj => by rw [g3 j hj, pup_off hj], g4⟩
    · rw [in_no (by omega) (by omega) (by omega) c, Option.bind_some, i00, if_neg c]
      exact ⟨τ, rfl, fun _ _ => rfl, fun _ _ => rfl, e⟩
