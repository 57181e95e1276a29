/-! letters and figures of a token -/
theorem lettersC {K : pm → Option pm} {τ : pm} : ∀ (m n : Nat) (ρ : pm) (a : Int), TpR ρ τ → m + 1 ≤ n → a + (m : Int) = ρ 50 1 → 0 ≤ a → ρ 50 2 = a → ρ 50 3 = 1 → ∃ ρ', L_X6_next_122 K n ρ = K ρ' ∧ (∀ q, q ≠ 50 → ρ' q = ρ q) ∧ (∀ j, j ≠ 2 → ρ' 50 j = ρ 50 j) ∧ ρ' 50 2 = ltr (τ 70) m a := by
  intro m
  induction m with
  | zero =>
    intro n ρ a tp hn ha a0 e e3
    obtain ⟨x, rfl⟩ : ∃ x, n = x + 1 := ⟨n - 1, by omega⟩
    have := tp.1
    rw [L_X6_next_122, e, ckp (by omega), ckp (by omega), if_pos (by omega)]
    exact ⟨ρ, rfl, fun _ _ => rfl, fun _ _ => rfl, e⟩
  | succ m ih =>
    intro n ρ a tp hn ha a0 e e3
    obtain ⟨x, rfl⟩ : ∃ x, n = x + 1 := ⟨n - 1, by omega⟩
    have t1 := tp.1
    have t2 := tp.2 a a0 (by omega)
    have sp : ltr (τ 70) (m + 1) a = if 97 ≤ τ 70 a ∧ τ 70 a ≤ 122 then ltr (τ 70) m (a + 1) else a := rfl
    rw [L_X6_next_122, e, e3, ckp (by omega), ckp (by omega), if_neg (by omega), ckp (by decide), if_pos rfl, ckp (by omega), t2.2.2, letterC ⟨t2.1, t2.2.1⟩, Option.bind_some, sp]
    by_cases c : 97 ≤ τ 70 a ∧ τ 70 a ≤ 122
    · rw [if_pos c, if_pos c, i10, jn_eq]
      have tp2 : TpR (pup ρ 50 2 (a + 1)) τ := tp.keep (pup_off (by omega)) (pup_ne (by omega)) rfl rfl
      obtain ⟨ρ', g1, g2, g3, g4⟩ := ih x (pup ρ 50 2 (a + 1)) (a + 1) tp2 (by omega) (by rw [pup_off (by omega)]; omega) (by omega) pup_at (by rw [pup_off (by omega)]; exact e3)
      exact ⟨ρ', g1, fun q hq => by rw [g2 q hq, pup_ne hq], fun j hj => by rw [g3 j hj, pup_off hj], g4⟩
    · rw [if_neg c, if_neg c, i00]
      exact ⟨ρ, rfl, fun _ _ => rfl, fun _ _ => rfl, e⟩
/-- past the figures, and what they are worth -/
def fig (B : Int → Int) : Nat → Int → Int
  | 0, a => a
  | m + 1, a => if 48 ≤ B a ∧ B a ≤ 57 then fig B m (a + 1) else a
theorem fig_le {B : Int → Int} : ∀ (m : Nat) (a : Int), a ≤ fig B m a ∧ fig B m a ≤ a + (m : Int)
  | 0, a => ⟨Int.le_refl _, by show a ≤ a + ((0 : Nat) : Int); omega⟩
  | m + 1, a => by
    have ih := fig_le (B := B) m (a + 1)
    unfold fig
    split
    · omega
    · omega
def fvl (B : Int → Int) : Nat → Int → Int → Int
  | 0, _, v => v
  | m + 1, a, v => if 48 ≤ B a ∧ B a ≤ 57 then fvl B m (a + 1) (v * 10 + B a - 48) else v
theorem figuresC {K : pm → Option pm} {τ : pm} : ∀ (m n : Nat) (ρ : pm) (a : Int), TpR ρ τ → m + 1 ≤ n → a + (m : Int) = ρ 50 1 → 0 ≤ a → ρ 50 2 = a → ρ 50 3 = 2 → ∃ ρ', L_X6_next_169 K n ρ = K ρ' ∧ (∀ q, q ≠ 50 → ρ' q = ρ q) ∧ (∀ j, j ≠ 2 → j ≠ 5 → ρ' 50 j = ρ 50 j) ∧ ρ' 50 2 = fig (τ 70) m a ∧ ρ' 50 5 = fvl (τ 70) m a (ρ 50 5) := by
  intro m
  induction m with
  | zero =>
    intro n ρ a tp hn ha a0 e e3
    obtain ⟨x, rfl⟩ : ∃ x, n = x + 1 := ⟨n - 1, by omega⟩
    have := tp.1
    rw [L_X6_next_169, e, ckp (by omega), ckp (by omega), if_pos (by omega)]
    exact ⟨ρ, rfl, fun _ _ => rfl, fun _ _ _ => rfl, e, rfl⟩
  | succ m ih =>
    intro n ρ a tp hn ha a0 e e3
    obtain ⟨x, rfl⟩ : ∃ x, n = x + 1 := ⟨n - 1, by omega⟩
    have t1 := tp.1
    have t2 := tp.2 a a0 (by omega)
    have sp : fig (τ 70) (m + 1) a = if 48 ≤ τ 70 a ∧ τ 70 a ≤ 57 then fig (τ 70) m (a + 1) else a := rfl
    have sv : fvl (τ 70) (m + 1) a (ρ 50 5) = if 48 ≤ τ 70 a ∧ τ 70 a ≤ 57 then fvl (τ 70) m (a + 1) (ρ 50 5 * 10 + τ 70 a - 48) else ρ 50 5 := rfl
    rw [L_X6_next_169, e, e3, ckp (by omega), ckp (by omega), if_neg (by omega), ckp (by decide), if_pos rfl, ckp (by omega), t2.2.2, figureC ⟨t2.1, t2.2.1⟩, Option.bind_some, sp, sv]
    by_cases c : 48 ≤ τ 70 a ∧ τ 70 a ≤ 57
    · have eb : b8 (τ 70 a) = τ 70 a := by rw [b8_val ⟨t2.1, t2.2.1⟩, if_pos (by omega)]
      rw [if_pos c, if_pos c, if_pos c, i10, jn_eq, jn_eq, eb, pup_off (show (2 : Int) ≠ 5 by omega), e]
      obtain ⟨ρ2, e2⟩ : ∃ ρ2, ρ2 = pup (pup ρ 50 5 (ρ 50 5 * 10 + τ 70 a - 48)) 50 2 (a + 1) := ⟨_, rfl⟩
      rw [← e2]
      have o2 : ∀ j, j ≠ 2 → j ≠ 5 → ρ2 50 j = ρ 50 j := fun j a b => by rw [e2, pup_off a, pup_off b]
      have n2 : ∀ q, q ≠ 50 → ρ2 q = ρ q := fun q hq => by rw [e2, pup_ne hq, pup_ne hq]
      have tp2 : TpR ρ2 τ := tp.keep (o2 1 (by omega) (by omega)) (n2 51 (by omega)) rfl rfl
      obtain ⟨ρ', g1, g2, g3, g4, g5⟩ := ih x ρ2 (a + 1) tp2 (by omega) (by rw [o2 1 (by omega) (by omega)]; omega) (by omega) (by rw [e2, pup_at]) (by rw [o2 3 (by omega) (by omega)]; exact e3)
      refine ⟨ρ', g1, fun q hq => by rw [g2 q hq, n2 q hq], fun j b1 b2 => by rw [g3 j b1 b2, o2 j b1 b2], g4, ?_⟩
      rw [g5, e2, pup_off (by omega), pup_at]
    · rw [if_neg c, if_neg c, if_neg c, i00]
      exact ⟨ρ, rfl, fun _ _ => rfl, fun _ _ _ => rfl, e, rfl⟩
/-- the reference's number: of the first two figures -/
def fv2 (B : Int → Int) (s : Int) : Nat → Int → Int → Int
  | 0, _, v => v
  | m + 1, a, v => if 48 ≤ B a ∧ B a ≤ 57 then fv2 B s m (a + 1) (if 2 ≤ a - s then v else 10 * v + B a - 48) else v
theorem figuresM {K : pm → Option pm} {ρ : pm} {s : Int} (s0 : 0 ≤ s) : ∀ (m n : Nat) (τ : pm) (a : Int), TpR ρ τ → m + 1 ≤ n → a + (m : Int) = ρ 50 1 → s ≤ a → τ 62 24 = a → τ 62 25 = s → ∃ τ', L_X9_next_140 K n τ = K τ' ∧ (∀ q, q ≠ 62 → τ' q = τ q) ∧ (∀ j, j ≠ 24 → j ≠ 27 → τ' 62 j = τ 62 j) ∧ τ' 62 24 = fig (τ 70) m a ∧ τ' 62 27 = fv2 (τ 70) s m a (τ 62 27) := by
  intro m
  induction m with
  | zero =>
    intro n τ a tp hn ha a0 e es
    obtain ⟨x, rfl⟩ : ∃ x, n = x + 1 := ⟨n - 1, by omega⟩
    have := tp.1
    rw [L_X9_next_140, e, lookM tp (by omega), Option.bind_some, if_pos (by omega), ckp (by decide), in_no (by decide) (by decide) (by decide) (by decide), Option.bind_some, i00]
    exact ⟨τ, rfl, fun _ _ => rfl, fun _ _ _ => rfl, e, rfl⟩
  | succ m ih =>
    intro n τ a tp hn ha a0 e es
    obtain ⟨x, rfl⟩ : ∃ x, n = x + 1 := ⟨n - 1, by omega⟩
    have t1 := tp.1
    have t2 := tp.2 a (by omega) (by omega)
    have lk := lookM tp (i := a) (by omega)
    rw [if_neg (show ¬ ρ 50 1 ≤ a by omega)] at lk
    have sp : fig (τ 70) (m + 1) a = if 48 ≤ τ 70 a ∧ τ 70 a ≤ 57 then fig (τ 70) m (a + 1) else a := rfl
    have sv : fv2 (τ 70) s (m + 1) a (τ 62 27) = if 48 ≤ τ 70 a ∧ τ 70 a ≤ 57 then fv2 (τ 70) s m (a + 1) (if 2 ≤ a - s then τ 62 27 else 10 * τ 62 27 + τ 70 a - 48) else τ 62 27 := rfl
    rw [sp, sv]
    by_cases c : 48 ≤ τ 70 a ∧ τ 70 a ≤ 57
    · obtain ⟨v, ev⟩ : ∃ v, v = (if 2 ≤ a - s then τ 62 27 else 10 * τ 62 27 + τ 70 a - 48) := ⟨_, rfl⟩
      obtain ⟨τ2, e2⟩ : ∃ τ2, τ2 = pup (pup τ 62 27 v) 62 24 (a + 1) := ⟨_, rfl⟩
      have step : L_X9_next_140 K (x + 1) τ = L_X9_next_140 K x τ2 := by
        rw [L_X9_next_140, e, lk, Option.bind_some, ckp (by omega), in_yes (by omega) (by omega) (by omega) c, Option.bind_some, i10, es, ckp (by omega)]
        dsimp only [jn]
        rw [Option.bind_some]
        by_cases k : 2 ≤ a - s
        · rw [if_pos k] at ev
          rw [if_pos k, pup_off (show (24 : Int) ≠ 27 by omega), e, ← ev, ← e2]
        · rw [if_neg k] at ev
          rw [if_neg k, pup_off (show (24 : Int) ≠ 27 by omega), e, ← ev, ← e2]
      rw [if_pos c, if_pos c, ← ev, step]
      have o2 : ∀ j, j ≠ 24 → j ≠ 27 → τ2 62 j = τ 62 j := fun j a b => by rw [e2, pup_off a, pup_off b]
      have n2 : ∀ q, q ≠ 62 → τ2 q = τ q := fun q hq => by rw [e2, pup_ne hq, pup_ne hq]
      have tp2 : TpR ρ τ2 := tp.keep rfl rfl (o2 23 (by omega) (by omega)) (n2 70 (by omega))
      obtain ⟨τ', g1, g2, g3, g4, g5⟩ := ih x τ2 (a + 1) tp2 (by omega) (by omega) (by omega) (by rw [e2, pup_at]) (by rw [o2 25 (by omega) (by omega)]; exact es)
      rw [n2 70 (by omega)] at g4 g5
      refine ⟨τ', g1, fun q hq => by rw [g2 q hq, n2 q hq], fun j b1 b2 => by rw [g3 j b1 b2, o2 j b1 b2], g4, ?_⟩
      rw [g5, e2, pup_off (by omega), pup_at]
    · rw [if_neg c, if_neg c, L_X9_next_140, e, lk, Option.bind_some, ckp (by omega), in_no (by omega) (by omega) (by omega) c, Option.bind_some, i00]
      exact ⟨τ, rfl, fun _ _ => rfl, fun _ _ _ => rfl, e, rfl⟩
/-- up to two figures both numbers are the same -/
theorem fv_same {B : Int → Int} {s : Int} : ∀ (m : Nat) (a v : Int), s ≤ a → fig B m a ≤ s + 2 → fvl B m a v = fv2 B s m a v
  | 0, _, _, _, _ => rfl
  | m + 1, a, v, h, hf => by
    have fl := fig_le (B := B) m (a + 1)
    have ih := fv_same (B := B) (s := s) m (a + 1) (v * 10 + B a - 48) (by omega)
    unfold fig at hf
    unfold fvl fv2
    by_cases c : 48 ≤ B a ∧ B a ≤ 57
    · rw [if_pos c] at hf
      rw [if_pos c, if_pos c, if_neg (by omega), ih hf, show v * 10 + B a - 48 = 10 * v + B a - 48 by omega]
    · rw [if_neg c, if_neg c]
