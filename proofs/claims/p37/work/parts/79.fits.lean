/-! fits() -/
def soS (W : Int → Int) (n bed : Int) (i : Int) : Prop := ∀ j, 0 ≤ j → j < i → bt bed (W (40 + 2 * j)) = W (41 + 2 * j)
theorem agreesC_loop {ρ τ : pm} {bed : Int} (mi : MiR ρ τ 4 0) : ∀ (m n : Nat) (i : Int), m + 1 ≤ n → i + (m : Int) = ρ 4 6 → 0 ≤ i → (∀ j, 0 ≤ j → j < i → bt bed (τ 63 (40 + 2 * j)) = τ 63 (41 + 2 * j)) → ∃ v, L_X7_agrees_2 ρ n bed i = some v ∧ (v = 0 ∨ v = 1) ∧ (v = 1 ↔ ∀ j, 0 ≤ j → j < ρ 4 6 → bt bed (τ 63 (40 + 2 * j)) = τ 63 (41 + 2 * j)) := by
  have m5 := mi.2.2.2.2.1
  intro m
  induction m with
  | zero =>
    intro n i hn hi i0 hj
    obtain ⟨x, rfl⟩ : ∃ x, n = x + 1 := ⟨n - 1, by omega⟩
    rw [L_X7_agrees_2, ckp (by omega), ckp (by omega), if_pos (by omega)]
    exact ⟨1, rfl, Or.inr rfl, ⟨fun _ j j0 j1 => hj j j0 (by omega), fun _ => rfl⟩⟩
  | succ m ih =>
    intro n i hn hi i0 hj
    obtain ⟨x, rfl⟩ : ∃ x, n = x + 1 := ⟨n - 1, by omega⟩
    have m6 := mi.2.2.2.2.2 i i0 (by omega)
    rw [show (0 : Int) + 40 + 2 * i = 40 + 2 * i by omega, show (0 : Int) + 41 + 2 * i = 41 + 2 * i by omega] at m6
    obtain ⟨s1, s2, s3⟩ := m6
    have E : L_X7_agrees_2 ρ (x + 1) bed i = (if bt bed (τ 63 (40 + 2 * i)) = τ 63 (41 + 2 * i) then L_X7_agrees_2 ρ x bed (i + 1) else some 0) := by
      rw [L_X7_agrees_2, ckp (by omega), ckp (by omega), if_neg (by omega), if_neg (by omega), ckp (by omega)]
      dsimp only [jn]
      rcases s3 with ⟨u1, u2⟩ | ⟨u1, u2⟩
      · have u2' : ρ 7 i = τ 63 (40 + 2 * i) := u2
        rw [u2', u1, ckp (by omega), if_neg (by omega), ckp (by decide), i10, ckp (by omega), has_eq (by omega), Option.bind_some, ckp (by decide)]
      · have u2' : ρ 7 i = τ 63 (40 + 2 * i) - 25 := u2
        rw [u2', u1, ckp (by omega), if_pos (by omega), ckp (by decide), i00, ckp (by omega), show τ 63 (40 + 2 * i) - 25 + 25 = τ 63 (40 + 2 * i) by omega, has_eq (by omega), Option.bind_some, ckp (by decide)]
    rw [E]
    by_cases e : bt bed (τ 63 (40 + 2 * i)) = τ 63 (41 + 2 * i)
    · rw [if_pos e]
      exact ih x (i + 1) (by omega) (by omega) (by omega) (fun j j0 j1 => by
        by_cases e2 : j = i
        · rw [e2]; exact e
        · exact hj j j0 (by omega))
    · rw [if_neg e]
      exact ⟨0, rfl, Or.inl rfl, ⟨fun z => absurd z (by decide), fun z => absurd (z i i0 (by omega)) e⟩⟩
theorem isSoM_loop {ρ τ : pm} {bed : Int} (mi : MiR ρ τ 4 0) : ∀ (m n : Nat) (i is : Int), m + 1 ≤ n → i + (m : Int) = ρ 4 6 → 0 ≤ i → (is = 0 ∨ is = 1) → (is = 1 ↔ ∀ j, 0 ≤ j → j < i → bt bed (τ 63 (40 + 2 * j)) = τ 63 (41 + 2 * j)) → ∃ v, L_X9_isSo_4 τ n bed is i = some v ∧ (v = 0 ∨ v = 1) ∧ (v = 1 ↔ ∀ j, 0 ≤ j → j < ρ 4 6 → bt bed (τ 63 (40 + 2 * j)) = τ 63 (41 + 2 * j)) := by
  have m5 := mi.2.2.2.2.1
  rw [Int.zero_add] at m5
  intro m
  induction m with
  | zero =>
    intro n i is hn hi i0 h01 hj
    obtain ⟨x, rfl⟩ : ∃ x, n = x + 1 := ⟨n - 1, by omega⟩
    rw [L_X9_isSo_4, m5.2.2, ckp (by omega), ckp (by omega), if_pos (by omega), ckp h01]
    exact ⟨is, rfl, h01, by rw [hj, show i = ρ 4 6 by omega]⟩
  | succ m ih =>
    intro n i is hn hi i0 h01 hj
    obtain ⟨x, rfl⟩ : ∃ x, n = x + 1 := ⟨n - 1, by omega⟩
    have m6 := mi.2.2.2.2.2 i i0 (by omega)
    rw [show (0 : Int) + 40 + 2 * i = 40 + 2 * i by omega, show (0 : Int) + 41 + 2 * i = 41 + 2 * i by omega] at m6
    obtain ⟨s1, s2, s3⟩ := m6
    have s4 : τ 63 (41 + 2 * i) = 0 ∨ τ 63 (41 + 2 * i) = 1 := by rcases s3 with z | z <;> omega
    have step : (∀ j, 0 ≤ j → j < i + 1 → bt bed (τ 63 (40 + 2 * j)) = τ 63 (41 + 2 * j)) ↔ (∀ j, 0 ≤ j → j < i → bt bed (τ 63 (40 + 2 * j)) = τ 63 (41 + 2 * j)) ∧ bt bed (τ 63 (40 + 2 * i)) = τ 63 (41 + 2 * i) := by
      constructor
      · intro z
        exact ⟨fun j j0 j1 => z j j0 (by omega), z i i0 (by omega)⟩
      · rintro ⟨z1, z2⟩ j j0 j1
        by_cases e : j = i
        · rw [e]; exact z2
        · exact z1 j j0 (by omega)
    rw [L_X9_isSo_4, m5.2.2, ckp (by omega), ckp (by omega), if_neg (by omega), ckp (Z_R h01)]
    dsimp only [jn]
    rcases h01 with rfl | rfl
    · rw [i00]
      exact ih x (i + 1) 0 (by omega) (by omega) (by omega) (Or.inl rfl) (by rw [step]; exact ⟨fun z => absurd z (by decide), fun z => hj.mpr z.1⟩)
    · rw [i10, ckp (by omega), ckp (by omega), show 40 + 2 * i + 1 = 41 + 2 * i by omega, ckp (Z_R s4)]
      change ∃ v, (if bt bed (τ 63 (40 + 2 * i)) = τ 63 (41 + 2 * i) then _ else _) = _ ∧ _
      by_cases e : bt bed (τ 63 (40 + 2 * i)) = τ 63 (41 + 2 * i)
      · rw [if_pos e]
        exact ih x (i + 1) 1 (by omega) (by omega) (by omega) (Or.inr rfl) (by rw [step]; exact ⟨fun _ => ⟨hj.mp rfl, e⟩, fun _ => rfl⟩)
      · rw [if_neg e]
        exact ih x (i + 1) 0 (by omega) (by omega) (by omega) (Or.inl rfl) (by rw [step]; exact ⟨fun z => absurd z (by decide), fun z => absurd z.2 e⟩)
theorem agreeR {ρ τ : pm} {bed : Int} (mi : MiR ρ τ 4 0) : ∃ v, f_X7_agrees bed ρ = some v ∧ f_X9_isSo bed τ = some v ∧ (v = 0 ∨ v = 1) := by
  have m5 := mi.2.2.2.2.1
  obtain ⟨v, a1, a2, a3⟩ := agreesC_loop (bed := bed) mi (ρ 4 6).toNat fu 0 (by unfold fu; omega) (by omega) (by omega) (fun j j0 j1 => by omega)
  obtain ⟨u, b1, b2, b3⟩ := isSoM_loop (bed := bed) mi (ρ 4 6).toNat fu 0 1 (by unfold fu; omega) (by omega) (by omega) (Or.inr rfl) ⟨fun _ j j0 j1 => by omega, fun _ => rfl⟩
  have e : u = v := by
    rcases a2 with e1 | e1 <;> rcases b2 with e2 | e2
    · omega
    · have := a3.mpr (b3.mp e2); omega
    · have := b3.mpr (a3.mp e1); omega
    · omega
  exact ⟨v, a1, by rw [← e]; exact b1, a2⟩
def fitR (base many least all1 none1 all2 any2 z : Int) : Prop := 0 ≤ many ∧ many ≤ z ∧ all1 = all2 ∧ inR none1 ∧ (∀ c, 0 ≤ c → c < 32 → (on none1 c ↔ on base c ∧ ¬ on any2 c)) ∧ inR least
theorem fitsR {W H fm base w : Int} {ρ : pm} {P : Int → Int × (Int → Int)} {KC KM : Int → Int → Int → Int → Int → pm → Option (Int × pm)} : ∀ (m n n' : Nat) (k a b c d d' : Int) (τ : pm), Ahead W H fm ρ τ P → m + 1 ≤ n → m + 1 ≤ n' → k + (m : Int) = Tot P → 0 ≤ k → fitR base a b c d c d' k → (a = 0 ∨ b < (if k < Tot P then yA P k else 20000)) →
    ∃ a1 b1 c1 d1 d1' τ', L_X8_fits_40 KC n w a b c d k ρ = KC w a1 b1 c1 d1 ρ ∧ L_X9_fits_39 KM n' w a b c d' k τ = KM w a1 b1 c1 d1' τ' ∧ agD τ τ' ∧ fitR base a1 b1 c1 d1 c1 d1' (Tot P) := by
  intro m
  induction m with
  | zero =>
    intro n n' k a b c d d' τ hA hn hn' hk k0 hf hb
    have tb := Tot_bd hA.2.2.2.2
    obtain ⟨x, rfl⟩ : ∃ x, n = x + 1 := ⟨n - 1, by omega⟩
    obtain ⟨x', rfl⟩ : ∃ x, n' = x + 1 := ⟨n' - 1, by omega⟩
    refine ⟨a, b, c, d, d', τ, ?_, ?_, agD.refl _, by rw [show Tot P = k by omega]; exact hf⟩
    · rw [L_X8_fits_40, hA.size, ckp (by omega), ckp (by omega), if_pos (by omega)]
    · rw [L_X9_fits_39, hA.all, Option.bind_some, ckp (by omega), ckp (by omega), if_pos (by omega)]
  | succ m ih =>
    intro n n' k a b c d d' τ hA hn hn' hk k0 hf hb
    have tb := Tot_bd hA.2.2.2.2
    obtain ⟨x, rfl⟩ : ∃ x, n = x + 1 := ⟨n - 1, by omega⟩
    obtain ⟨x', rfl⟩ : ∃ x, n' = x + 1 := ⟨n' - 1, by omega⟩
    rw [if_pos (by omega)] at hb
    have hy := hA.year (k := k) (by omega)
    have ok := hA.ok (k := k) (by omega)
    obtain ⟨τ1, b1, b2⟩ := hA.bedBy (k := k) (by omega)
    obtain ⟨y, ey⟩ : ∃ y, y = yA P k := ⟨_, rfl⟩
    have nxt : y < (if k + 1 < Tot P then yA P (k + 1) else 20000) := by
      split
      · rw [ey]; exact yA_mono hA k0 (by omega) (by assumption)
      · rw [ey]; omega
    rw [← ey] at hy ok b1 hb
    have hA1 := hA.ag b2
    obtain ⟨v, v1, v2, v3⟩ := agreeR (bed := Bt W H ρ y) hA1.1.2.2.1
    have cb := cm_bd y
    obtain ⟨f1, f2, f3, f4, f5, f6⟩ := hf
    have aR : inR a := by omega
    have hC : L_X8_fits_40 KC (x + 1) w a b c d k ρ = (if v = 0 then L_X8_fits_40 KC x w a b c d (k + 1) ρ else L_X8_fits_40 KC x w (a + 1) (if a = 0 then y else b) (band c (cm y)) (band d (bxor (cm y) (-1))) (k + 1) ρ) := by
      rw [L_X8_fits_40, hA.size, ckp (by omega), ckp (by omega), if_neg (by omega), ckp (by omega), hy.2, v1, Option.bind_some]
      dsimp only [jn]
      by_cases e : v = 0
      · rw [if_pos e, if_pos e]
      · rw [if_neg e, if_neg e, hy.1, cuttersC ⟨ok.1, ok.2.1⟩, Option.bind_some, ckp aR]
        by_cases e2 : a = 0
        · rw [if_pos e2, if_pos e2]
        · rw [if_neg e2, if_neg e2]
    have hM : L_X9_fits_39 KM (x' + 1) w a b c d' k τ = (if v = 0 then L_X9_fits_39 KM x' w a b c d' (k + 1) τ1 else L_X9_fits_39 KM x' w (a + 1) (if a = 0 then y else b) (band c (cm y)) (bor d' (cm y)) (k + 1) τ1) := by
      rw [L_X9_fits_39, hA.all, Option.bind_some, ckp (by omega), ckp (by omega), if_neg (by omega), hA.yearAt (by omega), Option.bind_some, ← ey, b1, bn2_of, v2, Option.bind_some]
      dsimp only [jn]
      by_cases e : v = 0
      · rw [if_pos e, if_pos e]
      · rw [if_neg e, if_neg e, ckp aR, cuttersM ⟨ok.1, ok.2.1⟩, Option.bind_some]
        by_cases e2 : a = 0
        · rw [if_pos e2, if_pos e2, Option.bind_some]
        · rw [if_neg e2, if_neg e2, ckp (by omega), ckp f6, if_pos (show b ≤ y by omega), Option.bind_some, Option.bind_some]
    rw [hC, hM]
    by_cases e : v = 0
    · rw [if_pos e, if_pos e]
      obtain ⟨a1, b1', c1, d1, d1', τ2, g1, g2, g3, g4⟩ := ih x x' (k + 1) a b c d d' τ1 hA1 (by omega) (by omega) (by omega) (by omega) ⟨f1, by omega, rfl, f4, f5, f6⟩ (by omega)
      exact ⟨a1, b1', c1, d1, d1', τ2, g1, g2, b2.trans g3, g4⟩
    · rw [if_neg e, if_neg e]
      obtain ⟨a1, b1', c1, d1, d1', τ2, g1, g2, g3, g4⟩ := ih x x' (k + 1) (a + 1) (if a = 0 then y else b) (band c (cm y)) (band d (bxor (cm y) (-1))) (bor d' (cm y)) τ1 hA1 (by omega) (by omega) (by omega) (by omega) ⟨by omega, by omega, rfl, band_R _ _, fun i i0 i1 => by
        rw [on_band ⟨i0, i1⟩, on_not ⟨i0, i1⟩, on_bor ⟨i0, i1⟩, f5 i i0 i1]
        constructor
        · rintro ⟨⟨z1, z2⟩, z3⟩; exact ⟨z1, fun z => z.elim z2 z3⟩
        · rintro ⟨z1, z2⟩; exact ⟨⟨z1, fun z => z2 (Or.inl z)⟩, fun z => z2 (Or.inr z)⟩, by
        split
        · omega
        · exact f6⟩ (by
        right
        split
        · exact nxt
        · exact Int.lt_trans (by omega) nxt)
      exact ⟨a1, b1', c1, d1, d1', τ2, g1, g2, b2.trans g3, g4⟩
theorem k_fits {ρ τ : pm} (h : Rel ρ τ) {w : Int} (hw : inR w) : ∃ r ρ' τ', f_X8_fits w ρ = some (r, ρ') ∧ f_X9_fits w τ = some (r, τ') ∧ Rel ρ' τ' := by
  obtain ⟨W, H, fm, hr⟩ := h
  unfold f_X8_fits f_X9_fits
  rw [ckp hw, ckp hw]
  by_cases k1 : 0 ≤ w ∧ w ≤ 3
  · rw [if_neg (show ¬ w < 0 by omega), if_pos k1.2, in_yes (L_of_R hw) (by omega) (by omega) k1, Option.bind_some, i10]
    obtain ⟨ρ1, τ1, P, a1, a2, hA⟩ := aheadR hr
    have tb := Tot_bd hA.2.2.2.2
    have h4 : ρ1 1 4 = fm := hA.1.1.2.2.1
    have h4' : τ1 62 4 = fm := hA.1.1.2.2.2.1
    have hfm := hA.1.1.2.2.2.2.1
    have bR : inR (bshl 1 fm - 1) ∧ ∀ c, 0 ≤ c → c < 32 → (on (bshl 1 fm - 1) c ↔ on (bshl 1 fm - 1) c ∧ ¬ on 0 c) := ⟨by
      have f4 : fm = 0 ∨ fm = 1 ∨ fm = 2 ∨ fm = 3 := by omega
      rcases f4 with rfl | rfl | rfl | rfl <;> decide, fun c c0 c1 => ⟨fun z => ⟨z, on_zero ⟨c0, c1⟩⟩, fun z => z.1⟩⟩
    rw [a1, Option.bind_some, a2, Option.bind_some, jn_eq, jn_eq, h4, h4']
    obtain ⟨a, b, c, d, d', τ2, g1, g2, g3, g4⟩ := fitsR (w := w) (base := bshl 1 fm - 1) (KC := fun (l1 l2 l3 l4 l5 : Int) (ρ : pm) => ck (inR l1) (jn (fun (l1 l2 : Int) (ρ : pm) => ck (inR l1) (if l1 = 0 then some (l2, ρ) else some ((-4), ρ))) (fun j139 => if l1 = 0 then j139 l1 l2 ρ else ck (inR l2) (if l2 = 0 then j139 l1 l2 ρ else if l1 = 1 then some (l3, ρ) else if l1 = 2 then some (l4, ρ) else some (l5, ρ))))) (KM := fun (l1 l2 l3 l4 l5 : Int) (ρ : pm) => ck (inR l1) (jn (fun (l1 l2 : Int) (ρ : pm) => ck (inR l1) (if l1 = 0 then some (l2, ρ) else some ((-4), ρ))) (fun j123 => if l1 = 0 then j123 l1 l2 ρ else ck (inR l2) (if l2 = 0 then j123 l1 l2 ρ else if l1 = 1 then some (l3, ρ) else if l1 = 2 then some (l4, ρ) else some (band ((bshl 1 (ρ 62 4)) - 1) (bxor l5 (-1)), ρ))))) (Tot P).toNat fu fu 0 0 (-4) (bshl 1 fm - 1) (bshl 1 fm - 1) 0 τ1 hA (by unfold fu; omega) (by unfold fu; omega) (by omega) (by omega) ⟨by omega, by omega, rfl, bR.1, bR.2, ⟨by decide, by decide⟩⟩ (Or.inl rfl)
    rw [g1, g2]
    have hr2 := hA.1.ag (agC.refl _) g3.agM
    obtain ⟨f1, f2, f3, f4, f5, f6⟩ := g4
    have e4 : τ2 62 4 = fm := by rw [g3.2 4 (by omega) (by omega)]; exact h4'
    dsimp only [jn]
    rw [e4]
    have aR : inR a := by omega
    have dd : d = band (bshl 1 fm - 1) (bxor d' (-1)) := on_ext f4 (band_R _ _) (fun i i0 i1 => by rw [f5 i i0 i1, on_band ⟨i0, i1⟩, on_not ⟨i0, i1⟩])
    rw [← dd]
    simp only [ckp hw, ckp aR]
    refine ⟨if w = 0 then a else if a = 0 then -4 else if w = 1 then b else if w = 2 then c else d, ρ1, τ2, ?_, ?_, W, H, fm, hr2⟩
    · by_cases c0 : w = 0
      · simp only [if_pos c0]
      · simp only [if_neg c0]
        by_cases c1 : a = 0
        · simp only [if_pos c1]
        · simp only [if_neg c1]
          by_cases c2 : w = 1
          · simp only [if_pos c2]
          · simp only [if_neg c2]
            by_cases c3 : w = 2
            · simp only [if_pos c3]
            · simp only [if_neg c3]
    · by_cases c0 : w = 0
      · simp only [if_pos c0]
      · simp only [if_neg c0]
        by_cases c1 : a = 0
        · simp only [if_pos c1]
        · simp only [if_neg c1]
          by_cases c2 : w = 1
          · simp only [if_pos c2]
          · simp only [if_neg c2]
            by_cases c3 : w = 2
            · simp only [if_pos c3]
            · simp only [if_neg c3]
  · rw [in_no (L_of_R hw) (by omega) (by omega) k1, Option.bind_some, i00]
    refine ⟨-1, ρ, τ, ?_, rfl, W, H, fm, hr⟩
    by_cases c0 : w < 0
    · rw [if_pos c0]
    · rw [if_neg c0, if_neg (by omega)]
