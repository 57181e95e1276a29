/-! both look ahead -/
def Tot (P : Int → Int × (Int → Int)) : Int := (P 0).1 * (P 1).1 * (P 2).1
def okP (P : Int → Int × (Int → Int)) : Prop := (1 ≤ (P 0).1 ∧ (P 0).1 ≤ 9) ∧ (1 ≤ (P 1).1 ∧ (P 1).1 ≤ 9) ∧ (1 ≤ (P 2).1 ∧ (P 2).1 ≤ 9)
theorem Tot_bd {P : Int → Int × (Int → Int)} (h : okP P) : 1 ≤ Tot P ∧ Tot P ≤ 729 := by
  obtain ⟨h0, h1, h2⟩ := h
  unfold Tot
  have x1 : (P 0).1 * 1 ≤ (P 0).1 * (P 1).1 := Int.mul_le_mul_of_nonneg_left h1.1 (by omega)
  have x2 : (P 0).1 * (P 1).1 ≤ (P 0).1 * 9 := Int.mul_le_mul_of_nonneg_left h1.2 (by omega)
  have y1 : (P 0).1 * (P 1).1 * 1 ≤ (P 0).1 * (P 1).1 * (P 2).1 := Int.mul_le_mul_of_nonneg_left h2.1 (by omega)
  have y2 : (P 0).1 * (P 1).1 * (P 2).1 ≤ (P 0).1 * (P 1).1 * 9 := Int.mul_le_mul_of_nonneg_left h2.2 (by omega)
  omega
/-- what is known where both have looked ahead -/
def Ahead (W H fm : Int) (ρ τ : pm) (P : Int → Int × (Int → Int)) : Prop := RelW W H fm ρ τ ∧ OutOK W H (ρ 9) (ρ 8 5) (ρ 8 7) P ρ ∧ OptM P τ ∧ P = optP W H fm (ρ 9) (τ 65) (ρ 8 6) (ρ 8 4) ∧ okP P
theorem aheadR {W H fm : Int} {ρ τ : pm} (hr : RelW W H fm ρ τ) : ∃ ρ1 τ1 P, f_X8_lookAhead ρ = some ρ1 ∧ f_X9_findOptions τ = some τ1 ∧ Ahead W H fm ρ1 τ1 P := by
  obtain ⟨ρ1, a1, a2, a3⟩ := lookC hr
  obtain ⟨τ1, b1, b2, b3⟩ := optsR a2
  have hr1 : RelW W H fm ρ1 τ1 := a2.ag (agC.refl _) b2.agM
  have e65 : τ1 65 = τ 65 := b2.1 65 (by omega) (by omega) (by omega) (by omega)
  refine ⟨ρ1, τ1, optP W H fm (ρ1 9) (τ 65) (ρ1 8 6) (ρ1 8 4), a1, b1, hr1, a3, b3, by rw [e65], ?_⟩
  exact ⟨few_bd (few_optM a2.1 _ _ _ 0 (by omega)), few_bd (few_optM a2.1 _ _ _ 1 (by omega)), few_bd (few_optM a2.1 _ _ _ 2 (by omega))⟩
theorem Ahead.ag {W H fm : Int} {ρ τ τ' : pm} {P : Int → Int × (Int → Int)} (h : Ahead W H fm ρ τ P) (a : agD τ τ') : Ahead W H fm ρ τ' P := ⟨h.1.ag (agC.refl _) a.agM, h.2.1, h.2.2.1.ag a, by rw [a.1 65 (by omega) (by omega) (by omega)]; exact h.2.2.2.1, h.2.2.2.2⟩
theorem Ahead.size {W H fm : Int} {ρ τ : pm} {P : Int → Int × (Int → Int)} (h : Ahead W H fm ρ τ P) : ρ 28 5 = Tot P := h.2.1.2.2.2.2.1
theorem Ahead.year {W H fm : Int} {ρ τ : pm} {P : Int → Int × (Int → Int)} (h : Ahead W H fm ρ τ P) {k : Int} (hk : 0 ≤ k ∧ k < Tot P) : ρ 32 k = yA P k ∧ ρ 33 k = Bt W H ρ (yA P k) := h.2.1.2.2.2.2.2 k hk.1 hk.2
theorem Ahead.ok {W H fm : Int} {ρ τ : pm} {P : Int → Int × (Int → Int)} (h : Ahead W H fm ρ τ P) {k : Int} (hk : 0 ≤ k ∧ k < Tot P) : 0 ≤ yA P k ∧ yA P k ≤ 17575 ∧ ∀ f, 0 ≤ f → f < 3 → ¬ bad W H (ρ 9) (τ 65) (ρ 8 6) (ρ 8 4) fm (yA P k) f := by
  obtain ⟨h1, h2, h3, h4, h5⟩ := h
  rw [h4] at hk ⊢
  exact yA_ok h1.1 hk
theorem Ahead.yearAt {W H fm : Int} {ρ τ : pm} {P : Int → Int × (Int → Int)} (h : Ahead W H fm ρ τ P) {k : Int} (hk : 0 ≤ k ∧ k < Tot P) : f_X9_yearAt k τ = some (yA P k) := yearAtM h.2.2.1 h.2.2.2.2.1 h.2.2.2.2.2.1 h.2.2.2.2.2.2 hk
theorem Ahead.bedBy {W H fm : Int} {ρ τ : pm} {P : Int → Int × (Int → Int)} (h : Ahead W H fm ρ τ P) {k : Int} (hk : 0 ≤ k ∧ k < Tot P) : ∃ τ', f_X9_bedBy (yA P k) τ = some (Bt W H ρ (yA P k), τ') ∧ agD τ τ' := by
  have := h.ok hk
  exact bedByR h.1 ⟨this.1, this.2.1⟩ this.2.2
theorem Ahead.all {W H fm : Int} {ρ τ : pm} {P : Int → Int × (Int → Int)} (h : Ahead W H fm ρ τ P) : f_X9_allOptions τ = some (Tot P) := by
  unfold f_X9_allOptions Tot
  rw [(h.2.2.1 0 (by omega) (by omega)).1, (h.2.2.1 1 (by omega) (by omega)).1, (h.2.2.1 2 (by omega) (by omega)).1]
/-! odds() -/
theorem oddsC_loop {W H fm c w : Int} {ρ τ : pm} {P : Int → Int × (Int → Int)} {K : Int → Int → pm → Option (Int × pm)} (hA : Ahead W H fm ρ τ P) (hc : 0 ≤ c ∧ c < 25) : ∀ (m n k : Nat), m + 1 ≤ n → (k : Int) + (m : Int) = Tot P → L_X8_odds_33 K n c w (sm (fun k => bt (Bt W H ρ (yA P k)) c) k) (k : Int) ρ = K w (sm (fun k => bt (Bt W H ρ (yA P k)) c) (Tot P).toNat) ρ := by
  have tb := Tot_bd hA.2.2.2.2
  intro m
  induction m with
  | zero =>
    intro n k hn hk
    obtain ⟨x, rfl⟩ : ∃ x, n = x + 1 := ⟨n - 1, by omega⟩
    rw [L_X8_odds_33, hA.size, ckp (by omega), ckp (by omega), if_pos (by omega), show (Tot P).toNat = k by omega]
  | succ m ih =>
    intro n k hn hk
    obtain ⟨x, rfl⟩ : ∃ x, n = x + 1 := ⟨n - 1, by omega⟩
    have hy := hA.year (k := (k : Int)) (by omega)
    have ih' := ih x (k + 1) (by omega) (by omega)
    rw [show ((k + 1 : Nat) : Int) = (k : Int) + 1 by omega] at ih'
    have es : sm (fun k => bt (Bt W H ρ (yA P k)) c) (k + 1) = sm (fun k => bt (Bt W H ρ (yA P k)) c) k + bt (Bt W H ρ (yA P (k : Int))) c := rfl
    rw [es] at ih'
    rw [L_X8_odds_33, hA.size, ckp (by omega), ckp (by omega), if_neg (by omega), ckp (by omega), hy.2, has_eq (by omega), Option.bind_some]
    dsimp only [jn]
    rcases bt_01 (Bt W H ρ (yA P (k : Int))) c (by omega) with e | e
    · rw [e, Int.add_zero] at ih'
      rw [e, i00]
      exact ih'
    · rw [e] at ih'
      rw [e, i10]
      exact ih'
theorem oddsM_loop {W H fm c w : Int} {ρ : pm} {P : Int → Int × (Int → Int)} {K : Int → Int → Int → pm → Option (Int × pm)} (hc : 0 ≤ c ∧ c < 25) : ∀ (m n k : Nat) (τ : pm), Ahead W H fm ρ τ P → m + 1 ≤ n → (k : Int) + (m : Int) = Tot P → ∃ τ', L_X9_odds_37 K n c w (Tot P) (sm (fun k => bt (Bt W H ρ (yA P k)) c) k) (k : Int) τ = K w (Tot P) (sm (fun k => bt (Bt W H ρ (yA P k)) c) (Tot P).toNat) τ' ∧ agD τ τ' := by
  intro m
  induction m with
  | zero =>
    intro n k τ hA hn hk
    have tb := Tot_bd hA.2.2.2.2
    obtain ⟨x, rfl⟩ : ∃ x, n = x + 1 := ⟨n - 1, by omega⟩
    rw [L_X9_odds_37, ckp (by omega), ckp (by omega), if_pos (by omega), show (Tot P).toNat = k by omega]
    exact ⟨τ, rfl, agD.refl _⟩
  | succ m ih =>
    intro n k τ hA hn hk
    have tb := Tot_bd hA.2.2.2.2
    obtain ⟨x, rfl⟩ : ∃ x, n = x + 1 := ⟨n - 1, by omega⟩
    obtain ⟨τ1, b1, b2⟩ := hA.bedBy (k := (k : Int)) (by omega)
    obtain ⟨τ2, g1, g2⟩ := ih x (k + 1) τ1 (hA.ag b2) (by omega) (by omega)
    rw [show ((k + 1 : Nat) : Int) = (k : Int) + 1 by omega] at g1
    have es : sm (fun k => bt (Bt W H ρ (yA P k)) c) (k + 1) = sm (fun k => bt (Bt W H ρ (yA P k)) c) k + bt (Bt W H ρ (yA P (k : Int))) c := rfl
    rw [es] at g1
    rw [L_X9_odds_37, ckp (by omega), ckp (by omega), if_neg (by omega), hA.yearAt (by omega), Option.bind_some, b1, bn2_of, jn_eq, jn_eq]
    exact ⟨τ2, g1, b2.trans g2⟩
theorem gcdR : ∀ (m n n' : Nat) (a b t : Int), 0 ≤ b → b ≤ a → 1 ≤ a → a ≤ 1000 → b < 2 ^ m → 2 * m + 1 ≤ n → 2 * m + 1 ≤ n' → 0 ≤ t → t + 2 * (m : Int) ≤ 62 → ∃ g, L_X8_commonDivisor_7 n a b t = some g ∧ L_X9_common_6 n' a b = some g ∧ 1 ≤ g ∧ g ≤ 1000 := by
  have base : ∀ (n n' : Nat) (a t : Int), 1 ≤ n → 1 ≤ n' → 1 ≤ a → a ≤ 1000 → 0 ≤ t → t < 64 → ∃ g, L_X8_commonDivisor_7 n a 0 t = some g ∧ L_X9_common_6 n' a 0 = some g ∧ 1 ≤ g ∧ g ≤ 1000 := by
    intro n n' a t hn hn' ha ha2 ht ht2
    obtain ⟨x, rfl⟩ : ∃ x, n = x + 1 := ⟨n - 1, by omega⟩
    obtain ⟨x', rfl⟩ : ∃ x, n' = x + 1 := ⟨n' - 1, by omega⟩
    refine ⟨a, ?_, ?_, ha, ha2⟩
    · rw [L_X8_commonDivisor_7, ckp (by omega), if_neg (by omega), ckp (by omega), if_pos rfl]
    · rw [L_X9_common_6, ckp (by omega), if_pos (by decide)]
  have stepC : ∀ (n : Nat) (a b t : Int), 0 ≤ a → a ≤ 1000 → 1 ≤ b → b ≤ 1000 → 0 ≤ t → t < 64 → L_X8_commonDivisor_7 (n + 1) a b t = L_X8_commonDivisor_7 n b (a % b) (t + 1) := by
    intro n a b t ha ha2 hb hb2 ht ht2
    rw [L_X8_commonDivisor_7, ckp (by omega), if_neg (by omega), ckp (by omega), if_neg (by omega), ckp (by omega), ckp (by omega), jn_eq, jn_eq, tmod_pos ha]
  have stepM : ∀ (n : Nat) (a b : Int), 0 ≤ a → a ≤ 1000 → 1 ≤ b → b ≤ 1000 → L_X9_common_6 (n + 1) a b = L_X9_common_6 n b (a % b) := by
    intro n a b ha ha2 hb hb2
    have : ¬ lcm64 b 0 = 0 := by
      have := (lcm_gt (a := b) (b := 0)).mpr (by omega)
      omega
    rw [L_X9_common_6, ckp (by omega), if_neg this, ckp (by omega), ckp (by omega), jn_eq, tmod_pos ha]
  intro m
  induction m with
  | zero =>
    intro n n' a b t hb hba ha ha2 hm hn hn' ht ht2
    have : b = 0 := by
      have : b < 1 := hm
      omega
    rw [this]
    exact base n n' a t (by omega) (by omega) ha ha2 ht (by omega)
  | succ m ih =>
    intro n n' a b t hb hba ha ha2 hm hn hn' ht ht2
    by_cases b0 : b = 0
    · rw [b0]
      exact base n n' a t (by omega) (by omega) ha ha2 ht (by omega)
    · obtain ⟨x, rfl⟩ : ∃ x, n = x + 1 + 1 := ⟨n - 2, by omega⟩
      obtain ⟨x', rfl⟩ : ∃ x, n' = x + 1 + 1 := ⟨n' - 2, by omega⟩
      rw [stepC (x + 1) a b t (by omega) ha2 (by omega) (by omega) ht (by omega), stepM (x' + 1) a b (by omega) ha2 (by omega) (by omega)]
      have r1 : 0 ≤ a % b := Int.emod_nonneg _ b0
      have r2 : a % b < b := Int.emod_lt_of_pos _ (by omega)
      by_cases c0 : a % b = 0
      · rw [c0]
        exact base (x + 1) (x' + 1) b (t + 1) (by omega) (by omega) (by omega) (by omega) (by omega) (by omega)
      · obtain ⟨r, er⟩ : ∃ r, r = a % b := ⟨_, rfl⟩
        rw [← er] at r1 r2 c0 ⊢
        rw [stepC x b r (t + 1) (by omega) (by omega) (by omega) (by omega) (by omega) (by omega), stepM x' b r (by omega) (by omega) (by omega) (by omega)]
        have s1 : 0 ≤ b % r := Int.emod_nonneg _ c0
        have s2 : b % r < r := Int.emod_lt_of_pos _ (by omega)
        have s3 : b % r ≤ b - r := by
          have e1 := Int.emod_def b r
          have e2 : 1 ≤ b / r := Int.le_ediv_of_mul_le (by omega) (by omega)
          have e3 : r * 1 ≤ r * (b / r) := Int.mul_le_mul_of_nonneg_left e2 (by omega)
          omega
        have p2 : (2 : Int) ^ (m + 1) = 2 * 2 ^ m := by rw [Int.pow_succ]; omega
        rw [p2] at hm
        exact ih x x' r (b % r) (t + 1 + 1) s1 (by omega) (by omega) (by omega) (by omega) (by omega) (by omega) (by omega) (by omega)
theorem k_odds {ρ τ : pm} (h : Rel ρ τ) {c w : Int} (hc : inR c) (hw : inR w) : ∃ r ρ' τ', f_X8_odds c w ρ = some (r, ρ') ∧ f_X9_odds c w τ = some (r, τ') ∧ Rel ρ' τ' := by
  obtain ⟨W, H, fm, hr⟩ := h
  have lc := hr.1.1
  have lm := hr.1.2.1
  have bd := lc.1.bd
  unfold f_X8_odds f_X9_odds
  by_cases k : 0 ≤ c ∧ c < W * H
  · rw [hasCell_yes lc k, isCell_yes lm k, Option.bind_some, Option.bind_some, i10, i10]
    simp only [ckp hw]
    by_cases k1 : 0 ≤ w ∧ w ≤ 1
    · rw [if_neg (show ¬ w < 0 by omega), if_pos k1.2, in_yes (L_of_R hw) (by omega) (by omega) k1, Option.bind_some, i10]
      obtain ⟨ρ1, τ1, P, a1, a2, hA⟩ := aheadR hr
      have tb := Tot_bd hA.2.2.2.2
      have hcc : 0 ≤ c ∧ c < 25 := by omega
      rw [a1, Option.bind_some, a2, Option.bind_some, hA.all, Option.bind_some]
      have lC := oddsC_loop (w := w) (K := fun (l2 l3 : Int) (ρ : pm) => (f_X8_commonDivisor (ρ 28 5) l3).bind (fun v12 => ck (inR v12) (if 1 ≤ v12 then ck (inR l2) (if l2 = 0 then ck (inR l3) (ck (v12 ≠ 0) (ck (inR (Int.tdiv l3 v12)) (some (Int.tdiv l3 v12, ρ)))) else ck (inR (ρ 28 5)) (ck (v12 ≠ 0) (ck (inR (Int.tdiv (ρ 28 5) v12)) (some (Int.tdiv (ρ 28 5) v12, ρ))))) else some (0, ρ)))) hA hcc (Tot P).toNat fu 0 (by unfold fu; omega) (by omega)
      obtain ⟨τ2, lM, ag⟩ := oddsM_loop (w := w) (K := fun (l2 l3 l4 : Int) (ρ : pm) => ck (inR l3) ((f_X9_common l3 l4).bind (fun v16 => ck (inR l2) (if l2 = 0 then ck (inL l4) (ck (inL v16) (ck (v16 ≠ 0) (some (Int.tdiv l4 v16, ρ)))) else ck (inL v16) (ck (v16 ≠ 0) (some (Int.tdiv l3 v16, ρ))))))) hcc (Tot P).toNat fu 0 τ1 hA (by unfold fu; omega) (by omega)
      have z2 : ((0 : Nat) : Int) = 0 := rfl
      have z3 : sm (fun k => bt (Bt W H ρ1 (yA P k)) c) 0 = 0 := rfl
      rw [z2, z3] at lC lM
      rw [lC, lM]
      have sb := sm_bd (f := fun k => bt (Bt W H ρ1 (yA P k)) c) (a := 0) (b := 1) (n := (Tot P).toNat) (fun j hj => by rcases bt_01 (Bt W H ρ1 (yA P (j : Int))) c (by omega) with e | e <;> rw [e] <;> decide)
      generalize sm (fun k => bt (Bt W H ρ1 (yA P k)) c) (Tot P).toNat = S at *
      have hS : 0 ≤ S ∧ S ≤ Tot P := by omega
      obtain ⟨g, g1, g2, g3, g4⟩ := gcdR 10 fu fu (Tot P) S 0 hS.1 hS.2 tb.1 (by omega) (by
        have : (2 : Int) ^ 10 = 1024 := by decide
        omega) (by unfold fu; omega) (by unfold fu; omega) (by omega) (by omega)
      unfold f_X8_commonDivisor f_X9_common
      rw [hA.size, g1, g2, Option.bind_some, Option.bind_some, ckp (show inR (Tot P) by omega)]
      have hr2 := hA.1.ag (agC.refl _) ag.agM
      have d1 : ∀ X, 0 ≤ X → X ≤ 729 → 0 ≤ Int.tdiv X g ∧ Int.tdiv X g ≤ 729 := fun X x0 x1 => by
        rw [tdiv_pos x0]
        exact ⟨Int.ediv_nonneg x0 (by omega), Int.le_trans (Int.ediv_le_self _ x0) x1⟩
      have dS := d1 S hS.1 (by omega)
      have dT := d1 (Tot P) (by omega) tb.2
      have hg : inR g ∧ inL g := ⟨by omega, by omega⟩
      simp only [ckp hg.1, ckp hg.2, ckp hw, if_pos g3, ckp (show g ≠ 0 by omega), ckp (show inR S by omega), ckp (show inL S by omega), ckp (show inR (Tot P) by omega), ckp (show inR (S.tdiv g) by omega), ckp (show inR ((Tot P).tdiv g) by omega)]
      by_cases e : w = 0
      · simp only [if_pos e]
        exact ⟨_, _, _, rfl, rfl, W, H, fm, hr2⟩
      · simp only [if_neg e]
        exact ⟨_, _, _, rfl, rfl, W, H, fm, hr2⟩
    · rw [in_no (L_of_R hw) (by omega) (by omega) k1, Option.bind_some, i00]
      refine ⟨-1, ρ, τ, ?_, rfl, W, H, fm, hr⟩
      by_cases c0 : w < 0
      · rw [if_pos c0]
      · rw [if_neg c0, if_neg (by omega)]
  · rw [hasCell_no lc hc k, isCell_no lm hc k, Option.bind_some, Option.bind_some, i00, i00]
    exact ⟨-1, ρ, τ, rfl, rfl, W, H, fm, hr⟩
