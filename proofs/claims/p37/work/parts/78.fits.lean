/-! years rise -/
theorem lstF_inc {m : Int} : ∀ {c : Nat}, c ≤ 32 → ∀ p p', 0 ≤ p → p < p' → p' < (lstF m c).1 → (lstF m c).2 p < (lstF m c).2 p'
  | 0, _, p, p', h0, h1, h2 => by have : p' < 1 := h2; omega
  | c + 1, h, p, p', h0, h1, h2 => by
    obtain ⟨k1, k2, k3⟩ := lstF_ok (m := m) (c := c) (by omega)
    rw [lstF_step] at h2 ⊢
    by_cases e : on m (c : Int)
    · rw [if_pos e] at h2 ⊢
      have h2' : p' < (lstF m c).1 + 1 := h2
      show up1 _ _ _ p < up1 _ _ _ p'
      unfold up1
      rw [if_neg (show ¬ p = (lstF m c).1 by omega)]
      by_cases e2 : p' = (lstF m c).1
      · rw [if_pos e2]
        by_cases e3 : p = 0
        · rw [e3, k2]; omega
        · have := k3 p (by omega) (by omega)
          omega
      · rw [if_neg e2]
        exact lstF_inc (by omega) p p' h0 h1 (by omega)
    · rw [if_neg e] at h2 ⊢
      exact lstF_inc (by omega) p p' h0 h1 h2
theorem yA_mono {W H fm : Int} {ρ τ : pm} {P : Int → Int × (Int → Int)} (hA : Ahead W H fm ρ τ P) {j k : Int} (h0 : 0 ≤ j) (h1 : j < k) (h2 : k < Tot P) : yA P j < yA P k := by
  obtain ⟨o0, o1, o2⟩ := hA.2.2.2.2
  have eP := hA.2.2.2.1
  obtain ⟨p0, p1, p2⟩ := place_bd o0.1 o1.1 o2.1 h0 (show j < (P 0).1 * (P 1).1 * (P 2).1 from Int.lt_trans h1 h2)
  obtain ⟨q0, q1, q2⟩ := place_bd o0.1 o1.1 o2.1 (show 0 ≤ k by omega) h2
  have inc : ∀ f, ∀ x y, 0 ≤ x → x < y → y < (P f).1 → (P f).2 x < (P f).2 y := by
    intro f x y a b c
    rw [eP] at c ⊢
    exact lstF_inc (by omega) x y a b c
  have bdd : ∀ f x, 0 ≤ x → x < (P f).1 → 0 ≤ (P f).2 x ∧ (P f).2 x ≤ 25 := by
    intro f x a b
    rw [eP] at b ⊢
    have := opt_bd (m := optM W H fm (ρ 9) (τ 65) (ρ 8 6) (ρ 8 4) f) ⟨a, b⟩
    exact ⟨this.1, by have := this.2.1; exact Int.le_of_lt_add_one this⟩
  have ej : j = j % (P 0).1 + (P 0).1 * (j / (P 0).1) := (Int.emod_add_mul_ediv j (P 0).1).symm
  have ek : k = k % (P 0).1 + (P 0).1 * (k / (P 0).1) := (Int.emod_add_mul_ediv k (P 0).1).symm
  have fj : j / (P 0).1 = j / (P 0).1 % (P 1).1 + (P 1).1 * (j / (P 0).1 / (P 1).1) := (Int.emod_add_mul_ediv _ (P 1).1).symm
  have fk : k / (P 0).1 = k / (P 0).1 % (P 1).1 + (P 1).1 * (k / (P 0).1 / (P 1).1) := (Int.emod_add_mul_ediv _ (P 1).1).symm
  have gj : j / (P 0).1 / (P 1).1 = j / ((P 0).1 * (P 1).1) := Int.ediv_ediv_of_nonneg (by omega)
  have gk : k / (P 0).1 / (P 1).1 = k / ((P 0).1 * (P 1).1) := Int.ediv_ediv_of_nonneg (by omega)
  have m1 : j / (P 0).1 ≤ k / (P 0).1 := Int.ediv_le_ediv (by omega) (by omega)
  have m2 : j / (P 0).1 / (P 1).1 ≤ k / (P 0).1 / (P 1).1 := Int.ediv_le_ediv (by omega) m1
  rw [gj] at fj m2
  rw [gk] at fk m2
  have b0 := bdd 0 _ p0.1 p0.2
  have b1 := bdd 1 _ p1.1 p1.2
  have b2 := bdd 2 _ p2.1 p2.2
  have c0 := bdd 0 _ q0.1 q0.2
  have c1 := bdd 1 _ q1.1 q1.2
  have c2 := bdd 2 _ q2.1 q2.2
  unfold yA
  by_cases t : j / ((P 0).1 * (P 1).1) < k / ((P 0).1 * (P 1).1)
  · have := inc 2 _ _ p2.1 t q2.2
    omega
  · have te : j / ((P 0).1 * (P 1).1) = k / ((P 0).1 * (P 1).1) := by omega
    rw [te] at fj
    by_cases s : j / (P 0).1 % (P 1).1 < k / (P 0).1 % (P 1).1
    · have := inc 1 _ _ p1.1 s q1.2
      rw [te]
      omega
    · have se : j / (P 0).1 % (P 1).1 = k / (P 0).1 % (P 1).1 := by omega
      have de : j / (P 0).1 = k / (P 0).1 := by rw [fj, fk, se]
      rw [de] at ej
      have := inc 0 _ _ p0.1 (show j % (P 0).1 < k % (P 0).1 by omega) q0.2
      rw [te, se]
      omega
/-! who cuts in a year -/
def nz (y f : Int) : Int := if dig y f = 0 then 0 else 1
def cm (y : Int) : Int := nz y 0 + 2 * nz y 1 + 4 * nz y 2
def cs (y : Int) : Int := nz y 0 + nz y 1 + nz y 2
theorem nz_01 (y f : Int) : nz y f = 0 ∨ nz y f = 1 := by
  unfold nz
  split
  · exact Or.inl rfl
  · exact Or.inr rfl
theorem cuttersC_step {n : Nat} {y l f f' : Int} (hy : 0 ≤ y ∧ y ≤ 17575) (hf : 0 ≤ f ∧ f < 3) (e : f + 1 = f') : L_X8_cutters_4 (n + 1) y l f = L_X8_cutters_4 n y (if nz y f = 0 then l else bor l (bshl 1 f)) f' := by
  subst e
  have db := dig_bd y f
  rw [L_X8_cutters_4, ckp (by omega), if_neg (by omega), option_eq (by omega) hf, Option.bind_some, ckp (by omega)]
  dsimp only [jn]
  unfold nz
  by_cases c : dig y f = 0
  · rw [show (if dig y f = 0 then (0 : Int) else 1) = 0 from if_pos c, i00, if_pos c]
  · rw [show (if dig y f = 0 then (0 : Int) else 1) = 1 from if_neg c, i10, if_neg c]
theorem cuttersM_step {n : Nat} {y l f f' : Int} (hy : 0 ≤ y ∧ y ≤ 17575) (hf : 0 ≤ f ∧ f < 3) (e : f + 1 = f') : L_X9_cutters_4 (n + 1) y l f = L_X9_cutters_4 n y (bor l (bshl (nz y f) f)) f' := by
  subst e
  have db := dig_bd y f
  rw [L_X9_cutters_4, ckp (by omega), if_neg (by omega), cutOf_eq (by omega) hf, Option.bind_some, ckp (by omega)]
  dsimp only [jn]
  unfold nz
  by_cases c : dig y f = 0
  · rw [if_pos (show dig y f - 1 < 0 by omega), if_pos c]; rfl
  · rw [if_neg (show ¬ dig y f - 1 < 0 by omega), if_neg c]; rfl
theorem cutsM_step {n : Nat} {y l f f' : Int} (hy : 0 ≤ y ∧ y ≤ 17575) (hf : 0 ≤ f ∧ f < 3) (e : f + 1 = f') : L_X9_cutsOf_4 (n + 1) y l f = L_X9_cutsOf_4 n y (l + nz y f) f' := by
  subst e
  have db := dig_bd y f
  rw [L_X9_cutsOf_4, ckp (by omega), if_neg (by omega), cutOf_eq (by omega) hf, Option.bind_some, ckp (by omega)]
  dsimp only [jn]
  unfold nz
  by_cases c : dig y f = 0
  · rw [if_pos (show dig y f - 1 < 0 by omega), if_pos c]; rfl
  · rw [if_neg (show ¬ dig y f - 1 < 0 by omega), if_neg c]; rfl
theorem cuttersC {y : Int} (hy : 0 ≤ y ∧ y ≤ 17575) : f_X8_cutters y = some (cm y) := by
  unfold f_X8_cutters
  rw [show fu = 99996 + 1 + 1 + 1 + 1 from rfl, cuttersC_step hy (by omega) (f' := 1) rfl, cuttersC_step hy (by omega) (f' := 2) rfl, cuttersC_step hy (by omega) (f' := 3) rfl, L_X8_cutters_4, ckp (by omega), if_pos (by omega)]
  unfold cm
  rcases nz_01 y 0 with a | a <;> rcases nz_01 y 1 with b | b <;> rcases nz_01 y 2 with c | c <;> rw [a, b, c] <;> decide
theorem cuttersM {y : Int} (hy : 0 ≤ y ∧ y ≤ 17575) : f_X9_cutters y = some (cm y) := by
  unfold f_X9_cutters
  rw [show fu = 99996 + 1 + 1 + 1 + 1 from rfl, cuttersM_step hy (by omega) (f' := 1) rfl, cuttersM_step hy (by omega) (f' := 2) rfl, cuttersM_step hy (by omega) (f' := 3) rfl, L_X9_cutters_4, ckp (by omega), if_pos (by omega)]
  unfold cm
  rcases nz_01 y 0 with a | a <;> rcases nz_01 y 1 with b | b <;> rcases nz_01 y 2 with c | c <;> rw [a, b, c] <;> decide
theorem cutsM {y : Int} (hy : 0 ≤ y ∧ y ≤ 17575) : f_X9_cutsOf y = some (cs y) := by
  unfold f_X9_cutsOf
  rw [show fu = 99996 + 1 + 1 + 1 + 1 from rfl, cutsM_step hy (by omega) (f' := 1) rfl, cutsM_step hy (by omega) (f' := 2) rfl, cutsM_step hy (by omega) (f' := 3) rfl, L_X9_cutsOf_4, ckp (by omega), if_pos (by omega), Int.zero_add]
  rfl
theorem cs_bd (y : Int) : 0 ≤ cs y ∧ cs y ≤ 3 := by
  unfold cs
  rcases nz_01 y 0 with a | a <;> rcases nz_01 y 1 with b | b <;> rcases nz_01 y 2 with c | c <;> omega
theorem cm_bd (y : Int) : 0 ≤ cm y ∧ cm y ≤ 7 := by
  unfold cm
  rcases nz_01 y 0 with a | a <;> rcases nz_01 y 1 with b | b <;> rcases nz_01 y 2 with c | c <;> omega
theorem bc_cm (y : Int) : f_J6_bitCount (cm y) = some (cs y) := by
  unfold cm cs
  rcases nz_01 y 0 with a | a <;> rcases nz_01 y 1 with b | b <;> rcases nz_01 y 2 with c | c <;> rw [a, b, c] <;> decide
/-! together() -/
def togR (a b c d z : Int) : Prop := (a = 4 ∧ b = -4 ∧ c = -4 ∧ d = -4) ∨ (c = a ∧ d = b ∧ 0 ≤ a ∧ a ≤ 3 ∧ 0 ≤ b ∧ b < z)
theorem togetherR {W H fm c w : Int} {ρ : pm} {P : Int → Int × (Int → Int)} {KC KM : Int → Int → Int → pm → Option (Int × pm)} (hc : 0 ≤ c ∧ c < 25) : ∀ (m n n' : Nat) (k a b a' b' : Int) (τ : pm), Ahead W H fm ρ τ P → m + 1 ≤ n → m + 1 ≤ n' → k + (m : Int) = Tot P → 0 ≤ k → togR a b a' b' (if k < Tot P then yA P k else 20000) →
    ∃ x y x' y' τ', L_X8_together_35 KC n c w a b k ρ = KC w x y ρ ∧ L_X9_together_34 KM n' c w a' b' k τ = KM w x' y' τ' ∧ agD τ τ' ∧ togR x y x' y' 20000 := by
  intro m
  induction m with
  | zero =>
    intro n n' k a b a' b' τ hA hn hn' hk k0 ht
    have tb := Tot_bd hA.2.2.2.2
    obtain ⟨x, rfl⟩ : ∃ x, n = x + 1 := ⟨n - 1, by omega⟩
    obtain ⟨x', rfl⟩ : ∃ x, n' = x + 1 := ⟨n' - 1, by omega⟩
    rw [if_neg (by omega)] at ht
    refine ⟨a, b, a', b', τ, ?_, ?_, agD.refl _, ht⟩
    · rw [L_X8_together_35, hA.size, ckp (by omega), ckp (by omega), if_pos (by omega)]
    · rw [L_X9_together_34, hA.all, Option.bind_some, ckp (by omega), ckp (by omega), if_pos (by omega)]
  | succ m ih =>
    intro n n' k a b a' b' τ hA hn hn' hk k0 ht
    have tb := Tot_bd hA.2.2.2.2
    obtain ⟨x, rfl⟩ : ∃ x, n = x + 1 := ⟨n - 1, by omega⟩
    obtain ⟨x', rfl⟩ : ∃ x, n' = x + 1 := ⟨n' - 1, by omega⟩
    rw [if_pos (by omega)] at ht
    have hy := hA.year (k := k) (by omega)
    have ok := hA.ok (k := k) (by omega)
    obtain ⟨τ1, b1, b2⟩ := hA.bedBy (k := k) (by omega)
    obtain ⟨y, ey⟩ : ∃ y, y = yA P k := ⟨_, rfl⟩
    have nxt : y < (if k + 1 < Tot P then yA P (k + 1) else 20000) := by
      split
      · rw [ey]; exact yA_mono hA k0 (by omega) (by assumption)
      · rw [ey]; omega
    rw [← ey] at hy ok b1 ht
    have cb := cs_bd y
    have hC : L_X8_together_35 KC (x + 1) c w a b k ρ = (if bt (Bt W H ρ y) c = 0 then L_X8_together_35 KC x c w a b (k + 1) ρ else ck (inR (cs y)) (ck (inR a) (if a ≤ cs y then L_X8_together_35 KC x c w a b (k + 1) ρ else L_X8_together_35 KC x c w (cs y) y (k + 1) ρ))) := by
      rw [L_X8_together_35, hA.size, ckp (by omega), ckp (by omega), if_neg (by omega), ckp (by omega), hy.1, cuttersC ⟨ok.1, ok.2.1⟩, Option.bind_some, bc_cm, Option.bind_some, hy.2, has_eq (by omega), Option.bind_some]
      rfl
    rw [hC]
    rcases bt_01 (Bt W H ρ y) c (by omega) with e | e
    · have hM : L_X9_together_34 KM (x' + 1) c w a' b' k τ = L_X9_together_34 KM x' c w a' b' (k + 1) τ1 := by
        rw [L_X9_together_34, hA.all, Option.bind_some, ckp (by omega), ckp (by omega), if_neg (by omega), hA.yearAt (by omega), Option.bind_some, ← ey, b1, bn2_of]
        dsimp only [jn]
        change (if bt (Bt W H ρ y) c = 1 then _ else _) = _
        rw [if_neg (by omega)]
      rw [e, i00, hM]
      obtain ⟨p, q, p', q', τ2, g1, g2, g3, g4⟩ := ih x x' (k + 1) a b a' b' τ1 (hA.ag b2) (by omega) (by omega) (by omega) (by omega) (by
        rcases ht with t | t
        · exact Or.inl t
        · exact Or.inr ⟨t.1, t.2.1, t.2.2.1, t.2.2.2.1, t.2.2.2.2.1, Int.lt_trans t.2.2.2.2.2 nxt⟩)
      exact ⟨p, q, p', q', τ2, g1, g2, b2.trans g3, g4⟩
    · rw [e, i10, ckp (by omega)]
      have pre : ∀ X, (∀ τ2, agD τ1 τ2 → True) → L_X9_together_34 KM (x' + 1) c w a' b' k τ = X → L_X9_together_34 KM (x' + 1) c w a' b' k τ = X := fun X _ h => h
      clear pre
      rcases ht with t | t
      · obtain ⟨t1, t2, t3, t4⟩ := t
        subst t1 t2 t3 t4
        have hM : L_X9_together_34 KM (x' + 1) c w (-4) (-4) k τ = L_X9_together_34 KM x' c w (cs y) y (k + 1) τ1 := by
          rw [L_X9_together_34, hA.all, Option.bind_some, ckp (by omega), ckp (by omega), if_neg (by omega), hA.yearAt (by omega), Option.bind_some, ← ey, b1, bn2_of]
          dsimp only [jn]
          change (if bt (Bt W H ρ y) c = 1 then _ else _) = _
          rw [if_pos e, cutsM ⟨ok.1, ok.2.1⟩, Option.bind_some, ckp (by decide), if_pos rfl, ckp (by decide), i10, ckp (by decide), i10]
        rw [hM, ckp (by decide), if_neg (by omega)]
        obtain ⟨p, q, p', q', τ2, g1, g2, g3, g4⟩ := ih x x' (k + 1) (cs y) y (cs y) y τ1 (hA.ag b2) (by omega) (by omega) (by omega) (by omega) (Or.inr ⟨rfl, rfl, cb.1, cb.2, ok.1, nxt⟩)
        exact ⟨p, q, p', q', τ2, g1, g2, b2.trans g3, g4⟩
      · obtain ⟨t1, t2, t3, t4, t5, t6⟩ := t
        subst t1 t2
        by_cases lt : cs y < a'
        · have hM : L_X9_together_34 KM (x' + 1) c w a' b' k τ = L_X9_together_34 KM x' c w (cs y) y (k + 1) τ1 := by
            rw [L_X9_together_34, hA.all, Option.bind_some, ckp (by omega), ckp (by omega), if_neg (by omega), hA.yearAt (by omega), Option.bind_some, ← ey, b1, bn2_of]
            dsimp only [jn]
            change (if bt (Bt W H ρ y) c = 1 then _ else _) = _
            rw [if_pos e, cutsM ⟨ok.1, ok.2.1⟩, Option.bind_some, ckp (by omega), if_neg (show ¬ a' = -4 by omega), ckp (by omega), if_pos lt, ckp (by decide), i10, ckp (by decide), i10]
          rw [hM, ckp (by omega), if_neg (by omega)]
          obtain ⟨p, q, p', q', τ2, g1, g2, g3, g4⟩ := ih x x' (k + 1) (cs y) y (cs y) y τ1 (hA.ag b2) (by omega) (by omega) (by omega) (by omega) (Or.inr ⟨rfl, rfl, cb.1, cb.2, ok.1, nxt⟩)
          exact ⟨p, q, p', q', τ2, g1, g2, b2.trans g3, g4⟩
        · have hM : L_X9_together_34 KM (x' + 1) c w a' b' k τ = L_X9_together_34 KM x' c w a' b' (k + 1) τ1 := by
            rw [L_X9_together_34, hA.all, Option.bind_some, ckp (by omega), ckp (by omega), if_neg (by omega), hA.yearAt (by omega), Option.bind_some, ← ey, b1, bn2_of]
            dsimp only [jn]
            change (if bt (Bt W H ρ y) c = 1 then _ else _) = _
            rw [if_pos e, cutsM ⟨ok.1, ok.2.1⟩, Option.bind_some, ckp (by omega), if_neg (show ¬ a' = -4 by omega), ckp (by omega), if_neg lt]
            by_cases eq : cs y = a'
            · rw [if_pos eq, ckp (by omega), ckp (by omega), if_pos (by omega), ckp (by decide), i00, ckp (by decide), i00]
            · rw [if_neg eq, ckp (by decide), i00, ckp (by decide), i00]
          rw [hM, ckp (by omega), if_pos (by omega)]
          obtain ⟨p, q, p', q', τ2, g1, g2, g3, g4⟩ := ih x x' (k + 1) a' b' a' b' τ1 (hA.ag b2) (by omega) (by omega) (by omega) (by omega) (Or.inr ⟨rfl, rfl, t3, t4, t5, Int.lt_trans t6 nxt⟩)
          exact ⟨p, q, p', q', τ2, g1, g2, b2.trans g3, g4⟩
theorem k_together {ρ τ : pm} (h : Rel ρ τ) {c w : Int} (hc : inR c) (hw : inR w) : ∃ r ρ' τ', f_X8_together c w ρ = some (r, ρ') ∧ f_X9_together c w τ = some (r, τ') ∧ Rel ρ' τ' := by
  obtain ⟨W, H, fm, hr⟩ := h
  have lc := hr.1.1
  have lm := hr.1.2.1
  have bd := lc.1.bd
  unfold f_X8_together f_X9_together
  by_cases k : 0 ≤ c ∧ c < W * H
  · rw [hasCell_yes lc k, isCell_yes lm k, Option.bind_some, Option.bind_some, i10, i10]
    rw [ckp hw, ckp hw]
    by_cases k1 : 0 ≤ w ∧ w ≤ 1
    · rw [if_neg (show ¬ w < 0 by omega), if_pos k1.2, in_yes (L_of_R hw) (by omega) (by omega) k1, Option.bind_some, i10]
      obtain ⟨ρ1, τ1, P, a1, a2, hA⟩ := aheadR hr
      have tb := Tot_bd hA.2.2.2.2
      obtain ⟨x, y, x', y', τ2, g1, g2, g3, g4⟩ := togetherR (w := w) (KC := fun (l2 l3 l4 : Int) (ρ : pm) => ck (inR l4) (if l4 = (-4) then some (l4, ρ) else ck (inR l2) (if l2 = 1 then some (l4, ρ) else some (l3, ρ)))) (KM := fun (l2 l3 l4 : Int) (ρ : pm) => ck (inR l2) (if l2 = 0 then some (l3, ρ) else some (l4, ρ))) (show 0 ≤ c ∧ c < 25 by omega) (Tot P).toNat fu fu 0 4 (-4) (-4) (-4) τ1 hA (by unfold fu; omega) (by unfold fu; omega) (by omega) (by omega) (Or.inl ⟨rfl, rfl, rfl, rfl⟩)
      rw [a1, Option.bind_some, a2, Option.bind_some, g1, g2]
      have hr2 := hA.1.ag (agC.refl _) g3.agM
      have w2 : w = 0 ∨ w = 1 := by omega
      rcases g4 with ⟨t1, t2, t3, t4⟩ | ⟨t1, t2, t3, t4, t5, t6⟩
      · subst t1 t2 t3 t4
        refine ⟨-4, ρ1, τ2, ?_, ?_, W, H, fm, hr2⟩
        · rw [ckp (by decide), if_pos rfl]
        · rw [ckp hw]; split <;> rfl
      · subst t1 t2
        refine ⟨if w = 0 then x' else y', ρ1, τ2, ?_, ?_, W, H, fm, hr2⟩
        · rw [ckp (by omega), if_neg (by omega), ckp hw]
          rcases w2 with rfl | rfl <;> rfl
        · rw [ckp hw]
          rcases w2 with rfl | rfl <;> rfl
    · rw [in_no (L_of_R hw) (by omega) (by omega) k1, Option.bind_some, i00]
      refine ⟨-1, ρ, τ, ?_, rfl, W, H, fm, hr⟩
      by_cases c0 : w < 0
      · rw [if_pos c0]
      · rw [if_neg c0, if_neg (by omega)]
  · rw [hasCell_no lc hc k, isCell_no lm hc k, Option.bind_some, Option.bind_some, i00, i00]
    exact ⟨-1, ρ, τ, rfl, rfl, W, H, fm, hr⟩
