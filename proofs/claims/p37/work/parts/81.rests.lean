def vb (ρ : pm) (k : Int) : Int := (f_X4_breakers k ρ).getD 0
theorem Ahead.brk {W H fm : Int} {ρ τ : pm} {P : Int → Int × (Int → Int)} (hA : Ahead W H fm ρ τ P) {k : Int} (hk : 0 ≤ k ∧ k < Tot P) : f_X4_breakers k ρ = some (vb ρ k) ∧ inR (vb ρ k) ∧ ∃ τ', f_X9_breaksOf (yA P k) τ = some (vb ρ k, τ') ∧ agD τ τ' := by
  obtain ⟨v, τ', a1, a2, a3, a4⟩ := breaksOfR hA hk
  have e : vb ρ k = v := by unfold vb; rw [a1]; rfl
  rw [e]
  exact ⟨a1, a4, τ', a2, a3⟩
def rst (P : Int → Int × (Int → Int)) (ρ : pm) : Nat → Int → Int → Int → Int × Int
  | 0, _, many, least => (many, least)
  | m + 1, k, many, least => if vb ρ k = 0 then rst P ρ m (k + 1) (many + 1) (if least = -4 then yA P k else least) else rst P ρ m (k + 1) many least
theorem rst_keep {P : Int → Int × (Int → Int)} {ρ : pm} : ∀ (m : Nat) (k many least : Int), least ≠ -4 → (rst P ρ m k many least).2 = least
  | 0, _, _, _, _ => rfl
  | m + 1, k, many, least, h => by
    unfold rst
    rw [if_neg h]
    split
    · exact rst_keep m _ _ _ h
    · exact rst_keep m _ _ _ h
theorem restsM_loop {W H fm w : Int} {ρ : pm} {P : Int → Int × (Int → Int)} {KM : Int → Int → Int → pm → Option (Int × pm)} : ∀ (m n : Nat) (k many least : Int) (τ : pm), Ahead W H fm ρ τ P → m + 1 ≤ n → k + (m : Int) = Tot P → 0 ≤ k → inR least → (least = -4 ∨ least < (if k < Tot P then yA P k else 20000)) → ∃ τ', L_X9_rests_24 KM n w many least k τ = KM w (rst P ρ m k many least).1 (rst P ρ m k many least).2 τ' ∧ agD τ τ' := by
  intro m
  induction m with
  | zero =>
    intro n k many least τ hA hn hk k0 hR hl
    have tb := Tot_bd hA.2.2.2.2
    obtain ⟨x, rfl⟩ : ∃ x, n = x + 1 := ⟨n - 1, by omega⟩
    rw [L_X9_rests_24, hA.all, Option.bind_some, ckp (by omega), ckp (by omega), if_pos (by omega)]
    exact ⟨τ, rfl, agD.refl _⟩
  | succ m ih =>
    intro n k many least τ hA hn hk k0 hR hl
    have tb := Tot_bd hA.2.2.2.2
    obtain ⟨x, rfl⟩ : ∃ x, n = x + 1 := ⟨n - 1, by omega⟩
    rw [if_pos (by omega)] at hl
    have ok := hA.ok (k := k) (by omega)
    obtain ⟨b1, b2, τ1, b3, b4⟩ := hA.brk (k := k) (by omega)
    have nxt : yA P k < (if k + 1 < Tot P then yA P (k + 1) else 20000) := by
      split
      · exact yA_mono hA k0 (by omega) (by assumption)
      · omega
    rw [L_X9_rests_24, hA.all, Option.bind_some, ckp (by omega), ckp (by omega), if_neg (by omega), hA.yearAt (by omega), Option.bind_some, b3, bn2_of, ckp b2]
    dsimp only [jn]
    unfold rst
    by_cases e : vb ρ k = 0
    · rw [if_pos e, if_pos e, ckp hR]
      by_cases e2 : least = -4
      · rw [if_pos e2, if_pos e2]
        obtain ⟨τ2, g1, g2⟩ := ih x (k + 1) (many + 1) (yA P k) τ1 (hA.ag b4) (by omega) (by omega) (by omega) (by omega) (Or.inr nxt)
        exact ⟨τ2, g1, b4.trans g2⟩
      · rw [if_neg e2, if_neg e2, ckp (by omega), if_pos (by omega)]
        obtain ⟨τ2, g1, g2⟩ := ih x (k + 1) (many + 1) least τ1 (hA.ag b4) (by omega) (by omega) (by omega) hR (by omega)
        exact ⟨τ2, g1, b4.trans g2⟩
    · rw [if_neg e, if_neg e]
      obtain ⟨τ2, g1, g2⟩ := ih x (k + 1) many least τ1 (hA.ag b4) (by omega) (by omega) (by omega) hR (by omega)
      exact ⟨τ2, g1, b4.trans g2⟩
theorem restsC_loop {W H fm w : Int} {ρ τ : pm} {P : Int → Int × (Int → Int)} {KC : Int → Int → pm → Option (Int × pm)} {K5 : Int → pm → Option (Int × pm)} (hA : Ahead W H fm ρ τ P) (hw : inR w) : ∀ (m n : Nat) (k many : Int), m + 1 ≤ n → k + (m : Int) = Tot P → 0 ≤ k → (w ≠ 1 → ∀ least, L_X8_rests_19 KC K5 n w many k ρ = KC w (rst P ρ m k many least).1 ρ) ∧ (w = 1 → (L_X8_rests_19 KC K5 n w many k ρ = KC w many ρ ∧ (rst P ρ m k many (-4)).2 = -4) ∨ ∃ j, 0 ≤ j ∧ j < Tot P ∧ L_X8_rests_19 KC K5 n w many k ρ = K5 j ρ ∧ (rst P ρ m k many (-4)).2 = yA P j) := by
  have tb := Tot_bd hA.2.2.2.2
  intro m
  induction m with
  | zero =>
    intro n k many hn hk k0
    obtain ⟨x, rfl⟩ : ∃ x, n = x + 1 := ⟨n - 1, by omega⟩
    rw [L_X8_rests_19, hA.size, ckp (by omega), ckp (by omega), if_pos (by omega)]
    exact ⟨fun _ _ => rfl, fun _ => Or.inl ⟨rfl, rfl⟩⟩
  | succ m ih =>
    intro n k many hn hk k0
    obtain ⟨x, rfl⟩ : ∃ x, n = x + 1 := ⟨n - 1, by omega⟩
    obtain ⟨b1, b2, -⟩ := hA.brk (k := k) (by omega)
    have ok := hA.ok (k := k) (by omega)
    have E : L_X8_rests_19 KC K5 (x + 1) w many k ρ = (if vb ρ k = 0 then (if w = 1 then K5 k ρ else L_X8_rests_19 KC K5 x w (many + 1) (k + 1) ρ) else L_X8_rests_19 KC K5 x w many (k + 1) ρ) := by
      rw [L_X8_rests_19, hA.size, ckp (by omega), ckp (by omega), if_neg (by omega), b1, Option.bind_some, ckp b2]
      dsimp only [jn]
      simp only [ckp hw]
    rw [E]
    by_cases e : vb ρ k = 0
    · rw [if_pos e]
      constructor
      · intro c least
        unfold rst
        rw [if_pos e, if_neg c]
        exact (ih x (k + 1) (many + 1) (by omega) (by omega) (by omega)).1 c _
      · intro c
        right
        refine ⟨k, k0, by omega, by rw [if_pos c], ?_⟩
        unfold rst
        rw [if_pos e, if_pos rfl]
        exact rst_keep _ _ _ _ (by omega)
    · rw [if_neg e]
      have := ih x (k + 1) many (by omega) (by omega) (by omega)
      constructor
      · intro c least
        unfold rst
        rw [if_neg e]
        exact this.1 c least
      · intro c
        unfold rst
        rw [if_neg e]
        exact this.2 c
theorem k_rests {ρ τ : pm} (h : Rel ρ τ) {w : Int} (hw : inR w) : ∃ r ρ' τ', f_X8_rests w ρ = some (r, ρ') ∧ f_X9_rests w τ = some (r, τ') ∧ Rel ρ' τ' := by
  obtain ⟨W, H, fm, hr⟩ := h
  unfold f_X8_rests f_X9_rests
  rw [ckp hw, ckp hw]
  by_cases k1 : 0 ≤ w ∧ w ≤ 1
  · rw [if_neg (show ¬ w < 0 by omega), if_pos k1.2, in_yes (L_of_R hw) (by omega) (by omega) k1, Option.bind_some, i10]
    obtain ⟨ρ1, τ1, P, a1, a2, hA⟩ := aheadR hr
    have tb := Tot_bd hA.2.2.2.2
    obtain ⟨τ2, g1, g2⟩ := restsM_loop (w := w) (KM := fun (l1 l2 l3 : Int) (ρ : pm) => ck (inR l1) (if l1 = 0 then some (l2, ρ) else some (l3, ρ))) (Tot P).toNat fu 0 0 (-4) τ1 hA (by unfold fu; omega) (by omega) (by omega) ⟨by decide, by decide⟩ (Or.inl rfl)
    have lC := restsC_loop (KC := fun (l1 l2 : Int) (ρ : pm) => ck (inR l1) (if l1 = 0 then some (l2, ρ) else some ((-4), ρ))) (K5 := fun (l3 : Int) (ρ : pm) => ck (0 ≤ l3 ∧ l3 < 729) (some (ρ 32 l3, ρ))) hA hw (Tot P).toNat fu 0 0 (by unfold fu; omega) (by omega) (by omega)
    rw [a1, Option.bind_some, a2, Option.bind_some, g1, ckp hw]
    have hr2 := hA.1.ag (agC.refl _) g2.agM
    have w2 : w = 0 ∨ w = 1 := by omega
    rcases w2 with rfl | rfl
    · rw [lC.1 (by decide) (-4), ckp hw, if_pos rfl, if_pos rfl]
      exact ⟨_, _, _, rfl, rfl, W, H, fm, hr2⟩
    · rw [i10]
      rcases lC.2 rfl with ⟨c1, c2⟩ | ⟨j, j0, j1, c1, c2⟩
      · rw [c1, c2, ckp hw, i10]
        exact ⟨_, _, _, rfl, rfl, W, H, fm, hr2⟩
      · rw [c1, c2, ckp (by omega), (hA.year ⟨j0, j1⟩).1]
        exact ⟨_, _, _, rfl, rfl, W, H, fm, hr2⟩
  · rw [in_no (L_of_R hw) (by omega) (by omega) k1, Option.bind_some, i00]
    refine ⟨-1, ρ, τ, ?_, rfl, W, H, fm, hr⟩
    by_cases c0 : w < 0
    · rw [if_pos c0]
    · rw [if_neg c0, if_neg (by omega)]
/-! breaks() -/
theorem lstF_all {m : Int} : ∀ {n : Nat} {c : Nat}, n ≤ 32 → c < n → on m (c : Int) → ∃ p, 1 ≤ p ∧ p < (lstF m n).1 ∧ (lstF m n).2 p = (c : Int) + 1
  | 0, _, _, h, _ => by omega
  | n + 1, c, hn, h, ho => by
    rw [lstF_step]
    have k1 := (lstF_ok (m := m) (c := n) (by omega)).1
    by_cases e : c = n
    · subst e
      rw [if_pos ho]
      exact ⟨(lstF m c).1, k1, by show _ < (lstF m c).1 + 1; omega, if_pos rfl⟩
    · obtain ⟨p, p0, p1, p2⟩ := lstF_all (n := n) (c := c) (by omega) (by omega) ho
      by_cases e2 : on m (n : Int)
      · rw [if_pos e2]
        exact ⟨p, p0, by show p < (lstF m n).1 + 1; omega, by show up1 _ _ _ p = _; unfold up1; rw [if_neg (by omega)]; exact p2⟩
      · rw [if_neg e2]
        exact ⟨p, p0, p1, p2⟩
theorem year_in {W H fm : Int} {ρ τ : pm} {P : Int → Int × (Int → Int)} (hA : Ahead W H fm ρ τ P) {y : Int} (hy : 0 ≤ y ∧ y ≤ 17575) (hb : ∀ f, 0 ≤ f → f < 3 → ¬ bad W H (ρ 9) (τ 65) (ρ 8 6) (ρ 8 4) fm y f) : ∃ k, 0 ≤ k ∧ k < Tot P ∧ yA P k = y := by
  have pl : ∀ f, 0 ≤ f → f < 3 → ∃ p, 0 ≤ p ∧ p < (P f).1 ∧ (P f).2 p = dig y f := by
    intro f f0 f1
    have eP : P f = lstF (optM W H fm (ρ 9) (τ 65) (ρ 8 6) (ρ 8 4) f) 25 := by rw [hA.2.2.2.1]; rfl
    have ok := lstF_ok (m := optM W H fm (ρ 9) (τ 65) (ρ 8 6) (ρ 8 4) f) (c := 25) (by omega)
    have db := dig_bd y f
    rw [eP]
    by_cases c : dig y f = 0
    · exact ⟨0, by omega, by omega, by rw [c]; exact ok.2.1⟩
    · have z : f < fm ∧ bt (canM W H (ρ 9) (τ 65) (ρ 8 6) (ρ 8 4) f) (dig y f - 1) = 1 := Classical.byContradiction (fun z => hb f f0 f1 ⟨c, z⟩)
      obtain ⟨n, en⟩ : ∃ n : Nat, dig y f - 1 = (n : Int) := ⟨(dig y f - 1).toNat, by omega⟩
      have on1 : on (optM W H fm (ρ 9) (τ 65) (ρ 8 6) (ρ 8 4) f) (n : Int) := by
        rw [show optM W H fm (ρ 9) (τ 65) (ρ 8 6) (ρ 8 4) f = canM W H (ρ 9) (τ 65) (ρ 8 6) (ρ 8 4) f from if_pos z.1, ← en]
        exact z.2
      obtain ⟨p, p0, p1, p2⟩ := lstF_all (n := 25) (c := n) (by omega) (by omega) on1
      exact ⟨p, by omega, p1, by omega⟩
  obtain ⟨i, i0, i1, i2⟩ := pl 0 (by omega) (by omega)
  obtain ⟨s, s0, s1, s2⟩ := pl 1 (by omega) (by omega)
  obtain ⟨t, t0, t1, t2⟩ := pl 2 (by omega) (by omega)
  obtain ⟨k1, k2, k3⟩ := ix_ok (i := i) (s := s) (t := t) hA.2.2.2.2 ⟨⟨i0, i1⟩, ⟨s0, s1⟩, ⟨t0, t1⟩⟩
  refine ⟨_, k2, k3, ?_⟩
  rw [k1]
  unfold yB
  rw [i2, s2, t2]
  show y % 26 + 26 * (y / 26 % 26) + 676 * (y / 676 % 26) = y
  omega
theorem indexOfC {W H fm : Int} {ρ τ : pm} {P : Int → Int × (Int → Int)} (hA : Ahead W H fm ρ τ P) {y : Int} (hy : inR y) : ∀ (m n : Nat) (k : Int), m + 1 ≤ n → k + (m : Int) = Tot P → 0 ≤ k → (∀ j, 0 ≤ j → j < k → yA P j ≠ y) → (L_X4_indexOf_2 ρ n y k = some (-1) ∧ ∀ j, 0 ≤ j → j < Tot P → yA P j ≠ y) ∨ ∃ j, 0 ≤ j ∧ j < Tot P ∧ L_X4_indexOf_2 ρ n y k = some j ∧ yA P j = y := by
  have tb := Tot_bd hA.2.2.2.2
  intro m
  induction m with
  | zero =>
    intro n k hn hk k0 hj
    obtain ⟨x, rfl⟩ : ∃ x, n = x + 1 := ⟨n - 1, by omega⟩
    left
    rw [L_X4_indexOf_2, hA.size, ckp (by omega), ckp (by omega), if_pos (by omega)]
    exact ⟨rfl, fun j j0 j1 => hj j j0 (by omega)⟩
  | succ m ih =>
    intro n k hn hk k0 hj
    obtain ⟨x, rfl⟩ : ∃ x, n = x + 1 := ⟨n - 1, by omega⟩
    have ok := hA.ok (k := k) (by omega)
    rw [L_X4_indexOf_2, hA.size, ckp (by omega), ckp (by omega), if_neg (by omega), ckp (by omega), (hA.year (k := k) (by omega)).1, ckp (by omega), ckp hy]
    by_cases e : yA P k = y
    · rw [if_pos e]
      right
      exact ⟨k, k0, by omega, rfl, e⟩
    · rw [if_neg e, jn_eq]
      exact ih x (k + 1) (by omega) (by omega) (by omega) (fun j j0 j1 => by
        by_cases e2 : j = k
        · rw [e2]; exact e
        · exact hj j j0 (by omega))
theorem k_breaks {ρ τ : pm} (h : Rel ρ τ) {y : Int} (hy : inR y) : ∃ r ρ' τ', f_X8_breaks y ρ = some (r, ρ') ∧ f_X9_breaks y τ = some (r, τ') ∧ Rel ρ' τ' := by
  obtain ⟨W, H, fm, hr⟩ := h
  unfold f_X8_breaks f_X9_breaks
  by_cases c : 0 ≤ y ∧ y ≤ 17575
  · rw [isNumber_yes c, isYear_yes c, Option.bind_some, Option.bind_some, i10, i10]
    have m1 := hr.2.2.1.1
    obtain ⟨B, τ0, r1, r2, r3, r4⟩ := refR hr.1 hr.2.1 (by omega) c
    have hr0 : RelW W H fm ρ τ0 := hr.ag (agC.refl _) r3.agM
    obtain ⟨ρ1, τ1, P, a1, a2, hA⟩ := aheadR hr0
    have tb := Tot_bd hA.2.2.2.2
    rw [canBeM r2, bn2_of, a1, Option.bind_some]
    -- what refuses is the same behind the look ahead
    have m1' := hA.1.2.2.1.1
    have rc1 := refusedC (q := 8) (y := y) hr.1.1 (hr.2.1.2.1.ok (by omega)) hr.1.2.2.2.2.2.2.1 hr.1.2.2.1 hr.1.2.2.2.2.1 ⟨hr.2.1.2.2.2.1.1, hr.2.1.2.2.2.1.2.1⟩ (by omega)
    rw [r1] at rc1
    have eB : rfs B (-1) = rfs (bad W H (ρ 9) (τ 65) (ρ 8 6) (ρ 8 4) fm y) (-1) := Option.some.inj rc1
    have key : (rfs B (-1) < 0) ↔ ∀ f, 0 ≤ f → f < 3 → ¬ bad W H (ρ1 9) (τ1 65) (ρ1 8 6) (ρ1 8 4) fm y f := by
      have same : bad W H (ρ1 9) (τ1 65) (ρ1 8 6) (ρ1 8 4) fm y = bad W H (ρ 9) (τ 65) (ρ 8 6) (ρ 8 4) fm y := by
        have l1 : ρ1 9 = ρ 9 ∧ ρ1 8 = ρ 8 := by
          unfold f_X8_lookAhead at a1
          rcases hr0.2.2.2.2.2.2.2 with e | ⟨e, -⟩
          · obtain ⟨ρ', g1, g2, -⟩ := buildC hr0
            rw [e, ckp (by decide), i00, g1, Option.bind_some] at a1
            cases a1
            exact ⟨g2 9 (by omega) (by omega) (by omega) (by omega), g2 8 (by omega) (by omega) (by omega) (by omega)⟩
          · rw [e, ckp (by decide), i10] at a1
            cases a1
            exact ⟨rfl, rfl⟩
        have l2 : τ1 65 = τ 65 := by
          obtain ⟨τ', g1, g2, -⟩ := optsR hr0
          rw [a2] at g1
          cases g1
          rw [g2.1 65 (by omega) (by omega) (by omega) (by omega), r3.cell (by omega) (by omega)]
        rw [l1.1, l1.2, l2]
      rw [same, eB]
      constructor
      · intro z f f0 f1
        obtain ⟨z0, z1, z2⟩ := rfs_neg z
        have f3 : f = 0 ∨ f = 1 ∨ f = 2 := by omega
        rcases f3 with rfl | rfl | rfl
        · exact z0
        · exact z1
        · exact z2
      · intro z
        rw [rfs_n (z 0 (by omega) (by omega)) (z 1 (by omega) (by omega)) (z 2 (by omega) (by omega))]
        decide
    have iC := indexOfC hA hy (Tot P).toNat fu 0 (by unfold fu; omega) (by omega) (by omega) (fun j j0 j1 => by omega)
    unfold f_X4_indexOf
    by_cases cb : rfs B (-1) < 0
    · rw [if_pos cb, i10, a2, Option.bind_some]
      obtain ⟨k, k0, k1, k2⟩ := year_in hA c (key.mp cb)
      rcases iC with ⟨i1, i2⟩ | ⟨j, j0, j1, j2, j3⟩
      · exact absurd k2 (i2 k k0 k1)
      · obtain ⟨b1, b2, τ2, b3, b4⟩ := hA.brk ⟨j0, j1⟩
        rw [j3] at b3
        rw [j2, Option.bind_some, ckp (by omega), if_pos j0, b1, Option.bind_some, b3, bn2_of]
        exact ⟨_, _, _, rfl, rfl, W, H, fm, hA.1.ag (agC.refl _) b4.agM⟩
    · rw [if_neg cb, i00]
      rcases iC with ⟨i1, i2⟩ | ⟨j, j0, j1, j2, j3⟩
      · rw [i1, Option.bind_some, ckp (by decide), if_neg (by decide)]
        refine ⟨_, ρ1, τ0, rfl, rfl, W, H, fm, ?_⟩
        obtain ⟨ρ', g1, g2, -⟩ := lookC hr0
        rw [a1] at g1
        cases g1
        exact g2
      · exact absurd (key.mpr (by rw [← j3]; exact (hA.ok ⟨j0, j1⟩).2.2)) cb
  · rw [isNumber_no hy c, isYear_no hy c]
    exact ⟨_, _, _, rfl, rfl, W, H, fm, hr⟩
