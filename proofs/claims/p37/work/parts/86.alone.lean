/-! alone(): the search -/
theorem lstF_keep {m : Int} {c : Nat} : ∀ {d : Nat} {p : Int}, p < (lstF m c).1 → (lstF m (c + d)).2 p = (lstF m c).2 p ∧ (lstF m c).1 ≤ (lstF m (c + d)).1
  | 0, _, _ => ⟨rfl, Int.le_refl _⟩
  | d + 1, p, h => by
    have ih := lstF_keep (m := m) (c := c) (d := d) h
    have st := lstF_step (m := m) (c := c + d)
    rw [show c + (d + 1) = c + d + 1 by omega]
    by_cases e : on m ((c + d : Nat) : Int)
    · rw [if_pos e] at st
      rw [st]
      refine ⟨?_, by show _ ≤ _ + 1; omega⟩
      show up1 _ _ _ p = _
      unfold up1
      rw [if_neg (by omega)]
      exact ih.1
    · rw [if_neg e] at st
      rw [st]
      exact ih
/-- the place of a choice -/
def pos (m x : Int) : Int := if x = 0 then 0 else (lstF m (x - 1).toNat).1
theorem pos_26 (m : Int) : pos m 26 = (lstF m 25).1 := rfl
theorem pos_on {m x : Int} (hx : 0 ≤ x ∧ x ≤ 25) (h : x = 0 ∨ on m (x - 1)) : pos m (x + 1) = pos m x + 1 ∧ 0 ≤ pos m x ∧ pos m x < (lstF m 25).1 ∧ (lstF m 25).2 (pos m x) = x := by
  by_cases e : x = 0
  · subst e
    have := lstF_ok (m := m) (c := 25) (by omega)
    exact ⟨rfl, Int.le_refl 0, by show 0 < _; omega, this.2.1⟩
  · obtain ⟨c, hc⟩ : ∃ c : Nat, x = (c : Int) + 1 := ⟨(x - 1).toNat, by omega⟩
    have on1 : on m (c : Int) := by
      have := h.resolve_left e
      rw [show x - 1 = (c : Int) by omega] at this
      exact this
    have st := lstF_step (m := m) (c := c)
    rw [if_pos on1] at st
    have s1 : (lstF m (c + 1)).1 = (lstF m c).1 + 1 := by rw [st]
    have s2 : (lstF m (c + 1)).2 = up1 (lstF m c).2 (lstF m c).1 ((c : Int) + 1) := by rw [st]
    have e1 : pos m x = (lstF m c).1 := by
      unfold pos
      rw [if_neg e, show (x - 1).toNat = c by omega]
    have e2 : pos m (x + 1) = (lstF m (c + 1)).1 := by
      unfold pos
      rw [if_neg (by omega), show (x + 1 - 1).toNat = c + 1 by omega]
    have h1 := (lstF_ok (m := m) (c := c) (by omega)).1
    have kp := lstF_keep (m := m) (c := c + 1) (d := 24 - c) (p := (lstF m c).1) (by omega)
    rw [show c + 1 + (24 - c) = 25 by omega, s2] at kp
    refine ⟨by omega, by omega, by omega, ?_⟩
    rw [e1, kp.1]
    unfold up1
    rw [if_pos rfl, hc]
theorem pos_off {m x : Int} (hx : 1 ≤ x ∧ x ≤ 25) (h : ¬ on m (x - 1)) : pos m (x + 1) = pos m x := by
  obtain ⟨c, hc⟩ : ∃ c : Nat, x = (c : Int) + 1 := ⟨(x - 1).toNat, by omega⟩
  have on1 : ¬ on m (c : Int) := by
    rw [show x - 1 = (c : Int) by omega] at h
    exact h
  have st := lstF_step (m := m) (c := c)
  rw [if_neg on1] at st
  unfold pos
  rw [if_neg (by omega), if_neg (by omega), show (x + 1 - 1).toNat = c + 1 by omega, show (x - 1).toNat = c by omega, st]
/-- a year of one farm alone -/
theorem one_ok {W H fm f x : Int} {h own : Int → Int} {law b : Int} (hf : 0 ≤ f ∧ f < 3) (hfm : f < fm) (hx : 0 ≤ x ∧ x ≤ 25) (ho : x = 0 ∨ on (canM W H h own law b f) (x - 1)) : (0 ≤ tms f * x ∧ tms f * x ≤ 17575) ∧ ∀ g, 0 ≤ g → g < 3 → ¬ bad W H h own law b fm (tms f * x) g := by
  have key : ∀ g, 0 ≤ g → g < 3 → dig (tms f * x) g = if g = f then x else 0 := by
    intro g g0 g1
    have f3 : f = 0 ∨ f = 1 ∨ f = 2 := by omega
    have g3 : g = 0 ∨ g = 1 ∨ g = 2 := by omega
    rcases f3 with rfl | rfl | rfl
    · have := dig_of (a := x) (b := 0) (c := 0) (by omega) (by omega) (by omega)
      rw [show tms 0 * x = x + 26 * 0 + 676 * 0 by show 1 * x = _; omega]
      rcases g3 with rfl | rfl | rfl
      · rw [this.2.2.1]; rfl
      · rw [this.2.2.2.1]; rfl
      · rw [this.2.2.2.2]; rfl
    · have := dig_of (a := 0) (b := x) (c := 0) (by omega) (by omega) (by omega)
      rw [show tms 1 * x = 0 + 26 * x + 676 * 0 by show 26 * x = _; omega]
      rcases g3 with rfl | rfl | rfl
      · rw [this.2.2.1]; rfl
      · rw [this.2.2.2.1]; rfl
      · rw [this.2.2.2.2]; rfl
    · have := dig_of (a := 0) (b := 0) (c := x) (by omega) (by omega) (by omega)
      rw [show tms 2 * x = 0 + 26 * 0 + 676 * x by show 676 * x = _; omega]
      rcases g3 with rfl | rfl | rfl
      · rw [this.2.2.1]; rfl
      · rw [this.2.2.2.1]; rfl
      · rw [this.2.2.2.2]; rfl
  refine ⟨?_, fun g g0 g1 z => ?_⟩
  · have f3 : f = 0 ∨ f = 1 ∨ f = 2 := by omega
    rcases f3 with rfl | rfl | rfl
    · rw [show tms 0 * x = x by show 1 * x = _; omega]; omega
    · rw [show tms 1 * x = 26 * x from rfl]; omega
    · rw [show tms 2 * x = 676 * x from rfl]; omega
  · obtain ⟨z1, z2⟩ := z
    rw [key g g0 g1] at z1 z2
    by_cases e : g = f
    · rw [if_pos e] at z1 z2
      rw [e] at z2
      exact z2 ⟨hfm, ho.resolve_left z1⟩
    · rw [if_neg e] at z1
      exact z1 rfl
/-- what a search at a level may change -/
def frC (L : Nat) (ρ ρ' : pm) : Prop := ∀ p, (p < 34 + L ∨ p = 37 ∨ 47 ≤ p + 3 * L) → ρ' p = ρ p
def frM (L : Int) (τ τ' : pm) : Prop := (∀ p, p ≠ 62 → p ≠ 63 → p ≠ 71 → p ≠ 76 → p ≠ 77 → p ≠ 78 → p ≠ 79 → τ' p = τ p) ∧ (∀ j, j ≠ 31 → j ≠ 32 → τ' 62 j = τ 62 j) ∧ (∀ j, (j < 0 ∨ 25 ≤ j) → τ' 63 j = τ 63 j) ∧ (∀ j, j < 25 * L + 25 → τ' 76 j = τ 76 j) ∧ (∀ j, j < L → τ' 77 j = τ 77 j) ∧ (∀ j, j < 9 * L + 9 → τ' 78 j = τ 78 j) ∧ (∀ j, j < L + 1 → τ' 79 j = τ 79 j)
theorem frC.refl (L : Nat) (ρ : pm) : frC L ρ ρ := fun _ _ => rfl
theorem frC.trans {L : Nat} {a b c : pm} (h1 : frC L a b) (h2 : frC L b c) : frC L a c := fun p hp => (h2 p hp).trans (h1 p hp)
theorem frC.up {L : Nat} {a b : pm} (h : frC (L + 1) a b) : frC L a b := fun p hp => h p (by omega)
theorem frM.refl (L : Int) (τ : pm) : frM L τ τ := ⟨fun _ _ _ _ _ _ _ _ => rfl, fun _ _ _ => rfl, fun _ _ => rfl, fun _ _ => rfl, fun _ _ => rfl, fun _ _ => rfl, fun _ _ => rfl⟩
theorem frM.trans {L : Int} {a b c : pm} (h1 : frM L a b) (h2 : frM L b c) : frM L a c :=
  ⟨fun p x1 x2 x3 x4 x5 x6 x7 => (h2.1 p x1 x2 x3 x4 x5 x6 x7).trans (h1.1 p x1 x2 x3 x4 x5 x6 x7), fun j x y => (h2.2.1 j x y).trans (h1.2.1 j x y), fun j x => (h2.2.2.1 j x).trans (h1.2.2.1 j x), fun j x => (h2.2.2.2.1 j x).trans (h1.2.2.2.1 j x), fun j x => (h2.2.2.2.2.1 j x).trans (h1.2.2.2.2.1 j x), fun j x => (h2.2.2.2.2.2.1 j x).trans (h1.2.2.2.2.2.1 j x), fun j x => (h2.2.2.2.2.2.2 j x).trans (h1.2.2.2.2.2.2 j x)⟩
theorem frM.up {L : Int} {a b : pm} (h : frM (L + 1) a b) : frM L a b := ⟨h.1, h.2.1, h.2.2.1, fun j hj => h.2.2.2.1 j (by omega), fun j hj => h.2.2.2.2.1 j (by omega), fun j hj => h.2.2.2.2.2.1 j (by omega), fun j hj => h.2.2.2.2.2.2 j (by omega)⟩
theorem LdR.fr {W H fm : Int} {ρ τ ρ' τ' : pm} {L : Nat} {Li : Int} (h : LdR W H fm ρ τ) (c : frC L ρ ρ') (m : frM Li τ τ') : LdR W H fm ρ' τ' := h.keep (c _ (by omega)) (c _ (by omega)) (c _ (by omega)) (m.2.1 _ (by omega) (by omega)) (m.2.1 _ (by omega) (by omega)) (m.2.1 _ (by omega) (by omega)) (m.1 _ (by omega) (by omega) (by omega) (by omega) (by omega) (by omega) (by omega))
theorem cans_fr {W H f : Int} {ρ τ ρ' τ' : pm} {L q : Nat} {Li : Int} (hq : q + 3 * L = 47) (c : frC L ρ ρ') (m : frM Li τ τ') : cans W H ρ' τ' q f = cans W H ρ τ q f := by
  unfold cans
  rw [c q (by omega), c (q + 1) (by omega), m.1 65 (by omega) (by omega) (by omega) (by omega) (by omega) (by omega) (by omega)]
theorem LvR.fr {W H Y f : Int} {ρ τ ρ' τ' : pm} {L q : Nat} {Li : Int} (hLi : Li = (L : Int)) (hq : q + 3 * L = 47) (h : LvR W H Y f Li ρ τ q) (hN : (lstF (cans W H ρ τ q f) 25).1 ≤ 9) (c : frC L ρ ρ') (m : frM Li τ τ') : LvR W H Y f Li ρ' τ' q := by
  obtain ⟨a1, a2, a3⟩ := h
  unfold LvR
  rw [cans_fr hq c m, m.2.2.2.2.2.2 Li (by omega)]
  refine ⟨?_, a2, fun p p0 p1 => by rw [m.2.2.2.2.2.1 _ (by omega)]; exact a3 p p0 p1⟩
  refine a1.keep (c _ (by omega)) (c _ (by omega)) (c _ (by omega)) (fun j j0 j1 => ?_)
  rw [stc_get, stc_get]
  by_cases e : 0 ≤ j ∧ j < 25
  · rw [if_pos e, if_pos e, m.2.2.2.1 _ (by omega)]
  · rw [if_neg e, if_neg e, m.2.2.1 j (by omega)]
