/-! options -/
theorem lstF_step {m : Int} {c : Nat} : lstF m (c + 1) = if on m (c : Int) then ((lstF m c).1 + 1, up1 (lstF m c).2 (lstF m c).1 ((c : Int) + 1)) else lstF m c := rfl
theorem lstF_cnt {m : Int} : ∀ {c : Nat}, c ≤ 32 → (lstF m c).1 = 1 + sm (bt m) c
  | 0, _ => rfl
  | c + 1, h => by
    have ih := lstF_cnt (m := m) (c := c) (by omega)
    rw [lstF_step]
    unfold sm
    rcases bt_01 m (c : Int) (by omega) with e | e
    · rw [if_neg (fun z : bt m (c : Int) = 1 => by omega), ih, e]; omega
    · rw [if_pos (show on m (c : Int) from e), e]; show (lstF m c).1 + 1 = _; omega
theorem lstF_ok {m : Int} : ∀ {c : Nat}, c ≤ 32 → 1 ≤ (lstF m c).1 ∧ (lstF m c).2 0 = 0 ∧ ∀ p, 1 ≤ p → p < (lstF m c).1 → 1 ≤ (lstF m c).2 p ∧ (lstF m c).2 p ≤ (c : Int) ∧ on m ((lstF m c).2 p - 1)
  | 0, _ => ⟨by show (1 : Int) ≤ 1; omega, rfl, fun p p0 p1 => by have : p < 1 := p1; omega⟩
  | c + 1, h => by
    obtain ⟨i1, i2, i3⟩ := lstF_ok (m := m) (c := c) (by omega)
    rw [lstF_step]
    by_cases e : on m (c : Int)
    · rw [if_pos e]
      refine ⟨by show 1 ≤ (lstF m c).1 + 1; omega, ?_, fun p p0 p1 => ?_⟩
      · show up1 _ _ _ 0 = 0
        unfold up1
        rw [if_neg (by omega)]; exact i2
      · have p1' : p < (lstF m c).1 + 1 := p1
        show 1 ≤ up1 _ _ _ p ∧ up1 _ _ _ p ≤ _ ∧ on m (up1 _ _ _ p - 1)
        unfold up1
        by_cases e2 : p = (lstF m c).1
        · rw [if_pos e2, show (c : Int) + 1 - 1 = c by omega]
          exact ⟨by omega, by omega, e⟩
        · rw [if_neg e2]
          have := i3 p p0 (by omega)
          exact ⟨this.1, by omega, this.2.2⟩
    · rw [if_neg e]
      exact ⟨i1, i2, fun p p0 p1 => ⟨(i3 p p0 p1).1, by have := (i3 p p0 p1).2.1; omega, (i3 p p0 p1).2.2⟩⟩
/-- no bit from c on: nothing more is listed -/
theorem lstF_stop {m : Int} {c : Nat} : ∀ {d : Nat}, (∀ j : Nat, c ≤ j → j < c + d → ¬ on m (j : Int)) → lstF m (c + d) = lstF m c
  | 0, _ => rfl
  | d + 1, h => by
    rw [show c + (d + 1) = (c + d) + 1 by omega, lstF_step, if_neg (h (c + d) (by omega) (by omega))]
    exact lstF_stop (fun j j0 j1 => h j j0 (by omega))
theorem sm_mono {f : Int → Int} {c : Nat} : ∀ {d : Nat}, (∀ j : Nat, c ≤ j → j < c + d → 0 ≤ f (j : Int)) → sm f c ≤ sm f (c + d)
  | 0, _ => Int.le_refl _
  | d + 1, h => by
    show sm f c ≤ sm f (c + d) + f ((c + d : Nat) : Int)
    have h1 := sm_mono (f := f) (c := c) (d := d) (fun j j0 j1 => h j j0 (by omega))
    have h2 := h (c + d) (by omega) (by omega)
    omega
theorem sm_le {f g : Int → Int} : ∀ {n : Nat}, (∀ j : Nat, j < n → f (j : Int) ≤ g (j : Int)) → sm f n ≤ sm g n
  | 0, _ => Int.le_refl _
  | n + 1, h => by
    show sm f n + f (n : Int) ≤ sm g n + g (n : Int)
    have h1 := sm_le (f := f) (g := g) (n := n) (fun j hj => h j (by omega))
    have h2 := h n (by omega)
    omega
/-- at most eight cells -/
def few (m : Int) : Prop := sm (bt m) 25 ≤ 8
theorem few_stop {m : Int} {c : Nat} (hf : few m) (hc : c ≤ 25) (h9 : 9 ≤ (lstF m c).1) : lstF m 25 = lstF m c ∧ (lstF m c).1 = 9 := by
  have e1 := lstF_cnt (m := m) (c := c) (by omega)
  unfold few at hf
  have mono : ∀ a : Nat, a ≤ 25 → sm (bt m) a ≤ sm (bt m) 25 := fun a ha => by
    have := sm_mono (f := bt m) (c := a) (d := 25 - a) (fun j j0 j1 => by rcases bt_01 m (j : Int) (by omega) with e | e <;> omega)
    rw [show a + (25 - a) = 25 by omega] at this
    exact this
  have hz := mono c hc
  refine ⟨?_, by omega⟩
  have := lstF_stop (m := m) (c := c) (d := 25 - c) (fun j j0 j1 z => by
    have h1 := mono (j + 1) (by omega)
    have h2 : sm (bt m) c ≤ sm (bt m) j := by
      have := sm_mono (f := bt m) (c := c) (d := j - c) (fun i i0 i1 => by rcases bt_01 m (i : Int) (by omega) with e | e <;> omega)
      rw [show c + (j - c) = j by omega] at this
      exact this
    have h3 : sm (bt m) (j + 1) = sm (bt m) j + bt m (j : Int) := rfl
    have h4 : bt m (j : Int) = 1 := z
    omega)
  rw [show c + (25 - c) = 25 by omega] at this
  exact this
theorem few_bd {m : Int} (hf : few m) : 1 ≤ (lstF m 25).1 ∧ (lstF m 25).1 ≤ 9 := by
  have := lstF_cnt (m := m) (c := 25) (by omega)
  have h2 := (lstF_ok (m := m) (c := 25) (by omega)).1
  unfold few at hf
  omega
theorem listC_loop {f m : Int} {K : Int → Int → pm → Option pm} (hf : 0 ≤ f ∧ f < 3) (hm : few m) : ∀ (d n c : Nat) (ρ : pm), d + 1 ≤ n → c + d = 25 → (∀ p, 0 ≤ p → p < (lstF m c).1 → ρ 29 (f * 9 + p) = (lstF m c).2 p) → ∃ ρ', L_X4_list_15 K n f m (lstF m c).1 (c : Int) ρ = K f (lstF m 25).1 ρ' ∧ (∀ q, q ≠ 29 → ρ' q = ρ q) ∧ (∀ j, (j < f * 9 ∨ f * 9 + 9 ≤ j) → ρ' 29 j = ρ 29 j) ∧ (∀ p, 0 ≤ p → p < (lstF m 25).1 → ρ' 29 (f * 9 + p) = (lstF m 25).2 p) := by
  intro d
  induction d with
  | zero =>
    intro n c ρ hn hc hp
    obtain ⟨x, rfl⟩ : ∃ x, n = x + 1 := ⟨n - 1, by omega⟩
    have : c = 25 := by omega
    subst this
    rw [L_X4_list_15, ckp (by omega), if_pos (by omega)]
    exact ⟨ρ, rfl, fun _ _ => rfl, fun _ _ => rfl, hp⟩
  | succ d ih =>
    intro n c ρ hn hc hp
    obtain ⟨x, rfl⟩ : ∃ x, n = x + 1 := ⟨n - 1, by omega⟩
    have h1 := (lstF_ok (m := m) (c := c) (by omega)).1
    by_cases h9 : 9 ≤ (lstF m c).1
    · obtain ⟨e1, e2⟩ := few_stop hm (by omega) h9
      rw [L_X4_list_15, ckp (by omega), if_neg (by omega), ckp (by omega), if_pos h9, e1]
      exact ⟨ρ, rfl, fun _ _ => rfl, fun _ _ => rfl, hp⟩
    · rw [L_X4_list_15, ckp (by omega), if_neg (by omega), ckp (by omega), if_neg h9, has_eq (by omega), Option.bind_some]
      dsimp only [jn]
      have st := lstF_step (m := m) (c := c)
      by_cases e : on m (c : Int)
      · have e' : bt m (c : Int) = 1 := e
        rw [if_pos e] at st
        rw [e', i10, ckp (by omega)]
        have s1 : (lstF m (c + 1)).1 = (lstF m c).1 + 1 := by rw [st]
        have s2 : (lstF m (c + 1)).2 = up1 (lstF m c).2 (lstF m c).1 ((c : Int) + 1) := by rw [st]
        obtain ⟨ρ', g1, g2, g3, g4⟩ := ih x (c + 1) (pup ρ 29 (f * 9 + (lstF m c).1) ((c : Int) + 1)) (by omega) (by omega) (fun p p0 p1 => by
          rw [s1] at p1
          rw [s2]
          unfold up1
          by_cases e2 : p = (lstF m c).1
          · rw [if_pos e2, e2, pup_at]
          · rw [if_neg e2, pup_off (by omega)]; exact hp p p0 (by omega))
        rw [s1, show ((c + 1 : Nat) : Int) = (c : Int) + 1 by omega] at g1
        exact ⟨ρ', g1, fun q hq => by rw [g2 q hq, pup_ne hq], fun j hj => by rw [g3 j hj, pup_off (by omega)], g4⟩
      · have e' : bt m (c : Int) = 0 := (bt_off (by omega)).mp e
        rw [if_neg e] at st
        rw [e', i00]
        obtain ⟨ρ', g1, g2, g3, g4⟩ := ih x (c + 1) ρ (by omega) (by omega) (by rw [st]; exact hp)
        rw [st, show ((c + 1 : Nat) : Int) = (c : Int) + 1 by omega] at g1
        exact ⟨ρ', g1, g2, g3, g4⟩
theorem jn_eq {α β : Type} {k : α} {f : α → Option β} : jn k f = f k := rfl
theorem listC {f m : Int} (ρ : pm) (hf : 0 ≤ f ∧ f < 3) (hm : few m) : ∃ ρ', f_X4_list f m ρ = some ρ' ∧ (∀ q, q ≠ 29 → q ≠ 30 → ρ' q = ρ q) ∧ ρ' 30 f = (lstF m 25).1 ∧ (∀ g, g ≠ f → ρ' 30 g = ρ 30 g) ∧ (∀ j, (j < f * 9 ∨ f * 9 + 9 ≤ j) → ρ' 29 j = ρ 29 j) ∧ (∀ p, 0 ≤ p → p < (lstF m 25).1 → ρ' 29 (f * 9 + p) = (lstF m 25).2 p) := by
  obtain ⟨ρ1, g1, g2, g3, g4⟩ := listC_loop (K := fun (l1 l3 : Int) (ρ : pm) => ck (0 ≤ l1 ∧ l1 < 3) (jn (pup ρ 30 l1 l3) (fun ρ12 => some ρ12))) hf hm 25 fu 0 (pup ρ 29 (f * 9) 0) (by unfold fu; omega) (by omega) (fun p p0 p1 => by
    have p1' : p < 1 := p1
    have : p = 0 := by omega
    rw [this, Int.add_zero, pup_at]; rfl)
  have z1 : (lstF m 0).1 = 1 := rfl
  have z2 : ((0 : Nat) : Int) = 0 := rfl
  rw [z1, z2, ckp hf, jn_eq] at g1
  refine ⟨pup ρ1 30 f (lstF m 25).1, ?_, fun q a b => by rw [pup_ne b, g2 q a, pup_ne a], pup_at, fun g hg => by rw [pup_off hg, g2 30 (by omega), pup_ne (by omega)], fun j hj => by rw [pup_ne (by omega), g3 j hj, pup_off (by omega)], fun p p0 p1 => by rw [pup_ne (by omega)]; exact g4 p p0 p1⟩
  unfold f_X4_list
  rw [ckp (by omega), jn_eq, g1]
def tms (f : Int) : Int := if f = 0 then 1 else if f = 1 then 26 else 676
theorem timesOf_eq {f : Int} (hf : inR f) : f_X9_timesOf f = some (tms f) := by
  unfold f_X9_timesOf tms
  rw [ckp hf]
  split
  · rfl
  · split <;> rfl
theorem optsM_loop {W H f m : Int} {K : Int → pm → Option pm} (hw : wh W H) (hf : 0 ≤ f ∧ f < 3) (hm : few m) : ∀ (d n c : Nat) (τ : pm), d + 1 ≤ n → (c : Int) + (d : Int) = W * H → τ 62 2 = W → τ 62 3 = H → τ 75 f = (lstF m c).1 → (∀ p, 0 ≤ p → p < (lstF m c).1 → τ 74 (9 * f + p) = tms f * (lstF m c).2 p) → ∃ τ', L_X9_findOptions_44 K n f m (c : Int) τ = K f τ' ∧ (∀ q, q ≠ 74 → q ≠ 75 → τ' q = τ q) ∧ (∀ j, (j < 9 * f ∨ 9 * f + 9 ≤ j) → τ' 74 j = τ 74 j) ∧ (∀ g, g ≠ f → τ' 75 g = τ 75 g) ∧ τ' 75 f = (lstF m (W * H).toNat).1 ∧ (∀ p, 0 ≤ p → p < (lstF m (W * H).toNat).1 → τ' 74 (9 * f + p) = tms f * (lstF m (W * H).toNat).2 p) := by
  have bd := hw.bd
  intro d
  induction d with
  | zero =>
    intro n c τ hn hc h2 h3 h5 hp
    obtain ⟨x, rfl⟩ : ∃ x, n = x + 1 := ⟨n - 1, by omega⟩
    rw [L_X9_findOptions_44, h2, h3, ckp (by omega), ckp (by omega), if_pos (by omega), show (W * H).toNat = c by omega]
    exact ⟨τ, rfl, fun _ _ _ => rfl, fun _ _ => rfl, fun _ _ => rfl, h5, hp⟩
  | succ d ih =>
    intro n c τ hn hc h2 h3 h5 hp
    obtain ⟨x, rfl⟩ : ∃ x, n = x + 1 := ⟨n - 1, by omega⟩
    have h1 := (lstF_ok (m := m) (c := c) (by omega)).1
    have st := lstF_step (m := m) (c := c)
    rw [L_X9_findOptions_44, h2, h3, ckp (by omega), ckp (by omega), if_neg (by omega)]
    dsimp only [jn]
    change ∃ τ', (if bt m (c : Int) = 1 then _ else _) = _ ∧ _
    by_cases e : on m (c : Int)
    · rw [if_pos e, ckp hf, timesOf_eq (by omega), Option.bind_some, h5]
      have h9 : (lstF m c).1 < 9 := by
        by_cases h9 : 9 ≤ (lstF m c).1
        · obtain ⟨e1, e2⟩ := few_stop hm (show c ≤ 25 by omega) h9
          have c1 := lstF_cnt (m := m) (c := c + 1) (by omega)
          rw [if_pos e] at st
          have s1 : (lstF m (c + 1)).1 = (lstF m c).1 + 1 := by rw [st]
          by_cases h10 : c + 1 ≤ 25
          · have := (few_stop hm h10 (by omega)).2
            omega
          · omega
        · omega
      rw [if_pos e] at st
      have s1 : (lstF m (c + 1)).1 = (lstF m c).1 + 1 := by rw [st]
      have s2 : (lstF m (c + 1)).2 = up1 (lstF m c).2 (lstF m c).1 ((c : Int) + 1) := by rw [st]
      rw [ckp (by omega), show pup τ 74 (9 * f + (lstF m c).1) (tms f * ((c : Int) + 1)) 75 f = (lstF m c).1 by rw [pup_ne (by omega)]; exact h5]
      obtain ⟨τ', g1, g2, g3, g4, g5, g6⟩ := ih x (c + 1) (pup (pup τ 74 (9 * f + (lstF m c).1) (tms f * ((c : Int) + 1))) 75 f ((lstF m c).1 + 1)) (by omega) (by omega) (by rw [pup_ne (by omega), pup_ne (by omega)]; exact h2) (by rw [pup_ne (by omega), pup_ne (by omega)]; exact h3) (by rw [pup_at, s1]) (fun p p0 p1 => by
        rw [s1] at p1
        rw [s2, pup_ne (by omega)]
        unfold up1
        by_cases e2 : p = (lstF m c).1
        · rw [if_pos e2, e2, pup_at]
        · rw [if_neg e2, pup_off (by omega)]; exact hp p p0 (by omega))
      rw [show ((c + 1 : Nat) : Int) = (c : Int) + 1 by omega] at g1
      exact ⟨τ', g1, fun q a b => by rw [g2 q a b, pup_ne b, pup_ne a], fun j hj => by rw [g3 j hj, pup_ne (by omega), pup_off (by omega)], fun g hg => by rw [g4 g hg, pup_off hg, pup_ne (by omega)], g5, g6⟩
    · rw [if_neg e]
      rw [if_neg e] at st
      obtain ⟨τ', g1, g2, g3, g4, g5, g6⟩ := ih x (c + 1) τ (by omega) (by omega) h2 h3 (by rw [st]; exact h5) (by rw [st]; exact hp)
      rw [show ((c + 1 : Nat) : Int) = (c : Int) + 1 by omega] at g1
      exact ⟨τ', g1, g2, g3, g4, g5, g6⟩
