theorem few_0 : few 0 := by
  unfold few
  rw [sm_congr (g := fun _ => 0) (fun j hj => bt_zero (by omega))]
  decide
theorem few_canM {W H : Int} {h own : Int → Int} {law b f : Int} (hw : wh W H) (h8 : sm (fun c => if own c = f then 1 else 0) (W * H).toNat ≤ 8) : few (canM W H h own law b f) := by
  have bd := hw.bd
  have hN : (W * H).toNat ≤ 25 := by omega
  unfold few
  rw [sm_cut (N := (W * H).toNat) hN (fun j j0 j1 => (bt_off (by omega)).mp (fun z => by have := ((on_canM hw (by omega)).mp z).1; omega))]
  refine Int.le_trans (sm_le (g := fun c => if own c = f then 1 else 0) (fun j hj => ?_)) h8
  have hj' : 0 ≤ (j : Int) ∧ (j : Int) < 32 := by omega
  rcases bt_01 (canM W H h own law b f) (j : Int) hj' with e | e
  · rw [e]
    split <;> decide
  · rw [e, if_pos ((on_canM hw hj').mp e).2.1]
    exact Int.le_refl _
theorem few_optM {W H fm : Int} {ρ τ : pm} (ld : LdR W H fm ρ τ) (h : Int → Int) (law b f : Int) (hf : 0 ≤ f) : few (optM W H fm h (τ 65) law b f) := by
  unfold optM
  split
  · exact few_canM ld.1.1 ((ld.2.2.2.2.2.2.2.1 f).elim id (fun z => by omega))
  · exact few_0
/-- what a choice of options is: a year that can be -/
theorem dig_of {a b c : Int} (ha : 0 ≤ a ∧ a < 26) (hb : 0 ≤ b ∧ b < 26) (hc : 0 ≤ c ∧ c < 26) : 0 ≤ a + 26 * b + 676 * c ∧ a + 26 * b + 676 * c ≤ 17575 ∧ dig (a + 26 * b + 676 * c) 0 = a ∧ dig (a + 26 * b + 676 * c) 1 = b ∧ dig (a + 26 * b + 676 * c) 2 = c := by
  refine ⟨by omega, by omega, ?_, ?_, ?_⟩
  · show (a + 26 * b + 676 * c) % 26 = a; omega
  · show (a + 26 * b + 676 * c) / 26 % 26 = b; omega
  · show (a + 26 * b + 676 * c) / 676 % 26 = c; omega
theorem opt_bd {m p : Int} (hp : 0 ≤ p ∧ p < (lstF m 25).1) : 0 ≤ (lstF m 25).2 p ∧ (lstF m 25).2 p < 26 ∧ ((lstF m 25).2 p ≠ 0 → on m ((lstF m 25).2 p - 1)) := by
  obtain ⟨h1, h2, h3⟩ := lstF_ok (m := m) (c := 25) (by omega)
  by_cases e : p = 0
  · rw [e, h2]; exact ⟨by omega, by omega, fun z => absurd rfl z⟩
  · have := h3 p (by omega) hp.2
    exact ⟨by omega, by omega, fun _ => this.2.2⟩
/-- choices by their places -/
def yB (P : Int → Int × (Int → Int)) (i s t : Int) : Int := (P 0).2 i + 26 * (P 1).2 s + 676 * (P 2).2 t
theorem year_ok {W H fm : Int} {h own : Int → Int} {law b i s t : Int} (hi : 0 ≤ i ∧ i < (optP W H fm h own law b 0).1) (hs : 0 ≤ s ∧ s < (optP W H fm h own law b 1).1) (ht : 0 ≤ t ∧ t < (optP W H fm h own law b 2).1) : 0 ≤ yB (optP W H fm h own law b) i s t ∧ yB (optP W H fm h own law b) i s t ≤ 17575 ∧ dig (yB (optP W H fm h own law b) i s t) 0 = (optP W H fm h own law b 0).2 i ∧ dig (yB (optP W H fm h own law b) i s t) 1 = (optP W H fm h own law b 1).2 s ∧ dig (yB (optP W H fm h own law b) i s t) 2 = (optP W H fm h own law b 2).2 t ∧ ∀ f, 0 ≤ f → f < 3 → ¬ bad W H h own law b fm (yB (optP W H fm h own law b) i s t) f := by
  have a0 := opt_bd (m := optM W H fm h own law b 0) hi
  have a1 := opt_bd (m := optM W H fm h own law b 1) hs
  have a2 := opt_bd (m := optM W H fm h own law b 2) ht
  obtain ⟨d1, d2, d3, d4, d5⟩ := dig_of (a := (optP W H fm h own law b 0).2 i) (b := (optP W H fm h own law b 1).2 s) (c := (optP W H fm h own law b 2).2 t) ⟨a0.1, a0.2.1⟩ ⟨a1.1, a1.2.1⟩ ⟨a2.1, a2.2.1⟩
  refine ⟨d1, d2, d3, d4, d5, fun f f0 f1 z => ?_⟩
  obtain ⟨z1, z2⟩ := z
  have go : ∀ g x, dig (yB (optP W H fm h own law b) i s t) g = x → (x ≠ 0 → on (optM W H fm h own law b g) (x - 1)) → dig (yB (optP W H fm h own law b) i s t) g ≠ 0 → ¬ (g < fm ∧ bt (canM W H h own law b g) (dig (yB (optP W H fm h own law b) i s t) g - 1) = 1) → x < 26 → 0 ≤ x → False := by
    intro g x e1 e2 e3 e4 e5 e6
    rw [e1] at e3 e4
    have h1 := e2 e3
    unfold optM at h1
    by_cases c : g < fm
    · rw [if_pos c] at h1
      exact e4 ⟨c, h1⟩
    · rw [if_neg c] at h1
      exact on_zero (by omega) h1
  have f3 : f = 0 ∨ f = 1 ∨ f = 2 := by omega
  rcases f3 with rfl | rfl | rfl
  · exact go 0 _ d3 a0.2.2 z1 z2 a0.2.1 a0.1
  · exact go 1 _ d4 a1.2.2 z1 z2 a1.2.1 a1.1
  · exact go 2 _ d5 a2.2.2 z1 z2 a2.2.1 a2.1
theorem numberOf_0 {x : Int} : f_X8_numberOf x 0 = some x := rfl
theorem numberOf_1 {x : Int} : f_X8_numberOf x 1 = some (x * 26) := rfl
theorem numberOf_2 {x : Int} : f_X8_numberOf x 2 = some (x * 26 * 26) := rfl
/-- cells that build() leaves: all but the outlook's and the trial's -/
def agO (ρ ρ' : pm) : Prop := ∀ q, q ≠ 25 → q ≠ 26 → q ≠ 27 → (q < 28 ∨ 33 < q) → ρ' q = ρ q
theorem agO.trans {a b c : pm} (h1 : agO a b) (h2 : agO b c) : agO a c := fun q x y z u => (h2 q x y z u).trans (h1 q x y z u)
/-- the memory while years are listed: k of them -/
def OutK (W H : Int) (h : Int → Int) (sp silt : Int) (P : Int → Int × (Int → Int)) (ρ : pm) (k : Int) : Prop :=
  (∀ f, 0 ≤ f → f < 3 → ρ 30 f = (P f).1 ∧ ∀ p, 0 ≤ p → p < (P f).1 → ρ 29 (f * 9 + p) = (P f).2 p) ∧ ρ 31 0 = 1 ∧ ρ 31 1 = (P 0).1 ∧ ρ 31 2 = (P 0).1 * (P 1).1 ∧ ρ 28 5 = k ∧
  ∀ j, 0 ≤ j → j < k → ρ 32 j = yA P j ∧ ρ 33 j = (bedT W H (passH W H h sp silt (yA P j)) sp).2.1
theorem buildC_1 {W H fm : Int} {ρ0 τ : pm} (hr : RelW W H fm ρ0 τ) {P : Int → Int × (Int → Int)} (eP : P = optP W H fm (ρ0 9) (τ 65) (ρ0 8 6) (ρ0 8 4)) {t s : Int} (ht : 0 ≤ t ∧ t < (P 2).1) (hs : 0 ≤ s ∧ s < (P 1).1) {K : Int → Int → pm → Option pm} : ∀ (m n : Nat) (i : Int) (ρ : pm), m + 1 ≤ n → i + (m : Int) = (P 0).1 → 0 ≤ i → agO ρ0 ρ → OutK W H (ρ0 9) (ρ0 8 5) (ρ0 8 7) P ρ (i + (P 0).1 * (s + (P 1).1 * t)) → ∃ ρ', L_X4_build_114 K n t s ((P 1).2 s * 26 + (P 2).2 t * 26 * 26) i ρ = K t s ρ' ∧ agO ρ0 ρ' ∧ OutK W H (ρ0 9) (ρ0 8 5) (ρ0 8 7) P ρ' ((P 0).1 * (s + 1 + (P 1).1 * t)) := by
  have hP0 : 1 ≤ (P 0).1 ∧ (P 0).1 ≤ 9 := by rw [eP]; exact few_bd (few_optM hr.1 _ _ _ 0 (by omega))
  have hP1 : 1 ≤ (P 1).1 ∧ (P 1).1 ≤ 9 := by rw [eP]; exact few_bd (few_optM hr.1 _ _ _ 1 (by omega))
  have hP2 : 1 ≤ (P 2).1 ∧ (P 2).1 ≤ 9 := by rw [eP]; exact few_bd (few_optM hr.1 _ _ _ 2 (by omega))
  have m1 := hr.2.2.1.1
  intro m
  induction m with
  | zero =>
    intro n i ρ hn hi i0 ag hO
    obtain ⟨x, rfl⟩ : ∃ x, n = x + 1 := ⟨n - 1, by omega⟩
    have c0 := (hO.1 0 (by omega) (by omega)).1
    rw [L_X4_build_114, c0, ckp (by omega), ckp (by omega), if_pos (by omega)]
    refine ⟨ρ, rfl, ag, ?_⟩
    have : i + (P 0).1 * (s + (P 1).1 * t) = (P 0).1 * (s + 1 + (P 1).1 * t) := by
      rw [show s + 1 + (P 1).1 * t = (s + (P 1).1 * t) + 1 by omega]
      generalize s + (P 1).1 * t = X
      rw [Int.mul_add, Int.mul_one]
      omega
    rw [this] at hO
    exact hO
  | succ m ih =>
    intro n i ρ hn hi i0 ag hO
    obtain ⟨x, rfl⟩ : ∃ x, n = x + 1 := ⟨n - 1, by omega⟩
    obtain ⟨o1, o2, o3, o4, o5, o6⟩ := id hO
    have c0 := (o1 0 (by omega) (by omega)).1
    have c9 := (o1 0 (by omega) (by omega)).2 i i0 (by omega)
    rw [show (0 : Int) * 9 + i = i by omega] at c9
    -- the index is below 729
    have q0 : 0 ≤ (P 1).1 * t ∧ (P 1).1 * t ≤ (P 1).1 * 8 := ⟨Int.mul_nonneg (by omega) (by omega), Int.mul_le_mul_of_nonneg_left (by omega) (by omega)⟩
    have q1 : 0 ≤ s + (P 1).1 * t ∧ s + (P 1).1 * t ≤ 80 := by omega
    have q2 : 0 ≤ (P 0).1 * (s + (P 1).1 * t) ∧ (P 0).1 * (s + (P 1).1 * t) ≤ (P 0).1 * 80 := ⟨Int.mul_nonneg (by omega) q1.1, Int.mul_le_mul_of_nonneg_left q1.2 (by omega)⟩
    obtain ⟨k, ek⟩ : ∃ k, k = i + (P 0).1 * (s + (P 1).1 * t) := ⟨_, rfl⟩
    have hk : 0 ≤ k ∧ k < 729 := by omega
    have ya : yA P k = yB P i s t := by
      unfold yA yB
      have r1 : k % (P 0).1 = i := by rw [ek, Int.add_mul_emod_self_left, Int.emod_eq_of_lt i0 (by omega)]
      have r2 : k / (P 0).1 = s + (P 1).1 * t := by rw [ek, Int.add_mul_ediv_left _ _ (by omega), Int.ediv_eq_zero_of_lt i0 (by omega)]; omega
      have r3 : (s + (P 1).1 * t) % (P 1).1 = s := by rw [Int.add_mul_emod_self_left, Int.emod_eq_of_lt hs.1 hs.2]
      have r4 : k / ((P 0).1 * (P 1).1) = t := by rw [← Int.ediv_ediv_of_nonneg (by omega), r2, Int.add_mul_ediv_left _ _ (by omega), Int.ediv_eq_zero_of_lt hs.1 hs.2]; omega
      rw [r1, r2, r3, r4]
    rw [← ek] at o5 o6
    have yk := year_ok (W := W) (H := H) (fm := fm) (h := ρ0 9) (own := τ 65) (law := ρ0 8 6) (b := ρ0 8 4) (i := i) (s := s) (t := t) (by rw [← eP]; omega) (by rw [← eP]; exact hs) (by rw [← eP]; exact ht)
    rw [← eP] at yk
    obtain ⟨y, ey⟩ : ∃ y, y = yB P i s t := ⟨_, rfl⟩
    rw [← ey] at ya yk
    have e5 : (P 0).2 i + ((P 1).2 s * 26 + (P 2).2 t * 26 * 26) = y := by rw [ey]; unfold yB; omega
    rw [L_X4_build_114, c0, o5, ckp (by omega), ckp (by omega), if_neg (by omega), ckp (by omega), if_neg (by omega), ckp (by omega), c9, numberOf_0, Option.bind_some, ckp hk, e5]
    dsimp only [jn]
    -- the trial
    obtain ⟨ρ1, e1⟩ : ∃ ρ1, ρ1 = pup ρ 32 k y := ⟨_, rfl⟩
    rw [← e1]
    have n1 : ∀ q, q ≠ 32 → ρ1 q = ρ q := fun q hq => by rw [e1, pup_ne hq]
    have f8 : ∀ q, q ≤ 24 → ρ1 q = ρ0 q := fun q hq => by rw [n1 q (by omega)]; exact ag q (by omega) (by omega) (by omega) (by omega)
    have ld1 : LdR W H fm ρ1 τ := hr.1.keep (f8 1 (by omega)) (f8 2 (by omega)) (f8 3 (by omega)) rfl rfl rfl rfl
    have fl1 : FlR W H (ρ0 4 4) ρ1 τ 8 0 := hr.2.1.keep (f8 8 (by omega)) (f8 9 (by omega)) (f8 10 (by omega)) (fun _ _ _ => rfl)
    obtain ⟨ρ2, p1, p2, p3, p4⟩ := copyF (q := 25) (p := 8) (ρ := ρ1) (by omega) fl1.2.2.2.2.1.1
    rw [p1, Option.bind_some]
    have fl2 : FlR W H (ρ0 4 4) ρ2 τ 25 0 := fl1.move hr.1.1.1 p3 p4 (fun _ _ _ => rfl)
    have ld2 : LdR W H fm ρ2 τ := ld1.keep (p2 _ (by omega) (by omega) (by omega)) (p2 _ (by omega) (by omega) (by omega)) (p2 _ (by omega) (by omega) (by omega)) rfl rfl rfl rfl
    have g28 : ρ2 28 5 = k := by rw [p2 28 (by omega) (by omega) (by omega), n1 28 (by omega)]; exact o5
    have g32 : ρ2 32 k = y := by rw [p2 32 (by omega) (by omega) (by omega), e1, pup_at]
    rw [g28, g32, ckp hk]
    have h26 : ∀ c, 0 ≤ c → c < 25 → ρ0 9 c = ρ2 (25 + 1) c := fun c c0 c1 => by rw [(p3 c c0 c1).1, f8 9 (by omega)]
    have hcut : hB (99 + 3 * ρ0 4 4) (cutH (ρ2 (25 + 1)) y) := (cutH_bd (B := 99 + 3 * ρ0 4 4) hr.1.1.1 hr.2.1.2.1 (yk.2.2.2.2.2 0 (by omega) (by omega)) (yk.2.2.2.2.2 1 (by omega) (by omega)) (yk.2.2.2.2.2 2 (by omega) (by omega))).congr (cutH_heq h26)
    obtain ⟨ρ3, τ3, u1, u2, u3, u4, u5, u6, u7, u8, u9⟩ := passR (by omega : 3 < 25) ld2 fl2 (by omega) ⟨yk.1, yk.2.1⟩ hcut
    rw [u1, Option.bind_some]
    have k28 : ρ3 28 5 = k := by rw [u4 28 (by omega) (by omega) (by omega)]; exact g28
    rw [k28, ckp hk, show pup ρ3 33 k (ρ3 25 4) 28 5 = k by rw [pup_ne (by omega)]; exact k28]
    have bits : ρ3 25 4 = (bedT W H (passH W H (ρ0 9) (ρ0 8 5) (ρ0 8 7) y) (ρ0 8 5)).2.1 := by
      have b6 := u3.2.2.2.2.2.2.1
      have s5 : ρ2 25 5 = ρ0 8 5 := by rw [p4 5 (by omega) (by omega), f8 8 (by omega)]
      have s7 : ρ2 25 7 = ρ0 8 7 := by rw [p4 7 (by omega) (by omega), f8 8 (by omega)]
      have sp := hr.2.1.2.2.1
      rw [b6, u9, u5 5 (by omega) (by omega), s5, s7]
      rw [bedT_congr (passH_heq (heq.symm h26) hr.1.1.1 sp.1 sp.2.1) hr.1.1.1 sp.1 sp.2.1]
    obtain ⟨ρ4, e4⟩ : ∃ ρ4, ρ4 = pup (pup ρ3 33 k (ρ3 25 4)) 28 5 (k + 1) := ⟨_, rfl⟩
    rw [← e4]
    have n4 : ∀ q, q ≠ 33 → q ≠ 28 → q ≠ 32 → q ≠ 25 → q ≠ 26 → q ≠ 27 → ρ4 q = ρ q := fun q a b c d e f => by rw [e4, pup_ne b, pup_ne a, u4 q d e f, p2 q d e f, n1 q c]
    have n32 : ∀ j, ρ4 32 j = if j = k then y else ρ 32 j := fun j => by
      rw [e4, pup_ne (by omega), pup_ne (by omega), u4 32 (by omega) (by omega) (by omega), p2 32 (by omega) (by omega) (by omega), e1]
      by_cases e : j = k
      · rw [if_pos e, e, pup_at]
      · rw [if_neg e, pup_off e]
    have n33 : ∀ j, ρ4 33 j = if j = k then ρ3 25 4 else ρ 33 j := fun j => by
      rw [e4, pup_ne (by omega)]
      by_cases e : j = k
      · rw [if_pos e, e, pup_at]
      · rw [if_neg e, pup_off e, u4 33 (by omega) (by omega) (by omega), p2 33 (by omega) (by omega) (by omega), n1 33 (by omega)]
    obtain ⟨ρ', g1, g2, g3⟩ := ih x (i + 1) ρ4 (by omega) (by omega) (by omega) (fun q a b c d => by rw [n4 q (by omega) (by omega) (by omega) a b c]; exact ag q a b c d) (by
      refine ⟨fun f f0 f1 => ?_, ?_, ?_, ?_, ?_, fun j j0 j1 => ?_⟩
      · rw [n4 30 (by omega) (by omega) (by omega) (by omega) (by omega) (by omega), n4 29 (by omega) (by omega) (by omega) (by omega) (by omega) (by omega)]; exact o1 f f0 f1
      · rw [n4 31 (by omega) (by omega) (by omega) (by omega) (by omega) (by omega)]; exact o2
      · rw [n4 31 (by omega) (by omega) (by omega) (by omega) (by omega) (by omega)]; exact o3
      · rw [n4 31 (by omega) (by omega) (by omega) (by omega) (by omega) (by omega)]; exact o4
      · rw [e4, pup_at, ek]; omega
      · rw [n32, n33]
        by_cases e : j = k
        · rw [if_pos e, if_pos e, e, ya, bits]
          exact ⟨rfl, rfl⟩
        · rw [if_neg e, if_neg e]
          exact o6 j j0 (by omega))
    exact ⟨ρ', g1, g2, g3⟩
theorem buildC_2 {W H fm : Int} {ρ0 τ : pm} (hr : RelW W H fm ρ0 τ) {P : Int → Int × (Int → Int)} (eP : P = optP W H fm (ρ0 9) (τ 65) (ρ0 8 6) (ρ0 8 4)) {t : Int} (ht : 0 ≤ t ∧ t < (P 2).1) {K : Int → pm → Option pm} : ∀ (m n : Nat) (s : Int) (ρ : pm), m + 1 ≤ n → s + (m : Int) = (P 1).1 → 0 ≤ s → agO ρ0 ρ → OutK W H (ρ0 9) (ρ0 8 5) (ρ0 8 7) P ρ ((P 0).1 * (s + (P 1).1 * t)) → ∃ ρ', L_X4_build_69 K n t s ρ = K t ρ' ∧ agO ρ0 ρ' ∧ OutK W H (ρ0 9) (ρ0 8 5) (ρ0 8 7) P ρ' ((P 0).1 * ((P 1).1 * (t + 1))) := by
  have hP0 : 1 ≤ (P 0).1 ∧ (P 0).1 ≤ 9 := by rw [eP]; exact few_bd (few_optM hr.1 _ _ _ 0 (by omega))
  have hP1 : 1 ≤ (P 1).1 ∧ (P 1).1 ≤ 9 := by rw [eP]; exact few_bd (few_optM hr.1 _ _ _ 1 (by omega))
  have hP2 : 1 ≤ (P 2).1 ∧ (P 2).1 ≤ 9 := by rw [eP]; exact few_bd (few_optM hr.1 _ _ _ 2 (by omega))
  intro m
  induction m with
  | zero =>
    intro n s ρ hn hi i0 ag hO
    obtain ⟨x, rfl⟩ : ∃ x, n = x + 1 := ⟨n - 1, by omega⟩
    have c0 := (hO.1 1 (by omega) (by omega)).1
    rw [L_X4_build_69, c0, ckp (by omega), ckp (by omega), if_pos (by omega)]
    refine ⟨ρ, rfl, ag, ?_⟩
    rw [show s + (P 1).1 * t = (P 1).1 * (t + 1) by rw [Int.mul_add, Int.mul_one]; omega] at hO
    exact hO
  | succ m ih =>
    intro n s ρ hn hi i0 ag hO
    obtain ⟨x, rfl⟩ : ∃ x, n = x + 1 := ⟨n - 1, by omega⟩
    have c0 := (hO.1 1 (by omega) (by omega)).1
    have c9 := (hO.1 1 (by omega) (by omega)).2 s i0 (by omega)
    have c18 := (hO.1 2 (by omega) (by omega)).2 t ht.1 ht.2
    rw [show (1 : Int) * 9 + s = 9 + s by omega] at c9
    rw [show (2 : Int) * 9 + t = 18 + t by omega] at c18
    rw [L_X4_build_69, c0, ckp (by omega), ckp (by omega), if_neg (by omega), ckp (by omega), c9, numberOf_1, Option.bind_some, ckp (by omega), c18, numberOf_2, Option.bind_some, jn_eq]
    obtain ⟨ρ1, g1, g2, g3⟩ := buildC_1 (K := fun (l4 l5 : Int) (ρ : pm) => jn (l5 + 1) (fun x33 => L_X4_build_69 K x l4 x33 ρ)) hr eP ht (s := s) ⟨i0, by omega⟩ (P 0).1.toNat fu 0 ρ (by unfold fu; omega) (by omega) (by omega) ag (by rw [Int.zero_add]; exact hO)
    rw [g1, jn_eq]
    exact ih x (s + 1) ρ1 (by omega) (by omega) (by omega) g2 g3
theorem buildC_3 {W H fm : Int} {ρ0 τ : pm} (hr : RelW W H fm ρ0 τ) {P : Int → Int × (Int → Int)} (eP : P = optP W H fm (ρ0 9) (τ 65) (ρ0 8 6) (ρ0 8 4)) : ∀ (m n : Nat) (t : Int) (ρ : pm), m + 1 ≤ n → t + (m : Int) = (P 2).1 → 0 ≤ t → agO ρ0 ρ → OutK W H (ρ0 9) (ρ0 8 5) (ρ0 8 7) P ρ ((P 0).1 * ((P 1).1 * t)) → ∃ ρ', L_X4_build_55 n t ρ = some (pup ρ' 28 6 1) ∧ agO ρ0 ρ' ∧ OutK W H (ρ0 9) (ρ0 8 5) (ρ0 8 7) P ρ' ((P 0).1 * ((P 1).1 * (P 2).1)) := by
  have hP0 : 1 ≤ (P 0).1 ∧ (P 0).1 ≤ 9 := by rw [eP]; exact few_bd (few_optM hr.1 _ _ _ 0 (by omega))
  have hP1 : 1 ≤ (P 1).1 ∧ (P 1).1 ≤ 9 := by rw [eP]; exact few_bd (few_optM hr.1 _ _ _ 1 (by omega))
  have hP2 : 1 ≤ (P 2).1 ∧ (P 2).1 ≤ 9 := by rw [eP]; exact few_bd (few_optM hr.1 _ _ _ 2 (by omega))
  intro m
  induction m with
  | zero =>
    intro n t ρ hn hi i0 ag hO
    obtain ⟨x, rfl⟩ : ∃ x, n = x + 1 := ⟨n - 1, by omega⟩
    have c0 := (hO.1 2 (by omega) (by omega)).1
    rw [L_X4_build_55, c0, ckp (by omega), ckp (by omega), if_pos (by omega), jn_eq]
    rw [show t = (P 2).1 by omega] at hO
    exact ⟨ρ, rfl, ag, hO⟩
  | succ m ih =>
    intro n t ρ hn hi i0 ag hO
    obtain ⟨x, rfl⟩ : ∃ x, n = x + 1 := ⟨n - 1, by omega⟩
    have c0 := (hO.1 2 (by omega) (by omega)).1
    rw [L_X4_build_55, c0, ckp (by omega), ckp (by omega), if_neg (by omega)]
    obtain ⟨ρ1, g1, g2, g3⟩ := buildC_2 (K := fun (l4 : Int) (ρ : pm) => jn (l4 + 1) (fun x34 => L_X4_build_55 x x34 ρ)) hr eP (t := t) ⟨i0, by omega⟩ (P 1).1.toNat fu 0 ρ (by unfold fu; omega) (by omega) (by omega) ag (by rw [Int.zero_add]; exact hO)
    rw [g1, jn_eq]
    exact ih x (t + 1) ρ1 (by omega) (by omega) (by omega) g2 g3
/-- one farm's options -/
theorem buildC_0 {W H fm : Int} {ρ0 τ : pm} (hr : RelW W H fm ρ0 τ) {P : Int → Int × (Int → Int)} (eP : P = optP W H fm (ρ0 9) (τ 65) (ρ0 8 6) (ρ0 8 4)) {K : pm → Option pm} {n : Nat} {f f' st : Int} {ρ : pm} (hf : 0 ≤ f ∧ f < 3) (e : f + 1 = f') (ag : agO ρ0 ρ) : ∃ ρ', L_X4_build_5 K (n + 1) st f ρ = L_X4_build_5 K n (st * (P f).1) f' ρ' ∧ agO ρ0 ρ' ∧ ρ' 30 f = (P f).1 ∧ (∀ g, g ≠ f → ρ' 30 g = ρ 30 g) ∧ (∀ j, (j < f * 9 ∨ f * 9 + 9 ≤ j) → ρ' 29 j = ρ 29 j) ∧ (∀ p, 0 ≤ p → p < (P f).1 → ρ' 29 (f * 9 + p) = (P f).2 p) ∧ ρ' 31 f = st ∧ (∀ g, g ≠ f → ρ' 31 g = ρ 31 g) := by
  subst e
  have f8 : ∀ q, q ≤ 24 → ρ q = ρ0 q := fun q hq => ag q (by omega) (by omega) (by omega) (by omega)
  have ld1 : LdR W H fm ρ τ := hr.1.keep (f8 1 (by omega)) (f8 2 (by omega)) (f8 3 (by omega)) rfl rfl rfl rfl
  obtain ⟨lc, lm, h4, h4', hfm, ho, hg, -⟩ := id ld1
  have fl := hr.2.1
  have m1 := hr.2.2.1.1
  have hC : hOK (ρ 9) := by rw [f8 9 (by omega)]; exact fl.2.1.ok (by omega)
  have cc := cuttableC (q := 8) (f := f) lc hC hg h4 hfm (by rw [f8 8 (by omega)]; exact ⟨fl.2.2.2.1.1, fl.2.2.2.1.2.1⟩) hf
  rw [show 8 + 1 = 9 from rfl, f8 9 (by omega), f8 8 (by omega)] at cc
  have eM : (if f < fm then canM W H (ρ0 9) (τ 65) (ρ0 8 6) (ρ0 8 4) f else 0) = optM W H fm (ρ0 9) (τ 65) (ρ0 8 6) (ρ0 8 4) f := rfl
  rw [eM] at cc
  obtain ⟨ρ1, l1, l2, l3, l4, l5, l6⟩ := listC (m := optM W H fm (ρ0 9) (τ 65) (ρ0 8 6) (ρ0 8 4) f) ρ hf (few_optM hr.1 _ _ _ f hf.1)
  have ePf : lstF (optM W H fm (ρ0 9) (τ 65) (ρ0 8 6) (ρ0 8 4) f) 25 = P f := by rw [eP]; rfl
  rw [ePf] at l3 l6
  rw [L_X4_build_5, ckp (by omega), if_neg (by omega), cc, Option.bind_some, l1, Option.bind_some, ckp hf, jn_eq, jn_eq, jn_eq, pup_ne (show 30 ≠ 31 by omega), l3]
  refine ⟨pup ρ1 31 f st, rfl, fun q a b c d => by rw [pup_ne (by omega), l2 q (by omega) (by omega)]; exact ag q a b c d, by rw [pup_ne (by omega)]; exact l3, fun g hg => by rw [pup_ne (by omega)]; exact l4 g hg, fun j hj => by rw [pup_ne (by omega)]; exact l5 j hj, fun p p0 p1 => by rw [pup_ne (by omega)]; exact l6 p p0 p1, pup_at, fun g hg => by rw [pup_off hg, l2 31 (by omega) (by omega)]⟩
theorem buildC {W H fm : Int} {ρ τ : pm} (hr : RelW W H fm ρ τ) : ∃ ρ', f_X4_build ρ = some ρ' ∧ agO ρ ρ' ∧ ρ' 28 6 = 1 ∧ OutOK W H (ρ 9) (ρ 8 5) (ρ 8 7) (optP W H fm (ρ 9) (τ 65) (ρ 8 6) (ρ 8 4)) ρ' := by
  obtain ⟨P, eP⟩ : ∃ P, P = optP W H fm (ρ 9) (τ 65) (ρ 8 6) (ρ 8 4) := ⟨_, rfl⟩
  rw [← eP]
  have hP0 : 1 ≤ (P 0).1 ∧ (P 0).1 ≤ 9 := by rw [eP]; exact few_bd (few_optM hr.1 _ _ _ 0 (by omega))
  have hP1 : 1 ≤ (P 1).1 ∧ (P 1).1 ≤ 9 := by rw [eP]; exact few_bd (few_optM hr.1 _ _ _ 1 (by omega))
  have hP2 : 1 ≤ (P 2).1 ∧ (P 2).1 ≤ 9 := by rw [eP]; exact few_bd (few_optM hr.1 _ _ _ 2 (by omega))
  unfold f_X4_build
  rw [show fu = 99996 + 1 + 1 + 1 + 1 from rfl]
  obtain ⟨ρ1, a1, a2, a3, a4, a5, a6, a7, a8⟩ := buildC_0 (K := fun (ρ : pm) => jn (pup ρ 28 5 0) (fun ρ8 => L_X4_build_55 (99996 + 1 + 1 + 1 + 1) 0 ρ8)) (n := 99996 + 1 + 1 + 1) (f := 0) (f' := 1) (st := 1) (ρ := ρ) hr eP (by omega) rfl (fun _ _ _ _ _ => rfl)
  obtain ⟨ρ2, b1, b2, b3, b4, b5, b6, b7, b8⟩ := buildC_0 (K := fun (ρ : pm) => jn (pup ρ 28 5 0) (fun ρ8 => L_X4_build_55 (99996 + 1 + 1 + 1 + 1) 0 ρ8)) (n := 99996 + 1 + 1) (f := 1) (f' := 2) (st := 1 * (P 0).1) (ρ := ρ1) hr eP (by omega) rfl a2
  obtain ⟨ρ3, c1, c2, c3, c4, c5, c6, c7, c8⟩ := buildC_0 (K := fun (ρ : pm) => jn (pup ρ 28 5 0) (fun ρ8 => L_X4_build_55 (99996 + 1 + 1 + 1 + 1) 0 ρ8)) (n := 99996 + 1) (f := 2) (f' := 3) (st := 1 * (P 0).1 * (P 1).1) (ρ := ρ2) hr eP (by omega) rfl b2
  rw [a1, b1, c1, L_X4_build_5, ckp (by omega), if_pos (by omega), jn_eq]
  obtain ⟨ρ4, e4⟩ : ∃ ρ4, ρ4 = pup ρ3 28 5 0 := ⟨_, rfl⟩
  rw [← e4]
  have n4 : ∀ q, q ≠ 28 → ρ4 q = ρ3 q := fun q hq => by rw [e4, pup_ne hq]
  obtain ⟨ρ5, g1, g2, g3⟩ := buildC_3 hr eP (P 2).1.toNat (99996 + 1 + 1 + 1 + 1) 0 ρ4 (by omega) (by omega) (by omega) (fun q a b c d => by rw [n4 q (by omega)]; exact c2 q a b c d) (by
    refine ⟨fun f f0 f1 => ?_, ?_, ?_, ?_, ?_, fun j j0 j1 => ?_⟩
    · rw [n4 30 (by omega), n4 29 (by omega)]
      have f3 : f = 0 ∨ f = 1 ∨ f = 2 := by omega
      rcases f3 with rfl | rfl | rfl
      · exact ⟨by rw [c4 0 (by omega), b4 0 (by omega), a3], fun p p0 p1 => by rw [c5 _ (by omega), b5 _ (by omega)]; exact a6 p p0 p1⟩
      · exact ⟨by rw [c4 1 (by omega), b3], fun p p0 p1 => by rw [c5 _ (by omega)]; exact b6 p p0 p1⟩
      · exact ⟨c3, c6⟩
    · rw [n4 31 (by omega), c8 0 (by omega), b8 0 (by omega), a7]
    · rw [n4 31 (by omega), c8 1 (by omega), b7, Int.one_mul]
    · rw [n4 31 (by omega), c7, Int.one_mul]
    · rw [e4, pup_at, Int.mul_zero, Int.mul_zero]
    · rw [Int.mul_zero, Int.mul_zero] at j1
      omega)
  rw [g1]
  refine ⟨_, rfl, fun q a b c d => by rw [pup_ne (by omega)]; exact g2 q a b c d, pup_at, ?_⟩
  obtain ⟨o1, o2, o3, o4, o5, o6⟩ := g3
  rw [← Int.mul_assoc] at o5 o6
  unfold OutOK
  rw [pup_ne (show 30 ≠ 28 by omega), pup_ne (show 29 ≠ 28 by omega), pup_ne (show 31 ≠ 28 by omega), pup_ne (show 32 ≠ 28 by omega), pup_ne (show 33 ≠ 28 by omega), pup_off (show (5 : Int) ≠ 6 by omega)]
  exact ⟨o1, o2, o3, o4, o5, o6⟩
/-- the class looks ahead -/
theorem lookC {W H fm : Int} {ρ τ : pm} (hr : RelW W H fm ρ τ) : ∃ ρ', f_X8_lookAhead ρ = some ρ' ∧ RelW W H fm ρ' τ ∧ OutOK W H (ρ' 9) (ρ' 8 5) (ρ' 8 7) (optP W H fm (ρ' 9) (τ 65) (ρ' 8 6) (ρ' 8 4)) ρ' := by
  unfold f_X8_lookAhead
  rcases hr.2.2.2.2.2.2.2 with e | ⟨e, ok⟩
  · obtain ⟨ρ', g1, g2, g3, g4⟩ := buildC hr
    rw [e, ckp (by decide), i00, g1, Option.bind_some]
    have f8 : ∀ q, q ≤ 24 → ρ' q = ρ q := fun q hq => g2 q (by omega) (by omega) (by omega) (by omega)
    have ok' : OutOK W H (ρ' 9) (ρ' 8 5) (ρ' 8 7) (optP W H fm (ρ' 9) (τ 65) (ρ' 8 6) (ρ' 8 4)) ρ' := by rw [f8 9 (by omega), f8 8 (by omega)]; exact g4
    obtain ⟨a1, a2, a3, a4, a5, a6, a7, a8⟩ := id hr
    refine ⟨ρ', rfl, ⟨a1.keep (f8 _ (by omega)) (f8 _ (by omega)) (f8 _ (by omega)) rfl rfl rfl rfl, ?_, a3.keep (f8 _ (by omega)) (f8 _ (by omega)) (f8 _ (by omega)) (f8 _ (by omega)) (fun _ _ _ => rfl), a4.keep (by rw [f8 0 (by omega)]) (fun q q0 q1 => f8 q (by omega)) rfl (fun _ _ _ => rfl), a5.keep (g2 _ (by omega) (by omega) (by omega) (by omega)) (g2 _ (by omega) (by omega) (by omega) (by omega)) (g2 _ (by omega) (by omega) (by omega) (by omega)) rfl rfl rfl, a6.keep (by rw [g2 50 (by omega) (by omega) (by omega) (by omega)]) (g2 _ (by omega) (by omega) (by omega) (by omega)) rfl rfl, by rw [f8 0 (by omega)]; exact a7, Or.inr ⟨g3, ok'⟩⟩, ok'⟩
    rw [f8 4 (by omega)]
    exact a2.keep (f8 _ (by omega)) (f8 _ (by omega)) (f8 _ (by omega)) (fun _ _ _ => rfl)
  · rw [e, ckp (by decide), i10]
    exact ⟨ρ, rfl, hr, ok⟩
