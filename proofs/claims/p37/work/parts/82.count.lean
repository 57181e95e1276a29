/-! count() -/
theorem partsM_loop {τ : pm} {w : Int} {K : Int → Int → pm → Option (Int × pm)} : ∀ (m n c : Nat), m + 1 ≤ n → c + m = 25 → L_X9_count_4 K n w (sm (τ 63) c) (c : Int) τ = K w (sm (τ 63) 25) τ := by
  intro m
  induction m with
  | zero =>
    intro n c hn hc
    obtain ⟨x, rfl⟩ : ∃ x, n = x + 1 := ⟨n - 1, by omega⟩
    rw [L_X9_count_4, ckp (by omega), if_pos (by omega), show c = 25 by omega]
  | succ m ih =>
    intro n c hn hc
    obtain ⟨x, rfl⟩ : ∃ x, n = x + 1 := ⟨n - 1, by omega⟩
    have ih' := ih x (c + 1) (by omega) (by omega)
    rw [show ((c + 1 : Nat) : Int) = (c : Int) + 1 by omega] at ih'
    rw [L_X9_count_4, ckp (by omega), if_neg (by omega), ckp (by omega), jn_eq, jn_eq]
    exact ih'
theorem partsC_loop {ρ : pm} {q : Nat} : ∀ (m n c : Nat), m + 1 ≤ n → c + m = 25 → L_X2_allParts_4 q ρ n (sm (ρ (q + 1)) c) (c : Int) = some (sm (ρ (q + 1)) 25) := by
  intro m
  induction m with
  | zero =>
    intro n c hn hc
    obtain ⟨x, rfl⟩ : ∃ x, n = x + 1 := ⟨n - 1, by omega⟩
    rw [L_X2_allParts_4, ckp (by omega), if_pos (by omega), show c = 25 by omega]
  | succ m ih =>
    intro n c hn hc
    obtain ⟨x, rfl⟩ : ∃ x, n = x + 1 := ⟨n - 1, by omega⟩
    have ih' := ih x (c + 1) (by omega) (by omega)
    rw [show ((c + 1 : Nat) : Int) = (c : Int) + 1 by omega] at ih'
    rw [L_X2_allParts_4, ckp (by omega), if_neg (by omega), ckp (by omega), jn_eq, jn_eq]
    exact ih'
theorem bc_canM {W H : Int} {h own : Int → Int} {law b f : Int} (hw : wh W H) : f_J6_bitCount (canM W H h own law b f) = some ((lstF (canM W H h own law b f) 25).1 - 1) := by
  have bd := hw.bd
  have off : ∀ j : Nat, 25 ≤ j → j < 32 → ¬ on (canM W H h own law b f) (j : Int) := fun j j0 j1 z => by
    have := ((on_canM hw (by omega)).mp z).1
    omega
  have nn : 0 ≤ canM W H h own law b f := nn_of (canM_R _ _ _ _ _ _ _) (off 31 (by omega) (by omega))
  have hi := (canM_R W H h own law b f).2
  rw [bitCount_eq nn (by omega), sm_cut (N := 25) (n := 32) (by omega) (fun j j0 j1 => (bt_off (by omega)).mp (off j j0 j1)), lstF_cnt (by omega)]
  congr 1
  omega
theorem possC {W H fm : Int} {ρ τ : pm} (hr : RelW W H fm ρ τ) {P : Int → Int × (Int → Int)} (eP : P = optP W H fm (ρ 9) (τ 65) (ρ 8 6) (ρ 8 4)) : f_X2_possibleYears 8 ρ = some (Tot P) := by
  obtain ⟨lc, lm, h4, h4', hfm, ho, hg, -⟩ := id hr.1
  have fl := hr.2.1
  have m1 := hr.2.2.1.1
  have hC : hOK (ρ 9) := fl.2.1.ok (by omega)
  have stp : ∀ (n : Nat) (l f f' : Int), 0 ≤ f → f < fm → f + 1 = f' → L_X2_possibleYears_4 8 ρ (n + 1) l f = L_X2_possibleYears_4 8 ρ n (l * (P f).1) f' := by
    intro n l f f' f0 f1 e
    subst e
    have cc := cuttableC (q := 8) (f := f) lc hC hg h4 hfm ⟨fl.2.2.2.1.1, fl.2.2.2.1.2.1⟩ (by omega)
    rw [if_pos f1] at cc
    have e1 : (P f).1 = (lstF (canM W H (ρ 9) (τ 65) (ρ 8 6) (ρ 8 4) f) 25).1 := by
      rw [eP]
      show (lstF (optM W H fm (ρ 9) (τ 65) (ρ 8 6) (ρ 8 4) f) 25).1 = _
      rw [show optM W H fm (ρ 9) (τ 65) (ρ 8 6) (ρ 8 4) f = canM W H (ρ 9) (τ 65) (ρ 8 6) (ρ 8 4) f from if_pos f1]
    rw [L_X2_possibleYears_4, h4, ckp (by omega), ckp (by omega), if_neg (by omega), cc, Option.bind_some, show ρ (8 + 1) = ρ 9 from rfl, bc_canM lc.1, Option.bind_some, jn_eq, jn_eq, ← e1, show 1 + ((P f).1 - 1) = (P f).1 by omega]
  have fin : ∀ (n : Nat) (l f : Int), f = fm → L_X2_possibleYears_4 8 ρ (n + 1) l f = some l := by
    intro n l f e
    rw [L_X2_possibleYears_4, h4, ckp (by omega), ckp (by omega), if_pos (by omega)]
  have one : ∀ f, ¬ f < fm → (P f).1 = 1 := by
    intro f c
    rw [eP]
    show (lstF (optM W H fm (ρ 9) (τ 65) (ρ 8 6) (ρ 8 4) f) 25).1 = 1
    rw [show optM W H fm (ρ 9) (τ 65) (ρ 8 6) (ρ 8 4) f = 0 from if_neg c, lstF_cnt (by omega), sm_congr (g := fun _ => 0) (fun j hj => bt_zero (by omega))]
    decide
  unfold f_X2_possibleYears Tot
  rw [show fu = 99996 + 1 + 1 + 1 + 1 from rfl]
  have f4 : fm = 0 ∨ fm = 1 ∨ fm = 2 ∨ fm = 3 := by omega
  rcases f4 with e | e | e | e
  · rw [fin _ _ _ e.symm, one 0 (by omega), one 1 (by omega), one 2 (by omega)]; rfl
  · rw [stp _ _ 0 1 (by omega) (by omega) rfl, fin _ _ _ e.symm, one 1 (by omega), one 2 (by omega), Int.one_mul, Int.mul_one, Int.mul_one]
  · rw [stp _ _ 0 1 (by omega) (by omega) rfl, stp _ _ 1 2 (by omega) (by omega) rfl, fin _ _ _ e.symm, one 2 (by omega), Int.one_mul, Int.mul_one]
  · rw [stp _ _ 0 1 (by omega) (by omega) rfl, stp _ _ 1 2 (by omega) (by omega) rfl, stp _ _ 2 3 (by omega) (by omega) rfl, fin _ _ _ e.symm, Int.one_mul]
theorem kept_cnt {k : Int} (hk : 0 ≤ k ∧ k < 4) : f_J6_bitCount k = some (bt k 0 + bt k 1) := by
  have : k = 0 ∨ k = 1 ∨ k = 2 ∨ k = 3 := by omega
  rcases this with rfl | rfl | rfl | rfl <;> decide
theorem k_count {ρ τ : pm} (h : Rel ρ τ) {w : Int} (hw : inR w) : ∃ r τ', f_X8_count w ρ = some r ∧ f_X9_count w τ = some (r, τ') ∧ Rel ρ τ' := by
  obtain ⟨W, H, fm, hr⟩ := h
  obtain ⟨a1, a2, a3, a4, a5, a6, a7, a8⟩ := id hr
  have m1 := a3.1
  have m3 := a3.2.2.1
  have m5 := a3.2.2.2.2.1
  rw [Int.zero_add] at m3 m5
  have lp := partsM_loop (τ := τ) (w := w) (K := fun (l1 l2 : Int) (ρ : pm) => ck (inR l1) (if l1 = 0 then (f_X9_findBed ρ).bind (fun ρ6 => some (ρ6 62 31, ρ6)) else if l1 = 1 then some (ρ 63 32, ρ) else if l1 = 2 then some (ρ 63 39, ρ) else if l1 = 3 then (f_X9_flag (ρ 64 0)).bind (fun v10 => (f_X9_flag (ρ 64 1)).bind (fun v11 => some (v10 + v11, ρ))) else if l1 = 4 then some (ρ 62 23, ρ) else if l1 = 5 then ck (inR (ρ 81 0)) (if (ρ 81 0) = (-4) then some ((-4), ρ) else some (ρ 82 0, ρ)) else if l1 = 6 then some (l2, ρ) else if l1 = 7 then (f_X9_findOptions ρ).bind (fun ρ17 => (f_X9_allOptions ρ17).bind (fun v18 => some (v18, ρ17))) else some ((-1), ρ))) 25 fu 0 (by unfold fu; omega) (by omega)
  have z2 : ((0 : Nat) : Int) = 0 := rfl
  have z3 : sm (τ 63) 0 = 0 := rfl
  rw [z2, z3] at lp
  unfold f_X8_count f_X9_count
  rw [lp, ckp hw, ckp hw]
  by_cases c0 : w = 0
  · obtain ⟨τ', b1, b2, b3, -⟩ := bedNowR a1 a2 (by omega)
    rw [if_pos c0, if_pos c0, b1, Option.bind_some, b3]
    exact ⟨_, _, rfl, rfl, W, H, fm, hr.ag (agC.refl _) b2.agM⟩
  · rw [if_neg c0, if_neg c0]
    by_cases c1 : w = 1
    · rw [if_pos c1, if_pos c1, m3.2.2]
      exact ⟨_, _, rfl, rfl, W, H, fm, hr⟩
    · rw [if_neg c1, if_neg c1]
      by_cases c2 : w = 2
      · rw [if_pos c2, if_pos c2, m5.2.2]
        exact ⟨_, _, rfl, rfl, W, H, fm, hr⟩
      · rw [if_neg c2, if_neg c2]
        by_cases c3 : w = 3
        · obtain ⟨b1, b2, b3, -⟩ := a4
          rw [if_pos c3, if_pos c3, kept_cnt b1, b2, b3, flag_eq (Z_R (bt_01 _ _ (by omega))), flag_eq (Z_R (bt_01 _ _ (by omega)))]
          refine ⟨_, τ, rfl, ?_, W, H, fm, hr⟩
          rcases bt_01 (ρ 0 11) 0 (by omega) with e | e <;> rcases bt_01 (ρ 0 11) 1 (by omega) with e' | e' <;> rw [e, e'] <;> rfl
        · rw [if_neg c3, if_neg c3]
          by_cases c4 : w = 4
          · rw [if_pos c4, if_pos c4, a6.1.2.2]
            exact ⟨_, _, rfl, rfl, W, H, fm, hr⟩
          · rw [if_neg c4, if_neg c4]
            by_cases c5 : w = 5
            · rw [if_pos c5, if_pos c5]
              rcases a5.1 0 (by omega) (by omega) with ⟨e1, e2⟩ | ⟨b1, b2, b3, b4, b5, b6⟩
              · rw [e1, e2, ckp (by decide), if_neg (by decide), ckp (by decide), if_pos rfl]
                exact ⟨_, _, rfl, rfl, W, H, fm, hr⟩
              · rw [b6, b3, ckp (by omega), if_pos b1, ckp (by omega), if_neg (by omega)]
                exact ⟨_, _, rfl, rfl, W, H, fm, hr⟩
            · rw [if_neg c5, if_neg c5]
              by_cases c6 : w = 6
              · have lc := partsC_loop (ρ := ρ) (q := 8) 25 fu 0 (by unfold fu; omega) (by omega)
                have z4 : sm (ρ (8 + 1)) 0 = 0 := rfl
                rw [z2, z4] at lc
                have es : sm (τ 63) 25 = sm (ρ (8 + 1)) 25 := sm_congr (fun j hj => a2.heq (j : Int) (by omega) (by omega))
                unfold f_X2_allParts
                rw [if_pos c6, if_pos c6, lc, es]
                exact ⟨_, _, rfl, rfl, W, H, fm, hr⟩
              · rw [if_neg c6, if_neg c6]
                by_cases c7 : w = 7
                · obtain ⟨τ', b1, b2, b3⟩ := optsR hr
                  rw [if_pos c7, if_pos c7, possC hr rfl, b1, Option.bind_some, Option.bind_some]
                  refine ⟨_, τ', rfl, ?_, W, H, fm, hr.ag (agC.refl _) b2.agM⟩
                  unfold f_X9_allOptions
                  rw [(b3 0 (by omega) (by omega)).1, (b3 1 (by omega) (by omega)).1, (b3 2 (by omega) (by omega)).1]
                  rfl
                · rw [if_neg c7, if_neg c7]
                  exact ⟨_, _, rfl, rfl, W, H, fm, hr⟩
