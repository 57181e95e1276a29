/-! next() of the program, whole -/
theorem tlC_eq0 (ρ : pm) : tlC ρ = jn (pup ρ 50 4 (ρ 50 2)) (fun ρ96 => jn (pup ρ96 50 5 0) (fun ρ97 => ck (inR (ρ97 50 2)) (ck (inR (ρ97 50 1)) (if (ρ97 50 2) < (ρ97 50 1) then ck (0 ≤ ρ97 50 2 ∧ ρ97 50 2 < 320) (ck (inR (ρ97 51 (ρ97 50 2))) (if (ρ97 51 (ρ97 50 2)) = 59 then jn (pup ρ97 50 3 3) (fun ρ128 => jn (pup ρ128 50 2 ((ρ128 50 2) + 1)) (fun ρ129 => some ρ129)) else (f_X6_isLetter (ρ97 51 (ρ97 50 2))).bind (fun v102 => jn (fun (s1 : Int) (ρ : pm) => jn (pup ρ 50 3 s1) (fun ρ104 => L_X6_next_122 kT1 fu ρ104)) (fun j119 => if v102 = 0 then j119 2 ρ97 else j119 1 ρ97)))) else jn (pup ρ97 50 3 0) (fun ρ130 => some ρ130))))) := rfl
theorem tlC_eq {ρ : pm} {p : Int} (h2 : ρ 50 2 = p) (h1 : 0 ≤ ρ 50 1 ∧ ρ 50 1 ≤ 320) (hp : 0 ≤ p ∧ p ≤ ρ 50 1) (hb : inR (ρ 51 p)) : tlC ρ = if p < ρ 50 1 then (if ρ 51 p = 59 then some (pup (pup (pup (pup ρ 50 4 p) 50 5 0) 50 3 3) 50 2 (p + 1)) else (f_X6_isLetter (ρ 51 p)).bind (fun v => if v = 0 then L_X6_next_122 kT1 fu (pup (pup (pup ρ 50 4 p) 50 5 0) 50 3 2) else L_X6_next_122 kT1 fu (pup (pup (pup ρ 50 4 p) 50 5 0) 50 3 1))) else some (pup (pup (pup ρ 50 4 p) 50 5 0) 50 3 0) := by
  have e2 : pup (pup ρ 50 4 p) 50 5 0 50 2 = p := by rw [pup_off (by omega), pup_off (by omega)]; exact h2
  have e1 : pup (pup ρ 50 4 p) 50 5 0 50 1 = ρ 50 1 := by rw [pup_off (by omega), pup_off (by omega)]
  have e51 : pup (pup ρ 50 4 p) 50 5 0 51 = ρ 51 := by rw [pup_ne (by omega), pup_ne (by omega)]
  rw [tlC_eq0, h2]
  simp only [jn_eq]
  rw [e2, e1, e51, ckp (by omega), ckp (by omega)]
  by_cases c : p < ρ 50 1
  · rw [if_pos c, if_pos c, ckp (by omega), ckp hb, pup_off (show (2 : Int) ≠ 3 by omega), e2]
  · rw [if_neg c, if_neg c]
def TkC (B : Int → Int) (N p : Int) (ρ : pm) : Prop :=
  (p = N ∧ ρ 50 6 = 0 ∧ ρ 50 3 = 0 ∧ ρ 50 2 = p) ∨
  (p < N ∧ (97 ≤ B p ∧ B p ≤ 122) ∧ ρ 50 6 = 0 ∧ ρ 50 3 = 1 ∧ ρ 50 2 = ltr B (N - p).toNat p) ∨
  (p < N ∧ (48 ≤ B p ∧ B p ≤ 57) ∧ fig B (N - p).toNat p - p ≤ 2 ∧ ρ 50 6 = 0 ∧ ρ 50 3 = 2 ∧ ρ 50 2 = fig B (N - p).toNat p ∧ ρ 50 5 = fvl B (N - p).toNat p 0) ∨
  (p < N ∧ B p = 59 ∧ ρ 50 6 = 0 ∧ ρ 50 3 = 3 ∧ ρ 50 2 = p + 1) ∨
  (p < N ∧ ((48 ≤ B p ∧ B p ≤ 57 ∧ 2 < fig B (N - p).toNat p - p) ∨ (¬ (97 ≤ B p ∧ B p ≤ 122) ∧ ¬ (48 ≤ B p ∧ B p ≤ 57) ∧ B p ≠ 59)) ∧ ρ 50 6 = 1 ∧ ρ 50 7 = p)
