/-! the ends of the program's token -/
def kT2 (ρ : pm) : Option pm := ck (inR (ρ 50 2)) (ck (inR (ρ 50 4)) (jn (fun (ρ : pm) => (f_X6_fail 1 ρ).bind (fun ρ125 => some ρ125)) (fun j272 => if (ρ 50 2) = (ρ 50 4) then j272 ρ else ck (inR (ρ 50 3)) (if (ρ 50 3) = 2 then ck (inR ((ρ 50 2) - (ρ 50 4))) (if ((ρ 50 2) - (ρ 50 4)) ≤ 2 then some ρ else j272 ρ) else some ρ))))
def kT1 (ρ : pm) : Option pm := ck (inR (ρ 50 2)) (ck (inR (ρ 50 1)) (if (ρ 50 1) ≤ (ρ 50 2) then ck (inR (ρ 50 4)) (jn (fun (ρ : pm) => (f_X6_fail 1 ρ).bind (fun ρ108 => some ρ108)) (fun j272 => if (ρ 50 2) = (ρ 50 4) then j272 ρ else ck (inR (ρ 50 3)) (if (ρ 50 3) = 2 then ck (inR ((ρ 50 2) - (ρ 50 4))) (if ((ρ 50 2) - (ρ 50 4)) ≤ 2 then some ρ else j272 ρ) else some ρ))) else ck (inR (ρ 50 3)) (if (ρ 50 3) = 2 then ck (0 ≤ ρ 50 2 ∧ ρ 50 2 < 320) ((f_X6_isFigure (ρ 51 (ρ 50 2))).bind (fun v116 => if v116 = 0 then ck (inR (ρ 50 4)) (jn (fun (ρ : pm) => (f_X6_fail 1 ρ).bind (fun ρ119 => some ρ119)) (fun j272 => if (ρ 50 2) = (ρ 50 4) then j272 ρ else if (ρ 50 3) = 2 then ck (inR ((ρ 50 2) - (ρ 50 4))) (if ((ρ 50 2) - (ρ 50 4)) ≤ 2 then some ρ else j272 ρ) else some ρ)) else jn (pup ρ 50 5 ((((ρ 50 5) * 10) + (ρ 51 (ρ 50 2))) - 48)) (fun ρ121 => jn (pup ρ121 50 2 ((ρ121 50 2) + 1)) (fun ρ122 => L_X6_next_169 (fun (ρ : pm) => ck (inR (ρ 50 2)) (ck (inR (ρ 50 4)) (jn (fun (ρ : pm) => (f_X6_fail 1 ρ).bind (fun ρ125 => some ρ125)) (fun j272 => if (ρ 50 2) = (ρ 50 4) then j272 ρ else ck (inR (ρ 50 3)) (if (ρ 50 3) = 2 then ck (inR ((ρ 50 2) - (ρ 50 4))) (if ((ρ 50 2) - (ρ 50 4)) ≤ 2 then some ρ else j272 ρ) else some ρ))))) fu ρ122)))) else ck (inR (ρ 50 4)) (jn (fun (ρ : pm) => (f_X6_fail 1 ρ).bind (fun ρ113 => some ρ113)) (fun j272 => if (ρ 50 2) = (ρ 50 4) then j272 ρ else if (ρ 50 3) = 2 then ck (inR ((ρ 50 2) - (ρ 50 4))) (if ((ρ 50 2) - (ρ 50 4)) ≤ 2 then some ρ else j272 ρ) else some ρ)))))
theorem fail_eq (c : Int) (ρ : pm) : f_X6_fail c ρ = some (pup (pup ρ 50 6 c) 50 7 (ρ 50 4)) := by
  unfold f_X6_fail
  rw [jn_eq, jn_eq, pup_off (by omega)]
theorem kT2_eq {ρ : pm} {e p : Int} (h2 : ρ 50 2 = e) (h4 : ρ 50 4 = p) (h3 : ρ 50 3 = 2) (hp : 0 ≤ p ∧ p < e ∧ e ≤ 320) : kT2 ρ = if e - p ≤ 2 then some ρ else some (pup (pup ρ 50 6 1) 50 7 p) := by
  unfold kT2
  rw [h2, h4, h3, ckp (by omega), ckp (by omega), jn_eq, if_neg (by omega), ckp (by decide), if_pos rfl, ckp (by omega)]
  by_cases c : e - p ≤ 2
  · rw [if_pos c, if_pos c]
  · rw [if_neg c, if_neg c]
    show (f_X6_fail 1 ρ).bind (fun ρ125 => some ρ125) = _
    rw [fail_eq, Option.bind_some, h4]
theorem kT1_name {ρ : pm} {e p : Int} (h2 : ρ 50 2 = e) (h4 : ρ 50 4 = p) (h3 : ρ 50 3 = 1) (h1 : 0 ≤ ρ 50 1 ∧ ρ 50 1 ≤ 320) (hp : 0 ≤ p ∧ p < e ∧ e ≤ 320) : kT1 ρ = some ρ := by
  unfold kT1
  rw [h2, h4, h3, ckp (by omega), ckp (by omega)]
  by_cases c : ρ 50 1 ≤ e
  · rw [if_pos c, ckp (by omega), jn_eq, if_neg (by omega), ckp (by decide), if_neg (by decide)]
  · rw [if_neg c, ckp (by decide), if_neg (by decide), ckp (by omega), jn_eq, if_neg (by omega), if_neg (by decide)]
theorem kT1_none {ρ : pm} {p x : Int} (h2 : ρ 50 2 = p) (h4 : ρ 50 4 = p) (h3 : ρ 50 3 = 2) (h1 : p < ρ 50 1 ∧ ρ 50 1 ≤ 320) (hp : 0 ≤ p) (hx : 0 ≤ x ∧ x ≤ 255) (hb : ρ 51 p = b8 x) (no : ¬ (48 ≤ x ∧ x ≤ 57)) : kT1 ρ = some (pup (pup ρ 50 6 1) 50 7 p) := by
  unfold kT1
  rw [h2, h4, h3, ckp (by omega), ckp (by omega), if_neg (by omega), ckp (by decide), if_pos rfl, ckp (by omega), hb, figureC hx, Option.bind_some, if_neg no, i00, ckp (by omega), jn_eq, if_pos rfl]
  show (f_X6_fail 1 ρ).bind (fun ρ119 => some ρ119) = _
  rw [fail_eq, Option.bind_some, h4]
theorem kT1_fig {ρ : pm} {p x : Int} (h2 : ρ 50 2 = p) (h3 : ρ 50 3 = 2) (h1 : p < ρ 50 1 ∧ ρ 50 1 ≤ 320) (hp : 0 ≤ p) (hx : 0 ≤ x ∧ x ≤ 255) (hb : ρ 51 p = b8 x) (yes : 48 ≤ x ∧ x ≤ 57) : kT1 ρ = L_X6_next_169 kT2 fu (pup (pup ρ 50 5 (ρ 50 5 * 10 + x - 48)) 50 2 (p + 1)) := by
  have eb : b8 x = x := by rw [b8_val hx, if_pos (by omega)]
  have e0 : kT1 ρ = ck (inR (ρ 50 2)) (ck (inR (ρ 50 1)) (if (ρ 50 1) ≤ (ρ 50 2) then ck (inR (ρ 50 4)) (jn (fun (ρ : pm) => (f_X6_fail 1 ρ).bind (fun ρ108 => some ρ108)) (fun j272 => if (ρ 50 2) = (ρ 50 4) then j272 ρ else ck (inR (ρ 50 3)) (if (ρ 50 3) = 2 then ck (inR ((ρ 50 2) - (ρ 50 4))) (if ((ρ 50 2) - (ρ 50 4)) ≤ 2 then some ρ else j272 ρ) else some ρ))) else ck (inR (ρ 50 3)) (if (ρ 50 3) = 2 then ck (0 ≤ ρ 50 2 ∧ ρ 50 2 < 320) ((f_X6_isFigure (ρ 51 (ρ 50 2))).bind (fun v116 => if v116 = 0 then ck (inR (ρ 50 4)) (jn (fun (ρ : pm) => (f_X6_fail 1 ρ).bind (fun ρ119 => some ρ119)) (fun j272 => if (ρ 50 2) = (ρ 50 4) then j272 ρ else if (ρ 50 3) = 2 then ck (inR ((ρ 50 2) - (ρ 50 4))) (if ((ρ 50 2) - (ρ 50 4)) ≤ 2 then some ρ else j272 ρ) else some ρ)) else jn (pup ρ 50 5 ((((ρ 50 5) * 10) + (ρ 51 (ρ 50 2))) - 48)) (fun ρ121 => jn (pup ρ121 50 2 ((ρ121 50 2) + 1)) (fun ρ122 => L_X6_next_169 kT2 fu ρ122)))) else ck (inR (ρ 50 4)) (jn (fun (ρ : pm) => (f_X6_fail 1 ρ).bind (fun ρ113 => some ρ113)) (fun j272 => if (ρ 50 2) = (ρ 50 4) then j272 ρ else if (ρ 50 3) = 2 then ck (inR ((ρ 50 2) - (ρ 50 4))) (if ((ρ 50 2) - (ρ 50 4)) ≤ 2 then some ρ else j272 ρ) else some ρ))))) := rfl
  rw [e0, h2, h3, ckp (by omega), ckp (by omega), if_neg (by omega), ckp (by decide), if_pos rfl, ckp (by omega), hb, figureC hx, Option.bind_some, if_pos yes, i10, jn_eq, jn_eq, eb, pup_off (show (2 : Int) ≠ 5 by omega), h2]
