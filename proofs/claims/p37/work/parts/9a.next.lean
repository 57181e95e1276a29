/-! next() of the program: past the spaces, and then its tail -/
def tlC (ρ : pm) : Option pm := jn (pup ρ 50 4 (ρ 50 2)) (fun ρ96 => jn (pup ρ96 50 5 0) (fun ρ97 => ck (inR (ρ97 50 2)) (ck (inR (ρ97 50 1)) (if (ρ97 50 2) < (ρ97 50 1) then ck (0 ≤ ρ97 50 2 ∧ ρ97 50 2 < 320) (ck (inR (ρ97 51 (ρ97 50 2))) (if (ρ97 51 (ρ97 50 2)) = 59 then jn (pup ρ97 50 3 3) (fun ρ128 => jn (pup ρ128 50 2 ((ρ128 50 2) + 1)) (fun ρ129 => some ρ129)) else (f_X6_isLetter (ρ97 51 (ρ97 50 2))).bind (fun v102 => jn (fun (s1 : Int) (ρ : pm) => jn (pup ρ 50 3 s1) (fun ρ104 => L_X6_next_122 (fun (ρ : pm) => ck (inR (ρ 50 2)) (ck (inR (ρ 50 1)) (if (ρ 50 1) ≤ (ρ 50 2) then ck (inR (ρ 50 4)) (jn (fun (ρ : pm) => (f_X6_fail 1 ρ).bind (fun ρ108 => some ρ108)) (fun j272 => if (ρ 50 2) = (ρ 50 4) then j272 ρ else ck (inR (ρ 50 3)) (if (ρ 50 3) = 2 then ck (inR ((ρ 50 2) - (ρ 50 4))) (if ((ρ 50 2) - (ρ 50 4)) ≤ 2 then some ρ else j272 ρ) else some ρ))) else ck (inR (ρ 50 3)) (if (ρ 50 3) = 2 then ck (0 ≤ ρ 50 2 ∧ ρ 50 2 < 320) ((f_X6_isFigure (ρ 51 (ρ 50 2))).bind (fun v116 => if v116 = 0 then ck (inR (ρ 50 4)) (jn (fun (ρ : pm) => (f_X6_fail 1 ρ).bind (fun ρ119 => some ρ119)) (fun j272 => if (ρ 50 2) = (ρ 50 4) then j272 ρ else if (ρ 50 3) = 2 then ck (inR ((ρ 50 2) - (ρ 50 4))) (if ((ρ 50 2) - (ρ 50 4)) ≤ 2 then some ρ else j272 ρ) else some ρ)) else jn (pup ρ 50 5 ((((ρ 50 5) * 10) + (ρ 51 (ρ 50 2))) - 48)) (fun ρ121 => jn (pup ρ121 50 2 ((ρ121 50 2) + 1)) (fun ρ122 => L_X6_next_169 (fun (ρ : pm) => ck (inR (ρ 50 2)) (ck (inR (ρ 50 4)) (jn (fun (ρ : pm) => (f_X6_fail 1 ρ).bind (fun ρ125 => some ρ125)) (fun j272 => if (ρ 50 2) = (ρ 50 4) then j272 ρ else ck (inR (ρ 50 3)) (if (ρ 50 3) = 2 then ck (inR ((ρ 50 2) - (ρ 50 4))) (if ((ρ 50 2) - (ρ 50 4)) ≤ 2 then some ρ else j272 ρ) else some ρ))))) fu ρ122)))) else ck (inR (ρ 50 4)) (jn (fun (ρ : pm) => (f_X6_fail 1 ρ).bind (fun ρ113 => some ρ113)) (fun j272 => if (ρ 50 2) = (ρ 50 4) then j272 ρ else if (ρ 50 3) = 2 then ck (inR ((ρ 50 2) - (ρ 50 4))) (if ((ρ 50 2) - (ρ 50 4)) ≤ 2 then some ρ else j272 ρ) else some ρ)))))) fu ρ104)) (fun j119 => if v102 = 0 then j119 2 ρ97 else j119 1 ρ97)))) else jn (pup ρ97 50 3 0) (fun ρ130 => some ρ130)))))
theorem nextC_eq (ρ : pm) : f_X6_next ρ = ck (inR (ρ 50 2)) (ck (inR (ρ 50 1)) (if (ρ 50 1) ≤ (ρ 50 2) then tlC ρ else ck (0 ≤ ρ 50 2 ∧ ρ 50 2 < 320) (ck (inR (ρ 51 (ρ 50 2))) (if (ρ 51 (ρ 50 2)) = 32 then jn (pup ρ 50 2 ((ρ 50 2) + 1)) (fun ρ90 => L_X6_next_0 tlC fu ρ90) else tlC ρ)))) := rfl
theorem nextC_head {ρ τ : pm} {a : Int} (tp : TpR ρ τ) (h2 : ρ 50 2 = a) (ha : 0 ≤ a ∧ a ≤ ρ 50 1) : ∃ ρ', f_X6_next ρ = tlC ρ' ∧ (∀ q, q ≠ 50 → ρ' q = ρ q) ∧ (∀ j, j ≠ 2 → ρ' 50 j = ρ 50 j) ∧ ρ' 50 2 = spc (τ 70) (ρ 50 1 - a).toNat a := by
  have t1 := tp.1
  rw [nextC_eq, h2, ckp (by omega), ckp (by omega)]
  by_cases c : ρ 50 1 ≤ a
  · rw [if_pos c, show (ρ 50 1 - a).toNat = 0 by omega]
    exact ⟨ρ, rfl, fun _ _ => rfl, fun _ _ => rfl, h2⟩
  · have t2 := tp.2 a ha.1 (by omega)
    have rb := b8_R (τ 70 a)
    obtain ⟨m, em⟩ : ∃ m : Nat, (ρ 50 1 - a).toNat = m + 1 := ⟨(ρ 50 1 - a).toNat - 1, by omega⟩
    have sp : spc (τ 70) (m + 1) a = if τ 70 a = 32 then spc (τ 70) m (a + 1) else a := rfl
    rw [if_neg c, ckp (by omega), t2.2.2, ckp rb, em, sp]
    by_cases k : τ 70 a = 32
    · rw [if_pos ((b8_eq ⟨t2.1, t2.2.1⟩ (by omega)).mpr k), if_pos k, jn_eq]
      have tp2 : TpR (pup ρ 50 2 (a + 1)) τ := tp.keep (pup_off (by omega)) (pup_ne (by omega)) rfl rfl
      obtain ⟨ρ', g1, g2, g3, g4⟩ := skipC (K := tlC) m fu (pup ρ 50 2 (a + 1)) (a + 1) tp2 (by unfold fu; omega) (by rw [pup_off (by omega)]; omega) (by omega) pup_at
      exact ⟨ρ', g1, fun q hq => by rw [g2 q hq, pup_ne hq], fun j hj => by rw [g3 j hj, pup_off hj], g4⟩
    · rw [if_neg (fun z => k ((b8_eq ⟨t2.1, t2.2.1⟩ (by omega)).mp z)), if_neg k]
      exact ⟨ρ, rfl, fun _ _ => rfl, fun _ _ => rfl, h2⟩
