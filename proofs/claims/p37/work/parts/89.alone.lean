/-! alone(): the program's levels -/
theorem numberOf_tms {f x : Int} (hf : 0 ≤ f ∧ f < 3) : f_X8_numberOf x f = some (tms f * x) := by
  have f3 : f = 0 ∨ f = 1 ∨ f = 2 := by omega
  rcases f3 with rfl | rfl | rfl
  · rw [numberOf_0]; congr 1; show x = 1 * x; omega
  · rw [numberOf_1]; congr 1; show x * 26 = 26 * x; omega
  · rw [numberOf_2]; congr 1; show x * 26 * 26 = 676 * x; omega
theorem br37_0 {f c r : Int} {ρ : pm} (hr : r = 0) (hc : 0 ≤ c ∧ c < 25) : f_X0_brings37 f c r ρ = some (bt (ρ 38 4) c, ρ) := by
  unfold f_X0_brings37
  rw [ckp (by omega), jn_eq, if_pos (by omega)]
  show (f_X8_has (ρ 38 4) c).bind (fun v2 => some (v2, ρ)) = _
  rw [has_eq (by omega), Option.bind_some]
theorem br36_0 {f c r : Int} {ρ : pm} (hr : r = 0) (hc : 0 ≤ c ∧ c < 25) : f_X0_brings36 f c r ρ = some (bt (ρ 41 4) c, ρ) := by
  unfold f_X0_brings36
  rw [ckp (by omega), jn_eq, if_pos (by omega)]
  show (f_X8_has (ρ 41 4) c).bind (fun v2 => some (v2, ρ)) = _
  rw [has_eq (by omega), Option.bind_some]
theorem end36 {f c r cm : Int} (m : Nat) (ρ : pm) : L_X0_brings36_36 (m + 1) f c r cm 26 ρ = some (0, ρ) := by
  rw [L_X0_brings36_36, ckp (by decide), if_pos (by decide)]
theorem skip36 {f c r cm : Int} (m : Nat) (x : Int) (ρ : pm) (x0 : 1 ≤ x) (x1 : x ≤ 25) (ho : ¬ on cm (x - 1)) : L_X0_brings36_36 (m + 1) f c r cm x ρ = L_X0_brings36_36 m f c r cm (x + 1) ρ := by
  rw [L_X0_brings36_36, ckp (by omega), if_neg (by omega)]
  dsimp only [jn]
  rw [if_neg (show ¬ x = 0 by omega), has_eq (by omega), Option.bind_some, (bt_off (by omega)).mp ho, i00]
theorem go36 {f c r cm : Int} (hf : 0 ≤ f ∧ f < 3) (m : Nat) (x : Int) (ρ ρ9 ρ11 : pm) (v : Int) (ρ13 : pm) (x0 : 0 ≤ x) (x1 : x ≤ 25) (ho : x = 0 ∨ on cm (x - 1)) (a1 : f_X2_copy 38 41 (pup ρ 36 2 (md x)) = some ρ9) (a2 : f_X2_pass 38 (tms f * x) ρ9 = some ρ11) (a3 : f_X0_brings37 f c (r - 1) ρ11 = some (v, ρ13)) : L_X0_brings36_36 (m + 1) f c r cm x ρ = if v = 0 then L_X0_brings36_36 m f c r cm (x + 1) ρ13 else some (1, ρ13) := by
  have fin : ∀ s, s = md x → ((f_X2_copy 38 41 (pup ρ 36 2 s)).bind (fun ρ9 => (f_X8_numberOf x f).bind (fun v10 => (f_X2_pass 38 v10 ρ9).bind (fun ρ11 => bn2 (f_X0_brings37 f c (r - 1) ρ11) (fun v12 ρ13 => if v12 = 0 then L_X0_brings36_36 m f c r cm (x + 1) ρ13 else some (1, ρ13)))))) = if v = 0 then L_X0_brings36_36 m f c r cm (x + 1) ρ13 else some (1, ρ13) := by
    intro s es
    rw [es, a1, Option.bind_some, numberOf_tms hf, Option.bind_some, a2, Option.bind_some, a3, bn2_of]
  rw [L_X0_brings36_36, ckp (by omega), if_neg (by omega)]
  dsimp only [jn]
  by_cases e : x = 0
  · rw [if_pos e, ckp (by omega), if_pos e]
    exact fin 25 (if_pos e).symm
  · have o1 : bt cm (x - 1) = 1 := ho.resolve_left e
    rw [if_neg e, has_eq (by omega), Option.bind_some, o1, i10, ckp (by omega), if_neg e]
    exact fin (x - 1) (if_neg e).symm
theorem sr36 {W H fm Y f c n r : Int} {K : Int → pm → Option (Int × pm)} {sub : Nat} (er : r = n - 2) (hn : 2 < n ∧ n ≤ 3) (hc : 0 ≤ c ∧ c < 25) (hf : 0 ≤ f ∧ f < fm) (hY : 0 ≤ Y ∧ Y ≤ 2000) (hsub : (n = ((2 : Nat) : Int) + 1 ∧ ∀ ρ, f_X0_brings37 f c (r - 1) ρ = some (bt (ρ 38 4) c, ρ)) ∨ (((2 : Nat) : Int) + 1 < n ∧ SR W H fm f c n K (Y + 1) (2 + 1) 38 sub (fun ρ => f_X0_brings37 f c (r - 1) ρ))) :
    SR W H fm f c n K Y 2 41 (26 * (sub + 2) + 1) (fun ρ => f_X0_brings36 f c r ρ) := by
  intro m ρ τ hm ld lv h77
  obtain ⟨lc, lm, h4, h4', hfm, ho, hg, -⟩ := id ld
  have few1 : few (cans W H ρ τ 41 f) := by
    have := few_optM ld (ρ (41 + 1)) (ρ 41 6) (ρ 41 4) f hf.1
    rw [show optM W H fm (ρ (41 + 1)) (τ 65) (ρ 41 6) (ρ 41 4) f = canM W H (ρ (41 + 1)) (τ 65) (ρ 41 6) (ρ 41 4) f from if_pos hf.2] at this
    exact this
  have cc := cuttableC (q := 41) (f := f) lc (lv.1.2.1.ok (by omega)) hg h4 hfm ⟨lv.1.2.2.2.1.1, lv.1.2.2.2.1.2.1⟩ (by omega)
  rw [if_pos hf.2] at cc
  have e1 : f_X0_brings36 f c r ρ = L_X0_brings36_36 fu f c r (cans W H ρ τ 41 f) 0 ρ := by
    unfold f_X0_brings36
    rw [ckp (by omega), jn_eq, if_neg (by omega), cc, Option.bind_some]
  show RS K f c n 2 m (26 * (sub + 2) + 1) ρ τ (f_X0_brings36 f c r ρ)
  rw [e1]
  exact levelR (L := 2) (q := 41) (q' := 38) (d := 36) (F' := fun ρ => f_X0_brings37 f c (r - 1) ρ) (CL := fun m x ρ2 => L_X0_brings36_36 m f c r (cans W H ρ τ 41 f) x ρ2) (by omega) (by omega) (by omega) (by omega) hn hc hf hY (fun m ρ => end36 m ρ) (fun m x ρ a b d => skip36 m x ρ a b d) (fun m x ρ ρ9 ρ11 v ρ13 a b d e g h => go36 (by omega) m x ρ ρ9 ρ11 v ρ13 a b d e g h) hsub few1 26 fu m 0 ρ τ (by omega) (by omega) (by unfold fu; omega) hm ld lv rfl h77
theorem br35_0 {f c r : Int} {ρ : pm} (hr : r = 0) (hc : 0 ≤ c ∧ c < 25) : f_X0_brings35 f c r ρ = some (bt (ρ 44 4) c, ρ) := by
  unfold f_X0_brings35
  rw [ckp (by omega), jn_eq, if_pos (by omega)]
  show (f_X8_has (ρ 44 4) c).bind (fun v2 => some (v2, ρ)) = _
  rw [has_eq (by omega), Option.bind_some]
theorem end35 {f c r cm : Int} (m : Nat) (ρ : pm) : L_X0_brings35_36 (m + 1) f c r cm 26 ρ = some (0, ρ) := by
  rw [L_X0_brings35_36, ckp (by decide), if_pos (by decide)]
theorem skip35 {f c r cm : Int} (m : Nat) (x : Int) (ρ : pm) (x0 : 1 ≤ x) (x1 : x ≤ 25) (ho : ¬ on cm (x - 1)) : L_X0_brings35_36 (m + 1) f c r cm x ρ = L_X0_brings35_36 m f c r cm (x + 1) ρ := by
  rw [L_X0_brings35_36, ckp (by omega), if_neg (by omega)]
  dsimp only [jn]
  rw [if_neg (show ¬ x = 0 by omega), has_eq (by omega), Option.bind_some, (bt_off (by omega)).mp ho, i00]
theorem go35 {f c r cm : Int} (hf : 0 ≤ f ∧ f < 3) (m : Nat) (x : Int) (ρ ρ9 ρ11 : pm) (v : Int) (ρ13 : pm) (x0 : 0 ≤ x) (x1 : x ≤ 25) (ho : x = 0 ∨ on cm (x - 1)) (a1 : f_X2_copy 41 44 (pup ρ 35 2 (md x)) = some ρ9) (a2 : f_X2_pass 41 (tms f * x) ρ9 = some ρ11) (a3 : f_X0_brings36 f c (r - 1) ρ11 = some (v, ρ13)) : L_X0_brings35_36 (m + 1) f c r cm x ρ = if v = 0 then L_X0_brings35_36 m f c r cm (x + 1) ρ13 else some (1, ρ13) := by
  have fin : ∀ s, s = md x → ((f_X2_copy 41 44 (pup ρ 35 2 s)).bind (fun ρ9 => (f_X8_numberOf x f).bind (fun v10 => (f_X2_pass 41 v10 ρ9).bind (fun ρ11 => bn2 (f_X0_brings36 f c (r - 1) ρ11) (fun v12 ρ13 => if v12 = 0 then L_X0_brings35_36 m f c r cm (x + 1) ρ13 else some (1, ρ13)))))) = if v = 0 then L_X0_brings35_36 m f c r cm (x + 1) ρ13 else some (1, ρ13) := by
    intro s es
    rw [es, a1, Option.bind_some, numberOf_tms hf, Option.bind_some, a2, Option.bind_some, a3, bn2_of]
  rw [L_X0_brings35_36, ckp (by omega), if_neg (by omega)]
  dsimp only [jn]
  by_cases e : x = 0
  · rw [if_pos e, ckp (by omega), if_pos e]
    exact fin 25 (if_pos e).symm
  · have o1 : bt cm (x - 1) = 1 := ho.resolve_left e
    rw [if_neg e, has_eq (by omega), Option.bind_some, o1, i10, ckp (by omega), if_neg e]
    exact fin (x - 1) (if_neg e).symm
theorem sr35 {W H fm Y f c n r : Int} {K : Int → pm → Option (Int × pm)} {sub : Nat} (er : r = n - 1) (hn : 1 < n ∧ n ≤ 3) (hc : 0 ≤ c ∧ c < 25) (hf : 0 ≤ f ∧ f < fm) (hY : 0 ≤ Y ∧ Y ≤ 2000) (hsub : (n = ((1 : Nat) : Int) + 1 ∧ ∀ ρ, f_X0_brings36 f c (r - 1) ρ = some (bt (ρ 41 4) c, ρ)) ∨ (((1 : Nat) : Int) + 1 < n ∧ SR W H fm f c n K (Y + 1) (1 + 1) 41 sub (fun ρ => f_X0_brings36 f c (r - 1) ρ))) :
    SR W H fm f c n K Y 1 44 (26 * (sub + 2) + 1) (fun ρ => f_X0_brings35 f c r ρ) := by
  intro m ρ τ hm ld lv h77
  obtain ⟨lc, lm, h4, h4', hfm, ho, hg, -⟩ := id ld
  have few1 : few (cans W H ρ τ 44 f) := by
    have := few_optM ld (ρ (44 + 1)) (ρ 44 6) (ρ 44 4) f hf.1
    rw [show optM W H fm (ρ (44 + 1)) (τ 65) (ρ 44 6) (ρ 44 4) f = canM W H (ρ (44 + 1)) (τ 65) (ρ 44 6) (ρ 44 4) f from if_pos hf.2] at this
    exact this
  have cc := cuttableC (q := 44) (f := f) lc (lv.1.2.1.ok (by omega)) hg h4 hfm ⟨lv.1.2.2.2.1.1, lv.1.2.2.2.1.2.1⟩ (by omega)
  rw [if_pos hf.2] at cc
  have e1 : f_X0_brings35 f c r ρ = L_X0_brings35_36 fu f c r (cans W H ρ τ 44 f) 0 ρ := by
    unfold f_X0_brings35
    rw [ckp (by omega), jn_eq, if_neg (by omega), cc, Option.bind_some]
  show RS K f c n 1 m (26 * (sub + 2) + 1) ρ τ (f_X0_brings35 f c r ρ)
  rw [e1]
  exact levelR (L := 1) (q := 44) (q' := 41) (d := 35) (F' := fun ρ => f_X0_brings36 f c (r - 1) ρ) (CL := fun m x ρ2 => L_X0_brings35_36 m f c r (cans W H ρ τ 44 f) x ρ2) (by omega) (by omega) (by omega) (by omega) hn hc hf hY (fun m ρ => end35 m ρ) (fun m x ρ a b d => skip35 m x ρ a b d) (fun m x ρ ρ9 ρ11 v ρ13 a b d e g h => go35 (by omega) m x ρ ρ9 ρ11 v ρ13 a b d e g h) hsub few1 26 fu m 0 ρ τ (by omega) (by omega) (by unfold fu; omega) hm ld lv rfl h77
theorem br34_0 {f c r : Int} {ρ : pm} (hr : r = 0) (hc : 0 ≤ c ∧ c < 25) : f_X0_brings34 f c r ρ = some (bt (ρ 47 4) c, ρ) := by
  unfold f_X0_brings34
  rw [ckp (by omega), jn_eq, if_pos (by omega)]
  show (f_X8_has (ρ 47 4) c).bind (fun v2 => some (v2, ρ)) = _
  rw [has_eq (by omega), Option.bind_some]
theorem end34 {f c r cm : Int} (m : Nat) (ρ : pm) : L_X0_brings34_36 (m + 1) f c r cm 26 ρ = some (0, ρ) := by
  rw [L_X0_brings34_36, ckp (by decide), if_pos (by decide)]
theorem skip34 {f c r cm : Int} (m : Nat) (x : Int) (ρ : pm) (x0 : 1 ≤ x) (x1 : x ≤ 25) (ho : ¬ on cm (x - 1)) : L_X0_brings34_36 (m + 1) f c r cm x ρ = L_X0_brings34_36 m f c r cm (x + 1) ρ := by
  rw [L_X0_brings34_36, ckp (by omega), if_neg (by omega)]
  dsimp only [jn]
  rw [if_neg (show ¬ x = 0 by omega), has_eq (by omega), Option.bind_some, (bt_off (by omega)).mp ho, i00]
theorem go34 {f c r cm : Int} (hf : 0 ≤ f ∧ f < 3) (m : Nat) (x : Int) (ρ ρ9 ρ11 : pm) (v : Int) (ρ13 : pm) (x0 : 0 ≤ x) (x1 : x ≤ 25) (ho : x = 0 ∨ on cm (x - 1)) (a1 : f_X2_copy 44 47 (pup ρ 34 2 (md x)) = some ρ9) (a2 : f_X2_pass 44 (tms f * x) ρ9 = some ρ11) (a3 : f_X0_brings35 f c (r - 1) ρ11 = some (v, ρ13)) : L_X0_brings34_36 (m + 1) f c r cm x ρ = if v = 0 then L_X0_brings34_36 m f c r cm (x + 1) ρ13 else some (1, ρ13) := by
  have fin : ∀ s, s = md x → ((f_X2_copy 44 47 (pup ρ 34 2 s)).bind (fun ρ9 => (f_X8_numberOf x f).bind (fun v10 => (f_X2_pass 44 v10 ρ9).bind (fun ρ11 => bn2 (f_X0_brings35 f c (r - 1) ρ11) (fun v12 ρ13 => if v12 = 0 then L_X0_brings34_36 m f c r cm (x + 1) ρ13 else some (1, ρ13)))))) = if v = 0 then L_X0_brings34_36 m f c r cm (x + 1) ρ13 else some (1, ρ13) := by
    intro s es
    rw [es, a1, Option.bind_some, numberOf_tms hf, Option.bind_some, a2, Option.bind_some, a3, bn2_of]
  rw [L_X0_brings34_36, ckp (by omega), if_neg (by omega)]
  dsimp only [jn]
  by_cases e : x = 0
  · rw [if_pos e, ckp (by omega), if_pos e]
    exact fin 25 (if_pos e).symm
  · have o1 : bt cm (x - 1) = 1 := ho.resolve_left e
    rw [if_neg e, has_eq (by omega), Option.bind_some, o1, i10, ckp (by omega), if_neg e]
    exact fin (x - 1) (if_neg e).symm
theorem sr34 {W H fm Y f c n r : Int} {K : Int → pm → Option (Int × pm)} {sub : Nat} (er : r = n - 0) (hn : 0 < n ∧ n ≤ 3) (hc : 0 ≤ c ∧ c < 25) (hf : 0 ≤ f ∧ f < fm) (hY : 0 ≤ Y ∧ Y ≤ 2000) (hsub : (n = ((0 : Nat) : Int) + 1 ∧ ∀ ρ, f_X0_brings35 f c (r - 1) ρ = some (bt (ρ 44 4) c, ρ)) ∨ (((0 : Nat) : Int) + 1 < n ∧ SR W H fm f c n K (Y + 1) (0 + 1) 44 sub (fun ρ => f_X0_brings35 f c (r - 1) ρ))) :
    SR W H fm f c n K Y 0 47 (26 * (sub + 2) + 1) (fun ρ => f_X0_brings34 f c r ρ) := by
  intro m ρ τ hm ld lv h77
  obtain ⟨lc, lm, h4, h4', hfm, ho, hg, -⟩ := id ld
  have few1 : few (cans W H ρ τ 47 f) := by
    have := few_optM ld (ρ (47 + 1)) (ρ 47 6) (ρ 47 4) f hf.1
    rw [show optM W H fm (ρ (47 + 1)) (τ 65) (ρ 47 6) (ρ 47 4) f = canM W H (ρ (47 + 1)) (τ 65) (ρ 47 6) (ρ 47 4) f from if_pos hf.2] at this
    exact this
  have cc := cuttableC (q := 47) (f := f) lc (lv.1.2.1.ok (by omega)) hg h4 hfm ⟨lv.1.2.2.2.1.1, lv.1.2.2.2.1.2.1⟩ (by omega)
  rw [if_pos hf.2] at cc
  have e1 : f_X0_brings34 f c r ρ = L_X0_brings34_36 fu f c r (cans W H ρ τ 47 f) 0 ρ := by
    unfold f_X0_brings34
    rw [ckp (by omega), jn_eq, if_neg (by omega), cc, Option.bind_some]
  show RS K f c n 0 m (26 * (sub + 2) + 1) ρ τ (f_X0_brings34 f c r ρ)
  rw [e1]
  exact levelR (L := 0) (q := 47) (q' := 44) (d := 34) (F' := fun ρ => f_X0_brings35 f c (r - 1) ρ) (CL := fun m x ρ2 => L_X0_brings34_36 m f c r (cans W H ρ τ 47 f) x ρ2) (by omega) (by omega) (by omega) (by omega) hn hc hf hY (fun m ρ => end34 m ρ) (fun m x ρ a b d => skip34 m x ρ a b d) (fun m x ρ ρ9 ρ11 v ρ13 a b d e g h => go34 (by omega) m x ρ ρ9 ρ11 v ρ13 a b d e g h) hsub few1 26 fu m 0 ρ τ (by omega) (by omega) (by unfold fu; omega) hm ld lv rfl h77
