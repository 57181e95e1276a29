/-! row of both -/
theorem dy_up {ρ τ ρ' τ' : pm} {row i w : Int} (h : DyR ρ τ) (hr : 0 ≤ row ∧ row < 5) (hi : 0 ≤ i ∧ i < 5) (hw : 0 ≤ w ∧ w ≤ 9) (e : ρ 54 row = i)
    (r1 : ∀ j, j ≠ row * 5 + i → ρ' 53 j = ρ 53 j) (r2 : ρ' 53 (row * 5 + i) = w) (r3 : ∀ r, r ≠ row → ρ' 54 r = ρ 54 r) (r4 : ρ' 54 row = i + 1) (t1 : ∀ j, j ≠ row * 5 + i → τ' 66 j = τ 66 j) (t2 : τ' 66 (row * 5 + i) = w)
    (u : ∀ r, 0 ≤ r → r < 5 → (bt (τ' 62 17) r = 0 ↔ r ≠ row ∧ bt (τ 62 17) r = 0)) (v0 : -4 ≤ τ' 62 18 ∧ τ' 62 18 ≤ 4) (v : ∀ H, 0 ≤ H → (τ' 62 18 < H ↔ τ 62 18 < H ∧ row < H)) (x0 : -4 ≤ τ' 62 19 ∧ τ' 62 19 ≤ 4) (x : ∀ W, 0 ≤ W → (τ' 62 19 < W ↔ τ 62 19 < W ∧ i < W)) : DyR ρ' τ' := by
  obtain ⟨h1, h2, h3, h4, h5, h6⟩ := h
  refine ⟨fun j j0 j1 => ?_, fun r y0 y1 => ?_, v0, x0, fun H hH => ?_, fun W hW => ?_⟩
  · by_cases k : j = row * 5 + i
    · rw [k, t2, r2]; exact ⟨rfl, hw⟩
    · rw [t1 j k, r1 j k]; exact h1 j j0 j1
  · rw [u r y0 y1]
    by_cases k : r = row
    · rw [k, r4]; exact ⟨by omega, fun z => absurd rfl z.1, fun z => by omega⟩
    · rw [r3 r k]; exact ⟨(h2 r y0 y1).1, fun z => (h2 r y0 y1).2.mp z.2, fun z => ⟨k, (h2 r y0 y1).2.mpr z⟩⟩
  · rw [v H hH, h5 H hH]
    constructor
    · intro z r y0 y1 y2
      by_cases k : r = row
      · rw [k]; exact z.2
      · rw [r3 r k] at y2; exact z.1 r y0 y1 y2
    · intro z
      refine ⟨fun r y0 y1 y2 => ?_, z row hr.1 hr.2 (by rw [r4]; omega)⟩
      by_cases k : r = row
      · rw [k]; exact z row hr.1 hr.2 (by rw [r4]; omega)
      · exact z r y0 y1 (by rw [r3 r k]; exact y2)
  · rw [x W hW, h6 W hW]
    constructor
    · intro z r y0 y1
      by_cases k : r = row
      · rw [k, r4]; have := z.2; omega
      · rw [r3 r k]; exact z.1 r y0 y1
    · intro z
      have zr := z row hr.1 hr.2
      rw [r4] at zr
      refine ⟨fun r y0 y1 => ?_, by omega⟩
      by_cases k : r = row
      · rw [k, e]; omega
      · have := z r y0 y1
        rw [r3 r k] at this
        exact this
theorem rowC {K : pm → Option pm} {n : Nat} {row i : Int} {ρ ρ8 : pm} (hr : 0 ≤ row ∧ row < 5) (hi : 0 ≤ i ∧ i ≤ 5) (hn : f_X6_next ρ = some ρ8) (h6 : inR (ρ8 50 6)) (h3 : inR (ρ8 50 3)) (no : i = 0 ∨ ρ8 50 6 ≠ 0 ∨ ρ8 50 3 ≠ 3) : L_X1_takeRow_32 K (n + 1) row i ρ = bn2 (f_X6_isNumber 0 9 ρ8) (fun v9 ρ10 => if v9 = 0 then some ρ10 else if i < 5 then L_X1_takeRow_32 K n row (i + 1) (pup (pup ρ10 53 (row * 5 + i) (ρ10 50 5)) 54 row (i + 1)) else K ρ10) := by
  have T : (bn2 (f_X6_isNumber 0 9 ρ8) (fun v9 ρ10 => if v9 = 0 then some ρ10 else ck (inR i) (if i < 5 then ck (0 ≤ (row * 5) + i ∧ (row * 5) + i < 25) (ck (0 ≤ row ∧ row < 5) (L_X1_takeRow_32 K n row (i + 1) (pup (pup ρ10 53 (row * 5 + i) (ρ10 50 5)) 54 row (i + 1)))) else K ρ10))) = bn2 (f_X6_isNumber 0 9 ρ8) (fun v9 ρ10 => if v9 = 0 then some ρ10 else if i < 5 then L_X1_takeRow_32 K n row (i + 1) (pup (pup ρ10 53 (row * 5 + i) (ρ10 50 5)) 54 row (i + 1)) else K ρ10) := by
    simp only [ckp (show inR i from ⟨by omega, by omega⟩)]
    by_cases k : i < 5
    · simp only [if_pos k, ckp (show 0 ≤ (row * 5) + i ∧ (row * 5) + i < 25 by omega), ckp hr]
    · simp only [if_neg k]
  rw [L_X1_takeRow_32, ckp (show inR i from ⟨by omega, by omega⟩), if_neg (by omega), hn, Option.bind_some]
  dsimp only [jn]
  rw [T]
  by_cases k : i ≤ 0
  · rw [if_pos k]
  · rw [if_neg k, ckp h6]
    by_cases k2 : ρ8 50 6 = 0
    · rw [if_pos k2, ckp h3, if_neg (by omega)]
    · rw [if_neg k2]
theorem rowStop {K : pm → Option pm} {n : Nat} {row i : Int} {ρ τ : pm} (hr : 0 ≤ row ∧ row < 5) (hi : 1 ≤ i ∧ i ≤ 5) (a : AhR ρ τ) (no : τ 62 28 ≠ 0 ∨ τ 62 26 ≠ 2) : L_X1_takeRow_32 K (n + 1) row i ρ = f_X6_nextStop ρ := by
  obtain ⟨ρ1, c1, c2, tp, c3, c4⟩ := a.next
  rcases c4 with ⟨b, b1⟩ | t
  · have r6 : inR (ρ1 50 6) := ⟨by have := b.1; omega, by have := b.1; omega⟩
    have b6 := b.1
    obtain ⟨ρ', -, d2, d3, -, -⟩ := a.bad (by omega)
    have e : ρ' = ρ1 := by rw [c1] at d3; exact (Option.some.inj d3).symm
    rw [d2, e, L_X1_takeRow_32, ckp (show inR i from ⟨by omega, by omega⟩), if_neg (by omega), c1, Option.bind_some]
    dsimp only [jn]
    rw [if_neg (by omega), ckp r6, if_neg (by omega), bad_isNumber b.1, bn2_of, i00]
  · have t' := t
    obtain ⟨b1, b2, b3, b4, b5, b6, b7, b8, b9, b10⟩ := t'
    have r3 : inR (ρ1 50 3) := ⟨by omega, by omega⟩
    unfold f_X6_nextStop
    rw [c1, Option.bind_some, b1, ckp R_0, i00, ckp r3]
    by_cases k : ρ1 50 3 = 3
    · rw [L_X1_takeRow_32, ckp (show inR i from ⟨by omega, by omega⟩), if_neg (by omega), c1, Option.bind_some]
      dsimp only [jn]
      rw [if_neg (by omega), b1, ckp R_0, i00, ckp r3, if_pos k, if_pos k]
    · rw [rowC hr (by omega) c1 (by rw [b1]; exact R_0) r3 (by omega), if_neg k, fail_eq, Option.bind_some]
      have eN : f_X6_isNumber 0 9 ρ1 = some (0, pup (pup ρ1 50 6 2) 50 7 (ρ1 50 4)) := by
        unfold f_X6_isNumber
        dsimp only [jn]
        rw [b1, ckp R_0, i00, ckp r3, if_neg (by omega), fail_eq, Option.bind_some]
        rw [pup_off (by omega), pup_at, ckp (by decide), if_neg (by decide), ckp (by decide), if_neg (by decide)]
      rw [eN, bn2_of, i00]
theorem rowM_out {m : Nat} {row i s : Int} {τ : pm} (h : 1 ≤ τ 62 28 ∧ τ 62 28 ≤ 6) : L_X9_readRow_75 (m + 1) row i s τ = some τ := by
  rw [L_X9_readRow_75, ckp (show inR (τ 62 28) from ⟨by omega, by omega⟩), if_neg (by omega)]
theorem rowM_stop {m : Nat} {row i : Int} {τ : pm} (h : τ 62 28 = 0) : L_X9_readRow_75 (m + 1) row i 0 τ = some τ := by
  rw [L_X9_readRow_75, h, ckp R_0, i00, ckp R_0, i00]
/-- the reference's body: a number is looked at -/
theorem rowM {m : Nat} {row i : Int} {τ : pm} (hi : 0 ≤ i ∧ i ≤ 5) (h : τ 62 28 = 0) (h26 : inR (τ 62 26)) (no : i < 5 ∨ τ 62 26 ≠ 2) : L_X9_readRow_75 (m + 1) row i 1 τ = bn2 (f_X9_looked 0 9 τ) (fun v9 ρ10 => ck (inR (ρ10 62 28)) (if ρ10 62 28 = 0 then ck (0 ≤ (5 * row) + i ∧ (5 * row) + i < 25) (ck (inR (ρ10 62 19)) ((f_X9_next (pup (pup ρ10 66 ((5 * row) + i) v9) 62 19 (if i ≤ ρ10 62 19 then ρ10 62 19 else i))).bind (fun ρ12 => ck (inR (ρ12 62 26)) (if ρ12 62 26 = 2 then L_X9_readRow_75 m row (i + 1) 1 ρ12 else L_X9_readRow_75 m row (i + 1) 0 ρ12)))) else (f_X9_next ρ10).bind (fun ρ12 => ck (inR (ρ12 62 26)) (if ρ12 62 26 = 2 then L_X9_readRow_75 m row i 1 ρ12 else L_X9_readRow_75 m row i 0 ρ12)))) := by
  have ri : inR i := ⟨by omega, by omega⟩
  have T : ∀ (v9 : Int) (ρ10 : pm), (ck (inR i) (ck (inR ((pup ρ10 66 ((5 * row) + i) v9) 62 19)) (if i ≤ (pup ρ10 66 ((5 * row) + i) v9) 62 19 then (f_X9_next (pup (pup ρ10 66 ((5 * row) + i) v9) 62 19 ((pup ρ10 66 ((5 * row) + i) v9) 62 19))).bind (fun ρ12 => ck (inR (ρ12 62 26)) (if ρ12 62 26 = 2 then L_X9_readRow_75 m row (i + 1) 1 ρ12 else L_X9_readRow_75 m row (i + 1) 0 ρ12)) else (f_X9_next (pup (pup ρ10 66 ((5 * row) + i) v9) 62 19 i)).bind (fun ρ12 => ck (inR (ρ12 62 26)) (if ρ12 62 26 = 2 then L_X9_readRow_75 m row (i + 1) 1 ρ12 else L_X9_readRow_75 m row (i + 1) 0 ρ12))))) = (ck (inR (ρ10 62 19)) ((f_X9_next (pup (pup ρ10 66 ((5 * row) + i) v9) 62 19 (if i ≤ ρ10 62 19 then ρ10 62 19 else i))).bind (fun ρ12 => ck (inR (ρ12 62 26)) (if ρ12 62 26 = 2 then L_X9_readRow_75 m row (i + 1) 1 ρ12 else L_X9_readRow_75 m row (i + 1) 0 ρ12)))) := by
    intro v9 ρ10
    rw [ckp ri, pup_ne (show 62 ≠ 66 by omega)]
    by_cases k : i ≤ ρ10 62 19
    · rw [if_pos k, if_pos k]
    · rw [if_neg k, if_neg k]
  rw [L_X9_readRow_75, h, ckp R_0, i00, ckp (by decide), i10, ckp h26]
  dsimp only [jn]
  simp only [T]
  by_cases k : τ 62 26 = 2
  · rw [if_pos k, ckp ri, if_neg (by omega), needs_ok (by decide) (by decide), Option.bind_some]
  · rw [if_neg k, needs_ok (by decide) (by decide), Option.bind_some]
theorem rowM_five {m : Nat} {row i : Int} {τ : pm} (hi : i = 5) (h : τ 62 28 = 0) (h26 : τ 62 26 = 2) : L_X9_readRow_75 (m + 2) row i 1 τ = some (pup (pup τ 62 28 5) 62 29 (τ 62 25)) := by
  have b : 1 ≤ (pup (pup τ 62 28 5) 62 29 (τ 62 25)) 62 28 ∧ (pup (pup τ 62 28 5) 62 29 (τ 62 25)) 62 28 ≤ 6 := by rw [pup_off (by omega), pup_at]; omega
  have b' : (pup (pup τ 62 28 5) 62 29 (τ 62 25)) 62 28 = 5 := by rw [pup_off (by omega), pup_at]
  rw [show m + 2 = (m + 1) + 1 from rfl, L_X9_readRow_75, h, ckp R_0, i00, ckp (by decide), i10, h26, ckp (by decide)]
  dsimp only [jn]
  rw [if_pos rfl, ckp (show inR i from ⟨by omega, by omega⟩), if_pos (by omega), needs_no h, Option.bind_some, bad_looked b, bn2_of, b', ckp (by decide), if_neg (by decide), bad_next b, Option.bind_some]
  rw [show (pup (pup τ 62 28 5) 62 29 (τ 62 25)) 62 26 = 2 by rw [pup_off (by omega), pup_off (by omega)]; exact h26]
  rw [ckp (by decide), if_pos rfl, rowM_out b]
