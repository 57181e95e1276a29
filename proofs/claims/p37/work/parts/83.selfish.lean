/-! selfish() -/
/-- the first place of the most -/
def amx (g : Int → Int) : Nat → Int
  | 0 => 0
  | n + 1 => if g (amx g n) < g (n : Int) then (n : Int) else amx g n
def bmx (g : Int → Int) (k : Nat) : Int := if k = 0 then -4 else g (amx g k)
theorem amx_bd (g : Int → Int) : ∀ n : Nat, 1 ≤ n → 0 ≤ amx g n ∧ amx g n < n
  | 0, h => absurd h (by decide)
  | 1, _ => by
    rw [amx, amx]
    rw [if_neg (by show ¬ g 0 < g 0; omega)]
    decide
  | n + 2, _ => by
    have ih := amx_bd g (n + 1) (by omega)
    rw [amx]
    by_cases c : g (amx g (n + 1)) < g ((n + 1 : Nat) : Int)
    · rw [if_pos c]; omega
    · rw [if_neg c]; omega
theorem amx_one (g : Int → Int) : amx g 1 = 0 := by
  rw [amx, amx, if_neg (by show ¬ g 0 < g 0; omega)]
theorem mx_up {G : Int → Int} {k : Nat} (h : 0 ≤ G (k : Int)) : (G (k : Int) ≤ bmx G k ∧ amx G (k + 1) = amx G k ∧ bmx G (k + 1) = bmx G k) ∨ (¬ G (k : Int) ≤ bmx G k ∧ amx G (k + 1) = (k : Int) ∧ bmx G (k + 1) = G (k : Int)) := by
  by_cases k0 : k = 0
  · subst k0
    refine Or.inr ⟨?_, amx_one G, ?_⟩
    · unfold bmx; rw [if_pos rfl]; omega
    · unfold bmx; rw [if_neg (by decide), amx_one]; rfl
  · have e1 : bmx G k = G (amx G k) := if_neg k0
    have e2 : bmx G (k + 1) = G (amx G (k + 1)) := if_neg (by omega)
    rw [e1, e2, amx]
    by_cases c : G (amx G k) < G (k : Int)
    · rw [if_pos c]; exact Or.inr ⟨by omega, rfl, rfl⟩
    · rw [if_neg c]; exact Or.inl ⟨by omega, rfl, rfl⟩
theorem bmx_R {G : Int → Int} {k : Nat} (h : ∀ j, 0 ≤ j → j < (k : Int) → inR (G j)) : inR (bmx G k) := by
  unfold bmx
  by_cases c : k = 0
  · rw [if_pos c]; decide
  · rw [if_neg c]
    have := amx_bd G k (by omega)
    exact h _ this.1 this.2
/-- what a farm has by a year -/
def gy (W H fm : Int) (ρ : pm) (own : Int → Int) (f y : Int) : Int := if f < fm then ρ 5 f * cnt own (W * H) f (Bt W H ρ y) else 0
def tS (W H fm : Int) (ρ : pm) (own : Int → Int) (P : Int → Int × (Int → Int)) (i s : Int) : Int := amx (fun t => gy W H fm ρ own 2 (yB P i s t)) (P 2).1.toNat
def sS (W H fm : Int) (ρ : pm) (own : Int → Int) (P : Int → Int × (Int → Int)) (i : Int) : Int := amx (fun s => gy W H fm ρ own 1 (yB P i s (tS W H fm ρ own P i s))) (P 1).1.toNat
def iS (W H fm : Int) (ρ : pm) (own : Int → Int) (P : Int → Int × (Int → Int)) : Int := amx (fun i => gy W H fm ρ own 0 (yB P i (sS W H fm ρ own P i) (tS W H fm ρ own P i (sS W H fm ρ own P i)))) (P 0).1.toNat
theorem gy_bd {W H fm : Int} {ρ τ : pm} {P : Int → Int × (Int → Int)} (hA : Ahead W H fm ρ τ P) {f : Int} (hf : 0 ≤ f ∧ f < 3) (own : Int → Int) (y : Int) : 0 ≤ gy W H fm ρ own f y ∧ gy W H fm ρ own f y ≤ 225 := by
  have bd := hA.1.1.1.1.bd
  have m2 := (hA.1.2.2.1.2.1 f hf.1 hf.2).2
  have cb := cnt_bd (own := own) (N := W * H) (f := f) (bed := Bt W H ρ y) (by omega)
  unfold gy
  by_cases c : f < fm
  · rw [if_pos c]
    have x0 : 0 ≤ ρ 5 f * cnt own (W * H) f (Bt W H ρ y) := Int.mul_nonneg m2.1 cb.1
    have x1 : ρ 5 f * cnt own (W * H) f (Bt W H ρ y) ≤ 9 * cnt own (W * H) f (Bt W H ρ y) := Int.mul_le_mul_of_nonneg_right m2.2 cb.1
    omega
  · rw [if_neg c]; omega
theorem tS_bd {W H fm : Int} {ρ : pm} {own : Int → Int} {P : Int → Int × (Int → Int)} (hP : okP P) (i s : Int) : 0 ≤ tS W H fm ρ own P i s ∧ tS W H fm ρ own P i s < (P 2).1 := by
  have := hP.2.2
  have := amx_bd (fun t => gy W H fm ρ own 2 (yB P i s t)) (P 2).1.toNat (by omega)
  unfold tS
  omega
theorem sS_bd {W H fm : Int} {ρ : pm} {own : Int → Int} {P : Int → Int × (Int → Int)} (hP : okP P) (i : Int) : 0 ≤ sS W H fm ρ own P i ∧ sS W H fm ρ own P i < (P 1).1 := by
  have := hP.2.1
  have := amx_bd (fun s => gy W H fm ρ own 1 (yB P i s (tS W H fm ρ own P i s))) (P 1).1.toNat (by omega)
  unfold sS
  omega
theorem iS_bd {W H fm : Int} {ρ : pm} {own : Int → Int} {P : Int → Int × (Int → Int)} (hP : okP P) : 0 ≤ iS W H fm ρ own P ∧ iS W H fm ρ own P < (P 0).1 := by
  have := hP.1
  have := amx_bd (fun i => gy W H fm ρ own 0 (yB P i (sS W H fm ρ own P i) (tS W H fm ρ own P i (sS W H fm ρ own P i)))) (P 0).1.toNat (by omega)
  unfold iS
  omega
theorem Ahead.okB {W H fm : Int} {ρ τ : pm} {P : Int → Int × (Int → Int)} (h : Ahead W H fm ρ τ P) {i s t : Int} (hi : 0 ≤ i ∧ i < (P 0).1) (hs : 0 ≤ s ∧ s < (P 1).1) (ht : 0 ≤ t ∧ t < (P 2).1) : 0 ≤ yB P i s t ∧ yB P i s t ≤ 17575 ∧ ∀ f, 0 ≤ f → f < 3 → ¬ bad W H (ρ 9) (τ 65) (ρ 8 6) (ρ 8 4) fm (yB P i s t) f := by
  obtain ⟨h1, h2, h3, h4, h5⟩ := h
  rw [h4] at hi hs ht ⊢
  have := year_ok hi hs ht
  exact ⟨this.1, this.2.1, this.2.2.2.2.2⟩
theorem Ahead.yearOf {W H fm : Int} {ρ τ : pm} {P : Int → Int × (Int → Int)} (h : Ahead W H fm ρ τ P) {i s t : Int} (hi : 0 ≤ i ∧ i < (P 0).1) (hs : 0 ≤ s ∧ s < (P 1).1) (ht : 0 ≤ t ∧ t < (P 2).1) : f_X9_yearOf i s t τ = some (yB P i s t) := by
  obtain ⟨h1, h2, h3, h4, h5⟩ := h
  obtain ⟨b0, b1, b2⟩ := h5
  have w0 := (h3 0 (by omega) (by omega)).2 i hi.1 hi.2
  have w1 := (h3 1 (by omega) (by omega)).2 s hs.1 hs.2
  have w2 := (h3 2 (by omega) (by omega)).2 t ht.1 ht.2
  rw [show (9 : Int) * 0 + i = i by omega, show tms 0 = 1 from rfl] at w0
  rw [show (9 : Int) * 1 + s = 9 + s by omega, show tms 1 = 26 from rfl] at w1
  rw [show (9 : Int) * 2 + t = 18 + t by omega, show tms 2 = 676 from rfl] at w2
  unfold f_X9_yearOf
  rw [ckp (by omega), ckp (by omega), ckp (by omega), w0, w1, w2]
  unfold yB
  congr 1
  omega
theorem Ahead.hasBy {W H fm : Int} {ρ τ : pm} {P : Int → Int × (Int → Int)} (h : Ahead W H fm ρ τ P) {own : Int → Int} (ho : τ 65 = own) {i s t f : Int} (hf : 0 ≤ f ∧ f < fm) (hi : 0 ≤ i ∧ i < (P 0).1) (hs : 0 ≤ s ∧ s < (P 1).1) (ht : 0 ≤ t ∧ t < (P 2).1) : ∃ τ', f_X9_hasBy (yB P i s t) f τ = some (gy W H fm ρ own f (yB P i s t), τ') ∧ agD τ τ' := by
  have k := h.okB hi hs ht
  obtain ⟨τ', a1, a2⟩ := hasByR h.1 hf ⟨k.1, k.2.1⟩ k.2.2
  rw [ho] at a1
  refine ⟨τ', ?_, a2⟩
  rw [a1]
  unfold gy
  rw [if_pos hf.2]
theorem agD.own {τ τ' : pm} (a : agD τ τ') {own : Int → Int} (ho : τ 65 = own) : τ' 65 = own := (a.1 65 (by omega) (by omega) (by omega)).trans ho
theorem lastM {W H fm : Int} {ρ : pm} {P : Int → Int × (Int → Int)} {own : Int → Int} {i s : Int} (hi : 0 ≤ i ∧ i < (P 0).1) (hs : 0 ≤ s ∧ s < (P 1).1) : ∀ (m n k : Nat) (τ : pm), Ahead W H fm ρ τ P → τ 65 = own → m + 1 ≤ n → (k : Int) + (m : Int) = (P 2).1 → ∃ τ', L_X9_lastOf_9 n i s (amx (fun t => gy W H fm ρ own 2 (yB P i s t)) k) (bmx (fun t => gy W H fm ρ own 2 (yB P i s t)) k) (k : Int) τ = some (tS W H fm ρ own P i s, τ') ∧ agD τ τ' := by
  intro m
  induction m with
  | zero =>
    intro n k τ hA ho hn hk
    obtain ⟨x, rfl⟩ : ∃ x, n = x + 1 := ⟨n - 1, by omega⟩
    have b2 := hA.2.2.2.2.2.2
    rw [L_X9_lastOf_9, (hA.2.2.1 2 (by omega) (by omega)).1, ckp (by omega), ckp (by omega), if_pos (by omega)]
    unfold tS
    rw [show (P 2).1.toNat = k by omega]
    exact ⟨τ, rfl, agD.refl _⟩
  | succ m ih =>
    intro n k τ hA ho hn hk
    obtain ⟨x, rfl⟩ : ∃ x, n = x + 1 := ⟨n - 1, by omega⟩
    have b2 := hA.2.2.2.2.2.2
    have h4 := hA.1.1.2.2.2.1
    have hfm := hA.1.1.2.2.2.2.1
    have gb := fun y => gy_bd hA (f := 2) (by omega) own y
    have go : ∀ τ1, agD τ τ1 → ∃ τ', L_X9_lastOf_9 x i s (amx (fun t => gy W H fm ρ own 2 (yB P i s t)) (k + 1)) (bmx (fun t => gy W H fm ρ own 2 (yB P i s t)) (k + 1)) ((k : Int) + 1) τ1 = some (tS W H fm ρ own P i s, τ') ∧ agD τ τ' := by
      intro τ1 a
      obtain ⟨τ2, g1, g2⟩ := ih x (k + 1) τ1 (hA.ag a) (a.own ho) (by omega) (by omega)
      rw [show ((k + 1 : Nat) : Int) = (k : Int) + 1 by omega] at g1
      exact ⟨τ2, g1, a.trans g2⟩
    have bR : inR (bmx (fun t => gy W H fm ρ own 2 (yB P i s t)) k) := bmx_R (fun j _ _ => by have := gb (yB P i s j); show inR (gy W H fm ρ own 2 (yB P i s j)); omega)
    have sR : inR (gy W H fm ρ own 2 (yB P i s (k : Int))) := by have := gb (yB P i s (k : Int)); omega
    have up := mx_up (G := fun t => gy W H fm ρ own 2 (yB P i s t)) (k := k) (gb _).1
    generalize hga : amx (fun t => gy W H fm ρ own 2 (yB P i s t)) k = a at *
    generalize hgb : bmx (fun t => gy W H fm ρ own 2 (yB P i s t)) k = b at *
    generalize hgc : amx (fun t => gy W H fm ρ own 2 (yB P i s t)) (k + 1) = a' at *
    generalize hgd : bmx (fun t => gy W H fm ρ own 2 (yB P i s t)) (k + 1) = b' at *
    have fin : ∀ τ1, agD τ τ1 → ∃ τ', ck (inR (gy W H fm ρ own 2 (yB P i s (k : Int)))) (ck (inR b) (if gy W H fm ρ own 2 (yB P i s (k : Int)) ≤ b then ck (inR (gy W H fm ρ own 2 (yB P i s (k : Int)))) (ck (inR b) (if gy W H fm ρ own 2 (yB P i s (k : Int)) ≤ b then L_X9_lastOf_9 x i s a b ((k : Int) + 1) τ1 else L_X9_lastOf_9 x i s a (gy W H fm ρ own 2 (yB P i s (k : Int))) ((k : Int) + 1) τ1)) else ck (inR (gy W H fm ρ own 2 (yB P i s (k : Int)))) (ck (inR b) (if gy W H fm ρ own 2 (yB P i s (k : Int)) ≤ b then L_X9_lastOf_9 x i s (k : Int) b ((k : Int) + 1) τ1 else L_X9_lastOf_9 x i s (k : Int) (gy W H fm ρ own 2 (yB P i s (k : Int))) ((k : Int) + 1) τ1)))) = some (tS W H fm ρ own P i s, τ') ∧ agD τ τ' := by
      intro τ1 ag
      obtain ⟨τ2, g1, g2⟩ := go τ1 ag
      refine ⟨τ2, ?_, g2⟩
      simp only [ckp bR, ckp sR]
      rcases up with ⟨u1, u2, u3⟩ | ⟨u1, u2, u3⟩
      · rw [u2, u3] at g1; rw [if_pos u1, if_pos u1]; exact g1
      · rw [u2, u3] at g1; rw [if_neg u1, if_neg u1]; exact g1
    rw [L_X9_lastOf_9, (hA.2.2.1 2 (by omega) (by omega)).1, h4, ckp (by omega), ckp (by omega), if_neg (by omega), ckp (by omega)]
    dsimp only [jn]
    by_cases c : fm ≤ 2
    · rw [if_pos c]
      have e0 : (0 : Int) = gy W H fm ρ own 2 (yB P i s (k : Int)) := (if_neg (by omega)).symm
      have := fin τ (agD.refl _)
      rw [← e0] at this
      exact this
    · obtain ⟨τ1, y1, y2⟩ := hA.hasBy ho (f := 2) (by omega) hi hs (t := (k : Int)) (by omega)
      rw [if_neg c, hA.yearOf hi hs (by omega), Option.bind_some, y1, bn2_of]
      exact fin τ1 y2
theorem lastR {W H fm : Int} {ρ τ : pm} {P : Int → Int × (Int → Int)} {own : Int → Int} {i s : Int} (hA : Ahead W H fm ρ τ P) (ho : τ 65 = own) (hi : 0 ≤ i ∧ i < (P 0).1) (hs : 0 ≤ s ∧ s < (P 1).1) : ∃ τ', f_X9_lastOf i s τ = some (tS W H fm ρ own P i s, τ') ∧ agD τ τ' := by
  have b2 := hA.2.2.2.2.2.2
  obtain ⟨τ', a1, a2⟩ := lastM (own := own) hi hs (P 2).1.toNat fu 0 τ hA ho (by unfold fu; omega) (by omega)
  exact ⟨τ', a1, a2⟩
theorem secondM {W H fm : Int} {ρ : pm} {P : Int → Int × (Int → Int)} {own : Int → Int} {i : Int} (hi : 0 ≤ i ∧ i < (P 0).1) : ∀ (m n k : Nat) (τ : pm), Ahead W H fm ρ τ P → τ 65 = own → m + 1 ≤ n → (k : Int) + (m : Int) = (P 1).1 → ∃ τ', L_X9_secondOf_8 n i (amx (fun s => gy W H fm ρ own 1 (yB P i s (tS W H fm ρ own P i s))) k) (bmx (fun s => gy W H fm ρ own 1 (yB P i s (tS W H fm ρ own P i s))) k) (k : Int) τ = some (sS W H fm ρ own P i, τ') ∧ agD τ τ' := by
  intro m
  induction m with
  | zero =>
    intro n k τ hA ho hn hk
    obtain ⟨x, rfl⟩ : ∃ x, n = x + 1 := ⟨n - 1, by omega⟩
    have b2 := hA.2.2.2.2.2.1
    rw [L_X9_secondOf_8, (hA.2.2.1 1 (by omega) (by omega)).1, ckp (by omega), ckp (by omega), if_pos (by omega)]
    unfold sS
    rw [show (P 1).1.toNat = k by omega]
    exact ⟨τ, rfl, agD.refl _⟩
  | succ m ih =>
    intro n k τ hA ho hn hk
    obtain ⟨x, rfl⟩ : ∃ x, n = x + 1 := ⟨n - 1, by omega⟩
    have b2 := hA.2.2.2.2.2.1
    have h4 := hA.1.1.2.2.2.1
    have hfm := hA.1.1.2.2.2.2.1
    have gb := fun y => gy_bd hA (f := 1) (by omega) own y
    have go : ∀ τ1, agD τ τ1 → ∃ τ', L_X9_secondOf_8 x i (amx (fun s => gy W H fm ρ own 1 (yB P i s (tS W H fm ρ own P i s))) (k + 1)) (bmx (fun s => gy W H fm ρ own 1 (yB P i s (tS W H fm ρ own P i s))) (k + 1)) ((k : Int) + 1) τ1 = some (sS W H fm ρ own P i, τ') ∧ agD τ τ' := by
      intro τ1 a
      obtain ⟨τ2, g1, g2⟩ := ih x (k + 1) τ1 (hA.ag a) (a.own ho) (by omega) (by omega)
      rw [show ((k + 1 : Nat) : Int) = (k : Int) + 1 by omega] at g1
      exact ⟨τ2, g1, a.trans g2⟩
    have bR : inR (bmx (fun s => gy W H fm ρ own 1 (yB P i s (tS W H fm ρ own P i s))) k) := bmx_R (fun j _ _ => by have := gb (yB P i j (tS W H fm ρ own P i j)); show inR (gy W H fm ρ own 1 (yB P i j (tS W H fm ρ own P i j))); omega)
    have sR : inR (gy W H fm ρ own 1 (yB P i (k : Int) (tS W H fm ρ own P i (k : Int)))) := by have := gb (yB P i (k : Int) (tS W H fm ρ own P i (k : Int))); omega
    have up := mx_up (G := fun s => gy W H fm ρ own 1 (yB P i s (tS W H fm ρ own P i s))) (k := k) (gb _).1
    generalize hga : amx (fun s => gy W H fm ρ own 1 (yB P i s (tS W H fm ρ own P i s))) k = a at *
    generalize hgb : bmx (fun s => gy W H fm ρ own 1 (yB P i s (tS W H fm ρ own P i s))) k = b at *
    generalize hgc : amx (fun s => gy W H fm ρ own 1 (yB P i s (tS W H fm ρ own P i s))) (k + 1) = a' at *
    generalize hgd : bmx (fun s => gy W H fm ρ own 1 (yB P i s (tS W H fm ρ own P i s))) (k + 1) = b' at *
    have fin : ∀ τ1, agD τ τ1 → ∃ τ', ck (inR (gy W H fm ρ own 1 (yB P i (k : Int) (tS W H fm ρ own P i (k : Int))))) (ck (inR b) (if gy W H fm ρ own 1 (yB P i (k : Int) (tS W H fm ρ own P i (k : Int))) ≤ b then ck (inR (gy W H fm ρ own 1 (yB P i (k : Int) (tS W H fm ρ own P i (k : Int))))) (ck (inR b) (if gy W H fm ρ own 1 (yB P i (k : Int) (tS W H fm ρ own P i (k : Int))) ≤ b then L_X9_secondOf_8 x i a b ((k : Int) + 1) τ1 else L_X9_secondOf_8 x i a (gy W H fm ρ own 1 (yB P i (k : Int) (tS W H fm ρ own P i (k : Int)))) ((k : Int) + 1) τ1)) else ck (inR (gy W H fm ρ own 1 (yB P i (k : Int) (tS W H fm ρ own P i (k : Int))))) (ck (inR b) (if gy W H fm ρ own 1 (yB P i (k : Int) (tS W H fm ρ own P i (k : Int))) ≤ b then L_X9_secondOf_8 x i (k : Int) b ((k : Int) + 1) τ1 else L_X9_secondOf_8 x i (k : Int) (gy W H fm ρ own 1 (yB P i (k : Int) (tS W H fm ρ own P i (k : Int)))) ((k : Int) + 1) τ1)))) = some (sS W H fm ρ own P i, τ') ∧ agD τ τ' := by
      intro τ1 ag
      obtain ⟨τ2, g1, g2⟩ := go τ1 ag
      refine ⟨τ2, ?_, g2⟩
      simp only [ckp bR, ckp sR]
      rcases up with ⟨u1, u2, u3⟩ | ⟨u1, u2, u3⟩
      · rw [u2, u3] at g1; rw [if_pos u1, if_pos u1]; exact g1
      · rw [u2, u3] at g1; rw [if_neg u1, if_neg u1]; exact g1
    rw [L_X9_secondOf_8, (hA.2.2.1 1 (by omega) (by omega)).1, h4, ckp (by omega), ckp (by omega), if_neg (by omega), ckp (by omega)]
    dsimp only [jn]
    by_cases c : fm ≤ 1
    · rw [if_pos c]
      have e0 : (0 : Int) = gy W H fm ρ own 1 (yB P i (k : Int) (tS W H fm ρ own P i (k : Int))) := (if_neg (by omega)).symm
      have := fin τ (agD.refl _)
      rw [← e0] at this
      exact this
    · obtain ⟨τ0, z1, z2⟩ := lastR hA ho hi (s := (k : Int)) (by omega)
      have tb := tS_bd (W := W) (H := H) (fm := fm) (ρ := ρ) (own := own) hA.2.2.2.2 i (k : Int)
      obtain ⟨τ1, y1, y2⟩ := (hA.ag z2).hasBy (z2.own ho) (f := 1) (by omega) hi (s := (k : Int)) (by omega) tb
      rw [if_neg c, z1, bn2_of, (hA.ag z2).yearOf hi (by omega) tb, Option.bind_some, y1, bn2_of]
      exact fin τ1 (z2.trans y2)
theorem secondR {W H fm : Int} {ρ τ : pm} {P : Int → Int × (Int → Int)} {own : Int → Int} {i : Int} (hA : Ahead W H fm ρ τ P) (ho : τ 65 = own) (hi : 0 ≤ i ∧ i < (P 0).1) : ∃ τ', f_X9_secondOf i τ = some (sS W H fm ρ own P i, τ') ∧ agD τ τ' := by
  have b2 := hA.2.2.2.2.2.1
  obtain ⟨τ', a1, a2⟩ := secondM (own := own) hi (P 1).1.toNat fu 0 τ hA ho (by unfold fu; omega) (by omega)
  exact ⟨τ', a1, a2⟩
theorem firstM {W H fm : Int} {ρ : pm} {P : Int → Int × (Int → Int)} {own : Int → Int} {K : Int → pm → Option (Int × pm)} : ∀ (m n k : Nat) (τ : pm), Ahead W H fm ρ τ P → τ 65 = own → m + 1 ≤ n → (k : Int) + (m : Int) = (P 0).1 → ∃ τ', L_X9_selfishYear_11 K n (amx (fun i => gy W H fm ρ own 0 (yB P i (sS W H fm ρ own P i) (tS W H fm ρ own P i (sS W H fm ρ own P i)))) k) (bmx (fun i => gy W H fm ρ own 0 (yB P i (sS W H fm ρ own P i) (tS W H fm ρ own P i (sS W H fm ρ own P i)))) k) (k : Int) τ = K (iS W H fm ρ own P) τ' ∧ agD τ τ' := by
  intro m
  induction m with
  | zero =>
    intro n k τ hA ho hn hk
    obtain ⟨x, rfl⟩ : ∃ x, n = x + 1 := ⟨n - 1, by omega⟩
    have b2 := hA.2.2.2.2.1
    rw [L_X9_selfishYear_11, (hA.2.2.1 0 (by omega) (by omega)).1, ckp (by omega), ckp (by omega), if_pos (by omega)]
    unfold iS
    rw [show (P 0).1.toNat = k by omega]
    exact ⟨τ, rfl, agD.refl _⟩
  | succ m ih =>
    intro n k τ hA ho hn hk
    obtain ⟨x, rfl⟩ : ∃ x, n = x + 1 := ⟨n - 1, by omega⟩
    have b2 := hA.2.2.2.2.1
    have h4 := hA.1.1.2.2.2.1
    have hfm := hA.1.1.2.2.2.2.1
    have gb := fun y => gy_bd hA (f := 0) (by omega) own y
    have go : ∀ τ1, agD τ τ1 → ∃ τ', L_X9_selfishYear_11 K x (amx (fun i => gy W H fm ρ own 0 (yB P i (sS W H fm ρ own P i) (tS W H fm ρ own P i (sS W H fm ρ own P i)))) (k + 1)) (bmx (fun i => gy W H fm ρ own 0 (yB P i (sS W H fm ρ own P i) (tS W H fm ρ own P i (sS W H fm ρ own P i)))) (k + 1)) ((k : Int) + 1) τ1 = K (iS W H fm ρ own P) τ' ∧ agD τ τ' := by
      intro τ1 a
      obtain ⟨τ2, g1, g2⟩ := ih x (k + 1) τ1 (hA.ag a) (a.own ho) (by omega) (by omega)
      rw [show ((k + 1 : Nat) : Int) = (k : Int) + 1 by omega] at g1
      exact ⟨τ2, g1, a.trans g2⟩
    have bR : inR (bmx (fun i => gy W H fm ρ own 0 (yB P i (sS W H fm ρ own P i) (tS W H fm ρ own P i (sS W H fm ρ own P i)))) k) := bmx_R (fun j _ _ => by have := gb (yB P j (sS W H fm ρ own P j) (tS W H fm ρ own P j (sS W H fm ρ own P j))); show inR (gy W H fm ρ own 0 (yB P j (sS W H fm ρ own P j) (tS W H fm ρ own P j (sS W H fm ρ own P j)))); omega)
    have sR : inR (gy W H fm ρ own 0 (yB P (k : Int) (sS W H fm ρ own P (k : Int)) (tS W H fm ρ own P (k : Int) (sS W H fm ρ own P (k : Int))))) := by have := gb (yB P (k : Int) (sS W H fm ρ own P (k : Int)) (tS W H fm ρ own P (k : Int) (sS W H fm ρ own P (k : Int)))); omega
    have up := mx_up (G := fun i => gy W H fm ρ own 0 (yB P i (sS W H fm ρ own P i) (tS W H fm ρ own P i (sS W H fm ρ own P i)))) (k := k) (gb _).1
    generalize hga : amx (fun i => gy W H fm ρ own 0 (yB P i (sS W H fm ρ own P i) (tS W H fm ρ own P i (sS W H fm ρ own P i)))) k = a at *
    generalize hgb : bmx (fun i => gy W H fm ρ own 0 (yB P i (sS W H fm ρ own P i) (tS W H fm ρ own P i (sS W H fm ρ own P i)))) k = b at *
    generalize hgc : amx (fun i => gy W H fm ρ own 0 (yB P i (sS W H fm ρ own P i) (tS W H fm ρ own P i (sS W H fm ρ own P i)))) (k + 1) = a' at *
    generalize hgd : bmx (fun i => gy W H fm ρ own 0 (yB P i (sS W H fm ρ own P i) (tS W H fm ρ own P i (sS W H fm ρ own P i)))) (k + 1) = b' at *
    have fin : ∀ τ1, agD τ τ1 → ∃ τ', ck (inR (gy W H fm ρ own 0 (yB P (k : Int) (sS W H fm ρ own P (k : Int)) (tS W H fm ρ own P (k : Int) (sS W H fm ρ own P (k : Int)))))) (ck (inR b) (if gy W H fm ρ own 0 (yB P (k : Int) (sS W H fm ρ own P (k : Int)) (tS W H fm ρ own P (k : Int) (sS W H fm ρ own P (k : Int)))) ≤ b then ck (inR (gy W H fm ρ own 0 (yB P (k : Int) (sS W H fm ρ own P (k : Int)) (tS W H fm ρ own P (k : Int) (sS W H fm ρ own P (k : Int)))))) (ck (inR b) (if gy W H fm ρ own 0 (yB P (k : Int) (sS W H fm ρ own P (k : Int)) (tS W H fm ρ own P (k : Int) (sS W H fm ρ own P (k : Int)))) ≤ b then L_X9_selfishYear_11 K x a b ((k : Int) + 1) τ1 else L_X9_selfishYear_11 K x a (gy W H fm ρ own 0 (yB P (k : Int) (sS W H fm ρ own P (k : Int)) (tS W H fm ρ own P (k : Int) (sS W H fm ρ own P (k : Int))))) ((k : Int) + 1) τ1)) else ck (inR (gy W H fm ρ own 0 (yB P (k : Int) (sS W H fm ρ own P (k : Int)) (tS W H fm ρ own P (k : Int) (sS W H fm ρ own P (k : Int)))))) (ck (inR b) (if gy W H fm ρ own 0 (yB P (k : Int) (sS W H fm ρ own P (k : Int)) (tS W H fm ρ own P (k : Int) (sS W H fm ρ own P (k : Int)))) ≤ b then L_X9_selfishYear_11 K x (k : Int) b ((k : Int) + 1) τ1 else L_X9_selfishYear_11 K x (k : Int) (gy W H fm ρ own 0 (yB P (k : Int) (sS W H fm ρ own P (k : Int)) (tS W H fm ρ own P (k : Int) (sS W H fm ρ own P (k : Int))))) ((k : Int) + 1) τ1)))) = K (iS W H fm ρ own P) τ' ∧ agD τ τ' := by
      intro τ1 ag
      obtain ⟨τ2, g1, g2⟩ := go τ1 ag
      refine ⟨τ2, ?_, g2⟩
      simp only [ckp bR, ckp sR]
      rcases up with ⟨u1, u2, u3⟩ | ⟨u1, u2, u3⟩
      · rw [u2, u3] at g1; rw [if_pos u1, if_pos u1]; exact g1
      · rw [u2, u3] at g1; rw [if_neg u1, if_neg u1]; exact g1
    have hi : 0 ≤ (k : Int) ∧ (k : Int) < (P 0).1 := by omega
    obtain ⟨τ9, q1, q2⟩ := secondR hA ho hi
    have sb := sS_bd (W := W) (H := H) (fm := fm) (ρ := ρ) (own := own) hA.2.2.2.2 (k : Int)
    have hA9 := hA.ag q2
    have h49 := hA9.1.1.2.2.2.1
    rw [L_X9_selfishYear_11, (hA.2.2.1 0 (by omega) (by omega)).1, ckp (by omega), ckp (by omega), if_neg (by omega), q1, bn2_of, h49, ckp (by omega)]
    dsimp only [jn]
    by_cases c : fm ≤ 0
    · rw [if_pos c]
      have e0 : (0 : Int) = gy W H fm ρ own 0 (yB P (k : Int) (sS W H fm ρ own P (k : Int)) (tS W H fm ρ own P (k : Int) (sS W H fm ρ own P (k : Int)))) := (if_neg (by omega)).symm
      have := fin τ9 q2
      rw [← e0] at this
      exact this
    · obtain ⟨τ0, z1, z2⟩ := lastR hA9 (q2.own ho) hi sb
      have tb := tS_bd (W := W) (H := H) (fm := fm) (ρ := ρ) (own := own) hA.2.2.2.2 (k : Int) (sS W H fm ρ own P (k : Int))
      obtain ⟨τ1, y1, y2⟩ := (hA9.ag z2).hasBy (z2.own (q2.own ho)) (f := 0) (by omega) hi sb tb
      rw [if_neg c, z1, bn2_of, (hA9.ag z2).yearOf hi sb tb, Option.bind_some, y1, bn2_of]
      exact fin τ1 ((q2.trans z2).trans y2)
def yS (W H fm : Int) (ρ : pm) (own : Int → Int) (P : Int → Int × (Int → Int)) : Int := yB P (iS W H fm ρ own P) (sS W H fm ρ own P (iS W H fm ρ own P)) (tS W H fm ρ own P (iS W H fm ρ own P) (sS W H fm ρ own P (iS W H fm ρ own P)))
theorem firstR {W H fm : Int} {ρ τ0 τ : pm} {P : Int → Int × (Int → Int)} {own : Int → Int} (h0 : f_X9_findOptions τ0 = some τ) (hA : Ahead W H fm ρ τ P) (ho : τ 65 = own) : ∃ τ', f_X9_selfishYear τ0 = some (yS W H fm ρ own P, τ') ∧ agD τ τ' := by
  have b2 := hA.2.2.2.2.1
  obtain ⟨τ1, a1, a2⟩ := firstM (own := own) (K := fun (l1 : Int) (ρ : pm) => bn2 (f_X9_secondOf l1 ρ) (fun v17 ρ18 => bn2 (f_X9_lastOf l1 v17 ρ18) (fun v19 ρ20 => (f_X9_yearOf l1 v17 v19 ρ20).bind (fun v21 => some (v21, ρ20))))) (P 0).1.toNat fu 0 τ hA ho (by unfold fu; omega) (by omega)
  have ib := iS_bd (W := W) (H := H) (fm := fm) (ρ := ρ) (own := own) hA.2.2.2.2
  have sb := sS_bd (W := W) (H := H) (fm := fm) (ρ := ρ) (own := own) hA.2.2.2.2 (iS W H fm ρ own P)
  have tb := tS_bd (W := W) (H := H) (fm := fm) (ρ := ρ) (own := own) hA.2.2.2.2 (iS W H fm ρ own P) (sS W H fm ρ own P (iS W H fm ρ own P))
  obtain ⟨τ2, c1, c2⟩ := secondR (hA.ag a2) (a2.own ho) ib
  obtain ⟨τ3, d1, d2⟩ := lastR ((hA.ag a2).ag c2) (c2.own (a2.own ho)) ib sb
  have e1 := (((hA.ag a2).ag c2).ag d2).yearOf ib sb tb
  refine ⟨τ3, ?_, (a2.trans c2).trans d2⟩
  unfold f_X9_selfishYear
  rw [h0, Option.bind_some]
  have z1 : amx (fun i => gy W H fm ρ own 0 (yB P i (sS W H fm ρ own P i) (tS W H fm ρ own P i (sS W H fm ρ own P i)))) 0 = 0 := rfl
  have z2 : bmx (fun i => gy W H fm ρ own 0 (yB P i (sS W H fm ρ own P i) (tS W H fm ρ own P i (sS W H fm ρ own P i)))) 0 = -4 := rfl
  have z3 : ((0 : Nat) : Int) = 0 := rfl
  rw [z1, z2, z3] at a1
  rw [a1, c1, bn2_of, d1, bn2_of, e1, Option.bind_some]
  rfl
/-- the program's own choice -/
theorem chosen_loop {F : Int → Int → pm → Option Int} {ρ : pm} {f b st N : Int} {V G : Int → Int} (hf : 0 ≤ f ∧ f < 3) (h30 : ρ 30 f = N) (h31 : ρ 31 f = st) (hN : 1 ≤ N ∧ N ≤ 9) (hF : ∀ p, 0 ≤ p → p < N → F (f + 1) (b + p * st) ρ = some (V p) ∧ (0 ≤ V p ∧ V p < 729) ∧ f_X7_gain f (ρ 33 (V p)) ρ = some (G p) ∧ inR (G p)) : ∀ (m n k : Nat), m + 1 ≤ n → (k : Int) + (m : Int) = N → 1 ≤ k → L_X4_chosen_25 F ρ n f b (V (amx G k)) (k : Int) = some (V (amx G N.toNat)) := by
  intro m
  induction m with
  | zero =>
    intro n k hn hk k1
    obtain ⟨x, rfl⟩ : ∃ x, n = x + 1 := ⟨n - 1, by omega⟩
    rw [L_X4_chosen_25, h30, ckp hf, ckp (by omega), ckp (by omega), if_pos (by omega), show N.toNat = k by omega]
  | succ m ih =>
    intro n k hn hk k1
    obtain ⟨x, rfl⟩ : ∃ x, n = x + 1 := ⟨n - 1, by omega⟩
    have ih' := ih x (k + 1) (by omega) (by omega) (by omega)
    rw [show ((k + 1 : Nat) : Int) = (k : Int) + 1 by omega, amx] at ih'
    have ab := amx_bd G k k1
    obtain ⟨p1, p2, p3, p4⟩ := hF (k : Int) (by omega) (by omega)
    obtain ⟨r1, r2, r3, r4⟩ := hF (amx G k) ab.1 (by omega)
    rw [L_X4_chosen_25, h30, h31, ckp hf, ckp (by omega), ckp (by omega), if_neg (by omega), p1, Option.bind_some, ckp p2, p3, Option.bind_some, ckp r2, r3, Option.bind_some, ckp p4, ckp r4]
    dsimp only [jn]
    by_cases c : G (k : Int) ≤ G (amx G k)
    · rw [if_neg (show ¬ G (amx G k) < G (k : Int) by omega)] at ih'
      rw [if_pos c]
      exact ih'
    · rw [if_pos (show G (amx G k) < G (k : Int) by omega)] at ih'
      rw [if_neg c]
      exact ih'
theorem chosen_lv {k : Nat} {ρ : pm} {f b st N : Int} {V G : Int → Int} (hf : 0 ≤ f ∧ f < 3) (h30 : ρ 30 f = N) (h31 : ρ 31 f = st) (hN : 1 ≤ N ∧ N ≤ 9) (hF : ∀ p, 0 ≤ p → p < N → f_X4_chosen k (f + 1) (b + p * st) ρ = some (V p) ∧ (0 ≤ V p ∧ V p < 729) ∧ f_X7_gain f (ρ 33 (V p)) ρ = some (G p) ∧ inR (G p)) : f_X4_chosen (k + 1) f b ρ = some (V (amx G N.toNat)) := by
  have h0 := (hF 0 (by omega) (by omega)).1
  rw [Int.zero_mul, Int.add_zero] at h0
  have l := chosen_loop hf h30 h31 hN hF (N.toNat - 1) fu 1 (by unfold fu; omega) (by omega) (by omega)
  rw [amx_one] at l
  rw [f_X4_chosen, g_X4_chosen, ckp (by omega), if_neg (by omega), if_pos hf.2, h0, Option.bind_some]
  exact l
def kk (P : Int → Int × (Int → Int)) (i s t : Int) : Int := 0 + i * 1 + s * (P 0).1 + t * ((P 0).1 * (P 1).1)
theorem kk_ok {P : Int → Int × (Int → Int)} (hP : okP P) {i s t : Int} (hi : 0 ≤ i ∧ i < (P 0).1) (hs : 0 ≤ s ∧ s < (P 1).1) (ht : 0 ≤ t ∧ t < (P 2).1) : (0 ≤ kk P i s t ∧ kk P i s t < Tot P) ∧ yA P (kk P i s t) = yB P i s t := by
  obtain ⟨b0, b1, b2⟩ := hP
  have ek : kk P i s t = i + (P 0).1 * (s + (P 1).1 * t) := by
    unfold kk
    have x : t * ((P 0).1 * (P 1).1) = (P 0).1 * ((P 1).1 * t) := by rw [Int.mul_comm, Int.mul_assoc]
    rw [Int.mul_add, x, Int.mul_comm s]
    omega
  have r1 : kk P i s t % (P 0).1 = i := by rw [ek, Int.add_mul_emod_self_left, Int.emod_eq_of_lt hi.1 hi.2]
  have r2 : kk P i s t / (P 0).1 = s + (P 1).1 * t := by rw [ek, Int.add_mul_ediv_left _ _ (by omega), Int.ediv_eq_zero_of_lt hi.1 hi.2]; omega
  have r3 : (s + (P 1).1 * t) % (P 1).1 = s := by rw [Int.add_mul_emod_self_left, Int.emod_eq_of_lt hs.1 hs.2]
  have r4 : kk P i s t / ((P 0).1 * (P 1).1) = t := by rw [← Int.ediv_ediv_of_nonneg (by omega), r2, Int.add_mul_ediv_left _ _ (by omega), Int.ediv_eq_zero_of_lt hs.1 hs.2]; omega
  refine ⟨⟨?_, ?_⟩, ?_⟩
  · rw [ek]
    have x1 : 0 ≤ (P 1).1 * t := Int.mul_nonneg (by omega) ht.1
    have x2 : 0 ≤ (P 0).1 * (s + (P 1).1 * t) := Int.mul_nonneg (by omega) (by omega)
    omega
  · rw [ek]
    unfold Tot
    have x1 : (P 1).1 * (t + 1) ≤ (P 1).1 * (P 2).1 := Int.mul_le_mul_of_nonneg_left (by omega) (by omega)
    rw [Int.mul_add, Int.mul_one] at x1
    have x2 : (P 0).1 * (s + (P 1).1 * t + 1) ≤ (P 0).1 * ((P 1).1 * (P 2).1) := Int.mul_le_mul_of_nonneg_left (by omega) (by omega)
    rw [Int.mul_add, Int.mul_one, ← Int.mul_assoc] at x2
    omega
  · unfold yA yB
    rw [r1, r2, r3, r4]
theorem gainR {W H fm : Int} {ρ τ : pm} {P : Int → Int × (Int → Int)} (hA : Ahead W H fm ρ τ P) {f i s t : Int} (hf : 0 ≤ f ∧ f < 3) (hi : 0 ≤ i ∧ i < (P 0).1) (hs : 0 ≤ s ∧ s < (P 1).1) (ht : 0 ≤ t ∧ t < (P 2).1) : (0 ≤ kk P i s t ∧ kk P i s t < 729) ∧ f_X7_gain f (ρ 33 (kk P i s t)) ρ = some (gy W H fm ρ (τ 65) f (yB P i s t)) ∧ inR (gy W H fm ρ (τ 65) f (yB P i s t)) := by
  obtain ⟨lc, lm, h4, h4', hfm, ho, hg, -⟩ := id hA.1.1
  have tb := Tot_bd hA.2.2.2.2
  obtain ⟨k1, k2⟩ := kk_ok hA.2.2.2.2 hi hs ht
  have gb := gy_bd hA hf (τ 65) (yB P i s t)
  refine ⟨by omega, ?_, by omega⟩
  rw [(hA.year k1).2, k2]
  unfold gy
  by_cases c : f < fm
  · rw [if_pos c, gainC lc.1 hg h4 hfm ⟨hf.1, c⟩]
  · rw [if_neg c, gainC0 h4 hfm (by omega) (by omega)]
theorem chosenR {W H fm : Int} {ρ τ : pm} {P : Int → Int × (Int → Int)} (hA : Ahead W H fm ρ τ P) : f_X4_chosen 4 0 0 ρ = some (kk P (iS W H fm ρ (τ 65) P) (sS W H fm ρ (τ 65) P (iS W H fm ρ (τ 65) P)) (tS W H fm ρ (τ 65) P (iS W H fm ρ (τ 65) P) (sS W H fm ρ (τ 65) P (iS W H fm ρ (τ 65) P)))) := by
  obtain ⟨h1, h2, h3, h4, h5⟩ := id hA
  obtain ⟨o1, o2, o3, o4, -⟩ := h2
  obtain ⟨b0, b1, b2⟩ := id h5
  have top : ∀ x : Int, f_X4_chosen 1 3 x ρ = some x := fun x => by
    rw [f_X4_chosen, g_X4_chosen, ckp (by decide), if_neg (by decide), if_neg (by decide)]
  have lv2 : ∀ i s, 0 ≤ i ∧ i < (P 0).1 → 0 ≤ s ∧ s < (P 1).1 → f_X4_chosen 2 2 (0 + i * 1 + s * (P 0).1) ρ = some (kk P i s (tS W H fm ρ (τ 65) P i s)) := fun i s hi hs =>
    chosen_lv (k := 1) (f := 2) (V := fun t => kk P i s t) (G := fun t => gy W H fm ρ (τ 65) 2 (yB P i s t)) (by omega) (o1 2 (by omega) (by omega)).1 o4 b2 (fun t t0 t1 => ⟨top _, gainR hA (by omega) hi hs ⟨t0, t1⟩⟩)
  have lv1 : ∀ i, 0 ≤ i ∧ i < (P 0).1 → f_X4_chosen 3 1 (0 + i * 1) ρ = some (kk P i (sS W H fm ρ (τ 65) P i) (tS W H fm ρ (τ 65) P i (sS W H fm ρ (τ 65) P i))) := fun i hi =>
    chosen_lv (k := 2) (f := 1) (V := fun s => kk P i s (tS W H fm ρ (τ 65) P i s)) (G := fun s => gy W H fm ρ (τ 65) 1 (yB P i s (tS W H fm ρ (τ 65) P i s))) (by omega) (o1 1 (by omega) (by omega)).1 o3 b1 (fun s s0 s1 => ⟨lv2 i s hi ⟨s0, s1⟩, gainR hA (by omega) hi ⟨s0, s1⟩ (tS_bd h5 i s)⟩)
  exact chosen_lv (k := 3) (f := 0) (V := fun i => kk P i (sS W H fm ρ (τ 65) P i) (tS W H fm ρ (τ 65) P i (sS W H fm ρ (τ 65) P i))) (G := fun i => gy W H fm ρ (τ 65) 0 (yB P i (sS W H fm ρ (τ 65) P i) (tS W H fm ρ (τ 65) P i (sS W H fm ρ (τ 65) P i)))) (by omega) (o1 0 (by omega) (by omega)).1 o2 b0 (fun i i0 i1 => ⟨lv1 i ⟨i0, i1⟩, gainR hA (by omega) ⟨i0, i1⟩ (sS_bd h5 i) (tS_bd h5 i _)⟩)
theorem wr_val (x : Int) : inR (wr x) ∧ (inR x → wr x = x) ∧ (x < -2147483648 → x ≥ -2147483658 → wr x = x + 4294967296) := by
  unfold wr
  rw [Int32.toInt_ofInt]
  have e : (Int32.size : Nat) = 4294967296 := rfl
  rw [e, Int.bmod_def]
  by_cases c : x % ((4294967296 : Nat) : Int) < (((4294967296 : Nat) : Int) + 1) / 2
  · rw [if_pos c]
    refine ⟨by omega, fun h => by omega, fun h1 h2 => by omega⟩
  · rw [if_neg c]
    refine ⟨by omega, fun h => by omega, fun h1 h2 => by omega⟩
theorem k_selfish {ρ τ : pm} (h : Rel ρ τ) {w : Int} (hw : inR w) : ∃ r ρ' τ', f_X8_selfish w ρ = some (r, ρ') ∧ f_X9_selfish w τ = some (r, τ') ∧ Rel ρ' τ' := by
  obtain ⟨W, H, fm, hr⟩ := h
  obtain ⟨-, -, h4, h4', hfm, -⟩ := id hr.1
  obtain ⟨ρ1, τ1, P, a1, a2, hA⟩ := aheadR hr
  obtain ⟨-, -, k4, k4', -, ho, hg, -⟩ := id hA.1.1
  obtain ⟨τ2, b1, b2⟩ := firstR a2 hA rfl
  have cC := chosenR hA
  have tb := Tot_bd hA.2.2.2.2
  have ib := iS_bd (W := W) (H := H) (fm := fm) (ρ := ρ1) (own := τ1 65) hA.2.2.2.2
  have sb := sS_bd (W := W) (H := H) (fm := fm) (ρ := ρ1) (own := τ1 65) hA.2.2.2.2 (iS W H fm ρ1 (τ1 65) P)
  have tb' := tS_bd (W := W) (H := H) (fm := fm) (ρ := ρ1) (own := τ1 65) hA.2.2.2.2 (iS W H fm ρ1 (τ1 65) P) (sS W H fm ρ1 (τ1 65) P (iS W H fm ρ1 (τ1 65) P))
  obtain ⟨q1, q2⟩ := kk_ok hA.2.2.2.2 ib sb tb'
  have hA2 := hA.ag b2
  obtain ⟨w1, w2, w3⟩ := wr_val (w - 10)
  unfold f_X8_selfish f_X9_selfish
  simp only [ckp hw]
  by_cases c0 : w = 0
  · refine ⟨yS W H fm ρ1 (τ1 65) P, ρ1, τ2, ?_, ?_, W, H, fm, hA2.1⟩
    · dsimp only [jn]
      rw [if_pos c0, a1, Option.bind_some, cC, Option.bind_some, ckp hw, if_pos c0, ckp (by omega), (hA.year q1).1, q2]
      rfl
    · dsimp only [jn]
      rw [if_pos c0, b1, bn2_of, ckp hw, if_pos c0]
  · by_cases c1 : 0 ≤ w - 10 ∧ w - 10 < fm
    · have ew : wr (w - 10) = w - 10 := w2 (by omega)
      obtain ⟨τ3, d1, d2⟩ := hA2.hasBy (b2.own rfl) (f := w - 10) c1 ib sb tb'
      refine ⟨gy W H fm ρ1 (τ1 65) (w - 10) (yS W H fm ρ1 (τ1 65) P), ρ1, τ3, ?_, ?_, W, H, fm, (hA2.ag d2).1⟩
      · have g := (gainR hA (f := w - 10) (by omega) ib sb tb').2.1
        dsimp only [jn]
        rw [if_neg c0, if_neg (by omega), hasFarm_yes h4 hfm c1, Option.bind_some, i10, a1, Option.bind_some, cC, Option.bind_some, ckp hw, if_neg c0, ckp (by omega), g, Option.bind_some]
        rfl
      · dsimp only [jn]
        rw [if_neg c0, ew, isFarm_yes h4' hfm c1, Option.bind_some, i10, b1, bn2_of, ckp hw, if_neg c0]
        show bn2 (f_X9_hasBy (yB P (iS W H fm ρ1 (τ1 65) P) (sS W H fm ρ1 (τ1 65) P (iS W H fm ρ1 (τ1 65) P)) (tS W H fm ρ1 (τ1 65) P (iS W H fm ρ1 (τ1 65) P) (sS W H fm ρ1 (τ1 65) P (iS W H fm ρ1 (τ1 65) P)))) (w - 10) τ2) _ = _
        rw [d1, bn2_of]
        rfl
    · refine ⟨-1, ρ, τ, ?_, ?_, W, H, fm, hr⟩
      · dsimp only [jn]
        rw [if_neg c0]
        by_cases c2 : w < 10
        · rw [if_pos c2]
        · rw [if_neg c2, hasFarm_no (by omega) h4 hfm c1, Option.bind_some, i00]
      · dsimp only [jn]
        have : ¬ (0 ≤ wr (w - 10) ∧ wr (w - 10) < fm) := by
          by_cases c3 : inR (w - 10)
          · rw [w2 c3]; exact c1
          · rw [w3 (by omega) (by omega)]; omega
        rw [if_neg c0, isFarm_no w1 h4' hfm this, Option.bind_some, i00]
