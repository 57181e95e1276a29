/-! next() of both -/
theorem nextR {ρ τ : pm} {a : Int} (tp : TpR ρ τ) (h6 : ρ 50 6 = 0) (h28 : τ 62 28 = 0) (h2 : ρ 50 2 = a) (h24 : τ 62 24 = a) (ha : 0 ≤ a ∧ a ≤ ρ 50 1) : ∃ ρ' τ' p, f_X6_next ρ = some ρ' ∧ f_X9_next τ = some τ' ∧ (∀ q, q ≠ 50 → ρ' q = ρ q) ∧ (∀ j, (j < 2 ∨ 7 < j) → ρ' 50 j = ρ 50 j) ∧ (∀ q, q ≠ 62 → τ' q = τ q) ∧ (∀ j, (j < 24 ∨ 29 < j) → τ' 62 j = τ 62 j) ∧ ρ' 50 4 = p ∧ τ' 62 25 = p ∧ (a ≤ p ∧ p ≤ ρ 50 1) ∧
    ((ρ' 50 6 = 1 ∧ τ' 62 28 = 1 ∧ ρ' 50 7 = p ∧ τ' 62 29 = p) ∨
     (ρ' 50 6 = 0 ∧ τ' 62 28 = 0 ∧ τ' 62 26 = ρ' 50 3 ∧ τ' 62 24 = ρ' 50 2 ∧ (0 ≤ ρ' 50 3 ∧ ρ' 50 3 ≤ 3) ∧ (ρ' 50 3 = 2 → τ' 62 27 = ρ' 50 5))) := by
  obtain ⟨ρ', c1, c2, c3, c4, c5⟩ := nextC tp h6 h2 ha
  obtain ⟨τ', m1, m2, m3, m4, m5⟩ := nextM tp h28 h24 ha
  have sl := spc_le (B := τ 70) (ρ 50 1 - a).toNat a
  obtain ⟨p, ep⟩ : ∃ p, p = spc (τ 70) (ρ 50 1 - a).toNat a := ⟨_, rfl⟩
  rw [← ep] at c4 c5 m4 m5 sl
  refine ⟨ρ', τ', p, c1, m1, c2, c3, m2, m3, c4, m4, by omega, ?_⟩
  generalize hB : τ 70 = B at *
  have sv := fv_same (B := B) (s := p) (ρ 50 1 - p).toNat p 0 (Int.le_refl _)
  unfold TkC at c5
  unfold TkM at m5
  clear c1 c2 c3 m1 m2 m3 tp
  rcases c5 with ⟨x1, x2, x3, x4⟩ | ⟨x1, x2, x3, x4, x5⟩ | ⟨x1, x2, x3, x4, x5, x6, x7⟩ | ⟨x1, x2, x3, x4, x5⟩ | ⟨x1, x2, x3, x4⟩
  · rcases m5 with ⟨y1, y2, y3, y4⟩ | ⟨y1, y2, y3, y4, y5⟩ | ⟨y1, y2, y3, y4, y5, y6, y7⟩ | ⟨y1, y2, y3, y4, y5⟩ | ⟨y1, y2, y3, y4⟩
    · exact Or.inr ⟨x2, y2, by omega, by omega, by omega, fun z => by omega⟩
    all_goals exfalso; omega
  · rcases m5 with ⟨y1, y2, y3, y4⟩ | ⟨y1, y2, y3, y4, y5⟩ | ⟨y1, y2, y3, y4, y5, y6, y7⟩ | ⟨y1, y2, y3, y4, y5⟩ | ⟨y1, y2, y3, y4⟩
    · exfalso; omega
    · exact Or.inr ⟨x3, y3, by omega, by omega, by omega, fun z => by omega⟩
    all_goals exfalso; omega
  · rcases m5 with ⟨y1, y2, y3, y4⟩ | ⟨y1, y2, y3, y4, y5⟩ | ⟨y1, y2, y3, y4, y5, y6, y7⟩ | ⟨y1, y2, y3, y4, y5⟩ | ⟨y1, y2, y3, y4⟩
    · exfalso; omega
    · exfalso; omega
    · exact Or.inr ⟨x4, y4, by omega, by omega, by omega, fun _ => by rw [y7, x7]; exact (sv (by omega)).symm⟩
    all_goals exfalso; omega
  · rcases m5 with ⟨y1, y2, y3, y4⟩ | ⟨y1, y2, y3, y4, y5⟩ | ⟨y1, y2, y3, y4, y5, y6, y7⟩ | ⟨y1, y2, y3, y4, y5⟩ | ⟨y1, y2, y3, y4⟩
    · exfalso; omega
    · exfalso; omega
    · exfalso; omega
    · exact Or.inr ⟨x3, y3, by omega, by omega, by omega, fun z => by omega⟩
    · exfalso; omega
  · rcases m5 with ⟨y1, y2, y3, y4⟩ | ⟨y1, y2, y3, y4, y5⟩ | ⟨y1, y2, y3, y4, y5, y6, y7⟩ | ⟨y1, y2, y3, y4, y5⟩ | ⟨y1, y2, y3, y4⟩
    · exfalso; omega
    · exfalso; omega
    · exfalso; omega
    · exfalso; omega
    · exact Or.inl ⟨x3, y3, x4, y4.1⟩
