theorem ltr_le {B : Int → Int} : ∀ (m : Nat) (a : Int), a ≤ ltr B m a ∧ ltr B m a ≤ a + (m : Int)
  | 0, a => ⟨Int.le_refl _, by show a ≤ a + ((0 : Nat) : Int); omega⟩
  | m + 1, a => by
    have ih := ltr_le (B := B) m (a + 1)
    unfold ltr
    split
    · omega
    · omega
theorem nextC {ρ τ : pm} {a : Int} (tp : TpR ρ τ) (h6 : ρ 50 6 = 0) (h2 : ρ 50 2 = a) (ha : 0 ≤ a ∧ a ≤ ρ 50 1) : ∃ ρ', f_X6_next ρ = some ρ' ∧ (∀ q, q ≠ 50 → ρ' q = ρ q) ∧ (∀ j, (j < 2 ∨ 7 < j) → ρ' 50 j = ρ 50 j) ∧ ρ' 50 4 = spc (τ 70) (ρ 50 1 - a).toNat a ∧ TkC (τ 70) (ρ 50 1) (spc (τ 70) (ρ 50 1 - a).toNat a) ρ' := by
  have t1 := tp.1
  have sl := spc_le (B := τ 70) (ρ 50 1 - a).toNat a
  obtain ⟨ρ1, s1, s2, s3, s4⟩ := nextC_head tp h2 ha
  obtain ⟨p, ep⟩ : ∃ p, p = spc (τ 70) (ρ 50 1 - a).toNat a := ⟨_, rfl⟩
  rw [← ep] at s4 sl ⊢
  obtain ⟨B, eB⟩ : ∃ B, B = τ 70 := ⟨_, rfl⟩
  have e1 : ρ1 50 1 = ρ 50 1 := s3 1 (by omega)
  have tp1 : TpR ρ1 τ := tp.keep e1 (s2 51 (by omega)) rfl rfl
  by_cases c0 : p < ρ 50 1
  · have t2 := tp1.2 p (by omega) (by omega)
    have hx : 0 ≤ B p ∧ B p ≤ 255 := by rw [eB]; exact ⟨t2.1, t2.2.1⟩
    have hb : ρ1 51 p = b8 (B p) := by rw [eB]; exact t2.2.2
    rw [s1, tlC_eq s4 (by omega) (by omega) (by rw [hb]; exact b8_R _), e1, if_pos c0, hb, letterC hx, Option.bind_some]
    obtain ⟨m, em⟩ : ∃ m : Nat, (ρ 50 1 - p).toNat = m + 1 := ⟨(ρ 50 1 - p).toNat - 1, by omega⟩
    by_cases c3 : B p = 59
    · rw [if_pos ((b8_eq hx (by omega)).mpr c3)]
      refine ⟨_, rfl, fun q hq => by rw [pup_ne hq, pup_ne hq, pup_ne hq, pup_ne hq, s2 q hq], fun j hj => by rw [pup_off (by omega), pup_off (by omega), pup_off (by omega), pup_off (by omega), s3 j (by omega)], by rw [pup_off (by omega), pup_off (by omega), pup_off (by omega), pup_at], Or.inr (Or.inr (Or.inr (Or.inl ⟨c0, by rw [← eB]; exact c3, ?_, ?_, pup_at⟩)))⟩
      · rw [pup_off (by omega), pup_off (by omega), pup_off (by omega), pup_off (by omega), s3 6 (by omega)]; exact h6
      · rw [pup_off (by omega), pup_at]
    · rw [if_neg (fun z => c3 ((b8_eq hx (by omega)).mp z))]
      obtain ⟨ρ2, x2⟩ : ∃ ρ2, ρ2 = pup (pup ρ1 50 4 p) 50 5 0 := ⟨_, rfl⟩
      rw [← x2]
      have n2 : ∀ q, q ≠ 50 → ρ2 q = ρ q := fun q hq => by rw [x2, pup_ne hq, pup_ne hq, s2 q hq]
      have o2 : ∀ j, j ≠ 2 → j ≠ 4 → j ≠ 5 → ρ2 50 j = ρ 50 j := fun j b1 b2 b3 => by rw [x2, pup_off b3, pup_off b2, s3 j b1]
      have p2 : ρ2 50 2 = p := by rw [x2, pup_off (by omega), pup_off (by omega)]; exact s4
      have p4 : ρ2 50 4 = p := by rw [x2, pup_off (by omega), pup_at]
      have p5 : ρ2 50 5 = 0 := by rw [x2, pup_at]
      have tp2 : ∀ k, TpR (pup ρ2 50 3 k) τ := fun k => tp.keep (by rw [pup_off (by omega), o2 1 (by omega) (by omega) (by omega)]) (by rw [pup_ne (by omega), n2 51 (by omega)]) rfl rfl
      by_cases c1 : 97 ≤ B p ∧ B p ≤ 122
      · rw [if_pos c1, i10]
        obtain ⟨ρ', g1, g2, g3, g4⟩ := lettersC (K := kT1) (τ := τ) (ρ 50 1 - p).toNat fu (pup ρ2 50 3 1) p (tp2 1) (by unfold fu; omega) (by rw [pup_off (by omega), o2 1 (by omega) (by omega) (by omega)]; omega) (by omega) (by rw [pup_off (by omega)]; exact p2) pup_at
        rw [← eB] at g4
        have lb : p + 1 ≤ ltr B (ρ 50 1 - p).toNat p ∧ ltr B (ρ 50 1 - p).toNat p ≤ ρ 50 1 := by
          have := ltr_le (B := B) m (p + 1)
          rw [em]
          unfold ltr
          rw [if_pos c1]
          omega
        have q3 : ρ' 50 3 = 1 := by rw [g3 3 (by omega), pup_at]
        have q4 : ρ' 50 4 = p := by rw [g3 4 (by omega), pup_off (by omega)]; exact p4
        have q1 : ρ' 50 1 = ρ 50 1 := by rw [g3 1 (by omega), pup_off (by omega), o2 1 (by omega) (by omega) (by omega)]
        rw [g1, kT1_name g4 q4 q3 (by omega) (by omega)]
        refine ⟨ρ', rfl, fun q hq => by rw [g2 q hq, pup_ne hq, n2 q hq], fun j hj => by rw [g3 j (by omega), pup_off (by omega), o2 j (by omega) (by omega) (by omega)], q4, Or.inr (Or.inl ⟨c0, by rw [← eB]; exact c1, ?_, q3, by rw [← eB]; exact g4⟩)⟩
        rw [g3 6 (by omega), pup_off (by omega), o2 6 (by omega) (by omega) (by omega)]; exact h6
      · rw [if_neg c1, i00]
        obtain ⟨ρ3, x3⟩ : ∃ ρ3, ρ3 = pup ρ2 50 3 2 := ⟨_, rfl⟩
        have r2 : ρ3 50 2 = p := by rw [x3, pup_off (by omega)]; exact p2
        have r3 : ρ3 50 3 = 2 := by rw [x3, pup_at]
        have r4 : ρ3 50 4 = p := by rw [x3, pup_off (by omega)]; exact p4
        have r1 : ρ3 50 1 = ρ 50 1 := by rw [x3, pup_off (by omega), o2 1 (by omega) (by omega) (by omega)]
        have rb : ρ3 51 p = b8 (B p) := by rw [x3, pup_ne (by omega), x2, pup_ne (by omega), pup_ne (by omega)]; exact hb
        have n3 : ∀ q, q ≠ 50 → ρ3 q = ρ q := fun q hq => by rw [x3, pup_ne hq, n2 q hq]
        have o3 : ∀ j, j ≠ 2 → j ≠ 3 → j ≠ 4 → j ≠ 5 → ρ3 50 j = ρ 50 j := fun j b1 b2 b3 b4 => by rw [x3, pup_off b2, o2 j b1 b3 b4]
        have lv : L_X6_next_122 kT1 fu ρ3 = kT1 ρ3 := by
          rw [show fu = 99999 + 1 from rfl, L_X6_next_122, r2, r1, r3, ckp (by omega), ckp (by omega), if_neg (by omega), ckp (by decide), if_neg (by decide)]
        rw [← x3, lv]
        by_cases c2 : 48 ≤ B p ∧ B p ≤ 57
        · rw [kT1_fig r2 r3 (by omega) (by omega) hx rb c2, show ρ3 50 5 = 0 by rw [x3, pup_off (by omega)]; exact p5]
          obtain ⟨ρ4, x4⟩ : ∃ ρ4, ρ4 = pup (pup ρ3 50 5 (0 * 10 + B p - 48)) 50 2 (p + 1) := ⟨_, rfl⟩
          rw [← x4]
          have o4 : ∀ j, j ≠ 2 → j ≠ 5 → ρ4 50 j = ρ3 50 j := fun j b1 b2 => by rw [x4, pup_off b1, pup_off b2]
          have n4 : ∀ q, q ≠ 50 → ρ4 q = ρ q := fun q hq => by rw [x4, pup_ne hq, pup_ne hq, n3 q hq]
          obtain ⟨ρ', g1, g2, g3, g4, g5⟩ := figuresC (K := kT2) (τ := τ) m fu ρ4 (p + 1) (tp.keep (by rw [o4 1 (by omega) (by omega)]; exact r1) (n4 51 (by omega)) rfl rfl) (by unfold fu; omega) (by rw [o4 1 (by omega) (by omega), r1]; omega) (by omega) (by rw [x4, pup_at]) (by rw [o4 3 (by omega) (by omega)]; exact r3)
          rw [← eB] at g4 g5
          rw [show ρ4 50 5 = 0 * 10 + B p - 48 by rw [x4, pup_off (by omega), pup_at]] at g5
          have ef : fig B (ρ 50 1 - p).toNat p = fig B m (p + 1) := by
            rw [em]
            exact if_pos c2
          have ev : fvl B (ρ 50 1 - p).toNat p 0 = fvl B m (p + 1) (0 * 10 + B p - 48) := by
            rw [em]
            exact if_pos c2
          have fb := fig_le (B := B) m (p + 1)
          have q3 : ρ' 50 3 = 2 := by rw [g3 3 (by omega) (by omega), o4 3 (by omega) (by omega)]; exact r3
          have q4 : ρ' 50 4 = p := by rw [g3 4 (by omega) (by omega), o4 4 (by omega) (by omega)]; exact r4
          have q6 : ρ' 50 6 = 0 := by rw [g3 6 (by omega) (by omega), o4 6 (by omega) (by omega), o3 6 (by omega) (by omega) (by omega) (by omega)]; exact h6
          have qn : ∀ q, q ≠ 50 → ρ' q = ρ q := fun q hq => by rw [g2 q hq, n4 q hq]
          have qo : ∀ j, (j < 2 ∨ 7 < j) → ρ' 50 j = ρ 50 j := fun j hj => by rw [g3 j (by omega) (by omega), o4 j (by omega) (by omega), o3 j (by omega) (by omega) (by omega) (by omega)]
          rw [g1, kT2_eq g4 q4 q3 (by omega)]
          by_cases k : fig B m (p + 1) - p ≤ 2
          · rw [if_pos k]
            exact ⟨ρ', rfl, qn, qo, q4, Or.inr (Or.inr (Or.inl ⟨c0, by rw [← eB]; exact c2, by rw [← eB, ef]; exact k, q6, q3, by rw [← eB, ef]; exact g4, by rw [← eB, ev]; exact g5⟩))⟩
          · rw [if_neg k]
            refine ⟨_, rfl, fun q hq => by rw [pup_ne hq, pup_ne hq, qn q hq], fun j hj => by rw [pup_off (by omega), pup_off (by omega), qo j hj], by rw [pup_off (by omega), pup_off (by omega)]; exact q4, Or.inr (Or.inr (Or.inr (Or.inr ⟨c0, Or.inl ⟨by rw [← eB]; exact c2.1, by rw [← eB]; exact c2.2, by rw [← eB, ef]; omega⟩, ?_, pup_at⟩)))⟩
            rw [pup_off (by omega), pup_at]
        · rw [kT1_none r2 r4 r3 (by omega) (by omega) hx rb c2]
          refine ⟨_, rfl, fun q hq => by rw [pup_ne hq, pup_ne hq, n3 q hq], fun j hj => by rw [pup_off (by omega), pup_off (by omega), o3 j (by omega) (by omega) (by omega) (by omega)], by rw [pup_off (by omega), pup_off (by omega)]; exact r4, Or.inr (Or.inr (Or.inr (Or.inr ⟨c0, Or.inr ⟨by rw [← eB]; exact c1, by rw [← eB]; exact c2, by rw [← eB]; exact c3⟩, ?_, pup_at⟩)))⟩
          rw [pup_off (by omega), pup_at]
  · have hbR : inR (ρ1 51 p) ∨ True := Or.inr trivial
    have eT : tlC ρ1 = some (pup (pup (pup ρ1 50 4 p) 50 5 0) 50 3 0) := by
      have e2 : pup (pup ρ1 50 4 p) 50 5 0 50 2 = p := by rw [pup_off (by omega), pup_off (by omega)]; exact s4
      have e1' : pup (pup ρ1 50 4 p) 50 5 0 50 1 = ρ 50 1 := by rw [pup_off (by omega), pup_off (by omega)]; exact e1
      rw [tlC_eq0, s4]
      simp only [jn_eq]
      rw [e2, e1', ckp (by omega), ckp (by omega), if_neg c0]
    rw [s1, eT]
    refine ⟨_, rfl, fun q hq => by rw [pup_ne hq, pup_ne hq, pup_ne hq, s2 q hq], fun j hj => by rw [pup_off (by omega), pup_off (by omega), pup_off (by omega), s3 j (by omega)], by rw [pup_off (by omega), pup_off (by omega), pup_at], Or.inl ⟨by omega, ?_, pup_at, ?_⟩⟩
    · rw [pup_off (by omega), pup_off (by omega), pup_off (by omega), s3 6 (by omega)]; exact h6
    · rw [pup_off (by omega), pup_off (by omega), pup_off (by omega)]; exact s4
