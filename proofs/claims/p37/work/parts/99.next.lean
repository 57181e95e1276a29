/-! next() of the reference -/
theorem spc_le {B : Int → Int} : ∀ (m : Nat) (a : Int), a ≤ spc B m a ∧ spc B m a ≤ a + (m : Int)
  | 0, a => ⟨Int.le_refl _, by show a ≤ a + ((0 : Nat) : Int); omega⟩
  | m + 1, a => by
    have ih := spc_le (B := B) m (a + 1)
    unfold spc
    split
    · omega
    · omega
theorem needs_ok {l c : Int} {τ : pm} (hl : inR l) (h : l ≠ 0) : f_X9_needs l c τ = some τ := by
  unfold f_X9_needs
  rw [ckp hl, if_neg h]
theorem needs_no {c : Int} {τ : pm} (h : τ 62 28 = 0) : f_X9_needs 0 c τ = some (pup (pup τ 62 28 c) 62 29 (τ 62 25)) := by
  unfold f_X9_needs
  rw [ckp (by decide), if_pos rfl, h, ckp (by decide), if_pos rfl, jn_eq, jn_eq, pup_off (by omega)]
/-- what a token is: the bytes, how many, where it begins -/
def TkM (B : Int → Int) (N p : Int) (τ : pm) : Prop :=
  (p = N ∧ τ 62 28 = 0 ∧ τ 62 26 = 0 ∧ τ 62 24 = p) ∨
  (p < N ∧ (97 ≤ B p ∧ B p ≤ 122) ∧ τ 62 28 = 0 ∧ τ 62 26 = 1 ∧ τ 62 24 = ltr B (N - p).toNat p) ∨
  (p < N ∧ (48 ≤ B p ∧ B p ≤ 57) ∧ fig B (N - p).toNat p - p ≤ 2 ∧ τ 62 28 = 0 ∧ τ 62 26 = 2 ∧ τ 62 24 = fig B (N - p).toNat p ∧ τ 62 27 = fv2 B p (N - p).toNat p 0) ∨
  (p < N ∧ B p = 59 ∧ τ 62 28 = 0 ∧ τ 62 26 = 3 ∧ τ 62 24 = p + 1) ∨
  (p < N ∧ ((48 ≤ B p ∧ B p ≤ 57 ∧ 2 < fig B (N - p).toNat p - p) ∨ (¬ (97 ≤ B p ∧ B p ≤ 122) ∧ ¬ (48 ≤ B p ∧ B p ≤ 57) ∧ B p ≠ 59)) ∧ τ 62 28 = 1 ∧ τ 62 29 = p ∧ (0 ≤ τ 62 26 ∧ τ 62 26 ≤ 3))
theorem nextM {ρ τ : pm} {a : Int} (tp : TpR ρ τ) (h28 : τ 62 28 = 0) (h24 : τ 62 24 = a) (ha : 0 ≤ a ∧ a ≤ ρ 50 1) : ∃ τ', f_X9_next τ = some τ' ∧ (∀ q, q ≠ 62 → τ' q = τ q) ∧ (∀ j, (j < 24 ∨ 29 < j) → τ' 62 j = τ 62 j) ∧ τ' 62 25 = spc (τ 70) (ρ 50 1 - a).toNat a ∧ TkM (τ 70) (ρ 50 1) (spc (τ 70) (ρ 50 1 - a).toNat a) τ' := by
  have t1 := tp.1
  have sl := spc_le (B := τ 70) (ρ 50 1 - a).toNat a
  obtain ⟨p, ep⟩ : ∃ p, p = spc (τ 70) (ρ 50 1 - a).toNat a := ⟨_, rfl⟩
  obtain ⟨N, eN⟩ : ∃ N, N = ρ 50 1 := ⟨_, rfl⟩
  obtain ⟨B, eB⟩ : ∃ B, B = τ 70 := ⟨_, rfl⟩
  unfold f_X9_next
  rw [h28, ckp (by decide), if_pos (by decide)]
  obtain ⟨K, eK⟩ : ∃ K : pm → Option pm, K = fun (ρ : pm) => jn (pup ρ 62 25 (ρ 62 24)) (fun ρ5 => (f_X9_look (ρ5 62 24) ρ5).bind (fun v6 => ck (inR v6) (if 0 ≤ v6 then (f_X9_in v6 97 122).bind (fun v8 => if v8 = 0 then (f_X9_in v6 48 57).bind (fun v10 => if v10 = 0 then jn (pup ρ5 62 26 3) (fun ρ12 => jn (fun (s1 : Int) (ρ : pm) => (f_X9_needs s1 1 ρ).bind (fun ρ13 => jn (pup ρ13 62 24 ((ρ13 62 24) + 1)) (fun ρ14 => some ρ14))) (fun j260 => if v6 = 59 then j260 1 ρ12 else j260 0 ρ12)) else jn (pup ρ5 62 26 2) (fun ρ15 => jn (pup ρ15 62 27 0) (fun ρ16 => L_X9_next_140 (fun (ρ : pm) => ck (inR ((ρ 62 24) - (ρ 62 25))) (jn (fun (s1 : Int) (ρ : pm) => (f_X9_needs s1 1 ρ).bind (fun ρ26 => some ρ26)) (fun j236 => if 2 < ((ρ 62 24) - (ρ 62 25)) then j236 0 ρ else j236 1 ρ))) fu ρ16))) else jn (pup ρ5 62 26 1) (fun ρ27 => L_X9_next_82 fu ρ27)) else jn (pup ρ5 62 26 0) (fun ρ33 => some ρ33)))) := ⟨_, rfl⟩
  rw [← eK]
  obtain ⟨τ1, s1, s2, s3, s4⟩ := skipM (K := K) (ρ := ρ) (ρ 50 1 - a).toNat fu τ a tp (by unfold fu; omega) (by omega) ha.1 h24
  rw [← ep] at s4 sl ⊢
  obtain ⟨τ5, x5⟩ : ∃ τ5, τ5 = pup τ1 62 25 p := ⟨_, rfl⟩
  have n5 : ∀ q, q ≠ 62 → τ5 q = τ q := fun q hq => by rw [x5, pup_ne hq, s2 q hq]
  have o5 : ∀ j, j ≠ 24 → j ≠ 25 → τ5 62 j = τ 62 j := fun j b1 b2 => by rw [x5, pup_off b2, s3 j b1]
  have p24 : τ5 62 24 = p := by rw [x5, pup_off (by omega)]; exact s4
  have p25 : τ5 62 25 = p := by rw [x5, pup_at]
  have tp5 : TpR ρ τ5 := tp.keep rfl rfl (o5 23 (by omega) (by omega)) (n5 70 (by omega))
  have lk := lookM tp5 (i := p) (by omega)
  rw [n5 70 (by omega), ← eB, ← eN] at lk
  have eM : K τ1 = ck (inR (if N ≤ p then -1 else B p)) (if 0 ≤ (if N ≤ p then -1 else B p) then (f_X9_in (if N ≤ p then -1 else B p) 97 122).bind (fun v8 => if v8 = 0 then (f_X9_in (if N ≤ p then -1 else B p) 48 57).bind (fun v10 => if v10 = 0 then (if (if N ≤ p then -1 else B p) = 59 then (f_X9_needs 1 1 (pup τ5 62 26 3)).bind (fun ρ13 => some (pup ρ13 62 24 ((ρ13 62 24) + 1))) else (f_X9_needs 0 1 (pup τ5 62 26 3)).bind (fun ρ13 => some (pup ρ13 62 24 ((ρ13 62 24) + 1)))) else L_X9_next_140 (fun (ρ : pm) => ck (inR ((ρ 62 24) - (ρ 62 25))) (jn (fun (s1 : Int) (ρ : pm) => (f_X9_needs s1 1 ρ).bind (fun ρ26 => some ρ26)) (fun j236 => if 2 < ((ρ 62 24) - (ρ 62 25)) then j236 0 ρ else j236 1 ρ))) fu (pup (pup τ5 62 26 2) 62 27 0)) else L_X9_next_82 fu (pup τ5 62 26 1)) else some (pup τ5 62 26 0)) := by
    rw [eK]
    simp only [jn_eq]
    rw [s4, ← x5, p24, lk, Option.bind_some]
  rw [s1, eM, ← eB, ← eN]
  by_cases c0 : N ≤ p
  · rw [if_pos c0, ckp (by decide), if_neg (by decide)]
    refine ⟨_, rfl, fun q hq => by rw [pup_ne hq, n5 q hq], fun j hj => by rw [pup_off (by omega), o5 j (by omega) (by omega)], by rw [pup_off (by omega)]; exact p25, Or.inl ⟨by omega, ?_, pup_at, ?_⟩⟩
    · rw [pup_off (by omega), o5 28 (by omega) (by omega)]; exact h28
    · rw [pup_off (by omega)]; exact p24
  · have t2 := tp.2 p (by omega) (by omega)
    rw [← eB] at t2
    rw [if_neg c0, ckp (by omega), if_pos t2.1]
    by_cases c1 : 97 ≤ B p ∧ B p ≤ 122
    · rw [in_yes (by omega) (by omega) (by omega) c1, Option.bind_some, i10]
      have n6 : ∀ q, q ≠ 62 → pup τ5 62 26 1 q = τ q := fun q hq => by rw [pup_ne hq, n5 q hq]
      obtain ⟨τ', g1, g2, g3, g4⟩ := lettersM (ρ := ρ) (N - p).toNat fu (pup τ5 62 26 1) p (tp5.keep rfl rfl (pup_off (by omega)) (pup_ne (by omega))) (by unfold fu; omega) (by omega) (by omega) (by rw [pup_off (by omega)]; exact p24)
      rw [n6 70 (by omega), ← eB] at g4
      refine ⟨τ', g1, fun q hq => by rw [g2 q hq, n6 q hq], fun j hj => by rw [g3 j (by omega), pup_off (by omega), o5 j (by omega) (by omega)], by rw [g3 25 (by omega), pup_off (by omega)]; exact p25, Or.inr (Or.inl ⟨by omega, c1, ?_, ?_, g4⟩)⟩
      · rw [g3 28 (by omega), pup_off (by omega), o5 28 (by omega) (by omega)]; exact h28
      · rw [g3 26 (by omega), pup_at]
    · rw [in_no (by omega) (by omega) (by omega) c1, Option.bind_some, i00]
      by_cases c2 : 48 ≤ B p ∧ B p ≤ 57
      · rw [in_yes (by omega) (by omega) (by omega) c2, Option.bind_some, i10]
        obtain ⟨τ6, x6⟩ : ∃ τ6, τ6 = pup (pup τ5 62 26 2) 62 27 0 := ⟨_, rfl⟩
        rw [← x6]
        have n6 : ∀ q, q ≠ 62 → τ6 q = τ q := fun q hq => by rw [x6, pup_ne hq, pup_ne hq, n5 q hq]
        have o6 : ∀ j, j ≠ 26 → j ≠ 27 → τ6 62 j = τ5 62 j := fun j b1 b2 => by rw [x6, pup_off b2, pup_off b1]
        obtain ⟨K2, eK2⟩ : ∃ K2 : pm → Option pm, K2 = fun (ρ : pm) => ck (inR ((ρ 62 24) - (ρ 62 25))) (jn (fun (s1 : Int) (ρ : pm) => (f_X9_needs s1 1 ρ).bind (fun ρ26 => some ρ26)) (fun j236 => if 2 < ((ρ 62 24) - (ρ 62 25)) then j236 0 ρ else j236 1 ρ)) := ⟨_, rfl⟩
        rw [← eK2]
        obtain ⟨τ', g1, g2, g3, g4, g5⟩ := figuresM (K := K2) (ρ := ρ) (s := p) (by omega) (N - p).toNat fu τ6 p (tp5.keep rfl rfl (o6 23 (by omega) (by omega)) (by rw [n6 70 (by omega), n5 70 (by omega)])) (by unfold fu; omega) (by omega) (Int.le_refl _) (by rw [o6 24 (by omega) (by omega)]; exact p24) (by rw [o6 25 (by omega) (by omega)]; exact p25)
        rw [n6 70 (by omega), ← eB] at g4 g5
        rw [show τ6 62 27 = 0 by rw [x6, pup_at]] at g5
        have q25 : τ' 62 25 = p := by rw [g3 25 (by omega) (by omega), o6 25 (by omega) (by omega)]; exact p25
        have q28 : τ' 62 28 = 0 := by rw [g3 28 (by omega) (by omega), o6 28 (by omega) (by omega), o5 28 (by omega) (by omega)]; exact h28
        have q26 : τ' 62 26 = 2 := by rw [g3 26 (by omega) (by omega), x6, pup_off (by omega), pup_at]
        have qo : ∀ j, (j < 24 ∨ 29 < j) → τ' 62 j = τ 62 j := fun j hj => by rw [g3 j (by omega) (by omega), o6 j (by omega) (by omega), o5 j (by omega) (by omega)]
        have qn : ∀ q, q ≠ 62 → τ' q = τ q := fun q hq => by rw [g2 q hq, n6 q hq]
        have fl := fig_le (B := B) (N - p).toNat p
        have eK3 : K2 τ' = if 2 < fig B (N - p).toNat p - p then (f_X9_needs 0 1 τ').bind (fun ρ26 => some ρ26) else (f_X9_needs 1 1 τ').bind (fun ρ26 => some ρ26) := by
          rw [eK2]
          simp only [jn_eq]
          rw [g4, q25, ckp (by omega)]
        rw [g1, eK3]
        by_cases k : 2 < fig B (N - p).toNat p - p
        · rw [if_pos k, needs_no q28, Option.bind_some, q25]
          refine ⟨_, rfl, fun q hq => by rw [pup_ne hq, pup_ne hq, qn q hq], fun j hj => by rw [pup_off (by omega), pup_off (by omega), qo j hj], by rw [pup_off (by omega), pup_off (by omega)]; exact q25, Or.inr (Or.inr (Or.inr (Or.inr ⟨by omega, Or.inl ⟨c2.1, c2.2, k⟩, ?_, pup_at, ?_⟩)))⟩
          · rw [pup_off (by omega), pup_at]
          · rw [pup_off (by omega), pup_off (by omega)]; omega
        · rw [if_neg k, needs_ok (by decide) (by decide), Option.bind_some]
          exact ⟨_, rfl, qn, qo, q25, Or.inr (Or.inr (Or.inl ⟨by omega, c2, by omega, q28, q26, g4, g5⟩))⟩
      · rw [in_no (by omega) (by omega) (by omega) c2, Option.bind_some, i00]
        have o6 : ∀ j, j ≠ 26 → pup τ5 62 26 3 62 j = τ5 62 j := fun j b => pup_off b
        have q28 : pup τ5 62 26 3 62 28 = 0 := by rw [o6 28 (by omega), o5 28 (by omega) (by omega)]; exact h28
        by_cases c3 : B p = 59
        · rw [if_pos c3, needs_ok (by decide) (by decide), Option.bind_some, o6 24 (by omega), p24]
          refine ⟨_, rfl, fun q hq => by rw [pup_ne hq, pup_ne hq, n5 q hq], fun j hj => by rw [pup_off (by omega), pup_off (by omega), o5 j (by omega) (by omega)], by rw [pup_off (by omega), pup_off (by omega)]; exact p25, Or.inr (Or.inr (Or.inr (Or.inl ⟨by omega, c3, ?_, ?_, pup_at⟩)))⟩
          · rw [pup_off (by omega)]; exact q28
          · rw [pup_off (by omega), pup_at]
        · rw [if_neg c3, needs_no q28, Option.bind_some, o6 25 (by omega), p25]
          refine ⟨_, rfl, fun q hq => by rw [pup_ne hq, pup_ne hq, pup_ne hq, pup_ne hq, n5 q hq], fun j hj => by rw [pup_off (by omega), pup_off (by omega), pup_off (by omega), pup_off (by omega), o5 j (by omega) (by omega)], by rw [pup_off (by omega), pup_off (by omega), pup_off (by omega), pup_off (by omega)]; exact p25, Or.inr (Or.inr (Or.inr (Or.inr ⟨by omega, Or.inr ⟨c1, c2, c3⟩, ?_, ?_, ?_⟩)))⟩
          · rw [pup_off (by omega), pup_off (by omega), pup_at]
          · rw [pup_off (by omega), pup_at]
          · rw [pup_off (by omega), pup_off (by omega), pup_off (by omega), pup_at]; omega
