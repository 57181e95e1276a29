abbrev adj (W H b c : Int) : Prop := adS W H b c 0 ∨ adS W H b c 1 ∨ adS W H b c 2 ∨ adS W H b c 3
/-- neighbours are so to each other -/
theorem nbr_sym {W H c k s : Int} (hw : wh W H) (h0 : 0 ≤ c) (h1 : c < W * H) (hs : s = 0 ∨ s = 1 ∨ s = 2 ∨ s = 3) (e : nbr W H c s = k) (hk : 0 ≤ k) : k < W * H ∧ nbr W H k (if s = 0 then 2 else if s = 1 then 3 else if s = 2 then 0 else 1) = c := by
  obtain ⟨e1, e2⟩ := hw
  subst e
  rcases hs with rfl | rfl | rfl | rfl
  · rw [show nbr W H c 0 = if c / W ≤ 0 then -1 else c - W from rfl] at hk ⊢
    change _ ∧ nbr W H _ 2 = c
    by_cases z : c / W ≤ 0
    · rw [if_pos z] at hk; omega
    · rw [if_neg z] at hk ⊢
      rw [show nbr W H (c - W) 2 = if H ≤ (c - W) / W + 1 then -1 else (c - W) + W from rfl]
      rcases e1 with rfl | rfl | rfl | rfl <;> rcases e2 with rfl | rfl | rfl | rfl <;> (refine ⟨by omega, ?_⟩; rw [if_neg (by omega)]; omega)
  · rw [show nbr W H c 1 = if W ≤ c % W + 1 then -1 else c + 1 from rfl] at hk ⊢
    change _ ∧ nbr W H _ 3 = c
    by_cases z : W ≤ c % W + 1
    · rw [if_pos z] at hk; omega
    · rw [if_neg z] at hk ⊢
      rw [show nbr W H (c + 1) 3 = if (c + 1) % W ≤ 0 then -1 else (c + 1) - 1 from rfl]
      rcases e1 with rfl | rfl | rfl | rfl <;> rcases e2 with rfl | rfl | rfl | rfl <;> (refine ⟨by omega, ?_⟩; rw [if_neg (by omega)]; omega)
  · rw [show nbr W H c 2 = if H ≤ c / W + 1 then -1 else c + W from rfl] at hk ⊢
    change _ ∧ nbr W H _ 0 = c
    by_cases z : H ≤ c / W + 1
    · rw [if_pos z] at hk; omega
    · rw [if_neg z] at hk ⊢
      rw [show nbr W H (c + W) 0 = if (c + W) / W ≤ 0 then -1 else (c + W) - W from rfl]
      rcases e1 with rfl | rfl | rfl | rfl <;> rcases e2 with rfl | rfl | rfl | rfl <;> (refine ⟨by omega, ?_⟩; rw [if_neg (by omega)]; omega)
  · rw [show nbr W H c 3 = if c % W ≤ 0 then -1 else c - 1 from rfl] at hk ⊢
    change _ ∧ nbr W H _ 1 = c
    by_cases z : c % W ≤ 0
    · rw [if_pos z] at hk; omega
    · rw [if_neg z] at hk ⊢
      rw [show nbr W H (c - 1) 1 = if W ≤ (c - 1) % W + 1 then -1 else (c - 1) + 1 from rfl]
      rcases e1 with rfl | rfl | rfl | rfl <;> rcases e2 with rfl | rfl | rfl | rfl <;> (refine ⟨by omega, ?_⟩; rw [if_neg (by omega)]; omega)
theorem adj_iff {W H b c : Int} (hw : wh W H) (h0 : 0 ≤ c) (h1 : c < W * H) : adj W H b c ↔ ∃ k s, 0 ≤ k ∧ k < W * H ∧ (s = 0 ∨ s = 1 ∨ s = 2 ∨ s = 3) ∧ nbr W H k s = c ∧ on b k := by
  constructor
  · have go : ∀ s, (s = 0 ∨ s = 1 ∨ s = 2 ∨ s = 3) → adS W H b c s → ∃ k s, 0 ≤ k ∧ k < W * H ∧ (s = 0 ∨ s = 1 ∨ s = 2 ∨ s = 3) ∧ nbr W H k s = c ∧ on b k := by
      intro s hs ha
      obtain ⟨a1, a2⟩ := nbr_sym hw h0 h1 hs rfl ha.1
      refine ⟨nbr W H c s, _, ha.1, a1, ?_, a2, ha.2⟩
      rcases hs with rfl | rfl | rfl | rfl
      · exact Or.inr (Or.inr (Or.inl rfl))
      · exact Or.inr (Or.inr (Or.inr rfl))
      · exact Or.inl rfl
      · exact Or.inr (Or.inl rfl)
    rintro (h | h | h | h)
    · exact go 0 (Or.inl rfl) h
    · exact go 1 (Or.inr (Or.inl rfl)) h
    · exact go 2 (Or.inr (Or.inr (Or.inl rfl))) h
    · exact go 3 (Or.inr (Or.inr (Or.inr rfl))) h
  · rintro ⟨k, s, k0, k1, hs, hn, hb⟩
    obtain ⟨a1, a2⟩ := nbr_sym hw k0 k1 hs hn h0
    have key : ∀ s', nbr W H c s' = k → adS W H b c s' := fun s' z => ⟨by rw [z]; exact k0, by rw [z]; exact hb⟩
    rcases hs with rfl | rfl | rfl | rfl
    · exact Or.inr (Or.inr (Or.inl (key 2 a2)))
    · exact Or.inr (Or.inr (Or.inr (key 3 a2)))
    · exact Or.inl (key 0 a2)
    · exact Or.inr (Or.inl (key 1 a2))
/-- the class's beside() -/
theorem besideC_loop {ρ : pm} {W H b : Int} (hl : landC ρ W H) : ∀ (m n : Nat) (i fnd : Int), m + 1 ≤ n → i + (m : Int) = W * H * 4 → 0 ≤ i → inR fnd → (∀ c, 0 ≤ c → c < 32 → (on fnd c ↔ ∃ j, 0 ≤ j ∧ j < i ∧ nbr W H (j / 4) (j % 4) = c ∧ on b (j / 4))) →
    ∃ r, L_X3_beside_4 ρ n b fnd i = some r ∧ inR r ∧ ∀ c, 0 ≤ c → c < 32 → (on r c ↔ ∃ j, 0 ≤ j ∧ j < W * H * 4 ∧ nbr W H (j / 4) (j % 4) = c ∧ on b (j / 4)) := by
  have bd := hl.1.bd
  have hW := hl.2.1
  have hH := hl.2.2.1
  intro m
  induction m with
  | zero =>
    intro n i fnd hn hi i0 hR hf
    obtain ⟨k, rfl⟩ : ∃ k, n = k + 1 := ⟨n - 1, by omega⟩
    refine ⟨fnd, ?_, hR, fun c a1 a2 => ?_⟩
    · rw [L_X3_beside_4, hW, hH, ckp (by omega), ckp (by omega), if_pos (by omega)]
    · have : i = W * H * 4 := by omega
      rw [← this]; exact hf c a1 a2
  | succ m ih =>
    intro n i fnd hn hi i0 hR hf
    obtain ⟨k, rfl⟩ : ∃ k, n = k + 1 := ⟨n - 1, by omega⟩
    have e0 : ρ 3 i = nbr W H (i / 4) (i % 4) := by
      have := hl.2.2.2 (i / 4) (i % 4) (by omega) (by omega) (by omega) (by omega)
      rw [show i / 4 * 4 + i % 4 = i by omega] at this
      exact this
    have nb := nbr_bd (i % 4) hl.1 (show 0 ≤ i / 4 by omega) (by omega)
    rw [L_X3_beside_4, hW, hH, ckp (by omega), ckp (by omega), if_neg (by omega), ckp (by omega), e0, ckp (by omega)]
    dsimp only [jn]
    have step : ∀ c, (∃ j, 0 ≤ j ∧ j < i + 1 ∧ nbr W H (j / 4) (j % 4) = c ∧ on b (j / 4)) ↔ (nbr W H (i / 4) (i % 4) = c ∧ on b (i / 4)) ∨ ∃ j, 0 ≤ j ∧ j < i ∧ nbr W H (j / 4) (j % 4) = c ∧ on b (j / 4) := by
      intro c
      constructor
      · rintro ⟨j, j0, j1, j2, j3⟩
        by_cases e : j = i
        · subst e; exact Or.inl ⟨j2, j3⟩
        · exact Or.inr ⟨j, j0, by omega, j2, j3⟩
      · rintro (⟨j2, j3⟩ | ⟨j, j0, j1, j2, j3⟩)
        · exact ⟨i, i0, by omega, j2, j3⟩
        · exact ⟨j, j0, by omega, j2, j3⟩
    by_cases c0 : nbr W H (i / 4) (i % 4) < 0
    · rw [if_pos c0]
      refine ih k (i + 1) fnd (by omega) (by omega) (by omega) hR (fun c a1 a2 => ?_)
      rw [step, hf c a1 a2]
      exact ⟨Or.inr, fun z => z.elim (fun y => by omega) id⟩
    · rw [if_neg c0, tdiv_pos i0, has_eq (by omega), Option.bind_some]
      rcases bt_01 b (i / 4) (by omega) with e | e
      · rw [e, if_pos rfl]
        refine ih k (i + 1) fnd (by omega) (by omega) (by omega) hR (fun c a1 a2 => ?_)
        rw [step, hf c a1 a2]
        exact ⟨Or.inr, fun z => z.elim (fun y => by have := y.2; unfold on at this; omega) id⟩
      · rw [e, if_neg (by decide)]
        refine ih k (i + 1) _ (by omega) (by omega) (by omega) (bor_R _ _) (fun c a1 a2 => ?_)
        rw [step, on_add (by omega) ⟨a1, a2⟩, hf c a1 a2]
        exact ⟨fun z => z.elim (fun y => Or.inl ⟨y.symm, e⟩) Or.inr, fun z => z.elim (fun y => Or.inl y.1.symm) Or.inr⟩
theorem besideC {ρ : pm} {W H b : Int} (hl : landC ρ W H) : ∃ r, f_X3_beside b ρ = some r ∧ inR r ∧ ∀ c, 0 ≤ c → c < W * H → (on r c ↔ adj W H b c) := by
  have bd := hl.1.bd
  obtain ⟨r, h1, h2, h3⟩ := besideC_loop (b := b) hl (W * H * 4).toNat fu 0 0 (by unfold fu; omega) (by omega) (by omega) R_0 (fun c a1 a2 => ⟨fun z => absurd z (on_zero ⟨a1, a2⟩), fun ⟨j, j0, j1, _⟩ => by omega⟩)
  refine ⟨r, h1, h2, fun c a1 a2 => ?_⟩
  rw [h3 c a1 (by omega), adj_iff hl.1 a1 a2]
  constructor
  · rintro ⟨j, j0, j1, j2, j3⟩
    exact ⟨j / 4, j % 4, by omega, by omega, by omega, j2, j3⟩
  · rintro ⟨k, s, k0, k1, ks, k2, k3⟩
    refine ⟨k * 4 + s, by omega, by omega, ?_, ?_⟩
    · rw [show (k * 4 + s) / 4 = k by omega, show (k * 4 + s) % 4 = s by omega]; exact k2
    · rw [show (k * 4 + s) / 4 = k by omega]; exact k3
/-- the reference's isBeside() -/
theorem isBesideM_step {τ : pm} {W H b c : Int} {n : Nat} {is s s' : Int} (hl : landM τ W H) (h0 : 0 ≤ c) (h1 : c < W * H) (hi : is = 0 ∨ is = 1) (hs : 0 ≤ s ∧ s < 4) (e : s + 1 = s') : L_X9_isBeside_5 τ (n + 1) c b is s = L_X9_isBeside_5 τ n c b (if is = 1 ∨ adS W H b c s then 1 else 0) s' := by
  subst e
  have bd := hl.1.bd
  have nb := nbr_bd s hl.1 h0 h1
  rw [L_X9_isBeside_5, ckp (by omega), if_neg (by omega), besideM hl h0 h1 hs.1 hs.2, Option.bind_some, ckp (by omega)]
  dsimp only [jn]
  unfold adS
  generalize nbr W H c s = k at *
  rcases hi with rfl | rfl
  · rw [if_pos rfl]
    by_cases c0 : k = -1
    · rw [show n4 k = -4 from if_pos c0, ckp (by decide), if_pos rfl, if_neg (by omega)]
    · rw [show n4 k = k from if_neg c0, ckp (by omega), if_neg (by omega)]
      change (if bt b k = 1 then _ else _) = _
      by_cases c1 : bt b k = 1
      · rw [if_pos c1, if_pos (Or.inr ⟨by omega, c1⟩)]
      · rw [if_neg c1, if_neg (fun z => z.elim (fun y => absurd y (by decide)) (fun y => c1 y.2))]
  · rw [if_neg (by decide), if_pos (Or.inl rfl)]
theorem isBesideM {τ : pm} {W H b c : Int} (hl : landM τ W H) (h0 : 0 ≤ c) (h1 : c < W * H) : f_X9_isBeside c b τ = some (if adj W H b c then 1 else 0) := by
  have z : ∀ (P : Prop) [Decidable P], (if P then (1 : Int) else 0) = 0 ∨ (if P then (1 : Int) else 0) = 1 := by
    intro P _
    split
    · exact Or.inr rfl
    · exact Or.inl rfl
  have o : ∀ (P : Prop) [Decidable P], ((if P then (1 : Int) else 0) = 1) ↔ P := by
    intro P _
    split
    · exact ⟨fun _ => by assumption, fun _ => rfl⟩
    · exact ⟨fun q => absurd q (by decide), fun q => absurd q (by assumption)⟩
  unfold f_X9_isBeside
  rw [show fu = 99995 + 1 + 1 + 1 + 1 + 1 from rfl, isBesideM_step hl h0 h1 (Or.inl rfl) (by omega) (s' := 1) rfl, isBesideM_step hl h0 h1 (z _) (by omega) (s' := 2) rfl, isBesideM_step hl h0 h1 (z _) (by omega) (s' := 3) rfl, isBesideM_step hl h0 h1 (z _) (by omega) (s' := 4) rfl, L_X9_isBeside_5, ckp (by omega), if_pos (by omega), ckp (z _)]
  congr 1
  by_cases a : adj W H b c
  · rw [if_pos a, if_pos]
    simp only [o]
    rcases a with h | h | h | h
    · exact Or.inl (Or.inl (Or.inl (Or.inr h)))
    · exact Or.inl (Or.inl (Or.inr h))
    · exact Or.inl (Or.inr h)
    · exact Or.inr h
  · rw [if_neg a, if_neg]
    simp only [o]
    rintro (((h | h) | h) | h)
    · rcases h with h | h
      · exact absurd h (by decide)
      · exact a (Or.inl h)
    · exact a (Or.inr (Or.inl h))
    · exact a (Or.inr (Or.inr (Or.inl h)))
    · exact a (Or.inr (Or.inr (Or.inr h)))
