/-! again() -/
def al (R h : Int → Int) (i : Int) : Prop := ∀ c, 0 ≤ c → c < 25 → R (i * 25 + c) = h c
theorem isAlikeC_loop {ρ : pm} {i : Int} (hi : 0 ≤ i ∧ i < 61) (h1 : ∀ c, 0 ≤ c → c < 25 → inR (ρ 61 (i * 25 + c)) ∧ inR (ρ 26 c)) : ∀ (m n : Nat) (c : Int), m + 1 ≤ n → c + (m : Int) = 25 → 0 ≤ c → (∀ j, 0 ≤ j → j < c → ρ 61 (i * 25 + j) = ρ 26 j) → (L_X8_isAlike_2 ρ n i c = some 1 ∧ al (ρ 61) (ρ 26) i) ∨ (L_X8_isAlike_2 ρ n i c = some 0 ∧ ¬ al (ρ 61) (ρ 26) i) := by
  intro m
  induction m with
  | zero =>
    intro n c hn hc c0 hj
    obtain ⟨x, rfl⟩ : ∃ x, n = x + 1 := ⟨n - 1, by omega⟩
    left
    rw [L_X8_isAlike_2, ckp (by omega), if_pos (by omega)]
    exact ⟨rfl, fun j j0 j1 => hj j j0 (by omega)⟩
  | succ m ih =>
    intro n c hn hc c0 hj
    obtain ⟨x, rfl⟩ : ∃ x, n = x + 1 := ⟨n - 1, by omega⟩
    have hR := h1 c c0 (by omega)
    rw [L_X8_isAlike_2, ckp (by omega), if_neg (by omega), ckp (by omega), ckp (by omega), ckp hR.1, ckp hR.2]
    by_cases e : ρ 61 (i * 25 + c) = ρ 26 c
    · rw [if_pos e]
      exact ih x (c + 1) (by omega) (by omega) (by omega) (fun j j0 j1 => by
        by_cases e2 : j = c
        · rw [e2]; exact e
        · exact hj j j0 (by omega))
    · rw [if_neg e]
      right
      exact ⟨rfl, fun z => e (z c c0 (by omega))⟩
theorem firstAlikeC_loop {ρ : pm} {k : Int} (hk : 0 ≤ k ∧ k ≤ 61) (h1 : ∀ i c, 0 ≤ i → i < k → 0 ≤ c → c < 25 → inR (ρ 61 (i * 25 + c)) ∧ inR (ρ 26 c)) : ∀ (m n : Nat) (i : Int), m + 1 ≤ n → i + (m : Int) = k → 0 ≤ i → (∀ j, 0 ≤ j → j < i → ¬ al (ρ 61) (ρ 26) j) → (L_X8_firstAlike_2 ρ n k i = some (-1) ∧ ∀ j, 0 ≤ j → j < k → ¬ al (ρ 61) (ρ 26) j) ∨ ∃ v, L_X8_firstAlike_2 ρ n k i = some v ∧ 0 ≤ v ∧ v < k ∧ al (ρ 61) (ρ 26) v ∧ ∀ j, 0 ≤ j → j < v → ¬ al (ρ 61) (ρ 26) j := by
  intro m
  induction m with
  | zero =>
    intro n i hn hi i0 hj
    obtain ⟨x, rfl⟩ : ∃ x, n = x + 1 := ⟨n - 1, by omega⟩
    left
    rw [L_X8_firstAlike_2, ckp (by omega), ckp (by omega), if_pos (by omega)]
    exact ⟨rfl, fun j j0 j1 => hj j j0 (by omega)⟩
  | succ m ih =>
    intro n i hn hi i0 hj
    obtain ⟨x, rfl⟩ : ∃ x, n = x + 1 := ⟨n - 1, by omega⟩
    rw [L_X8_firstAlike_2, ckp (by omega), ckp (by omega), if_neg (by omega)]
    unfold f_X8_isAlike
    rcases isAlikeC_loop (ρ := ρ) (i := i) (by omega) (fun c c0 c1 => h1 i c i0 (by omega) c0 c1) 25 fu 0 (by unfold fu; omega) (by omega) (by omega) (fun j j0 j1 => by omega) with ⟨e1, e2⟩ | ⟨e1, e2⟩
    · rw [e1, Option.bind_some, i10]
      right
      exact ⟨i, rfl, i0, by omega, e2, hj⟩
    · rw [e1, Option.bind_some, i00]
      exact ih x (i + 1) (by omega) (by omega) (by omega) (fun j j0 j1 => by
        by_cases e : j = i
        · rw [e]; exact e2
        · exact hj j j0 (by omega))
theorem areAlikeM_loop {τ : pm} {a b : Int} (ha : 0 ≤ a ∧ a < 61) (hb : 0 ≤ b ∧ b < 61) (h1 : ∀ c, 0 ≤ c → c < 25 → inR (τ 80 (25 * a + c)) ∧ inR (τ 80 (25 * b + c))) : ∀ (m n : Nat) (c is : Int), m + 1 ≤ n → c + (m : Int) = 25 → 0 ≤ c → (is = 0 ∨ is = 1) → (is = 1 ↔ ∀ j, 0 ≤ j → j < c → τ 80 (25 * a + j) = τ 80 (25 * b + j)) → ∃ v, L_X9_areAlike_5 τ n a b is c = some v ∧ (v = 0 ∨ v = 1) ∧ (v = 1 ↔ ∀ j, 0 ≤ j → j < 25 → τ 80 (25 * a + j) = τ 80 (25 * b + j)) := by
  intro m
  induction m with
  | zero =>
    intro n c is hn hc c0 hi hj
    obtain ⟨x, rfl⟩ : ∃ x, n = x + 1 := ⟨n - 1, by omega⟩
    rw [L_X9_areAlike_5, ckp (by omega), if_pos (by omega), ckp hi]
    exact ⟨is, rfl, hi, by rw [hj, show c = 25 by omega]⟩
  | succ m ih =>
    intro n c is hn hc c0 hi hj
    obtain ⟨x, rfl⟩ : ∃ x, n = x + 1 := ⟨n - 1, by omega⟩
    have hR := h1 c c0 (by omega)
    rw [L_X9_areAlike_5, ckp (by omega), if_neg (by omega), ckp (Z_R hi)]
    dsimp only [jn]
    have step : (∀ j, 0 ≤ j → j < c + 1 → τ 80 (25 * a + j) = τ 80 (25 * b + j)) ↔ (∀ j, 0 ≤ j → j < c → τ 80 (25 * a + j) = τ 80 (25 * b + j)) ∧ τ 80 (25 * a + c) = τ 80 (25 * b + c) := by
      constructor
      · intro z
        exact ⟨fun j j0 j1 => z j j0 (by omega), z c c0 (by omega)⟩
      · rintro ⟨z1, z2⟩ j j0 j1
        by_cases e : j = c
        · rw [e]; exact z2
        · exact z1 j j0 (by omega)
    rcases hi with rfl | rfl
    · rw [i00]
      exact ih x (c + 1) 0 (by omega) (by omega) (by omega) (Or.inl rfl) (by rw [step]; exact ⟨fun z => absurd z (by decide), fun z => hj.mpr z.1⟩)
    · rw [i10, ckp (by omega), ckp (by omega), ckp hR.1, ckp hR.2]
      by_cases e : τ 80 (25 * a + c) = τ 80 (25 * b + c)
      · rw [if_pos e]
        exact ih x (c + 1) 1 (by omega) (by omega) (by omega) (Or.inr rfl) (by rw [step]; exact ⟨fun _ => ⟨hj.mp rfl, e⟩, fun _ => rfl⟩)
      · rw [if_neg e]
        exact ih x (c + 1) 0 (by omega) (by omega) (by omega) (Or.inl rfl) (by rw [step]; exact ⟨fun z => absurd z (by decide), fun z => absurd z.2 e⟩)
theorem firstM_loop {τ : pm} {w k : Int} {K : Int → Int → Int → Int → pm → Option (Int × pm)} (hk : 0 ≤ k ∧ k < 61) (h1 : ∀ i c, 0 ≤ i → i ≤ k → 0 ≤ c → c < 25 → inR (τ 80 (25 * i + c))) : ∀ (m n : Nat) (j f mo : Int), m + 1 ≤ n → j = (m : Int) - 1 → j < k → ∃ f' mo', L_X9_again_80 K n w f mo k j τ = K w f' mo' k τ ∧ (((∀ i, 0 ≤ i → i ≤ j → ¬ al (τ 80) (fun c => τ 80 (25 * k + c)) i) ∧ f' = f ∧ mo' = mo) ∨ (0 ≤ f' ∧ f' ≤ j ∧ al (τ 80) (fun c => τ 80 (25 * k + c)) f' ∧ (∀ i, 0 ≤ i → i < f' → ¬ al (τ 80) (fun c => τ 80 (25 * k + c)) i) ∧ mo' = k - f')) := by
  intro m
  induction m with
  | zero =>
    intro n j f mo hn hj hjk
    obtain ⟨x, rfl⟩ : ∃ x, n = x + 1 := ⟨n - 1, by omega⟩
    rw [L_X9_again_80, ckp (by omega), if_pos (by omega)]
    exact ⟨f, mo, rfl, Or.inl ⟨fun i i0 i1 => by omega, rfl, rfl⟩⟩
  | succ m ih =>
    intro n j f mo hn hj hjk
    obtain ⟨x, rfl⟩ : ∃ x, n = x + 1 := ⟨n - 1, by omega⟩
    rw [L_X9_again_80, ckp (by omega), if_neg (by omega)]
    unfold f_X9_areAlike
    obtain ⟨v, v1, v2, v3⟩ := areAlikeM_loop (τ := τ) (a := j) (b := k) (by omega) (by omega) (fun c c0 c1 => ⟨h1 j c (by omega) (by omega) c0 c1, h1 k c (by omega) (by omega) c0 c1⟩) 25 fu 0 1 (by unfold fu; omega) (by omega) (by omega) (Or.inr rfl) ⟨fun _ i i0 i1 => by omega, fun _ => rfl⟩
    rw [v1, Option.bind_some]
    dsimp only [jn]
    have hal : al (τ 80) (fun c => τ 80 (25 * k + c)) j ↔ v = 1 := by
      rw [v3]
      unfold al
      constructor
      · intro z c c0 c1
        have := z c c0 c1
        rw [show j * 25 + c = 25 * j + c by omega] at this
        exact this
      · intro z c c0 c1
        show τ 80 (j * 25 + c) = τ 80 (25 * k + c)
        rw [show j * 25 + c = 25 * j + c by omega]
        exact z c c0 c1
    by_cases e : v = 0
    · rw [if_pos e]
      obtain ⟨f', mo', g1, g2⟩ := ih x (j + (-1)) f mo (by omega) (by omega) (by omega)
      refine ⟨f', mo', g1, ?_⟩
      rcases g2 with ⟨g3, g4, g5⟩ | ⟨g3, g4, g5⟩
      · left
        refine ⟨fun i i0 i1 => ?_, g4, g5⟩
        by_cases e2 : i = j
        · rw [e2, hal]; omega
        · exact g3 i i0 (by omega)
      · right
        exact ⟨g3, by omega, g5⟩
    · rw [if_neg e]
      obtain ⟨f', mo', g1, g2⟩ := ih x (j + (-1)) j (k - j) (by omega) (by omega) (by omega)
      refine ⟨f', mo', g1, ?_⟩
      right
      rcases g2 with ⟨g3, g4, g5⟩ | ⟨g3, g4, g5⟩
      · rw [g4]
        exact ⟨by omega, Int.le_refl _, hal.mpr (by omega), fun i i0 i1 => g3 i i0 (by omega), g5⟩
      · exact ⟨g3, by omega, g5⟩
theorem rowM_loop {w f mo k : Int} {K : Int → Int → Int → Int → pm → Option (Int × pm)} (hk : 0 ≤ k ∧ k < 61) : ∀ (m n : Nat) (c : Int) (τ : pm), m + 1 ≤ n → c + (m : Int) = 25 → 0 ≤ c → ∃ τ', L_X9_again_41 K n w f mo k c τ = K w f mo k τ' ∧ (∀ q, q ≠ 80 → τ' q = τ q) ∧ (∀ j, (j < 25 * k + c ∨ 25 * k + 25 ≤ j) → τ' 80 j = τ 80 j) ∧ (∀ j, c ≤ j → j < 25 → τ' 80 (25 * k + j) = τ 63 j) := by
  intro m
  induction m with
  | zero =>
    intro n c τ hn hc c0
    obtain ⟨x, rfl⟩ : ∃ x, n = x + 1 := ⟨n - 1, by omega⟩
    rw [L_X9_again_41, ckp (by omega), if_pos (by omega)]
    exact ⟨τ, rfl, fun _ _ => rfl, fun _ _ => rfl, fun j j0 j1 => by omega⟩
  | succ m ih =>
    intro n c τ hn hc c0
    obtain ⟨x, rfl⟩ : ∃ x, n = x + 1 := ⟨n - 1, by omega⟩
    rw [L_X9_again_41, ckp (by omega), if_neg (by omega), ckp (by omega), ckp (by omega)]
    dsimp only [jn]
    obtain ⟨τ', g1, g2, g3, g4⟩ := ih x (c + 1) (pup τ 80 (25 * k + c) (τ 63 c)) (by omega) (by omega) (by omega)
    refine ⟨τ', g1, fun q hq => by rw [g2 q hq, pup_ne hq], fun j hj => by rw [g3 j (by omega), pup_off (by omega)], fun j j0 j1 => ?_⟩
    by_cases e : j = c
    · rw [e, g3 _ (by omega), pup_at]
    · rw [g4 j (by omega) j1, pup_ne (by omega)]
def agW (ρ ρ' : pm) : Prop := ∀ q, q ≠ 25 → q ≠ 26 → q ≠ 27 → q ≠ 61 → ρ' q = ρ q
def agR (τ τ' : pm) : Prop := (∀ q, q ≠ 62 → q ≠ 63 → q ≠ 71 → q ≠ 80 → τ' q = τ q) ∧ (∀ j, j ≠ 31 → j ≠ 32 → τ' 62 j = τ 62 j) ∧ ∀ j, (j < 0 ∨ 25 ≤ j) → τ' 63 j = τ 63 j
theorem agR.trans {a b c : pm} (h1 : agR a b) (h2 : agR b c) : agR a c := ⟨fun q x y z u => (h2.1 q x y z u).trans (h1.1 q x y z u), fun j x y => (h2.2.1 j x y).trans (h1.2.1 j x y), fun j x => (h2.2.2 j x).trans (h1.2.2 j x)⟩
theorem agW.trans {a b c : pm} (h1 : agW a b) (h2 : agW b c) : agW a c := fun q x y z u => (h2 q x y z u).trans (h1 q x y z u)
theorem againS {W H fm w k Y : Int} {ρ τ : pm} {n n' : Nat} {KC : Int → Int → Int → pm → Option (Int × pm)} {KM : Int → Int → Int → pm → Option (Int × pm)} (hKC : ∀ k v ρ, KC w k v ρ = some (if w = 0 then v else k - v, ρ)) (hk : 0 ≤ k ∧ k ≤ 60) (ld : LdR W H fm ρ τ) (fl : FlR W H Y ρ τ 25 0) (hY : 0 ≤ Y ∧ Y ≤ 2900) (hrow : ∀ i c, 0 ≤ i → i < k → 0 ≤ c → c < 25 → ρ 61 (i * 25 + c) = τ 80 (25 * i + c) ∧ inR (ρ 61 (i * 25 + c))) :
    (∃ a b τ', ((f_X8_firstAlike k ρ).bind (fun v6 => ck (inR v6) (if v6 < 0 then (f_X8_note k ρ).bind (fun ρ8 => L_X8_again_32 KC n w (k + 1) ρ8) else KC w k v6 ρ))) = some (if w = 0 then a else b, ρ) ∧ L_X9_again_25 KM (n' + 1 + 1) w (-4) (-4) k τ = KM w a b τ' ∧ agR τ τ') ∨
    (∃ ρ8 ρ9 τ2, ((f_X8_firstAlike k ρ).bind (fun v6 => ck (inR v6) (if v6 < 0 then (f_X8_note k ρ).bind (fun ρ8 => L_X8_again_32 KC n w (k + 1) ρ8) else KC w k v6 ρ))) = L_X8_again_32 KC n w (k + 1) ρ8 ∧ L_X9_again_25 KM (n' + 1 + 1) w (-4) (-4) k τ = L_X9_again_25 KM (n' + 1) w (-4) (-4) (k + 1) τ2 ∧ f_X2_pass 25 0 ρ8 = some ρ9 ∧ LdR W H fm ρ9 τ2 ∧ FlR W H (Y + 1) ρ9 τ2 25 0 ∧ agW ρ ρ8 ∧ agW ρ ρ9 ∧ agR τ τ2 ∧ (∀ i c, 0 ≤ i → i < k + 1 → 0 ≤ c → c < 25 → ρ9 61 (i * 25 + c) = τ2 80 (25 * i + c) ∧ inR (ρ9 61 (i * 25 + c)))) := by
  have he := fl.heq
  have hB26 : ∀ c, 0 ≤ c → c < 25 → 0 ≤ ρ 26 c ∧ ρ 26 c ≤ 100000 := fl.2.1.ok (by omega)
  obtain ⟨τ1, t1, t2, t3, t4⟩ := rowM_loop (w := w) (f := -4) (mo := -4) (k := k) (K := fun (l1 l2 l3 l4 : Int) (ρ : pm) => jn (l4 - 1) (fun x12 => L_X9_again_80 (fun (l1 l2 l3 l4 : Int) (ρ : pm) => (f_X9_silts ρ).bind (fun ρ18 => jn (l4 + 1) (fun x19 => L_X9_again_25 KM (n' + 1) l1 l2 l3 x19 ρ18))) fu l1 l2 l3 l4 x12 ρ)) (by omega) 25 fu 0 τ (by unfold fu; omega) (by omega) (by omega)
  have e80 : ∀ i c, 0 ≤ i → i < k → 0 ≤ c → c < 25 → τ1 80 (25 * i + c) = ρ 61 (i * 25 + c) := fun i c i0 i1 c0 c1 => by
    have : 25 * i + c < 25 * k + 0 := by omega
    rw [t3 _ (Or.inl this)]; exact (hrow i c i0 i1 c0 c1).1.symm
  have e80k : ∀ c, 0 ≤ c → c < 25 → τ1 80 (25 * k + c) = ρ 26 c := fun c c0 c1 => by rw [t4 c c0 c1]; exact he c c0 c1
  have ld1 : LdR W H fm ρ τ1 := ld.keep rfl rfl rfl (by rw [t2 62 (by omega)]) (by rw [t2 62 (by omega)]) (by rw [t2 62 (by omega)]) (t2 65 (by omega))
  have fl1 : FlR W H Y ρ τ1 25 0 := fl.keep rfl rfl rfl (fun j _ _ => by rw [t2 63 (by omega)])
  have hal : ∀ i, 0 ≤ i → i < k → (al (τ1 80) (fun c => τ1 80 (25 * k + c)) i ↔ al (ρ 61) (ρ 26) i) := by
    intro i i0 i1
    unfold al
    constructor
    · intro z c c0 c1
      have := z c c0 c1
      rw [show i * 25 + c = 25 * i + c by omega] at this
      rw [← e80 i c i0 i1 c0 c1, ← e80k c c0 c1]
      exact this
    · intro z c c0 c1
      show _ = τ1 80 (25 * k + c)
      rw [show i * 25 + c = 25 * i + c by omega, e80 i c i0 i1 c0 c1, e80k c c0 c1]
      exact z c c0 c1
  obtain ⟨f', mo', g1, g2⟩ := firstM_loop (τ := τ1) (w := w) (k := k) (K := fun (l1 l2 l3 l4 : Int) (ρ : pm) => (f_X9_silts ρ).bind (fun ρ18 => jn (l4 + 1) (fun x19 => L_X9_again_25 KM (n' + 1) l1 l2 l3 x19 ρ18))) (by omega) (fun i c i0 i1 c0 c1 => by
    by_cases e : i = k
    · rw [e, e80k c c0 c1]; have := hB26 c c0 c1; omega
    · rw [e80 i c i0 (by omega) c0 c1]; exact (hrow i c i0 (by omega) c0 c1).2) k.toNat fu (k - 1) (-4) (-4) (by unfold fu; omega) (by omega) (by omega)
  have hM : L_X9_again_25 KM (n' + 1 + 1) w (-4) (-4) k τ = (f_X9_silts τ1).bind (fun ρ18 => L_X9_again_25 KM (n' + 1) w f' mo' (k + 1) ρ18) := by
    rw [L_X9_again_25, ckp (by omega), if_neg (by omega), ckp (by decide), if_pos rfl]
    refine t1.trans ?_
    refine g1.trans ?_
    rfl
  have agr1 : agR τ τ1 := ⟨fun q a b c d => t2 q d, fun j a b => by rw [t2 62 (by omega)], fun j a => by rw [t2 63 (by omega)]⟩
  have cRow : ∀ i c, 0 ≤ i → i < k → 0 ≤ c → c < 25 → inR (ρ 61 (i * 25 + c)) ∧ inR (ρ 26 c) := fun i c i0 i1 c0 c1 => ⟨(hrow i c i0 i1 c0 c1).2, by have := hB26 c c0 c1; omega⟩
  have hC := firstAlikeC_loop (ρ := ρ) (k := k) (by omega) cRow k.toNat fu 0 (by unfold fu; omega) (by omega) (by omega) (fun j j0 j1 => by omega)
  rw [hM]
  unfold f_X8_firstAlike
  rcases hC with ⟨c1, c2⟩ | ⟨v, c1, c2, c3, c4, c5⟩
  · -- none alike
    right
    have gg : f' = -4 ∧ mo' = -4 := by
      rcases g2 with ⟨_, g4, g5⟩ | ⟨g3, g4, g5, _⟩
      · exact ⟨g4, g5⟩
      · exact absurd ((hal f' g3 (by omega)).mp g5) (c2 f' g3 (by omega))
    rw [c1, Option.bind_some, ckp (by decide), if_pos (by decide), gg.1, gg.2]
    unfold f_X8_note
    rw [ckp (by omega)]
    dsimp only [jn]
    rw [Option.bind_some]
    obtain ⟨ρ8, e8⟩ : ∃ ρ8, ρ8 = pcp ρ 26 0 61 (k * 25) 25 := ⟨_, rfl⟩
    rw [← e8]
    have n8 : ∀ q, q ≠ 61 → ρ8 q = ρ q := fun q hq => by rw [e8, pcp_ne hq]
    have ld8 : LdR W H fm ρ8 τ1 := ld1.keep (n8 _ (by omega)) (n8 _ (by omega)) (n8 _ (by omega)) rfl rfl rfl rfl
    have fl8 : FlR W H Y ρ8 τ1 25 0 := fl1.keep (n8 _ (by omega)) (n8 _ (by omega)) (n8 _ (by omega)) (fun _ _ _ => rfl)
    obtain ⟨ρ9, τ2, p1, p2, p3, p4, p5⟩ := passR0 (by omega : 3 < 25) ld8 fl8 (by omega)
    rw [p2, Option.bind_some]
    refine ⟨ρ8, ρ9, τ2, rfl, rfl, p1, ld8.ah p4 p5, p3, fun q a b c d => n8 q d, fun q a b c d => by rw [p4 q a b c, n8 q d], agr1.trans ⟨fun q a b c d => p5.1 q a b c, p5.2.1, p5.2.2⟩, fun i c i0 i1 c0 c1 => ?_⟩
    rw [p4 61 (by omega) (by omega) (by omega), p5.1 80 (by omega) (by omega) (by omega)]
    by_cases e : i = k
    · rw [e, e80k c c0 c1, e8, pcp_in (by omega), show (0 : Int) + (k * 25 + c - k * 25) = c by omega]
      exact ⟨rfl, by have := hB26 c c0 c1; omega⟩
    · rw [e80 i c i0 (by omega) c0 c1, e8, pcp_out (by omega)]
      exact ⟨rfl, (hrow i c i0 (by omega) c0 c1).2⟩
  · -- alike
    left
    have gg : f' = v ∧ mo' = k - v := by
      rcases g2 with ⟨g3, _, _⟩ | ⟨g3, g4, g5, g6, g7⟩
      · exact absurd ((hal v c2 c3).mpr c4) (g3 v c2 (by omega))
      · have e : f' = v := by
          have := (hal f' g3 (by omega)).mp g5
          by_cases l1 : f' < v
          · exact absurd this (c5 f' g3 l1)
          · by_cases l2 : v < f'
            · exact absurd ((hal v c2 c3).mpr c4) (g6 v c2 l2)
            · omega
        exact ⟨e, by rw [g7, e]⟩
    rw [c1, Option.bind_some, ckp (by omega), if_neg (by omega), hKC, gg.1, gg.2]
    obtain ⟨ρ9, τ2, p1, p2, p3, p4, p5⟩ := passR0 (by omega : 3 < 25) ld1 fl1 (by omega)
    rw [p2, Option.bind_some]
    refine ⟨v, k - v, τ2, rfl, ?_, agr1.trans ⟨fun q a b c d => p5.1 q a b c, p5.2.1, p5.2.2⟩⟩
    rw [L_X9_again_25, ckp (by omega)]
    by_cases e : 60 < k + 1
    · rw [if_pos e]
    · rw [if_neg e, ckp (by omega), if_neg (by omega)]
theorem againR {W H fm w : Int} {KC : Int → Int → Int → pm → Option (Int × pm)} {KM : Int → Int → Int → pm → Option (Int × pm)} (hKC : ∀ k v ρ, KC w k v ρ = some (if w = 0 then v else k - v, ρ)) : ∀ (m n n' : Nat) (k Y : Int) (ρ τ : pm), m + 1 ≤ n → m + 3 ≤ n' → k + (m : Int) = 60 → 0 ≤ k → LdR W H fm ρ τ → FlR W H Y ρ τ 25 0 → 0 ≤ Y → Y + (m : Int) ≤ 2900 → (∀ i c, 0 ≤ i → i < k → 0 ≤ c → c < 25 → ρ 61 (i * 25 + c) = τ 80 (25 * i + c) ∧ inR (ρ 61 (i * 25 + c))) →
    ∃ a b ρ' τ', ((f_X8_firstAlike k ρ).bind (fun v6 => ck (inR v6) (if v6 < 0 then (f_X8_note k ρ).bind (fun ρ8 => L_X8_again_32 KC n w (k + 1) ρ8) else KC w k v6 ρ))) = some (if w = 0 then a else b, ρ') ∧ L_X9_again_25 KM n' w (-4) (-4) k τ = KM w a b τ' ∧ agW ρ ρ' ∧ agR τ τ' := by
  intro m
  induction m with
  | zero =>
    intro n n' k Y ρ τ hn hn' hk k0 ld fl hY hY2 hrow
    obtain ⟨x, rfl⟩ : ∃ x, n = x + 1 := ⟨n - 1, by omega⟩
    obtain ⟨x', rfl⟩ : ∃ x, n' = x + 1 + 1 := ⟨n' - 2, by omega⟩
    rcases againS (n := x + 1) (n' := x') (KM := KM) hKC (by omega) ld fl (by omega) hrow with ⟨a, b, τ', g1, g2, g3⟩ | ⟨ρ8, ρ9, τ2, g1, g2, g3, g4, g5, g6, g7, g8, g9⟩
    · exact ⟨a, b, ρ, τ', g1, g2, fun _ _ _ _ _ => rfl, g3⟩
    · rw [g1, g2]
      refine ⟨-4, -4, ρ8, τ2, ?_, ?_, g6, g8⟩
      · rw [L_X8_again_32, ckp (by omega), if_pos (by omega)]
        split <;> rfl
      · rw [L_X9_again_25, ckp (by omega), if_pos (by omega)]
  | succ m ih =>
    intro n n' k Y ρ τ hn hn' hk k0 ld fl hY hY2 hrow
    obtain ⟨x, rfl⟩ : ∃ x, n = x + 1 := ⟨n - 1, by omega⟩
    obtain ⟨x', rfl⟩ : ∃ x, n' = x + 1 + 1 := ⟨n' - 2, by omega⟩
    rcases againS (n := x + 1) (n' := x') (KM := KM) hKC (by omega) ld fl (by omega) hrow with ⟨a, b, τ', g1, g2, g3⟩ | ⟨ρ8, ρ9, τ2, g1, g2, g3, g4, g5, g6, g7, g8, g9⟩
    · exact ⟨a, b, ρ, τ', g1, g2, fun _ _ _ _ _ => rfl, g3⟩
    · rw [g1, g2]
      obtain ⟨a, b, ρ', τ', u1, u2, u3, u4⟩ := ih x (x' + 1) (k + 1) (Y + 1) ρ9 τ2 (by omega) (by omega) (by omega) (by omega) g4 g5 (by omega) (by omega) g9
      refine ⟨a, b, ρ', τ', ?_, u2, agW.trans g7 u3, g8.trans u4⟩
      rw [L_X8_again_32, ckp (by omega), if_neg (by omega), g3, Option.bind_some]
      exact u1
theorem k_again {ρ τ : pm} (h : Rel ρ τ) {w : Int} (hw : inR w) : ∃ r ρ' τ', f_X8_again w ρ = some (r, ρ') ∧ f_X9_again w τ = some (r, τ') ∧ Rel ρ' τ' := by
  obtain ⟨W, H, fm, hr⟩ := h
  obtain ⟨a1, a2, a3, -⟩ := id hr
  have m1 := a3.1
  unfold f_X8_again f_X9_again
  simp only [ckp hw]
  by_cases c : 0 ≤ w ∧ w ≤ 1
  · rw [if_neg (by omega), if_pos c.2, in_yes (L_of_R hw) (by omega) (by omega) c, Option.bind_some, i10]
    obtain ⟨ρ1, c1, c2, c3, c4⟩ := trialR hr
    obtain ⟨τ2, d1, d2, d3⟩ := marksM τ
    have fl2 : FlR W H (ρ 4 4) ρ1 τ2 25 0 := c3.keep rfl rfl rfl (fun j _ _ => by rw [d2 63 (by omega)])
    have ld2 : LdR W H fm ρ1 τ2 := c4.keep rfl rfl rfl (by rw [d2 62 (by omega)]) (by rw [d2 62 (by omega)]) (by rw [d2 62 (by omega)]) (d2 65 (by omega))
    obtain ⟨a, b, ρ3, τ3, g1, g2, g3, g4⟩ := againR (w := w) (KC := fun (l1 l2 l3 : Int) (ρ : pm) => ck (inR l1) (if l1 = 0 then some (l3, ρ) else some (l2 - l3, ρ))) (KM := fun (l1 l2 l3 : Int) (ρ : pm) => (f_X9_returns ρ).bind (fun ρ20 => ck (inR l1) (if l1 = 0 then some (l2, ρ20) else some (l3, ρ20)))) (fun k v ρ => by
      show ck (inR w) _ = _
      rw [ckp hw]
      split <;> rfl) 60 fu fu 0 (ρ 4 4) ρ1 τ2 (by unfold fu; omega) (by unfold fu; omega) (by omega) (by omega) ld2 fl2 (by omega) (by omega) (fun i c i0 i1 => by omega)
    have e0 : f_X8_firstAlike 0 ρ1 = some (-1) := by
      unfold f_X8_firstAlike
      rw [show fu = 99999 + 1 from rfl, L_X8_firstAlike_2, ckp (by omega), ckp (by omega), if_pos (by omega)]
    rw [e0, Option.bind_some, ckp (by decide), if_pos (by decide)] at g1
    obtain ⟨τ4, v1, v2, v3, v4⟩ := returnsM τ3
    have hr4 : RelW W H fm ρ3 τ4 := hr.ag (fun q hq => by rw [g3 q (by omega) (by omega) (by omega) (by omega), c2 q (by omega) (by omega) (by omega)]) ⟨fun q hq => by
      by_cases e : q = 63
      · subst e
        funext j
        by_cases e : 0 ≤ j ∧ j < 25
        · rw [v3 j e.1 e.2, g4.1 72 (by omega) (by omega) (by omega) (by omega), d3 j e.1 e.2]
        · rw [v4 j (by omega), g4.2.2 j (by omega), d2 63 (by omega)]
      · rw [v2 q e, g4.1 q (by omega) (by omega) (by omega) (by omega), d2 q (by omega)], fun j b1 b2 => by rw [v2 62 (by omega), g4.2.1 j b1 b2, d2 62 (by omega)]⟩
    refine ⟨if w = 0 then a else b, ρ3, τ4, ?_, ?_, W, H, fm, hr4⟩
    · rw [c1, Option.bind_some]
      exact g1
    · rw [d1, Option.bind_some]
      refine Eq.trans g2 ?_
      show (f_X9_returns τ3).bind (fun ρ20 => ck (inR w) (if w = 0 then some (a, ρ20) else some (b, ρ20))) = _
      rw [v1, Option.bind_some, ckp hw]
      split <;> rfl
  · rw [in_no (L_of_R hw) (by omega) (by omega) c, Option.bind_some, i00]
    refine ⟨-1, ρ, τ, ?_, rfl, W, H, fm, hr⟩
    by_cases c0 : w < 0
    · rw [if_pos c0]
    · rw [if_neg c0, if_neg (by omega)]
