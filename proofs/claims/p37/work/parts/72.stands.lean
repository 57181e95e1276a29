theorem goes0 (τ : pm) : f_X9_goes 0 τ = f_X9_silts τ := by
  unfold f_X9_goes
  conv => lhs; arg 5; rw [← stc_id τ 63]
  rw [show fu = 99996 + 1 + 1 + 1 + 1 from rfl, goesM_step (by omega) (by omega) (f' := 1) rfl, goesM_step (by omega) (by omega) (f' := 2) rfl, goesM_step (by omega) (by omega) (f' := 3) rfl, L_X9_goes_2, ckp (by omega), if_pos (by omega)]
  have : cut1 (cut1 (cut1 (τ 63) (dig 0 0)) (dig 0 1)) (dig 0 2) = τ 63 := cutH_0 (τ 63)
  rw [this, stc_id]
  cases f_X9_silts τ <;> rfl
/-- a year without cuts -/
theorem passR0 {W H fm Y : Int} {ρ τ : pm} {q : Nat} (hq : 3 < q) (ld : LdR W H fm ρ τ) (fl : FlR W H Y ρ τ q 0) (hY : 0 ≤ Y ∧ Y ≤ 3000) :
    ∃ ρ' τ', f_X2_pass q 0 ρ = some ρ' ∧ f_X9_silts τ = some τ' ∧ FlR W H (Y + 1) ρ' τ' q 0 ∧ (∀ q', q' ≠ q → q' ≠ q + 1 → q' ≠ q + 2 → ρ' q' = ρ q') ∧ (∀ q', q' ≠ 62 → q' ≠ 63 → q' ≠ 71 → τ' q' = τ q') ∧ (∀ j, j ≠ 31 → j ≠ 32 → τ' 62 j = τ 62 j) ∧ (∀ j, (j < 0 ∨ 25 ≤ j) → τ' 63 j = τ 63 j) := by
  obtain ⟨ρ', τ', p1, p2, p3⟩ := passR' (y := 0) hq ld fl hY (by omega) (by rw [cutH_0]; exact fl.2.1)
  rw [goes0] at p2
  exact ⟨ρ', τ', p1, p2, p3⟩
/-- memory of the reference, heights and bed apart -/
def agH (τ τ' : pm) : Prop := (∀ q, q ≠ 62 → q ≠ 63 → q ≠ 71 → τ' q = τ q) ∧ (∀ j, j ≠ 31 → j ≠ 32 → τ' 62 j = τ 62 j) ∧ ∀ j, (j < 0 ∨ 25 ≤ j) → τ' 63 j = τ 63 j
theorem agH.refl (τ : pm) : agH τ τ := ⟨fun _ _ _ _ => rfl, fun _ _ _ => rfl, fun _ _ => rfl⟩
theorem agH.trans {a b c : pm} (h1 : agH a b) (h2 : agH b c) : agH a c := ⟨fun q x y z => (h2.1 q x y z).trans (h1.1 q x y z), fun j x y => (h2.2.1 j x y).trans (h1.2.1 j x y), fun j x => (h2.2.2 j x).trans (h1.2.2 j x)⟩
theorem agB.agH {a b : pm} (h : agB a b) : agH a b := ⟨fun _ x _ z => h.cell x z, fun _ x y => h.fld x y, fun _ _ => by rw [h.cell (by omega) (by omega)]⟩
def agT (ρ ρ' : pm) : Prop := ∀ q, q ≠ 25 → q ≠ 26 → q ≠ 27 → ρ' q = ρ q
theorem agT.refl (ρ : pm) : agT ρ ρ := fun _ _ _ _ => rfl
theorem agT.trans {a b c : pm} (h1 : agT a b) (h2 : agT b c) : agT a c := fun q x y z => (h2 q x y z).trans (h1 q x y z)
theorem LdR.ah {W H fm : Int} {ρ τ ρ' τ' : pm} (h : LdR W H fm ρ τ) (c : agT ρ ρ') (m : agH τ τ') : LdR W H fm ρ' τ' := h.step c m.1 m.2.1
theorem standsR {W H fm c : Int} {K : Int → pm → Option (Int × pm)} (hc : 0 ≤ c ∧ c < W * H) : ∀ (m n n' : Nat) (i Y : Int) (ρ τ : pm), m + 1 ≤ n → m + 2 ≤ n' → i + (m : Int) = 20 → 0 ≤ i → LdR W H fm ρ τ → FlR W H Y ρ τ 25 0 → 0 ≤ Y → Y + (m : Int) ≤ 2900 →
    ∃ r ρ' τ', L_X8_stands_49 n c i ρ = some (r, ρ') ∧ L_X9_stands_32 K n' c i 1 τ = K r τ' ∧ agT ρ ρ' ∧ agH τ τ' := by
  intro m
  induction m with
  | zero =>
    intro n n' i Y ρ τ hn hn' hi i0 ld fl hY hY2
    obtain ⟨x, rfl⟩ : ∃ x, n = x + 1 := ⟨n - 1, by omega⟩
    obtain ⟨x', rfl⟩ : ∃ x, n' = x + 1 := ⟨n' - 1, by omega⟩
    rw [L_X8_stands_49, ckp (by omega), if_pos (by omega), L_X9_stands_32, ckp (by decide), i10, ckp (by omega), if_pos (by omega)]
    exact ⟨20, ρ, τ, rfl, by rw [show i = 20 by omega], agT.refl _, agH.refl _⟩
  | succ m ih =>
    intro n n' i Y ρ τ hn hn' hi i0 ld fl hY hY2
    obtain ⟨x, rfl⟩ : ∃ x, n = x + 1 := ⟨n - 1, by omega⟩
    obtain ⟨x', rfl⟩ : ∃ x, n' = x + 1 := ⟨n' - 1, by omega⟩
    have bd := ld.1.1.bd
    obtain ⟨ρ2, τ2, p1, p2, p3, p4, p5⟩ := passR0 (by omega : 3 < 25) ld fl (by omega)
    have ld2 : LdR W H fm ρ2 τ2 := ld.ah p4 p5
    obtain ⟨τ3, b1, b2, b3, b4, -⟩ := bedNowR ld2 p3 (by omega)
    have ld3 : LdR W H fm ρ2 τ3 := ld2.agB b2
    have fl3 := p3.agB b2
    have ag3 : agH τ τ3 := agH.trans p5 b2.agH
    have hC : L_X8_stands_49 (x + 1) c i ρ = (if bt (ρ2 25 4) c = 0 then some (i, ρ2) else L_X8_stands_49 x c (i + 1) ρ2) := by
      rw [L_X8_stands_49, ckp (by omega), if_neg (by omega), p1, Option.bind_some, has_eq (by omega), Option.bind_some]
      rfl
    have hM : L_X9_stands_32 K (x' + 1) c i 1 τ = (if bt (ρ2 25 4) c = 1 then L_X9_stands_32 K x' c (i + 1) 1 τ3 else L_X9_stands_32 K x' c (i + 0) 0 τ3) := by
      rw [L_X9_stands_32, ckp (by decide), i10, ckp (by omega), if_neg (by omega), p2, Option.bind_some]
      unfold f_X9_bedNow
      rw [b1, Option.bind_some, bn2_of, b4]
      rfl
    rw [hC, hM]
    rcases bt_01 (ρ2 25 4) c (by omega) with e | e
    · rw [e, i00, if_neg (by decide), Int.add_zero]
      obtain ⟨x2, rfl⟩ : ∃ x2, x' = x2 + 1 := ⟨x' - 1, by omega⟩
      rw [L_X9_stands_32, ckp (by decide), i00]
      exact ⟨i, ρ2, τ3, rfl, rfl, p4, ag3⟩
    · rw [e, i10, if_pos rfl]
      obtain ⟨r, ρ', τ', g1, g2, g3, g4⟩ := ih x x' (i + 1) (Y + 1) ρ2 τ3 (by omega) (by omega) (by omega) (by omega) ld3 fl3 (by omega) (by omega)
      exact ⟨r, ρ', τ', g1, g2, agT.trans p4 g3, ag3.trans g4⟩
/-- what was marked comes back -/
theorem RelW.again {W H fm : Int} {ρ τ ρ' τ' τ1 : pm} (hr : RelW W H fm ρ τ) (c : agT ρ ρ') (d2 : ∀ q, q ≠ 72 → τ1 q = τ q) (d3 : ∀ j, 0 ≤ j → j < 25 → τ1 72 j = τ 63 j) (a : agH τ1 τ') : ∃ τ2, f_X9_returns τ' = some τ2 ∧ RelW W H fm ρ' τ2 := by
  obtain ⟨τ2, v1, v2, v3, v4⟩ := returnsM τ'
  refine ⟨τ2, v1, hr.trial c (fun q hq => by rw [v2 q (by omega), a.1 q (by omega) (by omega) (by omega), d2 q (by omega)]) (fun j b1 b2 => by rw [v2 62 (by omega), a.2.1 j b1 b2, d2 62 (by omega)]) (fun j => ?_)⟩
  by_cases e : 0 ≤ j ∧ j < 25
  · rw [v3 j e.1 e.2, a.1 72 (by omega) (by omega) (by omega), d3 j e.1 e.2]
  · rw [v4 j (by omega), a.2.2 j (by omega), d2 63 (by omega)]
section Calls
variable {ρ τ : pm}
theorem k_stands (h : Rel ρ τ) {c : Int} (hc : inR c) : ∃ r ρ' τ', f_X8_stands c ρ = some (r, ρ') ∧ f_X9_stands c τ = some (r, τ') ∧ Rel ρ' τ' := by
  obtain ⟨W, H, fm, hr⟩ := h
  obtain ⟨a1, a2, a3, -⟩ := id hr
  have m1 := a3.1
  have bd := a1.1.1.bd
  unfold f_X8_stands f_X9_stands
  by_cases k : 0 ≤ c ∧ c < W * H
  · rw [hasCell_yes a1.1 k, isCell_yes a1.2.1 k, Option.bind_some, Option.bind_some, i10, i10, has_eq (by omega), Option.bind_some]
    obtain ⟨τ1, b1, b2, b3, b4, -⟩ := bedNowR a1 a2 (by omega)
    unfold f_X9_bedNow
    rw [b1, Option.bind_some, bn2_of, b4]
    change ∃ r ρ' τ', _ ∧ (if bt (ρ 8 4) c = 0 then _ else _) = _ ∧ _
    have hr1 : RelW W H fm ρ τ1 := hr.ag (agC.refl _) b2.agM
    by_cases e : bt (ρ 8 4) c = 0
    · rw [if_pos e, if_pos e]
      exact ⟨_, _, _, rfl, rfl, W, H, fm, hr1⟩
    · rw [if_neg e, if_neg e]
      obtain ⟨ρ1, c1, c2, c3, c4⟩ := trialR hr1
      obtain ⟨τ2, d1, d2, d3⟩ := marksM τ1
      have fl2 : FlR W H (ρ 4 4) ρ1 τ2 25 0 := c3.keep rfl rfl rfl (fun j _ _ => by rw [d2 63 (by omega)])
      have ld2 : LdR W H fm ρ1 τ2 := c4.keep rfl rfl rfl (by rw [d2 62 (by omega)]) (by rw [d2 62 (by omega)]) (by rw [d2 62 (by omega)]) (d2 65 (by omega))
      obtain ⟨r, ρ3, τ3, g1, g2, g3, g4⟩ := standsR (K := fun (l2 : Int) (ρ : pm) => (f_X9_returns ρ).bind (fun ρ13 => some (l2, ρ13))) k 20 fu fu 0 (ρ 4 4) ρ1 τ2 (by unfold fu; omega) (by unfold fu; omega) (by omega) (by omega) ld2 fl2 (by omega) (by omega)
      obtain ⟨τ4, v1, v2⟩ := hr1.again (agT.trans c2 g3) d2 d3 g4
      rw [c1, Option.bind_some, g1, d1, Option.bind_some, g2, v1, Option.bind_some]
      exact ⟨_, _, _, rfl, rfl, W, H, fm, v2⟩
  · rw [hasCell_no a1.1 hc k, isCell_no a1.2.1 hc k, Option.bind_some, Option.bind_some, i00, i00]
    exact ⟨_, _, _, rfl, rfl, W, H, fm, hr⟩
end Calls
/-! judge() -/
theorem judgeS_loop {w : Int} {K : Int → pm → Option (Int × pm)} : ∀ (m n : Nat) (c : Int) (τ : pm), m + 1 ≤ n → c + (m : Int) = 25 → 0 ≤ c → ∃ τ', L_X9_judge_14 K n w c τ = K w τ' ∧ (∀ q, q ≠ 73 → τ' q = τ q) ∧ (∀ j, c ≤ j → j < 25 → τ' 73 j = τ 63 j) ∧ (∀ j, j < c → τ' 73 j = τ 73 j) := by
  intro m
  induction m with
  | zero =>
    intro n c τ hn hc c0
    obtain ⟨x, rfl⟩ : ∃ x, n = x + 1 := ⟨n - 1, by omega⟩
    rw [L_X9_judge_14, ckp (by omega), if_pos (by omega)]
    exact ⟨τ, rfl, fun _ _ => rfl, fun j j0 j1 => by omega, fun _ _ => rfl⟩
  | succ m ih =>
    intro n c τ hn hc c0
    obtain ⟨x, rfl⟩ : ∃ x, n = x + 1 := ⟨n - 1, by omega⟩
    rw [L_X9_judge_14, ckp (by omega), if_neg (by omega), ckp (by omega), ckp (by omega)]
    dsimp only [jn]
    obtain ⟨τ', g1, g2, g3, g4⟩ := ih x (c + 1) (pup τ 73 c (τ 63 c)) (by omega) (by omega) (by omega)
    refine ⟨τ', g1, fun q hq => by rw [g2 q hq, pup_ne hq], fun j j0 j1 => ?_, fun j hj => by rw [g4 j (by omega), pup_off (by omega)]⟩
    by_cases e : j = c
    · rw [g4 j (by omega), e, pup_at]
    · rw [g3 j (by omega) j1, pup_ne (by omega)]
theorem judgeB_loop {w a b : Int} {K : Int → Int → Int → pm → Option (Int × pm)} : ∀ (m n : Nat) (c : Int) (τ : pm), m + 1 ≤ n → c + (m : Int) = 25 → 0 ≤ c → ∃ τ', L_X9_judge_133 K n w a b c τ = K w a b τ' ∧ (∀ q, q ≠ 63 → τ' q = τ q) ∧ (∀ j, c ≤ j → j < 25 → τ' 63 j = τ 73 j) ∧ (∀ j, (j < c ∨ 25 ≤ j) → τ' 63 j = τ 63 j) := by
  intro m
  induction m with
  | zero =>
    intro n c τ hn hc c0
    obtain ⟨x, rfl⟩ : ∃ x, n = x + 1 := ⟨n - 1, by omega⟩
    rw [L_X9_judge_133, ckp (by omega), if_pos (by omega)]
    exact ⟨τ, rfl, fun _ _ => rfl, fun j j0 j1 => by omega, fun _ _ => rfl⟩
  | succ m ih =>
    intro n c τ hn hc c0
    obtain ⟨x, rfl⟩ : ∃ x, n = x + 1 := ⟨n - 1, by omega⟩
    rw [L_X9_judge_133, ckp (by omega), if_neg (by omega), ckp (by omega), ckp (by omega)]
    dsimp only [jn]
    obtain ⟨τ', g1, g2, g3, g4⟩ := ih x (c + 1) (pup τ 63 c (τ 73 c)) (by omega) (by omega) (by omega)
    refine ⟨τ', g1, fun q hq => by rw [g2 q hq, pup_ne hq], fun j j0 j1 => ?_, fun j hj => by rw [g4 j (by omega), pup_off (by omega)]⟩
    by_cases e : j = c
    · rw [g4 j (by omega), e, pup_at]
    · rw [g3 j (by omega) j1, pup_ne (by omega)]
/-- the class's end, as the reference has it: the year, the farm -/
theorem judgeR {W H fm w : Int} {ρ0 τ0 : pm} {KC : Int → Int → Int → pm → Option (Int × pm)} {KM : Int → Int → Int → pm → Option (Int × pm)} (hw : inR w) (mi : MiR ρ0 τ0 4 0) (hKC : ∀ (i f : Int) (ρ : pm), 0 ≤ f → f < 3 → (∀ q, q ≠ 25 → q ≠ 26 → q ≠ 27 → ρ q = ρ0 q) → KC w i f ρ = some (if w = 0 then i else if f < fm then f else -4, ρ)) : ∀ (m n n' : Nat) (i Y : Int) (ρ τ : pm), m + 1 ≤ n → m + 2 ≤ n' → i + (m : Int) = ρ0 4 5 → 0 ≤ i → agT ρ0 ρ → (∀ j, 25 ≤ j → τ 63 j = τ0 63 j) → LdR W H fm ρ τ → FlR W H Y ρ τ 25 0 → 0 ≤ Y → Y + (m : Int) ≤ 2900 →
    ∃ a b ρ' τ', L_X8_judge_27 KC n w i ρ = some (if w = 0 then a else b, ρ') ∧ L_X9_judge_47 KM n' w (-4) (-4) i τ = KM w a b τ' ∧ agT ρ ρ' ∧ agH τ τ' := by
  intro m
  induction m with
  | zero =>
    intro n n' i Y ρ τ hn hn' hi i0 ag tg ld fl hY hY2
    obtain ⟨x, rfl⟩ : ∃ x, n = x + 1 := ⟨n - 1, by omega⟩
    obtain ⟨x', rfl⟩ : ∃ x, n' = x + 1 := ⟨n' - 1, by omega⟩
    have m3 := mi.2.2.1
    rw [Int.zero_add] at m3
    have e45 : ρ 4 5 = ρ0 4 5 := by rw [ag 4 (by omega) (by omega) (by omega)]
    have e32 : τ 63 32 = ρ0 4 5 := by rw [tg 32 (by omega)]; exact m3.2.2
    refine ⟨-4, -4, ρ, τ, ?_, ?_, agT.refl _, agH.refl _⟩
    · rw [L_X8_judge_27, e45, ckp (by omega), ckp (by omega), if_pos (by omega)]
      split <;> rfl
    · rw [L_X9_judge_47, e32, ckp (by omega), ckp (by omega), if_pos (by omega)]
  | succ m ih =>
    intro n n' i Y ρ τ hn hn' hi i0 ag tg ld fl hY hY2
    obtain ⟨x, rfl⟩ : ∃ x, n = x + 1 := ⟨n - 1, by omega⟩
    obtain ⟨x', rfl⟩ : ∃ x, n' = x + 1 := ⟨n' - 1, by omega⟩
    have m3 := mi.2.2.1
    have m4 := mi.2.2.2.1 i i0 (by omega)
    rw [Int.zero_add] at m3
    have e45 : ρ 4 5 = ρ0 4 5 := by rw [ag 4 (by omega) (by omega) (by omega)]
    have e32 : τ 63 32 = ρ0 4 5 := by rw [tg 32 (by omega)]; exact m3.2.2
    have ey : ρ 6 i = ρ0 6 i := by rw [ag 6 (by omega) (by omega) (by omega)]
    have ty : τ 63 (33 + i) = ρ0 6 i := by rw [tg (33 + i) (by omega)]; have := m4.1; rw [Int.zero_add] at this; exact this
    obtain ⟨y, ely⟩ : ∃ y, y = ρ0 6 i := ⟨_, rfl⟩
    have hy : 0 ≤ y ∧ y ≤ 17575 := by rw [ely]; exact ⟨m4.2.1, m4.2.2⟩
    rw [← ely] at ey ty
    obtain ⟨B, τ1, r1, r2, r3, r4⟩ := refR ld fl (by omega) hy
    have hfm := ld.2.2.2.2.1
    have h4' : τ1 62 4 = fm := by rw [r3.fld (by omega) (by omega)]; exact ld.2.2.2.1
    have hRf : inR (rfs B (-1)) ∧ inR (rfs B 3) := by rcases rfs_cases B with z | z <;> omega
    have hC : L_X8_judge_27 KC (x + 1) w i ρ = (if rfs B (-1) < 0 then (f_X2_pass 25 y ρ).bind (fun ρ8 => L_X8_judge_27 KC x w (i + 1) ρ8) else KC w i (rfs B (-1)) ρ) := by
      rw [L_X8_judge_27, e45, ckp (by omega), ckp (by omega), if_neg (by omega), if_neg (by omega), ckp (by omega), ey, r1, Option.bind_some, ckp hRf.1]
      rfl
    have hM : L_X9_judge_47 KM (x' + 1) w (-4) (-4) i τ = (if rfs B 3 = 3 then (f_X9_goes (τ1 63 (33 + i)) τ1).bind (fun ρ18 => L_X9_judge_47 KM x' w (-4) (-4) (i + 1) ρ18) else ck (inR (τ1 62 4)) (if τ1 62 4 ≤ rfs B 3 then L_X9_judge_47 KM x' w i (-4) (i + 1) τ1 else L_X9_judge_47 KM x' w i (rfs B 3) (i + 1) τ1)) := by
      rw [L_X9_judge_47, e32, ckp (by omega), ckp (by omega), if_neg (by omega), ckp (by decide), if_pos rfl, ckp (by omega), ty, r2, bn2_of, ckp hRf.2]
      rfl
    rw [hC, hM]
    rcases rfs_cases B with ⟨z1, z2⟩ | ⟨z1, z2, z3⟩
    · rw [z1, z2, if_pos (by decide), if_pos rfl]
      have ty1 : τ1 63 (33 + i) = y := by rw [r3.cell (by omega) (by omega)]; exact ty
      rw [ty1]
      obtain ⟨ρ2, τ2, p1, p2, p3, p4, p5⟩ := passR' (by omega : 3 < 25) (ld.agB r3) (fl.agB r3) (by omega) hy (r4 (by omega))
      have p5' : agH τ1 τ2 := p5
      have ag2 : agH τ τ2 := r3.agH.trans p5'
      rw [p1, p2, Option.bind_some, Option.bind_some]
      obtain ⟨a, b, ρ', τ', g1, g2, g3, g4⟩ := ih x x' (i + 1) (Y + 1) ρ2 τ2 (by omega) (by omega) (by omega) (by omega) (agT.trans ag p4) (fun j hj => by rw [ag2.2.2 j (Or.inr hj)]; exact tg j hj) ((ld.agB r3).ah p4 p5') p3 (by omega) (by omega)
      exact ⟨a, b, ρ', τ', g1, g2, agT.trans p4 g3, ag2.trans g4⟩
    · rw [if_neg (by omega), z3, if_neg (show ¬ rfs B (-1) = 3 by omega), h4', ckp (by omega), hKC i _ ρ z1 z2 ag]
      obtain ⟨x2, rfl⟩ : ∃ x2, x' = x2 + 1 := ⟨x' - 1, by omega⟩
      have e32' : τ1 63 32 = ρ0 4 5 := by rw [r3.cell (by omega) (by omega)]; exact e32
      have fin : ∀ b, L_X9_judge_47 KM (x2 + 1) w i b (i + 1) τ1 = KM w i b τ1 := by
        intro b
        rw [L_X9_judge_47, e32', ckp (by omega), ckp (by omega)]
        by_cases e : ρ0 4 5 ≤ i + 1
        · rw [if_pos e]
        · rw [if_neg e, ckp (by omega), if_neg (by omega)]
      by_cases e : fm ≤ rfs B (-1)
      · rw [if_pos e, fin]
        refine ⟨i, -4, ρ, τ1, ?_, rfl, agT.refl _, r3.agH⟩
        rw [if_neg (show ¬ rfs B (-1) < fm by omega)]
      · rw [if_neg e, fin]
        refine ⟨i, rfs B (-1), ρ, τ1, ?_, rfl, agT.refl _, r3.agH⟩
        rw [if_pos (show rfs B (-1) < fm by omega)]
theorem k_judge {ρ τ : pm} (h : Rel ρ τ) {w : Int} (hw : inR w) : ∃ r ρ' τ', f_X8_judge w ρ = some (r, ρ') ∧ f_X9_judge w τ = some (r, τ') ∧ Rel ρ' τ' := by
  obtain ⟨W, H, fm, hr⟩ := h
  obtain ⟨a1, a2, a3, -⟩ := id hr
  have m1 := a3.1
  have m3 := a3.2.2.1
  unfold f_X8_judge f_X9_judge
  simp only [ckp hw]
  by_cases c : 0 ≤ w ∧ w ≤ 1
  · rw [if_neg (by omega), if_pos c.2, in_yes (L_of_R hw) (by omega) (by omega) c, Option.bind_some, i10]
    obtain ⟨ρ1, c1, c2, c3, c4⟩ := trialR hr
    obtain ⟨τ1, s1, s2, s3, -⟩ := judgeS_loop (w := w) (K := fun (l1 : Int) (ρ : pm) => L_X9_judge_47 (fun (l1 l2 l3 : Int) (ρ : pm) => L_X9_judge_133 (fun (l1 l2 l3 : Int) (ρ : pm) => ck (inR l1) (if l1 = 0 then some (l2, ρ) else some (l3, ρ))) fu l1 l2 l3 0 ρ) fu l1 (-4) (-4) 0 ρ) 25 fu 0 τ (by unfold fu; omega) (by omega) (by omega)
    have fl2 : FlR W H (ρ 4 4) ρ1 τ1 25 0 := c3.keep rfl rfl rfl (fun j _ _ => by rw [s2 63 (by omega)])
    have ld2 : LdR W H fm ρ1 τ1 := c4.keep rfl rfl rfl (by rw [s2 62 (by omega)]) (by rw [s2 62 (by omega)]) (by rw [s2 62 (by omega)]) (s2 65 (by omega))
    have h4 : ρ 1 4 = fm := a1.2.2.1
    have hfm := a1.2.2.2.2.1
    obtain ⟨a, b, ρ3, τ3, g1, g2, g3, g4⟩ := judgeR (fm := fm) (w := w) (KC := fun (l1 l2 l3 : Int) (ρ : pm) => ck (inR l1) (if l1 = 0 then some (l2, ρ) else (f_X3_hasFarm l3 ρ).bind (fun v11 => if v11 = 0 then some ((-4), ρ) else some (l3, ρ)))) (KM := fun (l1 l2 l3 : Int) (ρ : pm) => L_X9_judge_133 (fun (l1 l2 l3 : Int) (ρ : pm) => ck (inR l1) (if l1 = 0 then some (l2, ρ) else some (l3, ρ))) fu l1 l2 l3 0 ρ) hw a3 (fun i f ρ' f0 f1 hρ => by
      have h4'' : ρ' 1 4 = fm := by rw [hρ 1 (by omega) (by omega) (by omega)]; exact h4
      rw [ckp hw]
      by_cases e : w = 0
      · rw [if_pos e, if_pos e]
      · rw [if_neg e, if_neg e]
        by_cases e2 : f < fm
        · rw [hasFarm_yes h4'' hfm ⟨f0, e2⟩, Option.bind_some, i10, if_pos e2]
        · rw [hasFarm_no (by omega) h4'' hfm (by omega), Option.bind_some, i00, if_neg e2]) (ρ 4 5).toNat fu fu 0 (ρ 4 4) ρ1 τ1 (by unfold fu; omega) (by unfold fu; omega) (by omega) (by omega) c2 (fun j hj => by rw [s2 63 (by omega)]) ld2 fl2 (by omega) (by omega)
    obtain ⟨τ4, v1, v2, v3, v4⟩ := judgeB_loop (w := w) (a := a) (b := b) (K := fun (l1 l2 l3 : Int) (ρ : pm) => ck (inR l1) (if l1 = 0 then some (l2, ρ) else some (l3, ρ))) 25 fu 0 τ3 (by unfold fu; omega) (by omega) (by omega)
    have hK : L_X8_judge_27 (fun (l1 l2 l3 : Int) (ρ : pm) => ck (inR l1) (if l1 = 0 then some (l2, ρ) else (f_X3_hasFarm l3 ρ).bind (fun v11 => if v11 = 0 then some ((-4), ρ) else some (l3, ρ)))) fu w 0 ρ1 = _ := g1
    rw [c1, Option.bind_some, hK, s1, g2, v1, ckp hw]
    have hr4 : RelW W H fm ρ3 τ4 := hr.trial (agT.trans c2 g3) (fun q hq => by rw [v2 q (by omega), g4.1 q (by omega) (by omega) (by omega), s2 q (by omega)]) (fun j b1 b2 => by rw [v2 62 (by omega), g4.2.1 j b1 b2, s2 62 (by omega)]) (fun j => by
      by_cases e : 0 ≤ j ∧ j < 25
      · rw [v3 j e.1 e.2, g4.1 73 (by omega) (by omega) (by omega), s3 j e.1 e.2]
      · rw [v4 j (by omega), g4.2.2 j (by omega), s2 63 (by omega)])
    by_cases e : w = 0
    · rw [if_pos e, if_pos e]
      exact ⟨_, _, _, rfl, rfl, W, H, fm, hr4⟩
    · rw [if_neg e, if_neg e]
      exact ⟨_, _, _, rfl, rfl, W, H, fm, hr4⟩
  · rw [in_no (L_of_R hw) (by omega) (by omega) c, Option.bind_some, i00]
    refine ⟨-1, ρ, τ, ?_, rfl, W, H, fm, hr⟩
    by_cases c0 : w < 0
    · rw [if_pos c0]
    · rw [if_neg c0, if_neg (by omega)]
