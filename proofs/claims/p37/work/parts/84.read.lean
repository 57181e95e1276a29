/-! read() -/
theorem RelW.torn {W H fm : Int} {ρ τ : pm} (h : RelW W H fm ρ τ) (t : Int) : RelW W H fm (pup ρ 0 13 t) (pup τ 62 45 t) := by
  obtain ⟨a1, a2, a3, a4, a5, a6, a7, a8⟩ := h
  have c : ∀ q, q ≠ 0 → pup ρ 0 13 t q = ρ q := fun q hq => pup_ne hq
  have m : ∀ q, q ≠ 62 → pup τ 62 45 t q = τ q := fun q hq => pup_ne hq
  have m2 : ∀ j, j ≠ 45 → pup τ 62 45 t 62 j = τ 62 j := fun j hj => pup_off hj
  refine ⟨a1.keep (c _ (by omega)) (c _ (by omega)) (c _ (by omega)) (m2 _ (by omega)) (m2 _ (by omega)) (m2 _ (by omega)) (m _ (by omega)), ?_, a3.keep (c _ (by omega)) (c _ (by omega)) (c _ (by omega)) (c _ (by omega)) (fun j _ _ => by rw [m 63 (by omega)]), a4.keep (pup_off (by omega)) (fun q q0 q1 => c q (by omega)) (m _ (by omega)) (fun j _ _ => by rw [m 63 (by omega)]), a5.keep (c _ (by omega)) (c _ (by omega)) (c _ (by omega)) (m _ (by omega)) (m _ (by omega)) (m _ (by omega)), a6.keep (by rw [c 50 (by omega)]) (c _ (by omega)) (m2 _ (by omega)) (m _ (by omega)), by rw [pup_at, pup_at], a8.keep (c _ (by omega)) (c _ (by omega)) (fun q q0 q1 => c q (by omega)) (m _ (by omega))⟩
  rw [c 4 (by omega)]
  exact a2.keep (c _ (by omega)) (c _ (by omega)) (c _ (by omega)) (fun j _ _ => by rw [m 63 (by omega)])
/-- what a year may change -/
def agY (τ τ' : pm) : Prop := (∀ q, q ≠ 62 → q ≠ 63 → q ≠ 71 → τ' q = τ q) ∧ (∀ j, j ≠ 31 → j ≠ 32 → τ' 62 j = τ 62 j) ∧ ∀ j, (j < 0 ∨ 25 ≤ j) → j ≠ 31 → τ' 63 j = τ 63 j
theorem agY.refl (τ : pm) : agY τ τ := ⟨fun _ _ _ _ => rfl, fun _ _ _ => rfl, fun _ _ _ => rfl⟩
theorem agY.trans {a b c : pm} (h1 : agY a b) (h2 : agY b c) : agY a c := ⟨fun q x y z => (h2.1 q x y z).trans (h1.1 q x y z), fun j x y => (h2.2.1 j x y).trans (h1.2.1 j x y), fun j x y => (h2.2.2 j x y).trans (h1.2.2 j x y)⟩
theorem agB.agY {a b : pm} (h : agB a b) : agY a b := ⟨fun _ x _ z => h.cell x z, fun _ x y => h.fld x y, fun _ _ _ => by rw [h.cell (by omega) (by omega)]⟩
theorem yearT {W H fm Y v : Int} {ρ τ : pm} (ld : LdR W H fm ρ τ) (fl : FlR W H Y ρ τ 25 0) (hY : 0 ≤ Y ∧ Y ≤ 999) (h31 : τ 63 31 = Y) (hv : inR v) :
    (∃ e e' τ', f_X8_refusal 25 v Y ρ = some e ∧ e ≠ 0 ∧ inR e ∧ f_X9_year v τ = some (e', τ') ∧ e' < 0 ∧ inR e' ∧ agY τ τ') ∨
    (∃ b ρ' τ', f_X8_refusal 25 v Y ρ = some 0 ∧ Y < 999 ∧ f_X2_pass 25 v ρ = some ρ' ∧ f_X9_year v τ = some (b, τ') ∧ 0 ≤ b ∧ inR b ∧ LdR W H fm ρ' τ' ∧ FlR W H (Y + 1) ρ' τ' 25 0 ∧ τ' 63 31 = Y + 1 ∧ agT ρ ρ' ∧ agY τ τ') := by
  unfold f_X9_year
  by_cases c : 0 ≤ v ∧ v ≤ 17575
  · obtain ⟨B, τ1, r1, r2, r3, r4⟩ := refR ld fl (by omega) c
    rw [refusal_eq c (by omega) r1, isYear_yes c, Option.bind_some, i10, canBeM r2, bn2_of]
    have e31 : τ1 63 31 = Y := by rw [r3.cell (by omega) (by omega)]; exact h31
    by_cases cb : rfs B (-1) < 0
    · rw [if_pos cb, if_pos cb, i10, e31, ckp (show inR Y by omega)]
      by_cases cy : Y < 999
      · right
        rw [if_pos cy, if_neg (show ¬ Y = 999 by omega)]
        obtain ⟨ρ2, τ2, p1, p2, p3, p4, p6, p7, p8⟩ := passR' (y := v) (by omega : 3 < 25) (ld.agB r3) (fl.agB r3) (by omega) c (r4 cb)
        have t31 : τ2 63 31 = Y := by rw [p8 31 (by omega)]; exact e31
        rw [p2, Option.bind_some]
        dsimp only [jn]
        rw [t31]
        have ld2 : LdR W H fm ρ2 τ2 := (ld.agB r3).step p4 p6 p7
        have fl3 : FlR W H (Y + 1) ρ2 (pup τ2 63 31 (Y + 1)) 25 0 := p3.keep rfl rfl rfl (fun j j0 j1 => pup_off (by omega))
        have ld3 : LdR W H fm ρ2 (pup τ2 63 31 (Y + 1)) := ld2.keep rfl rfl rfl (by rw [pup_ne (by omega)]) (by rw [pup_ne (by omega)]) (by rw [pup_ne (by omega)]) (pup_ne (by omega))
        obtain ⟨τ3, b1, b2, b3, -, -, b4, b5⟩ := bedNowR ld3 fl3 (by omega)
        rw [b1, Option.bind_some, b3]
        refine ⟨_, ρ2, τ3, rfl, cy, p1, rfl, by omega, by omega, ld3.agB b2, fl3.agB b2, by rw [b2.cell (by omega) (by omega), pup_at], p4, ?_⟩
        have y1 : agY τ1 τ2 := ⟨p6, p7, fun j x _ => p8 j x⟩
        have y2 : agY τ2 (pup τ2 63 31 (Y + 1)) := ⟨fun q _ x _ => pup_ne x, fun j _ _ => by rw [pup_ne (by omega)], fun j _ x => pup_off x⟩
        exact (r3.agY.trans y1).trans (y2.trans b2.agY)
      · left
        rw [if_neg cy, if_pos (show Y = 999 by omega)]
        exact ⟨_, _, _, rfl, by decide, by decide, rfl, by decide, by decide, r3.agY⟩
    · left
      rw [if_neg cb, if_neg cb, i00]
      exact ⟨_, _, _, rfl, by decide, by decide, rfl, by decide, by decide, r3.agY⟩
  · left
    rw [refusal_no hv c, isYear_no hv c, Option.bind_some, i00]
    exact ⟨_, _, _, rfl, by decide, by decide, rfl, by decide, by decide, agY.refl _⟩
/-- what stops a reading -/
def rdF (ρ : pm) (k l p : Int) : Int := if ρ 59 k < 0 then 1 else if ρ 58 k = l then (if p < 0 then 2 else if p < ρ 59 k then 0 else 2) else 3
theorem rdF_bd (ρ : pm) (k l p : Int) : 0 ≤ rdF ρ k l p ∧ rdF ρ k l p ≤ 3 := by
  unfold rdF
  repeat' split
  all_goals omega
theorem rdF_0 {ρ : pm} {k l p : Int} (h : rdF ρ k l p = 0) : 0 ≤ ρ 59 k ∧ 0 ≤ p ∧ p < ρ 59 k := by
  unfold rdF at h
  split at h
  · omega
  · split at h
    · split at h
      · omega
      · split at h
        · omega
        · omega
    · omega
theorem takeFault_eq {ρ τ : pm} {k l p : Int} (sh : ShR ρ τ) (hk : 0 ≤ k ∧ k < 4) (hl : inR l) (hp : inR p) : f_X5_takeFault k l p ρ = some (rdF ρ k l p) := by
  have s := sh.1 k hk.1 hk.2
  unfold f_X5_takeFault f_X5_reachFault rdF
  dsimp only [jn]
  rcases s with ⟨e1, e2⟩ | ⟨b1, b2, b3, b4, b5, b6⟩
  · rw [e1, ckp hk, ckp (by decide), if_pos (by decide), ckp hk, ckp (by decide), if_neg (by decide), Option.bind_some, if_pos (by decide)]
  · rw [ckp hk, ckp (by omega), if_neg (show ¬ ρ 59 k < 0 by omega), if_neg (show ¬ ρ 59 k < 0 by omega), ckp (by omega), ckp hl]
    by_cases c : ρ 58 k = l
    · rw [if_pos c, if_pos c, ckp hk, ckp (by omega), if_pos b1, ckp hp]
      by_cases c1 : p < 0
      · rw [if_pos c1, if_pos c1, Option.bind_some]
      · rw [if_neg c1, if_neg c1]
        by_cases c2 : p < ρ 59 k
        · rw [if_pos c2, if_pos c2, Option.bind_some]
        · rw [if_neg c2, if_neg c2, Option.bind_some]
    · rw [if_neg c, if_neg c]
/-- both loops -/
theorem readR {W H fm k l a N : Int} {ρ0 τ0 : pm} {KC : Int → Int → pm → Option (Int × pm)} {KM : Int → Int → pm → Option (Int × pm)} (sh : ShR ρ0 τ0) (hk : 0 ≤ k ∧ k < 4) (hl : inR l) (ha : inR a) (hN : 0 ≤ N ∧ N ≤ 20)
    (hKC : ∀ i t ρ τ, 0 ≤ i → ρ0 4 4 + i ≤ 999 → LdR W H fm ρ τ → FlR W H (ρ0 4 4 + i) ρ τ 25 0 → τ 63 31 = ρ0 4 4 + i → agT ρ0 ρ → agY τ0 τ → ∃ ρ', KC i t ρ = some (i, ρ') ∧ RelW W H fm ρ' (pup τ 62 45 t))
    (hKM : ∀ i ρ τ, agT ρ0 ρ → agY τ0 τ → ∃ τ', KM (ρ0 4 4) i τ = some ((-20) - i, τ') ∧ RelW W H fm ρ τ') :
    ∀ (m n n' : Nat) (i : Int) (ρ τ : pm), m + 1 ≤ n → m + 1 ≤ n' → i + (m : Int) = N → 0 ≤ i → inR (a + i) → 0 ≤ ρ0 4 4 → ρ0 4 4 + i ≤ 999 → LdR W H fm ρ τ → FlR W H (ρ0 4 4 + i) ρ τ 25 0 → τ 63 31 = ρ0 4 4 + i → agT ρ0 ρ → agY τ0 τ →
    ∃ r ρ' τ', L_X8_read_59 KC n k l a N i 0 i ρ = some (r, ρ') ∧ L_X9_read_71 KM n' k l a N (ρ0 4 4) 0 i i τ = some (r, τ') ∧ RelW W H fm ρ' τ' := by
  intro m
  induction m with
  | zero =>
    intro n n' i ρ τ hn hn' hi i0 hai hY0 hY ld fl h31 aC aM
    obtain ⟨x, rfl⟩ : ∃ x, n = x + 1 := ⟨n - 1, by omega⟩
    obtain ⟨x', rfl⟩ : ∃ x, n' = x + 1 := ⟨n' - 1, by omega⟩
    obtain ⟨ρ', k1, k2⟩ := hKC i 0 ρ τ i0 hY ld fl h31 aC aM
    refine ⟨i, ρ', pup τ 62 45 0, ?_, ?_, k2⟩
    · rw [L_X8_read_59, ckp (by omega), ckp (by omega), if_pos (by omega)]; exact k1
    · rw [L_X9_read_71, ckp (by omega), ckp (by omega), if_pos (by omega)]; rfl
  | succ m ih =>
    intro n n' i ρ τ hn hn' hi i0 hai hY0 hY ld fl h31 aC aM
    obtain ⟨x, rfl⟩ : ∃ x, n = x + 1 := ⟨n - 1, by omega⟩
    obtain ⟨x', rfl⟩ : ∃ x, n' = x + 1 := ⟨n' - 1, by omega⟩
    have e59 : ρ 59 = ρ0 59 := aC 59 (by omega) (by omega) (by omega)
    have e58 : ρ 58 = ρ0 58 := aC 58 (by omega) (by omega) (by omega)
    have e60 : ρ 60 = ρ0 60 := aC 60 (by omega) (by omega) (by omega)
    have e44 : ρ 4 = ρ0 4 := aC 4 (by omega) (by omega) (by omega)
    have t81 : τ 81 = τ0 81 := aM.1 81 (by omega) (by omega) (by omega)
    have t82 : τ 82 = τ0 82 := aM.1 82 (by omega) (by omega) (by omega)
    have t83 : τ 83 = τ0 83 := aM.1 83 (by omega) (by omega) (by omega)
    have sh1 : ShR ρ τ := sh.keep e58 e59 e60 t81 t82 t83
    have tf := takeFault_eq sh1 hk hl hai
    have fb := rdF_bd ρ k l (a + i)
    obtain ⟨t, et⟩ : ∃ t, t = rdF ρ k l (a + i) := ⟨_, rfl⟩
    rw [← et] at tf fb
    -- the program
    have hC : L_X8_read_59 KC (x + 1) k l a N i 0 i ρ = if t = 0 then (f_X5_valueAt k (a + i) ρ).bind (fun v13 => (f_X8_refusal 25 v13 ((ρ 4 4) + i) ρ).bind (fun v14 => ck (inR v14) (if v14 = 0 then (f_X2_pass 25 v13 ρ).bind (fun ρ16 => L_X8_read_59 KC x k l a N (i + 1) t (i + 1) ρ16) else some ((-20) - i, ρ)))) else L_X8_read_59 KC x k l a N i t (i + 1) ρ := by
      rw [L_X8_read_59, ckp (by omega), ckp (by omega), if_neg (by omega), ckp (by decide), if_pos rfl, tf, Option.bind_some, ckp (by omega)]
      rfl
    -- the reference
    have hM : L_X9_read_71 KM (x' + 1) k l a N (ρ0 4 4) 0 i i τ = if t = 0 then ck (0 ≤ ((40 * k) + a) + i ∧ ((40 * k) + a) + i < 160) (bn2 (f_X9_year (τ 83 (((40 * k) + a) + i)) τ) (fun v24 ρ25 => ck (inR v24) (if 0 ≤ v24 then L_X9_read_71 KM x' k l a N (ρ0 4 4) t (i + 1) (i + 1) ρ25 else KM (ρ0 4 4) i ρ25))) else L_X9_read_71 KM x' k l a N (ρ0 4 4) t i (i + 1) τ := by
      have s := sh1.1 k hk.1 hk.2
      rw [L_X9_read_71, ckp (by omega), ckp (by omega), if_neg (by omega), ckp (by decide), if_pos rfl, ckp ha]
      dsimp only [jn]
      rw [ckp hk]
      unfold rdF at et
      rcases s with ⟨e1, e2⟩ | ⟨b1, b2, b3, b4, b5, b6⟩
      · rw [e1, if_pos (by decide)] at et
        rw [e2, ckp (by decide), if_pos rfl, ckp (by decide), et]
      · rw [if_neg (by omega)] at et
        rw [b6, ckp (by omega), if_neg (by omega), ckp hl]
        by_cases c : ρ 58 k = l
        · rw [if_pos c] at et
          rw [if_pos c, ckp (show inL (a + i) by omega)]
          by_cases c1 : a + i < 0
          · rw [if_pos c1] at et
            rw [if_pos (lcm_lt.mpr c1), ckp (by decide), et]
          · rw [if_neg c1] at et
            rw [if_neg (fun z => c1 (lcm_lt.mp z)), b3, ckp (by omega)]
            by_cases c2 : a + i < ρ 59 k
            · rw [if_pos c2] at et
              rw [if_pos (lcm_lt.mpr c2), ckp (by decide), et]
            · rw [if_neg c2] at et
              rw [if_neg (fun z => c2 (lcm_lt.mp z)), ckp (by decide), et]
        · rw [if_neg c] at et
          rw [if_neg c, ckp (by decide), et]
    rw [hC, hM]
    by_cases c : t = 0
    · rw [if_pos c, if_pos c, c]
      rw [c] at et
      obtain ⟨z1, z2, z3⟩ := rdF_0 et.symm
      have z4 : ρ 59 k ≤ 40 := by rcases sh1.1 k hk.1 hk.2 with ⟨e1, -⟩ | ⟨-, b2, -⟩ <;> omega
      have vv := sh1.2 (k * 40 + (a + i)) (by omega) (by omega)
      have v2 := vv.2 k hk.1 hk.2 (by omega) (by omega) z1
      rw [show 40 * k + a + i = k * 40 + (a + i) by omega, ckp (by omega), v2]
      unfold f_X5_valueAt
      rw [ckp (by omega), Option.bind_some, e44]
      rcases yearT ld fl (by omega) h31 vv.1 with ⟨e, e', τ', y1, y2, y3, y4, y5, y6, y7⟩ | ⟨b, ρ', τ', y1, y2, y3, y4, y5, y6, y7, y8, y9, y10, y11⟩
      · rw [y1, Option.bind_some, ckp y3, if_neg y2, y4, bn2_of, ckp y6, if_neg (by omega)]
        obtain ⟨τ2, k1, k2⟩ := hKM i ρ τ' aC (aM.trans y7)
        exact ⟨_, _, _, rfl, k1, k2⟩
      · rw [y1, Option.bind_some, ckp (by decide), i00, y3, Option.bind_some, y4, bn2_of, ckp y6, if_pos y5]
        rw [show ρ0 4 4 + i + 1 = ρ0 4 4 + (i + 1) by omega] at y8 y9
        exact ih x x' (i + 1) ρ' τ' (by omega) (by omega) (by omega) (by omega) (by omega) hY0 (by omega) y7 y8 y9 (aC.trans y10) (aM.trans y11)
    · rw [if_neg c, if_neg c]
      obtain ⟨w, rfl⟩ : ∃ w, x = w + 1 := ⟨x - 1, by omega⟩
      obtain ⟨w', rfl⟩ : ∃ w, x' = w + 1 := ⟨x' - 1, by omega⟩
      obtain ⟨ρ', k1, k2⟩ := hKC i t ρ τ i0 hY ld fl h31 aC aM
      refine ⟨i, ρ', pup τ 62 45 t, ?_, ?_, k2⟩
      · rw [L_X8_read_59, ckp (by omega), ckp (by omega)]
        by_cases d : N ≤ i + 1
        · rw [if_pos d]; exact k1
        · rw [if_neg d, ckp (by omega), if_neg c]; exact k1
      · rw [L_X9_read_71, ckp (by omega), ckp (by omega)]
        by_cases d : N ≤ i + 1
        · rw [if_pos d]; rfl
        · rw [if_neg d, ckp (by omega), if_neg c]; rfl
theorem saveM_loop {k l a N Y : Int} {K : Int → Int → Int → Int → Int → pm → Option (Int × pm)} : ∀ (m n : Nat) (c : Int) (τ : pm), m + 1 ≤ n → c + (m : Int) = 25 → 0 ≤ c → ∃ τ', L_X9_read_35 K n k l a N Y c τ = K k l a N Y τ' ∧ (∀ q, q ≠ 84 → τ' q = τ q) ∧ (∀ j, c ≤ j → j < 25 → τ' 84 j = τ 63 j) ∧ (∀ j, j < c → τ' 84 j = τ 84 j) := by
  intro m
  induction m with
  | zero =>
    intro n c τ hn hc c0
    obtain ⟨x, rfl⟩ : ∃ x, n = x + 1 := ⟨n - 1, by omega⟩
    rw [L_X9_read_35, ckp (by omega), if_pos (by omega)]
    exact ⟨τ, rfl, fun _ _ => rfl, fun j j0 j1 => by omega, fun _ _ => rfl⟩
  | succ m ih =>
    intro n c τ hn hc c0
    obtain ⟨x, rfl⟩ : ∃ x, n = x + 1 := ⟨n - 1, by omega⟩
    rw [L_X9_read_35, ckp (by omega), if_neg (by omega), ckp (by omega), ckp (by omega)]
    rw [jn_eq, jn_eq]
    obtain ⟨τ', g1, g2, g3, g4⟩ := ih x (c + 1) (pup τ 84 c (τ 63 c)) (by omega) (by omega) (by omega)
    refine ⟨τ', g1, fun q hq => by rw [g2 q hq, pup_ne hq], fun j j0 j1 => ?_, fun j hj => by rw [g4 j (by omega), pup_off (by omega)]⟩
    by_cases e : j = c
    · rw [g4 j (by omega), e, pup_at]
    · rw [g3 j (by omega) j1, pup_ne (by omega)]
theorem loadM_loop {i : Int} : ∀ (m n : Nat) (c : Int) (τ : pm), m + 1 ≤ n → c + (m : Int) = 25 → 0 ≤ c → ∃ τ', L_X9_read_185 n i c τ = some ((-20) - i, τ') ∧ (∀ q, q ≠ 63 → τ' q = τ q) ∧ (∀ j, c ≤ j → j < 25 → τ' 63 j = τ 84 j) ∧ (∀ j, (j < c ∨ 25 ≤ j) → τ' 63 j = τ 63 j) := by
  intro m
  induction m with
  | zero =>
    intro n c τ hn hc c0
    obtain ⟨x, rfl⟩ : ∃ x, n = x + 1 := ⟨n - 1, by omega⟩
    rw [L_X9_read_185, ckp (by omega), if_pos (by omega)]
    exact ⟨τ, rfl, fun _ _ => rfl, fun j j0 j1 => by omega, fun _ _ => rfl⟩
  | succ m ih =>
    intro n c τ hn hc c0
    obtain ⟨x, rfl⟩ : ∃ x, n = x + 1 := ⟨n - 1, by omega⟩
    rw [L_X9_read_185, ckp (by omega), if_neg (by omega), ckp (by omega), ckp (by omega)]
    rw [jn_eq, jn_eq]
    obtain ⟨τ', g1, g2, g3, g4⟩ := ih x (c + 1) (pup τ 63 c (τ 84 c)) (by omega) (by omega) (by omega)
    refine ⟨τ', g1, fun q hq => by rw [g2 q hq, pup_ne hq], fun j j0 j1 => ?_, fun j hj => by rw [g4 j (by omega), pup_off (by omega)]⟩
    by_cases e : j = c
    · rw [g4 j (by omega), e, pup_at]
    · rw [g3 j (by omega) j1, pup_ne (by omega)]
theorem k_read {ρ τ : pm} (h : Rel ρ τ) {k l a n : Int} (hk : inR k) (hl : inR l) (ha : inR a) (hn : inR n) : ∃ r ρ' τ', f_X8_read k l a n ρ = some (r, ρ') ∧ f_X9_read k l a n τ = some (r, τ') ∧ Rel ρ' τ' := by
  obtain ⟨W, H, fm, hr⟩ := h
  unfold f_X8_read f_X9_read
  by_cases c : 0 ≤ k ∧ k < 4
  · by_cases c1 : 0 ≤ l ∧ l < 3
    · rw [hasSheet_yes c, hasLane_yes c1, isSheet_yes c c1]
      simp only [Option.bind_some, i10, ckp hn]
      by_cases c2 : 0 ≤ n ∧ n ≤ 20
      · rw [if_neg (show ¬ n < 0 by omega), if_pos c2.2, in_yes (L_of_R hn) (by omega) (by omega) c2, Option.bind_some, i10, jn_eq]
        obtain ⟨ρ1, t1, t2, t3, t4⟩ := trialR hr
        obtain ⟨τ1, s1, s2, s3, -⟩ := saveM_loop (k := k) (l := l) (a := a) (N := n) (Y := τ 63 31) (K := fun (l1 l2 l3 l4 l5 : Int) (ρ : pm) => L_X9_read_71 (fun (l5 l8 : Int) (ρ : pm) => jn (pup ρ 63 31 l5) (fun ρ31 => L_X9_read_185 fu l8 0 ρ31)) fu l1 l2 l3 l4 l5 0 0 0 ρ) 25 fu 0 τ (by unfold fu; omega) (by omega) (by omega)
        rw [t1, Option.bind_some, s1]
        have hr1 : RelW W H fm ρ τ1 := hr.ag (agC.refl _) ⟨fun q hq => s2 q (by omega), fun j _ _ => by rw [s2 62 (by omega)]⟩
        obtain ⟨a1, a2, a3, a4, a5, a6, a7, a8⟩ := id hr1
        have m1 := a3.1
        rw [Int.zero_add] at m1
        have ld1 : LdR W H fm ρ1 τ1 := a1.keep (t2 _ (by omega) (by omega) (by omega)) (t2 _ (by omega) (by omega) (by omega)) (t2 _ (by omega) (by omega) (by omega)) rfl rfl rfl rfl
        have fl1 : FlR W H (ρ 4 4 + 0) ρ1 τ1 25 0 := by
          rw [Int.add_zero]
          exact t3.keep rfl rfl rfl (fun j _ _ => by rw [s2 63 (by omega)])
        have eY : τ 63 31 = ρ 4 4 := by rw [← s2 63 (by omega)]; exact m1.2.2
        rw [eY]
        obtain ⟨KC, eKC⟩ : ∃ KC : Int → Int → pm → Option (Int × pm), KC = fun (l5 l6 : Int) (ρ : pm) => (f_X2_copy 8 25 ρ).bind (fun ρ18 => jn (pup ρ18 4 4 ((ρ18 4 4) + l5)) (fun ρ19 => jn (pup ρ19 28 6 0) (fun ρ20 => jn (pup ρ20 0 13 l6) (fun ρ21 => some (l5, ρ21))))) := ⟨_, rfl⟩
        obtain ⟨KM, eKM⟩ : ∃ KM : Int → Int → pm → Option (Int × pm), KM = fun (l5 l8 : Int) (ρ : pm) => jn (pup ρ 63 31 l5) (fun ρ31 => L_X9_read_185 fu l8 0 ρ31) := ⟨_, rfl⟩
        rw [← eKC, ← eKM]
        have hKC : ∀ i t ρ' τ', 0 ≤ i → ρ 4 4 + i ≤ 999 → LdR W H fm ρ' τ' → FlR W H (ρ 4 4 + i) ρ' τ' 25 0 → τ' 63 31 = ρ 4 4 + i → agT ρ ρ' → agY τ1 τ' → ∃ ρ'', KC i t ρ' = some (i, ρ'') ∧ RelW W H fm ρ'' (pup τ' 62 45 t) := by
          intro i t ρ' τ' i0 hY ld fl h31 aC aM
          obtain ⟨ρ2, d1, d2, d3, d4⟩ := copyF (q := 8) (p := 25) (ρ := ρ') (by omega) fl.2.2.2.2.1.1
          have d44 : ρ2 4 4 = ρ 4 4 := by rw [d2 4 (by omega) (by omega) (by omega), aC 4 (by omega) (by omega) (by omega)]
          refine ⟨pup (pup (pup ρ2 4 4 (ρ 4 4 + i)) 28 6 0) 0 13 t, ?_, RelW.torn ?_ t⟩
          · rw [eKC]
            dsimp only [jn]
            rw [d1, Option.bind_some, d44]
          · obtain ⟨ρ3, e3⟩ : ∃ ρ3, ρ3 = pup (pup ρ2 4 4 (ρ 4 4 + i)) 28 6 0 := ⟨_, rfl⟩
            rw [← e3]
            have eo : ∀ q, q ≠ 4 → q ≠ 28 → ρ3 q = ρ2 q := fun q b1 b2 => by rw [e3, pup_ne b2, pup_ne b1]
            have eo2 : ∀ q, q ≠ 4 → q ≠ 28 → q ≠ 8 → q ≠ 9 → q ≠ 10 → q ≠ 25 → q ≠ 26 → q ≠ 27 → ρ3 q = ρ q := fun q b1 b2 b3 b4 b5 b6 b7 b8 => by rw [eo q b1 b2, d2 q b3 b4 b5, aC q b6 b7 b8]
            have e44 : ρ3 4 4 = ρ 4 4 + i := by rw [e3, pup_ne (by omega), pup_at]
            have e4 : ∀ j, j ≠ 4 → ρ3 4 j = ρ 4 j := fun j b => by rw [e3, pup_ne (by omega), pup_off b, d2 4 (by omega) (by omega) (by omega), aC 4 (by omega) (by omega) (by omega)]
            have fl2 : FlR W H (ρ 4 4 + i) ρ2 τ' 8 0 := fl.move ld.1.1 d3 d4 (fun _ _ _ => rfl)
            refine hr1.now (fun q hq => eo2 q (by omega) (by omega) (by omega) (by omega) (by omega) (by omega) (by omega) (by omega)) (fun q hq => aM.1 q (by omega) (by omega) (by omega)) aM.2.1 (fun j j0 j1 => aM.2.2 j (by omega) (by omega)) ?_ ?_ (Or.inl (by rw [e3, pup_at]))
            · rw [e44]
              exact fl2.keep (eo _ (by omega) (by omega)) (eo _ (by omega) (by omega)) (eo _ (by omega) (by omega)) (fun _ _ _ => rfl)
            · obtain ⟨n1, n2, n3, n4, n5, n6⟩ := a3
              unfold MiR
              have tt : ∀ j, 28 ≤ j → j ≠ 31 → τ' 63 j = τ1 63 j := fun j b1 b2 => aM.2.2 j (by omega) b2
              rw [e44, e4 5 (by omega), e4 6 (by omega), eo2 (4 + 1) (by omega) (by omega) (by omega) (by omega) (by omega) (by omega) (by omega) (by omega), eo2 (4 + 2) (by omega) (by omega) (by omega) (by omega) (by omega) (by omega) (by omega) (by omega), eo2 (4 + 3) (by omega) (by omega) (by omega) (by omega) (by omega) (by omega) (by omega) (by omega)]
              exact ⟨⟨by omega, by omega, by rw [Int.zero_add]; exact h31⟩, fun f f0 f1 => by rw [tt _ (by omega) (by omega)]; exact n2 f f0 f1, by rw [tt _ (by omega) (by omega)]; exact n3, fun i i0 i1 => by rw [tt _ (by omega) (by omega)]; exact n4 i i0 i1, by rw [tt _ (by omega) (by omega)]; exact n5, fun i i0 i1 => by rw [tt _ (by omega) (by omega), tt _ (by omega) (by omega)]; exact n6 i i0 i1⟩
        have hKM : ∀ i ρ' τ', agT ρ ρ' → agY τ1 τ' → ∃ τ'', KM (ρ 4 4) i τ' = some ((-20) - i, τ'') ∧ RelW W H fm ρ' τ'' := by
          intro i ρ' τ' aC aM
          obtain ⟨τ2, g1, g2, g3, g4⟩ := loadM_loop (i := i) 25 fu 0 (pup τ' 63 31 (ρ 4 4)) (by unfold fu; omega) (by omega) (by omega)
          refine ⟨τ2, ?_, hr1.trial aC (fun q hq => by rw [g2 q (by omega), pup_ne (by omega), aM.1 q (by omega) (by omega) (by omega)]) (fun j b1 b2 => by rw [g2 62 (by omega), pup_ne (by omega), aM.2.1 j b1 b2]) (fun j => ?_)⟩
          · rw [eKM]
            show jn (pup τ' 63 31 (ρ 4 4)) (fun ρ31 => L_X9_read_185 fu i 0 ρ31) = _
            rw [jn_eq]
            exact g1
          · by_cases e : 0 ≤ j ∧ j < 25
            · rw [g3 j e.1 e.2, pup_ne (by omega), aM.1 84 (by omega) (by omega) (by omega), s3 j e.1 e.2, s2 63 (by omega)]
            · rw [g4 j (by omega)]
              by_cases e1 : j = 31
              · rw [e1, pup_at]; exact m1.2.2.symm
              · rw [pup_off e1, aM.2.2 j (by omega) e1]
        obtain ⟨r, ρ', τ', x1, x2, x3⟩ := readR (KC := KC) (KM := KM) a5 c hl ha c2 hKC hKM n.toNat fu fu 0 ρ1 τ1 (by unfold fu; omega) (by unfold fu; omega) (by omega) (by omega) (by omega) (by omega) (by omega) ld1 fl1 (by rw [Int.add_zero]; exact m1.2.2) t2 (agY.refl _)
        exact ⟨r, ρ', τ', x1, x2, W, H, fm, x3⟩
      · rw [in_no (L_of_R hn) (by omega) (by omega) c2, Option.bind_some, i00]
        refine ⟨-1, ρ, τ, ?_, rfl, W, H, fm, hr⟩
        by_cases c3 : n < 0
        · rw [if_pos c3]
        · rw [if_neg c3, if_neg (by omega)]
    · rw [hasSheet_yes c, hasLane_no hl c1, isSheet_no2 c hl c1]
      exact ⟨_, _, _, rfl, rfl, W, H, fm, hr⟩
  · rw [hasSheet_no hk c, isSheet_no1 hk c]
    exact ⟨_, _, _, rfl, rfl, W, H, fm, hr⟩
