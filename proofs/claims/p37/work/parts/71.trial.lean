/-! years on trial -/
theorem marksM_loop : ∀ (m n : Nat) (c : Int) (τ : pm), m + 1 ≤ n → c + (m : Int) = 25 → 0 ≤ c → ∃ τ', L_X9_marks_2 n c τ = some τ' ∧ (∀ q, q ≠ 72 → τ' q = τ q) ∧ (∀ j, c ≤ j → j < 25 → τ' 72 j = τ 63 j) ∧ (∀ j, j < c → τ' 72 j = τ 72 j) := by
  intro m
  induction m with
  | zero =>
    intro n c τ hn hc c0
    obtain ⟨x, rfl⟩ : ∃ x, n = x + 1 := ⟨n - 1, by omega⟩
    rw [L_X9_marks_2, ckp (by omega), if_pos (by omega)]
    exact ⟨τ, rfl, fun _ _ => rfl, fun j j0 j1 => by omega, fun _ _ => rfl⟩
  | succ m ih =>
    intro n c τ hn hc c0
    obtain ⟨x, rfl⟩ : ∃ x, n = x + 1 := ⟨n - 1, by omega⟩
    rw [L_X9_marks_2, ckp (by omega), if_neg (by omega), ckp (by omega), ckp (by omega)]
    dsimp only [jn]
    obtain ⟨τ', g1, g2, g3, g4⟩ := ih x (c + 1) (pup τ 72 c (τ 63 c)) (by omega) (by omega) (by omega)
    refine ⟨τ', g1, fun q hq => by rw [g2 q hq, pup_ne hq], fun j j0 j1 => ?_, fun j hj => by rw [g4 j (by omega), pup_off (by omega)]⟩
    by_cases e : j = c
    · rw [g4 j (by omega), e, pup_at]
    · rw [g3 j (by omega) j1, pup_ne (by omega)]
theorem marksM (τ : pm) : ∃ τ', f_X9_marks τ = some τ' ∧ (∀ q, q ≠ 72 → τ' q = τ q) ∧ (∀ j, 0 ≤ j → j < 25 → τ' 72 j = τ 63 j) := by
  obtain ⟨τ', g1, g2, g3, -⟩ := marksM_loop 25 fu 0 τ (by unfold fu; omega) (by omega) (by omega)
  exact ⟨τ', g1, g2, g3⟩
theorem returnsM_loop : ∀ (m n : Nat) (c : Int) (τ : pm), m + 1 ≤ n → c + (m : Int) = 25 → 0 ≤ c → ∃ τ', L_X9_returns_2 n c τ = some τ' ∧ (∀ q, q ≠ 63 → τ' q = τ q) ∧ (∀ j, c ≤ j → j < 25 → τ' 63 j = τ 72 j) ∧ (∀ j, (j < c ∨ 25 ≤ j) → τ' 63 j = τ 63 j) := by
  intro m
  induction m with
  | zero =>
    intro n c τ hn hc c0
    obtain ⟨x, rfl⟩ : ∃ x, n = x + 1 := ⟨n - 1, by omega⟩
    rw [L_X9_returns_2, ckp (by omega), if_pos (by omega)]
    exact ⟨τ, rfl, fun _ _ => rfl, fun j j0 j1 => by omega, fun _ _ => rfl⟩
  | succ m ih =>
    intro n c τ hn hc c0
    obtain ⟨x, rfl⟩ : ∃ x, n = x + 1 := ⟨n - 1, by omega⟩
    rw [L_X9_returns_2, ckp (by omega), if_neg (by omega), ckp (by omega), ckp (by omega)]
    dsimp only [jn]
    obtain ⟨τ', g1, g2, g3, g4⟩ := ih x (c + 1) (pup τ 63 c (τ 72 c)) (by omega) (by omega) (by omega)
    refine ⟨τ', g1, fun q hq => by rw [g2 q hq, pup_ne hq], fun j j0 j1 => ?_, fun j hj => by rw [g4 j (by omega), pup_off (by omega)]⟩
    by_cases e : j = c
    · rw [g4 j (by omega), e, pup_at]
    · rw [g3 j (by omega) j1, pup_ne (by omega)]
theorem returnsM (τ : pm) : ∃ τ', f_X9_returns τ = some τ' ∧ (∀ q, q ≠ 63 → τ' q = τ q) ∧ (∀ j, 0 ≤ j → j < 25 → τ' 63 j = τ 72 j) ∧ (∀ j, (j < 0 ∨ 25 ≤ j) → τ' 63 j = τ 63 j) := by
  obtain ⟨τ', g1, g2, g3, g4⟩ := returnsM_loop 25 fu 0 τ (by unfold fu; omega) (by omega) (by omega)
  exact ⟨τ', g1, g2, g3, g4⟩
theorem cut1_out {h : Int → Int} {a j : Int} (ha : 0 ≤ a ∧ a < 26) (hj : j < 0 ∨ 25 ≤ j) : cut1 h a j = h j := by
  unfold cut1
  by_cases c : a ≤ 0
  · rw [if_pos c]
  · rw [if_neg c]; exact if_neg (by omega)
theorem passH_out {W H : Int} {h : Int → Int} {sp silt y j : Int} (hw : wh W H) (h0 : 0 ≤ sp) (h1 : sp < W * H) (hj : j < 0 ∨ 25 ≤ j) : passH W H h sp silt y j = h j := by
  have bd := hw.bd
  unfold passH
  obtain ⟨-, -, b3, b4, b5⟩ := bedW_ok (h := cutH h y) (fun _ => 0) hw h0 h1
  have ec : cutH h y j = h j := by
    unfold cutH
    rw [cut1_out (dig_bd y 2) hj, cut1_out (dig_bd y 1) hj, cut1_out (dig_bd y 0) hj]
  generalize bedT W H (cutH h y) sp = t at *
  by_cases c : silt = 0 ∨ t.1 < 4
  · rw [if_pos c, ec]
  · rw [if_neg c]
    have w1 := b3 1 (by omega) (by omega)
    have w2 := b3 2 (by omega) (by omega)
    have w3 := b3 3 (by omega) (by omega)
    have w4 := b3 (t.1 - 1) (by omega) (by omega)
    have s : ∀ (p : (Int → Int) × Int) (c : Int), 0 ≤ c → c < 25 → (sil1 p c).1 j = p.1 j := by
      intro p c hc0 hc
      unfold sil1
      split
      · rfl
      · exact if_neg (by omega)
    unfold silH
    unfold up1
    rw [if_neg (by omega), s _ _ (by omega) (by omega), s _ _ (by omega) (by omega), s _ _ (by omega) (by omega)]
    exact ec
/-- passR, with what stands outside of the plain -/
theorem passR' {W H fm Y y : Int} {ρ τ : pm} {q : Nat} (hq : 3 < q) (ld : LdR W H fm ρ τ) (fl : FlR W H Y ρ τ q 0) (hY : 0 ≤ Y ∧ Y ≤ 3000) (hy : 0 ≤ y ∧ y ≤ 17575) (hb : hB (99 + 3 * Y) (cutH (ρ (q + 1)) y)) :
    ∃ ρ' τ', f_X2_pass q y ρ = some ρ' ∧ f_X9_goes y τ = some τ' ∧ FlR W H (Y + 1) ρ' τ' q 0 ∧ (∀ q', q' ≠ q → q' ≠ q + 1 → q' ≠ q + 2 → ρ' q' = ρ q') ∧ (∀ q', q' ≠ 62 → q' ≠ 63 → q' ≠ 71 → τ' q' = τ q') ∧ (∀ j, j ≠ 31 → j ≠ 32 → τ' 62 j = τ 62 j) ∧ (∀ j, (j < 0 ∨ 25 ≤ j) → τ' 63 j = τ 63 j) := by
  obtain ⟨ρ', τ', p1, p2, p3, p4, p5, p6, p7, p8, p9⟩ := passR hq ld fl hY hy hb
  refine ⟨ρ', τ', p1, p2, p3, p4, p6, p7, fun j hj => ?_⟩
  have he := fl.heq
  obtain ⟨f1, f2, f3, f4, f5, f6⟩ := fl
  rw [Int.zero_add] at f3 f5
  obtain ⟨τ2, m1, m2⟩ := goesM (y := y) ld.2.1 (by omega) ((hb.congr (cutH_heq he.symm)).mono (by omega)) (by rw [f3.2.2]; exact f3.1) (by rw [f3.2.2]; exact f3.2.1) (by rw [f5.2]; exact f5.1)
  rw [p2] at m1
  cases m1
  rw [m2.cell (by omega) (by omega), stc_get]
  exact passH_out ld.1.1 (by rw [f3.2.2]; exact f3.1) (by rw [f3.2.2]; exact f3.2.1) hj
theorem hasNowR {W H fm Y f : Int} {ρ τ : pm} {q : Nat} (ld : LdR W H fm ρ τ) (fl : FlR W H Y ρ τ q 0) (hY : 0 ≤ Y ∧ Y ≤ 3000) (hf : 0 ≤ f ∧ f < fm) (hw : τ 63 (28 + f) = ρ 5 f) : ∃ r τ', f_X7_gain f (ρ q 4) ρ = some r ∧ f_X9_hasNow f τ = some (r, τ') ∧ agB τ τ' := by
  have he := fl.heq
  obtain ⟨lc, lm, h4, h4', hfm, ho, hg, -⟩ := ld
  obtain ⟨f1, f2, f3, f4, f5, f6⟩ := fl
  rw [Int.zero_add] at f3
  have hM : hOK (τ 63) := (f2.ok (by omega)).congr he.symm
  obtain ⟨τ', h1, h2⟩ := hasNowM lm hM (by rw [f3.2.2]; exact f3.1) (by rw [f3.2.2]; exact f3.2.1) ho (f := f) (by omega)
  refine ⟨_, τ', gainC lc.1 hg h4 hfm hf, ?_, h2⟩
  rw [h1, hw, f3.2.2, bedT_congr he lc.1 f3.1 f3.2.1, ← f6.2.1, Int.mul_comm]
/-- the present copied for a trial -/
theorem trialR {W H fm : Int} {ρ τ : pm} (hr : RelW W H fm ρ τ) : ∃ ρ1, f_X2_copy 25 8 ρ = some ρ1 ∧ (∀ q, q ≠ 25 → q ≠ 26 → q ≠ 27 → ρ1 q = ρ q) ∧ FlR W H (ρ 4 4) ρ1 τ 25 0 ∧ LdR W H fm ρ1 τ := by
  obtain ⟨a1, a2, -⟩ := hr
  obtain ⟨ρ1, c1, c2, c3, c4⟩ := copyF (q := 25) (p := 8) (ρ := ρ) (by omega) a2.2.2.2.2.1.1
  exact ⟨ρ1, c1, c2, a2.move a1.1.1 c3 c4 (fun _ _ _ => rfl), a1.keep (c2 _ (by omega) (by omega) (by omega)) (c2 _ (by omega) (by omega) (by omega)) (c2 _ (by omega) (by omega) (by omega)) rfl rfl rfl rfl⟩
/-- a trial leaves the relation as it was -/
theorem RelW.trial {W H fm : Int} {ρ τ ρ' τ' : pm} (hr : RelW W H fm ρ τ) (c : ∀ q, q ≠ 25 → q ≠ 26 → q ≠ 27 → ρ' q = ρ q) (m : ∀ q, (64 ≤ q ∧ q ≤ 70) ∨ (81 ≤ q ∧ q ≤ 83) → τ' q = τ q) (m2 : ∀ j, j ≠ 31 → j ≠ 32 → τ' 62 j = τ 62 j) (m3 : ∀ j, τ' 63 j = τ 63 j) : RelW W H fm ρ' τ' :=
  hr.ag (fun q hq => c q (by omega) (by omega) (by omega)) ⟨fun q hq => by
    by_cases e : q = 63
    · subst e; exact funext m3
    · exact m q (by omega), m2⟩
theorem LdR.step {W H fm : Int} {ρ τ ρ' τ' : pm} (h : LdR W H fm ρ τ) (c : ∀ q, q ≠ 25 → q ≠ 26 → q ≠ 27 → ρ' q = ρ q) (m : ∀ q, q ≠ 62 → q ≠ 63 → q ≠ 71 → τ' q = τ q) (m2 : ∀ j, j ≠ 31 → j ≠ 32 → τ' 62 j = τ 62 j) : LdR W H fm ρ' τ' := h.keep (c _ (by omega) (by omega) (by omega)) (c _ (by omega) (by omega) (by omega)) (c _ (by omega) (by omega) (by omega)) (m2 _ (by omega) (by omega)) (m2 _ (by omega) (by omega)) (m2 _ (by omega) (by omega)) (m _ (by omega) (by omega) (by omega))
section Calls
variable {ρ τ : pm}
theorem k_would (h : Rel ρ τ) {y f : Int} (hy : inR y) (hf : inR f) : ∃ r ρ' τ', f_X8_would y f ρ = some (r, ρ') ∧ f_X9_would y f τ = some (r, τ') ∧ Rel ρ' τ' := by
  obtain ⟨W, H, fm, hr⟩ := h
  obtain ⟨a1, a2, a3, -⟩ := id hr
  obtain ⟨-, -, h4, h4', hfm, -⟩ := id a1
  have m1 := a3.1
  unfold f_X8_would f_X9_would
  by_cases c : 0 ≤ y ∧ y ≤ 17575
  · rw [isNumber_yes c, isYear_yes c]
    simp only [Option.bind_some, i10]
    by_cases k : 0 ≤ f ∧ f < fm
    · rw [hasFarm_yes h4 hfm k, isFarm_yes h4' hfm k]
      simp only [Option.bind_some, i10]
      obtain ⟨B, τ1, r1, r2, r3, r4⟩ := refR a1 a2 (by omega) c
      rw [r1, Option.bind_some, canBeM r2, bn2_of]
      have hRf : inR (rfs B (-1)) := by rcases rfs_cases B with z | z <;> omega
      rw [ckp hRf]
      by_cases cb : rfs B (-1) < 0
      · rw [if_pos cb, if_pos cb, i10]
        have hr1 : RelW W H fm ρ τ1 := hr.ag (agC.refl _) r3.agM
        obtain ⟨ρ1, c1, c2, c3, c4⟩ := trialR hr1
        have e26 : ρ1 26 = ρ 9 ∨ True := Or.inr trivial
        obtain ⟨τ2, d1, d2, d3⟩ := marksM τ1
        have fl2 : FlR W H (ρ 4 4) ρ1 τ2 25 0 := c3.keep rfl rfl rfl (fun j _ _ => by rw [d2 63 (by omega)])
        have ld2 : LdR W H fm ρ1 τ2 := c4.keep rfl rfl rfl (by rw [d2 62 (by omega)]) (by rw [d2 62 (by omega)]) (by rw [d2 62 (by omega)]) (d2 65 (by omega))
        have hcut : hB (99 + 3 * ρ 4 4) (cutH (ρ1 (25 + 1)) y) := (r4 cb).congr (cutH_heq (fun j j0 j1 => by
          have x1 := a2.1 j j0 j1
          have x2 := fl2.1 j j0 j1
          rw [← x2, d2 63 (by omega), r3.cell (by omega) (by omega)]
          exact x1.symm))
        obtain ⟨ρ3, τ3, p1, p2, p3, p4, p5, p6, p7⟩ := passR' (by omega : 3 < 25) ld2 fl2 (by omega) c hcut
        have ld3 : LdR W H fm ρ3 τ3 := ld2.step p4 p5 p6
        have w3 : τ3 63 (28 + f) = ρ3 5 f := by
          rw [p7 _ (by omega), d2 63 (by omega), r3.cell (by omega) (by omega), p4 5 (by omega) (by omega) (by omega), c2 5 (by omega) (by omega) (by omega)]
          have := (a3.2.1 f k.1 (by omega)).1
          rw [Int.zero_add] at this
          exact this
        obtain ⟨r, τ4, h1, h2, h3⟩ := hasNowR (f := f) ld3 p3 (by omega) k w3
        obtain ⟨τ5, v1, v2, v3, v4⟩ := returnsM τ4
        unfold f_X9_hasBy
        rw [c1, Option.bind_some, p1, Option.bind_some, h1, Option.bind_some, d1, Option.bind_some, p2, Option.bind_some, h2, bn2_of, v1, Option.bind_some, bn2_of]
        refine ⟨_, _, _, rfl, rfl, W, H, fm, hr1.trial (fun q b1 b2 b3 => by rw [p4 q b1 b2 b3, c2 q b1 b2 b3]) (fun q hq => by rw [v2 q (by omega), h3.cell (by omega) (by omega), p5 q (by omega) (by omega) (by omega), d2 q (by omega)]) (fun j b1 b2 => by rw [v2 62 (by omega), h3.fld b1 b2, p6 j b1 b2, d2 62 (by omega)]) (fun j => ?_)⟩
        by_cases e : 0 ≤ j ∧ j < 25
        · rw [v3 j e.1 e.2, h3.cell (by omega) (by omega), p5 72 (by omega) (by omega) (by omega), d3 j e.1 e.2]
        · rw [v4 j (by omega), h3.cell (by omega) (by omega), p7 j (by omega), d2 63 (by omega)]
      · rw [if_neg cb, if_neg cb, i00]
        exact ⟨_, _, _, rfl, rfl, W, H, fm, hr.ag (agC.refl _) r3.agM⟩
    · rw [hasFarm_no hf h4 hfm k, isFarm_no hf h4' hfm k]
      exact ⟨_, _, _, rfl, rfl, W, H, fm, hr⟩
  · rw [isNumber_no hy c, isYear_no hy c]
    exact ⟨_, _, _, rfl, rfl, W, H, fm, hr⟩
end Calls
