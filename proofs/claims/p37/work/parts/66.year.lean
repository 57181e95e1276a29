/-! a year, of both: refusing, going -/
theorem bedR_tr {W H : Int} {ρ : pm} {q : Nat} (w : Int → Int) (hw : wh W H) (h0 : 0 ≤ ρ q 5) (h1 : ρ q 5 < W * H) : bedR W H (trM ρ q (bedW W H (ρ (q + 1)) (ρ q 5) w)) q := by
  obtain ⟨b1, b2, b3, -⟩ := bedW_ok (h := ρ (q + 1)) w hw h0 h1
  unfold bedR
  rw [trM_ne (show q + 1 ≠ q by omega) (by omega), trM_field (show (5 : Int) ≠ 3 by omega) (by omega), trM_get3, trM_get4, trM_way]
  exact ⟨b1, b2, fun i i0 i1 => (b3 i i0 i1).1⟩
theorem mkm_congr {P Q : Int → Prop} [DecidablePred P] [DecidablePred Q] : ∀ {n : Nat}, (∀ c : Nat, c < n → (P (c : Int) ↔ Q (c : Int))) → mkm P n = mkm Q n
  | 0, _ => rfl
  | n + 1, h => by
    unfold mkm
    rw [mkm_congr (n := n) (fun c hc => h c (by omega))]
    by_cases p : P (n : Int)
    · rw [if_pos p, if_pos ((h n (by omega)).mp p)]
    · rw [if_neg p, if_neg (fun z => p ((h n (by omega)).mpr z))]
theorem canM_congr {W H : Int} {h h' own : Int → Int} {law b f : Int} (hw : wh W H) (e : heq h h') : canM W H h own law b f = canM W H h' own law b f := by
  have hN : W * H ≤ 25 := hw.bd.2.2.2.2.2
  unfold canM
  apply mkm_congr
  intro c hc
  have hc' : (c : Int) < W * H := by omega
  unfold canP
  rw [e (c : Int) (Int.natCast_nonneg c) (Int.lt_of_lt_of_le hc' hN)]
theorem bad_congr {W H : Int} {h h' own : Int → Int} {law b fm y : Int} (hw : wh W H) (e : heq h h') : bad W H h own law b fm y = bad W H h' own law b fm y := by
  funext f
  unfold bad
  rw [canM_congr hw e]
theorem not_bad {W H : Int} {h own : Int → Int} {law b fm y f : Int} (hw : wh W H) (n : ¬ bad W H h own law b fm y f) : dig y f = 0 ∨ (1 ≤ dig y f ∧ dig y f - 1 < W * H ∧ own (dig y f - 1) = f ∧ 3 ≤ h (dig y f - 1)) := by
  have db := dig_bd y f
  by_cases c : dig y f = 0
  · exact Or.inl c
  · right
    have z : f < fm ∧ bt (canM W H h own law b f) (dig y f - 1) = 1 := Classical.byContradiction (fun z => n ⟨c, z⟩)
    have z2 := (on_canM (c := dig y f - 1) hw (by omega)).mp z.2
    exact ⟨by omega, z2.1, z2.2.1, z2.2.2.1⟩
theorem rfs_neg {B : Int → Prop} (h : rfs B (-1) < 0) : ¬ B 0 ∧ ¬ B 1 ∧ ¬ B 2 := by
  by_cases c0 : B 0
  · rw [rfs_0 c0] at h; omega
  · by_cases c1 : B 1
    · rw [rfs_1 c0 c1] at h; omega
    · by_cases c2 : B 2
      · rw [rfs_2 c0 c1 c2] at h; omega
      · exact ⟨c0, c1, c2⟩
theorem rfs_cases (B : Int → Prop) : (rfs B (-1) = -1 ∧ rfs B 3 = 3) ∨ (0 ≤ rfs B (-1) ∧ rfs B (-1) < 3 ∧ rfs B 3 = rfs B (-1)) := by
  by_cases c0 : B 0
  · right; rw [rfs_0 c0, rfs_0 c0]; omega
  · by_cases c1 : B 1
    · right; rw [rfs_1 c0 c1, rfs_1 c0 c1]; omega
    · by_cases c2 : B 2
      · right; rw [rfs_2 c0 c1 c2, rfs_2 c0 c1 c2]; omega
      · left; rw [rfs_n c0 c1 c2, rfs_n c0 c1 c2]; exact ⟨rfl, rfl⟩
theorem cut1_bd {B : Int} {h : Int → Int} {a : Int} (hb : hB B h) (ha : a = 0 ∨ (1 ≤ a ∧ 3 ≤ h (a - 1))) : hB B (cut1 h a) := by
  unfold cut1
  by_cases c : a ≤ 0
  · rw [if_pos c]; exact hb
  · rw [if_neg c]
    intro j j0 j1
    unfold up1
    by_cases e : j = a - 1
    · rw [if_pos e]
      have := hb j j0 j1
      rw [e] at this
      omega
    · rw [if_neg e]; exact hb j j0 j1
theorem cut1_ne {h : Int → Int} {a j : Int} (hj : a = 0 ∨ j ≠ a - 1) : cut1 h a j = h j := by
  unfold cut1
  by_cases c : a ≤ 0
  · rw [if_pos c]
  · rw [if_neg c]; exact if_neg (by omega)
theorem cutH_bd {W H B : Int} {h own : Int → Int} {law b fm y : Int} (hw : wh W H) (hb : hB B h) (n0 : ¬ bad W H h own law b fm y 0) (n1 : ¬ bad W H h own law b fm y 1) (n2 : ¬ bad W H h own law b fm y 2) : hB B (cutH h y) := by
  have d0 := not_bad hw n0
  have d1 := not_bad hw n1
  have d2 := not_bad hw n2
  have ne : ∀ {x y' : Int} {f g : Int}, own x = f → own y' = g → f ≠ g → x ≠ y' := fun e1 e2 e3 e4 => e3 (by rw [← e1, ← e2, e4])
  unfold cutH
  refine cut1_bd (cut1_bd (cut1_bd hb ?_) ?_) ?_
  · exact d0.imp id (fun z => ⟨z.1, z.2.2.2⟩)
  · refine d1.imp id (fun z => ⟨z.1, ?_⟩)
    rw [cut1_ne (d0.imp id (fun w => ne z.2.2.1 w.2.2.1 (by decide)))]
    exact z.2.2.2
  · refine d2.imp id (fun z => ⟨z.1, ?_⟩)
    rw [cut1_ne (d1.imp id (fun w => ne z.2.2.1 w.2.2.1 (by decide))), cut1_ne (d0.imp id (fun w => ne z.2.2.1 w.2.2.1 (by decide)))]
    exact z.2.2.2
theorem dig_0 (f : Int) : dig 0 f = 0 := by
  unfold dig
  split
  · rfl
  · split
    · rfl
    · split <;> rfl
theorem cutH_0 (h : Int → Int) : cutH h 0 = h := by
  unfold cutH cut1
  rw [dig_0, dig_0, dig_0]
  rfl
theorem FlR.heq {W H Y : Int} {ρ τ : pm} {q : Nat} (fl : FlR W H Y ρ τ q 0) : heq (τ 63) (ρ (q + 1)) := fun c c0 c1 => by
  have := fl.1 c c0 c1
  rw [Int.zero_add] at this
  exact this
/-- refused() and firstWrong() -/
theorem refR {W H fm Y y : Int} {ρ τ : pm} {q : Nat} (ld : LdR W H fm ρ τ) (fl : FlR W H Y ρ τ q 0) (hY : 0 ≤ Y ∧ Y ≤ 3000) (hy : 0 ≤ y ∧ y ≤ 17575) : ∃ B τ', f_X2_refused q y ρ = some (rfs B (-1)) ∧ f_X9_firstWrong y τ = some (rfs B 3, τ') ∧ agB τ τ' ∧ (rfs B (-1) < 0 → hB (99 + 3 * Y) (cutH (ρ (q + 1)) y)) := by
  have he := fl.heq
  obtain ⟨lc, lm, h4, h4', hfm, ho, hg, -⟩ := ld
  obtain ⟨f1, f2, f3, f4, f5, f6⟩ := fl
  rw [Int.zero_add] at f3 f4 f5
  have hC : hOK (ρ (q + 1)) := f2.ok (by omega)
  have hM : hOK (τ 63) := hC.congr he.symm
  obtain ⟨τ', m1, m2⟩ := firstWrongM (y := y) lm hM (by rw [f3.2.2]; exact f3.1) (by rw [f3.2.2]; exact f3.2.1) ho (by rw [f4.2.2]; exact ⟨f4.1, f4.2.1⟩) (by rw [h4']; exact hfm) (by omega)
  have c1 := refusedC (y := y) lc hC hg h4 hfm ⟨f4.1, f4.2.1⟩ (by omega)
  refine ⟨_, τ', c1, ?_, m2, fun z => ?_⟩
  · rw [m1, f4.2.2, h4', f3.2.2, bedT_congr he lc.1 f3.1 f3.2.1, ← f6.2.1, bad_congr lc.1 he]
  · obtain ⟨z0, z1, z2⟩ := rfs_neg z
    exact cutH_bd lc.1 f2 z0 z1 z2
/-- pass() and goes() -/
theorem passR {W H fm Y y : Int} {ρ τ : pm} {q : Nat} (hq : 3 < q) (ld : LdR W H fm ρ τ) (fl : FlR W H Y ρ τ q 0) (hY : 0 ≤ Y ∧ Y ≤ 3000) (hy : 0 ≤ y ∧ y ≤ 17575) (hb : hB (99 + 3 * Y) (cutH (ρ (q + 1)) y)) :
    ∃ ρ' τ', f_X2_pass q y ρ = some ρ' ∧ f_X9_goes y τ = some τ' ∧ FlR W H (Y + 1) ρ' τ' q 0 ∧ (∀ q', q' ≠ q → q' ≠ q + 1 → q' ≠ q + 2 → ρ' q' = ρ q') ∧ (∀ j, j ≠ 3 → j ≠ 4 → ρ' q j = ρ q j) ∧ (∀ q', q' ≠ 62 → q' ≠ 63 → q' ≠ 71 → τ' q' = τ q') ∧ (∀ j, j ≠ 31 → j ≠ 32 → τ' 62 j = τ 62 j) ∧ (∀ j, 25 ≤ j → τ' 63 j = τ 63 j) ∧ ρ' (q + 1) = passH W H (ρ (q + 1)) (ρ q 5) (ρ q 7) y := by
  have he := fl.heq
  obtain ⟨lc, lm, h4, h4', hfm, ho, hg, -⟩ := ld
  obtain ⟨f1, f2, f3, f4, f5, f6⟩ := fl
  rw [Int.zero_add] at f3 f4 f5
  obtain ⟨w, c1⟩ := passC (y := y) hq lc (by omega) (hb.mono (by omega)) f3.1 f3.2.1 f5.1
  obtain ⟨τ', m1, m2⟩ := goesM (y := y) lm (by omega) ((hb.congr (cutH_heq he.symm)).mono (by omega)) (by rw [f3.2.2]; exact f3.1) (by rw [f3.2.2]; exact f3.2.1) (by rw [f5.2]; exact f5.1)
  rw [f3.2.2, f5.2] at m2
  have e63 : τ' 63 = passH W H (τ 63) (ρ q 5) (ρ q 7) y := by rw [m2.cell (by omega) (by omega), stc_get]
  have hi : ∀ j, 25 ≤ j → τ' 63 j = τ 63 j := fun j hj => by rw [e63]; exact passH_hi lc.1 f3.1 f3.2.1 hj
  obtain ⟨h2, eh2⟩ : ∃ h2, h2 = passH W H (ρ (q + 1)) (ρ q 5) (ρ q 7) y := ⟨_, rfl⟩
  have hb2 := passH_bd (silt := ρ q 7) lc.1 f3.1 f3.2.1 hb
  have he2 := passH_heq (silt := ρ q 7) (y := y) he lc.1 f3.1 f3.2.1
  rw [← eh2] at c1 hb2 he2
  have g1 : ∀ t, trM (stc ρ (q + 1) h2) q t (q + 1) = h2 := fun t => by rw [trM_ne (by omega) (by omega), stc_get]
  have g2 : ∀ t j, j ≠ 3 → j ≠ 4 → trM (stc ρ (q + 1) h2) q t q j = ρ q j := fun t j a b => by rw [trM_field a b, stc_ne (by omega)]
  refine ⟨_, τ', c1, m1, ⟨fun c c0 c1 => ?_, ?_, ?_, ?_, ?_, ?_⟩, fun q' a b c => ?_, fun j a b => g2 _ j a b, fun q' a b c => ?_, fun j a b => ?_, hi, ?_⟩
  · rw [g1, Int.zero_add, e63]; exact he2 c c0 c1
  · rw [g1]; exact hb2.mono (by omega)
  · rw [g2 _ 5 (by omega) (by omega), Int.zero_add, hi 25 (by omega)]; exact f3
  · rw [g2 _ 6 (by omega) (by omega), Int.zero_add, hi 26 (by omega)]; exact f4
  · rw [g2 _ 7 (by omega) (by omega), Int.zero_add, hi 27 (by omega)]; exact f5
  · have := bedR_tr (W := W) (H := H) (ρ := stc ρ (q + 1) h2) (q := q) w lc.1 (by rw [stc_ne (by omega)]; exact f3.1) (by rw [stc_ne (by omega)]; exact f3.2.1)
    rw [stc_get, stc_ne (show q ≠ q + 1 by omega)] at this
    exact this
  · rw [trM_ne a c, stc_ne b]
  · rw [m2.cell a c, stc_ne b]
  · rw [m2.fld a b, stc_ne (by omega)]
  · rw [g1, eh2]
theorem canBeM {τ τ' : pm} {B : Int → Prop} {y : Int} (h : f_X9_firstWrong y τ = some (rfs B 3, τ')) : f_X9_canBe y τ = some (if rfs B (-1) < 0 then 1 else 0, τ') := by
  unfold f_X9_canBe
  rw [h, bn2_of]
  rcases rfs_cases B with ⟨e1, e2⟩ | ⟨e1, e2, e3⟩
  · rw [e1, e2]; rfl
  · rw [e3, ckp (by omega), if_neg (by omega), if_neg (by omega)]
theorem refusal_eq {q : Nat} {ρ : pm} {y yr : Int} {B : Int → Prop} (hy : 0 ≤ y ∧ y ≤ 17575) (hyr : inR yr) (h : f_X2_refused q y ρ = some (rfs B (-1))) : f_X8_refusal q y yr ρ = some (if rfs B (-1) < 0 then (if yr < 999 then 0 else -3) else -2) := by
  unfold f_X8_refusal
  rw [isNumber_yes hy, Option.bind_some, i10, h, Option.bind_some]
  rcases rfs_cases B with ⟨e1, e2⟩ | ⟨e1, e2, e3⟩
  · rw [e1, ckp (by decide), if_pos (show (-1 : Int) < 0 by decide), ckp hyr, if_pos (show (-1 : Int) < 0 by decide)]
    by_cases c : yr < 999
    · rw [if_pos c, if_pos c]
    · rw [if_neg c, if_neg c]
  · rw [ckp (by omega), if_neg (by omega), if_neg (by omega)]
theorem refusal_no {q : Nat} {ρ : pm} {y yr : Int} (hR : inR y) (hy : ¬ (0 ≤ y ∧ y ≤ 17575)) : f_X8_refusal q y yr ρ = some (-1) := by
  unfold f_X8_refusal
  rw [isNumber_no hR hy, Option.bind_some, i00]
theorem LdR.agB {W H fm : Int} {ρ τ τ' : pm} (h : LdR W H fm ρ τ) (a : agB τ τ') : LdR W H fm ρ τ' := h.keep rfl rfl rfl (a.fld (by omega) (by omega)) (a.fld (by omega) (by omega)) (a.fld (by omega) (by omega)) (a.cell (by omega) (by omega))
theorem FlR.agB {W H Y : Int} {ρ τ τ' : pm} {q : Nat} {s : Int} (h : FlR W H Y ρ τ q s) (a : agB τ τ') : FlR W H Y ρ τ' q s := h.keep rfl rfl rfl (fun j _ _ => by rw [a.cell (by omega) (by omega)])
theorem k_year {ρ τ : pm} (h : Rel ρ τ) {y : Int} (hy : inR y) : ∃ r ρ' τ', f_X8_year y ρ = some (r, ρ') ∧ f_X9_year y τ = some (r, τ') ∧ Rel ρ' τ' := by
  obtain ⟨W, H, fm, hr⟩ := h
  obtain ⟨a1, a2, a3, a4, a5, a6, a7, a8⟩ := id hr
  have m1 := a3.1
  rw [Int.zero_add] at m1
  unfold f_X8_year f_X9_year
  by_cases c : 0 ≤ y ∧ y ≤ 17575
  · obtain ⟨B, τ1, r1, r2, r3, r4⟩ := refR a1 a2 (by omega) c
    rw [refusal_eq c (by omega) r1, isYear_yes c, Option.bind_some, Option.bind_some, i10, canBeM r2, bn2_of]
    have e31 : τ1 63 31 = ρ 4 4 := by rw [r3.cell (by omega) (by omega)]; exact m1.2.2
    by_cases cb : rfs B (-1) < 0
    · rw [if_pos cb, if_pos cb, i10, e31, ckp (show inR (ρ 4 4) by omega)]
      by_cases cy : ρ 4 4 < 999
      · rw [if_pos cy, if_neg (show ¬ ρ 4 4 = 999 by omega), ckp (by decide), i00]
        obtain ⟨ρ2, τ2, p1, p2, p3, p4, p5, p6, p7, p8, p9⟩ := passR (y := y) (by omega : 3 < 8) (a1.agB r3) (a2.agB r3) (by omega) c (r4 cb)
        rw [p1, p2, Option.bind_some, Option.bind_some]
        dsimp only [jn]
        have g4 : ρ2 4 4 = ρ 4 4 := by rw [p4 4 (by omega) (by omega) (by omega)]
        have t31 : τ2 63 31 = ρ 4 4 := by rw [p8 31 (by omega)]; exact e31
        rw [g4, t31]
        obtain ⟨ρ3, e3⟩ : ∃ ρ3, ρ3 = pup (pup ρ2 4 4 (ρ 4 4 + 1)) 28 6 0 := ⟨_, rfl⟩
        obtain ⟨τ3, f3⟩ : ∃ τ3, τ3 = pup τ2 63 31 (ρ 4 4 + 1) := ⟨_, rfl⟩
        rw [← e3, ← f3]
        have eo : ∀ q, q ≠ 4 → q ≠ 28 → ρ3 q = ρ2 q := fun q b1 b2 => by rw [e3, pup_ne b2, pup_ne b1]
        have e4 : ∀ j, j ≠ 4 → ρ3 4 j = ρ2 4 j := fun j b => by rw [e3, pup_ne (by omega), pup_off b]
        have e44 : ρ3 4 4 = ρ 4 4 + 1 := by rw [e3, pup_ne (by omega), pup_at]
        have et : ∀ q, q ≠ 63 → τ3 q = τ2 q := fun q b => by rw [f3, pup_ne b]
        have et6 : ∀ j, j ≠ 31 → τ3 63 j = τ2 63 j := fun j b => by rw [f3, pup_off b]
        have fl3 : FlR W H (ρ3 4 4) ρ3 τ3 8 0 := by
          rw [e44]
          exact p3.keep (eo _ (by omega) (by omega)) (eo _ (by omega) (by omega)) (eo _ (by omega) (by omega)) (fun j j0 j1 => et6 j (by omega))
        have ld3 : LdR W H fm ρ3 τ3 := a1.keep (by rw [eo _ (by omega) (by omega), p4 _ (by omega) (by omega) (by omega)]) (by rw [eo _ (by omega) (by omega), p4 _ (by omega) (by omega) (by omega)]) (by rw [eo _ (by omega) (by omega), p4 _ (by omega) (by omega) (by omega)]) (by rw [et _ (by omega), p7 _ (by omega) (by omega), r3.fld (by omega) (by omega)]) (by rw [et _ (by omega), p7 _ (by omega) (by omega), r3.fld (by omega) (by omega)]) (by rw [et _ (by omega), p7 _ (by omega) (by omega), r3.fld (by omega) (by omega)]) (by rw [et _ (by omega), p6 _ (by omega) (by omega) (by omega), r3.cell (by omega) (by omega)])
        have he := fl3.heq
        obtain ⟨q1, q2, q3, q4, q5, q6⟩ := id fl3
        rw [Int.zero_add] at q3
        have hM : hOK (τ3 63) := (q2.ok (by omega)).congr he.symm
        have fb := findBedM ld3.2.1 hM (by rw [q3.2.2]; exact q3.1) (by rw [q3.2.2]; exact q3.2.1)
        rw [fb, Option.bind_some, trN_get1]
        have hlen : (bedW W H (τ3 63) (τ3 63 25) (τ3 71)).1 = ρ3 8 3 := by
          rw [q3.2.2, (bedW_ok (τ3 71) ld3.1.1 q3.1 q3.2.1).1, bedT_congr he ld3.1.1 q3.1 q3.2.1]
          exact q6.1.symm
        rw [hlen]
        have ag := trN_ag τ3 (bedW W H (τ3 63) (τ3 63 25) (τ3 71))
        refine ⟨_, _, _, rfl, rfl, W, H, fm, ?_⟩
        refine RelW.ag (ρ := ρ3) (τ := τ3) ?_ (agC.refl _) ag.agM
        refine hr.now (fun q hq => by rw [eo _ (by omega) (by omega), p4 _ (by omega) (by omega) (by omega)]) (fun q hq => by rw [et _ (by omega), p6 _ (by omega) (by omega) (by omega), r3.cell (by omega) (by omega)]) (fun j b1 b2 => by rw [et _ (by omega), p7 _ b1 b2, r3.fld b1 b2]) (fun j j0 j1 => by rw [et6 _ (by omega), p8 _ (by omega), r3.cell (by omega) (by omega)]) fl3 ?_ (Or.inl (by rw [e3, pup_at]))
        obtain ⟨n1, n2, n3, n4, n5, n6⟩ := a3
        unfold MiR
        have e2 : ∀ j, j ≠ 4 → ρ3 4 j = ρ 4 j := fun j b => by rw [e4 j b, p4 4 (by omega) (by omega) (by omega)]
        have tt : ∀ j, 28 ≤ j → j ≠ 31 → τ3 63 j = τ 63 j := fun j b1 b2 => by rw [et6 j b2, p8 j (by omega), r3.cell (by omega) (by omega)]
        rw [e44, e2 5 (by omega), e2 6 (by omega), eo (4 + 1) (by omega) (by omega), p4 (4 + 1) (by omega) (by omega) (by omega), eo (4 + 2) (by omega) (by omega), p4 (4 + 2) (by omega) (by omega) (by omega), eo (4 + 3) (by omega) (by omega), p4 (4 + 3) (by omega) (by omega) (by omega)]
        exact ⟨⟨by omega, by omega, by rw [Int.zero_add, f3, pup_at]⟩, fun f f0 f1 => by rw [tt _ (by omega) (by omega)]; exact n2 f f0 f1, by rw [tt _ (by omega) (by omega)]; exact n3, fun i i0 i1 => by rw [tt _ (by omega) (by omega)]; exact n4 i i0 i1, by rw [tt _ (by omega) (by omega)]; exact n5, fun i i0 i1 => by rw [tt _ (by omega) (by omega), tt _ (by omega) (by omega)]; exact n6 i i0 i1⟩
      · rw [if_neg cy, if_pos (show ρ 4 4 = 999 by omega), ckp (by decide), if_neg (by decide)]
        exact ⟨_, _, _, rfl, rfl, W, H, fm, hr.ag (agC.refl _) r3.agM⟩
    · rw [if_neg cb, if_neg cb, ckp (by decide), if_neg (show ¬ (-2 : Int) = 0 by decide), i00]
      exact ⟨_, _, _, rfl, rfl, W, H, fm, hr.ag (agC.refl _) r3.agM⟩
  · rw [refusal_no hy c, isYear_no hy c, Option.bind_some, Option.bind_some, i00, ckp (by decide), if_neg (by decide)]
    exact ⟨_, _, _, rfl, rfl, W, H, fm, hr⟩
