/-! the reference looks ahead -/
def agD (τ τ' : pm) : Prop := (∀ q, q ≠ 62 → q ≠ 71 → q ≠ 72 → τ' q = τ q) ∧ ∀ j, j ≠ 31 → j ≠ 32 → τ' 62 j = τ 62 j
theorem agD.refl (τ : pm) : agD τ τ := ⟨fun _ _ _ _ => rfl, fun _ _ _ => rfl⟩
theorem agD.trans {a b c : pm} (h1 : agD a b) (h2 : agD b c) : agD a c := ⟨fun q x y z => (h2.1 q x y z).trans (h1.1 q x y z), fun j x y => (h2.2 j x y).trans (h1.2 j x y)⟩
theorem agD.agM {a b : pm} (h : agD a b) : agM a b := ⟨fun q hq => h.1 q (by omega) (by omega) (by omega), h.2⟩
theorem agB.agD {a b : pm} (h : agB a b) : agD a b := ⟨fun _ x y _ => h.cell x y, fun _ x y => h.fld x y⟩
/-- the options as the reference keeps them -/
def OptM (P : Int → Int × (Int → Int)) (τ : pm) : Prop := ∀ f, 0 ≤ f → f < 3 → τ 75 f = (P f).1 ∧ ∀ p, 0 ≤ p → p < (P f).1 → τ 74 (9 * f + p) = tms f * (P f).2 p
theorem OptM.ag {P : Int → Int × (Int → Int)} {τ τ' : pm} (h : OptM P τ) (a : agD τ τ') : OptM P τ' := by
  unfold OptM
  rw [a.1 75 (by omega) (by omega) (by omega), a.1 74 (by omega) (by omega) (by omega)]
  exact h
theorem lstF_N {W H fm : Int} {h own : Int → Int} {law b f : Int} (hw : wh W H) : lstF (optM W H fm h own law b f) (W * H).toNat = lstF (optM W H fm h own law b f) 25 := by
  have bd := hw.bd
  have := lstF_stop (m := optM W H fm h own law b f) (c := (W * H).toNat) (d := 25 - (W * H).toNat) (fun j j0 j1 z => by
    unfold optM at z
    split at z
    · have := ((on_canM hw (by omega)).mp z).1
      omega
    · exact on_zero (by omega) z)
  rw [show (W * H).toNat + (25 - (W * H).toNat) = 25 by omega] at this
  exact this.symm
def agP (τ τ' : pm) : Prop := (∀ q, q ≠ 62 → q ≠ 71 → q ≠ 74 → q ≠ 75 → τ' q = τ q) ∧ ∀ j, j ≠ 31 → j ≠ 32 → τ' 62 j = τ 62 j
theorem agP.trans {a b c : pm} (h1 : agP a b) (h2 : agP b c) : agP a c := ⟨fun q x y z u => (h2.1 q x y z u).trans (h1.1 q x y z u), fun j x y => (h2.2 j x y).trans (h1.2 j x y)⟩
theorem agP.agM {a b : pm} (h : agP a b) : agM a b := ⟨fun q hq => h.1 q (by omega) (by omega) (by omega) (by omega), h.2⟩
theorem optsR_step {W H fm : Int} {ρ τ : pm} (hr : RelW W H fm ρ τ) {P : Int → Int × (Int → Int)} (eP : P = optP W H fm (ρ 9) (τ 65) (ρ 8 6) (ρ 8 4)) {n : Nat} {f f' : Int} (hf : 0 ≤ f ∧ f < 3) (e : f + 1 = f') : ∃ τ', L_X9_findOptions_2 (n + 1) f τ = L_X9_findOptions_2 n f' τ' ∧ agP τ τ' ∧ τ' 75 f = (P f).1 ∧ (∀ p, 0 ≤ p → p < (P f).1 → τ' 74 (9 * f + p) = tms f * (P f).2 p) ∧ (∀ g, g ≠ f → τ' 75 g = τ 75 g) ∧ (∀ j, (j < 9 * f ∨ 9 * f + 9 ≤ j) → τ' 74 j = τ 74 j) := by
  subst e
  obtain ⟨a1, a2, a3, -⟩ := id hr
  have m1 := a3.1
  obtain ⟨lc, lm, h4, h4', hfm, ho, hg, -⟩ := id a1
  have he := a2.heq
  obtain ⟨f1, f2, f3, f4, f5, f6⟩ := a2
  rw [Int.zero_add] at f3 f4
  have hM : hOK (τ 63) := (f2.ok (by omega)).congr he.symm
  have ePf : lstF (optM W H fm (ρ 9) (τ 65) (ρ 8 6) (ρ 8 4) f) 25 = P f := by rw [eP]; rfl
  have go : ∀ τ1, agB τ τ1 → ∃ τ', (ck (0 ≤ 9 * f ∧ 9 * f < 27) (jn (pup τ1 74 (9 * f) 0) (fun ρ4 => ck (0 ≤ f ∧ f < 3) (jn (pup ρ4 75 f 1) (fun ρ6 => L_X9_findOptions_44 (fun (l1 : Int) (ρ : pm) => jn (l1 + 1) (fun x15 => L_X9_findOptions_2 n x15 ρ)) fu f (optM W H fm (ρ 9) (τ 65) (ρ 8 6) (ρ 8 4) f) 0 ρ6))))) = L_X9_findOptions_2 n (f + 1) τ' ∧ agP τ τ' ∧ τ' 75 f = (P f).1 ∧ (∀ p, 0 ≤ p → p < (P f).1 → τ' 74 (9 * f + p) = tms f * (P f).2 p) ∧ (∀ g, g ≠ f → τ' 75 g = τ 75 g) ∧ (∀ j, (j < 9 * f ∨ 9 * f + 9 ≤ j) → τ' 74 j = τ 74 j) := by
    intro τ1 ab
    obtain ⟨τ2, e2⟩ : ∃ τ2, τ2 = pup (pup τ1 74 (9 * f) 0) 75 f 1 := ⟨_, rfl⟩
    have n2 : ∀ q, q ≠ 74 → q ≠ 75 → τ2 q = τ1 q := fun q a b => by rw [e2, pup_ne b, pup_ne a]
    obtain ⟨τ3, g1, g2, g3, g4, g5, g6⟩ := optsM_loop (K := fun (l1 : Int) (ρ : pm) => jn (l1 + 1) (fun x15 => L_X9_findOptions_2 n x15 ρ)) lc.1 hf (few_optM a1 (ρ 9) (ρ 8 6) (ρ 8 4) f hf.1) (W * H).toNat fu 0 τ2 (by unfold fu; have := lc.1.bd; omega) (by have := lc.1.bd; omega) (by rw [n2 62 (by omega) (by omega), ab.fld (by omega) (by omega)]; exact lm.2.1) (by rw [n2 62 (by omega) (by omega), ab.fld (by omega) (by omega)]; exact lm.2.2) (by rw [e2, pup_at]; rfl) (fun p p0 p1 => by
      have p1' : p < 1 := p1
      have : p = 0 := by omega
      rw [this, e2, pup_ne (by omega), Int.add_zero, pup_at]
      show 0 = tms f * 0
      omega)
    rw [lstF_N lc.1, ePf] at g5 g6
    have z2 : ((0 : Nat) : Int) = 0 := rfl
    rw [z2, jn_eq] at g1
    rw [ckp (by omega), jn_eq, ckp hf, jn_eq, ← e2, g1]
    refine ⟨τ3, rfl, ⟨fun q a b c d => by rw [g2 q c d, n2 q c d, ab.cell a b], fun j a b => by rw [g2 62 (by omega) (by omega), n2 62 (by omega) (by omega), ab.fld a b]⟩, g5, g6, fun g hg => by rw [g4 g hg, e2, pup_off hg, pup_ne (by omega), ab.cell (by omega) (by omega)], fun j hj => by rw [g3 j hj, e2, pup_ne (by omega), pup_off (by omega), ab.cell (by omega) (by omega)]⟩
  rw [L_X9_findOptions_2, h4', ckp (by omega), if_neg (by omega), ckp (by omega), jn_eq]
  by_cases c : fm ≤ f
  · have eM : optM W H fm (ρ 9) (τ 65) (ρ 8 6) (ρ 8 4) f = 0 := if_neg (by omega)
    rw [if_pos c]
    have := go τ (agB.refl τ)
    rw [eM] at this
    exact this
  · have eM : optM W H fm (ρ 9) (τ 65) (ρ 8 6) (ρ 8 4) f = canM W H (ρ 9) (τ 65) (ρ 8 6) (ρ 8 4) f := if_pos (by omega)
    obtain ⟨τ1, h1, h2⟩ := mayCutM (f := f) lm hM (by rw [f3.2.2]; exact f3.1) (by rw [f3.2.2]; exact f3.2.1) ho (by rw [f4.2.2]; exact ⟨f4.1, f4.2.1⟩) (by omega)
    rw [f3.2.2, f4.2.2, bedT_congr he lc.1 f3.1 f3.2.1, ← f6.2.1, canM_congr lc.1 he, ← eM] at h1
    rw [if_neg c, h1, bn2_of]
    exact go τ1 h2
theorem optsR {W H fm : Int} {ρ τ : pm} (hr : RelW W H fm ρ τ) : ∃ τ', f_X9_findOptions τ = some τ' ∧ agP τ τ' ∧ OptM (optP W H fm (ρ 9) (τ 65) (ρ 8 6) (ρ 8 4)) τ' := by
  obtain ⟨P, eP⟩ : ∃ P, P = optP W H fm (ρ 9) (τ 65) (ρ 8 6) (ρ 8 4) := ⟨_, rfl⟩
  rw [← eP]
  unfold f_X9_findOptions
  rw [show fu = 99996 + 1 + 1 + 1 + 1 from rfl]
  obtain ⟨τ1, a1, a2, a3, a4, a5, a6⟩ := optsR_step (n := 99996 + 1 + 1 + 1) (f := 0) (f' := 1) hr eP (by omega) rfl
  have hr1 : RelW W H fm ρ τ1 := hr.ag (agC.refl _) a2.agM
  have e1 : P = optP W H fm (ρ 9) (τ1 65) (ρ 8 6) (ρ 8 4) := by rw [a2.1 65 (by omega) (by omega) (by omega) (by omega)]; exact eP
  obtain ⟨τ2, b1, b2, b3, b4, b5, b6⟩ := optsR_step (n := 99996 + 1 + 1) (f := 1) (f' := 2) hr1 e1 (by omega) rfl
  have hr2 : RelW W H fm ρ τ2 := hr1.ag (agC.refl _) b2.agM
  have e2 : P = optP W H fm (ρ 9) (τ2 65) (ρ 8 6) (ρ 8 4) := by rw [b2.1 65 (by omega) (by omega) (by omega) (by omega)]; exact e1
  obtain ⟨τ3, c1, c2, c3, c4, c5, c6⟩ := optsR_step (n := 99996 + 1) (f := 2) (f' := 3) hr2 e2 (by omega) rfl
  rw [a1, b1, c1, L_X9_findOptions_2, ckp (by omega), if_pos (by omega)]
  have hP : ∀ f, 0 ≤ f → (P f).1 ≤ 9 := fun f hf => by rw [eP]; exact (few_bd (few_optM hr.1 _ _ _ f hf)).2
  refine ⟨τ3, rfl, (a2.trans b2).trans c2, fun f f0 f1 => ?_⟩
  have f3 : f = 0 ∨ f = 1 ∨ f = 2 := by omega
  have h0 := hP 0 (by omega)
  have h1 := hP 1 (by omega)
  rcases f3 with rfl | rfl | rfl
  · exact ⟨by rw [c5 0 (by omega), b5 0 (by omega), a3], fun p p0 p1 => by rw [c6 _ (by omega), b6 _ (by omega)]; exact a4 p p0 p1⟩
  · exact ⟨by rw [c5 1 (by omega), b3], fun p p0 p1 => by rw [c6 _ (by omega)]; exact b4 p p0 p1⟩
  · exact ⟨c3, c4⟩
/-- places of a choice -/
theorem place_bd {a b c k : Int} (ha : 1 ≤ a) (hb : 1 ≤ b) (hc : 1 ≤ c) (h0 : 0 ≤ k) (h1 : k < a * b * c) : (0 ≤ k % a ∧ k % a < a) ∧ (0 ≤ k / a % b ∧ k / a % b < b) ∧ (0 ≤ k / (a * b) ∧ k / (a * b) < c) := by
  have hab : 0 < a * b := Int.mul_pos (by omega) (by omega)
  refine ⟨⟨Int.emod_nonneg _ (by omega), Int.emod_lt_of_pos _ (by omega)⟩, ⟨Int.emod_nonneg _ (by omega), Int.emod_lt_of_pos _ (by omega)⟩, ⟨Int.ediv_nonneg h0 (by omega), Int.ediv_lt_of_lt_mul hab (by rw [Int.mul_comm c]; exact h1)⟩⟩
theorem yearAtM {P : Int → Int × (Int → Int)} {τ : pm} {k : Int} (h : OptM P τ) (h0 : 1 ≤ (P 0).1 ∧ (P 0).1 ≤ 9) (h1 : 1 ≤ (P 1).1 ∧ (P 1).1 ≤ 9) (h2 : 1 ≤ (P 2).1 ∧ (P 2).1 ≤ 9) (hk : 0 ≤ k ∧ k < (P 0).1 * (P 1).1 * (P 2).1) : f_X9_yearAt k τ = some (yA P k) := by
  obtain ⟨p0, p1, p2⟩ := place_bd h0.1 h1.1 h2.1 hk.1 hk.2
  have ab : 1 ≤ (P 0).1 * (P 1).1 ∧ (P 0).1 * (P 1).1 ≤ 81 := by
    have x1 : (P 0).1 * 1 ≤ (P 0).1 * (P 1).1 := Int.mul_le_mul_of_nonneg_left h1.1 (by omega)
    have x2 : (P 0).1 * (P 1).1 ≤ (P 0).1 * 9 := Int.mul_le_mul_of_nonneg_left h1.2 (by omega)
    omega
  have abc : (P 0).1 * (P 1).1 * (P 2).1 ≤ 729 := by
    have x2 : (P 0).1 * (P 1).1 * (P 2).1 ≤ (P 0).1 * (P 1).1 * 9 := Int.mul_le_mul_of_nonneg_left h2.2 (by omega)
    omega
  have e0 := h 0 (by omega) (by omega)
  have e1 := h 1 (by omega) (by omega)
  have e2 := h 2 (by omega) (by omega)
  have q1 : 0 ≤ k / (P 0).1 := Int.ediv_nonneg hk.1 (by omega)
  have q2 : k / (P 0).1 ≤ k := Int.ediv_le_self _ hk.1
  unfold f_X9_yearAt
  rw [e0.1, e1.1, tdiv_pos hk.1, tdiv_pos hk.1, tmod_pos hk.1, tmod_pos q1, ckp (by omega), ckp (by omega), ckp (by omega), ckp (by omega), ckp (by omega), ckp (by omega), ckp (by omega), ckp (by omega)]
  have w0 := e0.2 (k % (P 0).1) p0.1 p0.2
  have w1 := e1.2 (k / (P 0).1 % (P 1).1) p1.1 p1.2
  have w2 := e2.2 (k / ((P 0).1 * (P 1).1)) p2.1 p2.2
  rw [show (9 : Int) * 0 + k % (P 0).1 = k % (P 0).1 by omega, show tms 0 = 1 from rfl] at w0
  rw [show (9 : Int) * 1 + k / (P 0).1 % (P 1).1 = 9 + k / (P 0).1 % (P 1).1 by omega, show tms 1 = 26 from rfl] at w1
  rw [show (9 : Int) * 2 + k / ((P 0).1 * (P 1).1) = 18 + k / ((P 0).1 * (P 1).1) by omega, show tms 2 = 676 from rfl] at w2
  unfold f_X9_yearOf
  rw [ckp (by omega), ckp (by omega), ckp (by omega), w0, w1, w2, Option.bind_some]
  unfold yA
  congr 1
  omega
theorem yA_ok {W H fm : Int} {ρ τ : pm} (ld : LdR W H fm ρ τ) {h : Int → Int} {law b k : Int} (hk : 0 ≤ k ∧ k < (optP W H fm h (τ 65) law b 0).1 * (optP W H fm h (τ 65) law b 1).1 * (optP W H fm h (τ 65) law b 2).1) : 0 ≤ yA (optP W H fm h (τ 65) law b) k ∧ yA (optP W H fm h (τ 65) law b) k ≤ 17575 ∧ ∀ f, 0 ≤ f → f < 3 → ¬ bad W H h (τ 65) law b fm (yA (optP W H fm h (τ 65) law b) k) f := by
  obtain ⟨p0, p1, p2⟩ := place_bd (few_bd (few_optM ld h law b 0 (by omega))).1 (few_bd (few_optM ld h law b 1 (by omega))).1 (few_bd (few_optM ld h law b 2 (by omega))).1 hk.1 hk.2
  have := year_ok (W := W) (H := H) (fm := fm) (h := h) (own := τ 65) (law := law) (b := b) p0 p1 p2
  exact ⟨this.1, this.2.1, this.2.2.2.2.2⟩
/-- the bed behind a year -/
def Bt (W H : Int) (ρ : pm) (y : Int) : Int := (bedT W H (passH W H (ρ 9) (ρ 8 5) (ρ 8 7) y) (ρ 8 5)).2.1
/-- marks, a year, and back -/
theorem byR {W H fm : Int} {ρ τ : pm} (hr : RelW W H fm ρ τ) {y : Int} (hy : 0 ≤ y ∧ y ≤ 17575) (hb : ∀ f, 0 ≤ f → f < 3 → ¬ bad W H (ρ 9) (τ 65) (ρ 8 6) (ρ 8 4) fm y f) : ∃ τ1 τ2 ρ2, f_X9_marks τ = some τ1 ∧ f_X9_goes y τ1 = some τ2 ∧ LdR W H fm ρ2 τ2 ∧ FlR W H (ρ 4 4 + 1) ρ2 τ2 8 0 ∧ ρ2 8 4 = Bt W H ρ y ∧ (∀ q, q ≠ 8 → q ≠ 9 → q ≠ 10 → ρ2 q = ρ q) ∧ (∀ j, 25 ≤ j → τ2 63 j = τ 63 j) ∧ ∀ τ3, agB τ2 τ3 → ∃ τ4, f_X9_returns τ3 = some τ4 ∧ agD τ τ4 := by
  obtain ⟨a1, a2, a3, -⟩ := id hr
  have m1 := a3.1
  obtain ⟨τ1, d1, d2, d3⟩ := marksM τ
  have fl2 : FlR W H (ρ 4 4) ρ τ1 8 0 := a2.keep rfl rfl rfl (fun j _ _ => by rw [d2 63 (by omega)])
  have ld2 : LdR W H fm ρ τ1 := a1.keep rfl rfl rfl (by rw [d2 62 (by omega)]) (by rw [d2 62 (by omega)]) (by rw [d2 62 (by omega)]) (d2 65 (by omega))
  have hcut : hB (99 + 3 * ρ 4 4) (cutH (ρ (8 + 1)) y) := cutH_bd a1.1.1 a2.2.1 (hb 0 (by omega) (by omega)) (hb 1 (by omega) (by omega)) (hb 2 (by omega) (by omega))
  obtain ⟨ρ2, τ2, u1, u2, u3, u4, u5, u6, u7, u8, u9⟩ := passR (by omega : 3 < 8) ld2 fl2 (by omega) hy hcut
  obtain ⟨-, τ2', -, v2, -, -, v5, v6, v7⟩ := passR' (by omega : 3 < 8) ld2 fl2 (by omega) hy hcut
  rw [u2] at v2
  cases v2
  refine ⟨τ1, τ2, ρ2, d1, u2, ld2.keep (u4 _ (by omega) (by omega) (by omega)) (u4 _ (by omega) (by omega) (by omega)) (u4 _ (by omega) (by omega) (by omega)) (u7 _ (by omega) (by omega)) (u7 _ (by omega) (by omega)) (u7 _ (by omega) (by omega)) (u6 _ (by omega) (by omega) (by omega)), u3, ?_, u4, fun j hj => by rw [u8 j hj, d2 63 (by omega)], fun τ3 ab => ?_⟩
  · rw [u3.2.2.2.2.2.2.1, u9, u5 5 (by omega) (by omega)]
    rfl
  · obtain ⟨τ4, w1, w2, w3, w4⟩ := returnsM τ3
    refine ⟨τ4, w1, fun q a b c => ?_, fun j a b => by rw [w2 62 (by omega), ab.fld a b, u7 j a b, d2 62 (by omega)]⟩
    by_cases e : q = 63
    · subst e
      funext j
      by_cases e : 0 ≤ j ∧ j < 25
      · rw [w3 j e.1 e.2, ab.cell (by omega) (by omega), v5 72 (by omega) (by omega) (by omega), d3 j e.1 e.2]
      · rw [w4 j (by omega), ab.cell (by omega) (by omega), v7 j (by omega), d2 63 (by omega)]
    · rw [w2 q e, ab.cell a b, u6 q a e b, d2 q c]
theorem bedByR {W H fm : Int} {ρ τ : pm} (hr : RelW W H fm ρ τ) {y : Int} (hy : 0 ≤ y ∧ y ≤ 17575) (hb : ∀ f, 0 ≤ f → f < 3 → ¬ bad W H (ρ 9) (τ 65) (ρ 8 6) (ρ 8 4) fm y f) : ∃ τ', f_X9_bedBy y τ = some (Bt W H ρ y, τ') ∧ agD τ τ' := by
  have m1 := hr.2.2.1.1
  obtain ⟨τ1, τ2, ρ2, h1, h2, h3, h4, h5, h6, h7, h8⟩ := byR hr hy hb
  obtain ⟨τ3, b1, b2, b3, b4, -⟩ := bedNowR h3 h4 (by omega)
  obtain ⟨τ4, r1, r2⟩ := h8 τ3 b2
  unfold f_X9_bedBy f_X9_bedNow
  rw [h1, Option.bind_some, h2, Option.bind_some, b1, Option.bind_some, bn2_of, r1, Option.bind_some, b4, h5]
  exact ⟨τ4, rfl, r2⟩
theorem hasByR {W H fm : Int} {ρ τ : pm} (hr : RelW W H fm ρ τ) {y f : Int} (hf : 0 ≤ f ∧ f < fm) (hy : 0 ≤ y ∧ y ≤ 17575) (hb : ∀ f, 0 ≤ f → f < 3 → ¬ bad W H (ρ 9) (τ 65) (ρ 8 6) (ρ 8 4) fm y f) : ∃ τ', f_X9_hasBy y f τ = some (ρ 5 f * cnt (τ 65) (W * H) f (Bt W H ρ y), τ') ∧ agD τ τ' := by
  obtain ⟨a1, a2, a3, -⟩ := id hr
  have m1 := a3.1
  have hfm := a1.2.2.2.2.1
  obtain ⟨τ1, τ2, ρ2, h1, h2, h3, h4, h5, h6, h7, h8⟩ := byR hr hy hb
  have w2 : τ2 63 (28 + f) = ρ2 5 f := by
    rw [h7 _ (by omega), h6 5 (by omega) (by omega) (by omega)]
    have := (a3.2.1 f hf.1 (by omega)).1
    rw [Int.zero_add] at this
    exact this
  obtain ⟨r, τ3, g1, g2, g3⟩ := hasNowR h3 h4 (by omega) hf w2
  rw [h5, gainC h3.1.1 h3.2.2.2.2.2.2.1 h3.2.2.1 hfm hf] at g1
  obtain ⟨τ4, r1, r2⟩ := h8 τ3 g3
  unfold f_X9_hasBy
  rw [h1, Option.bind_some, h2, Option.bind_some, g2, bn2_of, r1, Option.bind_some]
  refine ⟨τ4, ?_, r2⟩
  cases g1
  have e65 : τ2 65 = τ 65 := by
    -- owners stay: the same masks on both sides
    have := h8 τ2 (agB.refl _)
    obtain ⟨τ5, s1, s2⟩ := this
    obtain ⟨τ6, t1, t2, -⟩ := returnsM τ2
    rw [s1] at t1
    cases t1
    rw [← t2 65 (by omega), s2.1 65 (by omega) (by omega) (by omega)]
  rw [e65, h6 5 (by omega) (by omega) (by omega)]
