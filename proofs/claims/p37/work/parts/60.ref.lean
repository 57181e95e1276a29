theorem mayCutM {τ : pm} {W H f : Int} (hl : landM τ W H) (hh : hOK (τ 63)) (h0 : 0 ≤ τ 63 25) (h1 : τ 63 25 < W * H) (ho : ownOK (τ 65)) (hlaw : 0 ≤ τ 63 26 ∧ τ 63 26 ≤ 2) (hf : inR f) : ∃ τ', f_X9_mayCut f τ = some (canM W H (τ 63) (τ 65) (τ 63 26) (bedT W H (τ 63) (τ 63 25)).2.1 f, τ') ∧ agB τ τ' := by
  have bd := hl.1.bd
  unfold f_X9_mayCut f_X9_bedNow
  rw [findBedM hl hh h0 h1, Option.bind_some]
  obtain ⟨b1, b2, -⟩ := bedW_ok (h := τ 63) (τ 71) hl.1 h0 h1
  obtain ⟨t, et⟩ : ∃ t, t = bedW W H (τ 63) (τ 63 25) (τ 71) := ⟨_, rfl⟩
  rw [← et] at b1 b2 ⊢
  have ag := trN_ag τ t
  unfold bn2
  rw [Option.bind_some]
  dsimp only
  rw [trN_get2, b2]
  have e63 : trN τ t 63 = τ 63 := ag.cell (by omega) (by omega)
  have e65 : trN τ t 65 = τ 65 := ag.cell (by omega) (by omega)
  have hl' : landM (trN τ t) W H := hl.keep (ag.fld (by omega) (by omega)) (ag.fld (by omega) (by omega))
  have := mayCutM_loop (b := (bedT W H (τ 63) (τ 63 25)).2.1) (f := f) hl' (by rw [e63]; exact hh) (by rw [e65]; exact ho) (by rw [e63]; exact hlaw) hf (W * H).toNat fu 0 (by unfold fu; omega) (by omega)
  rw [e63, e65] at this
  exact ⟨_, this, ag⟩
/-- the class's ground, by owners -/
def grC (ρ : pm) (own : Int → Int) (W H : Int) : Prop := ∀ f c, 0 ≤ f → f < 3 → 0 ≤ c → c < 32 → (on (ρ 2 f) c ↔ c < W * H ∧ own c = f)
theorem hasFarm_eq {ρ : pm} {f fm : Int} (hf : inR f) (h4 : ρ 1 4 = fm) (hfm : 0 ≤ fm ∧ fm ≤ 3) : f_X3_hasFarm f ρ = some (if 0 ≤ f ∧ f < fm then 1 else 0) := by
  unfold f_X3_hasFarm
  rw [h4, ckp hf]
  by_cases c : f < 0
  · rw [if_pos c, if_neg (by omega)]
  · rw [if_neg c, ckp (by omega)]
    by_cases c2 : fm ≤ f
    · rw [if_pos c2, if_neg (by omega)]
    · rw [if_neg c2, if_pos (by omega)]
theorem hasFarm_yes {ρ : pm} {f fm : Int} (h4 : ρ 1 4 = fm) (hfm : 0 ≤ fm ∧ fm ≤ 3) (h : 0 ≤ f ∧ f < fm) : f_X3_hasFarm f ρ = some 1 := by
  rw [hasFarm_eq (by omega) h4 hfm, if_pos h]
theorem hasFarm_no {ρ : pm} {f fm : Int} (hf : inR f) (h4 : ρ 1 4 = fm) (hfm : 0 ≤ fm ∧ fm ≤ 3) (h : ¬ (0 ≤ f ∧ f < fm)) : f_X3_hasFarm f ρ = some 0 := by
  rw [hasFarm_eq hf h4 hfm, if_neg h]
theorem cutC_loop {q : Nat} {ρ : pm} {f : Int} {K : Int → Option Int} (hf : 0 ≤ f ∧ f < 3) (hh : hOK (ρ (q + 1))) : ∀ (m n c : Nat), m + 1 ≤ n → c + m = 25 → L_X2_cuttable_17 q ρ K n f (mkm (fun c => on (ρ 2 f) c ∧ 3 ≤ ρ (q + 1) c) c) (c : Int) = K (mkm (fun c => on (ρ 2 f) c ∧ 3 ≤ ρ (q + 1) c) 25) := by
  intro m
  induction m with
  | zero =>
    intro n c hn hc
    obtain ⟨k, rfl⟩ : ∃ k, n = k + 1 := ⟨n - 1, by omega⟩
    rw [L_X2_cuttable_17, ckp (by omega), if_pos (by omega), show c = 25 by omega]
  | succ m ih =>
    intro n c hn hc
    obtain ⟨k, rfl⟩ : ∃ k, n = k + 1 := ⟨n - 1, by omega⟩
    have hcc := hh (c : Int) (by omega) (by omega)
    rw [L_X2_cuttable_17, ckp (by omega), if_neg (by omega), ckp hf, has_eq (by omega), Option.bind_some]
    dsimp only [jn]
    have k1 : 0 ≤ (c : Int) ∧ (c : Int) < 25 := by omega
    have k2 : inR (ρ (q + 1) (c : Int)) := by omega
    have ih' := ih k (c + 1) (by omega) (by omega)
    rw [show ((c + 1 : Nat) : Int) = (c : Int) + 1 by omega] at ih'
    unfold mkm at ih'
    rcases bt_01 (ρ 2 f) (c : Int) (by omega) with e | e
    · rw [e, if_pos rfl]
      rw [if_neg (fun z => by have := z.1; unfold on at this; omega)] at ih'
      exact ih'
    · rw [e, if_neg (by decide), ckp k1, ckp k2]
      by_cases c3 : ρ (q + 1) (c : Int) < 3
      · rw [if_pos c3]
        rw [if_neg (fun z => by have := z.2; omega)] at ih'
        exact ih'
      · rw [if_neg c3]
        rw [if_pos ⟨e, by omega⟩] at ih'
        exact ih'
theorem canM_R (W H : Int) (h own : Int → Int) (law b f : Int) : inR (canM W H h own law b f) := mkm_R _ _
theorem on_canM {W H : Int} {h own : Int → Int} {law b f c : Int} (hw : wh W H) (hc : 0 ≤ c ∧ c < 32) : on (canM W H h own law b f) c ↔ c < W * H ∧ canP W H h own law b f c := by
  have bd := hw.bd
  unfold canM
  rw [on_mkm hc (by omega), show (((W * H).toNat : Nat) : Int) = W * H by omega]
theorem cuttableC {q : Nat} {ρ : pm} {W H f fm : Int} {own : Int → Int} (hl : landC ρ W H) (hh : hOK (ρ (q + 1))) (hg : grC ρ own W H) (h4 : ρ 1 4 = fm) (hfm : 0 ≤ fm ∧ fm ≤ 3) (hlaw : 0 ≤ ρ q 6 ∧ ρ q 6 ≤ 2) (hf : 0 ≤ f ∧ f < 3) : f_X2_cuttable q f ρ = some (if f < fm then canM W H (ρ (q + 1)) own (ρ q 6) (ρ q 4) f else 0) := by
  have bd := hl.1.bd
  unfold f_X2_cuttable
  by_cases cf : f < fm
  · rw [hasFarm_yes h4 hfm (by omega), Option.bind_some, if_neg (by decide), if_pos cf]
    have := cutC_loop (K := fun (l2 : Int) => ck (inR (ρ q 6)) (if (ρ q 6) = 1 then (f_X3_beside (ρ q 4) ρ).bind (fun v13 => some (band l2 (bor (ρ q 4) v13))) else if (ρ q 6) = 2 then (f_X3_beside (ρ q 4) ρ).bind (fun v12 => some (band (band l2 v12) (bxor (ρ q 4) (-1)))) else some l2)) (q := q) hf hh 25 fu 0 (by unfold fu; omega) (by omega)
    refine Eq.trans this ?_
    obtain ⟨r, r1, r2, r3⟩ := besideC (b := ρ q 4) hl
    have l3 : ρ q 6 = 0 ∨ ρ q 6 = 1 ∨ ρ q 6 = 2 := by omega
    have kR : inR (ρ q 6) := by omega
    have hN : W * H ≤ 25 := bd.2.2.2.2.2
    rw [ckp kR, r1, Option.bind_some, Option.bind_some]
    have base : ∀ c, 0 ≤ c → c < 32 → (on (mkm (fun c => on (ρ 2 f) c ∧ 3 ≤ ρ (q + 1) c) 25) c ↔ c < W * H ∧ own c = f ∧ 3 ≤ ρ (q + 1) c) := by
      intro c a1 a2
      rw [on_mkm ⟨a1, a2⟩ (by omega), hg f c hf.1 hf.2 a1 a2]
      constructor
      · rintro ⟨z1, ⟨z2, z3⟩, z4⟩; exact ⟨z2, z3, z4⟩
      · rintro ⟨z2, z3, z4⟩; exact ⟨Int.lt_of_lt_of_le z2 hN, ⟨z2, z3⟩, z4⟩
    rcases l3 with l | l | l
    · rw [if_neg (by rw [l]; decide), if_neg (by rw [l]; decide)]
      refine congrArg some (on_ext (mkm_R _ _) (canM_R _ _ _ _ _ _ _) (fun c a1 a2 => ?_))
      rw [base c a1 a2, on_canM hl.1 ⟨a1, a2⟩]
      exact ⟨fun z => ⟨z.1, z.2.1, z.2.2, Or.inl l⟩, fun z => ⟨z.1, z.2.1, z.2.2.1⟩⟩
    · rw [if_pos l]
      refine congrArg some (on_ext (band_R _ _) (canM_R _ _ _ _ _ _ _) (fun c a1 a2 => ?_))
      rw [on_band ⟨a1, a2⟩, on_bor ⟨a1, a2⟩, base c a1 a2, on_canM hl.1 ⟨a1, a2⟩]
      constructor
      · rintro ⟨⟨z1, z2, z3⟩, z4⟩
        exact ⟨z1, z2, z3, Or.inr (Or.inl ⟨l, z4.imp id (fun y => (r3 c a1 z1).mp y)⟩)⟩
      · rintro ⟨z1, z2, z3, z4⟩
        refine ⟨⟨z1, z2, z3⟩, ?_⟩
        rcases z4 with y | y | y
        · rw [l] at y; exact absurd y (by decide)
        · exact y.2.imp id (fun x => (r3 c a1 z1).mpr x)
        · have := y.1; rw [l] at this; exact absurd this (by decide)
    · rw [if_neg (by rw [l]; decide), if_pos l]
      refine congrArg some (on_ext (band_R _ _) (canM_R _ _ _ _ _ _ _) (fun c a1 a2 => ?_))
      rw [on_band ⟨a1, a2⟩, on_band ⟨a1, a2⟩, on_not ⟨a1, a2⟩, base c a1 a2, on_canM hl.1 ⟨a1, a2⟩]
      constructor
      · rintro ⟨⟨⟨z1, z2, z3⟩, z4⟩, z5⟩
        exact ⟨z1, z2, z3, Or.inr (Or.inr ⟨l, (r3 c a1 z1).mp z4, z5⟩)⟩
      · rintro ⟨z1, z2, z3, z4⟩
        rcases z4 with y | y | y
        · rw [l] at y; exact absurd y (by decide)
        · have := y.1; rw [l] at this; exact absurd this (by decide)
        · exact ⟨⟨⟨z1, z2, z3⟩, (r3 c a1 z1).mpr y.2.1⟩, y.2.2⟩
  · rw [hasFarm_no (by omega) h4 hfm (by omega), Option.bind_some, if_pos rfl, if_neg cf]
/-- the farm's part of the year can't be -/
def bad (W H : Int) (h own : Int → Int) (law b fm y f : Int) : Prop := dig y f ≠ 0 ∧ ¬ (f < fm ∧ bt (canM W H h own law b f) (dig y f - 1) = 1)
/-- the first place that can't be, else z -/
noncomputable def rfs (B : Int → Prop) (z : Int) : Int := @ite _ (B 0) (Classical.propDecidable _) 0 (@ite _ (B 1) (Classical.propDecidable _) 1 (@ite _ (B 2) (Classical.propDecidable _) 2 z))
theorem rfs_0 {B : Int → Prop} {z : Int} (h : B 0) : rfs B z = 0 := by unfold rfs; rw [@if_pos _ (Classical.propDecidable _) h]
theorem rfs_1 {B : Int → Prop} {z : Int} (h0 : ¬ B 0) (h : B 1) : rfs B z = 1 := by unfold rfs; rw [@if_neg _ (Classical.propDecidable _) h0, @if_pos _ (Classical.propDecidable _) h]
theorem rfs_2 {B : Int → Prop} {z : Int} (h0 : ¬ B 0) (h1 : ¬ B 1) (h : B 2) : rfs B z = 2 := by unfold rfs; rw [@if_neg _ (Classical.propDecidable _) h0, @if_neg _ (Classical.propDecidable _) h1, @if_pos _ (Classical.propDecidable _) h]
theorem rfs_n {B : Int → Prop} {z : Int} (h0 : ¬ B 0) (h1 : ¬ B 1) (h : ¬ B 2) : rfs B z = z := by unfold rfs; rw [@if_neg _ (Classical.propDecidable _) h0, @if_neg _ (Classical.propDecidable _) h1, @if_neg _ (Classical.propDecidable _) h]
theorem refC_step {q : Nat} {ρ : pm} {W H fm y f f' : Int} {n : Nat} {own : Int → Int} (hl : landC ρ W H) (hh : hOK (ρ (q + 1))) (hg : grC ρ own W H) (h4 : ρ 1 4 = fm) (hfm : 0 ≤ fm ∧ fm ≤ 3) (hlaw : 0 ≤ ρ q 6 ∧ ρ q 6 ≤ 2) (hy : 0 ≤ y ∧ y ≤ 2147483647) (hf : 0 ≤ f ∧ f < 3) (e : f + 1 = f') :
    (bad W H (ρ (q + 1)) own (ρ q 6) (ρ q 4) fm y f → L_X2_refused_2 q ρ (n + 1) y f = some f) ∧ (¬ bad W H (ρ (q + 1)) own (ρ q 6) (ρ q 4) fm y f → L_X2_refused_2 q ρ (n + 1) y f = L_X2_refused_2 q ρ n y f') := by
  subst e
  have db := dig_bd y f
  have E : L_X2_refused_2 q ρ (n + 1) y f = (if dig y f = 0 then L_X2_refused_2 q ρ n y (f + 1) else if bt (if f < fm then canM W H (ρ (q + 1)) own (ρ q 6) (ρ q 4) f else 0) (dig y f - 1) = 0 then some f else L_X2_refused_2 q ρ n y (f + 1)) := by
    rw [L_X2_refused_2, ckp (by omega), if_neg (by omega), option_eq hy hf, Option.bind_some, ckp (by omega)]
    dsimp only [jn]
    by_cases c : dig y f = 0
    · rw [if_pos c, if_pos c]
    · rw [if_neg c, if_neg c, cuttableC hl hh hg h4 hfm hlaw hf, Option.bind_some, has_eq (by omega), Option.bind_some]
  rw [E]
  unfold bad
  constructor
  · rintro ⟨h1, h2⟩
    rw [if_neg h1]
    by_cases cf : f < fm
    · rw [if_pos cf, if_pos ((bt_off (by omega)).mp (fun z => h2 ⟨cf, z⟩))]
    · rw [if_neg cf, bt_zero (by omega), if_pos rfl]
  · intro h
    by_cases c : dig y f = 0
    · rw [if_pos c]
    · rw [if_neg c]
      have : f < fm ∧ bt (canM W H (ρ (q + 1)) own (ρ q 6) (ρ q 4) f) (dig y f - 1) = 1 := Classical.byContradiction (fun z => h ⟨c, z⟩)
      rw [if_pos this.1, this.2, if_neg (by decide)]
theorem refusedC {q : Nat} {ρ : pm} {W H fm y : Int} {own : Int → Int} (hl : landC ρ W H) (hh : hOK (ρ (q + 1))) (hg : grC ρ own W H) (h4 : ρ 1 4 = fm) (hfm : 0 ≤ fm ∧ fm ≤ 3) (hlaw : 0 ≤ ρ q 6 ∧ ρ q 6 ≤ 2) (hy : 0 ≤ y ∧ y ≤ 2147483647) : f_X2_refused q y ρ = some (rfs (bad W H (ρ (q + 1)) own (ρ q 6) (ρ q 4) fm y) (-1)) := by
  unfold f_X2_refused
  rw [show fu = 99996 + 1 + 1 + 1 + 1 from rfl]
  obtain ⟨a0, b0⟩ := refC_step (f := 0) (f' := 1) (n := 99996 + 1 + 1 + 1) hl hh hg h4 hfm hlaw hy (by omega) rfl
  obtain ⟨a1, b1⟩ := refC_step (f := 1) (f' := 2) (n := 99996 + 1 + 1) hl hh hg h4 hfm hlaw hy (by omega) rfl
  obtain ⟨a2, b2⟩ := refC_step (f := 2) (f' := 3) (n := 99996 + 1) hl hh hg h4 hfm hlaw hy (by omega) rfl
  by_cases c0 : bad W H (ρ (q + 1)) own (ρ q 6) (ρ q 4) fm y 0
  · rw [a0 c0, rfs_0 c0]
  · rw [b0 c0]
    by_cases c1 : bad W H (ρ (q + 1)) own (ρ q 6) (ρ q 4) fm y 1
    · rw [a1 c1, rfs_1 c0 c1]
    · rw [b1 c1]
      by_cases c2 : bad W H (ρ (q + 1)) own (ρ q 6) (ρ q 4) fm y 2
      · rw [a2 c2, rfs_2 c0 c1 c2]
      · rw [b2 c2, rfs_n c0 c1 c2, L_X2_refused_2, ckp (by omega), if_pos (by omega)]
theorem fwM_step {τ : pm} {W H y f f' wr : Int} {n : Nat} (hl : landM τ W H) (hh : hOK (τ 63)) (h0 : 0 ≤ τ 63 25) (h1 : τ 63 25 < W * H) (ho : ownOK (τ 65)) (hlaw : 0 ≤ τ 63 26 ∧ τ 63 26 ≤ 2) (hfm : 0 ≤ τ 62 4 ∧ τ 62 4 ≤ 3) (hy : 0 ≤ y ∧ y ≤ 2147483647) (hf : 0 ≤ f ∧ f < 3) (e : f + (-1) = f') :
    ∃ τ', agB τ τ' ∧ (bad W H (τ 63) (τ 65) (τ 63 26) (bedT W H (τ 63) (τ 63 25)).2.1 (τ 62 4) y f → L_X9_firstWrong_4 (n + 1) y wr f τ = L_X9_firstWrong_4 n y f f' τ') ∧ (¬ bad W H (τ 63) (τ 65) (τ 63 26) (bedT W H (τ 63) (τ 63 25)).2.1 (τ 62 4) y f → L_X9_firstWrong_4 (n + 1) y wr f τ = L_X9_firstWrong_4 n y wr f' τ') := by
  subst e
  have db := dig_bd y f
  have E0 : ∀ X, L_X9_firstWrong_4 (n + 1) y wr f τ = X ↔ L_X9_firstWrong_4 (n + 1) y wr f τ = X := fun _ => Iff.rfl
  clear E0
  by_cases cd : dig y f = 0
  · refine ⟨τ, agB.refl τ, fun h => absurd cd h.1, fun _ => ?_⟩
    rw [L_X9_firstWrong_4, ckp (by omega), if_neg (by omega), cutOf_eq hy hf, Option.bind_some, ckp (by omega)]
    dsimp only [jn]
    rw [if_pos (by omega), ckp (by decide), if_neg (by decide)]
  · by_cases cf : τ 62 4 ≤ f
    · refine ⟨τ, agB.refl τ, fun _ => ?_, fun h => absurd ⟨cd, fun z => by have := z.1; omega⟩ h⟩
      rw [L_X9_firstWrong_4, ckp (by omega), if_neg (by omega), cutOf_eq hy hf, Option.bind_some, ckp (by omega)]
      dsimp only [jn]
      rw [if_neg (by omega), ckp (by omega), if_pos cf, ckp (by decide), if_pos rfl]
    · obtain ⟨τ', m1, m2⟩ := mayCutM (f := f) hl hh h0 h1 ho hlaw (by omega)
      have E : L_X9_firstWrong_4 (n + 1) y wr f τ = (if bt (canM W H (τ 63) (τ 65) (τ 63 26) (bedT W H (τ 63) (τ 63 25)).2.1 f) (dig y f - 1) = 1 then L_X9_firstWrong_4 n y wr (f + (-1)) τ' else L_X9_firstWrong_4 n y f (f + (-1)) τ') := by
        rw [L_X9_firstWrong_4, ckp (by omega), if_neg (by omega), cutOf_eq hy hf, Option.bind_some, ckp (by omega)]
        dsimp only [jn]
        rw [if_neg (by omega), ckp (by omega), if_neg cf, m1]
        unfold bn2
        rw [Option.bind_some]
        dsimp only
        change (if bt _ _ = 1 then _ else _) = _
        by_cases z : bt (canM W H (τ 63) (τ 65) (τ 63 26) (bedT W H (τ 63) (τ 63 25)).2.1 f) (dig y f - 1) = 1
        · rw [if_pos z, if_pos z, ckp (by decide), if_neg (by decide)]
        · rw [if_neg z, if_neg z, ckp (by decide), if_pos rfl]
      refine ⟨τ', m2, fun h => ?_, fun h => ?_⟩
      · rw [E, if_neg (fun z => h.2 ⟨by omega, z⟩)]
      · have : f < τ 62 4 ∧ bt (canM W H (τ 63) (τ 65) (τ 63 26) (bedT W H (τ 63) (τ 63 25)).2.1 f) (dig y f - 1) = 1 := Classical.byContradiction (fun z => h ⟨cd, z⟩)
        rw [E, if_pos this.2]
theorem firstWrongM {τ : pm} {W H y : Int} (hl : landM τ W H) (hh : hOK (τ 63)) (h0 : 0 ≤ τ 63 25) (h1 : τ 63 25 < W * H) (ho : ownOK (τ 65)) (hlaw : 0 ≤ τ 63 26 ∧ τ 63 26 ≤ 2) (hfm : 0 ≤ τ 62 4 ∧ τ 62 4 ≤ 3) (hy : 0 ≤ y ∧ y ≤ 2147483647) : ∃ τ', f_X9_firstWrong y τ = some (rfs (bad W H (τ 63) (τ 65) (τ 63 26) (bedT W H (τ 63) (τ 63 25)).2.1 (τ 62 4) y) 3, τ') ∧ agB τ τ' := by
  unfold f_X9_firstWrong
  rw [show fu = 99996 + 1 + 1 + 1 + 1 from rfl]
  have tr : ∀ {τ'}, agB τ τ' → landM τ' W H ∧ τ' 63 = τ 63 ∧ τ' 65 = τ 65 ∧ τ' 62 4 = τ 62 4 := fun a => ⟨hl.keep (a.fld (by omega) (by omega)) (a.fld (by omega) (by omega)), a.cell (by omega) (by omega), a.cell (by omega) (by omega), a.fld (by omega) (by omega)⟩
  have st : ∀ {τ1} (n : Nat) (wr f f' : Int), agB τ τ1 → 0 ≤ f ∧ f < 3 → f + (-1) = f' → ∃ τ', agB τ τ' ∧ (bad W H (τ 63) (τ 65) (τ 63 26) (bedT W H (τ 63) (τ 63 25)).2.1 (τ 62 4) y f → L_X9_firstWrong_4 (n + 1) y wr f τ1 = L_X9_firstWrong_4 n y f f' τ') ∧ (¬ bad W H (τ 63) (τ 65) (τ 63 26) (bedT W H (τ 63) (τ 63 25)).2.1 (τ 62 4) y f → L_X9_firstWrong_4 (n + 1) y wr f τ1 = L_X9_firstWrong_4 n y wr f' τ') := by
    intro τ1 n wr f f' a hf e
    obtain ⟨k1, k2, k3, k4⟩ := tr a
    have := fwM_step (τ := τ1) (wr := wr) (n := n) (f' := f') k1 (by rw [k2]; exact hh) (by rw [k2]; exact h0) (by rw [k2]; exact h1) (by rw [k3]; exact ho) (by rw [k2]; exact hlaw) (by rw [k4]; exact hfm) hy hf e
    rw [k2, k3, k4] at this
    obtain ⟨τ', g1, g2⟩ := this
    exact ⟨τ', a.trans g1, g2⟩
  have last : ∀ {τ1} (wr : Int), L_X9_firstWrong_4 (99996 + 1) y wr (-1) τ1 = some (wr, τ1) := fun wr => by rw [L_X9_firstWrong_4, ckp (by omega), if_pos (by omega)]
  obtain ⟨τ1, a1, p1, q1⟩ := st (99996 + 1 + 1 + 1) 3 2 1 (agB.refl τ) (by omega) rfl
  by_cases c2 : bad W H (τ 63) (τ 65) (τ 63 26) (bedT W H (τ 63) (τ 63 25)).2.1 (τ 62 4) y 2
  · rw [p1 c2]
    obtain ⟨τ2, a2, p2, q2⟩ := st (99996 + 1 + 1) 2 1 0 a1 (by omega) rfl
    by_cases c1 : bad W H (τ 63) (τ 65) (τ 63 26) (bedT W H (τ 63) (τ 63 25)).2.1 (τ 62 4) y 1
    · rw [p2 c1]
      obtain ⟨τ3, a3, p3, q3⟩ := st (99996 + 1) 1 0 (-1) a2 (by omega) rfl
      by_cases c0 : bad W H (τ 63) (τ 65) (τ 63 26) (bedT W H (τ 63) (τ 63 25)).2.1 (τ 62 4) y 0
      · rw [p3 c0, last, rfs_0 c0]; exact ⟨τ3, rfl, a3⟩
      · rw [q3 c0, last, rfs_1 c0 c1]; exact ⟨τ3, rfl, a3⟩
    · rw [q2 c1]
      obtain ⟨τ3, a3, p3, q3⟩ := st (99996 + 1) 2 0 (-1) a2 (by omega) rfl
      by_cases c0 : bad W H (τ 63) (τ 65) (τ 63 26) (bedT W H (τ 63) (τ 63 25)).2.1 (τ 62 4) y 0
      · rw [p3 c0, last, rfs_0 c0]; exact ⟨τ3, rfl, a3⟩
      · rw [q3 c0, last, rfs_2 c0 c1 c2]; exact ⟨τ3, rfl, a3⟩
  · rw [q1 c2]
    obtain ⟨τ2, a2, p2, q2⟩ := st (99996 + 1 + 1) 3 1 0 a1 (by omega) rfl
    by_cases c1 : bad W H (τ 63) (τ 65) (τ 63 26) (bedT W H (τ 63) (τ 63 25)).2.1 (τ 62 4) y 1
    · rw [p2 c1]
      obtain ⟨τ3, a3, p3, q3⟩ := st (99996 + 1) 1 0 (-1) a2 (by omega) rfl
      by_cases c0 : bad W H (τ 63) (τ 65) (τ 63 26) (bedT W H (τ 63) (τ 63 25)).2.1 (τ 62 4) y 0
      · rw [p3 c0, last, rfs_0 c0]; exact ⟨τ3, rfl, a3⟩
      · rw [q3 c0, last, rfs_1 c0 c1]; exact ⟨τ3, rfl, a3⟩
    · rw [q2 c1]
      obtain ⟨τ3, a3, p3, q3⟩ := st (99996 + 1) 3 0 (-1) a2 (by omega) rfl
      by_cases c0 : bad W H (τ 63) (τ 65) (τ 63 26) (bedT W H (τ 63) (τ 63 25)).2.1 (τ 62 4) y 0
      · rw [p3 c0, last, rfs_0 c0]; exact ⟨τ3, rfl, a3⟩
      · rw [q3 c0, last, rfs_n c0 c1 c2]; exact ⟨τ3, rfl, a3⟩
