/-! any line of both; whether the draft is whole -/
theorem tkL_no {ρ : pm} : tkL (-4) ρ = f_X6_fail 2 ρ := rfl
theorem lineR {ρ τ : pm} (tp : TpR ρ τ) (t : TokR ρ τ) (d : DraR ρ τ) : ∃ ρ' τ', f_X1_takeLine ρ = some ρ' ∧ f_X9_readLine τ = some τ' ∧ LnR ρ τ ρ' τ' := by
  have t' := t
  obtain ⟨b1, b2, b3, b4, b5, b6, b7, b8, b9, b10⟩ := t'
  have r26 : inR (τ 62 26) := ⟨by omega, by omega⟩
  have no : f_X1_takeLine ρ = f_X6_fail 2 ρ → (τ 62 26 ≠ 1 ∨ f_X9_lineNow τ = some (-4)) → ∃ ρ' τ', f_X1_takeLine ρ = some ρ' ∧ f_X9_readLine τ = some τ' ∧ LnR ρ τ ρ' τ' := fun e z => ⟨_, _, by rw [e, fail_eq], rl_none b2 r26 z, (tk_failC _ _ _).ln, (tk_failM _ _ _).ln, Or.inl (t.fails (c := 2) (d := 2) tp (by omega) (by omega))⟩
  by_cases k1 : ρ 50 3 = 1
  · obtain ⟨k, ln, tl, hk⟩ := lineNowR tp t k1
    rcases hk with z | z
    · rw [z] at ln tl
      exact no tl (Or.inr ln)
    · have kc : k = 0 ∨ k = 1 ∨ k = 2 ∨ k = 3 ∨ k = 4 ∨ k = 5 ∨ k = 6 := by omega
      rw [tl]
      rcases kc with e | e | e | e | e | e | e
      · rw [e] at ln ⊢; exact plainR tp t d k1 ln
      · rw [e] at ln ⊢; exact springR tp t d k1 ln
      · rw [e] at ln ⊢; exact lawR tp t d k1 ln
      · rw [e] at ln ⊢; exact siltR tp t d k1 ln
      · rw [e] at ln ⊢; exact rowR tp t d k1 ln
      · rw [e] at ln ⊢; exact farmR tp t d k1 ln
      · rw [e] at ln ⊢; exact groundR tp t d k1 ln
  · refine no ?_ (Or.inl (by omega))
    have r3 : inR (ρ 50 3) := ⟨by omega, by omega⟩
    unfold f_X1_takeLine
    simp only [says_not r3 k1, Option.bind_some, bS, if_true]
theorem tb_shr {m s : Int} (hs : 0 ≤ s ∧ s < 32) {k : Nat} (hk : k < 32) : tb (bshr m s) k = if s.toNat + k < 32 then tb m (s.toNat + k) else tb m 31 := by
  unfold bshr
  rw [tb_toInt, Int32.toBitVec_shiftRight]
  unfold tb
  rw [BitVec.sshiftRight_eq', sh_amt hs, BitVec.getLsbD_sshiftRight, BitVec.msb_eq_getLsbD_last]
  have : decide (32 ≤ k) = false := decide_eq_false (by omega)
  rw [this]
  rfl
theorem bshr_zero {m s : Int} (hs : 0 ≤ s ∧ s < 32) : bshr m s = 0 ↔ ∀ c, s ≤ c → c < 32 → ¬ on m c := by
  constructor
  · intro h c c0 c1
    rw [on_tb (by omega)]
    have := tb_shr (m := m) hs (k := c.toNat - s.toNat) (by omega)
    rw [h, tb_zero, if_pos (by omega), show s.toNat + (c.toNat - s.toNat) = c.toNat by omega] at this
    rw [← this]
    decide
  · intro h
    apply tb_ext (bshr_R _ _) R_0
    intro k hk
    rw [tb_zero, tb_shr hs hk]
    have F : ∀ j : Nat, s ≤ (j : Int) → j < 32 → tb m j = false := fun j j0 j1 => by
      have := h (j : Int) j0 (by omega)
      rw [on_tb (by omega), Int.toNat_natCast] at this
      cases e : tb m j with
      | true => exact absurd e this
      | false => rfl
    split
    · exact F _ (by omega) (by omega)
    · exact F 31 (by omega) (by omega)
theorem wh_rows {ρ : pm} {K : Option Int} {W H : Int} (h4 : ρ 52 4 = W) (h5 : ρ 52 5 = H) (hW : 2 ≤ W ∧ W ≤ 5) (hH : 2 ≤ H ∧ H ≤ 5) (hl : ∀ r, 0 ≤ r → r < 5 → 0 ≤ ρ 54 r ∧ ρ 54 r ≤ 5) : ∀ (m n : Nat) (i : Int), i + (m : Int) = 5 → 0 ≤ i → m + 1 ≤ n → ((∀ r, i ≤ r → r < 5 → ρ 54 r ≤ (if r < H then W else 0)) ∧ L_X1_isWhole_2 ρ K n i = K) ∨ ((¬ ∀ r, i ≤ r → r < 5 → ρ 54 r ≤ (if r < H then W else 0)) ∧ L_X1_isWhole_2 ρ K n i = some 0) := by
  intro m
  induction m with
  | zero =>
    intro n i e i0 hn
    obtain ⟨n, rfl⟩ : ∃ n', n = n' + 1 := ⟨n - 1, by omega⟩
    left
    refine ⟨fun r r0 r1 => by omega, ?_⟩
    rw [L_X1_isWhole_2, ckp (show inR i from ⟨by omega, by omega⟩), if_pos (by omega)]
  | succ m ih =>
    intro n i e i0 hn
    obtain ⟨n, rfl⟩ : ∃ n', n = n' + 1 := ⟨n - 1, by omega⟩
    have li := hl i i0 (by omega)
    have rl : inR (ρ 54 i) := ⟨by omega, by omega⟩
    have E : L_X1_isWhole_2 ρ K (n + 1) i = if ρ 54 i ≤ (if i < H then W else 0) then L_X1_isWhole_2 ρ K n (i + 1) else some 0 := by
      rw [L_X1_isWhole_2, ckp (show inR i from ⟨by omega, by omega⟩), if_neg (by omega), ckp (by omega), h5, ckp (show inR H from ⟨by omega, by omega⟩), h4]
      dsimp only [jn]
      rw [ckp rl, ckp R_0, ckp rl, ckp (show inR W from ⟨by omega, by omega⟩)]
      by_cases k : H ≤ i
      · rw [if_pos k, if_neg (show ¬ i < H by omega)]
      · rw [if_neg k, if_pos (show i < H by omega)]
    rw [E]
    by_cases c : ρ 54 i ≤ (if i < H then W else 0)
    · rw [if_pos c]
      rcases ih n (i + 1) (by omega) (by omega) (by omega) with ⟨x, y⟩ | ⟨x, y⟩
      · left
        refine ⟨fun r r0 r1 => ?_, y⟩
        by_cases er : r = i
        · rw [er]; exact c
        · exact x r (by omega) r1
      · right
        exact ⟨fun z => x (fun r r0 r1 => z r (by omega) r1), y⟩
    · rw [if_neg c]
      right
      exact ⟨fun z => c (z i (Int.le_refl _) (by omega)), rfl⟩
theorem wh_farms {ρ : pm} {K : Option Int} {S fm : Int} (h4 : ρ 52 4 * ρ 52 5 = S) (h8 : ρ 52 8 = fm) (hf : 0 ≤ fm ∧ fm ≤ 3) : ∀ (m n : Nat) (i : Int), i + (m : Int) = 3 → 0 ≤ i → m + 1 ≤ n → ((∀ f, i ≤ f → f < 3 → bshr (ρ 55 f) (if f < fm then S else 0) = 0) ∧ L_X1_isWhole_42 ρ K n i = K) ∨ ((¬ ∀ f, i ≤ f → f < 3 → bshr (ρ 55 f) (if f < fm then S else 0) = 0) ∧ L_X1_isWhole_42 ρ K n i = some 0) := by
  intro m
  induction m with
  | zero =>
    intro n i e i0 hn
    obtain ⟨n, rfl⟩ : ∃ n', n = n' + 1 := ⟨n - 1, by omega⟩
    left
    refine ⟨fun r r0 r1 => by omega, ?_⟩
    rw [L_X1_isWhole_42, ckp (show inR i from ⟨by omega, by omega⟩), if_pos (by omega)]
  | succ m ih =>
    intro n i e i0 hn
    obtain ⟨n, rfl⟩ : ∃ n', n = n' + 1 := ⟨n - 1, by omega⟩
    have E : L_X1_isWhole_42 ρ K (n + 1) i = if bshr (ρ 55 i) (if i < fm then S else 0) = 0 then L_X1_isWhole_42 ρ K n (i + 1) else some 0 := by
      rw [L_X1_isWhole_42, ckp (show inR i from ⟨by omega, by omega⟩), if_neg (by omega), ckp (by omega), h8, ckp (show inR fm from ⟨by omega, by omega⟩), h4]
      dsimp only [jn]
      by_cases k : fm ≤ i
      · rw [if_pos k, if_neg (show ¬ i < fm by omega)]
      · rw [if_neg k, if_pos (show i < fm by omega)]
    rw [E]
    by_cases c : bshr (ρ 55 i) (if i < fm then S else 0) = 0
    · rw [if_pos c]
      rcases ih n (i + 1) (by omega) (by omega) (by omega) with ⟨x, y⟩ | ⟨x, y⟩
      · left
        refine ⟨fun r r0 r1 => ?_, y⟩
        by_cases er : r = i
        · rw [er]; exact c
        · exact x r (by omega) r1
      · right
        exact ⟨fun z => x (fun r r0 r1 => z r (by omega) r1), y⟩
    · rw [if_neg c]
      right
      exact ⟨fun z => c (z i (Int.le_refl _) (by omega)), rfl⟩
def whM (τ : pm) : Prop := τ 62 18 < τ 62 7 ∧ τ 62 19 < τ 62 6 ∧ τ 62 20 < τ 62 6 * τ 62 7 ∧ τ 62 21 < τ 62 9
theorem side_mul {W H : Int} (hW : 2 ≤ W ∧ W ≤ 5) (hH : 2 ≤ H ∧ H ≤ 5) : 4 ≤ W * H ∧ W * H ≤ 25 := by
  have a : W = 2 ∨ W = 3 ∨ W = 4 ∨ W = 5 := by omega
  rcases a with e | e | e | e <;> rw [e] <;> omega
theorem wholeR {ρ τ : pm} (d : DraR ρ τ) : (whM τ ∧ f_X1_isWhole ρ = some 1) ∨ (¬ whM τ ∧ f_X1_isWhole ρ = some 0) := by
  obtain ⟨⟨⟨s1, s2⟩, s3, s4⟩, h2, h3, ⟨w1, w2, w3⟩, ⟨y1, y2, y3, y4, y5, y6⟩, ⟨⟨g1, g1'⟩, g2, g3, g4, g5, g6, g7⟩⟩ := d
  have sm := side_mul s1 s3
  obtain ⟨W, eW⟩ : ∃ W, W = ρ 52 4 := ⟨_, rfl⟩
  obtain ⟨H, eH⟩ : ∃ H, H = ρ 52 5 := ⟨_, rfl⟩
  obtain ⟨fm, ef⟩ : ∃ fm, fm = ρ 52 8 := ⟨_, rfl⟩
  have eS : ∃ S, S = W * H := ⟨_, rfl⟩
  obtain ⟨S, eS⟩ := eS
  rw [← eW, ← eH, ← eS] at sm
  unfold whM
  rw [s2, s4, w2, ← eW, ← eH, ← ef, ← eS, y5 H (by omega), y6 W (by omega), g6 S (by omega), g7 fm (by omega)]
  unfold f_X1_isWhole
  rw [← eW, ← eH, ← eS, ckp (show inR (ρ 52 6) from ⟨by omega, by omega⟩), ckp (show inR S from ⟨by omega, by omega⟩)]
  obtain ⟨K2, e2⟩ : ∃ K2 : Option Int, K2 = L_X1_isWhole_42 ρ (if S ≤ ρ 52 6 then some 0 else some 1) fu 0 := ⟨_, rfl⟩
  rw [← e2]
  have rows : (∀ r, 0 ≤ r → r < 5 → ρ 54 r ≤ (if r < H then W else 0)) ↔ ((∀ r, 0 ≤ r → r < 5 → ρ 54 r ≠ 0 → r < H) ∧ ∀ r, 0 ≤ r → r < 5 → ρ 54 r ≤ W) := by
    constructor
    · intro z
      refine ⟨fun r r0 r1 r2 => ?_, fun r r0 r1 => ?_⟩
      · have a := z r r0 r1
        have b := (y2 r r0 r1).1
        split at a <;> omega
      · have a := z r r0 r1
        split at a <;> omega
    · intro z r r0 r1
      have a := z.1 r r0 r1
      have b := z.2 r r0 r1
      have c := (y2 r r0 r1).1
      by_cases q : ρ 54 r = 0
      · rw [q]; split <;> omega
      · rw [if_pos (a q)]; exact b
  have frm : (∀ f, 0 ≤ f → f < 3 → bshr (ρ 55 f) (if f < fm then S else 0) = 0) ↔ ((∀ c, 0 ≤ c → c < 25 → τ 68 c ≠ -4 → c < S) ∧ ∀ c, 0 ≤ c → c < 25 → τ 68 c < fm) := by
    constructor
    · intro z
      have k : ∀ c, 0 ≤ c → c < 25 → τ 68 c ≠ -4 → c < S ∧ τ 68 c < fm := fun c c0 c1 c2 => by
        have o := g2 c c0 c1
        have on' := ((g3 (τ 68 c) (by omega) (by omega)).2.2 c c0 (by omega)).mpr ⟨c1, rfl⟩
        have zz := z (τ 68 c) (by omega) (by omega)
        by_cases q : τ 68 c < fm
        · rw [if_pos q, bshr_zero (by omega)] at zz
          exact ⟨Int.lt_of_not_ge (fun y => zz c y (by omega) on'), q⟩
        · rw [if_neg q, bshr_zero (by omega)] at zz
          exact absurd on' (zz c c0 (by omega))
      refine ⟨fun c c0 c1 c2 => (k c c0 c1 c2).1, fun c c0 c1 => ?_⟩
      by_cases q : τ 68 c = -4
      · omega
      · exact (k c c0 c1 q).2
    · intro z f f0 f1
      have o := (g3 f f0 f1).2.2
      rw [bshr_zero (by split <;> omega)]
      intro c c0 c1 y
      have cp : 0 ≤ c := by split at c0 <;> omega
      have yy := (o c cp c1).mp y
      have k1 := z.1 c cp yy.1 (by omega)
      have k2 := z.2 c cp yy.1
      rw [if_pos (by omega)] at c0
      omega
  rcases wh_rows (K := K2) (H := H) (W := W) eW.symm eH.symm (by omega) (by omega) (fun r r0 r1 => (y2 r r0 r1).1) 5 fu 0 (by omega) (by omega) (by unfold fu; omega) with ⟨x1, x2⟩ | ⟨x1, x2⟩
  · rw [x2, e2]
    have rr := rows.mp x1
    rcases wh_farms (K := if S ≤ ρ 52 6 then some 0 else some 1) (S := S) (fm := fm) (by rw [eS, eW, eH]) ef.symm (by omega) 3 fu 0 (by omega) (by omega) (by unfold fu; omega) with ⟨z1, z2⟩ | ⟨z1, z2⟩
    · rw [z2]
      have ff := frm.mp z1
      by_cases q : S ≤ ρ 52 6
      · right
        rw [if_pos q]
        exact ⟨fun y => by have := y.2.2.1.1; omega, rfl⟩
      · left
        rw [if_neg q]
        exact ⟨⟨rr.1, rr.2, ⟨by omega, ff.1⟩, ff.2⟩, rfl⟩
    · right
      exact ⟨fun y => z1 (frm.mpr ⟨y.2.2.1.2, y.2.2.2⟩), z2⟩
  · right
    exact ⟨fun y => x1 (rows.mpr ⟨y.1, y.2.1⟩), x2⟩
/-- a whole draft under way is a draft that was read to its end -/
theorem DraR.done {ρ τ : pm} (d : DraR ρ τ) (w : whM τ) : DrR (ρ 52 4) (ρ 52 5) (ρ 52 8) ρ τ := by
  obtain ⟨⟨⟨s1, s2⟩, s3, s4⟩, h2, h3, ⟨w1, w2, w3⟩, ⟨y1, y2, y3, y4, y5, y6⟩, ⟨⟨g1, g1'⟩, g2, g3, g4, g5, g6, g7⟩⟩ := d
  have sm := side_mul s1 s3
  unfold whM at w
  rw [s2, s4, w2] at w
  obtain ⟨a1, a2, a3, a4⟩ := w
  have b3 := (g6 _ (by omega)).mp a3
  have b4 := (g7 _ (by omega)).mp a4
  refine ⟨⟨by omega, by omega⟩, ⟨rfl, rfl, s2, s4⟩, ⟨rfl, w2, w1.1, w1.2⟩, ⟨g1.1, b3.1, g1'⟩, ⟨h2.1.1, h2.1.2, h2.2⟩, h3.2.2.1, fun j j0 j1 => ⟨(y1 j j0 j1).1, (y1 j j0 j1).2.1, by have := (y1 j j0 j1).2.2; omega⟩, w3, g2, fun f c f0 f1 c0 c1 => ?_, fun f => ?_, fun c c0 c1 => b4 c c0 (by omega), fun f f0 f1 => ⟨by have := (g3 f f0 f1).1; omega, by have := (g3 f f0 f1).1; omega⟩⟩
  · rw [(g3 f f0 f1).2.2 c c0 c1]
    exact ⟨fun z => ⟨b3.2 c c0 z.1 (by omega), z.2⟩, fun z => ⟨by omega, z.2⟩⟩
  · by_cases f0 : f < 0
    · exact Or.inr f0
    · left
      obtain ⟨N, eN⟩ : ∃ N, N = (ρ 52 4 * ρ 52 5).toNat := ⟨_, rfl⟩
      rw [← eN]
      have hN : N ≤ 25 := by omega
      by_cases f3 : f < 3
      · have k := (g3 f (by omega) f3).2.1
        have := sm_mono (f := fun c => if τ 68 c = f then 1 else 0) (c := N) (d := 25 - N) (fun j j0 j1 => by
          show (0 : Int) ≤ if τ 68 (j : Int) = f then 1 else 0
          split <;> omega)
        rw [show N + (25 - N) = 25 by omega, ← k.1] at this
        omega
      · have := (sm_bd (f := fun c => if τ 68 c = f then 1 else 0) (a := 0) (b := 0) (n := N) (fun j hj => by
          show 0 ≤ (if τ 68 (j : Int) = f then (1 : Int) else 0) ∧ (if τ 68 (j : Int) = f then (1 : Int) else 0) ≤ 0
          have o := g2 (j : Int) (by omega) (by omega)
          rw [if_neg (by omega)]
          omega)).2
        omega
