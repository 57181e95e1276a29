/-! breaks(), rests() -/
def ix (P : Int → Int × (Int → Int)) (i s t : Int) : Int := i + (P 0).1 * (s + (P 1).1 * t)
def inP (P : Int → Int × (Int → Int)) (i s t : Int) : Prop := (0 ≤ i ∧ i < (P 0).1) ∧ (0 ≤ s ∧ s < (P 1).1) ∧ (0 ≤ t ∧ t < (P 2).1)
theorem ix_ok {P : Int → Int × (Int → Int)} {i s t : Int} (hP : okP P) (h : inP P i s t) : yA P (ix P i s t) = yB P i s t ∧ 0 ≤ ix P i s t ∧ ix P i s t < Tot P := by
  obtain ⟨h0, h1, h2⟩ := hP
  obtain ⟨hi, hs, ht⟩ := h
  obtain ⟨k, ek⟩ : ∃ k, k = ix P i s t := ⟨_, rfl⟩
  have ek' : k = i + (P 0).1 * (s + (P 1).1 * t) := ek
  have r1 : k % (P 0).1 = i := by rw [ek', Int.add_mul_emod_self_left, Int.emod_eq_of_lt hi.1 hi.2]
  have r2 : k / (P 0).1 = s + (P 1).1 * t := by rw [ek', Int.add_mul_ediv_left _ _ (by omega), Int.ediv_eq_zero_of_lt hi.1 hi.2]; omega
  have r3 : (s + (P 1).1 * t) % (P 1).1 = s := by rw [Int.add_mul_emod_self_left, Int.emod_eq_of_lt hs.1 hs.2]
  have r4 : k / ((P 0).1 * (P 1).1) = t := by rw [← Int.ediv_ediv_of_nonneg (by omega), r2, Int.add_mul_ediv_left _ _ (by omega), Int.ediv_eq_zero_of_lt hs.1 hs.2]; omega
  have x1 : 0 ≤ (P 1).1 * t := Int.mul_nonneg (by omega) ht.1
  have x2 : (P 1).1 * (t + 1) ≤ (P 1).1 * (P 2).1 := Int.mul_le_mul_of_nonneg_left (by omega) (by omega)
  rw [Int.mul_add, Int.mul_one] at x2
  have x3 : (P 0).1 * (s + (P 1).1 * t + 1) ≤ (P 0).1 * ((P 1).1 * (P 2).1) := Int.mul_le_mul_of_nonneg_left (by omega) (by omega)
  have x4 : 0 ≤ (P 0).1 * (s + (P 1).1 * t) := Int.mul_nonneg (by omega) (by omega)
  have x5 : (P 0).1 * (s + (P 1).1 * t + 1) = (P 0).1 * (s + (P 1).1 * t) + (P 0).1 := by
    generalize s + (P 1).1 * t = X
    rw [Int.mul_add, Int.mul_one]
  have x6 : Tot P = (P 0).1 * ((P 1).1 * (P 2).1) := Int.mul_assoc _ _ _
  rw [← ek]
  refine ⟨?_, by omega, by omega⟩
  unfold yA yB
  rw [r1, r2, r3, r4]
theorem ix_all {P : Int → Int × (Int → Int)} {k : Int} (hP : okP P) (hk : 0 ≤ k ∧ k < Tot P) : ∃ i s t, inP P i s t ∧ k = ix P i s t := by
  obtain ⟨h0, h1, h2⟩ := hP
  obtain ⟨p0, p1, p2⟩ := place_bd h0.1 h1.1 h2.1 hk.1 hk.2
  refine ⟨_, _, _, ⟨p0, p1, p2⟩, ?_⟩
  unfold ix
  have e1 := Int.emod_add_mul_ediv k (P 0).1
  have e2 := Int.emod_add_mul_ediv (k / (P 0).1) (P 1).1
  rw [Int.ediv_ediv_of_nonneg (by omega)] at e2
  rw [e2, e1]
def co (f i s t : Int) : Int := if f = 0 then i else if f = 1 then s else t
def stp (P : Int → Int × (Int → Int)) (f : Int) : Int := if f = 0 then 1 else if f = 1 then (P 0).1 else (P 0).1 * (P 1).1
/-- another option of one farm -/
theorem repl {P : Int → Int × (Int → Int)} {i s t f q : Int} (h : inP P i s t) (hf : 0 ≤ f ∧ f < 3) (hq : 0 ≤ q ∧ q < (P f).1) : ∃ i' s' t', inP P i' s' t' ∧ ix P i' s' t' = ix P i s t - stp P f * co f i s t + q * stp P f ∧ yB P i' s' t' = yB P i s t - tms f * (P f).2 (co f i s t) + tms f * (P f).2 q := by
  obtain ⟨hi, hs, ht⟩ := h
  have f3 : f = 0 ∨ f = 1 ∨ f = 2 := by omega
  unfold ix yB
  rcases f3 with rfl | rfl | rfl
  · refine ⟨q, s, t, ⟨hq, hs, ht⟩, ?_, ?_⟩
    · show _ = _ - 1 * i + q * 1; omega
    · show _ = _ - 1 * (P 0).2 i + 1 * (P 0).2 q; omega
  · refine ⟨i, q, t, ⟨hi, hq, ht⟩, ?_, ?_⟩
    · show _ = _ - (P 0).1 * s + q * (P 0).1
      rw [Int.mul_add, Int.mul_add, Int.mul_comm q]
      omega
    · show _ = _ - 26 * (P 1).2 s + 26 * (P 1).2 q; omega
  · refine ⟨i, s, q, ⟨hi, hs, hq⟩, ?_, ?_⟩
    · show _ = _ - (P 0).1 * (P 1).1 * t + q * ((P 0).1 * (P 1).1)
      rw [Int.mul_add, Int.mul_add, Int.mul_comm q, Int.mul_assoc, Int.mul_assoc]
      omega
    · show _ = _ - 676 * (P 2).2 t + 676 * (P 2).2 q; omega
theorem co_bd {P : Int → Int × (Int → Int)} {i s t f : Int} (h : inP P i s t) (hf : 0 ≤ f ∧ f < 3) : 0 ≤ co f i s t ∧ co f i s t < (P f).1 := by
  have f3 : f = 0 ∨ f = 1 ∨ f = 2 := by omega
  rcases f3 with rfl | rfl | rfl
  · exact h.1
  · exact h.2.1
  · exact h.2.2
theorem placeOfC {W H fm : Int} {ρ τ : pm} {P : Int → Int × (Int → Int)} (hA : Ahead W H fm ρ τ P) {f p : Int} (hf : 0 ≤ f ∧ f < 3) (hp : 0 ≤ p ∧ p < (P f).1) : f_X4_placeOf f ((P f).2 p) ρ = some p := by
  have o1 := hA.2.1.1 f hf.1 hf.2
  have eP := hA.2.2.2.1
  have hP : 1 ≤ (P f).1 ∧ (P f).1 ≤ 9 := by rw [eP]; exact few_bd (few_optM hA.1.1 _ _ _ f hf.1)
  have bdd : ∀ x, 0 ≤ x → x < (P f).1 → 0 ≤ (P f).2 x ∧ (P f).2 x < 26 := by
    intro x a b
    rw [eP] at b ⊢
    have := opt_bd (m := optM W H fm (ρ 9) (τ 65) (ρ 8 6) (ρ 8 4) f) ⟨a, b⟩
    exact ⟨this.1, this.2.1⟩
  have inc : ∀ x y, 0 ≤ x → x < y → y < (P f).1 → (P f).2 x < (P f).2 y := by
    intro x y a b c
    rw [eP] at c ⊢
    exact lstF_inc (by omega) x y a b c
  have loop : ∀ (m n : Nat) (x : Int), m + 1 ≤ n → x + (m : Int) = p → 0 ≤ x → L_X4_placeOf_2 ρ n f ((P f).2 p) x = some p := by
    intro m
    induction m with
    | zero =>
      intro n x hn hx x0
      obtain ⟨z, rfl⟩ : ∃ z, n = z + 1 := ⟨n - 1, by omega⟩
      have : x = p := by omega
      subst this
      have b := bdd x hp.1 hp.2
      rw [L_X4_placeOf_2, o1.1, ckp hf, ckp (by omega), ckp (by omega), if_neg (by omega), ckp (by omega), o1.2 x hp.1 hp.2, ckp (by omega), ckp (by omega), if_pos rfl]
    | succ m ih =>
      intro n x hn hx x0
      obtain ⟨z, rfl⟩ : ∃ z, n = z + 1 := ⟨n - 1, by omega⟩
      have b := bdd x x0 (by omega)
      have b2 := bdd p hp.1 hp.2
      have lt := inc x p x0 (by omega) hp.2
      rw [L_X4_placeOf_2, o1.1, ckp hf, ckp (by omega), ckp (by omega), if_neg (by omega), ckp (by omega), o1.2 x x0 (by omega), ckp (by omega), ckp (by omega), if_neg (by omega), jn_eq]
      exact ih z (x + 1) (by omega) (by omega) (by omega)
  exact loop p.toNat fu 0 (by unfold fu; omega) (by omega) (by omega)
/-- what a farm has by a year -/
def Gv (W H : Int) (ρ τ : pm) (f y : Int) : Int := ρ 5 f * cnt (τ 65) (W * H) f (Bt W H ρ y)
theorem Gv_bd {W H fm : Int} {ρ τ : pm} {P : Int → Int × (Int → Int)} (hA : Ahead W H fm ρ τ P) {f y : Int} (hf : 0 ≤ f ∧ f < 3) : 0 ≤ Gv W H ρ τ f y ∧ Gv W H ρ τ f y ≤ 225 := by
  have w := hA.1.2.2.1.2.1 f hf.1 hf.2
  have w2 : 0 ≤ ρ 5 f ∧ ρ 5 f ≤ 9 := ⟨w.2.1, w.2.2⟩
  have bd := hA.1.1.1.1.bd
  have c := cnt_bd (own := τ 65) (N := W * H) (f := f) (bed := Bt W H ρ y) (by omega)
  unfold Gv
  refine ⟨Int.mul_nonneg w2.1 c.1, ?_⟩
  have x1 : ρ 5 f * cnt (τ 65) (W * H) f (Bt W H ρ y) ≤ ρ 5 f * 25 := Int.mul_le_mul_of_nonneg_left c.2 w2.1
  omega
theorem breaks_in {W H fm : Int} {ρ : pm} {P : Int → Int × (Int → Int)} {KC : Int → Int → Int → Option Int} {KM : Int → Int → Int → pm → Option (Int × pm)} {f i s t : Int} (h : inP P i s t) (hf : 0 ≤ f ∧ f < 3) (hf2 : f < fm) : ∀ (m n n' : Nat) (q b : Int) (τ : pm), Ahead W H fm ρ τ P → m + 1 ≤ n → m + 1 ≤ n' → q + (m : Int) = (P f).1 → 0 ≤ q → inR b →
    ∃ b' τ', L_X4_breakers_57 ρ KC n (ix P i s t) b f (ix P i s t - stp P f * co f i s t) (Gv W H ρ τ f (yB P i s t)) q = KC (ix P i s t) b' f ∧ L_X9_breaksOf_39 KM n' (yB P i s t) b f (yB P i s t - tms f * (P f).2 (co f i s t)) (Gv W H ρ τ f (yB P i s t)) q τ = KM (yB P i s t) b' f τ' ∧ agD τ τ' ∧ inR b' := by
  intro m
  induction m with
  | zero =>
    intro n n' q b τ hA hn hn' hq q0 hb
    obtain ⟨x, rfl⟩ : ∃ x, n = x + 1 := ⟨n - 1, by omega⟩
    obtain ⟨x', rfl⟩ : ∃ x, n' = x + 1 := ⟨n' - 1, by omega⟩
    have hP : 1 ≤ (P f).1 ∧ (P f).1 ≤ 9 := by rw [hA.2.2.2.1]; exact few_bd (few_optM hA.1.1 _ _ _ f hf.1)
    refine ⟨b, τ, ?_, ?_, agD.refl _, hb⟩
    · rw [L_X4_breakers_57, (hA.2.1.1 f hf.1 hf.2).1, ckp hf, ckp (by omega), ckp (by omega), if_pos (by omega)]
    · rw [L_X9_breaksOf_39, (hA.2.2.1 f hf.1 hf.2).1, ckp hf, ckp (by omega), ckp (by omega), if_pos (by omega)]
  | succ m ih =>
    intro n n' q b τ hA hn hn' hq q0 hb
    obtain ⟨x, rfl⟩ : ∃ x, n = x + 1 := ⟨n - 1, by omega⟩
    obtain ⟨x', rfl⟩ : ∃ x, n' = x + 1 := ⟨n' - 1, by omega⟩
    have hP : 1 ≤ (P f).1 ∧ (P f).1 ≤ 9 := by rw [hA.2.2.2.1]; exact few_bd (few_optM hA.1.1 _ _ _ f hf.1)
    have hfm := hA.1.1.2.2.2.2.1
    have tb := Tot_bd hA.2.2.2.2
    obtain ⟨i', s', t', r1, r2, r3⟩ := repl (q := q) h hf ⟨q0, by omega⟩
    obtain ⟨k1, k2, k3⟩ := ix_ok hA.2.2.2.2 r1
    have e31 : ρ 31 f = stp P f := by
      have f3 : f = 0 ∨ f = 1 ∨ f = 2 := by omega
      rcases f3 with rfl | rfl | rfl
      · exact hA.2.1.2.1
      · exact hA.2.1.2.2.1
      · exact hA.2.1.2.2.2.1
    have hy := hA.year ⟨k2, k3⟩
    have ok := hA.ok ⟨k2, k3⟩
    rw [k1] at hy ok
    have G0 := Gv_bd hA (f := f) (y := yB P i s t) hf
    have G1 := Gv_bd hA (f := f) (y := yB P i' s' t') hf
    obtain ⟨τ1, b1, b2⟩ := hasByR hA.1 (f := f) ⟨hf.1, hf2⟩ ⟨ok.1, ok.2.1⟩ ok.2.2
    have b1' : f_X9_hasBy (yB P i' s' t') f τ = some (Gv W H ρ τ f (yB P i' s' t'), τ1) := b1
    have hA1 := hA.ag b2
    have eG : Gv W H ρ τ1 f (yB P i s t) = Gv W H ρ τ f (yB P i s t) := by unfold Gv; rw [b2.1 65 (by omega) (by omega) (by omega)]
    have gC : f_X7_gain f (ρ 33 (ix P i' s' t')) ρ = some (Gv W H ρ τ f (yB P i' s' t')) := by
      rw [hy.2]
      exact gainC hA.1.1.1.1 hA.1.1.2.2.2.2.2.2.1 hA.1.1.2.2.1 hfm ⟨hf.1, hf2⟩
    have o74 := (hA.2.2.1 f hf.1 hf.2).2 q q0 (by omega)
    obtain ⟨b', τ2, g1, g2, g3, g4⟩ := ih x x' (q + 1) (if Gv W H ρ τ f (yB P i' s' t') ≤ Gv W H ρ τ f (yB P i s t) then b else bor b (bshl 1 f)) τ1 hA1 (by omega) (by omega) (by omega) (by omega) (by
      split
      · exact hb
      · exact bor_R _ _)
    rw [eG] at g1 g2
    refine ⟨b', τ2, ?_, ?_, b2.trans g3, g4⟩
    · rw [L_X4_breakers_57, (hA.2.1.1 f hf.1 hf.2).1, ckp hf, ckp (by omega), ckp (by omega), if_neg (by omega), e31, ← r2, ckp (by omega), gC, Option.bind_some, ckp (by omega), ckp (by omega)]
      dsimp only [jn]
      refine Eq.trans ?_ g1
      by_cases e : Gv W H ρ τ f (yB P i' s' t') ≤ Gv W H ρ τ f (yB P i s t)
      · rw [if_pos e, if_pos e]
      · rw [if_neg e, if_neg e]
    · rw [L_X9_breaksOf_39, (hA.2.2.1 f hf.1 hf.2).1, ckp hf, ckp (by omega), ckp (by omega), if_neg (by omega), ckp (by omega), o74, ← r3, b1', bn2_of, ckp (by omega), ckp (by omega)]
      dsimp only [jn]
      refine Eq.trans ?_ g2
      by_cases e : Gv W H ρ τ f (yB P i' s' t') ≤ Gv W H ρ τ f (yB P i s t)
      · rw [if_pos e, if_pos e, show f_X9_flag 0 = some 0 from rfl, Option.bind_some, bshl0 (by omega), bor0 hb]
      · rw [if_neg e, if_neg e, show f_X9_flag 1 = some 1 from rfl, Option.bind_some]
theorem breaksC_step {W H fm : Int} {ρ τ : pm} {P : Int → Int × (Int → Int)} (hA : Ahead W H fm ρ τ P) {f i s t b : Int} (h : inP P i s t) (hf : 0 ≤ f ∧ f < 3) {n : Nat} : (f < fm → L_X4_breakers_5 ρ (n + 1) (ix P i s t) b f = L_X4_breakers_57 ρ (fun (l2 l3 l4 : Int) => jn (l4 + 1) (fun x17 => L_X4_breakers_5 ρ n l2 l3 x17)) fu (ix P i s t) b f (ix P i s t - stp P f * co f i s t) (Gv W H ρ τ f (yB P i s t)) 0) ∧ (¬ f < fm → L_X4_breakers_5 ρ (n + 1) (ix P i s t) b f = L_X4_breakers_5 ρ n (ix P i s t) b (f + 1)) := by
  have hfm := hA.1.1.2.2.2.2.1
  have tb := Tot_bd hA.2.2.2.2
  obtain ⟨k1, k2, k3⟩ := ix_ok hA.2.2.2.2 h
  have hy := hA.year ⟨k2, k3⟩
  have ok := hA.ok ⟨k2, k3⟩
  rw [k1] at hy ok
  have e31 : ρ 31 f = stp P f := by
    have f3 : f = 0 ∨ f = 1 ∨ f = 2 := by omega
    rcases f3 with rfl | rfl | rfl
    · exact hA.2.1.2.1
    · exact hA.2.1.2.2.1
    · exact hA.2.1.2.2.2.1
  have cb := co_bd h hf
  have dg : dig (yB P i s t) f = (P f).2 (co f i s t) := by
    have yk := year_ok (W := W) (H := H) (fm := fm) (h := ρ 9) (own := τ 65) (law := ρ 8 6) (b := ρ 8 4) (i := i) (s := s) (t := t) (by rw [← hA.2.2.2.1]; exact h.1) (by rw [← hA.2.2.2.1]; exact h.2.1) (by rw [← hA.2.2.2.1]; exact h.2.2)
    rw [← hA.2.2.2.1] at yk
    have f3 : f = 0 ∨ f = 1 ∨ f = 2 := by omega
    rcases f3 with rfl | rfl | rfl
    · exact yk.2.2.1
    · exact yk.2.2.2.1
    · exact yk.2.2.2.2.1
  have E : ∀ g, f_X7_gain f (ρ 33 (ix P i s t)) ρ = some g → L_X4_breakers_5 ρ (n + 1) (ix P i s t) b f = L_X4_breakers_57 ρ (fun (l2 l3 l4 : Int) => jn (l4 + 1) (fun x17 => L_X4_breakers_5 ρ n l2 l3 x17)) fu (ix P i s t) b f (ix P i s t - stp P f * co f i s t) g 0 := by
    intro g hg
    rw [L_X4_breakers_5, ckp (by omega), if_neg (by omega), ckp hf, ckp (by omega), hy.1, option_eq (by omega) hf, Option.bind_some, dg, placeOfC hA hf cb, Option.bind_some, jn_eq, e31, hg, Option.bind_some]
  constructor
  · intro c
    exact E _ (by rw [hy.2]; exact gainC hA.1.1.1.1 hA.1.1.2.2.2.2.2.2.1 hA.1.1.2.2.1 hfm ⟨hf.1, c⟩)
  · intro c
    rw [E 0 (gainC0 hA.1.1.2.2.1 hfm (by omega) (by omega))]
    have one : (P f).1 = 1 ∧ co f i s t = 0 := by
      have : (P f).1 = 1 := by
        rw [hA.2.2.2.1]
        show (lstF (optM W H fm (ρ 9) (τ 65) (ρ 8 6) (ρ 8 4) f) 25).1 = 1
        rw [show optM W H fm (ρ 9) (τ 65) (ρ 8 6) (ρ 8 4) f = 0 from if_neg c, lstF_cnt (by omega), sm_congr (g := fun _ => 0) (fun j hj => bt_zero (by omega))]
        decide
      exact ⟨this, by omega⟩
    rw [one.2, Int.mul_zero, Int.sub_zero, show fu = 99998 + 1 + 1 from rfl, L_X4_breakers_57, (hA.2.1.1 f hf.1 hf.2).1, one.1, ckp hf, ckp (by omega), ckp (by omega), if_neg (by omega), Int.zero_mul, Int.add_zero, ckp (by omega), gainC0 hA.1.1.2.2.1 hfm (by omega) (by omega), Option.bind_some, ckp (by omega), ckp (by omega), jn_eq, if_pos (by omega)]
    dsimp only
    rw [jn_eq, L_X4_breakers_57, (hA.2.1.1 f hf.1 hf.2).1, one.1, ckp hf, ckp (by omega), ckp (by omega), if_pos (by omega), jn_eq]
theorem breaksM_step {W H fm : Int} {ρ τ : pm} {P : Int → Int × (Int → Int)} (hA : Ahead W H fm ρ τ P) {f i s t b : Int} (h : inP P i s t) (hf : 0 ≤ f ∧ f < fm) {n : Nat} : ∃ τ1, L_X9_breaksOf_4 (n + 1) (yB P i s t) b f τ = L_X9_breaksOf_39 (fun (l1 l2 l3 : Int) (ρ : pm) => jn (l3 + 1) (fun x19 => L_X9_breaksOf_4 n l1 l2 x19 ρ)) fu (yB P i s t) b f (yB P i s t - tms f * (P f).2 (co f i s t)) (Gv W H ρ τ f (yB P i s t)) 0 τ1 ∧ agD τ τ1 := by
  have hfm := hA.1.1.2.2.2.2.1
  have h4' := hA.1.1.2.2.2.1
  obtain ⟨k1, k2, k3⟩ := ix_ok hA.2.2.2.2 h
  have ok := hA.ok ⟨k2, k3⟩
  rw [k1] at ok
  have dg : dig (yB P i s t) f = (P f).2 (co f i s t) := by
    have yk := year_ok (W := W) (H := H) (fm := fm) (h := ρ 9) (own := τ 65) (law := ρ 8 6) (b := ρ 8 4) (i := i) (s := s) (t := t) (by rw [← hA.2.2.2.1]; exact h.1) (by rw [← hA.2.2.2.1]; exact h.2.1) (by rw [← hA.2.2.2.1]; exact h.2.2)
    rw [← hA.2.2.2.1] at yk
    have f3 : f = 0 ∨ f = 1 ∨ f = 2 := by omega
    rcases f3 with rfl | rfl | rfl
    · exact yk.2.2.1
    · exact yk.2.2.2.1
    · exact yk.2.2.2.2.1
  obtain ⟨τ1, b1, b2⟩ := hasByR hA.1 (f := f) hf ⟨ok.1, ok.2.1⟩ ok.2.2
  have b1' : f_X9_hasBy (yB P i s t) f τ = some (Gv W H ρ τ f (yB P i s t), τ1) := b1
  refine ⟨τ1, ?_, b2⟩
  rw [L_X9_breaksOf_4, h4', ckp (by omega), ckp (by omega), if_neg (by omega), timesOf_eq (by omega), Option.bind_some, cutOf_eq (by omega) (by omega), Option.bind_some, jn_eq, b1', bn2_of, dg, show (P f).2 (co f i s t) - 1 + 1 = (P f).2 (co f i s t) by omega]
theorem breaksR {W H fm : Int} {ρ : pm} {P : Int → Int × (Int → Int)} {i s t : Int} (h : inP P i s t) : ∀ (m n n' : Nat) (f b : Int) (τ : pm), Ahead W H fm ρ τ P → m + 1 ≤ n → m + 1 ≤ n' → f + (m : Int) = 3 → 0 ≤ f → inR b → ∃ v τ', L_X4_breakers_5 ρ n (ix P i s t) b f = some v ∧ (f < fm ∨ f = fm → L_X9_breaksOf_4 n' (yB P i s t) b f τ = some (v, τ')) ∧ (¬ (f < fm ∨ f = fm) → v = b) ∧ agD τ τ' ∧ inR v := by
  intro m
  induction m with
  | zero =>
    intro n n' f b τ hA hn hn' hf f0 hb
    obtain ⟨x, rfl⟩ : ∃ x, n = x + 1 := ⟨n - 1, by omega⟩
    obtain ⟨x', rfl⟩ : ∃ x, n' = x + 1 := ⟨n' - 1, by omega⟩
    have hfm := hA.1.1.2.2.2.2.1
    have h4' := hA.1.1.2.2.2.1
    refine ⟨b, τ, ?_, fun _ => ?_, fun _ => rfl, agD.refl _, hb⟩
    · rw [L_X4_breakers_5, ckp (by omega), if_pos (by omega)]
    · rw [L_X9_breaksOf_4, h4', ckp (by omega), ckp (by omega), if_pos (by omega)]
  | succ m ih =>
    intro n n' f b τ hA hn hn' hf f0 hb
    obtain ⟨x, rfl⟩ : ∃ x, n = x + 1 := ⟨n - 1, by omega⟩
    obtain ⟨x', rfl⟩ : ∃ x, n' = x + 1 := ⟨n' - 1, by omega⟩
    have hfm := hA.1.1.2.2.2.2.1
    have h4' := hA.1.1.2.2.2.1
    obtain ⟨s1, s2⟩ := breaksC_step hA (f := f) (b := b) (n := x) h (by omega)
    by_cases c : f < fm
    · obtain ⟨τ1, m1, m2⟩ := breaksM_step hA (f := f) (b := b) (n := x') h ⟨f0, c⟩
      have hP : 1 ≤ (P f).1 ∧ (P f).1 ≤ 9 := by rw [hA.2.2.2.1]; exact few_bd (few_optM hA.1.1 _ _ _ f f0)
      have eG : Gv W H ρ τ1 f (yB P i s t) = Gv W H ρ τ f (yB P i s t) := by unfold Gv; rw [m2.1 65 (by omega) (by omega) (by omega)]
      obtain ⟨b', τ2, g1, g2, g3, g4⟩ := breaks_in (KC := fun (l2 l3 l4 : Int) => jn (l4 + 1) (fun x17 => L_X4_breakers_5 ρ x l2 l3 x17)) (KM := fun (l1 l2 l3 : Int) (ρ : pm) => jn (l3 + 1) (fun x19 => L_X9_breaksOf_4 x' l1 l2 x19 ρ)) (f := f) h (by omega) c (P f).1.toNat fu fu 0 b τ1 (hA.ag m2) (by unfold fu; omega) (by unfold fu; omega) (by omega) (by omega) hb
      rw [eG, jn_eq] at g1 g2
      obtain ⟨v, τ3, u1, u2, u3, u4, u5⟩ := ih x x' (f + 1) b' τ2 ((hA.ag m2).ag g3) (by omega) (by omega) (by omega) (by omega) g4
      exact ⟨v, τ3, by rw [s1 c, g1, u1], fun _ => by rw [m1, g2]; exact u2 (by omega), fun z => absurd (Or.inl c) z, (m2.trans g3).trans u4, u5⟩
    · rw [s2 c]
      obtain ⟨v, τ3, u1, u2, u3, u4, u5⟩ := ih x x' (f + 1) b τ hA (by omega) (by omega) (by omega) (by omega) hb
      have hv : v = b := u3 (by omega)
      refine ⟨v, τ, u1, fun z => ?_, fun _ => hv, agD.refl _, u5⟩
      rw [L_X9_breaksOf_4, h4', ckp (by omega), ckp (by omega), if_pos (by omega), hv]
theorem breaksOfR {W H fm : Int} {ρ τ : pm} {P : Int → Int × (Int → Int)} (hA : Ahead W H fm ρ τ P) {k : Int} (hk : 0 ≤ k ∧ k < Tot P) : ∃ v τ', f_X4_breakers k ρ = some v ∧ f_X9_breaksOf (yA P k) τ = some (v, τ') ∧ agD τ τ' ∧ inR v := by
  have hfm := hA.1.1.2.2.2.2.1
  obtain ⟨i, s, t, h1, h2⟩ := ix_all hA.2.2.2.2 hk
  obtain ⟨v, τ', u1, u2, u3, u4, u5⟩ := breaksR h1 3 fu fu 0 0 τ hA (by unfold fu; omega) (by unfold fu; omega) (by omega) (by omega) R_0
  rw [h2, (ix_ok hA.2.2.2.2 h1).1]
  exact ⟨v, τ', u1, u2 (by omega), u4, u5⟩
