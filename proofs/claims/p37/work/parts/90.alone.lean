/-- what a search leaves, of the reference -/
def agS (τ τ' : pm) : Prop := (∀ q, q ≠ 62 → q ≠ 71 → q ≠ 76 → q ≠ 77 → q ≠ 78 → q ≠ 79 → τ' q = τ q) ∧ ∀ j, j ≠ 31 → j ≠ 32 → τ' 62 j = τ 62 j
theorem agS.refl (τ : pm) : agS τ τ := ⟨fun _ _ _ _ _ _ _ => rfl, fun _ _ _ => rfl⟩
theorem agS.trans {a b c : pm} (h1 : agS a b) (h2 : agS b c) : agS a c := ⟨fun q x1 x2 x3 x4 x5 x6 => (h2.1 q x1 x2 x3 x4 x5 x6).trans (h1.1 q x1 x2 x3 x4 x5 x6), fun j x y => (h2.2 j x y).trans (h1.2 j x y)⟩
theorem broughtR {W H fm Y f c n : Int} {ρ τ : pm} (ld : LdR W H fm ρ τ) (fl : FlR W H Y ρ τ 47 0) (hY : 0 ≤ Y ∧ Y ≤ 1000) (hf : 0 ≤ f ∧ f < fm) (hc : 0 ≤ c ∧ c < 25) (hn : 0 ≤ n ∧ n ≤ 3) :
    ∃ v ρ' τ', f_X0_brings34 f c n ρ = some (v, ρ') ∧ f_X9_isBrought f c n τ = some (v, τ') ∧ (v = 0 ∨ v = 1) ∧ frC 0 ρ ρ' ∧ agS τ τ' ∧ (v = 1 → ∀ i : Nat, (i : Int) < n → pth i ρ' τ') := by
  obtain ⟨τ1, g1, g2, g3, g4, g5, g6, g7⟩ := entersM (L := 0) ld fl (by omega) hf (by omega)
  have ld1 : LdR W H fm ρ τ1 := ld.keep rfl rfl rfl (g4 _ (by omega) (by omega)) (g4 _ (by omega) (by omega)) (g4 _ (by omega) (by omega)) (g3 _ (by omega) (by omega) (by omega) (by omega) (by omega))
  have e63 : τ1 63 = τ 63 := g3 63 (by omega) (by omega) (by omega) (by omega) (by omega)
  have sv : ∀ j, 0 ≤ j → j < 25 → τ1 76 j = τ 63 j := fun j j0 j1 => by
    have a := g2.1.1 j j0 j1
    rw [stc_get, Int.zero_add, if_pos ⟨j0, j1⟩, show 25 * (0 : Int) + j = j by omega] at a
    have b := fl.1 j j0 j1
    rw [Int.zero_add] at b
    rw [a, b]
  obtain ⟨K, eK⟩ : ∃ K : Int → pm → Option (Int × pm), K = fun (l5 : Int) (ρ : pm) => (f_X9_leaves 0 ρ).bind (fun ρ34 => ck (l5 = 0 ∨ l5 = 1) (some (l5, ρ34))) := ⟨_, rfl⟩
  -- how it ends
  have hK : ∀ v τ', (v = 0 ∨ v = 1) → frM 0 τ1 τ' → ∃ τ'', K v τ' = some (v, τ'') ∧ agS τ τ'' ∧ (∀ q, q ≠ 63 → τ'' q = τ' q) := by
    intro v τ' hv fr
    obtain ⟨τ2, l1, l2, l3, l4⟩ := leavesM (L := 0) (by omega) τ'
    refine ⟨τ2, ?_, ⟨fun q x1 x2 x3 x4 x5 x6 => ?_, fun j x y => by rw [l2 62 (by omega), fr.2.1 j x y, g4 j x y]⟩, l2⟩
    · rw [eK]
      show (f_X9_leaves 0 τ').bind (fun ρ34 => ck (v = 0 ∨ v = 1) (some (v, ρ34))) = _
      rw [l1, Option.bind_some, ckp hv]
    · by_cases e : q = 63
      · subst e
        funext j
        by_cases e : 0 ≤ j ∧ j < 25
        · rw [l3 j e.1 e.2, fr.2.2.2.1 _ (by omega), show 25 * (0 : Int) + j = j by omega, sv j e.1 e.2]
        · rw [l4 j (by omega), fr.2.2.1 j (by omega), e63]
      · rw [l2 q e, fr.1 q x1 e x2 x3 x4 x5 x6, g3 q x1 x2 x3 x5 x6]
  unfold f_X9_isBrought
  rw [g1, Option.bind_some, ← eK, ckp (show inR n by omega)]
  have J : ∀ s τ', ck (inR n) (jn (fun (l1 l2 l3 l4 l5 : Int) (ρ : pm) => L_X9_isBrought_43 K fu l1 l2 l3 l4 l5 ρ) (fun j43 => if n ≤ 0 then j43 f c n 0 s τ' else jn (pup τ' 77 0 0) (fun ρ36 => j43 f c n 0 s ρ36))) = if n ≤ 0 then L_X9_isBrought_43 K fu f c n 0 s τ' else L_X9_isBrought_43 K fu f c n 0 s (pup τ' 77 0 0) := by
    intro s τ'
    rw [ckp (show inR n by omega), jn_eq]
    by_cases e : n ≤ 0
    · rw [if_pos e, if_pos e]
    · rw [if_neg e, if_neg e, jn_eq]
  by_cases n0 : n = 0
  · obtain ⟨τ2, b1, b2, -, b4, -⟩ := bedNowR ld1 (fl.keep rfl rfl rfl (fun j _ _ => by rw [e63])) (by omega)
    have eb : f_X9_bedNow τ1 = some (ρ 47 4, τ2) := by
      unfold f_X9_bedNow
      rw [b1, Option.bind_some, b4]
    have lp : ∀ v τ', (v = 0 ∨ v = 1) → L_X9_isBrought_43 K fu f c n 0 v τ' = K v τ' := fun v τ' hv => by
      rw [show fu = 99999 + 1 from rfl, L_X9_isBrought_43, ckp (by omega), if_pos (by omega)]
    have b01 := bt_01 (ρ 47 4) c (by omega)
    obtain ⟨τ3, k1, k2, k3⟩ := hK (bt (ρ 47 4) c) τ2 b01 b2.frM
    refine ⟨_, ρ, τ3, br34_0 n0 hc, ?_, b01, frC.refl _ _, k2, fun _ i i1 => by omega⟩
    rw [jn_eq, jn_eq, if_pos n0, eb, bn2_of]
    have hnR : inR n := by omega
    rcases b01 with e | e
    · have e' : ¬ band (bshr (ρ 47 4) c) 1 = 1 := fun z => by
        have : bt (ρ 47 4) c = 1 := z
        omega
      rw [e] at k1
      rw [if_neg e', e]
      exact (J 0 τ2).trans (by rw [if_pos (show n ≤ 0 by omega), lp 0 τ2 (Or.inl rfl), k1])
    · have e' : band (bshr (ρ 47 4) c) 1 = 1 := e
      rw [e] at k1
      rw [if_pos e', e]
      exact (J 1 τ2).trans (by rw [if_pos (show n ≤ 0 by omega), lp 1 τ2 (Or.inr rfl), k1])
  · have sr2 : n = 3 → SR W H fm f c n K (Y + 1 + 1) 2 41 (26 * (0 + 2) + 1) (fun ρ => f_X0_brings36 f c (n - 1 - 1) ρ) := fun n3 =>
      sr36 (by omega) (by omega) hc hf (by omega) (Or.inl ⟨by omega, fun ρ => br37_0 (by omega) hc⟩)
    have sr1 : 2 ≤ n → SR W H fm f c n K (Y + 1) 1 44 (26 * (53 + 2) + 1) (fun ρ => f_X0_brings35 f c (n - 1) ρ) := fun n2 => by
      by_cases n3 : n = 3
      · exact sr35 (sub := 53) (by omega) (by omega) hc hf (by omega) (Or.inr ⟨by omega, sr2 n3⟩)
      · exact sr35 (sub := 53) (by omega) (by omega) hc hf (by omega) (Or.inl ⟨by omega, fun ρ => br36_0 (by omega) hc⟩)
    have sr0 : SR W H fm f c n K Y 0 47 (26 * (1431 + 2) + 1) (fun ρ => f_X0_brings34 f c n ρ) := by
      by_cases n2 : 2 ≤ n
      · exact sr34 (sub := 1431) (by omega) (by omega) hc hf (by omega) (Or.inr ⟨by omega, sr1 n2⟩)
      · exact sr34 (sub := 1431) (by omega) (by omega) hc hf (by omega) (Or.inl ⟨by omega, fun ρ => br35_0 (by omega) hc⟩)
    have fr0 : frM 0 τ1 (pup τ1 77 0 0) := frM_77 _ (Int.le_refl _)
    have hN' : (lstF (cans W H ρ τ1 47 f) 25).1 ≤ 9 := by
      have := few_optM ld1 (ρ (47 + 1)) (ρ 47 6) (ρ 47 4) f hf.1
      rw [show optM W H fm (ρ (47 + 1)) (τ1 65) (ρ 47 6) (ρ 47 4) f = canM W H (ρ (47 + 1)) (τ1 65) (ρ 47 6) (ρ 47 4) f from if_pos hf.2] at this
      exact (few_bd this).2
    have res := sr0 fu ρ (pup τ1 77 0 0) (by unfold fu; omega) (LdR.fr ld1 (frC.refl 0 ρ) fr0) (LvR.fr (L := 0) rfl (by omega) g2 hN' (frC.refl _ _) fr0) (pup_at)
    have eM : (jn (fun (l1 l2 l3 l4 s0 : Int) (ρ : pm) => ck (inR l3) (jn (fun (l1 l2 l3 l4 l5 : Int) (ρ : pm) => L_X9_isBrought_43 K fu l1 l2 l3 l4 l5 ρ) (fun j43 => if l3 ≤ 0 then j43 l1 l2 l3 l4 s0 ρ else jn (pup ρ 77 0 0) (fun ρ36 => j43 l1 l2 l3 l4 s0 ρ36)))) (fun j30 => jn (fun (l1 l2 l3 l4 : Int) (ρ : pm) => j30 l1 l2 l3 l4 0 ρ) (fun j29 => if n = 0 then bn2 (f_X9_bedNow τ1) (fun v37 ρ38 => if (band (bshr v37 c) 1) = 1 then j30 f c n 0 1 ρ38 else j29 f c n 0 ρ38) else j29 f c n 0 τ1))) = L_X9_isBrought_43 K fu f c n 0 0 (pup τ1 77 0 0) := by
      rw [jn_eq, jn_eq, if_neg n0]
      exact (J 0 τ1).trans (if_neg (show ¬ n ≤ 0 by omega))
    rw [eM]
    have z0 : ((0 : Nat) : Int) = 0 := rfl
    rcases res with ⟨ρ', τ', r1, r2, r3, r4, r5⟩ | ⟨ρ', τ', k, r1, r2, r2', r3, r4, r5⟩
    · obtain ⟨τ3, k1, k2, k3⟩ := hK 1 τ' (Or.inr rfl) (fr0.trans r4)
      refine ⟨1, ρ', τ3, r1, r2.trans k1, Or.inr rfl, r3, k2, fun _ i i1 => ?_⟩
      have := r5 i (by omega) i1
      unfold pth
      rw [k3 77 (by omega), k3 78 (by omega)]
      exact this
    · obtain ⟨τ3, k1, k2, k3⟩ := hK 0 τ' (Or.inl rfl) (fr0.trans r5)
      refine ⟨0, ρ', τ3, r1, ?_, Or.inl rfl, r4, k2, fun z => absurd z (by decide)⟩
      rw [z0] at r3
      rw [r3]
      unfold Ex
      rw [if_pos (by decide)]
      obtain ⟨w, hw⟩ : ∃ w, fu - k = w + 1 := ⟨fu - k - 1, by
        have : fu = 100000 := rfl
        omega⟩
      rw [hw, L_X9_isBrought_43, ckp (by omega), if_neg (by omega), ckp (by decide), if_pos (by decide)]
      exact k1
