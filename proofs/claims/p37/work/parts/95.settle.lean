/-- a draft that was read to its end, of both -/
def DrR (W H fm : Int) (ρ τ : pm) : Prop :=
  wh W H ∧ (ρ 52 4 = W ∧ ρ 52 5 = H ∧ τ 62 6 = W ∧ τ 62 7 = H) ∧ (ρ 52 8 = fm ∧ τ 62 9 = fm ∧ 0 ≤ fm ∧ fm ≤ 3) ∧ (0 ≤ ρ 52 6 ∧ ρ 52 6 < W * H ∧ τ 62 8 = ρ 52 6) ∧ (0 ≤ ρ 52 7 ∧ ρ 52 7 ≤ 2 ∧ τ 62 10 = ρ 52 7) ∧ τ 62 11 = (if band (ρ 52 9) 8 = 0 then 0 else 1) ∧
  (∀ j, 0 ≤ j → j < 25 → τ 66 j = ρ 53 j ∧ 0 ≤ ρ 53 j ∧ ρ 53 j ≤ 33) ∧ (∀ f, 0 ≤ f → f < 3 → τ 67 f = ρ 56 f ∧ 0 ≤ ρ 56 f ∧ ρ 56 f ≤ 9) ∧ ownOK (τ 68) ∧ (∀ f c, 0 ≤ f → f < 3 → 0 ≤ c → c < 32 → (on (ρ 55 f) c ↔ c < W * H ∧ τ 68 c = f)) ∧ (∀ f, sm (fun c => if τ 68 c = f then 1 else 0) (W * H).toNat ≤ 8 ∨ f < 0) ∧ (∀ c, 0 ≤ c → c < W * H → τ 68 c < fm) ∧ ∀ f, 0 ≤ f → f < 3 → inR (ρ 55 f)
theorem hDr_bd {W H : Int} {h h' : Int → Int} (hw : wh W H) (e : ∀ j, 0 ≤ j → j < 25 → h' j = h j ∧ 0 ≤ h j ∧ h j ≤ 33) {c : Int} (c0 : 0 ≤ c) (c1 : c < 25) : hDr W H h' c = hDr W H h c ∧ 0 ≤ hDr W H h c ∧ hDr W H h c ≤ 99 := by
  have bd := hw.bd
  unfold hDr
  by_cases k : W * H ≤ c
  · rw [if_pos k, if_pos k]; omega
  · have q0 : 0 ≤ c % W ∧ c % W < W := ⟨Int.emod_nonneg _ (by omega), Int.emod_lt_of_pos _ (by omega)⟩
    have q1 : 0 ≤ c / W ∧ c / W < H := ⟨Int.ediv_nonneg c0 (by omega), Int.ediv_lt_of_lt_mul (by omega) (by rw [Int.mul_comm]; omega)⟩
    have := e (5 * (c / W) + c % W) (by omega) (by omega)
    rw [if_neg k, if_neg k, this.1]
    omega
theorem settleR {W H fm : Int} {ρ τ : pm} (dr : DrR W H fm ρ τ) (sh : ShR ρ τ) (tp : TpR ρ τ) (ht : τ 62 45 = ρ 0 13) : ∃ ρ' τ', f_X1_settle ρ = some ρ' ∧ f_X9_keepDraft τ = some τ' ∧ RelW W H fm (pup (pup ρ' 28 6 0) 0 11 0) τ' := by
  obtain ⟨hw, ⟨d1, d2, d3, d4⟩, ⟨d5, d6, d7, d7'⟩, d8, d9, d10, d11, d12, d13, d14, d15, d16, d17⟩ := dr
  have bd := hw.bd
  obtain ⟨τ', k1, k2, k3, k4, k5, k6, k7, k8, k9, k10, k11, k12, k13, k14, k15⟩ := keepM hw d3 d4
  obtain ⟨ρ4, x4⟩ : ∃ ρ4, ρ4 = pcp (pup (pup (pup ρ 1 2 (ρ 52 4)) 1 3 (ρ 52 5)) 1 4 (ρ 52 8)) 55 0 2 0 3 := ⟨_, rfl⟩
  have n4 : ∀ q, q ≠ 1 → q ≠ 2 → ρ4 q = ρ q := fun q a b => by rw [x4, pcp_ne b, pup_ne a, pup_ne a, pup_ne a]
  have w2 : ρ4 1 2 = W := by rw [x4, pcp_ne (by omega), pup_off (by omega), pup_off (by omega), pup_at]; exact d1
  have w3 : ρ4 1 3 = H := by rw [x4, pcp_ne (by omega), pup_off (by omega), pup_at]; exact d2
  have w4 : ρ4 1 4 = fm := by rw [x4, pcp_ne (by omega), pup_at]; exact d5
  have g4 : ∀ f, 0 ≤ f → f < 3 → ρ4 2 f = ρ 55 f := fun f f0 f1 => by rw [x4, pcp_0 ⟨f0, f1⟩, pup_ne (by omega), pup_ne (by omega), pup_ne (by omega)]
  obtain ⟨ρ5, j1, j2, j3⟩ := joinC hw w2 w3
  obtain ⟨ρ9, x9⟩ : ∃ ρ9, ρ9 = pup (pup (pup (pcp ρ5 56 0 5 0 3) 4 4 0) 4 5 0) 4 6 0 := ⟨_, rfl⟩
  have n9 : ∀ q, q ≠ 4 → q ≠ 5 → ρ9 q = ρ5 q := fun q a b => by rw [x9, pup_ne a, pup_ne a, pup_ne a, pcp_ne b]
  have f44 : ρ9 4 4 = 0 ∧ ρ9 4 5 = 0 ∧ ρ9 4 6 = 0 := by
    refine ⟨?_, ?_, ?_⟩
    · rw [x9, pup_off (by omega), pup_off (by omega), pup_at]
    · rw [x9, pup_off (by omega), pup_at]
    · rw [x9, pup_at]
  have g5 : ∀ f, 0 ≤ f → f < 3 → ρ9 5 f = ρ 56 f := fun f f0 f1 => by rw [x9, pup_ne (by omega), pup_ne (by omega), pup_ne (by omega), pcp_0 ⟨f0, f1⟩, j2 56 (by omega), n4 56 (by omega) (by omega)]
  obtain ⟨ρ10, r1, r2, r3⟩ := raiseC (ρ := ρ9) hw (by rw [n9 52 (by omega) (by omega), j2 52 (by omega), n4 52 (by omega) (by omega)]; exact d1) (by rw [n9 52 (by omega) (by omega), j2 52 (by omega), n4 52 (by omega) (by omega)]; exact d2)
  have e53 : ρ9 53 = ρ 53 := by rw [n9 53 (by omega) (by omega), j2 53 (by omega), n4 53 (by omega) (by omega)]
  have e52 : ρ10 52 = ρ 52 := by rw [r2 52 (by omega), n9 52 (by omega) (by omega), j2 52 (by omega), n4 52 (by omega) (by omega)]
  obtain ⟨sl, esl⟩ : ∃ sl : Int, sl = (if band (ρ 52 9) 8 = 0 then 0 else 1) := ⟨_, rfl⟩
  have sl01 : sl = 0 ∨ sl = 1 := by
    rw [esl]
    split
    · exact Or.inl rfl
    · exact Or.inr rfl
  obtain ⟨ρ14, x14⟩ : ∃ ρ14, ρ14 = pup (pup (pup ρ10 8 5 (ρ 52 6)) 8 6 (ρ 52 7)) 8 7 sl := ⟨_, rfl⟩
  have n14 : ∀ q, q ≠ 8 → ρ14 q = ρ10 q := fun q a => by rw [x14, pup_ne a, pup_ne a, pup_ne a]
  have nn : ∀ q, q ≠ 1 → q ≠ 2 → q ≠ 3 → q ≠ 4 → q ≠ 5 → q ≠ 8 → q ≠ 9 → ρ14 q = ρ q := fun q a1 a2 a3 a4 a5 a8 a9 => by rw [n14 q a8, r2 q a9, n9 q a4 a5, j2 q a3, n4 q a1 a2]
  have s5 : ρ14 8 5 = ρ 52 6 := by rw [x14, pup_off (by omega), pup_off (by omega), pup_at]
  have s6 : ρ14 8 6 = ρ 52 7 := by rw [x14, pup_off (by omega), pup_at]
  have s7 : ρ14 8 7 = sl := by rw [x14, pup_at]
  have h9 : ∀ c, 0 ≤ c → c < 25 → ρ14 9 c = hDr W H (ρ 53) c := fun c c0 c1 => by rw [n14 9 (by omega), r3 c c0 c1, e53]
  have lc : landC ρ14 W H := j3.keep (by rw [n14 1 (by omega), r2 1 (by omega), n9 1 (by omega) (by omega)]) (by rw [n14 3 (by omega), r2 3 (by omega), n9 3 (by omega) (by omega)])
  have hB9 : hB (99 + 3 * 0) (ρ14 (8 + 1)) := fun c c0 c1 => by
    have := (hDr_bd hw (h := ρ 53) (h' := ρ 53) (fun j j0 j1 => ⟨rfl, (d11 j j0 j1).2⟩) c0 c1).2
    show 0 ≤ ρ14 9 c ∧ ρ14 9 c ≤ _
    rw [h9 c c0 c1]
    omega
  have tr := traceC (q := 8) (ρ := ρ14) (by omega) lc (hB9.ok (by omega)) (by rw [s5]; exact d8.1) (by rw [s5]; exact d8.2.1)
  obtain ⟨ρ15, x15⟩ : ∃ ρ15, ρ15 = trM ρ14 8 (bedW W H (ρ14 (8 + 1)) (ρ14 8 5) (ρ14 (8 + 2))) := ⟨_, rfl⟩
  rw [← x15] at tr
  have eS : f_X1_settle ρ = some ρ15 := by
    unfold f_X1_settle
    dsimp only [jn]
    rw [show pup (pup ρ 1 2 (ρ 52 4)) 1 3 (pup ρ 1 2 (ρ 52 4) 52 5) = pup (pup ρ 1 2 (ρ 52 4)) 1 3 (ρ 52 5) by rw [pup_ne (show 52 ≠ 1 by omega)]]
    rw [show (pup (pup ρ 1 2 (ρ 52 4)) 1 3 (ρ 52 5)) 52 8 = ρ 52 8 by rw [pup_ne (by omega), pup_ne (by omega)], ← x4, j1, Option.bind_some, ← x9, r1, Option.bind_some]
    rw [show (pup ρ10 8 5 (ρ10 52 6)) 52 7 = ρ 52 7 by rw [pup_ne (by omega), e52], e52]
    rw [show (pup (pup ρ10 8 5 (ρ 52 6)) 8 6 (ρ 52 7)) 52 9 = ρ 52 9 by rw [pup_ne (by omega), pup_ne (by omega), e52]]
    by_cases b : band (ρ 52 9) 8 = 0
    · have : sl = 0 := by rw [esl, if_pos b]
      rw [this] at x14
      rw [if_pos b, ckp (Or.inl rfl), ← x14, tr, Option.bind_some]
    · have : sl = 1 := by rw [esl, if_neg b]
      rw [this] at x14
      rw [if_neg b, ckp (Or.inr rfl), ← x14, tr, Option.bind_some]
  refine ⟨ρ15, τ', eS, k1, ?_⟩
  obtain ⟨ρ', x'⟩ : ∃ ρ', ρ' = pup (pup ρ15 28 6 0) 0 11 0 := ⟨_, rfl⟩
  rw [← x']
  have n15 : ∀ q, q ≠ 8 → q ≠ 10 → ρ15 q = ρ14 q := fun q a b => by rw [x15, trM_ne a b]
  have n' : ∀ q, q ≠ 0 → q ≠ 28 → ρ' q = ρ15 q := fun q a b => by rw [x', pup_ne a, pup_ne b]
  have no : ∀ q, q ≠ 0 → q ≠ 28 → q ≠ 8 → q ≠ 10 → ρ' q = ρ14 q := fun q a b c d => by rw [n' q a b, n15 q c d]
  have e1 : ρ' 1 = ρ4 1 := by rw [no 1 (by omega) (by omega) (by omega) (by omega), n14 1 (by omega), r2 1 (by omega), n9 1 (by omega) (by omega), j2 1 (by omega)]
  have e2 : ρ' 2 = ρ4 2 := by rw [no 2 (by omega) (by omega) (by omega) (by omega), n14 2 (by omega), r2 2 (by omega), n9 2 (by omega) (by omega), j2 2 (by omega)]
  have e4 : ρ' 4 = ρ9 4 := by rw [no 4 (by omega) (by omega) (by omega) (by omega), n14 4 (by omega), r2 4 (by omega)]
  have e5 : ρ' 5 = ρ9 5 := by rw [no 5 (by omega) (by omega) (by omega) (by omega), n14 5 (by omega), r2 5 (by omega)]
  have e9 : ρ' 9 = ρ14 9 := no 9 (by omega) (by omega) (by omega) (by omega)
  have e8 : ∀ j, j ≠ 3 → j ≠ 4 → ρ' 8 j = ρ14 8 j := fun j a b => by rw [n' 8 (by omega) (by omega), x15, trM_field a b]
  have o65 : ∀ c, 0 ≤ c → c < 25 → τ' 65 c = τ 68 c := fun c c0 c1 => (k7 c c0 c1).1
  refine ⟨⟨lc.keep (no 1 (by omega) (by omega) (by omega) (by omega)) (no 3 (by omega) (by omega) (by omega) (by omega)), ⟨hw, k3, k4⟩, by rw [e1]; exact w4, by rw [k5]; exact d6, ⟨d7, d7'⟩, fun c c0 c1 => by rw [o65 c c0 c1]; exact d13 c c0 c1, ?_, fun f => ?_, fun c c0 c1 => by rw [o65 c c0 (by omega)]; exact d16 c c0 c1, fun f f0 f1 => by rw [e2, g4 f f0 f1]; exact d17 f f0 f1⟩, ?_, ?_, ?_, ?_, ?_, ?_, ?_⟩
  · intro f c f0 f1 c0 c1
    rw [e2, g4 f f0 f1]
    by_cases c25 : c < 25
    · rw [o65 c c0 c25]
      exact d14 f c f0 f1 c0 c1
    · refine ⟨fun z => absurd ((d14 f c f0 f1 c0 c1).mp z).1 (by omega), fun z => absurd z.1 (by omega)⟩
  · rcases d15 f with z | z
    · left
      rw [sm_congr (g := fun c => if τ 68 c = f then 1 else 0) (fun j hj => by
        show (if τ' 65 (j : Int) = f then (1 : Int) else 0) = if τ 68 (j : Int) = f then 1 else 0
        rw [o65 (j : Int) (by omega) (by omega)])]
      exact z
    · exact Or.inr z
  · rw [e4, f44.1]
    refine ⟨fun c c0 c1 => ?_, ?_, ?_, ?_, ?_, ?_⟩
    · rw [Int.zero_add, (k7 c c0 c1).2, show ρ' (8 + 1) = ρ14 9 from e9, h9 c c0 c1]
      exact (hDr_bd hw d11 c0 c1).1
    · rw [show ρ' (8 + 1) = ρ14 (8 + 1) from e9]; exact hB9
    · rw [e8 5 (by omega) (by omega), s5, Int.zero_add, k8]; exact d8
    · rw [e8 6 (by omega) (by omega), s6, Int.zero_add, k9]; exact d9
    · rw [e8 7 (by omega) (by omega), s7, Int.zero_add, k10, d10, ← esl]; exact ⟨sl01, rfl⟩
    · have := bedR_tr (W := W) (H := H) (ρ := ρ14) (q := 8) (ρ14 (8 + 2)) hw (by rw [s5]; exact d8.1) (by rw [s5]; exact d8.2.1)
      rw [← x15] at this
      unfold bedR at this ⊢
      rw [n' 8 (by omega) (by omega), n' (8 + 1) (by omega) (by omega), n' (8 + 2) (by omega) (by omega)]
      exact this
  · unfold MiR
    rw [e4, f44.1, f44.2.1, f44.2.2]
    refine ⟨⟨by decide, by decide, k12 31 (by omega) (by omega)⟩, fun f f0 f1 => ?_, ⟨by decide, by decide, k12 32 (by omega) (by omega)⟩, fun i i0 i1 => by omega, ⟨by decide, by decide, k12 39 (by omega) (by omega)⟩, fun i i0 i1 => by omega⟩
    rw [show (0 : Int) + 28 + f = 28 + f by omega, k11 f f0 f1, show ρ' (4 + 1) f = ρ9 5 f by rw [show ρ' (4 + 1) = ρ9 5 from e5], g5 f f0 f1]
    exact d12 f f0 f1
  · unfold KpR
    rw [show ρ' 0 11 = 0 by rw [x', pup_at], k14, k15]
    exact ⟨by decide, by decide, by decide, fun z => absurd z (by decide), fun z => absurd z (by decide)⟩
  · exact sh.keep (by rw [no 58 (by omega) (by omega) (by omega) (by omega), nn 58 (by omega) (by omega) (by omega) (by omega) (by omega) (by omega) (by omega)]) (by rw [no 59 (by omega) (by omega) (by omega) (by omega), nn 59 (by omega) (by omega) (by omega) (by omega) (by omega) (by omega) (by omega)]) (by rw [no 60 (by omega) (by omega) (by omega) (by omega), nn 60 (by omega) (by omega) (by omega) (by omega) (by omega) (by omega) (by omega)]) (k2 _ (by omega) (by omega) (by omega) (by omega)) (k2 _ (by omega) (by omega) (by omega) (by omega)) (k2 _ (by omega) (by omega) (by omega) (by omega))
  · exact tp.keep (by rw [no 50 (by omega) (by omega) (by omega) (by omega), nn 50 (by omega) (by omega) (by omega) (by omega) (by omega) (by omega) (by omega)]) (by rw [no 51 (by omega) (by omega) (by omega) (by omega), nn 51 (by omega) (by omega) (by omega) (by omega) (by omega) (by omega) (by omega)]) (k6 _ (by omega) (by omega) (by omega)) (k2 _ (by omega) (by omega) (by omega) (by omega))
  · rw [k6 45 (by omega) (by omega) (by omega), ht, x', pup_off (by omega), pup_ne (by omega), n15 0 (by omega) (by omega), nn 0 (by omega) (by omega) (by omega) (by omega) (by omega) (by omega) (by omega)]
  · exact Or.inl (by rw [x', pup_ne (by omega), pup_at])
