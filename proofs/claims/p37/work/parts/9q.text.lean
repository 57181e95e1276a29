/-! text() of both, whole -/
theorem DraR.same {ρ τ ρ' τ' : pm} (h : DraR ρ τ) (c : ∀ q, 52 ≤ q → q ≤ 56 → ρ' q = ρ q) (m : ∀ q, 66 ≤ q → q ≤ 69 → τ' q = τ q) (m2 : ∀ j, 6 ≤ j → j ≤ 21 → τ' 62 j = τ 62 j) : DraR ρ' τ' := by
  obtain ⟨h1, h2, h3, h4, h5, h6⟩ := h
  have c2 := c 52 (by omega) (by omega)
  refine ⟨h1.keep (by rw [c2]) (by rw [c2]) (m2 _ (by omega) (by omega)) (m2 _ (by omega) (by omega)), h2.keep (by rw [c2]) (m2 _ (by omega) (by omega)), h3.keep (by rw [c2]) (m2 _ (by omega) (by omega)) (m2 _ (by omega) (by omega)) (by rw [c2]), h4.keep (by rw [c2]) (m2 _ (by omega) (by omega)) (m _ (by omega) (by omega)) (c _ (by omega) (by omega)), h5.keep (c _ (by omega) (by omega)) (c _ (by omega) (by omega)) (m _ (by omega) (by omega)) (m2 _ (by omega) (by omega)) (m2 _ (by omega) (by omega)) (m2 _ (by omega) (by omega)), h6.keep (by rw [c2]) (c _ (by omega) (by omega)) (m _ (by omega) (by omega)) (m _ (by omega) (by omega)) (m2 _ (by omega) (by omega)) (m2 _ (by omega) (by omega)) (m2 _ (by omega) (by omega))⟩
theorem k_text {ρ τ : pm} (h : Rel ρ τ) : ∃ r ρ' τ', f_X8_text ρ = some (r, ρ') ∧ f_X9_text τ = some (r, τ') ∧ Rel ρ' τ' := by
  obtain ⟨W, H, fm, hr⟩ := h
  have tp := hr.2.2.2.2.2.1
  have sh := hr.2.2.2.2.1
  have t45 := hr.2.2.2.2.2.2.1
  -- the class's start
  obtain ⟨ρ1, u1, u2, u4, u5, u6, u7, u8, u9, uy, ul, ug, uw⟩ := clearC ρ
  obtain ⟨ρ2, e2⟩ : ∃ ρ2, ρ2 = pup (pup (pup ρ1 50 2 0) 50 6 0) 50 7 0 := ⟨_, rfl⟩
  have rw2 : f_X6_rewind ρ1 = some ρ2 := by
    unfold f_X6_rewind
    rw [jn_eq, jn_eq, jn_eq, ← e2]
  have n2 : ∀ q, q ≠ 50 → ρ2 q = ρ1 q := fun q hq => by rw [e2, pup_ne hq, pup_ne hq, pup_ne hq]
  have o2 : ∀ j, j ≠ 2 → j ≠ 6 → j ≠ 7 → ρ2 50 j = ρ1 50 j := fun j a b c => by rw [e2, pup_off c, pup_off b, pup_off a]
  have p2 : ρ2 50 2 = 0 := by rw [e2, pup_off (by omega), pup_off (by omega), pup_at]
  have p6 : ρ2 50 6 = 0 := by rw [e2, pup_off (by omega), pup_at]
  have lc2 : lnC ρ ρ2 := ⟨fun q hq => by rw [n2 q (by omega), u2 q (by omega)], by rw [o2 1 (by omega) (by omega) (by omega), u2 50 (by omega)]⟩
  -- the reference's start
  obtain ⟨τ2, g2⟩ : ∃ τ2, τ2 = pup (pup τ 62 28 0) 62 24 0 := ⟨_, rfl⟩
  obtain ⟨τ3, v1, v2, v3, v6, v7, v8, v9, v10, v11, v16, v17, v18, v19, v20, v21, vo, vp⟩ := draftM τ2
  have lm3 : lnM τ τ3 := ⟨fun q hq => by rw [v2 q (by omega) (by omega), g2, pup_ne (by omega), pup_ne (by omega)], fun j hj => by rw [v3 j (by omega), g2, pup_off (by omega), pup_off (by omega)]⟩
  have q28 : τ3 62 28 = 0 := by rw [v3 28 (by omega), g2, pup_off (by omega), pup_at]
  have q24 : τ3 62 24 = 0 := by rw [v3 24 (by omega), g2, pup_at]
  have tp3 : TpR ρ2 τ3 := tp.keep lc2.2 (lc2.1 51 (by omega)) (lm3.2 23 (by omega)) (lm3.1 70 (by omega))
  obtain ⟨τ4, w1, w2, w3, w4, w5⟩ := nextM (a := 0) tp3 q28 q24 ⟨by omega, by have := tp3.1; omega⟩
  have m4 : tkM τ3 τ4 := ⟨w2, w3⟩
  have a0 : AhR ρ2 τ4 := ⟨tp3.keep rfl rfl (w3 23 (by omega)) (w2 70 (by omega)), p6, ⟨by omega, by have := tp3.1; omega⟩, by rw [p2, w2 70 (by omega)]; exact w4, by rw [p2, w2 70 (by omega)]; exact w5⟩
  have d0 : DraR ρ2 τ4 := DraR.tk (ρ := ρ2) (τ := τ3) (DraR.first (by rw [n2 52 (by omega)]; exact u4) (by rw [n2 52 (by omega)]; exact u5) (by rw [n2 52 (by omega)]; exact u6) (by rw [n2 52 (by omega)]; exact u7) (by rw [n2 52 (by omega)]; exact u8) (by rw [n2 52 (by omega)]; exact u9) (by rw [n2 53 (by omega)]; exact uy) (by rw [n2 54 (by omega)]; exact ul) (by rw [n2 55 (by omega)]; exact ug) (by rw [n2 56 (by omega)]; exact uw) v6 v7 v8 v9 v10 v11 v16 v17 v18 v19 v20 v21 vo vp) (tkC.refl _) m4
  have lm4 : lnM τ τ4 := lm3.trans m4.ln
  unfold f_X8_text f_X9_text f_X1_take
  rw [u1, Option.bind_some, rw2, Option.bind_some, jn_eq, jn_eq, ← g2, v1, Option.bind_some, w1, Option.bind_some]
  obtain ⟨K70, e70⟩ : ∃ K70 : Int → pm → Option (Int × pm), K70 = fun (l2 : Int) (ρ : pm) => (f_X1_isWhole ρ).bind (fun v12 => if v12 = 0 then (f_X6_failBehindAll 6 ρ).bind (fun ρ14 => some (l2, ρ14)) else some (l2, ρ)) := ⟨_, rfl⟩
  rw [← e70]
  obtain ⟨K44, e44⟩ : ∃ K44 : Int → pm → Option (Int × pm), K44 = (fun (l1 : Int) (ρ : pm) => ck (inR (ρ 62 28)) (jn (fun (l1 : Int) (ρ : pm) => jn (pup ρ 62 23 0) (fun ρ10 => ck (inR (ρ10 62 28)) (if (ρ10 62 28) ≤ 0 then (f_X9_keepDraft ρ10).bind (fun ρ12 => some (l1, ρ12)) else some ((-10) - (ρ10 62 29), ρ10)))) (fun j111 => if (ρ 62 28) = 0 then ck (inR (ρ 62 18)) (ck (inR (ρ 62 7)) (jn (fun (l1 s1 : Int) (ρ : pm) => (f_X9_needs s1 6 ρ).bind (fun ρ15 => j111 l1 ρ15)) (fun j106 => jn (fun (l1 : Int) (ρ : pm) => j106 l1 0 ρ) (fun j105 => if (ρ 62 7) ≤ (ρ 62 18) then j105 l1 ρ else ck (inR (ρ 62 19)) (ck (inR (ρ 62 6)) (if (ρ 62 6) ≤ (ρ 62 19) then j105 l1 ρ else ck (inR (ρ 62 20)) (ck (inR ((ρ 62 6) * (ρ 62 7))) (if ((ρ 62 6) * (ρ 62 7)) ≤ (ρ 62 20) then j105 l1 ρ else ck (inR (ρ 62 21)) (ck (inR (ρ 62 9)) (if (ρ 62 9) ≤ (ρ 62 21) then j105 l1 ρ else j106 l1 1 ρ)))))))))) else j111 l1 ρ))) := ⟨_, rfl⟩
  rw [← e44]
  -- a fault: what both answer, and that nothing else has changed
  have bad : ∀ (v l : Int) (ρ5 τ5 : pm), BadR ρ5 τ5 → lnC ρ ρ5 → lnM τ τ5 → K44 l τ5 = some (-10 - τ5 62 29, pup τ5 62 23 0) ∧ ∃ ρ', bn2 (some (v, ρ5)) (fun v1 ρ2 => jn (pup ρ2 0 12 (ρ2 50 6)) (fun ρ3 => jn (pup ρ3 50 1 0) (fun ρ4 => ck (inR (ρ4 0 12)) (if (ρ4 0 12) = 0 then (f_X1_settle ρ4).bind (fun ρ6 => jn (pup ρ6 28 6 0) (fun ρ7 => jn (pup ρ7 0 11 0) (fun ρ8 => some (v1, ρ8)))) else some ((-10) - (ρ4 50 7), ρ4))))) = some (-10 - τ5 62 29, ρ') ∧ RelW W H fm ρ' (pup τ5 62 23 0) := by
    intro v l ρ5 τ5 b c m
    have b1 := b.1
    have b2 := b.2.1
    have r28 : inR (τ5 62 28) := ⟨by omega, by omega⟩
    refine ⟨?_, pup (pup ρ5 0 12 (ρ5 50 6)) 50 1 0, ?_, ?_⟩
    · rw [e44]
      dsimp only [jn]
      rw [ckp r28, if_neg (by omega), pup_off (show (28 : Int) ≠ 23 by omega), ckp r28, if_neg (by omega), pup_off (show (29 : Int) ≠ 23 by omega)]
    · rw [bn2_of]
      dsimp only [jn]
      rw [show (pup (pup ρ5 0 12 (ρ5 50 6)) 50 1 0) 0 12 = ρ5 50 6 by rw [pup_ne (by omega), pup_at], ckp (show inR (ρ5 50 6) from ⟨by omega, by omega⟩), if_neg (by omega), show (pup (pup ρ5 0 12 (ρ5 50 6)) 50 1 0) 50 7 = ρ5 50 7 by rw [pup_off (by omega), pup_ne (by omega)], b.2.2.1]
    · refine hr.text (fun q hq => by rw [pup_ne (by omega), pup_ne (by omega), c.1 q (by omega)]) (by rw [pup_ne (by omega), pup_off (by omega), c.1 0 (by omega)]) (by rw [pup_ne (by omega), pup_off (by omega), c.1 0 (by omega)]) (fun q hq => by rw [pup_ne (by omega), m.1 q (by omega)]) (fun j hj => by rw [pup_off (by omega), m.2 j (by omega)]) ?_
      unfold TpR
      rw [pup_at, pup_at]
      exact ⟨by omega, fun i i0 i1 => by omega⟩
  rcases takeLoop (K70 := K70) (K37 := K70) (K44 := K44) 320 fu fu 0 ρ2 τ4 (by omega) (by omega) (by unfold fu; omega) (by unfold fu; omega) a0 d0 (by omega) with ⟨v, ρ5, τ5, l, x1, x2, x3, x4, x5⟩ | ⟨l, ρ5, τ5, x1, x2, x3, x4, x5, x6, x7⟩
  · obtain ⟨y1, ρ', y2, y3⟩ := bad v l ρ5 τ5 x3 (lc2.trans x4) (lm4.trans x5)
    exact ⟨_, ρ', _, by rw [x1]; exact y2, by rw [x2]; exact y1, W, H, fm, y3⟩
  · have lc5 := lc2.trans x6
    have lm5 := lm4.trans x7
    rw [x1, x2]
    have t' := x3
    obtain ⟨b1, b2, b3, b4, b5, b6, b7, b8, b9, b10⟩ := t'
    have s := x5.1
    have dw := x5.2.2.2.1
    have y18 := x5.2.2.2.2.1.2.2.1
    have y19 := x5.2.2.2.2.1.2.2.2.1
    have g20 := x5.2.2.2.2.2.2.2.2.1
    have g21 := x5.2.2.2.2.2.2.2.2.2.1
    have smul := side_mul s.1.1 s.2.1
    rw [← s.1.2, ← s.2.2] at smul
    have fin : ∀ (τ6 : pm), jn (pup τ6 62 23 0) (fun ρ10 => ck (inR (ρ10 62 28)) (if (ρ10 62 28) ≤ 0 then (f_X9_keepDraft ρ10).bind (fun ρ12 => some (l, ρ12)) else some ((-10) - (ρ10 62 29), ρ10))) = ck (inR (τ6 62 28)) (if τ6 62 28 ≤ 0 then (f_X9_keepDraft (pup τ6 62 23 0)).bind (fun ρ12 => some (l, ρ12)) else some ((-10) - τ6 62 29, pup τ6 62 23 0)) := fun τ6 => by
      rw [jn_eq, pup_off (show (28 : Int) ≠ 23 by omega), pup_off (show (29 : Int) ≠ 23 by omega)]
    have k44 : K44 l τ5 = (if (τ5 62 18 < τ5 62 7 ∧ τ5 62 19 < τ5 62 6 ∧ τ5 62 20 < τ5 62 6 * τ5 62 7 ∧ τ5 62 21 < τ5 62 9) then (f_X9_keepDraft (pup τ5 62 23 0)).bind (fun ρ12 => some (l, ρ12)) else some ((-10) - τ5 62 25, pup (pup (pup τ5 62 28 6) 62 29 (τ5 62 25)) 62 23 0)) := by
      have no : (f_X9_needs 0 6 τ5).bind (fun ρ15 => jn (pup ρ15 62 23 0) (fun ρ10 => ck (inR (ρ10 62 28)) (if (ρ10 62 28) ≤ 0 then (f_X9_keepDraft ρ10).bind (fun ρ12 => some (l, ρ12)) else some ((-10) - (ρ10 62 29), ρ10)))) = some ((-10) - τ5 62 25, pup (pup (pup τ5 62 28 6) 62 29 (τ5 62 25)) 62 23 0) := by
        rw [needs_no b2, Option.bind_some, fin, pup_off (show (28 : Int) ≠ 29 by omega), pup_at, ckp (by decide), if_neg (by decide), pup_at]
      have yes : (f_X9_needs 1 6 τ5).bind (fun ρ15 => jn (pup ρ15 62 23 0) (fun ρ10 => ck (inR (ρ10 62 28)) (if (ρ10 62 28) ≤ 0 then (f_X9_keepDraft ρ10).bind (fun ρ12 => some (l, ρ12)) else some ((-10) - (ρ10 62 29), ρ10)))) = (f_X9_keepDraft (pup τ5 62 23 0)).bind (fun ρ12 => some (l, ρ12)) := by
        rw [needs_ok (by decide) (by decide), Option.bind_some, fin, b2, ckp R_0, if_pos (by decide)]
      dsimp only [jn] at no yes
      rw [e44]
      dsimp only [jn]
      rw [no, yes, b2, ckp R_0, i00, ckp (show inR (τ5 62 18) from ⟨by omega, by omega⟩), ckp (show inR (τ5 62 7) from ⟨by have := s.2; omega, by have := s.2; omega⟩), ckp (show inR (τ5 62 19) from ⟨by omega, by omega⟩), ckp (show inR (τ5 62 6) from ⟨by have := s.1; omega, by have := s.1; omega⟩), ckp (show inR (τ5 62 20) from ⟨by omega, by omega⟩), ckp (show inR (τ5 62 6 * τ5 62 7) from ⟨by omega, by omega⟩), ckp (show inR (τ5 62 21) from ⟨by omega, by omega⟩), ckp (show inR (τ5 62 9) from ⟨by have := dw.1; have := dw.2.1; omega, by have := dw.1; have := dw.2.1; omega⟩)]
      by_cases z1 : τ5 62 7 ≤ τ5 62 18
      · rw [if_pos z1, if_neg (fun z => by have := z.1; omega)]
      · rw [if_neg z1]
        by_cases z2 : τ5 62 6 ≤ τ5 62 19
        · rw [if_pos z2, if_neg (fun z => by have := z.2.1; omega)]
        · rw [if_neg z2]
          by_cases z3 : τ5 62 6 * τ5 62 7 ≤ τ5 62 20
          · rw [if_pos z3, if_neg (fun z => by have := z.2.2.1; omega)]
          · rw [if_neg z3]
            by_cases z4 : τ5 62 9 ≤ τ5 62 21
            · rw [if_pos z4, if_neg (fun z => by have := z.2.2.2; omega)]
            · rw [if_neg z4, if_pos ⟨by omega, by omega, by omega, by omega⟩]
    rw [k44]
    rcases wholeR x5 with ⟨w, iw⟩ | ⟨w, iw⟩
    · rw [if_pos (show (τ5 62 18 < τ5 62 7 ∧ τ5 62 19 < τ5 62 6 ∧ τ5 62 20 < τ5 62 6 * τ5 62 7 ∧ τ5 62 21 < τ5 62 9) from w)]
      have eK : K70 l ρ5 = some (l, ρ5) := by
        rw [e70]
        show (f_X1_isWhole ρ5).bind (fun v12 => if v12 = 0 then (f_X6_failBehindAll 6 ρ5).bind (fun ρ14 => some (l, ρ14)) else some (l, ρ5)) = _
        rw [iw, Option.bind_some, i10]
      obtain ⟨ρ6, e6⟩ : ∃ ρ6, ρ6 = pup (pup ρ5 0 12 (ρ5 50 6)) 50 1 0 := ⟨_, rfl⟩
      obtain ⟨τ6, e6'⟩ : ∃ τ6, τ6 = pup τ5 62 23 0 := ⟨_, rfl⟩
      have z12 : ρ6 0 12 = 0 := by rw [e6, pup_ne (by omega), pup_at]; exact b1
      have n6 : ∀ q, q ≠ 0 → q ≠ 50 → ρ6 q = ρ5 q := fun q x y => by rw [e6, pup_ne y, pup_ne x]
      have d6 : DraR ρ6 τ6 := x5.same (fun q q0 q1 => n6 q (by omega) (by omega)) (fun q q0 q1 => by rw [e6', pup_ne (by omega)]) (fun j j0 j1 => by rw [e6', pup_off (by omega)])
      have w6 : whM τ6 := by
        unfold whM
        rw [e6', pup_off (by omega), pup_off (by omega), pup_off (by omega), pup_off (by omega), pup_off (by omega), pup_off (by omega), pup_off (by omega)]
        exact w
      have tp6 : TpR ρ6 τ6 := by
        unfold TpR
        rw [e6, e6', pup_at, pup_at]
        exact ⟨by omega, fun i i0 i1 => by omega⟩
      have sh6 : ShR ρ6 τ6 := sh.keep (by rw [n6 58 (by omega) (by omega), lc5.1 58 (by omega)]) (by rw [n6 59 (by omega) (by omega), lc5.1 59 (by omega)]) (by rw [n6 60 (by omega) (by omega), lc5.1 60 (by omega)]) (by rw [e6', pup_ne (by omega), lm5.1 81 (by omega)]) (by rw [e6', pup_ne (by omega), lm5.1 82 (by omega)]) (by rw [e6', pup_ne (by omega), lm5.1 83 (by omega)])
      obtain ⟨ρ', τ', r1, r2, r3⟩ := settleR (d6.done w6) sh6 tp6 (by rw [e6', pup_off (by omega), lm5.2 45 (by omega), e6, pup_ne (by omega), pup_off (by omega), lc5.1 0 (by omega)]; exact t45)
      rw [eK, bn2_of, ← e6', r2, Option.bind_some]
      rw [jn_eq, jn_eq, ← e6, z12, ckp R_0, i00, r1, Option.bind_some, jn_eq, jn_eq]
      exact ⟨_, _, _, rfl, rfl, _, _, _, r3⟩
    · rw [if_neg (show ¬ (τ5 62 18 < τ5 62 7 ∧ τ5 62 19 < τ5 62 6 ∧ τ5 62 20 < τ5 62 6 * τ5 62 7 ∧ τ5 62 21 < τ5 62 9) from w)]
      have eK : K70 l ρ5 = some (l, pup (pup ρ5 50 6 6) 50 7 (ρ5 50 1)) := by
        rw [e70]
        show (f_X1_isWhole ρ5).bind (fun v12 => if v12 = 0 then (f_X6_failBehindAll 6 ρ5).bind (fun ρ14 => some (l, ρ14)) else some (l, ρ5)) = _
        rw [iw, Option.bind_some, i00]
        unfold f_X6_failBehindAll
        rw [jn_eq, jn_eq, Option.bind_some, pup_off (show (1 : Int) ≠ 6 by omega)]
      rw [eK]
      have e41 : ρ5 50 1 = ρ5 50 4 := (b9 x4).symm
      rw [e41]
      have tp5 : TpR ρ5 τ5 := tp.keep lc5.2 (lc5.1 51 (by omega)) (lm5.2 23 (by omega)) (lm5.1 70 (by omega))
      obtain ⟨-, ρ', y2, y3⟩ := bad l l _ _ (x3.fails (c := 6) (d := 6) tp5 (by omega) (by omega)) (lc5.trans (tk_failC _ _ _).ln) (lm5.trans (tk_failM _ _ _).ln)
      rw [pup_at] at y2
      exact ⟨_, ρ', _, y2, rfl, W, H, fm, y3⟩
