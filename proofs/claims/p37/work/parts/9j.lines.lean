/-! plain, spring, law, silt, farm of both -/
theorem onceD {ρ τ τ1 : pm} {p : Int} (d : DraR ρ τ) (hp : p = 1 ∨ p = 2 ∨ p = 4) (m : tkM (pup τ 62 16 (bor (ρ 52 9) p)) τ1) : DraR (pup ρ 52 9 (bor (ρ 52 9) p)) τ1 := by
  refine DraR.tk (ρ := pup ρ 52 9 (bor (ρ 52 9) p)) (τ := pup τ 62 16 (bor (ρ 52 9) p)) ?_ (tkC.refl _) m
  obtain ⟨h1, h2, h3, h4, h5, h6⟩ := d
  refine ⟨h1.keep (pup_off (by omega)) (pup_off (by omega)) (pup_off (by omega)) (pup_off (by omega)), h2.keep (pup_off (by omega)) (pup_off (by omega)), ?_, h4.keep (pup_off (by omega)) (pup_off (by omega)) (pup_ne (by omega)) (pup_ne (by omega)), h5.keep (pup_ne (by omega)) (pup_ne (by omega)) (pup_ne (by omega)) (pup_off (by omega)) (pup_off (by omega)) (pup_off (by omega)), h6.keep (pup_off (by omega)) (pup_ne (by omega)) (pup_ne (by omega)) (pup_ne (by omega)) (pup_off (by omega)) (pup_off (by omega)) (pup_off (by omega))⟩
  obtain ⟨a, b, c, e6⟩ := h3
  have hk : ∃ k : Int, (k = 0 ∧ p = 1) ∨ (k = 1 ∧ p = 2) ∨ (k = 2 ∧ p = 4) ∨ (k = 3 ∧ p = 8) := by
    rcases hp with z | z | z
    · exact ⟨0, by omega⟩
    · exact ⟨1, by omega⟩
    · exact ⟨2, by omega⟩
  obtain ⟨k, hk⟩ := hk
  have x := (came_bit a hk).2.2
  have y := (came_silt a hp).1
  unfold DcR
  rw [pup_at, pup_at, pup_off (by omega), c]
  refine ⟨x, rfl, ?_, fun z => by rw [pup_off (by omega)]; exact e6 ((came_silt a hp).2.2.1 z)⟩
  by_cases z : band (ρ 52 9) 8 = 0
  · rw [if_pos z, if_pos (y.mpr z)]
  · rw [if_neg z, if_neg (fun q => z (y.mp q))]
theorem plainR {ρ τ : pm} (tp : TpR ρ τ) (t : TokR ρ τ) (d : DraR ρ τ) (k1 : ρ 50 3 = 1) (ln : f_X9_lineNow τ = some 0) : ∃ ρ' τ', f_X1_takePlain ρ = some ρ' ∧ f_X9_readLine τ = some τ' ∧ LnR ρ τ ρ' τ' := by
  rcases onceR (k := 0) (p := 1) tp t d k1 (by omega) ln with ⟨ρ1, τ1, c1, c2, c3⟩ | ⟨ρ1, τ1, c1, c2, c3, c4, c5, c6, c7⟩
  · exact ⟨ρ1, τ1, by unfold f_X1_takePlain; rw [c1, bn2_of, i00], c2, c3⟩
  · have d1 : DraR ρ1 τ1 := by rw [c4]; exact onceD d (by omega) c5
    have lc : lnC ρ ρ1 := by rw [c4]; exact lnC.pup _ (by omega) _ _
    have lm : lnM τ τ1 := (lnM.pupf _ (by omega) _).trans c5.ln
    have e0 : ρ1 50 = ρ 50 := by rw [c4, pup_ne (by omega)]
    unfold f_X1_takePlain
    rw [c1, bn2_of, i10, c3]
    clear c1 c2 c3 c4 c5
    rcases c6.fault01 with f0 | f1
    · rw [f0, ckp R_0, if_pos (by decide)]
      unfold f_X9_readLineOf
      rw [ckp R_0, if_pos rfl]
      dsimp only [jn]
      obtain ⟨v, ρ2, w, τ2, n1, n2, n3, n4, n5⟩ := c6.num (lo := 2) (hi := 5) (by decide) (by decide)
      have d2 := d1.tk n3 n4
      rw [n1, bn2_of, n2, bn2_of]
      rcases n5 with ⟨v0, w0, b⟩ | ⟨v1, w5, wl, wh, a2, ps⟩
      · have b' : 1 ≤ (pup τ2 62 6 w) 62 28 ∧ (pup τ2 62 6 w) 62 28 ≤ 6 := by rw [pup_off (by omega)]; exact b.2.1
        rw [v0, i00, bad_read b', bn2_of, Option.bind_some, bad_tail (by rw [pup_off (by omega)]; exact b')]
        exact ⟨_, _, rfl, rfl, lc.trans n3.ln, lm.trans (n4.ln.trans ((lnM.pupf _ (by omega) _).trans (lnM.pupf _ (by omega) _))), Or.inl (b.keep rfl rfl (by rw [pup_off (by omega), pup_off (by omega)]) (by rw [pup_off (by omega), pup_off (by omega)]))⟩
      · subst w5
        rw [v1, i10]
        have a3 : AhR (pup ρ2 52 4 (ρ2 50 5)) (pup τ2 62 6 (ρ2 50 5)) := a2.keep (pup_ne (by omega)) (pup_ne (by omega)) (fun j j0 j1 => pup_off (by omega)) (pup_ne (by omega))
        obtain ⟨v', ρ4, w', τ4, o1, o2, o3, o4, o5⟩ := a3.num (lo := 2) (hi := 5) (by decide) (by decide)
        rw [o1, bn2_of, o2, bn2_of, Option.bind_some]
        have lc4 : lnC ρ ρ4 := lc.trans (n3.ln.trans ((lnC.pup _ (by omega) _ _).trans o3.ln))
        have lm4 : lnM τ τ4 := lm.trans (n4.ln.trans ((lnM.pupf _ (by omega) _).trans o4.ln))
        rcases o5 with ⟨v0', w0', b⟩ | ⟨v1', w5', wl', wh', a5, ps'⟩
        · rw [v0', i00, bad_tail (by rw [pup_off (by omega)]; exact b.2.1)]
          exact ⟨_, _, rfl, rfl, lc4, lm4.trans (lnM.pupf _ (by omega) _), Or.inl (b.keep rfl rfl (pup_off (by omega)) (pup_off (by omega)))⟩
        · subst w5'
          rw [v1', i10]
          have a6 : AhR (pup ρ4 52 5 (ρ4 50 5)) (pup τ4 62 7 (ρ4 50 5)) := a5.keep (pup_ne (by omega)) (pup_ne (by omega)) (fun j j0 j1 => pup_off (by omega)) (pup_ne (by omega))
          obtain ⟨ρ7, τ7, q1, q2, q3, q4, q5⟩ := a6.tail
          rw [q1, q2, Option.bind_some]
          refine ⟨ρ7, τ7, rfl, rfl, lc4.trans ((lnC.pup _ (by omega) _ _).trans q3.ln), lm4.trans ((lnM.pupf _ (by omega) _).trans q4.ln), q5.imp id (fun z => ⟨z.1, ?_, ?_⟩)⟩
          · refine DraR.tk ?_ q3 q4
            obtain ⟨h1, h2, h3, h4, h5, h6⟩ := d2
            have r52 : ∀ j, j ≠ 4 → ρ4 52 j = ρ2 52 j := fun j hj => by rw [o3.1 52 (by omega), pup_off hj]
            have rN : ∀ q, q ≠ 50 → q ≠ 52 → ρ4 q = ρ2 q := fun q x y => by rw [o3.1 q x, pup_ne y]
            have s62 : ∀ j, (j < 24 ∨ 29 < j) → j ≠ 6 → τ4 62 j = τ2 62 j := fun j x y => by rw [o4.2 j x, pup_off y]
            have sN : ∀ q, q ≠ 62 → τ4 q = τ2 q := fun q x => by rw [o4.1 q x, pup_ne x]
            refine ⟨⟨⟨⟨?_, ?_⟩, ?_⟩, ⟨?_, ?_⟩, ?_⟩, h2.keep (by rw [pup_off (by omega), r52 _ (by omega)]) (by rw [pup_off (by omega), s62 _ (by omega) (by omega)]), h3.keep (by rw [pup_off (by omega), r52 _ (by omega)]) (by rw [pup_off (by omega), s62 _ (by omega) (by omega)]) (by rw [pup_off (by omega), s62 _ (by omega) (by omega)]) (by rw [pup_off (by omega), r52 _ (by omega)]), h4.keep (by rw [pup_off (by omega), r52 _ (by omega)]) (by rw [pup_off (by omega), s62 _ (by omega) (by omega)]) (by rw [pup_ne (by omega), sN _ (by omega)]) (by rw [pup_ne (by omega), rN _ (by omega) (by omega)]), h5.keep (by rw [pup_ne (by omega), rN _ (by omega) (by omega)]) (by rw [pup_ne (by omega), rN _ (by omega) (by omega)]) (by rw [pup_ne (by omega), sN _ (by omega)]) (by rw [pup_off (by omega), s62 _ (by omega) (by omega)]) (by rw [pup_off (by omega), s62 _ (by omega) (by omega)]) (by rw [pup_off (by omega), s62 _ (by omega) (by omega)]), h6.keep (by rw [pup_off (by omega), r52 _ (by omega)]) (by rw [pup_ne (by omega), rN _ (by omega) (by omega)]) (by rw [pup_ne (by omega), sN _ (by omega)]) (by rw [pup_ne (by omega), sN _ (by omega)]) (by rw [pup_off (by omega), s62 _ (by omega) (by omega)]) (by rw [pup_off (by omega), s62 _ (by omega) (by omega)]) (by rw [pup_off (by omega), s62 _ (by omega) (by omega)])⟩
            · rw [pup_off (by omega), o3.1 52 (by omega), pup_at]; omega
            · rw [pup_off (by omega), o3.1 52 (by omega), pup_at]; omega
            · rw [pup_off (by omega), pup_off (by omega), o3.1 52 (by omega), pup_at, o4.2 6 (by omega), pup_at]
            · rw [pup_at]; omega
            · rw [pup_at]; omega
            · rw [pup_at, pup_at]
          · have p1 : ρ2 50 2 ≤ ρ4 50 2 := by
              have := ps'
              rw [pup_ne (by omega)] at this
              exact this
            have p2 : ρ4 50 2 < ρ7 50 2 := by
              have := z.2
              rw [pup_ne (by omega)] at this
              exact this
            rw [e0] at ps
            omega
    · obtain ⟨ρ', g1, g2, g3, g4, g5⟩ := c6.bad (by omega)
      rw [g1, bn2_of, i00, f1, ckp (by decide), if_neg (by decide)]
      exact ⟨ρ', τ1, rfl, rfl, lc.trans g4.ln, lm, Or.inl g5⟩
theorem lawR {ρ τ : pm} (tp : TpR ρ τ) (t : TokR ρ τ) (d : DraR ρ τ) (k1 : ρ 50 3 = 1) (ln : f_X9_lineNow τ = some 2) : ∃ ρ' τ', f_X1_takeLaw ρ = some ρ' ∧ f_X9_readLine τ = some τ' ∧ LnR ρ τ ρ' τ' := by
  rcases onceR (k := 2) (p := 4) tp t d k1 (by omega) ln with ⟨ρ1, τ1, c1, c2, c3⟩ | ⟨ρ1, τ1, c1, c2, c3, c4, c5, c6, c7⟩
  · exact ⟨ρ1, τ1, by unfold f_X1_takeLaw; rw [c1, bn2_of, i00], c2, c3⟩
  · have d1 : DraR ρ1 τ1 := by rw [c4]; exact onceD d (by omega) c5
    have lc : lnC ρ ρ1 := by rw [c4]; exact lnC.pup _ (by omega) _ _
    have lm : lnM τ τ1 := (lnM.pupf _ (by omega) _).trans c5.ln
    have e0 : ρ1 50 = ρ 50 := by rw [c4, pup_ne (by omega)]
    unfold f_X1_takeLaw
    rw [c1, bn2_of, i10, c3]
    clear c1 c2 c3 c4 c5
    rcases c6.fault01 with f0 | f1
    · rw [f0, ckp R_0, if_pos (by decide)]
      unfold f_X9_readLineOf
      rw [ckp (by decide), if_neg (by decide), if_neg (by decide), if_pos rfl]
      dsimp only [jn]
      obtain ⟨v, ρ2, w, τ2, n1, n2, n3, n4, n5⟩ := c6.num (lo := 0) (hi := 2) (by decide) (by decide)
      have d2 := d1.tk n3 n4
      rw [n1, bn2_of, n2, bn2_of, Option.bind_some]
      rcases n5 with ⟨v0, w0, b⟩ | ⟨v1, w5, wl, wh, a2, ps⟩
      · rw [v0, i00, bad_tail (by rw [pup_off (by omega)]; exact b.2.1)]
        exact ⟨_, _, rfl, rfl, lc.trans n3.ln, lm.trans (n4.ln.trans (lnM.pupf _ (by omega) _)), Or.inl (b.keep rfl rfl (pup_off (by omega)) (pup_off (by omega)))⟩
      · subst w5
        rw [v1, i10]
        have a3 : AhR (pup ρ2 52 7 (ρ2 50 5)) (pup τ2 62 10 (ρ2 50 5)) := a2.keep (pup_ne (by omega)) (pup_ne (by omega)) (fun j j0 j1 => pup_off (by omega)) (pup_ne (by omega))
        obtain ⟨ρ7, τ7, q1, q2, q3, q4, q5⟩ := a3.tail
        rw [q1, q2, Option.bind_some]
        refine ⟨ρ7, τ7, rfl, rfl, lc.trans (n3.ln.trans ((lnC.pup _ (by omega) _ _).trans q3.ln)), lm.trans (n4.ln.trans ((lnM.pupf _ (by omega) _).trans q4.ln)), q5.imp id (fun z => ⟨z.1, ?_, ?_⟩)⟩
        · refine DraR.tk ?_ q3 q4
          obtain ⟨h1, h2, h3, h4, h5, h6⟩ := d2
          refine ⟨h1.keep (pup_off (by omega)) (pup_off (by omega)) (pup_off (by omega)) (pup_off (by omega)), ⟨⟨?_, ?_⟩, ?_⟩, h3.keep (pup_off (by omega)) (pup_off (by omega)) (pup_off (by omega)) (pup_off (by omega)), h4.keep (pup_off (by omega)) (pup_off (by omega)) (pup_ne (by omega)) (pup_ne (by omega)), h5.keep (pup_ne (by omega)) (pup_ne (by omega)) (pup_ne (by omega)) (pup_off (by omega)) (pup_off (by omega)) (pup_off (by omega)), h6.keep (pup_off (by omega)) (pup_ne (by omega)) (pup_ne (by omega)) (pup_ne (by omega)) (pup_off (by omega)) (pup_off (by omega)) (pup_off (by omega))⟩
          · rw [pup_at]; omega
          · rw [pup_at]; omega
          · rw [pup_at, pup_at]
        · have p2 : ρ2 50 2 < ρ7 50 2 := by
            have := z.2
            rw [pup_ne (by omega)] at this
            exact this
          rw [e0] at ps
          omega
    · obtain ⟨ρ', g1, g2, g3, g4, g5⟩ := c6.bad (by omega)
      rw [g1, bn2_of, i00, f1, ckp (by decide), if_neg (by decide)]
      exact ⟨ρ', τ1, rfl, rfl, lc.trans g4.ln, lm, Or.inl g5⟩
theorem siltR {ρ τ : pm} (tp : TpR ρ τ) (t : TokR ρ τ) (d : DraR ρ τ) (k1 : ρ 50 3 = 1) (ln : f_X9_lineNow τ = some 3) : ∃ ρ' τ', f_X1_takeSilt ρ = some ρ' ∧ f_X9_readLine τ = some τ' ∧ LnR ρ τ ρ' τ' := by
  rcases onceR (k := 3) (p := 8) tp t d k1 (by omega) ln with ⟨ρ1, τ1, c1, c2, c3⟩ | ⟨ρ1, τ1, c1, c2, c3, c4, c5, c6, c7⟩
  · exact ⟨ρ1, τ1, by unfold f_X1_takeSilt; rw [c1, bn2_of, i00], c2, c3⟩
  · have lc : lnC ρ ρ1 := by rw [c4]; exact lnC.pup _ (by omega) _ _
    have lm : lnM τ τ1 := (lnM.pupf _ (by omega) _).trans c5.ln
    have e0 : ρ1 50 = ρ 50 := by rw [c4, pup_ne (by omega)]
    unfold f_X1_takeSilt
    rw [c1, bn2_of, i10, c3]
    rcases c6.fault01 with f0 | f1
    · rw [f0, ckp R_0, if_pos (by decide)]
      unfold f_X9_readLineOf
      rw [ckp (by decide), if_neg (by decide), if_neg (by decide), if_neg (by decide), if_pos rfl, jn_eq, Option.bind_some]
      have a3 : AhR ρ1 (pup τ1 62 11 1) := c6.keep rfl rfl (fun j j0 j1 => pup_off (by omega)) (pup_ne (by omega))
      obtain ⟨ρ7, τ7, q1, q2, q3, q4, q5⟩ := a3.tail
      rw [q1, q2, Option.bind_some]
      refine ⟨ρ7, τ7, rfl, rfl, lc.trans q3.ln, lm.trans ((lnM.pupf _ (by omega) _).trans q4.ln), q5.imp id (fun z => ⟨z.1, ?_, ?_⟩)⟩
      · refine DraR.tk ?_ q3 q4
        obtain ⟨h1, h2, h3, h4, h5, h6⟩ := d
        have r52 : ∀ j, j ≠ 9 → ρ1 52 j = ρ 52 j := fun j hj => by rw [c4, pup_off hj]
        have rN : ∀ q, q ≠ 52 → ρ1 q = ρ q := fun q y => by rw [c4, pup_ne y]
        have s62 : ∀ j, (j < 24 ∨ 29 < j) → j ≠ 16 → j ≠ 11 → (pup τ1 62 11 1) 62 j = τ 62 j := fun j x y y' => by rw [pup_off y', c5.2 j x, pup_off y]
        have sN : ∀ q, q ≠ 62 → (pup τ1 62 11 1) q = τ q := fun q x => by rw [pup_ne x, c5.1 q x, pup_ne x]
        obtain ⟨a, b, c, e6⟩ := h3
        have x := (came_bit (k := 3) (p := 8) a (by omega)).2.2
        have y := came_silt (p := 1) a (by omega)
        refine ⟨h1.keep (r52 _ (by omega)) (r52 _ (by omega)) (s62 _ (by omega) (by omega) (by omega)) (s62 _ (by omega) (by omega) (by omega)), h2.keep (r52 _ (by omega)) (s62 _ (by omega) (by omega) (by omega)), ⟨?_, ?_, ?_, ?_⟩, h4.keep (r52 _ (by omega)) (s62 _ (by omega) (by omega) (by omega)) (sN _ (by omega)) (rN _ (by omega)), h5.keep (rN _ (by omega)) (rN _ (by omega)) (sN _ (by omega)) (s62 _ (by omega) (by omega) (by omega)) (s62 _ (by omega) (by omega) (by omega)) (s62 _ (by omega) (by omega) (by omega)), h6.keep (r52 _ (by omega)) (rN _ (by omega)) (sN _ (by omega)) (sN _ (by omega)) (s62 _ (by omega) (by omega) (by omega)) (s62 _ (by omega) (by omega) (by omega)) (s62 _ (by omega) (by omega) (by omega))⟩
        · rw [c4, pup_at]; exact x
        · rw [pup_off (by omega), c5.2 16 (by omega), pup_at, c4, pup_at]
        · rw [pup_at, c4, pup_at, if_neg y.2.1]
        · rw [r52 6 (by omega), c4, pup_at]
          exact fun z => e6 (y.2.2.2.1 z)
      · have p2 := z.2
        rw [e0] at p2
        omega
    · obtain ⟨ρ', g1, g2, g3, g4, g5⟩ := c6.bad (by omega)
      rw [g2, Option.bind_some, f1, ckp (by decide), if_neg (by decide)]
      exact ⟨ρ', τ1, rfl, rfl, lc.trans g4.ln, lm, Or.inl g5⟩
theorem sawM {τ : pm} {c : Int} (hc : inR c) (h : inR (τ 62 20)) : f_X9_sawCell c τ = some (pup τ 62 20 (if c ≤ τ 62 20 then τ 62 20 else c)) := by
  unfold f_X9_sawCell
  rw [ckp hc, ckp h]
  by_cases z : c ≤ τ 62 20
  · rw [if_pos z, if_pos z, jn_eq]
  · rw [if_neg z, if_neg z, jn_eq]
theorem springR {ρ τ : pm} (tp : TpR ρ τ) (t : TokR ρ τ) (d : DraR ρ τ) (k1 : ρ 50 3 = 1) (ln : f_X9_lineNow τ = some 1) : ∃ ρ' τ', f_X1_takeSpring ρ = some ρ' ∧ f_X9_readLine τ = some τ' ∧ LnR ρ τ ρ' τ' := by
  rcases onceR (k := 1) (p := 2) tp t d k1 (by omega) ln with ⟨ρ1, τ1, c1, c2, c3⟩ | ⟨ρ1, τ1, c1, c2, c3, c4, c5, c6, c7⟩
  · exact ⟨ρ1, τ1, by unfold f_X1_takeSpring; rw [c1, bn2_of, i00], c2, c3⟩
  · have d1 : DraR ρ1 τ1 := by rw [c4]; exact onceD d (by omega) c5
    have lc : lnC ρ ρ1 := by rw [c4]; exact lnC.pup _ (by omega) _ _
    have lm : lnM τ τ1 := (lnM.pupf _ (by omega) _).trans c5.ln
    have e0 : ρ1 50 = ρ 50 := by rw [c4, pup_ne (by omega)]
    have sp0 : ρ 52 6 = 0 := d.2.2.1.2.2.2 c7
    have sp1 : ρ1 52 6 = 0 := by rw [c4, pup_off (by omega)]; exact sp0
    have cm2 : ¬ band (ρ1 52 9) 2 = 0 := by rw [c4, pup_at]; exact (came_silt (p := 1) d.2.2.1.1 (by omega)).2.2.2.2
    unfold f_X1_takeSpring
    rw [c1, bn2_of, i10, c3]
    clear c1 c2 c3 c4 c5 c7
    rcases c6.fault01 with f0 | f1
    · rw [f0, ckp R_0, if_pos (by decide)]
      unfold f_X9_readLineOf
      rw [ckp (by decide), if_neg (by decide), if_pos rfl]
      dsimp only [jn]
      obtain ⟨v, ρ2, w, τ2, n1, n2, n3, n4, n5⟩ := c6.num (lo := 0) (hi := 24) (by decide) (by decide)
      have d2 := d1.tk n3 n4
      have h20 : inR (τ2 62 20) := ⟨by have := d2.2.2.2.2.2.2.2.2.1; omega, by have := d2.2.2.2.2.2.2.2.2.1; omega⟩
      have hw : inR w := by
        rcases n5 with ⟨-, z, -⟩ | z
        · rw [z]; exact R_0
        · exact ⟨by omega, by omega⟩
      rw [n1, bn2_of, n2, bn2_of, pup_at, sawM hw (by rw [pup_off (by omega)]; exact h20), Option.bind_some, Option.bind_some, pup_off (show (20 : Int) ≠ 8 by omega)]
      rcases n5 with ⟨v0, w0, b⟩ | ⟨v1, w5, wl, wh, a2, ps⟩
      · rw [v0, i00, bad_tail (by rw [pup_off (by omega), pup_off (by omega)]; exact b.2.1)]
        exact ⟨_, _, rfl, rfl, lc.trans n3.ln, lm.trans (n4.ln.trans ((lnM.pupf _ (by omega) _).trans (lnM.pupf _ (by omega) _))), Or.inl (b.keep rfl rfl (by rw [pup_off (by omega), pup_off (by omega)]) (by rw [pup_off (by omega), pup_off (by omega)]))⟩
      · subst w5
        rw [v1, i10]
        obtain ⟨mx, emx⟩ : ∃ mx, mx = if ρ2 50 5 ≤ τ2 62 20 then τ2 62 20 else ρ2 50 5 := ⟨_, rfl⟩
        rw [← emx]
        have a3 : AhR (pup ρ2 52 6 (ρ2 50 5)) (pup (pup τ2 62 8 (ρ2 50 5)) 62 20 mx) := a2.keep (pup_ne (by omega)) (pup_ne (by omega)) (fun j j0 j1 => by rw [pup_off (by omega), pup_off (by omega)]) (by rw [pup_ne (by omega), pup_ne (by omega)])
        obtain ⟨ρ7, τ7, q1, q2, q3, q4, q5⟩ := a3.tail
        rw [q1, q2, Option.bind_some]
        refine ⟨ρ7, τ7, rfl, rfl, lc.trans (n3.ln.trans ((lnC.pup _ (by omega) _ _).trans q3.ln)), lm.trans (n4.ln.trans ((lnM.pupf _ (by omega) _).trans ((lnM.pupf _ (by omega) _).trans q4.ln))), q5.imp id (fun z => ⟨z.1, ?_, ?_⟩)⟩
        · refine DraR.tk ?_ q3 q4
          obtain ⟨h1, h2, h3, h4, h5, h6⟩ := d2
          have s62 : ∀ j, j ≠ 8 → j ≠ 20 → (pup (pup τ2 62 8 (ρ2 50 5)) 62 20 mx) 62 j = τ2 62 j := fun j x y => by rw [pup_off y, pup_off x]
          have sN : ∀ q, q ≠ 62 → (pup (pup τ2 62 8 (ρ2 50 5)) 62 20 mx) q = τ2 q := fun q x => by rw [pup_ne x, pup_ne x]
          obtain ⟨g1, g2, g3, g4, g5, g6, g7⟩ := h6
          refine ⟨h1.keep (pup_off (by omega)) (pup_off (by omega)) (s62 _ (by omega) (by omega)) (s62 _ (by omega) (by omega)), h2.keep (pup_off (by omega)) (s62 _ (by omega) (by omega)), ?_, h4.keep (pup_off (by omega)) (s62 _ (by omega) (by omega)) (sN _ (by omega)) (pup_ne (by omega)), h5.keep (pup_ne (by omega)) (pup_ne (by omega)) (sN _ (by omega)) (s62 _ (by omega) (by omega)) (s62 _ (by omega) (by omega)) (s62 _ (by omega) (by omega)), ?_⟩
          · unfold DcR
            rw [pup_off (by omega), s62 _ (by omega) (by omega), s62 _ (by omega) (by omega)]
            refine ⟨h3.1, h3.2.1, h3.2.2.1, fun z => absurd z ?_⟩
            rw [n3.1 52 (by omega)]
            exact cm2
          · unfold DgR
            rw [pup_at, pup_ne (show 55 ≠ 52 by omega), sN 68 (by omega), sN 69 (by omega), pup_at, s62 21 (by omega) (by omega), pup_off (show (8 : Int) ≠ 20 by omega), pup_at]
            refine ⟨⟨by omega, rfl⟩, g2, g3, ?_, g5, fun N hN => ?_, g7⟩
            · rw [emx]; split <;> omega
            · have z6 : ρ2 52 6 = 0 := by rw [n3.1 52 (by omega)]; exact sp1
              have k := g6 N hN
              rw [z6] at k
              constructor
              · intro y
                have y1 : τ2 62 20 < N ∧ ρ2 50 5 < N := by rw [emx] at y; split at y <;> omega
                exact ⟨y1.2, (k.mp y1.1).2⟩
              · intro y
                have := k.mpr ⟨by omega, y.2⟩
                rw [emx]; split <;> omega
        · have p2 : ρ2 50 2 < ρ7 50 2 := by
            have := z.2
            rw [pup_ne (by omega)] at this
            exact this
          rw [e0] at ps
          omega
    · obtain ⟨ρ', g1, g2, g3, g4, g5⟩ := c6.bad (by omega)
      rw [g1, bn2_of, i00, f1, ckp (by decide), if_neg (by decide)]
      exact ⟨ρ', τ1, rfl, rfl, lc.trans g4.ln, lm, Or.inl g5⟩
theorem farmR {ρ τ : pm} (tp : TpR ρ τ) (t : TokR ρ τ) (d : DraR ρ τ) (k1 : ρ 50 3 = 1) (ln : f_X9_lineNow τ = some 5) : ∃ ρ' τ', f_X1_takeFarm ρ = some ρ' ∧ f_X9_readLine τ = some τ' ∧ LnR ρ τ ρ' τ' := by
  have t' := t
  obtain ⟨b1, b2, b3, b4, b5, b6, b7, b8, b9, b10⟩ := t'
  obtain ⟨w0, w9, wf⟩ := d.2.2.2.1
  have rl := rl_of b2 (by omega) ln (by omega) (show inR (τ 62 9) from ⟨by omega, by omega⟩)
  unfold f_X1_takeFarm
  rw [ckp (show inR (ρ 52 8) from ⟨by omega, by omega⟩)]
  by_cases f3 : ρ 52 8 < 3
  · rw [if_neg (by omega), if_pos (by decide)] at rl
    obtain ⟨τ1, m1, m2, m3⟩ := t.next tp
    unfold goOn at rl
    rw [m1, Option.bind_some] at rl
    rw [if_pos f3, rl]
    clear rl m1
    have d1 := d.tk (tkC.refl _) m2
    rcases m3.fault01 with f0 | f1
    · rw [f0, ckp R_0, if_pos (by decide)]
      unfold f_X9_readLineOf
      rw [ckp (by decide), if_neg (by decide), if_neg (by decide), if_neg (by decide), if_neg (by decide), if_neg (by decide), if_pos rfl]
      dsimp only [jn]
      obtain ⟨v, ρ2, w, τ2, n1, n2, n3, n4, n5⟩ := m3.num (lo := 1) (hi := 9) (by decide) (by decide)
      have d2 := d1.tk n3 n4
      have e52 : ρ2 52 = ρ 52 := n3.1 52 (by omega)
      have e9 : τ1 62 9 = ρ 52 8 := by rw [m2.2 9 (by omega)]; exact w9
      have e9' : τ2 62 9 = ρ 52 8 := by rw [n4.2 9 (by omega)]; exact e9
      rw [n1, bn2_of, n2, bn2_of, e9, ckp (show 0 ≤ ρ 52 8 ∧ ρ 52 8 < 3 by omega), Option.bind_some, pup_ne (show 62 ≠ 67 by omega), e9']
      rcases n5 with ⟨v0, x0, b⟩ | ⟨v1, w5, wl, wh, a2, ps⟩
      · rw [v0, i00, bad_tail (by rw [pup_off (by omega), pup_ne (by omega)]; exact b.2.1)]
        exact ⟨_, _, rfl, rfl, n3.ln, m2.ln.trans (n4.ln.trans ((lnM.pup _ (by omega) _ _).trans (lnM.pupf _ (by omega) _))), Or.inl (b.keep rfl rfl (by rw [pup_off (by omega), pup_ne (by omega)]) (by rw [pup_off (by omega), pup_ne (by omega)]))⟩
      · subst w5
        rw [v1, i10, e52, ckp (show 0 ≤ ρ 52 8 ∧ ρ 52 8 < 3 by omega), pup_ne (show 52 ≠ 56 by omega), e52]
        have a3 : AhR (pup (pup ρ2 56 (ρ 52 8) (ρ2 50 5)) 52 8 (ρ 52 8 + 1)) (pup (pup τ2 67 (ρ 52 8) (ρ2 50 5)) 62 9 (ρ 52 8 + 1)) := a2.keep (by rw [pup_ne (by omega), pup_ne (by omega)]) (by rw [pup_ne (by omega), pup_ne (by omega)]) (fun j j0 j1 => by rw [pup_off (by omega), pup_ne (by omega)]) (by rw [pup_ne (by omega), pup_ne (by omega)])
        obtain ⟨ρ7, τ7, q1, q2, q3, q4, q5⟩ := a3.tail
        rw [q1, q2, Option.bind_some]
        refine ⟨ρ7, τ7, rfl, rfl, n3.ln.trans ((lnC.pup _ (by omega) _ _).trans ((lnC.pup _ (by omega) _ _).trans q3.ln)), m2.ln.trans (n4.ln.trans ((lnM.pup _ (by omega) _ _).trans ((lnM.pupf _ (by omega) _).trans q4.ln))), q5.imp id (fun z => ⟨z.1, ?_, ?_⟩)⟩
        · refine DraR.tk ?_ q3 q4
          obtain ⟨h1, h2, h3, h4, h5, h6⟩ := d2
          have r52 : ∀ j, j ≠ 8 → (pup (pup ρ2 56 (ρ 52 8) (ρ2 50 5)) 52 8 (ρ 52 8 + 1)) 52 j = ρ2 52 j := fun j x => by rw [pup_off x, pup_ne (by omega)]
          have rN : ∀ q, q ≠ 52 → q ≠ 56 → (pup (pup ρ2 56 (ρ 52 8) (ρ2 50 5)) 52 8 (ρ 52 8 + 1)) q = ρ2 q := fun q x y => by rw [pup_ne x, pup_ne y]
          have s62 : ∀ j, j ≠ 9 → (pup (pup τ2 67 (ρ 52 8) (ρ2 50 5)) 62 9 (ρ 52 8 + 1)) 62 j = τ2 62 j := fun j x => by rw [pup_off x, pup_ne (by omega)]
          have sN : ∀ q, q ≠ 62 → q ≠ 67 → (pup (pup τ2 67 (ρ 52 8) (ρ2 50 5)) 62 9 (ρ 52 8 + 1)) q = τ2 q := fun q x y => by rw [pup_ne x, pup_ne y]
          refine ⟨h1.keep (r52 _ (by omega)) (r52 _ (by omega)) (s62 _ (by omega)) (s62 _ (by omega)), h2.keep (r52 _ (by omega)) (s62 _ (by omega)), h3.keep (r52 _ (by omega)) (s62 _ (by omega)) (s62 _ (by omega)) (r52 _ (by omega)), ⟨?_, ?_, fun f y0 y1 => ?_⟩, h5.keep (rN _ (by omega) (by omega)) (rN _ (by omega) (by omega)) (sN _ (by omega) (by omega)) (s62 _ (by omega)) (s62 _ (by omega)) (s62 _ (by omega)), h6.keep (r52 _ (by omega)) (rN _ (by omega) (by omega)) (sN _ (by omega) (by omega)) (sN _ (by omega) (by omega)) (s62 _ (by omega)) (s62 _ (by omega)) (s62 _ (by omega))⟩
          · rw [pup_at]; omega
          · rw [pup_at, pup_at]
          · rw [pup_ne (show 67 ≠ 62 by omega), pup_ne (show 56 ≠ 52 by omega)]
            by_cases e : f = ρ 52 8
            · rw [e, pup_at, pup_at]; omega
            · rw [pup_off e, pup_off e]
              exact h4.2.2 f y0 y1
        · have p2 : ρ2 50 2 < ρ7 50 2 := by
            have := z.2
            rw [pup_ne (by omega), pup_ne (by omega)] at this
            exact this
          omega
    · obtain ⟨ρ', g1, g2, g3, g4, g5⟩ := m3.bad (by omega)
      rw [g1, bn2_of, i00, f1, ckp (by decide), if_neg (by decide)]
      exact ⟨ρ', τ1, rfl, rfl, g4.ln, m2.ln, Or.inl g5⟩
  · rw [if_pos (by omega)] at rl
    rw [if_neg f3, fail_eq, Option.bind_some, rl]
    exact ⟨_, _, rfl, rfl, (tk_failC _ _ _).ln, (tk_failM _ _ _).ln, Or.inl (t.fails (c := 5) (d := 5) tp (by omega) (by omega))⟩
