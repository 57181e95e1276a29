/-! row of both: a step, the loop, the line -/
theorem isNum_eq {ρ : pm} {lo hi : Int} (h6 : ρ 50 6 = 0) (h3 : ρ 50 3 = 2) (r5 : inR (ρ 50 5)) (hl : inR lo) (hh : inR hi) : f_X6_isNumber lo hi ρ = if lo ≤ ρ 50 5 ∧ ρ 50 5 ≤ hi then some (1, ρ) else some (0, pup (pup ρ 50 6 3) 50 7 (ρ 50 4)) := by
  unfold f_X6_isNumber
  dsimp only [jn]
  rw [h6, ckp R_0, i00, h3, ckp (by decide), if_pos rfl, ckp R_0, i00, ckp r5, ckp hl]
  by_cases j : ρ 50 5 < lo
  · rw [if_pos j, if_neg (by omega), fail_eq, Option.bind_some, pup_off (by omega), pup_at, ckp (by decide), if_neg (by decide)]
  · rw [if_neg j, ckp hh]
    by_cases k : ρ 50 5 ≤ hi
    · rw [if_pos k, ckp R_0, i00, if_pos (by omega)]
    · rw [if_neg k, if_neg (by omega), fail_eq, Option.bind_some, pup_off (by omega), pup_at, ckp (by decide), if_neg (by decide)]
theorem rowStep {K : pm → Option pm} {n m : Nat} {row i : Int} {ρ τ : pm} (hK : ∀ ρ, K ρ = some (pup (pup ρ 50 6 5) 50 7 (ρ 50 4))) (hr : 0 ≤ row ∧ row < 5) (hi : 0 ≤ i ∧ i ≤ 5) (a : AhR ρ τ) (f0 : τ 62 28 = 0) (k2 : i = 0 ∨ τ 62 26 = 2) (h19 : inR (τ 62 19)) :
    (∃ ρ' τ', L_X1_takeRow_32 K (n + 1) row i ρ = some ρ' ∧ L_X9_readRow_75 (m + 2) row i 1 τ = some τ' ∧ BadR ρ' τ' ∧ lnC ρ ρ' ∧ lnM τ τ') ∨
    (i < 5 ∧ ∃ ρ1 w τ2, (0 ≤ w ∧ w ≤ 9) ∧ tkC ρ ρ1 ∧ ρ 50 2 ≤ ρ1 50 2 ∧ L_X1_takeRow_32 K (n + 1) row i ρ = L_X1_takeRow_32 K n row (i + 1) (pup (pup ρ1 53 (row * 5 + i) w) 54 row (i + 1)) ∧ L_X9_readRow_75 (m + 2) row i 1 τ = (if τ2 62 26 = 2 then L_X9_readRow_75 (m + 1) row (i + 1) 1 τ2 else L_X9_readRow_75 (m + 1) row (i + 1) 0 τ2) ∧ tkM (pup (pup τ 66 (5 * row + i) w) 62 19 (if i ≤ τ 62 19 then τ 62 19 else i)) τ2 ∧ AhR (pup (pup ρ1 53 (row * 5 + i) w) 54 row (i + 1)) τ2) := by
  have kk := a.kind
  have r26 : inR (τ 62 26) := ⟨by omega, by omega⟩
  obtain ⟨ρ1, c1, c2, tp, c3, c4⟩ := a.next
  have t : TokR ρ1 τ := c4.resolve_left (fun z => by omega)
  have t' := t
  obtain ⟨b1, b2, b3, b4, b5, b6, b7, b8, b9, b10⟩ := t'
  have r3 : inR (ρ1 50 3) := ⟨by omega, by omega⟩
  rw [rowC hr hi c1 (by rw [b1]; exact R_0) r3 (by omega)]
  by_cases i5 : i = 5
  · left
    have k3 : ρ1 50 3 = 2 := by omega
    obtain ⟨d1, d2, d3⟩ := b10 k3
    rw [isNum_eq b1 k3 ⟨by omega, by omega⟩ (by decide) (by decide), rowM_five i5 f0 (by omega)]
    by_cases z : 0 ≤ ρ1 50 5 ∧ ρ1 50 5 ≤ 9
    · rw [if_pos z, bn2_of, i10, if_neg (by omega), hK]
      exact ⟨_, _, rfl, rfl, t.fails tp (by omega) (by omega), c2.ln.trans (tk_failC _ _ _).ln, (tk_failM _ _ _).ln⟩
    · rw [if_neg z, bn2_of, i00]
      exact ⟨_, _, rfl, rfl, t.fails tp (by omega) (by omega), c2.ln.trans (tk_failC _ _ _).ln, (tk_failM _ _ _).ln⟩
  · rw [show m + 2 = (m + 1) + 1 from rfl, rowM hi f0 r26 (by omega)]
    obtain ⟨v, ρ2, w, τ1, e1, e2, e3, e4, e5, e6⟩ := t.number (lo := 0) (hi := 9) tp (by decide) (by decide)
    rw [e1, e2, bn2_of, bn2_of]
    rcases e6 with ⟨v0, w0, b⟩ | ⟨v1, g1, g2, g3, g4, g5, g6⟩
    · left
      have b28 := b.2.1
      refine ⟨ρ2, τ1, by rw [v0, i00], ?_, b, c2.ln.trans e3.ln, e4.ln⟩
      rw [ckp (show inR (τ1 62 28) from ⟨by omega, by omega⟩), if_neg (by omega), bad_next b28, Option.bind_some, e5, ckp r26, rowM_out b28, rowM_out b28]
      split <;> rfl
    · right
      subst g1
      subst g2
      subst g3
      rw [v1, i10, if_pos (by omega), f0, ckp R_0, i00, ckp (by omega), ckp h19]
      have tA : TokR (pup (pup ρ2 53 (row * 5 + i) (ρ2 50 5)) 54 row (i + 1)) (pup (pup τ1 66 (5 * row + i) (ρ2 50 5)) 62 19 (if i ≤ τ1 62 19 then τ1 62 19 else i)) := t.keep (by rw [pup_ne (by omega), pup_ne (by omega)]) (fun j j0 j1 => by rw [pup_off (by omega), pup_ne (by omega)])
      obtain ⟨τ2, m1, m2, m3⟩ := tA.next (tp.keep (by rw [pup_ne (by omega), pup_ne (by omega)]) (by rw [pup_ne (by omega), pup_ne (by omega)]) (by rw [pup_off (by omega), pup_ne (by omega)]) (by rw [pup_ne (by omega), pup_ne (by omega)]))
      have k4 := m3.kind
      refine ⟨by omega, ρ2, ρ2 50 5, τ2, by omega, c2, by omega, rfl, ?_, m2, m3⟩
      rw [m1, Option.bind_some, ckp (show inR (τ2 62 26) from ⟨by omega, by omega⟩)]
/-- behind a number of a row: what both hold -/
theorem row_dra {ρ τ ρ1 τ2 : pm} {row i w : Int} (hr : 0 ≤ row ∧ row < 5) (hi : 0 ≤ i ∧ i < 5) (hw : 0 ≤ w ∧ w ≤ 9) (d : DraR ρ τ) (c2 : tkC ρ ρ1) (e : ρ 54 row = i) {τA : pm} (hA : ∀ q, q ≠ 62 → τA q = τ q) (hB : ∀ j, j < 24 → j ≠ 17 → j ≠ 18 → τA 62 j = τ 62 j)
    (u : ∀ r, 0 ≤ r → r < 5 → (bt (τA 62 17) r = 0 ↔ r ≠ row ∧ bt (τ 62 17) r = 0)) (v0 : -4 ≤ τA 62 18 ∧ τA 62 18 ≤ 4) (v : ∀ H, 0 ≤ H → (τA 62 18 < H ↔ τ 62 18 < H ∧ row < H)) (m : tkM (pup (pup τA 66 (5 * row + i) w) 62 19 (if i ≤ τA 62 19 then τA 62 19 else i)) τ2) : DraR (pup (pup ρ1 53 (row * 5 + i) w) 54 row (i + 1)) τ2 := by
  refine DraR.tk ?_ (tkC.refl _) m
  obtain ⟨h1, h2, h3, h4, h5, h6⟩ := d
  have r52 : (pup (pup ρ1 53 (row * 5 + i) w) 54 row (i + 1)) 52 = ρ 52 := by rw [pup_ne (by omega), pup_ne (by omega), c2.1 52 (by omega)]
  have rN : ∀ q, q ≠ 53 → q ≠ 54 → q ≠ 50 → (pup (pup ρ1 53 (row * 5 + i) w) 54 row (i + 1)) q = ρ q := fun q x y z => by rw [pup_ne y, pup_ne x, c2.1 q z]
  have s62 : ∀ j, j < 24 → j ≠ 17 → j ≠ 18 → j ≠ 19 → (pup (pup τA 66 (5 * row + i) w) 62 19 (if i ≤ τA 62 19 then τA 62 19 else i)) 62 j = τ 62 j := fun j o x y z => by rw [pup_off z, pup_ne (by omega), hB j o x y]
  have sN : ∀ q, q ≠ 62 → q ≠ 66 → (pup (pup τA 66 (5 * row + i) w) 62 19 (if i ≤ τA 62 19 then τA 62 19 else i)) q = τ q := fun q x y => by rw [pup_ne x, pup_ne y, hA q x]
  have e5 : 5 * row + i = row * 5 + i := by omega
  have a19 : τA 62 19 = τ 62 19 := hB 19 (by omega) (by omega) (by omega)
  refine ⟨h1.keep (by rw [r52]) (by rw [r52]) (s62 _ (by omega) (by omega) (by omega) (by omega)) (s62 _ (by omega) (by omega) (by omega) (by omega)), h2.keep (by rw [r52]) (s62 _ (by omega) (by omega) (by omega) (by omega)), h3.keep (by rw [r52]) (s62 _ (by omega) (by omega) (by omega) (by omega)) (s62 _ (by omega) (by omega) (by omega) (by omega)) (by rw [r52]), h4.keep (by rw [r52]) (s62 _ (by omega) (by omega) (by omega) (by omega)) (sN _ (by omega) (by omega)) (rN _ (by omega) (by omega) (by omega)), ?_, h6.keep (by rw [r52]) (rN _ (by omega) (by omega) (by omega)) (sN _ (by omega) (by omega)) (sN _ (by omega) (by omega)) (s62 _ (by omega) (by omega) (by omega) (by omega)) (s62 _ (by omega) (by omega) (by omega) (by omega)) (s62 _ (by omega) (by omega) (by omega) (by omega))⟩
  have h19 := h5.2.2.2.1
  refine dy_up (row := row) (i := i) (w := w) h5 hr hi hw e (fun j hj => ?_) ?_ (fun r hr => ?_) ?_ (fun j hj => ?_) ?_ ?_ ?_ ?_ ?_ ?_
  · rw [pup_ne (by omega), pup_off hj, c2.1 53 (by omega)]
  · rw [pup_ne (by omega), pup_at]
  · rw [pup_off hr, pup_ne (by omega), c2.1 54 (by omega)]
  · rw [pup_at]
  · rw [pup_ne (by omega), e5, pup_off hj, hA 66 (by omega)]
  · rw [pup_ne (by omega), e5, pup_at]
  · rw [pup_off (by omega), pup_ne (by omega)]; exact u
  · rw [pup_off (by omega), pup_ne (by omega)]; exact v0
  · rw [pup_off (by omega), pup_ne (by omega)]; exact v
  · rw [pup_at, a19]; split <;> omega
  · intro W hW
    rw [pup_at, a19]
    split <;> omega
theorem rowLoop {K : pm → Option pm} {row : Int} (hK : ∀ ρ, K ρ = some (pup (pup ρ 50 6 5) 50 7 (ρ 50 4))) (hr : 0 ≤ row ∧ row < 5) : ∀ (j n m : Nat) (i : Int) (ρ τ : pm), i + (j : Int) = 5 → 1 ≤ i → j + 1 ≤ n → j + 2 ≤ m → AhR ρ τ → DraR ρ τ → ρ 54 row = i → ∃ ρ' τ', L_X1_takeRow_32 K n row i ρ = some ρ' ∧ ((if τ 62 26 = 2 then L_X9_readRow_75 m row i 1 τ else L_X9_readRow_75 m row i 0 τ)).bind rlTail = some τ' ∧ LnR ρ τ ρ' τ' := by
  intro j
  induction j with
  | zero =>
    intro n m i ρ τ ij i1 hn hm a d e
    obtain ⟨n, rfl⟩ : ∃ n', n = n' + 1 := ⟨n - 1, by omega⟩
    obtain ⟨m, rfl⟩ : ∃ m', m = m' + 2 := ⟨m - 2, by omega⟩
    by_cases s : τ 62 28 ≠ 0 ∨ τ 62 26 ≠ 2
    · obtain ⟨ρ7, τ7, q1, q2, q3, q4, q5⟩ := a.tail
      refine ⟨ρ7, τ7, by rw [rowStop hr (by omega) a s]; exact q1, ?_, q3.ln, q4.ln, q5.imp id (fun z => ⟨z.1, d.tk q3 q4, by omega⟩)⟩
      rcases a.fault01 with f0 | f1
      · rw [if_neg (by omega), show m + 2 = (m + 1) + 1 from rfl, rowM_stop f0]; exact q2
      · rw [show m + 2 = (m + 1) + 1 from rfl, rowM_out (by omega), rowM_out (by omega)]
        split <;> exact q2
    · have f0 : τ 62 28 = 0 := Classical.byContradiction (fun z => s (Or.inl z))
      have k2 : τ 62 26 = 2 := Classical.byContradiction (fun z => s (Or.inr z))
      have h19 := d.2.2.2.2.1.2.2.2.1
      rw [if_pos k2]
      rcases rowStep (n := n) (m := m) (i := i) hK hr (by omega) a f0 (Or.inr k2) ⟨by omega, by omega⟩ with ⟨ρ', τ', x1, x2, x3, x4, x5⟩ | ⟨x, -⟩
      · exact ⟨ρ', τ', x1, by rw [x2, Option.bind_some, bad_tail x3.2.1], x4, x5, Or.inl x3⟩
      · exfalso; omega
  | succ j ih =>
    intro n m i ρ τ ij i1 hn hm a d e
    obtain ⟨n, rfl⟩ : ∃ n', n = n' + 1 := ⟨n - 1, by omega⟩
    obtain ⟨m, rfl⟩ : ∃ m', m = m' + 2 := ⟨m - 2, by omega⟩
    by_cases s : τ 62 28 ≠ 0 ∨ τ 62 26 ≠ 2
    · obtain ⟨ρ7, τ7, q1, q2, q3, q4, q5⟩ := a.tail
      refine ⟨ρ7, τ7, by rw [rowStop hr (by omega) a s]; exact q1, ?_, q3.ln, q4.ln, q5.imp id (fun z => ⟨z.1, d.tk q3 q4, by omega⟩)⟩
      rcases a.fault01 with f0 | f1
      · rw [if_neg (by omega), show m + 2 = (m + 1) + 1 from rfl, rowM_stop f0]; exact q2
      · rw [show m + 2 = (m + 1) + 1 from rfl, rowM_out (by omega), rowM_out (by omega)]
        split <;> exact q2
    · have f0 : τ 62 28 = 0 := Classical.byContradiction (fun z => s (Or.inl z))
      have k2 : τ 62 26 = 2 := Classical.byContradiction (fun z => s (Or.inr z))
      have h19 := d.2.2.2.2.1.2.2.2.1
      have h18 := d.2.2.2.2.1.2.2.1
      rw [if_pos k2]
      rcases rowStep (n := n) (m := m) (i := i) hK hr (by omega) a f0 (Or.inr k2) ⟨by omega, by omega⟩ with ⟨ρ', τ', x1, x2, x3, x4, x5⟩ | ⟨x, ρ1, w, τ2, w1, c2, p1, y1, y2, y3, y4⟩
      · exact ⟨ρ', τ', x1, by rw [x2, Option.bind_some, bad_tail x3.2.1], x4, x5, Or.inl x3⟩
      · have told : ∀ r, 0 ≤ r → r < 5 → (bt (τ 62 17) r = 0 ↔ r ≠ row ∧ bt (τ 62 17) r = 0) := fun r r0 r1 => ⟨fun z => ⟨fun q => by
            have := ((d.2.2.2.2.1.2.1 r r0 r1).2.mp z)
            rw [q, e] at this
            omega, z⟩, fun z => z.2⟩
        have d2 := row_dra (τA := τ) hr ⟨by omega, x⟩ w1 d c2 e (fun _ _ => rfl) (fun _ _ _ _ => rfl) told h18 (fun H hH => ⟨fun z => ⟨z, (d.2.2.2.2.1.2.2.2.2.1 H hH).mp z row hr.1 hr.2 (by omega)⟩, fun z => z.1⟩) y3
        obtain ⟨ρ', τ', z1, z2, z3, z4, z5⟩ := ih n (m + 1) (i + 1) _ τ2 (by omega) (by omega) (by omega) (by omega) y4 d2 pup_at
        refine ⟨ρ', τ', by rw [y1]; exact z1, by rw [y2]; exact z2, c2.ln.trans ((lnC.pup _ (by omega) _ _).trans ((lnC.pup _ (by omega) _ _).trans z3)), (lnM.pup _ (by omega) _ _).trans ((lnM.pupf _ (by omega) _).trans (y3.ln.trans z4)), z5.imp id (fun q => ⟨q.1, q.2.1, ?_⟩)⟩
        have := q.2.2
        rw [pup_ne (by omega), pup_ne (by omega)] at this
        omega
theorem rowR {ρ τ : pm} (tp : TpR ρ τ) (t : TokR ρ τ) (d : DraR ρ τ) (k1 : ρ 50 3 = 1) (ln : f_X9_lineNow τ = some 4) : ∃ ρ' τ', f_X1_takeRow ρ = some ρ' ∧ f_X9_readLine τ = some τ' ∧ LnR ρ τ ρ' τ' := by
  have t' := t
  obtain ⟨b1, b2, b3, b4, b5, b6, b7, b8, b9, b10⟩ := t'
  obtain ⟨w0, w9, wf⟩ := d.2.2.2.1
  have rl := rl_of b2 (by omega) ln (by omega) (show inR (τ 62 9) from ⟨by omega, by omega⟩)
  rw [if_neg (by omega), if_pos (by decide)] at rl
  obtain ⟨τ1, m1, m2, m3⟩ := t.next tp
  unfold goOn at rl
  rw [m1, Option.bind_some] at rl
  rw [rl]
  clear rl m1
  have d1 := d.tk (tkC.refl _) m2
  obtain ⟨K, eK⟩ : ∃ K : pm → Option pm, K = fun (ρ : pm) => (f_X6_fail 5 ρ).bind (fun ρ20 => some ρ20) := ⟨_, rfl⟩
  have hK : ∀ ρ, K ρ = some (pup (pup ρ 50 6 5) 50 7 (ρ 50 4)) := fun ρ => by
    rw [eK]
    show (f_X6_fail 5 ρ).bind (fun y => some y) = _
    rw [bS, fail_eq]
  unfold f_X1_takeRow
  rw [← eK]
  rcases m3.fault01 with f0 | f1
  · rw [f0, ckp R_0, if_pos (by decide)]
    have rlo : f_X9_readLineOf 4 τ1 = f_X9_readRow τ1 := by
      unfold f_X9_readLineOf
      rw [ckp (by decide), if_neg (by decide), if_neg (by decide), if_neg (by decide), if_neg (by decide), if_pos rfl, bS]
    rw [rlo]
    obtain ⟨ρ1, c1, c2, tp1, c3, c4⟩ := m3.next
    have t1 : TokR ρ1 τ1 := c4.resolve_left (fun z => by omega)
    obtain ⟨v, ρ2, w, τ2, e1, e2, e3, e4, e5, e6⟩ := t1.number (lo := 0) (hi := 4) tp1 (by decide) (by decide)
    have d2 := d1.tk (c2.trans e3) e4
    have nn : f_X6_nextNumber 0 4 ρ = some (v, ρ2) := by
      unfold f_X6_nextNumber
      rw [c1, Option.bind_some, e1, bn2_of]
    obtain ⟨F, eF⟩ : ∃ F : Nat, F = fu := ⟨_, rfl⟩
    have hF : 99990 ≤ F := by rw [eF]; unfold fu; omega
    unfold f_X9_readRow
    rw [nn, bn2_of, e2, bn2_of, ← eF]
    obtain ⟨F, rfl⟩ : ∃ F', F = F' + 2 := ⟨F - 2, by omega⟩
    rcases e6 with ⟨v0, w0, b⟩ | ⟨v1, g1, g2, g3, g4, g5, g6⟩
    · have b28 := b.2.1
      dsimp only [jn]
      rw [v0, i00, ckp (show inR (τ2 62 28) from ⟨by omega, by omega⟩), if_neg (by omega), bad_next b28, Option.bind_some, show F + 2 = (F + 1) + 1 from rfl, rowM_out b28, Option.bind_some, bad_tail b28]
      exact ⟨_, _, rfl, rfl, c2.ln.trans e3.ln, m2.ln.trans e4.ln, Or.inl b⟩
    · subst g1
      subst g2
      have tok := t1
      obtain ⟨x1, x2, x3, x4, x5, x6, x7, x8, x9, x10⟩ := tok
      have dy := d2.2.2.2.2.1
      have dl := dy.2.1 (ρ2 50 5) (by omega) (by omega)
      have h18 := dy.2.2.1
      dsimp only [jn]
      rw [v1, i10, ckp (show 0 ≤ ρ2 50 5 ∧ ρ2 50 5 < 5 by omega), ckp (show inR (ρ2 54 (ρ2 50 5)) from ⟨by omega, by omega⟩), f0, ckp R_0, i00, g3]
      obtain ⟨row, er⟩ : ∃ row, row = ρ2 50 5 := ⟨_, rfl⟩
      rw [← er] at dl ⊢
      have hr : 0 ≤ row ∧ row < 5 := by omega
      obtain ⟨mx, emx⟩ : ∃ mx, mx = if row ≤ τ2 62 18 then τ2 62 18 else row := ⟨_, rfl⟩
      by_cases z : ρ2 54 row = 0
      · have bz : band (bshr (τ2 62 17) row) 1 = 0 := dl.2.mpr z
        rw [if_pos z, if_pos bz, needs_ok (by decide) (by decide), Option.bind_some, ckp (show inR row from ⟨by omega, by omega⟩), pup_off (show (18 : Int) ≠ 17 by omega), ckp (show inR (τ2 62 18) from ⟨by omega, by omega⟩)]
        have eI : ∀ (α : Type) (f : pm → Option α), (if row ≤ τ2 62 18 then f (pup (pup τ2 62 17 (bor (τ2 62 17) (bshl 1 row))) 62 18 (τ2 62 18)) else f (pup (pup τ2 62 17 (bor (τ2 62 17) (bshl 1 row))) 62 18 row)) = f (pup (pup τ2 62 17 (bor (τ2 62 17) (bshl 1 row))) 62 18 mx) := fun α f => by
          rw [emx]
          by_cases y : row ≤ τ2 62 18
          · rw [if_pos y, if_pos y]
          · rw [if_neg y, if_neg y]
        rw [eI pm (fun τ' => (f_X9_next τ').bind (fun ρ4 => L_X9_readRow_75 (F + 2) row 0 1 ρ4))]
        obtain ⟨τ3, e3'⟩ : ∃ τ3, τ3 = pup (pup τ2 62 17 (bor (τ2 62 17) (bshl 1 row))) 62 18 mx := ⟨_, rfl⟩
        rw [← e3']
        have s62 : ∀ j, j ≠ 17 → j ≠ 18 → τ3 62 j = τ2 62 j := fun j y y' => by rw [e3', pup_off y', pup_off y]
        have sN : ∀ q, q ≠ 62 → τ3 q = τ2 q := fun q y => by rw [e3', pup_ne y, pup_ne y]
        have t3 : TokR ρ2 τ3 := t1.keep rfl (fun j j0 j1 => s62 j (by omega) (by omega))
        obtain ⟨τ4, n1, n2, n3⟩ := t3.next (tp1.keep rfl rfl (s62 _ (by omega) (by omega)) (sN _ (by omega)))
        rw [n1, Option.bind_some]
        have lm4 : lnM τ τ4 := m2.ln.trans (((lnM.pupf (i := 17) τ2 (by omega) _).trans (lnM.pupf (i := 18) _ (by omega) mx)).trans (by rw [← e3']; exact n2.ln))
        rcases n3.fault01 with h0 | h1
        · have h19 : inR (τ4 62 19) := by
            rw [n2.2 19 (by omega), s62 19 (by omega) (by omega)]
            have := dy.2.2.2.1
            exact ⟨by omega, by omega⟩
          rcases rowStep (n := F + 1) (m := F) hK hr (i := 0) (by omega) n3 h0 (Or.inl rfl) h19 with ⟨ρ', τ', y1, y2, y3, y4, y5⟩ | ⟨y, ρ3, w', τ5, w1, cc, p1, y1, y2, y3, y4⟩
          · exact ⟨ρ', τ', y1, by rw [y2, Option.bind_some, bad_tail y3.2.1], c2.ln.trans y4, lm4.trans y5, Or.inl y3⟩
          · have told : ∀ r, 0 ≤ r → r < 5 → (bt (τ4 62 17) r = 0 ↔ r ≠ row ∧ bt (τ2 62 17) r = 0) := fun r r0 r1 => by
              rw [n2.2 17 (by omega), e3', pup_off (by omega), pup_at, bt_add (by omega) (by omega)]
              by_cases q : r = row
              · rw [if_pos q]; exact ⟨fun z => by omega, fun z => absurd q z.1⟩
              · rw [if_neg q]; exact ⟨fun z => ⟨q, z⟩, fun z => z.2⟩
            have e18 : τ4 62 18 = mx := by rw [n2.2 18 (by omega), e3', pup_at]
            have d5 := row_dra (τA := τ4) hr (by omega) w1 (d2.tk (tkC.refl _) ⟨fun q hq => rfl, fun j hj => rfl⟩ : DraR ρ2 τ2) cc z (fun q hq => by rw [n2.1 q hq, sN q hq]) (fun j jj j0 j1 => by rw [n2.2 j (Or.inl jj), s62 j j0 j1]) told (by rw [e18, emx]; split <;> omega) (fun H hH => by rw [e18, emx]; split <;> omega) y3
            obtain ⟨ρ', τ', z1, z2, z3, z4, z5⟩ := rowLoop hK hr 4 (F + 1) (F + 1) (0 + 1) _ τ5 (by omega) (by omega) (by omega) (by omega) y4 d5 pup_at
            refine ⟨ρ', τ', by rw [y1]; exact z1, by rw [y2]; exact z2, c2.ln.trans (cc.ln.trans ((lnC.pup _ (by omega) _ _).trans ((lnC.pup _ (by omega) _ _).trans z3))), lm4.trans ((lnM.pup _ (by omega) _ _).trans ((lnM.pupf _ (by omega) _).trans (y3.ln.trans z4))), z5.imp id (fun q => ⟨q.1, q.2.1, ?_⟩)⟩
            have := q.2.2
            rw [pup_ne (by omega), pup_ne (by omega)] at this
            omega
        · obtain ⟨ρ', g1', g2', g3', g4', g5'⟩ := n3.bad (by omega)
          have r6 := g5'.1
          refine ⟨ρ', τ4, ?_, ?_, c2.ln.trans g4'.ln, lm4, Or.inl g5'⟩
          · have kd : inR (ρ' 50 3) ∨ True := Or.inr trivial
            rw [L_X1_takeRow_32, ckp R_0, if_neg (by decide), g3', Option.bind_some]
            dsimp only [jn]
            rw [if_pos (by decide), bad_isNumber g5'.1, bn2_of, i00]
          · rw [show F + 2 = (F + 1) + 1 from rfl, rowM_out (by omega), Option.bind_some, bad_tail (by omega)]
      · have bz : ¬ band (bshr (τ2 62 17) row) 1 = 0 := fun y => z (dl.2.mp y)
        rw [if_neg z, if_neg bz, needs_no f0, Option.bind_some, fail_eq, Option.bind_some, ckp (show inR row from ⟨by omega, by omega⟩)]
        rw [pup_off (show (18 : Int) ≠ 17 by omega), pup_off (show (18 : Int) ≠ 29 by omega), pup_off (show (18 : Int) ≠ 28 by omega), ckp (show inR (τ2 62 18) from ⟨by omega, by omega⟩)]
        obtain ⟨τ3, e3'⟩ : ∃ τ3, τ3 = pup (pup (pup τ2 62 28 4) 62 29 (τ2 62 25)) 62 17 (bor ((pup (pup τ2 62 28 4) 62 29 (τ2 62 25)) 62 17) (bshl 1 row)) := ⟨_, rfl⟩
        rw [← e3']
        have eI : ∀ (α : Type) (f : pm → Option α), (if row ≤ τ2 62 18 then f (pup τ3 62 18 (τ2 62 18)) else f (pup τ3 62 18 row)) = f (pup τ3 62 18 mx) := fun α f => by
          rw [emx]
          by_cases y : row ≤ τ2 62 18
          · rw [if_pos y, if_pos y]
          · rw [if_neg y, if_neg y]
        rw [eI pm (fun τ' => (f_X9_next τ').bind (fun ρ4 => L_X9_readRow_75 (F + 2) row 0 1 ρ4))]
        have bb : BadR (pup (pup ρ2 50 6 4) 50 7 (ρ2 50 4)) (pup τ3 62 18 mx) := (t1.fails (c := 4) (d := 4) tp1 (by omega) (by omega)).keep rfl rfl (by rw [pup_off (by omega), e3', pup_off (by omega)]) (by rw [pup_off (by omega), e3', pup_off (by omega)])
        rw [bad_next bb.2.1, Option.bind_some, show F + 2 = (F + 1) + 1 from rfl, rowM_out bb.2.1, Option.bind_some, bad_tail bb.2.1]
        exact ⟨_, _, rfl, rfl, c2.ln.trans (tk_failC _ _ _).ln, m2.ln.trans ((tk_failM _ _ _).ln.trans (by rw [e3']; exact (lnM.pupf _ (by omega) _).trans (lnM.pupf _ (by omega) _))), Or.inl bb⟩
  · obtain ⟨ρ', g1, g2, g3, g4, g5⟩ := m3.bad (by omega)
    rw [g1, bn2_of, i00, f1, ckp (by decide), if_neg (by decide)]
    exact ⟨ρ', τ1, rfl, rfl, g4.ln, m2.ln, Or.inl g5⟩
