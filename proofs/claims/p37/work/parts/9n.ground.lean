/-! ground of both: a step, the loop, the line -/
theorem grStep {K L : pm → Option pm} {n m : Nat} {f i : Int} {ρ τ τ0 : pm} (hK : ∀ ρ, K ρ = some (pup (pup ρ 50 6 4) 50 7 (ρ 50 4))) (hL : ∀ ρ, L ρ = some (pup (pup ρ 50 6 5) 50 7 (ρ 50 4))) (hf : 0 ≤ f ∧ f < 3) (hi : 0 ≤ i ∧ i ≤ 8) (a : AhR ρ τ) (f0 : τ 62 28 = 0) (k2 : i = 0 ∨ τ 62 26 = 2) (g : DgR ρ τ0) (e68 : τ 68 = τ0 68) (e69 : τ 69 = τ0 69) (h20 : inR (τ 62 20)) (h69 : 0 ≤ τ 69 f ∧ τ 69 f ≤ 8) :
    (∃ ρ' τ', L_X1_takeGround_17 K L (n + 1) f i ρ = some ρ' ∧ L_X9_readGround_29 (m + 2) f 1 τ = some τ' ∧ BadR ρ' τ' ∧ lnC ρ ρ' ∧ lnM τ τ') ∨
    (τ 69 f < 8 ∧ ∃ ρ1 c τ2, (0 ≤ c ∧ c < 25) ∧ τ 68 c = -4 ∧ tkC ρ ρ1 ∧ ρ 50 2 ≤ ρ1 50 2 ∧ L_X1_takeGround_17 K L (n + 1) f i ρ = L_X1_takeGround_17 K L n f (i + 1) (pup ρ1 55 f (bor (ρ 55 f) (bshl 1 c))) ∧ L_X9_readGround_29 (m + 2) f 1 τ = (if τ2 62 26 = 2 then L_X9_readGround_29 (m + 1) f 1 τ2 else L_X9_readGround_29 (m + 1) f 0 τ2) ∧ tkM (pup (pup (pup τ 68 c f) 69 f (τ 69 f + 1)) 62 20 (if c ≤ τ 62 20 then τ 62 20 else c)) τ2 ∧ AhR (pup ρ1 55 f (bor (ρ 55 f) (bshl 1 c))) τ2) := by
  have kk := a.kind
  have r26 : inR (τ 62 26) := ⟨by omega, by omega⟩
  have r69 : inR (τ 69 f) := ⟨by omega, by omega⟩
  obtain ⟨ρ1, c1, c2, tp, c3, c4⟩ := a.next
  have t : TokR ρ1 τ := c4.resolve_left (fun z => by omega)
  have t' := t
  obtain ⟨b1, b2, b3, b4, b5, b6, b7, b8, b9, b10⟩ := t'
  have r3 : inR (ρ1 50 3) := ⟨by omega, by omega⟩
  have e55 : ρ1 55 = ρ 55 := c2.1 55 (by omega)
  have g1 : DgR ρ1 τ0 := g.keep (by rw [c2.1 52 (by omega)]) e55 rfl rfl rfl rfl rfl
  have bc : f_J6_bitCount (ρ1 55 f) = some (τ 69 f) := by rw [e69]; exact dg_count g1 hf
  have hh : ∀ c, 0 ≤ c ∧ c < 25 → ∃ v, f_X8_has (bor (bor (ρ1 55 0) (ρ1 55 1)) (ρ1 55 2)) c = some v ∧ (v = 0 ↔ τ 68 c = -4) := fun c hc => by rw [e68]; exact dg_has g1 hc
  rw [grC_num hf hi c1 (by rw [b1]; exact R_0) r3 (by omega)]
  by_cases full : τ 62 26 = 2 ∧ 8 ≤ τ 69 f
  · left
    have k3 : ρ1 50 3 = 2 := by omega
    obtain ⟨d1, d2, d3⟩ := b10 k3
    rw [isNum_eq b1 k3 ⟨by omega, by omega⟩ (by decide) (by decide), grM_full hf f0 full.1 r69 full.2]
    by_cases z : 0 ≤ ρ1 50 5 ∧ ρ1 50 5 ≤ 24
    · obtain ⟨v, v1, v2⟩ := hh (ρ1 50 5) (by omega)
      rw [if_pos z, bn2_of, i10, v1, Option.bind_some]
      by_cases y : v = 0
      · rw [if_pos y, bc, Option.bind_some, ckp r69, if_neg (by omega), hL]
        exact ⟨_, _, rfl, rfl, t.fails tp (by omega) (by omega), c2.ln.trans (tk_failC _ _ _).ln, (tk_failM _ _ _).ln⟩
      · rw [if_neg y, hK]
        exact ⟨_, _, rfl, rfl, t.fails tp (by omega) (by omega), c2.ln.trans (tk_failC _ _ _).ln, (tk_failM _ _ _).ln⟩
    · rw [if_neg z, bn2_of, i00]
      exact ⟨_, _, rfl, rfl, t.fails tp (by omega) (by omega), c2.ln.trans (tk_failC _ _ _).ln, (tk_failM _ _ _).ln⟩
  · rw [show m + 2 = (m + 1) + 1 from rfl, grM hf f0 r26 r69 (by omega)]
    obtain ⟨v, ρ2, w, τ1, e1, e2, e3, e4, e5, e6⟩ := t.number (lo := 0) (hi := 24) tp (by decide) (by decide)
    rw [e1, e2, bn2_of, bn2_of]
    dsimp only [jn]
    rcases e6 with ⟨v0, w0, b⟩ | ⟨v1, q1, q2, q3, q4, q5, q6⟩
    · left
      have b28 := b.2.1
      have r28 : inR (τ1 62 28) := ⟨by omega, by omega⟩
      refine ⟨ρ2, τ1, by rw [v0, i00], ?_, b, c2.ln.trans e3.ln, e4.ln⟩
      rw [ckp r28, if_neg (by omega), ckp r28, if_neg (by omega), bad_next b28, Option.bind_some, e5, ckp r26, grM_out b28, grM_out b28]
      split <;> rfl
    · subst q1
      subst q2
      subst q3
      have hc : 0 ≤ ρ2 50 5 ∧ ρ2 50 5 < 25 := by omega
      obtain ⟨x, x1, x2⟩ := hh (ρ2 50 5) hc
      have ow := g.2.1 (ρ2 50 5) hc.1 hc.2
      rw [← e68] at ow
      rw [v1, i10, x1, Option.bind_some, f0, ckp R_0, i00, ckp hc, ckp (show inR (τ1 68 (ρ2 50 5)) from ⟨by omega, by omega⟩)]
      by_cases y : x = 0
      · right
        have free := x2.mp y
        rw [if_pos y, bc, Option.bind_some, ckp r69, if_pos (by omega), if_pos free, needs_ok (by decide) (by decide), Option.bind_some, f0, ckp R_0, i00, ckp hc, ckp hf]
        rw [show (pup τ1 68 (ρ2 50 5) f) 69 f = τ1 69 f by rw [pup_ne (by omega)]]
        have e20 : (pup (pup τ1 68 (ρ2 50 5) f) 69 f (τ1 69 f + 1)) 62 20 = τ1 62 20 := by rw [pup_ne (by omega), pup_ne (by omega)]
        rw [sawM ⟨by omega, by omega⟩ (by rw [e20]; exact h20), Option.bind_some, e20]
        obtain ⟨mx, emx⟩ : ∃ mx, mx = (if ρ2 50 5 ≤ τ1 62 20 then τ1 62 20 else ρ2 50 5) := ⟨_, rfl⟩
        rw [← emx]
        have tA : TokR (pup ρ2 55 f (bor (ρ 55 f) (bshl 1 (ρ2 50 5)))) (pup (pup (pup τ1 68 (ρ2 50 5) f) 69 f (τ1 69 f + 1)) 62 20 mx) := t.keep (by rw [pup_ne (by omega)]) (fun j j0 j1 => by rw [pup_off (by omega), pup_ne (by omega), pup_ne (by omega)])
        obtain ⟨τ2, m1, m2, m3⟩ := tA.next (tp.keep (by rw [pup_ne (by omega)]) (by rw [pup_ne (by omega)]) (by rw [pup_off (by omega), pup_ne (by omega), pup_ne (by omega)]) (by rw [pup_ne (by omega), pup_ne (by omega), pup_ne (by omega)]))
        have k4 := m3.kind
        refine ⟨by omega, ρ2, ρ2 50 5, τ2, hc, free, c2, by omega, by rw [e55], ?_, by rw [← emx]; exact m2, m3⟩
        rw [m1, Option.bind_some, ckp (show inR (τ2 62 26) from ⟨by omega, by omega⟩)]
      · left
        have own : ¬ τ1 68 (ρ2 50 5) = -4 := fun z => y (x2.mpr z)
        have b28 : 1 ≤ (pup (pup τ1 62 28 4) 62 29 (τ1 62 25)) 62 28 ∧ (pup (pup τ1 62 28 4) 62 29 (τ1 62 25)) 62 28 ≤ 6 := by rw [pup_off (by omega), pup_at]; omega
        have e28 : (pup (pup τ1 62 28 4) 62 29 (τ1 62 25)) 62 28 = 4 := by rw [pup_off (by omega), pup_at]
        have e26 : (pup (pup τ1 62 28 4) 62 29 (τ1 62 25)) 62 26 = τ1 62 26 := by rw [pup_off (by omega), pup_off (by omega)]
        rw [if_neg y, hK, if_neg own, needs_no f0, Option.bind_some, e28, ckp (by decide), if_neg (by decide), bad_next b28, Option.bind_some, e26, ckp r26, grM_out b28, grM_out b28]
        refine ⟨_, _, rfl, ?_, t.fails tp (by omega) (by omega), c2.ln.trans (tk_failC _ _ _).ln, (tk_failM _ _ _).ln⟩
        split <;> rfl
/-- behind a number of a ground line -/
theorem gr_dra {ρ τ ρ1 τ2 τA : pm} {f c : Int} (hf : 0 ≤ f ∧ f < 3) (hc : 0 ≤ c ∧ c < 25) (d : DraR ρ τ) (c2 : tkC ρ ρ1) (hA : ∀ q, q ≠ 62 → τA q = τ q) (hB : ∀ j, j < 24 → j ≠ 21 → τA 62 j = τ 62 j) (free : τ 68 c = -4) (h8 : τ 69 f < 8) (v0 : -4 ≤ τA 62 21 ∧ τA 62 21 ≤ 2) (v : ∀ n, 0 ≤ n → (τA 62 21 < n ↔ τ 62 21 < n ∧ f < n)) (m : tkM (pup (pup (pup τA 68 c f) 69 f (τA 69 f + 1)) 62 20 (if c ≤ τA 62 20 then τA 62 20 else c)) τ2) : DraR (pup ρ1 55 f (bor (ρ 55 f) (bshl 1 c))) τ2 := by
  refine DraR.tk ?_ (tkC.refl _) m
  obtain ⟨h1, h2, h3, h4, h5, h6⟩ := d
  rw [hB 20 (by omega) (by omega), hA 69 (by omega)]
  obtain ⟨mx, emx⟩ : ∃ mx, mx = (if c ≤ τ 62 20 then τ 62 20 else c) := ⟨_, rfl⟩
  rw [← emx]
  have r52 : (pup ρ1 55 f (bor (ρ 55 f) (bshl 1 c))) 52 = ρ 52 := by rw [pup_ne (by omega), c2.1 52 (by omega)]
  have rN : ∀ q, q ≠ 55 → q ≠ 50 → (pup ρ1 55 f (bor (ρ 55 f) (bshl 1 c))) q = ρ q := fun q x y => by rw [pup_ne x, c2.1 q y]
  have s62 : ∀ j, j < 24 → j ≠ 20 → j ≠ 21 → (pup (pup (pup τA 68 c f) 69 f (τ 69 f + 1)) 62 20 mx) 62 j = τ 62 j := fun j o x y => by rw [pup_off x, pup_ne (by omega), pup_ne (by omega), hB j o y]
  have sN : ∀ q, q ≠ 62 → q ≠ 68 → q ≠ 69 → (pup (pup (pup τA 68 c f) 69 f (τ 69 f + 1)) 62 20 mx) q = τ q := fun q x y z => by rw [pup_ne x, pup_ne z, pup_ne y, hA q x]
  refine ⟨h1.keep (by rw [r52]) (by rw [r52]) (s62 _ (by omega) (by omega) (by omega)) (s62 _ (by omega) (by omega) (by omega)), h2.keep (by rw [r52]) (s62 _ (by omega) (by omega) (by omega)), h3.keep (by rw [r52]) (s62 _ (by omega) (by omega) (by omega)) (s62 _ (by omega) (by omega) (by omega)) (by rw [r52]), h4.keep (by rw [r52]) (s62 _ (by omega) (by omega) (by omega)) (sN _ (by omega) (by omega) (by omega)) (rN _ (by omega) (by omega)), h5.keep (rN _ (by omega) (by omega)) (rN _ (by omega) (by omega)) (sN _ (by omega) (by omega) (by omega)) (s62 _ (by omega) (by omega) (by omega)) (s62 _ (by omega) (by omega) (by omega)) (s62 _ (by omega) (by omega) (by omega)), ?_⟩
  refine dg_up (f := f) (c := c) h6 hf hc free h8 (by rw [r52]) (fun g hg => ?_) ?_ (s62 _ (by omega) (by omega) (by omega)) (fun j hj => ?_) ?_ (fun g hg => ?_) ?_ ?_ ?_ ?_
  · rw [pup_off hg, c2.1 55 (by omega)]
  · rw [pup_at]
  · rw [pup_ne (by omega), pup_ne (by omega), pup_off hj, hA 68 (by omega)]
  · rw [pup_ne (by omega), pup_ne (by omega), pup_at]
  · rw [pup_ne (by omega), pup_off hg, pup_ne (by omega), hA 69 (by omega)]
  · rw [pup_ne (by omega), pup_at]
  · rw [pup_at, emx]
  · rw [pup_off (by omega), pup_ne (by omega), pup_ne (by omega)]; exact v0
  · rw [pup_off (by omega), pup_ne (by omega), pup_ne (by omega)]; exact v
theorem dg_69 {ρ τ : pm} {f : Int} (h : DgR ρ τ) (hf : 0 ≤ f ∧ f < 3) : 0 ≤ τ 69 f ∧ τ 69 f ≤ 8 := by
  have k := (h.2.2.1 f hf.1 hf.2).2.1
  refine ⟨?_, k.2⟩
  rw [k.1]
  have := (sm_bd (f := fun c => if τ 68 c = f then 1 else 0) (a := 0) (b := 1) (n := 25) (fun j hj => by
    show 0 ≤ (if τ 68 (j : Int) = f then (1 : Int) else 0) ∧ (if τ 68 (j : Int) = f then (1 : Int) else 0) ≤ 1
    split <;> omega)).1
  omega
theorem dg_self {ρ τ : pm} {f c : Int} (h : DgR ρ τ) (hc : 0 ≤ c ∧ c < 25) (e : τ 68 c = f) : ∀ n, 0 ≤ n → (τ 62 21 < n ↔ τ 62 21 < n ∧ f < n) := fun n hn => ⟨fun z => ⟨z, by rw [← e]; exact (h.2.2.2.2.2.2 n hn).mp z c hc.1 hc.2⟩, fun z => z.1⟩
theorem grLoop {K L : pm → Option pm} {f : Int} (hK : ∀ ρ, K ρ = some (pup (pup ρ 50 6 4) 50 7 (ρ 50 4))) (hL : ∀ ρ, L ρ = some (pup (pup ρ 50 6 5) 50 7 (ρ 50 4))) (hf : 0 ≤ f ∧ f < 3) : ∀ (j n m : Nat) (i : Int) (ρ τ : pm), i + (j : Int) = 8 → 1 ≤ i → j + 1 ≤ n → j + 2 ≤ m → AhR ρ τ → DraR ρ τ → i ≤ τ 69 f → (∃ c, (0 ≤ c ∧ c < 25) ∧ τ 68 c = f) → ∃ ρ' τ', L_X1_takeGround_17 K L n f i ρ = some ρ' ∧ ((if τ 62 26 = 2 then L_X9_readGround_29 m f 1 τ else L_X9_readGround_29 m f 0 τ)).bind rlTail = some τ' ∧ LnR ρ τ ρ' τ' := by
  intro j
  induction j with
  | zero =>
    intro n m i ρ τ ij i1 hn hm a d e ec
    obtain ⟨n, rfl⟩ : ∃ n', n = n' + 1 := ⟨n - 1, by omega⟩
    obtain ⟨m, rfl⟩ : ∃ m', m = m' + 2 := ⟨m - 2, by omega⟩
    by_cases s : τ 62 28 ≠ 0 ∨ τ 62 26 ≠ 2
    · obtain ⟨ρ7, τ7, q1, q2, q3, q4, q5⟩ := a.tail
      refine ⟨ρ7, τ7, by rw [grStop hf (by omega) a s]; exact q1, ?_, q3.ln, q4.ln, q5.imp id (fun z => ⟨z.1, d.tk q3 q4, by omega⟩)⟩
      rcases a.fault01 with f0 | f1
      · rw [if_neg (by omega), show m + 2 = (m + 1) + 1 from rfl, grM_stop f0]; exact q2
      · rw [show m + 2 = (m + 1) + 1 from rfl, grM_out (by omega), grM_out (by omega)]
        split <;> exact q2
    · have f0 : τ 62 28 = 0 := Classical.byContradiction (fun z => s (Or.inl z))
      have k2 : τ 62 26 = 2 := Classical.byContradiction (fun z => s (Or.inr z))
      have g := d.2.2.2.2.2
      have h20 := g.2.2.2.1
      rw [if_pos k2]
      rcases grStep (n := n) (m := m) (i := i) hK hL hf (by omega) a f0 (Or.inr k2) g rfl rfl ⟨by omega, by omega⟩ (dg_69 g hf) with ⟨ρ', τ', x1, x2, x3, x4, x5⟩ | ⟨x, -⟩
      · exact ⟨ρ', τ', x1, by rw [x2, Option.bind_some, bad_tail x3.2.1], x4, x5, Or.inl x3⟩
      · exfalso; omega
  | succ j ih =>
    intro n m i ρ τ ij i1 hn hm a d e ec
    obtain ⟨n, rfl⟩ : ∃ n', n = n' + 1 := ⟨n - 1, by omega⟩
    obtain ⟨m, rfl⟩ : ∃ m', m = m' + 2 := ⟨m - 2, by omega⟩
    by_cases s : τ 62 28 ≠ 0 ∨ τ 62 26 ≠ 2
    · obtain ⟨ρ7, τ7, q1, q2, q3, q4, q5⟩ := a.tail
      refine ⟨ρ7, τ7, by rw [grStop hf (by omega) a s]; exact q1, ?_, q3.ln, q4.ln, q5.imp id (fun z => ⟨z.1, d.tk q3 q4, by omega⟩)⟩
      rcases a.fault01 with f0 | f1
      · rw [if_neg (by omega), show m + 2 = (m + 1) + 1 from rfl, grM_stop f0]; exact q2
      · rw [show m + 2 = (m + 1) + 1 from rfl, grM_out (by omega), grM_out (by omega)]
        split <;> exact q2
    · have f0 : τ 62 28 = 0 := Classical.byContradiction (fun z => s (Or.inl z))
      have k2 : τ 62 26 = 2 := Classical.byContradiction (fun z => s (Or.inr z))
      have g := d.2.2.2.2.2
      have h20 := g.2.2.2.1
      rw [if_pos k2]
      rcases grStep (n := n) (m := m) (i := i) hK hL hf (by omega) a f0 (Or.inr k2) g rfl rfl ⟨by omega, by omega⟩ (dg_69 g hf) with ⟨ρ', τ', x1, x2, x3, x4, x5⟩ | ⟨x, ρ1, c, τ2, hc, free, c2, p1, y1, y2, y3, y4⟩
      · exact ⟨ρ', τ', x1, by rw [x2, Option.bind_some, bad_tail x3.2.1], x4, x5, Or.inl x3⟩
      · obtain ⟨cc, hcc, ecc⟩ := ec
        have d2 := gr_dra (τA := τ) hf hc d c2 (fun _ _ => rfl) (fun _ _ _ => rfl) free x g.2.2.2.2.1 (dg_self g hcc ecc) y3
        have e68 : τ2 68 c = f := by rw [y3.1 68 (by omega), pup_ne (by omega), pup_ne (by omega), pup_at]
        have e69 : τ2 69 f = τ 69 f + 1 := by rw [y3.1 69 (by omega), pup_ne (by omega), pup_at]
        obtain ⟨ρ', τ', z1, z2, z3, z4, z5⟩ := ih n (m + 1) (i + 1) _ τ2 (by omega) (by omega) (by omega) (by omega) y4 d2 (by omega) ⟨c, hc, e68⟩
        refine ⟨ρ', τ', by rw [y1]; exact z1, by rw [y2]; exact z2, c2.ln.trans ((lnC.pup _ (by omega) _ _).trans z3), (lnM.pup _ (by omega) _ _).trans ((lnM.pup _ (by omega) _ _).trans ((lnM.pupf _ (by omega) _).trans (y3.ln.trans z4))), z5.imp id (fun q => ⟨q.1, q.2.1, ?_⟩)⟩
        have := q.2.2
        rw [pup_ne (by omega)] at this
        omega
theorem groundR {ρ τ : pm} (tp : TpR ρ τ) (t : TokR ρ τ) (d : DraR ρ τ) (k1 : ρ 50 3 = 1) (ln : f_X9_lineNow τ = some 6) : ∃ ρ' τ', f_X1_takeGround ρ = some ρ' ∧ f_X9_readLine τ = some τ' ∧ LnR ρ τ ρ' τ' := by
  have t' := t
  obtain ⟨b1, b2, b3, b4, b5, b6, b7, b8, b9, b10⟩ := t'
  obtain ⟨w0, w9, wf⟩ := d.2.2.2.1
  have rl := rl_of b2 (by omega) ln (by omega) (show inR (τ 62 9) from ⟨by omega, by omega⟩)
  rw [if_neg (by omega), if_pos (by decide)] at rl
  obtain ⟨τ1, m1, m2, m3⟩ := t.next tp
  unfold goOn at rl
  rw [m1, Option.bind_some] at rl
  rw [rl]
  clear rl m1
  have d1 := d.tk (tkC.refl _) m2
  obtain ⟨K, eK⟩ : ∃ K : pm → Option pm, K = fun (ρ : pm) => (f_X6_fail 4 ρ).bind (fun ρ19 => some ρ19) := ⟨_, rfl⟩
  obtain ⟨L, eL⟩ : ∃ L : pm → Option pm, L = fun (ρ : pm) => (f_X6_fail 5 ρ).bind (fun ρ20 => some ρ20) := ⟨_, rfl⟩
  have hK : ∀ ρ, K ρ = some (pup (pup ρ 50 6 4) 50 7 (ρ 50 4)) := fun ρ => by
    rw [eK]
    show (f_X6_fail 4 ρ).bind (fun y => some y) = _
    rw [bS, fail_eq]
  have hL : ∀ ρ, L ρ = some (pup (pup ρ 50 6 5) 50 7 (ρ 50 4)) := fun ρ => by
    rw [eL]
    show (f_X6_fail 5 ρ).bind (fun y => some y) = _
    rw [bS, fail_eq]
  unfold f_X1_takeGround
  rw [← eK, ← eL]
  obtain ⟨F, eF⟩ : ∃ F : Nat, F = fu := ⟨_, rfl⟩
  have hF : 99990 ≤ F := by rw [eF]; unfold fu; omega
  rw [← eF]
  rcases m3.fault01 with f0 | f1
  · rw [f0, ckp R_0, if_pos (by decide)]
    have rlo : f_X9_readLineOf 6 τ1 = f_X9_readGround τ1 := by
      unfold f_X9_readLineOf
      rw [ckp (by decide), if_neg (by decide), if_neg (by decide), if_neg (by decide), if_neg (by decide), if_neg (by decide), if_neg (by decide), bS]
    rw [rlo]
    unfold f_X9_readGround
    rw [← eF]
    obtain ⟨F, rfl⟩ : ∃ F', F = F' + 2 := ⟨F - 2, by omega⟩
    obtain ⟨v, ρ2, w, τ2, n1, n2, n3, n4, n5⟩ := m3.num (lo := 0) (hi := 2) (by decide) (by decide)
    have d2 := d1.tk n3 n4
    have g := d2.2.2.2.2.2
    have h20 := g.2.2.2.1
    have h21 := g.2.2.2.2.1
    have hw : 0 ≤ w ∧ w ≤ 2 := by
      rcases n5 with ⟨-, z, -⟩ | z <;> omega
    rw [n1, bn2_of, n2, bn2_of, ckp (show inR w from ⟨by omega, by omega⟩), ckp (show inR (τ2 62 21) from ⟨by omega, by omega⟩)]
    dsimp only [jn]
    obtain ⟨mx, emx⟩ : ∃ mx, mx = if w ≤ τ2 62 21 then τ2 62 21 else w := ⟨_, rfl⟩
    have eI : (if w ≤ τ2 62 21 then L_X9_readGround_29 (F + 2) w 1 (pup τ2 62 21 (τ2 62 21)) else L_X9_readGround_29 (F + 2) w 1 (pup τ2 62 21 w)) = L_X9_readGround_29 (F + 2) w 1 (pup τ2 62 21 mx) := by
      rw [emx]
      by_cases y : w ≤ τ2 62 21
      · rw [if_pos y, if_pos y]
      · rw [if_neg y, if_neg y]
    rw [eI]
    have lm3 : lnM τ (pup τ2 62 21 mx) := m2.ln.trans (n4.ln.trans (lnM.pupf _ (by omega) _))
    rcases n5 with ⟨v0, x0, b⟩ | ⟨v1, w5, wl, wh, a2, ps⟩
    · have bb : BadR ρ2 (pup τ2 62 21 mx) := b.keep rfl rfl (pup_off (by omega)) (pup_off (by omega))
      rw [v0, i00, show F + 2 = (F + 1) + 1 from rfl, grM_out bb.2.1, Option.bind_some, bad_tail bb.2.1]
      exact ⟨_, _, rfl, rfl, n3.ln, lm3, Or.inl bb⟩
    · rw [v1, i10, ← w5]
      have hf : 0 ≤ w ∧ w < 3 := by omega
      have a3 : AhR ρ2 (pup τ2 62 21 mx) := a2.keep rfl rfl (fun j j0 j1 => pup_off (by omega)) (pup_ne (by omega))
      rcases a3.fault01 with h0 | h1
      · rcases grStep (n := F + 1) (m := F) (i := 0) hK hL hf (by omega) a3 h0 (Or.inl rfl) g (pup_ne (by omega)) (pup_ne (by omega)) (by rw [pup_off (by omega)]; exact ⟨by omega, by omega⟩) (by rw [pup_ne (by omega)]; exact dg_69 g hf) with ⟨ρ', τ', x1, x2, x3, x4, x5⟩ | ⟨x, ρ3, c, τ5, hc, free, c2, p1, y1, y2, y3, y4⟩
        · exact ⟨ρ', τ', x1, by rw [x2, Option.bind_some, bad_tail x3.2.1], n3.ln.trans x4, lm3.trans x5, Or.inl x3⟩
        · have d5 := gr_dra (τA := pup τ2 62 21 mx) hf hc d2 c2 (fun q hq => pup_ne hq) (fun j j0 j1 => pup_off j1) (by rw [← pup_ne (ρ := τ2) (q := 62) (q' := 68) (i := 21) (x := mx) (by omega)]; exact free) (by rw [← pup_ne (ρ := τ2) (q := 62) (q' := 69) (i := 21) (x := mx) (by omega)]; exact x) (by rw [pup_at, emx]; split <;> omega) (fun n hn => by rw [pup_at, emx]; split <;> omega) y3
          have e68 : τ5 68 c = w := by rw [y3.1 68 (by omega), pup_ne (by omega), pup_ne (by omega), pup_at]
          have e69 : τ5 69 w = (pup τ2 62 21 mx) 69 w + 1 := by rw [y3.1 69 (by omega), pup_ne (by omega), pup_at]
          have z69 := dg_69 g hf
          rw [show (pup τ2 62 21 mx) 69 = τ2 69 from pup_ne (by omega)] at e69
          obtain ⟨ρ', τ', z1, z2, z3, z4, z5⟩ := grLoop hK hL hf 7 (F + 1) (F + 1) (0 + 1) _ τ5 (by omega) (by omega) (by omega) (by omega) y4 d5 (by omega) ⟨c, hc, e68⟩
          refine ⟨ρ', τ', by rw [y1]; exact z1, by rw [y2]; exact z2, n3.ln.trans (c2.ln.trans ((lnC.pup _ (by omega) _ _).trans z3)), lm3.trans ((lnM.pup _ (by omega) _ _).trans ((lnM.pup _ (by omega) _ _).trans ((lnM.pupf _ (by omega) _).trans (y3.ln.trans z4)))), z5.imp id (fun q => ⟨q.1, q.2.1, ?_⟩)⟩
          have := q.2.2
          rw [pup_ne (by omega)] at this
          omega
      · obtain ⟨ρ', g1', g2', g3', g4', g5'⟩ := a3.bad (by omega)
        refine ⟨ρ', _, ?_, by rw [show F + 2 = (F + 1) + 1 from rfl, grM_out (by omega), Option.bind_some, bad_tail (by omega)], n3.ln.trans g4'.ln, lm3, Or.inl g5'⟩
        rw [L_X1_takeGround_17, ckp R_0, if_neg (by decide), g3', Option.bind_some]
        dsimp only [jn]
        rw [if_pos (by decide), bad_isNumber g5'.1, bn2_of, i00]
  · obtain ⟨ρ', g1, g2, g3, g4, g5⟩ := m3.bad (by omega)
    rw [g1, bn2_of, i00, f1, ckp (by decide), if_neg (by decide)]
    exact ⟨ρ', τ1, rfl, rfl, g4.ln, m2.ln, Or.inl g5⟩
