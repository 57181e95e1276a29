theorem frC.ld {W H fm : Int} {ρ τ ρ' τ' : pm} (h : LdR W H fm ρ τ) (c : frC 0 ρ ρ') (m : agS τ τ') : LdR W H fm ρ' τ' := h.keep (c _ (by omega)) (c _ (by omega)) (c _ (by omega)) (m.2 _ (by omega) (by omega)) (m.2 _ (by omega) (by omega)) (m.2 _ (by omega) (by omega)) (m.1 _ (by omega) (by omega) (by omega) (by omega) (by omega) (by omega))
theorem fewestR {W H fm Y f c w : Int} {K : Int → Int → pm → Option (Int × pm)} (hY : 0 ≤ Y ∧ Y ≤ 1000) (hf : 0 ≤ f ∧ f < fm) (hc : 0 ≤ c ∧ c < 25) : ∀ (m nC nM : Nat) (n : Int) (ρ τ : pm), m + 1 ≤ nC → m + 1 ≤ nM → n + (m : Int) = 4 → 0 ≤ n → LdR W H fm ρ τ → FlR W H Y ρ τ 47 0 →
    (∃ ρ' τ', L_X0_fewest_11 nC f c n ρ = some (-1, ρ') ∧ L_X9_alone_39 K nM f c w n τ = some (-4, τ') ∧ frC 0 ρ ρ' ∧ agS τ τ') ∨
    (∃ k ρ' τ', L_X0_fewest_11 nC f c n ρ = some (k, ρ') ∧ L_X9_alone_39 K nM f c w n τ = K w k τ' ∧ (0 ≤ k ∧ k ≤ 3) ∧ frC 0 ρ ρ' ∧ agS τ τ' ∧ ∀ i : Nat, (i : Int) < k → pth i ρ' τ') := by
  intro m
  induction m with
  | zero =>
    intro nC nM n ρ τ h1 h2 h3 h4 ld fl
    obtain ⟨nC, rfl⟩ : ∃ z, nC = z + 1 := ⟨nC - 1, by omega⟩
    obtain ⟨nM, rfl⟩ : ∃ z, nM = z + 1 := ⟨nM - 1, by omega⟩
    left
    rw [L_X0_fewest_11, L_X9_alone_39]
    refine ⟨ρ, τ, by rw [ckp (by omega), if_pos (by omega)], by rw [ckp (by omega), if_pos (by omega)], frC.refl _ _, agS.refl _⟩
  | succ m ih =>
    intro nC nM n ρ τ h1 h2 h3 h4 ld fl
    obtain ⟨nC, rfl⟩ : ∃ z, nC = z + 1 := ⟨nC - 1, by omega⟩
    obtain ⟨nM, rfl⟩ : ∃ z, nM = z + 1 := ⟨nM - 1, by omega⟩
    obtain ⟨v, ρ', τ', b1, b2, b3, b4, b5, b6⟩ := broughtR (n := n) ld fl hY hf hc (by omega)
    have eC : L_X0_fewest_11 (nC + 1) f c n ρ = if v = 0 then L_X0_fewest_11 nC f c (n + 1) ρ' else some (n, ρ') := by
      rw [L_X0_fewest_11, ckp (by omega), if_neg (by omega), b1, bn2_of]
      rfl
    have eM : L_X9_alone_39 K (nM + 1) f c w n τ = if v = 0 then L_X9_alone_39 K nM f c w (n + 1) τ' else K w n τ' := by
      rw [L_X9_alone_39, ckp (by omega), if_neg (by omega), b2, bn2_of]
      rfl
    rcases b3 with e | e
    · rw [e, i00] at eC eM
      have fl' : FlR W H Y ρ' τ' 47 0 := fl.keep (b4 _ (by omega)) (b4 _ (by omega)) (b4 _ (by omega)) (fun j _ _ => by rw [b5.1 63 (by omega) (by omega) (by omega) (by omega) (by omega) (by omega)])
      rcases ih nC nM (n + 1) ρ' τ' (by omega) (by omega) (by omega) (by omega) (b4.ld ld b5) fl' with ⟨ρ2, τ2, c1, c2, c3, c4⟩ | ⟨k, ρ2, τ2, c1, c2, c3, c4, c5, c6⟩
      · exact Or.inl ⟨ρ2, τ2, eC.trans c1, eM.trans c2, b4.trans c3, b5.trans c4⟩
      · exact Or.inr ⟨k, ρ2, τ2, eC.trans c1, eM.trans c2, c3, b4.trans c4, b5.trans c5, c6⟩
    · rw [e, i10] at eC eM
      exact Or.inr ⟨n, ρ', τ', eC, eM, by omega, b4, b5, b6 e⟩
def kAl (l1 l2 l3 : Int) (ρ : pm) : Option (Int × pm) := bn2 (f_X0_fewest l1 l2 ρ) (fun v7 ρ8 => ck (inR v7) (if 0 ≤ v7 then ck (inR l3) (if l3 = 0 then some (v7, ρ8) else ck (inR (l3 - 10)) (if v7 ≤ (l3 - 10) then some ((-4), ρ8) else (f_X0_cutOf (l3 - 10) ρ8).bind (fun v12 => some (v12, ρ8)))) else some ((-4), ρ8)))
theorem aloneC {f c w : Int} (hw : inR w) (ρ : pm) : f_X8_alone f c w ρ = (f_X3_hasFarm f ρ).bind (fun v2 => if v2 = 0 then some (-1, ρ) else (f_X3_hasCell c ρ).bind (fun v4 => if v4 = 0 then some (-1, ρ) else if w = 0 then kAl f c w ρ else if 10 ≤ w ∧ w ≤ 12 then kAl f c w ρ else some (-1, ρ))) := by
  have body : ∀ s, inR s → ((f_X3_hasFarm f ρ).bind (fun v2 => if v2 = 0 then some (-1, ρ) else (f_X3_hasCell c ρ).bind (fun v4 => if v4 = 0 then some (-1, ρ) else ck (inR w) (jn kAl (fun j52 => if w = 0 then j52 f c w ρ else ck (inR s) (if s = 0 then some (-1, ρ) else j52 f c w ρ)))))) = (f_X3_hasFarm f ρ).bind (fun v2 => if v2 = 0 then some (-1, ρ) else (f_X3_hasCell c ρ).bind (fun v4 => if v4 = 0 then some (-1, ρ) else if w = 0 then kAl f c w ρ else if s = 0 then some (-1, ρ) else kAl f c w ρ)) := by
    intro s hs
    simp only [ckp hw, ckp hs, jn_eq]
  unfold f_X8_alone
  rw [ckp hw, jn_eq, jn_eq]
  by_cases a : w < 10
  · rw [if_pos a]
    refine (body 0 (by decide)).trans ?_
    simp only [i00, if_neg (show ¬ (10 ≤ w ∧ w ≤ 12) by omega), if_true]
  · rw [if_neg a]
    by_cases b : 13 ≤ w
    · rw [if_pos b]
      refine (body 0 (by decide)).trans ?_
      simp only [i00, if_neg (show ¬ (10 ≤ w ∧ w ≤ 12) by omega), if_true]
    · rw [if_neg b]
      refine (body 1 (by decide)).trans ?_
      simp only [i10, if_pos (show 10 ≤ w ∧ w ≤ 12 by omega)]
def kMl (l3 l4 : Int) (ρ : pm) : Option (Int × pm) := ck (inR l3) (if l3 = 0 then some (l4, ρ) else ck (inR (l3 - 10)) (ck (inR l4) (if l4 ≤ (l3 - 10) then some ((-4), ρ) else ck (0 ≤ l3 - 10 ∧ l3 - 10 < 3) (ck (0 ≤ (9 * (l3 - 10)) + (ρ 77 (l3 - 10)) ∧ (9 * (l3 - 10)) + (ρ 77 (l3 - 10)) < 36) (some (ρ 78 ((9 * (l3 - 10)) + (ρ 77 (l3 - 10))), ρ))))))
theorem aloneM {f c w : Int} (hw : inR w) (τ : pm) : f_X9_alone f c w τ = (f_X9_isFarm f τ).bind (fun v1 => if v1 = 0 then some (-1, τ) else (f_X9_isCell c τ).bind (fun v3 => if v3 = 0 then some (-1, τ) else if w = 0 then L_X9_alone_39 kMl fu f c w 0 τ else if 10 ≤ w ∧ w ≤ 12 then L_X9_alone_39 kMl fu f c w 0 τ else some (-1, τ))) := by
  have e : f_X9_alone f c w τ = (f_X9_isFarm f τ).bind (fun v1 => if v1 = 0 then some ((-1), τ) else (f_X9_isCell c τ).bind (fun v3 => if v3 = 0 then some ((-1), τ) else ck (inR w) (jn (fun (l1 l2 l3 : Int) (ρ : pm) => L_X9_alone_39 kMl fu l1 l2 l3 0 ρ) (fun j36 => if w = 0 then j36 f c w τ else (f_X9_in w 10 12).bind (fun v16 => if v16 = 0 then some ((-1), τ) else j36 f c w τ))))) := rfl
  rw [e]
  simp only [ckp hw, jn_eq]
  by_cases a : 10 ≤ w ∧ w ≤ 12
  · simp only [in_yes (L_of_R hw) (by omega : inL 10) (by omega : inL 12) a, Option.bind_some, i10, if_pos a]
  · simp only [in_no (L_of_R hw) (by omega : inL 10) (by omega : inL 12) a, Option.bind_some, i00, if_neg a, if_true]
theorem k_alone {ρ τ : pm} (h : Rel ρ τ) {f c w : Int} (hf : inR f) (hc : inR c) (hw : inR w) : ∃ r ρ' τ', f_X8_alone f c w ρ = some (r, ρ') ∧ f_X9_alone f c w τ = some (r, τ') ∧ Rel ρ' τ' := by
  obtain ⟨W, H, fm, hr⟩ := h
  obtain ⟨a1, a2, a3, -⟩ := id hr
  obtain ⟨lc, lm, h4, h4', hfm, -⟩ := id a1
  have m1 := a3.1
  have bd := lc.1.bd
  rw [aloneC hw, aloneM hw]
  by_cases cf : 0 ≤ f ∧ f < fm
  · rw [isFarm_yes h4' hfm cf, hasFarm_yes h4 hfm cf, Option.bind_some, Option.bind_some, i10, i10]
    by_cases cc : 0 ≤ c ∧ c < W * H
    · rw [isCell_yes lm cc, hasCell_yes lc cc, Option.bind_some, Option.bind_some, i10, i10]
      obtain ⟨ρ1, c1, c2, c3, c4⟩ := copyF (q := 47) (p := 8) (ρ := ρ) (by omega) a2.2.2.2.2.1.1
      have fl1 : FlR W H (ρ 4 4) ρ1 τ 47 0 := a2.move lc.1 c3 c4 (fun _ _ _ => rfl)
      have ld1 : LdR W H fm ρ1 τ := a1.keep (c2 _ (by omega) (by omega) (by omega)) (c2 _ (by omega) (by omega) (by omega)) (c2 _ (by omega) (by omega) (by omega)) rfl rfl rfl rfl
      have main : (w = 0 ∨ (10 ≤ w ∧ w ≤ 12)) → ∃ r ρ' τ', kAl f c w ρ = some (r, ρ') ∧ L_X9_alone_39 kMl fu f c w 0 τ = some (r, τ') ∧ Rel ρ' τ' := by
        intro hw2
        have fin : ∀ ρ' τ', frC 0 ρ1 ρ' → agS τ τ' → Rel ρ' τ' := fun ρ' τ' fc fs => ⟨W, H, fm, hr.ag (fun q hq => by rw [fc q (by omega), c2 q (by omega) (by omega) (by omega)]) ⟨fun q hq => fs.1 q (by omega) (by omega) (by omega) (by omega) (by omega) (by omega), fs.2⟩⟩
        have eF : f_X0_fewest f c ρ = L_X0_fewest_11 fu f c 0 ρ1 := by
          unfold f_X0_fewest
          rw [c1, Option.bind_some]
        unfold kAl
        rw [eF]
        rcases fewestR (Y := ρ 4 4) (f := f) (c := c) (w := w) (K := kMl) (by omega) cf (by omega) 4 fu fu 0 ρ1 τ (by unfold fu; omega) (by unfold fu; omega) (by omega) (by omega) ld1 fl1 with ⟨ρ', τ', f1, f2, f3, f4⟩ | ⟨k, ρ', τ', f1, f2, f3, f4, f5, f6⟩
        · refine ⟨-4, ρ', τ', ?_, f2, fin ρ' τ' f3 f4⟩
          rw [f1, bn2_of, ckp (by decide), if_neg (by decide)]
        · rw [f1, bn2_of, f2, ckp (by omega), if_pos f3.1, ckp hw]
          unfold kMl
          rw [ckp hw]
          by_cases w0 : w = 0
          · rw [if_pos w0, if_pos w0]
            exact ⟨_, _, _, rfl, rfl, fin ρ' τ' f4 f5⟩
          · have hw3 : 10 ≤ w ∧ w ≤ 12 := hw2.resolve_left w0
            rw [if_neg w0, if_neg w0, ckp (by omega), ckp (by omega), ckp (by omega)]
            by_cases ck1 : k ≤ w - 10
            · rw [if_pos ck1, if_pos ck1]
              exact ⟨_, _, _, rfl, rfl, fin ρ' τ' f4 f5⟩
            · obtain ⟨i, ei⟩ : ∃ i : Nat, w - 10 = (i : Int) := ⟨(w - 10).toNat, by omega⟩
              have pp := f6 i (by omega)
              unfold pth at pp
              rw [if_neg ck1, if_neg ck1, ei, ckp (by omega), ckp (by omega), pp.2]
              refine ⟨_, ρ', τ', ?_, rfl, fin ρ' τ' f4 f5⟩
              have i3 : i = 0 ∨ i = 1 ∨ i = 2 := by omega
              unfold f_X0_cutOf
              rcases i3 with rfl | rfl | rfl
              · rfl
              · rfl
              · rfl
      by_cases w0 : w = 0
      · rw [if_pos w0, if_pos w0]
        exact main (Or.inl w0)
      · rw [if_neg w0, if_neg w0]
        by_cases w1 : 10 ≤ w ∧ w ≤ 12
        · rw [if_pos w1, if_pos w1]
          exact main (Or.inr w1)
        · rw [if_neg w1, if_neg w1]
          exact ⟨_, _, _, rfl, rfl, W, H, fm, hr⟩
    · rw [isCell_no lm hc cc, hasCell_no lc hc cc, Option.bind_some, Option.bind_some, i00, i00]
      exact ⟨_, _, _, rfl, rfl, W, H, fm, hr⟩
  · rw [isFarm_no hf h4' hfm cf, hasFarm_no hf h4 hfm cf, Option.bind_some, Option.bind_some, i00, i00]
    exact ⟨_, _, _, rfl, rfl, W, H, fm, hr⟩
