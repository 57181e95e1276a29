/-- the way that was found, of both -/
def pth (i : Nat) (ρ τ : pm) : Prop := (0 ≤ τ 77 (i : Int) ∧ τ 77 (i : Int) < 9) ∧ τ 78 (9 * (i : Int) + τ 77 (i : Int)) = ρ (34 + i) 2
def Ex (K : Int → pm → Option (Int × pm)) (f c n : Int) (m : Nat) (Li : Int) (τ : pm) : Option (Int × pm) := if Li - 1 < 0 then L_X9_isBrought_43 K m f c n (Li - 1) 0 τ else L_X9_isBrought_43 K m f c n (Li - 1) 0 (pup τ 77 (Li - 1) (τ 77 (Li - 1) + 1))
def RS (K : Int → pm → Option (Int × pm)) (f c n : Int) (L m cost : Nat) (ρ τ : pm) (R : Option (Int × pm)) : Prop :=
  (∃ ρ' τ', R = some (1, ρ') ∧ L_X9_isBrought_43 K m f c n (L : Int) 0 τ = K 1 τ' ∧ frC L ρ ρ' ∧ frM (L : Int) τ τ' ∧ ∀ i : Nat, L ≤ i → (i : Int) < n → pth i ρ' τ') ∨
  (∃ ρ' τ' k, R = some (0, ρ') ∧ k ≤ cost ∧ k ≤ m ∧ L_X9_isBrought_43 K m f c n (L : Int) 0 τ = Ex K f c n (m - k) (L : Int) τ' ∧ frC L ρ ρ' ∧ frM (L : Int) τ τ')
def SR (W H fm f c n : Int) (K : Int → pm → Option (Int × pm)) (Y : Int) (L q cost : Nat) (F : pm → Option (Int × pm)) : Prop :=
  ∀ (m : Nat) (ρ τ : pm), cost ≤ m → LdR W H fm ρ τ → LvR W H Y f (L : Int) ρ τ q → τ 77 (L : Int) = 0 → RS K f c n L m cost ρ τ (F ρ)
theorem RS.next {K : Int → pm → Option (Int × pm)} {f c n : Int} {L m m2 cost cost2 : Nat} {ρ τ ρ2 τ2 : pm} {R : Option (Int × pm)} (h : RS K f c n L m2 cost2 ρ2 τ2 R) (hm : m2 ≤ m) (hc : (m - m2) + cost2 ≤ cost) (fc : frC L ρ ρ2) (fm : frM (L : Int) τ τ2) (e : L_X9_isBrought_43 K m f c n (L : Int) 0 τ = L_X9_isBrought_43 K m2 f c n (L : Int) 0 τ2) : RS K f c n L m cost ρ τ R := by
  rcases h with ⟨ρ', τ', a1, a2, a3, a4, a5⟩ | ⟨ρ', τ', k, a1, a2, a3, a4, a5, a6⟩
  · exact Or.inl ⟨ρ', τ', a1, e.trans a2, fc.trans a3, fm.trans a4, a5⟩
  · refine Or.inr ⟨ρ', τ', (m - m2) + k, a1, by omega, by omega, ?_, fc.trans a5, fm.trans a6⟩
    rw [e, a4, show m - (m - m2 + k) = m2 - k by omega]
theorem frM_77 {L : Int} {τ : pm} (v : Int) {j : Int} (h : L ≤ j) : frM L τ (pup τ 77 j v) := ⟨fun p _ _ _ _ h5 _ _ => pup_ne h5, fun j _ _ => by rw [pup_ne (by omega)], fun j _ => by rw [pup_ne (by omega)], fun j _ => by rw [pup_ne (by omega)], fun i hi => pup_off (by omega), fun j _ => by rw [pup_ne (by omega)], fun j _ => by rw [pup_ne (by omega)]⟩
theorem agB.frM {L : Int} {a b : pm} (h : agB a b) : frM L a b := ⟨fun p x _ z _ _ _ _ => h.cell x z, fun _ x y => h.fld x y, fun _ _ => by rw [h.cell (by omega) (by omega)], fun _ _ => by rw [h.cell (by omega) (by omega)], fun _ _ => by rw [h.cell (by omega) (by omega)], fun _ _ => by rw [h.cell (by omega) (by omega)], fun _ _ => by rw [h.cell (by omega) (by omega)]⟩
theorem levelR {W H fm Y f c n cm : Int} {K : Int → pm → Option (Int × pm)} {L q q' d sub : Nat} {F' : pm → Option (Int × pm)} {CL : Nat → Int → pm → Option (Int × pm)} (hL : L ≤ 2) (hq : q + 3 * L = 47) (hq' : q' + 3 = q) (hd : d = 34 + L) (hn : (L : Int) < n ∧ n ≤ 3) (hc : 0 ≤ c ∧ c < 25) (hf : 0 ≤ f ∧ f < fm) (hY : 0 ≤ Y ∧ Y ≤ 2000)
    (hend : ∀ m ρ, CL (m + 1) 26 ρ = some (0, ρ))
    (hskip : ∀ m x ρ, 1 ≤ x → x ≤ 25 → ¬ on cm (x - 1) → CL (m + 1) x ρ = CL m (x + 1) ρ)
    (hgo : ∀ m x ρ ρ9 ρ11 v ρ13, 0 ≤ x → x ≤ 25 → (x = 0 ∨ on cm (x - 1)) → f_X2_copy q' q (pup ρ d 2 (md x)) = some ρ9 → f_X2_pass q' (tms f * x) ρ9 = some ρ11 → F' ρ11 = some (v, ρ13) → CL (m + 1) x ρ = if v = 0 then CL m (x + 1) ρ13 else some (1, ρ13))
    (hsub : (n = (L : Int) + 1 ∧ ∀ ρ, F' ρ = some (bt (ρ q' 4) c, ρ)) ∨ ((L : Int) + 1 < n ∧ SR W H fm f c n K (Y + 1) (L + 1) q' sub F')) (hcm : few cm) :
    ∀ (d0 nC m : Nat) (x : Int) (ρ τ : pm), x + (d0 : Int) = 26 → 0 ≤ x → d0 + 1 ≤ nC → d0 * (sub + 2) + 1 ≤ m → LdR W H fm ρ τ → LvR W H Y f (L : Int) ρ τ q → cans W H ρ τ q f = cm → τ 77 (L : Int) = pos cm x → RS K f c n L m (d0 * (sub + 2) + 1) ρ τ (CL nC x ρ) := by
  have hN := few_bd hcm
  intro d0
  induction d0 with
  | zero =>
    intro nC m x ρ τ hx x0 hnC hm ld lv ecm h77
    obtain ⟨nC, rfl⟩ : ∃ z, nC = z + 1 := ⟨nC - 1, by omega⟩
    obtain ⟨m, rfl⟩ : ∃ z, m = z + 1 := ⟨m - 1, by omega⟩
    have e26 : x = 26 := by omega
    rw [e26] at h77 ⊢
    rw [pos_26] at h77
    have h79 := lv.2.1
    rw [ecm] at h79
    refine Or.inr ⟨ρ, τ, 1, hend _ _, by omega, by omega, ?_, frC.refl _ _, frM.refl _ _⟩
    rw [L_X9_isBrought_43, ckp (by omega), if_neg (by omega), ckp (by omega), if_neg (by omega), ckp (by decide), if_pos rfl, ckp (by omega), ckp (by omega), h77, h79, ckp (by omega), ckp (by omega), if_pos rfl, jn_eq, show (L : Int) + -1 = (L : Int) - 1 by omega, ckp (by omega), show m + 1 - 1 = m by omega]
    unfold Ex
    by_cases e : (L : Int) - 1 < 0
    · rw [if_pos e, if_pos e]
    · rw [if_neg e, if_neg e, ckp (by omega), jn_eq]
  | succ d0 ih =>
    intro nC m x ρ τ hx x0 hnC hm ld lv ecm h77
    obtain ⟨nC, rfl⟩ : ∃ z, nC = z + 1 := ⟨nC - 1, by omega⟩
    obtain ⟨T, eT⟩ : ∃ T, T = d0 * (sub + 2) := ⟨_, rfl⟩
    have eT1 : (d0 + 1) * (sub + 2) = T + (sub + 2) := by rw [eT, Nat.succ_mul]
    rw [← eT] at ih
    rw [eT1] at hm ⊢
    by_cases ho : x = 0 ∨ on cm (x - 1)
    · obtain ⟨m, rfl⟩ : ∃ z, m = z + 1 := ⟨m - 1, by omega⟩
      obtain ⟨po1, po2, po3, po4⟩ := pos_on (by omega) ho
      obtain ⟨ρ9, ρ11, τ1, τ2, a1, a2, a3, a4, a5, a6, a7, a8, a9, a10, a11, a12⟩ := stepA (d := d) rfl hL hq hq' hd ld lv hY hf (x := x) (by omega) (by rw [ecm]; exact ho)
      have h79 := lv.2.1
      have h78 := lv.2.2 (pos cm x) po2 (by rw [ecm]; exact po3)
      rw [ecm] at h79 h78
      rw [po4] at h78
      have sM := stepM (K := K) (c := c) (n := n) (m := m) (x := x) (f := f) hn (by omega) (by have := ld.2.2.2.2.1; omega) h77 h79 ⟨po2, po3, hN.2⟩ (by omega) h78 a3 a9 a4
      have fr2 : frM (L : Int) τ τ2 := ⟨fun p x1 x2 x3 _ _ _ _ => a10 p x1 x2 x3, a11, a12, fun j _ => by rw [a10 76 (by omega) (by omega) (by omega)], fun j _ => by rw [a10 77 (by omega) (by omega) (by omega)], fun j _ => by rw [a10 78 (by omega) (by omega) (by omega)], fun j _ => by rw [a10 79 (by omega) (by omega) (by omega)]⟩
      have t77 : τ2 77 (L : Int) = pos cm x := by rw [a10 77 (by omega) (by omega) (by omega)]; exact h77
      have t78 : τ2 78 (9 * (L : Int) + pos cm x) = md x := by rw [a10 78 (by omega) (by omega) (by omega)]; exact h78
      -- going on at the same level
      have on1 : ∀ (m2 : Nat) (ρ13 τ4 : pm), T + 1 ≤ m2 → m2 ≤ m → m + 1 - m2 + (T + 1) ≤ T + (sub + 2) + 1 → frC L ρ ρ13 → frM (L : Int) τ τ4 → τ4 77 (L : Int) = pos cm x + 1 → CL (nC + 1) x ρ = CL nC (x + 1) ρ13 → L_X9_isBrought_43 K (m + 1) f c n (L : Int) 0 τ = L_X9_isBrought_43 K m2 f c n (L : Int) 0 τ4 → RS K f c n L (m + 1) (T + (sub + 2) + 1) ρ τ (CL (nC + 1) x ρ) := by
        intro m2 ρ13 τ4 b1 b2 b3 fc fm e77 eC eM
        have r := ih nC m2 (x + 1) ρ13 τ4 (by omega) (by omega) (by omega) b1 (ld.fr fc fm) (lv.fr rfl hq (by rw [ecm]; exact hN.2) fc fm) (by rw [cans_fr hq fc fm]; exact ecm) (by rw [e77, po1])
        rw [eC]
        exact r.next (by omega) b3 fc fm eM
      rcases hsub with ⟨en, hF⟩ | ⟨ln, hS⟩
      · rw [if_pos (by omega)] at sM
        obtain ⟨τ3, b1, b2, -, b4, -⟩ := bedNowR a5 a6 (by omega)
        have eb : f_X9_bedNow τ2 = some (ρ11 q' 4, τ3) := by
          unfold f_X9_bedNow
          rw [b1, Option.bind_some, b4]
        rw [eb, bn2_of] at sM
        have hG := hgo nC x ρ ρ9 ρ11 _ _ x0 (by omega) ho a1 a2 (hF ρ11)
        have t3 : τ3 77 (L : Int) = pos cm x := by rw [b2.cell (by omega) (by omega)]; exact t77
        rcases bt_01 (ρ11 q' 4) c (by omega) with e0 | e1
        · rw [e0, if_neg (show ¬ (0 : Int) = 1 by decide)] at sM
          rw [e0, i00] at hG
          exact on1 m ρ11 _ (by omega) (by omega) (by omega) a7 ((fr2.trans b2.frM).trans (frM_77 _ (Int.le_refl _))) (by rw [pup_at, t3]) hG sM
        · rw [e1, if_pos rfl] at sM
          rw [e1, i10] at hG
          obtain ⟨m, rfl⟩ : ∃ z, m = z + 1 := ⟨m - 1, by omega⟩
          have fin : ∀ τ', L_X9_isBrought_43 K (m + 1) f c n (L : Int) 1 τ' = K 1 τ' := fun τ' => by
            rw [L_X9_isBrought_43, ckp (by omega), if_neg (by omega), ckp (by omega), if_neg (by omega), ckp (by decide), i10]
          refine Or.inl ⟨ρ11, _, hG, sM.trans (fin _), a7, (fr2.trans b2.frM).trans (frM_77 _ (Int.le_refl _)), fun i i0 i1 => ?_⟩
          have ei : i = L := by omega
          rw [ei]
          unfold pth
          rw [pup_at, t3, Int.add_zero, pup_ne (by omega), b2.cell (by omega) (by omega), t78, ← hd, a8]
          exact ⟨by omega, rfl⟩
      · rw [if_neg (by omega)] at sM
        obtain ⟨τ3, g1, g2, g3, g4, g5, g6, g7⟩ := entersM (L := (L : Int) + 1) a5 a6 (by omega) hf (by omega)
        rw [g1, Option.bind_some, ckp (by omega)] at sM
        have cL : ((L + 1 : Nat) : Int) = (L : Int) + 1 := by omega
        have fr3 : frM (L : Int) τ2 τ3 := ⟨fun p x1 _ x3 x4 _ x6 x7 => g3 p x1 x3 x4 x6 x7, g4, fun j _ => by rw [g3 63 (by omega) (by omega) (by omega) (by omega) (by omega)], fun j hj => g5 j (by omega), fun j _ => by rw [g3 77 (by omega) (by omega) (by omega) (by omega) (by omega)], fun j hj => g6 j (by omega), fun j hj => g7 j (by omega)⟩
        have ld3 : LdR W H fm ρ11 τ3 := a5.keep rfl rfl rfl (g4 _ (by omega) (by omega)) (g4 _ (by omega) (by omega)) (g4 _ (by omega) (by omega)) (g3 _ (by omega) (by omega) (by omega) (by omega) (by omega))
        have fr4 : frM ((L : Int) + 1) τ3 (pup τ3 77 ((L : Int) + 1) 0) := frM_77 _ (Int.le_refl _)
        have hN' : (lstF (cans W H ρ11 τ3 q' f) 25).1 ≤ 9 := by
          have := few_optM ld3 (ρ11 (q' + 1)) (ρ11 q' 6) (ρ11 q' 4) f hf.1
          rw [show optM W H fm (ρ11 (q' + 1)) (τ3 65) (ρ11 q' 6) (ρ11 q' 4) f = canM W H (ρ11 (q' + 1)) (τ3 65) (ρ11 q' 6) (ρ11 q' 4) f from if_pos hf.2] at this
          exact (few_bd this).2
        have lv4 : LvR W H (Y + 1) f ((L : Int) + 1) ρ11 (pup τ3 77 ((L : Int) + 1) 0) q' := LvR.fr (L := L + 1) cL.symm (by omega) g2 hN' (frC.refl _ _) fr4
        have ld4 := LdR.fr ld3 (frC.refl (L + 1) ρ11) fr4
        have res := hS m ρ11 (pup τ3 77 ((L : Int) + 1) 0) (by omega) ld4 (by rw [cL]; exact lv4) (by rw [cL, pup_at])
        unfold RS at res
        rw [cL] at res
        rcases res with ⟨ρ', τ', r1, r2, r3, r4, r5⟩ | ⟨ρ', τ', k, r1, r2, r2', r3, r4, r5⟩
        · have hG := hgo nC x ρ ρ9 ρ11 _ _ x0 (by omega) ho a1 a2 r1
          rw [i10] at hG
          refine Or.inl ⟨ρ', τ', hG, sM.trans r2, a7.trans r3.up, (fr2.trans fr3).trans (fr4.trans r4).up, fun i i0 i1 => ?_⟩
          by_cases ei : i = L
          · have w77 : τ' 77 (L : Int) = pos cm x := by rw [r4.2.2.2.2.1 _ (by omega), fr4.2.2.2.2.1 _ (by omega), g3 77 (by omega) (by omega) (by omega) (by omega) (by omega)]; exact t77
            have w78 : τ' 78 (9 * (L : Int) + pos cm x) = md x := by rw [r4.2.2.2.2.2.1 _ (by omega), fr4.2.2.2.2.2.1 _ (by omega), g6 _ (by omega)]; exact t78
            have wd : ρ' (34 + L) 2 = md x := by rw [r3 (34 + L) (by omega), ← hd]; exact a8
            rw [ei]
            unfold pth
            rw [w77, w78, wd]
            exact ⟨by omega, rfl⟩
          · exact r5 i (by omega) i1
        · have hG := hgo nC x ρ ρ9 ρ11 _ _ x0 (by omega) ho a1 a2 r1
          rw [i00] at hG
          unfold Ex at r3
          rw [show (L : Int) + 1 - 1 = (L : Int) by omega, if_neg (by omega)] at r3
          have w77 : τ' 77 (L : Int) = pos cm x := by rw [r5.2.2.2.2.1 _ (by omega), fr4.2.2.2.2.1 _ (by omega), g3 77 (by omega) (by omega) (by omega) (by omega) (by omega)]; exact t77
          exact on1 (m - k) ρ' _ (by omega) (by omega) (by omega) (a7.trans r4.up) (((fr2.trans fr3).trans (fr4.trans r5).up).trans (frM_77 _ (Int.le_refl _))) (by rw [pup_at, w77]) hG (sM.trans r3)
    · have x1 : 1 ≤ x := by
        by_cases e : x = 0
        · exact absurd (Or.inl e) ho
        · omega
      have no : ¬ on cm (x - 1) := fun z => ho (Or.inr z)
      have r := ih nC m (x + 1) ρ τ (by omega) (by omega) (by omega) (by omega) ld lv ecm (by rw [pos_off (by omega) no]; exact h77)
      rw [hskip nC x ρ x1 (by omega) no]
      exact r.next (Nat.le_refl _) (by omega) (frC.refl _ _) (frM.refl _ _) rfl
