/-! the reference's year -/
/-- the places that a look at the bed uses -/
def scB (q : Nat) (j : Int) : Prop := (q = 62 ∧ (j = 31 ∨ j = 32)) ∨ q = 71
def agB (τ τ' : pm) : Prop := ∀ q j, ¬ scB q j → τ' q j = τ q j
theorem agB.refl (τ : pm) : agB τ τ := fun _ _ _ => rfl
theorem agB.trans {a b c : pm} (h1 : agB a b) (h2 : agB b c) : agB a c := fun q j h => (h2 q j h).trans (h1 q j h)
theorem agB.cell {τ τ' : pm} (h : agB τ τ') {q : Nat} (h1 : q ≠ 62) (h2 : q ≠ 71) : τ' q = τ q := funext fun j => h q j (fun z => by unfold scB at z; omega)
theorem agB.fld {τ τ' : pm} (h : agB τ τ') {j : Int} (h1 : j ≠ 31) (h2 : j ≠ 32) : τ' 62 j = τ 62 j := h 62 j (fun z => by unfold scB at z; omega)
theorem trN_ag (τ : pm) (t : Int × Int × (Int → Int)) : agB τ (trN τ t) := fun q j h => by
  unfold scB at h
  unfold trN
  rw [if_neg (by omega), if_neg (by omega), if_neg (by omega)]
theorem trN_get1 (ρ : pm) (t : Int × Int × (Int → Int)) : trN ρ t 62 31 = t.1 := if_pos ⟨rfl, rfl⟩
theorem trN_get2 (ρ : pm) (t : Int × Int × (Int → Int)) : trN ρ t 62 32 = t.2.1 := by
  unfold trN
  rw [if_neg (by omega), if_pos ⟨rfl, rfl⟩]
theorem trN_way (ρ : pm) (t : Int × Int × (Int → Int)) : trN ρ t 71 = t.2.2 := by
  funext j
  unfold trN
  rw [if_neg (by omega), if_neg (by omega), if_pos rfl]
theorem goesM_step {n : Nat} {K : pm → Option pm} {y f f' : Int} {τ : pm} {h : Int → Int} (hy : 0 ≤ y ∧ y ≤ 2147483647) (hf : 0 ≤ f ∧ f < 3) (e : f + 1 = f') : L_X9_goes_2 K (n + 1) y f (stc τ 63 h) = L_X9_goes_2 K n y f' (stc τ 63 (cut1 h (dig y f))) := by
  subst e
  have db := dig_bd y f
  rw [L_X9_goes_2, ckp (by omega), if_neg (by omega), cutOf_eq hy hf, Option.bind_some, ckp (by omega)]
  dsimp only [jn]
  unfold cut1
  by_cases c : dig y f ≤ 0
  · rw [if_pos (by omega), if_pos c]
  · rw [if_neg (by omega), if_neg c, ckp (by omega), pup_stc, stc_stc, stc_get]
theorem siltM_step {n : Nat} {K : Int → pm → Option pm} {i i' : Int} {τ : pm} {p : (Int → Int) × Int} (hi : 0 ≤ i ∧ i < 4) (e : i + 1 = i') (hw : 0 ≤ τ 71 i ∧ τ 71 i < 25) (hb : hB 100000 p.1) : L_X9_silts_27 K (n + 1) p.2 i (stc τ 63 p.1) = L_X9_silts_27 K n (sil1 p (τ 71 i)).2 i' (stc τ 63 (sil1 p (τ 71 i)).1) := by
  subst e
  have hk := hb _ hw.1 hw.2
  have e1 : stc τ 63 p.1 71 = τ 71 := stc_ne (by omega)
  rw [L_X9_silts_27, ckp (by omega), if_neg (by omega), ckp (by omega), e1, stc_get, ckp (by omega), ckp (by omega)]
  dsimp only [jn]
  rw [e1, stc_get]
  unfold sil1
  by_cases c : p.1 (τ 71 i) ≤ 0
  · rw [if_pos c, if_pos c, ckp (by omega), ckp (by omega), pup_stc, stc_stc, stc_get, Int.sub_zero, Int.add_zero]
    have : up1 p.1 (τ 71 i) (p.1 (τ 71 i)) = p.1 := by
      funext j
      unfold up1
      by_cases e : j = τ 71 i
      · rw [if_pos e, e]
      · rw [if_neg e]
    rw [this]
  · rw [if_neg c, if_neg c, ckp (by omega), ckp (by omega), pup_stc, stc_stc, stc_get]
/-- silts(): heights behind it, the rest as it was -/
theorem siltsM {τ : pm} {W H : Int} (hl : landM τ W H) (hb : hB 90000 (τ 63)) (h0 : 0 ≤ τ 63 25) (h1 : τ 63 25 < W * H) (h7 : τ 63 27 = 0 ∨ τ 63 27 = 1) :
    ∃ τ', f_X9_silts τ = some τ' ∧ agB (stc τ 63 (if τ 63 27 = 0 ∨ (bedT W H (τ 63) (τ 63 25)).1 < 4 then τ 63 else silH (bedT W H (τ 63) (τ 63 25)).2.2 (bedT W H (τ 63) (τ 63 25)).1 (τ 63))) τ' := by
  have bd := hl.1.bd
  obtain ⟨b1, b2, b3, b4, b5⟩ := bedW_ok (h := τ 63) (τ 71) hl.1 h0 h1
  unfold f_X9_silts
  rw [findBedM hl (hb.ok (by omega)) h0 h1, Option.bind_some]
  obtain ⟨t, et⟩ : ∃ t, t = bedW W H (τ 63) (τ 63 25) (τ 71) := ⟨_, rfl⟩
  rw [← et] at b1 b2 b3 ⊢
  have e63 : trN τ t 63 = τ 63 := (trN_ag τ t).cell (by omega) (by omega)
  rw [e63, trN_get1, b1, ckp (Z_R h7)]
  by_cases c0 : τ 63 27 = 0
  · rw [if_pos c0, if_pos (Or.inl c0), stc_id]
    exact ⟨_, rfl, trN_ag τ t⟩
  · rw [if_neg c0, ckp (by omega)]
    by_cases c4 : (bedT W H (τ 63) (τ 63 25)).1 < 4
    · rw [if_neg (by omega), if_pos (Or.inr c4), stc_id]
      exact ⟨_, rfl, trN_ag τ t⟩
    · rw [if_pos (by omega), if_neg (fun z => z.elim c0 c4)]
      have w1 := b3 1 (by omega) (by omega)
      have w2 := b3 2 (by omega) (by omega)
      have w3 := b3 3 (by omega) (by omega)
      have w4 := b3 ((bedT W H (τ 63) (τ 63 25)).1 - 1) (by omega) (by omega)
      have tw : trN τ t 71 = t.2.2 := trN_way τ t
      have s1 := sil1_bd (p := (τ 63, 0)) (c := t.2.2 1) hb (Int.le_refl 0) (by omega)
      have s2 := sil1_bd (c := t.2.2 2) s1.1 s1.2.1 (by omega)
      have s3 := sil1_bd (c := t.2.2 3) s2.1 s2.2.1 (by omega)
      have ei : trN τ t = stc (trN τ t) 63 (τ 63) := by
        conv => lhs; rw [← stc_id (trN τ t) 63, e63]
      rw [ei, show fu = 99996 + 1 + 1 + 1 + 1 from rfl, siltM_step (p := (τ 63, 0)) (by omega) (i' := 2) rfl (by rw [tw]; omega) (hb.mono (by omega)), tw, siltM_step (by omega) (i' := 3) rfl (by rw [tw]; omega) (s1.1.mono (by omega)), tw, siltM_step (by omega) (i' := 4) rfl (by rw [tw]; omega) (s2.1.mono (by omega)), tw, L_X9_silts_27, ckp (by omega), if_pos (by omega), stc_ne (by omega : 62 ≠ 63), stc_ne (by omega : 71 ≠ 63), trN_get1, tw, b1, ckp (by omega), ckp (by omega)]
      dsimp only [jn]
      rw [pup_stc, stc_stc, stc_get]
      refine ⟨_, rfl, ?_⟩
      have eh2 : up1 (sil1 (sil1 (sil1 (τ 63, 0) (t.2.2 1)) (t.2.2 2)) (t.2.2 3)).1 (t.2.2 ((bedT W H (τ 63) (τ 63 25)).1 - 1)) ((sil1 (sil1 (sil1 (τ 63, 0) (t.2.2 1)) (t.2.2 2)) (t.2.2 3)).1 (t.2.2 ((bedT W H (τ 63) (τ 63 25)).1 - 1)) + (sil1 (sil1 (sil1 (τ 63, 0) (t.2.2 1)) (t.2.2 2)) (t.2.2 3)).2) = silH (bedT W H (τ 63) (τ 63 25)).2.2 (bedT W H (τ 63) (τ 63 25)).1 (τ 63) := by
        unfold silH
        dsimp only
        rw [w1.1, w2.1, w3.1, w4.1]
      rw [eh2]
      intro q j hs
      by_cases e : q = 63
      · rw [e, stc_get, stc_get]
      · rw [stc_ne e, stc_ne e]
        exact trN_ag τ t q j hs
theorem cut1_hi {h : Int → Int} {a j : Int} (ha : 0 ≤ a ∧ a < 26) (hj : 25 ≤ j) : cut1 h a j = h j := by
  unfold cut1
  by_cases c : a ≤ 0
  · rw [if_pos c]
  · rw [if_neg c]; exact if_neg (by omega)
theorem cutH_hi {h : Int → Int} {y j : Int} (hj : 25 ≤ j) : cutH h y j = h j := by
  unfold cutH
  rw [cut1_hi (dig_bd y 2) hj, cut1_hi (dig_bd y 1) hj, cut1_hi (dig_bd y 0) hj]
theorem goesM {τ : pm} {W H y : Int} (hl : landM τ W H) (hy : 0 ≤ y ∧ y ≤ 2147483647) (hb : hB 90000 (cutH (τ 63) y)) (h0 : 0 ≤ τ 63 25) (h1 : τ 63 25 < W * H) (h7 : τ 63 27 = 0 ∨ τ 63 27 = 1) :
    ∃ τ', f_X9_goes y τ = some τ' ∧ agB (stc τ 63 (passH W H (τ 63) (τ 63 25) (τ 63 27) y)) τ' := by
  unfold f_X9_goes
  conv => enter [1, w, 1, 1]; rw [← stc_id τ 63]
  rw [show fu = 99996 + 1 + 1 + 1 + 1 from rfl, goesM_step hy (by omega) (f' := 1) rfl, goesM_step hy (by omega) (f' := 2) rfl, goesM_step hy (by omega) (f' := 3) rfl]
  change ∃ τ', L_X9_goes_2 _ (99996 + 1) y 3 (stc τ 63 (cutH (τ 63) y)) = _ ∧ _
  have e5 : cutH (τ 63) y 25 = τ 63 25 := cutH_hi (by omega)
  have e7 : cutH (τ 63) y 27 = τ 63 27 := cutH_hi (by omega)
  have hl1 : landM (stc τ 63 (cutH (τ 63) y)) W H := hl.keep (by rw [stc_ne (by omega)]) (by rw [stc_ne (by omega)])
  obtain ⟨τ', e1, e2⟩ := siltsM hl1 (by rw [stc_get]; exact hb) (by rw [stc_get, e5]; exact h0) (by rw [stc_get, e5]; exact h1) (by rw [stc_get, e7]; exact h7)
  rw [L_X9_goes_2, ckp (by omega), if_pos (by omega), e1, Option.bind_some]
  refine ⟨τ', rfl, ?_⟩
  rw [stc_get, e5, e7, stc_stc] at e2
  exact e2
/-- a year of marks is a plain of the same kind: what stands at 25 and above stays -/
theorem passH_hi {W H : Int} {h : Int → Int} {sp silt y j : Int} (hw : wh W H) (h0 : 0 ≤ sp) (h1 : sp < W * H) (hj : 25 ≤ j) : passH W H h sp silt y j = h j := by
  have bd := hw.bd
  unfold passH
  obtain ⟨-, -, b3, b4, b5⟩ := bedW_ok (h := cutH h y) (fun _ => 0) hw h0 h1
  have ec : cutH h y j = h j := cutH_hi hj
  generalize bedT W H (cutH h y) sp = t at *
  by_cases c : silt = 0 ∨ t.1 < 4
  · rw [if_pos c, ec]
  · rw [if_neg c]
    have w1 := b3 1 (by omega) (by omega)
    have w2 := b3 2 (by omega) (by omega)
    have w3 := b3 3 (by omega) (by omega)
    have w4 := b3 (t.1 - 1) (by omega) (by omega)
    have s : ∀ (p : (Int → Int) × Int) (c : Int), c < 25 → (sil1 p c).1 j = p.1 j := by
      intro p c hc
      unfold sil1
      split
      · rfl
      · exact if_neg (by omega)
    unfold silH
    unfold up1
    rw [if_neg (by omega), s _ _ (by omega), s _ _ (by omega), s _ _ (by omega)]
    exact ec
