/-! a year of the class and of the reference -/
def stc (ρ : pm) (q : Nat) (h : Int → Int) : pm := fun q' => if q' = q then h else ρ q'
theorem stc_get (ρ : pm) (q : Nat) (h : Int → Int) : stc ρ q h q = h := if_pos rfl
theorem stc_ne {ρ : pm} {q q' : Nat} {h : Int → Int} (e : q' ≠ q) : stc ρ q h q' = ρ q' := if_neg e
theorem stc_stc (ρ : pm) (q : Nat) (h h' : Int → Int) : stc (stc ρ q h) q h' = stc ρ q h' := by
  funext q'
  unfold stc
  by_cases e : q' = q
  · rw [if_pos e, if_pos e]
  · rw [if_neg e, if_neg e, if_neg e]
theorem stc_id (ρ : pm) (q : Nat) : stc ρ q (ρ q) = ρ := by
  funext q'
  unfold stc
  by_cases e : q' = q
  · rw [if_pos e, e]
  · rw [if_neg e]
theorem pup_stc (ρ : pm) (q : Nat) (c v : Int) : pup ρ q c v = stc ρ q (up1 (ρ q) c v) := by
  funext q' j
  unfold pup stc up1
  by_cases e : q' = q
  · rw [if_pos e, e]
    by_cases k : j = c
    · rw [if_pos ⟨rfl, k⟩, if_pos k]
    · rw [if_neg (fun z => k z.2), if_neg k]
  · rw [if_neg e, if_neg (fun z => e z.1)]
def hB (B : Int) (h : Int → Int) : Prop := ∀ c, 0 ≤ c → c < 25 → 0 ≤ h c ∧ h c ≤ B
theorem hB.ok {B : Int} {h : Int → Int} (hb : hB B h) (hB' : B ≤ 100000) : hOK h := fun c a b => ⟨(hb c a b).1, Int.le_trans (hb c a b).2 hB'⟩
theorem hB.mono {B B' : Int} {h : Int → Int} (hb : hB B h) (hB' : B ≤ B') : hB B' h := fun c a b => ⟨(hb c a b).1, Int.le_trans (hb c a b).2 hB'⟩
theorem hB.congr {B : Int} {h h' : Int → Int} (e : heq h h') (o : hB B h) : hB B h' := fun c a b => by rw [← e c a b]; exact o c a b
theorem sil1_bd {B : Int} {p : (Int → Int) × Int} {c : Int} (hb : hB B p.1) (h2 : 0 ≤ p.2) (hc : 0 ≤ c ∧ c < 25) : hB B (sil1 p c).1 ∧ 0 ≤ (sil1 p c).2 ∧ (sil1 p c).2 ≤ p.2 + 1 := by
  unfold sil1
  by_cases k : p.1 c ≤ 0
  · rw [if_pos k]; exact ⟨hb, h2, by omega⟩
  · rw [if_neg k]
    have := hb c hc.1 hc.2
    refine ⟨fun j a b => ?_, by show 0 ≤ p.2 + 1; omega, by show p.2 + 1 ≤ _; omega⟩
    show 0 ≤ up1 p.1 c (p.1 c - 1) j ∧ up1 p.1 c (p.1 c - 1) j ≤ B
    unfold up1
    by_cases e : j = c
    · rw [if_pos e]; omega
    · rw [if_neg e]; exact hb j a b
theorem passH_bd {W H B : Int} {h : Int → Int} {sp silt y : Int} (hw : wh W H) (h0 : 0 ≤ sp) (h1 : sp < W * H) (hb : hB B (cutH h y)) : hB (B + 3) (passH W H h sp silt y) := by
  have bd := hw.bd
  unfold passH
  obtain ⟨-, -, b3, b4, b5⟩ := bedW_ok (h := cutH h y) (fun _ => 0) hw h0 h1
  generalize bedT W H (cutH h y) sp = t at *
  by_cases c : silt = 0 ∨ t.1 < 4
  · rw [if_pos c]; exact hb.mono (by omega)
  · rw [if_neg c]
    have w1 := b3 1 (by omega) (by omega)
    have w2 := b3 2 (by omega) (by omega)
    have w3 := b3 3 (by omega) (by omega)
    have w4 := b3 (t.1 - 1) (by omega) (by omega)
    have s1 := sil1_bd (p := (cutH h y, 0)) (c := t.2.2 1) hb (Int.le_refl 0) (by omega)
    have s2 := sil1_bd (c := t.2.2 2) s1.1 s1.2.1 (by omega)
    have s3 := sil1_bd (c := t.2.2 3) s2.1 s2.2.1 (by omega)
    have e0 : ((cutH h y, (0 : Int)) : (Int → Int) × Int).2 = 0 := rfl
    rw [e0] at s1
    unfold silH
    dsimp only
    intro j a b
    unfold up1
    by_cases e : j = t.2.2 (t.1 - 1)
    · rw [if_pos e]
      have := s3.1 (t.2.2 (t.1 - 1)) (by omega) (by omega)
      omega
    · rw [if_neg e]
      have := s3.1 j a b
      omega
theorem landC.keep {ρ ρ' : pm} {W H : Int} (hl : landC ρ W H) (h1 : ρ' 1 = ρ 1) (h3 : ρ' 3 = ρ 3) : landC ρ' W H := by
  unfold landC
  rw [h1, h3]
  exact hl
theorem landM.keep {ρ ρ' : pm} {W H : Int} (hl : landM ρ W H) (h1 : ρ' 62 2 = ρ 62 2) (h3 : ρ' 62 3 = ρ 62 3) : landM ρ' W H := by
  unfold landM
  rw [h1, h3]
  exact hl
theorem option_eq {y f : Int} (hy : 0 ≤ y ∧ y ≤ 2147483647) (hf : 0 ≤ f ∧ f < 3) : f_X8_option y f = some (dig y f) := by
  unfold f_X8_option dig
  rw [ckp (by omega)]
  have : f = 0 ∨ f = 1 ∨ f = 2 := by omega
  rcases this with rfl | rfl | rfl
  · rw [if_pos rfl, if_pos rfl, ckp (by omega), tmod_pos hy.1]
  · rw [if_neg (by decide), if_pos rfl, if_neg (by decide), if_pos rfl, tdiv_pos hy.1, ckp (by omega), ckp (by omega), tmod_pos (by omega)]
  · rw [if_neg (by decide), if_neg (by decide), if_pos rfl, if_neg (by decide), if_neg (by decide), if_pos rfl, tdiv_pos hy.1, ckp (by omega), ckp (by omega), tmod_pos (by omega)]
theorem cutOf_eq {y f : Int} (hy : 0 ≤ y ∧ y ≤ 2147483647) (hf : 0 ≤ f ∧ f < 3) : f_X9_cutOf y f = some (dig y f - 1) := by
  unfold f_X9_cutOf dig
  dsimp only [jn]
  rw [ckp (by omega)]
  have : f = 0 ∨ f = 1 ∨ f = 2 := by omega
  rcases this with rfl | rfl | rfl
  · rw [if_pos rfl, if_pos rfl, ckp (by omega), tmod_pos hy.1]
  · rw [if_neg (by decide), if_pos rfl, if_neg (by decide), if_pos rfl, tdiv_pos hy.1, ckp (by omega), ckp (by omega), tmod_pos (by omega)]
  · rw [if_neg (by decide), if_neg (by decide), if_neg (by decide), if_neg (by decide), if_pos rfl, tdiv_pos hy.1, ckp (by omega), ckp (by omega), tmod_pos (by omega)]
theorem passC_step {q n : Nat} {K : pm → Option pm} {y f f' : Int} {ρ : pm} {h : Int → Int} (hy : 0 ≤ y ∧ y ≤ 2147483647) (hf : 0 ≤ f ∧ f < 3) (e : f + 1 = f') : L_X2_pass_2 q K (n + 1) y f (stc ρ (q + 1) h) = L_X2_pass_2 q K n y f' (stc ρ (q + 1) (cut1 h (dig y f))) := by
  subst e
  have db := dig_bd y f
  rw [L_X2_pass_2, ckp (by omega), if_neg (by omega), option_eq hy hf, Option.bind_some, ckp (by omega)]
  dsimp only [jn]
  unfold cut1
  by_cases c : dig y f ≤ 0
  · rw [if_pos c, if_pos c]
  · rw [if_neg c, if_neg c, ckp (by omega), pup_stc, stc_stc, stc_get]
theorem siltC_step {q n : Nat} {K : Int → pm → Option pm} {i i' : Int} {ρ : pm} {p : (Int → Int) × Int} (hi : 0 ≤ i ∧ i < 4) (e : i + 1 = i') (hw : 0 ≤ ρ (q + 2) i ∧ ρ (q + 2) i < 25) (hb : hB 100000 p.1) : L_X2_carrySilt_4 q K (n + 1) p.2 i (stc ρ (q + 1) p.1) = L_X2_carrySilt_4 q K n (sil1 p (ρ (q + 2) i)).2 i' (stc ρ (q + 1) (sil1 p (ρ (q + 2) i)).1) := by
  subst e
  have hk := hb _ hw.1 hw.2
  have e1 : stc ρ (q + 1) p.1 (q + 2) = ρ (q + 2) := stc_ne (by omega)
  rw [L_X2_carrySilt_4, ckp (by omega), if_neg (by omega), ckp (by omega), e1, stc_get, ckp hw, ckp (by omega)]
  dsimp only [jn]
  unfold sil1
  by_cases c : p.1 (ρ (q + 2) i) ≤ 0
  · rw [if_pos c, if_pos c]
  · rw [if_neg c, if_neg c, pup_stc, stc_stc, stc_get]
theorem trM_get3 (ρ : pm) (q : Nat) (t : Int × Int × (Int → Int)) : trM ρ q t q 3 = t.1 := if_pos ⟨rfl, rfl⟩
theorem trM_get4 (ρ : pm) (q : Nat) (t : Int × Int × (Int → Int)) : trM ρ q t q 4 = t.2.1 := by
  unfold trM
  rw [if_neg (by omega), if_pos ⟨rfl, rfl⟩]
theorem trM_way (ρ : pm) (q : Nat) (t : Int × Int × (Int → Int)) : trM ρ q t (q + 2) = t.2.2 := by
  funext j
  unfold trM
  rw [if_neg (by omega), if_neg (by omega), if_pos rfl]
theorem trM_field {ρ : pm} {q : Nat} {t : Int × Int × (Int → Int)} {j : Int} (h3 : j ≠ 3) (h4 : j ≠ 4) : trM ρ q t q j = ρ q j := by
  unfold trM
  rw [if_neg (by omega), if_neg (by omega), if_neg (by omega)]
theorem trM_ne {ρ : pm} {q q' : Nat} {t : Int × Int × (Int → Int)} (h1 : q' ≠ q) (h2 : q' ≠ q + 2) : trM ρ q t q' = ρ q' := by
  funext j
  unfold trM
  rw [if_neg (by omega), if_neg (by omega), if_neg (by omega)]
theorem trM_trM (ρ : pm) (q : Nat) (t t' : Int × Int × (Int → Int)) (h : Int → Int) : trM (stc (trM ρ q t) (q + 1) h) q t' = trM (stc ρ (q + 1) h) q t' := by
  apply trM_step
  intro q' j
  by_cases a1 : q' = q + 2
  · exact Or.inr (Or.inl a1)
  · by_cases a2 : q' = q + 1
    · right; right; rw [a2, stc_get, stc_get]
    · by_cases a3 : q' = q ∧ (j = 3 ∨ j = 4)
      · exact Or.inl a3
      · right; right
        rw [stc_ne a2, stc_ne a2]
        unfold trM
        rw [if_neg (by omega), if_neg (by omega), if_neg (by omega)]
theorem passC {q : Nat} {ρ : pm} {W H y : Int} (hq : 3 < q) (hl : landC ρ W H) (hy : 0 ≤ y ∧ y ≤ 2147483647) (hb : hB 90000 (cutH (ρ (q + 1)) y)) (h0 : 0 ≤ ρ q 5) (h1 : ρ q 5 < W * H) (h7 : ρ q 7 = 0 ∨ ρ q 7 = 1) : ∃ w, f_X2_pass q y ρ = some (trM (stc ρ (q + 1) (passH W H (ρ (q + 1)) (ρ q 5) (ρ q 7) y)) q (bedW W H (passH W H (ρ (q + 1)) (ρ q 5) (ρ q 7) y) (ρ q 5) w)) := by
  have bd := hl.1.bd
  unfold f_X2_pass
  conv => enter [1, w, 1]; rw [← stc_id ρ (q + 1)]
  rw [show fu = 99996 + 1 + 1 + 1 + 1 from rfl, passC_step hy (by omega) (f' := 1) rfl, passC_step hy (by omega) (f' := 2) rfl, passC_step hy (by omega) (f' := 3) rfl]
  change ∃ w, L_X2_pass_2 q _ (99996 + 1) y 3 (stc ρ (q + 1) (cutH (ρ (q + 1)) y)) = _
  obtain ⟨h, eh⟩ : ∃ h, h = cutH (ρ (q + 1)) y := ⟨_, rfl⟩
  obtain ⟨sp, es⟩ : ∃ sp, sp = ρ q 5 := ⟨_, rfl⟩
  rw [← eh] at hb ⊢
  rw [← es] at h0 h1
  have hl1 : landC (stc ρ (q + 1) h) W H := hl.keep (stc_ne (by omega)) (stc_ne (by omega))
  have es1 : stc ρ (q + 1) h q 5 = sp := by rw [stc_ne (by omega), es]
  rw [L_X2_pass_2, ckp (by omega), if_pos (by omega), traceC hq hl1 (by rw [stc_get]; exact hb.ok (by omega)) (by rw [es1]; exact h0) (by rw [es1]; exact h1), Option.bind_some, stc_get, es1, trM_field (by omega) (by omega), stc_ne (by omega), trM_get3]
  rw [stc_ne (by omega : q + 2 ≠ q + 1)]
  obtain ⟨b1, b2, b3, b4, b5⟩ := bedW_ok (h := h) (ρ (q + 2)) hl.1 h0 h1
  rw [← es]
  unfold passH
  rw [← eh, b1]
  have c7 : inR (ρ q 7) := Z_R h7
  rw [ckp c7]
  by_cases c0 : ρ q 7 = 0
  · rw [if_pos c0, if_pos (Or.inl c0)]
    exact ⟨ρ (q + 2), rfl⟩
  · rw [if_neg c0, ckp (by omega)]
    by_cases c4 : (bedT W H h sp).1 < 4
    · rw [if_pos c4, if_pos (Or.inr c4)]
      exact ⟨ρ (q + 2), rfl⟩
    · rw [if_neg c4, if_neg (fun z => z.elim c0 c4)]
      obtain ⟨t, et⟩ : ∃ t, t = bedW W H h sp (ρ (q + 2)) := ⟨_, rfl⟩
      rw [← et] at b1 b2 b3 ⊢
      have w1 := b3 1 (by omega) (by omega)
      have w2 := b3 2 (by omega) (by omega)
      have w3 := b3 3 (by omega) (by omega)
      have w4 := b3 ((bedT W H h sp).1 - 1) (by omega) (by omega)
      have ew : trM (stc ρ (q + 1) h) q t = stc (trM ρ q t) (q + 1) h := by
        funext q' j
        by_cases a2 : q' = q + 1
        · rw [a2, stc_get, trM_ne (by omega) (by omega), stc_get]
        · rw [stc_ne a2]
          unfold trM
          rw [stc_ne a2]
      have tw : trM ρ q t (q + 2) = t.2.2 := trM_way ρ q t
      have s1 := sil1_bd (p := (h, 0)) (c := t.2.2 1) hb (Int.le_refl 0) (by omega)
      have s2 := sil1_bd (c := t.2.2 2) s1.1 s1.2.1 (by omega)
      have s3 := sil1_bd (c := t.2.2 3) s2.1 s2.2.1 (by omega)
      unfold f_X2_carrySilt
      rw [ew, show fu = 99996 + 1 + 1 + 1 + 1 from rfl, siltC_step (p := (h, 0)) (by omega) (i' := 2) rfl (by rw [tw]; omega) (hb.mono (by omega)), tw, siltC_step (by omega) (i' := 3) rfl (by rw [tw]; omega) (s1.1.mono (by omega)), tw, siltC_step (by omega) (i' := 4) rfl (by rw [tw]; omega) (s2.1.mono (by omega)), tw, L_X2_carrySilt_4, ckp (by omega), if_pos (by omega), stc_ne (by omega : q ≠ q + 1), stc_ne (by omega : q + 2 ≠ q + 1), trM_get3, tw, ckp (by omega), b1, ckp (by omega)]
      dsimp only [jn]
      rw [pup_stc, stc_stc, stc_get, Option.bind_some]
      have eh2 : up1 (sil1 (sil1 (sil1 (h, 0) (t.2.2 1)) (t.2.2 2)) (t.2.2 3)).1 (t.2.2 ((bedT W H h sp).1 - 1)) ((sil1 (sil1 (sil1 (h, 0) (t.2.2 1)) (t.2.2 2)) (t.2.2 3)).1 (t.2.2 ((bedT W H h sp).1 - 1)) + (sil1 (sil1 (sil1 (h, 0) (t.2.2 1)) (t.2.2 2)) (t.2.2 3)).2) = silH (bedT W H h sp).2.2 (bedT W H h sp).1 h := by
        unfold silH
        dsimp only
        rw [w1.1, w2.1, w3.1, w4.1]
      rw [eh2]
      have hp := passH_bd (B := 90000) (h := ρ (q + 1)) (sp := sp) (silt := ρ q 7) (y := y) hl.1 h0 h1 (by rw [← eh]; exact hb)
      unfold passH at hp
      rw [← eh, if_neg (fun z => z.elim c0 c4)] at hp
      obtain ⟨h2, e2⟩ : ∃ h2, h2 = silH (bedT W H h sp).2.2 (bedT W H h sp).1 h := ⟨_, rfl⟩
      rw [← e2] at hp ⊢
      have hl2 : landC (stc (trM ρ q t) (q + 1) h2) W H := hl.keep (by rw [stc_ne (by omega), trM_ne (by omega) (by omega)]) (by rw [stc_ne (by omega), trM_ne (by omega) (by omega)])
      have es2 : stc (trM ρ q t) (q + 1) h2 q 5 = sp := by rw [stc_ne (by omega), trM_field (by omega) (by omega), es]
      rw [traceC hq hl2 (by rw [stc_get]; exact hp.ok (by omega)) (by rw [es2]; exact h0) (by rw [es2]; exact h1), Option.bind_some, stc_get, es2, trM_trM]
      exact ⟨_, rfl⟩
