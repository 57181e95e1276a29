/-! the reference's bed -/
def landM (τ : pm) (W H : Int) : Prop := wh W H ∧ τ 62 2 = W ∧ τ 62 3 = H
theorem tdiv_pos {a b : Int} (ha : 0 ≤ a) : Int.tdiv a b = a / b := Int.tdiv_eq_ediv_of_nonneg ha
theorem tmod_pos {a b : Int} (ha : 0 ≤ a) : Int.tmod a b = a % b := Int.tmod_eq_emod_of_nonneg ha
/-- what the reference says where there is none -/
def n4 (x : Int) : Int := if x = -1 then -4 else x
theorem besideM {τ : pm} {W H c s : Int} (hl : landM τ W H) (h0 : 0 ≤ c) (h1 : c < W * H) (hs0 : 0 ≤ s) (hs : s < 4) : f_X9_beside c s τ = some (n4 (nbr W H c s)) := by
  obtain ⟨hw, hW, hH⟩ := hl
  have bd := hw.bd
  have k1 : 0 ≤ c / W ∧ c / W ≤ 25 ∧ 0 ≤ c % W ∧ c % W < W ∧ (0 < c / W → W ≤ c) ∧ (0 < c % W → 1 ≤ c) := by
    obtain ⟨e1, -⟩ := hw
    rcases e1 with rfl | rfl | rfl | rfl <;> omega
  unfold f_X9_beside
  rw [hW, hH, tdiv_pos h0, tmod_pos h0, ckp (by omega), ckp (by omega), ckp (by omega)]
  dsimp only [jn]
  rw [ckp (by omega)]
  have hs' : s = 0 ∨ s = 1 ∨ s = 2 ∨ s = 3 := by omega
  unfold n4
  rcases hs' with rfl | rfl | rfl | rfl
  · rw [show nbr W H c 0 = if c / W ≤ 0 then -1 else c - W from rfl, if_pos rfl, ckp (by omega)]
    by_cases e : c / W ≤ 0
    · rw [if_pos e, if_pos e, if_pos rfl]
    · rw [if_neg e, if_neg e, if_neg (by omega)]
  · rw [show nbr W H c 1 = if W ≤ c % W + 1 then -1 else c + 1 from rfl, if_neg (by decide : ¬ (1 : Int) = 0), if_pos rfl, ckp (by omega)]
    by_cases e : W ≤ c % W + 1
    · rw [if_pos e, if_pos e, if_pos rfl]
    · rw [if_neg e, if_neg e, if_neg (by omega)]
  · rw [show nbr W H c 2 = if H ≤ c / W + 1 then -1 else c + W from rfl, if_neg (by decide : ¬ (2 : Int) = 0), if_neg (by decide : ¬ (2 : Int) = 1), if_pos rfl, ckp (by omega), ckp (by omega)]
    by_cases e : H ≤ c / W + 1
    · rw [if_pos e, if_pos e, if_pos rfl]
    · rw [if_neg e, if_neg e, if_neg (by omega)]
  · rw [show nbr W H c 3 = if c % W ≤ 0 then -1 else c - 1 from rfl, if_neg (by decide : ¬ (3 : Int) = 0), if_neg (by decide : ¬ (3 : Int) = 1), if_neg (by decide : ¬ (3 : Int) = 2), ckp (by omega)]
    by_cases e : c % W ≤ 0
    · rw [if_pos e, if_pos e, if_pos rfl]
    · rw [if_neg e, if_neg e, if_neg (by omega)]
theorem lowM_step {τ : pm} {W H at_ best s : Int} {n : Nat} (hl : landM τ W H) (hh : hOK (τ 63)) (h0 : 0 ≤ at_) (h1 : at_ < W * H) (hb : best = -1 ∨ (0 ≤ best ∧ best < W * H)) (hs0 : 0 ≤ s) (hs : s < 4) {s' : Int} (es : s + 1 = s') : L_X9_lowestBeside_5 τ (n + 1) at_ (n4 best) s = L_X9_lowestBeside_5 τ n at_ (n4 (lsel W H (τ 63) (τ 62 32) at_ best s)) s' := by
  subst es
  have bd := hl.1.bd
  have nb := nbr_bd s hl.1 h0 h1
  rw [L_X9_lowestBeside_5, ckp (by omega), if_neg (by omega), besideM hl h0 h1 hs0 hs, Option.bind_some]
  dsimp only [jn]
  unfold lsel
  generalize nbr W H at_ s = c at *
  have ha := hh at_ h0 (by omega)
  by_cases c0 : c = -1
  · rw [show n4 c = -4 from if_pos c0, ckp (by decide), if_pos rfl, ckp (by decide), if_pos rfl, if_neg (by omega)]
  · have hc := hh c (by omega) (by omega)
    rw [show n4 c = c from if_neg c0, ckp (by omega), if_neg (by omega)]
    change (if bt (τ 62 32) c = 0 then _ else _) = _
    rcases bt_01 (τ 62 32) c (by omega) with e | e
    · rw [e, if_pos rfl, ckp (by omega), ckp (by omega), ckp (by omega), ckp (by omega)]
      by_cases c1 : τ 63 at_ < τ 63 c
      · rw [if_pos c1, ckp (by decide), if_pos rfl, if_neg (by omega)]
      · rw [if_neg c1, ckp (by decide), if_neg (by decide)]
        by_cases c2 : best = -1
        · rw [show n4 best = -4 from if_pos c2, ckp (by decide), if_pos rfl, if_pos (by omega), show n4 c = c from if_neg c0]
        · have hbb := hh best (by omega) (by omega)
          rw [show n4 best = best from if_neg c2, ckp (by omega), if_neg (by omega), ckp (by omega), ckp (by omega), ckp (by omega), ckp (by omega)]
          by_cases c3 : τ 63 best ≤ τ 63 c
          · rw [if_pos c3, if_neg (by omega), show n4 best = best from if_neg c2]
          · rw [if_neg c3, if_pos (by omega), show n4 c = c from if_neg c0]
    · rw [e, if_neg (by decide), ckp (by decide), if_pos rfl, if_neg (by omega)]
theorem lowM {τ : pm} {W H at_ : Int} (hl : landM τ W H) (hh : hOK (τ 63)) (h0 : 0 ≤ at_) (h1 : at_ < W * H) : f_X9_lowestBeside at_ τ = some (n4 (low W H (τ 63) (τ 62 32) at_)) := by
  have f0 : fre W H (τ 62 32) (-1) := Or.inl rfl
  have f1 := lsel_fre (h := τ 63) 0 hl.1 h0 h1 f0
  have f2 := lsel_fre (h := τ 63) 1 hl.1 h0 h1 f1
  have f3 := lsel_fre (h := τ 63) 2 hl.1 h0 h1 f2
  have wk : ∀ x, fre W H (τ 62 32) x → x = -1 ∨ (0 ≤ x ∧ x < W * H) := fun x h => h.elim Or.inl (fun h => Or.inr ⟨h.1, h.2.1⟩)
  unfold f_X9_lowestBeside
  rw [show fu = 99995 + 1 + 1 + 1 + 1 + 1 from rfl, show (-4 : Int) = n4 (-1) from rfl, lowM_step hl hh h0 h1 (wk _ f0) (by omega) (by omega) (s' := 1) rfl, lowM_step hl hh h0 h1 (wk _ f1) (by omega) (by omega) (s' := 2) rfl, lowM_step hl hh h0 h1 (wk _ f2) (by omega) (by omega) (s' := 3) rfl, lowM_step hl hh h0 h1 (wk _ f3) (by omega) (by omega) (s' := 4) rfl, L_X9_lowestBeside_5, ckp (by omega), if_pos (by omega)]
  rfl
def trN (τ : pm) (t : Int × Int × (Int → Int)) : pm := fun q' j => if q' = 62 ∧ j = 31 then t.1 else if q' = 62 ∧ j = 32 then t.2.1 else if q' = 71 then t.2.2 j else τ q' j
theorem trN_id {ρ : pm} {len b : Int} {w : Int → Int} (h1 : ρ 62 31 = len) (h2 : ρ 62 32 = b) (h3 : ρ 71 = w) : trN ρ (len, b, w) = ρ := by
  funext q' j
  unfold trN
  dsimp only
  by_cases c1 : q' = 62 ∧ j = 31
  · rw [if_pos c1, c1.1, c1.2, h1]
  · rw [if_neg c1]
    by_cases c2 : q' = 62 ∧ j = 32
    · rw [if_pos c2, c2.1, c2.2, h2]
    · rw [if_neg c2]
      by_cases c3 : q' = 71
      · rw [if_pos c3, c3, h3]
      · rw [if_neg c3]
theorem trN_step {ρ ρ' : pm} {t : Int × Int × (Int → Int)} (h : ∀ q' j, (q' = 62 ∧ (j = 31 ∨ j = 32)) ∨ q' = 71 ∨ ρ' q' j = ρ q' j) : trN ρ' t = trN ρ t := by
  funext q' j
  unfold trN
  by_cases c1 : q' = 62 ∧ j = 31
  · rw [if_pos c1, if_pos c1]
  · rw [if_neg c1, if_neg c1]
    by_cases c2 : q' = 62 ∧ j = 32
    · rw [if_pos c2, if_pos c2]
    · rw [if_neg c2, if_neg c2]
      by_cases c3 : q' = 71
      · rw [if_pos c3, if_pos c3]
      · rw [if_neg c3, if_neg c3]
        rcases h q' j with h | h | h
        · omega
        · omega
        · exact h
theorem bedM_loop {W H : Int} : ∀ (m n : Nat) (τ : pm) (at_ : Int), landM τ W H → hOK (τ 63) → m + 1 ≤ n → τ 62 31 = 25 - (m : Int) → fr (τ 62 32) = (m : Int) → m ≤ 25 → fre W H (τ 62 32) at_ → L_X9_findBed_18 n (n4 at_) τ = some (trN τ (trc W H (τ 63) m at_ (τ 62 31) (τ 62 32) (τ 71))) := by
  intro m
  induction m with
  | zero =>
    intro n τ at_ hl hh hn hlen hfr hm hat
    obtain ⟨k, rfl⟩ : ∃ k, n = k + 1 := ⟨n - 1, by omega⟩
    have bd := hl.1.bd
    rcases hat with rfl | ⟨a1, a2, a3⟩
    · rw [show n4 (-1) = -4 from rfl, L_X9_findBed_18, ckp (by decide), if_pos rfl]
      unfold trc
      rw [trN_id rfl rfl rfl]
    · have := fr_pos (b := τ 62 32) (c := at_) (by omega) a3
      omega
  | succ m ih =>
    intro n τ at_ hl hh hn hlen hfr hm hat
    obtain ⟨k, rfl⟩ : ∃ k, n = k + 1 := ⟨n - 1, by omega⟩
    have bd := hl.1.bd
    rcases hat with rfl | ⟨a1, a2, a3⟩
    · rw [show n4 (-1) = -4 from rfl, L_X9_findBed_18, ckp (by decide), if_pos rfl]
      unfold trc
      rw [if_pos (by decide), trN_id rfl rfl rfl]
    · unfold trc
      rw [if_neg (by omega), show n4 at_ = at_ from if_neg (by omega), L_X9_findBed_18, ckp (by omega), if_neg (by omega), ckp (by omega)]
      dsimp only [jn]
      have e1 : ∀ x, pup τ 71 (τ 62 31) x 62 31 = τ 62 31 := fun x => if_neg (by omega)
      rw [e1]
      obtain ⟨τ3, h3⟩ : ∃ τ3, τ3 = pup (pup (pup τ 71 (τ 62 31) at_) 62 31 (τ 62 31 + 1)) 62 32 (bor (pup (pup τ 71 (τ 62 31) at_) 62 31 (τ 62 31 + 1) 62 32) (bshl 1 at_)) := ⟨_, rfl⟩
      rw [← h3]
      have g4 : τ3 62 32 = bor (τ 62 32) (bshl 1 at_) := by
        rw [h3]; unfold pup; rw [if_pos ⟨rfl, rfl⟩, if_neg (by omega), if_neg (by omega)]
      have g3 : τ3 62 31 = τ 62 31 + 1 := by
        rw [h3]; unfold pup; rw [if_neg (by omega), if_pos ⟨rfl, rfl⟩]
      have gw : τ3 71 = fun j => if j = τ 62 31 then at_ else τ 71 j := by
        funext j
        rw [h3]; unfold pup; rw [if_neg (by omega), if_neg (by omega)]
        by_cases c1 : j = τ 62 31
        · rw [if_pos ⟨rfl, c1⟩, if_pos c1]
        · rw [if_neg (fun z => c1 z.2), if_neg c1]
      have go : ∀ q' j, (q' ≠ 62 ∨ (j ≠ 31 ∧ j ≠ 32)) → q' ≠ 71 → τ3 q' j = τ q' j := by
        intro q' j a1 a2
        rw [h3]; unfold pup; rw [if_neg (by omega), if_neg (by omega), if_neg (by omega)]
      have gh : τ3 63 = τ 63 := funext fun j => go _ _ (by omega) (by omega)
      have hl3 : landM τ3 W H := ⟨hl.1, by rw [go _ _ (by omega) (by omega)]; exact hl.2.1, by rw [go _ _ (by omega) (by omega)]; exact hl.2.2⟩
      have hh3 : hOK (τ3 63) := by rw [gh]; exact hh
      rw [lowM hl3 hh3 (by omega) (by omega), Option.bind_some, ih k τ3 _ hl3 hh3 (by omega) (by rw [g3]; omega) (by rw [g4, fr_add (by omega) a3]; omega) (by omega) (low_fre hl.1 a1 a2), gh, g3, g4, gw]
      refine congrArg some (trN_step ?_)
      intro q' j
      by_cases b1 : q' = 71
      · exact Or.inr (Or.inl b1)
      · by_cases b2 : q' = 62 ∧ (j = 31 ∨ j = 32)
        · exact Or.inl b2
        · exact Or.inr (Or.inr (go q' j (by omega) b1))
theorem findBedM {τ : pm} {W H : Int} (hl : landM τ W H) (hh : hOK (τ 63)) (h0 : 0 ≤ τ 63 25) (h1 : τ 63 25 < W * H) : f_X9_findBed τ = some (trN τ (bedW W H (τ 63) (τ 63 25) (τ 71))) := by
  unfold f_X9_findBed
  dsimp only [jn]
  obtain ⟨τ2, h2⟩ : ∃ τ2, τ2 = pup (pup τ 62 31 0) 62 32 0 := ⟨_, rfl⟩
  rw [← h2]
  have g3 : τ2 62 31 = 0 := by rw [h2]; unfold pup; rw [if_neg (by omega), if_pos ⟨rfl, rfl⟩]
  have g4 : τ2 62 32 = 0 := by rw [h2]; unfold pup; rw [if_pos ⟨rfl, rfl⟩]
  have go : ∀ q' j, (q' ≠ 62 ∨ (j ≠ 31 ∧ j ≠ 32)) → τ2 q' j = τ q' j := by
    intro q' j a1
    rw [h2]; unfold pup; rw [if_neg (by omega), if_neg (by omega)]
  have gh : τ2 63 = τ 63 := funext fun j => go _ _ (by omega)
  have gw : τ2 71 = τ 71 := funext fun j => go _ _ (by omega)
  have bd := hl.1.bd
  have hl2 : landM τ2 W H := ⟨hl.1, by rw [go _ _ (by omega)]; exact hl.2.1, by rw [go _ _ (by omega)]; exact hl.2.2⟩
  have e4 : τ2 63 25 = n4 (τ2 63 25) := by rw [gh]; exact (if_neg (by omega)).symm
  rw [e4, bedM_loop 25 fu τ2 _ hl2 (by rw [gh]; exact hh) (by decide) (by rw [g3]; rfl) (by rw [g4, fr_zero]; rfl) (by omega) (by rw [gh, g4]; exact Or.inr ⟨h0, h1, bt_zero (by omega)⟩), gh, g3, g4, gw]
  refine congrArg some (trN_step ?_)
  intro q' j
  by_cases a3 : q' = 62 ∧ (j = 31 ∨ j = 32)
  · exact Or.inl a3
  · exact Or.inr (Or.inr (go q' j (by omega)))
