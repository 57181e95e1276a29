/-! the bed: neighbours, the lowest beside, the trace; of the class and of the reference -/
theorem ckp {α : Type} {P : Prop} [Decidable P] {x : Option α} (h : P) : ck P x = x := if_pos h
theorem has_eq {m c : Int} (h : 0 ≤ c ∧ c < 32) : f_X8_has m c = some (bt m c) := by
  unfold f_X8_has
  change (if bt m c = 0 then some 0 else some 1) = _
  rcases bt_01 m c h with e | e <;> rw [e] <;> rfl
theorem bt_zero {c : Int} (h : 0 ≤ c ∧ c < 32) : bt 0 c = 0 := by
  rw [bt_tb h, tb_zero]; rfl
theorem bt_add {b c k : Int} (hc : 0 ≤ c ∧ c < 32) (hk : 0 ≤ k ∧ k < 32) : bt (bor b (bshl 1 c)) k = if k = c then 1 else bt b k := by
  rw [bt_tb hk, bt_tb hk, tb_bor, tb_shl1 hc]
  by_cases e : k = c
  · rw [if_pos e, decide_eq_true (by omega), Bool.or_true]; rfl
  · rw [if_neg e, decide_eq_false (by omega), Bool.or_false]
/-- the cell beside c on a side, -1: none -/
def nbr (W H c s : Int) : Int :=
  if s = 0 then (if c / W ≤ 0 then -1 else c - W) else if s = 1 then (if W ≤ c % W + 1 then -1 else c + 1) else if s = 2 then (if H ≤ c / W + 1 then -1 else c + W) else (if c % W ≤ 0 then -1 else c - 1)
def wh (W H : Int) : Prop := (W = 2 ∨ W = 3 ∨ W = 4 ∨ W = 5) ∧ (H = 2 ∨ H = 3 ∨ H = 4 ∨ H = 5)
theorem wh.bd {W H : Int} (h : wh W H) : 2 ≤ W ∧ W ≤ 5 ∧ 2 ≤ H ∧ H ≤ 5 ∧ 4 ≤ W * H ∧ W * H ≤ 25 := by
  obtain ⟨h1, h2⟩ := h
  rcases h1 with rfl | rfl | rfl | rfl <;> rcases h2 with rfl | rfl | rfl | rfl <;> decide
theorem nbr_bd {W H c : Int} (s : Int) (h : wh W H) (h0 : 0 ≤ c) (h1 : c < W * H) : -1 ≤ nbr W H c s ∧ nbr W H c s < W * H := by
  obtain ⟨e1, e2⟩ := h
  unfold nbr
  rcases e1 with rfl | rfl | rfl | rfl <;> rcases e2 with rfl | rfl | rfl | rfl <;> split <;> (try split) <;> (try split) <;> (try split) <;> omega
/-- one side more looked at -/
def lsel (W H : Int) (h : Int → Int) (b at_ best s : Int) : Int := if 0 ≤ nbr W H at_ s ∧ bt b (nbr W H at_ s) = 0 ∧ h (nbr W H at_ s) ≤ h at_ ∧ (best < 0 ∨ h (nbr W H at_ s) < h best) then nbr W H at_ s else best
def low (W H : Int) (h : Int → Int) (b at_ : Int) : Int := lsel W H h b at_ (lsel W H h b at_ (lsel W H h b at_ (lsel W H h b at_ (-1) 0) 1) 2) 3
/-- none, or a cell out of the bed -/
def fre (W H b x : Int) : Prop := x = -1 ∨ (0 ≤ x ∧ x < W * H ∧ bt b x = 0)
theorem lsel_fre {W H : Int} {h : Int → Int} {b at_ best : Int} (s : Int) (hw : wh W H) (h0 : 0 ≤ at_) (h1 : at_ < W * H) (hb : fre W H b best) : fre W H b (lsel W H h b at_ best s) := by
  unfold lsel
  split
  · rename_i c
    exact Or.inr ⟨c.1, (nbr_bd s hw h0 h1).2, c.2.1⟩
  · exact hb
theorem low_fre {W H : Int} {h : Int → Int} {b at_ : Int} (hw : wh W H) (h0 : 0 ≤ at_) (h1 : at_ < W * H) : fre W H b (low W H h b at_) :=
  lsel_fre 3 hw h0 h1 (lsel_fre 2 hw h0 h1 (lsel_fre 1 hw h0 h1 (lsel_fre 0 hw h0 h1 (Or.inl rfl))))
/-- heights as they may be -/
def hOK (h : Int → Int) : Prop := ∀ c, 0 ≤ c → c < 25 → 0 ≤ h c ∧ h c ≤ 100000
/-- the land of the class: its sides, its neighbours -/
def landC (ρ : pm) (W H : Int) : Prop := wh W H ∧ ρ 1 2 = W ∧ ρ 1 3 = H ∧ ∀ c s, 0 ≤ c → c < W * H → 0 ≤ s → s < 4 → ρ 3 (c * 4 + s) = nbr W H c s
theorem lowC_step {q : Nat} {ρ : pm} {W H at_ best s : Int} {n : Nat} (hl : landC ρ W H) (hh : hOK (ρ (q + 1))) (h0 : 0 ≤ at_) (h1 : at_ < W * H) (hb : best = -1 ∨ (0 ≤ best ∧ best < W * H)) (hs0 : 0 ≤ s) (hs : s < 4) {s' : Int} (es : s + 1 = s') : L_X2_lowestNextTo_4 q ρ (n + 1) at_ best s = L_X2_lowestNextTo_4 q ρ n at_ (lsel W H (ρ (q + 1)) (ρ q 4) at_ best s) s' := by
  subst es
  obtain ⟨hw, hW, hH, hn⟩ := hl
  have bd := hw.bd
  have nb := nbr_bd s hw h0 h1
  have en := hn at_ s h0 h1 hs0 hs
  rw [L_X2_lowestNextTo_4, ckp (by omega), if_neg (by omega), ckp (by omega)]
  dsimp only [jn]
  rw [en, ckp (by omega)]
  unfold lsel
  generalize nbr W H at_ s = c at *
  have ha := hh at_ h0 (by omega)
  by_cases c0 : c < 0
  · rw [if_pos c0, ckp (by decide), if_pos rfl, if_neg (by omega)]
  · have hc := hh c (by omega) (by omega)
    rw [if_neg c0, has_eq (by omega), Option.bind_some]
    rcases bt_01 (ρ q 4) c (by omega) with e | e
    · rw [e, if_pos rfl, ckp (by omega), ckp (by omega), ckp (by omega), ckp (by omega)]
      by_cases c1 : ρ (q + 1) at_ < ρ (q + 1) c
      · rw [if_pos c1, ckp (by decide), if_pos rfl, if_neg (by omega)]
      · rw [if_neg c1, ckp (by decide), if_neg (by decide), ckp (by omega)]
        by_cases c2 : best < 0
        · rw [if_pos c2, if_pos (by omega)]
        · have hbb := hh best (by omega) (by omega)
          rw [if_neg c2, ckp (by omega), ckp (by omega), ckp (by omega), ckp (by omega)]
          by_cases c3 : ρ (q + 1) best ≤ ρ (q + 1) c
          · rw [if_pos c3, if_neg (by omega)]
          · rw [if_neg c3, if_pos (by omega)]
    · rw [e, if_neg (by decide), ckp (by decide), if_pos rfl, if_neg (by omega)]
theorem lowC {q : Nat} {ρ : pm} {W H at_ : Int} (hl : landC ρ W H) (hh : hOK (ρ (q + 1))) (h0 : 0 ≤ at_) (h1 : at_ < W * H) : f_X2_lowestNextTo q at_ ρ = some (low W H (ρ (q + 1)) (ρ q 4) at_) := by
  have f0 : fre W H (ρ q 4) (-1) := Or.inl rfl
  have f1 := lsel_fre (h := ρ (q + 1)) 0 hl.1 h0 h1 f0
  have f2 := lsel_fre (h := ρ (q + 1)) 1 hl.1 h0 h1 f1
  have f3 := lsel_fre (h := ρ (q + 1)) 2 hl.1 h0 h1 f2
  have f4 := lsel_fre (h := ρ (q + 1)) 3 hl.1 h0 h1 f3
  have wk : ∀ x, fre W H (ρ q 4) x → x = -1 ∨ (0 ≤ x ∧ x < W * H) := fun x h => h.elim Or.inl (fun h => Or.inr ⟨h.1, h.2.1⟩)
  unfold f_X2_lowestNextTo
  rw [show fu = 99995 + 1 + 1 + 1 + 1 + 1 from rfl, lowC_step hl hh h0 h1 (wk _ f0) (by omega) (by omega) (s' := 1) rfl, lowC_step hl hh h0 h1 (wk _ f1) (by omega) (by omega) (s' := 2) rfl, lowC_step hl hh h0 h1 (wk _ f2) (by omega) (by omega) (s' := 3) rfl, lowC_step hl hh h0 h1 (wk _ f3) (by omega) (by omega) (s' := 4) rfl, L_X2_lowestNextTo_4, ckp (by omega), if_pos (by omega)]
  rfl
