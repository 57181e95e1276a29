/-! the token before both: the class will read it, the reference has read it -/
def tkC (ρ ρ' : pm) : Prop := (∀ q, q ≠ 50 → ρ' q = ρ q) ∧ ∀ j, (j < 2 ∨ 7 < j) → ρ' 50 j = ρ 50 j
def tkM (τ τ' : pm) : Prop := (∀ q, q ≠ 62 → τ' q = τ q) ∧ ∀ j, (j < 24 ∨ 29 < j) → τ' 62 j = τ 62 j
theorem tkC.refl (ρ : pm) : tkC ρ ρ := ⟨fun _ _ => rfl, fun _ _ => rfl⟩
theorem tkM.refl (τ : pm) : tkM τ τ := ⟨fun _ _ => rfl, fun _ _ => rfl⟩
theorem tkC.trans {a b c : pm} (h : tkC a b) (k : tkC b c) : tkC a c := ⟨fun q hq => by rw [k.1 q hq, h.1 q hq], fun j hj => by rw [k.2 j hj, h.2 j hj]⟩
theorem tkM.trans {a b c : pm} (h : tkM a b) (k : tkM b c) : tkM a c := ⟨fun q hq => by rw [k.1 q hq, h.1 q hq], fun j hj => by rw [k.2 j hj, h.2 j hj]⟩
theorem fv2_bd {B : Int → Int} {s : Int} : ∀ (m : Nat) (a v : Int), s ≤ a → (a = s → v = 0) → (a = s + 1 → 0 ≤ v ∧ v ≤ 9) → 0 ≤ v ∧ v ≤ 99 → 0 ≤ fv2 B s m a v ∧ fv2 B s m a v ≤ 99
  | 0, a, v, _, _, _, h => h
  | m + 1, a, v, h0, h1, h2, h3 => by
    rw [fv2]
    by_cases d : 48 ≤ B a ∧ B a ≤ 57
    · rw [if_pos d]
      by_cases e : 2 ≤ a - s
      · rw [if_pos e]
        exact fv2_bd m (a + 1) v (by omega) (fun z => by omega) (fun z => by omega) h3
      · rw [if_neg e]
        refine fv2_bd m (a + 1) _ (by omega) (fun z => by omega) (fun z => ?_) ?_
        · have := h1 (by omega)
          omega
        · by_cases x : a = s
          · have := h1 x
            omega
          · have := h2 (by omega)
            omega
    · rw [if_neg d]
      exact h3
theorem fig_go {B : Int → Int} {N p : Int} (h : p < N) (d : 48 ≤ B p ∧ B p ≤ 57) : p < fig B (N - p).toNat p := by
  obtain ⟨m, em⟩ : ∃ m, (N - p).toNat = m + 1 := ⟨(N - p).toNat - 1, by omega⟩
  rw [em, fig, if_pos d]
  have := (fig_le (B := B) m (p + 1)).1
  omega
theorem ltr_go {B : Int → Int} {N p : Int} (h : p < N) (d : 97 ≤ B p ∧ B p ≤ 122) : p < ltr B (N - p).toNat p := by
  obtain ⟨m, em⟩ : ∃ m, (N - p).toNat = m + 1 := ⟨(N - p).toNat - 1, by omega⟩
  rw [em, ltr, if_pos d]
  have := (ltr_le (B := B) m (p + 1)).1
  omega
def BadR (ρ τ : pm) : Prop := (1 ≤ ρ 50 6 ∧ ρ 50 6 ≤ 6) ∧ (1 ≤ τ 62 28 ∧ τ 62 28 ≤ 6) ∧ τ 62 29 = ρ 50 7 ∧ 0 ≤ ρ 50 7 ∧ ρ 50 7 ≤ 320
def TokR (ρ τ : pm) : Prop := ρ 50 6 = 0 ∧ τ 62 28 = 0 ∧ τ 62 26 = ρ 50 3 ∧ τ 62 24 = ρ 50 2 ∧ τ 62 25 = ρ 50 4 ∧ (0 ≤ ρ 50 3 ∧ ρ 50 3 ≤ 3) ∧ (0 ≤ ρ 50 4 ∧ ρ 50 4 ≤ ρ 50 2 ∧ ρ 50 2 ≤ ρ 50 1) ∧ (ρ 50 3 ≠ 0 → ρ 50 4 < ρ 50 2) ∧ (ρ 50 3 = 0 → ρ 50 4 = ρ 50 1) ∧ (ρ 50 3 = 2 → τ 62 27 = ρ 50 5 ∧ 0 ≤ ρ 50 5 ∧ ρ 50 5 ≤ 99)
def AhR (ρ τ : pm) : Prop := TpR ρ τ ∧ ρ 50 6 = 0 ∧ (0 ≤ ρ 50 2 ∧ ρ 50 2 ≤ ρ 50 1) ∧ τ 62 25 = spc (τ 70) (ρ 50 1 - ρ 50 2).toNat (ρ 50 2) ∧ TkM (τ 70) (ρ 50 1) (spc (τ 70) (ρ 50 1 - ρ 50 2).toNat (ρ 50 2)) τ
theorem BadR.keep {ρ τ ρ' τ' : pm} (h : BadR ρ τ) (e6 : ρ' 50 6 = ρ 50 6) (e7 : ρ' 50 7 = ρ 50 7) (m8 : τ' 62 28 = τ 62 28) (m9 : τ' 62 29 = τ 62 29) : BadR ρ' τ' := by
  unfold BadR
  rw [e6, e7, m8, m9]
  exact h
theorem AhR.keep {ρ τ ρ' τ' : pm} (h : AhR ρ τ) (e0 : ρ' 50 = ρ 50) (e1 : ρ' 51 = ρ 51) (m : ∀ j, 23 ≤ j → j ≤ 29 → τ' 62 j = τ 62 j) (m2 : τ' 70 = τ 70) : AhR ρ' τ' := by
  unfold AhR TkM
  obtain ⟨a1, a2, a3, a4, a5⟩ := h
  unfold TkM at a5
  rw [e0, m2, m 24 (by omega) (by omega), m 25 (by omega) (by omega), m 26 (by omega) (by omega), m 27 (by omega) (by omega), m 28 (by omega) (by omega), m 29 (by omega) (by omega)]
  exact ⟨a1.keep (by rw [e0]) e1 (m 23 (by omega) (by omega)) m2, a2, a3, a4, a5⟩
theorem TokR.keep {ρ τ ρ' τ' : pm} (h : TokR ρ τ) (e0 : ρ' 50 = ρ 50) (m : ∀ j, 23 ≤ j → j ≤ 29 → τ' 62 j = τ 62 j) : TokR ρ' τ' := by
  unfold TokR
  rw [e0, m 24 (by omega) (by omega), m 25 (by omega) (by omega), m 26 (by omega) (by omega), m 27 (by omega) (by omega), m 28 (by omega) (by omega)]
  exact h
theorem tk_same {B : Int → Int} {N p : Int} {ρ τ : pm} (hp : 0 ≤ p ∧ p ≤ N ∧ N ≤ 320) (eN : ρ 50 1 = N) (c4 : ρ 50 4 = p) (m4 : τ 62 25 = p) (c5 : TkC B N p ρ) (m5 : TkM B N p τ) : (BadR ρ τ ∧ τ 62 28 = 1) ∨ TokR ρ τ := by
  have sv := fv_same (B := B) (s := p) (N - p).toNat p 0 (Int.le_refl _)
  have fb := fv2_bd (B := B) (s := p) (N - p).toNat p 0 (Int.le_refl _) (fun _ => rfl) (fun _ => by omega) (by omega)
  have fl := fig_le (B := B) (N - p).toNat p
  have ll := ltr_le (B := B) (N - p).toNat p
  have fg := fig_go (B := B) (N := N) (p := p)
  have lg := ltr_go (B := B) (N := N) (p := p)
  unfold TkC at c5
  unfold TkM at m5
  unfold TokR BadR
  rw [eN, c4, m4]
  rcases c5 with ⟨x1, x2, x3, x4⟩ | ⟨x1, x2, x3, x4, x5⟩ | ⟨x1, x2, x3, x4, x5, x6, x7⟩ | ⟨x1, x2, x3, x4, x5⟩ | ⟨x1, x2, x3, x4⟩
  · rcases m5 with ⟨y1, y2, y3, y4⟩ | ⟨y1, y2, y3, y4, y5⟩ | ⟨y1, y2, y3, y4, y5, y6, y7⟩ | ⟨y1, y2, y3, y4, y5⟩ | ⟨y1, y2, y3, y4⟩
    · exact Or.inr ⟨x2, y2, by omega, by omega, rfl, by omega, by omega, fun z => by omega, fun z => by omega, fun z => by omega⟩
    all_goals exfalso; omega
  · rcases m5 with ⟨y1, y2, y3, y4⟩ | ⟨y1, y2, y3, y4, y5⟩ | ⟨y1, y2, y3, y4, y5, y6, y7⟩ | ⟨y1, y2, y3, y4, y5⟩ | ⟨y1, y2, y3, y4⟩
    · exfalso; omega
    · have := lg x1 x2
      exact Or.inr ⟨x3, y3, by omega, by omega, rfl, by omega, by omega, fun z => by omega, fun z => by omega, fun z => by omega⟩
    all_goals exfalso; omega
  · rcases m5 with ⟨y1, y2, y3, y4⟩ | ⟨y1, y2, y3, y4, y5⟩ | ⟨y1, y2, y3, y4, y5, y6, y7⟩ | ⟨y1, y2, y3, y4, y5⟩ | ⟨y1, y2, y3, y4⟩
    · exfalso; omega
    · exfalso; omega
    · have := fg x1 x2
      have e := sv (by omega)
      refine Or.inr ⟨x4, y4, by omega, by omega, rfl, by omega, by omega, fun z => by omega, fun z => by omega, fun _ => ?_⟩
      rw [x7, e, y7]
      exact ⟨rfl, fb⟩
    all_goals exfalso; omega
  · rcases m5 with ⟨y1, y2, y3, y4⟩ | ⟨y1, y2, y3, y4, y5⟩ | ⟨y1, y2, y3, y4, y5, y6, y7⟩ | ⟨y1, y2, y3, y4, y5⟩ | ⟨y1, y2, y3, y4⟩
    · exfalso; omega
    · exfalso; omega
    · exfalso; omega
    · exact Or.inr ⟨x3, y3, by omega, by omega, rfl, by omega, by omega, fun z => by omega, fun z => by omega, fun z => by omega⟩
    · exfalso; omega
  · rcases m5 with ⟨y1, y2, y3, y4⟩ | ⟨y1, y2, y3, y4, y5⟩ | ⟨y1, y2, y3, y4, y5, y6, y7⟩ | ⟨y1, y2, y3, y4, y5⟩ | ⟨y1, y2, y3, y4⟩
    · exfalso; omega
    · exfalso; omega
    · exfalso; omega
    · exfalso; omega
    · exact Or.inl ⟨⟨by omega, by omega, by omega, by omega, by omega⟩, y3⟩
theorem AhR.next {ρ τ : pm} (h : AhR ρ τ) : ∃ ρ', f_X6_next ρ = some ρ' ∧ tkC ρ ρ' ∧ TpR ρ' τ ∧ ρ 50 2 ≤ ρ' 50 4 ∧ ((BadR ρ' τ ∧ τ 62 28 = 1) ∨ TokR ρ' τ) := by
  obtain ⟨tp, a2, a3, a4, a5⟩ := h
  obtain ⟨ρ', c1, c2, c3, c4, c5⟩ := nextC tp a2 rfl a3
  have sl := spc_le (B := τ 70) (ρ 50 1 - ρ 50 2).toNat (ρ 50 2)
  have t1 := tp.1
  refine ⟨ρ', c1, ⟨c2, c3⟩, tp.keep (c3 1 (by omega)) (c2 51 (by omega)) rfl rfl, by omega, tk_same (N := ρ 50 1) (p := spc (τ 70) (ρ 50 1 - ρ 50 2).toNat (ρ 50 2)) (B := τ 70) ⟨by omega, by omega, by omega⟩ (c3 1 (by omega)) c4 a4 c5 a5⟩
theorem TokR.next {ρ τ : pm} (h : TokR ρ τ) (tp : TpR ρ τ) : ∃ τ', f_X9_next τ = some τ' ∧ tkM τ τ' ∧ AhR ρ τ' := by
  obtain ⟨b1, b2, b3, b4, b5, b6, b7, b8, b9, b10⟩ := h
  obtain ⟨τ', m1, m2, m3, m4, m5⟩ := nextM (a := ρ 50 2) tp b2 b4 ⟨by omega, by omega⟩
  refine ⟨τ', m1, ⟨m2, m3⟩, tp.keep rfl rfl (m3 23 (by omega)) (m2 70 (by omega)), b1, ⟨by omega, by omega⟩, ?_, ?_⟩
  · rw [m2 70 (by omega)]; exact m4
  · rw [m2 70 (by omega)]; exact m5
theorem bad_next {τ : pm} (h : 1 ≤ τ 62 28 ∧ τ 62 28 ≤ 6) : f_X9_next τ = some τ := by
  unfold f_X9_next
  rw [ckp (show inR (τ 62 28) from ⟨by omega, by omega⟩), if_neg (by omega)]
theorem bad_looked {τ : pm} {lo hi : Int} (h : 1 ≤ τ 62 28 ∧ τ 62 28 ≤ 6) : f_X9_looked lo hi τ = some (0, τ) := by
  have hR : inR (τ 62 28) := ⟨by omega, by omega⟩
  unfold f_X9_looked
  dsimp only [jn]
  rw [ckp hR, if_neg (by omega), ckp hR, if_neg (by omega), ckp hR, if_neg (by omega)]
theorem bad_read {τ : pm} {lo hi : Int} (h : 1 ≤ τ 62 28 ∧ τ 62 28 ≤ 6) : f_X9_readNumber lo hi τ = some (0, τ) := by
  unfold f_X9_readNumber
  rw [bad_looked h, bn2_of, bad_next h, Option.bind_some]
theorem bad_isNumber {ρ : pm} {lo hi : Int} (h : 1 ≤ ρ 50 6 ∧ ρ 50 6 ≤ 6) : f_X6_isNumber lo hi ρ = some (0, ρ) := by
  have hR : inR (ρ 50 6) := ⟨by omega, by omega⟩
  unfold f_X6_isNumber
  dsimp only [jn]
  rw [ckp hR, if_neg (by omega), ckp hR, if_neg (by omega), ckp hR, if_neg (by omega)]
theorem bad_needs {τ : pm} {l c : Int} (hl : inR l) (h : 1 ≤ τ 62 28 ∧ τ 62 28 ≤ 6) : f_X9_needs l c τ = some τ := by
  unfold f_X9_needs
  rw [ckp hl]
  by_cases e : l = 0
  · rw [if_pos e, ckp (show inR (τ 62 28) from ⟨by omega, by omega⟩), if_neg (by omega)]
  · rw [if_neg e]
/-- both find a fault at the token -/
theorem TokR.fails {ρ τ : pm} {c d : Int} (h : TokR ρ τ) (tp : TpR ρ τ) (hc : 1 ≤ c ∧ c ≤ 6) (hd : 1 ≤ d ∧ d ≤ 6) : BadR (pup (pup ρ 50 6 c) 50 7 (ρ 50 4)) (pup (pup τ 62 28 d) 62 29 (τ 62 25)) := by
  obtain ⟨b1, b2, b3, b4, b5, b6, b7, b8, b9, b10⟩ := h
  have t1 := tp.1
  unfold BadR
  rw [pup_off (by omega), pup_at, pup_at, pup_off (by omega), pup_at, pup_at]
  omega
theorem tk_failC (ρ : pm) (c v : Int) : tkC ρ (pup (pup ρ 50 6 c) 50 7 v) := ⟨fun q hq => by rw [pup_ne hq, pup_ne hq], fun j hj => by rw [pup_off (by omega), pup_off (by omega)]⟩
theorem tk_failM (τ : pm) (c v : Int) : tkM τ (pup (pup τ 62 28 c) 62 29 v) := ⟨fun q hq => by rw [pup_ne hq, pup_ne hq], fun j hj => by rw [pup_off (by omega), pup_off (by omega)]⟩
theorem TokR.number {ρ τ : pm} {lo hi : Int} (h : TokR ρ τ) (tp : TpR ρ τ) (hl : inR lo) (hh : inR hi) : ∃ v ρ1 w τ1, f_X6_isNumber lo hi ρ = some (v, ρ1) ∧ f_X9_looked lo hi τ = some (w, τ1) ∧ tkC ρ ρ1 ∧ tkM τ τ1 ∧ τ1 62 26 = τ 62 26 ∧ ((v = 0 ∧ w = 0 ∧ BadR ρ1 τ1) ∨ (v = 1 ∧ ρ1 = ρ ∧ τ1 = τ ∧ w = ρ 50 5 ∧ ρ 50 3 = 2 ∧ lo ≤ ρ 50 5 ∧ ρ 50 5 ≤ hi)) := by
  have hf := fun (c : Int) (hc : 1 ≤ c ∧ c ≤ 6) => h.fails tp hc hc
  obtain ⟨b1, b2, b3, b4, b5, b6, b7, b8, b9, b10⟩ := h
  have r3 : inR (ρ 50 3) := ⟨by omega, by omega⟩
  have hL : ∀ {x : Int}, inR x → inL x := fun z => ⟨by have := z.1; omega, by have := z.2; omega⟩
  by_cases k : ρ 50 3 = 2
  · obtain ⟨c1, c2, c3⟩ := b10 k
    have r5 : inR (ρ 50 5) := ⟨by omega, by omega⟩
    by_cases i : lo ≤ ρ 50 5 ∧ ρ 50 5 ≤ hi
    · refine ⟨1, ρ, ρ 50 5, τ, ?_, ?_, tkC.refl _, tkM.refl _, rfl, Or.inr ⟨rfl, rfl, rfl, rfl, k, i.1, i.2⟩⟩
      · unfold f_X6_isNumber
        dsimp only [jn]
        rw [b1, ckp R_0, i00, ckp r3, if_pos k, ckp R_0, i00, ckp r5, ckp hl, if_neg (by omega), ckp hh, if_pos i.2, ckp R_0, i00]
      · unfold f_X9_looked
        dsimp only [jn]
        rw [b2, ckp R_0, i00, b3, ckp r3, if_pos k, needs_ok (by decide) (by decide), Option.bind_some, b2, ckp R_0, i00, c1, ckp r5, ckp hl, ckp hh, in_yes (hL r5) (hL hl) (hL hh) i, Option.bind_some, needs_ok (by decide) (by decide), Option.bind_some, b2, ckp R_0, i00, c1]
    · refine ⟨0, pup (pup ρ 50 6 3) 50 7 (ρ 50 4), 0, pup (pup τ 62 28 3) 62 29 (τ 62 25), ?_, ?_, tk_failC _ _ _, tk_failM _ _ _, by rw [pup_off (by omega), pup_off (by omega)], Or.inl ⟨rfl, rfl, hf 3 (by omega)⟩⟩
      · unfold f_X6_isNumber
        dsimp only [jn]
        rw [b1, ckp R_0, i00, ckp r3, if_pos k, ckp R_0, i00, ckp r5, ckp hl]
        by_cases j : ρ 50 5 < lo
        · rw [if_pos j, fail_eq, Option.bind_some, pup_off (by omega), pup_at, ckp (by decide), if_neg (by decide)]
        · rw [if_neg j, ckp hh, if_neg (by omega), fail_eq, Option.bind_some, pup_off (by omega), pup_at, ckp (by decide), if_neg (by decide)]
      · unfold f_X9_looked
        dsimp only [jn]
        rw [b2, ckp R_0, i00, b3, ckp r3, if_pos k, needs_ok (by decide) (by decide), Option.bind_some, b2, ckp R_0, i00, c1, ckp r5, ckp hl, ckp hh, in_no (hL r5) (hL hl) (hL hh) i, Option.bind_some, needs_no b2, Option.bind_some, pup_off (by omega), pup_at, ckp (by decide), if_neg (by decide)]
  · refine ⟨0, pup (pup ρ 50 6 2) 50 7 (ρ 50 4), 0, pup (pup τ 62 28 2) 62 29 (τ 62 25), ?_, ?_, tk_failC _ _ _, tk_failM _ _ _, by rw [pup_off (by omega), pup_off (by omega)], Or.inl ⟨rfl, rfl, hf 2 (by omega)⟩⟩
    · unfold f_X6_isNumber
      dsimp only [jn]
      rw [b1, ckp R_0, i00, ckp r3, if_neg k, fail_eq, Option.bind_some]
      rw [pup_off (by omega), pup_at, ckp (by decide), if_neg (by decide), ckp (by decide), if_neg (by decide)]
    · unfold f_X9_looked
      dsimp only [jn]
      rw [b2, ckp R_0, i00, b3, ckp r3, if_neg k, needs_no b2, Option.bind_some]
      rw [pup_off (by omega), pup_at, ckp (by decide), if_neg (by decide), ckp (by decide), if_neg (by decide)]
theorem AhR.kind {ρ τ : pm} (h : AhR ρ τ) : 0 ≤ τ 62 26 ∧ τ 62 26 ≤ 3 := by
  obtain ⟨a1, a2, a3, a4, a5⟩ := h
  unfold TkM at a5
  generalize spc (τ 70) (ρ 50 1 - ρ 50 2).toNat (ρ 50 2) = p at a5
  rcases a5 with x | x | x | x | x
  · omega
  · have := x.2.2.2.1; omega
  · have := x.2.2.2.2.1; omega
  · have := x.2.2.2.1; omega
  · exact x.2.2.2.2
