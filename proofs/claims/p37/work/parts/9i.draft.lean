/-! a draft under way, of both -/
def DsR (ρ τ : pm) : Prop := ((2 ≤ ρ 52 4 ∧ ρ 52 4 ≤ 5) ∧ τ 62 6 = ρ 52 4) ∧ (2 ≤ ρ 52 5 ∧ ρ 52 5 ≤ 5) ∧ τ 62 7 = ρ 52 5
def DlR (ρ τ : pm) : Prop := (0 ≤ ρ 52 7 ∧ ρ 52 7 ≤ 2) ∧ τ 62 10 = ρ 52 7
def DcR (ρ τ : pm) : Prop := (0 ≤ ρ 52 9 ∧ ρ 52 9 < 16) ∧ τ 62 16 = ρ 52 9 ∧ τ 62 11 = (if band (ρ 52 9) 8 = 0 then 0 else 1) ∧ (band (ρ 52 9) 2 = 0 → ρ 52 6 = 0)
def DwR (ρ τ : pm) : Prop := (0 ≤ ρ 52 8 ∧ ρ 52 8 ≤ 3) ∧ τ 62 9 = ρ 52 8 ∧ ∀ f, 0 ≤ f → f < 3 → τ 67 f = ρ 56 f ∧ 0 ≤ ρ 56 f ∧ ρ 56 f ≤ 9
def DyR (ρ τ : pm) : Prop := (∀ j, 0 ≤ j → j < 25 → τ 66 j = ρ 53 j ∧ 0 ≤ ρ 53 j ∧ ρ 53 j ≤ 9) ∧ (∀ r, 0 ≤ r → r < 5 → (0 ≤ ρ 54 r ∧ ρ 54 r ≤ 5) ∧ (bt (τ 62 17) r = 0 ↔ ρ 54 r = 0)) ∧ (-4 ≤ τ 62 18 ∧ τ 62 18 ≤ 4) ∧ (-4 ≤ τ 62 19 ∧ τ 62 19 ≤ 4) ∧ (∀ H, 0 ≤ H → (τ 62 18 < H ↔ ∀ r, 0 ≤ r → r < 5 → ρ 54 r ≠ 0 → r < H)) ∧ ∀ W, 0 ≤ W → (τ 62 19 < W ↔ ∀ r, 0 ≤ r → r < 5 → ρ 54 r ≤ W)
def DgR (ρ τ : pm) : Prop := ((0 ≤ ρ 52 6 ∧ ρ 52 6 ≤ 24) ∧ τ 62 8 = ρ 52 6) ∧ ownOK (τ 68) ∧ (∀ f, 0 ≤ f → f < 3 → (0 ≤ ρ 55 f ∧ ρ 55 f < 2147483648) ∧ (τ 69 f = sm (fun c => if τ 68 c = f then 1 else 0) 25 ∧ τ 69 f ≤ 8) ∧ ∀ c, 0 ≤ c → c < 32 → (on (ρ 55 f) c ↔ c < 25 ∧ τ 68 c = f)) ∧ (-4 ≤ τ 62 20 ∧ τ 62 20 ≤ 24) ∧ (-4 ≤ τ 62 21 ∧ τ 62 21 ≤ 2) ∧ (∀ N, 1 ≤ N → (τ 62 20 < N ↔ ρ 52 6 < N ∧ ∀ c, 0 ≤ c → c < 25 → τ 68 c ≠ -4 → c < N)) ∧ ∀ n, 0 ≤ n → (τ 62 21 < n ↔ ∀ c, 0 ≤ c → c < 25 → τ 68 c < n)
def DraR (ρ τ : pm) : Prop := DsR ρ τ ∧ DlR ρ τ ∧ DcR ρ τ ∧ DwR ρ τ ∧ DyR ρ τ ∧ DgR ρ τ
theorem DsR.keep {ρ τ ρ' τ' : pm} (h : DsR ρ τ) (a : ρ' 52 4 = ρ 52 4) (b : ρ' 52 5 = ρ 52 5) (c : τ' 62 6 = τ 62 6) (d : τ' 62 7 = τ 62 7) : DsR ρ' τ' := by
  unfold DsR
  rw [a, b, c, d]
  exact h
theorem DlR.keep {ρ τ ρ' τ' : pm} (h : DlR ρ τ) (a : ρ' 52 7 = ρ 52 7) (b : τ' 62 10 = τ 62 10) : DlR ρ' τ' := by
  unfold DlR
  rw [a, b]
  exact h
theorem DcR.keep {ρ τ ρ' τ' : pm} (h : DcR ρ τ) (a : ρ' 52 9 = ρ 52 9) (b : τ' 62 16 = τ 62 16) (c : τ' 62 11 = τ 62 11) (e : ρ' 52 6 = ρ 52 6) : DcR ρ' τ' := by
  unfold DcR
  rw [a, b, c, e]
  exact h
theorem DwR.keep {ρ τ ρ' τ' : pm} (h : DwR ρ τ) (a : ρ' 52 8 = ρ 52 8) (b : τ' 62 9 = τ 62 9) (c : τ' 67 = τ 67) (d : ρ' 56 = ρ 56) : DwR ρ' τ' := by
  unfold DwR
  rw [a, b, c, d]
  exact h
theorem DyR.keep {ρ τ ρ' τ' : pm} (h : DyR ρ τ) (a : ρ' 53 = ρ 53) (b : ρ' 54 = ρ 54) (c : τ' 66 = τ 66) (d : τ' 62 17 = τ 62 17) (e : τ' 62 18 = τ 62 18) (f : τ' 62 19 = τ 62 19) : DyR ρ' τ' := by
  unfold DyR
  rw [a, b, c, d, e, f]
  exact h
theorem DgR.keep {ρ τ ρ' τ' : pm} (h : DgR ρ τ) (a : ρ' 52 6 = ρ 52 6) (b : ρ' 55 = ρ 55) (c : τ' 68 = τ 68) (d : τ' 69 = τ 69) (e : τ' 62 8 = τ 62 8) (f : τ' 62 20 = τ 62 20) (g : τ' 62 21 = τ 62 21) : DgR ρ' τ' := by
  unfold DgR
  rw [a, b, c, d, e, f, g]
  exact h
theorem DraR.tk {ρ τ ρ' τ' : pm} (h : DraR ρ τ) (c : tkC ρ ρ') (m : tkM τ τ') : DraR ρ' τ' := by
  obtain ⟨h1, h2, h3, h4, h5, h6⟩ := h
  have c2 := c.1 52 (by omega)
  refine ⟨h1.keep (by rw [c2]) (by rw [c2]) (m.2 _ (by omega)) (m.2 _ (by omega)), h2.keep (by rw [c2]) (m.2 _ (by omega)), h3.keep (by rw [c2]) (m.2 _ (by omega)) (m.2 _ (by omega)) (by rw [c2]), h4.keep (by rw [c2]) (m.2 _ (by omega)) (m.1 _ (by omega)) (c.1 _ (by omega)), h5.keep (c.1 _ (by omega)) (c.1 _ (by omega)) (m.1 _ (by omega)) (m.2 _ (by omega)) (m.2 _ (by omega)) (m.2 _ (by omega)), h6.keep (by rw [c2]) (c.1 _ (by omega)) (m.1 _ (by omega)) (m.1 _ (by omega)) (m.2 _ (by omega)) (m.2 _ (by omega)) (m.2 _ (by omega))⟩
def lnC (ρ ρ' : pm) : Prop := (∀ q, (q < 50 ∨ q = 51 ∨ 56 < q) → ρ' q = ρ q) ∧ ρ' 50 1 = ρ 50 1
def lnM (τ τ' : pm) : Prop := (∀ q, (q < 62 ∨ q = 63 ∨ q = 64 ∨ q = 65 ∨ 69 < q) → τ' q = τ q) ∧ ∀ j, (j < 6 ∨ j = 22 ∨ j = 23 ∨ 29 < j) → τ' 62 j = τ 62 j
theorem lnC.trans {a b c : pm} (h : lnC a b) (k : lnC b c) : lnC a c := ⟨fun q hq => by rw [k.1 q hq, h.1 q hq], by rw [k.2, h.2]⟩
theorem lnM.trans {a b c : pm} (h : lnM a b) (k : lnM b c) : lnM a c := ⟨fun q hq => by rw [k.1 q hq, h.1 q hq], fun j hj => by rw [k.2 j hj, h.2 j hj]⟩
theorem tkC.ln {a b : pm} (h : tkC a b) : lnC a b := ⟨fun q hq => h.1 q (by omega), h.2 1 (by omega)⟩
theorem tkM.ln {a b : pm} (h : tkM a b) : lnM a b := ⟨fun q hq => h.1 q (by omega), fun j hj => h.2 j (by omega)⟩
theorem lnC.pup (ρ : pm) {q : Nat} (hq : 52 ≤ q ∧ q ≤ 56) (i v : Int) : lnC ρ (pup ρ q i v) := ⟨fun p hp => pup_ne (by omega), by rw [pup_ne (by omega)]⟩
theorem lnM.pupf (τ : pm) {i : Int} (hi : (6 ≤ i ∧ i ≤ 21) ∨ (24 ≤ i ∧ i ≤ 29)) (v : Int) : lnM τ (pup τ 62 i v) := ⟨fun p hp => pup_ne (by omega), fun j hj => pup_off (by omega)⟩
theorem lnM.pup (τ : pm) {q : Nat} (hq : 66 ≤ q ∧ q ≤ 69) (i v : Int) : lnM τ (pup τ q i v) := ⟨fun p hp => pup_ne (by omega), fun j hj => by rw [pup_ne (by omega)]⟩
def LnR (ρ τ ρ' τ' : pm) : Prop := lnC ρ ρ' ∧ lnM τ τ' ∧ (BadR ρ' τ' ∨ (AhR ρ' τ' ∧ DraR ρ' τ' ∧ ρ 50 2 ≤ ρ' 50 2))
theorem AhR.fault01 {ρ τ : pm} (h : AhR ρ τ) : τ 62 28 = 0 ∨ τ 62 28 = 1 := by
  obtain ⟨a1, a2, a3, a4, a5⟩ := h
  unfold TkM at a5
  generalize spc (τ 70) (ρ 50 1 - ρ 50 2).toNat (ρ 50 2) = p at a5
  rcases a5 with x | x | x | x | x
  · exact Or.inl x.2.1
  · exact Or.inl x.2.2.1
  · exact Or.inl x.2.2.2.1
  · exact Or.inl x.2.2.1
  · exact Or.inr x.2.2.1
theorem AhR.bad {ρ τ : pm} (h : AhR ρ τ) (b : τ 62 28 ≠ 0) : ∃ ρ', (∀ lo hi, f_X6_nextNumber lo hi ρ = some (0, ρ')) ∧ f_X6_nextStop ρ = some ρ' ∧ f_X6_next ρ = some ρ' ∧ tkC ρ ρ' ∧ BadR ρ' τ := by
  obtain ⟨ρ', c1, c2, tp, c3, c4⟩ := h.next
  rcases c4 with ⟨x, y⟩ | t
  · refine ⟨ρ', fun lo hi => ?_, ?_, c1, c2, x⟩
    · unfold f_X6_nextNumber
      rw [c1, Option.bind_some, bad_isNumber x.1, bn2_of]
    · unfold f_X6_nextStop
      rw [c1, Option.bind_some, ckp (show inR (ρ' 50 6) from ⟨by have := x.1; omega, by have := x.1; omega⟩), if_neg (by have := x.1; omega)]
  · exact absurd t.2.1 b
theorem AhR.num {ρ τ : pm} {lo hi : Int} (h : AhR ρ τ) (hl : inR lo) (hh : inR hi) : ∃ v ρ1 w τ1, f_X6_nextNumber lo hi ρ = some (v, ρ1) ∧ f_X9_readNumber lo hi τ = some (w, τ1) ∧ tkC ρ ρ1 ∧ tkM τ τ1 ∧ ((v = 0 ∧ w = 0 ∧ BadR ρ1 τ1) ∨ (v = 1 ∧ w = ρ1 50 5 ∧ lo ≤ w ∧ w ≤ hi ∧ AhR ρ1 τ1 ∧ ρ 50 2 ≤ ρ1 50 2)) := by
  obtain ⟨ρ', c1, c2, tp, c3, c4⟩ := h.next
  rcases c4 with ⟨x, y⟩ | t
  · obtain ⟨ρ'', d1, -, d3, d4, d5⟩ := h.bad (by omega)
    exact ⟨0, ρ'', 0, τ, d1 _ _, bad_read x.2.1, d4, tkM.refl _, Or.inl ⟨rfl, rfl, d5⟩⟩
  · obtain ⟨v, ρ1, w, τ1, e1, e2, e3, e4, -, e5⟩ := t.number tp hl hh
    unfold f_X6_nextNumber f_X9_readNumber
    rw [c1, Option.bind_some, e1, e2, bn2_of, bn2_of]
    rcases e5 with ⟨v0, w0, b⟩ | ⟨v1, r1, t1, g1, g2, g3, g4⟩
    · exact ⟨v, ρ1, w, τ1, rfl, by rw [bad_next b.2.1, Option.bind_some], c2.trans e3, e4, Or.inl ⟨v0, w0, b⟩⟩
    · subst r1
      subst t1
      obtain ⟨τ2, m1, m2, m3⟩ := t.next tp
      refine ⟨v, ρ1, w, τ2, rfl, by rw [m1, Option.bind_some], c2, m2, Or.inr ⟨v1, g1, by omega, by omega, m3, ?_⟩⟩
      have := t.2.2.2.2.2.2.1
      omega
/-! lines that come once -/
theorem came_bit {m k p : Int} (hm : 0 ≤ m ∧ m < 16) (hk : (k = 0 ∧ p = 1) ∨ (k = 1 ∧ p = 2) ∨ (k = 2 ∧ p = 4) ∨ (k = 3 ∧ p = 8)) : (band m p = 0 ↔ bt m k = 0) ∧ bor m (bshl 1 k) = bor m p ∧ (0 ≤ bor m p ∧ bor m p < 16) := by
  obtain ⟨n, rfl⟩ : ∃ n : Nat, m = (n : Int) := ⟨m.toNat, by omega⟩
  have hn : n < 16 := by omega
  have key : ∀ n : Fin 16, ∀ i : Fin 4, (band (n.val : Int) (2 ^ i.val) = 0 ↔ bt (n.val : Int) i.val = 0) ∧ bor (n.val : Int) (bshl 1 i.val) = bor (n.val : Int) (2 ^ i.val) ∧ (0 ≤ bor (n.val : Int) (2 ^ i.val) ∧ bor (n.val : Int) (2 ^ i.val) < 16) := by decide +kernel
  rcases hk with ⟨rfl, rfl⟩ | ⟨rfl, rfl⟩ | ⟨rfl, rfl⟩ | ⟨rfl, rfl⟩
  · exact key ⟨n, hn⟩ 0
  · exact key ⟨n, hn⟩ 1
  · exact key ⟨n, hn⟩ 2
  · exact key ⟨n, hn⟩ 3
theorem came_silt {m p : Int} (hm : 0 ≤ m ∧ m < 16) (hk : p = 1 ∨ p = 2 ∨ p = 4) : (band (bor m p) 8 = 0 ↔ band m 8 = 0) ∧ (¬ band (bor m 8) 8 = 0) ∧ (band (bor m p) 2 = 0 → band m 2 = 0) ∧ (band (bor m 8) 2 = 0 → band m 2 = 0) ∧ ¬ band (bor m 2) 2 = 0 := by
  obtain ⟨n, rfl⟩ : ∃ n : Nat, m = (n : Int) := ⟨m.toNat, by omega⟩
  have hn : n < 16 := by omega
  have key : ∀ n : Fin 16, ∀ i : Fin 3, (band (bor (n.val : Int) (2 ^ i.val)) 8 = 0 ↔ band (n.val : Int) 8 = 0) ∧ (¬ band (bor (n.val : Int) 8) 8 = 0) ∧ (band (bor (n.val : Int) (2 ^ i.val)) 2 = 0 → band (n.val : Int) 2 = 0) ∧ (band (bor (n.val : Int) 8) 2 = 0 → band (n.val : Int) 2 = 0) ∧ ¬ band (bor (n.val : Int) 2) 2 = 0 := by decide +kernel
  rcases hk with rfl | rfl | rfl
  · exact key ⟨n, hn⟩ 0
  · exact key ⟨n, hn⟩ 1
  · exact key ⟨n, hn⟩ 2
/-- what follows a line's name that may come once -/
theorem onceR {ρ τ : pm} {k p : Int} (tp : TpR ρ τ) (t : TokR ρ τ) (d : DraR ρ τ) (k1 : ρ 50 3 = 1) (hk : (k = 0 ∧ p = 1) ∨ (k = 1 ∧ p = 2) ∨ (k = 2 ∧ p = 4) ∨ (k = 3 ∧ p = 8)) (ln : f_X9_lineNow τ = some k) :
    (∃ ρ1 τ1, f_X1_comesOnce p ρ = some (0, ρ1) ∧ f_X9_readLine τ = some τ1 ∧ LnR ρ τ ρ1 τ1) ∨
    (∃ ρ1 τ1, f_X1_comesOnce p ρ = some (1, ρ1) ∧ f_X9_next (pup τ 62 16 (bor (ρ 52 9) p)) = some τ1 ∧ f_X9_readLine τ = ck (inR (τ1 62 28)) (if (τ1 62 28) ≤ 0 then (f_X9_readLineOf k τ1).bind rlTail else some τ1) ∧ ρ1 = pup ρ 52 9 (bor (ρ 52 9) p) ∧ tkM (pup τ 62 16 (bor (ρ 52 9) p)) τ1 ∧ AhR ρ1 τ1 ∧ band (ρ 52 9) p = 0) := by
  have t' := t
  obtain ⟨b1, b2, b3, b4, b5, b6, b7, b8, b9, b10⟩ := t'
  obtain ⟨cm, e16, e11, e6⟩ := d.2.2.1
  obtain ⟨w0, w9, -⟩ := d.2.2.2.1
  obtain ⟨x1, x2, x3⟩ := came_bit cm hk
  have rl := rl_of b2 (by omega) ln (by omega) (show inR (τ 62 9) from ⟨by omega, by omega⟩)
  rw [if_neg (by omega), if_neg (by omega), e16, x2] at rl
  unfold f_X1_comesOnce
  by_cases z : band (ρ 52 9) p = 0
  · right
    rw [if_pos z, jn_eq]
    rw [if_pos (x1.mp z)] at rl
    have tA : TokR (pup ρ 52 9 (bor (ρ 52 9) p)) (pup τ 62 16 (bor (ρ 52 9) p)) := t.keep (pup_ne (by omega)) (fun j j0 j1 => pup_off (by omega))
    obtain ⟨τ1, m1, m2, m3⟩ := tA.next (tp.keep (by rw [pup_ne (by omega)]) (pup_ne (by omega)) (pup_off (by omega)) (pup_ne (by omega)))
    refine ⟨_, τ1, rfl, m1, ?_, rfl, m2, m3, z⟩
    rw [rl]
    unfold goOn
    rw [m1, Option.bind_some]
  · left
    rw [if_neg z, fail_eq, Option.bind_some]
    rw [if_neg (fun y => z (x1.mpr y))] at rl
    refine ⟨_, _, rfl, rl, (tk_failC _ _ _).ln, (tk_failM _ _ _).ln.trans (lnM.pupf _ (by omega) _), Or.inl ?_⟩
    exact (t.fails (c := 4) (d := 4) tp (by omega) (by omega)).keep rfl rfl (pup_off (by omega)) (pup_off (by omega))
