/-! alone(): levels of the reference -/
def md (x : Int) : Int := if x = 0 then 25 else x - 1
theorem leavesM_loop {L : Int} (hL : 0 ≤ L ∧ L < 4) : ∀ (m n : Nat) (c : Int) (τ : pm), m + 1 ≤ n → c + (m : Int) = 25 → 0 ≤ c → ∃ τ', L_X9_leaves_2 n L c τ = some τ' ∧ (∀ q, q ≠ 63 → τ' q = τ q) ∧ (∀ j, c ≤ j → j < 25 → τ' 63 j = τ 76 (25 * L + j)) ∧ (∀ j, (j < c ∨ 25 ≤ j) → τ' 63 j = τ 63 j) := by
  intro m
  induction m with
  | zero =>
    intro n c τ hn hc c0
    obtain ⟨x, rfl⟩ : ∃ x, n = x + 1 := ⟨n - 1, by omega⟩
    rw [L_X9_leaves_2, ckp (by omega), if_pos (by omega)]
    exact ⟨τ, rfl, fun _ _ => rfl, fun j j0 j1 => by omega, fun _ _ => rfl⟩
  | succ m ih =>
    intro n c τ hn hc c0
    obtain ⟨x, rfl⟩ : ∃ x, n = x + 1 := ⟨n - 1, by omega⟩
    rw [L_X9_leaves_2, ckp (by omega), if_neg (by omega), ckp (by omega), ckp (by omega)]
    rw [jn_eq, jn_eq]
    obtain ⟨τ', g1, g2, g3, g4⟩ := ih x (c + 1) (pup τ 63 c (τ 76 (25 * L + c))) (by omega) (by omega) (by omega)
    refine ⟨τ', g1, fun q hq => by rw [g2 q hq, pup_ne hq], fun j j0 j1 => ?_, fun j hj => by rw [g4 j (by omega), pup_off (by omega)]⟩
    by_cases e : j = c
    · rw [g4 j (by omega), e, pup_at]
    · rw [g3 j (by omega) j1, pup_ne (by omega)]
theorem leavesM {L : Int} (hL : 0 ≤ L ∧ L < 4) (τ : pm) : ∃ τ', f_X9_leaves L τ = some τ' ∧ (∀ q, q ≠ 63 → τ' q = τ q) ∧ (∀ j, 0 ≤ j → j < 25 → τ' 63 j = τ 76 (25 * L + j)) ∧ (∀ j, (j < 0 ∨ 25 ≤ j) → τ' 63 j = τ 63 j) :=
  leavesM_loop hL 25 fu 0 τ (by unfold fu; omega) (by omega) (by omega)
theorem entS_loop {f L : Int} {K : Int → Int → pm → Option pm} (hL : 0 ≤ L ∧ L < 4) : ∀ (m n : Nat) (c : Int) (τ : pm), m + 1 ≤ n → c + (m : Int) = 25 → 0 ≤ c → ∃ τ', L_X9_enters_2 K n f L c τ = K f L τ' ∧ (∀ q, q ≠ 76 → τ' q = τ q) ∧ (∀ j, c ≤ j → j < 25 → τ' 76 (25 * L + j) = τ 63 j) ∧ (∀ j, (j < 25 * L + c ∨ 25 * L + 25 ≤ j) → τ' 76 j = τ 76 j) := by
  intro m
  induction m with
  | zero =>
    intro n c τ hn hc c0
    obtain ⟨x, rfl⟩ : ∃ x, n = x + 1 := ⟨n - 1, by omega⟩
    rw [L_X9_enters_2, ckp (by omega), if_pos (by omega)]
    exact ⟨τ, rfl, fun _ _ => rfl, fun j j0 j1 => by omega, fun _ _ => rfl⟩
  | succ m ih =>
    intro n c τ hn hc c0
    obtain ⟨x, rfl⟩ : ∃ x, n = x + 1 := ⟨n - 1, by omega⟩
    rw [L_X9_enters_2, ckp (by omega), if_neg (by omega), ckp (by omega), ckp (by omega)]
    rw [jn_eq, jn_eq]
    obtain ⟨τ', g1, g2, g3, g4⟩ := ih x (c + 1) (pup τ 76 (25 * L + c) (τ 63 c)) (by omega) (by omega) (by omega)
    refine ⟨τ', g1, fun q hq => by rw [g2 q hq, pup_ne hq], fun j j0 j1 => ?_, fun j hj => by rw [g4 j (by omega), pup_off (by omega)]⟩
    by_cases e : j = c
    · rw [g4 _ (by omega), e, pup_at]
    · rw [g3 j (by omega) j1, pup_ne (by omega)]
theorem few_9 {m : Int} (hm : few m) {c : Nat} (hc : c < 25) (e : on m (c : Int)) : (lstF m c).1 < 9 := by
  have st := lstF_step (m := m) (c := c)
  rw [if_pos e] at st
  have s1 : (lstF m (c + 1)).1 = (lstF m c).1 + 1 := by rw [st]
  by_cases h9 : 9 ≤ (lstF m c).1
  · have := (few_stop hm (show c + 1 ≤ 25 by omega) (by omega)).2
    omega
  · omega
theorem entO_loop {W H L m : Int} (hw : wh W H) (hL : 0 ≤ L ∧ L < 4) (hm : few m) : ∀ (d n c : Nat) (τ : pm), d + 1 ≤ n → (c : Int) + (d : Int) = W * H → τ 62 2 = W → τ 62 3 = H → τ 79 L = (lstF m c).1 → (∀ p, 0 ≤ p → p < (lstF m c).1 → τ 78 (9 * L + p) = md ((lstF m c).2 p)) → ∃ τ', L_X9_enters_58 n L m (c : Int) τ = some τ' ∧ (∀ q, q ≠ 78 → q ≠ 79 → τ' q = τ q) ∧ (∀ j, (j < 9 * L ∨ 9 * L + 9 ≤ j) → τ' 78 j = τ 78 j) ∧ (∀ g, g ≠ L → τ' 79 g = τ 79 g) ∧ τ' 79 L = (lstF m (W * H).toNat).1 ∧ (∀ p, 0 ≤ p → p < (lstF m (W * H).toNat).1 → τ' 78 (9 * L + p) = md ((lstF m (W * H).toNat).2 p)) := by
  have bd := hw.bd
  intro d
  induction d with
  | zero =>
    intro n c τ hn hc h2 h3 h5 hp
    obtain ⟨x, rfl⟩ : ∃ x, n = x + 1 := ⟨n - 1, by omega⟩
    rw [L_X9_enters_58, h2, h3, ckp (by omega), ckp (by omega), if_pos (by omega), show (W * H).toNat = c by omega]
    exact ⟨τ, rfl, fun _ _ _ => rfl, fun _ _ => rfl, fun _ _ => rfl, h5, hp⟩
  | succ d ih =>
    intro n c τ hn hc h2 h3 h5 hp
    obtain ⟨x, rfl⟩ : ∃ x, n = x + 1 := ⟨n - 1, by omega⟩
    have h1 := (lstF_ok (m := m) (c := c) (by omega)).1
    have st := lstF_step (m := m) (c := c)
    rw [L_X9_enters_58, h2, h3, ckp (by omega), ckp (by omega), if_neg (by omega)]
    dsimp only [jn]
    change ∃ τ', (if bt m (c : Int) = 1 then _ else _) = _ ∧ _
    by_cases e : on m (c : Int)
    · have h9 := few_9 hm (by omega) e
      rw [if_pos e, ckp hL, h5]
      rw [if_pos e] at st
      have s1 : (lstF m (c + 1)).1 = (lstF m c).1 + 1 := by rw [st]
      have s2 : (lstF m (c + 1)).2 = up1 (lstF m c).2 (lstF m c).1 ((c : Int) + 1) := by rw [st]
      rw [ckp (by omega), show pup τ 78 (9 * L + (lstF m c).1) (c : Int) 79 L = (lstF m c).1 by rw [pup_ne (by omega)]; exact h5]
      obtain ⟨τ', g1, g2, g3, g4, g5, g6⟩ := ih x (c + 1) (pup (pup τ 78 (9 * L + (lstF m c).1) (c : Int)) 79 L ((lstF m c).1 + 1)) (by omega) (by omega) (by rw [pup_ne (by omega), pup_ne (by omega)]; exact h2) (by rw [pup_ne (by omega), pup_ne (by omega)]; exact h3) (by rw [pup_at, s1]) (fun p p0 p1 => by
        rw [s1] at p1
        rw [s2, pup_ne (by omega)]
        unfold up1
        by_cases e2 : p = (lstF m c).1
        · rw [if_pos e2, e2, pup_at]
          unfold md
          rw [if_neg (by omega)]
          omega
        · rw [if_neg e2, pup_off (by omega)]; exact hp p p0 (by omega))
      rw [show ((c + 1 : Nat) : Int) = (c : Int) + 1 by omega] at g1
      exact ⟨τ', g1, fun q a b => by rw [g2 q a b, pup_ne b, pup_ne a], fun j hj => by rw [g3 j hj, pup_ne (by omega), pup_off (by omega)], fun g hg => by rw [g4 g hg, pup_off hg, pup_ne (by omega)], g5, g6⟩
    · rw [if_neg e]
      rw [if_neg e] at st
      obtain ⟨τ', g1, g2, g3, g4, g5, g6⟩ := ih x (c + 1) τ (by omega) (by omega) h2 h3 (by rw [st]; exact h5) (by rw [st]; exact hp)
      rw [show ((c + 1 : Nat) : Int) = (c : Int) + 1 by omega] at g1
      exact ⟨τ', g1, g2, g3, g4, g5, g6⟩
/-- the cuts of a flow -/
abbrev cans (W H : Int) (ρ τ : pm) (q : Nat) (f : Int) : Int := canM W H (ρ (q + 1)) (τ 65) (ρ q 6) (ρ q 4) f
/-- what a level keeps: heights and choices -/
def LvR (W H Y : Int) (f L : Int) (ρ τ : pm) (q : Nat) : Prop :=
  FlR W H Y ρ (stc τ 63 (fun j => if 0 ≤ j ∧ j < 25 then τ 76 (25 * L + j) else τ 63 j)) q 0 ∧ τ 79 L = (lstF (cans W H ρ τ q f) 25).1 ∧ ∀ p, 0 ≤ p → p < (lstF (cans W H ρ τ q f) 25).1 → τ 78 (9 * L + p) = md ((lstF (cans W H ρ τ q f) 25).2 p)
theorem entersM {W H fm Y f L : Int} {ρ τ : pm} {q : Nat} (ld : LdR W H fm ρ τ) (fl : FlR W H Y ρ τ q 0) (hY : 0 ≤ Y ∧ Y ≤ 3000) (hf : 0 ≤ f ∧ f < fm) (hL : 0 ≤ L ∧ L < 4) : ∃ τ', f_X9_enters f L τ = some τ' ∧ LvR W H Y f L ρ τ' q ∧ (∀ q, q ≠ 62 → q ≠ 71 → q ≠ 76 → q ≠ 78 → q ≠ 79 → τ' q = τ q) ∧ (∀ j, j ≠ 31 → j ≠ 32 → τ' 62 j = τ 62 j) ∧ (∀ j, (j < 25 * L ∨ 25 * L + 25 ≤ j) → τ' 76 j = τ 76 j) ∧ (∀ j, (j < 9 * L ∨ 9 * L + 9 ≤ j) → τ' 78 j = τ 78 j) ∧ (∀ g, g ≠ L → τ' 79 g = τ 79 g) := by
  obtain ⟨lc, lm, h4, h4', hfm, ho, hg, h8, -⟩ := id ld
  have he := fl.heq
  obtain ⟨f1, f2, f3, f4, f5, f6⟩ := id fl
  rw [Int.zero_add] at f3 f4
  unfold f_X9_enters
  obtain ⟨τ1, s1, s2, s3, s4⟩ := entS_loop (f := f) (L := L) (K := fun (l1 l2 : Int) (ρ : pm) => bn2 (f_X9_mayCut l1 ρ) (fun v6 ρ7 => ck (0 ≤ 9 * l2 ∧ 9 * l2 < 36) (jn (pup ρ7 78 (9 * l2) 25) (fun ρ9 => ck (0 ≤ l2 ∧ l2 < 4) (jn (pup ρ9 79 l2 1) (fun ρ11 => L_X9_enters_58 fu l2 v6 0 ρ11)))))) hL 25 fu 0 τ (by unfold fu; omega) (by omega) (by omega)
  rw [s1]
  have e63 := s2 63 (by omega)
  have e65 := s2 65 (by omega)
  have e62 := s2 62 (by omega)
  have hM : hOK (τ1 63) := by rw [e63]; exact (f2.ok (by omega)).congr he.symm
  obtain ⟨τ2, m1, m2⟩ := mayCutM (τ := τ1) (f := f) (lm.keep (by rw [e62]) (by rw [e62])) hM (by rw [e63, f3.2.2]; exact f3.1) (by rw [e63, f3.2.2]; exact f3.2.1) (by rw [e65]; exact ho) (by rw [e63, f4.2.2]; exact ⟨f4.1, f4.2.1⟩) (by omega)
  rw [e63, e65, f3.2.2, f4.2.2, bedT_congr he lc.1 f3.1 f3.2.1, ← f6.2.1, canM_congr lc.1 he] at m1
  obtain ⟨cm, ecm⟩ : ∃ cm, cm = canM W H (ρ (q + 1)) (τ 65) (ρ q 6) (ρ q 4) f := ⟨_, rfl⟩
  have hm : few cm := by
    have := few_optM ld (ρ (q + 1)) (ρ q 6) (ρ q 4) f hf.1
    rw [show optM W H fm (ρ (q + 1)) (τ 65) (ρ q 6) (ρ q 4) f = canM W H (ρ (q + 1)) (τ 65) (ρ q 6) (ρ q 4) f from if_pos hf.2] at this
    rw [ecm]; exact this
  rw [← ecm] at m1
  have t2 : τ2 62 2 = W := by rw [m2.fld (by omega) (by omega), e62]; exact lm.2.1
  have t3 : τ2 62 3 = H := by rw [m2.fld (by omega) (by omega), e62]; exact lm.2.2
  have bd := lc.1.bd
  obtain ⟨τ3, g1, g2, g3, g4, g5, g6⟩ := entO_loop lc.1 hL hm (W * H).toNat fu 0 (pup (pup τ2 78 (9 * L) 25) 79 L 1) (by unfold fu; omega) (by omega) (by rw [pup_ne (by omega), pup_ne (by omega)]; exact t2) (by rw [pup_ne (by omega), pup_ne (by omega)]; exact t3) (by rw [pup_at]; rfl) (fun p p0 p1 => by
    have p1' : p < 1 := p1
    have : p = 0 := by omega
    rw [this, pup_ne (by omega), Int.add_zero, pup_at]
    rfl)
  have eN : lstF cm (W * H).toNat = lstF cm 25 := by
    have := lstF_N (W := W) (H := H) (fm := fm) (h := ρ (q + 1)) (own := τ 65) (law := ρ q 6) (b := ρ q 4) (f := f) lc.1
    rw [show optM W H fm (ρ (q + 1)) (τ 65) (ρ q 6) (ρ q 4) f = canM W H (ρ (q + 1)) (τ 65) (ρ q 6) (ρ q 4) f from if_pos hf.2, ← ecm] at this
    exact this
  rw [eN] at g5 g6
  have z2 : ((0 : Nat) : Int) = 0 := rfl
  rw [z2] at g1
  rw [m1, bn2_of, ckp (by omega), jn_eq, ckp hL, jn_eq, g1]
  have al : ∀ q, q ≠ 62 → q ≠ 71 → q ≠ 76 → q ≠ 78 → q ≠ 79 → τ3 q = τ q := fun q b1 b2 b3 b4 b5 => by rw [g2 q b4 b5, pup_ne b5, pup_ne b4, m2.cell b1 b2, s2 q b3]
  have e76 : τ3 76 = τ1 76 := by rw [g2 76 (by omega) (by omega), pup_ne (by omega), pup_ne (by omega), m2.cell (by omega) (by omega)]
  refine ⟨τ3, rfl, ⟨?_, ?_, ?_⟩, al, fun j b1 b2 => by rw [g2 62 (by omega) (by omega), pup_ne (by omega), pup_ne (by omega), m2.fld b1 b2, e62], fun j hj => by rw [e76, s4 j (by omega)], fun j hj => by rw [g3 j hj, pup_ne (by omega), pup_off (by omega), m2.cell (by omega) (by omega), s2 78 (by omega)], fun g hg => by rw [g4 g hg, pup_off hg, pup_ne (by omega), m2.cell (by omega) (by omega), s2 79 (by omega)]⟩
  · refine fl.keep rfl rfl rfl (fun j j0 j1 => ?_)
    rw [stc_get]
    by_cases c : 0 ≤ j ∧ j < 25
    · rw [if_pos c, e76, s3 j c.1 c.2]
    · rw [if_neg c, al 63 (by omega) (by omega) (by omega) (by omega) (by omega)]
  · rw [g5, ecm]
    unfold cans
    rw [al 65 (by omega) (by omega) (by omega) (by omega) (by omega)]
  · unfold cans
    rw [al 65 (by omega) (by omega) (by omega) (by omega) (by omega), ← ecm]
    exact g6
