/-! the cells that a farm may cut, of both -/
abbrev lwf (law : Int) (inb near : Prop) : Prop := law = 0 ∨ (law = 1 ∧ (inb ∨ near)) ∨ (law = 2 ∧ near ∧ ¬ inb)
abbrev canP (W H : Int) (h own : Int → Int) (law b f c : Int) : Prop := own c = f ∧ 3 ≤ h c ∧ lwf law (on b c) (adj W H b c)
def canM (W H : Int) (h own : Int → Int) (law b f : Int) : Int := mkm (canP W H h own law b f) (W * H).toNat
def ownOK (own : Int → Int) : Prop := ∀ c, 0 ≤ c → c < 25 → own c = -4 ∨ (0 ≤ own c ∧ own c < 3)
theorem flag_eq {x : Int} (h : inR x) : f_X9_flag x = some (if x = 0 then 0 else 1) := by
  unfold f_X9_flag
  rw [ckp h]
  split <;> rfl
theorem may_law {law s v : Int} {R : Type} {F : Int → Option R} (hl : law = 0 ∨ law = 1 ∨ law = 2) (hs : s = 0 ∨ s = 1) (hv : v = 0 ∨ v = 1) : ck (inR law) (if law = 0 then F 1 else if law = 1 then ck (inR s) (if s = 0 then if v = 0 then ck (inR law) (if law = 2 then ck (inR v) (if v = 0 then F 0 else ck (inR s) (if s = 0 then F 1 else F 0)) else F 0) else F 1 else F 1) else ck (inR law) (if law = 2 then ck (inR v) (if v = 0 then F 0 else ck (inR s) (if s = 0 then F 1 else F 0)) else F 0)) = F (if law = 0 ∨ (law = 1 ∧ (s = 1 ∨ v = 1)) ∨ (law = 2 ∧ v = 1 ∧ ¬ s = 1) then 1 else 0) := by
  rcases hl with rfl | rfl | rfl <;> rcases hs with rfl | rfl <;> rcases hv with rfl | rfl <;> rfl
theorem may_fin {o hc f c : Int} {Q : Prop} [Decidable Q] {X0 X1 R : Option (Int × pm)} (k1 : 0 ≤ c ∧ c < 25) (k2 : inR o) (k3 : inR f) (k4 : inR hc) (yes : (o = f ∧ 3 ≤ hc ∧ Q) → X1 = R) (no : ¬ (o = f ∧ 3 ≤ hc ∧ Q) → X0 = R) : ck (0 ≤ c ∧ c < 25) (ck (inR o) (ck (inR f) (if o = f then ck (0 ≤ c ∧ c < 168) (ck (inR hc) (if hc < 3 then X0 else ck (inR (if Q then (1 : Int) else 0)) (if (if Q then (1 : Int) else 0) = 0 then X0 else X1))) else X0))) = R := by
  rw [ckp k1, ckp k2, ckp k3]
  by_cases c1 : o = f
  · rw [if_pos c1, ckp ⟨k1.1, Int.lt_trans k1.2 (by decide)⟩, ckp k4]
    by_cases c2 : hc < 3
    · rw [if_pos c2]; exact no (fun z => absurd z.2.1 (Int.not_le.mpr c2))
    · rw [if_neg c2]
      by_cases q : Q
      · rw [if_pos q, ckp (by decide), if_neg (by decide : ¬ (1 : Int) = 0)]; exact yes ⟨c1, Int.not_lt.mp c2, q⟩
      · rw [if_neg q, ckp (by decide), if_pos rfl]; exact no (fun z => q z.2.2)
  · rw [if_neg c1]; exact no (fun z => c1 z.1)
set_option maxRecDepth 4000 in
theorem mayCutM_loop {τ : pm} {W H b f : Int} (hl : landM τ W H) (hh : hOK (τ 63)) (ho : ownOK (τ 65)) (hlaw : 0 ≤ τ 63 26 ∧ τ 63 26 ≤ 2) (hf : inR f) : ∀ (m n c : Nat), m + 1 ≤ n → (c : Int) + (m : Int) = W * H → L_X9_mayCut_10 n f b (mkm (canP W H (τ 63) (τ 65) (τ 63 26) b f) c) (c : Int) τ = some (canM W H (τ 63) (τ 65) (τ 63 26) b f, τ) := by
  have bd := hl.1.bd
  have hW := hl.2.1
  have hH := hl.2.2
  intro m
  induction m with
  | zero =>
    intro n c hn hc
    obtain ⟨k, rfl⟩ : ∃ k, n = k + 1 := ⟨n - 1, by omega⟩
    rw [L_X9_mayCut_10, hW, hH, ckp (by omega), ckp (by omega), if_pos (by omega)]
    unfold canM
    rw [show (W * H).toNat = c by omega]
  | succ m ih =>
    intro n c hn hc
    obtain ⟨k, rfl⟩ : ∃ k, n = k + 1 := ⟨n - 1, by omega⟩
    have hcc := hh (c : Int) (by omega) (by omega)
    have hoc := ho (c : Int) (by omega) (by omega)
    have k1 : 0 ≤ (c : Int) ∧ (c : Int) < 25 := by omega
    have k2 : inR (τ 65 (c : Int)) := by omega
    have k4 : inR (τ 63 (c : Int)) := by omega
    have l3 : τ 63 26 = 0 ∨ τ 63 26 = 1 ∨ τ 63 26 = 2 := by omega
    rw [L_X9_mayCut_10, hW, hH, ckp (by omega), ckp (by omega), if_neg (by omega)]
    dsimp only [jn]
    rw [isBesideM hl (by omega) (by omega)]
    have b0 := bor0 (mkm_R (canP W H (τ 63) (τ 65) (τ 63 26) b f) c)
    have s0 := bshl0 (c := (c : Int)) (by omega)
    have hv : (if adj W H b (c : Int) then (1 : Int) else 0) = 0 ∨ (if adj W H b (c : Int) then (1 : Int) else 0) = 1 := by
      split
      · exact Or.inr rfl
      · exact Or.inl rfl
    have hv1 : (if adj W H b (c : Int) then (1 : Int) else 0) = 1 ↔ adj W H b (c : Int) := by
      split
      · exact ⟨fun _ => by assumption, fun _ => rfl⟩
      · exact ⟨fun q => absurd q (by decide), fun q => absurd q (by assumption)⟩
    have ih' := ih k (c + 1) (by omega) (by omega)
    rw [show ((c + 1 : Nat) : Int) = (c : Int) + 1 by omega] at ih'
    have yes : canP W H (τ 63) (τ 65) (τ 63 26) b f (c : Int) → L_X9_mayCut_10 k f b (bor (mkm (canP W H (τ 63) (τ 65) (τ 63 26) b f) c) (bshl 1 (c : Int))) ((c : Int) + 1) τ = some (canM W H (τ 63) (τ 65) (τ 63 26) b f, τ) := by
      intro p
      unfold mkm at ih'
      rw [if_pos p] at ih'
      exact ih'
    have no : ¬ canP W H (τ 63) (τ 65) (τ 63 26) b f (c : Int) → L_X9_mayCut_10 k f b (bor (mkm (canP W H (τ 63) (τ 65) (τ 63 26) b f) c) (bshl 0 (c : Int))) ((c : Int) + 1) τ = some (canM W H (τ 63) (τ 65) (τ 63 26) b f, τ) := by
      intro p
      unfold mkm at ih'
      rw [if_neg p] at ih'
      rw [s0, b0]
      exact ih'
    generalize mkm (canP W H (τ 63) (τ 65) (τ 63 26) b f) c = M at *
    have go : ∀ s : Int, (s = 0 ∨ s = 1) → (s = 1 ↔ on b (c : Int)) → _ := fun s hs hs1 => (may_law (law := τ 63 26) (s := s) (v := if adj W H b (c : Int) then 1 else 0) (F := fun s : Int => ck (0 ≤ (c : Int) ∧ (c : Int) < 25) (ck (inR (τ 65 (c : Int))) (ck (inR f) (if τ 65 (c : Int) = f then ck (0 ≤ (c : Int) ∧ (c : Int) < 168) (ck (inR (τ 63 (c : Int))) (if τ 63 (c : Int) < 3 then L_X9_mayCut_10 k f b (bor M (bshl 0 (c : Int))) ((c : Int) + 1) τ else ck (inR s) (if s = 0 then L_X9_mayCut_10 k f b (bor M (bshl 0 (c : Int))) ((c : Int) + 1) τ else L_X9_mayCut_10 k f b (bor M (bshl 1 (c : Int))) ((c : Int) + 1) τ))) else L_X9_mayCut_10 k f b (bor M (bshl 0 (c : Int))) ((c : Int) + 1) τ)))) l3 hs hv).trans (may_fin k1 k2 hf k4 (fun z => yes ⟨z.1, z.2.1, by rw [hs1, hv1] at z; exact z.2.2⟩) (fun z => no (fun y => z ⟨y.1, y.2.1, by rw [hs1, hv1]; exact y.2.2⟩)))
    change (if bt b (c : Int) = 1 then _ else _) = _
    by_cases i1 : on b (c : Int)
    · rw [if_pos i1]
      exact go 1 (Or.inr rfl) ⟨fun _ => i1, fun _ => rfl⟩
    · rw [if_neg i1]
      exact go 0 (Or.inl rfl) ⟨fun z => absurd z (by decide), fun z => absurd z i1⟩
