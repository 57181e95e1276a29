/-! THE RELATION of class and reference -/
def bedR (W H : Int) (ρ : pm) (q : Nat) : Prop := ρ q 3 = (bedT W H (ρ (q + 1)) (ρ q 5)).1 ∧ ρ q 4 = (bedT W H (ρ (q + 1)) (ρ q 5)).2.1 ∧ ∀ i, 0 ≤ i → i < (bedT W H (ρ (q + 1)) (ρ q 5)).1 → ρ (q + 2) i = (bedT W H (ρ (q + 1)) (ρ q 5)).2.2 i
/-- a Flow at q, and the reference's state from s on; Y: its years -/
def FlR (W H Y : Int) (ρ τ : pm) (q : Nat) (s : Int) : Prop :=
  (∀ c, 0 ≤ c → c < 25 → τ 63 (s + c) = ρ (q + 1) c) ∧ hB (99 + 3 * Y) (ρ (q + 1)) ∧
  (0 ≤ ρ q 5 ∧ ρ q 5 < W * H ∧ τ 63 (s + 25) = ρ q 5) ∧ (0 ≤ ρ q 6 ∧ ρ q 6 ≤ 2 ∧ τ 63 (s + 26) = ρ q 6) ∧ ((ρ q 7 = 0 ∨ ρ q 7 = 1) ∧ τ 63 (s + 27) = ρ q 7) ∧ bedR W H ρ q
def seenR (x c b : Int) : Prop := 0 ≤ c ∧ c < 25 ∧ ((b = 1 ∧ x = c) ∨ (b = 0 ∧ x = c - 25))
/-- the rest of a Times at q -/
def MiR (ρ τ : pm) (q : Nat) (s : Int) : Prop :=
  (0 ≤ ρ q 4 ∧ ρ q 4 ≤ 999 ∧ τ 63 (s + 31) = ρ q 4) ∧
  (∀ f, 0 ≤ f → f < 3 → τ 63 (s + 28 + f) = ρ (q + 1) f ∧ 0 ≤ ρ (q + 1) f ∧ ρ (q + 1) f ≤ 9) ∧
  (0 ≤ ρ q 5 ∧ ρ q 5 ≤ 6 ∧ τ 63 (s + 32) = ρ q 5) ∧ (∀ i, 0 ≤ i → i < ρ q 5 → τ 63 (s + 33 + i) = ρ (q + 2) i ∧ 0 ≤ ρ (q + 2) i ∧ ρ (q + 2) i ≤ 17575) ∧
  (0 ≤ ρ q 6 ∧ ρ q 6 ≤ 8 ∧ τ 63 (s + 39) = ρ q 6) ∧ (∀ i, 0 ≤ i → i < ρ q 6 → seenR (ρ (q + 3) i) (τ 63 (s + 40 + 2 * i)) (τ 63 (s + 41 + 2 * i)))
def LdR (W H fm : Int) (ρ τ : pm) : Prop := landC ρ W H ∧ landM τ W H ∧ ρ 1 4 = fm ∧ τ 62 4 = fm ∧ (0 ≤ fm ∧ fm ≤ 3) ∧ ownOK (τ 65) ∧ grC ρ (τ 65) W H ∧ (∀ f, sm (fun c => if τ 65 c = f then 1 else 0) (W * H).toNat ≤ 8 ∨ f < 0) ∧ (∀ c, 0 ≤ c → c < W * H → τ 65 c < fm) ∧ ∀ f, 0 ≤ f → f < 3 → inR (ρ 2 f)
def ImR (W H : Int) (ρ τ : pm) (q : Nat) (s : Int) : Prop := FlR W H (ρ q 4) ρ τ (q + 4) s ∧ MiR ρ τ q s
def KpR (W H : Int) (ρ τ : pm) : Prop := (0 ≤ ρ 0 11 ∧ ρ 0 11 < 4) ∧ τ 64 0 = bt (ρ 0 11) 0 ∧ τ 64 1 = bt (ρ 0 11) 1 ∧ (bt (ρ 0 11) 0 = 1 → ImR W H ρ τ 11 56) ∧ (bt (ρ 0 11) 1 = 1 → ImR W H ρ τ 18 112)
def ShR (ρ τ : pm) : Prop := (∀ k, 0 ≤ k → k < 4 → (ρ 59 k = -1 ∧ τ 81 k = -4) ∨ (0 ≤ ρ 59 k ∧ ρ 59 k ≤ 40 ∧ τ 82 k = ρ 59 k ∧ 0 ≤ ρ 58 k ∧ ρ 58 k ≤ 2 ∧ τ 81 k = ρ 58 k)) ∧ ∀ j, 0 ≤ j → j < 160 → inR (ρ 60 j) ∧ ∀ k, 0 ≤ k → k < 4 → k * 40 ≤ j → j < k * 40 + 40 → 0 ≤ ρ 59 k → τ 83 j = ρ 60 j
def TpR (ρ τ : pm) : Prop := (0 ≤ ρ 50 1 ∧ ρ 50 1 ≤ 320 ∧ τ 62 23 = ρ 50 1) ∧ ∀ i, 0 ≤ i → i < ρ 50 1 → 0 ≤ τ 70 i ∧ τ 70 i ≤ 255 ∧ ρ 51 i = b8 (τ 70 i)
/-- the options of a farm out of the mask of its cuts: how many, which -/
def lstF (m : Int) : Nat → Int × (Int → Int)
  | 0 => (1, fun _ => 0)
  | c + 1 => if on m (c : Int) then ((lstF m c).1 + 1, up1 (lstF m c).2 (lstF m c).1 ((c : Int) + 1)) else lstF m c
def optM (W H fm : Int) (h own : Int → Int) (law b f : Int) : Int := if f < fm then canM W H h own law b f else 0
def yA (P : Int → Int × (Int → Int)) (k : Int) : Int := (P 0).2 (k % (P 0).1) + 26 * (P 1).2 (k / (P 0).1 % (P 1).1) + 676 * (P 2).2 (k / ((P 0).1 * (P 1).1))
def OutOK (W H : Int) (h : Int → Int) (sp silt : Int) (P : Int → Int × (Int → Int)) (ρ : pm) : Prop :=
  (∀ f, 0 ≤ f → f < 3 → ρ 30 f = (P f).1 ∧ ∀ p, 0 ≤ p → p < (P f).1 → ρ 29 (f * 9 + p) = (P f).2 p) ∧ ρ 31 0 = 1 ∧ ρ 31 1 = (P 0).1 ∧ ρ 31 2 = (P 0).1 * (P 1).1 ∧ ρ 28 5 = (P 0).1 * (P 1).1 * (P 2).1 ∧
  ∀ k, 0 ≤ k → k < (P 0).1 * (P 1).1 * (P 2).1 → ρ 32 k = yA P k ∧ ρ 33 k = (bedT W H (passH W H h sp silt (yA P k)) sp).2.1
def optP (W H fm : Int) (h own : Int → Int) (law b : Int) : Int → Int × (Int → Int) := fun f => lstF (optM W H fm h own law b f) 25
def OutR (W H fm : Int) (ρ τ : pm) : Prop := ρ 28 6 = 0 ∨ (ρ 28 6 = 1 ∧ OutOK W H (ρ 9) (ρ 8 5) (ρ 8 7) (optP W H fm (ρ 9) (τ 65) (ρ 8 6) (ρ 8 4)) ρ)
def RelW (W H fm : Int) (ρ τ : pm) : Prop := LdR W H fm ρ τ ∧ FlR W H (ρ 4 4) ρ τ 8 0 ∧ MiR ρ τ 4 0 ∧ KpR W H ρ τ ∧ ShR ρ τ ∧ TpR ρ τ ∧ τ 62 45 = ρ 0 13 ∧ OutR W H fm ρ τ
def Rel (ρ τ : pm) : Prop := ∃ W H fm, RelW W H fm ρ τ
/-! what the parts hang on -/
theorem bedR.keep {W H : Int} {ρ ρ' : pm} {q : Nat} (h : bedR W H ρ q) (e0 : ρ' q = ρ q) (e1 : ρ' (q + 1) = ρ (q + 1)) (e2 : ρ' (q + 2) = ρ (q + 2)) : bedR W H ρ' q := by
  unfold bedR
  rw [e0, e1, e2]
  exact h
theorem FlR.keep {W H Y : Int} {ρ τ ρ' τ' : pm} {q : Nat} {s : Int} (h : FlR W H Y ρ τ q s) (e0 : ρ' q = ρ q) (e1 : ρ' (q + 1) = ρ (q + 1)) (e2 : ρ' (q + 2) = ρ (q + 2)) (et : ∀ j, s ≤ j → j < s + 28 → τ' 63 j = τ 63 j) : FlR W H Y ρ' τ' q s := by
  obtain ⟨a1, a2, a3, a4, a5, a6⟩ := h
  unfold FlR
  rw [e0, e1, et (s + 25) (by omega) (by omega), et (s + 26) (by omega) (by omega), et (s + 27) (by omega) (by omega)]
  exact ⟨fun c c0 c1 => by rw [et (s + c) (by omega) (by omega)]; exact a1 c c0 c1, a2, a3, a4, a5, a6.keep e0 e1 e2⟩
theorem MiR.keep {ρ τ ρ' τ' : pm} {q : Nat} {s : Int} (h : MiR ρ τ q s) (e0 : ρ' q = ρ q) (e1 : ρ' (q + 1) = ρ (q + 1)) (e2 : ρ' (q + 2) = ρ (q + 2)) (e3 : ρ' (q + 3) = ρ (q + 3)) (et : ∀ j, s + 28 ≤ j → j < s + 56 → τ' 63 j = τ 63 j) : MiR ρ' τ' q s := by
  obtain ⟨a1, a2, a3, a4, a5, a6⟩ := h
  unfold MiR
  rw [e0, e1, e2, e3, et (s + 31) (by omega) (by omega), et (s + 32) (by omega) (by omega), et (s + 39) (by omega) (by omega)]
  exact ⟨a1, fun f f0 f1 => by rw [et (s + 28 + f) (by omega) (by omega)]; exact a2 f f0 f1, a3, fun i i0 i1 => by rw [et (s + 33 + i) (by omega) (by omega)]; exact a4 i i0 i1, a5, fun i i0 i1 => by rw [et (s + 40 + 2 * i) (by omega) (by omega), et (s + 41 + 2 * i) (by omega) (by omega)]; exact a6 i i0 i1⟩
theorem LdR.keep {W H fm : Int} {ρ τ ρ' τ' : pm} (h : LdR W H fm ρ τ) (e1 : ρ' 1 = ρ 1) (e2 : ρ' 2 = ρ 2) (e3 : ρ' 3 = ρ 3) (t2 : τ' 62 2 = τ 62 2) (t3 : τ' 62 3 = τ 62 3) (t4 : τ' 62 4 = τ 62 4) (t5 : τ' 65 = τ 65) : LdR W H fm ρ' τ' := by
  obtain ⟨a1, a2, a3, a4, a5, a6, a7, a8, a9, a10⟩ := h
  refine ⟨a1.keep e1 e3, a2.keep t2 t3, by rw [e1]; exact a3, by rw [t4]; exact a4, a5, by rw [t5]; exact a6, ?_, by rw [t5]; exact a8, by rw [t5]; exact a9, by rw [e2]; exact a10⟩
  unfold grC
  rw [e2, t5]
  exact a7
theorem KpR.keep {W H : Int} {ρ τ ρ' τ' : pm} (h : KpR W H ρ τ) (e0 : ρ' 0 11 = ρ 0 11) (e : ∀ q, 11 ≤ q → q ≤ 24 → ρ' q = ρ q) (t4 : τ' 64 = τ 64) (et : ∀ j, 56 ≤ j → j < 168 → τ' 63 j = τ 63 j) : KpR W H ρ' τ' := by
  obtain ⟨a1, a2, a3, a4, a5⟩ := h
  unfold KpR
  rw [e0, t4]
  refine ⟨a1, a2, a3, fun z => ?_, fun z => ?_⟩
  · obtain ⟨b1, b2⟩ := a4 z
    unfold ImR
    rw [e 11 (by omega) (by omega)]
    exact ⟨b1.keep (e _ (by omega) (by omega)) (e _ (by omega) (by omega)) (e _ (by omega) (by omega)) (fun j j0 j1 => et j (by omega) (by omega)), b2.keep (e _ (by omega) (by omega)) (e _ (by omega) (by omega)) (e _ (by omega) (by omega)) (e _ (by omega) (by omega)) (fun j j0 j1 => et j (by omega) (by omega))⟩
  · obtain ⟨b1, b2⟩ := a5 z
    unfold ImR
    rw [e 18 (by omega) (by omega)]
    exact ⟨b1.keep (e _ (by omega) (by omega)) (e _ (by omega) (by omega)) (e _ (by omega) (by omega)) (fun j j0 j1 => et j (by omega) (by omega)), b2.keep (e _ (by omega) (by omega)) (e _ (by omega) (by omega)) (e _ (by omega) (by omega)) (e _ (by omega) (by omega)) (fun j j0 j1 => et j (by omega) (by omega))⟩
theorem ShR.keep {ρ τ ρ' τ' : pm} (h : ShR ρ τ) (e8 : ρ' 58 = ρ 58) (e9 : ρ' 59 = ρ 59) (e0 : ρ' 60 = ρ 60) (t1 : τ' 81 = τ 81) (t2 : τ' 82 = τ 82) (t3 : τ' 83 = τ 83) : ShR ρ' τ' := by
  unfold ShR
  rw [e8, e9, e0, t1, t2, t3]
  exact h
theorem TpR.keep {ρ τ ρ' τ' : pm} (h : TpR ρ τ) (e0 : ρ' 50 1 = ρ 50 1) (e1 : ρ' 51 = ρ 51) (t1 : τ' 62 23 = τ 62 23) (t2 : τ' 70 = τ 70) : TpR ρ' τ' := by
  unfold TpR
  rw [e0, e1, t1, t2]
  exact h
theorem OutR.keep {W H fm : Int} {ρ τ ρ' τ' : pm} (h : OutR W H fm ρ τ) (e8 : ρ' 8 = ρ 8) (e9 : ρ' 9 = ρ 9) (e : ∀ q, 28 ≤ q → q ≤ 33 → ρ' q = ρ q) (t : τ' 65 = τ 65) : OutR W H fm ρ' τ' := by
  unfold OutR OutOK
  rw [e8, e9, t, e 28 (by omega) (by omega), e 29 (by omega) (by omega), e 30 (by omega) (by omega), e 31 (by omega) (by omega), e 32 (by omega) (by omega), e 33 (by omega) (by omega)]
  exact h
/-- cells that the relation looks at -/
def agC (ρ ρ' : pm) : Prop := ∀ q, (q ≤ 24 ∨ (28 ≤ q ∧ q ≤ 33) ∨ (50 ≤ q ∧ q ≤ 51) ∨ (57 ≤ q ∧ q ≤ 60)) → ρ' q = ρ q
def agM (τ τ' : pm) : Prop := (∀ q, ((63 ≤ q ∧ q ≤ 70) ∨ (81 ≤ q ∧ q ≤ 83)) → τ' q = τ q) ∧ ∀ j, j ≠ 31 → j ≠ 32 → τ' 62 j = τ 62 j
theorem agC.refl (ρ : pm) : agC ρ ρ := fun _ _ => rfl
theorem agM.refl (τ : pm) : agM τ τ := ⟨fun _ _ => rfl, fun _ _ _ => rfl⟩
theorem agB.agM {τ τ' : pm} (h : agB τ τ') : agM τ τ' := ⟨fun q hq => h.cell (by omega) (by omega), fun j a b => h.fld a b⟩
theorem RelW.ag {W H fm : Int} {ρ τ ρ' τ' : pm} (h : RelW W H fm ρ τ) (c : agC ρ ρ') (m : agM τ τ') : RelW W H fm ρ' τ' := by
  obtain ⟨a1, a2, a3, a4, a5, a6, a7, a8⟩ := h
  have c0 := c 0 (by omega)
  have t63 := m.1 63 (by omega)
  refine ⟨a1.keep (c _ (by omega)) (c _ (by omega)) (c _ (by omega)) (m.2 _ (by omega) (by omega)) (m.2 _ (by omega) (by omega)) (m.2 _ (by omega) (by omega)) (m.1 _ (by omega)), ?_, a3.keep (c _ (by omega)) (c _ (by omega)) (c _ (by omega)) (c _ (by omega)) (fun j _ _ => by rw [t63]), a4.keep (by rw [c0]) (fun q q0 q1 => c q (by omega)) (m.1 _ (by omega)) (fun j _ _ => by rw [t63]), a5.keep (c _ (by omega)) (c _ (by omega)) (c _ (by omega)) (m.1 _ (by omega)) (m.1 _ (by omega)) (m.1 _ (by omega)), a6.keep (by rw [c 50 (by omega)]) (c _ (by omega)) (m.2 _ (by omega) (by omega)) (m.1 _ (by omega)), by rw [m.2 45 (by omega) (by omega), c0]; exact a7, a8.keep (c _ (by omega)) (c _ (by omega)) (fun q q0 q1 => c q (by omega)) (m.1 _ (by omega))⟩
  rw [c 4 (by omega)]
  exact a2.keep (c _ (by omega)) (c _ (by omega)) (c _ (by omega)) (fun j _ _ => by rw [t63])
