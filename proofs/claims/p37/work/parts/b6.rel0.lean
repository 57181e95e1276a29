/-! both are alike behind the constructors -/
set_option maxRecDepth 100000 in
theorem r0_2 : ∀ i : Fin 3, r0 2 (i.val : Int) = 0 := by decide +kernel
set_option maxRecDepth 100000 in
theorem r0_3 : ∀ (c : Fin 9) (s : Fin 4), r0 3 ((c.val : Int) * 4 + (s.val : Int)) = nbr 3 3 (c.val : Int) (s.val : Int) := by decide +kernel
set_option maxRecDepth 100000 in
theorem r0_5 : ∀ i : Fin 3, r0 5 (i.val : Int) = 0 := by decide +kernel
set_option maxRecDepth 100000 in
theorem r0_9 : ∀ i : Fin 25, r0 9 (i.val : Int) = 0 := by decide +kernel
set_option maxRecDepth 100000 in
theorem r0_63 : ∀ i : Fin 56, r0 63 (i.val : Int) = 0 := by decide +kernel
set_option maxRecDepth 100000 in
theorem r0_65 : ∀ i : Fin 25, r0 65 (i.val : Int) = -4 := by decide +kernel
set_option maxRecDepth 100000 in
theorem r0_59 : ∀ i : Fin 4, r0 59 (i.val : Int) = -1 := by decide +kernel
set_option maxRecDepth 100000 in
theorem r0_81 : ∀ i : Fin 4, r0 81 (i.val : Int) = -4 := by decide +kernel
set_option maxRecDepth 100000 in
theorem r0_60 : ∀ i : Fin 160, r0 60 (i.val : Int) = 0 := by decide +kernel
set_option maxRecDepth 100000 in
theorem r0_64 : ∀ i : Fin 2, r0 64 (i.val : Int) = 0 := by decide +kernel
set_option maxRecDepth 100000 in
theorem r0_f : r0 1 2 = 3 ∧ r0 1 3 = 3 ∧ r0 1 4 = 0 ∧ r0 62 2 = 3 ∧ r0 62 3 = 3 ∧ r0 62 4 = 0 ∧ r0 4 4 = 0 ∧ r0 4 5 = 0 ∧ r0 4 6 = 0 ∧ r0 8 5 = 0 ∧ r0 8 6 = 0 ∧ r0 8 7 = 0 ∧ r0 0 11 = 0 ∧ r0 0 13 = 0 ∧ r0 62 45 = 0 ∧ r0 50 1 = 0 ∧ r0 62 23 = 0 ∧ r0 28 6 = 0 := by decide +kernel
set_option maxRecDepth 100000 in
theorem r0_bed : r0 8 3 = (bedT 3 3 (fun _ => 0) 0).1 ∧ r0 8 4 = (bedT 3 3 (fun _ => 0) 0).2.1 ∧ (bedT 3 3 (fun _ => 0) 0).1 = 9 ∧ ∀ i : Fin 9, r0 10 (i.val : Int) = (bedT 3 3 (fun _ => 0) 0).2.2 (i.val : Int) := by decide +kernel
theorem fin_i {n : Nat} {i : Int} (h0 : 0 ≤ i) (h1 : i < (n : Int)) {P : Int → Prop} (h : ∀ k : Fin n, P (k.val : Int)) : P i := by
  have := h ⟨i.toNat, by omega⟩
  dsimp only at this
  rw [Int.toNat_of_nonneg h0] at this
  exact this
theorem rel0 {ρ : pm} (E : ∀ q i, rng q i → ρ q i = r0 q i) : Rel ρ ρ := by
  obtain ⟨f1, f2, f3, f4, f5, f6, f7, f8, f9, f10, f11, f12, f13, f14, f15, f16, f17, f18⟩ := r0_f
  obtain ⟨b1, b2, b3, b4⟩ := r0_bed
  have hw : wh 3 3 := ⟨by decide, by decide⟩
  have e12 : ρ 1 2 = 3 := (E 1 2 ⟨by decide, rfl⟩).trans f1
  have e13 : ρ 1 3 = 3 := (E 1 3 ⟨by decide, rfl⟩).trans f2
  have e14 : ρ 1 4 = 0 := (E 1 4 ⟨by decide, rfl⟩).trans f3
  have m2 : ρ 62 2 = 3 := (E 62 2 ⟨by decide, rfl⟩).trans f4
  have m3 : ρ 62 3 = 3 := (E 62 3 ⟨by decide, rfl⟩).trans f5
  have m4 : ρ 62 4 = 0 := (E 62 4 ⟨by decide, rfl⟩).trans f6
  have e44 : ρ 4 4 = 0 := (E 4 4 ⟨by decide, rfl⟩).trans f7
  have e45 : ρ 4 5 = 0 := (E 4 5 ⟨by decide, rfl⟩).trans f8
  have e46 : ρ 4 6 = 0 := (E 4 6 ⟨by decide, rfl⟩).trans f9
  have e85 : ρ 8 5 = 0 := (E 8 5 ⟨by decide, rfl⟩).trans f10
  have e86 : ρ 8 6 = 0 := (E 8 6 ⟨by decide, rfl⟩).trans f11
  have e87 : ρ 8 7 = 0 := (E 8 7 ⟨by decide, rfl⟩).trans f12
  have e83 : ρ 8 3 = _ := (E 8 3 ⟨by decide, rfl⟩).trans b1
  have e84 : ρ 8 4 = _ := (E 8 4 ⟨by decide, rfl⟩).trans b2
  have e011 : ρ 0 11 = 0 := (E 0 11 ⟨by decide, rfl⟩).trans f13
  have e013 : ρ 0 13 = 0 := (E 0 13 ⟨by decide, rfl⟩).trans f14
  have m45 : ρ 62 45 = 0 := (E 62 45 ⟨by decide, rfl⟩).trans f15
  have e501 : ρ 50 1 = 0 := (E 50 1 ⟨by decide, rfl⟩).trans f16
  have m23 : ρ 62 23 = 0 := (E 62 23 ⟨by decide, rfl⟩).trans f17
  have e286 : ρ 28 6 = 0 := (E 28 6 ⟨by decide, rfl⟩).trans f18
  have v2 : ∀ i, 0 ≤ i → i < 3 → ρ 2 i = 0 := fun i h0 h1 => (E 2 i ⟨h0, h1⟩).trans (fin_i (n := 3) h0 h1 (P := fun i => r0 2 i = 0) r0_2)
  have v5 : ∀ i, 0 ≤ i → i < 3 → ρ 5 i = 0 := fun i h0 h1 => (E 5 i ⟨h0, h1⟩).trans (fin_i (n := 3) h0 h1 (P := fun i => r0 5 i = 0) r0_5)
  have v9 : ∀ i, 0 ≤ i → i < 25 → ρ 9 i = 0 := fun i h0 h1 => (E 9 i ⟨h0, h1⟩).trans (fin_i (n := 25) h0 h1 (P := fun i => r0 9 i = 0) r0_9)
  have v63 : ∀ i, 0 ≤ i → i < 56 → ρ 63 i = 0 := fun i h0 h1 => (E 63 i ⟨h0, show i < 168 by omega⟩).trans (fin_i (n := 56) h0 h1 (P := fun i => r0 63 i = 0) r0_63)
  have v65 : ∀ i, 0 ≤ i → i < 25 → ρ 65 i = -4 := fun i h0 h1 => (E 65 i ⟨h0, h1⟩).trans (fin_i (n := 25) h0 h1 (P := fun i => r0 65 i = -4) r0_65)
  have v59 : ∀ i, 0 ≤ i → i < 4 → ρ 59 i = -1 := fun i h0 h1 => (E 59 i ⟨h0, h1⟩).trans (fin_i (n := 4) h0 h1 (P := fun i => r0 59 i = -1) r0_59)
  have v81 : ∀ i, 0 ≤ i → i < 4 → ρ 81 i = -4 := fun i h0 h1 => (E 81 i ⟨h0, h1⟩).trans (fin_i (n := 4) h0 h1 (P := fun i => r0 81 i = -4) r0_81)
  have v60 : ∀ i, 0 ≤ i → i < 160 → ρ 60 i = 0 := fun i h0 h1 => (E 60 i ⟨h0, h1⟩).trans (fin_i (n := 160) h0 h1 (P := fun i => r0 60 i = 0) r0_60)
  have v64 : ∀ i, 0 ≤ i → i < 2 → ρ 64 i = 0 := fun i h0 h1 => (E 64 i ⟨h0, h1⟩).trans (fin_i (n := 2) h0 h1 (P := fun i => r0 64 i = 0) r0_64)
  have v3 : ∀ c s, 0 ≤ c → c < 9 → 0 ≤ s → s < 4 → ρ 3 (c * 4 + s) = nbr 3 3 c s := fun c s c0 c1 s0 s1 => by
    rw [E 3 (c * 4 + s) ⟨by omega, show c * 4 + s < 100 by omega⟩]
    exact fin_i (n := 4) s0 s1 (P := fun s => r0 3 (c * 4 + s) = nbr 3 3 c s) (fun k => fin_i (n := 9) c0 c1 (P := fun c => r0 3 (c * 4 + (k.val : Int)) = nbr 3 3 c (k.val : Int)) (fun j => r0_3 j k))
  have v10 : ∀ i, 0 ≤ i → i < 9 → ρ 10 i = (bedT 3 3 (fun _ => 0) 0).2.2 i := fun i h0 h1 => (E 10 i ⟨h0, show i < 25 by omega⟩).trans (fin_i (n := 9) h0 h1 (P := fun i => r0 10 i = (bedT 3 3 (fun _ => 0) 0).2.2 i) b4)
  have bc : bedT 3 3 (ρ 9) 0 = bedT 3 3 (fun _ => 0) 0 := bedT_congr (fun c c0 c1 => v9 c c0 c1) hw (by decide) (by decide)
  refine ⟨3, 3, 0, ⟨⟨hw, e12, e13, fun c s c0 c1 s0 s1 => v3 c s c0 (by omega) s0 s1⟩, ⟨hw, m2, m3⟩, e14, m4, by omega, fun c c0 c1 => Or.inl (v65 c c0 c1), ?_, fun f => ?_, fun c c0 c1 => by rw [v65 c c0 (by omega)]; decide, fun f f0 f1 => by rw [v2 f f0 f1]; decide⟩, ?_, ?_, ?_, ?_, ?_, ?_, Or.inl e286⟩
  · intro f c f0 f1 c0 c1
    rw [v2 f f0 f1]
    refine ⟨fun z => absurd z (on_zero ⟨c0, c1⟩), fun z => ?_⟩
    have := v65 c c0 (by omega)
    omega
  · by_cases f0 : f < 0
    · exact Or.inr f0
    · left
      have := (sm_bd (f := fun c => if ρ 65 c = f then 1 else 0) (a := 0) (b := 0) (n := (3 * 3 : Int).toNat) (fun j hj => by
        show 0 ≤ (if ρ 65 (j : Int) = f then (1 : Int) else 0) ∧ (if ρ 65 (j : Int) = f then (1 : Int) else 0) ≤ 0
        have hj' : j < 9 := hj
        rw [v65 (j : Int) (by omega) (by omega), if_neg (by omega)]
        omega)).2
      omega
  · refine ⟨fun c c0 c1 => ?_, fun c c0 c1 => ?_, ⟨by rw [e85]; omega, by rw [e85]; omega, by rw [e85]; exact v63 _ (by omega) (by omega)⟩, ⟨by rw [e86]; omega, by rw [e86]; omega, by rw [e86]; exact v63 _ (by omega) (by omega)⟩, ⟨Or.inl e87, by rw [e87]; exact v63 _ (by omega) (by omega)⟩, ?_⟩
    · rw [v63 (0 + c) (by omega) (by omega)]; exact (v9 c c0 c1).symm
    · show 0 ≤ ρ 9 c ∧ ρ 9 c ≤ 99 + 3 * ρ 4 4
      rw [v9 c c0 c1, e44]; omega
    · unfold bedR
      rw [e85, show ρ (8 + 1) = ρ 9 from rfl, bc]
      refine ⟨e83, e84, fun i i0 i1 => v10 i i0 (by omega)⟩
  · unfold MiR
    rw [e44, e45, e46]
    refine ⟨⟨by omega, by omega, v63 _ (by omega) (by omega)⟩, fun f f0 f1 => ?_, ⟨by omega, by omega, v63 _ (by omega) (by omega)⟩, fun i i0 i1 => by omega, ⟨by omega, by omega, v63 _ (by omega) (by omega)⟩, fun i i0 i1 => by omega⟩
    rw [show ρ (4 + 1) f = 0 from v5 f f0 f1, v63 (0 + 28 + f) (by omega) (by omega)]
    omega
  · unfold KpR
    rw [e011]
    have z0 : bt 0 0 = 0 := bt_zero (by omega)
    have z1 : bt 0 1 = 0 := bt_zero (by omega)
    rw [z0, z1]
    exact ⟨by omega, v64 0 (by omega) (by omega), v64 1 (by omega) (by omega), fun z => by omega, fun z => by omega⟩
  · refine ⟨fun k k0 k1 => Or.inl ⟨v59 k k0 k1, v81 k k0 k1⟩, fun j j0 j1 => ⟨by rw [v60 j j0 j1]; decide, fun k k0 k1 _ _ z => ?_⟩⟩
    rw [v59 k k0 k1] at z
    omega
  · unfold TpR
    rw [e501, m23]
    exact ⟨by omega, fun i i0 i1 => by omega⟩
  · rw [m45, e013]
