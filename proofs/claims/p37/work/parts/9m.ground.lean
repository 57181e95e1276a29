/-! ground of both -/
theorem on31 {m : Int} (h : inR m) (o : ¬ on m 31) : 0 ≤ m := by
  have e : tb m 31 = false := by
    have : ¬ tb m (Int.toNat 31) = true := fun z => o ((on_tb (m := m) (c := 31) (by omega)).mpr z)
    cases k : tb m 31 with
    | true => exact absurd k this
    | false => rfl
  unfold tb at e
  have q : (Int32.ofInt m).toInt = m := R_ofInt h
  have z : (Int32.ofInt m).toBitVec.msb = false := by
    rw [BitVec.msb_eq_getLsbD_last]
    exact e
  have := BitVec.toInt_eq_msb_cond (Int32.ofInt m).toBitVec
  rw [z] at this
  have w : (Int32.ofInt m).toInt = (Int32.ofInt m).toBitVec.toInt := rfl
  rw [w, this] at q
  rw [← q]
  exact Int.natCast_nonneg _
theorem dg_bit {ρ τ : pm} {f c : Int} (h : DgR ρ τ) (f0 : 0 ≤ f ∧ f < 3) (c0 : 0 ≤ c ∧ c < 25) : bt (ρ 55 f) c = if τ 68 c = f then 1 else 0 := by
  have k := (h.2.2.1 f f0.1 f0.2).2.2 c c0.1 (by omega)
  by_cases z : τ 68 c = f
  · rw [if_pos z]; exact k.mpr ⟨c0.2, z⟩
  · rw [if_neg z]; exact (bt_off (by omega)).mp (fun y => z (k.mp y).2)
theorem dg_count {ρ τ : pm} {f : Int} (h : DgR ρ τ) (f0 : 0 ≤ f ∧ f < 3) : f_J6_bitCount (ρ 55 f) = some (τ 69 f) := by
  have k := h.2.2.1 f f0.1 f0.2
  rw [bitCount_eq k.1.1 k.1.2, k.2.1.1]
  congr 1
  rw [sm_cut (N := 25) (by omega) (fun j j0 j1 => (bt_off (by omega)).mp (fun y => by have := ((k.2.2 (j : Int) (by omega) (by omega)).mp y).1; omega))]
  exact sm_congr (fun j hj => dg_bit h f0 (by omega))
theorem dg_has {ρ τ : pm} {c : Int} (h : DgR ρ τ) (c0 : 0 ≤ c ∧ c < 25) : ∃ v, f_X8_has (bor (bor (ρ 55 0) (ρ 55 1)) (ρ 55 2)) c = some v ∧ (v = 0 ↔ τ 68 c = -4) := by
  refine ⟨_, has_eq (by omega), ?_⟩
  rw [← bt_off (by omega), on_bor (by omega), on_bor (by omega)]
  have k0 := (h.2.2.1 0 (by omega) (by omega)).2.2 c c0.1 (by omega)
  have k1 := (h.2.2.1 1 (by omega) (by omega)).2.2 c c0.1 (by omega)
  have k2 := (h.2.2.1 2 (by omega) (by omega)).2.2 c c0.1 (by omega)
  rw [k0, k1, k2]
  have o := h.2.1 c c0.1 c0.2
  omega
theorem dg_up {ρ τ ρ' τ' : pm} {f c : Int} (h : DgR ρ τ) (f0 : 0 ≤ f ∧ f < 3) (c0 : 0 ≤ c ∧ c < 25) (hc : τ 68 c = -4) (h8 : τ 69 f < 8)
    (r6 : ρ' 52 6 = ρ 52 6) (r1 : ∀ g, g ≠ f → ρ' 55 g = ρ 55 g) (r2 : ρ' 55 f = bor (ρ 55 f) (bshl 1 c)) (t8 : τ' 62 8 = τ 62 8) (t1 : ∀ j, j ≠ c → τ' 68 j = τ 68 j) (t2 : τ' 68 c = f) (t3 : ∀ g, g ≠ f → τ' 69 g = τ 69 g) (t4 : τ' 69 f = τ 69 f + 1)
    (t5 : τ' 62 20 = if c ≤ τ 62 20 then τ 62 20 else c) (t6 : -4 ≤ τ' 62 21 ∧ τ' 62 21 ≤ 2) (t7 : ∀ n, 0 ≤ n → (τ' 62 21 < n ↔ τ 62 21 < n ∧ f < n)) : DgR ρ' τ' := by
  obtain ⟨a1, a2, a3, a4, a5, a6, a7⟩ := h
  have on' : ∀ g k, 0 ≤ g → g < 3 → 0 ≤ k → k < 32 → (on (ρ' 55 g) k ↔ k < 25 ∧ τ' 68 k = g) := fun g k g0 g1 k0 k1 => by
    have o := (a3 g g0 g1).2.2 k k0 k1
    by_cases eg : g = f
    · rw [eg, r2, on_add (by omega) (by omega)]
      rw [eg] at o
      by_cases ek : k = c
      · rw [ek, t2]; exact ⟨fun _ => ⟨c0.2, rfl⟩, fun _ => Or.inl rfl⟩
      · rw [t1 k ek, o]; exact ⟨fun z => z.elim (fun y => absurd y ek) id, Or.inr⟩
    · rw [r1 g eg, o]
      by_cases ek : k = c
      · rw [ek, t2, hc]
        exact ⟨fun z => by omega, fun z => absurd z.2.symm eg⟩
      · rw [t1 k ek]
  refine ⟨by rw [r6, t8]; exact a1, fun k k0 k1 => ?_, fun g g0 g1 => ⟨?_, ?_, fun k k0 k1 => on' g k g0 g1 k0 k1⟩, ?_, t6, fun N hN => ?_, fun n hn => ?_⟩
  · by_cases ek : k = c
    · rw [ek, t2]; omega
    · rw [t1 k ek]; exact a2 k k0 k1
  · by_cases eg : g = f
    · have R : inR (ρ' 55 f) := by rw [r2]; exact bor_R _ _
      have := on31 R (fun z => by have := ((on' f 31 f0.1 f0.2 (by omega) (by omega)).mp z).1; omega)
      rw [eg]
      exact ⟨this, by have := R.2; omega⟩
    · rw [r1 g eg]; exact (a3 g g0 g1).1
  · have e := (a3 g g0 g1).2.1
    obtain ⟨cn, ecn⟩ : ∃ cn : Nat, c = (cn : Int) := ⟨c.toNat, by omega⟩
    have u := sm_upd (f := fun k => if τ' 68 k = g then 1 else 0) (g := fun k => if τ 68 k = g then 1 else 0) (c := cn) (n := 25) (by omega) (fun j hj hne => by
      show (if τ' 68 (j : Int) = g then (1 : Int) else 0) = if τ 68 (j : Int) = g then 1 else 0
      rw [t1 (j : Int) (by omega)])
    rw [u]
    show τ' 69 g = _ + ((if τ' 68 (cn : Int) = g then (1 : Int) else 0) - (if τ 68 (cn : Int) = g then 1 else 0)) ∧ _
    rw [← ecn, t2, hc, if_neg (show ¬ (-4 : Int) = g by omega)]
    by_cases eg : g = f
    · rw [eg, t4, if_pos rfl]
      rw [eg] at e
      omega
    · rw [t3 g eg, if_neg (fun z => eg z.symm)]
      omega
  · rw [t5]; split <;> omega
  · rw [t5, r6]
    have k := a6 N hN
    constructor
    · intro y
      have y1 : τ 62 20 < N ∧ c < N := by split at y <;> omega
      refine ⟨(k.mp y1.1).1, fun j j0 j1 j2 => ?_⟩
      by_cases ej : j = c
      · rw [ej]; exact y1.2
      · rw [t1 j ej] at j2; exact (k.mp y1.1).2 j j0 j1 j2
    · intro y
      have cN := y.2 c c0.1 c0.2 (by rw [t2]; omega)
      have := k.mpr ⟨y.1, fun j j0 j1 j2 => by
        by_cases ej : j = c
        · rw [ej]; exact cN
        · exact y.2 j j0 j1 (by rw [t1 j ej]; exact j2)⟩
      split <;> omega
  · rw [t7 n hn, a7 n hn]
    constructor
    · intro y j j0 j1
      by_cases ej : j = c
      · rw [ej, t2]; exact y.2
      · rw [t1 j ej]; exact y.1 j j0 j1
    · intro y
      have cf := y c c0.1 c0.2
      rw [t2] at cf
      refine ⟨fun j j0 j1 => ?_, cf⟩
      by_cases ej : j = c
      · rw [ej, hc]; omega
      · have := y j j0 j1
        rw [t1 j ej] at this
        exact this
/-! the loops, in pieces -/
theorem grC_num {K L : pm → Option pm} {n : Nat} {f i : Int} {ρ ρ8 : pm} (hf : 0 ≤ f ∧ f < 3) (hi : 0 ≤ i ∧ i ≤ 8) (hn : f_X6_next ρ = some ρ8) (h6 : inR (ρ8 50 6)) (h3 : inR (ρ8 50 3)) (no : i = 0 ∨ ρ8 50 6 ≠ 0 ∨ ρ8 50 3 ≠ 3) : L_X1_takeGround_17 K L (n + 1) f i ρ = bn2 (f_X6_isNumber 0 24 ρ8) (fun v7 ρ8 => if v7 = 0 then some ρ8 else (f_X8_has (bor (bor (ρ8 55 0) (ρ8 55 1)) (ρ8 55 2)) (ρ8 50 5)).bind (fun v10 => if v10 = 0 then (f_J6_bitCount (ρ8 55 f)).bind (fun v13 => ck (inR v13) (if v13 < 8 then L_X1_takeGround_17 K L n f (i + 1) (pup ρ8 55 f (bor (ρ8 55 f) (bshl 1 (ρ8 50 5)))) else L ρ8)) else K ρ8)) := by
  rw [L_X1_takeGround_17, ckp (show inR i from ⟨by omega, by omega⟩), if_neg (by omega), hn, Option.bind_some]
  dsimp only [jn]
  simp only [ckp hf]
  by_cases k : i ≤ 0
  · rw [if_pos k]
  · rw [if_neg k, ckp h6]
    by_cases k2 : ρ8 50 6 = 0
    · rw [if_pos k2, ckp h3, if_neg (by omega)]
    · rw [if_neg k2]
theorem grStop {K L : pm → Option pm} {n : Nat} {f i : Int} {ρ τ : pm} (hf : 0 ≤ f ∧ f < 3) (hi : 1 ≤ i ∧ i ≤ 8) (a : AhR ρ τ) (no : τ 62 28 ≠ 0 ∨ τ 62 26 ≠ 2) : L_X1_takeGround_17 K L (n + 1) f i ρ = f_X6_nextStop ρ := by
  obtain ⟨ρ1, c1, c2, tp, c3, c4⟩ := a.next
  rcases c4 with ⟨b, b1⟩ | t
  · have r6 : inR (ρ1 50 6) := ⟨by have := b.1; omega, by have := b.1; omega⟩
    have b6 := b.1
    obtain ⟨ρ', -, d2, d3, -, -⟩ := a.bad (by omega)
    have e : ρ' = ρ1 := by rw [c1] at d3; exact (Option.some.inj d3).symm
    rw [d2, e, L_X1_takeGround_17, ckp (show inR i from ⟨by omega, by omega⟩), if_neg (by omega), c1, Option.bind_some]
    dsimp only [jn]
    rw [if_neg (by omega), ckp r6, if_neg (by omega), bad_isNumber b.1, bn2_of, i00]
  · have t' := t
    obtain ⟨b1, b2, b3, b4, b5, b6, b7, b8, b9, b10⟩ := t'
    have r3 : inR (ρ1 50 3) := ⟨by omega, by omega⟩
    unfold f_X6_nextStop
    rw [c1, Option.bind_some, b1, ckp R_0, i00, ckp r3]
    by_cases k : ρ1 50 3 = 3
    · rw [L_X1_takeGround_17, ckp (show inR i from ⟨by omega, by omega⟩), if_neg (by omega), c1, Option.bind_some]
      dsimp only [jn]
      rw [if_neg (by omega), b1, ckp R_0, i00, ckp r3, if_pos k, if_pos k]
    · rw [grC_num hf (by omega) c1 (by rw [b1]; exact R_0) r3 (by omega), if_neg k, fail_eq, Option.bind_some]
      have eN : f_X6_isNumber 0 24 ρ1 = some (0, pup (pup ρ1 50 6 2) 50 7 (ρ1 50 4)) := by
        unfold f_X6_isNumber
        dsimp only [jn]
        rw [b1, ckp R_0, i00, ckp r3, if_neg (by omega), fail_eq, Option.bind_some]
        rw [pup_off (by omega), pup_at, ckp (by decide), if_neg (by decide), ckp (by decide), if_neg (by decide)]
      rw [eN, bn2_of, i00]
theorem grM_out {m : Nat} {f s : Int} {τ : pm} (h : 1 ≤ τ 62 28 ∧ τ 62 28 ≤ 6) : L_X9_readGround_29 (m + 1) f s τ = some τ := by
  rw [L_X9_readGround_29, ckp (show inR (τ 62 28) from ⟨by omega, by omega⟩), if_neg (by omega)]
theorem grM_stop {m : Nat} {f : Int} {τ : pm} (h : τ 62 28 = 0) : L_X9_readGround_29 (m + 1) f 0 τ = some τ := by
  rw [L_X9_readGround_29, h, ckp R_0, i00, ckp R_0, i00]
theorem grM_full {m : Nat} {f : Int} {τ : pm} (hf : 0 ≤ f ∧ f < 3) (h : τ 62 28 = 0) (h26 : τ 62 26 = 2) (h69 : inR (τ 69 f)) (h8 : 8 ≤ τ 69 f) : L_X9_readGround_29 (m + 2) f 1 τ = some (pup (pup τ 62 28 5) 62 29 (τ 62 25)) := by
  have b : 1 ≤ (pup (pup τ 62 28 5) 62 29 (τ 62 25)) 62 28 ∧ (pup (pup τ 62 28 5) 62 29 (τ 62 25)) 62 28 ≤ 6 := by rw [pup_off (by omega), pup_at]; omega
  have b' : (pup (pup τ 62 28 5) 62 29 (τ 62 25)) 62 28 = 5 := by rw [pup_off (by omega), pup_at]
  rw [show m + 2 = (m + 1) + 1 from rfl, L_X9_readGround_29, h, ckp R_0, i00, ckp (by decide), i10, h26, ckp (by decide)]
  dsimp only [jn]
  rw [if_pos rfl, ckp hf, ckp h69, if_pos h8, needs_no h, Option.bind_some, bad_looked b, bn2_of, b', ckp (by decide), if_neg (by decide), ckp (by decide), if_neg (by decide), bad_next b, Option.bind_some]
  rw [show (pup (pup τ 62 28 5) 62 29 (τ 62 25)) 62 26 = 2 by rw [pup_off (by omega), pup_off (by omega)]; exact h26]
  rw [ckp (by decide), if_pos rfl, grM_out b]
theorem grM {m : Nat} {f : Int} {τ : pm} (hf : 0 ≤ f ∧ f < 3) (h : τ 62 28 = 0) (h26 : inR (τ 62 26)) (h69 : inR (τ 69 f)) (no : τ 69 f < 8 ∨ τ 62 26 ≠ 2) : L_X9_readGround_29 (m + 1) f 1 τ = bn2 (f_X9_looked 0 24 τ) (fun v10 ρ11 => ck (inR (ρ11 62 28)) (jn (fun (l1 l3 : Int) (ρ : pm) => ck (inR (ρ 62 28)) (jn (fun (l1 : Int) (ρ : pm) => (f_X9_next ρ).bind (fun ρ14 => ck (inR (ρ14 62 26)) (jn (fun (l1 s0 : Int) (ρ : pm) => L_X9_readGround_29 m l1 s0 ρ) (fun j151 => if (ρ14 62 26) = 2 then j151 l1 1 ρ14 else j151 l1 0 ρ14)))) (fun j134 => if (ρ 62 28) = 0 then ck (0 ≤ l3 ∧ l3 < 25) (jn (pup ρ 68 l3 l1) (fun ρ17 => ck (0 ≤ l1 ∧ l1 < 3) (jn (pup ρ17 69 l1 ((ρ17 69 l1) + 1)) (fun ρ19 => (f_X9_sawCell l3 ρ19).bind (fun ρ20 => j134 l1 ρ20))))) else j134 l1 ρ))) (fun j105 => if (ρ11 62 28) = 0 then ck (0 ≤ v10 ∧ v10 < 25) (ck (inR (ρ11 68 v10)) (jn (fun (l1 l3 s1 : Int) (ρ : pm) => (f_X9_needs s1 4 ρ).bind (fun ρ23 => j105 l1 l3 ρ23)) (fun j101 => if (ρ11 68 v10) = (-4) then j101 f v10 1 ρ11 else j101 f v10 0 ρ11))) else j105 f v10 ρ11))) := by
  rw [L_X9_readGround_29, h, ckp R_0, i00, ckp (by decide), i10, ckp h26]
  dsimp only [jn]
  by_cases k : τ 62 26 = 2
  · rw [if_pos k, ckp hf, ckp h69, if_neg (by omega), needs_ok (by decide) (by decide), Option.bind_some]
  · rw [if_neg k, needs_ok (by decide) (by decide), Option.bind_some]
