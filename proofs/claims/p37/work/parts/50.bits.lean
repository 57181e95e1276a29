/-! bits of masks -/
def tb (m : Int) (c : Nat) : Bool := (Int32.ofInt m).toBitVec.getLsbD c
/-- bit c of m, as a number -/
def bt (m c : Int) : Int := band (bshr m c) 1
theorem tb_toInt (x : Int32) (c : Nat) : tb x.toInt c = x.toBitVec.getLsbD c := by
  unfold tb
  rw [Int32.ofInt_toInt]
theorem tb_band (a b : Int) (c : Nat) : tb (band a b) c = (tb a c && tb b c) := by
  unfold band
  rw [tb_toInt]
  unfold tb
  rw [Int32.toBitVec_and, BitVec.getLsbD_and]
theorem tb_bor (a b : Int) (c : Nat) : tb (bor a b) c = (tb a c || tb b c) := by
  unfold bor
  rw [tb_toInt]
  unfold tb
  rw [Int32.toBitVec_or, BitVec.getLsbD_or]
theorem tb_bxor (a b : Int) (c : Nat) : tb (bxor a b) c = (tb a c ^^ tb b c) := by
  unfold bxor
  rw [tb_toInt]
  unfold tb
  rw [Int32.toBitVec_xor, BitVec.getLsbD_xor]
theorem tb_zero (c : Nat) : tb 0 c = false := by
  unfold tb
  have : (Int32.ofInt 0).toBitVec = 0#32 := by decide
  rw [this, BitVec.getLsbD_zero]
theorem tb_m1 {c : Nat} (h : c < 32) : tb (-1) c = true := by
  unfold tb
  have : (Int32.ofInt (-1)).toBitVec = BitVec.allOnes 32 := by decide
  rw [this, BitVec.getLsbD_allOnes]
  exact decide_eq_true h
theorem tb_big {m : Int} {c : Nat} (h : 32 ≤ c) : tb m c = false := by
  unfold tb
  exact BitVec.getLsbD_of_ge _ _ h
theorem tb_ext {a b : Int} (ha : inR a) (hb : inR b) (h : ∀ c : Nat, c < 32 → tb a c = tb b c) : a = b := by
  have e : (Int32.ofInt a).toBitVec = (Int32.ofInt b).toBitVec := BitVec.eq_of_getLsbD_eq (fun i hi => h i hi)
  have e2 : Int32.ofInt a = Int32.ofInt b := Int32.toBitVec.inj e
  have := congrArg Int32.toInt e2
  rw [R_ofInt ha, R_ofInt hb] at this
  exact this
theorem sh_amt {c : Int} (h : 0 ≤ c ∧ c < 32) : ((Int32.ofInt c &&& 31).toBitVec.smod 32).toNat = c.toNat := by
  obtain ⟨n, rfl⟩ : ∃ n : Nat, c = (n : Int) := ⟨c.toNat, by omega⟩
  have hn : n < 32 := by omega
  have key : ∀ k : Fin 32, ((Int32.ofInt (k.val : Int) &&& 31).toBitVec.smod 32).toNat = k.val := by decide +kernel
  have := key ⟨n, hn⟩
  simpa using this
theorem tb_shl1 {c : Int} (h : 0 ≤ c ∧ c < 32) (k : Nat) : tb (bshl 1 c) k = decide ((k : Int) = c) := by
  obtain ⟨n, rfl⟩ : ∃ n : Nat, c = (n : Int) := ⟨c.toNat, by omega⟩
  have hn : n < 32 := by omega
  by_cases hk : k < 32
  · have key : ∀ (n k : Fin 32), tb (bshl 1 (n.val : Int)) k.val = decide (k.val = n.val) := by decide +kernel
    have := key ⟨n, hn⟩ ⟨k, hk⟩
    dsimp only at this
    rw [this]
    exact decide_eq_decide.mpr ⟨fun e => by omega, fun e => by omega⟩
  · rw [tb_big (by omega)]
    exact (decide_eq_false (by omega)).symm
theorem bt_tb {m c : Int} (h : 0 ≤ c ∧ c < 32) : bt m c = if tb m c.toNat then 1 else 0 := by
  have e1 : ∀ b : BitVec 32, (b &&& 1#32) = if b.getLsbD 0 then 1#32 else 0#32 := by
    intro b
    apply BitVec.eq_of_getLsbD_eq
    intro i hi
    rw [BitVec.getLsbD_and]
    by_cases h0 : i = 0
    · subst h0
      cases b.getLsbD 0 <;> decide
    · have : (1#32).getLsbD i = false := by
        rw [BitVec.getLsbD_one]
        simp [h0]
      rw [this, Bool.and_false]
      cases b.getLsbD 0
      · simp
      · simp [this, h0]
  unfold bt band bshr
  rw [Int32.ofInt_toInt]
  have e2 : ((Int32.ofInt m >>> (Int32.ofInt c &&& 31)) &&& Int32.ofInt 1).toBitVec = if tb m c.toNat then 1#32 else 0#32 := by
    rw [Int32.toBitVec_and, show (Int32.ofInt 1).toBitVec = 1#32 from by decide, e1]
    have : (Int32.ofInt m >>> (Int32.ofInt c &&& 31)).toBitVec.getLsbD 0 = tb m c.toNat := by
      rw [Int32.toBitVec_shiftRight]
      unfold tb
      rw [BitVec.sshiftRight_eq', sh_amt h, BitVec.getLsbD_sshiftRight]
      simp
      omega
    rw [this]
  have e3 : ∀ x : Int32, x.toBitVec = (if tb m c.toNat then 1#32 else 0#32) → x.toInt = if tb m c.toNat then 1 else 0 := by
    intro x hx
    have : x.toInt = x.toBitVec.toInt := rfl
    rw [this, hx]
    cases tb m c.toNat <;> decide
  exact e3 _ e2
theorem bt_01 (m c : Int) (h : 0 ≤ c ∧ c < 32) : bt m c = 0 ∨ bt m c = 1 := by
  rw [bt_tb h]
  cases tb m c.toNat
  · exact Or.inl rfl
  · exact Or.inr rfl
