/-! bitCount() counts bits -/
theorem nat_R {n : Nat} (h : n < 2147483648) : (Int32.ofInt (n : Int)).toBitVec.toNat = n := by
  have e : (Int32.ofInt (n : Int)).toBitVec = BitVec.ofNat 32 n := by
    show BitVec.ofInt 32 (n : Int) = _
    exact BitVec.ofInt_natCast 32 n
  rw [e, BitVec.toNat_ofNat]
  exact Nat.mod_eq_of_lt (by omega)
theorem toInt_nat {x : Int32} (h : x.toBitVec.toNat < 2147483648) : x.toInt = (x.toBitVec.toNat : Int) := by
  show x.toBitVec.toInt = _
  exact BitVec.toInt_eq_toNat_of_lt (by omega)
theorem band_nat {a b : Nat} (ha : a < 2147483648) (hb : b < 2147483648) : band (a : Int) (b : Int) = ((a &&& b : Nat) : Int) := by
  unfold band
  have e : (Int32.ofInt (a : Int) &&& Int32.ofInt (b : Int)).toBitVec.toNat = a &&& b := by
    rw [Int32.toBitVec_and, BitVec.toNat_and, nat_R ha, nat_R hb]
  have l : a &&& b < 2147483648 := Nat.lt_of_le_of_lt Nat.and_le_left ha
  rw [toInt_nat (by rw [e]; exact l), e]
theorem bushr_nat {a : Nat} {k : Nat} (ha : a < 2147483648) (hk : k < 32) : bushr (a : Int) (k : Int) = ((a / 2 ^ k : Nat) : Int) := by
  unfold bushr
  have key : ∀ k : Fin 32, ((Int32.ofInt (k.val : Int)).toUInt32 &&& Int32.toUInt32 31) = UInt32.ofNat k.val := by decide +kernel
  have e : (((Int32.ofInt (a : Int)).toUInt32 >>> ((Int32.ofInt (k : Int)).toUInt32 &&& Int32.toUInt32 31)).toInt32).toBitVec.toNat = a / 2 ^ k := by
    rw [key ⟨k, hk⟩]
    show ((Int32.ofInt (a : Int)).toUInt32 >>> UInt32.ofNat k).toNat = _
    rw [UInt32.toNat_shiftRight]
    have e1 : (Int32.ofInt (a : Int)).toUInt32.toNat = a := nat_R ha
    rw [e1, show (UInt32.ofNat k).toNat = k % 2 ^ 32 from rfl, Nat.shiftRight_eq_div_pow, Nat.mod_eq_of_lt (show k < 2 ^ 32 by omega), Nat.mod_eq_of_lt hk]
  have l : a / 2 ^ k < 2147483648 := Nat.lt_of_le_of_lt (Nat.div_le_self _ _) ha
  rw [toInt_nat (by rw [e]; exact l), e]
theorem and2 {k a b c d : Nat} (hb : b < 2 ^ k) (hd : d < 2 ^ k) : (2 ^ k * a + b) &&& (2 ^ k * c + d) = 2 ^ k * (a &&& c) + (b &&& d) := by
  apply Nat.eq_of_testBit_eq
  intro j
  rw [Nat.testBit_and, Nat.testBit_two_pow_mul_add _ hb, Nat.testBit_two_pow_mul_add _ hd, Nat.testBit_two_pow_mul_add _ (Nat.lt_of_le_of_lt Nat.and_le_left hb)]
  split <;> rw [Nat.testBit_and]
theorem and4 {a0 a1 a2 a3 m : Nat} (h0 : a0 < 256) (h1 : a1 < 256) (h2 : a2 < 256) (hm : m < 256) : (a0 + 256 * a1 + 65536 * a2 + 16777216 * a3) &&& (m + 256 * m + 65536 * m + 16777216 * m) = (a0 &&& m) + 256 * (a1 &&& m) + 65536 * (a2 &&& m) + 16777216 * (a3 &&& m) := by
  have e : ∀ x0 x1 x2 x3 : Nat, x0 + 256 * x1 + 65536 * x2 + 16777216 * x3 = 2 ^ 8 * (2 ^ 8 * (2 ^ 8 * x3 + x2) + x1) + x0 := by intros; omega
  rw [e, e m, and2 h0 hm, and2 h1 hm, and2 h2 hm, e]
def byA (v : Nat) : Nat := v - ((v / 2) &&& 85)
def byB (v : Nat) : Nat := (byA v &&& 51) + ((byA v / 4) &&& 51)
def byC (v : Nat) : Nat := (byB v + byB v / 16) &&& 15
def pop8 (v : Nat) : Nat := v % 2 + v / 2 % 2 + v / 4 % 2 + v / 8 % 2 + v / 16 % 2 + v / 32 % 2 + v / 64 % 2 + v / 128 % 2
theorem by_all : ∀ v : Fin 256, ((v.val / 2) &&& 85) ≤ v.val ∧ byB v.val ≤ 102 ∧ byB v.val % 16 ≤ 6 ∧ byC v.val = pop8 v.val ∧ pop8 v.val ≤ 8 := by decide +kernel
theorem by_1 : ∀ (v : Fin 128) (p : Fin 2), (v.val + 128 * p.val) &&& 85 = v.val &&& 85 := by decide +kernel
theorem by_2 : ∀ (v : Fin 64) (p : Fin 4), (v.val + 64 * p.val) &&& 51 = v.val &&& 51 := by decide +kernel
theorem by_3 : ∀ (v : Fin 112) (p : Fin 16), (v.val + 16 * p.val) &&& 15 = v.val &&& 15 := by decide +kernel
theorem bitCount_nat {x : Nat} (hx : x < 2147483648) : f_J6_bitCount (x : Int) = some ((pop8 (x % 256) + pop8 (x / 256 % 256) + pop8 (x / 65536 % 256) + pop8 (x / 16777216) : Nat) : Int) := by
  obtain ⟨x0, e0⟩ : ∃ x0, x0 = x % 256 := ⟨_, rfl⟩
  obtain ⟨x1, e1⟩ : ∃ x1, x1 = x / 256 % 256 := ⟨_, rfl⟩
  obtain ⟨x2, e2⟩ : ∃ x2, x2 = x / 65536 % 256 := ⟨_, rfl⟩
  obtain ⟨x3, e3⟩ : ∃ x3, x3 = x / 16777216 := ⟨_, rfl⟩
  rw [← e0, ← e1, ← e2, ← e3]
  have b0 : x0 < 256 := by omega
  have b1 : x1 < 256 := by omega
  have b2 : x2 < 256 := by omega
  have b3 : x3 < 128 := by omega
  have ex : x = x0 + 256 * x1 + 65536 * x2 + 16777216 * x3 := by omega
  clear e0 e1 e2 e3
  obtain ⟨p0, q0, r0, s0, t0⟩ := by_all ⟨x0, b0⟩
  obtain ⟨p1, q1, r1, s1, t1⟩ := by_all ⟨x1, b1⟩
  obtain ⟨p2, q2, r2, s2, t2⟩ := by_all ⟨x2, b2⟩
  obtain ⟨p3, q3, r3, s3, t3⟩ := by_all ⟨x3, by omega⟩
  dsimp only at p0 q0 r0 s0 t0 p1 q1 r1 s1 t1 p2 q2 r2 s2 t2 p3 q3 r3 s3 t3
  have A : (x / 2 ^ 1) &&& 1431655765 = ((x0 / 2) &&& 85) + 256 * ((x1 / 2) &&& 85) + 65536 * ((x2 / 2) &&& 85) + 16777216 * ((x3 / 2) &&& 85) := by
    have := and4 (a0 := x0 / 2 + 128 * (x1 % 2)) (a1 := x1 / 2 + 128 * (x2 % 2)) (a2 := x2 / 2 + 128 * (x3 % 2)) (a3 := x3 / 2) (m := 85) (by omega) (by omega) (by omega) (by omega)
    rw [by_1 ⟨x0 / 2, by omega⟩ ⟨x1 % 2, by omega⟩, by_1 ⟨x1 / 2, by omega⟩ ⟨x2 % 2, by omega⟩, by_1 ⟨x2 / 2, by omega⟩ ⟨x3 % 2, by omega⟩] at this
    rw [← this, show x / 2 ^ 1 = x0 / 2 + 128 * (x1 % 2) + 256 * (x1 / 2 + 128 * (x2 % 2)) + 65536 * (x2 / 2 + 128 * (x3 % 2)) + 16777216 * (x3 / 2) by omega]
  obtain ⟨y, ey⟩ : ∃ y, y = byA x0 + 256 * byA x1 + 65536 * byA x2 + 16777216 * byA x3 := ⟨_, rfl⟩
  have y0 : byA x0 < 256 := by unfold byA; omega
  have y1 : byA x1 < 256 := by unfold byA; omega
  have y2 : byA x2 < 256 := by unfold byA; omega
  have y3 : byA x3 < 128 := by unfold byA; omega
  have ey' : (x : Int) - ((x / 2 ^ 1) &&& 1431655765 : Nat) = (y : Int) := by
    rw [A, ey, ex]
    unfold byA
    omega
  have B1 : y &&& 858993459 = (byA x0 &&& 51) + 256 * (byA x1 &&& 51) + 65536 * (byA x2 &&& 51) + 16777216 * (byA x3 &&& 51) := by
    rw [ey]
    exact and4 (m := 51) y0 y1 y2 (by omega)
  have B2 : (y / 2 ^ 2) &&& 858993459 = (byA x0 / 4 &&& 51) + 256 * (byA x1 / 4 &&& 51) + 65536 * (byA x2 / 4 &&& 51) + 16777216 * (byA x3 / 4 &&& 51) := by
    have := and4 (a0 := byA x0 / 4 + 64 * (byA x1 % 4)) (a1 := byA x1 / 4 + 64 * (byA x2 % 4)) (a2 := byA x2 / 4 + 64 * (byA x3 % 4)) (a3 := byA x3 / 4) (m := 51) (by omega) (by omega) (by omega) (by omega)
    rw [by_2 ⟨byA x0 / 4, by omega⟩ ⟨byA x1 % 4, by omega⟩, by_2 ⟨byA x1 / 4, by omega⟩ ⟨byA x2 % 4, by omega⟩, by_2 ⟨byA x2 / 4, by omega⟩ ⟨byA x3 % 4, by omega⟩] at this
    rw [← this, show y / 2 ^ 2 = byA x0 / 4 + 64 * (byA x1 % 4) + 256 * (byA x1 / 4 + 64 * (byA x2 % 4)) + 65536 * (byA x2 / 4 + 64 * (byA x3 % 4)) + 16777216 * (byA x3 / 4) by omega]
  obtain ⟨z, ez⟩ : ∃ z, z = byB x0 + 256 * byB x1 + 65536 * byB x2 + 16777216 * byB x3 := ⟨_, rfl⟩
  have ez' : ((y &&& 858993459 : Nat) : Int) + ((y / 2 ^ 2) &&& 858993459 : Nat) = (z : Int) := by
    rw [B1, B2, ez]
    unfold byB
    omega
  have C : (z + z / 2 ^ 4) &&& 252645135 = byC x0 + 256 * byC x1 + 65536 * byC x2 + 16777216 * byC x3 := by
    have := and4 (a0 := byB x0 + byB x0 / 16 + 16 * (byB x1 % 16)) (a1 := byB x1 + byB x1 / 16 + 16 * (byB x2 % 16)) (a2 := byB x2 + byB x2 / 16 + 16 * (byB x3 % 16)) (a3 := byB x3 + byB x3 / 16) (m := 15) (by omega) (by omega) (by omega) (by omega)
    rw [by_3 ⟨byB x0 + byB x0 / 16, by omega⟩ ⟨byB x1 % 16, by omega⟩, by_3 ⟨byB x1 + byB x1 / 16, by omega⟩ ⟨byB x2 % 16, by omega⟩, by_3 ⟨byB x2 + byB x2 / 16, by omega⟩ ⟨byB x3 % 16, by omega⟩] at this
    unfold byC
    rw [← this, show z + z / 2 ^ 4 = byB x0 + byB x0 / 16 + 16 * (byB x1 % 16) + 256 * (byB x1 + byB x1 / 16 + 16 * (byB x2 % 16)) + 65536 * (byB x2 + byB x2 / 16 + 16 * (byB x3 % 16)) + 16777216 * (byB x3 + byB x3 / 16) by omega]
  obtain ⟨v, ev⟩ : ∃ v, v = byC x0 + 256 * byC x1 + 65536 * byC x2 + 16777216 * byC x3 := ⟨_, rfl⟩
  rw [s0, s1, s2, s3] at ev C
  unfold f_J6_bitCount
  dsimp only [jn]
  rw [show (1 : Int) = ((1 : Nat) : Int) from rfl, bushr_nat hx (by omega), show (1431655765 : Int) = ((1431655765 : Nat) : Int) from rfl, band_nat (by omega) (by omega), ey', show (858993459 : Int) = ((858993459 : Nat) : Int) from rfl, band_nat (by omega) (by omega), show (2 : Int) = ((2 : Nat) : Int) from rfl, bushr_nat (by omega) (by omega), band_nat (by omega) (by omega), ez', show (4 : Int) = ((4 : Nat) : Int) from rfl, bushr_nat (by omega) (by omega), show (z : Int) + ((z / 2 ^ 4 : Nat) : Int) = ((z + z / 2 ^ 4 : Nat) : Int) by omega, show (252645135 : Int) = ((252645135 : Nat) : Int) from rfl, band_nat (by omega) (by omega), C, ← ev, show (8 : Int) = ((8 : Nat) : Int) from rfl, bushr_nat (by omega) (by omega), show (v : Int) + ((v / 2 ^ 8 : Nat) : Int) = ((v + v / 2 ^ 8 : Nat) : Int) by omega, show (16 : Int) = ((16 : Nat) : Int) from rfl, bushr_nat (by omega) (by omega), show ((v + v / 2 ^ 8 : Nat) : Int) + (((v + v / 2 ^ 8) / 2 ^ 16 : Nat) : Int) = ((v + v / 2 ^ 8 + (v + v / 2 ^ 8) / 2 ^ 16 : Nat) : Int) by omega, show (63 : Int) = ((63 : Nat) : Int) from rfl, band_nat (by omega) (by omega)]
  have m63 : ∀ n : Nat, n &&& 63 = n % 64 := fun n => Nat.and_two_pow_sub_one_eq_mod n 6
  rw [m63]
  clear A B1 B2 C ey ey' ez ez' y0 y1 y2 y3 p0 p1 p2 p3 q0 q1 q2 q3 r0 r1 r2 r3 s0 s1 s2 s3 ex b0 b1 b2 b3 hx m63
  generalize pop8 x0 = c0 at *
  generalize pop8 x1 = c1 at *
  generalize pop8 x2 = c2 at *
  generalize pop8 x3 = c3 at *
  have g1 : v / 2 ^ 8 = c1 + 256 * c2 + 65536 * c3 := by omega
  have g2 : (v + v / 2 ^ 8) / 2 ^ 16 = c2 + c3 + 256 * c3 := by omega
  have g3 : (v + v / 2 ^ 8 + (v + v / 2 ^ 8) / 2 ^ 16) % 64 = c0 + c1 + c2 + c3 := by
    rw [g2, g1, ev]
    omega
  rw [g3]
