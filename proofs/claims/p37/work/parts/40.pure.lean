/-! THE FLAT WALK: what a method does, as a function of ints and of the memory (a cell and a place give an int); checks where the machine's numbers must be in range -/
abbrev pm : Type := Nat → Int → Int
abbrev inR (x : Int) : Prop := -2147483648 ≤ x ∧ x ≤ 2147483647
abbrev inL (x : Int) : Prop := -9223372036854775808 ≤ x ∧ x ≤ 9223372036854775807
def ck {α : Type} (P : Prop) [Decidable P] (x : Option α) : Option α := if P then x else none
def jn {α β : Type} (k : α) (f : α → Option β) : Option β := f k
def bn2 {β : Type} (x : Option (Int × pm)) (k : Int → pm → Option β) : Option β := x.bind (fun p => k p.1 p.2)
def fu : Nat := 100000
theorem ck_some {α : Type} {P : Prop} [Decidable P] {x : Option α} {r : α} (h : ck P x = some r) : P ∧ x = some r := by
  unfold ck at h
  by_cases hp : P
  · rw [if_pos hp] at h; exact ⟨hp, h⟩
  · rw [if_neg hp] at h; cases h
theorem jn_some {α β : Type} {k : α} {f : α → Option β} {r : β} (h : jn k f = some r) : f k = some r := h
theorem bn_some {α β : Type} {x : Option α} {k : α → Option β} {r : β} (h : x.bind k = some r) : ∃ v, x = some v ∧ k v = some r := by
  cases x with
  | none => cases h
  | some v => exact ⟨v, rfl, h⟩
theorem bn2_some {β : Type} {x : Option (Int × pm)} {k : Int → pm → Option β} {r : β} (h : bn2 x k = some r) : ∃ v ρ, x = some (v, ρ) ∧ k v ρ = some r := by
  cases x with
  | none => cases h
  | some v => exact ⟨v.1, v.2, rfl, h⟩
def band (x y : Int) : Int := (Int32.ofInt x &&& Int32.ofInt y).toInt
def bor (x y : Int) : Int := (Int32.ofInt x ||| Int32.ofInt y).toInt
def bxor (x y : Int) : Int := (Int32.ofInt x ^^^ Int32.ofInt y).toInt
def bshl (x y : Int) : Int := (Int32.ofInt x <<< (Int32.ofInt y &&& 31)).toInt
def bshr (x y : Int) : Int := (Int32.ofInt x >>> (Int32.ofInt y &&& 31)).toInt
def bushr (x y : Int) : Int := (((Int32.ofInt x).toUInt32 >>> ((Int32.ofInt y).toUInt32 &&& Int32.toUInt32 31)).toInt32).toInt
def b8 (x : Int) : Int := (Int32.ofInt x).toInt8.toInt
def s16 (x : Int) : Int := (Int32.ofInt x).toInt16.toInt
def land64 (x y : Int) : Int := (Int64.ofInt x &&& Int64.ofInt y).toInt
def lor64 (x y : Int) : Int := (Int64.ofInt x ||| Int64.ofInt y).toInt
def lshl64 (x y : Int) : Int := (Int64.ofInt x <<< ((Int32.ofInt y).toInt64 &&& 63)).toInt
def lshr64 (x y : Int) : Int := (Int64.ofInt x >>> ((Int32.ofInt y).toInt64 &&& 63)).toInt
def lcm64 (x y : Int) : Int := if x > y then 1 else if x = y then 0 else -1
theorem R_toInt (x : Int32) : inR x.toInt := by
  have h1 := x.le_toInt
  have h2 := x.toInt_lt
  exact ⟨by omega, by omega⟩
theorem L_toInt (x : Int64) : inL x.toInt := by
  have h1 := x.le_toInt
  have h2 := x.toInt_lt
  exact ⟨by omega, by omega⟩
theorem band_R (x y : Int) : inR (band x y) := R_toInt _
theorem bor_R (x y : Int) : inR (bor x y) := R_toInt _
theorem bxor_R (x y : Int) : inR (bxor x y) := R_toInt _
theorem bshl_R (x y : Int) : inR (bshl x y) := R_toInt _
theorem bshr_R (x y : Int) : inR (bshr x y) := R_toInt _
theorem bushr_R (x y : Int) : inR (bushr x y) := R_toInt _
theorem b8_bd (x : Int) : -128 ≤ b8 x ∧ b8 x ≤ 127 := by
  have h1 := (Int32.ofInt x).toInt8.le_toInt
  have h2 := (Int32.ofInt x).toInt8.toInt_lt
  exact ⟨by unfold b8; omega, by unfold b8; omega⟩
theorem b8_R (x : Int) : inR (b8 x) := by
  have := b8_bd x
  exact ⟨by omega, by omega⟩
theorem s16_bd (x : Int) : -32768 ≤ s16 x ∧ s16 x ≤ 32767 := by
  have h1 := (Int32.ofInt x).toInt16.le_toInt
  have h2 := (Int32.ofInt x).toInt16.toInt_lt
  exact ⟨by unfold s16; omega, by unfold s16; omega⟩
theorem s16_R (x : Int) : inR (s16 x) := by
  have := s16_bd x
  exact ⟨by omega, by omega⟩
theorem lcm64_R (x y : Int) : inR (lcm64 x y) := by
  unfold lcm64
  split
  · exact ⟨by decide, by decide⟩
  · split
    · exact ⟨by decide, by decide⟩
    · exact ⟨by decide, by decide⟩
theorem R_ofInt {x : Int} (h : inR x) : (Int32.ofInt x).toInt = x := Int32.toInt_ofInt_of_le (by have := h.1; omega) (by have := h.2; omega)
theorem L_ofInt {x : Int} (h : inL x) : (Int64.ofInt x).toInt = x := Int64.toInt_ofInt_of_le (by have := h.1; omega) (by have := h.2; omega)
def pup (ρ : pm) (q : Nat) (i x : Int) : pm := fun q' j => if q' = q ∧ j = i then x else ρ q' j
def pcp (ρ : pm) (q0 : Nat) (sp : Int) (q1 : Nat) (dp n : Int) : pm := fun q' j => if q' = q1 ∧ dp ≤ j ∧ j < dp + n then ρ q0 (sp + (j - dp)) else ρ q' j
section PE
variable {lc : ci_L} {sk : List Value} {w : ci_W} {nx tg : Nat} {x y : Int}
theorem pe_push {c : Int32} (h : c = Int32.ofInt x) : ci_push (.int c) nx (lc, sk, w) = some (nx, lc, .int (Int32.ofInt x) :: sk, w) := by rw [h]; rfl
theorem pe_pushl {c : Int64} (h : c = Int64.ofInt x) : ci_push (.long c) nx (lc, sk, w) = some (nx, lc, .long (Int64.ofInt x) :: sk, w) := by rw [h]; rfl
theorem pe_inc {i : Nat} {n : Int} (h : ci_get lc i = some (.int (Int32.ofInt x))) : ci_inc i n nx (lc, sk, w) = some (nx, ci_st1 lc i (.int (Int32.ofInt (x + n))), sk, w) := by
  unfold ci_inc
  dsimp only
  rw [h, Int32.ofInt_add]
theorem pe_iadd : ci_bin (fun a b => a + b) nx (lc, .int (Int32.ofInt y) :: .int (Int32.ofInt x) :: sk, w) = some (nx, lc, .int (Int32.ofInt (x + y)) :: sk, w) := by rw [Int32.ofInt_add]; rfl
theorem pe_isub : ci_bin (fun a b => a - b) nx (lc, .int (Int32.ofInt y) :: .int (Int32.ofInt x) :: sk, w) = some (nx, lc, .int (Int32.ofInt (x - y)) :: sk, w) := by rw [Int32.ofInt_sub]; rfl
theorem pe_imul : ci_bin (fun a b => a * b) nx (lc, .int (Int32.ofInt y) :: .int (Int32.ofInt x) :: sk, w) = some (nx, lc, .int (Int32.ofInt (x * y)) :: sk, w) := by rw [Int32.ofInt_mul]; rfl
theorem pe_iand : ci_bin (fun a b => a &&& b) nx (lc, .int (Int32.ofInt y) :: .int (Int32.ofInt x) :: sk, w) = some (nx, lc, .int (Int32.ofInt (band x y)) :: sk, w) := by unfold band; rw [Int32.ofInt_toInt]; rfl
theorem pe_ior : ci_bin (fun a b => a ||| b) nx (lc, .int (Int32.ofInt y) :: .int (Int32.ofInt x) :: sk, w) = some (nx, lc, .int (Int32.ofInt (bor x y)) :: sk, w) := by unfold bor; rw [Int32.ofInt_toInt]; rfl
theorem pe_ixor : ci_bin (fun a b => a ^^^ b) nx (lc, .int (Int32.ofInt y) :: .int (Int32.ofInt x) :: sk, w) = some (nx, lc, .int (Int32.ofInt (bxor x y)) :: sk, w) := by unfold bxor; rw [Int32.ofInt_toInt]; rfl
theorem pe_ishl : ci_bin (fun a b => a <<< (b &&& 31)) nx (lc, .int (Int32.ofInt y) :: .int (Int32.ofInt x) :: sk, w) = some (nx, lc, .int (Int32.ofInt (bshl x y)) :: sk, w) := by unfold bshl; rw [Int32.ofInt_toInt]; rfl
theorem pe_ishr : ci_bin (fun a b => a >>> (b &&& 31)) nx (lc, .int (Int32.ofInt y) :: .int (Int32.ofInt x) :: sk, w) = some (nx, lc, .int (Int32.ofInt (bshr x y)) :: sk, w) := by unfold bshr; rw [Int32.ofInt_toInt]; rfl
theorem pe_iushr : ci_bin (fun a b => (a.toUInt32 >>> (b.toUInt32 &&& Int32.toUInt32 31)).toInt32) nx (lc, .int (Int32.ofInt y) :: .int (Int32.ofInt x) :: sk, w) = some (nx, lc, .int (Int32.ofInt (bushr x y)) :: sk, w) := by unfold bushr; rw [Int32.ofInt_toInt]; rfl
theorem pe_ofInt0 (h : inR y) (h0 : y ≠ 0) : ¬ Int32.ofInt y = 0 := by
  intro e
  apply h0
  have := congrArg Int32.toInt e
  rw [R_ofInt h] at this
  exact this
theorem pe_ofInt0l (h : inL y) (h0 : y ≠ 0) : ¬ Int64.ofInt y = 0 := by
  intro e
  apply h0
  have := congrArg Int64.toInt e
  rw [L_ofInt h] at this
  exact this
theorem pe_div (hx : inR x) (hy : inR y) : Int32.ofInt x / Int32.ofInt y = Int32.ofInt (x.tdiv y) := (Int32.ofInt_tdiv hx.1 hx.2 hy.1 hy.2).symm
theorem pe_divl (hx : inL x) (hy : inL y) : Int64.ofInt x / Int64.ofInt y = Int64.ofInt (x.tdiv y) := (Int64.ofInt_tdiv hx.1 hx.2 hy.1 hy.2).symm
theorem pe_idiv (h : inR x ∧ inR y ∧ y ≠ 0) : ci_dv (fun a b => a / b) nx (lc, .int (Int32.ofInt y) :: .int (Int32.ofInt x) :: sk, w) = some (nx, lc, .int (Int32.ofInt (x.tdiv y)) :: sk, w) := by
  unfold ci_dv
  dsimp only
  rw [if_neg (pe_ofInt0 h.2.1 h.2.2), pe_div h.1 h.2.1]
theorem pe_irem (h : inR x ∧ inR y ∧ y ≠ 0) : ci_dv (fun a b => a - a / b * b) nx (lc, .int (Int32.ofInt y) :: .int (Int32.ofInt x) :: sk, w) = some (nx, lc, .int (Int32.ofInt (x.tmod y)) :: sk, w) := by
  unfold ci_dv
  dsimp only
  rw [if_neg (pe_ofInt0 h.2.1 h.2.2), pe_div h.1 h.2.1, ← Int32.ofInt_mul, ← Int32.ofInt_sub, Int.tmod_def, Int.mul_comm y]
theorem pe_ldiv (h : inL x ∧ inL y ∧ y ≠ 0) : ci_dvl (fun a b => a / b) nx (lc, .long (Int64.ofInt y) :: .long (Int64.ofInt x) :: sk, w) = some (nx, lc, .long (Int64.ofInt (x.tdiv y)) :: sk, w) := by
  unfold ci_dvl
  dsimp only
  rw [if_neg (pe_ofInt0l h.2.1 h.2.2), pe_divl h.1 h.2.1]
theorem pe_lrem (h : inL x ∧ inL y ∧ y ≠ 0) : ci_dvl (fun a b => a - a / b * b) nx (lc, .long (Int64.ofInt y) :: .long (Int64.ofInt x) :: sk, w) = some (nx, lc, .long (Int64.ofInt (x.tmod y)) :: sk, w) := by
  unfold ci_dvl
  dsimp only
  rw [if_neg (pe_ofInt0l h.2.1 h.2.2), pe_divl h.1 h.2.1, ← Int64.ofInt_mul, ← Int64.ofInt_sub, Int.tmod_def, Int.mul_comm y]
theorem pe_ladd : ci_binl (fun a b => a + b) nx (lc, .long (Int64.ofInt y) :: .long (Int64.ofInt x) :: sk, w) = some (nx, lc, .long (Int64.ofInt (x + y)) :: sk, w) := by rw [Int64.ofInt_add]; rfl
theorem pe_land : ci_binl (fun a b => a &&& b) nx (lc, .long (Int64.ofInt y) :: .long (Int64.ofInt x) :: sk, w) = some (nx, lc, .long (Int64.ofInt (land64 x y)) :: sk, w) := by unfold land64; rw [Int64.ofInt_toInt]; rfl
theorem pe_lor : ci_binl (fun a b => a ||| b) nx (lc, .long (Int64.ofInt y) :: .long (Int64.ofInt x) :: sk, w) = some (nx, lc, .long (Int64.ofInt (lor64 x y)) :: sk, w) := by unfold lor64; rw [Int64.ofInt_toInt]; rfl
theorem pe_lshl : ci_shfl (fun a b => a <<< (b.toInt64 &&& 63)) nx (lc, .int (Int32.ofInt y) :: .long (Int64.ofInt x) :: sk, w) = some (nx, lc, .long (Int64.ofInt (lshl64 x y)) :: sk, w) := by unfold lshl64; rw [Int64.ofInt_toInt]; rfl
theorem pe_lshr : ci_shfl (fun a b => a >>> (b.toInt64 &&& 63)) nx (lc, .int (Int32.ofInt y) :: .long (Int64.ofInt x) :: sk, w) = some (nx, lc, .long (Int64.ofInt (lshr64 x y)) :: sk, w) := by unfold lshr64; rw [Int64.ofInt_toInt]; rfl
theorem pe_lcmp (h : inL x ∧ inL y) : ci_lcmp nx (lc, .long (Int64.ofInt y) :: .long (Int64.ofInt x) :: sk, w) = some (nx, lc, .int (Int32.ofInt (lcm64 x y)) :: sk, w) := by
  have e : lg_cmp (Int64.ofInt x) (Int64.ofInt y) = Int32.ofInt (lcm64 x y) := by
    have h1 : (Int64.ofInt x > Int64.ofInt y) ↔ x > y := Int64.ofInt_lt_iff_lt h.2.1 h.2.2 h.1.1 h.1.2
    have h2 : (Int64.ofInt x = Int64.ofInt y) ↔ x = y := ⟨fun e => by have := congrArg Int64.toInt e; rw [L_ofInt h.1, L_ofInt h.2] at this; exact this, fun e => by rw [e]⟩
    unfold lg_cmp lcm64
    by_cases c1 : x > y
    · rw [if_pos (h1.mpr c1), if_pos c1]; decide
    · rw [if_neg (fun z => c1 (h1.mp z)), if_neg c1]
      by_cases c2 : x = y
      · rw [if_pos (h2.mpr c2), if_pos c2]; decide
      · rw [if_neg (fun z => c2 (h2.mp z)), if_neg c2]; decide
  unfold ci_lcmp
  dsimp only
  rw [e]
theorem pe_i2l (h : inR x) : ci_i2l nx (lc, .int (Int32.ofInt x) :: sk, w) = some (nx, lc, .long (Int64.ofInt x) :: sk, w) := by
  unfold ci_i2l
  dsimp only
  rw [Int32.toInt64_ofInt h.1 h.2]
theorem pe_l2i : ci_l2i nx (lc, .long (Int64.ofInt x) :: sk, w) = some (nx, lc, .int (Int32.ofInt x) :: sk, w) := by
  unfold ci_l2i
  dsimp only
  rw [Int64.toInt32_ofInt]
theorem pe_i2b : ci_un (fun x => x.toInt8.toInt32) nx (lc, .int (Int32.ofInt x) :: sk, w) = some (nx, lc, .int (Int32.ofInt (b8 x)) :: sk, w) := rfl
theorem pe_i2s : ci_un (fun x => x.toInt16.toInt32) nx (lc, .int (Int32.ofInt x) :: sk, w) = some (nx, lc, .int (Int32.ofInt (s16 x)) :: sk, w) := rfl
theorem pe_lt (hx : inR x) (hy : inR y) : decide (Int32.ofInt x < Int32.ofInt y) = decide (x < y) := decide_eq_decide.mpr (Int32.ofInt_lt_iff_lt hx.1 hx.2 hy.1 hy.2)
theorem pe_le (hx : inR x) (hy : inR y) : decide (Int32.ofInt x ≤ Int32.ofInt y) = decide (x ≤ y) := decide_eq_decide.mpr (Int32.ofInt_le_iff_le hx.1 hx.2 hy.1 hy.2)
theorem pe_eq (hx : inR x) (hy : inR y) : decide (Int32.ofInt x = Int32.ofInt y) = decide (x = y) := decide_eq_decide.mpr ⟨fun e => by have := congrArg Int32.toInt e; rw [R_ofInt hx, R_ofInt hy] at this; exact this, fun e => by rw [e]⟩
theorem R_0 : inR 0 := ⟨by decide, by decide⟩
theorem Z_0 : (0 : Int32) = Int32.ofInt 0 := by decide
theorem pe_ic_lt (hx : inR x) (hy : inR y) : ci_ic (fun x y => decide (x < y)) tg nx (lc, .int (Int32.ofInt y) :: .int (Int32.ofInt x) :: sk, w) = some (bif decide (x < y) then tg else nx, lc, sk, w) := by
  unfold ci_ic; dsimp only; rw [pe_lt hx hy]
theorem pe_ic_ge (hx : inR x) (hy : inR y) : ci_ic (fun x y => decide (y ≤ x)) tg nx (lc, .int (Int32.ofInt y) :: .int (Int32.ofInt x) :: sk, w) = some (bif decide (y ≤ x) then tg else nx, lc, sk, w) := by
  unfold ci_ic; dsimp only; rw [pe_le hy hx]
theorem pe_ic_le (hx : inR x) (hy : inR y) : ci_ic (fun x y => decide (x ≤ y)) tg nx (lc, .int (Int32.ofInt y) :: .int (Int32.ofInt x) :: sk, w) = some (bif decide (x ≤ y) then tg else nx, lc, sk, w) := by
  unfold ci_ic; dsimp only; rw [pe_le hx hy]
theorem pe_ic_gt (hx : inR x) (hy : inR y) : ci_ic (fun x y => decide (y < x)) tg nx (lc, .int (Int32.ofInt y) :: .int (Int32.ofInt x) :: sk, w) = some (bif decide (y < x) then tg else nx, lc, sk, w) := by
  unfold ci_ic; dsimp only; rw [pe_lt hy hx]
theorem pe_ic_eq (hx : inR x) (hy : inR y) : ci_ic (fun x y => decide (x = y)) tg nx (lc, .int (Int32.ofInt y) :: .int (Int32.ofInt x) :: sk, w) = some (bif decide (x = y) then tg else nx, lc, sk, w) := by
  unfold ci_ic; dsimp only; rw [pe_eq hx hy]
theorem pe_ic_ne (hx : inR x) (hy : inR y) : ci_ic (fun x y => !decide (x = y)) tg nx (lc, .int (Int32.ofInt y) :: .int (Int32.ofInt x) :: sk, w) = some (bif !decide (x = y) then tg else nx, lc, sk, w) := by
  unfold ci_ic; dsimp only; rw [pe_eq hx hy]
theorem pe_if_lt (hx : inR x) : ci_if (fun x => decide (x < 0)) tg nx (lc, .int (Int32.ofInt x) :: sk, w) = some (bif decide (x < 0) then tg else nx, lc, sk, w) := by
  unfold ci_if; dsimp only; rw [Z_0, pe_lt hx R_0]
theorem pe_if_ge (hx : inR x) : ci_if (fun x => decide (0 ≤ x)) tg nx (lc, .int (Int32.ofInt x) :: sk, w) = some (bif decide (0 ≤ x) then tg else nx, lc, sk, w) := by
  unfold ci_if; dsimp only; rw [Z_0, pe_le R_0 hx]
theorem pe_if_le (hx : inR x) : ci_if (fun x => decide (x ≤ 0)) tg nx (lc, .int (Int32.ofInt x) :: sk, w) = some (bif decide (x ≤ 0) then tg else nx, lc, sk, w) := by
  unfold ci_if; dsimp only; rw [Z_0, pe_le hx R_0]
theorem pe_if_gt (hx : inR x) : ci_if (fun x => decide (0 < x)) tg nx (lc, .int (Int32.ofInt x) :: sk, w) = some (bif decide (0 < x) then tg else nx, lc, sk, w) := by
  unfold ci_if; dsimp only; rw [Z_0, pe_lt R_0 hx]
theorem pe_if_eq (hx : inR x) : ci_if (fun x => decide (x = 0)) tg nx (lc, .int (Int32.ofInt x) :: sk, w) = some (bif decide (x = 0) then tg else nx, lc, sk, w) := by
  unfold ci_if; dsimp only; rw [Z_0, pe_eq hx R_0]
theorem pe_if_ne (hx : inR x) : ci_if (fun x => !decide (x = 0)) tg nx (lc, .int (Int32.ofInt x) :: sk, w) = some (bif !decide (x = 0) then tg else nx, lc, sk, w) := by
  unfold ci_if; dsimp only; rw [Z_0, pe_eq hx R_0]
def tswp (lo : Int) (ts : List Nat) (df : Nat) (x : Int) : Nat := if x < lo then df else (ts[(x - lo).toNat]?).getD df
theorem pe_tsw {lo hi : Int} {ts : List Nat} {df : Nat} (hx : inR x) (hh : hi - lo + 1 = (ts.length : Int)) : ci_tsw lo hi ts df (lc, .int (Int32.ofInt x) :: sk, w) = some (tswp lo ts df x, lc, sk, w) := by
  unfold ci_tsw tswp
  dsimp only
  rw [R_ofInt hx]
  by_cases c1 : x < lo
  · rw [if_pos (Or.inl c1), if_pos c1]
  · rw [if_neg c1]
    by_cases c2 : hi < x
    · rw [if_pos (Or.inr c2), List.getElem?_eq_none (by omega)]; rfl
    · rw [if_neg (by omega)]
      have hl : (x - lo).toNat < ts.length := by omega
      rw [List.getElem?_eq_getElem hl]; rfl
theorem tswp_df {lo hi : Int} {ts : List Nat} {df : Nat} (hh : hi - lo + 1 = (ts.length : Int)) (h : x < lo ∨ hi < x) : tswp lo ts df x = df := by
  unfold tswp
  by_cases c1 : x < lo
  · rw [if_pos c1]
  · rw [if_neg c1, List.getElem?_eq_none (by omega)]; rfl
end PE
section PT
variable {y : MethodName} {cc : ByteArray} {nL : Nat} {ret : Option FieldType} {d pc tg nx : Nat} {Post : Option Value → ci_W → Prop}
/-- fewer locals -/
theorem ci_T.sub {l l' : ci_L} {sk : List Value} {w : ci_W} (ps : List Nat) (k : ci_T y cc nL ret d pc (l', sk, w) Post) (h : lv_pick l ps = l') : ci_T y cc nL ret d pc (l, sk, w) Post := by
  intro p l0 e R s m args below meth c D A b ads tys X Q H locs cells slots ls sk' hc hs hR kk
  obtain ⟨ws, hl, hsk, hw⟩ := hR
  refine k p l0 e R s m args below meth c D A b ads tys X Q H locs cells slots ls sk' hc hs ⟨ws, ⟨hl.1, hl.2.1, fun q hq => ?_⟩, hsk, hw⟩ kk
  obtain ⟨q0, hq0, rfl⟩ := List.mem_map.mp hq
  subst h
  obtain ⟨j, -, hj⟩ := List.mem_filterMap.mp hq0
  exact hl.2.2 _ (List.mem_map.mpr ⟨q0, List.mem_of_getElem? hj, rfl⟩)
theorem pbr {α : Type} {P : Prop} [Decidable P] {A B : Option α} {r : α} {st : ci_S} (h : (if P then A else B) = some r) (h1 : P → A = some r → ci_T y cc nL ret d tg st Post) (h2 : ¬ P → B = some r → ci_T y cc nL ret d nx st Post) : ci_T y cc nL ret d (bif decide P then tg else nx) st Post := by
  by_cases c : P
  · rw [if_pos c] at h; rw [decide_eq_true c]; exact h1 c h
  · rw [if_neg c] at h; rw [decide_eq_false c]; exact h2 c h
/-- not equal: the branch goes where the condition fails -/
theorem pbrn {α : Type} {P : Prop} [Decidable P] {A B : Option α} {r : α} {st : ci_S} (h : (if P then B else A) = some r) (h1 : ¬ P → A = some r → ci_T y cc nL ret d tg st Post) (h2 : P → B = some r → ci_T y cc nL ret d nx st Post) : ci_T y cc nL ret d (bif !decide P then tg else nx) st Post := by
  by_cases c : P
  · rw [if_pos c] at h; rw [decide_eq_true c]; exact h2 c h
  · rw [if_neg c] at h; rw [decide_eq_false c]; exact h1 c h
theorem pite {α : Type} {P : Prop} [Decidable P] {A B : Option α} {r : α} {G : Prop} (h : (if P then A else B) = some r) (h1 : P → A = some r → G) (h2 : ¬ P → B = some r → G) : G := by
  by_cases c : P
  · rw [if_pos c] at h; exact h1 c h
  · rw [if_neg c] at h; exact h2 c h
end PT
