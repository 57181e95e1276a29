/-! the law: its blocks (by program) -/
theorem lq_0 : (0 : Int32) = Int32.ofInt 0 := by decide
theorem lq_1 : (1 : Int32) = Int32.ofInt 1 := by decide
theorem lq_2 : (2 : Int32) = Int32.ofInt 2 := by decide
theorem lq_3 : (3 : Int32) = Int32.ofInt 3 := by decide
theorem lq_4 : (4 : Int32) = Int32.ofInt 4 := by decide
theorem lq_5 : (5 : Int32) = Int32.ofInt 5 := by decide
theorem lq_32 : (32 : Int32) = Int32.ofInt 32 := by decide
theorem lq_63 : (63 : Int32) = Int32.ofInt 63 := by decide
theorem lqL_4294967295 : (4294967295 : Int64) = Int64.ofInt 4294967295 := by decide
theorem lq_same {lc : ci_L} {sk : List Value} {w : ci_W} {nx tg : Nat} {a : Int32} : ci_ic (fun x y => decide (x = y)) tg nx (lc, .int a :: .int a :: sk, w) = some (tg, lc, sk, w) := by
  unfold ci_ic
  dsimp only
  rw [decide_eq_true rfl]
  rfl
theorem lq_lcmp {lc : ci_L} {sk : List Value} {w : ci_W} {nx : Nat} {a : Int64} : ci_lcmp nx (lc, .long a :: .long a :: sk, w) = some (nx, lc, .int 0 :: sk, w) := by
  unfold ci_lcmp
  dsimp only
  have : lg_cmp a a = 0 := by
    unfold lg_cmp
    rw [if_neg Int64.lt_irrefl, if_pos rfl]
  rw [this]
theorem lq_if0 {lc : ci_L} {sk : List Value} {w : ci_W} {nx tg : Nat} : ci_if (fun x => decide (x = 0)) tg nx (lc, .int 0 :: sk, w) = some (tg, lc, sk, w) := rfl
theorem pk_sw (ρ τ : pm) : pk true ρ τ = pk false τ ρ := pk_flip true ρ τ
def lawP : Option Value → ci_W → Prop := fun v _ => v = some (.int 1)
