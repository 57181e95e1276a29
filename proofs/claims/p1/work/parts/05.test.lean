def zi_is1 (q : Option (Nat × zi_S)) : Bool := match q with
  | some (_, _, [.inl r], _) => Nat.beq r.1 2147483649 && Nat.beq r.2 2147483649
  | _ => false
set_option maxRecDepth 100000 in
theorem zt_1 : zi_is1 (zi_run zi_mt 20000 zt_L_law (some [.inl zi_top, .inl zi_top, .inl zi_top, .inl zi_top]) 10 0 ([(0, .inr (.inr (.inr (.inl ()))))], [], [], 600000, 7302250)) = true := by decide +kernel
