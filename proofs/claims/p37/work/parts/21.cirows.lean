/-! an instruction, a row, of the pure walk -/
section CIns
variable {y : MethodName} {cc : ByteArray} {nL pc nx : Nat}
theorem cr_aload_n {k : Fin 4} {i : Nat} (hd : decode cc pc = .ok (.aload_n k, 1)) (hi : (k : Nat) = i) (hn : pc + 1 = nx) : ci_ok y cc nL pc (ci_load 2 i nx) := by
  subst hn
  refine ci_load_ok (fun p l e R s m args below meth c H locs cells slots Q ls rest x hx hb hk hl k => ?_)
  cases x with
  | ref a => exact lv_aload_n hx hb hd hi hl k
  | null => exact lv_aload_nN hx hb hd hi hl k
  | _ => cases hk
theorem cr_aload {i : Nat} (hd : decode cc pc = .ok (.aload i, 2)) (hn : pc + 2 = nx) : ci_ok y cc nL pc (ci_load 2 i nx) := by
  subst hn
  refine ci_load_ok (fun p l e R s m args below meth c H locs cells slots Q ls rest x hx hb hk hl k => ?_)
  cases x with
  | ref a => exact lv_aload hx hb hd hl k
  | null => exact lv_aloadN hx hb hd hl k
  | _ => cases hk
theorem cr_iload_n {k : Fin 4} {i : Nat} (hd : decode cc pc = .ok (.iload_n k, 1)) (hi : (k : Nat) = i) (hn : pc + 1 = nx) : ci_ok y cc nL pc (ci_load 0 i nx) := by
  subst hn
  refine ci_load_ok (fun p l e R s m args below meth c H locs cells slots Q ls rest x hx hb hk hl k => ?_)
  cases x with
  | int a => exact lv_iload_n hx hb hd hi hl k
  | _ => cases hk
theorem cr_iload {i : Nat} (hd : decode cc pc = .ok (.iload i, 2)) (hn : pc + 2 = nx) : ci_ok y cc nL pc (ci_load 0 i nx) := by
  subst hn
  refine ci_load_ok (fun p l e R s m args below meth c H locs cells slots Q ls rest x hx hb hk hl k => ?_)
  cases x with
  | int a => exact lv_iload hx hb hd hl k
  | _ => cases hk
theorem cr_lload_n {k : Fin 4} {i : Nat} (hd : decode cc pc = .ok (.lload_n k, 1)) (hi : (k : Nat) = i) (hn : pc + 1 = nx) : ci_ok y cc nL pc (ci_load 1 i nx) := by
  subst hn
  refine ci_load_ok (fun p l e R s m args below meth c H locs cells slots Q ls rest x hx hb hk hl k => ?_)
  cases x with
  | long a => exact lv_lload_n hx hb hd hi hl k
  | _ => cases hk
theorem cr_lload {i : Nat} (hd : decode cc pc = .ok (.lload i, 2)) (hn : pc + 2 = nx) : ci_ok y cc nL pc (ci_load 1 i nx) := by
  subst hn
  refine ci_load_ok (fun p l e R s m args below meth c H locs cells slots Q ls rest x hx hb hk hl k => ?_)
  cases x with
  | long a => exact lv_lload hx hb hd hl k
  | _ => cases hk
theorem cr_istore_n {k : Fin 4} {i : Nat} (hd : decode cc pc = .ok (.istore_n k, 1)) (hi : (k : Nat) = i) (hb0 : i < nL) (hn : pc + 1 = nx) : ci_ok y cc nL pc (ci_store 0 i nx) := by
  subst hn
  refine ci_store_ok (fun p l e R s m args below meth c H locs cells slots Q ls rest x lv hx hb hk hl k => ?_)
  cases x with
  | int a => exact lv_istore_n hx hb hd hi hl hb0 rfl k
  | _ => cases hk
theorem cr_istore {i : Nat} (hd : decode cc pc = .ok (.istore i, 2)) (hb0 : i < nL) (hn : pc + 2 = nx) : ci_ok y cc nL pc (ci_store 0 i nx) := by
  subst hn
  refine ci_store_ok (fun p l e R s m args below meth c H locs cells slots Q ls rest x lv hx hb hk hl k => ?_)
  cases x with
  | int a => exact lv_istore hx hb hd hl hb0 rfl k
  | _ => cases hk
theorem cr_astore_n {k : Fin 4} {i : Nat} (hd : decode cc pc = .ok (.astore_n k, 1)) (hi : (k : Nat) = i) (hb0 : i < nL) (hn : pc + 1 = nx) : ci_ok y cc nL pc (ci_store 2 i nx) := by
  subst hn
  refine ci_store_ok (fun p l e R s m args below meth c H locs cells slots Q ls rest x lv hx hb hk hl k => ?_)
  cases x with
  | ref a => exact lv_astore_n hx hb hd hi hl hb0 rfl k
  | null => exact lv_astore_nN hx hb hd hi hl hb0 rfl k
  | _ => cases hk
theorem cr_astore {i : Nat} (hd : decode cc pc = .ok (.astore i, 2)) (hb0 : i < nL) (hn : pc + 2 = nx) : ci_ok y cc nL pc (ci_store 2 i nx) := by
  subst hn
  refine ci_store_ok (fun p l e R s m args below meth c H locs cells slots Q ls rest x lv hx hb hk hl k => ?_)
  cases x with
  | ref a => exact lv_astore hx hb hd hl hb0 rfl k
  | null => exact lv_astoreN hx hb hd hl hb0 rfl k
  | _ => cases hk
theorem cr_lstore {i : Nat} (hd : decode cc pc = .ok (.lstore i, 2)) (hb0 : i + 1 < nL) (hn : pc + 2 = nx) : ci_ok y cc nL pc (ci_storel i nx) := by
  subst hn
  exact ci_storel_ok (fun p l e R s m args below meth c H locs cells slots Q ls rest x lv hx hb hl k => lv_lstore hx hb hd hl hb0 rfl k)
theorem cr_lstore_n {k : Fin 4} {i : Nat} (hd : decode cc pc = .ok (.lstore_n k, 1)) (hi : (k : Nat) = i) (hb0 : i + 1 < nL) (hn : pc + 1 = nx) : ci_ok y cc nL pc (ci_storel i nx) := by
  subst hn
  exact ci_storel_ok (fun p l e R s m args below meth c H locs cells slots Q ls rest x lv hx hb hl k => lv_lstore_n hx hb hd hi hl hb0 rfl k)
theorem cr_iconst {n : Int} (hd : decode cc pc = .ok (.iconst n, 1)) (hn : pc + 1 = nx) : ci_ok y cc nL pc (ci_push (.int (Int32.ofInt n)) nx) := by
  subst hn
  exact ci_push_ok (fun _ _ => rfl) (fun p l e R s m args below meth c H locs cells slots Q ls rest hx hb k => lv_iconst hx hb hd rfl k)
theorem cr_bipush {n : Int} {v : Int32} (hd : decode cc pc = .ok (.bipush n, 2)) (hv : (Int8.ofInt n).toInt32 = v) (hn : pc + 2 = nx) : ci_ok y cc nL pc (ci_push (.int v) nx) := by
  subst hn
  exact ci_push_ok (fun _ _ => rfl) (fun p l e R s m args below meth c H locs cells slots Q ls rest hx hb k => lv_bipush hx hb hd hv k)
theorem cr_sipush {n : Int} {v : Int32} (hd : decode cc pc = .ok (.sipush n, 3)) (hv : (Int16.ofInt n).toInt32 = v) (hn : pc + 3 = nx) : ci_ok y cc nL pc (ci_push (.int v) nx) := by
  subst hn
  exact ci_push_ok (fun _ _ => rfl) (fun p l e R s m args below meth c H locs cells slots Q ls rest hx hb k => lv_sipush hx hb hd hv k)
theorem cr_lconst {n : Fin 2} {v : Int64} (hd : decode cc pc = .ok (.lconst n, 1)) (hv : Int64.ofNat (n : Nat) = v) (hn : pc + 1 = nx) : ci_ok y cc nL pc (ci_push (.long v) nx) := by
  subst hn
  exact ci_push_ok (fun _ _ => rfl) (fun p l e R s m args below meth c H locs cells slots Q ls rest hx hb k => lv_lconst hx hb hd hv k)
theorem cr_null (hd : decode cc pc = .ok (.aconst_null, 1)) (hn : pc + 1 = nx) : ci_ok y cc nL pc (ci_push .null nx) := by
  subst hn
  exact ci_push_ok (fun _ _ => rfl) (fun p l e R s m args below meth c H locs cells slots Q ls rest hx hb k => lv_null hx hb hd k)
theorem cr_pool {v : Value} (hv : ∀ b ads, ci_t b ads v = v) (hr : ∀ (p : Program) (l : Launch) (e : Env) (R : Room) (s : State) (m : MethodId) (args : Array Value) (below : List Frame) (meth : Method) (c : Code) (H : Heap) (locs : List Loc) (cells slots : Nat) (Q : State → Prop) (ls : Array Slot) (rest : List Value), p.tables.exec = Jvm.exec → c.code = cc → s.vm.findClass y.cls = some m.cls → (∀ w ∈ zi_G, w.before args s = true) →
    W p l e R s m args below meth c H locs cells slots Q (F0 m nx ls (v :: rest)) → W p l e R s m args below meth c H locs cells slots Q (F0 m pc ls rest)) : ci_ok y cc nL pc (ci_push v nx) := by
  intro p l e R s m args below meth c D A b d ads tys X st pc' st' hf Q H locs cells slots ls sk hR k
  obtain ⟨lc, stk, w⟩ := st
  obtain ⟨ws, hl, rfl, hw⟩ := hR
  cases hf
  exact hr p l e R s m args below meth c H locs cells slots Q ls _ X.1 X.2.1 X.2.2.2.1 X.2.2.2.2.1 (k _ _ _ _ ⟨ws, hl, by show _ = List.map _ (v :: stk); rw [List.map_cons, hv], hw⟩)
theorem cr_ldc_w {i : Nat} {v : Int32} (hl : Cond.constant y.cls i v ∈ zi_G) (hd : decode cc pc = .ok (.ldc_w i, 3)) (hn : pc + 3 = nx) : ci_ok y cc nL pc (ci_push (.int v) nx) := by
  subst hn
  exact cr_pool (fun _ _ => rfl) (fun p l e R s m args below meth c H locs cells slots Q ls rest hx hb ho ht k => lv_ldcw hx hb ho (ht _ hl) hd k)
theorem cr_ldc2 {i : Nat} {v : Int64} (hl : Cond.constantLong y.cls i v ∈ zi_G) (hd : decode cc pc = .ok (.ldc2_w i, 3)) (hn : pc + 3 = nx) : ci_ok y cc nL pc (ci_push (.long v) nx) := by
  subst hn
  exact cr_pool (fun _ _ => rfl) (fun p l e R s m args below meth c H locs cells slots Q ls rest hx hb ho ht k => lv_ldc2 hx hb ho (ht _ hl) hd k)
/-- two ints, one int -/
theorem cr_bin {g : Int32 → Int32 → Int32} (hr : ∀ x y : Int32, zi_row cc pc nx [.int y, .int x] [.int (g x y)]) : ci_ok y cc nL pc (ci_bin g nx) := by
  refine ci_stk_ok (fun lc sk w r h => ?_)
  unfold ci_bin at h
  split at h
  · rename_i lc2 y2 x2 t w2 heq
    cases heq
    cases h
    exact ⟨[.int y2, .int x2], [.int (g x2 y2)], t, nx, rfl, rfl, fun _ _ => ⟨rfl, rfl⟩, hr x2 y2⟩
  · cases h
theorem cr_dv {g : Int32 → Int32 → Int32} (hr : ∀ x y : Int32, ¬ y = 0 → zi_row cc pc nx [.int y, .int x] [.int (g x y)]) : ci_ok y cc nL pc (ci_dv g nx) := by
  refine ci_stk_ok (fun lc sk w r h => ?_)
  unfold ci_dv at h
  split at h
  · rename_i lc2 y2 x2 t w2 heq
    cases heq
    split at h
    · cases h
    · rename_i h0
      cases h
      exact ⟨[.int y2, .int x2], [.int (g x2 y2)], t, nx, rfl, rfl, fun _ _ => ⟨rfl, rfl⟩, hr x2 y2 h0⟩
  · cases h
theorem cr_binl {g : Int64 → Int64 → Int64} (hr : ∀ x y : Int64, zi_row cc pc nx [.long y, .long x] [.long (g x y)]) : ci_ok y cc nL pc (ci_binl g nx) := by
  refine ci_stk_ok (fun lc sk w r h => ?_)
  unfold ci_binl at h
  split at h
  · rename_i lc2 y2 x2 t w2 heq
    cases heq
    cases h
    exact ⟨[.long y2, .long x2], [.long (g x2 y2)], t, nx, rfl, rfl, fun _ _ => ⟨rfl, rfl⟩, hr x2 y2⟩
  · cases h
theorem cr_dvl {g : Int64 → Int64 → Int64} (hr : ∀ x y : Int64, ¬ y = 0 → zi_row cc pc nx [.long y, .long x] [.long (g x y)]) : ci_ok y cc nL pc (ci_dvl g nx) := by
  refine ci_stk_ok (fun lc sk w r h => ?_)
  unfold ci_dvl at h
  split at h
  · rename_i lc2 y2 x2 t w2 heq
    cases heq
    split at h
    · cases h
    · rename_i h0
      cases h
      exact ⟨[.long y2, .long x2], [.long (g x2 y2)], t, nx, rfl, rfl, fun _ _ => ⟨rfl, rfl⟩, hr x2 y2 h0⟩
  · cases h
theorem cr_shfl {g : Int64 → Int32 → Int64} (hr : ∀ (x : Int64) (y : Int32), zi_row cc pc nx [.int y, .long x] [.long (g x y)]) : ci_ok y cc nL pc (ci_shfl g nx) := by
  refine ci_stk_ok (fun lc sk w r h => ?_)
  unfold ci_shfl at h
  split at h
  · rename_i lc2 y2 x2 t w2 heq
    cases heq
    cases h
    exact ⟨[.int y2, .long x2], [.long (g x2 y2)], t, nx, rfl, rfl, fun _ _ => ⟨rfl, rfl⟩, hr x2 y2⟩
  · cases h
theorem cr_lcmp (hd : decode cc pc = .ok (.lcmp, 1)) (hn : pc + 1 = nx) : ci_ok y cc nL pc (ci_lcmp nx) := by
  subst hn
  refine ci_stk_ok (fun lc sk w r h => ?_)
  unfold ci_lcmp at h
  split at h
  · rename_i lc2 y2 x2 t w2 heq
    cases heq
    cases h
    exact ⟨[.long y2, .long x2], [.int (lg_cmp x2 y2)], t, _, rfl, rfl, fun _ _ => ⟨rfl, rfl⟩, fun p l e R s m args below meth c H locs cells slots Q ls rest hx hb k => W.lcmp hx hb hd k⟩
  · cases h
theorem cr_i2l (hd : decode cc pc = .ok (.i2l, 1)) (hn : pc + 1 = nx) : ci_ok y cc nL pc (ci_i2l nx) := by
  subst hn
  refine ci_stk_ok (fun lc sk w r h => ?_)
  unfold ci_i2l at h
  split at h
  · rename_i lc2 x2 t w2 heq
    cases heq
    cases h
    exact ⟨[.int x2], [.long x2.toInt64], t, _, rfl, rfl, fun _ _ => ⟨rfl, rfl⟩, fun p l e R s m args below meth c H locs cells slots Q ls rest hx hb k => lv_i2l hx hb hd rfl k⟩
  · cases h
theorem cr_l2i (hd : decode cc pc = .ok (.l2i, 1)) (hn : pc + 1 = nx) : ci_ok y cc nL pc (ci_l2i nx) := by
  subst hn
  refine ci_stk_ok (fun lc sk w r h => ?_)
  unfold ci_l2i at h
  split at h
  · rename_i lc2 x2 t w2 heq
    cases heq
    cases h
    exact ⟨[.long x2], [.int x2.toInt32], t, _, rfl, rfl, fun _ _ => ⟨rfl, rfl⟩, fun p l e R s m args below meth c H locs cells slots Q ls rest hx hb k => lv_l2i hx hb hd rfl k⟩
  · cases h
theorem cr_un {g : Int32 → Int32} (hr : ∀ x : Int32, zi_row cc pc nx [.int x] [.int (g x)]) : ci_ok y cc nL pc (ci_un g nx) := by
  refine ci_stk_ok (fun lc sk w r h => ?_)
  unfold ci_un at h
  split at h
  · rename_i lc2 x2 t w2 heq
    cases heq
    cases h
    exact ⟨[.int x2], [.int (g x2)], t, nx, rfl, rfl, fun _ _ => ⟨rfl, rfl⟩, hr x2⟩
  · cases h
/-- branches -/
theorem cr_if {g : Int32 → Bool} {tg : Nat} (hr : ∀ (p : Program) (l : Launch) (e : Env) (R : Room) (s : State) (m : MethodId) (args : Array Value) (below : List Frame) (meth : Method) (c : Code) (H : Heap) (locs : List Loc) (cells slots : Nat) (Q : State → Prop) (ls : Array Slot) (rest : List Value) (x : Int32), p.tables.exec = Jvm.exec → c.code = cc →
      (g x = true → W p l e R s m args below meth c H locs cells slots Q (F0 m tg ls rest)) → (g x = false → W p l e R s m args below meth c H locs cells slots Q (F0 m nx ls rest)) → W p l e R s m args below meth c H locs cells slots Q (F0 m pc ls (.int x :: rest))) : ci_ok y cc nL pc (ci_if g tg nx) := by
  refine ci_stk_ok (fun lc sk w r h => ?_)
  unfold ci_if at h
  split at h
  · rename_i lc2 x2 t w2 heq
    cases heq
    cases h
    refine ⟨[.int x2], [], t, _, rfl, rfl, fun _ _ => ⟨rfl, rfl⟩, fun p l e R s m args below meth c H locs cells slots Q ls rest hx hb k => ?_⟩
    refine hr p l e R s m args below meth c H locs cells slots Q ls rest x2 hx hb (fun q => ?_) (fun q => ?_)
    · rw [q] at k; exact k
    · rw [q] at k; exact k
  · cases h
theorem cr_ic {g : Int32 → Int32 → Bool} {tg : Nat} (hr : ∀ (p : Program) (l : Launch) (e : Env) (R : Room) (s : State) (m : MethodId) (args : Array Value) (below : List Frame) (meth : Method) (c : Code) (H : Heap) (locs : List Loc) (cells slots : Nat) (Q : State → Prop) (ls : Array Slot) (rest : List Value) (x y : Int32), p.tables.exec = Jvm.exec → c.code = cc →
      (g x y = true → W p l e R s m args below meth c H locs cells slots Q (F0 m tg ls rest)) → (g x y = false → W p l e R s m args below meth c H locs cells slots Q (F0 m nx ls rest)) → W p l e R s m args below meth c H locs cells slots Q (F0 m pc ls (.int y :: .int x :: rest))) : ci_ok y cc nL pc (ci_ic g tg nx) := by
  refine ci_stk_ok (fun lc sk w r h => ?_)
  unfold ci_ic at h
  split at h
  · rename_i lc2 y2 x2 t w2 heq
    cases heq
    cases h
    refine ⟨[.int y2, .int x2], [], t, _, rfl, rfl, fun _ _ => ⟨rfl, rfl⟩, fun p l e R s m args below meth c H locs cells slots Q ls rest hx hb k => ?_⟩
    refine hr p l e R s m args below meth c H locs cells slots Q ls rest x2 y2 hx hb (fun q => ?_) (fun q => ?_)
    · rw [q] at k; exact k
    · rw [q] at k; exact k
  · cases h
theorem cr_if_eq {off : Int} {tg : Nat} (hd : decode cc pc = .ok (.ifCond .eq off, 3)) (ht : (pc : Int) + off = (tg : Int)) (hn : pc + 3 = nx) : ci_ok y cc nL pc (ci_if (fun x => decide (x = 0)) tg nx) := by
  subst hn
  exact cr_if (fun p l e R s m args below meth c H locs cells slots Q ls rest x hx hb k1 k2 => lv_if_eq hx hb hd ht (fun h => k1 (decide_eq_true h)) (fun h => k2 (decide_eq_false h)))
theorem cr_if_ne {off : Int} {tg : Nat} (hd : decode cc pc = .ok (.ifCond .ne off, 3)) (ht : (pc : Int) + off = (tg : Int)) (hn : pc + 3 = nx) : ci_ok y cc nL pc (ci_if (fun x => !decide (x = 0)) tg nx) := by
  subst hn
  exact cr_if (fun p l e R s m args below meth c H locs cells slots Q ls rest x hx hb k1 k2 => lv_if_ne hx hb hd ht (fun h => k1 (by rw [decide_eq_false h]; rfl)) (fun h => k2 (by rw [decide_eq_true h]; rfl)))
theorem cr_if_lt {off : Int} {tg : Nat} (hd : decode cc pc = .ok (.ifCond .lt off, 3)) (ht : (pc : Int) + off = (tg : Int)) (hn : pc + 3 = nx) : ci_ok y cc nL pc (ci_if (fun x => decide (x < 0)) tg nx) := by
  subst hn
  exact cr_if (fun p l e R s m args below meth c H locs cells slots Q ls rest x hx hb k1 k2 => lv_if_lt hx hb hd ht (fun h => k1 (decide_eq_true h)) (fun h => k2 (decide_eq_false h)))
theorem cr_if_ge {off : Int} {tg : Nat} (hd : decode cc pc = .ok (.ifCond .ge off, 3)) (ht : (pc : Int) + off = (tg : Int)) (hn : pc + 3 = nx) : ci_ok y cc nL pc (ci_if (fun x => decide (0 ≤ x)) tg nx) := by
  subst hn
  exact cr_if (fun p l e R s m args below meth c H locs cells slots Q ls rest x hx hb k1 k2 => lv_if_ge hx hb hd ht (fun h => k1 (decide_eq_true h)) (fun h => k2 (decide_eq_false h)))
theorem cr_if_le {off : Int} {tg : Nat} (hd : decode cc pc = .ok (.ifCond .le off, 3)) (ht : (pc : Int) + off = (tg : Int)) (hn : pc + 3 = nx) : ci_ok y cc nL pc (ci_if (fun x => decide (x ≤ 0)) tg nx) := by
  subst hn
  exact cr_if (fun p l e R s m args below meth c H locs cells slots Q ls rest x hx hb k1 k2 => lv_if_le hx hb hd ht (fun h => k1 (decide_eq_true h)) (fun h => k2 (decide_eq_false h)))
theorem cr_if_gt {off : Int} {tg : Nat} (hd : decode cc pc = .ok (.ifCond .gt off, 3)) (ht : (pc : Int) + off = (tg : Int)) (hn : pc + 3 = nx) : ci_ok y cc nL pc (ci_if (fun x => decide (0 < x)) tg nx) := by
  subst hn
  exact cr_if (fun p l e R s m args below meth c H locs cells slots Q ls rest x hx hb k1 k2 => lv_if_gt hx hb hd ht (fun h => k1 (decide_eq_true h)) (fun h => k2 (decide_eq_false h)))
theorem cr_ic_eq {off : Int} {tg : Nat} (hd : decode cc pc = .ok (.if_icmp .eq off, 3)) (ht : (pc : Int) + off = (tg : Int)) (hn : pc + 3 = nx) : ci_ok y cc nL pc (ci_ic (fun x y => decide (x = y)) tg nx) := by
  subst hn
  exact cr_ic (fun p l e R s m args below meth c H locs cells slots Q ls rest x y hx hb k1 k2 => lv_icmp_eq hx hb hd ht (fun h => k1 (decide_eq_true h)) (fun h => k2 (decide_eq_false h)))
theorem cr_ic_ne {off : Int} {tg : Nat} (hd : decode cc pc = .ok (.if_icmp .ne off, 3)) (ht : (pc : Int) + off = (tg : Int)) (hn : pc + 3 = nx) : ci_ok y cc nL pc (ci_ic (fun x y => !decide (x = y)) tg nx) := by
  subst hn
  exact cr_ic (fun p l e R s m args below meth c H locs cells slots Q ls rest x y hx hb k1 k2 => lv_icmp_ne hx hb hd ht (fun h => k1 (by rw [decide_eq_false h]; rfl)) (fun h => k2 (by rw [decide_eq_true h]; rfl)))
theorem cr_ic_lt {off : Int} {tg : Nat} (hd : decode cc pc = .ok (.if_icmp .lt off, 3)) (ht : (pc : Int) + off = (tg : Int)) (hn : pc + 3 = nx) : ci_ok y cc nL pc (ci_ic (fun x y => decide (x < y)) tg nx) := by
  subst hn
  exact cr_ic (fun p l e R s m args below meth c H locs cells slots Q ls rest x y hx hb k1 k2 => lv_icmp_lt hx hb hd ht (fun h => k1 (decide_eq_true h)) (fun h => k2 (decide_eq_false h)))
theorem cr_ic_ge {off : Int} {tg : Nat} (hd : decode cc pc = .ok (.if_icmp .ge off, 3)) (ht : (pc : Int) + off = (tg : Int)) (hn : pc + 3 = nx) : ci_ok y cc nL pc (ci_ic (fun x y => decide (y ≤ x)) tg nx) := by
  subst hn
  exact cr_ic (fun p l e R s m args below meth c H locs cells slots Q ls rest x y hx hb k1 k2 => lv_icmp_ge hx hb hd ht (fun h => k1 (decide_eq_true h)) (fun h => k2 (decide_eq_false h)))
theorem cr_ic_le {off : Int} {tg : Nat} (hd : decode cc pc = .ok (.if_icmp .le off, 3)) (ht : (pc : Int) + off = (tg : Int)) (hn : pc + 3 = nx) : ci_ok y cc nL pc (ci_ic (fun x y => decide (x ≤ y)) tg nx) := by
  subst hn
  exact cr_ic (fun p l e R s m args below meth c H locs cells slots Q ls rest x y hx hb k1 k2 => lv_icmp_le hx hb hd ht (fun h => k1 (decide_eq_true h)) (fun h => k2 (decide_eq_false h)))
theorem cr_ic_gt {off : Int} {tg : Nat} (hd : decode cc pc = .ok (.if_icmp .gt off, 3)) (ht : (pc : Int) + off = (tg : Int)) (hn : pc + 3 = nx) : ci_ok y cc nL pc (ci_ic (fun x y => decide (y < x)) tg nx) := by
  subst hn
  exact cr_ic (fun p l e R s m args below meth c H locs cells slots Q ls rest x y hx hb k1 k2 => lv_icmp_gt hx hb hd ht (fun h => k1 (decide_eq_true h)) (fun h => k2 (decide_eq_false h)))
theorem cr_goto {off : Int} {tg : Nat} (hd : decode cc pc = .ok (.goto off, 3)) (ht : (pc : Int) + off = (tg : Int)) : ci_ok y cc nL pc (ci_go tg) := by
  intro p l e R s m args below meth c D A b d ads tys X st pc' st' hf Q H locs cells slots ls sk hR k
  cases hf
  exact lv_goto X.1 X.2.1 hd ht (k _ _ _ _ hR)
theorem cr_ifnull {off : Int} {tg : Nat} (hd : decode cc pc = .ok (.ifnull off, 3)) (ht : (pc : Int) + off = (tg : Int)) (hn : pc + 3 = nx) : ci_ok y cc nL pc (ci_null tg nx) := by
  subst hn
  intro p l e R s m args below meth c D A b d ads tys X st pc' st' hf Q H locs cells slots ls sk hR k
  obtain ⟨lc, stk, w⟩ := st
  obtain ⟨ws, hl, rfl, hw⟩ := hR
  unfold ci_null at hf
  split at hf
  · rename_i lc2 t w2 heq
    cases heq
    cases hf
    exact lv_ifnullN X.1 X.2.1 hd ht (k _ _ _ _ ⟨ws, hl, rfl, hw⟩)
  · rename_i lc2 q t w2 heq
    cases heq
    cases hf
    cases q <;> exact lv_ifnull X.1 X.2.1 hd (k _ _ _ _ ⟨ws, hl, rfl, hw⟩)
  · cases hf
theorem cr_ifnonnull {off : Int} {tg : Nat} (hd : decode cc pc = .ok (.ifnonnull off, 3)) (ht : (pc : Int) + off = (tg : Int)) (hn : pc + 3 = nx) : ci_ok y cc nL pc (ci_null nx tg) := by
  subst hn
  intro p l e R s m args below meth c D A b d ads tys X st pc' st' hf Q H locs cells slots ls sk hR k
  obtain ⟨lc, stk, w⟩ := st
  obtain ⟨ws, hl, rfl, hw⟩ := hR
  unfold ci_null at hf
  split at hf
  · rename_i lc2 t w2 heq
    cases heq
    cases hf
    exact lv_ifnonnullN X.1 X.2.1 hd (k _ _ _ _ ⟨ws, hl, rfl, hw⟩)
  · rename_i lc2 q t w2 heq
    cases heq
    cases hf
    cases q <;> exact lv_ifnonnull X.1 X.2.1 hd ht (k _ _ _ _ ⟨ws, hl, rfl, hw⟩)
  · cases hf
theorem cr_tsw {dflt lo hi : Int} {offs : Array Int} {len df : Nat} {ts : List Nat} (hd : decode cc pc = .ok (.tableswitch dflt lo hi offs, len)) (h3 : (pc : Int) + dflt = (df : Int)) (h4 : offs.toList.map (fun o => (pc : Int) + o) = ts.map (fun (t : Nat) => (t : Int))) : ci_ok y cc nL pc (ci_tsw lo hi ts df) := by
  refine ci_stk_ok (fun lc sk w r h => ?_)
  unfold ci_tsw at h
  split at h
  · rename_i lc2 x2 t w2 heq
    cases heq
    split at h
    · rename_i hout
      cases h
      exact ⟨[.int x2], [], t, _, rfl, rfl, fun _ _ => ⟨rfl, rfl⟩, fun p l e R s m args below meth c H locs cells slots Q ls rest hx hb k => lv_tableOut hx hb hd hout h3 k⟩
    · rename_i hin
      cases g5 : ts[(x2.toInt - lo).toNat]? with
      | none => rw [g5] at h; cases h
      | some tg =>
        rw [g5] at h
        have h5 : (offs.toList.map (fun o => (pc : Int) + o))[(x2.toInt - lo).toNat]? = some (tg : Int) := by rw [h4, List.getElem?_map, g5]; rfl
        rw [List.getElem?_map] at h5
        cases h6 : offs.toList[(x2.toInt - lo).toNat]? with
        | none => rw [h6] at h5; cases h5
        | some o =>
          rw [h6] at h5
          have h7 : (pc : Int) + o = (tg : Int) := Option.some.inj h5
          cases h
          exact ⟨[.int x2], [], t, _, rfl, rfl, fun _ _ => ⟨rfl, rfl⟩, fun p l e R s m args below meth c H locs cells slots Q ls rest hx hb k => lv_tableIn (off := o) hx hb hd (fun q => hin (Or.inl q)) (fun q => hin (Or.inr q)) (by rw [← Array.getElem?_toList]; exact h6) h7 k⟩
  · cases h
theorem cr_dup (hd : decode cc pc = .ok (.dup, 1)) (hn : pc + 1 = nx) : ci_ok y cc nL pc (ci_dup nx) := by
  subst hn
  intro p l e R s m args below meth c D A b d ads tys X st pc' st' hf Q H locs cells slots ls sk hR k
  obtain ⟨lc, stk, w⟩ := st
  obtain ⟨ws, hl, rfl, hw⟩ := hR
  unfold ci_dup at hf
  match stk, hf with
  | [], hf => cases hf
  | a :: t, hf =>
    dsimp only at hf
    cases g1 : Nat.beq a.category 1 with
    | false => rw [g1] at hf; cases hf
    | true =>
      rw [g1] at hf
      cases hf
      exact lv_dup X.1 X.2.1 hd ((ci_t_cat b ads a).trans (Nat.eq_of_beq_eq_true g1)) (k _ _ _ _ ⟨ws, hl, rfl, hw⟩)
theorem cr_dup2 (hd : decode cc pc = .ok (.dup2, 1)) (hn : pc + 1 = nx) : ci_ok y cc nL pc (ci_dup2 nx) := by
  subst hn
  intro p l e R s m args below meth c D A b d ads tys X st pc' st' hf Q H locs cells slots ls sk hR k
  obtain ⟨lc, stk, w⟩ := st
  obtain ⟨ws, hl, rfl, hw⟩ := hR
  unfold ci_dup2 at hf
  match stk, hf with
  | [], hf => cases hf
  | [_], hf => cases hf
  | a :: a2 :: t, hf =>
    dsimp only at hf
    cases g1 : (Nat.beq a.category 1 && Nat.beq a2.category 1) with
    | false => rw [g1] at hf; cases hf
    | true =>
      rw [g1] at hf
      cases hf
      obtain ⟨q1, q2⟩ := Bool.and_eq_true_iff.mp g1
      exact lv_dup2_11 X.1 X.2.1 hd ((ci_t_cat b ads a).trans (Nat.eq_of_beq_eq_true q1)) ((ci_t_cat b ads a2).trans (Nat.eq_of_beq_eq_true q2)) (k _ _ _ _ ⟨ws, hl, rfl, hw⟩)
theorem cr_pop (hd : decode cc pc = .ok (.pop, 1)) (hn : pc + 1 = nx) : ci_ok y cc nL pc (ci_popp nx) := by
  subst hn
  intro p l e R s m args below meth c D A b d ads tys X st pc' st' hf Q H locs cells slots ls sk hR k
  obtain ⟨lc, stk, w⟩ := st
  obtain ⟨ws, hl, rfl, hw⟩ := hR
  unfold ci_popp at hf
  match stk, hf with
  | [], hf => cases hf
  | a :: t, hf =>
    dsimp only at hf
    cases g1 : Nat.beq a.category 1 with
    | false => rw [g1] at hf; cases hf
    | true =>
      rw [g1] at hf
      cases hf
      exact lv_pop X.1 X.2.1 hd ((ci_t_cat b ads a).trans (Nat.eq_of_beq_eq_true g1)) (k _ _ _ _ ⟨ws, hl, rfl, hw⟩)
end CIns
