/-! an instruction, a row: the step that stands in the table, out of what the bytes decode to -/
section Ins
variable {mt : Nat → Option zi_M} {y : MethodName} {cc : ByteArray} {nL pc nx : Nat}
theorem zr_aload_n {k : Fin 4} {i : Nat} (hd : decode cc pc = .ok (.aload_n k, 1)) (hi : (k : Nat) = i) (hn : pc + 1 = nx) : zi_ok mt y cc nL pc (zi_load 2 i nx) := by
  subst hn
  refine zi_load_ok (fun p l e R s m args below meth c H locs cells slots Q ls rest x hx hb hk hl k => ?_)
  rcases hk with rfl | ⟨a, rfl⟩
  · exact lv_aload_nN hx hb hd hi hl k
  · exact lv_aload_n hx hb hd hi hl k
theorem zr_aload {i : Nat} (hd : decode cc pc = .ok (.aload i, 2)) (hn : pc + 2 = nx) : zi_ok mt y cc nL pc (zi_load 2 i nx) := by
  subst hn
  refine zi_load_ok (fun p l e R s m args below meth c H locs cells slots Q ls rest x hx hb hk hl k => ?_)
  rcases hk with rfl | ⟨a, rfl⟩
  · exact lv_aloadN hx hb hd hl k
  · exact lv_aload hx hb hd hl k
theorem zr_iload_n {k : Fin 4} {i : Nat} (hd : decode cc pc = .ok (.iload_n k, 1)) (hi : (k : Nat) = i) (hn : pc + 1 = nx) : zi_ok mt y cc nL pc (zi_load 0 i nx) := by
  subst hn
  refine zi_load_ok (fun p l e R s m args below meth c H locs cells slots Q ls rest x hx hb hk hl k => ?_)
  obtain ⟨a, rfl⟩ := hk
  exact lv_iload_n hx hb hd hi hl k
theorem zr_iload {i : Nat} (hd : decode cc pc = .ok (.iload i, 2)) (hn : pc + 2 = nx) : zi_ok mt y cc nL pc (zi_load 0 i nx) := by
  subst hn
  refine zi_load_ok (fun p l e R s m args below meth c H locs cells slots Q ls rest x hx hb hk hl k => ?_)
  obtain ⟨a, rfl⟩ := hk
  exact lv_iload hx hb hd hl k
theorem zr_lload_n {k : Fin 4} {i : Nat} (hd : decode cc pc = .ok (.lload_n k, 1)) (hi : (k : Nat) = i) (hn : pc + 1 = nx) : zi_ok mt y cc nL pc (zi_load 1 i nx) := by
  subst hn
  refine zi_load_ok (fun p l e R s m args below meth c H locs cells slots Q ls rest x hx hb hk hl k => ?_)
  obtain ⟨a, rfl⟩ := hk
  exact lv_lload_n hx hb hd hi hl k
theorem zr_lload {i : Nat} (hd : decode cc pc = .ok (.lload i, 2)) (hn : pc + 2 = nx) : zi_ok mt y cc nL pc (zi_load 1 i nx) := by
  subst hn
  refine zi_load_ok (fun p l e R s m args below meth c H locs cells slots Q ls rest x hx hb hk hl k => ?_)
  obtain ⟨a, rfl⟩ := hk
  exact lv_lload hx hb hd hl k
theorem zr_istore_n {k : Fin 4} {i : Nat} (hd : decode cc pc = .ok (.istore_n k, 1)) (hi : (k : Nat) = i) (hb0 : i < nL) (hn : pc + 1 = nx) : zi_ok mt y cc nL pc (zi_store 0 i nx) := by
  subst hn
  refine zi_store_ok hb0 (fun p l e R s m args below meth c H locs cells slots Q ls rest x lv hx hb hk hl k => ?_)
  obtain ⟨a, rfl⟩ := hk
  exact lv_istore_n hx hb hd hi hl hb0 rfl k
theorem zr_istore {i : Nat} (hd : decode cc pc = .ok (.istore i, 2)) (hb0 : i < nL) (hn : pc + 2 = nx) : zi_ok mt y cc nL pc (zi_store 0 i nx) := by
  subst hn
  refine zi_store_ok hb0 (fun p l e R s m args below meth c H locs cells slots Q ls rest x lv hx hb hk hl k => ?_)
  obtain ⟨a, rfl⟩ := hk
  exact lv_istore hx hb hd hl hb0 rfl k
theorem zr_astore_n {k : Fin 4} {i : Nat} (hd : decode cc pc = .ok (.astore_n k, 1)) (hi : (k : Nat) = i) (hb0 : i < nL) (hn : pc + 1 = nx) : zi_ok mt y cc nL pc (zi_store 2 i nx) := by
  subst hn
  refine zi_store_ok hb0 (fun p l e R s m args below meth c H locs cells slots Q ls rest x lv hx hb hk hl k => ?_)
  rcases hk with rfl | ⟨a, rfl⟩
  · exact lv_astore_nN hx hb hd hi hl hb0 rfl k
  · exact lv_astore_n hx hb hd hi hl hb0 rfl k
theorem zr_astore {i : Nat} (hd : decode cc pc = .ok (.astore i, 2)) (hb0 : i < nL) (hn : pc + 2 = nx) : zi_ok mt y cc nL pc (zi_store 2 i nx) := by
  subst hn
  refine zi_store_ok hb0 (fun p l e R s m args below meth c H locs cells slots Q ls rest x lv hx hb hk hl k => ?_)
  rcases hk with rfl | ⟨a, rfl⟩
  · exact lv_astoreN hx hb hd hl hb0 rfl k
  · exact lv_astore hx hb hd hl hb0 rfl k
theorem zr_lstore {i : Nat} (hd : decode cc pc = .ok (.lstore i, 2)) (hb0 : i + 1 < nL) (hn : pc + 2 = nx) : zi_ok mt y cc nL pc (zi_storel i nx) := by
  subst hn
  exact zi_storel_ok (fun p l e R s m args below meth c H locs cells slots Q ls rest x lv hx hb hl k => lv_lstore hx hb hd hl hb0 rfl k)
theorem zr_lstore_n {k : Fin 4} {i : Nat} (hd : decode cc pc = .ok (.lstore_n k, 1)) (hi : (k : Nat) = i) (hb0 : i + 1 < nL) (hn : pc + 1 = nx) : zi_ok mt y cc nL pc (zi_storel i nx) := by
  subst hn
  exact zi_storel_ok (fun p l e R s m args below meth c H locs cells slots Q ls rest x lv hx hb hl k => lv_lstore_n hx hb hd hi hl hb0 rfl k)
theorem zr_pt {n : Nat} : zi_in (n, n) n := ⟨Nat.le_refl _, Nat.le_refl _⟩
theorem zr_iconst {n : Int} {a : Nat} (hd : decode cc pc = .ok (.iconst n, 1)) (hv : zi_o (Int32.ofInt n) = a) (hn : pc + 1 = nx) : zi_ok mt y cc nL pc (zi_push (.inl (a, a)) nx) := by
  subst hn
  subst hv
  exact zi_push_ok (x := .int (Int32.ofInt n)) (fun _ _ => ⟨_, rfl, zr_pt⟩) (fun p l e R s m args below meth c H locs cells slots Q ls rest hx hb k => lv_iconst hx hb hd rfl k)
theorem zr_bipush {n : Int} {a : Nat} (hd : decode cc pc = .ok (.bipush n, 2)) (hv : zi_o (Int8.ofInt n).toInt32 = a) (hn : pc + 2 = nx) : zi_ok mt y cc nL pc (zi_push (.inl (a, a)) nx) := by
  subst hn
  subst hv
  exact zi_push_ok (x := .int (Int8.ofInt n).toInt32) (fun _ _ => ⟨_, rfl, zr_pt⟩) (fun p l e R s m args below meth c H locs cells slots Q ls rest hx hb k => lv_bipush hx hb hd rfl k)
theorem zr_sipush {n : Int} {a : Nat} (hd : decode cc pc = .ok (.sipush n, 3)) (hv : zi_o (Int16.ofInt n).toInt32 = a) (hn : pc + 3 = nx) : zi_ok mt y cc nL pc (zi_push (.inl (a, a)) nx) := by
  subst hn
  subst hv
  exact zi_push_ok (x := .int (Int16.ofInt n).toInt32) (fun _ _ => ⟨_, rfl, zr_pt⟩) (fun p l e R s m args below meth c H locs cells slots Q ls rest hx hb k => lv_sipush hx hb hd rfl k)
theorem zr_lconst {n : Fin 2} {a : Nat} (hd : decode cc pc = .ok (.lconst n, 1)) (hv : zi_ol (Int64.ofNat (n : Nat)) = a) (hn : pc + 1 = nx) : zi_ok mt y cc nL pc (zi_push (.inr (.inl (a, a))) nx) := by
  subst hn
  subst hv
  exact zi_push_ok (x := .long (Int64.ofNat (n : Nat))) (fun _ _ => ⟨_, rfl, zr_pt⟩) (fun p l e R s m args below meth c H locs cells slots Q ls rest hx hb k => lv_lconst hx hb hd rfl k)
theorem zr_null (hd : decode cc pc = .ok (.aconst_null, 1)) (hn : pc + 1 = nx) : zi_ok mt y cc nL pc (zi_push (.inr (.inr (.inl none))) nx) := by
  subst hn
  exact zi_push_ok (x := .null) (fun _ _ => rfl) (fun p l e R s m args below meth c H locs cells slots Q ls rest hx hb k => lv_null hx hb hd k)
/-- constants of the pool -/
theorem zr_pool {v : zi_V} {x : Value} (hv : ∀ b ads, zi_g b ads v x) (hr : ∀ (p : Program) (l : Launch) (e : Env) (R : Room) (s : State) (m : MethodId) (args : Array Value) (below : List Frame) (meth : Method) (c : Code) (H : Heap) (locs : List Loc) (cells slots : Nat) (Q : State → Prop) (ls : Array Slot) (rest : List Value), p.tables.exec = Jvm.exec → c.code = cc → s.vm.findClass y.cls = some m.cls → (∀ w ∈ zi_G, w.before args s = true) →
    W p l e R s m args below meth c H locs cells slots Q (F0 m nx ls (x :: rest)) → W p l e R s m args below meth c H locs cells slots Q (F0 m pc ls rest)) : zi_ok mt y cc nL pc (zi_push v nx) := by
  intro p l e R s m args below meth c D A b d a0 E X hE st pc' st' hf Q H locs cells slots ls sk hR k
  obtain ⟨lc, stk, r⟩ := st
  obtain ⟨ws, tys, lv, hl, hlv, hsk, hw⟩ := hR
  cases hf
  exact hr p l e R s m args below meth c H locs cells slots Q ls sk X.1 X.2.1 X.2.2.2.1 X.2.2.2.2.1 (k _ _ _ _ _ _ ⟨ws, tys, lv, hl, hlv, ⟨hv _ _, hsk⟩, hw⟩)
theorem zr_ldc {i a : Nat} {v : Int32} (hl : Cond.constant y.cls i v ∈ zi_G) (hd : decode cc pc = .ok (.ldc i, 2)) (hv : zi_o v = a) (hn : pc + 2 = nx) : zi_ok mt y cc nL pc (zi_push (.inl (a, a)) nx) := by
  subst hn
  subst hv
  exact zr_pool (x := .int v) (fun _ _ => ⟨_, rfl, zr_pt⟩) (fun p l e R s m args below meth c H locs cells slots Q ls rest hx hb ho ht k => lv_ldc hx hb ho (ht _ hl) hd k)
theorem zr_ldc_w {i a : Nat} {v : Int32} (hl : Cond.constant y.cls i v ∈ zi_G) (hd : decode cc pc = .ok (.ldc_w i, 3)) (hv : zi_o v = a) (hn : pc + 3 = nx) : zi_ok mt y cc nL pc (zi_push (.inl (a, a)) nx) := by
  subst hn
  subst hv
  exact zr_pool (x := .int v) (fun _ _ => ⟨_, rfl, zr_pt⟩) (fun p l e R s m args below meth c H locs cells slots Q ls rest hx hb ho ht k => lv_ldcw hx hb ho (ht _ hl) hd k)
theorem zr_ldc2 {i a : Nat} {v : Int64} (hl : Cond.constantLong y.cls i v ∈ zi_G) (hd : decode cc pc = .ok (.ldc2_w i, 3)) (hv : zi_ol v = a) (hn : pc + 3 = nx) : zi_ok mt y cc nL pc (zi_push (.inr (.inl (a, a))) nx) := by
  subst hn
  subst hv
  exact zr_pool (x := .long v) (fun _ _ => ⟨_, rfl, zr_pt⟩) (fun p l e R s m args below meth c H locs cells slots Q ls rest hx hb ho ht k => lv_ldc2 hx hb ho (ht _ hl) hd k)
theorem zr_iinc {i a : Nat} {n : Int} (hd : decode cc pc = .ok (.iinc i n, 3)) (hi : i < nL) (hv : zi_o (Int32.ofInt n) = a) (hn : pc + 3 = nx) : zi_ok mt y cc nL pc (zi_inc i (a, a) nx) := zi_inc_ok hi (by rw [hv]; exact zr_pt) hd hn
theorem zr_iadd (hd : decode cc pc = .ok (.iadd, 1)) (hn : pc + 1 = nx) : zi_ok mt y cc nL pc (zi_bin zi_add nx) := by
  subst hn
  exact zi_bin_ok zi_add_ok (fun x y p l e R s m args below meth c H locs cells slots Q ls rest hx hb k => lv_iadd hx hb hd k)
theorem zr_isub (hd : decode cc pc = .ok (.isub, 1)) (hn : pc + 1 = nx) : zi_ok mt y cc nL pc (zi_bin zi_sub nx) := by
  subst hn
  exact zi_bin_ok zi_sub_ok (fun x y p l e R s m args below meth c H locs cells slots Q ls rest hx hb k => lv_isub hx hb hd k)
theorem zr_imul (hd : decode cc pc = .ok (.imul, 1)) (hn : pc + 1 = nx) : zi_ok mt y cc nL pc (zi_bin zi_mul nx) := by
  subst hn
  exact zi_bin_ok zi_mul_ok (fun x y p l e R s m args below meth c H locs cells slots Q ls rest hx hb k => lv_imul hx hb hd k)
theorem zr_iand (hd : decode cc pc = .ok (.iand, 1)) (hn : pc + 1 = nx) : zi_ok mt y cc nL pc (zi_bin zi_and nx) := by
  subst hn
  exact zi_bin_ok (g := (· &&& ·)) zi_and_ok (fun x y p l e R s m args below meth c H locs cells slots Q ls rest hx hb k => lv_iand hx hb hd k)
theorem zr_ior (hd : decode cc pc = .ok (.ior, 1)) (hn : pc + 1 = nx) : zi_ok mt y cc nL pc (zi_bin zi_or nx) := by
  subst hn
  exact zi_bin_ok (g := (· ||| ·)) zi_or_ok (fun x y p l e R s m args below meth c H locs cells slots Q ls rest hx hb k => lv_ior hx hb hd k)
theorem zr_ixor (hd : decode cc pc = .ok (.ixor, 1)) (hn : pc + 1 = nx) : zi_ok mt y cc nL pc (zi_bin zi_xor nx) := by
  subst hn
  exact zi_bin_ok (g := (· ^^^ ·)) zi_sg_ok (fun x y p l e R s m args below meth c H locs cells slots Q ls rest hx hb k => lv_ixor hx hb hd k)
theorem zr_ishl (hd : decode cc pc = .ok (.ishl, 1)) (hn : pc + 1 = nx) : zi_ok mt y cc nL pc (zi_bin zi_shl nx) := by
  subst hn
  exact zi_bin_ok (g := fun a b => a <<< (b &&& 31)) zi_shl_ok (fun x y p l e R s m args below meth c H locs cells slots Q ls rest hx hb k => lv_ishl hx hb hd k)
theorem zr_ishr (hd : decode cc pc = .ok (.ishr, 1)) (hn : pc + 1 = nx) : zi_ok mt y cc nL pc (zi_bin zi_shr nx) := by
  subst hn
  exact zi_bin_ok (g := fun a b => a >>> (b &&& 31)) zi_shr_ok (fun x y p l e R s m args below meth c H locs cells slots Q ls rest hx hb k => lv_ishr hx hb hd k)
theorem zr_iushr (hd : decode cc pc = .ok (.iushr, 1)) (hn : pc + 1 = nx) : zi_ok mt y cc nL pc (zi_bin zi_ushr nx) := by
  subst hn
  exact zi_bin_ok (g := fun a b => (a.toUInt32 >>> (b.toUInt32 &&& Int32.toUInt32 31)).toInt32) zi_sg_ok (fun x y p l e R s m args below meth c H locs cells slots Q ls rest hx hb k => lv_iushr hx hb hd rfl k)
theorem zr_idiv (hd : decode cc pc = .ok (.idiv, 1)) (hn : pc + 1 = nx) : zi_ok mt y cc nL pc (zi_dv zi_div nx) := by
  subst hn
  exact zi_dv_ok zi_div_ok (fun x y h p l e R s m args below meth c H locs cells slots Q ls rest hx hb k => lv_idiv hx hb hd h k)
theorem zr_irem (hd : decode cc pc = .ok (.irem, 1)) (hn : pc + 1 = nx) : zi_ok mt y cc nL pc (zi_dv zi_rem nx) := by
  subst hn
  exact zi_dv_ok zi_rem_ok (fun x y h p l e R s m args below meth c H locs cells slots Q ls rest hx hb k => lv_irem hx hb hd h k)
theorem zr_ladd (hd : decode cc pc = .ok (.ladd, 1)) (hn : pc + 1 = nx) : zi_ok mt y cc nL pc (zi_binl zi_ladd nx) := by
  subst hn
  exact zi_binl_ok (g := (· + ·)) zi_sgl_ok (fun x y p l e R s m args below meth c H locs cells slots Q ls rest hx hb k => lv_ladd hx hb hd k)
theorem zr_land (hd : decode cc pc = .ok (.land, 1)) (hn : pc + 1 = nx) : zi_ok mt y cc nL pc (zi_binl zi_land nx) := by
  subst hn
  exact zi_binl_ok (g := (· &&& ·)) zi_sgl_ok (fun x y p l e R s m args below meth c H locs cells slots Q ls rest hx hb k => lv_land hx hb hd k)
theorem zr_lor (hd : decode cc pc = .ok (.lor, 1)) (hn : pc + 1 = nx) : zi_ok mt y cc nL pc (zi_binl zi_lor nx) := by
  subst hn
  exact zi_binl_ok (g := (· ||| ·)) zi_sgl_ok (fun x y p l e R s m args below meth c H locs cells slots Q ls rest hx hb k => lv_lor hx hb hd k)
theorem zr_ldiv (hd : decode cc pc = .ok (.ldiv, 1)) (hn : pc + 1 = nx) : zi_ok mt y cc nL pc (zi_dvl zi_ldiv nx) := by
  subst hn
  exact zi_dvl_ok (g := (· / ·)) zi_sgl_ok (fun x y h p l e R s m args below meth c H locs cells slots Q ls rest hx hb k => lv_ldiv hx hb hd h k)
theorem zr_lrem (hd : decode cc pc = .ok (.lrem, 1)) (hn : pc + 1 = nx) : zi_ok mt y cc nL pc (zi_dvl zi_lrem nx) := by
  subst hn
  exact zi_dvl_ok (g := fun a b => a - a / b * b) zi_sgl_ok (fun x y h p l e R s m args below meth c H locs cells slots Q ls rest hx hb k => lv_lrem hx hb hd h k)
theorem zr_lshl (hd : decode cc pc = .ok (.lshl, 1)) (hn : pc + 1 = nx) : zi_ok mt y cc nL pc (zi_shfl zi_lshl nx) := by
  subst hn
  exact zi_shfl_ok (g := fun a b => a <<< (b.toInt64 &&& 63)) zi_sgs_ok (fun x y p l e R s m args below meth c H locs cells slots Q ls rest hx hb k => lv_lshl hx hb hd rfl k)
theorem zr_lshr (hd : decode cc pc = .ok (.lshr, 1)) (hn : pc + 1 = nx) : zi_ok mt y cc nL pc (zi_shfl zi_lshr nx) := by
  subst hn
  exact zi_shfl_ok (g := fun a b => a >>> (b.toInt64 &&& 63)) zi_sgs_ok (fun x y p l e R s m args below meth c H locs cells slots Q ls rest hx hb k => lv_lshr hx hb hd rfl k)
theorem zr_i2b (hd : decode cc pc = .ok (.i2b, 1)) (hn : pc + 1 = nx) : zi_ok mt y cc nL pc (zi_un zi_i2bf nx) := by
  subst hn
  exact zi_un_ok (g := fun x => x.toInt8.toInt32) zi_i2b_ok (fun x p l e R s m args below meth c H locs cells slots Q ls rest hx hb k => lv_i2b hx hb hd rfl k)
theorem zr_i2s (hd : decode cc pc = .ok (.i2s, 1)) (hn : pc + 1 = nx) : zi_ok mt y cc nL pc (zi_un zi_i2sf nx) := by
  subst hn
  exact zi_un_ok (g := fun x => x.toInt16.toInt32) zi_i2s_ok (fun x p l e R s m args below meth c H locs cells slots Q ls rest hx hb k => lv_i2s hx hb hd rfl k)
-- branches
theorem zr_z {x : Int32} : zi_in (2147483648, 2147483648) (zi_o 0) := by rw [zi_o0]; exact zr_pt
theorem zr_dec {P : Prop} [Decidable P] {t : Bool} (h : t = decide P) : t = true ↔ P := by rw [h]; exact decide_eq_true_iff
theorem zr_decn {P : Prop} [Decidable P] {t : Bool} (h : t = !decide P) : t = true ↔ ¬ P := by rw [h, Bool.not_eq_true', decide_eq_false_iff_not]
theorem zr_if_eq {off : Int} {tg : Nat} (hd : decode cc pc = .ok (.ifCond .eq off, 3)) (ht : (pc : Int) + off = (tg : Int)) (hn : pc + 3 = nx) : zi_ok mt y cc nL pc (zi_if zi_eq tg nx) := by
  subst hn
  exact zi_if_ok (g := fun x => x = 0) (fun x => inferInstance) (fun ha h => zr_dec (zi_eq_ok ha (zr_z (x := 0)) h)) (fun p l e R s m args below meth c H locs cells slots Q ls rest x hx hb k1 k2 => lv_if_eq hx hb hd ht k1 k2)
theorem zr_if_ne {off : Int} {tg : Nat} (hd : decode cc pc = .ok (.ifCond .ne off, 3)) (ht : (pc : Int) + off = (tg : Int)) (hn : pc + 3 = nx) : zi_ok mt y cc nL pc (zi_if zi_ne tg nx) := by
  subst hn
  refine zi_if_ok (g := fun x => ¬ x = 0) (fun x => inferInstance) (fun ha h => ?_) (fun p l e R s m args below meth c H locs cells slots Q ls rest x hx hb k1 k2 => lv_if_ne hx hb hd ht k1 (fun h => k2 (fun n => n h)))
  obtain ⟨u, h1, h2⟩ := zi_not_ok h
  exact zr_decn (by rw [h2, zi_eq_ok ha (zr_z (x := 0)) h1])
theorem zr_if_lt {off : Int} {tg : Nat} (hd : decode cc pc = .ok (.ifCond .lt off, 3)) (ht : (pc : Int) + off = (tg : Int)) (hn : pc + 3 = nx) : zi_ok mt y cc nL pc (zi_if zi_lt tg nx) := by
  subst hn
  exact zi_if_ok (g := fun x => x < 0) (fun x => inferInstance) (fun ha h => zr_dec (zi_lt_ok ha (zr_z (x := 0)) h)) (fun p l e R s m args below meth c H locs cells slots Q ls rest x hx hb k1 k2 => lv_if_lt hx hb hd ht k1 k2)
theorem zr_if_ge {off : Int} {tg : Nat} (hd : decode cc pc = .ok (.ifCond .ge off, 3)) (ht : (pc : Int) + off = (tg : Int)) (hn : pc + 3 = nx) : zi_ok mt y cc nL pc (zi_if zi_ge tg nx) := by
  subst hn
  refine zi_if_ok (g := fun x => 0 ≤ x) (fun x => inferInstance) (fun ha h => ?_) (fun p l e R s m args below meth c H locs cells slots Q ls rest x hx hb k1 k2 => lv_if_ge hx hb hd ht k1 k2)
  obtain ⟨u, h1, h2⟩ := zi_not_ok h
  exact (zr_decn (by rw [h2, zi_lt_ok ha (zr_z (x := 0)) h1])).trans Int32.not_lt
theorem zr_if_le {off : Int} {tg : Nat} (hd : decode cc pc = .ok (.ifCond .le off, 3)) (ht : (pc : Int) + off = (tg : Int)) (hn : pc + 3 = nx) : zi_ok mt y cc nL pc (zi_if zi_le tg nx) := by
  subst hn
  exact zi_if_ok (g := fun x => x ≤ 0) (fun x => inferInstance) (fun ha h => zr_dec (zi_le_ok ha (zr_z (x := 0)) h)) (fun p l e R s m args below meth c H locs cells slots Q ls rest x hx hb k1 k2 => lv_if_le hx hb hd ht k1 k2)
theorem zr_if_gt {off : Int} {tg : Nat} (hd : decode cc pc = .ok (.ifCond .gt off, 3)) (ht : (pc : Int) + off = (tg : Int)) (hn : pc + 3 = nx) : zi_ok mt y cc nL pc (zi_if zi_gt tg nx) := by
  subst hn
  refine zi_if_ok (g := fun x => 0 < x) (fun x => inferInstance) (fun ha h => ?_) (fun p l e R s m args below meth c H locs cells slots Q ls rest x hx hb k1 k2 => lv_if_gt hx hb hd ht k1 k2)
  obtain ⟨u, h1, h2⟩ := zi_not_ok h
  exact (zr_decn (by rw [h2, zi_le_ok ha (zr_z (x := 0)) h1])).trans Int32.not_le
theorem zr_ic_eq {off : Int} {tg : Nat} (hd : decode cc pc = .ok (.if_icmp .eq off, 3)) (ht : (pc : Int) + off = (tg : Int)) (hn : pc + 3 = nx) : zi_ok mt y cc nL pc (zi_ic zi_eq tg nx) := by
  subst hn
  exact zi_ic_ok (g := fun x y => x = y) (fun ha hb h => zr_dec (zi_eq_ok ha hb h)) (fun p l e R s m args below meth c H locs cells slots Q ls rest x y hx hb k1 k2 => lv_icmp_eq hx hb hd ht k1 k2)
theorem zr_ic_ne {off : Int} {tg : Nat} (hd : decode cc pc = .ok (.if_icmp .ne off, 3)) (ht : (pc : Int) + off = (tg : Int)) (hn : pc + 3 = nx) : zi_ok mt y cc nL pc (zi_ic zi_ne tg nx) := by
  subst hn
  refine zi_ic_ok (g := fun x y => ¬ x = y) (fun ha hb h => ?_) (fun p l e R s m args below meth c H locs cells slots Q ls rest x y hx hb k1 k2 => lv_icmp_ne hx hb hd ht k1 (fun h => k2 (fun n => n h)))
  obtain ⟨u, h1, h2⟩ := zi_not_ok h
  exact zr_decn (by rw [h2, zi_eq_ok ha hb h1])
theorem zr_ic_lt {off : Int} {tg : Nat} (hd : decode cc pc = .ok (.if_icmp .lt off, 3)) (ht : (pc : Int) + off = (tg : Int)) (hn : pc + 3 = nx) : zi_ok mt y cc nL pc (zi_ic zi_lt tg nx) := by
  subst hn
  exact zi_ic_ok (g := fun x y => x < y) (fun ha hb h => zr_dec (zi_lt_ok ha hb h)) (fun p l e R s m args below meth c H locs cells slots Q ls rest x y hx hb k1 k2 => lv_icmp_lt hx hb hd ht k1 k2)
theorem zr_ic_ge {off : Int} {tg : Nat} (hd : decode cc pc = .ok (.if_icmp .ge off, 3)) (ht : (pc : Int) + off = (tg : Int)) (hn : pc + 3 = nx) : zi_ok mt y cc nL pc (zi_ic zi_ge tg nx) := by
  subst hn
  refine zi_ic_ok (g := fun x y => y ≤ x) (fun ha hb h => ?_) (fun p l e R s m args below meth c H locs cells slots Q ls rest x y hx hb k1 k2 => lv_icmp_ge hx hb hd ht k1 k2)
  obtain ⟨u, h1, h2⟩ := zi_not_ok h
  exact (zr_decn (by rw [h2, zi_lt_ok ha hb h1])).trans Int32.not_lt
theorem zr_ic_le {off : Int} {tg : Nat} (hd : decode cc pc = .ok (.if_icmp .le off, 3)) (ht : (pc : Int) + off = (tg : Int)) (hn : pc + 3 = nx) : zi_ok mt y cc nL pc (zi_ic zi_le tg nx) := by
  subst hn
  exact zi_ic_ok (g := fun x y => x ≤ y) (fun ha hb h => zr_dec (zi_le_ok ha hb h)) (fun p l e R s m args below meth c H locs cells slots Q ls rest x y hx hb k1 k2 => lv_icmp_le hx hb hd ht k1 k2)
theorem zr_ic_gt {off : Int} {tg : Nat} (hd : decode cc pc = .ok (.if_icmp .gt off, 3)) (ht : (pc : Int) + off = (tg : Int)) (hn : pc + 3 = nx) : zi_ok mt y cc nL pc (zi_ic zi_gt tg nx) := by
  subst hn
  refine zi_ic_ok (g := fun x y => y < x) (fun ha hb h => ?_) (fun p l e R s m args below meth c H locs cells slots Q ls rest x y hx hb k1 k2 => lv_icmp_gt hx hb hd ht k1 k2)
  obtain ⟨u, h1, h2⟩ := zi_not_ok h
  exact (zr_decn (by rw [h2, zi_le_ok ha hb h1])).trans Int32.not_le
end Ins
/-- two steps, one behind the other -/
theorem zq_ok {mt : Nat → Option zi_M} {y : MethodName} {cc : ByteArray} {nL pc pc2 : Nat} {f g : zi_F} (hf : zi_ok mt y cc nL pc f) (hg : zi_ok mt y cc nL pc2 g) : zi_ok mt y cc nL pc (zi_seq f pc2 g) := by
  intro p l e R s m args below meth c D A b d a0 E X hE st pc' st' h Q H locs cells slots ls sk hR k
  unfold zi_seq at h
  cases h1 : f E st with
  | none => rw [h1] at h; cases h
  | some r =>
    rw [h1] at h
    dsimp only at h
    obtain ⟨pc1, st1⟩ := r
    cases h2 : Nat.beq pc1 pc2 with
    | false => rw [h2] at h; cases h
    | true =>
      rw [h2] at h
      have h2 := Nat.eq_of_beq_eq_true h2
      refine hf p l e R s m args below meth c D A b d a0 E X hE st pc1 st1 h1 Q H locs cells slots ls sk hR (fun H' locs' cells' slots' ls' sk' hR' => ?_)
      rw [h2]
      exact hg p l e R s m args below meth c D A b d a0 E X hE st1 pc' st' h Q H' locs' cells' slots' ls' sk' hR' k
-- a table's rows
def zi_oks (mt : Nat → Option zi_M) (y : MethodName) (cc : ByteArray) (nL : Nat) (ret : Option FieldType) : Nat → List (Option (Option zi_F)) → Prop
  | _, [] => True
  | pc, none :: r => zi_oks mt y cc nL ret (pc + 1) r
  | pc, some none :: r => decode cc pc = .ok (zi_rop ret, 1) ∧ zi_oks mt y cc nL ret (pc + 1) r
  | pc, some (some f) :: r => zi_ok mt y cc nL pc f ∧ zi_oks mt y cc nL ret (pc + 1) r
def zi_okt (mt : Nat → Option zi_M) (y : MethodName) (cc : ByteArray) (nL : Nat) (ret : Option FieldType) : Nat → zi_T → Prop
  | _, [] => True
  | b, r :: t => zi_oks mt y cc nL ret b r ∧ zi_okt mt y cc nL ret (b + 16) t
section Tab
variable {mt : Nat → Option zi_M} {y : MethodName} {cc : ByteArray} {nL : Nat} {ret : Option FieldType}
theorem zo_z {pc : Nat} : zi_oks mt y cc nL ret pc [] := trivial
theorem zo_n {pc : Nat} {r : List (Option (Option zi_F))} (h : zi_oks mt y cc nL ret (pc + 1) r) : zi_oks mt y cc nL ret pc (none :: r) := h
theorem zo_s {pc : Nat} {r : List (Option (Option zi_F))} (hd : decode cc pc = .ok (zi_rop ret, 1)) (h : zi_oks mt y cc nL ret (pc + 1) r) : zi_oks mt y cc nL ret pc (some none :: r) := ⟨hd, h⟩
theorem zo_c {pc : Nat} {f : zi_F} {r : List (Option (Option zi_F))} (hf : zi_ok mt y cc nL pc f) (h : zi_oks mt y cc nL ret (pc + 1) r) : zi_oks mt y cc nL ret pc (some (some f) :: r) := ⟨hf, h⟩
theorem zo_tz {b : Nat} : zi_okt mt y cc nL ret b [] := trivial
theorem zo_t {b : Nat} {r : List (Option (Option zi_F))} {t : zi_T} (h : zi_oks mt y cc nL ret b r) (ht : zi_okt mt y cc nL ret (b + 16) t) : zi_okt mt y cc nL ret b (r :: t) := ⟨h, ht⟩
theorem zi_oks_at : ∀ {r : List (Option (Option zi_F))} {b k : Nat} {q : Option zi_F}, zi_oks mt y cc nL ret b r → r[k]? = some (some q) → (q = none → decode cc (b + k) = .ok (zi_rop ret, 1)) ∧ ∀ f, q = some f → zi_ok mt y cc nL (b + k) f
  | [], _, _, _, _, h => by simp at h
  | none :: r, b, 0, q, h, e => by simp at e
  | none :: r, b, k + 1, q, h, e => by
    have t := zi_oks_at (b := b + 1) (k := k) (show zi_oks mt y cc nL ret (b + 1) r from h) (by simpa using e)
    rw [show b + (k + 1) = b + 1 + k by omega]
    exact t
  | some none :: r, b, 0, q, h, e => by
    have e : (none : Option zi_F) = q := by simpa using e
    subst e
    exact ⟨fun _ => h.1, fun f hf => by cases hf⟩
  | some (some g) :: r, b, 0, q, h, e => by
    have e : some g = q := by simpa using e
    subst e
    exact ⟨(fun q => by cases q), fun f hf => by cases hf; exact h.1⟩
  | some none :: r, b, k + 1, q, h, e => by
    have t := zi_oks_at (b := b + 1) (k := k) h.2 (by simpa using e)
    rw [show b + (k + 1) = b + 1 + k by omega]
    exact t
  | some (some g) :: r, b, k + 1, q, h, e => by
    have t := zi_oks_at (b := b + 1) (k := k) h.2 (by simpa using e)
    rw [show b + (k + 1) = b + 1 + k by omega]
    exact t
theorem zi_okt_at : ∀ {t : zi_T} {b k : Nat} {r : List (Option (Option zi_F))}, zi_okt mt y cc nL ret b t → t[k]? = some r → zi_oks mt y cc nL ret (b + 16 * k) r
  | [], _, _, _, _, h => by simp at h
  | r0 :: t, b, 0, r, h, e => by
    have e : r0 = r := by simpa using e
    subst e
    exact h.1
  | r0 :: t, b, k + 1, r, h, e => by
    have q := zi_okt_at (b := b + 16) (k := k) h.2 (by simpa using e)
    rw [show b + 16 * (k + 1) = b + 16 + 16 * k by omega]
    exact q
theorem zi_tab {t : zi_T} (h : zi_okt mt y cc nL ret 0 t) : zi_tb mt y cc nL t ∧ ∀ pc, zi_lk t pc = some none → decode cc pc = .ok (zi_rop ret, 1) := by
  have main : ∀ (pc : Nat) (q : Option zi_F), zi_lk t pc = some q → (q = none → decode cc pc = .ok (zi_rop ret, 1)) ∧ ∀ f, q = some f → zi_ok mt y cc nL pc f := by
    intro pc q hq
    unfold zi_lk at hq
    rw [zi_nth_eq] at hq
    cases h1 : t[pc / 16]? with
    | none => rw [h1] at hq; cases hq
    | some r =>
      rw [h1] at hq
      dsimp only at hq
      rw [zi_nth_eq] at hq
      cases h2 : r[pc % 16]? with
      | none => rw [h2] at hq; cases hq
      | some o =>
        rw [h2] at hq
        dsimp only at hq
        subst hq
        have h3 := zi_oks_at (zi_okt_at h h1) h2
        rw [show 0 + 16 * (pc / 16) + pc % 16 = pc by omega] at h3
        exact h3
  exact ⟨fun pc f h => (main pc _ h).2 f rfl, fun pc h => (main pc _ h).1 rfl⟩
end Tab
-- a list of methods
def zi_pm (P : zi_M → Prop) : List (Option zi_M) → Prop
  | [] => True
  | none :: t => zi_pm P t
  | some M :: t => P M ∧ zi_pm P t
def zi_pms (P : zi_M → Prop) : List (List (Option zi_M)) → Prop
  | [] => True
  | r :: t => zi_pm P r ∧ zi_pms P t
theorem zp_z {P : zi_M → Prop} : zi_pm P [] := trivial
theorem zp_n {P : zi_M → Prop} {t : List (Option zi_M)} (h : zi_pm P t) : zi_pm P (none :: t) := h
theorem zp_c {P : zi_M → Prop} {M : zi_M} {t : List (Option zi_M)} (hM : P M) (h : zi_pm P t) : zi_pm P (some M :: t) := ⟨hM, h⟩
theorem zp_tz {P : zi_M → Prop} : zi_pms P [] := trivial
theorem zp_t {P : zi_M → Prop} {r : List (Option zi_M)} {t : List (List (Option zi_M))} (h : zi_pm P r) (ht : zi_pms P t) : zi_pms P (r :: t) := ⟨h, ht⟩
theorem zi_pm_at {P : zi_M → Prop} : ∀ {l : List (Option zi_M)} {k : Nat} {M : zi_M}, zi_pm P l → l[k]? = some (some M) → P M
  | [], _, _, _, h => by simp at h
  | none :: t, 0, _, _, h => by simp at h
  | none :: t, k + 1, M, h, e => zi_pm_at (k := k) (show zi_pm P t from h) (by simpa using e)
  | some N :: t, 0, M, h, e => by
    have e : N = M := by simpa using e
    subst e
    exact h.1
  | some N :: t, k + 1, M, h, e => zi_pm_at (k := k) h.2 (by simpa using e)
theorem zi_pms_at {P : zi_M → Prop} : ∀ {l : List (List (Option zi_M))} {k : Nat} {r : List (Option zi_M)}, zi_pms P l → l[k]? = some r → zi_pm P r
  | [], _, _, _, h => by simp at h
  | q :: t, 0, r, h, e => by
    have e : q = r := by simpa using e
    subst e
    exact h.1
  | q :: t, k + 1, r, h, e => zi_pms_at (k := k) h.2 (by simpa using e)
noncomputable def zi_mtl (l : List (List (Option zi_M))) (j : Nat) : Option zi_M := match zi_nth l (j / 16) with
  | none => none
  | some r => match zi_nth r (j % 16) with
    | none => none
    | some q => q
theorem zi_mtl_ok {P : zi_M → Prop} {l : List (List (Option zi_M))} (h : zi_pms P l) (j : Nat) (M : zi_M) (hj : zi_mtl l j = some M) : P M := by
  unfold zi_mtl at hj
  rw [zi_nth_eq] at hj
  cases h1 : l[j / 16]? with
  | none => rw [h1] at hj; cases hj
  | some r =>
    rw [h1] at hj
    dsimp only at hj
    rw [zi_nth_eq] at hj
    cases h2 : r[j % 16]? with
    | none => rw [h2] at hj; cases hj
    | some q =>
      rw [h2] at hj
      dsimp only at hj
      subst hj
      exact zi_pm_at (zi_pms_at h h1) h2
theorem za_n {α β : Type} {r : α → β → Prop} : zi_a2 r [] [] := trivial
theorem za_c {α β : Type} {r : α → β → Prop} {a : α} {b : β} {as : List α} {bs : List β} (h : r a b) (t : zi_a2 r as bs) : zi_a2 r (a :: as) (b :: bs) := ⟨h, t⟩
theorem za_i0 {b : Nat} {ads : List Nat} : zi_g b ads (.inl (2147483648, 2147483648)) (.int 0) := ⟨0, rfl, by rw [zi_o0]; exact zr_pt⟩
theorem za_nl {b : Nat} {ads : List Nat} : zi_g b ads (.inr (.inr (.inl none))) .null := rfl
