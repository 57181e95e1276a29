/-! calls of each kind, in the pure walk -/
section CKinds
variable {y : MethodName} {cc : ByteArray} {nL pc : Nat}
theorem ci_len {y' : MethodName} {n : Nat} (h : (parseMethodDescriptor y'.desc).map (fun d => d.parameters.length) = some n) {k : Nat} (hk : k = n) : ∀ sig, parseMethodDescriptor y'.desc = some sig → k = sig.parameters.length := by
  intro sig hs
  rw [hs] at h
  exact hk.trans (Option.some.inj h).symm
theorem cr_callV {n mL idx c0 N : Nat} {y' : MethodName} {cc' : ByteArray} {ret' : Option FieldType} {C : String} {T0 : u_T} {ty0 : Nat → FieldType} (hcode : Cond.code y' cc' mL ret' ∈ zi_G) (hy : y'.cls ≠ "java/lang/invoke/MethodHandle" ∧ y'.cls ≠ "java/lang/invoke/VarHandle") (hpar : (parseMethodDescriptor y'.desc).map (fun d => d.parameters.length) = some n) (hc : zi_cls c0 C T0 N ty0) (hin : Cond.instanceMethod y' ∈ zi_G) (hse : Cond.selects C y' y' ∈ zi_G) (hl : zi_lnk y y' idx) (hd : decode cc pc = .ok (.invokevirtual idx, 3)) : ci_calls y cc nL pc y' (n + 1) (some c0) := by
  intro p l e R s m args below meth c A b d sc X T locs cells slots XS Pre Post hK ls vs rest hls hnn hrec hsum hpre
  obtain ⟨r, hr, a, As, cell, rfl, c1, c2, c3⟩ := hrec
  cases hr.symm.trans hc.1
  have hts := X.2.2.2.2.1
  rcases hl with hl | ⟨host, hl⟩
  · obtain ⟨v, vm₁, B, h1, h2, h3, h4⟩ := callV XS X.1 (C := C) (bytes := cc') (maxL := mL) (ret := ret') X.2.2.2.1 (hts _ hl) (hts _ hin) (hts _ hse) (hts _ hcode) hy hK c1 c2 c3 (g := F0 m pc ls ((Value.ref a :: As).reverse ++ rest)) rfl hls (argsL := As) (rest := rest) (ci_len hpar (Nat.succ.inj hnn)) (by simp) (by show 2 * 0 + _ ≤ 30; omega) (by rw [X.2.1]; exact hd) hpre
    exact ⟨v, vm₁, B, h1, h2, h3, h4⟩
  · obtain ⟨v, vm₁, B, h1, h2, h3, h4⟩ := va_callVN XS X.1 (C := C) (bytes := cc') (maxL := mL) (ret := ret') X.2.2.2.1 (va_Nw.use rfl (X.2.2.2.2.2.1 _ hl rfl)) (hts _ hin) (hts _ hse) (hts _ hcode) hy hK c1 c2 c3 (g := F0 m pc ls ((Value.ref a :: As).reverse ++ rest)) rfl hls (argsL := As) (rest := rest) (ci_len hpar (Nat.succ.inj hnn)) (by simp) (by show 2 * 0 + _ ≤ 30; omega) (by rw [X.2.1]; exact hd) hpre
    exact ⟨v, vm₁, B, h1, h2, h3, h4⟩
theorem cr_callS {n mL idx : Nat} {y' : MethodName} {cc' : ByteArray} {ret' : Option FieldType} (hcode : Cond.code y' cc' mL ret' ∈ zi_G) (hini : Cond.initialized y'.cls ∈ zi_G) (hy : y'.cls ≠ "java/lang/invoke/MethodHandle" ∧ y'.cls ≠ "java/lang/invoke/VarHandle") (hpar : (parseMethodDescriptor y'.desc).map (fun d => d.parameters.length) = some n) (hst : Cond.static y' ∈ zi_G) (hl : zi_lnk y y' idx) (hd : decode cc pc = .ok (.invokestatic idx, 3)) : ci_calls y cc nL pc y' n none := by
  intro p l e R s m args below meth c A b d sc X T locs cells slots XS Pre Post hK ls vs rest hls hnn hrec hsum hpre
  have hts := X.2.2.2.2.1
  rcases hl with hl | ⟨host, hl⟩
  · obtain ⟨v, vm₁, B, h1, h2, h3, h4⟩ := callS XS X.1 (bytes := cc') (maxL := mL) (ret := ret') X.2.2.2.1 (hts _ hl) (hts _ hst) (hts _ hini) (hts _ hcode) hy hK (g := F0 m pc ls (vs.reverse ++ rest)) rfl hls (argsL := vs) (rest := rest) (ci_len hpar hnn) rfl (by show 2 * 0 + _ ≤ 30; omega) (by rw [X.2.1]; exact hd) hpre
    exact ⟨v, vm₁, B, h1, h2, h3, h4⟩
  · obtain ⟨v, vm₁, B, h1, h2, h3, h4⟩ := va_callSN XS X.1 (bytes := cc') (maxL := mL) (ret := ret') X.2.2.2.1 (va_Nw.use rfl (X.2.2.2.2.2.1 _ hl rfl)) (hts _ hst) (hts _ hini) (hts _ hcode) hy hK (g := F0 m pc ls (vs.reverse ++ rest)) rfl hls (argsL := vs) (rest := rest) (ci_len hpar hnn) rfl (by show 2 * 0 + _ ≤ 30; omega) (by rw [X.2.1]; exact hd) hpre
    exact ⟨v, vm₁, B, h1, h2, h3, h4⟩
end CKinds
section CMore
variable {y : MethodName} {cc : ByteArray} {nL pc nx : Nat}
theorem cr_iadd (hd : decode cc pc = .ok (.iadd, 1)) (hn : pc + 1 = nx) : ci_ok y cc nL pc (ci_bin (fun a b => a + b) nx) := by
  subst hn
  exact cr_bin (fun x y p l e R s m args below meth c H locs cells slots Q ls rest hx hb k => lv_iadd hx hb hd k)
theorem cr_isub (hd : decode cc pc = .ok (.isub, 1)) (hn : pc + 1 = nx) : ci_ok y cc nL pc (ci_bin (fun a b => a - b) nx) := by
  subst hn
  exact cr_bin (fun x y p l e R s m args below meth c H locs cells slots Q ls rest hx hb k => lv_isub hx hb hd k)
theorem cr_imul (hd : decode cc pc = .ok (.imul, 1)) (hn : pc + 1 = nx) : ci_ok y cc nL pc (ci_bin (fun a b => a * b) nx) := by
  subst hn
  exact cr_bin (fun x y p l e R s m args below meth c H locs cells slots Q ls rest hx hb k => lv_imul hx hb hd k)
theorem cr_iand (hd : decode cc pc = .ok (.iand, 1)) (hn : pc + 1 = nx) : ci_ok y cc nL pc (ci_bin (fun a b => a &&& b) nx) := by
  subst hn
  exact cr_bin (fun x y p l e R s m args below meth c H locs cells slots Q ls rest hx hb k => lv_iand hx hb hd k)
theorem cr_ior (hd : decode cc pc = .ok (.ior, 1)) (hn : pc + 1 = nx) : ci_ok y cc nL pc (ci_bin (fun a b => a ||| b) nx) := by
  subst hn
  exact cr_bin (fun x y p l e R s m args below meth c H locs cells slots Q ls rest hx hb k => lv_ior hx hb hd k)
theorem cr_ixor (hd : decode cc pc = .ok (.ixor, 1)) (hn : pc + 1 = nx) : ci_ok y cc nL pc (ci_bin (fun a b => a ^^^ b) nx) := by
  subst hn
  exact cr_bin (fun x y p l e R s m args below meth c H locs cells slots Q ls rest hx hb k => lv_ixor hx hb hd k)
theorem cr_ishl (hd : decode cc pc = .ok (.ishl, 1)) (hn : pc + 1 = nx) : ci_ok y cc nL pc (ci_bin (fun a b => a <<< (b &&& 31)) nx) := by
  subst hn
  exact cr_bin (fun x y p l e R s m args below meth c H locs cells slots Q ls rest hx hb k => lv_ishl hx hb hd k)
theorem cr_ishr (hd : decode cc pc = .ok (.ishr, 1)) (hn : pc + 1 = nx) : ci_ok y cc nL pc (ci_bin (fun a b => a >>> (b &&& 31)) nx) := by
  subst hn
  exact cr_bin (fun x y p l e R s m args below meth c H locs cells slots Q ls rest hx hb k => lv_ishr hx hb hd k)
theorem cr_iushr (hd : decode cc pc = .ok (.iushr, 1)) (hn : pc + 1 = nx) : ci_ok y cc nL pc (ci_bin (fun a b => (a.toUInt32 >>> (b.toUInt32 &&& Int32.toUInt32 31)).toInt32) nx) := by
  subst hn
  exact cr_bin (fun x y p l e R s m args below meth c H locs cells slots Q ls rest hx hb k => lv_iushr hx hb hd rfl k)
theorem cr_idiv (hd : decode cc pc = .ok (.idiv, 1)) (hn : pc + 1 = nx) : ci_ok y cc nL pc (ci_dv (fun a b => a / b) nx) := by
  subst hn
  exact cr_dv (fun x y h p l e R s m args below meth c H locs cells slots Q ls rest hx hb k => lv_idiv hx hb hd h k)
theorem cr_irem (hd : decode cc pc = .ok (.irem, 1)) (hn : pc + 1 = nx) : ci_ok y cc nL pc (ci_dv (fun a b => a - a / b * b) nx) := by
  subst hn
  exact cr_dv (fun x y h p l e R s m args below meth c H locs cells slots Q ls rest hx hb k => lv_irem hx hb hd h k)
theorem cr_ladd (hd : decode cc pc = .ok (.ladd, 1)) (hn : pc + 1 = nx) : ci_ok y cc nL pc (ci_binl (fun a b => a + b) nx) := by
  subst hn
  exact cr_binl (fun x y p l e R s m args below meth c H locs cells slots Q ls rest hx hb k => lv_ladd hx hb hd k)
theorem cr_land (hd : decode cc pc = .ok (.land, 1)) (hn : pc + 1 = nx) : ci_ok y cc nL pc (ci_binl (fun a b => a &&& b) nx) := by
  subst hn
  exact cr_binl (fun x y p l e R s m args below meth c H locs cells slots Q ls rest hx hb k => lv_land hx hb hd k)
theorem cr_lor (hd : decode cc pc = .ok (.lor, 1)) (hn : pc + 1 = nx) : ci_ok y cc nL pc (ci_binl (fun a b => a ||| b) nx) := by
  subst hn
  exact cr_binl (fun x y p l e R s m args below meth c H locs cells slots Q ls rest hx hb k => lv_lor hx hb hd k)
theorem cr_ldiv (hd : decode cc pc = .ok (.ldiv, 1)) (hn : pc + 1 = nx) : ci_ok y cc nL pc (ci_dvl (fun a b => a / b) nx) := by
  subst hn
  exact cr_dvl (fun x y h p l e R s m args below meth c H locs cells slots Q ls rest hx hb k => lv_ldiv hx hb hd h k)
theorem cr_lrem (hd : decode cc pc = .ok (.lrem, 1)) (hn : pc + 1 = nx) : ci_ok y cc nL pc (ci_dvl (fun a b => a - a / b * b) nx) := by
  subst hn
  exact cr_dvl (fun x y h p l e R s m args below meth c H locs cells slots Q ls rest hx hb k => lv_lrem hx hb hd h k)
theorem cr_lshl (hd : decode cc pc = .ok (.lshl, 1)) (hn : pc + 1 = nx) : ci_ok y cc nL pc (ci_shfl (fun a b => a <<< (b.toInt64 &&& 63)) nx) := by
  subst hn
  exact cr_shfl (fun x y p l e R s m args below meth c H locs cells slots Q ls rest hx hb k => lv_lshl hx hb hd rfl k)
theorem cr_lshr (hd : decode cc pc = .ok (.lshr, 1)) (hn : pc + 1 = nx) : ci_ok y cc nL pc (ci_shfl (fun a b => a >>> (b.toInt64 &&& 63)) nx) := by
  subst hn
  exact cr_shfl (fun x y p l e R s m args below meth c H locs cells slots Q ls rest hx hb k => lv_lshr hx hb hd rfl k)
theorem cr_i2b (hd : decode cc pc = .ok (.i2b, 1)) (hn : pc + 1 = nx) : ci_ok y cc nL pc (ci_un (fun x => x.toInt8.toInt32) nx) := by
  subst hn
  exact cr_un (fun x p l e R s m args below meth c H locs cells slots Q ls rest hx hb k => lv_i2b hx hb hd rfl k)
theorem cr_i2s (hd : decode cc pc = .ok (.i2s, 1)) (hn : pc + 1 = nx) : ci_ok y cc nL pc (ci_un (fun x => x.toInt16.toInt32) nx) := by
  subst hn
  exact cr_un (fun x p l e R s m args below meth c H locs cells slots Q ls rest hx hb k => lv_i2s hx hb hd rfl k)
end CMore
theorem cr_iconst2 {y : MethodName} {cc : ByteArray} {nL pc nx : Nat} {n : Int} {v : Int32} (hd : decode cc pc = .ok (.iconst n, 1)) (hv : Int32.ofInt n = v) (hn : pc + 1 = nx) : ci_ok y cc nL pc (ci_push (.int v) nx) := by
  subst hn
  exact ci_push_ok (fun _ _ => rfl) (fun p l e R s m args below meth c H locs cells slots Q ls rest hx hb k => lv_iconst hx hb hd hv k)
