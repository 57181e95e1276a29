/-! steps that make cells, and calls -/
section Make
variable {mt : Nat → Option zi_M} {y : MethodName} {cc : ByteArray} {nL pc nx : Nat}
theorem zi_o0 : zi_o 0 = 2147483648 := by decide
theorem zi_last {ws : va_W} {x : Nat × va_E} {n : Nat} (h : n = ws.length) : ((ws ++ [x]).map (·.1))[n]? = some x.1 := by
  subst h
  rw [List.map_append, List.getElem?_append_right (by simp)]
  simp
theorem zi_newa_ok {ty : FieldType} {atype : ArrayType} (hty : newarray.typeOf atype = ty) (hi : ty = .int ∨ ty = .byte ∨ ty = .boolean) (hw0 : Cond.arrayClass ty ∈ zi_G) (hd : decode cc pc = .ok (.newarray atype, 2)) (hn : pc + 2 = nx) : zi_ok mt y cc nL pc (zi_newa ty nx) := by
  subst hn
  intro p l e R s m args below meth c D A b d a0 E X hE st pc' st' hf Q H locs cells slots ls sk hR kk
  obtain ⟨lc, stk, w, rc, rs⟩ := st
  obtain ⟨ws, tys, lv, hlv0, hlv, hsk, hw⟩ := hR
  unfold zi_newa at hf
  match stk, hf, hsk with
  | [], hf, _ => cases hf
  | v :: t, hf, hsk =>
    dsimp only at hf
    cases h0 : zi_iv v with
    | none => rw [h0] at hf; cases hf
    | some x =>
      rw [h0] at hf
      dsimp only at hf
      cases h2 : (zi_one x && (Nat.ble 2147483648 x.1 && (Nat.ble x.1 2147493648 && (Nat.ble 1 rc && Nat.ble (x.1 - 2147483648) rs)))) with
      | false => rw [h2] at hf; cases hf
      | true =>
        rw [h2] at hf
        cases hf
        obtain ⟨q1, q2⟩ := Bool.and_eq_true_iff.mp h2
        obtain ⟨q2, q3⟩ := Bool.and_eq_true_iff.mp q2
        obtain ⟨q3, q4⟩ := Bool.and_eq_true_iff.mp q3
        obtain ⟨q4, q5⟩ := Bool.and_eq_true_iff.mp q4
        have q2 := Nat.le_of_ble_eq_true q2
        have q3 := Nat.le_of_ble_eq_true q3
        have q4 := Nat.le_of_ble_eq_true q4
        have q5 := Nat.le_of_ble_eq_true q5
        obtain ⟨z1, t1, rfl, g1, hs1⟩ := hsk.cons
        obtain ⟨i, rfl, hi'⟩ := zi_iv_ok _ h0 g1
        have ei := zi_one_eq q1 hi'
        obtain ⟨n, hnn⟩ : ∃ n : Nat, n = x.1 - 2147483648 := ⟨_, rfl⟩
        rw [← hnn] at kk q5
        have ein : zi_o i = n + 2147483648 := by omega
        have e := zi_oe i
        obtain ⟨w1, w2, w3, w4, w5, w6, w7, w8⟩ := hw
        dsimp only at w1 w6 w7
        have hdef : ∀ cA : ClassId, vp_cell cA (n, .inl (fun _ => (0 : Int32))) = arrV cA n (fun _ => defaultValue ty) := by
          intro cA
          rcases hi with rfl | rfl | rfl <;> rfl
        have hby : n * componentBytes ty ≤ 536870912 := by
          have hc : componentBytes ty ≤ 8 := by rcases hi with rfl | rfl | rfl <;> decide
          exact Nat.le_trans (Nat.mul_le_mul_left n hc) (by omega)
        refine va_newa (a0 := (n, .inl (fun _ => 0))) X.1 X.2.1 (by rw [hty]; exact X.2.2.2.2.1 _ hw0) hty w4 w2 w3 w5 X.2.2.2.2.2.2.1 hdef ?_ (zi_clamp ein) hby (by omega) (by omega) hd ?_
        · intro q
          have := Int32.lt_iff_toInt_lt.mp q
          have e0 : (0 : Int32).toInt = 0 := rfl
          omega
        · intro q cA H1 hK hP hD hS
          have ext : ∀ (k a : Nat), (ws.map (·.1))[k]? = some a → ((ws ++ [(q, Sum.inl (cA, n, Sum.inl fun _ => (0 : Int32)))] : va_W).map (·.1))[k]? = some a := fun k a h => zi_ads_app h
          refine kk _ _ _ _ _ _ ⟨_, _, lv, hlv0, hlv.mono (fun p q h => ⟨h.1, zi_g.mono ext _ _ h.2⟩), ⟨⟨q, zi_last w1.1, rfl⟩, hs1.mono (zi_g.mono ext)⟩, ?_, hP, hD, hK, hS, by dsimp only; omega, by dsimp only; omega, fun k a h => ext k a (w8 k a h)⟩
          refine (w1.mono ext (fun k q h => ?_)).push ⟨cA, fun _ => 0, tys.length, by rw [List.length_replicate], by simp, ?_⟩
          · rw [List.getElem?_append_left (List.getElem?_eq_some_iff.mp h).1]; exact h
          · intro j r hr
            rw [List.getElem?_replicate] at hr
            split at hr
            · cases hr; rw [zi_o0]; exact ⟨Nat.le_refl _, Nat.le_refl _⟩
            · cases hr
theorem zi_new_ok {ci N idx : Nat} {C : String} {T : u_T} {ty0 : Nat → FieldType} {vs : List zi_V} (hc : zi_cls ci C T N ty0) (hl : Cond.classLink y.cls idx C ∈ zi_G) (hin : Cond.instantiable C N ∈ zi_G) (hini : Cond.initialized C ∈ zi_G) (fs : List Value) (hfs : ∀ j, j < N → defaultValue (ty0 j) = vp_V fs j) (hv : ∀ (b : Nat) (ads : List Nat), zi_a2 (zi_g b ads) vs fs) (hd : decode cc pc = .ok (.new idx, 3)) (hn : pc + 3 = nx) : zi_ok mt y cc nL pc (zi_new ci N vs nx) := by
  subst hn
  intro p l e R s m args below meth c D A b d a0 E X hE st pc' st' hf Q H locs cells slots ls sk hR kk
  obtain ⟨lc, stk, w, rc, rs⟩ := st
  obtain ⟨ws, tys, lv, hlv0, hlv, hsk, hw⟩ := hR
  unfold zi_new at hf
  dsimp only at hf
  cases h2 : (Nat.ble 1 rc && Nat.ble N rs) with
  | false => rw [h2] at hf; cases hf
  | true =>
    rw [h2] at hf
    cases hf
    obtain ⟨q1, q2⟩ := Bool.and_eq_true_iff.mp h2
    have q1 := Nat.le_of_ble_eq_true q1
    have q2 := Nat.le_of_ble_eq_true q2
    obtain ⟨w1, w2, w3, w4, w5, w6, w7, w8⟩ := hw
    dsimp only at w1 w6 w7
    refine va_new X.1 X.2.1 X.2.2.2.2.1 hc.2.1 ty0 hc.2.2.1 X.2.2.2.1 (X.2.2.2.2.1 _ hl) (X.2.2.2.2.1 _ hin) (X.2.2.2.2.1 _ hini) w4 w2 w3 w5 X.2.2.2.2.2.2.1 hc.1 hfs (by omega) (by omega) hd ?_
    intro q H1 hP hD hS
    have ext : ∀ (k a : Nat), (ws.map (·.1))[k]? = some a → ((ws ++ [(q, Sum.inr (ci, fs))] : va_W).map (·.1))[k]? = some a := fun k a h => zi_ads_app h
    refine kk _ _ _ _ _ _ ⟨_, tys, lv, hlv0, hlv.mono (fun p q h => ⟨h.1, zi_g.mono ext _ _ h.2⟩), ⟨⟨q, zi_last w1.1, rfl⟩, hsk.mono (zi_g.mono ext)⟩, ?_, hP, hD, w4, hS, by dsimp only; omega, by dsimp only; omega, fun k a h => ext k a (w8 k a h)⟩
    exact (w1.mono ext (fun k q h => h)).push ⟨fs, rfl, hv _ _⟩
theorem zi_wt_ok {b : Nat} {ads : List Nat} : ∀ {as : List zi_V} {vs : List Value}, zi_a2 (zi_g b ads) as vs → (vs.map fun v => v.category).sum = zi_wt as
  | [], [], _ => rfl
  | [], _ :: _, h => h.elim
  | _ :: _, [], h => h.elim
  | a :: as, v :: vs, h => by
    rw [List.map_cons, List.sum_cons, zi_wt_ok h.2, zi_g.cat _ _ h.1]
    rfl
theorem zi_obj_ok {idx : Nat} (hl : Cond.methodLink y.cls idx Lib.objectInit ∈ zi_G) (h1 : Cond.instanceMethod Lib.objectInit ∈ zi_G) (h2 : Cond.code Lib.objectInit ⟨#[0xb1]⟩ 1 none ∈ zi_G) (hd : decode cc pc = .ok (.invokespecial idx, 3)) (hn : pc + 3 = nx) : zi_ok mt y cc nL pc (zi_obj nx) := by
  subst hn
  intro p l e R s m args below meth c D A b d a0 E X hE st pc' st' hf Q H locs cells slots ls sk hR kk
  obtain ⟨lc, stk, r⟩ := st
  obtain ⟨ws, tys, lv, hlv0, hlv, hsk, hw⟩ := hR
  unfold zi_obj at hf
  match stk, hf, hsk with
  | .inr (.inr (.inl (some q))) :: t, hf, hsk =>
    dsimp only at hf
    cases h3 : Nat.ble (zi_wt t) 20 with
    | false => rw [h3] at hf; cases hf
    | true =>
      rw [h3] at hf
      cases hf
      have h3 := Nat.le_of_ble_eq_true h3
      obtain ⟨z1, t1, rfl, ⟨a, ha, rfl⟩, hs1⟩ := hsk.cons
      have hx := X.2.2.2.2.2.2.2.1
      have hwt := zi_wt_ok hs1
      refine W.objInit (a := a) (rest := t1) X.1 X.2.1 X.2.2.2.1 (X.2.2.2.2.1 _ hl) (X.2.2.2.2.1 _ h1) (X.2.2.2.2.1 _ h2) rfl (hlv0.1.trans X.2.2.1.symm) rfl hd (by omega) ?_ (kk _ _ _ _ _ _ ⟨ws, tys, lv, hlv0, hlv, hs1, hw⟩)
      rw [hwt]
      show 2 * 0 + _ + 12 ≤ _
      omega
  | [], hf, _ => cases hf
  | .inl _ :: _, hf, _ => cases hf
  | .inr (.inl _) :: _, hf, _ => cases hf
  | .inr (.inr (.inl none)) :: _, hf, _ => cases hf
  | .inr (.inr (.inr _)) :: _, hf, _ => cases hf
theorem zi_cpy_len {a b : List zi_I} {sp dp n : Nat} (h1 : sp + n ≤ a.length) (h2 : dp + n ≤ b.length) : (zi_cpyl a b sp dp n).length = b.length := by
  unfold zi_cpyl
  rw [List.length_append, List.length_append, List.length_take, List.length_take, List.length_drop, List.length_drop]
  omega
theorem zi_cpy_ok {a b : List zi_I} {f g : Nat → Int32} {sp dp n : Nat} (h1 : sp + n ≤ a.length) (h2 : dp + n ≤ b.length) (ha : ∀ (j : Nat) (r : zi_I), a[j]? = some r → zi_in r (zi_o (f j))) (hb : ∀ (j : Nat) (r : zi_I), b[j]? = some r → zi_in r (zi_o (g j))) : ∀ (j : Nat) (r : zi_I), (zi_cpyl a b sp dp n)[j]? = some r → zi_in r (zi_o (va_cpy f g sp dp n j)) := by
  intro j r hr
  unfold zi_cpyl at hr
  dsimp only at hr
  unfold va_cpy
  have l1 : (List.take dp b).length = dp := by rw [List.length_take]; omega
  have l2 : (List.take n (List.drop sp a)).length = n := by rw [List.length_take, List.length_drop]; omega
  rcases Nat.lt_or_ge j dp with q | q
  · rw [List.append_assoc, List.getElem?_append_left (by omega), List.getElem?_take, if_pos q] at hr
    rw [if_neg (by omega)]
    exact hb _ _ hr
  · rcases Nat.lt_or_ge j (dp + n) with q2 | q2
    · rw [List.append_assoc, List.getElem?_append_right (by omega), l1, List.getElem?_append_left (by omega), List.getElem?_take, if_pos (by omega), List.getElem?_drop] at hr
      rw [if_pos ⟨q, q2⟩]
      exact ha _ _ hr
    · rw [List.getElem?_append_right (by rw [List.length_append]; omega), List.length_append, l1, l2, List.getElem?_drop] at hr
      rw [if_neg (by omega)]
      have e : dp + n + (j - (dp + n)) = j := by omega
      rw [e] at hr
      exact hb _ _ hr
theorem zi_nneg {i : Int32} {n : Nat} (h : zi_o i = n + 2147483648) : ¬ i < 0 := by
  intro q
  have e := zi_oe i
  have := Int32.lt_iff_toInt_lt.mp q
  have e0 : (0 : Int32).toInt = 0 := rfl
  omega
theorem zi_copy_ok {idx : Nat} (hl : Cond.methodLink y.cls idx arraycopyName ∈ zi_G) (h1 : Cond.native arraycopyName ∈ zi_G) (h2 : Cond.static arraycopyName ∈ zi_G) (h3 : Cond.initialized "java/lang/System" ∈ zi_G) (hd : decode cc pc = .ok (.invokestatic idx, 3)) (hn : pc + 3 = nx) : zi_ok mt y cc nL pc (zi_copy nx) := by
  subst hn
  intro p l e R s m args below meth c D A b d a0 E X hE st pc' st' hf Q H locs cells slots ls sk hR kk
  obtain ⟨lc, stk, w, r⟩ := st
  obtain ⟨ws, tys, lv, hlv0, hlv, hsk, hw⟩ := hR
  unfold zi_copy at hf
  split at hf
  · rename_i lc2 vn vd q1 vp q0 t w2 r2 heq
    cases heq
    split at hf
    · rename_i xn hxn
      split at hf
      · rename_i xd hxd
        split at hf
        · rename_i xs hxs
          split at hf
          · rename_i la hla
            split at hf
            · rename_i lb hlb
              cases h9 : (zi_one xn && (zi_one xd && (zi_one xs && (Nat.ble 2147483648 xn.1 && (Nat.ble 2147483648 xd.1 && (Nat.ble 2147483648 xs.1 && (Nat.ble (xs.1 - 2147483648 + (xn.1 - 2147483648)) la.length && (Nat.ble (xd.1 - 2147483648 + (xn.1 - 2147483648)) lb.length && Nat.ble (zi_wt t) 20)))))))) with
              | false => rw [h9] at hf; cases hf
              | true =>
                rw [h9] at hf
                cases hf
                obtain ⟨c1, h9⟩ := Bool.and_eq_true_iff.mp h9
                obtain ⟨c2, h9⟩ := Bool.and_eq_true_iff.mp h9
                obtain ⟨c3, h9⟩ := Bool.and_eq_true_iff.mp h9
                obtain ⟨c4, h9⟩ := Bool.and_eq_true_iff.mp h9
                obtain ⟨c5, h9⟩ := Bool.and_eq_true_iff.mp h9
                obtain ⟨c6, h9⟩ := Bool.and_eq_true_iff.mp h9
                obtain ⟨c7, h9⟩ := Bool.and_eq_true_iff.mp h9
                obtain ⟨c8, c9⟩ := Bool.and_eq_true_iff.mp h9
                have c4 := Nat.le_of_ble_eq_true c4
                have c5 := Nat.le_of_ble_eq_true c5
                have c6 := Nat.le_of_ble_eq_true c6
                have c7 := Nat.le_of_ble_eq_true c7
                have c8 := Nat.le_of_ble_eq_true c8
                have c9 := Nat.le_of_ble_eq_true c9
                obtain ⟨z5, t5, rfl, g5, hs5⟩ := hsk.cons
                obtain ⟨z4, t4, rfl, g4, hs4⟩ := hs5.cons
                obtain ⟨z3, t3, rfl, ⟨ad1, ha1, rfl⟩, hs3⟩ := hs4.cons
                obtain ⟨z2, t2, rfl, g2, hs2⟩ := hs3.cons
                obtain ⟨z1, t1, rfl, ⟨ad0, ha0, rfl⟩, hs1⟩ := hs2.cons
                obtain ⟨n, rfl, jn⟩ := zi_iv_ok _ hxn g5
                obtain ⟨dp, rfl, jd⟩ := zi_iv_ok _ hxd g4
                obtain ⟨sp, rfl, js⟩ := zi_iv_ok _ hxs g2
                have en := zi_one_eq c1 jn
                have ed := zi_one_eq c2 jd
                have es := zi_one_eq c3 js
                obtain ⟨n', hn'⟩ : ∃ n' : Nat, n' = xn.1 - 2147483648 := ⟨_, rfl⟩
                obtain ⟨d', hd'⟩ : ∃ d' : Nat, d' = xd.1 - 2147483648 := ⟨_, rfl⟩
                obtain ⟨s', hs'⟩ : ∃ s' : Nat, s' = xs.1 - 2147483648 := ⟨_, rfl⟩
                rw [← hn', ← hd', ← hs'] at kk
                rw [← hn', ← hs'] at c7
                rw [← hn', ← hd'] at c8
                have fn : zi_o n = n' + 2147483648 := by omega
                have fd : zi_o dp = d' + 2147483648 := by omega
                have fs : zi_o sp = s' + 2147483648 := by omega
                obtain ⟨w1, w2, w3, w4, w5, w6, w7, w8⟩ := hw
                dsimp only at w1 w6 w7
                obtain ⟨e1, he1⟩ := zi_ads ha1
                obtain ⟨e0, he0⟩ := zi_ads ha0
                obtain ⟨cA0, f0, t0, u1, u2, u3⟩ := zi_wr.at w1 hla he0
                obtain ⟨cA1, f1, t1', u4, u5, u6⟩ := zi_wr.at w1 hlb he1
                dsimp only at u1 u4
                subst u1
                subst u4
                have hx := X.2.2.2.2.2.2.2.1
                have hwt := zi_wt_ok hs1
                have hnf : nativeFrameWords "java/lang/System" "arraycopy" 5 = 7 := by decide
                refine va_copyi (ty := .int) X.1 X.2.1 (X.2.2.1.trans hlv0.1.symm) X.2.2.2.1 (X.2.2.2.2.1 _ hl) (X.2.2.2.2.1 _ h1) (X.2.2.2.2.1 _ h2) (X.2.2.2.2.1 _ h3) w4 w2 w3 w5 q0 q1 t0 t1' he0 he1 u2 u5 rfl (zi_nneg fs) (zi_nneg fd) (zi_nneg fn) (by rw [zi_clamp fs, zi_clamp fn]; exact c7) (by rw [zi_clamp fd, zi_clamp fn]; exact c8) (fun _ _ => rfl) (by omega) (by rw [hwt, hnf]; omega) hd ?_
                rw [zi_clamp fs, zi_clamp fd, zi_clamp fn]
                intro H1 locs1 hP hD hS
                have ea := zi_ads_set (e' := .inl (cA1, lb.length, .inl (va_cpy f0 f1 s' d' n'))) he1
                refine kk _ _ _ _ _ _ ⟨_, tys, lv, hlv0, by rw [ea]; exact hlv, by rw [ea]; exact hs1, ?_, hP, hD, w4, hS, w6, w7, by rw [ea]; exact w8⟩
                rw [ea]
                exact zi_wr.set w1 he1 ⟨cA1, _, t1', by rw [zi_cpy_len c7 c8], u5, zi_cpy_ok c7 c8 u3 u6⟩
            · cases hf
          · cases hf
        · cases hf
      · cases hf
    · cases hf
  · cases hf
theorem zi_pop_ok : ∀ (n : Nat) {sk acc as rest : List zi_V}, zi_pop n sk acc = some (as, rest) → ∃ px : List zi_V, sk = px ++ rest ∧ as = px.reverse ++ acc ∧ px.length = n
  | 0, sk, acc, as, rest, h => by cases h; exact ⟨[], rfl, rfl, rfl⟩
  | n + 1, [], acc, as, rest, h => by cases h
  | n + 1, v :: sk, acc, as, rest, h => by
    obtain ⟨px, h1, h2, h3⟩ := zi_pop_ok n (show zi_pop n sk (v :: acc) = some (as, rest) from h)
    exact ⟨v :: px, by rw [h1]; rfl, by rw [h2]; simp, by rw [List.length_cons, h3]⟩
theorem zi_a2.split {α β : Type} {r : α → β → Prop} : ∀ {as as' : List α} {bs : List β}, zi_a2 r (as ++ as') bs → ∃ b1 b2, bs = b1 ++ b2 ∧ zi_a2 r as b1 ∧ zi_a2 r as' b2
  | [], as', bs, h => ⟨[], bs, rfl, trivial, h⟩
  | a :: as, as', bs, h => by
    obtain ⟨b, bs', rfl, h1, h2⟩ := zi_a2.cons h
    obtain ⟨b1, b2, rfl, h3, h4⟩ := zi_a2.split h2
    exact ⟨b :: b1, b2, rfl, ⟨h1, h3⟩, h4⟩
theorem zi_a2.rev {α β : Type} {r : α → β → Prop} : ∀ {as : List α} {bs : List β}, zi_a2 r as bs → zi_a2 r as.reverse bs.reverse
  | [], [], _ => trivial
  | [], _ :: _, h => h.elim
  | _ :: _, [], h => h.elim
  | a :: as, b :: bs, h => by
    rw [List.reverse_cons, List.reverse_cons]
    exact (zi_a2.rev h.2).app ⟨h.1, trivial⟩
def zi_rec (s : State) (H : Heap) (vs : List Value) : Option Nat → Prop
  | none => True
  | some c0 => ∃ r : vw_C, vwCl[c0]? = some r ∧ ∃ (a : Nat) (As : List Value) (cell : Cell), vs = .ref a :: As ∧ H[a]? = some cell ∧ cell.vm.isStatics = false ∧ s.vm.findClass r.1 = some cell.cls
/-- what a call's row gives -/
def zi_gives (p : Program) (l : Launch) (e : Env) (R : Room) (s : State) (m : MethodId) (args : Array Value) (below : List Frame) (meth : Method) (c : Code) (T : State) (locs : List Loc) (cells slots : Nat) (Post : Pt → Array Value → Option Value → Pt → Prop) (vs rest : List Value) (pc : Nat) (ls : Array Slot) : Prop :=
  ∃ (v : Option Value) (vm₁ : Vm) (B : Pt), s.WarmedH vm₁ ∧ Stand p l e R s m args below meth c B.U B.locs B.cells B.slots ∧ Post ⟨T.setVm vm₁, locs, cells, slots⟩ vs.toArray v B ∧
    ∀ target, Steps p.tables e below (B.U.setTop (F0 m (pc + 3) ls (v.toList ++ rest))) target → Steps p.tables e below (T.setTop (F0 m pc ls (vs.reverse ++ rest))) target
theorem zi_inv_core {j n mc ms mL : Nat} {y' : MethodName} {cc' : ByteArray} {ret' : Option FieldType} {t' : zi_T} {ci : Option Nat} (hm : mt j = some (y', cc', mL, ret', t', mc, ms)) (hcode : Cond.code y' cc' mL ret' ∈ zi_G) (hini : Cond.initialized y'.cls ∈ zi_G) (hmL : mL ≤ 19) (hci : ∀ c0, ci = some c0 → ∃ r : vw_C, vwCl[c0]? = some r)
    (hcall : ∀ (p : Program) (l : Launch) (e : Env) (R : Room) (s : State) (m : MethodId) (args : Array Value) (below : List Frame) (meth : Method) (c : Code) (A : Nat → Prop) (b d : Nat) (sc : Option (List zi_V)), zi_X p R s m args meth c y cc nL A b sc d → ∀ (T : State) (locs : List Loc) (cells slots : Nat), Stand p l e R s m args below meth c T locs cells slots →
      ∀ (Pre : Pt → Array Value → Prop) (Post : Pt → Array Value → Option Value → Pt → Prop), Back l R p e below s args y' 3 30 Pre Post → ∀ (ls : Array Slot) (vs rest : List Value), ls.size = c.maxLocals → vs.length = n → zi_rec s T.heap vs ci → (rest.map fun v => v.category).sum ≤ 20 → (∀ vm₁, s.WarmedH vm₁ → Pre ⟨T.setVm vm₁, locs, cells, slots⟩ vs.toArray) →
      zi_gives p l e R s m args below meth c T locs cells slots Post vs rest pc ls) (hn : pc + 3 = nx) : zi_ok mt y cc nL pc (zi_inv j n ci mc ms nx) := by
  subst hn
  intro p l e R s m args below meth c D A b d a0 E X hE st pc' st' hf Q H locs cells slots ls sk hR kk
  obtain ⟨lc, stk, w, rc, rs⟩ := st
  obtain ⟨ws, tys, lv, hlv0, hlv, hsk, hw⟩ := hR
  unfold zi_inv at hf
  dsimp only at hf
  cases h1 : zi_pop n stk [] with
  | none => rw [h1] at hf; cases hf
  | some ar =>
  obtain ⟨as, rest⟩ := ar
  rw [h1] at hf
  dsimp only at hf
  cases h2 : (Nat.ble (zi_wt rest) 20 && (Nat.ble mc rc && Nat.ble ms rs)) with
  | false => rw [h2] at hf; cases hf
  | true =>
  rw [h2] at hf
  dsimp only [cond_true] at hf
  obtain ⟨q1, q2⟩ := Bool.and_eq_true_iff.mp h2
  obtain ⟨q2, q3⟩ := Bool.and_eq_true_iff.mp q2
  have q1 := Nat.le_of_ble_eq_true q1
  have q2 := Nat.le_of_ble_eq_true q2
  have q3 := Nat.le_of_ble_eq_true q3
  obtain ⟨px, e1, e2, e3⟩ := zi_pop_ok n h1
  rw [List.append_nil] at e2
  subst e1
  subst e2
  obtain ⟨k1, k2, rfl, a1, a2⟩ := zi_a2.split hsk
  obtain ⟨w1, w2, w3, w4, w5, w6, w7, w8⟩ := hw
  dsimp only at w1 w6 w7
  have hvs := a1.rev
  obtain ⟨vs, hvse⟩ : ∃ vs : List Value, vs = k1.reverse := ⟨_, rfl⟩
  rw [← hvse] at hvs
  have hk1 : k1 = vs.reverse := by rw [hvse, List.reverse_reverse]
  subst hk1
  have hrec : zi_rec s H vs ci ∧ ∃ (v : Option zi_V) (w' : zi_W), E.1 j px.reverse w = some (v, w') ∧ pc' = pc + 3 ∧ st' = (lc, v.toList ++ rest, w', rc - mc, rs - ms) := by
    match ci, hci, hf with
    | none, _, hf =>
      dsimp only [cond_true] at hf
      cases h3 : E.1 j px.reverse w with
      | none => rw [h3] at hf; cases hf
      | some vw => obtain ⟨v, w'⟩ := vw; rw [h3] at hf; cases hf; exact ⟨trivial, v, w', rfl, rfl, rfl⟩
    | some c0, hci, hf =>
      dsimp only at hf
      split at hf
      · rename_i q tl heq
        split at hf
        · rename_i c' fv hcell
          cases hcond : Nat.beq c' c0 with
          | false => rw [hcond] at hf; cases hf
          | true =>
            rw [hcond] at hf
            dsimp only [cond_true] at hf
            have hcc := Nat.eq_of_beq_eq_true hcond
            obtain ⟨rr, hrr⟩ := hci _ rfl
            have hvs' := hvs
            rw [heq] at hvs'
            obtain ⟨z1, t1, ev, ⟨a, ha, e0⟩, hs1⟩ := hvs'.cons
            obtain ⟨en, he⟩ := zi_ads ha
            obtain ⟨fs, u1, u2⟩ := zi_wr.at w1 hcell he
            dsimp only at u1
            rw [u1, hcc] at he
            obtain ⟨cell, f1, f2, f3⟩ := va_recv w4 w2 hrr he
            rw [e0] at ev
            refine ⟨⟨rr, hrr, a, t1, cell, ev, f1, f2, f3⟩, ?_⟩
            cases h3 : E.1 j px.reverse w with
            | none => rw [h3] at hf; cases hf
            | some vw => obtain ⟨v, w'⟩ := vw; rw [h3] at hf; cases hf; exact ⟨v, w', rfl, rfl, rfl⟩
        · cases hf
      · cases hf
  obtain ⟨hrec, v, w', hev, rfl, rfl⟩ := hrec
  obtain ⟨d', rfl, hMet⟩ := hE j _ _ _ _ _ hm hev
  have hM := hMet b D vs ws tys H.size hvs w1
  have hx := X.2.2.2.2.2.2.2.1
  have hF : ∀ q, va_A ws H.size q → A q := by
    intro q hq
    rcases hq with ⟨k, en, hk⟩ | hq
    · exact w3.2 k _ hk
    · exact X.2.2.2.2.2.2.1 q (Nat.le_trans w5.1 hq)
  have hblind : FrameBlind (va_Pc vs (zi_B D ws tys H.size)) := by
    intro aa U g mk q
    obtain ⟨r1, r2, r3, r4, r5, r6⟩ := q
    exact ⟨r1, r2, r3, va_K.moved (u := U) (U := U.calling g mk aa) (Vm.Alike.refl U.vm) r4, r5, zi_NW.same (u := U) rfl r6⟩
  intro T hT XS
  have hK : Back l R p e below s args y' 3 30 (PreOf R mc ms (va_Pc vs (zi_B D ws tys H.size))) (PostOf (zi_Q b D w' v ws H.size) mc ms (va_A ws H.size)) := back_of (bytes := cc') (maxL := mL) (ret := ret') hM hblind rfl rfl (by show d' + 1 + 1 ≤ _; omega) (by show 30 + (mL + 11) + (60 * d' + 60) ≤ _; omega) (pay_in X.2.2.2.2.1 (fun w hw => (List.mem_cons.mp hw).elim (fun h => by rw [h]; exact zi_G_good _ hcode) (fun h => zi_G_good _ h))) List.mem_cons_self (pay_in X.2.2.2.2.1 zi_G_good _ hini)
  obtain ⟨vv, vm₁, ⟨U', l2, c2, s2⟩, hW₁, X', ⟨g', mk, t, L, o1, o2, hq, o3, hL, o4, o5⟩, st⟩ := hcall p l e R s m args below meth c A b (d' + 1) E.2 X T locs cells slots XS _ _ hK ls vs k2 (hlv0.1.trans X.2.2.1.symm) (by rw [← hvs.len, List.length_reverse]; exact e3) (by rw [hT]; exact hrec) (by rw [zi_wt_ok a2]; exact q1) (fun vm₁ hW₁ => ⟨by show cells + mc ≤ _; omega, by show slots + ms ≤ _; omega, rfl, by show (T.setVm vm₁).heap.size = _; rw [show (T.setVm vm₁).heap = H from hT], by rw [show (T.setVm vm₁).heap = H from hT]; exact w2, va_K.moved (Vm.Alike.trans (Vm.Alike.refl _) (show s.vm.Alike (T.setVm vm₁).vm from State.WarmedH.alike hW₁)) w4, w3.weaken (fun _ _ _ _ => trivial), zi_NW.warm (U := T.setVm vm₁) hW₁ X.2.2.2.2.2.1⟩)
  dsimp only [Pt.U, Pt.locs, Pt.cells, Pt.slots] at X' o1 o2 o3 o4 o5 st
  subst o3
  subst o4
  subst o5
  obtain ⟨⟨vv', hvv, ws', tys', b1, b2, b3, b4, b5, b6⟩, hz, hk⟩ := hq
  cases hvv
  have hh0 : ((T.setVm vm₁).calling g' mk vs.toArray).heap = H := hT
  rw [hh0] at hz hk
  have fin : zi_R R s nL D A b a0 (lc, v.toList ++ rest, w', rc - mc, rs - ms) U'.heap (locs ++ L) (cells + mc) (slots + ms) ls (vv.toList ++ k2) := by
    refine ⟨ws', tys', lv, hlv0, hlv.mono (fun p q h => ⟨h.1, zi_g.mono b3 _ _ h.2⟩), ?_, b2, by rw [o1]; exact b4, b6.weaken (fun k q _ h => hF q.1 h), va_K.moved (show t.vm.Alike s.vm from (by rw [← o2]; exact X'.warmed.alike.symm)) b5, ?_, by dsimp only; omega, by dsimp only; omega, fun k a h => b3 k a (w8 k a h)⟩
    · refine zi_a2.app ?_ (a2.mono (zi_g.mono b3))
      cases v with
      | none => cases (show vv = none from b1); exact trivial
      | some a => obtain ⟨x, rfl, hx⟩ := b1; exact ⟨hx, trivial⟩
    · refine ⟨Nat.le_trans w5.1 (by rw [o1]; exact hz), fun q z1 z2 => ?_, fun q hq => ?_⟩
      · rw [o1, hk q (Nat.lt_of_lt_of_le z1 w5.1) (fun z => z2 (hF q z))]
        exact w5.2.1 q z1 z2
      · rcases List.mem_append.mp hq with h | h
        · exact w5.2.2 q h
        · exact hF _ (hL q h)
  obtain ⟨t2, r1, r2⟩ := kk _ _ _ _ _ _ fin U' rfl X'
  exact ⟨t2, st t2 r1, r2⟩
end Make
