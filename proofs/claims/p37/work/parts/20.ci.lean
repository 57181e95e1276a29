/-! THE PURE WALK: values as the machine has them, cells by numbers (a reference .ref (q + 1) is cell q; .ref 0 the script); a row of ints is a function. Nothing is made. -/
abbrev ci_C : Type := (FieldType × Nat × (Nat → Int32)) ⊕ (Nat × List Value)
abbrev ci_W : Type := Nat → Option ci_C
abbrev ci_L : Type := List (Nat × Value)
abbrev ci_S : Type := ci_L × List Value × ci_W
abbrev ci_F : Type := ci_S → Option (Nat × ci_S)
def ci_t (b : Nat) (ads : List Nat) : Value → Value
  | .ref 0 => .ref b
  | .ref (k + 1) => .ref (ads.getD k 0)
  | v => v
theorem ci_t_cat (b : Nat) (ads : List Nat) (v : Value) : (ci_t b ads v).category = v.category := by
  cases v with
  | ref k => cases k <;> rfl
  | _ => rfl
def ci_set (w : ci_W) (q : Nat) (c : ci_C) : ci_W := fun q' => if q' = q then some c else w q'
def ci_get : ci_L → Nat → Option Value
  | [], _ => none
  | q :: t, i => bif Nat.beq q.1 i then some q.2 else ci_get t i
def ci_st1 (l : ci_L) (i : Nat) (v : Value) : ci_L := (i, v) :: l.filter (fun q => !(q.1 == i) && !(q.1 + 1 == i && q.2.category == 2))
def ci_st2 (l : ci_L) (i : Nat) (v : Value) : ci_L := (i, v) :: l.filter (fun q => !(q.1 == i) && (!(q.1 == i + 1) && !(q.1 + 1 == i && q.2.category == 2)))
def ci_kd : Value → Nat
  | .int _ => 0
  | .long _ => 1
  | .ref _ => 2
  | .null => 2
  | _ => 3
def ci_push (v : Value) (nx : Nat) : ci_F := fun s => match s with
  | (lc, sk, w) => some (nx, lc, v :: sk, w)
def ci_load (kd i nx : Nat) : ci_F := fun s => match s with
  | (lc, sk, w) => match ci_get lc i with
    | some v => bif Nat.beq (ci_kd v) kd then some (nx, lc, v :: sk, w) else none
    | none => none
def ci_store (kd i nx : Nat) : ci_F := fun s => match s with
  | (lc, v :: sk, w) => bif Nat.beq (ci_kd v) kd then some (nx, ci_st1 lc i v, sk, w) else none
  | _ => none
def ci_storel (i nx : Nat) : ci_F := fun s => match s with
  | (lc, .long x :: sk, w) => some (nx, ci_st2 lc i (.long x), sk, w)
  | _ => none
def ci_inc (i : Nat) (n : Int) (nx : Nat) : ci_F := fun s => match s with
  | (lc, sk, w) => match ci_get lc i with
    | some (.int x) => some (nx, ci_st1 lc i (.int (x + Int32.ofInt n)), sk, w)
    | _ => none
def ci_bin (g : Int32 → Int32 → Int32) (nx : Nat) : ci_F := fun s => match s with
  | (lc, .int y :: .int x :: sk, w) => some (nx, lc, .int (g x y) :: sk, w)
  | _ => none
def ci_dv (g : Int32 → Int32 → Int32) (nx : Nat) : ci_F := fun s => match s with
  | (lc, .int y :: .int x :: sk, w) => if y = 0 then none else some (nx, lc, .int (g x y) :: sk, w)
  | _ => none
def ci_binl (g : Int64 → Int64 → Int64) (nx : Nat) : ci_F := fun s => match s with
  | (lc, .long y :: .long x :: sk, w) => some (nx, lc, .long (g x y) :: sk, w)
  | _ => none
def ci_dvl (g : Int64 → Int64 → Int64) (nx : Nat) : ci_F := fun s => match s with
  | (lc, .long y :: .long x :: sk, w) => if y = 0 then none else some (nx, lc, .long (g x y) :: sk, w)
  | _ => none
def ci_shfl (g : Int64 → Int32 → Int64) (nx : Nat) : ci_F := fun s => match s with
  | (lc, .int y :: .long x :: sk, w) => some (nx, lc, .long (g x y) :: sk, w)
  | _ => none
def ci_lcmp (nx : Nat) : ci_F := fun s => match s with
  | (lc, .long y :: .long x :: sk, w) => some (nx, lc, .int (lg_cmp x y) :: sk, w)
  | _ => none
def ci_i2l (nx : Nat) : ci_F := fun s => match s with
  | (lc, .int x :: sk, w) => some (nx, lc, .long x.toInt64 :: sk, w)
  | _ => none
def ci_l2i (nx : Nat) : ci_F := fun s => match s with
  | (lc, .long x :: sk, w) => some (nx, lc, .int x.toInt32 :: sk, w)
  | _ => none
def ci_un (g : Int32 → Int32) (nx : Nat) : ci_F := fun s => match s with
  | (lc, .int x :: sk, w) => some (nx, lc, .int (g x) :: sk, w)
  | _ => none
def ci_if (g : Int32 → Bool) (tg nx : Nat) : ci_F := fun s => match s with
  | (lc, .int x :: sk, w) => some (bif g x then tg else nx, lc, sk, w)
  | _ => none
def ci_ic (g : Int32 → Int32 → Bool) (tg nx : Nat) : ci_F := fun s => match s with
  | (lc, .int y :: .int x :: sk, w) => some (bif g x y then tg else nx, lc, sk, w)
  | _ => none
def ci_go (tg : Nat) : ci_F := fun s => some (tg, s)
def ci_null (tn tr : Nat) : ci_F := fun s => match s with
  | (lc, .null :: sk, w) => some (tn, lc, sk, w)
  | (lc, .ref _ :: sk, w) => some (tr, lc, sk, w)
  | _ => none
def ci_tsw (lo hi : Int) (ts : List Nat) (df : Nat) : ci_F := fun s => match s with
  | (lc, .int x :: sk, w) => if x.toInt < lo ∨ hi < x.toInt then some (df, lc, sk, w) else (match ts[(x.toInt - lo).toNat]? with
      | some t => some (t, lc, sk, w)
      | none => none)
  | _ => none
def ci_dup (nx : Nat) : ci_F := fun s => match s with
  | (lc, a :: sk, w) => bif Nat.beq a.category 1 then some (nx, lc, a :: a :: sk, w) else none
  | _ => none
def ci_dup2 (nx : Nat) : ci_F := fun s => match s with
  | (lc, a :: b :: sk, w) => bif Nat.beq a.category 1 && Nat.beq b.category 1 then some (nx, lc, a :: b :: a :: b :: sk, w) else none
  | _ => none
def ci_popp (nx : Nat) : ci_F := fun s => match s with
  | (lc, a :: sk, w) => bif Nat.beq a.category 1 then some (nx, lc, sk, w) else none
  | _ => none
def ci_getf (ci k nx : Nat) : ci_F := fun s => match s with
  | (lc, .ref (q + 1) :: sk, w) => match w q with
    | some (.inr (c, vs)) => bif Nat.beq c ci then (match vs[k]? with
        | some v => some (nx, lc, v :: sk, w)
        | none => none) else none
    | _ => none
  | _ => none
def ci_fit (ty : FieldType) (v : Value) : Bool := match ty, v with
  | .int, .int _ => true
  | .boolean, .int x => x == 0 || x == 1
  | .object _, .ref _ => true
  | .object _, .null => true
  | .array _, .ref _ => true
  | .array _, .null => true
  | _, _ => false
def ci_putf (ci k : Nat) (ty : FieldType) (nx : Nat) : ci_F := fun s => match s with
  | (lc, v :: .ref (q + 1) :: sk, w) => match w q with
    | some (.inr (c, vs)) => bif Nat.beq c ci && (ci_fit ty v && Nat.blt k vs.length) then some (nx, lc, sk, ci_set w q (.inr (c, vs.set k v))) else none
    | _ => none
  | _ => none
def ci_at (i : Int32) (n : Nat) : Prop := 0 ≤ i.toInt ∧ i.toInt < (n : Int)
def ci_ald (ty : FieldType) (nx : Nat) : ci_F := fun s => match s with
  | (lc, .int i :: .ref (q + 1) :: sk, w) => match w q with
    | some (.inl (t, n, f)) => if t = ty ∧ 0 ≤ i.toInt ∧ i.toInt < (n : Int) then some (nx, lc, .int (f i.toInt.toNat) :: sk, w) else none
    | _ => none
  | _ => none
def ci_afit (ty : FieldType) (x : Int32) : Bool := match ty with
  | .int => true
  | .boolean => x == 0 || x == 1
  | .byte => decide (-128 ≤ x.toInt ∧ x.toInt ≤ 127)
  | _ => false
def ci_ast (ty : FieldType) (nx : Nat) : ci_F := fun s => match s with
  | (lc, .int x :: .int i :: .ref (q + 1) :: sk, w) => match w q with
    | some (.inl (t, n, f)) => if t = ty ∧ 0 ≤ i.toInt ∧ i.toInt < (n : Int) ∧ ci_afit ty x = true then some (nx, lc, sk, ci_set w q (.inl (t, n, upd f i.toInt.toNat x))) else none
    | _ => none
  | _ => none
def ci_alen (nx : Nat) : ci_F := fun s => match s with
  | (lc, .ref (q + 1) :: sk, w) => match w q with
    | some (.inl (_, n, _)) => some (nx, lc, .int (Int32.ofNat n) :: sk, w)
    | _ => none
  | _ => none
def ci_copy (nx : Nat) : ci_F := fun s => match s with
  | (lc, .int n :: .int dp :: .ref (q1 + 1) :: .int sp :: .ref (q0 + 1) :: sk, w) => match w q0 with
    | some (.inl (t0, n0, f)) => match w q1 with
      | some (.inl (t1, n1, g)) => if t0 = .int ∧ t1 = .int ∧ 0 ≤ n.toInt ∧ 0 ≤ dp.toInt ∧ 0 ≤ sp.toInt ∧ sp.toInt + n.toInt ≤ (n0 : Int) ∧ dp.toInt + n.toInt ≤ (n1 : Int) ∧ (sk.map fun v => v.category).sum ≤ 20 then some (nx, lc, sk, ci_set w q1 (.inl (t1, n1, va_cpy f g sp.toInt.toNat dp.toInt.toNat n.toInt.toNat))) else none
      | _ => none
    | _ => none
  | _ => none
def ci_seq (f : ci_F) (pc2 : Nat) (g : ci_F) : ci_F := fun s => match f s with
  | none => none
  | some r => bif Nat.beq r.1 pc2 then g r.2 else none
/-- cells of the pure world and of the machine's -/
def ci_cg (b : Nat) (ads : List Nat) (tys : List (ClassId × FieldType)) : ci_C → Nat × va_E → Prop
  | .inl (ty, n, f), q => ∃ (cA : ClassId) (t0 : Nat), q.2 = .inl (cA, n, .inl f) ∧ tys[t0]? = some (cA, ty)
  | .inr (ci, vs), q => q.2 = .inr (ci, vs.map (ci_t b ads))
def ci_wr (b : Nat) (ads : List Nat) (tys : List (ClassId × FieldType)) (w : ci_W) (ws : va_W) : Prop := ws.map (·.1) = ads ∧ ∀ (q : Nat) (c : ci_C), w q = some c → ∃ e, ws[q]? = some e ∧ ci_cg b ads tys c e
def ci_RW (s : State) (D : va_G) (A : Nat → Prop) (b : Nat) (ads : List Nat) (w : ci_W) (ws : va_W) (tys : List (ClassId × FieldType)) (H : Heap) (locs : List Loc) : Prop :=
  ci_wr b ads tys w ws ∧ va_P D vwCl ws H ∧ va_D A ws ∧ va_K D vwCl tys s ∧ va_S A s.heap H locs
def ci_R (s : State) (nL : Nat) (D : va_G) (A : Nat → Prop) (b : Nat) (ads : List Nat) (tys : List (ClassId × FieldType)) (st : ci_S) (H : Heap) (locs : List Loc) (ls : Array Slot) (sk : List Value) : Prop :=
  ∃ (ws : va_W), lv_has ls nL (st.1.map (fun q => (q.1, ci_t b ads q.2))) ∧ sk = st.2.1.map (ci_t b ads) ∧ ci_RW s D A b ads st.2.2 ws tys H locs
/-- what holds within a frame -/
def ci_X (p : Program) (R : Room) (s : State) (m : MethodId) (args : Array Value) (meth : Method) (c : Code) (y : MethodName) (cc : ByteArray) (nL : Nat) (A : Nat → Prop) (d : Nat) : Prop := zi_X p R s m args meth c y cc nL A 0 none d
def ci_ok (y : MethodName) (cc : ByteArray) (nL pc : Nat) (f : ci_F) : Prop :=
  ∀ (p : Program) (l : Launch) (e : Env) (R : Room) (s : State) (m : MethodId) (args : Array Value) (below : List Frame) (meth : Method) (c : Code) (D : va_G) (A : Nat → Prop) (b d : Nat) (ads : List Nat) (tys : List (ClassId × FieldType)), ci_X p R s m args meth c y cc nL A d →
    ∀ (st : ci_S) (pc' : Nat) (st' : ci_S), f st = some (pc', st') → ∀ (Q : State → Prop) (H : Heap) (locs : List Loc) (cells slots : Nat) (ls : Array Slot) (sk : List Value), ci_R s nL D A b ads tys st H locs ls sk →
      (∀ (H' : Heap) (locs' : List Loc) (ls' : Array Slot) (sk' : List Value), ci_R s nL D A b ads tys st' H' locs' ls' sk' → W p l e R s m args below meth c H' locs' cells slots Q (F0 m pc' ls' sk')) →
      W p l e R s m args below meth c H locs cells slots Q (F0 m pc ls sk)
theorem ci_get_ok {i : Nat} {v : Value} : ∀ {l : ci_L}, ci_get l i = some v → (i, v) ∈ l
  | [], h => by cases h
  | q :: t, h => by
    unfold ci_get at h
    cases hb : Nat.beq q.1 i with
    | true =>
      rw [hb] at h
      cases h
      have e := Nat.eq_of_beq_eq_true hb
      obtain ⟨q1, q2⟩ := q
      dsimp only at e
      subst e
      exact List.mem_cons_self
    | false => rw [hb] at h; exact List.mem_cons_of_mem _ (ci_get_ok h)
theorem ci_st1_map (b : Nat) (ads : List Nat) (l : ci_L) (i : Nat) (v : Value) : (ci_st1 l i v).map (fun q => (q.1, ci_t b ads q.2)) = (i, ci_t b ads v) :: (l.map (fun q => (q.1, ci_t b ads q.2))).filter (fun q => !(q.1 == i) && !(q.1 + 1 == i && q.2.category == 2)) := by
  unfold ci_st1
  rw [List.map_cons, List.filter_map]
  simp only [Function.comp_def, ci_t_cat]
theorem ci_st2_map (b : Nat) (ads : List Nat) (l : ci_L) (i : Nat) (v : Value) : (ci_st2 l i v).map (fun q => (q.1, ci_t b ads q.2)) = (i, ci_t b ads v) :: (l.map (fun q => (q.1, ci_t b ads q.2))).filter (fun q => !(q.1 == i) && (!(q.1 == i + 1) && !(q.1 + 1 == i && q.2.category == 2))) := by
  unfold ci_st2
  rw [List.map_cons, List.filter_map]
  simp only [Function.comp_def, ci_t_cat]
theorem ci_wr.set {b : Nat} {ads : List Nat} {tys : List (ClassId × FieldType)} {w : ci_W} {ws : va_W} {q a : Nat} {c : ci_C} {e e0 : va_E} (h : ci_wr b ads tys w ws) (h0 : ws[q]? = some (a, e0)) (h1 : ci_cg b ads tys c (a, e)) : ci_wr b ads tys (ci_set w q c) (ws.set q (a, e)) := by
  refine ⟨by rw [zi_ads_set h0]; exact h.1, fun q' x hx => ?_⟩
  have hlt := (List.getElem?_eq_some_iff.mp h0).1
  rw [List.getElem?_set]
  unfold ci_set at hx
  by_cases e1 : q' = q
  · rw [if_pos e1] at hx
    cases hx
    rw [if_pos e1.symm, if_pos hlt]
    exact ⟨_, rfl, h1⟩
  · rw [if_neg e1] at hx
    rw [if_neg (fun z => e1 z.symm)]
    exact h.2 q' x hx
theorem ci_wr.ref {b : Nat} {ads : List Nat} {tys : List (ClassId × FieldType)} {w : ci_W} {ws : va_W} {q : Nat} {c : ci_C} (h : ci_wr b ads tys w ws) (h1 : w q = some c) : ∃ (a : Nat) (e : va_E), ws[q]? = some (a, e) ∧ ci_cg b ads tys c (a, e) ∧ ci_t b ads (.ref (q + 1)) = .ref a := by
  obtain ⟨⟨a, e⟩, h2, h3⟩ := h.2 q c h1
  refine ⟨a, e, h2, h3, ?_⟩
  show Value.ref (ads.getD q 0) = .ref a
  rw [← h.1, List.getD_eq_getElem?_getD, List.getElem?_map, h2]
  rfl
section CRows
variable {y : MethodName} {cc : ByteArray} {nL pc nx : Nat}
theorem ci_push_ok {v : Value} (hv : ∀ b ads, ci_t b ads v = v) (hr : zi_row cc pc nx [] [v]) : ci_ok y cc nL pc (ci_push v nx) := by
  intro p l e R s m args below meth c D A b d ads tys X st pc' st' hf Q H locs cells slots ls sk hR k
  obtain ⟨lc, stk, w⟩ := st
  obtain ⟨ws, hl, rfl, hw⟩ := hR
  cases hf
  exact hr p l e R s m args below meth c H locs cells slots Q ls _ X.1 X.2.1 (k _ _ _ _ ⟨ws, hl, by rw [List.map_cons, hv]; rfl, hw⟩)
theorem ci_load_ok {kd i : Nat} (hr : ∀ (p : Program) (l : Launch) (e : Env) (R : Room) (s : State) (m : MethodId) (args : Array Value) (below : List Frame) (meth : Method) (c : Code) (H : Heap) (locs : List Loc) (cells slots : Nat) (Q : State → Prop) (ls : Array Slot) (rest : List Value) (x : Value), p.tables.exec = Jvm.exec → c.code = cc → ci_kd x = kd → ls[i]? = some (.val x) →
    W p l e R s m args below meth c H locs cells slots Q (F0 m nx ls (x :: rest)) → W p l e R s m args below meth c H locs cells slots Q (F0 m pc ls rest)) : ci_ok y cc nL pc (ci_load kd i nx) := by
  intro p l e R s m args below meth c D A b d ads tys X st pc' st' hf Q H locs cells slots ls sk hR k
  obtain ⟨lc, stk, w⟩ := st
  obtain ⟨ws, hl, rfl, hw⟩ := hR
  unfold ci_load at hf
  dsimp only at hf
  cases hg : ci_get lc i with
  | none => rw [hg] at hf; cases hf
  | some v =>
    rw [hg] at hf
    dsimp only at hf
    cases hk : Nat.beq (ci_kd v) kd with
    | false => rw [hk] at hf; cases hf
    | true =>
      rw [hk] at hf
      cases hf
      have hm := ci_get_ok hg
      have hk' : ci_kd (ci_t b ads v) = kd := by
        rw [← Nat.eq_of_beq_eq_true hk]
        cases v with
        | ref q => cases q <;> rfl
        | _ => rfl
      exact hr p l e R s m args below meth c H locs cells slots Q ls _ (ci_t b ads v) X.1 X.2.1 hk' (hl.2.2 (i, ci_t b ads v) (List.mem_map.mpr ⟨(i, v), hm, rfl⟩)) (k _ _ _ _ ⟨ws, hl, rfl, hw⟩)
theorem ci_store_ok {kd i : Nat} (hr : ∀ (p : Program) (l : Launch) (e : Env) (R : Room) (s : State) (m : MethodId) (args : Array Value) (below : List Frame) (meth : Method) (c : Code) (H : Heap) (locs : List Loc) (cells slots : Nat) (Q : State → Prop) (ls : Array Slot) (rest : List Value) (x : Value) (lv : List (Nat × Value)), p.tables.exec = Jvm.exec → c.code = cc → ci_kd x = kd → lv_has ls nL lv →
    (∀ ls' : Array Slot, lv_has ls' nL ((i, x) :: lv.filter (fun q => !(q.1 == i) && !(q.1 + 1 == i && q.2.category == 2))) → W p l e R s m args below meth c H locs cells slots Q (F0 m nx ls' rest)) → W p l e R s m args below meth c H locs cells slots Q (F0 m pc ls (x :: rest))) : ci_ok y cc nL pc (ci_store kd i nx) := by
  intro p l e R s m args below meth c D A b d ads tys X st pc' st' hf Q H locs cells slots ls sk hR k
  obtain ⟨lc, stk, w⟩ := st
  obtain ⟨ws, hl, rfl, hw⟩ := hR
  unfold ci_store at hf
  match stk, hf with
  | [], hf => cases hf
  | v :: t, hf =>
    dsimp only at hf
    cases hk : Nat.beq (ci_kd v) kd with
    | false => rw [hk] at hf; cases hf
    | true =>
      rw [hk] at hf
      cases hf
      have hk' : ci_kd (ci_t b ads v) = kd := by
        rw [← Nat.eq_of_beq_eq_true hk]
        cases v with
        | ref q => cases q <;> rfl
        | _ => rfl
      exact hr p l e R s m args below meth c H locs cells slots Q ls _ (ci_t b ads v) _ X.1 X.2.1 hk' hl (fun ls' hl' => k _ _ _ _ ⟨ws, by rw [ci_st1_map]; exact hl', rfl, hw⟩)
theorem ci_storel_ok {i : Nat} (hr : ∀ (p : Program) (l : Launch) (e : Env) (R : Room) (s : State) (m : MethodId) (args : Array Value) (below : List Frame) (meth : Method) (c : Code) (H : Heap) (locs : List Loc) (cells slots : Nat) (Q : State → Prop) (ls : Array Slot) (rest : List Value) (x : Int64) (lv : List (Nat × Value)), p.tables.exec = Jvm.exec → c.code = cc → lv_has ls nL lv →
    (∀ ls' : Array Slot, lv_has ls' nL ((i, .long x) :: lv.filter (fun q => !(q.1 == i) && (!(q.1 == i + 1) && !(q.1 + 1 == i && q.2.category == 2)))) → W p l e R s m args below meth c H locs cells slots Q (F0 m nx ls' rest)) → W p l e R s m args below meth c H locs cells slots Q (F0 m pc ls (.long x :: rest))) : ci_ok y cc nL pc (ci_storel i nx) := by
  intro p l e R s m args below meth c D A b d ads tys X st pc' st' hf Q H locs cells slots ls sk hR k
  obtain ⟨lc, stk, w⟩ := st
  obtain ⟨ws, hl, rfl, hw⟩ := hR
  unfold ci_storel at hf
  split at hf
  · rename_i lc2 x t w2 heq
    cases heq
    cases hf
    exact hr p l e R s m args below meth c H locs cells slots Q ls _ x _ X.1 X.2.1 hl (fun ls' hl' => k _ _ _ _ ⟨ws, by rw [ci_st2_map]; exact hl', rfl, hw⟩)
  · cases hf
theorem ci_inc_ok {i : Nat} {n : Int} (hi : i < nL) (hd : decode cc pc = .ok (.iinc i n, 3)) (hn : pc + 3 = nx) : ci_ok y cc nL pc (ci_inc i n nx) := by
  subst hn
  intro p l e R s m args below meth c D A b d ads tys X st pc' st' hf Q H locs cells slots ls sk hR k
  obtain ⟨lc, stk, w⟩ := st
  obtain ⟨ws, hl, rfl, hw⟩ := hR
  unfold ci_inc at hf
  dsimp only at hf
  split at hf
  · rename_i x hg
    cases hf
    have hm := ci_get_ok hg
    have hm' : (i, Value.int x) ∈ lc.map (fun q => (q.1, ci_t b ads q.2)) := List.mem_map.mpr ⟨(i, .int x), hm, rfl⟩
    obtain ⟨q, hq⟩ := List.getElem?_of_mem hm'
    exact lv_iinc (v := x + Int32.ofInt n) (k := q) X.1 X.2.1 hd hl hq rfl hi rfl (fun ls' hl' => k _ _ _ _ ⟨ws, by rw [ci_st1_map]; exact hl', rfl, hw⟩)
  · cases hf
/-- steps on the stack alone -/
theorem ci_stk_ok {f : ci_F} (hf0 : ∀ (lc : ci_L) (sk : List Value) (w : ci_W) (r : Nat × ci_S), f (lc, sk, w) = some r → ∃ (pre post rest : List Value) (pc' : Nat), sk = pre ++ rest ∧ r = (pc', lc, post ++ rest, w) ∧ (∀ b ads, pre.map (ci_t b ads) = pre ∧ post.map (ci_t b ads) = post) ∧ zi_row cc pc pc' pre post) : ci_ok y cc nL pc f := by
  intro p l e R s m args below meth c D A b d ads tys X st pc' st' hf Q H locs cells slots ls sk hR k
  obtain ⟨lc, stk, w⟩ := st
  obtain ⟨ws, hl, rfl, hw⟩ := hR
  obtain ⟨pre, post, rest, pc1, h1, h2, h3, h4⟩ := hf0 _ _ _ _ hf
  cases h2
  subst h1
  obtain ⟨g1, g2⟩ := h3 b ads
  dsimp only
  rw [List.map_append, g1]
  exact h4 p l e R s m args below meth c H locs cells slots Q ls _ X.1 X.2.1 (k _ _ _ _ ⟨ws, hl, by show _ = List.map _ (post ++ rest); rw [List.map_append, g2], hw⟩)
end CRows
