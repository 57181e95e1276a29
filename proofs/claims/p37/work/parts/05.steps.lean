/-! each step of the walk is the machine's -/
def zi_isN : Cond → Bool
  | .methodLinkNest .. => true
  | _ => false
def zi_G : List Cond := lw_tbl.filter goodWord
theorem zi_inG {w : Cond} (h : w ∈ lw_tbl) (hg : goodWord w = true) : w ∈ zi_G := List.mem_filter.mpr ⟨h, hg⟩
theorem zi_G_good : GoodIn zi_G zi_G := fun _ h => ⟨h, good_of_word (List.mem_filter.mp h).2⟩
def zi_NW (U : State) : Prop := ∀ w ∈ lw_tbl, zi_isN w = true → va_Nw w U
theorem zi_NW.same {u U : State} (h : u.vm = U.vm) (q : zi_NW u) : zi_NW U := by
  intro w hw hn
  have q1 := q w hw hn
  cases w with
  | methodLinkNest a i x hh => exact va_Nw.same rfl h q1
  | _ => cases hn
theorem zi_NW.warm {s U : State} (hW : s.WarmedH U.vm) (q : zi_NW s) : zi_NW U := by
  intro w hw hn
  have q1 := q w hw hn
  cases w with
  | methodLinkNest a i x hh => exact va_Nw.warmM hW q1
  | _ => cases hn
def zi_cg (b : Nat) (ads : List Nat) (tys : List (ClassId × FieldType)) : zi_C → Nat × va_E → Prop
  | .inl (ty, l), q => ∃ (cA : ClassId) (f : Nat → Int32) (t0 : Nat), q.2 = .inl (cA, l.length, .inl f) ∧ tys[t0]? = some (cA, ty) ∧ ∀ (j : Nat) (r : zi_I), l[j]? = some r → zi_in r (zi_o (f j))
  | .inr (ci, vs), q => ∃ fs : List Value, q.2 = .inr (ci, fs) ∧ zi_a2 (zi_g b ads) vs fs
theorem zi_cg.mono {b : Nat} {ads ads' : List Nat} {tys tys' : List (ClassId × FieldType)} (ha : ∀ (k a : Nat), ads[k]? = some a → ads'[k]? = some a) (ht : ∀ (k : Nat) (q : ClassId × FieldType), tys[k]? = some q → tys'[k]? = some q) : ∀ (v : zi_C) (q : Nat × va_E), zi_cg b ads tys v q → zi_cg b ads' tys' v q
  | .inl (ty, l), q, h => by
    obtain ⟨cA, f, t0, h1, h2, h3⟩ := h
    exact ⟨cA, f, t0, h1, ht _ _ h2, h3⟩
  | .inr (ci, vs), q, h => by
    obtain ⟨fs, h1, h2⟩ := h
    exact ⟨fs, h1, h2.mono (zi_g.mono ha)⟩
theorem zi_nth_eq {α : Type} : ∀ (l : List α) (k : Nat), zi_nth l k = l[k]?
  | [], _ => by simp [zi_nth]
  | _ :: _, 0 => rfl
  | _ :: t, k + 1 => (zi_nth_eq t k).trans (by simp)
theorem zi_nth_up {α : Type} (f : α → α) : ∀ (l : List α) (k j : Nat), zi_nth (zi_up f l k) j = if j = k then (zi_nth l k).map f else zi_nth l j
  | [], k, j => by
    show (none : Option α) = if j = k then (none : Option α).map f else none
    split <;> rfl
  | a :: t, 0, 0 => rfl
  | a :: t, 0, j + 1 => rfl
  | a :: t, k + 1, 0 => rfl
  | a :: t, k + 1, j + 1 => by
    show zi_nth (zi_up f t k) j = if j + 1 = k + 1 then (zi_nth t k).map f else zi_nth t j
    rw [zi_nth_up f t k j]
    split
    · rename_i h; rw [if_pos (by omega)]
    · rename_i h; rw [if_neg (by omega)]
theorem zi_up_set {α : Type} (v : α) : ∀ (l : List α) (k : Nat), zi_up (fun _ => v) l k = l.set k v
  | [], _ => rfl
  | _ :: _, 0 => rfl
  | a :: t, k + 1 => by
    show a :: zi_up (fun _ => v) t k = a :: t.set k v
    rw [zi_up_set v t k]
theorem zi_fil_eq (f : Nat × zi_V → Bool) : ∀ (l : zi_L), zi_fil f l = l.filter f
  | [] => rfl
  | q :: t => by
    show (bif f q then q :: zi_fil f t else zi_fil f t) = (q :: t).filter f
    rw [List.filter_cons, zi_fil_eq f t]
    cases f q <;> rfl
/-- a cell that was put down: it, or what was there -/
theorem zi_put_at {n n' : Nat} {u : List (List (Option zi_C))} {q : Nat} {c : zi_C} {q' : Nat} {x : zi_C} (h : zi_wg (n', zi_up (fun r => zi_up (fun _ => some c) r (q % 8)) u (q / 8)) q' = some x) : (q' = q ∧ x = c) ∨ (¬ q' = q ∧ zi_wg (n, u) q' = some x) := by
  unfold zi_wg at h ⊢
  dsimp only at h ⊢
  rw [zi_nth_up] at h
  by_cases e : q' / 8 = q / 8
  · rw [if_pos e] at h
    rw [e]
    cases h1 : zi_nth u (q / 8) with
    | none => rw [h1] at h; cases h
    | some r =>
      rw [h1] at h
      dsimp only [Option.map] at h ⊢
      rw [zi_nth_up] at h
      by_cases e2 : q' % 8 = q % 8
      · rw [if_pos e2] at h
        have e3 : q' = q := by omega
        cases h2 : zi_nth r (q % 8) with
        | none => rw [h2] at h; cases h
        | some o =>
          rw [h2] at h
          dsimp only [Option.map] at h
          exact Or.inl ⟨e3, (Option.some.inj h).symm⟩
      · rw [if_neg e2] at h
        exact Or.inr ⟨fun z => e2 (by rw [z]), h⟩
  · rw [if_neg e] at h
    exact Or.inr ⟨fun z => e (by rw [z]), h⟩
def zi_wr (b : Nat) (ads : List Nat) (tys : List (ClassId × FieldType)) (w : zi_W) (ws : va_W) : Prop := w.1 = ws.length ∧ ∀ (q : Nat) (c : zi_C), zi_wg w q = some c → ∃ e, ws[q]? = some e ∧ zi_cg b ads tys c e
theorem zi_wr.mono {b : Nat} {ads ads' : List Nat} {tys tys' : List (ClassId × FieldType)} {w : zi_W} {ws : va_W} (ha : ∀ (k a : Nat), ads[k]? = some a → ads'[k]? = some a) (ht : ∀ (k : Nat) (q : ClassId × FieldType), tys[k]? = some q → tys'[k]? = some q) (h : zi_wr b ads tys w ws) : zi_wr b ads' tys' w ws := by
  refine ⟨h.1, fun q c hq => ?_⟩
  obtain ⟨e, h1, h2⟩ := h.2 q c hq
  exact ⟨e, h1, zi_cg.mono ha ht _ _ h2⟩
theorem zi_wr.at {b : Nat} {ads : List Nat} {tys : List (ClassId × FieldType)} {w : zi_W} {ws : va_W} {q : Nat} {c : zi_C} {e : Nat × va_E} (h : zi_wr b ads tys w ws) (h1 : zi_wg w q = some c) (h2 : ws[q]? = some e) : zi_cg b ads tys c e := by
  obtain ⟨e', h3, h4⟩ := h.2 q c h1
  rw [h2] at h3
  cases h3
  exact h4
theorem zi_wr.set {b : Nat} {ads : List Nat} {tys : List (ClassId × FieldType)} {w : zi_W} {ws : va_W} {q : Nat} {c : zi_C} {e e0 : Nat × va_E} (h : zi_wr b ads tys w ws) (h0 : ws[q]? = some e0) (h1 : zi_cg b ads tys c e) : zi_wr b ads tys (zi_ws w q c) (ws.set q e) := by
  refine ⟨by rw [List.length_set]; exact h.1, fun q' x hx => ?_⟩
  have hlt := (List.getElem?_eq_some_iff.mp h0).1
  rw [List.getElem?_set]
  rcases zi_put_at (n := w.1) hx with ⟨rfl, rfl⟩ | ⟨hne, hx⟩
  · rw [if_pos rfl, if_pos hlt]; exact ⟨e, rfl, h1⟩
  · rw [if_neg (fun z => hne z.symm)]
    exact h.2 q' x hx
theorem zi_wr.push {b : Nat} {ads : List Nat} {tys : List (ClassId × FieldType)} {w : zi_W} {ws : va_W} {c : zi_C} {e : Nat × va_E} (h : zi_wr b ads tys w ws) (h1 : zi_cg b ads tys c e) : zi_wr b ads tys (zi_wp w c) (ws ++ [e]) := by
  refine ⟨by show w.1 + 1 = _; rw [List.length_append, h.1]; rfl, fun q' x hx => ?_⟩
  rcases zi_put_at (n := w.1) hx with ⟨rfl, rfl⟩ | ⟨-, hx⟩
  · exact ⟨e, by rw [h.1]; simp, h1⟩
  · obtain ⟨e', h3, h4⟩ := h.2 q' x hx
    exact ⟨e', by rw [List.getElem?_append_left (List.getElem?_eq_some_iff.mp h3).1]; exact h3, h4⟩
/-- the world of the walk and that of the machine -/
def zi_RW (R : Room) (s : State) (D : va_G) (A : Nat → Prop) (b : Nat) (a0 : List Nat) (w : zi_W × Nat × Nat) (ws : va_W) (tys : List (ClassId × FieldType)) (H : Heap) (locs : List Loc) (cells slots : Nat) : Prop :=
  zi_wr b (ws.map (·.1)) tys w.1 ws ∧ va_P D vwCl ws H ∧ va_D A ws ∧ va_K D vwCl tys s ∧ va_S A s.heap H locs ∧ cells + w.2.1 ≤ R.cells ∧ slots + w.2.2 ≤ R.slots ∧ ∀ (k a : Nat), a0[k]? = some a → (ws.map (·.1))[k]? = some a
def zi_lr (b : Nat) (ads : List Nat) (p : Nat × zi_V) (q : Nat × Value) : Prop := p.1 = q.1 ∧ zi_g b ads p.2 q.2
def zi_R (R : Room) (s : State) (nL : Nat) (D : va_G) (A : Nat → Prop) (b : Nat) (a0 : List Nat) (st : zi_S) (H : Heap) (locs : List Loc) (cells slots : Nat) (ls : Array Slot) (sk : List Value) : Prop :=
  ∃ (ws : va_W) (tys : List (ClassId × FieldType)) (lv : List (Nat × Value)), lv_has ls nL lv ∧ zi_a2 (zi_lr b (ws.map (·.1))) st.1 lv ∧ zi_a2 (zi_g b (ws.map (·.1))) st.2.1 sk ∧ zi_RW R s D A b a0 st.2.2 ws tys H locs cells slots
def zi_rv (b : Nat) (ads : List Nat) : Option zi_V → Option Value → Prop
  | none, o => o = none
  | some a, o => ∃ x, o = some x ∧ zi_g b ads a x
def zi_B (D : va_G) (ws : va_W) (tys : List (ClassId × FieldType)) (sz : Nat) : State → Prop := fun U => U.heap.size = sz ∧ va_P D vwCl ws U.heap ∧ va_K D vwCl tys U ∧ va_D (fun _ => True) ws ∧ zi_NW U
def zi_QB (b : Nat) (D : va_G) (w' : zi_W) (v : Option zi_V) (ws : va_W) (sz : Nat) (vv : Option Value) (t : State) : Prop :=
  ∃ (ws' : va_W) (tys' : List (ClassId × FieldType)), zi_rv b (ws'.map (·.1)) v vv ∧ zi_wr b (ws'.map (·.1)) tys' w' ws' ∧ (∀ (k a : Nat), (ws.map (·.1))[k]? = some a → (ws'.map (·.1))[k]? = some a) ∧ va_P D vwCl ws' t.heap ∧ va_K D vwCl tys' t ∧ va_D (va_A ws sz) ws'
def zi_Q (b : Nat) (D : va_G) (w' : zi_W) (v : Option zi_V) (ws : va_W) (sz : Nat) : Array Value → State → Outcome → State → Prop := fun _ st oc t =>
  (∃ vv : Option Value, oc = .returned vv ∧ zi_QB b D w' v ws sz vv t) ∧ va_F (va_A ws sz) st t
abbrev zi_rm (d mc ms : Nat) : Room := { frames := d + 1, cells := mc, slots := ms, locals := 60 * d + 60 }
/-- a method's contract, as the walk has it -/
def zi_Met (l : Launch) (d : Nat) (M : zi_M) (as : List zi_V) (w : zi_W) (v : Option zi_V) (w' : zi_W) : Prop :=
  ∀ (b : Nat) (D : va_G) (vs : List Value) (ws : va_W) (tys : List (ClassId × FieldType)) (sz : Nat), zi_a2 (zi_g b (ws.map (·.1))) as vs → zi_wr b (ws.map (·.1)) tys w ws →
    Met l M.1 (Cond.code M.1 M.2.1 M.2.2.1 M.2.2.2.1 :: zi_G) (zi_rm d M.2.2.2.2.2.1 M.2.2.2.2.2.2) (va_Pc vs (zi_B D ws tys sz)) (zi_Q b D w' v ws sz) M.2.2.2.2.2.1 M.2.2.2.2.2.2 (va_A ws sz)
def zi_EO (mt : Nat → Option zi_M) (l : Launch) (E : Nat → List zi_V → zi_W → Option (Option zi_V × zi_W)) (d : Nat) : Prop :=
  ∀ (j : Nat) (M : zi_M) (as : List zi_V) (w : zi_W) (v : Option zi_V) (w' : zi_W), mt j = some M → E j as w = some (v, w') → ∃ d', d = d' + 1 ∧ zi_Met l d' M as w v w'
def zi_SC (s : State) (A : Nat → Prop) (b : Nat) : Option (List zi_V) → Prop
  | none => True
  | some sc => ∃ xs : Nat → Int32, va_X b sc.length xs s s.heap ∧ b < s.heap.size ∧ ¬ A b ∧ sc.length < 2147483648 ∧ ∀ (j : Nat) (v : zi_V) (ads : List Nat), sc[j]? = some v → zi_g b ads v (.int (xs j))
def zi_X (p : Program) (R : Room) (s : State) (m : MethodId) (args : Array Value) (meth : Method) (c : Code) (y : MethodName) (cc : ByteArray) (nL : Nat) (A : Nat → Prop) (b : Nat) (sc : Option (List zi_V)) (d : Nat) : Prop :=
  p.tables.exec = Jvm.exec ∧ c.code = cc ∧ c.maxLocals = nL ∧ s.vm.findClass y.cls = some m.cls ∧ (∀ w ∈ zi_G, w.before args s = true) ∧ zi_NW s ∧ (∀ q, s.heap.size ≤ q → A q) ∧ (d + 1 ≤ R.frames ∧ 60 * d + 60 ≤ R.locals) ∧ (y.name = "<init>" → meth.name = "<init>") ∧ zi_SC s A b sc
def zi_ok (mt : Nat → Option zi_M) (y : MethodName) (cc : ByteArray) (nL pc : Nat) (f : zi_F) : Prop :=
  ∀ (p : Program) (l : Launch) (e : Env) (R : Room) (s : State) (m : MethodId) (args : Array Value) (below : List Frame) (meth : Method) (c : Code) (D : va_G) (A : Nat → Prop) (b d : Nat) (a0 : List Nat) (E : zi_E), zi_X p R s m args meth c y cc nL A b E.2 d → zi_EO mt l E.1 d →
    ∀ (st : zi_S) (pc' : Nat) (st' : zi_S), f E st = some (pc', st') → ∀ (Q : State → Prop) (H : Heap) (locs : List Loc) (cells slots : Nat) (ls : Array Slot) (sk : List Value), zi_R R s nL D A b a0 st H locs cells slots ls sk →
      (∀ (H' : Heap) (locs' : List Loc) (cells' slots' : Nat) (ls' : Array Slot) (sk' : List Value), zi_R R s nL D A b a0 st' H' locs' cells' slots' ls' sk' → W p l e R s m args below meth c H' locs' cells' slots' Q (F0 m pc' ls' sk')) →
      W p l e R s m args below meth c H locs cells slots Q (F0 m pc ls sk)
theorem zi_beq (a b : Nat) : Nat.beq a b = (a == b) := by
  rw [Bool.eq_iff_iff]
  simp
theorem zi_get_ok {b : Nat} {ads : List Nat} {ls : Array Slot} {i : Nat} {v : zi_V} : ∀ {lc : zi_L} {lv : List (Nat × Value)}, zi_get lc i = some v → zi_a2 (zi_lr b ads) lc lv → (∀ q ∈ lv, ls[q.1]? = some (.val q.2)) → ∃ x, ls[i]? = some (.val x) ∧ zi_g b ads v x ∧ (i, x) ∈ lv
  | [], _, h, _, _ => by cases h
  | q :: t, lv, h, hr, hl => by
    obtain ⟨u, t', rfl, h1, h2⟩ := hr.cons
    change (bif Nat.beq q.1 i then some q.2 else zi_get t i) = some v at h
    cases hb : Nat.beq q.1 i with
    | true =>
      rw [hb] at h
      cases h
      have e := Nat.eq_of_beq_eq_true hb
      have h3 := hl u List.mem_cons_self
      obtain ⟨e1, e2⟩ := h1
      obtain ⟨u1, u2⟩ := u
      dsimp only at e1 e2 h3
      have e3 : u1 = i := e1.symm.trans e
      subst e3
      exact ⟨u2, h3, e2, List.mem_cons_self⟩
    | false =>
      rw [hb] at h
      obtain ⟨x, g1, g2, g3⟩ := zi_get_ok h h2 (fun q hq => hl q (List.mem_cons_of_mem _ hq))
      exact ⟨x, g1, g2, List.mem_cons_of_mem _ g3⟩
theorem zi_st1_ok {b : Nat} {ads : List Nat} {lc : zi_L} {lv : List (Nat × Value)} {i : Nat} {v : zi_V} {x : Value} (h : zi_a2 (zi_lr b ads) lc lv) (hx : zi_g b ads v x) : zi_a2 (zi_lr b ads) (zi_st1 lc i v) ((i, x) :: lv.filter (fun q => !(q.1 == i) && !(q.1 + 1 == i && q.2.category == 2))) := by
  unfold zi_st1
  rw [zi_fil_eq]
  refine ⟨⟨rfl, hx⟩, h.filter (fun p q hr => ?_)⟩
  obtain ⟨h1, h2⟩ := hr
  rw [zi_g.cat _ _ h2, h1]
  simp only [zi_beq]
theorem zi_st2_ok {b : Nat} {ads : List Nat} {lc : zi_L} {lv : List (Nat × Value)} {i : Nat} {v : zi_V} {x : Value} (h : zi_a2 (zi_lr b ads) lc lv) (hx : zi_g b ads v x) : zi_a2 (zi_lr b ads) (zi_st2 lc i v) ((i, x) :: lv.filter (fun q => !(q.1 == i) && (!(q.1 == i + 1) && !(q.1 + 1 == i && q.2.category == 2)))) := by
  unfold zi_st2
  rw [zi_fil_eq]
  refine ⟨⟨rfl, hx⟩, h.filter (fun p q hr => ?_)⟩
  obtain ⟨h1, h2⟩ := hr
  rw [zi_g.cat _ _ h2, h1]
  simp only [zi_beq]
def zi_K : Nat → Value → Prop
  | 0, x => ∃ i : Int32, x = .int i
  | 1, x => ∃ i : Int64, x = .long i
  | 2, x => x = .null ∨ ∃ a, x = .ref a
  | _, _ => True
theorem zi_g.kd {b : Nat} {ads : List Nat} {v : zi_V} {x : Value} {k : Nat} (h : zi_g b ads v x) (hk : zi_kd v = k) : zi_K k x := by
  match k, hk with
  | 0, hk => exact zi_g.kd0 _ _ h hk
  | 1, hk => exact zi_g.kd1 _ _ h hk
  | 2, hk => exact zi_g.kd2 _ _ h hk
  | _ + 3, _ => trivial
section Rows
variable {mt : Nat → Option zi_M} {y : MethodName} {cc : ByteArray} {nL pc nx : Nat}
/-- rows of the kit, as one kind: what lies on top comes of what lay there -/
def zi_row (cc : ByteArray) (pc nx : Nat) (pre post : List Value) : Prop :=
  ∀ (p : Program) (l : Launch) (e : Env) (R : Room) (s : State) (m : MethodId) (args : Array Value) (below : List Frame) (meth : Method) (c : Code) (H : Heap) (locs : List Loc) (cells slots : Nat) (Q : State → Prop) (ls : Array Slot) (rest : List Value), p.tables.exec = Jvm.exec → c.code = cc →
    W p l e R s m args below meth c H locs cells slots Q (F0 m nx ls (post ++ rest)) → W p l e R s m args below meth c H locs cells slots Q (F0 m pc ls (pre ++ rest))
theorem zi_push_ok {v : zi_V} {x : Value} (hv : ∀ b ads, zi_g b ads v x) (hr : zi_row cc pc nx [] [x]) : zi_ok mt y cc nL pc (zi_push v nx) := by
  intro p l e R s m args below meth c D A b d a0 E X hE st pc' st' hf Q H locs cells slots ls sk hR k
  obtain ⟨lc, stk, r⟩ := st
  obtain ⟨ws, tys, lv, hl, hlv, hsk, hw⟩ := hR
  cases hf
  exact hr p l e R s m args below meth c H locs cells slots Q ls sk X.1 X.2.1 (k _ _ _ _ _ _ ⟨ws, tys, lv, hl, hlv, ⟨hv _ _, hsk⟩, hw⟩)
theorem zi_load_ok {kd i : Nat} (hr : ∀ (p : Program) (l : Launch) (e : Env) (R : Room) (s : State) (m : MethodId) (args : Array Value) (below : List Frame) (meth : Method) (c : Code) (H : Heap) (locs : List Loc) (cells slots : Nat) (Q : State → Prop) (ls : Array Slot) (rest : List Value) (x : Value), p.tables.exec = Jvm.exec → c.code = cc → zi_K kd x → ls[i]? = some (.val x) →
    W p l e R s m args below meth c H locs cells slots Q (F0 m nx ls (x :: rest)) → W p l e R s m args below meth c H locs cells slots Q (F0 m pc ls rest)) : zi_ok mt y cc nL pc (zi_load kd i nx) := by
  intro p l e R s m args below meth c D A b d a0 E X hE st pc' st' hf Q H locs cells slots ls sk hR k
  obtain ⟨lc, stk, r⟩ := st
  obtain ⟨ws, tys, lv, hl, hlv, hsk, hw⟩ := hR
  unfold zi_load at hf
  dsimp only at hf
  cases hg : zi_get lc i with
  | none => rw [hg] at hf; cases hf
  | some v =>
    rw [hg] at hf
    dsimp only at hf
    cases hk : Nat.beq (zi_kd v) kd with
    | false => rw [hk] at hf; cases hf
    | true =>
      rw [hk] at hf
      cases hf
      obtain ⟨x, h1, h2, -⟩ := zi_get_ok hg hlv hl.2.2
      exact hr p l e R s m args below meth c H locs cells slots Q ls sk x X.1 X.2.1 (h2.kd (Nat.eq_of_beq_eq_true hk)) h1 (k _ _ _ _ _ _ ⟨ws, tys, lv, hl, hlv, ⟨h2, hsk⟩, hw⟩)
theorem zi_store_ok {kd i : Nat} (hi : i < nL) (hr : ∀ (p : Program) (l : Launch) (e : Env) (R : Room) (s : State) (m : MethodId) (args : Array Value) (below : List Frame) (meth : Method) (c : Code) (H : Heap) (locs : List Loc) (cells slots : Nat) (Q : State → Prop) (ls : Array Slot) (rest : List Value) (x : Value) (lv : List (Nat × Value)), p.tables.exec = Jvm.exec → c.code = cc → zi_K kd x → lv_has ls nL lv →
    (∀ ls' : Array Slot, lv_has ls' nL ((i, x) :: lv.filter (fun q => !(q.1 == i) && !(q.1 + 1 == i && q.2.category == 2))) → W p l e R s m args below meth c H locs cells slots Q (F0 m nx ls' rest)) → W p l e R s m args below meth c H locs cells slots Q (F0 m pc ls (x :: rest))) : zi_ok mt y cc nL pc (zi_store kd i nx) := by
  intro p l e R s m args below meth c D A b d a0 E X hE st pc' st' hf Q H locs cells slots ls sk hR k
  obtain ⟨lc, stk, r⟩ := st
  obtain ⟨ws, tys, lv, hl, hlv, hsk, hw⟩ := hR
  unfold zi_store at hf
  match stk, hf, hsk with
  | [], hf, _ => cases hf
  | v :: t, hf, hsk =>
    dsimp only at hf
    cases hk : Nat.beq (zi_kd v) kd with
    | false => rw [hk] at hf; cases hf
    | true =>
      rw [hk] at hf
      cases hf
      obtain ⟨x, t', rfl, h2, hs1⟩ := hsk.cons
      exact hr p l e R s m args below meth c H locs cells slots Q ls t' x lv X.1 X.2.1 (h2.kd (Nat.eq_of_beq_eq_true hk)) hl (fun ls' hl' => k _ _ _ _ _ _ ⟨ws, tys, _, hl', zi_st1_ok hlv h2, hs1, hw⟩)
theorem zi_storel_ok {i : Nat} (hr : ∀ (p : Program) (l : Launch) (e : Env) (R : Room) (s : State) (m : MethodId) (args : Array Value) (below : List Frame) (meth : Method) (c : Code) (H : Heap) (locs : List Loc) (cells slots : Nat) (Q : State → Prop) (ls : Array Slot) (rest : List Value) (x : Int64) (lv : List (Nat × Value)), p.tables.exec = Jvm.exec → c.code = cc → lv_has ls nL lv →
    (∀ ls' : Array Slot, lv_has ls' nL ((i, .long x) :: lv.filter (fun q => !(q.1 == i) && (!(q.1 == i + 1) && !(q.1 + 1 == i && q.2.category == 2)))) → W p l e R s m args below meth c H locs cells slots Q (F0 m nx ls' rest)) → W p l e R s m args below meth c H locs cells slots Q (F0 m pc ls (.long x :: rest))) : zi_ok mt y cc nL pc (zi_storel i nx) := by
  intro p l e R s m args below meth c D A b d a0 E X hE st pc' st' hf Q H locs cells slots ls sk hR k
  obtain ⟨lc, stk, r⟩ := st
  obtain ⟨ws, tys, lv, hl, hlv, hsk, hw⟩ := hR
  unfold zi_storel at hf
  match stk, hf, hsk with
  | [], hf, _ => cases hf
  | v :: t, hf, hsk =>
    dsimp only at hf
    cases hk : Nat.beq (zi_kd v) 1 with
    | false => rw [hk] at hf; cases hf
    | true =>
      rw [hk] at hf
      cases hf
      obtain ⟨x, t', rfl, h2, hs1⟩ := hsk.cons
      obtain ⟨i, rfl⟩ := zi_g.kd1 _ _ h2 (Nat.eq_of_beq_eq_true hk)
      exact hr p l e R s m args below meth c H locs cells slots Q ls t' i lv X.1 X.2.1 hl (fun ls' hl' => k _ _ _ _ _ _ ⟨ws, tys, _, hl', zi_st2_ok hlv h2, hs1, hw⟩)
theorem zi_inc_ok {i : Nat} {n : Int} {kk : zi_I} (hi : i < nL) (hk : zi_in kk (zi_o (Int32.ofInt n))) (hd : decode cc pc = .ok (.iinc i n, 3)) (hn : pc + 3 = nx) : zi_ok mt y cc nL pc (zi_inc i kk nx) := by
  subst hn
  intro p l e R s m args below meth c D A b d a0 E X hE st pc' st' hf Q H locs cells slots ls sk hR k
  obtain ⟨lc, stk, r⟩ := st
  obtain ⟨ws, tys, lv, hl, hlv, hsk, hw⟩ := hR
  unfold zi_inc at hf
  dsimp only at hf
  cases hg : zi_get lc i with
  | none => rw [hg] at hf; cases hf
  | some v =>
    rw [hg] at hf
    dsimp only at hf
    cases hv : zi_iv v with
    | none => rw [hv] at hf; cases hf
    | some x =>
      rw [hv] at hf
      cases hf
      obtain ⟨z, h1, h2, h3⟩ := zi_get_ok hg hlv hl.2.2
      obtain ⟨j, rfl, hj⟩ := zi_iv_ok _ hv h2
      obtain ⟨q, hq⟩ := List.getElem?_of_mem h3
      exact lv_iinc (v := j + Int32.ofInt n) (k := q) X.1 X.2.1 hd hl hq rfl hi rfl (fun ls' hl' => k _ _ _ _ _ _ ⟨ws, tys, _, hl', zi_st1_ok hlv ⟨_, rfl, zi_add_ok hj hk⟩, hsk, hw⟩)
theorem zi_bin_ok {f : zi_I → zi_I → zi_I} {g : Int32 → Int32 → Int32} (hf0 : ∀ {a b : zi_I} {x y : Int32}, zi_in a (zi_o x) → zi_in b (zi_o y) → zi_in (f a b) (zi_o (g x y))) (hr : ∀ x y : Int32, zi_row cc pc nx [.int y, .int x] [.int (g x y)]) : zi_ok mt y cc nL pc (zi_bin f nx) := by
  intro p l e R s m args below meth c D A b d a0 E X hE st pc' st' hf Q H locs cells slots ls sk hR k
  obtain ⟨lc, stk, r⟩ := st
  obtain ⟨ws, tys, lv, hl, hlv, hsk, hw⟩ := hR
  unfold zi_bin at hf
  match stk, hf, hsk with
  | [], hf, _ => cases hf
  | [_], hf, _ => cases hf
  | v2 :: v1 :: t, hf, hsk =>
    dsimp only at hf
    cases h1 : zi_iv v1 with
    | none => rw [h1] at hf; cases hf
    | some a1 =>
      rw [h1] at hf
      dsimp only at hf
      cases h2 : zi_iv v2 with
      | none => rw [h2] at hf; cases hf
      | some a2 =>
        rw [h2] at hf
        cases hf
        obtain ⟨z2, t2, rfl, g2, hs1⟩ := hsk.cons
        obtain ⟨z1, t1, rfl, g1, hs2⟩ := hs1.cons
        obtain ⟨i1, rfl, j1⟩ := zi_iv_ok _ h1 g1
        obtain ⟨i2, rfl, j2⟩ := zi_iv_ok _ h2 g2
        exact hr i1 i2 p l e R s m args below meth c H locs cells slots Q ls t1 X.1 X.2.1 (k _ _ _ _ _ _ ⟨ws, tys, lv, hl, hlv, ⟨⟨_, rfl, hf0 j1 j2⟩, hs2⟩, hw⟩)
theorem zi_dv_ok {f : zi_V → zi_I → zi_I → zi_V} {g : Int32 → Int32 → Int32} (hf0 : ∀ {b : Nat} {ads : List Nat} {a : zi_V} {xa yb : zi_I} {x y : Int32}, zi_g b ads a (.int x) → zi_in xa (zi_o x) → zi_in yb (zi_o y) → zi_g b ads (f a xa yb) (.int (g x y))) (hr : ∀ x y : Int32, ¬ y = 0 → zi_row cc pc nx [.int y, .int x] [.int (g x y)]) : zi_ok mt y cc nL pc (zi_dv f nx) := by
  intro p l e R s m args below meth c D A b d a0 E X hE st pc' st' hf Q H locs cells slots ls sk hR k
  obtain ⟨lc, stk, r⟩ := st
  obtain ⟨ws, tys, lv, hl, hlv, hsk, hw⟩ := hR
  unfold zi_dv at hf
  match stk, hf, hsk with
  | [], hf, _ => cases hf
  | [_], hf, _ => cases hf
  | v2 :: v1 :: t, hf, hsk =>
    dsimp only at hf
    cases h1 : zi_iv v1 with
    | none => rw [h1] at hf; cases hf
    | some a1 =>
      rw [h1] at hf
      dsimp only at hf
      cases h2 : zi_iv v2 with
      | none => rw [h2] at hf; cases hf
      | some a2 =>
        rw [h2] at hf
        dsimp only at hf
        cases h3 : zi_n0 a2 with
        | false => rw [h3] at hf; cases hf
        | true =>
          rw [h3] at hf
          cases hf
          obtain ⟨z2, t2, rfl, g2, hs1⟩ := hsk.cons
          obtain ⟨z1, t1, rfl, g1, hs2⟩ := hs1.cons
          obtain ⟨i1, rfl, j1⟩ := zi_iv_ok _ h1 g1
          obtain ⟨i2, rfl, j2⟩ := zi_iv_ok _ h2 g2
          exact hr i1 i2 (zi_n0_ok h3 j2) p l e R s m args below meth c H locs cells slots Q ls t1 X.1 X.2.1 (k _ _ _ _ _ _ ⟨ws, tys, lv, hl, hlv, ⟨hf0 g1 j1 j2, hs2⟩, hw⟩)
theorem zi_binl_ok {f : zi_I → zi_I → zi_I} {g : Int64 → Int64 → Int64} (hf0 : ∀ {a b : zi_I} {x y : Int64}, zi_in a (zi_ol x) → zi_in b (zi_ol y) → zi_in (f a b) (zi_ol (g x y))) (hr : ∀ x y : Int64, zi_row cc pc nx [.long y, .long x] [.long (g x y)]) : zi_ok mt y cc nL pc (zi_binl f nx) := by
  intro p l e R s m args below meth c D A b d a0 E X hE st pc' st' hf Q H locs cells slots ls sk hR k
  obtain ⟨lc, stk, r⟩ := st
  obtain ⟨ws, tys, lv, hl, hlv, hsk, hw⟩ := hR
  unfold zi_binl at hf
  match stk, hf, hsk with
  | [], hf, _ => cases hf
  | [_], hf, _ => cases hf
  | v2 :: v1 :: t, hf, hsk =>
    dsimp only at hf
    cases h1 : zi_lv v1 with
    | none => rw [h1] at hf; cases hf
    | some a1 =>
      rw [h1] at hf
      dsimp only at hf
      cases h2 : zi_lv v2 with
      | none => rw [h2] at hf; cases hf
      | some a2 =>
        rw [h2] at hf
        cases hf
        obtain ⟨z2, t2, rfl, g2, hs1⟩ := hsk.cons
        obtain ⟨z1, t1, rfl, g1, hs2⟩ := hs1.cons
        obtain ⟨i1, rfl, j1⟩ := zi_lv_ok _ h1 g1
        obtain ⟨i2, rfl, j2⟩ := zi_lv_ok _ h2 g2
        exact hr i1 i2 p l e R s m args below meth c H locs cells slots Q ls t1 X.1 X.2.1 (k _ _ _ _ _ _ ⟨ws, tys, lv, hl, hlv, ⟨⟨_, rfl, hf0 j1 j2⟩, hs2⟩, hw⟩)
theorem zi_dvl_ok {f : zi_I → zi_I → zi_I} {g : Int64 → Int64 → Int64} (hf0 : ∀ {a b : zi_I} {x y : Int64}, zi_in a (zi_ol x) → zi_in b (zi_ol y) → zi_in (f a b) (zi_ol (g x y))) (hr : ∀ x y : Int64, ¬ y = 0 → zi_row cc pc nx [.long y, .long x] [.long (g x y)]) : zi_ok mt y cc nL pc (zi_dvl f nx) := by
  intro p l e R s m args below meth c D A b d a0 E X hE st pc' st' hf Q H locs cells slots ls sk hR k
  obtain ⟨lc, stk, r⟩ := st
  obtain ⟨ws, tys, lv, hl, hlv, hsk, hw⟩ := hR
  unfold zi_dvl at hf
  match stk, hf, hsk with
  | [], hf, _ => cases hf
  | [_], hf, _ => cases hf
  | v2 :: v1 :: t, hf, hsk =>
    dsimp only at hf
    cases h1 : zi_lv v1 with
    | none => rw [h1] at hf; cases hf
    | some a1 =>
      rw [h1] at hf
      dsimp only at hf
      cases h2 : zi_lv v2 with
      | none => rw [h2] at hf; cases hf
      | some a2 =>
        rw [h2] at hf
        dsimp only at hf
        cases h3 : zi_n0l a2 with
        | false => rw [h3] at hf; cases hf
        | true =>
          rw [h3] at hf
          cases hf
          obtain ⟨z2, t2, rfl, g2, hs1⟩ := hsk.cons
          obtain ⟨z1, t1, rfl, g1, hs2⟩ := hs1.cons
          obtain ⟨i1, rfl, j1⟩ := zi_lv_ok _ h1 g1
          obtain ⟨i2, rfl, j2⟩ := zi_lv_ok _ h2 g2
          exact hr i1 i2 (zi_n0l_ok h3 j2) p l e R s m args below meth c H locs cells slots Q ls t1 X.1 X.2.1 (k _ _ _ _ _ _ ⟨ws, tys, lv, hl, hlv, ⟨⟨_, rfl, hf0 j1 j2⟩, hs2⟩, hw⟩)
theorem zi_shfl_ok {f : zi_I → zi_I → zi_I} {g : Int64 → Int32 → Int64} (hf0 : ∀ {a b : zi_I} {x : Int64} {y : Int32}, zi_in a (zi_ol x) → zi_in b (zi_o y) → zi_in (f a b) (zi_ol (g x y))) (hr : ∀ (x : Int64) (y : Int32), zi_row cc pc nx [.int y, .long x] [.long (g x y)]) : zi_ok mt y cc nL pc (zi_shfl f nx) := by
  intro p l e R s m args below meth c D A b d a0 E X hE st pc' st' hf Q H locs cells slots ls sk hR k
  obtain ⟨lc, stk, r⟩ := st
  obtain ⟨ws, tys, lv, hl, hlv, hsk, hw⟩ := hR
  unfold zi_shfl at hf
  match stk, hf, hsk with
  | [], hf, _ => cases hf
  | [_], hf, _ => cases hf
  | v2 :: v1 :: t, hf, hsk =>
    dsimp only at hf
    cases h1 : zi_lv v1 with
    | none => rw [h1] at hf; cases hf
    | some a1 =>
      rw [h1] at hf
      dsimp only at hf
      cases h2 : zi_iv v2 with
      | none => rw [h2] at hf; cases hf
      | some a2 =>
        rw [h2] at hf
        cases hf
        obtain ⟨z2, t2, rfl, g2, hs1⟩ := hsk.cons
        obtain ⟨z1, t1, rfl, g1, hs2⟩ := hs1.cons
        obtain ⟨i1, rfl, j1⟩ := zi_lv_ok _ h1 g1
        obtain ⟨i2, rfl, j2⟩ := zi_iv_ok _ h2 g2
        exact hr i1 i2 p l e R s m args below meth c H locs cells slots Q ls t1 X.1 X.2.1 (k _ _ _ _ _ _ ⟨ws, tys, lv, hl, hlv, ⟨⟨_, rfl, hf0 j1 j2⟩, hs2⟩, hw⟩)
theorem zi_lcmp_ok (hd : decode cc pc = .ok (.lcmp, 1)) (hn : pc + 1 = nx) : zi_ok mt y cc nL pc (zi_lcmp nx) := by
  subst hn
  intro p l e R s m args below meth c D A b d a0 E X hE st pc' st' hf Q H locs cells slots ls sk hR k
  obtain ⟨lc, stk, r⟩ := st
  obtain ⟨ws, tys, lv, hl, hlv, hsk, hw⟩ := hR
  unfold zi_lcmp at hf
  match stk, hf, hsk with
  | [], hf, _ => cases hf
  | [_], hf, _ => cases hf
  | v2 :: v1 :: t, hf, hsk =>
    dsimp only at hf
    cases h1 : zi_lv v1 with
    | none => rw [h1] at hf; cases hf
    | some a1 =>
      rw [h1] at hf
      dsimp only at hf
      cases h2 : zi_lv v2 with
      | none => rw [h2] at hf; cases hf
      | some a2 =>
        rw [h2] at hf
        cases hf
        obtain ⟨z2, t2, rfl, g2, hs1⟩ := hsk.cons
        obtain ⟨z1, t1, rfl, g1, hs2⟩ := hs1.cons
        obtain ⟨i1, rfl, j1⟩ := zi_lv_ok _ h1 g1
        obtain ⟨i2, rfl, j2⟩ := zi_lv_ok _ h2 g2
        exact W.lcmp X.1 X.2.1 hd (k _ _ _ _ _ _ ⟨ws, tys, lv, hl, hlv, ⟨⟨_, rfl, zi_cmpl_ok j1 j2⟩, hs2⟩, hw⟩)
theorem zi_i2l_ok' (hd : decode cc pc = .ok (.i2l, 1)) (hn : pc + 1 = nx) : zi_ok mt y cc nL pc (zi_i2l nx) := by
  subst hn
  intro p l e R s m args below meth c D A b d a0 E X hE st pc' st' hf Q H locs cells slots ls sk hR k
  obtain ⟨lc, stk, r⟩ := st
  obtain ⟨ws, tys, lv, hl, hlv, hsk, hw⟩ := hR
  unfold zi_i2l at hf
  match stk, hf, hsk with
  | [], hf, _ => cases hf
  | v1 :: t, hf, hsk =>
    dsimp only at hf
    cases h1 : zi_iv v1 with
    | none => rw [h1] at hf; cases hf
    | some a1 =>
      rw [h1] at hf
      cases hf
      obtain ⟨z1, t1, rfl, g1, hs1⟩ := hsk.cons
      obtain ⟨i1, rfl, j1⟩ := zi_iv_ok _ h1 g1
      exact lv_i2l X.1 X.2.1 hd rfl (k _ _ _ _ _ _ ⟨ws, tys, lv, hl, hlv, ⟨⟨_, rfl, zi_i2l_ok j1⟩, hs1⟩, hw⟩)
theorem zi_l2i_ok' (hd : decode cc pc = .ok (.l2i, 1)) (hn : pc + 1 = nx) : zi_ok mt y cc nL pc (zi_l2i nx) := by
  subst hn
  intro p l e R s m args below meth c D A b d a0 E X hE st pc' st' hf Q H locs cells slots ls sk hR k
  obtain ⟨lc, stk, r⟩ := st
  obtain ⟨ws, tys, lv, hl, hlv, hsk, hw⟩ := hR
  unfold zi_l2i at hf
  match stk, hf, hsk with
  | [], hf, _ => cases hf
  | v1 :: t, hf, hsk =>
    dsimp only at hf
    cases h1 : zi_lv v1 with
    | none => rw [h1] at hf; cases hf
    | some a1 =>
      rw [h1] at hf
      cases hf
      obtain ⟨z1, t1, rfl, g1, hs1⟩ := hsk.cons
      obtain ⟨i1, rfl, j1⟩ := zi_lv_ok _ h1 g1
      exact lv_l2i X.1 X.2.1 hd rfl (k _ _ _ _ _ _ ⟨ws, tys, lv, hl, hlv, ⟨⟨_, rfl, zi_l2i_ok j1⟩, hs1⟩, hw⟩)
theorem zi_un_ok {f : zi_I → zi_I} {g : Int32 → Int32} (hf0 : ∀ {a : zi_I} {x : Int32}, zi_in a (zi_o x) → zi_in (f a) (zi_o (g x))) (hr : ∀ x : Int32, zi_row cc pc nx [.int x] [.int (g x)]) : zi_ok mt y cc nL pc (zi_un f nx) := by
  intro p l e R s m args below meth c D A b d a0 E X hE st pc' st' hf Q H locs cells slots ls sk hR k
  obtain ⟨lc, stk, r⟩ := st
  obtain ⟨ws, tys, lv, hl, hlv, hsk, hw⟩ := hR
  unfold zi_un at hf
  match stk, hf, hsk with
  | [], hf, _ => cases hf
  | v1 :: t, hf, hsk =>
    dsimp only at hf
    cases h1 : zi_iv v1 with
    | none => rw [h1] at hf; cases hf
    | some a1 =>
      rw [h1] at hf
      cases hf
      obtain ⟨z1, t1, rfl, g1, hs1⟩ := hsk.cons
      obtain ⟨i1, rfl, j1⟩ := zi_iv_ok _ h1 g1
      exact hr i1 p l e R s m args below meth c H locs cells slots Q ls t1 X.1 X.2.1 (k _ _ _ _ _ _ ⟨ws, tys, lv, hl, hlv, ⟨⟨_, rfl, hf0 j1⟩, hs1⟩, hw⟩)
/-- a branch of one number -/
theorem zi_if_ok {t : zi_I → zi_I → Option Bool} {tg : Nat} {g : Int32 → Prop} (hdec : ∀ x, Decidable (g x)) (ht : ∀ {a : zi_I} {x : Int32} {q : Bool}, zi_in a (zi_o x) → t a (2147483648, 2147483648) = some q → (q = true ↔ g x))
    (hr : ∀ (p : Program) (l : Launch) (e : Env) (R : Room) (s : State) (m : MethodId) (args : Array Value) (below : List Frame) (meth : Method) (c : Code) (H : Heap) (locs : List Loc) (cells slots : Nat) (Q : State → Prop) (ls : Array Slot) (rest : List Value) (x : Int32), p.tables.exec = Jvm.exec → c.code = cc →
      (g x → W p l e R s m args below meth c H locs cells slots Q (F0 m tg ls rest)) → (¬ g x → W p l e R s m args below meth c H locs cells slots Q (F0 m nx ls rest)) → W p l e R s m args below meth c H locs cells slots Q (F0 m pc ls (.int x :: rest))) : zi_ok mt y cc nL pc (zi_if t tg nx) := by
  intro p l e R s m args below meth c D A b d a0 E X hE st pc' st' hf Q H locs cells slots ls sk hR k
  obtain ⟨lc, stk, r⟩ := st
  obtain ⟨ws, tys, lv, hl, hlv, hsk, hw⟩ := hR
  unfold zi_if at hf
  match stk, hf, hsk with
  | [], hf, _ => cases hf
  | v1 :: t', hf, hsk =>
    dsimp only at hf
    cases h1 : zi_iv v1 with
    | none => rw [h1] at hf; cases hf
    | some a1 =>
      rw [h1] at hf
      dsimp only at hf
      cases h2 : t a1 (2147483648, 2147483648) with
      | none => rw [h2] at hf; cases hf
      | some q =>
        rw [h2] at hf
        obtain ⟨z1, t1, rfl, g1, hs1⟩ := hsk.cons
        obtain ⟨i1, rfl, j1⟩ := zi_iv_ok _ h1 g1
        have hq := ht j1 h2
        cases q with
        | true => cases hf; exact hr p l e R s m args below meth c H locs cells slots Q ls t1 i1 X.1 X.2.1 (fun _ => k _ _ _ _ _ _ ⟨ws, tys, lv, hl, hlv, hs1, hw⟩) (fun n => absurd (hq.mp rfl) n)
        | false => cases hf; exact hr p l e R s m args below meth c H locs cells slots Q ls t1 i1 X.1 X.2.1 (fun n => by cases hq.mpr n) (fun _ => k _ _ _ _ _ _ ⟨ws, tys, lv, hl, hlv, hs1, hw⟩)
/-- a branch of two numbers -/
theorem zi_ic_ok {t : zi_I → zi_I → Option Bool} {tg : Nat} {g : Int32 → Int32 → Prop} (ht : ∀ {a b : zi_I} {x y : Int32} {q : Bool}, zi_in a (zi_o x) → zi_in b (zi_o y) → t a b = some q → (q = true ↔ g x y))
    (hr : ∀ (p : Program) (l : Launch) (e : Env) (R : Room) (s : State) (m : MethodId) (args : Array Value) (below : List Frame) (meth : Method) (c : Code) (H : Heap) (locs : List Loc) (cells slots : Nat) (Q : State → Prop) (ls : Array Slot) (rest : List Value) (x y : Int32), p.tables.exec = Jvm.exec → c.code = cc →
      (g x y → W p l e R s m args below meth c H locs cells slots Q (F0 m tg ls rest)) → (¬ g x y → W p l e R s m args below meth c H locs cells slots Q (F0 m nx ls rest)) → W p l e R s m args below meth c H locs cells slots Q (F0 m pc ls (.int y :: .int x :: rest))) : zi_ok mt y cc nL pc (zi_ic t tg nx) := by
  intro p l e R s m args below meth c D A b d a0 E X hE st pc' st' hf Q H locs cells slots ls sk hR k
  obtain ⟨lc, stk, r⟩ := st
  obtain ⟨ws, tys, lv, hl, hlv, hsk, hw⟩ := hR
  unfold zi_ic at hf
  match stk, hf, hsk with
  | [], hf, _ => cases hf
  | [_], hf, _ => cases hf
  | v2 :: v1 :: t', hf, hsk =>
    dsimp only at hf
    cases h1 : zi_iv v1 with
    | none => rw [h1] at hf; cases hf
    | some a1 =>
      rw [h1] at hf
      dsimp only at hf
      cases h2 : zi_iv v2 with
      | none => rw [h2] at hf; cases hf
      | some a2 =>
        rw [h2] at hf
        dsimp only at hf
        cases h3 : t a1 a2 with
        | none => rw [h3] at hf; cases hf
        | some q =>
          rw [h3] at hf
          obtain ⟨z2, t2, rfl, g2, hs1⟩ := hsk.cons
          obtain ⟨z1, t1, rfl, g1, hs2⟩ := hs1.cons
          obtain ⟨i1, rfl, j1⟩ := zi_iv_ok _ h1 g1
          obtain ⟨i2, rfl, j2⟩ := zi_iv_ok _ h2 g2
          have hq := ht j1 j2 h3
          cases q with
          | true => cases hf; exact hr p l e R s m args below meth c H locs cells slots Q ls t1 i1 i2 X.1 X.2.1 (fun _ => k _ _ _ _ _ _ ⟨ws, tys, lv, hl, hlv, hs2, hw⟩) (fun n => absurd (hq.mp rfl) n)
          | false => cases hf; exact hr p l e R s m args below meth c H locs cells slots Q ls t1 i1 i2 X.1 X.2.1 (fun n => by cases hq.mpr n) (fun _ => k _ _ _ _ _ _ ⟨ws, tys, lv, hl, hlv, hs2, hw⟩)
theorem zi_go_ok {off : Int} {tg : Nat} (hd : decode cc pc = .ok (.goto off, 3)) (ht : (pc : Int) + off = (tg : Int)) : zi_ok mt y cc nL pc (zi_go tg) := by
  intro p l e R s m args below meth c D A b d a0 E X hE st pc' st' hf Q H locs cells slots ls sk hR k
  cases hf
  exact lv_goto X.1 X.2.1 hd ht (k _ _ _ _ _ _ hR)
theorem zi_ifnull_ok {off : Int} {tg : Nat} (hd : decode cc pc = .ok (.ifnull off, 3)) (ht : (pc : Int) + off = (tg : Int)) (hn : pc + 3 = nx) : zi_ok mt y cc nL pc (zi_null tg nx) := by
  subst hn
  intro p l e R s m args below meth c D A b d a0 E X hE st pc' st' hf Q H locs cells slots ls sk hR k
  obtain ⟨lc, stk, r⟩ := st
  obtain ⟨ws, tys, lv, hl, hlv, hsk, hw⟩ := hR
  unfold zi_null at hf
  match stk, hf, hsk with
  | .inr (.inr (.inl none)) :: t, hf, hsk =>
    cases hf
    obtain ⟨z1, t1, rfl, g1, hs1⟩ := hsk.cons
    cases (show z1 = .null from g1)
    exact lv_ifnullN X.1 X.2.1 hd ht (k _ _ _ _ _ _ ⟨ws, tys, lv, hl, hlv, hs1, hw⟩)
  | .inr (.inr (.inl (some q))) :: t, hf, hsk =>
    cases hf
    obtain ⟨z1, t1, rfl, ⟨a, -, rfl⟩, hs1⟩ := hsk.cons
    exact lv_ifnull X.1 X.2.1 hd (k _ _ _ _ _ _ ⟨ws, tys, lv, hl, hlv, hs1, hw⟩)
  | [], hf, _ => cases hf
  | .inl _ :: _, hf, _ => cases hf
  | .inr (.inl _) :: _, hf, _ => cases hf
  | .inr (.inr (.inr _)) :: _, hf, _ => cases hf
theorem zi_ifnonnull_ok {off : Int} {tg : Nat} (hd : decode cc pc = .ok (.ifnonnull off, 3)) (ht : (pc : Int) + off = (tg : Int)) (hn : pc + 3 = nx) : zi_ok mt y cc nL pc (zi_null nx tg) := by
  subst hn
  intro p l e R s m args below meth c D A b d a0 E X hE st pc' st' hf Q H locs cells slots ls sk hR k
  obtain ⟨lc, stk, r⟩ := st
  obtain ⟨ws, tys, lv, hl, hlv, hsk, hw⟩ := hR
  unfold zi_null at hf
  match stk, hf, hsk with
  | .inr (.inr (.inl none)) :: t, hf, hsk =>
    cases hf
    obtain ⟨z1, t1, rfl, g1, hs1⟩ := hsk.cons
    cases (show z1 = .null from g1)
    exact lv_ifnonnullN X.1 X.2.1 hd (k _ _ _ _ _ _ ⟨ws, tys, lv, hl, hlv, hs1, hw⟩)
  | .inr (.inr (.inl (some q))) :: t, hf, hsk =>
    cases hf
    obtain ⟨z1, t1, rfl, ⟨a, -, rfl⟩, hs1⟩ := hsk.cons
    exact lv_ifnonnull X.1 X.2.1 hd ht (k _ _ _ _ _ _ ⟨ws, tys, lv, hl, hlv, hs1, hw⟩)
  | [], hf, _ => cases hf
  | .inl _ :: _, hf, _ => cases hf
  | .inr (.inl _) :: _, hf, _ => cases hf
  | .inr (.inr (.inr _)) :: _, hf, _ => cases hf
theorem zi_tsw_ok {dflt lo hi : Int} {offs : Array Int} {len lo' hi' df : Nat} {ts : List Nat} (hd : decode cc pc = .ok (.tableswitch dflt lo hi offs, len)) (h1 : lo + 2147483648 = (lo' : Int)) (h2 : hi + 2147483648 = (hi' : Int)) (h3 : (pc : Int) + dflt = (df : Int)) (h4 : offs.toList.map (fun o => (pc : Int) + o) = ts.map (fun (t : Nat) => (t : Int))) : zi_ok mt y cc nL pc (zi_tsw lo' hi' ts df) := by
  intro p l e R s m args below meth c D A b d a0 E X hE st pc' st' hf Q H locs cells slots ls sk hR k
  obtain ⟨lc, stk, r⟩ := st
  obtain ⟨ws, tys, lv, hl, hlv, hsk, hw⟩ := hR
  unfold zi_tsw at hf
  match stk, hf, hsk with
  | [], hf, _ => cases hf
  | v1 :: t', hf, hsk =>
    dsimp only at hf
    cases g1 : zi_iv v1 with
    | none => rw [g1] at hf; cases hf
    | some x =>
      rw [g1] at hf
      dsimp only at hf
      obtain ⟨z1, t1, rfl, g2, hs1⟩ := hsk.cons
      obtain ⟨i1, rfl, j1⟩ := zi_iv_ok _ g1 g2
      have e1 := zi_oe i1
      cases g3 : (Nat.blt x.2 lo' || Nat.blt hi' x.1) with
      | true =>
        rw [g3] at hf
        cases hf
        unfold zi_in at j1
        refine lv_tableOut X.1 X.2.1 hd ?_ h3 (k _ _ _ _ _ _ ⟨ws, tys, lv, hl, hlv, hs1, hw⟩)
        rcases Bool.or_eq_true_iff.mp g3 with q | q
        · have := Nat.le_of_ble_eq_true q; left; omega
        · have := Nat.le_of_ble_eq_true q; right; omega
      | false =>
        rw [g3] at hf
        dsimp only [cond_false] at hf
        cases g4 : (zi_one x && (Nat.ble lo' x.1 && Nat.ble x.1 hi')) with
        | false => rw [g4] at hf; cases hf
        | true =>
          rw [g4] at hf
          dsimp only [cond_true] at hf
          obtain ⟨q1, q2⟩ := Bool.and_eq_true_iff.mp g4
          obtain ⟨q2, q3⟩ := Bool.and_eq_true_iff.mp q2
          have q2 := Nat.le_of_ble_eq_true q2
          have q3 := Nat.le_of_ble_eq_true q3
          have q4 := zi_one_eq q1 j1
          rw [zi_nth_eq] at hf
          cases g5 : ts[x.1 - lo']? with
          | none => rw [g5] at hf; cases hf
          | some t =>
            rw [g5] at hf
            have e2 : (i1.toInt - lo).toNat = x.1 - lo' := by omega
            have h5 : (offs.toList.map (fun o => (pc : Int) + o))[x.1 - lo']? = some (t : Int) := by rw [h4, List.getElem?_map, g5]; rfl
            rw [List.getElem?_map] at h5
            cases h6 : offs.toList[x.1 - lo']? with
            | none => rw [h6] at h5; cases h5
            | some o =>
              rw [h6] at h5
              have h7 : (pc : Int) + o = (t : Int) := Option.some.inj h5
              cases hf
              exact lv_tableIn (off := o) X.1 X.2.1 hd (by omega) (by omega) (by rw [e2, ← Array.getElem?_toList]; exact h6) h7 (k _ _ _ _ _ _ ⟨ws, tys, lv, hl, hlv, hs1, hw⟩)
theorem zi_dup_ok (hd : decode cc pc = .ok (.dup, 1)) (hn : pc + 1 = nx) : zi_ok mt y cc nL pc (zi_dup nx) := by
  subst hn
  intro p l e R s m args below meth c D A b d a0 E X hE st pc' st' hf Q H locs cells slots ls sk hR k
  obtain ⟨lc, stk, r⟩ := st
  obtain ⟨ws, tys, lv, hl, hlv, hsk, hw⟩ := hR
  unfold zi_dup at hf
  match stk, hf, hsk with
  | [], hf, _ => cases hf
  | v1 :: t', hf, hsk =>
    dsimp only at hf
    cases g1 : Nat.beq (zi_cat v1) 1 with
    | false => rw [g1] at hf; cases hf
    | true =>
      rw [g1] at hf
      cases hf
      obtain ⟨z1, t1, rfl, g2, hs1⟩ := hsk.cons
      exact lv_dup X.1 X.2.1 hd ((zi_g.cat _ _ g2).trans (Nat.eq_of_beq_eq_true g1)) (k _ _ _ _ _ _ ⟨ws, tys, lv, hl, hlv, ⟨g2, g2, hs1⟩, hw⟩)
theorem zi_dup2_ok (hd : decode cc pc = .ok (.dup2, 1)) (hn : pc + 1 = nx) : zi_ok mt y cc nL pc (zi_dup2 nx) := by
  subst hn
  intro p l e R s m args below meth c D A b d a0 E X hE st pc' st' hf Q H locs cells slots ls sk hR k
  obtain ⟨lc, stk, r⟩ := st
  obtain ⟨ws, tys, lv, hl, hlv, hsk, hw⟩ := hR
  unfold zi_dup2 at hf
  match stk, hf, hsk with
  | [], hf, _ => cases hf
  | [_], hf, _ => cases hf
  | v1 :: v2 :: t', hf, hsk =>
    dsimp only at hf
    cases g1 : (Nat.beq (zi_cat v1) 1 && Nat.beq (zi_cat v2) 1) with
    | false => rw [g1] at hf; cases hf
    | true =>
      rw [g1] at hf
      cases hf
      obtain ⟨q1, q2⟩ := Bool.and_eq_true_iff.mp g1
      obtain ⟨z1, t1, rfl, g2, hs1⟩ := hsk.cons
      obtain ⟨z2, t2, rfl, g3, hs2⟩ := hs1.cons
      exact lv_dup2_11 X.1 X.2.1 hd ((zi_g.cat _ _ g2).trans (Nat.eq_of_beq_eq_true q1)) ((zi_g.cat _ _ g3).trans (Nat.eq_of_beq_eq_true q2)) (k _ _ _ _ _ _ ⟨ws, tys, lv, hl, hlv, ⟨g2, g3, g2, g3, hs2⟩, hw⟩)
theorem zi_popp_ok (hd : decode cc pc = .ok (.pop, 1)) (hn : pc + 1 = nx) : zi_ok mt y cc nL pc (zi_popp nx) := by
  subst hn
  intro p l e R s m args below meth c D A b d a0 E X hE st pc' st' hf Q H locs cells slots ls sk hR k
  obtain ⟨lc, stk, r⟩ := st
  obtain ⟨ws, tys, lv, hl, hlv, hsk, hw⟩ := hR
  unfold zi_popp at hf
  match stk, hf, hsk with
  | [], hf, _ => cases hf
  | v1 :: t', hf, hsk =>
    dsimp only at hf
    cases g1 : Nat.beq (zi_cat v1) 1 with
    | false => rw [g1] at hf; cases hf
    | true =>
      rw [g1] at hf
      cases hf
      obtain ⟨z1, t1, rfl, g2, hs1⟩ := hsk.cons
      exact lv_pop X.1 X.2.1 hd ((zi_g.cat _ _ g2).trans (Nat.eq_of_beq_eq_true g1)) (k _ _ _ _ _ _ ⟨ws, tys, lv, hl, hlv, hs1, hw⟩)
end Rows
