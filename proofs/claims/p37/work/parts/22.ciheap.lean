/-! cells, in the pure walk -/
section CHeap
variable {y : MethodName} {cc : ByteArray} {nL pc nx : Nat}
theorem ci_clamp {i : Int32} : i.toNatClampNeg = i.toInt.toNat := rfl
theorem ci_vin {i : Int32} {n : Nat} (h1 : 0 ≤ i.toInt) (h2 : i.toInt < (n : Int)) : vp_in i n := by
  unfold vp_in
  intro q
  rcases q with q | q
  · have := Int32.lt_iff_toInt_lt.mp q
    have e0 : (0 : Int32).toInt = 0 := rfl
    omega
  · rw [ci_clamp] at q
    omega
theorem cr_getf {ci k idx N : Nat} {C : String} {T : u_T} {ty0 : Nat → FieldType} (hc : zi_cls ci C T N ty0) (hk : k < N) (hl : Cond.fieldLink y.cls idx (T k).1 (T k).2.1 (T k).2.2.1 ∈ zi_G) (hd : decode cc pc = .ok (.getfield idx, 3)) (hn : pc + 3 = nx) : ci_ok y cc nL pc (ci_getf ci k nx) := by
  subst hn
  intro p l e R s m args below meth c D A b d ads tys X st pc' st' hf Q H locs cells slots ls sk hR kk
  obtain ⟨lc, stk, w⟩ := st
  obtain ⟨ws, hlv, rfl, hw⟩ := hR
  unfold ci_getf at hf
  split at hf
  · rename_i lc2 q t w2 heq
    cases heq
    split at hf
    · rename_i c' vs hwq
      cases h2 : Nat.beq c' ci with
      | false => rw [h2] at hf; cases hf
      | true =>
        rw [h2] at hf
        dsimp only [cond_true] at hf
        have h2 := Nat.eq_of_beq_eq_true h2
        cases h3 : vs[k]? with
        | none => rw [h3] at hf; cases hf
        | some v =>
          rw [h3] at hf
          cases hf
          obtain ⟨a, e0, he, hg, hta⟩ := hw.1.ref hwq
          have e1 : e0 = .inr (c', vs.map (ci_t b ads)) := hg
          rw [e1, h2] at he
          dsimp only
          rw [List.map_cons, hta]
          exact va_get X.1 X.2.1 X.2.2.2.2.1 hc.2.1 X.2.2.2.1 hw.2.2.2.1 hw.2.1 q he hc.1 k hk (X.2.2.2.2.1 _ hl) (fun _ h => h) (v := ci_t b ads v) (by rw [List.getElem?_map, h3]; rfl) hd (kk _ _ _ _ ⟨ws, hlv, rfl, hw⟩)
    · cases hf
  · cases hf
theorem ci_fit_ok {ty : FieldType} {v : Value} (b : Nat) (ads : List Nat) (h : ci_fit ty v = true) : narrow ty (ci_t b ads v) = ci_t b ads v ∧ fits ty (ci_t b ads v) = true := by
  unfold ci_fit at h
  split at h
  · exact ⟨rfl, rfl⟩
  · rename_i x
    have h01 : x = 0 ∨ x = 1 := by
      rcases Bool.or_eq_true_iff.mp h with h | h
      · exact Or.inl (eq_of_beq h)
      · exact Or.inr (eq_of_beq h)
    rcases h01 with rfl | rfl
    · show narrow .boolean (.int 0) = .int 0 ∧ fits .boolean (.int 0) = true
      exact ⟨by decide, by decide⟩
    · show narrow .boolean (.int 1) = .int 1 ∧ fits .boolean (.int 1) = true
      exact ⟨by decide, by decide⟩
  · rename_i q; cases q <;> exact ⟨rfl, rfl⟩
  · exact ⟨rfl, rfl⟩
  · rename_i q; cases q <;> exact ⟨rfl, rfl⟩
  · exact ⟨rfl, rfl⟩
  · cases h
theorem cr_putf {ci k idx N : Nat} {C : String} {T : u_T} {ty0 : Nat → FieldType} {ty : FieldType} (hc : zi_cls ci C T N ty0) (hk : k < N) (hty : parseFieldDescriptor (T k).2.2.1 = some ty) (hfin : (T k).2.2.2 = false) (hl : Cond.fieldLink y.cls idx (T k).1 (T k).2.1 (T k).2.2.1 ∈ zi_G) (hd : decode cc pc = .ok (.putfield idx, 3)) (hn : pc + 3 = nx) : ci_ok y cc nL pc (ci_putf ci k ty nx) := by
  subst hn
  intro p l e R s m args below meth c D A b d ads tys X st pc' st' hf Q H locs cells slots ls sk hR kk
  obtain ⟨lc, stk, w⟩ := st
  obtain ⟨ws, hlv, rfl, hw⟩ := hR
  unfold ci_putf at hf
  split at hf
  · rename_i lc2 v q t w2 heq
    cases heq
    split at hf
    · rename_i c' vs hwq
      cases h2 : (Nat.beq c' ci && (ci_fit ty v && Nat.blt k vs.length)) with
      | false => rw [h2] at hf; cases hf
      | true =>
        rw [h2] at hf
        cases hf
        obtain ⟨q1, q2⟩ := Bool.and_eq_true_iff.mp h2
        obtain ⟨q2, q3⟩ := Bool.and_eq_true_iff.mp q2
        have q1 := Nat.eq_of_beq_eq_true q1
        have q3 : k < vs.length := Nat.le_of_ble_eq_true q3
        obtain ⟨a, e0, he, hg, hta⟩ := hw.1.ref hwq
        have e1 : e0 = .inr (c', vs.map (ci_t b ads)) := hg
        rw [e1, q1] at he
        obtain ⟨f1, f2⟩ := ci_fit_ok b ads q2
        obtain ⟨w1, w2', w3, w4, w5⟩ := hw
        dsimp only
        rw [List.map_cons, List.map_cons, hta]
        refine va_put X.1 X.2.1 X.2.2.2.2.1 hc.2.1 ty0 hc.2.2.1 hc.2.2.2 X.2.2.2.1 w4 w2' w3 w5 q he hc.1 k hk (X.2.2.2.2.1 _ hl) (fun _ h => h) hfin hty f1 f2 (by rw [List.length_map]; exact q3) hd ?_
        intro H1 locs1 hP hD hS
        exact kk _ _ _ _ ⟨_, hlv, rfl, w1.set he (by show _ = _; rw [q1, List.map_set]), hP, hD, w4, hS⟩
    · cases hf
  · cases hf
theorem cr_ald {ty : FieldType} {ins : Instr} (hn : pc + 1 = nx) (hd : decode cc pc = .ok (ins, 1)) (hi : (ty = .int ∧ ins = .iaload) ∨ (ty = .byte ∧ ins = .baload) ∨ (ty = .boolean ∧ ins = .baload)) : ci_ok y cc nL pc (ci_ald ty nx) := by
  subst hn
  intro p l e R s m args below meth c D A b d ads tys X st pc' st' hf Q H locs cells slots ls sk hR kk
  obtain ⟨lc, stk, w⟩ := st
  obtain ⟨ws, hlv, rfl, hw⟩ := hR
  unfold ci_ald at hf
  split at hf
  · rename_i lc2 i q t w2 heq
    cases heq
    split at hf
    · rename_i t' n f hwq
      split at hf
      · rename_i hcond
        obtain ⟨h1, h2, h3⟩ := hcond
        cases hf
        obtain ⟨a, e0, he, hg, hta⟩ := hw.1.ref hwq
        obtain ⟨cA, t0, e1, e2⟩ := hg
        dsimp only at e1
        subst e1
        rw [h1] at e2
        dsimp only
        rw [List.map_cons, List.map_cons, hta]
        have hv := ci_vin h2 h3
        have fin : W p l e R s m args below meth c H locs cells slots Q (F0 m (pc + 1) ls (.int (f i.toNatClampNeg) :: t.map (ci_t b ads))) := kk _ _ _ _ ⟨ws, hlv, rfl, hw⟩
        rcases hi with ⟨rfl, rfl⟩ | ⟨rfl, rfl⟩ | ⟨rfl, rfl⟩
        · exact va_iald X.1 X.2.1 hw.2.2.2.1 hw.2.1 q t0 he e2 hv hd fin
        · exact va_bald X.1 X.2.1 hw.2.2.2.1 hw.2.1 q t0 he e2 hv hd fin
        · exact va_zald X.1 X.2.1 hw.2.2.2.1 hw.2.1 q t0 he e2 hv hd fin
      · cases hf
    · cases hf
  · cases hf
theorem ci_nar {ty : FieldType} {x : Int32} (h : ci_afit ty x = true) : (ty = .byte → vp_nar .byte x = x) ∧ (ty = .boolean → vp_nar .boolean x = x) := by
  constructor
  · intro q
    subst q
    have h := of_decide_eq_true (show decide (-128 ≤ x.toInt ∧ x.toInt ≤ 127) = true from h)
    show x.toInt8.toInt32 = x
    apply Int32.toInt_inj.mp
    rw [Int8.toInt_toInt32, Int32.toInt_toInt8]
    exact Int.bmod_eq_of_le (by omega) (by omega)
  · intro q
    subst q
    have h01 : x = 0 ∨ x = 1 := by
      rcases Bool.or_eq_true_iff.mp (show (x == 0 || x == 1) = true from h) with h | h
      · exact Or.inl (eq_of_beq h)
      · exact Or.inr (eq_of_beq h)
    rcases h01 with rfl | rfl
    · decide
    · decide
theorem cr_ast {ty : FieldType} {ins : Instr} (hn : pc + 1 = nx) (hd : decode cc pc = .ok (ins, 1)) (hi : (ty = .int ∧ ins = .iastore) ∨ (ty = .byte ∧ ins = .bastore) ∨ (ty = .boolean ∧ ins = .bastore)) : ci_ok y cc nL pc (ci_ast ty nx) := by
  subst hn
  intro p l e R s m args below meth c D A b d ads tys X st pc' st' hf Q H locs cells slots ls sk hR kk
  obtain ⟨lc, stk, w⟩ := st
  obtain ⟨ws, hlv, rfl, hw⟩ := hR
  unfold ci_ast at hf
  split at hf
  · rename_i lc2 x i q t w2 heq
    cases heq
    split at hf
    · rename_i t' n f hwq
      split at hf
      · rename_i hcond
        obtain ⟨h1, h2, h3, h4⟩ := hcond
        cases hf
        obtain ⟨a, e0, he, hg, hta⟩ := hw.1.ref hwq
        obtain ⟨cA, t0, e1, e2⟩ := hg
        dsimp only at e1
        subst e1
        have e2' := e2
        rw [h1] at e2'
        dsimp only
        rw [List.map_cons, List.map_cons, List.map_cons, hta]
        have hv := ci_vin h2 h3
        obtain ⟨w1, w2', w3, w4, w5⟩ := hw
        have fin : ∀ (H1 : Heap) (locs1 : List Loc), va_P D vwCl (ws.set q (a, .inl (cA, n, .inl (upd f i.toNatClampNeg x)))) H1 → va_D A (ws.set q (a, .inl (cA, n, .inl (upd f i.toNatClampNeg x)))) → va_S A s.heap H1 locs1 → W p l e R s m args below meth c H1 locs1 cells slots Q (F0 m (pc + 1) ls (t.map (ci_t b ads))) := by
          intro H1 locs1 hP hD hS
          exact kk _ _ _ _ ⟨_, hlv, rfl, w1.set he ⟨cA, t0, rfl, e2⟩, hP, hD, w4, hS⟩
        have hna := ci_nar h4
        rcases hi with ⟨rfl, rfl⟩ | ⟨rfl, rfl⟩ | ⟨rfl, rfl⟩
        · exact va_iast X.1 X.2.1 w4 w2' w3 w5 q t0 he e2' hv hd fin
        · exact va_bast X.1 X.2.1 w4 w2' w3 w5 q t0 he e2' hv hd (by rw [hna.1 rfl]; exact fin)
        · exact va_zast X.1 X.2.1 w4 w2' w3 w5 q t0 he e2' hv hd (by rw [hna.2 rfl]; exact fin)
      · cases hf
    · cases hf
  · cases hf
theorem cr_alen (hn : pc + 1 = nx) (hd : decode cc pc = .ok (.arraylength, 1)) : ci_ok y cc nL pc (ci_alen nx) := by
  subst hn
  intro p l e R s m args below meth c D A b d ads tys X st pc' st' hf Q H locs cells slots ls sk hR kk
  obtain ⟨lc, stk, w⟩ := st
  obtain ⟨ws, hlv, rfl, hw⟩ := hR
  unfold ci_alen at hf
  split at hf
  · rename_i lc2 q t w2 heq
    cases heq
    split at hf
    · rename_i t' n f hwq
      cases hf
      obtain ⟨a, e0, he, hg, hta⟩ := hw.1.ref hwq
      obtain ⟨cA, t0, e1, e2⟩ := hg
      dsimp only at e1
      subst e1
      dsimp only
      rw [List.map_cons, hta]
      exact va_alen X.1 X.2.1 hw.2.2.2.1 hw.2.1 q t0 he e2 rfl hd (kk _ _ _ _ ⟨ws, hlv, rfl, hw⟩)
    · cases hf
  · cases hf
theorem ci_sum (b : Nat) (ads : List Nat) (sk : List Value) : ((sk.map (ci_t b ads)).map fun v => v.category).sum = (sk.map fun v => v.category).sum := by
  rw [List.map_map]
  congr 1
  apply List.map_congr_left
  intro v _
  exact ci_t_cat b ads v
theorem ci_nneg {i : Int32} (h : 0 ≤ i.toInt) : ¬ i < 0 := by
  intro q
  have := Int32.lt_iff_toInt_lt.mp q
  have e0 : (0 : Int32).toInt = 0 := rfl
  omega
theorem cr_copy {idx : Nat} (hl : Cond.methodLink y.cls idx arraycopyName ∈ zi_G) (h1 : Cond.native arraycopyName ∈ zi_G) (h2 : Cond.static arraycopyName ∈ zi_G) (h3 : Cond.initialized "java/lang/System" ∈ zi_G) (hd : decode cc pc = .ok (.invokestatic idx, 3)) (hn : pc + 3 = nx) : ci_ok y cc nL pc (ci_copy nx) := by
  subst hn
  intro p l e R s m args below meth c D A b d ads tys X st pc' st' hf Q H locs cells slots ls sk hR kk
  obtain ⟨lc, stk, w⟩ := st
  obtain ⟨ws, hlv, rfl, hw⟩ := hR
  unfold ci_copy at hf
  split at hf
  · rename_i lc2 n dp q1 sp q0 t w2 heq
    cases heq
    split at hf
    · rename_i t0 n0 f hw0
      split at hf
      · rename_i t1 n1 g hw1
        split at hf
        · rename_i hcond
          obtain ⟨c1, c2, c3, c4, c5, c6, c7, c8⟩ := hcond
          cases hf
          obtain ⟨a0, e0, he0, hg0, hta0⟩ := hw.1.ref hw0
          obtain ⟨a1, e1, he1, hg1, hta1⟩ := hw.1.ref hw1
          obtain ⟨cA0, ti0, u1, u2⟩ := hg0
          obtain ⟨cA1, ti1, u3, u4⟩ := hg1
          dsimp only at u1 u3
          subst u1
          subst u3
          have u2' := u2
          have u4' := u4
          rw [c1] at u2'
          rw [c2] at u4'
          obtain ⟨w1, w2', w3, w4, w5⟩ := hw
          have hx := X.2.2.2.2.2.2.2.1
          have hnf : nativeFrameWords "java/lang/System" "arraycopy" 5 = 7 := by decide
          dsimp only
          rw [List.map_cons, List.map_cons, List.map_cons, List.map_cons, List.map_cons, hta0, hta1]
          refine va_copyi (ty := .int) X.1 X.2.1 (X.2.2.1.trans hlv.1.symm) X.2.2.2.1 (X.2.2.2.2.1 _ hl) (X.2.2.2.2.1 _ h1) (X.2.2.2.2.1 _ h2) (X.2.2.2.2.1 _ h3) w4 w2' w3 w5 q0 q1 ti0 ti1 he0 he1 u2' u4' rfl (ci_nneg c5) (ci_nneg c4) (ci_nneg c3) (by rw [ci_clamp, ci_clamp]; omega) (by rw [ci_clamp, ci_clamp]; omega) (fun _ _ => rfl) (by omega) (by rw [ci_sum, hnf]; omega) hd ?_
          intro H1 locs1 hP hD hS
          exact kk _ _ _ _ ⟨_, hlv, rfl, w1.set he1 ⟨cA1, ti1, rfl, u4⟩, hP, hD, w4, hS⟩
        · cases hf
      · cases hf
    · cases hf
  · cases hf
/-- two steps, one behind the other -/
theorem cq_ok {pc2 : Nat} {f g : ci_F} (hf : ci_ok y cc nL pc f) (hg : ci_ok y cc nL pc2 g) : ci_ok y cc nL pc (ci_seq f pc2 g) := by
  intro p l e R s m args below meth c D A b d ads tys X st pc' st' h Q H locs cells slots ls sk hR k
  unfold ci_seq at h
  cases h1 : f st with
  | none => rw [h1] at h; cases h
  | some r =>
    rw [h1] at h
    dsimp only at h
    obtain ⟨pc1, st1⟩ := r
    cases h2 : Nat.beq pc1 pc2 with
    | false => rw [h2] at h; cases h
    | true =>
      rw [h2] at h
      have h2 := Nat.eq_of_beq_eq_true h2
      refine hf p l e R s m args below meth c D A b d ads tys X st pc1 st1 h1 Q H locs cells slots ls sk hR (fun H' locs' ls' sk' hR' => ?_)
      rw [h2]
      exact hg p l e R s m args below meth c D A b d ads tys X st1 pc' st' h Q H' locs' cells slots ls' sk' hR' k
end CHeap
