/-! steps that read and write cells -/
section Heap
variable {mt : Nat → Option zi_M} {y : MethodName} {cc : ByteArray} {nL pc nx : Nat}
def zi_cls (ci : Nat) (C : String) (T : u_T) (N : Nat) (ty0 : Nat → FieldType) : Prop :=
  vwCl[ci]? = some (C, T, N) ∧ (∀ w ∈ u_ws C T N, w ∈ zi_G) ∧ (∀ k, k < N → parseFieldDescriptor (T k).2.2.1 = some (ty0 k)) ∧ ∀ a, a < N → ∀ b, b < N → a ≠ b → (T a).2.1 ≠ (T b).2.1
theorem zi_ads {ws : va_W} {q a : Nat} (h : (ws.map (·.1))[q]? = some a) : ∃ e, ws[q]? = some (a, e) := by
  rw [List.getElem?_map] at h
  cases h1 : ws[q]? with
  | none => rw [h1] at h; cases h
  | some x => rw [h1] at h; cases h; exact ⟨x.2, rfl⟩
theorem zi_ads_set {ws : va_W} {q a : Nat} {e e' : va_E} (h : ws[q]? = some (a, e)) : (ws.set q (a, e')).map (·.1) = ws.map (·.1) := by
  apply List.ext_getElem?
  intro i
  rw [List.getElem?_map, List.getElem?_map, List.getElem?_set]
  split
  · rename_i hi
    subst hi
    have hlt := (List.getElem?_eq_some_iff.mp h).1
    rw [if_pos hlt, h]
    rfl
  · rfl
theorem zi_ads_app {ws : va_W} {x : Nat × va_E} {k a : Nat} (h : (ws.map (·.1))[k]? = some a) : ((ws ++ [x]).map (·.1))[k]? = some a := by
  rw [List.map_append, List.getElem?_append_left (List.getElem?_eq_some_iff.mp h).1]
  exact h
theorem zi_a2.at {α β : Type} {r : α → β → Prop} {as : List α} {bs : List β} {k : Nat} {a : α} {b : β} (h : zi_a2 r as bs) (h1 : as[k]? = some a) (h2 : bs[k]? = some b) : r a b := by
  obtain ⟨b', h3, h4⟩ := h.get h1
  rw [h2] at h3
  cases h3
  exact h4
theorem zi_getf_ok {ci k idx N : Nat} {C : String} {T : u_T} {ty0 : Nat → FieldType} (hc : zi_cls ci C T N ty0) (hk : k < N) (hl : Cond.fieldLink y.cls idx (T k).1 (T k).2.1 (T k).2.2.1 ∈ zi_G) (hd : decode cc pc = .ok (.getfield idx, 3)) (hn : pc + 3 = nx) : zi_ok mt y cc nL pc (zi_getf ci k nx) := by
  subst hn
  intro p l e R s m args below meth c D A b d a0 E X hE st pc' st' hf Q H locs cells slots ls sk hR kk
  obtain ⟨lc, stk, w, r⟩ := st
  obtain ⟨ws, tys, lv, hlv0, hlv, hsk, hw⟩ := hR
  unfold zi_getf at hf
  match stk, hf, hsk with
  | .inr (.inr (.inl (some q))) :: t, hf, hsk =>
    dsimp only at hf
    cases h1 : zi_wg w q with
    | none => rw [h1] at hf; cases hf
    | some cell =>
      rw [h1] at hf
      match cell, h1, hf with
      | .inl _, _, hf => cases hf
      | .inr (c', vs), h1, hf =>
        dsimp only at hf
        cases h2 : Nat.beq c' ci with
        | false => rw [h2] at hf; cases hf
        | true =>
          rw [h2] at hf
          dsimp only [cond_true] at hf
          have h2 := Nat.eq_of_beq_eq_true h2
          rw [zi_nth_eq] at hf
          cases h3 : vs[k]? with
          | none => rw [h3] at hf; cases hf
          | some v =>
            rw [h3] at hf
            cases hf
            obtain ⟨z1, t1, rfl, ⟨a, ha, rfl⟩, hs1⟩ := hsk.cons
            obtain ⟨en, he⟩ := zi_ads ha
            obtain ⟨fs, e1, e2⟩ := zi_wr.at hw.1 h1 he
            dsimp only at e1
            rw [h2] at e1
            subst e1
            obtain ⟨x, hx, gx⟩ := e2.get h3
            exact va_get X.1 X.2.1 X.2.2.2.2.1 hc.2.1 X.2.2.2.1 hw.2.2.2.1 hw.2.1 q he hc.1 k hk (X.2.2.2.2.1 _ hl) (fun _ h => h) hx hd (kk _ _ _ _ _ _ ⟨ws, tys, lv, hlv0, hlv, ⟨gx, hs1⟩, hw⟩)
  | [], hf, _ => cases hf
  | .inl _ :: _, hf, _ => cases hf
  | .inr (.inl _) :: _, hf, _ => cases hf
  | .inr (.inr (.inl none)) :: _, hf, _ => cases hf
  | .inr (.inr (.inr _)) :: _, hf, _ => cases hf
theorem zi_fit_ok {ty : FieldType} {v : zi_V} {b : Nat} {ads : List Nat} {x : Value} (h : zi_fit ty v = true) (hg : zi_g b ads v x) : narrow ty x = x ∧ fits ty x = true := by
  unfold zi_fit at h
  split at h
  · obtain ⟨i, rfl, _⟩ := hg; exact ⟨rfl, rfl⟩
  · rename_i r
    obtain ⟨i, rfl, hi⟩ := hg
    obtain ⟨q1, q2⟩ := Bool.and_eq_true_iff.mp h
    have q1 := Nat.le_of_ble_eq_true q1
    have q2 := Nat.le_of_ble_eq_true q2
    have e := zi_oe i
    unfold zi_in at hi
    have h01 : i = 0 ∨ i = 1 := by
      rcases (show i.toInt = 0 ∨ i.toInt = 1 by omega) with h | h
      · exact Or.inl (Int32.toInt_inj.mp h)
      · exact Or.inr (Int32.toInt_inj.mp h)
    rcases h01 with rfl | rfl
    · exact ⟨by decide, by decide⟩
    · exact ⟨by decide, by decide⟩
  · rename_i o
    cases o with
    | none => cases (show x = .null from hg); exact ⟨rfl, rfl⟩
    | some q => obtain ⟨a, _, rfl⟩ := hg; exact ⟨rfl, rfl⟩
  · rename_i o
    cases o with
    | none => cases (show x = .null from hg); exact ⟨rfl, rfl⟩
    | some q => obtain ⟨a, _, rfl⟩ := hg; exact ⟨rfl, rfl⟩
  · cases h
theorem zi_putf_ok {ci k idx N : Nat} {C : String} {T : u_T} {ty0 : Nat → FieldType} {ty : FieldType} (hc : zi_cls ci C T N ty0) (hk : k < N) (hty : parseFieldDescriptor (T k).2.2.1 = some ty) (hfin : (T k).2.2.2 = false ∨ ((T k).2.2.2 = true ∧ y.name = "<init>" ∧ (T k).1 = y.cls)) (hl : Cond.fieldLink y.cls idx (T k).1 (T k).2.1 (T k).2.2.1 ∈ zi_G) (hd : decode cc pc = .ok (.putfield idx, 3)) (hn : pc + 3 = nx) : zi_ok mt y cc nL pc (zi_putf ci k ty nx) := by
  subst hn
  intro p l e R s m args below meth c D A b d a0 E X hE st pc' st' hf Q H locs cells slots ls sk hR kk
  obtain ⟨lc, stk, w, r⟩ := st
  obtain ⟨ws, tys, lv, hlv0, hlv, hsk, hw⟩ := hR
  unfold zi_putf at hf
  match stk, hf, hsk with
  | v :: .inr (.inr (.inl (some q))) :: t, hf, hsk =>
    dsimp only at hf
    cases h1 : zi_wg w q with
    | none => rw [h1] at hf; cases hf
    | some cell =>
      rw [h1] at hf
      match cell, h1, hf with
      | .inl _, _, hf => cases hf
      | .inr (c', vs), h1, hf =>
        dsimp only at hf
        cases h2 : (Nat.beq c' ci && (zi_fit ty v && Nat.blt k vs.length)) with
        | false => rw [h2] at hf; cases hf
        | true =>
          rw [h2] at hf
          cases hf
          obtain ⟨q1, q2⟩ := Bool.and_eq_true_iff.mp h2
          obtain ⟨q2, q3⟩ := Bool.and_eq_true_iff.mp q2
          have q1 := Nat.eq_of_beq_eq_true q1
          have q3 : k < vs.length := Nat.le_of_ble_eq_true q3
          subst q1
          obtain ⟨z2, t2, rfl, g2, hs1⟩ := hsk.cons
          obtain ⟨z1, t1, rfl, ⟨a, ha, rfl⟩, hs2⟩ := hs1.cons
          obtain ⟨en, he⟩ := zi_ads ha
          obtain ⟨fs, e1, e2⟩ := zi_wr.at hw.1 h1 he
          dsimp only at e1
          subst e1
          obtain ⟨f1, f2⟩ := zi_fit_ok q2 g2
          obtain ⟨w1, w2, w3, w4, w5, w6, w7, w8⟩ := hw
          have hfl : k < fs.length := by rw [← e2.len]; exact q3
          have fin : ∀ (H1 : Heap) (locs1 : List Loc), va_P D vwCl (ws.set q (a, .inr (c', fs.set k z2))) H1 → va_D A (ws.set q (a, .inr (c', fs.set k z2))) → va_S A s.heap H1 locs1 → W p l e R s m args below meth c H1 locs1 cells slots Q (F0 m (pc + 3) ls t1) := by
            intro H1 locs1 hP hD hS
            have ea := zi_ads_set (e' := .inr (c', fs.set k z2)) he
            refine kk _ _ _ _ _ _ ⟨_, tys, lv, hlv0, by rw [ea]; exact hlv, by rw [ea]; exact hs2, ?_, hP, hD, w4, hS, w6, w7, by rw [ea]; exact w8⟩
            rw [ea]
            rw [zi_up_set]
            exact zi_wr.set w1 he ⟨_, rfl, e2.set k g2⟩
          rcases hfin with hfin | ⟨hfin, hin, hdc⟩
          · exact va_put X.1 X.2.1 X.2.2.2.2.1 hc.2.1 ty0 hc.2.2.1 hc.2.2.2 X.2.2.2.1 w4 w2 w3 w5 q he hc.1 k hk (X.2.2.2.2.1 _ hl) (fun _ h => h) hfin hty f1 f2 hfl hd fin
          · exact va_putF X.1 X.2.1 X.2.2.2.2.1 hc.2.1 ty0 hc.2.2.1 hc.2.2.2 X.2.2.2.1 w4 w2 w3 w5 q he hc.1 k hk (X.2.2.2.2.1 _ hl) (fun _ h => h) hfin (X.2.2.2.2.2.2.2.2.1 hin) hdc hty f1 f2 hfl hd fin
  | [], hf, _ => cases hf
  | [_], hf, _ => cases hf
  | _ :: .inl _ :: _, hf, _ => cases hf
  | _ :: .inr (.inl _) :: _, hf, _ => cases hf
  | _ :: .inr (.inr (.inl none)) :: _, hf, _ => cases hf
  | _ :: .inr (.inr (.inr _)) :: _, hf, _ => cases hf
theorem zi_clamp {i : Int32} {n : Nat} (h : zi_o i = n + 2147483648) : i.toNatClampNeg = n := by
  have e := zi_oe i
  show i.toInt.toNat = n
  omega
theorem zi_vin {i : Int32} {n N : Nat} (h : zi_o i = n + 2147483648) (hn : n < N) : vp_in i N := by
  have e := zi_oe i
  unfold vp_in
  rw [zi_clamp h]
  intro q
  rcases q with q | q
  · have := Int32.lt_iff_toInt_lt.mp q
    have e0 : (0 : Int32).toInt = 0 := rfl
    omega
  · omega
theorem zi_ald_ok {ty : FieldType} {ins : Instr} (hn : pc + 1 = nx) (hd : decode cc pc = .ok (ins, 1)) (hi : (ty = .int ∧ ins = .iaload) ∨ (ty = .byte ∧ ins = .baload) ∨ (ty = .boolean ∧ ins = .baload)) : zi_ok mt y cc nL pc (zi_ald ty nx) := by
  subst hn
  intro p l e R s m args below meth c D A b d a0 E X hE st pc' st' hf Q H locs cells slots ls sk hR kk
  obtain ⟨lc, stk, w, r⟩ := st
  obtain ⟨ws, tys, lv, hlv0, hlv, hsk, hw⟩ := hR
  unfold zi_ald at hf
  match stk, hf, hsk with
  | v :: .inr (.inr (.inl (some q))) :: t, hf, hsk =>
    dsimp only at hf
    cases h0 : zi_iv v with
    | none => rw [h0] at hf; cases hf
    | some x =>
      rw [h0] at hf
      dsimp only at hf
      cases h1 : zi_wg w q with
      | none => rw [h1] at hf; cases hf
      | some cell =>
        rw [h1] at hf
        match cell, h1, hf with
        | .inr _, _, hf => cases hf
        | .inl (t', l'), h1, hf =>
          dsimp only at hf
          cases h2 : (zi_one x && (Nat.ble 2147483648 x.1 && decide (t' = ty))) with
          | false => rw [h2] at hf; cases hf
          | true =>
            rw [h2] at hf
            dsimp only [cond_true] at hf
            obtain ⟨q1, q2⟩ := Bool.and_eq_true_iff.mp h2
            obtain ⟨q2, q3⟩ := Bool.and_eq_true_iff.mp q2
            have q2 := Nat.le_of_ble_eq_true q2
            have q3 := of_decide_eq_true q3
            rw [zi_nth_eq] at hf
            cases h3 : l'[x.1 - 2147483648]? with
            | none => rw [h3] at hf; cases hf
            | some v' =>
              rw [h3] at hf
              cases hf
              obtain ⟨z2, t2, rfl, g2, hs1⟩ := hsk.cons
              obtain ⟨z1, t1, rfl, ⟨a, ha, rfl⟩, hs2⟩ := hs1.cons
              obtain ⟨i, rfl, hi'⟩ := zi_iv_ok _ h0 g2
              have ei := zi_one_eq q1 hi'
              obtain ⟨en, he⟩ := zi_ads ha
              obtain ⟨cA, f, t0, e1, e2, e3⟩ := zi_wr.at hw.1 h1 he
              dsimp only at e1
              subst e1
              rw [q3] at e2
              obtain ⟨n, hnn⟩ : ∃ n : Nat, n = x.1 - 2147483648 := ⟨_, rfl⟩
              rw [← hnn] at h3
              have ein : zi_o i = n + 2147483648 := by omega
              have hlt := (List.getElem?_eq_some_iff.mp h3).1
              have hv := zi_vin ein hlt
              have hcl := zi_clamp ein
              have fin : W p l e R s m args below meth c H locs cells slots Q (F0 m (pc + 1) ls (.int (f i.toNatClampNeg) :: t1)) := kk _ _ _ _ _ _ ⟨ws, tys, lv, hlv0, hlv, ⟨⟨_, rfl, by rw [hcl]; exact e3 _ _ h3⟩, hs2⟩, hw⟩
              rcases hi with ⟨rfl, rfl⟩ | ⟨rfl, rfl⟩ | ⟨rfl, rfl⟩
              · exact va_iald X.1 X.2.1 hw.2.2.2.1 hw.2.1 q t0 he e2 hv hd fin
              · exact va_bald X.1 X.2.1 hw.2.2.2.1 hw.2.1 q t0 he e2 hv hd fin
              · exact va_zald X.1 X.2.1 hw.2.2.2.1 hw.2.1 q t0 he e2 hv hd fin
  | [], hf, _ => cases hf
  | [_], hf, _ => cases hf
  | _ :: .inl _ :: _, hf, _ => cases hf
  | _ :: .inr (.inl _) :: _, hf, _ => cases hf
  | _ :: .inr (.inr (.inl none)) :: _, hf, _ => cases hf
  | _ :: .inr (.inr (.inr _)) :: _, hf, _ => cases hf
theorem zi_nar {ty : FieldType} {r : zi_I} {x : Int32} (h : zi_afit ty r = true) (hx : zi_in r (zi_o x)) : (ty = .byte → vp_nar .byte x = x) ∧ (ty = .boolean → vp_nar .boolean x = x) := by
  have e := zi_oe x
  unfold zi_in at hx
  constructor
  · intro q
    subst q
    obtain ⟨q1, q2⟩ := Bool.and_eq_true_iff.mp (show (Nat.ble 2147483520 r.1 && Nat.ble r.2 2147483775) = true from h)
    have q1 := Nat.le_of_ble_eq_true q1
    have q2 := Nat.le_of_ble_eq_true q2
    show x.toInt8.toInt32 = x
    apply Int32.toInt_inj.mp
    rw [Int8.toInt_toInt32, Int32.toInt_toInt8]
    exact Int.bmod_eq_of_le (by omega) (by omega)
  · intro q
    subst q
    obtain ⟨q1, q2⟩ := Bool.and_eq_true_iff.mp (show (Nat.ble 2147483648 r.1 && Nat.ble r.2 2147483649) = true from h)
    have q1 := Nat.le_of_ble_eq_true q1
    have q2 := Nat.le_of_ble_eq_true q2
    have h01 : x = 0 ∨ x = 1 := by
      rcases (show x.toInt = 0 ∨ x.toInt = 1 by omega) with h | h
      · exact Or.inl (Int32.toInt_inj.mp h)
      · exact Or.inr (Int32.toInt_inj.mp h)
    rcases h01 with rfl | rfl
    · decide
    · decide
theorem zi_upd {l : List zi_I} {f : Nat → Int32} {n : Nat} {r : zi_I} {x : Int32} (h : ∀ (j : Nat) (r : zi_I), l[j]? = some r → zi_in r (zi_o (f j))) (hx : zi_in r (zi_o x)) : ∀ (j : Nat) (q : zi_I), (l.set n r)[j]? = some q → zi_in q (zi_o (upd f n x j)) := by
  intro j q hq
  unfold upd
  rw [List.getElem?_set] at hq
  split at hq
  · rename_i e
    subst e
    split at hq
    · cases hq; rw [if_pos rfl]; exact hx
    · cases hq
  · rename_i e
    rw [if_neg (fun z => e z.symm)]
    exact h j q hq
theorem zi_ast_ok {ty : FieldType} {ins : Instr} (hn : pc + 1 = nx) (hd : decode cc pc = .ok (ins, 1)) (hi : (ty = .int ∧ ins = .iastore) ∨ (ty = .byte ∧ ins = .bastore) ∨ (ty = .boolean ∧ ins = .bastore)) : zi_ok mt y cc nL pc (zi_ast ty nx) := by
  subst hn
  intro p l e R s m args below meth c D A b d a0 E X hE st pc' st' hf Q H locs cells slots ls sk hR kk
  obtain ⟨lc, stk, w, r⟩ := st
  obtain ⟨ws, tys, lv, hlv0, hlv, hsk, hw⟩ := hR
  unfold zi_ast at hf
  match stk, hf, hsk with
  | v :: vi :: .inr (.inr (.inl (some q))) :: t, hf, hsk =>
    dsimp only at hf
    cases h00 : zi_iv v with
    | none => rw [h00] at hf; cases hf
    | some yv =>
    rw [h00] at hf
    dsimp only at hf
    cases h0 : zi_iv vi with
    | none => rw [h0] at hf; cases hf
    | some x =>
      rw [h0] at hf
      dsimp only at hf
      cases h1 : zi_wg w q with
      | none => rw [h1] at hf; cases hf
      | some cell =>
        rw [h1] at hf
        match cell, h1, hf with
        | .inr _, _, hf => cases hf
        | .inl (t', l'), h1, hf =>
          dsimp only at hf
          cases h2 : (zi_one x && (Nat.ble 2147483648 x.1 && (decide (t' = ty) && (zi_afit ty yv && Nat.blt (x.1 - 2147483648) l'.length)))) with
          | false => rw [h2] at hf; cases hf
          | true =>
            rw [h2] at hf
            cases hf
            obtain ⟨q1, q2⟩ := Bool.and_eq_true_iff.mp h2
            obtain ⟨q2, q3⟩ := Bool.and_eq_true_iff.mp q2
            obtain ⟨q3, q4⟩ := Bool.and_eq_true_iff.mp q3
            obtain ⟨q4, q5⟩ := Bool.and_eq_true_iff.mp q4
            have q2 := Nat.le_of_ble_eq_true q2
            have q5 : x.1 - 2147483648 < l'.length := Nat.le_of_ble_eq_true q5
            have q3 := of_decide_eq_true q3
            obtain ⟨z3, t3, rfl, g3, hs0⟩ := hsk.cons
            obtain ⟨z2, t2, rfl, g2, hs1⟩ := hs0.cons
            obtain ⟨z1, t1, rfl, ⟨a, ha, rfl⟩, hs2⟩ := hs1.cons
            obtain ⟨i, rfl, hi'⟩ := zi_iv_ok _ h0 g2
            obtain ⟨vx, rfl, hvx⟩ := zi_iv_ok _ h00 g3
            have ei := zi_one_eq q1 hi'
            obtain ⟨en, he⟩ := zi_ads ha
            obtain ⟨cA, f, t0, e1, e2, e3⟩ := zi_wr.at hw.1 h1 he
            dsimp only at e1
            subst e1
            have e2' := e2
            rw [q3] at e2'
            obtain ⟨n, hnn⟩ : ∃ n : Nat, n = x.1 - 2147483648 := ⟨_, rfl⟩
            rw [← hnn] at q5 kk
            have ein : zi_o i = n + 2147483648 := by omega
            have hv := zi_vin ein q5
            have hcl := zi_clamp ein
            obtain ⟨w1, w2, w3, w4, w5, w6, w7, w8⟩ := hw
            have fin : ∀ (H1 : Heap) (locs1 : List Loc), va_P D vwCl (ws.set q (a, .inl (cA, l'.length, .inl (upd f i.toNatClampNeg vx)))) H1 → va_D A (ws.set q (a, .inl (cA, l'.length, .inl (upd f i.toNatClampNeg vx)))) → va_S A s.heap H1 locs1 → W p l e R s m args below meth c H1 locs1 cells slots Q (F0 m (pc + 1) ls t1) := by
              intro H1 locs1 hP hD hS
              have ea := zi_ads_set (e' := .inl (cA, l'.length, .inl (upd f i.toNatClampNeg vx))) he
              refine kk _ _ _ _ _ _ ⟨_, tys, lv, hlv0, by rw [ea]; exact hlv, by rw [ea]; exact hs2, ?_, hP, hD, w4, hS, w6, w7, by rw [ea]; exact w8⟩
              rw [ea, hcl]
              rw [zi_up_set]
              exact zi_wr.set w1 he ⟨cA, upd f n vx, t0, by rw [List.length_set], e2, zi_upd e3 hvx⟩
            have hna := zi_nar q4 hvx
            rcases hi with ⟨rfl, rfl⟩ | ⟨rfl, rfl⟩ | ⟨rfl, rfl⟩
            · exact va_iast X.1 X.2.1 w4 w2 w3 w5 q t0 he e2' hv hd fin
            · exact va_bast X.1 X.2.1 w4 w2 w3 w5 q t0 he e2' hv hd (by rw [hna.1 rfl]; exact fin)
            · exact va_zast X.1 X.2.1 w4 w2 w3 w5 q t0 he e2' hv hd (by rw [hna.2 rfl]; exact fin)
  | [], hf, _ => cases hf
  | [_], hf, _ => cases hf
  | [_, _], hf, _ => cases hf
  | _ :: _ :: .inl _ :: _, hf, _ => cases hf
  | _ :: _ :: .inr (.inl _) :: _, hf, _ => cases hf
  | _ :: _ :: .inr (.inr (.inl none)) :: _, hf, _ => cases hf
  | _ :: _ :: .inr (.inr (.inr _)) :: _, hf, _ => cases hf
theorem zi_sld_ok (hn : pc + 1 = nx) (hd : decode cc pc = .ok (.iaload, 1)) : zi_ok mt y cc nL pc (zi_sld nx) := by
  subst hn
  intro p l e R s m args below meth c D A b d a0 E X hE st pc' st' hf Q H locs cells slots ls sk hR kk
  obtain ⟨lc, stk, r⟩ := st
  obtain ⟨ws, tys, lv, hlv0, hlv, hsk, hw⟩ := hR
  unfold zi_sld at hf
  match stk, hf, hsk with
  | v :: .inr (.inr (.inr (.inl u))) :: t, hf, hsk =>
    dsimp only at hf
    cases h0 : zi_iv v with
    | none => rw [h0] at hf; cases hf
    | some x =>
      rw [h0] at hf
      dsimp only at hf
      cases h1 : E.2 with
      | none => rw [h1] at hf; cases hf
      | some sc =>
        rw [h1] at hf
        dsimp only at hf
        cases h2 : (zi_one x && Nat.ble 2147483648 x.1) with
        | false => rw [h2] at hf; cases hf
        | true =>
          rw [h2] at hf
          dsimp only [cond_true] at hf
          obtain ⟨q1, q2⟩ := Bool.and_eq_true_iff.mp h2
          have q2 := Nat.le_of_ble_eq_true q2
          rw [zi_nth_eq] at hf
          cases h3 : sc[x.1 - 2147483648]? with
          | none => rw [h3] at hf; cases hf
          | some v' =>
            rw [h3] at hf
            cases hf
            obtain ⟨z2, t2, rfl, g2, hs1⟩ := hsk.cons
            obtain ⟨z1, t1, rfl, g1, hs2⟩ := hs1.cons
            cases (show z1 = .ref b from g1)
            obtain ⟨i, rfl, hi'⟩ := zi_iv_ok _ h0 g2
            have ei := zi_one_eq q1 hi'
            obtain ⟨n, hnn⟩ : ∃ n : Nat, n = x.1 - 2147483648 := ⟨_, rfl⟩
            rw [← hnn] at h3
            have ein : zi_o i = n + 2147483648 := by omega
            have hlt := (List.getElem?_eq_some_iff.mp h3).1
            have hS := X.2.2.2.2.2.2.2.2.2
            rw [h1] at hS
            obtain ⟨xs, s1, s2, s3, s4, s5⟩ := hS
            exact va_sld X.1 X.2.1 s1 s2 s3 hw.2.2.2.2.1 (zi_vin ein hlt) hd (by
              rw [zi_clamp ein]
              exact kk _ _ _ _ _ _ ⟨ws, tys, lv, hlv0, hlv, ⟨s5 _ _ _ h3, hs2⟩, hw⟩)
  | [], hf, _ => cases hf
  | [_], hf, _ => cases hf
  | _ :: .inl _ :: _, hf, _ => cases hf
  | _ :: .inr (.inl _) :: _, hf, _ => cases hf
  | _ :: .inr (.inr (.inl _)) :: _, hf, _ => cases hf
  | _ :: .inr (.inr (.inr (.inr _))) :: _, hf, _ => cases hf
theorem zi_ofN {n : Nat} (h : n < 2147483648) : zi_o (Int32.ofNat n) = n + 2147483648 := by
  have e := zi_oe (Int32.ofNat n)
  have e2 : (Int32.ofNat n).toInt = (n : Int) := nI_toInt (by omega)
  omega
theorem zi_slen_ok (hn : pc + 1 = nx) (hd : decode cc pc = .ok (.arraylength, 1)) : zi_ok mt y cc nL pc (zi_slen nx) := by
  subst hn
  intro p l e R s m args below meth c D A b d a0 E X hE st pc' st' hf Q H locs cells slots ls sk hR kk
  obtain ⟨lc, stk, r⟩ := st
  obtain ⟨ws, tys, lv, hlv0, hlv, hsk, hw⟩ := hR
  unfold zi_slen at hf
  match stk, hf, hsk with
  | .inr (.inr (.inr (.inl u))) :: t, hf, hsk =>
    dsimp only at hf
    cases h1 : E.2 with
    | none => rw [h1] at hf; cases hf
    | some sc =>
      rw [h1] at hf
      cases hf
      obtain ⟨z1, t1, rfl, g1, hs2⟩ := hsk.cons
      cases (show z1 = .ref b from g1)
      have hS := X.2.2.2.2.2.2.2.2.2
      rw [h1] at hS
      obtain ⟨xs, s1, s2, s3, s4, s5⟩ := hS
      exact va_slen X.1 X.2.1 s1 s2 s3 hw.2.2.2.2.1 hd (kk _ _ _ _ _ _ ⟨ws, tys, lv, hlv0, hlv, ⟨⟨_, rfl, by rw [zi_ofN s4]; exact ⟨Nat.le_refl _, Nat.le_refl _⟩⟩, hs2⟩, hw⟩)
  | [], hf, _ => cases hf
  | .inl _ :: _, hf, _ => cases hf
  | .inr (.inl _) :: _, hf, _ => cases hf
  | .inr (.inr (.inl _)) :: _, hf, _ => cases hf
  | .inr (.inr (.inr (.inr _))) :: _, hf, _ => cases hf
theorem zi_alen_ok (hn : pc + 1 = nx) (hd : decode cc pc = .ok (.arraylength, 1)) : zi_ok mt y cc nL pc (zi_alen nx) := by
  subst hn
  intro p l e R s m args below meth c D A b d a0 E X hE st pc' st' hf Q H locs cells slots ls sk hR kk
  obtain ⟨lc, stk, w, r⟩ := st
  obtain ⟨ws, tys, lv, hlv0, hlv, hsk, hw⟩ := hR
  unfold zi_alen at hf
  match stk, hf, hsk with
  | .inr (.inr (.inl (some q))) :: t, hf, hsk =>
    dsimp only at hf
    cases h1 : zi_wg w q with
    | none => rw [h1] at hf; cases hf
    | some cell =>
      rw [h1] at hf
      match cell, h1, hf with
      | .inr _, _, hf => cases hf
      | .inl (t', l'), h1, hf =>
        dsimp only at hf
        cases h2 : Nat.ble l'.length 2147483647 with
        | false => rw [h2] at hf; cases hf
        | true =>
          rw [h2] at hf
          cases hf
          have h2 := Nat.le_of_ble_eq_true h2
          obtain ⟨z1, t1, rfl, ⟨a, ha, rfl⟩, hs2⟩ := hsk.cons
          obtain ⟨en, he⟩ := zi_ads ha
          obtain ⟨cA, f, t0, e1, e2, e3⟩ := zi_wr.at hw.1 h1 he
          dsimp only at e1
          subst e1
          exact va_alen X.1 X.2.1 hw.2.2.2.1 hw.2.1 q t0 he e2 rfl hd (kk _ _ _ _ _ _ ⟨ws, tys, lv, hlv0, hlv, ⟨⟨_, rfl, by rw [zi_ofN (by omega)]; exact ⟨Nat.le_refl _, Nat.le_refl _⟩⟩, hs2⟩, hw⟩)
  | [], hf, _ => cases hf
  | .inl _ :: _, hf, _ => cases hf
  | .inr (.inl _) :: _, hf, _ => cases hf
  | .inr (.inr (.inl none)) :: _, hf, _ => cases hf
  | .inr (.inr (.inr _)) :: _, hf, _ => cases hf
end Heap
