/-! calls of each kind, and the whole walk -/
section Kinds
variable {mt : Nat → Option zi_M} {y : MethodName} {cc : ByteArray} {nL pc nx : Nat}
/-- what is known of a method that is called: n values beside the receiver -/
def zi_mf (mt : Nat → Option zi_M) (j n : Nat) (y' : MethodName) (cc' : ByteArray) (mL : Nat) (ret' : Option FieldType) (mc ms : Nat) : Prop :=
  (∃ t', mt j = some (y', cc', mL, ret', t', mc, ms)) ∧ Cond.code y' cc' mL ret' ∈ zi_G ∧ Cond.initialized y'.cls ∈ zi_G ∧ (y'.cls ≠ "java/lang/invoke/MethodHandle" ∧ y'.cls ≠ "java/lang/invoke/VarHandle") ∧ (parseMethodDescriptor y'.desc).map (fun d => d.parameters.length) = some n ∧ mL ≤ 19
theorem zi_mf.len {j n : Nat} {y' : MethodName} {cc' : ByteArray} {mL : Nat} {ret' : Option FieldType} {mc ms : Nat} (h : zi_mf mt j n y' cc' mL ret' mc ms) {k : Nat} (hk : k = n) : ∀ sig, parseMethodDescriptor y'.desc = some sig → k = sig.parameters.length := by
  intro sig hs
  have h1 := h.2.2.2.2.1
  rw [hs] at h1
  exact hk.trans (Option.some.inj h1).symm
def zi_lnk (y y' : MethodName) (idx : Nat) : Prop := Cond.methodLink y.cls idx y' ∈ zi_G ∨ ∃ host, Cond.methodLinkNest y.cls idx y' host ∈ lw_tbl
theorem zi_invV_ok {j n mc ms mL idx c0 N : Nat} {y' : MethodName} {cc' : ByteArray} {ret' : Option FieldType} {C : String} {T0 : u_T} {ty0 : Nat → FieldType} (hm : zi_mf mt j n y' cc' mL ret' mc ms) (hc : zi_cls c0 C T0 N ty0) (hin : Cond.instanceMethod y' ∈ zi_G) (hse : Cond.selects C y' y' ∈ zi_G) (hl : zi_lnk y y' idx) (hd : decode cc pc = .ok (.invokevirtual idx, 3)) (hn : pc + 3 = nx) : zi_ok mt y cc nL pc (zi_inv j (n + 1) (some c0) mc ms nx) := by
  obtain ⟨t', ht'⟩ := hm.1
  refine zi_inv_core ht' hm.2.1 hm.2.2.1 hm.2.2.2.2.2 (fun c1 h => by cases h; exact ⟨_, hc.1⟩) ?_ hn
  intro p l e R s m args below meth c A b d sc X T locs cells slots XS Pre Post hK ls vs rest hls hnn hrec hsum hpre
  obtain ⟨r, hr, a, As, cell, rfl, c1, c2, c3⟩ := hrec
  cases hr.symm.trans hc.1
  have hts := X.2.2.2.2.1
  rcases hl with hl | ⟨host, hl⟩
  · obtain ⟨v, vm₁, B, h1, h2, h3, h4⟩ := callV XS X.1 (C := C) (bytes := cc') (maxL := mL) (ret := ret') X.2.2.2.1 (hts _ hl) (hts _ hin) (hts _ hse) (hts _ hm.2.1) hm.2.2.2.1 hK c1 c2 c3 (g := F0 m pc ls ((Value.ref a :: As).reverse ++ rest)) rfl hls (argsL := As) (rest := rest) (hm.len (Nat.succ.inj hnn)) (by simp) (by show 2 * 0 + _ ≤ 30; omega) (by rw [X.2.1]; exact hd) hpre
    exact ⟨v, vm₁, B, h1, h2, h3, h4⟩
  · obtain ⟨v, vm₁, B, h1, h2, h3, h4⟩ := va_callVN XS X.1 (C := C) (bytes := cc') (maxL := mL) (ret := ret') X.2.2.2.1 (va_Nw.use rfl (X.2.2.2.2.2.1 _ hl rfl)) (hts _ hin) (hts _ hse) (hts _ hm.2.1) hm.2.2.2.1 hK c1 c2 c3 (g := F0 m pc ls ((Value.ref a :: As).reverse ++ rest)) rfl hls (argsL := As) (rest := rest) (hm.len (Nat.succ.inj hnn)) (by simp) (by show 2 * 0 + _ ≤ 30; omega) (by rw [X.2.1]; exact hd) hpre
    exact ⟨v, vm₁, B, h1, h2, h3, h4⟩
theorem zi_invI_ok {j n mc ms mL idx c0 N : Nat} {y' : MethodName} {cc' : ByteArray} {C : String} {T0 : u_T} {ty0 : Nat → FieldType} (hm : zi_mf mt j n y' cc' mL none mc ms) (hc : zi_cls c0 C T0 N ty0) (hin : Cond.instanceMethod y' ∈ zi_G) (hy : y'.name = "<init>") (hl : zi_lnk y y' idx) (hd : decode cc pc = .ok (.invokespecial idx, 3)) (hn : pc + 3 = nx) : zi_ok mt y cc nL pc (zi_inv j (n + 1) (some c0) mc ms nx) := by
  obtain ⟨t', ht'⟩ := hm.1
  refine zi_inv_core ht' hm.2.1 hm.2.2.1 hm.2.2.2.2.2 (fun c1 h => by cases h; exact ⟨_, hc.1⟩) ?_ hn
  intro p l e R s m args below meth c A b d sc X T locs cells slots XS Pre Post hK ls vs rest hls hnn hrec hsum hpre
  obtain ⟨r, hr, a, As, cell, rfl, c1, c2, c3⟩ := hrec
  have hts := X.2.2.2.2.1
  rcases hl with hl | ⟨host, hl⟩
  · obtain ⟨v, vm₁, B, h1, h2, h3, h4⟩ := callI XS X.1 (bytes := cc') (maxL := mL) X.2.2.2.1 hy (hts _ hl) (hts _ hin) (hts _ hm.2.1) hm.2.2.2.1 hK (g := F0 m pc ls ((Value.ref a :: As).reverse ++ rest)) rfl hls (a := a) (argsL := As) (rest := rest) (hm.len (Nat.succ.inj hnn)) (by simp) (by show 2 * 0 + _ ≤ 30; omega) (by rw [X.2.1]; exact hd) hpre
    exact ⟨v, vm₁, B, h1, h2, h3, h4⟩
  · obtain ⟨v, vm₁, B, h1, h2, h3, h4⟩ := va_callIN XS X.1 (bytes := cc') (maxL := mL) X.2.2.2.1 hy (va_Nw.use rfl (X.2.2.2.2.2.1 _ hl rfl)) (hts _ hin) (hts _ hm.2.1) hm.2.2.2.1 hK (g := F0 m pc ls ((Value.ref a :: As).reverse ++ rest)) rfl hls (a := a) (argsL := As) (rest := rest) (hm.len (Nat.succ.inj hnn)) (by simp) (by show 2 * 0 + _ ≤ 30; omega) (by rw [X.2.1]; exact hd) hpre
    exact ⟨v, vm₁, B, h1, h2, h3, h4⟩
theorem zi_invS_ok {j n mc ms mL idx : Nat} {y' : MethodName} {cc' : ByteArray} {ret' : Option FieldType} (hm : zi_mf mt j n y' cc' mL ret' mc ms) (hst : Cond.static y' ∈ zi_G) (hl : zi_lnk y y' idx) (hd : decode cc pc = .ok (.invokestatic idx, 3)) (hn : pc + 3 = nx) : zi_ok mt y cc nL pc (zi_inv j n none mc ms nx) := by
  obtain ⟨t', ht'⟩ := hm.1
  refine zi_inv_core ht' hm.2.1 hm.2.2.1 hm.2.2.2.2.2 (fun c1 h => by cases h) ?_ hn
  intro p l e R s m args below meth c A b d sc X T locs cells slots XS Pre Post hK ls vs rest hls hnn hrec hsum hpre
  have hts := X.2.2.2.2.1
  rcases hl with hl | ⟨host, hl⟩
  · obtain ⟨v, vm₁, B, h1, h2, h3, h4⟩ := callS XS X.1 (bytes := cc') (maxL := mL) (ret := ret') X.2.2.2.1 (hts _ hl) (hts _ hst) (hts _ hm.2.2.1) (hts _ hm.2.1) hm.2.2.2.1 hK (g := F0 m pc ls (vs.reverse ++ rest)) rfl hls (argsL := vs) (rest := rest) (hm.len hnn) rfl (by show 2 * 0 + _ ≤ 30; omega) (by rw [X.2.1]; exact hd) hpre
    exact ⟨v, vm₁, B, h1, h2, h3, h4⟩
  · obtain ⟨v, vm₁, B, h1, h2, h3, h4⟩ := va_callSN XS X.1 (bytes := cc') (maxL := mL) (ret := ret') X.2.2.2.1 (va_Nw.use rfl (X.2.2.2.2.2.1 _ hl rfl)) (hts _ hst) (hts _ hm.2.2.1) (hts _ hm.2.1) hm.2.2.2.1 hK (g := F0 m pc ls (vs.reverse ++ rest)) rfl hls (argsL := vs) (rest := rest) (hm.len hnn) rfl (by show 2 * 0 + _ ≤ 30; omega) (by rw [X.2.1]; exact hd) hpre
    exact ⟨v, vm₁, B, h1, h2, h3, h4⟩
end Kinds
def zi_rop : Option FieldType → Instr
  | none => .return_
  | some .long => .lreturn
  | some (.object _) => .areturn
  | some (.array _) => .areturn
  | some _ => .ireturn
def zi_tb (mt : Nat → Option zi_M) (y : MethodName) (cc : ByteArray) (nL : Nat) (t : zi_T) : Prop := ∀ (pc : Nat) (f : zi_F), zi_lk t pc = some (some f) → zi_ok mt y cc nL pc f
def zi_mok (mt : Nat → Option zi_M) (M : zi_M) : Prop := zi_tb mt M.1 M.2.1 M.2.2.1 M.2.2.2.2.1 ∧ (∀ pc, zi_lk M.2.2.2.2.1 pc = some none → decode M.2.1 pc = .ok (zi_rop M.2.2.2.1, 1)) ∧ plainName M.1.cls = true
theorem zi_cat12 (v : zi_V) : zi_cat v = 1 ∨ zi_cat v = 2 := by
  unfold zi_cat
  split
  · exact Or.inr rfl
  · exact Or.inl rfl
theorem zi_sl_len {b : Nat} {ads : List Nat} : ∀ {as : List zi_V} {vs : List Value}, zi_a2 (zi_g b ads) as vs → (lg_sl vs).length = zi_wt as
  | [], [], _ => rfl
  | [], _ :: _, h => h.elim
  | _ :: _, [], h => h.elim
  | a :: as, v :: vs, h => by
    have e := zi_g.cat _ _ h.1
    have t := zi_sl_len h.2
    unfold lg_sl at t ⊢
    rw [List.flatMap_cons, List.length_append, t]
    show _ = zi_cat a + zi_wt as
    rcases zi_cat12 a with q | q
    · rw [if_neg (by omega), q]; rfl
    · rw [if_pos (by omega), q]; rfl
theorem zi_args_ok {b : Nat} {ads : List Nat} : ∀ {as : List zi_V} {vs : List Value} (i : Nat), zi_a2 (zi_g b ads) as vs → zi_a2 (zi_lr b ads) (zi_args i as) (lv_args i vs)
  | [], [], _, _ => trivial
  | [], _ :: _, _, h => h.elim
  | _ :: _, [], _, h => h.elim
  | a :: as, v :: vs, i, h => by
    have e := zi_g.cat _ _ h.1
    unfold zi_args lv_args
    refine ⟨⟨rfl, h.1⟩, ?_⟩
    rcases zi_cat12 a with q | q
    · rw [if_neg (by omega), q]; exact zi_args_ok _ h.2
    · rw [if_pos (by omega), q]; exact zi_args_ok _ h.2
/-- what n steps of the walk say of the machine -/
def zi_RO (mt : Nat → Option zi_M) (n : Nat) : Prop := ∀ (t : zi_T) (sc : Option (List zi_V)) (d pc : Nat) (st : zi_S) (pc' : Nat) (st' : zi_S), zi_run mt n t sc d pc st = some (pc', st') → zi_lk t pc' = some none ∧
  ∀ (y : MethodName) (cc : ByteArray) (nL : Nat), zi_tb mt y cc nL t → ∀ (p : Program) (l : Launch) (e : Env) (R : Room) (s : State) (m : MethodId) (args : Array Value) (below : List Frame) (meth : Method) (c : Code) (D : va_G) (A : Nat → Prop) (b : Nat) (a0 : List Nat), zi_X p R s m args meth c y cc nL A b sc d →
    ∀ (Q : State → Prop) (H : Heap) (locs : List Loc) (cells slots : Nat) (ls : Array Slot) (sk : List Value), zi_R R s nL D A b a0 st H locs cells slots ls sk →
      (∀ (H' : Heap) (locs' : List Loc) (cells' slots' : Nat) (ls' : Array Slot) (sk' : List Value), zi_R R s nL D A b a0 st' H' locs' cells' slots' ls' sk' → W p l e R s m args below meth c H' locs' cells' slots' Q (F0 m pc' ls' sk')) →
      W p l e R s m args below meth c H locs cells slots Q (F0 m pc ls sk)
set_option maxHeartbeats 4000000 in
theorem zi_met {mt : Nat → Option zi_M} {n d pc' : Nat} {l : Launch} {y' : MethodName} {cc' : ByteArray} {mL mc ms rc rs : Nat} {ret' : Option FieldType} {t' : zi_T} {as : List zi_V} {w w' : zi_W} {v : Option zi_V} {lc : zi_L} {skf : List zi_V} (hI : zi_RO mt n) (hM : zi_mok mt (y', cc', mL, ret', t', mc, ms)) (hwt : zi_wt as ≤ mL) (hrun : zi_run mt n t' none d 0 (zi_args 0 as, [], w, mc, ms) = some (pc', lc, skf, w', rc, rs)) (hfin : zi_fin ret' skf = some v) : zi_Met l d (y', cc', mL, ret', t', mc, ms) as w v w' := by
  intro b D vs ws tys sz hvs hw
  obtain ⟨hstop, hgo⟩ := hI _ _ _ _ _ _ _ hrun
  have hdg := hM.2.1 _ hstop
  dsimp only at hdg
  refine Met.ofW (cc := cc') (maxL := mL) (ret := ret') hM.2.2 rfl ?_
  intro p e s m args below meth c s₁ B hml hv
  obtain ⟨rfl, rfl, hP, hK, hD, hN⟩ := hv
  have hts := atoms_spec (ws := Cond.code y' cc' mL ret' :: zi_G) B.pre
  have X : zi_X p (zi_rm d mc ms) s m vs.toArray meth c y' cc' mL (va_A ws s.heap.size) b none d := ⟨B.exec, B.bytes, hml, findClass_of_methodNamed B.named, fun w hw => hts w (List.mem_cons_of_mem _ hw), hN, fun q h => Or.inr h, ⟨Nat.le_refl _, Nat.le_refl _⟩, fun h => (name_of_methodNamed B.named B.method).1.trans h, trivial⟩
  have hl := lv_entry vs (n := mL) (by rw [zi_sl_len hvs]; exact hwt)
  rw [lg_entry_eq]
  generalize (lg_sl vs ++ List.replicate (mL - (lg_sl vs).length) Slot.unset).toArray = ls at hl ⊢
  refine hgo y' cc' mL hM.1 p l e (zi_rm d mc ms) s m vs.toArray below meth c D (va_A ws s.heap.size) b (ws.map (·.1)) X _ s.heap [] 0 0 ls [] ⟨ws, tys, lv_args 0 vs, hl, zi_args_ok 0 hvs, trivial, hw, hP, hD.self, hK, va_S.rf, by show 0 + mc ≤ mc; omega, by show 0 + ms ≤ ms; omega, fun _ _ h => h⟩ ?_
  intro H' locs' cells' slots' ls' sk' hR
  obtain ⟨ws', tys', lv', -, -, hsk, w1, w2, w3, w4, w5, w6, w7, w8⟩ := hR
  dsimp only at hsk w1 w6 w7
  have w6 : cells' + rc ≤ mc := w6
  have w7 : slots' + rs ≤ ms := w7
  refine W.widen (k := mc) (n := ms) (by omega) (by omega) ?_
  have hq : ∀ vv, zi_rv b (ws'.map (·.1)) v vv → ∀ t : State, t.heap = H' → s.WarmedH t.vm → zi_Q b D w' v ws s.heap.size vs.toArray s (.returned vv) t := fun vv hrv t ht hW => ⟨⟨vv, rfl, ws', tys', hrv, w1, w8, by rw [ht]; exact w2, va_K.moved hW.alike w4, w3⟩, w5.F ht⟩
  have hlk := B.notSynchronized
  have hrt := B.returns
  unfold zi_fin at hfin
  split at hfin
  · cases hfin
    cases hsk.nil
    exact W.vret B.exec B.bytes hrt (fun t ht hW => hq none rfl t ht hW) w5.2.2 hdg hlk
  · rename_i v0
    cases hv0 : zi_iv v0 with
    | none => rw [hv0] at hfin; cases hfin
    | some r =>
      rw [hv0] at hfin
      cases hfin
      obtain ⟨z, t1, rfl, g, hs1⟩ := hsk.cons
      cases hs1.nil
      obtain ⟨i, rfl, hi⟩ := zi_iv_ok _ hv0 g
      exact W.iret B.exec B.bytes hrt (fun t ht hW => hq _ ⟨_, rfl, i, rfl, hi⟩ t ht hW) w5.2.2 hdg hlk
  · rename_i r
    cases hb : (Nat.ble 2147483648 r.1 && Nat.ble r.2 2147483649) with
    | false => rw [hb] at hfin; cases hfin
    | true =>
      rw [hb] at hfin
      cases hfin
      obtain ⟨z, t1, rfl, g, hs1⟩ := hsk.cons
      cases hs1.nil
      obtain ⟨i, rfl, hi⟩ := id g
      have hnf := (zi_fit_ok (ty := .boolean) (v := .inl r) hb g).1
      exact W.zret B.exec B.bytes hrt hnf (fun t ht hW => hq _ ⟨_, rfl, i, rfl, hi⟩ t ht hW) w5.2.2 hdg hlk
  · cases hfin
    obtain ⟨z, t1, rfl, g, hs1⟩ := hsk.cons
    cases hs1.nil
    obtain ⟨i, rfl, hi⟩ := g
    exact W.lret B.exec B.bytes hrt (fun t ht hW => hq _ ⟨_, rfl, i, rfl, hi⟩ t ht hW) w5.2.2 hdg hlk
  · rename_i cn q
    cases hfin
    obtain ⟨z, t1, rfl, g, hs1⟩ := hsk.cons
    cases hs1.nil
    exact W.aret B.exec B.bytes hrt (Or.inl ⟨cn, rfl⟩) (zi_g.kd2 _ _ g rfl) (fun t ht hW => hq _ ⟨_, rfl, g⟩ t ht hW) w5.2.2 hdg hlk
  · cases hfin
theorem zi_run_ok {mt : Nat → Option zi_M} (hmt : ∀ (j : Nat) (M : zi_M), mt j = some M → zi_mok mt M) : ∀ n, zi_RO mt n
  | 0 => by
    intro t sc d pc st pc' st' h
    cases h
  | n + 1 => by
    intro t sc d pc st pc' st' h
    have ih := zi_run_ok hmt n
    change zi_stp mt (zi_run mt n) t sc d pc st = some (pc', st') at h
    unfold zi_stp at h
    cases h1 : zi_lk t pc with
    | none => rw [h1] at h; cases h
    | some o =>
      rw [h1] at h
      cases o with
      | none =>
        cases h
        exact ⟨h1, fun y cc nL _ p l e R s m args below meth c D A b a0 _ Q H locs cells slots ls sk hR kk => kk _ _ _ _ _ _ hR⟩
      | some f =>
        dsimp only at h
        split at h
        · cases h
        · rename_i pc1 st1 hf
          obtain ⟨hs, hgo⟩ := ih _ _ _ _ _ _ _ h
          refine ⟨hs, fun y cc nL ht p l e R s m args below meth c D A b a0 X Q H locs cells slots ls sk hR kk => ?_⟩
          refine ht pc f h1 p l e R s m args below meth c D A b d a0 _ X ?_ st pc1 st1 hf Q H locs cells slots ls sk hR (fun H' locs' cells' slots' ls' sk' hR' => hgo y cc nL ht p l e R s m args below meth c D A b a0 X Q H' locs' cells' slots' ls' sk' hR' kk)
          intro j M as w v w' hj hE
          dsimp only at hE
          unfold zi_cal at hE
          cases d with
          | zero => cases hE
          | succ d' =>
            dsimp only at hE
            rw [hj] at hE
            obtain ⟨y', cc', mL, ret', t', mc, ms⟩ := M
            dsimp only at hE
            cases hw : Nat.ble (zi_wt as) mL with
            | false => rw [hw] at hE; cases hE
            | true =>
              rw [hw] at hE
              dsimp only [cond_true] at hE
              split at hE
              · cases hE
              · rename_i pcf lc skf wf r2 hrun
                obtain ⟨rc, rs⟩ := r2
                split at hE
                · cases hE
                · rename_i vf hfin
                  cases hE
                  exact ⟨d', rfl, zi_met ih (hmt j _ hj) (Nat.le_of_ble_eq_true hw) hrun hfin⟩
