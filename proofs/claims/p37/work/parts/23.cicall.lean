/-! contracts over the pure world; a frame's run, piece by piece -/
/-- the start of a contract: the cells are these, at these addresses -/
def ci_B (D : va_G) (ws : va_W) (tys : List (ClassId × FieldType)) (sz : Nat) : State → Prop := zi_B D ws tys sz
def ci_rv (b : Nat) (ads : List Nat) (v : Option Value) : Option Value := v.map (ci_t b ads)
def ci_Q (b : Nat) (D : va_G) (tys : List (ClassId × FieldType)) (Post : Option Value → ci_W → Prop) (ws : va_W) (sz : Nat) : Array Value → State → Outcome → State → Prop := fun _ st oc t =>
  (∃ (v : Option Value) (w' : ci_W) (ws' : va_W), oc = .returned (ci_rv b (ws.map (·.1)) v) ∧ Post v w' ∧ ci_wr b (ws.map (·.1)) tys w' ws' ∧ va_P D vwCl ws' t.heap ∧ va_K D vwCl tys t ∧ va_D (va_A ws sz) ws') ∧ va_F (va_A ws sz) st t
/-- a method's contract: from the pure world w with these values it returns, and Post -/
def ci_Met (d : Nat) (M : zi_M) (as : List Value) (w : ci_W) (Post : Option Value → ci_W → Prop) : Prop :=
  ∀ (l : Launch) (b : Nat) (D : va_G) (ws : va_W) (tys : List (ClassId × FieldType)) (sz : Nat), ci_wr b (ws.map (·.1)) tys w ws →
    Met l M.1 (Cond.code M.1 M.2.1 M.2.2.1 M.2.2.2.1 :: zi_G) (zi_rm d 0 0) (va_Pc (as.map (ci_t b (ws.map (·.1)))) (ci_B D ws tys sz)) (ci_Q b D tys Post ws sz) 0 0 (va_A ws sz)
/-- from here the frame runs to its return, and Post -/
def ci_T (y : MethodName) (cc : ByteArray) (nL : Nat) (ret : Option FieldType) (d pc : Nat) (st : ci_S) (Post : Option Value → ci_W → Prop) : Prop :=
  ∀ (p : Program) (l : Launch) (e : Env) (R : Room) (s : State) (m : MethodId) (args : Array Value) (below : List Frame) (meth : Method) (c : Code) (D : va_G) (A : Nat → Prop) (b : Nat) (ads : List Nat) (tys : List (ClassId × FieldType)), ci_X p R s m args meth c y cc nL A d →
    ∀ (Q : State → Prop) (H : Heap) (locs : List Loc) (cells slots : Nat) (ls : Array Slot) (sk : List Value), cells ≤ R.cells → slots ≤ R.slots → ci_R s nL D A b ads tys st H locs ls sk →
      (∀ (H' : Heap) (locs' : List Loc) (pc' : Nat) (ls' : Array Slot) (v : Option Value) (w' : ci_W) (ws' : va_W), decode cc pc' = .ok (zi_rop ret, 1) → Post v w' → ci_RW s D A b ads w' ws' tys H' locs' → W p l e R s m args below meth c H' locs' cells slots Q (F0 m pc' ls' ((ci_rv b ads v).toList))) →
      W p l e R s m args below meth c H locs cells slots Q (F0 m pc ls sk)
section CT
variable {y : MethodName} {cc : ByteArray} {nL : Nat} {ret : Option FieldType} {d pc : Nat} {st : ci_S} {Post : Option Value → ci_W → Prop}
theorem ci_T.step {f : ci_F} {pc' : Nat} {st' : ci_S} (hf : ci_ok y cc nL pc f) (h : f st = some (pc', st')) (k : ci_T y cc nL ret d pc' st' Post) : ci_T y cc nL ret d pc st Post := by
  intro p l e R s m args below meth c D A b ads tys X Q H locs cells slots ls sk hc hs hR kk
  exact hf p l e R s m args below meth c D A b d ads tys X st pc' st' h Q H locs cells slots ls sk hR (fun H' locs' ls' sk' hR' => k p l e R s m args below meth c D A b ads tys X Q H' locs' cells slots ls' sk' hc hs hR' kk)
theorem ci_T.done {lc : ci_L} {v : Option Value} {w : ci_W} (hd : decode cc pc = .ok (zi_rop ret, 1)) (hp : Post v w) : ci_T y cc nL ret d pc (lc, v.toList, w) Post := by
  intro p l e R s m args below meth c D A b ads tys X Q H locs cells slots ls sk hc hs hR kk
  obtain ⟨ws, hl, rfl, hw⟩ := hR
  have h := kk H locs pc ls v w ws hd hp hw
  cases v with
  | none => exact h
  | some x => exact h
theorem ci_T.mono {Post' : Option Value → ci_W → Prop} (h : ∀ v w, Post v w → Post' v w) (k : ci_T y cc nL ret d pc st Post) : ci_T y cc nL ret d pc st Post' := by
  intro p l e R s m args below meth c D A b ads tys X Q H locs cells slots ls sk hc hs hR kk
  exact k p l e R s m args below meth c D A b ads tys X Q H locs cells slots ls sk hc hs hR (fun H' locs' pc' ls' v w' ws' h1 h2 h3 => kk H' locs' pc' ls' v w' ws' h1 (h v w' h2) h3)
/-- what is known of a call's place: which row of the kit takes it -/
def ci_calls (y : MethodName) (cc : ByteArray) (nL pc : Nat) (y' : MethodName) (n : Nat) (ci : Option Nat) : Prop :=
  ∀ (p : Program) (l : Launch) (e : Env) (R : Room) (s : State) (m : MethodId) (args : Array Value) (below : List Frame) (meth : Method) (c : Code) (A : Nat → Prop) (b d : Nat) (sc : Option (List zi_V)), zi_X p R s m args meth c y cc nL A b sc d → ∀ (T : State) (locs : List Loc) (cells slots : Nat), Stand p l e R s m args below meth c T locs cells slots →
      ∀ (Pre : Pt → Array Value → Prop) (Post : Pt → Array Value → Option Value → Pt → Prop), Back l R p e below s args y' 3 30 Pre Post → ∀ (ls : Array Slot) (vs rest : List Value), ls.size = c.maxLocals → vs.length = n → zi_rec s T.heap vs ci → (rest.map fun v => v.category).sum ≤ 20 → (∀ vm₁, s.WarmedH vm₁ → Pre ⟨T.setVm vm₁, locs, cells, slots⟩ vs.toArray) →
      zi_gives p l e R s m args below meth c T locs cells slots Post vs rest pc ls
def ci_recv (w : ci_W) (as : List Value) : Option Nat → Prop
  | none => True
  | some c0 => (∃ r : vw_C, vwCl[c0]? = some r) ∧ ∃ (q : Nat) (tl : List Value) (vs : List Value), as = .ref (q + 1) :: tl ∧ w q = some (.inr (c0, vs))
theorem ci_T.call {n mL : Nat} {y' : MethodName} {cc' : ByteArray} {ret' : Option FieldType} {ci : Option Nat} {t' : zi_T} {lc : ci_L} {as rest : List Value} {w : ci_W} {CP : Option Value → ci_W → Prop} (hcode : Cond.code y' cc' mL ret' ∈ zi_G) (hini : Cond.initialized y'.cls ∈ zi_G) (hmL : mL ≤ 19) (hcall : ci_calls y cc nL pc y' n ci) (hn : as.length = n) (hrest : (rest.map fun v => v.category).sum ≤ 20) (hrc : ci_recv w as ci) (hM : ci_Met d (y', cc', mL, ret', t', 0, 0) as w CP)
    (k : ∀ (v : Option Value) (w' : ci_W), CP v w' → ci_T y cc nL ret (d + 1) (pc + 3) (lc, v.toList ++ rest, w') Post) : ci_T y cc nL ret (d + 1) pc (lc, as.reverse ++ rest, w) Post := by
  intro p l e R s m args below meth c D A b ads tys X Q H locs cells slots ls sk hcl hsl hR kk
  obtain ⟨ws, hlv, rfl, hw⟩ := hR
  obtain ⟨w1, w2, w3, w4, w5⟩ := hw
  dsimp only at w1
  have had := w1.1
  subst had
  obtain ⟨vs, hvs⟩ : ∃ vs : List Value, vs = as.map (ci_t b (ws.map (·.1))) := ⟨_, rfl⟩
  have hM' := hM l b D ws tys H.size w1
  rw [← hvs] at hM'
  have hx := X.2.2.2.2.2.2.2.1
  have hF : ∀ q, va_A ws H.size q → A q := by
    intro q hq
    rcases hq with ⟨k, en, hk⟩ | hq
    · exact w3.2 k _ hk
    · exact X.2.2.2.2.2.2.1 q (Nat.le_trans w5.1 hq)
  have hrec : zi_rec s H vs ci := by
    cases ci with
    | none => trivial
    | some c0 =>
      obtain ⟨⟨r, hr⟩, q, tl, fv, e1, e2⟩ := hrc
      obtain ⟨a, e0, he, hg, hta⟩ := w1.ref e2
      have hg' : e0 = .inr (c0, fv.map (ci_t b (ws.map (·.1)))) := hg
      rw [hg'] at he
      obtain ⟨cell, f1, f2, f3⟩ := va_recv w4 w2 hr he
      exact ⟨r, hr, a, tl.map (ci_t b (ws.map (·.1))), cell, by rw [hvs, e1, List.map_cons, hta], f1, f2, f3⟩
  have hblind : FrameBlind (va_Pc vs (ci_B D ws tys H.size)) := by
    intro aa U g mk q
    obtain ⟨r1, r2, r3, r4, r5, r6⟩ := q
    exact ⟨r1, r2, r3, va_K.moved (u := U) (U := U.calling g mk aa) (Vm.Alike.refl U.vm) r4, r5, zi_NW.same (u := U) rfl r6⟩
  have hstk : (as.reverse ++ rest).map (ci_t b (ws.map (·.1))) = vs.reverse ++ rest.map (ci_t b (ws.map (·.1))) := by
    rw [List.map_append, List.map_reverse, ← hvs]
  dsimp only
  rw [hstk]
  intro T hT XS
  have hK : Back l R p e below s args y' 3 30 (PreOf R 0 0 (va_Pc vs (ci_B D ws tys H.size))) (PostOf (ci_Q b D tys CP ws H.size) 0 0 (va_A ws H.size)) := back_of (bytes := cc') (maxL := mL) (ret := ret') hM' hblind rfl rfl (by show d + 1 + 1 ≤ _; omega) (by show 30 + (mL + 11) + (60 * d + 60) ≤ _; omega) (pay_in X.2.2.2.2.1 (fun w hw => (List.mem_cons.mp hw).elim (fun h => by rw [h]; exact zi_G_good _ hcode) (fun h => zi_G_good _ h))) List.mem_cons_self (pay_in X.2.2.2.2.1 zi_G_good _ hini)
  obtain ⟨vv, vm₁, ⟨U', l2, c2, s2⟩, hW₁, X', ⟨g', mk, t, L, o1, o2, hq, o3, hL, o4, o5⟩, st⟩ := hcall p l e R s m args below meth c A 0 (d + 1) none X T locs cells slots XS _ _ hK ls vs (rest.map (ci_t b (ws.map (·.1)))) (hlv.1.trans X.2.2.1.symm) (by rw [hvs, List.length_map]; exact hn) (by rw [hT]; exact hrec) (by rw [ci_sum]; exact hrest) (fun vm₁ hW₁ => ⟨by show cells + 0 ≤ _; omega, by show slots + 0 ≤ _; omega, rfl, by show (T.setVm vm₁).heap.size = _; rw [show (T.setVm vm₁).heap = H from hT], by rw [show (T.setVm vm₁).heap = H from hT]; exact w2, va_K.moved (show s.vm.Alike (T.setVm vm₁).vm from State.WarmedH.alike hW₁) w4, w3.weaken (fun _ _ _ _ => trivial), zi_NW.warm (U := T.setVm vm₁) hW₁ X.2.2.2.2.2.1⟩)
  dsimp only [Pt.U, Pt.locs, Pt.cells, Pt.slots] at X' o1 o2 o3 o4 o5 st
  subst o3
  subst o4
  subst o5
  obtain ⟨⟨v, w', ws', hvv, hcp, b2, b4, b5, b6⟩, hz, hk⟩ := hq
  cases hvv
  have hh0 : ((T.setVm vm₁).calling g' mk vs.toArray).heap = H := hT
  rw [hh0] at hz hk
  have fin : ci_R s nL D A b (ws.map (·.1)) tys (lc, v.toList ++ rest, w') U'.heap (locs ++ L) ls ((ci_rv b (ws.map (·.1)) v).toList ++ rest.map (ci_t b (ws.map (·.1)))) := by
    refine ⟨ws', hlv, ?_, b2, by rw [o1]; exact b4, b6.weaken (fun k q _ h => hF q.1 h), va_K.moved (show t.vm.Alike s.vm from (by rw [← o2]; exact X'.warmed.alike.symm)) b5, ?_⟩
    · show _ = List.map _ (v.toList ++ rest)
      rw [List.map_append]
      cases v <;> rfl
    · refine ⟨Nat.le_trans w5.1 (by rw [o1]; exact hz), fun q z1 z2 => ?_, fun q hq => ?_⟩
      · rw [o1, hk q (Nat.lt_of_lt_of_le z1 w5.1) (fun z => z2 (hF q z))]
        exact w5.2.1 q z1 z2
      · rcases List.mem_append.mp hq with h | h
        · exact w5.2.2 q h
        · exact hF _ (hL q h)
  obtain ⟨t2, r1, r2⟩ := k v w' hcp p l e R s m args below meth c D A b (ws.map (·.1)) tys X Q _ _ _ _ ls _ hcl hsl fin kk U' rfl X'
  exact ⟨t2, st t2 r1, r2⟩
end CT
theorem ci_sl_len : ∀ (b : Nat) (ads : List Nat) (vs : List Value), (lg_sl (vs.map (ci_t b ads))).length = (lg_sl vs).length
  | _, _, [] => rfl
  | b, ads, v :: vs => by
    have t := ci_sl_len b ads vs
    unfold lg_sl at t ⊢
    rw [List.map_cons, List.flatMap_cons, List.flatMap_cons, List.length_append, List.length_append, t, ci_t_cat]
    split <;> rfl
theorem ci_args_map : ∀ (b : Nat) (ads : List Nat) (vs : List Value) (i : Nat), lv_args i (vs.map (ci_t b ads)) = (lv_args i vs).map (fun q => (q.1, ci_t b ads q.2))
  | _, _, [], _ => rfl
  | b, ads, v :: vs, i => by
    rw [List.map_cons]
    unfold lv_args
    rw [List.map_cons, ci_t_cat, ci_args_map b ads vs]
/-- a method's contract out of its frame's run -/
theorem ci_met {d mL : Nat} {y' : MethodName} {cc' : ByteArray} {ret' : Option FieldType} {t' : zi_T} {as : List Value} {w : ci_W} {CP : Option Value → ci_W → Prop} (hpl : plainName y'.cls = true) (hwt : (lg_sl as).length ≤ mL) (hrv : ∀ v w', CP v w' → match ret', v with
      | none, none => True
      | some .int, some (.int _) => True
      | some .boolean, some (.int x) => x = 0 ∨ x = 1
      | some .long, some (.long _) => True
      | some (.object _), some (.ref _) => True
      | some (.object _), some .null => True
      | _, _ => False) (hT : ci_T y' cc' mL ret' d 0 (lv_args 0 as, [], w) CP) : ci_Met d (y', cc', mL, ret', t', 0, 0) as w CP := by
  intro l b D ws tys sz hw
  refine Met.ofW (cc := cc') (maxL := mL) (ret := ret') hpl rfl ?_
  intro p e s m args below meth c s₁ B hml hv
  obtain ⟨rfl, rfl, hP, hK, hD, hN⟩ := hv
  have hts := atoms_spec (ws := Cond.code y' cc' mL ret' :: zi_G) B.pre
  have X : ci_X p (zi_rm d 0 0) s m (as.map (ci_t b (ws.map (·.1)))).toArray meth c y' cc' mL (va_A ws s.heap.size) d := ⟨B.exec, B.bytes, hml, findClass_of_methodNamed B.named, fun w hw => hts w (List.mem_cons_of_mem _ hw), hN, fun q h => Or.inr h, ⟨Nat.le_refl _, Nat.le_refl _⟩, fun h => (name_of_methodNamed B.named B.method).1.trans h, trivial⟩
  have hl := lv_entry (as.map (ci_t b (ws.map (·.1)))) (n := mL) (by rw [ci_sl_len]; exact hwt)
  rw [lg_entry_eq]
  generalize (lg_sl (as.map (ci_t b (ws.map (·.1)))) ++ List.replicate (mL - (lg_sl (as.map (ci_t b (ws.map (·.1))))).length) Slot.unset).toArray = ls at hl ⊢
  rw [ci_args_map] at hl
  refine hT p l e (zi_rm d 0 0) s m _ below meth c D (va_A ws s.heap.size) b (ws.map (·.1)) tys X _ s.heap [] 0 0 ls [] (Nat.le_refl _) (Nat.le_refl _) ⟨ws, hl, rfl, hw, hP, hD.self, hK, va_S.rf⟩ ?_
  intro H' locs' pc' ls' v w' ws' hdg hcp hRW
  obtain ⟨w1, w2, w3, w4, w5⟩ := hRW
  have hq : ∀ t : State, t.heap = H' → s.WarmedH t.vm → ci_Q b D tys CP ws s.heap.size (as.map (ci_t b (ws.map (·.1)))).toArray s (.returned (ci_rv b (ws.map (·.1)) v)) t := fun t ht hW => ⟨⟨v, w', ws', rfl, hcp, w1, by rw [ht]; exact w2, va_K.moved hW.alike w4, w3⟩, w5.F ht⟩
  have hlk := B.notSynchronized
  have hrt := B.returns
  have hty := hrv v w' hcp
  split at hty
  · exact W.vret B.exec B.bytes hrt (fun t ht hW => hq t ht hW) w5.2.2 hdg hlk
  · exact W.iret B.exec B.bytes hrt (fun t ht hW => hq t ht hW) w5.2.2 hdg hlk
  · rename_i x
    have hnf : narrow .boolean (.int x) = .int x := by rcases hty with rfl | rfl <;> decide
    exact W.zret B.exec B.bytes hrt hnf (fun t ht hW => hq t ht hW) w5.2.2 hdg hlk
  · exact W.lret B.exec B.bytes hrt (fun t ht hW => hq t ht hW) w5.2.2 hdg hlk
  · rename_i cn q
    cases q <;> exact W.aret B.exec B.bytes hrt (Or.inl ⟨cn, rfl⟩) (Or.inr ⟨_, rfl⟩) (fun t ht hW => hq t ht hW) w5.2.2 hdg hlk
  · rename_i cn
    exact W.aret B.exec B.bytes hrt (Or.inl ⟨cn, rfl⟩) (Or.inl rfl) (fun t ht hW => hq t ht hW) w5.2.2 hdg hlk
  · exact hty.elim
