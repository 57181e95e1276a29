/-! the law's own frame (by program out of part a2), its script beside it -/
def lw_S (L : Nat) (xs : Nat → Int32) (b : Nat) (A : Nat → Prop) (s : State) : Prop := va_X b L xs s s.heap ∧ b < s.heap.size ∧ ¬ A b
def sx (xs : Nat → Int32) (e : Int) : Int := (xs e.toNat).toInt
theorem sx_R (xs : Nat → Int32) (e : Int) : inR (sx xs e) := R_toInt _
def cl_T (K V : Nat → Nat) (L : Nat) (xs : Nat → Int32) (Bp : Nat → Prop) (y : MethodName) (cc : ByteArray) (nL : Nat) (ret : Option FieldType) (d pc : Nat) (st : ci_S) (Post : Option Value → ci_W → Prop) : Prop :=
  ∀ (p : Program) (l : Launch) (e : Env) (R : Room) (s : State) (m : MethodId) (args : Array Value) (below : List Frame) (meth : Method) (c : Code) (D : va_G) (A : Nat → Prop) (b : Nat) (ads : List Nat) (tys : List (ClassId × FieldType)), ci_X p R s m args meth c y cc nL A d → Bp b → (ss_W K V A s s.heap ∧ lw_S L xs b A s) →
    ∀ (Q : State → Prop) (H : Heap) (locs : List Loc) (cells slots : Nat) (ls : Array Slot) (sk : List Value), cells ≤ R.cells → slots ≤ R.slots → ci_R s nL D A b ads tys st H locs ls sk →
      (∀ (H' : Heap) (locs' : List Loc) (pc' : Nat) (ls' : Array Slot) (v : Option Value) (w' : ci_W) (ws' : va_W), decode cc pc' = .ok (zi_rop ret, 1) → Post v w' → ci_RW s D A b ads w' ws' tys H' locs' → W p l e R s m args below meth c H' locs' cells slots Q (F0 m pc' ls' ((ci_rv b ads v).toList))) →
      W p l e R s m args below meth c H locs cells slots Q (F0 m pc ls sk)
section CLT
variable {K V : Nat → Nat} {L : Nat} {xs : Nat → Int32} {Bp : Nat → Prop} {y : MethodName} {cc : ByteArray} {nL : Nat} {ret : Option FieldType} {d pc tg nx : Nat} {st : ci_S} {Post : Option Value → ci_W → Prop}
theorem cl_T.step {f : ci_F} {pc' : Nat} {st' : ci_S} (hf : ci_ok y cc nL pc f) (h : f st = some (pc', st')) (k : cl_T K V L xs Bp y cc nL ret d pc' st' Post) : cl_T K V L xs Bp y cc nL ret d pc st Post := by
  intro p l e R s m args below meth c D A b ads tys X hBb hSW Q H locs cells slots ls sk hc hs hR kk
  exact hf p l e R s m args below meth c D A b d ads tys X st pc' st' h Q H locs cells slots ls sk hR (fun H' locs' ls' sk' hR' => k p l e R s m args below meth c D A b ads tys X hBb hSW Q H' locs' cells slots ls' sk' hc hs hR' kk)
theorem cl_T.done {lc : ci_L} {v : Option Value} {w : ci_W} (hd : decode cc pc = .ok (zi_rop ret, 1)) (hp : Post v w) : cl_T K V L xs Bp y cc nL ret d pc (lc, v.toList, w) Post := by
  intro p l e R s m args below meth c D A b ads tys X hBb hSW Q H locs cells slots ls sk hc hs hR kk
  obtain ⟨ws, hl, rfl, hw⟩ := hR
  have h := kk H locs pc ls v w ws hd hp hw
  cases v with
  | none => exact h
  | some x => exact h
theorem cl_T.call {n mL : Nat} {y' : MethodName} {cc' : ByteArray} {ret' : Option FieldType} {ci : Option Nat} {t' : zi_T} {lc : ci_L} {as rest : List Value} {w : ci_W} {CP : Option Value → ci_W → Prop} (hcode : Cond.code y' cc' mL ret' ∈ zi_G) (hini : Cond.initialized y'.cls ∈ zi_G) (hmL : mL ≤ 19) (hcall : ci_calls y cc nL pc y' n ci) (hn : as.length = n) (hrest : (rest.map fun v => v.category).sum ≤ 20) (hrc : ci_recv w as ci) (hM : ci_Met d (y', cc', mL, ret', t', 0, 0) as w CP)
    (k : ∀ (v : Option Value) (w' : ci_W), CP v w' → cl_T K V L xs Bp y cc nL ret (d + 1) (pc + 3) (lc, v.toList ++ rest, w') Post) : cl_T K V L xs Bp y cc nL ret (d + 1) pc (lc, as.reverse ++ rest, w) Post := by
  intro p l e R s m args below meth c D A b ads tys X hBb hSW Q H locs cells slots ls sk hcl hsl hR kk
  obtain ⟨ws, hlv, rfl, hw⟩ := hR
  obtain ⟨w1, w2, w3, w4, w5⟩ := hw
  dsimp only at w1
  have had := w1.1
  subst had
  obtain ⟨vs, hvs⟩ : ∃ vs : List Value, vs = as.map (ci_t b (ws.map (·.1))) := ⟨_, rfl⟩
  have hM' := hM l b D ws tys H.size w1
  rw [← hvs] at hM'
  have hx := X.2.2.2.2.2.2.2.1
  have hF : ∀ q, va_A ws H.size q → A q := by
    intro q hq
    rcases hq with ⟨k, en, hk⟩ | hq
    · exact w3.2 k _ hk
    · exact X.2.2.2.2.2.2.1 q (Nat.le_trans w5.1 hq)
  have hrec : zi_rec s H vs ci := by
    cases ci with
    | none => trivial
    | some c0 =>
      obtain ⟨⟨r, hr⟩, q, tl, fv, e1, e2⟩ := hrc
      obtain ⟨a, e0, he, hg, hta⟩ := w1.ref e2
      have hg' : e0 = .inr (c0, fv.map (ci_t b (ws.map (·.1)))) := hg
      rw [hg'] at he
      obtain ⟨cell, f1, f2, f3⟩ := va_recv w4 w2 hr he
      exact ⟨r, hr, a, tl.map (ci_t b (ws.map (·.1))), cell, by rw [hvs, e1, List.map_cons, hta], f1, f2, f3⟩
  have hblind : FrameBlind (va_Pc vs (ci_B D ws tys H.size)) := by
    intro aa U g mk q
    obtain ⟨r1, r2, r3, r4, r5, r6⟩ := q
    exact ⟨r1, r2, r3, va_K.moved (u := U) (U := U.calling g mk aa) (Vm.Alike.refl U.vm) r4, r5, zi_NW.same (u := U) rfl r6⟩
  have hstk : (as.reverse ++ rest).map (ci_t b (ws.map (·.1))) = vs.reverse ++ rest.map (ci_t b (ws.map (·.1))) := by
    rw [List.map_append, List.map_reverse, ← hvs]
  dsimp only
  rw [hstk]
  intro T hT XS
  have hK : Back l R p e below s args y' 3 30 (PreOf R 0 0 (va_Pc vs (ci_B D ws tys H.size))) (PostOf (ci_Q b D tys CP ws H.size) 0 0 (va_A ws H.size)) := back_of (bytes := cc') (maxL := mL) (ret := ret') hM' hblind rfl rfl (by show d + 1 + 1 ≤ _; omega) (by show 30 + (mL + 11) + (60 * d + 60) ≤ _; omega) (pay_in X.2.2.2.2.1 (fun w hw => (List.mem_cons.mp hw).elim (fun h => by rw [h]; exact zi_G_good _ hcode) (fun h => zi_G_good _ h))) List.mem_cons_self (pay_in X.2.2.2.2.1 zi_G_good _ hini)
  obtain ⟨vv, vm₁, ⟨U', l2, c2, s2⟩, hW₁, X', ⟨g', mk, t, LL, o1, o2, hq, o3, hL, o4, o5⟩, st⟩ := hcall p l e R s m args below meth c A 0 (d + 1) none X T locs cells slots XS _ _ hK ls vs (rest.map (ci_t b (ws.map (·.1)))) (hlv.1.trans X.2.2.1.symm) (by rw [hvs, List.length_map]; exact hn) (by rw [hT]; exact hrec) (by rw [ci_sum]; exact hrest) (fun vm₁ hW₁ => ⟨by show cells + 0 ≤ _; omega, by show slots + 0 ≤ _; omega, rfl, by show (T.setVm vm₁).heap.size = _; rw [show (T.setVm vm₁).heap = H from hT], by rw [show (T.setVm vm₁).heap = H from hT]; exact w2, va_K.moved (show s.vm.Alike (T.setVm vm₁).vm from State.WarmedH.alike hW₁) w4, w3.weaken (fun _ _ _ _ => trivial), zi_NW.warm (U := T.setVm vm₁) hW₁ X.2.2.2.2.2.1⟩)
  dsimp only [Pt.U, Pt.locs, Pt.cells, Pt.slots] at X' o1 o2 o3 o4 o5 st
  subst o3
  subst o4
  subst o5
  obtain ⟨⟨v, w', ws', hvv, hcp, b2, b4, b5, b6⟩, hz, hk⟩ := hq
  cases hvv
  have hh0 : ((T.setVm vm₁).calling g' mk vs.toArray).heap = H := hT
  rw [hh0] at hz hk
  have fin : ci_R s nL D A b (ws.map (·.1)) tys (lc, v.toList ++ rest, w') U'.heap (locs ++ LL) ls ((ci_rv b (ws.map (·.1)) v).toList ++ rest.map (ci_t b (ws.map (·.1)))) := by
    refine ⟨ws', hlv, ?_, b2, by rw [o1]; exact b4, b6.weaken (fun k q _ h => hF q.1 h), va_K.moved (show t.vm.Alike s.vm from (by rw [← o2]; exact X'.warmed.alike.symm)) b5, ?_⟩
    · show _ = List.map _ (v.toList ++ rest)
      rw [List.map_append]
      cases v <;> rfl
    · refine ⟨Nat.le_trans w5.1 (by rw [o1]; exact hz), fun q z1 z2 => ?_, fun q hq => ?_⟩
      · rw [o1, hk q (Nat.lt_of_lt_of_le z1 w5.1) (fun z => z2 (hF q z))]
        exact w5.2.1 q z1 z2
      · rcases List.mem_append.mp hq with h | h
        · exact w5.2.2 q h
        · exact hF _ (hL q h)
  obtain ⟨t2, r1, r2⟩ := k v w' hcp p l e R s m args below meth c D A b (ws.map (·.1)) tys X hBb hSW Q _ _ _ _ ls _ hcl hsl fin kk U' rfl X'
  exact ⟨t2, st t2 r1, r2⟩
theorem cl_T.callS {n mL : Nat} {y' : MethodName} {cc' : ByteArray} {ret' : Option FieldType} {ci : Option Nat} {t' : zi_T} {lc : ci_L} {as rest : List Value} {w : ci_W} {CP : Option Value → ci_W → Prop} (hcode : Cond.code y' cc' mL ret' ∈ zi_G) (hini : Cond.initialized y'.cls ∈ zi_G) (hmL : mL ≤ 19) (hcall : ci_calls y cc nL pc y' n ci) (hn : as.length = n) (hrest : (rest.map fun v => v.category).sum ≤ 20) (hrc : ci_recv w as ci) (hM : cs_Met K V Bp d (y', cc', mL, ret', t', 0, 0) as w CP)
    (k : ∀ (v : Option Value) (w' : ci_W), CP v w' → cl_T K V L xs Bp y cc nL ret (d + 1) (pc + 3) (lc, v.toList ++ rest, w') Post) : cl_T K V L xs Bp y cc nL ret (d + 1) pc (lc, as.reverse ++ rest, w) Post := by
  intro p l e R s m args below meth c D A b ads tys X hBb hSW Q H locs cells slots ls sk hcl hsl hR kk
  obtain ⟨ws, hlv, rfl, hw⟩ := hR
  obtain ⟨w1, w2, w3, w4, w5⟩ := hw
  dsimp only at w1
  have had := w1.1
  subst had
  obtain ⟨vs, hvs⟩ : ∃ vs : List Value, vs = as.map (ci_t b (ws.map (·.1))) := ⟨_, rfl⟩
  have hM' := hM l b D ws tys H.size hBb w1
  rw [← hvs] at hM'
  have hx := X.2.2.2.2.2.2.2.1
  have hF : ∀ q, va_A ws H.size q → A q := by
    intro q hq
    rcases hq with ⟨k, en, hk⟩ | hq
    · exact w3.2 k _ hk
    · exact X.2.2.2.2.2.2.1 q (Nat.le_trans w5.1 hq)
  have hrec : zi_rec s H vs ci := by
    cases ci with
    | none => trivial
    | some c0 =>
      obtain ⟨⟨r, hr⟩, q, tl, fv, e1, e2⟩ := hrc
      obtain ⟨a, e0, he, hg, hta⟩ := w1.ref e2
      have hg' : e0 = .inr (c0, fv.map (ci_t b (ws.map (·.1)))) := hg
      rw [hg'] at he
      obtain ⟨cell, f1, f2, f3⟩ := va_recv w4 w2 hr he
      exact ⟨r, hr, a, tl.map (ci_t b (ws.map (·.1))), cell, by rw [hvs, e1, List.map_cons, hta], f1, f2, f3⟩
  have hblind : FrameBlind (va_Pc vs (cs_B K V D ws tys H.size)) := by
    intro aa U g mk q
    obtain ⟨r1, ⟨r2, r3, r4, r5, r6⟩, r7⟩ := q
    exact ⟨r1, ⟨r2, r3, va_K.moved (u := U) (U := U.calling g mk aa) (Vm.Alike.refl U.vm) r4, r5, zi_NW.same (u := U) rfl r6⟩, ss_W.same (u := U) (U := U.calling g mk aa) rfl rfl r7⟩
  have hstk : (as.reverse ++ rest).map (ci_t b (ws.map (·.1))) = vs.reverse ++ rest.map (ci_t b (ws.map (·.1))) := by
    rw [List.map_append, List.map_reverse, ← hvs]
  dsimp only
  rw [hstk]
  intro T hT XS
  have hK : Back l R p e below s args y' 3 30 (PreOf R 0 0 (va_Pc vs (cs_B K V D ws tys H.size))) (PostOf (ci_Q b D tys CP ws H.size) 0 0 (va_A ws H.size)) := back_of (bytes := cc') (maxL := mL) (ret := ret') hM' hblind rfl rfl (by show d + 1 + 1 ≤ _; omega) (by show 30 + (mL + 11) + (60 * d + 60) ≤ _; omega) (pay_in X.2.2.2.2.1 (fun w hw => (List.mem_cons.mp hw).elim (fun h => by rw [h]; exact zi_G_good _ hcode) (fun h => zi_G_good _ h))) List.mem_cons_self (pay_in X.2.2.2.2.1 zi_G_good _ hini)
  obtain ⟨vv, vm₁, ⟨U', l2, c2, s2⟩, hW₁, X', ⟨g', mk, t, LL, o1, o2, hq, o3, hL, o4, o5⟩, st⟩ := hcall p l e R s m args below meth c A 0 (d + 1) none X T locs cells slots XS _ _ hK ls vs (rest.map (ci_t b (ws.map (·.1)))) (hlv.1.trans X.2.2.1.symm) (by rw [hvs, List.length_map]; exact hn) (by rw [hT]; exact hrec) (by rw [ci_sum]; exact hrest) (fun vm₁ hW₁ => ⟨by show cells + 0 ≤ _; omega, by show slots + 0 ≤ _; omega, rfl, ⟨by show (T.setVm vm₁).heap.size = _; rw [show (T.setVm vm₁).heap = H from hT], by rw [show (T.setVm vm₁).heap = H from hT]; exact w2, va_K.moved (show s.vm.Alike (T.setVm vm₁).vm from State.WarmedH.alike hW₁) w4, w3.weaken (fun _ _ _ _ => trivial), zi_NW.warm (U := T.setVm vm₁) hW₁ X.2.2.2.2.2.1⟩, ss_W.go (U := T.setVm vm₁) hSW.1 hW₁ (fun a a0 a1 => by rw [show (T.setVm vm₁).heap = H from hT]; exact w5.2.1 a a0 a1) hF⟩)
  dsimp only [Pt.U, Pt.locs, Pt.cells, Pt.slots] at X' o1 o2 o3 o4 o5 st
  subst o3
  subst o4
  subst o5
  obtain ⟨⟨v, w', ws', hvv, hcp, b2, b4, b5, b6⟩, hz, hk⟩ := hq
  cases hvv
  have hh0 : ((T.setVm vm₁).calling g' mk vs.toArray).heap = H := hT
  rw [hh0] at hz hk
  have fin : ci_R s nL D A b (ws.map (·.1)) tys (lc, v.toList ++ rest, w') U'.heap (locs ++ LL) ls ((ci_rv b (ws.map (·.1)) v).toList ++ rest.map (ci_t b (ws.map (·.1)))) := by
    refine ⟨ws', hlv, ?_, b2, by rw [o1]; exact b4, b6.weaken (fun k q _ h => hF q.1 h), va_K.moved (show t.vm.Alike s.vm from (by rw [← o2]; exact X'.warmed.alike.symm)) b5, ?_⟩
    · show _ = List.map _ (v.toList ++ rest)
      rw [List.map_append]
      cases v <;> rfl
    · refine ⟨Nat.le_trans w5.1 (by rw [o1]; exact hz), fun q z1 z2 => ?_, fun q hq => ?_⟩
      · rw [o1, hk q (Nat.lt_of_lt_of_le z1 w5.1) (fun z => z2 (hF q z))]
        exact w5.2.1 q z1 z2
      · rcases List.mem_append.mp hq with h | h
        · exact w5.2.2 q h
        · exact hF _ (hL q h)
  obtain ⟨t2, r1, r2⟩ := k v w' hcp p l e R s m args below meth c D A b (ws.map (·.1)) tys X hBb hSW Q _ _ _ _ ls _ hcl hsl fin kk U' rfl X'
  exact ⟨t2, st t2 r1, r2⟩
theorem cl_T.sub {l l' : ci_L} {sk : List Value} {w : ci_W} (ps : List Nat) (k : cl_T K V L xs Bp y cc nL ret d pc (l', sk, w) Post) (h : lv_pick l ps = l') : cl_T K V L xs Bp y cc nL ret d pc (l, sk, w) Post := by
  intro p l0 e R s m args below meth c D A b ads tys X hBb hSW Q H locs cells slots ls sk' hc hs hR kk
  obtain ⟨ws, hl, hsk, hw⟩ := hR
  refine k p l0 e R s m args below meth c D A b ads tys X hBb hSW Q H locs cells slots ls sk' hc hs ⟨ws, ⟨hl.1, hl.2.1, fun q hq => ?_⟩, hsk, hw⟩ kk
  obtain ⟨q0, hq0, rfl⟩ := List.mem_map.mp hq
  subst h
  obtain ⟨j, -, hj⟩ := List.mem_filterMap.mp hq0
  exact hl.2.2 _ (List.mem_map.mpr ⟨q0, List.mem_of_getElem? hj, rfl⟩)
theorem cl_pbr {α : Type} {P : Prop} [Decidable P] {A B : Option α} {r : α} {st : ci_S} (h : (if P then A else B) = some r) (h1 : P → A = some r → cl_T K V L xs Bp y cc nL ret d tg st Post) (h2 : ¬ P → B = some r → cl_T K V L xs Bp y cc nL ret d nx st Post) : cl_T K V L xs Bp y cc nL ret d (bif decide P then tg else nx) st Post := by
  by_cases c : P
  · rw [if_pos c] at h; rw [decide_eq_true c]; exact h1 c h
  · rw [if_neg c] at h; rw [decide_eq_false c]; exact h2 c h
theorem cl_pbrn {α : Type} {P : Prop} [Decidable P] {A B : Option α} {r : α} {st : ci_S} (h : (if P then B else A) = some r) (h1 : ¬ P → A = some r → cl_T K V L xs Bp y cc nL ret d tg st Post) (h2 : P → B = some r → cl_T K V L xs Bp y cc nL ret d nx st Post) : cl_T K V L xs Bp y cc nL ret d (bif !decide P then tg else nx) st Post := by
  by_cases c : P
  · rw [if_pos c] at h; rw [decide_eq_true c]; exact h2 c h
  · rw [if_neg c] at h; rw [decide_eq_false c]; exact h1 c h
end CLT
section CLS
variable {K V : Nat → Nat} {L : Nat} {xs : Nat → Int32} {Bp : Nat → Prop} {y : MethodName} {cc : ByteArray} {nL : Nat} {ret : Option FieldType} {d pc nx : Nat} {Post : Option Value → ci_W → Prop}
theorem cl_slen {lc : ci_L} {rest : List Value} {w : ci_W} (hd : decode cc pc = .ok (.arraylength, 1)) (hn : pc + 1 = nx) (k : cl_T K V L xs Bp y cc nL ret d nx (lc, .int (Int32.ofInt (L : Int)) :: rest, w) Post) : cl_T K V L xs Bp y cc nL ret d pc (lc, .ref 0 :: rest, w) Post := by
  subst hn
  intro p l e R s m args below meth c D A b ads tys X hBb hSW Q H locs cells slots ls sk hc hs hR kk
  obtain ⟨ws, hlv, rfl, hw⟩ := hR
  obtain ⟨s1, s2, s3⟩ := hSW.2
  exact va_slen X.1 X.2.1 s1 s2 s3 hw.2.2.2.2 hd (k p l e R s m args below meth c D A b ads tys X hBb hSW Q H locs cells slots ls _ hc hs ⟨ws, hlv, rfl, hw⟩ kk)
theorem cl_sld {lc : ci_L} {rest : List Value} {w : ci_W} {i : Int} (hd : decode cc pc = .ok (.iaload, 1)) (hn : pc + 1 = nx) (hL : L < 2147483648) (h : 0 ≤ i ∧ i < (L : Int)) (k : cl_T K V L xs Bp y cc nL ret d nx (lc, .int (Int32.ofInt (sx xs i)) :: rest, w) Post) : cl_T K V L xs Bp y cc nL ret d pc (lc, .int (Int32.ofInt i) :: .ref 0 :: rest, w) Post := by
  subst hn
  intro p l e R s m args below meth c D A b ads tys X hBb hSW Q H locs cells slots ls sk hc hs hR kk
  obtain ⟨ws, hlv, rfl, hw⟩ := hR
  obtain ⟨s1, s2, s3⟩ := hSW.2
  have en : (Int32.ofInt i).toNatClampNeg = i.toNat := by
    show (Int32.ofInt i).toInt.toNat = i.toNat
    rw [R_ofInt ⟨by omega, by omega⟩]
  have e0 : Int32.ofInt (sx xs i) = xs (Int32.ofInt i).toNatClampNeg := by
    unfold sx
    rw [en, Int32.ofInt_toInt]
  have k' := k p l e R s m args below meth c D A b ads tys X hBb hSW Q H locs cells slots ls _ hc hs ⟨ws, hlv, rfl, hw⟩ kk
  have hin : vp_in (Int32.ofInt i) L := by
    intro z
    rcases z with z | z
    · have := Int32.lt_iff_toInt_lt.mp z
      rw [R_ofInt ⟨by omega, by omega⟩] at this
      have : i < 0 := this
      omega
    · rw [en] at z
      omega
  refine va_sld X.1 X.2.1 s1 s2 s3 hw.2.2.2.2 hin hd ?_
  rw [← e0]
  exact k'
theorem cl_pop2 {lc : ci_L} {rest : List Value} {w : ci_W} {x : Int64} (hd : decode cc pc = .ok (.pop2, 1)) (hn : pc + 1 = nx) (k : cl_T K V L xs Bp y cc nL ret d nx (lc, rest, w) Post) : cl_T K V L xs Bp y cc nL ret d pc (lc, .long x :: rest, w) Post := by
  subst hn
  intro p l e R s m args below meth c D A b ads tys X hBb hSW Q H locs cells slots ls sk hc hs hR kk
  obtain ⟨ws, hlv, rfl, hw⟩ := hR
  exact lv_pop2_2 X.1 X.2.1 hd rfl (k p l e R s m args below meth c D A b ads tys X hBb hSW Q H locs cells slots ls _ hc hs ⟨ws, hlv, rfl, hw⟩ kk)
end CLS
