/-! THE STRINGS: seven literals of Draft, and what their methods answer; the heap stays as it was -/
def ss_len : List Nat := [5, 3, 6, 4, 6, 3, 4]
def ss_byt : List (List Int32) := [[112, 108, 97, 105, 110], [114, 111, 119], [115, 112, 114, 105, 110, 103], [102, 97, 114, 109], [103, 114, 111, 117, 110, 100], [108, 97, 119], [115, 105, 108, 116]]
def ss_ix : List Nat := [78, 87, 92, 96, 101, 105, 109]
def ss_tx : List String := ["plain", "row", "spring", "farm", "ground", "law", "silt"]
def ss_W (K V : Nat → Nat) (A : Nat → Prop) (U : State) (H : Heap) : Prop := vk_S 7 ss_len ss_byt K V A U H ∧ (∀ i, i < 7 → vk_R "RiverDiggers$Draft" (ss_ix.getD i 0) (ss_tx.getD i "") (K i) U) ∧ va_Z "java/lang/String" "COMPACT_STRINGS" "Z" (.int 1) A U H ∧ va_Zq "jdk/internal/util/Preconditions" "SIOOBE_FORMATTER" "Ljava/util/function/BiFunction;" A U H
theorem ss_W.go {K V : Nat → Nat} {A B : Nat → Prop} {s U : State} (h : ss_W K V A s s.heap) (hW : s.WarmedH U.vm) (hq : ∀ a : Nat, a < s.heap.size → ¬ A a → U.heap[a]? = s.heap[a]?) (hB : ∀ q, B q → A q) : ss_W K V B U U.heap :=
  ⟨vk_S.moved (State.WarmedH.alike hW) ((h.1.kept hq).narrow hB), fun i hi => (h.2.1 i hi).warm hW, va_Z.moved (State.WarmedH.alike hW) ((h.2.2.1.kept hq).narrow hB), va_Zq.moved (State.WarmedH.alike hW) ((h.2.2.2.kept hq).narrow hB)⟩
theorem ss_W.same {K V : Nat → Nat} {A : Nat → Prop} {u U : State} (hv : U.vm = u.vm) (hh : U.heap = u.heap) (h : ss_W K V A u u.heap) : ss_W K V A U U.heap := by
  have ha : u.vm.Alike U.vm := by rw [hv]; exact Vm.Alike.refl _
  rw [hh]
  exact ⟨vk_S.moved ha h.1, fun i hi => vk_R.same hv (h.2.1 i hi), va_Z.moved ha h.2.2.1, va_Zq.moved ha h.2.2.2⟩
theorem ss_W.narrow {K V : Nat → Nat} {A B : Nat → Prop} {U : State} {H : Heap} (h : ss_W K V A U H) (hB : ∀ q, B q → A q) : ss_W K V B U H := ⟨h.1.narrow hB, h.2.1, h.2.2.1.narrow hB, h.2.2.2.narrow hB⟩
def ss_Q (r : Option Value) : Array Value → State → Outcome → State → Prop := fun _ st oc t => oc = .returned r ∧ t.heap = st.heap
def ss_B (K V : Nat → Nat) : State → Prop := fun U => ss_W K V (fun q => U.heap.size ≤ q) U U.heap ∧ zi_NW U
def ss_Met (K V : Nat → Nat) (d : Nat) (y : MethodName) (cc : ByteArray) (mL : Nat) (ret : Option FieldType) (as : List Value) (r : Option Value) : Prop := ∀ l : Launch, Met l y (Cond.code y cc mL ret :: zi_G) (zi_rm d 0 0) (va_Pc as (ss_B K V)) (ss_Q r) 0 0 (fun _ => False)
section SSC
variable {p : Program} {l : Launch} {e : Env} {R : Room} {s : State} {m : MethodId} {args : Array Value} {below : List Frame} {meth : Method} {c : Code} {H : Heap} {locs : List Loc} {cells slots : Nat} {Q : State → Prop} {ls : Array Slot}
variable {K V : Nat → Nat} {y : MethodName} {cc : ByteArray} {nL d pc mL : Nat} {y' : MethodName} {cc' : ByteArray} {ret' : Option FieldType} {A : Nat → Prop} {b : Nat} {sc : Option (List zi_V)} {vs rest : List Value} {r : Option Value}
theorem ss_call (hcode : Cond.code y' cc' mL ret' ∈ zi_G) (hini : Cond.initialized y'.cls ∈ zi_G) (hmL : mL ≤ 19) (hM : ss_Met K V d y' cc' mL ret' vs r) (X : zi_X p R s m args meth c y cc nL A b sc (d + 1)) (hcl : cells ≤ R.cells) (hsl : slots ≤ R.slots) (hS : va_S A s.heap H locs) (hW : ss_W K V A s s.heap)
    (hcall : ∀ T : State, T.heap = H → Stand p l e R s m args below meth c T locs cells slots → ∀ (Pre : Pt → Array Value → Prop) (Post : Pt → Array Value → Option Value → Pt → Prop), Back l R p e below s args y' 3 30 Pre Post → (∀ vm₁, s.WarmedH vm₁ → Pre ⟨T.setVm vm₁, locs, cells, slots⟩ vs.toArray) → zi_gives p l e R s m args below meth c T locs cells slots Post vs rest pc ls)
    (k : W p l e R s m args below meth c H locs cells slots Q (F0 m (pc + 3) ls (r.toList ++ rest))) : W p l e R s m args below meth c H locs cells slots Q (F0 m pc ls (vs.reverse ++ rest)) := by
  have hM' := hM l
  have hx := X.2.2.2.2.2.2.2.1
  have hblind : FrameBlind (va_Pc vs (ss_B K V)) := by
    intro aa U g mk q
    obtain ⟨r1, r2, r3⟩ := q
    exact ⟨r1, ss_W.same (u := U) (U := U.calling g mk aa) rfl rfl r2, zi_NW.same (u := U) rfl r3⟩
  intro T hT XS
  have hK : Back l R p e below s args y' 3 30 (PreOf R 0 0 (va_Pc vs (ss_B K V))) (PostOf (ss_Q r) 0 0 (fun _ => False)) := back_of (bytes := cc') (maxL := mL) (ret := ret') hM' hblind rfl rfl (by show d + 1 + 1 ≤ _; omega) (by show 30 + (mL + 11) + (60 * d + 60) ≤ _; omega) (pay_in X.2.2.2.2.1 (fun w hw => (List.mem_cons.mp hw).elim (fun h => by rw [h]; exact zi_G_good _ hcode) (fun h => zi_G_good _ h))) List.mem_cons_self (pay_in X.2.2.2.2.1 zi_G_good _ hini)
  obtain ⟨vv, vm₁, ⟨U', l2, c2, s2⟩, hW₁, X', ⟨g', mk, t, L, o1, o2, hq, o3, hL, o4, o5⟩, st⟩ := hcall T hT XS _ _ hK (fun vm₁ hW₁ => ⟨by show cells + 0 ≤ _; omega, by show slots + 0 ≤ _; omega, rfl, ss_W.go (U := T.setVm vm₁) hW hW₁ (fun a a0 a1 => by rw [show (T.setVm vm₁).heap = H from hT]; exact hS.2.1 a a0 a1) (fun q hq => X.2.2.2.2.2.2.1 q (Nat.le_trans hS.1 (by rw [show (T.setVm vm₁).heap = H from hT] at hq; exact hq))), zi_NW.warm (U := T.setVm vm₁) hW₁ X.2.2.2.2.2.1⟩)
  dsimp only [Pt.U, Pt.locs, Pt.cells, Pt.slots] at X' o1 o2 o3 o4 o5 st
  subst o3
  subst o4
  subst o5
  obtain ⟨hvv, hh⟩ := hq
  cases hvv
  have hh0 : ((T.setVm vm₁).calling g' mk vs.toArray).heap = H := hT
  rw [hh0] at hh
  have eL : L = [] := List.eq_nil_iff_forall_not_mem.mpr (fun q hq => hL q hq)
  subst eL
  rw [List.append_nil] at X'
  obtain ⟨t2, r1, r2⟩ := k U' (by rw [o1]; exact hh) X'
  exact ⟨t2, st t2 r1, r2⟩
theorem ss_callS {n idx : Nat} (hcode : Cond.code y' cc' mL ret' ∈ zi_G) (hini : Cond.initialized y'.cls ∈ zi_G) (hmL : mL ≤ 19) (hy : y'.cls ≠ "java/lang/invoke/MethodHandle" ∧ y'.cls ≠ "java/lang/invoke/VarHandle") (hpar : (parseMethodDescriptor y'.desc).map (fun d => d.parameters.length) = some n) (hst : Cond.static y' ∈ zi_G) (hl : Cond.methodLink y.cls idx y' ∈ zi_G) (hd : decode cc pc = .ok (.invokestatic idx, 3))
    (hM : ss_Met K V d y' cc' mL ret' vs r) (X : zi_X p R s m args meth c y cc nL A b sc (d + 1)) (hcl : cells ≤ R.cells) (hsl : slots ≤ R.slots) (hS : va_S A s.heap H locs) (hW : ss_W K V A s s.heap) (hls : ls.size = nL) (hn : vs.length = n) (hr : (rest.map fun v => v.category).sum ≤ 20)
    (k : W p l e R s m args below meth c H locs cells slots Q (F0 m (pc + 3) ls (r.toList ++ rest))) : W p l e R s m args below meth c H locs cells slots Q (F0 m pc ls (vs.reverse ++ rest)) :=
  ss_call hcode hini hmL hM X hcl hsl hS hW (fun T hT XS Pre Post hK hpre => cr_callS hcode hini hy hpar hst (Or.inl hl) hd p l e R s m args below meth c A b (d + 1) sc X T locs cells slots XS Pre Post hK ls vs rest (hls.trans X.2.2.1.symm) hn trivial hr hpre) k
theorem ss_callV {n idx a : Nat} {As : List Value} (hcode : Cond.code y' cc' mL ret' ∈ zi_G) (hini : Cond.initialized y'.cls ∈ zi_G) (hmL : mL ≤ 19) (hy : y'.cls ≠ "java/lang/invoke/MethodHandle" ∧ y'.cls ≠ "java/lang/invoke/VarHandle") (hpar : (parseMethodDescriptor y'.desc).map (fun d => d.parameters.length) = some n) (hin : Cond.instanceMethod y' ∈ zi_G) (hse : Cond.selects "java/lang/String" y' y' ∈ zi_G) (hl : Cond.methodLink y.cls idx y' ∈ zi_G) (hd : decode cc pc = .ok (.invokevirtual idx, 3))
    (hM : ss_Met K V d y' cc' mL ret' (.ref a :: As) r) (X : zi_X p R s m args meth c y cc nL A b sc (d + 1)) (hcl : cells ≤ R.cells) (hsl : slots ≤ R.slots) (hS : va_S A s.heap H locs) (hW : ss_W K V A s s.heap) (hls : ls.size = nL) (hn : As.length = n) (hr : (rest.map fun v => v.category).sum ≤ 20) (hc : ∃ cell : Cell, H[a]? = some cell ∧ cell.vm.isStatics = false ∧ s.vm.findClass "java/lang/String" = some cell.cls)
    (k : W p l e R s m args below meth c H locs cells slots Q (F0 m (pc + 3) ls (r.toList ++ rest))) : W p l e R s m args below meth c H locs cells slots Q (F0 m pc ls ((.ref a :: As).reverse ++ rest)) := by
  refine ss_call hcode hini hmL hM X hcl hsl hS hW (fun T hT XS Pre Post hK hpre => ?_) k
  obtain ⟨cell, c1, c2, c3⟩ := hc
  have hts := X.2.2.2.2.1
  obtain ⟨v, vm₁, B, h1, h2, h3, h4⟩ := callV XS X.1 (C := "java/lang/String") (bytes := cc') (maxL := mL) (ret := ret') X.2.2.2.1 (hts _ hl) (hts _ hin) (hts _ hse) (hts _ hcode) hy hK (by rw [hT]; exact c1) c2 c3 (g := F0 m pc ls ((Value.ref a :: As).reverse ++ rest)) rfl (hls.trans X.2.2.1.symm) (argsL := As) (rest := rest) (ci_len hpar hn) (by simp) (by show 2 * 0 + _ ≤ 30; omega) (by rw [X.2.1]; exact hd) hpre
  exact ⟨v, vm₁, B, h1, h2, h3, h4⟩
end SSC
/-- a String method's contract out of its frame's run -/
theorem ss_met {K V : Nat → Nat} {d : Nat} {y : MethodName} {cc : ByteArray} {mL : Nat} {ret : Option FieldType} {as : List Value} {r : Option Value} (hpl : plainName y.cls = true) (hwt : (lg_sl as).length ≤ mL) (hret : (ret = none ∧ r = none) ∨ ∃ (ty : FieldType) (x : Int32), ret = some ty ∧ r = some (.int x) ∧ narrow ty (.int x) = .int x ∧ zi_rop (some ty) = .ireturn)
    (go : ∀ (p : Program) (l : Launch) (e : Env) (s : State) (m : MethodId) (args : Array Value) (below : List Frame) (meth : Method) (c : Code), zi_X p (zi_rm d 0 0) s m args meth c y cc mL (fun q => s.heap.size ≤ q) 0 none d → ss_W K V (fun q => s.heap.size ≤ q) s s.heap → ∀ (Q : State → Prop) (ls : Array Slot), lv_has ls mL (lv_args 0 as) → (∀ (pc' : Nat) (ls' : Array Slot), decode cc pc' = .ok (zi_rop ret, 1) → W p l e (zi_rm d 0 0) s m args below meth c s.heap [] 0 0 Q (F0 m pc' ls' r.toList)) → W p l e (zi_rm d 0 0) s m args below meth c s.heap [] 0 0 Q (F0 m 0 ls [])) : ss_Met K V d y cc mL ret as r := by
  intro l
  refine Met.ofW (cc := cc) (maxL := mL) (ret := ret) hpl rfl ?_
  intro p e s m args below meth c s₁ B hml hv
  obtain ⟨rfl, hw, hN⟩ := hv
  have hts := atoms_spec (ws := Cond.code y cc mL ret :: zi_G) B.pre
  have X : zi_X p (zi_rm d 0 0) s m as.toArray meth c y cc mL (fun q => s.heap.size ≤ q) 0 none d := ⟨B.exec, B.bytes, hml, findClass_of_methodNamed B.named, fun w hw => hts w (List.mem_cons_of_mem _ hw), hN, fun q h => h, ⟨Nat.le_refl _, Nat.le_refl _⟩, fun h => (name_of_methodNamed B.named B.method).1.trans h, trivial⟩
  have hl := lv_entry as (n := mL) hwt
  rw [lg_entry_eq]
  generalize (lg_sl as ++ List.replicate (mL - (lg_sl as).length) Slot.unset).toArray = ls at hl ⊢
  refine go p l e s m _ below meth c X hw _ ls hl (fun pc' ls' hdg => ?_)
  have hlk := B.notSynchronized
  have hrt := B.returns
  rcases hret with ⟨rfl, rfl⟩ | ⟨ty, x, rfl, rfl, hn, ho⟩
  · exact W.vret B.exec B.bytes hrt (fun t ht hW => ⟨rfl, ht⟩) (fun q hq => by cases hq) hdg hlk
  · rw [ho] at hdg
    exact W.zret B.exec B.bytes hrt hn (fun t ht hW => ⟨rfl, ht⟩) (fun q hq => by cases hq) hdg hlk
theorem ss_pck {K V : Nat → Nat} (d : Nat) {i n : Int32} {v : Value} (hv : v = .null ∨ ∃ t, v = .ref t) (h0 : ¬ i < 0) (h1 : i < n) : ss_Met K V d yJ3_checkIndex_8e157 cJ3_checkIndex_8e157 3 (some .int) [.int i, .int n, v] (some (.int i)) := by
  have hc : v.category = 1 := by rcases hv with rfl | ⟨t, rfl⟩ <;> rfl
  refine ss_met (by decide) (by rcases hv with rfl | ⟨t, rfl⟩ <;> exact Nat.le_of_ble_eq_true rfl) (Or.inr ⟨.int, i, rfl, rfl, rfl, rfl⟩) ?_
  intro p l e s m args below meth c X hw Q ls hl k
  have hx := X.1
  have hb := X.2.1
  refine lv_iload_n hx hb (k := 0) (i := 0) (x := i) (by decide +kernel) rfl (lv_at hl 0 rfl) ?_
  refine lv_if_lt hx hb (off := 8) (tgt := 9) (by decide +kernel) rfl (fun z => absurd z h0) (fun _ => ?_)
  refine lv_iload_n hx hb (k := 0) (i := 0) (x := i) (by decide +kernel) rfl (lv_at hl 0 rfl) ?_
  refine lv_iload_n hx hb (k := 1) (i := 1) (x := n) (by decide +kernel) rfl (lv_at hl 1 rfl) ?_
  refine lv_icmp_lt hx hb (off := 10) (tgt := 16) (by decide +kernel) rfl (fun _ => ?_) (fun z => absurd h1 z)
  refine lv_iload_n hx hb (k := 0) (i := 0) (x := i) (by decide +kernel) rfl (lv_at hl 0 rfl) ?_
  exact k 17 ls (by decide +kernel)
theorem ss_chk {K V : Nat → Nat} (d : Nat) {i n : Int32} (h0 : ¬ i < 0) (h1 : i < n) : ss_Met K V (d + 1) yJ0_checkIndex_df160 cJ0_checkIndex_df160 2 none [.int i, .int n] none := by
  refine ss_met (by decide) (Nat.le_of_ble_eq_true rfl) (Or.inl ⟨rfl, rfl⟩) ?_
  intro p l e s m args below meth c X hw Q ls hl k
  have hx := X.1
  have hb := X.2.1
  have hts := X.2.2.2.2.1
  refine lv_iload_n hx hb (k := 0) (i := 0) (x := i) (by decide +kernel) rfl (lv_at hl 0 rfl) ?_
  refine lv_iload_n hx hb (k := 1) (i := 1) (x := n) (by decide +kernel) rfl (lv_at hl 1 rfl) ?_
  have go : ∀ v : Value, (v = .null ∨ ∃ t, v = .ref t) → va_Z "jdk/internal/util/Preconditions" "SIOOBE_FORMATTER" "Ljava/util/function/BiFunction;" v (fun q => s.heap.size ≤ q) s s.heap → W p l e (zi_rm (d + 1) 0 0) s m args below meth c s.heap [] 0 0 Q (F0 m 2 ls [.int n, .int i]) := by
    intro v hv hZ
    refine va_gets hx hb hZ va_S.rf X.2.2.2.1 (hts _ sl_f_fmt) (fun _ z => z) (by decide +kernel) ?_
    have st : ([.int i, .int n, v] : List Value).reverse ++ [] = [v, .int n, .int i] := rfl
    show W p l e (zi_rm (d + 1) 0 0) s m args below meth c s.heap [] 0 0 Q (F0 m 5 ls [v, .int n, .int i])
    rw [← st]
    refine ss_callS (n := 3) sl_c_pck sl_n_P (by decide) ⟨by decide, by decide⟩ (by decide +kernel) sl_t_pck sl_m_pck (by decide +kernel) (ss_pck d hv h0 h1) X (Nat.le_refl _) (Nat.le_refl _) va_S.rf hw hl.1 rfl (by decide) ?_
    refine lv_pop hx hb (by decide +kernel) rfl ?_
    exact k 9 ls (by decide +kernel)
  rcases hw.2.2.2 with z | ⟨t, z⟩
  · exact go _ (Or.inl rfl) z
  · exact go _ (Or.inr ⟨t, rfl⟩) z
theorem ss_tab : ∀ i : Fin 7, ss_len.getD i.val 0 < 7 ∧ (Int32.ofNat (ss_len.getD i.val 0) >>> ((0 : Int32) &&& 31)) = Int32.ofNat (ss_len.getD i.val 0) ∧ ∀ k : Fin 6, ((((ss_byt.getD i.val []).getD k.val 0) &&& 255).toUInt32 % 65536).toInt32 = (ss_byt.getD i.val []).getD k.val 0 ∧ narrow .char (.int ((ss_byt.getD i.val []).getD k.val 0)) = .int ((ss_byt.getD i.val []).getD k.val 0) := by decide +kernel
theorem ss_lch {K V : Nat → Nat} (d : Nat) {i k : Nat} (hi : i < 7) (hk : k < ss_len.getD i 0) : ss_Met K V (d + 2) yJ1_charAt_3b067 cJ1_charAt_3b067 2 (some .char) [.ref (V i), .int (Int32.ofNat k)] (some (.int ((ss_byt.getD i []).getD k 0))) := by
  obtain ⟨t1, t2, t3⟩ := ss_tab ⟨i, hi⟩
  dsimp only at t1 t2 t3
  obtain ⟨t4, t5⟩ := t3 ⟨k, by omega⟩
  dsimp only at t4 t5
  refine ss_met (by decide) (Nat.le_of_ble_eq_true rfl) (Or.inr ⟨.char, _, rfl, rfl, t5, rfl⟩) ?_
  intro p l e s m args below meth c X hw Q ls hl kk
  have hx := X.1
  have hb := X.2.1
  have hT := (hw.1.1 i hi).2.2.2
  have c1 : ¬ Int32.ofNat k < 0 := nI_pos (n := k) (by omega)
  have c2 : Int32.ofNat k < Int32.ofNat (ss_len.getD i 0) := nI_lt hk (by omega)
  refine lv_iload_n hx hb (k := 1) (i := 1) (x := Int32.ofNat k) (by decide +kernel) rfl (lv_at hl 1 rfl) ?_
  refine lv_aload_n hx hb (k := 0) (i := 0) (x := V i) (by decide +kernel) rfl (lv_at hl 0 rfl) ?_
  refine va_tlen hx hb hT va_S.rf rfl (by decide +kernel) ?_
  have st : ([.int (Int32.ofNat k), .int (Int32.ofNat (ss_len.getD i 0))] : List Value).reverse ++ [] = [.int (Int32.ofNat (ss_len.getD i 0)), .int (Int32.ofNat k)] := rfl
  show W p l e (zi_rm (d + 2) 0 0) s m args below meth c s.heap [] 0 0 Q (F0 m 3 ls [.int (Int32.ofNat (ss_len.getD i 0)), .int (Int32.ofNat k)])
  rw [← st]
  refine ss_callS (n := 2) sl_c_chk sl_n_S (by decide) ⟨by decide, by decide⟩ (by decide +kernel) sl_t_chk sl_m_chk (by decide +kernel) (ss_chk d c1 c2) X (Nat.le_refl _) (Nat.le_refl _) va_S.rf hw hl.1 rfl (by decide) ?_
  refine lv_aload_n hx hb (k := 0) (i := 0) (x := V i) (by decide +kernel) rfl (lv_at hl 0 rfl) ?_
  refine lv_iload_n hx hb (k := 1) (i := 1) (x := Int32.ofNat k) (by decide +kernel) rfl (lv_at hl 1 rfl) ?_
  refine va_tb hx hb hT va_S.rf (i := Int32.ofNat k) (nI_in hk (by omega)) (v := .int ((ss_byt.getD i []).getD k 0)) (by rw [show (Int32.ofNat k).toNatClampNeg = k from nI_clamp (by omega)]) (by decide +kernel) ?_
  refine lv_sipush hx hb (n := 255) (v := 255) (by decide +kernel) (by decide) ?_
  refine lv_iand hx hb (by decide +kernel) ?_
  refine lv_i2c hx hb (by decide +kernel) t4 ?_
  exact kk 14 ls (by decide +kernel)
theorem ss_lat {K V : Nat → Nat} (d : Nat) {i : Nat} (hi : i < 7) : ss_Met K V d yJ0_isLatin1_aae02 cJ0_isLatin1_aae02 1 (some .boolean) [.ref (K i)] (some (.int 1)) := by
  refine ss_met (by decide) (Nat.le_of_ble_eq_true rfl) (Or.inr ⟨.boolean, 1, rfl, rfl, rfl, rfl⟩) ?_
  intro p l e s m args below meth c X hw Q ls hl kk
  have hx := X.1
  have hb := X.2.1
  have hts := X.2.2.2.2.1
  refine va_gets hx hb hw.2.2.1 va_S.rf X.2.2.2.1 (hts _ sl_f_cmp) (fun _ z => z) (by decide +kernel) ?_
  refine lv_if_eq hx hb (off := 14) (tgt := 17) (by decide +kernel) rfl (fun z => absurd z (by decide)) (fun _ => ?_)
  refine lv_aload_n hx hb (k := 0) (i := 0) (x := K i) (by decide +kernel) rfl (lv_at hl 0 rfl) ?_
  refine vk_getf hx hb (hw.1.1 i hi).2.1 va_S.rf X.2.2.2.1 (hts _ sl_f_cod) (fun _ z => z) (by decide +kernel) ?_
  refine lv_if_ne hx hb (off := 7) (tgt := 17) (by decide +kernel) rfl (fun z => absurd rfl z) (fun _ => ?_)
  refine lv_iconst hx hb (n := 1) (v := 1) (by decide +kernel) (by decide) ?_
  refine lv_goto hx hb (off := 4) (tgt := 18) (by decide +kernel) rfl ?_
  exact kk 18 ls (by decide +kernel)
theorem ss_cod {K V : Nat → Nat} (d : Nat) {i : Nat} (hi : i < 7) : ss_Met K V d yJ0_coder_7d493 cJ0_coder_7d493 1 (some .byte) [.ref (K i)] (some (.int 0)) := by
  refine ss_met (by decide) (Nat.le_of_ble_eq_true rfl) (Or.inr ⟨.byte, 0, rfl, rfl, by decide, rfl⟩) ?_
  intro p l e s m args below meth c X hw Q ls hl kk
  have hx := X.1
  have hb := X.2.1
  have hts := X.2.2.2.2.1
  refine va_gets hx hb hw.2.2.1 va_S.rf X.2.2.2.1 (hts _ sl_f_cmp) (fun _ z => z) (by decide +kernel) ?_
  refine lv_if_eq hx hb (off := 10) (tgt := 13) (by decide +kernel) rfl (fun z => absurd z (by decide)) (fun _ => ?_)
  refine lv_aload_n hx hb (k := 0) (i := 0) (x := K i) (by decide +kernel) rfl (lv_at hl 0 rfl) ?_
  refine vk_getf hx hb (hw.1.1 i hi).2.1 va_S.rf X.2.2.2.1 (hts _ sl_f_cod) (fun _ z => z) (by decide +kernel) ?_
  refine lv_goto hx hb (off := 4) (tgt := 14) (by decide +kernel) rfl ?_
  exact kk 14 ls (by decide +kernel)
theorem ss_length {K V : Nat → Nat} (d : Nat) {i : Nat} (hi : i < 7) : ss_Met K V (d + 1) yJ0_length_8abf5 cJ0_length_8abf5 1 (some .int) [.ref (K i)] (some (.int (Int32.ofNat (ss_len.getD i 0)))) := by
  obtain ⟨t1, t2, t3⟩ := ss_tab ⟨i, hi⟩
  dsimp only at t1 t2 t3
  refine ss_met (by decide) (Nat.le_of_ble_eq_true rfl) (Or.inr ⟨.int, _, rfl, rfl, rfl, rfl⟩) ?_
  intro p l e s m args below meth c X hw Q ls hl kk
  have hx := X.1
  have hb := X.2.1
  have hts := X.2.2.2.2.1
  refine lv_aload_n hx hb (k := 0) (i := 0) (x := K i) (by decide +kernel) rfl (lv_at hl 0 rfl) ?_
  refine vk_getf hx hb (hw.1.1 i hi).2.2.1 va_S.rf X.2.2.2.1 (hts _ sl_f_val) (fun _ z => z) (by decide +kernel) ?_
  refine va_tlen hx hb (hw.1.1 i hi).2.2.2 va_S.rf rfl (by decide +kernel) ?_
  refine lv_aload_n hx hb (k := 0) (i := 0) (x := K i) (by decide +kernel) rfl (lv_at hl 0 rfl) ?_
  have st : ([.ref (K i)] : List Value).reverse ++ [.int (Int32.ofNat (ss_len.getD i 0))] = [.ref (K i), .int (Int32.ofNat (ss_len.getD i 0))] := rfl
  show W p l e (zi_rm (d + 1) 0 0) s m args below meth c s.heap [] 0 0 Q (F0 m 6 ls [.ref (K i), .int (Int32.ofNat (ss_len.getD i 0))])
  rw [← st]
  refine ss_callV (n := 0) sl_c_cod sl_n_S (by decide) ⟨by decide, by decide⟩ (by decide +kernel) sl_i_cod sl_s_cod sl_m_cod (by decide +kernel) (ss_cod d hi) X (Nat.le_refl _) (Nat.le_refl _) va_S.rf hw hl.1 rfl (Nat.le_of_ble_eq_true rfl) (vk_recv hw.1 hi va_S.rf) ?_
  refine lv_ishr hx hb (by decide +kernel) ?_
  rw [t2]
  exact kk 10 ls (by decide +kernel)
theorem ss_charAt {K V : Nat → Nat} (d : Nat) {i k : Nat} (hi : i < 7) (hk : k < ss_len.getD i 0) : ss_Met K V (d + 3) yJ0_charAt_5068e cJ0_charAt_5068e 2 (some .char) [.ref (K i), .int (Int32.ofNat k)] (some (.int ((ss_byt.getD i []).getD k 0))) := by
  obtain ⟨t1, t2, t3⟩ := ss_tab ⟨i, hi⟩
  dsimp only at t1 t2 t3
  obtain ⟨t4, t5⟩ := t3 ⟨k, by omega⟩
  dsimp only at t4 t5
  refine ss_met (by decide) (Nat.le_of_ble_eq_true rfl) (Or.inr ⟨.char, _, rfl, rfl, t5, rfl⟩) ?_
  intro p l e s m args below meth c X hw Q ls hl kk
  have hx := X.1
  have hb := X.2.1
  have hts := X.2.2.2.2.1
  refine lv_aload_n hx hb (k := 0) (i := 0) (x := K i) (by decide +kernel) rfl (lv_at hl 0 rfl) ?_
  show W p l e (zi_rm (d + 3) 0 0) s m args below meth c s.heap [] 0 0 Q (F0 m 1 ls [.ref (K i)])
  have st : ([.ref (K i)] : List Value).reverse ++ [] = [.ref (K i)] := rfl
  rw [← st]
  refine ss_callV (n := 0) sl_c_lat sl_n_S (by decide) ⟨by decide, by decide⟩ (by decide +kernel) sl_i_lat sl_s_lat sl_m_lat (by decide +kernel) (ss_lat (d + 2) hi) X (Nat.le_refl _) (Nat.le_refl _) va_S.rf hw hl.1 rfl (by decide) (vk_recv hw.1 hi va_S.rf) ?_
  refine lv_if_eq hx hb (off := 12) (tgt := 16) (by decide +kernel) rfl (fun z => absurd z (by decide)) (fun _ => ?_)
  refine lv_aload_n hx hb (k := 0) (i := 0) (x := K i) (by decide +kernel) rfl (lv_at hl 0 rfl) ?_
  refine vk_getf hx hb (hw.1.1 i hi).2.2.1 va_S.rf X.2.2.2.1 (hts _ sl_f_val) (fun _ z => z) (by decide +kernel) ?_
  refine lv_iload_n hx hb (k := 1) (i := 1) (x := Int32.ofNat k) (by decide +kernel) rfl (lv_at hl 1 rfl) ?_
  show W p l e (zi_rm (d + 3) 0 0) s m args below meth c s.heap [] 0 0 Q (F0 m 12 ls [.int (Int32.ofNat k), .ref (V i)])
  have st2 : ([.ref (V i), .int (Int32.ofNat k)] : List Value).reverse ++ [] = [.int (Int32.ofNat k), .ref (V i)] := rfl
  rw [← st2]
  refine ss_callS (n := 2) sl_c_lch sl_n_L (by decide) ⟨by decide, by decide⟩ (by decide +kernel) sl_t_lch sl_m_lch (by decide +kernel) (ss_lch d hi hk) X (Nat.le_refl _) (Nat.le_refl _) va_S.rf hw hl.1 rfl (by decide) ?_
  exact kk 15 ls (by decide +kernel)
