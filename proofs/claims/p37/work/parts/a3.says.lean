/-! says() -/
def wds : List (List Int) := [w_plain, w_row, w_spring, w_farm, w_ground, w_law, w_silt]
theorem wd_tab : ∀ i : Fin 7, Int32.ofNat (ss_len.getD i.val 0) = Int32.ofInt ((wds.getD i.val []).length : Int) ∧ (wds.getD i.val []).length = ss_len.getD i.val 0 ∧ (∀ k : Fin 6, (ss_byt.getD i.val []).getD k.val 0 = Int32.ofInt ((wds.getD i.val []).getD k.val 0)) ∧ (∀ k : Fin 8, Int32.ofNat k.val = Int32.ofInt (k.val : Int)) ∧ ∀ c ∈ wds.getD i.val [], 0 ≤ c ∧ c < 128 := by decide +kernel
section CSV
variable {K V : Nat → Nat} {y : MethodName} {cc : ByteArray} {nL : Nat} {ret : Option FieldType} {d pc : Nat} {Post : Option Value → ci_W → Prop}
/-- a String's method is called: the String is .ref 0 -/
theorem cs_str {i n idx mL : Nat} {y' : MethodName} {cc' : ByteArray} {ret' : Option FieldType} {As rest : List Value} {lc : ci_L} {w : ci_W} {r : Int32} (hi : i < 7) (hcode : Cond.code y' cc' mL ret' ∈ zi_G) (hini : Cond.initialized y'.cls ∈ zi_G) (hmL : mL ≤ 19) (hy : y'.cls ≠ "java/lang/invoke/MethodHandle" ∧ y'.cls ≠ "java/lang/invoke/VarHandle") (hpar : (parseMethodDescriptor y'.desc).map (fun d => d.parameters.length) = some n) (hin : Cond.instanceMethod y' ∈ zi_G) (hse : Cond.selects "java/lang/String" y' y' ∈ zi_G) (hl : Cond.methodLink y.cls idx y' ∈ zi_G) (hd : decode cc pc = .ok (.invokevirtual idx, 3))
    (hM : ss_Met K V d y' cc' mL ret' (.ref (K i) :: As) (some (.int r))) (hA : ∀ b ads, As.map (ci_t b ads) = As) (hn : As.length = n) (hr : (rest.map fun v => v.category).sum ≤ 20) (k : cs_T K V (fun b => b = K i) y cc nL ret (d + 1) (pc + 3) (lc, .int r :: rest, w) Post) : cs_T K V (fun b => b = K i) y cc nL ret (d + 1) pc (lc, (.ref 0 :: As).reverse ++ rest, w) Post := by
  intro p l e R s m args below meth c D A b ads tys X hBb hSW Q H locs cells slots ls sk hc hs hR kk
  obtain ⟨ws, hlv, rfl, hw⟩ := hR
  subst hBb
  have hS := hw.2.2.2.2
  have e1 : ((Value.ref 0 :: As).reverse ++ rest).map (ci_t (K i) ads) = (Value.ref (K i) :: As).reverse ++ rest.map (ci_t (K i) ads) := by
    rw [List.map_append, List.map_reverse, List.map_cons, hA]
    rfl
  show W p l e R s m args below meth c H locs cells slots Q (F0 m pc ls (((Value.ref 0 :: As).reverse ++ rest).map (ci_t (K i) ads)))
  rw [e1]
  refine ss_callV (A := A) (b := 0) (sc := none) hcode hini hmL hy hpar hin hse hl hd hM X hc hs hS hSW hlv.1 hn (by rw [ci_sum]; exact hr) (vk_recv hSW.1 hi hS) ?_
  exact k p l e R s m args below meth c D A (K i) ads tys X rfl hSW Q H locs cells slots ls _ hc hs ⟨ws, hlv, rfl, hw⟩ kk
/-- no cell, no value holds .ref 0 -/
def nob (w : ci_W) : Prop := ∀ (q ci : Nat) (vs : List Value), w q = some (.inr (ci, vs)) → ∀ v ∈ vs, v ≠ .ref 0
theorem ci_t_nob {v : Value} (h : v ≠ .ref 0) (b b' : Nat) (ads : List Nat) : ci_t b ads v = ci_t b' ads v := by
  cases v with
  | ref k => cases k with
    | zero => exact absurd rfl h
    | succ k => rfl
  | _ => rfl
theorem ci_wr.reb {b b' : Nat} {ads : List Nat} {tys : List (ClassId × FieldType)} {w : ci_W} {ws : va_W} (hn : nob w) (h : ci_wr b ads tys w ws) : ci_wr b' ads tys w ws := by
  refine ⟨h.1, fun q c hq => ?_⟩
  obtain ⟨e, h1, h2⟩ := h.2 q c hq
  refine ⟨e, h1, ?_⟩
  cases c with
  | inl x => exact h2
  | inr x =>
    obtain ⟨ci, vs⟩ := x
    have h2' : e.2 = .inr (ci, vs.map (ci_t b ads)) := h2
    show e.2 = .inr (ci, vs.map (ci_t b' ads))
    rw [h2', List.map_congr_left (fun v hv => ci_t_nob (hn q ci vs hq v hv) b b' ads)]
theorem cs_T.rebase {Bp : Nat → Prop} (b0 : Nat) {lc : ci_L} {sk : List Value} {w : ci_W} (hlc : ∀ q ∈ lc, q.2 ≠ .ref 0) (hsk : ∀ v ∈ sk, v ≠ .ref 0) (hw : nob w) (hP : ∀ v w', Post v w' → (∀ x, v = some x → x ≠ .ref 0) ∧ nob w') (k : cs_T K V (fun b => b = b0) y cc nL ret d pc (lc, sk, w) Post) : cs_T K V Bp y cc nL ret d pc (lc, sk, w) Post := by
  intro p l e R s m args below meth c D A b ads tys X hBb hSW Q H locs cells slots ls sk' hc hs hR kk
  obtain ⟨ws, hlv, rfl, h1, h2, h3, h4, h5⟩ := hR
  refine k p l e R s m args below meth c D A b0 ads tys X rfl hSW Q H locs cells slots ls _ hc hs ⟨ws, ?_, ?_, h1.reb hw, h2, h3, h4, h5⟩ ?_
  · show lv_has ls nL (lc.map (fun q => (q.1, ci_t b0 ads q.2)))
    rw [List.map_congr_left (fun q hq => by rw [ci_t_nob (hlc q hq) b0 b ads])]
    exact hlv
  · exact List.map_congr_left (fun v hv => ci_t_nob (hsk v hv) b b0 ads)
  · intro H' locs' pc' ls' v w' ws' hdg hp hRW
    obtain ⟨g1, g2⟩ := hP v w' hp
    obtain ⟨r1, r2, r3, r4, r5⟩ := hRW
    have := kk H' locs' pc' ls' v w' ws' hdg hp ⟨r1.reb g2, r2, r3, r4, r5⟩
    have e : ci_rv b0 ads v = ci_rv b ads v := by
      cases v with
      | none => rfl
      | some x => show some (ci_t b0 ads x) = some (ci_t b ads x); rw [ci_t_nob (g1 x rfl) b0 b ads]
    rw [e]
    exact this
theorem cs_ldc {i : Nat} {lc : ci_L} {sk : List Value} {w : ci_W} (hi : i < 7) (hyc : y.cls = "RiverDiggers$Draft") (hd : decode cc pc = .ok (.ldc (ss_ix.getD i 0), 2)) (k : cs_T K V (fun b => b = K i) y cc nL ret d (pc + 2) (lc, .ref 0 :: sk, w) Post) : cs_T K V (fun b => b = K i) y cc nL ret d pc (lc, sk, w) Post := by
  intro p l e R s m args below meth c D A b ads tys X hBb hSW Q H locs cells slots ls sk' hc hs hR kk
  obtain ⟨ws, hlv, rfl, hw⟩ := hR
  subst hBb
  refine va_ldcS X.1 X.2.1 (by rw [← hyc]; exact X.2.2.2.1) (hSW.2.1 i hi) hd ?_
  exact k p l e R s m args below meth c D A (K i) ads tys X rfl hSW Q H locs cells slots ls _ hc hs ⟨ws, hlv, rfl, hw⟩ kk
end CSV
def pk_noz : Bool := pk_tab.all (fun e => match e with
  | .inl _ => true
  | .inr (_, fs) => fs.all (fun o => match o with
    | some (.ref 0) => false
    | _ => true))
theorem pk_noz_ok : pk_noz = true := by decide +kernel
theorem pkf_nob {f : Int → Int} : ∀ (fs : List (Option Value)) (n : Nat), (∀ o ∈ fs, o ≠ some (.ref 0)) → ∀ v ∈ pkf f n fs, v ≠ .ref 0
  | [], _, _, v, hv => by cases hv
  | o :: fs, n, h, v, hv => by
    cases o with
    | none =>
      rcases List.mem_cons.mp hv with rfl | hv
      · intro e; cases e
      · exact pkf_nob fs (n + 1) (fun o ho => h o (List.mem_cons_of_mem _ ho)) v hv
    | some x =>
      rcases List.mem_cons.mp hv with rfl | hv
      · exact fun e => h (some v) (List.mem_cons_self ..) (by rw [e])
      · exact pkf_nob fs (n + 1) (fun o ho => h o (List.mem_cons_of_mem _ ho)) v hv
theorem pk_nob (b : Bool) (ρ o : pm) : nob (pk b ρ o) := by
  intro q ci vs hq v hv
  unfold pk at hq
  have ok := pk_noz_ok
  unfold pk_noz at ok
  rw [List.all_eq_true] at ok
  cases ht : pk_tab[q]? with
  | none => rw [ht] at hq; cases hq
  | some e =>
    rw [ht] at hq
    have oe := ok e (List.mem_of_getElem? ht)
    cases e with
    | inl x => cases hq
    | inr x =>
      obtain ⟨cx, fs⟩ := x
      dsimp only at hq oe
      rw [List.all_eq_true] at oe
      cases hq
      refine pkf_nob fs 0 (fun o' ho' => ?_) v hv
      have z := oe o' ho'
      intro e
      rw [e] at z
      cases z
theorem t_X6_says {K V : Nat → Nat} {d i : Nat} (hi : i < 7) {o ρ : pm} : ∀ (w : List Int) (j : Nat) (v : Int), (wds.getD i []).drop j = w → j ≤ (wds.getD i []).length → L_X6_says w (j : Int) ρ = some v → cs_T K V (fun b => b = K i) yX6_says cX6_says 3 (some .boolean) (d + 4) 28 ([(2, .int (Int32.ofInt (j : Int))), (0, .ref 51), (1, .ref 0)], [], pk true ρ o) (pZ true v ρ o) := by
  obtain ⟨t1, t2, t3, t4, t5⟩ := wd_tab ⟨i, hi⟩
  dsimp only at t1 t2 t3 t4 t5
  have t6 := (ss_tab ⟨i, hi⟩).1
  dsimp only at t6
  have len : ∀ {pc' : Nat} {lc : ci_L} {rest : List Value} {Post : Option Value → ci_W → Prop}, decode cX6_says pc' = .ok (.invokevirtual 48, 3) → (rest.map fun v => v.category).sum ≤ 20 → cs_T K V (fun b => b = K i) yX6_says cX6_says 3 (some .boolean) (d + 4) (pc' + 3) (lc, .int (Int32.ofInt ((wds.getD i []).length : Int)) :: rest, pk true ρ o) Post → cs_T K V (fun b => b = K i) yX6_says cX6_says 3 (some .boolean) (d + 4) pc' (lc, .ref 0 :: rest, pk true ρ o) Post := by
    intro pc' lc rest Post hd hr k
    rw [← t1] at k
    exact cs_str (As := []) (n := 0) hi sl_c_len sl_n_S (by decide) ⟨by decide, by decide⟩ (by decide +kernel) sl_i_len sl_s_len sl_m_len hd (ss_length (d + 2) hi) (fun _ _ => rfl) rfl hr k
  intro w
  induction w with
  | nil =>
    intro j v hw hj h
    have hjl : (wds.getD i []).length ≤ j := List.drop_eq_nil_iff.mp hw
    cases h
    refine cs_T.step cb_X6_says_28 (ci_sq rfl rfl) ?_
    refine len (by decide +kernel) (Nat.le_of_ble_eq_true rfl) ?_
    refine cs_T.step cb_X6_says_33 (pe_ic_ge ⟨by omega, by omega⟩ ⟨by omega, by omega⟩) ?_
    rw [decide_eq_true (show ((wds.getD i []).length : Int) ≤ (j : Int) by omega)]
    refine cs_T.step cb_X6_says_63 (pe_push pc_1) ?_
    exact cs_T.done (v := some (.int _)) cd_X6_says_64 ⟨⟨rfl, rfl⟩, Or.inr rfl⟩
  | cons x w ih =>
    intro j v hw hj h
    have hjl : j < (wds.getD i []).length := by
      rcases Nat.lt_or_ge j (wds.getD i []).length with z | z
      · exact z
      · rw [List.drop_eq_nil_iff.mpr z] at hw; cases hw
    have hx : (wds.getD i []).getD j 0 = x := by
      have : ((wds.getD i []).drop j)[0]? = some x := by rw [hw]; rfl
      rw [List.getElem?_drop, Nat.add_zero] at this
      rw [List.getD_eq_getElem?_getD, this]
      rfl
    have hw' : (wds.getD i []).drop (j + 1) = w := by
      rw [← List.drop_drop, hw]
      rfl
    have hxm : x ∈ wds.getD i [] := List.mem_of_mem_drop (by rw [hw]; exact List.mem_cons_self ..)
    have hxb := t5 x hxm
    rw [L_X6_says] at h
    obtain ⟨h1, h⟩ := ck_some h
    obtain ⟨h2, h⟩ := ck_some h
    refine cs_T.step cb_X6_says_28 (ci_sq rfl rfl) ?_
    refine len (by decide +kernel) (Nat.le_of_ble_eq_true rfl) ?_
    refine cs_T.step cb_X6_says_33 (pe_ic_ge ⟨by omega, by omega⟩ ⟨by omega, by omega⟩) ?_
    rw [decide_eq_false (show ¬ ((wds.getD i []).length : Int) ≤ (j : Int) by omega)]
    refine cs_T.step cb_X6_says_36 (ci_sq rfl (ci_sq (pe_getR tq_50 rfl rfl) (ci_sq rfl (ci_sq (pe_getI (kI := 4) tq_50 rfl rfl rfl) (ci_sq rfl (ci_sq pe_iadd (ci_sq (pe_ald (nI := 320) tq_51 rfl rfl h1) (ci_sq rfl rfl)))))))) ?_
    have ec := t3 ⟨j, by omega⟩
    dsimp only at ec
    rw [hx] at ec
    have ej := t4 ⟨j, by omega⟩
    dsimp only at ej
    rw [← ej]
    refine cs_str (As := [.int (Int32.ofNat j)]) (n := 1) (rest := [.int (Int32.ofInt (ρ 51 (ρ 50 4 + (j : Int))))]) hi sl_c_chr sl_n_S (by decide) ⟨by decide, by decide⟩ (by decide +kernel) sl_i_chr sl_s_chr sl_m_chr (by decide +kernel) (ss_charAt d hi (by omega)) (fun _ _ => rfl) rfl (Nat.le_of_ble_eq_true rfl) ?_
    rw [ec]
    refine cs_T.step cb_X6_says_52 (pe_ic_eq h2 ⟨by omega, by omega⟩) ?_
    refine cs_pbr h (fun hc h => ?_) (fun hc h => ?_)
    · rw [ej]
      refine cs_T.step cb_X6_says_57 (ci_sq (pe_inc rfl) rfl) ?_
      exact ih (j + 1) v hw' (by omega) (by rw [show ((j + 1 : Nat) : Int) = (j : Int) + 1 by omega]; exact h)
    · refine cs_T.step cb_X6_says_55 (pe_push pc_0) ?_
      cases h
      exact cs_T.done (v := some (.int _)) cd_X6_says_56 ⟨⟨rfl, rfl⟩, Or.inl rfl⟩
theorem s_X6_says {K V : Nat → Nat} (d : Nat) {i : Nat} (hi : i < 7) {ρ : pm} (o : pm) {v : Int} (h : f_X6_says (wds.getD i []) ρ = some v) : cs_Met K V (fun b => b = K i) (d + 4) (yX6_says, cX6_says, 3, (some .boolean), [], 0, 0) [.ref 51, .ref 0] (pk true ρ o) (pZ true v ρ o) := by
  obtain ⟨t1, t2, t3, t4, t5⟩ := wd_tab ⟨i, hi⟩
  dsimp only at t1 t2 t3 t4 t5
  have t6 := (ss_tab ⟨i, hi⟩).1
  dsimp only at t6
  refine cs_met (by decide) (Nat.le_of_ble_eq_true rfl) ?_ ?_
  · rintro v w' ⟨⟨rfl, rfl⟩, hz⟩
    rcases hz with rfl | rfl
    · exact Or.inl rfl
    · exact Or.inr rfl
  · change cs_T _ _ _ _ _ _ _ _ _ ([(0, .ref 51), (1, .ref 0)], [], pk true ρ o) _
    unfold f_X6_says at h
    obtain ⟨h3, h⟩ := ck_some h
    refine cs_T.step cb_X6_says_0 (ci_sq rfl (ci_sq (pe_getI (kI := 3) tq_50 rfl rfl rfl) (ci_sq (pe_push pc_1) (pe_ic_ne h3 pR_1)))) ?_
    refine cs_pbrn h (fun hc h => ?_) (fun hc h => ?_)
    · refine cs_T.step cb_X6_says_24 (pe_push pc_0) ?_
      cases h
      exact cs_T.done (v := some (.int _)) cd_X6_says_25 ⟨⟨rfl, rfl⟩, Or.inl rfl⟩
    · obtain ⟨h4, h⟩ := ck_some h
      refine cs_T.step cb_X6_says_8 (ci_sq rfl (ci_sq (pe_getI (kI := 2) tq_50 rfl rfl rfl) (ci_sq rfl (ci_sq (pe_getI (kI := 4) tq_50 rfl rfl rfl) (ci_sq pe_isub rfl))))) ?_
      refine cs_str (As := []) (n := 0) (rest := [.int (Int32.ofInt (ρ 50 2 - ρ 50 4))]) hi sl_c_len sl_n_S (by decide) ⟨by decide, by decide⟩ (by decide +kernel) sl_i_len sl_s_len sl_m_len (by decide +kernel) (ss_length (d + 2) hi) (fun _ _ => rfl) rfl (Nat.le_of_ble_eq_true rfl) ?_
      rw [t1]
      refine cs_T.step cb_X6_says_21 (pe_ic_eq h4 ⟨by omega, by omega⟩) ?_
      refine cs_pbr h (fun hc h => ?_) (fun hc h => ?_)
      · refine cs_T.step cb_X6_says_26 (ci_sq (pe_push pc_0) rfl) ?_
        exact t_X6_says hi (wds.getD i []) 0 v rfl (Nat.zero_le _) h
      · refine cs_T.step cb_X6_says_24 (pe_push pc_0) ?_
        cases h
        exact cs_T.done (v := some (.int _)) cd_X6_says_25 ⟨⟨rfl, rfl⟩, Or.inl rfl⟩
