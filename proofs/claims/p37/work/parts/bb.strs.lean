/-! the Strings at the law's entry -/
def ss_tm (i : Nat) : Term := Term.string "RiverDiggers$Draft" (ss_ix.getD i 0)
def ss_F : List Cond := flatC (Jvm.Cond.and given_1 narrow_1)
set_option maxRecDepth 100000 in
theorem ss_m1 : ∀ i : Fin 7, Cond.exactly (ss_tm i.val) "java/lang/String" ∈ ss_F ∧ Cond.eq (.field (ss_tm i.val) "java/lang/String" "coder" "B") (.int 0) ∈ ss_F ∧ Cond.arrayOf (.field (ss_tm i.val) "java/lang/String" "value" "[B") .byte ∈ ss_F ∧ Cond.eq (.length (.field (ss_tm i.val) "java/lang/String" "value" "[B")) (.int (Int32.ofNat (ss_len.getD i.val 0))) ∈ ss_F := by decide +kernel
set_option maxRecDepth 100000 in
theorem ss_m2 : ∀ (i : Fin 7) (j : Fin 6), j.val < ss_len.getD i.val 0 → Cond.eq (.elem (.field (ss_tm i.val) "java/lang/String" "value" "[B") (.int (Int32.ofNat j.val))) (.int ((ss_byt.getD i.val []).getD j.val 0)) ∈ ss_F := by decide +kernel
set_option maxRecDepth 100000 in
theorem ss_m3 : ∀ i j : Fin 7, i.val < j.val → Cond.not (Cond.eq (ss_tm i.val) (ss_tm j.val)) ∈ ss_F := by decide +kernel
set_option maxRecDepth 100000 in
theorem ss_m4 : Cond.eq (.static "java/lang/String" "COMPACT_STRINGS" "Z") (.int 1) ∈ ss_F ∧ Cond.isRef (.static "jdk/internal/util/Preconditions" "SIOOBE_FORMATTER" "Ljava/util/function/BiFunction;") ∈ ss_F := by decide +kernel
set_option maxRecDepth 100000 in
theorem ss_m5 : ∀ i : Fin 7, Cond.stringRef "RiverDiggers$Draft" (ss_ix.getD i.val 0) (ss_tx.getD i.val "") ∈ tables_1 := by decide +kernel
set_option maxRecDepth 100000 in
theorem ss_m6 : Cond.laysStatic "java/lang/String" "COMPACT_STRINGS" "Z" ∈ tables_1 ∧ Cond.laysStatic "jdk/internal/util/Preconditions" "SIOOBE_FORMATTER" "Ljava/util/function/BiFunction;" ∈ tables_1 ∧ Cond.initialized "java/lang/String" ∈ tables_1 ∧ Cond.initialized "jdk/internal/util/Preconditions" ∈ tables_1 := by decide +kernel
theorem ss_start {s : State} {b : Nat} (hts : ∀ w ∈ lw_tbl, w.before #[Value.ref b] s = true) (hgv : (Jvm.Cond.and given_1 narrow_1).before #[Value.ref b] s = true) : ∃ K V : Nat → Nat, ss_W K V (fun q => s.heap.size ≤ q) s s.heap := by
  have hs : ∀ c ∈ ss_F, c.before #[Value.ref b] s = true := flat_of_before _ hgv
  have ht : ∀ w ∈ tables_1, w.before #[Value.ref b] s = true := fun w hw => hts w (List.mem_append_right _ hw)
  have hA : ∀ a : Nat, a < s.heap.size → ¬ s.heap.size ≤ a := fun a h => Nat.not_le.mpr h
  have l6 : ∀ i, i < 7 → ss_len.getD i 0 < 7 := fun i hi => (ss_tab ⟨i, hi⟩).1
  obtain ⟨K, V, h1, h2⟩ := vk_Sof (args := #[Value.ref b]) (s := s) (N := 7) (tm := ss_tm) (len := ss_len) (byt := ss_byt) (A := fun q => s.heap.size ≤ q) (fun i hi => by have := l6 i hi; omega) (fun i hi => hs _ (ss_m1 ⟨i, hi⟩).1) (fun i hi => hs _ (ss_m1 ⟨i, hi⟩).2.1) (fun i hi => hs _ (ss_m1 ⟨i, hi⟩).2.2.1) (fun i hi => hs _ (ss_m1 ⟨i, hi⟩).2.2.2) (fun i hi j hj => hs _ (ss_m2 ⟨i, hi⟩ ⟨j, by have := l6 i hi; omega⟩ hj)) (fun i j hi hj hne => by
    rcases Nat.lt_or_ge i j with z | z
    · exact Or.inl (hs _ (ss_m3 ⟨i, hi⟩ ⟨j, hj⟩ z))
    · exact Or.inr (hs _ (ss_m3 ⟨j, hj⟩ ⟨i, hi⟩ (by show j < i; omega)))) hA
  exact ⟨K, V, h1, fun i hi => vk_R.of (ht _ (ss_m5 ⟨i, hi⟩)) (h2 i hi), va_Zof (ht _ ss_m6.1) (ht _ ss_m6.2.2.1) (va_eqt (hs _ ss_m4.1)) hA, va_Zqof (ht _ ss_m6.2.1) (ht _ ss_m6.2.2.2) (hs _ ss_m4.2) hA⟩
