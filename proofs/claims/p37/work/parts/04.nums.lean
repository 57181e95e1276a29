/-! what the walk's values mean, and that its numbers are the machine's -/
def zi_dg : List zi_I → Nat → Prop
  | [], n => n = 0
  | r :: t, n => r.1 ≤ n % 26 ∧ n % 26 ≤ r.2 ∧ zi_dg t (n / 26)
def zi_in (r : zi_I) (n : Nat) : Prop := r.1 ≤ n ∧ n ≤ r.2
def zi_g (b : Nat) (ads : List Nat) : zi_V → Value → Prop
  | .inl r, v => ∃ x : Int32, v = .int x ∧ zi_in r (zi_o x)
  | .inr (.inl r), v => ∃ x : Int64, v = .long x ∧ zi_in r (zi_ol x)
  | .inr (.inr (.inl none)), v => v = .null
  | .inr (.inr (.inl (some k))), v => ∃ a, ads[k]? = some a ∧ v = .ref a
  | .inr (.inr (.inr (.inl _))), v => v = .ref b
  | .inr (.inr (.inr (.inr ds))), v => ∃ x : Int32, v = .int x ∧ 2147483648 ≤ zi_o x ∧ zi_dg ds (zi_o x - 2147483648)
def zi_a2 {α β : Type} (r : α → β → Prop) : List α → List β → Prop
  | [], [] => True
  | a :: as, b :: bs => r a b ∧ zi_a2 r as bs
  | _, _ => False
theorem zi_a2.cons {α β : Type} {r : α → β → Prop} {a : α} {as : List α} {bs : List β} (h : zi_a2 r (a :: as) bs) : ∃ b bs', bs = b :: bs' ∧ r a b ∧ zi_a2 r as bs' := by
  cases bs with
  | nil => exact h.elim
  | cons b bs' => exact ⟨b, bs', rfl, h.1, h.2⟩
theorem zi_a2.nil {α β : Type} {r : α → β → Prop} {bs : List β} (h : zi_a2 r ([] : List α) bs) : bs = [] := by
  cases bs with
  | nil => rfl
  | cons b bs' => exact h.elim
theorem zi_a2.len {α β : Type} {r : α → β → Prop} : ∀ {as : List α} {bs : List β}, zi_a2 r as bs → as.length = bs.length
  | [], [], _ => rfl
  | [], _ :: _, h => h.elim
  | _ :: _, [], h => h.elim
  | _ :: as, _ :: bs, h => by rw [List.length_cons, List.length_cons, zi_a2.len h.2]
theorem zi_a2.get {α β : Type} {r : α → β → Prop} : ∀ {as : List α} {bs : List β} {k : Nat} {a : α}, zi_a2 r as bs → as[k]? = some a → ∃ b, bs[k]? = some b ∧ r a b
  | [], _, _, _, _, h => by simp at h
  | _ :: _, [], _, _, h, _ => h.elim
  | a :: as, b :: bs, 0, x, h, q => by
    simp at q
    subst q
    exact ⟨b, rfl, h.1⟩
  | _ :: as, _ :: bs, k + 1, x, h, q => by
    simp at q
    obtain ⟨y, h1, h2⟩ := zi_a2.get h.2 q
    exact ⟨y, by simpa using h1, h2⟩
theorem zi_a2.set {α β : Type} {r : α → β → Prop} : ∀ {as : List α} {bs : List β} (k : Nat) {a : α} {b : β}, zi_a2 r as bs → r a b → zi_a2 r (as.set k a) (bs.set k b)
  | [], [], _, _, _, h, _ => h
  | [], _ :: _, _, _, _, h, _ => h.elim
  | _ :: _, [], _, _, _, h, _ => h.elim
  | _ :: _, _ :: _, 0, _, _, h, q => ⟨q, h.2⟩
  | _ :: _, _ :: _, k + 1, _, _, h, q => ⟨h.1, zi_a2.set k h.2 q⟩
theorem zi_a2.app {α β : Type} {r : α → β → Prop} : ∀ {as : List α} {bs : List β} {as' : List α} {bs' : List β}, zi_a2 r as bs → zi_a2 r as' bs' → zi_a2 r (as ++ as') (bs ++ bs')
  | [], [], _, _, _, q => q
  | [], _ :: _, _, _, h, _ => h.elim
  | _ :: _, [], _, _, h, _ => h.elim
  | _ :: _, _ :: _, _, _, h, q => ⟨h.1, zi_a2.app h.2 q⟩
theorem zi_a2.mono {α β : Type} {r r' : α → β → Prop} (hr : ∀ a b, r a b → r' a b) : ∀ {as : List α} {bs : List β}, zi_a2 r as bs → zi_a2 r' as bs
  | [], [], _ => trivial
  | [], _ :: _, h => h.elim
  | _ :: _, [], h => h.elim
  | _ :: _, _ :: _, h => ⟨hr _ _ h.1, zi_a2.mono hr h.2⟩
theorem zi_a2.filter {α β : Type} {r : α → β → Prop} {f : α → Bool} {g : β → Bool} (hr : ∀ a b, r a b → f a = g b) : ∀ {as : List α} {bs : List β}, zi_a2 r as bs → zi_a2 r (as.filter f) (bs.filter g)
  | [], [], _ => trivial
  | [], _ :: _, h => h.elim
  | _ :: _, [], h => h.elim
  | a :: as, b :: bs, h => by
    have e := hr a b h.1
    have t := zi_a2.filter hr h.2
    rw [List.filter_cons, List.filter_cons, ← e]
    split
    · exact ⟨h.1, t⟩
    · exact t
theorem zi_g.mono {b : Nat} {ads ads' : List Nat} (ha : ∀ (k a : Nat), ads[k]? = some a → ads'[k]? = some a) : ∀ (v : zi_V) (x : Value), zi_g b ads v x → zi_g b ads' v x
  | .inl _, _, h => h
  | .inr (.inl _), _, h => h
  | .inr (.inr (.inl none)), _, h => h
  | .inr (.inr (.inl (some _))), _, h => by
    obtain ⟨a, h1, h2⟩ := h
    exact ⟨a, ha _ _ h1, h2⟩
  | .inr (.inr (.inr (.inl _))), _, h => h
  | .inr (.inr (.inr (.inr _))), _, h => h
theorem zi_g.cat {b : Nat} {ads : List Nat} : ∀ (v : zi_V) (x : Value), zi_g b ads v x → x.category = zi_cat v
  | .inl _, _, h => by obtain ⟨x, rfl, _⟩ := h; rfl
  | .inr (.inl _), _, h => by obtain ⟨x, rfl, _⟩ := h; rfl
  | .inr (.inr (.inl none)), _, h => by cases h; rfl
  | .inr (.inr (.inl (some _))), _, h => by obtain ⟨x, _, rfl⟩ := h; rfl
  | .inr (.inr (.inr (.inl _))), _, h => by cases h; rfl
  | .inr (.inr (.inr (.inr _))), _, h => by obtain ⟨x, rfl, _⟩ := h; rfl
theorem zi_g.kd0 {b : Nat} {ads : List Nat} : ∀ (v : zi_V) (x : Value), zi_g b ads v x → zi_kd v = 0 → ∃ i : Int32, x = .int i
  | .inl _, _, h, _ => by obtain ⟨x, rfl, _⟩ := h; exact ⟨x, rfl⟩
  | .inr (.inl _), _, _, q => by cases q
  | .inr (.inr (.inl _)), _, _, q => by cases q
  | .inr (.inr (.inr (.inl _))), _, _, q => by cases q
  | .inr (.inr (.inr (.inr _))), _, h, _ => by obtain ⟨x, rfl, _⟩ := h; exact ⟨x, rfl⟩
theorem zi_g.kd1 {b : Nat} {ads : List Nat} : ∀ (v : zi_V) (x : Value), zi_g b ads v x → zi_kd v = 1 → ∃ i : Int64, x = .long i
  | .inl _, _, _, q => by cases q
  | .inr (.inl _), _, h, _ => by obtain ⟨x, rfl, _⟩ := h; exact ⟨x, rfl⟩
  | .inr (.inr (.inl _)), _, _, q => by cases q
  | .inr (.inr (.inr (.inl _))), _, _, q => by cases q
  | .inr (.inr (.inr (.inr _))), _, _, q => by cases q
theorem zi_g.kd2 {b : Nat} {ads : List Nat} : ∀ (v : zi_V) (x : Value), zi_g b ads v x → zi_kd v = 2 → x = .null ∨ ∃ a, x = .ref a
  | .inl _, _, _, q => by cases q
  | .inr (.inl _), _, _, q => by cases q
  | .inr (.inr (.inl none)), _, h, _ => Or.inl h
  | .inr (.inr (.inl (some _))), _, h, _ => by obtain ⟨x, _, rfl⟩ := h; exact Or.inr ⟨x, rfl⟩
  | .inr (.inr (.inr (.inl _))), _, h, _ => Or.inr ⟨_, h⟩
  | .inr (.inr (.inr (.inr _))), _, _, q => by cases q
-- numbers
theorem zi_oe (x : Int32) : (zi_o x : Int) = x.toInt + 2147483648 := by
  have h := x.le_toInt
  unfold zi_o
  omega
theorem zi_ob (x : Int32) : zi_o x ≤ 4294967295 := by
  have h := x.toInt_lt
  have q := zi_oe x
  omega
theorem zi_ole (x : Int64) : (zi_ol x : Int) = x.toInt + 9223372036854775808 := by
  have h := x.le_toInt
  unfold zi_ol
  omega
theorem zi_olb (x : Int64) : zi_ol x ≤ 18446744073709551615 := by
  have h := x.toInt_lt
  have q := zi_ole x
  omega
theorem zi_uo (x : Int32) : zi_u (zi_o x) = x := by
  unfold zi_u
  rw [zi_oe, show x.toInt + 2147483648 - 2147483648 = x.toInt by omega, Int32.ofInt_toInt]
theorem zi_ulo (x : Int64) : zi_ul (zi_ol x) = x := by
  unfold zi_ul
  rw [zi_ole, show x.toInt + 9223372036854775808 - 9223372036854775808 = x.toInt by omega, Int64.ofInt_toInt]
theorem zi_one_eq {r : zi_I} {n : Nat} (h : zi_one r = true) (h1 : zi_in r n) : r.1 = n := by
  have := Nat.eq_of_beq_eq_true h
  unfold zi_in at h1
  omega
theorem zi_one_eq' {r : zi_I} {n : Nat} (h : zi_one r = true) (h1 : zi_in r n) : r.2 = n := by
  have := Nat.eq_of_beq_eq_true h
  unfold zi_in at h1
  omega
theorem zi_top_in (x : Int32) : zi_in zi_top (zi_o x) := ⟨Nat.zero_le _, zi_ob x⟩
theorem zi_topl_in (x : Int64) : zi_in zi_topl (zi_ol x) := ⟨Nat.zero_le _, zi_olb x⟩
theorem zi_sg_ok {g : Int32 → Int32 → Int32} {a b : zi_I} {x y : Int32} (ha : zi_in a (zi_o x)) (hb : zi_in b (zi_o y)) : zi_in (zi_sg g a b) (zi_o (g x y)) := by
  unfold zi_sg
  cases h : (zi_one a && zi_one b) with
  | false => exact zi_top_in _
  | true =>
    obtain ⟨h1, h2⟩ := Bool.and_eq_true_iff.mp h
    rw [zi_one_eq h1 ha, zi_one_eq h2 hb, zi_uo, zi_uo]
    exact ⟨Nat.le_refl _, Nat.le_refl _⟩
theorem zi_sgl_ok {g : Int64 → Int64 → Int64} {a b : zi_I} {x y : Int64} (ha : zi_in a (zi_ol x)) (hb : zi_in b (zi_ol y)) : zi_in (zi_sgl g a b) (zi_ol (g x y)) := by
  unfold zi_sgl
  cases h : (zi_one a && zi_one b) with
  | false => exact zi_topl_in _
  | true =>
    obtain ⟨h1, h2⟩ := Bool.and_eq_true_iff.mp h
    rw [zi_one_eq h1 ha, zi_one_eq h2 hb, zi_ulo, zi_ulo]
    exact ⟨Nat.le_refl _, Nat.le_refl _⟩
theorem zi_sgs_ok {g : Int64 → Int32 → Int64} {a b : zi_I} {x : Int64} {y : Int32} (ha : zi_in a (zi_ol x)) (hb : zi_in b (zi_o y)) : zi_in (zi_sgs g a b) (zi_ol (g x y)) := by
  unfold zi_sgs
  cases h : (zi_one a && zi_one b) with
  | false => exact zi_topl_in _
  | true =>
    obtain ⟨h1, h2⟩ := Bool.and_eq_true_iff.mp h
    rw [zi_one_eq h1 ha, zi_one_eq h2 hb, zi_ulo, zi_uo]
    exact ⟨Nat.le_refl _, Nat.le_refl _⟩
theorem zi_bm {n : Int} (h1 : -2147483648 ≤ n) (h2 : n ≤ 2147483647) : n.bmod (2 ^ 32) = n := Int.bmod_eq_of_le (by omega) (by omega)
theorem zi_add_ok {a b : zi_I} {x y : Int32} (ha : zi_in a (zi_o x)) (hb : zi_in b (zi_o y)) : zi_in (zi_add a b) (zi_o (x + y)) := by
  unfold zi_add
  cases h : (Nat.ble 2147483648 (a.1 + b.1) && Nat.ble (a.2 + b.2) 6442450943) with
  | false => exact zi_sg_ok ha hb
  | true =>
    obtain ⟨h1, h2⟩ := Bool.and_eq_true_iff.mp h
    have h1 := Nat.le_of_ble_eq_true h1
    have h2 := Nat.le_of_ble_eq_true h2
    have e1 := zi_oe x
    have e2 := zi_oe y
    have e3 := zi_oe (x + y)
    unfold zi_in at ha hb
    rw [Int32.toInt_add, zi_bm (by omega) (by omega)] at e3
    show _ ≤ _ ∧ _ ≤ _
    dsimp only [cond_true]
    omega
theorem zi_sub_ok {a b : zi_I} {x y : Int32} (ha : zi_in a (zi_o x)) (hb : zi_in b (zi_o y)) : zi_in (zi_sub a b) (zi_o (x - y)) := by
  unfold zi_sub
  cases h : (Nat.ble b.2 (a.1 + 2147483648) && Nat.ble (a.2 + 2147483648) (b.1 + 4294967295)) with
  | false => exact zi_sg_ok (g := (· - ·)) ha hb
  | true =>
    obtain ⟨h1, h2⟩ := Bool.and_eq_true_iff.mp h
    have h1 := Nat.le_of_ble_eq_true h1
    have h2 := Nat.le_of_ble_eq_true h2
    have e1 := zi_oe x
    have e2 := zi_oe y
    have e3 := zi_oe (x - y)
    unfold zi_in at ha hb
    rw [Int32.toInt_sub, zi_bm (by omega) (by omega)] at e3
    show _ ≤ _ ∧ _ ≤ _
    dsimp only [cond_true]
    omega
theorem zi_mul_ok {a b : zi_I} {x y : Int32} (ha : zi_in a (zi_o x)) (hb : zi_in b (zi_o y)) : zi_in (zi_mul a b) (zi_o (x * y)) := by
  unfold zi_mul
  cases h : (Nat.ble 2147483648 a.1 && (Nat.ble 2147483648 b.1 && Nat.ble ((a.2 - 2147483648) * (b.2 - 2147483648)) 2147483647)) with
  | false => exact zi_sg_ok (g := (· * ·)) ha hb
  | true =>
    obtain ⟨h1, h2⟩ := Bool.and_eq_true_iff.mp h
    obtain ⟨h2, h3⟩ := Bool.and_eq_true_iff.mp h2
    have h1 := Nat.le_of_ble_eq_true h1
    have h2 := Nat.le_of_ble_eq_true h2
    have h3 := Nat.le_of_ble_eq_true h3
    have e1 := zi_oe x
    have e2 := zi_oe y
    have e3 := zi_oe (x * y)
    unfold zi_in at ha hb
    obtain ⟨u, hu⟩ : ∃ u : Nat, zi_o x = u + 2147483648 := ⟨zi_o x - 2147483648, by omega⟩
    obtain ⟨v, hv⟩ : ∃ v : Nat, zi_o y = v + 2147483648 := ⟨zi_o y - 2147483648, by omega⟩
    have ex : x.toInt = (u : Int) := by omega
    have ey : y.toInt = (v : Int) := by omega
    have m1 : u * v ≤ (a.2 - 2147483648) * (b.2 - 2147483648) := Nat.mul_le_mul (by omega) (by omega)
    have m2 : (a.1 - 2147483648) * (b.1 - 2147483648) ≤ u * v := Nat.mul_le_mul (by omega) (by omega)
    have em : x.toInt * y.toInt = ((u * v : Nat) : Int) := by rw [ex, ey]; exact (Int.natCast_mul u v).symm
    rw [Int32.toInt_mul, em, zi_bm (by omega) (by omega)] at e3
    show _ ≤ _ ∧ _ ≤ _
    dsimp only [cond_true]
    omega
theorem zi_shr0 (y : Int32) : (0 : Int32) >>> y = 0 := by
  apply Int32.toBitVec_inj.mp
  simp
theorem zi_dg_hull : ∀ (ds : List zi_I) (n : Nat), zi_dg ds n → zi_dlo ds ≤ n ∧ n ≤ zi_dhi ds
  | [], n, h => by cases (show n = 0 from h); exact ⟨Nat.le_refl _, Nat.le_refl _⟩
  | r :: t, n, h => by
    have q := zi_dg_hull t (n / 26) h.2.2
    have h1 := h.1
    have h2 := h.2.1
    show r.1 + 26 * zi_dlo t ≤ n ∧ n ≤ r.2 + 26 * zi_dhi t
    omega
theorem zi_iv_ok {b : Nat} {ads : List Nat} : ∀ (v : zi_V) {r : zi_I} {x : Value}, zi_iv v = some r → zi_g b ads v x → ∃ i : Int32, x = .int i ∧ zi_in r (zi_o i)
  | .inl _, r, x, h, q => by cases h; exact q
  | .inr (.inl _), _, _, h, _ => by cases h
  | .inr (.inr (.inl _)), _, _, h, _ => by cases h
  | .inr (.inr (.inr (.inl _))), _, _, h, _ => by cases h
  | .inr (.inr (.inr (.inr ds))), r, x, h, q => by
    cases h
    obtain ⟨i, rfl, h1, h2⟩ := q
    have h3 := zi_dg_hull _ _ h2
    refine ⟨i, rfl, ?_⟩
    show _ ≤ _ ∧ _ ≤ _
    dsimp only
    omega
theorem zi_lv_ok {b : Nat} {ads : List Nat} : ∀ (v : zi_V) {r : zi_I} {x : Value}, zi_lv v = some r → zi_g b ads v x → ∃ i : Int64, x = .long i ∧ zi_in r (zi_ol i)
  | .inl _, _, _, h, _ => by cases h
  | .inr (.inl _), r, x, h, q => by cases h; exact q
  | .inr (.inr _), _, _, h, _ => by cases h
theorem zi_n0_ok {b : zi_I} {y : Int32} (h : zi_n0 b = true) (hb : zi_in b (zi_o y)) : ¬ y = 0 := by
  intro q
  subst q
  have e : zi_o 0 = 2147483648 := by decide
  rw [e] at hb
  unfold zi_in at hb
  rcases Bool.or_eq_true_iff.mp h with h | h
  · have := Nat.le_of_ble_eq_true h; omega
  · have := Nat.le_of_ble_eq_true h; omega
theorem zi_n0l_ok {b : zi_I} {y : Int64} (h : zi_n0l b = true) (hb : zi_in b (zi_ol y)) : ¬ y = 0 := by
  intro q
  subst q
  have e : zi_ol 0 = 9223372036854775808 := by decide
  rw [e] at hb
  unfold zi_in at hb
  rcases Bool.or_eq_true_iff.mp h with h | h
  · have := Nat.le_of_ble_eq_true h; omega
  · have := Nat.le_of_ble_eq_true h; omega
/-- of a number that isn't below 0 by one above 0 -/
theorem zi_quo {x y : Int32} {u v : Nat} (hx : x.toInt = (u : Int)) (hy : y.toInt = (v : Int)) (hv : 0 < v) : (x / y).toInt = ((u / v : Nat) : Int) := by
  have hb := x.toInt_lt
  rw [Int32.toInt_div, hx, hy, ← Int.ofNat_tdiv]
  have h1 : u / v ≤ u := Nat.div_le_self u v
  generalize u / v = q at h1 ⊢
  exact zi_bm (by omega) (by omega)
theorem zi_mod {x y : Int32} {u v : Nat} (hx : x.toInt = (u : Int)) (hy : y.toInt = (v : Int)) (hv : 0 < v) : (x - x / y * y).toInt = ((u % v : Nat) : Int) := by
  have hq := zi_quo hx hy hv
  have hb := x.toInt_lt
  have h0 := Nat.div_add_mod u v
  have h1 := Nat.mod_le u v
  have h2 : u / v * v ≤ u := Nat.div_mul_le_self u v
  have e : (x / y * y).toInt = ((u / v * v : Nat) : Int) := by
    rw [Int32.toInt_mul, hq, hy, ← Int.natCast_mul]
    exact zi_bm (by omega) (by omega)
  rw [Int32.toInt_sub, e, hx]
  have h3 : (u : Int) - ((u / v * v : Nat) : Int) = ((u % v : Nat) : Int) := by
    have : u / v * v = v * (u / v) := Nat.mul_comm _ _
    omega
  rw [h3]
  exact zi_bm (by omega) (by omega)
theorem zi_divi_ok {a b : zi_I} {x y : Int32} (ha : zi_in a (zi_o x)) (hb : zi_in b (zi_o y)) : zi_in (zi_divi a b) (zi_o (x / y)) := by
  unfold zi_divi
  cases h : (zi_one b && Nat.ble 2147483649 b.1 && Nat.ble 2147483648 a.1) with
  | false => exact zi_sg_ok (g := (· / ·)) ha hb
  | true =>
    obtain ⟨h1, h3⟩ := Bool.and_eq_true_iff.mp h
    obtain ⟨h1, h2⟩ := Bool.and_eq_true_iff.mp h1
    have h2 := Nat.le_of_ble_eq_true h2
    have h3 := Nat.le_of_ble_eq_true h3
    have eb := zi_one_eq h1 hb
    have e1 := zi_oe x
    have e2 := zi_oe y
    have e3 := zi_oe (x / y)
    unfold zi_in at ha hb
    obtain ⟨u, hu⟩ : ∃ u : Nat, zi_o x = u + 2147483648 := ⟨zi_o x - 2147483648, by omega⟩
    obtain ⟨v, hv⟩ : ∃ v : Nat, zi_o y = v + 2147483648 := ⟨zi_o y - 2147483648, by omega⟩
    rw [zi_quo (u := u) (v := v) (by omega) (by omega) (by omega)] at e3
    have m1 : (a.1 - 2147483648) / v ≤ u / v := Nat.div_le_div_right (by omega)
    have m2 : u / v ≤ (a.2 - 2147483648) / v := Nat.div_le_div_right (by omega)
    have ev : b.1 - 2147483648 = v := by omega
    show _ ≤ _ ∧ _ ≤ _
    dsimp only [cond_true]
    rw [ev]
    omega
set_option maxRecDepth 100000 in
theorem zi_remi_ok {a b : zi_I} {x y : Int32} (ha : zi_in a (zi_o x)) (hb : zi_in b (zi_o y)) : zi_in (zi_remi a b) (zi_o (x - x / y * y)) := by
  unfold zi_remi
  cases h : (zi_one b && Nat.ble 2147483649 b.1 && Nat.ble 2147483648 a.1 && Nat.beq ((a.1 - 2147483648) / (b.1 - 2147483648)) ((a.2 - 2147483648) / (b.1 - 2147483648))) with
  | false => exact zi_sg_ok (g := fun a b => a - a / b * b) ha hb
  | true =>
    obtain ⟨h1, h4⟩ := Bool.and_eq_true_iff.mp h
    obtain ⟨h1, h3⟩ := Bool.and_eq_true_iff.mp h1
    obtain ⟨h1, h2⟩ := Bool.and_eq_true_iff.mp h1
    have h2 := Nat.le_of_ble_eq_true h2
    have h3 := Nat.le_of_ble_eq_true h3
    have h4 := Nat.eq_of_beq_eq_true h4
    have eb := zi_one_eq h1 hb
    have e1 := zi_oe x
    have e2 := zi_oe y
    have e3 := zi_oe (x - x / y * y)
    unfold zi_in at ha hb
    obtain ⟨u, hu⟩ : ∃ u : Nat, zi_o x = u + 2147483648 := ⟨zi_o x - 2147483648, by omega⟩
    obtain ⟨v, hv⟩ : ∃ v : Nat, zi_o y = v + 2147483648 := ⟨zi_o y - 2147483648, by omega⟩
    rw [zi_mod (u := u) (v := v) (by omega) (by omega) (by omega)] at e3
    have ev : b.1 - 2147483648 = v := by omega
    rw [ev] at h4
    have m1 : (a.1 - 2147483648) / v ≤ u / v := Nat.div_le_div_right (by omega)
    have m2 : u / v ≤ (a.2 - 2147483648) / v := Nat.div_le_div_right (by omega)
    have d1 := Nat.div_add_mod (a.1 - 2147483648) v
    have d2 := Nat.div_add_mod (a.2 - 2147483648) v
    have d3 := Nat.div_add_mod u v
    have e4 : (a.1 - 2147483648) / v = u / v := Nat.le_antisymm m1 (by rw [h4]; exact m2)
    have e5 : (a.2 - 2147483648) / v = u / v := h4.symm.trans e4
    rw [e4] at d1
    rw [e5] at d2
    show _ ≤ _ ∧ _ ≤ _
    dsimp only [cond_true]
    rw [ev]
    have k1 : (a.1 - 2147483648) % v ≤ u % v := by omega
    have k2 : u % v ≤ (a.2 - 2147483648) % v := by omega
    have e6 : zi_o (x - x / y * y) = u % v + 2147483648 := by omega
    rw [e6]
    exact ⟨Nat.add_le_add_right k1 _, Nat.add_le_add_right k2 _⟩
theorem zi_dg_tail {ds : List zi_I} {n : Nat} (h : zi_dg ds n) : zi_dg ds.tail (n / 26) := by
  cases ds with
  | nil => cases (show n = 0 from h); rfl
  | cons r t => exact h.2.2
theorem zi_dig_eq : ∀ {a : zi_V} {ds : List zi_I}, zi_dig a = some ds → a = .inr (.inr (.inr (.inr ds)))
  | .inl _, _, h => by cases h
  | .inr (.inl _), _, h => by cases h
  | .inr (.inr (.inl _)), _, h => by cases h
  | .inr (.inr (.inr (.inl _))), _, h => by cases h
  | .inr (.inr (.inr (.inr _))), _, h => by cases h; rfl
theorem zi_div_ok {b : Nat} {ads : List Nat} {a : zi_V} {xa yb : zi_I} {x y : Int32} (hg : zi_g b ads a (.int x)) (ha : zi_in xa (zi_o x)) (hb : zi_in yb (zi_o y)) : zi_g b ads (zi_div a xa yb) (.int (x / y)) := by
  have alt : zi_g b ads (.inl (zi_divi xa yb)) (.int (x / y)) := ⟨_, rfl, zi_divi_ok ha hb⟩
  have main : ∀ (ds : List zi_I) (k : Nat), zi_dig a = some ds → 0 < k → zi_one yb = true → yb.1 = k + 2147483648 → 2147483648 ≤ zi_o (x / y) ∧ zi_o (x / y) - 2147483648 = (zi_o x - 2147483648) / k := by
    intro ds k hd hk h1 h2
    rw [zi_dig_eq hd] at hg
    obtain ⟨i, hi, g1, g2⟩ := hg
    cases hi
    have eb := zi_one_eq h1 hb
    have e1 := zi_oe x
    have e2 := zi_oe y
    have e3 := zi_oe (x / y)
    obtain ⟨u, hu⟩ : ∃ u : Nat, zi_o x = u + 2147483648 := ⟨zi_o x - 2147483648, by omega⟩
    rw [zi_quo (u := u) (v := k) (by omega) (by omega) hk] at e3
    have e4 : zi_o x - 2147483648 = u := by omega
    rw [e4]
    generalize u / k = q at e3 ⊢
    omega
  unfold zi_div
  split
  · rename_i ds hd
    cases h : (zi_one yb && Nat.beq yb.1 2147483674) with
    | true =>
      obtain ⟨h1, h2⟩ := Bool.and_eq_true_iff.mp h
      have h2 := Nat.eq_of_beq_eq_true h2
      obtain ⟨m1, m2⟩ := main ds 26 hd (by omega) h1 (by omega)
      rw [zi_dig_eq hd] at hg
      obtain ⟨i, hi, g1, g2⟩ := hg
      cases hi
      refine ⟨_, rfl, m1, ?_⟩
      rw [m2]
      exact zi_dg_tail g2
    | false =>
      cases h' : (zi_one yb && Nat.beq yb.1 2147484324) with
      | true =>
        obtain ⟨h1, h2⟩ := Bool.and_eq_true_iff.mp h'
        have h2 := Nat.eq_of_beq_eq_true h2
        obtain ⟨m1, m2⟩ := main ds 676 hd (by omega) h1 (by omega)
        rw [zi_dig_eq hd] at hg
        obtain ⟨i, hi, g1, g2⟩ := hg
        cases hi
        refine ⟨_, rfl, m1, ?_⟩
        rw [m2, show (676 : Nat) = 26 * 26 from rfl, ← Nat.div_div_eq_div_mul]
        exact zi_dg_tail (zi_dg_tail g2)
      | false => exact alt
  · exact alt
theorem zi_rem_ok {b : Nat} {ads : List Nat} {a : zi_V} {xa yb : zi_I} {x y : Int32} (hg : zi_g b ads a (.int x)) (ha : zi_in xa (zi_o x)) (hb : zi_in yb (zi_o y)) : zi_g b ads (zi_rem a xa yb) (.int (x - x / y * y)) := by
  have alt : zi_g b ads (.inl (zi_remi xa yb)) (.int (x - x / y * y)) := ⟨_, rfl, zi_remi_ok ha hb⟩
  unfold zi_rem
  split
  · rename_i r t hd
    cases h : (zi_one yb && Nat.beq yb.1 2147483674) with
    | true =>
      obtain ⟨h1, h2⟩ := Bool.and_eq_true_iff.mp h
      have h2 := Nat.eq_of_beq_eq_true h2
      rw [zi_dig_eq hd] at hg
      obtain ⟨i, hi, g1, g2⟩ := hg
      cases hi
      have eb := zi_one_eq h1 hb
      have e1 := zi_oe x
      have e2 := zi_oe y
      have e3 := zi_oe (x - x / y * y)
      obtain ⟨u, hu⟩ : ∃ u : Nat, zi_o x = u + 2147483648 := ⟨zi_o x - 2147483648, by omega⟩
      rw [zi_mod (u := u) (v := 26) (by omega) (by omega) (by omega)] at e3
      have e4 : zi_o x - 2147483648 = u := by omega
      rw [e4] at g2
      have g3 := g2.1
      have g4 := g2.2.1
      refine ⟨_, rfl, ?_⟩
      show _ ≤ _ ∧ _ ≤ _
      dsimp only
      omega
    | false => exact alt
  · exact alt
theorem zi_lt_ok {a b : zi_I} {x y : Int32} {t : Bool} (ha : zi_in a (zi_o x)) (hb : zi_in b (zi_o y)) (h : zi_lt a b = some t) : t = decide (x < y) := by
  have e1 := zi_oe x
  have e2 := zi_oe y
  unfold zi_in at ha hb
  unfold zi_lt at h
  cases h1 : Nat.blt a.2 b.1 with
  | true =>
    rw [h1] at h
    cases h
    have := Nat.le_of_ble_eq_true h1
    exact (decide_eq_true (Int32.lt_iff_toInt_lt.mpr (by omega))).symm
  | false =>
    rw [h1] at h
    cases h2 : Nat.ble b.2 a.1 with
    | true =>
      rw [h2] at h
      cases h
      have := Nat.le_of_ble_eq_true h2
      exact (decide_eq_false (fun q => by have := Int32.lt_iff_toInt_lt.mp q; omega)).symm
    | false => rw [h2] at h; cases h
theorem zi_le_ok {a b : zi_I} {x y : Int32} {t : Bool} (ha : zi_in a (zi_o x)) (hb : zi_in b (zi_o y)) (h : zi_le a b = some t) : t = decide (x ≤ y) := by
  have e1 := zi_oe x
  have e2 := zi_oe y
  unfold zi_in at ha hb
  unfold zi_le at h
  cases h1 : Nat.ble a.2 b.1 with
  | true =>
    rw [h1] at h
    cases h
    have := Nat.le_of_ble_eq_true h1
    exact (decide_eq_true (Int32.le_iff_toInt_le.mpr (by omega))).symm
  | false =>
    rw [h1] at h
    cases h2 : Nat.blt b.2 a.1 with
    | true =>
      rw [h2] at h
      cases h
      have := Nat.le_of_ble_eq_true h2
      exact (decide_eq_false (fun q => by have := Int32.le_iff_toInt_le.mp q; omega)).symm
    | false => rw [h2] at h; cases h
theorem zi_eq_ok {a b : zi_I} {x y : Int32} {t : Bool} (ha : zi_in a (zi_o x)) (hb : zi_in b (zi_o y)) (h : zi_eq a b = some t) : t = decide (x = y) := by
  have e1 := zi_oe x
  have e2 := zi_oe y
  unfold zi_eq at h
  cases h1 : (zi_one a && (zi_one b && Nat.beq a.1 b.1)) with
  | true =>
    rw [h1] at h
    cases h
    obtain ⟨q1, q2⟩ := Bool.and_eq_true_iff.mp h1
    obtain ⟨q2, q3⟩ := Bool.and_eq_true_iff.mp q2
    have q3 := Nat.eq_of_beq_eq_true q3
    have q1 := zi_one_eq q1 ha
    have q2 := zi_one_eq q2 hb
    exact (decide_eq_true (Int32.toInt_inj.mp (by omega))).symm
  | false =>
    rw [h1] at h
    unfold zi_in at ha hb
    cases h2 : (Nat.blt a.2 b.1 || Nat.blt b.2 a.1) with
    | true =>
      rw [h2] at h
      cases h
      refine (decide_eq_false (fun q => ?_)).symm
      subst q
      rcases Bool.or_eq_true_iff.mp h2 with q | q
      · have := Nat.le_of_ble_eq_true q; omega
      · have := Nat.le_of_ble_eq_true q; omega
    | false => rw [h2] at h; cases h
theorem zi_not_ok {o : Option Bool} {t : Bool} (h : zi_not o = some t) : ∃ u, o = some u ∧ t = !u := by
  cases o with
  | none => cases h
  | some u => cases h; exact ⟨u, rfl, rfl⟩
theorem zi_cmpl_ok {a b : zi_I} {x y : Int64} (ha : zi_in a (zi_ol x)) (hb : zi_in b (zi_ol y)) : zi_in (zi_cmpl a b) (zi_o (lg_cmp x y)) := by
  have e1 := zi_ole x
  have e2 := zi_ole y
  have c1 : zi_o (-1) = 2147483647 := by decide
  have c2 : zi_o 0 = 2147483648 := by decide
  have c3 : zi_o 1 = 2147483649 := by decide
  have hlt : x < y ↔ x.toInt < y.toInt := Int64.lt_iff_toInt_lt
  have hgt : x > y ↔ y.toInt < x.toInt := Int64.lt_iff_toInt_lt
  have heq : x = y ↔ x.toInt = y.toInt := ⟨fun h => by rw [h], fun h => Int64.toInt_inj.mp h⟩
  have main : ((zi_o (lg_cmp x y) = 2147483647 ∧ x.toInt < y.toInt) ∨ (zi_o (lg_cmp x y) = 2147483648 ∧ x.toInt = y.toInt)) ∨ (zi_o (lg_cmp x y) = 2147483649 ∧ y.toInt < x.toInt) := by
    unfold lg_cmp
    split
    · rename_i h; exact Or.inr ⟨c3, hgt.mp h⟩
    · rename_i h
      split
      · rename_i h'; exact Or.inl (Or.inr ⟨c2, heq.mp h'⟩)
      · rename_i h'
        refine Or.inl (Or.inl ⟨c1, ?_⟩)
        have n1 : ¬ y.toInt < x.toInt := fun q => h (hgt.mpr q)
        have n2 : ¬ x.toInt = y.toInt := fun q => h' (heq.mpr q)
        omega
  unfold zi_cmpl
  have ha' := ha
  have hb' := hb
  unfold zi_in at ha hb
  cases h1 : Nat.blt a.2 b.1 with
  | true => have := Nat.le_of_ble_eq_true h1; show _ ≤ _ ∧ _ ≤ _; dsimp only [cond_true]; omega
  | false =>
    cases h2 : Nat.blt b.2 a.1 with
    | true => have := Nat.le_of_ble_eq_true h2; show _ ≤ _ ∧ _ ≤ _; dsimp only [cond_true, cond_false]; omega
    | false =>
      cases h3 : (zi_one a && (zi_one b && Nat.beq a.1 b.1)) with
      | true =>
        obtain ⟨q1, q2⟩ := Bool.and_eq_true_iff.mp h3
        obtain ⟨q2, q3⟩ := Bool.and_eq_true_iff.mp q2
        have q3 := Nat.eq_of_beq_eq_true q3
        have q1 := zi_one_eq q1 ha'
        have q2 := zi_one_eq q2 hb'
        show _ ≤ _ ∧ _ ≤ _
        dsimp only [cond_true, cond_false]
        omega
      | false =>
        cases h4 : Nat.ble b.2 a.1 with
        | true => have := Nat.le_of_ble_eq_true h4; show _ ≤ _ ∧ _ ≤ _; dsimp only [cond_true, cond_false]; omega
        | false =>
          cases h5 : Nat.ble a.2 b.1 with
          | true => have := Nat.le_of_ble_eq_true h5; show _ ≤ _ ∧ _ ≤ _; dsimp only [cond_true, cond_false]; omega
          | false => show _ ≤ _ ∧ _ ≤ _; dsimp only [cond_false]; omega
theorem zi_l2i_ok {a : zi_I} {x : Int64} (ha : zi_in a (zi_ol x)) : zi_in (zi_l2if a) (zi_o x.toInt32) := by
  unfold zi_l2if
  cases h : zi_one a with
  | false => exact zi_top_in _
  | true => rw [zi_one_eq h ha, zi_ulo]; exact ⟨Nat.le_refl _, Nat.le_refl _⟩
theorem zi_i2b_ok {a : zi_I} {x : Int32} (ha : zi_in a (zi_o x)) : zi_in (zi_i2bf a) (zi_o x.toInt8.toInt32) := by
  unfold zi_i2bf
  cases h : zi_one a with
  | false =>
    have e := zi_oe x.toInt8.toInt32
    rw [Int8.toInt_toInt32] at e
    have h1 := x.toInt8.le_toInt
    have h2 := x.toInt8.toInt_lt
    show _ ≤ _ ∧ _ ≤ _
    dsimp only [cond_false]
    omega
  | true => rw [zi_one_eq h ha, zi_uo]; exact ⟨Nat.le_refl _, Nat.le_refl _⟩
theorem zi_i2s_ok {a : zi_I} {x : Int32} (ha : zi_in a (zi_o x)) : zi_in (zi_i2sf a) (zi_o x.toInt16.toInt32) := by
  unfold zi_i2sf
  cases h : zi_one a with
  | false =>
    have e := zi_oe x.toInt16.toInt32
    rw [Int16.toInt_toInt32] at e
    have h1 := x.toInt16.le_toInt
    have h2 := x.toInt16.toInt_lt
    show _ ≤ _ ∧ _ ≤ _
    dsimp only [cond_false]
    omega
  | true => rw [zi_one_eq h ha, zi_uo]; exact ⟨Nat.le_refl _, Nat.le_refl _⟩
theorem zi_i2l_ok {a : zi_I} {x : Int32} (ha : zi_in a (zi_o x)) : zi_in (a.1 + 9223372034707292160, a.2 + 9223372034707292160) (zi_ol x.toInt64) := by
  have e := zi_ole x.toInt64
  rw [Int32.toInt_toInt64] at e
  have e1 := zi_oe x
  unfold zi_in at ha
  show _ ≤ _ ∧ _ ≤ _
  dsimp only
  omega
theorem zi_nn {x : Int32} {u : Nat} (h : zi_o x = u + 2147483648) : x.toBitVec.toNat = u ∧ u < 2147483648 := by
  have e := zi_oe x
  have hb := zi_ob x
  have e2 : x.toInt = x.toBitVec.toInt := rfl
  have e3 := BitVec.toInt_eq_toNat_cond x.toBitVec
  have e4 := x.toBitVec.isLt
  rw [e2, e3] at e
  split at e <;> omega
theorem zi_ofnn {z : Int32} {v : Nat} (h : z.toBitVec.toNat = v) (hv : v < 2147483648) : zi_o z = v + 2147483648 := by
  have e := zi_oe z
  have e2 : z.toInt = z.toBitVec.toInt := rfl
  have e3 := BitVec.toInt_eq_toNat_cond z.toBitVec
  rw [e2, e3, h] at e
  split at e <;> omega
theorem zi_and_ok {a b : zi_I} {x y : Int32} (ha : zi_in a (zi_o x)) (hb : zi_in b (zi_o y)) : zi_in (zi_and a b) (zi_o (x &&& y)) := by
  unfold zi_and
  cases h : (zi_one b && Nat.ble 2147483648 b.1) with
  | false => exact zi_sg_ok (g := (· &&& ·)) ha hb
  | true =>
    obtain ⟨h1, h2⟩ := Bool.and_eq_true_iff.mp h
    have h2 := Nat.le_of_ble_eq_true h2
    have eb := zi_one_eq h1 hb
    obtain ⟨v, hv⟩ : ∃ v : Nat, v = b.1 - 2147483648 := ⟨_, rfl⟩
    obtain ⟨n1, n2⟩ := zi_nn (x := y) (u := v) (by omega)
    have hand : (x &&& y).toBitVec.toNat = x.toBitVec.toNat &&& v := by
      rw [Int32.toBitVec_and, BitVec.toNat_and, n1]
    have hle : x.toBitVec.toNat &&& v ≤ v := Nat.and_le_right
    have hres := zi_ofnn hand (by omega)
    cases h' : (zi_one a && Nat.ble 2147483648 a.1) with
    | false =>
      show _ ≤ _ ∧ _ ≤ _
      dsimp only [cond_true, cond_false]
      omega
    | true =>
      obtain ⟨g1, g2⟩ := Bool.and_eq_true_iff.mp h'
      have g2 := Nat.le_of_ble_eq_true g2
      have ea := zi_one_eq g1 ha
      obtain ⟨u, hu⟩ : ∃ u : Nat, u = a.1 - 2147483648 := ⟨_, rfl⟩
      obtain ⟨m1, m2⟩ := zi_nn (x := x) (u := u) (by omega)
      rw [m1] at hres
      rw [hres, ← hu, ← hv]
      exact ⟨Nat.le_refl _, Nat.le_refl _⟩
theorem zi_or_ok {a b : zi_I} {x y : Int32} (ha : zi_in a (zi_o x)) (hb : zi_in b (zi_o y)) : zi_in (zi_or a b) (zi_o (x ||| y)) := by
  unfold zi_or
  cases h : (zi_one b && Nat.ble 2147483648 b.1 && zi_one a && Nat.ble 2147483648 a.1) with
  | false => exact zi_sg_ok (g := (· ||| ·)) ha hb
  | true =>
    obtain ⟨h1, g2⟩ := Bool.and_eq_true_iff.mp h
    obtain ⟨h1, g1⟩ := Bool.and_eq_true_iff.mp h1
    obtain ⟨h1, h2⟩ := Bool.and_eq_true_iff.mp h1
    have h2 := Nat.le_of_ble_eq_true h2
    have eb := zi_one_eq h1 hb
    obtain ⟨v, hv⟩ : ∃ v : Nat, v = b.1 - 2147483648 := ⟨_, rfl⟩
    obtain ⟨n1, n2⟩ := zi_nn (x := y) (u := v) (by omega)
    have g2 := Nat.le_of_ble_eq_true g2
    have ea := zi_one_eq g1 ha
    obtain ⟨u, hu⟩ : ∃ u : Nat, u = a.1 - 2147483648 := ⟨_, rfl⟩
    obtain ⟨m1, m2⟩ := zi_nn (x := x) (u := u) (by omega)
    have hor : (x ||| y).toBitVec.toNat = u ||| v := by
      rw [Int32.toBitVec_or, BitVec.toNat_or, n1, m1]
    have hlt : u ||| v < 2 ^ 31 := Nat.or_lt_two_pow (by omega) (by omega)
    have hres := zi_ofnn hor (by omega)
    rw [hres, ← hu, ← hv]
    exact ⟨Nat.le_refl _, Nat.le_refl _⟩
theorem zi_k31 : ∀ k : Nat, k < 32 → ((zi_u (k + 2147483648) &&& 31).toBitVec.smod 32).toNat = k := by decide
theorem zi_y31 {y : Int32} {k : Nat} (h : zi_o y = k + 2147483648) (hk : k < 32) : ((y &&& 31).toBitVec.smod 32).toNat = k := by
  have e := zi_uo y
  rw [h] at e
  rw [← e]
  exact zi_k31 k hk
theorem zi_shr_ok {a b : zi_I} {x y : Int32} (ha : zi_in a (zi_o x)) (hb : zi_in b (zi_o y)) : zi_in (zi_shr a b) (zi_o (x >>> (y &&& 31))) := by
  unfold zi_shr
  cases h : (Nat.beq a.1 2147483648 && Nat.beq a.2 2147483648) with
  | true =>
    obtain ⟨h1, h2⟩ := Bool.and_eq_true_iff.mp h
    have h1 := Nat.eq_of_beq_eq_true h1
    have h2 := Nat.eq_of_beq_eq_true h2
    have e1 := zi_oe x
    have hx : x = 0 := by
      apply Int32.toInt_inj.mp
      unfold zi_in at ha
      show x.toInt = 0
      omega
    subst hx
    rw [zi_shr0]
    exact ha
  | false =>
    cases h' : (zi_one b && Nat.ble 2147483648 b.1 && Nat.ble b.1 2147483679 && zi_one a && Nat.ble 2147483648 a.1) with
    | false => exact zi_sg_ok (g := fun a b => a >>> (b &&& 31)) ha hb
    | true =>
      obtain ⟨h1, h5⟩ := Bool.and_eq_true_iff.mp h'
      obtain ⟨h1, h4⟩ := Bool.and_eq_true_iff.mp h1
      obtain ⟨h1, h3⟩ := Bool.and_eq_true_iff.mp h1
      obtain ⟨h1, h2⟩ := Bool.and_eq_true_iff.mp h1
      have h2 := Nat.le_of_ble_eq_true h2
      have h3 := Nat.le_of_ble_eq_true h3
      have h5 := Nat.le_of_ble_eq_true h5
      have eb := zi_one_eq h1 hb
      have ea := zi_one_eq h4 ha
      obtain ⟨k, hk⟩ : ∃ k : Nat, k = b.1 - 2147483648 := ⟨_, rfl⟩
      obtain ⟨u, hu⟩ : ∃ u : Nat, u = a.1 - 2147483648 := ⟨_, rfl⟩
      have ek := zi_y31 (y := y) (k := k) (by omega) (by omega)
      have e1 := zi_oe x
      have e2 := zi_oe (x >>> (y &&& 31))
      have e3 : (x >>> (y &&& 31)).toInt = x.toInt >>> k := by
        show (BitVec.sshiftRight' x.toBitVec ((y &&& 31).toBitVec.smod 32)).toInt = _
        rw [BitVec.sshiftRight', ek, BitVec.toInt_sshiftRight]
        rfl
      have e4 : x.toInt = (u : Int) := by omega
      have e5 : ((u : Int) >>> k) = ((u >>> k : Nat) : Int) := rfl
      rw [e3, e4, e5] at e2
      rw [← hk, ← hu]
      have e6 : zi_o (x >>> (y &&& 31)) = Nat.shiftRight u k + 2147483648 := by
        show _ = (u >>> k) + 2147483648
        generalize u >>> k = w at e2
        omega
      rw [e6]
      exact ⟨Nat.le_refl _, Nat.le_refl _⟩
theorem zi_shl_ok {a b : zi_I} {x y : Int32} (ha : zi_in a (zi_o x)) (hb : zi_in b (zi_o y)) : zi_in (zi_shl a b) (zi_o (x <<< (y &&& 31))) := by
  unfold zi_shl
  cases h' : (zi_one b && Nat.ble 2147483648 b.1 && Nat.ble b.1 2147483679 && zi_one a && Nat.ble 2147483648 a.1 && Nat.ble (Nat.shiftLeft (a.1 - 2147483648) (b.1 - 2147483648)) 2147483647) with
  | false => exact zi_sg_ok (g := fun a b => a <<< (b &&& 31)) ha hb
  | true =>
    obtain ⟨h1, h6⟩ := Bool.and_eq_true_iff.mp h'
    obtain ⟨h1, h5⟩ := Bool.and_eq_true_iff.mp h1
    obtain ⟨h1, h4⟩ := Bool.and_eq_true_iff.mp h1
    obtain ⟨h1, h3⟩ := Bool.and_eq_true_iff.mp h1
    obtain ⟨h1, h2⟩ := Bool.and_eq_true_iff.mp h1
    have h2 := Nat.le_of_ble_eq_true h2
    have h3 := Nat.le_of_ble_eq_true h3
    have h5 := Nat.le_of_ble_eq_true h5
    have h6 := Nat.le_of_ble_eq_true h6
    have eb := zi_one_eq h1 hb
    have ea := zi_one_eq h4 ha
    obtain ⟨k, hk⟩ : ∃ k : Nat, k = b.1 - 2147483648 := ⟨_, rfl⟩
    obtain ⟨u, hu⟩ : ∃ u : Nat, u = a.1 - 2147483648 := ⟨_, rfl⟩
    rw [← hk, ← hu] at h6
    have ek := zi_y31 (y := y) (k := k) (by omega) (by omega)
    obtain ⟨m1, m2⟩ := zi_nn (x := x) (u := u) (by omega)
    have h6' : u <<< k ≤ 2147483647 := h6
    have e3 : (x <<< (y &&& 31)).toBitVec.toNat = u <<< k := by
      show (x.toBitVec <<< ((y &&& 31).toBitVec.smod 32)).toNat = _
      rw [BitVec.shiftLeft_eq', ek, BitVec.toNat_shiftLeft, m1]
      exact Nat.mod_eq_of_lt (by omega)
    have hres := zi_ofnn e3 (by omega)
    rw [hres, ← hk, ← hu]
    exact ⟨Nat.le_refl _, Nat.le_refl _⟩
