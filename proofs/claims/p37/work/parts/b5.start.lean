/-! the memory behind the constructors, and that both are alike there -/
noncomputable section
def m0 (ws : va_W) : pm := fun q i => match ws[q]? with
  | some (_, .inl (_, _, .inl f)) => (f i.toNat).toInt
  | some (_, .inr (_, vs)) => (match vs[i.toNat]? with
    | some (.int x) => x.toInt
    | _ => 0)
  | _ => 0
def r0 : pm := fun q i => match zi_wg zs_w q with
  | some (.inl (_, l)) => (match l[i.toNat]? with
    | some r => (r.1 : Int) - 2147483648
    | none => 0)
  | some (.inr (_, vs)) => (match vs[i.toNat]? with
    | some (.inl r) => (r.1 : Int) - 2147483648
    | _ => 0)
  | none => 0
def zk_fs : List (Option Value) → List zi_V → Bool
  | [], [] => true
  | none :: fs, .inl r :: vs => Nat.beq r.1 r.2 && zk_fs fs vs
  | some (.ref (k + 1)) :: fs, .inr (.inr (.inl (some k'))) :: vs => Nat.beq k k' && zk_fs fs vs
  | some .null :: fs, .inr (.inr (.inl none)) :: vs => zk_fs fs vs
  | _, _ => false
def zk_ok (q : Nat) : Bool := match pk_tab[q]?, zi_wg zs_w q with
  | none, _ => true
  | some (.inl (ty, n)), some (.inl (ty', l)) => decide (ty = ty') && (Nat.beq l.length n && l.all (fun r => Nat.beq r.1 r.2))
  | some (.inr (c, fs)), some (.inr (c', vs)) => Nat.beq c c' && zk_fs fs vs
  | _, _ => false
end
set_option maxRecDepth 100000 in
theorem zk_all : ∀ q, q < 85 → zk_ok q = true := by decide +kernel
theorem pk_len : pk_tab.length = 85 := by decide +kernel
def rng (q : Nat) (i : Int) : Prop := match pk_tab[q]? with
  | some (.inl (_, n)) => 0 ≤ i ∧ i < (n : Int)
  | some (.inr (_, fs)) => 0 ≤ i ∧ fs[i.toNat]? = some none
  | none => False
theorem zo_val {r : zi_I} {x : Int32} (h : zi_in r (zi_o x)) (e : r.1 = r.2) : x.toInt = (r.1 : Int) - 2147483648 := by
  have h1 := x.le_toInt
  unfold zi_in zi_o at h
  omega
theorem zk_fs_ok {b : Nat} {ads : List Nat} {g : Int → Int} : ∀ (fs : List (Option Value)) (vs : List zi_V) (fv : List Value) (k : Nat), zk_fs fs vs = true → zi_a2 (zi_g b ads) vs fv → (∀ (j : Nat) (x : Int32), fv[j]? = some (.int x) → g ((k + j : Nat) : Int) = x.toInt) → fv = (pkf g k fs).map (ci_t b ads) ∧ ∀ j : Nat, fs[j]? = some none → ∃ r, vs[j]? = some (.inl r) ∧ g ((k + j : Nat) : Int) = (r.1 : Int) - 2147483648
  | [], [], fv, k, _, h, _ => by
    cases h.nil
    exact ⟨rfl, fun j hj => by cases j <;> cases hj⟩
  | none :: fs, .inl r :: vs, fv, k, hz, h, hg => by
    obtain ⟨v, fv', rfl, ⟨x, rfl, hx⟩, h2⟩ := h.cons
    unfold zk_fs at hz
    rw [Bool.and_eq_true] at hz
    have er := Nat.eq_of_beq_eq_true hz.1
    have xv := zo_val hx er
    have g0 : g (k : Int) = x.toInt := hg 0 x rfl
    obtain ⟨i1, i2⟩ := zk_fs_ok fs vs fv' (k + 1) hz.2 h2 (fun j y hy => by
      have := hg (j + 1) y hy
      rw [show k + (j + 1) = k + 1 + j by omega] at this
      exact this)
    refine ⟨?_, fun j hj => ?_⟩
    · show Value.int x :: fv' = ci_t b ads (.int (Int32.ofInt (g (k : Int)))) :: (pkf g (k + 1) fs).map (ci_t b ads)
      rw [← i1, g0, Int32.ofInt_toInt]
      rfl
    · cases j with
      | zero => exact ⟨r, rfl, by rw [Nat.add_zero, g0]; exact xv⟩
      | succ j =>
        obtain ⟨r', q1, q2⟩ := i2 j hj
        exact ⟨r', q1, by rw [show k + (j + 1) = k + 1 + j by omega]; exact q2⟩
  | some (.ref (n + 1)) :: fs, .inr (.inr (.inl (some k'))) :: vs, fv, k, hz, h, hg => by
    obtain ⟨v, fv', rfl, ⟨a, ha, rfl⟩, h2⟩ := h.cons
    unfold zk_fs at hz
    rw [Bool.and_eq_true] at hz
    have er := Nat.eq_of_beq_eq_true hz.1
    obtain ⟨i1, i2⟩ := zk_fs_ok fs vs fv' (k + 1) hz.2 h2 (fun j y hy => by
      have := hg (j + 1) y hy
      rw [show k + (j + 1) = k + 1 + j by omega] at this
      exact this)
    refine ⟨?_, fun j hj => ?_⟩
    · show Value.ref a :: fv' = Value.ref (ads.getD n 0) :: (pkf g (k + 1) fs).map (ci_t b ads)
      rw [← i1, er, List.getD_eq_getElem?_getD, ha]
      rfl
    · cases j with
      | zero => cases hj
      | succ j =>
        obtain ⟨r', q1, q2⟩ := i2 j hj
        exact ⟨r', q1, by rw [show k + (j + 1) = k + 1 + j by omega]; exact q2⟩
  | some .null :: fs, .inr (.inr (.inl none)) :: vs, fv, k, hz, h, hg => by
    obtain ⟨v, fv', rfl, hv, h2⟩ := h.cons
    cases (show v = .null from hv)
    unfold zk_fs at hz
    obtain ⟨i1, i2⟩ := zk_fs_ok fs vs fv' (k + 1) hz h2 (fun j y hy => by
      have := hg (j + 1) y hy
      rw [show k + (j + 1) = k + 1 + j by omega] at this
      exact this)
    refine ⟨?_, fun j hj => ?_⟩
    · show Value.null :: fv' = Value.null :: (pkf g (k + 1) fs).map (ci_t b ads)
      rw [← i1]
    · cases j with
      | zero => cases hj
      | succ j =>
        obtain ⟨r', q1, q2⟩ := i2 j hj
        exact ⟨r', q1, by rw [show k + (j + 1) = k + 1 + j by omega]; exact q2⟩
  | [], _ :: _, _, _, hz, _, _ => by unfold zk_fs at hz; cases hz
  | none :: _, [], _, _, hz, _, _ => by unfold zk_fs at hz; cases hz
  | none :: _, .inr _ :: _, _, _, hz, _, _ => by unfold zk_fs at hz; cases hz
  | some (.int _) :: _, _, _, _, hz, _, _ => by unfold zk_fs at hz; cases hz
  | some (.long _) :: _, _, _, _, hz, _, _ => by unfold zk_fs at hz; cases hz
  | some (.float _) :: _, _, _, _, hz, _, _ => by unfold zk_fs at hz; cases hz
  | some (.double _) :: _, _, _, _, hz, _, _ => by unfold zk_fs at hz; cases hz
  | some (.ref 0) :: _, _, _, _, hz, _, _ => by unfold zk_fs at hz; cases hz
  | some (.ref (_ + 1)) :: _, [], _, _, hz, _, _ => by unfold zk_fs at hz; cases hz
  | some (.ref (_ + 1)) :: _, .inl _ :: _, _, _, hz, _, _ => by unfold zk_fs at hz; cases hz
  | some (.ref (_ + 1)) :: _, .inr (.inl _) :: _, _, _, hz, _, _ => by unfold zk_fs at hz; cases hz
  | some (.ref (_ + 1)) :: _, .inr (.inr (.inl none)) :: _, _, _, hz, _, _ => by unfold zk_fs at hz; cases hz
  | some (.ref (_ + 1)) :: _, .inr (.inr (.inr _)) :: _, _, _, hz, _, _ => by unfold zk_fs at hz; cases hz
  | some .null :: _, [], _, _, hz, _, _ => by unfold zk_fs at hz; cases hz
  | some .null :: _, .inl _ :: _, _, _, hz, _, _ => by unfold zk_fs at hz; cases hz
  | some .null :: _, .inr (.inl _) :: _, _, _, hz, _, _ => by unfold zk_fs at hz; cases hz
  | some .null :: _, .inr (.inr (.inl (some _))) :: _, _, _, hz, _, _ => by unfold zk_fs at hz; cases hz
  | some .null :: _, .inr (.inr (.inr _)) :: _, _, _, hz, _, _ => by unfold zk_fs at hz; cases hz
theorem pk_sel_same (b : Bool) (ρ : pm) (q : Nat) : pk_sel b ρ ρ q = ρ q := by
  unfold pk_sel
  cases (Nat.blt q 62 == b) <;> rfl
theorem st_cell {b : Nat} {ads : List Nat} {tys : List (ClassId × FieldType)} {ws : va_W} (h : zi_wr b ads tys zs_w ws) {q : Nat} (hq : q < 85) : ∃ c e, pk true (m0 ws) (m0 ws) q = some c ∧ ws[q]? = some e ∧ ci_cg b ads tys c e ∧ ∀ i, rng q i → m0 ws q i = r0 q i := by
  have ok := zk_all q hq
  unfold zk_ok at ok
  cases ht : pk_tab[q]? with
  | none =>
    have := List.getElem?_eq_none_iff.mp ht
    rw [pk_len] at this
    omega
  | some t =>
    rw [ht] at ok
    cases hz : zi_wg zs_w q with
    | none => rw [hz] at ok; cases t with
      | inl x => cases ok
      | inr x => cases ok
    | some c =>
      rw [hz] at ok
      obtain ⟨e, h1, h2⟩ := h.2 q c hz
      obtain ⟨a, e2⟩ := e
      cases t with
      | inl x =>
        obtain ⟨ty, n⟩ := x
        cases c with
        | inr y => cases ok
        | inl y =>
          obtain ⟨ty', l⟩ := y
          dsimp only at ok
          rw [Bool.and_eq_true, Bool.and_eq_true] at ok
          have o1 : ty = ty' := of_decide_eq_true ok.1
          have o2 := Nat.eq_of_beq_eq_true ok.2.1
          have o3 := List.all_eq_true.mp ok.2.2
          obtain ⟨cA, f, t0, g1, g2, g3⟩ := h2
          dsimp only at g1
          subst g1
          have mv : ∀ i : Int, m0 ws q i = (f i.toNat).toInt := fun i => by
            unfold m0
            rw [h1]
          refine ⟨.inl (ty, n, fun j => Int32.ofInt (m0 ws q (j : Int))), _, ?_, h1, ⟨cA, t0, ?_, by rw [o1]; exact g2⟩, fun i hi => ?_⟩
          · unfold pk
            rw [ht, pk_sel_same]
          · show (Sum.inl (cA, l.length, Sum.inl f) : va_E) = Sum.inl (cA, n, Sum.inl fun j : Nat => Int32.ofInt (m0 ws q (j : Int)))
            rw [o2, show (fun j : Nat => Int32.ofInt (m0 ws q (j : Int))) = f from funext fun j => by rw [mv, Int.toNat_natCast, Int32.ofInt_toInt]]
          · unfold rng at hi
            rw [ht] at hi
            dsimp only at hi
            have hl : i.toNat < l.length := by omega
            have hr := g3 i.toNat (l[i.toNat]) (List.getElem?_eq_getElem hl)
            rw [mv, zo_val hr (Nat.eq_of_beq_eq_true (o3 _ (List.getElem_mem hl)))]
            unfold r0
            rw [hz]
            dsimp only
            rw [List.getElem?_eq_getElem hl]
      | inr x =>
        obtain ⟨ci, fs⟩ := x
        cases c with
        | inl y => cases ok
        | inr y =>
          obtain ⟨ci', vs⟩ := y
          dsimp only at ok
          rw [Bool.and_eq_true] at ok
          have o1 := Nat.eq_of_beq_eq_true ok.1
          obtain ⟨fv, g1, g2⟩ := h2
          dsimp only at g1
          subst g1
          have mv : ∀ (j : Nat) (x : Int32), fv[j]? = some (.int x) → m0 ws q (j : Int) = x.toInt := fun j x hx => by
            unfold m0
            rw [h1]
            dsimp only
            rw [Int.toNat_natCast, hx]
          obtain ⟨k1, k2⟩ := zk_fs_ok (g := m0 ws q) fs vs fv 0 ok.2 g2 (fun j x hx => by rw [Nat.zero_add]; exact mv j x hx)
          refine ⟨.inr (ci, pkf (m0 ws q) 0 fs), _, ?_, h1, ?_, fun i hi => ?_⟩
          · unfold pk
            rw [ht, pk_sel_same]
          · show (Sum.inr (ci', fv) : va_E) = Sum.inr (ci, (pkf (m0 ws q) 0 fs).map (ci_t b ads))
            rw [← k1, o1]
          · unfold rng at hi
            rw [ht] at hi
            dsimp only at hi
            obtain ⟨r, r1, r2⟩ := k2 i.toNat hi.2
            rw [Nat.zero_add, Int.toNat_of_nonneg hi.1] at r2
            rw [r2]
            unfold r0
            rw [hz]
            dsimp only
            rw [r1]
theorem st_wr {b : Nat} {tys : List (ClassId × FieldType)} {ws : va_W} (h : zi_wr b (ws.map (·.1)) tys zs_w ws) : ci_wr b (ws.map (·.1)) tys (pk true (m0 ws) (m0 ws)) ws := by
  refine ⟨rfl, fun q c hc => ?_⟩
  have hq : q < 85 := by
    rcases Nat.lt_or_ge q 85 with z | z
    · exact z
    · unfold pk at hc
      rw [List.getElem?_eq_none_iff.mpr (by rw [pk_len]; exact z)] at hc
      cases hc
  obtain ⟨c', e, h1, h2, h3, -⟩ := st_cell h hq
  rw [h1] at hc
  cases hc
  exact ⟨e, h2, h3⟩
