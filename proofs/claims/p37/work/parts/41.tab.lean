/-! the cells of the two objects, as the constructors make them: the class's are 0 to 61, the reference's 62 to 84 -/
def pk_tab : List ((FieldType × Nat) ⊕ (Nat × List (Option Value))) := [.inr (8, [some (.ref 2), some (.ref 5), some (.ref 12), some (.ref 19), some (.ref 26), some (.ref 29), some (.ref 35), some (.ref 51), some (.ref 53), some (.ref 58), some (.ref 62), none, none, none]),
  .inr (3, [some (.ref 3), some (.ref 4), none, none, none]),
  .inl (.int, 3),
  .inl (.int, 100),
  .inr (7, [some (.ref 9), some (.ref 6), some (.ref 7), some (.ref 8), none, none, none]),
  .inl (.int, 3),
  .inl (.int, 6),
  .inl (.int, 8),
  .inr (2, [some (.ref 2), some (.ref 10), some (.ref 11), none, none, none, none, none]),
  .inl (.int, 25),
  .inl (.int, 25),
  .inr (7, [some (.ref 16), some (.ref 13), some (.ref 14), some (.ref 15), none, none, none]),
  .inl (.int, 3),
  .inl (.int, 6),
  .inl (.int, 8),
  .inr (2, [some (.ref 2), some (.ref 17), some (.ref 18), none, none, none, none, none]),
  .inl (.int, 25),
  .inl (.int, 25),
  .inr (7, [some (.ref 23), some (.ref 20), some (.ref 21), some (.ref 22), none, none, none]),
  .inl (.int, 3),
  .inl (.int, 6),
  .inl (.int, 8),
  .inr (2, [some (.ref 2), some (.ref 24), some (.ref 25), none, none, none, none, none]),
  .inl (.int, 25),
  .inl (.int, 25),
  .inr (2, [some (.ref 2), some (.ref 27), some (.ref 28), none, none, none, none, none]),
  .inl (.int, 25),
  .inl (.int, 25),
  .inr (4, [some (.ref 30), some (.ref 31), some (.ref 32), some (.ref 33), some (.ref 34), none, none]),
  .inl (.int, 27),
  .inl (.int, 3),
  .inl (.int, 3),
  .inl (.int, 729),
  .inl (.int, 729),
  .inr (0, [some (.ref 48), some (.ref 36), none]),
  .inr (0, [some (.ref 45), some (.ref 37), none]),
  .inr (0, [some (.ref 42), some (.ref 38), none]),
  .inr (0, [some (.ref 39), some .null, none]),
  .inr (2, [some (.ref 2), some (.ref 40), some (.ref 41), none, none, none, none, none]),
  .inl (.int, 25),
  .inl (.int, 25),
  .inr (2, [some (.ref 2), some (.ref 43), some (.ref 44), none, none, none, none, none]),
  .inl (.int, 25),
  .inl (.int, 25),
  .inr (2, [some (.ref 2), some (.ref 46), some (.ref 47), none, none, none, none, none]),
  .inl (.int, 25),
  .inl (.int, 25),
  .inr (2, [some (.ref 2), some (.ref 49), some (.ref 50), none, none, none, none, none]),
  .inl (.int, 25),
  .inl (.int, 25),
  .inr (6, [some (.ref 52), none, none, none, none, none, none, none]),
  .inl (.byte, 320),
  .inr (1, [some (.ref 54), some (.ref 55), some (.ref 56), some (.ref 57), none, none, none, none, none, none]),
  .inl (.int, 25),
  .inl (.int, 5),
  .inl (.int, 3),
  .inl (.int, 3),
  .inr (5, [some (.ref 59), some (.ref 60), some (.ref 61)]),
  .inl (.int, 4),
  .inl (.int, 4),
  .inl (.int, 160),
  .inl (.int, 1525),
  .inr (9, [some (.ref 64), some (.ref 65), none, none, none, some (.ref 66), none, none, none, none, none, none, some (.ref 67), some (.ref 68), some (.ref 69), some (.ref 70), none, none, none, none, none, none, some (.ref 71), none, none, none, none, none, none, none, some (.ref 72), none, none, some (.ref 73), some (.ref 74), some (.ref 75), some (.ref 76), some (.ref 77), some (.ref 78), some (.ref 79), some (.ref 80), some (.ref 81), some (.ref 82), some (.ref 83), some (.ref 84), none, some (.ref 85)]),
  .inl (.int, 168),
  .inl (.boolean, 2),
  .inl (.int, 25),
  .inl (.int, 25),
  .inl (.int, 3),
  .inl (.int, 25),
  .inl (.int, 3),
  .inl (.int, 320),
  .inl (.int, 25),
  .inl (.int, 25),
  .inl (.int, 25),
  .inl (.int, 27),
  .inl (.int, 3),
  .inl (.int, 100),
  .inl (.int, 3),
  .inl (.int, 36),
  .inl (.int, 4),
  .inl (.int, 1525),
  .inl (.int, 4),
  .inl (.int, 4),
  .inl (.int, 160),
  .inl (.int, 25)]
def pkf (f : Int → Int) : Nat → List (Option Value) → List Value
  | _, [] => []
  | i, none :: t => .int (Int32.ofInt (f (i : Int))) :: pkf f (i + 1) t
  | i, some v :: t => v :: pkf f (i + 1) t
def pk_sel (b : Bool) (ρ o : pm) : pm := fun q => bif (Nat.blt q 62) == b then ρ q else o q
/-- the pure world: b tells whose side the memory ρ is on (true: the class's), o is the other's -/
def pk (b : Bool) (ρ o : pm) : ci_W := fun q => match pk_tab[q]? with
  | none => none
  | some (.inl (ty, n)) => some (.inl (ty, n, fun j => Int32.ofInt (pk_sel b ρ o q (j : Int))))
  | some (.inr (c, fs)) => some (.inr (c, pkf (pk_sel b ρ o q) 0 fs))
def own (b : Bool) (q : Nat) : Prop := Nat.blt q 62 = b
theorem pk_sel_own {b : Bool} {q : Nat} (h : own b q) (ρ o : pm) : pk_sel b ρ o q = ρ q := by
  unfold pk_sel
  rw [h]
  cases b <;> rfl
theorem pk_flip (b : Bool) (ρ o : pm) : pk b ρ o = pk (!b) o ρ := by
  have e : pk_sel b ρ o = pk_sel (!b) o ρ := by
    funext q
    unfold pk_sel
    cases b <;> cases Nat.blt q 62 <;> rfl
  unfold pk
  rw [e]
theorem pk_obj {b : Bool} {q c : Nat} {fs : List (Option Value)} (ht : pk_tab[q]? = some (.inr (c, fs))) (ho : own b q) (ρ o : pm) : pk b ρ o q = some (.inr (c, pkf (ρ q) 0 fs)) := by
  unfold pk
  rw [ht, pk_sel_own ho]
theorem pk_arr {b : Bool} {q n : Nat} {ty : FieldType} (ht : pk_tab[q]? = some (.inl (ty, n))) (ho : own b q) (ρ o : pm) : pk b ρ o q = some (.inl (ty, n, fun j => Int32.ofInt (ρ q (j : Int)))) := by
  unfold pk
  rw [ht, pk_sel_own ho]
theorem pkf_len (f : Int → Int) : ∀ (i : Nat) (fs : List (Option Value)), (pkf f i fs).length = fs.length
  | _, [] => rfl
  | i, none :: t => by
    unfold pkf
    rw [List.length_cons, List.length_cons, pkf_len f (i + 1) t]
  | i, some v :: t => by
    unfold pkf
    rw [List.length_cons, List.length_cons, pkf_len f (i + 1) t]
theorem pkf_int (f : Int → Int) : ∀ (i k : Nat) (fs : List (Option Value)), fs[k]? = some none → (pkf f i fs)[k]? = some (.int (Int32.ofInt (f ((i + k : Nat) : Int))))
  | _, _, [], h => by cases h
  | i, 0, none :: t, h => rfl
  | i, 0, some v :: t, h => by cases h
  | i, k + 1, none :: t, h => by
    have := pkf_int f (i + 1) k t h
    rw [show i + 1 + k = i + (k + 1) by omega] at this
    exact this
  | i, k + 1, some v :: t, h => by
    have := pkf_int f (i + 1) k t h
    rw [show i + 1 + k = i + (k + 1) by omega] at this
    exact this
theorem pkf_ref (f : Int → Int) {v : Value} : ∀ (i k : Nat) (fs : List (Option Value)), fs[k]? = some (some v) → (pkf f i fs)[k]? = some v
  | _, _, [], h => by cases h
  | i, 0, none :: t, h => by cases h
  | i, 0, some v' :: t, h => by cases h; rfl
  | i, k + 1, none :: t, h => pkf_ref f (i + 1) k t h
  | i, k + 1, some v :: t, h => pkf_ref f (i + 1) k t h
theorem pkf_congr {f g : Int → Int} : ∀ (i : Nat) (fs : List (Option Value)), (∀ k : Nat, i ≤ k → f (k : Int) = g (k : Int)) → pkf f i fs = pkf g i fs
  | _, [], _ => rfl
  | i, none :: t, h => by
    unfold pkf
    rw [h i (Nat.le_refl _), pkf_congr (i + 1) t (fun k hk => h k (by omega))]
  | i, some v :: t, h => by
    unfold pkf
    rw [pkf_congr (i + 1) t (fun k hk => h k (by omega))]
theorem pkf_set (f : Int → Int) (x : Int) : ∀ (i k : Nat) (fs : List (Option Value)), fs[k]? = some none → (pkf f i fs).set k (.int (Int32.ofInt x)) = pkf (fun j => if j = ((i + k : Nat) : Int) then x else f j) i fs
  | _, _, [], h => by cases h
  | i, 0, none :: t, h => by
    unfold pkf
    rw [List.set_cons_zero, if_pos (by rfl)]
    have e : pkf f (i + 1) t = pkf (fun j => if j = ((i + 0 : Nat) : Int) then x else f j) (i + 1) t := pkf_congr (i + 1) t (fun k hk => by rw [if_neg (by omega)])
    rw [e]
  | i, 0, some v :: t, h => by cases h
  | i, k + 1, none :: t, h => by
    unfold pkf
    rw [List.set_cons_succ, if_neg (by omega), pkf_set f x (i + 1) k t h, show i + 1 + k = i + (k + 1) by omega]
  | i, k + 1, some v :: t, h => by
    unfold pkf
    rw [List.set_cons_succ, pkf_set f x (i + 1) k t h, show i + 1 + k = i + (k + 1) by omega]
theorem pk_other {b : Bool} {ρ ρ' o : pm} {q' : Nat} (h : ρ' q' = ρ q') : pk b ρ' o q' = pk b ρ o q' := by
  have e : pk_sel b ρ' o q' = pk_sel b ρ o q' := by
    unfold pk_sel
    cases (Nat.blt q' 62 == b)
    · rfl
    · exact h
  unfold pk
  rw [e]
theorem pk_putobj {b : Bool} {q c k : Nat} {kI : Int} {fs : List (Option Value)} (ht : pk_tab[q]? = some (.inr (c, fs))) (ho : own b q) (hk : fs[k]? = some none) (hkI : (k : Int) = kI) (ρ o : pm) (x : Int) : ci_set (pk b ρ o) q (.inr (c, (pkf (ρ q) 0 fs).set k (.int (Int32.ofInt x)))) = pk b (pup ρ q kI x) o := by
  funext q'
  unfold ci_set
  by_cases e : q' = q
  · rw [if_pos e, e, pk_obj ht ho, pkf_set _ _ _ _ _ hk]
    have : (fun j => if j = ((0 + k : Nat) : Int) then x else ρ q j) = pup ρ q kI x q := by
      funext j
      unfold pup
      rw [← hkI, Nat.zero_add]
      by_cases c1 : j = (k : Int)
      · rw [if_pos c1, if_pos ⟨rfl, c1⟩]
      · rw [if_neg c1, if_neg (fun z => c1 z.2)]
    rw [this]
  · rw [if_neg e]
    refine (pk_other ?_).symm
    funext j
    unfold pup
    rw [if_neg (fun z => e z.1)]
theorem pk_putarr {b : Bool} {q n : Nat} {ty : FieldType} {i : Int} (ht : pk_tab[q]? = some (.inl (ty, n))) (ho : own b q) (h0 : 0 ≤ i) (ρ o : pm) (x : Int) : ci_set (pk b ρ o) q (.inl (ty, n, upd (fun j => Int32.ofInt (ρ q (j : Int))) i.toNat (Int32.ofInt x))) = pk b (pup ρ q i x) o := by
  funext q'
  unfold ci_set
  by_cases e : q' = q
  · rw [if_pos e, e, pk_arr ht ho]
    have : upd (fun j => Int32.ofInt (ρ q (j : Int))) i.toNat (Int32.ofInt x) = fun (j : Nat) => Int32.ofInt (pup ρ q i x q (j : Int)) := by
      funext j
      unfold upd pup
      by_cases c1 : j = i.toNat
      · rw [if_pos c1, if_pos ⟨rfl, by omega⟩]
      · rw [if_neg c1, if_neg (fun z => c1 (by omega))]
    rw [this]
  · rw [if_neg e]
    refine (pk_other ?_).symm
    funext j
    unfold pup
    rw [if_neg (fun z => e z.1)]
theorem pk_small {q n : Nat} {ty : FieldType} (ht : pk_tab[q]? = some (.inl (ty, n))) : n ≤ 1525 := by
  have h : pk_tab.all (fun e => match e with
    | .inl (_, n) => Nat.ble n 1525
    | .inr _ => true) = true := by decide +kernel
  exact Nat.le_of_ble_eq_true (List.all_eq_true.mp h _ (List.mem_of_getElem? ht))
section PM
variable {b : Bool} {ty : FieldType} {ρ o : pm} {lc : ci_L} {sk : List Value} {nx q c k n : Nat} {fs : List (Option Value)} {x i : Int}
theorem pe_getI {kI : Int} (ht : pk_tab[q]? = some (.inr (c, fs))) (ho : own b q) (hk : fs[k]? = some none) (hkI : (k : Int) = kI) : ci_getf c k nx (lc, .ref (q + 1) :: sk, pk b ρ o) = some (nx, lc, .int (Int32.ofInt (ρ q kI)) :: sk, pk b ρ o) := by
  have h := pkf_int (ρ q) 0 k fs hk
  rw [Nat.zero_add, hkI] at h
  exact ce_getf (pk_obj ht ho ρ o) h
theorem pe_getR {v : Value} (ht : pk_tab[q]? = some (.inr (c, fs))) (ho : own b q) (hk : fs[k]? = some (some v)) : ci_getf c k nx (lc, .ref (q + 1) :: sk, pk b ρ o) = some (nx, lc, v :: sk, pk b ρ o) :=
  ce_getf (pk_obj ht ho ρ o) (pkf_ref (ρ q) 0 k fs hk)
theorem pk_klt (hk : fs[k]? = some none) : k < (pkf (ρ q) 0 fs).length := by
  rw [pkf_len]
  exact (List.getElem?_eq_some_iff.mp hk).1
theorem pe_putI {kI : Int} (ht : pk_tab[q]? = some (.inr (c, fs))) (ho : own b q) (hk : fs[k]? = some none) (hkI : (k : Int) = kI) : ci_putf c k .int nx (lc, .int (Int32.ofInt x) :: .ref (q + 1) :: sk, pk b ρ o) = some (nx, lc, sk, pk b (pup ρ q kI x) o) := by
  rw [ce_putf (pk_obj ht ho ρ o) rfl (pk_klt hk), pk_putobj ht ho hk hkI]
theorem pe_putZ {kI : Int} (ht : pk_tab[q]? = some (.inr (c, fs))) (ho : own b q) (hk : fs[k]? = some none) (hkI : (k : Int) = kI) (hx : x = 0 ∨ x = 1) : ci_putf c k .boolean nx (lc, .int (Int32.ofInt x) :: .ref (q + 1) :: sk, pk b ρ o) = some (nx, lc, sk, pk b (pup ρ q kI x) o) := by
  rw [ce_putf (pk_obj ht ho ρ o) (by rcases hx with rfl | rfl <;> rfl) (pk_klt hk), pk_putobj ht ho hk hkI]
theorem pe_idx (ht : pk_tab[q]? = some (.inl (ty, n))) (h : 0 ≤ i ∧ i < (n : Int)) : (Int32.ofInt i).toInt = i := by
  have := pk_small ht
  exact R_ofInt ⟨by omega, by omega⟩
theorem pe_ald {nI : Int} (ht : pk_tab[q]? = some (.inl (ty, n))) (ho : own b q) (hn : (n : Int) = nI) (h : 0 ≤ i ∧ i < nI) : ci_ald ty nx (lc, .int (Int32.ofInt i) :: .ref (q + 1) :: sk, pk b ρ o) = some (nx, lc, .int (Int32.ofInt (ρ q i)) :: sk, pk b ρ o) := by
  subst hn
  have e := pe_idx ht h
  rw [ce_ald (pk_arr ht ho ρ o) (by rw [e]; exact h.1) (by rw [e]; exact h.2), e, show ((i.toNat : Nat) : Int) = i by omega]
theorem pe_ast {nI : Int} (ht : pk_tab[q]? = some (.inl (ty, n))) (ho : own b q) (hn : (n : Int) = nI) (h : 0 ≤ i ∧ i < nI) (hf : ci_afit ty (Int32.ofInt x) = true) : ci_ast ty nx (lc, .int (Int32.ofInt x) :: .int (Int32.ofInt i) :: .ref (q + 1) :: sk, pk b ρ o) = some (nx, lc, sk, pk b (pup ρ q i x) o) := by
  subst hn
  have e := pe_idx ht h
  rw [ce_ast (pk_arr ht ho ρ o) (by rw [e]; exact h.1) (by rw [e]; exact h.2) hf, e, pk_putarr ht ho h.1]
theorem fit_b8 : ci_afit .byte (Int32.ofInt (b8 x)) = true := by
  have h := b8_bd x
  unfold ci_afit
  dsimp only
  rw [R_ofInt (b8_R x)]
  exact decide_eq_true h
theorem pe_alen {nI : Int} (ht : pk_tab[q]? = some (.inl (ty, n))) (ho : own b q) (hn : (n : Int) = nI) : ci_alen nx (lc, .ref (q + 1) :: sk, pk b ρ o) = some (nx, lc, .int (Int32.ofInt nI) :: sk, pk b ρ o) := by
  subst hn
  unfold ci_alen
  dsimp only
  rw [pk_arr ht ho]
  dsimp only
  rw [Int32.ofInt_eq_ofNat]
theorem pk_cp {q0 q1 n0 n1 : Nat} {sp dp m : Int} (ht0 : pk_tab[q0]? = some (.inl (.int, n0))) (ht1 : pk_tab[q1]? = some (.inl (.int, n1))) (ho0 : own b q0) (ho1 : own b q1) (h : 0 ≤ m ∧ 0 ≤ dp ∧ 0 ≤ sp) : ci_set (pk b ρ o) q1 (.inl (.int, n1, va_cpy (fun j => Int32.ofInt (ρ q0 (j : Int))) (fun j => Int32.ofInt (ρ q1 (j : Int))) sp.toNat dp.toNat m.toNat)) = pk b (pcp ρ q0 sp q1 dp m) o := by
  funext q'
  unfold ci_set
  by_cases e : q' = q1
  · rw [if_pos e, e, pk_arr ht1 ho1]
    have : va_cpy (fun j => Int32.ofInt (ρ q0 (j : Int))) (fun j => Int32.ofInt (ρ q1 (j : Int))) sp.toNat dp.toNat m.toNat = fun (j : Nat) => Int32.ofInt (pcp ρ q0 sp q1 dp m q1 (j : Int)) := by
      funext j
      unfold va_cpy pcp
      by_cases c1 : dp.toNat ≤ j ∧ j < dp.toNat + m.toNat
      · rw [if_pos c1, if_pos ⟨rfl, by omega, by omega⟩]
        dsimp only
        rw [show ((sp.toNat + (j - dp.toNat) : Nat) : Int) = sp + ((j : Int) - dp) by omega]
      · rw [if_neg c1, if_neg (fun z => c1 ⟨by omega, by omega⟩)]
    rw [this]
  · rw [if_neg e]
    refine (pk_other ?_).symm
    funext j
    unfold pcp
    rw [if_neg (fun z => e z.1)]
theorem pe_copy {q0 q1 n0 n1 : Nat} {sp dp m N0 N1 : Int} (ht0 : pk_tab[q0]? = some (.inl (.int, n0))) (ht1 : pk_tab[q1]? = some (.inl (.int, n1))) (ho0 : own b q0) (ho1 : own b q1) (e0 : (n0 : Int) = N0) (e1 : (n1 : Int) = N1) (h : 0 ≤ m ∧ 0 ≤ dp ∧ 0 ≤ sp ∧ sp + m ≤ N0 ∧ dp + m ≤ N1) (hs : (sk.map fun v => v.category).sum ≤ 20) : ci_copy nx (lc, .int (Int32.ofInt m) :: .int (Int32.ofInt dp) :: .ref (q1 + 1) :: .int (Int32.ofInt sp) :: .ref (q0 + 1) :: sk, pk b ρ o) = some (nx, lc, sk, pk b (pcp ρ q0 sp q1 dp m) o) := by
  subst e0
  subst e1
  have s0 := pk_small ht0
  have s1 := pk_small ht1
  unfold ci_copy
  dsimp only
  rw [pk_arr ht0 ho0]
  dsimp only
  rw [pk_arr ht1 ho1]
  dsimp only
  rw [R_ofInt (x := m) ⟨by omega, by omega⟩, R_ofInt (x := dp) ⟨by omega, by omega⟩, R_ofInt (x := sp) ⟨by omega, by omega⟩, if_pos ⟨rfl, rfl, h.1, h.2.1, h.2.2.1, h.2.2.2.1, h.2.2.2.2, hs⟩, pk_cp ht0 ht1 ho0 ho1 ⟨h.1, h.2.1, h.2.2.1⟩]
end PM
/-- what a contract says: the answer v, the memory ρ -/
def pP (b : Bool) (v : Int) (ρ o : pm) : Option Value → ci_W → Prop := fun v' w' => v' = some (.int (Int32.ofInt v)) ∧ w' = pk b ρ o
def pV (b : Bool) (ρ o : pm) : Option Value → ci_W → Prop := fun v' w' => v' = none ∧ w' = pk b ρ o
def pL (b : Bool) (v : Int) (ρ o : pm) : Option Value → ci_W → Prop := fun v' w' => v' = some (.long (Int64.ofInt v)) ∧ w' = pk b ρ o
def isF (q : Nat) : Prop := pk_tab[q]? = some (.inr (2, [some (.ref 2), some (.ref (q + 1 + 1)), some (.ref (q + 2 + 1)), none, none, none, none, none])) ∧ pk_tab[q + 1]? = some (.inl (.int, 25)) ∧ pk_tab[q + 2]? = some (.inl (.int, 25)) ∧ own true q ∧ own true (q + 1) ∧ own true (q + 2)
def isT (q : Nat) : Prop := pk_tab[q]? = some (.inr (7, [some (.ref (q + 4 + 1)), some (.ref (q + 1 + 1)), some (.ref (q + 2 + 1)), some (.ref (q + 3 + 1)), none, none, none])) ∧ pk_tab[q + 1]? = some (.inl (.int, 3)) ∧ pk_tab[q + 2]? = some (.inl (.int, 6)) ∧ pk_tab[q + 3]? = some (.inl (.int, 8)) ∧ isF (q + 4) ∧ own true q ∧ own true (q + 1) ∧ own true (q + 2) ∧ own true (q + 3)
def isA (q n : Nat) : Prop := pk_tab[q]? = some (.inl (.int, n)) ∧ own true q

theorem tq_0 : pk_tab[0]? = some (.inr (8, [some (.ref 2), some (.ref 5), some (.ref 12), some (.ref 19), some (.ref 26), some (.ref 29), some (.ref 35), some (.ref 51), some (.ref 53), some (.ref 58), some (.ref 62), none, none, none])) := rfl
theorem tq_1 : pk_tab[1]? = some (.inr (3, [some (.ref 3), some (.ref 4), none, none, none])) := rfl
theorem tq_2 : pk_tab[2]? = some (.inl (.int, 3)) := rfl
theorem tq_3 : pk_tab[3]? = some (.inl (.int, 100)) := rfl
theorem tq_4 : pk_tab[4]? = some (.inr (7, [some (.ref 9), some (.ref 6), some (.ref 7), some (.ref 8), none, none, none])) := rfl
theorem tq_5 : pk_tab[5]? = some (.inl (.int, 3)) := rfl
theorem tq_6 : pk_tab[6]? = some (.inl (.int, 6)) := rfl
theorem tq_7 : pk_tab[7]? = some (.inl (.int, 8)) := rfl
theorem tq_8 : pk_tab[8]? = some (.inr (2, [some (.ref 2), some (.ref 10), some (.ref 11), none, none, none, none, none])) := rfl
theorem tq_9 : pk_tab[9]? = some (.inl (.int, 25)) := rfl
theorem tq_10 : pk_tab[10]? = some (.inl (.int, 25)) := rfl
theorem tq_11 : pk_tab[11]? = some (.inr (7, [some (.ref 16), some (.ref 13), some (.ref 14), some (.ref 15), none, none, none])) := rfl
theorem tq_12 : pk_tab[12]? = some (.inl (.int, 3)) := rfl
theorem tq_13 : pk_tab[13]? = some (.inl (.int, 6)) := rfl
theorem tq_14 : pk_tab[14]? = some (.inl (.int, 8)) := rfl
theorem tq_15 : pk_tab[15]? = some (.inr (2, [some (.ref 2), some (.ref 17), some (.ref 18), none, none, none, none, none])) := rfl
theorem tq_16 : pk_tab[16]? = some (.inl (.int, 25)) := rfl
theorem tq_17 : pk_tab[17]? = some (.inl (.int, 25)) := rfl
theorem tq_18 : pk_tab[18]? = some (.inr (7, [some (.ref 23), some (.ref 20), some (.ref 21), some (.ref 22), none, none, none])) := rfl
theorem tq_19 : pk_tab[19]? = some (.inl (.int, 3)) := rfl
theorem tq_20 : pk_tab[20]? = some (.inl (.int, 6)) := rfl
theorem tq_21 : pk_tab[21]? = some (.inl (.int, 8)) := rfl
theorem tq_22 : pk_tab[22]? = some (.inr (2, [some (.ref 2), some (.ref 24), some (.ref 25), none, none, none, none, none])) := rfl
theorem tq_23 : pk_tab[23]? = some (.inl (.int, 25)) := rfl
theorem tq_24 : pk_tab[24]? = some (.inl (.int, 25)) := rfl
theorem tq_25 : pk_tab[25]? = some (.inr (2, [some (.ref 2), some (.ref 27), some (.ref 28), none, none, none, none, none])) := rfl
theorem tq_26 : pk_tab[26]? = some (.inl (.int, 25)) := rfl
theorem tq_27 : pk_tab[27]? = some (.inl (.int, 25)) := rfl
theorem tq_28 : pk_tab[28]? = some (.inr (4, [some (.ref 30), some (.ref 31), some (.ref 32), some (.ref 33), some (.ref 34), none, none])) := rfl
theorem tq_29 : pk_tab[29]? = some (.inl (.int, 27)) := rfl
theorem tq_30 : pk_tab[30]? = some (.inl (.int, 3)) := rfl
theorem tq_31 : pk_tab[31]? = some (.inl (.int, 3)) := rfl
theorem tq_32 : pk_tab[32]? = some (.inl (.int, 729)) := rfl
theorem tq_33 : pk_tab[33]? = some (.inl (.int, 729)) := rfl
theorem tq_34 : pk_tab[34]? = some (.inr (0, [some (.ref 48), some (.ref 36), none])) := rfl
theorem tq_35 : pk_tab[35]? = some (.inr (0, [some (.ref 45), some (.ref 37), none])) := rfl
theorem tq_36 : pk_tab[36]? = some (.inr (0, [some (.ref 42), some (.ref 38), none])) := rfl
theorem tq_37 : pk_tab[37]? = some (.inr (0, [some (.ref 39), some .null, none])) := rfl
theorem tq_38 : pk_tab[38]? = some (.inr (2, [some (.ref 2), some (.ref 40), some (.ref 41), none, none, none, none, none])) := rfl
theorem tq_39 : pk_tab[39]? = some (.inl (.int, 25)) := rfl
theorem tq_40 : pk_tab[40]? = some (.inl (.int, 25)) := rfl
theorem tq_41 : pk_tab[41]? = some (.inr (2, [some (.ref 2), some (.ref 43), some (.ref 44), none, none, none, none, none])) := rfl
theorem tq_42 : pk_tab[42]? = some (.inl (.int, 25)) := rfl
theorem tq_43 : pk_tab[43]? = some (.inl (.int, 25)) := rfl
theorem tq_44 : pk_tab[44]? = some (.inr (2, [some (.ref 2), some (.ref 46), some (.ref 47), none, none, none, none, none])) := rfl
theorem tq_45 : pk_tab[45]? = some (.inl (.int, 25)) := rfl
theorem tq_46 : pk_tab[46]? = some (.inl (.int, 25)) := rfl
theorem tq_47 : pk_tab[47]? = some (.inr (2, [some (.ref 2), some (.ref 49), some (.ref 50), none, none, none, none, none])) := rfl
theorem tq_48 : pk_tab[48]? = some (.inl (.int, 25)) := rfl
theorem tq_49 : pk_tab[49]? = some (.inl (.int, 25)) := rfl
theorem tq_50 : pk_tab[50]? = some (.inr (6, [some (.ref 52), none, none, none, none, none, none, none])) := rfl
theorem tq_51 : pk_tab[51]? = some (.inl (.byte, 320)) := rfl
theorem tq_52 : pk_tab[52]? = some (.inr (1, [some (.ref 54), some (.ref 55), some (.ref 56), some (.ref 57), none, none, none, none, none, none])) := rfl
theorem tq_53 : pk_tab[53]? = some (.inl (.int, 25)) := rfl
theorem tq_54 : pk_tab[54]? = some (.inl (.int, 5)) := rfl
theorem tq_55 : pk_tab[55]? = some (.inl (.int, 3)) := rfl
theorem tq_56 : pk_tab[56]? = some (.inl (.int, 3)) := rfl
theorem tq_57 : pk_tab[57]? = some (.inr (5, [some (.ref 59), some (.ref 60), some (.ref 61)])) := rfl
theorem tq_58 : pk_tab[58]? = some (.inl (.int, 4)) := rfl
theorem tq_59 : pk_tab[59]? = some (.inl (.int, 4)) := rfl
theorem tq_60 : pk_tab[60]? = some (.inl (.int, 160)) := rfl
theorem tq_61 : pk_tab[61]? = some (.inl (.int, 1525)) := rfl
theorem tq_62 : pk_tab[62]? = some (.inr (9, [some (.ref 64), some (.ref 65), none, none, none, some (.ref 66), none, none, none, none, none, none, some (.ref 67), some (.ref 68), some (.ref 69), some (.ref 70), none, none, none, none, none, none, some (.ref 71), none, none, none, none, none, none, none, some (.ref 72), none, none, some (.ref 73), some (.ref 74), some (.ref 75), some (.ref 76), some (.ref 77), some (.ref 78), some (.ref 79), some (.ref 80), some (.ref 81), some (.ref 82), some (.ref 83), some (.ref 84), none, some (.ref 85)])) := rfl
theorem tq_63 : pk_tab[63]? = some (.inl (.int, 168)) := rfl
theorem tq_64 : pk_tab[64]? = some (.inl (.boolean, 2)) := rfl
theorem tq_65 : pk_tab[65]? = some (.inl (.int, 25)) := rfl
theorem tq_66 : pk_tab[66]? = some (.inl (.int, 25)) := rfl
theorem tq_67 : pk_tab[67]? = some (.inl (.int, 3)) := rfl
theorem tq_68 : pk_tab[68]? = some (.inl (.int, 25)) := rfl
theorem tq_69 : pk_tab[69]? = some (.inl (.int, 3)) := rfl
theorem tq_70 : pk_tab[70]? = some (.inl (.int, 320)) := rfl
theorem tq_71 : pk_tab[71]? = some (.inl (.int, 25)) := rfl
theorem tq_72 : pk_tab[72]? = some (.inl (.int, 25)) := rfl
theorem tq_73 : pk_tab[73]? = some (.inl (.int, 25)) := rfl
theorem tq_74 : pk_tab[74]? = some (.inl (.int, 27)) := rfl
theorem tq_75 : pk_tab[75]? = some (.inl (.int, 3)) := rfl
theorem tq_76 : pk_tab[76]? = some (.inl (.int, 100)) := rfl
theorem tq_77 : pk_tab[77]? = some (.inl (.int, 3)) := rfl
theorem tq_78 : pk_tab[78]? = some (.inl (.int, 36)) := rfl
theorem tq_79 : pk_tab[79]? = some (.inl (.int, 4)) := rfl
theorem tq_80 : pk_tab[80]? = some (.inl (.int, 1525)) := rfl
theorem tq_81 : pk_tab[81]? = some (.inl (.int, 4)) := rfl
theorem tq_82 : pk_tab[82]? = some (.inl (.int, 4)) := rfl
theorem tq_83 : pk_tab[83]? = some (.inl (.int, 160)) := rfl
theorem tq_84 : pk_tab[84]? = some (.inl (.int, 25)) := rfl
theorem iF_8 : isF 8 := ⟨rfl, rfl, rfl, rfl, rfl, rfl⟩
theorem iF_15 : isF 15 := ⟨rfl, rfl, rfl, rfl, rfl, rfl⟩
theorem iF_22 : isF 22 := ⟨rfl, rfl, rfl, rfl, rfl, rfl⟩
theorem iF_25 : isF 25 := ⟨rfl, rfl, rfl, rfl, rfl, rfl⟩
theorem iF_38 : isF 38 := ⟨rfl, rfl, rfl, rfl, rfl, rfl⟩
theorem iF_41 : isF 41 := ⟨rfl, rfl, rfl, rfl, rfl, rfl⟩
theorem iF_44 : isF 44 := ⟨rfl, rfl, rfl, rfl, rfl, rfl⟩
theorem iF_47 : isF 47 := ⟨rfl, rfl, rfl, rfl, rfl, rfl⟩
theorem iT_4 : isT 4 := ⟨rfl, rfl, rfl, rfl, ⟨rfl, rfl, rfl, rfl, rfl, rfl⟩, rfl, rfl, rfl, rfl⟩
theorem iT_11 : isT 11 := ⟨rfl, rfl, rfl, rfl, ⟨rfl, rfl, rfl, rfl, rfl, rfl⟩, rfl, rfl, rfl, rfl⟩
theorem iT_18 : isT 18 := ⟨rfl, rfl, rfl, rfl, ⟨rfl, rfl, rfl, rfl, rfl, rfl⟩, rfl, rfl, rfl, rfl⟩
theorem iA_2 : isA 2 3 := ⟨rfl, rfl⟩
theorem iA_3 : isA 3 100 := ⟨rfl, rfl⟩
theorem iA_5 : isA 5 3 := ⟨rfl, rfl⟩
theorem iA_6 : isA 6 6 := ⟨rfl, rfl⟩
theorem iA_7 : isA 7 8 := ⟨rfl, rfl⟩
theorem iA_9 : isA 9 25 := ⟨rfl, rfl⟩
theorem iA_10 : isA 10 25 := ⟨rfl, rfl⟩
theorem iA_12 : isA 12 3 := ⟨rfl, rfl⟩
theorem iA_13 : isA 13 6 := ⟨rfl, rfl⟩
theorem iA_14 : isA 14 8 := ⟨rfl, rfl⟩
theorem iA_16 : isA 16 25 := ⟨rfl, rfl⟩
theorem iA_17 : isA 17 25 := ⟨rfl, rfl⟩
theorem iA_19 : isA 19 3 := ⟨rfl, rfl⟩
theorem iA_20 : isA 20 6 := ⟨rfl, rfl⟩
theorem iA_21 : isA 21 8 := ⟨rfl, rfl⟩
theorem iA_23 : isA 23 25 := ⟨rfl, rfl⟩
theorem iA_24 : isA 24 25 := ⟨rfl, rfl⟩
theorem iA_26 : isA 26 25 := ⟨rfl, rfl⟩
theorem iA_27 : isA 27 25 := ⟨rfl, rfl⟩
theorem iA_29 : isA 29 27 := ⟨rfl, rfl⟩
theorem iA_30 : isA 30 3 := ⟨rfl, rfl⟩
theorem iA_31 : isA 31 3 := ⟨rfl, rfl⟩
theorem iA_32 : isA 32 729 := ⟨rfl, rfl⟩
theorem iA_33 : isA 33 729 := ⟨rfl, rfl⟩
theorem iA_39 : isA 39 25 := ⟨rfl, rfl⟩
theorem iA_40 : isA 40 25 := ⟨rfl, rfl⟩
theorem iA_42 : isA 42 25 := ⟨rfl, rfl⟩
theorem iA_43 : isA 43 25 := ⟨rfl, rfl⟩
theorem iA_45 : isA 45 25 := ⟨rfl, rfl⟩
theorem iA_46 : isA 46 25 := ⟨rfl, rfl⟩
theorem iA_48 : isA 48 25 := ⟨rfl, rfl⟩
theorem iA_49 : isA 49 25 := ⟨rfl, rfl⟩
theorem iA_53 : isA 53 25 := ⟨rfl, rfl⟩
theorem iA_54 : isA 54 5 := ⟨rfl, rfl⟩
theorem iA_55 : isA 55 3 := ⟨rfl, rfl⟩
theorem iA_56 : isA 56 3 := ⟨rfl, rfl⟩
theorem iA_58 : isA 58 4 := ⟨rfl, rfl⟩
theorem iA_59 : isA 59 4 := ⟨rfl, rfl⟩
theorem iA_60 : isA 60 160 := ⟨rfl, rfl⟩
theorem iA_61 : isA 61 1525 := ⟨rfl, rfl⟩
