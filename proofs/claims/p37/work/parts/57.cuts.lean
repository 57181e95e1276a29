/-! masks by their bits; the cells that a farm may cut -/
abbrev on (m c : Int) : Prop := bt m c = 1
theorem on_tb {m c : Int} (h : 0 ≤ c ∧ c < 32) : on m c ↔ tb m c.toNat = true := by
  unfold on
  rw [bt_tb h]
  cases tb m c.toNat
  · exact ⟨fun z => absurd z (by decide), fun z => absurd z (by decide)⟩
  · exact ⟨fun _ => rfl, fun _ => rfl⟩
theorem on_band {a b c : Int} (h : 0 ≤ c ∧ c < 32) : on (band a b) c ↔ on a c ∧ on b c := by
  rw [on_tb h, on_tb h, on_tb h, tb_band, Bool.and_eq_true]
theorem on_bor {a b c : Int} (h : 0 ≤ c ∧ c < 32) : on (bor a b) c ↔ on a c ∨ on b c := by
  rw [on_tb h, on_tb h, on_tb h, tb_bor, Bool.or_eq_true]
theorem on_not {a c : Int} (h : 0 ≤ c ∧ c < 32) : on (bxor a (-1)) c ↔ ¬ on a c := by
  rw [on_tb h, on_tb h, tb_bxor, tb_m1 (by omega)]
  cases tb a c.toNat <;> decide
theorem on_zero {c : Int} (h : 0 ≤ c ∧ c < 32) : ¬ on 0 c := by
  unfold on
  rw [bt_zero h]
  decide
theorem on_add {b c k : Int} (hc : 0 ≤ c ∧ c < 32) (hk : 0 ≤ k ∧ k < 32) : on (bor b (bshl 1 c)) k ↔ k = c ∨ on b k := by
  unfold on
  rw [bt_add hc hk]
  by_cases e : k = c
  · rw [if_pos e]; exact ⟨fun _ => Or.inl e, fun _ => rfl⟩
  · rw [if_neg e]; exact ⟨Or.inr, fun z => z.elim (fun y => absurd y e) id⟩
theorem bt_off {m c : Int} (h : 0 ≤ c ∧ c < 32) : ¬ on m c ↔ bt m c = 0 := by
  unfold on
  rcases bt_01 m c h with e | e <;> rw [e] <;> decide
theorem on_ext {a b : Int} (ha : inR a) (hb : inR b) (h : ∀ c, 0 ≤ c → c < 32 → (on a c ↔ on b c)) : a = b := by
  apply tb_ext ha hb
  intro c hc
  have := h (c : Int) (by omega) (by omega)
  rw [on_tb (by omega), on_tb (by omega), Int.toNat_natCast] at this
  exact Bool.eq_iff_iff.mpr this
theorem bshl0 {c : Int} (h : 0 ≤ c ∧ c < 32) : bshl 0 c = 0 := by
  obtain ⟨n, rfl⟩ : ∃ n : Nat, c = (n : Int) := ⟨c.toNat, by omega⟩
  have key : ∀ n : Fin 32, bshl 0 (n.val : Int) = 0 := by decide +kernel
  exact key ⟨n, by omega⟩
theorem bor0 {m : Int} (h : inR m) : bor m 0 = m := on_ext (bor_R _ _) h (fun c a b => by
  rw [on_bor ⟨a, b⟩]
  exact ⟨fun z => z.elim id (fun y => absurd y (on_zero ⟨a, b⟩)), Or.inl⟩)
/-- the mask of the first n cells with P -/
def mkm (P : Int → Prop) [DecidablePred P] : Nat → Int
  | 0 => 0
  | n + 1 => if P (n : Int) then bor (mkm P n) (bshl 1 (n : Int)) else mkm P n
theorem mkm_R (P : Int → Prop) [DecidablePred P] : ∀ n : Nat, inR (mkm P n)
  | 0 => R_0
  | n + 1 => by
    unfold mkm
    split
    · exact bor_R _ _
    · exact mkm_R P n
theorem on_mkm {P : Int → Prop} [DecidablePred P] {c : Int} (hc : 0 ≤ c ∧ c < 32) : ∀ {n : Nat}, n ≤ 32 → (on (mkm P n) c ↔ c < (n : Int) ∧ P c)
  | 0, _ => ⟨fun z => absurd z (on_zero hc), fun z => absurd z.1 (by omega)⟩
  | n + 1, hn => by
    have ih := on_mkm (P := P) hc (n := n) (by omega)
    unfold mkm
    by_cases p : P (n : Int)
    · rw [if_pos p, on_add (by omega) hc, ih]
      constructor
      · rintro (e | ⟨e1, e2⟩)
        · rw [e]; exact ⟨by omega, p⟩
        · exact ⟨by omega, e2⟩
      · rintro ⟨e1, e2⟩
        by_cases e : c = (n : Int)
        · exact Or.inl e
        · exact Or.inr ⟨by omega, e2⟩
    · rw [if_neg p, ih]
      constructor
      · rintro ⟨e1, e2⟩; exact ⟨by omega, e2⟩
      · rintro ⟨e1, e2⟩
        refine ⟨?_, e2⟩
        by_cases e : c = (n : Int)
        · rw [e] at e2; exact absurd e2 p
        · omega
/-- one beside c, on some side, is in b -/
abbrev adS (W H b c s : Int) : Prop := 0 ≤ nbr W H c s ∧ on b (nbr W H c s)
