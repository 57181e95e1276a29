/-! the names of the lines -/
def L_X6_says : List Int → Int → pm → Option Int
  | [], _, _ => some 1
  | c :: w, i, ρ => ck (0 ≤ ρ 50 4 + i ∧ ρ 50 4 + i < 320) (ck (inR (ρ 51 (ρ 50 4 + i))) (if ρ 51 (ρ 50 4 + i) = c then L_X6_says w (i + 1) ρ else some 0))
def f_X6_says (w : List Int) (ρ : pm) : Option Int := ck (inR (ρ 50 3)) (if ρ 50 3 = 1 then ck (inR (ρ 50 2 - ρ 50 4)) (if ρ 50 2 - ρ 50 4 = (w.length : Int) then L_X6_says w 0 ρ else some 0) else some 0)
def w_plain : List Int := [112, 108, 97, 105, 110]
def w_row : List Int := [114, 111, 119]
def w_spring : List Int := [115, 112, 114, 105, 110, 103]
def w_farm : List Int := [102, 97, 114, 109]
def w_ground : List Int := [103, 114, 111, 117, 110, 100]
def w_law : List Int := [108, 97, 119]
def w_silt : List Int := [115, 105, 108, 116]
def f_X1_takeLine (ρ : pm) : Option pm := (f_X6_says w_plain ρ).bind (fun v1 => if v1 = 0 then (f_X6_says w_row ρ).bind (fun v2 => if v2 = 0 then (f_X6_says w_spring ρ).bind (fun v3 => if v3 = 0 then (f_X6_says w_farm ρ).bind (fun v4 => if v4 = 0 then (f_X6_says w_ground ρ).bind (fun v5 => if v5 = 0 then (f_X6_says w_law ρ).bind (fun v6 => if v6 = 0 then (f_X6_says w_silt ρ).bind (fun v7 => if v7 = 0 then (f_X6_fail 2 ρ).bind (fun ρ1 => some ρ1) else (f_X1_takeSilt ρ).bind (fun ρ1 => some ρ1)) else (f_X1_takeLaw ρ).bind (fun ρ1 => some ρ1)) else (f_X1_takeGround ρ).bind (fun ρ1 => some ρ1)) else (f_X1_takeFarm ρ).bind (fun ρ1 => some ρ1)) else (f_X1_takeSpring ρ).bind (fun ρ1 => some ρ1)) else (f_X1_takeRow ρ).bind (fun ρ1 => some ρ1)) else (f_X1_takePlain ρ).bind (fun ρ1 => some ρ1))
/-- the line of a number k -/
def tkL (k : Int) (ρ : pm) : Option pm := if k = 0 then f_X1_takePlain ρ else if k = 1 then f_X1_takeSpring ρ else if k = 2 then f_X1_takeLaw ρ else if k = 3 then f_X1_takeSilt ρ else if k = 4 then f_X1_takeRow ρ else if k = 5 then f_X1_takeFarm ρ else if k = 6 then f_X1_takeGround ρ else f_X6_fail 2 ρ
def lkB (B : Int → Int) (N i : Int) : Int := if N ≤ i then -1 else B i
def eqL (lk : Int → Int) : List Int → Int → Prop
  | [], _ => True
  | c :: w, i => lk i = c ∧ eqL lk w (i + 1)
theorem bI {α : Type} {Q : Prop} [Decidable Q] {A B : Option α} : (some (if Q then (1 : Int) else 0)).bind (fun v => if v = 0 then A else B) = if Q then B else A := by
  by_cases q : Q
  · rw [if_pos q, if_pos q]; rfl
  · rw [if_neg q, if_neg q]; rfl
theorem bS {α : Type} {x : Option α} : x.bind (fun y => some y) = x := by cases x <;> rfl
theorem lk_R {ρ τ : pm} (tp : TpR ρ τ) {i : Int} (hi : 0 ≤ i) : inR (lkB (τ 70) (ρ 50 1) i) := by
  unfold lkB
  split
  · exact ⟨by decide, by decide⟩
  · have := tp.2 i hi (by omega)
    exact ⟨by omega, by omega⟩
theorem isM {ρ τ : pm} (tp : TpR ρ τ) {p e n a b c : Int} (h4 : τ 62 24 = e) (h5 : τ 62 25 = p) (hp : 0 ≤ p ∧ p ≤ 320 ∧ 0 ≤ e ∧ e ≤ 320) (hn : inR n) (ha : inR a) (hb : inR b) (hc : inR c) : f_X9_is n a b c τ = some (if e - p = n ∧ lkB (τ 70) (ρ 50 1) p = a ∧ lkB (τ 70) (ρ 50 1) (p + 1) = b ∧ lkB (τ 70) (ρ 50 1) (p + 2) = c then 1 else 0) := by
  unfold f_X9_is
  have l0 := lookM tp (i := p) ⟨by omega, by omega⟩
  have l1 := lookM tp (i := p + 1) ⟨by omega, by omega⟩
  have l2 := lookM tp (i := p + 2) ⟨by omega, by omega⟩
  rw [show (if ρ 50 1 ≤ p then -1 else τ 70 p) = lkB (τ 70) (ρ 50 1) p from rfl] at l0
  rw [show (if ρ 50 1 ≤ p + 1 then -1 else τ 70 (p + 1)) = lkB (τ 70) (ρ 50 1) (p + 1) from rfl] at l1
  rw [show (if ρ 50 1 ≤ p + 2 then -1 else τ 70 (p + 2)) = lkB (τ 70) (ρ 50 1) (p + 2) from rfl] at l2
  rw [h4, h5, ckp (show inR (e - p) from ⟨by omega, by omega⟩), ckp hn, l0, l1, l2]
  by_cases x : e - p = n
  · rw [if_pos x, Option.bind_some, ckp (lk_R tp (by omega)), ckp ha]
    by_cases x0 : lkB (τ 70) (ρ 50 1) p = a
    · rw [if_pos x0, Option.bind_some, ckp (lk_R tp (by omega)), ckp hb]
      by_cases x1 : lkB (τ 70) (ρ 50 1) (p + 1) = b
      · rw [if_pos x1, Option.bind_some, ckp (lk_R tp (by omega)), ckp hc]
        by_cases x2 : lkB (τ 70) (ρ 50 1) (p + 2) = c
        · rw [if_pos x2, if_pos ⟨x, x0, x1, x2⟩]
        · rw [if_neg x2, if_neg (fun z => x2 z.2.2.2)]
      · rw [if_neg x1, if_neg (fun z => x1 z.2.2.1)]
    · rw [if_neg x0, if_neg (fun z => x0 z.2.1)]
  · rw [if_neg x, if_neg (fun z => x z.1)]
theorem endsM {ρ τ : pm} (tp : TpR ρ τ) {p a b c : Int} (h5 : τ 62 25 = p) (hp : 0 ≤ p ∧ p ≤ 320) (ha : inR a) (hb : inR b) (hc : inR c) : f_X9_ends a b c τ = some (if lkB (τ 70) (ρ 50 1) (p + 3) = a ∧ (b = 0 ∨ lkB (τ 70) (ρ 50 1) (p + 4) = b) ∧ (c = 0 ∨ lkB (τ 70) (ρ 50 1) (p + 5) = c) then 1 else 0) := by
  unfold f_X9_ends
  have l0 := lookM tp (i := p + 3) ⟨by omega, by omega⟩
  have l1 := lookM tp (i := p + 4) ⟨by omega, by omega⟩
  have l2 := lookM tp (i := p + 5) ⟨by omega, by omega⟩
  rw [show (if ρ 50 1 ≤ p + 3 then -1 else τ 70 (p + 3)) = lkB (τ 70) (ρ 50 1) (p + 3) from rfl] at l0
  rw [show (if ρ 50 1 ≤ p + 4 then -1 else τ 70 (p + 4)) = lkB (τ 70) (ρ 50 1) (p + 4) from rfl] at l1
  rw [show (if ρ 50 1 ≤ p + 5 then -1 else τ 70 (p + 5)) = lkB (τ 70) (ρ 50 1) (p + 5) from rfl] at l2
  have r0 := lk_R tp (i := p + 3) (by omega)
  have r1 := lk_R tp (i := p + 4) (by omega)
  have r2 := lk_R tp (i := p + 5) (by omega)
  rw [h5, l0, l1, l2]
  generalize lkB (τ 70) (ρ 50 1) (p + 3) = x0 at *
  generalize lkB (τ 70) (ρ 50 1) (p + 4) = x1 at *
  generalize lkB (τ 70) (ρ 50 1) (p + 5) = x2 at *
  dsimp only [jn]
  rw [Option.bind_some, ckp r0, ckp ha]
  by_cases y0 : x0 = a
  · rw [if_pos y0, ckp hb]
    have T : ck (inR c) (if c = 0 then some 1 else (some x2).bind fun v6 => ck (inR v6) (if v6 = c then some (1 : Int) else some 0)) = some (if (c = 0 ∨ x2 = c) then 1 else 0) := by
      rw [ckp hc]
      by_cases y2 : c = 0
      · rw [if_pos y2, if_pos (Or.inl y2)]
      · rw [if_neg y2, Option.bind_some, ckp r2]
        by_cases y3 : x2 = c
        · rw [if_pos y3, if_pos (Or.inr y3)]
        · rw [if_neg y3, if_neg (fun z => z.elim y2 y3)]
    rw [T]
    by_cases y1 : b = 0
    · rw [if_pos y1]
      by_cases y2 : c = 0 ∨ x2 = c
      · rw [if_pos y2, if_pos ⟨y0, Or.inl y1, y2⟩]
      · rw [if_neg y2, if_neg (fun z => y2 z.2.2)]
    · rw [if_neg y1, Option.bind_some, ckp r1]
      by_cases y3 : x1 = b
      · rw [if_pos y3]
        by_cases y2 : c = 0 ∨ x2 = c
        · rw [if_pos y2, if_pos ⟨y0, Or.inr y3, y2⟩]
        · rw [if_neg y2, if_neg (fun z => y2 z.2.2)]
      · rw [if_neg y3, if_neg (fun z => z.2.1.elim y1 y3)]
  · rw [if_neg y0, if_neg (fun z => y0 z.1)]
theorem sayL_yes {ρ τ : pm} (tp : TpR ρ τ) {p e : Int} (h4 : ρ 50 4 = p) (he : e ≤ ρ 50 1) : ∀ (w : List Int) (i : Int), 0 ≤ p + i → p + i + (w.length : Int) = e → (∀ c ∈ w, 0 ≤ c ∧ c < 128) → eqL (lkB (τ 70) (ρ 50 1)) w (p + i) → L_X6_says w i ρ = some 1
  | [], _, _, _, _, _ => rfl
  | c :: w, i, hi, hl, hc, h => by
    have t1 := tp.1
    rw [List.length_cons] at hl
    have b := tp.2 (p + i) hi (by omega)
    have hc0 := hc c (List.mem_cons_self ..)
    have h0 : τ 70 (p + i) = c := by
      have := h.1
      unfold lkB at this
      rw [if_neg (by omega)] at this
      exact this
    have := b8_bd (τ 70 (p + i))
    rw [L_X6_says, h4, ckp ⟨by omega, by omega⟩, b.2.2, ckp (b8_R _), if_pos ((b8_eq ⟨b.1, b.2.1⟩ hc0).mpr h0)]
    exact sayL_yes tp h4 he w (i + 1) (by omega) (by omega) (fun c' hc' => hc c' (List.mem_cons_of_mem _ hc')) (by rw [show p + (i + 1) = p + i + 1 by omega]; exact h.2)
theorem sayL_no {ρ τ : pm} (tp : TpR ρ τ) {p e : Int} (h4 : ρ 50 4 = p) (he : e ≤ ρ 50 1) : ∀ (w : List Int) (i : Int), 0 ≤ p + i → p + i + (w.length : Int) = e → (∀ c ∈ w, 0 ≤ c ∧ c < 128) → ¬ eqL (lkB (τ 70) (ρ 50 1)) w (p + i) → L_X6_says w i ρ = some 0
  | [], _, _, _, _, h => absurd trivial h
  | c :: w, i, hi, hl, hc, h => by
    have t1 := tp.1
    rw [List.length_cons] at hl
    have b := tp.2 (p + i) hi (by omega)
    have hc0 := hc c (List.mem_cons_self ..)
    have e0 : lkB (τ 70) (ρ 50 1) (p + i) = τ 70 (p + i) := by
      unfold lkB
      rw [if_neg (by omega)]
    rw [L_X6_says, h4, ckp ⟨by omega, by omega⟩, b.2.2, ckp (b8_R _)]
    by_cases h0 : τ 70 (p + i) = c
    · rw [if_pos ((b8_eq ⟨b.1, b.2.1⟩ hc0).mpr h0)]
      refine sayL_no tp h4 he w (i + 1) (by omega) (by omega) (fun c' hc' => hc c' (List.mem_cons_of_mem _ hc')) (fun z => h ⟨by rw [e0]; exact h0, ?_⟩)
      rw [show p + (i + 1) = p + i + 1 by omega] at z
      exact z
    · rw [if_neg (fun z => h0 ((b8_eq ⟨b.1, b.2.1⟩ hc0).mp z))]
theorem saysC {ρ τ : pm} (tp : TpR ρ τ) (h : TokR ρ τ) (k : ρ 50 3 = 1) {w : List Int} {Q : Prop} [Decidable Q] (hc : ∀ c ∈ w, 0 ≤ c ∧ c < 128) (hQ : Q ↔ (ρ 50 2 - ρ 50 4 = (w.length : Int) ∧ eqL (lkB (τ 70) (ρ 50 1)) w (ρ 50 4))) : f_X6_says w ρ = some (if Q then 1 else 0) := by
  obtain ⟨b1, b2, b3, b4, b5, b6, b7, b8, b9, b10⟩ := h
  have t1 := tp.1
  unfold f_X6_says
  rw [ckp (show inR (ρ 50 3) from ⟨by omega, by omega⟩), if_pos k, ckp (show inR (ρ 50 2 - ρ 50 4) from ⟨by omega, by omega⟩)]
  by_cases x : ρ 50 2 - ρ 50 4 = (w.length : Int)
  · rw [if_pos x]
    by_cases y : eqL (lkB (τ 70) (ρ 50 1)) w (ρ 50 4)
    · rw [if_pos (hQ.mpr ⟨x, y⟩)]
      exact sayL_yes tp rfl (e := ρ 50 2) b7.2.2 w 0 (by omega) (by omega) hc (by rw [Int.add_zero]; exact y)
    · rw [if_neg (fun z => y (hQ.mp z).2)]
      exact sayL_no tp rfl (e := ρ 50 2) b7.2.2 w 0 (by omega) (by omega) hc (by rw [Int.add_zero]; exact y)
  · rw [if_neg x, if_neg (fun z => x (hQ.mp z).1)]
theorem says_not {ρ : pm} {w : List Int} (h : inR (ρ 50 3)) (k : ρ 50 3 ≠ 1) : f_X6_says w ρ = some 0 := by
  unfold f_X6_says
  rw [ckp h, if_neg k]
