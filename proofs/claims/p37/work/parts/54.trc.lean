/-! what hangs on heights within the plain alone; what a trace is -/
def heq (h h' : Int → Int) : Prop := ∀ c, 0 ≤ c → c < 25 → h c = h' c
theorem heq.symm {h h' : Int → Int} (e : heq h h') : heq h' h := fun c a b => (e c a b).symm
theorem heq.trans {h h' h'' : Int → Int} (e : heq h h') (f : heq h' h'') : heq h h'' := fun c a b => (e c a b).trans (f c a b)
theorem heq.rfl' {h : Int → Int} : heq h h := fun _ _ _ => rfl
theorem hOK.congr {h h' : Int → Int} (e : heq h h') (o : hOK h) : hOK h' := fun c a b => by rw [← e c a b]; exact o c a b
theorem lsel_congr {W H : Int} {h h' : Int → Int} {b at_ best : Int} (s : Int) (e : heq h h') (hw : wh W H) (h0 : 0 ≤ at_) (h1 : at_ < W * H) (hb : best = -1 ∨ (0 ≤ best ∧ best < W * H)) : lsel W H h b at_ best s = lsel W H h' b at_ best s := by
  have bd := hw.bd
  have nb := nbr_bd s hw h0 h1
  unfold lsel
  generalize nbr W H at_ s = c at *
  by_cases c0 : 0 ≤ c
  · rw [e c c0 (by omega), e at_ h0 (by omega)]
    rcases hb with rfl | hb
    · by_cases k : 0 ≤ c ∧ bt b c = 0 ∧ h' c ≤ h' at_ ∧ ((-1 : Int) < 0 ∨ h' c < h (-1))
      · rw [if_pos k, if_pos ⟨k.1, k.2.1, k.2.2.1, Or.inl (by decide)⟩]
      · rw [if_neg k, if_neg (fun z => k ⟨z.1, z.2.1, z.2.2.1, Or.inl (by decide)⟩)]
    · rw [e best hb.1 (by omega)]
  · rw [if_neg (fun z => c0 z.1), if_neg (fun z => c0 z.1)]
theorem fre.wk {W H b x : Int} (h : fre W H b x) : x = -1 ∨ (0 ≤ x ∧ x < W * H) := h.elim Or.inl (fun h => Or.inr ⟨h.1, h.2.1⟩)
theorem low_congr {W H : Int} {h h' : Int → Int} {b at_ : Int} (e : heq h h') (hw : wh W H) (h0 : 0 ≤ at_) (h1 : at_ < W * H) : low W H h b at_ = low W H h' b at_ := by
  have f0 : fre W H b (-1) := Or.inl rfl
  have f1 := lsel_fre (h := h') 0 hw h0 h1 f0
  have f2 := lsel_fre (h := h') 1 hw h0 h1 f1
  have f3 := lsel_fre (h := h') 2 hw h0 h1 f2
  unfold low
  rw [lsel_congr 0 e hw h0 h1 f0.wk, lsel_congr 1 e hw h0 h1 f1.wk, lsel_congr 2 e hw h0 h1 f2.wk, lsel_congr 3 e hw h0 h1 f3.wk]
theorem trc_congr {W H : Int} {h h' : Int → Int} (e : heq h h') (hw : wh W H) : ∀ (n : Nat) (at_ len b : Int) (w : Int → Int), (at_ = -1 ∨ (0 ≤ at_ ∧ at_ < W * H)) → trc W H h n at_ len b w = trc W H h' n at_ len b w := by
  intro n
  induction n with
  | zero => intros; rfl
  | succ n ih =>
    intro at_ len b w ha
    unfold trc
    by_cases c : at_ < 0
    · rw [if_pos c, if_pos c]
    · rw [if_neg c, if_neg c, low_congr e hw (by omega) (by omega)]
      exact ih _ _ _ _ (low_fre hw (by omega) (by omega)).wk
theorem trc_ok {W H : Int} {h : Int → Int} (hw : wh W H) : ∀ (n : Nat) (at_ len b : Int) (w w' : Int → Int), (at_ = -1 ∨ (0 ≤ at_ ∧ at_ < W * H)) →
    let t := trc W H h n at_ len b w
    let t' := trc W H h n at_ len b w'
    t.1 = t'.1 ∧ t.2.1 = t'.2.1 ∧ len ≤ t.1 ∧ t.1 ≤ len + n ∧ (∀ i, i < len → t.2.2 i = w i) ∧ (∀ i, len ≤ i → i < t.1 → t.2.2 i = t'.2.2 i ∧ 0 ≤ t.2.2 i ∧ t.2.2 i < W * H) ∧ (0 ≤ at_ → 0 < n → len < t.1) := by
  intro n
  induction n with
  | zero =>
    intro at_ len b w w' ha
    unfold trc
    exact ⟨rfl, rfl, Int.le_refl _, by show len ≤ len + 0; omega, fun _ _ => rfl, fun i h1 h2 => by have : i < len := h2; omega, fun _ h => by omega⟩
  | succ n ih =>
    intro at_ len b w w' ha
    unfold trc
    by_cases c : at_ < 0
    · rw [if_pos c, if_pos c]
      exact ⟨rfl, rfl, Int.le_refl _, by show len ≤ len + _; omega, fun _ _ => rfl, fun i h1 h2 => by have : i < len := h2; omega, fun h _ => by omega⟩
    · rw [if_neg c, if_neg c]
      obtain ⟨i1, i2, i3, i4, i5, i6, -⟩ := ih (low W H h (bor b (bshl 1 at_)) at_) (len + 1) (bor b (bshl 1 at_)) (fun j => if j = len then at_ else w j) (fun j => if j = len then at_ else w' j) (low_fre hw (by omega) (by omega)).wk
      obtain ⟨-, -, -, -, j5, -, -⟩ := ih (low W H h (bor b (bshl 1 at_)) at_) (len + 1) (bor b (bshl 1 at_)) (fun j => if j = len then at_ else w' j) (fun j => if j = len then at_ else w' j) (low_fre hw (by omega) (by omega)).wk
      refine ⟨i1, i2, by omega, by rw [Int.natCast_add]; omega, fun i hi => ?_, fun i h1 h2 => ?_, fun _ _ => by omega⟩
      · rw [i5 i (by omega), if_neg (by omega)]
      · by_cases e : i = len
        · rw [i5 i (by omega), j5 i (by omega), if_pos e, if_pos e]
          exact ⟨rfl, by omega, by omega⟩
        · exact i6 i (by omega) h2
def bedT (W H : Int) (h : Int → Int) (sp : Int) : Int × Int × (Int → Int) := bedW W H h sp (fun _ => 0)
theorem bedW_ok {W H : Int} {h : Int → Int} {sp : Int} (w : Int → Int) (hw : wh W H) (h0 : 0 ≤ sp) (h1 : sp < W * H) : (bedW W H h sp w).1 = (bedT W H h sp).1 ∧ (bedW W H h sp w).2.1 = (bedT W H h sp).2.1 ∧ (∀ i, 0 ≤ i → i < (bedT W H h sp).1 → (bedW W H h sp w).2.2 i = (bedT W H h sp).2.2 i ∧ 0 ≤ (bedT W H h sp).2.2 i ∧ (bedT W H h sp).2.2 i < W * H) ∧ 1 ≤ (bedT W H h sp).1 ∧ (bedT W H h sp).1 ≤ 25 := by
  obtain ⟨a1, a2, a3, a4, a5, a6, a7⟩ := trc_ok (h := h) hw 25 sp 0 0 w (fun _ => 0) (Or.inr ⟨h0, h1⟩)
  have a7' := a7 h0 (by decide)
  refine ⟨a1, a2, fun i b1 b2 => ?_, ?_, ?_⟩
  · have hb : i < (trc W H h 25 sp 0 0 w).1 := by rw [a1]; exact b2
    obtain ⟨c1, c2, c3⟩ := a6 i b1 hb
    refine ⟨c1, ?_, ?_⟩
    · show 0 ≤ (trc W H h 25 sp 0 0 (fun _ => 0)).2.2 i
      rw [← c1]; exact c2
    · show (trc W H h 25 sp 0 0 (fun _ => 0)).2.2 i < _
      rw [← c1]; exact c3
  · show 1 ≤ (trc W H h 25 sp 0 0 (fun _ => 0)).1
    rw [← a1]; omega
  · show (trc W H h 25 sp 0 0 (fun _ => 0)).1 ≤ 25
    rw [← a1]; omega
theorem bedT_congr {W H : Int} {h h' : Int → Int} {sp : Int} (e : heq h h') (hw : wh W H) (h0 : 0 ≤ sp) (h1 : sp < W * H) : bedT W H h sp = bedT W H h' sp := trc_congr e hw 25 sp 0 0 _ (Or.inr ⟨h0, h1⟩)
/-! a year: cuts, silt -/
def up1 (h : Int → Int) (c v : Int) : Int → Int := fun j => if j = c then v else h j
def dig (y f : Int) : Int := if f = 0 then y % 26 else if f = 1 then y / 26 % 26 else if f = 2 then y / 676 % 26 else 0
theorem dig_bd (y f : Int) : 0 ≤ dig y f ∧ dig y f < 26 := by
  unfold dig
  split
  · omega
  · split
    · omega
    · split <;> omega
def cut1 (h : Int → Int) (a : Int) : Int → Int := if a ≤ 0 then h else up1 h (a - 1) (h (a - 1) - 3)
def cutH (h : Int → Int) (y : Int) : Int → Int := cut1 (cut1 (cut1 h (dig y 0)) (dig y 1)) (dig y 2)
/-- silt of one cell: heights, taken -/
def sil1 (p : (Int → Int) × Int) (c : Int) : (Int → Int) × Int := if p.1 c ≤ 0 then p else (up1 p.1 c (p.1 c - 1), p.2 + 1)
def silH (w : Int → Int) (len : Int) (h : Int → Int) : Int → Int :=
  let p := sil1 (sil1 (sil1 (h, 0) (w 1)) (w 2)) (w 3)
  up1 p.1 (w (len - 1)) (p.1 (w (len - 1)) + p.2)
def passH (W H : Int) (h : Int → Int) (sp silt y : Int) : Int → Int :=
  if silt = 0 ∨ (bedT W H (cutH h y) sp).1 < 4 then cutH h y else silH (bedT W H (cutH h y) sp).2.2 (bedT W H (cutH h y) sp).1 (cutH h y)
theorem up1_heq {h h' : Int → Int} {c v : Int} (e : heq h h') : heq (up1 h c v) (up1 h' c v) := fun j a b => by
  unfold up1
  rw [e j a b]
theorem cut1_heq {h h' : Int → Int} {a : Int} (e : heq h h') (ha : 0 ≤ a ∧ a < 26) : heq (cut1 h a) (cut1 h' a) := by
  unfold cut1
  by_cases c : a ≤ 0
  · rw [if_pos c, if_pos c]; exact e
  · rw [if_neg c, if_neg c, e (a - 1) (by omega) (by omega)]; exact up1_heq e
theorem cutH_heq {h h' : Int → Int} {y : Int} (e : heq h h') : heq (cutH h y) (cutH h' y) := cut1_heq (cut1_heq (cut1_heq e (dig_bd y 0)) (dig_bd y 1)) (dig_bd y 2)
theorem sil1_heq {p p' : (Int → Int) × Int} {c : Int} (e : heq p.1 p'.1) (e2 : p.2 = p'.2) (hc : 0 ≤ c ∧ c < 25) : heq (sil1 p c).1 (sil1 p' c).1 ∧ (sil1 p c).2 = (sil1 p' c).2 := by
  unfold sil1
  rw [e c hc.1 hc.2]
  by_cases k : p'.1 c ≤ 0
  · rw [if_pos k, if_pos k]; exact ⟨e, e2⟩
  · rw [if_neg k, if_neg k]; exact ⟨up1_heq e, by show p.2 + 1 = p'.2 + 1; rw [e2]⟩
theorem passH_heq {W H : Int} {h h' : Int → Int} {sp silt y : Int} (e : heq h h') (hw : wh W H) (h0 : 0 ≤ sp) (h1 : sp < W * H) : heq (passH W H h sp silt y) (passH W H h' sp silt y) := by
  have ec := cutH_heq (y := y) e
  have bd := hw.bd
  unfold passH
  rw [bedT_congr ec hw h0 h1]
  obtain ⟨-, -, b3, b4, b5⟩ := bedW_ok (h := cutH h' y) (fun _ => 0) hw h0 h1
  generalize bedT W H (cutH h' y) sp = t at *
  by_cases c : silt = 0 ∨ t.1 < 4
  · rw [if_pos c, if_pos c]; exact ec
  · rw [if_neg c, if_neg c]
    have w1 := b3 1 (by omega) (by omega)
    have w2 := b3 2 (by omega) (by omega)
    have w3 := b3 3 (by omega) (by omega)
    have w4 := b3 (t.1 - 1) (by omega) (by omega)
    have s1 := sil1_heq (p := (cutH h y, 0)) (p' := (cutH h' y, 0)) (c := t.2.2 1) ec rfl (by omega)
    have s2 := sil1_heq (c := t.2.2 2) s1.1 s1.2 (by omega)
    have s3 := sil1_heq (c := t.2.2 3) s2.1 s2.2 (by omega)
    unfold silH
    dsimp only
    rw [s3.2, s3.1 _ w4.2.1 (by omega)]
    exact up1_heq s3.1
