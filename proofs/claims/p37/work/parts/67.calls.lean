theorem retraceC {ρ : pm} {W H : Int} (hl : landC ρ W H) (hh : hOK (ρ 9)) (h0 : 0 ≤ ρ 8 5) (h1 : ρ 8 5 < W * H) : f_X8_retrace ρ = some (pup (trM ρ 8 (bedW W H (ρ 9) (ρ 8 5) (ρ 10))) 28 6 0) := by
  unfold f_X8_retrace
  rw [traceC (q := 8) (by omega) hl hh h0 h1, Option.bind_some]
  rfl
/-- heights, spring changed; the bed traced anew -/
theorem FlR.retr {W H Y : Int} {ρ τ ρ1 τ1 : pm} (hw : wh W H) (fl : FlR W H Y ρ τ 8 0) (e6 : ρ1 8 6 = ρ 8 6) (e7 : ρ1 8 7 = ρ 8 7) (t6 : τ1 63 26 = τ 63 26) (t7 : τ1 63 27 = τ 63 27) (hs : 0 ≤ ρ1 8 5 ∧ ρ1 8 5 < W * H ∧ τ1 63 25 = ρ1 8 5) (hh : ∀ c, 0 ≤ c → c < 25 → τ1 63 c = ρ1 9 c) (hb : hB (99 + 3 * Y) (ρ1 9)) (w : Int → Int) : FlR W H Y (pup (trM ρ1 8 (bedW W H (ρ1 9) (ρ1 8 5) w)) 28 6 0) τ1 8 0 := by
  have br := bedR_tr (W := W) (H := H) (ρ := ρ1) (q := 8) w hw hs.1 hs.2.1
  obtain ⟨f1, f2, f3, f4, f5, f6⟩ := fl
  obtain ⟨ρ2, e2⟩ : ∃ ρ2, ρ2 = trM ρ1 8 (bedW W H (ρ1 9) (ρ1 8 5) w) := ⟨_, rfl⟩
  have g9 : ρ2 9 = ρ1 9 := by rw [e2, trM_ne (by omega) (by omega)]
  have g8 : ∀ j, j ≠ 3 → j ≠ 4 → ρ2 8 j = ρ1 8 j := fun j a b => by rw [e2, trM_field a b]
  rw [← e2]
  have br2 : bedR W H ρ2 8 := by rw [e2]; exact br
  unfold FlR
  rw [pup_ne (show 8 ≠ 28 by omega), pup_ne (show 8 + 1 ≠ 28 by omega), g9, g8 5 (by omega) (by omega), g8 6 (by omega) (by omega), g8 7 (by omega) (by omega), e6, e7, Int.zero_add, Int.zero_add, Int.zero_add, t6, t7]
  rw [Int.zero_add] at f4 f5
  exact ⟨fun c c0 c1 => by rw [Int.zero_add]; exact hh c c0 c1, hb, hs, f4, f5, br2.keep (pup_ne (by omega)) (pup_ne (by omega)) (pup_ne (by omega))⟩
section Calls
variable {ρ τ : pm}
theorem k_dam (h : Rel ρ τ) {c v : Int} (hc : inR c) (hv : inR v) : ∃ r ρ' τ', f_X8_dam c v ρ = some (r, ρ') ∧ f_X9_dam c v τ = some (r, τ') ∧ Rel ρ' τ' := by
  obtain ⟨W, H, fm, hr⟩ := h
  obtain ⟨a1, a2, a3, a4, a5, a6, a7, a8⟩ := id hr
  obtain ⟨lc, lm, -⟩ := a1
  have bd := lc.1.bd
  have he := a2.heq
  have m1 := a3.1
  obtain ⟨f1, f2, f3, f4, f5, f6⟩ := id a2
  unfold f_X8_dam f_X9_dam
  by_cases k : 0 ≤ c ∧ c < W * H
  · rw [hasCell_yes lc k, isCell_yes lm k, Option.bind_some, Option.bind_some, i10, i10]
    simp only [ckp hv]
    by_cases k1 : 0 ≤ v ∧ v ≤ 99
    · rw [if_neg (show ¬ v < 0 by omega), if_pos k1.2, in_yes (L_of_R hv) (by omega) (by omega) k1, Option.bind_some, i10, becomes_eq (by omega), bn2_of, ckp (show 0 ≤ c ∧ c < 25 by omega)]
      dsimp only [jn]
      have u9 : pup ρ 9 c v 9 = up1 (ρ 9) c v := by rw [pup_stc, stc_get]
      have u8 : pup ρ 9 c v 8 = ρ 8 := pup_ne (by omega)
      have hb : hB (99 + 3 * ρ 4 4) (pup ρ 9 c v 9) := by
        rw [u9]
        intro j j0 j1
        unfold up1
        by_cases e : j = c
        · rw [if_pos e]; omega
        · rw [if_neg e]; exact f2 j j0 j1
      have hl2 : landC (pup ρ 9 c v) W H := lc.keep (pup_ne (by omega)) (pup_ne (by omega))
      rw [retraceC hl2 (hb.ok (by omega)) (by rw [u8]; exact f3.1) (by rw [u8]; exact f3.2.1), Option.bind_some]
      have ev : τ 63 c = ρ 9 c := he c k.1 (by omega)
      refine ⟨_, _, _, rfl, by rw [ev], W, H, fm, ?_⟩
      have fl2 : FlR W H (ρ 4 4) _ (pup τ 63 c v) 8 0 := FlR.retr (ρ1 := pup ρ 9 c v) (τ1 := pup τ 63 c v) lc.1 a2 (by rw [u8]) (by rw [u8]) (pup_off (by omega)) (pup_off (by omega)) (by rw [u8, pup_off (by omega)]; rw [Int.zero_add] at f3; exact f3) (fun j j0 j1 => by
        rw [u9]
        unfold up1
        by_cases e : j = c
        · rw [if_pos e, e, pup_at]
        · rw [if_neg e, pup_off e]; exact he j j0 j1) hb (pup ρ 9 c v 10)
      obtain ⟨ρ2, e2⟩ : ∃ ρ2, ρ2 = pup (trM (pup ρ 9 c v) 8 (bedW W H (pup ρ 9 c v 9) (pup ρ 9 c v 8 5) (pup ρ 9 c v 10))) 28 6 0 := ⟨_, rfl⟩
      rw [← e2] at fl2 ⊢
      have eo : ∀ q, q ≠ 8 → q ≠ 9 → q ≠ 10 → q ≠ 28 → ρ2 q = ρ q := fun q b1 b2 b3 b4 => by rw [e2, pup_ne b4, trM_ne b1 b3, pup_ne b2]
      refine hr.now (fun q hq => eo q (by omega) (by omega) (by omega) (by omega)) (fun q hq => pup_ne (by omega)) (fun j _ _ => by rw [pup_ne (by omega)]) (fun j j0 j1 => pup_off (by omega)) ?_ (a3.keep (eo _ (by omega) (by omega) (by omega) (by omega)) (eo _ (by omega) (by omega) (by omega) (by omega)) (eo _ (by omega) (by omega) (by omega) (by omega)) (eo _ (by omega) (by omega) (by omega) (by omega)) (fun j j0 j1 => pup_off (by omega))) (Or.inl (by rw [e2, pup_at]))
      rw [eo 4 (by omega) (by omega) (by omega) (by omega)]
      exact fl2
    · rw [in_no (L_of_R hv) (by omega) (by omega) k1, Option.bind_some, i00]
      refine ⟨-1, ρ, τ, ?_, rfl, W, H, fm, hr⟩
      by_cases c0 : v < 0
      · rw [if_pos c0]
      · rw [if_neg c0, if_neg (by omega)]
  · rw [hasCell_no lc hc k, isCell_no lm hc k, Option.bind_some, Option.bind_some, i00, i00]
    exact ⟨-1, ρ, τ, rfl, rfl, W, H, fm, hr⟩
theorem k_move (h : Rel ρ τ) {c : Int} (hc : inR c) : ∃ r ρ' τ', f_X8_move c ρ = some (r, ρ') ∧ f_X9_move c τ = some (r, τ') ∧ Rel ρ' τ' := by
  obtain ⟨W, H, fm, hr⟩ := h
  obtain ⟨a1, a2, a3, a4, a5, a6, a7, a8⟩ := id hr
  obtain ⟨lc, lm, -⟩ := a1
  have bd := lc.1.bd
  have he := a2.heq
  have m1 := a3.1
  obtain ⟨f1, f2, f3, f4, f5, f6⟩ := id a2
  unfold f_X8_move f_X9_move
  by_cases k : 0 ≤ c ∧ c < W * H
  · rw [hasCell_yes lc k, isCell_yes lm k, Option.bind_some, Option.bind_some, i10, i10, becomes_eq (by omega), bn2_of]
    dsimp only [jn]
    have u8 : ∀ j, j ≠ 5 → pup ρ 8 5 c 8 j = ρ 8 j := fun j b => pup_off b
    have u85 : pup ρ 8 5 c 8 5 = c := pup_at
    have u9 : pup ρ 8 5 c 9 = ρ 9 := pup_ne (by omega)
    have hl2 : landC (pup ρ 8 5 c) W H := lc.keep (pup_ne (by omega)) (pup_ne (by omega))
    rw [retraceC hl2 (by rw [u9]; exact f2.ok (by omega)) (by rw [u85]; exact k.1) (by rw [u85]; exact k.2), Option.bind_some]
    rw [Int.zero_add] at f3
    refine ⟨_, _, _, rfl, by rw [f3.2.2], W, H, fm, ?_⟩
    have fl2 : FlR W H (ρ 4 4) _ (pup τ 63 25 c) 8 0 := FlR.retr (ρ1 := pup ρ 8 5 c) (τ1 := pup τ 63 25 c) lc.1 a2 (u8 6 (by omega)) (u8 7 (by omega)) (pup_off (by omega)) (pup_off (by omega)) (by rw [u85, pup_at]; exact ⟨k.1, k.2, rfl⟩) (fun j j0 j1 => by rw [u9, pup_off (by omega)]; exact he j j0 j1) (by rw [u9]; exact f2) (pup ρ 8 5 c 10)
    obtain ⟨ρ2, e2⟩ : ∃ ρ2, ρ2 = pup (trM (pup ρ 8 5 c) 8 (bedW W H (pup ρ 8 5 c 9) (pup ρ 8 5 c 8 5) (pup ρ 8 5 c 10))) 28 6 0 := ⟨_, rfl⟩
    rw [← e2] at fl2 ⊢
    have eo : ∀ q, q ≠ 8 → q ≠ 10 → q ≠ 28 → ρ2 q = ρ q := fun q b1 b3 b4 => by rw [e2, pup_ne b4, trM_ne b1 b3, pup_ne b1]
    refine hr.now (fun q hq => eo q (by omega) (by omega) (by omega)) (fun q hq => pup_ne (by omega)) (fun j _ _ => by rw [pup_ne (by omega)]) (fun j j0 j1 => pup_off (by omega)) ?_ (a3.keep (eo _ (by omega) (by omega) (by omega)) (eo _ (by omega) (by omega) (by omega)) (eo _ (by omega) (by omega) (by omega)) (eo _ (by omega) (by omega) (by omega)) (fun j j0 j1 => pup_off (by omega))) (Or.inl (by rw [e2, pup_at]))
    rw [eo 4 (by omega) (by omega) (by omega)]
    exact fl2
  · rw [hasCell_no lc hc k, isCell_no lm hc k, Option.bind_some, Option.bind_some, i00, i00]
    exact ⟨-1, ρ, τ, rfl, rfl, W, H, fm, hr⟩
/-- the reference's bed is the class's -/
theorem bedNowR {W H fm Y : Int} {q : Nat} (ld : LdR W H fm ρ τ) (fl : FlR W H Y ρ τ q 0) (hY : 0 ≤ Y ∧ Y ≤ 3000) : ∃ τ', f_X9_findBed τ = some τ' ∧ agB τ τ' ∧ τ' 62 31 = ρ q 3 ∧ τ' 62 32 = ρ q 4 ∧ (∀ i, 0 ≤ i → i < ρ q 3 → τ' 71 i = ρ (q + 2) i) ∧ 1 ≤ ρ q 3 ∧ ρ q 3 ≤ 25 := by
  have he := fl.heq
  obtain ⟨f1, f2, f3, f4, f5, f6⟩ := fl
  rw [Int.zero_add] at f3
  have hM : hOK (τ 63) := (f2.ok (by omega)).congr he.symm
  have fb := findBedM ld.2.1 hM (by rw [f3.2.2]; exact f3.1) (by rw [f3.2.2]; exact f3.2.1)
  rw [f3.2.2] at fb
  obtain ⟨b1, b2, b3, b4, b5⟩ := bedW_ok (h := τ 63) (τ 71) ld.1.1 f3.1 f3.2.1
  have bc := bedT_congr he ld.1.1 f3.1 f3.2.1
  rw [bc] at b1 b2 b3 b4 b5
  refine ⟨_, fb, trN_ag _ _, ?_, ?_, fun i i0 i1 => ?_, by rw [f6.1]; exact b4, by rw [f6.1]; exact b5⟩
  · rw [trN_get1, b1, f6.1]
  · rw [trN_get2, b2, f6.2.1]
  · rw [f6.1] at i1
    rw [trN_way, (b3 i i0 i1).1, f6.2.2 i i0 i1]
theorem k_bed (h : Rel ρ τ) {i : Int} (hi : inR i) : ∃ r τ', f_X8_bed i ρ = some r ∧ f_X9_bed i τ = some (r, τ') ∧ Rel ρ τ' := by
  obtain ⟨W, H, fm, hr⟩ := h
  obtain ⟨a1, a2, a3, -⟩ := id hr
  have m1 := a3.1
  unfold f_X8_bed f_X9_bed
  rw [ckp hi, ckp hi]
  by_cases c : 0 ≤ i
  · obtain ⟨τ', b1, b2, b3, b4, b5, b6, b7⟩ := bedNowR a1 a2 (by omega)
    rw [if_pos c, if_pos c, b1, Option.bind_some, b3]
    simp only [ckp (show inR (ρ 8 3) by omega)]
    by_cases c1 : ρ 8 3 ≤ i
    · rw [if_pos c1, if_pos c1]
      exact ⟨_, _, rfl, rfl, W, H, fm, hr.ag (agC.refl _) b2.agM⟩
    · rw [if_neg c1, if_neg c1, ckp (by omega), ckp (by omega), b5 i c (by omega)]
      exact ⟨_, _, rfl, rfl, W, H, fm, hr.ag (agC.refl _) b2.agM⟩
  · rw [if_neg c, if_neg c]
    exact ⟨_, _, rfl, rfl, W, H, fm, hr⟩
theorem ownerOf_loop {W H fm c : Int} (ld : LdR W H fm ρ τ) (hc : 0 ≤ c ∧ c < W * H) : ∀ (m n : Nat) (f : Int), m + 1 ≤ n → f + (m : Int) = fm → 0 ≤ f → (τ 65 c = -4 ∨ f ≤ τ 65 c) → L_X3_ownerOf_2 ρ n c f = some (τ 65 c) := by
  obtain ⟨lc, lm, h4, h4', hfm, ho, hg, h8, hlt, -⟩ := ld
  have bd := lc.1.bd
  have hlt' := hlt c hc.1 hc.2
  have ho' := ho c hc.1 (by omega)
  intro m
  induction m with
  | zero =>
    intro n f hn hf f0 how
    obtain ⟨k, rfl⟩ : ∃ k, n = k + 1 := ⟨n - 1, by omega⟩
    rw [L_X3_ownerOf_2, h4, ckp (by omega), ckp (by omega), if_pos (by omega)]
    congr 1
    omega
  | succ m ih =>
    intro n f hn hf f0 how
    obtain ⟨k, rfl⟩ : ∃ k, n = k + 1 := ⟨n - 1, by omega⟩
    rw [L_X3_ownerOf_2, h4, ckp (by omega), ckp (by omega), if_neg (by omega), ckp (by omega), has_eq (by omega), Option.bind_some]
    have iff := hg f c f0 (by omega) hc.1 (by omega)
    by_cases e : τ 65 c = f
    · have : bt (ρ 2 f) c = 1 := iff.mpr ⟨hc.2, e⟩
      rw [this, i10, e]
    · have : bt (ρ 2 f) c = 0 := (bt_off (by omega)).mp (fun z => e (iff.mp z).2)
      rw [this, i00]
      exact ih k (f + 1) (by omega) (by omega) (by omega) (by omega)
theorem k_cell (h : Rel ρ τ) {c w : Int} (hc : inR c) (hw : inR w) : ∃ r, f_X8_cell c w ρ = some r ∧ f_X9_cell c w τ = some r := by
  obtain ⟨W, H, fm, hr⟩ := h
  obtain ⟨a1, a2, a3, -⟩ := id hr
  have he := a2.heq
  have lc := a1.1
  have lm := a1.2.1
  have hfm := a1.2.2.2.2.1
  have bd := lc.1.bd
  unfold f_X8_cell f_X9_cell
  by_cases k : 0 ≤ c ∧ c < W * H
  · rw [hasCell_yes lc k, isCell_yes lm k, Option.bind_some, Option.bind_some, i10, i10]
    simp only [ckp hw]
    by_cases k1 : 0 ≤ w ∧ w ≤ 1
    · rw [if_neg (show ¬ w < 0 by omega), if_pos k1.2, in_yes (L_of_R hw) (by omega) (by omega) k1, Option.bind_some, i10]
      by_cases k2 : w = 0
      · rw [if_pos k2, if_pos k2, ckp (by omega), ckp (by omega), he c k.1 (by omega)]
        exact ⟨_, rfl, rfl⟩
      · rw [if_neg k2, if_neg k2, ckp (by omega)]
        have := ownerOf_loop a1 k fm.toNat fu 0 (by unfold fu; omega) (by omega) (by omega) (by have := a1.2.2.2.2.2.1 c k.1 (by omega); omega)
        unfold f_X3_ownerOf
        rw [this]
        exact ⟨_, rfl, rfl⟩
    · rw [in_no (L_of_R hw) (by omega) (by omega) k1, Option.bind_some, i00]
      refine ⟨-1, ?_, rfl⟩
      by_cases c0 : w < 0
      · rw [if_pos c0]
      · rw [if_neg c0, if_neg (by omega)]
  · rw [hasCell_no lc hc k, isCell_no lm hc k, Option.bind_some, Option.bind_some, i00, i00]
    exact ⟨-1, rfl, rfl⟩
end Calls
