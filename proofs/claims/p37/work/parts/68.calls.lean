section Calls
variable {ρ τ : pm}
theorem farmM_loop {W H f w : Int} {K : Int → Int → Int → pm → Option (Int × pm)} (hl : landM τ W H) (ho : ownOK (τ 65)) (hf : inR f) : ∀ (m n c : Nat), m + 1 ≤ n → (c : Int) + (m : Int) = W * H → L_X9_farm_27 K n f w (mkm (fun c => τ 65 c = f) c) (c : Int) τ = K f w (mkm (fun c => τ 65 c = f) (W * H).toNat) τ := by
  have bd := hl.1.bd
  have hW := hl.2.1
  have hH := hl.2.2
  intro m
  induction m with
  | zero =>
    intro n c hn hc
    obtain ⟨k, rfl⟩ : ∃ k, n = k + 1 := ⟨n - 1, by omega⟩
    rw [L_X9_farm_27, hW, hH, ckp (by omega), ckp (by omega), if_pos (by omega), show (W * H).toNat = c by omega]
  | succ m ih =>
    intro n c hn hc
    obtain ⟨k, rfl⟩ : ∃ k, n = k + 1 := ⟨n - 1, by omega⟩
    have hoc := ho (c : Int) (by omega) (by omega)
    have ih' := ih k (c + 1) (by omega) (by omega)
    rw [show ((c + 1 : Nat) : Int) = (c : Int) + 1 by omega] at ih'
    have em : mkm (fun c => τ 65 c = f) (c + 1) = if τ 65 (c : Int) = f then bor (mkm (fun c => τ 65 c = f) c) (bshl 1 (c : Int)) else mkm (fun c => τ 65 c = f) c := rfl
    rw [em] at ih'
    rw [L_X9_farm_27, hW, hH, ckp (by omega), ckp (by omega), if_neg (by omega), ckp (by omega), ckp (by omega), ckp hf]
    dsimp only [jn]
    by_cases c1 : τ 65 (c : Int) = f
    · rw [if_pos c1, show f_X9_flag 1 = some 1 from rfl, Option.bind_some]
      rw [if_pos c1] at ih'
      exact ih'
    · rw [if_neg c1, show f_X9_flag 0 = some 0 from rfl, Option.bind_some, bshl0 (by omega), bor0 (mkm_R _ _)]
      rw [if_neg c1] at ih'
      exact ih'
theorem k_farm (h : Rel ρ τ) {f w : Int} (hf : inR f) (hw : inR w) : ∃ r τ', f_X8_farm f w ρ = some r ∧ f_X9_farm f w τ = some (r, τ') ∧ Rel ρ τ' := by
  obtain ⟨W, H, fm, hr⟩ := h
  obtain ⟨a1, a2, a3, -⟩ := id hr
  have he := a2.heq
  have m1 := a3.1
  have m2 := a3.2.1
  obtain ⟨lc, lm, h4, h4', hfm, ho, hg, h8, hlt, hR2⟩ := id a1
  obtain ⟨f1, f2, f3, f4, f5, f6⟩ := a2
  rw [Int.zero_add] at f3 f4
  have bd := lc.1.bd
  have hC : hOK (ρ 9) := f2.ok (by omega)
  have hM : hOK (τ 63) := hC.congr he.symm
  unfold f_X8_farm f_X9_farm
  by_cases k : 0 ≤ f ∧ f < fm
  · rw [hasFarm_yes h4 hfm k, isFarm_yes h4' hfm k, Option.bind_some, Option.bind_some, i10, i10]
    simp only [ckp hw]
    by_cases k1 : 0 ≤ w ∧ w ≤ 3
    · rw [in_yes (L_of_R hw) (by omega) (by omega) k1, Option.bind_some, i10]
      have lp := farmM_loop (w := w) (K := fun (l1 l2 l3 : Int) (ρ : pm) => if l2 = 0 then ck (0 ≤ 28 + l1 ∧ 28 + l1 < 168) (some (ρ 63 (28 + l1), ρ)) else if l2 = 1 then some (l3, ρ) else if l2 = 2 then bn2 (f_X9_hasNow l1 ρ) (fun v17 ρ18 => some (v17, ρ18)) else bn2 (f_X9_mayCut l1 ρ) (fun v15 ρ16 => some (v15, ρ16))) lm ho hf (W * H).toNat fu 0 (by unfold fu; omega) (by omega)
      have lp' : L_X9_farm_27 (fun (l1 l2 l3 : Int) (ρ : pm) => ck (inR l2) (if l2 = 0 then ck (0 ≤ 28 + l1 ∧ 28 + l1 < 168) (some (ρ 63 (28 + l1), ρ)) else if l2 = 1 then some (l3, ρ) else if l2 = 2 then bn2 (f_X9_hasNow l1 ρ) (fun v17 ρ18 => some (v17, ρ18)) else bn2 (f_X9_mayCut l1 ρ) (fun v15 ρ16 => some (v15, ρ16)))) fu f w 0 0 τ = ck (inR w) (if w = 0 then ck (0 ≤ 28 + f ∧ 28 + f < 168) (some (τ 63 (28 + f), τ)) else if w = 1 then some (mkm (fun c => τ 65 c = f) (W * H).toNat, τ) else if w = 2 then bn2 (f_X9_hasNow f τ) (fun v17 ρ18 => some (v17, ρ18)) else bn2 (f_X9_mayCut f τ) (fun v15 ρ16 => some (v15, ρ16))) := farmM_loop (w := w) (K := fun (l1 l2 l3 : Int) (ρ : pm) => ck (inR l2) (if l2 = 0 then ck (0 ≤ 28 + l1 ∧ 28 + l1 < 168) (some (ρ 63 (28 + l1), ρ)) else if l2 = 1 then some (l3, ρ) else if l2 = 2 then bn2 (f_X9_hasNow l1 ρ) (fun v17 ρ18 => some (v17, ρ18)) else bn2 (f_X9_mayCut l1 ρ) (fun v15 ρ16 => some (v15, ρ16)))) lm ho hf (W * H).toNat fu 0 (by unfold fu; omega) (by omega)
      clear lp
      rw [lp', ckp hw]
      have w4 : w = 0 ∨ w = 1 ∨ w = 2 ∨ w = 3 := by omega
      rcases w4 with rfl | rfl | rfl | rfl
      · rw [if_pos rfl, if_pos rfl, ckp (by omega), ckp (by omega)]
        refine ⟨_, τ, rfl, ?_, W, H, fm, hr⟩
        rw [← (m2 f k.1 (by omega)).1, Int.zero_add]
      · rw [i10, if_pos rfl, i10, if_pos rfl, ckp (by omega)]
        refine ⟨_, τ, rfl, ?_, W, H, fm, hr⟩
        congr 2
        refine on_ext (mkm_R _ _) (hR2 f k.1 (by omega)) (fun c c0 c1 => ?_)
        rw [on_mkm ⟨c0, c1⟩ (by omega), hg f c k.1 (by omega) c0 c1, show (((W * H).toNat : Nat) : Int) = W * H by omega]
      · rw [if_neg (by decide), if_neg (by decide), if_pos rfl, if_neg (by decide), if_neg (by decide), if_pos rfl, gainC lc.1 hg h4 hfm k]
        obtain ⟨τ', h1, h2⟩ := hasNowM lm hM (by rw [f3.2.2]; exact f3.1) (by rw [f3.2.2]; exact f3.2.1) ho (f := f) (by omega)
        rw [h1, bn2_of]
        refine ⟨_, τ', rfl, ?_, W, H, fm, hr.ag (agC.refl _) h2.agM⟩
        congr 2
        have e28 := (m2 f k.1 (by omega)).1
        rw [Int.zero_add] at e28
        rw [e28, f3.2.2, bedT_congr he lc.1 f3.1 f3.2.1, ← f6.2.1, Int.mul_comm]
      · rw [if_neg (by decide), if_neg (by decide), if_neg (by decide), if_pos rfl, if_neg (by decide), if_neg (by decide), if_neg (by decide), cuttableC lc hC hg h4 hfm ⟨f4.1, f4.2.1⟩ (by omega), if_pos k.2]
        obtain ⟨τ', h1, h2⟩ := mayCutM lm hM (by rw [f3.2.2]; exact f3.1) (by rw [f3.2.2]; exact f3.2.1) ho (by rw [f4.2.2]; exact ⟨f4.1, f4.2.1⟩) hf
        rw [h1, bn2_of]
        refine ⟨_, τ', rfl, ?_, W, H, fm, hr.ag (agC.refl _) h2.agM⟩
        congr 2
        rw [f3.2.2, f4.2.2, bedT_congr he lc.1 f3.1 f3.2.1, ← f6.2.1, canM_congr lc.1 he]
    · rw [in_no (L_of_R hw) (by omega) (by omega) k1, Option.bind_some, i00]
      refine ⟨-1, τ, ?_, rfl, W, H, fm, hr⟩
      rw [if_neg (by omega), if_neg (by omega), if_neg (by omega), if_neg (by omega)]
  · rw [hasFarm_no hf h4 hfm k, isFarm_no hf h4' hfm k, Option.bind_some, Option.bind_some, i00, i00]
    exact ⟨-1, τ, rfl, rfl, W, H, fm, hr⟩
/-- only the tape changes -/
theorem RelW.tape {W H fm : Int} {ρ' τ' : pm} (h : RelW W H fm ρ τ) (c : ∀ q, q ≠ 50 → q ≠ 51 → ρ' q = ρ q) (m : ∀ q, q ≠ 62 → q ≠ 70 → τ' q = τ q) (m2 : ∀ j, j ≠ 23 → τ' 62 j = τ 62 j) (tp : TpR ρ' τ') : RelW W H fm ρ' τ' := by
  obtain ⟨a1, a2, a3, a4, a5, a6, a7, a8⟩ := h
  have c0 := c 0 (by omega) (by omega)
  have t63 := m 63 (by omega) (by omega)
  refine ⟨a1.keep (c _ (by omega) (by omega)) (c _ (by omega) (by omega)) (c _ (by omega) (by omega)) (m2 _ (by omega)) (m2 _ (by omega)) (m2 _ (by omega)) (m _ (by omega) (by omega)), ?_, a3.keep (c _ (by omega) (by omega)) (c _ (by omega) (by omega)) (c _ (by omega) (by omega)) (c _ (by omega) (by omega)) (fun j _ _ => by rw [t63]), a4.keep (by rw [c0]) (fun q q0 q1 => c q (by omega) (by omega)) (m _ (by omega) (by omega)) (fun j _ _ => by rw [t63]), a5.keep (c _ (by omega) (by omega)) (c _ (by omega) (by omega)) (c _ (by omega) (by omega)) (m _ (by omega) (by omega)) (m _ (by omega) (by omega)) (m _ (by omega) (by omega)), tp, by rw [m2 45 (by omega), c0]; exact a7, a8.keep (c _ (by omega) (by omega)) (c _ (by omega) (by omega)) (fun q q0 q1 => c q (by omega) (by omega)) (m _ (by omega) (by omega))⟩
  rw [c 4 (by omega) (by omega)]
  exact a2.keep (c _ (by omega) (by omega)) (c _ (by omega) (by omega)) (c _ (by omega) (by omega)) (fun j _ _ => by rw [t63])
theorem k_end (h : Rel ρ τ) {n : Int} (hn : inR n) : ∃ r ρ' τ', f_X8_end n ρ = some (r, ρ') ∧ f_X9_end n τ = some (r, τ') ∧ Rel ρ' τ' := by
  obtain ⟨W, H, fm, hr⟩ := h
  obtain ⟨t1, t2⟩ := hr.2.2.2.2.2.1
  unfold f_X8_end f_X9_end
  have hR : inR (ρ 50 1) := by omega
  rw [t1.2.2]
  simp only [ckp hn, ckp hR]
  by_cases c : 0 ≤ n ∧ n ≤ ρ 50 1
  · rw [if_neg (by omega), if_pos c.2, in_yes (L_of_R hn) (by omega) (by omega) c, Option.bind_some, i10]
    dsimp only [jn]
    refine ⟨_, _, _, rfl, rfl, W, H, fm, hr.tape (fun q b1 b2 => pup_ne b1) (fun q b1 b2 => pup_ne b1) (fun j b => pup_off b) ?_⟩
    unfold TpR
    rw [pup_at, pup_at, pup_ne (show 51 ≠ 50 by omega), pup_ne (show 70 ≠ 62 by omega)]
    exact ⟨⟨by omega, by omega, rfl⟩, fun i i0 i1 => t2 i i0 (by omega)⟩
  · rw [in_no (L_of_R hn) (by omega) (by omega) c, Option.bind_some, i00]
    refine ⟨-1, ρ, τ, ?_, rfl, W, H, fm, hr⟩
    by_cases c0 : n < 0
    · rw [if_pos c0]
    · rw [if_neg c0, if_neg (by omega)]
/-! feed() -/
theorem b8_bmod (x : Int) : b8 x = x.bmod 256 := by
  unfold b8
  rw [Int32.toInt8_ofInt, Int8.toInt_ofInt]
theorem land255 (x : Int) : 0 ≤ land64 x 255 ∧ land64 x 255 ≤ 255 ∧ b8 (land64 x 255) = b8 x := by
  have e : land64 x 255 = x % 256 := by
    unfold land64
    have h1 : (Int64.ofInt x &&& Int64.ofInt 255).toBitVec = (BitVec.ofInt 64 x &&& 255#64) := by
      rw [Int64.toBitVec_and]
      rfl
    have h2 : (BitVec.ofInt 64 x &&& 255#64).toNat = (x % 18446744073709551616).toNat % 256 := by
      rw [BitVec.toNat_and, BitVec.toNat_ofInt, show (255#64).toNat = 2 ^ 8 - 1 from rfl, Nat.and_two_pow_sub_one_eq_mod]
      rfl
    have h3 : (Int64.ofInt x &&& Int64.ofInt 255).toInt = ((Int64.ofInt x &&& Int64.ofInt 255).toBitVec.toNat : Int) := by
      show (Int64.ofInt x &&& Int64.ofInt 255).toBitVec.toInt = _
      apply BitVec.toInt_eq_toNat_of_lt
      rw [h1, h2]
      omega
    rw [h3, h1, h2]
    omega
  rw [e, b8_bmod, b8_bmod]
  refine ⟨by omega, by omega, ?_⟩
  exact Int.emod_bmod x 256
theorem feedC_loop {v L : Int} {K : pm → Option (Int × pm)} : ∀ (m n : Nat) (i : Int) (ρ : pm), m + 1 ≤ n → i + (m : Int) = 8 → 0 ≤ i → ρ 50 1 = L → 0 ≤ L → L + 8 ≤ 320 → ∃ ρ', L_X6_append_17 K n v i ρ = K ρ' ∧ (∀ q, q ≠ 51 → ρ' q = ρ q) ∧ (∀ j, (j < L + i ∨ L + 8 ≤ j) → ρ' 51 j = ρ 51 j) ∧ (∀ j, L + i ≤ j → j < L + 8 → ρ' 51 j = b8 (lshr64 v (8 * (7 - (j - L))))) := by
  intro m
  induction m with
  | zero =>
    intro n i ρ hn hi i0 hL L0 L1
    obtain ⟨k, rfl⟩ : ∃ k, n = k + 1 := ⟨n - 1, by omega⟩
    rw [L_X6_append_17, ckp (by omega), if_pos (by omega)]
    exact ⟨ρ, rfl, fun _ _ => rfl, fun _ _ => rfl, fun j j0 j1 => by omega⟩
  | succ m ih =>
    intro n i ρ hn hi i0 hL L0 L1
    obtain ⟨k, rfl⟩ : ∃ k, n = k + 1 := ⟨n - 1, by omega⟩
    rw [L_X6_append_17, ckp (by omega), if_neg (by omega), hL, ckp (by omega)]
    dsimp only [jn]
    obtain ⟨ρ', g1, g2, g3, g4⟩ := ih k (i + 1) (pup ρ 51 (L + i) (b8 (lshr64 v (8 * (7 - i))))) (by omega) (by omega) (by omega) (by rw [pup_ne (by omega)]; exact hL) L0 L1
    refine ⟨ρ', g1, fun q hq => by rw [g2 q hq, pup_ne hq], fun j hj => by rw [g3 j (by omega), pup_off (by omega)], fun j j0 j1 => ?_⟩
    by_cases e : j = L + i
    · rw [g3 j (by omega), e, pup_at, show L + i - L = i by omega]
    · exact g4 j (by omega) j1
theorem feedM_loop {v L : Int} : ∀ (m n : Nat) (i : Int) (τ : pm), m + 1 ≤ n → i + (m : Int) = 8 → 0 ≤ i → τ 62 23 = L + i → 0 ≤ L → L + 8 ≤ 320 → ∃ τ', L_X9_feed_19 n v (56 - 8 * i) τ = some (L + 8, τ') ∧ (∀ q, q ≠ 70 → q ≠ 62 → τ' q = τ q) ∧ (∀ j, j ≠ 23 → τ' 62 j = τ 62 j) ∧ τ' 62 23 = L + 8 ∧ (∀ j, (j < L + i ∨ L + 8 ≤ j) → τ' 70 j = τ 70 j) ∧ (∀ j, L + i ≤ j → j < L + 8 → τ' 70 j = land64 (lshr64 v (8 * (7 - (j - L)))) 255) := by
  intro m
  induction m with
  | zero =>
    intro n i τ hn hi i0 hL L0 L1
    obtain ⟨k, rfl⟩ : ∃ k, n = k + 1 := ⟨n - 1, by omega⟩
    rw [L_X9_feed_19, ckp (by omega), if_pos (by omega), hL, show L + i = L + 8 by omega]
    exact ⟨τ, rfl, fun _ _ _ => rfl, fun _ _ => rfl, by omega, fun _ _ => rfl, fun j j0 j1 => by omega⟩
  | succ m ih =>
    intro n i τ hn hi i0 hL L0 L1
    obtain ⟨k, rfl⟩ : ∃ k, n = k + 1 := ⟨n - 1, by omega⟩
    rw [L_X9_feed_19, ckp (by omega), if_neg (by omega), hL, ckp (by omega)]
    dsimp only [jn]
    have u : ∀ x, pup τ 70 (L + i) x 62 23 = L + i := fun x => by rw [pup_ne (by omega)]; exact hL
    rw [u]
    obtain ⟨τ', g1, g2, g3, g4, g5, g6⟩ := ih k (i + 1) (pup (pup τ 70 (L + i) (land64 (lshr64 v (56 - 8 * i)) 255)) 62 23 (L + i + 1)) (by omega) (by omega) (by omega) (by rw [pup_at]; omega) L0 L1
    rw [show 56 - 8 * (i + 1) = 56 - 8 * i + (-8) by omega] at g1
    refine ⟨τ', g1, fun q b1 b2 => by rw [g2 q b1 b2, pup_ne b2, pup_ne b1], fun j b => by rw [g3 j b, pup_off b, pup_ne (by omega)], g4, fun j hj => by rw [g5 j (by omega), pup_ne (by omega), pup_off (by omega)], fun j j0 j1 => ?_⟩
    by_cases e : j = L + i
    · rw [g5 j (by omega), pup_ne (by omega), e, pup_at, show L + i - L = i by omega, show 8 * (7 - i) = 56 - 8 * i by omega]
    · exact g6 j (by omega) j1
theorem k_feed (h : Rel ρ τ) (v : Int) : ∃ r ρ' τ', f_X8_feed v ρ = some (r, ρ') ∧ f_X9_feed v τ = some (r, τ') ∧ Rel ρ' τ' := by
  obtain ⟨W, H, fm, hr⟩ := h
  obtain ⟨t1, t2⟩ := hr.2.2.2.2.2.1
  unfold f_X8_feed f_X6_append f_X9_feed
  have hR : inR (ρ 50 1 + 8) := by omega
  rw [t1.2.2]
  simp only [ckp hR]
  by_cases c : ρ 50 1 + 8 ≤ 320
  · rw [if_pos c, if_pos c]
    obtain ⟨ρ', g1, g2, g3, g4⟩ := feedC_loop (v := v) (L := ρ 50 1) (K := fun (ρ : pm) => jn (pup ρ 50 1 ((ρ 50 1) + 8)) (fun ρ6 => some (1, ρ6))) 8 fu 0 ρ (by unfold fu; omega) (by omega) (by omega) rfl t1.1 c
    obtain ⟨τ', u1, u2, u3, u4, u5, u6⟩ := feedM_loop (v := v) (L := ρ 50 1) 8 fu 0 τ (by unfold fu; omega) (by omega) (by omega) (by rw [t1.2.2]; omega) t1.1 c
    rw [show (56 : Int) - 8 * 0 = 56 by omega] at u1
    rw [g1, u1]
    dsimp only [jn]
    have e50 : ρ' 50 1 = ρ 50 1 := by rw [g2 50 (by omega)]
    rw [bn2_of, i10, pup_at, e50]
    refine ⟨_, _, _, rfl, rfl, W, H, fm, hr.tape (fun q b1 b2 => by rw [pup_ne b1, g2 q b2]) (fun q b1 b2 => u2 q b2 b1) u3 ?_⟩
    unfold TpR
    rw [pup_at, pup_ne (show 51 ≠ 50 by omega)]
    refine ⟨⟨by omega, by omega, u4⟩, fun i i0 i1 => ?_⟩
    by_cases e : i < ρ 50 1
    · rw [g3 i (by omega), u5 i (by omega)]; exact t2 i i0 e
    · rw [g4 i (by omega) i1, u6 i (by omega) i1]
      have := land255 (lshr64 v (8 * (7 - (i - ρ 50 1))))
      exact ⟨this.1, this.2.1, this.2.2.symm⟩
  · rw [if_neg c, if_neg c, bn2_of, i00]
    exact ⟨_, _, _, rfl, rfl, W, H, fm, hr⟩
end Calls
