/-! images -/
theorem pcp_ne {ρ : pm} {q0 q1 q' : Nat} {sp dp n : Int} (h : q' ≠ q1) : pcp ρ q0 sp q1 dp n q' = ρ q' := funext fun j => if_neg (fun z => h z.1)
theorem pcp_in {ρ : pm} {q0 q1 : Nat} {sp dp n j : Int} (h : dp ≤ j ∧ j < dp + n) : pcp ρ q0 sp q1 dp n q1 j = ρ q0 (sp + (j - dp)) := if_pos ⟨rfl, h⟩
theorem pcp_out {ρ : pm} {q0 q1 : Nat} {sp dp n j : Int} (h : ¬ (dp ≤ j ∧ j < dp + n)) : pcp ρ q0 sp q1 dp n q1 j = ρ q1 j := if_neg (fun z => h z.2)
theorem pcp_0 {ρ : pm} {q0 q1 : Nat} {n j : Int} (h : 0 ≤ j ∧ j < n) : pcp ρ q0 0 q1 0 n q1 j = ρ q0 j := by
  rw [pcp_in (by omega)]
  congr 1
  omega
theorem copyF {q p : Nat} {ρ : pm} (hd : p + 2 < q ∨ q + 2 < p) (h7 : ρ p 7 = 0 ∨ ρ p 7 = 1) : ∃ ρ', f_X2_copy q p ρ = some ρ' ∧ (∀ q', q' ≠ q → q' ≠ q + 1 → q' ≠ q + 2 → ρ' q' = ρ q') ∧ (∀ i, 0 ≤ i → i < 25 → ρ' (q + 1) i = ρ (p + 1) i ∧ ρ' (q + 2) i = ρ (p + 2) i) ∧ (∀ j, 3 ≤ j → j ≤ 7 → ρ' q j = ρ p j) := by
  unfold f_X2_copy
  dsimp only [jn]
  obtain ⟨ρ2, e2⟩ : ∃ ρ2, ρ2 = pcp (pcp ρ (p + 1) 0 (q + 1) 0 25) (p + 2) 0 (q + 2) 0 25 := ⟨_, rfl⟩
  rw [← e2]
  have g0 : ∀ q', q' ≠ q + 1 → q' ≠ q + 2 → ρ2 q' = ρ q' := fun q' a b => by rw [e2, pcp_ne b, pcp_ne a]
  have gp : ρ2 p = ρ p := g0 p (by omega) (by omega)
  have k1 : ∀ x, pup ρ2 q 3 x p = ρ p := fun x => by rw [pup_ne (by omega), gp]
  have k2 : ∀ x y, pup (pup ρ2 q 3 x) q 4 y p = ρ p := fun x y => by rw [pup_ne (by omega), k1]
  have k3 : ∀ x y z, pup (pup (pup ρ2 q 3 x) q 4 y) q 5 z p = ρ p := fun x y z => by rw [pup_ne (by omega), k2]
  have k4 : ∀ x y z u, pup (pup (pup (pup ρ2 q 3 x) q 4 y) q 5 z) q 6 u p = ρ p := fun x y z u => by rw [pup_ne (by omega), k3]
  rw [gp, k1, k2, k3, k4, ckp h7]
  refine ⟨_, rfl, fun q' a b c => by rw [pup_ne a, pup_ne a, pup_ne a, pup_ne a, pup_ne a, g0 q' b c], fun i i0 i1 => ⟨?_, ?_⟩, fun j j0 j1 => ?_⟩
  · rw [pup_ne (by omega), pup_ne (by omega), pup_ne (by omega), pup_ne (by omega), pup_ne (by omega), e2, pcp_ne (by omega), pcp_0 ⟨i0, i1⟩]
  · rw [pup_ne (by omega), pup_ne (by omega), pup_ne (by omega), pup_ne (by omega), pup_ne (by omega), e2, pcp_0 ⟨i0, i1⟩, pcp_ne (by omega)]
  · have : j = 3 ∨ j = 4 ∨ j = 5 ∨ j = 6 ∨ j = 7 := by omega
    rcases this with rfl | rfl | rfl | rfl | rfl
    · rw [pup_off (by omega), pup_off (by omega), pup_off (by omega), pup_off (by omega), pup_at]
    · rw [pup_off (by omega), pup_off (by omega), pup_off (by omega), pup_at]
    · rw [pup_off (by omega), pup_off (by omega), pup_at]
    · rw [pup_off (by omega), pup_at]
    · rw [pup_at]
theorem FlR.move {W H Y : Int} {ρ τ ρ' τ' : pm} {p q : Nat} {s s' : Int} (hw : wh W H) (h : FlR W H Y ρ τ p s) (c1 : ∀ i, 0 ≤ i → i < 25 → ρ' (q + 1) i = ρ (p + 1) i ∧ ρ' (q + 2) i = ρ (p + 2) i) (c2 : ∀ j, 3 ≤ j → j ≤ 7 → ρ' q j = ρ p j) (t : ∀ j, 0 ≤ j → j < 28 → τ' 63 (s' + j) = τ 63 (s + j)) : FlR W H Y ρ' τ' q s' := by
  obtain ⟨f1, f2, f3, f4, f5, f6⟩ := h
  have he : ∀ c, 0 ≤ c → c < 25 → ρ (p + 1) c = ρ' (q + 1) c := fun c a b => (c1 c a b).1.symm
  unfold FlR
  rw [c2 5 (by omega) (by omega), c2 6 (by omega) (by omega), c2 7 (by omega) (by omega), t 25 (by omega) (by omega), t 26 (by omega) (by omega), t 27 (by omega) (by omega)]
  refine ⟨fun c c0 c1' => by rw [t c c0 (by omega), (c1 c c0 c1').1]; exact f1 c c0 c1', f2.congr he, f3, f4, f5, ?_⟩
  obtain ⟨-, -, -, -, b5⟩ := bedW_ok (h := ρ (p + 1)) (fun _ => 0) hw f3.1 f3.2.1
  unfold bedR
  rw [c2 5 (by omega) (by omega), c2 3 (by omega) (by omega), c2 4 (by omega) (by omega), ← bedT_congr he hw f3.1 f3.2.1]
  exact ⟨f6.1, f6.2.1, fun i i0 i1 => by rw [(c1 i i0 (by omega)).2]; exact f6.2.2 i i0 i1⟩
theorem MiR.move {ρ τ ρ' τ' : pm} {p q : Nat} {s s' : Int} (h : MiR ρ τ p s) (c0 : ∀ j, 4 ≤ j → j ≤ 6 → ρ' q j = ρ p j) (c1 : ∀ i, 0 ≤ i → i < 3 → ρ' (q + 1) i = ρ (p + 1) i) (c2 : ∀ i, 0 ≤ i → i < 6 → ρ' (q + 2) i = ρ (p + 2) i) (c3 : ∀ i, 0 ≤ i → i < 8 → ρ' (q + 3) i = ρ (p + 3) i) (t : ∀ j, 28 ≤ j → j < 56 → τ' 63 (s' + j) = τ 63 (s + j)) : MiR ρ' τ' q s' := by
  obtain ⟨m1, m2, m3, m4, m5, m6⟩ := h
  unfold MiR
  rw [c0 4 (by omega) (by omega), c0 5 (by omega) (by omega), c0 6 (by omega) (by omega), t 31 (by omega) (by omega), t 32 (by omega) (by omega), t 39 (by omega) (by omega)]
  refine ⟨m1, fun f f0 f1 => ?_, m3, fun i i0 i1 => ?_, m5, fun i i0 i1 => ?_⟩
  · rw [show s' + 28 + f = s' + (28 + f) by omega, t (28 + f) (by omega) (by omega), c1 f f0 f1, show s + (28 + f) = s + 28 + f by omega]; exact m2 f f0 f1
  · rw [show s' + 33 + i = s' + (33 + i) by omega, t (33 + i) (by omega) (by omega), c2 i i0 (by omega), show s + (33 + i) = s + 33 + i by omega]; exact m4 i i0 i1
  · rw [show s' + 40 + 2 * i = s' + (40 + 2 * i) by omega, t (40 + 2 * i) (by omega) (by omega), show s' + 41 + 2 * i = s' + (41 + 2 * i) by omega, t (41 + 2 * i) (by omega) (by omega), c3 i i0 (by omega), show s + (40 + 2 * i) = s + 40 + 2 * i by omega, show s + (41 + 2 * i) = s + 41 + 2 * i by omega]; exact m6 i i0 i1
theorem copyT {q p : Nat} {ρ : pm} (hd : p + 6 < q ∨ q + 6 < p) (h7 : ρ (p + 4) 7 = 0 ∨ ρ (p + 4) 7 = 1) : ∃ ρ', f_X7_copy q p ρ = some ρ' ∧ (∀ q', (q' < q ∨ q + 6 < q') → ρ' q' = ρ q') ∧ (∀ i, 0 ≤ i → i < 25 → ρ' (q + 4 + 1) i = ρ (p + 4 + 1) i ∧ ρ' (q + 4 + 2) i = ρ (p + 4 + 2) i) ∧ (∀ j, 3 ≤ j → j ≤ 7 → ρ' (q + 4) j = ρ (p + 4) j) ∧ (∀ j, 4 ≤ j → j ≤ 6 → ρ' q j = ρ p j) ∧ (∀ i, 0 ≤ i → i < 3 → ρ' (q + 1) i = ρ (p + 1) i) ∧ (∀ i, 0 ≤ i → i < 6 → ρ' (q + 2) i = ρ (p + 2) i) ∧ (∀ i, 0 ≤ i → i < 8 → ρ' (q + 3) i = ρ (p + 3) i) := by
  obtain ⟨ρ1, a1, a2, a3, a4⟩ := copyF (q := q + 4) (p := p + 4) (ρ := ρ) (by omega) h7
  unfold f_X7_copy
  rw [a1, Option.bind_some]
  dsimp only [jn]
  obtain ⟨ρ2, e2⟩ : ∃ ρ2, ρ2 = pcp (pcp (pcp ρ1 (p + 1) 0 (q + 1) 0 3) (p + 2) 0 (q + 2) 0 6) (p + 3) 0 (q + 3) 0 8 := ⟨_, rfl⟩
  rw [← e2]
  have g0 : ∀ q', q' ≠ q + 1 → q' ≠ q + 2 → q' ≠ q + 3 → ρ2 q' = ρ1 q' := fun q' a b c => by rw [e2, pcp_ne c, pcp_ne b, pcp_ne a]
  have gp : ρ2 p = ρ p := by rw [g0 p (by omega) (by omega) (by omega), a2 p (by omega) (by omega) (by omega)]
  have k1 : ∀ x, pup ρ2 q 4 x p = ρ p := fun x => by rw [pup_ne (by omega), gp]
  have k2 : ∀ x y, pup (pup ρ2 q 4 x) q 5 y p = ρ p := fun x y => by rw [pup_ne (by omega), k1]
  rw [gp, k1, k2]
  have kn : ∀ q' x y z, q' ≠ q → pup (pup (pup ρ2 q 4 x) q 5 y) q 6 z q' = ρ2 q' := fun q' x y z h => by rw [pup_ne h, pup_ne h, pup_ne h]
  refine ⟨_, rfl, fun q' hq => by rw [kn _ _ _ _ (by omega), g0 q' (by omega) (by omega) (by omega), a2 q' (by omega) (by omega) (by omega)], fun i i0 i1 => ?_, fun j j0 j1 => ?_, fun j j0 j1 => ?_, fun i i0 i1 => ?_, fun i i0 i1 => ?_, fun i i0 i1 => ?_⟩
  · rw [kn _ _ _ _ (by omega), kn _ _ _ _ (by omega), g0 _ (by omega) (by omega) (by omega), g0 _ (by omega) (by omega) (by omega)]; exact a3 i i0 i1
  · rw [kn _ _ _ _ (by omega), g0 _ (by omega) (by omega) (by omega)]; exact a4 j j0 j1
  · have : j = 4 ∨ j = 5 ∨ j = 6 := by omega
    rcases this with rfl | rfl | rfl
    · rw [pup_off (by omega), pup_off (by omega), pup_at]
    · rw [pup_off (by omega), pup_at]
    · rw [pup_at]
  · rw [kn _ _ _ _ (by omega), e2, pcp_ne (by omega), pcp_ne (by omega), pcp_0 ⟨i0, i1⟩, a2 _ (by omega) (by omega) (by omega)]
  · rw [kn _ _ _ _ (by omega), e2, pcp_ne (by omega), pcp_0 ⟨i0, i1⟩, pcp_ne (by omega), a2 _ (by omega) (by omega) (by omega)]
  · rw [kn _ _ _ _ (by omega), e2, pcp_0 ⟨i0, i1⟩, pcp_ne (by omega), pcp_ne (by omega), a2 _ (by omega) (by omega) (by omega)]
theorem copiesM_loop {to of : Int} (ht : 0 ≤ to ∧ to + 56 ≤ 168) (ho : 0 ≤ of ∧ of + 56 ≤ 168) (hd : to + 56 ≤ of ∨ of + 56 ≤ to) : ∀ (m n : Nat) (k : Int) (τ : pm), m + 1 ≤ n → k + (m : Int) = 56 → 0 ≤ k → ∃ τ', L_X9_copies_2 n to of k τ = some τ' ∧ (∀ q, q ≠ 63 → τ' q = τ q) ∧ (∀ j, k ≤ j → j < 56 → τ' 63 (to + j) = τ 63 (of + j)) ∧ (∀ j, (j < to + k ∨ to + 56 ≤ j) → τ' 63 j = τ 63 j) := by
  intro m
  induction m with
  | zero =>
    intro n k τ hn hk k0
    obtain ⟨i, rfl⟩ : ∃ i, n = i + 1 := ⟨n - 1, by omega⟩
    rw [L_X9_copies_2, ckp (by omega), if_pos (by omega)]
    exact ⟨τ, rfl, fun _ _ => rfl, fun j j0 j1 => by omega, fun _ _ => rfl⟩
  | succ m ih =>
    intro n k τ hn hk k0
    obtain ⟨i, rfl⟩ : ∃ i, n = i + 1 := ⟨n - 1, by omega⟩
    rw [L_X9_copies_2, ckp (by omega), if_neg (by omega), ckp (by omega), ckp (by omega)]
    dsimp only [jn]
    obtain ⟨τ', g1, g2, g3, g4⟩ := ih i (k + 1) (pup τ 63 (to + k) (τ 63 (of + k))) (by omega) (by omega) (by omega)
    refine ⟨τ', g1, fun q hq => by rw [g2 q hq, pup_ne hq], fun j j0 j1 => ?_, fun j hj => by rw [g4 j (by omega), pup_off (by omega)]⟩
    by_cases e : j = k
    · rw [e, g4 (to + k) (by omega), pup_at]
    · rw [g3 j (by omega) j1, pup_off (by omega)]
theorem copiesM {to of : Int} (τ : pm) (ht : 0 ≤ to ∧ to + 56 ≤ 168) (ho : 0 ≤ of ∧ of + 56 ≤ 168) (hd : to + 56 ≤ of ∨ of + 56 ≤ to) : ∃ τ', f_X9_copies to of τ = some τ' ∧ (∀ q, q ≠ 63 → τ' q = τ q) ∧ (∀ j, 0 ≤ j → j < 56 → τ' 63 (to + j) = τ 63 (of + j)) ∧ (∀ j, (j < to ∨ to + 56 ≤ j) → τ' 63 j = τ 63 j) := by
  obtain ⟨τ', g1, g2, g3, g4⟩ := copiesM_loop ht ho hd 56 fu 0 τ (by unfold fu; omega) (by omega) (by omega)
  exact ⟨τ', g1, g2, g3, fun j hj => g4 j (by omega)⟩
theorem kept_4 : ∀ k : Fin 4, (bor (k.val : Int) (bshl 1 0) = if k.val % 2 = 1 then (k.val : Int) else k.val + 1) ∧ (bor (k.val : Int) (bshl 1 1) = if k.val / 2 = 1 then (k.val : Int) else k.val + 2) := by decide +kernel
theorem kept_bd {k c : Int} (hk : 0 ≤ k ∧ k < 4) (hc : c = 0 ∨ c = 1) : 0 ≤ bor k (bshl 1 c) ∧ bor k (bshl 1 c) < 4 := by
  obtain ⟨n, rfl⟩ : ∃ n : Nat, k = (n : Int) := ⟨k.toNat, by omega⟩
  have h := kept_4 ⟨n, by omega⟩
  dsimp only at h
  rcases hc with rfl | rfl
  · rw [h.1]; split <;> omega
  · rw [h.2]; split <;> omega
/-- images and the present may change -/
theorem RelW.ims {W H fm : Int} {ρ τ ρ' τ' : pm} (h : RelW W H fm ρ τ) (c : ∀ q, (1 ≤ q ∧ q ≤ 3) ∨ (50 ≤ q ∧ q ≤ 51) ∨ (57 ≤ q ∧ q ≤ 60) → ρ' q = ρ q) (c0 : ρ' 0 13 = ρ 0 13) (m : ∀ q, q ≠ 63 → q ≠ 64 → τ' q = τ q) (fl : FlR W H (ρ' 4 4) ρ' τ' 8 0) (mi : MiR ρ' τ' 4 0) (kp : KpR W H ρ' τ') (out : OutR W H fm ρ' τ') : RelW W H fm ρ' τ' := by
  obtain ⟨a1, a2, a3, a4, a5, a6, a7, a8⟩ := h
  have t62 := m 62 (by omega) (by omega)
  exact ⟨a1.keep (c _ (by omega)) (c _ (by omega)) (c _ (by omega)) (by rw [t62]) (by rw [t62]) (by rw [t62]) (m _ (by omega) (by omega)), fl, mi, kp, a5.keep (c _ (by omega)) (c _ (by omega)) (c _ (by omega)) (m _ (by omega) (by omega)) (m _ (by omega) (by omega)) (m _ (by omega) (by omega)), a6.keep (by rw [c 50 (by omega)]) (c _ (by omega)) (by rw [t62]) (m _ (by omega) (by omega)), by rw [t62, c0]; exact a7, out⟩
section Calls
variable {ρ τ : pm}
theorem k_keep (h : Rel ρ τ) {k : Int} (hk : inR k) : ∃ r ρ' τ', f_X8_keep k ρ = some (r, ρ') ∧ f_X9_keep k τ = some (r, τ') ∧ Rel ρ' τ' := by
  obtain ⟨W, H, fm, hr⟩ := h
  obtain ⟨a1, a2, a3, a4, a5, a6, a7, a8⟩ := id hr
  obtain ⟨b1, b2, b3, b4, b5⟩ := a4
  have hw := a1.1.1
  unfold f_X8_keep f_X9_keep
  simp only [ckp hk]
  by_cases c : 0 ≤ k ∧ k ≤ 1
  · rw [if_neg (by omega), if_pos (show k < 2 by omega), in_yes (L_of_R hk) (by omega) (by omega) c, Option.bind_some, i10, ckp (by omega)]
    have h7 : ρ (4 + 4) 7 = 0 ∨ ρ (4 + 4) 7 = 1 := a2.2.2.2.2.1.1
    have k2 : k = 0 ∨ k = 1 := by omega
    have zb : ∀ i, 0 ≤ i ∧ i < 32 → (if bt (ρ 0 11) i = 0 then (0 : Int) else 1) = bt (ρ 0 11) i := fun i hi => by rcases bt_01 (ρ 0 11) i hi with e | e <;> rw [e] <;> rfl
    rcases k2 with rfl | rfl
    · obtain ⟨ρ1, p1, p2, p3, p4, p5, p6, p7, p8⟩ := copyT (q := 11) (p := 4) (ρ := ρ) (by omega) h7
      obtain ⟨τ1, q1, q2, q3, q4⟩ := copiesM (to := 56) (of := 0) (pup τ 64 0 1) (by omega) (by omega) (by omega)
      dsimp only [jn]
      rw [if_pos rfl, p1, Option.bind_some, b2, flag_eq (Z_R (bt_01 _ _ (by omega))), Option.bind_some, zb 0 (by omega), show (56 : Int) * (0 + 1) = 56 by omega, q1, Option.bind_some, show ρ1 0 11 = ρ 0 11 by rw [p2 0 (by omega)]]
      refine ⟨_, _, _, rfl, rfl, W, H, fm, ?_⟩
      obtain ⟨ρ2, e2⟩ : ∃ ρ2, ρ2 = pup ρ1 0 11 (bor (ρ 0 11) (bshl 1 0)) := ⟨_, rfl⟩
      rw [← e2]
      have eo : ∀ q, q ≠ 0 → ρ2 q = ρ1 q := fun q b => by rw [e2, pup_ne b]
      have ek : ∀ q, q ≠ 0 → (q < 11 ∨ 17 < q) → ρ2 q = ρ q := fun q b1 b2 => by rw [eo q b1, p2 q (by omega)]
      have e13 : ρ2 0 13 = ρ 0 13 := by rw [e2, pup_off (by omega), p2 0 (by omega)]
      have ek0 : ρ2 0 11 = bor (ρ 0 11) (bshl 1 0) := by rw [e2, pup_at]
      have t63 : ∀ j, (j < 56 ∨ 112 ≤ j) → τ1 63 j = τ 63 j := fun j hj => by rw [q4 j (by omega), pup_ne (by omega)]
      have tc : ∀ j, 0 ≤ j → j < 56 → τ1 63 (56 + j) = τ 63 (0 + j) := fun j j0 j1 => by rw [q3 j j0 j1, pup_ne (by omega)]
      have t64 : τ1 64 0 = 1 ∧ τ1 64 1 = τ 64 1 := by rw [q2 64 (by omega), pup_at, pup_off (by omega)]; exact ⟨rfl, rfl⟩
      refine hr.ims (fun q hq => ek q (by omega) (by omega)) e13 (fun q c1 c2 => by rw [q2 q c1, pup_ne c2]) ?_ (a3.keep (ek _ (by omega) (by omega)) (ek _ (by omega) (by omega)) (ek _ (by omega) (by omega)) (ek _ (by omega) (by omega)) (fun j j0 j1 => t63 j (by omega))) ?_ (a8.keep (ek _ (by omega) (by omega)) (ek _ (by omega) (by omega)) (fun q q0 q1 => ek q (by omega) (by omega)) (by rw [q2 65 (by omega), pup_ne (by omega)]))
      · rw [ek 4 (by omega) (by omega)]
        exact a2.keep (ek _ (by omega) (by omega)) (ek _ (by omega) (by omega)) (ek _ (by omega) (by omega)) (fun j j0 j1 => t63 j (by omega))
      · unfold KpR
        rw [ek0, t64.1, t64.2, bt_add (by omega) (by omega), bt_add (by omega) (by omega), if_pos rfl, if_neg (by omega)]
        refine ⟨kept_bd b1 (Or.inl rfl), rfl, b3, fun _ => ?_, fun z => ?_⟩
        · unfold ImR
          rw [eo 11 (by omega), p5 4 (by omega) (by omega)]
          exact ⟨a2.move hw (fun i i0 i1 => by rw [eo _ (by omega), eo _ (by omega)]; exact p3 i i0 i1) (fun j j0 j1 => by rw [eo _ (by omega)]; exact p4 j j0 j1) (fun j j0 j1 => tc j j0 (by omega)), a3.move (fun j j0 j1 => by rw [eo _ (by omega)]; exact p5 j j0 j1) (fun i i0 i1 => by rw [eo _ (by omega)]; exact p6 i i0 i1) (fun i i0 i1 => by rw [eo _ (by omega)]; exact p7 i i0 i1) (fun i i0 i1 => by rw [eo _ (by omega)]; exact p8 i i0 i1) (fun j j0 j1 => tc j (by omega) (by omega))⟩
        · obtain ⟨i1, i2⟩ := b5 z
          unfold ImR
          rw [ek 18 (by omega) (by omega)]
          exact ⟨i1.keep (ek _ (by omega) (by omega)) (ek _ (by omega) (by omega)) (ek _ (by omega) (by omega)) (fun j j0 j1 => t63 j (by omega)), i2.keep (ek _ (by omega) (by omega)) (ek _ (by omega) (by omega)) (ek _ (by omega) (by omega)) (ek _ (by omega) (by omega)) (fun j j0 j1 => t63 j (by omega))⟩
    · obtain ⟨ρ1, p1, p2, p3, p4, p5, p6, p7, p8⟩ := copyT (q := 18) (p := 4) (ρ := ρ) (by omega) h7
      obtain ⟨τ1, q1, q2, q3, q4⟩ := copiesM (to := 112) (of := 0) (pup τ 64 1 1) (by omega) (by omega) (by omega)
      dsimp only [jn]
      rw [i10, p1, Option.bind_some, b3, flag_eq (Z_R (bt_01 _ _ (by omega))), Option.bind_some, zb 1 (by omega), show (56 : Int) * (1 + 1) = 112 by omega, q1, Option.bind_some, show ρ1 0 11 = ρ 0 11 by rw [p2 0 (by omega)]]
      refine ⟨_, _, _, rfl, rfl, W, H, fm, ?_⟩
      obtain ⟨ρ2, e2⟩ : ∃ ρ2, ρ2 = pup ρ1 0 11 (bor (ρ 0 11) (bshl 1 1)) := ⟨_, rfl⟩
      rw [← e2]
      have eo : ∀ q, q ≠ 0 → ρ2 q = ρ1 q := fun q b => by rw [e2, pup_ne b]
      have ek : ∀ q, q ≠ 0 → (q < 18 ∨ 24 < q) → ρ2 q = ρ q := fun q b1 b2 => by rw [eo q b1, p2 q (by omega)]
      have e13 : ρ2 0 13 = ρ 0 13 := by rw [e2, pup_off (by omega), p2 0 (by omega)]
      have ek0 : ρ2 0 11 = bor (ρ 0 11) (bshl 1 1) := by rw [e2, pup_at]
      have t63 : ∀ j, (j < 112 ∨ 168 ≤ j) → τ1 63 j = τ 63 j := fun j hj => by rw [q4 j (by omega), pup_ne (by omega)]
      have tc : ∀ j, 0 ≤ j → j < 56 → τ1 63 (112 + j) = τ 63 (0 + j) := fun j j0 j1 => by rw [q3 j j0 j1, pup_ne (by omega)]
      have t64 : τ1 64 1 = 1 ∧ τ1 64 0 = τ 64 0 := by rw [q2 64 (by omega), pup_at, pup_off (by omega)]; exact ⟨rfl, rfl⟩
      refine hr.ims (fun q hq => ek q (by omega) (by omega)) e13 (fun q c1 c2 => by rw [q2 q c1, pup_ne c2]) ?_ (a3.keep (ek _ (by omega) (by omega)) (ek _ (by omega) (by omega)) (ek _ (by omega) (by omega)) (ek _ (by omega) (by omega)) (fun j j0 j1 => t63 j (by omega))) ?_ (a8.keep (ek _ (by omega) (by omega)) (ek _ (by omega) (by omega)) (fun q q0 q1 => ek q (by omega) (by omega)) (by rw [q2 65 (by omega), pup_ne (by omega)]))
      · rw [ek 4 (by omega) (by omega)]
        exact a2.keep (ek _ (by omega) (by omega)) (ek _ (by omega) (by omega)) (ek _ (by omega) (by omega)) (fun j j0 j1 => t63 j (by omega))
      · unfold KpR
        rw [ek0, t64.1, t64.2, bt_add (by omega) (by omega), bt_add (by omega) (by omega), if_pos rfl, if_neg (by omega)]
        refine ⟨kept_bd b1 (Or.inr rfl), b2, rfl, fun z => ?_, fun _ => ?_⟩
        · obtain ⟨i1, i2⟩ := b4 z
          unfold ImR
          rw [ek 11 (by omega) (by omega)]
          exact ⟨i1.keep (ek _ (by omega) (by omega)) (ek _ (by omega) (by omega)) (ek _ (by omega) (by omega)) (fun j j0 j1 => t63 j (by omega)), i2.keep (ek _ (by omega) (by omega)) (ek _ (by omega) (by omega)) (ek _ (by omega) (by omega)) (ek _ (by omega) (by omega)) (fun j j0 j1 => t63 j (by omega))⟩
        · unfold ImR
          rw [eo 18 (by omega), p5 4 (by omega) (by omega)]
          exact ⟨a2.move hw (fun i i0 i1 => by rw [eo _ (by omega), eo _ (by omega)]; exact p3 i i0 i1) (fun j j0 j1 => by rw [eo _ (by omega)]; exact p4 j j0 j1) (fun j j0 j1 => tc j j0 (by omega)), a3.move (fun j j0 j1 => by rw [eo _ (by omega)]; exact p5 j j0 j1) (fun i i0 i1 => by rw [eo _ (by omega)]; exact p6 i i0 i1) (fun i i0 i1 => by rw [eo _ (by omega)]; exact p7 i i0 i1) (fun i i0 i1 => by rw [eo _ (by omega)]; exact p8 i i0 i1) (fun j j0 j1 => tc j (by omega) (by omega))⟩
  · rw [in_no (L_of_R hk) (by omega) (by omega) c, Option.bind_some, i00]
    refine ⟨-1, ρ, τ, ?_, rfl, W, H, fm, hr⟩
    by_cases c0 : k < 0
    · rw [if_pos c0]
    · rw [if_neg c0, if_neg (by omega)]
theorem back_one {W H fm : Int} (hr : RelW W H fm ρ τ) {q : Nat} {s : Int} (hq : (q = 11 ∧ s = 56) ∨ (q = 18 ∧ s = 112)) (im : ImR W H ρ τ q s) : ∃ ρ1 τ1, f_X7_copy 4 q ρ = some ρ1 ∧ f_X9_copies 0 s τ = some τ1 ∧ τ1 63 31 = ρ1 4 4 ∧ RelW W H fm (pup ρ1 28 6 0) τ1 := by
  obtain ⟨a1, a2, a3, a4, a5, a6, a7, a8⟩ := id hr
  obtain ⟨i1, i2⟩ := im
  have hw := a1.1.1
  obtain ⟨ρ1, p1, p2, p3, p4, p5, p6, p7, p8⟩ := copyT (q := 4) (p := q) (ρ := ρ) (by omega) i1.2.2.2.2.1.1
  obtain ⟨τ1, q1, q2, q3, q4⟩ := copiesM (to := 0) (of := s) τ (by omega) (by omega) (by omega)
  have eo : ∀ x, x ≠ 28 → pup ρ1 28 6 0 x = ρ1 x := fun x b => pup_ne b
  have ek : ∀ x, x ≠ 28 → (x < 4 ∨ 10 < x) → pup ρ1 28 6 0 x = ρ x := fun x b1 b2 => by rw [eo x b1, p2 x (by omega)]
  have mi : MiR (pup ρ1 28 6 0) τ1 4 0 := i2.move (fun j j0 j1 => by rw [eo _ (by omega)]; exact p5 j j0 j1) (fun i i0 i1 => by rw [eo _ (by omega)]; exact p6 i i0 i1) (fun i i0 i1 => by rw [eo _ (by omega)]; exact p7 i i0 i1) (fun i i0 i1 => by rw [eo _ (by omega)]; exact p8 i i0 i1) (fun j j0 j1 => q3 j (by omega) (by omega))
  refine ⟨ρ1, τ1, p1, q1, ?_, hr.ims (fun x hx => ek x (by omega) (by omega)) (by rw [ek 0 (by omega) (by omega)]) (fun x c1 c2 => q2 x c1) ?_ mi (a4.keep (by rw [ek 0 (by omega) (by omega)]) (fun x x0 x1 => ek x (by omega) (by omega)) (q2 _ (by omega)) (fun j j0 j1 => q4 j (by omega))) (Or.inl pup_at)⟩
  · have := mi.1.2.2
    rw [Int.zero_add, eo 4 (by omega)] at this
    exact this
  · rw [eo 4 (by omega), p5 4 (by omega) (by omega)]
    exact i1.move hw (fun i i0 i1 => by rw [eo _ (by omega), eo _ (by omega)]; exact p3 i i0 i1) (fun j j0 j1 => by rw [eo _ (by omega)]; exact p4 j j0 j1) (fun j j0 j1 => q3 j j0 (by omega))
theorem k_back (h : Rel ρ τ) {k : Int} (hk : inR k) : ∃ r ρ' τ', f_X8_back k ρ = some (r, ρ') ∧ f_X9_back k τ = some (r, τ') ∧ Rel ρ' τ' := by
  obtain ⟨W, H, fm, hr⟩ := h
  obtain ⟨b1, b2, b3, b4, b5⟩ := hr.2.2.2.1
  unfold f_X8_back f_X9_back
  simp only [ckp hk]
  by_cases c : 0 ≤ k ∧ k ≤ 1
  · rw [if_neg (by omega), if_pos (show k < 2 by omega), in_yes (L_of_R hk) (by omega) (by omega) c, Option.bind_some, i10, ckp (by omega), has_eq (by omega), Option.bind_some]
    have k2 : k = 0 ∨ k = 1 := by omega
    rcases k2 with rfl | rfl
    · rw [b2]
      simp only [ckp (Z_R (bt_01 (ρ 0 11) 0 (by omega)))]
      rcases bt_01 (ρ 0 11) 0 (by omega) with e | e
      · rw [e, i00, i00]
        exact ⟨_, _, _, rfl, rfl, W, H, fm, hr⟩
      · obtain ⟨ρ1, τ1, c1, c2, c3, c4⟩ := back_one hr (Or.inl ⟨rfl, rfl⟩) (b4 e)
        rw [e, i10, i10, if_pos trivial, c1, Option.bind_some, show (56 : Int) * (0 + 1) = 56 by omega, c2, Option.bind_some, c3]
        dsimp only [jn]
        rw [pup_ne (show 4 ≠ 28 by omega)]
        exact ⟨_, _, _, rfl, rfl, W, H, fm, c4⟩
    · rw [b3]
      simp only [ckp (Z_R (bt_01 (ρ 0 11) 1 (by omega)))]
      rcases bt_01 (ρ 0 11) 1 (by omega) with e | e
      · rw [e, i00, i00]
        exact ⟨_, _, _, rfl, rfl, W, H, fm, hr⟩
      · obtain ⟨ρ1, τ1, c1, c2, c3, c4⟩ := back_one hr (Or.inr ⟨rfl, rfl⟩) (b5 e)
        rw [e]
        simp only [i10]
        rw [c1, Option.bind_some, show (56 : Int) * (1 + 1) = 112 by omega, c2, Option.bind_some, c3]
        dsimp only [jn]
        rw [pup_ne (show 4 ≠ 28 by omega)]
        exact ⟨_, _, _, rfl, rfl, W, H, fm, c4⟩
  · rw [in_no (L_of_R hk) (by omega) (by omega) c, Option.bind_some, i00]
    refine ⟨-1, ρ, τ, ?_, rfl, W, H, fm, hr⟩
    by_cases c0 : k < 0
    · rw [if_pos c0]
    · rw [if_neg c0, if_neg (by omega)]
end Calls
