theorem bt_nat {x c : Nat} (hx : x < 2147483648) (hc : c < 32) : bt (x : Int) (c : Int) = ((x / 2 ^ c % 2 : Nat) : Int) := by
  rw [bt_tb (by omega), Int.toNat_natCast]
  have e : tb (x : Int) c = decide (x / 2 ^ c % 2 = 1) := by
    unfold tb
    rw [show (Int32.ofInt (x : Int)).toBitVec.getLsbD c = (Int32.ofInt (x : Int)).toBitVec.toNat.testBit c from rfl, nat_R hx, Nat.testBit_eq_decide_div_mod_eq]
  rw [e]
  have : x / 2 ^ c % 2 = 0 ∨ x / 2 ^ c % 2 = 1 := by omega
  rcases this with h | h <;> rw [h] <;> rfl
theorem bitCount_eq {m : Int} (h0 : 0 ≤ m) (h1 : m < 2147483648) : f_J6_bitCount m = some (sm (bt m) 32) := by
  obtain ⟨x, rfl⟩ : ∃ x : Nat, m = (x : Int) := ⟨m.toNat, by omega⟩
  have hx : x < 2147483648 := by omega
  rw [bitCount_nat hx]
  congr 1
  obtain ⟨g, hg⟩ : ∃ g : Nat → Nat, ∀ c, g c = x / 2 ^ c % 2 := ⟨_, fun _ => rfl⟩
  have e : sm (bt (x : Int)) 32 = sm (fun c => ((g c.toNat : Nat) : Int)) 32 := sm_congr (fun j hj => by rw [bt_nat hx hj, Int.toNat_natCast, hg])
  have p0 : pop8 (x % 256) = g 0 + g 1 + g 2 + g 3 + g 4 + g 5 + g 6 + g 7 := by
    have a0 : (x % 256) % 2 = g 0 := by rw [hg 0]; omega
    have a1 : (x % 256) / 2 % 2 = g 1 := by rw [hg 1]; omega
    have a2 : (x % 256) / 4 % 2 = g 2 := by rw [hg 2]; omega
    have a3 : (x % 256) / 8 % 2 = g 3 := by rw [hg 3]; omega
    have a4 : (x % 256) / 16 % 2 = g 4 := by rw [hg 4]; omega
    have a5 : (x % 256) / 32 % 2 = g 5 := by rw [hg 5]; omega
    have a6 : (x % 256) / 64 % 2 = g 6 := by rw [hg 6]; omega
    have a7 : (x % 256) / 128 % 2 = g 7 := by rw [hg 7]; omega
    unfold pop8
    rw [a0, a1, a2, a3, a4, a5, a6, a7]
  have p1 : pop8 (x / 256 % 256) = g 8 + g 9 + g 10 + g 11 + g 12 + g 13 + g 14 + g 15 := by
    have a0 : (x / 256 % 256) % 2 = g 8 := by rw [hg 8]; omega
    have a1 : (x / 256 % 256) / 2 % 2 = g 9 := by rw [hg 9]; omega
    have a2 : (x / 256 % 256) / 4 % 2 = g 10 := by rw [hg 10]; omega
    have a3 : (x / 256 % 256) / 8 % 2 = g 11 := by rw [hg 11]; omega
    have a4 : (x / 256 % 256) / 16 % 2 = g 12 := by rw [hg 12]; omega
    have a5 : (x / 256 % 256) / 32 % 2 = g 13 := by rw [hg 13]; omega
    have a6 : (x / 256 % 256) / 64 % 2 = g 14 := by rw [hg 14]; omega
    have a7 : (x / 256 % 256) / 128 % 2 = g 15 := by rw [hg 15]; omega
    unfold pop8
    rw [a0, a1, a2, a3, a4, a5, a6, a7]
  have p2 : pop8 (x / 65536 % 256) = g 16 + g 17 + g 18 + g 19 + g 20 + g 21 + g 22 + g 23 := by
    have a0 : (x / 65536 % 256) % 2 = g 16 := by rw [hg 16]; omega
    have a1 : (x / 65536 % 256) / 2 % 2 = g 17 := by rw [hg 17]; omega
    have a2 : (x / 65536 % 256) / 4 % 2 = g 18 := by rw [hg 18]; omega
    have a3 : (x / 65536 % 256) / 8 % 2 = g 19 := by rw [hg 19]; omega
    have a4 : (x / 65536 % 256) / 16 % 2 = g 20 := by rw [hg 20]; omega
    have a5 : (x / 65536 % 256) / 32 % 2 = g 21 := by rw [hg 21]; omega
    have a6 : (x / 65536 % 256) / 64 % 2 = g 22 := by rw [hg 22]; omega
    have a7 : (x / 65536 % 256) / 128 % 2 = g 23 := by rw [hg 23]; omega
    unfold pop8
    rw [a0, a1, a2, a3, a4, a5, a6, a7]
  have p3 : pop8 (x / 16777216) = g 24 + g 25 + g 26 + g 27 + g 28 + g 29 + g 30 + g 31 := by
    have a0 : (x / 16777216) % 2 = g 24 := by rw [hg 24]
    have a1 : (x / 16777216) / 2 % 2 = g 25 := by rw [hg 25]; omega
    have a2 : (x / 16777216) / 4 % 2 = g 26 := by rw [hg 26]; omega
    have a3 : (x / 16777216) / 8 % 2 = g 27 := by rw [hg 27]; omega
    have a4 : (x / 16777216) / 16 % 2 = g 28 := by rw [hg 28]; omega
    have a5 : (x / 16777216) / 32 % 2 = g 29 := by rw [hg 29]; omega
    have a6 : (x / 16777216) / 64 % 2 = g 30 := by rw [hg 30]; omega
    have a7 : (x / 16777216) / 128 % 2 = g 31 := by rw [hg 31]; omega
    unfold pop8
    rw [a0, a1, a2, a3, a4, a5, a6, a7]
  rw [e, p0, p1, p2, p3]
  simp only [sm, Int.toNat_natCast]
  clear p0 p1 p2 p3 e hg
  omega
theorem nn_of {m : Int} (hR : inR m) (h : ¬ on m 31) : 0 ≤ m := by
  have e : m = (Int32.ofInt m).toInt := (R_ofInt hR).symm
  have hm : (Int32.ofInt m).toBitVec.msb = false := by
    rw [BitVec.msb_eq_getLsbD_last]
    have : ¬ tb m 31 = true := fun z => h ((on_tb (m := m) (c := 31) (by omega)).mpr z)
    simpa [tb] using this
  rw [e]
  show 0 ≤ (Int32.ofInt m).toBitVec.toInt
  rw [BitVec.toInt_eq_toNat_of_msb hm]
  omega
theorem sm_cut {f : Int → Int} {N : Nat} : ∀ {n : Nat}, N ≤ n → (∀ j : Nat, N ≤ j → j < n → f (j : Int) = 0) → sm f n = sm f N
  | 0, h, _ => by rw [show N = 0 by omega]
  | n + 1, h, hz => by
    by_cases e : N = n + 1
    · rw [e]
    · show sm f n + f (n : Int) = sm f N
      rw [hz n (by omega) (by omega), sm_cut (N := N) (n := n) (by omega) (fun j a b => hz j a (by omega)), Int.add_zero]
/-- what a farm has of a bed -/
def cnt (own : Int → Int) (N f bed : Int) : Int := sm (fun c => if own c = f then bt bed c else 0) N.toNat
theorem cnt_bd {own : Int → Int} {N f bed : Int} (hN : 0 ≤ N ∧ N ≤ 25) : 0 ≤ cnt own N f bed ∧ cnt own N f bed ≤ 25 := by
  have := sm_bd (f := fun c => if own c = f then bt bed c else 0) (a := 0) (b := 1) (n := N.toNat) (fun j hj => by
    split
    · rcases bt_01 bed (j : Int) (by omega) with e | e <;> rw [e] <;> decide
    · decide)
  unfold cnt
  omega
theorem gainC {ρ : pm} {W H f fm bed : Int} {own : Int → Int} (hw : wh W H) (hg : grC ρ own W H) (h4 : ρ 1 4 = fm) (hfm : 0 ≤ fm ∧ fm ≤ 3) (hf : 0 ≤ f ∧ f < fm) : f_X7_gain f bed ρ = some (ρ 5 f * cnt own (W * H) f bed) := by
  have bd := hw.bd
  unfold f_X7_gain
  rw [hasFarm_yes h4 hfm hf, Option.bind_some, if_neg (by decide), ckp (by omega)]
  have hon : ∀ c, 0 ≤ c → c < 32 → (on (band (ρ 2 f) bed) c ↔ (c < W * H ∧ own c = f) ∧ on bed c) := fun c a1 a2 => by rw [on_band ⟨a1, a2⟩, hg f c (by omega) (by omega) a1 a2]
  have nn : 0 ≤ band (ρ 2 f) bed := nn_of (band_R _ _) (fun z => by have := ((hon 31 (by omega) (by omega)).mp z).1.1; omega)
  have hi := (band_R (ρ 2 f) bed).2
  rw [bitCount_eq nn (by omega), Option.bind_some]
  congr 2
  unfold cnt
  have k : (W * H).toNat ≤ 32 := by omega
  rw [sm_cut (N := (W * H).toNat) (n := 32) k (fun j a b => (bt_off (by omega)).mp (fun z => by have := ((hon (j : Int) (by omega) (by omega)).mp z).1.1; omega))]
  refine sm_congr (fun j hj => ?_)
  have hj' : (j : Int) < W * H := by omega
  have hj0 : 0 ≤ (j : Int) ∧ (j : Int) < 32 := by omega
  have := hon (j : Int) hj0.1 hj0.2
  by_cases o : own (j : Int) = f
  · rw [if_pos o]
    rcases bt_01 bed (j : Int) hj0 with e | e
    · rw [e]; exact (bt_off hj0).mp (fun z => by have := (this.mp z).2; unfold on at this; rw [e] at this; exact absurd this (by decide))
    · rw [e]; exact this.mpr ⟨⟨hj', o⟩, e⟩
  · rw [if_neg o]; exact (bt_off hj0).mp (fun z => o (this.mp z).1.2)
theorem gainC0 {ρ : pm} {f fm bed : Int} (h4 : ρ 1 4 = fm) (hfm : 0 ≤ fm ∧ fm ≤ 3) (hR : inR f) (hf : ¬ (0 ≤ f ∧ f < fm)) : f_X7_gain f bed ρ = some 0 := by
  unfold f_X7_gain
  rw [hasFarm_no hR h4 hfm hf, Option.bind_some, if_pos rfl]
theorem hasNowM_loop {τ : pm} {W H f b : Int} {K : Int → Int → pm → Option (Int × pm)} (hl : landM τ W H) (ho : ownOK (τ 65)) (hf : inR f) : ∀ (m n c : Nat), m + 1 ≤ n → (c : Int) + (m : Int) = W * H → L_X9_hasNow_10 K n f b (sm (fun c => if τ 65 c = f then bt b c else 0) c) (c : Int) τ = K f (cnt (τ 65) (W * H) f b) τ := by
  have bd := hl.1.bd
  have hW := hl.2.1
  have hH := hl.2.2
  intro m
  induction m with
  | zero =>
    intro n c hn hc
    obtain ⟨k, rfl⟩ : ∃ k, n = k + 1 := ⟨n - 1, by omega⟩
    rw [L_X9_hasNow_10, hW, hH, ckp (by omega), ckp (by omega), if_pos (by omega)]
    unfold cnt
    rw [show (W * H).toNat = c by omega]
  | succ m ih =>
    intro n c hn hc
    obtain ⟨k, rfl⟩ : ∃ k, n = k + 1 := ⟨n - 1, by omega⟩
    have hoc := ho (c : Int) (by omega) (by omega)
    have ih' := ih k (c + 1) (by omega) (by omega)
    rw [show ((c + 1 : Nat) : Int) = (c : Int) + 1 by omega] at ih'
    unfold sm at ih'
    rw [L_X9_hasNow_10, hW, hH, ckp (by omega), ckp (by omega), if_neg (by omega), ckp (by omega), ckp (by omega), ckp hf]
    dsimp only [jn]
    by_cases c1 : τ 65 (c : Int) = f
    · rw [if_pos c1]
      rw [if_pos c1] at ih'
      exact ih'
    · rw [if_neg c1]
      rw [if_neg c1] at ih'
      exact ih'
theorem hasNowM {τ : pm} {W H f : Int} (hl : landM τ W H) (hh : hOK (τ 63)) (h0 : 0 ≤ τ 63 25) (h1 : τ 63 25 < W * H) (ho : ownOK (τ 65)) (hf : 0 ≤ f ∧ f < 3) : ∃ τ', f_X9_hasNow f τ = some (cnt (τ 65) (W * H) f (bedT W H (τ 63) (τ 63 25)).2.1 * τ 63 (28 + f), τ') ∧ agB τ τ' := by
  have bd := hl.1.bd
  unfold f_X9_hasNow f_X9_bedNow
  rw [findBedM hl hh h0 h1, Option.bind_some]
  obtain ⟨b1, b2, -⟩ := bedW_ok (h := τ 63) (τ 71) hl.1 h0 h1
  obtain ⟨t, et⟩ : ∃ t, t = bedW W H (τ 63) (τ 63 25) (τ 71) := ⟨_, rfl⟩
  rw [← et] at b1 b2 ⊢
  have ag := trN_ag τ t
  unfold bn2
  rw [Option.bind_some]
  dsimp only
  rw [trN_get2, b2]
  have e63 : trN τ t 63 = τ 63 := ag.cell (by omega) (by omega)
  have e65 : trN τ t 65 = τ 65 := ag.cell (by omega) (by omega)
  have hl' : landM (trN τ t) W H := hl.keep (ag.fld (by omega) (by omega)) (ag.fld (by omega) (by omega))
  have := hasNowM_loop (K := fun (l1 l3 : Int) (ρ : pm) => ck (0 ≤ 28 + l1 ∧ 28 + l1 < 168) (some (l3 * (ρ 63 (28 + l1)), ρ))) (b := (bedT W H (τ 63) (τ 63 25)).2.1) (f := f) hl' (by rw [e65]; exact ho) (by omega) (W * H).toNat fu 0 (by unfold fu; omega) (by omega)
  refine ⟨trN τ t, ?_, ag⟩
  refine Eq.trans this ?_
  rw [ckp (by omega), e63, e65]
