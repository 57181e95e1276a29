/-- the trace: length, bits, way -/
def trc (W H : Int) (h : Int → Int) : Nat → Int → Int → Int → (Int → Int) → Int × Int × (Int → Int)
  | 0, _, len, b, w => (len, b, w)
  | n + 1, at_, len, b, w => if at_ < 0 then (len, b, w) else trc W H h n (low W H h (bor b (bshl 1 at_)) at_) (len + 1) (bor b (bshl 1 at_)) (fun j => if j = len then at_ else w j)
def trM (ρ : pm) (q : Nat) (t : Int × Int × (Int → Int)) : pm := fun q' j => if q' = q ∧ j = 3 then t.1 else if q' = q ∧ j = 4 then t.2.1 else if q' = q + 2 then t.2.2 j else ρ q' j
theorem trM_id {ρ : pm} {q : Nat} {len b : Int} {w : Int → Int} (h1 : ρ q 3 = len) (h2 : ρ q 4 = b) (h3 : ρ (q + 2) = w) : trM ρ q (len, b, w) = ρ := by
  funext q' j
  unfold trM
  dsimp only
  by_cases c1 : q' = q ∧ j = 3
  · rw [if_pos c1, c1.1, c1.2, h1]
  · rw [if_neg c1]
    by_cases c2 : q' = q ∧ j = 4
    · rw [if_pos c2, c2.1, c2.2, h2]
    · rw [if_neg c2]
      by_cases c3 : q' = q + 2
      · rw [if_pos c3, c3, h3]
      · rw [if_neg c3]
theorem trM_step {ρ ρ' : pm} {q : Nat} {t : Int × Int × (Int → Int)} (h : ∀ q' j, (q' = q ∧ (j = 3 ∨ j = 4)) ∨ q' = q + 2 ∨ ρ' q' j = ρ q' j) : trM ρ' q t = trM ρ q t := by
  funext q' j
  unfold trM
  by_cases c1 : q' = q ∧ j = 3
  · rw [if_pos c1, if_pos c1]
  · rw [if_neg c1, if_neg c1]
    by_cases c2 : q' = q ∧ j = 4
    · rw [if_pos c2, if_pos c2]
    · rw [if_neg c2, if_neg c2]
      by_cases c3 : q' = q + 2
      · rw [if_pos c3, if_pos c3]
      · rw [if_neg c3, if_neg c3]
        rcases h q' j with h | h | h
        · omega
        · omega
        · exact h
theorem traceC_loop {q : Nat} {W H : Int} (hq : 3 < q) : ∀ (m n : Nat) (ρ : pm) (at_ : Int), landC ρ W H → hOK (ρ (q + 1)) → m + 1 ≤ n → ρ q 3 = 25 - (m : Int) → m ≤ 25 → (at_ = -1 ∨ (0 ≤ at_ ∧ at_ < W * H)) → L_X2_trace_15 q n at_ ρ = some (trM ρ q (trc W H (ρ (q + 1)) m at_ (ρ q 3) (ρ q 4) (ρ (q + 2)))) := by
  intro m
  induction m with
  | zero =>
    intro n ρ at_ hl hh hn hlen hm hat
    obtain ⟨k, rfl⟩ : ∃ k, n = k + 1 := ⟨n - 1, by omega⟩
    have bd := hl.1.bd
    rw [L_X2_trace_15, ckp (by omega)]
    unfold trc
    rw [trM_id rfl rfl rfl]
    by_cases c : at_ < 0
    · rw [if_pos c]
    · rw [if_neg c, ckp (by omega), if_pos (by omega)]
  | succ m ih =>
    intro n ρ at_ hl hh hn hlen hm hat
    obtain ⟨k, rfl⟩ : ∃ k, n = k + 1 := ⟨n - 1, by omega⟩
    have bd := hl.1.bd
    rw [L_X2_trace_15, ckp (by omega)]
    unfold trc
    by_cases c : at_ < 0
    · rw [if_pos c, if_pos c, trM_id rfl rfl rfl]
    · rw [if_neg c, if_neg c, ckp (by omega), if_neg (by omega), ckp (by omega)]
      dsimp only [jn]
      have e1 : ∀ x, pup ρ (q + 2) (ρ q 3) x q 3 = ρ q 3 := fun x => if_neg (by omega)
      rw [e1]
      obtain ⟨ρ3, h3⟩ : ∃ ρ3, ρ3 = pup (pup (pup ρ (q + 2) (ρ q 3) at_) q 3 (ρ q 3 + 1)) q 4 (bor (pup (pup ρ (q + 2) (ρ q 3) at_) q 3 (ρ q 3 + 1) q 4) (bshl 1 at_)) := ⟨_, rfl⟩
      rw [← h3]
      have g4 : ρ3 q 4 = bor (ρ q 4) (bshl 1 at_) := by
        rw [h3]; unfold pup; rw [if_pos ⟨rfl, rfl⟩, if_neg (by omega), if_neg (by omega)]
      have g3 : ρ3 q 3 = ρ q 3 + 1 := by
        rw [h3]; unfold pup; rw [if_neg (by omega), if_pos ⟨rfl, rfl⟩]
      have gw : ρ3 (q + 2) = fun j => if j = ρ q 3 then at_ else ρ (q + 2) j := by
        funext j
        rw [h3]; unfold pup; rw [if_neg (by omega), if_neg (by omega)]
        by_cases c1 : j = ρ q 3
        · rw [if_pos ⟨rfl, c1⟩, if_pos c1]
        · rw [if_neg (fun z => c1 z.2), if_neg c1]
      have go : ∀ q' j, q' ≠ q → q' ≠ q + 2 → ρ3 q' j = ρ q' j := by
        intro q' j a1 a2
        rw [h3]; unfold pup; rw [if_neg (by omega), if_neg (by omega), if_neg (by omega)]
      have gh : ρ3 (q + 1) = ρ (q + 1) := funext fun j => go _ _ (by omega) (by omega)
      have hl3 : landC ρ3 W H := ⟨hl.1, by rw [go _ _ (by omega) (by omega)]; exact hl.2.1, by rw [go _ _ (by omega) (by omega)]; exact hl.2.2.1, fun c s a1 a2 a3 a4 => by rw [go _ _ (by omega) (by omega)]; exact hl.2.2.2 c s a1 a2 a3 a4⟩
      have hh3 : hOK (ρ3 (q + 1)) := by rw [gh]; exact hh
      have lf := low_fre (h := ρ (q + 1)) (b := bor (ρ q 4) (bshl 1 at_)) hl.1 (by omega) (show at_ < W * H by omega)
      rw [lowC hl3 hh3 (by omega) (by omega), Option.bind_some, ih k ρ3 _ hl3 hh3 (by omega) (by rw [g3]; omega) (by omega) (by rw [gh, g4]; exact lf.elim Or.inl (fun z => Or.inr ⟨z.1, z.2.1⟩)), gh, g3, g4, gw]
      refine congrArg some (trM_step ?_)
      intro q' j
      by_cases a1 : q' = q + 2
      · exact Or.inr (Or.inl a1)
      · by_cases a2 : q' = q
        · by_cases a3 : j = 3 ∨ j = 4
          · exact Or.inl ⟨a2, a3⟩
          · refine Or.inr (Or.inr ?_)
            rw [h3]; unfold pup; rw [if_neg (by omega), if_neg (by omega), if_neg (by omega)]
        · exact Or.inr (Or.inr (go q' j a2 a1))
/-- the bed by heights h from a spring; w: what lay in the way before -/
def bedW (W H : Int) (h : Int → Int) (sp : Int) (w : Int → Int) : Int × Int × (Int → Int) := trc W H h 25 sp 0 0 w
theorem traceC {q : Nat} {ρ : pm} {W H : Int} (hq : 3 < q) (hl : landC ρ W H) (hh : hOK (ρ (q + 1))) (h0 : 0 ≤ ρ q 5) (h1 : ρ q 5 < W * H) : f_X2_trace q ρ = some (trM ρ q (bedW W H (ρ (q + 1)) (ρ q 5) (ρ (q + 2)))) := by
  unfold f_X2_trace
  dsimp only [jn]
  obtain ⟨ρ2, h2⟩ : ∃ ρ2, ρ2 = pup (pup ρ q 3 0) q 4 0 := ⟨_, rfl⟩
  rw [← h2]
  have g5 : ρ2 q 5 = ρ q 5 := by rw [h2]; unfold pup; rw [if_neg (by omega), if_neg (by omega)]
  have g3 : ρ2 q 3 = 0 := by rw [h2]; unfold pup; rw [if_neg (by omega), if_pos ⟨rfl, rfl⟩]
  have g4 : ρ2 q 4 = 0 := by rw [h2]; unfold pup; rw [if_pos ⟨rfl, rfl⟩]
  have go : ∀ q' j, q' ≠ q → ρ2 q' j = ρ q' j := by
    intro q' j a1
    rw [h2]; unfold pup; rw [if_neg (by omega), if_neg (by omega)]
  have gh : ρ2 (q + 1) = ρ (q + 1) := funext fun j => go _ _ (by omega)
  have gw : ρ2 (q + 2) = ρ (q + 2) := funext fun j => go _ _ (by omega)
  have hl2 : landC ρ2 W H := ⟨hl.1, by rw [go _ _ (by omega)]; exact hl.2.1, by rw [go _ _ (by omega)]; exact hl.2.2.1, fun c s a1 a2 a3 a4 => by rw [go _ _ (by omega)]; exact hl.2.2.2 c s a1 a2 a3 a4⟩
  rw [traceC_loop hq 25 fu ρ2 _ hl2 (by rw [gh]; exact hh) (by decide) (by rw [g3]; rfl) (by omega) (by omega), gh, g3, g4, gw, g5]
  refine congrArg some (trM_step ?_)
  intro q' j
  by_cases a2 : q' = q
  · by_cases a3 : j = 3 ∨ j = 4
    · exact Or.inl ⟨a2, a3⟩
    · refine Or.inr (Or.inr ?_)
      rw [h2]; unfold pup; rw [if_neg (by omega), if_neg (by omega)]
  · exact Or.inr (Or.inr (go q' j a2))
/-! what a trace is -/
def sm (f : Int → Int) : Nat → Int
  | 0 => 0
  | n + 1 => sm f n + f (n : Int)
theorem sm_congr {f g : Int → Int} : ∀ {n : Nat}, (∀ j : Nat, j < n → f (j : Int) = g (j : Int)) → sm f n = sm g n
  | 0, _ => rfl
  | n + 1, h => by
    unfold sm
    rw [sm_congr (n := n) (fun j hj => h j (by omega)), h n (by omega)]
theorem sm_upd {f g : Int → Int} {c : Nat} : ∀ {n : Nat}, c < n → (∀ j : Nat, j < n → j ≠ c → f (j : Int) = g (j : Int)) → sm f n = sm g n + (f (c : Int) - g (c : Int))
  | 0, h, _ => by omega
  | n + 1, h, hj => by
    unfold sm
    by_cases e : c = n
    · subst e
      rw [sm_congr (n := c) (fun j h1 => hj j (by omega) (by omega))]
      omega
    · rw [sm_upd (n := n) (by omega) (fun j h1 h2 => hj j (by omega) h2), hj n (by omega) (fun z => e z.symm)]
      omega
theorem sm_bd {f : Int → Int} {a b : Int} : ∀ {n : Nat}, (∀ j : Nat, j < n → a ≤ f (j : Int) ∧ f (j : Int) ≤ b) → a * n ≤ sm f n ∧ sm f n ≤ b * n
  | 0, _ => by unfold sm; omega
  | n + 1, h => by
    have h1 := sm_bd (n := n) (fun j hj => h j (by omega))
    have h2 := h n (by omega)
    unfold sm
    have e1 : a * ((n + 1 : Nat) : Int) = a * n + a := by rw [Int.natCast_add]; exact Int.mul_add a n 1 |>.trans (by rw [Int.mul_one])
    have e2 : b * ((n + 1 : Nat) : Int) = b * n + b := by rw [Int.natCast_add]; exact Int.mul_add b n 1 |>.trans (by rw [Int.mul_one])
    omega
/-- how many of the 25 cells are out of the bits -/
def fr (b : Int) : Int := sm (fun c => 1 - bt b c) 25
theorem fr_add {b c : Int} (hc : 0 ≤ c ∧ c < 25) (h : bt b c = 0) : fr (bor b (bshl 1 c)) = fr b - 1 := by
  obtain ⟨k, rfl⟩ : ∃ k : Nat, c = (k : Int) := ⟨c.toNat, by omega⟩
  unfold fr
  rw [sm_upd (f := fun c => 1 - bt (bor b (bshl 1 (k : Int))) c) (g := fun c => 1 - bt b c) (c := k) (n := 25) (by omega) (fun j h1 h2 => by
    rw [bt_add (by omega) (by omega), if_neg (by omega)])]
  rw [bt_add (by omega) (by omega), if_pos rfl, h]
  omega
theorem fr_pos {b c : Int} (hc : 0 ≤ c ∧ c < 25) (h : bt b c = 0) : 1 ≤ fr b := by
  have h1 := fr_add hc h
  have h2 : 0 ≤ fr (bor b (bshl 1 c)) := by
    have := (sm_bd (f := fun x => 1 - bt (bor b (bshl 1 c)) x) (a := 0) (b := 1) (n := 25) (fun j hj => by
      rcases bt_01 (bor b (bshl 1 c)) (j : Int) (by omega) with e | e <;> rw [e] <;> decide)).1
    unfold fr
    omega
  omega
theorem fr_zero : fr 0 = 25 := by
  unfold fr
  rw [sm_congr (g := fun _ => 1) (fun j hj => by rw [bt_zero (by omega)]; rfl)]
  rfl
