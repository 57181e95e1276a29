/-- one choice of a level, of both -/
theorem stepA {W H fm Y f x : Int} {ρ τ : pm} {L q q' d : Nat} {Li : Int} (hLi : Li = (L : Int)) (hL : L ≤ 2) (hq : q + 3 * L = 47) (hq' : q' + 3 = q) (hd : d = 34 + L) (ld : LdR W H fm ρ τ) (lv : LvR W H Y f Li ρ τ q) (hY : 0 ≤ Y ∧ Y ≤ 2000) (hf : 0 ≤ f ∧ f < fm) (hx : 0 ≤ x ∧ x ≤ 25) (ho : x = 0 ∨ on (cans W H ρ τ q f) (x - 1)) :
    ∃ ρ9 ρ11 τ1 τ2, f_X2_copy q' q (pup ρ d 2 (md x)) = some ρ9 ∧ f_X2_pass q' (tms f * x) ρ9 = some ρ11 ∧ f_X9_leaves Li τ = some τ1 ∧ f_X9_goes (tms f * x) τ1 = some τ2 ∧ LdR W H fm ρ11 τ2 ∧ FlR W H (Y + 1) ρ11 τ2 q' 0 ∧ frC L ρ ρ11 ∧ ρ11 d 2 = md x ∧ (∀ p, p ≠ 63 → τ1 p = τ p) ∧ (∀ p, p ≠ 62 → p ≠ 63 → p ≠ 71 → τ2 p = τ p) ∧ (∀ j, j ≠ 31 → j ≠ 32 → τ2 62 j = τ 62 j) ∧ (∀ j, (j < 0 ∨ 25 ≤ j) → τ2 63 j = τ 63 j) := by
  obtain ⟨τ1, l1, l2, l3, l4⟩ := leavesM (L := Li) (by omega) τ
  have hfm := ld.2.2.2.2.1
  have lc := ld.1
  have fl : FlR W H Y ρ τ1 q 0 := lv.1.keep rfl rfl rfl (fun j j0 j1 => by
    rw [stc_get]
    by_cases e : 0 ≤ j ∧ j < 25
    · rw [if_pos e, l3 j e.1 e.2]
    · rw [if_neg e, l4 j (by omega)])
  have ld1 : LdR W H fm ρ τ1 := ld.keep rfl rfl rfl (by rw [l2 62 (by omega)]) (by rw [l2 62 (by omega)]) (by rw [l2 62 (by omega)]) (l2 65 (by omega))
  obtain ⟨yb, nb⟩ := one_ok (fm := fm) (by omega) hf.2 hx ho
  have hcut := cutH_bd lc.1 fl.2.1 (nb 0 (by omega) (by omega)) (nb 1 (by omega) (by omega)) (nb 2 (by omega) (by omega))
  obtain ⟨ρ8, e8⟩ : ∃ ρ8, ρ8 = pup ρ d 2 (md x) := ⟨_, rfl⟩
  have n8 : ∀ p, p ≠ d → ρ8 p = ρ p := fun p hp => by rw [e8, pup_ne hp]
  have fl8 : FlR W H Y ρ8 τ1 q 0 := fl.keep (n8 _ (by omega)) (n8 _ (by omega)) (n8 _ (by omega)) (fun _ _ _ => rfl)
  obtain ⟨ρ9, c1, c2, c3, c4⟩ := copyF (q := q') (p := q) (ρ := ρ8) (by omega) fl8.2.2.2.2.1.1
  have fl9 : FlR W H Y ρ9 τ1 q' 0 := fl8.move lc.1 c3 c4 (fun _ _ _ => rfl)
  have n9 : ∀ p, p ≠ d → p ≠ q' → p ≠ q' + 1 → p ≠ q' + 2 → ρ9 p = ρ p := fun p a b c d => by rw [c2 p b c d, n8 p a]
  have ld9 : LdR W H fm ρ9 τ1 := ld1.keep (n9 _ (by omega) (by omega) (by omega) (by omega)) (n9 _ (by omega) (by omega) (by omega) (by omega)) (n9 _ (by omega) (by omega) (by omega) (by omega)) rfl rfl rfl rfl
  have he : heq (ρ (q + 1)) (ρ9 (q' + 1)) := fun j j0 j1 => by rw [(c3 j j0 j1).1, n8 (q + 1) (by omega)]
  obtain ⟨ρ11, τ2, p1, p2, p3, p4, p6, p7, p8⟩ := passR' (by omega : 3 < q') ld9 fl9 (by omega) yb (hcut.congr (cutH_heq he))
  refine ⟨ρ9, ρ11, τ1, τ2, by rw [← e8]; exact c1, p1, l1, p2, ld9.keep (p4 _ (by omega) (by omega) (by omega)) (p4 _ (by omega) (by omega) (by omega)) (p4 _ (by omega) (by omega) (by omega)) (p7 _ (by omega) (by omega)) (p7 _ (by omega) (by omega)) (p7 _ (by omega) (by omega)) (p6 _ (by omega) (by omega) (by omega)), p3, fun p hp => ?_, ?_, l2, fun p a b c => by rw [p6 p a b c, l2 p b], fun j a b => by rw [p7 j a b, l2 62 (by omega)], fun j hj => by rw [p8 j hj, l4 j (by omega)]⟩
  · rw [p4 p (by omega) (by omega) (by omega), n9 p (by omega) (by omega) (by omega) (by omega)]
  · rw [p4 d (by omega) (by omega) (by omega), c2 d (by omega) (by omega) (by omega), e8, pup_at]
theorem flag1 : f_X9_flag 1 = some 1 := by decide
theorem flag0 : f_X9_flag 0 = some 0 := by decide
theorem stepM {K : Int → pm → Option (Int × pm)} {f c n Li x p N : Int} {m : Nat} {τ τ1 τ2 : pm} (hn : Li < n ∧ n ≤ 3) (h0 : 0 ≤ Li) (hf : 0 ≤ f ∧ f < 3) (h77 : τ 77 Li = p) (h79 : τ 79 Li = N) (hp : 0 ≤ p ∧ p < N ∧ N ≤ 9) (hx : 0 ≤ x ∧ x ≤ 25) (h78 : τ 78 (9 * Li + p) = md x) (l1 : f_X9_leaves Li τ = some τ1) (l2 : ∀ q, q ≠ 63 → τ1 q = τ q) (g1 : f_X9_goes (tms f * x) τ1 = some τ2) :
    L_X9_isBrought_43 K (m + 1) f c n Li 0 τ = if Li = n - 1 then bn2 (f_X9_bedNow τ2) (fun v22 ρ23 => if bt v22 c = 1 then L_X9_isBrought_43 K m f c n Li 1 (pup ρ23 77 Li (ρ23 77 Li + 0)) else L_X9_isBrought_43 K m f c n Li 0 (pup ρ23 77 Li (ρ23 77 Li + 1))) else (f_X9_enters f (Li + 1) τ2).bind (fun ρ19 => ck (0 ≤ Li + 1 ∧ Li + 1 < 3) (L_X9_isBrought_43 K m f c n (Li + 1) 0 (pup ρ19 77 (Li + 1) 0))) := by
  rw [L_X9_isBrought_43, ckp (by omega), if_neg (by omega), ckp (by omega), if_neg (by omega), ckp (by decide), if_pos rfl, ckp (by omega), ckp (by omega), h77, h79, ckp (by omega), ckp (by omega), if_neg (by omega), l1, Option.bind_some, l2 77 (by omega), h77, ckp (by omega), l2 78 (by omega), h78]
  dsimp only [jn]
  have hl4 : 0 ≤ Li ∧ Li < 3 := by omega
  have mdR : inR (md x) := by unfold md; split <;> omega
  rw [ckp mdR]
  have fin : ∀ y, y = tms f * x → ((f_X9_goes y τ1).bind (fun ρ15 => ck (inR Li) (ck (inR (n - 1)) (if Li = n - 1 then bn2 (f_X9_bedNow ρ15) (fun v22 ρ23 => if band (bshr v22 c) 1 = 1 then ck (0 ≤ Li ∧ Li < 3) (ck (inR 1) (if (1 : Int) = 0 then (f_X9_flag 1).bind (fun v26 => ck (0 ≤ Li ∧ Li < 3) (L_X9_isBrought_43 K m f c n Li 1 (pup ρ23 77 Li (ρ23 77 Li + v26)))) else (f_X9_flag 0).bind (fun v26 => ck (0 ≤ Li ∧ Li < 3) (L_X9_isBrought_43 K m f c n Li 1 (pup ρ23 77 Li (ρ23 77 Li + v26)))))) else ck (0 ≤ Li ∧ Li < 3) (ck (inR 0) (if (0 : Int) = 0 then (f_X9_flag 1).bind (fun v26 => ck (0 ≤ Li ∧ Li < 3) (L_X9_isBrought_43 K m f c n Li 0 (pup ρ23 77 Li (ρ23 77 Li + v26)))) else (f_X9_flag 0).bind (fun v26 => ck (0 ≤ Li ∧ Li < 3) (L_X9_isBrought_43 K m f c n Li 0 (pup ρ23 77 Li (ρ23 77 Li + v26))))))) else (f_X9_enters f (Li + 1) ρ15).bind (fun ρ19 => ck (0 ≤ Li + 1 ∧ Li + 1 < 3) (L_X9_isBrought_43 K m f c n (Li + 1) 0 (pup ρ19 77 (Li + 1) 0))))))) = if Li = n - 1 then bn2 (f_X9_bedNow τ2) (fun v22 ρ23 => if bt v22 c = 1 then L_X9_isBrought_43 K m f c n Li 1 (pup ρ23 77 Li (ρ23 77 Li + 0)) else L_X9_isBrought_43 K m f c n Li 0 (pup ρ23 77 Li (ρ23 77 Li + 1))) else (f_X9_enters f (Li + 1) τ2).bind (fun ρ19 => ck (0 ≤ Li + 1 ∧ Li + 1 < 3) (L_X9_isBrought_43 K m f c n (Li + 1) 0 (pup ρ19 77 (Li + 1) 0))) := by
    intro y ey
    rw [ey, g1, Option.bind_some, ckp (by omega), ckp (by omega)]
    have r1 : inR 1 := by decide
    have r0 : inR 0 := by decide
    simp only [ckp hl4, ckp r1, ckp r0, i10, i00, flag1, flag0, Option.bind_some]
    rfl
  by_cases e : x = 0
  · have em : md x = 25 := if_pos e
    rw [if_pos em]
    exact fin 0 (by rw [e, Int.mul_zero])
  · have em : md x = x - 1 := if_neg e
    rw [em, if_neg (by omega), timesOf_eq (by omega), Option.bind_some]
    exact fin _ (by rw [show x - 1 + 1 = x by omega])
