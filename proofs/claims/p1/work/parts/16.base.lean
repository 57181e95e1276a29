noncomputable section
def zs_w : zi_W := (85, [[some (.inr (8, [.inr (.inr (.inl (some 1))), .inr (.inr (.inl (some 4))), .inr (.inr (.inl (some 11))), .inr (.inr (.inl (some 18))), .inr (.inr (.inl (some 25))), .inr (.inr (.inl (some 28))), .inr (.inr (.inl (some 34))), .inr (.inr (.inl (some 50))), .inr (.inr (.inl (some 52))), .inr (.inr (.inl (some 57))), .inr (.inr (.inl (some 61))), .inl (2147483648, 2147483648), .inl (2147483648, 2147483648), .inl (2147483648, 2147483648)])), some (.inr (3, [.inr (.inr (.inl (some 2))), .inr (.inr (.inl (some 3))), .inl (2147483651, 2147483651), .inl (2147483651, 2147483651), .inl (2147483648, 2147483648)])), some (.inl (.int, List.replicate 3 (2147483648, 2147483648))), some (.inl (.int, [(2147483647, 2147483647), (2147483649, 2147483649), (2147483651, 2147483651), (2147483647, 2147483647), (2147483647, 2147483647), (2147483650, 2147483650), (2147483652, 2147483652), (2147483648, 2147483648), (2147483647, 2147483647), (2147483647, 2147483647), (2147483653, 2147483653), (2147483649, 2147483649), (2147483648, 2147483648), (2147483652, 2147483652), (2147483654, 2147483654), (2147483647, 2147483647), (2147483649, 2147483649), (2147483653, 2147483653), (2147483655, 2147483655), (2147483651, 2147483651), (2147483650, 2147483650), (2147483647, 2147483647), (2147483656, 2147483656), (2147483652, 2147483652), (2147483651, 2147483651), (2147483655, 2147483655), (2147483647, 2147483647), (2147483647, 2147483647), (2147483652, 2147483652), (2147483656, 2147483656), (2147483647, 2147483647), (2147483654, 2147483654), (2147483653, 2147483653), (2147483647, 2147483647), (2147483647, 2147483647), (2147483655, 2147483655), (2147483648, 2147483648), (2147483648, 2147483648), (2147483648, 2147483648), (2147483648, 2147483648), (2147483648, 2147483648), (2147483648, 2147483648), (2147483648, 2147483648), (2147483648, 2147483648), (2147483648, 2147483648), (2147483648, 2147483648), (2147483648, 2147483648), (2147483648, 2147483648), (2147483648, 2147483648), (2147483648, 2147483648), (2147483648, 2147483648), (2147483648, 2147483648), (2147483648, 2147483648), (2147483648, 2147483648), (2147483648, 2147483648), (2147483648, 2147483648), (2147483648, 2147483648), (2147483648, 2147483648), (2147483648, 2147483648), (2147483648, 2147483648), (2147483648, 2147483648), (2147483648, 2147483648), (2147483648, 2147483648), (2147483648, 2147483648), (2147483648, 2147483648), (2147483648, 2147483648), (2147483648, 2147483648), (2147483648, 2147483648), (2147483648, 2147483648), (2147483648, 2147483648), (2147483648, 2147483648), (2147483648, 2147483648), (2147483648, 2147483648), (2147483648, 2147483648), (2147483648, 2147483648), (2147483648, 2147483648), (2147483648, 2147483648), (2147483648, 2147483648), (2147483648, 2147483648), (2147483648, 2147483648), (2147483648, 2147483648), (2147483648, 2147483648), (2147483648, 2147483648), (2147483648, 2147483648), (2147483648, 2147483648), (2147483648, 2147483648), (2147483648, 2147483648), (2147483648, 2147483648), (2147483648, 2147483648), (2147483648, 2147483648), (2147483648, 2147483648), (2147483648, 2147483648), (2147483648, 2147483648), (2147483648, 2147483648), (2147483648, 2147483648), (2147483648, 2147483648), (2147483648, 2147483648), (2147483648, 2147483648), (2147483648, 2147483648), (2147483648, 2147483648)])), some (.inr (7, [.inr (.inr (.inl (some 8))), .inr (.inr (.inl (some 5))), .inr (.inr (.inl (some 6))), .inr (.inr (.inl (some 7))), .inl (2147483648, 2147483648), .inl (2147483648, 2147483648), .inl (2147483648, 2147483648)])), some (.inl (.int, List.replicate 3 (2147483648, 2147483648))), some (.inl (.int, List.replicate 6 (2147483648, 2147483648))), some (.inl (.int, List.replicate 8 (2147483648, 2147483648)))],
  [some (.inr (2, [.inr (.inr (.inl (some 1))), .inr (.inr (.inl (some 9))), .inr (.inr (.inl (some 10))), .inl (2147483657, 2147483657), .inl (2147484159, 2147484159), .inl (2147483648, 2147483648), .inl (2147483648, 2147483648), .inl (2147483648, 2147483648)])), some (.inl (.int, List.replicate 25 (2147483648, 2147483648))), some (.inl (.int, [(2147483648, 2147483648), (2147483649, 2147483649), (2147483650, 2147483650), (2147483653, 2147483653), (2147483656, 2147483656), (2147483655, 2147483655), (2147483652, 2147483652), (2147483651, 2147483651), (2147483654, 2147483654), (2147483648, 2147483648), (2147483648, 2147483648), (2147483648, 2147483648), (2147483648, 2147483648), (2147483648, 2147483648), (2147483648, 2147483648), (2147483648, 2147483648), (2147483648, 2147483648), (2147483648, 2147483648), (2147483648, 2147483648), (2147483648, 2147483648), (2147483648, 2147483648), (2147483648, 2147483648), (2147483648, 2147483648), (2147483648, 2147483648), (2147483648, 2147483648)])), some (.inr (7, [.inr (.inr (.inl (some 15))), .inr (.inr (.inl (some 12))), .inr (.inr (.inl (some 13))), .inr (.inr (.inl (some 14))), .inl (2147483648, 2147483648), .inl (2147483648, 2147483648), .inl (2147483648, 2147483648)])), some (.inl (.int, List.replicate 3 (2147483648, 2147483648))), some (.inl (.int, List.replicate 6 (2147483648, 2147483648))), some (.inl (.int, List.replicate 8 (2147483648, 2147483648))), some (.inr (2, [.inr (.inr (.inl (some 1))), .inr (.inr (.inl (some 16))), .inr (.inr (.inl (some 17))), .inl (2147483648, 2147483648), .inl (2147483648, 2147483648), .inl (2147483648, 2147483648), .inl (2147483648, 2147483648), .inl (2147483648, 2147483648)]))],
  [some (.inl (.int, List.replicate 25 (2147483648, 2147483648))), some (.inl (.int, List.replicate 25 (2147483648, 2147483648))), some (.inr (7, [.inr (.inr (.inl (some 22))), .inr (.inr (.inl (some 19))), .inr (.inr (.inl (some 20))), .inr (.inr (.inl (some 21))), .inl (2147483648, 2147483648), .inl (2147483648, 2147483648), .inl (2147483648, 2147483648)])), some (.inl (.int, List.replicate 3 (2147483648, 2147483648))), some (.inl (.int, List.replicate 6 (2147483648, 2147483648))), some (.inl (.int, List.replicate 8 (2147483648, 2147483648))), some (.inr (2, [.inr (.inr (.inl (some 1))), .inr (.inr (.inl (some 23))), .inr (.inr (.inl (some 24))), .inl (2147483648, 2147483648), .inl (2147483648, 2147483648), .inl (2147483648, 2147483648), .inl (2147483648, 2147483648), .inl (2147483648, 2147483648)])), some (.inl (.int, List.replicate 25 (2147483648, 2147483648)))],
  [some (.inl (.int, List.replicate 25 (2147483648, 2147483648))), some (.inr (2, [.inr (.inr (.inl (some 1))), .inr (.inr (.inl (some 26))), .inr (.inr (.inl (some 27))), .inl (2147483648, 2147483648), .inl (2147483648, 2147483648), .inl (2147483648, 2147483648), .inl (2147483648, 2147483648), .inl (2147483648, 2147483648)])), some (.inl (.int, List.replicate 25 (2147483648, 2147483648))), some (.inl (.int, List.replicate 25 (2147483648, 2147483648))), some (.inr (4, [.inr (.inr (.inl (some 29))), .inr (.inr (.inl (some 30))), .inr (.inr (.inl (some 31))), .inr (.inr (.inl (some 32))), .inr (.inr (.inl (some 33))), .inl (2147483648, 2147483648), .inl (2147483648, 2147483648)])), some (.inl (.int, List.replicate 27 (2147483648, 2147483648))), some (.inl (.int, List.replicate 3 (2147483648, 2147483648))), some (.inl (.int, List.replicate 3 (2147483648, 2147483648)))],
  [some (.inl (.int, List.replicate 729 (2147483648, 2147483648))), some (.inl (.int, List.replicate 729 (2147483648, 2147483648))), some (.inr (0, [.inr (.inr (.inl (some 47))), .inr (.inr (.inl (some 35))), .inl (2147483648, 2147483648)])), some (.inr (0, [.inr (.inr (.inl (some 44))), .inr (.inr (.inl (some 36))), .inl (2147483648, 2147483648)])), some (.inr (0, [.inr (.inr (.inl (some 41))), .inr (.inr (.inl (some 37))), .inl (2147483648, 2147483648)])), some (.inr (0, [.inr (.inr (.inl (some 38))), .inr (.inr (.inl none)), .inl (2147483648, 2147483648)])), some (.inr (2, [.inr (.inr (.inl (some 1))), .inr (.inr (.inl (some 39))), .inr (.inr (.inl (some 40))), .inl (2147483648, 2147483648), .inl (2147483648, 2147483648), .inl (2147483648, 2147483648), .inl (2147483648, 2147483648), .inl (2147483648, 2147483648)])), some (.inl (.int, List.replicate 25 (2147483648, 2147483648)))],
  [some (.inl (.int, List.replicate 25 (2147483648, 2147483648))), some (.inr (2, [.inr (.inr (.inl (some 1))), .inr (.inr (.inl (some 42))), .inr (.inr (.inl (some 43))), .inl (2147483648, 2147483648), .inl (2147483648, 2147483648), .inl (2147483648, 2147483648), .inl (2147483648, 2147483648), .inl (2147483648, 2147483648)])), some (.inl (.int, List.replicate 25 (2147483648, 2147483648))), some (.inl (.int, List.replicate 25 (2147483648, 2147483648))), some (.inr (2, [.inr (.inr (.inl (some 1))), .inr (.inr (.inl (some 45))), .inr (.inr (.inl (some 46))), .inl (2147483648, 2147483648), .inl (2147483648, 2147483648), .inl (2147483648, 2147483648), .inl (2147483648, 2147483648), .inl (2147483648, 2147483648)])), some (.inl (.int, List.replicate 25 (2147483648, 2147483648))), some (.inl (.int, List.replicate 25 (2147483648, 2147483648))), some (.inr (2, [.inr (.inr (.inl (some 1))), .inr (.inr (.inl (some 48))), .inr (.inr (.inl (some 49))), .inl (2147483648, 2147483648), .inl (2147483648, 2147483648), .inl (2147483648, 2147483648), .inl (2147483648, 2147483648), .inl (2147483648, 2147483648)]))],
  [some (.inl (.int, List.replicate 25 (2147483648, 2147483648))), some (.inl (.int, List.replicate 25 (2147483648, 2147483648))), some (.inr (6, [.inr (.inr (.inl (some 51))), .inl (2147483648, 2147483648), .inl (2147483648, 2147483648), .inl (2147483648, 2147483648), .inl (2147483648, 2147483648), .inl (2147483648, 2147483648), .inl (2147483648, 2147483648), .inl (2147483648, 2147483648)])), some (.inl (.byte, List.replicate 320 (2147483648, 2147483648))), some (.inr (1, [.inr (.inr (.inl (some 53))), .inr (.inr (.inl (some 54))), .inr (.inr (.inl (some 55))), .inr (.inr (.inl (some 56))), .inl (2147483651, 2147483651), .inl (2147483651, 2147483651), .inl (2147483648, 2147483648), .inl (2147483648, 2147483648), .inl (2147483648, 2147483648), .inl (2147483648, 2147483648)])), some (.inl (.int, List.replicate 25 (2147483648, 2147483648))), some (.inl (.int, List.replicate 5 (2147483648, 2147483648))), some (.inl (.int, List.replicate 3 (2147483648, 2147483648)))],
  [some (.inl (.int, List.replicate 3 (2147483648, 2147483648))), some (.inr (5, [.inr (.inr (.inl (some 58))), .inr (.inr (.inl (some 59))), .inr (.inr (.inl (some 60)))])), some (.inl (.int, List.replicate 4 (2147483648, 2147483648))), some (.inl (.int, List.replicate 4 (2147483647, 2147483647))), some (.inl (.int, List.replicate 160 (2147483648, 2147483648))), some (.inl (.int, List.replicate 1525 (2147483648, 2147483648))), some (.inr (9, [.inr (.inr (.inl (some 63))), .inr (.inr (.inl (some 64))), .inl (2147483651, 2147483651), .inl (2147483651, 2147483651), .inl (2147483648, 2147483648), .inr (.inr (.inl (some 65))), .inl (2147483651, 2147483651), .inl (2147483651, 2147483651), .inl (2147483648, 2147483648), .inl (2147483648, 2147483648), .inl (2147483648, 2147483648), .inl (2147483648, 2147483648), .inr (.inr (.inl (some 66))), .inr (.inr (.inl (some 67))), .inr (.inr (.inl (some 68))), .inr (.inr (.inl (some 69))), .inl (2147483648, 2147483648), .inl (2147483648, 2147483648), .inl (2147483644, 2147483644), .inl (2147483644, 2147483644), .inl (2147483644, 2147483644), .inl (2147483644, 2147483644), .inr (.inr (.inl (some 70))), .inl (2147483648, 2147483648), .inl (2147483648, 2147483648), .inl (2147483648, 2147483648), .inl (2147483648, 2147483648), .inl (2147483648, 2147483648), .inl (2147483648, 2147483648), .inl (2147483648, 2147483648), .inr (.inr (.inl (some 71))), .inl (2147483648, 2147483648), .inl (2147483648, 2147483648), .inr (.inr (.inl (some 72))), .inr (.inr (.inl (some 73))), .inr (.inr (.inl (some 74))), .inr (.inr (.inl (some 75))), .inr (.inr (.inl (some 76))), .inr (.inr (.inl (some 77))), .inr (.inr (.inl (some 78))), .inr (.inr (.inl (some 79))), .inr (.inr (.inl (some 80))), .inr (.inr (.inl (some 81))), .inr (.inr (.inl (some 82))), .inr (.inr (.inl (some 83))), .inl (2147483648, 2147483648), .inr (.inr (.inl (some 84)))])), some (.inl (.int, List.replicate 168 (2147483648, 2147483648)))],
  [some (.inl (.boolean, List.replicate 2 (2147483648, 2147483648))), some (.inl (.int, List.replicate 25 (2147483644, 2147483644))), some (.inl (.int, List.replicate 25 (2147483648, 2147483648))), some (.inl (.int, List.replicate 3 (2147483648, 2147483648))), some (.inl (.int, List.replicate 25 (2147483644, 2147483644))), some (.inl (.int, List.replicate 3 (2147483648, 2147483648))), some (.inl (.int, List.replicate 320 (2147483648, 2147483648))), some (.inl (.int, List.replicate 25 (2147483648, 2147483648)))],
  [some (.inl (.int, List.replicate 25 (2147483648, 2147483648))), some (.inl (.int, List.replicate 25 (2147483648, 2147483648))), some (.inl (.int, List.replicate 27 (2147483648, 2147483648))), some (.inl (.int, List.replicate 3 (2147483648, 2147483648))), some (.inl (.int, List.replicate 100 (2147483648, 2147483648))), some (.inl (.int, List.replicate 3 (2147483648, 2147483648))), some (.inl (.int, List.replicate 36 (2147483648, 2147483648))), some (.inl (.int, List.replicate 4 (2147483648, 2147483648)))],
  [some (.inl (.int, List.replicate 1525 (2147483648, 2147483648))), some (.inl (.int, List.replicate 4 (2147483644, 2147483644))), some (.inl (.int, List.replicate 4 (2147483648, 2147483648))), some (.inl (.int, List.replicate 160 (2147483648, 2147483648))), some (.inl (.int, List.replicate 25 (2147483648, 2147483648))), none, none, none],
  [none, none, none, none, none, none, none, none],
  [none, none, none, none, none, none, none, none],
  [none, none, none, none, none, none, none, none],
  [none, none, none, none, none, none, none, none],
  [none, none, none, none, none, none, none, none]])
def zs_0 : zi_S := ([(3, .inl (2147483648, 2147483648)), (2, .inr (.inr (.inl (some 62)))), (1, .inr (.inr (.inl (some 0)))), (0, .inr (.inr (.inr (.inl ()))))], [], zs_w, 599915, 7295428)
def zs_k (k : Nat) : zi_S := (zs_0.1, [.inl (k + 2147483648, k + 2147483648)], zs_0.2.2)
def zs_1 : zi_S := (zs_0.1, [.inl (2147483648, 2147483711)], zs_0.2.2)
def zs_b : zi_S := ([(0, .inr (.inr (.inr (.inl ()))))], [], (0, List.replicate 16 (List.replicate 8 none)), 600000, 7302250)
def zi_is1 (q : Option (Nat × zi_S)) : Bool := match q with
  | some (_, _, [.inl r], _) => Nat.beq r.1 2147483649 && Nat.beq r.2 2147483649
  | _ => false
/-- the table with a halt at a place -/
def zi_cut (t : zi_T) (pc : Nat) : zi_T := zi_up (fun r => zi_up (fun _ => some none) r (pc % 16)) t (pc / 16)
end
theorem zi_cut_lk {t : zi_T} {pc0 pc : Nat} {f : zi_F} (h : zi_lk (zi_cut t pc0) pc = some (some f)) : zi_lk t pc = some (some f) := by
  unfold zi_lk zi_cut at h
  unfold zi_lk
  rw [zi_nth_up] at h
  by_cases e : pc / 16 = pc0 / 16
  · rw [if_pos e] at h
    rw [e]
    cases h1 : zi_nth t (pc0 / 16) with
    | none => rw [h1] at h; cases h
    | some r =>
      rw [h1] at h
      dsimp only [Option.map] at h ⊢
      rw [zi_nth_up] at h
      by_cases e2 : pc % 16 = pc0 % 16
      · rw [if_pos e2] at h
        cases h2 : zi_nth r (pc0 % 16) with
        | none => rw [h2] at h; cases h
        | some o => rw [h2] at h; cases h
      · rw [if_neg e2] at h
        exact h
  · rw [if_neg e] at h
    exact h
theorem zi_law_tb : zi_tb zi_mt yL_law cL_law 4 zt_L_law := (zi_tab zg_L_law).1
theorem zi_law_cut (pc0 : Nat) : zi_tb zi_mt yL_law cL_law 4 (zi_cut zt_L_law pc0) := fun pc f h => zi_law_tb pc f (zi_cut_lk h)
theorem zi_law_nw {s : State} {b : Nat} (hts : ∀ w ∈ lw_tbl, w.before #[Value.ref b] s = true) : zi_NW s := by
  intro w hw hn
  have h := hts w hw
  cases w with
  | methodLinkNest a i x hh => exact va_Nw.of rfl h
  | _ => cases hn
theorem zi_law_X {p : Program} {s : State} {m : MethodId} {meth : Method} {c : Code} {b L : Nat} {xs : Nat → Int32} (C0 : lw_At p s m meth c b L xs) {sc : Option (List zi_V)} (hsc : zi_SC s (fun q => s.heap.size ≤ q) b sc) : zi_X p room_1 s m #[Value.ref b] meth c yL_law cL_law 4 (fun q => s.heap.size ≤ q) b sc 10 := by
  obtain ⟨hx, hb, hr, hml, hown, hts, hX, hbl, hlocks, hgv⟩ := C0
  exact ⟨hx, hb, hml, hown, fun w hw => hts w (List.mem_filter.mp hw).1, zi_law_nw hts, fun q h => h, ⟨by decide, by decide⟩, fun h => absurd h (by decide), hsc⟩
theorem zi_law_SC {p : Program} {s : State} {m : MethodId} {meth : Method} {c : Code} {b : Nat} {xs : Nat → Int32} (sc : List zi_V) (C0 : lw_At p s m meth c b sc.length xs) (hl : sc.length < 2147483648) (hv : ∀ (j : Nat) (v : zi_V) (ads : List Nat), sc[j]? = some v → zi_g b ads v (.int (xs j))) : zi_SC s (fun q => s.heap.size ≤ q) b (some sc) := by
  obtain ⟨hx, hb, hr, hml, hown, hts, hX, hbl, hlocks, hgv⟩ := C0
  exact ⟨xs, hX, hbl, Nat.not_le.mpr hbl, hl, hv⟩
/-- a walk of the law that ends in true -/
theorem zi_law_end {p : Program} {e : Env} {s : State} {m : MethodId} {below : List Frame} {meth : Method} {c : Code} (l : Launch) {b : Nat} {xs : Nat → Int32} {D : va_G} {sc : List zi_V} (C0 : lw_At p s m meth c b sc.length xs) (hl : sc.length < 2147483648) (hv : ∀ (j : Nat) (v : zi_V) (ads : List Nat), sc[j]? = some v → zi_g b ads v (.int (xs j))) {n pc : Nat} {st : zi_S} (hrun : zi_is1 (zi_run zi_mt n zt_L_law (some sc) 10 pc st) = true)
    {H : Heap} {locs : List Loc} {cells slots : Nat} {ls : Array Slot} {sk : List Value} (hR : zi_R room_1 s 4 D (fun q => s.heap.size ≤ q) b [] st H locs cells slots ls sk) : W p l e room_1 s m #[Value.ref b] below meth c H locs cells slots (lw_Z below #[Value.ref b] s) (F0 m pc ls sk) := by
  unfold zi_is1 at hrun
  split at hrun
  · rename_i pcf lcf r rest heq
    obtain ⟨h1, h2⟩ := Bool.and_eq_true_iff.mp hrun
    have h1 := Nat.eq_of_beq_eq_true h1
    have h2 := Nat.eq_of_beq_eq_true h2
    obtain ⟨hstop, hgo⟩ := zi_run_ok zj_all n _ _ _ _ _ _ _ heq
    have hdg := (zi_tab zg_L_law).2 _ hstop
    have X := zi_law_X C0 (zi_law_SC sc C0 hl hv)
    obtain ⟨hx, hb, hr, hml, hown, hts, hX, hbl, hlocks, hgv⟩ := id C0
    refine hgo yL_law cL_law 4 zi_law_tb p l e room_1 s m #[Value.ref b] below meth c D (fun q => s.heap.size ≤ q) b [] X _ H locs cells slots ls sk hR ?_
    intro H' locs' cells' slots' ls' sk' hR'
    obtain ⟨ws', tys', lv', -, -, hsk, w1, w2, w3, w4, w5, w6, w7, w8⟩ := hR'
    obtain ⟨z, t1, rfl, ⟨i, rfl, hi⟩, hs1⟩ := hsk.cons
    cases hs1.nil
    have e1 := zi_oe i
    have hi1 : i = 1 := by
      apply Int32.toInt_inj.mp
      unfold zi_in at hi
      show i.toInt = 1
      omega
    subst hi1
    refine va_forget w5.2.2 ?_
    have w6 : cells' + rest.2.1 ≤ 600000 := w6
    have w7 : slots' + rest.2.2 ≤ 7302250 := w7
    refine W.widen (k := 600000) (n := 7302250) (by omega) (by omega) ?_
    exact lw_ret hx hb hr hlocks hdg
  · cases hrun
abbrev zi_tp : zi_V := .inl (0, 4294967295)
theorem zi_tp_in {b : Nat} {ads : List Nat} (x : Int32) : zi_g b ads zi_tp (.int x) := ⟨x, rfl, Nat.zero_le _, zi_ob x⟩
/-- what is owed at the law's switch, for the values of a call -/
def zg (k : Nat) (v1 v2 v3 v4 : zi_V) : Prop := ∀ (p : Program) (e : Env) (s : State) (m : MethodId) (below : List Frame) (meth : Method) (c : Code) (l : Launch) (b : Nat) (xs : Nat → Int32) (D : va_G), lw_At p s m meth c b 5 xs → (∀ ads, zi_g b ads v1 (.int (xs 1))) → (∀ ads, zi_g b ads v2 (.int (xs 2))) → (∀ ads, zi_g b ads v3 (.int (xs 3))) → (∀ ads, zi_g b ads v4 (.int (xs 4))) →
  ∀ (H : Heap) (locs : List Loc) (cells slots : Nat) (ls : Array Slot) (sk : List Value), zi_R room_1 s 4 D (fun q => s.heap.size ≤ q) b [] (zs_k k) H locs cells slots ls sk → W p l e room_1 s m #[Value.ref b] below meth c H locs cells slots (lw_Z below #[Value.ref b] s) (F0 m 32 ls sk)
theorem zl_leaf {k : Nat} {v1 v2 v3 v4 : zi_V} (n : Nat) (h : zi_is1 (zi_run zi_mt n zt_L_law (some [zi_tp, v1, v2, v3, v4]) 10 32 (zs_k k)) = true) : zg k v1 v2 v3 v4 := by
  intro p e s m below meth c l b xs D C0 g1 g2 g3 g4 H locs cells slots ls sk hR
  refine zi_law_end (sc := [zi_tp, v1, v2, v3, v4]) l C0 (show 5 < 2147483648 by decide) ?_ h hR
  intro j v ads hj
  match j, hj with
  | 0, hj => cases hj; exact zi_tp_in _
  | 1, hj => cases hj; exact g1 ads
  | 2, hj => cases hj; exact g2 ads
  | 3, hj => cases hj; exact g3 ads
  | 4, hj => cases hj; exact g4 ads
  | j + 5, hj => simp at hj
theorem zs_cut {b : Nat} {x : Int32} {lo hi : Nat} (cc : Nat) (h : ∀ ads, zi_g b ads (.inl (lo, hi)) (.int x)) : (∀ ads, zi_g b ads (.inl (lo, cc)) (.int x)) ∨ (∀ ads, zi_g b ads (.inl (cc + 1, hi)) (.int x)) := by
  obtain ⟨i, hi', h1, h2⟩ := h []
  cases hi'
  rcases Nat.lt_or_ge cc (zi_o x) with q | q
  · exact Or.inr (fun _ => ⟨x, rfl, q, h2⟩)
  · exact Or.inl (fun _ => ⟨x, rfl, h1, q⟩)
theorem zs1 {k lo hi : Nat} {v2 v3 v4 : zi_V} (cc : Nat) (h1 : zg k (.inl (lo, cc)) v2 v3 v4) (h2 : zg k (.inl (cc + 1, hi)) v2 v3 v4) : zg k (.inl (lo, hi)) v2 v3 v4 := by
  intro p e s m below meth c l b xs D C0 g1 g2 g3 g4
  rcases zs_cut cc g1 with q | q
  · exact h1 p e s m below meth c l b xs D C0 q g2 g3 g4
  · exact h2 p e s m below meth c l b xs D C0 q g2 g3 g4
theorem zs2 {k lo hi : Nat} {v1 v3 v4 : zi_V} (cc : Nat) (h1 : zg k v1 (.inl (lo, cc)) v3 v4) (h2 : zg k v1 (.inl (cc + 1, hi)) v3 v4) : zg k v1 (.inl (lo, hi)) v3 v4 := by
  intro p e s m below meth c l b xs D C0 g1 g2 g3 g4
  rcases zs_cut cc g2 with q | q
  · exact h1 p e s m below meth c l b xs D C0 g1 q g3 g4
  · exact h2 p e s m below meth c l b xs D C0 g1 q g3 g4
theorem zs3 {k lo hi : Nat} {v1 v2 v4 : zi_V} (cc : Nat) (h1 : zg k v1 v2 (.inl (lo, cc)) v4) (h2 : zg k v1 v2 (.inl (cc + 1, hi)) v4) : zg k v1 v2 (.inl (lo, hi)) v4 := by
  intro p e s m below meth c l b xs D C0 g1 g2 g3 g4
  rcases zs_cut cc g3 with q | q
  · exact h1 p e s m below meth c l b xs D C0 g1 g2 q g4
  · exact h2 p e s m below meth c l b xs D C0 g1 g2 q g4
theorem zs4 {k lo hi : Nat} {v1 v2 v3 : zi_V} (cc : Nat) (h1 : zg k v1 v2 v3 (.inl (lo, cc))) (h2 : zg k v1 v2 v3 (.inl (cc + 1, hi))) : zg k v1 v2 v3 (.inl (lo, hi)) := by
  intro p e s m below meth c l b xs D C0 g1 g2 g3 g4
  rcases zs_cut cc g4 with q | q
  · exact h1 p e s m below meth c l b xs D C0 g1 g2 g3 q
  · exact h2 p e s m below meth c l b xs D C0 g1 g2 g3 q
abbrev zi_d3 (a b c : Nat × Nat) : zi_V := .inr (.inr (.inr (.inr [a, b, c])))
/-- a year's number by its three digits, each 0 or not -/
theorem zs_dig {k : Nat} {v2 v3 v4 : zi_V} (h0 : zg k (zi_d3 (0, 0) (0, 0) (0, 0)) v2 v3 v4) (h1 : zg k (zi_d3 (0, 0) (0, 0) (1, 25)) v2 v3 v4) (h2 : zg k (zi_d3 (0, 0) (1, 25) (0, 0)) v2 v3 v4) (h3 : zg k (zi_d3 (0, 0) (1, 25) (1, 25)) v2 v3 v4) (h4 : zg k (zi_d3 (1, 25) (0, 0) (0, 0)) v2 v3 v4) (h5 : zg k (zi_d3 (1, 25) (0, 0) (1, 25)) v2 v3 v4) (h6 : zg k (zi_d3 (1, 25) (1, 25) (0, 0)) v2 v3 v4) (h7 : zg k (zi_d3 (1, 25) (1, 25) (1, 25)) v2 v3 v4) : zg k (.inl (2147483647 + 1, 2147501223)) v2 v3 v4 := by
  intro p e s m below meth c l b xs D C0 g1 g2 g3 g4
  obtain ⟨x, hx, q1, q2⟩ := g1 []
  cases hx
  obtain ⟨n, hn⟩ : ∃ n : Nat, n = zi_o (xs 1) - 2147483648 := ⟨_, rfl⟩
  have hlo : 2147483648 ≤ zi_o (xs 1) := q1
  have hhi : zi_o (xs 1) ≤ 2147501223 := q2
  have key : ∀ (a b' c' : Nat × Nat), a.1 ≤ n % 26 → n % 26 ≤ a.2 → b'.1 ≤ n / 26 % 26 → n / 26 % 26 ≤ b'.2 → c'.1 ≤ n / 26 / 26 % 26 → n / 26 / 26 % 26 ≤ c'.2 → ∀ ads, zi_g b ads (zi_d3 a b' c') (.int (xs 1)) := by
    intro a b' c' a1 a2 b1 b2 c1 c2 ads
    refine ⟨xs 1, rfl, hlo, ?_⟩
    rw [← hn]
    exact ⟨a1, a2, b1, b2, c1, c2, show n / 26 / 26 / 26 = 0 by omega⟩
  by_cases ha : n % 26 = 0
  · by_cases hb : n / 26 % 26 = 0
    · by_cases hc : n / 26 / 26 % 26 = 0
      · exact h0 p e s m below meth c l b xs D C0 (key _ _ _ (by omega) (by omega) (by omega) (by omega) (by omega) (by omega)) g2 g3 g4
      · exact h1 p e s m below meth c l b xs D C0 (key _ _ _ (by omega) (by omega) (by omega) (by omega) (by omega) (by omega)) g2 g3 g4
    · by_cases hc : n / 26 / 26 % 26 = 0
      · exact h2 p e s m below meth c l b xs D C0 (key _ _ _ (by omega) (by omega) (by omega) (by omega) (by omega) (by omega)) g2 g3 g4
      · exact h3 p e s m below meth c l b xs D C0 (key _ _ _ (by omega) (by omega) (by omega) (by omega) (by omega) (by omega)) g2 g3 g4
  · by_cases hb : n / 26 % 26 = 0
    · by_cases hc : n / 26 / 26 % 26 = 0
      · exact h4 p e s m below meth c l b xs D C0 (key _ _ _ (by omega) (by omega) (by omega) (by omega) (by omega) (by omega)) g2 g3 g4
      · exact h5 p e s m below meth c l b xs D C0 (key _ _ _ (by omega) (by omega) (by omega) (by omega) (by omega) (by omega)) g2 g3 g4
    · by_cases hc : n / 26 / 26 % 26 = 0
      · exact h6 p e s m below meth c l b xs D C0 (key _ _ _ (by omega) (by omega) (by omega) (by omega) (by omega) (by omega)) g2 g3 g4
      · exact h7 p e s m below meth c l b xs D C0 (key _ _ _ (by omega) (by omega) (by omega) (by omega) (by omega) (by omega)) g2 g3 g4
