/-! THE WALK BY PROGRAM: an interpreter over intervals, run in the kernel; part 03 and on show that what it says holds of the machine -/
/-- an interval of ints, each by its number and 2^31 (of longs: and 2^63) -/
abbrev zi_I : Type := Nat × Nat
/-- a value: int | long | reference to a cell of the world, or null | the script | int by digits (base 26, lowest first) -/
abbrev zi_V : Type := zi_I ⊕ (zi_I ⊕ (Option Nat ⊕ (Unit ⊕ List zi_I)))
/-- a cell: row of a type | object of a class -/
abbrev zi_C : Type := (FieldType × List zi_I) ⊕ (Nat × List zi_V)
abbrev zi_L : Type := List (Nat × zi_V)
/-- how many cells there are; the cells, eight a row -/
abbrev zi_W : Type := Nat × List (List (Option zi_C))
/-- locals, stack, world, cells and slots that may still be made -/
abbrev zi_S : Type := zi_L × List zi_V × zi_W × Nat × Nat
/-- calls, and the script -/
abbrev zi_E : Type := (Nat → List zi_V → zi_W → Option (Option zi_V × zi_W)) × Option (List zi_V)
abbrev zi_F : Type := zi_E → zi_S → Option (Nat × zi_S)
/-- a method's table, sixteen places a row: nothing | the walk stops here | a step -/
abbrev zi_T : Type := List (List (Option (Option zi_F)))
abbrev zi_M : Type := MethodName × ByteArray × Nat × Option FieldType × zi_T × Nat × Nat
noncomputable section
def zi_nth {α : Type} (l : List α) : Nat → Option α := List.rec (motive := fun _ => Nat → Option α) (fun _ => none) (fun a _ ih k => Nat.casesOn (motive := fun _ => Option α) k (some a) ih) l
def zi_up {α : Type} (f : α → α) (l : List α) : Nat → List α := List.rec (motive := fun _ => Nat → List α) (fun _ => []) (fun a t ih k => Nat.casesOn (motive := fun _ => List α) k (f a :: t) (fun k => a :: ih k)) l
/-- cells by their numbers -/
def zi_wg (w : zi_W) (q : Nat) : Option zi_C := match zi_nth w.2 (q / 8) with
  | none => none
  | some r => match zi_nth r (q % 8) with
    | none => none
    | some c => c
def zi_ws (w : zi_W) (q : Nat) (c : zi_C) : zi_W := (w.1, zi_up (fun r => zi_up (fun _ => some c) r (q % 8)) w.2 (q / 8))
def zi_wp (w : zi_W) (c : zi_C) : zi_W := (w.1 + 1, zi_up (fun r => zi_up (fun _ => some c) r (w.1 % 8)) w.2 (w.1 / 8))
def zi_Z : Nat := 2147483648
def zi_ZL : Nat := 9223372036854775808
def zi_o (x : Int32) : Nat := (x.toInt + 2147483648).toNat
def zi_ol (x : Int64) : Nat := (x.toInt + 9223372036854775808).toNat
def zi_u (n : Nat) : Int32 := Int32.ofInt ((n : Int) - 2147483648)
def zi_ul (n : Nat) : Int64 := Int64.ofInt ((n : Int) - 9223372036854775808)
def zi_top : zi_I := (0, 4294967295)
def zi_topl : zi_I := (0, 18446744073709551615)
def zi_cat : zi_V → Nat
  | .inr (.inl _) => 2
  | _ => 1
def zi_dlo : List zi_I → Nat
  | [] => 0
  | r :: t => r.1 + 26 * zi_dlo t
def zi_dhi : List zi_I → Nat
  | [] => 0
  | r :: t => r.2 + 26 * zi_dhi t
/-- the interval of an int -/
def zi_iv : zi_V → Option zi_I
  | .inl r => some r
  | .inr (.inr (.inr (.inr ds))) => some (2147483648 + zi_dlo ds, 2147483648 + zi_dhi ds)
  | _ => none
def zi_lv : zi_V → Option zi_I
  | .inr (.inl r) => some r
  | _ => none
def zi_lk (t : zi_T) (pc : Nat) : Option (Option zi_F) := match zi_nth t (pc / 16) with
  | none => none
  | some r => match zi_nth r (pc % 16) with
    | none => none
    | some q => q
def zi_get (l : zi_L) (i : Nat) : Option zi_V := List.rec (motive := fun _ => Option zi_V) none (fun q _ ih => bif Nat.beq q.1 i then some q.2 else ih) l
def zi_fil (f : Nat × zi_V → Bool) (l : zi_L) : zi_L := List.rec (motive := fun _ => zi_L) [] (fun q _ ih => bif f q then q :: ih else ih) l
def zi_st1 (l : zi_L) (i : Nat) (v : zi_V) : zi_L := (i, v) :: zi_fil (fun q => not (Nat.beq q.1 i) && not (Nat.beq (q.1 + 1) i && Nat.beq (zi_cat q.2) 2)) l
def zi_st2 (l : zi_L) (i : Nat) (v : zi_V) : zi_L := (i, v) :: zi_fil (fun q => not (Nat.beq q.1 i) && (not (Nat.beq q.1 (i + 1)) && not (Nat.beq (q.1 + 1) i && Nat.beq (zi_cat q.2) 2))) l
def zi_args : Nat → List zi_V → zi_L
  | _, [] => []
  | i, v :: t => (i, v) :: zi_args (i + zi_cat v) t
def zi_wt : List zi_V → Nat
  | [] => 0
  | v :: t => zi_cat v + zi_wt t
/-- n values off the stack, the topmost last -/
def zi_pop : Nat → List zi_V → List zi_V → Option (List zi_V × List zi_V)
  | 0, st, acc => some (acc, st)
  | n + 1, v :: st, acc => zi_pop n st (v :: acc)
  | _ + 1, [], _ => none
-- numbers
def zi_one (x : zi_I) : Bool := Nat.beq x.1 x.2
def zi_sg (g : Int32 → Int32 → Int32) (x y : zi_I) : zi_I := bif zi_one x && zi_one y then (zi_o (g (zi_u x.1) (zi_u y.1)), zi_o (g (zi_u x.1) (zi_u y.1))) else zi_top
def zi_sgl (g : Int64 → Int64 → Int64) (x y : zi_I) : zi_I := bif zi_one x && zi_one y then (zi_ol (g (zi_ul x.1) (zi_ul y.1)), zi_ol (g (zi_ul x.1) (zi_ul y.1))) else zi_topl
def zi_add (x y : zi_I) : zi_I := bif Nat.ble 2147483648 (x.1 + y.1) && Nat.ble (x.2 + y.2) 6442450943 then (x.1 + y.1 - 2147483648, x.2 + y.2 - 2147483648) else zi_sg (· + ·) x y
def zi_sub (x y : zi_I) : zi_I := bif Nat.ble y.2 (x.1 + 2147483648) && Nat.ble (x.2 + 2147483648) (y.1 + 4294967295) then (x.1 + 2147483648 - y.2, x.2 + 2147483648 - y.1) else zi_sg (· - ·) x y
def zi_mul (x y : zi_I) : zi_I := bif Nat.ble 2147483648 x.1 && (Nat.ble 2147483648 y.1 && Nat.ble ((x.2 - 2147483648) * (y.2 - 2147483648)) 2147483647) then ((x.1 - 2147483648) * (y.1 - 2147483648) + 2147483648, (x.2 - 2147483648) * (y.2 - 2147483648) + 2147483648) else zi_sg (· * ·) x y
def zi_and (x y : zi_I) : zi_I := bif zi_one y && Nat.ble 2147483648 y.1 then (bif zi_one x && Nat.ble 2147483648 x.1 then (Nat.land (x.1 - 2147483648) (y.1 - 2147483648) + 2147483648, Nat.land (x.1 - 2147483648) (y.1 - 2147483648) + 2147483648) else (2147483648, y.1)) else zi_sg (· &&& ·) x y
def zi_or (x y : zi_I) : zi_I := bif zi_one y && Nat.ble 2147483648 y.1 && zi_one x && Nat.ble 2147483648 x.1 then (Nat.lor (x.1 - 2147483648) (y.1 - 2147483648) + 2147483648, Nat.lor (x.1 - 2147483648) (y.1 - 2147483648) + 2147483648) else zi_sg (· ||| ·) x y
def zi_xor (x y : zi_I) : zi_I := zi_sg (· ^^^ ·) x y
def zi_shl (x y : zi_I) : zi_I := bif zi_one y && Nat.ble 2147483648 y.1 && Nat.ble y.1 2147483679 && zi_one x && Nat.ble 2147483648 x.1 && Nat.ble (Nat.shiftLeft (x.1 - 2147483648) (y.1 - 2147483648)) 2147483647 then (Nat.shiftLeft (x.1 - 2147483648) (y.1 - 2147483648) + 2147483648, Nat.shiftLeft (x.1 - 2147483648) (y.1 - 2147483648) + 2147483648) else zi_sg (fun a b => a <<< (b &&& 31)) x y
/-- to the right: of 0 it is 0 -/
def zi_shr (x y : zi_I) : zi_I := bif Nat.beq x.1 2147483648 && Nat.beq x.2 2147483648 then x else bif zi_one y && Nat.ble 2147483648 y.1 && Nat.ble y.1 2147483679 && zi_one x && Nat.ble 2147483648 x.1 then (Nat.shiftRight (x.1 - 2147483648) (y.1 - 2147483648) + 2147483648, Nat.shiftRight (x.1 - 2147483648) (y.1 - 2147483648) + 2147483648) else zi_sg (fun a b => a >>> (b &&& 31)) x y
def zi_ushr (x y : zi_I) : zi_I := zi_sg (fun a b => (a.toUInt32 >>> (b.toUInt32 &&& Int32.toUInt32 31)).toInt32) x y
def zi_dig : zi_V → Option (List zi_I)
  | .inr (.inr (.inr (.inr ds))) => some ds
  | _ => none
def zi_divi (x y : zi_I) : zi_I := bif zi_one y && Nat.ble 2147483649 y.1 && Nat.ble 2147483648 x.1 then ((x.1 - 2147483648) / (y.1 - 2147483648) + 2147483648, (x.2 - 2147483648) / (y.1 - 2147483648) + 2147483648) else zi_sg (· / ·) x y
def zi_remi (x y : zi_I) : zi_I := bif zi_one y && Nat.ble 2147483649 y.1 && Nat.ble 2147483648 x.1 && Nat.beq ((x.1 - 2147483648) / (y.1 - 2147483648)) ((x.2 - 2147483648) / (y.1 - 2147483648)) then ((x.1 - 2147483648) % (y.1 - 2147483648) + 2147483648, (x.2 - 2147483648) % (y.1 - 2147483648) + 2147483648) else zi_sg (fun a b => a - a / b * b) x y
def zi_n0 (y : zi_I) : Bool := Nat.ble 2147483649 y.1 || Nat.ble y.2 2147483647
def zi_div (a : zi_V) (x y : zi_I) : zi_V := match zi_dig a with
  | some ds => bif zi_one y && Nat.beq y.1 2147483674 then .inr (.inr (.inr (.inr ds.tail))) else bif zi_one y && Nat.beq y.1 2147484324 then .inr (.inr (.inr (.inr ds.tail.tail))) else .inl (zi_divi x y)
  | none => .inl (zi_divi x y)
def zi_rem (a : zi_V) (x y : zi_I) : zi_V := match zi_dig a with
  | some (r :: _) => bif zi_one y && Nat.beq y.1 2147483674 then .inl (2147483648 + r.1, 2147483648 + r.2) else .inl (zi_remi x y)
  | _ => .inl (zi_remi x y)
-- tests: nothing where the intervals don't tell
def zi_lt (x y : zi_I) : Option Bool := bif Nat.blt x.2 y.1 then some true else bif Nat.ble y.2 x.1 then some false else none
def zi_le (x y : zi_I) : Option Bool := bif Nat.ble x.2 y.1 then some true else bif Nat.blt y.2 x.1 then some false else none
def zi_eq (x y : zi_I) : Option Bool := bif zi_one x && (zi_one y && Nat.beq x.1 y.1) then some true else bif Nat.blt x.2 y.1 || Nat.blt y.2 x.1 then some false else none
def zi_not : Option Bool → Option Bool
  | some b => some (!b)
  | none => none
def zi_cmpl (x y : zi_I) : zi_I := bif Nat.blt x.2 y.1 then (2147483647, 2147483647) else bif Nat.blt y.2 x.1 then (2147483649, 2147483649) else bif zi_one x && (zi_one y && Nat.beq x.1 y.1) then (2147483648, 2147483648) else bif Nat.ble y.2 x.1 then (2147483648, 2147483649) else bif Nat.ble x.2 y.1 then (2147483647, 2147483648) else (2147483647, 2147483649)
-- the steps
def zi_push (v : zi_V) (nx : Nat) : zi_F := fun _ s => match s with
  | (lc, sk, r) => some (nx, (lc, v :: sk, r))
/-- of which kind a value is: int, long, reference -/
def zi_kd : zi_V → Nat
  | .inl _ => 0
  | .inr (.inl _) => 1
  | .inr (.inr (.inl _)) => 2
  | .inr (.inr (.inr (.inl _))) => 2
  | .inr (.inr (.inr (.inr _))) => 0
def zi_load (kd i nx : Nat) : zi_F := fun _ s => match s with
  | (lc, sk, r) => match zi_get lc i with
    | some v => bif Nat.beq (zi_kd v) kd then some (nx, (lc, v :: sk, r)) else none
    | none => none
def zi_store (kd i nx : Nat) : zi_F := fun _ s => match s with
  | (lc, v :: sk, r) => bif Nat.beq (zi_kd v) kd then some (nx, (zi_st1 lc i v, sk, r)) else none
  | _ => none
def zi_storel (i nx : Nat) : zi_F := fun _ s => match s with
  | (lc, v :: sk, r) => bif Nat.beq (zi_kd v) 1 then some (nx, (zi_st2 lc i v, sk, r)) else none
  | _ => none
def zi_inc (i : Nat) (k : zi_I) (nx : Nat) : zi_F := fun _ s => match s with
  | (lc, sk, r) => match zi_get lc i with
    | some v => match zi_iv v with
      | some x => some (nx, (zi_st1 lc i (.inl (zi_add x k)), sk, r))
      | none => none
    | none => none
def zi_bin (f : zi_I → zi_I → zi_I) (nx : Nat) : zi_F := fun _ s => match s with
  | (lc, b :: a :: sk, r) => match zi_iv a with
    | some x => match zi_iv b with
      | some y => some (nx, (lc, .inl (f x y) :: sk, r))
      | none => none
    | none => none
  | _ => none
/-- division and rest: not by 0 -/
def zi_dv (f : zi_V → zi_I → zi_I → zi_V) (nx : Nat) : zi_F := fun _ s => match s with
  | (lc, b :: a :: sk, r) => match zi_iv a with
    | some x => match zi_iv b with
      | some y => bif zi_n0 y then some (nx, (lc, f a x y :: sk, r)) else none
      | none => none
    | none => none
  | _ => none
def zi_binl (f : zi_I → zi_I → zi_I) (nx : Nat) : zi_F := fun _ s => match s with
  | (lc, b :: a :: sk, r) => match zi_lv a with
    | some x => match zi_lv b with
      | some y => some (nx, (lc, .inr (.inl (f x y)) :: sk, r))
      | none => none
    | none => none
  | _ => none
/-- a long's shift -/
def zi_shfl (f : zi_I → zi_I → zi_I) (nx : Nat) : zi_F := fun _ s => match s with
  | (lc, b :: a :: sk, r) => match zi_lv a with
    | some x => match zi_iv b with
      | some y => some (nx, (lc, .inr (.inl (f x y)) :: sk, r))
      | none => none
    | none => none
  | _ => none
def zi_lcmp (nx : Nat) : zi_F := fun _ s => match s with
  | (lc, b :: a :: sk, r) => match zi_lv a with
    | some x => match zi_lv b with
      | some y => some (nx, (lc, .inl (zi_cmpl x y) :: sk, r))
      | none => none
    | none => none
  | _ => none
def zi_i2l (nx : Nat) : zi_F := fun _ s => match s with
  | (lc, a :: sk, r) => match zi_iv a with
    | some x => some (nx, (lc, .inr (.inl (x.1 + 9223372034707292160, x.2 + 9223372034707292160)) :: sk, r))
    | none => none
  | _ => none
def zi_l2if (x : zi_I) : zi_I := bif zi_one x then (zi_o (zi_ul x.1).toInt32, zi_o (zi_ul x.1).toInt32) else zi_top
def zi_l2i (nx : Nat) : zi_F := fun _ s => match s with
  | (lc, a :: sk, r) => match zi_lv a with
    | some x => some (nx, (lc, .inl (zi_l2if x) :: sk, r))
    | none => none
  | _ => none
def zi_i2bf (x : zi_I) : zi_I := bif zi_one x then (zi_o (zi_u x.1).toInt8.toInt32, zi_o (zi_u x.1).toInt8.toInt32) else (2147483520, 2147483775)
def zi_i2sf (x : zi_I) : zi_I := bif zi_one x then (zi_o (zi_u x.1).toInt16.toInt32, zi_o (zi_u x.1).toInt16.toInt32) else (2147450880, 2147516415)
def zi_un (f : zi_I → zi_I) (nx : Nat) : zi_F := fun _ s => match s with
  | (lc, a :: sk, r) => match zi_iv a with
    | some x => some (nx, (lc, .inl (f x) :: sk, r))
    | none => none
  | _ => none
def zi_if (t : zi_I → zi_I → Option Bool) (tg nx : Nat) : zi_F := fun _ s => match s with
  | (lc, a :: sk, r) => match zi_iv a with
    | some x => match t x (2147483648, 2147483648) with
      | some b => some (bif b then tg else nx, (lc, sk, r))
      | none => none
    | none => none
  | _ => none
def zi_ic (t : zi_I → zi_I → Option Bool) (tg nx : Nat) : zi_F := fun _ s => match s with
  | (lc, b :: a :: sk, r) => match zi_iv a with
    | some x => match zi_iv b with
      | some y => match t x y with
        | some b => some (bif b then tg else nx, (lc, sk, r))
        | none => none
      | none => none
    | none => none
  | _ => none
def zi_go (tg : Nat) : zi_F := fun _ s => some (tg, s)
def zi_null (tn tr : Nat) : zi_F := fun _ s => match s with
  | (lc, .inr (.inr (.inl none)) :: sk, r) => some (tn, (lc, sk, r))
  | (lc, .inr (.inr (.inl (some _))) :: sk, r) => some (tr, (lc, sk, r))
  | _ => none
/-- lo: the lowest case and 2^31 -/
def zi_tsw (lo hi : Nat) (ts : List Nat) (df : Nat) : zi_F := fun _ s => match s with
  | (lc, a :: sk, r) => match zi_iv a with
    | some x => bif Nat.blt x.2 lo || Nat.blt hi x.1 then some (df, (lc, sk, r)) else bif zi_one x && (Nat.ble lo x.1 && Nat.ble x.1 hi) then (match zi_nth ts (x.1 - lo) with
        | some t => some (t, (lc, sk, r))
        | none => none) else none
    | none => none
  | _ => none
def zi_dup (nx : Nat) : zi_F := fun _ s => match s with
  | (lc, a :: sk, r) => bif Nat.beq (zi_cat a) 1 then some (nx, (lc, a :: a :: sk, r)) else none
  | _ => none
def zi_dup2 (nx : Nat) : zi_F := fun _ s => match s with
  | (lc, a :: b :: sk, r) => bif Nat.beq (zi_cat a) 1 && Nat.beq (zi_cat b) 1 then some (nx, (lc, a :: b :: a :: b :: sk, r)) else none
  | _ => none
def zi_popp (nx : Nat) : zi_F := fun _ s => match s with
  | (lc, a :: sk, r) => bif Nat.beq (zi_cat a) 1 then some (nx, (lc, sk, r)) else none
  | _ => none
def zi_getf (ci k nx : Nat) : zi_F := fun _ s => match s with
  | (lc, .inr (.inr (.inl (some q))) :: sk, w, r) => match zi_wg w q with
    | some (.inr (c, vs)) => bif Nat.beq c ci then (match zi_nth vs k with
        | some v => some (nx, (lc, v :: sk, w, r))
        | none => none) else none
    | _ => none
  | _ => none
/-- may the value lie in a field of that type -/
def zi_fit (ty : FieldType) (v : zi_V) : Bool := match ty, v with
  | .int, .inl _ => true
  | .boolean, .inl r => Nat.ble 2147483648 r.1 && Nat.ble r.2 2147483649
  | .object _, .inr (.inr (.inl _)) => true
  | .array _, .inr (.inr (.inl _)) => true
  | _, _ => false
def zi_putf (ci k : Nat) (ty : FieldType) (nx : Nat) : zi_F := fun _ s => match s with
  | (lc, v :: .inr (.inr (.inl (some q))) :: sk, w, r) => match zi_wg w q with
    | some (.inr (c, vs)) => bif Nat.beq c ci && (zi_fit ty v && Nat.blt k vs.length) then some (nx, (lc, sk, zi_ws w q (.inr (c, zi_up (fun _ => v) vs k)), r)) else none
    | _ => none
  | _ => none
def zi_ald (ty : FieldType) (nx : Nat) : zi_F := fun _ s => match s with
  | (lc, i :: .inr (.inr (.inl (some q))) :: sk, w, r) => match zi_iv i with
    | some x => match zi_wg w q with
      | some (.inl (t, l)) => bif zi_one x && (Nat.ble 2147483648 x.1 && decide (t = ty)) then (match zi_nth l (x.1 - 2147483648) with
          | some v => some (nx, (lc, .inl v :: sk, w, r))
          | none => none) else none
      | _ => none
    | none => none
  | _ => none
def zi_afit (ty : FieldType) (r : zi_I) : Bool := match ty with
  | .int => true
  | .boolean => Nat.ble 2147483648 r.1 && Nat.ble r.2 2147483649
  | .byte => Nat.ble 2147483520 r.1 && Nat.ble r.2 2147483775
  | _ => false
def zi_ast (ty : FieldType) (nx : Nat) : zi_F := fun _ s => match s with
  | (lc, v :: i :: .inr (.inr (.inl (some q))) :: sk, w, r) => match zi_iv v with
    | some y => match zi_iv i with
      | some x => match zi_wg w q with
        | some (.inl (t, l)) => bif zi_one x && (Nat.ble 2147483648 x.1 && (decide (t = ty) && (zi_afit ty y && Nat.blt (x.1 - 2147483648) l.length))) then some (nx, (lc, sk, zi_ws w q (.inl (t, zi_up (fun _ => y) l (x.1 - 2147483648))), r)) else none
        | _ => none
      | none => none
    | none => none
  | _ => none
/-- a cell of the script -/
def zi_sld (nx : Nat) : zi_F := fun E s => match s with
  | (lc, i :: .inr (.inr (.inr (.inl _))) :: sk, r) => match zi_iv i with
    | some x => match E.2 with
      | some l => bif zi_one x && Nat.ble 2147483648 x.1 then (match zi_nth l (x.1 - 2147483648) with
          | some v => some (nx, (lc, v :: sk, r))
          | none => none) else none
      | none => none
    | none => none
  | _ => none
def zi_slen (nx : Nat) : zi_F := fun E s => match s with
  | (lc, .inr (.inr (.inr (.inl _))) :: sk, r) => match E.2 with
    | some l => some (nx, (lc, .inl (l.length + 2147483648, l.length + 2147483648) :: sk, r))
    | none => none
  | _ => none
def zi_alen (nx : Nat) : zi_F := fun _ s => match s with
  | (lc, .inr (.inr (.inl (some q))) :: sk, w, r) => match zi_wg w q with
    | some (.inl (_, l)) => bif Nat.ble l.length 2147483647 then some (nx, (lc, .inl (l.length + 2147483648, l.length + 2147483648) :: sk, w, r)) else none
    | _ => none
  | _ => none
def zi_newa (ty : FieldType) (nx : Nat) : zi_F := fun _ s => match s with
  | (lc, n :: sk, w, rc, rs) => match zi_iv n with
    | some x => bif zi_one x && (Nat.ble 2147483648 x.1 && (Nat.ble x.1 2147493648 && (Nat.ble 1 rc && Nat.ble (x.1 - 2147483648) rs))) then some (nx, (lc, .inr (.inr (.inl (some w.1))) :: sk, zi_wp w (.inl (ty, List.replicate (x.1 - 2147483648) (2147483648, 2147483648))), rc - 1, rs - (x.1 - 2147483648))) else none
    | none => none
  | _ => none
def zi_new (ci N : Nat) (vs : List zi_V) (nx : Nat) : zi_F := fun _ s => match s with
  | (lc, sk, w, rc, rs) => bif Nat.ble 1 rc && Nat.ble N rs then some (nx, (lc, .inr (.inr (.inl (some w.1))) :: sk, zi_wp w (.inr (ci, vs)), rc - 1, rs - N)) else none
/-- Object's own constructor -/
def zi_obj (nx : Nat) : zi_F := fun _ s => match s with
  | (lc, .inr (.inr (.inl (some _))) :: sk, r) => bif Nat.ble (zi_wt sk) 20 then some (nx, (lc, sk, r)) else none
  | _ => none
/-- a call: which method, how many values it takes, its class's number (of a static one: none), its cells and slots -/
def zi_inv (j n : Nat) (ci : Option Nat) (mc ms nx : Nat) : zi_F := fun E s => match s with
  | (lc, sk, w, rc, rs) => match zi_pop n sk [] with
    | some (as, rest) => bif Nat.ble (zi_wt rest) 20 && (Nat.ble mc rc && Nat.ble ms rs) then
        (bif (match ci with
            | none => true
            | some c => match as with
              | .inr (.inr (.inl (some q))) :: _ => (match zi_wg w q with
                | some (.inr (c', _)) => Nat.beq c' c
                | _ => false)
              | _ => false) then
          (match E.1 j as w with
            | some (v, w') => some (nx, (lc, v.toList ++ rest, w', rc - mc, rs - ms))
            | none => none) else none) else none
    | none => none
def zi_cpyl : List zi_I → List zi_I → Nat → Nat → Nat → List zi_I
  | a, b, sp, dp, n => b.take dp ++ (a.drop sp).take n ++ b.drop (dp + n)
def zi_copy (nx : Nat) : zi_F := fun _ s => match s with
  | (lc, n :: dp :: .inr (.inr (.inl (some q1))) :: sp :: .inr (.inr (.inl (some q0))) :: sk, w, r) => match zi_iv n with
    | some xn => match zi_iv dp with
      | some xd => match zi_iv sp with
        | some xs => match zi_wg w q0 with
          | some (.inl (.int, a)) => match zi_wg w q1 with
            | some (.inl (.int, b)) => bif zi_one xn && (zi_one xd && (zi_one xs && (Nat.ble 2147483648 xn.1 && (Nat.ble 2147483648 xd.1 && (Nat.ble 2147483648 xs.1 && (Nat.ble (xs.1 - 2147483648 + (xn.1 - 2147483648)) a.length && (Nat.ble (xd.1 - 2147483648 + (xn.1 - 2147483648)) b.length && Nat.ble (zi_wt sk) 20))))))) then some (nx, (lc, sk, zi_ws w q1 (.inl (.int, zi_cpyl a b (xs.1 - 2147483648) (xd.1 - 2147483648) (xn.1 - 2147483648))), r)) else none
            | _ => none
          | _ => none
        | none => none
      | none => none
    | none => none
  | _ => none
/-- what a method answers, by its type -/
def zi_fin (ret : Option FieldType) (sk : List zi_V) : Option (Option zi_V) := match ret, sk with
  | none, [] => some none
  | some .int, [v] => (match zi_iv v with
    | some r => some (some (.inl r))
    | none => none)
  | some .boolean, [.inl r] => bif Nat.ble 2147483648 r.1 && Nat.ble r.2 2147483649 then some (some (.inl r)) else none
  | some .long, [.inr (.inl r)] => some (some (.inr (.inl r)))
  | some (.object _), [.inr (.inr (.inl q))] => some (some (.inr (.inr (.inl q))))
  | _, _ => none
/-- one behind another -/
def zi_seq (f : zi_F) (pc2 : Nat) (g : zi_F) : zi_F := fun E s => match f E s with
  | none => none
  | some r => bif Nat.beq r.1 pc2 then g E r.2 else none
abbrev zi_RT : Type := zi_T → Option (List zi_V) → Nat → Nat → zi_S → Option (Nat × zi_S)
def zi_cal (mt : Nat → Option zi_M) (run : zi_RT) (d j : Nat) (as : List zi_V) (w : zi_W) : Option (Option zi_V × zi_W) := match d with
  | 0 => none
  | d' + 1 => match mt j with
    | none => none
    | some (_, _, mL, ret, t', mc, ms) => bif Nat.ble (zi_wt as) mL then (match run t' none d' 0 (zi_args 0 as, [], w, mc, ms) with
      | none => none
      | some (_, _, sk, w', _) => match zi_fin ret sk with
        | none => none
        | some v => some (v, w')) else none
def zi_stp (mt : Nat → Option zi_M) (run : zi_RT) (t : zi_T) (sc : Option (List zi_V)) (d pc : Nat) (s : zi_S) : Option (Nat × zi_S) := match zi_lk t pc with
  | none => none
  | some none => some (pc, s)
  | some (some f) => match f (zi_cal mt run d, sc) s with
    | none => none
    | some (pc', s') => run t sc d pc' s'
/-- n blocks at most, d calls one in another -/
def zi_run (mt : Nat → Option zi_M) (n : Nat) : zi_RT := Nat.rec (motive := fun _ => zi_RT) (fun _ _ _ _ _ => none) (fun _ ih => zi_stp mt ih) n
def zi_ne (x y : zi_I) : Option Bool := zi_not (zi_eq x y)
def zi_ge (x y : zi_I) : Option Bool := zi_not (zi_lt x y)
def zi_gt (x y : zi_I) : Option Bool := zi_not (zi_le x y)
def zi_ladd (x y : zi_I) : zi_I := zi_sgl (· + ·) x y
def zi_land (x y : zi_I) : zi_I := zi_sgl (· &&& ·) x y
def zi_lor (x y : zi_I) : zi_I := zi_sgl (· ||| ·) x y
def zi_ldiv (x y : zi_I) : zi_I := zi_sgl (· / ·) x y
def zi_lrem (x y : zi_I) : zi_I := zi_sgl (fun a b => a - a / b * b) x y
def zi_sgs (g : Int64 → Int32 → Int64) (x y : zi_I) : zi_I := bif zi_one x && zi_one y then (zi_ol (g (zi_ul x.1) (zi_u y.1)), zi_ol (g (zi_ul x.1) (zi_u y.1))) else zi_topl
def zi_lshl (x y : zi_I) : zi_I := zi_sgs (fun a b => a <<< (b.toInt64 &&& 63)) x y
def zi_lshr (x y : zi_I) : zi_I := zi_sgs (fun a b => a >>> (b.toInt64 &&& 63)) x y
def zi_n0l (y : zi_I) : Bool := Nat.ble 9223372036854775809 y.1 || Nat.ble y.2 9223372036854775807
def zi_dvl (f : zi_I → zi_I → zi_I) (nx : Nat) : zi_F := fun _ s => match s with
  | (lc, b :: a :: sk, r) => match zi_lv a with
    | some x => match zi_lv b with
      | some y => bif zi_n0l y then some (nx, (lc, .inr (.inl (f x y)) :: sk, r)) else none
      | none => none
    | none => none
  | _ => none
end
